/-! what ties the two sides: texts 0..6 (trusted), 7 (the draft), 8 (the content): n t bytes b t; h r: trusted; clock, visits, installs -/
def low8 (x : Int32) : Nat := x.toBitVec.toNat % 256
theorem low8_and (x : Int32) : x &&& 255 = nI (low8 x) := pk_and x 8 (by decide)
theorem low8_lt (x : Int32) : low8 x < 256 := Nat.mod_lt _ (by decide)
def CInv (M : Me) (n : Nat → Nat) (b : Nat → Nat → Nat) (h : Nat → Bool) (ck vs is : Int32) : Prop :=
  RW M 63 (n 7) (b 7) ∧ RW M 65 (n 8) (b 8) ∧ (∃ nn bb, RW M 67 nn bb) ∧ (∀ r, r < 7 → M (7 * r) 8 = (if h r = true then 1 else 0) ∧ (h r = true → Rd M (7 * r) (n r) (b r))) ∧ M 69 2 = ck ∧ M 72 5 = vs ∧ M 72 6 = is
def MInv (M : Me) (n : Nat → Nat) (b : Nat → Nat → Nat) (h : Nat → Bool) (ck vs is : Int32) : Prop :=
  (∀ t, t < 9 → RM M t (n t) (b t)) ∧ (∀ r, r < 7 → M 76 r = (if h r = true then 1 else 0)) ∧ M 73 4 = ck ∧ M 73 5 = vs ∧ M 73 6 = is
def WF (n : Nat → Nat) (b : Nat → Nat → Nat) (h : Nat → Bool) : Prop := ∀ r, r < 7 → h r = true → pDoc (b r) (n r) = some (n r) ∧ b r 0 = r
def KC (M M' : Me) : Prop := ∀ a, 73 ≤ a → M' a = M a
def KM (M M' : Me) : Prop := ∀ a, a < 73 → M' a = M a
theorem KC.rf {M : Me} : KC M M := fun _ _ => rfl
theorem KM.rf {M : Me} : KM M M := fun _ _ => rfl
theorem KC.tr {M M1 M2 : Me} (h : KC M M1) (g : KC M1 M2) : KC M M2 := fun a c => (g a c).trans (h a c)
theorem KM.tr {M M1 M2 : Me} (h : KM M M1) (g : KM M1 M2) : KM M M2 := fun a c => (g a c).trans (h a c)
theorem RW.keep {M M' : Me} {k n : Nat} {b : Nat → Nat} (h : RW M k n b) (h1 : M' k = M k) (h2 : M' (k + 1) = M (k + 1)) : RW M' k n b := by
  obtain ⟨r1, r2, r3, r4⟩ := h
  exact ⟨by rw [h1]; exact r1, r2, r3, fun i hi => by rw [h2]; exact r4 i hi⟩
theorem Rd.keep {M M' : Me} {k n : Nat} {b : Nat → Nat} (h : Rd M k n b) (h1 : ∀ a, k ≤ a → a < k + 7 → M' a = M a) : Rd M' k n b := by
  obtain ⟨r1, r2, r3, r4⟩ := h
  have hk := h1 k (by omega) (by omega)
  refine ⟨r1.keep (h1 _ (by omega) (by omega)) (h1 _ (by omega) (by omega)), by rw [hk]; exact r2, by rw [hk]; exact r3, fun s hs => ⟨(r4 s hs).1.of (fun j _ _ => by rw [hk]) (fun a g => h1 a (by omega) (by omega)), by rw [hk]; exact (r4 s hs).2⟩⟩
theorem CInv.keep {M M' : Me} {n : Nat → Nat} {b : Nat → Nat → Nat} {h : Nat → Bool} {ck vs is : Int32} (H : CInv M n b h ck vs is) (k : ∀ a, a < 73 → M' a = M a) : CInv M' n b h ck vs is := by
  obtain ⟨h1, h2, ⟨nn, bb, h3⟩, h4, h5, h6, h7⟩ := H
  exact ⟨h1.keep (k _ (by omega)) (k _ (by omega)), h2.keep (k _ (by omega)) (k _ (by omega)), ⟨nn, bb, h3.keep (k _ (by omega)) (k _ (by omega))⟩, fun r hr => ⟨by rw [k _ (by omega)]; exact (h4 r hr).1, fun hh => ((h4 r hr).2 hh).keep (fun a g1 g2 => k a (by omega))⟩, by rw [k _ (by omega)]; exact h5, by rw [k _ (by omega)]; exact h6, by rw [k _ (by omega)]; exact h7⟩
theorem MInv.keep {M M' : Me} {n : Nat → Nat} {b : Nat → Nat → Nat} {h : Nat → Bool} {ck vs is : Int32} (H : MInv M n b h ck vs is) (k : ∀ a, 73 ≤ a → a < 79 → M' a = M a) : MInv M' n b h ck vs is := by
  obtain ⟨h1, h2, h3, h4, h5⟩ := H
  refine ⟨fun t ht => ?_, fun r hr => by rw [k 76 (by omega) (by omega)]; exact h2 r hr, by rw [k 73 (by omega) (by omega)]; exact h3, by rw [k 73 (by omega) (by omega)]; exact h4, by rw [k 73 (by omega) (by omega)]; exact h5⟩
  obtain ⟨r1, r2, r3, r4⟩ := h1 t ht
  exact ⟨by rw [k 75 (by omega) (by omega)]; exact r1, r2, r3, fun i hi => by rw [k 74 (by omega) (by omega)]; exact r4 i hi⟩
/-- only the draft's cells changed -/
theorem CInv.draft {M M' : Me} {n : Nat → Nat} {b : Nat → Nat → Nat} {h : Nat → Bool} {ck vs is : Int32} (H : CInv M n b h ck vs is) (k : ∀ a, a ≠ 63 → a ≠ 64 → M' a = M a) {n7 : Nat} {b7 : Nat → Nat} (R : RW M' 63 n7 b7) : CInv M' (va_up n 7 n7) (va_up b 7 b7) h ck vs is := by
  obtain ⟨h1, h2, ⟨nn, bb, h3⟩, h4, h5, h6, h7⟩ := H
  refine ⟨R, h2.keep (k _ (by omega) (by omega)) (k _ (by omega) (by omega)), ⟨nn, bb, h3.keep (k _ (by omega) (by omega)) (k _ (by omega) (by omega))⟩, fun r hr => ⟨by rw [k _ (by omega) (by omega)]; exact (h4 r hr).1, fun hh => ?_⟩, by rw [k _ (by omega) (by omega)]; exact h5, by rw [k _ (by omega) (by omega)]; exact h6, by rw [k _ (by omega) (by omega)]; exact h7⟩
  have := ((h4 r hr).2 hh).keep (M' := M') (fun a g1 g2 => k a (by omega) (by omega))
  simp only [va_up, if_neg (show ¬ r = 7 by omega)]
  exact this
/-- of the reference only thrown and text 7 changed -/
def FT (M M' : Me) : Prop := ∀ a j, ¬ (a = 74 ∧ 840 ≤ j ∧ j < 960) → ¬ (a = 75 ∧ j = 7) → ¬ (a = 73 ∧ j = 0) → M' a j = M a j
theorem FT.rf {M : Me} : FT M M := fun _ _ _ _ _ => rfl
theorem FT.tr {M M1 M2 : Me} (h : FT M M1) (g : FT M1 M2) : FT M M2 := fun a j c d e => (g a j c d e).trans (h a j c d e)
theorem FT.u0 {M : Me} {v : Int32} : FT M (up M 73 0 v) := fun a j _ _ e => by
  unfold up; rw [if_neg]; rintro ⟨rfl, rfl⟩; exact e ⟨rfl, rfl⟩
theorem FT.u75 {M : Me} {v : Int32} : FT M (up M 75 7 v) := fun a j _ d _ => by
  unfold up; rw [if_neg]; rintro ⟨rfl, rfl⟩; exact d ⟨rfl, rfl⟩
theorem FT.u74 {M : Me} {i : Nat} {v : Int32} (hi : i < 120) : FT M (up M 74 (840 + i) v) := fun a j c _ _ => by
  unfold up; rw [if_neg]; rintro ⟨rfl, rfl⟩; exact c ⟨rfl, by omega, by omega⟩
theorem FT.km {M M' : Me} (h : FT M M') : KM M M' := fun a ha => by funext j; exact h a j (by omega) (by omega) (by omega)
theorem MInv.draft {M M' : Me} {n : Nat → Nat} {b : Nat → Nat → Nat} {h : Nat → Bool} {ck vs is : Int32} (H : MInv M n b h ck vs is) (k : FT M M') {n7 : Nat} {b7 : Nat → Nat} (R : RM M' 7 n7 b7) : MInv M' (va_up n 7 n7) (va_up b 7 b7) h ck vs is := by
  obtain ⟨h1, h2, h3, h4, h5⟩ := H
  refine ⟨fun t ht => ?_, fun r hr => by rw [k 76 r (by omega) (by omega) (by omega)]; exact h2 r hr, by rw [k 73 4 (by omega) (by omega) (by omega)]; exact h3, by rw [k 73 5 (by omega) (by omega) (by omega)]; exact h4, by rw [k 73 6 (by omega) (by omega) (by omega)]; exact h5⟩
  by_cases e : t = 7
  · subst e; exact R
  · simp only [va_up, if_neg e]
    obtain ⟨r1, r2, r3, r4⟩ := h1 t ht
    exact ⟨by rw [k 75 t (by omega) (by omega) (by omega)]; exact r1, r2, r3, fun i hi => by rw [k 74 _ (by omega) (by omega) (by omega)]; exact r4 i hi⟩
theorem MInv.thrown {M : Me} {n : Nat → Nat} {b : Nat → Nat → Nat} {h : Nat → Bool} {ck vs is v : Int32} (H : MInv M n b h ck vs is) : MInv (up M 73 0 v) n b h ck vs is := by
  obtain ⟨h1, h2, h3, h4, h5⟩ := H
  refine ⟨fun t ht => ?_, fun r hr => by rw [up_k (by decide)]; exact h2 r hr, by rw [up_j (by decide)]; exact h3, by rw [up_j (by decide)]; exact h4, by rw [up_j (by decide)]; exact h5⟩
  obtain ⟨r1, r2, r3, r4⟩ := h1 t ht
  exact ⟨by rw [up_k (by decide)]; exact r1, r2, r3, fun i hi => by rw [up_k (by decide)]; exact r4 i hi⟩
theorem al_64 : al (63 + 1) = 120 := by decide
theorem s_append {M : Me} {n : Nat} {b : Nat → Nat} {k : Nat} (h : RW M k n b) (hn : n < al (k + 1)) (x : Int32) : ∃ M', f_X1_append k x M = some (0, M') ∧ RW M' k (n + 1) (va_up b n (low8 x)) ∧ (∀ a, a ≠ k → a ≠ k + 1 → M' a = M a) := by
  obtain ⟨r1, r2, r3, r4⟩ := h
  refine ⟨up (up M (k + 1) n (nI (low8 x))) k 1 (nI (n + 1)), ?_, ⟨up_s, by omega, r3, fun i hi => ?_⟩, fun a g1 g2 => by rw [up_row g1, up_row g2]⟩
  · rw [f_X1_append, r1, if_neg (nI_ge hn (by omega)), if_pos (inB_nI hn (by omega)), nI_clamp (by omega), low8_and, nI_1]
  · rw [up_k (by omega)]
    by_cases e : i = n
    · subst e; rw [up_s]; simp only [va_up, if_pos]; exact ⟨trivial, low8_lt x⟩
    · rw [up_j e]; simp only [va_up, if_neg e]; exact r4 i (by omega)
theorem m_add {M : Me} {n : Nat} {b : Nat → Nat} (h : RM M 7 n b) (hn : n < 120) (x : Int32) : ∃ M', f_X5_add x M = some (0, M') ∧ RM M' 7 (n + 1) (va_up b n (low8 x)) ∧ FT M M' := by
  obtain ⟨r1, r2, r3, r4⟩ := h
  refine ⟨up (up M 74 (840 + n) (nI (low8 x))) 75 7 (nI (n + 1)), ?_, ⟨up_s, by omega, by omega, fun i hi => ?_⟩, (FT.u74 (by omega)).tr FT.u75⟩
  · rw [f_X5_add, r1, show (840 : Int32) = nI 840 from rfl, nI_add, al74, if_pos (inB_nI (by omega) (by omega)), nI_clamp (by omega), low8_and, nI_1]
  · rw [up_k (by decide)]
    by_cases e : i = n
    · subst e; rw [show 120 * 7 + i = 840 + i by omega, up_s]; simp only [va_up, if_pos]; exact ⟨trivial, low8_lt x⟩
    · rw [show 120 * 7 + i = 840 + i by omega, up_j (by omega)]; simp only [va_up, if_neg e]; exact r4 i (by omega)
def apN (x : Nat → Nat) : Nat → Nat → Nat → (Nat → Nat) → (Nat → Nat)
  | 0, _, _, b => b
  | c + 1, i, n, b => apN x c (i + 1) (n + 1) (va_up b n (x i))
theorem apN_congr {x y : Nat → Nat} : ∀ (c i n : Nat) (b : Nat → Nat), (∀ j, i ≤ j → j < i + c → x j = y j) → apN x c i n b = apN y c i n b := by
  intro c
  induction c with
  | zero => intro i n b _; rfl
  | succ c ih => intro i n b h; rw [apN, apN, h i (by omega) (by omega)]; exact ih _ _ _ (fun j h1 h2 => h j (by omega) (by omega))
theorem s_lowL {w : Int64} {k : Nat} : ∀ (c fuel i n : Nat) (b : Nat → Nat) (M : Me), c < fuel → i + c < 100 → RW M k n b → n + c ≤ al (k + 1) → ∃ M', fL_X1_appendLowest_3 fuel k w (nI (i + c)) (nI i) M = some (0, M') ∧ RW M' k (n + c) (apN (fun i => low8 ((lushr_ w (8 * nI i)).toInt32)) c i n b) ∧ (∀ a, a ≠ k → a ≠ k + 1 → M' a = M a) := by
  intro c
  induction c with
  | zero =>
    intro fuel i n b M hf hi h hn
    obtain ⟨f, rfl⟩ : ∃ f, fuel = f + 1 := ⟨fuel - 1, by omega⟩
    exact ⟨M, by rw [fL_X1_appendLowest_3, if_pos (nI_le (by omega) (by omega))], h, fun _ _ _ => rfl⟩
  | succ c ih =>
    intro fuel i n b M hf hi h hn
    obtain ⟨f, rfl⟩ : ∃ f, fuel = f + 1 := ⟨fuel - 1, by omega⟩
    obtain ⟨M1, e1, h1, f1⟩ := s_append h (by omega) ((lushr_ w (8 * nI i)).toInt32)
    obtain ⟨M2, e2, h2, f2⟩ := ih f (i + 1) (n + 1) _ M1 (by omega) (by omega) h1 (by omega)
    refine ⟨M2, ?_, by rw [apN, show n + (c + 1) = n + 1 + c by omega]; exact h2, fun a g1 g2 => (f2 a g1 g2).trans (f1 a g1 g2)⟩
    rw [fL_X1_appendLowest_3, if_neg (nI_ge (by omega) (by omega)), e1, Option.bind_some, nI_1, show i + (c + 1) = i + 1 + c by omega]
    exact e2
theorem m_putL {w : Int64} : ∀ (c fuel i n : Nat) (b : Nat → Nat) (M : Me), c < fuel → i + c < 100 → RM M 7 n b → n + c ≤ 120 → ∃ M', fL_X5_put_35 fuel w (nI (i + c)) (nI i) M = some (0, M') ∧ RM M' 7 (n + c) (apN (fun i => low8 (((lshr_ w (8 * nI i)) &&& 255).toInt32)) c i n b) ∧ FT M M' := by
  intro c
  induction c with
  | zero =>
    intro fuel i n b M hf hi h hn
    obtain ⟨f, rfl⟩ : ∃ f, fuel = f + 1 := ⟨fuel - 1, by omega⟩
    exact ⟨M, by rw [fL_X5_put_35, if_pos (nI_le (by omega) (by omega))], h, FT.rf⟩
  | succ c ih =>
    intro fuel i n b M hf hi h hn
    obtain ⟨f, rfl⟩ : ∃ f, fuel = f + 1 := ⟨fuel - 1, by omega⟩
    obtain ⟨M1, e1, h1, f1⟩ := m_add h (by omega) (((lshr_ w (8 * nI i)) &&& 255).toInt32)
    obtain ⟨M2, e2, h2, f2⟩ := ih f (i + 1) (n + 1) _ M1 (by omega) (by omega) h1 (by omega)
    refine ⟨M2, ?_, by rw [apN, show n + (c + 1) = n + 1 + c by omega]; exact h2, f1.tr f2⟩
    rw [fL_X5_put_35, if_neg (nI_ge (by omega) (by omega)), e1, Option.bind_some, nI_1, show i + (c + 1) = i + 1 + c by omega]
    exact e2
theorem l8 (y : Int64) : low8 y.toInt32 = y.toBitVec.toNat % 256 := by
  unfold low8
  rw [Int64.toBitVec_toInt32, BitVec.signExtend_eq_setWidth_of_le _ (by decide), BitVec.toNat_setWidth]
  omega
theorem sw_eq (w : Int64) (i : Nat) (hi : i < 8) : low8 ((lushr_ w (8 * nI i)).toInt32) = low8 (((lshr_ w (8 * nI i)) &&& 255).toInt32) := by
  have hh : i = 0 ∨ i = 1 ∨ i = 2 ∨ i = 3 ∨ i = 4 ∨ i = 5 ∨ i = 6 ∨ i = 7 := by omega
  have key : ∀ s : Nat, s ≤ 56 → ∀ x : BitVec 64, ((x >>> s).toNat % 256) = (((x.sshiftRight s) &&& 255#64).toNat % 256) := by
    intro s hs x
    have e : ∀ y : BitVec 64, y.toNat % 256 = (y.setWidth 8).toNat := fun y => by simp
    rw [e, e]
    congr 1
    apply BitVec.eq_of_getLsbD_eq
    intro j hj
    have : ((255#64).getLsbD j) = true := by
      have : j = 0 ∨ j = 1 ∨ j = 2 ∨ j = 3 ∨ j = 4 ∨ j = 5 ∨ j = 6 ∨ j = 7 := by omega
      rcases this with rfl | rfl | rfl | rfl | rfl | rfl | rfl | rfl <;> decide
    have t8 : (255#8)[j]'hj = true := (by decide : ∀ (j : Nat) (hj : j < 8), (255#8)[j]'hj = true) j hj
    simp [BitVec.getLsbD_sshiftRight, hj, this, show s + j < 64 by omega, t8, show ¬ 64 ≤ j by omega]
  rw [l8, l8]
  rcases hh with rfl | rfl | rfl | rfl | rfl | rfl | rfl | rfl
  · rw [show (lushr_ w (8 * nI 0)).toBitVec = w.toBitVec >>> 0 from rfl, show ((lshr_ w (8 * nI 0)) &&& 255).toBitVec = (w.toBitVec.sshiftRight 0) &&& 255#64 from rfl]
    exact key 0 (by omega) _
  · rw [show (lushr_ w (8 * nI 1)).toBitVec = w.toBitVec >>> 8 from rfl, show ((lshr_ w (8 * nI 1)) &&& 255).toBitVec = (w.toBitVec.sshiftRight 8) &&& 255#64 from rfl]
    exact key 8 (by omega) _
  · rw [show (lushr_ w (8 * nI 2)).toBitVec = w.toBitVec >>> 16 from rfl, show ((lshr_ w (8 * nI 2)) &&& 255).toBitVec = (w.toBitVec.sshiftRight 16) &&& 255#64 from rfl]
    exact key 16 (by omega) _
  · rw [show (lushr_ w (8 * nI 3)).toBitVec = w.toBitVec >>> 24 from rfl, show ((lshr_ w (8 * nI 3)) &&& 255).toBitVec = (w.toBitVec.sshiftRight 24) &&& 255#64 from rfl]
    exact key 24 (by omega) _
  · rw [show (lushr_ w (8 * nI 4)).toBitVec = w.toBitVec >>> 32 from rfl, show ((lshr_ w (8 * nI 4)) &&& 255).toBitVec = (w.toBitVec.sshiftRight 32) &&& 255#64 from rfl]
    exact key 32 (by omega) _
  · rw [show (lushr_ w (8 * nI 5)).toBitVec = w.toBitVec >>> 40 from rfl, show ((lshr_ w (8 * nI 5)) &&& 255).toBitVec = (w.toBitVec.sshiftRight 40) &&& 255#64 from rfl]
    exact key 40 (by omega) _
  · rw [show (lushr_ w (8 * nI 6)).toBitVec = w.toBitVec >>> 48 from rfl, show ((lshr_ w (8 * nI 6)) &&& 255).toBitVec = (w.toBitVec.sshiftRight 48) &&& 255#64 from rfl]
    exact key 48 (by omega) _
  · rw [show (lushr_ w (8 * nI 7)).toBitVec = w.toBitVec >>> 56 from rfl, show ((lshr_ w (8 * nI 7)) &&& 255).toBitVec = (w.toBitVec.sshiftRight 56) &&& 255#64 from rfl]
    exact key 56 (by omega) _
