/-- the mix -/
def mstep (h v : Int32) : Int32 := ((h ^^^ v) * 16777619) ^^^ (ush ((h ^^^ v) * 16777619) 15)
theorem mstep_eq (h v : Int32) : ((h ^^^ v) * 16777619) ^^^ (ush ((h ^^^ v) * 16777619) 15) = mstep h v := by rw [mstep]
def mbeg (s : Int32) : Int32 := s * (-1640531527)
theorem mbeg_eq (s : Int32) : s * (-1640531527) = mbeg s := by rw [mbeg]
def mxG (g : Int32 → Int32 → Int32) (b : Nat → Nat) : Nat → Nat → Int32 → Int32
  | 0, _, h => h
  | c + 1, i, h => mxG g b c (i + 1) (g h (nI (b i)))
theorem mxG_z (g : Int32 → Int32 → Int32) (b : Nat → Nat) (i : Nat) (h : Int32) : mxG g b 0 i h = h := rfl
theorem mxG_s (g : Int32 → Int32 → Int32) (b : Nat → Nat) (c i : Nat) (h : Int32) : mxG g b (c + 1) i h = mxG g b c (i + 1) (g h (nI (b i))) := rfl
theorem mxS_z (b : Nat → Nat) (i : Nat) (h : Int32) : mxG mstep b 0 i h = h := mxG_z mstep b i h
theorem mxS_s (b : Nat → Nat) (c i : Nat) (h : Int32) : mxG mstep b (c + 1) i h = mxG mstep b c (i + 1) (mstep h (nI (b i))) := mxG_s mstep b c i h
def mxO (b : Nat → Nat) (n : Nat) (s : Int32) : Int32 := mxG mstep b n 0 (mbeg s)
theorem mxO_eq (b : Nat → Nat) (n : Nat) (s : Int32) : mxG mstep b n 0 (mbeg s) = mxO b n s := by rw [mxO]
theorem s_mixL {M : Me} {k n m : Nat} {b : Nat → Nat} (h : RW M k n b) (hm : m ≤ n) : ∀ (c fuel i : Nat) (x : Int32), c < fuel → i + c = m → fL_X1_mixOfFirst_8 fuel k (nI m) x (nI i) M = some (mxG mstep b c i x, M) := by
  obtain ⟨r1, r2, r3, r4⟩ := h
  intro c
  induction c with
  | zero =>
    intro fuel i x hf hi
    obtain ⟨f, rfl⟩ : ∃ f, fuel = f + 1 := ⟨fuel - 1, by omega⟩
    rw [fL_X1_mixOfFirst_8, if_pos (nI_le (by omega) (by omega)), mxS_z]
  | succ c ih =>
    intro fuel i x hf hi
    obtain ⟨f, rfl⟩ : ∃ f, fuel = f + 1 := ⟨fuel - 1, by omega⟩
    rw [fL_X1_mixOfFirst_8, if_neg (nI_ge (by omega) (by omega)), r1, if_neg (nI_ge (by omega) (by omega)), if_pos (inB_nI (by omega) (by omega)), nI_clamp (by omega), (r4 i (by omega)).1, nI_1, mstep_eq, mxS_s]
    exact ih f (i + 1) _ (by omega) (by omega)
theorem s_mix {M : Me} {k n m : Nat} {b : Nat → Nat} (h : RW M k n b) (hm : m ≤ n) (s : Int32) : f_X1_mixOfFirst k (nI m) s M = some (mxO b m s, M) := by
  have : n ≤ 120 := by obtain ⟨_, a, b, _⟩ := h; omega
  have e := s_mixL h hm m 200 0 (mbeg s) (by omega) (by omega)
  rw [f_X1_mixOfFirst, mbeg_eq, show fL_X1_mixOfFirst_8 200 k (nI m) (mbeg s) 0 M = some (mxG mstep b m 0 (mbeg s), M) from e, Option.bind_some, mxO_eq]
theorem s_digest {M : Me} {k n : Nat} {b : Nat → Nat} (h : RW M k n b) : f_X1_wholeDigest k M = some (mxO b n 0, M) := by
  rw [f_X1_wholeDigest, h.1, s_mix h (Nat.le_refl _), Option.bind_some]
theorem m_mixL {M : Me} {t n m : Nat} {b : Nat → Nat} (h : RM M t n b) (hm : m ≤ n) : ∀ (c fuel i : Nat) (x : Int32), c < fuel → i + c = m → fL_X5_mixOf_9 fuel (nI (120 * t)) (nI m) x (nI (120 * t + i)) M = some (mxG mstep b c i x, M) := by
  obtain ⟨r1, r2, r3, r4⟩ := h
  intro c
  induction c with
  | zero =>
    intro fuel i x hf hi
    obtain ⟨f, rfl⟩ : ∃ f, fuel = f + 1 := ⟨fuel - 1, by omega⟩
    rw [fL_X5_mixOf_9, nI_add, if_pos (nI_le (by omega) (by omega)), mxS_z]
  | succ c ih =>
    intro fuel i x hf hi
    obtain ⟨f, rfl⟩ : ∃ f, fuel = f + 1 := ⟨fuel - 1, by omega⟩
    rw [fL_X5_mixOf_9, nI_add, if_neg (nI_ge (by omega) (by omega)), al74, if_pos (inB_nI (by omega) (by omega)), nI_clamp (by omega), (r4 i (by omega)).1, nI_1, mstep_eq, mxS_s]
    exact ih f (i + 1) _ (by omega) (by omega)
theorem m_mix {M : Me} {t n m : Nat} {b : Nat → Nat} (h : RM M t n b) (hm : m ≤ n) (s : Int32) {x y : Int32} (hx : x = nI (120 * t)) (hy : y = nI m) : f_X5_mixOf x y s M = some (mxO b m s, M) := by
  subst hx; subst hy
  have := h.2.1
  have e := m_mixL h hm m 200 0 (mbeg s) (by omega) (by omega)
  rw [show 120 * t + 0 = 120 * t by omega] at e
  rw [f_X5_mixOf, mbeg_eq, e, Option.bind_some, mxO_eq]
theorem mix_ok {M : Me} {n : Nat → Nat} {b : Nat → Nat → Nat} {h : Nat → Bool} {ck vs is : Int32} (s : Int32) (C : CInv M n b h ck vs is) (D : MInv M n b h ck vs is) : ∃ o M1 M2, f_X4_mix s M = some (o, M1) ∧ f_X5_mix s M1 = some (o, M2) ∧ CInv M2 n b h ck vs is ∧ MInv M2 n b h ck vs is := by
  refine ⟨mxO (b 7) (n 7) s, M, up M 73 0 0, ?_, ?_, C.keep (fun a ha => up_row (by omega)), D.thrown⟩
  · rw [f_X4_mix, f_X1_size, C.1.1, Option.bind_some]
    dsimp only
    rw [s_mix C.1 (Nat.le_refl _), Option.bind_some]
  · rw [f_X5_mix, (D.1 7 (by omega)).1, m_mix (t := 7) (x := 840) (y := nI (n 7)) ((D.thrown (v := 0)).1 7 (by omega)) (Nat.le_refl _) s rfl rfl, Option.bind_some]
def fourS (v : Int32) : Nat → Nat := fun i => if i = 0 then low8 (ush v 24) else if i = 1 then low8 (ush v 16) else if i = 2 then low8 (ush v 8) else low8 v
theorem low_sh (v : Int32) (s : Nat) (x y : Int32) (hs : s ≤ 24) (hx : x.toBitVec = v.toBitVec >>> s) (hy : y.toBitVec = v.toBitVec.sshiftRight s) : low8 x = low8 y := by
  unfold low8
  rw [hx, hy]
  have e : ∀ y : BitVec 32, y.toNat % 256 = (y.setWidth 8).toNat := fun y => by simp
  rw [e, e]
  congr 1
  apply BitVec.eq_of_getLsbD_eq
  intro j hj
  simp [BitVec.getLsbD_sshiftRight, hj, show s + j < 32 by omega, show ¬ 32 ≤ j by omega]
theorem s_word {M : Me} {k n : Nat} {b : Nat → Nat} (h : RW M k n b) (hn : n + 4 ≤ al (k + 1)) (v : Int32) : ∃ M', f_X1_appendWord k v M = some (0, M') ∧ RW M' k (n + 4) (apN (fourS v) 4 0 n b) ∧ (∀ a, a ≠ k → a ≠ k + 1 → M' a = M a) := by
  obtain ⟨M1, e1, h1, f1⟩ := s_append h (by omega) (ush v 24)
  obtain ⟨M2, e2, h2, f2⟩ := s_append h1 (by omega) (ush v 16)
  obtain ⟨M3, e3, h3, f3⟩ := s_append h2 (by omega) (ush v 8)
  obtain ⟨M4, e4, h4, f4⟩ := s_append h3 (by omega) v
  refine ⟨M4, ?_, h4, fun a g1 g2 => by rw [f4 a g1 g2, f3 a g1 g2, f2 a g1 g2, f1 a g1 g2]⟩
  rw [f_X1_appendWord, e1, Option.bind_some, e2, Option.bind_some, e3, Option.bind_some, e4]; rfl
theorem m_four {M : Me} {n : Nat} {b : Nat → Nat} (h : RM M 7 n b) (hn : n + 4 ≤ 120) (v : Int32) : ∃ M', f_X5_addFour v M = some (0, M') ∧ RM M' 7 (n + 4) (apN (fourS v) 4 0 n b) ∧ FT M M' := by
  obtain ⟨M1, e1, h1, f1⟩ := m_add h (by omega) (v >>> (24 &&& 31))
  obtain ⟨M2, e2, h2, f2⟩ := m_add h1 (by omega) (v >>> ((24 - 8) &&& 31))
  obtain ⟨M3, e3, h3, f3⟩ := m_add h2 (by omega) (v >>> ((24 - 8 - 8) &&& 31))
  obtain ⟨M4, e4, h4, f4⟩ := m_add h3 (by omega) (v >>> ((24 - 8 - 8 - 8) &&& 31))
  have x0 : low8 (ush v 24) = low8 (v >>> (24 &&& 31)) := low_sh v 24 _ _ (by omega) rfl rfl
  have x1 : low8 (ush v 16) = low8 (v >>> ((24 - 8) &&& 31)) := low_sh v 16 _ _ (by omega) rfl rfl
  have x2 : low8 (ush v 8) = low8 (v >>> ((24 - 8 - 8) &&& 31)) := low_sh v 8 _ _ (by omega) rfl rfl
  have x3 : low8 v = low8 (v >>> ((24 - 8 - 8 - 8) &&& 31)) := low_sh v 0 _ _ (by omega) (by simp) rfl
  refine ⟨M4, ?_, ?_, ((f1.tr f2).tr f3).tr f4⟩
  · rw [f_X5_addFour]
    have : fL_X5_addFour_3 200 v 24 M = some (0, M4) := by
      rw [fL_X5_addFour_3, if_neg (by decide), e1, Option.bind_some, fL_X5_addFour_3, if_neg (by decide), e2, Option.bind_some, fL_X5_addFour_3, if_neg (by decide), e3, Option.bind_some, fL_X5_addFour_3, if_neg (by decide), e4, Option.bind_some, fL_X5_addFour_3, if_pos (by decide)]
    rw [this]; rfl
  · have e : apN (fourS v) 4 0 n b = va_up (va_up (va_up (va_up b n (low8 (ush v 24))) (n + 1) (low8 (ush v 16))) (n + 1 + 1) (low8 (ush v 8))) (n + 1 + 1 + 1) (low8 v) := rfl
    rw [e, x0, x1, x2, x3]; exact h4
theorem digest_ok {M : Me} {n : Nat → Nat} {b : Nat → Nat → Nat} {h : Nat → Bool} {ck vs is : Int32} (C : CInv M n b h ck vs is) (D : MInv M n b h ck vs is) : ∃ o M1 M2 n' b', f_X4_digest M = some (o, M1) ∧ f_X5_digest M1 = some (o, M2) ∧ CInv M2 n' b' h ck vs is ∧ MInv M2 n' b' h ck vs is ∧ (∀ t, t < 7 → n' t = n t ∧ b' t = b t) := by
  obtain ⟨r1, r2, r3, r4⟩ := id C.1
  have hn : n 7 ≤ 120 := by omega
  have m7 := D.1 7 (by omega)
  unfold f_X4_digest f_X5_digest
  rw [f_X1_hasRoomFor, al_64, r1, show (nI 120 : Int32) - nI (n 7) = nI (120 - n 7) from pk_sub hn]
  by_cases c : n 7 + 4 ≤ 120
  · rw [if_neg (show ¬ nI (120 - n 7) < (4 : Int32) from nI_nlt (b := 4) (by omega) (by omega)), Option.bind_some]
    dsimp only
    rw [if_neg (show ¬ (1 : Int32) = 0 by decide), s_digest C.2.1, Option.bind_some]
    dsimp only
    obtain ⟨M1, e1, w1, f1⟩ := s_word C.1 (by rw [al_64]; omega) (mxO (b 8) (n 8) 0)
    rw [e1, Option.bind_some]
    have D1 : MInv M1 n b h ck vs is := D.keep (fun a g1 g2 => f1 a (by omega) (by omega))
    have D1' := D1.thrown (v := 0)
    obtain ⟨M2, e2, w2, f2⟩ := m_four (D1'.1 7 (by omega)) c (mxO (b 8) (n 8) 0)
    have F := FT.u0.tr f2
    refine ⟨1, M1, M2, va_up n 7 (n 7 + 4), va_up b 7 (apN (fourS (mxO (b 8) (n 8) 0)) 4 0 (n 7) (b 7)), rfl, ?_, (C.draft f1 w1).keep F.km, D1.draft F w2, fun t ht => ⟨by simp [va_up, show ¬ t = 7 by omega], by simp [va_up, show ¬ t = 7 by omega]⟩⟩
    rw [(D1.1 7 (by omega)).1, show (4 : Int32) = nI 4 from rfl, nI_add, if_pos (show nI (n 7 + 4) ≤ (120 : Int32) from nI_le (b := 120) (by omega) (by omega)), (D1.1 8 (by omega)).1, m_mix (t := 8) (x := 960) (y := nI (n 8)) (D1'.1 8 (by omega)) (Nat.le_refl _) 0 rfl rfl, Option.bind_some]
    dsimp only
    rw [e2]; rfl
  · rw [if_pos (show nI (120 - n 7) < (4 : Int32) from nI_lt (b := 4) (by omega) (by omega)), Option.bind_some]
    dsimp only
    rw [if_pos rfl]
    refine ⟨0, M, up M 73 0 0, n, b, rfl, ?_, C.keep (fun a ha => up_row (by omega)), D.thrown, fun _ _ => ⟨rfl, rfl⟩⟩
    rw [m7.1, show (4 : Int32) = nI 4 from rfl, nI_add, if_neg (show ¬ nI (n 7 + 4) ≤ (120 : Int32) from nI_ge (a := 120) (by omega) (by omega))]
