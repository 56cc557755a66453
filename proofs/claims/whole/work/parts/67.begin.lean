/-! what reading the draft leaves; begin -/
theorem CInv.keepX {M M' : Me} {n : Nat → Nat} {b : Nat → Nat → Nat} {h : Nat → Bool} {ck vs is : Int32} (H : CInv M n b h ck vs is) (k : ∀ a, a < 49 ∨ (63 ≤ a ∧ a < 71) ∨ a = 72 → M' a = M a) : CInv M' n b h ck vs is := by
  obtain ⟨h1, h2, ⟨nn, bb, h3⟩, h4, h5, h6, h7⟩ := H
  exact ⟨h1.keep (k _ (by omega)) (k _ (by omega)), h2.keep (k _ (by omega)) (k _ (by omega)), ⟨nn, bb, h3.keep (k _ (by omega)) (k _ (by omega))⟩, fun r hr => ⟨by rw [k _ (by omega)]; exact (h4 r hr).1, fun hh => ((h4 r hr).2 hh).keep (fun a g1 g2 => k a (by omega))⟩, by rw [k _ (by omega)]; exact h5, by rw [k _ (by omega)]; exact h6, by rw [k _ (by omega)]; exact h7⟩
theorem CInv.fp {M M' : Me} {n : Nat → Nat} {b : Nat → Nat → Nat} {h : Nat → Bool} {ck vs is : Int32} (H : CInv M n b h ck vs is) (f : FP M M') : CInv M' n b h ck vs is := H.keep (fun a ha => f.row (by omega))
theorem MInv.fp {M M' : Me} {n : Nat → Nat} {b : Nat → Nat → Nat} {h : Nat → Bool} {ck vs is : Int32} (H : MInv M n b h ck vs is) (f : FP M M') : MInv M' n b h ck vs is := by
  obtain ⟨h1, h2, h3, h4, h5⟩ := H
  exact ⟨fun t ht => (h1 t ht).fp f, fun r hr => by rw [f.row (by decide)]; exact h2 r hr, by rw [f 73 4 (by omega)]; exact h3, by rw [f 73 5 (by omega)]; exact h4, by rw [f 73 6 (by omega)]; exact h5⟩
theorem s_readD {M : Me} {n : Nat → Nat} {b : Nat → Nat → Nat} {h : Nat → Bool} {ck vs is : Int32} (C : CInv M n b h ck vs is) : ∃ M1, f_X0_read 56 63 M = some (0, M1) ∧ Rd M1 56 (n 7) (b 7) ∧ F7 56 M M1 ∧ CInv M1 n b h ck vs is ∧ (∀ a, 73 ≤ a → M1 a = M a) := by
  obtain ⟨M1, e1, r1, f1⟩ := s_read k56 C.1 (by omega)
  exact ⟨M1, e1, r1, f1, C.keepX (fun a g => f1 a (by omega)), fun a g => f1 a (by omega)⟩
theorem s_wholeD {M : Me} {k n : Nat} {b : Nat → Nat} (r : Rd M k n b) : f_X0_isWhole k M = some (if pDoc b n = some n then 1 else 0, M) := by
  rw [f_X0_isWhole, r.2.1, if_pos bB_ite]
theorem s_bareD {M : Me} {k n : Nat} {b : Nat → Nat} (r : Rd M k n b) : f_X0_isBare k M = some (if pSig b n = some n then 1 else 0, M) := by
  rw [f_X0_isBare, r.2.2.1, if_pos bB_ite]
theorem WF.put {n : Nat → Nat} {b : Nat → Nat → Nat} {h : Nat → Bool} (W : WF n b h) {r : Nat} (hd : pDoc (b 7) (n 7) = some (n 7)) (h0 : b 7 0 = r) : WF (va_up n r (n 7)) (va_up b r (b 7)) (va_up h r true) := by
  intro q hq hh
  by_cases e : q = r
  · subst e; simp only [va_up, if_pos]; exact ⟨hd, h0⟩
  · simp only [va_up, if_neg e] at hh ⊢; exact W q hq hh
theorem s_put {M : Me} {n : Nat → Nat} {b : Nat → Nat → Nat} {h : Nat → Bool} {ck vs is : Int32} (C : CInv M n b h ck vs is) (R : RW M 57 (n 7) (b 7)) (hd : pDoc (b 7) (n 7) = some (n 7)) {r : Nat} (hr : r < 7) : ∃ M', f_X0_read (7 * r) 57 M = some (0, M') ∧ CInv M' (va_up n r (n 7)) (va_up b r (b 7)) (va_up h r true) ck vs is ∧ F7 (7 * r) M M' := by
  obtain ⟨M1, e1, r1, f1⟩ := s_read (isK7 hr) R (by omega)
  refine ⟨M1, e1, ?_, f1⟩
  obtain ⟨h1, h2, ⟨nn, bb, h3⟩, h4, h5, h6, h7⟩ := C
  refine ⟨?_, ?_, ⟨nn, bb, h3.keep (f1 _ (by omega)) (f1 _ (by omega))⟩, fun q hq => ?_, by rw [f1 _ (by omega)]; exact h5, by rw [f1 _ (by omega)]; exact h6, by rw [f1 _ (by omega)]; exact h7⟩
  · simp only [va_up, if_neg (show ¬ 7 = r by omega)]; exact h1.keep (f1 _ (by omega)) (f1 _ (by omega))
  · simp only [va_up, if_neg (show ¬ 8 = r by omega)]; exact h2.keep (f1 _ (by omega)) (f1 _ (by omega))
  · by_cases e : q = r
    · subst e
      simp only [va_up, if_pos]
      exact ⟨by rw [r1.2.1, if_pos hd], fun _ => r1⟩
    · simp only [va_up, if_neg e]
      have g : ∀ a, 7 * q ≤ a → a < 7 * q + 7 → M1 a = M a := fun a g1 g2 => f1 a (by omega)
      exact ⟨by rw [g _ (by omega) (by omega)]; exact (h4 q hq).1, fun hh => ((h4 q hq).2 hh).keep g⟩
theorem m_trust {M : Me} {n : Nat → Nat} {b : Nat → Nat → Nat} {h : Nat → Bool} {ck vs is : Int32} (D : MInv M n b h ck vs is) {r : Nat} (hr : r < 7) {x : Int32} (hx : x = nI r) : ∃ M', f_X5_trust x M = some (0, M') ∧ MInv M' (va_up n r (n 7)) (va_up b r (b 7)) (va_up h r true) ck vs is ∧ (∀ a, a < 74 ∨ a = 79 → M' a = M a) := by
  subst hx
  obtain ⟨M1, e1, w1, f1⟩ := m_copy (t := r) rfl (by omega) (by omega) (D.1 7 (by omega))
  have D1 := D.copy f1 w1
  refine ⟨up M1 76 r 1, ?_, ?_, fun a ha => by rw [up_row (by omega)]; exact f1.row (by omega) (by omega)⟩
  · rw [f_X5_trust, e1, Option.bind_some, al76, if_pos (inB_nI hr (by omega)), nI_clamp (by omega)]
  · obtain ⟨h1, h2, h3, h4, h5⟩ := D1
    refine ⟨fun t ht => ?_, fun q hq => ?_, by rw [up_k (by decide)]; exact h3, by rw [up_k (by decide)]; exact h4, by rw [up_k (by decide)]; exact h5⟩
    · obtain ⟨r1, r2, r3, r4⟩ := h1 t ht
      exact ⟨by rw [up_k (by decide)]; exact r1, r2, r3, fun i hi => by rw [up_k (by decide)]; exact r4 i hi⟩
    · by_cases e : q = r
      · subst e; rw [up_s]; simp only [va_up, if_pos]
      · rw [up_j e]; simp only [va_up, if_neg e]; exact h2 q hq
theorem s_clrL {k1 : Nat} : ∀ (c fuel i : Nat) (M : Me), c < fuel → i + c = 7 → ∃ M', fL_X3_startFrom_2 fuel k1 (nI i) M = some (0, M') ∧ (∀ a j, ¬ (a < 49 ∧ j = 8) → M' a j = M a j) ∧ (∀ r, r < i → M' (7 * r) 8 = M (7 * r) 8) ∧ (∀ r, i ≤ r → r < 7 → M' (7 * r) 8 = 0) := by
  intro c
  induction c with
  | zero =>
    intro fuel i M hf hi
    obtain ⟨f, rfl⟩ : ∃ f, fuel = f + 1 := ⟨fuel - 1, by omega⟩
    refine ⟨M, ?_, fun _ _ _ => rfl, fun _ _ => rfl, fun r h1 h2 => by omega⟩
    rw [fL_X3_startFrom_2, if_pos (show (6 : Int32) < nI i from nI_lt (a := 6) (by omega) (by omega))]
  | succ c ih =>
    intro fuel i M hf hi
    obtain ⟨f, rfl⟩ : ∃ f, fuel = f + 1 := ⟨fuel - 1, by omega⟩
    obtain ⟨M2, e2, g1, g2, g3⟩ := ih f (i + 1) (up M (7 * i) 8 0) (by omega) (by omega)
    refine ⟨M2, ?_, fun a j q => ?_, fun r hr => ?_, fun r h1 h2 => ?_⟩
    · rw [fL_X3_startFrom_2, if_neg (show ¬ (6 : Int32) < nI i from nI_nlt (a := 6) (by omega) (by omega)), s_docOf rfl (by omega), Option.bind_some]
      dsimp only
      rw [if_pos (kB7 (by omega)), f_X0_clear, Option.bind_some, nI_1]
      exact e2
    · rw [g1 a j q]; unfold up; rw [if_neg]; rintro ⟨rfl, rfl⟩; exact q ⟨by omega, rfl⟩
    · rw [g2 r (by omega), up_k (by omega)]
    · by_cases e : r = i
      · subst e; rw [g2 r (by omega), up_s]
      · exact g3 r (by omega) h2
theorem m_clrL : ∀ (c fuel i : Nat) (M : Me), c < fuel → i + c = 7 → ∃ M', fL_X5_begin_35 fuel (nI i) M = some (0, M') ∧ (∀ a, a ≠ 76 → M' a = M a) ∧ (∀ r, r < i → M' 76 r = M 76 r) ∧ (∀ r, i ≤ r → r < 7 → M' 76 r = 0) := by
  intro c
  induction c with
  | zero =>
    intro fuel i M hf hi
    obtain ⟨f, rfl⟩ : ∃ f, fuel = f + 1 := ⟨fuel - 1, by omega⟩
    refine ⟨M, ?_, fun _ _ => rfl, fun _ _ => rfl, fun r h1 h2 => by omega⟩
    rw [fL_X5_begin_35, if_pos (show (7 : Int32) ≤ nI i from nI_le (a := 7) (by omega) (by omega))]
  | succ c ih =>
    intro fuel i M hf hi
    obtain ⟨f, rfl⟩ : ∃ f, fuel = f + 1 := ⟨fuel - 1, by omega⟩
    obtain ⟨M2, e2, g1, g2, g3⟩ := ih f (i + 1) (up M 76 i 0) (by omega) (by omega)
    refine ⟨M2, ?_, fun a q => by rw [g1 a q, up_row q], fun r hr => by rw [g2 r (by omega), up_j (by omega)], fun r h1 h2 => ?_⟩
    · rw [fL_X5_begin_35, if_neg (show ¬ (7 : Int32) ≤ nI i from nI_ge (b := 7) (by omega) (by omega)), al76, if_pos (inB_nI (by omega) (by omega)), nI_clamp (by omega), nI_1]
      exact e2
    · by_cases e : r = i
      · subst e; rw [g2 r (by omega), up_s]
      · exact g3 r (by omega) h2
def OkC (f g : Me → Option (Int32 × Me)) : Prop := ∀ M, Inv M → ∃ k o M1 M2, f M = some (k, M1) ∧ g M1 = some (o, M2) ∧ M2 73 0 = k ∧ Inv M2
theorem begin_ok : OkC f_L_begin f_X5_begin := by
  rintro M ⟨n, b, h, ck, vs, is, W, C, D⟩
  obtain ⟨M1, e1, r1, f1, C1, k1⟩ := s_readD C
  have D1 : MInv M1 n b h ck vs is := D.km k1
  obtain ⟨M2, e2, f2, -⟩ := ms_doc (t := 7) (by omega) (D1.1 7 (by omega))
  have D2 := D1.fp f2
  have e2' : f_X5_isDocument 7 M1 = some (if pDoc (b 7) (n 7) = some (n 7) then 1 else 0, M2) := e2
  have no : f_X4_begin M = some ((2, 0), M1) → f_X5_begin M1 = some (0, up M2 73 0 1) → ∃ k o M1 M2, f_L_begin M = some (k, M1) ∧ f_X5_begin M1 = some (o, M2) ∧ M2 73 0 = k ∧ Inv M2 := fun g1 g2 =>
    ⟨1, 0, M1, up M2 73 0 1, by rw [f_L_begin, g1, Option.bind_some]; rfl, g2, up_s, n, b, h, ck, vs, is, W, (C1.fp f2).thrown, D2.thrown⟩
  by_cases hd : pDoc (b 7) (n 7) = some (n 7)
  · rw [if_pos hd] at e2'
    obtain ⟨s, d⟩ := r1.dc hd
    obtain ⟨g4, g0, -, -⟩ := pSig_some d.2.1
    have h2role : M2 74 840 = nI (b 7 0) := by have := ((D2.1 7 (by omega)).2.2.2 0 (by omega)).1; exact this
    have d9 : M1 56 9 = nI (b 7 0) := d.2.2.2.2.2.2.1.1
    by_cases h0 : b 7 0 = 0
    · -- the class
      obtain ⟨M3, e3, x1, x2, x3⟩ := s_clrL (k1 := 56) 7 200 0 M1 (by omega) (by omega)
      have row3 : ∀ a, 49 ≤ a → M3 a = M1 a := fun a ha => by funext j; exact x1 a j (by omega)
      have C3 : CInv M3 n b (fun _ => false) ck vs is := by
        obtain ⟨h1, h2, ⟨nn, bb, h3⟩, h4, h5, h6, h7⟩ := C1
        exact ⟨h1.keep (row3 _ (by omega)) (row3 _ (by omega)), h2.keep (row3 _ (by omega)) (row3 _ (by omega)), ⟨nn, bb, h3.keep (row3 _ (by omega)) (row3 _ (by omega))⟩, fun r hr => ⟨by rw [x3 r (Nat.zero_le _) hr]; rfl, fun q => by cases q⟩, by rw [row3 _ (by omega)]; exact h5, by rw [row3 _ (by omega)]; exact h6, by rw [row3 _ (by omega)]; exact h7⟩
      obtain ⟨M4, e4, C4, f4⟩ := s_put C3 (r1.1.keep (row3 _ (by omega)) (row3 _ (by omega))) hd (r := 0) (by omega)
      have k4 : ∀ a, 73 ≤ a → M4 a = M a := fun a ha => by rw [f4 a (by omega), row3 a (by omega), k1 a ha]
      have D4 : MInv M4 n b h ck vs is := D.km k4
      -- the reference
      obtain ⟨M5, e5, f5, -⟩ := ms_doc (t := 7) (by omega) (D4.1 7 (by omega))
      rw [if_pos hd] at e5
      have D5 := (D4.fp f5).thrown (v := 0)
      have role5 : M5 74 840 = nI (b 7 0) := (((D4.fp f5).1 7 (by omega)).2.2.2 0 (by omega)).1
      obtain ⟨M6, e6, y1, y2, y3⟩ := m_clrL 7 200 0 (up M5 73 0 0) (by omega) (by omega)
      have D6 : MInv M6 n b (fun _ => false) ck vs is := by
        obtain ⟨h1, h2, h3, h4, h5⟩ := D5
        refine ⟨fun t ht => ?_, fun r hr => by rw [y3 r (Nat.zero_le _) hr]; rfl, by rw [y1 73 (by decide)]; exact h3, by rw [y1 73 (by decide)]; exact h4, by rw [y1 73 (by decide)]; exact h5⟩
        obtain ⟨r1, r2, r3, r4⟩ := h1 t ht
        exact ⟨by rw [y1 75 (by decide)]; exact r1, r2, r3, fun i hi => by rw [y1 74 (by decide)]; exact r4 i hi⟩
      obtain ⟨M7, e7, D7, k7⟩ := m_trust D6 (r := 0) (x := 0) (by omega) rfl
      have row7 : ∀ a, a < 73 → M7 a = M4 a := fun a ha => by rw [k7 a (by omega), y1 a (by omega), up_row (by omega), f5.row (by omega)]
      refine ⟨0, 0, M4, M7, ?_, ?_, ?_, va_up n 0 (n 7), va_up b 0 (b 7), va_up (fun _ => false) 0 true, ck, vs, is, WF.put (fun r hr q => by cases q) hd h0, C4.keep row7, D7⟩
      · have est : f_X3_startFrom 56 M1 = some (0, M4) := by
          rw [f_X3_startFrom, show fL_X3_startFrom_2 200 56 0 M1 = some (0, M3) from e3, Option.bind_some]
          dsimp only
          rw [s_docOf (r := 0) (x := 0) rfl (by omega), Option.bind_some]
          dsimp only
          rw [if_pos (kB7 (r := 0) (by omega)), f_X0_row, Option.bind_some]
          dsimp only
          rw [if_pos (show kB (56 + 1) 1 = true by decide), show f_X0_read (7 * 0) (56 + 1) M3 = some (0, M4) from e4, Option.bind_some]
        have e : f_X4_begin M = some ((0, 0), M4) := by
          rw [f_X4_begin, e1, Option.bind_some]
          dsimp only
          rw [s_wholeD r1, if_pos hd, Option.bind_some]
          dsimp only
          rw [if_neg (by decide), s_role d, Option.bind_some]
          dsimp only
          rw [if_pos (by rw [h0]; rfl), est, Option.bind_some]
        rw [f_L_begin, e, Option.bind_some]; rfl
      · rw [f_X5_begin, show f_X5_isDocument 7 M4 = some (1, M5) from e5, Option.bind_some]
        dsimp only
        rw [if_neg (by decide), f_X5_roleOfDraft, role5, Option.bind_some]
        dsimp only
        rw [if_pos (by rw [h0]; rfl), show fL_X5_begin_35 200 0 (up M5 73 0 0) = some (0, M6) from e6, Option.bind_some]
        dsimp only
        rw [e7, Option.bind_some]
      · rw [k7 73 (by omega), y1 73 (by omega), up_s]
    · refine no ?_ ?_
      · rw [f_X4_begin, e1, Option.bind_some]
        dsimp only
        rw [s_wholeD r1, if_pos hd, Option.bind_some]
        dsimp only
        rw [if_neg (by decide), s_role d, Option.bind_some]
        dsimp only
        rw [if_neg (nI_ne0 (by omega) (by omega))]
      · rw [f_X5_begin, e2', Option.bind_some]
        dsimp only
        rw [if_neg (by decide), f_X5_roleOfDraft, h2role, Option.bind_some]
        dsimp only
        rw [if_neg (nI_ne0 (by omega) (by omega))]
  · rw [if_neg hd] at e2'
    refine no ?_ ?_
    · rw [f_X4_begin, e1, Option.bind_some]
      dsimp only
      rw [s_wholeD r1, if_neg hd]; rfl
    · rw [f_X5_begin, e2']; rfl
