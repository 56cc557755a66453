theorem tPos_lt {b : Nat → Nat} {i : Nat} : ∀ {c j : Nat}, j + (c + 1) = i → tPos b j < tPos b i := by
  intro c
  induction c with
  | zero => intro j h; subst h; rw [tPos]; omega
  | succ c ih => intro j h; have := ih (j := j + 1) (by omega); rw [tPos] at this; omega
theorem ms_chkL {t n i p : Nat} {b : Nat → Nat} {x1 x2 x3 : Int32} (hi : tPos b i + b (tPos b i) < n) (hT : ∀ j, j < i → tPos b j + b (tPos b j) < n ∧ b (tPos b j) ≤ 4) : ∀ (c fuel j : Nat) (M : Me), c < fuel → j + c = i → MS M t n b (some p) →
    ∃ M', fL_X5_passTargets_41 fuel x1 x2 x3 (nI (120 * t + tPos b i)) (nI (120 * t + tPos b j)) M = some (0, M') ∧ MS M' t n b (if (List.range' j c).any (fun j => same b (tPos b j) (tPos b i)) = true then none else some p) ∧ FM M M' := by
  intro c
  induction c with
  | zero =>
    intro fuel j M hf hj h
    obtain ⟨f, rfl⟩ : ∃ f, fuel = f + 1 := ⟨fuel - 1, by omega⟩
    have hn := h.1.2.1
    have : j = i := by omega
    subst this
    exact ⟨M, by rw [fL_X5_passTargets_41, if_neg (by rw [(ms_good h).2.1]; decide), if_pos (nI_le (by omega) (by have := h.2.1; omega))], h, FM.rf⟩
  | succ c ih =>
    intro fuel j M hf hj h
    obtain ⟨f, rfl⟩ : ∃ f, fuel = f + 1 := ⟨fuel - 1, by omega⟩
    have hn := h.1.2.1
    have ht := h.2.1
    have hlt : tPos b j < tPos b i := tPos_lt hj
    obtain ⟨t1, t2⟩ := hT j (by omega)
    have hrow := (h.1.2.2.2 (tPos b j) (by omega)).1
    rw [fL_X5_passTargets_41, if_neg (by rw [(ms_good h).2.1]; decide), if_neg (nI_ge (by omega) (by omega)), ms_same h.1 ht t1 hi t2, Option.bind_some, List.range'_succ, List.any_cons]
    by_cases g : same b (tPos b j) (tPos b i) = true
    · simp only [if_pos g]
      rw [if_neg (show ¬ (1 : Int32) = 0 by decide), al74, if_pos (inB_nI (by omega) (by omega)), g, Bool.true_or, if_pos rfl]
      obtain ⟨f', rfl⟩ : ∃ f', f = f' + 1 := ⟨f - 1, by omega⟩
      refine ⟨up M 73 9 0, ?_, ms_bad' h, FM.u (by omega)⟩
      rw [fL_X5_passTargets_41, if_pos up_s]
    · simp only [if_neg g]
      rw [if_pos trivial, al74, if_pos (inB_nI (by omega) (by omega)), nI_clamp (by omega), hrow, nI_add, show (6 : Int32) = nI 6 from rfl, nI_add, show 120 * t + tPos b j + b (tPos b j) + 6 = 120 * t + tPos b (j + 1) by rw [tPos]; omega]
      simp only [Bool.not_eq_true] at g
      rw [g, Bool.false_or]
      obtain ⟨M', a1, a2, a3⟩ := ih f (j + 1) (up M 73 9 1) (by omega) (by omega) (ms_same1 h)
      exact ⟨M', a1, a2, (FM.u (by omega)).tr a3⟩
theorem ms_tgtL {t n C : Nat} {b : Nat → Nat} (hC : C ≤ 4) : ∀ (c fuel i : Nat) (M : Me), c < fuel → i + c = C → (∀ j, j < i → tPos b j + b (tPos b j) < n ∧ b (tPos b j) ≤ 4) → MS M t n b (some (tPos b i)) →
    ∃ M', fL_X5_passTargets_14 fuel (nI C) (nI (120 * t + 5)) (nI i) M = some (0, M') ∧ MS M' t n b (pTs b n c i (tPos b i)) ∧ FM M M' := by
  intro c
  induction c with
  | zero =>
    intro fuel i M hf hi hT h
    obtain ⟨f, rfl⟩ : ∃ f, fuel = f + 1 := ⟨fuel - 1, by omega⟩
    exact ⟨M, by rw [fL_X5_passTargets_14, if_pos (nI_le (by omega) (by omega))], h, FM.rf⟩
  | succ c ih =>
    intro fuel i M hf hi hT h
    obtain ⟨f, rfl⟩ : ∃ f, fuel = f + 1 := ⟨fuel - 1, by omega⟩
    obtain ⟨f', rfl⟩ : ∃ f', f = f' + 1 := ⟨f - 1, by omega⟩
    obtain ⟨M1, e1, h1, f1⟩ := ms_letters (lo := 1) (hi := 4) (lo' := 1) (hi' := 4) rfl rfl (by omega) (by omega) h
    rw [Option.bind_some] at h1
    rw [fL_X5_passTargets_14, if_neg (nI_ge (by omega) (by omega)), if_neg (by rw [(ms_good h).2.1]; decide), e1, Option.bind_some, (ms_good h).2.2, pTs]
    cases hq : pLet b n 1 4 (tPos b i) with
    | none =>
      rw [hq] at h1
      obtain ⟨M3, e3, h3, f3⟩ := ms_skip (c := 5) (c' := 5) rfl (by omega) h1
      refine ⟨M3, ?_, h3, f1.tr f3⟩
      rw [fL_X5_passTargets_41, if_pos (ms_none h1), Option.bind_some, e3, Option.bind_some, fL_X5_passTargets_14]
      have z := ms_none h3
      simp only [z, if_pos]
      split <;> rfl
    | some q =>
      rw [hq] at h1
      obtain ⟨g1, g2, g3, g4, g5⟩ := pLet_some hq
      have chk := ms_chkL (t := t) (n := n) (i := i) (p := q) (b := b) (x1 := nI C) (x2 := nI (120 * t + 5)) (x3 := nI i) (by omega) hT i 200 0 M1 (by omega) (by omega) h1
      obtain ⟨M2, e2, h2, f2⟩ := chk
      rw [show tPos b 0 = 5 from rfl] at e2
      rw [e2, Option.bind_some]
      rw [← List.range_eq_range'] at h2
      obtain ⟨M3, e3, h3, f3⟩ := ms_skip (c := 5) (c' := 5) rfl (by omega) h2
      rw [e3, Option.bind_some]
      have F3 := (f1.tr f2).tr f3
      have bad : MS M3 t n b none → (∃ M', fL_X5_passTargets_14 (f' + 1) (nI C) (nI (120 * t + 5)) (nI i + 1) M3 = some (0, M') ∧ MS M' t n b none ∧ FM M M') := by
        intro hn
        refine ⟨M3, ?_, hn, F3⟩
        rw [fL_X5_passTargets_14]
        simp only [ms_none hn, if_pos]
        split <;> rfl
      by_cases g : (List.range i).any (fun j => same b (tPos b j) (tPos b i)) = true
      · rw [if_pos g] at h3
        have : ((some q).bind fun q => (pSk n 5 q).bind fun r => if (List.range i).any (fun j => same b (tPos b j) (tPos b i)) = true then none else pTs b n c (i + 1) r) = none := by
          rw [Option.bind_some]
          cases pSk n 5 q with
          | none => rfl
          | some r => rw [Option.bind_some, if_pos g]
        rw [this]
        exact bad h3
      · rw [if_neg g] at h3
        rw [Option.bind_some] at h3 ⊢
        cases hs : pSk n 5 q with
        | none => rw [hs] at h3; exact bad h3
        | some r =>
          rw [hs] at h3
          rw [Option.bind_some, if_neg g, nI_1]
          have hr : r = tPos b (i + 1) := by have := (pSk_some hs).2; rw [tPos]; omega
          subst hr
          obtain ⟨M4, e4, h4, f4⟩ := ih (f' + 1) (i + 1) M3 (by omega) (by omega) (fun j hj => by
            by_cases hji : j = i
            · subst hji; exact ⟨by omega, g4⟩
            · exact hT j (by omega)) h3
          exact ⟨M4, e4, h4, F3.tr f4⟩
theorem ms_delN {t n : Nat} {b : Nat → Nat} {M : Me} (h : MS M t n b none) (f : Nat) (x1 r x4 : Int32) : fL_X5_passTargets_116 (f + 1) x1 r x4 M = some (0, M) := by
  rw [fL_X5_passTargets_116]
  simp only [ms_none h, if_pos]
  split <;> rfl
theorem ms_delL {t n : Nat} {b : Nat → Nat} : ∀ (c fuel i : Nat) (r : Int32) (M : Me) (p : Nat), c < fuel → i + c < 100 → MS M t n b (some p) → ∃ M', fL_X5_passTargets_116 fuel (nI (i + c)) r (nI i) M = some (0, M') ∧ MS M' t n b (pDs b n c r p) ∧ FM M M' := by
  intro c
  induction c with
  | zero =>
    intro fuel i r M p hf hi h
    obtain ⟨f, rfl⟩ : ∃ f, fuel = f + 1 := ⟨fuel - 1, by omega⟩
    exact ⟨M, by rw [fL_X5_passTargets_116, if_pos (nI_le (by omega) (by omega))], h, FM.rf⟩
  | succ c ih =>
    intro fuel i r M p hf hi h
    obtain ⟨f, rfl⟩ : ∃ f, fuel = f + 1 := ⟨fuel - 1, by omega⟩
    obtain ⟨f', rfl⟩ : ∃ f', f = f' + 1 := ⟨f - 1, by omega⟩
    obtain ⟨v, M1, e1, h1, f1, v1⟩ := ms_between (lo := 4) (hi := 6) (lo' := 4) (hi' := 6) rfl rfl (by omega) (by omega) h
    rw [Option.bind_some] at h1
    have tail : ∀ (M2 : Me) (st2 : Option Nat) (r2 : Int32), MS M2 t n b st2 → FM M M2 → ∃ M', ((f_X5_between 0 1 M2).bind fun q9 => ((f_X5_passKeys q9.2).bind fun q10 => ((f_X5_passLetters 0 3 q10.2).bind fun q11 => fL_X5_passTargets_116 (f' + 1) (nI (i + (c + 1))) r2 (nI i + 1) q11.2))) = some (0, M') ∧ MS M' t n b (st2.bind fun p1 => (pN b n 0 1 p1).bind fun p2 => (pKey b n p2).bind fun p3 => (pLet b n 0 3 p3).bind fun p4 => pDs b n c r2 p4) ∧ FM M M' := by
      intro M2 st2 r2 h2 F2
      obtain ⟨w, M3, e3, h3, f3, -⟩ := ms_between (lo := 0) (hi := 1) (lo' := 0) (hi' := 1) rfl rfl (by omega) (by omega) h2
      obtain ⟨M4, e4, h4, f4⟩ := ms_key h3
      obtain ⟨M5, e5, h5, f5⟩ := ms_letters (lo := 0) (hi := 3) (lo' := 0) (hi' := 3) rfl rfl (by omega) (by omega) h4
      have hsp : (st2.bind fun p1 => (pN b n 0 1 p1).bind fun p2 => (pKey b n p2).bind fun p3 => (pLet b n 0 3 p3).bind fun p4 => pDs b n c r2 p4) = (((st2.bind (pN b n 0 1)).bind (pKey b n)).bind (pLet b n 0 3)).bind (pDs b n c r2) := by
        cases st2 with
        | none => rfl
        | some p1 => simp only [Option.bind_some, ob_bind]
      rw [hsp, e3, Option.bind_some, e4, Option.bind_some, e5, Option.bind_some, nI_1]
      cases hq : ((st2.bind (pN b n 0 1)).bind (pKey b n)).bind (pLet b n 0 3) with
      | none => rw [hq] at h5; exact ⟨M5, ms_delN h5 _ _ _ _, h5, ((F2.tr f3).tr f4).tr f5⟩
      | some q =>
        rw [hq] at h5
        obtain ⟨M6, e6, h6, f6⟩ := ih (f' + 1) (i + 1) r2 M5 q (by omega) (by omega) h5
        exact ⟨M6, by rw [show i + (c + 1) = i + 1 + c by omega]; exact e6, h6, (((F2.tr f3).tr f4).tr f5).tr f6⟩
    rw [fL_X5_passTargets_116, if_neg (nI_ge (by omega) (by omega)), if_neg (by rw [(ms_good h).2.1]; decide), e1, Option.bind_some, pDs]
    cases hq : pN b n 4 6 p with
    | none =>
      rw [hq] at h1
      rw [if_pos (ms_none h1)]
      exact tail (up M1 73 9 0) none _ (ms_bad' h1) (f1.tr (FM.u (by omega)))
    | some q =>
      rw [hq] at h1
      have hb := pN_some hq
      rw [if_neg (show ¬ M1 73 9 = 0 by rw [(ms_good h1).2.1]; decide), v1 p rfl (by rw [hq, hb.2.2.2])]
      rw [Option.bind_some]
      by_cases g : ((r >>> (nI (b p) &&& 31)) &&& 1) = 0
      · rw [if_pos g, if_pos g]
        exact tail (up M1 73 9 1) (some q) _ (ms_same1 h1) (f1.tr (FM.u (by omega)))
      · rw [if_neg g, if_neg g]
        exact tail (up M1 73 9 0) none _ (ms_bad' h1) (f1.tr (FM.u (by omega)))
theorem ms_tgt {t n : Nat} {b : Nat → Nat} {M : Me} (h : MS M t n b (some 4)) : ∃ M', f_X5_passTargets M = some (0, M') ∧ MS M' t n b ((pN b n 0 4 4).bind fun q => (pTs b n (b 4) 0 q).bind fun r => (pN b n 0 3 r).bind fun s => pDs b n (b r) 0 s) ∧ FM M M' := by
  obtain ⟨v, M1, e1, h1, f1, v1⟩ := ms_between (lo := 0) (hi := 4) (lo' := 0) (hi' := 4) rfl rfl (by omega) (by omega) h
  rw [Option.bind_some] at h1
  rw [f_X5_passTargets, e1, Option.bind_some]
  -- the second half
  have half : ∀ (M2 : Me) (st2 : Option Nat), MS M2 t n b st2 → FM M M2 → ∃ M', ((f_X5_between 0 3 M2).bind fun q7 => ((fL_X5_passTargets_116 200 q7.1 0 0 q7.2).bind fun q18 => some ((0 : Int32), q18.2))) = some (0, M') ∧ MS M' t n b (st2.bind fun r => (pN b n 0 3 r).bind fun s => pDs b n (b r) 0 s) ∧ FM M M' := by
    intro M2 st2 h2 F2
    obtain ⟨w, M3, e3, h3, f3, w1⟩ := ms_between (lo := 0) (hi := 3) (lo' := 0) (hi' := 3) rfl rfl (by omega) (by omega) h2
    rw [e3, Option.bind_some]
    cases hq : st2.bind (pN b n 0 3) with
    | none =>
      rw [hq] at h3
      refine ⟨M3, ?_, ?_, F2.tr f3⟩
      · rw [ms_delN h3]; rfl
      · cases st2 with
        | none => exact h3
        | some p => rw [Option.bind_some] at hq ⊢; rw [hq]; exact h3
    | some q =>
      obtain ⟨p, rfl, d, rfl⟩ := pN_st hq
      rw [hq] at h3
      have hb := pN_some d
      rw [w1 p rfl d]
      obtain ⟨M4, e4, h4, f4⟩ := ms_delL (b p) 200 0 0 M3 _ (by omega) (by omega) h3
      rw [Nat.zero_add] at e4
      refine ⟨M4, ?_, ?_, (F2.tr f3).tr f4⟩
      · show ((fL_X5_passTargets_116 200 (nI (b p)) 0 (nI 0) M3).bind fun q18 => some ((0 : Int32), q18.2)) = _
        rw [e4]; rfl
      · rw [Option.bind_some, d, Option.bind_some]; exact h4
  cases hq : pN b n 0 4 4 with
  | none =>
    rw [hq] at h1
    have : fL_X5_passTargets_14 200 v (M1 73 7) 0 M1 = some (0, M1) := by
      rw [fL_X5_passTargets_14]
      simp only [ms_none h1, if_pos]
      split <;> rfl
    simp only []
    rw [this, Option.bind_some]
    obtain ⟨M', a1, a2, a3⟩ := half M1 none h1 f1
    exact ⟨M', a1, a2, a3⟩
  | some q =>
    rw [hq] at h1
    have hb := pN_some hq
    have hq5 : q = tPos b 0 := by rw [tPos]; omega
    subst hq5
    have hv := v1 4 rfl (by rw [hq]; rfl)
    subst hv
    obtain ⟨M2, e2, h2, f2⟩ := ms_tgtL (t := t) (n := n) (C := b 4) (b := b) (by omega) (b 4) 200 0 M1 (by omega) (by omega) (fun j hj => absurd hj (Nat.not_lt_zero j)) h1
    have e2' : fL_X5_passTargets_14 200 (nI (b 4)) (M1 73 7) 0 M1 = some (0, M2) := by rw [(ms_good h1).2.2]; exact e2
    simp only []
    rw [e2', Option.bind_some]
    obtain ⟨M', a1, a2, a3⟩ := half M2 _ h2 (f1.tr f2)
    exact ⟨M', a1, a2, a3⟩
