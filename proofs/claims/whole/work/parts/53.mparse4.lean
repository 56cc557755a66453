theorem ms_rootL {t n : Nat} {b : Nat → Nat} : ∀ (c fuel i : Nat) (M : Me) (p : Nat), c < fuel → i + c = 4 → MS M t n b (some p) → ∃ M', fL_X5_passBody_6 fuel (nI i) M = some (0, M') ∧ MS M' t n b (pRk b n c p) ∧ FM M M' := by
  intro c
  induction c with
  | zero =>
    intro fuel i M p hf hi h
    obtain ⟨f, rfl⟩ : ∃ f, fuel = f + 1 := ⟨fuel - 1, by omega⟩
    exact ⟨M, by rw [fL_X5_passBody_6, if_pos (show (4 : Int32) ≤ nI i from nI_le (a := 4) (by omega) (by omega))], h, FM.rf⟩
  | succ c ih =>
    intro fuel i M p hf hi h
    obtain ⟨f, rfl⟩ : ∃ f, fuel = f + 1 := ⟨fuel - 1, by omega⟩
    obtain ⟨f', rfl⟩ : ∃ f', f = f' + 1 := ⟨f - 1, by omega⟩
    obtain ⟨M1, e1, h1, f1⟩ := ms_key h
    rw [Option.bind_some] at h1
    rw [fL_X5_passBody_6, if_neg (show ¬ (4 : Int32) ≤ nI i from nI_ge (b := 4) (by omega) (by omega)), if_neg (by rw [(ms_good h).2.1]; decide), e1, Option.bind_some, pRk]
    cases hq : pKey b n p with
    | none =>
      rw [hq] at h1
      refine ⟨M1, ?_, h1, f1⟩
      rw [fL_X5_passBody_6]
      simp only [ms_none h1, if_pos]
      split <;> rfl
    | some q =>
      rw [hq] at h1
      obtain ⟨M2, e2, h2, f2⟩ := ih (f' + 1) (i + 1) M1 q (by omega) (by omega) h1
      exact ⟨M2, by rw [nI_1]; exact e2, h2, f1.tr f2⟩
theorem ms_entN {t n : Nat} {b : Nat → Nat} {M : Me} (h : MS M t n b none) (f : Nat) (x2 x3 x4 : Int32) : fL_X5_passBody_70 (f + 1) x2 x3 x4 M = some (0, M) := by
  rw [fL_X5_passBody_70]
  simp only [ms_none h, if_pos]
  split <;> rfl
theorem ms_entL {t n : Nat} {b : Nat → Nat} : ∀ (c fuel i lo hi : Nat) (x3 : Int32) (M : Me) (p : Nat), c < fuel → i + c < 100 → lo < 500 → (i = 0 → lo = 3 ∧ hi = 3) → (0 < i → x3 + 1 = nI lo ∧ hi = 6) → MS M t n b (some p) → ∃ M', fL_X5_passBody_70 fuel (nI (i + c)) x3 (nI i) M = some (0, M') ∧ MS M' t n b (pEs b n c lo hi p) ∧ FM M M' := by
  intro c
  induction c with
  | zero =>
    intro fuel i lo hi x3 M p hf hi1 hlo h0 h1 h
    obtain ⟨f, rfl⟩ : ∃ f, fuel = f + 1 := ⟨fuel - 1, by omega⟩
    exact ⟨M, by rw [fL_X5_passBody_70, if_pos (nI_le (by omega) (by omega))], h, FM.rf⟩
  | succ c ih =>
    intro fuel i lo hi x3 M p hf hi1 hlo h0 h1 h
    obtain ⟨f, rfl⟩ : ∃ f, fuel = f + 1 := ⟨fuel - 1, by omega⟩
    obtain ⟨f', rfl⟩ : ∃ f', f = f' + 1 := ⟨f - 1, by omega⟩
    have hhi : hi < 1000 := by
      rcases Nat.eq_zero_or_pos i with z | z
      · have := (h0 z).2; omega
      · have := (h1 z).2; omega
    obtain ⟨v, M1, e1, g1, f1, v1⟩ := ms_between (lo := lo) (hi := hi) (lo' := nI lo) (hi' := nI hi) rfl rfl (by omega) hhi h
    obtain ⟨w, M2, e2, g2, f2, -⟩ := ms_between (lo := 1) (hi := 255) (lo' := 1) (hi' := 255) rfl rfl (by omega) (by omega) g1
    rw [Option.bind_some] at g1 g2
    have fin : ∃ M', fL_X5_passBody_70 (f' + 1) (nI (i + (c + 1))) v (nI i + 1) M2 = some (0, M') ∧ MS M' t n b (pEs b n (c + 1) lo hi p) ∧ FM M M' := by
      rw [pEs]
      cases hq : pN b n lo hi p with
      | none => rw [hq] at g2; exact ⟨M2, ms_entN g2 _ _ _ _, g2, f1.tr f2⟩
      | some q =>
        have hb := pN_some hq
        rw [hq, Option.bind_some] at g2
        rw [Option.bind_some]
        cases hr : pN b n 1 255 q with
        | none => rw [hr] at g2; exact ⟨M2, ms_entN g2 _ _ _ _, g2, f1.tr f2⟩
        | some r =>
          rw [hr] at g2
          rw [Option.bind_some]
          obtain ⟨M3, e3, h3, f3⟩ := ih (f' + 1) (i + 1) (b p + 1) 6 v M2 r (by omega) (by omega) (by
            have := (h.1.2.2.2 p hb.1).2; omega) (fun z => by omega) (fun _ => ⟨by rw [v1 p rfl (by rw [hq, hb.2.2.2]), nI_1], rfl⟩) g2
          exact ⟨M3, by rw [nI_1, show i + (c + 1) = i + 1 + c by omega]; exact e3, h3, (f1.tr f2).tr f3⟩
    rw [fL_X5_passBody_70, if_neg (nI_ge (by omega) (by omega)), if_neg (by rw [(ms_good h).2.1]; decide)]
    rcases Nat.eq_zero_or_pos i with z | z
    · obtain ⟨rfl, rfl⟩ := h0 z
      rw [if_pos (by rw [z]; rfl), show (3 : Int32) = nI 3 from rfl, e1, Option.bind_some, e2, Option.bind_some]
      exact fin
    · obtain ⟨k1, rfl⟩ := h1 z
      rw [if_neg (show ¬ nI i = (0 : Int32) from nI_ne0 z (by omega)), k1, show (6 : Int32) = nI 6 from rfl, e1, Option.bind_some, e2, Option.bind_some]
      exact fin
theorem ms_body {t n r : Nat} {b : Nat → Nat} {M : Me} (hr : r ≤ 6) (h : MS M t n b (some 4)) : ∃ M', f_X5_passBody (nI r) M = some (0, M') ∧ MS M' t n b (pBody b n r 4) ∧ FM M M' := by
  rw [f_X5_passBody, pBody]
  by_cases c0 : r = 0
  · subst c0
    rw [if_pos (show nI 0 = (0 : Int32) from rfl), if_pos rfl]
    obtain ⟨M1, e1, h1, f1⟩ := ms_rootL 4 200 0 M 4 (by omega) (by omega) h
    exact ⟨M1, by rw [show (0 : Int32) = nI 0 from rfl, e1]; rfl, h1, f1⟩
  rw [if_neg (show ¬ nI r = (0 : Int32) from nI_ne0 (by omega) (by omega)), if_neg c0]
  by_cases c1 : r = 1
  · subst c1
    rw [if_pos (show nI 1 = (1 : Int32) from rfl), if_pos rfl]
    obtain ⟨w, M1, e1, h1, f1, -⟩ := ms_between (lo := 1) (hi := 255) (lo' := 1) (hi' := 255) rfl rfl (by omega) (by omega) h
    obtain ⟨M2, e2, h2, f2⟩ := ms_skip (c := 4) (c' := 4) rfl (by omega) h1
    exact ⟨M2, by rw [e1, Option.bind_some, e2]; rfl, h2, f1.tr f2⟩
  rw [if_neg (show ¬ nI r = (1 : Int32) from fun q => c1 ((nI_eq (b := 1) (by omega) (by omega)).mp q)), if_neg c1]
  by_cases c2 : r = 2
  · subst c2
    rw [if_pos (show nI 2 = (2 : Int32) from rfl), if_pos rfl]
    obtain ⟨w, M1, e1, h1, f1, w1⟩ := ms_between (lo := 1) (hi := 4) (lo' := 1) (hi' := 4) rfl rfl (by omega) (by omega) h
    rw [Option.bind_some] at h1
    rw [e1, Option.bind_some]
    cases hq : pN b n 1 4 4 with
    | none =>
      rw [hq] at h1
      exact ⟨M1, by rw [ms_entN h1]; rfl, h1, f1⟩
    | some q =>
      have hb := pN_some hq
      rw [hq] at h1
      rw [w1 4 rfl (by rw [hq, hb.2.2.2])]
      obtain ⟨M2, e2, h2, f2⟩ := ms_entL (b 4) 200 0 3 3 2 M1 q (by omega) (by omega) (by omega) (fun _ => ⟨rfl, rfl⟩) (fun z => by omega) h1
      rw [Nat.zero_add] at e2
      exact ⟨M2, by rw [show (0 : Int32) = nI 0 from rfl, e2]; rfl, h2, f1.tr f2⟩
  rw [if_neg (show ¬ nI r = (2 : Int32) from fun q => c2 ((nI_eq (b := 2) (by omega) (by omega)).mp q)), if_neg c2]
  obtain ⟨M1, e1, h1, f1⟩ := ms_tgt h
  exact ⟨M1, by rw [e1]; rfl, h1, f1⟩
/-- what passing changes of the reference -/
def FP (M M' : Me) : Prop := ∀ a j, ¬ (a = 73 ∧ (j = 7 ∨ j = 8 ∨ j = 9 ∨ j = 10 ∨ j = 11)) → M' a j = M a j
theorem FM.fp {M M' : Me} (h : FM M M') : FP M M' := fun a j c => h a j (fun q => c ⟨q.1, by omega⟩)
theorem FP.tr {M M1 M2 : Me} (h : FP M M1) (g : FP M1 M2) : FP M M2 := fun a j c => (g a j c).trans (h a j c)
theorem FP.u {M : Me} {j : Nat} {v : Int32} (hj : j = 7 ∨ j = 8 ∨ j = 9 ∨ j = 10 ∨ j = 11) : FP M (up M 73 j v) := fun a i c => by
  unfold up
  rw [if_neg]
  rintro ⟨rfl, rfl⟩
  exact c ⟨rfl, hj⟩
theorem FP.row {a : Nat} {M M' : Me} (h : FP M M') (ha : a ≠ 73) : M' a = M a := by
  funext j
  exact h a j (fun q => ha q.1)
theorem RM.fp {t n : Nat} {b : Nat → Nat} {M M' : Me} (h : RM M t n b) (f : FP M M') : RM M' t n b := by
  obtain ⟨h1, h2, h3, h4⟩ := h
  exact ⟨by rw [f.row (by decide)]; exact h1, h2, h3, fun i hi => by rw [f.row (by decide)]; exact h4 i hi⟩
theorem ms_signed {t n : Nat} {b : Nat → Nat} {M : Me} (ht : t ≤ 7) (hR : RM M t n b) : ∃ M', f_X5_passSigned (nI t) M = some (if pSig b n = none then 0 else 1, M') ∧ MS M' t n b (pSig b n) ∧ FP M M' ∧ M' 73 10 = M' 73 7 := by
  have r2 := hR.2.1
  have F0 : FP M (up (up (up M 73 7 (120 * nI t)) 73 8 (120 * nI t + M 75 t)) 73 9 1) := ((FP.u (by omega)).tr (FP.u (by omega))).tr (FP.u (by omega))
  have e120 : (120 : Int32) * nI t = nI (120 * t) := pk_mul 120 t
  have h0 : MS (up (up (up M 73 7 (120 * nI t)) 73 8 (120 * nI t + M 75 t)) 73 9 1) t n b (some 0) := by
    refine ms_set (hR.fp F0) ht ?_ (by omega) up_s ?_
    · rw [up_j (by decide), up_s, hR.1, e120, nI_add]
    · rw [up_j (by decide), up_j (by decide), up_s, e120]; rfl
  obtain ⟨v, M1, e1, h1, f1, v1⟩ := ms_between (lo := 0) (hi := 6) (lo' := 0) (hi' := 6) rfl rfl (by omega) (by omega) h0
  obtain ⟨w, M2, e2, h2, f2, -⟩ := ms_between (lo := 1) (hi := 255) (lo' := 1) (hi' := 255) rfl rfl (by omega) (by omega) h1
  obtain ⟨M3, e3, h3, f3⟩ := ms_skip (c := 2) (c' := 2) rfl (by omega) h2
  have F3 := F0.tr ((f1.tr f2).tr f3).fp
  rw [f_X5_passSigned, al75, if_pos (inB_nI (by omega) (by omega)), nI_clamp (by omega), e1, Option.bind_some, e2, Option.bind_some, e3, Option.bind_some]
  have up10 : ∀ {M4 : Me} {st : Option Nat}, MS M4 t n b st → MS (up M4 73 10 (M4 73 7)) t n b st ∧ up M4 73 10 (M4 73 7) 73 10 = up M4 73 10 (M4 73 7) 73 7 := by
    intro M4 st h
    refine ⟨⟨h.1.fp (FP.u (by omega)), h.2.1, by rw [up_j (by decide)]; exact h.2.2.1, ?_⟩, by rw [up_s, up_j (by decide)]⟩
    rw [up_j (by decide), up_j (by decide)]
    exact h.2.2.2
  have sig : pSig b n = (((some 0).bind (pN b n 0 6)).bind (pN b n 1 255)).bind (fun q => (pSk n 2 q).bind (pBody b n (b 0))) := by
    rw [pSig, ob_bind, Option.bind_some]
  rw [sig]
  cases hq : (((some 0).bind (pN b n 0 6)).bind (pN b n 1 255)).bind (pSk n 2) with
  | none =>
    rw [hq] at h3
    have hn : (((some 0).bind (pN b n 0 6)).bind (pN b n 1 255)).bind (fun q => (pSk n 2 q).bind (pBody b n (b 0))) = none := by
      rw [← ob_bind, hq]; rfl
    rw [hn, if_pos (show M3 73 9 = 0 from ms_none h3)]
    simp only [ms_none h3]
    obtain ⟨a1, a2⟩ := up10 h3
    exact ⟨_, rfl, a1, F3.tr (FP.u (by omega)), a2⟩
  | some q =>
    rw [hq] at h3
    obtain ⟨p2, g2, d3⟩ := ob hq
    obtain ⟨p1, g1, d2, rfl⟩ := pN_st g2
    obtain ⟨p0, g0, d1, rfl⟩ := pN_st g1
    cases g0
    have hq4 : q = 4 := by have := (pSk_some d3).2; omega
    subst hq4
    have hb0 := (pN_some d1).2.2.1
    rw [if_neg (show ¬ M3 73 9 = 0 by rw [(ms_good h3).2.1]; decide), v1 0 rfl d1]
    obtain ⟨M4, e4, h4, f4⟩ := ms_body hb0 h3
    have hs : (((some 0).bind (pN b n 0 6)).bind (pN b n 1 255)).bind (fun q => (pSk n 2 q).bind (pBody b n (b 0))) = pBody b n (b 0) 4 := by
      rw [← ob_bind, hq]; rfl
    rw [e4, Option.bind_some, hs]
    obtain ⟨a1, a2⟩ := up10 h4
    refine ⟨up M4 73 10 (M4 73 7), ?_, a1, (F3.tr f4.fp).tr (FP.u (by omega)), a2⟩
    cases hb : pBody b n (b 0) 4 with
    | none => rw [hb] at h4; simp only [ms_none h4]; rfl
    | some z => rw [hb] at h4; simp only [(ms_good h4).2.1]; rfl
theorem ms_sgN {t n : Nat} {b : Nat → Nat} {M : Me} (h : MS M t n b none) (f : Nat) (x2 x3 : Int32) : fL_X5_isDocument_20 (f + 1) x2 x3 M = some (0, M) := by
  rw [fL_X5_isDocument_20]
  simp only [ms_none h, if_pos]
  split <;> rfl
theorem ms_sgL {t n : Nat} {b : Nat → Nat} : ∀ (c fuel i : Nat) (M : Me) (p : Nat), c < fuel → i + c < 100 → MS M t n b (some p) → ∃ M', fL_X5_isDocument_20 fuel (nI (i + c)) (nI i) M = some (0, M') ∧ MS M' t n b (pSg b n c p) ∧ FM M M' := by
  intro c
  induction c with
  | zero =>
    intro fuel i M p hf hi h
    obtain ⟨f, rfl⟩ : ∃ f, fuel = f + 1 := ⟨fuel - 1, by omega⟩
    exact ⟨M, by rw [fL_X5_isDocument_20, if_pos (nI_le (by omega) (by omega))], h, FM.rf⟩
  | succ c ih =>
    intro fuel i M p hf hi h
    obtain ⟨f, rfl⟩ : ∃ f, fuel = f + 1 := ⟨fuel - 1, by omega⟩
    obtain ⟨f', rfl⟩ : ∃ f', f = f' + 1 := ⟨f - 1, by omega⟩
    obtain ⟨v, M1, e1, h1, f1, -⟩ := ms_between (lo := 0) (hi := 9) (lo' := 0) (hi' := 9) rfl rfl (by omega) (by omega) h
    obtain ⟨M2, e2, h2, f2⟩ := ms_skip (c := 4) (c' := 4) rfl (by omega) h1
    rw [fL_X5_isDocument_20, if_neg (nI_ge (by omega) (by omega)), if_neg (by rw [(ms_good h).2.1]; decide), e1, Option.bind_some, e2, Option.bind_some, pSg]
    rw [Option.bind_some] at h2
    cases hq : (pN b n 0 9 p).bind (pSk n 4) with
    | none =>
      rw [hq] at h2
      have : ((pN b n 0 9 p).bind fun q => (pSk n 4 q).bind fun r => pSg b n c r) = none := by rw [← ob_bind, hq]; rfl
      rw [this]
      exact ⟨M2, ms_sgN h2 _ _ _, h2, f1.tr f2⟩
    | some q =>
      rw [hq] at h2
      have : ((pN b n 0 9 p).bind fun q => (pSk n 4 q).bind fun r => pSg b n c r) = pSg b n c q := by rw [← ob_bind, hq]; rfl
      rw [this]
      obtain ⟨M3, e3, h3, f3⟩ := ih (f' + 1) (i + 1) M2 q (by omega) (by omega) h2
      exact ⟨M3, by rw [nI_1, show i + (c + 1) = i + 1 + c by omega]; exact e3, h3, (f1.tr f2).tr f3⟩
theorem ms_doc {t n : Nat} {b : Nat → Nat} {M : Me} (ht : t ≤ 7) (hR : RM M t n b) : ∃ M', f_X5_isDocument (nI t) M = some (if pDoc b n = some n then 1 else 0, M') ∧ FP M M' ∧ (∀ s, pSig b n = some s → M' 73 10 = nI (120 * t + s)) := by
  obtain ⟨M1, e1, h1, f1, k1⟩ := ms_signed ht hR
  have r2 := hR.2.1
  rw [f_X5_isDocument, e1, Option.bind_some]
  cases hq : pSig b n with
  | none =>
    simp only [if_pos]
    refine ⟨M1, ?_, f1, fun s hs => by cases hs⟩
    rw [if_neg]
    rw [pDoc, hq]; intro z; cases z
  | some s =>
    rw [hq] at h1
    simp only [if_neg (show ¬ some s = none by intro z; cases z)]
    rw [if_neg (show ¬ (1 : Int32) = 0 by decide)]
    obtain ⟨v, M2, e2, h2, f2, v1⟩ := ms_between (lo := 0) (hi := 6) (lo' := 0) (hi' := 6) rfl rfl (by omega) (by omega) h1
    rw [e2, Option.bind_some]
    have s10 : M1 73 10 = nI (120 * t + s) := by rw [k1]; exact (ms_good h1).2.2
    have fin : ∀ (M3 : Me) (st : Option Nat), MS M3 t n b st → FM M1 M3 → pDoc b n = st → ∃ M', (if (M3 73 9) = 0 then some ((0 : Int32), M3) else if (M3 73 7) = (M3 73 8) then some (1, M3) else some (0, M3)) = some (if pDoc b n = some n then 1 else 0, M') ∧ FP M M' ∧ (∀ s', some s = some s' → M' 73 10 = nI (120 * t + s')) := by
      intro M3 st h3 f3 hd
      refine ⟨M3, ?_, f1.tr f3.fp, fun s' hs => by cases hs; rw [f3 73 10 (by omega)]; exact s10⟩
      rw [hd]
      cases st with
      | none => rw [if_pos (ms_none h3), if_neg (by intro z; cases z)]
      | some p =>
        obtain ⟨g1, g2, g3⟩ := ms_good h3
        rw [if_neg (by rw [g2]; decide), g3, h3.2.2.1]
        by_cases c : p = n
        · subst c; rw [if_pos rfl, if_pos rfl]
        · rw [if_neg (fun z => c (by have := (nI_eq (by omega) (by omega)).mp z; omega)), if_neg (fun z => c (Option.some.inj z))]
    rw [Option.bind_some] at h2
    cases hr : pN b n 0 6 s with
    | none =>
      rw [hr] at h2
      simp only []
      rw [ms_sgN h2, Option.bind_some]
      exact fin M2 none h2 f2 (by rw [pDoc, hq, Option.bind_some, pEnd, hr]; rfl)
    | some q =>
      rw [hr] at h2
      have hb := pN_some hr
      have hv := v1 s rfl (by rw [hr, hb.2.2.2])
      subst hv
      obtain ⟨M3, e3, h3, f3⟩ := ms_sgL (b s) 200 0 M2 q (by omega) (by omega) h2
      rw [Nat.zero_add] at e3
      have e3' : fL_X5_isDocument_20 200 (nI (b s)) 0 M2 = some (0, M3) := e3
      simp only []
      rw [e3', Option.bind_some]
      exact fin M3 _ h3 (f2.tr f3) (by rw [pDoc, hq, Option.bind_some, pEnd, hr, Option.bind_some])
