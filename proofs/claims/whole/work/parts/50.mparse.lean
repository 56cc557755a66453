/-! the reference reads a text -/
def RM (M : Me) (t n : Nat) (b : Nat → Nat) : Prop := M 75 t = nI n ∧ n ≤ 120 ∧ t ≤ 8 ∧ ∀ i, i < n → M 74 (120 * t + i) = nI (b i) ∧ b i < 256
def MS (M : Me) (t n : Nat) (b : Nat → Nat) (st : Option Nat) : Prop := RM M t n b ∧ t ≤ 7 ∧ M 73 8 = nI (120 * t + n) ∧ ((∃ p, p ≤ n ∧ st = some p ∧ M 73 9 = 1 ∧ M 73 7 = nI (120 * t + p)) ∨ (st = none ∧ M 73 9 = 0))
def FM (M M' : Me) : Prop := ∀ a j, ¬ (a = 73 ∧ (j = 7 ∨ j = 9 ∨ j = 11)) → M' a j = M a j
theorem FM.rf {M : Me} : FM M M := fun _ _ _ => rfl
theorem FM.tr {M M1 M2 : Me} (h : FM M M1) (g : FM M1 M2) : FM M M2 := fun a j c => (g a j c).trans (h a j c)
theorem FM.u {M : Me} {j : Nat} {v : Int32} (hj : j = 7 ∨ j = 9 ∨ j = 11) : FM M (up M 73 j v) := fun a i c => by
  unfold up
  rw [if_neg]
  rintro ⟨rfl, rfl⟩
  exact c ⟨rfl, hj⟩
theorem FM.row {a : Nat} {M M' : Me} (h : FM M M') (ha : a ≠ 73) : M' a = M a := by
  funext j
  exact h a j (fun q => ha q.1)
theorem RM.fm {t n : Nat} {b : Nat → Nat} {M M' : Me} (h : RM M t n b) (f : FM M M') : RM M' t n b := by
  obtain ⟨h1, h2, h3, h4⟩ := h
  exact ⟨by rw [f.row (by decide)]; exact h1, h2, h3, fun i hi => by rw [f.row (by decide)]; exact h4 i hi⟩
theorem al74 : al 74 = 1080 := by decide
theorem al75 : al 75 = 9 := by decide
theorem al76 : al 76 = 7 := by decide
theorem al77 : al 77 = 8 := by decide
theorem al78 : al 78 = 8 := by decide
theorem ms_bad {M : Me} {t n : Nat} {b : Nat → Nat} {st : Option Nat} (h : MS M t n b st) {x : Int32} : MS (up (up M 73 9 0) 73 7 x) t n b none := by
  obtain ⟨hR, ht, h8, -⟩ := h
  refine ⟨hR.fm ((FM.u (by omega)).tr (FM.u (by omega))), ht, by rw [up_j (by decide), up_j (by decide)]; exact h8, Or.inr ⟨rfl, by rw [up_j (by decide), up_s]⟩⟩
theorem ms_bad' {M : Me} {t n : Nat} {b : Nat → Nat} {st : Option Nat} (h : MS M t n b st) : MS (up M 73 9 0) t n b none := by
  obtain ⟨hR, ht, h8, -⟩ := h
  exact ⟨hR.fm (FM.u (by omega)), ht, by rw [up_j (by decide)]; exact h8, Or.inr ⟨rfl, up_s⟩⟩
theorem ms_good {M : Me} {t n p : Nat} {b : Nat → Nat} (h : MS M t n b (some p)) : p ≤ n ∧ M 73 9 = 1 ∧ M 73 7 = nI (120 * t + p) := by
  obtain ⟨-, -, -, ⟨q, hq, e, h9, h7⟩ | ⟨e, -⟩⟩ := h
  · cases e; exact ⟨hq, h9, h7⟩
  · cases e
theorem ms_none {M : Me} {t n : Nat} {b : Nat → Nat} (h : MS M t n b none) : M 73 9 = 0 := by
  obtain ⟨-, -, -, ⟨q, hq, e, -⟩ | ⟨-, h9⟩⟩ := h
  · cases e
  · exact h9
theorem ms_set {M : Me} {t n p : Nat} {b : Nat → Nat} (hR : RM M t n b) (ht : t ≤ 7) (h8 : M 73 8 = nI (120 * t + n)) (hp : p ≤ n) (h9 : M 73 9 = 1) (h7 : M 73 7 = nI (120 * t + p)) : MS M t n b (some p) := ⟨hR, ht, h8, Or.inl ⟨p, hp, rfl, h9, h7⟩⟩
theorem ms_same1 {M : Me} {t n p : Nat} {b : Nat → Nat} (h : MS M t n b (some p)) : MS (up M 73 9 1) t n b (some p) := by
  obtain ⟨g1, g2, g3⟩ := ms_good h
  obtain ⟨hR, ht, h8, -⟩ := h
  exact ms_set (hR.fm (FM.u (by omega))) ht (by rw [up_j (by decide)]; exact h8) g1 up_s (by rw [up_j (by decide)]; exact g3)
theorem ms_between {t n lo hi : Nat} {b : Nat → Nat} {lo' hi' : Int32} (hlo : lo' = nI lo) (hhi : hi' = nI hi) (g1 : lo < 1000) (g2 : hi < 1000) {M : Me} {st : Option Nat} (h : MS M t n b st) :
    ∃ v M', f_X5_between lo' hi' M = some (v, M') ∧ MS M' t n b (st.bind (pN b n lo hi)) ∧ FM M M' ∧ (∀ p, st = some p → pN b n lo hi p = some (p + 1) → v = nI (b p)) := by
  subst hlo
  subst hhi
  cases st with
  | none =>
    have h9 := ms_none h
    rw [f_X5_between, f_X5_next, if_pos h9, Option.bind_some]
    simp only [show up (up M 73 9 0) 73 7 (M 73 7 + 1) 73 9 = 0 by rw [up_j (by decide), up_s]]
    rw [if_pos trivial]
    refine ⟨_, _, rfl, ms_bad' (ms_bad h), ((FM.u (by omega)).tr (FM.u (by omega))).tr (FM.u (by omega)), fun p hp => by cases hp⟩
  | some p =>
    obtain ⟨k1, k2, k3⟩ := ms_good h
    obtain ⟨hR, ht, h8, -⟩ := id h
    obtain ⟨r1, r2, r3, r4⟩ := hR
    rw [f_X5_between, f_X5_next, if_neg (by rw [k2]; decide), h8, k3]
    by_cases c : p < n
    · obtain ⟨b1, b2⟩ := r4 p c
      rw [if_neg (nI_ge (by omega) (by omega)), al74, if_pos (inB_nI (by omega) (by omega)), nI_clamp (by omega), b1, Option.bind_some]
      simp only [show up (up M 73 9 1) 73 7 (nI (120 * t + p) + 1) 73 9 = 1 by rw [up_j (by decide), up_s]]
      rw [if_neg (show ¬ (1 : Int32) = 0 by decide)]
      have F : FM M (up (up M 73 9 1) 73 7 (nI (120 * t + p) + 1)) := (FM.u (by omega)).tr (FM.u (by omega))
      have G : MS (up (up M 73 9 1) 73 7 (nI (120 * t + p) + 1)) t n b (some (p + 1)) := ms_set (RM.fm ⟨r1, r2, r3, r4⟩ F) ht (by rw [up_j (by decide), up_j (by decide)]; exact h8) (by omega) (by rw [up_j (by decide), up_s]) (by rw [up_s, nI_1]; rfl)
      by_cases c1 : b p < lo
      · rw [if_pos (nI_lt c1 (by omega))]
        refine ⟨_, _, rfl, ?_, F.tr (FM.u (by omega)), fun q e1 e2 => ?_⟩
        · rw [Option.bind_some, pN, if_neg (by omega)]; exact ms_bad' G
        · cases e1; rfl
      · rw [if_neg (nI_nlt (by omega) (by omega))]
        by_cases c2 : hi < b p
        · rw [if_pos (nI_lt c2 (by omega))]
          refine ⟨_, _, rfl, ?_, F.tr (FM.u (by omega)), fun q e1 e2 => ?_⟩
          · rw [Option.bind_some, pN, if_neg (by omega)]; exact ms_bad' G
          · cases e1; rfl
        · rw [if_neg (nI_nlt (by omega) (by omega))]
          refine ⟨_, _, rfl, ?_, F.tr (FM.u (by omega)), fun q e1 e2 => ?_⟩
          · rw [Option.bind_some, pN, if_pos (by omega)]; exact ms_same1 G
          · cases e1; rfl
    · rw [if_pos (nI_le (by omega) (by omega)), Option.bind_some]
      simp only [show up (up M 73 9 0) 73 7 (nI (120 * t + p) + 1) 73 9 = 0 by rw [up_j (by decide), up_s]]
      rw [if_pos trivial]
      refine ⟨_, _, rfl, ?_, ((FM.u (by omega)).tr (FM.u (by omega))).tr (FM.u (by omega)), fun q e1 e2 => ?_⟩
      · rw [Option.bind_some, pN, if_neg (by omega)]; exact ms_bad' (ms_bad h)
      · cases e1; rw [pN, if_neg (by omega)] at e2; cases e2
theorem ms_skip {t n c : Nat} {b : Nat → Nat} {c' : Int32} (hc : c' = nI c) (hs : c < 1000) {M : Me} {st : Option Nat} (h : MS M t n b st) : ∃ M', f_X5_skip c' M = some (0, M') ∧ MS M' t n b (st.bind (pSk n c)) ∧ FM M M' := by
  subst hc
  cases st with
  | none =>
    rw [f_X5_skip, if_pos (ms_none h)]
    exact ⟨_, rfl, ms_bad h, (FM.u (by omega)).tr (FM.u (by omega))⟩
  | some p =>
    obtain ⟨k1, k2, k3⟩ := ms_good h
    obtain ⟨hR, ht, h8, -⟩ := id h
    obtain ⟨r1, r2, r3, r4⟩ := hR
    rw [f_X5_skip, if_neg (by rw [k2]; decide), h8, k3, nI_add]
    have F : ∀ z x : Int32, FM M (up (up M 73 9 z) 73 7 x) := fun z x => (FM.u (by omega)).tr (FM.u (by omega))
    by_cases d : p + c ≤ n
    · rw [if_neg (nI_nlt (by omega) (by omega))]
      refine ⟨_, rfl, ?_, F _ _⟩
      rw [Option.bind_some, pSk, if_pos d]
      exact ms_set (RM.fm ⟨r1, r2, r3, r4⟩ (F _ _)) ht (by rw [up_j (by decide), up_j (by decide)]; exact h8) d (by rw [up_j (by decide), up_s]) (by rw [up_s]; congr 1; omega)
    · rw [if_pos (nI_lt (by omega) (by omega))]
      refine ⟨_, rfl, ?_, F _ _⟩
      rw [Option.bind_some, pSk, if_neg d]
      exact ms_bad h
theorem ms_lettersL {t n : Nat} {b : Nat → Nat} : ∀ (c fuel i : Nat) (M : Me) (p : Nat), c < fuel → i + c < 1000 → MS M t n b (some p) → ∃ M', fL_X5_passLetters_10 fuel (nI (i + c)) (nI i) M = some (0, M') ∧ MS M' t n b (pLs b n c p) ∧ FM M M' := by
  intro c
  induction c with
  | zero =>
    intro fuel i M p hf hi h
    obtain ⟨f, rfl⟩ : ∃ f, fuel = f + 1 := ⟨fuel - 1, by omega⟩
    exact ⟨M, by rw [fL_X5_passLetters_10, if_pos (nI_le (by omega) (by omega))], h, FM.rf⟩
  | succ c ih =>
    intro fuel i M p hf hi h
    obtain ⟨f, rfl⟩ : ∃ f, fuel = f + 1 := ⟨fuel - 1, by omega⟩
    obtain ⟨v, M1, e1, h1, f1, -⟩ := ms_between (lo := 97) (hi := 122) (lo' := 97) (hi' := 122) rfl rfl (by omega) (by omega) h
    rw [Option.bind_some] at h1
    rw [fL_X5_passLetters_10, if_neg (nI_ge (by omega) (by omega)), if_neg (by rw [(ms_good h).2.1]; decide), e1, Option.bind_some, pLs]
    cases hq : pN b n 97 122 p with
    | none =>
      rw [hq] at h1
      obtain ⟨f', rfl⟩ : ∃ f', f = f' + 1 := ⟨f - 1, by omega⟩
      refine ⟨M1, ?_, h1, f1⟩
      rw [fL_X5_passLetters_10]
      simp only [ms_none h1, if_pos]
      split <;> rfl
    | some q =>
      rw [hq] at h1
      obtain ⟨M2, e2, h2, f2⟩ := ih f (i + 1) M1 q (by omega) (by omega) h1
      exact ⟨M2, by rw [nI_1, show i + (c + 1) = i + 1 + c by omega]; exact e2, h2, f1.tr f2⟩
theorem ms_letters {t n lo hi : Nat} {b : Nat → Nat} {lo' hi' : Int32} (hlo : lo' = nI lo) (hhi : hi' = nI hi) (g1 : lo ≤ hi) (g2 : hi < 100) {M : Me} {st : Option Nat} (h : MS M t n b st) : ∃ M', f_X5_passLetters lo' hi' M = some (0, M') ∧ MS M' t n b (st.bind (pLet b n lo hi)) ∧ FM M M' := by
  obtain ⟨v, M1, e1, h1, f1, v1⟩ := ms_between hlo hhi (by omega) (by omega) h
  rw [f_X5_passLetters, e1, Option.bind_some]
  cases hq : st.bind (pN b n lo hi) with
  | none =>
    rw [hq] at h1
    refine ⟨M1, ?_, ?_, f1⟩
    · rw [fL_X5_passLetters_10]
      simp only [ms_none h1, if_pos]
      split <;> rfl
    · cases st with
      | none => exact h1
      | some p => rw [Option.bind_some] at hq ⊢; rw [pLet, hq]; exact h1
  | some q =>
    obtain ⟨p, rfl, d, rfl⟩ := pN_st hq
    rw [hq] at h1
    have hb := (pN_some d).2.2.1
    rw [v1 p rfl d]
    obtain ⟨M2, e2, h2, f2⟩ := ms_lettersL (b p) 200 0 M1 _ (by omega) (by omega) h1
    rw [Nat.zero_add] at e2
    refine ⟨M2, ?_, ?_, f1.tr f2⟩
    · rw [show (0 : Int32) = nI 0 from rfl, e2]; rfl
    · rw [Option.bind_some, pLet, d, Option.bind_some]; exact h2
