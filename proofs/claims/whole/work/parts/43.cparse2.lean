theorem pN_is {b : Nat → Nat} {n lo hi p : Nat} : pN b n lo hi p = none ∨ pN b n lo hi p = some (p + 1) := by
  unfold pN; by_cases c : p < n ∧ lo ≤ b p ∧ b p ≤ hi
  · right; rw [if_pos c]
  · left; rw [if_neg c]
theorem cs_st {M : Me} {k n p : Nat} {b : Nat → Nat} (h : CS M k n b (some p)) : p ≤ n ∧ M k 5 = nI p ∧ M k 6 = 1 := by
  obtain ⟨-, q, hq, h5, ⟨h6, e⟩ | ⟨-, e⟩⟩ := h
  · cases e; exact ⟨hq, h5, h6⟩
  · cases e
theorem cs_lt {M : Me} {k n : Nat} {b : Nat → Nat} {st : Option Nat} (h : CS M k n b st) : n ≤ 120 ∧ ∀ i, i < n → b i < 256 := by
  obtain ⟨⟨h1, h2, h3, h4⟩, -⟩ := h
  exact ⟨by omega, fun i hi => (h4 i hi).2⟩
theorem cs_skip {k n c : Nat} {b : Nat → Nat} {c' : Int32} (hc : c' = nI c) (hs : c < 100) : PC k n b (f_X0_skip k c') (pSk n c) := by
  intro M st h
  subst hc
  obtain ⟨M', e, h', f⟩ := cs_skipL c 200 0 M st (by omega) (by omega) h
  rw [Nat.zero_add] at e
  refine ⟨M', ?_, ?_, f⟩
  · rw [f_X0_skip, show (0 : Int32) = nI 0 from rfl, e]; rfl
  · cases st with
    | none => exact h'
    | some p => rw [Option.bind_some] at h' ⊢; rw [← pAny_sk (cs_lt h).2 c p (cs_st h).1]; exact h'
theorem cs_lettersL {k n : Nat} {b : Nat → Nat} : ∀ (c fuel i : Nat) (M : Me) (st : Option Nat), c < fuel → i + c < 1000 → CS M k n b st → ∃ M', fL_X0_readLetters_10 fuel k (nI (i + c)) (nI i) M = some (0, M') ∧ CS M' k n b (st.bind (pLs b n c)) ∧ F5 k M M' := by
  intro c
  induction c with
  | zero =>
    intro fuel i M st hf hi h
    obtain ⟨f, rfl⟩ : ∃ f, fuel = f + 1 := ⟨fuel - 1, by omega⟩
    refine ⟨M, ?_, ?_, F5.rf⟩
    · rw [fL_X0_readLetters_10, if_pos (nI_le (by omega) (by omega))]
    · cases st <;> exact h
  | succ c ih =>
    intro fuel i M st hf hi h
    obtain ⟨f, rfl⟩ : ∃ f, fuel = f + 1 := ⟨fuel - 1, by omega⟩
    obtain ⟨v, M1, e1, h1, f1, -⟩ := cs_next (lo := 97) (hi := 122) (lo' := 97) (hi' := 122) rfl rfl (by omega) (by omega) h
    obtain ⟨M2, e2, h2, f2⟩ := ih f (i + 1) M1 _ (by omega) (by omega) h1
    refine ⟨M2, ?_, ?_, f1.tr f2⟩
    · rw [fL_X0_readLetters_10, if_neg (nI_ge (by omega) (by omega)), e1, Option.bind_some, nI_1]
      rw [show i + (c + 1) = i + 1 + c by omega]; exact e2
    · rw [ob_bind] at h2; exact h2
theorem cs_letters {k n lo hi : Nat} {b : Nat → Nat} {lo' hi' : Int32} (hlo : lo' = nI lo) (hhi : hi' = nI hi) (g1 : lo ≤ hi) (g2 : hi < 100) : PC k n b (f_X0_readLetters k lo' hi') (pLet b n lo hi) := by
  intro M st h
  obtain ⟨v, M1, e1, h1, f1, v1, v2, v3⟩ := cs_next hlo hhi (by omega) (by omega) h
  obtain ⟨M2, e2, h2, f2⟩ := cs_lettersL v 200 0 M1 _ (by omega) (by omega) h1
  rw [Nat.zero_add] at e2
  refine ⟨M2, ?_, ?_, f1.tr f2⟩
  · rw [f_X0_readLetters, e1, Option.bind_some, show (0 : Int32) = nI 0 from rfl, e2]; rfl
  · cases st with
    | none => exact h2
    | some p =>
      rw [Option.bind_some] at h2 ⊢
      rcases pN_is (b := b) (n := n) (lo := lo) (hi := hi) (p := p) with c | c
      · rw [pLet, c]; rw [c] at h2; exact h2
      · rw [pLet, c, Option.bind_some]; rw [c, Option.bind_some, v3 p rfl c] at h2; exact h2
theorem cs_keysL {k n : Nat} {b : Nat → Nat} : ∀ (c fuel i lo : Nat) (M : Me) (st : Option Nat), c < fuel → i + c < 100 → lo + c < 500 → CS M k n b st → ∃ M', fL_X0_readKeySet_19 fuel k (nI (i + c)) (nI lo) (nI i) M = some (0, M') ∧ CS M' k n b (st.bind (pKs b n c lo)) ∧ F5 k M M' := by
  intro c
  induction c with
  | zero =>
    intro fuel i lo M st hf hi hlo h
    obtain ⟨f, rfl⟩ : ∃ f, fuel = f + 1 := ⟨fuel - 1, by omega⟩
    refine ⟨M, ?_, ?_, F5.rf⟩
    · rw [fL_X0_readKeySet_19, if_pos (nI_le (by omega) (by omega))]
    · cases st <;> exact h
  | succ c ih =>
    intro fuel i lo M st hf hi hlo h
    obtain ⟨f, rfl⟩ : ∃ f, fuel = f + 1 := ⟨fuel - 1, by omega⟩
    obtain ⟨v, M1, e1, h1, f1, v1, v2, v3⟩ := cs_next (lo := lo) (hi := 9) (lo' := nI lo) (hi' := 9) rfl rfl (by omega) (by omega) h
    obtain ⟨M2, e2, h2, f2⟩ := ih f (i + 1) (v + 1) M1 _ (by omega) (by omega) (by omega) h1
    refine ⟨M2, ?_, ?_, f1.tr f2⟩
    · rw [fL_X0_readKeySet_19, if_neg (nI_ge (by omega) (by omega)), e1, Option.bind_some, nI_1, nI_1]
      rw [show i + (c + 1) = i + 1 + c by omega]; exact e2
    · cases st with
      | none => exact h2
      | some p =>
        rw [Option.bind_some] at h2 ⊢
        rcases pN_is (b := b) (n := n) (lo := lo) (hi := 9) (p := p) with d | d
        · rw [pKs, d]; rw [d] at h2; exact h2
        · rw [pKs, d, Option.bind_some]; rw [d, Option.bind_some, v3 p rfl d] at h2; exact h2
theorem cs_key {k n : Nat} {b : Nat → Nat} : PC k n b (f_X0_readKeySet k) (pKey b n) := by
  intro M st h
  obtain ⟨v, M1, e1, h1, f1, v1, v2, v3⟩ := cs_next (lo := 1) (hi := 4) (lo' := 1) (hi' := 4) rfl rfl (by omega) (by omega) h
  obtain ⟨w, M2, e2, h2, f2, w1, w2, w3⟩ := cs_next (lo := v) (hi := 4) (lo' := nI v) (hi' := 4) rfl rfl (by omega) (by omega) h1
  obtain ⟨M3, e3, h3, f3⟩ := cs_keysL w 200 0 0 M2 _ (by omega) (by omega) (by omega) h2
  rw [Nat.zero_add] at e3
  refine ⟨M3, ?_, ?_, (f1.tr f2).tr f3⟩
  · rw [f_X0_readKeySet, e1, Option.bind_some, e2, Option.bind_some]
    rw [show (0 : Int32) = nI 0 from rfl, e3]; rfl
  · cases st with
    | none => exact h3
    | some p =>
      rw [Option.bind_some] at h3 w3 ⊢
      rcases pN_is (b := b) (n := n) (lo := 1) (hi := 4) (p := p) with d | d
      · rw [pKey, d]; rw [d] at h3; exact h3
      · rw [pKey, d, Option.bind_some]
        rw [d, Option.bind_some, v3 p rfl d] at h3
        rw [v3 p rfl d, d] at w3
        rcases pN_is (b := b) (n := n) (lo := b p) (hi := 4) (p := p + 1) with d2 | d2
        · rw [d2]; rw [d2] at h3; exact h3
        · rw [d2, Option.bind_some]; rw [d2, Option.bind_some, w3 (p + 1) rfl d2] at h3; exact h3
theorem cs_sgL {k n : Nat} {b : Nat → Nat} : ∀ (c fuel i : Nat) (M : Me) (st : Option Nat), c < fuel → i + c < 1000 → CS M k n b st → ∃ M', fL_X0_readSignatures_10 fuel k (nI (i + c)) (nI i) M = some (0, M') ∧ CS M' k n b (st.bind (pSg b n c)) ∧ F5 k M M' := by
  intro c
  induction c with
  | zero =>
    intro fuel i M st hf hi h
    obtain ⟨f, rfl⟩ : ∃ f, fuel = f + 1 := ⟨fuel - 1, by omega⟩
    refine ⟨M, ?_, ?_, F5.rf⟩
    · rw [fL_X0_readSignatures_10, if_pos (nI_le (by omega) (by omega))]
    · cases st <;> exact h
  | succ c ih =>
    intro fuel i M st hf hi h
    obtain ⟨f, rfl⟩ : ∃ f, fuel = f + 1 := ⟨fuel - 1, by omega⟩
    obtain ⟨v, M1, e1, h1, f1, -⟩ := cs_next (lo := 0) (hi := 9) (lo' := 0) (hi' := 9) rfl rfl (by omega) (by omega) h
    obtain ⟨M2, e2, h2, f2⟩ := cs_skip (c := 4) (c' := 4) rfl (by omega) M1 _ h1
    obtain ⟨M3, e3, h3, f3⟩ := ih f (i + 1) M2 _ (by omega) (by omega) h2
    refine ⟨M3, ?_, ?_, (f1.tr f2).tr f3⟩
    · rw [fL_X0_readSignatures_10, if_neg (nI_ge (by omega) (by omega)), e1, Option.bind_some, e2, Option.bind_some, nI_1]
      rw [show i + (c + 1) = i + 1 + c by omega]; exact e3
    · rw [ob_bind, ob_bind] at h3; exact h3
theorem cs_end {k n : Nat} {b : Nat → Nat} : PC k n b (f_X0_readSignatures k) (pEnd b n) := by
  intro M st h
  obtain ⟨v, M1, e1, h1, f1, v1, v2, v3⟩ := cs_next (lo := 0) (hi := 6) (lo' := 0) (hi' := 6) rfl rfl (by omega) (by omega) h
  obtain ⟨M2, e2, h2, f2⟩ := cs_sgL v 200 0 M1 _ (by omega) (by omega) h1
  rw [Nat.zero_add] at e2
  refine ⟨M2, ?_, ?_, f1.tr f2⟩
  · rw [f_X0_readSignatures, e1, Option.bind_some]
    rw [show (0 : Int32) = nI 0 from rfl, e2]; rfl
  · cases st with
    | none => exact h2
    | some p =>
      rw [Option.bind_some] at h2 ⊢
      rcases pN_is (b := b) (n := n) (lo := 0) (hi := 6) (p := p) with c | c
      · rw [pEnd, c]; rw [c] at h2; exact h2
      · rw [pEnd, c, Option.bind_some]; rw [c, Option.bind_some, v3 p rfl c] at h2; exact h2
