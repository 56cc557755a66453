def FX (k x f : Nat) (M M' : Me) : Prop := ∀ a j, a ≠ x → ¬ (a = k ∧ (j = 5 ∨ j = 6 ∨ j = f)) → M' a j = M a j
theorem FX.rf {k x f : Nat} {M : Me} : FX k x f M M := fun _ _ _ _ => rfl
theorem FX.tr {k x f : Nat} {M M1 M2 : Me} (h : FX k x f M M1) (g : FX k x f M1 M2) : FX k x f M M2 := fun a j c d => (g a j c d).trans (h a j c d)
theorem F5.fx {k : Nat} {M M' : Me} (h : F5 k M M') (x f : Nat) : FX k x f M M' := fun a j _ d => h a j (fun q => d ⟨q.1, q.2.elim Or.inl (fun q => Or.inr (Or.inl q))⟩)
theorem FX.upx {k x f j : Nat} {M : Me} {v : Int32} : FX k x f M (up M x j v) := fun a i c _ => up_k c
theorem FX.upf {k x f : Nat} {M : Me} {v : Int32} : FX k x f M (up M k f v) := fun a i _ d => by
  unfold up
  rw [if_neg]
  rintro ⟨rfl, rfl⟩
  exact d ⟨rfl, Or.inr (Or.inr rfl)⟩
theorem FX.row {k x f a : Nat} {M M' : Me} (h : FX k x f M M') (h1 : a ≠ x) (h2 : a ≠ k) : M' a = M a := by
  funext j
  exact h a j h1 (fun q => h2 q.1)
theorem CS.upo {M : Me} {k n a j : Nat} {b : Nat → Nat} {st : Option Nat} {v : Int32} (h : CS M k n b st) (h1 : a ≠ k ∨ (j ≠ 5 ∧ j ≠ 6)) (h2 : a ≠ k + 1) (h3 : a ≠ k + 2) : CS (up M a j v) k n b st := by
  obtain ⟨⟨r1, r2, r3, r4⟩, p, hp, h5, h6⟩ := h
  have e : ∀ i, i = 5 ∨ i = 6 → up M a j v k i = M k i := by
    intro i hi
    rcases h1 with h1 | h1
    · exact up_k (fun q => h1 q.symm)
    · exact up_j (by omega)
  refine ⟨⟨by rw [up_k (fun q => h2 q.symm)]; exact r1, r2, r3, fun i hi => by rw [up_k (fun q => h3 q.symm)]; exact r4 i hi⟩, p, hp, by rw [e 5 (Or.inl rfl)]; exact h5, by rw [e 6 (Or.inr rfl)]; exact h6⟩
def ksP (b : Nat → Nat) : Nat → Nat
  | 0 => 4
  | i + 1 => ksP b i + 2 + b (ksP b i + 1)
theorem cs_rootL {k n : Nat} {b : Nat → Nat} (ha : al (k + 3) = 4) : ∀ (c fuel i : Nat) (M : Me) (st : Option Nat), i + c = 4 → c < fuel → CS M k n b st → (∀ q, st = some q → q = ksP b i ∧ ∀ j, j < i → M (k + 3) j = nI (ksP b j)) →
    ∃ M', fL_X0_readRootKeySets_2 fuel k (nI i) M = some (0, M') ∧ CS M' k n b (st.bind (pRk b n c)) ∧ FX k (k + 3) 5 M M' ∧ (∀ q, st.bind (pRk b n c) = some q → ∀ j, j < 4 → M' (k + 3) j = nI (ksP b j)) := by
  intro c
  induction c with
  | zero =>
    intro fuel i M st hi hf h hv
    obtain ⟨f, rfl⟩ : ∃ f, fuel = f + 1 := ⟨fuel - 1, by omega⟩
    refine ⟨M, ?_, ?_, FX.rf, ?_⟩
    · rw [fL_X0_readRootKeySets_2, if_pos (show (4 : Int32) ≤ nI i from nI_le (a := 4) (by omega) (by omega))]
    · cases st <;> exact h
    · intro q hq j hj
      have : st = some q := by cases st with
        | none => cases hq
        | some p => exact hq
      exact (hv q this).2 j (by omega)
  | succ c ih =>
    intro fuel i M st hi hf h hv
    obtain ⟨f, rfl⟩ : ∃ f, fuel = f + 1 := ⟨fuel - 1, by omega⟩
    have h0 : CS (up M (k + 3) i (M k 5)) k n b st := h.upo (Or.inl (by omega)) (by omega) (by omega)
    obtain ⟨M1, e1, h1, f1⟩ := cs_key _ _ h0
    obtain ⟨M2, e2, h2, f2, v2⟩ := ih f (i + 1) M1 _ (by omega) (by omega) h1 (by
      intro q hq
      cases st with
      | none => cases hq
      | some p =>
        rw [Option.bind_some] at hq
        obtain ⟨g1, g2⟩ := hv p rfl
        obtain ⟨k1, k2, k3⟩ := pKey_some hq
        refine ⟨by rw [← k1, g1]; rfl, fun j hj => ?_⟩
        rw [f1.row (a := k + 3) (by omega)]
        by_cases hji : j = i
        · subst hji; rw [up_s, (cs_st h).2.1, g1]
        · rw [up_j hji]; exact g2 j (by omega))
    refine ⟨M2, ?_, ?_, (FX.upx.tr (f1.fx _ _)).tr f2, ?_⟩
    · rw [fL_X0_readRootKeySets_2, if_neg (show ¬ (4 : Int32) ≤ nI i from nI_ge (b := 4) (by omega) (by omega)), ha, if_pos (inB_nI (by omega) (by omega)), nI_clamp (by omega), e1, Option.bind_some, nI_1]
      exact e2
    · rw [ob_bind] at h2; exact h2
    · intro q hq; rw [ob_bind] at v2; exact v2 q hq
theorem cs_root {k n : Nat} {b : Nat → Nat} (ha : al (k + 3) = 4) (M : Me) (st : Option Nat) (h : CS M k n b st) (hv : ∀ q, st = some q → q = 4) :
    ∃ M', f_X0_readRootKeySets k M = some (0, M') ∧ CS M' k n b (st.bind (pRk b n 4)) ∧ FX k (k + 3) 5 M M' ∧ (∀ q, st.bind (pRk b n 4) = some q → ∀ j, j < 4 → M' (k + 3) j = nI (ksP b j)) := by
  obtain ⟨M1, e1, h1, f1, v1⟩ := cs_rootL ha 4 200 0 M st rfl (by omega) h (fun q hq => ⟨hv q hq, fun j hj => absurd hj (Nat.not_lt_zero j)⟩)
  refine ⟨M1, ?_, h1, f1, v1⟩
  rw [f_X0_readRootKeySets, show (0 : Int32) = nI 0 from rfl, e1]; rfl
/-- what a snapshot says for a role: 0 if nothing -/
def sv (b : Nat → Nat) (r : Nat) : Nat → Nat
  | 0 => 0
  | c + 1 => if b (5 + 2 * c) = r then b (5 + 2 * c + 1) else sv b r c
def vI (v : Nat) : Int32 := if v = 0 then -1 else nI v
theorem cs_clrL {k : Nat} (ha : al (k + 4) = 7) : ∀ (c fuel i : Nat) (M : Me), i + c = 7 → c < fuel → (∀ j, j < i → M (k + 4) j = -1) → ∃ M', fL_X0_readEntries_2 fuel k (nI i) M = some (0, M') ∧ (∀ a, a ≠ k + 4 → M' a = M a) ∧ (∀ j, j < 7 → M' (k + 4) j = -1) := by
  intro c
  induction c with
  | zero =>
    intro fuel i M hi hf hv
    obtain ⟨f, rfl⟩ : ∃ f, fuel = f + 1 := ⟨fuel - 1, by omega⟩
    exact ⟨M, by rw [fL_X0_readEntries_2, if_pos (show (6 : Int32) < nI i from nI_lt (a := 6) (by omega) (by omega))], fun _ _ => rfl, fun j hj => hv j (by omega)⟩
  | succ c ih =>
    intro fuel i M hi hf hv
    obtain ⟨f, rfl⟩ : ∃ f, fuel = f + 1 := ⟨fuel - 1, by omega⟩
    obtain ⟨M1, e1, f1, v1⟩ := ih f (i + 1) (up M (k + 4) i (-1)) (by omega) (by omega) (by
      intro j hj
      by_cases hji : j = i
      · subst hji; rw [up_s]
      · rw [up_j hji]; exact hv j (by omega))
    refine ⟨M1, ?_, fun a ha' => by rw [f1 a ha', up_row ha'], v1⟩
    rw [fL_X0_readEntries_2, if_neg (show ¬ (6 : Int32) < nI i from nI_nlt (a := 6) (by omega) (by omega)), ha, if_pos (inB_nI (by omega) (by omega)), nI_clamp (by omega), nI_1]
    exact e1
theorem cs_entL {k n : Nat} {b : Nat → Nat} (ha : al (k + 4) = 7) : ∀ (c fuel i lo hi : Nat) (M : Me) (st : Option Nat), c < fuel → i + c < 50 → lo + c < 500 → hi ≤ 6 → CS M k n b st → (∀ q, st = some q → q = 5 + 2 * i ∧ ∀ r, r < 7 → M (k + 4) r = vI (sv b r i)) →
    ∃ M', fL_X0_readEntries_35 fuel k (nI (i + c)) (nI lo) (nI hi) (nI i) M = some (0, M') ∧ CS M' k n b (st.bind (pEs b n c lo hi)) ∧ FX k (k + 4) 5 M M' ∧ (∀ q, st.bind (pEs b n c lo hi) = some q → ∀ r, r < 7 → M' (k + 4) r = vI (sv b r (i + c))) := by
  intro c
  induction c with
  | zero =>
    intro fuel i lo hi M st hf hi1 hlo hhi h hv
    obtain ⟨f, rfl⟩ : ∃ f, fuel = f + 1 := ⟨fuel - 1, by omega⟩
    refine ⟨M, ?_, ?_, FX.rf, ?_⟩
    · rw [fL_X0_readEntries_35, if_pos (nI_le (by omega) (by omega))]
    · cases st <;> exact h
    · intro q hq
      have : st = some q := by cases st with
        | none => cases hq
        | some p => exact hq
      exact (hv q this).2
  | succ c ih =>
    intro fuel i lo hi M st hf hi1 hlo hhi h hv
    obtain ⟨f, rfl⟩ : ∃ f, fuel = f + 1 := ⟨fuel - 1, by omega⟩
    obtain ⟨v, M1, e1, h1, f1, v1, v2, v3⟩ := cs_next (lo := lo) (hi := hi) (lo' := nI lo) (hi' := nI hi) rfl rfl (by omega) (by omega) h
    obtain ⟨w, M2, e2, h2, f2, w1, w2, w3⟩ := cs_next (lo := 1) (hi := 255) (lo' := 1) (hi' := 255) rfl rfl (by omega) (by omega) h1
    have hst : (∃ p, st = some p ∧ pN b n lo hi p = some (p + 1) ∧ pN b n 1 255 (p + 1) = some (p + 2)) ∨ ((st.bind (pN b n lo hi)).bind (pN b n 1 255) = none) := by
      cases st with
      | none => right; rfl
      | some p =>
        rcases pN_is (b := b) (n := n) (lo := lo) (hi := hi) (p := p) with d | d
        · right; rw [Option.bind_some, d]; rfl
        · rcases pN_is (b := b) (n := n) (lo := 1) (hi := 255) (p := p + 1) with d2 | d2
          · right; rw [Option.bind_some, d, Option.bind_some, d2]
          · left; exact ⟨p, rfl, d, d2⟩
    have key : ∀ M3 : Me, CS M3 k n b ((st.bind (pN b n lo hi)).bind (pN b n 1 255)) → FX k (k + 4) 5 M M3 → (∀ p, st = some p → pN b n lo hi p = some (p + 1) → pN b n 1 255 (p + 1) = some (p + 2) → ∀ r, r < 7 → M3 (k + 4) r = vI (sv b r (i + 1))) →
        ∃ M', fL_X0_readEntries_35 f k (nI (i + (c + 1))) (nI v + 1) 6 (nI i + 1) M3 = some (0, M') ∧ CS M' k n b (st.bind (pEs b n (c + 1) lo hi)) ∧ FX k (k + 4) 5 M M' ∧ (∀ q, st.bind (pEs b n (c + 1) lo hi) = some q → ∀ r, r < 7 → M' (k + 4) r = vI (sv b r (i + (c + 1)))) := by
      intro M3 h3 f3 v4
      have hle : v + 1 + c < 500 := by omega
      obtain ⟨M4, e4, h4, f4, v5⟩ := ih f (i + 1) (v + 1) 6 M3 _ (by omega) (by omega) hle (by omega) h3 (by
        intro q hq
        rcases hst with ⟨p, rfl, d1, d2⟩ | hn
        · rw [Option.bind_some, d1, Option.bind_some, d2] at hq
          cases hq
          exact ⟨by have := (hv p rfl).1; omega, v4 p rfl d1 d2⟩
        · rw [hn] at hq; cases hq)
      have hsp : st.bind (pEs b n (c + 1) lo hi) = ((st.bind (pN b n lo hi)).bind (pN b n 1 255)).bind (pEs b n c (v + 1) 6) := by
        cases st with
        | none => rfl
        | some p =>
          rw [Option.bind_some, Option.bind_some, pEs]
          rcases pN_is (b := b) (n := n) (lo := lo) (hi := hi) (p := p) with d | d
          · rw [d]; rfl
          · rw [d, Option.bind_some, Option.bind_some, v3 p rfl d]
      refine ⟨M4, ?_, by rw [hsp]; exact h4, f3.tr f4, ?_⟩
      · rw [nI_1, nI_1, show i + (c + 1) = i + 1 + c by omega]; exact e4
      · rw [hsp, show i + (c + 1) = i + 1 + c by omega]; exact v5
    rw [fL_X0_readEntries_35, if_neg (nI_ge (by omega) (by omega)), e1, Option.bind_some, e2, Option.bind_some]
    by_cases hv6 : 6 < v
    · rw [if_pos (show (6 : Int32) < nI v from nI_lt (a := 6) hv6 (by omega))]
      refine key M2 h2 ((f1.tr f2).fx _ _) (fun p hp d1 d2 => ?_)
      have := v3 p hp d1
      have := (pN_some d1).2.2.1
      omega
    · rw [if_neg (show ¬ (6 : Int32) < nI v from nI_nlt (a := 6) (by omega) (by omega)), ha, if_pos (inB_nI (by omega) (by omega)), nI_clamp (by omega)]
      refine key _ (h2.upo (Or.inl (by omega)) (by omega) (by omega)) (((f1.tr f2).fx _ _).tr FX.upx) (fun p hp d1 d2 r hr => ?_)
      have g1 := v3 p hp d1
      have g2 : w = b (p + 1) := w3 (p + 1) (by rw [hp, Option.bind_some, d1]) d2
      have g3 := hv p hp
      have g4 := (pN_some d2).2.1
      rw [sv]
      by_cases hrv : r = v
      · subst hrv
        rw [up_s, if_pos (by rw [← g3.1]; exact g1.symm), show 5 + 2 * i + 1 = p + 1 by omega, ← g2, vI, if_neg (by omega)]
      · rw [up_j hrv, if_neg (by rw [← g3.1]; omega)]
        show M2 (k + 4) r = _
        rw [(f1.tr f2).row (a := k + 4) (by omega)]
        exact g3.2 r hr
theorem cs_ent {k n : Nat} {b : Nat → Nat} (ha : al (k + 4) = 7) (M : Me) (st : Option Nat) (h : CS M k n b st) (hv : ∀ q, st = some q → q = 4) :
    ∃ M', f_X0_readEntries k M = some (0, M') ∧ CS M' k n b (st.bind (fun p => (pN b n 1 4 p).bind fun q => pEs b n (b p) 3 3 q)) ∧ FX k (k + 4) 5 M M' ∧ (∀ q, st.bind (fun p => (pN b n 1 4 p).bind fun q => pEs b n (b p) 3 3 q) = some q → ∀ r, r < 7 → M' (k + 4) r = vI (sv b r (b 4))) := by
  obtain ⟨M1, e1, f1, v1⟩ := cs_clrL ha 7 200 0 M rfl (by omega) (fun j hj => absurd hj (Nat.not_lt_zero j))
  have h1 : CS M1 k n b st := by
    obtain ⟨⟨r1, r2, r3, r4⟩, p, hp, h5, h6⟩ := h
    exact ⟨⟨by rw [f1 _ (by omega)]; exact r1, r2, r3, fun i hi => by rw [f1 _ (by omega)]; exact r4 i hi⟩, p, hp, by rw [f1 _ (by omega)]; exact h5, by rw [f1 _ (by omega)]; exact h6⟩
  have fx1 : FX k (k + 4) 5 M M1 := fun a j c _ => by rw [f1 a c]
  obtain ⟨v, M2, e2, h2, f2, w1, w2, w3⟩ := cs_next (lo := 1) (hi := 4) (lo' := 1) (hi' := 4) rfl rfl (by omega) (by omega) h1
  obtain ⟨M3, e3, h3, f3, v3⟩ := cs_entL ha v 200 0 3 3 M2 _ (by omega) (by omega) (by omega) (by omega) h2 (by
    intro q hq
    cases st with
    | none => cases hq
    | some p =>
      rw [Option.bind_some] at hq
      have := (pN_some hq).2.2.2
      have := hv p rfl
      refine ⟨by omega, fun r hr => ?_⟩
      rw [f2.row (a := k + 4) (by omega), v1 r hr]; rfl)
  rw [Nat.zero_add] at e3 v3
  have hsp : st.bind (fun p => (pN b n 1 4 p).bind fun q => pEs b n (b p) 3 3 q) = (st.bind (pN b n 1 4)).bind (pEs b n v 3 3) := by
    cases st with
    | none => rfl
    | some p =>
      rw [Option.bind_some, Option.bind_some]
      rcases pN_is (b := b) (n := n) (lo := 1) (hi := 4) (p := p) with d | d
      · rw [d]; rfl
      · rw [d, Option.bind_some, Option.bind_some, w3 p rfl d]
  refine ⟨M3, ?_, by rw [hsp]; exact h3, (fx1.tr (f2.fx _ _)).tr f3, ?_⟩
  · rw [f_X0_readEntries, show (0 : Int32) = nI 0 from rfl, e1, Option.bind_some, e2, Option.bind_some, show (3 : Int32) = nI 3 from rfl, e3]; rfl
  · intro q hq r hr
    rw [hsp] at hq
    have := v3 q hq r hr
    cases st with
    | none => cases hq
    | some p =>
      rcases pN_is (b := b) (n := n) (lo := 1) (hi := 4) (p := p) with d | d
      · rw [Option.bind_some, d] at hq; cases hq
      · rw [this, w3 p rfl d, hv p rfl]
