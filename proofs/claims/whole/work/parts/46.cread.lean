theorem fa_or (a b : Nat) : nI a ||| nI b = nI (a ||| b) := by
  apply Int32.toBitVec_inj.1
  show BitVec.ofNat 32 a ||| BitVec.ofNat 32 b = BitVec.ofNat 32 (a ||| b)
  apply BitVec.eq_of_getLsbD_eq
  intro i hi
  simp [hi]
theorem end_eq {x y : Nat} (hx : x < 256) (hy : y < 256) : ((nI x <<< (8 &&& 31)) ||| nI y) = nI (256 * x + y) := by
  rw [pk_shlN (8 &&& 31) 8 (by decide) (by omega), fa_or, show x * 2 ^ 8 = 2 ^ 8 * x by omega, ← Nat.two_pow_add_eq_or_of_lt (by omega)]
theorem FX.wk {k x f : Nat} {M M' : Me} (h : FX k x 5 M M') : FX k x f M M' := fun a j c d => h a j c (fun q => d ⟨q.1, by omega⟩)
theorem cs_tgt {k n : Nat} {b : Nat → Nat} (ha : al (k + 5) = 4) (M : Me) (st : Option Nat) (h : CS M k n b st) (hv : ∀ q, st = some q → q = 4) :
    ∃ M', f_X0_readTargets k M = some (0, M') ∧ CS M' k n b (st.bind (fun p => (pN b n 0 4 p).bind fun q => pTs b n (b p) 0 q)) ∧ FX k (k + 5) 12 M M' ∧ (∀ q, st.bind (fun p => (pN b n 0 4 p).bind fun q => pTs b n (b p) 0 q) = some q → M' k 12 = nI (b 4) ∧ q = tPos b (b 4) ∧ ∀ j, j < b 4 → M' (k + 5) j = nI (tPos b j)) := by
  obtain ⟨v, M1, e1, h1, f1, v1, v2, v3⟩ := cs_next (lo := 0) (hi := 4) (lo' := 0) (hi' := 4) rfl rfl (by omega) (by omega) h
  obtain ⟨M2, e2, h2, f2, v4⟩ := cs_tgtL (n := n) (b := b) (C := v) ha (by omega) v 200 0 (up M1 k 12 (nI v)) _ (by omega) (by omega) up_s (h1.upo (Or.inr (by omega)) (by omega) (by omega)) (by
    intro q hq
    cases st with
    | none => cases hq
    | some p =>
      rw [Option.bind_some] at hq
      have := (pN_some hq).2.2.2
      have := hv p rfl
      exact ⟨by rw [tPos]; omega, fun j hj => absurd hj (Nat.not_lt_zero j)⟩)
  have hsp : st.bind (fun p => (pN b n 0 4 p).bind fun q => pTs b n (b p) 0 q) = (st.bind (pN b n 0 4)).bind (pTs b n v 0) := by
    cases st with
    | none => rfl
    | some p =>
      rw [Option.bind_some, Option.bind_some]
      rcases pN_is (b := b) (n := n) (lo := 0) (hi := 4) (p := p) with d | d
      · rw [d]; rfl
      · rw [d, Option.bind_some, Option.bind_some, v3 p rfl d]
  refine ⟨M2, ?_, by rw [hsp]; exact h2, ((f1.fx _ _).tr FX.upf).tr f2.wk, ?_⟩
  · rw [f_X0_readTargets, e1, Option.bind_some]
    rw [show (0 : Int32) = nI 0 from rfl, e2]; rfl
  · intro q hq
    rw [hsp] at hq
    have g := v4 q hq
    have e12 : M2 k 12 = nI v := by rw [f2 k 12 (by omega) (by rintro ⟨-, q⟩; omega), up_s]
    cases st with
    | none => cases hq
    | some p =>
      rcases pN_is (b := b) (n := n) (lo := 0) (hi := 4) (p := p) with d | d
      · rw [Option.bind_some, d] at hq; cases hq
      · have hvb := v3 p rfl d
        rw [hv p rfl] at hvb
        subst hvb
        exact ⟨e12, g⟩
def dP (b : Nat → Nat) (d0 : Nat) : Nat → Nat
  | 0 => d0
  | j + 1 => (dP b d0 j + 4 + b (dP b d0 j + 3)) + 1 + b (dP b d0 j + 4 + b (dP b d0 j + 3))
theorem cs_delL {k n C d0 : Nat} {b : Nat → Nat} (ha : al (k + 6) = 3) (hC : C ≤ 3) : ∀ (c fuel i : Nat) (r : Int32) (M : Me) (st : Option Nat), i + c = C → c < fuel → M k 13 = nI C → CS M k n b st → (∀ q, st = some q → q = dP b d0 i ∧ ∀ j, j < i → M (k + 6) j = nI (dP b d0 j)) →
    ∃ M', fL_X0_readDelegations_14 fuel k r (nI i) M = some (0, M') ∧ CS M' k n b (st.bind (pDs b n c r)) ∧ FX k (k + 6) 5 M M' ∧ (∀ q, st.bind (pDs b n c r) = some q → ∀ j, j < C → M' (k + 6) j = nI (dP b d0 j)) := by
  intro c
  induction c with
  | zero =>
    intro fuel i r M st hi hf h13 h hv
    obtain ⟨f, rfl⟩ : ∃ f, fuel = f + 1 := ⟨fuel - 1, by omega⟩
    refine ⟨M, ?_, ?_, FX.rf, ?_⟩
    · rw [fL_X0_readDelegations_14, h13, if_pos (nI_le (by omega) (by omega))]
    · cases st <;> exact h
    · intro q hq j hj
      have : st = some q := by cases st with
        | none => cases hq
        | some p => exact hq
      exact (hv q this).2 j (by omega)
  | succ c ih =>
    intro fuel i r M st hi hf h13 h hv
    obtain ⟨f, rfl⟩ : ∃ f, fuel = f + 1 := ⟨fuel - 1, by omega⟩
    have h0 : CS (up M (k + 6) i (M k 5)) k n b st := h.upo (Or.inl (by omega)) (by omega) (by omega)
    obtain ⟨v, M1, e1, h1, f1, v1, v2, v3⟩ := cs_next (lo := 4) (hi := 6) (lo' := 4) (hi' := 6) rfl rfl (by omega) (by omega) h0
    -- what follows the role
    have tail : ∀ (M2 : Me) (st2 : Option Nat), CS M2 k n b st2 → FX k (k + 6) 5 M M2 → M2 (k + 6) = up M (k + 6) i (M k 5) (k + 6) → (∀ q, st2 = some q → ∃ p, st = some p ∧ q = p + 1) →
        ∃ M', ((f_X0_next k 0 1 M2).bind fun q3 => ((f_X0_readKeySet k q3.2).bind fun q4 => ((f_X0_readLetters k 0 3 q4.2).bind fun q5 => fL_X0_readDelegations_14 f k (r ||| (1 <<< (nI v &&& 31))) (nI i + 1) q5.2))) = some (0, M') ∧ CS M' k n b (st2.bind fun p1 => (pN b n 0 1 p1).bind fun p2 => (pKey b n p2).bind fun p3 => (pLet b n 0 3 p3).bind fun p4 => pDs b n c (r ||| (1 <<< (nI v &&& 31))) p4) ∧ FX k (k + 6) 5 M M' ∧ (∀ q, (st2.bind fun p1 => (pN b n 0 1 p1).bind fun p2 => (pKey b n p2).bind fun p3 => (pLet b n 0 3 p3).bind fun p4 => pDs b n c (r ||| (1 <<< (nI v &&& 31))) p4) = some q → ∀ j, j < C → M' (k + 6) j = nI (dP b d0 j)) := by
      intro M2 st2 h2 F2 row6 hs2
      obtain ⟨w, M3, e3, h3, f3, -⟩ := cs_next (lo := 0) (hi := 1) (lo' := 0) (hi' := 1) rfl rfl (by omega) (by omega) h2
      obtain ⟨M4, e4, h4, f4⟩ := cs_key _ _ h3
      obtain ⟨M5, e5, h5, f5⟩ := cs_letters (lo := 0) (hi := 3) (lo' := 0) (hi' := 3) rfl rfl (by omega) (by omega) _ _ h4
      have F5' := (f3.tr f4).tr f5
      obtain ⟨M6, e6, h6, f6, v6⟩ := ih f (i + 1) (r ||| (1 <<< (nI v &&& 31))) M5 _ (by omega) (by omega) (by rw [F5' k 13 (by rintro ⟨-, q⟩; omega), F2 k 13 (by omega) (by rintro ⟨-, q⟩; omega)]; exact h13) h5 (by
        intro q hq
        cases st2 with
        | none => cases hq
        | some p1 =>
          obtain ⟨p, hp, hp1⟩ := hs2 p1 rfl
          obtain ⟨g1, g2⟩ := hv p hp
          rw [Option.bind_some] at hq
          obtain ⟨p3, hp3, l3⟩ := ob hq
          obtain ⟨p2, hp2, l2⟩ := ob hp3
          have a1 := (pN_some hp2).2.2.2
          have a2 := (pKey_some l2).1
          have a3 := (pLet_some l3).1
          have x3 : p2 = dP b d0 i + 2 := by omega
          subst x3
          have x4 : p3 = dP b d0 i + 4 + b (dP b d0 i + 3) := by rw [← a2]
          refine ⟨by rw [dP, ← a3, x4], fun j hj => ?_⟩
          rw [F5'.row (a := k + 6) (by omega), row6]
          by_cases hji : j = i
          · subst hji
            have hh := h
            rw [hp] at hh
            rw [up_s, (cs_st hh).2.1, g1]
          · rw [up_j hji]; exact g2 j (by omega))
      have hsp : (st2.bind fun p1 => (pN b n 0 1 p1).bind fun p2 => (pKey b n p2).bind fun p3 => (pLet b n 0 3 p3).bind fun p4 => pDs b n c (r ||| (1 <<< (nI v &&& 31))) p4) = (((st2.bind (pN b n 0 1)).bind (pKey b n)).bind (pLet b n 0 3)).bind (pDs b n c (r ||| (1 <<< (nI v &&& 31)))) := by
        cases st2 with
        | none => rfl
        | some p1 => simp only [Option.bind_some, ob_bind]
      refine ⟨M6, ?_, by rw [hsp]; exact h6, (F2.tr (F5'.fx _ _)).tr f6, by rw [hsp]; exact v6⟩
      rw [e3, Option.bind_some, e4, Option.bind_some, e5, Option.bind_some, nI_1]
      exact e6
    rw [fL_X0_readDelegations_14, h13, if_neg (nI_ge (by omega) (by omega)), ha, if_pos (inB_nI (by omega) (by omega)), nI_clamp (by omega), e1, Option.bind_some]
    have F1 : FX k (k + 6) 5 M M1 := FX.upx.tr (f1.fx _ _)
    have row6 : M1 (k + 6) = up M (k + 6) i (M k 5) (k + 6) := f1.row (a := k + 6) (by omega)
    have F6 : ∀ z : Int32, FX k (k + 6) 5 M (up M1 k 6 z) := fun z => F1.tr ((F5.up6).fx _ _)
    have row6' : ∀ z : Int32, up M1 k 6 z (k + 6) = up M (k + 6) i (M k 5) (k + 6) := fun z => by rw [up_row (by omega)]; exact row6
    have bad : st.bind (pDs b n (c + 1) r) = none → ∃ M', ((f_X0_next k 0 1 (up M1 k 6 0)).bind fun q3 => ((f_X0_readKeySet k q3.2).bind fun q4 => ((f_X0_readLetters k 0 3 q4.2).bind fun q5 => fL_X0_readDelegations_14 f k (r ||| (1 <<< (nI v &&& 31))) (nI i + 1) q5.2))) = some (0, M') ∧ CS M' k n b (st.bind (pDs b n (c + 1) r)) ∧ FX k (k + 6) 5 M M' ∧ (∀ q, st.bind (pDs b n (c + 1) r) = some q → ∀ j, j < C → M' (k + 6) j = nI (dP b d0 j)) := by
      intro hn
      obtain ⟨M', g1, g2, g3, g4⟩ := tail (up M1 k 6 0) none h1.none_of (F6 0) (row6' 0) (fun q hq => by cases hq)
      rw [hn]
      exact ⟨M', g1, g2, g3, g4⟩
    rcases cs_snd h1 with ⟨z6, zn⟩ | ⟨z6, p1, zr⟩
    · rw [if_pos z6]
      refine bad ?_
      cases st with
      | none => rfl
      | some p => rw [Option.bind_some] at zn ⊢; rw [pDs, zn]; rfl
    · rw [if_neg z6]
      obtain ⟨p, hp⟩ : ∃ p, st = some p := by cases st with
        | none => cases zr
        | some p => exact ⟨p, rfl⟩
      subst hp
      rw [Option.bind_some] at zr
      have g := pN_some zr
      have hvb : v = b p := v3 p rfl (by rw [zr, g.2.2.2])
      by_cases gr : ((r >>> (nI v &&& 31)) &&& 1) = 0
      · rw [if_pos gr]
        have h1' : CS M1 k n b (some p1) := by rw [Option.bind_some, zr] at h1; exact h1
        obtain ⟨M', a1, a2, a3, a4⟩ := tail (up M1 k 6 1) (some p1) h1'.same1 (F6 1) (row6' 1) (fun q hq => by cases hq; exact ⟨p, rfl, g.2.2.2⟩)
        have hsp : (some p).bind (pDs b n (c + 1) r) = ((some p1).bind fun p1 => (pN b n 0 1 p1).bind fun p2 => (pKey b n p2).bind fun p3 => (pLet b n 0 3 p3).bind fun p4 => pDs b n c (r ||| (1 <<< (nI v &&& 31))) p4) := by
          rw [Option.bind_some, pDs, zr, Option.bind_some, ← hvb, if_pos gr, Option.bind_some]
        rw [hsp]
        exact ⟨M', a1, a2, a3, a4⟩
      · rw [if_neg gr]
        refine bad ?_
        rw [Option.bind_some, pDs, zr, Option.bind_some, ← hvb, if_neg gr]
theorem cs_del {k n d0 : Nat} {b : Nat → Nat} (ha : al (k + 6) = 3) (M : Me) (st : Option Nat) (h : CS M k n b st) (hv : ∀ q, st = some q → q + 1 = d0) :
    ∃ M', f_X0_readDelegations k M = some (0, M') ∧ CS M' k n b (st.bind (fun p => (pN b n 0 3 p).bind fun q => pDs b n (b p) 0 q)) ∧ FX k (k + 6) 13 M M' ∧ (∀ q, st.bind (fun p => (pN b n 0 3 p).bind fun q => pDs b n (b p) 0 q) = some q → M' k 13 = nI (b (d0 - 1)) ∧ ∀ j, j < b (d0 - 1) → M' (k + 6) j = nI (dP b d0 j)) := by
  obtain ⟨v, M1, e1, h1, f1, v1, v2, v3⟩ := cs_next (lo := 0) (hi := 3) (lo' := 0) (hi' := 3) rfl rfl (by omega) (by omega) h
  obtain ⟨M2, e2, h2, f2, v4⟩ := cs_delL (n := n) (b := b) (C := v) (d0 := d0) ha (by omega) v 200 0 0 (up M1 k 13 (nI v)) _ (by omega) (by omega) up_s (h1.upo (Or.inr (by omega)) (by omega) (by omega)) (by
    intro q hq
    cases st with
    | none => cases hq
    | some p =>
      rw [Option.bind_some] at hq
      have := (pN_some hq).2.2.2
      have := hv p rfl
      exact ⟨by rw [dP]; omega, fun j hj => absurd hj (Nat.not_lt_zero j)⟩)
  have hsp : st.bind (fun p => (pN b n 0 3 p).bind fun q => pDs b n (b p) 0 q) = (st.bind (pN b n 0 3)).bind (pDs b n v 0) := by
    cases st with
    | none => rfl
    | some p =>
      rw [Option.bind_some, Option.bind_some]
      rcases pN_is (b := b) (n := n) (lo := 0) (hi := 3) (p := p) with d | d
      · rw [d]; rfl
      · rw [d, Option.bind_some, Option.bind_some, v3 p rfl d]
  refine ⟨M2, ?_, by rw [hsp]; exact h2, ((f1.fx _ _).tr FX.upf).tr f2.wk, ?_⟩
  · rw [f_X0_readDelegations, e1, Option.bind_some]
    show ((fL_X0_readDelegations_14 200 k 0 (nI 0) (up M1 k 13 (nI v))).bind fun q12 => some ((0 : Int32), q12.2)) = _
    rw [e2]; rfl
  · intro q hq
    rw [hsp] at hq
    have g := v4 q hq
    have e13 : M2 k 13 = nI v := by rw [f2 k 13 (by omega) (by rintro ⟨-, q⟩; omega), up_s]
    cases st with
    | none => cases hq
    | some p =>
      rcases pN_is (b := b) (n := n) (lo := 0) (hi := 3) (p := p) with d | d
      · rw [Option.bind_some, d] at hq; cases hq
      · have hvb := v3 p rfl d
        have hpd : p = d0 - 1 := by have := hv p rfl; omega
        rw [hpd] at hvb
        subst hvb
        exact ⟨e13, g⟩
