/-- whether so many bytes agree -/
def ag (b1 : Nat → Nat) (n1 : Nat) (b2 : Nat → Nat) (n2 fr of : Nat) : Nat → Nat → Bool
  | 0, _ => true
  | c + 1, i => if fr + i < n1 ∧ of + i < n2 ∧ b1 (fr + i) = b2 (of + i) then ag b1 n1 b2 n2 fr of c (i + 1) else false
theorem ag_t {b1 b2 : Nat → Nat} {n1 n2 fr of c i : Nat} (h : fr + i < n1 ∧ of + i < n2 ∧ b1 (fr + i) = b2 (of + i)) : ag b1 n1 b2 n2 fr of (c + 1) i = ag b1 n1 b2 n2 fr of c (i + 1) := by rw [ag, if_pos h]
theorem ag_f {b1 b2 : Nat → Nat} {n1 n2 fr of c i : Nat} (h : ¬ (fr + i < n1 ∧ of + i < n2 ∧ b1 (fr + i) = b2 (of + i))) : ag b1 n1 b2 n2 fr of (c + 1) i = false := by rw [ag, if_neg h]
theorem s_agreesL {M : Me} {k n1 k2 n2 fr of : Nat} {b1 b2 : Nat → Nat} (h1 : RW M k n1 b1) (h2 : RW M k2 n2 b2) (hf : fr < 10000) (ho : of < 10000) : ∀ (c fuel i : Nat), c < fuel → i + c < 1000 → fL_X1_agrees_3 fuel k (nI fr) k2 (nI of) (nI (i + c)) (nI i) M = some (if ag b1 n1 b2 n2 fr of c i = true then 1 else 0, M) := by
  intro c
  have l1 : n1 ≤ 120 := by obtain ⟨_, a, b, _⟩ := h1; omega
  have l2 : n2 ≤ 120 := by obtain ⟨_, a, b, _⟩ := h2; omega
  induction c with
  | zero =>
    intro fuel i hfu hi
    obtain ⟨f, rfl⟩ : ∃ f, fuel = f + 1 := ⟨fuel - 1, by omega⟩
    rw [fL_X1_agrees_3, if_pos (nI_le (by omega) (by omega))]; rfl
  | succ c ih =>
    intro fuel i hfu hi
    obtain ⟨f, rfl⟩ : ∃ f, fuel = f + 1 := ⟨fuel - 1, by omega⟩
    rw [fL_X1_agrees_3, if_neg (nI_ge (by omega) (by omega)), nI_add, s_byteAt h1 (by omega), Option.bind_some]
    by_cases c1 : fr + i < n1
    · have hb1 := (h1.2.2.2 _ c1).2
      simp only [if_pos c1]
      rw [if_neg (nI_m1 (by omega)), nI_add, s_byteAt h2 (by omega), Option.bind_some]
      by_cases c2 : of + i < n2
      · have hb2 := (h2.2.2.2 _ c2).2
        simp only [if_pos c2]
        by_cases c3 : b1 (fr + i) = b2 (of + i)
        · rw [if_pos (by rw [c3]), ag_t ⟨c1, c2, c3⟩, nI_1, show i + (c + 1) = i + 1 + c by omega]
          exact ih f (i + 1) (by omega) (by omega)
        · rw [if_neg (fun q => c3 ((nI_eq (by omega) (by omega)).mp q)), ag_f (fun q => c3 q.2.2)]; rfl
      · simp only [if_neg c2]
        rw [if_neg (nI_m1 (by omega)), ag_f (fun q => c2 q.2.1)]; rfl
    · simp only [if_neg c1]
      rw [if_pos trivial, ag_f (fun q => c1 q.1)]; rfl
theorem s_agrees {M : Me} {k n1 k2 n2 fr of c : Nat} {b1 b2 : Nat → Nat} (h1 : RW M k n1 b1) (h2 : RW M k2 n2 b2) (hf : fr < 10000) (ho : of < 10000) (hc : c < 150) : f_X1_agrees k (nI fr) k2 (nI of) (nI c) M = some (if ag b1 n1 b2 n2 fr of c 0 = true then 1 else 0, M) := by
  have := s_agreesL h1 h2 hf ho c 200 0 (by omega) (by omega)
  rw [Nat.zero_add] at this
  exact this
theorem ag_iff {b1 b2 : Nat → Nat} {n1 n2 fr of : Nat} : ∀ c i, ag b1 n1 b2 n2 fr of c i = true ↔ ∀ j, i ≤ j → j < i + c → fr + j < n1 ∧ of + j < n2 ∧ b1 (fr + j) = b2 (of + j) := by
  intro c
  induction c with
  | zero => intro i; exact ⟨fun _ j h1 h2 => by omega, fun _ => rfl⟩
  | succ c ih =>
    intro i
    rw [ag]
    by_cases h : fr + i < n1 ∧ of + i < n2 ∧ b1 (fr + i) = b2 (of + i)
    · rw [if_pos h, ih]
      refine ⟨fun g j h1 h2 => ?_, fun g j h1 h2 => g j (by omega) (by omega)⟩
      by_cases e : j = i
      · subst e; exact h
      · exact g j (by omega) (by omega)
    · rw [if_neg h]
      exact ⟨fun g => (by cases g), fun g => absurd (g i (by omega) (by omega)) h⟩
theorem same_iff {b : Nat → Nat} {q p : Nat} : same b q p = true ↔ ∀ j, j < b q + 1 → b (q + j) = b (p + j) := by
  unfold same
  rw [List.all_eq_true]
  exact ⟨fun g j hj => by simpa using g j (List.mem_range.mpr hj), fun g j hj => by simpa using g j (List.mem_range.mp hj)⟩
/-- names of two targets: agrees is same, where both stand in the row -/
theorem ag_same {b : Nat → Nat} {n q p : Nat} (hq : q + b q < n) (hp : p + b p < n) : ag b n b n q p (1 + b q) 0 = same b q p := by
  rw [Bool.eq_iff_iff, ag_iff, same_iff]
  refine ⟨fun g j hj => (g j (by omega) (by omega)).2.2, fun g j h1 h2 => ?_⟩
  have e : b q = b p := by have := g 0 (by omega); simpa using this
  exact ⟨by omega, by omega, g j (by omega)⟩
theorem cs_earlL {k n i : Nat} {b : Nat → Nat} {M : Me} (ha : al (k + 5) = 4) (hR : RW M (k + 1) n b) (hi : i < 4) (hT : ∀ j, j ≤ i → M (k + 5) j = nI (tPos b j) ∧ tPos b j + b (tPos b j) < n ∧ b (tPos b j) ≤ 4) : ∀ (c fuel j0 : Nat), c < fuel → j0 + c = i → fL_X0_isNamedAsEarlier_2 fuel k (nI i) (nI j0) M = some (if (List.range' j0 c).any (fun j => same b (tPos b j) (tPos b i)) = true then 1 else 0, M) := by
  have hn : n ≤ 120 := by obtain ⟨_, a, b, _⟩ := hR; omega
  intro c
  induction c with
  | zero =>
    intro fuel j0 hf he
    obtain ⟨f, rfl⟩ : ∃ f, fuel = f + 1 := ⟨fuel - 1, by omega⟩
    rw [fL_X0_isNamedAsEarlier_2, if_pos (nI_le (by omega) (by omega))]; rfl
  | succ c ih =>
    intro fuel j0 hf he
    obtain ⟨f, rfl⟩ : ∃ f, fuel = f + 1 := ⟨fuel - 1, by omega⟩
    obtain ⟨t1, t2, t3⟩ := hT j0 (by omega)
    obtain ⟨u1, u2, u3⟩ := hT i (by omega)
    rw [fL_X0_isNamedAsEarlier_2, if_neg (nI_ge (by omega) (by omega)), ha, if_pos (inB_nI (by omega) (by omega)), if_pos (inB_nI (by omega) (by omega)), nI_clamp (by omega), nI_clamp (by omega), t1, u1, s_byteAt hR (by omega), Option.bind_some]
    simp only [if_pos (show tPos b j0 < n by omega)]
    rw [show (1 : Int32) = nI 1 from rfl, nI_add, s_agrees hR hR (by omega) (by omega) (by omega), Option.bind_some, ag_same t2 u2]
    rw [List.range'_succ, List.any_cons]
    by_cases g : same b (tPos b j0) (tPos b i) = true
    · simp only [if_pos g]
      rw [if_neg (show ¬ (1 : Int32) = 0 by decide), g, Bool.true_or]; rfl
    · simp only [if_neg g]
      rw [if_pos trivial, nI_add, ih f (j0 + 1) (by omega) (by omega)]
      simp only [Bool.not_eq_true] at g
      rw [g, Bool.false_or]; rfl
theorem cs_earl {k n i : Nat} {b : Nat → Nat} {M : Me} (ha : al (k + 5) = 4) (hR : RW M (k + 1) n b) (hi : i < 4) (hT : ∀ j, j ≤ i → M (k + 5) j = nI (tPos b j) ∧ tPos b j + b (tPos b j) < n ∧ b (tPos b j) ≤ 4) : f_X0_isNamedAsEarlier k (nI i) M = some (if (List.range i).any (fun j => same b (tPos b j) (tPos b i)) = true then 1 else 0, M) := by
  rw [f_X0_isNamedAsEarlier, show (0 : Int32) = nI 0 from rfl, cs_earlL ha hR hi hT i 200 0 (by omega) (by omega), ← List.range_eq_range']; rfl
theorem CS.none_of {M : Me} {k n : Nat} {b : Nat → Nat} {st : Option Nat} (h : CS M k n b st) : CS (up M k 6 0) k n b none := by
  obtain ⟨hR, p, hp, h5, -⟩ := h
  exact ⟨hR.f5 F5.up6, p, hp, by rw [up_j (by decide)]; exact h5, Or.inr ⟨up_s, rfl⟩⟩
theorem CS.same1 {M : Me} {k n p : Nat} {b : Nat → Nat} (h : CS M k n b (some p)) : CS (up M k 6 1) k n b (some p) := by
  obtain ⟨hR, q, hq, h5, ⟨h6, e⟩ | ⟨-, e⟩⟩ := h
  · cases e
    exact ⟨hR.f5 F5.up6, p, hq, by rw [up_j (by decide)]; exact h5, Or.inl ⟨up_s, rfl⟩⟩
  · cases e
theorem cs_snd {M : Me} {k n : Nat} {b : Nat → Nat} {st : Option Nat} (h : CS M k n b st) : (M k 6 = 0 ∧ st = none) ∨ (¬ M k 6 = 0 ∧ ∃ p, st = some p) := by
  obtain ⟨-, p, -, -, ⟨h6, e⟩ | ⟨h6, e⟩⟩ := h
  · right; exact ⟨by rw [h6]; decide, p, e⟩
  · left; exact ⟨h6, e⟩
theorem cs_tgtL {k n C : Nat} {b : Nat → Nat} (ha : al (k + 5) = 4) (hC : C ≤ 4) : ∀ (c fuel i : Nat) (M : Me) (st : Option Nat), i + c = C → c < fuel → M k 12 = nI C → CS M k n b st → (∀ q, st = some q → q = tPos b i ∧ ∀ j, j < i → M (k + 5) j = nI (tPos b j) ∧ tPos b j + b (tPos b j) < n ∧ b (tPos b j) ≤ 4) →
    ∃ M', fL_X0_readTargets_12 fuel k (nI i) M = some (0, M') ∧ CS M' k n b (st.bind (pTs b n c i)) ∧ FX k (k + 5) 5 M M' ∧ (∀ q, st.bind (pTs b n c i) = some q → q = tPos b C ∧ ∀ j, j < C → M' (k + 5) j = nI (tPos b j)) := by
  intro c
  induction c with
  | zero =>
    intro fuel i M st hi hf h12 h hv
    obtain ⟨f, rfl⟩ : ∃ f, fuel = f + 1 := ⟨fuel - 1, by omega⟩
    refine ⟨M, ?_, ?_, FX.rf, ?_⟩
    · rw [fL_X0_readTargets_12, h12, if_pos (nI_le (by omega) (by omega))]
    · cases st <;> exact h
    · intro q hq
      have : st = some q := by cases st with
        | none => cases hq
        | some p => exact hq
      have hiC : i = C := by omega
      subst hiC
      exact ⟨(hv q this).1, fun j hj => ((hv q this).2 j hj).1⟩
  | succ c ih =>
    intro fuel i M st hi hf h12 h hv
    obtain ⟨f, rfl⟩ : ∃ f, fuel = f + 1 := ⟨fuel - 1, by omega⟩
    have h0 : CS (up M (k + 5) i (M k 5)) k n b st := h.upo (Or.inl (by omega)) (by omega) (by omega)
    obtain ⟨M1, e1, h1, f1⟩ := cs_letters (lo := 1) (hi := 4) (lo' := 1) (hi' := 4) rfl rfl (by omega) (by omega) _ _ h0
    obtain ⟨M2, e2, h2, f2⟩ := cs_skip (c := 5) (c' := 5) rfl (by omega) _ _ h1
    have F2 : FX k (k + 5) 5 M M2 := FX.upx.tr ((f1.tr f2).fx _ _)
    have a12 : M2 k 12 = nI C := by rw [F2 k 12 (by omega) (by rintro ⟨-, q⟩; omega)]; exact h12
    rw [fL_X0_readTargets_12, h12, if_neg (nI_ge (by omega) (by omega)), ha, if_pos (inB_nI (by omega) (by omega)), nI_clamp (by omega), e1, Option.bind_some, e2, Option.bind_some]
    rcases cs_snd h2 with ⟨z6, zn⟩ | ⟨z6, r, zr⟩
    · rw [if_pos z6]
      obtain ⟨M4, e4, h4, f4, v4⟩ := ih f (i + 1) (up M2 k 6 0) none (by omega) (by omega) (by rw [up_j (by decide)]; exact a12) h2.none_of (fun q hq => by cases hq)
      have hsp : st.bind (pTs b n (c + 1) i) = none := by
        cases st with
        | none => rfl
        | some p =>
          rw [Option.bind_some, pTs]
          rw [Option.bind_some] at zn
          cases hp : pLet b n 1 4 p with
          | none => rfl
          | some q => rw [hp, Option.bind_some] at zn; rw [Option.bind_some, zn]; rfl
      refine ⟨M4, by rw [nI_1]; exact e4, by rw [hsp]; exact h4, (F2.tr ((F5.up6).fx _ _)).tr f4, by rw [hsp]; intro q hq; cases hq⟩
    · rw [if_neg z6]
      obtain ⟨p, hp⟩ : ∃ p, st = some p := by cases st with
        | none => cases zr
        | some p => exact ⟨p, rfl⟩
      subst hp
      rw [Option.bind_some] at zr
      obtain ⟨q1, l1, l2⟩ := ob zr
      obtain ⟨s1, s2⟩ := pSk_some l2
      obtain ⟨t1, t2, t3, t4, t5⟩ := pLet_some l1
      obtain ⟨g1, g2⟩ := hv p rfl
      have row5 : M2 (k + 5) = up M (k + 5) i (M k 5) (k + 5) := (f1.tr f2).row (a := k + 5) (by omega)
      have hT : ∀ j, j ≤ i → M2 (k + 5) j = nI (tPos b j) ∧ tPos b j + b (tPos b j) < n ∧ b (tPos b j) ≤ 4 := by
        intro j hj
        rw [row5]
        by_cases hji : j = i
        · subst hji
          rw [up_s, (cs_st h).2.1, g1]
          subst g1
          exact ⟨rfl, by omega, t4⟩
        · rw [up_j hji]; exact g2 j (by omega)
      rw [cs_earl ha h2.1 (by omega) hT, Option.bind_some]
      have hsp : (some p).bind (pTs b n (c + 1) i) = if (List.range i).any (fun j => same b (tPos b j) (tPos b i)) = true then none else pTs b n c (i + 1) r := by
        rw [Option.bind_some, pTs, l1, Option.bind_some, l2, Option.bind_some, g1]
      by_cases g : (List.range i).any (fun j => same b (tPos b j) (tPos b i)) = true
      · simp only [if_pos g]
        rw [if_neg (show ¬ (1 : Int32) = 0 by decide)]
        obtain ⟨M4, e4, h4, f4, v4⟩ := ih f (i + 1) (up M2 k 6 0) none (by omega) (by omega) (by rw [up_j (by decide)]; exact a12) h2.none_of (fun q hq => by cases hq)
        rw [hsp, if_pos g]
        exact ⟨M4, by rw [nI_1]; exact e4, h4, (F2.tr ((F5.up6).fx _ _)).tr f4, fun q hq => by cases hq⟩
      · simp only [if_neg g]
        rw [if_pos trivial]
        have h2' : CS M2 k n b (some r) := by rw [Option.bind_some, l1, Option.bind_some, l2] at h2; exact h2
        obtain ⟨M4, e4, h4, f4, v4⟩ := ih f (i + 1) (up M2 k 6 1) (some r) (by omega) (by omega) (by rw [up_j (by decide)]; exact a12) h2'.same1 (by
          intro q hq
          cases hq
          refine ⟨by rw [s2, ← t1, g1, tPos]; omega, fun j hj => ?_⟩
          rw [up_k (by omega)]
          exact hT j (by omega))
        rw [hsp, if_neg g]
        exact ⟨M4, by rw [nI_1]; exact e4, h4, (F2.tr ((F5.up6).fx _ _)).tr f4, v4⟩
