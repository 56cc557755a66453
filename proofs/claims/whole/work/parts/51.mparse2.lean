theorem ms_keysL {t n : Nat} {b : Nat → Nat} : ∀ (c fuel i lo : Nat) (x3 : Int32) (M : Me) (p : Nat), c < fuel → i + c < 1000 → lo < 500 → x3 + 1 = nI lo → MS M t n b (some p) → ∃ M', fL_X5_passKeys_48 fuel (nI (i + c)) x3 (nI i) M = some (0, M') ∧ MS M' t n b (pKs b n c lo p) ∧ FM M M' := by
  intro c
  induction c with
  | zero =>
    intro fuel i lo x3 M p hf hi hlo hx h
    obtain ⟨f, rfl⟩ : ∃ f, fuel = f + 1 := ⟨fuel - 1, by omega⟩
    exact ⟨M, by rw [fL_X5_passKeys_48, if_pos (nI_le (by omega) (by omega))], h, FM.rf⟩
  | succ c ih =>
    intro fuel i lo x3 M p hf hi hlo hx h
    obtain ⟨f, rfl⟩ : ∃ f, fuel = f + 1 := ⟨fuel - 1, by omega⟩
    obtain ⟨v, M1, e1, h1, f1, v1⟩ := ms_between (lo := lo) (hi := 9) (lo' := nI lo) (hi' := 9) rfl rfl (by omega) (by omega) h
    rw [Option.bind_some] at h1
    rw [fL_X5_passKeys_48, if_neg (nI_ge (by omega) (by omega)), if_neg (by rw [(ms_good h).2.1]; decide), hx, e1, Option.bind_some, pKs]
    cases hq : pN b n lo 9 p with
    | none =>
      rw [hq] at h1
      obtain ⟨f', rfl⟩ : ∃ f', f = f' + 1 := ⟨f - 1, by omega⟩
      refine ⟨M1, ?_, h1, f1⟩
      rw [fL_X5_passKeys_48]
      simp only [ms_none h1, if_pos]
      split <;> rfl
    | some q =>
      rw [hq] at h1
      have hb := pN_some hq
      obtain ⟨M2, e2, h2, f2⟩ := ih f (i + 1) (b p + 1) v M1 q (by omega) (by omega) (by omega) (by rw [v1 p rfl (by rw [hq, hb.2.2.2]), nI_1]) h1
      exact ⟨M2, by rw [nI_1, show i + (c + 1) = i + 1 + c by omega]; exact e2, h2, f1.tr f2⟩
theorem ms_key {t n : Nat} {b : Nat → Nat} {M : Me} {st : Option Nat} (h : MS M t n b st) : ∃ M', f_X5_passKeys M = some (0, M') ∧ MS M' t n b (st.bind (pKey b n)) ∧ FM M M' := by
  have h0 : MS (up M 73 11 (M 73 7)) t n b st := by
    obtain ⟨hR, ht, h8, h9⟩ := h
    refine ⟨hR.fm (FM.u (by omega)), ht, by rw [up_j (by decide)]; exact h8, ?_⟩
    rw [up_j (by decide), up_j (by decide)]; exact h9
  have f0 : FM M (up M 73 11 (M 73 7)) := FM.u (by omega)
  obtain ⟨v, M1, e1, h1, f1, v1⟩ := ms_between (lo := 1) (hi := 4) (lo' := 1) (hi' := 4) rfl rfl (by omega) (by omega) h0
  obtain ⟨w, M2, e2, h2, f2, w1⟩ := ms_between (lo := 1) (hi := 4) (lo' := 1) (hi' := 4) rfl rfl (by omega) (by omega) h1
  have F := (f0.tr f1).tr f2
  rw [f_X5_passKeys, e1, Option.bind_some, e2, Option.bind_some]
  have bad : ∀ z : Int32, z = 0 → st.bind (pKey b n) = none → ∃ M', ((fL_X5_passKeys_48 200 w (-1) 0 (up M2 73 9 z)).bind fun q4 => some ((0 : Int32), q4.2)) = some (0, M') ∧ MS M' t n b (st.bind (pKey b n)) ∧ FM M M' := by
    intro z hz hn
    subst hz
    rw [hn]
    refine ⟨up M2 73 9 0, ?_, ms_bad' h2, F.tr (FM.u (by omega))⟩
    rw [fL_X5_passKeys_48]
    simp only [up_s, if_pos]
    split <;> rfl
  cases hq : (st.bind (pN b n 1 4)).bind (pN b n 1 4) with
  | none =>
    rw [hq] at h2
    rw [if_pos (ms_none h2)]
    refine bad 0 rfl ?_
    cases st with
    | none => rfl
    | some p =>
      rw [Option.bind_some] at hq ⊢
      rw [pKey]
      rcases pN_is (b := b) (n := n) (lo := 1) (hi := 4) (p := p) with d | d
      · rw [d]; rfl
      · rw [d, Option.bind_some] at hq ⊢
        rcases pN_is (b := b) (n := n) (lo := b p) (hi := 4) (p := p + 1) with d2 | d2
        · rw [d2]; rfl
        · have g1 := pN_some d2
          have g2 := pN_some d
          rw [pN, if_pos (by omega)] at hq; cases hq
  | some q =>
    obtain ⟨p1, g1, d2, rfl⟩ := pN_st hq
    obtain ⟨p, rfl, d1, rfl⟩ := pN_st g1
    rw [hq] at h2
    rw [if_neg (show ¬ M2 73 9 = 0 by rw [(ms_good h2).2.1]; decide), v1 p rfl d1, w1 (p + 1) g1 d2]
    have k1 := pN_some d1
    have k2 := pN_some d2
    by_cases c : b (p + 1) < b p
    · rw [if_pos (nI_lt c (by omega))]
      have hn : (some p).bind (pKey b n) = none := by
        rw [Option.bind_some, pKey, d1, Option.bind_some, pN, if_neg (by omega)]; rfl
      have := bad 0 rfl hn
      rw [w1 (p + 1) g1 d2] at this
      exact this
    · rw [if_neg (nI_nlt (by omega) (by omega))]
      obtain ⟨M3, e3, h3, f3⟩ := ms_keysL (b (p + 1)) 200 0 0 (-1) _ _ (by omega) (by omega) (by omega) (by decide) (ms_same1 h2)
      rw [Nat.zero_add] at e3
      refine ⟨M3, ?_, ?_, (F.tr (FM.u (by omega))).tr f3⟩
      · rw [show (0 : Int32) = nI 0 from rfl, e3]; rfl
      · rw [Option.bind_some, pKey, d1, Option.bind_some, pN, if_pos (by omega), Option.bind_some]; exact h3
def sm (b : Nat → Nat) (q p : Nat) : Nat → Nat → Bool
  | 0, _ => true
  | c + 1, i => decide (b (q + i) = b (p + i)) && sm b q p c (i + 1)
theorem sm_iff {b : Nat → Nat} {q p : Nat} : ∀ c i, sm b q p c i = true ↔ ∀ j, i ≤ j → j < i + c → b (q + j) = b (p + j) := by
  intro c
  induction c with
  | zero => intro i; exact ⟨fun _ j h1 h2 => by omega, fun _ => rfl⟩
  | succ c ih =>
    intro i
    rw [sm, Bool.and_eq_true, ih, decide_eq_true_eq]
    refine ⟨fun g j h1 h2 => ?_, fun g => ⟨g i (by omega) (by omega), fun j h1 h2 => g j (by omega) (by omega)⟩⟩
    by_cases e : j = i
    · subst e; exact g.1
    · exact g.2 j (by omega) (by omega)
/-- the names that begin at two places -/
theorem ms_sameL {t n q p : Nat} {b : Nat → Nat} {M : Me} (hR : RM M t n b) (ht : t ≤ 7) (hq : q + b q < n) (hp : p + b p < n) : ∀ (c fuel i : Nat) (s : Bool), c < fuel → i + c = b q + 1 → (1 ≤ i → s = true → b q = b p) →
    fL_X5_areSame_5 fuel (nI (120 * t + q)) (nI (120 * t + p)) (if s = true then 1 else 0) (nI i) M = some (if (s && sm b q p c i) = true then 1 else 0, M) := by
  obtain ⟨r1, r2, r3, r4⟩ := hR
  have hbq := (r4 q (by omega)).2
  intro c
  induction c with
  | zero =>
    intro fuel i s hf hi _
    obtain ⟨f, rfl⟩ : ∃ f, fuel = f + 1 := ⟨fuel - 1, by omega⟩
    rw [fL_X5_areSame_5, al74, if_pos (inB_nI (by omega) (by omega)), nI_clamp (by omega), (r4 q (by omega)).1, if_pos (nI_lt (by omega) (by omega)), sm, Bool.and_true]
  | succ c ih =>
    intro fuel i s hf hi hs2
    obtain ⟨f, rfl⟩ : ∃ f, fuel = f + 1 := ⟨fuel - 1, by omega⟩
    rw [fL_X5_areSame_5, al74, if_pos (inB_nI (by omega) (by omega)), nI_clamp (by omega), (r4 q (by omega)).1, if_neg (nI_nlt (by omega) (by omega)), sm]
    have z0 := ih f (i + 1) false (by omega) (by omega) (fun _ z => by cases z)
    rw [if_neg (by decide), Bool.false_and] at z0
    cases s with
    | true =>
      have hpi : p + i < n := by
        rcases Nat.eq_zero_or_pos i with h0 | h0
        · omega
        · have := hs2 h0 rfl; omega
      rw [if_pos rfl, if_neg (show ¬ (1 : Int32) = 0 by decide), nI_add, nI_add, if_pos (inB_nI (by omega) (by omega)), if_pos (inB_nI (by omega) (by omega)), nI_clamp (by omega), nI_clamp (by omega), show 120 * t + q + i = 120 * t + (q + i) by omega, show 120 * t + p + i = 120 * t + (p + i) by omega, (r4 (q + i) (by omega)).1, (r4 (p + i) hpi).1, nI_1]
      have x1 := (r4 (q + i) (by omega)).2
      have x2 := (r4 (p + i) hpi).2
      by_cases e : b (q + i) = b (p + i)
      · rw [if_pos (by rw [e])]
        have := ih f (i + 1) true (by omega) (by omega) (fun _ _ => by
          rcases Nat.eq_zero_or_pos i with h0 | h0
          · subst h0; simpa using e
          · exact hs2 h0 rfl)
        rw [if_pos rfl] at this
        rw [this, decide_eq_true e, Bool.true_and, Bool.true_and]
      · rw [if_neg (fun z => e ((nI_eq (by omega) (by omega)).mp z)), z0, decide_eq_false e, Bool.false_and, Bool.and_false]
    | false => rw [if_pos (show (if false = true then (1 : Int32) else 0) = 0 from rfl), nI_1, z0, Bool.false_and]
theorem ms_same {t n q p : Nat} {b : Nat → Nat} {M : Me} (hR : RM M t n b) (ht : t ≤ 7) (hq : q + b q < n) (hp : p + b p < n) (h4 : b q ≤ 4) : f_X5_areSame (nI (120 * t + q)) (nI (120 * t + p)) M = some (if same b q p = true then 1 else 0, M) := by
  have h := ms_sameL hR ht hq hp (b q + 1) 200 0 true (by omega) (by omega) (fun h => by omega)
  rw [if_pos rfl, Bool.true_and] at h
  have e : sm b q p (b q + 1) 0 = same b q p := by
    rw [Bool.eq_iff_iff, sm_iff, same_iff]
    exact ⟨fun z j hj => z j (by omega) (by omega), fun z j _ hj => z j (by omega)⟩
  rw [e] at h
  rw [f_X5_areSame, show (0 : Int32) = nI 0 from rfl, h, Option.bind_some]
  by_cases g : same b q p = true
  · simp only [if_pos g]; rfl
  · simp only [if_neg g]; rfl
