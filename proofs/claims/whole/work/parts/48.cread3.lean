theorem s_become {M : Me} {kk src n : Nat} {b : Nat → Nat} (h : RW M src n b) (ha : al (kk + 1) = 120) (h1 : src ≠ kk) (h2 : src ≠ kk + 1) : ∃ M', f_X1_become kk src M = some (0, M') ∧ RW M' kk n b ∧ (∀ a, a ≠ kk → a ≠ kk + 1 → M' a = M a) := by
  obtain ⟨r1, r2, r3, r4⟩ := h
  have hn : n ≤ 120 := by omega
  refine ⟨up (upr M (kk + 1) (va_cpy (M (src + 1)) (M (kk + 1)) 0 0 n)) kk 1 (nI n), ?_, ⟨up_s, by omega, by omega, fun i hi => ?_⟩, fun a g1 g2 => ?_⟩
  · rw [f_X1_become, ha, r1, if_neg (show ¬ nI 120 < nI n from nI_nlt (by omega) (by omega)), if_pos, nI_clamp (by omega), upr_k (fun q => h2 q), r1]
    have h0 : ¬ nI n < 0 := nI_pos (by omega)
    simp [cpB, h0, nI_clamp (show n < 2 ^ 31 by omega), r2, hn]
  · rw [up_k (by omega), upr_s, pk_cpy_in (by omega) (by omega)]
    have := r4 i hi
    simpa using this
  · rw [up_row g1, upr_k g2]
theorem DocF.of {M M' : Me} {k : Nat} {b : Nat → Nat} (h : DocF M k b) (h1 : ∀ j, 9 ≤ j → j ≤ 13 → M' k j = M k j) (h2 : ∀ a, a = k + 3 ∨ a = k + 4 ∨ a = k + 5 ∨ a = k + 6 → M' a = M a) : DocF M' k b := by
  obtain ⟨a1, a2, a3, a4, a5, a6⟩ := h
  refine ⟨by rw [h1 9 (by omega) (by omega)]; exact a1, by rw [h1 10 (by omega) (by omega)]; exact a2, by rw [h1 11 (by omega) (by omega)]; exact a3, by rw [h2 _ (Or.inl rfl)]; exact a4, by rw [h2 _ (Or.inr (Or.inl rfl))]; exact a5, ?_⟩
  rw [h1 12 (by omega) (by omega), h1 13 (by omega) (by omega), h2 _ (Or.inr (Or.inr (Or.inl rfl))), h2 _ (Or.inr (Or.inr (Or.inr rfl)))]
  exact a6
/-- nothing but the seven cells of a document changed -/
def F7 (k : Nat) (M M' : Me) : Prop := ∀ a, a < k ∨ k + 7 ≤ a → M' a = M a
/-- what reading left -/
def Rd (M : Me) (k n : Nat) (b : Nat → Nat) : Prop := RW M (k + 1) n b ∧ M k 8 = (if pDoc b n = some n then 1 else 0) ∧ M k 7 = (if pSig b n = some n then 1 else 0) ∧ ∀ s, pSig b n = some s → DocF M k b ∧ M k 14 = nI s
theorem cs_place {M : Me} {k n : Nat} {b : Nat → Nat} {st : Option Nat} (h : CS M k n b st) (hs : ¬ M k 6 = 0) : (M k 5 = nI n) ↔ st = some n := by
  have hn := (cs_lt h).1
  obtain ⟨-, p, hp, h5, ⟨-, e⟩ | ⟨h6, -⟩⟩ := h
  · rw [h5, e]
    exact ⟨fun q => by rw [(nI_eq (by omega) (by omega)).mp q], fun q => by cases q; rfl⟩
  · exact absurd h6 hs
theorem s_read {M : Me} {k src n : Nat} {b : Nat → Nat} (hk : isK k 0) (h : RW M src n b) (h1 : src < k ∨ k + 7 ≤ src) : ∃ M', f_X0_read k src M = some (0, M') ∧ Rd M' k n b ∧ F7 k M M' := by
  have ha := alD_of hk
  obtain ⟨M1, e1, w1, f1⟩ := s_become (kk := k + 1) h ha.1 (by omega) (by omega)
  have hc : CS (up (up M1 k 5 0) k 6 1) k n b (some 0) := by
    refine ⟨⟨?_, w1.2.1, w1.2.2.1, fun i hi => ?_⟩, 0, by omega, ?_, Or.inl ⟨up_s, rfl⟩⟩
    · rw [up_k (by omega), up_k (by omega)]; exact w1.1
    · rw [up_k (by omega), up_k (by omega)]; exact w1.2.2.2 i hi
    · rw [up_j (by decide), up_s]; rfl
  obtain ⟨M2, e2, h2, f2, d2⟩ := cs_signed ha _ hc
  have hn := (cs_lt h2).1
  have F2 : F7 k M M2 := fun a g => by rw [f2 a (by omega) (by omega) (by omega) (by omega) (by omega), up_row (by omega), up_row (by omega), f1 a (by omega) (by omega)]
  -- from the signatures on: whatever bare is
  have rest : ∀ z : Int32, ∃ M', ((f_X0_readSignatures k (up (up M2 k 14 (M2 k 5)) k 7 z)).bind fun q3 => if (q3.2 k 6) = 0 then some ((0 : Int32), (up q3.2 k 8 0)) else ((f_X1_size (k + 1) q3.2).bind fun q4 => if (q3.2 k 5) = q4.1 then some (0, (up q4.2 k 8 1)) else some (0, (up q4.2 k 8 0)))) = some (0, M') ∧ RW M' (k + 1) n b ∧ M' k 8 = (if pDoc b n = some n then 1 else 0) ∧ M' k 7 = z ∧ (∀ s, pSig b n = some s → DocF M' k b ∧ M' k 14 = nI s) ∧ F7 k M M' := by
    intro z
    have h2' : CS (up (up M2 k 14 (M2 k 5)) k 7 z) k n b (pSig b n) := (h2.upo (a := k) (j := 14) (Or.inr (by omega)) (by omega) (by omega)).upo (Or.inr (by omega)) (by omega) (by omega)
    obtain ⟨M3, e3, h3, f3⟩ := cs_end _ _ h2'
    have hdoc : (pSig b n).bind (pEnd b n) = pDoc b n := rfl
    rw [hdoc] at h3
    have fin : ∀ x : Int32, x = (if pDoc b n = some n then 1 else 0) → ∃ M', some ((0 : Int32), up M3 k 8 x) = some (0, M') ∧ RW M' (k + 1) n b ∧ M' k 8 = (if pDoc b n = some n then 1 else 0) ∧ M' k 7 = z ∧ (∀ s, pSig b n = some s → DocF M' k b ∧ M' k 14 = nI s) ∧ F7 k M M' := by
      intro x hx
      refine ⟨_, rfl, ?_, ?_, ?_, fun s hs => ⟨(d2 s hs).of (fun j g1 g2 => ?_) (fun a g => ?_), ?_⟩, fun a g => ?_⟩
      · exact (h3.upo (a := k) (j := 8) (Or.inr (by omega)) (by omega) (by omega)).1
      · rw [up_s]; exact hx
      · rw [up_j (by decide), f3 k 7 (by omega), up_s]
      · rw [up_j (by omega), f3 k j (by omega), up_j (by omega), up_j (by omega)]
      · rw [up_row (by omega), f3.row (by omega), up_row (by omega), up_row (by omega)]
      · rw [up_j (by decide), f3 k 14 (by omega), up_j (by decide), up_s]
        have := h2; rw [hs] at this; exact (cs_st this).2.1
      · rw [up_row (by omega), f3.row (by omega), up_row (by omega), up_row (by omega)]; exact F2 a g
    rw [e3, Option.bind_some]
    by_cases c : M3 k 6 = 0
    · rw [if_pos c]
      refine fin 0 ?_
      rcases cs_snd h3 with ⟨-, q⟩ | ⟨q, -⟩
      · rw [q, if_neg (by intro q; cases q)]
      · exact absurd c q
    · rw [if_neg c, f_X1_size, Option.bind_some]
      simp only [h3.1.1]
      by_cases c2 : M3 k 5 = nI n
      · rw [if_pos c2]; exact fin 1 (by rw [if_pos ((cs_place h3 c).mp c2)])
      · rw [if_neg c2]; exact fin 0 (by rw [if_neg (fun q => c2 ((cs_place h3 c).mpr q))])
  rw [f_X0_read, e1, Option.bind_some, e2, Option.bind_some]
  by_cases c : M2 k 6 = 0
  · rw [if_pos c]
    obtain ⟨M', g1, g2, g3, g4, g5, g6⟩ := rest 0
    refine ⟨M', g1, ⟨g2, g3, ?_, g5⟩, g6⟩
    rw [g4]
    rcases cs_snd h2 with ⟨-, q⟩ | ⟨q, -⟩
    · rw [q, if_neg (by intro q; cases q)]
    · exact absurd c q
  · rw [if_neg c, f_X1_size, Option.bind_some]
    have hsz : up M2 k 14 (M2 k 5) (k + 1) 1 = nI n := by rw [up_k (by omega)]; exact h2.1.1
    simp only [hsz]
    by_cases c2 : M2 k 5 = nI n
    · rw [if_pos c2]
      obtain ⟨M', g1, g2, g3, g4, g5, g6⟩ := rest 1
      exact ⟨M', g1, ⟨g2, g3, by rw [g4, if_pos ((cs_place h2 c).mp c2)], g5⟩, g6⟩
    · rw [if_neg c2]
      obtain ⟨M', g1, g2, g3, g4, g5, g6⟩ := rest 0
      exact ⟨M', g1, ⟨g2, g3, by rw [g4, if_neg (fun q => c2 ((cs_place h2 c).mpr q))], g5⟩, g6⟩
