theorem i3 (x : Int32) : x < 0 ∨ ∃ j : Nat, j < 2 ^ 31 ∧ x = nI j := by
  by_cases c : x < 0
  · exact Or.inl c
  · exact Or.inr (nI_of c)
/-- put -/
theorem put_ok {M : Me} {n : Nat → Nat} {b : Nat → Nat → Nat} {h : Nat → Bool} {ck vs is : Int32} (w : Int64) (x : Int32) (C : CInv M n b h ck vs is) (D : MInv M n b h ck vs is) : ∃ o M1 M2 n' b', f_X4_put w x M = some (o, M1) ∧ f_X5_put w x M1 = some (o, M2) ∧ CInv M2 n' b' h ck vs is ∧ MInv M2 n' b' h ck vs is ∧ (∀ t, t < 7 → n' t = n t ∧ b' t = b t) := by
  have r := C.1
  obtain ⟨r1, r2, r3, r4⟩ := id r
  have hn : n 7 ≤ 120 := by omega
  have m7 := D.1 7 (by omega)
  have no : ∃ o M1 M2 n' b', some ((0 : Int32), M) = some (o, M1) ∧ some ((0 : Int32), up M1 73 0 0) = some (o, M2) ∧ CInv M2 n' b' h ck vs is ∧ MInv M2 n' b' h ck vs is ∧ (∀ t, t < 7 → n' t = n t ∧ b' t = b t) :=
    ⟨0, M, _, n, b, rfl, rfl, C.keep (fun a ha => up_row (by omega)), D.thrown, fun _ _ => ⟨rfl, rfl⟩⟩
  unfold f_X4_put f_X5_put
  by_cases c1 : x < 1
  · rw [if_pos c1]; simp only [if_pos c1]; exact no
  rw [if_neg c1]; simp only [if_neg c1]
  by_cases c2 : (8 : Int32) < x
  · rw [if_pos c2]; simp only [if_pos c2]; exact no
  rw [if_neg c2]; simp only [if_neg c2]
  obtain ⟨c, hc, hx⟩ : ∃ c : Nat, c ≤ 8 ∧ x = nI c := by
    refine nI_of2 (M := 8) (n := 8) (by decide) (fun z => c1 ?_) ?_
    · rw [Int32.lt_iff_toInt_lt] at z ⊢
      have e1 : (0 : Int32).toInt = 0 := by decide
      have e2 : (1 : Int32).toInt = 1 := by decide
      omega
    · rw [Int32.le_iff_toInt_le]; rw [Int32.lt_iff_toInt_lt] at c2; omega
  subst hx
  rw [f_X1_hasRoomFor, al_64, r1, show (nI 120 : Int32) - nI (n 7) = nI (120 - n 7) from pk_sub hn]
  by_cases c3 : n 7 + c ≤ 120
  · rw [if_neg (nI_nlt (by omega) (by omega)), Option.bind_some]
    simp only []
    rw [if_neg (show ¬ (1 : Int32) = 0 by decide)]
    obtain ⟨M1, e1, w1, f1⟩ := s_lowL (w := w) (k := 63) c 200 0 (n 7) (b 7) M (by omega) (by omega) r (by rw [al_64]; omega)
    rw [Nat.zero_add] at e1
    have e1' : f_X1_appendLowest 63 w (nI c) M = some (0, M1) := by rw [f_X1_appendLowest, show (0 : Int32) = nI 0 from rfl, e1]; rfl
    rw [e1', Option.bind_some]
    have D1 : MInv M1 n b h ck vs is := D.keep (fun a g1 g2 => f1 a (by omega) (by omega))
    have m71 := D1.1 7 (by omega)
    have D1t : RM (up M1 73 0 0) 7 (n 7) (b 7) := (D1.thrown (v := 0)).1 7 (by omega)
    obtain ⟨M2, e2, w2, f2⟩ := m_putL (w := w) c 200 0 (n 7) (b 7) (up M1 73 0 0) (by omega) (by omega) D1t (by omega)
    rw [Nat.zero_add] at e2
    have hap : apN (fun i => low8 ((lushr_ w (8 * nI i)).toInt32)) c 0 (n 7) (b 7) = apN (fun i => low8 (((lshr_ w (8 * nI i)) &&& 255).toInt32)) c 0 (n 7) (b 7) := apN_congr _ _ _ _ (fun j _ hj => sw_eq w j (by omega))
    have F := FT.u0.tr f2
    refine ⟨1, M1, M2, va_up n 7 (n 7 + c), va_up b 7 (apN (fun i => low8 ((lushr_ w (8 * nI i)).toInt32)) c 0 (n 7) (b 7)), rfl, ?_, (C.draft f1 w1).keep F.km, D1.draft F (by rw [hap]; exact w2), fun t ht => ⟨by simp [va_up, show ¬ t = 7 by omega], by simp [va_up, show ¬ t = 7 by omega]⟩⟩
    rw [m71.1, nI_add, if_pos (show nI (n 7 + c) ≤ (120 : Int32) from nI_le (b := 120) (by omega) (by omega)), show fL_X5_put_35 200 w (nI c) 0 (up M1 73 0 0) = some (0, M2) from e2]; rfl
  · rw [if_pos (nI_lt (by omega) (by omega)), Option.bind_some]
    simp only []
    rw [if_pos trivial]
    refine ⟨0, M, up M 73 0 0, n, b, rfl, ?_, C.keep (fun a ha => up_row (by omega)), D.thrown, fun _ _ => ⟨rfl, rfl⟩⟩
    rw [m7.1, nI_add, if_neg (show ¬ nI (n 7 + c) ≤ (120 : Int32) from nI_ge (a := 120) (by omega) (by omega))]
theorem cut_ok {M : Me} {n : Nat → Nat} {b : Nat → Nat → Nat} {h : Nat → Bool} {ck vs is : Int32} (x : Int32) (C : CInv M n b h ck vs is) (D : MInv M n b h ck vs is) : ∃ o M1 M2 n' b', f_X4_cut x M = some (o, M1) ∧ f_X5_cut x M1 = some (o, M2) ∧ CInv M2 n' b' h ck vs is ∧ MInv M2 n' b' h ck vs is ∧ (∀ t, t < 7 → n' t = n t ∧ b' t = b t) := by
  obtain ⟨r1, r2, r3, r4⟩ := id C.1
  have hn : n 7 ≤ 120 := by omega
  have m7 := D.1 7 (by omega)
  unfold f_X4_cut f_X5_cut
  rcases i3 x with c1 | ⟨c, hc, rfl⟩
  · simp only [if_pos c1]
    exact ⟨0, M, _, n, b, rfl, rfl, C.keep (fun a ha => up_row (by omega)), D.thrown, fun _ _ => ⟨rfl, rfl⟩⟩
  simp only [if_neg (nI_pos hc)]
  rw [f_X1_size, Option.bind_some]
  simp only [r1]
  by_cases c2 : c ≤ n 7
  · rw [if_pos (nI_le c2 (by omega))]
    have kf : ∃ M1, f_X1_keepFirst 63 (nI c) M = some (0, M1) ∧ RW M1 63 c (b 7) ∧ (∀ a, a ≠ 63 → a ≠ 64 → M1 a = M a) := by
      rw [f_X1_keepFirst, if_neg (nI_pos hc), r1]
      by_cases c3 : n 7 ≤ c
      · rw [if_pos (nI_le c3 (by omega))]
        have : c = n 7 := by omega
        subst this
        exact ⟨M, rfl, C.1, fun _ _ _ => rfl⟩
      · rw [if_neg (nI_ge (by omega) (by omega))]
        exact ⟨_, rfl, ⟨up_s, by omega, r3, fun i hi => by rw [up_k (by decide)]; exact r4 i (by omega)⟩, fun a g1 g2 => up_row g1⟩
    obtain ⟨M1, e1, w1, f1⟩ := kf
    rw [e1, Option.bind_some]
    have D1 : MInv M1 n b h ck vs is := D.keep (fun a g1 g2 => f1 a (by omega) (by omega))
    obtain ⟨q1, q2, q3, q4⟩ := D1.1 7 (by omega)
    have F : FT M1 (up (up M1 73 0 0) 75 7 (nI c)) := FT.u0.tr FT.u75
    refine ⟨1, M1, up (up M1 73 0 0) 75 7 (nI c), va_up n 7 c, va_up b 7 (b 7), rfl, ?_, (C.draft f1 w1).keep F.km, D1.draft F ⟨up_s, by omega, by omega, fun i hi => by rw [up_k (by decide), up_k (by decide)]; exact q4 i (by omega)⟩, fun t ht => ⟨by simp [va_up, show ¬ t = 7 by omega], by simp [va_up, show ¬ t = 7 by omega]⟩⟩
    rw [q1, if_pos (nI_le c2 (by omega))]
  · rw [if_neg (nI_ge (by omega) (by omega))]
    refine ⟨0, M, up M 73 0 0, n, b, rfl, ?_, C.keep (fun a ha => up_row (by omega)), D.thrown, fun _ _ => ⟨rfl, rfl⟩⟩
    rw [m7.1, if_neg (nI_ge (by omega) (by omega))]
theorem alter_ok {M : Me} {n : Nat → Nat} {b : Nat → Nat → Nat} {h : Nat → Bool} {ck vs is : Int32} (x v : Int32) (C : CInv M n b h ck vs is) (D : MInv M n b h ck vs is) : ∃ o M1 M2 n' b', f_X4_alter x v M = some (o, M1) ∧ f_X5_alter x v M1 = some (o, M2) ∧ CInv M2 n' b' h ck vs is ∧ MInv M2 n' b' h ck vs is ∧ (∀ t, t < 7 → n' t = n t ∧ b' t = b t) := by
  obtain ⟨r1, r2, r3, r4⟩ := id C.1
  have hn : n 7 ≤ 120 := by omega
  have m7 := D.1 7 (by omega)
  unfold f_X4_alter f_X5_alter
  rw [f_X1_has]
  rcases i3 x with c1 | ⟨c, hc, rfl⟩
  · rw [if_pos c1, Option.bind_some]
    simp only [if_pos c1]
    rw [if_pos trivial]
    exact ⟨0, M, _, n, b, rfl, rfl, C.keep (fun a ha => up_row (by omega)), D.thrown, fun _ _ => ⟨rfl, rfl⟩⟩
  simp only [if_neg (nI_pos hc)]
  rw [r1]
  by_cases c2 : c < n 7
  · rw [if_neg (nI_ge c2 (by omega)), Option.bind_some]
    simp only []
    rw [if_neg (show ¬ (1 : Int32) = 0 by decide), f_X1_replace, if_neg (nI_pos hc), r1, if_neg (nI_ge c2 (by omega)), al_64, if_pos (inB_nI (by omega) (by omega)), nI_clamp (by omega), low8_and, Option.bind_some]
    have w1 : RW (up M (63 + 1) c (nI (low8 v))) 63 (n 7) (va_up (b 7) c (low8 v)) := ⟨by rw [up_k (by decide)]; exact r1, r2, r3, fun i hi => by
      by_cases e : i = c
      · subst e; rw [up_s]; simp only [va_up, if_pos]; exact ⟨trivial, low8_lt v⟩
      · rw [up_j e]; simp only [va_up, if_neg e]; exact r4 i hi⟩
    have f1 : ∀ a, a ≠ 63 → a ≠ 64 → up M (63 + 1) c (nI (low8 v)) a = M a := fun a g1 g2 => up_row g2
    have D1 : MInv (up M (63 + 1) c (nI (low8 v))) n b h ck vs is := D.keep (fun a g1 g2 => f1 a (by omega) (by omega))
    obtain ⟨q1, q2, q3, q4⟩ := D1.1 7 (by omega)
    have F : FT (up M (63 + 1) c (nI (low8 v))) (up (up (up M (63 + 1) c (nI (low8 v))) 73 0 0) 74 (840 + c) (nI (low8 v))) := FT.u0.tr (FT.u74 (by omega))
    refine ⟨1, _, up (up (up M (63 + 1) c (nI (low8 v))) 73 0 0) 74 (840 + c) (nI (low8 v)), va_up n 7 (n 7), va_up b 7 (va_up (b 7) c (low8 v)), rfl, ?_, (C.draft f1 w1).keep F.km, D1.draft F ⟨by rw [up_k (by decide), up_k (by decide)]; exact q1, q2, q3, fun i hi => ?_⟩, fun t ht => ⟨by simp [va_up, show ¬ t = 7 by omega], by simp [va_up, show ¬ t = 7 by omega]⟩⟩
    · dsimp only
      rw [if_pos (by rw [q1]; exact nI_lt c2 (by omega)), show (840 : Int32) = nI 840 from rfl, nI_add, al74, if_pos (inB_nI (by omega) (by omega)), nI_clamp (by omega)]
    · by_cases e : i = c
      · subst e; rw [show 120 * 7 + i = 840 + i by omega, up_s]; simp only [va_up, if_pos]; exact ⟨trivial, low8_lt v⟩
      · rw [show 120 * 7 + i = 840 + i by omega, up_j (by omega), up_k (by decide)]; simp only [va_up, if_neg e]; exact q4 i hi
  · rw [if_pos (nI_le (by omega) (by omega)), Option.bind_some]
    simp only []
    rw [if_pos trivial]
    refine ⟨0, M, up M 73 0 0, n, b, rfl, ?_, C.keep (fun a ha => up_row (by omega)), D.thrown, fun _ _ => ⟨rfl, rfl⟩⟩
    rw [m7.1, if_neg (nI_nlt (by omega) (by omega))]
theorem length_ok {M : Me} {n : Nat → Nat} {b : Nat → Nat → Nat} {h : Nat → Bool} {ck vs is : Int32} (C : CInv M n b h ck vs is) (D : MInv M n b h ck vs is) : ∃ o M1 M2, f_X4_length M = some (o, M1) ∧ f_X5_length M1 = some (o, M2) ∧ CInv M2 n b h ck vs is ∧ MInv M2 n b h ck vs is := by
  refine ⟨nI (n 7), M, up M 73 0 0, ?_, ?_, C.keep (fun a ha => up_row (by omega)), D.thrown⟩
  · rw [f_X4_length, f_X1_size, C.1.1]; rfl
  · rw [f_X5_length, (D.1 7 (by omega)).1]
