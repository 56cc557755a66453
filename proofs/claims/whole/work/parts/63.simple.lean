/-! the calls, one by one: what the law compares -/
def Inv (M : Me) : Prop := ∃ n b h ck vs is, WF n b h ∧ CInv M n b h ck vs is ∧ MInv M n b h ck vs is
def OkA (f g : Me → Option (Int32 × Me)) : Prop := ∀ M, Inv M → ∃ o M1 M2, f M = some (o, M1) ∧ g M1 = some (o, M2) ∧ Inv M2
def OkB (f g : Me → Option (Int32 × Me)) : Prop := ∀ M, Inv M → ∃ k o M1 M2, f M = some (k, M1) ∧ g M1 = some (o, M2) ∧ M2 73 0 = k ∧ (k = 0 → M2 79 0 = o) ∧ Inv M2
theorem WF.draft {n n' : Nat → Nat} {b b' : Nat → Nat → Nat} {h : Nat → Bool} (w : WF n b h) (k : ∀ t, t < 7 → n' t = n t ∧ b' t = b t) : WF n' b' h := fun r hr hh => by
  rw [(k r hr).1, (k r hr).2]; exact w r hr hh
theorem CInv.out {M : Me} {n : Nat → Nat} {b : Nat → Nat → Nat} {h : Nat → Bool} {ck vs is v : Int32} (H : CInv M n b h ck vs is) : CInv (up M 79 0 v) n b h ck vs is := H.keep (fun a ha => up_row (by omega))
theorem MInv.out {M : Me} {n : Nat → Nat} {b : Nat → Nat → Nat} {h : Nat → Bool} {ck vs is v : Int32} (H : MInv M n b h ck vs is) : MInv (up M 79 0 v) n b h ck vs is := H.keep (fun a _ _ => up_row (by omega))
theorem CInv.thrown {M : Me} {n : Nat → Nat} {b : Nat → Nat → Nat} {h : Nat → Bool} {ck vs is v : Int32} (H : CInv M n b h ck vs is) : CInv (up M 73 0 v) n b h ck vs is := H.keep (fun a ha => up_row (by omega))
theorem put_okA (w : Int64) (x : Int32) : OkA (f_X4_put w x) (f_X5_put w x) := by
  rintro M ⟨n, b, h, ck, vs, is, W, C, D⟩
  obtain ⟨o, M1, M2, n', b', e1, e2, C', D', k⟩ := put_ok w x C D
  exact ⟨o, M1, M2, e1, e2, n', b', h, ck, vs, is, W.draft k, C', D'⟩
theorem cut_okA (x : Int32) : OkA (f_X4_cut x) (f_X5_cut x) := by
  rintro M ⟨n, b, h, ck, vs, is, W, C, D⟩
  obtain ⟨o, M1, M2, n', b', e1, e2, C', D', k⟩ := cut_ok x C D
  exact ⟨o, M1, M2, e1, e2, n', b', h, ck, vs, is, W.draft k, C', D'⟩
theorem alter_okA (x v : Int32) : OkA (f_X4_alter x v) (f_X5_alter x v) := by
  rintro M ⟨n, b, h, ck, vs, is, W, C, D⟩
  obtain ⟨o, M1, M2, n', b', e1, e2, C', D', k⟩ := alter_ok x v C D
  exact ⟨o, M1, M2, e1, e2, n', b', h, ck, vs, is, W.draft k, C', D'⟩
theorem digest_okA : OkA f_X4_digest f_X5_digest := by
  rintro M ⟨n, b, h, ck, vs, is, W, C, D⟩
  obtain ⟨o, M1, M2, n', b', e1, e2, C', D', k⟩ := digest_ok C D
  exact ⟨o, M1, M2, e1, e2, n', b', h, ck, vs, is, W.draft k, C', D'⟩
theorem length_okA : OkA f_X4_length f_X5_length := by
  rintro M ⟨n, b, h, ck, vs, is, W, C, D⟩
  obtain ⟨o, M1, M2, e1, e2, C', D'⟩ := length_ok C D
  exact ⟨o, M1, M2, e1, e2, n, b, h, ck, vs, is, W, C', D'⟩
theorem mix_okA (s : Int32) : OkA (f_X4_mix s) (f_X5_mix s) := by
  rintro M ⟨n, b, h, ck, vs, is, W, C, D⟩
  obtain ⟨o, M1, M2, e1, e2, C', D'⟩ := mix_ok s C D
  exact ⟨o, M1, M2, e1, e2, n, b, h, ck, vs, is, W, C', D'⟩
theorem at_ok (x : Int32) : OkB (f_L_at x) (f_X5_at x) := by
  rintro M ⟨n, b, h, ck, vs, is, W, C, D⟩
  obtain ⟨r1, r2, r3, r4⟩ := id C.1
  have m7 := D.1 7 (by omega)
  have hn : n 7 ≤ 120 := m7.2.1
  rcases i3 x with c1 | ⟨c, hc, rfl⟩
  · refine ⟨1, 0, M, up M 73 0 1, ?_, ?_, up_s, fun q => absurd q (by decide), n, b, h, ck, vs, is, W, C.thrown, D.thrown⟩
    · rw [f_L_at, f_X4_at, f_X1_has, if_pos c1]; rfl
    · rw [f_X5_at, if_pos c1]
  · by_cases c2 : c < n 7
    · refine ⟨0, nI (b 7 c), up M 79 0 (nI (b 7 c)), up (up M 79 0 (nI (b 7 c))) 73 0 0, ?_, ?_, up_s, fun _ => by rw [up_k (by decide), up_s], n, b, h, ck, vs, is, W, C.out.thrown, D.out.thrown⟩
      · have e : f_X4_at (nI c) M = some ((0, nI (b 7 c)), M) := by
          rw [f_X4_at, f_X1_has, if_neg (nI_pos hc), r1, if_neg (nI_ge c2 (by omega)), Option.bind_some]
          dsimp only
          rw [if_neg (by decide), s_byteAt C.1 hc, if_pos c2]; rfl
        rw [f_L_at, e, Option.bind_some]; rfl
      · obtain ⟨q1, q2, q3, q4⟩ := (D.out (v := nI (b 7 c))).1 7 (by omega)
        rw [f_X5_at, if_neg (nI_pos hc), q1, if_pos (nI_lt c2 (by omega)), show (840 : Int32) = nI 840 from rfl, nI_add, al74, if_pos (inB_nI (by omega) (by omega)), nI_clamp (by omega), show 840 + c = 120 * 7 + c by omega, (q4 c c2).1]
    · refine ⟨1, 0, M, up M 73 0 1, ?_, ?_, up_s, fun q => absurd q (by decide), n, b, h, ck, vs, is, W, C.thrown, D.thrown⟩
      · rw [f_L_at, f_X4_at, f_X1_has, if_neg (nI_pos hc), r1, if_pos (nI_le (by omega) (by omega))]; rfl
      · rw [f_X5_at, if_neg (nI_pos hc), m7.1, if_neg (nI_nlt (by omega) (by omega))]
theorem visits_ok : OkA f_X4_visits f_X5_visits := by
  rintro M ⟨n, b, h, ck, vs, is, W, C, D⟩
  refine ⟨vs, M, up M 73 0 0, ?_, ?_, n, b, h, ck, vs, is, W, C.thrown, D.thrown⟩
  · rw [f_X4_visits, C.2.2.2.2.2.1]
  · rw [f_X5_visits, D.2.2.2.1]
theorem installed_ok : OkA f_X4_installed f_X5_installed := by
  rintro M ⟨n, b, h, ck, vs, is, W, C, D⟩
  refine ⟨is, M, up M 73 0 0, ?_, ?_, n, b, h, ck, vs, is, W, C.thrown, D.thrown⟩
  · rw [f_X4_installed, C.2.2.2.2.2.2]
  · rw [f_X5_installed, D.2.2.2.2]
theorem CInv.clock {M : Me} {n : Nat → Nat} {b : Nat → Nat → Nat} {h : Nat → Bool} {ck vs is v : Int32} (H : CInv M n b h ck vs is) : CInv (up M 69 2 v) n b h v vs is := by
  obtain ⟨h1, h2, ⟨nn, bb, h3⟩, h4, h5, h6, h7⟩ := H
  exact ⟨h1.keep (up_row (by omega)) (up_row (by omega)), h2.keep (up_row (by omega)) (up_row (by omega)), ⟨nn, bb, h3.keep (up_row (by omega)) (up_row (by omega))⟩, fun r hr => ⟨by rw [up_row (by omega)]; exact (h4 r hr).1, fun hh => ((h4 r hr).2 hh).keep (fun a g1 g2 => up_row (by omega))⟩, up_s, by rw [up_k (by decide)]; exact h6, by rw [up_k (by decide)]; exact h7⟩
theorem MInv.clock {M : Me} {n : Nat → Nat} {b : Nat → Nat → Nat} {h : Nat → Bool} {ck vs is v : Int32} (H : MInv M n b h ck vs is) : MInv (up M 73 4 v) n b h v vs is := by
  obtain ⟨h1, h2, h3, h4, h5⟩ := H
  refine ⟨fun t ht => ?_, fun r hr => by rw [up_k (by decide)]; exact h2 r hr, up_s, by rw [up_j (by decide)]; exact h4, by rw [up_j (by decide)]; exact h5⟩
  obtain ⟨r1, r2, r3, r4⟩ := h1 t ht
  exact ⟨by rw [up_k (by decide)]; exact r1, r2, r3, fun i hi => by rw [up_k (by decide)]; exact r4 i hi⟩
theorem up_self {M : Me} {k j : Nat} : up M k j (M k j) = M := by
  funext a i
  unfold up
  by_cases c : a = k ∧ i = j
  · rw [if_pos c, c.1, c.2]
  · rw [if_neg c]
theorem MInv.km {M M' : Me} {n : Nat → Nat} {b : Nat → Nat → Nat} {h : Nat → Bool} {ck vs is : Int32} (H : MInv M n b h ck vs is) (k : ∀ a, 73 ≤ a → M' a = M a) : MInv M' n b h ck vs is := H.keep (fun a g _ => k a g)
theorem tick_ok (x : Int32) : OkB (f_L_tick x) (f_X5_tick x) := by
  rintro M ⟨n, b, h, ck, vs, is, W, C, D⟩
  have k1 := C.2.2.2.2.1
  have k2 := D.2.2.1
  have no : M 73 4 = up M 73 0 1 73 4 := (up_j (by decide)).symm
  by_cases c1 : x < 0
  · refine ⟨1, 0, M, up M 73 0 1, ?_, ?_, up_s, fun q => absurd q (by decide), n, b, h, ck, vs, is, W, C.thrown, D.thrown⟩
    · rw [f_L_tick, f_X4_tick, if_pos c1]; rfl
    · rw [f_X5_tick, if_pos c1, no, up_self]
  by_cases c2 : x ≤ 10000
  · refine ⟨0, ck + x, up (up M 69 2 (ck + x)) 79 0 (ck + x), up (up (up (up M 69 2 (ck + x)) 79 0 (ck + x)) 73 0 0) 73 4 (ck + x), ?_, ?_, ?_, fun _ => ?_, n, b, h, ck + x, vs, is, W, ?_, ?_⟩
    · rw [f_L_tick, f_X4_tick, if_neg c1, if_pos c2, f_X3_advanceClock, k1]; rfl
    · rw [f_X5_tick, if_neg c1, if_pos c2, up_k (by decide), up_k (by decide), k2]
    · rw [up_j (by decide), up_s]
    · rw [up_k (by decide), up_k (by decide), up_s]
    · exact C.clock.out.thrown.keep (fun a ha => up_row (by omega))
    · exact ((D.km (M' := up M 69 2 (ck + x)) (fun a ha => up_row (by omega))).out.thrown).clock
  · refine ⟨1, 0, M, up M 73 0 1, ?_, ?_, up_s, fun q => absurd q (by decide), n, b, h, ck, vs, is, W, C.thrown, D.thrown⟩
    · rw [f_L_tick, f_X4_tick, if_neg c1, if_neg c2]; rfl
    · rw [f_X5_tick, if_neg c1, if_neg c2, no, up_self]
/-- of the reference only text t changed -/
def FC (t : Nat) (M M' : Me) : Prop := ∀ a j, ¬ (a = 74 ∧ 120 * t ≤ j ∧ j < 120 * t + 120) → ¬ (a = 75 ∧ j = t) → M' a j = M a j
theorem FC.rf {t : Nat} {M : Me} : FC t M M := fun _ _ _ _ => rfl
theorem FC.tr {t : Nat} {M M1 M2 : Me} (h : FC t M M1) (g : FC t M1 M2) : FC t M M2 := fun a j c d => (g a j c d).trans (h a j c d)
theorem FC.u74 {t i : Nat} {M : Me} {v : Int32} (hi : i < 120) : FC t M (up M 74 (120 * t + i) v) := fun a j c _ => by
  unfold up; rw [if_neg]; rintro ⟨rfl, rfl⟩; exact c ⟨rfl, by omega, by omega⟩
theorem FC.u75 {t : Nat} {M : Me} {v : Int32} : FC t M (up M 75 t v) := fun a j _ d => by
  unfold up; rw [if_neg]; rintro ⟨rfl, rfl⟩; exact d ⟨rfl, rfl⟩
theorem FC.row {t a : Nat} {M M' : Me} (h : FC t M M') (h1 : a ≠ 74) (h2 : a ≠ 75) : M' a = M a := by
  funext j; exact h a j (fun q => h1 q.1) (fun q => h2 q.1)
theorem RM.fc {t u n : Nat} {b : Nat → Nat} {M M' : Me} (h : RM M u n b) (f : FC t M M') (hu : u ≠ t) : RM M' u n b := by
  obtain ⟨r1, r2, r3, r4⟩ := h
  exact ⟨by rw [f 75 u (by omega) (by omega)]; exact r1, r2, r3, fun i hi => by rw [f 74 _ (by omega) (by omega)]; exact r4 i hi⟩
theorem m_copyL {t n : Nat} {b : Nat → Nat} (ht : t ≤ 8) (h7 : t ≠ 7) : ∀ (c fuel i : Nat) (M : Me), c < fuel → i + c = n → RM M 7 n b → (∀ j, j < i → M 74 (120 * t + j) = nI (b j)) → ∃ M', fL_X5_copy_14 fuel 7 (nI t) (nI i) M = some (0, M') ∧ (∀ j, j < n → M' 74 (120 * t + j) = nI (b j)) ∧ FC t M M' ∧ M' 75 = M 75 := by
  intro c
  induction c with
  | zero =>
    intro fuel i M hf hi h hc
    obtain ⟨f, rfl⟩ : ∃ f, fuel = f + 1 := ⟨fuel - 1, by omega⟩
    have := h.2.1
    refine ⟨M, ?_, fun j hj => hc j (by omega), FC.rf, rfl⟩
    rw [fL_X5_copy_14, al75, if_pos (show inB 7 9 = true by decide), show (7 : Int32).toNatClampNeg = 7 by decide, h.1, if_pos (nI_le (by omega) (by omega))]
  | succ c ih =>
    intro fuel i M hf hi h hc
    obtain ⟨f, rfl⟩ : ∃ f, fuel = f + 1 := ⟨fuel - 1, by omega⟩
    have hn := h.2.1
    have hv := (h.2.2.2 i (by omega)).1
    have F : FC t M (up M 74 (120 * t + i) (nI (b i))) := FC.u74 (by omega)
    obtain ⟨M2, e2, c2, f2, g2⟩ := ih f (i + 1) (up M 74 (120 * t + i) (nI (b i))) (by omega) (by omega) (h.fc F (fun q => h7 q.symm)) (fun j hj => by
      by_cases e : j = i
      · subst e; exact up_s
      · rw [up_j (by omega)]; exact hc j (by omega))
    refine ⟨M2, ?_, c2, F.tr f2, by rw [g2, up_row (by decide)]⟩
    rw [fL_X5_copy_14, al75, if_pos (show inB 7 9 = true by decide), show (7 : Int32).toNatClampNeg = 7 by decide, h.1, if_neg (nI_ge (by omega) (by omega)), show (120 : Int32) * 7 = nI (120 * 7) by decide, show (120 : Int32) * nI t = nI (120 * t) from pk_mul 120 t, nI_add, nI_add, al74, if_pos (inB_nI (by omega) (by omega)), if_pos (inB_nI (by omega) (by omega)), nI_clamp (by omega), nI_clamp (by omega), hv, nI_1]
    exact e2
theorem m_copy {t n : Nat} {b : Nat → Nat} {M : Me} {x : Int32} (hx : x = nI t) (ht : t ≤ 8) (h7 : t ≠ 7) (h : RM M 7 n b) : ∃ M', f_X5_copy 7 x M = some (0, M') ∧ RM M' t n b ∧ FC t M M' := by
  subst hx
  have hn := h.2.1
  have F : FC t M (up M 75 t (nI n)) := FC.u75
  obtain ⟨M1, e1, c1, f1, g1⟩ := m_copyL (t := t) (n := n) (b := b) ht h7 n 200 0 (up M 75 t (nI n)) (by omega) (by omega) (h.fc F (fun q => h7 q.symm)) (fun j hj => absurd hj (Nat.not_lt_zero j))
  refine ⟨M1, ?_, ⟨by rw [g1, up_s], hn, ht, fun i hi => ⟨c1 i hi, (h.2.2.2 i hi).2⟩⟩, F.tr f1⟩
  rw [f_X5_copy, al75, if_pos (show inB 7 9 = true by decide), if_pos (inB_nI (by omega) (by omega)), show (7 : Int32).toNatClampNeg = 7 by decide, nI_clamp (by omega), h.1, show fL_X5_copy_14 200 7 (nI t) 0 (up M 75 t (nI n)) = some (0, M1) from e1, Option.bind_some]
theorem MInv.copy {M M' : Me} {n : Nat → Nat} {b : Nat → Nat → Nat} {h : Nat → Bool} {ck vs is : Int32} {t nt : Nat} {bt : Nat → Nat} (H : MInv M n b h ck vs is) (f : FC t M M') (R : RM M' t nt bt) : MInv M' (va_up n t nt) (va_up b t bt) h ck vs is := by
  obtain ⟨h1, h2, h3, h4, h5⟩ := H
  refine ⟨fun u hu => ?_, fun r hr => by rw [f.row (by decide) (by decide)]; exact h2 r hr, by rw [f.row (by decide) (by decide)]; exact h3, by rw [f.row (by decide) (by decide)]; exact h4, by rw [f.row (by decide) (by decide)]; exact h5⟩
  by_cases e : u = t
  · subst e; simp only [va_up, if_pos]; exact R
  · simp only [va_up, if_neg e]; exact (h1 u hu).fc f e
theorem content_ok : OkA f_X4_content f_X5_content := by
  rintro M ⟨n, b, h, ck, vs, is, W, C, D⟩
  obtain ⟨M1, e1, w1, f1⟩ := s_become (kk := 65) C.1 (by decide) (by decide) (by decide)
  have D1 : MInv M1 n b h ck vs is := D.keep (fun a g1 g2 => f1 a (by omega) (by omega))
  have C1 : CInv M1 (va_up n 8 (n 7)) (va_up b 8 (b 7)) h ck vs is := by
    obtain ⟨h1, h2, ⟨nn, bb, h3⟩, h4, h5, h6, h7⟩ := C
    refine ⟨h1.keep (f1 _ (by omega) (by omega)) (f1 _ (by omega) (by omega)), w1, ⟨nn, bb, h3.keep (f1 _ (by omega) (by omega)) (f1 _ (by omega) (by omega))⟩, fun r hr => ⟨by rw [f1 _ (by omega) (by omega)]; exact (h4 r hr).1, fun hh => ?_⟩, by rw [f1 _ (by omega) (by omega)]; exact h5, by rw [f1 _ (by omega) (by omega)]; exact h6, by rw [f1 _ (by omega) (by omega)]; exact h7⟩
    have := ((h4 r hr).2 hh).keep (M' := M1) (fun a g1 g2 => f1 a (by omega) (by omega))
    simp only [va_up, if_neg (show ¬ r = 8 by omega)]
    exact this
  have D1' := D1.thrown (v := 0)
  obtain ⟨M2, e2, w2, f2⟩ := m_copy (t := 8) (x := 8) rfl (by omega) (by omega) (D1'.1 7 (by omega))
  refine ⟨nI (n 7), M1, M2, ?_, ?_, va_up n 8 (n 7), va_up b 8 (b 7), h, ck, vs, is, W.draft (fun t ht => ⟨by simp [va_up, show ¬ t = 8 by omega], by simp [va_up, show ¬ t = 8 by omega]⟩), (C1.thrown (v := 0)).keep (fun a ha => f2.row (by omega) (by omega)), D1'.copy f2 w2⟩
  · rw [f_X4_content, e1, Option.bind_some, f_X1_size]; dsimp only; rw [w1.1]; rfl
  · rw [f_X5_content, e2, Option.bind_some]; dsimp only; rw [w2.1]
