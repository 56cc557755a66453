/-! the reference's stack -/
/-- what a search leaves alone -/
def FS (M M' : Me) : Prop := (∀ a, a < 73 ∨ a = 74 ∨ a = 75 ∨ a = 76 ∨ a = 79 → M' a = M a) ∧ M' 73 0 = M 73 0 ∧ M' 73 4 = M 73 4 ∧ M' 73 6 = M 73 6
theorem FS.rf {M : Me} : FS M M := ⟨fun _ _ => rfl, rfl, rfl, rfl⟩
theorem FS.tr {M M1 M2 : Me} (h : FS M M1) (g : FS M1 M2) : FS M M2 := ⟨fun a c => (g.1 a c).trans (h.1 a c), g.2.1.trans h.2.1, g.2.2.1.trans h.2.2.1, g.2.2.2.trans h.2.2.2⟩
theorem FS.u73 {M : Me} {j : Nat} {v : Int32} (h : j ≠ 0 ∧ j ≠ 4 ∧ j ≠ 6) : FS M (up M 73 j v) := ⟨fun a c => up_row (by omega), up_j (fun q => h.1 q.symm), up_j (fun q => h.2.1 q.symm), up_j (fun q => h.2.2 q.symm)⟩
theorem FS.u7 {M : Me} {k j : Nat} {v : Int32} (h : k = 77 ∨ k = 78) : FS M (up M k j v) := ⟨fun a c => up_row (by omega), up_k (by omega), up_k (by omega), up_k (by omega)⟩
theorem FP.fs {M M' : Me} (f : FP M M') : FS M M' := ⟨fun a c => f.row (by omega), f 73 0 (by omega), f 73 4 (by omega), f 73 6 (by omega)⟩
theorem MInv.fs {M M' : Me} {n : Nat → Nat} {b : Nat → Nat → Nat} {h : Nat → Bool} {ck vs is c : Int32} (D : MInv M n b h ck vs is) (f : FS M M') (h5 : M' 73 5 = c) : MInv M' n b h ck c is := by
  obtain ⟨h1, h2, h3, h4, h6⟩ := D
  refine ⟨fun t ht => ?_, fun r hr => by rw [f.1 76 (by omega)]; exact h2 r hr, by rw [f.2.2.1]; exact h3, h5, by rw [f.2.2.2]; exact h6⟩
  obtain ⟨r1, r2, r3, r4⟩ := h1 t ht
  exact ⟨by rw [f.1 75 (by omega)]; exact r1, r2, r3, fun i hi => by rw [f.1 74 (by omega)]; exact r4 i hi⟩
def ST (M : Me) (d v : Nat) (c : Int32) (P G : Nat → Nat) : Prop := M 73 14 = nI d ∧ M 73 17 = nI v ∧ M 73 5 = c ∧ ∀ j, j < d → M 77 j = nI (P j) ∧ M 78 j = nI (G j)
theorem ST.fp {M M' : Me} {d v : Nat} {c : Int32} {P G : Nat → Nat} (s : ST M d v c P G) (f : FP M M') : ST M' d v c P G := ⟨by rw [f 73 14 (by omega)]; exact s.1, by rw [f 73 17 (by omega)]; exact s.2.1, by rw [f 73 5 (by omega)]; exact s.2.2.1, fun j hj => by rw [f.row (by decide), f.row (by decide)]; exact s.2.2.2 j hj⟩
theorem ST.congr {M : Me} {d v : Nat} {c : Int32} {P G P' G' : Nat → Nat} (s : ST M d v c P G) (h : ∀ j, j < d → P' j = P j ∧ G' j = G j) : ST M d v c P' G' := ⟨s.1, s.2.1, s.2.2.1, fun j hj => by rw [(h j hj).1, (h j hj).2]; exact s.2.2.2 j hj⟩
theorem al7x : al 77 = 8 ∧ al 78 = 8 := ⟨by decide, by decide⟩
section RS
variable {n : Nat → Nat} {b : Nat → Nat → Nat} {h : Nat → Bool} {ck is : Int32} {w : Int64} {m : Nat}
/-- the top of the stack: its target, or its next delegation -/
theorem find_hit {M : Me} {d v r p f : Nat} {c : Int32} {P G : Nat → Nat} (D : MInv M n b h ck c is) (W : WF n b h) (hm : m ≤ 4) (S : ST M (d + 1) v c P G) (hd : d < 8) (hP : P d = r) (hG : G d = 0) (hr : r < 7) (h3 : 3 ≤ r) (hh : h r = true) (tq : tgO (b r) w m (b r 4) 0 = some p) : fL_X5_find_20 (f + 1) w (nI m) M = some (nI r, up (up M 73 12 (nI (b r p))) 73 13 (wd (b r) (p + 1))) := by
  obtain ⟨s1, s2, s3, s4⟩ := S
  obtain ⟨p1, p2⟩ := s4 d (by omega)
  obtain ⟨-, -, s, hs⟩ := W.n4 hr hh
  have h0 := (W r hr hh).2
  rw [find_eq, s1, if_neg (nI_nle (by omega) (by omega)), show nI (d + 1) - 1 = nI d from nI_pred d, al7x.1, al7x.2, if_pos (inB_nI hd (by omega)), if_pos (inB_nI hd (by omega)), nI_clamp (by omega), p2, hG, if_pos (show nI 0 = (0 : Int32) from rfl), p1, hP, m_target (D.1 r (by omega)) hs (by omega) hm, tq, tgM, Option.bind_some]
  dsimp only
  rw [if_neg (by decide)]
theorem find_on {M : Me} {d v r i f : Nat} {c : Int32} {P G : Nat → Nat} (D : MInv M n b h ck c is) (W : WF n b h) (hm : m ≤ 4) (S : ST M (d + 1) v c P G) (hd : d < 8) (hP : P d = r) (hG : G d = i) (hi : i < 100) (hr : r < 7) (h3 : 3 ≤ r) (hh : h r = true) (tq : i = 0 → tgO (b r) w m (b r 4) 0 = none) : fL_X5_find_20 (f + 1) w (nI m) M = fbody (fL_X5_find_20 f w (nI m)) w (nI m) (if i < dN (b r) then nI (120 * r + dQ (b r) i) else -1, M) := by
  obtain ⟨s1, s2, s3, s4⟩ := S
  obtain ⟨p1, p2⟩ := s4 d (by omega)
  obtain ⟨-, -, s, hs⟩ := W.n4 hr hh
  have h0 := (W r hr hh).2
  have dg := m_deleg (k := i) (D.1 r (by omega)) hs (by omega) hi
  rw [find_eq, s1, if_neg (nI_nle (by omega) (by omega)), show nI (d + 1) - 1 = nI d from nI_pred d, al7x.1, al7x.2, if_pos (inB_nI hd (by omega)), if_pos (inB_nI hd (by omega)), nI_clamp (by omega), p2, hG, p1, hP]
  by_cases z : i = 0
  · rw [if_pos (by rw [z]; rfl), m_target (D.1 r (by omega)) hs (by omega) hm, tq z, tgM, Option.bind_some]
    dsimp only
    rw [if_pos rfl]
    simp only [s1, show nI (d + 1) - 1 = nI d from nI_pred d, nI_clamp (show d < 2 ^ 31 by omega), p2, hG]
    rw [if_pos (inB_nI hd (by omega)), dg, Option.bind_some]
  · rw [if_neg (nI_ne0 (by omega) (by omega)), dg, Option.bind_some]
theorem fb_pos {M : Me} {d v r i : Nat} {c : Int32} {P G : Nat → Nat} {rc : Me → Option (Int32 × Me)} (D : MInv M n b h ck c is) (W : WF n b h) (h2 : h 2 = true) (hm : m ≤ 4) (S : ST M (d + 1) v c P G) (hd : d < 7) (hG : G d = i) (hi : i < dN (b r)) (hr : r < 7) (h3 : 3 ≤ r) (hh : h r = true) (hv : v < 128) : ∃ M', fbody rc w (nI m) (nI (120 * r + dQ (b r) i), M) = rc M' ∧ FS M M' ∧ (foO n b h ck w m r i v = true → ST M' (d + 2) (v ||| 2 ^ (b r (dQ (b r) i))) (c + 1) (va_up P (d + 1) (b r (dQ (b r) i))) (va_up (va_up G d (i + 1)) (d + 1) 0)) ∧ (¬ foO n b h ck w m r i v = true → ST M' (d + 1) v c P (va_up G d (i + 1))) := by
  obtain ⟨s1, s2, s3, s4⟩ := id S
  obtain ⟨p1, p2⟩ := s4 d (by omega)
  obtain ⟨-, -, s, hs⟩ := W.n4 hr hh
  have h0 := (W r hr hh).2
  obtain ⟨t1, t2, t3, t4, t5, t6⟩ := tgtF hs (by omega)
  obtain ⟨KK, l1, l2, l3, l4⟩ := (show DL (b r) (n r) (dQ (b r) i) from t6 i hi)
  obtain ⟨K1, K2, K3, K4⟩ := id KK
  have R := D.1 r (by omega)
  have hn := R.2.1
  -- the going is one more
  have D1 : MInv (up M 78 d (nI (i + 1))) n b h ck c is := D.fs (FS.u7 (Or.inr rfl)) (by rw [up_k (by decide)]; exact s3)
  have S1 : ST (up M 78 d (nI (i + 1))) (d + 1) v c P (va_up G d (i + 1)) := by
    refine ⟨by rw [up_k (by decide)]; exact s1, by rw [up_k (by decide)]; exact s2, by rw [up_k (by decide)]; exact s3, fun j hj => ⟨by rw [up_k (by decide)]; exact (s4 j hj).1, ?_⟩⟩
    by_cases e : j = d
    · subst e; rw [up_s]; simp only [va_up, if_pos]
    · rw [up_j e]; simp only [va_up, if_neg e]; exact (s4 j hj).2
  have F1 : FS M (up M 78 d (nI (i + 1))) := FS.u7 (Or.inr rfl)
  have R1 := D1.1 r (by omega)
  obtain ⟨a1, a2⟩ := m_at R (x := nI (120 * r + dQ (b r) i) + 3) (p := dQ (b r) i + 3) (nI_add _ 3) (by omega)
  have hx : (nI (120 * r + dQ (b r) i) + 4) + nI (b r (dQ (b r) i + 3)) = nI (120 * r + pre (b r) i) := by
    rw [show nI (120 * r + dQ (b r) i) + 4 = nI (120 * r + dQ (b r) i + 4) from nI_add _ 4, nI_add, pre, show 120 * r + dQ (b r) i + 4 + b r (dQ (b r) i + 3) = 120 * r + (dQ (b r) i + 4 + b r (dQ (b r) i + 3)) by omega]
  have lp : pre (b r) i + 1 + b r (pre (b r) i) ≤ n r := by unfold pre; omega
  have l4' : b r (pre (b r) i) ≤ 3 := l4
  obtain ⟨c1, c2⟩ := m_at R (x := nI (120 * r + pre (b r) i)) (p := pre (b r) i) rfl (by omega)
  have q0 : dQ (b r) i < n r := by omega
  obtain ⟨g1, g2⟩ := m_at R1 (x := nI (120 * r + dQ (b r) i)) (p := dQ (b r) i) rfl q0
  unfold fbody
  dsimp only
  rw [if_pos (nI_pos' (by omega))]
  simp only [s1, show nI (d + 1) - 1 = nI d from nI_pred d, al7x.2, nI_clamp (show d < 2 ^ 31 by omega), p2, hG, nI_1, a2, hx, c2]
  rw [if_pos (inB_nI (by omega) (by omega)), if_pos a1, if_pos c1]
  have no : foO n b h ck w m r i v = false → rc (up M 78 d (nI (i + 1))) = rc (up M 78 d (nI (i + 1))) ∧ FS M (up M 78 d (nI (i + 1))) ∧ (foO n b h ck w m r i v = true → ST (up M 78 d (nI (i + 1))) (d + 2) (v ||| 2 ^ (b r (dQ (b r) i))) (c + 1) (va_up P (d + 1) (b r (dQ (b r) i))) (va_up (va_up G d (i + 1)) (d + 1) 0)) ∧ (¬ foO n b h ck w m r i v = true → ST (up M 78 d (nI (i + 1))) (d + 1) v c P (va_up G d (i + 1))) := fun z => ⟨rfl, F1, fun q => (by rw [z] at q; cases q), fun _ => S1⟩
  by_cases y1 : b r (pre (b r) i) ≤ m
  case neg =>
    rw [if_pos (nI_lt (by omega) (by omega))]
    exact ⟨_, no (by unfold foO pfO; simp [y1])⟩
  rw [if_neg (nI_nlt y1 (by omega)), m_begins (w := w) (x := nI (120 * r + pre (b r) i + 1)) R1 (p := pre (b r) i + 1) (m := b r (pre (b r) i)) (by omega) (by omega) (by rw [show 120 * r + pre (b r) i + 1 = 120 * r + (pre (b r) i + 1) by omega]) rfl, Option.bind_some]
  dsimp only
  cases y2 : bgO (b r) (pre (b r) i + 1) w (b r (pre (b r) i)) 0 with
  | false =>
    rw [if_pos (by decide)]
    exact ⟨_, no (by unfold foO pfO; simp [y2])⟩
  | true =>
    have pf : pfO (b r) w m i = true := by unfold pfO; simp [y1, y2]
    rw [if_pos rfl, if_neg (by decide), if_pos g1]
    simp only [S1.2.1, g2]
    have lr : b r (dQ (b r) i) < 7 := by omega
    have bt := bt_tst v hv (b r (dQ (b r) i)) lr
    cases y3 : v.testBit (b r (dQ (b r) i)) with
    | true =>
      rw [if_neg (fun q => by rw [bt.mp q] at y3; cases y3)]
      exact ⟨_, no (by unfold foO; simp [y3])⟩
    | false =>
      rw [if_pos (bt.mpr y3), m_fresh D1 W h2 lr rfl, Option.bind_some]
      dsimp only
      cases y4 : frO b h ck (b r (dQ (b r) i)) with
      | false =>
        rw [if_pos (by decide)]
        exact ⟨_, no (by unfold foO; simp [y4])⟩
      | true =>
        have hh' : h (b r (dQ (b r) i)) = true := st_h (by unfold frO at y4; simp only [Bool.and_eq_true] at y4; exact y4.1)
        obtain ⟨-, -, s', hs'⟩ := W.n4 lr hh'
        obtain ⟨M2, e2, f2⟩ := m_signed (M := up M 78 d (nI (i + 1))) (t := b r (dQ (b r) i)) (t' := r) (p := dQ (b r) i + 2) (x := nI (b r (dQ (b r) i))) (y := nI (120 * r + dQ (b r) i) + 2) (by omega) (D1.1 _ (by omega)) (W _ lr hh').1 hs' R1 KK rfl (nI_add _ 2)
        have S2 := S1.fp f2
        have D2 := D1.fp f2
        have F2 := F1.tr f2.fs
        obtain ⟨u1, u2⟩ := m_at (D2.1 r (by omega)) (x := nI (120 * r + dQ (b r) i)) (p := dQ (b r) i) rfl q0
        rw [if_pos rfl, if_neg (by decide), g2, e2, Option.bind_some]
        dsimp only
        cases y5 : sgO (b (b r (dQ (b r) i))) s' (b r) (dQ (b r) i + 2) with
        | false =>
          rw [if_pos (by decide)]
          have z : foO n b h ck w m r i v = false := by unfold foO; rw [szO_eq hs']; simp [y5]
          exact ⟨M2, rfl, F2, fun q => (by rw [z] at q; cases q), fun _ => S2⟩
        | true =>
          have z : foO n b h ck w m r i v = true := by unfold foO; rw [szO_eq hs']; simp [pf, y3, y4, y5]
          rw [if_pos rfl, if_neg (by decide), u2, f_X5_visit]
          obtain ⟨x1, x2, x3, x4⟩ := S2
          simp only [x1, x2, x3, al7x.1, al7x.2, nI_clamp (show d + 1 < 2 ^ 31 by omega), nI_1, (bt_or v hv _ lr).1]
          rw [if_pos (inB_nI (by omega) (by omega)), if_pos (inB_nI (by omega) (by omega)), Option.bind_some]
          refine ⟨_, rfl, ((((F2.tr (FS.u7 (Or.inl rfl))).tr (FS.u7 (Or.inr rfl))).tr (FS.u73 (by decide))).tr (FS.u73 (by decide))).tr (FS.u73 (by decide)), fun _ => ?_, fun q => absurd z q⟩
          dsimp only
          refine ⟨by rw [up_j (by decide), up_j (by decide), up_s], up_s, by rw [up_j (by decide), up_s], fun j hj => ⟨?_, ?_⟩⟩
          · rw [up_k (by decide), up_k (by decide), up_k (by decide), up_k (by decide)]
            by_cases e : j = d + 1
            · subst e; rw [up_s]; simp only [va_up, if_pos]
            · rw [up_j e]; simp only [va_up, if_neg e]; exact (x4 j (by omega)).1
          · rw [up_k (by decide), up_k (by decide), up_k (by decide)]
            by_cases e : j = d + 1
            · subst e; rw [up_s]; simp only [va_up, if_pos]; rfl
            · rw [up_j e, up_k (by decide)]; simp only [va_up, if_neg e]; exact (x4 j (by omega)).2
theorem fb_neg {M : Me} {d v r i : Nat} {c : Int32} {P G : Nat → Nat} {rc : Me → Option (Int32 × Me)} {x : Int32} (D : MInv M n b h ck c is) (W : WF n b h) (S : ST M (d + 2) v c P G) (hd : d < 6) (hP : P d = r) (hG : G d = i + 1) (hi : i < dN (b r)) (hr : r < 7) (h3 : 3 ≤ r) (hh : h r = true) : ∃ M', fbody rc w x (-1, M) = rc M' ∧ FS M M' ∧ ST M' (if decide (b r (dQ (b r) i + 1) = 1) = true then 0 else d + 1) v c P G := by
  obtain ⟨s1, s2, s3, s4⟩ := id S
  obtain ⟨p1, p2⟩ := s4 d (by omega)
  obtain ⟨-, -, s, hs⟩ := W.n4 hr hh
  have h0 := (W r hr hh).2
  obtain ⟨t1, t2, t3, t4, t5, t6⟩ := tgtF hs (by omega)
  obtain ⟨KK, l1, l2, l3, l4⟩ := (show DL (b r) (n r) (dQ (b r) i) from t6 i hi)
  have D1 : MInv (up M 73 14 (nI (d + 1))) n b h ck c is := D.fs (FS.u73 (by decide)) (by rw [up_j (by decide)]; exact s3)
  have R1 := D1.1 r (by omega)
  have dg := m_deleg (k := i) R1 hs (by omega) (by unfold dN at hi; omega)
  rw [if_pos hi] at dg
  have q1 : dQ (b r) i + 1 < n r := by omega
  obtain ⟨g1, g2⟩ := m_at R1 (x := nI (120 * r + dQ (b r) i) + 1) (p := dQ (b r) i + 1) (nI_add _ 1) q1
  have lb := (R1.2.2.2 _ q1).2
  unfold fbody
  dsimp only
  rw [if_neg (by decide)]
  simp only [s1, show nI (d + 2) - 1 = nI (d + 1) from nI_pred (d + 1), show nI (d + 1) - 1 = nI d from nI_pred d, al7x.1, al7x.2, nI_clamp (show d < 2 ^ 31 by omega), p1, p2, hP, hG, show nI (i + 1) - 1 = nI i from nI_pred i]
  rw [if_neg (nI_nle (by omega) (by omega)), if_pos (inB_nI (by omega) (by omega)), if_pos (inB_nI (by omega) (by omega)), dg, Option.bind_some]
  dsimp only
  rw [if_pos g1]
  simp only [g2]
  have mk : ∀ k : Nat, k ≤ d + 1 → FS M (up (up M 73 14 (nI (d + 1))) 73 14 (nI k)) ∧ ST (up (up M 73 14 (nI (d + 1))) 73 14 (nI k)) k v c P G := fun k hk =>
    ⟨(FS.u73 (by decide)).tr (FS.u73 (by decide)), up_s, by rw [up_j (by decide), up_j (by decide)]; exact s2, by rw [up_j (by decide), up_j (by decide)]; exact s3, fun j hj => by rw [up_k (by decide), up_k (by decide), up_k (by decide), up_k (by decide)]; exact s4 j (by omega)⟩
  by_cases e : b r (dQ (b r) i + 1) = 1
  · rw [if_pos (by rw [e]; rfl), if_pos (decide_eq_true e)]
    exact ⟨_, rfl, mk 0 (by omega)⟩
  · rw [if_neg (show ¬ nI (b r (dQ (b r) i + 1)) = (1 : Int32) from fun q => e ((nI_eq (b := 1) (by omega) (by omega)).mp q)), if_neg (by simpa using e), up_s]
    exact ⟨_, rfl, mk (d + 1) (Nat.le_refl _)⟩
theorem fb_neg1 {M : Me} {v : Nat} {c : Int32} {P G : Nat → Nat} {rc : Me → Option (Int32 × Me)} {x : Int32} (S : ST M 1 v c P G) : ∃ M', fbody rc w x (-1, M) = rc M' ∧ FS M M' ∧ ST M' 0 v c P G := by
  obtain ⟨s1, s2, s3, s4⟩ := id S
  unfold fbody
  dsimp only
  rw [if_neg (by decide)]
  simp only [s1, show nI 1 - 1 = nI 0 from nI_pred 0]
  rw [if_pos (by decide)]
  exact ⟨_, rfl, FS.u73 (by decide), up_s, by rw [up_j (by decide)]; exact s2, by rw [up_j (by decide)]; exact s3, fun j hj => absurd hj (Nat.not_lt_zero j)⟩
theorem find_0 {M : Me} {v f : Nat} {c : Int32} {P G : Nat → Nat} {x : Int32} (S : ST M 0 v c P G) : fL_X5_find_20 (f + 1) w x M = some (-1, M) := by
  rw [find_eq, S.1, if_pos (by decide)]
end RS
