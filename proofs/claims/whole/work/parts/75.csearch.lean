/-! the class's search -/
def SS (M : Me) (v : Nat) (c : Int32) : Prop := M 71 2 = nI v ∧ M 71 3 = c ∧ M 71 4 = -1 ∧ M 71 6 = 0
def SR (b : Nat → Nat → Nat) (h : Nat → Bool) (w : Int64) (m : Nat) (M : Me) (R : RT) : Prop := M 71 2 = nI R.2.1 ∧ M 71 3 = R.2.2.1 ∧ (R.1 = 0 → M 71 4 = -1 ∧ M 71 6 = 0) ∧ (R.1 ≠ 0 → M 71 6 = 1) ∧ (R.1 = 1 → M 71 4 = -1) ∧ (R.1 = 2 → M 71 4 = nI R.2.2.2.1 ∧ M 71 5 = nI R.2.2.2.2 ∧ R.2.2.2.1 < 7 ∧ 3 ≤ R.2.2.2.1 ∧ h R.2.2.2.1 = true ∧ tgO (b R.2.2.2.1) w m (b R.2.2.2.1 4) 0 = some R.2.2.2.2) ∧ R.2.1 < 128 ∧ R.1 ≤ 2
theorem SR.ss {b : Nat → Nat → Nat} {h : Nat → Bool} {w : Int64} {m : Nat} {M : Me} {R : RT} (q : SR b h w m M R) (z : R.1 = 0) : SS M R.2.1 R.2.2.1 := ⟨q.1, q.2.1, (q.2.2.1 z).1, (q.2.2.1 z).2⟩
theorem SR.up6 {b : Nat → Nat → Nat} {h : Nat → Bool} {w : Int64} {m : Nat} {M : Me} {R : RT} (q : SR b h w m M R) (z : R.1 ≠ 0) : SR b h w m (up M 71 6 1) R := by
  obtain ⟨q1, q2, q3, q4, q5, q6, q7, q8⟩ := q
  exact ⟨by rw [up_j (by decide)]; exact q1, by rw [up_j (by decide)]; exact q2, fun y => absurd y z, fun _ => up_s, fun y => by rw [up_j (by decide)]; exact q5 y, fun y => by rw [up_j (by decide), up_j (by decide)]; exact q6 y, q7, q8⟩
def K71 (MB M : Me) : Prop := ∀ a, a ≠ 71 → M a = MB a
theorem K71.u {MB M : Me} {j : Nat} {v : Int32} (k : K71 MB M) : K71 MB (up M 71 j v) := fun a ha => by rw [up_row ha]; exact k a ha
theorem s_over {rc : Int32 → Int32 → Me → Option (Int32 × Me)} {f k : Nat} {x i : Int32} {M : Me} (h : M 71 6 = 1) : fL_X2_visit_71 rc (f + 1) x k i M = some (0, M) := by
  rw [fL_X2_visit_71, f_X0_delegationCount, Option.bind_some]
  dsimp only
  rw [if_neg (show ¬ M 71 6 = 0 by rw [h]; decide)]
  split <;> rfl
theorem s_loop {MB : Me} {n : Nat → Nat} {b : Nat → Nat → Nat} {h : Nat → Bool} {ck vs is : Int32} {w : Int64} {m r : Nat} {nb : Nat → Nat} {N : Nat} {x : Int32} {rc : Nat → Nat → Int32 → RT} (C : CInv MB n b h ck vs is) (W : WF n b h) (h2 : h 2 = true) (R : RW MB 67 m nb) (hb : ∀ j, j < m → nb j = ltr w j) (hm : m ≤ 4) (hr : r < 7) (h3 : 3 ≤ r) (hh : h r = true)
    (rec : ∀ (r' v : Nat) (c : Int32) (M : Me), r' < 7 → 3 ≤ r' → h r' = true → v < 128 → K71 MB M → SS M v c → ∃ M', f_X2_visit N (nI r') (x + 1) M = some (0, M') ∧ K71 MB M' ∧ SR b h w m M' (rc r' v c)) :
    ∀ (c fuel i v : Nat) (cn : Int32) (M : Me), c + 2 ≤ fuel → i + c = dN (b r) → v < 128 → K71 MB M → SS M v cn → ∃ M', fL_X2_visit_71 (f_X2_visit N) fuel x (7 * r) (nI i) M = some (0, M') ∧ K71 MB M' ∧ SR b h w m M' (lpO (foO n b h ck w m r) (fun i => b r (dQ (b r) i)) (fun i => decide (b r (dQ (b r) i + 1) = 1)) rc c i v cn) := by
  intro c
  induction c with
  | zero =>
    intro fuel i v cn M hf hi hv hK hS
    obtain ⟨f, rfl⟩ : ∃ f, fuel = f + 1 := ⟨fuel - 1, by omega⟩
    have CM : CInv M n b h ck vs is := C.keepX (fun a g => hK a (by omega))
    obtain ⟨s, d, z⟩ := CM.dc W hr hh
    obtain ⟨x1, x2, x3, x4⟩ := d.2.2.2.2.2.2.1.2.2.2.2.2 (by omega)
    have l3 := (tgtF d.2.1 (by omega)).2.2.2.2.1
    refine ⟨M, ?_, hK, ?_⟩
    · rw [fL_X2_visit_71, f_X0_delegationCount, x3, Option.bind_some]
      dsimp only
      unfold dN at hi
      rw [if_pos (nI_le (by omega) (by omega))]
    · rw [lpO]
      obtain ⟨s1, s2, s3, s4⟩ := hS
      exact ⟨s1, s2, fun _ => ⟨s3, s4⟩, fun q => absurd rfl q, fun q => absurd q (by simp), fun q => absurd q (by simp), hv, by simp⟩
  | succ c ih =>
    intro fuel i v cn M hf hi hv hK hS
    obtain ⟨f, rfl⟩ : ∃ f, fuel = f + 2 := ⟨fuel - 2, by omega⟩
    have CM : CInv M n b h ck vs is := C.keepX (fun a g => hK a (by omega))
    have RM : RW M 67 m nb := R.keep (hK _ (by decide)) (hK _ (by decide))
    obtain ⟨s, d, z⟩ := CM.dc W hr hh
    obtain ⟨x1, x2, x3, x4⟩ := d.2.2.2.2.2.2.1.2.2.2.2.2 (by omega)
    have l3 := (tgtF d.2.1 (by omega)).2.2.2.2.1
    have hlt : i < dN (b r) := by omega
    obtain ⟨s1, s2, s3, s4⟩ := id hS
    have hi' : ¬ nI (b r (tPos (b r) (b r 4))) ≤ nI i := nI_ge (show i < b r (tPos (b r) (b r 4)) from hlt) (by omega)
    rw [fL_X2_visit_71, f_X0_delegationCount, x3, Option.bind_some]
    dsimp only
    rw [if_neg hi', if_pos s4, s_may CM W h2 RM hb hm hr h3 hh hlt hv s1, Option.bind_some]
    dsimp only
    rw [lpO]
    by_cases fo : foO n b h ck w m r i v = true
    · obtain ⟨⟨KK, l1, l2', l3', l4⟩, l5⟩ := dl_of d (by omega) hlt
      have fr : h (b r (dQ (b r) i)) = true := by
        unfold foO frO at fo
        simp only [Bool.and_eq_true] at fo
        exact st_h fo.1.2.1
      obtain ⟨M1, e1, K1, S1⟩ := rec (b r (dQ (b r) i)) v cn M (by omega) (by omega) fr hv hK hS
      rw [if_pos fo, if_pos fo, if_neg (by decide), s_delegate (isK7 hr) d (by omega) hlt, Option.bind_some]
      dsimp only
      rw [e1, Option.bind_some]
      dsimp only
      by_cases z0 : (rc (b r (dQ (b r) i)) v cn).1 = 0
      · rw [if_pos z0]
        have SS1 := S1.ss z0
        have CM1 : CInv M1 n b h ck vs is := C.keepX (fun a g => K1 a (by omega))
        obtain ⟨s', d', z'⟩ := CM1.dc W hr hh
        rw [if_pos SS1.2.2.2, s_final (isK7 hr) d' (by omega) hlt, Option.bind_some]
        dsimp only
        have hv1 : (rc (b r (dQ (b r) i)) v cn).2.1 < 128 := S1.2.2.2.2.2.2.1
        by_cases fi : decide (b r (dQ (b r) i + 1) = 1) = true
        · rw [if_pos fi, if_pos fi, if_neg (by decide)]
          refine ⟨up M1 71 6 1, s_over up_s, K1.u, ?_⟩
          obtain ⟨t1, t2, t3, t4⟩ := SS1
          exact ⟨by rw [up_j (by decide)]; exact t1, by rw [up_j (by decide)]; exact t2, fun q => absurd q (by simp), fun _ => up_s, fun _ => by rw [up_j (by decide)]; exact t3, fun q => absurd q (by simp), hv1, by simp⟩
        · rw [if_neg fi, if_neg fi, if_pos rfl, nI_1]
          refine ih (f + 1) (i + 1) _ _ (up M1 71 6 0) (by omega) (by omega) hv1 K1.u ?_
          obtain ⟨t1, t2, t3, t4⟩ := SS1
          exact ⟨by rw [up_j (by decide)]; exact t1, by rw [up_j (by decide)]; exact t2, by rw [up_j (by decide)]; exact t3, up_s⟩
      · rw [if_neg z0, if_neg (show ¬ M1 71 6 = 0 by rw [S1.2.2.2.1 z0]; decide)]
        exact ⟨up M1 71 6 1, s_over up_s, K1.u, S1.up6 z0⟩
    · rw [if_neg fo, if_neg fo, if_pos rfl, nI_1]
      exact ih (f + 1) (i + 1) v cn M (by omega) (by omega) hv hK hS
theorem s_visit {MB : Me} {n : Nat → Nat} {b : Nat → Nat → Nat} {h : Nat → Bool} {ck vs is : Int32} {w : Int64} {m : Nat} {nb : Nat → Nat} (C : CInv MB n b h ck vs is) (W : WF n b h) (h2 : h 2 = true) (R : RW MB 67 m nb) (hb : ∀ j, j < m → nb j = ltr w j) (hm : m ≤ 4) : ∀ (f r v : Nat) (c : Int32) (M : Me), f ≤ 4 → r < 7 → 3 ≤ r → h r = true → v < 128 → K71 MB M → SS M v c → ∃ M', f_X2_visit (f + 4) (nI r) (nI (4 - f)) M = some (0, M') ∧ K71 MB M' ∧ SR b h w m M' (vsO n b h ck w m f r v c) := by
  intro f
  induction f with
  | zero =>
    intro r v c M hf hr h3 hh hv hK hS
    refine ⟨M, ?_, hK, ?_⟩
    · rw [f_X2_visit]; dsimp only; rw [if_neg (by decide)]
    · rw [vsO]
      obtain ⟨s1, s2, s3, s4⟩ := hS
      exact ⟨s1, s2, fun _ => ⟨s3, s4⟩, fun q => absurd rfl q, fun q => absurd q (by simp), fun q => absurd q (by simp), hv, by simp⟩
  | succ f ih =>
    intro r v c M hf hr h3 hh hv hK hS
    obtain ⟨s1, s2, s3, s4⟩ := id hS
    obtain ⟨o1, o2⟩ := bt_or v hv r hr
    have KM : K71 MB (up (up M 71 2 (nI (v ||| 2 ^ r))) 71 3 (c + 1)) := hK.u.u
    have CM : CInv (up (up M 71 2 (nI (v ||| 2 ^ r))) 71 3 (c + 1)) n b h ck vs is := C.keepX (fun a g => KM a (by omega))
    have RMt : RW (up (up M 71 2 (nI (v ||| 2 ^ r))) 71 3 (c + 1)) 67 m nb := R.keep (KM _ (by decide)) (KM _ (by decide))
    obtain ⟨s, d, z⟩ := CM.dc W hr hh
    rw [show f + 1 + 4 = (f + 4) + 1 by omega, f_X2_visit]
    dsimp only
    rw [if_pos (show nI (4 - (f + 1)) ≤ (3 : Int32) from nI_le (b := 3) (by omega) (by omega)), s1, s2, o1, s_docOf rfl hr, Option.bind_some]
    dsimp only
    rw [if_pos (kB7 hr), s_target (isK7 hr) d (by omega) RMt hb hm, Option.bind_some]
    dsimp only
    cases tq : tgO (b r) w m (b r 4) 0 with
    | some p =>
      rw [tgI, vsO_t tq]
      have hp : p < 2 ^ 31 := by
        have pl : ∀ c i, i + c = b r 4 → tgO (b r) w m c i = some p → p < 2 ^ 31 := by
          intro c
          induction c with
          | zero => intro i _ q; rw [tgO] at q; cases q
          | succ c ihc =>
            intro i hi q
            by_cases e : b r (tPos (b r) i) = m ∧ bgO (b r) (tPos (b r) i + 1) w m 0 = true
            · rw [tgO_t e] at q
              cases q
              have := ((tgtF d.2.1 (by omega)).2.2.1 i (by omega)).1
              have := d.2.2.2.2.2.2.2.2
              omega
            · rw [tgO_f e] at q; exact ihc (i + 1) (by omega) q
        exact pl (b r 4) 0 (by omega) tq
      rw [if_neg (nI_m1 hp)]
      refine ⟨_, rfl, KM.u.u.u, ?_⟩
      refine ⟨?_, ?_, fun q => absurd q (by simp), fun _ => up_s, fun q => absurd q (by simp), fun _ => ⟨?_, ?_, hr, h3, hh, tq⟩, o2, by simp⟩
      · rw [up_j (by decide), up_j (by decide), up_j (by decide), up_j (by decide), up_s]
      · rw [up_j (by decide), up_j (by decide), up_j (by decide), up_s]
      · rw [up_j (by decide), up_s]
      · rw [up_j (by decide), up_j (by decide), up_s]
    | none =>
      rw [tgI, vsO_n tq, if_pos rfl]
      have l3 := (tgtF d.2.1 (by omega)).2.2.2.2.1
      obtain ⟨M1, e1, K1, S1⟩ := s_loop (N := f + 4) (x := nI (4 - (f + 1))) (rc := vsO n b h ck w m f) C W h2 R hb hm hr h3 hh (fun r' v' c' M' g1 g2 g3 g4 g5 g6 => by
        obtain ⟨M2, y1, y2, y3⟩ := ih r' v' c' M' (by omega) g1 g2 g3 g4 g5 g6
        exact ⟨M2, by rw [nI_1, show 4 - (f + 1) + 1 = 4 - f by omega]; exact y1, y2, y3⟩) (dN (b r)) 200 0 (v ||| 2 ^ r) (c + 1) (up (up (up M 71 2 (nI (v ||| 2 ^ r))) 71 3 (c + 1)) 71 5 (-1)) (by unfold dN; omega) (by omega) o2 KM.u ⟨by rw [up_j (by decide), up_j (by decide), up_s], by rw [up_j (by decide), up_s], by rw [up_j (by decide), up_j (by decide), up_j (by decide)]; exact s3, by rw [up_j (by decide), up_j (by decide), up_j (by decide)]; exact s4⟩
      refine ⟨M1, ?_, K1, S1⟩
      rw [show fL_X2_visit_71 (f_X2_visit (f + 4)) 200 (nI (4 - (f + 1))) (7 * r) 0 _ = some (0, M1) from e1, Option.bind_some]
theorem s_lowN {w : Int64} : ∀ (c i n : Nat) (b : Nat → Nat), (∀ j, j < i → b j = ltr w j) → n = i → ∀ j, j < i + c → apN (fun i => low8 ((lushr_ w (8 * nI i)).toInt32)) c i n b j = ltr w j := by
  intro c
  induction c with
  | zero => intro i n b h _ j hj; rw [apN]; exact h j (by omega)
  | succ c ih =>
    intro i n b h hn j hj
    subst hn
    rw [apN]
    refine ih (n + 1) (n + 1) _ (fun j hj => ?_) rfl j (by omega)
    by_cases e : j = n
    · subst e; simp only [va_up, if_pos]; exact ltr_eq w j
    · simp only [va_up, if_neg e]; exact h j (by omega)
theorem s_run {M : Me} {n : Nat → Nat} {b : Nat → Nat → Nat} {h : Nat → Bool} {ck vs is : Int32} {w : Int64} {m : Nat} (C : CInv M n b h ck vs is) (W : WF n b h) (h2 : h 2 = true) (h3 : h 3 = true) (hm : m ≤ 4) : ∃ M', f_X2_run w (nI m) M = some (0, M') ∧ CInv M' n b h ck vs is ∧ (∀ a, 73 ≤ a → M' a = M a) ∧ SR b h w m M' (vsO n b h ck w m 4 3 0 0) := by
  obtain ⟨nn, bb, R⟩ := C.2.2.1
  have a68 : al (67 + 1) = 4 := by decide
  -- the name is emptied
  have e0 : ∃ M1, f_X1_keepFirst 67 0 M = some (0, M1) ∧ RW M1 67 0 bb ∧ (∀ a, a ≠ 67 → M1 a = M a) := by
    obtain ⟨r1, r2, r3, r4⟩ := id R
    rw [f_X1_keepFirst, if_neg (by decide), r1]
    by_cases c : nn = 0
    · subst c
      rw [if_pos (by decide)]
      exact ⟨M, rfl, R, fun _ _ => rfl⟩
    · rw [if_neg (nI_nle (by omega) (by omega))]
      exact ⟨_, rfl, ⟨up_s, by omega, r3, fun i hi => absurd hi (Nat.not_lt_zero i)⟩, fun a ha => up_row ha⟩
  obtain ⟨M1, e1, R1, f1⟩ := e0
  obtain ⟨M2, e2, R2, f2⟩ := s_lowL (w := w) (k := 67) m 200 0 0 bb M1 (by omega) (by omega) R1 (by rw [a68]; omega)
  rw [Nat.zero_add] at e2 R2
  have e2' : f_X1_appendLowest 67 w (nI m) M1 = some (0, M2) := by
    rw [f_X1_appendLowest, show fL_X1_appendLowest_3 200 67 w (nI m) 0 M1 = some (0, M2) from e2, Option.bind_some]
  have K2 : ∀ a, a ≠ 67 → a ≠ 68 → M2 a = M a := fun a g1 g2 => by rw [f2 a g1 g2, f1 a g1]
  have C2 : CInv M2 n b h ck vs is := by
    obtain ⟨h1, h2, h3, h4, h5, h6, h7⟩ := C
    exact ⟨h1.keep (K2 _ (by omega) (by omega)) (K2 _ (by omega) (by omega)), h2.keep (K2 _ (by omega) (by omega)) (K2 _ (by omega) (by omega)), ⟨_, _, R2⟩, fun r hr => ⟨by rw [K2 _ (by omega) (by omega)]; exact (h4 r hr).1, fun hh => ((h4 r hr).2 hh).keep (fun a g1 g2 => K2 a (by omega) (by omega))⟩, by rw [K2 _ (by omega) (by omega)]; exact h5, by rw [K2 _ (by omega) (by omega)]; exact h6, by rw [K2 _ (by omega) (by omega)]; exact h7⟩
  have KS : K71 M2 (up (up (up (up M2 71 2 0) 71 3 0) 71 4 (-1)) 71 6 0) := K71.u (K71.u (K71.u (K71.u (fun _ _ => rfl))))
  obtain ⟨M3, e3, K3, S3⟩ := s_visit C2 W h2 R2 (w := w) (fun j hj => s_lowN m 0 0 bb (fun j hj => absurd hj (Nat.not_lt_zero j)) rfl j (by omega)) hm 4 3 0 0 (up (up (up (up M2 71 2 0) 71 3 0) 71 4 (-1)) 71 6 0) (by omega) (by omega) (by omega) h3 (by omega) KS ⟨by rw [up_j (by decide), up_j (by decide), up_j (by decide), up_s]; rfl, by rw [up_j (by decide), up_j (by decide), up_s], by rw [up_j (by decide), up_s], up_s⟩
  refine ⟨M3, ?_, C2.keepX (fun a g => K3 a (by omega)), fun a ha => by rw [K3 a (by omega), K2 a (by omega) (by omega)], S3⟩
  rw [f_X2_run, e1, Option.bind_some]
  dsimp only
  rw [e2', Option.bind_some]
  dsimp only
  rw [show f_X2_visit 8 3 0 _ = some (0, M3) from e3, Option.bind_some]
