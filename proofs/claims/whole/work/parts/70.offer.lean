/-! offer: what is asked, role by role -/
def grO (b : Nat → Nat → Nat) (h : Nat → Bool) (ck : Int32) (r : Nat) : Bool := if r = 0 then h 0 else if r = 1 then st b h ck 0 else if r = 2 then st b h ck 0 && st b h ck 1 else st b h ck 0 && st b h ck 2 && decide (sv (b 2) r (b 2 4) ≠ 0)
def sgnO (b : Nat → Nat → Nat) (s r : Nat) : Bool := if r < 4 then sgO (b 7) s (b 0) (ksP (b 0) r) && (decide (r ≠ 0) || sgO (b 7) s (b 7) (ksP (b 7) 0)) else true
def olO (b : Nat → Nat → Nat) : Nat → Nat → Bool
  | 0, _ => true
  | c + 1, r => if sv (b 2) r (b 2 4) ≤ sv (b 7) r (b 7 4) then olO b c (r + 1) else false
theorem olO_t {b : Nat → Nat → Nat} {c r : Nat} (h : sv (b 2) r (b 2 4) ≤ sv (b 7) r (b 7 4)) : olO b (c + 1) r = olO b c (r + 1) := by rw [olO, if_pos h]
theorem olO_f {b : Nat → Nat → Nat} {c r : Nat} (h : ¬ sv (b 2) r (b 2 4) ≤ sv (b 7) r (b 7 4)) : olO b (c + 1) r = false := by rw [olO, if_neg h]
def vrO (n : Nat → Nat) (b : Nat → Nat → Nat) (h : Nat → Bool) (r : Nat) : Bool := if r = 0 then decide (b 7 1 = b 0 1 + 1) else if r = 1 then !h 1 || (decide (b 1 1 ≤ b 7 1) && decide (b 1 4 ≤ b 7 4)) else if r = 2 then decide (b 7 1 = b 1 4) && decide (mxO (b 7) (n 7) 0 = wd (b 1) 5) && (!h 2 || olO b 4 3) else decide (b 7 1 = sv (b 2) r (b 2 4))
theorem st_h {b : Nat → Nat → Nat} {h : Nat → Bool} {ck : Int32} {r : Nat} (q : st b h ck r = true) : h r = true := by
  unfold st at q
  cases hh : h r
  · rw [hh] at q; cases q
  · rfl
theorem snap_lt {n : Nat → Nat} {b : Nat → Nat → Nat} {h : Nat → Bool} (W : WF n b h) (hh : h 2 = true) : b 2 4 ≤ 4 ∧ 5 + 2 * b 2 4 ≤ n 2 ∧ b 2 0 = 2 ∧ ∀ i, i < b 2 4 → 1 ≤ b 2 (5 + 2 * i + 1) := by
  obtain ⟨-, -, s, hs⟩ := W.n4 (r := 2) (by omega) hh
  have h0 := (W 2 (by omega) hh).2
  obtain ⟨g1, g2, g3⟩ := snapF hs h0
  exact ⟨g1, g2, h0, g3⟩
theorem svT {n : Nat → Nat} {b : Nat → Nat → Nat} {h : Nat → Bool} {M : Me} {ck vs is : Int32} (W : WF n b h) (D : MInv M n b h ck vs is) (hh : h 2 = true) (r : Nat) : sv (b 2) r (b 2 4) < 256 := by
  obtain ⟨g1, g2, -, -⟩ := snap_lt W hh
  exact sv_lt _ (fun i hi => ((D.1 2 (by omega)).2.2.2 _ (by omega)).2)
theorem s_ground {M : Me} {n : Nat → Nat} {b : Nat → Nat → Nat} {h : Nat → Bool} {ck vs is : Int32} (C : CInv M n b h ck vs is) (D : MInv M n b h ck vs is) (W : WF n b h) {r : Nat} (hr : r < 7) : f_X3_hasGroundFor (nI r) M = some (if grO b h ck r = true then 1 else 0, M) := by
  have F0 : f_X3_isInForce 0 M = some (if st b h ck 0 = true then 1 else 0, M) := s_force C W (r := 0) (by omega) rfl
  have F1 : f_X3_isInForce 1 M = some (if st b h ck 1 = true then 1 else 0, M) := s_force C W (r := 1) (by omega) rfl
  have F2 : f_X3_isInForce 2 M = some (if st b h ck 2 = true then 1 else 0, M) := s_force C W (r := 2) (by omega) rfl
  unfold f_X3_hasGroundFor grO
  by_cases c0 : r = 0
  · subst c0
    rw [if_pos (show nI 0 = (0 : Int32) from rfl), if_pos rfl, s_docOf (r := 0) (x := 0) rfl (by omega), Option.bind_some]
    dsimp only
    rw [if_pos (kB7 (r := 0) (by omega)), s_whole C (r := 0) (by omega), Option.bind_some, if_pos bB_ite]
  rw [if_neg (show ¬ nI r = (0 : Int32) from nI_ne0 (by omega) (by omega)), if_neg c0]
  by_cases c1 : r = 1
  · subst c1
    rw [if_pos (show nI 1 = (1 : Int32) from rfl), if_pos rfl, F0, Option.bind_some, if_pos bB_ite]
  rw [if_neg (show ¬ nI r = (1 : Int32) from fun q => c1 ((nI_eq (b := 1) (by omega) (by omega)).mp q)), if_neg c1]
  by_cases c2 : r = 2
  · subst c2
    rw [if_pos (show nI 2 = (2 : Int32) from rfl), if_pos rfl, F0, Option.bind_some]
    dsimp only
    cases h0 : st b h ck 0
    · rfl
    · rw [if_pos rfl, if_neg (by decide), F1, Option.bind_some]
      cases h1 : st b h ck 1 <;> rfl
  rw [if_neg (show ¬ nI r = (2 : Int32) from fun q => c2 ((nI_eq (b := 2) (by omega) (by omega)).mp q)), if_neg c2, F0, Option.bind_some]
  dsimp only
  cases h0 : st b h ck 0
  · rfl
  · rw [if_pos rfl, if_neg (by decide), F2, Option.bind_some]
    dsimp only
    cases h2 : st b h ck 2
    · rfl
    · obtain ⟨s, d, z⟩ := C.dc W (r := 2) (by omega) (st_h h2)
      rw [if_pos rfl, if_neg (by decide), s_docOf (r := 2) (x := 2) rfl (by omega), Option.bind_some]
      dsimp only
      rw [if_pos (kB7 (r := 2) (by omega)), s_verFor (isK7 (r := 2) (by omega)) d z hr rfl, Option.bind_some]
      dsimp only
      by_cases v : sv (b 2) r (b 2 4) = 0
      · rw [if_pos ((vI_m1 (by omega)).mpr v)]; simp [v]
      · rw [if_neg (fun q => v ((vI_m1 (by have := svT W D (st_h h2) r; omega)).mp q))]; simp [v]
theorem gr_h0 {b : Nat → Nat → Nat} {h : Nat → Bool} {ck : Int32} {r : Nat} (g : grO b h ck r = true) : h 0 = true := by
  unfold grO at g
  by_cases c0 : r = 0
  · rw [if_pos c0] at g; exact g
  rw [if_neg c0] at g
  by_cases c1 : r = 1
  · rw [if_pos c1] at g; exact st_h g
  rw [if_neg c1] at g
  by_cases c2 : r = 2
  · rw [if_pos c2] at g; simp only [Bool.and_eq_true] at g; exact st_h g.1
  rw [if_neg c2] at g
  simp only [Bool.and_eq_true] at g
  exact st_h g.1.1
theorem gr_h1 {b : Nat → Nat → Nat} {h : Nat → Bool} {ck : Int32} (g : grO b h ck 2 = true) : h 1 = true := by
  unfold grO at g
  rw [if_neg (by decide), if_neg (by decide), if_pos rfl] at g
  simp only [Bool.and_eq_true] at g
  exact st_h g.2
theorem gr_h2 {b : Nat → Nat → Nat} {h : Nat → Bool} {ck : Int32} {r : Nat} (hr : 3 ≤ r) (g : grO b h ck r = true) : h 2 = true := by
  unfold grO at g
  rw [if_neg (by omega), if_neg (by omega), if_neg (by omega)] at g
  simp only [Bool.and_eq_true] at g
  exact st_h g.1.2
theorem s_finds {M : Me} {n : Nat → Nat} {b : Nat → Nat → Nat} {h : Nat → Bool} {ck vs is : Int32} {s : Nat} (C : CInv M n b h ck vs is) (W : WF n b h) (d : Dc M 56 (n 7) (b 7) s) (h0 : h 0 = true) : f_X3_findsSigned 56 M = some (if sgnO b s (b 7 0) = true then 1 else 0, M) := by
  obtain ⟨s0, d0, z0⟩ := C.dc W (r := 0) (by omega) h0
  have g0 := (pSig_some d.2.1).2.1
  rw [f_X3_findsSigned, s_role d, Option.bind_some]
  dsimp only
  unfold sgnO
  by_cases c : b 7 0 < 4
  · rw [if_pos (show nI (b 7 0) < (4 : Int32) from nI_lt (b := 4) c (by omega)), if_pos c, s_docOf (r := 0) (x := 0) rfl (by omega), Option.bind_some]
    dsimp only
    rw [if_pos (kB7 (r := 0) (by omega)), s_vouch (isK7 (r := 0) (by omega)) d0 z0 d c rfl, Option.bind_some]
    dsimp only
    cases g1 : sgO (b 7) s (b 0) (ksP (b 0) (b 7 0))
    · rfl
    · rw [if_pos rfl, if_neg (by decide)]
      by_cases c0 : b 7 0 = 0
      · rw [if_pos (by rw [c0]; rfl), s_vouch k56 d c0 d (j := 0) (x := 0) (by omega) rfl, Option.bind_some, c0]
        cases g2 : sgO (b 7) s (b 7) (ksP (b 7) 0) <;> rfl
      · rw [if_neg (nI_ne0 (by omega) (by omega))]; simp [c0]
  · rw [if_neg (show ¬ nI (b 7 0) < (4 : Int32) from nI_nlt (b := 4) (by omega) (by omega)), if_neg c]; rfl
theorem s_olderL {M : Me} {n : Nat → Nat} {b : Nat → Nat → Nat} {s s2 : Nat} (d : Dc M 56 (n 7) (b 7) s) (d2 : Dc M 14 (n 2) (b 2) s2) (z7 : b 7 0 = 2) (z2 : b 2 0 = 2) (l7 : ∀ r, sv (b 7) r (b 7 4) < 256) (l2 : ∀ r, sv (b 2) r (b 2 4) < 256) : ∀ (c fuel r : Nat), c < fuel → r + c = 7 → fL_X3_isNoOlderSnapshot_17 fuel 56 14 (nI r) M = some (if olO b c r = true then 1 else 0, M) := by
  intro c
  induction c with
  | zero =>
    intro fuel r hf hr
    obtain ⟨f, rfl⟩ : ∃ f, fuel = f + 1 := ⟨fuel - 1, by omega⟩
    rw [fL_X3_isNoOlderSnapshot_17, if_pos (show (6 : Int32) < nI r from nI_lt (a := 6) (by omega) (by omega)), olO, if_pos rfl]
  | succ c ih =>
    intro fuel r hf hr
    obtain ⟨f, rfl⟩ : ∃ f, fuel = f + 1 := ⟨fuel - 1, by omega⟩
    have := l7 r
    have := l2 r
    rw [fL_X3_isNoOlderSnapshot_17, if_neg (show ¬ (6 : Int32) < nI r from nI_nlt (a := 6) (by omega) (by omega)), s_verFor k56 d z7 (by omega) rfl, Option.bind_some]
    dsimp only
    rw [s_verFor (isK7 (r := 2) (by omega)) d2 z2 (by omega) rfl, Option.bind_some]
    dsimp only
    by_cases e : sv (b 2) r (b 2 4) ≤ sv (b 7) r (b 7 4)
    · rw [if_pos ((vI_le (by omega) (by omega)).mpr e), olO_t e, nI_1]
      exact ih f (r + 1) (by omega) (by omega)
    · rw [if_neg (fun q => e ((vI_le (by omega) (by omega)).mp q)), olO_f e, if_neg (by decide)]
theorem s_byteD {M : Me} {k n s p : Nat} {b : Nat → Nat} (d : Dc M k n b s) (hp : p < n) {x : Int32} (hx : x = nI p) : f_X1_byteAt (k + 1) x M = some (nI (b p), M) := by
  subst hx
  have := d.2.2.2.2.2.2.2.2
  rw [s_byteAt d.1 (by omega), if_pos hp]
theorem s_right {M : Me} {n : Nat → Nat} {b : Nat → Nat → Nat} {h : Nat → Bool} {ck vs is : Int32} {s : Nat} (C : CInv M n b h ck vs is) (D : MInv M n b h ck vs is) (W : WF n b h) (d : Dc M 56 (n 7) (b 7) s) (g : grO b h ck (b 7 0) = true) : f_X3_findsVersionsRight 56 M = some (if vrO n b h (b 7 0) = true then 1 else 0, M) := by
  have g0 := (pSig_some d.2.1).2.1
  have g4 := (pSig_some d.2.1).1
  have l7 := d.lt
  have b71 := l7 1 (by omega)
  have q71 := (pSig_some d.2.1).2.2.1
  rw [f_X3_findsVersionsRight, s_role d, Option.bind_some]
  dsimp only
  unfold vrO
  by_cases c0 : b 7 0 = 0
  · obtain ⟨s0, d0, z0⟩ := C.dc W (r := 0) (by omega) (gr_h0 g)
    have := d0.lt 1 (by have := (W.n4 (r := 0) (by omega) (gr_h0 g)).1; omega)
    rw [if_pos (show nI (b 7 0) = (0 : Int32) by rw [c0]; rfl), if_pos c0, s_ver d, Option.bind_some]
    dsimp only
    rw [s_docOf (r := 0) (x := 0) rfl (by omega), Option.bind_some]
    dsimp only
    rw [if_pos (kB7 (r := 0) (by omega)), s_ver d0, Option.bind_some]
    dsimp only
    rw [nI_1]
    by_cases e : b 7 1 = b 0 1 + 1
    · rw [if_pos (by rw [e]), if_pos (decide_eq_true e)]
    · rw [if_neg (fun q => e ((nI_eq (by omega) (by omega)).mp q)), if_neg (by simpa using e)]
  rw [if_neg (show ¬ nI (b 7 0) = (0 : Int32) from nI_ne0 (by omega) (by omega)), if_neg c0]
  by_cases c1 : b 7 0 = 1
  · have n7 := stampF d.2.1 c1
    rw [if_pos (show nI (b 7 0) = (1 : Int32) by rw [c1]; rfl), if_pos c1, f_X3_isNoOlderStamp, s_docOf (r := 1) (x := 1) rfl (by omega), Option.bind_some]
    dsimp only
    rw [if_pos (kB7 (r := 1) (by omega)), s_whole C (r := 1) (by omega), Option.bind_some]
    dsimp only
    cases h1 : h 1
    · rfl
    · obtain ⟨s1, d1, z1⟩ := C.dc W (r := 1) (by omega) h1
      have n1 := stampF d1.2.1 z1
      have l1 := d1.lt 1 (by omega)
      have l4 := d1.lt 4 (by omega)
      have l74 := l7 4 (by omega)
      rw [if_pos rfl, if_neg (by decide), s_ver d, Option.bind_some]
      dsimp only
      rw [s_ver d1, Option.bind_some]
      dsimp only
      by_cases e1 : b 1 1 ≤ b 7 1
      · rw [if_neg (nI_nlt e1 (by omega)), f_X0_stampedVersion, s_byteD d (x := 4) (p := 4) (by omega) rfl, Option.bind_some, Option.bind_some]
        dsimp only
        rw [f_X0_stampedVersion, s_byteD d1 (x := 4) (p := 4) (by omega) rfl, Option.bind_some, Option.bind_some]
        dsimp only
        by_cases e2 : b 1 4 ≤ b 7 4
        · rw [if_neg (nI_nlt e2 (by omega)), Option.bind_some]; simp [e1, e2, bB]
        · rw [if_pos (nI_lt (by omega) (by omega)), Option.bind_some]; simp [e1, e2, bB]
      · rw [if_pos (nI_lt (by omega) (by omega)), Option.bind_some]; simp [e1, bB]
  rw [if_neg (show ¬ nI (b 7 0) = (1 : Int32) from fun q => c1 ((nI_eq (b := 1) (by omega) (by omega)).mp q)), if_neg c1]
  by_cases c2 : b 7 0 = 2
  · rw [c2] at g
    obtain ⟨s1, d1, z1⟩ := C.dc W (r := 1) (by omega) (gr_h1 g)
    have n1 := stampF d1.2.1 z1
    have l4 := d1.lt 4 (by omega)
    obtain ⟨x1, x2, x3⟩ := snapF d.2.1 c2
    rw [if_pos (show nI (b 7 0) = (2 : Int32) by rw [c2]; rfl), if_pos c2, f_X3_isAsStamped, s_docOf (r := 1) (x := 1) rfl (by omega), Option.bind_some]
    dsimp only
    rw [if_pos (kB7 (r := 1) (by omega)), s_ver d, Option.bind_some]
    dsimp only
    rw [f_X0_stampedVersion, s_byteD d1 (x := 4) (p := 4) (by omega) rfl, Option.bind_some, Option.bind_some]
    dsimp only
    by_cases e1 : b 7 1 = b 1 4
    · rw [if_pos (by rw [e1]), f_X0_row, Option.bind_some]
      dsimp only
      rw [if_pos (show kB (56 + 1) 1 = true by decide), s_digest d.1, Option.bind_some]
      dsimp only
      rw [f_X0_stampedDigest, show f_X1_wordAt (7 * 1 + 1) 5 M = some (wd (b 1) 5, M) from s_wordAt (p := 5) d1.1 (by omega), Option.bind_some, Option.bind_some]
      dsimp only
      by_cases e2 : mxO (b 7) (n 7) 0 = wd (b 1) 5
      · rw [if_pos e2, Option.bind_some]
        dsimp only
        rw [if_neg (by decide), f_X3_isNoOlderSnapshot, s_docOf (r := 2) (x := 2) rfl (by omega), Option.bind_some]
        dsimp only
        rw [if_pos (kB7 (r := 2) (by omega)), s_whole C (r := 2) (by omega), Option.bind_some]
        dsimp only
        cases h2 : h 2
        · simp [e1, e2]
        · obtain ⟨s2, d2, z2⟩ := C.dc W (r := 2) (by omega) h2
          have e := s_olderL d d2 c2 z2 (fun r => sv_lt _ (fun i hi => l7 _ (by omega))) (svT W D h2) 4 200 3 (by omega) (by omega)
          rw [if_pos rfl, if_neg (by decide), show fL_X3_isNoOlderSnapshot_17 200 56 (7 * 2) 3 M = _ from e, Option.bind_some]
          cases olO b 4 3 <;> simp [e1, e2]
      · rw [if_neg e2, Option.bind_some]; simp [e2]
    · rw [if_neg (fun q => e1 ((nI_eq (by omega) (by omega)).mp q)), Option.bind_some]; simp [e1]
  rw [if_neg (show ¬ nI (b 7 0) = (2 : Int32) from fun q => c2 ((nI_eq (b := 2) (by omega) (by omega)).mp q)), if_neg c2, s_ver d, Option.bind_some]
  dsimp only
  have h2 := gr_h2 (by omega) g
  obtain ⟨s2, d2, z2⟩ := C.dc W (r := 2) (by omega) h2
  have := svT W D h2 (b 7 0)
  rw [s_docOf (r := 2) (x := 2) rfl (by omega), Option.bind_some]
  dsimp only
  rw [if_pos (kB7 (r := 2) (by omega)), s_role d, Option.bind_some]
  dsimp only
  rw [s_verFor (isK7 (r := 2) (by omega)) d2 z2 (by omega) rfl, Option.bind_some]
  dsimp only
  by_cases e : b 7 1 = sv (b 2) (b 7 0) (b 2 4)
  · rw [if_pos ((vI_eq q71 (by omega) (by omega)).mpr e), if_pos (decide_eq_true e)]
  · rw [if_neg (fun q => e ((vI_eq q71 (by omega) (by omega)).mp q)), if_neg (by simpa using e)]
