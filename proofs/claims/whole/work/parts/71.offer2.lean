/-! offer: the reference's answers, and what is taken -/
def enO (b : Nat → Nat → Nat) (ck : Int32) : Bool := !decide (ck < nI (256 * b 7 2 + b 7 3))
def cdO (n : Nat → Nat) (b : Nat → Nat → Nat) (h : Nat → Bool) (ck : Int32) (s r : Nat) : Nat := if grO b h ck r = true then if sgnO b s r = true then if vrO n b h r = true then if r ≠ 0 ∧ enO b ck = true then 5 else 0 else 4 else 3 else 2
def chO (b : Nat → Nat → Nat) : Bool := !(skO (b 0) (b 7) (ksP (b 0) 1) (ksP (b 7) 1) && skO (b 0) (b 7) (ksP (b 0) 2) (ksP (b 7) 2))
def hC (b : Nat → Nat → Nat) (h : Nat → Bool) (r : Nat) : Nat → Bool := if r = 0 ∧ chO b = true then va_up (va_up h 1 false) 2 false else h
theorem cd2 {n : Nat → Nat} {b : Nat → Nat → Nat} {h : Nat → Bool} {ck : Int32} {s r : Nat} (g : ¬ grO b h ck r = true) : cdO n b h ck s r = 2 := by rw [cdO, if_neg g]
theorem cd3 {n : Nat → Nat} {b : Nat → Nat → Nat} {h : Nat → Bool} {ck : Int32} {s r : Nat} (g : grO b h ck r = true) (g2 : ¬ sgnO b s r = true) : cdO n b h ck s r = 3 := by rw [cdO, if_pos g, if_neg g2]
theorem cd4 {n : Nat → Nat} {b : Nat → Nat → Nat} {h : Nat → Bool} {ck : Int32} {s r : Nat} (g : grO b h ck r = true) (g2 : sgnO b s r = true) (g3 : ¬ vrO n b h r = true) : cdO n b h ck s r = 4 := by rw [cdO, if_pos g, if_pos g2, if_neg g3]
theorem cd5 {n : Nat → Nat} {b : Nat → Nat → Nat} {h : Nat → Bool} {ck : Int32} {s r : Nat} (g : grO b h ck r = true) (g2 : sgnO b s r = true) (g3 : vrO n b h r = true) (g4 : r ≠ 0 ∧ enO b ck = true) : cdO n b h ck s r = 5 := by rw [cdO, if_pos g, if_pos g2, if_pos g3, if_pos g4]
theorem cd0 {n : Nat → Nat} {b : Nat → Nat → Nat} {h : Nat → Bool} {ck : Int32} {s r : Nat} (g : grO b h ck r = true) (g2 : sgnO b s r = true) (g3 : vrO n b h r = true) (g4 : ¬ (r ≠ 0 ∧ enO b ck = true)) : cdO n b h ck s r = 0 := by rw [cdO, if_pos g, if_pos g2, if_pos g3, if_neg g4]
/-- the reference's own cells but for the work of reading -/
def KR (M M' : Me) : Prop := ∀ a, a < 73 ∨ a = 79 → M' a = M a
theorem FP.kr {M M' : Me} (f : FP M M') : KR M M' := fun a ha => f.row (by omega)
theorem KR.tr {M M1 M2 : Me} (h : KR M M1) (g : KR M1 M2) : KR M M2 := fun a c => (g a c).trans (h a c)
theorem KR.rf {M : Me} : KR M M := fun _ _ => rfl
theorem KR.u {M : Me} {k j : Nat} {v : Int32} (hk : ¬ (k < 73 ∨ k = 79)) : KR M (up M k j v) := fun a ha => up_row (fun q => hk (q ▸ ha))
theorem MInv.clear {M : Me} {n : Nat → Nat} {b : Nat → Nat → Nat} {h : Nat → Bool} {ck vs is : Int32} {q : Nat} (D : MInv M n b h ck vs is) : MInv (up M 76 q 0) n b (va_up h q false) ck vs is := by
  obtain ⟨h1, h2, h3, h4, h5⟩ := D
  refine ⟨fun t ht => ?_, fun r hr => ?_, by rw [up_k (by decide)]; exact h3, by rw [up_k (by decide)]; exact h4, by rw [up_k (by decide)]; exact h5⟩
  · obtain ⟨r1, r2, r3, r4⟩ := h1 t ht
    exact ⟨by rw [up_k (by decide)]; exact r1, r2, r3, fun i hi => by rw [up_k (by decide)]; exact r4 i hi⟩
  · by_cases e : r = q
    · subst e; rw [up_s]; simp only [va_up, if_pos]; rfl
    · rw [up_j e]; simp only [va_up, if_neg e]; exact h2 r hr
theorem CInv.clear {M : Me} {n : Nat → Nat} {b : Nat → Nat → Nat} {h : Nat → Bool} {ck vs is : Int32} {q : Nat} (hq : q < 7) (C : CInv M n b h ck vs is) : CInv (up M (7 * q) 8 0) n b (va_up h q false) ck vs is := by
  obtain ⟨h1, h2, ⟨nn, bb, h3⟩, h4, h5, h6, h7⟩ := C
  refine ⟨h1.keep (up_row (by omega)) (up_row (by omega)), h2.keep (up_row (by omega)) (up_row (by omega)), ⟨nn, bb, h3.keep (up_row (by omega)) (up_row (by omega))⟩, fun r hr => ?_, by rw [up_row (by omega)]; exact h5, by rw [up_row (by omega)]; exact h6, by rw [up_row (by omega)]; exact h7⟩
  by_cases e : r = q
  · subst e
    simp only [va_up, if_pos]
    exact ⟨by rw [up_s]; rfl, fun z => by cases z⟩
  · simp only [va_up, if_neg e]
    exact ⟨by rw [up_row (by omega)]; exact (h4 r hr).1, fun hh => ((h4 r hr).2 hh).keep (fun a g1 g2 => up_row (by omega))⟩
theorem has_eq {M : Me} {n : Nat → Nat} {b : Nat → Nat → Nat} {h : Nat → Bool} {ck vs is : Int32} (D : MInv M n b h ck vs is) {r : Nat} (hr : r < 7) : M 76 r = 0 ↔ h r = false := by
  rw [D.2.1 r hr]
  cases h r
  · exact ⟨fun _ => rfl, fun _ => rfl⟩
  · exact ⟨fun q => absurd q (by decide), fun q => by cases q⟩
theorem m_root {M : Me} {n : Nat → Nat} {b : Nat → Nat → Nat} {h : Nat → Bool} {ck vs is : Int32} {s : Nat} (D : MInv M n b h ck vs is) (W : WF n b h) (hd : pDoc (b 7) (n 7) = some (n 7)) (hs : pSig (b 7) (n 7) = some s) (h0 : b 7 0 = 0) : ∃ M', f_X5_offerRoot M = some (nI (cdO n b h ck s 0), M') ∧ KR M M' ∧ MInv M' n b (if cdO n b h ck s 0 = 0 then hC b h 0 else h) ck vs is := by
  have e1 : grO b h ck 0 = h 0 := by rw [grO, if_pos rfl]
  have e2 : sgnO b s 0 = (sgO (b 7) s (b 0) (ksP (b 0) 0) && sgO (b 7) s (b 7) (ksP (b 7) 0)) := by simp [sgnO]
  have e3 : vrO n b h 0 = decide (b 7 1 = b 0 1 + 1) := by rw [vrO, if_pos rfl]
  rw [f_X5_offerRoot]
  cases hh : h 0 with
  | false =>
    have c := cd2 (n := n) (s := s) (b := b) (h := h) (ck := ck) (r := 0) (by rw [e1, hh]; decide)
    rw [if_pos ((has_eq D (by omega)).mpr hh), c, if_neg (by decide)]
    exact ⟨M, rfl, KR.rf, D⟩
  | true =>
    have g1 : grO b h ck 0 = true := by rw [e1, hh]
    have K0 := rootF (W.n4 (r := 0) (by omega) hh).2.2.choose_spec (W 0 (by omega) hh).2
    have K7 := rootF hs h0
    obtain ⟨n0, -, -⟩ := W.n4 (r := 0) (by omega) hh
    obtain ⟨n7, -, -, -⟩ := pSig_some hs
    rw [if_neg (fun q => by rw [(has_eq D (by omega)).mp q] at hh; cases hh), m_keys (x := 0) (y := 0) (D.1 0 (by omega)) K0 (j := 0) (by omega) rfl rfl, Option.bind_some]
    dsimp only
    obtain ⟨M1, x1, f1⟩ := m_signed (x := 7) (by omega) (D.1 7 (by omega)) hd hs (D.1 0 (by omega)) (K0 0 (by omega)) rfl rfl
    have D1 := D.fp f1
    rw [x1, Option.bind_some]
    dsimp only
    cases q1 : sgO (b 7) s (b 0) (ksP (b 0) 0) with
    | false =>
      rw [if_pos (by decide), cd3 g1 (by rw [e2, q1]; simp), if_neg (by decide)]
      exact ⟨M1, rfl, f1.kr, D1⟩
    | true =>
      rw [if_pos rfl, if_neg (by decide), m_keys (x := 7) (y := 0) (D1.1 7 (by omega)) K7 (j := 0) (by omega) rfl rfl, Option.bind_some]
      dsimp only
      obtain ⟨M2, x2, f2⟩ := m_signed (x := 7) (by omega) (D1.1 7 (by omega)) hd hs (D1.1 7 (by omega)) (K7 0 (by omega)) rfl rfl
      have D2 := D1.fp f2
      rw [x2, Option.bind_some]
      dsimp only
      cases q2 : sgO (b 7) s (b 7) (ksP (b 7) 0) with
      | false =>
        rw [if_pos (by decide), cd3 g1 (by rw [e2, q1, q2]; simp), if_neg (by decide)]
        exact ⟨M2, rfl, (f1.tr f2).kr, D2⟩
      | true =>
        have g2 : sgnO b s 0 = true := by rw [e2, q1, q2]; rfl
        have l7 := ((D2.1 7 (by omega)).2.2.2 1 (by omega)).2
        have l0 := ((D2.1 0 (by omega)).2.2.2 1 (by omega)).2
        rw [if_pos rfl, if_neg (by decide), show f_X5_versionOf 7 M2 = _ from m_ver (D2.1 7 (by omega)) (by omega), Option.bind_some]
        dsimp only
        rw [show f_X5_versionOf 0 M2 = _ from m_ver (D2.1 0 (by omega)) (by omega), Option.bind_some]
        dsimp only
        rw [nI_1]
        by_cases e : b 7 1 = b 0 1 + 1
        · have c := cd0 (n := n) (h := h) (ck := ck) g1 g2 (by rw [e3]; exact decide_eq_true e) (fun z => z.1 rfl)
          rw [if_pos (by rw [e]), c, if_pos rfl, m_sameKeys (x := 1) (j := 1) (D2.1 0 (by omega)) (D2.1 7 (by omega)) K0 K7 (by omega) rfl, Option.bind_some]
          dsimp only
          have yes : chO b = true → ∃ M', some ((0 : Int32), up (up M2 76 1 0) 76 2 0) = some (nI 0, M') ∧ KR M M' ∧ MInv M' n b (hC b h 0) ck vs is := fun z => by
            rw [hC, if_pos ⟨rfl, z⟩]
            exact ⟨_, rfl, ((f1.tr f2).kr.tr (KR.u (by decide))).tr (KR.u (by decide)), D2.clear.clear⟩
          cases k1 : skO (b 0) (b 7) (ksP (b 0) 1) (ksP (b 7) 1) with
          | false => rw [if_pos (by decide)]; exact yes (by rw [chO, k1]; rfl)
          | true =>
            rw [if_pos rfl, if_neg (by decide), m_sameKeys (x := 2) (j := 2) (D2.1 0 (by omega)) (D2.1 7 (by omega)) K0 K7 (by omega) rfl, Option.bind_some]
            dsimp only
            cases k2 : skO (b 0) (b 7) (ksP (b 0) 2) (ksP (b 7) 2) with
            | false => rw [if_pos (by decide)]; exact yes (by rw [chO, k1, k2]; rfl)
            | true =>
              rw [if_pos rfl, if_neg (by decide), hC, if_neg (by rw [chO, k1, k2]; simp)]
              exact ⟨M2, rfl, (f1.tr f2).kr, D2⟩
        · rw [if_neg (fun q => e ((nI_eq (by omega) (by omega)).mp q)), cd4 g1 g2 (by rw [e3]; simpa using e), if_neg (by decide)]
          exact ⟨M2, rfl, (f1.tr f2).kr, D2⟩
theorem m_over7 {M : Me} {n : Nat → Nat} {b : Nat → Nat → Nat} {h : Nat → Bool} {ck vs is : Int32} (D : MInv M n b h ck vs is) (hn : 4 ≤ n 7) : f_X5_isOver 7 M = some (if enO b ck = true then 1 else 0, M) := by
  have e := m_over (D.1 7 (by omega)) (by omega)
  rw [D.2.2.1] at e
  rw [show f_X5_isOver 7 M = _ from e, enO]
  by_cases c : ck < nI (256 * b 7 2 + b 7 3)
  · rw [if_pos c, if_neg (by simp [c])]
  · rw [if_neg c, if_pos (by simp [c])]
theorem m_stamp {M : Me} {n : Nat → Nat} {b : Nat → Nat → Nat} {h : Nat → Bool} {ck vs is : Int32} {s : Nat} (D : MInv M n b h ck vs is) (W : WF n b h) (hd : pDoc (b 7) (n 7) = some (n 7)) (hs : pSig (b 7) (n 7) = some s) (h0 : b 7 0 = 1) : ∃ M', f_X5_offerStamp M = some (nI (cdO n b h ck s 1), M') ∧ FP M M' := by
  have e1 : grO b h ck 1 = st b h ck 0 := by rw [grO, if_neg (by decide), if_pos rfl]
  have e2 : sgnO b s 1 = sgO (b 7) s (b 0) (ksP (b 0) 1) := by simp [sgnO]
  have e3 : vrO n b h 1 = (!h 1 || (decide (b 1 1 ≤ b 7 1) && decide (b 1 4 ≤ b 7 4))) := by rw [vrO, if_neg (by decide), if_pos rfl]
  have n7 := stampF hs h0
  rw [f_X5_offerStamp, show f_X5_stands 0 M = _ from m_stands D W (r := 0) (by omega) rfl, Option.bind_some]
  dsimp only
  cases q0 : st b h ck 0 with
  | false =>
    rw [if_pos (by decide), cd2 (by rw [e1, q0]; simp)]
    exact ⟨M, rfl, fun _ _ _ => rfl⟩
  | true =>
    have g1 : grO b h ck 1 = true := by rw [e1, q0]
    have hh := st_h q0
    have K0 := rootF (W.n4 (r := 0) (by omega) hh).2.2.choose_spec (W 0 (by omega) hh).2
    rw [if_pos rfl, if_neg (by decide), m_keys (x := 0) (y := 1) (D.1 0 (by omega)) K0 (j := 1) (by omega) rfl rfl, Option.bind_some]
    dsimp only
    obtain ⟨M1, x1, f1⟩ := m_signed (x := 7) (by omega) (D.1 7 (by omega)) hd hs (D.1 0 (by omega)) (K0 1 (by omega)) rfl rfl
    have D1 := D.fp f1
    rw [x1, Option.bind_some]
    dsimp only
    cases q1 : sgO (b 7) s (b 0) (ksP (b 0) 1) with
    | false =>
      rw [if_pos (by decide), cd3 g1 (by rw [e2, q1]; simp)]
      exact ⟨M1, rfl, f1⟩
    | true =>
      have g2 : sgnO b s 1 = true := by rw [e2, q1]
      rw [if_pos rfl, if_neg (by decide)]
      have fin : vrO n b h 1 = true → ∃ M', ((f_X5_isOver 7 M1).bind fun q4 => if q4.1 = 0 then some ((0 : Int32), q4.2) else some (5, q4.2)) = some (nI (cdO n b h ck s 1), M') ∧ FP M M' := fun g3 => by
        rw [m_over7 D1 (by omega), Option.bind_some]
        dsimp only
        by_cases z : enO b ck = true
        · rw [if_pos z, if_neg (by decide), cd5 g1 g2 g3 ⟨by decide, z⟩]; exact ⟨M1, rfl, f1⟩
        · rw [if_neg z, if_pos rfl, cd0 g1 g2 g3 (fun q => z q.2)]; exact ⟨M1, rfl, f1⟩
      cases h1 : h 1 with
      | false => rw [if_pos ((has_eq D1 (by omega)).mpr h1)]; exact fin (by rw [e3, h1]; rfl)
      | true =>
        have n1 := stampF (W.n4 (r := 1) (by omega) h1).2.2.choose_spec (W 1 (by omega) h1).2
        have l7 := ((D1.1 7 (by omega)).2.2.2 1 (by omega)).2
        have l1 := ((D1.1 1 (by omega)).2.2.2 1 (by omega)).2
        obtain ⟨v7, l74⟩ := (D1.1 7 (by omega)).2.2.2 4 (by omega)
        obtain ⟨v1, l14⟩ := (D1.1 1 (by omega)).2.2.2 4 (by omega)
        rw [if_neg (fun q => by rw [(has_eq D1 (by omega)).mp q] at h1; cases h1), show f_X5_versionOf 7 M1 = _ from m_ver (D1.1 7 (by omega)) (by omega), Option.bind_some]
        dsimp only
        rw [show f_X5_versionOf 1 M1 = _ from m_ver (D1.1 1 (by omega)) (by omega), Option.bind_some]
        dsimp only
        by_cases a1 : b 1 1 ≤ b 7 1
        · rw [if_neg (nI_nlt a1 (by omega))]
          by_cases a2 : b 1 4 ≤ b 7 4
          · rw [if_pos (show M1 74 124 ≤ M1 74 844 by rw [show M1 74 124 = nI (b 1 4) from v1, show M1 74 844 = nI (b 7 4) from v7]; exact nI_le a2 (by omega))]
            exact fin (by rw [e3]; simp [a1, a2])
          · rw [if_neg (show ¬ M1 74 124 ≤ M1 74 844 by rw [show M1 74 124 = nI (b 1 4) from v1, show M1 74 844 = nI (b 7 4) from v7]; exact nI_ge (by omega) (by omega)), cd4 g1 g2 (by rw [e3, h1]; simp [a2])]
            exact ⟨M1, rfl, f1⟩
        · rw [if_pos (nI_lt (by omega) (by omega)), cd4 g1 g2 (by rw [e3, h1]; simp [a1])]
          exact ⟨M1, rfl, f1⟩
theorem m_olderL {M : Me} {n : Nat → Nat} {b : Nat → Nat → Nat} {h : Nat → Bool} {ck vs is : Int32} (D : MInv M n b h ck vs is) (h2 : h 2 = true) (hn : 4 ≤ n 7) (x1 : b 7 4 ≤ 4) (x2 : 5 + 2 * b 7 4 ≤ n 7) (y1 : b 2 4 ≤ 4) (y2 : 5 + 2 * b 2 4 ≤ n 2) : ∀ (c fuel r : Nat), c < fuel → r + c = 7 → fL_X5_offerSnapshot_79 fuel (nI r) M = some (if olO b c r = true then (if enO b ck = true then 5 else 0) else 4, M) := by
  intro c
  induction c with
  | zero =>
    intro fuel r hf hr
    obtain ⟨f, rfl⟩ : ∃ f, fuel = f + 1 := ⟨fuel - 1, by omega⟩
    rw [fL_X5_offerSnapshot_79, if_pos (show (7 : Int32) ≤ nI r from nI_le (a := 7) (by omega) (by omega)), olO, if_pos rfl, m_over7 D hn, Option.bind_some]
    cases enO b ck <;> rfl
  | succ c ih =>
    intro fuel r hf hr
    obtain ⟨f, rfl⟩ : ∃ f, fuel = f + 1 := ⟨fuel - 1, by omega⟩
    have l7 : sv (b 7) r (b 7 4) < 256 := sv_lt _ (fun i hi => ((D.1 7 (by omega)).2.2.2 _ (by omega)).2)
    have l2 : sv (b 2) r (b 2 4) < 256 := sv_lt _ (fun i hi => ((D.1 2 (by omega)).2.2.2 _ (by omega)).2)
    rw [fL_X5_offerSnapshot_79, if_neg (show ¬ (7 : Int32) ≤ nI r from nI_ge (b := 7) (by omega) (by omega)), if_neg (fun q => by rw [(has_eq D (by omega)).mp q] at h2; cases h2), m_said (x := 7) (D.1 7 (by omega)) x1 x2 (by omega) rfl rfl, Option.bind_some]
    dsimp only
    rw [m_said (x := 2) (D.1 2 (by omega)) y1 y2 (by omega) rfl rfl, Option.bind_some]
    dsimp only
    by_cases e : sv (b 2) r (b 2 4) ≤ sv (b 7) r (b 7 4)
    · rw [if_pos (nI_le e (by omega)), olO_t e, nI_1]
      exact ih f (r + 1) (by omega) (by omega)
    · rw [if_neg (nI_ge (by omega) (by omega)), olO_f e, if_neg (by decide)]
theorem m_snap {M : Me} {n : Nat → Nat} {b : Nat → Nat → Nat} {h : Nat → Bool} {ck vs is : Int32} {s : Nat} (D : MInv M n b h ck vs is) (W : WF n b h) (hd : pDoc (b 7) (n 7) = some (n 7)) (hs : pSig (b 7) (n 7) = some s) (h0 : b 7 0 = 2) : ∃ M', f_X5_offerSnapshot M = some (nI (cdO n b h ck s 2), M') ∧ FP M M' := by
  have e1 : grO b h ck 2 = (st b h ck 0 && st b h ck 1) := by rw [grO, if_neg (by decide), if_neg (by decide), if_pos rfl]
  have e2 : sgnO b s 2 = sgO (b 7) s (b 0) (ksP (b 0) 2) := by simp [sgnO]
  have e3 : vrO n b h 2 = (decide (b 7 1 = b 1 4) && decide (mxO (b 7) (n 7) 0 = wd (b 1) 5) && (!h 2 || olO b 4 3)) := by rw [vrO, if_neg (by decide), if_neg (by decide), if_pos rfl]
  obtain ⟨x1, x2, -⟩ := snapF hs h0
  rw [f_X5_offerSnapshot, show f_X5_stands 0 M = _ from m_stands D W (r := 0) (by omega) rfl, Option.bind_some]
  dsimp only
  cases q0 : st b h ck 0 with
  | false =>
    rw [if_pos (by decide), cd2 (by rw [e1, q0]; simp)]
    exact ⟨M, rfl, fun _ _ _ => rfl⟩
  | true =>
  rw [if_pos rfl, if_neg (by decide), show f_X5_stands 1 M = _ from m_stands D W (r := 1) (by omega) rfl, Option.bind_some]
  dsimp only
  cases q1 : st b h ck 1 with
  | false =>
    rw [if_pos (by decide), cd2 (by rw [e1, q0, q1]; decide)]
    exact ⟨M, rfl, fun _ _ _ => rfl⟩
  | true =>
    have g1 : grO b h ck 2 = true := by rw [e1, q0, q1]; rfl
    have hh := st_h q0
    have h1 := st_h q1
    have n1 := stampF (W.n4 (r := 1) (by omega) h1).2.2.choose_spec (W 1 (by omega) h1).2
    have K0 := rootF (W.n4 (r := 0) (by omega) hh).2.2.choose_spec (W 0 (by omega) hh).2
    rw [if_pos rfl, if_neg (by decide), m_keys (x := 0) (y := 2) (D.1 0 (by omega)) K0 (j := 2) (by omega) rfl rfl, Option.bind_some]
    dsimp only
    obtain ⟨M1, x1', f1⟩ := m_signed (x := 7) (by omega) (D.1 7 (by omega)) hd hs (D.1 0 (by omega)) (K0 2 (by omega)) rfl rfl
    have D1 := D.fp f1
    rw [x1', Option.bind_some]
    dsimp only
    cases q2 : sgO (b 7) s (b 0) (ksP (b 0) 2) with
    | false =>
      rw [if_pos (by decide), cd3 g1 (by rw [e2, q2]; simp)]
      exact ⟨M1, rfl, f1⟩
    | true =>
      have g2 : sgnO b s 2 = true := by rw [e2, q2]
      obtain ⟨v1, l14⟩ := (D1.1 1 (by omega)).2.2.2 4 (by omega)
      have l7 := ((D1.1 7 (by omega)).2.2.2 1 (by omega)).2
      rw [if_pos rfl, if_neg (by decide), show f_X5_versionOf 7 M1 = _ from m_ver (D1.1 7 (by omega)) (by omega), Option.bind_some]
      dsimp only
      by_cases a1 : b 7 1 = b 1 4
      · rw [if_pos (by rw [show M1 74 124 = nI (b 1 4) from v1, a1]), m_mix (t := 7) (x := 840) (y := M1 75 7) (D1.1 7 (by omega)) (Nat.le_refl _) 0 rfl (D1.1 7 (by omega)).1, Option.bind_some]
        dsimp only
        rw [m_wordAt (t := 1) (p := 5) (x := 125) (D1.1 1 (by omega)) rfl (by omega), Option.bind_some]
        dsimp only
        by_cases a2 : mxO (b 7) (n 7) 0 = wd (b 1) 5
        · rw [if_pos a2]
          cases h2 : h 2 with
          | false =>
            have g3 : vrO n b h 2 = true := by rw [e3, h2]; simp [a1, a2]
            rw [show (3 : Int32) = nI 3 from rfl, fL_X5_offerSnapshot_79, if_neg (show ¬ (7 : Int32) ≤ nI 3 by decide), if_pos ((has_eq D1 (by omega)).mpr h2), m_over7 D1 (by omega), Option.bind_some]
            dsimp only
            by_cases z : enO b ck = true
            · rw [if_pos z, if_neg (by decide), cd5 g1 g2 g3 ⟨by decide, z⟩]; exact ⟨M1, rfl, f1⟩
            · rw [if_neg z, if_pos rfl, cd0 g1 g2 g3 (fun q => z q.2)]; exact ⟨M1, rfl, f1⟩
          | true =>
            obtain ⟨y1, y2, -, -⟩ := snap_lt W h2
            have e := m_olderL D1 h2 (by omega) x1 x2 y1 y2 4 200 3 (by omega) (by omega)
            rw [show fL_X5_offerSnapshot_79 200 3 M1 = _ from e]
            cases oo : olO b 4 3 with
            | false => rw [if_neg (by decide), cd4 g1 g2 (by rw [e3, h2, oo]; simp)]; exact ⟨M1, rfl, f1⟩
            | true =>
              have g3 : vrO n b h 2 = true := by rw [e3, h2, oo]; simp [a1, a2]
              rw [if_pos rfl]
              by_cases z : enO b ck = true
              · rw [if_pos z, cd5 g1 g2 g3 ⟨by decide, z⟩]; exact ⟨M1, rfl, f1⟩
              · rw [if_neg z, cd0 g1 g2 g3 (fun q => z q.2)]; exact ⟨M1, rfl, f1⟩
        · rw [if_neg a2, cd4 g1 g2 (by rw [e3]; simp [a2])]; exact ⟨M1, rfl, f1⟩
      · rw [if_neg (by rw [show M1 74 124 = nI (b 1 4) from v1]; exact fun q => a1 ((nI_eq (by omega) (by omega)).mp q)), cd4 g1 g2 (by rw [e3]; simp [a1])]; exact ⟨M1, rfl, f1⟩
theorem m_tgts {M : Me} {n : Nat → Nat} {b : Nat → Nat → Nat} {h : Nat → Bool} {ck vs is : Int32} {s r : Nat} (D : MInv M n b h ck vs is) (W : WF n b h) (hd : pDoc (b 7) (n 7) = some (n 7)) (hs : pSig (b 7) (n 7) = some s) (hr : 3 ≤ r) (hr7 : r < 7) : ∃ M', f_X5_offerTargets (nI r) M = some (nI (cdO n b h ck s r), M') ∧ FP M M' := by
  have e1 : grO b h ck r = (st b h ck 0 && st b h ck 2 && decide (sv (b 2) r (b 2 4) ≠ 0)) := by rw [grO, if_neg (by omega), if_neg (by omega), if_neg (by omega)]
  have e3 : vrO n b h r = decide (b 7 1 = sv (b 2) r (b 2 4)) := by rw [vrO, if_neg (by omega), if_neg (by omega), if_neg (by omega)]
  obtain ⟨n7, -, -, -⟩ := pSig_some hs
  rw [f_X5_offerTargets, show f_X5_stands 0 M = _ from m_stands D W (r := 0) (by omega) rfl, Option.bind_some]
  dsimp only
  cases q0 : st b h ck 0 with
  | false =>
    rw [if_pos (by decide), cd2 (by rw [e1, q0]; simp)]
    exact ⟨M, rfl, fun _ _ _ => rfl⟩
  | true =>
  rw [if_pos rfl, if_neg (by decide), show f_X5_stands 2 M = _ from m_stands D W (r := 2) (by omega) rfl, Option.bind_some]
  dsimp only
  cases q1 : st b h ck 2 with
  | false =>
    rw [if_pos (by decide), cd2 (by rw [e1, q0, q1]; simp)]
    exact ⟨M, rfl, fun _ _ _ => rfl⟩
  | true =>
    have hh := st_h q0
    have h2 := st_h q1
    obtain ⟨y1, y2, -, -⟩ := snap_lt W h2
    have lv := svT W D h2 r
    have K0 := rootF (W.n4 (r := 0) (by omega) hh).2.2.choose_spec (W 0 (by omega) hh).2
    rw [if_pos rfl, if_neg (by decide), m_said (x := 2) (D.1 2 (by omega)) y1 y2 hr7 rfl rfl, Option.bind_some]
    dsimp only
    by_cases v : sv (b 2) r (b 2 4) = 0
    · rw [if_pos (by rw [v]; rfl), cd2 (by rw [e1]; simp [v])]
      exact ⟨M, rfl, fun _ _ _ => rfl⟩
    have g1 : grO b h ck r = true := by rw [e1, q0, q1]; simp [v]
    rw [if_neg (nI_ne0 (by omega) (by omega))]
    -- once signed
    have fin : ∀ M1 : Me, FP M M1 → sgnO b s r = true → ∃ M', ((f_X5_versionOf 7 M1).bind fun q4 => ((f_X5_said 2 (nI r) q4.2).bind fun q5 => if q4.1 = q5.1 then ((f_X5_isOver 7 q5.2).bind fun q6 => if q6.1 = 0 then some ((0 : Int32), q6.2) else some (5, q6.2)) else some (4, q5.2))) = some (nI (cdO n b h ck s r), M') ∧ FP M M' := by
      intro M1 f1 g2
      have D1 := D.fp f1
      have l7 := ((D1.1 7 (by omega)).2.2.2 1 (by omega)).2
      rw [show f_X5_versionOf 7 M1 = _ from m_ver (D1.1 7 (by omega)) (by omega), Option.bind_some]
      dsimp only
      rw [m_said (x := 2) (D1.1 2 (by omega)) y1 y2 hr7 rfl rfl, Option.bind_some]
      dsimp only
      by_cases a1 : b 7 1 = sv (b 2) r (b 2 4)
      · have g3 : vrO n b h r = true := by rw [e3]; exact decide_eq_true a1
        rw [if_pos (by rw [a1]), m_over7 D1 (by omega), Option.bind_some]
        dsimp only
        by_cases z : enO b ck = true
        · rw [if_pos z, if_neg (by decide), cd5 g1 g2 g3 ⟨by omega, z⟩]; exact ⟨M1, rfl, f1⟩
        · rw [if_neg z, if_pos rfl, cd0 g1 g2 g3 (fun q => z q.2)]; exact ⟨M1, rfl, f1⟩
      · rw [if_neg (fun q => a1 ((nI_eq (by omega) (by omega)).mp q)), cd4 g1 g2 (by rw [e3]; simpa using a1)]; exact ⟨M1, rfl, f1⟩
    by_cases c3 : r = 3
    · have e2 : sgnO b s r = sgO (b 7) s (b 0) (ksP (b 0) 3) := by rw [c3]; simp [sgnO]
      rw [if_pos (by rw [c3]; rfl), m_keys (x := 0) (y := 3) (D.1 0 (by omega)) K0 (j := 3) (by omega) rfl rfl, Option.bind_some]
      dsimp only
      obtain ⟨M1, x1', f1⟩ := m_signed (x := 7) (by omega) (D.1 7 (by omega)) hd hs (D.1 0 (by omega)) (K0 3 (by omega)) rfl rfl
      rw [x1', Option.bind_some]
      dsimp only
      cases q2 : sgO (b 7) s (b 0) (ksP (b 0) 3) with
      | false =>
        rw [if_pos (by decide), cd3 g1 (by rw [e2, q2]; simp)]
        exact ⟨M1, rfl, f1⟩
      | true =>
        rw [if_pos rfl, if_neg (by decide)]
        exact fin M1 f1 (by rw [e2, q2])
    · rw [if_neg (show ¬ nI r = (3 : Int32) from fun q => c3 ((nI_eq (b := 3) (by omega) (by omega)).mp q))]
      exact fin M (fun _ _ _ => rfl) (by simp [sgnO, show ¬ r < 4 by omega])
