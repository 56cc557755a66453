theorem hC_n {b : Nat → Nat → Nat} {h : Nat → Bool} {r : Nat} (hr : r ≠ 0) : hC b h r = h := by rw [hC, if_neg (fun q => hr q.1)]
theorem s_take {M : Me} {n : Nat → Nat} {b : Nat → Nat → Nat} {h : Nat → Bool} {ck vs is : Int32} {s : Nat} (C : CInv M n b h ck vs is) (W : WF n b h) (d : Dc M 56 (n 7) (b 7) s) (h0 : h 0 = true) : ∃ M', f_X3_take 56 M = some (0, M') ∧ CInv M' (va_up n (b 7 0) (n 7)) (va_up b (b 7 0) (b 7)) (va_up (hC b h (b 7 0)) (b 7 0) true) ck vs is ∧ (∀ a, 49 ≤ a → M' a = M a) := by
  have g0 := (pSig_some d.2.1).2.1
  have rdl : ∀ (Ma : Me) (h' : Nat → Bool), CInv Ma n b h' ck vs is → (∀ a, 49 ≤ a → Ma a = M a) → ∃ M', ((f_X0_role 56 Ma).bind fun q2 => ((f_X3_documentOf q2.1 q2.2).bind fun q3 => if kB q3.1 0 = true then ((f_X0_row 56 q3.2).bind fun q4 => if kB q4.1 1 = true then ((f_X0_read q3.1 q4.1 q4.2).bind fun q5 => some ((0 : Int32), q5.2)) else none) else none)) = some (0, M') ∧ CInv M' (va_up n (b 7 0) (n 7)) (va_up b (b 7 0) (b 7)) (va_up h' (b 7 0) true) ck vs is ∧ (∀ a, 49 ≤ a → M' a = M a) := by
    intro Ma h' Ca ka
    obtain ⟨M1, e1, C1, f1⟩ := s_put Ca (d.1.keep (ka _ (by omega)) (ka _ (by omega))) d.2.2.1 (r := b 7 0) (by omega)
    refine ⟨M1, ?_, C1, fun a ha => by rw [f1 a (by omega), ka a ha]⟩
    rw [f_X0_role, ka 56 (by omega), d.2.2.2.2.2.2.1.1, Option.bind_some]
    dsimp only
    rw [s_docOf rfl (by omega), Option.bind_some]
    dsimp only
    rw [if_pos (kB7 (by omega)), f_X0_row, Option.bind_some]
    dsimp only
    rw [if_pos (show kB (56 + 1) 1 = true by decide), e1, Option.bind_some]
  rw [f_X3_take, s_role d, Option.bind_some]
  dsimp only
  by_cases c0 : b 7 0 = 0
  · obtain ⟨s0, d0, z0⟩ := C.dc W (r := 0) (by omega) h0
    have e1 : f_X0_hasKeySetOf (7 * 0) 56 1 M = some (if skO (b 0) (b 7) (ksP (b 0) 1) (ksP (b 7) 1) = true then 1 else 0, M) := s_hasKeys (isK7 (r := 0) (by omega)) d0 z0 k56 d c0 (j := 1) (by omega) rfl
    have e2 : f_X0_hasKeySetOf (7 * 0) 56 2 M = some (if skO (b 0) (b 7) (ksP (b 0) 2) (ksP (b 7) 2) = true then 1 else 0, M) := s_hasKeys (isK7 (r := 0) (by omega)) d0 z0 k56 d c0 (j := 2) (by omega) rfl
    have ec : f_X3_changesOnlineKeys 56 M = some (if chO b = true then 1 else 0, M) := by
      rw [f_X3_changesOnlineKeys, s_docOf (r := 0) (x := 0) rfl (by omega), Option.bind_some]
      dsimp only
      rw [if_pos (kB7 (r := 0) (by omega)), e1, Option.bind_some]
      dsimp only
      unfold chO
      cases k1 : skO (b 0) (b 7) (ksP (b 0) 1) (ksP (b 7) 1)
      · rfl
      · rw [if_pos rfl, if_neg (by decide), e2, Option.bind_some]
        cases k2 : skO (b 0) (b 7) (ksP (b 0) 2) (ksP (b 7) 2) <;> rfl
    rw [if_pos (by rw [c0]; rfl), ec, Option.bind_some]
    dsimp only
    cases hc : chO b with
    | false =>
      rw [if_pos (by decide), hC, if_neg (fun q => by rw [hc] at q; cases q.2)]
      exact rdl M h C (fun _ _ => rfl)
    | true =>
      rw [if_pos rfl, if_neg (by decide), hC, if_pos ⟨c0, hc⟩, s_docOf (r := 1) (x := 1) rfl (by omega), Option.bind_some]
      dsimp only
      rw [if_pos (kB7 (r := 1) (by omega)), f_X0_clear, Option.bind_some]
      dsimp only
      rw [s_docOf (r := 2) (x := 2) rfl (by omega), Option.bind_some]
      dsimp only
      rw [if_pos (kB7 (r := 2) (by omega)), f_X0_clear, Option.bind_some]
      exact rdl (up (up M (7 * 1) 8 0) (7 * 2) 8 0) _ ((C.clear (q := 1) (by omega)).clear (q := 2) (by omega)) (fun a ha => by rw [up_row (by omega), up_row (by omega)])
  · rw [if_neg (nI_ne0 (by omega) (by omega)), hC_n c0]
    exact rdl M h C (fun _ _ => rfl)
theorem m_offer {M : Me} {n : Nat → Nat} {b : Nat → Nat → Nat} {h : Nat → Bool} {ck vs is : Int32} {s r : Nat} (D : MInv M n b h ck vs is) (W : WF n b h) (hd : pDoc (b 7) (n 7) = some (n 7)) (hs : pSig (b 7) (n 7) = some s) (hr : b 7 0 = r) : ∃ M', f_X5_offer M = some (if cdO n b h ck s r = 0 then nI r else 0, M') ∧ M' 73 0 = nI (cdO n b h ck s r) ∧ KR M M' ∧ MInv M' (if cdO n b h ck s r = 0 then va_up n r (n 7) else n) (if cdO n b h ck s r = 0 then va_up b r (b 7) else b) (if cdO n b h ck s r = 0 then va_up (hC b h r) r true else h) ck vs is := by
  obtain ⟨n4, g0, -, -⟩ := pSig_some hs
  obtain ⟨M1, e1, f1, -⟩ := ms_doc (t := 7) (by omega) (D.1 7 (by omega))
  rw [if_pos hd] at e1
  have D1 := (D.fp f1).thrown (v := 0)
  have k1 : KR M (up M1 73 0 0) := f1.kr.tr (KR.u (by decide))
  have role : up M1 73 0 0 74 840 = nI r := by rw [← hr]; exact ((D1.1 7 (by omega)).2.2.2 0 (by omega)).1
  have c5 : cdO n b h ck s r ≤ 5 := by unfold cdO; repeat' split
                                       all_goals omega
  have fin : ∀ M2 : Me, KR M M2 → MInv M2 n b (if cdO n b h ck s r = 0 then hC b h r else h) ck vs is → ∃ M', (if nI (cdO n b h ck s r) ≤ 0 then ((f_X5_trust (nI r) (up M2 73 0 (nI (cdO n b h ck s r)))).bind fun q10 => some (nI r, q10.2)) else some (0, up M2 73 0 (nI (cdO n b h ck s r)))) = some (if cdO n b h ck s r = 0 then nI r else 0, M') ∧ M' 73 0 = nI (cdO n b h ck s r) ∧ KR M M' ∧ MInv M' (if cdO n b h ck s r = 0 then va_up n r (n 7) else n) (if cdO n b h ck s r = 0 then va_up b r (b 7) else b) (if cdO n b h ck s r = 0 then va_up (hC b h r) r true else h) ck vs is := by
    intro M2 k2 D2
    by_cases c : cdO n b h ck s r = 0
    · rw [if_pos c] at D2
      simp only [if_pos c]
      rw [c]
      obtain ⟨M3, e3, D3, k3⟩ := m_trust (D2.thrown (v := nI 0)) (r := r) (by omega) rfl
      refine ⟨M3, ?_, by rw [k3 73 (by omega), up_s], fun a ha => by rw [k3 a (by omega), up_row (by omega), k2 a ha], D3⟩
      rw [if_pos (by decide), e3, Option.bind_some]
    · rw [if_neg c] at D2
      simp only [if_neg c]
      refine ⟨_, ?_, up_s, k2.tr (KR.u (by decide)), D2.thrown⟩
      rw [if_neg (nI_nle (by omega) (by omega))]
  rw [f_X5_offer, show f_X5_isDocument 7 M = some (1, M1) from e1, Option.bind_some]
  dsimp only
  rw [if_neg (by decide), f_X5_roleOfDraft, role, Option.bind_some]
  dsimp only
  by_cases c0 : r = 0
  · obtain ⟨M2, e2, k2, D2⟩ := m_root D1 W hd hs (by rw [hr, c0])
    rw [if_pos (by rw [c0]; rfl), e2, Option.bind_some]
    subst c0
    exact fin M2 (k1.tr k2) D2
  rw [if_neg (nI_ne0 (by omega) (by omega))]
  have fin' : ∀ M2 : Me, FP (up M1 73 0 0) M2 → ∃ M', (if nI (cdO n b h ck s r) ≤ 0 then ((f_X5_trust (nI r) (up M2 73 0 (nI (cdO n b h ck s r)))).bind fun q10 => some (nI r, q10.2)) else some (0, up M2 73 0 (nI (cdO n b h ck s r)))) = some (if cdO n b h ck s r = 0 then nI r else 0, M') ∧ M' 73 0 = nI (cdO n b h ck s r) ∧ KR M M' ∧ MInv M' (if cdO n b h ck s r = 0 then va_up n r (n 7) else n) (if cdO n b h ck s r = 0 then va_up b r (b 7) else b) (if cdO n b h ck s r = 0 then va_up (hC b h r) r true else h) ck vs is := fun M2 f2 => fin M2 (k1.tr f2.kr) (by
      rw [hC_n c0, ite_self]; exact D1.fp f2)
  by_cases c1 : r = 1
  · obtain ⟨M2, e2, f2⟩ := m_stamp D1 W hd hs (by rw [hr, c1])
    rw [if_pos (by rw [c1]; rfl), e2, Option.bind_some]
    subst c1
    exact fin' M2 f2
  rw [if_neg (show ¬ nI r = (1 : Int32) from fun q => c1 ((nI_eq (b := 1) (by omega) (by omega)).mp q))]
  by_cases c2 : r = 2
  · obtain ⟨M2, e2, f2⟩ := m_snap D1 W hd hs (by rw [hr, c2])
    rw [if_pos (by rw [c2]; rfl), e2, Option.bind_some]
    subst c2
    exact fin' M2 f2
  rw [if_neg (show ¬ nI r = (2 : Int32) from fun q => c2 ((nI_eq (b := 2) (by omega) (by omega)).mp q))]
  obtain ⟨M2, e2, f2⟩ := m_tgts D1 W hd hs (r := r) (by omega) (by omega)
  rw [e2, Option.bind_some]
  exact fin' M2 f2
theorem WF_hC {n : Nat → Nat} {b : Nat → Nat → Nat} {h : Nat → Bool} (W : WF n b h) (r : Nat) : WF n b (hC b h r) := by
  intro q hq hh
  refine W q hq ?_
  unfold hC at hh
  by_cases c : r = 0 ∧ chO b = true
  · rw [if_pos c] at hh
    simp only [va_up] at hh
    by_cases e2 : q = 2
    · rw [if_pos e2] at hh; cases hh
    · rw [if_neg e2] at hh
      by_cases e1 : q = 1
      · rw [if_pos e1] at hh; cases hh
      · rw [if_neg e1] at hh; exact hh
  · rw [if_neg c] at hh; exact hh
theorem offer_ok : OkB f_L_offer f_X5_offer := by
  rintro M ⟨n, b, h, ck, vs, is, W, C, D⟩
  obtain ⟨M1, e1, r1, f1, C1, k1⟩ := s_readD C
  have D1 : MInv M1 n b h ck vs is := D.km k1
  by_cases hd : pDoc (b 7) (n 7) = some (n 7)
  · obtain ⟨s, d⟩ := r1.dc hd
    have g0 := (pSig_some d.2.1).2.1
    have hc : f_X4_offer M = ((f_X3_hasGroundFor (nI (b 7 0)) M1).bind fun q4 => if q4.1 = 0 then some ((1, 0), q4.2) else ((f_X3_findsSigned 56 q4.2).bind fun q5 => if q5.1 = 0 then some ((3, 0), q5.2) else ((f_X3_findsVersionsRight 56 q5.2).bind fun q6 => if q6.1 = 0 then some ((4, 0), q6.2) else ((f_X0_role 56 q6.2).bind fun q7 => if q7.1 = 0 then ((f_X3_take 56 q7.2).bind fun q8 => ((f_X0_role 56 q8.2).bind fun q9 => some ((0, q9.1), q9.2))) else ((f_X3_findsEnded 56 q7.2).bind fun q10 => if q10.1 = 0 then ((f_X3_take 56 q10.2).bind fun q11 => ((f_X0_role 56 q11.2).bind fun q12 => some ((0, q12.1), q12.2))) else some ((5, 0), q10.2)))))) := by
      rw [f_X4_offer, e1, Option.bind_some]
      dsimp only
      rw [s_wholeD r1, if_pos hd, Option.bind_some]
      dsimp only
      rw [if_neg (by decide), s_role d, Option.bind_some]
    rw [s_ground C1 D1 W (by omega), Option.bind_some] at hc
    dsimp only at hc
    have no : ∀ (c : Nat), c ≠ 0 → f_L_offer M = some (nI c, M1) → cdO n b h ck s (b 7 0) = c → c < 10 → ∃ k o M1 M2, f_L_offer M = some (k, M1) ∧ f_X5_offer M1 = some (o, M2) ∧ M2 73 0 = k ∧ (k = 0 → M2 79 0 = o) ∧ Inv M2 := by
      intro c hc0 x1 x2 x3
      obtain ⟨M2, y1, y2, y3, y4⟩ := m_offer D1 W hd d.2.1 rfl
      rw [x2] at y1 y2 y4
      simp only [if_neg hc0] at y1 y4
      exact ⟨nI c, _, M1, M2, x1, y1, y2, fun q => absurd q (nI_ne0 (by omega) (by omega)), n, b, h, ck, vs, is, W, C1.keep (fun a ha => y3 a (by omega)), y4⟩
    by_cases g : grO b h ck (b 7 0) = true
    case neg =>
      rw [if_neg g, if_pos rfl] at hc
      exact no 2 (by decide) (by rw [f_L_offer, hc]; rfl) (cd2 g) (by decide)
    rw [if_pos g, if_neg (by decide), s_finds C1 W d (gr_h0 g), Option.bind_some] at hc
    dsimp only at hc
    by_cases g2 : sgnO b s (b 7 0) = true
    case neg =>
      rw [if_neg g2, if_pos rfl] at hc
      exact no 3 (by decide) (by rw [f_L_offer, hc]; rfl) (cd3 g g2) (by decide)
    rw [if_pos g2, if_neg (by decide), s_right C1 D1 W d g, Option.bind_some] at hc
    dsimp only at hc
    by_cases g3 : vrO n b h (b 7 0) = true
    case neg =>
      rw [if_neg g3, if_pos rfl] at hc
      exact no 4 (by decide) (by rw [f_L_offer, hc]; rfl) (cd4 g g2 g3) (by decide)
    rw [if_pos g3, if_neg (by decide), s_role d, Option.bind_some] at hc
    dsimp only at hc
    obtain ⟨M2, e2, C2, k2⟩ := s_take C1 W d (gr_h0 g)
    have fin : cdO n b h ck s (b 7 0) = 0 → f_X4_offer M = ((f_X3_take 56 M1).bind fun q8 => ((f_X0_role 56 q8.2).bind fun q9 => some (((0 : Nat), q9.1), q9.2))) → ∃ k o M1 M2, f_L_offer M = some (k, M1) ∧ f_X5_offer M1 = some (o, M2) ∧ M2 73 0 = k ∧ (k = 0 → M2 79 0 = o) ∧ Inv M2 := by
      intro x2 x1
      rw [e2, Option.bind_some] at x1
      dsimp only at x1
      rw [f_X0_role, k2 56 (by omega), d.2.2.2.2.2.2.1.1, Option.bind_some] at x1
      dsimp only at x1
      have D2 : MInv (up M2 79 0 (nI (b 7 0))) n b h ck vs is := (D1.km (fun a ha => k2 a (by omega))).out
      obtain ⟨M3, y1, y2, y3, y4⟩ := m_offer D2 W hd d.2.1 rfl
      rw [x2] at y1 y2 y4
      simp only [if_pos] at y1 y4
      refine ⟨0, nI (b 7 0), up M2 79 0 (nI (b 7 0)), M3, ?_, y1, y2, fun _ => by rw [y3 79 (by omega), up_s], _, _, _, ck, vs, is, WF.put (WF_hC W (b 7 0)) hd rfl, C2.out.keep (fun a ha => y3 a (by omega)), y4⟩
      rw [f_L_offer, x1, Option.bind_some]; rfl
    by_cases c0 : b 7 0 = 0
    · rw [if_pos (by rw [c0]; rfl)] at hc
      exact fin (cd0 g g2 g3 (fun z => z.1 c0)) hc
    · rw [if_neg (nI_ne0 (by omega) (by omega)), s_ended d, Option.bind_some, C1.2.2.2.2.1] at hc
      dsimp only at hc
      by_cases z : ck < nI (256 * b 7 2 + b 7 3)
      · rw [if_pos z, if_pos rfl] at hc
        exact fin (cd0 g g2 g3 (fun q => by have := q.2; simp [enO, z] at this)) hc
      · rw [if_neg z, if_neg (by decide)] at hc
        exact no 5 (by decide) (by rw [f_L_offer, hc]; rfl) (cd5 g g2 g3 ⟨c0, by simp [enO, z]⟩) (by decide)
  · obtain ⟨M2, e2, f2, -⟩ := ms_doc (t := 7) (by omega) (D1.1 7 (by omega))
    rw [if_neg hd] at e2
    refine ⟨1, 0, M1, up M2 73 0 1, ?_, ?_, up_s, fun q => absurd q (by decide), n, b, h, ck, vs, is, W, (C1.fp f2).thrown, (D1.fp f2).thrown⟩
    · have e : f_X4_offer M = some ((2, 0), M1) := by
        rw [f_X4_offer, e1, Option.bind_some]
        dsimp only
        rw [s_wholeD r1, if_neg hd]; rfl
      rw [f_L_offer, e]; rfl
    · rw [f_X5_offer, show f_X5_isDocument 7 M1 = some (0, M2) from e2]; rfl
