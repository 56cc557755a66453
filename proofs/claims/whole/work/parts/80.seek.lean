/-! seek and install -/
theorem CInv.visits {M : Me} {n : Nat → Nat} {b : Nat → Nat → Nat} {h : Nat → Bool} {ck vs is v : Int32} (H : CInv M n b h ck vs is) : CInv (up M 72 5 v) n b h ck v is := by
  obtain ⟨h1, h2, ⟨nn, bb, h3⟩, h4, h5, h6, h7⟩ := H
  exact ⟨h1.keep (up_row (by omega)) (up_row (by omega)), h2.keep (up_row (by omega)) (up_row (by omega)), ⟨nn, bb, h3.keep (up_row (by omega)) (up_row (by omega))⟩, fun r hr => ⟨by rw [up_row (by omega)]; exact (h4 r hr).1, fun hh => ((h4 r hr).2 hh).keep (fun a g1 g2 => up_row (by omega))⟩, by rw [up_k (by decide)]; exact h5, up_s, by rw [up_j (by decide)]; exact h7⟩
theorem CInv.installs {M : Me} {n : Nat → Nat} {b : Nat → Nat → Nat} {h : Nat → Bool} {ck vs is v : Int32} (H : CInv M n b h ck vs is) : CInv (up M 72 6 v) n b h ck vs v := by
  obtain ⟨h1, h2, ⟨nn, bb, h3⟩, h4, h5, h6, h7⟩ := H
  exact ⟨h1.keep (up_row (by omega)) (up_row (by omega)), h2.keep (up_row (by omega)) (up_row (by omega)), ⟨nn, bb, h3.keep (up_row (by omega)) (up_row (by omega))⟩, fun r hr => ⟨by rw [up_row (by omega)]; exact (h4 r hr).1, fun hh => ((h4 r hr).2 hh).keep (fun a g1 g2 => up_row (by omega))⟩, by rw [up_k (by decide)]; exact h5, by rw [up_j (by decide)]; exact h6, up_s⟩
theorem MInv.installs {M : Me} {n : Nat → Nat} {b : Nat → Nat → Nat} {h : Nat → Bool} {ck vs is v : Int32} (D : MInv M n b h ck vs is) : MInv (up M 73 6 v) n b h ck vs v := by
  obtain ⟨h1, h2, h3, h4, h5⟩ := D
  refine ⟨fun t ht => ?_, fun r hr => by rw [up_k (by decide)]; exact h2 r hr, by rw [up_j (by decide)]; exact h3, by rw [up_j (by decide)]; exact h4, up_s⟩
  obtain ⟨r1, r2, r3, r4⟩ := h1 t ht
  exact ⟨by rw [up_k (by decide)]; exact r1, r2, r3, fun i hi => by rw [up_k (by decide)]; exact r4 i hi⟩
theorem MInv.visits {M : Me} {n : Nat → Nat} {b : Nat → Nat → Nat} {h : Nat → Bool} {ck vs is v : Int32} (D : MInv M n b h ck vs is) : MInv (up M 73 5 v) n b h ck v is := D.fs (FS.u73 (by decide)) up_s
theorem tgO_le {b : Nat → Nat} {n s p m : Nat} {w : Int64} (hs : pSig b n = some s) (h3 : 3 ≤ b 0) : ∀ c i, i + c = b 4 → tgO b w m c i = some p → p + 5 ≤ n := by
  obtain ⟨t1, t2, t3, t4, t5, t6⟩ := tgtF hs h3
  intro c
  induction c with
  | zero => intro i _ q; rw [tgO] at q; cases q
  | succ c ih =>
    intro i hi q
    by_cases e : b (tPos b i) = m ∧ bgO b (tPos b i + 1) w m 0 = true
    · rw [tgO_t e] at q
      cases q
      have := (t3 i (by omega)).1
      omega
    · rw [tgO_f e] at q; exact ih (i + 1) (by omega) q
theorem al_h {b : Nat → Nat → Nat} {h : Nat → Bool} {ck : Int32} (q : alO b h ck = true) : h 2 = true ∧ h 3 = true := by
  unfold alO frO at q
  simp only [Bool.and_eq_true] at q
  exact ⟨st_h q.1.2, st_h q.2.1⟩
/-- what a search that may not begin answers -/
theorem refused {w : Int64} {x : Int32} {M : Me} {n : Nat → Nat} {b : Nat → Nat → Nat} {h : Nat → Bool} {ck vs is : Int32} (C : CInv M n b h ck vs is) (D : MInv M n b h ck vs is) (W : WF n b h) : (f_X4_refuseUnlessSearchable w x M = some ((2, 0), M) ∧ f_X5_wrongSeek w x M = some (1, M)) ∨ (f_X4_refuseUnlessSearchable w x M = some ((3, 0), M) ∧ f_X5_wrongSeek w x M = some (2, M)) ∨ (∃ m : Nat, m ≤ 4 ∧ x = nI m ∧ h 2 = true ∧ h 3 = true ∧ f_X4_refuseUnlessSearchable w x M = some ((0, 0), M) ∧ ∀ M' : Me, MInv M' n b h ck vs is → f_X5_wrongSeek w x M' = some (0, M')) := by
  rcases name_ok w x with no | ⟨m, m1, m4, hx, yes⟩
  · refine Or.inl ⟨?_, ?_⟩
    · rw [f_X4_refuseUnlessSearchable, (no M).1]; rfl
    · rw [f_X5_wrongSeek, (no M).2]; rfl
  · have e1 : f_X4_refuseUnlessSearchable w x M = some ((if alO b h ck = true then 0 else 3, 0), M) := by
      rw [f_X4_refuseUnlessSearchable, (yes M).1, Option.bind_some]
      dsimp only
      rw [if_neg (by decide), s_allow C W, Option.bind_some]
      cases alO b h ck <;> rfl
    cases q : alO b h ck with
    | false =>
      rw [q] at e1
      refine Or.inr (Or.inl ⟨e1, ?_⟩)
      rw [m_wrong D W (yes M).2, q]; rfl
    | true =>
      rw [q] at e1
      obtain ⟨h2, h3⟩ := al_h q
      refine Or.inr (Or.inr ⟨m, m4, hx, h2, h3, e1, fun M' D' => ?_⟩)
      rw [m_wrong D' W (yes M').2, q]; rfl
theorem found_eq {b : Nat → Nat → Nat} {h : Nat → Bool} {w : Int64} {m : Nat} {M : Me} {R : RT} (S : SR b h w m M R) : M 71 4 = (if R.1 = 2 then nI R.2.2.2.1 else -1) := by
  obtain ⟨s1, s2, s3, s4, s5, s6, s7, s8⟩ := S
  by_cases c : R.1 = 2
  · rw [if_pos c]; exact (s6 c).1
  · rw [if_neg c]
    by_cases c1 : R.1 = 1
    · exact s5 c1
    · exact (s3 (by omega)).1
theorem seek_ok (w : Int64) (x : Int32) : OkB (f_L_seek w x) (f_X5_seek w x) := by
  rintro M ⟨n, b, h, ck, vs, is, W, C, D⟩
  rcases refused (w := w) (x := x) C D W with ⟨e1, e2⟩ | ⟨e1, e2⟩ | ⟨m, m4, rfl, h2, h3, e1, e2⟩
  · refine ⟨1, 0, M, up M 73 0 1, ?_, ?_, up_s, fun q => absurd q (by decide), n, b, h, ck, vs, is, W, C.thrown, D.thrown⟩
    · rw [f_L_seek, f_X4_seek, e1]; rfl
    · rw [f_X5_seek, e2]; rfl
  · refine ⟨2, 0, M, up M 73 0 2, ?_, ?_, up_s, fun q => absurd q (by decide), n, b, h, ck, vs, is, W, C.thrown, D.thrown⟩
    · rw [f_L_seek, f_X4_seek, e1]; rfl
    · rw [f_X5_seek, e2]; rfl
  · obtain ⟨M1, r1, C1, k1, S1⟩ := s_run (w := w) C W h2 h3 m4
    have fe := found_eq S1
    have hk := S1.2.2.2.2.2.2.2
    have c3 := S1.2.1
    generalize hR : vsO n b h ck w m 4 3 0 0 = R at S1 fe hk c3
    have hc : f_X4_seek w (nI m) M = some ((0, if R.1 = 2 then nI R.2.2.2.1 else -1), up M1 72 5 R.2.2.1) := by
      rw [f_X4_seek, e1, Option.bind_some]
      dsimp only
      rw [if_pos rfl, r1, Option.bind_some]
      dsimp only
      rw [f_X2_visitCount, c3, Option.bind_some]
      dsimp only
      rw [f_X2_foundRole, up_k (by decide), fe, Option.bind_some]
    have D1 : MInv (up (up M1 72 5 R.2.2.1) 79 0 (if R.1 = 2 then nI R.2.2.2.1 else -1)) n b h ck vs is := (D.km (M' := up M1 72 5 R.2.2.1) (fun a ha => by rw [up_row (by omega)]; exact k1 a ha)).out
    obtain ⟨M2, y1, y2, y3, -⟩ := m_find (w := w) (D1.thrown (v := 0)) W h2 h3 m4 (by rw [hR]; exact hk)
    rw [hR] at y1 y3
    refine ⟨0, if R.1 = 2 then nI R.2.2.2.1 else -1, up (up M1 72 5 R.2.2.1) 79 0 (if R.1 = 2 then nI R.2.2.2.1 else -1), M2, ?_, ?_, ?_, fun _ => ?_, n, b, h, ck, R.2.2.1, is, W, ?_, D1.thrown.fs y2 y3⟩
    · rw [f_L_seek, hc, Option.bind_some]; rfl
    · rw [f_X5_seek, e2 _ D1, Option.bind_some]
      dsimp only
      rw [if_pos (by decide), y1, Option.bind_some]
    · rw [y2.2.1, up_s]
    · rw [y2.1 79 (by omega), up_k (by decide), up_s]
    · exact (C1.visits.out.thrown (v := 0)).keep (fun a ha => y2.1 a (by omega))
theorem install_ok (w : Int64) (x : Int32) : OkB (f_L_install w x) (f_X5_install w x) := by
  rintro M ⟨n, b, h, ck, vs, is, W, C, D⟩
  rcases refused (w := w) (x := x) C D W with ⟨e1, e2⟩ | ⟨e1, e2⟩ | ⟨m, m4, rfl, h2, h3, e1, e2⟩
  · refine ⟨1, 0, M, up M 73 0 1, ?_, ?_, up_s, fun q => absurd q (by decide), n, b, h, ck, vs, is, W, C.thrown, D.thrown⟩
    · rw [f_L_install, f_X4_install, e1]; rfl
    · rw [f_X5_install, e2]; rfl
  · refine ⟨2, 0, M, up M 73 0 2, ?_, ?_, up_s, fun q => absurd q (by decide), n, b, h, ck, vs, is, W, C.thrown, D.thrown⟩
    · rw [f_L_install, f_X4_install, e1]; rfl
    · rw [f_X5_install, e2]; rfl
  · obtain ⟨M1, r1, C1, k1, S1⟩ := s_run (w := w) C W h2 h3 m4
    have fe := found_eq S1
    have hk := S1.2.2.2.2.2.2.2
    have c3 := S1.2.1
    have mf : ∀ Ma : Me, MInv Ma n b h ck vs is → ∃ M', f_X5_find w (nI m) (up Ma 73 0 0) = some (if (vsO n b h ck w m 4 3 0 0).1 = 2 then nI (vsO n b h ck w m 4 3 0 0).2.2.2.1 else -1, M') ∧ FS (up Ma 73 0 0) M' ∧ M' 73 5 = (vsO n b h ck w m 4 3 0 0).2.2.1 ∧ ((vsO n b h ck w m 4 3 0 0).1 = 2 → M' 73 12 = nI (b (vsO n b h ck w m 4 3 0 0).2.2.2.1 (vsO n b h ck w m 4 3 0 0).2.2.2.2) ∧ M' 73 13 = wd (b (vsO n b h ck w m 4 3 0 0).2.2.2.1) ((vsO n b h ck w m 4 3 0 0).2.2.2.2 + 1)) := fun Ma Da => m_find (w := w) Da.thrown W h2 h3 m4 hk
    generalize vsO n b h ck w m 4 3 0 0 = R at S1 fe hk c3 mf
    have hc : f_X4_install w (nI m) M = (if (if R.1 = 2 then nI R.2.2.2.1 else -1) = (-1) then some ((5, 0), M1) else ((f_X2_foundTargetIs 65 M1).bind fun q4 => if q4.1 = 0 then some ((4, 0), q4.2) else ((f_X2_visitCount q4.2).bind fun q5 => ((f_X2_foundRole (up (up q5.2 72 5 q5.1) 72 6 ((q5.2 72 6) + 1))).bind fun q6 => some ((0, q6.1), q6.2))))) := by
      rw [f_X4_install, e1, Option.bind_some]
      dsimp only
      rw [if_pos rfl, r1, Option.bind_some]
      dsimp only
      rw [f_X2_foundRole, fe, Option.bind_some]
    have D1 : MInv M1 n b h ck vs is := D.km k1
    by_cases z : R.1 = 2
    · obtain ⟨g1, g2, g3, g4, g5, g6⟩ := S1.2.2.2.2.2.1 z
      rw [if_pos z, if_neg (nI_m1 (by omega))] at hc
      obtain ⟨s, d, z0⟩ := C1.dc W g3 g5
      have pl := tgO_le d.2.1 (by omega) _ 0 (by omega) g6
      have hn := d.2.2.2.2.2.2.2.2
      have lb := d.lt R.2.2.2.2 (by omega)
      have n8 := (D.1 8 (by omega)).2.1
      have hf : f_X2_foundTargetIs 65 M1 = some (if b R.2.2.2.1 R.2.2.2.2 = n 8 ∧ wd (b R.2.2.2.1) (R.2.2.2.2 + 1) = mxO (b 8) (n 8) 0 then 1 else 0, M1) := by
        rw [f_X2_foundTargetIs, s_docOf g1 g3, Option.bind_some]
        dsimp only
        rw [if_pos (kB7 g3), f_X0_row, Option.bind_some]
        dsimp only
        rw [if_pos (kB71 g3), s_byteD d (p := R.2.2.2.2) (by omega) g2, Option.bind_some]
        dsimp only
        rw [f_X1_size, C1.2.1.1, Option.bind_some]
        dsimp only
        by_cases a1 : b R.2.2.2.1 R.2.2.2.2 = n 8
        · rw [if_pos (by rw [a1]), g2, nI_1, s_wordAt d.1 (by omega), Option.bind_some]
          dsimp only
          rw [s_digest C1.2.1, Option.bind_some]
          dsimp only
          by_cases a2 : wd (b R.2.2.2.1) (R.2.2.2.2 + 1) = mxO (b 8) (n 8) 0
          · rw [if_pos a2, if_pos ⟨a1, a2⟩]
          · rw [if_neg a2, if_neg (fun q => a2 q.2)]
        · rw [if_neg (fun q => a1 ((nI_eq (by omega) (by omega)).mp q)), if_neg (fun q => a1 q.1)]
      rw [hf, Option.bind_some] at hc
      dsimp only at hc
      by_cases ok : b R.2.2.2.1 R.2.2.2.2 = n 8 ∧ wd (b R.2.2.2.1) (R.2.2.2.2 + 1) = mxO (b 8) (n 8) 0
      · rw [if_pos ok, if_neg (by decide), f_X2_visitCount, c3, Option.bind_some] at hc
        dsimp only at hc
        rw [f_X2_foundRole, up_k (by decide), up_k (by decide), g1, C1.2.2.2.2.2.2, Option.bind_some] at hc
        dsimp only at hc
        have C2 : CInv (up (up M1 72 5 R.2.2.1) 72 6 (is + 1)) n b h ck R.2.2.1 (is + 1) := C1.visits.installs
        have Da : MInv (up (up (up M1 72 5 R.2.2.1) 72 6 (is + 1)) 79 0 (nI R.2.2.2.1)) n b h ck vs is := (D1.km (M' := up (up M1 72 5 R.2.2.1) 72 6 (is + 1)) (fun a ha => by rw [up_row (by omega), up_row (by omega)])).out
        obtain ⟨M2, y1, y2, y3, y4⟩ := mf _ Da
        obtain ⟨y5, y6⟩ := y4 z
        have D2 : MInv M2 n b h ck R.2.2.1 is := Da.thrown.fs y2 y3
        rw [if_pos z] at y1
        refine ⟨0, nI R.2.2.2.1, up (up (up M1 72 5 R.2.2.1) 72 6 (is + 1)) 79 0 (nI R.2.2.2.1), up (up M2 73 0 0) 73 6 (is + 1), ?_, ?_, ?_, fun _ => ?_, n, b, h, ck, R.2.2.1, is + 1, W, ?_, D2.thrown.installs⟩
        · rw [f_L_install, hc, Option.bind_some]; rfl
        · rw [f_X5_install, e2 _ Da, Option.bind_some]
          dsimp only
          rw [if_pos (by decide), y1, Option.bind_some]
          dsimp only
          rw [if_pos (nI_pos' (by omega)), if_pos (by rw [y5, (D2.1 8 (by omega)).1, ok.1]), m_mix (t := 8) (x := 960) (y := M2 75 8) (D2.1 8 (by omega)) (Nat.le_refl _) 0 rfl (D2.1 8 (by omega)).1, Option.bind_some]
          dsimp only
          rw [if_pos (by rw [y6]; exact ok.2), D2.2.2.2.2]
        · rw [up_j (by decide), up_s]
        · rw [up_k (by decide), up_k (by decide), y2.1 79 (by omega), up_k (by decide), up_s]
        · exact ((C2.out.thrown (v := 0)).keep (M' := M2) (fun a ha => y2.1 a (by omega))).thrown.keep (fun a ha => up_row (by omega))
      · rw [if_neg ok, if_pos rfl] at hc
        obtain ⟨M2, y1, y2, y3, y4⟩ := mf _ D1
        obtain ⟨y5, y6⟩ := y4 z
        have D2 : MInv M2 n b h ck R.2.2.1 is := D1.thrown.fs y2 y3
        rw [if_pos z] at y1
        refine ⟨4, 0, M1, up (up M2 73 0 4) 73 5 vs, ?_, ?_, ?_, fun q => absurd q (by decide), n, b, h, ck, vs, is, W, ?_, D2.thrown.visits⟩
        · rw [f_L_install, hc, Option.bind_some]; rfl
        · rw [f_X5_install, e2 _ D1, Option.bind_some]
          dsimp only
          rw [if_pos (by decide), y1, Option.bind_some]
          dsimp only
          rw [if_pos (nI_pos' (by omega)), D1.2.2.2.1]
          by_cases a1 : b R.2.2.2.1 R.2.2.2.2 = n 8
          · rw [if_pos (by rw [y5, (D2.1 8 (by omega)).1, a1]), m_mix (t := 8) (x := 960) (y := M2 75 8) (D2.1 8 (by omega)) (Nat.le_refl _) 0 rfl (D2.1 8 (by omega)).1, Option.bind_some]
            dsimp only
            rw [if_neg (by rw [y6]; exact fun q => ok ⟨a1, q⟩)]
          · rw [if_neg (by rw [y5, (D2.1 8 (by omega)).1]; exact fun q => a1 ((nI_eq (by omega) (by omega)).mp q))]
        · rw [up_j (by decide), up_s]
        · exact ((C1.thrown (v := 0)).keep (M' := M2) (fun a ha => y2.1 a (by omega))).thrown.keep (fun a ha => up_row (by omega))
    · rw [if_neg z, if_pos rfl] at hc
      obtain ⟨M2, y1, y2, y3, -⟩ := mf _ D1
      have D2 : MInv M2 n b h ck R.2.2.1 is := D1.thrown.fs y2 y3
      rw [if_neg z] at y1
      refine ⟨3, 0, M1, up (up M2 73 0 3) 73 5 vs, ?_, ?_, ?_, fun q => absurd q (by decide), n, b, h, ck, vs, is, W, ?_, D2.thrown.visits⟩
      · rw [f_L_install, hc, Option.bind_some]; rfl
      · rw [f_X5_install, e2 _ D1, Option.bind_some]
        dsimp only
        rw [if_pos (by decide), y1, Option.bind_some]
        dsimp only
        rw [if_neg (by decide), D1.2.2.2.1]
      · rw [up_j (by decide), up_s]
      · exact ((C1.thrown (v := 0)).keep (M' := M2) (fun a ha => y2.1 a (by omega))).thrown.keep (fun a ha => up_row (by omega))
