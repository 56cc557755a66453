/-! the stack does what the recursion does -/
def uS (v : Nat) : Nat := (if v.testBit 4 = true then 0 else 1) + (if v.testBit 5 = true then 0 else 1) + (if v.testBit 6 = true then 0 else 1)
theorem uS_or : ∀ v, v < 128 → ∀ r, r < 7 → 4 ≤ r → v.testBit r = false → uS (v ||| 2 ^ r) + 1 = uS v := by decide +kernel
def kkF : Nat → Nat
  | 0 => 1
  | f + 1 => 3 * kkF f + 2
section SM
variable {n : Nat → Nat} {b : Nat → Nat → Nat} {h : Nat → Bool} {ck vs is : Int32} {w : Int64} {m : Nat} {MB : Me}
def Out (b : Nat → Nat → Nat) (w : Int64) (m : Nat) (MB M : Me) (fuel K d v : Nat) (P G : Nat → Nat) (dn : Nat) (R : RT) : Prop :=
  (R.1 = 2 → ∃ M', fL_X5_find_20 fuel w (nI m) M = some (nI R.2.2.2.1, M') ∧ FS MB M' ∧ M' 73 5 = R.2.2.1 ∧ M' 73 12 = nI (b R.2.2.2.1 R.2.2.2.2) ∧ M' 73 13 = wd (b R.2.2.2.1) (R.2.2.2.2 + 1)) ∧
  (R.1 = 1 → ∃ M', fL_X5_find_20 fuel w (nI m) M = some (-1, M') ∧ FS MB M' ∧ M' 73 5 = R.2.2.1) ∧
  (R.1 = 0 → ∃ fuel' M', fL_X5_find_20 fuel w (nI m) M = fL_X5_find_20 fuel' w (nI m) M' ∧ fuel ≤ fuel' + K ∧ FS MB M' ∧ ST M' (d + 1) R.2.1 R.2.2.1 P (va_up G d dn) ∧ uS R.2.1 ≤ uS v ∧ R.2.1 < 128)
theorem Out.step {M M1 : Me} {fuel fuel1 K K1 d v v1 : Nat} {P G G1 : Nat → Nat} {dn : Nat} {R : RT} (E : fL_X5_find_20 fuel w (nI m) M = fL_X5_find_20 fuel1 w (nI m) M1) (hk : fuel + K1 ≤ fuel1 + K) (hv : uS v1 ≤ uS v) (hG : va_up G1 d dn = va_up G d dn) (O : Out b w m MB M1 fuel1 K1 d v1 P G1 dn R) : Out b w m MB M fuel K d v P G dn R := by
  obtain ⟨o1, o2, o3⟩ := O
  refine ⟨fun q => ?_, fun q => ?_, fun q => ?_⟩
  · rw [E]; exact o1 q
  · rw [E]; exact o2 q
  · obtain ⟨f', M', x1, x2, x3, x4, x5, x6⟩ := o3 q
    exact ⟨f', M', by rw [E]; exact x1, by omega, x3, by rw [← hG]; exact x4, by omega, x6⟩
def SimP (n : Nat → Nat) (b : Nat → Nat → Nat) (h : Nat → Bool) (ck : Int32) (w : Int64) (m : Nat) (MB : Me) (f : Nat) : Prop := ∀ r, r < 7 → 3 ≤ r → h r = true → ∀ (c i v d fuel : Nat) (cn : Int32) (P G : Nat → Nat) (M : Me), i + c = dN (b r) → v < 128 → uS v ≤ f → d + uS v ≤ 3 → FS MB M → ST M (d + 1) v cn P G → P d = r → G d = i → (i = 0 → tgO (b r) w m (b r 4) 0 = none) → c * kkF f + 2 ≤ fuel →
  Out b w m MB M fuel (c * kkF f) d v P G (dN (b r)) (lpO (foO n b h ck w m r) (fun i => b r (dQ (b r) i)) (fun i => decide (b r (dQ (b r) i + 1) = 1)) (vsO n b h ck w m f) c i v cn)
theorem sim_step (D : MInv MB n b h ck vs is) (W : WF n b h) (h2 : h 2 = true) (hm : m ≤ 4) (f : Nat) (rec : ∀ f', f = f' + 1 → SimP n b h ck w m MB f') : SimP n b h ck w m MB f := by
  intro r hr h3 hh c
  obtain ⟨-, -, s, hs⟩ := W.n4 hr hh
  have h0 := (W r hr hh).2
  obtain ⟨t1, t2, t3, t4, t5, t6⟩ := tgtF hs (by omega)
  have dn3 : dN (b r) ≤ 3 := t5
  induction c with
  | zero =>
    intro i v d fuel cn P G M hi hv hu hd hF hS hP hG ht hf
    rw [lpO]
    refine ⟨fun q => absurd q (by simp), fun q => absurd q (by simp), fun _ => ⟨fuel, M, rfl, by omega, hF, hS.congr (fun j hj => ⟨rfl, ?_⟩), Nat.le_refl _, hv⟩⟩
    by_cases e : j = d
    · subst e; simp only [va_up, if_pos]; omega
    · simp only [va_up, if_neg e]
  | succ c ih =>
    intro i v d fuel cn P G M hi hv hu hd hF hS hP hG ht hf
    have kpos : 1 ≤ kkF f := by cases f with
      | zero => exact Nat.le_refl _
      | succ f => rw [kkF]; omega
    have hmul : (c + 1) * kkF f = c * kkF f + kkF f := Nat.succ_mul c (kkF f)
    obtain ⟨fu, rfl⟩ : ∃ fu, fuel = fu + 1 := ⟨fuel - 1, by omega⟩
    have DM : MInv M n b h ck cn is := D.fs hF hS.2.2.1
    have hlt : i < dN (b r) := by omega
    have E0 := find_on (f := fu) DM W hm hS (by omega) hP hG (by omega) hr h3 hh ht
    rw [if_pos hlt] at E0
    obtain ⟨M1, e1, F1, S1, S1'⟩ := fb_pos (w := w) (rc := fL_X5_find_20 fu w (nI m)) DM W h2 hm hS (by omega) hG hlt hr h3 hh hv
    rw [e1] at E0
    have F01 := hF.tr F1
    rw [lpO]
    by_cases fo : foO n b h ck w m r i v = true
    · rw [if_pos fo]
      have S1 := S1 fo
      obtain ⟨KS', l1, l2, l3, l4⟩ := (show DL (b r) (n r) (dQ (b r) i) from t6 i hlt)
      have fo' := fo
      unfold foO at fo'
      simp only [Bool.and_eq_true, Bool.not_eq_true'] at fo'
      have tb : v.testBit (b r (dQ (b r) i)) = false := fo'.1.1.2
      have hfr := fo'.1.2
      unfold frO at hfr
      simp only [Bool.and_eq_true] at hfr
      have hh' : h (b r (dQ (b r) i)) = true := st_h hfr.1
      have lr : b r (dQ (b r) i) < 7 := by omega
      have u1 := uS_or v hv (b r (dQ (b r) i)) lr l2 tb
      have v1 := (bt_or v hv (b r (dQ (b r) i)) lr).2
      obtain ⟨f', rfl⟩ : ∃ f', f = f' + 1 := ⟨f - 1, by omega⟩
      have hkk : kkF (f' + 1) = 3 * kkF f' + 2 := by rw [kkF]
      have D1 : MInv M1 n b h ck (cn + 1) is := D.fs F01 S1.2.2.1
      have P1 : va_up P (d + 1) (b r (dQ (b r) i)) (d + 1) = b r (dQ (b r) i) := by simp only [va_up, if_pos]
      have G1 : va_up (va_up G d (i + 1)) (d + 1) 0 (d + 1) = 0 := by simp only [va_up, if_pos]
      cases tq : tgO (b (b r (dQ (b r) i))) w m (b (b r (dQ (b r) i)) 4) 0 with
      | some p =>
        rw [vsO_t tq, if_neg (by simp)]
        obtain ⟨fu', rfl⟩ : ∃ fu', fu = fu' + 1 := ⟨fu - 1, by omega⟩
        have Eh := find_hit (f := fu') D1 W hm S1 (by omega) P1 G1 lr (by omega) hh' tq
        refine ⟨fun _ => ⟨_, E0.trans Eh, F01.tr ((FS.u73 (by decide)).tr (FS.u73 (by decide))), ?_, ?_, up_s⟩, fun q => absurd q (by simp), fun q => absurd q (by simp)⟩
        · rw [up_j (by decide), up_j (by decide)]; exact S1.2.2.1
        · rw [up_j (by decide), up_s]
      | none =>
        rw [vsO_n tq]
        obtain ⟨-, -, s', hs'⟩ := W.n4 lr hh'
        have h0' := (W _ lr hh').2
        have dn3' : dN (b (b r (dQ (b r) i))) ≤ 3 := (tgtF hs' (by omega)).2.2.2.2.1
        have hmul2 : dN (b (b r (dQ (b r) i))) * kkF f' ≤ 3 * kkF f' := Nat.mul_le_mul_right _ dn3'
        have O := rec f' rfl (b r (dQ (b r) i)) lr (by omega) hh' (dN (b (b r (dQ (b r) i)))) 0 (v ||| 2 ^ (b r (dQ (b r) i))) (d + 1) fu (cn + 1) _ _ M1 (by omega) v1 (by omega) (by omega) F01 S1 P1 G1 (fun _ => tq) (by omega)
        generalize lpO (foO n b h ck w m (b r (dQ (b r) i))) (fun j => b (b r (dQ (b r) i)) (dQ (b (b r (dQ (b r) i))) j)) (fun j => decide (b (b r (dQ (b r) i)) (dQ (b (b r (dQ (b r) i))) j + 1) = 1)) (vsO n b h ck w m f') (dN (b (b r (dQ (b r) i)))) 0 (v ||| 2 ^ (b r (dQ (b r) i))) (cn + 1) = R at O ⊢
        obtain ⟨o1, o2, o3⟩ := O
        by_cases z : R.1 = 0
        · rw [if_pos z]
          obtain ⟨fu2, M2, x1, x2, x3, x4, x5, x6⟩ := o3 z
          obtain ⟨fu3, rfl⟩ : ∃ fu3, fu2 = fu3 + 1 := ⟨fu2 - 1, by omega⟩
          have D2 : MInv M2 n b h ck R.2.2.1 is := D.fs x3 x4.2.2.1
          have E2 := find_on (f := fu3) (i := dN (b (b r (dQ (b r) i)))) D2 W hm x4 (by omega) P1 (by simp only [va_up, if_pos]) (by omega) lr (by omega) hh' (fun _ => tq)
          rw [if_neg (Nat.lt_irrefl _)] at E2
          obtain ⟨M3, e3, F3, S3⟩ := fb_neg (w := w) (x := nI m) (rc := fL_X5_find_20 fu3 w (nI m)) (r := r) (i := i) D2 W x4 (by omega) (by simp only [va_up, if_neg (show ¬ d = d + 1 by omega)]; exact hP) (by simp only [va_up, if_neg (show ¬ d = d + 1 by omega), if_pos]) hlt hr h3 hh
          rw [e3] at E2
          have E3 := (E0.trans x1).trans E2
          have F03 := x3.tr F3
          by_cases fi : decide (b r (dQ (b r) i + 1) = 1) = true
          · rw [if_pos fi] at S3 ⊢
            obtain ⟨fu4, rfl⟩ : ∃ fu4, fu3 = fu4 + 1 := ⟨fu3 - 1, by omega⟩
            exact ⟨fun q => absurd q (by simp), fun _ => ⟨M3, E3.trans (find_0 S3), F03, S3.2.2.1⟩, fun q => absurd q (by simp)⟩
          · rw [if_neg fi] at S3 ⊢
            have S3' : ST M3 (d + 1) R.2.1 R.2.2.1 P (va_up G d (i + 1)) := S3.congr (fun j hj => by simp only [va_up, if_neg (show ¬ j = d + 1 by omega)]; exact ⟨trivial, trivial⟩)
            have O3 := ih (i + 1) R.2.1 d fu3 R.2.2.1 P (va_up G d (i + 1)) M3 (by omega) x6 (by omega) (by omega) F03 S3' hP (by simp only [va_up, if_pos]) (fun q => by omega) (by omega)
            exact Out.step E3 (by omega) (by omega) va_twice O3
        · rw [if_neg z]
          exact ⟨fun q => by rw [E0]; exact o1 q, fun q => by rw [E0]; exact o2 q, fun q => absurd q z⟩
    · rw [if_neg fo]
      have O := ih (i + 1) v d fu cn P (va_up G d (i + 1)) M1 (by omega) hv hu hd F01 (S1' fo) hP (by simp only [va_up, if_pos]) (fun q => by omega) (by omega)
      exact Out.step E0 (by omega) (Nat.le_refl _) va_twice O
theorem sim (D : MInv MB n b h ck vs is) (W : WF n b h) (h2 : h 2 = true) (hm : m ≤ 4) : ∀ f, SimP n b h ck w m MB f := by
  intro f
  induction f with
  | zero => exact sim_step D W h2 hm 0 (fun f' e => by omega)
  | succ f ih => exact sim_step D W h2 hm (f + 1) (fun f' e => by cases e; exact ih)
theorem m_find (D : MInv MB n b h ck vs is) (W : WF n b h) (h2 : h 2 = true) (h3 : h 3 = true) (hm : m ≤ 4) (hk : (vsO n b h ck w m 4 3 0 0).1 ≤ 2) : ∃ M', f_X5_find w (nI m) MB = some (if (vsO n b h ck w m 4 3 0 0).1 = 2 then nI (vsO n b h ck w m 4 3 0 0).2.2.2.1 else -1, M') ∧ FS MB M' ∧ M' 73 5 = (vsO n b h ck w m 4 3 0 0).2.2.1 ∧ ((vsO n b h ck w m 4 3 0 0).1 = 2 → M' 73 12 = nI (b (vsO n b h ck w m 4 3 0 0).2.2.2.1 (vsO n b h ck w m 4 3 0 0).2.2.2.2) ∧ M' 73 13 = wd (b (vsO n b h ck w m 4 3 0 0).2.2.2.1) ((vsO n b h ck w m 4 3 0 0).2.2.2.2 + 1)) := by
  have ev : f_X5_visit 3 (up (up (up MB 73 14 0) 73 5 0) 73 17 0) = some (0, up (up (up (up (up (up (up (up MB 73 14 0) 73 5 0) 73 17 0) 77 0 3) 78 0 0) 73 14 (nI 1)) 73 5 1) 73 17 (nI 8)) := by
    have e14 : up (up (up MB 73 14 0) 73 5 0) 73 17 0 73 14 = nI 0 := by rw [up_j (by decide), up_j (by decide), up_s]; rfl
    have e5 : up (up (up MB 73 14 0) 73 5 0) 73 17 0 73 5 = 0 := by rw [up_j (by decide), up_s]
    have e17 : up (up (up MB 73 14 0) 73 5 0) 73 17 0 73 17 = nI 0 := up_s
    rw [f_X5_visit]
    simp only [e14, e5, e17]
    rw [al7x.1, al7x.2, if_pos (show inB (nI 0) 8 = true by decide), if_pos (show inB (nI 0) 8 = true by decide), show (nI 0).toNatClampNeg = 0 by decide, show nI 0 + 1 = nI 1 from rfl, show (0 : Int32) + 1 = 1 by decide, show (nI 0 ||| 1 <<< ((3 : Int32) &&& 31)) = nI 8 by decide]
  have F : FS MB (up (up (up (up (up (up (up (up MB 73 14 0) 73 5 0) 73 17 0) 77 0 3) 78 0 0) 73 14 (nI 1)) 73 5 1) 73 17 (nI 8)) := (((((((FS.u73 (by decide)).tr (FS.u73 (by decide))).tr (FS.u73 (by decide))).tr (FS.u7 (Or.inl rfl))).tr (FS.u7 (Or.inr rfl))).tr (FS.u73 (by decide))).tr (FS.u73 (by decide))).tr (FS.u73 (by decide))
  have S : ST (up (up (up (up (up (up (up (up MB 73 14 0) 73 5 0) 73 17 0) 77 0 3) 78 0 0) 73 14 (nI 1)) 73 5 1) 73 17 (nI 8)) (0 + 1) 8 1 (fun _ => 3) (fun _ => 0) := by
    refine ⟨by rw [up_j (by decide), up_j (by decide), up_s], up_s, by rw [up_j (by decide), up_s], fun j hj => ?_⟩
    obtain rfl : j = 0 := by omega
    refine ⟨?_, ?_⟩
    · rw [up_k (by decide), up_k (by decide), up_k (by decide), up_k (by decide), up_s]; rfl
    · rw [up_k (by decide), up_k (by decide), up_k (by decide), up_s]; rfl
  generalize up (up (up (up (up (up (up (up MB 73 14 0) 73 5 0) 73 17 0) 77 0 3) 78 0 0) 73 14 (nI 1)) 73 5 1) 73 17 (nI 8) = M1 at ev F S
  have D1 : MInv M1 n b h ck 1 is := D.fs F S.2.2.1
  have ef : f_X5_find w (nI m) MB = fL_X5_find_20 200 w (nI m) M1 := by rw [f_X5_find, ev, Option.bind_some]
  rw [ef]
  obtain ⟨-, -, s, hs⟩ := W.n4 (r := 3) (by omega) h3
  have h0 := (W 3 (by omega) h3).2
  have dn3 : dN (b 3) ≤ 3 := (tgtF hs (by omega)).2.2.2.2.1
  cases tq : tgO (b 3) w m (b 3 4) 0 with
  | some p =>
    rw [vsO_t tq]
    have Eh := find_hit (f := 199) D1 W hm S (by omega) rfl rfl (by omega) (by omega) h3 tq
    refine ⟨_, by rw [if_pos rfl]; exact Eh, F.tr ((FS.u73 (by decide)).tr (FS.u73 (by decide))), ?_, fun _ => ⟨?_, up_s⟩⟩
    · rw [up_j (by decide), up_j (by decide), S.2.2.1]; exact (show (1 : Int32) = 0 + 1 by decide)
    · rw [up_j (by decide), up_s]
  | none =>
    rw [vsO_n tq] at hk ⊢
    have k3 : kkF 3 = 53 := by decide
    have O := sim (w := w) D W h2 hm 3 3 (by omega) (by omega) h3 (dN (b 3)) 0 8 0 200 1 (fun _ => 3) (fun _ => 0) M1 (by omega) (by omega) (by decide) (by decide) F S rfl rfl (fun _ => tq) (by rw [k3]; omega)
    rw [show (0 : Nat) ||| 2 ^ 3 = 8 by decide, show (0 : Int32) + 1 = 1 by decide] at hk ⊢
    generalize lpO (foO n b h ck w m 3) (fun i => b 3 (dQ (b 3) i)) (fun i => decide (b 3 (dQ (b 3) i + 1) = 1)) (vsO n b h ck w m 3) (dN (b 3)) 0 8 1 = R at O hk ⊢
    obtain ⟨o1, o2, o3⟩ := O
    by_cases z2 : R.1 = 2
    · obtain ⟨M', y1, y2, y3, y4, y5⟩ := o1 z2
      exact ⟨M', by rw [if_pos z2]; exact y1, y2, y3, fun _ => ⟨y4, y5⟩⟩
    rw [if_neg z2]
    by_cases z1 : R.1 = 1
    · obtain ⟨M', y1, y2, y3⟩ := o2 z1
      exact ⟨M', y1, y2, y3, fun q => absurd q z2⟩
    by_cases z0 : R.1 = 0
    · obtain ⟨fu, M2, y1, y2, y3, y4, y5, y6⟩ := o3 z0
      obtain ⟨fu', rfl⟩ : ∃ fu', fu = fu' + 2 := ⟨fu - 2, by rw [k3] at y2; omega⟩
      have D2 : MInv M2 n b h ck R.2.2.1 is := D.fs y3 y4.2.2.1
      have E2 := find_on (f := fu' + 1) (i := dN (b 3)) (r := 3) D2 W hm y4 (by omega) rfl (by simp only [va_up, if_pos]) (by omega) (by omega) (by omega) h3 (fun _ => tq)
      rw [if_neg (Nat.lt_irrefl _)] at E2
      obtain ⟨M3, e3, F3, S3⟩ := fb_neg1 (w := w) (x := nI m) (rc := fL_X5_find_20 (fu' + 1) w (nI m)) y4
      rw [e3, find_0 S3] at E2
      exact ⟨M3, y1.trans E2, y3.tr F3, S3.2.2.1, fun q => absurd q z2⟩
    · exact absurd hk (by omega)
end SM
