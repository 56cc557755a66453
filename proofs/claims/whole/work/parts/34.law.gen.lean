def fL_L_law (xs : Nat → Int32) (L : Nat) : Nat → Int32 → Me → Option (Int32 × Me)
  | 0, _, _ => none
  | n + 1, x4, M => if ((Int32.ofNat L) - 4) < x4 then some (1, M) else if inB x4 L = true then if ((xs x4.toNatClampNeg) &&& 31) = 0 then if inB (x4 + 1) L = true then if inB (x4 + 2) L = true then if inB (x4 + 3) L = true then ((f_X4_put ((lshl_ ((xs (x4 + 1).toNatClampNeg).toInt64) 32) ||| (((xs (x4 + 2).toNatClampNeg).toInt64) &&& 4294967295)) (xs (x4 + 3).toNatClampNeg) M).bind fun q1 => ((f_X5_put ((lshl_ ((xs (x4 + 1).toNatClampNeg).toInt64) 32) ||| (((xs (x4 + 2).toNatClampNeg).toInt64) &&& 4294967295)) (xs (x4 + 3).toNatClampNeg) q1.2).bind fun q2 => if q1.1 = q2.1 then fL_L_law xs L n (x4 + 4) q2.2 else some (0, q2.2))) else none else none else none else if ((xs x4.toNatClampNeg) &&& 31) = 1 then if inB (x4 + 1) L = true then ((f_X4_cut (xs (x4 + 1).toNatClampNeg) M).bind fun q3 => ((f_X5_cut (xs (x4 + 1).toNatClampNeg) q3.2).bind fun q4 => if q3.1 = q4.1 then fL_L_law xs L n (x4 + 4) q4.2 else some (0, q4.2))) else none else if ((xs x4.toNatClampNeg) &&& 31) = 2 then if inB (x4 + 1) L = true then if inB (x4 + 2) L = true then ((f_X4_alter (xs (x4 + 1).toNatClampNeg) (xs (x4 + 2).toNatClampNeg) M).bind fun q5 => ((f_X5_alter (xs (x4 + 1).toNatClampNeg) (xs (x4 + 2).toNatClampNeg) q5.2).bind fun q6 => if q5.1 = q6.1 then fL_L_law xs L n (x4 + 4) q6.2 else some (0, q6.2))) else none else none else if ((xs x4.toNatClampNeg) &&& 31) = 3 then ((f_X4_length  M).bind fun q7 => ((f_X5_length  q7.2).bind fun q8 => if q7.1 = q8.1 then fL_L_law xs L n (x4 + 4) q8.2 else some (0, q8.2))) else if ((xs x4.toNatClampNeg) &&& 31) = 4 then if inB (x4 + 1) L = true then ((f_L_at (xs (x4 + 1).toNatClampNeg) M).bind fun q9 => ((f_X5_at (xs (x4 + 1).toNatClampNeg) q9.2).bind fun q10 => ((f_X5_thrown  q10.2).bind fun q11 => if q11.1 = q9.1 then if q9.1 = 0 then if (lg_cmp ((q11.2 79 0).toInt64) (q10.1.toInt64)) = 0 then fL_L_law xs L n (x4 + 4) q11.2 else some (0, q11.2) else fL_L_law xs L n (x4 + 4) q11.2 else some (0, q11.2)))) else none else if ((xs x4.toNatClampNeg) &&& 31) = 5 then if inB (x4 + 1) L = true then ((f_X4_mix (xs (x4 + 1).toNatClampNeg) M).bind fun q12 => ((f_X5_mix (xs (x4 + 1).toNatClampNeg) q12.2).bind fun q13 => if q12.1 = q13.1 then fL_L_law xs L n (x4 + 4) q13.2 else some (0, q13.2))) else none else if ((xs x4.toNatClampNeg) &&& 31) = 6 then ((f_X4_digest  M).bind fun q14 => ((f_X5_digest  q14.2).bind fun q15 => if q14.1 = q15.1 then fL_L_law xs L n (x4 + 4) q15.2 else some (0, q15.2))) else if ((xs x4.toNatClampNeg) &&& 31) = 7 then if inB (x4 + 1) L = true then ((f_L_sign (xs (x4 + 1).toNatClampNeg) M).bind fun q16 => ((f_X5_sign (xs (x4 + 1).toNatClampNeg) q16.2).bind fun q17 => ((f_X5_thrown  q17.2).bind fun q18 => if q18.1 = q16.1 then if q16.1 = 0 then if (lg_cmp ((q18.2 79 0).toInt64) (q17.1.toInt64)) = 0 then fL_L_law xs L n (x4 + 4) q18.2 else some (0, q18.2) else fL_L_law xs L n (x4 + 4) q18.2 else some (0, q18.2)))) else none else if ((xs x4.toNatClampNeg) &&& 31) = 8 then ((f_X4_content  M).bind fun q19 => ((f_X5_content  q19.2).bind fun q20 => if q19.1 = q20.1 then fL_L_law xs L n (x4 + 4) q20.2 else some (0, q20.2))) else if ((xs x4.toNatClampNeg) &&& 31) = 9 then if inB (x4 + 1) L = true then ((f_L_tick (xs (x4 + 1).toNatClampNeg) M).bind fun q21 => ((f_X5_tick (xs (x4 + 1).toNatClampNeg) q21.2).bind fun q22 => ((f_X5_thrown  q22.2).bind fun q23 => if q23.1 = q21.1 then if q21.1 = 0 then if (lg_cmp ((q23.2 79 0).toInt64) (q22.1.toInt64)) = 0 then fL_L_law xs L n (x4 + 4) q23.2 else some (0, q23.2) else fL_L_law xs L n (x4 + 4) q23.2 else some (0, q23.2)))) else none else if ((xs x4.toNatClampNeg) &&& 31) = 10 then ((f_L_begin  M).bind fun q24 => ((f_X5_begin  q24.2).bind fun q25 => ((f_X5_thrown  q25.2).bind fun q26 => if q26.1 = q24.1 then fL_L_law xs L n (x4 + 4) q26.2 else some (0, q26.2)))) else if ((xs x4.toNatClampNeg) &&& 31) = 11 then ((f_L_offer  M).bind fun q27 => ((f_X5_offer  q27.2).bind fun q28 => ((f_X5_thrown  q28.2).bind fun q29 => if q29.1 = q27.1 then if q27.1 = 0 then if (lg_cmp ((q29.2 79 0).toInt64) (q28.1.toInt64)) = 0 then fL_L_law xs L n (x4 + 4) q29.2 else some (0, q29.2) else fL_L_law xs L n (x4 + 4) q29.2 else some (0, q29.2)))) else if ((xs x4.toNatClampNeg) &&& 31) = 12 then if inB (x4 + 1) L = true then if inB (x4 + 2) L = true then if (xs (x4 + 2).toNatClampNeg) = 0 then ((f_L_trusted (xs (x4 + 1).toNatClampNeg) 0 M).bind fun q30 => ((f_X5_trusted (xs (x4 + 1).toNatClampNeg) 0 q30.2).bind fun q31 => ((f_X5_thrown  q31.2).bind fun q32 => if q32.1 = q30.1 then if q30.1 = 0 then if (lg_cmp ((q32.2 79 0).toInt64) (q31.1.toInt64)) = 0 then fL_L_law xs L n (x4 + 4) q32.2 else some (0, q32.2) else fL_L_law xs L n (x4 + 4) q32.2 else some (0, q32.2)))) else ((f_L_trusted (xs (x4 + 1).toNatClampNeg) 1 M).bind fun q33 => ((f_X5_trusted (xs (x4 + 1).toNatClampNeg) 1 q33.2).bind fun q34 => ((f_X5_thrown  q34.2).bind fun q35 => if q35.1 = q33.1 then if q33.1 = 0 then if (lg_cmp ((q35.2 79 0).toInt64) (q34.1.toInt64)) = 0 then fL_L_law xs L n (x4 + 4) q35.2 else some (0, q35.2) else fL_L_law xs L n (x4 + 4) q35.2 else some (0, q35.2)))) else none else none else if ((xs x4.toNatClampNeg) &&& 31) = 13 then if inB (x4 + 1) L = true then if inB (x4 + 2) L = true then if inB (x4 + 3) L = true then ((f_L_seek ((lshl_ ((xs (x4 + 1).toNatClampNeg).toInt64) 32) ||| (((xs (x4 + 2).toNatClampNeg).toInt64) &&& 4294967295)) (xs (x4 + 3).toNatClampNeg) M).bind fun q36 => ((f_X5_seek ((lshl_ ((xs (x4 + 1).toNatClampNeg).toInt64) 32) ||| (((xs (x4 + 2).toNatClampNeg).toInt64) &&& 4294967295)) (xs (x4 + 3).toNatClampNeg) q36.2).bind fun q37 => ((f_X5_thrown  q37.2).bind fun q38 => if q38.1 = q36.1 then if q36.1 = 0 then if (lg_cmp ((q38.2 79 0).toInt64) (q37.1.toInt64)) = 0 then fL_L_law xs L n (x4 + 4) q38.2 else some (0, q38.2) else fL_L_law xs L n (x4 + 4) q38.2 else some (0, q38.2)))) else none else none else none else if ((xs x4.toNatClampNeg) &&& 31) = 14 then ((f_X4_visits  M).bind fun q39 => ((f_X5_visits  q39.2).bind fun q40 => if q39.1 = q40.1 then fL_L_law xs L n (x4 + 4) q40.2 else some (0, q40.2))) else if ((xs x4.toNatClampNeg) &&& 31) = 15 then if inB (x4 + 1) L = true then if inB (x4 + 2) L = true then if inB (x4 + 3) L = true then ((f_L_install ((lshl_ ((xs (x4 + 1).toNatClampNeg).toInt64) 32) ||| (((xs (x4 + 2).toNatClampNeg).toInt64) &&& 4294967295)) (xs (x4 + 3).toNatClampNeg) M).bind fun q41 => ((f_X5_install ((lshl_ ((xs (x4 + 1).toNatClampNeg).toInt64) 32) ||| (((xs (x4 + 2).toNatClampNeg).toInt64) &&& 4294967295)) (xs (x4 + 3).toNatClampNeg) q41.2).bind fun q42 => ((f_X5_thrown  q42.2).bind fun q43 => if q43.1 = q41.1 then if q41.1 = 0 then if (lg_cmp ((q43.2 79 0).toInt64) (q42.1.toInt64)) = 0 then fL_L_law xs L n (x4 + 4) q43.2 else some (0, q43.2) else fL_L_law xs L n (x4 + 4) q43.2 else some (0, q43.2)))) else none else none else none else if ((xs x4.toNatClampNeg) &&& 31) = 16 then ((f_X4_installed  M).bind fun q44 => ((f_X5_installed  q44.2).bind fun q45 => if q44.1 = q45.1 then fL_L_law xs L n (x4 + 4) q45.2 else some (0, q45.2))) else fL_L_law xs L n (x4 + 4) M else none
set_option maxHeartbeats 4000000 in
set_option maxRecDepth 100000 in
theorem L_law_loop {G : GG} {p : Program} {e : Env} {s : State} {m : MethodId} {below : List Frame} {meth : Method} {c : Code} {b L : Nat} {xs : Nat → Int32} (C : Cx G wsL_law RL cL_law 7 p s m #[Value.ref b] meth c) (hr : meth.sig.returnType = ret) (hX : va_X b L xs s s.heap) (hbl : b < s.heap.size) (hbA : ¬ wA G b) (hZ : zq G s s.heap) (hN : zN s) (hga : ∀ q, wA G q → s.heap.size ≤ q) : ∀ (n : Nat) (x4 : Int32) (M : Me) (y : Int32 × Me) (H : Heap) (locs : List Loc) (ls : Array Slot) (cells slots : Nat), cells + 2 * n ≤ 600096 → slots + 12 * n ≤ 7301386 → fL_L_law xs L n x4 M = some y → y.1 = 1 → wH G s M H locs → lv_has ls 7 [(0, .ref b), (1, .ref (ga G 72)), (2, .ref (ga G 73)), (3, .ref (ga G 79)), (4, .int x4)] → W p (gl G) e room_1 s m #[Value.ref b] below meth c H locs cells slots (lw_Z below #[Value.ref b] s) (F0 m 23 ls []) := by
  have hx := C.1
  have hb := C.2.1
  have hown := C.2.2.2.1
  have hts := C.2.2.2.2.1
  have hJ51 := hts (.constantLong RL 51 (4294967295)) (by decide +kernel)
  intro n
  induction n with
  | zero => intro x4 M y H locs ls cells slots hc hs h; exact nso h
  | succ n ih =>
    intro x4 M y H locs ls cells slots hc hs h hy hW hl
    rw [fL_L_law] at h
    refine lv_iload hx hb dL_law_23 (lv_at hl 4 rfl) ?_
    refine lv_aload_n hx hb dL_law_25 rfl (lv_at hl 0 rfl) ?_
    refine va_slen hx hb hX hbl hbA hW.2.2 dL_law_26 ?_
    refine lv_iconst (v := 4) hx hb dL_law_27 (by decide) ?_
    refine lv_isub hx hb dL_law_28 ?_
    refine lv_icmp_gt (tgt := 867) hx hb dL_law_29 (by decide) (fun c1 => ?_) (fun c1 => ?_)
    · replace h := ift h c1
      refine lv_iconst (v := 1) hx hb dL_law_867 (by decide) ?_
      exact lw_done C hr hga hW (by omega) (by omega) dL_law_868
    · replace h := iff_ h c1
      refine lv_aload_n hx hb dL_law_32 rfl (lv_at hl 0 rfl) ?_
      refine lv_iload hx hb dL_law_33 (lv_at hl 4 rfl) ?_
      obtain ⟨hg1, h⟩ := ifg h
      refine va_sld hx hb hX hbl hbA hW.2.2 (inB_in hg1) dL_law_35 ?_
      refine lv_bipush (v := 31) hx hb dL_law_36 (by decide) ?_
      refine lv_iand hx hb dL_law_38 ?_
      by_cases c2 : ((xs x4.toNatClampNeg) &&& 31) = 0
      · replace h := ift h c2
        refine lv_tableIn (tgt := 120) hx hb dL_law_39 (by rw [c2]; decide) (by rw [c2]; decide) (by rw [c2]; rfl) (by decide) ?_
        refine lv_aload_n hx hb dL_law_120 rfl (lv_at hl 1 rfl) ?_
        refine lv_aload_n hx hb dL_law_121 rfl (lv_at hl 0 rfl) ?_
        refine lv_iload hx hb dL_law_122 (lv_at hl 4 rfl) ?_
        refine lv_iconst (v := 1) hx hb dL_law_124 (by decide) ?_
        refine lv_iadd hx hb dL_law_125 ?_
        obtain ⟨hg2, h⟩ := ifg h
        refine va_sld hx hb hX hbl hbA hW.2.2 (inB_in hg2) dL_law_126 ?_
        refine lv_i2l (v := ((xs (x4 + 1).toNatClampNeg).toInt64)) hx hb dL_law_127 rfl ?_
        refine lv_bipush (v := 32) hx hb dL_law_128 (by decide) ?_
        refine lv_lshl (v := (lshl_ ((xs (x4 + 1).toNatClampNeg).toInt64) 32)) hx hb dL_law_130 rfl ?_
        refine lv_aload_n hx hb dL_law_131 rfl (lv_at hl 0 rfl) ?_
        refine lv_iload hx hb dL_law_132 (lv_at hl 4 rfl) ?_
        refine lv_iconst (v := 2) hx hb dL_law_134 (by decide) ?_
        refine lv_iadd hx hb dL_law_135 ?_
        obtain ⟨hg3, h⟩ := ifg h
        refine va_sld hx hb hX hbl hbA hW.2.2 (inB_in hg3) dL_law_136 ?_
        refine lv_i2l (v := ((xs (x4 + 2).toNatClampNeg).toInt64)) hx hb dL_law_137 rfl ?_
        refine lv_ldc2 (v := 4294967295) hx hb hown hJ51 dL_law_138 ?_
        refine lv_land hx hb dL_law_141 ?_
        refine lv_lor hx hb dL_law_142 ?_
        refine lv_aload_n hx hb dL_law_143 rfl (lv_at hl 0 rfl) ?_
        refine lv_iload hx hb dL_law_144 (lv_at hl 4 rfl) ?_
        refine lv_iconst (v := 3) hx hb dL_law_146 (by decide) ?_
        refine lv_iadd hx hb dL_law_147 ?_
        obtain ⟨hg4, h⟩ := ifg h
        refine va_sld hx hb hX hbl hbA hW.2.2 (inB_in hg4) dL_law_148 ?_
        obtain ⟨q1, hq1, h⟩ := ob h
        refine wc_Vi C hW (k := 72) (As := [.long ((lshl_ ((xs (x4 + 1).toNatClampNeg).toInt64) 32) ||| (((xs (x4 + 2).toNatClampNeg).toInt64) &&& 4294967295)), .int (xs (x4 + 3).toNatClampNeg)]) (rest := []) (c_X4_put G ((lshl_ ((xs (x4 + 1).toNatClampNeg).toInt64) 32) ||| (((xs (x4 + 2).toNatClampNeg).toInt64) &&& 4294967295)) (xs (x4 + 3).toNatClampNeg) M q1 hq1) k72 rfl (by decide) (cwV 2 hts gL_law_X4_put rfl rfl rfl yd_X4_put ⟨Nat.le_of_ble_eq_true rfl, Nat.le_of_ble_eq_true rfl⟩) rfl hl.1 rfl (Nat.le_of_ble_eq_true rfl) dL_law_149 ⟨by show cells ≤ 600096; omega, by show slots ≤ 7301386; omega⟩ (fun H locs hW => ?_)
        refine lv_aload_n hx hb dL_law_152 rfl (lv_at hl 2 rfl) ?_
        refine lv_aload_n hx hb dL_law_153 rfl (lv_at hl 0 rfl) ?_
        refine lv_iload hx hb dL_law_154 (lv_at hl 4 rfl) ?_
        refine lv_iconst (v := 1) hx hb dL_law_156 (by decide) ?_
        refine lv_iadd hx hb dL_law_157 ?_
        refine va_sld hx hb hX hbl hbA hW.2.2 (inB_in hg2) dL_law_158 ?_
        refine lv_i2l (v := ((xs (x4 + 1).toNatClampNeg).toInt64)) hx hb dL_law_159 rfl ?_
        refine lv_bipush (v := 32) hx hb dL_law_160 (by decide) ?_
        refine lv_lshl (v := (lshl_ ((xs (x4 + 1).toNatClampNeg).toInt64) 32)) hx hb dL_law_162 rfl ?_
        refine lv_aload_n hx hb dL_law_163 rfl (lv_at hl 0 rfl) ?_
        refine lv_iload hx hb dL_law_164 (lv_at hl 4 rfl) ?_
        refine lv_iconst (v := 2) hx hb dL_law_166 (by decide) ?_
        refine lv_iadd hx hb dL_law_167 ?_
        refine va_sld hx hb hX hbl hbA hW.2.2 (inB_in hg3) dL_law_168 ?_
        refine lv_i2l (v := ((xs (x4 + 2).toNatClampNeg).toInt64)) hx hb dL_law_169 rfl ?_
        refine lv_ldc2 (v := 4294967295) hx hb hown hJ51 dL_law_170 ?_
        refine lv_land hx hb dL_law_173 ?_
        refine lv_lor hx hb dL_law_174 ?_
        refine lv_aload_n hx hb dL_law_175 rfl (lv_at hl 0 rfl) ?_
        refine lv_iload hx hb dL_law_176 (lv_at hl 4 rfl) ?_
        refine lv_iconst (v := 3) hx hb dL_law_178 (by decide) ?_
        refine lv_iadd hx hb dL_law_179 ?_
        refine va_sld hx hb hX hbl hbA hW.2.2 (inB_in hg4) dL_law_180 ?_
        obtain ⟨q2, hq2, h⟩ := ob h
        refine wc_Vi C hW (k := 73) (As := [.long ((lshl_ ((xs (x4 + 1).toNatClampNeg).toInt64) 32) ||| (((xs (x4 + 2).toNatClampNeg).toInt64) &&& 4294967295)), .int (xs (x4 + 3).toNatClampNeg)]) (rest := [.int q1.1]) (c_X5_put G ((lshl_ ((xs (x4 + 1).toNatClampNeg).toInt64) 32) ||| (((xs (x4 + 2).toNatClampNeg).toInt64) &&& 4294967295)) (xs (x4 + 3).toNatClampNeg) q1.2 q2 hq2) k73 rfl (by decide) (cwV 2 hts gL_law_X5_put rfl rfl rfl yd_X5_put ⟨Nat.le_of_ble_eq_true rfl, Nat.le_of_ble_eq_true rfl⟩) rfl hl.1 rfl (Nat.le_of_ble_eq_true rfl) dL_law_181 ⟨by show cells ≤ 600096; omega, by show slots ≤ 7301386; omega⟩ (fun H locs hW => ?_)
        refine lv_icmp_eq (tgt := 861) hx hb dL_law_184 (by decide) (fun c3 => ?_) (fun c3 => ?_)
        · replace h := ift h c3
          refine lv_iinc (v := (x4 + 4)) (lv' := [(4, .int (x4 + 4)), (0, .ref b), (1, .ref (ga G 72)), (2, .ref (ga G 73)), (3, .ref (ga G 79))]) hx hb dL_law_861 hl (k := 4) rfl rfl (by decide) rfl (fun ls hl => ?_)
          refine lv_goto (tgt := 23) hx hb dL_law_864 (by decide) ?_
          exact W.widen (k := cells + 2) (n := slots + 12) (by omega) (by omega) (ih (x4 + 4) q2.2 y _ _ ls (cells + 2) (slots + 12) (by omega) (by omega) h hy hW (lv_sub hl [1, 2, 3, 4, 0] rfl))
        · replace h := iff_ h c3
          refine lv_iconst (v := 0) hx hb dL_law_187 (by decide) ?_
          cases h
          exact absurd (show (0 : Int32) = 1 from hy) (by decide)
      replace h := iff_ h c2
      by_cases c4 : ((xs x4.toNatClampNeg) &&& 31) = 1
      · replace h := ift h c4
        refine lv_tableIn (tgt := 189) hx hb dL_law_39 (by rw [c4]; decide) (by rw [c4]; decide) (by rw [c4]; rfl) (by decide) ?_
        refine lv_aload_n hx hb dL_law_189 rfl (lv_at hl 1 rfl) ?_
        refine lv_aload_n hx hb dL_law_190 rfl (lv_at hl 0 rfl) ?_
        refine lv_iload hx hb dL_law_191 (lv_at hl 4 rfl) ?_
        refine lv_iconst (v := 1) hx hb dL_law_193 (by decide) ?_
        refine lv_iadd hx hb dL_law_194 ?_
        obtain ⟨hg5, h⟩ := ifg h
        refine va_sld hx hb hX hbl hbA hW.2.2 (inB_in hg5) dL_law_195 ?_
        obtain ⟨q3, hq3, h⟩ := ob h
        refine wc_Vi C hW (k := 72) (As := [.int (xs (x4 + 1).toNatClampNeg)]) (rest := []) (c_X4_cut G (xs (x4 + 1).toNatClampNeg) M q3 hq3) k72 rfl (by decide) (cwV 1 hts gL_law_X4_cut rfl rfl rfl yd_X4_cut ⟨Nat.le_of_ble_eq_true rfl, Nat.le_of_ble_eq_true rfl⟩) rfl hl.1 rfl (Nat.le_of_ble_eq_true rfl) dL_law_196 ⟨by show cells ≤ 600096; omega, by show slots ≤ 7301386; omega⟩ (fun H locs hW => ?_)
        refine lv_aload_n hx hb dL_law_199 rfl (lv_at hl 2 rfl) ?_
        refine lv_aload_n hx hb dL_law_200 rfl (lv_at hl 0 rfl) ?_
        refine lv_iload hx hb dL_law_201 (lv_at hl 4 rfl) ?_
        refine lv_iconst (v := 1) hx hb dL_law_203 (by decide) ?_
        refine lv_iadd hx hb dL_law_204 ?_
        refine va_sld hx hb hX hbl hbA hW.2.2 (inB_in hg5) dL_law_205 ?_
        obtain ⟨q4, hq4, h⟩ := ob h
        refine wc_Vi C hW (k := 73) (As := [.int (xs (x4 + 1).toNatClampNeg)]) (rest := [.int q3.1]) (c_X5_cut G (xs (x4 + 1).toNatClampNeg) q3.2 q4 hq4) k73 rfl (by decide) (cwV 1 hts gL_law_X5_cut rfl rfl rfl yd_X5_cut ⟨Nat.le_of_ble_eq_true rfl, Nat.le_of_ble_eq_true rfl⟩) rfl hl.1 rfl (Nat.le_of_ble_eq_true rfl) dL_law_206 ⟨by show cells ≤ 600096; omega, by show slots ≤ 7301386; omega⟩ (fun H locs hW => ?_)
        refine lv_icmp_eq (tgt := 861) hx hb dL_law_209 (by decide) (fun c5 => ?_) (fun c5 => ?_)
        · replace h := ift h c5
          refine lv_iinc (v := (x4 + 4)) (lv' := [(4, .int (x4 + 4)), (0, .ref b), (1, .ref (ga G 72)), (2, .ref (ga G 73)), (3, .ref (ga G 79))]) hx hb dL_law_861 hl (k := 4) rfl rfl (by decide) rfl (fun ls hl => ?_)
          refine lv_goto (tgt := 23) hx hb dL_law_864 (by decide) ?_
          exact W.widen (k := cells + 2) (n := slots + 12) (by omega) (by omega) (ih (x4 + 4) q4.2 y _ _ ls (cells + 2) (slots + 12) (by omega) (by omega) h hy hW (lv_sub hl [1, 2, 3, 4, 0] rfl))
        · replace h := iff_ h c5
          refine lv_iconst (v := 0) hx hb dL_law_212 (by decide) ?_
          cases h
          exact absurd (show (0 : Int32) = 1 from hy) (by decide)
      replace h := iff_ h c4
      by_cases c6 : ((xs x4.toNatClampNeg) &&& 31) = 2
      · replace h := ift h c6
        refine lv_tableIn (tgt := 214) hx hb dL_law_39 (by rw [c6]; decide) (by rw [c6]; decide) (by rw [c6]; rfl) (by decide) ?_
        refine lv_aload_n hx hb dL_law_214 rfl (lv_at hl 1 rfl) ?_
        refine lv_aload_n hx hb dL_law_215 rfl (lv_at hl 0 rfl) ?_
        refine lv_iload hx hb dL_law_216 (lv_at hl 4 rfl) ?_
        refine lv_iconst (v := 1) hx hb dL_law_218 (by decide) ?_
        refine lv_iadd hx hb dL_law_219 ?_
        obtain ⟨hg6, h⟩ := ifg h
        refine va_sld hx hb hX hbl hbA hW.2.2 (inB_in hg6) dL_law_220 ?_
        refine lv_aload_n hx hb dL_law_221 rfl (lv_at hl 0 rfl) ?_
        refine lv_iload hx hb dL_law_222 (lv_at hl 4 rfl) ?_
        refine lv_iconst (v := 2) hx hb dL_law_224 (by decide) ?_
        refine lv_iadd hx hb dL_law_225 ?_
        obtain ⟨hg7, h⟩ := ifg h
        refine va_sld hx hb hX hbl hbA hW.2.2 (inB_in hg7) dL_law_226 ?_
        obtain ⟨q5, hq5, h⟩ := ob h
        refine wc_Vi C hW (k := 72) (As := [.int (xs (x4 + 1).toNatClampNeg), .int (xs (x4 + 2).toNatClampNeg)]) (rest := []) (c_X4_alter G (xs (x4 + 1).toNatClampNeg) (xs (x4 + 2).toNatClampNeg) M q5 hq5) k72 rfl (by decide) (cwV 2 hts gL_law_X4_alter rfl rfl rfl yd_X4_alter ⟨Nat.le_of_ble_eq_true rfl, Nat.le_of_ble_eq_true rfl⟩) rfl hl.1 rfl (Nat.le_of_ble_eq_true rfl) dL_law_227 ⟨by show cells ≤ 600096; omega, by show slots ≤ 7301386; omega⟩ (fun H locs hW => ?_)
        refine lv_aload_n hx hb dL_law_230 rfl (lv_at hl 2 rfl) ?_
        refine lv_aload_n hx hb dL_law_231 rfl (lv_at hl 0 rfl) ?_
        refine lv_iload hx hb dL_law_232 (lv_at hl 4 rfl) ?_
        refine lv_iconst (v := 1) hx hb dL_law_234 (by decide) ?_
        refine lv_iadd hx hb dL_law_235 ?_
        refine va_sld hx hb hX hbl hbA hW.2.2 (inB_in hg6) dL_law_236 ?_
        refine lv_aload_n hx hb dL_law_237 rfl (lv_at hl 0 rfl) ?_
        refine lv_iload hx hb dL_law_238 (lv_at hl 4 rfl) ?_
        refine lv_iconst (v := 2) hx hb dL_law_240 (by decide) ?_
        refine lv_iadd hx hb dL_law_241 ?_
        refine va_sld hx hb hX hbl hbA hW.2.2 (inB_in hg7) dL_law_242 ?_
        obtain ⟨q6, hq6, h⟩ := ob h
        refine wc_Vi C hW (k := 73) (As := [.int (xs (x4 + 1).toNatClampNeg), .int (xs (x4 + 2).toNatClampNeg)]) (rest := [.int q5.1]) (c_X5_alter G (xs (x4 + 1).toNatClampNeg) (xs (x4 + 2).toNatClampNeg) q5.2 q6 hq6) k73 rfl (by decide) (cwV 2 hts gL_law_X5_alter rfl rfl rfl yd_X5_alter ⟨Nat.le_of_ble_eq_true rfl, Nat.le_of_ble_eq_true rfl⟩) rfl hl.1 rfl (Nat.le_of_ble_eq_true rfl) dL_law_243 ⟨by show cells ≤ 600096; omega, by show slots ≤ 7301386; omega⟩ (fun H locs hW => ?_)
        refine lv_icmp_eq (tgt := 861) hx hb dL_law_246 (by decide) (fun c7 => ?_) (fun c7 => ?_)
        · replace h := ift h c7
          refine lv_iinc (v := (x4 + 4)) (lv' := [(4, .int (x4 + 4)), (0, .ref b), (1, .ref (ga G 72)), (2, .ref (ga G 73)), (3, .ref (ga G 79))]) hx hb dL_law_861 hl (k := 4) rfl rfl (by decide) rfl (fun ls hl => ?_)
          refine lv_goto (tgt := 23) hx hb dL_law_864 (by decide) ?_
          exact W.widen (k := cells + 2) (n := slots + 12) (by omega) (by omega) (ih (x4 + 4) q6.2 y _ _ ls (cells + 2) (slots + 12) (by omega) (by omega) h hy hW (lv_sub hl [1, 2, 3, 4, 0] rfl))
        · replace h := iff_ h c7
          refine lv_iconst (v := 0) hx hb dL_law_249 (by decide) ?_
          cases h
          exact absurd (show (0 : Int32) = 1 from hy) (by decide)
      replace h := iff_ h c6
      by_cases c8 : ((xs x4.toNatClampNeg) &&& 31) = 3
      · replace h := ift h c8
        refine lv_tableIn (tgt := 251) hx hb dL_law_39 (by rw [c8]; decide) (by rw [c8]; decide) (by rw [c8]; rfl) (by decide) ?_
        refine lv_aload_n hx hb dL_law_251 rfl (lv_at hl 1 rfl) ?_
        obtain ⟨q7, hq7, h⟩ := ob h
        refine wc_Vi C hW (k := 72) (As := []) (rest := []) (c_X4_length G  M q7 hq7) k72 rfl (by decide) (cwV 0 hts gL_law_X4_length rfl rfl rfl yd_X4_length ⟨Nat.le_of_ble_eq_true rfl, Nat.le_of_ble_eq_true rfl⟩) rfl hl.1 rfl (Nat.le_of_ble_eq_true rfl) dL_law_252 ⟨by show cells ≤ 600096; omega, by show slots ≤ 7301386; omega⟩ (fun H locs hW => ?_)
        refine lv_aload_n hx hb dL_law_255 rfl (lv_at hl 2 rfl) ?_
        obtain ⟨q8, hq8, h⟩ := ob h
        refine wc_Vi C hW (k := 73) (As := []) (rest := [.int q7.1]) (c_X5_length G  q7.2 q8 hq8) k73 rfl (by decide) (cwV 0 hts gL_law_X5_length rfl rfl rfl yd_X5_length ⟨Nat.le_of_ble_eq_true rfl, Nat.le_of_ble_eq_true rfl⟩) rfl hl.1 rfl (Nat.le_of_ble_eq_true rfl) dL_law_256 ⟨by show cells ≤ 600096; omega, by show slots ≤ 7301386; omega⟩ (fun H locs hW => ?_)
        refine lv_icmp_eq (tgt := 861) hx hb dL_law_259 (by decide) (fun c9 => ?_) (fun c9 => ?_)
        · replace h := ift h c9
          refine lv_iinc (v := (x4 + 4)) (lv' := [(4, .int (x4 + 4)), (0, .ref b), (1, .ref (ga G 72)), (2, .ref (ga G 73)), (3, .ref (ga G 79))]) hx hb dL_law_861 hl (k := 4) rfl rfl (by decide) rfl (fun ls hl => ?_)
          refine lv_goto (tgt := 23) hx hb dL_law_864 (by decide) ?_
          exact W.widen (k := cells + 2) (n := slots + 12) (by omega) (by omega) (ih (x4 + 4) q8.2 y _ _ ls (cells + 2) (slots + 12) (by omega) (by omega) h hy hW (lv_sub hl [1, 2, 3, 4, 0] rfl))
        · replace h := iff_ h c9
          refine lv_iconst (v := 0) hx hb dL_law_262 (by decide) ?_
          cases h
          exact absurd (show (0 : Int32) = 1 from hy) (by decide)
      replace h := iff_ h c8
      by_cases c10 : ((xs x4.toNatClampNeg) &&& 31) = 4
      · replace h := ift h c10
        refine lv_tableIn (tgt := 264) hx hb dL_law_39 (by rw [c10]; decide) (by rw [c10]; decide) (by rw [c10]; rfl) (by decide) ?_
        refine lv_aload_n hx hb dL_law_264 rfl (lv_at hl 1 rfl) ?_
        refine lv_aload_n hx hb dL_law_265 rfl (lv_at hl 0 rfl) ?_
        refine lv_iload hx hb dL_law_266 (lv_at hl 4 rfl) ?_
        refine lv_iconst (v := 1) hx hb dL_law_268 (by decide) ?_
        refine lv_iadd hx hb dL_law_269 ?_
        obtain ⟨hg8, h⟩ := ifg h
        refine va_sld hx hb hX hbl hbA hW.2.2 (inB_in hg8) dL_law_270 ?_
        refine lv_aload_n hx hb dL_law_271 rfl (lv_at hl 3 rfl) ?_
        obtain ⟨q9, hq9, h⟩ := ob h
        refine wcl_S C hZ hN hW (As := [.ref (ga G 72), .int (xs (x4 + 1).toNatClampNeg), .ref (ga G 79)]) (rest := []) (c_L_at G (xs (x4 + 1).toNatClampNeg) M q9 hq9) (vx_cwSW 3 hts gL_law_L_at rfl rfl rfl yd_L_at ⟨Nat.le_of_ble_eq_true rfl, Nat.le_of_ble_eq_true rfl⟩) rfl hl.1 rfl (Nat.le_of_ble_eq_true rfl) dL_law_272 ⟨by show cells + 1 ≤ 600096; omega, by show slots + 6 ≤ 7301386; omega⟩ (fun H locs hW => ?_)
        refine lv_istore (lv' := [(5, .int q9.1), (0, .ref b), (1, .ref (ga G 72)), (2, .ref (ga G 73)), (3, .ref (ga G 79)), (4, .int x4)]) hx hb dL_law_275 hl (by decide) rfl (fun ls hl => ?_)
        refine lv_aload_n hx hb dL_law_277 rfl (lv_at hl 3 rfl) ?_
        refine lv_aload_n hx hb dL_law_278 rfl (lv_at hl 1 rfl) ?_
        refine lv_iload hx hb dL_law_279 (lv_at hl 5 rfl) ?_
        refine lv_iconst (v := 1) hx hb dL_law_281 (by decide) ?_
        refine lv_iadd hx hb dL_law_282 ?_
        refine va_sld hx hb hX hbl hbA hW.2.2 (inB_in hg8) dL_law_283 ?_
        obtain ⟨q10, hq10, h⟩ := ob h
        refine wc_Vi C hW (k := 73) (As := [.int (xs (x4 + 1).toNatClampNeg)]) (rest := []) (c_X5_at G (xs (x4 + 1).toNatClampNeg) q9.2 q10 hq10) k73 rfl (by decide) (cwV 1 hts gL_law_X5_at rfl rfl rfl yd_X5_at ⟨Nat.le_of_ble_eq_true rfl, Nat.le_of_ble_eq_true rfl⟩) rfl hl.1 rfl (Nat.le_of_ble_eq_true rfl) dL_law_284 ⟨by show cells + 1 ≤ 600096; omega, by show slots + 6 ≤ 7301386; omega⟩ (fun H locs hW => ?_)
        refine lv_istore (lv' := [(6, .int q10.1), (5, .int q9.1), (0, .ref b), (1, .ref (ga G 72)), (2, .ref (ga G 73)), (3, .ref (ga G 79)), (4, .int x4)]) hx hb dL_law_287 hl (by decide) rfl (fun ls hl => ?_)
        refine lv_aload_n hx hb dL_law_289 rfl (lv_at hl 4 rfl) ?_
        obtain ⟨q11, hq11, h⟩ := ob h
        refine wc_Vi C hW (k := 73) (As := []) (rest := []) (c_X5_thrown G  q10.2 q11 hq11) k73 rfl (by decide) (cwV 0 hts gL_law_X5_thrown rfl rfl rfl yd_X5_thrown ⟨Nat.le_of_ble_eq_true rfl, Nat.le_of_ble_eq_true rfl⟩) rfl hl.1 rfl (Nat.le_of_ble_eq_true rfl) dL_law_290 ⟨by show cells + 1 ≤ 600096; omega, by show slots + 6 ≤ 7301386; omega⟩ (fun H locs hW => ?_)
        refine lv_iload hx hb dL_law_293 (lv_at hl 1 rfl) ?_
        refine lv_icmp_eq (tgt := 300) hx hb dL_law_295 (by decide) (fun c11 => ?_) (fun c11 => ?_)
        · replace h := ift h c11
          refine lv_iload hx hb dL_law_300 (lv_at hl 1 rfl) ?_
          refine lv_if_ne (tgt := 317) hx hb dL_law_302 (by decide) (fun c12 => ?_) (fun c12 => ?_)
          · replace h := iff_ h c12
            refine lv_goto (tgt := 861) hx hb dL_law_317 (by decide) ?_
            refine lv_iinc (v := (x4 + 4)) (lv' := [(4, .int (x4 + 4)), (6, .int q10.1), (5, .int q9.1), (0, .ref b), (1, .ref (ga G 72)), (2, .ref (ga G 73)), (3, .ref (ga G 79))]) hx hb dL_law_861 hl (k := 6) rfl rfl (by decide) rfl (fun ls hl => ?_)
            refine lv_goto (tgt := 23) hx hb dL_law_864 (by decide) ?_
            exact W.widen (k := cells + 2) (n := slots + 12) (by omega) (by omega) (ih (x4 + 4) q11.2 y _ _ ls (cells + 2) (slots + 12) (by omega) (by omega) h hy hW (lv_sub hl [3, 4, 5, 6, 0] rfl))
          · replace h := ift h c12
            refine lv_aload_n hx hb dL_law_305 rfl (lv_at hl 5 rfl) ?_
            refine lv_iconst (v := 0) hx hb dL_law_306 (by decide) ?_
            refine wl_l C hW (k := 79) k79 (by decide) dL_law_307 (v := (q11.2 79 0)) (congrArg (q11.2 79) (by decide)) ?_
            refine lv_iload hx hb dL_law_308 (lv_at hl 0 rfl) ?_
            refine lv_i2l (v := (q10.1.toInt64)) hx hb dL_law_310 rfl ?_
            refine W.lcmp hx hb dL_law_311 ?_
            refine lv_if_eq (tgt := 317) hx hb dL_law_312 (by decide) (fun c13 => ?_) (fun c13 => ?_)
            · replace h := ift h c13
              refine lv_goto (tgt := 861) hx hb dL_law_317 (by decide) ?_
              refine lv_iinc (v := (x4 + 4)) (lv' := [(4, .int (x4 + 4)), (6, .int q10.1), (5, .int q9.1), (0, .ref b), (1, .ref (ga G 72)), (2, .ref (ga G 73)), (3, .ref (ga G 79))]) hx hb dL_law_861 hl (k := 6) rfl rfl (by decide) rfl (fun ls hl => ?_)
              refine lv_goto (tgt := 23) hx hb dL_law_864 (by decide) ?_
              exact W.widen (k := cells + 2) (n := slots + 12) (by omega) (by omega) (ih (x4 + 4) q11.2 y _ _ ls (cells + 2) (slots + 12) (by omega) (by omega) h hy hW (lv_sub hl [3, 4, 5, 6, 0] rfl))
            · replace h := iff_ h c13
              refine lv_iconst (v := 0) hx hb dL_law_315 (by decide) ?_
              cases h
              exact absurd (show (0 : Int32) = 1 from hy) (by decide)
        · replace h := iff_ h c11
          refine lv_iconst (v := 0) hx hb dL_law_298 (by decide) ?_
          cases h
          exact absurd (show (0 : Int32) = 1 from hy) (by decide)
      replace h := iff_ h c10
      by_cases c14 : ((xs x4.toNatClampNeg) &&& 31) = 5
      · replace h := ift h c14
        refine lv_tableIn (tgt := 320) hx hb dL_law_39 (by rw [c14]; decide) (by rw [c14]; decide) (by rw [c14]; rfl) (by decide) ?_
        refine lv_aload_n hx hb dL_law_320 rfl (lv_at hl 1 rfl) ?_
        refine lv_aload_n hx hb dL_law_321 rfl (lv_at hl 0 rfl) ?_
        refine lv_iload hx hb dL_law_322 (lv_at hl 4 rfl) ?_
        refine lv_iconst (v := 1) hx hb dL_law_324 (by decide) ?_
        refine lv_iadd hx hb dL_law_325 ?_
        obtain ⟨hg9, h⟩ := ifg h
        refine va_sld hx hb hX hbl hbA hW.2.2 (inB_in hg9) dL_law_326 ?_
        obtain ⟨q12, hq12, h⟩ := ob h
        refine wc_Vi C hW (k := 72) (As := [.int (xs (x4 + 1).toNatClampNeg)]) (rest := []) (c_X4_mix G (xs (x4 + 1).toNatClampNeg) M q12 hq12) k72 rfl (by decide) (cwV 1 hts gL_law_X4_mix rfl rfl rfl yd_X4_mix ⟨Nat.le_of_ble_eq_true rfl, Nat.le_of_ble_eq_true rfl⟩) rfl hl.1 rfl (Nat.le_of_ble_eq_true rfl) dL_law_327 ⟨by show cells ≤ 600096; omega, by show slots ≤ 7301386; omega⟩ (fun H locs hW => ?_)
        refine lv_aload_n hx hb dL_law_330 rfl (lv_at hl 2 rfl) ?_
        refine lv_aload_n hx hb dL_law_331 rfl (lv_at hl 0 rfl) ?_
        refine lv_iload hx hb dL_law_332 (lv_at hl 4 rfl) ?_
        refine lv_iconst (v := 1) hx hb dL_law_334 (by decide) ?_
        refine lv_iadd hx hb dL_law_335 ?_
        refine va_sld hx hb hX hbl hbA hW.2.2 (inB_in hg9) dL_law_336 ?_
        obtain ⟨q13, hq13, h⟩ := ob h
        refine wc_Vi C hW (k := 73) (As := [.int (xs (x4 + 1).toNatClampNeg)]) (rest := [.int q12.1]) (c_X5_mix G (xs (x4 + 1).toNatClampNeg) q12.2 q13 hq13) k73 rfl (by decide) (cwV 1 hts gL_law_X5_mix rfl rfl rfl yd_X5_mix ⟨Nat.le_of_ble_eq_true rfl, Nat.le_of_ble_eq_true rfl⟩) rfl hl.1 rfl (Nat.le_of_ble_eq_true rfl) dL_law_337 ⟨by show cells ≤ 600096; omega, by show slots ≤ 7301386; omega⟩ (fun H locs hW => ?_)
        refine lv_icmp_eq (tgt := 861) hx hb dL_law_340 (by decide) (fun c15 => ?_) (fun c15 => ?_)
        · replace h := ift h c15
          refine lv_iinc (v := (x4 + 4)) (lv' := [(4, .int (x4 + 4)), (0, .ref b), (1, .ref (ga G 72)), (2, .ref (ga G 73)), (3, .ref (ga G 79))]) hx hb dL_law_861 hl (k := 4) rfl rfl (by decide) rfl (fun ls hl => ?_)
          refine lv_goto (tgt := 23) hx hb dL_law_864 (by decide) ?_
          exact W.widen (k := cells + 2) (n := slots + 12) (by omega) (by omega) (ih (x4 + 4) q13.2 y _ _ ls (cells + 2) (slots + 12) (by omega) (by omega) h hy hW (lv_sub hl [1, 2, 3, 4, 0] rfl))
        · replace h := iff_ h c15
          refine lv_iconst (v := 0) hx hb dL_law_343 (by decide) ?_
          cases h
          exact absurd (show (0 : Int32) = 1 from hy) (by decide)
      replace h := iff_ h c14
      by_cases c16 : ((xs x4.toNatClampNeg) &&& 31) = 6
      · replace h := ift h c16
        refine lv_tableIn (tgt := 345) hx hb dL_law_39 (by rw [c16]; decide) (by rw [c16]; decide) (by rw [c16]; rfl) (by decide) ?_
        refine lv_aload_n hx hb dL_law_345 rfl (lv_at hl 1 rfl) ?_
        obtain ⟨q14, hq14, h⟩ := ob h
        refine wc_Vi C hW (k := 72) (As := []) (rest := []) (c_X4_digest G  M q14 hq14) k72 rfl (by decide) (cwV 0 hts gL_law_X4_digest rfl rfl rfl yd_X4_digest ⟨Nat.le_of_ble_eq_true rfl, Nat.le_of_ble_eq_true rfl⟩) rfl hl.1 rfl (Nat.le_of_ble_eq_true rfl) dL_law_346 ⟨by show cells ≤ 600096; omega, by show slots ≤ 7301386; omega⟩ (fun H locs hW => ?_)
        refine lv_aload_n hx hb dL_law_349 rfl (lv_at hl 2 rfl) ?_
        obtain ⟨q15, hq15, h⟩ := ob h
        refine wc_Vi C hW (k := 73) (As := []) (rest := [.int q14.1]) (c_X5_digest G  q14.2 q15 hq15) k73 rfl (by decide) (cwV 0 hts gL_law_X5_digest rfl rfl rfl yd_X5_digest ⟨Nat.le_of_ble_eq_true rfl, Nat.le_of_ble_eq_true rfl⟩) rfl hl.1 rfl (Nat.le_of_ble_eq_true rfl) dL_law_350 ⟨by show cells ≤ 600096; omega, by show slots ≤ 7301386; omega⟩ (fun H locs hW => ?_)
        refine lv_icmp_eq (tgt := 861) hx hb dL_law_353 (by decide) (fun c17 => ?_) (fun c17 => ?_)
        · replace h := ift h c17
          refine lv_iinc (v := (x4 + 4)) (lv' := [(4, .int (x4 + 4)), (0, .ref b), (1, .ref (ga G 72)), (2, .ref (ga G 73)), (3, .ref (ga G 79))]) hx hb dL_law_861 hl (k := 4) rfl rfl (by decide) rfl (fun ls hl => ?_)
          refine lv_goto (tgt := 23) hx hb dL_law_864 (by decide) ?_
          exact W.widen (k := cells + 2) (n := slots + 12) (by omega) (by omega) (ih (x4 + 4) q15.2 y _ _ ls (cells + 2) (slots + 12) (by omega) (by omega) h hy hW (lv_sub hl [1, 2, 3, 4, 0] rfl))
        · replace h := iff_ h c17
          refine lv_iconst (v := 0) hx hb dL_law_356 (by decide) ?_
          cases h
          exact absurd (show (0 : Int32) = 1 from hy) (by decide)
      replace h := iff_ h c16
      by_cases c18 : ((xs x4.toNatClampNeg) &&& 31) = 7
      · replace h := ift h c18
        refine lv_tableIn (tgt := 358) hx hb dL_law_39 (by rw [c18]; decide) (by rw [c18]; decide) (by rw [c18]; rfl) (by decide) ?_
        refine lv_aload_n hx hb dL_law_358 rfl (lv_at hl 1 rfl) ?_
        refine lv_aload_n hx hb dL_law_359 rfl (lv_at hl 0 rfl) ?_
        refine lv_iload hx hb dL_law_360 (lv_at hl 4 rfl) ?_
        refine lv_iconst (v := 1) hx hb dL_law_362 (by decide) ?_
        refine lv_iadd hx hb dL_law_363 ?_
        obtain ⟨hg10, h⟩ := ifg h
        refine va_sld hx hb hX hbl hbA hW.2.2 (inB_in hg10) dL_law_364 ?_
        refine lv_aload_n hx hb dL_law_365 rfl (lv_at hl 3 rfl) ?_
        obtain ⟨q16, hq16, h⟩ := ob h
        refine wcl_S C hZ hN hW (As := [.ref (ga G 72), .int (xs (x4 + 1).toNatClampNeg), .ref (ga G 79)]) (rest := []) (c_L_sign G (xs (x4 + 1).toNatClampNeg) M q16 hq16) (vx_cwSW 3 hts gL_law_L_sign rfl rfl rfl yd_L_sign ⟨Nat.le_of_ble_eq_true rfl, Nat.le_of_ble_eq_true rfl⟩) rfl hl.1 rfl (Nat.le_of_ble_eq_true rfl) dL_law_366 ⟨by show cells + 1 ≤ 600096; omega, by show slots + 6 ≤ 7301386; omega⟩ (fun H locs hW => ?_)
        refine lv_istore (lv' := [(5, .int q16.1), (0, .ref b), (1, .ref (ga G 72)), (2, .ref (ga G 73)), (3, .ref (ga G 79)), (4, .int x4)]) hx hb dL_law_369 hl (by decide) rfl (fun ls hl => ?_)
        refine lv_aload_n hx hb dL_law_371 rfl (lv_at hl 3 rfl) ?_
        refine lv_aload_n hx hb dL_law_372 rfl (lv_at hl 1 rfl) ?_
        refine lv_iload hx hb dL_law_373 (lv_at hl 5 rfl) ?_
        refine lv_iconst (v := 1) hx hb dL_law_375 (by decide) ?_
        refine lv_iadd hx hb dL_law_376 ?_
        refine va_sld hx hb hX hbl hbA hW.2.2 (inB_in hg10) dL_law_377 ?_
        obtain ⟨q17, hq17, h⟩ := ob h
        refine wc_Vi C hW (k := 73) (As := [.int (xs (x4 + 1).toNatClampNeg)]) (rest := []) (c_X5_sign G (xs (x4 + 1).toNatClampNeg) q16.2 q17 hq17) k73 rfl (by decide) (cwV 1 hts gL_law_X5_sign rfl rfl rfl yd_X5_sign ⟨Nat.le_of_ble_eq_true rfl, Nat.le_of_ble_eq_true rfl⟩) rfl hl.1 rfl (Nat.le_of_ble_eq_true rfl) dL_law_378 ⟨by show cells + 1 ≤ 600096; omega, by show slots + 6 ≤ 7301386; omega⟩ (fun H locs hW => ?_)
        refine lv_istore (lv' := [(6, .int q17.1), (5, .int q16.1), (0, .ref b), (1, .ref (ga G 72)), (2, .ref (ga G 73)), (3, .ref (ga G 79)), (4, .int x4)]) hx hb dL_law_381 hl (by decide) rfl (fun ls hl => ?_)
        refine lv_aload_n hx hb dL_law_383 rfl (lv_at hl 4 rfl) ?_
        obtain ⟨q18, hq18, h⟩ := ob h
        refine wc_Vi C hW (k := 73) (As := []) (rest := []) (c_X5_thrown G  q17.2 q18 hq18) k73 rfl (by decide) (cwV 0 hts gL_law_X5_thrown rfl rfl rfl yd_X5_thrown ⟨Nat.le_of_ble_eq_true rfl, Nat.le_of_ble_eq_true rfl⟩) rfl hl.1 rfl (Nat.le_of_ble_eq_true rfl) dL_law_384 ⟨by show cells + 1 ≤ 600096; omega, by show slots + 6 ≤ 7301386; omega⟩ (fun H locs hW => ?_)
        refine lv_iload hx hb dL_law_387 (lv_at hl 1 rfl) ?_
        refine lv_icmp_eq (tgt := 394) hx hb dL_law_389 (by decide) (fun c19 => ?_) (fun c19 => ?_)
        · replace h := ift h c19
          refine lv_iload hx hb dL_law_394 (lv_at hl 1 rfl) ?_
          refine lv_if_ne (tgt := 411) hx hb dL_law_396 (by decide) (fun c20 => ?_) (fun c20 => ?_)
          · replace h := iff_ h c20
            refine lv_goto (tgt := 861) hx hb dL_law_411 (by decide) ?_
            refine lv_iinc (v := (x4 + 4)) (lv' := [(4, .int (x4 + 4)), (6, .int q17.1), (5, .int q16.1), (0, .ref b), (1, .ref (ga G 72)), (2, .ref (ga G 73)), (3, .ref (ga G 79))]) hx hb dL_law_861 hl (k := 6) rfl rfl (by decide) rfl (fun ls hl => ?_)
            refine lv_goto (tgt := 23) hx hb dL_law_864 (by decide) ?_
            exact W.widen (k := cells + 2) (n := slots + 12) (by omega) (by omega) (ih (x4 + 4) q18.2 y _ _ ls (cells + 2) (slots + 12) (by omega) (by omega) h hy hW (lv_sub hl [3, 4, 5, 6, 0] rfl))
          · replace h := ift h c20
            refine lv_aload_n hx hb dL_law_399 rfl (lv_at hl 5 rfl) ?_
            refine lv_iconst (v := 0) hx hb dL_law_400 (by decide) ?_
            refine wl_l C hW (k := 79) k79 (by decide) dL_law_401 (v := (q18.2 79 0)) (congrArg (q18.2 79) (by decide)) ?_
            refine lv_iload hx hb dL_law_402 (lv_at hl 0 rfl) ?_
            refine lv_i2l (v := (q17.1.toInt64)) hx hb dL_law_404 rfl ?_
            refine W.lcmp hx hb dL_law_405 ?_
            refine lv_if_eq (tgt := 411) hx hb dL_law_406 (by decide) (fun c21 => ?_) (fun c21 => ?_)
            · replace h := ift h c21
              refine lv_goto (tgt := 861) hx hb dL_law_411 (by decide) ?_
              refine lv_iinc (v := (x4 + 4)) (lv' := [(4, .int (x4 + 4)), (6, .int q17.1), (5, .int q16.1), (0, .ref b), (1, .ref (ga G 72)), (2, .ref (ga G 73)), (3, .ref (ga G 79))]) hx hb dL_law_861 hl (k := 6) rfl rfl (by decide) rfl (fun ls hl => ?_)
              refine lv_goto (tgt := 23) hx hb dL_law_864 (by decide) ?_
              exact W.widen (k := cells + 2) (n := slots + 12) (by omega) (by omega) (ih (x4 + 4) q18.2 y _ _ ls (cells + 2) (slots + 12) (by omega) (by omega) h hy hW (lv_sub hl [3, 4, 5, 6, 0] rfl))
            · replace h := iff_ h c21
              refine lv_iconst (v := 0) hx hb dL_law_409 (by decide) ?_
              cases h
              exact absurd (show (0 : Int32) = 1 from hy) (by decide)
        · replace h := iff_ h c19
          refine lv_iconst (v := 0) hx hb dL_law_392 (by decide) ?_
          cases h
          exact absurd (show (0 : Int32) = 1 from hy) (by decide)
      replace h := iff_ h c18
      by_cases c22 : ((xs x4.toNatClampNeg) &&& 31) = 8
      · replace h := ift h c22
        refine lv_tableIn (tgt := 414) hx hb dL_law_39 (by rw [c22]; decide) (by rw [c22]; decide) (by rw [c22]; rfl) (by decide) ?_
        refine lv_aload_n hx hb dL_law_414 rfl (lv_at hl 1 rfl) ?_
        obtain ⟨q19, hq19, h⟩ := ob h
        refine wc_Vi C hW (k := 72) (As := []) (rest := []) (c_X4_content G  M q19 hq19) k72 rfl (by decide) (cwV 0 hts gL_law_X4_content rfl rfl rfl yd_X4_content ⟨Nat.le_of_ble_eq_true rfl, Nat.le_of_ble_eq_true rfl⟩) rfl hl.1 rfl (Nat.le_of_ble_eq_true rfl) dL_law_415 ⟨by show cells ≤ 600096; omega, by show slots ≤ 7301386; omega⟩ (fun H locs hW => ?_)
        refine lv_aload_n hx hb dL_law_418 rfl (lv_at hl 2 rfl) ?_
        obtain ⟨q20, hq20, h⟩ := ob h
        refine wc_Vi C hW (k := 73) (As := []) (rest := [.int q19.1]) (c_X5_content G  q19.2 q20 hq20) k73 rfl (by decide) (cwV 0 hts gL_law_X5_content rfl rfl rfl yd_X5_content ⟨Nat.le_of_ble_eq_true rfl, Nat.le_of_ble_eq_true rfl⟩) rfl hl.1 rfl (Nat.le_of_ble_eq_true rfl) dL_law_419 ⟨by show cells ≤ 600096; omega, by show slots ≤ 7301386; omega⟩ (fun H locs hW => ?_)
        refine lv_icmp_eq (tgt := 861) hx hb dL_law_422 (by decide) (fun c23 => ?_) (fun c23 => ?_)
        · replace h := ift h c23
          refine lv_iinc (v := (x4 + 4)) (lv' := [(4, .int (x4 + 4)), (0, .ref b), (1, .ref (ga G 72)), (2, .ref (ga G 73)), (3, .ref (ga G 79))]) hx hb dL_law_861 hl (k := 4) rfl rfl (by decide) rfl (fun ls hl => ?_)
          refine lv_goto (tgt := 23) hx hb dL_law_864 (by decide) ?_
          exact W.widen (k := cells + 2) (n := slots + 12) (by omega) (by omega) (ih (x4 + 4) q20.2 y _ _ ls (cells + 2) (slots + 12) (by omega) (by omega) h hy hW (lv_sub hl [1, 2, 3, 4, 0] rfl))
        · replace h := iff_ h c23
          refine lv_iconst (v := 0) hx hb dL_law_425 (by decide) ?_
          cases h
          exact absurd (show (0 : Int32) = 1 from hy) (by decide)
      replace h := iff_ h c22
      by_cases c24 : ((xs x4.toNatClampNeg) &&& 31) = 9
      · replace h := ift h c24
        refine lv_tableIn (tgt := 427) hx hb dL_law_39 (by rw [c24]; decide) (by rw [c24]; decide) (by rw [c24]; rfl) (by decide) ?_
        refine lv_aload_n hx hb dL_law_427 rfl (lv_at hl 1 rfl) ?_
        refine lv_aload_n hx hb dL_law_428 rfl (lv_at hl 0 rfl) ?_
        refine lv_iload hx hb dL_law_429 (lv_at hl 4 rfl) ?_
        refine lv_iconst (v := 1) hx hb dL_law_431 (by decide) ?_
        refine lv_iadd hx hb dL_law_432 ?_
        obtain ⟨hg11, h⟩ := ifg h
        refine va_sld hx hb hX hbl hbA hW.2.2 (inB_in hg11) dL_law_433 ?_
        refine lv_aload_n hx hb dL_law_434 rfl (lv_at hl 3 rfl) ?_
        obtain ⟨q21, hq21, h⟩ := ob h
        refine wcl_S C hZ hN hW (As := [.ref (ga G 72), .int (xs (x4 + 1).toNatClampNeg), .ref (ga G 79)]) (rest := []) (c_L_tick G (xs (x4 + 1).toNatClampNeg) M q21 hq21) (vx_cwSW 3 hts gL_law_L_tick rfl rfl rfl yd_L_tick ⟨Nat.le_of_ble_eq_true rfl, Nat.le_of_ble_eq_true rfl⟩) rfl hl.1 rfl (Nat.le_of_ble_eq_true rfl) dL_law_435 ⟨by show cells + 1 ≤ 600096; omega, by show slots + 6 ≤ 7301386; omega⟩ (fun H locs hW => ?_)
        refine lv_istore (lv' := [(5, .int q21.1), (0, .ref b), (1, .ref (ga G 72)), (2, .ref (ga G 73)), (3, .ref (ga G 79)), (4, .int x4)]) hx hb dL_law_438 hl (by decide) rfl (fun ls hl => ?_)
        refine lv_aload_n hx hb dL_law_440 rfl (lv_at hl 3 rfl) ?_
        refine lv_aload_n hx hb dL_law_441 rfl (lv_at hl 1 rfl) ?_
        refine lv_iload hx hb dL_law_442 (lv_at hl 5 rfl) ?_
        refine lv_iconst (v := 1) hx hb dL_law_444 (by decide) ?_
        refine lv_iadd hx hb dL_law_445 ?_
        refine va_sld hx hb hX hbl hbA hW.2.2 (inB_in hg11) dL_law_446 ?_
        obtain ⟨q22, hq22, h⟩ := ob h
        refine wc_Vi C hW (k := 73) (As := [.int (xs (x4 + 1).toNatClampNeg)]) (rest := []) (c_X5_tick G (xs (x4 + 1).toNatClampNeg) q21.2 q22 hq22) k73 rfl (by decide) (cwV 1 hts gL_law_X5_tick rfl rfl rfl yd_X5_tick ⟨Nat.le_of_ble_eq_true rfl, Nat.le_of_ble_eq_true rfl⟩) rfl hl.1 rfl (Nat.le_of_ble_eq_true rfl) dL_law_447 ⟨by show cells + 1 ≤ 600096; omega, by show slots + 6 ≤ 7301386; omega⟩ (fun H locs hW => ?_)
        refine lv_istore (lv' := [(6, .int q22.1), (5, .int q21.1), (0, .ref b), (1, .ref (ga G 72)), (2, .ref (ga G 73)), (3, .ref (ga G 79)), (4, .int x4)]) hx hb dL_law_450 hl (by decide) rfl (fun ls hl => ?_)
        refine lv_aload_n hx hb dL_law_452 rfl (lv_at hl 4 rfl) ?_
        obtain ⟨q23, hq23, h⟩ := ob h
        refine wc_Vi C hW (k := 73) (As := []) (rest := []) (c_X5_thrown G  q22.2 q23 hq23) k73 rfl (by decide) (cwV 0 hts gL_law_X5_thrown rfl rfl rfl yd_X5_thrown ⟨Nat.le_of_ble_eq_true rfl, Nat.le_of_ble_eq_true rfl⟩) rfl hl.1 rfl (Nat.le_of_ble_eq_true rfl) dL_law_453 ⟨by show cells + 1 ≤ 600096; omega, by show slots + 6 ≤ 7301386; omega⟩ (fun H locs hW => ?_)
        refine lv_iload hx hb dL_law_456 (lv_at hl 1 rfl) ?_
        refine lv_icmp_eq (tgt := 463) hx hb dL_law_458 (by decide) (fun c25 => ?_) (fun c25 => ?_)
        · replace h := ift h c25
          refine lv_iload hx hb dL_law_463 (lv_at hl 1 rfl) ?_
          refine lv_if_ne (tgt := 480) hx hb dL_law_465 (by decide) (fun c26 => ?_) (fun c26 => ?_)
          · replace h := iff_ h c26
            refine lv_goto (tgt := 861) hx hb dL_law_480 (by decide) ?_
            refine lv_iinc (v := (x4 + 4)) (lv' := [(4, .int (x4 + 4)), (6, .int q22.1), (5, .int q21.1), (0, .ref b), (1, .ref (ga G 72)), (2, .ref (ga G 73)), (3, .ref (ga G 79))]) hx hb dL_law_861 hl (k := 6) rfl rfl (by decide) rfl (fun ls hl => ?_)
            refine lv_goto (tgt := 23) hx hb dL_law_864 (by decide) ?_
            exact W.widen (k := cells + 2) (n := slots + 12) (by omega) (by omega) (ih (x4 + 4) q23.2 y _ _ ls (cells + 2) (slots + 12) (by omega) (by omega) h hy hW (lv_sub hl [3, 4, 5, 6, 0] rfl))
          · replace h := ift h c26
            refine lv_aload_n hx hb dL_law_468 rfl (lv_at hl 5 rfl) ?_
            refine lv_iconst (v := 0) hx hb dL_law_469 (by decide) ?_
            refine wl_l C hW (k := 79) k79 (by decide) dL_law_470 (v := (q23.2 79 0)) (congrArg (q23.2 79) (by decide)) ?_
            refine lv_iload hx hb dL_law_471 (lv_at hl 0 rfl) ?_
            refine lv_i2l (v := (q22.1.toInt64)) hx hb dL_law_473 rfl ?_
            refine W.lcmp hx hb dL_law_474 ?_
            refine lv_if_eq (tgt := 480) hx hb dL_law_475 (by decide) (fun c27 => ?_) (fun c27 => ?_)
            · replace h := ift h c27
              refine lv_goto (tgt := 861) hx hb dL_law_480 (by decide) ?_
              refine lv_iinc (v := (x4 + 4)) (lv' := [(4, .int (x4 + 4)), (6, .int q22.1), (5, .int q21.1), (0, .ref b), (1, .ref (ga G 72)), (2, .ref (ga G 73)), (3, .ref (ga G 79))]) hx hb dL_law_861 hl (k := 6) rfl rfl (by decide) rfl (fun ls hl => ?_)
              refine lv_goto (tgt := 23) hx hb dL_law_864 (by decide) ?_
              exact W.widen (k := cells + 2) (n := slots + 12) (by omega) (by omega) (ih (x4 + 4) q23.2 y _ _ ls (cells + 2) (slots + 12) (by omega) (by omega) h hy hW (lv_sub hl [3, 4, 5, 6, 0] rfl))
            · replace h := iff_ h c27
              refine lv_iconst (v := 0) hx hb dL_law_478 (by decide) ?_
              cases h
              exact absurd (show (0 : Int32) = 1 from hy) (by decide)
        · replace h := iff_ h c25
          refine lv_iconst (v := 0) hx hb dL_law_461 (by decide) ?_
          cases h
          exact absurd (show (0 : Int32) = 1 from hy) (by decide)
      replace h := iff_ h c24
      by_cases c28 : ((xs x4.toNatClampNeg) &&& 31) = 10
      · replace h := ift h c28
        refine lv_tableIn (tgt := 483) hx hb dL_law_39 (by rw [c28]; decide) (by rw [c28]; decide) (by rw [c28]; rfl) (by decide) ?_
        refine lv_aload_n hx hb dL_law_483 rfl (lv_at hl 1 rfl) ?_
        obtain ⟨q24, hq24, h⟩ := ob h
        refine wcl_S C hZ hN hW (As := [.ref (ga G 72)]) (rest := []) (c_L_begin G  M q24 hq24) (vx_cwSW 1 hts gL_law_L_begin rfl rfl rfl yd_L_begin ⟨Nat.le_of_ble_eq_true rfl, Nat.le_of_ble_eq_true rfl⟩) rfl hl.1 rfl (Nat.le_of_ble_eq_true rfl) dL_law_484 ⟨by show cells + 1 ≤ 600096; omega, by show slots + 6 ≤ 7301386; omega⟩ (fun H locs hW => ?_)
        refine lv_istore (lv' := [(5, .int q24.1), (0, .ref b), (1, .ref (ga G 72)), (2, .ref (ga G 73)), (3, .ref (ga G 79)), (4, .int x4)]) hx hb dL_law_487 hl (by decide) rfl (fun ls hl => ?_)
        refine lv_aload_n hx hb dL_law_489 rfl (lv_at hl 3 rfl) ?_
        obtain ⟨q25, hq25, h⟩ := ob h
        refine wc_Vv C hW (k := 73) (As := []) (rest := []) (c_X5_begin G  q24.2 q25 hq25) k73 rfl (by decide) (cwV 0 hts gL_law_X5_begin rfl rfl rfl yd_X5_begin ⟨Nat.le_of_ble_eq_true rfl, Nat.le_of_ble_eq_true rfl⟩) rfl hl.1 rfl (Nat.le_of_ble_eq_true rfl) dL_law_490 ⟨by show cells + 1 ≤ 600096; omega, by show slots + 6 ≤ 7301386; omega⟩ (fun H locs hW => ?_)
        refine lv_aload_n hx hb dL_law_493 rfl (lv_at hl 3 rfl) ?_
        obtain ⟨q26, hq26, h⟩ := ob h
        refine wc_Vi C hW (k := 73) (As := []) (rest := []) (c_X5_thrown G  q25.2 q26 hq26) k73 rfl (by decide) (cwV 0 hts gL_law_X5_thrown rfl rfl rfl yd_X5_thrown ⟨Nat.le_of_ble_eq_true rfl, Nat.le_of_ble_eq_true rfl⟩) rfl hl.1 rfl (Nat.le_of_ble_eq_true rfl) dL_law_494 ⟨by show cells + 1 ≤ 600096; omega, by show slots + 6 ≤ 7301386; omega⟩ (fun H locs hW => ?_)
        refine lv_iload hx hb dL_law_497 (lv_at hl 0 rfl) ?_
        refine lv_icmp_eq (tgt := 504) hx hb dL_law_499 (by decide) (fun c29 => ?_) (fun c29 => ?_)
        · replace h := ift h c29
          refine lv_goto (tgt := 861) hx hb dL_law_504 (by decide) ?_
          refine lv_iinc (v := (x4 + 4)) (lv' := [(4, .int (x4 + 4)), (5, .int q24.1), (0, .ref b), (1, .ref (ga G 72)), (2, .ref (ga G 73)), (3, .ref (ga G 79))]) hx hb dL_law_861 hl (k := 5) rfl rfl (by decide) rfl (fun ls hl => ?_)
          refine lv_goto (tgt := 23) hx hb dL_law_864 (by decide) ?_
          exact W.widen (k := cells + 2) (n := slots + 12) (by omega) (by omega) (ih (x4 + 4) q26.2 y _ _ ls (cells + 2) (slots + 12) (by omega) (by omega) h hy hW (lv_sub hl [2, 3, 4, 5, 0] rfl))
        · replace h := iff_ h c29
          refine lv_iconst (v := 0) hx hb dL_law_502 (by decide) ?_
          cases h
          exact absurd (show (0 : Int32) = 1 from hy) (by decide)
      replace h := iff_ h c28
      by_cases c30 : ((xs x4.toNatClampNeg) &&& 31) = 11
      · replace h := ift h c30
        refine lv_tableIn (tgt := 507) hx hb dL_law_39 (by rw [c30]; decide) (by rw [c30]; decide) (by rw [c30]; rfl) (by decide) ?_
        refine lv_aload_n hx hb dL_law_507 rfl (lv_at hl 1 rfl) ?_
        refine lv_aload_n hx hb dL_law_508 rfl (lv_at hl 3 rfl) ?_
        obtain ⟨q27, hq27, h⟩ := ob h
        refine wcl_S C hZ hN hW (As := [.ref (ga G 72), .ref (ga G 79)]) (rest := []) (c_L_offer G  M q27 hq27) (vx_cwSW 2 hts gL_law_L_offer rfl rfl rfl yd_L_offer ⟨Nat.le_of_ble_eq_true rfl, Nat.le_of_ble_eq_true rfl⟩) rfl hl.1 rfl (Nat.le_of_ble_eq_true rfl) dL_law_509 ⟨by show cells + 1 ≤ 600096; omega, by show slots + 6 ≤ 7301386; omega⟩ (fun H locs hW => ?_)
        refine lv_istore (lv' := [(5, .int q27.1), (0, .ref b), (1, .ref (ga G 72)), (2, .ref (ga G 73)), (3, .ref (ga G 79)), (4, .int x4)]) hx hb dL_law_512 hl (by decide) rfl (fun ls hl => ?_)
        refine lv_aload_n hx hb dL_law_514 rfl (lv_at hl 3 rfl) ?_
        obtain ⟨q28, hq28, h⟩ := ob h
        refine wc_Vi C hW (k := 73) (As := []) (rest := []) (c_X5_offer G  q27.2 q28 hq28) k73 rfl (by decide) (cwV 0 hts gL_law_X5_offer rfl rfl rfl yd_X5_offer ⟨Nat.le_of_ble_eq_true rfl, Nat.le_of_ble_eq_true rfl⟩) rfl hl.1 rfl (Nat.le_of_ble_eq_true rfl) dL_law_515 ⟨by show cells + 1 ≤ 600096; omega, by show slots + 6 ≤ 7301386; omega⟩ (fun H locs hW => ?_)
        refine lv_istore (lv' := [(6, .int q28.1), (5, .int q27.1), (0, .ref b), (1, .ref (ga G 72)), (2, .ref (ga G 73)), (3, .ref (ga G 79)), (4, .int x4)]) hx hb dL_law_518 hl (by decide) rfl (fun ls hl => ?_)
        refine lv_aload_n hx hb dL_law_520 rfl (lv_at hl 4 rfl) ?_
        obtain ⟨q29, hq29, h⟩ := ob h
        refine wc_Vi C hW (k := 73) (As := []) (rest := []) (c_X5_thrown G  q28.2 q29 hq29) k73 rfl (by decide) (cwV 0 hts gL_law_X5_thrown rfl rfl rfl yd_X5_thrown ⟨Nat.le_of_ble_eq_true rfl, Nat.le_of_ble_eq_true rfl⟩) rfl hl.1 rfl (Nat.le_of_ble_eq_true rfl) dL_law_521 ⟨by show cells + 1 ≤ 600096; omega, by show slots + 6 ≤ 7301386; omega⟩ (fun H locs hW => ?_)
        refine lv_iload hx hb dL_law_524 (lv_at hl 1 rfl) ?_
        refine lv_icmp_eq (tgt := 531) hx hb dL_law_526 (by decide) (fun c31 => ?_) (fun c31 => ?_)
        · replace h := ift h c31
          refine lv_iload hx hb dL_law_531 (lv_at hl 1 rfl) ?_
          refine lv_if_ne (tgt := 548) hx hb dL_law_533 (by decide) (fun c32 => ?_) (fun c32 => ?_)
          · replace h := iff_ h c32
            refine lv_goto (tgt := 861) hx hb dL_law_548 (by decide) ?_
            refine lv_iinc (v := (x4 + 4)) (lv' := [(4, .int (x4 + 4)), (6, .int q28.1), (5, .int q27.1), (0, .ref b), (1, .ref (ga G 72)), (2, .ref (ga G 73)), (3, .ref (ga G 79))]) hx hb dL_law_861 hl (k := 6) rfl rfl (by decide) rfl (fun ls hl => ?_)
            refine lv_goto (tgt := 23) hx hb dL_law_864 (by decide) ?_
            exact W.widen (k := cells + 2) (n := slots + 12) (by omega) (by omega) (ih (x4 + 4) q29.2 y _ _ ls (cells + 2) (slots + 12) (by omega) (by omega) h hy hW (lv_sub hl [3, 4, 5, 6, 0] rfl))
          · replace h := ift h c32
            refine lv_aload_n hx hb dL_law_536 rfl (lv_at hl 5 rfl) ?_
            refine lv_iconst (v := 0) hx hb dL_law_537 (by decide) ?_
            refine wl_l C hW (k := 79) k79 (by decide) dL_law_538 (v := (q29.2 79 0)) (congrArg (q29.2 79) (by decide)) ?_
            refine lv_iload hx hb dL_law_539 (lv_at hl 0 rfl) ?_
            refine lv_i2l (v := (q28.1.toInt64)) hx hb dL_law_541 rfl ?_
            refine W.lcmp hx hb dL_law_542 ?_
            refine lv_if_eq (tgt := 548) hx hb dL_law_543 (by decide) (fun c33 => ?_) (fun c33 => ?_)
            · replace h := ift h c33
              refine lv_goto (tgt := 861) hx hb dL_law_548 (by decide) ?_
              refine lv_iinc (v := (x4 + 4)) (lv' := [(4, .int (x4 + 4)), (6, .int q28.1), (5, .int q27.1), (0, .ref b), (1, .ref (ga G 72)), (2, .ref (ga G 73)), (3, .ref (ga G 79))]) hx hb dL_law_861 hl (k := 6) rfl rfl (by decide) rfl (fun ls hl => ?_)
              refine lv_goto (tgt := 23) hx hb dL_law_864 (by decide) ?_
              exact W.widen (k := cells + 2) (n := slots + 12) (by omega) (by omega) (ih (x4 + 4) q29.2 y _ _ ls (cells + 2) (slots + 12) (by omega) (by omega) h hy hW (lv_sub hl [3, 4, 5, 6, 0] rfl))
            · replace h := iff_ h c33
              refine lv_iconst (v := 0) hx hb dL_law_546 (by decide) ?_
              cases h
              exact absurd (show (0 : Int32) = 1 from hy) (by decide)
        · replace h := iff_ h c31
          refine lv_iconst (v := 0) hx hb dL_law_529 (by decide) ?_
          cases h
          exact absurd (show (0 : Int32) = 1 from hy) (by decide)
      replace h := iff_ h c30
      by_cases c34 : ((xs x4.toNatClampNeg) &&& 31) = 12
      · replace h := ift h c34
        refine lv_tableIn (tgt := 551) hx hb dL_law_39 (by rw [c34]; decide) (by rw [c34]; decide) (by rw [c34]; rfl) (by decide) ?_
        refine lv_aload_n hx hb dL_law_551 rfl (lv_at hl 1 rfl) ?_
        refine lv_aload_n hx hb dL_law_552 rfl (lv_at hl 0 rfl) ?_
        refine lv_iload hx hb dL_law_553 (lv_at hl 4 rfl) ?_
        refine lv_iconst (v := 1) hx hb dL_law_555 (by decide) ?_
        refine lv_iadd hx hb dL_law_556 ?_
        obtain ⟨hg12, h⟩ := ifg h
        refine va_sld hx hb hX hbl hbA hW.2.2 (inB_in hg12) dL_law_557 ?_
        refine lv_aload_n hx hb dL_law_558 rfl (lv_at hl 0 rfl) ?_
        refine lv_iload hx hb dL_law_559 (lv_at hl 4 rfl) ?_
        refine lv_iconst (v := 2) hx hb dL_law_561 (by decide) ?_
        refine lv_iadd hx hb dL_law_562 ?_
        obtain ⟨hg13, h⟩ := ifg h
        refine va_sld hx hb hX hbl hbA hW.2.2 (inB_in hg13) dL_law_563 ?_
        refine lv_if_eq (tgt := 571) hx hb dL_law_564 (by decide) (fun c35 => ?_) (fun c35 => ?_)
        · replace h := ift h c35
          refine lv_iconst (v := 0) hx hb dL_law_571 (by decide) ?_
          refine lv_aload_n hx hb dL_law_572 rfl (lv_at hl 3 rfl) ?_
          obtain ⟨q30, hq30, h⟩ := ob h
          refine wcl_S C hZ hN hW (As := [.ref (ga G 72), .int (xs (x4 + 1).toNatClampNeg), .int 0, .ref (ga G 79)]) (rest := []) (c_L_trusted G (xs (x4 + 1).toNatClampNeg) 0 M q30 hq30) (vx_cwSW 4 hts gL_law_L_trusted rfl rfl rfl yd_L_trusted ⟨Nat.le_of_ble_eq_true rfl, Nat.le_of_ble_eq_true rfl⟩) rfl hl.1 rfl (Nat.le_of_ble_eq_true rfl) dL_law_573 ⟨by show cells + 1 ≤ 600096; omega, by show slots + 6 ≤ 7301386; omega⟩ (fun H locs hW => ?_)
          refine lv_istore (lv' := [(5, .int q30.1), (0, .ref b), (1, .ref (ga G 72)), (2, .ref (ga G 73)), (3, .ref (ga G 79)), (4, .int x4)]) hx hb dL_law_576 hl (by decide) rfl (fun ls hl => ?_)
          refine lv_aload_n hx hb dL_law_578 rfl (lv_at hl 3 rfl) ?_
          refine lv_aload_n hx hb dL_law_579 rfl (lv_at hl 1 rfl) ?_
          refine lv_iload hx hb dL_law_580 (lv_at hl 5 rfl) ?_
          refine lv_iconst (v := 1) hx hb dL_law_582 (by decide) ?_
          refine lv_iadd hx hb dL_law_583 ?_
          refine va_sld hx hb hX hbl hbA hW.2.2 (inB_in hg12) dL_law_584 ?_
          refine lv_aload_n hx hb dL_law_585 rfl (lv_at hl 1 rfl) ?_
          refine lv_iload hx hb dL_law_586 (lv_at hl 5 rfl) ?_
          refine lv_iconst (v := 2) hx hb dL_law_588 (by decide) ?_
          refine lv_iadd hx hb dL_law_589 ?_
          refine va_sld hx hb hX hbl hbA hW.2.2 (inB_in hg13) dL_law_590 ?_
          refine lv_if_eq (tgt := 598) hx hb dL_law_591 (by decide) (fun _ => ?_) (fun c36 => absurd c35 c36)
          refine lv_iconst (v := 0) hx hb dL_law_598 (by decide) ?_
          obtain ⟨q31, hq31, h⟩ := ob h
          refine wc_Vi C hW (k := 73) (As := [.int (xs (x4 + 1).toNatClampNeg), .int 0]) (rest := []) (c_X5_trusted G (xs (x4 + 1).toNatClampNeg) 0 q30.2 q31 hq31) k73 rfl (by decide) (cwV 2 hts gL_law_X5_trusted rfl rfl rfl yd_X5_trusted ⟨Nat.le_of_ble_eq_true rfl, Nat.le_of_ble_eq_true rfl⟩) rfl hl.1 rfl (Nat.le_of_ble_eq_true rfl) dL_law_599 ⟨by show cells + 1 ≤ 600096; omega, by show slots + 6 ≤ 7301386; omega⟩ (fun H locs hW => ?_)
          refine lv_istore (lv' := [(6, .int q31.1), (5, .int q30.1), (0, .ref b), (1, .ref (ga G 72)), (2, .ref (ga G 73)), (3, .ref (ga G 79)), (4, .int x4)]) hx hb dL_law_602 hl (by decide) rfl (fun ls hl => ?_)
          refine lv_aload_n hx hb dL_law_604 rfl (lv_at hl 4 rfl) ?_
          obtain ⟨q32, hq32, h⟩ := ob h
          refine wc_Vi C hW (k := 73) (As := []) (rest := []) (c_X5_thrown G  q31.2 q32 hq32) k73 rfl (by decide) (cwV 0 hts gL_law_X5_thrown rfl rfl rfl yd_X5_thrown ⟨Nat.le_of_ble_eq_true rfl, Nat.le_of_ble_eq_true rfl⟩) rfl hl.1 rfl (Nat.le_of_ble_eq_true rfl) dL_law_605 ⟨by show cells + 1 ≤ 600096; omega, by show slots + 6 ≤ 7301386; omega⟩ (fun H locs hW => ?_)
          refine lv_iload hx hb dL_law_608 (lv_at hl 1 rfl) ?_
          refine lv_icmp_eq (tgt := 615) hx hb dL_law_610 (by decide) (fun c37 => ?_) (fun c37 => ?_)
          · replace h := ift h c37
            refine lv_iload hx hb dL_law_615 (lv_at hl 1 rfl) ?_
            refine lv_if_ne (tgt := 632) hx hb dL_law_617 (by decide) (fun c38 => ?_) (fun c38 => ?_)
            · replace h := iff_ h c38
              refine lv_goto (tgt := 861) hx hb dL_law_632 (by decide) ?_
              refine lv_iinc (v := (x4 + 4)) (lv' := [(4, .int (x4 + 4)), (6, .int q31.1), (5, .int q30.1), (0, .ref b), (1, .ref (ga G 72)), (2, .ref (ga G 73)), (3, .ref (ga G 79))]) hx hb dL_law_861 hl (k := 6) rfl rfl (by decide) rfl (fun ls hl => ?_)
              refine lv_goto (tgt := 23) hx hb dL_law_864 (by decide) ?_
              exact W.widen (k := cells + 2) (n := slots + 12) (by omega) (by omega) (ih (x4 + 4) q32.2 y _ _ ls (cells + 2) (slots + 12) (by omega) (by omega) h hy hW (lv_sub hl [3, 4, 5, 6, 0] rfl))
            · replace h := ift h c38
              refine lv_aload_n hx hb dL_law_620 rfl (lv_at hl 5 rfl) ?_
              refine lv_iconst (v := 0) hx hb dL_law_621 (by decide) ?_
              refine wl_l C hW (k := 79) k79 (by decide) dL_law_622 (v := (q32.2 79 0)) (congrArg (q32.2 79) (by decide)) ?_
              refine lv_iload hx hb dL_law_623 (lv_at hl 0 rfl) ?_
              refine lv_i2l (v := (q31.1.toInt64)) hx hb dL_law_625 rfl ?_
              refine W.lcmp hx hb dL_law_626 ?_
              refine lv_if_eq (tgt := 632) hx hb dL_law_627 (by decide) (fun c39 => ?_) (fun c39 => ?_)
              · replace h := ift h c39
                refine lv_goto (tgt := 861) hx hb dL_law_632 (by decide) ?_
                refine lv_iinc (v := (x4 + 4)) (lv' := [(4, .int (x4 + 4)), (6, .int q31.1), (5, .int q30.1), (0, .ref b), (1, .ref (ga G 72)), (2, .ref (ga G 73)), (3, .ref (ga G 79))]) hx hb dL_law_861 hl (k := 6) rfl rfl (by decide) rfl (fun ls hl => ?_)
                refine lv_goto (tgt := 23) hx hb dL_law_864 (by decide) ?_
                exact W.widen (k := cells + 2) (n := slots + 12) (by omega) (by omega) (ih (x4 + 4) q32.2 y _ _ ls (cells + 2) (slots + 12) (by omega) (by omega) h hy hW (lv_sub hl [3, 4, 5, 6, 0] rfl))
              · replace h := iff_ h c39
                refine lv_iconst (v := 0) hx hb dL_law_630 (by decide) ?_
                cases h
                exact absurd (show (0 : Int32) = 1 from hy) (by decide)
          · replace h := iff_ h c37
            refine lv_iconst (v := 0) hx hb dL_law_613 (by decide) ?_
            cases h
            exact absurd (show (0 : Int32) = 1 from hy) (by decide)
        · replace h := iff_ h c35
          refine lv_iconst (v := 1) hx hb dL_law_567 (by decide) ?_
          refine lv_goto (tgt := 572) hx hb dL_law_568 (by decide) ?_
          refine lv_aload_n hx hb dL_law_572 rfl (lv_at hl 3 rfl) ?_
          obtain ⟨q33, hq33, h⟩ := ob h
          refine wcl_S C hZ hN hW (As := [.ref (ga G 72), .int (xs (x4 + 1).toNatClampNeg), .int 1, .ref (ga G 79)]) (rest := []) (c_L_trusted G (xs (x4 + 1).toNatClampNeg) 1 M q33 hq33) (vx_cwSW 4 hts gL_law_L_trusted rfl rfl rfl yd_L_trusted ⟨Nat.le_of_ble_eq_true rfl, Nat.le_of_ble_eq_true rfl⟩) rfl hl.1 rfl (Nat.le_of_ble_eq_true rfl) dL_law_573 ⟨by show cells + 1 ≤ 600096; omega, by show slots + 6 ≤ 7301386; omega⟩ (fun H locs hW => ?_)
          refine lv_istore (lv' := [(5, .int q33.1), (0, .ref b), (1, .ref (ga G 72)), (2, .ref (ga G 73)), (3, .ref (ga G 79)), (4, .int x4)]) hx hb dL_law_576 hl (by decide) rfl (fun ls hl => ?_)
          refine lv_aload_n hx hb dL_law_578 rfl (lv_at hl 3 rfl) ?_
          refine lv_aload_n hx hb dL_law_579 rfl (lv_at hl 1 rfl) ?_
          refine lv_iload hx hb dL_law_580 (lv_at hl 5 rfl) ?_
          refine lv_iconst (v := 1) hx hb dL_law_582 (by decide) ?_
          refine lv_iadd hx hb dL_law_583 ?_
          refine va_sld hx hb hX hbl hbA hW.2.2 (inB_in hg12) dL_law_584 ?_
          refine lv_aload_n hx hb dL_law_585 rfl (lv_at hl 1 rfl) ?_
          refine lv_iload hx hb dL_law_586 (lv_at hl 5 rfl) ?_
          refine lv_iconst (v := 2) hx hb dL_law_588 (by decide) ?_
          refine lv_iadd hx hb dL_law_589 ?_
          refine va_sld hx hb hX hbl hbA hW.2.2 (inB_in hg13) dL_law_590 ?_
          refine lv_if_eq (tgt := 598) hx hb dL_law_591 (by decide) (fun c40 => absurd c40 c35) (fun _ => ?_)
          refine lv_iconst (v := 1) hx hb dL_law_594 (by decide) ?_
          refine lv_goto (tgt := 599) hx hb dL_law_595 (by decide) ?_
          obtain ⟨q34, hq34, h⟩ := ob h
          refine wc_Vi C hW (k := 73) (As := [.int (xs (x4 + 1).toNatClampNeg), .int 1]) (rest := []) (c_X5_trusted G (xs (x4 + 1).toNatClampNeg) 1 q33.2 q34 hq34) k73 rfl (by decide) (cwV 2 hts gL_law_X5_trusted rfl rfl rfl yd_X5_trusted ⟨Nat.le_of_ble_eq_true rfl, Nat.le_of_ble_eq_true rfl⟩) rfl hl.1 rfl (Nat.le_of_ble_eq_true rfl) dL_law_599 ⟨by show cells + 1 ≤ 600096; omega, by show slots + 6 ≤ 7301386; omega⟩ (fun H locs hW => ?_)
          refine lv_istore (lv' := [(6, .int q34.1), (5, .int q33.1), (0, .ref b), (1, .ref (ga G 72)), (2, .ref (ga G 73)), (3, .ref (ga G 79)), (4, .int x4)]) hx hb dL_law_602 hl (by decide) rfl (fun ls hl => ?_)
          refine lv_aload_n hx hb dL_law_604 rfl (lv_at hl 4 rfl) ?_
          obtain ⟨q35, hq35, h⟩ := ob h
          refine wc_Vi C hW (k := 73) (As := []) (rest := []) (c_X5_thrown G  q34.2 q35 hq35) k73 rfl (by decide) (cwV 0 hts gL_law_X5_thrown rfl rfl rfl yd_X5_thrown ⟨Nat.le_of_ble_eq_true rfl, Nat.le_of_ble_eq_true rfl⟩) rfl hl.1 rfl (Nat.le_of_ble_eq_true rfl) dL_law_605 ⟨by show cells + 1 ≤ 600096; omega, by show slots + 6 ≤ 7301386; omega⟩ (fun H locs hW => ?_)
          refine lv_iload hx hb dL_law_608 (lv_at hl 1 rfl) ?_
          refine lv_icmp_eq (tgt := 615) hx hb dL_law_610 (by decide) (fun c41 => ?_) (fun c41 => ?_)
          · replace h := ift h c41
            refine lv_iload hx hb dL_law_615 (lv_at hl 1 rfl) ?_
            refine lv_if_ne (tgt := 632) hx hb dL_law_617 (by decide) (fun c42 => ?_) (fun c42 => ?_)
            · replace h := iff_ h c42
              refine lv_goto (tgt := 861) hx hb dL_law_632 (by decide) ?_
              refine lv_iinc (v := (x4 + 4)) (lv' := [(4, .int (x4 + 4)), (6, .int q34.1), (5, .int q33.1), (0, .ref b), (1, .ref (ga G 72)), (2, .ref (ga G 73)), (3, .ref (ga G 79))]) hx hb dL_law_861 hl (k := 6) rfl rfl (by decide) rfl (fun ls hl => ?_)
              refine lv_goto (tgt := 23) hx hb dL_law_864 (by decide) ?_
              exact W.widen (k := cells + 2) (n := slots + 12) (by omega) (by omega) (ih (x4 + 4) q35.2 y _ _ ls (cells + 2) (slots + 12) (by omega) (by omega) h hy hW (lv_sub hl [3, 4, 5, 6, 0] rfl))
            · replace h := ift h c42
              refine lv_aload_n hx hb dL_law_620 rfl (lv_at hl 5 rfl) ?_
              refine lv_iconst (v := 0) hx hb dL_law_621 (by decide) ?_
              refine wl_l C hW (k := 79) k79 (by decide) dL_law_622 (v := (q35.2 79 0)) (congrArg (q35.2 79) (by decide)) ?_
              refine lv_iload hx hb dL_law_623 (lv_at hl 0 rfl) ?_
              refine lv_i2l (v := (q34.1.toInt64)) hx hb dL_law_625 rfl ?_
              refine W.lcmp hx hb dL_law_626 ?_
              refine lv_if_eq (tgt := 632) hx hb dL_law_627 (by decide) (fun c43 => ?_) (fun c43 => ?_)
              · replace h := ift h c43
                refine lv_goto (tgt := 861) hx hb dL_law_632 (by decide) ?_
                refine lv_iinc (v := (x4 + 4)) (lv' := [(4, .int (x4 + 4)), (6, .int q34.1), (5, .int q33.1), (0, .ref b), (1, .ref (ga G 72)), (2, .ref (ga G 73)), (3, .ref (ga G 79))]) hx hb dL_law_861 hl (k := 6) rfl rfl (by decide) rfl (fun ls hl => ?_)
                refine lv_goto (tgt := 23) hx hb dL_law_864 (by decide) ?_
                exact W.widen (k := cells + 2) (n := slots + 12) (by omega) (by omega) (ih (x4 + 4) q35.2 y _ _ ls (cells + 2) (slots + 12) (by omega) (by omega) h hy hW (lv_sub hl [3, 4, 5, 6, 0] rfl))
              · replace h := iff_ h c43
                refine lv_iconst (v := 0) hx hb dL_law_630 (by decide) ?_
                cases h
                exact absurd (show (0 : Int32) = 1 from hy) (by decide)
          · replace h := iff_ h c41
            refine lv_iconst (v := 0) hx hb dL_law_613 (by decide) ?_
            cases h
            exact absurd (show (0 : Int32) = 1 from hy) (by decide)
      replace h := iff_ h c34
      by_cases c44 : ((xs x4.toNatClampNeg) &&& 31) = 13
      · replace h := ift h c44
        refine lv_tableIn (tgt := 635) hx hb dL_law_39 (by rw [c44]; decide) (by rw [c44]; decide) (by rw [c44]; rfl) (by decide) ?_
        refine lv_aload_n hx hb dL_law_635 rfl (lv_at hl 1 rfl) ?_
        refine lv_aload_n hx hb dL_law_636 rfl (lv_at hl 0 rfl) ?_
        refine lv_iload hx hb dL_law_637 (lv_at hl 4 rfl) ?_
        refine lv_iconst (v := 1) hx hb dL_law_639 (by decide) ?_
        refine lv_iadd hx hb dL_law_640 ?_
        obtain ⟨hg14, h⟩ := ifg h
        refine va_sld hx hb hX hbl hbA hW.2.2 (inB_in hg14) dL_law_641 ?_
        refine lv_i2l (v := ((xs (x4 + 1).toNatClampNeg).toInt64)) hx hb dL_law_642 rfl ?_
        refine lv_bipush (v := 32) hx hb dL_law_643 (by decide) ?_
        refine lv_lshl (v := (lshl_ ((xs (x4 + 1).toNatClampNeg).toInt64) 32)) hx hb dL_law_645 rfl ?_
        refine lv_aload_n hx hb dL_law_646 rfl (lv_at hl 0 rfl) ?_
        refine lv_iload hx hb dL_law_647 (lv_at hl 4 rfl) ?_
        refine lv_iconst (v := 2) hx hb dL_law_649 (by decide) ?_
        refine lv_iadd hx hb dL_law_650 ?_
        obtain ⟨hg15, h⟩ := ifg h
        refine va_sld hx hb hX hbl hbA hW.2.2 (inB_in hg15) dL_law_651 ?_
        refine lv_i2l (v := ((xs (x4 + 2).toNatClampNeg).toInt64)) hx hb dL_law_652 rfl ?_
        refine lv_ldc2 (v := 4294967295) hx hb hown hJ51 dL_law_653 ?_
        refine lv_land hx hb dL_law_656 ?_
        refine lv_lor hx hb dL_law_657 ?_
        refine lv_aload_n hx hb dL_law_658 rfl (lv_at hl 0 rfl) ?_
        refine lv_iload hx hb dL_law_659 (lv_at hl 4 rfl) ?_
        refine lv_iconst (v := 3) hx hb dL_law_661 (by decide) ?_
        refine lv_iadd hx hb dL_law_662 ?_
        obtain ⟨hg16, h⟩ := ifg h
        refine va_sld hx hb hX hbl hbA hW.2.2 (inB_in hg16) dL_law_663 ?_
        refine lv_aload_n hx hb dL_law_664 rfl (lv_at hl 3 rfl) ?_
        obtain ⟨q36, hq36, h⟩ := ob h
        refine wcl_S C hZ hN hW (As := [.ref (ga G 72), .long ((lshl_ ((xs (x4 + 1).toNatClampNeg).toInt64) 32) ||| (((xs (x4 + 2).toNatClampNeg).toInt64) &&& 4294967295)), .int (xs (x4 + 3).toNatClampNeg), .ref (ga G 79)]) (rest := []) (c_L_seek G ((lshl_ ((xs (x4 + 1).toNatClampNeg).toInt64) 32) ||| (((xs (x4 + 2).toNatClampNeg).toInt64) &&& 4294967295)) (xs (x4 + 3).toNatClampNeg) M q36 hq36) (vx_cwSW 4 hts gL_law_L_seek rfl rfl rfl yd_L_seek ⟨Nat.le_of_ble_eq_true rfl, Nat.le_of_ble_eq_true rfl⟩) rfl hl.1 rfl (Nat.le_of_ble_eq_true rfl) dL_law_665 ⟨by show cells + 1 ≤ 600096; omega, by show slots + 6 ≤ 7301386; omega⟩ (fun H locs hW => ?_)
        refine lv_istore (lv' := [(5, .int q36.1), (0, .ref b), (1, .ref (ga G 72)), (2, .ref (ga G 73)), (3, .ref (ga G 79)), (4, .int x4)]) hx hb dL_law_668 hl (by decide) rfl (fun ls hl => ?_)
        refine lv_aload_n hx hb dL_law_670 rfl (lv_at hl 3 rfl) ?_
        refine lv_aload_n hx hb dL_law_671 rfl (lv_at hl 1 rfl) ?_
        refine lv_iload hx hb dL_law_672 (lv_at hl 5 rfl) ?_
        refine lv_iconst (v := 1) hx hb dL_law_674 (by decide) ?_
        refine lv_iadd hx hb dL_law_675 ?_
        refine va_sld hx hb hX hbl hbA hW.2.2 (inB_in hg14) dL_law_676 ?_
        refine lv_i2l (v := ((xs (x4 + 1).toNatClampNeg).toInt64)) hx hb dL_law_677 rfl ?_
        refine lv_bipush (v := 32) hx hb dL_law_678 (by decide) ?_
        refine lv_lshl (v := (lshl_ ((xs (x4 + 1).toNatClampNeg).toInt64) 32)) hx hb dL_law_680 rfl ?_
        refine lv_aload_n hx hb dL_law_681 rfl (lv_at hl 1 rfl) ?_
        refine lv_iload hx hb dL_law_682 (lv_at hl 5 rfl) ?_
        refine lv_iconst (v := 2) hx hb dL_law_684 (by decide) ?_
        refine lv_iadd hx hb dL_law_685 ?_
        refine va_sld hx hb hX hbl hbA hW.2.2 (inB_in hg15) dL_law_686 ?_
        refine lv_i2l (v := ((xs (x4 + 2).toNatClampNeg).toInt64)) hx hb dL_law_687 rfl ?_
        refine lv_ldc2 (v := 4294967295) hx hb hown hJ51 dL_law_688 ?_
        refine lv_land hx hb dL_law_691 ?_
        refine lv_lor hx hb dL_law_692 ?_
        refine lv_aload_n hx hb dL_law_693 rfl (lv_at hl 1 rfl) ?_
        refine lv_iload hx hb dL_law_694 (lv_at hl 5 rfl) ?_
        refine lv_iconst (v := 3) hx hb dL_law_696 (by decide) ?_
        refine lv_iadd hx hb dL_law_697 ?_
        refine va_sld hx hb hX hbl hbA hW.2.2 (inB_in hg16) dL_law_698 ?_
        obtain ⟨q37, hq37, h⟩ := ob h
        refine wc_Vi C hW (k := 73) (As := [.long ((lshl_ ((xs (x4 + 1).toNatClampNeg).toInt64) 32) ||| (((xs (x4 + 2).toNatClampNeg).toInt64) &&& 4294967295)), .int (xs (x4 + 3).toNatClampNeg)]) (rest := []) (c_X5_seek G ((lshl_ ((xs (x4 + 1).toNatClampNeg).toInt64) 32) ||| (((xs (x4 + 2).toNatClampNeg).toInt64) &&& 4294967295)) (xs (x4 + 3).toNatClampNeg) q36.2 q37 hq37) k73 rfl (by decide) (cwV 2 hts gL_law_X5_seek rfl rfl rfl yd_X5_seek ⟨Nat.le_of_ble_eq_true rfl, Nat.le_of_ble_eq_true rfl⟩) rfl hl.1 rfl (Nat.le_of_ble_eq_true rfl) dL_law_699 ⟨by show cells + 1 ≤ 600096; omega, by show slots + 6 ≤ 7301386; omega⟩ (fun H locs hW => ?_)
        refine lv_istore (lv' := [(6, .int q37.1), (5, .int q36.1), (0, .ref b), (1, .ref (ga G 72)), (2, .ref (ga G 73)), (3, .ref (ga G 79)), (4, .int x4)]) hx hb dL_law_702 hl (by decide) rfl (fun ls hl => ?_)
        refine lv_aload_n hx hb dL_law_704 rfl (lv_at hl 4 rfl) ?_
        obtain ⟨q38, hq38, h⟩ := ob h
        refine wc_Vi C hW (k := 73) (As := []) (rest := []) (c_X5_thrown G  q37.2 q38 hq38) k73 rfl (by decide) (cwV 0 hts gL_law_X5_thrown rfl rfl rfl yd_X5_thrown ⟨Nat.le_of_ble_eq_true rfl, Nat.le_of_ble_eq_true rfl⟩) rfl hl.1 rfl (Nat.le_of_ble_eq_true rfl) dL_law_705 ⟨by show cells + 1 ≤ 600096; omega, by show slots + 6 ≤ 7301386; omega⟩ (fun H locs hW => ?_)
        refine lv_iload hx hb dL_law_708 (lv_at hl 1 rfl) ?_
        refine lv_icmp_eq (tgt := 715) hx hb dL_law_710 (by decide) (fun c45 => ?_) (fun c45 => ?_)
        · replace h := ift h c45
          refine lv_iload hx hb dL_law_715 (lv_at hl 1 rfl) ?_
          refine lv_if_ne (tgt := 732) hx hb dL_law_717 (by decide) (fun c46 => ?_) (fun c46 => ?_)
          · replace h := iff_ h c46
            refine lv_goto (tgt := 861) hx hb dL_law_732 (by decide) ?_
            refine lv_iinc (v := (x4 + 4)) (lv' := [(4, .int (x4 + 4)), (6, .int q37.1), (5, .int q36.1), (0, .ref b), (1, .ref (ga G 72)), (2, .ref (ga G 73)), (3, .ref (ga G 79))]) hx hb dL_law_861 hl (k := 6) rfl rfl (by decide) rfl (fun ls hl => ?_)
            refine lv_goto (tgt := 23) hx hb dL_law_864 (by decide) ?_
            exact W.widen (k := cells + 2) (n := slots + 12) (by omega) (by omega) (ih (x4 + 4) q38.2 y _ _ ls (cells + 2) (slots + 12) (by omega) (by omega) h hy hW (lv_sub hl [3, 4, 5, 6, 0] rfl))
          · replace h := ift h c46
            refine lv_aload_n hx hb dL_law_720 rfl (lv_at hl 5 rfl) ?_
            refine lv_iconst (v := 0) hx hb dL_law_721 (by decide) ?_
            refine wl_l C hW (k := 79) k79 (by decide) dL_law_722 (v := (q38.2 79 0)) (congrArg (q38.2 79) (by decide)) ?_
            refine lv_iload hx hb dL_law_723 (lv_at hl 0 rfl) ?_
            refine lv_i2l (v := (q37.1.toInt64)) hx hb dL_law_725 rfl ?_
            refine W.lcmp hx hb dL_law_726 ?_
            refine lv_if_eq (tgt := 732) hx hb dL_law_727 (by decide) (fun c47 => ?_) (fun c47 => ?_)
            · replace h := ift h c47
              refine lv_goto (tgt := 861) hx hb dL_law_732 (by decide) ?_
              refine lv_iinc (v := (x4 + 4)) (lv' := [(4, .int (x4 + 4)), (6, .int q37.1), (5, .int q36.1), (0, .ref b), (1, .ref (ga G 72)), (2, .ref (ga G 73)), (3, .ref (ga G 79))]) hx hb dL_law_861 hl (k := 6) rfl rfl (by decide) rfl (fun ls hl => ?_)
              refine lv_goto (tgt := 23) hx hb dL_law_864 (by decide) ?_
              exact W.widen (k := cells + 2) (n := slots + 12) (by omega) (by omega) (ih (x4 + 4) q38.2 y _ _ ls (cells + 2) (slots + 12) (by omega) (by omega) h hy hW (lv_sub hl [3, 4, 5, 6, 0] rfl))
            · replace h := iff_ h c47
              refine lv_iconst (v := 0) hx hb dL_law_730 (by decide) ?_
              cases h
              exact absurd (show (0 : Int32) = 1 from hy) (by decide)
        · replace h := iff_ h c45
          refine lv_iconst (v := 0) hx hb dL_law_713 (by decide) ?_
          cases h
          exact absurd (show (0 : Int32) = 1 from hy) (by decide)
      replace h := iff_ h c44
      by_cases c48 : ((xs x4.toNatClampNeg) &&& 31) = 14
      · replace h := ift h c48
        refine lv_tableIn (tgt := 735) hx hb dL_law_39 (by rw [c48]; decide) (by rw [c48]; decide) (by rw [c48]; rfl) (by decide) ?_
        refine lv_aload_n hx hb dL_law_735 rfl (lv_at hl 1 rfl) ?_
        obtain ⟨q39, hq39, h⟩ := ob h
        refine wc_Vi C hW (k := 72) (As := []) (rest := []) (c_X4_visits G  M q39 hq39) k72 rfl (by decide) (cwV 0 hts gL_law_X4_visits rfl rfl rfl yd_X4_visits ⟨Nat.le_of_ble_eq_true rfl, Nat.le_of_ble_eq_true rfl⟩) rfl hl.1 rfl (Nat.le_of_ble_eq_true rfl) dL_law_736 ⟨by show cells ≤ 600096; omega, by show slots ≤ 7301386; omega⟩ (fun H locs hW => ?_)
        refine lv_aload_n hx hb dL_law_739 rfl (lv_at hl 2 rfl) ?_
        obtain ⟨q40, hq40, h⟩ := ob h
        refine wc_Vi C hW (k := 73) (As := []) (rest := [.int q39.1]) (c_X5_visits G  q39.2 q40 hq40) k73 rfl (by decide) (cwV 0 hts gL_law_X5_visits rfl rfl rfl yd_X5_visits ⟨Nat.le_of_ble_eq_true rfl, Nat.le_of_ble_eq_true rfl⟩) rfl hl.1 rfl (Nat.le_of_ble_eq_true rfl) dL_law_740 ⟨by show cells ≤ 600096; omega, by show slots ≤ 7301386; omega⟩ (fun H locs hW => ?_)
        refine lv_icmp_eq (tgt := 861) hx hb dL_law_743 (by decide) (fun c49 => ?_) (fun c49 => ?_)
        · replace h := ift h c49
          refine lv_iinc (v := (x4 + 4)) (lv' := [(4, .int (x4 + 4)), (0, .ref b), (1, .ref (ga G 72)), (2, .ref (ga G 73)), (3, .ref (ga G 79))]) hx hb dL_law_861 hl (k := 4) rfl rfl (by decide) rfl (fun ls hl => ?_)
          refine lv_goto (tgt := 23) hx hb dL_law_864 (by decide) ?_
          exact W.widen (k := cells + 2) (n := slots + 12) (by omega) (by omega) (ih (x4 + 4) q40.2 y _ _ ls (cells + 2) (slots + 12) (by omega) (by omega) h hy hW (lv_sub hl [1, 2, 3, 4, 0] rfl))
        · replace h := iff_ h c49
          refine lv_iconst (v := 0) hx hb dL_law_746 (by decide) ?_
          cases h
          exact absurd (show (0 : Int32) = 1 from hy) (by decide)
      replace h := iff_ h c48
      by_cases c50 : ((xs x4.toNatClampNeg) &&& 31) = 15
      · replace h := ift h c50
        refine lv_tableIn (tgt := 748) hx hb dL_law_39 (by rw [c50]; decide) (by rw [c50]; decide) (by rw [c50]; rfl) (by decide) ?_
        refine lv_aload_n hx hb dL_law_748 rfl (lv_at hl 1 rfl) ?_
        refine lv_aload_n hx hb dL_law_749 rfl (lv_at hl 0 rfl) ?_
        refine lv_iload hx hb dL_law_750 (lv_at hl 4 rfl) ?_
        refine lv_iconst (v := 1) hx hb dL_law_752 (by decide) ?_
        refine lv_iadd hx hb dL_law_753 ?_
        obtain ⟨hg17, h⟩ := ifg h
        refine va_sld hx hb hX hbl hbA hW.2.2 (inB_in hg17) dL_law_754 ?_
        refine lv_i2l (v := ((xs (x4 + 1).toNatClampNeg).toInt64)) hx hb dL_law_755 rfl ?_
        refine lv_bipush (v := 32) hx hb dL_law_756 (by decide) ?_
        refine lv_lshl (v := (lshl_ ((xs (x4 + 1).toNatClampNeg).toInt64) 32)) hx hb dL_law_758 rfl ?_
        refine lv_aload_n hx hb dL_law_759 rfl (lv_at hl 0 rfl) ?_
        refine lv_iload hx hb dL_law_760 (lv_at hl 4 rfl) ?_
        refine lv_iconst (v := 2) hx hb dL_law_762 (by decide) ?_
        refine lv_iadd hx hb dL_law_763 ?_
        obtain ⟨hg18, h⟩ := ifg h
        refine va_sld hx hb hX hbl hbA hW.2.2 (inB_in hg18) dL_law_764 ?_
        refine lv_i2l (v := ((xs (x4 + 2).toNatClampNeg).toInt64)) hx hb dL_law_765 rfl ?_
        refine lv_ldc2 (v := 4294967295) hx hb hown hJ51 dL_law_766 ?_
        refine lv_land hx hb dL_law_769 ?_
        refine lv_lor hx hb dL_law_770 ?_
        refine lv_aload_n hx hb dL_law_771 rfl (lv_at hl 0 rfl) ?_
        refine lv_iload hx hb dL_law_772 (lv_at hl 4 rfl) ?_
        refine lv_iconst (v := 3) hx hb dL_law_774 (by decide) ?_
        refine lv_iadd hx hb dL_law_775 ?_
        obtain ⟨hg19, h⟩ := ifg h
        refine va_sld hx hb hX hbl hbA hW.2.2 (inB_in hg19) dL_law_776 ?_
        refine lv_aload_n hx hb dL_law_777 rfl (lv_at hl 3 rfl) ?_
        obtain ⟨q41, hq41, h⟩ := ob h
        refine wcl_S C hZ hN hW (As := [.ref (ga G 72), .long ((lshl_ ((xs (x4 + 1).toNatClampNeg).toInt64) 32) ||| (((xs (x4 + 2).toNatClampNeg).toInt64) &&& 4294967295)), .int (xs (x4 + 3).toNatClampNeg), .ref (ga G 79)]) (rest := []) (c_L_install G ((lshl_ ((xs (x4 + 1).toNatClampNeg).toInt64) 32) ||| (((xs (x4 + 2).toNatClampNeg).toInt64) &&& 4294967295)) (xs (x4 + 3).toNatClampNeg) M q41 hq41) (vx_cwSW 4 hts gL_law_L_install rfl rfl rfl yd_L_install ⟨Nat.le_of_ble_eq_true rfl, Nat.le_of_ble_eq_true rfl⟩) rfl hl.1 rfl (Nat.le_of_ble_eq_true rfl) dL_law_778 ⟨by show cells + 2 ≤ 600096; omega, by show slots + 12 ≤ 7301386; omega⟩ (fun H locs hW => ?_)
        refine lv_istore (lv' := [(5, .int q41.1), (0, .ref b), (1, .ref (ga G 72)), (2, .ref (ga G 73)), (3, .ref (ga G 79)), (4, .int x4)]) hx hb dL_law_781 hl (by decide) rfl (fun ls hl => ?_)
        refine lv_aload_n hx hb dL_law_783 rfl (lv_at hl 3 rfl) ?_
        refine lv_aload_n hx hb dL_law_784 rfl (lv_at hl 1 rfl) ?_
        refine lv_iload hx hb dL_law_785 (lv_at hl 5 rfl) ?_
        refine lv_iconst (v := 1) hx hb dL_law_787 (by decide) ?_
        refine lv_iadd hx hb dL_law_788 ?_
        refine va_sld hx hb hX hbl hbA hW.2.2 (inB_in hg17) dL_law_789 ?_
        refine lv_i2l (v := ((xs (x4 + 1).toNatClampNeg).toInt64)) hx hb dL_law_790 rfl ?_
        refine lv_bipush (v := 32) hx hb dL_law_791 (by decide) ?_
        refine lv_lshl (v := (lshl_ ((xs (x4 + 1).toNatClampNeg).toInt64) 32)) hx hb dL_law_793 rfl ?_
        refine lv_aload_n hx hb dL_law_794 rfl (lv_at hl 1 rfl) ?_
        refine lv_iload hx hb dL_law_795 (lv_at hl 5 rfl) ?_
        refine lv_iconst (v := 2) hx hb dL_law_797 (by decide) ?_
        refine lv_iadd hx hb dL_law_798 ?_
        refine va_sld hx hb hX hbl hbA hW.2.2 (inB_in hg18) dL_law_799 ?_
        refine lv_i2l (v := ((xs (x4 + 2).toNatClampNeg).toInt64)) hx hb dL_law_800 rfl ?_
        refine lv_ldc2 (v := 4294967295) hx hb hown hJ51 dL_law_801 ?_
        refine lv_land hx hb dL_law_804 ?_
        refine lv_lor hx hb dL_law_805 ?_
        refine lv_aload_n hx hb dL_law_806 rfl (lv_at hl 1 rfl) ?_
        refine lv_iload hx hb dL_law_807 (lv_at hl 5 rfl) ?_
        refine lv_iconst (v := 3) hx hb dL_law_809 (by decide) ?_
        refine lv_iadd hx hb dL_law_810 ?_
        refine va_sld hx hb hX hbl hbA hW.2.2 (inB_in hg19) dL_law_811 ?_
        obtain ⟨q42, hq42, h⟩ := ob h
        refine wc_Vi C hW (k := 73) (As := [.long ((lshl_ ((xs (x4 + 1).toNatClampNeg).toInt64) 32) ||| (((xs (x4 + 2).toNatClampNeg).toInt64) &&& 4294967295)), .int (xs (x4 + 3).toNatClampNeg)]) (rest := []) (c_X5_install G ((lshl_ ((xs (x4 + 1).toNatClampNeg).toInt64) 32) ||| (((xs (x4 + 2).toNatClampNeg).toInt64) &&& 4294967295)) (xs (x4 + 3).toNatClampNeg) q41.2 q42 hq42) k73 rfl (by decide) (cwV 2 hts gL_law_X5_install rfl rfl rfl yd_X5_install ⟨Nat.le_of_ble_eq_true rfl, Nat.le_of_ble_eq_true rfl⟩) rfl hl.1 rfl (Nat.le_of_ble_eq_true rfl) dL_law_812 ⟨by show cells + 2 ≤ 600096; omega, by show slots + 12 ≤ 7301386; omega⟩ (fun H locs hW => ?_)
        refine lv_istore (lv' := [(6, .int q42.1), (5, .int q41.1), (0, .ref b), (1, .ref (ga G 72)), (2, .ref (ga G 73)), (3, .ref (ga G 79)), (4, .int x4)]) hx hb dL_law_815 hl (by decide) rfl (fun ls hl => ?_)
        refine lv_aload_n hx hb dL_law_817 rfl (lv_at hl 4 rfl) ?_
        obtain ⟨q43, hq43, h⟩ := ob h
        refine wc_Vi C hW (k := 73) (As := []) (rest := []) (c_X5_thrown G  q42.2 q43 hq43) k73 rfl (by decide) (cwV 0 hts gL_law_X5_thrown rfl rfl rfl yd_X5_thrown ⟨Nat.le_of_ble_eq_true rfl, Nat.le_of_ble_eq_true rfl⟩) rfl hl.1 rfl (Nat.le_of_ble_eq_true rfl) dL_law_818 ⟨by show cells + 2 ≤ 600096; omega, by show slots + 12 ≤ 7301386; omega⟩ (fun H locs hW => ?_)
        refine lv_iload hx hb dL_law_821 (lv_at hl 1 rfl) ?_
        refine lv_icmp_eq (tgt := 828) hx hb dL_law_823 (by decide) (fun c51 => ?_) (fun c51 => ?_)
        · replace h := ift h c51
          refine lv_iload hx hb dL_law_828 (lv_at hl 1 rfl) ?_
          refine lv_if_ne (tgt := 845) hx hb dL_law_830 (by decide) (fun c52 => ?_) (fun c52 => ?_)
          · replace h := iff_ h c52
            refine lv_goto (tgt := 861) hx hb dL_law_845 (by decide) ?_
            refine lv_iinc (v := (x4 + 4)) (lv' := [(4, .int (x4 + 4)), (6, .int q42.1), (5, .int q41.1), (0, .ref b), (1, .ref (ga G 72)), (2, .ref (ga G 73)), (3, .ref (ga G 79))]) hx hb dL_law_861 hl (k := 6) rfl rfl (by decide) rfl (fun ls hl => ?_)
            refine lv_goto (tgt := 23) hx hb dL_law_864 (by decide) ?_
            exact W.widen (k := cells + 2) (n := slots + 12) (by omega) (by omega) (ih (x4 + 4) q43.2 y _ _ ls (cells + 2) (slots + 12) (by omega) (by omega) h hy hW (lv_sub hl [3, 4, 5, 6, 0] rfl))
          · replace h := ift h c52
            refine lv_aload_n hx hb dL_law_833 rfl (lv_at hl 5 rfl) ?_
            refine lv_iconst (v := 0) hx hb dL_law_834 (by decide) ?_
            refine wl_l C hW (k := 79) k79 (by decide) dL_law_835 (v := (q43.2 79 0)) (congrArg (q43.2 79) (by decide)) ?_
            refine lv_iload hx hb dL_law_836 (lv_at hl 0 rfl) ?_
            refine lv_i2l (v := (q42.1.toInt64)) hx hb dL_law_838 rfl ?_
            refine W.lcmp hx hb dL_law_839 ?_
            refine lv_if_eq (tgt := 845) hx hb dL_law_840 (by decide) (fun c53 => ?_) (fun c53 => ?_)
            · replace h := ift h c53
              refine lv_goto (tgt := 861) hx hb dL_law_845 (by decide) ?_
              refine lv_iinc (v := (x4 + 4)) (lv' := [(4, .int (x4 + 4)), (6, .int q42.1), (5, .int q41.1), (0, .ref b), (1, .ref (ga G 72)), (2, .ref (ga G 73)), (3, .ref (ga G 79))]) hx hb dL_law_861 hl (k := 6) rfl rfl (by decide) rfl (fun ls hl => ?_)
              refine lv_goto (tgt := 23) hx hb dL_law_864 (by decide) ?_
              exact W.widen (k := cells + 2) (n := slots + 12) (by omega) (by omega) (ih (x4 + 4) q43.2 y _ _ ls (cells + 2) (slots + 12) (by omega) (by omega) h hy hW (lv_sub hl [3, 4, 5, 6, 0] rfl))
            · replace h := iff_ h c53
              refine lv_iconst (v := 0) hx hb dL_law_843 (by decide) ?_
              cases h
              exact absurd (show (0 : Int32) = 1 from hy) (by decide)
        · replace h := iff_ h c51
          refine lv_iconst (v := 0) hx hb dL_law_826 (by decide) ?_
          cases h
          exact absurd (show (0 : Int32) = 1 from hy) (by decide)
      replace h := iff_ h c50
      by_cases c54 : ((xs x4.toNatClampNeg) &&& 31) = 16
      · replace h := ift h c54
        refine lv_tableIn (tgt := 848) hx hb dL_law_39 (by rw [c54]; decide) (by rw [c54]; decide) (by rw [c54]; rfl) (by decide) ?_
        refine lv_aload_n hx hb dL_law_848 rfl (lv_at hl 1 rfl) ?_
        obtain ⟨q44, hq44, h⟩ := ob h
        refine wc_Vi C hW (k := 72) (As := []) (rest := []) (c_X4_installed G  M q44 hq44) k72 rfl (by decide) (cwV 0 hts gL_law_X4_installed rfl rfl rfl yd_X4_installed ⟨Nat.le_of_ble_eq_true rfl, Nat.le_of_ble_eq_true rfl⟩) rfl hl.1 rfl (Nat.le_of_ble_eq_true rfl) dL_law_849 ⟨by show cells ≤ 600096; omega, by show slots ≤ 7301386; omega⟩ (fun H locs hW => ?_)
        refine lv_aload_n hx hb dL_law_852 rfl (lv_at hl 2 rfl) ?_
        obtain ⟨q45, hq45, h⟩ := ob h
        refine wc_Vi C hW (k := 73) (As := []) (rest := [.int q44.1]) (c_X5_installed G  q44.2 q45 hq45) k73 rfl (by decide) (cwV 0 hts gL_law_X5_installed rfl rfl rfl yd_X5_installed ⟨Nat.le_of_ble_eq_true rfl, Nat.le_of_ble_eq_true rfl⟩) rfl hl.1 rfl (Nat.le_of_ble_eq_true rfl) dL_law_853 ⟨by show cells ≤ 600096; omega, by show slots ≤ 7301386; omega⟩ (fun H locs hW => ?_)
        refine lv_icmp_eq (tgt := 861) hx hb dL_law_856 (by decide) (fun c55 => ?_) (fun c55 => ?_)
        · replace h := ift h c55
          refine lv_iinc (v := (x4 + 4)) (lv' := [(4, .int (x4 + 4)), (0, .ref b), (1, .ref (ga G 72)), (2, .ref (ga G 73)), (3, .ref (ga G 79))]) hx hb dL_law_861 hl (k := 4) rfl rfl (by decide) rfl (fun ls hl => ?_)
          refine lv_goto (tgt := 23) hx hb dL_law_864 (by decide) ?_
          exact W.widen (k := cells + 2) (n := slots + 12) (by omega) (by omega) (ih (x4 + 4) q45.2 y _ _ ls (cells + 2) (slots + 12) (by omega) (by omega) h hy hW (lv_sub hl [1, 2, 3, 4, 0] rfl))
        · replace h := iff_ h c55
          refine lv_iconst (v := 0) hx hb dL_law_859 (by decide) ?_
          cases h
          exact absurd (show (0 : Int32) = 1 from hy) (by decide)
      replace h := iff_ h c54
      refine lv_tableOut (tgt := 861) hx hb dL_law_39 (tb_out16 c2 c4 c6 c8 c10 c14 c16 c18 c22 c24 c28 c30 c34 c44 c48 c50 c54) (by decide) ?_
      refine lv_iinc (v := (x4 + 4)) (lv' := [(4, .int (x4 + 4)), (0, .ref b), (1, .ref (ga G 72)), (2, .ref (ga G 73)), (3, .ref (ga G 79))]) hx hb dL_law_861 hl (k := 4) rfl rfl (by decide) rfl (fun ls hl => ?_)
      refine lv_goto (tgt := 23) hx hb dL_law_864 (by decide) ?_
      exact W.widen (k := cells + 2) (n := slots + 12) (by omega) (by omega) (ih (x4 + 4) M y _ _ ls (cells + 2) (slots + 12) (by omega) (by omega) h hy hW (lv_sub hl [1, 2, 3, 4, 0] rfl))
