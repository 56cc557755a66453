theorem xf_1 : Bundle.fit "java/lang/IndexOutOfBoundsException" = true := by decide +kernel
theorem xn_1 : ∀ w ∈ (vx_at0 RX4 68 "java/lang/IndexOutOfBoundsException" xNs).filter (fun w => !goodWord w), w ∈ ([.castable "java/lang/IndexOutOfBoundsException" "java/lang/IndexOutOfBoundsException", .declares xD1, .declares xD2, .declares xD3] : List Cond) := by decide +kernel
theorem xg_1 : ∀ w ∈ Cond.classLink RX4 66 "java/lang/IndexOutOfBoundsException" :: Cond.initialized "java/lang/IndexOutOfBoundsException" :: vx_at0 RX4 68 "java/lang/IndexOutOfBoundsException" xNs, vx_ot w = true := by decide +kernel
theorem xf_2 : Bundle.fit "java/lang/IllegalArgumentException" = true := by decide +kernel
theorem xn_2 : ∀ w ∈ (vx_at0 RX4 96 "java/lang/IllegalArgumentException" xNs).filter (fun w => !goodWord w), w ∈ ([.castable "java/lang/IllegalArgumentException" "java/lang/IllegalArgumentException", .declares xD1, .declares xD2, .declares xD3] : List Cond) := by decide +kernel
theorem xg_2 : ∀ w ∈ Cond.classLink RX4 94 "java/lang/IllegalArgumentException" :: Cond.initialized "java/lang/IllegalArgumentException" :: vx_at0 RX4 96 "java/lang/IllegalArgumentException" xNs, vx_ot w = true := by decide +kernel
theorem xf_3 : Bundle.fit "java/lang/IllegalStateException" = true := by decide +kernel
theorem xn_3 : ∀ w ∈ (vx_at0 RX4 134 "java/lang/IllegalStateException" xNs).filter (fun w => !goodWord w), w ∈ ([.castable "java/lang/IllegalStateException" "java/lang/IllegalStateException", .declares xD1, .declares xD2, .declares xD3] : List Cond) := by decide +kernel
theorem xg_3 : ∀ w ∈ Cond.classLink RX4 132 "java/lang/IllegalStateException" :: Cond.initialized "java/lang/IllegalStateException" :: vx_at0 RX4 134 "java/lang/IllegalStateException" xNs, vx_ot w = true := by decide +kernel
theorem xf_4 : Bundle.fit "java/lang/UnsupportedOperationException" = true := by decide +kernel
theorem xn_4 : ∀ w ∈ (vx_at0 RX4 102 "java/lang/UnsupportedOperationException" xNs).filter (fun w => !goodWord w), w ∈ ([.castable "java/lang/UnsupportedOperationException" "java/lang/UnsupportedOperationException", .declares xD1, .declares xD2, .declares xD3] : List Cond) := by decide +kernel
theorem xg_4 : ∀ w ∈ Cond.classLink RX4 100 "java/lang/UnsupportedOperationException" :: Cond.initialized "java/lang/UnsupportedOperationException" :: vx_at0 RX4 102 "java/lang/UnsupportedOperationException" xNs, vx_ot w = true := by decide +kernel
theorem xf_5 : Bundle.fit "java/util/NoSuchElementException" = true := by decide +kernel
theorem xn_5 : ∀ w ∈ (vx_at0 RX4 143 "java/util/NoSuchElementException" xNs).filter (fun w => !goodWord w), w ∈ ([.castable "java/util/NoSuchElementException" "java/util/NoSuchElementException", .declares xD1, .declares xD2, .declares xD3] : List Cond) := by decide +kernel
theorem xg_5 : ∀ w ∈ Cond.classLink RX4 141 "java/util/NoSuchElementException" :: Cond.initialized "java/util/NoSuchElementException" :: vx_at0 RX4 143 "java/util/NoSuchElementException" xNs, vx_ot w = true := by decide +kernel
theorem yd_X4_at : yX4_at.cls = RX4 ∧ yX4_at.cls ≠ "java/lang/invoke/MethodHandle" ∧ yX4_at.cls ≠ "java/lang/invoke/VarHandle" ∧ (parseMethodDescriptor yX4_at.desc).map (fun d => d.parameters.length) = some 1 := by decide +kernel
set_option maxHeartbeats 4000000 in
set_option maxRecDepth 100000 in
theorem c_X4_at (G : GG) (a1 : Int32) (M : Me) (y : YT) (h : f_X4_at a1 M = some y) : CIT G yX4_at wsX4_at (rmd 6 1 6) [.ref (ga G 72), .int a1] M y 1 6 := by
  rw [f_X4_at] at h
  refine co_t (by decide) rfl rfl (Nat.le_of_ble_eq_true rfl) (fun p e s m below meth c ls C hZ hE hr hW hl => ?_)
  have hx := C.1
  have hb := C.2.1
  have hown := C.2.2.2.1
  have hts := C.2.2.2.2.1
  have inX4 : ∀ w ∈ wsX40, w ∈ wsX4_at := by decide +kernel
  have hL14 := hts (.fieldLink RX4 14 "TrustedUpdates" "draft" "LTrustedUpdates$Row;") (by decide +kernel)
  have hl : lv_has ls 2 [(0, .ref (ga G 72)), (1, .int a1)] := hl
  refine lv_aload_n hx hb dX4_at_0 rfl (lv_at hl 0 rfl) ?_
  refine wg_r C hW (k := 72) (ci := 4) (j := 0) (q := 63) k72 rfl ⟨by decide, rfl⟩ inX4 (by decide) (rfq k72 rfl) hL14 (fun _ h9 => h9) dX4_at_1 ?_
  refine lv_iload_n hx hb dX4_at_4 rfl (lv_at hl 1 rfl) ?_
  obtain ⟨q1, hq1, h⟩ := ob h
  refine wc_Vi C hW (k := 63) (As := [.int a1]) (rest := []) (c_X1_has G 63 k63 a1 M q1 hq1) k63 rfl (by decide) (cwV 1 hts gX4_at_X1_has rfl rfl rfl yd_X1_has ⟨Nat.le_of_ble_eq_true rfl, Nat.le_of_ble_eq_true rfl⟩) rfl hl.1 rfl (Nat.le_of_ble_eq_true rfl) dX4_at_5 ⟨Nat.le_of_ble_eq_true rfl, Nat.le_of_ble_eq_true rfl⟩ (fun H locs hW => ?_)
  refine lv_if_ne (tgt := 19) hx hb dX4_at_8 (by decide) (fun c1 => ?_) (fun c1 => ?_)
  · replace h := iff_ h c1
    refine lv_aload_n hx hb dX4_at_19 rfl (lv_at hl 0 rfl) ?_
    refine wg_r C hW (k := 72) (ci := 4) (j := 0) (q := 63) k72 rfl ⟨by decide, rfl⟩ inX4 (by decide) (rfq k72 rfl) hL14 (fun _ h9 => h9) dX4_at_20 ?_
    refine lv_iload_n hx hb dX4_at_23 rfl (lv_at hl 1 rfl) ?_
    obtain ⟨q2, hq2, h⟩ := ob h
    refine wc_Vi C hW (k := 63) (As := [.int a1]) (rest := []) (c_X1_byteAt G 63 k63 a1 q1.2 q2 hq2) k63 rfl (by decide) (cwV 1 hts gX4_at_X1_byteAt rfl rfl rfl yd_X1_byteAt ⟨Nat.le_of_ble_eq_true rfl, Nat.le_of_ble_eq_true rfl⟩) rfl hl.1 rfl (Nat.le_of_ble_eq_true rfl) dX4_at_24 ⟨Nat.le_of_ble_eq_true rfl, Nat.le_of_ble_eq_true rfl⟩ (fun H locs hW => ?_)
    exact wt_i C hr hW h dX4_at_27 (Nat.le_of_ble_eq_true rfl) (Nat.le_of_ble_eq_true rfl)
  · replace h := ift h c1
    exact wt_x C hZ hE hW (code := 1) (cls := "java/lang/IndexOutOfBoundsException") rfl (by decide) h xf_1 (hts (.classLink RX4 66 "java/lang/IndexOutOfBoundsException") (by decide +kernel)) (hts (.initialized "java/lang/IndexOutOfBoundsException") (by decide +kernel)) (by decide +kernel) xn_1 xg_1 hl.1 dX4_at_11 dX4_at_14 dX4_at_15 dX4_at_18 (Nat.le_of_ble_eq_true rfl) (Nat.le_of_ble_eq_true rfl) (Nat.le_of_ble_eq_true rfl) (Nat.le_of_ble_eq_true rfl) (Nat.le_of_ble_eq_true rfl) (Nat.le_of_ble_eq_true rfl)
theorem yd_X4_sign : yX4_sign.cls = RX4 ∧ yX4_sign.cls ≠ "java/lang/invoke/MethodHandle" ∧ yX4_sign.cls ≠ "java/lang/invoke/VarHandle" ∧ (parseMethodDescriptor yX4_sign.desc).map (fun d => d.parameters.length) = some 1 := by decide +kernel
set_option maxHeartbeats 4000000 in
set_option maxRecDepth 100000 in
theorem c_X4_sign (G : GG) (a1 : Int32) (M : Me) (y : YT) (h : f_X4_sign a1 M = some y) : CIT G yX4_sign wsX4_sign (rmd 6 1 6) [.ref (ga G 72), .int a1] M y 1 6 := by
  rw [f_X4_sign] at h
  refine co_t (by decide) rfl rfl (Nat.le_of_ble_eq_true rfl) (fun p e s m below meth c ls C hZ hE hr hW hl => ?_)
  have hx := C.1
  have hb := C.2.1
  have hown := C.2.2.2.1
  have hts := C.2.2.2.2.1
  have inX4 : ∀ w ∈ wsX40, w ∈ wsX4_sign := by decide +kernel
  have hL14 := hts (.fieldLink RX4 14 "TrustedUpdates" "draft" "LTrustedUpdates$Row;") (by decide +kernel)
  have hL24 := hts (.fieldLink RX4 24 "TrustedUpdates" "offered" "LTrustedUpdates$Document;") (by decide +kernel)
  have hl : lv_has ls 5 [(0, .ref (ga G 72)), (1, .int a1)] := hl
  refine lv_iload_n hx hb dX4_sign_0 rfl (lv_at hl 1 rfl) ?_
  refine lv_if_lt (tgt := 10) hx hb dX4_sign_1 (by decide) (fun c1 => ?_) (fun c1 => ?_)
  · replace h := ift h c1
    exact wt_x C hZ hE hW (code := 1) (cls := "java/lang/IndexOutOfBoundsException") rfl (by decide) h xf_1 (hts (.classLink RX4 66 "java/lang/IndexOutOfBoundsException") (by decide +kernel)) (hts (.initialized "java/lang/IndexOutOfBoundsException") (by decide +kernel)) (by decide +kernel) xn_1 xg_1 hl.1 dX4_sign_10 dX4_sign_13 dX4_sign_14 dX4_sign_17 (Nat.le_of_ble_eq_true rfl) (Nat.le_of_ble_eq_true rfl) (Nat.le_of_ble_eq_true rfl) (Nat.le_of_ble_eq_true rfl) (Nat.le_of_ble_eq_true rfl) (Nat.le_of_ble_eq_true rfl)
  · replace h := iff_ h c1
    refine lv_iload_n hx hb dX4_sign_4 rfl (lv_at hl 1 rfl) ?_
    refine lv_bipush (v := 9) hx hb dX4_sign_5 (by decide) ?_
    refine lv_icmp_le (tgt := 18) hx hb dX4_sign_7 (by decide) (fun c2 => ?_) (fun c2 => ?_)
    · replace h := ift h c2
      refine lv_aload_n hx hb dX4_sign_18 rfl (lv_at hl 0 rfl) ?_
      refine wg_r C hW (k := 72) (ci := 4) (j := 2) (q := 56) k72 rfl ⟨by decide, rfl⟩ inX4 (by decide) (rfq k72 rfl) hL24 (fun _ h9 => h9) dX4_sign_19 ?_
      refine lv_aload_n hx hb dX4_sign_22 rfl (lv_at hl 0 rfl) ?_
      refine wg_r C hW (k := 72) (ci := 4) (j := 0) (q := 63) k72 rfl ⟨by decide, rfl⟩ inX4 (by decide) (rfq k72 rfl) hL14 (fun _ h9 => h9) dX4_sign_23 ?_
      obtain ⟨q1, hq1, h⟩ := ob h
      refine wc_Vv C hW (k := 56) (As := [.ref (ga G 63)]) (rest := []) (c_X0_read G 56 k56 63 k63 M q1 hq1) k56 rfl (by decide) (cwV 1 hts gX4_sign_X0_read rfl rfl rfl yd_X0_read ⟨Nat.le_of_ble_eq_true rfl, Nat.le_of_ble_eq_true rfl⟩) rfl hl.1 rfl (Nat.le_of_ble_eq_true rfl) dX4_sign_26 ⟨Nat.le_of_ble_eq_true rfl, Nat.le_of_ble_eq_true rfl⟩ (fun H locs hW => ?_)
      refine lv_aload_n hx hb dX4_sign_29 rfl (lv_at hl 0 rfl) ?_
      refine wg_r C hW (k := 72) (ci := 4) (j := 2) (q := 56) k72 rfl ⟨by decide, rfl⟩ inX4 (by decide) (rfq k72 rfl) hL24 (fun _ h9 => h9) dX4_sign_30 ?_
      obtain ⟨q2, hq2, h⟩ := ob h
      refine wc_Vi C hW (k := 56) (As := []) (rest := []) (c_X0_isBare G 56 k56 q1.2 q2 hq2) k56 rfl (by decide) (cwV 0 hts gX4_sign_X0_isBare rfl rfl rfl yd_X0_isBare ⟨Nat.le_of_ble_eq_true rfl, Nat.le_of_ble_eq_true rfl⟩) rfl hl.1 rfl (Nat.le_of_ble_eq_true rfl) dX4_sign_33 ⟨Nat.le_of_ble_eq_true rfl, Nat.le_of_ble_eq_true rfl⟩ (fun H locs hW => ?_)
      refine lv_istore_n (lv' := [(2, .int q2.1), (0, .ref (ga G 72)), (1, .int a1)]) hx hb dX4_sign_36 rfl hl (by decide) rfl (fun ls hl => ?_)
      refine lv_iload_n hx hb dX4_sign_37 rfl (lv_at hl 0 rfl) ?_
      refine lv_if_ne (tgt := 59) hx hb dX4_sign_38 (by decide) (fun c3 => ?_) (fun c3 => ?_)
      · replace h := iff_ h c3
        refine lv_iload_n hx hb dX4_sign_59 rfl (lv_at hl 0 rfl) ?_
        refine lv_if_eq (tgt := 67) hx hb dX4_sign_60 (by decide) (fun c4 => absurd c4 c3) (fun _ => ?_)
        refine lv_iconst (v := 0) hx hb dX4_sign_63 (by decide) ?_
        refine lv_goto (tgt := 74) hx hb dX4_sign_64 (by decide) ?_
        refine lv_istore_n (lv' := [(3, .int 0), (2, .int q2.1), (0, .ref (ga G 72)), (1, .int a1)]) hx hb dX4_sign_74 rfl hl (by decide) rfl (fun ls hl => ?_)
        refine lv_iload_n hx hb dX4_sign_75 rfl (lv_at hl 1 rfl) ?_
        refine lv_if_eq (tgt := 84) hx hb dX4_sign_76 (by decide) (fun c5 => absurd c5 c3) (fun _ => ?_)
        refine lv_bipush (v := 6) hx hb dX4_sign_79 (by decide) ?_
        refine lv_goto (tgt := 85) hx hb dX4_sign_81 (by decide) ?_
        refine lv_istore (lv' := [(4, .int 6), (3, .int 0), (2, .int q2.1), (0, .ref (ga G 72)), (1, .int a1)]) hx hb dX4_sign_85 hl (by decide) rfl (fun ls hl => ?_)
        refine lv_iload_n hx hb dX4_sign_87 rfl (lv_at hl 1 rfl) ?_
        refine lv_bipush (v := 6) hx hb dX4_sign_88 (by decide) ?_
        refine lv_icmp_ge (tgt := 105) hx hb dX4_sign_90 (by decide) (fun c6 => absurd c6 (by decide)) (fun _ => ?_)
        refine lv_aload_n hx hb dX4_sign_93 rfl (lv_at hl 3 rfl) ?_
        refine wg_r C hW (k := 72) (ci := 4) (j := 0) (q := 63) k72 rfl ⟨by decide, rfl⟩ inX4 (by decide) (rfq k72 rfl) hL14 (fun _ h9 => h9) dX4_sign_94 ?_
        refine lv_iload hx hb dX4_sign_97 (lv_at hl 0 rfl) ?_
        obtain ⟨q3, hq3, h⟩ := ob h
        refine wc_Vi C hW (k := 63) (As := [.int 6]) (rest := []) (c_X1_hasRoomFor G 63 k63 6 q2.2 q3 hq3) k63 rfl (by decide) (cwV 1 hts gX4_sign_X1_hasRoomFor rfl rfl rfl yd_X1_hasRoomFor ⟨Nat.le_of_ble_eq_true rfl, Nat.le_of_ble_eq_true rfl⟩) rfl hl.1 rfl (Nat.le_of_ble_eq_true rfl) dX4_sign_99 ⟨Nat.le_of_ble_eq_true rfl, Nat.le_of_ble_eq_true rfl⟩ (fun H locs hW => ?_)
        refine lv_if_ne (tgt := 113) hx hb dX4_sign_102 (by decide) (fun c7 => ?_) (fun c7 => ?_)
        · replace h := iff_ h c7
          refine lv_iload_n hx hb dX4_sign_113 rfl (lv_at hl 2 rfl) ?_
          refine lv_if_eq (tgt := 128) hx hb dX4_sign_114 (by decide) (fun c8 => absurd c8 c3) (fun _ => ?_)
          refine lv_aload_n hx hb dX4_sign_117 rfl (lv_at hl 3 rfl) ?_
          refine wg_r C hW (k := 72) (ci := 4) (j := 0) (q := 63) k72 rfl ⟨by decide, rfl⟩ inX4 (by decide) (rfq k72 rfl) hL14 (fun _ h9 => h9) dX4_sign_118 ?_
          refine lv_iconst (v := 1) hx hb dX4_sign_121 (by decide) ?_
          obtain ⟨q4, hq4, h⟩ := ob h
          refine wc_Vv C hW (k := 63) (As := [.int 1]) (rest := []) (c_X1_append G 63 k63 1 q3.2 q4 hq4) k63 rfl (by decide) (cwV 1 hts gX4_sign_X1_append rfl rfl rfl yd_X1_append ⟨Nat.le_of_ble_eq_true rfl, Nat.le_of_ble_eq_true rfl⟩) rfl hl.1 rfl (Nat.le_of_ble_eq_true rfl) dX4_sign_122 ⟨Nat.le_of_ble_eq_true rfl, Nat.le_of_ble_eq_true rfl⟩ (fun H locs hW => ?_)
          refine lv_goto (tgt := 145) hx hb dX4_sign_125 (by decide) ?_
          refine lv_aload_n hx hb dX4_sign_145 rfl (lv_at hl 3 rfl) ?_
          refine wg_r C hW (k := 72) (ci := 4) (j := 0) (q := 63) k72 rfl ⟨by decide, rfl⟩ inX4 (by decide) (rfq k72 rfl) hL14 (fun _ h9 => h9) dX4_sign_146 ?_
          refine lv_iload_n hx hb dX4_sign_149 rfl (lv_at hl 4 rfl) ?_
          obtain ⟨q5, hq5, h⟩ := ob h
          refine wc_Vv C hW (k := 63) (As := [.int a1]) (rest := []) (c_X1_append G 63 k63 a1 q4.2 q5 hq5) k63 rfl (by decide) (cwV 1 hts gX4_sign_X1_append rfl rfl rfl yd_X1_append ⟨Nat.le_of_ble_eq_true rfl, Nat.le_of_ble_eq_true rfl⟩) rfl hl.1 rfl (Nat.le_of_ble_eq_true rfl) dX4_sign_150 ⟨Nat.le_of_ble_eq_true rfl, Nat.le_of_ble_eq_true rfl⟩ (fun H locs hW => ?_)
          refine lv_aload_n hx hb dX4_sign_153 rfl (lv_at hl 3 rfl) ?_
          refine wg_r C hW (k := 72) (ci := 4) (j := 0) (q := 63) k72 rfl ⟨by decide, rfl⟩ inX4 (by decide) (rfq k72 rfl) hL14 (fun _ h9 => h9) dX4_sign_154 ?_
          refine lv_aload_n hx hb dX4_sign_157 rfl (lv_at hl 3 rfl) ?_
          refine wg_r C hW (k := 72) (ci := 4) (j := 2) (q := 56) k72 rfl ⟨by decide, rfl⟩ inX4 (by decide) (rfq k72 rfl) hL24 (fun _ h9 => h9) dX4_sign_158 ?_
          refine lv_iload_n hx hb dX4_sign_161 rfl (lv_at hl 4 rfl) ?_
          obtain ⟨q6, hq6, h⟩ := ob h
          refine wc_Vi C hW (k := 56) (As := [.int a1]) (rest := [.ref (ga G 63)]) (c_X0_signatureOf G 56 k56 a1 q5.2 q6 hq6) k56 rfl (by decide) (cwV 1 hts gX4_sign_X0_signatureOf rfl rfl rfl yd_X0_signatureOf ⟨Nat.le_of_ble_eq_true rfl, Nat.le_of_ble_eq_true rfl⟩) rfl hl.1 rfl (Nat.le_of_ble_eq_true rfl) dX4_sign_162 ⟨Nat.le_of_ble_eq_true rfl, Nat.le_of_ble_eq_true rfl⟩ (fun H locs hW => ?_)
          obtain ⟨q7, hq7, h⟩ := ob h
          refine wc_Vv C hW (k := 63) (As := [.int q6.1]) (rest := []) (c_X1_appendWord G 63 k63 q6.1 q6.2 q7 hq7) k63 rfl (by decide) (cwV 1 hts gX4_sign_X1_appendWord rfl rfl rfl yd_X1_appendWord ⟨Nat.le_of_ble_eq_true rfl, Nat.le_of_ble_eq_true rfl⟩) rfl hl.1 rfl (Nat.le_of_ble_eq_true rfl) dX4_sign_165 ⟨Nat.le_of_ble_eq_true rfl, Nat.le_of_ble_eq_true rfl⟩ (fun H locs hW => ?_)
          refine lv_iload_n hx hb dX4_sign_168 rfl (lv_at hl 1 rfl) ?_
          refine lv_iconst (v := 1) hx hb dX4_sign_169 (by decide) ?_
          refine lv_iadd hx hb dX4_sign_170 ?_
          exact wt_i C hr hW h dX4_sign_171 (Nat.le_of_ble_eq_true rfl) (Nat.le_of_ble_eq_true rfl)
        · replace h := ift h c7
          exact wt_x C hZ hE hW (code := 4) (cls := "java/lang/UnsupportedOperationException") rfl (by decide) h xf_4 (hts (.classLink RX4 100 "java/lang/UnsupportedOperationException") (by decide +kernel)) (hts (.initialized "java/lang/UnsupportedOperationException") (by decide +kernel)) (by decide +kernel) xn_4 xg_4 hl.1 dX4_sign_105 dX4_sign_108 dX4_sign_109 dX4_sign_112 (Nat.le_of_ble_eq_true rfl) (Nat.le_of_ble_eq_true rfl) (Nat.le_of_ble_eq_true rfl) (Nat.le_of_ble_eq_true rfl) (Nat.le_of_ble_eq_true rfl) (Nat.le_of_ble_eq_true rfl)
      · replace h := ift h c3
        refine lv_aload_n hx hb dX4_sign_41 rfl (lv_at hl 1 rfl) ?_
        refine wg_r C hW (k := 72) (ci := 4) (j := 2) (q := 56) k72 rfl ⟨by decide, rfl⟩ inX4 (by decide) (rfq k72 rfl) hL24 (fun _ h9 => h9) dX4_sign_42 ?_
        obtain ⟨q8, hq8, h⟩ := ob h
        refine wc_Vi C hW (k := 56) (As := []) (rest := []) (c_X0_isWhole G 56 k56 q2.2 q8 hq8) k56 rfl (by decide) (cwV 0 hts gX4_sign_X0_isWhole rfl rfl rfl yd_X0_isWhole ⟨Nat.le_of_ble_eq_true rfl, Nat.le_of_ble_eq_true rfl⟩) rfl hl.1 rfl (Nat.le_of_ble_eq_true rfl) dX4_sign_45 ⟨Nat.le_of_ble_eq_true rfl, Nat.le_of_ble_eq_true rfl⟩ (fun H locs hW => ?_)
        refine lv_if_ne (tgt := 59) hx hb dX4_sign_48 (by decide) (fun c9 => ?_) (fun c9 => ?_)
        · replace h := iff_ h c9
          refine lv_iload_n hx hb dX4_sign_59 rfl (lv_at hl 0 rfl) ?_
          refine lv_if_eq (tgt := 67) hx hb dX4_sign_60 (by decide) (fun _ => ?_) (fun c10 => absurd c3 c10)
          refine lv_aload_n hx hb dX4_sign_67 rfl (lv_at hl 1 rfl) ?_
          refine wg_r C hW (k := 72) (ci := 4) (j := 2) (q := 56) k72 rfl ⟨by decide, rfl⟩ inX4 (by decide) (rfq k72 rfl) hL24 (fun _ h9 => h9) dX4_sign_68 ?_
          obtain ⟨q9, hq9, h⟩ := ob h
          refine wc_Vi C hW (k := 56) (As := []) (rest := []) (c_X0_signatureCount G 56 k56 q8.2 q9 hq9) k56 rfl (by decide) (cwV 0 hts gX4_sign_X0_signatureCount rfl rfl rfl yd_X0_signatureCount ⟨Nat.le_of_ble_eq_true rfl, Nat.le_of_ble_eq_true rfl⟩) rfl hl.1 rfl (Nat.le_of_ble_eq_true rfl) dX4_sign_71 ⟨Nat.le_of_ble_eq_true rfl, Nat.le_of_ble_eq_true rfl⟩ (fun H locs hW => ?_)
          refine lv_istore_n (lv' := [(3, .int q9.1), (2, .int q2.1), (0, .ref (ga G 72)), (1, .int a1)]) hx hb dX4_sign_74 rfl hl (by decide) rfl (fun ls hl => ?_)
          refine lv_iload_n hx hb dX4_sign_75 rfl (lv_at hl 1 rfl) ?_
          refine lv_if_eq (tgt := 84) hx hb dX4_sign_76 (by decide) (fun _ => ?_) (fun c11 => absurd c3 c11)
          refine lv_iconst (v := 5) hx hb dX4_sign_84 (by decide) ?_
          refine lv_istore (lv' := [(4, .int 5), (3, .int q9.1), (2, .int q2.1), (0, .ref (ga G 72)), (1, .int a1)]) hx hb dX4_sign_85 hl (by decide) rfl (fun ls hl => ?_)
          refine lv_iload_n hx hb dX4_sign_87 rfl (lv_at hl 1 rfl) ?_
          refine lv_bipush (v := 6) hx hb dX4_sign_88 (by decide) ?_
          refine lv_icmp_ge (tgt := 105) hx hb dX4_sign_90 (by decide) (fun c12 => ?_) (fun c12 => ?_)
          · replace h := ift h c12
            exact wt_x C hZ hE hW (code := 4) (cls := "java/lang/UnsupportedOperationException") rfl (by decide) h xf_4 (hts (.classLink RX4 100 "java/lang/UnsupportedOperationException") (by decide +kernel)) (hts (.initialized "java/lang/UnsupportedOperationException") (by decide +kernel)) (by decide +kernel) xn_4 xg_4 hl.1 dX4_sign_105 dX4_sign_108 dX4_sign_109 dX4_sign_112 (Nat.le_of_ble_eq_true rfl) (Nat.le_of_ble_eq_true rfl) (Nat.le_of_ble_eq_true rfl) (Nat.le_of_ble_eq_true rfl) (Nat.le_of_ble_eq_true rfl) (Nat.le_of_ble_eq_true rfl)
          · replace h := iff_ h c12
            refine lv_aload_n hx hb dX4_sign_93 rfl (lv_at hl 3 rfl) ?_
            refine wg_r C hW (k := 72) (ci := 4) (j := 0) (q := 63) k72 rfl ⟨by decide, rfl⟩ inX4 (by decide) (rfq k72 rfl) hL14 (fun _ h9 => h9) dX4_sign_94 ?_
            refine lv_iload hx hb dX4_sign_97 (lv_at hl 0 rfl) ?_
            obtain ⟨q10, hq10, h⟩ := ob h
            refine wc_Vi C hW (k := 63) (As := [.int 5]) (rest := []) (c_X1_hasRoomFor G 63 k63 5 q9.2 q10 hq10) k63 rfl (by decide) (cwV 1 hts gX4_sign_X1_hasRoomFor rfl rfl rfl yd_X1_hasRoomFor ⟨Nat.le_of_ble_eq_true rfl, Nat.le_of_ble_eq_true rfl⟩) rfl hl.1 rfl (Nat.le_of_ble_eq_true rfl) dX4_sign_99 ⟨Nat.le_of_ble_eq_true rfl, Nat.le_of_ble_eq_true rfl⟩ (fun H locs hW => ?_)
            refine lv_if_ne (tgt := 113) hx hb dX4_sign_102 (by decide) (fun c13 => ?_) (fun c13 => ?_)
            · replace h := iff_ h c13
              refine lv_iload_n hx hb dX4_sign_113 rfl (lv_at hl 2 rfl) ?_
              refine lv_if_eq (tgt := 128) hx hb dX4_sign_114 (by decide) (fun _ => ?_) (fun c14 => absurd c3 c14)
              refine lv_aload_n hx hb dX4_sign_128 rfl (lv_at hl 3 rfl) ?_
              refine wg_r C hW (k := 72) (ci := 4) (j := 0) (q := 63) k72 rfl ⟨by decide, rfl⟩ inX4 (by decide) (rfq k72 rfl) hL14 (fun _ h9 => h9) dX4_sign_129 ?_
              refine lv_aload_n hx hb dX4_sign_132 rfl (lv_at hl 3 rfl) ?_
              refine wg_r C hW (k := 72) (ci := 4) (j := 2) (q := 56) k72 rfl ⟨by decide, rfl⟩ inX4 (by decide) (rfq k72 rfl) hL24 (fun _ h9 => h9) dX4_sign_133 ?_
              obtain ⟨q11, hq11, h⟩ := ob h
              refine wc_Vi C hW (k := 56) (As := []) (rest := [.ref (ga G 63)]) (c_X0_signedSize G 56 k56 q10.2 q11 hq11) k56 rfl (by decide) (cwV 0 hts gX4_sign_X0_signedSize rfl rfl rfl yd_X0_signedSize ⟨Nat.le_of_ble_eq_true rfl, Nat.le_of_ble_eq_true rfl⟩) rfl hl.1 rfl (Nat.le_of_ble_eq_true rfl) dX4_sign_136 ⟨Nat.le_of_ble_eq_true rfl, Nat.le_of_ble_eq_true rfl⟩ (fun H locs hW => ?_)
              refine lv_iload_n hx hb dX4_sign_139 rfl (lv_at hl 1 rfl) ?_
              refine lv_iconst (v := 1) hx hb dX4_sign_140 (by decide) ?_
              refine lv_iadd hx hb dX4_sign_141 ?_
              obtain ⟨q12, hq12, h⟩ := ob h
              refine wc_Vv C hW (k := 63) (As := [.int q11.1, .int (q9.1 + 1)]) (rest := []) (c_X1_replace G 63 k63 q11.1 (q9.1 + 1) q11.2 q12 hq12) k63 rfl (by decide) (cwV 2 hts gX4_sign_X1_replace rfl rfl rfl yd_X1_replace ⟨Nat.le_of_ble_eq_true rfl, Nat.le_of_ble_eq_true rfl⟩) rfl hl.1 rfl (Nat.le_of_ble_eq_true rfl) dX4_sign_142 ⟨Nat.le_of_ble_eq_true rfl, Nat.le_of_ble_eq_true rfl⟩ (fun H locs hW => ?_)
              refine lv_aload_n hx hb dX4_sign_145 rfl (lv_at hl 3 rfl) ?_
              refine wg_r C hW (k := 72) (ci := 4) (j := 0) (q := 63) k72 rfl ⟨by decide, rfl⟩ inX4 (by decide) (rfq k72 rfl) hL14 (fun _ h9 => h9) dX4_sign_146 ?_
              refine lv_iload_n hx hb dX4_sign_149 rfl (lv_at hl 4 rfl) ?_
              obtain ⟨q13, hq13, h⟩ := ob h
              refine wc_Vv C hW (k := 63) (As := [.int a1]) (rest := []) (c_X1_append G 63 k63 a1 q12.2 q13 hq13) k63 rfl (by decide) (cwV 1 hts gX4_sign_X1_append rfl rfl rfl yd_X1_append ⟨Nat.le_of_ble_eq_true rfl, Nat.le_of_ble_eq_true rfl⟩) rfl hl.1 rfl (Nat.le_of_ble_eq_true rfl) dX4_sign_150 ⟨Nat.le_of_ble_eq_true rfl, Nat.le_of_ble_eq_true rfl⟩ (fun H locs hW => ?_)
              refine lv_aload_n hx hb dX4_sign_153 rfl (lv_at hl 3 rfl) ?_
              refine wg_r C hW (k := 72) (ci := 4) (j := 0) (q := 63) k72 rfl ⟨by decide, rfl⟩ inX4 (by decide) (rfq k72 rfl) hL14 (fun _ h9 => h9) dX4_sign_154 ?_
              refine lv_aload_n hx hb dX4_sign_157 rfl (lv_at hl 3 rfl) ?_
              refine wg_r C hW (k := 72) (ci := 4) (j := 2) (q := 56) k72 rfl ⟨by decide, rfl⟩ inX4 (by decide) (rfq k72 rfl) hL24 (fun _ h9 => h9) dX4_sign_158 ?_
              refine lv_iload_n hx hb dX4_sign_161 rfl (lv_at hl 4 rfl) ?_
              obtain ⟨q14, hq14, h⟩ := ob h
              refine wc_Vi C hW (k := 56) (As := [.int a1]) (rest := [.ref (ga G 63)]) (c_X0_signatureOf G 56 k56 a1 q13.2 q14 hq14) k56 rfl (by decide) (cwV 1 hts gX4_sign_X0_signatureOf rfl rfl rfl yd_X0_signatureOf ⟨Nat.le_of_ble_eq_true rfl, Nat.le_of_ble_eq_true rfl⟩) rfl hl.1 rfl (Nat.le_of_ble_eq_true rfl) dX4_sign_162 ⟨Nat.le_of_ble_eq_true rfl, Nat.le_of_ble_eq_true rfl⟩ (fun H locs hW => ?_)
              obtain ⟨q15, hq15, h⟩ := ob h
              refine wc_Vv C hW (k := 63) (As := [.int q14.1]) (rest := []) (c_X1_appendWord G 63 k63 q14.1 q14.2 q15 hq15) k63 rfl (by decide) (cwV 1 hts gX4_sign_X1_appendWord rfl rfl rfl yd_X1_appendWord ⟨Nat.le_of_ble_eq_true rfl, Nat.le_of_ble_eq_true rfl⟩) rfl hl.1 rfl (Nat.le_of_ble_eq_true rfl) dX4_sign_165 ⟨Nat.le_of_ble_eq_true rfl, Nat.le_of_ble_eq_true rfl⟩ (fun H locs hW => ?_)
              refine lv_iload_n hx hb dX4_sign_168 rfl (lv_at hl 1 rfl) ?_
              refine lv_iconst (v := 1) hx hb dX4_sign_169 (by decide) ?_
              refine lv_iadd hx hb dX4_sign_170 ?_
              exact wt_i C hr hW h dX4_sign_171 (Nat.le_of_ble_eq_true rfl) (Nat.le_of_ble_eq_true rfl)
            · replace h := ift h c13
              exact wt_x C hZ hE hW (code := 4) (cls := "java/lang/UnsupportedOperationException") rfl (by decide) h xf_4 (hts (.classLink RX4 100 "java/lang/UnsupportedOperationException") (by decide +kernel)) (hts (.initialized "java/lang/UnsupportedOperationException") (by decide +kernel)) (by decide +kernel) xn_4 xg_4 hl.1 dX4_sign_105 dX4_sign_108 dX4_sign_109 dX4_sign_112 (Nat.le_of_ble_eq_true rfl) (Nat.le_of_ble_eq_true rfl) (Nat.le_of_ble_eq_true rfl) (Nat.le_of_ble_eq_true rfl) (Nat.le_of_ble_eq_true rfl) (Nat.le_of_ble_eq_true rfl)
        · replace h := ift h c9
          exact wt_x C hZ hE hW (code := 2) (cls := "java/lang/IllegalArgumentException") rfl (by decide) h xf_2 (hts (.classLink RX4 94 "java/lang/IllegalArgumentException") (by decide +kernel)) (hts (.initialized "java/lang/IllegalArgumentException") (by decide +kernel)) (by decide +kernel) xn_2 xg_2 hl.1 dX4_sign_51 dX4_sign_54 dX4_sign_55 dX4_sign_58 (Nat.le_of_ble_eq_true rfl) (Nat.le_of_ble_eq_true rfl) (Nat.le_of_ble_eq_true rfl) (Nat.le_of_ble_eq_true rfl) (Nat.le_of_ble_eq_true rfl) (Nat.le_of_ble_eq_true rfl)
    · replace h := iff_ h c2
      exact wt_x C hZ hE hW (code := 1) (cls := "java/lang/IndexOutOfBoundsException") rfl (by decide) h xf_1 (hts (.classLink RX4 66 "java/lang/IndexOutOfBoundsException") (by decide +kernel)) (hts (.initialized "java/lang/IndexOutOfBoundsException") (by decide +kernel)) (by decide +kernel) xn_1 xg_1 hl.1 dX4_sign_10 dX4_sign_13 dX4_sign_14 dX4_sign_17 (Nat.le_of_ble_eq_true rfl) (Nat.le_of_ble_eq_true rfl) (Nat.le_of_ble_eq_true rfl) (Nat.le_of_ble_eq_true rfl) (Nat.le_of_ble_eq_true rfl) (Nat.le_of_ble_eq_true rfl)
theorem yd_X4_tick : yX4_tick.cls = RX4 ∧ yX4_tick.cls ≠ "java/lang/invoke/MethodHandle" ∧ yX4_tick.cls ≠ "java/lang/invoke/VarHandle" ∧ (parseMethodDescriptor yX4_tick.desc).map (fun d => d.parameters.length) = some 1 := by decide +kernel
set_option maxHeartbeats 4000000 in
set_option maxRecDepth 100000 in
theorem c_X4_tick (G : GG) (a1 : Int32) (M : Me) (y : YT) (h : f_X4_tick a1 M = some y) : CIT G yX4_tick wsX4_tick (rmd 6 1 6) [.ref (ga G 72), .int a1] M y 1 6 := by
  rw [f_X4_tick] at h
  refine co_t (by decide) rfl rfl (Nat.le_of_ble_eq_true rfl) (fun p e s m below meth c ls C hZ hE hr hW hl => ?_)
  have hx := C.1
  have hb := C.2.1
  have hown := C.2.2.2.1
  have hts := C.2.2.2.2.1
  have inX4 : ∀ w ∈ wsX40, w ∈ wsX4_tick := by decide +kernel
  have hL31 := hts (.fieldLink RX4 31 "TrustedUpdates" "trust" "LTrustedUpdates$Trust;") (by decide +kernel)
  have hl : lv_has ls 2 [(0, .ref (ga G 72)), (1, .int a1)] := hl
  refine lv_iload_n hx hb dX4_tick_0 rfl (lv_at hl 1 rfl) ?_
  refine lv_if_lt (tgt := 11) hx hb dX4_tick_1 (by decide) (fun c1 => ?_) (fun c1 => ?_)
  · replace h := ift h c1
    exact wt_x C hZ hE hW (code := 2) (cls := "java/lang/IllegalArgumentException") rfl (by decide) h xf_2 (hts (.classLink RX4 94 "java/lang/IllegalArgumentException") (by decide +kernel)) (hts (.initialized "java/lang/IllegalArgumentException") (by decide +kernel)) (by decide +kernel) xn_2 xg_2 hl.1 dX4_tick_11 dX4_tick_14 dX4_tick_15 dX4_tick_18 (Nat.le_of_ble_eq_true rfl) (Nat.le_of_ble_eq_true rfl) (Nat.le_of_ble_eq_true rfl) (Nat.le_of_ble_eq_true rfl) (Nat.le_of_ble_eq_true rfl) (Nat.le_of_ble_eq_true rfl)
  · replace h := iff_ h c1
    refine lv_iload_n hx hb dX4_tick_4 rfl (lv_at hl 1 rfl) ?_
    refine lv_sipush (v := 10000) hx hb dX4_tick_5 (by decide) ?_
    refine lv_icmp_le (tgt := 19) hx hb dX4_tick_8 (by decide) (fun c2 => ?_) (fun c2 => ?_)
    · replace h := ift h c2
      refine lv_aload_n hx hb dX4_tick_19 rfl (lv_at hl 0 rfl) ?_
      refine wg_r C hW (k := 72) (ci := 4) (j := 3) (q := 69) k72 rfl ⟨by decide, rfl⟩ inX4 (by decide) (rfq k72 rfl) hL31 (fun _ h9 => h9) dX4_tick_20 ?_
      refine lv_iload_n hx hb dX4_tick_23 rfl (lv_at hl 1 rfl) ?_
      obtain ⟨q1, hq1, h⟩ := ob h
      refine wc_Vi C hW (k := 69) (As := [.int a1]) (rest := []) (c_X3_advanceClock G a1 M q1 hq1) k69 rfl (by decide) (cwV 1 hts gX4_tick_X3_advanceClock rfl rfl rfl yd_X3_advanceClock ⟨Nat.le_of_ble_eq_true rfl, Nat.le_of_ble_eq_true rfl⟩) rfl hl.1 rfl (Nat.le_of_ble_eq_true rfl) dX4_tick_24 ⟨Nat.le_of_ble_eq_true rfl, Nat.le_of_ble_eq_true rfl⟩ (fun H locs hW => ?_)
      exact wt_i C hr hW h dX4_tick_27 (Nat.le_of_ble_eq_true rfl) (Nat.le_of_ble_eq_true rfl)
    · replace h := iff_ h c2
      exact wt_x C hZ hE hW (code := 2) (cls := "java/lang/IllegalArgumentException") rfl (by decide) h xf_2 (hts (.classLink RX4 94 "java/lang/IllegalArgumentException") (by decide +kernel)) (hts (.initialized "java/lang/IllegalArgumentException") (by decide +kernel)) (by decide +kernel) xn_2 xg_2 hl.1 dX4_tick_11 dX4_tick_14 dX4_tick_15 dX4_tick_18 (Nat.le_of_ble_eq_true rfl) (Nat.le_of_ble_eq_true rfl) (Nat.le_of_ble_eq_true rfl) (Nat.le_of_ble_eq_true rfl) (Nat.le_of_ble_eq_true rfl) (Nat.le_of_ble_eq_true rfl)
theorem yd_X4_begin : yX4_begin.cls = RX4 ∧ yX4_begin.cls ≠ "java/lang/invoke/MethodHandle" ∧ yX4_begin.cls ≠ "java/lang/invoke/VarHandle" ∧ (parseMethodDescriptor yX4_begin.desc).map (fun d => d.parameters.length) = some 0 := by decide +kernel
set_option maxHeartbeats 4000000 in
set_option maxRecDepth 100000 in
theorem c_X4_begin (G : GG)  (M : Me) (y : YT) (h : f_X4_begin  M = some y) : CVT G yX4_begin wsX4_begin (rmd 7 1 6) [.ref (ga G 72)] M y 1 6 := by
  rw [f_X4_begin] at h
  refine co_t (by decide) rfl rfl (Nat.le_of_ble_eq_true rfl) (fun p e s m below meth c ls C hZ hE hr hW hl => ?_)
  have hx := C.1
  have hb := C.2.1
  have hown := C.2.2.2.1
  have hts := C.2.2.2.2.1
  have inX4 : ∀ w ∈ wsX40, w ∈ wsX4_begin := by decide +kernel
  have hL14 := hts (.fieldLink RX4 14 "TrustedUpdates" "draft" "LTrustedUpdates$Row;") (by decide +kernel)
  have hL24 := hts (.fieldLink RX4 24 "TrustedUpdates" "offered" "LTrustedUpdates$Document;") (by decide +kernel)
  have hL31 := hts (.fieldLink RX4 31 "TrustedUpdates" "trust" "LTrustedUpdates$Trust;") (by decide +kernel)
  have hl : lv_has ls 1 [(0, .ref (ga G 72))] := hl
  refine lv_aload_n hx hb dX4_begin_0 rfl (lv_at hl 0 rfl) ?_
  refine wg_r C hW (k := 72) (ci := 4) (j := 2) (q := 56) k72 rfl ⟨by decide, rfl⟩ inX4 (by decide) (rfq k72 rfl) hL24 (fun _ h9 => h9) dX4_begin_1 ?_
  refine lv_aload_n hx hb dX4_begin_4 rfl (lv_at hl 0 rfl) ?_
  refine wg_r C hW (k := 72) (ci := 4) (j := 0) (q := 63) k72 rfl ⟨by decide, rfl⟩ inX4 (by decide) (rfq k72 rfl) hL14 (fun _ h9 => h9) dX4_begin_5 ?_
  obtain ⟨q1, hq1, h⟩ := ob h
  refine wc_Vv C hW (k := 56) (As := [.ref (ga G 63)]) (rest := []) (c_X0_read G 56 k56 63 k63 M q1 hq1) k56 rfl (by decide) (cwV 1 hts gX4_begin_X0_read rfl rfl rfl yd_X0_read ⟨Nat.le_of_ble_eq_true rfl, Nat.le_of_ble_eq_true rfl⟩) rfl hl.1 rfl (Nat.le_of_ble_eq_true rfl) dX4_begin_8 ⟨Nat.le_of_ble_eq_true rfl, Nat.le_of_ble_eq_true rfl⟩ (fun H locs hW => ?_)
  refine lv_aload_n hx hb dX4_begin_11 rfl (lv_at hl 0 rfl) ?_
  refine wg_r C hW (k := 72) (ci := 4) (j := 2) (q := 56) k72 rfl ⟨by decide, rfl⟩ inX4 (by decide) (rfq k72 rfl) hL24 (fun _ h9 => h9) dX4_begin_12 ?_
  obtain ⟨q2, hq2, h⟩ := ob h
  refine wc_Vi C hW (k := 56) (As := []) (rest := []) (c_X0_isWhole G 56 k56 q1.2 q2 hq2) k56 rfl (by decide) (cwV 0 hts gX4_begin_X0_isWhole rfl rfl rfl yd_X0_isWhole ⟨Nat.le_of_ble_eq_true rfl, Nat.le_of_ble_eq_true rfl⟩) rfl hl.1 rfl (Nat.le_of_ble_eq_true rfl) dX4_begin_15 ⟨Nat.le_of_ble_eq_true rfl, Nat.le_of_ble_eq_true rfl⟩ (fun H locs hW => ?_)
  refine lv_if_eq (tgt := 31) hx hb dX4_begin_18 (by decide) (fun c1 => ?_) (fun c1 => ?_)
  · replace h := ift h c1
    exact wt_x C hZ hE hW (code := 2) (cls := "java/lang/IllegalArgumentException") rfl (by decide) h xf_2 (hts (.classLink RX4 94 "java/lang/IllegalArgumentException") (by decide +kernel)) (hts (.initialized "java/lang/IllegalArgumentException") (by decide +kernel)) (by decide +kernel) xn_2 xg_2 hl.1 dX4_begin_31 dX4_begin_34 dX4_begin_35 dX4_begin_38 (Nat.le_of_ble_eq_true rfl) (Nat.le_of_ble_eq_true rfl) (Nat.le_of_ble_eq_true rfl) (Nat.le_of_ble_eq_true rfl) (Nat.le_of_ble_eq_true rfl) (Nat.le_of_ble_eq_true rfl)
  · replace h := iff_ h c1
    refine lv_aload_n hx hb dX4_begin_21 rfl (lv_at hl 0 rfl) ?_
    refine wg_r C hW (k := 72) (ci := 4) (j := 2) (q := 56) k72 rfl ⟨by decide, rfl⟩ inX4 (by decide) (rfq k72 rfl) hL24 (fun _ h9 => h9) dX4_begin_22 ?_
    obtain ⟨q3, hq3, h⟩ := ob h
    refine wc_Vi C hW (k := 56) (As := []) (rest := []) (c_X0_role G 56 k56 q2.2 q3 hq3) k56 rfl (by decide) (cwV 0 hts gX4_begin_X0_role rfl rfl rfl yd_X0_role ⟨Nat.le_of_ble_eq_true rfl, Nat.le_of_ble_eq_true rfl⟩) rfl hl.1 rfl (Nat.le_of_ble_eq_true rfl) dX4_begin_25 ⟨Nat.le_of_ble_eq_true rfl, Nat.le_of_ble_eq_true rfl⟩ (fun H locs hW => ?_)
    refine lv_if_eq (tgt := 39) hx hb dX4_begin_28 (by decide) (fun c2 => ?_) (fun c2 => ?_)
    · replace h := ift h c2
      refine lv_aload_n hx hb dX4_begin_39 rfl (lv_at hl 0 rfl) ?_
      refine wg_r C hW (k := 72) (ci := 4) (j := 3) (q := 69) k72 rfl ⟨by decide, rfl⟩ inX4 (by decide) (rfq k72 rfl) hL31 (fun _ h9 => h9) dX4_begin_40 ?_
      refine lv_aload_n hx hb dX4_begin_43 rfl (lv_at hl 0 rfl) ?_
      refine wg_r C hW (k := 72) (ci := 4) (j := 2) (q := 56) k72 rfl ⟨by decide, rfl⟩ inX4 (by decide) (rfq k72 rfl) hL24 (fun _ h9 => h9) dX4_begin_44 ?_
      obtain ⟨q4, hq4, h⟩ := ob h
      refine wc_Vv C hW (k := 69) (As := [.ref (ga G 56)]) (rest := []) (c_X3_startFrom G 56 k56 q3.2 q4 hq4) k69 rfl (by decide) (cwV 1 hts gX4_begin_X3_startFrom rfl rfl rfl yd_X3_startFrom ⟨Nat.le_of_ble_eq_true rfl, Nat.le_of_ble_eq_true rfl⟩) rfl hl.1 rfl (Nat.le_of_ble_eq_true rfl) dX4_begin_47 ⟨Nat.le_of_ble_eq_true rfl, Nat.le_of_ble_eq_true rfl⟩ (fun H locs hW => ?_)
      exact wt_v C hr hW h dX4_begin_50 (Nat.le_of_ble_eq_true rfl) (Nat.le_of_ble_eq_true rfl)
    · replace h := iff_ h c2
      exact wt_x C hZ hE hW (code := 2) (cls := "java/lang/IllegalArgumentException") rfl (by decide) h xf_2 (hts (.classLink RX4 94 "java/lang/IllegalArgumentException") (by decide +kernel)) (hts (.initialized "java/lang/IllegalArgumentException") (by decide +kernel)) (by decide +kernel) xn_2 xg_2 hl.1 dX4_begin_31 dX4_begin_34 dX4_begin_35 dX4_begin_38 (Nat.le_of_ble_eq_true rfl) (Nat.le_of_ble_eq_true rfl) (Nat.le_of_ble_eq_true rfl) (Nat.le_of_ble_eq_true rfl) (Nat.le_of_ble_eq_true rfl) (Nat.le_of_ble_eq_true rfl)
theorem yd_X4_offer : yX4_offer.cls = RX4 ∧ yX4_offer.cls ≠ "java/lang/invoke/MethodHandle" ∧ yX4_offer.cls ≠ "java/lang/invoke/VarHandle" ∧ (parseMethodDescriptor yX4_offer.desc).map (fun d => d.parameters.length) = some 0 := by decide +kernel
set_option maxHeartbeats 4000000 in
set_option maxRecDepth 100000 in
theorem c_X4_offer (G : GG)  (M : Me) (y : YT) (h : f_X4_offer  M = some y) : CIT G yX4_offer wsX4_offer (rmd 7 1 6) [.ref (ga G 72)] M y 1 6 := by
  rw [f_X4_offer] at h
  refine co_t (by decide) rfl rfl (Nat.le_of_ble_eq_true rfl) (fun p e s m below meth c ls C hZ hE hr hW hl => ?_)
  have hx := C.1
  have hb := C.2.1
  have hown := C.2.2.2.1
  have hts := C.2.2.2.2.1
  have inX4 : ∀ w ∈ wsX40, w ∈ wsX4_offer := by decide +kernel
  have hL14 := hts (.fieldLink RX4 14 "TrustedUpdates" "draft" "LTrustedUpdates$Row;") (by decide +kernel)
  have hL24 := hts (.fieldLink RX4 24 "TrustedUpdates" "offered" "LTrustedUpdates$Document;") (by decide +kernel)
  have hL31 := hts (.fieldLink RX4 31 "TrustedUpdates" "trust" "LTrustedUpdates$Trust;") (by decide +kernel)
  have hl : lv_has ls 1 [(0, .ref (ga G 72))] := hl
  refine lv_aload_n hx hb dX4_offer_0 rfl (lv_at hl 0 rfl) ?_
  refine wg_r C hW (k := 72) (ci := 4) (j := 2) (q := 56) k72 rfl ⟨by decide, rfl⟩ inX4 (by decide) (rfq k72 rfl) hL24 (fun _ h9 => h9) dX4_offer_1 ?_
  refine lv_aload_n hx hb dX4_offer_4 rfl (lv_at hl 0 rfl) ?_
  refine wg_r C hW (k := 72) (ci := 4) (j := 0) (q := 63) k72 rfl ⟨by decide, rfl⟩ inX4 (by decide) (rfq k72 rfl) hL14 (fun _ h9 => h9) dX4_offer_5 ?_
  obtain ⟨q1, hq1, h⟩ := ob h
  refine wc_Vv C hW (k := 56) (As := [.ref (ga G 63)]) (rest := []) (c_X0_read G 56 k56 63 k63 M q1 hq1) k56 rfl (by decide) (cwV 1 hts gX4_offer_X0_read rfl rfl rfl yd_X0_read ⟨Nat.le_of_ble_eq_true rfl, Nat.le_of_ble_eq_true rfl⟩) rfl hl.1 rfl (Nat.le_of_ble_eq_true rfl) dX4_offer_8 ⟨Nat.le_of_ble_eq_true rfl, Nat.le_of_ble_eq_true rfl⟩ (fun H locs hW => ?_)
  refine lv_aload_n hx hb dX4_offer_11 rfl (lv_at hl 0 rfl) ?_
  refine wg_r C hW (k := 72) (ci := 4) (j := 2) (q := 56) k72 rfl ⟨by decide, rfl⟩ inX4 (by decide) (rfq k72 rfl) hL24 (fun _ h9 => h9) dX4_offer_12 ?_
  obtain ⟨q2, hq2, h⟩ := ob h
  refine wc_Vi C hW (k := 56) (As := []) (rest := []) (c_X0_isWhole G 56 k56 q1.2 q2 hq2) k56 rfl (by decide) (cwV 0 hts gX4_offer_X0_isWhole rfl rfl rfl yd_X0_isWhole ⟨Nat.le_of_ble_eq_true rfl, Nat.le_of_ble_eq_true rfl⟩) rfl hl.1 rfl (Nat.le_of_ble_eq_true rfl) dX4_offer_15 ⟨Nat.le_of_ble_eq_true rfl, Nat.le_of_ble_eq_true rfl⟩ (fun H locs hW => ?_)
  refine lv_if_ne (tgt := 29) hx hb dX4_offer_18 (by decide) (fun c1 => ?_) (fun c1 => ?_)
  · replace h := iff_ h c1
    refine lv_aload_n hx hb dX4_offer_29 rfl (lv_at hl 0 rfl) ?_
    refine wg_r C hW (k := 72) (ci := 4) (j := 3) (q := 69) k72 rfl ⟨by decide, rfl⟩ inX4 (by decide) (rfq k72 rfl) hL31 (fun _ h9 => h9) dX4_offer_30 ?_
    refine lv_aload_n hx hb dX4_offer_33 rfl (lv_at hl 0 rfl) ?_
    refine wg_r C hW (k := 72) (ci := 4) (j := 2) (q := 56) k72 rfl ⟨by decide, rfl⟩ inX4 (by decide) (rfq k72 rfl) hL24 (fun _ h9 => h9) dX4_offer_34 ?_
    obtain ⟨q3, hq3, h⟩ := ob h
    refine wc_Vi C hW (k := 56) (As := []) (rest := [.ref (ga G 69)]) (c_X0_role G 56 k56 q2.2 q3 hq3) k56 rfl (by decide) (cwV 0 hts gX4_offer_X0_role rfl rfl rfl yd_X0_role ⟨Nat.le_of_ble_eq_true rfl, Nat.le_of_ble_eq_true rfl⟩) rfl hl.1 rfl (Nat.le_of_ble_eq_true rfl) dX4_offer_37 ⟨Nat.le_of_ble_eq_true rfl, Nat.le_of_ble_eq_true rfl⟩ (fun H locs hW => ?_)
    obtain ⟨q4, hq4, h⟩ := ob h
    refine wc_Vi C hW (k := 69) (As := [.int q3.1]) (rest := []) (c_X3_hasGroundFor G q3.1 q3.2 q4 hq4) k69 rfl (by decide) (cwV 1 hts gX4_offer_X3_hasGroundFor rfl rfl rfl yd_X3_hasGroundFor ⟨Nat.le_of_ble_eq_true rfl, Nat.le_of_ble_eq_true rfl⟩) rfl hl.1 rfl (Nat.le_of_ble_eq_true rfl) dX4_offer_40 ⟨Nat.le_of_ble_eq_true rfl, Nat.le_of_ble_eq_true rfl⟩ (fun H locs hW => ?_)
    refine lv_if_ne (tgt := 54) hx hb dX4_offer_43 (by decide) (fun c2 => ?_) (fun c2 => ?_)
    · replace h := iff_ h c2
      refine lv_aload_n hx hb dX4_offer_54 rfl (lv_at hl 0 rfl) ?_
      refine wg_r C hW (k := 72) (ci := 4) (j := 3) (q := 69) k72 rfl ⟨by decide, rfl⟩ inX4 (by decide) (rfq k72 rfl) hL31 (fun _ h9 => h9) dX4_offer_55 ?_
      refine lv_aload_n hx hb dX4_offer_58 rfl (lv_at hl 0 rfl) ?_
      refine wg_r C hW (k := 72) (ci := 4) (j := 2) (q := 56) k72 rfl ⟨by decide, rfl⟩ inX4 (by decide) (rfq k72 rfl) hL24 (fun _ h9 => h9) dX4_offer_59 ?_
      obtain ⟨q5, hq5, h⟩ := ob h
      refine wc_Vi C hW (k := 69) (As := [.ref (ga G 56)]) (rest := []) (c_X3_findsSigned G 56 k56 q4.2 q5 hq5) k69 rfl (by decide) (cwV 1 hts gX4_offer_X3_findsSigned rfl rfl rfl yd_X3_findsSigned ⟨Nat.le_of_ble_eq_true rfl, Nat.le_of_ble_eq_true rfl⟩) rfl hl.1 rfl (Nat.le_of_ble_eq_true rfl) dX4_offer_62 ⟨Nat.le_of_ble_eq_true rfl, Nat.le_of_ble_eq_true rfl⟩ (fun H locs hW => ?_)
      refine lv_if_ne (tgt := 76) hx hb dX4_offer_65 (by decide) (fun c3 => ?_) (fun c3 => ?_)
      · replace h := iff_ h c3
        refine lv_aload_n hx hb dX4_offer_76 rfl (lv_at hl 0 rfl) ?_
        refine wg_r C hW (k := 72) (ci := 4) (j := 3) (q := 69) k72 rfl ⟨by decide, rfl⟩ inX4 (by decide) (rfq k72 rfl) hL31 (fun _ h9 => h9) dX4_offer_77 ?_
        refine lv_aload_n hx hb dX4_offer_80 rfl (lv_at hl 0 rfl) ?_
        refine wg_r C hW (k := 72) (ci := 4) (j := 2) (q := 56) k72 rfl ⟨by decide, rfl⟩ inX4 (by decide) (rfq k72 rfl) hL24 (fun _ h9 => h9) dX4_offer_81 ?_
        obtain ⟨q6, hq6, h⟩ := ob h
        refine wc_Vi C hW (k := 69) (As := [.ref (ga G 56)]) (rest := []) (c_X3_findsVersionsRight G 56 k56 q5.2 q6 hq6) k69 rfl (by decide) (cwV 1 hts gX4_offer_X3_findsVersionsRight rfl rfl rfl yd_X3_findsVersionsRight ⟨Nat.le_of_ble_eq_true rfl, Nat.le_of_ble_eq_true rfl⟩) rfl hl.1 rfl (Nat.le_of_ble_eq_true rfl) dX4_offer_84 ⟨Nat.le_of_ble_eq_true rfl, Nat.le_of_ble_eq_true rfl⟩ (fun H locs hW => ?_)
        refine lv_if_ne (tgt := 98) hx hb dX4_offer_87 (by decide) (fun c4 => ?_) (fun c4 => ?_)
        · replace h := iff_ h c4
          refine lv_aload_n hx hb dX4_offer_98 rfl (lv_at hl 0 rfl) ?_
          refine wg_r C hW (k := 72) (ci := 4) (j := 2) (q := 56) k72 rfl ⟨by decide, rfl⟩ inX4 (by decide) (rfq k72 rfl) hL24 (fun _ h9 => h9) dX4_offer_99 ?_
          obtain ⟨q7, hq7, h⟩ := ob h
          refine wc_Vi C hW (k := 56) (As := []) (rest := []) (c_X0_role G 56 k56 q6.2 q7 hq7) k56 rfl (by decide) (cwV 0 hts gX4_offer_X0_role rfl rfl rfl yd_X0_role ⟨Nat.le_of_ble_eq_true rfl, Nat.le_of_ble_eq_true rfl⟩) rfl hl.1 rfl (Nat.le_of_ble_eq_true rfl) dX4_offer_102 ⟨Nat.le_of_ble_eq_true rfl, Nat.le_of_ble_eq_true rfl⟩ (fun H locs hW => ?_)
          refine lv_if_eq (tgt := 130) hx hb dX4_offer_105 (by decide) (fun c5 => ?_) (fun c5 => ?_)
          · replace h := ift h c5
            refine lv_aload_n hx hb dX4_offer_130 rfl (lv_at hl 0 rfl) ?_
            refine wg_r C hW (k := 72) (ci := 4) (j := 3) (q := 69) k72 rfl ⟨by decide, rfl⟩ inX4 (by decide) (rfq k72 rfl) hL31 (fun _ h9 => h9) dX4_offer_131 ?_
            refine lv_aload_n hx hb dX4_offer_134 rfl (lv_at hl 0 rfl) ?_
            refine wg_r C hW (k := 72) (ci := 4) (j := 2) (q := 56) k72 rfl ⟨by decide, rfl⟩ inX4 (by decide) (rfq k72 rfl) hL24 (fun _ h9 => h9) dX4_offer_135 ?_
            obtain ⟨q8, hq8, h⟩ := ob h
            refine wc_Vv C hW (k := 69) (As := [.ref (ga G 56)]) (rest := []) (c_X3_take G 56 k56 q7.2 q8 hq8) k69 rfl (by decide) (cwV 1 hts gX4_offer_X3_take rfl rfl rfl yd_X3_take ⟨Nat.le_of_ble_eq_true rfl, Nat.le_of_ble_eq_true rfl⟩) rfl hl.1 rfl (Nat.le_of_ble_eq_true rfl) dX4_offer_138 ⟨Nat.le_of_ble_eq_true rfl, Nat.le_of_ble_eq_true rfl⟩ (fun H locs hW => ?_)
            refine lv_aload_n hx hb dX4_offer_141 rfl (lv_at hl 0 rfl) ?_
            refine wg_r C hW (k := 72) (ci := 4) (j := 2) (q := 56) k72 rfl ⟨by decide, rfl⟩ inX4 (by decide) (rfq k72 rfl) hL24 (fun _ h9 => h9) dX4_offer_142 ?_
            obtain ⟨q9, hq9, h⟩ := ob h
            refine wc_Vi C hW (k := 56) (As := []) (rest := []) (c_X0_role G 56 k56 q8.2 q9 hq9) k56 rfl (by decide) (cwV 0 hts gX4_offer_X0_role rfl rfl rfl yd_X0_role ⟨Nat.le_of_ble_eq_true rfl, Nat.le_of_ble_eq_true rfl⟩) rfl hl.1 rfl (Nat.le_of_ble_eq_true rfl) dX4_offer_145 ⟨Nat.le_of_ble_eq_true rfl, Nat.le_of_ble_eq_true rfl⟩ (fun H locs hW => ?_)
            exact wt_i C hr hW h dX4_offer_148 (Nat.le_of_ble_eq_true rfl) (Nat.le_of_ble_eq_true rfl)
          · replace h := iff_ h c5
            refine lv_aload_n hx hb dX4_offer_108 rfl (lv_at hl 0 rfl) ?_
            refine wg_r C hW (k := 72) (ci := 4) (j := 3) (q := 69) k72 rfl ⟨by decide, rfl⟩ inX4 (by decide) (rfq k72 rfl) hL31 (fun _ h9 => h9) dX4_offer_109 ?_
            refine lv_aload_n hx hb dX4_offer_112 rfl (lv_at hl 0 rfl) ?_
            refine wg_r C hW (k := 72) (ci := 4) (j := 2) (q := 56) k72 rfl ⟨by decide, rfl⟩ inX4 (by decide) (rfq k72 rfl) hL24 (fun _ h9 => h9) dX4_offer_113 ?_
            obtain ⟨q10, hq10, h⟩ := ob h
            refine wc_Vi C hW (k := 69) (As := [.ref (ga G 56)]) (rest := []) (c_X3_findsEnded G 56 k56 q7.2 q10 hq10) k69 rfl (by decide) (cwV 1 hts gX4_offer_X3_findsEnded rfl rfl rfl yd_X3_findsEnded ⟨Nat.le_of_ble_eq_true rfl, Nat.le_of_ble_eq_true rfl⟩) rfl hl.1 rfl (Nat.le_of_ble_eq_true rfl) dX4_offer_116 ⟨Nat.le_of_ble_eq_true rfl, Nat.le_of_ble_eq_true rfl⟩ (fun H locs hW => ?_)
            refine lv_if_eq (tgt := 130) hx hb dX4_offer_119 (by decide) (fun c6 => ?_) (fun c6 => ?_)
            · replace h := ift h c6
              refine lv_aload_n hx hb dX4_offer_130 rfl (lv_at hl 0 rfl) ?_
              refine wg_r C hW (k := 72) (ci := 4) (j := 3) (q := 69) k72 rfl ⟨by decide, rfl⟩ inX4 (by decide) (rfq k72 rfl) hL31 (fun _ h9 => h9) dX4_offer_131 ?_
              refine lv_aload_n hx hb dX4_offer_134 rfl (lv_at hl 0 rfl) ?_
              refine wg_r C hW (k := 72) (ci := 4) (j := 2) (q := 56) k72 rfl ⟨by decide, rfl⟩ inX4 (by decide) (rfq k72 rfl) hL24 (fun _ h9 => h9) dX4_offer_135 ?_
              obtain ⟨q11, hq11, h⟩ := ob h
              refine wc_Vv C hW (k := 69) (As := [.ref (ga G 56)]) (rest := []) (c_X3_take G 56 k56 q10.2 q11 hq11) k69 rfl (by decide) (cwV 1 hts gX4_offer_X3_take rfl rfl rfl yd_X3_take ⟨Nat.le_of_ble_eq_true rfl, Nat.le_of_ble_eq_true rfl⟩) rfl hl.1 rfl (Nat.le_of_ble_eq_true rfl) dX4_offer_138 ⟨Nat.le_of_ble_eq_true rfl, Nat.le_of_ble_eq_true rfl⟩ (fun H locs hW => ?_)
              refine lv_aload_n hx hb dX4_offer_141 rfl (lv_at hl 0 rfl) ?_
              refine wg_r C hW (k := 72) (ci := 4) (j := 2) (q := 56) k72 rfl ⟨by decide, rfl⟩ inX4 (by decide) (rfq k72 rfl) hL24 (fun _ h9 => h9) dX4_offer_142 ?_
              obtain ⟨q12, hq12, h⟩ := ob h
              refine wc_Vi C hW (k := 56) (As := []) (rest := []) (c_X0_role G 56 k56 q11.2 q12 hq12) k56 rfl (by decide) (cwV 0 hts gX4_offer_X0_role rfl rfl rfl yd_X0_role ⟨Nat.le_of_ble_eq_true rfl, Nat.le_of_ble_eq_true rfl⟩) rfl hl.1 rfl (Nat.le_of_ble_eq_true rfl) dX4_offer_145 ⟨Nat.le_of_ble_eq_true rfl, Nat.le_of_ble_eq_true rfl⟩ (fun H locs hW => ?_)
              exact wt_i C hr hW h dX4_offer_148 (Nat.le_of_ble_eq_true rfl) (Nat.le_of_ble_eq_true rfl)
            · replace h := iff_ h c6
              exact wt_x C hZ hE hW (code := 5) (cls := "java/util/NoSuchElementException") rfl (by decide) h xf_5 (hts (.classLink RX4 141 "java/util/NoSuchElementException") (by decide +kernel)) (hts (.initialized "java/util/NoSuchElementException") (by decide +kernel)) (by decide +kernel) xn_5 xg_5 hl.1 dX4_offer_122 dX4_offer_125 dX4_offer_126 dX4_offer_129 (Nat.le_of_ble_eq_true rfl) (Nat.le_of_ble_eq_true rfl) (Nat.le_of_ble_eq_true rfl) (Nat.le_of_ble_eq_true rfl) (Nat.le_of_ble_eq_true rfl) (Nat.le_of_ble_eq_true rfl)
        · replace h := ift h c4
          exact wt_x C hZ hE hW (code := 4) (cls := "java/lang/UnsupportedOperationException") rfl (by decide) h xf_4 (hts (.classLink RX4 100 "java/lang/UnsupportedOperationException") (by decide +kernel)) (hts (.initialized "java/lang/UnsupportedOperationException") (by decide +kernel)) (by decide +kernel) xn_4 xg_4 hl.1 dX4_offer_90 dX4_offer_93 dX4_offer_94 dX4_offer_97 (Nat.le_of_ble_eq_true rfl) (Nat.le_of_ble_eq_true rfl) (Nat.le_of_ble_eq_true rfl) (Nat.le_of_ble_eq_true rfl) (Nat.le_of_ble_eq_true rfl) (Nat.le_of_ble_eq_true rfl)
      · replace h := ift h c3
        exact wt_x C hZ hE hW (code := 3) (cls := "java/lang/IllegalStateException") rfl (by decide) h xf_3 (hts (.classLink RX4 132 "java/lang/IllegalStateException") (by decide +kernel)) (hts (.initialized "java/lang/IllegalStateException") (by decide +kernel)) (by decide +kernel) xn_3 xg_3 hl.1 dX4_offer_68 dX4_offer_71 dX4_offer_72 dX4_offer_75 (Nat.le_of_ble_eq_true rfl) (Nat.le_of_ble_eq_true rfl) (Nat.le_of_ble_eq_true rfl) (Nat.le_of_ble_eq_true rfl) (Nat.le_of_ble_eq_true rfl) (Nat.le_of_ble_eq_true rfl)
    · replace h := ift h c2
      exact wt_x C hZ hE hW (code := 1) (cls := "java/lang/IndexOutOfBoundsException") rfl (by decide) h xf_1 (hts (.classLink RX4 66 "java/lang/IndexOutOfBoundsException") (by decide +kernel)) (hts (.initialized "java/lang/IndexOutOfBoundsException") (by decide +kernel)) (by decide +kernel) xn_1 xg_1 hl.1 dX4_offer_46 dX4_offer_49 dX4_offer_50 dX4_offer_53 (Nat.le_of_ble_eq_true rfl) (Nat.le_of_ble_eq_true rfl) (Nat.le_of_ble_eq_true rfl) (Nat.le_of_ble_eq_true rfl) (Nat.le_of_ble_eq_true rfl) (Nat.le_of_ble_eq_true rfl)
  · replace h := ift h c1
    exact wt_x C hZ hE hW (code := 2) (cls := "java/lang/IllegalArgumentException") rfl (by decide) h xf_2 (hts (.classLink RX4 94 "java/lang/IllegalArgumentException") (by decide +kernel)) (hts (.initialized "java/lang/IllegalArgumentException") (by decide +kernel)) (by decide +kernel) xn_2 xg_2 hl.1 dX4_offer_21 dX4_offer_24 dX4_offer_25 dX4_offer_28 (Nat.le_of_ble_eq_true rfl) (Nat.le_of_ble_eq_true rfl) (Nat.le_of_ble_eq_true rfl) (Nat.le_of_ble_eq_true rfl) (Nat.le_of_ble_eq_true rfl) (Nat.le_of_ble_eq_true rfl)
theorem yd_X4_trusted : yX4_trusted.cls = RX4 ∧ yX4_trusted.cls ≠ "java/lang/invoke/MethodHandle" ∧ yX4_trusted.cls ≠ "java/lang/invoke/VarHandle" ∧ (parseMethodDescriptor yX4_trusted.desc).map (fun d => d.parameters.length) = some 2 := by decide +kernel
set_option maxHeartbeats 4000000 in
set_option maxRecDepth 100000 in
theorem c_X4_trusted (G : GG) (a1 : Int32) (a2 : Int32) (M : Me) (y : YT) (h : f_X4_trusted a1 a2 M = some y) : CIT G yX4_trusted wsX4_trusted (rmd 6 1 6) [.ref (ga G 72), .int a1, .int a2] M y 1 6 := by
  rw [f_X4_trusted] at h
  refine co_t (by decide) rfl rfl (Nat.le_of_ble_eq_true rfl) (fun p e s m below meth c ls C hZ hE hr hW hl => ?_)
  have hx := C.1
  have hb := C.2.1
  have hown := C.2.2.2.1
  have hts := C.2.2.2.2.1
  have inX4 : ∀ w ∈ wsX40, w ∈ wsX4_trusted := by decide +kernel
  have hL31 := hts (.fieldLink RX4 31 "TrustedUpdates" "trust" "LTrustedUpdates$Trust;") (by decide +kernel)
  have hl : lv_has ls 4 [(0, .ref (ga G 72)), (1, .int a1), (2, .int a2)] := hl
  refine lv_iload_n hx hb dX4_trusted_0 rfl (lv_at hl 1 rfl) ?_
  refine lv_if_lt (tgt := 10) hx hb dX4_trusted_1 (by decide) (fun c1 => ?_) (fun c1 => ?_)
  · replace h := ift h c1
    exact wt_x C hZ hE hW (code := 1) (cls := "java/lang/IndexOutOfBoundsException") rfl (by decide) h xf_1 (hts (.classLink RX4 66 "java/lang/IndexOutOfBoundsException") (by decide +kernel)) (hts (.initialized "java/lang/IndexOutOfBoundsException") (by decide +kernel)) (by decide +kernel) xn_1 xg_1 hl.1 dX4_trusted_10 dX4_trusted_13 dX4_trusted_14 dX4_trusted_17 (Nat.le_of_ble_eq_true rfl) (Nat.le_of_ble_eq_true rfl) (Nat.le_of_ble_eq_true rfl) (Nat.le_of_ble_eq_true rfl) (Nat.le_of_ble_eq_true rfl) (Nat.le_of_ble_eq_true rfl)
  · replace h := iff_ h c1
    refine lv_iload_n hx hb dX4_trusted_4 rfl (lv_at hl 1 rfl) ?_
    refine lv_bipush (v := 6) hx hb dX4_trusted_5 (by decide) ?_
    refine lv_icmp_le (tgt := 18) hx hb dX4_trusted_7 (by decide) (fun c2 => ?_) (fun c2 => ?_)
    · replace h := ift h c2
      refine lv_aload_n hx hb dX4_trusted_18 rfl (lv_at hl 0 rfl) ?_
      refine wg_r C hW (k := 72) (ci := 4) (j := 3) (q := 69) k72 rfl ⟨by decide, rfl⟩ inX4 (by decide) (rfq k72 rfl) hL31 (fun _ h9 => h9) dX4_trusted_19 ?_
      refine lv_iload_n hx hb dX4_trusted_22 rfl (lv_at hl 1 rfl) ?_
      obtain ⟨q1, hq1, h⟩ := ob h
      refine wc_Vr C hW (k := 69) (As := [.int a1]) (rest := []) (c_X3_documentOf G a1 M q1 hq1) k69 rfl (by decide) (cwV 1 hts gX4_trusted_X3_documentOf rfl rfl rfl yd_X3_documentOf ⟨Nat.le_of_ble_eq_true rfl, Nat.le_of_ble_eq_true rfl⟩) rfl hl.1 rfl (Nat.le_of_ble_eq_true rfl) dX4_trusted_23 ⟨Nat.le_of_ble_eq_true rfl, Nat.le_of_ble_eq_true rfl⟩ (fun H locs hW => ?_)
      obtain ⟨hg1, h⟩ := ifg h
      have hkq1 := kB_is hg1
      refine lv_astore_n (lv' := [(3, .ref (ga G q1.1)), (0, .ref (ga G 72)), (1, .int a1), (2, .int a2)]) hx hb dX4_trusted_26 rfl hl (by decide) rfl (fun ls hl => ?_)
      refine lv_aload_n hx hb dX4_trusted_27 rfl (lv_at hl 0 rfl) ?_
      obtain ⟨q2, hq2, h⟩ := ob h
      refine wc_Vi C hW (k := q1.1) (As := []) (rest := []) (c_X0_isWhole G q1.1 hkq1 q1.2 q2 hq2) hkq1 rfl (by decide) (cwV 0 hts gX4_trusted_X0_isWhole rfl rfl rfl yd_X0_isWhole ⟨Nat.le_of_ble_eq_true rfl, Nat.le_of_ble_eq_true rfl⟩) rfl hl.1 rfl (Nat.le_of_ble_eq_true rfl) dX4_trusted_28 ⟨Nat.le_of_ble_eq_true rfl, Nat.le_of_ble_eq_true rfl⟩ (fun H locs hW => ?_)
      refine lv_if_ne (tgt := 36) hx hb dX4_trusted_31 (by decide) (fun c3 => ?_) (fun c3 => ?_)
      · replace h := iff_ h c3
        refine lv_iload_n hx hb dX4_trusted_36 rfl (lv_at hl 3 rfl) ?_
        refine lv_if_eq (tgt := 47) hx hb dX4_trusted_37 (by decide) (fun c4 => ?_) (fun c4 => ?_)
        · replace h := ift h c4
          refine lv_aload_n hx hb dX4_trusted_47 rfl (lv_at hl 0 rfl) ?_
          obtain ⟨q3, hq3, h⟩ := ob h
          refine wc_Vi C hW (k := q1.1) (As := []) (rest := []) (c_X0_version G q1.1 hkq1 q2.2 q3 hq3) hkq1 rfl (by decide) (cwV 0 hts gX4_trusted_X0_version rfl rfl rfl yd_X0_version ⟨Nat.le_of_ble_eq_true rfl, Nat.le_of_ble_eq_true rfl⟩) rfl hl.1 rfl (Nat.le_of_ble_eq_true rfl) dX4_trusted_48 ⟨Nat.le_of_ble_eq_true rfl, Nat.le_of_ble_eq_true rfl⟩ (fun H locs hW => ?_)
          exact wt_i C hr hW h dX4_trusted_51 (Nat.le_of_ble_eq_true rfl) (Nat.le_of_ble_eq_true rfl)
        · replace h := iff_ h c4
          refine lv_aload_n hx hb dX4_trusted_40 rfl (lv_at hl 0 rfl) ?_
          obtain ⟨q4, hq4, h⟩ := ob h
          refine wc_Vi C hW (k := q1.1) (As := []) (rest := []) (c_X0_end G q1.1 hkq1 q2.2 q4 hq4) hkq1 rfl (by decide) (cwV 0 hts gX4_trusted_X0_end rfl rfl rfl yd_X0_end ⟨Nat.le_of_ble_eq_true rfl, Nat.le_of_ble_eq_true rfl⟩) rfl hl.1 rfl (Nat.le_of_ble_eq_true rfl) dX4_trusted_41 ⟨Nat.le_of_ble_eq_true rfl, Nat.le_of_ble_eq_true rfl⟩ (fun H locs hW => ?_)
          refine lv_goto (tgt := 51) hx hb dX4_trusted_44 (by decide) ?_
          exact wt_i C hr hW h dX4_trusted_51 (Nat.le_of_ble_eq_true rfl) (Nat.le_of_ble_eq_true rfl)
      · replace h := ift h c3
        refine lv_iconst (v := (-1)) hx hb dX4_trusted_34 (by decide) ?_
        exact wt_i C hr hW h dX4_trusted_35 (Nat.le_of_ble_eq_true rfl) (Nat.le_of_ble_eq_true rfl)
    · replace h := iff_ h c2
      exact wt_x C hZ hE hW (code := 1) (cls := "java/lang/IndexOutOfBoundsException") rfl (by decide) h xf_1 (hts (.classLink RX4 66 "java/lang/IndexOutOfBoundsException") (by decide +kernel)) (hts (.initialized "java/lang/IndexOutOfBoundsException") (by decide +kernel)) (by decide +kernel) xn_1 xg_1 hl.1 dX4_trusted_10 dX4_trusted_13 dX4_trusted_14 dX4_trusted_17 (Nat.le_of_ble_eq_true rfl) (Nat.le_of_ble_eq_true rfl) (Nat.le_of_ble_eq_true rfl) (Nat.le_of_ble_eq_true rfl) (Nat.le_of_ble_eq_true rfl) (Nat.le_of_ble_eq_true rfl)
theorem yd_X4_refuseUnlessSearchable : yX4_refuseUnlessSearchable.cls = RX4 ∧ yX4_refuseUnlessSearchable.cls ≠ "java/lang/invoke/MethodHandle" ∧ yX4_refuseUnlessSearchable.cls ≠ "java/lang/invoke/VarHandle" ∧ (parseMethodDescriptor yX4_refuseUnlessSearchable.desc).map (fun d => d.parameters.length) = some 2 := by decide +kernel
set_option maxHeartbeats 4000000 in
set_option maxRecDepth 100000 in
theorem c_X4_refuseUnlessSearchable (G : GG) (a1 : Int64) (a2 : Int32) (M : Me) (y : YT) (h : f_X4_refuseUnlessSearchable a1 a2 M = some y) : CVT G yX4_refuseUnlessSearchable wsX4_refuseUnlessSearchable (rmd 6 1 6) [.ref (ga G 72), .long a1, .int a2] M y 1 6 := by
  rw [f_X4_refuseUnlessSearchable] at h
  refine co_t (by decide) rfl rfl (Nat.le_of_ble_eq_true rfl) (fun p e s m below meth c ls C hZ hE hr hW hl => ?_)
  have hx := C.1
  have hb := C.2.1
  have hown := C.2.2.2.1
  have hts := C.2.2.2.2.1
  have inX4 : ∀ w ∈ wsX40, w ∈ wsX4_refuseUnlessSearchable := by decide +kernel
  have hL31 := hts (.fieldLink RX4 31 "TrustedUpdates" "trust" "LTrustedUpdates$Trust;") (by decide +kernel)
  have hl : lv_has ls 4 [(0, .ref (ga G 72)), (1, .long a1), (3, .int a2)] := hl
  refine lv_lload_n hx hb dX4_refuseUnlessSearchable_0 rfl (lv_at hl 1 rfl) ?_
  refine lv_iload_n hx hb dX4_refuseUnlessSearchable_1 rfl (lv_at hl 2 rfl) ?_
  obtain ⟨q1, hq1, h⟩ := ob h
  refine wc_Si C hW (As := [.long a1, .int a2]) (rest := []) (c_X4_isName G a1 a2 M q1 hq1) (va_cwS 2 hts gX4_refuseUnlessSearchable_X4_isName rfl rfl rfl yd_X4_isName ⟨Nat.le_of_ble_eq_true rfl, Nat.le_of_ble_eq_true rfl⟩) rfl hl.1 rfl (Nat.le_of_ble_eq_true rfl) dX4_refuseUnlessSearchable_2 ⟨Nat.le_of_ble_eq_true rfl, Nat.le_of_ble_eq_true rfl⟩ (fun H locs hW => ?_)
  refine lv_if_ne (tgt := 16) hx hb dX4_refuseUnlessSearchable_5 (by decide) (fun c1 => ?_) (fun c1 => ?_)
  · replace h := iff_ h c1
    refine lv_aload_n hx hb dX4_refuseUnlessSearchable_16 rfl (lv_at hl 0 rfl) ?_
    refine wg_r C hW (k := 72) (ci := 4) (j := 3) (q := 69) k72 rfl ⟨by decide, rfl⟩ inX4 (by decide) (rfq k72 rfl) hL31 (fun _ h9 => h9) dX4_refuseUnlessSearchable_17 ?_
    obtain ⟨q2, hq2, h⟩ := ob h
    refine wc_Vi C hW (k := 69) (As := []) (rest := []) (c_X3_allowsSeeking G  q1.2 q2 hq2) k69 rfl (by decide) (cwV 0 hts gX4_refuseUnlessSearchable_X3_allowsSeeking rfl rfl rfl yd_X3_allowsSeeking ⟨Nat.le_of_ble_eq_true rfl, Nat.le_of_ble_eq_true rfl⟩) rfl hl.1 rfl (Nat.le_of_ble_eq_true rfl) dX4_refuseUnlessSearchable_20 ⟨Nat.le_of_ble_eq_true rfl, Nat.le_of_ble_eq_true rfl⟩ (fun H locs hW => ?_)
    refine lv_if_ne (tgt := 34) hx hb dX4_refuseUnlessSearchable_23 (by decide) (fun c2 => ?_) (fun c2 => ?_)
    · replace h := iff_ h c2
      exact wt_v C hr hW h dX4_refuseUnlessSearchable_34 (Nat.le_of_ble_eq_true rfl) (Nat.le_of_ble_eq_true rfl)
    · replace h := ift h c2
      exact wt_x C hZ hE hW (code := 3) (cls := "java/lang/IllegalStateException") rfl (by decide) h xf_3 (hts (.classLink RX4 132 "java/lang/IllegalStateException") (by decide +kernel)) (hts (.initialized "java/lang/IllegalStateException") (by decide +kernel)) (by decide +kernel) xn_3 xg_3 hl.1 dX4_refuseUnlessSearchable_26 dX4_refuseUnlessSearchable_29 dX4_refuseUnlessSearchable_30 dX4_refuseUnlessSearchable_33 (Nat.le_of_ble_eq_true rfl) (Nat.le_of_ble_eq_true rfl) (Nat.le_of_ble_eq_true rfl) (Nat.le_of_ble_eq_true rfl) (Nat.le_of_ble_eq_true rfl) (Nat.le_of_ble_eq_true rfl)
  · replace h := ift h c1
    exact wt_x C hZ hE hW (code := 2) (cls := "java/lang/IllegalArgumentException") rfl (by decide) h xf_2 (hts (.classLink RX4 94 "java/lang/IllegalArgumentException") (by decide +kernel)) (hts (.initialized "java/lang/IllegalArgumentException") (by decide +kernel)) (by decide +kernel) xn_2 xg_2 hl.1 dX4_refuseUnlessSearchable_8 dX4_refuseUnlessSearchable_11 dX4_refuseUnlessSearchable_12 dX4_refuseUnlessSearchable_15 (Nat.le_of_ble_eq_true rfl) (Nat.le_of_ble_eq_true rfl) (Nat.le_of_ble_eq_true rfl) (Nat.le_of_ble_eq_true rfl) (Nat.le_of_ble_eq_true rfl) (Nat.le_of_ble_eq_true rfl)
theorem yd_X4_seek : yX4_seek.cls = RX4 ∧ yX4_seek.cls ≠ "java/lang/invoke/MethodHandle" ∧ yX4_seek.cls ≠ "java/lang/invoke/VarHandle" ∧ (parseMethodDescriptor yX4_seek.desc).map (fun d => d.parameters.length) = some 2 := by decide +kernel
set_option maxHeartbeats 4000000 in
set_option maxRecDepth 100000 in
theorem c_X4_seek (G : GG) (a1 : Int64) (a2 : Int32) (M : Me) (y : YT) (h : f_X4_seek a1 a2 M = some y) : CIT G yX4_seek wsX4_seek (rmd 14 1 6) [.ref (ga G 72), .long a1, .int a2] M y 1 6 := by
  rw [f_X4_seek] at h
  refine co_t (by decide) rfl rfl (Nat.le_of_ble_eq_true rfl) (fun p e s m below meth c ls C hZ hE hr hW hl => ?_)
  have hx := C.1
  have hb := C.2.1
  have hown := C.2.2.2.1
  have hts := C.2.2.2.2.1
  have inX4 : ∀ w ∈ wsX40, w ∈ wsX4_seek := by decide +kernel
  have hL40 := hts (.fieldLink RX4 40 "TrustedUpdates" "search" "LTrustedUpdates$Search;") (by decide +kernel)
  have hL166 := hts (.fieldLink RX4 166 "TrustedUpdates" "latestVisits" "I") (by decide +kernel)
  have hl : lv_has ls 4 [(0, .ref (ga G 72)), (1, .long a1), (3, .int a2)] := hl
  refine lv_aload_n hx hb dX4_seek_0 rfl (lv_at hl 0 rfl) ?_
  refine lv_lload_n hx hb dX4_seek_1 rfl (lv_at hl 1 rfl) ?_
  refine lv_iload_n hx hb dX4_seek_2 rfl (lv_at hl 2 rfl) ?_
  obtain ⟨q1, hq1, h⟩ := ob h
  refine wct_Vv C hZ hW (k := 72) (As := [.long a1, .int a2]) (rest := []) (c_X4_refuseUnlessSearchable G a1 a2 M q1 hq1) k72 rfl (by decide) (cwV 2 hts gX4_seek_X4_refuseUnlessSearchable rfl rfl rfl yd_X4_refuseUnlessSearchable ⟨Nat.le_of_ble_eq_true rfl, Nat.le_of_ble_eq_true rfl⟩) rfl hl.1 rfl (Nat.le_of_ble_eq_true rfl) dX4_seek_3 ⟨Nat.le_of_ble_eq_true rfl, Nat.le_of_ble_eq_true rfl⟩ (fun E ce q9 H locs hne he hW h1 h2 h3 => ?_) (fun H locs h0 hW => ?_)
  · replace h := iff_ h hne
    exact wt_p C hE hW he hne h h1 h2 h3 (Nat.le_of_ble_eq_true rfl) (Nat.le_of_ble_eq_true rfl)
  replace h := ift h h0
  refine lv_aload_n hx hb dX4_seek_6 rfl (lv_at hl 0 rfl) ?_
  refine wg_r C hW (k := 72) (ci := 4) (j := 4) (q := 71) k72 rfl ⟨by decide, rfl⟩ inX4 (by decide) (rfq k72 rfl) hL40 (fun _ h9 => h9) dX4_seek_7 ?_
  refine lv_lload_n hx hb dX4_seek_10 rfl (lv_at hl 1 rfl) ?_
  refine lv_iload_n hx hb dX4_seek_11 rfl (lv_at hl 2 rfl) ?_
  obtain ⟨q2, hq2, h⟩ := ob h
  refine wc_Vv C hW (k := 71) (As := [.long a1, .int a2]) (rest := []) (c_X2_run G a1 a2 q1.2 q2 hq2) k71 rfl (by decide) (cwV 2 hts gX4_seek_X2_run rfl rfl rfl yd_X2_run ⟨Nat.le_of_ble_eq_true rfl, Nat.le_of_ble_eq_true rfl⟩) rfl hl.1 rfl (Nat.le_of_ble_eq_true rfl) dX4_seek_12 ⟨Nat.le_of_ble_eq_true rfl, Nat.le_of_ble_eq_true rfl⟩ (fun H locs hW => ?_)
  refine lv_aload_n hx hb dX4_seek_15 rfl (lv_at hl 0 rfl) ?_
  refine lv_aload_n hx hb dX4_seek_16 rfl (lv_at hl 0 rfl) ?_
  refine wg_r C hW (k := 72) (ci := 4) (j := 4) (q := 71) k72 rfl ⟨by decide, rfl⟩ inX4 (by decide) (rfq k72 rfl) hL40 (fun _ h9 => h9) dX4_seek_17 ?_
  obtain ⟨q3, hq3, h⟩ := ob h
  refine wc_Vi C hW (k := 71) (As := []) (rest := [.ref (ga G 72)]) (c_X2_visitCount G  q2.2 q3 hq3) k71 rfl (by decide) (cwV 0 hts gX4_seek_X2_visitCount rfl rfl rfl yd_X2_visitCount ⟨Nat.le_of_ble_eq_true rfl, Nat.le_of_ble_eq_true rfl⟩) rfl hl.1 rfl (Nat.le_of_ble_eq_true rfl) dX4_seek_20 ⟨Nat.le_of_ble_eq_true rfl, Nat.le_of_ble_eq_true rfl⟩ (fun H locs hW => ?_)
  refine wp_t C hW (k := 72) (ci := 4) (j := 5) (ty := .int) rfl rfl k72 rfl ⟨by decide, rfl⟩ inX4 tyX4 tyX4_ok nmX4 (by decide) (rfq k72 rfl) hL166 (fun _ h9 => h9) rfl rfl dX4_seek_23 (fun H locs hW => ?_)
  refine lv_aload_n hx hb dX4_seek_26 rfl (lv_at hl 0 rfl) ?_
  refine wg_r C hW (k := 72) (ci := 4) (j := 4) (q := 71) k72 rfl ⟨by decide, rfl⟩ inX4 (by decide) (rfq k72 rfl) hL40 (fun _ h9 => h9) dX4_seek_27 ?_
  obtain ⟨q4, hq4, h⟩ := ob h
  refine wc_Vi C hW (k := 71) (As := []) (rest := []) (c_X2_foundRole G  (up q3.2 72 5 q3.1) q4 hq4) k71 rfl (by decide) (cwV 0 hts gX4_seek_X2_foundRole rfl rfl rfl yd_X2_foundRole ⟨Nat.le_of_ble_eq_true rfl, Nat.le_of_ble_eq_true rfl⟩) rfl hl.1 rfl (Nat.le_of_ble_eq_true rfl) dX4_seek_30 ⟨Nat.le_of_ble_eq_true rfl, Nat.le_of_ble_eq_true rfl⟩ (fun H locs hW => ?_)
  exact wt_i C hr hW h dX4_seek_33 (Nat.le_of_ble_eq_true rfl) (Nat.le_of_ble_eq_true rfl)
theorem yd_X4_install : yX4_install.cls = RX4 ∧ yX4_install.cls ≠ "java/lang/invoke/MethodHandle" ∧ yX4_install.cls ≠ "java/lang/invoke/VarHandle" ∧ (parseMethodDescriptor yX4_install.desc).map (fun d => d.parameters.length) = some 2 := by decide +kernel
set_option maxHeartbeats 4000000 in
set_option maxRecDepth 100000 in
theorem c_X4_install (G : GG) (a1 : Int64) (a2 : Int32) (M : Me) (y : YT) (h : f_X4_install a1 a2 M = some y) : CIT G yX4_install wsX4_install (rmd 14 2 12) [.ref (ga G 72), .long a1, .int a2] M y 2 12 := by
  rw [f_X4_install] at h
  refine co_t (by decide) rfl rfl (Nat.le_of_ble_eq_true rfl) (fun p e s m below meth c ls C hZ hE hr hW hl => ?_)
  have hx := C.1
  have hb := C.2.1
  have hown := C.2.2.2.1
  have hts := C.2.2.2.2.1
  have inX4 : ∀ w ∈ wsX40, w ∈ wsX4_install := by decide +kernel
  have hL18 := hts (.fieldLink RX4 18 "TrustedUpdates" "content" "LTrustedUpdates$Row;") (by decide +kernel)
  have hL40 := hts (.fieldLink RX4 40 "TrustedUpdates" "search" "LTrustedUpdates$Search;") (by decide +kernel)
  have hL166 := hts (.fieldLink RX4 166 "TrustedUpdates" "latestVisits" "I") (by decide +kernel)
  have hL177 := hts (.fieldLink RX4 177 "TrustedUpdates" "installs" "I") (by decide +kernel)
  have hl : lv_has ls 4 [(0, .ref (ga G 72)), (1, .long a1), (3, .int a2)] := hl
  refine lv_aload_n hx hb dX4_install_0 rfl (lv_at hl 0 rfl) ?_
  refine lv_lload_n hx hb dX4_install_1 rfl (lv_at hl 1 rfl) ?_
  refine lv_iload_n hx hb dX4_install_2 rfl (lv_at hl 2 rfl) ?_
  obtain ⟨q1, hq1, h⟩ := ob h
  refine wct_Vv C hZ hW (k := 72) (As := [.long a1, .int a2]) (rest := []) (c_X4_refuseUnlessSearchable G a1 a2 M q1 hq1) k72 rfl (by decide) (cwV 2 hts gX4_install_X4_refuseUnlessSearchable rfl rfl rfl yd_X4_refuseUnlessSearchable ⟨Nat.le_of_ble_eq_true rfl, Nat.le_of_ble_eq_true rfl⟩) rfl hl.1 rfl (Nat.le_of_ble_eq_true rfl) dX4_install_3 ⟨Nat.le_of_ble_eq_true rfl, Nat.le_of_ble_eq_true rfl⟩ (fun E ce q9 H locs hne he hW h1 h2 h3 => ?_) (fun H locs h0 hW => ?_)
  · replace h := iff_ h hne
    exact wt_p C hE hW he hne h h1 h2 h3 (Nat.le_of_ble_eq_true rfl) (Nat.le_of_ble_eq_true rfl)
  replace h := ift h h0
  refine lv_aload_n hx hb dX4_install_6 rfl (lv_at hl 0 rfl) ?_
  refine wg_r C hW (k := 72) (ci := 4) (j := 4) (q := 71) k72 rfl ⟨by decide, rfl⟩ inX4 (by decide) (rfq k72 rfl) hL40 (fun _ h9 => h9) dX4_install_7 ?_
  refine lv_lload_n hx hb dX4_install_10 rfl (lv_at hl 1 rfl) ?_
  refine lv_iload_n hx hb dX4_install_11 rfl (lv_at hl 2 rfl) ?_
  obtain ⟨q2, hq2, h⟩ := ob h
  refine wc_Vv C hW (k := 71) (As := [.long a1, .int a2]) (rest := []) (c_X2_run G a1 a2 q1.2 q2 hq2) k71 rfl (by decide) (cwV 2 hts gX4_install_X2_run rfl rfl rfl yd_X2_run ⟨Nat.le_of_ble_eq_true rfl, Nat.le_of_ble_eq_true rfl⟩) rfl hl.1 rfl (Nat.le_of_ble_eq_true rfl) dX4_install_12 ⟨Nat.le_of_ble_eq_true rfl, Nat.le_of_ble_eq_true rfl⟩ (fun H locs hW => ?_)
  refine lv_aload_n hx hb dX4_install_15 rfl (lv_at hl 0 rfl) ?_
  refine wg_r C hW (k := 72) (ci := 4) (j := 4) (q := 71) k72 rfl ⟨by decide, rfl⟩ inX4 (by decide) (rfq k72 rfl) hL40 (fun _ h9 => h9) dX4_install_16 ?_
  obtain ⟨q3, hq3, h⟩ := ob h
  refine wc_Vi C hW (k := 71) (As := []) (rest := []) (c_X2_foundRole G  q2.2 q3 hq3) k71 rfl (by decide) (cwV 0 hts gX4_install_X2_foundRole rfl rfl rfl yd_X2_foundRole ⟨Nat.le_of_ble_eq_true rfl, Nat.le_of_ble_eq_true rfl⟩) rfl hl.1 rfl (Nat.le_of_ble_eq_true rfl) dX4_install_19 ⟨Nat.le_of_ble_eq_true rfl, Nat.le_of_ble_eq_true rfl⟩ (fun H locs hW => ?_)
  refine lv_iconst (v := (-1)) hx hb dX4_install_22 (by decide) ?_
  refine lv_icmp_ne (tgt := 34) hx hb dX4_install_23 (by decide) (fun c1 => ?_) (fun c1 => ?_)
  · replace h := iff_ h c1
    refine lv_aload_n hx hb dX4_install_34 rfl (lv_at hl 0 rfl) ?_
    refine wg_r C hW (k := 72) (ci := 4) (j := 4) (q := 71) k72 rfl ⟨by decide, rfl⟩ inX4 (by decide) (rfq k72 rfl) hL40 (fun _ h9 => h9) dX4_install_35 ?_
    refine lv_aload_n hx hb dX4_install_38 rfl (lv_at hl 0 rfl) ?_
    refine wg_r C hW (k := 72) (ci := 4) (j := 1) (q := 65) k72 rfl ⟨by decide, rfl⟩ inX4 (by decide) (rfq k72 rfl) hL18 (fun _ h9 => h9) dX4_install_39 ?_
    obtain ⟨q4, hq4, h⟩ := ob h
    refine wc_Vi C hW (k := 71) (As := [.ref (ga G 65)]) (rest := []) (c_X2_foundTargetIs G 65 k65 q3.2 q4 hq4) k71 rfl (by decide) (cwV 1 hts gX4_install_X2_foundTargetIs rfl rfl rfl yd_X2_foundTargetIs ⟨Nat.le_of_ble_eq_true rfl, Nat.le_of_ble_eq_true rfl⟩) rfl hl.1 rfl (Nat.le_of_ble_eq_true rfl) dX4_install_42 ⟨Nat.le_of_ble_eq_true rfl, Nat.le_of_ble_eq_true rfl⟩ (fun H locs hW => ?_)
    refine lv_if_ne (tgt := 56) hx hb dX4_install_45 (by decide) (fun c2 => ?_) (fun c2 => ?_)
    · replace h := iff_ h c2
      refine lv_aload_n hx hb dX4_install_56 rfl (lv_at hl 0 rfl) ?_
      refine lv_aload_n hx hb dX4_install_57 rfl (lv_at hl 0 rfl) ?_
      refine wg_r C hW (k := 72) (ci := 4) (j := 4) (q := 71) k72 rfl ⟨by decide, rfl⟩ inX4 (by decide) (rfq k72 rfl) hL40 (fun _ h9 => h9) dX4_install_58 ?_
      obtain ⟨q5, hq5, h⟩ := ob h
      refine wc_Vi C hW (k := 71) (As := []) (rest := [.ref (ga G 72)]) (c_X2_visitCount G  q4.2 q5 hq5) k71 rfl (by decide) (cwV 0 hts gX4_install_X2_visitCount rfl rfl rfl yd_X2_visitCount ⟨Nat.le_of_ble_eq_true rfl, Nat.le_of_ble_eq_true rfl⟩) rfl hl.1 rfl (Nat.le_of_ble_eq_true rfl) dX4_install_61 ⟨Nat.le_of_ble_eq_true rfl, Nat.le_of_ble_eq_true rfl⟩ (fun H locs hW => ?_)
      refine wp_t C hW (k := 72) (ci := 4) (j := 5) (ty := .int) rfl rfl k72 rfl ⟨by decide, rfl⟩ inX4 tyX4 tyX4_ok nmX4 (by decide) (rfq k72 rfl) hL166 (fun _ h9 => h9) rfl rfl dX4_install_64 (fun H locs hW => ?_)
      refine lv_aload_n hx hb dX4_install_67 rfl (lv_at hl 0 rfl) ?_
      refine lv_dup hx hb dX4_install_68 rfl ?_
      refine wg_i C hW (k := 72) (ci := 4) (j := 6) k72 rfl ⟨by decide, rfl⟩ inX4 (by decide) (rfq k72 rfl) (v := (q5.2 72 6)) (up_j (by decide)) hL177 (fun _ h9 => h9) dX4_install_69 ?_
      refine lv_iconst (v := 1) hx hb dX4_install_72 (by decide) ?_
      refine lv_iadd hx hb dX4_install_73 ?_
      refine wp_t C hW (k := 72) (ci := 4) (j := 6) (ty := .int) rfl rfl k72 rfl ⟨by decide, rfl⟩ inX4 tyX4 tyX4_ok nmX4 (by decide) (rfq k72 rfl) hL177 (fun _ h9 => h9) rfl rfl dX4_install_74 (fun H locs hW => ?_)
      refine lv_aload_n hx hb dX4_install_77 rfl (lv_at hl 0 rfl) ?_
      refine wg_r C hW (k := 72) (ci := 4) (j := 4) (q := 71) k72 rfl ⟨by decide, rfl⟩ inX4 (by decide) (rfq k72 rfl) hL40 (fun _ h9 => h9) dX4_install_78 ?_
      obtain ⟨q6, hq6, h⟩ := ob h
      refine wc_Vi C hW (k := 71) (As := []) (rest := []) (c_X2_foundRole G  (up (up q5.2 72 5 q5.1) 72 6 ((q5.2 72 6) + 1)) q6 hq6) k71 rfl (by decide) (cwV 0 hts gX4_install_X2_foundRole rfl rfl rfl yd_X2_foundRole ⟨Nat.le_of_ble_eq_true rfl, Nat.le_of_ble_eq_true rfl⟩) rfl hl.1 rfl (Nat.le_of_ble_eq_true rfl) dX4_install_81 ⟨Nat.le_of_ble_eq_true rfl, Nat.le_of_ble_eq_true rfl⟩ (fun H locs hW => ?_)
      exact wt_i C hr hW h dX4_install_84 (Nat.le_of_ble_eq_true rfl) (Nat.le_of_ble_eq_true rfl)
    · replace h := ift h c2
      exact wt_x C hZ hE hW (code := 4) (cls := "java/lang/UnsupportedOperationException") rfl (by decide) h xf_4 (hts (.classLink RX4 100 "java/lang/UnsupportedOperationException") (by decide +kernel)) (hts (.initialized "java/lang/UnsupportedOperationException") (by decide +kernel)) (by decide +kernel) xn_4 xg_4 hl.1 dX4_install_48 dX4_install_51 dX4_install_52 dX4_install_55 (Nat.le_of_ble_eq_true rfl) (Nat.le_of_ble_eq_true rfl) (Nat.le_of_ble_eq_true rfl) (Nat.le_of_ble_eq_true rfl) (Nat.le_of_ble_eq_true rfl) (Nat.le_of_ble_eq_true rfl)
  · replace h := ift h c1
    exact wt_x C hZ hE hW (code := 5) (cls := "java/util/NoSuchElementException") rfl (by decide) h xf_5 (hts (.classLink RX4 141 "java/util/NoSuchElementException") (by decide +kernel)) (hts (.initialized "java/util/NoSuchElementException") (by decide +kernel)) (by decide +kernel) xn_5 xg_5 hl.1 dX4_install_26 dX4_install_29 dX4_install_30 dX4_install_33 (Nat.le_of_ble_eq_true rfl) (Nat.le_of_ble_eq_true rfl) (Nat.le_of_ble_eq_true rfl) (Nat.le_of_ble_eq_true rfl) (Nat.le_of_ble_eq_true rfl) (Nat.le_of_ble_eq_true rfl)
