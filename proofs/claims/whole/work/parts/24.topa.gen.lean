theorem yd_X4_put : yX4_put.cls = RX4 ∧ yX4_put.cls ≠ "java/lang/invoke/MethodHandle" ∧ yX4_put.cls ≠ "java/lang/invoke/VarHandle" ∧ (parseMethodDescriptor yX4_put.desc).map (fun d => d.parameters.length) = some 2 := by decide +kernel
set_option maxHeartbeats 4000000 in
set_option maxRecDepth 100000 in
theorem c_X4_put (G : GG) (a1 : Int64) (a2 : Int32) (M : Me) (y : Int32 × Me) (h : f_X4_put a1 a2 M = some y) : CI G yX4_put wsX4_put (rmd 2 0 0) [.ref (ga G 72), .long a1, .int a2] M y := by
  rw [f_X4_put] at h
  refine co_o (by decide) rfl rfl (Nat.le_of_ble_eq_true rfl) (fun p e s m below meth c ls C hr hW hl => ?_)
  have hx := C.1
  have hb := C.2.1
  have hown := C.2.2.2.1
  have hts := C.2.2.2.2.1
  have inX4 : ∀ w ∈ wsX40, w ∈ wsX4_put := by decide +kernel
  have hL14 := hts (.fieldLink RX4 14 "TrustedUpdates" "draft" "LTrustedUpdates$Row;") (by decide +kernel)
  have hl : lv_has ls 4 [(0, .ref (ga G 72)), (1, .long a1), (3, .int a2)] := hl
  refine lv_iload_n hx hb dX4_put_0 rfl (lv_at hl 2 rfl) ?_
  refine lv_iconst (v := 1) hx hb dX4_put_1 (by decide) ?_
  refine lv_icmp_lt (tgt := 22) hx hb dX4_put_2 (by decide) (fun c1 => ?_) (fun c1 => ?_)
  · replace h := ift h c1
    refine lv_iconst (v := 0) hx hb dX4_put_22 (by decide) ?_
    exact wr_z C hr (Or.inl rfl) hW h dX4_put_23
  · replace h := iff_ h c1
    refine lv_iload_n hx hb dX4_put_5 rfl (lv_at hl 2 rfl) ?_
    refine lv_bipush (v := 8) hx hb dX4_put_6 (by decide) ?_
    refine lv_icmp_gt (tgt := 22) hx hb dX4_put_8 (by decide) (fun c2 => ?_) (fun c2 => ?_)
    · replace h := ift h c2
      refine lv_iconst (v := 0) hx hb dX4_put_22 (by decide) ?_
      exact wr_z C hr (Or.inl rfl) hW h dX4_put_23
    · replace h := iff_ h c2
      refine lv_aload_n hx hb dX4_put_11 rfl (lv_at hl 0 rfl) ?_
      refine wg_r C hW (k := 72) (ci := 4) (j := 0) (q := 63) k72 rfl ⟨by decide, rfl⟩ inX4 (by decide) (rfq k72 rfl) hL14 (fun _ h9 => h9) dX4_put_12 ?_
      refine lv_iload_n hx hb dX4_put_15 rfl (lv_at hl 2 rfl) ?_
      obtain ⟨q1, hq1, h⟩ := ob h
      refine wc_Vi C hW (k := 63) (As := [.int a2]) (rest := []) (c_X1_hasRoomFor G 63 k63 a2 M q1 hq1) k63 rfl (by decide) (cwV 1 hts gX4_put_X1_hasRoomFor rfl rfl rfl yd_X1_hasRoomFor ⟨Nat.le_of_ble_eq_true rfl, Nat.le_of_ble_eq_true rfl⟩) rfl hl.1 rfl (Nat.le_of_ble_eq_true rfl) dX4_put_16 ⟨Nat.le_refl 0, Nat.le_refl 0⟩ (fun H locs hW => ?_)
      refine lv_if_ne (tgt := 24) hx hb dX4_put_19 (by decide) (fun c3 => ?_) (fun c3 => ?_)
      · replace h := iff_ h c3
        refine lv_aload_n hx hb dX4_put_24 rfl (lv_at hl 0 rfl) ?_
        refine wg_r C hW (k := 72) (ci := 4) (j := 0) (q := 63) k72 rfl ⟨by decide, rfl⟩ inX4 (by decide) (rfq k72 rfl) hL14 (fun _ h9 => h9) dX4_put_25 ?_
        refine lv_lload_n hx hb dX4_put_28 rfl (lv_at hl 1 rfl) ?_
        refine lv_iload_n hx hb dX4_put_29 rfl (lv_at hl 2 rfl) ?_
        obtain ⟨q2, hq2, h⟩ := ob h
        refine wc_Vv C hW (k := 63) (As := [.long a1, .int a2]) (rest := []) (c_X1_appendLowest G 63 k63 a1 a2 q1.2 q2 hq2) k63 rfl (by decide) (cwV 2 hts gX4_put_X1_appendLowest rfl rfl rfl yd_X1_appendLowest ⟨Nat.le_of_ble_eq_true rfl, Nat.le_of_ble_eq_true rfl⟩) rfl hl.1 rfl (Nat.le_of_ble_eq_true rfl) dX4_put_30 ⟨Nat.le_refl 0, Nat.le_refl 0⟩ (fun H locs hW => ?_)
        refine lv_iconst (v := 1) hx hb dX4_put_33 (by decide) ?_
        exact wr_z C hr (Or.inr rfl) hW h dX4_put_34
      · replace h := ift h c3
        refine lv_iconst (v := 0) hx hb dX4_put_22 (by decide) ?_
        exact wr_z C hr (Or.inl rfl) hW h dX4_put_23
theorem yd_X4_cut : yX4_cut.cls = RX4 ∧ yX4_cut.cls ≠ "java/lang/invoke/MethodHandle" ∧ yX4_cut.cls ≠ "java/lang/invoke/VarHandle" ∧ (parseMethodDescriptor yX4_cut.desc).map (fun d => d.parameters.length) = some 1 := by decide +kernel
set_option maxHeartbeats 4000000 in
set_option maxRecDepth 100000 in
theorem c_X4_cut (G : GG) (a1 : Int32) (M : Me) (y : Int32 × Me) (h : f_X4_cut a1 M = some y) : CI G yX4_cut wsX4_cut (rmd 1 0 0) [.ref (ga G 72), .int a1] M y := by
  rw [f_X4_cut] at h
  refine co_o (by decide) rfl rfl (Nat.le_of_ble_eq_true rfl) (fun p e s m below meth c ls C hr hW hl => ?_)
  have hx := C.1
  have hb := C.2.1
  have hown := C.2.2.2.1
  have hts := C.2.2.2.2.1
  have inX4 : ∀ w ∈ wsX40, w ∈ wsX4_cut := by decide +kernel
  have hL14 := hts (.fieldLink RX4 14 "TrustedUpdates" "draft" "LTrustedUpdates$Row;") (by decide +kernel)
  have hl : lv_has ls 2 [(0, .ref (ga G 72)), (1, .int a1)] := hl
  refine lv_iload_n hx hb dX4_cut_0 rfl (lv_at hl 1 rfl) ?_
  refine lv_if_lt (tgt := 15) hx hb dX4_cut_1 (by decide) (fun c1 => ?_) (fun c1 => ?_)
  · replace h := ift h c1
    refine lv_iconst (v := 0) hx hb dX4_cut_15 (by decide) ?_
    exact wr_z C hr (Or.inl rfl) hW h dX4_cut_16
  · replace h := iff_ h c1
    refine lv_iload_n hx hb dX4_cut_4 rfl (lv_at hl 1 rfl) ?_
    refine lv_aload_n hx hb dX4_cut_5 rfl (lv_at hl 0 rfl) ?_
    refine wg_r C hW (k := 72) (ci := 4) (j := 0) (q := 63) k72 rfl ⟨by decide, rfl⟩ inX4 (by decide) (rfq k72 rfl) hL14 (fun _ h9 => h9) dX4_cut_6 ?_
    obtain ⟨q1, hq1, h⟩ := ob h
    refine wc_Vi C hW (k := 63) (As := []) (rest := [.int a1]) (c_X1_size G 63 k63 M q1 hq1) k63 rfl (by decide) (cwV 0 hts gX4_cut_X1_size rfl rfl rfl yd_X1_size ⟨Nat.le_of_ble_eq_true rfl, Nat.le_of_ble_eq_true rfl⟩) rfl hl.1 rfl (Nat.le_of_ble_eq_true rfl) dX4_cut_9 ⟨Nat.le_refl 0, Nat.le_refl 0⟩ (fun H locs hW => ?_)
    refine lv_icmp_le (tgt := 17) hx hb dX4_cut_12 (by decide) (fun c2 => ?_) (fun c2 => ?_)
    · replace h := ift h c2
      refine lv_aload_n hx hb dX4_cut_17 rfl (lv_at hl 0 rfl) ?_
      refine wg_r C hW (k := 72) (ci := 4) (j := 0) (q := 63) k72 rfl ⟨by decide, rfl⟩ inX4 (by decide) (rfq k72 rfl) hL14 (fun _ h9 => h9) dX4_cut_18 ?_
      refine lv_iload_n hx hb dX4_cut_21 rfl (lv_at hl 1 rfl) ?_
      obtain ⟨q2, hq2, h⟩ := ob h
      refine wc_Vv C hW (k := 63) (As := [.int a1]) (rest := []) (c_X1_keepFirst G 63 k63 a1 q1.2 q2 hq2) k63 rfl (by decide) (cwV 1 hts gX4_cut_X1_keepFirst rfl rfl rfl yd_X1_keepFirst ⟨Nat.le_of_ble_eq_true rfl, Nat.le_of_ble_eq_true rfl⟩) rfl hl.1 rfl (Nat.le_of_ble_eq_true rfl) dX4_cut_22 ⟨Nat.le_refl 0, Nat.le_refl 0⟩ (fun H locs hW => ?_)
      refine lv_iconst (v := 1) hx hb dX4_cut_25 (by decide) ?_
      exact wr_z C hr (Or.inr rfl) hW h dX4_cut_26
    · replace h := iff_ h c2
      refine lv_iconst (v := 0) hx hb dX4_cut_15 (by decide) ?_
      exact wr_z C hr (Or.inl rfl) hW h dX4_cut_16
theorem yd_X4_alter : yX4_alter.cls = RX4 ∧ yX4_alter.cls ≠ "java/lang/invoke/MethodHandle" ∧ yX4_alter.cls ≠ "java/lang/invoke/VarHandle" ∧ (parseMethodDescriptor yX4_alter.desc).map (fun d => d.parameters.length) = some 2 := by decide +kernel
set_option maxHeartbeats 4000000 in
set_option maxRecDepth 100000 in
theorem c_X4_alter (G : GG) (a1 : Int32) (a2 : Int32) (M : Me) (y : Int32 × Me) (h : f_X4_alter a1 a2 M = some y) : CI G yX4_alter wsX4_alter (rmd 1 0 0) [.ref (ga G 72), .int a1, .int a2] M y := by
  rw [f_X4_alter] at h
  refine co_o (by decide) rfl rfl (Nat.le_of_ble_eq_true rfl) (fun p e s m below meth c ls C hr hW hl => ?_)
  have hx := C.1
  have hb := C.2.1
  have hown := C.2.2.2.1
  have hts := C.2.2.2.2.1
  have inX4 : ∀ w ∈ wsX40, w ∈ wsX4_alter := by decide +kernel
  have hL14 := hts (.fieldLink RX4 14 "TrustedUpdates" "draft" "LTrustedUpdates$Row;") (by decide +kernel)
  have hl : lv_has ls 3 [(0, .ref (ga G 72)), (1, .int a1), (2, .int a2)] := hl
  refine lv_aload_n hx hb dX4_alter_0 rfl (lv_at hl 0 rfl) ?_
  refine wg_r C hW (k := 72) (ci := 4) (j := 0) (q := 63) k72 rfl ⟨by decide, rfl⟩ inX4 (by decide) (rfq k72 rfl) hL14 (fun _ h9 => h9) dX4_alter_1 ?_
  refine lv_iload_n hx hb dX4_alter_4 rfl (lv_at hl 1 rfl) ?_
  obtain ⟨q1, hq1, h⟩ := ob h
  refine wc_Vi C hW (k := 63) (As := [.int a1]) (rest := []) (c_X1_has G 63 k63 a1 M q1 hq1) k63 rfl (by decide) (cwV 1 hts gX4_alter_X1_has rfl rfl rfl yd_X1_has ⟨Nat.le_of_ble_eq_true rfl, Nat.le_of_ble_eq_true rfl⟩) rfl hl.1 rfl (Nat.le_of_ble_eq_true rfl) dX4_alter_5 ⟨Nat.le_refl 0, Nat.le_refl 0⟩ (fun H locs hW => ?_)
  refine lv_if_ne (tgt := 13) hx hb dX4_alter_8 (by decide) (fun c1 => ?_) (fun c1 => ?_)
  · replace h := iff_ h c1
    refine lv_aload_n hx hb dX4_alter_13 rfl (lv_at hl 0 rfl) ?_
    refine wg_r C hW (k := 72) (ci := 4) (j := 0) (q := 63) k72 rfl ⟨by decide, rfl⟩ inX4 (by decide) (rfq k72 rfl) hL14 (fun _ h9 => h9) dX4_alter_14 ?_
    refine lv_iload_n hx hb dX4_alter_17 rfl (lv_at hl 1 rfl) ?_
    refine lv_iload_n hx hb dX4_alter_18 rfl (lv_at hl 2 rfl) ?_
    obtain ⟨q2, hq2, h⟩ := ob h
    refine wc_Vv C hW (k := 63) (As := [.int a1, .int a2]) (rest := []) (c_X1_replace G 63 k63 a1 a2 q1.2 q2 hq2) k63 rfl (by decide) (cwV 2 hts gX4_alter_X1_replace rfl rfl rfl yd_X1_replace ⟨Nat.le_of_ble_eq_true rfl, Nat.le_of_ble_eq_true rfl⟩) rfl hl.1 rfl (Nat.le_of_ble_eq_true rfl) dX4_alter_19 ⟨Nat.le_refl 0, Nat.le_refl 0⟩ (fun H locs hW => ?_)
    refine lv_iconst (v := 1) hx hb dX4_alter_22 (by decide) ?_
    exact wr_z C hr (Or.inr rfl) hW h dX4_alter_23
  · replace h := ift h c1
    refine lv_iconst (v := 0) hx hb dX4_alter_11 (by decide) ?_
    exact wr_z C hr (Or.inl rfl) hW h dX4_alter_12
theorem yd_X4_length : yX4_length.cls = RX4 ∧ yX4_length.cls ≠ "java/lang/invoke/MethodHandle" ∧ yX4_length.cls ≠ "java/lang/invoke/VarHandle" ∧ (parseMethodDescriptor yX4_length.desc).map (fun d => d.parameters.length) = some 0 := by decide +kernel
set_option maxHeartbeats 4000000 in
set_option maxRecDepth 100000 in
theorem c_X4_length (G : GG)  (M : Me) (y : Int32 × Me) (h : f_X4_length  M = some y) : CI G yX4_length wsX4_length (rmd 1 0 0) [.ref (ga G 72)] M y := by
  rw [f_X4_length] at h
  refine co_o (by decide) rfl rfl (Nat.le_of_ble_eq_true rfl) (fun p e s m below meth c ls C hr hW hl => ?_)
  have hx := C.1
  have hb := C.2.1
  have hown := C.2.2.2.1
  have hts := C.2.2.2.2.1
  have inX4 : ∀ w ∈ wsX40, w ∈ wsX4_length := by decide +kernel
  have hL14 := hts (.fieldLink RX4 14 "TrustedUpdates" "draft" "LTrustedUpdates$Row;") (by decide +kernel)
  have hl : lv_has ls 1 [(0, .ref (ga G 72))] := hl
  refine lv_aload_n hx hb dX4_length_0 rfl (lv_at hl 0 rfl) ?_
  refine wg_r C hW (k := 72) (ci := 4) (j := 0) (q := 63) k72 rfl ⟨by decide, rfl⟩ inX4 (by decide) (rfq k72 rfl) hL14 (fun _ h9 => h9) dX4_length_1 ?_
  obtain ⟨q1, hq1, h⟩ := ob h
  refine wc_Vi C hW (k := 63) (As := []) (rest := []) (c_X1_size G 63 k63 M q1 hq1) k63 rfl (by decide) (cwV 0 hts gX4_length_X1_size rfl rfl rfl yd_X1_size ⟨Nat.le_of_ble_eq_true rfl, Nat.le_of_ble_eq_true rfl⟩) rfl hl.1 rfl (Nat.le_of_ble_eq_true rfl) dX4_length_4 ⟨Nat.le_refl 0, Nat.le_refl 0⟩ (fun H locs hW => ?_)
  exact wr_i C hr hW h dX4_length_7
theorem yd_X4_mix : yX4_mix.cls = RX4 ∧ yX4_mix.cls ≠ "java/lang/invoke/MethodHandle" ∧ yX4_mix.cls ≠ "java/lang/invoke/VarHandle" ∧ (parseMethodDescriptor yX4_mix.desc).map (fun d => d.parameters.length) = some 1 := by decide +kernel
set_option maxHeartbeats 4000000 in
set_option maxRecDepth 100000 in
theorem c_X4_mix (G : GG) (a1 : Int32) (M : Me) (y : Int32 × Me) (h : f_X4_mix a1 M = some y) : CI G yX4_mix wsX4_mix (rmd 1 0 0) [.ref (ga G 72), .int a1] M y := by
  rw [f_X4_mix] at h
  refine co_o (by decide) rfl rfl (Nat.le_of_ble_eq_true rfl) (fun p e s m below meth c ls C hr hW hl => ?_)
  have hx := C.1
  have hb := C.2.1
  have hown := C.2.2.2.1
  have hts := C.2.2.2.2.1
  have inX4 : ∀ w ∈ wsX40, w ∈ wsX4_mix := by decide +kernel
  have hL14 := hts (.fieldLink RX4 14 "TrustedUpdates" "draft" "LTrustedUpdates$Row;") (by decide +kernel)
  have hl : lv_has ls 2 [(0, .ref (ga G 72)), (1, .int a1)] := hl
  refine lv_aload_n hx hb dX4_mix_0 rfl (lv_at hl 0 rfl) ?_
  refine wg_r C hW (k := 72) (ci := 4) (j := 0) (q := 63) k72 rfl ⟨by decide, rfl⟩ inX4 (by decide) (rfq k72 rfl) hL14 (fun _ h9 => h9) dX4_mix_1 ?_
  refine lv_aload_n hx hb dX4_mix_4 rfl (lv_at hl 0 rfl) ?_
  refine wg_r C hW (k := 72) (ci := 4) (j := 0) (q := 63) k72 rfl ⟨by decide, rfl⟩ inX4 (by decide) (rfq k72 rfl) hL14 (fun _ h9 => h9) dX4_mix_5 ?_
  obtain ⟨q1, hq1, h⟩ := ob h
  refine wc_Vi C hW (k := 63) (As := []) (rest := [.ref (ga G 63)]) (c_X1_size G 63 k63 M q1 hq1) k63 rfl (by decide) (cwV 0 hts gX4_mix_X1_size rfl rfl rfl yd_X1_size ⟨Nat.le_of_ble_eq_true rfl, Nat.le_of_ble_eq_true rfl⟩) rfl hl.1 rfl (Nat.le_of_ble_eq_true rfl) dX4_mix_8 ⟨Nat.le_refl 0, Nat.le_refl 0⟩ (fun H locs hW => ?_)
  refine lv_iload_n hx hb dX4_mix_11 rfl (lv_at hl 1 rfl) ?_
  obtain ⟨q2, hq2, h⟩ := ob h
  refine wc_Vi C hW (k := 63) (As := [.int q1.1, .int a1]) (rest := []) (c_X1_mixOfFirst G 63 k63 q1.1 a1 q1.2 q2 hq2) k63 rfl (by decide) (cwV 2 hts gX4_mix_X1_mixOfFirst rfl rfl rfl yd_X1_mixOfFirst ⟨Nat.le_of_ble_eq_true rfl, Nat.le_of_ble_eq_true rfl⟩) rfl hl.1 rfl (Nat.le_of_ble_eq_true rfl) dX4_mix_12 ⟨Nat.le_refl 0, Nat.le_refl 0⟩ (fun H locs hW => ?_)
  exact wr_i C hr hW h dX4_mix_15
theorem yd_X4_digest : yX4_digest.cls = RX4 ∧ yX4_digest.cls ≠ "java/lang/invoke/MethodHandle" ∧ yX4_digest.cls ≠ "java/lang/invoke/VarHandle" ∧ (parseMethodDescriptor yX4_digest.desc).map (fun d => d.parameters.length) = some 0 := by decide +kernel
set_option maxHeartbeats 4000000 in
set_option maxRecDepth 100000 in
theorem c_X4_digest (G : GG)  (M : Me) (y : Int32 × Me) (h : f_X4_digest  M = some y) : CI G yX4_digest wsX4_digest (rmd 2 0 0) [.ref (ga G 72)] M y := by
  rw [f_X4_digest] at h
  refine co_o (by decide) rfl rfl (Nat.le_of_ble_eq_true rfl) (fun p e s m below meth c ls C hr hW hl => ?_)
  have hx := C.1
  have hb := C.2.1
  have hown := C.2.2.2.1
  have hts := C.2.2.2.2.1
  have inX4 : ∀ w ∈ wsX40, w ∈ wsX4_digest := by decide +kernel
  have hL14 := hts (.fieldLink RX4 14 "TrustedUpdates" "draft" "LTrustedUpdates$Row;") (by decide +kernel)
  have hL18 := hts (.fieldLink RX4 18 "TrustedUpdates" "content" "LTrustedUpdates$Row;") (by decide +kernel)
  have hl : lv_has ls 1 [(0, .ref (ga G 72))] := hl
  refine lv_aload_n hx hb dX4_digest_0 rfl (lv_at hl 0 rfl) ?_
  refine wg_r C hW (k := 72) (ci := 4) (j := 0) (q := 63) k72 rfl ⟨by decide, rfl⟩ inX4 (by decide) (rfq k72 rfl) hL14 (fun _ h9 => h9) dX4_digest_1 ?_
  refine lv_iconst (v := 4) hx hb dX4_digest_4 (by decide) ?_
  obtain ⟨q1, hq1, h⟩ := ob h
  refine wc_Vi C hW (k := 63) (As := [.int 4]) (rest := []) (c_X1_hasRoomFor G 63 k63 4 M q1 hq1) k63 rfl (by decide) (cwV 1 hts gX4_digest_X1_hasRoomFor rfl rfl rfl yd_X1_hasRoomFor ⟨Nat.le_of_ble_eq_true rfl, Nat.le_of_ble_eq_true rfl⟩) rfl hl.1 rfl (Nat.le_of_ble_eq_true rfl) dX4_digest_5 ⟨Nat.le_refl 0, Nat.le_refl 0⟩ (fun H locs hW => ?_)
  refine lv_if_ne (tgt := 13) hx hb dX4_digest_8 (by decide) (fun c1 => ?_) (fun c1 => ?_)
  · replace h := iff_ h c1
    refine lv_aload_n hx hb dX4_digest_13 rfl (lv_at hl 0 rfl) ?_
    refine wg_r C hW (k := 72) (ci := 4) (j := 0) (q := 63) k72 rfl ⟨by decide, rfl⟩ inX4 (by decide) (rfq k72 rfl) hL14 (fun _ h9 => h9) dX4_digest_14 ?_
    refine lv_aload_n hx hb dX4_digest_17 rfl (lv_at hl 0 rfl) ?_
    refine wg_r C hW (k := 72) (ci := 4) (j := 1) (q := 65) k72 rfl ⟨by decide, rfl⟩ inX4 (by decide) (rfq k72 rfl) hL18 (fun _ h9 => h9) dX4_digest_18 ?_
    obtain ⟨q2, hq2, h⟩ := ob h
    refine wc_Vi C hW (k := 65) (As := []) (rest := [.ref (ga G 63)]) (c_X1_wholeDigest G 65 k65 q1.2 q2 hq2) k65 rfl (by decide) (cwV 0 hts gX4_digest_X1_wholeDigest rfl rfl rfl yd_X1_wholeDigest ⟨Nat.le_of_ble_eq_true rfl, Nat.le_of_ble_eq_true rfl⟩) rfl hl.1 rfl (Nat.le_of_ble_eq_true rfl) dX4_digest_21 ⟨Nat.le_refl 0, Nat.le_refl 0⟩ (fun H locs hW => ?_)
    obtain ⟨q3, hq3, h⟩ := ob h
    refine wc_Vv C hW (k := 63) (As := [.int q2.1]) (rest := []) (c_X1_appendWord G 63 k63 q2.1 q2.2 q3 hq3) k63 rfl (by decide) (cwV 1 hts gX4_digest_X1_appendWord rfl rfl rfl yd_X1_appendWord ⟨Nat.le_of_ble_eq_true rfl, Nat.le_of_ble_eq_true rfl⟩) rfl hl.1 rfl (Nat.le_of_ble_eq_true rfl) dX4_digest_24 ⟨Nat.le_refl 0, Nat.le_refl 0⟩ (fun H locs hW => ?_)
    refine lv_iconst (v := 1) hx hb dX4_digest_27 (by decide) ?_
    exact wr_z C hr (Or.inr rfl) hW h dX4_digest_28
  · replace h := ift h c1
    refine lv_iconst (v := 0) hx hb dX4_digest_11 (by decide) ?_
    exact wr_z C hr (Or.inl rfl) hW h dX4_digest_12
theorem yd_X4_content : yX4_content.cls = RX4 ∧ yX4_content.cls ≠ "java/lang/invoke/MethodHandle" ∧ yX4_content.cls ≠ "java/lang/invoke/VarHandle" ∧ (parseMethodDescriptor yX4_content.desc).map (fun d => d.parameters.length) = some 0 := by decide +kernel
set_option maxHeartbeats 4000000 in
set_option maxRecDepth 100000 in
theorem c_X4_content (G : GG)  (M : Me) (y : Int32 × Me) (h : f_X4_content  M = some y) : CI G yX4_content wsX4_content (rmd 2 0 0) [.ref (ga G 72)] M y := by
  rw [f_X4_content] at h
  refine co_o (by decide) rfl rfl (Nat.le_of_ble_eq_true rfl) (fun p e s m below meth c ls C hr hW hl => ?_)
  have hx := C.1
  have hb := C.2.1
  have hown := C.2.2.2.1
  have hts := C.2.2.2.2.1
  have inX4 : ∀ w ∈ wsX40, w ∈ wsX4_content := by decide +kernel
  have hL14 := hts (.fieldLink RX4 14 "TrustedUpdates" "draft" "LTrustedUpdates$Row;") (by decide +kernel)
  have hL18 := hts (.fieldLink RX4 18 "TrustedUpdates" "content" "LTrustedUpdates$Row;") (by decide +kernel)
  have hl : lv_has ls 1 [(0, .ref (ga G 72))] := hl
  refine lv_aload_n hx hb dX4_content_0 rfl (lv_at hl 0 rfl) ?_
  refine wg_r C hW (k := 72) (ci := 4) (j := 1) (q := 65) k72 rfl ⟨by decide, rfl⟩ inX4 (by decide) (rfq k72 rfl) hL18 (fun _ h9 => h9) dX4_content_1 ?_
  refine lv_aload_n hx hb dX4_content_4 rfl (lv_at hl 0 rfl) ?_
  refine wg_r C hW (k := 72) (ci := 4) (j := 0) (q := 63) k72 rfl ⟨by decide, rfl⟩ inX4 (by decide) (rfq k72 rfl) hL14 (fun _ h9 => h9) dX4_content_5 ?_
  obtain ⟨q1, hq1, h⟩ := ob h
  refine wc_Vv C hW (k := 65) (As := [.ref (ga G 63)]) (rest := []) (c_X1_become G 65 k65 63 k63 M q1 hq1) k65 rfl (by decide) (cwV 1 hts gX4_content_X1_become rfl rfl rfl yd_X1_become ⟨Nat.le_of_ble_eq_true rfl, Nat.le_of_ble_eq_true rfl⟩) rfl hl.1 rfl (Nat.le_of_ble_eq_true rfl) dX4_content_8 ⟨Nat.le_refl 0, Nat.le_refl 0⟩ (fun H locs hW => ?_)
  refine lv_aload_n hx hb dX4_content_11 rfl (lv_at hl 0 rfl) ?_
  refine wg_r C hW (k := 72) (ci := 4) (j := 1) (q := 65) k72 rfl ⟨by decide, rfl⟩ inX4 (by decide) (rfq k72 rfl) hL18 (fun _ h9 => h9) dX4_content_12 ?_
  obtain ⟨q2, hq2, h⟩ := ob h
  refine wc_Vi C hW (k := 65) (As := []) (rest := []) (c_X1_size G 65 k65 q1.2 q2 hq2) k65 rfl (by decide) (cwV 0 hts gX4_content_X1_size rfl rfl rfl yd_X1_size ⟨Nat.le_of_ble_eq_true rfl, Nat.le_of_ble_eq_true rfl⟩) rfl hl.1 rfl (Nat.le_of_ble_eq_true rfl) dX4_content_15 ⟨Nat.le_refl 0, Nat.le_refl 0⟩ (fun H locs hW => ?_)
  exact wr_i C hr hW h dX4_content_18
theorem yd_X4_isName : yX4_isName.cls ≠ "java/lang/invoke/MethodHandle" ∧ yX4_isName.cls ≠ "java/lang/invoke/VarHandle" ∧ (parseMethodDescriptor yX4_isName.desc).map (fun d => d.parameters.length) = some 2 := by decide +kernel
set_option maxHeartbeats 4000000 in
set_option maxRecDepth 100000 in
theorem L_X4_isName_14 {G : GG} {p : Program} {e : Env} {s : State} {m : MethodId} {args : Array Value} {below : List Frame} {meth : Method} {c : Code} (C : Cx G wsX4_isName RX4 cX4_isName 5 p s m args meth c) (hr : meth.sig.returnType = (some .boolean)) : ∀ (n : Nat) (x0 : Int64) (x2 : Int32) (x3 : Int32) (M : Me) (y : Int32 × Me) (H : Heap) (locs : List Loc) (ls : Array Slot), fL_X4_isName_14 n x0 x2 x3 M = some y → wH G s M H locs → lv_has ls 5 [(0, .long x0), (2, .int x2), (3, .int x3)] → W p (gl G) e (rmd 0 0 0) s m args below meth c H locs 0 0 (MQ below (Qi G y) args s 0 0 (wA G)) (F0 m 14 ls []) := by
  have hx := C.1
  have hb := C.2.1
  have hown := C.2.2.2.1
  have hts := C.2.2.2.2.1
  intro n
  induction n with
  | zero => intro x0 x2 x3 M y H locs ls h; exact nso h
  | succ n ih =>
    intro x0 x2 x3 M y H locs ls h hW hl
    rw [fL_X4_isName_14] at h
    refine lv_iload_n hx hb dX4_isName_14 rfl (lv_at hl 2 rfl) ?_
    refine lv_iload_n hx hb dX4_isName_15 rfl (lv_at hl 1 rfl) ?_
    refine lv_icmp_ge (tgt := 54) hx hb dX4_isName_16 (by decide) (fun c3 => ?_) (fun c3 => ?_)
    · replace h := ift h c3
      refine lv_iconst (v := 1) hx hb dX4_isName_54 (by decide) ?_
      exact wr_z C hr (Or.inr rfl) hW h dX4_isName_55
    · replace h := iff_ h c3
      refine lv_lload_n hx hb dX4_isName_19 rfl (lv_at hl 0 rfl) ?_
      refine lv_bipush (v := 8) hx hb dX4_isName_20 (by decide) ?_
      refine lv_iload_n hx hb dX4_isName_22 rfl (lv_at hl 2 rfl) ?_
      refine lv_imul hx hb dX4_isName_23 ?_
      refine lv_lushr (v := (lushr_ x0 (8 * x3))) hx hb dX4_isName_24 rfl ?_
      refine lv_l2i (v := ((lushr_ x0 (8 * x3)).toInt32)) hx hb dX4_isName_25 rfl ?_
      refine lv_sipush (v := 255) hx hb dX4_isName_26 (by decide) ?_
      refine lv_iand hx hb dX4_isName_29 ?_
      refine lv_istore (lv' := [(4, .int (((lushr_ x0 (8 * x3)).toInt32) &&& 255)), (0, .long x0), (2, .int x2), (3, .int x3)]) hx hb dX4_isName_30 hl (by decide) rfl (fun ls hl => ?_)
      refine lv_iload hx hb dX4_isName_32 (lv_at hl 0 rfl) ?_
      refine lv_bipush (v := 97) hx hb dX4_isName_34 (by decide) ?_
      refine lv_icmp_lt (tgt := 46) hx hb dX4_isName_36 (by decide) (fun c4 => ?_) (fun c4 => ?_)
      · replace h := ift h c4
        refine lv_iconst (v := 0) hx hb dX4_isName_46 (by decide) ?_
        exact wr_z C hr (Or.inl rfl) hW h dX4_isName_47
      · replace h := iff_ h c4
        refine lv_iload hx hb dX4_isName_39 (lv_at hl 0 rfl) ?_
        refine lv_bipush (v := 122) hx hb dX4_isName_41 (by decide) ?_
        refine lv_icmp_le (tgt := 48) hx hb dX4_isName_43 (by decide) (fun c5 => ?_) (fun c5 => ?_)
        · replace h := ift h c5
          refine lv_iinc (v := (x3 + 1)) (lv' := [(3, .int (x3 + 1)), (4, .int (((lushr_ x0 (8 * x3)).toInt32) &&& 255)), (0, .long x0), (2, .int x2)]) hx hb dX4_isName_48 hl (k := 3) rfl rfl (by decide) rfl (fun ls hl => ?_)
          refine lv_goto (tgt := 14) hx hb dX4_isName_51 (by decide) ?_
          exact ih x0 x2 (x3 + 1) M y _ _ ls h hW (lv_sub hl [2, 3, 0] rfl)
        · replace h := iff_ h c5
          refine lv_iconst (v := 0) hx hb dX4_isName_46 (by decide) ?_
          exact wr_z C hr (Or.inl rfl) hW h dX4_isName_47
set_option maxHeartbeats 4000000 in
set_option maxRecDepth 100000 in
theorem c_X4_isName (G : GG) (a1 : Int64) (a2 : Int32) (M : Me) (y : Int32 × Me) (h : f_X4_isName a1 a2 M = some y) : CI G yX4_isName wsX4_isName (rmd 0 0 0) [.long a1, .int a2] M y := by
  rw [f_X4_isName] at h
  refine co_o (by decide) rfl rfl (Nat.le_of_ble_eq_true rfl) (fun p e s m below meth c ls C hr hW hl => ?_)
  have hx := C.1
  have hb := C.2.1
  have hown := C.2.2.2.1
  have hts := C.2.2.2.2.1
  have hl : lv_has ls 5 [(0, .long a1), (2, .int a2)] := hl
  refine lv_iload_n hx hb dX4_isName_0 rfl (lv_at hl 1 rfl) ?_
  refine lv_iconst (v := 1) hx hb dX4_isName_1 (by decide) ?_
  refine lv_icmp_lt (tgt := 10) hx hb dX4_isName_2 (by decide) (fun c1 => ?_) (fun c1 => ?_)
  · replace h := ift h c1
    refine lv_iconst (v := 0) hx hb dX4_isName_10 (by decide) ?_
    exact wr_z C hr (Or.inl rfl) hW h dX4_isName_11
  · replace h := iff_ h c1
    refine lv_iload_n hx hb dX4_isName_5 rfl (lv_at hl 1 rfl) ?_
    refine lv_iconst (v := 4) hx hb dX4_isName_6 (by decide) ?_
    refine lv_icmp_le (tgt := 12) hx hb dX4_isName_7 (by decide) (fun c2 => ?_) (fun c2 => ?_)
    · replace h := ift h c2
      refine lv_iconst (v := 0) hx hb dX4_isName_12 (by decide) ?_
      refine lv_istore_n (lv' := [(3, .int 0), (0, .long a1), (2, .int a2)]) hx hb dX4_isName_13 rfl hl (by decide) rfl (fun ls hl => ?_)
      exact L_X4_isName_14 C hr 200 a1 a2 0 M y _ _ ls h hW (lv_sub hl [1, 2, 0] rfl)
    · replace h := iff_ h c2
      refine lv_iconst (v := 0) hx hb dX4_isName_10 (by decide) ?_
      exact wr_z C hr (Or.inl rfl) hW h dX4_isName_11
theorem yd_X4_visits : yX4_visits.cls = RX4 ∧ yX4_visits.cls ≠ "java/lang/invoke/MethodHandle" ∧ yX4_visits.cls ≠ "java/lang/invoke/VarHandle" ∧ (parseMethodDescriptor yX4_visits.desc).map (fun d => d.parameters.length) = some 0 := by decide +kernel
set_option maxHeartbeats 4000000 in
set_option maxRecDepth 100000 in
theorem c_X4_visits (G : GG)  (M : Me) (y : Int32 × Me) (h : f_X4_visits  M = some y) : CI G yX4_visits wsX4_visits (rmd 0 0 0) [.ref (ga G 72)] M y := by
  rw [f_X4_visits] at h
  refine co_o (by decide) rfl rfl (Nat.le_of_ble_eq_true rfl) (fun p e s m below meth c ls C hr hW hl => ?_)
  have hx := C.1
  have hb := C.2.1
  have hown := C.2.2.2.1
  have hts := C.2.2.2.2.1
  have inX4 : ∀ w ∈ wsX40, w ∈ wsX4_visits := by decide +kernel
  have hL166 := hts (.fieldLink RX4 166 "TrustedUpdates" "latestVisits" "I") (by decide +kernel)
  have hl : lv_has ls 1 [(0, .ref (ga G 72))] := hl
  refine lv_aload_n hx hb dX4_visits_0 rfl (lv_at hl 0 rfl) ?_
  refine wg_i C hW (k := 72) (ci := 4) (j := 5) k72 rfl ⟨by decide, rfl⟩ inX4 (by decide) (rfq k72 rfl) (v := (M 72 5)) rfl hL166 (fun _ h9 => h9) dX4_visits_1 ?_
  exact wr_i C hr hW h dX4_visits_4
theorem yd_X4_installed : yX4_installed.cls = RX4 ∧ yX4_installed.cls ≠ "java/lang/invoke/MethodHandle" ∧ yX4_installed.cls ≠ "java/lang/invoke/VarHandle" ∧ (parseMethodDescriptor yX4_installed.desc).map (fun d => d.parameters.length) = some 0 := by decide +kernel
set_option maxHeartbeats 4000000 in
set_option maxRecDepth 100000 in
theorem c_X4_installed (G : GG)  (M : Me) (y : Int32 × Me) (h : f_X4_installed  M = some y) : CI G yX4_installed wsX4_installed (rmd 0 0 0) [.ref (ga G 72)] M y := by
  rw [f_X4_installed] at h
  refine co_o (by decide) rfl rfl (Nat.le_of_ble_eq_true rfl) (fun p e s m below meth c ls C hr hW hl => ?_)
  have hx := C.1
  have hb := C.2.1
  have hown := C.2.2.2.1
  have hts := C.2.2.2.2.1
  have inX4 : ∀ w ∈ wsX40, w ∈ wsX4_installed := by decide +kernel
  have hL177 := hts (.fieldLink RX4 177 "TrustedUpdates" "installs" "I") (by decide +kernel)
  have hl : lv_has ls 1 [(0, .ref (ga G 72))] := hl
  refine lv_aload_n hx hb dX4_installed_0 rfl (lv_at hl 0 rfl) ?_
  refine wg_i C hW (k := 72) (ci := 4) (j := 6) k72 rfl ⟨by decide, rfl⟩ inX4 (by decide) (rfq k72 rfl) (v := (M 72 6)) rfl hL177 (fun _ h9 => h9) dX4_installed_1 ?_
  exact wr_i C hr hW h dX4_installed_4
