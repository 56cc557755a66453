theorem yd_X0_isWhole : yX0_isWhole.cls = RX0 ∧ yX0_isWhole.cls ≠ "java/lang/invoke/MethodHandle" ∧ yX0_isWhole.cls ≠ "java/lang/invoke/VarHandle" ∧ (parseMethodDescriptor yX0_isWhole.desc).map (fun d => d.parameters.length) = some 0 := by decide +kernel
set_option maxHeartbeats 4000000 in
set_option maxRecDepth 100000 in
theorem c_X0_isWhole (G : GG) (k : Nat) (hk : isK k 0) (M : Me) (y : Int32 × Me) (h : f_X0_isWhole k M = some y) : CI G yX0_isWhole wsX0_isWhole (rmd 0 0 0) [.ref (ga G k)] M y := by
  rw [f_X0_isWhole] at h
  refine co_o (by decide) rfl rfl (Nat.le_of_ble_eq_true rfl) (fun p e s m below meth c ls C hr hW hl => ?_)
  have hx := C.1
  have hb := C.2.1
  have hown := C.2.2.2.1
  have hts := C.2.2.2.2.1
  have inX0 : ∀ w ∈ wsX00, w ∈ wsX0_isWhole := by decide +kernel
  have hL33 := hts (.fieldLink RX0 33 "TrustedUpdates$Document" "whole" "Z") (by decide +kernel)
  have hl : lv_has ls 1 [(0, .ref (ga G k))] := hl
  refine lv_aload_n hx hb dX0_isWhole_0 rfl (lv_at hl 0 rfl) ?_
  refine wg_i C hW (k := k) (ci := 0) (j := 8) hk rfl ⟨by decide, rfl⟩ inX0 (by decide) (rfq hk rfl) (v := (M k 8)) rfl hL33 (fun _ h9 => h9) dX0_isWhole_1 ?_
  obtain ⟨hg1, h⟩ := ifg h
  exact wr_z C hr (bB_or hg1) hW h dX0_isWhole_4
theorem yd_X0_isBare : yX0_isBare.cls = RX0 ∧ yX0_isBare.cls ≠ "java/lang/invoke/MethodHandle" ∧ yX0_isBare.cls ≠ "java/lang/invoke/VarHandle" ∧ (parseMethodDescriptor yX0_isBare.desc).map (fun d => d.parameters.length) = some 0 := by decide +kernel
set_option maxHeartbeats 4000000 in
set_option maxRecDepth 100000 in
theorem c_X0_isBare (G : GG) (k : Nat) (hk : isK k 0) (M : Me) (y : Int32 × Me) (h : f_X0_isBare k M = some y) : CI G yX0_isBare wsX0_isBare (rmd 0 0 0) [.ref (ga G k)] M y := by
  rw [f_X0_isBare] at h
  refine co_o (by decide) rfl rfl (Nat.le_of_ble_eq_true rfl) (fun p e s m below meth c ls C hr hW hl => ?_)
  have hx := C.1
  have hb := C.2.1
  have hown := C.2.2.2.1
  have hts := C.2.2.2.2.1
  have inX0 : ∀ w ∈ wsX00, w ∈ wsX0_isBare := by decide +kernel
  have hL37 := hts (.fieldLink RX0 37 "TrustedUpdates$Document" "bare" "Z") (by decide +kernel)
  have hl : lv_has ls 1 [(0, .ref (ga G k))] := hl
  refine lv_aload_n hx hb dX0_isBare_0 rfl (lv_at hl 0 rfl) ?_
  refine wg_i C hW (k := k) (ci := 0) (j := 7) hk rfl ⟨by decide, rfl⟩ inX0 (by decide) (rfq hk rfl) (v := (M k 7)) rfl hL37 (fun _ h9 => h9) dX0_isBare_1 ?_
  obtain ⟨hg1, h⟩ := ifg h
  exact wr_z C hr (bB_or hg1) hW h dX0_isBare_4
theorem yd_X0_row : yX0_row.cls = RX0 ∧ yX0_row.cls ≠ "java/lang/invoke/MethodHandle" ∧ yX0_row.cls ≠ "java/lang/invoke/VarHandle" ∧ (parseMethodDescriptor yX0_row.desc).map (fun d => d.parameters.length) = some 0 := by decide +kernel
set_option maxHeartbeats 4000000 in
set_option maxRecDepth 100000 in
theorem c_X0_row (G : GG) (k : Nat) (hk : isK k 0) (M : Me) (y : Nat × Me) (h : f_X0_row k M = some y) : CR G yX0_row wsX0_row (rmd 0 0 0) [.ref (ga G k)] M y := by
  rw [f_X0_row] at h
  refine co_o (by decide) rfl rfl (Nat.le_of_ble_eq_true rfl) (fun p e s m below meth c ls C hr hW hl => ?_)
  have hx := C.1
  have hb := C.2.1
  have hown := C.2.2.2.1
  have hts := C.2.2.2.2.1
  have inX0 : ∀ w ∈ wsX00, w ∈ wsX0_row := by decide +kernel
  have hL14 := hts (.fieldLink RX0 14 "TrustedUpdates$Document" "row" "LTrustedUpdates$Row;") (by decide +kernel)
  have hl : lv_has ls 1 [(0, .ref (ga G k))] := hl
  refine lv_aload_n hx hb dX0_row_0 rfl (lv_at hl 0 rfl) ?_
  refine wg_r C hW (k := k) (ci := 0) (j := 0) (q := (k + 1)) hk rfl ⟨by decide, rfl⟩ inX0 (by decide) (rfq hk rfl) hL14 (fun _ h9 => h9) dX0_row_1 ?_
  exact wr_r C hr (Or.inl ⟨_, rfl⟩) hW h dX0_row_4
theorem yd_X0_role : yX0_role.cls = RX0 ∧ yX0_role.cls ≠ "java/lang/invoke/MethodHandle" ∧ yX0_role.cls ≠ "java/lang/invoke/VarHandle" ∧ (parseMethodDescriptor yX0_role.desc).map (fun d => d.parameters.length) = some 0 := by decide +kernel
set_option maxHeartbeats 4000000 in
set_option maxRecDepth 100000 in
theorem c_X0_role (G : GG) (k : Nat) (hk : isK k 0) (M : Me) (y : Int32 × Me) (h : f_X0_role k M = some y) : CI G yX0_role wsX0_role (rmd 0 0 0) [.ref (ga G k)] M y := by
  rw [f_X0_role] at h
  refine co_o (by decide) rfl rfl (Nat.le_of_ble_eq_true rfl) (fun p e s m below meth c ls C hr hW hl => ?_)
  have hx := C.1
  have hb := C.2.1
  have hown := C.2.2.2.1
  have hts := C.2.2.2.2.1
  have inX0 : ∀ w ∈ wsX00, w ∈ wsX0_role := by decide +kernel
  have hL40 := hts (.fieldLink RX0 40 "TrustedUpdates$Document" "role" "I") (by decide +kernel)
  have hl : lv_has ls 1 [(0, .ref (ga G k))] := hl
  refine lv_aload_n hx hb dX0_role_0 rfl (lv_at hl 0 rfl) ?_
  refine wg_i C hW (k := k) (ci := 0) (j := 9) hk rfl ⟨by decide, rfl⟩ inX0 (by decide) (rfq hk rfl) (v := (M k 9)) rfl hL40 (fun _ h9 => h9) dX0_role_1 ?_
  exact wr_i C hr hW h dX0_role_4
theorem yd_X0_version : yX0_version.cls = RX0 ∧ yX0_version.cls ≠ "java/lang/invoke/MethodHandle" ∧ yX0_version.cls ≠ "java/lang/invoke/VarHandle" ∧ (parseMethodDescriptor yX0_version.desc).map (fun d => d.parameters.length) = some 0 := by decide +kernel
set_option maxHeartbeats 4000000 in
set_option maxRecDepth 100000 in
theorem c_X0_version (G : GG) (k : Nat) (hk : isK k 0) (M : Me) (y : Int32 × Me) (h : f_X0_version k M = some y) : CI G yX0_version wsX0_version (rmd 0 0 0) [.ref (ga G k)] M y := by
  rw [f_X0_version] at h
  refine co_o (by decide) rfl rfl (Nat.le_of_ble_eq_true rfl) (fun p e s m below meth c ls C hr hW hl => ?_)
  have hx := C.1
  have hb := C.2.1
  have hown := C.2.2.2.1
  have hts := C.2.2.2.2.1
  have inX0 : ∀ w ∈ wsX00, w ∈ wsX0_version := by decide +kernel
  have hL44 := hts (.fieldLink RX0 44 "TrustedUpdates$Document" "version" "I") (by decide +kernel)
  have hl : lv_has ls 1 [(0, .ref (ga G k))] := hl
  refine lv_aload_n hx hb dX0_version_0 rfl (lv_at hl 0 rfl) ?_
  refine wg_i C hW (k := k) (ci := 0) (j := 10) hk rfl ⟨by decide, rfl⟩ inX0 (by decide) (rfq hk rfl) (v := (M k 10)) rfl hL44 (fun _ h9 => h9) dX0_version_1 ?_
  exact wr_i C hr hW h dX0_version_4
theorem yd_X0_end : yX0_end.cls = RX0 ∧ yX0_end.cls ≠ "java/lang/invoke/MethodHandle" ∧ yX0_end.cls ≠ "java/lang/invoke/VarHandle" ∧ (parseMethodDescriptor yX0_end.desc).map (fun d => d.parameters.length) = some 0 := by decide +kernel
set_option maxHeartbeats 4000000 in
set_option maxRecDepth 100000 in
theorem c_X0_end (G : GG) (k : Nat) (hk : isK k 0) (M : Me) (y : Int32 × Me) (h : f_X0_end k M = some y) : CI G yX0_end wsX0_end (rmd 0 0 0) [.ref (ga G k)] M y := by
  rw [f_X0_end] at h
  refine co_o (by decide) rfl rfl (Nat.le_of_ble_eq_true rfl) (fun p e s m below meth c ls C hr hW hl => ?_)
  have hx := C.1
  have hb := C.2.1
  have hown := C.2.2.2.1
  have hts := C.2.2.2.2.1
  have inX0 : ∀ w ∈ wsX00, w ∈ wsX0_end := by decide +kernel
  have hL47 := hts (.fieldLink RX0 47 "TrustedUpdates$Document" "end" "I") (by decide +kernel)
  have hl : lv_has ls 1 [(0, .ref (ga G k))] := hl
  refine lv_aload_n hx hb dX0_end_0 rfl (lv_at hl 0 rfl) ?_
  refine wg_i C hW (k := k) (ci := 0) (j := 11) hk rfl ⟨by decide, rfl⟩ inX0 (by decide) (rfq hk rfl) (v := (M k 11)) rfl hL47 (fun _ h9 => h9) dX0_end_1 ?_
  exact wr_i C hr hW h dX0_end_4
theorem yd_X0_signedSize : yX0_signedSize.cls = RX0 ∧ yX0_signedSize.cls ≠ "java/lang/invoke/MethodHandle" ∧ yX0_signedSize.cls ≠ "java/lang/invoke/VarHandle" ∧ (parseMethodDescriptor yX0_signedSize.desc).map (fun d => d.parameters.length) = some 0 := by decide +kernel
set_option maxHeartbeats 4000000 in
set_option maxRecDepth 100000 in
theorem c_X0_signedSize (G : GG) (k : Nat) (hk : isK k 0) (M : Me) (y : Int32 × Me) (h : f_X0_signedSize k M = some y) : CI G yX0_signedSize wsX0_signedSize (rmd 0 0 0) [.ref (ga G k)] M y := by
  rw [f_X0_signedSize] at h
  refine co_o (by decide) rfl rfl (Nat.le_of_ble_eq_true rfl) (fun p e s m below meth c ls C hr hW hl => ?_)
  have hx := C.1
  have hb := C.2.1
  have hown := C.2.2.2.1
  have hts := C.2.2.2.2.1
  have inX0 : ∀ w ∈ wsX00, w ∈ wsX0_signedSize := by decide +kernel
  have hL50 := hts (.fieldLink RX0 50 "TrustedUpdates$Document" "signedSize" "I") (by decide +kernel)
  have hl : lv_has ls 1 [(0, .ref (ga G k))] := hl
  refine lv_aload_n hx hb dX0_signedSize_0 rfl (lv_at hl 0 rfl) ?_
  refine wg_i C hW (k := k) (ci := 0) (j := 14) hk rfl ⟨by decide, rfl⟩ inX0 (by decide) (rfq hk rfl) (v := (M k 14)) rfl hL50 (fun _ h9 => h9) dX0_signedSize_1 ?_
  exact wr_i C hr hW h dX0_signedSize_4
theorem yd_X0_signatureCount : yX0_signatureCount.cls = RX0 ∧ yX0_signatureCount.cls ≠ "java/lang/invoke/MethodHandle" ∧ yX0_signatureCount.cls ≠ "java/lang/invoke/VarHandle" ∧ (parseMethodDescriptor yX0_signatureCount.desc).map (fun d => d.parameters.length) = some 0 := by decide +kernel
set_option maxHeartbeats 4000000 in
set_option maxRecDepth 100000 in
theorem c_X0_signatureCount (G : GG) (k : Nat) (hk : isK k 0) (M : Me) (y : Int32 × Me) (h : f_X0_signatureCount k M = some y) : CI G yX0_signatureCount wsX0_signatureCount (rmd 1 0 0) [.ref (ga G k)] M y := by
  rw [f_X0_signatureCount] at h
  refine co_o (by decide) rfl rfl (Nat.le_of_ble_eq_true rfl) (fun p e s m below meth c ls C hr hW hl => ?_)
  have hx := C.1
  have hb := C.2.1
  have hown := C.2.2.2.1
  have hts := C.2.2.2.2.1
  have inX0 : ∀ w ∈ wsX00, w ∈ wsX0_signatureCount := by decide +kernel
  have hL14 := hts (.fieldLink RX0 14 "TrustedUpdates$Document" "row" "LTrustedUpdates$Row;") (by decide +kernel)
  have hL50 := hts (.fieldLink RX0 50 "TrustedUpdates$Document" "signedSize" "I") (by decide +kernel)
  have hl : lv_has ls 1 [(0, .ref (ga G k))] := hl
  refine lv_aload_n hx hb dX0_signatureCount_0 rfl (lv_at hl 0 rfl) ?_
  refine wg_r C hW (k := k) (ci := 0) (j := 0) (q := (k + 1)) hk rfl ⟨by decide, rfl⟩ inX0 (by decide) (rfq hk rfl) hL14 (fun _ h9 => h9) dX0_signatureCount_1 ?_
  refine lv_aload_n hx hb dX0_signatureCount_4 rfl (lv_at hl 0 rfl) ?_
  refine wg_i C hW (k := k) (ci := 0) (j := 14) hk rfl ⟨by decide, rfl⟩ inX0 (by decide) (rfq hk rfl) (v := (M k 14)) rfl hL50 (fun _ h9 => h9) dX0_signatureCount_5 ?_
  obtain ⟨q1, hq1, h⟩ := ob h
  refine wc_Vi C hW (k := (k + 1)) (As := [.int (M k 14)]) (rest := []) (c_X1_byteAt G (k + 1) (kd_r hk) (M k 14) M q1 hq1) (kd_r hk) rfl (by decide) (cwV 1 hts gX0_signatureCount_X1_byteAt rfl rfl rfl yd_X1_byteAt ⟨Nat.le_of_ble_eq_true rfl, Nat.le_of_ble_eq_true rfl⟩) rfl hl.1 rfl (Nat.le_of_ble_eq_true rfl) dX0_signatureCount_8 ⟨Nat.le_refl 0, Nat.le_refl 0⟩ (fun H locs hW => ?_)
  exact wr_i C hr hW h dX0_signatureCount_11
theorem yd_X0_clear : yX0_clear.cls = RX0 ∧ yX0_clear.cls ≠ "java/lang/invoke/MethodHandle" ∧ yX0_clear.cls ≠ "java/lang/invoke/VarHandle" ∧ (parseMethodDescriptor yX0_clear.desc).map (fun d => d.parameters.length) = some 0 := by decide +kernel
set_option maxHeartbeats 4000000 in
set_option maxRecDepth 100000 in
theorem c_X0_clear (G : GG) (k : Nat) (hk : isK k 0) (M : Me) (y : Int32 × Me) (h : f_X0_clear k M = some y) : CV G yX0_clear wsX0_clear (rmd 0 0 0) [.ref (ga G k)] M y := by
  rw [f_X0_clear] at h
  refine co_o (by decide) rfl rfl (Nat.le_of_ble_eq_true rfl) (fun p e s m below meth c ls C hr hW hl => ?_)
  have hx := C.1
  have hb := C.2.1
  have hown := C.2.2.2.1
  have hts := C.2.2.2.2.1
  have inX0 : ∀ w ∈ wsX00, w ∈ wsX0_clear := by decide +kernel
  have hL33 := hts (.fieldLink RX0 33 "TrustedUpdates$Document" "whole" "Z") (by decide +kernel)
  have hl : lv_has ls 1 [(0, .ref (ga G k))] := hl
  refine lv_aload_n hx hb dX0_clear_0 rfl (lv_at hl 0 rfl) ?_
  refine lv_iconst (v := 0) hx hb dX0_clear_1 (by decide) ?_
  refine wp_t C hW (k := k) (ci := 0) (j := 8) (ty := .boolean) (nar_b (Or.inl rfl)).1 (nar_b (Or.inl rfl)).2 hk rfl ⟨by decide, rfl⟩ inX0 tyX0 tyX0_ok nmX0 (by decide) (rfq hk rfl) hL33 (fun _ h9 => h9) rfl rfl dX0_clear_2 (fun H locs hW => ?_)
  exact wr_v C hr hW h dX0_clear_5
theorem yd_X0_next : yX0_next.cls = RX0 ∧ yX0_next.cls ≠ "java/lang/invoke/MethodHandle" ∧ yX0_next.cls ≠ "java/lang/invoke/VarHandle" ∧ (parseMethodDescriptor yX0_next.desc).map (fun d => d.parameters.length) = some 2 := by decide +kernel
set_option maxHeartbeats 4000000 in
set_option maxRecDepth 100000 in
theorem c_X0_next (G : GG) (k : Nat) (hk : isK k 0) (a1 : Int32) (a2 : Int32) (M : Me) (y : Int32 × Me) (h : f_X0_next k a1 a2 M = some y) : CI G yX0_next wsX0_next (rmd 1 0 0) [.ref (ga G k), .int a1, .int a2] M y := by
  rw [f_X0_next] at h
  refine co_o (by decide) rfl rfl (Nat.le_of_ble_eq_true rfl) (fun p e s m below meth c ls C hr hW hl => ?_)
  have hx := C.1
  have hb := C.2.1
  have hown := C.2.2.2.1
  have hts := C.2.2.2.2.1
  have inX0 : ∀ w ∈ wsX00, w ∈ wsX0_next := by decide +kernel
  have hL14 := hts (.fieldLink RX0 14 "TrustedUpdates$Document" "row" "LTrustedUpdates$Row;") (by decide +kernel)
  have hL61 := hts (.fieldLink RX0 61 "TrustedUpdates$Document" "place" "I") (by decide +kernel)
  have hL64 := hts (.fieldLink RX0 64 "TrustedUpdates$Document" "sound" "Z") (by decide +kernel)
  have hl : lv_has ls 4 [(0, .ref (ga G k)), (1, .int a1), (2, .int a2)] := hl
  refine lv_aload_n hx hb dX0_next_0 rfl (lv_at hl 0 rfl) ?_
  refine wg_r C hW (k := k) (ci := 0) (j := 0) (q := (k + 1)) hk rfl ⟨by decide, rfl⟩ inX0 (by decide) (rfq hk rfl) hL14 (fun _ h9 => h9) dX0_next_1 ?_
  refine lv_aload_n hx hb dX0_next_4 rfl (lv_at hl 0 rfl) ?_
  refine wg_i C hW (k := k) (ci := 0) (j := 5) hk rfl ⟨by decide, rfl⟩ inX0 (by decide) (rfq hk rfl) (v := (M k 5)) rfl hL61 (fun _ h9 => h9) dX0_next_5 ?_
  obtain ⟨q1, hq1, h⟩ := ob h
  refine wc_Vi C hW (k := (k + 1)) (As := [.int (M k 5)]) (rest := []) (c_X1_byteAt G (k + 1) (kd_r hk) (M k 5) M q1 hq1) (kd_r hk) rfl (by decide) (cwV 1 hts gX0_next_X1_byteAt rfl rfl rfl yd_X1_byteAt ⟨Nat.le_of_ble_eq_true rfl, Nat.le_of_ble_eq_true rfl⟩) rfl hl.1 rfl (Nat.le_of_ble_eq_true rfl) dX0_next_8 ⟨Nat.le_refl 0, Nat.le_refl 0⟩ (fun H locs hW => ?_)
  refine lv_istore_n (lv' := [(3, .int q1.1), (0, .ref (ga G k)), (1, .int a1), (2, .int a2)]) hx hb dX0_next_11 rfl hl (by decide) rfl (fun ls hl => ?_)
  refine lv_iload_n hx hb dX0_next_12 rfl (lv_at hl 0 rfl) ?_
  refine lv_iload_n hx hb dX0_next_13 rfl (lv_at hl 2 rfl) ?_
  refine lv_icmp_lt (tgt := 22) hx hb dX0_next_14 (by decide) (fun c1 => ?_) (fun c1 => ?_)
  · replace h := ift h c1
    refine lv_aload_n hx hb dX0_next_22 rfl (lv_at hl 1 rfl) ?_
    refine lv_iconst (v := 0) hx hb dX0_next_23 (by decide) ?_
    refine wp_t C hW (k := k) (ci := 0) (j := 6) (ty := .boolean) (nar_b (Or.inl rfl)).1 (nar_b (Or.inl rfl)).2 hk rfl ⟨by decide, rfl⟩ inX0 tyX0 tyX0_ok nmX0 (by decide) (rfq hk rfl) hL64 (fun _ h9 => h9) rfl rfl dX0_next_24 (fun H locs hW => ?_)
    refine lv_iload_n hx hb dX0_next_27 rfl (lv_at hl 2 rfl) ?_
    exact wr_i C hr hW h dX0_next_28
  · replace h := iff_ h c1
    refine lv_iload_n hx hb dX0_next_17 rfl (lv_at hl 0 rfl) ?_
    refine lv_iload_n hx hb dX0_next_18 rfl (lv_at hl 3 rfl) ?_
    refine lv_icmp_le (tgt := 29) hx hb dX0_next_19 (by decide) (fun c2 => ?_) (fun c2 => ?_)
    · replace h := ift h c2
      refine lv_aload_n hx hb dX0_next_29 rfl (lv_at hl 1 rfl) ?_
      refine lv_dup hx hb dX0_next_30 rfl ?_
      refine wg_i C hW (k := k) (ci := 0) (j := 5) hk rfl ⟨by decide, rfl⟩ inX0 (by decide) (rfq hk rfl) (v := (q1.2 k 5)) rfl hL61 (fun _ h9 => h9) dX0_next_31 ?_
      refine lv_iconst (v := 1) hx hb dX0_next_34 (by decide) ?_
      refine lv_iadd hx hb dX0_next_35 ?_
      refine wp_t C hW (k := k) (ci := 0) (j := 5) (ty := .int) rfl rfl hk rfl ⟨by decide, rfl⟩ inX0 tyX0 tyX0_ok nmX0 (by decide) (rfq hk rfl) hL61 (fun _ h9 => h9) rfl rfl dX0_next_36 (fun H locs hW => ?_)
      refine lv_iload_n hx hb dX0_next_39 rfl (lv_at hl 0 rfl) ?_
      exact wr_i C hr hW h dX0_next_40
    · replace h := iff_ h c2
      refine lv_aload_n hx hb dX0_next_22 rfl (lv_at hl 1 rfl) ?_
      refine lv_iconst (v := 0) hx hb dX0_next_23 (by decide) ?_
      refine wp_t C hW (k := k) (ci := 0) (j := 6) (ty := .boolean) (nar_b (Or.inl rfl)).1 (nar_b (Or.inl rfl)).2 hk rfl ⟨by decide, rfl⟩ inX0 tyX0 tyX0_ok nmX0 (by decide) (rfq hk rfl) hL64 (fun _ h9 => h9) rfl rfl dX0_next_24 (fun H locs hW => ?_)
      refine lv_iload_n hx hb dX0_next_27 rfl (lv_at hl 2 rfl) ?_
      exact wr_i C hr hW h dX0_next_28
theorem yd_X0_readKeySet : yX0_readKeySet.cls = RX0 ∧ yX0_readKeySet.cls ≠ "java/lang/invoke/MethodHandle" ∧ yX0_readKeySet.cls ≠ "java/lang/invoke/VarHandle" ∧ (parseMethodDescriptor yX0_readKeySet.desc).map (fun d => d.parameters.length) = some 0 := by decide +kernel
set_option maxHeartbeats 4000000 in
set_option maxRecDepth 100000 in
theorem L_X0_readKeySet_19 {G : GG} {p : Program} {e : Env} {s : State} {m : MethodId} {args : Array Value} {below : List Frame} {meth : Method} {c : Code} {Q : State → Prop} (C : Cx G wsX0_readKeySet RX0 cX0_readKeySet 5 p s m args meth c) : ∀ (n : Nat) (k0 : Nat) (hk0 : isK k0 0) (x2 : Int32) (x3 : Int32) (x4 : Int32) (M : Me) (y : Int32 × Me) (H : Heap) (locs : List Loc) (ls : Array Slot), fL_X0_readKeySet_19 n k0 x2 x3 x4 M = some y → wH G s M H locs → lv_has ls 5 [(0, .ref (ga G k0)), (2, .int x2), (3, .int x3), (4, .int x4)] → (∀ (H : Heap) (locs : List Loc) (ls : Array Slot), wH G s y.2 H locs → lv_has ls 5 [] → W p (gl G) e (rmd 2 0 0) s m args below meth c H locs 0 0 Q (F0 m 41 ls [])) → W p (gl G) e (rmd 2 0 0) s m args below meth c H locs 0 0 Q (F0 m 19 ls []) := by
  have hx := C.1
  have hb := C.2.1
  have hown := C.2.2.2.1
  have hts := C.2.2.2.2.1
  intro n
  induction n with
  | zero => intro k0 hk0 x2 x3 x4 M y H locs ls h; exact nso h
  | succ n ih =>
    intro k0 hk0 x2 x3 x4 M y H locs ls h hW hl kx
    rw [fL_X0_readKeySet_19] at h
    refine lv_iload hx hb dX0_readKeySet_19 (lv_at hl 3 rfl) ?_
    refine lv_iload_n hx hb dX0_readKeySet_21 rfl (lv_at hl 1 rfl) ?_
    refine lv_icmp_ge (tgt := 41) hx hb dX0_readKeySet_22 (by decide) (fun c1 => ?_) (fun c1 => ?_)
    · replace h := ift h c1
      cases h
      exact kx _ _ ls hW (lv_sub hl [] rfl)
    · replace h := iff_ h c1
      refine lv_aload_n hx hb dX0_readKeySet_25 rfl (lv_at hl 0 rfl) ?_
      refine lv_iload_n hx hb dX0_readKeySet_26 rfl (lv_at hl 2 rfl) ?_
      refine lv_bipush (v := 9) hx hb dX0_readKeySet_27 (by decide) ?_
      obtain ⟨q3, hq3, h⟩ := ob h
      refine wc_Vi C hW (k := k0) (As := [.int x3, .int 9]) (rest := []) (c_X0_next G k0 hk0 x3 9 M q3 hq3) hk0 rfl (by decide) (cwV 2 hts gX0_readKeySet_X0_next rfl rfl rfl yd_X0_next ⟨Nat.le_of_ble_eq_true rfl, Nat.le_of_ble_eq_true rfl⟩) rfl hl.1 rfl (Nat.le_of_ble_eq_true rfl) dX0_readKeySet_29 ⟨Nat.le_refl 0, Nat.le_refl 0⟩ (fun H locs hW => ?_)
      refine lv_iconst (v := 1) hx hb dX0_readKeySet_32 (by decide) ?_
      refine lv_iadd hx hb dX0_readKeySet_33 ?_
      refine lv_istore_n (lv' := [(3, .int (q3.1 + 1)), (0, .ref (ga G k0)), (2, .int x2), (4, .int x4)]) hx hb dX0_readKeySet_34 rfl hl (by decide) rfl (fun ls hl => ?_)
      refine lv_iinc (v := (x4 + 1)) (lv' := [(4, .int (x4 + 1)), (3, .int (q3.1 + 1)), (0, .ref (ga G k0)), (2, .int x2)]) hx hb dX0_readKeySet_35 hl (k := 3) rfl rfl (by decide) rfl (fun ls hl => ?_)
      refine lv_goto (tgt := 19) hx hb dX0_readKeySet_38 (by decide) ?_
      exact ih k0 hk0 x2 (q3.1 + 1) (x4 + 1) q3.2 y _ _ ls h hW (lv_sub hl [2, 3, 1, 0] rfl) kx
set_option maxHeartbeats 4000000 in
set_option maxRecDepth 100000 in
theorem c_X0_readKeySet (G : GG) (k : Nat) (hk : isK k 0) (M : Me) (y : Int32 × Me) (h : f_X0_readKeySet k M = some y) : CV G yX0_readKeySet wsX0_readKeySet (rmd 2 0 0) [.ref (ga G k)] M y := by
  rw [f_X0_readKeySet] at h
  refine co_o (by decide) rfl rfl (Nat.le_of_ble_eq_true rfl) (fun p e s m below meth c ls C hr hW hl => ?_)
  have hx := C.1
  have hb := C.2.1
  have hown := C.2.2.2.1
  have hts := C.2.2.2.2.1
  have hl : lv_has ls 5 [(0, .ref (ga G k))] := hl
  refine lv_aload_n hx hb dX0_readKeySet_0 rfl (lv_at hl 0 rfl) ?_
  refine lv_iconst (v := 1) hx hb dX0_readKeySet_1 (by decide) ?_
  refine lv_iconst (v := 4) hx hb dX0_readKeySet_2 (by decide) ?_
  obtain ⟨q1, hq1, h⟩ := ob h
  refine wc_Vi C hW (k := k) (As := [.int 1, .int 4]) (rest := []) (c_X0_next G k hk 1 4 M q1 hq1) hk rfl (by decide) (cwV 2 hts gX0_readKeySet_X0_next rfl rfl rfl yd_X0_next ⟨Nat.le_of_ble_eq_true rfl, Nat.le_of_ble_eq_true rfl⟩) rfl hl.1 rfl (Nat.le_of_ble_eq_true rfl) dX0_readKeySet_3 ⟨Nat.le_refl 0, Nat.le_refl 0⟩ (fun H locs hW => ?_)
  refine lv_istore_n (lv' := [(1, .int q1.1), (0, .ref (ga G k))]) hx hb dX0_readKeySet_6 rfl hl (by decide) rfl (fun ls hl => ?_)
  refine lv_aload_n hx hb dX0_readKeySet_7 rfl (lv_at hl 1 rfl) ?_
  refine lv_iload_n hx hb dX0_readKeySet_8 rfl (lv_at hl 0 rfl) ?_
  refine lv_iconst (v := 4) hx hb dX0_readKeySet_9 (by decide) ?_
  obtain ⟨q2, hq2, h⟩ := ob h
  refine wc_Vi C hW (k := k) (As := [.int q1.1, .int 4]) (rest := []) (c_X0_next G k hk q1.1 4 q1.2 q2 hq2) hk rfl (by decide) (cwV 2 hts gX0_readKeySet_X0_next rfl rfl rfl yd_X0_next ⟨Nat.le_of_ble_eq_true rfl, Nat.le_of_ble_eq_true rfl⟩) rfl hl.1 rfl (Nat.le_of_ble_eq_true rfl) dX0_readKeySet_10 ⟨Nat.le_refl 0, Nat.le_refl 0⟩ (fun H locs hW => ?_)
  refine lv_istore_n (lv' := [(2, .int q2.1), (1, .int q1.1), (0, .ref (ga G k))]) hx hb dX0_readKeySet_13 rfl hl (by decide) rfl (fun ls hl => ?_)
  refine lv_iconst (v := 0) hx hb dX0_readKeySet_14 (by decide) ?_
  refine lv_istore_n (lv' := [(3, .int 0), (2, .int q2.1), (1, .int q1.1), (0, .ref (ga G k))]) hx hb dX0_readKeySet_15 rfl hl (by decide) rfl (fun ls hl => ?_)
  refine lv_iconst (v := 0) hx hb dX0_readKeySet_16 (by decide) ?_
  refine lv_istore (lv' := [(4, .int 0), (3, .int 0), (2, .int q2.1), (1, .int q1.1), (0, .ref (ga G k))]) hx hb dX0_readKeySet_17 hl (by decide) rfl (fun ls hl => ?_)
  obtain ⟨q4, hq4, h⟩ := ob h
  refine L_X0_readKeySet_19 C 200 k hk q2.1 0 0 q2.2 q4 _ _ ls hq4 hW (lv_sub hl [4, 2, 1, 0] rfl) (fun H locs ls hW hl => ?_)
  exact wr_v C hr hW h dX0_readKeySet_41
theorem yd_X0_readRootKeySets : yX0_readRootKeySets.cls = RX0 ∧ yX0_readRootKeySets.cls ≠ "java/lang/invoke/MethodHandle" ∧ yX0_readRootKeySets.cls ≠ "java/lang/invoke/VarHandle" ∧ (parseMethodDescriptor yX0_readRootKeySets.desc).map (fun d => d.parameters.length) = some 0 := by decide +kernel
set_option maxHeartbeats 4000000 in
set_option maxRecDepth 100000 in
theorem L_X0_readRootKeySets_2 {G : GG} {p : Program} {e : Env} {s : State} {m : MethodId} {args : Array Value} {below : List Frame} {meth : Method} {c : Code} {Q : State → Prop} (C : Cx G wsX0_readRootKeySets RX0 cX0_readRootKeySets 2 p s m args meth c) : ∀ (n : Nat) (k0 : Nat) (hk0 : isK k0 0) (x1 : Int32) (M : Me) (y : Int32 × Me) (H : Heap) (locs : List Loc) (ls : Array Slot), fL_X0_readRootKeySets_2 n k0 x1 M = some y → wH G s M H locs → lv_has ls 2 [(0, .ref (ga G k0)), (1, .int x1)] → (∀ (H : Heap) (locs : List Loc) (ls : Array Slot), wH G s y.2 H locs → lv_has ls 2 [] → W p (gl G) e (rmd 3 0 0) s m args below meth c H locs 0 0 Q (F0 m 27 ls [])) → W p (gl G) e (rmd 3 0 0) s m args below meth c H locs 0 0 Q (F0 m 2 ls []) := by
  have hx := C.1
  have hb := C.2.1
  have hown := C.2.2.2.1
  have hts := C.2.2.2.2.1
  have inX0 : ∀ w ∈ wsX00, w ∈ wsX0_readRootKeySets := by decide +kernel
  have hL20 := hts (.fieldLink RX0 20 "TrustedUpdates$Document" "keySets" "[I") (by decide +kernel)
  have hL61 := hts (.fieldLink RX0 61 "TrustedUpdates$Document" "place" "I") (by decide +kernel)
  intro n
  induction n with
  | zero => intro k0 hk0 x1 M y H locs ls h; exact nso h
  | succ n ih =>
    intro k0 hk0 x1 M y H locs ls h hW hl kx
    rw [fL_X0_readRootKeySets_2] at h
    refine lv_iload_n hx hb dX0_readRootKeySets_2 rfl (lv_at hl 1 rfl) ?_
    refine lv_iconst (v := 4) hx hb dX0_readRootKeySets_3 (by decide) ?_
    refine lv_icmp_ge (tgt := 27) hx hb dX0_readRootKeySets_4 (by decide) (fun c1 => ?_) (fun c1 => ?_)
    · replace h := ift h c1
      cases h
      exact kx _ _ ls hW (lv_sub hl [] rfl)
    · replace h := iff_ h c1
      refine lv_aload_n hx hb dX0_readRootKeySets_7 rfl (lv_at hl 0 rfl) ?_
      refine wg_r C hW (k := k0) (ci := 0) (j := 1) (q := (k0 + 3)) hk0 rfl ⟨by decide, rfl⟩ inX0 (by decide) (rfq hk0 rfl) hL20 (fun _ h9 => h9) dX0_readRootKeySets_8 ?_
      refine lv_iload_n hx hb dX0_readRootKeySets_11 rfl (lv_at hl 1 rfl) ?_
      refine lv_aload_n hx hb dX0_readRootKeySets_12 rfl (lv_at hl 0 rfl) ?_
      refine wg_i C hW (k := k0) (ci := 0) (j := 5) hk0 rfl ⟨by decide, rfl⟩ inX0 (by decide) (rfq hk0 rfl) (v := (M k0 5)) rfl hL61 (fun _ h9 => h9) dX0_readRootKeySets_13 ?_
      obtain ⟨hg1, h⟩ := ifg h
      refine wa_s C hW (k := (k0 + 3)) (kd_a3 hk0) hg1 dX0_readRootKeySets_16 (fun H locs hW => ?_)
      refine lv_aload_n hx hb dX0_readRootKeySets_17 rfl (lv_at hl 0 rfl) ?_
      obtain ⟨q1, hq1, h⟩ := ob h
      refine wc_Vv C hW (k := k0) (As := []) (rest := []) (c_X0_readKeySet G k0 hk0 (up M (k0 + 3) x1.toNatClampNeg (M k0 5)) q1 hq1) hk0 rfl (by decide) (cwV 0 hts gX0_readRootKeySets_X0_readKeySet rfl rfl rfl yd_X0_readKeySet ⟨Nat.le_of_ble_eq_true rfl, Nat.le_of_ble_eq_true rfl⟩) rfl hl.1 rfl (Nat.le_of_ble_eq_true rfl) dX0_readRootKeySets_18 ⟨Nat.le_refl 0, Nat.le_refl 0⟩ (fun H locs hW => ?_)
      refine lv_iinc (v := (x1 + 1)) (lv' := [(1, .int (x1 + 1)), (0, .ref (ga G k0))]) hx hb dX0_readRootKeySets_21 hl (k := 1) rfl rfl (by decide) rfl (fun ls hl => ?_)
      refine lv_goto (tgt := 2) hx hb dX0_readRootKeySets_24 (by decide) ?_
      exact ih k0 hk0 (x1 + 1) q1.2 y _ _ ls h hW (lv_sub hl [1, 0] rfl) kx
set_option maxHeartbeats 4000000 in
set_option maxRecDepth 100000 in
theorem c_X0_readRootKeySets (G : GG) (k : Nat) (hk : isK k 0) (M : Me) (y : Int32 × Me) (h : f_X0_readRootKeySets k M = some y) : CV G yX0_readRootKeySets wsX0_readRootKeySets (rmd 3 0 0) [.ref (ga G k)] M y := by
  rw [f_X0_readRootKeySets] at h
  refine co_o (by decide) rfl rfl (Nat.le_of_ble_eq_true rfl) (fun p e s m below meth c ls C hr hW hl => ?_)
  have hx := C.1
  have hb := C.2.1
  have hown := C.2.2.2.1
  have hts := C.2.2.2.2.1
  have hl : lv_has ls 2 [(0, .ref (ga G k))] := hl
  refine lv_iconst (v := 0) hx hb dX0_readRootKeySets_0 (by decide) ?_
  refine lv_istore_n (lv' := [(1, .int 0), (0, .ref (ga G k))]) hx hb dX0_readRootKeySets_1 rfl hl (by decide) rfl (fun ls hl => ?_)
  obtain ⟨q2, hq2, h⟩ := ob h
  refine L_X0_readRootKeySets_2 C 200 k hk 0 M q2 _ _ ls hq2 hW (lv_sub hl [1, 0] rfl) (fun H locs ls hW hl => ?_)
  exact wr_v C hr hW h dX0_readRootKeySets_27
theorem yd_X0_skip : yX0_skip.cls = RX0 ∧ yX0_skip.cls ≠ "java/lang/invoke/MethodHandle" ∧ yX0_skip.cls ≠ "java/lang/invoke/VarHandle" ∧ (parseMethodDescriptor yX0_skip.desc).map (fun d => d.parameters.length) = some 1 := by decide +kernel
set_option maxHeartbeats 4000000 in
set_option maxRecDepth 100000 in
theorem L_X0_skip_2 {G : GG} {p : Program} {e : Env} {s : State} {m : MethodId} {args : Array Value} {below : List Frame} {meth : Method} {c : Code} {Q : State → Prop} (C : Cx G wsX0_skip RX0 cX0_skip 3 p s m args meth c) : ∀ (n : Nat) (k0 : Nat) (hk0 : isK k0 0) (x1 : Int32) (x2 : Int32) (M : Me) (y : Int32 × Me) (H : Heap) (locs : List Loc) (ls : Array Slot), fL_X0_skip_2 n k0 x1 x2 M = some y → wH G s M H locs → lv_has ls 3 [(0, .ref (ga G k0)), (1, .int x1), (2, .int x2)] → (∀ (H : Heap) (locs : List Loc) (ls : Array Slot), wH G s y.2 H locs → lv_has ls 3 [] → W p (gl G) e (rmd 2 0 0) s m args below meth c H locs 0 0 Q (F0 m 22 ls [])) → W p (gl G) e (rmd 2 0 0) s m args below meth c H locs 0 0 Q (F0 m 2 ls []) := by
  have hx := C.1
  have hb := C.2.1
  have hown := C.2.2.2.1
  have hts := C.2.2.2.2.1
  intro n
  induction n with
  | zero => intro k0 hk0 x1 x2 M y H locs ls h; exact nso h
  | succ n ih =>
    intro k0 hk0 x1 x2 M y H locs ls h hW hl kx
    rw [fL_X0_skip_2] at h
    refine lv_iload_n hx hb dX0_skip_2 rfl (lv_at hl 2 rfl) ?_
    refine lv_iload_n hx hb dX0_skip_3 rfl (lv_at hl 1 rfl) ?_
    refine lv_icmp_ge (tgt := 22) hx hb dX0_skip_4 (by decide) (fun c1 => ?_) (fun c1 => ?_)
    · replace h := ift h c1
      cases h
      exact kx _ _ ls hW (lv_sub hl [] rfl)
    · replace h := iff_ h c1
      refine lv_aload_n hx hb dX0_skip_7 rfl (lv_at hl 0 rfl) ?_
      refine lv_iconst (v := 0) hx hb dX0_skip_8 (by decide) ?_
      refine lv_sipush (v := 255) hx hb dX0_skip_9 (by decide) ?_
      obtain ⟨q1, hq1, h⟩ := ob h
      refine wc_Vi C hW (k := k0) (As := [.int 0, .int 255]) (rest := []) (c_X0_next G k0 hk0 0 255 M q1 hq1) hk0 rfl (by decide) (cwV 2 hts gX0_skip_X0_next rfl rfl rfl yd_X0_next ⟨Nat.le_of_ble_eq_true rfl, Nat.le_of_ble_eq_true rfl⟩) rfl hl.1 rfl (Nat.le_of_ble_eq_true rfl) dX0_skip_12 ⟨Nat.le_refl 0, Nat.le_refl 0⟩ (fun H locs hW => ?_)
      refine lv_pop hx hb dX0_skip_15 rfl ?_
      refine lv_iinc (v := (x2 + 1)) (lv' := [(2, .int (x2 + 1)), (0, .ref (ga G k0)), (1, .int x1)]) hx hb dX0_skip_16 hl (k := 2) rfl rfl (by decide) rfl (fun ls hl => ?_)
      refine lv_goto (tgt := 2) hx hb dX0_skip_19 (by decide) ?_
      exact ih k0 hk0 x1 (x2 + 1) q1.2 y _ _ ls h hW (lv_sub hl [1, 2, 0] rfl) kx
set_option maxHeartbeats 4000000 in
set_option maxRecDepth 100000 in
theorem c_X0_skip (G : GG) (k : Nat) (hk : isK k 0) (a1 : Int32) (M : Me) (y : Int32 × Me) (h : f_X0_skip k a1 M = some y) : CV G yX0_skip wsX0_skip (rmd 2 0 0) [.ref (ga G k), .int a1] M y := by
  rw [f_X0_skip] at h
  refine co_o (by decide) rfl rfl (Nat.le_of_ble_eq_true rfl) (fun p e s m below meth c ls C hr hW hl => ?_)
  have hx := C.1
  have hb := C.2.1
  have hown := C.2.2.2.1
  have hts := C.2.2.2.2.1
  have hl : lv_has ls 3 [(0, .ref (ga G k)), (1, .int a1)] := hl
  refine lv_iconst (v := 0) hx hb dX0_skip_0 (by decide) ?_
  refine lv_istore_n (lv' := [(2, .int 0), (0, .ref (ga G k)), (1, .int a1)]) hx hb dX0_skip_1 rfl hl (by decide) rfl (fun ls hl => ?_)
  obtain ⟨q2, hq2, h⟩ := ob h
  refine L_X0_skip_2 C 200 k hk a1 0 M q2 _ _ ls hq2 hW (lv_sub hl [1, 2, 0] rfl) (fun H locs ls hW hl => ?_)
  exact wr_v C hr hW h dX0_skip_22
theorem yd_X0_readEntries : yX0_readEntries.cls = RX0 ∧ yX0_readEntries.cls ≠ "java/lang/invoke/MethodHandle" ∧ yX0_readEntries.cls ≠ "java/lang/invoke/VarHandle" ∧ (parseMethodDescriptor yX0_readEntries.desc).map (fun d => d.parameters.length) = some 0 := by decide +kernel
set_option maxHeartbeats 4000000 in
set_option maxRecDepth 100000 in
theorem L_X0_readEntries_2 {G : GG} {p : Program} {e : Env} {s : State} {m : MethodId} {args : Array Value} {below : List Frame} {meth : Method} {c : Code} {Q : State → Prop} (C : Cx G wsX0_readEntries RX0 cX0_readEntries 7 p s m args meth c) : ∀ (n : Nat) (k0 : Nat) (hk0 : isK k0 0) (x1 : Int32) (M : Me) (y : Int32 × Me) (H : Heap) (locs : List Loc) (ls : Array Slot), fL_X0_readEntries_2 n k0 x1 M = some y → wH G s M H locs → lv_has ls 7 [(0, .ref (ga G k0)), (1, .int x1)] → (∀ (H : Heap) (locs : List Loc) (ls : Array Slot), wH G s y.2 H locs → lv_has ls 7 [(0, .ref (ga G k0))] → W p (gl G) e (rmd 2 0 0) s m args below meth c H locs 0 0 Q (F0 m 21 ls [])) → W p (gl G) e (rmd 2 0 0) s m args below meth c H locs 0 0 Q (F0 m 2 ls []) := by
  have hx := C.1
  have hb := C.2.1
  have hown := C.2.2.2.1
  have hts := C.2.2.2.2.1
  have inX0 : ∀ w ∈ wsX00, w ∈ wsX0_readEntries := by decide +kernel
  have hL24 := hts (.fieldLink RX0 24 "TrustedUpdates$Document" "versions" "[I") (by decide +kernel)
  intro n
  induction n with
  | zero => intro k0 hk0 x1 M y H locs ls h; exact nso h
  | succ n ih =>
    intro k0 hk0 x1 M y H locs ls h hW hl kx
    rw [fL_X0_readEntries_2] at h
    refine lv_iload_n hx hb dX0_readEntries_2 rfl (lv_at hl 1 rfl) ?_
    refine lv_bipush (v := 6) hx hb dX0_readEntries_3 (by decide) ?_
    refine lv_icmp_gt (tgt := 21) hx hb dX0_readEntries_5 (by decide) (fun c1 => ?_) (fun c1 => ?_)
    · replace h := ift h c1
      cases h
      exact kx _ _ ls hW (lv_sub hl [0] rfl)
    · replace h := iff_ h c1
      refine lv_aload_n hx hb dX0_readEntries_8 rfl (lv_at hl 0 rfl) ?_
      refine wg_r C hW (k := k0) (ci := 0) (j := 2) (q := (k0 + 4)) hk0 rfl ⟨by decide, rfl⟩ inX0 (by decide) (rfq hk0 rfl) hL24 (fun _ h9 => h9) dX0_readEntries_9 ?_
      refine lv_iload_n hx hb dX0_readEntries_12 rfl (lv_at hl 1 rfl) ?_
      refine lv_iconst (v := (-1)) hx hb dX0_readEntries_13 (by decide) ?_
      obtain ⟨hg1, h⟩ := ifg h
      refine wa_s C hW (k := (k0 + 4)) (kd_a4 hk0) hg1 dX0_readEntries_14 (fun H locs hW => ?_)
      refine lv_iinc (v := (x1 + 1)) (lv' := [(1, .int (x1 + 1)), (0, .ref (ga G k0))]) hx hb dX0_readEntries_15 hl (k := 1) rfl rfl (by decide) rfl (fun ls hl => ?_)
      refine lv_goto (tgt := 2) hx hb dX0_readEntries_18 (by decide) ?_
      exact ih k0 hk0 (x1 + 1) (up M (k0 + 4) x1.toNatClampNeg (-1)) y _ _ ls h hW (lv_sub hl [1, 0] rfl) kx
set_option maxHeartbeats 4000000 in
set_option maxRecDepth 100000 in
theorem L_X0_readEntries_35 {G : GG} {p : Program} {e : Env} {s : State} {m : MethodId} {args : Array Value} {below : List Frame} {meth : Method} {c : Code} {Q : State → Prop} (C : Cx G wsX0_readEntries RX0 cX0_readEntries 7 p s m args meth c) : ∀ (n : Nat) (k0 : Nat) (hk0 : isK k0 0) (x1 : Int32) (x2 : Int32) (x3 : Int32) (x4 : Int32) (M : Me) (y : Int32 × Me) (H : Heap) (locs : List Loc) (ls : Array Slot), fL_X0_readEntries_35 n k0 x1 x2 x3 x4 M = some y → wH G s M H locs → lv_has ls 7 [(0, .ref (ga G k0)), (1, .int x1), (2, .int x2), (3, .int x3), (4, .int x4)] → (∀ (H : Heap) (locs : List Loc) (ls : Array Slot), wH G s y.2 H locs → lv_has ls 7 [] → W p (gl G) e (rmd 2 0 0) s m args below meth c H locs 0 0 Q (F0 m 89 ls [])) → W p (gl G) e (rmd 2 0 0) s m args below meth c H locs 0 0 Q (F0 m 35 ls []) := by
  have hx := C.1
  have hb := C.2.1
  have hown := C.2.2.2.1
  have hts := C.2.2.2.2.1
  have inX0 : ∀ w ∈ wsX00, w ∈ wsX0_readEntries := by decide +kernel
  have hL24 := hts (.fieldLink RX0 24 "TrustedUpdates$Document" "versions" "[I") (by decide +kernel)
  intro n
  induction n with
  | zero => intro k0 hk0 x1 x2 x3 x4 M y H locs ls h; exact nso h
  | succ n ih =>
    intro k0 hk0 x1 x2 x3 x4 M y H locs ls h hW hl kx
    rw [fL_X0_readEntries_35] at h
    refine lv_iload hx hb dX0_readEntries_35 (lv_at hl 4 rfl) ?_
    refine lv_iload_n hx hb dX0_readEntries_37 rfl (lv_at hl 1 rfl) ?_
    refine lv_icmp_ge (tgt := 89) hx hb dX0_readEntries_38 (by decide) (fun c2 => ?_) (fun c2 => ?_)
    · replace h := ift h c2
      cases h
      exact kx _ _ ls hW (lv_sub hl [] rfl)
    · replace h := iff_ h c2
      refine lv_aload_n hx hb dX0_readEntries_41 rfl (lv_at hl 0 rfl) ?_
      refine lv_iload_n hx hb dX0_readEntries_42 rfl (lv_at hl 2 rfl) ?_
      refine lv_iload_n hx hb dX0_readEntries_43 rfl (lv_at hl 3 rfl) ?_
      obtain ⟨q3, hq3, h⟩ := ob h
      refine wc_Vi C hW (k := k0) (As := [.int x2, .int x3]) (rest := []) (c_X0_next G k0 hk0 x2 x3 M q3 hq3) hk0 rfl (by decide) (cwV 2 hts gX0_readEntries_X0_next rfl rfl rfl yd_X0_next ⟨Nat.le_of_ble_eq_true rfl, Nat.le_of_ble_eq_true rfl⟩) rfl hl.1 rfl (Nat.le_of_ble_eq_true rfl) dX0_readEntries_44 ⟨Nat.le_refl 0, Nat.le_refl 0⟩ (fun H locs hW => ?_)
      refine lv_istore (lv' := [(5, .int q3.1), (0, .ref (ga G k0)), (1, .int x1), (2, .int x2), (3, .int x3), (4, .int x4)]) hx hb dX0_readEntries_47 hl (by decide) rfl (fun ls hl => ?_)
      refine lv_aload_n hx hb dX0_readEntries_49 rfl (lv_at hl 1 rfl) ?_
      refine lv_iconst (v := 1) hx hb dX0_readEntries_50 (by decide) ?_
      refine lv_sipush (v := 255) hx hb dX0_readEntries_51 (by decide) ?_
      obtain ⟨q4, hq4, h⟩ := ob h
      refine wc_Vi C hW (k := k0) (As := [.int 1, .int 255]) (rest := []) (c_X0_next G k0 hk0 1 255 q3.2 q4 hq4) hk0 rfl (by decide) (cwV 2 hts gX0_readEntries_X0_next rfl rfl rfl yd_X0_next ⟨Nat.le_of_ble_eq_true rfl, Nat.le_of_ble_eq_true rfl⟩) rfl hl.1 rfl (Nat.le_of_ble_eq_true rfl) dX0_readEntries_54 ⟨Nat.le_refl 0, Nat.le_refl 0⟩ (fun H locs hW => ?_)
      refine lv_istore (lv' := [(6, .int q4.1), (5, .int q3.1), (0, .ref (ga G k0)), (1, .int x1), (2, .int x2), (3, .int x3), (4, .int x4)]) hx hb dX0_readEntries_57 hl (by decide) rfl (fun ls hl => ?_)
      refine lv_iload hx hb dX0_readEntries_59 (lv_at hl 1 rfl) ?_
      refine lv_bipush (v := 6) hx hb dX0_readEntries_61 (by decide) ?_
      refine lv_icmp_gt (tgt := 75) hx hb dX0_readEntries_63 (by decide) (fun c3 => ?_) (fun c3 => ?_)
      · replace h := ift h c3
        refine lv_iload hx hb dX0_readEntries_75 (lv_at hl 1 rfl) ?_
        refine lv_iconst (v := 1) hx hb dX0_readEntries_77 (by decide) ?_
        refine lv_iadd hx hb dX0_readEntries_78 ?_
        refine lv_istore_n (lv' := [(2, .int (q3.1 + 1)), (6, .int q4.1), (5, .int q3.1), (0, .ref (ga G k0)), (1, .int x1), (3, .int x3), (4, .int x4)]) hx hb dX0_readEntries_79 rfl hl (by decide) rfl (fun ls hl => ?_)
        refine lv_bipush (v := 6) hx hb dX0_readEntries_80 (by decide) ?_
        refine lv_istore_n (lv' := [(3, .int 6), (2, .int (q3.1 + 1)), (6, .int q4.1), (5, .int q3.1), (0, .ref (ga G k0)), (1, .int x1), (4, .int x4)]) hx hb dX0_readEntries_82 rfl hl (by decide) rfl (fun ls hl => ?_)
        refine lv_iinc (v := (x4 + 1)) (lv' := [(4, .int (x4 + 1)), (3, .int 6), (2, .int (q3.1 + 1)), (6, .int q4.1), (5, .int q3.1), (0, .ref (ga G k0)), (1, .int x1)]) hx hb dX0_readEntries_83 hl (k := 6) rfl rfl (by decide) rfl (fun ls hl => ?_)
        refine lv_goto (tgt := 35) hx hb dX0_readEntries_86 (by decide) ?_
        exact ih k0 hk0 x1 (q3.1 + 1) 6 (x4 + 1) q4.2 y _ _ ls h hW (lv_sub hl [5, 6, 2, 1, 0] rfl) kx
      · replace h := iff_ h c3
        refine lv_aload_n hx hb dX0_readEntries_66 rfl (lv_at hl 2 rfl) ?_
        refine wg_r C hW (k := k0) (ci := 0) (j := 2) (q := (k0 + 4)) hk0 rfl ⟨by decide, rfl⟩ inX0 (by decide) (rfq hk0 rfl) hL24 (fun _ h9 => h9) dX0_readEntries_67 ?_
        refine lv_iload hx hb dX0_readEntries_70 (lv_at hl 1 rfl) ?_
        refine lv_iload hx hb dX0_readEntries_72 (lv_at hl 0 rfl) ?_
        obtain ⟨hg2, h⟩ := ifg h
        refine wa_s C hW (k := (k0 + 4)) (kd_a4 hk0) hg2 dX0_readEntries_74 (fun H locs hW => ?_)
        refine lv_iload hx hb dX0_readEntries_75 (lv_at hl 1 rfl) ?_
        refine lv_iconst (v := 1) hx hb dX0_readEntries_77 (by decide) ?_
        refine lv_iadd hx hb dX0_readEntries_78 ?_
        refine lv_istore_n (lv' := [(2, .int (q3.1 + 1)), (6, .int q4.1), (5, .int q3.1), (0, .ref (ga G k0)), (1, .int x1), (3, .int x3), (4, .int x4)]) hx hb dX0_readEntries_79 rfl hl (by decide) rfl (fun ls hl => ?_)
        refine lv_bipush (v := 6) hx hb dX0_readEntries_80 (by decide) ?_
        refine lv_istore_n (lv' := [(3, .int 6), (2, .int (q3.1 + 1)), (6, .int q4.1), (5, .int q3.1), (0, .ref (ga G k0)), (1, .int x1), (4, .int x4)]) hx hb dX0_readEntries_82 rfl hl (by decide) rfl (fun ls hl => ?_)
        refine lv_iinc (v := (x4 + 1)) (lv' := [(4, .int (x4 + 1)), (3, .int 6), (2, .int (q3.1 + 1)), (6, .int q4.1), (5, .int q3.1), (0, .ref (ga G k0)), (1, .int x1)]) hx hb dX0_readEntries_83 hl (k := 6) rfl rfl (by decide) rfl (fun ls hl => ?_)
        refine lv_goto (tgt := 35) hx hb dX0_readEntries_86 (by decide) ?_
        exact ih k0 hk0 x1 (q3.1 + 1) 6 (x4 + 1) (up q4.2 (k0 + 4) q3.1.toNatClampNeg q4.1) y _ _ ls h hW (lv_sub hl [5, 6, 2, 1, 0] rfl) kx
set_option maxHeartbeats 4000000 in
set_option maxRecDepth 100000 in
theorem c_X0_readEntries (G : GG) (k : Nat) (hk : isK k 0) (M : Me) (y : Int32 × Me) (h : f_X0_readEntries k M = some y) : CV G yX0_readEntries wsX0_readEntries (rmd 2 0 0) [.ref (ga G k)] M y := by
  rw [f_X0_readEntries] at h
  refine co_o (by decide) rfl rfl (Nat.le_of_ble_eq_true rfl) (fun p e s m below meth c ls C hr hW hl => ?_)
  have hx := C.1
  have hb := C.2.1
  have hown := C.2.2.2.1
  have hts := C.2.2.2.2.1
  have hl : lv_has ls 7 [(0, .ref (ga G k))] := hl
  refine lv_iconst (v := 0) hx hb dX0_readEntries_0 (by decide) ?_
  refine lv_istore_n (lv' := [(1, .int 0), (0, .ref (ga G k))]) hx hb dX0_readEntries_1 rfl hl (by decide) rfl (fun ls hl => ?_)
  obtain ⟨q1, hq1, h⟩ := ob h
  refine L_X0_readEntries_2 C 200 k hk 0 M q1 _ _ ls hq1 hW (lv_sub hl [1, 0] rfl) (fun H locs ls hW hl => ?_)
  refine lv_aload_n hx hb dX0_readEntries_21 rfl (lv_at hl 0 rfl) ?_
  refine lv_iconst (v := 1) hx hb dX0_readEntries_22 (by decide) ?_
  refine lv_iconst (v := 4) hx hb dX0_readEntries_23 (by decide) ?_
  obtain ⟨q2, hq2, h⟩ := ob h
  refine wc_Vi C hW (k := k) (As := [.int 1, .int 4]) (rest := []) (c_X0_next G k hk 1 4 q1.2 q2 hq2) hk rfl (by decide) (cwV 2 hts gX0_readEntries_X0_next rfl rfl rfl yd_X0_next ⟨Nat.le_of_ble_eq_true rfl, Nat.le_of_ble_eq_true rfl⟩) rfl hl.1 rfl (Nat.le_of_ble_eq_true rfl) dX0_readEntries_24 ⟨Nat.le_refl 0, Nat.le_refl 0⟩ (fun H locs hW => ?_)
  refine lv_istore_n (lv' := [(1, .int q2.1), (0, .ref (ga G k))]) hx hb dX0_readEntries_27 rfl hl (by decide) rfl (fun ls hl => ?_)
  refine lv_iconst (v := 3) hx hb dX0_readEntries_28 (by decide) ?_
  refine lv_istore_n (lv' := [(2, .int 3), (1, .int q2.1), (0, .ref (ga G k))]) hx hb dX0_readEntries_29 rfl hl (by decide) rfl (fun ls hl => ?_)
  refine lv_iconst (v := 3) hx hb dX0_readEntries_30 (by decide) ?_
  refine lv_istore_n (lv' := [(3, .int 3), (2, .int 3), (1, .int q2.1), (0, .ref (ga G k))]) hx hb dX0_readEntries_31 rfl hl (by decide) rfl (fun ls hl => ?_)
  refine lv_iconst (v := 0) hx hb dX0_readEntries_32 (by decide) ?_
  refine lv_istore (lv' := [(4, .int 0), (3, .int 3), (2, .int 3), (1, .int q2.1), (0, .ref (ga G k))]) hx hb dX0_readEntries_33 hl (by decide) rfl (fun ls hl => ?_)
  obtain ⟨q5, hq5, h⟩ := ob h
  refine L_X0_readEntries_35 C 200 k hk q2.1 3 3 0 q2.2 q5 _ _ ls hq5 hW (lv_sub hl [4, 3, 2, 1, 0] rfl) (fun H locs ls hW hl => ?_)
  exact wr_v C hr hW h dX0_readEntries_89
theorem yd_X0_readLetters : yX0_readLetters.cls = RX0 ∧ yX0_readLetters.cls ≠ "java/lang/invoke/MethodHandle" ∧ yX0_readLetters.cls ≠ "java/lang/invoke/VarHandle" ∧ (parseMethodDescriptor yX0_readLetters.desc).map (fun d => d.parameters.length) = some 2 := by decide +kernel
set_option maxHeartbeats 4000000 in
set_option maxRecDepth 100000 in
theorem L_X0_readLetters_10 {G : GG} {p : Program} {e : Env} {s : State} {m : MethodId} {args : Array Value} {below : List Frame} {meth : Method} {c : Code} {Q : State → Prop} (C : Cx G wsX0_readLetters RX0 cX0_readLetters 5 p s m args meth c) : ∀ (n : Nat) (k0 : Nat) (hk0 : isK k0 0) (x3 : Int32) (x4 : Int32) (M : Me) (y : Int32 × Me) (H : Heap) (locs : List Loc) (ls : Array Slot), fL_X0_readLetters_10 n k0 x3 x4 M = some y → wH G s M H locs → lv_has ls 5 [(0, .ref (ga G k0)), (3, .int x3), (4, .int x4)] → (∀ (H : Heap) (locs : List Loc) (ls : Array Slot), wH G s y.2 H locs → lv_has ls 5 [] → W p (gl G) e (rmd 2 0 0) s m args below meth c H locs 0 0 Q (F0 m 31 ls [])) → W p (gl G) e (rmd 2 0 0) s m args below meth c H locs 0 0 Q (F0 m 10 ls []) := by
  have hx := C.1
  have hb := C.2.1
  have hown := C.2.2.2.1
  have hts := C.2.2.2.2.1
  intro n
  induction n with
  | zero => intro k0 hk0 x3 x4 M y H locs ls h; exact nso h
  | succ n ih =>
    intro k0 hk0 x3 x4 M y H locs ls h hW hl kx
    rw [fL_X0_readLetters_10] at h
    refine lv_iload hx hb dX0_readLetters_10 (lv_at hl 2 rfl) ?_
    refine lv_iload_n hx hb dX0_readLetters_12 rfl (lv_at hl 1 rfl) ?_
    refine lv_icmp_ge (tgt := 31) hx hb dX0_readLetters_13 (by decide) (fun c1 => ?_) (fun c1 => ?_)
    · replace h := ift h c1
      cases h
      exact kx _ _ ls hW (lv_sub hl [] rfl)
    · replace h := iff_ h c1
      refine lv_aload_n hx hb dX0_readLetters_16 rfl (lv_at hl 0 rfl) ?_
      refine lv_bipush (v := 97) hx hb dX0_readLetters_17 (by decide) ?_
      refine lv_bipush (v := 122) hx hb dX0_readLetters_19 (by decide) ?_
      obtain ⟨q2, hq2, h⟩ := ob h
      refine wc_Vi C hW (k := k0) (As := [.int 97, .int 122]) (rest := []) (c_X0_next G k0 hk0 97 122 M q2 hq2) hk0 rfl (by decide) (cwV 2 hts gX0_readLetters_X0_next rfl rfl rfl yd_X0_next ⟨Nat.le_of_ble_eq_true rfl, Nat.le_of_ble_eq_true rfl⟩) rfl hl.1 rfl (Nat.le_of_ble_eq_true rfl) dX0_readLetters_21 ⟨Nat.le_refl 0, Nat.le_refl 0⟩ (fun H locs hW => ?_)
      refine lv_pop hx hb dX0_readLetters_24 rfl ?_
      refine lv_iinc (v := (x4 + 1)) (lv' := [(4, .int (x4 + 1)), (0, .ref (ga G k0)), (3, .int x3)]) hx hb dX0_readLetters_25 hl (k := 2) rfl rfl (by decide) rfl (fun ls hl => ?_)
      refine lv_goto (tgt := 10) hx hb dX0_readLetters_28 (by decide) ?_
      exact ih k0 hk0 x3 (x4 + 1) q2.2 y _ _ ls h hW (lv_sub hl [1, 2, 0] rfl) kx
set_option maxHeartbeats 4000000 in
set_option maxRecDepth 100000 in
theorem c_X0_readLetters (G : GG) (k : Nat) (hk : isK k 0) (a1 : Int32) (a2 : Int32) (M : Me) (y : Int32 × Me) (h : f_X0_readLetters k a1 a2 M = some y) : CV G yX0_readLetters wsX0_readLetters (rmd 2 0 0) [.ref (ga G k), .int a1, .int a2] M y := by
  rw [f_X0_readLetters] at h
  refine co_o (by decide) rfl rfl (Nat.le_of_ble_eq_true rfl) (fun p e s m below meth c ls C hr hW hl => ?_)
  have hx := C.1
  have hb := C.2.1
  have hown := C.2.2.2.1
  have hts := C.2.2.2.2.1
  have hl : lv_has ls 5 [(0, .ref (ga G k)), (1, .int a1), (2, .int a2)] := hl
  refine lv_aload_n hx hb dX0_readLetters_0 rfl (lv_at hl 0 rfl) ?_
  refine lv_iload_n hx hb dX0_readLetters_1 rfl (lv_at hl 1 rfl) ?_
  refine lv_iload_n hx hb dX0_readLetters_2 rfl (lv_at hl 2 rfl) ?_
  obtain ⟨q1, hq1, h⟩ := ob h
  refine wc_Vi C hW (k := k) (As := [.int a1, .int a2]) (rest := []) (c_X0_next G k hk a1 a2 M q1 hq1) hk rfl (by decide) (cwV 2 hts gX0_readLetters_X0_next rfl rfl rfl yd_X0_next ⟨Nat.le_of_ble_eq_true rfl, Nat.le_of_ble_eq_true rfl⟩) rfl hl.1 rfl (Nat.le_of_ble_eq_true rfl) dX0_readLetters_3 ⟨Nat.le_refl 0, Nat.le_refl 0⟩ (fun H locs hW => ?_)
  refine lv_istore_n (lv' := [(3, .int q1.1), (0, .ref (ga G k)), (1, .int a1), (2, .int a2)]) hx hb dX0_readLetters_6 rfl hl (by decide) rfl (fun ls hl => ?_)
  refine lv_iconst (v := 0) hx hb dX0_readLetters_7 (by decide) ?_
  refine lv_istore (lv' := [(4, .int 0), (3, .int q1.1), (0, .ref (ga G k)), (1, .int a1), (2, .int a2)]) hx hb dX0_readLetters_8 hl (by decide) rfl (fun ls hl => ?_)
  obtain ⟨q3, hq3, h⟩ := ob h
  refine L_X0_readLetters_10 C 200 k hk q1.1 0 q1.2 q3 _ _ ls hq3 hW (lv_sub hl [2, 1, 0] rfl) (fun H locs ls hW hl => ?_)
  exact wr_v C hr hW h dX0_readLetters_31
theorem yd_X0_isNamedAsEarlier : yX0_isNamedAsEarlier.cls = RX0 ∧ yX0_isNamedAsEarlier.cls ≠ "java/lang/invoke/MethodHandle" ∧ yX0_isNamedAsEarlier.cls ≠ "java/lang/invoke/VarHandle" ∧ (parseMethodDescriptor yX0_isNamedAsEarlier.desc).map (fun d => d.parameters.length) = some 1 := by decide +kernel
set_option maxHeartbeats 4000000 in
set_option maxRecDepth 100000 in
theorem L_X0_isNamedAsEarlier_2 {G : GG} {p : Program} {e : Env} {s : State} {m : MethodId} {args : Array Value} {below : List Frame} {meth : Method} {c : Code} (C : Cx G wsX0_isNamedAsEarlier RX0 cX0_isNamedAsEarlier 3 p s m args meth c) (hr : meth.sig.returnType = (some .boolean)) : ∀ (n : Nat) (k0 : Nat) (hk0 : isK k0 0) (x1 : Int32) (x2 : Int32) (M : Me) (y : Int32 × Me) (H : Heap) (locs : List Loc) (ls : Array Slot), fL_X0_isNamedAsEarlier_2 n k0 x1 x2 M = some y → wH G s M H locs → lv_has ls 3 [(0, .ref (ga G k0)), (1, .int x1), (2, .int x2)] → W p (gl G) e (rmd 2 0 0) s m args below meth c H locs 0 0 (MQ below (Qi G y) args s 0 0 (wA G)) (F0 m 2 ls []) := by
  have hx := C.1
  have hb := C.2.1
  have hown := C.2.2.2.1
  have hts := C.2.2.2.2.1
  have inX0 : ∀ w ∈ wsX00, w ∈ wsX0_isNamedAsEarlier := by decide +kernel
  have hL14 := hts (.fieldLink RX0 14 "TrustedUpdates$Document" "row" "LTrustedUpdates$Row;") (by decide +kernel)
  have hL27 := hts (.fieldLink RX0 27 "TrustedUpdates$Document" "targets" "[I") (by decide +kernel)
  intro n
  induction n with
  | zero => intro k0 hk0 x1 x2 M y H locs ls h; exact nso h
  | succ n ih =>
    intro k0 hk0 x1 x2 M y H locs ls h hW hl
    rw [fL_X0_isNamedAsEarlier_2] at h
    refine lv_iload_n hx hb dX0_isNamedAsEarlier_2 rfl (lv_at hl 2 rfl) ?_
    refine lv_iload_n hx hb dX0_isNamedAsEarlier_3 rfl (lv_at hl 1 rfl) ?_
    refine lv_icmp_ge (tgt := 56) hx hb dX0_isNamedAsEarlier_4 (by decide) (fun c1 => ?_) (fun c1 => ?_)
    · replace h := ift h c1
      refine lv_iconst (v := 0) hx hb dX0_isNamedAsEarlier_56 (by decide) ?_
      exact wr_z C hr (Or.inl rfl) hW h dX0_isNamedAsEarlier_57
    · replace h := iff_ h c1
      refine lv_aload_n hx hb dX0_isNamedAsEarlier_7 rfl (lv_at hl 0 rfl) ?_
      refine wg_r C hW (k := k0) (ci := 0) (j := 0) (q := (k0 + 1)) hk0 rfl ⟨by decide, rfl⟩ inX0 (by decide) (rfq hk0 rfl) hL14 (fun _ h9 => h9) dX0_isNamedAsEarlier_8 ?_
      refine lv_aload_n hx hb dX0_isNamedAsEarlier_11 rfl (lv_at hl 0 rfl) ?_
      refine wg_r C hW (k := k0) (ci := 0) (j := 3) (q := (k0 + 5)) hk0 rfl ⟨by decide, rfl⟩ inX0 (by decide) (rfq hk0 rfl) hL27 (fun _ h9 => h9) dX0_isNamedAsEarlier_12 ?_
      refine lv_iload_n hx hb dX0_isNamedAsEarlier_15 rfl (lv_at hl 2 rfl) ?_
      obtain ⟨hg1, h⟩ := ifg h
      refine wa_l C hW (k := (k0 + 5)) (kd_a5 hk0) hg1 dX0_isNamedAsEarlier_16 (v := (M (k0 + 5) x2.toNatClampNeg)) rfl ?_
      refine lv_aload_n hx hb dX0_isNamedAsEarlier_17 rfl (lv_at hl 0 rfl) ?_
      refine wg_r C hW (k := k0) (ci := 0) (j := 0) (q := (k0 + 1)) hk0 rfl ⟨by decide, rfl⟩ inX0 (by decide) (rfq hk0 rfl) hL14 (fun _ h9 => h9) dX0_isNamedAsEarlier_18 ?_
      refine lv_aload_n hx hb dX0_isNamedAsEarlier_21 rfl (lv_at hl 0 rfl) ?_
      refine wg_r C hW (k := k0) (ci := 0) (j := 3) (q := (k0 + 5)) hk0 rfl ⟨by decide, rfl⟩ inX0 (by decide) (rfq hk0 rfl) hL27 (fun _ h9 => h9) dX0_isNamedAsEarlier_22 ?_
      refine lv_iload_n hx hb dX0_isNamedAsEarlier_25 rfl (lv_at hl 1 rfl) ?_
      obtain ⟨hg2, h⟩ := ifg h
      refine wa_l C hW (k := (k0 + 5)) (kd_a5 hk0) hg2 dX0_isNamedAsEarlier_26 (v := (M (k0 + 5) x1.toNatClampNeg)) rfl ?_
      refine lv_iconst (v := 1) hx hb dX0_isNamedAsEarlier_27 (by decide) ?_
      refine lv_aload_n hx hb dX0_isNamedAsEarlier_28 rfl (lv_at hl 0 rfl) ?_
      refine wg_r C hW (k := k0) (ci := 0) (j := 0) (q := (k0 + 1)) hk0 rfl ⟨by decide, rfl⟩ inX0 (by decide) (rfq hk0 rfl) hL14 (fun _ h9 => h9) dX0_isNamedAsEarlier_29 ?_
      refine lv_aload_n hx hb dX0_isNamedAsEarlier_32 rfl (lv_at hl 0 rfl) ?_
      refine wg_r C hW (k := k0) (ci := 0) (j := 3) (q := (k0 + 5)) hk0 rfl ⟨by decide, rfl⟩ inX0 (by decide) (rfq hk0 rfl) hL27 (fun _ h9 => h9) dX0_isNamedAsEarlier_33 ?_
      refine lv_iload_n hx hb dX0_isNamedAsEarlier_36 rfl (lv_at hl 2 rfl) ?_
      refine wa_l C hW (k := (k0 + 5)) (kd_a5 hk0) hg1 dX0_isNamedAsEarlier_37 (v := (M (k0 + 5) x2.toNatClampNeg)) rfl ?_
      obtain ⟨q1, hq1, h⟩ := ob h
      refine wc_Vi C hW (k := (k0 + 1)) (As := [.int (M (k0 + 5) x2.toNatClampNeg)]) (rest := [.int 1, .int (M (k0 + 5) x1.toNatClampNeg), .ref (ga G (k0 + 1)), .int (M (k0 + 5) x2.toNatClampNeg), .ref (ga G (k0 + 1))]) (c_X1_byteAt G (k0 + 1) (kd_r hk0) (M (k0 + 5) x2.toNatClampNeg) M q1 hq1) (kd_r hk0) rfl (by decide) (cwV 1 hts gX0_isNamedAsEarlier_X1_byteAt rfl rfl rfl yd_X1_byteAt ⟨Nat.le_of_ble_eq_true rfl, Nat.le_of_ble_eq_true rfl⟩) rfl hl.1 rfl (Nat.le_of_ble_eq_true rfl) dX0_isNamedAsEarlier_38 ⟨Nat.le_refl 0, Nat.le_refl 0⟩ (fun H locs hW => ?_)
      refine lv_iadd hx hb dX0_isNamedAsEarlier_41 ?_
      obtain ⟨q2, hq2, h⟩ := ob h
      refine wc_Vi C hW (k := (k0 + 1)) (As := [.int (M (k0 + 5) x2.toNatClampNeg), .ref (ga G (k0 + 1)), .int (M (k0 + 5) x1.toNatClampNeg), .int (1 + q1.1)]) (rest := []) (c_X1_agrees G (k0 + 1) (kd_r hk0) (M (k0 + 5) x2.toNatClampNeg) (k0 + 1) (kd_r hk0) (M (k0 + 5) x1.toNatClampNeg) (1 + q1.1) q1.2 q2 hq2) (kd_r hk0) rfl (by decide) (cwV 4 hts gX0_isNamedAsEarlier_X1_agrees rfl rfl rfl yd_X1_agrees ⟨Nat.le_of_ble_eq_true rfl, Nat.le_of_ble_eq_true rfl⟩) rfl hl.1 rfl (Nat.le_of_ble_eq_true rfl) dX0_isNamedAsEarlier_42 ⟨Nat.le_refl 0, Nat.le_refl 0⟩ (fun H locs hW => ?_)
      refine lv_if_eq (tgt := 50) hx hb dX0_isNamedAsEarlier_45 (by decide) (fun c2 => ?_) (fun c2 => ?_)
      · replace h := ift h c2
        refine lv_iinc (v := (x2 + 1)) (lv' := [(2, .int (x2 + 1)), (0, .ref (ga G k0)), (1, .int x1)]) hx hb dX0_isNamedAsEarlier_50 hl (k := 2) rfl rfl (by decide) rfl (fun ls hl => ?_)
        refine lv_goto (tgt := 2) hx hb dX0_isNamedAsEarlier_53 (by decide) ?_
        exact ih k0 hk0 x1 (x2 + 1) q2.2 y _ _ ls h hW (lv_sub hl [1, 2, 0] rfl)
      · replace h := iff_ h c2
        refine lv_iconst (v := 1) hx hb dX0_isNamedAsEarlier_48 (by decide) ?_
        exact wr_z C hr (Or.inr rfl) hW h dX0_isNamedAsEarlier_49
set_option maxHeartbeats 4000000 in
set_option maxRecDepth 100000 in
theorem c_X0_isNamedAsEarlier (G : GG) (k : Nat) (hk : isK k 0) (a1 : Int32) (M : Me) (y : Int32 × Me) (h : f_X0_isNamedAsEarlier k a1 M = some y) : CI G yX0_isNamedAsEarlier wsX0_isNamedAsEarlier (rmd 2 0 0) [.ref (ga G k), .int a1] M y := by
  rw [f_X0_isNamedAsEarlier] at h
  refine co_o (by decide) rfl rfl (Nat.le_of_ble_eq_true rfl) (fun p e s m below meth c ls C hr hW hl => ?_)
  have hx := C.1
  have hb := C.2.1
  have hown := C.2.2.2.1
  have hts := C.2.2.2.2.1
  have hl : lv_has ls 3 [(0, .ref (ga G k)), (1, .int a1)] := hl
  refine lv_iconst (v := 0) hx hb dX0_isNamedAsEarlier_0 (by decide) ?_
  refine lv_istore_n (lv' := [(2, .int 0), (0, .ref (ga G k)), (1, .int a1)]) hx hb dX0_isNamedAsEarlier_1 rfl hl (by decide) rfl (fun ls hl => ?_)
  exact L_X0_isNamedAsEarlier_2 C hr 200 k hk a1 0 M y _ _ ls h hW (lv_sub hl [1, 2, 0] rfl)
theorem yd_X0_readTargets : yX0_readTargets.cls = RX0 ∧ yX0_readTargets.cls ≠ "java/lang/invoke/MethodHandle" ∧ yX0_readTargets.cls ≠ "java/lang/invoke/VarHandle" ∧ (parseMethodDescriptor yX0_readTargets.desc).map (fun d => d.parameters.length) = some 0 := by decide +kernel
set_option maxHeartbeats 4000000 in
set_option maxRecDepth 100000 in
theorem L_X0_readTargets_12 {G : GG} {p : Program} {e : Env} {s : State} {m : MethodId} {args : Array Value} {below : List Frame} {meth : Method} {c : Code} {Q : State → Prop} (C : Cx G wsX0_readTargets RX0 cX0_readTargets 2 p s m args meth c) : ∀ (n : Nat) (k0 : Nat) (hk0 : isK k0 0) (x1 : Int32) (M : Me) (y : Int32 × Me) (H : Heap) (locs : List Loc) (ls : Array Slot), fL_X0_readTargets_12 n k0 x1 M = some y → wH G s M H locs → lv_has ls 2 [(0, .ref (ga G k0)), (1, .int x1)] → (∀ (H : Heap) (locs : List Loc) (ls : Array Slot), wH G s y.2 H locs → lv_has ls 2 [] → W p (gl G) e (rmd 3 0 0) s m args below meth c H locs 0 0 Q (F0 m 71 ls [])) → W p (gl G) e (rmd 3 0 0) s m args below meth c H locs 0 0 Q (F0 m 12 ls []) := by
  have hx := C.1
  have hb := C.2.1
  have hown := C.2.2.2.1
  have hts := C.2.2.2.2.1
  have inX0 : ∀ w ∈ wsX00, w ∈ wsX0_readTargets := by decide +kernel
  have hL27 := hts (.fieldLink RX0 27 "TrustedUpdates$Document" "targets" "[I") (by decide +kernel)
  have hL61 := hts (.fieldLink RX0 61 "TrustedUpdates$Document" "place" "I") (by decide +kernel)
  have hL64 := hts (.fieldLink RX0 64 "TrustedUpdates$Document" "sound" "Z") (by decide +kernel)
  have hL99 := hts (.fieldLink RX0 99 "TrustedUpdates$Document" "targetCount" "I") (by decide +kernel)
  intro n
  induction n with
  | zero => intro k0 hk0 x1 M y H locs ls h; exact nso h
  | succ n ih =>
    intro k0 hk0 x1 M y H locs ls h hW hl kx
    rw [fL_X0_readTargets_12] at h
    refine lv_iload_n hx hb dX0_readTargets_12 rfl (lv_at hl 1 rfl) ?_
    refine lv_aload_n hx hb dX0_readTargets_13 rfl (lv_at hl 0 rfl) ?_
    refine wg_i C hW (k := k0) (ci := 0) (j := 12) hk0 rfl ⟨by decide, rfl⟩ inX0 (by decide) (rfq hk0 rfl) (v := (M k0 12)) rfl hL99 (fun _ h9 => h9) dX0_readTargets_14 ?_
    refine lv_icmp_ge (tgt := 71) hx hb dX0_readTargets_17 (by decide) (fun c1 => ?_) (fun c1 => ?_)
    · replace h := ift h c1
      cases h
      exact kx _ _ ls hW (lv_sub hl [] rfl)
    · replace h := iff_ h c1
      refine lv_aload_n hx hb dX0_readTargets_20 rfl (lv_at hl 0 rfl) ?_
      refine wg_r C hW (k := k0) (ci := 0) (j := 3) (q := (k0 + 5)) hk0 rfl ⟨by decide, rfl⟩ inX0 (by decide) (rfq hk0 rfl) hL27 (fun _ h9 => h9) dX0_readTargets_21 ?_
      refine lv_iload_n hx hb dX0_readTargets_24 rfl (lv_at hl 1 rfl) ?_
      refine lv_aload_n hx hb dX0_readTargets_25 rfl (lv_at hl 0 rfl) ?_
      refine wg_i C hW (k := k0) (ci := 0) (j := 5) hk0 rfl ⟨by decide, rfl⟩ inX0 (by decide) (rfq hk0 rfl) (v := (M k0 5)) rfl hL61 (fun _ h9 => h9) dX0_readTargets_26 ?_
      obtain ⟨hg1, h⟩ := ifg h
      refine wa_s C hW (k := (k0 + 5)) (kd_a5 hk0) hg1 dX0_readTargets_29 (fun H locs hW => ?_)
      refine lv_aload_n hx hb dX0_readTargets_30 rfl (lv_at hl 0 rfl) ?_
      refine lv_iconst (v := 1) hx hb dX0_readTargets_31 (by decide) ?_
      refine lv_iconst (v := 4) hx hb dX0_readTargets_32 (by decide) ?_
      obtain ⟨q2, hq2, h⟩ := ob h
      refine wc_Vv C hW (k := k0) (As := [.int 1, .int 4]) (rest := []) (c_X0_readLetters G k0 hk0 1 4 (up M (k0 + 5) x1.toNatClampNeg (M k0 5)) q2 hq2) hk0 rfl (by decide) (cwV 2 hts gX0_readTargets_X0_readLetters rfl rfl rfl yd_X0_readLetters ⟨Nat.le_of_ble_eq_true rfl, Nat.le_of_ble_eq_true rfl⟩) rfl hl.1 rfl (Nat.le_of_ble_eq_true rfl) dX0_readTargets_33 ⟨Nat.le_refl 0, Nat.le_refl 0⟩ (fun H locs hW => ?_)
      refine lv_aload_n hx hb dX0_readTargets_36 rfl (lv_at hl 0 rfl) ?_
      refine lv_iconst (v := 5) hx hb dX0_readTargets_37 (by decide) ?_
      obtain ⟨q3, hq3, h⟩ := ob h
      refine wc_Vv C hW (k := k0) (As := [.int 5]) (rest := []) (c_X0_skip G k0 hk0 5 q2.2 q3 hq3) hk0 rfl (by decide) (cwV 1 hts gX0_readTargets_X0_skip rfl rfl rfl yd_X0_skip ⟨Nat.le_of_ble_eq_true rfl, Nat.le_of_ble_eq_true rfl⟩) rfl hl.1 rfl (Nat.le_of_ble_eq_true rfl) dX0_readTargets_38 ⟨Nat.le_refl 0, Nat.le_refl 0⟩ (fun H locs hW => ?_)
      refine lv_aload_n hx hb dX0_readTargets_41 rfl (lv_at hl 0 rfl) ?_
      refine lv_aload_n hx hb dX0_readTargets_42 rfl (lv_at hl 0 rfl) ?_
      refine wg_i C hW (k := k0) (ci := 0) (j := 6) hk0 rfl ⟨by decide, rfl⟩ inX0 (by decide) (rfq hk0 rfl) (v := (q3.2 k0 6)) rfl hL64 (fun _ h9 => h9) dX0_readTargets_43 ?_
      refine lv_if_eq (tgt := 61) hx hb dX0_readTargets_46 (by decide) (fun c2 => ?_) (fun c2 => ?_)
      · replace h := ift h c2
        refine lv_iconst (v := 0) hx hb dX0_readTargets_61 (by decide) ?_
        refine wp_t C hW (k := k0) (ci := 0) (j := 6) (ty := .boolean) (nar_b (Or.inl rfl)).1 (nar_b (Or.inl rfl)).2 hk0 rfl ⟨by decide, rfl⟩ inX0 tyX0 tyX0_ok nmX0 (by decide) (rfq hk0 rfl) hL64 (fun _ h9 => h9) rfl rfl dX0_readTargets_62 (fun H locs hW => ?_)
        refine lv_iinc (v := (x1 + 1)) (lv' := [(1, .int (x1 + 1)), (0, .ref (ga G k0))]) hx hb dX0_readTargets_65 hl (k := 1) rfl rfl (by decide) rfl (fun ls hl => ?_)
        refine lv_goto (tgt := 12) hx hb dX0_readTargets_68 (by decide) ?_
        exact ih k0 hk0 (x1 + 1) (up q3.2 k0 6 0) y _ _ ls h hW (lv_sub hl [1, 0] rfl) kx
      · replace h := iff_ h c2
        refine lv_aload_n hx hb dX0_readTargets_49 rfl (lv_at hl 0 rfl) ?_
        refine lv_iload_n hx hb dX0_readTargets_50 rfl (lv_at hl 1 rfl) ?_
        obtain ⟨q4, hq4, h⟩ := ob h
        refine wc_Vi C hW (k := k0) (As := [.int x1]) (rest := [.ref (ga G k0)]) (c_X0_isNamedAsEarlier G k0 hk0 x1 q3.2 q4 hq4) hk0 rfl (by decide) (cwV 1 hts gX0_readTargets_X0_isNamedAsEarlier rfl rfl rfl yd_X0_isNamedAsEarlier ⟨Nat.le_of_ble_eq_true rfl, Nat.le_of_ble_eq_true rfl⟩) rfl hl.1 rfl (Nat.le_of_ble_eq_true rfl) dX0_readTargets_51 ⟨Nat.le_refl 0, Nat.le_refl 0⟩ (fun H locs hW => ?_)
        refine lv_if_ne (tgt := 61) hx hb dX0_readTargets_54 (by decide) (fun c3 => ?_) (fun c3 => ?_)
        · replace h := iff_ h c3
          refine lv_iconst (v := 0) hx hb dX0_readTargets_61 (by decide) ?_
          refine wp_t C hW (k := k0) (ci := 0) (j := 6) (ty := .boolean) (nar_b (Or.inl rfl)).1 (nar_b (Or.inl rfl)).2 hk0 rfl ⟨by decide, rfl⟩ inX0 tyX0 tyX0_ok nmX0 (by decide) (rfq hk0 rfl) hL64 (fun _ h9 => h9) rfl rfl dX0_readTargets_62 (fun H locs hW => ?_)
          refine lv_iinc (v := (x1 + 1)) (lv' := [(1, .int (x1 + 1)), (0, .ref (ga G k0))]) hx hb dX0_readTargets_65 hl (k := 1) rfl rfl (by decide) rfl (fun ls hl => ?_)
          refine lv_goto (tgt := 12) hx hb dX0_readTargets_68 (by decide) ?_
          exact ih k0 hk0 (x1 + 1) (up q4.2 k0 6 0) y _ _ ls h hW (lv_sub hl [1, 0] rfl) kx
        · replace h := ift h c3
          refine lv_iconst (v := 1) hx hb dX0_readTargets_57 (by decide) ?_
          refine lv_goto (tgt := 62) hx hb dX0_readTargets_58 (by decide) ?_
          refine wp_t C hW (k := k0) (ci := 0) (j := 6) (ty := .boolean) (nar_b (Or.inr rfl)).1 (nar_b (Or.inr rfl)).2 hk0 rfl ⟨by decide, rfl⟩ inX0 tyX0 tyX0_ok nmX0 (by decide) (rfq hk0 rfl) hL64 (fun _ h9 => h9) rfl rfl dX0_readTargets_62 (fun H locs hW => ?_)
          refine lv_iinc (v := (x1 + 1)) (lv' := [(1, .int (x1 + 1)), (0, .ref (ga G k0))]) hx hb dX0_readTargets_65 hl (k := 1) rfl rfl (by decide) rfl (fun ls hl => ?_)
          refine lv_goto (tgt := 12) hx hb dX0_readTargets_68 (by decide) ?_
          exact ih k0 hk0 (x1 + 1) (up q4.2 k0 6 1) y _ _ ls h hW (lv_sub hl [1, 0] rfl) kx
set_option maxHeartbeats 4000000 in
set_option maxRecDepth 100000 in
theorem c_X0_readTargets (G : GG) (k : Nat) (hk : isK k 0) (M : Me) (y : Int32 × Me) (h : f_X0_readTargets k M = some y) : CV G yX0_readTargets wsX0_readTargets (rmd 3 0 0) [.ref (ga G k)] M y := by
  rw [f_X0_readTargets] at h
  refine co_o (by decide) rfl rfl (Nat.le_of_ble_eq_true rfl) (fun p e s m below meth c ls C hr hW hl => ?_)
  have hx := C.1
  have hb := C.2.1
  have hown := C.2.2.2.1
  have hts := C.2.2.2.2.1
  have inX0 : ∀ w ∈ wsX00, w ∈ wsX0_readTargets := by decide +kernel
  have hL99 := hts (.fieldLink RX0 99 "TrustedUpdates$Document" "targetCount" "I") (by decide +kernel)
  have hl : lv_has ls 2 [(0, .ref (ga G k))] := hl
  refine lv_aload_n hx hb dX0_readTargets_0 rfl (lv_at hl 0 rfl) ?_
  refine lv_aload_n hx hb dX0_readTargets_1 rfl (lv_at hl 0 rfl) ?_
  refine lv_iconst (v := 0) hx hb dX0_readTargets_2 (by decide) ?_
  refine lv_iconst (v := 4) hx hb dX0_readTargets_3 (by decide) ?_
  obtain ⟨q1, hq1, h⟩ := ob h
  refine wc_Vi C hW (k := k) (As := [.int 0, .int 4]) (rest := [.ref (ga G k)]) (c_X0_next G k hk 0 4 M q1 hq1) hk rfl (by decide) (cwV 2 hts gX0_readTargets_X0_next rfl rfl rfl yd_X0_next ⟨Nat.le_of_ble_eq_true rfl, Nat.le_of_ble_eq_true rfl⟩) rfl hl.1 rfl (Nat.le_of_ble_eq_true rfl) dX0_readTargets_4 ⟨Nat.le_refl 0, Nat.le_refl 0⟩ (fun H locs hW => ?_)
  refine wp_t C hW (k := k) (ci := 0) (j := 12) (ty := .int) rfl rfl hk rfl ⟨by decide, rfl⟩ inX0 tyX0 tyX0_ok nmX0 (by decide) (rfq hk rfl) hL99 (fun _ h9 => h9) rfl rfl dX0_readTargets_7 (fun H locs hW => ?_)
  refine lv_iconst (v := 0) hx hb dX0_readTargets_10 (by decide) ?_
  refine lv_istore_n (lv' := [(1, .int 0), (0, .ref (ga G k))]) hx hb dX0_readTargets_11 rfl hl (by decide) rfl (fun ls hl => ?_)
  obtain ⟨q5, hq5, h⟩ := ob h
  refine L_X0_readTargets_12 C 200 k hk 0 (up q1.2 k 12 q1.1) q5 _ _ ls hq5 hW (lv_sub hl [1, 0] rfl) (fun H locs ls hW hl => ?_)
  exact wr_v C hr hW h dX0_readTargets_71
theorem yd_X0_readDelegations : yX0_readDelegations.cls = RX0 ∧ yX0_readDelegations.cls ≠ "java/lang/invoke/MethodHandle" ∧ yX0_readDelegations.cls ≠ "java/lang/invoke/VarHandle" ∧ (parseMethodDescriptor yX0_readDelegations.desc).map (fun d => d.parameters.length) = some 0 := by decide +kernel
set_option maxHeartbeats 4000000 in
set_option maxRecDepth 100000 in
theorem L_X0_readDelegations_14 {G : GG} {p : Program} {e : Env} {s : State} {m : MethodId} {args : Array Value} {below : List Frame} {meth : Method} {c : Code} {Q : State → Prop} (C : Cx G wsX0_readDelegations RX0 cX0_readDelegations 4 p s m args meth c) : ∀ (n : Nat) (k0 : Nat) (hk0 : isK k0 0) (x1 : Int32) (x2 : Int32) (M : Me) (y : Int32 × Me) (H : Heap) (locs : List Loc) (ls : Array Slot), fL_X0_readDelegations_14 n k0 x1 x2 M = some y → wH G s M H locs → lv_has ls 4 [(0, .ref (ga G k0)), (1, .int x1), (2, .int x2)] → (∀ (H : Heap) (locs : List Loc) (ls : Array Slot), wH G s y.2 H locs → lv_has ls 4 [] → W p (gl G) e (rmd 3 0 0) s m args below meth c H locs 0 0 Q (F0 m 93 ls [])) → W p (gl G) e (rmd 3 0 0) s m args below meth c H locs 0 0 Q (F0 m 14 ls []) := by
  have hx := C.1
  have hb := C.2.1
  have hown := C.2.2.2.1
  have hts := C.2.2.2.2.1
  have inX0 : ∀ w ∈ wsX00, w ∈ wsX0_readDelegations := by decide +kernel
  have hL30 := hts (.fieldLink RX0 30 "TrustedUpdates$Document" "delegations" "[I") (by decide +kernel)
  have hL61 := hts (.fieldLink RX0 61 "TrustedUpdates$Document" "place" "I") (by decide +kernel)
  have hL64 := hts (.fieldLink RX0 64 "TrustedUpdates$Document" "sound" "Z") (by decide +kernel)
  have hL114 := hts (.fieldLink RX0 114 "TrustedUpdates$Document" "delegationCount" "I") (by decide +kernel)
  intro n
  induction n with
  | zero => intro k0 hk0 x1 x2 M y H locs ls h; exact nso h
  | succ n ih =>
    intro k0 hk0 x1 x2 M y H locs ls h hW hl kx
    rw [fL_X0_readDelegations_14] at h
    refine lv_iload_n hx hb dX0_readDelegations_14 rfl (lv_at hl 2 rfl) ?_
    refine lv_aload_n hx hb dX0_readDelegations_15 rfl (lv_at hl 0 rfl) ?_
    refine wg_i C hW (k := k0) (ci := 0) (j := 13) hk0 rfl ⟨by decide, rfl⟩ inX0 (by decide) (rfq hk0 rfl) (v := (M k0 13)) rfl hL114 (fun _ h9 => h9) dX0_readDelegations_16 ?_
    refine lv_icmp_ge (tgt := 93) hx hb dX0_readDelegations_19 (by decide) (fun c1 => ?_) (fun c1 => ?_)
    · replace h := ift h c1
      cases h
      exact kx _ _ ls hW (lv_sub hl [] rfl)
    · replace h := iff_ h c1
      refine lv_aload_n hx hb dX0_readDelegations_22 rfl (lv_at hl 0 rfl) ?_
      refine wg_r C hW (k := k0) (ci := 0) (j := 4) (q := (k0 + 6)) hk0 rfl ⟨by decide, rfl⟩ inX0 (by decide) (rfq hk0 rfl) hL30 (fun _ h9 => h9) dX0_readDelegations_23 ?_
      refine lv_iload_n hx hb dX0_readDelegations_26 rfl (lv_at hl 2 rfl) ?_
      refine lv_aload_n hx hb dX0_readDelegations_27 rfl (lv_at hl 0 rfl) ?_
      refine wg_i C hW (k := k0) (ci := 0) (j := 5) hk0 rfl ⟨by decide, rfl⟩ inX0 (by decide) (rfq hk0 rfl) (v := (M k0 5)) rfl hL61 (fun _ h9 => h9) dX0_readDelegations_28 ?_
      obtain ⟨hg1, h⟩ := ifg h
      refine wa_s C hW (k := (k0 + 6)) (kd_a6 hk0) hg1 dX0_readDelegations_31 (fun H locs hW => ?_)
      refine lv_aload_n hx hb dX0_readDelegations_32 rfl (lv_at hl 0 rfl) ?_
      refine lv_iconst (v := 4) hx hb dX0_readDelegations_33 (by decide) ?_
      refine lv_bipush (v := 6) hx hb dX0_readDelegations_34 (by decide) ?_
      obtain ⟨q2, hq2, h⟩ := ob h
      refine wc_Vi C hW (k := k0) (As := [.int 4, .int 6]) (rest := []) (c_X0_next G k0 hk0 4 6 (up M (k0 + 6) x2.toNatClampNeg (M k0 5)) q2 hq2) hk0 rfl (by decide) (cwV 2 hts gX0_readDelegations_X0_next rfl rfl rfl yd_X0_next ⟨Nat.le_of_ble_eq_true rfl, Nat.le_of_ble_eq_true rfl⟩) rfl hl.1 rfl (Nat.le_of_ble_eq_true rfl) dX0_readDelegations_36 ⟨Nat.le_refl 0, Nat.le_refl 0⟩ (fun H locs hW => ?_)
      refine lv_istore_n (lv' := [(3, .int q2.1), (0, .ref (ga G k0)), (1, .int x1), (2, .int x2)]) hx hb dX0_readDelegations_39 rfl hl (by decide) rfl (fun ls hl => ?_)
      refine lv_aload_n hx hb dX0_readDelegations_40 rfl (lv_at hl 1 rfl) ?_
      refine lv_aload_n hx hb dX0_readDelegations_41 rfl (lv_at hl 1 rfl) ?_
      refine wg_i C hW (k := k0) (ci := 0) (j := 6) hk0 rfl ⟨by decide, rfl⟩ inX0 (by decide) (rfq hk0 rfl) (v := (q2.2 k0 6)) rfl hL64 (fun _ h9 => h9) dX0_readDelegations_42 ?_
      refine lv_if_eq (tgt := 60) hx hb dX0_readDelegations_45 (by decide) (fun c2 => ?_) (fun c2 => ?_)
      · replace h := ift h c2
        refine lv_iconst (v := 0) hx hb dX0_readDelegations_60 (by decide) ?_
        refine wp_t C hW (k := k0) (ci := 0) (j := 6) (ty := .boolean) (nar_b (Or.inl rfl)).1 (nar_b (Or.inl rfl)).2 hk0 rfl ⟨by decide, rfl⟩ inX0 tyX0 tyX0_ok nmX0 (by decide) (rfq hk0 rfl) hL64 (fun _ h9 => h9) rfl rfl dX0_readDelegations_61 (fun H locs hW => ?_)
        refine lv_iload_n hx hb dX0_readDelegations_64 rfl (lv_at hl 2 rfl) ?_
        refine lv_iconst (v := 1) hx hb dX0_readDelegations_65 (by decide) ?_
        refine lv_iload_n hx hb dX0_readDelegations_66 rfl (lv_at hl 0 rfl) ?_
        refine lv_ishl hx hb dX0_readDelegations_67 ?_
        refine lv_ior hx hb dX0_readDelegations_68 ?_
        refine lv_istore_n (lv' := [(1, .int (x1 ||| (1 <<< (q2.1 &&& 31)))), (3, .int q2.1), (0, .ref (ga G k0)), (2, .int x2)]) hx hb dX0_readDelegations_69 rfl hl (by decide) rfl (fun ls hl => ?_)
        refine lv_aload_n hx hb dX0_readDelegations_70 rfl (lv_at hl 2 rfl) ?_
        refine lv_iconst (v := 0) hx hb dX0_readDelegations_71 (by decide) ?_
        refine lv_iconst (v := 1) hx hb dX0_readDelegations_72 (by decide) ?_
        obtain ⟨q3, hq3, h⟩ := ob h
        refine wc_Vi C hW (k := k0) (As := [.int 0, .int 1]) (rest := []) (c_X0_next G k0 hk0 0 1 (up q2.2 k0 6 0) q3 hq3) hk0 rfl (by decide) (cwV 2 hts gX0_readDelegations_X0_next rfl rfl rfl yd_X0_next ⟨Nat.le_of_ble_eq_true rfl, Nat.le_of_ble_eq_true rfl⟩) rfl hl.1 rfl (Nat.le_of_ble_eq_true rfl) dX0_readDelegations_73 ⟨Nat.le_refl 0, Nat.le_refl 0⟩ (fun H locs hW => ?_)
        refine lv_pop hx hb dX0_readDelegations_76 rfl ?_
        refine lv_aload_n hx hb dX0_readDelegations_77 rfl (lv_at hl 2 rfl) ?_
        obtain ⟨q4, hq4, h⟩ := ob h
        refine wc_Vv C hW (k := k0) (As := []) (rest := []) (c_X0_readKeySet G k0 hk0 q3.2 q4 hq4) hk0 rfl (by decide) (cwV 0 hts gX0_readDelegations_X0_readKeySet rfl rfl rfl yd_X0_readKeySet ⟨Nat.le_of_ble_eq_true rfl, Nat.le_of_ble_eq_true rfl⟩) rfl hl.1 rfl (Nat.le_of_ble_eq_true rfl) dX0_readDelegations_78 ⟨Nat.le_refl 0, Nat.le_refl 0⟩ (fun H locs hW => ?_)
        refine lv_aload_n hx hb dX0_readDelegations_81 rfl (lv_at hl 2 rfl) ?_
        refine lv_iconst (v := 0) hx hb dX0_readDelegations_82 (by decide) ?_
        refine lv_iconst (v := 3) hx hb dX0_readDelegations_83 (by decide) ?_
        obtain ⟨q5, hq5, h⟩ := ob h
        refine wc_Vv C hW (k := k0) (As := [.int 0, .int 3]) (rest := []) (c_X0_readLetters G k0 hk0 0 3 q4.2 q5 hq5) hk0 rfl (by decide) (cwV 2 hts gX0_readDelegations_X0_readLetters rfl rfl rfl yd_X0_readLetters ⟨Nat.le_of_ble_eq_true rfl, Nat.le_of_ble_eq_true rfl⟩) rfl hl.1 rfl (Nat.le_of_ble_eq_true rfl) dX0_readDelegations_84 ⟨Nat.le_refl 0, Nat.le_refl 0⟩ (fun H locs hW => ?_)
        refine lv_iinc (v := (x2 + 1)) (lv' := [(2, .int (x2 + 1)), (1, .int (x1 ||| (1 <<< (q2.1 &&& 31)))), (3, .int q2.1), (0, .ref (ga G k0))]) hx hb dX0_readDelegations_87 hl (k := 3) rfl rfl (by decide) rfl (fun ls hl => ?_)
        refine lv_goto (tgt := 14) hx hb dX0_readDelegations_90 (by decide) ?_
        exact ih k0 hk0 (x1 ||| (1 <<< (q2.1 &&& 31))) (x2 + 1) q5.2 y _ _ ls h hW (lv_sub hl [3, 1, 0] rfl) kx
      · replace h := iff_ h c2
        refine lv_iload_n hx hb dX0_readDelegations_48 rfl (lv_at hl 2 rfl) ?_
        refine lv_iload_n hx hb dX0_readDelegations_49 rfl (lv_at hl 0 rfl) ?_
        refine lv_ishr hx hb dX0_readDelegations_50 ?_
        refine lv_iconst (v := 1) hx hb dX0_readDelegations_51 (by decide) ?_
        refine lv_iand hx hb dX0_readDelegations_52 ?_
        refine lv_if_ne (tgt := 60) hx hb dX0_readDelegations_53 (by decide) (fun c3 => ?_) (fun c3 => ?_)
        · replace h := iff_ h c3
          refine lv_iconst (v := 0) hx hb dX0_readDelegations_60 (by decide) ?_
          refine wp_t C hW (k := k0) (ci := 0) (j := 6) (ty := .boolean) (nar_b (Or.inl rfl)).1 (nar_b (Or.inl rfl)).2 hk0 rfl ⟨by decide, rfl⟩ inX0 tyX0 tyX0_ok nmX0 (by decide) (rfq hk0 rfl) hL64 (fun _ h9 => h9) rfl rfl dX0_readDelegations_61 (fun H locs hW => ?_)
          refine lv_iload_n hx hb dX0_readDelegations_64 rfl (lv_at hl 2 rfl) ?_
          refine lv_iconst (v := 1) hx hb dX0_readDelegations_65 (by decide) ?_
          refine lv_iload_n hx hb dX0_readDelegations_66 rfl (lv_at hl 0 rfl) ?_
          refine lv_ishl hx hb dX0_readDelegations_67 ?_
          refine lv_ior hx hb dX0_readDelegations_68 ?_
          refine lv_istore_n (lv' := [(1, .int (x1 ||| (1 <<< (q2.1 &&& 31)))), (3, .int q2.1), (0, .ref (ga G k0)), (2, .int x2)]) hx hb dX0_readDelegations_69 rfl hl (by decide) rfl (fun ls hl => ?_)
          refine lv_aload_n hx hb dX0_readDelegations_70 rfl (lv_at hl 2 rfl) ?_
          refine lv_iconst (v := 0) hx hb dX0_readDelegations_71 (by decide) ?_
          refine lv_iconst (v := 1) hx hb dX0_readDelegations_72 (by decide) ?_
          obtain ⟨q6, hq6, h⟩ := ob h
          refine wc_Vi C hW (k := k0) (As := [.int 0, .int 1]) (rest := []) (c_X0_next G k0 hk0 0 1 (up q2.2 k0 6 0) q6 hq6) hk0 rfl (by decide) (cwV 2 hts gX0_readDelegations_X0_next rfl rfl rfl yd_X0_next ⟨Nat.le_of_ble_eq_true rfl, Nat.le_of_ble_eq_true rfl⟩) rfl hl.1 rfl (Nat.le_of_ble_eq_true rfl) dX0_readDelegations_73 ⟨Nat.le_refl 0, Nat.le_refl 0⟩ (fun H locs hW => ?_)
          refine lv_pop hx hb dX0_readDelegations_76 rfl ?_
          refine lv_aload_n hx hb dX0_readDelegations_77 rfl (lv_at hl 2 rfl) ?_
          obtain ⟨q7, hq7, h⟩ := ob h
          refine wc_Vv C hW (k := k0) (As := []) (rest := []) (c_X0_readKeySet G k0 hk0 q6.2 q7 hq7) hk0 rfl (by decide) (cwV 0 hts gX0_readDelegations_X0_readKeySet rfl rfl rfl yd_X0_readKeySet ⟨Nat.le_of_ble_eq_true rfl, Nat.le_of_ble_eq_true rfl⟩) rfl hl.1 rfl (Nat.le_of_ble_eq_true rfl) dX0_readDelegations_78 ⟨Nat.le_refl 0, Nat.le_refl 0⟩ (fun H locs hW => ?_)
          refine lv_aload_n hx hb dX0_readDelegations_81 rfl (lv_at hl 2 rfl) ?_
          refine lv_iconst (v := 0) hx hb dX0_readDelegations_82 (by decide) ?_
          refine lv_iconst (v := 3) hx hb dX0_readDelegations_83 (by decide) ?_
          obtain ⟨q8, hq8, h⟩ := ob h
          refine wc_Vv C hW (k := k0) (As := [.int 0, .int 3]) (rest := []) (c_X0_readLetters G k0 hk0 0 3 q7.2 q8 hq8) hk0 rfl (by decide) (cwV 2 hts gX0_readDelegations_X0_readLetters rfl rfl rfl yd_X0_readLetters ⟨Nat.le_of_ble_eq_true rfl, Nat.le_of_ble_eq_true rfl⟩) rfl hl.1 rfl (Nat.le_of_ble_eq_true rfl) dX0_readDelegations_84 ⟨Nat.le_refl 0, Nat.le_refl 0⟩ (fun H locs hW => ?_)
          refine lv_iinc (v := (x2 + 1)) (lv' := [(2, .int (x2 + 1)), (1, .int (x1 ||| (1 <<< (q2.1 &&& 31)))), (3, .int q2.1), (0, .ref (ga G k0))]) hx hb dX0_readDelegations_87 hl (k := 3) rfl rfl (by decide) rfl (fun ls hl => ?_)
          refine lv_goto (tgt := 14) hx hb dX0_readDelegations_90 (by decide) ?_
          exact ih k0 hk0 (x1 ||| (1 <<< (q2.1 &&& 31))) (x2 + 1) q8.2 y _ _ ls h hW (lv_sub hl [3, 1, 0] rfl) kx
        · replace h := ift h c3
          refine lv_iconst (v := 1) hx hb dX0_readDelegations_56 (by decide) ?_
          refine lv_goto (tgt := 61) hx hb dX0_readDelegations_57 (by decide) ?_
          refine wp_t C hW (k := k0) (ci := 0) (j := 6) (ty := .boolean) (nar_b (Or.inr rfl)).1 (nar_b (Or.inr rfl)).2 hk0 rfl ⟨by decide, rfl⟩ inX0 tyX0 tyX0_ok nmX0 (by decide) (rfq hk0 rfl) hL64 (fun _ h9 => h9) rfl rfl dX0_readDelegations_61 (fun H locs hW => ?_)
          refine lv_iload_n hx hb dX0_readDelegations_64 rfl (lv_at hl 2 rfl) ?_
          refine lv_iconst (v := 1) hx hb dX0_readDelegations_65 (by decide) ?_
          refine lv_iload_n hx hb dX0_readDelegations_66 rfl (lv_at hl 0 rfl) ?_
          refine lv_ishl hx hb dX0_readDelegations_67 ?_
          refine lv_ior hx hb dX0_readDelegations_68 ?_
          refine lv_istore_n (lv' := [(1, .int (x1 ||| (1 <<< (q2.1 &&& 31)))), (3, .int q2.1), (0, .ref (ga G k0)), (2, .int x2)]) hx hb dX0_readDelegations_69 rfl hl (by decide) rfl (fun ls hl => ?_)
          refine lv_aload_n hx hb dX0_readDelegations_70 rfl (lv_at hl 2 rfl) ?_
          refine lv_iconst (v := 0) hx hb dX0_readDelegations_71 (by decide) ?_
          refine lv_iconst (v := 1) hx hb dX0_readDelegations_72 (by decide) ?_
          obtain ⟨q9, hq9, h⟩ := ob h
          refine wc_Vi C hW (k := k0) (As := [.int 0, .int 1]) (rest := []) (c_X0_next G k0 hk0 0 1 (up q2.2 k0 6 1) q9 hq9) hk0 rfl (by decide) (cwV 2 hts gX0_readDelegations_X0_next rfl rfl rfl yd_X0_next ⟨Nat.le_of_ble_eq_true rfl, Nat.le_of_ble_eq_true rfl⟩) rfl hl.1 rfl (Nat.le_of_ble_eq_true rfl) dX0_readDelegations_73 ⟨Nat.le_refl 0, Nat.le_refl 0⟩ (fun H locs hW => ?_)
          refine lv_pop hx hb dX0_readDelegations_76 rfl ?_
          refine lv_aload_n hx hb dX0_readDelegations_77 rfl (lv_at hl 2 rfl) ?_
          obtain ⟨q10, hq10, h⟩ := ob h
          refine wc_Vv C hW (k := k0) (As := []) (rest := []) (c_X0_readKeySet G k0 hk0 q9.2 q10 hq10) hk0 rfl (by decide) (cwV 0 hts gX0_readDelegations_X0_readKeySet rfl rfl rfl yd_X0_readKeySet ⟨Nat.le_of_ble_eq_true rfl, Nat.le_of_ble_eq_true rfl⟩) rfl hl.1 rfl (Nat.le_of_ble_eq_true rfl) dX0_readDelegations_78 ⟨Nat.le_refl 0, Nat.le_refl 0⟩ (fun H locs hW => ?_)
          refine lv_aload_n hx hb dX0_readDelegations_81 rfl (lv_at hl 2 rfl) ?_
          refine lv_iconst (v := 0) hx hb dX0_readDelegations_82 (by decide) ?_
          refine lv_iconst (v := 3) hx hb dX0_readDelegations_83 (by decide) ?_
          obtain ⟨q11, hq11, h⟩ := ob h
          refine wc_Vv C hW (k := k0) (As := [.int 0, .int 3]) (rest := []) (c_X0_readLetters G k0 hk0 0 3 q10.2 q11 hq11) hk0 rfl (by decide) (cwV 2 hts gX0_readDelegations_X0_readLetters rfl rfl rfl yd_X0_readLetters ⟨Nat.le_of_ble_eq_true rfl, Nat.le_of_ble_eq_true rfl⟩) rfl hl.1 rfl (Nat.le_of_ble_eq_true rfl) dX0_readDelegations_84 ⟨Nat.le_refl 0, Nat.le_refl 0⟩ (fun H locs hW => ?_)
          refine lv_iinc (v := (x2 + 1)) (lv' := [(2, .int (x2 + 1)), (1, .int (x1 ||| (1 <<< (q2.1 &&& 31)))), (3, .int q2.1), (0, .ref (ga G k0))]) hx hb dX0_readDelegations_87 hl (k := 3) rfl rfl (by decide) rfl (fun ls hl => ?_)
          refine lv_goto (tgt := 14) hx hb dX0_readDelegations_90 (by decide) ?_
          exact ih k0 hk0 (x1 ||| (1 <<< (q2.1 &&& 31))) (x2 + 1) q11.2 y _ _ ls h hW (lv_sub hl [3, 1, 0] rfl) kx
set_option maxHeartbeats 4000000 in
set_option maxRecDepth 100000 in
theorem c_X0_readDelegations (G : GG) (k : Nat) (hk : isK k 0) (M : Me) (y : Int32 × Me) (h : f_X0_readDelegations k M = some y) : CV G yX0_readDelegations wsX0_readDelegations (rmd 3 0 0) [.ref (ga G k)] M y := by
  rw [f_X0_readDelegations] at h
  refine co_o (by decide) rfl rfl (Nat.le_of_ble_eq_true rfl) (fun p e s m below meth c ls C hr hW hl => ?_)
  have hx := C.1
  have hb := C.2.1
  have hown := C.2.2.2.1
  have hts := C.2.2.2.2.1
  have inX0 : ∀ w ∈ wsX00, w ∈ wsX0_readDelegations := by decide +kernel
  have hL114 := hts (.fieldLink RX0 114 "TrustedUpdates$Document" "delegationCount" "I") (by decide +kernel)
  have hl : lv_has ls 4 [(0, .ref (ga G k))] := hl
  refine lv_aload_n hx hb dX0_readDelegations_0 rfl (lv_at hl 0 rfl) ?_
  refine lv_aload_n hx hb dX0_readDelegations_1 rfl (lv_at hl 0 rfl) ?_
  refine lv_iconst (v := 0) hx hb dX0_readDelegations_2 (by decide) ?_
  refine lv_iconst (v := 3) hx hb dX0_readDelegations_3 (by decide) ?_
  obtain ⟨q1, hq1, h⟩ := ob h
  refine wc_Vi C hW (k := k) (As := [.int 0, .int 3]) (rest := [.ref (ga G k)]) (c_X0_next G k hk 0 3 M q1 hq1) hk rfl (by decide) (cwV 2 hts gX0_readDelegations_X0_next rfl rfl rfl yd_X0_next ⟨Nat.le_of_ble_eq_true rfl, Nat.le_of_ble_eq_true rfl⟩) rfl hl.1 rfl (Nat.le_of_ble_eq_true rfl) dX0_readDelegations_4 ⟨Nat.le_refl 0, Nat.le_refl 0⟩ (fun H locs hW => ?_)
  refine wp_t C hW (k := k) (ci := 0) (j := 13) (ty := .int) rfl rfl hk rfl ⟨by decide, rfl⟩ inX0 tyX0 tyX0_ok nmX0 (by decide) (rfq hk rfl) hL114 (fun _ h9 => h9) rfl rfl dX0_readDelegations_7 (fun H locs hW => ?_)
  refine lv_iconst (v := 0) hx hb dX0_readDelegations_10 (by decide) ?_
  refine lv_istore_n (lv' := [(1, .int 0), (0, .ref (ga G k))]) hx hb dX0_readDelegations_11 rfl hl (by decide) rfl (fun ls hl => ?_)
  refine lv_iconst (v := 0) hx hb dX0_readDelegations_12 (by decide) ?_
  refine lv_istore_n (lv' := [(2, .int 0), (1, .int 0), (0, .ref (ga G k))]) hx hb dX0_readDelegations_13 rfl hl (by decide) rfl (fun ls hl => ?_)
  obtain ⟨q12, hq12, h⟩ := ob h
  refine L_X0_readDelegations_14 C 200 k hk 0 0 (up q1.2 k 13 q1.1) q12 _ _ ls hq12 hW (lv_sub hl [2, 1, 0] rfl) (fun H locs ls hW hl => ?_)
  exact wr_v C hr hW h dX0_readDelegations_93
theorem yd_X0_readSigned : yX0_readSigned.cls = RX0 ∧ yX0_readSigned.cls ≠ "java/lang/invoke/MethodHandle" ∧ yX0_readSigned.cls ≠ "java/lang/invoke/VarHandle" ∧ (parseMethodDescriptor yX0_readSigned.desc).map (fun d => d.parameters.length) = some 0 := by decide +kernel
set_option maxHeartbeats 4000000 in
set_option maxRecDepth 100000 in
theorem c_X0_readSigned (G : GG) (k : Nat) (hk : isK k 0) (M : Me) (y : Int32 × Me) (h : f_X0_readSigned k M = some y) : CV G yX0_readSigned wsX0_readSigned (rmd 4 0 0) [.ref (ga G k)] M y := by
  rw [f_X0_readSigned] at h
  refine co_o (by decide) rfl rfl (Nat.le_of_ble_eq_true rfl) (fun p e s m below meth c ls C hr hW hl => ?_)
  have hx := C.1
  have hb := C.2.1
  have hown := C.2.2.2.1
  have hts := C.2.2.2.2.1
  have inX0 : ∀ w ∈ wsX00, w ∈ wsX0_readSigned := by decide +kernel
  have hL40 := hts (.fieldLink RX0 40 "TrustedUpdates$Document" "role" "I") (by decide +kernel)
  have hL44 := hts (.fieldLink RX0 44 "TrustedUpdates$Document" "version" "I") (by decide +kernel)
  have hL47 := hts (.fieldLink RX0 47 "TrustedUpdates$Document" "end" "I") (by decide +kernel)
  have hl : lv_has ls 2 [(0, .ref (ga G k))] := hl
  refine lv_aload_n hx hb dX0_readSigned_0 rfl (lv_at hl 0 rfl) ?_
  refine lv_aload_n hx hb dX0_readSigned_1 rfl (lv_at hl 0 rfl) ?_
  refine lv_iconst (v := 0) hx hb dX0_readSigned_2 (by decide) ?_
  refine lv_bipush (v := 6) hx hb dX0_readSigned_3 (by decide) ?_
  obtain ⟨q1, hq1, h⟩ := ob h
  refine wc_Vi C hW (k := k) (As := [.int 0, .int 6]) (rest := [.ref (ga G k)]) (c_X0_next G k hk 0 6 M q1 hq1) hk rfl (by decide) (cwV 2 hts gX0_readSigned_X0_next rfl rfl rfl yd_X0_next ⟨Nat.le_of_ble_eq_true rfl, Nat.le_of_ble_eq_true rfl⟩) rfl hl.1 rfl (Nat.le_of_ble_eq_true rfl) dX0_readSigned_5 ⟨Nat.le_refl 0, Nat.le_refl 0⟩ (fun H locs hW => ?_)
  refine wp_t C hW (k := k) (ci := 0) (j := 9) (ty := .int) rfl rfl hk rfl ⟨by decide, rfl⟩ inX0 tyX0 tyX0_ok nmX0 (by decide) (rfq hk rfl) hL40 (fun _ h9 => h9) rfl rfl dX0_readSigned_8 (fun H locs hW => ?_)
  refine lv_aload_n hx hb dX0_readSigned_11 rfl (lv_at hl 0 rfl) ?_
  refine lv_aload_n hx hb dX0_readSigned_12 rfl (lv_at hl 0 rfl) ?_
  refine lv_iconst (v := 1) hx hb dX0_readSigned_13 (by decide) ?_
  refine lv_sipush (v := 255) hx hb dX0_readSigned_14 (by decide) ?_
  obtain ⟨q2, hq2, h⟩ := ob h
  refine wc_Vi C hW (k := k) (As := [.int 1, .int 255]) (rest := [.ref (ga G k)]) (c_X0_next G k hk 1 255 (up q1.2 k 9 q1.1) q2 hq2) hk rfl (by decide) (cwV 2 hts gX0_readSigned_X0_next rfl rfl rfl yd_X0_next ⟨Nat.le_of_ble_eq_true rfl, Nat.le_of_ble_eq_true rfl⟩) rfl hl.1 rfl (Nat.le_of_ble_eq_true rfl) dX0_readSigned_17 ⟨Nat.le_refl 0, Nat.le_refl 0⟩ (fun H locs hW => ?_)
  refine wp_t C hW (k := k) (ci := 0) (j := 10) (ty := .int) rfl rfl hk rfl ⟨by decide, rfl⟩ inX0 tyX0 tyX0_ok nmX0 (by decide) (rfq hk rfl) hL44 (fun _ h9 => h9) rfl rfl dX0_readSigned_20 (fun H locs hW => ?_)
  refine lv_aload_n hx hb dX0_readSigned_23 rfl (lv_at hl 0 rfl) ?_
  refine lv_iconst (v := 0) hx hb dX0_readSigned_24 (by decide) ?_
  refine lv_sipush (v := 255) hx hb dX0_readSigned_25 (by decide) ?_
  obtain ⟨q3, hq3, h⟩ := ob h
  refine wc_Vi C hW (k := k) (As := [.int 0, .int 255]) (rest := []) (c_X0_next G k hk 0 255 (up q2.2 k 10 q2.1) q3 hq3) hk rfl (by decide) (cwV 2 hts gX0_readSigned_X0_next rfl rfl rfl yd_X0_next ⟨Nat.le_of_ble_eq_true rfl, Nat.le_of_ble_eq_true rfl⟩) rfl hl.1 rfl (Nat.le_of_ble_eq_true rfl) dX0_readSigned_28 ⟨Nat.le_refl 0, Nat.le_refl 0⟩ (fun H locs hW => ?_)
  refine lv_istore_n (lv' := [(1, .int q3.1), (0, .ref (ga G k))]) hx hb dX0_readSigned_31 rfl hl (by decide) rfl (fun ls hl => ?_)
  refine lv_aload_n hx hb dX0_readSigned_32 rfl (lv_at hl 1 rfl) ?_
  refine lv_iload_n hx hb dX0_readSigned_33 rfl (lv_at hl 0 rfl) ?_
  refine lv_bipush (v := 8) hx hb dX0_readSigned_34 (by decide) ?_
  refine lv_ishl hx hb dX0_readSigned_36 ?_
  refine lv_aload_n hx hb dX0_readSigned_37 rfl (lv_at hl 1 rfl) ?_
  refine lv_iconst (v := 0) hx hb dX0_readSigned_38 (by decide) ?_
  refine lv_sipush (v := 255) hx hb dX0_readSigned_39 (by decide) ?_
  obtain ⟨q4, hq4, h⟩ := ob h
  refine wc_Vi C hW (k := k) (As := [.int 0, .int 255]) (rest := [.int (q3.1 <<< (8 &&& 31)), .ref (ga G k)]) (c_X0_next G k hk 0 255 q3.2 q4 hq4) hk rfl (by decide) (cwV 2 hts gX0_readSigned_X0_next rfl rfl rfl yd_X0_next ⟨Nat.le_of_ble_eq_true rfl, Nat.le_of_ble_eq_true rfl⟩) rfl hl.1 rfl (Nat.le_of_ble_eq_true rfl) dX0_readSigned_42 ⟨Nat.le_refl 0, Nat.le_refl 0⟩ (fun H locs hW => ?_)
  refine lv_ior hx hb dX0_readSigned_45 ?_
  refine wp_t C hW (k := k) (ci := 0) (j := 11) (ty := .int) rfl rfl hk rfl ⟨by decide, rfl⟩ inX0 tyX0 tyX0_ok nmX0 (by decide) (rfq hk rfl) hL47 (fun _ h9 => h9) rfl rfl dX0_readSigned_46 (fun H locs hW => ?_)
  refine lv_aload_n hx hb dX0_readSigned_49 rfl (lv_at hl 1 rfl) ?_
  refine wg_i C hW (k := k) (ci := 0) (j := 9) hk rfl ⟨by decide, rfl⟩ inX0 (by decide) (rfq hk rfl) (v := (q4.2 k 9)) (up_j (by decide)) hL40 (fun _ h9 => h9) dX0_readSigned_50 ?_
  by_cases c1 : (q4.2 k 9) = 0
  · replace h := ift h c1
    refine lv_tableIn (tgt := 80) hx hb dX0_readSigned_53 (by rw [c1]; decide) (by rw [c1]; decide) (by rw [c1]; rfl) (by decide) ?_
    refine lv_aload_n hx hb dX0_readSigned_80 rfl (lv_at hl 1 rfl) ?_
    obtain ⟨q5, hq5, h⟩ := ob h
    refine wc_Vv C hW (k := k) (As := []) (rest := []) (c_X0_readRootKeySets G k hk (up q4.2 k 11 ((q3.1 <<< (8 &&& 31)) ||| q4.1)) q5 hq5) hk rfl (by decide) (cwV 0 hts gX0_readSigned_X0_readRootKeySets rfl rfl rfl yd_X0_readRootKeySets ⟨Nat.le_of_ble_eq_true rfl, Nat.le_of_ble_eq_true rfl⟩) rfl hl.1 rfl (Nat.le_of_ble_eq_true rfl) dX0_readSigned_81 ⟨Nat.le_refl 0, Nat.le_refl 0⟩ (fun H locs hW => ?_)
    refine lv_goto (tgt := 119) hx hb dX0_readSigned_84 (by decide) ?_
    exact wr_v C hr hW h dX0_readSigned_119
  replace h := iff_ h c1
  by_cases c2 : (q4.2 k 9) = 1
  · replace h := ift h c2
    refine lv_tableIn (tgt := 87) hx hb dX0_readSigned_53 (by rw [c2]; decide) (by rw [c2]; decide) (by rw [c2]; rfl) (by decide) ?_
    refine lv_aload_n hx hb dX0_readSigned_87 rfl (lv_at hl 1 rfl) ?_
    refine lv_iconst (v := 1) hx hb dX0_readSigned_88 (by decide) ?_
    refine lv_sipush (v := 255) hx hb dX0_readSigned_89 (by decide) ?_
    obtain ⟨q6, hq6, h⟩ := ob h
    refine wc_Vi C hW (k := k) (As := [.int 1, .int 255]) (rest := []) (c_X0_next G k hk 1 255 (up q4.2 k 11 ((q3.1 <<< (8 &&& 31)) ||| q4.1)) q6 hq6) hk rfl (by decide) (cwV 2 hts gX0_readSigned_X0_next rfl rfl rfl yd_X0_next ⟨Nat.le_of_ble_eq_true rfl, Nat.le_of_ble_eq_true rfl⟩) rfl hl.1 rfl (Nat.le_of_ble_eq_true rfl) dX0_readSigned_92 ⟨Nat.le_refl 0, Nat.le_refl 0⟩ (fun H locs hW => ?_)
    refine lv_pop hx hb dX0_readSigned_95 rfl ?_
    refine lv_aload_n hx hb dX0_readSigned_96 rfl (lv_at hl 1 rfl) ?_
    refine lv_iconst (v := 4) hx hb dX0_readSigned_97 (by decide) ?_
    obtain ⟨q7, hq7, h⟩ := ob h
    refine wc_Vv C hW (k := k) (As := [.int 4]) (rest := []) (c_X0_skip G k hk 4 q6.2 q7 hq7) hk rfl (by decide) (cwV 1 hts gX0_readSigned_X0_skip rfl rfl rfl yd_X0_skip ⟨Nat.le_of_ble_eq_true rfl, Nat.le_of_ble_eq_true rfl⟩) rfl hl.1 rfl (Nat.le_of_ble_eq_true rfl) dX0_readSigned_98 ⟨Nat.le_refl 0, Nat.le_refl 0⟩ (fun H locs hW => ?_)
    refine lv_goto (tgt := 119) hx hb dX0_readSigned_101 (by decide) ?_
    exact wr_v C hr hW h dX0_readSigned_119
  replace h := iff_ h c2
  by_cases c3 : (q4.2 k 9) = 2
  · replace h := ift h c3
    refine lv_tableIn (tgt := 104) hx hb dX0_readSigned_53 (by rw [c3]; decide) (by rw [c3]; decide) (by rw [c3]; rfl) (by decide) ?_
    refine lv_aload_n hx hb dX0_readSigned_104 rfl (lv_at hl 1 rfl) ?_
    obtain ⟨q8, hq8, h⟩ := ob h
    refine wc_Vv C hW (k := k) (As := []) (rest := []) (c_X0_readEntries G k hk (up q4.2 k 11 ((q3.1 <<< (8 &&& 31)) ||| q4.1)) q8 hq8) hk rfl (by decide) (cwV 0 hts gX0_readSigned_X0_readEntries rfl rfl rfl yd_X0_readEntries ⟨Nat.le_of_ble_eq_true rfl, Nat.le_of_ble_eq_true rfl⟩) rfl hl.1 rfl (Nat.le_of_ble_eq_true rfl) dX0_readSigned_105 ⟨Nat.le_refl 0, Nat.le_refl 0⟩ (fun H locs hW => ?_)
    refine lv_goto (tgt := 119) hx hb dX0_readSigned_108 (by decide) ?_
    exact wr_v C hr hW h dX0_readSigned_119
  replace h := iff_ h c3
  refine lv_tableOut (tgt := 111) hx hb dX0_readSigned_53 (tb_out2 c1 c2 c3) (by decide) ?_
  refine lv_aload_n hx hb dX0_readSigned_111 rfl (lv_at hl 1 rfl) ?_
  obtain ⟨q9, hq9, h⟩ := ob h
  refine wc_Vv C hW (k := k) (As := []) (rest := []) (c_X0_readTargets G k hk (up q4.2 k 11 ((q3.1 <<< (8 &&& 31)) ||| q4.1)) q9 hq9) hk rfl (by decide) (cwV 0 hts gX0_readSigned_X0_readTargets rfl rfl rfl yd_X0_readTargets ⟨Nat.le_of_ble_eq_true rfl, Nat.le_of_ble_eq_true rfl⟩) rfl hl.1 rfl (Nat.le_of_ble_eq_true rfl) dX0_readSigned_112 ⟨Nat.le_refl 0, Nat.le_refl 0⟩ (fun H locs hW => ?_)
  refine lv_aload_n hx hb dX0_readSigned_115 rfl (lv_at hl 1 rfl) ?_
  obtain ⟨q10, hq10, h⟩ := ob h
  refine wc_Vv C hW (k := k) (As := []) (rest := []) (c_X0_readDelegations G k hk q9.2 q10 hq10) hk rfl (by decide) (cwV 0 hts gX0_readSigned_X0_readDelegations rfl rfl rfl yd_X0_readDelegations ⟨Nat.le_of_ble_eq_true rfl, Nat.le_of_ble_eq_true rfl⟩) rfl hl.1 rfl (Nat.le_of_ble_eq_true rfl) dX0_readSigned_116 ⟨Nat.le_refl 0, Nat.le_refl 0⟩ (fun H locs hW => ?_)
  exact wr_v C hr hW h dX0_readSigned_119
