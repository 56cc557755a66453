theorem yd_X3_documentOf : yX3_documentOf.cls = RX3 ∧ yX3_documentOf.cls ≠ "java/lang/invoke/MethodHandle" ∧ yX3_documentOf.cls ≠ "java/lang/invoke/VarHandle" ∧ (parseMethodDescriptor yX3_documentOf.desc).map (fun d => d.parameters.length) = some 1 := by decide +kernel
set_option maxHeartbeats 4000000 in
set_option maxRecDepth 100000 in
theorem c_X3_documentOf (G : GG) (a1 : Int32) (M : Me) (y : Nat × Me) (h : f_X3_documentOf a1 M = some y) : CR G yX3_documentOf wsX3_documentOf (rmd 0 0 0) [.ref (ga G 69), .int a1] M y := by
  rw [f_X3_documentOf] at h
  refine co_o (by decide) rfl rfl (Nat.le_of_ble_eq_true rfl) (fun p e s m below meth c ls C hr hW hl => ?_)
  have hx := C.1
  have hb := C.2.1
  have hown := C.2.2.2.1
  have hts := C.2.2.2.2.1
  have inX3 : ∀ w ∈ wsX30, w ∈ wsX3_documentOf := by decide +kernel
  have hL12 := hts (.fieldLink RX3 12 "TrustedUpdates$Trust" "none" "LTrustedUpdates$Document;") (by decide +kernel)
  have hL18 := hts (.fieldLink RX3 18 "TrustedUpdates$Trust" "documents" "[LTrustedUpdates$Document;") (by decide +kernel)
  have hl : lv_has ls 2 [(0, .ref (ga G 69)), (1, .int a1)] := hl
  refine lv_iload_n hx hb dX3_documentOf_0 rfl (lv_at hl 1 rfl) ?_
  refine lv_if_lt (tgt := 19) hx hb dX3_documentOf_1 (by decide) (fun c1 => ?_) (fun c1 => ?_)
  · replace h := ift h c1
    refine lv_aload_n hx hb dX3_documentOf_19 rfl (lv_at hl 0 rfl) ?_
    refine wg_r C hW (k := 69) (ci := 3) (j := 1) (q := 49) k69 rfl ⟨by decide, rfl⟩ inX3 (by decide) (rfq k69 rfl) hL12 (fun _ h9 => h9) dX3_documentOf_20 ?_
    exact wr_r C hr (Or.inl ⟨_, rfl⟩) hW h dX3_documentOf_23
  · replace h := iff_ h c1
    refine lv_iload_n hx hb dX3_documentOf_4 rfl (lv_at hl 1 rfl) ?_
    refine lv_bipush (v := 6) hx hb dX3_documentOf_5 (by decide) ?_
    refine lv_icmp_gt (tgt := 19) hx hb dX3_documentOf_7 (by decide) (fun c2 => ?_) (fun c2 => ?_)
    · replace h := ift h c2
      refine lv_aload_n hx hb dX3_documentOf_19 rfl (lv_at hl 0 rfl) ?_
      refine wg_r C hW (k := 69) (ci := 3) (j := 1) (q := 49) k69 rfl ⟨by decide, rfl⟩ inX3 (by decide) (rfq k69 rfl) hL12 (fun _ h9 => h9) dX3_documentOf_20 ?_
      exact wr_r C hr (Or.inl ⟨_, rfl⟩) hW h dX3_documentOf_23
    · replace h := iff_ h c2
      refine lv_aload_n hx hb dX3_documentOf_10 rfl (lv_at hl 0 rfl) ?_
      refine wg_r C hW (k := 69) (ci := 3) (j := 0) (q := 70) k69 rfl ⟨by decide, rfl⟩ inX3 (by decide) (rfq k69 rfl) hL18 (fun _ h9 => h9) dX3_documentOf_11 ?_
      refine lv_iload_n hx hb dX3_documentOf_14 rfl (lv_at hl 1 rfl) ?_
      obtain ⟨hg1, h⟩ := ifg h
      have hk1 := kd_of hg1
      refine wd_l C hW k70 hg1 dX3_documentOf_15 ?_
      refine lv_goto (tgt := 23) hx hb dX3_documentOf_16 (by decide) ?_
      exact wr_r C hr (Or.inl ⟨_, rfl⟩) hW h dX3_documentOf_23
theorem yd_X3_findsEnded : yX3_findsEnded.cls = RX3 ∧ yX3_findsEnded.cls ≠ "java/lang/invoke/MethodHandle" ∧ yX3_findsEnded.cls ≠ "java/lang/invoke/VarHandle" ∧ (parseMethodDescriptor yX3_findsEnded.desc).map (fun d => d.parameters.length) = some 1 := by decide +kernel
set_option maxHeartbeats 4000000 in
set_option maxRecDepth 100000 in
theorem c_X3_findsEnded (G : GG) (b1 : Nat) (hb1 : isK b1 0) (M : Me) (y : Int32 × Me) (h : f_X3_findsEnded b1 M = some y) : CI G yX3_findsEnded wsX3_findsEnded (rmd 1 0 0) [.ref (ga G 69), .ref (ga G b1)] M y := by
  rw [f_X3_findsEnded] at h
  refine co_o (by decide) rfl rfl (Nat.le_of_ble_eq_true rfl) (fun p e s m below meth c ls C hr hW hl => ?_)
  have hx := C.1
  have hb := C.2.1
  have hown := C.2.2.2.1
  have hts := C.2.2.2.2.1
  have inX3 : ∀ w ∈ wsX30, w ∈ wsX3_findsEnded := by decide +kernel
  have hL22 := hts (.fieldLink RX3 22 "TrustedUpdates$Trust" "clock" "I") (by decide +kernel)
  have hl : lv_has ls 2 [(0, .ref (ga G 69)), (1, .ref (ga G b1))] := hl
  refine lv_aload_n hx hb dX3_findsEnded_0 rfl (lv_at hl 1 rfl) ?_
  obtain ⟨q1, hq1, h⟩ := ob h
  refine wc_Vi C hW (k := b1) (As := []) (rest := []) (c_X0_end G b1 hb1 M q1 hq1) hb1 rfl (by decide) (cwV 0 hts gX3_findsEnded_X0_end rfl rfl rfl yd_X0_end ⟨Nat.le_of_ble_eq_true rfl, Nat.le_of_ble_eq_true rfl⟩) rfl hl.1 rfl (Nat.le_of_ble_eq_true rfl) dX3_findsEnded_1 ⟨Nat.le_refl 0, Nat.le_refl 0⟩ (fun H locs hW => ?_)
  refine lv_aload_n hx hb dX3_findsEnded_4 rfl (lv_at hl 0 rfl) ?_
  refine wg_i C hW (k := 69) (ci := 3) (j := 2) k69 rfl ⟨by decide, rfl⟩ inX3 (by decide) (rfq k69 rfl) (v := (q1.2 69 2)) rfl hL22 (fun _ h9 => h9) dX3_findsEnded_5 ?_
  refine lv_icmp_gt (tgt := 15) hx hb dX3_findsEnded_8 (by decide) (fun c1 => ?_) (fun c1 => ?_)
  · replace h := ift h c1
    refine lv_iconst (v := 0) hx hb dX3_findsEnded_15 (by decide) ?_
    exact wr_z C hr (Or.inl rfl) hW h dX3_findsEnded_16
  · replace h := iff_ h c1
    refine lv_iconst (v := 1) hx hb dX3_findsEnded_11 (by decide) ?_
    refine lv_goto (tgt := 16) hx hb dX3_findsEnded_12 (by decide) ?_
    exact wr_z C hr (Or.inr rfl) hW h dX3_findsEnded_16
theorem yd_X3_isInForce : yX3_isInForce.cls = RX3 ∧ yX3_isInForce.cls ≠ "java/lang/invoke/MethodHandle" ∧ yX3_isInForce.cls ≠ "java/lang/invoke/VarHandle" ∧ (parseMethodDescriptor yX3_isInForce.desc).map (fun d => d.parameters.length) = some 1 := by decide +kernel
set_option maxHeartbeats 4000000 in
set_option maxRecDepth 100000 in
theorem c_X3_isInForce (G : GG) (a1 : Int32) (M : Me) (y : Int32 × Me) (h : f_X3_isInForce a1 M = some y) : CI G yX3_isInForce wsX3_isInForce (rmd 2 0 0) [.ref (ga G 69), .int a1] M y := by
  rw [f_X3_isInForce] at h
  refine co_o (by decide) rfl rfl (Nat.le_of_ble_eq_true rfl) (fun p e s m below meth c ls C hr hW hl => ?_)
  have hx := C.1
  have hb := C.2.1
  have hown := C.2.2.2.1
  have hts := C.2.2.2.2.1
  have hl : lv_has ls 3 [(0, .ref (ga G 69)), (1, .int a1)] := hl
  refine lv_aload_n hx hb dX3_isInForce_0 rfl (lv_at hl 0 rfl) ?_
  refine lv_iload_n hx hb dX3_isInForce_1 rfl (lv_at hl 1 rfl) ?_
  obtain ⟨q1, hq1, h⟩ := ob h
  refine wc_Vr C hW (k := 69) (As := [.int a1]) (rest := []) (c_X3_documentOf G a1 M q1 hq1) k69 rfl (by decide) (cwV 1 hts gX3_isInForce_X3_documentOf rfl rfl rfl yd_X3_documentOf ⟨Nat.le_of_ble_eq_true rfl, Nat.le_of_ble_eq_true rfl⟩) rfl hl.1 rfl (Nat.le_of_ble_eq_true rfl) dX3_isInForce_2 ⟨Nat.le_refl 0, Nat.le_refl 0⟩ (fun H locs hW => ?_)
  obtain ⟨hg1, h⟩ := ifg h
  have hkq1 := kB_is hg1
  refine lv_astore_n (lv' := [(2, .ref (ga G q1.1)), (0, .ref (ga G 69)), (1, .int a1)]) hx hb dX3_isInForce_5 rfl hl (by decide) rfl (fun ls hl => ?_)
  refine lv_aload_n hx hb dX3_isInForce_6 rfl (lv_at hl 0 rfl) ?_
  obtain ⟨q2, hq2, h⟩ := ob h
  refine wc_Vi C hW (k := q1.1) (As := []) (rest := []) (c_X0_isWhole G q1.1 hkq1 q1.2 q2 hq2) hkq1 rfl (by decide) (cwV 0 hts gX3_isInForce_X0_isWhole rfl rfl rfl yd_X0_isWhole ⟨Nat.le_of_ble_eq_true rfl, Nat.le_of_ble_eq_true rfl⟩) rfl hl.1 rfl (Nat.le_of_ble_eq_true rfl) dX3_isInForce_7 ⟨Nat.le_refl 0, Nat.le_refl 0⟩ (fun H locs hW => ?_)
  refine lv_if_eq (tgt := 25) hx hb dX3_isInForce_10 (by decide) (fun c1 => ?_) (fun c1 => ?_)
  · replace h := ift h c1
    refine lv_iconst (v := 0) hx hb dX3_isInForce_25 (by decide) ?_
    exact wr_z C hr (Or.inl rfl) hW h dX3_isInForce_26
  · replace h := iff_ h c1
    refine lv_aload_n hx hb dX3_isInForce_13 rfl (lv_at hl 1 rfl) ?_
    refine lv_aload_n hx hb dX3_isInForce_14 rfl (lv_at hl 0 rfl) ?_
    obtain ⟨q3, hq3, h⟩ := ob h
    refine wc_Vi C hW (k := 69) (As := [.ref (ga G q1.1)]) (rest := []) (c_X3_findsEnded G q1.1 hkq1 q2.2 q3 hq3) k69 rfl (by decide) (cwV 1 hts gX3_isInForce_X3_findsEnded rfl rfl rfl yd_X3_findsEnded ⟨Nat.le_of_ble_eq_true rfl, Nat.le_of_ble_eq_true rfl⟩) rfl hl.1 rfl (Nat.le_of_ble_eq_true rfl) dX3_isInForce_15 ⟨Nat.le_refl 0, Nat.le_refl 0⟩ (fun H locs hW => ?_)
    refine lv_if_ne (tgt := 25) hx hb dX3_isInForce_18 (by decide) (fun c2 => ?_) (fun c2 => ?_)
    · replace h := iff_ h c2
      refine lv_iconst (v := 0) hx hb dX3_isInForce_25 (by decide) ?_
      exact wr_z C hr (Or.inl rfl) hW h dX3_isInForce_26
    · replace h := ift h c2
      refine lv_iconst (v := 1) hx hb dX3_isInForce_21 (by decide) ?_
      refine lv_goto (tgt := 26) hx hb dX3_isInForce_22 (by decide) ?_
      exact wr_z C hr (Or.inr rfl) hW h dX3_isInForce_26
theorem yd_X3_isFresh : yX3_isFresh.cls = RX3 ∧ yX3_isFresh.cls ≠ "java/lang/invoke/MethodHandle" ∧ yX3_isFresh.cls ≠ "java/lang/invoke/VarHandle" ∧ (parseMethodDescriptor yX3_isFresh.desc).map (fun d => d.parameters.length) = some 1 := by decide +kernel
set_option maxHeartbeats 4000000 in
set_option maxRecDepth 100000 in
theorem c_X3_isFresh (G : GG) (a1 : Int32) (M : Me) (y : Int32 × Me) (h : f_X3_isFresh a1 M = some y) : CI G yX3_isFresh wsX3_isFresh (rmd 3 0 0) [.ref (ga G 69), .int a1] M y := by
  rw [f_X3_isFresh] at h
  refine co_o (by decide) rfl rfl (Nat.le_of_ble_eq_true rfl) (fun p e s m below meth c ls C hr hW hl => ?_)
  have hx := C.1
  have hb := C.2.1
  have hown := C.2.2.2.1
  have hts := C.2.2.2.2.1
  have hl : lv_has ls 2 [(0, .ref (ga G 69)), (1, .int a1)] := hl
  refine lv_aload_n hx hb dX3_isFresh_0 rfl (lv_at hl 0 rfl) ?_
  refine lv_iload_n hx hb dX3_isFresh_1 rfl (lv_at hl 1 rfl) ?_
  obtain ⟨q1, hq1, h⟩ := ob h
  refine wc_Vi C hW (k := 69) (As := [.int a1]) (rest := []) (c_X3_isInForce G a1 M q1 hq1) k69 rfl (by decide) (cwV 1 hts gX3_isFresh_X3_isInForce rfl rfl rfl yd_X3_isInForce ⟨Nat.le_of_ble_eq_true rfl, Nat.le_of_ble_eq_true rfl⟩) rfl hl.1 rfl (Nat.le_of_ble_eq_true rfl) dX3_isFresh_2 ⟨Nat.le_refl 0, Nat.le_refl 0⟩ (fun H locs hW => ?_)
  refine lv_if_eq (tgt := 32) hx hb dX3_isFresh_5 (by decide) (fun c1 => ?_) (fun c1 => ?_)
  · replace h := ift h c1
    refine lv_iconst (v := 0) hx hb dX3_isFresh_32 (by decide) ?_
    exact wr_z C hr (Or.inl rfl) hW h dX3_isFresh_33
  · replace h := iff_ h c1
    refine lv_aload_n hx hb dX3_isFresh_8 rfl (lv_at hl 0 rfl) ?_
    refine lv_iload_n hx hb dX3_isFresh_9 rfl (lv_at hl 1 rfl) ?_
    obtain ⟨q2, hq2, h⟩ := ob h
    refine wc_Vr C hW (k := 69) (As := [.int a1]) (rest := []) (c_X3_documentOf G a1 q1.2 q2 hq2) k69 rfl (by decide) (cwV 1 hts gX3_isFresh_X3_documentOf rfl rfl rfl yd_X3_documentOf ⟨Nat.le_of_ble_eq_true rfl, Nat.le_of_ble_eq_true rfl⟩) rfl hl.1 rfl (Nat.le_of_ble_eq_true rfl) dX3_isFresh_10 ⟨Nat.le_refl 0, Nat.le_refl 0⟩ (fun H locs hW => ?_)
    obtain ⟨hg1, h⟩ := ifg h
    have hkq2 := kB_is hg1
    obtain ⟨q3, hq3, h⟩ := ob h
    refine wc_Vi C hW (k := q2.1) (As := []) (rest := []) (c_X0_version G q2.1 hkq2 q2.2 q3 hq3) hkq2 rfl (by decide) (cwV 0 hts gX3_isFresh_X0_version rfl rfl rfl yd_X0_version ⟨Nat.le_of_ble_eq_true rfl, Nat.le_of_ble_eq_true rfl⟩) rfl hl.1 rfl (Nat.le_of_ble_eq_true rfl) dX3_isFresh_13 ⟨Nat.le_refl 0, Nat.le_refl 0⟩ (fun H locs hW => ?_)
    refine lv_aload_n hx hb dX3_isFresh_16 rfl (lv_at hl 0 rfl) ?_
    refine lv_iconst (v := 2) hx hb dX3_isFresh_17 (by decide) ?_
    obtain ⟨q4, hq4, h⟩ := ob h
    refine wc_Vr C hW (k := 69) (As := [.int 2]) (rest := [.int q3.1]) (c_X3_documentOf G 2 q3.2 q4 hq4) k69 rfl (by decide) (cwV 1 hts gX3_isFresh_X3_documentOf rfl rfl rfl yd_X3_documentOf ⟨Nat.le_of_ble_eq_true rfl, Nat.le_of_ble_eq_true rfl⟩) rfl hl.1 rfl (Nat.le_of_ble_eq_true rfl) dX3_isFresh_18 ⟨Nat.le_refl 0, Nat.le_refl 0⟩ (fun H locs hW => ?_)
    obtain ⟨hg2, h⟩ := ifg h
    have hkq4 := kB_is hg2
    refine lv_iload_n hx hb dX3_isFresh_21 rfl (lv_at hl 1 rfl) ?_
    obtain ⟨q5, hq5, h⟩ := ob h
    refine wc_Vi C hW (k := q4.1) (As := [.int a1]) (rest := [.int q3.1]) (c_X0_versionFor G q4.1 hkq4 a1 q4.2 q5 hq5) hkq4 rfl (by decide) (cwV 1 hts gX3_isFresh_X0_versionFor rfl rfl rfl yd_X0_versionFor ⟨Nat.le_of_ble_eq_true rfl, Nat.le_of_ble_eq_true rfl⟩) rfl hl.1 rfl (Nat.le_of_ble_eq_true rfl) dX3_isFresh_22 ⟨Nat.le_refl 0, Nat.le_refl 0⟩ (fun H locs hW => ?_)
    refine lv_icmp_ne (tgt := 32) hx hb dX3_isFresh_25 (by decide) (fun c2 => ?_) (fun c2 => ?_)
    · replace h := iff_ h c2
      refine lv_iconst (v := 0) hx hb dX3_isFresh_32 (by decide) ?_
      exact wr_z C hr (Or.inl rfl) hW h dX3_isFresh_33
    · replace h := ift h c2
      refine lv_iconst (v := 1) hx hb dX3_isFresh_28 (by decide) ?_
      refine lv_goto (tgt := 33) hx hb dX3_isFresh_29 (by decide) ?_
      exact wr_z C hr (Or.inr rfl) hW h dX3_isFresh_33
theorem yd_X3_advanceClock : yX3_advanceClock.cls = RX3 ∧ yX3_advanceClock.cls ≠ "java/lang/invoke/MethodHandle" ∧ yX3_advanceClock.cls ≠ "java/lang/invoke/VarHandle" ∧ (parseMethodDescriptor yX3_advanceClock.desc).map (fun d => d.parameters.length) = some 1 := by decide +kernel
set_option maxHeartbeats 4000000 in
set_option maxRecDepth 100000 in
theorem c_X3_advanceClock (G : GG) (a1 : Int32) (M : Me) (y : Int32 × Me) (h : f_X3_advanceClock a1 M = some y) : CI G yX3_advanceClock wsX3_advanceClock (rmd 0 0 0) [.ref (ga G 69), .int a1] M y := by
  rw [f_X3_advanceClock] at h
  refine co_o (by decide) rfl rfl (Nat.le_of_ble_eq_true rfl) (fun p e s m below meth c ls C hr hW hl => ?_)
  have hx := C.1
  have hb := C.2.1
  have hown := C.2.2.2.1
  have hts := C.2.2.2.2.1
  have inX3 : ∀ w ∈ wsX30, w ∈ wsX3_advanceClock := by decide +kernel
  have hL22 := hts (.fieldLink RX3 22 "TrustedUpdates$Trust" "clock" "I") (by decide +kernel)
  have hl : lv_has ls 2 [(0, .ref (ga G 69)), (1, .int a1)] := hl
  refine lv_aload_n hx hb dX3_advanceClock_0 rfl (lv_at hl 0 rfl) ?_
  refine lv_dup hx hb dX3_advanceClock_1 rfl ?_
  refine wg_i C hW (k := 69) (ci := 3) (j := 2) k69 rfl ⟨by decide, rfl⟩ inX3 (by decide) (rfq k69 rfl) (v := (M 69 2)) rfl hL22 (fun _ h9 => h9) dX3_advanceClock_2 ?_
  refine lv_iload_n hx hb dX3_advanceClock_5 rfl (lv_at hl 1 rfl) ?_
  refine lv_iadd hx hb dX3_advanceClock_6 ?_
  refine wp_t C hW (k := 69) (ci := 3) (j := 2) (ty := .int) rfl rfl k69 rfl ⟨by decide, rfl⟩ inX3 tyX3 tyX3_ok nmX3 (by decide) (rfq k69 rfl) hL22 (fun _ h9 => h9) rfl rfl dX3_advanceClock_7 (fun H locs hW => ?_)
  refine lv_aload_n hx hb dX3_advanceClock_10 rfl (lv_at hl 0 rfl) ?_
  refine wg_i C hW (k := 69) (ci := 3) (j := 2) k69 rfl ⟨by decide, rfl⟩ inX3 (by decide) (rfq k69 rfl) (v := ((M 69 2) + a1)) up_s hL22 (fun _ h9 => h9) dX3_advanceClock_11 ?_
  exact wr_i C hr hW h dX3_advanceClock_14
theorem yd_X3_allowsSeeking : yX3_allowsSeeking.cls = RX3 ∧ yX3_allowsSeeking.cls ≠ "java/lang/invoke/MethodHandle" ∧ yX3_allowsSeeking.cls ≠ "java/lang/invoke/VarHandle" ∧ (parseMethodDescriptor yX3_allowsSeeking.desc).map (fun d => d.parameters.length) = some 0 := by decide +kernel
set_option maxHeartbeats 4000000 in
set_option maxRecDepth 100000 in
theorem c_X3_allowsSeeking (G : GG)  (M : Me) (y : Int32 × Me) (h : f_X3_allowsSeeking  M = some y) : CI G yX3_allowsSeeking wsX3_allowsSeeking (rmd 4 0 0) [.ref (ga G 69)] M y := by
  rw [f_X3_allowsSeeking] at h
  refine co_o (by decide) rfl rfl (Nat.le_of_ble_eq_true rfl) (fun p e s m below meth c ls C hr hW hl => ?_)
  have hx := C.1
  have hb := C.2.1
  have hown := C.2.2.2.1
  have hts := C.2.2.2.2.1
  have hl : lv_has ls 1 [(0, .ref (ga G 69))] := hl
  refine lv_aload_n hx hb dX3_allowsSeeking_0 rfl (lv_at hl 0 rfl) ?_
  refine lv_iconst (v := 0) hx hb dX3_allowsSeeking_1 (by decide) ?_
  obtain ⟨q1, hq1, h⟩ := ob h
  refine wc_Vi C hW (k := 69) (As := [.int 0]) (rest := []) (c_X3_isInForce G 0 M q1 hq1) k69 rfl (by decide) (cwV 1 hts gX3_allowsSeeking_X3_isInForce rfl rfl rfl yd_X3_isInForce ⟨Nat.le_of_ble_eq_true rfl, Nat.le_of_ble_eq_true rfl⟩) rfl hl.1 rfl (Nat.le_of_ble_eq_true rfl) dX3_allowsSeeking_2 ⟨Nat.le_refl 0, Nat.le_refl 0⟩ (fun H locs hW => ?_)
  refine lv_if_eq (tgt := 36) hx hb dX3_allowsSeeking_5 (by decide) (fun c1 => ?_) (fun c1 => ?_)
  · replace h := ift h c1
    refine lv_iconst (v := 0) hx hb dX3_allowsSeeking_36 (by decide) ?_
    exact wr_z C hr (Or.inl rfl) hW h dX3_allowsSeeking_37
  · replace h := iff_ h c1
    refine lv_aload_n hx hb dX3_allowsSeeking_8 rfl (lv_at hl 0 rfl) ?_
    refine lv_iconst (v := 1) hx hb dX3_allowsSeeking_9 (by decide) ?_
    obtain ⟨q2, hq2, h⟩ := ob h
    refine wc_Vi C hW (k := 69) (As := [.int 1]) (rest := []) (c_X3_isInForce G 1 q1.2 q2 hq2) k69 rfl (by decide) (cwV 1 hts gX3_allowsSeeking_X3_isInForce rfl rfl rfl yd_X3_isInForce ⟨Nat.le_of_ble_eq_true rfl, Nat.le_of_ble_eq_true rfl⟩) rfl hl.1 rfl (Nat.le_of_ble_eq_true rfl) dX3_allowsSeeking_10 ⟨Nat.le_refl 0, Nat.le_refl 0⟩ (fun H locs hW => ?_)
    refine lv_if_eq (tgt := 36) hx hb dX3_allowsSeeking_13 (by decide) (fun c2 => ?_) (fun c2 => ?_)
    · replace h := ift h c2
      refine lv_iconst (v := 0) hx hb dX3_allowsSeeking_36 (by decide) ?_
      exact wr_z C hr (Or.inl rfl) hW h dX3_allowsSeeking_37
    · replace h := iff_ h c2
      refine lv_aload_n hx hb dX3_allowsSeeking_16 rfl (lv_at hl 0 rfl) ?_
      refine lv_iconst (v := 2) hx hb dX3_allowsSeeking_17 (by decide) ?_
      obtain ⟨q3, hq3, h⟩ := ob h
      refine wc_Vi C hW (k := 69) (As := [.int 2]) (rest := []) (c_X3_isInForce G 2 q2.2 q3 hq3) k69 rfl (by decide) (cwV 1 hts gX3_allowsSeeking_X3_isInForce rfl rfl rfl yd_X3_isInForce ⟨Nat.le_of_ble_eq_true rfl, Nat.le_of_ble_eq_true rfl⟩) rfl hl.1 rfl (Nat.le_of_ble_eq_true rfl) dX3_allowsSeeking_18 ⟨Nat.le_refl 0, Nat.le_refl 0⟩ (fun H locs hW => ?_)
      refine lv_if_eq (tgt := 36) hx hb dX3_allowsSeeking_21 (by decide) (fun c3 => ?_) (fun c3 => ?_)
      · replace h := ift h c3
        refine lv_iconst (v := 0) hx hb dX3_allowsSeeking_36 (by decide) ?_
        exact wr_z C hr (Or.inl rfl) hW h dX3_allowsSeeking_37
      · replace h := iff_ h c3
        refine lv_aload_n hx hb dX3_allowsSeeking_24 rfl (lv_at hl 0 rfl) ?_
        refine lv_iconst (v := 3) hx hb dX3_allowsSeeking_25 (by decide) ?_
        obtain ⟨q4, hq4, h⟩ := ob h
        refine wc_Vi C hW (k := 69) (As := [.int 3]) (rest := []) (c_X3_isFresh G 3 q3.2 q4 hq4) k69 rfl (by decide) (cwV 1 hts gX3_allowsSeeking_X3_isFresh rfl rfl rfl yd_X3_isFresh ⟨Nat.le_of_ble_eq_true rfl, Nat.le_of_ble_eq_true rfl⟩) rfl hl.1 rfl (Nat.le_of_ble_eq_true rfl) dX3_allowsSeeking_26 ⟨Nat.le_refl 0, Nat.le_refl 0⟩ (fun H locs hW => ?_)
        refine lv_if_eq (tgt := 36) hx hb dX3_allowsSeeking_29 (by decide) (fun c4 => ?_) (fun c4 => ?_)
        · replace h := ift h c4
          refine lv_iconst (v := 0) hx hb dX3_allowsSeeking_36 (by decide) ?_
          exact wr_z C hr (Or.inl rfl) hW h dX3_allowsSeeking_37
        · replace h := iff_ h c4
          refine lv_iconst (v := 1) hx hb dX3_allowsSeeking_32 (by decide) ?_
          refine lv_goto (tgt := 37) hx hb dX3_allowsSeeking_33 (by decide) ?_
          exact wr_z C hr (Or.inr rfl) hW h dX3_allowsSeeking_37
theorem yd_X3_startFrom : yX3_startFrom.cls = RX3 ∧ yX3_startFrom.cls ≠ "java/lang/invoke/MethodHandle" ∧ yX3_startFrom.cls ≠ "java/lang/invoke/VarHandle" ∧ (parseMethodDescriptor yX3_startFrom.desc).map (fun d => d.parameters.length) = some 1 := by decide +kernel
set_option maxHeartbeats 4000000 in
set_option maxRecDepth 100000 in
theorem L_X3_startFrom_2 {G : GG} {p : Program} {e : Env} {s : State} {m : MethodId} {args : Array Value} {below : List Frame} {meth : Method} {c : Code} {Q : State → Prop} (C : Cx G wsX3_startFrom RX3 cX3_startFrom 3 p s m args meth c) : ∀ (n : Nat) (k1 : Nat) (hk1 : isK k1 0) (x2 : Int32) (M : Me) (y : Int32 × Me) (H : Heap) (locs : List Loc) (ls : Array Slot), fL_X3_startFrom_2 n k1 x2 M = some y → wH G s M H locs → lv_has ls 3 [(0, .ref (ga G 69)), (1, .ref (ga G k1)), (2, .int x2)] → (∀ (H : Heap) (locs : List Loc) (ls : Array Slot), wH G s y.2 H locs → lv_has ls 3 [(0, .ref (ga G 69)), (1, .ref (ga G k1))] → W p (gl G) e (rmd 6 0 0) s m args below meth c H locs 0 0 Q (F0 m 22 ls [])) → W p (gl G) e (rmd 6 0 0) s m args below meth c H locs 0 0 Q (F0 m 2 ls []) := by
  have hx := C.1
  have hb := C.2.1
  have hown := C.2.2.2.1
  have hts := C.2.2.2.2.1
  intro n
  induction n with
  | zero => intro k1 hk1 x2 M y H locs ls h; exact nso h
  | succ n ih =>
    intro k1 hk1 x2 M y H locs ls h hW hl kx
    rw [fL_X3_startFrom_2] at h
    refine lv_iload_n hx hb dX3_startFrom_2 rfl (lv_at hl 2 rfl) ?_
    refine lv_bipush (v := 6) hx hb dX3_startFrom_3 (by decide) ?_
    refine lv_icmp_gt (tgt := 22) hx hb dX3_startFrom_5 (by decide) (fun c1 => ?_) (fun c1 => ?_)
    · replace h := ift h c1
      cases h
      exact kx _ _ ls hW (lv_sub hl [0, 1] rfl)
    · replace h := iff_ h c1
      refine lv_aload_n hx hb dX3_startFrom_8 rfl (lv_at hl 0 rfl) ?_
      refine lv_iload_n hx hb dX3_startFrom_9 rfl (lv_at hl 2 rfl) ?_
      obtain ⟨q1, hq1, h⟩ := ob h
      refine wc_Vr C hW (k := 69) (As := [.int x2]) (rest := []) (c_X3_documentOf G x2 M q1 hq1) k69 rfl (by decide) (cwV 1 hts gX3_startFrom_X3_documentOf rfl rfl rfl yd_X3_documentOf ⟨Nat.le_of_ble_eq_true rfl, Nat.le_of_ble_eq_true rfl⟩) rfl hl.1 rfl (Nat.le_of_ble_eq_true rfl) dX3_startFrom_10 ⟨Nat.le_refl 0, Nat.le_refl 0⟩ (fun H locs hW => ?_)
      obtain ⟨hg1, h⟩ := ifg h
      have hkq1 := kB_is hg1
      obtain ⟨q2, hq2, h⟩ := ob h
      refine wc_Vv C hW (k := q1.1) (As := []) (rest := []) (c_X0_clear G q1.1 hkq1 q1.2 q2 hq2) hkq1 rfl (by decide) (cwV 0 hts gX3_startFrom_X0_clear rfl rfl rfl yd_X0_clear ⟨Nat.le_of_ble_eq_true rfl, Nat.le_of_ble_eq_true rfl⟩) rfl hl.1 rfl (Nat.le_of_ble_eq_true rfl) dX3_startFrom_13 ⟨Nat.le_refl 0, Nat.le_refl 0⟩ (fun H locs hW => ?_)
      refine lv_iinc (v := (x2 + 1)) (lv' := [(2, .int (x2 + 1)), (0, .ref (ga G 69)), (1, .ref (ga G k1))]) hx hb dX3_startFrom_16 hl (k := 2) rfl rfl (by decide) rfl (fun ls hl => ?_)
      refine lv_goto (tgt := 2) hx hb dX3_startFrom_19 (by decide) ?_
      exact ih k1 hk1 (x2 + 1) q2.2 y _ _ ls h hW (lv_sub hl [1, 2, 0] rfl) kx
set_option maxHeartbeats 4000000 in
set_option maxRecDepth 100000 in
theorem c_X3_startFrom (G : GG) (b1 : Nat) (hb1 : isK b1 0) (M : Me) (y : Int32 × Me) (h : f_X3_startFrom b1 M = some y) : CV G yX3_startFrom wsX3_startFrom (rmd 6 0 0) [.ref (ga G 69), .ref (ga G b1)] M y := by
  rw [f_X3_startFrom] at h
  refine co_o (by decide) rfl rfl (Nat.le_of_ble_eq_true rfl) (fun p e s m below meth c ls C hr hW hl => ?_)
  have hx := C.1
  have hb := C.2.1
  have hown := C.2.2.2.1
  have hts := C.2.2.2.2.1
  have hl : lv_has ls 3 [(0, .ref (ga G 69)), (1, .ref (ga G b1))] := hl
  refine lv_iconst (v := 0) hx hb dX3_startFrom_0 (by decide) ?_
  refine lv_istore_n (lv' := [(2, .int 0), (0, .ref (ga G 69)), (1, .ref (ga G b1))]) hx hb dX3_startFrom_1 rfl hl (by decide) rfl (fun ls hl => ?_)
  obtain ⟨q3, hq3, h⟩ := ob h
  refine L_X3_startFrom_2 C 200 b1 hb1 0 M q3 _ _ ls hq3 hW (lv_sub hl [1, 2, 0] rfl) (fun H locs ls hW hl => ?_)
  refine lv_aload_n hx hb dX3_startFrom_22 rfl (lv_at hl 0 rfl) ?_
  refine lv_iconst (v := 0) hx hb dX3_startFrom_23 (by decide) ?_
  obtain ⟨q4, hq4, h⟩ := ob h
  refine wc_Vr C hW (k := 69) (As := [.int 0]) (rest := []) (c_X3_documentOf G 0 q3.2 q4 hq4) k69 rfl (by decide) (cwV 1 hts gX3_startFrom_X3_documentOf rfl rfl rfl yd_X3_documentOf ⟨Nat.le_of_ble_eq_true rfl, Nat.le_of_ble_eq_true rfl⟩) rfl hl.1 rfl (Nat.le_of_ble_eq_true rfl) dX3_startFrom_24 ⟨Nat.le_refl 0, Nat.le_refl 0⟩ (fun H locs hW => ?_)
  obtain ⟨hg2, h⟩ := ifg h
  have hkq4 := kB_is hg2
  refine lv_aload_n hx hb dX3_startFrom_27 rfl (lv_at hl 1 rfl) ?_
  obtain ⟨q5, hq5, h⟩ := ob h
  refine wc_Vr C hW (k := b1) (As := []) (rest := [.ref (ga G q4.1)]) (c_X0_row G b1 hb1 q4.2 q5 hq5) hb1 rfl (by decide) (cwV 0 hts gX3_startFrom_X0_row rfl rfl rfl yd_X0_row ⟨Nat.le_of_ble_eq_true rfl, Nat.le_of_ble_eq_true rfl⟩) rfl hl.1 rfl (Nat.le_of_ble_eq_true rfl) dX3_startFrom_28 ⟨Nat.le_refl 0, Nat.le_refl 0⟩ (fun H locs hW => ?_)
  obtain ⟨hg3, h⟩ := ifg h
  have hkq5 := kB_is hg3
  obtain ⟨q6, hq6, h⟩ := ob h
  refine wc_Vv C hW (k := q4.1) (As := [.ref (ga G q5.1)]) (rest := []) (c_X0_read G q4.1 hkq4 q5.1 hkq5 q5.2 q6 hq6) hkq4 rfl (by decide) (cwV 1 hts gX3_startFrom_X0_read rfl rfl rfl yd_X0_read ⟨Nat.le_of_ble_eq_true rfl, Nat.le_of_ble_eq_true rfl⟩) rfl hl.1 rfl (Nat.le_of_ble_eq_true rfl) dX3_startFrom_31 ⟨Nat.le_refl 0, Nat.le_refl 0⟩ (fun H locs hW => ?_)
  exact wr_v C hr hW h dX3_startFrom_34
theorem yd_X3_hasGroundFor : yX3_hasGroundFor.cls = RX3 ∧ yX3_hasGroundFor.cls ≠ "java/lang/invoke/MethodHandle" ∧ yX3_hasGroundFor.cls ≠ "java/lang/invoke/VarHandle" ∧ (parseMethodDescriptor yX3_hasGroundFor.desc).map (fun d => d.parameters.length) = some 1 := by decide +kernel
set_option maxHeartbeats 4000000 in
set_option maxRecDepth 100000 in
theorem c_X3_hasGroundFor (G : GG) (a1 : Int32) (M : Me) (y : Int32 × Me) (h : f_X3_hasGroundFor a1 M = some y) : CI G yX3_hasGroundFor wsX3_hasGroundFor (rmd 3 0 0) [.ref (ga G 69), .int a1] M y := by
  rw [f_X3_hasGroundFor] at h
  refine co_o (by decide) rfl rfl (Nat.le_of_ble_eq_true rfl) (fun p e s m below meth c ls C hr hW hl => ?_)
  have hx := C.1
  have hb := C.2.1
  have hown := C.2.2.2.1
  have hts := C.2.2.2.2.1
  have hl : lv_has ls 2 [(0, .ref (ga G 69)), (1, .int a1)] := hl
  refine lv_iload_n hx hb dX3_hasGroundFor_0 rfl (lv_at hl 1 rfl) ?_
  by_cases c1 : a1 = 0
  · replace h := ift h c1
    refine lv_tableIn (tgt := 28) hx hb dX3_hasGroundFor_1 (by rw [c1]; decide) (by rw [c1]; decide) (by rw [c1]; rfl) (by decide) ?_
    refine lv_aload_n hx hb dX3_hasGroundFor_28 rfl (lv_at hl 0 rfl) ?_
    refine lv_iconst (v := 0) hx hb dX3_hasGroundFor_29 (by decide) ?_
    obtain ⟨q1, hq1, h⟩ := ob h
    refine wc_Vr C hW (k := 69) (As := [.int 0]) (rest := []) (c_X3_documentOf G 0 M q1 hq1) k69 rfl (by decide) (cwV 1 hts gX3_hasGroundFor_X3_documentOf rfl rfl rfl yd_X3_documentOf ⟨Nat.le_of_ble_eq_true rfl, Nat.le_of_ble_eq_true rfl⟩) rfl hl.1 rfl (Nat.le_of_ble_eq_true rfl) dX3_hasGroundFor_30 ⟨Nat.le_refl 0, Nat.le_refl 0⟩ (fun H locs hW => ?_)
    obtain ⟨hg1, h⟩ := ifg h
    have hkq1 := kB_is hg1
    obtain ⟨q2, hq2, h⟩ := ob h
    refine wc_Vi C hW (k := q1.1) (As := []) (rest := []) (c_X0_isWhole G q1.1 hkq1 q1.2 q2 hq2) hkq1 rfl (by decide) (cwV 0 hts gX3_hasGroundFor_X0_isWhole rfl rfl rfl yd_X0_isWhole ⟨Nat.le_of_ble_eq_true rfl, Nat.le_of_ble_eq_true rfl⟩) rfl hl.1 rfl (Nat.le_of_ble_eq_true rfl) dX3_hasGroundFor_33 ⟨Nat.le_refl 0, Nat.le_refl 0⟩ (fun H locs hW => ?_)
    obtain ⟨hg2, h⟩ := ifg h
    exact wr_z C hr (bB_or hg2) hW h dX3_hasGroundFor_36
  replace h := iff_ h c1
  by_cases c2 : a1 = 1
  · replace h := ift h c2
    refine lv_tableIn (tgt := 37) hx hb dX3_hasGroundFor_1 (by rw [c2]; decide) (by rw [c2]; decide) (by rw [c2]; rfl) (by decide) ?_
    refine lv_aload_n hx hb dX3_hasGroundFor_37 rfl (lv_at hl 0 rfl) ?_
    refine lv_iconst (v := 0) hx hb dX3_hasGroundFor_38 (by decide) ?_
    obtain ⟨q3, hq3, h⟩ := ob h
    refine wc_Vi C hW (k := 69) (As := [.int 0]) (rest := []) (c_X3_isInForce G 0 M q3 hq3) k69 rfl (by decide) (cwV 1 hts gX3_hasGroundFor_X3_isInForce rfl rfl rfl yd_X3_isInForce ⟨Nat.le_of_ble_eq_true rfl, Nat.le_of_ble_eq_true rfl⟩) rfl hl.1 rfl (Nat.le_of_ble_eq_true rfl) dX3_hasGroundFor_39 ⟨Nat.le_refl 0, Nat.le_refl 0⟩ (fun H locs hW => ?_)
    obtain ⟨hg3, h⟩ := ifg h
    exact wr_z C hr (bB_or hg3) hW h dX3_hasGroundFor_42
  replace h := iff_ h c2
  by_cases c3 : a1 = 2
  · replace h := ift h c3
    refine lv_tableIn (tgt := 43) hx hb dX3_hasGroundFor_1 (by rw [c3]; decide) (by rw [c3]; decide) (by rw [c3]; rfl) (by decide) ?_
    refine lv_aload_n hx hb dX3_hasGroundFor_43 rfl (lv_at hl 0 rfl) ?_
    refine lv_iconst (v := 0) hx hb dX3_hasGroundFor_44 (by decide) ?_
    obtain ⟨q4, hq4, h⟩ := ob h
    refine wc_Vi C hW (k := 69) (As := [.int 0]) (rest := []) (c_X3_isInForce G 0 M q4 hq4) k69 rfl (by decide) (cwV 1 hts gX3_hasGroundFor_X3_isInForce rfl rfl rfl yd_X3_isInForce ⟨Nat.le_of_ble_eq_true rfl, Nat.le_of_ble_eq_true rfl⟩) rfl hl.1 rfl (Nat.le_of_ble_eq_true rfl) dX3_hasGroundFor_45 ⟨Nat.le_refl 0, Nat.le_refl 0⟩ (fun H locs hW => ?_)
    refine lv_if_eq (tgt := 63) hx hb dX3_hasGroundFor_48 (by decide) (fun c4 => ?_) (fun c4 => ?_)
    · replace h := ift h c4
      refine lv_iconst (v := 0) hx hb dX3_hasGroundFor_63 (by decide) ?_
      exact wr_z C hr (Or.inl rfl) hW h dX3_hasGroundFor_64
    · replace h := iff_ h c4
      refine lv_aload_n hx hb dX3_hasGroundFor_51 rfl (lv_at hl 0 rfl) ?_
      refine lv_iconst (v := 1) hx hb dX3_hasGroundFor_52 (by decide) ?_
      obtain ⟨q5, hq5, h⟩ := ob h
      refine wc_Vi C hW (k := 69) (As := [.int 1]) (rest := []) (c_X3_isInForce G 1 q4.2 q5 hq5) k69 rfl (by decide) (cwV 1 hts gX3_hasGroundFor_X3_isInForce rfl rfl rfl yd_X3_isInForce ⟨Nat.le_of_ble_eq_true rfl, Nat.le_of_ble_eq_true rfl⟩) rfl hl.1 rfl (Nat.le_of_ble_eq_true rfl) dX3_hasGroundFor_53 ⟨Nat.le_refl 0, Nat.le_refl 0⟩ (fun H locs hW => ?_)
      refine lv_if_eq (tgt := 63) hx hb dX3_hasGroundFor_56 (by decide) (fun c5 => ?_) (fun c5 => ?_)
      · replace h := ift h c5
        refine lv_iconst (v := 0) hx hb dX3_hasGroundFor_63 (by decide) ?_
        exact wr_z C hr (Or.inl rfl) hW h dX3_hasGroundFor_64
      · replace h := iff_ h c5
        refine lv_iconst (v := 1) hx hb dX3_hasGroundFor_59 (by decide) ?_
        refine lv_goto (tgt := 64) hx hb dX3_hasGroundFor_60 (by decide) ?_
        exact wr_z C hr (Or.inr rfl) hW h dX3_hasGroundFor_64
  replace h := iff_ h c3
  refine lv_tableOut (tgt := 65) hx hb dX3_hasGroundFor_1 (tb_out2 c1 c2 c3) (by decide) ?_
  refine lv_aload_n hx hb dX3_hasGroundFor_65 rfl (lv_at hl 0 rfl) ?_
  refine lv_iconst (v := 0) hx hb dX3_hasGroundFor_66 (by decide) ?_
  obtain ⟨q6, hq6, h⟩ := ob h
  refine wc_Vi C hW (k := 69) (As := [.int 0]) (rest := []) (c_X3_isInForce G 0 M q6 hq6) k69 rfl (by decide) (cwV 1 hts gX3_hasGroundFor_X3_isInForce rfl rfl rfl yd_X3_isInForce ⟨Nat.le_of_ble_eq_true rfl, Nat.le_of_ble_eq_true rfl⟩) rfl hl.1 rfl (Nat.le_of_ble_eq_true rfl) dX3_hasGroundFor_67 ⟨Nat.le_refl 0, Nat.le_refl 0⟩ (fun H locs hW => ?_)
  refine lv_if_eq (tgt := 98) hx hb dX3_hasGroundFor_70 (by decide) (fun c6 => ?_) (fun c6 => ?_)
  · replace h := ift h c6
    refine lv_iconst (v := 0) hx hb dX3_hasGroundFor_98 (by decide) ?_
    exact wr_z C hr (Or.inl rfl) hW h dX3_hasGroundFor_99
  · replace h := iff_ h c6
    refine lv_aload_n hx hb dX3_hasGroundFor_73 rfl (lv_at hl 0 rfl) ?_
    refine lv_iconst (v := 2) hx hb dX3_hasGroundFor_74 (by decide) ?_
    obtain ⟨q7, hq7, h⟩ := ob h
    refine wc_Vi C hW (k := 69) (As := [.int 2]) (rest := []) (c_X3_isInForce G 2 q6.2 q7 hq7) k69 rfl (by decide) (cwV 1 hts gX3_hasGroundFor_X3_isInForce rfl rfl rfl yd_X3_isInForce ⟨Nat.le_of_ble_eq_true rfl, Nat.le_of_ble_eq_true rfl⟩) rfl hl.1 rfl (Nat.le_of_ble_eq_true rfl) dX3_hasGroundFor_75 ⟨Nat.le_refl 0, Nat.le_refl 0⟩ (fun H locs hW => ?_)
    refine lv_if_eq (tgt := 98) hx hb dX3_hasGroundFor_78 (by decide) (fun c7 => ?_) (fun c7 => ?_)
    · replace h := ift h c7
      refine lv_iconst (v := 0) hx hb dX3_hasGroundFor_98 (by decide) ?_
      exact wr_z C hr (Or.inl rfl) hW h dX3_hasGroundFor_99
    · replace h := iff_ h c7
      refine lv_aload_n hx hb dX3_hasGroundFor_81 rfl (lv_at hl 0 rfl) ?_
      refine lv_iconst (v := 2) hx hb dX3_hasGroundFor_82 (by decide) ?_
      obtain ⟨q8, hq8, h⟩ := ob h
      refine wc_Vr C hW (k := 69) (As := [.int 2]) (rest := []) (c_X3_documentOf G 2 q7.2 q8 hq8) k69 rfl (by decide) (cwV 1 hts gX3_hasGroundFor_X3_documentOf rfl rfl rfl yd_X3_documentOf ⟨Nat.le_of_ble_eq_true rfl, Nat.le_of_ble_eq_true rfl⟩) rfl hl.1 rfl (Nat.le_of_ble_eq_true rfl) dX3_hasGroundFor_83 ⟨Nat.le_refl 0, Nat.le_refl 0⟩ (fun H locs hW => ?_)
      obtain ⟨hg4, h⟩ := ifg h
      have hkq8 := kB_is hg4
      refine lv_iload_n hx hb dX3_hasGroundFor_86 rfl (lv_at hl 1 rfl) ?_
      obtain ⟨q9, hq9, h⟩ := ob h
      refine wc_Vi C hW (k := q8.1) (As := [.int a1]) (rest := []) (c_X0_versionFor G q8.1 hkq8 a1 q8.2 q9 hq9) hkq8 rfl (by decide) (cwV 1 hts gX3_hasGroundFor_X0_versionFor rfl rfl rfl yd_X0_versionFor ⟨Nat.le_of_ble_eq_true rfl, Nat.le_of_ble_eq_true rfl⟩) rfl hl.1 rfl (Nat.le_of_ble_eq_true rfl) dX3_hasGroundFor_87 ⟨Nat.le_refl 0, Nat.le_refl 0⟩ (fun H locs hW => ?_)
      refine lv_iconst (v := (-1)) hx hb dX3_hasGroundFor_90 (by decide) ?_
      refine lv_icmp_eq (tgt := 98) hx hb dX3_hasGroundFor_91 (by decide) (fun c8 => ?_) (fun c8 => ?_)
      · replace h := ift h c8
        refine lv_iconst (v := 0) hx hb dX3_hasGroundFor_98 (by decide) ?_
        exact wr_z C hr (Or.inl rfl) hW h dX3_hasGroundFor_99
      · replace h := iff_ h c8
        refine lv_iconst (v := 1) hx hb dX3_hasGroundFor_94 (by decide) ?_
        refine lv_goto (tgt := 99) hx hb dX3_hasGroundFor_95 (by decide) ?_
        exact wr_z C hr (Or.inr rfl) hW h dX3_hasGroundFor_99
theorem yd_X3_findsSigned : yX3_findsSigned.cls = RX3 ∧ yX3_findsSigned.cls ≠ "java/lang/invoke/MethodHandle" ∧ yX3_findsSigned.cls ≠ "java/lang/invoke/VarHandle" ∧ (parseMethodDescriptor yX3_findsSigned.desc).map (fun d => d.parameters.length) = some 1 := by decide +kernel
set_option maxHeartbeats 4000000 in
set_option maxRecDepth 100000 in
theorem c_X3_findsSigned (G : GG) (b1 : Nat) (hb1 : isK b1 0) (M : Me) (y : Int32 × Me) (h : f_X3_findsSigned b1 M = some y) : CI G yX3_findsSigned wsX3_findsSigned (rmd 5 0 0) [.ref (ga G 69), .ref (ga G b1)] M y := by
  rw [f_X3_findsSigned] at h
  refine co_o (by decide) rfl rfl (Nat.le_of_ble_eq_true rfl) (fun p e s m below meth c ls C hr hW hl => ?_)
  have hx := C.1
  have hb := C.2.1
  have hown := C.2.2.2.1
  have hts := C.2.2.2.2.1
  have hl : lv_has ls 3 [(0, .ref (ga G 69)), (1, .ref (ga G b1))] := hl
  refine lv_aload_n hx hb dX3_findsSigned_0 rfl (lv_at hl 1 rfl) ?_
  obtain ⟨q1, hq1, h⟩ := ob h
  refine wc_Vi C hW (k := b1) (As := []) (rest := []) (c_X0_role G b1 hb1 M q1 hq1) hb1 rfl (by decide) (cwV 0 hts gX3_findsSigned_X0_role rfl rfl rfl yd_X0_role ⟨Nat.le_of_ble_eq_true rfl, Nat.le_of_ble_eq_true rfl⟩) rfl hl.1 rfl (Nat.le_of_ble_eq_true rfl) dX3_findsSigned_1 ⟨Nat.le_refl 0, Nat.le_refl 0⟩ (fun H locs hW => ?_)
  refine lv_istore_n (lv' := [(2, .int q1.1), (0, .ref (ga G 69)), (1, .ref (ga G b1))]) hx hb dX3_findsSigned_4 rfl hl (by decide) rfl (fun ls hl => ?_)
  refine lv_iload_n hx hb dX3_findsSigned_5 rfl (lv_at hl 0 rfl) ?_
  refine lv_iconst (v := 4) hx hb dX3_findsSigned_6 (by decide) ?_
  refine lv_icmp_lt (tgt := 12) hx hb dX3_findsSigned_7 (by decide) (fun c1 => ?_) (fun c1 => ?_)
  · replace h := ift h c1
    refine lv_aload_n hx hb dX3_findsSigned_12 rfl (lv_at hl 1 rfl) ?_
    refine lv_iconst (v := 0) hx hb dX3_findsSigned_13 (by decide) ?_
    obtain ⟨q2, hq2, h⟩ := ob h
    refine wc_Vr C hW (k := 69) (As := [.int 0]) (rest := []) (c_X3_documentOf G 0 q1.2 q2 hq2) k69 rfl (by decide) (cwV 1 hts gX3_findsSigned_X3_documentOf rfl rfl rfl yd_X3_documentOf ⟨Nat.le_of_ble_eq_true rfl, Nat.le_of_ble_eq_true rfl⟩) rfl hl.1 rfl (Nat.le_of_ble_eq_true rfl) dX3_findsSigned_14 ⟨Nat.le_refl 0, Nat.le_refl 0⟩ (fun H locs hW => ?_)
    obtain ⟨hg1, h⟩ := ifg h
    have hkq2 := kB_is hg1
    refine lv_aload_n hx hb dX3_findsSigned_17 rfl (lv_at hl 2 rfl) ?_
    refine lv_iload_n hx hb dX3_findsSigned_18 rfl (lv_at hl 0 rfl) ?_
    obtain ⟨q3, hq3, h⟩ := ob h
    refine wc_Vi C hW (k := q2.1) (As := [.ref (ga G b1), .int q1.1]) (rest := []) (c_X0_rootVouchesFor G q2.1 hkq2 b1 hb1 q1.1 q2.2 q3 hq3) hkq2 rfl (by decide) (cwV 2 hts gX3_findsSigned_X0_rootVouchesFor rfl rfl rfl yd_X0_rootVouchesFor ⟨Nat.le_of_ble_eq_true rfl, Nat.le_of_ble_eq_true rfl⟩) rfl hl.1 rfl (Nat.le_of_ble_eq_true rfl) dX3_findsSigned_19 ⟨Nat.le_refl 0, Nat.le_refl 0⟩ (fun H locs hW => ?_)
    refine lv_if_eq (tgt := 42) hx hb dX3_findsSigned_22 (by decide) (fun c2 => ?_) (fun c2 => ?_)
    · replace h := ift h c2
      refine lv_iconst (v := 0) hx hb dX3_findsSigned_42 (by decide) ?_
      exact wr_z C hr (Or.inl rfl) hW h dX3_findsSigned_43
    · replace h := iff_ h c2
      refine lv_iload_n hx hb dX3_findsSigned_25 rfl (lv_at hl 0 rfl) ?_
      refine lv_if_ne (tgt := 38) hx hb dX3_findsSigned_26 (by decide) (fun c3 => ?_) (fun c3 => ?_)
      · replace h := iff_ h c3
        refine lv_iconst (v := 1) hx hb dX3_findsSigned_38 (by decide) ?_
        refine lv_goto (tgt := 43) hx hb dX3_findsSigned_39 (by decide) ?_
        exact wr_z C hr (Or.inr rfl) hW h dX3_findsSigned_43
      · replace h := ift h c3
        refine lv_aload_n hx hb dX3_findsSigned_29 rfl (lv_at hl 2 rfl) ?_
        refine lv_aload_n hx hb dX3_findsSigned_30 rfl (lv_at hl 2 rfl) ?_
        refine lv_iconst (v := 0) hx hb dX3_findsSigned_31 (by decide) ?_
        obtain ⟨q4, hq4, h⟩ := ob h
        refine wc_Vi C hW (k := b1) (As := [.ref (ga G b1), .int 0]) (rest := []) (c_X0_rootVouchesFor G b1 hb1 b1 hb1 0 q3.2 q4 hq4) hb1 rfl (by decide) (cwV 2 hts gX3_findsSigned_X0_rootVouchesFor rfl rfl rfl yd_X0_rootVouchesFor ⟨Nat.le_of_ble_eq_true rfl, Nat.le_of_ble_eq_true rfl⟩) rfl hl.1 rfl (Nat.le_of_ble_eq_true rfl) dX3_findsSigned_32 ⟨Nat.le_refl 0, Nat.le_refl 0⟩ (fun H locs hW => ?_)
        refine lv_if_eq (tgt := 42) hx hb dX3_findsSigned_35 (by decide) (fun c4 => ?_) (fun c4 => ?_)
        · replace h := ift h c4
          refine lv_iconst (v := 0) hx hb dX3_findsSigned_42 (by decide) ?_
          exact wr_z C hr (Or.inl rfl) hW h dX3_findsSigned_43
        · replace h := iff_ h c4
          refine lv_iconst (v := 1) hx hb dX3_findsSigned_38 (by decide) ?_
          refine lv_goto (tgt := 43) hx hb dX3_findsSigned_39 (by decide) ?_
          exact wr_z C hr (Or.inr rfl) hW h dX3_findsSigned_43
  · replace h := iff_ h c1
    refine lv_iconst (v := 1) hx hb dX3_findsSigned_10 (by decide) ?_
    exact wr_z C hr (Or.inr rfl) hW h dX3_findsSigned_11
theorem yd_X3_isNoOlderStamp : yX3_isNoOlderStamp.cls = RX3 ∧ yX3_isNoOlderStamp.cls ≠ "java/lang/invoke/MethodHandle" ∧ yX3_isNoOlderStamp.cls ≠ "java/lang/invoke/VarHandle" ∧ (parseMethodDescriptor yX3_isNoOlderStamp.desc).map (fun d => d.parameters.length) = some 1 := by decide +kernel
set_option maxHeartbeats 4000000 in
set_option maxRecDepth 100000 in
theorem c_X3_isNoOlderStamp (G : GG) (b1 : Nat) (hb1 : isK b1 0) (M : Me) (y : Int32 × Me) (h : f_X3_isNoOlderStamp b1 M = some y) : CI G yX3_isNoOlderStamp wsX3_isNoOlderStamp (rmd 2 0 0) [.ref (ga G 69), .ref (ga G b1)] M y := by
  rw [f_X3_isNoOlderStamp] at h
  refine co_o (by decide) rfl rfl (Nat.le_of_ble_eq_true rfl) (fun p e s m below meth c ls C hr hW hl => ?_)
  have hx := C.1
  have hb := C.2.1
  have hown := C.2.2.2.1
  have hts := C.2.2.2.2.1
  have hl : lv_has ls 3 [(0, .ref (ga G 69)), (1, .ref (ga G b1))] := hl
  refine lv_aload_n hx hb dX3_isNoOlderStamp_0 rfl (lv_at hl 0 rfl) ?_
  refine lv_iconst (v := 1) hx hb dX3_isNoOlderStamp_1 (by decide) ?_
  obtain ⟨q1, hq1, h⟩ := ob h
  refine wc_Vr C hW (k := 69) (As := [.int 1]) (rest := []) (c_X3_documentOf G 1 M q1 hq1) k69 rfl (by decide) (cwV 1 hts gX3_isNoOlderStamp_X3_documentOf rfl rfl rfl yd_X3_documentOf ⟨Nat.le_of_ble_eq_true rfl, Nat.le_of_ble_eq_true rfl⟩) rfl hl.1 rfl (Nat.le_of_ble_eq_true rfl) dX3_isNoOlderStamp_2 ⟨Nat.le_refl 0, Nat.le_refl 0⟩ (fun H locs hW => ?_)
  obtain ⟨hg1, h⟩ := ifg h
  have hkq1 := kB_is hg1
  refine lv_astore_n (lv' := [(2, .ref (ga G q1.1)), (0, .ref (ga G 69)), (1, .ref (ga G b1))]) hx hb dX3_isNoOlderStamp_5 rfl hl (by decide) rfl (fun ls hl => ?_)
  refine lv_aload_n hx hb dX3_isNoOlderStamp_6 rfl (lv_at hl 0 rfl) ?_
  obtain ⟨q2, hq2, h⟩ := ob h
  refine wc_Vi C hW (k := q1.1) (As := []) (rest := []) (c_X0_isWhole G q1.1 hkq1 q1.2 q2 hq2) hkq1 rfl (by decide) (cwV 0 hts gX3_isNoOlderStamp_X0_isWhole rfl rfl rfl yd_X0_isWhole ⟨Nat.le_of_ble_eq_true rfl, Nat.le_of_ble_eq_true rfl⟩) rfl hl.1 rfl (Nat.le_of_ble_eq_true rfl) dX3_isNoOlderStamp_7 ⟨Nat.le_refl 0, Nat.le_refl 0⟩ (fun H locs hW => ?_)
  refine lv_if_eq (tgt := 35) hx hb dX3_isNoOlderStamp_10 (by decide) (fun c1 => ?_) (fun c1 => ?_)
  · replace h := ift h c1
    refine lv_iconst (v := 1) hx hb dX3_isNoOlderStamp_35 (by decide) ?_
    refine lv_goto (tgt := 40) hx hb dX3_isNoOlderStamp_36 (by decide) ?_
    exact wr_z C hr (Or.inr rfl) hW h dX3_isNoOlderStamp_40
  · replace h := iff_ h c1
    refine lv_aload_n hx hb dX3_isNoOlderStamp_13 rfl (lv_at hl 2 rfl) ?_
    obtain ⟨q3, hq3, h⟩ := ob h
    refine wc_Vi C hW (k := b1) (As := []) (rest := []) (c_X0_version G b1 hb1 q2.2 q3 hq3) hb1 rfl (by decide) (cwV 0 hts gX3_isNoOlderStamp_X0_version rfl rfl rfl yd_X0_version ⟨Nat.le_of_ble_eq_true rfl, Nat.le_of_ble_eq_true rfl⟩) rfl hl.1 rfl (Nat.le_of_ble_eq_true rfl) dX3_isNoOlderStamp_14 ⟨Nat.le_refl 0, Nat.le_refl 0⟩ (fun H locs hW => ?_)
    refine lv_aload_n hx hb dX3_isNoOlderStamp_17 rfl (lv_at hl 0 rfl) ?_
    obtain ⟨q4, hq4, h⟩ := ob h
    refine wc_Vi C hW (k := q1.1) (As := []) (rest := [.int q3.1]) (c_X0_version G q1.1 hkq1 q3.2 q4 hq4) hkq1 rfl (by decide) (cwV 0 hts gX3_isNoOlderStamp_X0_version rfl rfl rfl yd_X0_version ⟨Nat.le_of_ble_eq_true rfl, Nat.le_of_ble_eq_true rfl⟩) rfl hl.1 rfl (Nat.le_of_ble_eq_true rfl) dX3_isNoOlderStamp_18 ⟨Nat.le_refl 0, Nat.le_refl 0⟩ (fun H locs hW => ?_)
    refine lv_icmp_lt (tgt := 39) hx hb dX3_isNoOlderStamp_21 (by decide) (fun c2 => ?_) (fun c2 => ?_)
    · replace h := ift h c2
      refine lv_iconst (v := 0) hx hb dX3_isNoOlderStamp_39 (by decide) ?_
      exact wr_z C hr (Or.inl rfl) hW h dX3_isNoOlderStamp_40
    · replace h := iff_ h c2
      refine lv_aload_n hx hb dX3_isNoOlderStamp_24 rfl (lv_at hl 2 rfl) ?_
      obtain ⟨q5, hq5, h⟩ := ob h
      refine wc_Vi C hW (k := b1) (As := []) (rest := []) (c_X0_stampedVersion G b1 hb1 q4.2 q5 hq5) hb1 rfl (by decide) (cwV 0 hts gX3_isNoOlderStamp_X0_stampedVersion rfl rfl rfl yd_X0_stampedVersion ⟨Nat.le_of_ble_eq_true rfl, Nat.le_of_ble_eq_true rfl⟩) rfl hl.1 rfl (Nat.le_of_ble_eq_true rfl) dX3_isNoOlderStamp_25 ⟨Nat.le_refl 0, Nat.le_refl 0⟩ (fun H locs hW => ?_)
      refine lv_aload_n hx hb dX3_isNoOlderStamp_28 rfl (lv_at hl 0 rfl) ?_
      obtain ⟨q6, hq6, h⟩ := ob h
      refine wc_Vi C hW (k := q1.1) (As := []) (rest := [.int q5.1]) (c_X0_stampedVersion G q1.1 hkq1 q5.2 q6 hq6) hkq1 rfl (by decide) (cwV 0 hts gX3_isNoOlderStamp_X0_stampedVersion rfl rfl rfl yd_X0_stampedVersion ⟨Nat.le_of_ble_eq_true rfl, Nat.le_of_ble_eq_true rfl⟩) rfl hl.1 rfl (Nat.le_of_ble_eq_true rfl) dX3_isNoOlderStamp_29 ⟨Nat.le_refl 0, Nat.le_refl 0⟩ (fun H locs hW => ?_)
      refine lv_icmp_lt (tgt := 39) hx hb dX3_isNoOlderStamp_32 (by decide) (fun c3 => ?_) (fun c3 => ?_)
      · replace h := ift h c3
        refine lv_iconst (v := 0) hx hb dX3_isNoOlderStamp_39 (by decide) ?_
        exact wr_z C hr (Or.inl rfl) hW h dX3_isNoOlderStamp_40
      · replace h := iff_ h c3
        refine lv_iconst (v := 1) hx hb dX3_isNoOlderStamp_35 (by decide) ?_
        refine lv_goto (tgt := 40) hx hb dX3_isNoOlderStamp_36 (by decide) ?_
        exact wr_z C hr (Or.inr rfl) hW h dX3_isNoOlderStamp_40
theorem yd_X3_isAsStamped : yX3_isAsStamped.cls = RX3 ∧ yX3_isAsStamped.cls ≠ "java/lang/invoke/MethodHandle" ∧ yX3_isAsStamped.cls ≠ "java/lang/invoke/VarHandle" ∧ (parseMethodDescriptor yX3_isAsStamped.desc).map (fun d => d.parameters.length) = some 1 := by decide +kernel
set_option maxHeartbeats 4000000 in
set_option maxRecDepth 100000 in
theorem c_X3_isAsStamped (G : GG) (b1 : Nat) (hb1 : isK b1 0) (M : Me) (y : Int32 × Me) (h : f_X3_isAsStamped b1 M = some y) : CI G yX3_isAsStamped wsX3_isAsStamped (rmd 2 0 0) [.ref (ga G 69), .ref (ga G b1)] M y := by
  rw [f_X3_isAsStamped] at h
  refine co_o (by decide) rfl rfl (Nat.le_of_ble_eq_true rfl) (fun p e s m below meth c ls C hr hW hl => ?_)
  have hx := C.1
  have hb := C.2.1
  have hown := C.2.2.2.1
  have hts := C.2.2.2.2.1
  have hl : lv_has ls 3 [(0, .ref (ga G 69)), (1, .ref (ga G b1))] := hl
  refine lv_aload_n hx hb dX3_isAsStamped_0 rfl (lv_at hl 0 rfl) ?_
  refine lv_iconst (v := 1) hx hb dX3_isAsStamped_1 (by decide) ?_
  obtain ⟨q1, hq1, h⟩ := ob h
  refine wc_Vr C hW (k := 69) (As := [.int 1]) (rest := []) (c_X3_documentOf G 1 M q1 hq1) k69 rfl (by decide) (cwV 1 hts gX3_isAsStamped_X3_documentOf rfl rfl rfl yd_X3_documentOf ⟨Nat.le_of_ble_eq_true rfl, Nat.le_of_ble_eq_true rfl⟩) rfl hl.1 rfl (Nat.le_of_ble_eq_true rfl) dX3_isAsStamped_2 ⟨Nat.le_refl 0, Nat.le_refl 0⟩ (fun H locs hW => ?_)
  obtain ⟨hg1, h⟩ := ifg h
  have hkq1 := kB_is hg1
  refine lv_astore_n (lv' := [(2, .ref (ga G q1.1)), (0, .ref (ga G 69)), (1, .ref (ga G b1))]) hx hb dX3_isAsStamped_5 rfl hl (by decide) rfl (fun ls hl => ?_)
  refine lv_aload_n hx hb dX3_isAsStamped_6 rfl (lv_at hl 2 rfl) ?_
  obtain ⟨q2, hq2, h⟩ := ob h
  refine wc_Vi C hW (k := b1) (As := []) (rest := []) (c_X0_version G b1 hb1 q1.2 q2 hq2) hb1 rfl (by decide) (cwV 0 hts gX3_isAsStamped_X0_version rfl rfl rfl yd_X0_version ⟨Nat.le_of_ble_eq_true rfl, Nat.le_of_ble_eq_true rfl⟩) rfl hl.1 rfl (Nat.le_of_ble_eq_true rfl) dX3_isAsStamped_7 ⟨Nat.le_refl 0, Nat.le_refl 0⟩ (fun H locs hW => ?_)
  refine lv_aload_n hx hb dX3_isAsStamped_10 rfl (lv_at hl 0 rfl) ?_
  obtain ⟨q3, hq3, h⟩ := ob h
  refine wc_Vi C hW (k := q1.1) (As := []) (rest := [.int q2.1]) (c_X0_stampedVersion G q1.1 hkq1 q2.2 q3 hq3) hkq1 rfl (by decide) (cwV 0 hts gX3_isAsStamped_X0_stampedVersion rfl rfl rfl yd_X0_stampedVersion ⟨Nat.le_of_ble_eq_true rfl, Nat.le_of_ble_eq_true rfl⟩) rfl hl.1 rfl (Nat.le_of_ble_eq_true rfl) dX3_isAsStamped_11 ⟨Nat.le_refl 0, Nat.le_refl 0⟩ (fun H locs hW => ?_)
  refine lv_icmp_ne (tgt := 35) hx hb dX3_isAsStamped_14 (by decide) (fun c1 => ?_) (fun c1 => ?_)
  · replace h := iff_ h c1
    refine lv_iconst (v := 0) hx hb dX3_isAsStamped_35 (by decide) ?_
    exact wr_z C hr (Or.inl rfl) hW h dX3_isAsStamped_36
  · replace h := ift h c1
    refine lv_aload_n hx hb dX3_isAsStamped_17 rfl (lv_at hl 2 rfl) ?_
    obtain ⟨q4, hq4, h⟩ := ob h
    refine wc_Vr C hW (k := b1) (As := []) (rest := []) (c_X0_row G b1 hb1 q3.2 q4 hq4) hb1 rfl (by decide) (cwV 0 hts gX3_isAsStamped_X0_row rfl rfl rfl yd_X0_row ⟨Nat.le_of_ble_eq_true rfl, Nat.le_of_ble_eq_true rfl⟩) rfl hl.1 rfl (Nat.le_of_ble_eq_true rfl) dX3_isAsStamped_18 ⟨Nat.le_refl 0, Nat.le_refl 0⟩ (fun H locs hW => ?_)
    obtain ⟨hg2, h⟩ := ifg h
    have hkq4 := kB_is hg2
    obtain ⟨q5, hq5, h⟩ := ob h
    refine wc_Vi C hW (k := q4.1) (As := []) (rest := []) (c_X1_wholeDigest G q4.1 hkq4 q4.2 q5 hq5) hkq4 rfl (by decide) (cwV 0 hts gX3_isAsStamped_X1_wholeDigest rfl rfl rfl yd_X1_wholeDigest ⟨Nat.le_of_ble_eq_true rfl, Nat.le_of_ble_eq_true rfl⟩) rfl hl.1 rfl (Nat.le_of_ble_eq_true rfl) dX3_isAsStamped_21 ⟨Nat.le_refl 0, Nat.le_refl 0⟩ (fun H locs hW => ?_)
    refine lv_aload_n hx hb dX3_isAsStamped_24 rfl (lv_at hl 0 rfl) ?_
    obtain ⟨q6, hq6, h⟩ := ob h
    refine wc_Vi C hW (k := q1.1) (As := []) (rest := [.int q5.1]) (c_X0_stampedDigest G q1.1 hkq1 q5.2 q6 hq6) hkq1 rfl (by decide) (cwV 0 hts gX3_isAsStamped_X0_stampedDigest rfl rfl rfl yd_X0_stampedDigest ⟨Nat.le_of_ble_eq_true rfl, Nat.le_of_ble_eq_true rfl⟩) rfl hl.1 rfl (Nat.le_of_ble_eq_true rfl) dX3_isAsStamped_25 ⟨Nat.le_refl 0, Nat.le_refl 0⟩ (fun H locs hW => ?_)
    refine lv_icmp_ne (tgt := 35) hx hb dX3_isAsStamped_28 (by decide) (fun c2 => ?_) (fun c2 => ?_)
    · replace h := iff_ h c2
      refine lv_iconst (v := 0) hx hb dX3_isAsStamped_35 (by decide) ?_
      exact wr_z C hr (Or.inl rfl) hW h dX3_isAsStamped_36
    · replace h := ift h c2
      refine lv_iconst (v := 1) hx hb dX3_isAsStamped_31 (by decide) ?_
      refine lv_goto (tgt := 36) hx hb dX3_isAsStamped_32 (by decide) ?_
      exact wr_z C hr (Or.inr rfl) hW h dX3_isAsStamped_36
theorem yd_X3_isNoOlderSnapshot : yX3_isNoOlderSnapshot.cls = RX3 ∧ yX3_isNoOlderSnapshot.cls ≠ "java/lang/invoke/MethodHandle" ∧ yX3_isNoOlderSnapshot.cls ≠ "java/lang/invoke/VarHandle" ∧ (parseMethodDescriptor yX3_isNoOlderSnapshot.desc).map (fun d => d.parameters.length) = some 1 := by decide +kernel
set_option maxHeartbeats 4000000 in
set_option maxRecDepth 100000 in
theorem L_X3_isNoOlderSnapshot_17 {G : GG} {p : Program} {e : Env} {s : State} {m : MethodId} {args : Array Value} {below : List Frame} {meth : Method} {c : Code} (C : Cx G wsX3_isNoOlderSnapshot RX3 cX3_isNoOlderSnapshot 4 p s m args meth c) (hr : meth.sig.returnType = (some .boolean)) : ∀ (n : Nat) (k1 : Nat) (hk1 : isK k1 0) (k2 : Nat) (hk2 : isK k2 0) (x3 : Int32) (M : Me) (y : Int32 × Me) (H : Heap) (locs : List Loc) (ls : Array Slot), fL_X3_isNoOlderSnapshot_17 n k1 k2 x3 M = some y → wH G s M H locs → lv_has ls 4 [(1, .ref (ga G k1)), (2, .ref (ga G k2)), (3, .int x3)] → W p (gl G) e (rmd 1 0 0) s m args below meth c H locs 0 0 (MQ below (Qi G y) args s 0 0 (wA G)) (F0 m 17 ls []) := by
  have hx := C.1
  have hb := C.2.1
  have hown := C.2.2.2.1
  have hts := C.2.2.2.2.1
  intro n
  induction n with
  | zero => intro k1 hk1 k2 hk2 x3 M y H locs ls h; exact nso h
  | succ n ih =>
    intro k1 hk1 k2 hk2 x3 M y H locs ls h hW hl
    rw [fL_X3_isNoOlderSnapshot_17] at h
    refine lv_iload_n hx hb dX3_isNoOlderSnapshot_17 rfl (lv_at hl 2 rfl) ?_
    refine lv_bipush (v := 6) hx hb dX3_isNoOlderSnapshot_18 (by decide) ?_
    refine lv_icmp_gt (tgt := 44) hx hb dX3_isNoOlderSnapshot_20 (by decide) (fun c2 => ?_) (fun c2 => ?_)
    · replace h := ift h c2
      refine lv_iconst (v := 1) hx hb dX3_isNoOlderSnapshot_44 (by decide) ?_
      exact wr_z C hr (Or.inr rfl) hW h dX3_isNoOlderSnapshot_45
    · replace h := iff_ h c2
      refine lv_aload_n hx hb dX3_isNoOlderSnapshot_23 rfl (lv_at hl 0 rfl) ?_
      refine lv_iload_n hx hb dX3_isNoOlderSnapshot_24 rfl (lv_at hl 2 rfl) ?_
      obtain ⟨q3, hq3, h⟩ := ob h
      refine wc_Vi C hW (k := k1) (As := [.int x3]) (rest := []) (c_X0_versionFor G k1 hk1 x3 M q3 hq3) hk1 rfl (by decide) (cwV 1 hts gX3_isNoOlderSnapshot_X0_versionFor rfl rfl rfl yd_X0_versionFor ⟨Nat.le_of_ble_eq_true rfl, Nat.le_of_ble_eq_true rfl⟩) rfl hl.1 rfl (Nat.le_of_ble_eq_true rfl) dX3_isNoOlderSnapshot_25 ⟨Nat.le_refl 0, Nat.le_refl 0⟩ (fun H locs hW => ?_)
      refine lv_aload_n hx hb dX3_isNoOlderSnapshot_28 rfl (lv_at hl 1 rfl) ?_
      refine lv_iload_n hx hb dX3_isNoOlderSnapshot_29 rfl (lv_at hl 2 rfl) ?_
      obtain ⟨q4, hq4, h⟩ := ob h
      refine wc_Vi C hW (k := k2) (As := [.int x3]) (rest := [.int q3.1]) (c_X0_versionFor G k2 hk2 x3 q3.2 q4 hq4) hk2 rfl (by decide) (cwV 1 hts gX3_isNoOlderSnapshot_X0_versionFor rfl rfl rfl yd_X0_versionFor ⟨Nat.le_of_ble_eq_true rfl, Nat.le_of_ble_eq_true rfl⟩) rfl hl.1 rfl (Nat.le_of_ble_eq_true rfl) dX3_isNoOlderSnapshot_30 ⟨Nat.le_refl 0, Nat.le_refl 0⟩ (fun H locs hW => ?_)
      refine lv_icmp_ge (tgt := 38) hx hb dX3_isNoOlderSnapshot_33 (by decide) (fun c3 => ?_) (fun c3 => ?_)
      · replace h := ift h c3
        refine lv_iinc (v := (x3 + 1)) (lv' := [(3, .int (x3 + 1)), (1, .ref (ga G k1)), (2, .ref (ga G k2))]) hx hb dX3_isNoOlderSnapshot_38 hl (k := 2) rfl rfl (by decide) rfl (fun ls hl => ?_)
        refine lv_goto (tgt := 17) hx hb dX3_isNoOlderSnapshot_41 (by decide) ?_
        exact ih k1 hk1 k2 hk2 (x3 + 1) q4.2 y _ _ ls h hW (lv_sub hl [1, 2, 0] rfl)
      · replace h := iff_ h c3
        refine lv_iconst (v := 0) hx hb dX3_isNoOlderSnapshot_36 (by decide) ?_
        exact wr_z C hr (Or.inl rfl) hW h dX3_isNoOlderSnapshot_37
set_option maxHeartbeats 4000000 in
set_option maxRecDepth 100000 in
theorem c_X3_isNoOlderSnapshot (G : GG) (b1 : Nat) (hb1 : isK b1 0) (M : Me) (y : Int32 × Me) (h : f_X3_isNoOlderSnapshot b1 M = some y) : CI G yX3_isNoOlderSnapshot wsX3_isNoOlderSnapshot (rmd 1 0 0) [.ref (ga G 69), .ref (ga G b1)] M y := by
  rw [f_X3_isNoOlderSnapshot] at h
  refine co_o (by decide) rfl rfl (Nat.le_of_ble_eq_true rfl) (fun p e s m below meth c ls C hr hW hl => ?_)
  have hx := C.1
  have hb := C.2.1
  have hown := C.2.2.2.1
  have hts := C.2.2.2.2.1
  have hl : lv_has ls 4 [(0, .ref (ga G 69)), (1, .ref (ga G b1))] := hl
  refine lv_aload_n hx hb dX3_isNoOlderSnapshot_0 rfl (lv_at hl 0 rfl) ?_
  refine lv_iconst (v := 2) hx hb dX3_isNoOlderSnapshot_1 (by decide) ?_
  obtain ⟨q1, hq1, h⟩ := ob h
  refine wc_Vr C hW (k := 69) (As := [.int 2]) (rest := []) (c_X3_documentOf G 2 M q1 hq1) k69 rfl (by decide) (cwV 1 hts gX3_isNoOlderSnapshot_X3_documentOf rfl rfl rfl yd_X3_documentOf ⟨Nat.le_of_ble_eq_true rfl, Nat.le_of_ble_eq_true rfl⟩) rfl hl.1 rfl (Nat.le_of_ble_eq_true rfl) dX3_isNoOlderSnapshot_2 ⟨Nat.le_refl 0, Nat.le_refl 0⟩ (fun H locs hW => ?_)
  obtain ⟨hg1, h⟩ := ifg h
  have hkq1 := kB_is hg1
  refine lv_astore_n (lv' := [(2, .ref (ga G q1.1)), (0, .ref (ga G 69)), (1, .ref (ga G b1))]) hx hb dX3_isNoOlderSnapshot_5 rfl hl (by decide) rfl (fun ls hl => ?_)
  refine lv_aload_n hx hb dX3_isNoOlderSnapshot_6 rfl (lv_at hl 0 rfl) ?_
  obtain ⟨q2, hq2, h⟩ := ob h
  refine wc_Vi C hW (k := q1.1) (As := []) (rest := []) (c_X0_isWhole G q1.1 hkq1 q1.2 q2 hq2) hkq1 rfl (by decide) (cwV 0 hts gX3_isNoOlderSnapshot_X0_isWhole rfl rfl rfl yd_X0_isWhole ⟨Nat.le_of_ble_eq_true rfl, Nat.le_of_ble_eq_true rfl⟩) rfl hl.1 rfl (Nat.le_of_ble_eq_true rfl) dX3_isNoOlderSnapshot_7 ⟨Nat.le_refl 0, Nat.le_refl 0⟩ (fun H locs hW => ?_)
  refine lv_if_ne (tgt := 15) hx hb dX3_isNoOlderSnapshot_10 (by decide) (fun c1 => ?_) (fun c1 => ?_)
  · replace h := iff_ h c1
    refine lv_iconst (v := 3) hx hb dX3_isNoOlderSnapshot_15 (by decide) ?_
    refine lv_istore_n (lv' := [(3, .int 3), (2, .ref (ga G q1.1)), (0, .ref (ga G 69)), (1, .ref (ga G b1))]) hx hb dX3_isNoOlderSnapshot_16 rfl hl (by decide) rfl (fun ls hl => ?_)
    exact L_X3_isNoOlderSnapshot_17 C hr 200 b1 hb1 q1.1 hkq1 3 q2.2 y _ _ ls h hW (lv_sub hl [3, 1, 0] rfl)
  · replace h := ift h c1
    refine lv_iconst (v := 1) hx hb dX3_isNoOlderSnapshot_13 (by decide) ?_
    exact wr_z C hr (Or.inr rfl) hW h dX3_isNoOlderSnapshot_14
theorem yd_X3_findsVersionsRight : yX3_findsVersionsRight.cls = RX3 ∧ yX3_findsVersionsRight.cls ≠ "java/lang/invoke/MethodHandle" ∧ yX3_findsVersionsRight.cls ≠ "java/lang/invoke/VarHandle" ∧ (parseMethodDescriptor yX3_findsVersionsRight.desc).map (fun d => d.parameters.length) = some 1 := by decide +kernel
set_option maxHeartbeats 4000000 in
set_option maxRecDepth 100000 in
theorem c_X3_findsVersionsRight (G : GG) (b1 : Nat) (hb1 : isK b1 0) (M : Me) (y : Int32 × Me) (h : f_X3_findsVersionsRight b1 M = some y) : CI G yX3_findsVersionsRight wsX3_findsVersionsRight (rmd 3 0 0) [.ref (ga G 69), .ref (ga G b1)] M y := by
  rw [f_X3_findsVersionsRight] at h
  refine co_o (by decide) rfl rfl (Nat.le_of_ble_eq_true rfl) (fun p e s m below meth c ls C hr hW hl => ?_)
  have hx := C.1
  have hb := C.2.1
  have hown := C.2.2.2.1
  have hts := C.2.2.2.2.1
  have hl : lv_has ls 2 [(0, .ref (ga G 69)), (1, .ref (ga G b1))] := hl
  refine lv_aload_n hx hb dX3_findsVersionsRight_0 rfl (lv_at hl 1 rfl) ?_
  obtain ⟨q1, hq1, h⟩ := ob h
  refine wc_Vi C hW (k := b1) (As := []) (rest := []) (c_X0_role G b1 hb1 M q1 hq1) hb1 rfl (by decide) (cwV 0 hts gX3_findsVersionsRight_X0_role rfl rfl rfl yd_X0_role ⟨Nat.le_of_ble_eq_true rfl, Nat.le_of_ble_eq_true rfl⟩) rfl hl.1 rfl (Nat.le_of_ble_eq_true rfl) dX3_findsVersionsRight_1 ⟨Nat.le_refl 0, Nat.le_refl 0⟩ (fun H locs hW => ?_)
  by_cases c1 : q1.1 = 0
  · replace h := ift h c1
    refine lv_tableIn (tgt := 32) hx hb dX3_findsVersionsRight_4 (by rw [c1]; decide) (by rw [c1]; decide) (by rw [c1]; rfl) (by decide) ?_
    refine lv_aload_n hx hb dX3_findsVersionsRight_32 rfl (lv_at hl 1 rfl) ?_
    obtain ⟨q2, hq2, h⟩ := ob h
    refine wc_Vi C hW (k := b1) (As := []) (rest := []) (c_X0_version G b1 hb1 q1.2 q2 hq2) hb1 rfl (by decide) (cwV 0 hts gX3_findsVersionsRight_X0_version rfl rfl rfl yd_X0_version ⟨Nat.le_of_ble_eq_true rfl, Nat.le_of_ble_eq_true rfl⟩) rfl hl.1 rfl (Nat.le_of_ble_eq_true rfl) dX3_findsVersionsRight_33 ⟨Nat.le_refl 0, Nat.le_refl 0⟩ (fun H locs hW => ?_)
    refine lv_aload_n hx hb dX3_findsVersionsRight_36 rfl (lv_at hl 0 rfl) ?_
    refine lv_iconst (v := 0) hx hb dX3_findsVersionsRight_37 (by decide) ?_
    obtain ⟨q3, hq3, h⟩ := ob h
    refine wc_Vr C hW (k := 69) (As := [.int 0]) (rest := [.int q2.1]) (c_X3_documentOf G 0 q2.2 q3 hq3) k69 rfl (by decide) (cwV 1 hts gX3_findsVersionsRight_X3_documentOf rfl rfl rfl yd_X3_documentOf ⟨Nat.le_of_ble_eq_true rfl, Nat.le_of_ble_eq_true rfl⟩) rfl hl.1 rfl (Nat.le_of_ble_eq_true rfl) dX3_findsVersionsRight_38 ⟨Nat.le_refl 0, Nat.le_refl 0⟩ (fun H locs hW => ?_)
    obtain ⟨hg1, h⟩ := ifg h
    have hkq3 := kB_is hg1
    obtain ⟨q4, hq4, h⟩ := ob h
    refine wc_Vi C hW (k := q3.1) (As := []) (rest := [.int q2.1]) (c_X0_version G q3.1 hkq3 q3.2 q4 hq4) hkq3 rfl (by decide) (cwV 0 hts gX3_findsVersionsRight_X0_version rfl rfl rfl yd_X0_version ⟨Nat.le_of_ble_eq_true rfl, Nat.le_of_ble_eq_true rfl⟩) rfl hl.1 rfl (Nat.le_of_ble_eq_true rfl) dX3_findsVersionsRight_41 ⟨Nat.le_refl 0, Nat.le_refl 0⟩ (fun H locs hW => ?_)
    refine lv_iconst (v := 1) hx hb dX3_findsVersionsRight_44 (by decide) ?_
    refine lv_iadd hx hb dX3_findsVersionsRight_45 ?_
    refine lv_icmp_ne (tgt := 53) hx hb dX3_findsVersionsRight_46 (by decide) (fun c2 => ?_) (fun c2 => ?_)
    · replace h := iff_ h c2
      refine lv_iconst (v := 0) hx hb dX3_findsVersionsRight_53 (by decide) ?_
      exact wr_z C hr (Or.inl rfl) hW h dX3_findsVersionsRight_54
    · replace h := ift h c2
      refine lv_iconst (v := 1) hx hb dX3_findsVersionsRight_49 (by decide) ?_
      refine lv_goto (tgt := 54) hx hb dX3_findsVersionsRight_50 (by decide) ?_
      exact wr_z C hr (Or.inr rfl) hW h dX3_findsVersionsRight_54
  replace h := iff_ h c1
  by_cases c3 : q1.1 = 1
  · replace h := ift h c3
    refine lv_tableIn (tgt := 55) hx hb dX3_findsVersionsRight_4 (by rw [c3]; decide) (by rw [c3]; decide) (by rw [c3]; rfl) (by decide) ?_
    refine lv_aload_n hx hb dX3_findsVersionsRight_55 rfl (lv_at hl 0 rfl) ?_
    refine lv_aload_n hx hb dX3_findsVersionsRight_56 rfl (lv_at hl 1 rfl) ?_
    obtain ⟨q5, hq5, h⟩ := ob h
    refine wc_Vi C hW (k := 69) (As := [.ref (ga G b1)]) (rest := []) (c_X3_isNoOlderStamp G b1 hb1 q1.2 q5 hq5) k69 rfl (by decide) (cwV 1 hts gX3_findsVersionsRight_X3_isNoOlderStamp rfl rfl rfl yd_X3_isNoOlderStamp ⟨Nat.le_of_ble_eq_true rfl, Nat.le_of_ble_eq_true rfl⟩) rfl hl.1 rfl (Nat.le_of_ble_eq_true rfl) dX3_findsVersionsRight_57 ⟨Nat.le_refl 0, Nat.le_refl 0⟩ (fun H locs hW => ?_)
    obtain ⟨hg2, h⟩ := ifg h
    exact wr_z C hr (bB_or hg2) hW h dX3_findsVersionsRight_60
  replace h := iff_ h c3
  by_cases c4 : q1.1 = 2
  · replace h := ift h c4
    refine lv_tableIn (tgt := 61) hx hb dX3_findsVersionsRight_4 (by rw [c4]; decide) (by rw [c4]; decide) (by rw [c4]; rfl) (by decide) ?_
    refine lv_aload_n hx hb dX3_findsVersionsRight_61 rfl (lv_at hl 0 rfl) ?_
    refine lv_aload_n hx hb dX3_findsVersionsRight_62 rfl (lv_at hl 1 rfl) ?_
    obtain ⟨q6, hq6, h⟩ := ob h
    refine wc_Vi C hW (k := 69) (As := [.ref (ga G b1)]) (rest := []) (c_X3_isAsStamped G b1 hb1 q1.2 q6 hq6) k69 rfl (by decide) (cwV 1 hts gX3_findsVersionsRight_X3_isAsStamped rfl rfl rfl yd_X3_isAsStamped ⟨Nat.le_of_ble_eq_true rfl, Nat.le_of_ble_eq_true rfl⟩) rfl hl.1 rfl (Nat.le_of_ble_eq_true rfl) dX3_findsVersionsRight_63 ⟨Nat.le_refl 0, Nat.le_refl 0⟩ (fun H locs hW => ?_)
    refine lv_if_eq (tgt := 81) hx hb dX3_findsVersionsRight_66 (by decide) (fun c5 => ?_) (fun c5 => ?_)
    · replace h := ift h c5
      refine lv_iconst (v := 0) hx hb dX3_findsVersionsRight_81 (by decide) ?_
      exact wr_z C hr (Or.inl rfl) hW h dX3_findsVersionsRight_82
    · replace h := iff_ h c5
      refine lv_aload_n hx hb dX3_findsVersionsRight_69 rfl (lv_at hl 0 rfl) ?_
      refine lv_aload_n hx hb dX3_findsVersionsRight_70 rfl (lv_at hl 1 rfl) ?_
      obtain ⟨q7, hq7, h⟩ := ob h
      refine wc_Vi C hW (k := 69) (As := [.ref (ga G b1)]) (rest := []) (c_X3_isNoOlderSnapshot G b1 hb1 q6.2 q7 hq7) k69 rfl (by decide) (cwV 1 hts gX3_findsVersionsRight_X3_isNoOlderSnapshot rfl rfl rfl yd_X3_isNoOlderSnapshot ⟨Nat.le_of_ble_eq_true rfl, Nat.le_of_ble_eq_true rfl⟩) rfl hl.1 rfl (Nat.le_of_ble_eq_true rfl) dX3_findsVersionsRight_71 ⟨Nat.le_refl 0, Nat.le_refl 0⟩ (fun H locs hW => ?_)
      refine lv_if_eq (tgt := 81) hx hb dX3_findsVersionsRight_74 (by decide) (fun c6 => ?_) (fun c6 => ?_)
      · replace h := ift h c6
        refine lv_iconst (v := 0) hx hb dX3_findsVersionsRight_81 (by decide) ?_
        exact wr_z C hr (Or.inl rfl) hW h dX3_findsVersionsRight_82
      · replace h := iff_ h c6
        refine lv_iconst (v := 1) hx hb dX3_findsVersionsRight_77 (by decide) ?_
        refine lv_goto (tgt := 82) hx hb dX3_findsVersionsRight_78 (by decide) ?_
        exact wr_z C hr (Or.inr rfl) hW h dX3_findsVersionsRight_82
  replace h := iff_ h c4
  refine lv_tableOut (tgt := 83) hx hb dX3_findsVersionsRight_4 (tb_out2 c1 c3 c4) (by decide) ?_
  refine lv_aload_n hx hb dX3_findsVersionsRight_83 rfl (lv_at hl 1 rfl) ?_
  obtain ⟨q8, hq8, h⟩ := ob h
  refine wc_Vi C hW (k := b1) (As := []) (rest := []) (c_X0_version G b1 hb1 q1.2 q8 hq8) hb1 rfl (by decide) (cwV 0 hts gX3_findsVersionsRight_X0_version rfl rfl rfl yd_X0_version ⟨Nat.le_of_ble_eq_true rfl, Nat.le_of_ble_eq_true rfl⟩) rfl hl.1 rfl (Nat.le_of_ble_eq_true rfl) dX3_findsVersionsRight_84 ⟨Nat.le_refl 0, Nat.le_refl 0⟩ (fun H locs hW => ?_)
  refine lv_aload_n hx hb dX3_findsVersionsRight_87 rfl (lv_at hl 0 rfl) ?_
  refine lv_iconst (v := 2) hx hb dX3_findsVersionsRight_88 (by decide) ?_
  obtain ⟨q9, hq9, h⟩ := ob h
  refine wc_Vr C hW (k := 69) (As := [.int 2]) (rest := [.int q8.1]) (c_X3_documentOf G 2 q8.2 q9 hq9) k69 rfl (by decide) (cwV 1 hts gX3_findsVersionsRight_X3_documentOf rfl rfl rfl yd_X3_documentOf ⟨Nat.le_of_ble_eq_true rfl, Nat.le_of_ble_eq_true rfl⟩) rfl hl.1 rfl (Nat.le_of_ble_eq_true rfl) dX3_findsVersionsRight_89 ⟨Nat.le_refl 0, Nat.le_refl 0⟩ (fun H locs hW => ?_)
  obtain ⟨hg3, h⟩ := ifg h
  have hkq9 := kB_is hg3
  refine lv_aload_n hx hb dX3_findsVersionsRight_92 rfl (lv_at hl 1 rfl) ?_
  obtain ⟨q10, hq10, h⟩ := ob h
  refine wc_Vi C hW (k := b1) (As := []) (rest := [.ref (ga G q9.1), .int q8.1]) (c_X0_role G b1 hb1 q9.2 q10 hq10) hb1 rfl (by decide) (cwV 0 hts gX3_findsVersionsRight_X0_role rfl rfl rfl yd_X0_role ⟨Nat.le_of_ble_eq_true rfl, Nat.le_of_ble_eq_true rfl⟩) rfl hl.1 rfl (Nat.le_of_ble_eq_true rfl) dX3_findsVersionsRight_93 ⟨Nat.le_refl 0, Nat.le_refl 0⟩ (fun H locs hW => ?_)
  obtain ⟨q11, hq11, h⟩ := ob h
  refine wc_Vi C hW (k := q9.1) (As := [.int q10.1]) (rest := [.int q8.1]) (c_X0_versionFor G q9.1 hkq9 q10.1 q10.2 q11 hq11) hkq9 rfl (by decide) (cwV 1 hts gX3_findsVersionsRight_X0_versionFor rfl rfl rfl yd_X0_versionFor ⟨Nat.le_of_ble_eq_true rfl, Nat.le_of_ble_eq_true rfl⟩) rfl hl.1 rfl (Nat.le_of_ble_eq_true rfl) dX3_findsVersionsRight_96 ⟨Nat.le_refl 0, Nat.le_refl 0⟩ (fun H locs hW => ?_)
  refine lv_icmp_ne (tgt := 106) hx hb dX3_findsVersionsRight_99 (by decide) (fun c7 => ?_) (fun c7 => ?_)
  · replace h := iff_ h c7
    refine lv_iconst (v := 0) hx hb dX3_findsVersionsRight_106 (by decide) ?_
    exact wr_z C hr (Or.inl rfl) hW h dX3_findsVersionsRight_107
  · replace h := ift h c7
    refine lv_iconst (v := 1) hx hb dX3_findsVersionsRight_102 (by decide) ?_
    refine lv_goto (tgt := 107) hx hb dX3_findsVersionsRight_103 (by decide) ?_
    exact wr_z C hr (Or.inr rfl) hW h dX3_findsVersionsRight_107
theorem yd_X3_changesOnlineKeys : yX3_changesOnlineKeys.cls = RX3 ∧ yX3_changesOnlineKeys.cls ≠ "java/lang/invoke/MethodHandle" ∧ yX3_changesOnlineKeys.cls ≠ "java/lang/invoke/VarHandle" ∧ (parseMethodDescriptor yX3_changesOnlineKeys.desc).map (fun d => d.parameters.length) = some 1 := by decide +kernel
set_option maxHeartbeats 4000000 in
set_option maxRecDepth 100000 in
theorem c_X3_changesOnlineKeys (G : GG) (b1 : Nat) (hb1 : isK b1 0) (M : Me) (y : Int32 × Me) (h : f_X3_changesOnlineKeys b1 M = some y) : CI G yX3_changesOnlineKeys wsX3_changesOnlineKeys (rmd 3 0 0) [.ref (ga G 69), .ref (ga G b1)] M y := by
  rw [f_X3_changesOnlineKeys] at h
  refine co_o (by decide) rfl rfl (Nat.le_of_ble_eq_true rfl) (fun p e s m below meth c ls C hr hW hl => ?_)
  have hx := C.1
  have hb := C.2.1
  have hown := C.2.2.2.1
  have hts := C.2.2.2.2.1
  have hl : lv_has ls 3 [(0, .ref (ga G 69)), (1, .ref (ga G b1))] := hl
  refine lv_aload_n hx hb dX3_changesOnlineKeys_0 rfl (lv_at hl 0 rfl) ?_
  refine lv_iconst (v := 0) hx hb dX3_changesOnlineKeys_1 (by decide) ?_
  obtain ⟨q1, hq1, h⟩ := ob h
  refine wc_Vr C hW (k := 69) (As := [.int 0]) (rest := []) (c_X3_documentOf G 0 M q1 hq1) k69 rfl (by decide) (cwV 1 hts gX3_changesOnlineKeys_X3_documentOf rfl rfl rfl yd_X3_documentOf ⟨Nat.le_of_ble_eq_true rfl, Nat.le_of_ble_eq_true rfl⟩) rfl hl.1 rfl (Nat.le_of_ble_eq_true rfl) dX3_changesOnlineKeys_2 ⟨Nat.le_refl 0, Nat.le_refl 0⟩ (fun H locs hW => ?_)
  obtain ⟨hg1, h⟩ := ifg h
  have hkq1 := kB_is hg1
  refine lv_astore_n (lv' := [(2, .ref (ga G q1.1)), (0, .ref (ga G 69)), (1, .ref (ga G b1))]) hx hb dX3_changesOnlineKeys_5 rfl hl (by decide) rfl (fun ls hl => ?_)
  refine lv_aload_n hx hb dX3_changesOnlineKeys_6 rfl (lv_at hl 0 rfl) ?_
  refine lv_aload_n hx hb dX3_changesOnlineKeys_7 rfl (lv_at hl 2 rfl) ?_
  refine lv_iconst (v := 1) hx hb dX3_changesOnlineKeys_8 (by decide) ?_
  obtain ⟨q2, hq2, h⟩ := ob h
  refine wc_Vi C hW (k := q1.1) (As := [.ref (ga G b1), .int 1]) (rest := []) (c_X0_hasKeySetOf G q1.1 hkq1 b1 hb1 1 q1.2 q2 hq2) hkq1 rfl (by decide) (cwV 2 hts gX3_changesOnlineKeys_X0_hasKeySetOf rfl rfl rfl yd_X0_hasKeySetOf ⟨Nat.le_of_ble_eq_true rfl, Nat.le_of_ble_eq_true rfl⟩) rfl hl.1 rfl (Nat.le_of_ble_eq_true rfl) dX3_changesOnlineKeys_9 ⟨Nat.le_refl 0, Nat.le_refl 0⟩ (fun H locs hW => ?_)
  refine lv_if_eq (tgt := 24) hx hb dX3_changesOnlineKeys_12 (by decide) (fun c1 => ?_) (fun c1 => ?_)
  · replace h := ift h c1
    refine lv_iconst (v := 1) hx hb dX3_changesOnlineKeys_24 (by decide) ?_
    refine lv_goto (tgt := 29) hx hb dX3_changesOnlineKeys_25 (by decide) ?_
    exact wr_z C hr (Or.inr rfl) hW h dX3_changesOnlineKeys_29
  · replace h := iff_ h c1
    refine lv_aload_n hx hb dX3_changesOnlineKeys_15 rfl (lv_at hl 0 rfl) ?_
    refine lv_aload_n hx hb dX3_changesOnlineKeys_16 rfl (lv_at hl 2 rfl) ?_
    refine lv_iconst (v := 2) hx hb dX3_changesOnlineKeys_17 (by decide) ?_
    obtain ⟨q3, hq3, h⟩ := ob h
    refine wc_Vi C hW (k := q1.1) (As := [.ref (ga G b1), .int 2]) (rest := []) (c_X0_hasKeySetOf G q1.1 hkq1 b1 hb1 2 q2.2 q3 hq3) hkq1 rfl (by decide) (cwV 2 hts gX3_changesOnlineKeys_X0_hasKeySetOf rfl rfl rfl yd_X0_hasKeySetOf ⟨Nat.le_of_ble_eq_true rfl, Nat.le_of_ble_eq_true rfl⟩) rfl hl.1 rfl (Nat.le_of_ble_eq_true rfl) dX3_changesOnlineKeys_18 ⟨Nat.le_refl 0, Nat.le_refl 0⟩ (fun H locs hW => ?_)
    refine lv_if_ne (tgt := 28) hx hb dX3_changesOnlineKeys_21 (by decide) (fun c2 => ?_) (fun c2 => ?_)
    · replace h := iff_ h c2
      refine lv_iconst (v := 0) hx hb dX3_changesOnlineKeys_28 (by decide) ?_
      exact wr_z C hr (Or.inl rfl) hW h dX3_changesOnlineKeys_29
    · replace h := ift h c2
      refine lv_iconst (v := 1) hx hb dX3_changesOnlineKeys_24 (by decide) ?_
      refine lv_goto (tgt := 29) hx hb dX3_changesOnlineKeys_25 (by decide) ?_
      exact wr_z C hr (Or.inr rfl) hW h dX3_changesOnlineKeys_29
theorem yd_X3_take : yX3_take.cls = RX3 ∧ yX3_take.cls ≠ "java/lang/invoke/MethodHandle" ∧ yX3_take.cls ≠ "java/lang/invoke/VarHandle" ∧ (parseMethodDescriptor yX3_take.desc).map (fun d => d.parameters.length) = some 1 := by decide +kernel
set_option maxHeartbeats 4000000 in
set_option maxRecDepth 100000 in
theorem c_X3_take (G : GG) (b1 : Nat) (hb1 : isK b1 0) (M : Me) (y : Int32 × Me) (h : f_X3_take b1 M = some y) : CV G yX3_take wsX3_take (rmd 6 0 0) [.ref (ga G 69), .ref (ga G b1)] M y := by
  rw [f_X3_take] at h
  refine co_o (by decide) rfl rfl (Nat.le_of_ble_eq_true rfl) (fun p e s m below meth c ls C hr hW hl => ?_)
  have hx := C.1
  have hb := C.2.1
  have hown := C.2.2.2.1
  have hts := C.2.2.2.2.1
  have hl : lv_has ls 2 [(0, .ref (ga G 69)), (1, .ref (ga G b1))] := hl
  refine lv_aload_n hx hb dX3_take_0 rfl (lv_at hl 1 rfl) ?_
  obtain ⟨q1, hq1, h⟩ := ob h
  refine wc_Vi C hW (k := b1) (As := []) (rest := []) (c_X0_role G b1 hb1 M q1 hq1) hb1 rfl (by decide) (cwV 0 hts gX3_take_X0_role rfl rfl rfl yd_X0_role ⟨Nat.le_of_ble_eq_true rfl, Nat.le_of_ble_eq_true rfl⟩) rfl hl.1 rfl (Nat.le_of_ble_eq_true rfl) dX3_take_1 ⟨Nat.le_refl 0, Nat.le_refl 0⟩ (fun H locs hW => ?_)
  refine lv_if_ne (tgt := 31) hx hb dX3_take_4 (by decide) (fun c1 => ?_) (fun c1 => ?_)
  · replace h := iff_ h c1
    refine lv_aload_n hx hb dX3_take_31 rfl (lv_at hl 0 rfl) ?_
    refine lv_aload_n hx hb dX3_take_32 rfl (lv_at hl 1 rfl) ?_
    obtain ⟨q2, hq2, h⟩ := ob h
    refine wc_Vi C hW (k := b1) (As := []) (rest := [.ref (ga G 69)]) (c_X0_role G b1 hb1 q1.2 q2 hq2) hb1 rfl (by decide) (cwV 0 hts gX3_take_X0_role rfl rfl rfl yd_X0_role ⟨Nat.le_of_ble_eq_true rfl, Nat.le_of_ble_eq_true rfl⟩) rfl hl.1 rfl (Nat.le_of_ble_eq_true rfl) dX3_take_33 ⟨Nat.le_refl 0, Nat.le_refl 0⟩ (fun H locs hW => ?_)
    obtain ⟨q3, hq3, h⟩ := ob h
    refine wc_Vr C hW (k := 69) (As := [.int q2.1]) (rest := []) (c_X3_documentOf G q2.1 q2.2 q3 hq3) k69 rfl (by decide) (cwV 1 hts gX3_take_X3_documentOf rfl rfl rfl yd_X3_documentOf ⟨Nat.le_of_ble_eq_true rfl, Nat.le_of_ble_eq_true rfl⟩) rfl hl.1 rfl (Nat.le_of_ble_eq_true rfl) dX3_take_36 ⟨Nat.le_refl 0, Nat.le_refl 0⟩ (fun H locs hW => ?_)
    obtain ⟨hg1, h⟩ := ifg h
    have hkq3 := kB_is hg1
    refine lv_aload_n hx hb dX3_take_39 rfl (lv_at hl 1 rfl) ?_
    obtain ⟨q4, hq4, h⟩ := ob h
    refine wc_Vr C hW (k := b1) (As := []) (rest := [.ref (ga G q3.1)]) (c_X0_row G b1 hb1 q3.2 q4 hq4) hb1 rfl (by decide) (cwV 0 hts gX3_take_X0_row rfl rfl rfl yd_X0_row ⟨Nat.le_of_ble_eq_true rfl, Nat.le_of_ble_eq_true rfl⟩) rfl hl.1 rfl (Nat.le_of_ble_eq_true rfl) dX3_take_40 ⟨Nat.le_refl 0, Nat.le_refl 0⟩ (fun H locs hW => ?_)
    obtain ⟨hg2, h⟩ := ifg h
    have hkq4 := kB_is hg2
    obtain ⟨q5, hq5, h⟩ := ob h
    refine wc_Vv C hW (k := q3.1) (As := [.ref (ga G q4.1)]) (rest := []) (c_X0_read G q3.1 hkq3 q4.1 hkq4 q4.2 q5 hq5) hkq3 rfl (by decide) (cwV 1 hts gX3_take_X0_read rfl rfl rfl yd_X0_read ⟨Nat.le_of_ble_eq_true rfl, Nat.le_of_ble_eq_true rfl⟩) rfl hl.1 rfl (Nat.le_of_ble_eq_true rfl) dX3_take_43 ⟨Nat.le_refl 0, Nat.le_refl 0⟩ (fun H locs hW => ?_)
    exact wr_v C hr hW h dX3_take_46
  · replace h := ift h c1
    refine lv_aload_n hx hb dX3_take_7 rfl (lv_at hl 0 rfl) ?_
    refine lv_aload_n hx hb dX3_take_8 rfl (lv_at hl 1 rfl) ?_
    obtain ⟨q6, hq6, h⟩ := ob h
    refine wc_Vi C hW (k := 69) (As := [.ref (ga G b1)]) (rest := []) (c_X3_changesOnlineKeys G b1 hb1 q1.2 q6 hq6) k69 rfl (by decide) (cwV 1 hts gX3_take_X3_changesOnlineKeys rfl rfl rfl yd_X3_changesOnlineKeys ⟨Nat.le_of_ble_eq_true rfl, Nat.le_of_ble_eq_true rfl⟩) rfl hl.1 rfl (Nat.le_of_ble_eq_true rfl) dX3_take_9 ⟨Nat.le_refl 0, Nat.le_refl 0⟩ (fun H locs hW => ?_)
    refine lv_if_eq (tgt := 31) hx hb dX3_take_12 (by decide) (fun c2 => ?_) (fun c2 => ?_)
    · replace h := ift h c2
      refine lv_aload_n hx hb dX3_take_31 rfl (lv_at hl 0 rfl) ?_
      refine lv_aload_n hx hb dX3_take_32 rfl (lv_at hl 1 rfl) ?_
      obtain ⟨q7, hq7, h⟩ := ob h
      refine wc_Vi C hW (k := b1) (As := []) (rest := [.ref (ga G 69)]) (c_X0_role G b1 hb1 q6.2 q7 hq7) hb1 rfl (by decide) (cwV 0 hts gX3_take_X0_role rfl rfl rfl yd_X0_role ⟨Nat.le_of_ble_eq_true rfl, Nat.le_of_ble_eq_true rfl⟩) rfl hl.1 rfl (Nat.le_of_ble_eq_true rfl) dX3_take_33 ⟨Nat.le_refl 0, Nat.le_refl 0⟩ (fun H locs hW => ?_)
      obtain ⟨q8, hq8, h⟩ := ob h
      refine wc_Vr C hW (k := 69) (As := [.int q7.1]) (rest := []) (c_X3_documentOf G q7.1 q7.2 q8 hq8) k69 rfl (by decide) (cwV 1 hts gX3_take_X3_documentOf rfl rfl rfl yd_X3_documentOf ⟨Nat.le_of_ble_eq_true rfl, Nat.le_of_ble_eq_true rfl⟩) rfl hl.1 rfl (Nat.le_of_ble_eq_true rfl) dX3_take_36 ⟨Nat.le_refl 0, Nat.le_refl 0⟩ (fun H locs hW => ?_)
      obtain ⟨hg3, h⟩ := ifg h
      have hkq8 := kB_is hg3
      refine lv_aload_n hx hb dX3_take_39 rfl (lv_at hl 1 rfl) ?_
      obtain ⟨q9, hq9, h⟩ := ob h
      refine wc_Vr C hW (k := b1) (As := []) (rest := [.ref (ga G q8.1)]) (c_X0_row G b1 hb1 q8.2 q9 hq9) hb1 rfl (by decide) (cwV 0 hts gX3_take_X0_row rfl rfl rfl yd_X0_row ⟨Nat.le_of_ble_eq_true rfl, Nat.le_of_ble_eq_true rfl⟩) rfl hl.1 rfl (Nat.le_of_ble_eq_true rfl) dX3_take_40 ⟨Nat.le_refl 0, Nat.le_refl 0⟩ (fun H locs hW => ?_)
      obtain ⟨hg4, h⟩ := ifg h
      have hkq9 := kB_is hg4
      obtain ⟨q10, hq10, h⟩ := ob h
      refine wc_Vv C hW (k := q8.1) (As := [.ref (ga G q9.1)]) (rest := []) (c_X0_read G q8.1 hkq8 q9.1 hkq9 q9.2 q10 hq10) hkq8 rfl (by decide) (cwV 1 hts gX3_take_X0_read rfl rfl rfl yd_X0_read ⟨Nat.le_of_ble_eq_true rfl, Nat.le_of_ble_eq_true rfl⟩) rfl hl.1 rfl (Nat.le_of_ble_eq_true rfl) dX3_take_43 ⟨Nat.le_refl 0, Nat.le_refl 0⟩ (fun H locs hW => ?_)
      exact wr_v C hr hW h dX3_take_46
    · replace h := iff_ h c2
      refine lv_aload_n hx hb dX3_take_15 rfl (lv_at hl 0 rfl) ?_
      refine lv_iconst (v := 1) hx hb dX3_take_16 (by decide) ?_
      obtain ⟨q11, hq11, h⟩ := ob h
      refine wc_Vr C hW (k := 69) (As := [.int 1]) (rest := []) (c_X3_documentOf G 1 q6.2 q11 hq11) k69 rfl (by decide) (cwV 1 hts gX3_take_X3_documentOf rfl rfl rfl yd_X3_documentOf ⟨Nat.le_of_ble_eq_true rfl, Nat.le_of_ble_eq_true rfl⟩) rfl hl.1 rfl (Nat.le_of_ble_eq_true rfl) dX3_take_17 ⟨Nat.le_refl 0, Nat.le_refl 0⟩ (fun H locs hW => ?_)
      obtain ⟨hg5, h⟩ := ifg h
      have hkq11 := kB_is hg5
      obtain ⟨q12, hq12, h⟩ := ob h
      refine wc_Vv C hW (k := q11.1) (As := []) (rest := []) (c_X0_clear G q11.1 hkq11 q11.2 q12 hq12) hkq11 rfl (by decide) (cwV 0 hts gX3_take_X0_clear rfl rfl rfl yd_X0_clear ⟨Nat.le_of_ble_eq_true rfl, Nat.le_of_ble_eq_true rfl⟩) rfl hl.1 rfl (Nat.le_of_ble_eq_true rfl) dX3_take_20 ⟨Nat.le_refl 0, Nat.le_refl 0⟩ (fun H locs hW => ?_)
      refine lv_aload_n hx hb dX3_take_23 rfl (lv_at hl 0 rfl) ?_
      refine lv_iconst (v := 2) hx hb dX3_take_24 (by decide) ?_
      obtain ⟨q13, hq13, h⟩ := ob h
      refine wc_Vr C hW (k := 69) (As := [.int 2]) (rest := []) (c_X3_documentOf G 2 q12.2 q13 hq13) k69 rfl (by decide) (cwV 1 hts gX3_take_X3_documentOf rfl rfl rfl yd_X3_documentOf ⟨Nat.le_of_ble_eq_true rfl, Nat.le_of_ble_eq_true rfl⟩) rfl hl.1 rfl (Nat.le_of_ble_eq_true rfl) dX3_take_25 ⟨Nat.le_refl 0, Nat.le_refl 0⟩ (fun H locs hW => ?_)
      obtain ⟨hg6, h⟩ := ifg h
      have hkq13 := kB_is hg6
      obtain ⟨q14, hq14, h⟩ := ob h
      refine wc_Vv C hW (k := q13.1) (As := []) (rest := []) (c_X0_clear G q13.1 hkq13 q13.2 q14 hq14) hkq13 rfl (by decide) (cwV 0 hts gX3_take_X0_clear rfl rfl rfl yd_X0_clear ⟨Nat.le_of_ble_eq_true rfl, Nat.le_of_ble_eq_true rfl⟩) rfl hl.1 rfl (Nat.le_of_ble_eq_true rfl) dX3_take_28 ⟨Nat.le_refl 0, Nat.le_refl 0⟩ (fun H locs hW => ?_)
      refine lv_aload_n hx hb dX3_take_31 rfl (lv_at hl 0 rfl) ?_
      refine lv_aload_n hx hb dX3_take_32 rfl (lv_at hl 1 rfl) ?_
      obtain ⟨q15, hq15, h⟩ := ob h
      refine wc_Vi C hW (k := b1) (As := []) (rest := [.ref (ga G 69)]) (c_X0_role G b1 hb1 q14.2 q15 hq15) hb1 rfl (by decide) (cwV 0 hts gX3_take_X0_role rfl rfl rfl yd_X0_role ⟨Nat.le_of_ble_eq_true rfl, Nat.le_of_ble_eq_true rfl⟩) rfl hl.1 rfl (Nat.le_of_ble_eq_true rfl) dX3_take_33 ⟨Nat.le_refl 0, Nat.le_refl 0⟩ (fun H locs hW => ?_)
      obtain ⟨q16, hq16, h⟩ := ob h
      refine wc_Vr C hW (k := 69) (As := [.int q15.1]) (rest := []) (c_X3_documentOf G q15.1 q15.2 q16 hq16) k69 rfl (by decide) (cwV 1 hts gX3_take_X3_documentOf rfl rfl rfl yd_X3_documentOf ⟨Nat.le_of_ble_eq_true rfl, Nat.le_of_ble_eq_true rfl⟩) rfl hl.1 rfl (Nat.le_of_ble_eq_true rfl) dX3_take_36 ⟨Nat.le_refl 0, Nat.le_refl 0⟩ (fun H locs hW => ?_)
      obtain ⟨hg7, h⟩ := ifg h
      have hkq16 := kB_is hg7
      refine lv_aload_n hx hb dX3_take_39 rfl (lv_at hl 1 rfl) ?_
      obtain ⟨q17, hq17, h⟩ := ob h
      refine wc_Vr C hW (k := b1) (As := []) (rest := [.ref (ga G q16.1)]) (c_X0_row G b1 hb1 q16.2 q17 hq17) hb1 rfl (by decide) (cwV 0 hts gX3_take_X0_row rfl rfl rfl yd_X0_row ⟨Nat.le_of_ble_eq_true rfl, Nat.le_of_ble_eq_true rfl⟩) rfl hl.1 rfl (Nat.le_of_ble_eq_true rfl) dX3_take_40 ⟨Nat.le_refl 0, Nat.le_refl 0⟩ (fun H locs hW => ?_)
      obtain ⟨hg8, h⟩ := ifg h
      have hkq17 := kB_is hg8
      obtain ⟨q18, hq18, h⟩ := ob h
      refine wc_Vv C hW (k := q16.1) (As := [.ref (ga G q17.1)]) (rest := []) (c_X0_read G q16.1 hkq16 q17.1 hkq17 q17.2 q18 hq18) hkq16 rfl (by decide) (cwV 1 hts gX3_take_X0_read rfl rfl rfl yd_X0_read ⟨Nat.le_of_ble_eq_true rfl, Nat.le_of_ble_eq_true rfl⟩) rfl hl.1 rfl (Nat.le_of_ble_eq_true rfl) dX3_take_43 ⟨Nat.le_refl 0, Nat.le_refl 0⟩ (fun H locs hW => ?_)
      exact wr_v C hr hW h dX3_take_46
