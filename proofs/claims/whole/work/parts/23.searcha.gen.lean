theorem yd_X2_visitCount : yX2_visitCount.cls = RX2 ∧ yX2_visitCount.cls ≠ "java/lang/invoke/MethodHandle" ∧ yX2_visitCount.cls ≠ "java/lang/invoke/VarHandle" ∧ (parseMethodDescriptor yX2_visitCount.desc).map (fun d => d.parameters.length) = some 0 := by decide +kernel
set_option maxHeartbeats 4000000 in
set_option maxRecDepth 100000 in
theorem c_X2_visitCount (G : GG)  (M : Me) (y : Int32 × Me) (h : f_X2_visitCount  M = some y) : CI G yX2_visitCount wsX2_visitCount (rmd 0 0 0) [.ref (ga G 71)] M y := by
  rw [f_X2_visitCount] at h
  refine co_o (by decide) rfl rfl (Nat.le_of_ble_eq_true rfl) (fun p e s m below meth c ls C hr hW hl => ?_)
  have hx := C.1
  have hb := C.2.1
  have hown := C.2.2.2.1
  have hts := C.2.2.2.2.1
  have inX2 : ∀ w ∈ wsX20, w ∈ wsX2_visitCount := by decide +kernel
  have hL24 := hts (.fieldLink RX2 24 "TrustedUpdates$Search" "visitCount" "I") (by decide +kernel)
  have hl : lv_has ls 1 [(0, .ref (ga G 71))] := hl
  refine lv_aload_n hx hb dX2_visitCount_0 rfl (lv_at hl 0 rfl) ?_
  refine wg_i C hW (k := 71) (ci := 2) (j := 3) k71 rfl ⟨by decide, rfl⟩ inX2 (by decide) (rfq k71 rfl) (v := (M 71 3)) rfl hL24 (fun _ h9 => h9) dX2_visitCount_1 ?_
  exact wr_i C hr hW h dX2_visitCount_4
theorem yd_X2_foundRole : yX2_foundRole.cls = RX2 ∧ yX2_foundRole.cls ≠ "java/lang/invoke/MethodHandle" ∧ yX2_foundRole.cls ≠ "java/lang/invoke/VarHandle" ∧ (parseMethodDescriptor yX2_foundRole.desc).map (fun d => d.parameters.length) = some 0 := by decide +kernel
set_option maxHeartbeats 4000000 in
set_option maxRecDepth 100000 in
theorem c_X2_foundRole (G : GG)  (M : Me) (y : Int32 × Me) (h : f_X2_foundRole  M = some y) : CI G yX2_foundRole wsX2_foundRole (rmd 0 0 0) [.ref (ga G 71)] M y := by
  rw [f_X2_foundRole] at h
  refine co_o (by decide) rfl rfl (Nat.le_of_ble_eq_true rfl) (fun p e s m below meth c ls C hr hW hl => ?_)
  have hx := C.1
  have hb := C.2.1
  have hown := C.2.2.2.1
  have hts := C.2.2.2.2.1
  have inX2 : ∀ w ∈ wsX20, w ∈ wsX2_foundRole := by decide +kernel
  have hL28 := hts (.fieldLink RX2 28 "TrustedUpdates$Search" "foundRole" "I") (by decide +kernel)
  have hl : lv_has ls 1 [(0, .ref (ga G 71))] := hl
  refine lv_aload_n hx hb dX2_foundRole_0 rfl (lv_at hl 0 rfl) ?_
  refine wg_i C hW (k := 71) (ci := 2) (j := 4) k71 rfl ⟨by decide, rfl⟩ inX2 (by decide) (rfq k71 rfl) (v := (M 71 4)) rfl hL28 (fun _ h9 => h9) dX2_foundRole_1 ?_
  exact wr_i C hr hW h dX2_foundRole_4
theorem yd_X2_foundTargetIs : yX2_foundTargetIs.cls = RX2 ∧ yX2_foundTargetIs.cls ≠ "java/lang/invoke/MethodHandle" ∧ yX2_foundTargetIs.cls ≠ "java/lang/invoke/VarHandle" ∧ (parseMethodDescriptor yX2_foundTargetIs.desc).map (fun d => d.parameters.length) = some 1 := by decide +kernel
set_option maxHeartbeats 4000000 in
set_option maxRecDepth 100000 in
theorem c_X2_foundTargetIs (G : GG) (b1 : Nat) (hb1 : isK b1 1) (M : Me) (y : Int32 × Me) (h : f_X2_foundTargetIs b1 M = some y) : CI G yX2_foundTargetIs wsX2_foundTargetIs (rmd 2 0 0) [.ref (ga G 71), .ref (ga G b1)] M y := by
  rw [f_X2_foundTargetIs] at h
  refine co_o (by decide) rfl rfl (Nat.le_of_ble_eq_true rfl) (fun p e s m below meth c ls C hr hW hl => ?_)
  have hx := C.1
  have hb := C.2.1
  have hown := C.2.2.2.1
  have hts := C.2.2.2.2.1
  have inX2 : ∀ w ∈ wsX20, w ∈ wsX2_foundTargetIs := by decide +kernel
  have hL9 := hts (.fieldLink RX2 9 "TrustedUpdates$Search" "trust" "LTrustedUpdates$Trust;") (by decide +kernel)
  have hL28 := hts (.fieldLink RX2 28 "TrustedUpdates$Search" "foundRole" "I") (by decide +kernel)
  have hL43 := hts (.fieldLink RX2 43 "TrustedUpdates$Search" "foundPlace" "I") (by decide +kernel)
  have hl : lv_has ls 3 [(0, .ref (ga G 71)), (1, .ref (ga G b1))] := hl
  refine lv_aload_n hx hb dX2_foundTargetIs_0 rfl (lv_at hl 0 rfl) ?_
  refine wg_r C hW (k := 71) (ci := 2) (j := 0) (q := 69) k71 rfl ⟨by decide, rfl⟩ inX2 (by decide) (rfq k71 rfl) hL9 (fun _ h9 => h9) dX2_foundTargetIs_1 ?_
  refine lv_aload_n hx hb dX2_foundTargetIs_4 rfl (lv_at hl 0 rfl) ?_
  refine wg_i C hW (k := 71) (ci := 2) (j := 4) k71 rfl ⟨by decide, rfl⟩ inX2 (by decide) (rfq k71 rfl) (v := (M 71 4)) rfl hL28 (fun _ h9 => h9) dX2_foundTargetIs_5 ?_
  obtain ⟨q1, hq1, h⟩ := ob h
  refine wc_Vr C hW (k := 69) (As := [.int (M 71 4)]) (rest := []) (c_X3_documentOf G (M 71 4) M q1 hq1) k69 rfl (by decide) (cwV 1 hts gX2_foundTargetIs_X3_documentOf rfl rfl rfl yd_X3_documentOf ⟨Nat.le_of_ble_eq_true rfl, Nat.le_of_ble_eq_true rfl⟩) rfl hl.1 rfl (Nat.le_of_ble_eq_true rfl) dX2_foundTargetIs_8 ⟨Nat.le_refl 0, Nat.le_refl 0⟩ (fun H locs hW => ?_)
  obtain ⟨hg1, h⟩ := ifg h
  have hkq1 := kB_is hg1
  obtain ⟨q2, hq2, h⟩ := ob h
  refine wc_Vr C hW (k := q1.1) (As := []) (rest := []) (c_X0_row G q1.1 hkq1 q1.2 q2 hq2) hkq1 rfl (by decide) (cwV 0 hts gX2_foundTargetIs_X0_row rfl rfl rfl yd_X0_row ⟨Nat.le_of_ble_eq_true rfl, Nat.le_of_ble_eq_true rfl⟩) rfl hl.1 rfl (Nat.le_of_ble_eq_true rfl) dX2_foundTargetIs_11 ⟨Nat.le_refl 0, Nat.le_refl 0⟩ (fun H locs hW => ?_)
  obtain ⟨hg2, h⟩ := ifg h
  have hkq2 := kB_is hg2
  refine lv_astore_n (lv' := [(2, .ref (ga G q2.1)), (0, .ref (ga G 71)), (1, .ref (ga G b1))]) hx hb dX2_foundTargetIs_14 rfl hl (by decide) rfl (fun ls hl => ?_)
  refine lv_aload_n hx hb dX2_foundTargetIs_15 rfl (lv_at hl 0 rfl) ?_
  refine lv_aload_n hx hb dX2_foundTargetIs_16 rfl (lv_at hl 1 rfl) ?_
  refine wg_i C hW (k := 71) (ci := 2) (j := 5) k71 rfl ⟨by decide, rfl⟩ inX2 (by decide) (rfq k71 rfl) (v := (q2.2 71 5)) rfl hL43 (fun _ h9 => h9) dX2_foundTargetIs_17 ?_
  obtain ⟨q3, hq3, h⟩ := ob h
  refine wc_Vi C hW (k := q2.1) (As := [.int (q2.2 71 5)]) (rest := []) (c_X1_byteAt G q2.1 hkq2 (q2.2 71 5) q2.2 q3 hq3) hkq2 rfl (by decide) (cwV 1 hts gX2_foundTargetIs_X1_byteAt rfl rfl rfl yd_X1_byteAt ⟨Nat.le_of_ble_eq_true rfl, Nat.le_of_ble_eq_true rfl⟩) rfl hl.1 rfl (Nat.le_of_ble_eq_true rfl) dX2_foundTargetIs_20 ⟨Nat.le_refl 0, Nat.le_refl 0⟩ (fun H locs hW => ?_)
  refine lv_aload_n hx hb dX2_foundTargetIs_23 rfl (lv_at hl 2 rfl) ?_
  obtain ⟨q4, hq4, h⟩ := ob h
  refine wc_Vi C hW (k := b1) (As := []) (rest := [.int q3.1]) (c_X1_size G b1 hb1 q3.2 q4 hq4) hb1 rfl (by decide) (cwV 0 hts gX2_foundTargetIs_X1_size rfl rfl rfl yd_X1_size ⟨Nat.le_of_ble_eq_true rfl, Nat.le_of_ble_eq_true rfl⟩) rfl hl.1 rfl (Nat.le_of_ble_eq_true rfl) dX2_foundTargetIs_24 ⟨Nat.le_refl 0, Nat.le_refl 0⟩ (fun H locs hW => ?_)
  refine lv_icmp_ne (tgt := 51) hx hb dX2_foundTargetIs_27 (by decide) (fun c1 => ?_) (fun c1 => ?_)
  · replace h := iff_ h c1
    refine lv_iconst (v := 0) hx hb dX2_foundTargetIs_51 (by decide) ?_
    exact wr_z C hr (Or.inl rfl) hW h dX2_foundTargetIs_52
  · replace h := ift h c1
    refine lv_aload_n hx hb dX2_foundTargetIs_30 rfl (lv_at hl 0 rfl) ?_
    refine lv_aload_n hx hb dX2_foundTargetIs_31 rfl (lv_at hl 1 rfl) ?_
    refine wg_i C hW (k := 71) (ci := 2) (j := 5) k71 rfl ⟨by decide, rfl⟩ inX2 (by decide) (rfq k71 rfl) (v := (q4.2 71 5)) rfl hL43 (fun _ h9 => h9) dX2_foundTargetIs_32 ?_
    refine lv_iconst (v := 1) hx hb dX2_foundTargetIs_35 (by decide) ?_
    refine lv_iadd hx hb dX2_foundTargetIs_36 ?_
    obtain ⟨q5, hq5, h⟩ := ob h
    refine wc_Vi C hW (k := q2.1) (As := [.int ((q4.2 71 5) + 1)]) (rest := []) (c_X1_wordAt G q2.1 hkq2 ((q4.2 71 5) + 1) q4.2 q5 hq5) hkq2 rfl (by decide) (cwV 1 hts gX2_foundTargetIs_X1_wordAt rfl rfl rfl yd_X1_wordAt ⟨Nat.le_of_ble_eq_true rfl, Nat.le_of_ble_eq_true rfl⟩) rfl hl.1 rfl (Nat.le_of_ble_eq_true rfl) dX2_foundTargetIs_37 ⟨Nat.le_refl 0, Nat.le_refl 0⟩ (fun H locs hW => ?_)
    refine lv_aload_n hx hb dX2_foundTargetIs_40 rfl (lv_at hl 2 rfl) ?_
    obtain ⟨q6, hq6, h⟩ := ob h
    refine wc_Vi C hW (k := b1) (As := []) (rest := [.int q5.1]) (c_X1_wholeDigest G b1 hb1 q5.2 q6 hq6) hb1 rfl (by decide) (cwV 0 hts gX2_foundTargetIs_X1_wholeDigest rfl rfl rfl yd_X1_wholeDigest ⟨Nat.le_of_ble_eq_true rfl, Nat.le_of_ble_eq_true rfl⟩) rfl hl.1 rfl (Nat.le_of_ble_eq_true rfl) dX2_foundTargetIs_41 ⟨Nat.le_refl 0, Nat.le_refl 0⟩ (fun H locs hW => ?_)
    refine lv_icmp_ne (tgt := 51) hx hb dX2_foundTargetIs_44 (by decide) (fun c2 => ?_) (fun c2 => ?_)
    · replace h := iff_ h c2
      refine lv_iconst (v := 0) hx hb dX2_foundTargetIs_51 (by decide) ?_
      exact wr_z C hr (Or.inl rfl) hW h dX2_foundTargetIs_52
    · replace h := ift h c2
      refine lv_iconst (v := 1) hx hb dX2_foundTargetIs_47 (by decide) ?_
      refine lv_goto (tgt := 52) hx hb dX2_foundTargetIs_48 (by decide) ?_
      exact wr_z C hr (Or.inr rfl) hW h dX2_foundTargetIs_52
theorem yd_X2_mayFollow : yX2_mayFollow.cls = RX2 ∧ yX2_mayFollow.cls ≠ "java/lang/invoke/MethodHandle" ∧ yX2_mayFollow.cls ≠ "java/lang/invoke/VarHandle" ∧ (parseMethodDescriptor yX2_mayFollow.desc).map (fun d => d.parameters.length) = some 2 := by decide +kernel
set_option maxHeartbeats 4000000 in
set_option maxRecDepth 100000 in
theorem c_X2_mayFollow (G : GG) (b1 : Nat) (hb1 : isK b1 0) (a2 : Int32) (M : Me) (y : Int32 × Me) (h : f_X2_mayFollow b1 a2 M = some y) : CI G yX2_mayFollow wsX2_mayFollow (rmd 4 0 0) [.ref (ga G 71), .ref (ga G b1), .int a2] M y := by
  rw [f_X2_mayFollow] at h
  refine co_o (by decide) rfl rfl (Nat.le_of_ble_eq_true rfl) (fun p e s m below meth c ls C hr hW hl => ?_)
  have hx := C.1
  have hb := C.2.1
  have hown := C.2.2.2.1
  have hts := C.2.2.2.2.1
  have inX2 : ∀ w ∈ wsX20, w ∈ wsX2_mayFollow := by decide +kernel
  have hL9 := hts (.fieldLink RX2 9 "TrustedUpdates$Search" "trust" "LTrustedUpdates$Trust;") (by decide +kernel)
  have hL20 := hts (.fieldLink RX2 20 "TrustedUpdates$Search" "name" "LTrustedUpdates$Row;") (by decide +kernel)
  have hL67 := hts (.fieldLink RX2 67 "TrustedUpdates$Search" "visitedRoles" "I") (by decide +kernel)
  have hl : lv_has ls 4 [(0, .ref (ga G 71)), (1, .ref (ga G b1)), (2, .int a2)] := hl
  refine lv_aload_n hx hb dX2_mayFollow_0 rfl (lv_at hl 1 rfl) ?_
  refine lv_iload_n hx hb dX2_mayFollow_1 rfl (lv_at hl 2 rfl) ?_
  obtain ⟨q1, hq1, h⟩ := ob h
  refine wc_Vi C hW (k := b1) (As := [.int a2]) (rest := []) (c_X0_delegateOf G b1 hb1 a2 M q1 hq1) hb1 rfl (by decide) (cwV 1 hts gX2_mayFollow_X0_delegateOf rfl rfl rfl yd_X0_delegateOf ⟨Nat.le_of_ble_eq_true rfl, Nat.le_of_ble_eq_true rfl⟩) rfl hl.1 rfl (Nat.le_of_ble_eq_true rfl) dX2_mayFollow_2 ⟨Nat.le_refl 0, Nat.le_refl 0⟩ (fun H locs hW => ?_)
  refine lv_istore_n (lv' := [(3, .int q1.1), (0, .ref (ga G 71)), (1, .ref (ga G b1)), (2, .int a2)]) hx hb dX2_mayFollow_5 rfl hl (by decide) rfl (fun ls hl => ?_)
  refine lv_aload_n hx hb dX2_mayFollow_6 rfl (lv_at hl 2 rfl) ?_
  refine lv_iload_n hx hb dX2_mayFollow_7 rfl (lv_at hl 3 rfl) ?_
  refine lv_aload_n hx hb dX2_mayFollow_8 rfl (lv_at hl 1 rfl) ?_
  refine wg_r C hW (k := 71) (ci := 2) (j := 1) (q := 67) k71 rfl ⟨by decide, rfl⟩ inX2 (by decide) (rfq k71 rfl) hL20 (fun _ h9 => h9) dX2_mayFollow_9 ?_
  obtain ⟨q2, hq2, h⟩ := ob h
  refine wc_Vi C hW (k := b1) (As := [.int a2, .ref (ga G 67)]) (rest := []) (c_X0_delegates G b1 hb1 a2 67 k67 q1.2 q2 hq2) hb1 rfl (by decide) (cwV 2 hts gX2_mayFollow_X0_delegates rfl rfl rfl yd_X0_delegates ⟨Nat.le_of_ble_eq_true rfl, Nat.le_of_ble_eq_true rfl⟩) rfl hl.1 rfl (Nat.le_of_ble_eq_true rfl) dX2_mayFollow_12 ⟨Nat.le_refl 0, Nat.le_refl 0⟩ (fun H locs hW => ?_)
  refine lv_if_eq (tgt := 67) hx hb dX2_mayFollow_15 (by decide) (fun c1 => ?_) (fun c1 => ?_)
  · replace h := ift h c1
    refine lv_iconst (v := 0) hx hb dX2_mayFollow_67 (by decide) ?_
    exact wr_z C hr (Or.inl rfl) hW h dX2_mayFollow_68
  · replace h := iff_ h c1
    refine lv_aload_n hx hb dX2_mayFollow_18 rfl (lv_at hl 1 rfl) ?_
    refine wg_i C hW (k := 71) (ci := 2) (j := 2) k71 rfl ⟨by decide, rfl⟩ inX2 (by decide) (rfq k71 rfl) (v := (q2.2 71 2)) rfl hL67 (fun _ h9 => h9) dX2_mayFollow_19 ?_
    refine lv_iload_n hx hb dX2_mayFollow_22 rfl (lv_at hl 0 rfl) ?_
    refine lv_ishr hx hb dX2_mayFollow_23 ?_
    refine lv_iconst (v := 1) hx hb dX2_mayFollow_24 (by decide) ?_
    refine lv_iand hx hb dX2_mayFollow_25 ?_
    refine lv_if_ne (tgt := 67) hx hb dX2_mayFollow_26 (by decide) (fun c2 => ?_) (fun c2 => ?_)
    · replace h := iff_ h c2
      refine lv_iconst (v := 0) hx hb dX2_mayFollow_67 (by decide) ?_
      exact wr_z C hr (Or.inl rfl) hW h dX2_mayFollow_68
    · replace h := ift h c2
      refine lv_aload_n hx hb dX2_mayFollow_29 rfl (lv_at hl 1 rfl) ?_
      refine wg_r C hW (k := 71) (ci := 2) (j := 0) (q := 69) k71 rfl ⟨by decide, rfl⟩ inX2 (by decide) (rfq k71 rfl) hL9 (fun _ h9 => h9) dX2_mayFollow_30 ?_
      refine lv_iload_n hx hb dX2_mayFollow_33 rfl (lv_at hl 0 rfl) ?_
      obtain ⟨q3, hq3, h⟩ := ob h
      refine wc_Vi C hW (k := 69) (As := [.int q1.1]) (rest := []) (c_X3_isFresh G q1.1 q2.2 q3 hq3) k69 rfl (by decide) (cwV 1 hts gX2_mayFollow_X3_isFresh rfl rfl rfl yd_X3_isFresh ⟨Nat.le_of_ble_eq_true rfl, Nat.le_of_ble_eq_true rfl⟩) rfl hl.1 rfl (Nat.le_of_ble_eq_true rfl) dX2_mayFollow_34 ⟨Nat.le_refl 0, Nat.le_refl 0⟩ (fun H locs hW => ?_)
      refine lv_if_eq (tgt := 67) hx hb dX2_mayFollow_37 (by decide) (fun c3 => ?_) (fun c3 => ?_)
      · replace h := ift h c3
        refine lv_iconst (v := 0) hx hb dX2_mayFollow_67 (by decide) ?_
        exact wr_z C hr (Or.inl rfl) hW h dX2_mayFollow_68
      · replace h := iff_ h c3
        refine lv_aload_n hx hb dX2_mayFollow_40 rfl (lv_at hl 1 rfl) ?_
        refine wg_r C hW (k := 71) (ci := 2) (j := 0) (q := 69) k71 rfl ⟨by decide, rfl⟩ inX2 (by decide) (rfq k71 rfl) hL9 (fun _ h9 => h9) dX2_mayFollow_41 ?_
        refine lv_iload_n hx hb dX2_mayFollow_44 rfl (lv_at hl 0 rfl) ?_
        obtain ⟨q4, hq4, h⟩ := ob h
        refine wc_Vr C hW (k := 69) (As := [.int q1.1]) (rest := []) (c_X3_documentOf G q1.1 q3.2 q4 hq4) k69 rfl (by decide) (cwV 1 hts gX2_mayFollow_X3_documentOf rfl rfl rfl yd_X3_documentOf ⟨Nat.le_of_ble_eq_true rfl, Nat.le_of_ble_eq_true rfl⟩) rfl hl.1 rfl (Nat.le_of_ble_eq_true rfl) dX2_mayFollow_45 ⟨Nat.le_refl 0, Nat.le_refl 0⟩ (fun H locs hW => ?_)
        obtain ⟨hg1, h⟩ := ifg h
        have hkq4 := kB_is hg1
        refine lv_aload_n hx hb dX2_mayFollow_48 rfl (lv_at hl 2 rfl) ?_
        obtain ⟨q5, hq5, h⟩ := ob h
        refine wc_Vr C hW (k := b1) (As := []) (rest := [.ref (ga G q4.1)]) (c_X0_row G b1 hb1 q4.2 q5 hq5) hb1 rfl (by decide) (cwV 0 hts gX2_mayFollow_X0_row rfl rfl rfl yd_X0_row ⟨Nat.le_of_ble_eq_true rfl, Nat.le_of_ble_eq_true rfl⟩) rfl hl.1 rfl (Nat.le_of_ble_eq_true rfl) dX2_mayFollow_49 ⟨Nat.le_refl 0, Nat.le_refl 0⟩ (fun H locs hW => ?_)
        obtain ⟨hg2, h⟩ := ifg h
        have hkq5 := kB_is hg2
        refine lv_aload_n hx hb dX2_mayFollow_52 rfl (lv_at hl 2 rfl) ?_
        refine lv_iload_n hx hb dX2_mayFollow_53 rfl (lv_at hl 3 rfl) ?_
        obtain ⟨q6, hq6, h⟩ := ob h
        refine wc_Vi C hW (k := b1) (As := [.int a2]) (rest := [.ref (ga G q5.1), .ref (ga G q4.1)]) (c_X0_delegatedKeySet G b1 hb1 a2 q5.2 q6 hq6) hb1 rfl (by decide) (cwV 1 hts gX2_mayFollow_X0_delegatedKeySet rfl rfl rfl yd_X0_delegatedKeySet ⟨Nat.le_of_ble_eq_true rfl, Nat.le_of_ble_eq_true rfl⟩) rfl hl.1 rfl (Nat.le_of_ble_eq_true rfl) dX2_mayFollow_54 ⟨Nat.le_refl 0, Nat.le_refl 0⟩ (fun H locs hW => ?_)
        obtain ⟨q7, hq7, h⟩ := ob h
        refine wc_Vi C hW (k := q4.1) (As := [.ref (ga G q5.1), .int q6.1]) (rest := []) (c_X0_isSignedAsAsked G q4.1 hkq4 q5.1 hkq5 q6.1 q6.2 q7 hq7) hkq4 rfl (by decide) (cwV 2 hts gX2_mayFollow_X0_isSignedAsAsked rfl rfl rfl yd_X0_isSignedAsAsked ⟨Nat.le_of_ble_eq_true rfl, Nat.le_of_ble_eq_true rfl⟩) rfl hl.1 rfl (Nat.le_of_ble_eq_true rfl) dX2_mayFollow_57 ⟨Nat.le_refl 0, Nat.le_refl 0⟩ (fun H locs hW => ?_)
        refine lv_if_eq (tgt := 67) hx hb dX2_mayFollow_60 (by decide) (fun c4 => ?_) (fun c4 => ?_)
        · replace h := ift h c4
          refine lv_iconst (v := 0) hx hb dX2_mayFollow_67 (by decide) ?_
          exact wr_z C hr (Or.inl rfl) hW h dX2_mayFollow_68
        · replace h := iff_ h c4
          refine lv_iconst (v := 1) hx hb dX2_mayFollow_63 (by decide) ?_
          refine lv_goto (tgt := 68) hx hb dX2_mayFollow_64 (by decide) ?_
          exact wr_z C hr (Or.inr rfl) hW h dX2_mayFollow_68
theorem yd_X2_visit : yX2_visit.cls = RX2 ∧ yX2_visit.cls ≠ "java/lang/invoke/MethodHandle" ∧ yX2_visit.cls ≠ "java/lang/invoke/VarHandle" ∧ (parseMethodDescriptor yX2_visit.desc).map (fun d => d.parameters.length) = some 2 := by decide +kernel
set_option maxHeartbeats 4000000 in
set_option maxRecDepth 100000 in
theorem L_X2_visit_71 {G : GG} {p : Program} {e : Env} {s : State} {m : MethodId} {args : Array Value} {below : List Frame} {meth : Method} {c : Code} {Q : State → Prop} {dd : Nat} {rec : Int32 → Int32 → Me → Option (Int32 × Me)} (C : Cx G wsX2_visit RX2 cX2_visit 5 p s m args meth c) (hrec : ∀ (a1 : Int32) (a2 : Int32) (M : Me) (y : Int32 × Me), rec a1 a2 M = some y → CV G yX2_visit wsX2_visit (rmd (4 + dd) 0 0) [.ref (ga G 71), .int a1, .int a2] M y) : ∀ (n : Nat) (x2 : Int32) (k3 : Nat) (hk3 : isK k3 0) (x4 : Int32) (M : Me) (y : Int32 × Me) (H : Heap) (locs : List Loc) (ls : Array Slot), fL_X2_visit_71 rec n x2 k3 x4 M = some y → wH G s M H locs → lv_has ls 5 [(0, .ref (ga G 71)), (2, .int x2), (3, .ref (ga G k3)), (4, .int x4)] → (∀ (H : Heap) (locs : List Loc) (ls : Array Slot), wH G s y.2 H locs → lv_has ls 5 [] → W p (gl G) e (rmd (4 + (dd + 1)) 0 0) s m args below meth c H locs 0 0 Q (F0 m 141 ls [])) → W p (gl G) e (rmd (4 + (dd + 1)) 0 0) s m args below meth c H locs 0 0 Q (F0 m 71 ls []) := by
  have hx := C.1
  have hb := C.2.1
  have hown := C.2.2.2.1
  have hts := C.2.2.2.2.1
  have inX2 : ∀ w ∈ wsX20, w ∈ wsX2_visit := by decide +kernel
  have hL70 := hts (.fieldLink RX2 70 "TrustedUpdates$Search" "over" "Z") (by decide +kernel)
  intro n
  induction n with
  | zero => intro x2 k3 hk3 x4 M y H locs ls h; exact nso h
  | succ n ih =>
    intro x2 k3 hk3 x4 M y H locs ls h hW hl kx
    rw [fL_X2_visit_71] at h
    refine lv_iload hx hb dX2_visit_71 (lv_at hl 3 rfl) ?_
    refine lv_aload_n hx hb dX2_visit_73 rfl (lv_at hl 2 rfl) ?_
    obtain ⟨q3, hq3, h⟩ := ob h
    refine wc_Vi C hW (k := k3) (As := []) (rest := [.int x4]) (c_X0_delegationCount G k3 hk3 M q3 hq3) hk3 rfl (by decide) (cwV 0 hts gX2_visit_X0_delegationCount rfl rfl rfl yd_X0_delegationCount ⟨by show 0 + 1 ≤ 4 + (dd + 1); omega, by show 8 + (1 + 11) + 40 * 0 ≤ 40 * (4 + (dd + 1)); omega⟩) rfl hl.1 rfl (Nat.le_of_ble_eq_true rfl) dX2_visit_74 ⟨Nat.le_refl 0, Nat.le_refl 0⟩ (fun H locs hW => ?_)
    refine lv_icmp_ge (tgt := 141) hx hb dX2_visit_77 (by decide) (fun c3 => ?_) (fun c3 => ?_)
    · replace h := ift h c3
      cases h
      exact kx _ _ ls hW (lv_sub hl [] rfl)
    · replace h := iff_ h c3
      refine lv_aload_n hx hb dX2_visit_80 rfl (lv_at hl 0 rfl) ?_
      refine wg_i C hW (k := 71) (ci := 2) (j := 6) k71 rfl ⟨by decide, rfl⟩ inX2 (by decide) (rfq k71 rfl) (v := (q3.2 71 6)) rfl hL70 (fun _ h9 => h9) dX2_visit_81 ?_
      refine lv_if_ne (tgt := 141) hx hb dX2_visit_84 (by decide) (fun c4 => ?_) (fun c4 => ?_)
      · replace h := iff_ h c4
        cases h
        exact kx _ _ ls hW (lv_sub hl [] rfl)
      · replace h := ift h c4
        refine lv_aload_n hx hb dX2_visit_87 rfl (lv_at hl 0 rfl) ?_
        refine lv_aload_n hx hb dX2_visit_88 rfl (lv_at hl 2 rfl) ?_
        refine lv_iload hx hb dX2_visit_89 (lv_at hl 3 rfl) ?_
        obtain ⟨q4, hq4, h⟩ := ob h
        refine wc_Vi C hW (k := 71) (As := [.ref (ga G k3), .int x4]) (rest := []) (c_X2_mayFollow G k3 hk3 x4 q3.2 q4 hq4) k71 rfl (by decide) (cwV 2 hts gX2_visit_X2_mayFollow rfl rfl rfl yd_X2_mayFollow ⟨by show 4 + 1 ≤ 4 + (dd + 1); omega, by show 8 + (4 + 11) + 40 * 4 ≤ 40 * (4 + (dd + 1)); omega⟩) rfl hl.1 rfl (Nat.le_of_ble_eq_true rfl) dX2_visit_91 ⟨Nat.le_refl 0, Nat.le_refl 0⟩ (fun H locs hW => ?_)
        refine lv_if_eq (tgt := 135) hx hb dX2_visit_94 (by decide) (fun c5 => ?_) (fun c5 => ?_)
        · replace h := ift h c5
          refine lv_iinc (v := (x4 + 1)) (lv' := [(4, .int (x4 + 1)), (0, .ref (ga G 71)), (2, .int x2), (3, .ref (ga G k3))]) hx hb dX2_visit_135 hl (k := 3) rfl rfl (by decide) rfl (fun ls hl => ?_)
          refine lv_goto (tgt := 71) hx hb dX2_visit_138 (by decide) ?_
          exact ih x2 k3 hk3 (x4 + 1) q4.2 y _ _ ls h hW (lv_sub hl [1, 2, 3, 0] rfl) kx
        · replace h := iff_ h c5
          refine lv_aload_n hx hb dX2_visit_97 rfl (lv_at hl 0 rfl) ?_
          refine lv_aload_n hx hb dX2_visit_98 rfl (lv_at hl 2 rfl) ?_
          refine lv_iload hx hb dX2_visit_99 (lv_at hl 3 rfl) ?_
          obtain ⟨q5, hq5, h⟩ := ob h
          refine wc_Vi C hW (k := k3) (As := [.int x4]) (rest := [.ref (ga G 71)]) (c_X0_delegateOf G k3 hk3 x4 q4.2 q5 hq5) hk3 rfl (by decide) (cwV 1 hts gX2_visit_X0_delegateOf rfl rfl rfl yd_X0_delegateOf ⟨by show 1 + 1 ≤ 4 + (dd + 1); omega, by show 8 + (2 + 11) + 40 * 1 ≤ 40 * (4 + (dd + 1)); omega⟩) rfl hl.1 rfl (Nat.le_of_ble_eq_true rfl) dX2_visit_101 ⟨Nat.le_refl 0, Nat.le_refl 0⟩ (fun H locs hW => ?_)
          refine lv_iload_n hx hb dX2_visit_104 rfl (lv_at hl 1 rfl) ?_
          refine lv_iconst (v := 1) hx hb dX2_visit_105 (by decide) ?_
          refine lv_iadd hx hb dX2_visit_106 ?_
          obtain ⟨q6, hq6, h⟩ := ob h
          refine wc_Vv C hW (k := 71) (As := [.int q5.1, .int (x2 + 1)]) (rest := []) (hrec q5.1 (x2 + 1) q5.2 q6 hq6) k71 rfl (by decide) (cwV 2 hts gX2_visit_X2_visit rfl rfl rfl yd_X2_visit ⟨by show (4 + dd) + 1 ≤ 4 + (dd + 1); omega, by show 8 + (5 + 11) + 40 * (4 + dd) ≤ 40 * (4 + (dd + 1)); omega⟩) rfl hl.1 rfl (Nat.le_of_ble_eq_true rfl) dX2_visit_107 ⟨Nat.le_refl 0, Nat.le_refl 0⟩ (fun H locs hW => ?_)
          refine lv_aload_n hx hb dX2_visit_110 rfl (lv_at hl 0 rfl) ?_
          refine lv_aload_n hx hb dX2_visit_111 rfl (lv_at hl 0 rfl) ?_
          refine wg_i C hW (k := 71) (ci := 2) (j := 6) k71 rfl ⟨by decide, rfl⟩ inX2 (by decide) (rfq k71 rfl) (v := (q6.2 71 6)) rfl hL70 (fun _ h9 => h9) dX2_visit_112 ?_
          refine lv_if_ne (tgt := 127) hx hb dX2_visit_115 (by decide) (fun c6 => ?_) (fun c6 => ?_)
          · replace h := iff_ h c6
            refine lv_iconst (v := 1) hx hb dX2_visit_127 (by decide) ?_
            refine lv_goto (tgt := 132) hx hb dX2_visit_128 (by decide) ?_
            refine wp_t C hW (k := 71) (ci := 2) (j := 6) (ty := .boolean) (nar_b (Or.inr rfl)).1 (nar_b (Or.inr rfl)).2 k71 rfl ⟨by decide, rfl⟩ inX2 tyX2 tyX2_ok nmX2 (by decide) (rfq k71 rfl) hL70 (fun _ h9 => h9) rfl rfl dX2_visit_132 (fun H locs hW => ?_)
            refine lv_iinc (v := (x4 + 1)) (lv' := [(4, .int (x4 + 1)), (0, .ref (ga G 71)), (2, .int x2), (3, .ref (ga G k3))]) hx hb dX2_visit_135 hl (k := 3) rfl rfl (by decide) rfl (fun ls hl => ?_)
            refine lv_goto (tgt := 71) hx hb dX2_visit_138 (by decide) ?_
            exact ih x2 k3 hk3 (x4 + 1) (up q6.2 71 6 1) y _ _ ls h hW (lv_sub hl [1, 2, 3, 0] rfl) kx
          · replace h := ift h c6
            refine lv_aload_n hx hb dX2_visit_118 rfl (lv_at hl 2 rfl) ?_
            refine lv_iload hx hb dX2_visit_119 (lv_at hl 3 rfl) ?_
            obtain ⟨q7, hq7, h⟩ := ob h
            refine wc_Vi C hW (k := k3) (As := [.int x4]) (rest := [.ref (ga G 71)]) (c_X0_isFinal G k3 hk3 x4 q6.2 q7 hq7) hk3 rfl (by decide) (cwV 1 hts gX2_visit_X0_isFinal rfl rfl rfl yd_X0_isFinal ⟨by show 1 + 1 ≤ 4 + (dd + 1); omega, by show 8 + (2 + 11) + 40 * 1 ≤ 40 * (4 + (dd + 1)); omega⟩) rfl hl.1 rfl (Nat.le_of_ble_eq_true rfl) dX2_visit_121 ⟨Nat.le_refl 0, Nat.le_refl 0⟩ (fun H locs hW => ?_)
            refine lv_if_eq (tgt := 131) hx hb dX2_visit_124 (by decide) (fun c7 => ?_) (fun c7 => ?_)
            · replace h := ift h c7
              refine lv_iconst (v := 0) hx hb dX2_visit_131 (by decide) ?_
              refine wp_t C hW (k := 71) (ci := 2) (j := 6) (ty := .boolean) (nar_b (Or.inl rfl)).1 (nar_b (Or.inl rfl)).2 k71 rfl ⟨by decide, rfl⟩ inX2 tyX2 tyX2_ok nmX2 (by decide) (rfq k71 rfl) hL70 (fun _ h9 => h9) rfl rfl dX2_visit_132 (fun H locs hW => ?_)
              refine lv_iinc (v := (x4 + 1)) (lv' := [(4, .int (x4 + 1)), (0, .ref (ga G 71)), (2, .int x2), (3, .ref (ga G k3))]) hx hb dX2_visit_135 hl (k := 3) rfl rfl (by decide) rfl (fun ls hl => ?_)
              refine lv_goto (tgt := 71) hx hb dX2_visit_138 (by decide) ?_
              exact ih x2 k3 hk3 (x4 + 1) (up q7.2 71 6 0) y _ _ ls h hW (lv_sub hl [1, 2, 3, 0] rfl) kx
            · replace h := iff_ h c7
              refine lv_iconst (v := 1) hx hb dX2_visit_127 (by decide) ?_
              refine lv_goto (tgt := 132) hx hb dX2_visit_128 (by decide) ?_
              refine wp_t C hW (k := 71) (ci := 2) (j := 6) (ty := .boolean) (nar_b (Or.inr rfl)).1 (nar_b (Or.inr rfl)).2 k71 rfl ⟨by decide, rfl⟩ inX2 tyX2 tyX2_ok nmX2 (by decide) (rfq k71 rfl) hL70 (fun _ h9 => h9) rfl rfl dX2_visit_132 (fun H locs hW => ?_)
              refine lv_iinc (v := (x4 + 1)) (lv' := [(4, .int (x4 + 1)), (0, .ref (ga G 71)), (2, .int x2), (3, .ref (ga G k3))]) hx hb dX2_visit_135 hl (k := 3) rfl rfl (by decide) rfl (fun ls hl => ?_)
              refine lv_goto (tgt := 71) hx hb dX2_visit_138 (by decide) ?_
              exact ih x2 k3 hk3 (x4 + 1) (up q7.2 71 6 1) y _ _ ls h hW (lv_sub hl [1, 2, 3, 0] rfl) kx
set_option maxHeartbeats 4000000 in
set_option maxRecDepth 100000 in
theorem c_X2_visit (G : GG) : ∀ (n : Nat) (a1 : Int32) (a2 : Int32) (M : Me) (y : Int32 × Me) (h : f_X2_visit n a1 a2 M = some y), CV G yX2_visit wsX2_visit (rmd (4 + n) 0 0) [.ref (ga G 71), .int a1, .int a2] M y := by
  intro n
  induction n with
  | zero => intro a1 a2 M y h; exact nso h
  | succ n hrec =>
    intro a1 a2 M y h
    rw [f_X2_visit] at h
    refine co_o (by decide) rfl rfl (Nat.le_of_ble_eq_true rfl) (fun p e s m below meth c ls C hr hW hl => ?_)
    have hx := C.1
    have hb := C.2.1
    have hown := C.2.2.2.1
    have hts := C.2.2.2.2.1
    have inX2 : ∀ w ∈ wsX20, w ∈ wsX2_visit := by decide +kernel
    have hL9 := hts (.fieldLink RX2 9 "TrustedUpdates$Search" "trust" "LTrustedUpdates$Trust;") (by decide +kernel)
    have hL20 := hts (.fieldLink RX2 20 "TrustedUpdates$Search" "name" "LTrustedUpdates$Row;") (by decide +kernel)
    have hL24 := hts (.fieldLink RX2 24 "TrustedUpdates$Search" "visitCount" "I") (by decide +kernel)
    have hL28 := hts (.fieldLink RX2 28 "TrustedUpdates$Search" "foundRole" "I") (by decide +kernel)
    have hL43 := hts (.fieldLink RX2 43 "TrustedUpdates$Search" "foundPlace" "I") (by decide +kernel)
    have hL67 := hts (.fieldLink RX2 67 "TrustedUpdates$Search" "visitedRoles" "I") (by decide +kernel)
    have hL70 := hts (.fieldLink RX2 70 "TrustedUpdates$Search" "over" "Z") (by decide +kernel)
    have hl : lv_has ls 5 [(0, .ref (ga G 71)), (1, .int a1), (2, .int a2)] := hl
    refine lv_iload_n hx hb dX2_visit_0 rfl (lv_at hl 2 rfl) ?_
    refine lv_iconst (v := 3) hx hb dX2_visit_1 (by decide) ?_
    refine lv_icmp_le (tgt := 6) hx hb dX2_visit_2 (by decide) (fun c1 => ?_) (fun c1 => ?_)
    · replace h := ift h c1
      refine lv_aload_n hx hb dX2_visit_6 rfl (lv_at hl 0 rfl) ?_
      refine lv_dup hx hb dX2_visit_7 rfl ?_
      refine wg_i C hW (k := 71) (ci := 2) (j := 2) k71 rfl ⟨by decide, rfl⟩ inX2 (by decide) (rfq k71 rfl) (v := (M 71 2)) rfl hL67 (fun _ h9 => h9) dX2_visit_8 ?_
      refine lv_iconst (v := 1) hx hb dX2_visit_11 (by decide) ?_
      refine lv_iload_n hx hb dX2_visit_12 rfl (lv_at hl 1 rfl) ?_
      refine lv_ishl hx hb dX2_visit_13 ?_
      refine lv_ior hx hb dX2_visit_14 ?_
      refine wp_t C hW (k := 71) (ci := 2) (j := 2) (ty := .int) rfl rfl k71 rfl ⟨by decide, rfl⟩ inX2 tyX2 tyX2_ok nmX2 (by decide) (rfq k71 rfl) hL67 (fun _ h9 => h9) rfl rfl dX2_visit_15 (fun H locs hW => ?_)
      refine lv_aload_n hx hb dX2_visit_18 rfl (lv_at hl 0 rfl) ?_
      refine lv_dup hx hb dX2_visit_19 rfl ?_
      refine wg_i C hW (k := 71) (ci := 2) (j := 3) k71 rfl ⟨by decide, rfl⟩ inX2 (by decide) (rfq k71 rfl) (v := (M 71 3)) (up_j (by decide)) hL24 (fun _ h9 => h9) dX2_visit_20 ?_
      refine lv_iconst (v := 1) hx hb dX2_visit_23 (by decide) ?_
      refine lv_iadd hx hb dX2_visit_24 ?_
      refine wp_t C hW (k := 71) (ci := 2) (j := 3) (ty := .int) rfl rfl k71 rfl ⟨by decide, rfl⟩ inX2 tyX2 tyX2_ok nmX2 (by decide) (rfq k71 rfl) hL24 (fun _ h9 => h9) rfl rfl dX2_visit_25 (fun H locs hW => ?_)
      refine lv_aload_n hx hb dX2_visit_28 rfl (lv_at hl 0 rfl) ?_
      refine wg_r C hW (k := 71) (ci := 2) (j := 0) (q := 69) k71 rfl ⟨by decide, rfl⟩ inX2 (by decide) (rfq k71 rfl) hL9 (fun _ h9 => h9) dX2_visit_29 ?_
      refine lv_iload_n hx hb dX2_visit_32 rfl (lv_at hl 1 rfl) ?_
      obtain ⟨q1, hq1, h⟩ := ob h
      refine wc_Vr C hW (k := 69) (As := [.int a1]) (rest := []) (c_X3_documentOf G a1 (up (up M 71 2 ((M 71 2) ||| (1 <<< (a1 &&& 31)))) 71 3 ((M 71 3) + 1)) q1 hq1) k69 rfl (by decide) (cwV 1 hts gX2_visit_X3_documentOf rfl rfl rfl yd_X3_documentOf ⟨by show 0 + 1 ≤ 4 + (n + 1); omega, by show 8 + (2 + 11) + 40 * 0 ≤ 40 * (4 + (n + 1)); omega⟩) rfl hl.1 rfl (Nat.le_of_ble_eq_true rfl) dX2_visit_33 ⟨Nat.le_refl 0, Nat.le_refl 0⟩ (fun H locs hW => ?_)
      obtain ⟨hg1, h⟩ := ifg h
      have hkq1 := kB_is hg1
      refine lv_astore_n (lv' := [(3, .ref (ga G q1.1)), (0, .ref (ga G 71)), (1, .int a1), (2, .int a2)]) hx hb dX2_visit_36 rfl hl (by decide) rfl (fun ls hl => ?_)
      refine lv_aload_n hx hb dX2_visit_37 rfl (lv_at hl 1 rfl) ?_
      refine lv_aload_n hx hb dX2_visit_38 rfl (lv_at hl 0 rfl) ?_
      refine lv_aload_n hx hb dX2_visit_39 rfl (lv_at hl 1 rfl) ?_
      refine wg_r C hW (k := 71) (ci := 2) (j := 1) (q := 67) k71 rfl ⟨by decide, rfl⟩ inX2 (by decide) (rfq k71 rfl) hL20 (fun _ h9 => h9) dX2_visit_40 ?_
      obtain ⟨q2, hq2, h⟩ := ob h
      refine wc_Vi C hW (k := q1.1) (As := [.ref (ga G 67)]) (rest := [.ref (ga G 71)]) (c_X0_targetNamed G q1.1 hkq1 67 k67 q1.2 q2 hq2) hkq1 rfl (by decide) (cwV 1 hts gX2_visit_X0_targetNamed rfl rfl rfl yd_X0_targetNamed ⟨by show 2 + 1 ≤ 4 + (n + 1); omega, by show 8 + (4 + 11) + 40 * 2 ≤ 40 * (4 + (n + 1)); omega⟩) rfl hl.1 rfl (Nat.le_of_ble_eq_true rfl) dX2_visit_43 ⟨Nat.le_refl 0, Nat.le_refl 0⟩ (fun H locs hW => ?_)
      refine wp_t C hW (k := 71) (ci := 2) (j := 5) (ty := .int) rfl rfl k71 rfl ⟨by decide, rfl⟩ inX2 tyX2 tyX2_ok nmX2 (by decide) (rfq k71 rfl) hL43 (fun _ h9 => h9) rfl rfl dX2_visit_46 (fun H locs hW => ?_)
      refine lv_aload_n hx hb dX2_visit_49 rfl (lv_at hl 1 rfl) ?_
      refine wg_i C hW (k := 71) (ci := 2) (j := 5) k71 rfl ⟨by decide, rfl⟩ inX2 (by decide) (rfq k71 rfl) (v := q2.1) up_s hL43 (fun _ h9 => h9) dX2_visit_50 ?_
      refine lv_iconst (v := (-1)) hx hb dX2_visit_53 (by decide) ?_
      refine lv_icmp_eq (tgt := 68) hx hb dX2_visit_54 (by decide) (fun c2 => ?_) (fun c2 => ?_)
      · replace h := ift h c2
        refine lv_iconst (v := 0) hx hb dX2_visit_68 (by decide) ?_
        refine lv_istore (lv' := [(4, .int 0), (3, .ref (ga G q1.1)), (0, .ref (ga G 71)), (1, .int a1), (2, .int a2)]) hx hb dX2_visit_69 hl (by decide) rfl (fun ls hl => ?_)
        obtain ⟨q8, hq8, h⟩ := ob h
        refine L_X2_visit_71 C hrec 200 a2 q1.1 hkq1 0 (up q2.2 71 5 q2.1) q8 _ _ ls hq8 hW (lv_sub hl [2, 4, 1, 0] rfl) (fun H locs ls hW hl => ?_)
        exact wr_v C hr hW h dX2_visit_141
      · replace h := iff_ h c2
        refine lv_aload_n hx hb dX2_visit_57 rfl (lv_at hl 1 rfl) ?_
        refine lv_iload_n hx hb dX2_visit_58 rfl (lv_at hl 2 rfl) ?_
        refine wp_t C hW (k := 71) (ci := 2) (j := 4) (ty := .int) rfl rfl k71 rfl ⟨by decide, rfl⟩ inX2 tyX2 tyX2_ok nmX2 (by decide) (rfq k71 rfl) hL28 (fun _ h9 => h9) rfl rfl dX2_visit_59 (fun H locs hW => ?_)
        refine lv_aload_n hx hb dX2_visit_62 rfl (lv_at hl 1 rfl) ?_
        refine lv_iconst (v := 1) hx hb dX2_visit_63 (by decide) ?_
        refine wp_t C hW (k := 71) (ci := 2) (j := 6) (ty := .boolean) (nar_b (Or.inr rfl)).1 (nar_b (Or.inr rfl)).2 k71 rfl ⟨by decide, rfl⟩ inX2 tyX2 tyX2_ok nmX2 (by decide) (rfq k71 rfl) hL70 (fun _ h9 => h9) rfl rfl dX2_visit_64 (fun H locs hW => ?_)
        exact wr_v C hr hW h dX2_visit_67
    · replace h := iff_ h c1
      exact wr_v C hr hW h dX2_visit_5
theorem yd_X2_run : yX2_run.cls = RX2 ∧ yX2_run.cls ≠ "java/lang/invoke/MethodHandle" ∧ yX2_run.cls ≠ "java/lang/invoke/VarHandle" ∧ (parseMethodDescriptor yX2_run.desc).map (fun d => d.parameters.length) = some 2 := by decide +kernel
set_option maxHeartbeats 4000000 in
set_option maxRecDepth 100000 in
theorem c_X2_run (G : GG) (a1 : Int64) (a2 : Int32) (M : Me) (y : Int32 × Me) (h : f_X2_run a1 a2 M = some y) : CV G yX2_run wsX2_run (rmd 13 0 0) [.ref (ga G 71), .long a1, .int a2] M y := by
  rw [f_X2_run] at h
  refine co_o (by decide) rfl rfl (Nat.le_of_ble_eq_true rfl) (fun p e s m below meth c ls C hr hW hl => ?_)
  have hx := C.1
  have hb := C.2.1
  have hown := C.2.2.2.1
  have hts := C.2.2.2.2.1
  have inX2 : ∀ w ∈ wsX20, w ∈ wsX2_run := by decide +kernel
  have hL20 := hts (.fieldLink RX2 20 "TrustedUpdates$Search" "name" "LTrustedUpdates$Row;") (by decide +kernel)
  have hL24 := hts (.fieldLink RX2 24 "TrustedUpdates$Search" "visitCount" "I") (by decide +kernel)
  have hL28 := hts (.fieldLink RX2 28 "TrustedUpdates$Search" "foundRole" "I") (by decide +kernel)
  have hL67 := hts (.fieldLink RX2 67 "TrustedUpdates$Search" "visitedRoles" "I") (by decide +kernel)
  have hL70 := hts (.fieldLink RX2 70 "TrustedUpdates$Search" "over" "Z") (by decide +kernel)
  have hl : lv_has ls 4 [(0, .ref (ga G 71)), (1, .long a1), (3, .int a2)] := hl
  refine lv_aload_n hx hb dX2_run_0 rfl (lv_at hl 0 rfl) ?_
  refine wg_r C hW (k := 71) (ci := 2) (j := 1) (q := 67) k71 rfl ⟨by decide, rfl⟩ inX2 (by decide) (rfq k71 rfl) hL20 (fun _ h9 => h9) dX2_run_1 ?_
  refine lv_iconst (v := 0) hx hb dX2_run_4 (by decide) ?_
  obtain ⟨q1, hq1, h⟩ := ob h
  refine wc_Vv C hW (k := 67) (As := [.int 0]) (rest := []) (c_X1_keepFirst G 67 k67 0 M q1 hq1) k67 rfl (by decide) (cwV 1 hts gX2_run_X1_keepFirst rfl rfl rfl yd_X1_keepFirst ⟨Nat.le_of_ble_eq_true rfl, Nat.le_of_ble_eq_true rfl⟩) rfl hl.1 rfl (Nat.le_of_ble_eq_true rfl) dX2_run_5 ⟨Nat.le_refl 0, Nat.le_refl 0⟩ (fun H locs hW => ?_)
  refine lv_aload_n hx hb dX2_run_8 rfl (lv_at hl 0 rfl) ?_
  refine wg_r C hW (k := 71) (ci := 2) (j := 1) (q := 67) k71 rfl ⟨by decide, rfl⟩ inX2 (by decide) (rfq k71 rfl) hL20 (fun _ h9 => h9) dX2_run_9 ?_
  refine lv_lload_n hx hb dX2_run_12 rfl (lv_at hl 1 rfl) ?_
  refine lv_iload_n hx hb dX2_run_13 rfl (lv_at hl 2 rfl) ?_
  obtain ⟨q2, hq2, h⟩ := ob h
  refine wc_Vv C hW (k := 67) (As := [.long a1, .int a2]) (rest := []) (c_X1_appendLowest G 67 k67 a1 a2 q1.2 q2 hq2) k67 rfl (by decide) (cwV 2 hts gX2_run_X1_appendLowest rfl rfl rfl yd_X1_appendLowest ⟨Nat.le_of_ble_eq_true rfl, Nat.le_of_ble_eq_true rfl⟩) rfl hl.1 rfl (Nat.le_of_ble_eq_true rfl) dX2_run_14 ⟨Nat.le_refl 0, Nat.le_refl 0⟩ (fun H locs hW => ?_)
  refine lv_aload_n hx hb dX2_run_17 rfl (lv_at hl 0 rfl) ?_
  refine lv_iconst (v := 0) hx hb dX2_run_18 (by decide) ?_
  refine wp_t C hW (k := 71) (ci := 2) (j := 2) (ty := .int) rfl rfl k71 rfl ⟨by decide, rfl⟩ inX2 tyX2 tyX2_ok nmX2 (by decide) (rfq k71 rfl) hL67 (fun _ h9 => h9) rfl rfl dX2_run_19 (fun H locs hW => ?_)
  refine lv_aload_n hx hb dX2_run_22 rfl (lv_at hl 0 rfl) ?_
  refine lv_iconst (v := 0) hx hb dX2_run_23 (by decide) ?_
  refine wp_t C hW (k := 71) (ci := 2) (j := 3) (ty := .int) rfl rfl k71 rfl ⟨by decide, rfl⟩ inX2 tyX2 tyX2_ok nmX2 (by decide) (rfq k71 rfl) hL24 (fun _ h9 => h9) rfl rfl dX2_run_24 (fun H locs hW => ?_)
  refine lv_aload_n hx hb dX2_run_27 rfl (lv_at hl 0 rfl) ?_
  refine lv_iconst (v := (-1)) hx hb dX2_run_28 (by decide) ?_
  refine wp_t C hW (k := 71) (ci := 2) (j := 4) (ty := .int) rfl rfl k71 rfl ⟨by decide, rfl⟩ inX2 tyX2 tyX2_ok nmX2 (by decide) (rfq k71 rfl) hL28 (fun _ h9 => h9) rfl rfl dX2_run_29 (fun H locs hW => ?_)
  refine lv_aload_n hx hb dX2_run_32 rfl (lv_at hl 0 rfl) ?_
  refine lv_iconst (v := 0) hx hb dX2_run_33 (by decide) ?_
  refine wp_t C hW (k := 71) (ci := 2) (j := 6) (ty := .boolean) (nar_b (Or.inl rfl)).1 (nar_b (Or.inl rfl)).2 k71 rfl ⟨by decide, rfl⟩ inX2 tyX2 tyX2_ok nmX2 (by decide) (rfq k71 rfl) hL70 (fun _ h9 => h9) rfl rfl dX2_run_34 (fun H locs hW => ?_)
  refine lv_aload_n hx hb dX2_run_37 rfl (lv_at hl 0 rfl) ?_
  refine lv_iconst (v := 3) hx hb dX2_run_38 (by decide) ?_
  refine lv_iconst (v := 0) hx hb dX2_run_39 (by decide) ?_
  obtain ⟨q3, hq3, h⟩ := ob h
  refine wc_Vv C hW (k := 71) (As := [.int 3, .int 0]) (rest := []) (c_X2_visit G 8 3 0 (up (up (up (up q2.2 71 2 0) 71 3 0) 71 4 (-1)) 71 6 0) q3 hq3) k71 rfl (by decide) (cwV 2 hts gX2_run_X2_visit rfl rfl rfl yd_X2_visit ⟨Nat.le_of_ble_eq_true rfl, Nat.le_of_ble_eq_true rfl⟩) rfl hl.1 rfl (Nat.le_of_ble_eq_true rfl) dX2_run_40 ⟨Nat.le_refl 0, Nat.le_refl 0⟩ (fun H locs hW => ?_)
  exact wr_v C hr hW h dX2_run_43
