theorem yd_X5_offerRoot : yX5_offerRoot.cls = RX5 ∧ yX5_offerRoot.cls ≠ "java/lang/invoke/MethodHandle" ∧ yX5_offerRoot.cls ≠ "java/lang/invoke/VarHandle" ∧ (parseMethodDescriptor yX5_offerRoot.desc).map (fun d => d.parameters.length) = some 0 := by decide +kernel
set_option maxHeartbeats 4000000 in
set_option maxRecDepth 100000 in
theorem c_X5_offerRoot (G : GG)  (M : Me) (y : Int32 × Me) (h : f_X5_offerRoot  M = some y) : CI G yX5_offerRoot wsX5_offerRoot (rmd 8 0 0) [.ref (ga G 73)] M y := by
  rw [f_X5_offerRoot] at h
  refine co_o (by decide) rfl rfl (Nat.le_of_ble_eq_true rfl) (fun p e s m below meth c ls C hr hW hl => ?_)
  have hx := C.1
  have hb := C.2.1
  have hown := C.2.2.2.1
  have hts := C.2.2.2.2.1
  have inX5 : ∀ w ∈ wsX50, w ∈ wsX5_offerRoot := by decide +kernel
  have hL16 := hts (.fieldLink RX5 16 "TrustedUpdatesModel" "has" "[Z") (by decide +kernel)
  have hl : lv_has ls 1 [(0, .ref (ga G 73))] := hl
  refine lv_aload_n hx hb dX5_offerRoot_0 rfl (lv_at hl 0 rfl) ?_
  refine wg_r C hW (k := 73) (ci := 5) (j := 3) (q := 76) k73 rfl ⟨by decide, rfl⟩ inX5 (by decide) (rfq k73 rfl) hL16 (fun _ h9 => h9) dX5_offerRoot_1 ?_
  refine lv_iconst (v := 0) hx hb dX5_offerRoot_4 (by decide) ?_
  refine wz_l C hW (k := 76) k76 (by decide) dX5_offerRoot_5 (v := (M 76 0)) (congrArg (M 76) (by decide)) ?_
  refine lv_if_ne (tgt := 11) hx hb dX5_offerRoot_6 (by decide) (fun c1 => ?_) (fun c1 => ?_)
  · replace h := iff_ h c1
    refine lv_aload_n hx hb dX5_offerRoot_11 rfl (lv_at hl 0 rfl) ?_
    refine lv_bipush (v := 7) hx hb dX5_offerRoot_12 (by decide) ?_
    refine lv_aload_n hx hb dX5_offerRoot_14 rfl (lv_at hl 0 rfl) ?_
    refine lv_iconst (v := 0) hx hb dX5_offerRoot_15 (by decide) ?_
    refine lv_iconst (v := 0) hx hb dX5_offerRoot_16 (by decide) ?_
    obtain ⟨q1, hq1, h⟩ := ob h
    refine wc_Vi C hW (k := 73) (As := [.int 0, .int 0]) (rest := [.int 7, .ref (ga G 73)]) (c_X5_keysOf G 0 0 M q1 hq1) k73 rfl (by decide) (cwV 2 hts gX5_offerRoot_X5_keysOf rfl rfl rfl yd_X5_keysOf ⟨Nat.le_of_ble_eq_true rfl, Nat.le_of_ble_eq_true rfl⟩) rfl hl.1 rfl (Nat.le_of_ble_eq_true rfl) dX5_offerRoot_17 ⟨Nat.le_refl 0, Nat.le_refl 0⟩ (fun H locs hW => ?_)
    obtain ⟨q2, hq2, h⟩ := ob h
    refine wc_Vi C hW (k := 73) (As := [.int 7, .int q1.1]) (rest := []) (c_X5_isSigned G 7 q1.1 q1.2 q2 hq2) k73 rfl (by decide) (cwV 2 hts gX5_offerRoot_X5_isSigned rfl rfl rfl yd_X5_isSigned ⟨Nat.le_of_ble_eq_true rfl, Nat.le_of_ble_eq_true rfl⟩) rfl hl.1 rfl (Nat.le_of_ble_eq_true rfl) dX5_offerRoot_20 ⟨Nat.le_refl 0, Nat.le_refl 0⟩ (fun H locs hW => ?_)
    refine lv_if_eq (tgt := 42) hx hb dX5_offerRoot_23 (by decide) (fun c2 => ?_) (fun c2 => ?_)
    · replace h := ift h c2
      refine lv_iconst (v := 3) hx hb dX5_offerRoot_42 (by decide) ?_
      exact wr_i C hr hW h dX5_offerRoot_43
    · replace h := iff_ h c2
      refine lv_aload_n hx hb dX5_offerRoot_26 rfl (lv_at hl 0 rfl) ?_
      refine lv_bipush (v := 7) hx hb dX5_offerRoot_27 (by decide) ?_
      refine lv_aload_n hx hb dX5_offerRoot_29 rfl (lv_at hl 0 rfl) ?_
      refine lv_bipush (v := 7) hx hb dX5_offerRoot_30 (by decide) ?_
      refine lv_iconst (v := 0) hx hb dX5_offerRoot_32 (by decide) ?_
      obtain ⟨q3, hq3, h⟩ := ob h
      refine wc_Vi C hW (k := 73) (As := [.int 7, .int 0]) (rest := [.int 7, .ref (ga G 73)]) (c_X5_keysOf G 7 0 q2.2 q3 hq3) k73 rfl (by decide) (cwV 2 hts gX5_offerRoot_X5_keysOf rfl rfl rfl yd_X5_keysOf ⟨Nat.le_of_ble_eq_true rfl, Nat.le_of_ble_eq_true rfl⟩) rfl hl.1 rfl (Nat.le_of_ble_eq_true rfl) dX5_offerRoot_33 ⟨Nat.le_refl 0, Nat.le_refl 0⟩ (fun H locs hW => ?_)
      obtain ⟨q4, hq4, h⟩ := ob h
      refine wc_Vi C hW (k := 73) (As := [.int 7, .int q3.1]) (rest := []) (c_X5_isSigned G 7 q3.1 q3.2 q4 hq4) k73 rfl (by decide) (cwV 2 hts gX5_offerRoot_X5_isSigned rfl rfl rfl yd_X5_isSigned ⟨Nat.le_of_ble_eq_true rfl, Nat.le_of_ble_eq_true rfl⟩) rfl hl.1 rfl (Nat.le_of_ble_eq_true rfl) dX5_offerRoot_36 ⟨Nat.le_refl 0, Nat.le_refl 0⟩ (fun H locs hW => ?_)
      refine lv_if_ne (tgt := 44) hx hb dX5_offerRoot_39 (by decide) (fun c3 => ?_) (fun c3 => ?_)
      · replace h := iff_ h c3
        refine lv_aload_n hx hb dX5_offerRoot_44 rfl (lv_at hl 0 rfl) ?_
        refine lv_bipush (v := 7) hx hb dX5_offerRoot_45 (by decide) ?_
        obtain ⟨q5, hq5, h⟩ := ob h
        refine wc_Vi C hW (k := 73) (As := [.int 7]) (rest := []) (c_X5_versionOf G 7 q4.2 q5 hq5) k73 rfl (by decide) (cwV 1 hts gX5_offerRoot_X5_versionOf rfl rfl rfl yd_X5_versionOf ⟨Nat.le_of_ble_eq_true rfl, Nat.le_of_ble_eq_true rfl⟩) rfl hl.1 rfl (Nat.le_of_ble_eq_true rfl) dX5_offerRoot_47 ⟨Nat.le_refl 0, Nat.le_refl 0⟩ (fun H locs hW => ?_)
        refine lv_aload_n hx hb dX5_offerRoot_50 rfl (lv_at hl 0 rfl) ?_
        refine lv_iconst (v := 0) hx hb dX5_offerRoot_51 (by decide) ?_
        obtain ⟨q6, hq6, h⟩ := ob h
        refine wc_Vi C hW (k := 73) (As := [.int 0]) (rest := [.int q5.1]) (c_X5_versionOf G 0 q5.2 q6 hq6) k73 rfl (by decide) (cwV 1 hts gX5_offerRoot_X5_versionOf rfl rfl rfl yd_X5_versionOf ⟨Nat.le_of_ble_eq_true rfl, Nat.le_of_ble_eq_true rfl⟩) rfl hl.1 rfl (Nat.le_of_ble_eq_true rfl) dX5_offerRoot_52 ⟨Nat.le_refl 0, Nat.le_refl 0⟩ (fun H locs hW => ?_)
        refine lv_iconst (v := 1) hx hb dX5_offerRoot_55 (by decide) ?_
        refine lv_iadd hx hb dX5_offerRoot_56 ?_
        refine lv_icmp_eq (tgt := 62) hx hb dX5_offerRoot_57 (by decide) (fun c4 => ?_) (fun c4 => ?_)
        · replace h := ift h c4
          refine lv_aload_n hx hb dX5_offerRoot_62 rfl (lv_at hl 0 rfl) ?_
          refine lv_iconst (v := 1) hx hb dX5_offerRoot_63 (by decide) ?_
          obtain ⟨q7, hq7, h⟩ := ob h
          refine wc_Vi C hW (k := 73) (As := [.int 1]) (rest := []) (c_X5_areSameKeys G 1 q6.2 q7 hq7) k73 rfl (by decide) (cwV 1 hts gX5_offerRoot_X5_areSameKeys rfl rfl rfl yd_X5_areSameKeys ⟨Nat.le_of_ble_eq_true rfl, Nat.le_of_ble_eq_true rfl⟩) rfl hl.1 rfl (Nat.le_of_ble_eq_true rfl) dX5_offerRoot_64 ⟨Nat.le_refl 0, Nat.le_refl 0⟩ (fun H locs hW => ?_)
          refine lv_if_eq (tgt := 78) hx hb dX5_offerRoot_67 (by decide) (fun c5 => ?_) (fun c5 => ?_)
          · replace h := ift h c5
            refine lv_aload_n hx hb dX5_offerRoot_78 rfl (lv_at hl 0 rfl) ?_
            refine wg_r C hW (k := 73) (ci := 5) (j := 3) (q := 76) k73 rfl ⟨by decide, rfl⟩ inX5 (by decide) (rfq k73 rfl) hL16 (fun _ h9 => h9) dX5_offerRoot_79 ?_
            refine lv_iconst (v := 1) hx hb dX5_offerRoot_82 (by decide) ?_
            refine lv_iconst (v := 0) hx hb dX5_offerRoot_83 (by decide) ?_
            refine wz_s C hW (k := 76) k76 (by decide) (by decide) dX5_offerRoot_84 (fun H locs hW => ?_)
            have hW : wH G s (up q7.2 76 1 0) H locs := hW
            refine lv_aload_n hx hb dX5_offerRoot_85 rfl (lv_at hl 0 rfl) ?_
            refine wg_r C hW (k := 73) (ci := 5) (j := 3) (q := 76) k73 rfl ⟨by decide, rfl⟩ inX5 (by decide) (rfq k73 rfl) hL16 (fun _ h9 => h9) dX5_offerRoot_86 ?_
            refine lv_iconst (v := 2) hx hb dX5_offerRoot_89 (by decide) ?_
            refine lv_iconst (v := 0) hx hb dX5_offerRoot_90 (by decide) ?_
            refine wz_s C hW (k := 76) k76 (by decide) (by decide) dX5_offerRoot_91 (fun H locs hW => ?_)
            have hW : wH G s (up (up q7.2 76 1 0) 76 2 0) H locs := hW
            refine lv_iconst (v := 0) hx hb dX5_offerRoot_92 (by decide) ?_
            exact wr_i C hr hW h dX5_offerRoot_93
          · replace h := iff_ h c5
            refine lv_aload_n hx hb dX5_offerRoot_70 rfl (lv_at hl 0 rfl) ?_
            refine lv_iconst (v := 2) hx hb dX5_offerRoot_71 (by decide) ?_
            obtain ⟨q8, hq8, h⟩ := ob h
            refine wc_Vi C hW (k := 73) (As := [.int 2]) (rest := []) (c_X5_areSameKeys G 2 q7.2 q8 hq8) k73 rfl (by decide) (cwV 1 hts gX5_offerRoot_X5_areSameKeys rfl rfl rfl yd_X5_areSameKeys ⟨Nat.le_of_ble_eq_true rfl, Nat.le_of_ble_eq_true rfl⟩) rfl hl.1 rfl (Nat.le_of_ble_eq_true rfl) dX5_offerRoot_72 ⟨Nat.le_refl 0, Nat.le_refl 0⟩ (fun H locs hW => ?_)
            refine lv_if_ne (tgt := 92) hx hb dX5_offerRoot_75 (by decide) (fun c6 => ?_) (fun c6 => ?_)
            · replace h := iff_ h c6
              refine lv_iconst (v := 0) hx hb dX5_offerRoot_92 (by decide) ?_
              exact wr_i C hr hW h dX5_offerRoot_93
            · replace h := ift h c6
              refine lv_aload_n hx hb dX5_offerRoot_78 rfl (lv_at hl 0 rfl) ?_
              refine wg_r C hW (k := 73) (ci := 5) (j := 3) (q := 76) k73 rfl ⟨by decide, rfl⟩ inX5 (by decide) (rfq k73 rfl) hL16 (fun _ h9 => h9) dX5_offerRoot_79 ?_
              refine lv_iconst (v := 1) hx hb dX5_offerRoot_82 (by decide) ?_
              refine lv_iconst (v := 0) hx hb dX5_offerRoot_83 (by decide) ?_
              refine wz_s C hW (k := 76) k76 (by decide) (by decide) dX5_offerRoot_84 (fun H locs hW => ?_)
              have hW : wH G s (up q8.2 76 1 0) H locs := hW
              refine lv_aload_n hx hb dX5_offerRoot_85 rfl (lv_at hl 0 rfl) ?_
              refine wg_r C hW (k := 73) (ci := 5) (j := 3) (q := 76) k73 rfl ⟨by decide, rfl⟩ inX5 (by decide) (rfq k73 rfl) hL16 (fun _ h9 => h9) dX5_offerRoot_86 ?_
              refine lv_iconst (v := 2) hx hb dX5_offerRoot_89 (by decide) ?_
              refine lv_iconst (v := 0) hx hb dX5_offerRoot_90 (by decide) ?_
              refine wz_s C hW (k := 76) k76 (by decide) (by decide) dX5_offerRoot_91 (fun H locs hW => ?_)
              have hW : wH G s (up (up q8.2 76 1 0) 76 2 0) H locs := hW
              refine lv_iconst (v := 0) hx hb dX5_offerRoot_92 (by decide) ?_
              exact wr_i C hr hW h dX5_offerRoot_93
        · replace h := iff_ h c4
          refine lv_iconst (v := 4) hx hb dX5_offerRoot_60 (by decide) ?_
          exact wr_i C hr hW h dX5_offerRoot_61
      · replace h := ift h c3
        refine lv_iconst (v := 3) hx hb dX5_offerRoot_42 (by decide) ?_
        exact wr_i C hr hW h dX5_offerRoot_43
  · replace h := ift h c1
    refine lv_iconst (v := 2) hx hb dX5_offerRoot_9 (by decide) ?_
    exact wr_i C hr hW h dX5_offerRoot_10
theorem yd_X5_offerStamp : yX5_offerStamp.cls = RX5 ∧ yX5_offerStamp.cls ≠ "java/lang/invoke/MethodHandle" ∧ yX5_offerStamp.cls ≠ "java/lang/invoke/VarHandle" ∧ (parseMethodDescriptor yX5_offerStamp.desc).map (fun d => d.parameters.length) = some 0 := by decide +kernel
set_option maxHeartbeats 4000000 in
set_option maxRecDepth 100000 in
theorem c_X5_offerStamp (G : GG)  (M : Me) (y : Int32 × Me) (h : f_X5_offerStamp  M = some y) : CI G yX5_offerStamp wsX5_offerStamp (rmd 8 0 0) [.ref (ga G 73)] M y := by
  rw [f_X5_offerStamp] at h
  refine co_o (by decide) rfl rfl (Nat.le_of_ble_eq_true rfl) (fun p e s m below meth c ls C hr hW hl => ?_)
  have hx := C.1
  have hb := C.2.1
  have hown := C.2.2.2.1
  have hts := C.2.2.2.2.1
  have inX5 : ∀ w ∈ wsX50, w ∈ wsX5_offerStamp := by decide +kernel
  have hL7 := hts (.fieldLink RX5 7 "TrustedUpdatesModel" "row" "[I") (by decide +kernel)
  have hL16 := hts (.fieldLink RX5 16 "TrustedUpdatesModel" "has" "[Z") (by decide +kernel)
  have hl : lv_has ls 2 [(0, .ref (ga G 73))] := hl
  refine lv_aload_n hx hb dX5_offerStamp_0 rfl (lv_at hl 0 rfl) ?_
  refine lv_iconst (v := 0) hx hb dX5_offerStamp_1 (by decide) ?_
  obtain ⟨q1, hq1, h⟩ := ob h
  refine wc_Vi C hW (k := 73) (As := [.int 0]) (rest := []) (c_X5_stands G 0 M q1 hq1) k73 rfl (by decide) (cwV 1 hts gX5_offerStamp_X5_stands rfl rfl rfl yd_X5_stands ⟨Nat.le_of_ble_eq_true rfl, Nat.le_of_ble_eq_true rfl⟩) rfl hl.1 rfl (Nat.le_of_ble_eq_true rfl) dX5_offerStamp_2 ⟨Nat.le_refl 0, Nat.le_refl 0⟩ (fun H locs hW => ?_)
  refine lv_if_ne (tgt := 10) hx hb dX5_offerStamp_5 (by decide) (fun c1 => ?_) (fun c1 => ?_)
  · replace h := iff_ h c1
    refine lv_aload_n hx hb dX5_offerStamp_10 rfl (lv_at hl 0 rfl) ?_
    refine lv_bipush (v := 7) hx hb dX5_offerStamp_11 (by decide) ?_
    refine lv_aload_n hx hb dX5_offerStamp_13 rfl (lv_at hl 0 rfl) ?_
    refine lv_iconst (v := 0) hx hb dX5_offerStamp_14 (by decide) ?_
    refine lv_iconst (v := 1) hx hb dX5_offerStamp_15 (by decide) ?_
    obtain ⟨q2, hq2, h⟩ := ob h
    refine wc_Vi C hW (k := 73) (As := [.int 0, .int 1]) (rest := [.int 7, .ref (ga G 73)]) (c_X5_keysOf G 0 1 q1.2 q2 hq2) k73 rfl (by decide) (cwV 2 hts gX5_offerStamp_X5_keysOf rfl rfl rfl yd_X5_keysOf ⟨Nat.le_of_ble_eq_true rfl, Nat.le_of_ble_eq_true rfl⟩) rfl hl.1 rfl (Nat.le_of_ble_eq_true rfl) dX5_offerStamp_16 ⟨Nat.le_refl 0, Nat.le_refl 0⟩ (fun H locs hW => ?_)
    obtain ⟨q3, hq3, h⟩ := ob h
    refine wc_Vi C hW (k := 73) (As := [.int 7, .int q2.1]) (rest := []) (c_X5_isSigned G 7 q2.1 q2.2 q3 hq3) k73 rfl (by decide) (cwV 2 hts gX5_offerStamp_X5_isSigned rfl rfl rfl yd_X5_isSigned ⟨Nat.le_of_ble_eq_true rfl, Nat.le_of_ble_eq_true rfl⟩) rfl hl.1 rfl (Nat.le_of_ble_eq_true rfl) dX5_offerStamp_19 ⟨Nat.le_refl 0, Nat.le_refl 0⟩ (fun H locs hW => ?_)
    refine lv_if_ne (tgt := 27) hx hb dX5_offerStamp_22 (by decide) (fun c2 => ?_) (fun c2 => ?_)
    · replace h := iff_ h c2
      refine lv_aload_n hx hb dX5_offerStamp_27 rfl (lv_at hl 0 rfl) ?_
      refine wg_r C hW (k := 73) (ci := 5) (j := 3) (q := 76) k73 rfl ⟨by decide, rfl⟩ inX5 (by decide) (rfq k73 rfl) hL16 (fun _ h9 => h9) dX5_offerStamp_28 ?_
      refine lv_iconst (v := 1) hx hb dX5_offerStamp_31 (by decide) ?_
      refine wz_l C hW (k := 76) k76 (by decide) dX5_offerStamp_32 (v := (q3.2 76 1)) (congrArg (q3.2 76) (by decide)) ?_
      refine lv_if_eq (tgt := 72) hx hb dX5_offerStamp_33 (by decide) (fun c3 => ?_) (fun c3 => ?_)
      · replace h := ift h c3
        refine lv_iconst (v := 0) hx hb dX5_offerStamp_72 (by decide) ?_
        refine lv_istore_n (lv' := [(1, .int 0), (0, .ref (ga G 73))]) hx hb dX5_offerStamp_73 rfl hl (by decide) rfl (fun ls hl => ?_)
        refine lv_iload_n hx hb dX5_offerStamp_74 rfl (lv_at hl 0 rfl) ?_
        refine lv_if_eq (tgt := 82) hx hb dX5_offerStamp_75 (by decide) (fun _ => ?_) (fun c4 => absurd c4 (by decide))
        refine lv_aload_n hx hb dX5_offerStamp_82 rfl (lv_at hl 1 rfl) ?_
        refine lv_bipush (v := 7) hx hb dX5_offerStamp_83 (by decide) ?_
        obtain ⟨q4, hq4, h⟩ := ob h
        refine wc_Vi C hW (k := 73) (As := [.int 7]) (rest := []) (c_X5_isOver G 7 q3.2 q4 hq4) k73 rfl (by decide) (cwV 1 hts gX5_offerStamp_X5_isOver rfl rfl rfl yd_X5_isOver ⟨Nat.le_of_ble_eq_true rfl, Nat.le_of_ble_eq_true rfl⟩) rfl hl.1 rfl (Nat.le_of_ble_eq_true rfl) dX5_offerStamp_85 ⟨Nat.le_refl 0, Nat.le_refl 0⟩ (fun H locs hW => ?_)
        refine lv_if_eq (tgt := 95) hx hb dX5_offerStamp_88 (by decide) (fun c5 => ?_) (fun c5 => ?_)
        · replace h := ift h c5
          refine lv_iconst (v := 0) hx hb dX5_offerStamp_95 (by decide) ?_
          exact wr_i C hr hW h dX5_offerStamp_96
        · replace h := iff_ h c5
          refine lv_iconst (v := 5) hx hb dX5_offerStamp_91 (by decide) ?_
          refine lv_goto (tgt := 96) hx hb dX5_offerStamp_92 (by decide) ?_
          exact wr_i C hr hW h dX5_offerStamp_96
      · replace h := iff_ h c3
        refine lv_aload_n hx hb dX5_offerStamp_36 rfl (lv_at hl 0 rfl) ?_
        refine lv_bipush (v := 7) hx hb dX5_offerStamp_37 (by decide) ?_
        obtain ⟨q5, hq5, h⟩ := ob h
        refine wc_Vi C hW (k := 73) (As := [.int 7]) (rest := []) (c_X5_versionOf G 7 q3.2 q5 hq5) k73 rfl (by decide) (cwV 1 hts gX5_offerStamp_X5_versionOf rfl rfl rfl yd_X5_versionOf ⟨Nat.le_of_ble_eq_true rfl, Nat.le_of_ble_eq_true rfl⟩) rfl hl.1 rfl (Nat.le_of_ble_eq_true rfl) dX5_offerStamp_39 ⟨Nat.le_refl 0, Nat.le_refl 0⟩ (fun H locs hW => ?_)
        refine lv_aload_n hx hb dX5_offerStamp_42 rfl (lv_at hl 0 rfl) ?_
        refine lv_iconst (v := 1) hx hb dX5_offerStamp_43 (by decide) ?_
        obtain ⟨q6, hq6, h⟩ := ob h
        refine wc_Vi C hW (k := 73) (As := [.int 1]) (rest := [.int q5.1]) (c_X5_versionOf G 1 q5.2 q6 hq6) k73 rfl (by decide) (cwV 1 hts gX5_offerStamp_X5_versionOf rfl rfl rfl yd_X5_versionOf ⟨Nat.le_of_ble_eq_true rfl, Nat.le_of_ble_eq_true rfl⟩) rfl hl.1 rfl (Nat.le_of_ble_eq_true rfl) dX5_offerStamp_44 ⟨Nat.le_refl 0, Nat.le_refl 0⟩ (fun H locs hW => ?_)
        refine lv_icmp_lt (tgt := 68) hx hb dX5_offerStamp_47 (by decide) (fun c6 => ?_) (fun c6 => ?_)
        · replace h := ift h c6
          refine lv_iconst (v := 1) hx hb dX5_offerStamp_68 (by decide) ?_
          refine lv_goto (tgt := 73) hx hb dX5_offerStamp_69 (by decide) ?_
          refine lv_istore_n (lv' := [(1, .int 1), (0, .ref (ga G 73))]) hx hb dX5_offerStamp_73 rfl hl (by decide) rfl (fun ls hl => ?_)
          refine lv_iload_n hx hb dX5_offerStamp_74 rfl (lv_at hl 0 rfl) ?_
          refine lv_if_eq (tgt := 82) hx hb dX5_offerStamp_75 (by decide) (fun c7 => absurd c7 (by decide)) (fun _ => ?_)
          refine lv_iconst (v := 4) hx hb dX5_offerStamp_78 (by decide) ?_
          refine lv_goto (tgt := 96) hx hb dX5_offerStamp_79 (by decide) ?_
          exact wr_i C hr hW h dX5_offerStamp_96
        · replace h := iff_ h c6
          refine lv_aload_n hx hb dX5_offerStamp_50 rfl (lv_at hl 0 rfl) ?_
          refine wg_r C hW (k := 73) (ci := 5) (j := 1) (q := 74) k73 rfl ⟨by decide, rfl⟩ inX5 (by decide) (rfq k73 rfl) hL7 (fun _ h9 => h9) dX5_offerStamp_51 ?_
          refine lv_sipush (v := 844) hx hb dX5_offerStamp_54 (by decide) ?_
          refine wa_l C hW (k := 74) k74 (by decide) dX5_offerStamp_57 (v := (q6.2 74 844)) (congrArg (q6.2 74) (by decide)) ?_
          refine lv_aload_n hx hb dX5_offerStamp_58 rfl (lv_at hl 0 rfl) ?_
          refine wg_r C hW (k := 73) (ci := 5) (j := 1) (q := 74) k73 rfl ⟨by decide, rfl⟩ inX5 (by decide) (rfq k73 rfl) hL7 (fun _ h9 => h9) dX5_offerStamp_59 ?_
          refine lv_bipush (v := 124) hx hb dX5_offerStamp_62 (by decide) ?_
          refine wa_l C hW (k := 74) k74 (by decide) dX5_offerStamp_64 (v := (q6.2 74 124)) (congrArg (q6.2 74) (by decide)) ?_
          refine lv_icmp_ge (tgt := 72) hx hb dX5_offerStamp_65 (by decide) (fun c8 => ?_) (fun c8 => ?_)
          · replace h := ift h c8
            refine lv_iconst (v := 0) hx hb dX5_offerStamp_72 (by decide) ?_
            refine lv_istore_n (lv' := [(1, .int 0), (0, .ref (ga G 73))]) hx hb dX5_offerStamp_73 rfl hl (by decide) rfl (fun ls hl => ?_)
            refine lv_iload_n hx hb dX5_offerStamp_74 rfl (lv_at hl 0 rfl) ?_
            refine lv_if_eq (tgt := 82) hx hb dX5_offerStamp_75 (by decide) (fun _ => ?_) (fun c9 => absurd c9 (by decide))
            refine lv_aload_n hx hb dX5_offerStamp_82 rfl (lv_at hl 1 rfl) ?_
            refine lv_bipush (v := 7) hx hb dX5_offerStamp_83 (by decide) ?_
            obtain ⟨q7, hq7, h⟩ := ob h
            refine wc_Vi C hW (k := 73) (As := [.int 7]) (rest := []) (c_X5_isOver G 7 q6.2 q7 hq7) k73 rfl (by decide) (cwV 1 hts gX5_offerStamp_X5_isOver rfl rfl rfl yd_X5_isOver ⟨Nat.le_of_ble_eq_true rfl, Nat.le_of_ble_eq_true rfl⟩) rfl hl.1 rfl (Nat.le_of_ble_eq_true rfl) dX5_offerStamp_85 ⟨Nat.le_refl 0, Nat.le_refl 0⟩ (fun H locs hW => ?_)
            refine lv_if_eq (tgt := 95) hx hb dX5_offerStamp_88 (by decide) (fun c10 => ?_) (fun c10 => ?_)
            · replace h := ift h c10
              refine lv_iconst (v := 0) hx hb dX5_offerStamp_95 (by decide) ?_
              exact wr_i C hr hW h dX5_offerStamp_96
            · replace h := iff_ h c10
              refine lv_iconst (v := 5) hx hb dX5_offerStamp_91 (by decide) ?_
              refine lv_goto (tgt := 96) hx hb dX5_offerStamp_92 (by decide) ?_
              exact wr_i C hr hW h dX5_offerStamp_96
          · replace h := iff_ h c8
            refine lv_iconst (v := 1) hx hb dX5_offerStamp_68 (by decide) ?_
            refine lv_goto (tgt := 73) hx hb dX5_offerStamp_69 (by decide) ?_
            refine lv_istore_n (lv' := [(1, .int 1), (0, .ref (ga G 73))]) hx hb dX5_offerStamp_73 rfl hl (by decide) rfl (fun ls hl => ?_)
            refine lv_iload_n hx hb dX5_offerStamp_74 rfl (lv_at hl 0 rfl) ?_
            refine lv_if_eq (tgt := 82) hx hb dX5_offerStamp_75 (by decide) (fun c11 => absurd c11 (by decide)) (fun _ => ?_)
            refine lv_iconst (v := 4) hx hb dX5_offerStamp_78 (by decide) ?_
            refine lv_goto (tgt := 96) hx hb dX5_offerStamp_79 (by decide) ?_
            exact wr_i C hr hW h dX5_offerStamp_96
    · replace h := ift h c2
      refine lv_iconst (v := 3) hx hb dX5_offerStamp_25 (by decide) ?_
      exact wr_i C hr hW h dX5_offerStamp_26
  · replace h := ift h c1
    refine lv_iconst (v := 2) hx hb dX5_offerStamp_8 (by decide) ?_
    exact wr_i C hr hW h dX5_offerStamp_9
theorem yd_X5_offerSnapshot : yX5_offerSnapshot.cls = RX5 ∧ yX5_offerSnapshot.cls ≠ "java/lang/invoke/MethodHandle" ∧ yX5_offerSnapshot.cls ≠ "java/lang/invoke/VarHandle" ∧ (parseMethodDescriptor yX5_offerSnapshot.desc).map (fun d => d.parameters.length) = some 0 := by decide +kernel
set_option maxHeartbeats 4000000 in
set_option maxRecDepth 100000 in
theorem L_X5_offerSnapshot_79 {G : GG} {p : Program} {e : Env} {s : State} {m : MethodId} {args : Array Value} {below : List Frame} {meth : Method} {c : Code} (C : Cx G wsX5_offerSnapshot RX5 cX5_offerSnapshot 2 p s m args meth c) (hr : meth.sig.returnType = (some .int)) : ∀ (n : Nat) (x1 : Int32) (M : Me) (y : Int32 × Me) (H : Heap) (locs : List Loc) (ls : Array Slot), fL_X5_offerSnapshot_79 n x1 M = some y → wH G s M H locs → lv_has ls 2 [(0, .ref (ga G 73)), (1, .int x1)] → W p (gl G) e (rmd 8 0 0) s m args below meth c H locs 0 0 (MQ below (Qi G y) args s 0 0 (wA G)) (F0 m 79 ls []) := by
  have hx := C.1
  have hb := C.2.1
  have hown := C.2.2.2.1
  have hts := C.2.2.2.2.1
  have inX5 : ∀ w ∈ wsX50, w ∈ wsX5_offerSnapshot := by decide +kernel
  have hL16 := hts (.fieldLink RX5 16 "TrustedUpdatesModel" "has" "[Z") (by decide +kernel)
  intro n
  induction n with
  | zero => intro x1 M y H locs ls h; exact nso h
  | succ n ih =>
    intro x1 M y H locs ls h hW hl
    rw [fL_X5_offerSnapshot_79] at h
    refine lv_iload_n hx hb dX5_offerSnapshot_79 rfl (lv_at hl 1 rfl) ?_
    refine lv_bipush (v := 7) hx hb dX5_offerSnapshot_80 (by decide) ?_
    refine lv_icmp_ge (tgt := 118) hx hb dX5_offerSnapshot_82 (by decide) (fun c6 => ?_) (fun c6 => ?_)
    · replace h := ift h c6
      refine lv_aload_n hx hb dX5_offerSnapshot_118 rfl (lv_at hl 0 rfl) ?_
      refine lv_bipush (v := 7) hx hb dX5_offerSnapshot_119 (by decide) ?_
      obtain ⟨q8, hq8, h⟩ := ob h
      refine wc_Vi C hW (k := 73) (As := [.int 7]) (rest := []) (c_X5_isOver G 7 M q8 hq8) k73 rfl (by decide) (cwV 1 hts gX5_offerSnapshot_X5_isOver rfl rfl rfl yd_X5_isOver ⟨Nat.le_of_ble_eq_true rfl, Nat.le_of_ble_eq_true rfl⟩) rfl hl.1 rfl (Nat.le_of_ble_eq_true rfl) dX5_offerSnapshot_121 ⟨Nat.le_refl 0, Nat.le_refl 0⟩ (fun H locs hW => ?_)
      refine lv_if_eq (tgt := 131) hx hb dX5_offerSnapshot_124 (by decide) (fun c7 => ?_) (fun c7 => ?_)
      · replace h := ift h c7
        refine lv_iconst (v := 0) hx hb dX5_offerSnapshot_131 (by decide) ?_
        exact wr_i C hr hW h dX5_offerSnapshot_132
      · replace h := iff_ h c7
        refine lv_iconst (v := 5) hx hb dX5_offerSnapshot_127 (by decide) ?_
        refine lv_goto (tgt := 132) hx hb dX5_offerSnapshot_128 (by decide) ?_
        exact wr_i C hr hW h dX5_offerSnapshot_132
    · replace h := iff_ h c6
      refine lv_aload_n hx hb dX5_offerSnapshot_85 rfl (lv_at hl 0 rfl) ?_
      refine wg_r C hW (k := 73) (ci := 5) (j := 3) (q := 76) k73 rfl ⟨by decide, rfl⟩ inX5 (by decide) (rfq k73 rfl) hL16 (fun _ h9 => h9) dX5_offerSnapshot_86 ?_
      refine lv_iconst (v := 2) hx hb dX5_offerSnapshot_89 (by decide) ?_
      refine wz_l C hW (k := 76) k76 (by decide) dX5_offerSnapshot_90 (v := (M 76 2)) (congrArg (M 76) (by decide)) ?_
      refine lv_if_eq (tgt := 118) hx hb dX5_offerSnapshot_91 (by decide) (fun c8 => ?_) (fun c8 => ?_)
      · replace h := ift h c8
        refine lv_aload_n hx hb dX5_offerSnapshot_118 rfl (lv_at hl 0 rfl) ?_
        refine lv_bipush (v := 7) hx hb dX5_offerSnapshot_119 (by decide) ?_
        obtain ⟨q9, hq9, h⟩ := ob h
        refine wc_Vi C hW (k := 73) (As := [.int 7]) (rest := []) (c_X5_isOver G 7 M q9 hq9) k73 rfl (by decide) (cwV 1 hts gX5_offerSnapshot_X5_isOver rfl rfl rfl yd_X5_isOver ⟨Nat.le_of_ble_eq_true rfl, Nat.le_of_ble_eq_true rfl⟩) rfl hl.1 rfl (Nat.le_of_ble_eq_true rfl) dX5_offerSnapshot_121 ⟨Nat.le_refl 0, Nat.le_refl 0⟩ (fun H locs hW => ?_)
        refine lv_if_eq (tgt := 131) hx hb dX5_offerSnapshot_124 (by decide) (fun c9 => ?_) (fun c9 => ?_)
        · replace h := ift h c9
          refine lv_iconst (v := 0) hx hb dX5_offerSnapshot_131 (by decide) ?_
          exact wr_i C hr hW h dX5_offerSnapshot_132
        · replace h := iff_ h c9
          refine lv_iconst (v := 5) hx hb dX5_offerSnapshot_127 (by decide) ?_
          refine lv_goto (tgt := 132) hx hb dX5_offerSnapshot_128 (by decide) ?_
          exact wr_i C hr hW h dX5_offerSnapshot_132
      · replace h := iff_ h c8
        refine lv_aload_n hx hb dX5_offerSnapshot_94 rfl (lv_at hl 0 rfl) ?_
        refine lv_bipush (v := 7) hx hb dX5_offerSnapshot_95 (by decide) ?_
        refine lv_iload_n hx hb dX5_offerSnapshot_97 rfl (lv_at hl 1 rfl) ?_
        obtain ⟨q10, hq10, h⟩ := ob h
        refine wc_Vi C hW (k := 73) (As := [.int 7, .int x1]) (rest := []) (c_X5_said G 7 x1 M q10 hq10) k73 rfl (by decide) (cwV 2 hts gX5_offerSnapshot_X5_said rfl rfl rfl yd_X5_said ⟨Nat.le_of_ble_eq_true rfl, Nat.le_of_ble_eq_true rfl⟩) rfl hl.1 rfl (Nat.le_of_ble_eq_true rfl) dX5_offerSnapshot_98 ⟨Nat.le_refl 0, Nat.le_refl 0⟩ (fun H locs hW => ?_)
        refine lv_aload_n hx hb dX5_offerSnapshot_101 rfl (lv_at hl 0 rfl) ?_
        refine lv_iconst (v := 2) hx hb dX5_offerSnapshot_102 (by decide) ?_
        refine lv_iload_n hx hb dX5_offerSnapshot_103 rfl (lv_at hl 1 rfl) ?_
        obtain ⟨q11, hq11, h⟩ := ob h
        refine wc_Vi C hW (k := 73) (As := [.int 2, .int x1]) (rest := [.int q10.1]) (c_X5_said G 2 x1 q10.2 q11 hq11) k73 rfl (by decide) (cwV 2 hts gX5_offerSnapshot_X5_said rfl rfl rfl yd_X5_said ⟨Nat.le_of_ble_eq_true rfl, Nat.le_of_ble_eq_true rfl⟩) rfl hl.1 rfl (Nat.le_of_ble_eq_true rfl) dX5_offerSnapshot_104 ⟨Nat.le_refl 0, Nat.le_refl 0⟩ (fun H locs hW => ?_)
        refine lv_icmp_ge (tgt := 112) hx hb dX5_offerSnapshot_107 (by decide) (fun c10 => ?_) (fun c10 => ?_)
        · replace h := ift h c10
          refine lv_iinc (v := (x1 + 1)) (lv' := [(1, .int (x1 + 1)), (0, .ref (ga G 73))]) hx hb dX5_offerSnapshot_112 hl (k := 1) rfl rfl (by decide) rfl (fun ls hl => ?_)
          refine lv_goto (tgt := 79) hx hb dX5_offerSnapshot_115 (by decide) ?_
          exact ih (x1 + 1) q11.2 y _ _ ls h hW (lv_sub hl [1, 0] rfl)
        · replace h := iff_ h c10
          refine lv_iconst (v := 4) hx hb dX5_offerSnapshot_110 (by decide) ?_
          exact wr_i C hr hW h dX5_offerSnapshot_111
set_option maxHeartbeats 4000000 in
set_option maxRecDepth 100000 in
theorem c_X5_offerSnapshot (G : GG)  (M : Me) (y : Int32 × Me) (h : f_X5_offerSnapshot  M = some y) : CI G yX5_offerSnapshot wsX5_offerSnapshot (rmd 8 0 0) [.ref (ga G 73)] M y := by
  rw [f_X5_offerSnapshot] at h
  refine co_o (by decide) rfl rfl (Nat.le_of_ble_eq_true rfl) (fun p e s m below meth c ls C hr hW hl => ?_)
  have hx := C.1
  have hb := C.2.1
  have hown := C.2.2.2.1
  have hts := C.2.2.2.2.1
  have inX5 : ∀ w ∈ wsX50, w ∈ wsX5_offerSnapshot := by decide +kernel
  have hL7 := hts (.fieldLink RX5 7 "TrustedUpdatesModel" "row" "[I") (by decide +kernel)
  have hL13 := hts (.fieldLink RX5 13 "TrustedUpdatesModel" "sizes" "[I") (by decide +kernel)
  have hl : lv_has ls 2 [(0, .ref (ga G 73))] := hl
  refine lv_aload_n hx hb dX5_offerSnapshot_0 rfl (lv_at hl 0 rfl) ?_
  refine lv_iconst (v := 0) hx hb dX5_offerSnapshot_1 (by decide) ?_
  obtain ⟨q1, hq1, h⟩ := ob h
  refine wc_Vi C hW (k := 73) (As := [.int 0]) (rest := []) (c_X5_stands G 0 M q1 hq1) k73 rfl (by decide) (cwV 1 hts gX5_offerSnapshot_X5_stands rfl rfl rfl yd_X5_stands ⟨Nat.le_of_ble_eq_true rfl, Nat.le_of_ble_eq_true rfl⟩) rfl hl.1 rfl (Nat.le_of_ble_eq_true rfl) dX5_offerSnapshot_2 ⟨Nat.le_refl 0, Nat.le_refl 0⟩ (fun H locs hW => ?_)
  refine lv_if_eq (tgt := 16) hx hb dX5_offerSnapshot_5 (by decide) (fun c1 => ?_) (fun c1 => ?_)
  · replace h := ift h c1
    refine lv_iconst (v := 2) hx hb dX5_offerSnapshot_16 (by decide) ?_
    exact wr_i C hr hW h dX5_offerSnapshot_17
  · replace h := iff_ h c1
    refine lv_aload_n hx hb dX5_offerSnapshot_8 rfl (lv_at hl 0 rfl) ?_
    refine lv_iconst (v := 1) hx hb dX5_offerSnapshot_9 (by decide) ?_
    obtain ⟨q2, hq2, h⟩ := ob h
    refine wc_Vi C hW (k := 73) (As := [.int 1]) (rest := []) (c_X5_stands G 1 q1.2 q2 hq2) k73 rfl (by decide) (cwV 1 hts gX5_offerSnapshot_X5_stands rfl rfl rfl yd_X5_stands ⟨Nat.le_of_ble_eq_true rfl, Nat.le_of_ble_eq_true rfl⟩) rfl hl.1 rfl (Nat.le_of_ble_eq_true rfl) dX5_offerSnapshot_10 ⟨Nat.le_refl 0, Nat.le_refl 0⟩ (fun H locs hW => ?_)
    refine lv_if_ne (tgt := 18) hx hb dX5_offerSnapshot_13 (by decide) (fun c2 => ?_) (fun c2 => ?_)
    · replace h := iff_ h c2
      refine lv_aload_n hx hb dX5_offerSnapshot_18 rfl (lv_at hl 0 rfl) ?_
      refine lv_bipush (v := 7) hx hb dX5_offerSnapshot_19 (by decide) ?_
      refine lv_aload_n hx hb dX5_offerSnapshot_21 rfl (lv_at hl 0 rfl) ?_
      refine lv_iconst (v := 0) hx hb dX5_offerSnapshot_22 (by decide) ?_
      refine lv_iconst (v := 2) hx hb dX5_offerSnapshot_23 (by decide) ?_
      obtain ⟨q3, hq3, h⟩ := ob h
      refine wc_Vi C hW (k := 73) (As := [.int 0, .int 2]) (rest := [.int 7, .ref (ga G 73)]) (c_X5_keysOf G 0 2 q2.2 q3 hq3) k73 rfl (by decide) (cwV 2 hts gX5_offerSnapshot_X5_keysOf rfl rfl rfl yd_X5_keysOf ⟨Nat.le_of_ble_eq_true rfl, Nat.le_of_ble_eq_true rfl⟩) rfl hl.1 rfl (Nat.le_of_ble_eq_true rfl) dX5_offerSnapshot_24 ⟨Nat.le_refl 0, Nat.le_refl 0⟩ (fun H locs hW => ?_)
      obtain ⟨q4, hq4, h⟩ := ob h
      refine wc_Vi C hW (k := 73) (As := [.int 7, .int q3.1]) (rest := []) (c_X5_isSigned G 7 q3.1 q3.2 q4 hq4) k73 rfl (by decide) (cwV 2 hts gX5_offerSnapshot_X5_isSigned rfl rfl rfl yd_X5_isSigned ⟨Nat.le_of_ble_eq_true rfl, Nat.le_of_ble_eq_true rfl⟩) rfl hl.1 rfl (Nat.le_of_ble_eq_true rfl) dX5_offerSnapshot_27 ⟨Nat.le_refl 0, Nat.le_refl 0⟩ (fun H locs hW => ?_)
      refine lv_if_ne (tgt := 35) hx hb dX5_offerSnapshot_30 (by decide) (fun c3 => ?_) (fun c3 => ?_)
      · replace h := iff_ h c3
        refine lv_aload_n hx hb dX5_offerSnapshot_35 rfl (lv_at hl 0 rfl) ?_
        refine lv_bipush (v := 7) hx hb dX5_offerSnapshot_36 (by decide) ?_
        obtain ⟨q5, hq5, h⟩ := ob h
        refine wc_Vi C hW (k := 73) (As := [.int 7]) (rest := []) (c_X5_versionOf G 7 q4.2 q5 hq5) k73 rfl (by decide) (cwV 1 hts gX5_offerSnapshot_X5_versionOf rfl rfl rfl yd_X5_versionOf ⟨Nat.le_of_ble_eq_true rfl, Nat.le_of_ble_eq_true rfl⟩) rfl hl.1 rfl (Nat.le_of_ble_eq_true rfl) dX5_offerSnapshot_38 ⟨Nat.le_refl 0, Nat.le_refl 0⟩ (fun H locs hW => ?_)
        refine lv_aload_n hx hb dX5_offerSnapshot_41 rfl (lv_at hl 0 rfl) ?_
        refine wg_r C hW (k := 73) (ci := 5) (j := 1) (q := 74) k73 rfl ⟨by decide, rfl⟩ inX5 (by decide) (rfq k73 rfl) hL7 (fun _ h9 => h9) dX5_offerSnapshot_42 ?_
        refine lv_bipush (v := 124) hx hb dX5_offerSnapshot_45 (by decide) ?_
        refine wa_l C hW (k := 74) k74 (by decide) dX5_offerSnapshot_47 (v := (q5.2 74 124)) (congrArg (q5.2 74) (by decide)) ?_
        refine lv_icmp_ne (tgt := 75) hx hb dX5_offerSnapshot_48 (by decide) (fun c4 => ?_) (fun c4 => ?_)
        · replace h := iff_ h c4
          refine lv_iconst (v := 4) hx hb dX5_offerSnapshot_75 (by decide) ?_
          exact wr_i C hr hW h dX5_offerSnapshot_76
        · replace h := ift h c4
          refine lv_aload_n hx hb dX5_offerSnapshot_51 rfl (lv_at hl 0 rfl) ?_
          refine lv_sipush (v := 840) hx hb dX5_offerSnapshot_52 (by decide) ?_
          refine lv_aload_n hx hb dX5_offerSnapshot_55 rfl (lv_at hl 0 rfl) ?_
          refine wg_r C hW (k := 73) (ci := 5) (j := 2) (q := 75) k73 rfl ⟨by decide, rfl⟩ inX5 (by decide) (rfq k73 rfl) hL13 (fun _ h9 => h9) dX5_offerSnapshot_56 ?_
          refine lv_bipush (v := 7) hx hb dX5_offerSnapshot_59 (by decide) ?_
          refine wa_l C hW (k := 75) k75 (by decide) dX5_offerSnapshot_61 (v := (q5.2 75 7)) (congrArg (q5.2 75) (by decide)) ?_
          refine lv_iconst (v := 0) hx hb dX5_offerSnapshot_62 (by decide) ?_
          obtain ⟨q6, hq6, h⟩ := ob h
          refine wc_Vi C hW (k := 73) (As := [.int 840, .int (q5.2 75 7), .int 0]) (rest := []) (c_X5_mixOf G 840 (q5.2 75 7) 0 q5.2 q6 hq6) k73 rfl (by decide) (cwV 3 hts gX5_offerSnapshot_X5_mixOf rfl rfl rfl yd_X5_mixOf ⟨Nat.le_of_ble_eq_true rfl, Nat.le_of_ble_eq_true rfl⟩) rfl hl.1 rfl (Nat.le_of_ble_eq_true rfl) dX5_offerSnapshot_63 ⟨Nat.le_refl 0, Nat.le_refl 0⟩ (fun H locs hW => ?_)
          refine lv_aload_n hx hb dX5_offerSnapshot_66 rfl (lv_at hl 0 rfl) ?_
          refine lv_bipush (v := 125) hx hb dX5_offerSnapshot_67 (by decide) ?_
          obtain ⟨q7, hq7, h⟩ := ob h
          refine wc_Vi C hW (k := 73) (As := [.int 125]) (rest := [.int q6.1]) (c_X5_four G 125 q6.2 q7 hq7) k73 rfl (by decide) (cwV 1 hts gX5_offerSnapshot_X5_four rfl rfl rfl yd_X5_four ⟨Nat.le_of_ble_eq_true rfl, Nat.le_of_ble_eq_true rfl⟩) rfl hl.1 rfl (Nat.le_of_ble_eq_true rfl) dX5_offerSnapshot_69 ⟨Nat.le_refl 0, Nat.le_refl 0⟩ (fun H locs hW => ?_)
          refine lv_icmp_eq (tgt := 77) hx hb dX5_offerSnapshot_72 (by decide) (fun c5 => ?_) (fun c5 => ?_)
          · replace h := ift h c5
            refine lv_iconst (v := 3) hx hb dX5_offerSnapshot_77 (by decide) ?_
            refine lv_istore_n (lv' := [(1, .int 3), (0, .ref (ga G 73))]) hx hb dX5_offerSnapshot_78 rfl hl (by decide) rfl (fun ls hl => ?_)
            exact L_X5_offerSnapshot_79 C hr 200 3 q7.2 y _ _ ls h hW (lv_sub hl [1, 0] rfl)
          · replace h := iff_ h c5
            refine lv_iconst (v := 4) hx hb dX5_offerSnapshot_75 (by decide) ?_
            exact wr_i C hr hW h dX5_offerSnapshot_76
      · replace h := ift h c3
        refine lv_iconst (v := 3) hx hb dX5_offerSnapshot_33 (by decide) ?_
        exact wr_i C hr hW h dX5_offerSnapshot_34
    · replace h := ift h c2
      refine lv_iconst (v := 2) hx hb dX5_offerSnapshot_16 (by decide) ?_
      exact wr_i C hr hW h dX5_offerSnapshot_17
theorem yd_X5_offerTargets : yX5_offerTargets.cls = RX5 ∧ yX5_offerTargets.cls ≠ "java/lang/invoke/MethodHandle" ∧ yX5_offerTargets.cls ≠ "java/lang/invoke/VarHandle" ∧ (parseMethodDescriptor yX5_offerTargets.desc).map (fun d => d.parameters.length) = some 1 := by decide +kernel
set_option maxHeartbeats 4000000 in
set_option maxRecDepth 100000 in
theorem c_X5_offerTargets (G : GG) (a1 : Int32) (M : Me) (y : Int32 × Me) (h : f_X5_offerTargets a1 M = some y) : CI G yX5_offerTargets wsX5_offerTargets (rmd 8 0 0) [.ref (ga G 73), .int a1] M y := by
  rw [f_X5_offerTargets] at h
  refine co_o (by decide) rfl rfl (Nat.le_of_ble_eq_true rfl) (fun p e s m below meth c ls C hr hW hl => ?_)
  have hx := C.1
  have hb := C.2.1
  have hown := C.2.2.2.1
  have hts := C.2.2.2.2.1
  have hl : lv_has ls 2 [(0, .ref (ga G 73)), (1, .int a1)] := hl
  refine lv_aload_n hx hb dX5_offerTargets_0 rfl (lv_at hl 0 rfl) ?_
  refine lv_iconst (v := 0) hx hb dX5_offerTargets_1 (by decide) ?_
  obtain ⟨q1, hq1, h⟩ := ob h
  refine wc_Vi C hW (k := 73) (As := [.int 0]) (rest := []) (c_X5_stands G 0 M q1 hq1) k73 rfl (by decide) (cwV 1 hts gX5_offerTargets_X5_stands rfl rfl rfl yd_X5_stands ⟨Nat.le_of_ble_eq_true rfl, Nat.le_of_ble_eq_true rfl⟩) rfl hl.1 rfl (Nat.le_of_ble_eq_true rfl) dX5_offerTargets_2 ⟨Nat.le_refl 0, Nat.le_refl 0⟩ (fun H locs hW => ?_)
  refine lv_if_eq (tgt := 25) hx hb dX5_offerTargets_5 (by decide) (fun c1 => ?_) (fun c1 => ?_)
  · replace h := ift h c1
    refine lv_iconst (v := 2) hx hb dX5_offerTargets_25 (by decide) ?_
    exact wr_i C hr hW h dX5_offerTargets_26
  · replace h := iff_ h c1
    refine lv_aload_n hx hb dX5_offerTargets_8 rfl (lv_at hl 0 rfl) ?_
    refine lv_iconst (v := 2) hx hb dX5_offerTargets_9 (by decide) ?_
    obtain ⟨q2, hq2, h⟩ := ob h
    refine wc_Vi C hW (k := 73) (As := [.int 2]) (rest := []) (c_X5_stands G 2 q1.2 q2 hq2) k73 rfl (by decide) (cwV 1 hts gX5_offerTargets_X5_stands rfl rfl rfl yd_X5_stands ⟨Nat.le_of_ble_eq_true rfl, Nat.le_of_ble_eq_true rfl⟩) rfl hl.1 rfl (Nat.le_of_ble_eq_true rfl) dX5_offerTargets_10 ⟨Nat.le_refl 0, Nat.le_refl 0⟩ (fun H locs hW => ?_)
    refine lv_if_eq (tgt := 25) hx hb dX5_offerTargets_13 (by decide) (fun c2 => ?_) (fun c2 => ?_)
    · replace h := ift h c2
      refine lv_iconst (v := 2) hx hb dX5_offerTargets_25 (by decide) ?_
      exact wr_i C hr hW h dX5_offerTargets_26
    · replace h := iff_ h c2
      refine lv_aload_n hx hb dX5_offerTargets_16 rfl (lv_at hl 0 rfl) ?_
      refine lv_iconst (v := 2) hx hb dX5_offerTargets_17 (by decide) ?_
      refine lv_iload_n hx hb dX5_offerTargets_18 rfl (lv_at hl 1 rfl) ?_
      obtain ⟨q3, hq3, h⟩ := ob h
      refine wc_Vi C hW (k := 73) (As := [.int 2, .int a1]) (rest := []) (c_X5_said G 2 a1 q2.2 q3 hq3) k73 rfl (by decide) (cwV 2 hts gX5_offerTargets_X5_said rfl rfl rfl yd_X5_said ⟨Nat.le_of_ble_eq_true rfl, Nat.le_of_ble_eq_true rfl⟩) rfl hl.1 rfl (Nat.le_of_ble_eq_true rfl) dX5_offerTargets_19 ⟨Nat.le_refl 0, Nat.le_refl 0⟩ (fun H locs hW => ?_)
      refine lv_if_ne (tgt := 27) hx hb dX5_offerTargets_22 (by decide) (fun c3 => ?_) (fun c3 => ?_)
      · replace h := iff_ h c3
        refine lv_iload_n hx hb dX5_offerTargets_27 rfl (lv_at hl 1 rfl) ?_
        refine lv_iconst (v := 3) hx hb dX5_offerTargets_28 (by decide) ?_
        refine lv_icmp_ne (tgt := 49) hx hb dX5_offerTargets_29 (by decide) (fun c4 => ?_) (fun c4 => ?_)
        · replace h := iff_ h c4
          refine lv_aload_n hx hb dX5_offerTargets_49 rfl (lv_at hl 0 rfl) ?_
          refine lv_bipush (v := 7) hx hb dX5_offerTargets_50 (by decide) ?_
          obtain ⟨q4, hq4, h⟩ := ob h
          refine wc_Vi C hW (k := 73) (As := [.int 7]) (rest := []) (c_X5_versionOf G 7 q3.2 q4 hq4) k73 rfl (by decide) (cwV 1 hts gX5_offerTargets_X5_versionOf rfl rfl rfl yd_X5_versionOf ⟨Nat.le_of_ble_eq_true rfl, Nat.le_of_ble_eq_true rfl⟩) rfl hl.1 rfl (Nat.le_of_ble_eq_true rfl) dX5_offerTargets_52 ⟨Nat.le_refl 0, Nat.le_refl 0⟩ (fun H locs hW => ?_)
          refine lv_aload_n hx hb dX5_offerTargets_55 rfl (lv_at hl 0 rfl) ?_
          refine lv_iconst (v := 2) hx hb dX5_offerTargets_56 (by decide) ?_
          refine lv_iload_n hx hb dX5_offerTargets_57 rfl (lv_at hl 1 rfl) ?_
          obtain ⟨q5, hq5, h⟩ := ob h
          refine wc_Vi C hW (k := 73) (As := [.int 2, .int a1]) (rest := [.int q4.1]) (c_X5_said G 2 a1 q4.2 q5 hq5) k73 rfl (by decide) (cwV 2 hts gX5_offerTargets_X5_said rfl rfl rfl yd_X5_said ⟨Nat.le_of_ble_eq_true rfl, Nat.le_of_ble_eq_true rfl⟩) rfl hl.1 rfl (Nat.le_of_ble_eq_true rfl) dX5_offerTargets_58 ⟨Nat.le_refl 0, Nat.le_refl 0⟩ (fun H locs hW => ?_)
          refine lv_icmp_eq (tgt := 68) hx hb dX5_offerTargets_61 (by decide) (fun c5 => ?_) (fun c5 => ?_)
          · replace h := ift h c5
            refine lv_aload_n hx hb dX5_offerTargets_68 rfl (lv_at hl 0 rfl) ?_
            refine lv_bipush (v := 7) hx hb dX5_offerTargets_69 (by decide) ?_
            obtain ⟨q6, hq6, h⟩ := ob h
            refine wc_Vi C hW (k := 73) (As := [.int 7]) (rest := []) (c_X5_isOver G 7 q5.2 q6 hq6) k73 rfl (by decide) (cwV 1 hts gX5_offerTargets_X5_isOver rfl rfl rfl yd_X5_isOver ⟨Nat.le_of_ble_eq_true rfl, Nat.le_of_ble_eq_true rfl⟩) rfl hl.1 rfl (Nat.le_of_ble_eq_true rfl) dX5_offerTargets_71 ⟨Nat.le_refl 0, Nat.le_refl 0⟩ (fun H locs hW => ?_)
            refine lv_if_eq (tgt := 81) hx hb dX5_offerTargets_74 (by decide) (fun c6 => ?_) (fun c6 => ?_)
            · replace h := ift h c6
              refine lv_iconst (v := 0) hx hb dX5_offerTargets_81 (by decide) ?_
              exact wr_i C hr hW h dX5_offerTargets_82
            · replace h := iff_ h c6
              refine lv_iconst (v := 5) hx hb dX5_offerTargets_77 (by decide) ?_
              refine lv_goto (tgt := 82) hx hb dX5_offerTargets_78 (by decide) ?_
              exact wr_i C hr hW h dX5_offerTargets_82
          · replace h := iff_ h c5
            refine lv_iconst (v := 4) hx hb dX5_offerTargets_64 (by decide) ?_
            refine lv_goto (tgt := 82) hx hb dX5_offerTargets_65 (by decide) ?_
            exact wr_i C hr hW h dX5_offerTargets_82
        · replace h := ift h c4
          refine lv_aload_n hx hb dX5_offerTargets_32 rfl (lv_at hl 0 rfl) ?_
          refine lv_bipush (v := 7) hx hb dX5_offerTargets_33 (by decide) ?_
          refine lv_aload_n hx hb dX5_offerTargets_35 rfl (lv_at hl 0 rfl) ?_
          refine lv_iconst (v := 0) hx hb dX5_offerTargets_36 (by decide) ?_
          refine lv_iconst (v := 3) hx hb dX5_offerTargets_37 (by decide) ?_
          obtain ⟨q7, hq7, h⟩ := ob h
          refine wc_Vi C hW (k := 73) (As := [.int 0, .int 3]) (rest := [.int 7, .ref (ga G 73)]) (c_X5_keysOf G 0 3 q3.2 q7 hq7) k73 rfl (by decide) (cwV 2 hts gX5_offerTargets_X5_keysOf rfl rfl rfl yd_X5_keysOf ⟨Nat.le_of_ble_eq_true rfl, Nat.le_of_ble_eq_true rfl⟩) rfl hl.1 rfl (Nat.le_of_ble_eq_true rfl) dX5_offerTargets_38 ⟨Nat.le_refl 0, Nat.le_refl 0⟩ (fun H locs hW => ?_)
          obtain ⟨q8, hq8, h⟩ := ob h
          refine wc_Vi C hW (k := 73) (As := [.int 7, .int q7.1]) (rest := []) (c_X5_isSigned G 7 q7.1 q7.2 q8 hq8) k73 rfl (by decide) (cwV 2 hts gX5_offerTargets_X5_isSigned rfl rfl rfl yd_X5_isSigned ⟨Nat.le_of_ble_eq_true rfl, Nat.le_of_ble_eq_true rfl⟩) rfl hl.1 rfl (Nat.le_of_ble_eq_true rfl) dX5_offerTargets_41 ⟨Nat.le_refl 0, Nat.le_refl 0⟩ (fun H locs hW => ?_)
          refine lv_if_ne (tgt := 49) hx hb dX5_offerTargets_44 (by decide) (fun c7 => ?_) (fun c7 => ?_)
          · replace h := iff_ h c7
            refine lv_aload_n hx hb dX5_offerTargets_49 rfl (lv_at hl 0 rfl) ?_
            refine lv_bipush (v := 7) hx hb dX5_offerTargets_50 (by decide) ?_
            obtain ⟨q9, hq9, h⟩ := ob h
            refine wc_Vi C hW (k := 73) (As := [.int 7]) (rest := []) (c_X5_versionOf G 7 q8.2 q9 hq9) k73 rfl (by decide) (cwV 1 hts gX5_offerTargets_X5_versionOf rfl rfl rfl yd_X5_versionOf ⟨Nat.le_of_ble_eq_true rfl, Nat.le_of_ble_eq_true rfl⟩) rfl hl.1 rfl (Nat.le_of_ble_eq_true rfl) dX5_offerTargets_52 ⟨Nat.le_refl 0, Nat.le_refl 0⟩ (fun H locs hW => ?_)
            refine lv_aload_n hx hb dX5_offerTargets_55 rfl (lv_at hl 0 rfl) ?_
            refine lv_iconst (v := 2) hx hb dX5_offerTargets_56 (by decide) ?_
            refine lv_iload_n hx hb dX5_offerTargets_57 rfl (lv_at hl 1 rfl) ?_
            obtain ⟨q10, hq10, h⟩ := ob h
            refine wc_Vi C hW (k := 73) (As := [.int 2, .int a1]) (rest := [.int q9.1]) (c_X5_said G 2 a1 q9.2 q10 hq10) k73 rfl (by decide) (cwV 2 hts gX5_offerTargets_X5_said rfl rfl rfl yd_X5_said ⟨Nat.le_of_ble_eq_true rfl, Nat.le_of_ble_eq_true rfl⟩) rfl hl.1 rfl (Nat.le_of_ble_eq_true rfl) dX5_offerTargets_58 ⟨Nat.le_refl 0, Nat.le_refl 0⟩ (fun H locs hW => ?_)
            refine lv_icmp_eq (tgt := 68) hx hb dX5_offerTargets_61 (by decide) (fun c8 => ?_) (fun c8 => ?_)
            · replace h := ift h c8
              refine lv_aload_n hx hb dX5_offerTargets_68 rfl (lv_at hl 0 rfl) ?_
              refine lv_bipush (v := 7) hx hb dX5_offerTargets_69 (by decide) ?_
              obtain ⟨q11, hq11, h⟩ := ob h
              refine wc_Vi C hW (k := 73) (As := [.int 7]) (rest := []) (c_X5_isOver G 7 q10.2 q11 hq11) k73 rfl (by decide) (cwV 1 hts gX5_offerTargets_X5_isOver rfl rfl rfl yd_X5_isOver ⟨Nat.le_of_ble_eq_true rfl, Nat.le_of_ble_eq_true rfl⟩) rfl hl.1 rfl (Nat.le_of_ble_eq_true rfl) dX5_offerTargets_71 ⟨Nat.le_refl 0, Nat.le_refl 0⟩ (fun H locs hW => ?_)
              refine lv_if_eq (tgt := 81) hx hb dX5_offerTargets_74 (by decide) (fun c9 => ?_) (fun c9 => ?_)
              · replace h := ift h c9
                refine lv_iconst (v := 0) hx hb dX5_offerTargets_81 (by decide) ?_
                exact wr_i C hr hW h dX5_offerTargets_82
              · replace h := iff_ h c9
                refine lv_iconst (v := 5) hx hb dX5_offerTargets_77 (by decide) ?_
                refine lv_goto (tgt := 82) hx hb dX5_offerTargets_78 (by decide) ?_
                exact wr_i C hr hW h dX5_offerTargets_82
            · replace h := iff_ h c8
              refine lv_iconst (v := 4) hx hb dX5_offerTargets_64 (by decide) ?_
              refine lv_goto (tgt := 82) hx hb dX5_offerTargets_65 (by decide) ?_
              exact wr_i C hr hW h dX5_offerTargets_82
          · replace h := ift h c7
            refine lv_iconst (v := 3) hx hb dX5_offerTargets_47 (by decide) ?_
            exact wr_i C hr hW h dX5_offerTargets_48
      · replace h := ift h c3
        refine lv_iconst (v := 2) hx hb dX5_offerTargets_25 (by decide) ?_
        exact wr_i C hr hW h dX5_offerTargets_26
theorem yd_X5_offer : yX5_offer.cls = RX5 ∧ yX5_offer.cls ≠ "java/lang/invoke/MethodHandle" ∧ yX5_offer.cls ≠ "java/lang/invoke/VarHandle" ∧ (parseMethodDescriptor yX5_offer.desc).map (fun d => d.parameters.length) = some 0 := by decide +kernel
set_option maxHeartbeats 4000000 in
set_option maxRecDepth 100000 in
theorem c_X5_offer (G : GG)  (M : Me) (y : Int32 × Me) (h : f_X5_offer  M = some y) : CI G yX5_offer wsX5_offer (rmd 9 0 0) [.ref (ga G 73)] M y := by
  rw [f_X5_offer] at h
  refine co_o (by decide) rfl rfl (Nat.le_of_ble_eq_true rfl) (fun p e s m below meth c ls C hr hW hl => ?_)
  have hx := C.1
  have hb := C.2.1
  have hown := C.2.2.2.1
  have hts := C.2.2.2.2.1
  have inX5 : ∀ w ∈ wsX50, w ∈ wsX5_offer := by decide +kernel
  have hL26 := hts (.fieldLink RX5 26 "TrustedUpdatesModel" "thrown" "I") (by decide +kernel)
  have hl : lv_has ls 2 [(0, .ref (ga G 73))] := hl
  refine lv_aload_n hx hb dX5_offer_0 rfl (lv_at hl 0 rfl) ?_
  refine lv_aload_n hx hb dX5_offer_1 rfl (lv_at hl 0 rfl) ?_
  refine lv_bipush (v := 7) hx hb dX5_offer_2 (by decide) ?_
  obtain ⟨q1, hq1, h⟩ := ob h
  refine wc_Vi C hW (k := 73) (As := [.int 7]) (rest := [.ref (ga G 73)]) (c_X5_isDocument G 7 M q1 hq1) k73 rfl (by decide) (cwV 1 hts gX5_offer_X5_isDocument rfl rfl rfl yd_X5_isDocument ⟨Nat.le_of_ble_eq_true rfl, Nat.le_of_ble_eq_true rfl⟩) rfl hl.1 rfl (Nat.le_of_ble_eq_true rfl) dX5_offer_4 ⟨Nat.le_refl 0, Nat.le_refl 0⟩ (fun H locs hW => ?_)
  refine lv_if_eq (tgt := 14) hx hb dX5_offer_7 (by decide) (fun c1 => ?_) (fun c1 => ?_)
  · replace h := ift h c1
    refine lv_iconst (v := 1) hx hb dX5_offer_14 (by decide) ?_
    refine wp_t C hW (k := 73) (ci := 5) (j := 0) (ty := .int) rfl rfl k73 rfl ⟨by decide, rfl⟩ inX5 tyX5 tyX5_ok nmX5 (by decide) (rfq k73 rfl) hL26 (fun _ h9 => h9) rfl rfl dX5_offer_15 (fun H locs hW => ?_)
    refine lv_aload_n hx hb dX5_offer_18 rfl (lv_at hl 0 rfl) ?_
    refine wg_i C hW (k := 73) (ci := 5) (j := 0) k73 rfl ⟨by decide, rfl⟩ inX5 (by decide) (rfq k73 rfl) (v := 1) up_s hL26 (fun _ h9 => h9) dX5_offer_19 ?_
    refine lv_if_le (tgt := 27) hx hb dX5_offer_22 (by decide) (fun c2 => absurd c2 (by decide)) (fun _ => ?_)
    refine lv_iconst (v := 0) hx hb dX5_offer_25 (by decide) ?_
    exact wr_i C hr hW h dX5_offer_26
  · replace h := iff_ h c1
    refine lv_iconst (v := 0) hx hb dX5_offer_10 (by decide) ?_
    refine lv_goto (tgt := 15) hx hb dX5_offer_11 (by decide) ?_
    refine wp_t C hW (k := 73) (ci := 5) (j := 0) (ty := .int) rfl rfl k73 rfl ⟨by decide, rfl⟩ inX5 tyX5 tyX5_ok nmX5 (by decide) (rfq k73 rfl) hL26 (fun _ h9 => h9) rfl rfl dX5_offer_15 (fun H locs hW => ?_)
    refine lv_aload_n hx hb dX5_offer_18 rfl (lv_at hl 0 rfl) ?_
    refine wg_i C hW (k := 73) (ci := 5) (j := 0) k73 rfl ⟨by decide, rfl⟩ inX5 (by decide) (rfq k73 rfl) (v := 0) up_s hL26 (fun _ h9 => h9) dX5_offer_19 ?_
    refine lv_if_le (tgt := 27) hx hb dX5_offer_22 (by decide) (fun _ => ?_) (fun c3 => absurd c3 (by decide))
    refine lv_aload_n hx hb dX5_offer_27 rfl (lv_at hl 0 rfl) ?_
    obtain ⟨q2, hq2, h⟩ := ob h
    refine wc_Vi C hW (k := 73) (As := []) (rest := []) (c_X5_roleOfDraft G  (up q1.2 73 0 0) q2 hq2) k73 rfl (by decide) (cwV 0 hts gX5_offer_X5_roleOfDraft rfl rfl rfl yd_X5_roleOfDraft ⟨Nat.le_of_ble_eq_true rfl, Nat.le_of_ble_eq_true rfl⟩) rfl hl.1 rfl (Nat.le_of_ble_eq_true rfl) dX5_offer_28 ⟨Nat.le_refl 0, Nat.le_refl 0⟩ (fun H locs hW => ?_)
    refine lv_istore_n (lv' := [(1, .int q2.1), (0, .ref (ga G 73))]) hx hb dX5_offer_31 rfl hl (by decide) rfl (fun ls hl => ?_)
    refine lv_aload_n hx hb dX5_offer_32 rfl (lv_at hl 1 rfl) ?_
    refine lv_iload_n hx hb dX5_offer_33 rfl (lv_at hl 0 rfl) ?_
    refine lv_if_ne (tgt := 44) hx hb dX5_offer_34 (by decide) (fun c4 => ?_) (fun c4 => ?_)
    · replace h := iff_ h c4
      refine lv_iload_n hx hb dX5_offer_44 rfl (lv_at hl 0 rfl) ?_
      refine lv_iconst (v := 1) hx hb dX5_offer_45 (by decide) ?_
      refine lv_icmp_ne (tgt := 56) hx hb dX5_offer_46 (by decide) (fun c5 => ?_) (fun c5 => ?_)
      · replace h := iff_ h c5
        refine lv_iload_n hx hb dX5_offer_56 rfl (lv_at hl 0 rfl) ?_
        refine lv_iconst (v := 2) hx hb dX5_offer_57 (by decide) ?_
        refine lv_icmp_ne (tgt := 68) hx hb dX5_offer_58 (by decide) (fun c6 => ?_) (fun c6 => ?_)
        · replace h := iff_ h c6
          refine lv_aload_n hx hb dX5_offer_68 rfl (lv_at hl 1 rfl) ?_
          refine lv_iload_n hx hb dX5_offer_69 rfl (lv_at hl 0 rfl) ?_
          obtain ⟨q3, hq3, h⟩ := ob h
          refine wc_Vi C hW (k := 73) (As := [.int q2.1]) (rest := [.ref (ga G 73)]) (c_X5_offerTargets G q2.1 q2.2 q3 hq3) k73 rfl (by decide) (cwV 1 hts gX5_offer_X5_offerTargets rfl rfl rfl yd_X5_offerTargets ⟨Nat.le_of_ble_eq_true rfl, Nat.le_of_ble_eq_true rfl⟩) rfl hl.1 rfl (Nat.le_of_ble_eq_true rfl) dX5_offer_70 ⟨Nat.le_refl 0, Nat.le_refl 0⟩ (fun H locs hW => ?_)
          refine wp_t C hW (k := 73) (ci := 5) (j := 0) (ty := .int) rfl rfl k73 rfl ⟨by decide, rfl⟩ inX5 tyX5 tyX5_ok nmX5 (by decide) (rfq k73 rfl) hL26 (fun _ h9 => h9) rfl rfl dX5_offer_73 (fun H locs hW => ?_)
          refine lv_aload_n hx hb dX5_offer_76 rfl (lv_at hl 1 rfl) ?_
          refine wg_i C hW (k := 73) (ci := 5) (j := 0) k73 rfl ⟨by decide, rfl⟩ inX5 (by decide) (rfq k73 rfl) (v := q3.1) up_s hL26 (fun _ h9 => h9) dX5_offer_77 ?_
          refine lv_if_le (tgt := 85) hx hb dX5_offer_80 (by decide) (fun c7 => ?_) (fun c7 => ?_)
          · replace h := ift h c7
            refine lv_aload_n hx hb dX5_offer_85 rfl (lv_at hl 1 rfl) ?_
            refine lv_iload_n hx hb dX5_offer_86 rfl (lv_at hl 0 rfl) ?_
            obtain ⟨q4, hq4, h⟩ := ob h
            refine wc_Vv C hW (k := 73) (As := [.int q2.1]) (rest := []) (c_X5_trust G q2.1 (up q3.2 73 0 q3.1) q4 hq4) k73 rfl (by decide) (cwV 1 hts gX5_offer_X5_trust rfl rfl rfl yd_X5_trust ⟨Nat.le_of_ble_eq_true rfl, Nat.le_of_ble_eq_true rfl⟩) rfl hl.1 rfl (Nat.le_of_ble_eq_true rfl) dX5_offer_87 ⟨Nat.le_refl 0, Nat.le_refl 0⟩ (fun H locs hW => ?_)
            refine lv_iload_n hx hb dX5_offer_90 rfl (lv_at hl 0 rfl) ?_
            exact wr_i C hr hW h dX5_offer_91
          · replace h := iff_ h c7
            refine lv_iconst (v := 0) hx hb dX5_offer_83 (by decide) ?_
            exact wr_i C hr hW h dX5_offer_84
        · replace h := ift h c6
          refine lv_aload_n hx hb dX5_offer_61 rfl (lv_at hl 1 rfl) ?_
          obtain ⟨q5, hq5, h⟩ := ob h
          refine wc_Vi C hW (k := 73) (As := []) (rest := [.ref (ga G 73)]) (c_X5_offerSnapshot G  q2.2 q5 hq5) k73 rfl (by decide) (cwV 0 hts gX5_offer_X5_offerSnapshot rfl rfl rfl yd_X5_offerSnapshot ⟨Nat.le_of_ble_eq_true rfl, Nat.le_of_ble_eq_true rfl⟩) rfl hl.1 rfl (Nat.le_of_ble_eq_true rfl) dX5_offer_62 ⟨Nat.le_refl 0, Nat.le_refl 0⟩ (fun H locs hW => ?_)
          refine lv_goto (tgt := 73) hx hb dX5_offer_65 (by decide) ?_
          refine wp_t C hW (k := 73) (ci := 5) (j := 0) (ty := .int) rfl rfl k73 rfl ⟨by decide, rfl⟩ inX5 tyX5 tyX5_ok nmX5 (by decide) (rfq k73 rfl) hL26 (fun _ h9 => h9) rfl rfl dX5_offer_73 (fun H locs hW => ?_)
          refine lv_aload_n hx hb dX5_offer_76 rfl (lv_at hl 1 rfl) ?_
          refine wg_i C hW (k := 73) (ci := 5) (j := 0) k73 rfl ⟨by decide, rfl⟩ inX5 (by decide) (rfq k73 rfl) (v := q5.1) up_s hL26 (fun _ h9 => h9) dX5_offer_77 ?_
          refine lv_if_le (tgt := 85) hx hb dX5_offer_80 (by decide) (fun c8 => ?_) (fun c8 => ?_)
          · replace h := ift h c8
            refine lv_aload_n hx hb dX5_offer_85 rfl (lv_at hl 1 rfl) ?_
            refine lv_iload_n hx hb dX5_offer_86 rfl (lv_at hl 0 rfl) ?_
            obtain ⟨q6, hq6, h⟩ := ob h
            refine wc_Vv C hW (k := 73) (As := [.int q2.1]) (rest := []) (c_X5_trust G q2.1 (up q5.2 73 0 q5.1) q6 hq6) k73 rfl (by decide) (cwV 1 hts gX5_offer_X5_trust rfl rfl rfl yd_X5_trust ⟨Nat.le_of_ble_eq_true rfl, Nat.le_of_ble_eq_true rfl⟩) rfl hl.1 rfl (Nat.le_of_ble_eq_true rfl) dX5_offer_87 ⟨Nat.le_refl 0, Nat.le_refl 0⟩ (fun H locs hW => ?_)
            refine lv_iload_n hx hb dX5_offer_90 rfl (lv_at hl 0 rfl) ?_
            exact wr_i C hr hW h dX5_offer_91
          · replace h := iff_ h c8
            refine lv_iconst (v := 0) hx hb dX5_offer_83 (by decide) ?_
            exact wr_i C hr hW h dX5_offer_84
      · replace h := ift h c5
        refine lv_aload_n hx hb dX5_offer_49 rfl (lv_at hl 1 rfl) ?_
        obtain ⟨q7, hq7, h⟩ := ob h
        refine wc_Vi C hW (k := 73) (As := []) (rest := [.ref (ga G 73)]) (c_X5_offerStamp G  q2.2 q7 hq7) k73 rfl (by decide) (cwV 0 hts gX5_offer_X5_offerStamp rfl rfl rfl yd_X5_offerStamp ⟨Nat.le_of_ble_eq_true rfl, Nat.le_of_ble_eq_true rfl⟩) rfl hl.1 rfl (Nat.le_of_ble_eq_true rfl) dX5_offer_50 ⟨Nat.le_refl 0, Nat.le_refl 0⟩ (fun H locs hW => ?_)
        refine lv_goto (tgt := 73) hx hb dX5_offer_53 (by decide) ?_
        refine wp_t C hW (k := 73) (ci := 5) (j := 0) (ty := .int) rfl rfl k73 rfl ⟨by decide, rfl⟩ inX5 tyX5 tyX5_ok nmX5 (by decide) (rfq k73 rfl) hL26 (fun _ h9 => h9) rfl rfl dX5_offer_73 (fun H locs hW => ?_)
        refine lv_aload_n hx hb dX5_offer_76 rfl (lv_at hl 1 rfl) ?_
        refine wg_i C hW (k := 73) (ci := 5) (j := 0) k73 rfl ⟨by decide, rfl⟩ inX5 (by decide) (rfq k73 rfl) (v := q7.1) up_s hL26 (fun _ h9 => h9) dX5_offer_77 ?_
        refine lv_if_le (tgt := 85) hx hb dX5_offer_80 (by decide) (fun c9 => ?_) (fun c9 => ?_)
        · replace h := ift h c9
          refine lv_aload_n hx hb dX5_offer_85 rfl (lv_at hl 1 rfl) ?_
          refine lv_iload_n hx hb dX5_offer_86 rfl (lv_at hl 0 rfl) ?_
          obtain ⟨q8, hq8, h⟩ := ob h
          refine wc_Vv C hW (k := 73) (As := [.int q2.1]) (rest := []) (c_X5_trust G q2.1 (up q7.2 73 0 q7.1) q8 hq8) k73 rfl (by decide) (cwV 1 hts gX5_offer_X5_trust rfl rfl rfl yd_X5_trust ⟨Nat.le_of_ble_eq_true rfl, Nat.le_of_ble_eq_true rfl⟩) rfl hl.1 rfl (Nat.le_of_ble_eq_true rfl) dX5_offer_87 ⟨Nat.le_refl 0, Nat.le_refl 0⟩ (fun H locs hW => ?_)
          refine lv_iload_n hx hb dX5_offer_90 rfl (lv_at hl 0 rfl) ?_
          exact wr_i C hr hW h dX5_offer_91
        · replace h := iff_ h c9
          refine lv_iconst (v := 0) hx hb dX5_offer_83 (by decide) ?_
          exact wr_i C hr hW h dX5_offer_84
    · replace h := ift h c4
      refine lv_aload_n hx hb dX5_offer_37 rfl (lv_at hl 1 rfl) ?_
      obtain ⟨q9, hq9, h⟩ := ob h
      refine wc_Vi C hW (k := 73) (As := []) (rest := [.ref (ga G 73)]) (c_X5_offerRoot G  q2.2 q9 hq9) k73 rfl (by decide) (cwV 0 hts gX5_offer_X5_offerRoot rfl rfl rfl yd_X5_offerRoot ⟨Nat.le_of_ble_eq_true rfl, Nat.le_of_ble_eq_true rfl⟩) rfl hl.1 rfl (Nat.le_of_ble_eq_true rfl) dX5_offer_38 ⟨Nat.le_refl 0, Nat.le_refl 0⟩ (fun H locs hW => ?_)
      refine lv_goto (tgt := 73) hx hb dX5_offer_41 (by decide) ?_
      refine wp_t C hW (k := 73) (ci := 5) (j := 0) (ty := .int) rfl rfl k73 rfl ⟨by decide, rfl⟩ inX5 tyX5 tyX5_ok nmX5 (by decide) (rfq k73 rfl) hL26 (fun _ h9 => h9) rfl rfl dX5_offer_73 (fun H locs hW => ?_)
      refine lv_aload_n hx hb dX5_offer_76 rfl (lv_at hl 1 rfl) ?_
      refine wg_i C hW (k := 73) (ci := 5) (j := 0) k73 rfl ⟨by decide, rfl⟩ inX5 (by decide) (rfq k73 rfl) (v := q9.1) up_s hL26 (fun _ h9 => h9) dX5_offer_77 ?_
      refine lv_if_le (tgt := 85) hx hb dX5_offer_80 (by decide) (fun c10 => ?_) (fun c10 => ?_)
      · replace h := ift h c10
        refine lv_aload_n hx hb dX5_offer_85 rfl (lv_at hl 1 rfl) ?_
        refine lv_iload_n hx hb dX5_offer_86 rfl (lv_at hl 0 rfl) ?_
        obtain ⟨q10, hq10, h⟩ := ob h
        refine wc_Vv C hW (k := 73) (As := [.int q2.1]) (rest := []) (c_X5_trust G q2.1 (up q9.2 73 0 q9.1) q10 hq10) k73 rfl (by decide) (cwV 1 hts gX5_offer_X5_trust rfl rfl rfl yd_X5_trust ⟨Nat.le_of_ble_eq_true rfl, Nat.le_of_ble_eq_true rfl⟩) rfl hl.1 rfl (Nat.le_of_ble_eq_true rfl) dX5_offer_87 ⟨Nat.le_refl 0, Nat.le_refl 0⟩ (fun H locs hW => ?_)
        refine lv_iload_n hx hb dX5_offer_90 rfl (lv_at hl 0 rfl) ?_
        exact wr_i C hr hW h dX5_offer_91
      · replace h := iff_ h c10
        refine lv_iconst (v := 0) hx hb dX5_offer_83 (by decide) ?_
        exact wr_i C hr hW h dX5_offer_84
theorem yd_X5_trusted : yX5_trusted.cls = RX5 ∧ yX5_trusted.cls ≠ "java/lang/invoke/MethodHandle" ∧ yX5_trusted.cls ≠ "java/lang/invoke/VarHandle" ∧ (parseMethodDescriptor yX5_trusted.desc).map (fun d => d.parameters.length) = some 2 := by decide +kernel
set_option maxHeartbeats 4000000 in
set_option maxRecDepth 100000 in
theorem c_X5_trusted (G : GG) (a1 : Int32) (a2 : Int32) (M : Me) (y : Int32 × Me) (h : f_X5_trusted a1 a2 M = some y) : CI G yX5_trusted wsX5_trusted (rmd 1 0 0) [.ref (ga G 73), .int a1, .int a2] M y := by
  rw [f_X5_trusted] at h
  refine co_o (by decide) rfl rfl (Nat.le_of_ble_eq_true rfl) (fun p e s m below meth c ls C hr hW hl => ?_)
  have hx := C.1
  have hb := C.2.1
  have hown := C.2.2.2.1
  have hts := C.2.2.2.2.1
  have inX5 : ∀ w ∈ wsX50, w ∈ wsX5_trusted := by decide +kernel
  have hL16 := hts (.fieldLink RX5 16 "TrustedUpdatesModel" "has" "[Z") (by decide +kernel)
  have hL26 := hts (.fieldLink RX5 26 "TrustedUpdatesModel" "thrown" "I") (by decide +kernel)
  have hl : lv_has ls 3 [(0, .ref (ga G 73)), (1, .int a1), (2, .int a2)] := hl
  refine lv_aload_n hx hb dX5_trusted_0 rfl (lv_at hl 0 rfl) ?_
  refine lv_iload_n hx hb dX5_trusted_1 rfl (lv_at hl 1 rfl) ?_
  refine lv_if_lt (tgt := 11) hx hb dX5_trusted_2 (by decide) (fun c1 => ?_) (fun c1 => ?_)
  · replace h := ift h c1
    refine lv_iconst (v := 1) hx hb dX5_trusted_11 (by decide) ?_
    refine lv_goto (tgt := 16) hx hb dX5_trusted_12 (by decide) ?_
    refine wp_t C hW (k := 73) (ci := 5) (j := 0) (ty := .int) rfl rfl k73 rfl ⟨by decide, rfl⟩ inX5 tyX5 tyX5_ok nmX5 (by decide) (rfq k73 rfl) hL26 (fun _ h9 => h9) rfl rfl dX5_trusted_16 (fun H locs hW => ?_)
    refine lv_aload_n hx hb dX5_trusted_19 rfl (lv_at hl 0 rfl) ?_
    refine wg_i C hW (k := 73) (ci := 5) (j := 0) k73 rfl ⟨by decide, rfl⟩ inX5 (by decide) (rfq k73 rfl) (v := 1) up_s hL26 (fun _ h9 => h9) dX5_trusted_20 ?_
    refine lv_if_le (tgt := 30) hx hb dX5_trusted_23 (by decide) (fun c2 => absurd c2 (by decide)) (fun _ => ?_)
    refine lv_iconst (v := 0) hx hb dX5_trusted_26 (by decide) ?_
    refine lv_goto (tgt := 60) hx hb dX5_trusted_27 (by decide) ?_
    exact wr_i C hr hW h dX5_trusted_60
  · replace h := iff_ h c1
    refine lv_iload_n hx hb dX5_trusted_5 rfl (lv_at hl 1 rfl) ?_
    refine lv_bipush (v := 6) hx hb dX5_trusted_6 (by decide) ?_
    refine lv_icmp_le (tgt := 15) hx hb dX5_trusted_8 (by decide) (fun c3 => ?_) (fun c3 => ?_)
    · replace h := ift h c3
      refine lv_iconst (v := 0) hx hb dX5_trusted_15 (by decide) ?_
      refine wp_t C hW (k := 73) (ci := 5) (j := 0) (ty := .int) rfl rfl k73 rfl ⟨by decide, rfl⟩ inX5 tyX5 tyX5_ok nmX5 (by decide) (rfq k73 rfl) hL26 (fun _ h9 => h9) rfl rfl dX5_trusted_16 (fun H locs hW => ?_)
      refine lv_aload_n hx hb dX5_trusted_19 rfl (lv_at hl 0 rfl) ?_
      refine wg_i C hW (k := 73) (ci := 5) (j := 0) k73 rfl ⟨by decide, rfl⟩ inX5 (by decide) (rfq k73 rfl) (v := 0) up_s hL26 (fun _ h9 => h9) dX5_trusted_20 ?_
      refine lv_if_le (tgt := 30) hx hb dX5_trusted_23 (by decide) (fun _ => ?_) (fun c4 => absurd c4 (by decide))
      refine lv_aload_n hx hb dX5_trusted_30 rfl (lv_at hl 0 rfl) ?_
      refine wg_r C hW (k := 73) (ci := 5) (j := 3) (q := 76) k73 rfl ⟨by decide, rfl⟩ inX5 (by decide) (rfq k73 rfl) hL16 (fun _ h9 => h9) dX5_trusted_31 ?_
      refine lv_iload_n hx hb dX5_trusted_34 rfl (lv_at hl 1 rfl) ?_
      obtain ⟨hg1, h⟩ := ifg h
      refine wz_l C hW (k := 76) k76 hg1 dX5_trusted_35 (v := (M 76 a1.toNatClampNeg)) (up_k (by decide)) ?_
      refine lv_if_ne (tgt := 43) hx hb dX5_trusted_36 (by decide) (fun c5 => ?_) (fun c5 => ?_)
      · replace h := iff_ h c5
        refine lv_iload_n hx hb dX5_trusted_43 rfl (lv_at hl 2 rfl) ?_
        refine lv_if_eq (tgt := 55) hx hb dX5_trusted_44 (by decide) (fun c6 => ?_) (fun c6 => ?_)
        · replace h := ift h c6
          refine lv_aload_n hx hb dX5_trusted_55 rfl (lv_at hl 0 rfl) ?_
          refine lv_iload_n hx hb dX5_trusted_56 rfl (lv_at hl 1 rfl) ?_
          obtain ⟨q1, hq1, h⟩ := ob h
          refine wc_Vi C hW (k := 73) (As := [.int a1]) (rest := []) (c_X5_versionOf G a1 (up M 73 0 0) q1 hq1) k73 rfl (by decide) (cwV 1 hts gX5_trusted_X5_versionOf rfl rfl rfl yd_X5_versionOf ⟨Nat.le_of_ble_eq_true rfl, Nat.le_of_ble_eq_true rfl⟩) rfl hl.1 rfl (Nat.le_of_ble_eq_true rfl) dX5_trusted_57 ⟨Nat.le_refl 0, Nat.le_refl 0⟩ (fun H locs hW => ?_)
          exact wr_i C hr hW h dX5_trusted_60
        · replace h := iff_ h c6
          refine lv_aload_n hx hb dX5_trusted_47 rfl (lv_at hl 0 rfl) ?_
          refine lv_iload_n hx hb dX5_trusted_48 rfl (lv_at hl 1 rfl) ?_
          obtain ⟨q2, hq2, h⟩ := ob h
          refine wc_Vi C hW (k := 73) (As := [.int a1]) (rest := []) (c_X5_endOf G a1 (up M 73 0 0) q2 hq2) k73 rfl (by decide) (cwV 1 hts gX5_trusted_X5_endOf rfl rfl rfl yd_X5_endOf ⟨Nat.le_of_ble_eq_true rfl, Nat.le_of_ble_eq_true rfl⟩) rfl hl.1 rfl (Nat.le_of_ble_eq_true rfl) dX5_trusted_49 ⟨Nat.le_refl 0, Nat.le_refl 0⟩ (fun H locs hW => ?_)
          refine lv_goto (tgt := 60) hx hb dX5_trusted_52 (by decide) ?_
          exact wr_i C hr hW h dX5_trusted_60
      · replace h := ift h c5
        refine lv_iconst (v := (-1)) hx hb dX5_trusted_39 (by decide) ?_
        refine lv_goto (tgt := 60) hx hb dX5_trusted_40 (by decide) ?_
        exact wr_i C hr hW h dX5_trusted_60
    · replace h := iff_ h c3
      refine lv_iconst (v := 1) hx hb dX5_trusted_11 (by decide) ?_
      refine lv_goto (tgt := 16) hx hb dX5_trusted_12 (by decide) ?_
      refine wp_t C hW (k := 73) (ci := 5) (j := 0) (ty := .int) rfl rfl k73 rfl ⟨by decide, rfl⟩ inX5 tyX5 tyX5_ok nmX5 (by decide) (rfq k73 rfl) hL26 (fun _ h9 => h9) rfl rfl dX5_trusted_16 (fun H locs hW => ?_)
      refine lv_aload_n hx hb dX5_trusted_19 rfl (lv_at hl 0 rfl) ?_
      refine wg_i C hW (k := 73) (ci := 5) (j := 0) k73 rfl ⟨by decide, rfl⟩ inX5 (by decide) (rfq k73 rfl) (v := 1) up_s hL26 (fun _ h9 => h9) dX5_trusted_20 ?_
      refine lv_if_le (tgt := 30) hx hb dX5_trusted_23 (by decide) (fun c7 => absurd c7 (by decide)) (fun _ => ?_)
      refine lv_iconst (v := 0) hx hb dX5_trusted_26 (by decide) ?_
      refine lv_goto (tgt := 60) hx hb dX5_trusted_27 (by decide) ?_
      exact wr_i C hr hW h dX5_trusted_60
theorem yd_X5_letter : yX5_letter.cls ≠ "java/lang/invoke/MethodHandle" ∧ yX5_letter.cls ≠ "java/lang/invoke/VarHandle" ∧ (parseMethodDescriptor yX5_letter.desc).map (fun d => d.parameters.length) = some 2 := by decide +kernel
set_option maxHeartbeats 4000000 in
set_option maxRecDepth 100000 in
theorem c_X5_letter (G : GG) (a1 : Int64) (a2 : Int32) (M : Me) (y : Int32 × Me) (h : f_X5_letter a1 a2 M = some y) : CI G yX5_letter wsX5_letter (rmd 0 0 0) [.long a1, .int a2] M y := by
  rw [f_X5_letter] at h
  refine co_o (by decide) rfl rfl (Nat.le_of_ble_eq_true rfl) (fun p e s m below meth c ls C hr hW hl => ?_)
  have hx := C.1
  have hb := C.2.1
  have hown := C.2.2.2.1
  have hts := C.2.2.2.2.1
  have hJ30 := hts (.constantLong RX5 30 (255)) (by decide +kernel)
  have hl : lv_has ls 3 [(0, .long a1), (2, .int a2)] := hl
  refine lv_lload_n hx hb dX5_letter_0 rfl (lv_at hl 0 rfl) ?_
  refine lv_bipush (v := 8) hx hb dX5_letter_1 (by decide) ?_
  refine lv_iload_n hx hb dX5_letter_3 rfl (lv_at hl 1 rfl) ?_
  refine lv_imul hx hb dX5_letter_4 ?_
  refine lv_lshr (v := (lshr_ a1 (8 * a2))) hx hb dX5_letter_5 rfl ?_
  refine lv_ldc2 (v := 255) hx hb hown hJ30 dX5_letter_6 ?_
  refine lv_land hx hb dX5_letter_9 ?_
  refine lv_l2i (v := (((lshr_ a1 (8 * a2)) &&& 255).toInt32)) hx hb dX5_letter_10 rfl ?_
  exact wr_i C hr hW h dX5_letter_11
theorem yd_X5_isName : yX5_isName.cls ≠ "java/lang/invoke/MethodHandle" ∧ yX5_isName.cls ≠ "java/lang/invoke/VarHandle" ∧ (parseMethodDescriptor yX5_isName.desc).map (fun d => d.parameters.length) = some 2 := by decide +kernel
set_option maxHeartbeats 4000000 in
set_option maxRecDepth 100000 in
theorem L_X5_isName_18 {G : GG} {p : Program} {e : Env} {s : State} {m : MethodId} {args : Array Value} {below : List Frame} {meth : Method} {c : Code} {Q : State → Prop} (C : Cx G wsX5_isName RX5 cX5_isName 5 p s m args meth c) : ∀ (n : Nat) (x0 : Int64) (x2 : Int32) (x3 : Int32) (x4 : Int32) (M : Me) (y : Int32 × Me) (H : Heap) (locs : List Loc) (ls : Array Slot), fL_X5_isName_18 n x0 x2 x3 x4 M = some y → wH G s M H locs → lv_has ls 5 [(0, .long x0), (2, .int x2), (3, .int x3), (4, .int x4)] → (∀ (H : Heap) (locs : List Loc) (ls : Array Slot), wH G s y.2 H locs → lv_has ls 5 [(3, .int y.1)] → W p (gl G) e (rmd 1 0 0) s m args below meth c H locs 0 0 Q (F0 m 62 ls [])) → W p (gl G) e (rmd 1 0 0) s m args below meth c H locs 0 0 Q (F0 m 18 ls []) := by
  have hx := C.1
  have hb := C.2.1
  have hown := C.2.2.2.1
  have hts := C.2.2.2.2.1
  intro n
  induction n with
  | zero => intro x0 x2 x3 x4 M y H locs ls h; exact nso h
  | succ n ih =>
    intro x0 x2 x3 x4 M y H locs ls h hW hl kx
    rw [fL_X5_isName_18] at h
    refine lv_iload hx hb dX5_isName_18 (lv_at hl 3 rfl) ?_
    refine lv_iload_n hx hb dX5_isName_20 rfl (lv_at hl 1 rfl) ?_
    refine lv_icmp_ge (tgt := 62) hx hb dX5_isName_21 (by decide) (fun c2 => ?_) (fun c2 => ?_)
    · replace h := ift h c2
      cases h
      exact kx _ _ ls hW (lv_sub hl [2] rfl)
    · replace h := iff_ h c2
      refine lv_iload_n hx hb dX5_isName_24 rfl (lv_at hl 2 rfl) ?_
      refine lv_if_eq (tgt := 62) hx hb dX5_isName_25 (by decide) (fun c3 => ?_) (fun c3 => ?_)
      · replace h := ift h c3
        cases h
        exact kx _ _ ls hW (lv_sub hl [2] rfl)
      · replace h := iff_ h c3
        refine lv_lload_n hx hb dX5_isName_28 rfl (lv_at hl 0 rfl) ?_
        refine lv_iload hx hb dX5_isName_29 (lv_at hl 3 rfl) ?_
        obtain ⟨q1, hq1, h⟩ := ob h
        refine wc_Si C hW (As := [.long x0, .int x4]) (rest := []) (c_X5_letter G x0 x4 M q1 hq1) (va_cwS 2 hts gX5_isName_X5_letter rfl rfl rfl yd_X5_letter ⟨Nat.le_of_ble_eq_true rfl, Nat.le_of_ble_eq_true rfl⟩) rfl hl.1 rfl (Nat.le_of_ble_eq_true rfl) dX5_isName_31 ⟨Nat.le_refl 0, Nat.le_refl 0⟩ (fun H locs hW => ?_)
        refine lv_bipush (v := 97) hx hb dX5_isName_34 (by decide) ?_
        refine lv_icmp_lt (tgt := 54) hx hb dX5_isName_36 (by decide) (fun c4 => ?_) (fun c4 => ?_)
        · replace h := ift h c4
          refine lv_iconst (v := 0) hx hb dX5_isName_54 (by decide) ?_
          refine lv_istore_n (lv' := [(3, .int 0), (0, .long x0), (2, .int x2), (4, .int x4)]) hx hb dX5_isName_55 rfl hl (by decide) rfl (fun ls hl => ?_)
          refine lv_iinc (v := (x4 + 1)) (lv' := [(4, .int (x4 + 1)), (3, .int 0), (0, .long x0), (2, .int x2)]) hx hb dX5_isName_56 hl (k := 3) rfl rfl (by decide) rfl (fun ls hl => ?_)
          refine lv_goto (tgt := 18) hx hb dX5_isName_59 (by decide) ?_
          exact ih x0 x2 0 (x4 + 1) q1.2 y _ _ ls h hW (lv_sub hl [2, 3, 1, 0] rfl) kx
        · replace h := iff_ h c4
          refine lv_lload_n hx hb dX5_isName_39 rfl (lv_at hl 0 rfl) ?_
          refine lv_iload hx hb dX5_isName_40 (lv_at hl 3 rfl) ?_
          obtain ⟨q2, hq2, h⟩ := ob h
          refine wc_Si C hW (As := [.long x0, .int x4]) (rest := []) (c_X5_letter G x0 x4 q1.2 q2 hq2) (va_cwS 2 hts gX5_isName_X5_letter rfl rfl rfl yd_X5_letter ⟨Nat.le_of_ble_eq_true rfl, Nat.le_of_ble_eq_true rfl⟩) rfl hl.1 rfl (Nat.le_of_ble_eq_true rfl) dX5_isName_42 ⟨Nat.le_refl 0, Nat.le_refl 0⟩ (fun H locs hW => ?_)
          refine lv_bipush (v := 122) hx hb dX5_isName_45 (by decide) ?_
          refine lv_icmp_gt (tgt := 54) hx hb dX5_isName_47 (by decide) (fun c5 => ?_) (fun c5 => ?_)
          · replace h := ift h c5
            refine lv_iconst (v := 0) hx hb dX5_isName_54 (by decide) ?_
            refine lv_istore_n (lv' := [(3, .int 0), (0, .long x0), (2, .int x2), (4, .int x4)]) hx hb dX5_isName_55 rfl hl (by decide) rfl (fun ls hl => ?_)
            refine lv_iinc (v := (x4 + 1)) (lv' := [(4, .int (x4 + 1)), (3, .int 0), (0, .long x0), (2, .int x2)]) hx hb dX5_isName_56 hl (k := 3) rfl rfl (by decide) rfl (fun ls hl => ?_)
            refine lv_goto (tgt := 18) hx hb dX5_isName_59 (by decide) ?_
            exact ih x0 x2 0 (x4 + 1) q2.2 y _ _ ls h hW (lv_sub hl [2, 3, 1, 0] rfl) kx
          · replace h := iff_ h c5
            refine lv_iconst (v := 1) hx hb dX5_isName_50 (by decide) ?_
            refine lv_goto (tgt := 55) hx hb dX5_isName_51 (by decide) ?_
            refine lv_istore_n (lv' := [(3, .int 1), (0, .long x0), (2, .int x2), (4, .int x4)]) hx hb dX5_isName_55 rfl hl (by decide) rfl (fun ls hl => ?_)
            refine lv_iinc (v := (x4 + 1)) (lv' := [(4, .int (x4 + 1)), (3, .int 1), (0, .long x0), (2, .int x2)]) hx hb dX5_isName_56 hl (k := 3) rfl rfl (by decide) rfl (fun ls hl => ?_)
            refine lv_goto (tgt := 18) hx hb dX5_isName_59 (by decide) ?_
            exact ih x0 x2 1 (x4 + 1) q2.2 y _ _ ls h hW (lv_sub hl [2, 3, 1, 0] rfl) kx
set_option maxHeartbeats 4000000 in
set_option maxRecDepth 100000 in
theorem c_X5_isName (G : GG) (a1 : Int64) (a2 : Int32) (M : Me) (y : Int32 × Me) (h : f_X5_isName a1 a2 M = some y) : CI G yX5_isName wsX5_isName (rmd 1 0 0) [.long a1, .int a2] M y := by
  rw [f_X5_isName] at h
  refine co_o (by decide) rfl rfl (Nat.le_of_ble_eq_true rfl) (fun p e s m below meth c ls C hr hW hl => ?_)
  have hx := C.1
  have hb := C.2.1
  have hown := C.2.2.2.1
  have hts := C.2.2.2.2.1
  have hl : lv_has ls 5 [(0, .long a1), (2, .int a2)] := hl
  refine lv_iload_n hx hb dX5_isName_0 rfl (lv_at hl 1 rfl) ?_
  refine lv_if_le (tgt := 13) hx hb dX5_isName_1 (by decide) (fun c1 => ?_) (fun c1 => ?_)
  · replace h := ift h c1
    refine lv_iconst (v := 0) hx hb dX5_isName_13 (by decide) ?_
    refine lv_istore_n (lv' := [(3, .int 0), (0, .long a1), (2, .int a2)]) hx hb dX5_isName_14 rfl hl (by decide) rfl (fun ls hl => ?_)
    refine lv_iconst (v := 0) hx hb dX5_isName_15 (by decide) ?_
    refine lv_istore (lv' := [(4, .int 0), (3, .int 0), (0, .long a1), (2, .int a2)]) hx hb dX5_isName_16 hl (by decide) rfl (fun ls hl => ?_)
    obtain ⟨q3, hq3, h⟩ := ob h
    refine L_X5_isName_18 C 200 a1 a2 0 0 M q3 _ _ ls hq3 hW (lv_sub hl [2, 3, 1, 0] rfl) (fun H locs ls hW hl => ?_)
    refine lv_iload_n hx hb dX5_isName_62 rfl (lv_at hl 0 rfl) ?_
    obtain ⟨hg1, h⟩ := ifg h
    exact wr_z C hr (bB_or hg1) hW h dX5_isName_63
  · replace h := iff_ h c1
    refine lv_iload_n hx hb dX5_isName_4 rfl (lv_at hl 1 rfl) ?_
    refine lv_iconst (v := 5) hx hb dX5_isName_5 (by decide) ?_
    refine lv_icmp_ge (tgt := 13) hx hb dX5_isName_6 (by decide) (fun c6 => ?_) (fun c6 => ?_)
    · replace h := ift h c6
      refine lv_iconst (v := 0) hx hb dX5_isName_13 (by decide) ?_
      refine lv_istore_n (lv' := [(3, .int 0), (0, .long a1), (2, .int a2)]) hx hb dX5_isName_14 rfl hl (by decide) rfl (fun ls hl => ?_)
      refine lv_iconst (v := 0) hx hb dX5_isName_15 (by decide) ?_
      refine lv_istore (lv' := [(4, .int 0), (3, .int 0), (0, .long a1), (2, .int a2)]) hx hb dX5_isName_16 hl (by decide) rfl (fun ls hl => ?_)
      obtain ⟨q4, hq4, h⟩ := ob h
      refine L_X5_isName_18 C 200 a1 a2 0 0 M q4 _ _ ls hq4 hW (lv_sub hl [2, 3, 1, 0] rfl) (fun H locs ls hW hl => ?_)
      refine lv_iload_n hx hb dX5_isName_62 rfl (lv_at hl 0 rfl) ?_
      obtain ⟨hg2, h⟩ := ifg h
      exact wr_z C hr (bB_or hg2) hW h dX5_isName_63
    · replace h := iff_ h c6
      refine lv_iconst (v := 1) hx hb dX5_isName_9 (by decide) ?_
      refine lv_goto (tgt := 14) hx hb dX5_isName_10 (by decide) ?_
      refine lv_istore_n (lv' := [(3, .int 1), (0, .long a1), (2, .int a2)]) hx hb dX5_isName_14 rfl hl (by decide) rfl (fun ls hl => ?_)
      refine lv_iconst (v := 0) hx hb dX5_isName_15 (by decide) ?_
      refine lv_istore (lv' := [(4, .int 0), (3, .int 1), (0, .long a1), (2, .int a2)]) hx hb dX5_isName_16 hl (by decide) rfl (fun ls hl => ?_)
      obtain ⟨q5, hq5, h⟩ := ob h
      refine L_X5_isName_18 C 200 a1 a2 1 0 M q5 _ _ ls hq5 hW (lv_sub hl [2, 3, 1, 0] rfl) (fun H locs ls hW hl => ?_)
      refine lv_iload_n hx hb dX5_isName_62 rfl (lv_at hl 0 rfl) ?_
      obtain ⟨hg3, h⟩ := ifg h
      exact wr_z C hr (bB_or hg3) hW h dX5_isName_63
theorem yd_X5_begins : yX5_begins.cls = RX5 ∧ yX5_begins.cls ≠ "java/lang/invoke/MethodHandle" ∧ yX5_begins.cls ≠ "java/lang/invoke/VarHandle" ∧ (parseMethodDescriptor yX5_begins.desc).map (fun d => d.parameters.length) = some 3 := by decide +kernel
set_option maxHeartbeats 4000000 in
set_option maxRecDepth 100000 in
theorem L_X5_begins_6 {G : GG} {p : Program} {e : Env} {s : State} {m : MethodId} {args : Array Value} {below : List Frame} {meth : Method} {c : Code} {Q : State → Prop} (C : Cx G wsX5_begins RX5 cX5_begins 7 p s m args meth c) : ∀ (n : Nat) (x1 : Int32) (x2 : Int32) (x3 : Int64) (x5 : Int32) (x6 : Int32) (M : Me) (y : Int32 × Me) (H : Heap) (locs : List Loc) (ls : Array Slot), fL_X5_begins_6 n x1 x2 x3 x5 x6 M = some y → wH G s M H locs → lv_has ls 7 [(0, .ref (ga G 73)), (1, .int x1), (2, .int x2), (3, .long x3), (5, .int x5), (6, .int x6)] → (∀ (H : Heap) (locs : List Loc) (ls : Array Slot), wH G s y.2 H locs → lv_has ls 7 [(5, .int y.1)] → W p (gl G) e (rmd 1 0 0) s m args below meth c H locs 0 0 Q (F0 m 48 ls [])) → W p (gl G) e (rmd 1 0 0) s m args below meth c H locs 0 0 Q (F0 m 6 ls []) := by
  have hx := C.1
  have hb := C.2.1
  have hown := C.2.2.2.1
  have hts := C.2.2.2.2.1
  have inX5 : ∀ w ∈ wsX50, w ∈ wsX5_begins := by decide +kernel
  have hL7 := hts (.fieldLink RX5 7 "TrustedUpdatesModel" "row" "[I") (by decide +kernel)
  intro n
  induction n with
  | zero => intro x1 x2 x3 x5 x6 M y H locs ls h; exact nso h
  | succ n ih =>
    intro x1 x2 x3 x5 x6 M y H locs ls h hW hl kx
    rw [fL_X5_begins_6] at h
    refine lv_iload hx hb dX5_begins_6 (lv_at hl 5 rfl) ?_
    refine lv_iload_n hx hb dX5_begins_8 rfl (lv_at hl 2 rfl) ?_
    refine lv_icmp_ge (tgt := 48) hx hb dX5_begins_9 (by decide) (fun c1 => ?_) (fun c1 => ?_)
    · replace h := ift h c1
      cases h
      exact kx _ _ ls hW (lv_sub hl [4] rfl)
    · replace h := iff_ h c1
      refine lv_iload hx hb dX5_begins_12 (lv_at hl 4 rfl) ?_
      refine lv_if_eq (tgt := 39) hx hb dX5_begins_14 (by decide) (fun c2 => ?_) (fun c2 => ?_)
      · replace h := ift h c2
        refine lv_iconst (v := 0) hx hb dX5_begins_39 (by decide) ?_
        refine lv_istore (lv' := [(5, .int 0), (0, .ref (ga G 73)), (1, .int x1), (2, .int x2), (3, .long x3), (6, .int x6)]) hx hb dX5_begins_40 hl (by decide) rfl (fun ls hl => ?_)
        refine lv_iinc (v := (x6 + 1)) (lv' := [(6, .int (x6 + 1)), (5, .int 0), (0, .ref (ga G 73)), (1, .int x1), (2, .int x2), (3, .long x3)]) hx hb dX5_begins_42 hl (k := 5) rfl rfl (by decide) rfl (fun ls hl => ?_)
        refine lv_goto (tgt := 6) hx hb dX5_begins_45 (by decide) ?_
        exact ih x1 x2 x3 0 (x6 + 1) M y _ _ ls h hW (lv_sub hl [2, 3, 4, 5, 1, 0] rfl) kx
      · replace h := iff_ h c2
        refine lv_aload_n hx hb dX5_begins_17 rfl (lv_at hl 0 rfl) ?_
        refine wg_r C hW (k := 73) (ci := 5) (j := 1) (q := 74) k73 rfl ⟨by decide, rfl⟩ inX5 (by decide) (rfq k73 rfl) hL7 (fun _ h9 => h9) dX5_begins_18 ?_
        refine lv_iload_n hx hb dX5_begins_21 rfl (lv_at hl 1 rfl) ?_
        refine lv_iload hx hb dX5_begins_22 (lv_at hl 5 rfl) ?_
        refine lv_iadd hx hb dX5_begins_24 ?_
        obtain ⟨hg1, h⟩ := ifg h
        refine wa_l C hW (k := 74) k74 hg1 dX5_begins_25 (v := (M 74 (x1 + x6).toNatClampNeg)) rfl ?_
        refine lv_lload_n hx hb dX5_begins_26 rfl (lv_at hl 3 rfl) ?_
        refine lv_iload hx hb dX5_begins_27 (lv_at hl 5 rfl) ?_
        obtain ⟨q1, hq1, h⟩ := ob h
        refine wc_Si C hW (As := [.long x3, .int x6]) (rest := [.int (M 74 (x1 + x6).toNatClampNeg)]) (c_X5_letter G x3 x6 M q1 hq1) (va_cwS 2 hts gX5_begins_X5_letter rfl rfl rfl yd_X5_letter ⟨Nat.le_of_ble_eq_true rfl, Nat.le_of_ble_eq_true rfl⟩) rfl hl.1 rfl (Nat.le_of_ble_eq_true rfl) dX5_begins_29 ⟨Nat.le_refl 0, Nat.le_refl 0⟩ (fun H locs hW => ?_)
        refine lv_icmp_ne (tgt := 39) hx hb dX5_begins_32 (by decide) (fun c3 => ?_) (fun c3 => ?_)
        · replace h := iff_ h c3
          refine lv_iconst (v := 0) hx hb dX5_begins_39 (by decide) ?_
          refine lv_istore (lv' := [(5, .int 0), (0, .ref (ga G 73)), (1, .int x1), (2, .int x2), (3, .long x3), (6, .int x6)]) hx hb dX5_begins_40 hl (by decide) rfl (fun ls hl => ?_)
          refine lv_iinc (v := (x6 + 1)) (lv' := [(6, .int (x6 + 1)), (5, .int 0), (0, .ref (ga G 73)), (1, .int x1), (2, .int x2), (3, .long x3)]) hx hb dX5_begins_42 hl (k := 5) rfl rfl (by decide) rfl (fun ls hl => ?_)
          refine lv_goto (tgt := 6) hx hb dX5_begins_45 (by decide) ?_
          exact ih x1 x2 x3 0 (x6 + 1) q1.2 y _ _ ls h hW (lv_sub hl [2, 3, 4, 5, 1, 0] rfl) kx
        · replace h := ift h c3
          refine lv_iconst (v := 1) hx hb dX5_begins_35 (by decide) ?_
          refine lv_goto (tgt := 40) hx hb dX5_begins_36 (by decide) ?_
          refine lv_istore (lv' := [(5, .int 1), (0, .ref (ga G 73)), (1, .int x1), (2, .int x2), (3, .long x3), (6, .int x6)]) hx hb dX5_begins_40 hl (by decide) rfl (fun ls hl => ?_)
          refine lv_iinc (v := (x6 + 1)) (lv' := [(6, .int (x6 + 1)), (5, .int 1), (0, .ref (ga G 73)), (1, .int x1), (2, .int x2), (3, .long x3)]) hx hb dX5_begins_42 hl (k := 5) rfl rfl (by decide) rfl (fun ls hl => ?_)
          refine lv_goto (tgt := 6) hx hb dX5_begins_45 (by decide) ?_
          exact ih x1 x2 x3 1 (x6 + 1) q1.2 y _ _ ls h hW (lv_sub hl [2, 3, 4, 5, 1, 0] rfl) kx
set_option maxHeartbeats 4000000 in
set_option maxRecDepth 100000 in
theorem c_X5_begins (G : GG) (a1 : Int32) (a2 : Int32) (a3 : Int64) (M : Me) (y : Int32 × Me) (h : f_X5_begins a1 a2 a3 M = some y) : CI G yX5_begins wsX5_begins (rmd 1 0 0) [.ref (ga G 73), .int a1, .int a2, .long a3] M y := by
  rw [f_X5_begins] at h
  refine co_o (by decide) rfl rfl (Nat.le_of_ble_eq_true rfl) (fun p e s m below meth c ls C hr hW hl => ?_)
  have hx := C.1
  have hb := C.2.1
  have hown := C.2.2.2.1
  have hts := C.2.2.2.2.1
  have hl : lv_has ls 7 [(0, .ref (ga G 73)), (1, .int a1), (2, .int a2), (3, .long a3)] := hl
  refine lv_iconst (v := 1) hx hb dX5_begins_0 (by decide) ?_
  refine lv_istore (lv' := [(5, .int 1), (0, .ref (ga G 73)), (1, .int a1), (2, .int a2), (3, .long a3)]) hx hb dX5_begins_1 hl (by decide) rfl (fun ls hl => ?_)
  refine lv_iconst (v := 0) hx hb dX5_begins_3 (by decide) ?_
  refine lv_istore (lv' := [(6, .int 0), (5, .int 1), (0, .ref (ga G 73)), (1, .int a1), (2, .int a2), (3, .long a3)]) hx hb dX5_begins_4 hl (by decide) rfl (fun ls hl => ?_)
  obtain ⟨q2, hq2, h⟩ := ob h
  refine L_X5_begins_6 C 200 a1 a2 a3 1 0 M q2 _ _ ls hq2 hW (lv_sub hl [2, 3, 4, 5, 1, 0] rfl) (fun H locs ls hW hl => ?_)
  refine lv_iload hx hb dX5_begins_48 (lv_at hl 0 rfl) ?_
  obtain ⟨hg2, h⟩ := ifg h
  exact wr_z C hr (bB_or hg2) hW h dX5_begins_50
theorem yd_X5_isFresh : yX5_isFresh.cls = RX5 ∧ yX5_isFresh.cls ≠ "java/lang/invoke/MethodHandle" ∧ yX5_isFresh.cls ≠ "java/lang/invoke/VarHandle" ∧ (parseMethodDescriptor yX5_isFresh.desc).map (fun d => d.parameters.length) = some 1 := by decide +kernel
set_option maxHeartbeats 4000000 in
set_option maxRecDepth 100000 in
theorem c_X5_isFresh (G : GG) (a1 : Int32) (M : Me) (y : Int32 × Me) (h : f_X5_isFresh a1 M = some y) : CI G yX5_isFresh wsX5_isFresh (rmd 3 0 0) [.ref (ga G 73), .int a1] M y := by
  rw [f_X5_isFresh] at h
  refine co_o (by decide) rfl rfl (Nat.le_of_ble_eq_true rfl) (fun p e s m below meth c ls C hr hW hl => ?_)
  have hx := C.1
  have hb := C.2.1
  have hown := C.2.2.2.1
  have hts := C.2.2.2.2.1
  have hl : lv_has ls 2 [(0, .ref (ga G 73)), (1, .int a1)] := hl
  refine lv_aload_n hx hb dX5_isFresh_0 rfl (lv_at hl 0 rfl) ?_
  refine lv_iload_n hx hb dX5_isFresh_1 rfl (lv_at hl 1 rfl) ?_
  obtain ⟨q1, hq1, h⟩ := ob h
  refine wc_Vi C hW (k := 73) (As := [.int a1]) (rest := []) (c_X5_stands G a1 M q1 hq1) k73 rfl (by decide) (cwV 1 hts gX5_isFresh_X5_stands rfl rfl rfl yd_X5_stands ⟨Nat.le_of_ble_eq_true rfl, Nat.le_of_ble_eq_true rfl⟩) rfl hl.1 rfl (Nat.le_of_ble_eq_true rfl) dX5_isFresh_2 ⟨Nat.le_refl 0, Nat.le_refl 0⟩ (fun H locs hW => ?_)
  refine lv_if_eq (tgt := 26) hx hb dX5_isFresh_5 (by decide) (fun c1 => ?_) (fun c1 => ?_)
  · replace h := ift h c1
    refine lv_iconst (v := 0) hx hb dX5_isFresh_26 (by decide) ?_
    exact wr_z C hr (Or.inl rfl) hW h dX5_isFresh_27
  · replace h := iff_ h c1
    refine lv_aload_n hx hb dX5_isFresh_8 rfl (lv_at hl 0 rfl) ?_
    refine lv_iload_n hx hb dX5_isFresh_9 rfl (lv_at hl 1 rfl) ?_
    obtain ⟨q2, hq2, h⟩ := ob h
    refine wc_Vi C hW (k := 73) (As := [.int a1]) (rest := []) (c_X5_versionOf G a1 q1.2 q2 hq2) k73 rfl (by decide) (cwV 1 hts gX5_isFresh_X5_versionOf rfl rfl rfl yd_X5_versionOf ⟨Nat.le_of_ble_eq_true rfl, Nat.le_of_ble_eq_true rfl⟩) rfl hl.1 rfl (Nat.le_of_ble_eq_true rfl) dX5_isFresh_10 ⟨Nat.le_refl 0, Nat.le_refl 0⟩ (fun H locs hW => ?_)
    refine lv_aload_n hx hb dX5_isFresh_13 rfl (lv_at hl 0 rfl) ?_
    refine lv_iconst (v := 2) hx hb dX5_isFresh_14 (by decide) ?_
    refine lv_iload_n hx hb dX5_isFresh_15 rfl (lv_at hl 1 rfl) ?_
    obtain ⟨q3, hq3, h⟩ := ob h
    refine wc_Vi C hW (k := 73) (As := [.int 2, .int a1]) (rest := [.int q2.1]) (c_X5_said G 2 a1 q2.2 q3 hq3) k73 rfl (by decide) (cwV 2 hts gX5_isFresh_X5_said rfl rfl rfl yd_X5_said ⟨Nat.le_of_ble_eq_true rfl, Nat.le_of_ble_eq_true rfl⟩) rfl hl.1 rfl (Nat.le_of_ble_eq_true rfl) dX5_isFresh_16 ⟨Nat.le_refl 0, Nat.le_refl 0⟩ (fun H locs hW => ?_)
    refine lv_icmp_ne (tgt := 26) hx hb dX5_isFresh_19 (by decide) (fun c2 => ?_) (fun c2 => ?_)
    · replace h := iff_ h c2
      refine lv_iconst (v := 0) hx hb dX5_isFresh_26 (by decide) ?_
      exact wr_z C hr (Or.inl rfl) hW h dX5_isFresh_27
    · replace h := ift h c2
      refine lv_iconst (v := 1) hx hb dX5_isFresh_22 (by decide) ?_
      refine lv_goto (tgt := 27) hx hb dX5_isFresh_23 (by decide) ?_
      exact wr_z C hr (Or.inr rfl) hW h dX5_isFresh_27
