theorem yd_X5_install : yX5_install.cls = RX5 ∧ yX5_install.cls ≠ "java/lang/invoke/MethodHandle" ∧ yX5_install.cls ≠ "java/lang/invoke/VarHandle" ∧ (parseMethodDescriptor yX5_install.desc).map (fun d => d.parameters.length) = some 2 := by decide +kernel
set_option maxHeartbeats 4000000 in
set_option maxRecDepth 100000 in
theorem c_X5_install (G : GG) (a1 : Int64) (a2 : Int32) (M : Me) (y : Int32 × Me) (h : f_X5_install a1 a2 M = some y) : CI G yX5_install wsX5_install (rmd 9 0 0) [.ref (ga G 73), .long a1, .int a2] M y := by
  rw [f_X5_install] at h
  refine co_o (by decide) rfl rfl (Nat.le_of_ble_eq_true rfl) (fun p e s m below meth c ls C hr hW hl => ?_)
  have hx := C.1
  have hb := C.2.1
  have hown := C.2.2.2.1
  have hts := C.2.2.2.2.1
  have inX5 : ∀ w ∈ wsX50, w ∈ wsX5_install := by decide +kernel
  have hL13 := hts (.fieldLink RX5 13 "TrustedUpdatesModel" "sizes" "[I") (by decide +kernel)
  have hL26 := hts (.fieldLink RX5 26 "TrustedUpdatesModel" "thrown" "I") (by decide +kernel)
  have hL162 := hts (.fieldLink RX5 162 "TrustedUpdatesModel" "foundLength" "I") (by decide +kernel)
  have hL165 := hts (.fieldLink RX5 165 "TrustedUpdatesModel" "foundDigest" "I") (by decide +kernel)
  have hL171 := hts (.fieldLink RX5 171 "TrustedUpdatesModel" "visited" "I") (by decide +kernel)
  have hL200 := hts (.fieldLink RX5 200 "TrustedUpdatesModel" "installed" "I") (by decide +kernel)
  have hl : lv_has ls 6 [(0, .ref (ga G 73)), (1, .long a1), (3, .int a2)] := hl
  refine lv_aload_n hx hb dX5_install_0 rfl (lv_at hl 0 rfl) ?_
  refine lv_aload_n hx hb dX5_install_1 rfl (lv_at hl 0 rfl) ?_
  refine lv_lload_n hx hb dX5_install_2 rfl (lv_at hl 1 rfl) ?_
  refine lv_iload_n hx hb dX5_install_3 rfl (lv_at hl 2 rfl) ?_
  obtain ⟨q1, hq1, h⟩ := ob h
  refine wc_Vi C hW (k := 73) (As := [.long a1, .int a2]) (rest := [.ref (ga G 73)]) (c_X5_wrongSeek G a1 a2 M q1 hq1) k73 rfl (by decide) (cwV 2 hts gX5_install_X5_wrongSeek rfl rfl rfl yd_X5_wrongSeek ⟨Nat.le_of_ble_eq_true rfl, Nat.le_of_ble_eq_true rfl⟩) rfl hl.1 rfl (Nat.le_of_ble_eq_true rfl) dX5_install_4 ⟨Nat.le_refl 0, Nat.le_refl 0⟩ (fun H locs hW => ?_)
  refine wp_t C hW (k := 73) (ci := 5) (j := 0) (ty := .int) rfl rfl k73 rfl ⟨by decide, rfl⟩ inX5 tyX5 tyX5_ok nmX5 (by decide) (rfq k73 rfl) hL26 (fun _ h9 => h9) rfl rfl dX5_install_7 (fun H locs hW => ?_)
  refine lv_aload_n hx hb dX5_install_10 rfl (lv_at hl 0 rfl) ?_
  refine wg_i C hW (k := 73) (ci := 5) (j := 0) k73 rfl ⟨by decide, rfl⟩ inX5 (by decide) (rfq k73 rfl) (v := q1.1) up_s hL26 (fun _ h9 => h9) dX5_install_11 ?_
  refine lv_if_le (tgt := 19) hx hb dX5_install_14 (by decide) (fun c1 => ?_) (fun c1 => ?_)
  · replace h := ift h c1
    refine lv_aload_n hx hb dX5_install_19 rfl (lv_at hl 0 rfl) ?_
    refine wg_i C hW (k := 73) (ci := 5) (j := 5) k73 rfl ⟨by decide, rfl⟩ inX5 (by decide) (rfq k73 rfl) (v := (q1.2 73 5)) (up_j (by decide)) hL171 (fun _ h9 => h9) dX5_install_20 ?_
    refine lv_istore (lv' := [(4, .int (q1.2 73 5)), (0, .ref (ga G 73)), (1, .long a1), (3, .int a2)]) hx hb dX5_install_23 hl (by decide) rfl (fun ls hl => ?_)
    refine lv_aload_n hx hb dX5_install_25 rfl (lv_at hl 1 rfl) ?_
    refine lv_lload_n hx hb dX5_install_26 rfl (lv_at hl 2 rfl) ?_
    refine lv_iload_n hx hb dX5_install_27 rfl (lv_at hl 3 rfl) ?_
    obtain ⟨q2, hq2, h⟩ := ob h
    refine wc_Vi C hW (k := 73) (As := [.long a1, .int a2]) (rest := []) (c_X5_find G a1 a2 (up q1.2 73 0 q1.1) q2 hq2) k73 rfl (by decide) (cwV 2 hts gX5_install_X5_find rfl rfl rfl yd_X5_find ⟨Nat.le_of_ble_eq_true rfl, Nat.le_of_ble_eq_true rfl⟩) rfl hl.1 rfl (Nat.le_of_ble_eq_true rfl) dX5_install_28 ⟨Nat.le_refl 0, Nat.le_refl 0⟩ (fun H locs hW => ?_)
    refine lv_istore (lv' := [(5, .int q2.1), (4, .int (q1.2 73 5)), (0, .ref (ga G 73)), (1, .long a1), (3, .int a2)]) hx hb dX5_install_31 hl (by decide) rfl (fun ls hl => ?_)
    refine lv_aload_n hx hb dX5_install_33 rfl (lv_at hl 2 rfl) ?_
    refine lv_iload hx hb dX5_install_34 (lv_at hl 0 rfl) ?_
    refine lv_if_ge (tgt := 43) hx hb dX5_install_36 (by decide) (fun c2 => ?_) (fun c2 => ?_)
    · replace h := ift h c2
      refine lv_aload_n hx hb dX5_install_43 rfl (lv_at hl 2 rfl) ?_
      refine wg_i C hW (k := 73) (ci := 5) (j := 12) k73 rfl ⟨by decide, rfl⟩ inX5 (by decide) (rfq k73 rfl) (v := (q2.2 73 12)) rfl hL162 (fun _ h9 => h9) dX5_install_44 ?_
      refine lv_aload_n hx hb dX5_install_47 rfl (lv_at hl 2 rfl) ?_
      refine wg_r C hW (k := 73) (ci := 5) (j := 2) (q := 75) k73 rfl ⟨by decide, rfl⟩ inX5 (by decide) (rfq k73 rfl) hL13 (fun _ h9 => h9) dX5_install_48 ?_
      refine lv_bipush (v := 8) hx hb dX5_install_51 (by decide) ?_
      refine wa_l C hW (k := 75) k75 (by decide) dX5_install_53 (v := (q2.2 75 8)) (congrArg (q2.2 75) (by decide)) ?_
      refine lv_icmp_ne (tgt := 79) hx hb dX5_install_54 (by decide) (fun c3 => ?_) (fun c3 => ?_)
      · replace h := iff_ h c3
        refine lv_iconst (v := 4) hx hb dX5_install_79 (by decide) ?_
        refine lv_goto (tgt := 84) hx hb dX5_install_80 (by decide) ?_
        refine wp_t C hW (k := 73) (ci := 5) (j := 0) (ty := .int) rfl rfl k73 rfl ⟨by decide, rfl⟩ inX5 tyX5 tyX5_ok nmX5 (by decide) (rfq k73 rfl) hL26 (fun _ h9 => h9) rfl rfl dX5_install_84 (fun H locs hW => ?_)
        refine lv_aload_n hx hb dX5_install_87 rfl (lv_at hl 2 rfl) ?_
        refine wg_i C hW (k := 73) (ci := 5) (j := 0) k73 rfl ⟨by decide, rfl⟩ inX5 (by decide) (rfq k73 rfl) (v := 4) up_s hL26 (fun _ h9 => h9) dX5_install_88 ?_
        refine lv_if_le (tgt := 102) hx hb dX5_install_91 (by decide) (fun c4 => absurd c4 (by decide)) (fun _ => ?_)
        refine lv_aload_n hx hb dX5_install_94 rfl (lv_at hl 2 rfl) ?_
        refine lv_iload hx hb dX5_install_95 (lv_at hl 1 rfl) ?_
        refine wp_t C hW (k := 73) (ci := 5) (j := 5) (ty := .int) rfl rfl k73 rfl ⟨by decide, rfl⟩ inX5 tyX5 tyX5_ok nmX5 (by decide) (rfq k73 rfl) hL171 (fun _ h9 => h9) rfl rfl dX5_install_97 (fun H locs hW => ?_)
        refine lv_iconst (v := 0) hx hb dX5_install_100 (by decide) ?_
        exact wr_i C hr hW h dX5_install_101
      · replace h := ift h c3
        refine lv_aload_n hx hb dX5_install_57 rfl (lv_at hl 2 rfl) ?_
        refine wg_i C hW (k := 73) (ci := 5) (j := 13) k73 rfl ⟨by decide, rfl⟩ inX5 (by decide) (rfq k73 rfl) (v := (q2.2 73 13)) rfl hL165 (fun _ h9 => h9) dX5_install_58 ?_
        refine lv_aload_n hx hb dX5_install_61 rfl (lv_at hl 2 rfl) ?_
        refine lv_sipush (v := 960) hx hb dX5_install_62 (by decide) ?_
        refine lv_aload_n hx hb dX5_install_65 rfl (lv_at hl 2 rfl) ?_
        refine wg_r C hW (k := 73) (ci := 5) (j := 2) (q := 75) k73 rfl ⟨by decide, rfl⟩ inX5 (by decide) (rfq k73 rfl) hL13 (fun _ h9 => h9) dX5_install_66 ?_
        refine lv_bipush (v := 8) hx hb dX5_install_69 (by decide) ?_
        refine wa_l C hW (k := 75) k75 (by decide) dX5_install_71 (v := (q2.2 75 8)) (congrArg (q2.2 75) (by decide)) ?_
        refine lv_iconst (v := 0) hx hb dX5_install_72 (by decide) ?_
        obtain ⟨q3, hq3, h⟩ := ob h
        refine wc_Vi C hW (k := 73) (As := [.int 960, .int (q2.2 75 8), .int 0]) (rest := [.int (q2.2 73 13), .ref (ga G 73)]) (c_X5_mixOf G 960 (q2.2 75 8) 0 q2.2 q3 hq3) k73 rfl (by decide) (cwV 3 hts gX5_install_X5_mixOf rfl rfl rfl yd_X5_mixOf ⟨Nat.le_of_ble_eq_true rfl, Nat.le_of_ble_eq_true rfl⟩) rfl hl.1 rfl (Nat.le_of_ble_eq_true rfl) dX5_install_73 ⟨Nat.le_refl 0, Nat.le_refl 0⟩ (fun H locs hW => ?_)
        refine lv_icmp_eq (tgt := 83) hx hb dX5_install_76 (by decide) (fun c5 => ?_) (fun c5 => ?_)
        · replace h := ift h c5
          refine lv_iconst (v := 0) hx hb dX5_install_83 (by decide) ?_
          refine wp_t C hW (k := 73) (ci := 5) (j := 0) (ty := .int) rfl rfl k73 rfl ⟨by decide, rfl⟩ inX5 tyX5 tyX5_ok nmX5 (by decide) (rfq k73 rfl) hL26 (fun _ h9 => h9) rfl rfl dX5_install_84 (fun H locs hW => ?_)
          refine lv_aload_n hx hb dX5_install_87 rfl (lv_at hl 2 rfl) ?_
          refine wg_i C hW (k := 73) (ci := 5) (j := 0) k73 rfl ⟨by decide, rfl⟩ inX5 (by decide) (rfq k73 rfl) (v := 0) up_s hL26 (fun _ h9 => h9) dX5_install_88 ?_
          refine lv_if_le (tgt := 102) hx hb dX5_install_91 (by decide) (fun _ => ?_) (fun c6 => absurd c6 (by decide))
          refine lv_aload_n hx hb dX5_install_102 rfl (lv_at hl 2 rfl) ?_
          refine lv_dup hx hb dX5_install_103 rfl ?_
          refine wg_i C hW (k := 73) (ci := 5) (j := 6) k73 rfl ⟨by decide, rfl⟩ inX5 (by decide) (rfq k73 rfl) (v := (q3.2 73 6)) (up_j (by decide)) hL200 (fun _ h9 => h9) dX5_install_104 ?_
          refine lv_iconst (v := 1) hx hb dX5_install_107 (by decide) ?_
          refine lv_iadd hx hb dX5_install_108 ?_
          refine wp_t C hW (k := 73) (ci := 5) (j := 6) (ty := .int) rfl rfl k73 rfl ⟨by decide, rfl⟩ inX5 tyX5 tyX5_ok nmX5 (by decide) (rfq k73 rfl) hL200 (fun _ h9 => h9) rfl rfl dX5_install_109 (fun H locs hW => ?_)
          refine lv_iload hx hb dX5_install_112 (lv_at hl 0 rfl) ?_
          exact wr_i C hr hW h dX5_install_114
        · replace h := iff_ h c5
          refine lv_iconst (v := 4) hx hb dX5_install_79 (by decide) ?_
          refine lv_goto (tgt := 84) hx hb dX5_install_80 (by decide) ?_
          refine wp_t C hW (k := 73) (ci := 5) (j := 0) (ty := .int) rfl rfl k73 rfl ⟨by decide, rfl⟩ inX5 tyX5 tyX5_ok nmX5 (by decide) (rfq k73 rfl) hL26 (fun _ h9 => h9) rfl rfl dX5_install_84 (fun H locs hW => ?_)
          refine lv_aload_n hx hb dX5_install_87 rfl (lv_at hl 2 rfl) ?_
          refine wg_i C hW (k := 73) (ci := 5) (j := 0) k73 rfl ⟨by decide, rfl⟩ inX5 (by decide) (rfq k73 rfl) (v := 4) up_s hL26 (fun _ h9 => h9) dX5_install_88 ?_
          refine lv_if_le (tgt := 102) hx hb dX5_install_91 (by decide) (fun c7 => absurd c7 (by decide)) (fun _ => ?_)
          refine lv_aload_n hx hb dX5_install_94 rfl (lv_at hl 2 rfl) ?_
          refine lv_iload hx hb dX5_install_95 (lv_at hl 1 rfl) ?_
          refine wp_t C hW (k := 73) (ci := 5) (j := 5) (ty := .int) rfl rfl k73 rfl ⟨by decide, rfl⟩ inX5 tyX5 tyX5_ok nmX5 (by decide) (rfq k73 rfl) hL171 (fun _ h9 => h9) rfl rfl dX5_install_97 (fun H locs hW => ?_)
          refine lv_iconst (v := 0) hx hb dX5_install_100 (by decide) ?_
          exact wr_i C hr hW h dX5_install_101
    · replace h := iff_ h c2
      refine lv_iconst (v := 3) hx hb dX5_install_39 (by decide) ?_
      refine lv_goto (tgt := 84) hx hb dX5_install_40 (by decide) ?_
      refine wp_t C hW (k := 73) (ci := 5) (j := 0) (ty := .int) rfl rfl k73 rfl ⟨by decide, rfl⟩ inX5 tyX5 tyX5_ok nmX5 (by decide) (rfq k73 rfl) hL26 (fun _ h9 => h9) rfl rfl dX5_install_84 (fun H locs hW => ?_)
      refine lv_aload_n hx hb dX5_install_87 rfl (lv_at hl 2 rfl) ?_
      refine wg_i C hW (k := 73) (ci := 5) (j := 0) k73 rfl ⟨by decide, rfl⟩ inX5 (by decide) (rfq k73 rfl) (v := 3) up_s hL26 (fun _ h9 => h9) dX5_install_88 ?_
      refine lv_if_le (tgt := 102) hx hb dX5_install_91 (by decide) (fun c8 => absurd c8 (by decide)) (fun _ => ?_)
      refine lv_aload_n hx hb dX5_install_94 rfl (lv_at hl 2 rfl) ?_
      refine lv_iload hx hb dX5_install_95 (lv_at hl 1 rfl) ?_
      refine wp_t C hW (k := 73) (ci := 5) (j := 5) (ty := .int) rfl rfl k73 rfl ⟨by decide, rfl⟩ inX5 tyX5 tyX5_ok nmX5 (by decide) (rfq k73 rfl) hL171 (fun _ h9 => h9) rfl rfl dX5_install_97 (fun H locs hW => ?_)
      refine lv_iconst (v := 0) hx hb dX5_install_100 (by decide) ?_
      exact wr_i C hr hW h dX5_install_101
  · replace h := iff_ h c1
    refine lv_iconst (v := 0) hx hb dX5_install_17 (by decide) ?_
    exact wr_i C hr hW h dX5_install_18
theorem yd_X5_installed : yX5_installed.cls = RX5 ∧ yX5_installed.cls ≠ "java/lang/invoke/MethodHandle" ∧ yX5_installed.cls ≠ "java/lang/invoke/VarHandle" ∧ (parseMethodDescriptor yX5_installed.desc).map (fun d => d.parameters.length) = some 0 := by decide +kernel
set_option maxHeartbeats 4000000 in
set_option maxRecDepth 100000 in
theorem c_X5_installed (G : GG)  (M : Me) (y : Int32 × Me) (h : f_X5_installed  M = some y) : CI G yX5_installed wsX5_installed (rmd 0 0 0) [.ref (ga G 73)] M y := by
  rw [f_X5_installed] at h
  refine co_o (by decide) rfl rfl (Nat.le_of_ble_eq_true rfl) (fun p e s m below meth c ls C hr hW hl => ?_)
  have hx := C.1
  have hb := C.2.1
  have hown := C.2.2.2.1
  have hts := C.2.2.2.2.1
  have inX5 : ∀ w ∈ wsX50, w ∈ wsX5_installed := by decide +kernel
  have hL26 := hts (.fieldLink RX5 26 "TrustedUpdatesModel" "thrown" "I") (by decide +kernel)
  have hL200 := hts (.fieldLink RX5 200 "TrustedUpdatesModel" "installed" "I") (by decide +kernel)
  have hl : lv_has ls 1 [(0, .ref (ga G 73))] := hl
  refine lv_aload_n hx hb dX5_installed_0 rfl (lv_at hl 0 rfl) ?_
  refine lv_iconst (v := 0) hx hb dX5_installed_1 (by decide) ?_
  refine wp_t C hW (k := 73) (ci := 5) (j := 0) (ty := .int) rfl rfl k73 rfl ⟨by decide, rfl⟩ inX5 tyX5 tyX5_ok nmX5 (by decide) (rfq k73 rfl) hL26 (fun _ h9 => h9) rfl rfl dX5_installed_2 (fun H locs hW => ?_)
  refine lv_aload_n hx hb dX5_installed_5 rfl (lv_at hl 0 rfl) ?_
  refine wg_i C hW (k := 73) (ci := 5) (j := 6) k73 rfl ⟨by decide, rfl⟩ inX5 (by decide) (rfq k73 rfl) (v := (M 73 6)) (up_j (by decide)) hL200 (fun _ h9 => h9) dX5_installed_6 ?_
  exact wr_i C hr hW h dX5_installed_9
