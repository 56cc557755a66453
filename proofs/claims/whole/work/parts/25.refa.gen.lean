theorem yd_X5_thrown : yX5_thrown.cls = RX5 ∧ yX5_thrown.cls ≠ "java/lang/invoke/MethodHandle" ∧ yX5_thrown.cls ≠ "java/lang/invoke/VarHandle" ∧ (parseMethodDescriptor yX5_thrown.desc).map (fun d => d.parameters.length) = some 0 := by decide +kernel
set_option maxHeartbeats 4000000 in
set_option maxRecDepth 100000 in
theorem c_X5_thrown (G : GG)  (M : Me) (y : Int32 × Me) (h : f_X5_thrown  M = some y) : CI G yX5_thrown wsX5_thrown (rmd 0 0 0) [.ref (ga G 73)] M y := by
  rw [f_X5_thrown] at h
  refine co_o (by decide) rfl rfl (Nat.le_of_ble_eq_true rfl) (fun p e s m below meth c ls C hr hW hl => ?_)
  have hx := C.1
  have hb := C.2.1
  have hown := C.2.2.2.1
  have hts := C.2.2.2.2.1
  have inX5 : ∀ w ∈ wsX50, w ∈ wsX5_thrown := by decide +kernel
  have hL26 := hts (.fieldLink RX5 26 "TrustedUpdatesModel" "thrown" "I") (by decide +kernel)
  have hl : lv_has ls 1 [(0, .ref (ga G 73))] := hl
  refine lv_aload_n hx hb dX5_thrown_0 rfl (lv_at hl 0 rfl) ?_
  refine wg_i C hW (k := 73) (ci := 5) (j := 0) k73 rfl ⟨by decide, rfl⟩ inX5 (by decide) (rfq k73 rfl) (v := (M 73 0)) rfl hL26 (fun _ h9 => h9) dX5_thrown_1 ?_
  exact wr_i C hr hW h dX5_thrown_4
theorem yd_X5_fail : yX5_fail.cls = RX5 ∧ yX5_fail.cls ≠ "java/lang/invoke/MethodHandle" ∧ yX5_fail.cls ≠ "java/lang/invoke/VarHandle" ∧ (parseMethodDescriptor yX5_fail.desc).map (fun d => d.parameters.length) = some 1 := by decide +kernel
set_option maxHeartbeats 4000000 in
set_option maxRecDepth 100000 in
theorem c_X5_fail (G : GG) (a1 : Int32) (M : Me) (y : Int32 × Me) (h : f_X5_fail a1 M = some y) : CI G yX5_fail wsX5_fail (rmd 0 0 0) [.ref (ga G 73), .int a1] M y := by
  rw [f_X5_fail] at h
  refine co_o (by decide) rfl rfl (Nat.le_of_ble_eq_true rfl) (fun p e s m below meth c ls C hr hW hl => ?_)
  have hx := C.1
  have hb := C.2.1
  have hown := C.2.2.2.1
  have hts := C.2.2.2.2.1
  have inX5 : ∀ w ∈ wsX50, w ∈ wsX5_fail := by decide +kernel
  have hL26 := hts (.fieldLink RX5 26 "TrustedUpdatesModel" "thrown" "I") (by decide +kernel)
  have hl : lv_has ls 2 [(0, .ref (ga G 73)), (1, .int a1)] := hl
  refine lv_aload_n hx hb dX5_fail_0 rfl (lv_at hl 0 rfl) ?_
  refine lv_iload_n hx hb dX5_fail_1 rfl (lv_at hl 1 rfl) ?_
  refine wp_t C hW (k := 73) (ci := 5) (j := 0) (ty := .int) rfl rfl k73 rfl ⟨by decide, rfl⟩ inX5 tyX5 tyX5_ok nmX5 (by decide) (rfq k73 rfl) hL26 (fun _ h9 => h9) rfl rfl dX5_fail_2 (fun H locs hW => ?_)
  refine lv_iconst (v := 0) hx hb dX5_fail_5 (by decide) ?_
  exact wr_i C hr hW h dX5_fail_6
theorem yd_X5_add : yX5_add.cls = RX5 ∧ yX5_add.cls ≠ "java/lang/invoke/MethodHandle" ∧ yX5_add.cls ≠ "java/lang/invoke/VarHandle" ∧ (parseMethodDescriptor yX5_add.desc).map (fun d => d.parameters.length) = some 1 := by decide +kernel
set_option maxHeartbeats 4000000 in
set_option maxRecDepth 100000 in
theorem c_X5_add (G : GG) (a1 : Int32) (M : Me) (y : Int32 × Me) (h : f_X5_add a1 M = some y) : CV G yX5_add wsX5_add (rmd 0 0 0) [.ref (ga G 73), .int a1] M y := by
  rw [f_X5_add] at h
  refine co_o (by decide) rfl rfl (Nat.le_of_ble_eq_true rfl) (fun p e s m below meth c ls C hr hW hl => ?_)
  have hx := C.1
  have hb := C.2.1
  have hown := C.2.2.2.1
  have hts := C.2.2.2.2.1
  have inX5 : ∀ w ∈ wsX50, w ∈ wsX5_add := by decide +kernel
  have hL7 := hts (.fieldLink RX5 7 "TrustedUpdatesModel" "row" "[I") (by decide +kernel)
  have hL13 := hts (.fieldLink RX5 13 "TrustedUpdatesModel" "sizes" "[I") (by decide +kernel)
  have hl : lv_has ls 2 [(0, .ref (ga G 73)), (1, .int a1)] := hl
  refine lv_aload_n hx hb dX5_add_0 rfl (lv_at hl 0 rfl) ?_
  refine wg_r C hW (k := 73) (ci := 5) (j := 1) (q := 74) k73 rfl ⟨by decide, rfl⟩ inX5 (by decide) (rfq k73 rfl) hL7 (fun _ h9 => h9) dX5_add_1 ?_
  refine lv_sipush (v := 840) hx hb dX5_add_4 (by decide) ?_
  refine lv_aload_n hx hb dX5_add_7 rfl (lv_at hl 0 rfl) ?_
  refine wg_r C hW (k := 73) (ci := 5) (j := 2) (q := 75) k73 rfl ⟨by decide, rfl⟩ inX5 (by decide) (rfq k73 rfl) hL13 (fun _ h9 => h9) dX5_add_8 ?_
  refine lv_bipush (v := 7) hx hb dX5_add_11 (by decide) ?_
  refine wa_l C hW (k := 75) k75 (by decide) dX5_add_13 (v := (M 75 7)) (congrArg (M 75) (by decide)) ?_
  refine lv_iadd hx hb dX5_add_14 ?_
  refine lv_iload_n hx hb dX5_add_15 rfl (lv_at hl 1 rfl) ?_
  refine lv_sipush (v := 255) hx hb dX5_add_16 (by decide) ?_
  refine lv_iand hx hb dX5_add_19 ?_
  obtain ⟨hg1, h⟩ := ifg h
  refine wa_s C hW (k := 74) k74 hg1 dX5_add_20 (fun H locs hW => ?_)
  refine lv_aload_n hx hb dX5_add_21 rfl (lv_at hl 0 rfl) ?_
  refine wg_r C hW (k := 73) (ci := 5) (j := 2) (q := 75) k73 rfl ⟨by decide, rfl⟩ inX5 (by decide) (rfq k73 rfl) hL13 (fun _ h9 => h9) dX5_add_22 ?_
  refine lv_bipush (v := 7) hx hb dX5_add_25 (by decide) ?_
  refine lv_dup2_11 hx hb dX5_add_27 rfl rfl ?_
  refine wa_l C hW (k := 75) k75 (by decide) dX5_add_28 (v := (M 75 7)) ((congrArg ((up M 74 (840 + (M 75 7)).toNatClampNeg (a1 &&& 255)) 75) (by decide)).trans (up_k (by decide))) ?_
  refine lv_iconst (v := 1) hx hb dX5_add_29 (by decide) ?_
  refine lv_iadd hx hb dX5_add_30 ?_
  refine wa_s C hW (k := 75) k75 (by decide) dX5_add_31 (fun H locs hW => ?_)
  have hW : wH G s (up (up M 74 (840 + (M 75 7)).toNatClampNeg (a1 &&& 255)) 75 7 ((M 75 7) + 1)) H locs := hW
  exact wr_v C hr hW h dX5_add_32
theorem yd_X5_put : yX5_put.cls = RX5 ∧ yX5_put.cls ≠ "java/lang/invoke/MethodHandle" ∧ yX5_put.cls ≠ "java/lang/invoke/VarHandle" ∧ (parseMethodDescriptor yX5_put.desc).map (fun d => d.parameters.length) = some 2 := by decide +kernel
set_option maxHeartbeats 4000000 in
set_option maxRecDepth 100000 in
theorem L_X5_put_35 {G : GG} {p : Program} {e : Env} {s : State} {m : MethodId} {args : Array Value} {below : List Frame} {meth : Method} {c : Code} {Q : State → Prop} (C : Cx G wsX5_put RX5 cX5_put 5 p s m args meth c) : ∀ (n : Nat) (x1 : Int64) (x3 : Int32) (x4 : Int32) (M : Me) (y : Int32 × Me) (H : Heap) (locs : List Loc) (ls : Array Slot), fL_X5_put_35 n x1 x3 x4 M = some y → wH G s M H locs → lv_has ls 5 [(0, .ref (ga G 73)), (1, .long x1), (3, .int x3), (4, .int x4)] → (∀ (H : Heap) (locs : List Loc) (ls : Array Slot), wH G s y.2 H locs → lv_has ls 5 [] → W p (gl G) e (rmd 1 0 0) s m args below meth c H locs 0 0 Q (F0 m 63 ls [])) → W p (gl G) e (rmd 1 0 0) s m args below meth c H locs 0 0 Q (F0 m 35 ls []) := by
  have hx := C.1
  have hb := C.2.1
  have hown := C.2.2.2.1
  have hts := C.2.2.2.2.1
  have hJ30 := hts (.constantLong RX5 30 (255)) (by decide +kernel)
  intro n
  induction n with
  | zero => intro x1 x3 x4 M y H locs ls h; exact nso h
  | succ n ih =>
    intro x1 x3 x4 M y H locs ls h hW hl kx
    rw [fL_X5_put_35] at h
    refine lv_iload hx hb dX5_put_35 (lv_at hl 3 rfl) ?_
    refine lv_iload_n hx hb dX5_put_37 rfl (lv_at hl 2 rfl) ?_
    refine lv_icmp_ge (tgt := 63) hx hb dX5_put_38 (by decide) (fun c4 => ?_) (fun c4 => ?_)
    · replace h := ift h c4
      cases h
      exact kx _ _ ls hW (lv_sub hl [] rfl)
    · replace h := iff_ h c4
      refine lv_aload_n hx hb dX5_put_41 rfl (lv_at hl 0 rfl) ?_
      refine lv_lload_n hx hb dX5_put_42 rfl (lv_at hl 1 rfl) ?_
      refine lv_bipush (v := 8) hx hb dX5_put_43 (by decide) ?_
      refine lv_iload hx hb dX5_put_45 (lv_at hl 3 rfl) ?_
      refine lv_imul hx hb dX5_put_47 ?_
      refine lv_lshr (v := (lshr_ x1 (8 * x4))) hx hb dX5_put_48 rfl ?_
      refine lv_ldc2 (v := 255) hx hb hown hJ30 dX5_put_49 ?_
      refine lv_land hx hb dX5_put_52 ?_
      refine lv_l2i (v := (((lshr_ x1 (8 * x4)) &&& 255).toInt32)) hx hb dX5_put_53 rfl ?_
      obtain ⟨q1, hq1, h⟩ := ob h
      refine wc_Vv C hW (k := 73) (As := [.int (((lshr_ x1 (8 * x4)) &&& 255).toInt32)]) (rest := []) (c_X5_add G (((lshr_ x1 (8 * x4)) &&& 255).toInt32) M q1 hq1) k73 rfl (by decide) (cwV 1 hts gX5_put_X5_add rfl rfl rfl yd_X5_add ⟨Nat.le_of_ble_eq_true rfl, Nat.le_of_ble_eq_true rfl⟩) rfl hl.1 rfl (Nat.le_of_ble_eq_true rfl) dX5_put_54 ⟨Nat.le_refl 0, Nat.le_refl 0⟩ (fun H locs hW => ?_)
      refine lv_iinc (v := (x4 + 1)) (lv' := [(4, .int (x4 + 1)), (0, .ref (ga G 73)), (1, .long x1), (3, .int x3)]) hx hb dX5_put_57 hl (k := 3) rfl rfl (by decide) rfl (fun ls hl => ?_)
      refine lv_goto (tgt := 35) hx hb dX5_put_60 (by decide) ?_
      exact ih x1 x3 (x4 + 1) q1.2 y _ _ ls h hW (lv_sub hl [1, 2, 3, 0] rfl) kx
set_option maxHeartbeats 4000000 in
set_option maxRecDepth 100000 in
theorem c_X5_put (G : GG) (a1 : Int64) (a2 : Int32) (M : Me) (y : Int32 × Me) (h : f_X5_put a1 a2 M = some y) : CI G yX5_put wsX5_put (rmd 1 0 0) [.ref (ga G 73), .long a1, .int a2] M y := by
  rw [f_X5_put] at h
  refine co_o (by decide) rfl rfl (Nat.le_of_ble_eq_true rfl) (fun p e s m below meth c ls C hr hW hl => ?_)
  have hx := C.1
  have hb := C.2.1
  have hown := C.2.2.2.1
  have hts := C.2.2.2.2.1
  have inX5 : ∀ w ∈ wsX50, w ∈ wsX5_put := by decide +kernel
  have hL13 := hts (.fieldLink RX5 13 "TrustedUpdatesModel" "sizes" "[I") (by decide +kernel)
  have hL26 := hts (.fieldLink RX5 26 "TrustedUpdatesModel" "thrown" "I") (by decide +kernel)
  have hl : lv_has ls 5 [(0, .ref (ga G 73)), (1, .long a1), (3, .int a2)] := hl
  refine lv_aload_n hx hb dX5_put_0 rfl (lv_at hl 0 rfl) ?_
  refine lv_iconst (v := 0) hx hb dX5_put_1 (by decide) ?_
  refine wp_t C hW (k := 73) (ci := 5) (j := 0) (ty := .int) rfl rfl k73 rfl ⟨by decide, rfl⟩ inX5 tyX5 tyX5_ok nmX5 (by decide) (rfq k73 rfl) hL26 (fun _ h9 => h9) rfl rfl dX5_put_2 (fun H locs hW => ?_)
  refine lv_iload_n hx hb dX5_put_5 rfl (lv_at hl 2 rfl) ?_
  refine lv_iconst (v := 1) hx hb dX5_put_6 (by decide) ?_
  refine lv_icmp_lt (tgt := 30) hx hb dX5_put_7 (by decide) (fun c1 => ?_) (fun c1 => ?_)
  · replace h := ift h c1
    refine lv_iconst (v := 0) hx hb dX5_put_30 (by decide) ?_
    exact wr_z C hr (Or.inl rfl) hW h dX5_put_31
  · replace h := iff_ h c1
    refine lv_iload_n hx hb dX5_put_10 rfl (lv_at hl 2 rfl) ?_
    refine lv_bipush (v := 8) hx hb dX5_put_11 (by decide) ?_
    refine lv_icmp_gt (tgt := 30) hx hb dX5_put_13 (by decide) (fun c2 => ?_) (fun c2 => ?_)
    · replace h := ift h c2
      refine lv_iconst (v := 0) hx hb dX5_put_30 (by decide) ?_
      exact wr_z C hr (Or.inl rfl) hW h dX5_put_31
    · replace h := iff_ h c2
      refine lv_aload_n hx hb dX5_put_16 rfl (lv_at hl 0 rfl) ?_
      refine wg_r C hW (k := 73) (ci := 5) (j := 2) (q := 75) k73 rfl ⟨by decide, rfl⟩ inX5 (by decide) (rfq k73 rfl) hL13 (fun _ h9 => h9) dX5_put_17 ?_
      refine lv_bipush (v := 7) hx hb dX5_put_20 (by decide) ?_
      refine wa_l C hW (k := 75) k75 (by decide) dX5_put_22 (v := (M 75 7)) ((congrArg ((up M 73 0 0) 75) (by decide)).trans (up_j (by decide))) ?_
      refine lv_iload_n hx hb dX5_put_23 rfl (lv_at hl 2 rfl) ?_
      refine lv_iadd hx hb dX5_put_24 ?_
      refine lv_bipush (v := 120) hx hb dX5_put_25 (by decide) ?_
      refine lv_icmp_le (tgt := 32) hx hb dX5_put_27 (by decide) (fun c3 => ?_) (fun c3 => ?_)
      · replace h := ift h c3
        refine lv_iconst (v := 0) hx hb dX5_put_32 (by decide) ?_
        refine lv_istore (lv' := [(4, .int 0), (0, .ref (ga G 73)), (1, .long a1), (3, .int a2)]) hx hb dX5_put_33 hl (by decide) rfl (fun ls hl => ?_)
        obtain ⟨q2, hq2, h⟩ := ob h
        refine L_X5_put_35 C 200 a1 a2 0 (up M 73 0 0) q2 _ _ ls hq2 hW (lv_sub hl [1, 2, 3, 0] rfl) (fun H locs ls hW hl => ?_)
        refine lv_iconst (v := 1) hx hb dX5_put_63 (by decide) ?_
        exact wr_z C hr (Or.inr rfl) hW h dX5_put_64
      · replace h := iff_ h c3
        refine lv_iconst (v := 0) hx hb dX5_put_30 (by decide) ?_
        exact wr_z C hr (Or.inl rfl) hW h dX5_put_31
theorem yd_X5_cut : yX5_cut.cls = RX5 ∧ yX5_cut.cls ≠ "java/lang/invoke/MethodHandle" ∧ yX5_cut.cls ≠ "java/lang/invoke/VarHandle" ∧ (parseMethodDescriptor yX5_cut.desc).map (fun d => d.parameters.length) = some 1 := by decide +kernel
set_option maxHeartbeats 4000000 in
set_option maxRecDepth 100000 in
theorem c_X5_cut (G : GG) (a1 : Int32) (M : Me) (y : Int32 × Me) (h : f_X5_cut a1 M = some y) : CI G yX5_cut wsX5_cut (rmd 0 0 0) [.ref (ga G 73), .int a1] M y := by
  rw [f_X5_cut] at h
  refine co_o (by decide) rfl rfl (Nat.le_of_ble_eq_true rfl) (fun p e s m below meth c ls C hr hW hl => ?_)
  have hx := C.1
  have hb := C.2.1
  have hown := C.2.2.2.1
  have hts := C.2.2.2.2.1
  have inX5 : ∀ w ∈ wsX50, w ∈ wsX5_cut := by decide +kernel
  have hL13 := hts (.fieldLink RX5 13 "TrustedUpdatesModel" "sizes" "[I") (by decide +kernel)
  have hL26 := hts (.fieldLink RX5 26 "TrustedUpdatesModel" "thrown" "I") (by decide +kernel)
  have hl : lv_has ls 2 [(0, .ref (ga G 73)), (1, .int a1)] := hl
  refine lv_aload_n hx hb dX5_cut_0 rfl (lv_at hl 0 rfl) ?_
  refine lv_iconst (v := 0) hx hb dX5_cut_1 (by decide) ?_
  refine wp_t C hW (k := 73) (ci := 5) (j := 0) (ty := .int) rfl rfl k73 rfl ⟨by decide, rfl⟩ inX5 tyX5 tyX5_ok nmX5 (by decide) (rfq k73 rfl) hL26 (fun _ h9 => h9) rfl rfl dX5_cut_2 (fun H locs hW => ?_)
  refine lv_iload_n hx hb dX5_cut_5 rfl (lv_at hl 1 rfl) ?_
  refine lv_if_lt (tgt := 20) hx hb dX5_cut_6 (by decide) (fun c1 => ?_) (fun c1 => ?_)
  · replace h := ift h c1
    refine lv_iconst (v := 0) hx hb dX5_cut_20 (by decide) ?_
    exact wr_z C hr (Or.inl rfl) hW h dX5_cut_21
  · replace h := iff_ h c1
    refine lv_iload_n hx hb dX5_cut_9 rfl (lv_at hl 1 rfl) ?_
    refine lv_aload_n hx hb dX5_cut_10 rfl (lv_at hl 0 rfl) ?_
    refine wg_r C hW (k := 73) (ci := 5) (j := 2) (q := 75) k73 rfl ⟨by decide, rfl⟩ inX5 (by decide) (rfq k73 rfl) hL13 (fun _ h9 => h9) dX5_cut_11 ?_
    refine lv_bipush (v := 7) hx hb dX5_cut_14 (by decide) ?_
    refine wa_l C hW (k := 75) k75 (by decide) dX5_cut_16 (v := (M 75 7)) ((congrArg ((up M 73 0 0) 75) (by decide)).trans (up_j (by decide))) ?_
    refine lv_icmp_le (tgt := 22) hx hb dX5_cut_17 (by decide) (fun c2 => ?_) (fun c2 => ?_)
    · replace h := ift h c2
      refine lv_aload_n hx hb dX5_cut_22 rfl (lv_at hl 0 rfl) ?_
      refine wg_r C hW (k := 73) (ci := 5) (j := 2) (q := 75) k73 rfl ⟨by decide, rfl⟩ inX5 (by decide) (rfq k73 rfl) hL13 (fun _ h9 => h9) dX5_cut_23 ?_
      refine lv_bipush (v := 7) hx hb dX5_cut_26 (by decide) ?_
      refine lv_iload_n hx hb dX5_cut_28 rfl (lv_at hl 1 rfl) ?_
      refine wa_s C hW (k := 75) k75 (by decide) dX5_cut_29 (fun H locs hW => ?_)
      have hW : wH G s (up (up M 73 0 0) 75 7 a1) H locs := hW
      refine lv_iconst (v := 1) hx hb dX5_cut_30 (by decide) ?_
      exact wr_z C hr (Or.inr rfl) hW h dX5_cut_31
    · replace h := iff_ h c2
      refine lv_iconst (v := 0) hx hb dX5_cut_20 (by decide) ?_
      exact wr_z C hr (Or.inl rfl) hW h dX5_cut_21
theorem yd_X5_alter : yX5_alter.cls = RX5 ∧ yX5_alter.cls ≠ "java/lang/invoke/MethodHandle" ∧ yX5_alter.cls ≠ "java/lang/invoke/VarHandle" ∧ (parseMethodDescriptor yX5_alter.desc).map (fun d => d.parameters.length) = some 2 := by decide +kernel
set_option maxHeartbeats 4000000 in
set_option maxRecDepth 100000 in
theorem c_X5_alter (G : GG) (a1 : Int32) (a2 : Int32) (M : Me) (y : Int32 × Me) (h : f_X5_alter a1 a2 M = some y) : CI G yX5_alter wsX5_alter (rmd 0 0 0) [.ref (ga G 73), .int a1, .int a2] M y := by
  rw [f_X5_alter] at h
  refine co_o (by decide) rfl rfl (Nat.le_of_ble_eq_true rfl) (fun p e s m below meth c ls C hr hW hl => ?_)
  have hx := C.1
  have hb := C.2.1
  have hown := C.2.2.2.1
  have hts := C.2.2.2.2.1
  have inX5 : ∀ w ∈ wsX50, w ∈ wsX5_alter := by decide +kernel
  have hL7 := hts (.fieldLink RX5 7 "TrustedUpdatesModel" "row" "[I") (by decide +kernel)
  have hL13 := hts (.fieldLink RX5 13 "TrustedUpdatesModel" "sizes" "[I") (by decide +kernel)
  have hL26 := hts (.fieldLink RX5 26 "TrustedUpdatesModel" "thrown" "I") (by decide +kernel)
  have hl : lv_has ls 3 [(0, .ref (ga G 73)), (1, .int a1), (2, .int a2)] := hl
  refine lv_aload_n hx hb dX5_alter_0 rfl (lv_at hl 0 rfl) ?_
  refine lv_iconst (v := 0) hx hb dX5_alter_1 (by decide) ?_
  refine wp_t C hW (k := 73) (ci := 5) (j := 0) (ty := .int) rfl rfl k73 rfl ⟨by decide, rfl⟩ inX5 tyX5 tyX5_ok nmX5 (by decide) (rfq k73 rfl) hL26 (fun _ h9 => h9) rfl rfl dX5_alter_2 (fun H locs hW => ?_)
  refine lv_iload_n hx hb dX5_alter_5 rfl (lv_at hl 1 rfl) ?_
  refine lv_if_lt (tgt := 20) hx hb dX5_alter_6 (by decide) (fun c1 => ?_) (fun c1 => ?_)
  · replace h := ift h c1
    refine lv_iconst (v := 0) hx hb dX5_alter_20 (by decide) ?_
    exact wr_z C hr (Or.inl rfl) hW h dX5_alter_21
  · replace h := iff_ h c1
    refine lv_iload_n hx hb dX5_alter_9 rfl (lv_at hl 1 rfl) ?_
    refine lv_aload_n hx hb dX5_alter_10 rfl (lv_at hl 0 rfl) ?_
    refine wg_r C hW (k := 73) (ci := 5) (j := 2) (q := 75) k73 rfl ⟨by decide, rfl⟩ inX5 (by decide) (rfq k73 rfl) hL13 (fun _ h9 => h9) dX5_alter_11 ?_
    refine lv_bipush (v := 7) hx hb dX5_alter_14 (by decide) ?_
    refine wa_l C hW (k := 75) k75 (by decide) dX5_alter_16 (v := (M 75 7)) ((congrArg ((up M 73 0 0) 75) (by decide)).trans (up_j (by decide))) ?_
    refine lv_icmp_lt (tgt := 22) hx hb dX5_alter_17 (by decide) (fun c2 => ?_) (fun c2 => ?_)
    · replace h := ift h c2
      refine lv_aload_n hx hb dX5_alter_22 rfl (lv_at hl 0 rfl) ?_
      refine wg_r C hW (k := 73) (ci := 5) (j := 1) (q := 74) k73 rfl ⟨by decide, rfl⟩ inX5 (by decide) (rfq k73 rfl) hL7 (fun _ h9 => h9) dX5_alter_23 ?_
      refine lv_sipush (v := 840) hx hb dX5_alter_26 (by decide) ?_
      refine lv_iload_n hx hb dX5_alter_29 rfl (lv_at hl 1 rfl) ?_
      refine lv_iadd hx hb dX5_alter_30 ?_
      refine lv_iload_n hx hb dX5_alter_31 rfl (lv_at hl 2 rfl) ?_
      refine lv_sipush (v := 255) hx hb dX5_alter_32 (by decide) ?_
      refine lv_iand hx hb dX5_alter_35 ?_
      obtain ⟨hg1, h⟩ := ifg h
      refine wa_s C hW (k := 74) k74 hg1 dX5_alter_36 (fun H locs hW => ?_)
      refine lv_iconst (v := 1) hx hb dX5_alter_37 (by decide) ?_
      exact wr_z C hr (Or.inr rfl) hW h dX5_alter_38
    · replace h := iff_ h c2
      refine lv_iconst (v := 0) hx hb dX5_alter_20 (by decide) ?_
      exact wr_z C hr (Or.inl rfl) hW h dX5_alter_21
theorem yd_X5_length : yX5_length.cls = RX5 ∧ yX5_length.cls ≠ "java/lang/invoke/MethodHandle" ∧ yX5_length.cls ≠ "java/lang/invoke/VarHandle" ∧ (parseMethodDescriptor yX5_length.desc).map (fun d => d.parameters.length) = some 0 := by decide +kernel
set_option maxHeartbeats 4000000 in
set_option maxRecDepth 100000 in
theorem c_X5_length (G : GG)  (M : Me) (y : Int32 × Me) (h : f_X5_length  M = some y) : CI G yX5_length wsX5_length (rmd 0 0 0) [.ref (ga G 73)] M y := by
  rw [f_X5_length] at h
  refine co_o (by decide) rfl rfl (Nat.le_of_ble_eq_true rfl) (fun p e s m below meth c ls C hr hW hl => ?_)
  have hx := C.1
  have hb := C.2.1
  have hown := C.2.2.2.1
  have hts := C.2.2.2.2.1
  have inX5 : ∀ w ∈ wsX50, w ∈ wsX5_length := by decide +kernel
  have hL13 := hts (.fieldLink RX5 13 "TrustedUpdatesModel" "sizes" "[I") (by decide +kernel)
  have hL26 := hts (.fieldLink RX5 26 "TrustedUpdatesModel" "thrown" "I") (by decide +kernel)
  have hl : lv_has ls 1 [(0, .ref (ga G 73))] := hl
  refine lv_aload_n hx hb dX5_length_0 rfl (lv_at hl 0 rfl) ?_
  refine lv_iconst (v := 0) hx hb dX5_length_1 (by decide) ?_
  refine wp_t C hW (k := 73) (ci := 5) (j := 0) (ty := .int) rfl rfl k73 rfl ⟨by decide, rfl⟩ inX5 tyX5 tyX5_ok nmX5 (by decide) (rfq k73 rfl) hL26 (fun _ h9 => h9) rfl rfl dX5_length_2 (fun H locs hW => ?_)
  refine lv_aload_n hx hb dX5_length_5 rfl (lv_at hl 0 rfl) ?_
  refine wg_r C hW (k := 73) (ci := 5) (j := 2) (q := 75) k73 rfl ⟨by decide, rfl⟩ inX5 (by decide) (rfq k73 rfl) hL13 (fun _ h9 => h9) dX5_length_6 ?_
  refine lv_bipush (v := 7) hx hb dX5_length_9 (by decide) ?_
  refine wa_l C hW (k := 75) k75 (by decide) dX5_length_11 (v := (M 75 7)) ((congrArg ((up M 73 0 0) 75) (by decide)).trans (up_j (by decide))) ?_
  exact wr_i C hr hW h dX5_length_12
theorem yd_X5_at : yX5_at.cls = RX5 ∧ yX5_at.cls ≠ "java/lang/invoke/MethodHandle" ∧ yX5_at.cls ≠ "java/lang/invoke/VarHandle" ∧ (parseMethodDescriptor yX5_at.desc).map (fun d => d.parameters.length) = some 1 := by decide +kernel
set_option maxHeartbeats 4000000 in
set_option maxRecDepth 100000 in
theorem c_X5_at (G : GG) (a1 : Int32) (M : Me) (y : Int32 × Me) (h : f_X5_at a1 M = some y) : CI G yX5_at wsX5_at (rmd 0 0 0) [.ref (ga G 73), .int a1] M y := by
  rw [f_X5_at] at h
  refine co_o (by decide) rfl rfl (Nat.le_of_ble_eq_true rfl) (fun p e s m below meth c ls C hr hW hl => ?_)
  have hx := C.1
  have hb := C.2.1
  have hown := C.2.2.2.1
  have hts := C.2.2.2.2.1
  have inX5 : ∀ w ∈ wsX50, w ∈ wsX5_at := by decide +kernel
  have hL7 := hts (.fieldLink RX5 7 "TrustedUpdatesModel" "row" "[I") (by decide +kernel)
  have hL13 := hts (.fieldLink RX5 13 "TrustedUpdatesModel" "sizes" "[I") (by decide +kernel)
  have hL26 := hts (.fieldLink RX5 26 "TrustedUpdatesModel" "thrown" "I") (by decide +kernel)
  have hl : lv_has ls 2 [(0, .ref (ga G 73)), (1, .int a1)] := hl
  refine lv_aload_n hx hb dX5_at_0 rfl (lv_at hl 0 rfl) ?_
  refine lv_iload_n hx hb dX5_at_1 rfl (lv_at hl 1 rfl) ?_
  refine lv_if_lt (tgt := 16) hx hb dX5_at_2 (by decide) (fun c1 => ?_) (fun c1 => ?_)
  · replace h := ift h c1
    refine lv_iconst (v := 1) hx hb dX5_at_16 (by decide) ?_
    refine lv_goto (tgt := 21) hx hb dX5_at_17 (by decide) ?_
    refine wp_t C hW (k := 73) (ci := 5) (j := 0) (ty := .int) rfl rfl k73 rfl ⟨by decide, rfl⟩ inX5 tyX5 tyX5_ok nmX5 (by decide) (rfq k73 rfl) hL26 (fun _ h9 => h9) rfl rfl dX5_at_21 (fun H locs hW => ?_)
    refine lv_aload_n hx hb dX5_at_24 rfl (lv_at hl 0 rfl) ?_
    refine wg_i C hW (k := 73) (ci := 5) (j := 0) k73 rfl ⟨by decide, rfl⟩ inX5 (by decide) (rfq k73 rfl) (v := 1) up_s hL26 (fun _ h9 => h9) dX5_at_25 ?_
    refine lv_if_le (tgt := 35) hx hb dX5_at_28 (by decide) (fun c2 => absurd c2 (by decide)) (fun _ => ?_)
    refine lv_iconst (v := 0) hx hb dX5_at_31 (by decide) ?_
    refine lv_goto (tgt := 45) hx hb dX5_at_32 (by decide) ?_
    exact wr_i C hr hW h dX5_at_45
  · replace h := iff_ h c1
    refine lv_iload_n hx hb dX5_at_5 rfl (lv_at hl 1 rfl) ?_
    refine lv_aload_n hx hb dX5_at_6 rfl (lv_at hl 0 rfl) ?_
    refine wg_r C hW (k := 73) (ci := 5) (j := 2) (q := 75) k73 rfl ⟨by decide, rfl⟩ inX5 (by decide) (rfq k73 rfl) hL13 (fun _ h9 => h9) dX5_at_7 ?_
    refine lv_bipush (v := 7) hx hb dX5_at_10 (by decide) ?_
    refine wa_l C hW (k := 75) k75 (by decide) dX5_at_12 (v := (M 75 7)) (congrArg (M 75) (by decide)) ?_
    refine lv_icmp_lt (tgt := 20) hx hb dX5_at_13 (by decide) (fun c3 => ?_) (fun c3 => ?_)
    · replace h := ift h c3
      refine lv_iconst (v := 0) hx hb dX5_at_20 (by decide) ?_
      refine wp_t C hW (k := 73) (ci := 5) (j := 0) (ty := .int) rfl rfl k73 rfl ⟨by decide, rfl⟩ inX5 tyX5 tyX5_ok nmX5 (by decide) (rfq k73 rfl) hL26 (fun _ h9 => h9) rfl rfl dX5_at_21 (fun H locs hW => ?_)
      refine lv_aload_n hx hb dX5_at_24 rfl (lv_at hl 0 rfl) ?_
      refine wg_i C hW (k := 73) (ci := 5) (j := 0) k73 rfl ⟨by decide, rfl⟩ inX5 (by decide) (rfq k73 rfl) (v := 0) up_s hL26 (fun _ h9 => h9) dX5_at_25 ?_
      refine lv_if_le (tgt := 35) hx hb dX5_at_28 (by decide) (fun _ => ?_) (fun c4 => absurd c4 (by decide))
      refine lv_aload_n hx hb dX5_at_35 rfl (lv_at hl 0 rfl) ?_
      refine wg_r C hW (k := 73) (ci := 5) (j := 1) (q := 74) k73 rfl ⟨by decide, rfl⟩ inX5 (by decide) (rfq k73 rfl) hL7 (fun _ h9 => h9) dX5_at_36 ?_
      refine lv_sipush (v := 840) hx hb dX5_at_39 (by decide) ?_
      refine lv_iload_n hx hb dX5_at_42 rfl (lv_at hl 1 rfl) ?_
      refine lv_iadd hx hb dX5_at_43 ?_
      obtain ⟨hg1, h⟩ := ifg h
      refine wa_l C hW (k := 74) k74 hg1 dX5_at_44 (v := (M 74 (840 + a1).toNatClampNeg)) (up_k (by decide)) ?_
      exact wr_i C hr hW h dX5_at_45
    · replace h := iff_ h c3
      refine lv_iconst (v := 1) hx hb dX5_at_16 (by decide) ?_
      refine lv_goto (tgt := 21) hx hb dX5_at_17 (by decide) ?_
      refine wp_t C hW (k := 73) (ci := 5) (j := 0) (ty := .int) rfl rfl k73 rfl ⟨by decide, rfl⟩ inX5 tyX5 tyX5_ok nmX5 (by decide) (rfq k73 rfl) hL26 (fun _ h9 => h9) rfl rfl dX5_at_21 (fun H locs hW => ?_)
      refine lv_aload_n hx hb dX5_at_24 rfl (lv_at hl 0 rfl) ?_
      refine wg_i C hW (k := 73) (ci := 5) (j := 0) k73 rfl ⟨by decide, rfl⟩ inX5 (by decide) (rfq k73 rfl) (v := 1) up_s hL26 (fun _ h9 => h9) dX5_at_25 ?_
      refine lv_if_le (tgt := 35) hx hb dX5_at_28 (by decide) (fun c5 => absurd c5 (by decide)) (fun _ => ?_)
      refine lv_iconst (v := 0) hx hb dX5_at_31 (by decide) ?_
      refine lv_goto (tgt := 45) hx hb dX5_at_32 (by decide) ?_
      exact wr_i C hr hW h dX5_at_45
theorem yd_X5_mixOf : yX5_mixOf.cls = RX5 ∧ yX5_mixOf.cls ≠ "java/lang/invoke/MethodHandle" ∧ yX5_mixOf.cls ≠ "java/lang/invoke/VarHandle" ∧ (parseMethodDescriptor yX5_mixOf.desc).map (fun d => d.parameters.length) = some 3 := by decide +kernel
set_option maxHeartbeats 4000000 in
set_option maxRecDepth 100000 in
theorem L_X5_mixOf_9 {G : GG} {p : Program} {e : Env} {s : State} {m : MethodId} {args : Array Value} {below : List Frame} {meth : Method} {c : Code} {Q : State → Prop} (C : Cx G wsX5_mixOf RX5 cX5_mixOf 6 p s m args meth c) : ∀ (n : Nat) (x1 : Int32) (x2 : Int32) (x4 : Int32) (x5 : Int32) (M : Me) (y : Int32 × Me) (H : Heap) (locs : List Loc) (ls : Array Slot), fL_X5_mixOf_9 n x1 x2 x4 x5 M = some y → wH G s M H locs → lv_has ls 6 [(0, .ref (ga G 73)), (1, .int x1), (2, .int x2), (4, .int x4), (5, .int x5)] → (∀ (H : Heap) (locs : List Loc) (ls : Array Slot), wH G s y.2 H locs → lv_has ls 6 [(4, .int y.1)] → W p (gl G) e (rmd 0 0 0) s m args below meth c H locs 0 0 Q (F0 m 48 ls [])) → W p (gl G) e (rmd 0 0 0) s m args below meth c H locs 0 0 Q (F0 m 9 ls []) := by
  have hx := C.1
  have hb := C.2.1
  have hown := C.2.2.2.1
  have hts := C.2.2.2.2.1
  have inX5 : ∀ w ∈ wsX50, w ∈ wsX5_mixOf := by decide +kernel
  have hC37 := hts (.constant RX5 37 (16777619)) (by decide +kernel)
  have hL7 := hts (.fieldLink RX5 7 "TrustedUpdatesModel" "row" "[I") (by decide +kernel)
  intro n
  induction n with
  | zero => intro x1 x2 x4 x5 M y H locs ls h; exact nso h
  | succ n ih =>
    intro x1 x2 x4 x5 M y H locs ls h hW hl kx
    rw [fL_X5_mixOf_9] at h
    refine lv_iload hx hb dX5_mixOf_9 (lv_at hl 4 rfl) ?_
    refine lv_iload_n hx hb dX5_mixOf_11 rfl (lv_at hl 1 rfl) ?_
    refine lv_iload_n hx hb dX5_mixOf_12 rfl (lv_at hl 2 rfl) ?_
    refine lv_iadd hx hb dX5_mixOf_13 ?_
    refine lv_icmp_ge (tgt := 48) hx hb dX5_mixOf_14 (by decide) (fun c1 => ?_) (fun c1 => ?_)
    · replace h := ift h c1
      cases h
      exact kx _ _ ls hW (lv_sub hl [3] rfl)
    · replace h := iff_ h c1
      refine lv_iload hx hb dX5_mixOf_17 (lv_at hl 3 rfl) ?_
      refine lv_aload_n hx hb dX5_mixOf_19 rfl (lv_at hl 0 rfl) ?_
      refine wg_r C hW (k := 73) (ci := 5) (j := 1) (q := 74) k73 rfl ⟨by decide, rfl⟩ inX5 (by decide) (rfq k73 rfl) hL7 (fun _ h9 => h9) dX5_mixOf_20 ?_
      refine lv_iload hx hb dX5_mixOf_23 (lv_at hl 4 rfl) ?_
      obtain ⟨hg1, h⟩ := ifg h
      refine wa_l C hW (k := 74) k74 hg1 dX5_mixOf_25 (v := (M 74 x5.toNatClampNeg)) rfl ?_
      refine lv_ixor hx hb dX5_mixOf_26 ?_
      refine lv_ldc (v := 16777619) hx hb hown hC37 dX5_mixOf_27 ?_
      refine lv_imul hx hb dX5_mixOf_29 ?_
      refine lv_istore (lv' := [(4, .int ((x4 ^^^ (M 74 x5.toNatClampNeg)) * 16777619)), (0, .ref (ga G 73)), (1, .int x1), (2, .int x2), (5, .int x5)]) hx hb dX5_mixOf_30 hl (by decide) rfl (fun ls hl => ?_)
      refine lv_iload hx hb dX5_mixOf_32 (lv_at hl 0 rfl) ?_
      refine lv_iload hx hb dX5_mixOf_34 (lv_at hl 0 rfl) ?_
      refine lv_bipush (v := 15) hx hb dX5_mixOf_36 (by decide) ?_
      refine lv_iushr (v := (ush ((x4 ^^^ (M 74 x5.toNatClampNeg)) * 16777619) 15)) hx hb dX5_mixOf_38 rfl ?_
      refine lv_ixor hx hb dX5_mixOf_39 ?_
      refine lv_istore (lv' := [(4, .int (((x4 ^^^ (M 74 x5.toNatClampNeg)) * 16777619) ^^^ (ush ((x4 ^^^ (M 74 x5.toNatClampNeg)) * 16777619) 15))), (0, .ref (ga G 73)), (1, .int x1), (2, .int x2), (5, .int x5)]) hx hb dX5_mixOf_40 hl (by decide) rfl (fun ls hl => ?_)
      refine lv_iinc (v := (x5 + 1)) (lv' := [(5, .int (x5 + 1)), (4, .int (((x4 ^^^ (M 74 x5.toNatClampNeg)) * 16777619) ^^^ (ush ((x4 ^^^ (M 74 x5.toNatClampNeg)) * 16777619) 15))), (0, .ref (ga G 73)), (1, .int x1), (2, .int x2)]) hx hb dX5_mixOf_42 hl (k := 4) rfl rfl (by decide) rfl (fun ls hl => ?_)
      refine lv_goto (tgt := 9) hx hb dX5_mixOf_45 (by decide) ?_
      exact ih x1 x2 (((x4 ^^^ (M 74 x5.toNatClampNeg)) * 16777619) ^^^ (ush ((x4 ^^^ (M 74 x5.toNatClampNeg)) * 16777619) 15)) (x5 + 1) M y _ _ ls h hW (lv_sub hl [2, 3, 4, 1, 0] rfl) kx
set_option maxHeartbeats 4000000 in
set_option maxRecDepth 100000 in
theorem c_X5_mixOf (G : GG) (a1 : Int32) (a2 : Int32) (a3 : Int32) (M : Me) (y : Int32 × Me) (h : f_X5_mixOf a1 a2 a3 M = some y) : CI G yX5_mixOf wsX5_mixOf (rmd 0 0 0) [.ref (ga G 73), .int a1, .int a2, .int a3] M y := by
  rw [f_X5_mixOf] at h
  refine co_o (by decide) rfl rfl (Nat.le_of_ble_eq_true rfl) (fun p e s m below meth c ls C hr hW hl => ?_)
  have hx := C.1
  have hb := C.2.1
  have hown := C.2.2.2.1
  have hts := C.2.2.2.2.1
  have hC36 := hts (.constant RX5 36 (-1640531527)) (by decide +kernel)
  have hl : lv_has ls 6 [(0, .ref (ga G 73)), (1, .int a1), (2, .int a2), (3, .int a3)] := hl
  refine lv_iload_n hx hb dX5_mixOf_0 rfl (lv_at hl 3 rfl) ?_
  refine lv_ldc (v := (-1640531527)) hx hb hown hC36 dX5_mixOf_1 ?_
  refine lv_imul hx hb dX5_mixOf_3 ?_
  refine lv_istore (lv' := [(4, .int (a3 * (-1640531527))), (0, .ref (ga G 73)), (1, .int a1), (2, .int a2), (3, .int a3)]) hx hb dX5_mixOf_4 hl (by decide) rfl (fun ls hl => ?_)
  refine lv_iload_n hx hb dX5_mixOf_6 rfl (lv_at hl 2 rfl) ?_
  refine lv_istore (lv' := [(5, .int a1), (4, .int (a3 * (-1640531527))), (0, .ref (ga G 73)), (1, .int a1), (2, .int a2), (3, .int a3)]) hx hb dX5_mixOf_7 hl (by decide) rfl (fun ls hl => ?_)
  obtain ⟨q1, hq1, h⟩ := ob h
  refine L_X5_mixOf_9 C 200 a1 a2 (a3 * (-1640531527)) a1 M q1 _ _ ls hq1 hW (lv_sub hl [2, 3, 4, 1, 0] rfl) (fun H locs ls hW hl => ?_)
  refine lv_iload hx hb dX5_mixOf_48 (lv_at hl 0 rfl) ?_
  exact wr_i C hr hW h dX5_mixOf_50
theorem yd_X5_mix : yX5_mix.cls = RX5 ∧ yX5_mix.cls ≠ "java/lang/invoke/MethodHandle" ∧ yX5_mix.cls ≠ "java/lang/invoke/VarHandle" ∧ (parseMethodDescriptor yX5_mix.desc).map (fun d => d.parameters.length) = some 1 := by decide +kernel
set_option maxHeartbeats 4000000 in
set_option maxRecDepth 100000 in
theorem c_X5_mix (G : GG) (a1 : Int32) (M : Me) (y : Int32 × Me) (h : f_X5_mix a1 M = some y) : CI G yX5_mix wsX5_mix (rmd 1 0 0) [.ref (ga G 73), .int a1] M y := by
  rw [f_X5_mix] at h
  refine co_o (by decide) rfl rfl (Nat.le_of_ble_eq_true rfl) (fun p e s m below meth c ls C hr hW hl => ?_)
  have hx := C.1
  have hb := C.2.1
  have hown := C.2.2.2.1
  have hts := C.2.2.2.2.1
  have inX5 : ∀ w ∈ wsX50, w ∈ wsX5_mix := by decide +kernel
  have hL13 := hts (.fieldLink RX5 13 "TrustedUpdatesModel" "sizes" "[I") (by decide +kernel)
  have hL26 := hts (.fieldLink RX5 26 "TrustedUpdatesModel" "thrown" "I") (by decide +kernel)
  have hl : lv_has ls 2 [(0, .ref (ga G 73)), (1, .int a1)] := hl
  refine lv_aload_n hx hb dX5_mix_0 rfl (lv_at hl 0 rfl) ?_
  refine lv_iconst (v := 0) hx hb dX5_mix_1 (by decide) ?_
  refine wp_t C hW (k := 73) (ci := 5) (j := 0) (ty := .int) rfl rfl k73 rfl ⟨by decide, rfl⟩ inX5 tyX5 tyX5_ok nmX5 (by decide) (rfq k73 rfl) hL26 (fun _ h9 => h9) rfl rfl dX5_mix_2 (fun H locs hW => ?_)
  refine lv_aload_n hx hb dX5_mix_5 rfl (lv_at hl 0 rfl) ?_
  refine lv_sipush (v := 840) hx hb dX5_mix_6 (by decide) ?_
  refine lv_aload_n hx hb dX5_mix_9 rfl (lv_at hl 0 rfl) ?_
  refine wg_r C hW (k := 73) (ci := 5) (j := 2) (q := 75) k73 rfl ⟨by decide, rfl⟩ inX5 (by decide) (rfq k73 rfl) hL13 (fun _ h9 => h9) dX5_mix_10 ?_
  refine lv_bipush (v := 7) hx hb dX5_mix_13 (by decide) ?_
  refine wa_l C hW (k := 75) k75 (by decide) dX5_mix_15 (v := (M 75 7)) ((congrArg ((up M 73 0 0) 75) (by decide)).trans (up_j (by decide))) ?_
  refine lv_iload_n hx hb dX5_mix_16 rfl (lv_at hl 1 rfl) ?_
  obtain ⟨q1, hq1, h⟩ := ob h
  refine wc_Vi C hW (k := 73) (As := [.int 840, .int (M 75 7), .int a1]) (rest := []) (c_X5_mixOf G 840 (M 75 7) a1 (up M 73 0 0) q1 hq1) k73 rfl (by decide) (cwV 3 hts gX5_mix_X5_mixOf rfl rfl rfl yd_X5_mixOf ⟨Nat.le_of_ble_eq_true rfl, Nat.le_of_ble_eq_true rfl⟩) rfl hl.1 rfl (Nat.le_of_ble_eq_true rfl) dX5_mix_17 ⟨Nat.le_refl 0, Nat.le_refl 0⟩ (fun H locs hW => ?_)
  exact wr_i C hr hW h dX5_mix_20
theorem yd_X5_addFour : yX5_addFour.cls = RX5 ∧ yX5_addFour.cls ≠ "java/lang/invoke/MethodHandle" ∧ yX5_addFour.cls ≠ "java/lang/invoke/VarHandle" ∧ (parseMethodDescriptor yX5_addFour.desc).map (fun d => d.parameters.length) = some 1 := by decide +kernel
set_option maxHeartbeats 4000000 in
set_option maxRecDepth 100000 in
theorem L_X5_addFour_3 {G : GG} {p : Program} {e : Env} {s : State} {m : MethodId} {args : Array Value} {below : List Frame} {meth : Method} {c : Code} {Q : State → Prop} (C : Cx G wsX5_addFour RX5 cX5_addFour 3 p s m args meth c) : ∀ (n : Nat) (x1 : Int32) (x2 : Int32) (M : Me) (y : Int32 × Me) (H : Heap) (locs : List Loc) (ls : Array Slot), fL_X5_addFour_3 n x1 x2 M = some y → wH G s M H locs → lv_has ls 3 [(0, .ref (ga G 73)), (1, .int x1), (2, .int x2)] → (∀ (H : Heap) (locs : List Loc) (ls : Array Slot), wH G s y.2 H locs → lv_has ls 3 [] → W p (gl G) e (rmd 1 0 0) s m args below meth c H locs 0 0 Q (F0 m 22 ls [])) → W p (gl G) e (rmd 1 0 0) s m args below meth c H locs 0 0 Q (F0 m 3 ls []) := by
  have hx := C.1
  have hb := C.2.1
  have hown := C.2.2.2.1
  have hts := C.2.2.2.2.1
  intro n
  induction n with
  | zero => intro x1 x2 M y H locs ls h; exact nso h
  | succ n ih =>
    intro x1 x2 M y H locs ls h hW hl kx
    rw [fL_X5_addFour_3] at h
    refine lv_iload_n hx hb dX5_addFour_3 rfl (lv_at hl 2 rfl) ?_
    refine lv_if_lt (tgt := 22) hx hb dX5_addFour_4 (by decide) (fun c1 => ?_) (fun c1 => ?_)
    · replace h := ift h c1
      cases h
      exact kx _ _ ls hW (lv_sub hl [] rfl)
    · replace h := iff_ h c1
      refine lv_aload_n hx hb dX5_addFour_7 rfl (lv_at hl 0 rfl) ?_
      refine lv_iload_n hx hb dX5_addFour_8 rfl (lv_at hl 1 rfl) ?_
      refine lv_iload_n hx hb dX5_addFour_9 rfl (lv_at hl 2 rfl) ?_
      refine lv_ishr hx hb dX5_addFour_10 ?_
      obtain ⟨q1, hq1, h⟩ := ob h
      refine wc_Vv C hW (k := 73) (As := [.int (x1 >>> (x2 &&& 31))]) (rest := []) (c_X5_add G (x1 >>> (x2 &&& 31)) M q1 hq1) k73 rfl (by decide) (cwV 1 hts gX5_addFour_X5_add rfl rfl rfl yd_X5_add ⟨Nat.le_of_ble_eq_true rfl, Nat.le_of_ble_eq_true rfl⟩) rfl hl.1 rfl (Nat.le_of_ble_eq_true rfl) dX5_addFour_11 ⟨Nat.le_refl 0, Nat.le_refl 0⟩ (fun H locs hW => ?_)
      refine lv_iload_n hx hb dX5_addFour_14 rfl (lv_at hl 2 rfl) ?_
      refine lv_bipush (v := 8) hx hb dX5_addFour_15 (by decide) ?_
      refine lv_isub hx hb dX5_addFour_17 ?_
      refine lv_istore_n (lv' := [(2, .int (x2 - 8)), (0, .ref (ga G 73)), (1, .int x1)]) hx hb dX5_addFour_18 rfl hl (by decide) rfl (fun ls hl => ?_)
      refine lv_goto (tgt := 3) hx hb dX5_addFour_19 (by decide) ?_
      exact ih x1 (x2 - 8) q1.2 y _ _ ls h hW (lv_sub hl [1, 2, 0] rfl) kx
set_option maxHeartbeats 4000000 in
set_option maxRecDepth 100000 in
theorem c_X5_addFour (G : GG) (a1 : Int32) (M : Me) (y : Int32 × Me) (h : f_X5_addFour a1 M = some y) : CV G yX5_addFour wsX5_addFour (rmd 1 0 0) [.ref (ga G 73), .int a1] M y := by
  rw [f_X5_addFour] at h
  refine co_o (by decide) rfl rfl (Nat.le_of_ble_eq_true rfl) (fun p e s m below meth c ls C hr hW hl => ?_)
  have hx := C.1
  have hb := C.2.1
  have hown := C.2.2.2.1
  have hts := C.2.2.2.2.1
  have hl : lv_has ls 3 [(0, .ref (ga G 73)), (1, .int a1)] := hl
  refine lv_bipush (v := 24) hx hb dX5_addFour_0 (by decide) ?_
  refine lv_istore_n (lv' := [(2, .int 24), (0, .ref (ga G 73)), (1, .int a1)]) hx hb dX5_addFour_2 rfl hl (by decide) rfl (fun ls hl => ?_)
  obtain ⟨q2, hq2, h⟩ := ob h
  refine L_X5_addFour_3 C 200 a1 24 M q2 _ _ ls hq2 hW (lv_sub hl [1, 2, 0] rfl) (fun H locs ls hW hl => ?_)
  exact wr_v C hr hW h dX5_addFour_22
theorem yd_X5_digest : yX5_digest.cls = RX5 ∧ yX5_digest.cls ≠ "java/lang/invoke/MethodHandle" ∧ yX5_digest.cls ≠ "java/lang/invoke/VarHandle" ∧ (parseMethodDescriptor yX5_digest.desc).map (fun d => d.parameters.length) = some 0 := by decide +kernel
set_option maxHeartbeats 4000000 in
set_option maxRecDepth 100000 in
theorem c_X5_digest (G : GG)  (M : Me) (y : Int32 × Me) (h : f_X5_digest  M = some y) : CI G yX5_digest wsX5_digest (rmd 2 0 0) [.ref (ga G 73)] M y := by
  rw [f_X5_digest] at h
  refine co_o (by decide) rfl rfl (Nat.le_of_ble_eq_true rfl) (fun p e s m below meth c ls C hr hW hl => ?_)
  have hx := C.1
  have hb := C.2.1
  have hown := C.2.2.2.1
  have hts := C.2.2.2.2.1
  have inX5 : ∀ w ∈ wsX50, w ∈ wsX5_digest := by decide +kernel
  have hL13 := hts (.fieldLink RX5 13 "TrustedUpdatesModel" "sizes" "[I") (by decide +kernel)
  have hL26 := hts (.fieldLink RX5 26 "TrustedUpdatesModel" "thrown" "I") (by decide +kernel)
  have hl : lv_has ls 1 [(0, .ref (ga G 73))] := hl
  refine lv_aload_n hx hb dX5_digest_0 rfl (lv_at hl 0 rfl) ?_
  refine lv_iconst (v := 0) hx hb dX5_digest_1 (by decide) ?_
  refine wp_t C hW (k := 73) (ci := 5) (j := 0) (ty := .int) rfl rfl k73 rfl ⟨by decide, rfl⟩ inX5 tyX5 tyX5_ok nmX5 (by decide) (rfq k73 rfl) hL26 (fun _ h9 => h9) rfl rfl dX5_digest_2 (fun H locs hW => ?_)
  refine lv_aload_n hx hb dX5_digest_5 rfl (lv_at hl 0 rfl) ?_
  refine wg_r C hW (k := 73) (ci := 5) (j := 2) (q := 75) k73 rfl ⟨by decide, rfl⟩ inX5 (by decide) (rfq k73 rfl) hL13 (fun _ h9 => h9) dX5_digest_6 ?_
  refine lv_bipush (v := 7) hx hb dX5_digest_9 (by decide) ?_
  refine wa_l C hW (k := 75) k75 (by decide) dX5_digest_11 (v := (M 75 7)) ((congrArg ((up M 73 0 0) 75) (by decide)).trans (up_j (by decide))) ?_
  refine lv_iconst (v := 4) hx hb dX5_digest_12 (by decide) ?_
  refine lv_iadd hx hb dX5_digest_13 ?_
  refine lv_bipush (v := 120) hx hb dX5_digest_14 (by decide) ?_
  refine lv_icmp_le (tgt := 21) hx hb dX5_digest_16 (by decide) (fun c1 => ?_) (fun c1 => ?_)
  · replace h := ift h c1
    refine lv_aload_n hx hb dX5_digest_21 rfl (lv_at hl 0 rfl) ?_
    refine lv_aload_n hx hb dX5_digest_22 rfl (lv_at hl 0 rfl) ?_
    refine lv_sipush (v := 960) hx hb dX5_digest_23 (by decide) ?_
    refine lv_aload_n hx hb dX5_digest_26 rfl (lv_at hl 0 rfl) ?_
    refine wg_r C hW (k := 73) (ci := 5) (j := 2) (q := 75) k73 rfl ⟨by decide, rfl⟩ inX5 (by decide) (rfq k73 rfl) hL13 (fun _ h9 => h9) dX5_digest_27 ?_
    refine lv_bipush (v := 8) hx hb dX5_digest_30 (by decide) ?_
    refine wa_l C hW (k := 75) k75 (by decide) dX5_digest_32 (v := (M 75 8)) ((congrArg ((up M 73 0 0) 75) (by decide)).trans (up_j (by decide))) ?_
    refine lv_iconst (v := 0) hx hb dX5_digest_33 (by decide) ?_
    obtain ⟨q1, hq1, h⟩ := ob h
    refine wc_Vi C hW (k := 73) (As := [.int 960, .int (M 75 8), .int 0]) (rest := [.ref (ga G 73)]) (c_X5_mixOf G 960 (M 75 8) 0 (up M 73 0 0) q1 hq1) k73 rfl (by decide) (cwV 3 hts gX5_digest_X5_mixOf rfl rfl rfl yd_X5_mixOf ⟨Nat.le_of_ble_eq_true rfl, Nat.le_of_ble_eq_true rfl⟩) rfl hl.1 rfl (Nat.le_of_ble_eq_true rfl) dX5_digest_34 ⟨Nat.le_refl 0, Nat.le_refl 0⟩ (fun H locs hW => ?_)
    obtain ⟨q2, hq2, h⟩ := ob h
    refine wc_Vv C hW (k := 73) (As := [.int q1.1]) (rest := []) (c_X5_addFour G q1.1 q1.2 q2 hq2) k73 rfl (by decide) (cwV 1 hts gX5_digest_X5_addFour rfl rfl rfl yd_X5_addFour ⟨Nat.le_of_ble_eq_true rfl, Nat.le_of_ble_eq_true rfl⟩) rfl hl.1 rfl (Nat.le_of_ble_eq_true rfl) dX5_digest_37 ⟨Nat.le_refl 0, Nat.le_refl 0⟩ (fun H locs hW => ?_)
    refine lv_iconst (v := 1) hx hb dX5_digest_40 (by decide) ?_
    exact wr_z C hr (Or.inr rfl) hW h dX5_digest_41
  · replace h := iff_ h c1
    refine lv_iconst (v := 0) hx hb dX5_digest_19 (by decide) ?_
    exact wr_z C hr (Or.inl rfl) hW h dX5_digest_20
theorem yd_X5_four : yX5_four.cls = RX5 ∧ yX5_four.cls ≠ "java/lang/invoke/MethodHandle" ∧ yX5_four.cls ≠ "java/lang/invoke/VarHandle" ∧ (parseMethodDescriptor yX5_four.desc).map (fun d => d.parameters.length) = some 1 := by decide +kernel
set_option maxHeartbeats 4000000 in
set_option maxRecDepth 100000 in
theorem c_X5_four (G : GG) (a1 : Int32) (M : Me) (y : Int32 × Me) (h : f_X5_four a1 M = some y) : CI G yX5_four wsX5_four (rmd 0 0 0) [.ref (ga G 73), .int a1] M y := by
  rw [f_X5_four] at h
  refine co_o (by decide) rfl rfl (Nat.le_of_ble_eq_true rfl) (fun p e s m below meth c ls C hr hW hl => ?_)
  have hx := C.1
  have hb := C.2.1
  have hown := C.2.2.2.1
  have hts := C.2.2.2.2.1
  have inX5 : ∀ w ∈ wsX50, w ∈ wsX5_four := by decide +kernel
  have hL7 := hts (.fieldLink RX5 7 "TrustedUpdatesModel" "row" "[I") (by decide +kernel)
  have hl : lv_has ls 2 [(0, .ref (ga G 73)), (1, .int a1)] := hl
  refine lv_aload_n hx hb dX5_four_0 rfl (lv_at hl 0 rfl) ?_
  refine wg_r C hW (k := 73) (ci := 5) (j := 1) (q := 74) k73 rfl ⟨by decide, rfl⟩ inX5 (by decide) (rfq k73 rfl) hL7 (fun _ h9 => h9) dX5_four_1 ?_
  refine lv_iload_n hx hb dX5_four_4 rfl (lv_at hl 1 rfl) ?_
  obtain ⟨hg1, h⟩ := ifg h
  refine wa_l C hW (k := 74) k74 hg1 dX5_four_5 (v := (M 74 a1.toNatClampNeg)) rfl ?_
  refine lv_bipush (v := 24) hx hb dX5_four_6 (by decide) ?_
  refine lv_ishl hx hb dX5_four_8 ?_
  refine lv_aload_n hx hb dX5_four_9 rfl (lv_at hl 0 rfl) ?_
  refine wg_r C hW (k := 73) (ci := 5) (j := 1) (q := 74) k73 rfl ⟨by decide, rfl⟩ inX5 (by decide) (rfq k73 rfl) hL7 (fun _ h9 => h9) dX5_four_10 ?_
  refine lv_iload_n hx hb dX5_four_13 rfl (lv_at hl 1 rfl) ?_
  refine lv_iconst (v := 1) hx hb dX5_four_14 (by decide) ?_
  refine lv_iadd hx hb dX5_four_15 ?_
  obtain ⟨hg2, h⟩ := ifg h
  refine wa_l C hW (k := 74) k74 hg2 dX5_four_16 (v := (M 74 (a1 + 1).toNatClampNeg)) rfl ?_
  refine lv_bipush (v := 16) hx hb dX5_four_17 (by decide) ?_
  refine lv_ishl hx hb dX5_four_19 ?_
  refine lv_ior hx hb dX5_four_20 ?_
  refine lv_aload_n hx hb dX5_four_21 rfl (lv_at hl 0 rfl) ?_
  refine wg_r C hW (k := 73) (ci := 5) (j := 1) (q := 74) k73 rfl ⟨by decide, rfl⟩ inX5 (by decide) (rfq k73 rfl) hL7 (fun _ h9 => h9) dX5_four_22 ?_
  refine lv_iload_n hx hb dX5_four_25 rfl (lv_at hl 1 rfl) ?_
  refine lv_iconst (v := 2) hx hb dX5_four_26 (by decide) ?_
  refine lv_iadd hx hb dX5_four_27 ?_
  obtain ⟨hg3, h⟩ := ifg h
  refine wa_l C hW (k := 74) k74 hg3 dX5_four_28 (v := (M 74 (a1 + 2).toNatClampNeg)) rfl ?_
  refine lv_bipush (v := 8) hx hb dX5_four_29 (by decide) ?_
  refine lv_ishl hx hb dX5_four_31 ?_
  refine lv_ior hx hb dX5_four_32 ?_
  refine lv_aload_n hx hb dX5_four_33 rfl (lv_at hl 0 rfl) ?_
  refine wg_r C hW (k := 73) (ci := 5) (j := 1) (q := 74) k73 rfl ⟨by decide, rfl⟩ inX5 (by decide) (rfq k73 rfl) hL7 (fun _ h9 => h9) dX5_four_34 ?_
  refine lv_iload_n hx hb dX5_four_37 rfl (lv_at hl 1 rfl) ?_
  refine lv_iconst (v := 3) hx hb dX5_four_38 (by decide) ?_
  refine lv_iadd hx hb dX5_four_39 ?_
  obtain ⟨hg4, h⟩ := ifg h
  refine wa_l C hW (k := 74) k74 hg4 dX5_four_40 (v := (M 74 (a1 + 3).toNatClampNeg)) rfl ?_
  refine lv_ior hx hb dX5_four_41 ?_
  exact wr_i C hr hW h dX5_four_42
theorem yd_X5_next : yX5_next.cls = RX5 ∧ yX5_next.cls ≠ "java/lang/invoke/MethodHandle" ∧ yX5_next.cls ≠ "java/lang/invoke/VarHandle" ∧ (parseMethodDescriptor yX5_next.desc).map (fun d => d.parameters.length) = some 0 := by decide +kernel
set_option maxHeartbeats 4000000 in
set_option maxRecDepth 100000 in
theorem c_X5_next (G : GG)  (M : Me) (y : Int32 × Me) (h : f_X5_next  M = some y) : CI G yX5_next wsX5_next (rmd 0 0 0) [.ref (ga G 73)] M y := by
  rw [f_X5_next] at h
  refine co_o (by decide) rfl rfl (Nat.le_of_ble_eq_true rfl) (fun p e s m below meth c ls C hr hW hl => ?_)
  have hx := C.1
  have hb := C.2.1
  have hown := C.2.2.2.1
  have hts := C.2.2.2.2.1
  have inX5 : ∀ w ∈ wsX50, w ∈ wsX5_next := by decide +kernel
  have hL7 := hts (.fieldLink RX5 7 "TrustedUpdatesModel" "row" "[I") (by decide +kernel)
  have hL45 := hts (.fieldLink RX5 45 "TrustedUpdatesModel" "good" "Z") (by decide +kernel)
  have hL49 := hts (.fieldLink RX5 49 "TrustedUpdatesModel" "at" "I") (by decide +kernel)
  have hL52 := hts (.fieldLink RX5 52 "TrustedUpdatesModel" "end" "I") (by decide +kernel)
  have hl : lv_has ls 2 [(0, .ref (ga G 73))] := hl
  refine lv_aload_n hx hb dX5_next_0 rfl (lv_at hl 0 rfl) ?_
  refine lv_aload_n hx hb dX5_next_1 rfl (lv_at hl 0 rfl) ?_
  refine wg_i C hW (k := 73) (ci := 5) (j := 9) k73 rfl ⟨by decide, rfl⟩ inX5 (by decide) (rfq k73 rfl) (v := (M 73 9)) rfl hL45 (fun _ h9 => h9) dX5_next_2 ?_
  refine lv_if_eq (tgt := 23) hx hb dX5_next_5 (by decide) (fun c1 => ?_) (fun c1 => ?_)
  · replace h := ift h c1
    refine lv_iconst (v := 0) hx hb dX5_next_23 (by decide) ?_
    refine wp_t C hW (k := 73) (ci := 5) (j := 9) (ty := .boolean) (nar_b (Or.inl rfl)).1 (nar_b (Or.inl rfl)).2 k73 rfl ⟨by decide, rfl⟩ inX5 tyX5 tyX5_ok nmX5 (by decide) (rfq k73 rfl) hL45 (fun _ h9 => h9) rfl rfl dX5_next_24 (fun H locs hW => ?_)
    refine lv_aload_n hx hb dX5_next_27 rfl (lv_at hl 0 rfl) ?_
    refine wg_i C hW (k := 73) (ci := 5) (j := 9) k73 rfl ⟨by decide, rfl⟩ inX5 (by decide) (rfq k73 rfl) (v := 0) up_s hL45 (fun _ h9 => h9) dX5_next_28 ?_
    refine lv_if_eq (tgt := 46) hx hb dX5_next_31 (by decide) (fun _ => ?_) (fun c2 => absurd c2 (by decide))
    refine lv_iconst (v := 0) hx hb dX5_next_46 (by decide) ?_
    refine lv_istore_n (lv' := [(1, .int 0), (0, .ref (ga G 73))]) hx hb dX5_next_47 rfl hl (by decide) rfl (fun ls hl => ?_)
    refine lv_aload_n hx hb dX5_next_48 rfl (lv_at hl 1 rfl) ?_
    refine lv_dup hx hb dX5_next_49 rfl ?_
    refine wg_i C hW (k := 73) (ci := 5) (j := 7) k73 rfl ⟨by decide, rfl⟩ inX5 (by decide) (rfq k73 rfl) (v := (M 73 7)) (up_j (by decide)) hL49 (fun _ h9 => h9) dX5_next_50 ?_
    refine lv_iconst (v := 1) hx hb dX5_next_53 (by decide) ?_
    refine lv_iadd hx hb dX5_next_54 ?_
    refine wp_t C hW (k := 73) (ci := 5) (j := 7) (ty := .int) rfl rfl k73 rfl ⟨by decide, rfl⟩ inX5 tyX5 tyX5_ok nmX5 (by decide) (rfq k73 rfl) hL49 (fun _ h9 => h9) rfl rfl dX5_next_55 (fun H locs hW => ?_)
    refine lv_iload_n hx hb dX5_next_58 rfl (lv_at hl 0 rfl) ?_
    exact wr_i C hr hW h dX5_next_59
  · replace h := iff_ h c1
    refine lv_aload_n hx hb dX5_next_8 rfl (lv_at hl 0 rfl) ?_
    refine wg_i C hW (k := 73) (ci := 5) (j := 7) k73 rfl ⟨by decide, rfl⟩ inX5 (by decide) (rfq k73 rfl) (v := (M 73 7)) rfl hL49 (fun _ h9 => h9) dX5_next_9 ?_
    refine lv_aload_n hx hb dX5_next_12 rfl (lv_at hl 0 rfl) ?_
    refine wg_i C hW (k := 73) (ci := 5) (j := 8) k73 rfl ⟨by decide, rfl⟩ inX5 (by decide) (rfq k73 rfl) (v := (M 73 8)) rfl hL52 (fun _ h9 => h9) dX5_next_13 ?_
    refine lv_icmp_ge (tgt := 23) hx hb dX5_next_16 (by decide) (fun c3 => ?_) (fun c3 => ?_)
    · replace h := ift h c3
      refine lv_iconst (v := 0) hx hb dX5_next_23 (by decide) ?_
      refine wp_t C hW (k := 73) (ci := 5) (j := 9) (ty := .boolean) (nar_b (Or.inl rfl)).1 (nar_b (Or.inl rfl)).2 k73 rfl ⟨by decide, rfl⟩ inX5 tyX5 tyX5_ok nmX5 (by decide) (rfq k73 rfl) hL45 (fun _ h9 => h9) rfl rfl dX5_next_24 (fun H locs hW => ?_)
      refine lv_aload_n hx hb dX5_next_27 rfl (lv_at hl 0 rfl) ?_
      refine wg_i C hW (k := 73) (ci := 5) (j := 9) k73 rfl ⟨by decide, rfl⟩ inX5 (by decide) (rfq k73 rfl) (v := 0) up_s hL45 (fun _ h9 => h9) dX5_next_28 ?_
      refine lv_if_eq (tgt := 46) hx hb dX5_next_31 (by decide) (fun _ => ?_) (fun c4 => absurd c4 (by decide))
      refine lv_iconst (v := 0) hx hb dX5_next_46 (by decide) ?_
      refine lv_istore_n (lv' := [(1, .int 0), (0, .ref (ga G 73))]) hx hb dX5_next_47 rfl hl (by decide) rfl (fun ls hl => ?_)
      refine lv_aload_n hx hb dX5_next_48 rfl (lv_at hl 1 rfl) ?_
      refine lv_dup hx hb dX5_next_49 rfl ?_
      refine wg_i C hW (k := 73) (ci := 5) (j := 7) k73 rfl ⟨by decide, rfl⟩ inX5 (by decide) (rfq k73 rfl) (v := (M 73 7)) (up_j (by decide)) hL49 (fun _ h9 => h9) dX5_next_50 ?_
      refine lv_iconst (v := 1) hx hb dX5_next_53 (by decide) ?_
      refine lv_iadd hx hb dX5_next_54 ?_
      refine wp_t C hW (k := 73) (ci := 5) (j := 7) (ty := .int) rfl rfl k73 rfl ⟨by decide, rfl⟩ inX5 tyX5 tyX5_ok nmX5 (by decide) (rfq k73 rfl) hL49 (fun _ h9 => h9) rfl rfl dX5_next_55 (fun H locs hW => ?_)
      refine lv_iload_n hx hb dX5_next_58 rfl (lv_at hl 0 rfl) ?_
      exact wr_i C hr hW h dX5_next_59
    · replace h := iff_ h c3
      refine lv_iconst (v := 1) hx hb dX5_next_19 (by decide) ?_
      refine lv_goto (tgt := 24) hx hb dX5_next_20 (by decide) ?_
      refine wp_t C hW (k := 73) (ci := 5) (j := 9) (ty := .boolean) (nar_b (Or.inr rfl)).1 (nar_b (Or.inr rfl)).2 k73 rfl ⟨by decide, rfl⟩ inX5 tyX5 tyX5_ok nmX5 (by decide) (rfq k73 rfl) hL45 (fun _ h9 => h9) rfl rfl dX5_next_24 (fun H locs hW => ?_)
      refine lv_aload_n hx hb dX5_next_27 rfl (lv_at hl 0 rfl) ?_
      refine wg_i C hW (k := 73) (ci := 5) (j := 9) k73 rfl ⟨by decide, rfl⟩ inX5 (by decide) (rfq k73 rfl) (v := 1) up_s hL45 (fun _ h9 => h9) dX5_next_28 ?_
      refine lv_if_eq (tgt := 46) hx hb dX5_next_31 (by decide) (fun c5 => absurd c5 (by decide)) (fun _ => ?_)
      refine lv_aload_n hx hb dX5_next_34 rfl (lv_at hl 0 rfl) ?_
      refine wg_r C hW (k := 73) (ci := 5) (j := 1) (q := 74) k73 rfl ⟨by decide, rfl⟩ inX5 (by decide) (rfq k73 rfl) hL7 (fun _ h9 => h9) dX5_next_35 ?_
      refine lv_aload_n hx hb dX5_next_38 rfl (lv_at hl 0 rfl) ?_
      refine wg_i C hW (k := 73) (ci := 5) (j := 7) k73 rfl ⟨by decide, rfl⟩ inX5 (by decide) (rfq k73 rfl) (v := (M 73 7)) (up_j (by decide)) hL49 (fun _ h9 => h9) dX5_next_39 ?_
      obtain ⟨hg1, h⟩ := ifg h
      refine wa_l C hW (k := 74) k74 hg1 dX5_next_42 (v := (M 74 (M 73 7).toNatClampNeg)) (up_k (by decide)) ?_
      refine lv_goto (tgt := 47) hx hb dX5_next_43 (by decide) ?_
      refine lv_istore_n (lv' := [(1, .int (M 74 (M 73 7).toNatClampNeg)), (0, .ref (ga G 73))]) hx hb dX5_next_47 rfl hl (by decide) rfl (fun ls hl => ?_)
      refine lv_aload_n hx hb dX5_next_48 rfl (lv_at hl 1 rfl) ?_
      refine lv_dup hx hb dX5_next_49 rfl ?_
      refine wg_i C hW (k := 73) (ci := 5) (j := 7) k73 rfl ⟨by decide, rfl⟩ inX5 (by decide) (rfq k73 rfl) (v := (M 73 7)) (up_j (by decide)) hL49 (fun _ h9 => h9) dX5_next_50 ?_
      refine lv_iconst (v := 1) hx hb dX5_next_53 (by decide) ?_
      refine lv_iadd hx hb dX5_next_54 ?_
      refine wp_t C hW (k := 73) (ci := 5) (j := 7) (ty := .int) rfl rfl k73 rfl ⟨by decide, rfl⟩ inX5 tyX5 tyX5_ok nmX5 (by decide) (rfq k73 rfl) hL49 (fun _ h9 => h9) rfl rfl dX5_next_55 (fun H locs hW => ?_)
      refine lv_iload_n hx hb dX5_next_58 rfl (lv_at hl 0 rfl) ?_
      exact wr_i C hr hW h dX5_next_59
theorem yd_X5_between : yX5_between.cls = RX5 ∧ yX5_between.cls ≠ "java/lang/invoke/MethodHandle" ∧ yX5_between.cls ≠ "java/lang/invoke/VarHandle" ∧ (parseMethodDescriptor yX5_between.desc).map (fun d => d.parameters.length) = some 2 := by decide +kernel
set_option maxHeartbeats 4000000 in
set_option maxRecDepth 100000 in
theorem c_X5_between (G : GG) (a1 : Int32) (a2 : Int32) (M : Me) (y : Int32 × Me) (h : f_X5_between a1 a2 M = some y) : CI G yX5_between wsX5_between (rmd 1 0 0) [.ref (ga G 73), .int a1, .int a2] M y := by
  rw [f_X5_between] at h
  refine co_o (by decide) rfl rfl (Nat.le_of_ble_eq_true rfl) (fun p e s m below meth c ls C hr hW hl => ?_)
  have hx := C.1
  have hb := C.2.1
  have hown := C.2.2.2.1
  have hts := C.2.2.2.2.1
  have inX5 : ∀ w ∈ wsX50, w ∈ wsX5_between := by decide +kernel
  have hL45 := hts (.fieldLink RX5 45 "TrustedUpdatesModel" "good" "Z") (by decide +kernel)
  have hl : lv_has ls 4 [(0, .ref (ga G 73)), (1, .int a1), (2, .int a2)] := hl
  refine lv_aload_n hx hb dX5_between_0 rfl (lv_at hl 0 rfl) ?_
  obtain ⟨q1, hq1, h⟩ := ob h
  refine wc_Vi C hW (k := 73) (As := []) (rest := []) (c_X5_next G  M q1 hq1) k73 rfl (by decide) (cwV 0 hts gX5_between_X5_next rfl rfl rfl yd_X5_next ⟨Nat.le_of_ble_eq_true rfl, Nat.le_of_ble_eq_true rfl⟩) rfl hl.1 rfl (Nat.le_of_ble_eq_true rfl) dX5_between_1 ⟨Nat.le_refl 0, Nat.le_refl 0⟩ (fun H locs hW => ?_)
  refine lv_istore_n (lv' := [(3, .int q1.1), (0, .ref (ga G 73)), (1, .int a1), (2, .int a2)]) hx hb dX5_between_4 rfl hl (by decide) rfl (fun ls hl => ?_)
  refine lv_aload_n hx hb dX5_between_5 rfl (lv_at hl 1 rfl) ?_
  refine lv_aload_n hx hb dX5_between_6 rfl (lv_at hl 1 rfl) ?_
  refine wg_i C hW (k := 73) (ci := 5) (j := 9) k73 rfl ⟨by decide, rfl⟩ inX5 (by decide) (rfq k73 rfl) (v := (q1.2 73 9)) rfl hL45 (fun _ h9 => h9) dX5_between_7 ?_
  refine lv_if_eq (tgt := 27) hx hb dX5_between_10 (by decide) (fun c1 => ?_) (fun c1 => ?_)
  · replace h := ift h c1
    refine lv_iconst (v := 0) hx hb dX5_between_27 (by decide) ?_
    refine wp_t C hW (k := 73) (ci := 5) (j := 9) (ty := .boolean) (nar_b (Or.inl rfl)).1 (nar_b (Or.inl rfl)).2 k73 rfl ⟨by decide, rfl⟩ inX5 tyX5 tyX5_ok nmX5 (by decide) (rfq k73 rfl) hL45 (fun _ h9 => h9) rfl rfl dX5_between_28 (fun H locs hW => ?_)
    refine lv_iload_n hx hb dX5_between_31 rfl (lv_at hl 0 rfl) ?_
    exact wr_i C hr hW h dX5_between_32
  · replace h := iff_ h c1
    refine lv_iload_n hx hb dX5_between_13 rfl (lv_at hl 0 rfl) ?_
    refine lv_iload_n hx hb dX5_between_14 rfl (lv_at hl 2 rfl) ?_
    refine lv_icmp_lt (tgt := 27) hx hb dX5_between_15 (by decide) (fun c2 => ?_) (fun c2 => ?_)
    · replace h := ift h c2
      refine lv_iconst (v := 0) hx hb dX5_between_27 (by decide) ?_
      refine wp_t C hW (k := 73) (ci := 5) (j := 9) (ty := .boolean) (nar_b (Or.inl rfl)).1 (nar_b (Or.inl rfl)).2 k73 rfl ⟨by decide, rfl⟩ inX5 tyX5 tyX5_ok nmX5 (by decide) (rfq k73 rfl) hL45 (fun _ h9 => h9) rfl rfl dX5_between_28 (fun H locs hW => ?_)
      refine lv_iload_n hx hb dX5_between_31 rfl (lv_at hl 0 rfl) ?_
      exact wr_i C hr hW h dX5_between_32
    · replace h := iff_ h c2
      refine lv_iload_n hx hb dX5_between_18 rfl (lv_at hl 0 rfl) ?_
      refine lv_iload_n hx hb dX5_between_19 rfl (lv_at hl 3 rfl) ?_
      refine lv_icmp_gt (tgt := 27) hx hb dX5_between_20 (by decide) (fun c3 => ?_) (fun c3 => ?_)
      · replace h := ift h c3
        refine lv_iconst (v := 0) hx hb dX5_between_27 (by decide) ?_
        refine wp_t C hW (k := 73) (ci := 5) (j := 9) (ty := .boolean) (nar_b (Or.inl rfl)).1 (nar_b (Or.inl rfl)).2 k73 rfl ⟨by decide, rfl⟩ inX5 tyX5 tyX5_ok nmX5 (by decide) (rfq k73 rfl) hL45 (fun _ h9 => h9) rfl rfl dX5_between_28 (fun H locs hW => ?_)
        refine lv_iload_n hx hb dX5_between_31 rfl (lv_at hl 0 rfl) ?_
        exact wr_i C hr hW h dX5_between_32
      · replace h := iff_ h c3
        refine lv_iconst (v := 1) hx hb dX5_between_23 (by decide) ?_
        refine lv_goto (tgt := 28) hx hb dX5_between_24 (by decide) ?_
        refine wp_t C hW (k := 73) (ci := 5) (j := 9) (ty := .boolean) (nar_b (Or.inr rfl)).1 (nar_b (Or.inr rfl)).2 k73 rfl ⟨by decide, rfl⟩ inX5 tyX5 tyX5_ok nmX5 (by decide) (rfq k73 rfl) hL45 (fun _ h9 => h9) rfl rfl dX5_between_28 (fun H locs hW => ?_)
        refine lv_iload_n hx hb dX5_between_31 rfl (lv_at hl 0 rfl) ?_
        exact wr_i C hr hW h dX5_between_32
theorem yd_X5_skip : yX5_skip.cls = RX5 ∧ yX5_skip.cls ≠ "java/lang/invoke/MethodHandle" ∧ yX5_skip.cls ≠ "java/lang/invoke/VarHandle" ∧ (parseMethodDescriptor yX5_skip.desc).map (fun d => d.parameters.length) = some 1 := by decide +kernel
set_option maxHeartbeats 4000000 in
set_option maxRecDepth 100000 in
theorem c_X5_skip (G : GG) (a1 : Int32) (M : Me) (y : Int32 × Me) (h : f_X5_skip a1 M = some y) : CV G yX5_skip wsX5_skip (rmd 0 0 0) [.ref (ga G 73), .int a1] M y := by
  rw [f_X5_skip] at h
  refine co_o (by decide) rfl rfl (Nat.le_of_ble_eq_true rfl) (fun p e s m below meth c ls C hr hW hl => ?_)
  have hx := C.1
  have hb := C.2.1
  have hown := C.2.2.2.1
  have hts := C.2.2.2.2.1
  have inX5 : ∀ w ∈ wsX50, w ∈ wsX5_skip := by decide +kernel
  have hL45 := hts (.fieldLink RX5 45 "TrustedUpdatesModel" "good" "Z") (by decide +kernel)
  have hL49 := hts (.fieldLink RX5 49 "TrustedUpdatesModel" "at" "I") (by decide +kernel)
  have hL52 := hts (.fieldLink RX5 52 "TrustedUpdatesModel" "end" "I") (by decide +kernel)
  have hl : lv_has ls 2 [(0, .ref (ga G 73)), (1, .int a1)] := hl
  refine lv_aload_n hx hb dX5_skip_0 rfl (lv_at hl 0 rfl) ?_
  refine lv_aload_n hx hb dX5_skip_1 rfl (lv_at hl 0 rfl) ?_
  refine wg_i C hW (k := 73) (ci := 5) (j := 9) k73 rfl ⟨by decide, rfl⟩ inX5 (by decide) (rfq k73 rfl) (v := (M 73 9)) rfl hL45 (fun _ h9 => h9) dX5_skip_2 ?_
  refine lv_if_eq (tgt := 25) hx hb dX5_skip_5 (by decide) (fun c1 => ?_) (fun c1 => ?_)
  · replace h := ift h c1
    refine lv_iconst (v := 0) hx hb dX5_skip_25 (by decide) ?_
    refine wp_t C hW (k := 73) (ci := 5) (j := 9) (ty := .boolean) (nar_b (Or.inl rfl)).1 (nar_b (Or.inl rfl)).2 k73 rfl ⟨by decide, rfl⟩ inX5 tyX5 tyX5_ok nmX5 (by decide) (rfq k73 rfl) hL45 (fun _ h9 => h9) rfl rfl dX5_skip_26 (fun H locs hW => ?_)
    refine lv_aload_n hx hb dX5_skip_29 rfl (lv_at hl 0 rfl) ?_
    refine lv_aload_n hx hb dX5_skip_30 rfl (lv_at hl 0 rfl) ?_
    refine wg_i C hW (k := 73) (ci := 5) (j := 7) k73 rfl ⟨by decide, rfl⟩ inX5 (by decide) (rfq k73 rfl) (v := (M 73 7)) (up_j (by decide)) hL49 (fun _ h9 => h9) dX5_skip_31 ?_
    refine lv_iload_n hx hb dX5_skip_34 rfl (lv_at hl 1 rfl) ?_
    refine lv_iadd hx hb dX5_skip_35 ?_
    refine wp_t C hW (k := 73) (ci := 5) (j := 7) (ty := .int) rfl rfl k73 rfl ⟨by decide, rfl⟩ inX5 tyX5 tyX5_ok nmX5 (by decide) (rfq k73 rfl) hL49 (fun _ h9 => h9) rfl rfl dX5_skip_36 (fun H locs hW => ?_)
    exact wr_v C hr hW h dX5_skip_39
  · replace h := iff_ h c1
    refine lv_aload_n hx hb dX5_skip_8 rfl (lv_at hl 0 rfl) ?_
    refine wg_i C hW (k := 73) (ci := 5) (j := 7) k73 rfl ⟨by decide, rfl⟩ inX5 (by decide) (rfq k73 rfl) (v := (M 73 7)) rfl hL49 (fun _ h9 => h9) dX5_skip_9 ?_
    refine lv_iload_n hx hb dX5_skip_12 rfl (lv_at hl 1 rfl) ?_
    refine lv_iadd hx hb dX5_skip_13 ?_
    refine lv_aload_n hx hb dX5_skip_14 rfl (lv_at hl 0 rfl) ?_
    refine wg_i C hW (k := 73) (ci := 5) (j := 8) k73 rfl ⟨by decide, rfl⟩ inX5 (by decide) (rfq k73 rfl) (v := (M 73 8)) rfl hL52 (fun _ h9 => h9) dX5_skip_15 ?_
    refine lv_icmp_gt (tgt := 25) hx hb dX5_skip_18 (by decide) (fun c2 => ?_) (fun c2 => ?_)
    · replace h := ift h c2
      refine lv_iconst (v := 0) hx hb dX5_skip_25 (by decide) ?_
      refine wp_t C hW (k := 73) (ci := 5) (j := 9) (ty := .boolean) (nar_b (Or.inl rfl)).1 (nar_b (Or.inl rfl)).2 k73 rfl ⟨by decide, rfl⟩ inX5 tyX5 tyX5_ok nmX5 (by decide) (rfq k73 rfl) hL45 (fun _ h9 => h9) rfl rfl dX5_skip_26 (fun H locs hW => ?_)
      refine lv_aload_n hx hb dX5_skip_29 rfl (lv_at hl 0 rfl) ?_
      refine lv_aload_n hx hb dX5_skip_30 rfl (lv_at hl 0 rfl) ?_
      refine wg_i C hW (k := 73) (ci := 5) (j := 7) k73 rfl ⟨by decide, rfl⟩ inX5 (by decide) (rfq k73 rfl) (v := (M 73 7)) (up_j (by decide)) hL49 (fun _ h9 => h9) dX5_skip_31 ?_
      refine lv_iload_n hx hb dX5_skip_34 rfl (lv_at hl 1 rfl) ?_
      refine lv_iadd hx hb dX5_skip_35 ?_
      refine wp_t C hW (k := 73) (ci := 5) (j := 7) (ty := .int) rfl rfl k73 rfl ⟨by decide, rfl⟩ inX5 tyX5 tyX5_ok nmX5 (by decide) (rfq k73 rfl) hL49 (fun _ h9 => h9) rfl rfl dX5_skip_36 (fun H locs hW => ?_)
      exact wr_v C hr hW h dX5_skip_39
    · replace h := iff_ h c2
      refine lv_iconst (v := 1) hx hb dX5_skip_21 (by decide) ?_
      refine lv_goto (tgt := 26) hx hb dX5_skip_22 (by decide) ?_
      refine wp_t C hW (k := 73) (ci := 5) (j := 9) (ty := .boolean) (nar_b (Or.inr rfl)).1 (nar_b (Or.inr rfl)).2 k73 rfl ⟨by decide, rfl⟩ inX5 tyX5 tyX5_ok nmX5 (by decide) (rfq k73 rfl) hL45 (fun _ h9 => h9) rfl rfl dX5_skip_26 (fun H locs hW => ?_)
      refine lv_aload_n hx hb dX5_skip_29 rfl (lv_at hl 0 rfl) ?_
      refine lv_aload_n hx hb dX5_skip_30 rfl (lv_at hl 0 rfl) ?_
      refine wg_i C hW (k := 73) (ci := 5) (j := 7) k73 rfl ⟨by decide, rfl⟩ inX5 (by decide) (rfq k73 rfl) (v := (M 73 7)) (up_j (by decide)) hL49 (fun _ h9 => h9) dX5_skip_31 ?_
      refine lv_iload_n hx hb dX5_skip_34 rfl (lv_at hl 1 rfl) ?_
      refine lv_iadd hx hb dX5_skip_35 ?_
      refine wp_t C hW (k := 73) (ci := 5) (j := 7) (ty := .int) rfl rfl k73 rfl ⟨by decide, rfl⟩ inX5 tyX5 tyX5_ok nmX5 (by decide) (rfq k73 rfl) hL49 (fun _ h9 => h9) rfl rfl dX5_skip_36 (fun H locs hW => ?_)
      exact wr_v C hr hW h dX5_skip_39
theorem yd_X5_passKeys : yX5_passKeys.cls = RX5 ∧ yX5_passKeys.cls ≠ "java/lang/invoke/MethodHandle" ∧ yX5_passKeys.cls ≠ "java/lang/invoke/VarHandle" ∧ (parseMethodDescriptor yX5_passKeys.desc).map (fun d => d.parameters.length) = some 0 := by decide +kernel
set_option maxHeartbeats 4000000 in
set_option maxRecDepth 100000 in
theorem L_X5_passKeys_48 {G : GG} {p : Program} {e : Env} {s : State} {m : MethodId} {args : Array Value} {below : List Frame} {meth : Method} {c : Code} {Q : State → Prop} (C : Cx G wsX5_passKeys RX5 cX5_passKeys 5 p s m args meth c) : ∀ (n : Nat) (x2 : Int32) (x3 : Int32) (x4 : Int32) (M : Me) (y : Int32 × Me) (H : Heap) (locs : List Loc) (ls : Array Slot), fL_X5_passKeys_48 n x2 x3 x4 M = some y → wH G s M H locs → lv_has ls 5 [(0, .ref (ga G 73)), (2, .int x2), (3, .int x3), (4, .int x4)] → (∀ (H : Heap) (locs : List Loc) (ls : Array Slot), wH G s y.2 H locs → lv_has ls 5 [] → W p (gl G) e (rmd 2 0 0) s m args below meth c H locs 0 0 Q (F0 m 77 ls [])) → W p (gl G) e (rmd 2 0 0) s m args below meth c H locs 0 0 Q (F0 m 48 ls []) := by
  have hx := C.1
  have hb := C.2.1
  have hown := C.2.2.2.1
  have hts := C.2.2.2.2.1
  have inX5 : ∀ w ∈ wsX50, w ∈ wsX5_passKeys := by decide +kernel
  have hL45 := hts (.fieldLink RX5 45 "TrustedUpdatesModel" "good" "Z") (by decide +kernel)
  intro n
  induction n with
  | zero => intro x2 x3 x4 M y H locs ls h; exact nso h
  | succ n ih =>
    intro x2 x3 x4 M y H locs ls h hW hl kx
    rw [fL_X5_passKeys_48] at h
    refine lv_iload hx hb dX5_passKeys_48 (lv_at hl 3 rfl) ?_
    refine lv_iload_n hx hb dX5_passKeys_50 rfl (lv_at hl 1 rfl) ?_
    refine lv_icmp_ge (tgt := 77) hx hb dX5_passKeys_51 (by decide) (fun c2 => ?_) (fun c2 => ?_)
    · replace h := ift h c2
      cases h
      exact kx _ _ ls hW (lv_sub hl [] rfl)
    · replace h := iff_ h c2
      refine lv_aload_n hx hb dX5_passKeys_54 rfl (lv_at hl 0 rfl) ?_
      refine wg_i C hW (k := 73) (ci := 5) (j := 9) k73 rfl ⟨by decide, rfl⟩ inX5 (by decide) (rfq k73 rfl) (v := (M 73 9)) rfl hL45 (fun _ h9 => h9) dX5_passKeys_55 ?_
      refine lv_if_eq (tgt := 77) hx hb dX5_passKeys_58 (by decide) (fun c3 => ?_) (fun c3 => ?_)
      · replace h := ift h c3
        cases h
        exact kx _ _ ls hW (lv_sub hl [] rfl)
      · replace h := iff_ h c3
        refine lv_aload_n hx hb dX5_passKeys_61 rfl (lv_at hl 0 rfl) ?_
        refine lv_iload_n hx hb dX5_passKeys_62 rfl (lv_at hl 2 rfl) ?_
        refine lv_iconst (v := 1) hx hb dX5_passKeys_63 (by decide) ?_
        refine lv_iadd hx hb dX5_passKeys_64 ?_
        refine lv_bipush (v := 9) hx hb dX5_passKeys_65 (by decide) ?_
        obtain ⟨q3, hq3, h⟩ := ob h
        refine wc_Vi C hW (k := 73) (As := [.int (x3 + 1), .int 9]) (rest := []) (c_X5_between G (x3 + 1) 9 M q3 hq3) k73 rfl (by decide) (cwV 2 hts gX5_passKeys_X5_between rfl rfl rfl yd_X5_between ⟨Nat.le_of_ble_eq_true rfl, Nat.le_of_ble_eq_true rfl⟩) rfl hl.1 rfl (Nat.le_of_ble_eq_true rfl) dX5_passKeys_67 ⟨Nat.le_refl 0, Nat.le_refl 0⟩ (fun H locs hW => ?_)
        refine lv_istore_n (lv' := [(3, .int q3.1), (0, .ref (ga G 73)), (2, .int x2), (4, .int x4)]) hx hb dX5_passKeys_70 rfl hl (by decide) rfl (fun ls hl => ?_)
        refine lv_iinc (v := (x4 + 1)) (lv' := [(4, .int (x4 + 1)), (3, .int q3.1), (0, .ref (ga G 73)), (2, .int x2)]) hx hb dX5_passKeys_71 hl (k := 3) rfl rfl (by decide) rfl (fun ls hl => ?_)
        refine lv_goto (tgt := 48) hx hb dX5_passKeys_74 (by decide) ?_
        exact ih x2 q3.1 (x4 + 1) q3.2 y _ _ ls h hW (lv_sub hl [2, 3, 1, 0] rfl) kx
set_option maxHeartbeats 4000000 in
set_option maxRecDepth 100000 in
theorem c_X5_passKeys (G : GG)  (M : Me) (y : Int32 × Me) (h : f_X5_passKeys  M = some y) : CV G yX5_passKeys wsX5_passKeys (rmd 2 0 0) [.ref (ga G 73)] M y := by
  rw [f_X5_passKeys] at h
  refine co_o (by decide) rfl rfl (Nat.le_of_ble_eq_true rfl) (fun p e s m below meth c ls C hr hW hl => ?_)
  have hx := C.1
  have hb := C.2.1
  have hown := C.2.2.2.1
  have hts := C.2.2.2.2.1
  have inX5 : ∀ w ∈ wsX50, w ∈ wsX5_passKeys := by decide +kernel
  have hL45 := hts (.fieldLink RX5 45 "TrustedUpdatesModel" "good" "Z") (by decide +kernel)
  have hL49 := hts (.fieldLink RX5 49 "TrustedUpdatesModel" "at" "I") (by decide +kernel)
  have hL59 := hts (.fieldLink RX5 59 "TrustedUpdatesModel" "keySet" "I") (by decide +kernel)
  have hl : lv_has ls 5 [(0, .ref (ga G 73))] := hl
  refine lv_aload_n hx hb dX5_passKeys_0 rfl (lv_at hl 0 rfl) ?_
  refine lv_aload_n hx hb dX5_passKeys_1 rfl (lv_at hl 0 rfl) ?_
  refine wg_i C hW (k := 73) (ci := 5) (j := 7) k73 rfl ⟨by decide, rfl⟩ inX5 (by decide) (rfq k73 rfl) (v := (M 73 7)) rfl hL49 (fun _ h9 => h9) dX5_passKeys_2 ?_
  refine wp_t C hW (k := 73) (ci := 5) (j := 11) (ty := .int) rfl rfl k73 rfl ⟨by decide, rfl⟩ inX5 tyX5 tyX5_ok nmX5 (by decide) (rfq k73 rfl) hL59 (fun _ h9 => h9) rfl rfl dX5_passKeys_5 (fun H locs hW => ?_)
  refine lv_aload_n hx hb dX5_passKeys_8 rfl (lv_at hl 0 rfl) ?_
  refine lv_iconst (v := 1) hx hb dX5_passKeys_9 (by decide) ?_
  refine lv_iconst (v := 4) hx hb dX5_passKeys_10 (by decide) ?_
  obtain ⟨q1, hq1, h⟩ := ob h
  refine wc_Vi C hW (k := 73) (As := [.int 1, .int 4]) (rest := []) (c_X5_between G 1 4 (up M 73 11 (M 73 7)) q1 hq1) k73 rfl (by decide) (cwV 2 hts gX5_passKeys_X5_between rfl rfl rfl yd_X5_between ⟨Nat.le_of_ble_eq_true rfl, Nat.le_of_ble_eq_true rfl⟩) rfl hl.1 rfl (Nat.le_of_ble_eq_true rfl) dX5_passKeys_11 ⟨Nat.le_refl 0, Nat.le_refl 0⟩ (fun H locs hW => ?_)
  refine lv_istore_n (lv' := [(1, .int q1.1), (0, .ref (ga G 73))]) hx hb dX5_passKeys_14 rfl hl (by decide) rfl (fun ls hl => ?_)
  refine lv_aload_n hx hb dX5_passKeys_15 rfl (lv_at hl 1 rfl) ?_
  refine lv_iconst (v := 1) hx hb dX5_passKeys_16 (by decide) ?_
  refine lv_iconst (v := 4) hx hb dX5_passKeys_17 (by decide) ?_
  obtain ⟨q2, hq2, h⟩ := ob h
  refine wc_Vi C hW (k := 73) (As := [.int 1, .int 4]) (rest := []) (c_X5_between G 1 4 q1.2 q2 hq2) k73 rfl (by decide) (cwV 2 hts gX5_passKeys_X5_between rfl rfl rfl yd_X5_between ⟨Nat.le_of_ble_eq_true rfl, Nat.le_of_ble_eq_true rfl⟩) rfl hl.1 rfl (Nat.le_of_ble_eq_true rfl) dX5_passKeys_18 ⟨Nat.le_refl 0, Nat.le_refl 0⟩ (fun H locs hW => ?_)
  refine lv_istore_n (lv' := [(2, .int q2.1), (1, .int q1.1), (0, .ref (ga G 73))]) hx hb dX5_passKeys_21 rfl hl (by decide) rfl (fun ls hl => ?_)
  refine lv_aload_n hx hb dX5_passKeys_22 rfl (lv_at hl 2 rfl) ?_
  refine lv_aload_n hx hb dX5_passKeys_23 rfl (lv_at hl 2 rfl) ?_
  refine wg_i C hW (k := 73) (ci := 5) (j := 9) k73 rfl ⟨by decide, rfl⟩ inX5 (by decide) (rfq k73 rfl) (v := (q2.2 73 9)) rfl hL45 (fun _ h9 => h9) dX5_passKeys_24 ?_
  refine lv_if_eq (tgt := 39) hx hb dX5_passKeys_27 (by decide) (fun c1 => ?_) (fun c1 => ?_)
  · replace h := ift h c1
    refine lv_iconst (v := 0) hx hb dX5_passKeys_39 (by decide) ?_
    refine wp_t C hW (k := 73) (ci := 5) (j := 9) (ty := .boolean) (nar_b (Or.inl rfl)).1 (nar_b (Or.inl rfl)).2 k73 rfl ⟨by decide, rfl⟩ inX5 tyX5 tyX5_ok nmX5 (by decide) (rfq k73 rfl) hL45 (fun _ h9 => h9) rfl rfl dX5_passKeys_40 (fun H locs hW => ?_)
    refine lv_iconst (v := (-1)) hx hb dX5_passKeys_43 (by decide) ?_
    refine lv_istore_n (lv' := [(3, .int (-1)), (2, .int q2.1), (1, .int q1.1), (0, .ref (ga G 73))]) hx hb dX5_passKeys_44 rfl hl (by decide) rfl (fun ls hl => ?_)
    refine lv_iconst (v := 0) hx hb dX5_passKeys_45 (by decide) ?_
    refine lv_istore (lv' := [(4, .int 0), (3, .int (-1)), (2, .int q2.1), (1, .int q1.1), (0, .ref (ga G 73))]) hx hb dX5_passKeys_46 hl (by decide) rfl (fun ls hl => ?_)
    obtain ⟨q4, hq4, h⟩ := ob h
    refine L_X5_passKeys_48 C 200 q2.1 (-1) 0 (up q2.2 73 9 0) q4 _ _ ls hq4 hW (lv_sub hl [4, 2, 1, 0] rfl) (fun H locs ls hW hl => ?_)
    exact wr_v C hr hW h dX5_passKeys_77
  · replace h := iff_ h c1
    refine lv_iload_n hx hb dX5_passKeys_30 rfl (lv_at hl 0 rfl) ?_
    refine lv_iload_n hx hb dX5_passKeys_31 rfl (lv_at hl 1 rfl) ?_
    refine lv_icmp_lt (tgt := 39) hx hb dX5_passKeys_32 (by decide) (fun c4 => ?_) (fun c4 => ?_)
    · replace h := ift h c4
      refine lv_iconst (v := 0) hx hb dX5_passKeys_39 (by decide) ?_
      refine wp_t C hW (k := 73) (ci := 5) (j := 9) (ty := .boolean) (nar_b (Or.inl rfl)).1 (nar_b (Or.inl rfl)).2 k73 rfl ⟨by decide, rfl⟩ inX5 tyX5 tyX5_ok nmX5 (by decide) (rfq k73 rfl) hL45 (fun _ h9 => h9) rfl rfl dX5_passKeys_40 (fun H locs hW => ?_)
      refine lv_iconst (v := (-1)) hx hb dX5_passKeys_43 (by decide) ?_
      refine lv_istore_n (lv' := [(3, .int (-1)), (2, .int q2.1), (1, .int q1.1), (0, .ref (ga G 73))]) hx hb dX5_passKeys_44 rfl hl (by decide) rfl (fun ls hl => ?_)
      refine lv_iconst (v := 0) hx hb dX5_passKeys_45 (by decide) ?_
      refine lv_istore (lv' := [(4, .int 0), (3, .int (-1)), (2, .int q2.1), (1, .int q1.1), (0, .ref (ga G 73))]) hx hb dX5_passKeys_46 hl (by decide) rfl (fun ls hl => ?_)
      obtain ⟨q5, hq5, h⟩ := ob h
      refine L_X5_passKeys_48 C 200 q2.1 (-1) 0 (up q2.2 73 9 0) q5 _ _ ls hq5 hW (lv_sub hl [4, 2, 1, 0] rfl) (fun H locs ls hW hl => ?_)
      exact wr_v C hr hW h dX5_passKeys_77
    · replace h := iff_ h c4
      refine lv_iconst (v := 1) hx hb dX5_passKeys_35 (by decide) ?_
      refine lv_goto (tgt := 40) hx hb dX5_passKeys_36 (by decide) ?_
      refine wp_t C hW (k := 73) (ci := 5) (j := 9) (ty := .boolean) (nar_b (Or.inr rfl)).1 (nar_b (Or.inr rfl)).2 k73 rfl ⟨by decide, rfl⟩ inX5 tyX5 tyX5_ok nmX5 (by decide) (rfq k73 rfl) hL45 (fun _ h9 => h9) rfl rfl dX5_passKeys_40 (fun H locs hW => ?_)
      refine lv_iconst (v := (-1)) hx hb dX5_passKeys_43 (by decide) ?_
      refine lv_istore_n (lv' := [(3, .int (-1)), (2, .int q2.1), (1, .int q1.1), (0, .ref (ga G 73))]) hx hb dX5_passKeys_44 rfl hl (by decide) rfl (fun ls hl => ?_)
      refine lv_iconst (v := 0) hx hb dX5_passKeys_45 (by decide) ?_
      refine lv_istore (lv' := [(4, .int 0), (3, .int (-1)), (2, .int q2.1), (1, .int q1.1), (0, .ref (ga G 73))]) hx hb dX5_passKeys_46 hl (by decide) rfl (fun ls hl => ?_)
      obtain ⟨q6, hq6, h⟩ := ob h
      refine L_X5_passKeys_48 C 200 q2.1 (-1) 0 (up q2.2 73 9 1) q6 _ _ ls hq6 hW (lv_sub hl [4, 2, 1, 0] rfl) (fun H locs ls hW hl => ?_)
      exact wr_v C hr hW h dX5_passKeys_77
theorem yd_X5_passLetters : yX5_passLetters.cls = RX5 ∧ yX5_passLetters.cls ≠ "java/lang/invoke/MethodHandle" ∧ yX5_passLetters.cls ≠ "java/lang/invoke/VarHandle" ∧ (parseMethodDescriptor yX5_passLetters.desc).map (fun d => d.parameters.length) = some 2 := by decide +kernel
set_option maxHeartbeats 4000000 in
set_option maxRecDepth 100000 in
theorem L_X5_passLetters_10 {G : GG} {p : Program} {e : Env} {s : State} {m : MethodId} {args : Array Value} {below : List Frame} {meth : Method} {c : Code} {Q : State → Prop} (C : Cx G wsX5_passLetters RX5 cX5_passLetters 5 p s m args meth c) : ∀ (n : Nat) (x3 : Int32) (x4 : Int32) (M : Me) (y : Int32 × Me) (H : Heap) (locs : List Loc) (ls : Array Slot), fL_X5_passLetters_10 n x3 x4 M = some y → wH G s M H locs → lv_has ls 5 [(0, .ref (ga G 73)), (3, .int x3), (4, .int x4)] → (∀ (H : Heap) (locs : List Loc) (ls : Array Slot), wH G s y.2 H locs → lv_has ls 5 [] → W p (gl G) e (rmd 2 0 0) s m args below meth c H locs 0 0 Q (F0 m 38 ls [])) → W p (gl G) e (rmd 2 0 0) s m args below meth c H locs 0 0 Q (F0 m 10 ls []) := by
  have hx := C.1
  have hb := C.2.1
  have hown := C.2.2.2.1
  have hts := C.2.2.2.2.1
  have inX5 : ∀ w ∈ wsX50, w ∈ wsX5_passLetters := by decide +kernel
  have hL45 := hts (.fieldLink RX5 45 "TrustedUpdatesModel" "good" "Z") (by decide +kernel)
  intro n
  induction n with
  | zero => intro x3 x4 M y H locs ls h; exact nso h
  | succ n ih =>
    intro x3 x4 M y H locs ls h hW hl kx
    rw [fL_X5_passLetters_10] at h
    refine lv_iload hx hb dX5_passLetters_10 (lv_at hl 2 rfl) ?_
    refine lv_iload_n hx hb dX5_passLetters_12 rfl (lv_at hl 1 rfl) ?_
    refine lv_icmp_ge (tgt := 38) hx hb dX5_passLetters_13 (by decide) (fun c1 => ?_) (fun c1 => ?_)
    · replace h := ift h c1
      cases h
      exact kx _ _ ls hW (lv_sub hl [] rfl)
    · replace h := iff_ h c1
      refine lv_aload_n hx hb dX5_passLetters_16 rfl (lv_at hl 0 rfl) ?_
      refine wg_i C hW (k := 73) (ci := 5) (j := 9) k73 rfl ⟨by decide, rfl⟩ inX5 (by decide) (rfq k73 rfl) (v := (M 73 9)) rfl hL45 (fun _ h9 => h9) dX5_passLetters_17 ?_
      refine lv_if_eq (tgt := 38) hx hb dX5_passLetters_20 (by decide) (fun c2 => ?_) (fun c2 => ?_)
      · replace h := ift h c2
        cases h
        exact kx _ _ ls hW (lv_sub hl [] rfl)
      · replace h := iff_ h c2
        refine lv_aload_n hx hb dX5_passLetters_23 rfl (lv_at hl 0 rfl) ?_
        refine lv_bipush (v := 97) hx hb dX5_passLetters_24 (by decide) ?_
        refine lv_bipush (v := 122) hx hb dX5_passLetters_26 (by decide) ?_
        obtain ⟨q2, hq2, h⟩ := ob h
        refine wc_Vi C hW (k := 73) (As := [.int 97, .int 122]) (rest := []) (c_X5_between G 97 122 M q2 hq2) k73 rfl (by decide) (cwV 2 hts gX5_passLetters_X5_between rfl rfl rfl yd_X5_between ⟨Nat.le_of_ble_eq_true rfl, Nat.le_of_ble_eq_true rfl⟩) rfl hl.1 rfl (Nat.le_of_ble_eq_true rfl) dX5_passLetters_28 ⟨Nat.le_refl 0, Nat.le_refl 0⟩ (fun H locs hW => ?_)
        refine lv_pop hx hb dX5_passLetters_31 rfl ?_
        refine lv_iinc (v := (x4 + 1)) (lv' := [(4, .int (x4 + 1)), (0, .ref (ga G 73)), (3, .int x3)]) hx hb dX5_passLetters_32 hl (k := 2) rfl rfl (by decide) rfl (fun ls hl => ?_)
        refine lv_goto (tgt := 10) hx hb dX5_passLetters_35 (by decide) ?_
        exact ih x3 (x4 + 1) q2.2 y _ _ ls h hW (lv_sub hl [1, 2, 0] rfl) kx
set_option maxHeartbeats 4000000 in
set_option maxRecDepth 100000 in
theorem c_X5_passLetters (G : GG) (a1 : Int32) (a2 : Int32) (M : Me) (y : Int32 × Me) (h : f_X5_passLetters a1 a2 M = some y) : CV G yX5_passLetters wsX5_passLetters (rmd 2 0 0) [.ref (ga G 73), .int a1, .int a2] M y := by
  rw [f_X5_passLetters] at h
  refine co_o (by decide) rfl rfl (Nat.le_of_ble_eq_true rfl) (fun p e s m below meth c ls C hr hW hl => ?_)
  have hx := C.1
  have hb := C.2.1
  have hown := C.2.2.2.1
  have hts := C.2.2.2.2.1
  have hl : lv_has ls 5 [(0, .ref (ga G 73)), (1, .int a1), (2, .int a2)] := hl
  refine lv_aload_n hx hb dX5_passLetters_0 rfl (lv_at hl 0 rfl) ?_
  refine lv_iload_n hx hb dX5_passLetters_1 rfl (lv_at hl 1 rfl) ?_
  refine lv_iload_n hx hb dX5_passLetters_2 rfl (lv_at hl 2 rfl) ?_
  obtain ⟨q1, hq1, h⟩ := ob h
  refine wc_Vi C hW (k := 73) (As := [.int a1, .int a2]) (rest := []) (c_X5_between G a1 a2 M q1 hq1) k73 rfl (by decide) (cwV 2 hts gX5_passLetters_X5_between rfl rfl rfl yd_X5_between ⟨Nat.le_of_ble_eq_true rfl, Nat.le_of_ble_eq_true rfl⟩) rfl hl.1 rfl (Nat.le_of_ble_eq_true rfl) dX5_passLetters_3 ⟨Nat.le_refl 0, Nat.le_refl 0⟩ (fun H locs hW => ?_)
  refine lv_istore_n (lv' := [(3, .int q1.1), (0, .ref (ga G 73)), (1, .int a1), (2, .int a2)]) hx hb dX5_passLetters_6 rfl hl (by decide) rfl (fun ls hl => ?_)
  refine lv_iconst (v := 0) hx hb dX5_passLetters_7 (by decide) ?_
  refine lv_istore (lv' := [(4, .int 0), (3, .int q1.1), (0, .ref (ga G 73)), (1, .int a1), (2, .int a2)]) hx hb dX5_passLetters_8 hl (by decide) rfl (fun ls hl => ?_)
  obtain ⟨q3, hq3, h⟩ := ob h
  refine L_X5_passLetters_10 C 200 q1.1 0 q1.2 q3 _ _ ls hq3 hW (lv_sub hl [2, 1, 0] rfl) (fun H locs ls hW hl => ?_)
  exact wr_v C hr hW h dX5_passLetters_38
theorem yd_X5_areSame : yX5_areSame.cls = RX5 ∧ yX5_areSame.cls ≠ "java/lang/invoke/MethodHandle" ∧ yX5_areSame.cls ≠ "java/lang/invoke/VarHandle" ∧ (parseMethodDescriptor yX5_areSame.desc).map (fun d => d.parameters.length) = some 2 := by decide +kernel
set_option maxHeartbeats 4000000 in
set_option maxRecDepth 100000 in
theorem L_X5_areSame_5 {G : GG} {p : Program} {e : Env} {s : State} {m : MethodId} {args : Array Value} {below : List Frame} {meth : Method} {c : Code} {Q : State → Prop} (C : Cx G wsX5_areSame RX5 cX5_areSame 5 p s m args meth c) : ∀ (n : Nat) (x1 : Int32) (x2 : Int32) (x3 : Int32) (x4 : Int32) (M : Me) (y : Int32 × Me) (H : Heap) (locs : List Loc) (ls : Array Slot), fL_X5_areSame_5 n x1 x2 x3 x4 M = some y → wH G s M H locs → lv_has ls 5 [(0, .ref (ga G 73)), (1, .int x1), (2, .int x2), (3, .int x3), (4, .int x4)] → (∀ (H : Heap) (locs : List Loc) (ls : Array Slot), wH G s y.2 H locs → lv_has ls 5 [(3, .int y.1)] → W p (gl G) e (rmd 0 0 0) s m args below meth c H locs 0 0 Q (F0 m 53 ls [])) → W p (gl G) e (rmd 0 0 0) s m args below meth c H locs 0 0 Q (F0 m 5 ls []) := by
  have hx := C.1
  have hb := C.2.1
  have hown := C.2.2.2.1
  have hts := C.2.2.2.2.1
  have inX5 : ∀ w ∈ wsX50, w ∈ wsX5_areSame := by decide +kernel
  have hL7 := hts (.fieldLink RX5 7 "TrustedUpdatesModel" "row" "[I") (by decide +kernel)
  intro n
  induction n with
  | zero => intro x1 x2 x3 x4 M y H locs ls h; exact nso h
  | succ n ih =>
    intro x1 x2 x3 x4 M y H locs ls h hW hl kx
    rw [fL_X5_areSame_5] at h
    refine lv_iload hx hb dX5_areSame_5 (lv_at hl 4 rfl) ?_
    refine lv_aload_n hx hb dX5_areSame_7 rfl (lv_at hl 0 rfl) ?_
    refine wg_r C hW (k := 73) (ci := 5) (j := 1) (q := 74) k73 rfl ⟨by decide, rfl⟩ inX5 (by decide) (rfq k73 rfl) hL7 (fun _ h9 => h9) dX5_areSame_8 ?_
    refine lv_iload_n hx hb dX5_areSame_11 rfl (lv_at hl 1 rfl) ?_
    obtain ⟨hg1, h⟩ := ifg h
    refine wa_l C hW (k := 74) k74 hg1 dX5_areSame_12 (v := (M 74 x1.toNatClampNeg)) rfl ?_
    refine lv_icmp_gt (tgt := 53) hx hb dX5_areSame_13 (by decide) (fun c1 => ?_) (fun c1 => ?_)
    · replace h := ift h c1
      cases h
      exact kx _ _ ls hW (lv_sub hl [3] rfl)
    · replace h := iff_ h c1
      refine lv_iload_n hx hb dX5_areSame_16 rfl (lv_at hl 3 rfl) ?_
      refine lv_if_eq (tgt := 45) hx hb dX5_areSame_17 (by decide) (fun c2 => ?_) (fun c2 => ?_)
      · replace h := ift h c2
        refine lv_iconst (v := 0) hx hb dX5_areSame_45 (by decide) ?_
        refine lv_istore_n (lv' := [(3, .int 0), (0, .ref (ga G 73)), (1, .int x1), (2, .int x2), (4, .int x4)]) hx hb dX5_areSame_46 rfl hl (by decide) rfl (fun ls hl => ?_)
        refine lv_iinc (v := (x4 + 1)) (lv' := [(4, .int (x4 + 1)), (3, .int 0), (0, .ref (ga G 73)), (1, .int x1), (2, .int x2)]) hx hb dX5_areSame_47 hl (k := 4) rfl rfl (by decide) rfl (fun ls hl => ?_)
        refine lv_goto (tgt := 5) hx hb dX5_areSame_50 (by decide) ?_
        exact ih x1 x2 0 (x4 + 1) M y _ _ ls h hW (lv_sub hl [2, 3, 4, 1, 0] rfl) kx
      · replace h := iff_ h c2
        refine lv_aload_n hx hb dX5_areSame_20 rfl (lv_at hl 0 rfl) ?_
        refine wg_r C hW (k := 73) (ci := 5) (j := 1) (q := 74) k73 rfl ⟨by decide, rfl⟩ inX5 (by decide) (rfq k73 rfl) hL7 (fun _ h9 => h9) dX5_areSame_21 ?_
        refine lv_iload_n hx hb dX5_areSame_24 rfl (lv_at hl 1 rfl) ?_
        refine lv_iload hx hb dX5_areSame_25 (lv_at hl 4 rfl) ?_
        refine lv_iadd hx hb dX5_areSame_27 ?_
        obtain ⟨hg2, h⟩ := ifg h
        refine wa_l C hW (k := 74) k74 hg2 dX5_areSame_28 (v := (M 74 (x1 + x4).toNatClampNeg)) rfl ?_
        refine lv_aload_n hx hb dX5_areSame_29 rfl (lv_at hl 0 rfl) ?_
        refine wg_r C hW (k := 73) (ci := 5) (j := 1) (q := 74) k73 rfl ⟨by decide, rfl⟩ inX5 (by decide) (rfq k73 rfl) hL7 (fun _ h9 => h9) dX5_areSame_30 ?_
        refine lv_iload_n hx hb dX5_areSame_33 rfl (lv_at hl 2 rfl) ?_
        refine lv_iload hx hb dX5_areSame_34 (lv_at hl 4 rfl) ?_
        refine lv_iadd hx hb dX5_areSame_36 ?_
        obtain ⟨hg3, h⟩ := ifg h
        refine wa_l C hW (k := 74) k74 hg3 dX5_areSame_37 (v := (M 74 (x2 + x4).toNatClampNeg)) rfl ?_
        refine lv_icmp_ne (tgt := 45) hx hb dX5_areSame_38 (by decide) (fun c3 => ?_) (fun c3 => ?_)
        · replace h := iff_ h c3
          refine lv_iconst (v := 0) hx hb dX5_areSame_45 (by decide) ?_
          refine lv_istore_n (lv' := [(3, .int 0), (0, .ref (ga G 73)), (1, .int x1), (2, .int x2), (4, .int x4)]) hx hb dX5_areSame_46 rfl hl (by decide) rfl (fun ls hl => ?_)
          refine lv_iinc (v := (x4 + 1)) (lv' := [(4, .int (x4 + 1)), (3, .int 0), (0, .ref (ga G 73)), (1, .int x1), (2, .int x2)]) hx hb dX5_areSame_47 hl (k := 4) rfl rfl (by decide) rfl (fun ls hl => ?_)
          refine lv_goto (tgt := 5) hx hb dX5_areSame_50 (by decide) ?_
          exact ih x1 x2 0 (x4 + 1) M y _ _ ls h hW (lv_sub hl [2, 3, 4, 1, 0] rfl) kx
        · replace h := ift h c3
          refine lv_iconst (v := 1) hx hb dX5_areSame_41 (by decide) ?_
          refine lv_goto (tgt := 46) hx hb dX5_areSame_42 (by decide) ?_
          refine lv_istore_n (lv' := [(3, .int 1), (0, .ref (ga G 73)), (1, .int x1), (2, .int x2), (4, .int x4)]) hx hb dX5_areSame_46 rfl hl (by decide) rfl (fun ls hl => ?_)
          refine lv_iinc (v := (x4 + 1)) (lv' := [(4, .int (x4 + 1)), (3, .int 1), (0, .ref (ga G 73)), (1, .int x1), (2, .int x2)]) hx hb dX5_areSame_47 hl (k := 4) rfl rfl (by decide) rfl (fun ls hl => ?_)
          refine lv_goto (tgt := 5) hx hb dX5_areSame_50 (by decide) ?_
          exact ih x1 x2 1 (x4 + 1) M y _ _ ls h hW (lv_sub hl [2, 3, 4, 1, 0] rfl) kx
set_option maxHeartbeats 4000000 in
set_option maxRecDepth 100000 in
theorem c_X5_areSame (G : GG) (a1 : Int32) (a2 : Int32) (M : Me) (y : Int32 × Me) (h : f_X5_areSame a1 a2 M = some y) : CI G yX5_areSame wsX5_areSame (rmd 0 0 0) [.ref (ga G 73), .int a1, .int a2] M y := by
  rw [f_X5_areSame] at h
  refine co_o (by decide) rfl rfl (Nat.le_of_ble_eq_true rfl) (fun p e s m below meth c ls C hr hW hl => ?_)
  have hx := C.1
  have hb := C.2.1
  have hown := C.2.2.2.1
  have hts := C.2.2.2.2.1
  have hl : lv_has ls 5 [(0, .ref (ga G 73)), (1, .int a1), (2, .int a2)] := hl
  refine lv_iconst (v := 1) hx hb dX5_areSame_0 (by decide) ?_
  refine lv_istore_n (lv' := [(3, .int 1), (0, .ref (ga G 73)), (1, .int a1), (2, .int a2)]) hx hb dX5_areSame_1 rfl hl (by decide) rfl (fun ls hl => ?_)
  refine lv_iconst (v := 0) hx hb dX5_areSame_2 (by decide) ?_
  refine lv_istore (lv' := [(4, .int 0), (3, .int 1), (0, .ref (ga G 73)), (1, .int a1), (2, .int a2)]) hx hb dX5_areSame_3 hl (by decide) rfl (fun ls hl => ?_)
  obtain ⟨q1, hq1, h⟩ := ob h
  refine L_X5_areSame_5 C 200 a1 a2 1 0 M q1 _ _ ls hq1 hW (lv_sub hl [2, 3, 4, 1, 0] rfl) (fun H locs ls hW hl => ?_)
  refine lv_iload_n hx hb dX5_areSame_53 rfl (lv_at hl 0 rfl) ?_
  obtain ⟨hg4, h⟩ := ifg h
  exact wr_z C hr (bB_or hg4) hW h dX5_areSame_54
