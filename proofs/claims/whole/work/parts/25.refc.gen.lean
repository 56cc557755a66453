theorem yd_X5_stands : yX5_stands.cls = RX5 ∧ yX5_stands.cls ≠ "java/lang/invoke/MethodHandle" ∧ yX5_stands.cls ≠ "java/lang/invoke/VarHandle" ∧ (parseMethodDescriptor yX5_stands.desc).map (fun d => d.parameters.length) = some 1 := by decide +kernel
set_option maxHeartbeats 4000000 in
set_option maxRecDepth 100000 in
theorem c_X5_stands (G : GG) (a1 : Int32) (M : Me) (y : Int32 × Me) (h : f_X5_stands a1 M = some y) : CI G yX5_stands wsX5_stands (rmd 2 0 0) [.ref (ga G 73), .int a1] M y := by
  rw [f_X5_stands] at h
  refine co_o (by decide) rfl rfl (Nat.le_of_ble_eq_true rfl) (fun p e s m below meth c ls C hr hW hl => ?_)
  have hx := C.1
  have hb := C.2.1
  have hown := C.2.2.2.1
  have hts := C.2.2.2.2.1
  have inX5 : ∀ w ∈ wsX50, w ∈ wsX5_stands := by decide +kernel
  have hL16 := hts (.fieldLink RX5 16 "TrustedUpdatesModel" "has" "[Z") (by decide +kernel)
  have hl : lv_has ls 2 [(0, .ref (ga G 73)), (1, .int a1)] := hl
  refine lv_aload_n hx hb dX5_stands_0 rfl (lv_at hl 0 rfl) ?_
  refine wg_r C hW (k := 73) (ci := 5) (j := 3) (q := 76) k73 rfl ⟨by decide, rfl⟩ inX5 (by decide) (rfq k73 rfl) hL16 (fun _ h9 => h9) dX5_stands_1 ?_
  refine lv_iload_n hx hb dX5_stands_4 rfl (lv_at hl 1 rfl) ?_
  obtain ⟨hg1, h⟩ := ifg h
  refine wz_l C hW (k := 76) k76 hg1 dX5_stands_5 (v := (M 76 a1.toNatClampNeg)) rfl ?_
  refine lv_if_eq (tgt := 21) hx hb dX5_stands_6 (by decide) (fun c1 => ?_) (fun c1 => ?_)
  · replace h := ift h c1
    refine lv_iconst (v := 0) hx hb dX5_stands_21 (by decide) ?_
    exact wr_z C hr (Or.inl rfl) hW h dX5_stands_22
  · replace h := iff_ h c1
    refine lv_aload_n hx hb dX5_stands_9 rfl (lv_at hl 0 rfl) ?_
    refine lv_iload_n hx hb dX5_stands_10 rfl (lv_at hl 1 rfl) ?_
    obtain ⟨q1, hq1, h⟩ := ob h
    refine wc_Vi C hW (k := 73) (As := [.int a1]) (rest := []) (c_X5_isOver G a1 M q1 hq1) k73 rfl (by decide) (cwV 1 hts gX5_stands_X5_isOver rfl rfl rfl yd_X5_isOver ⟨Nat.le_of_ble_eq_true rfl, Nat.le_of_ble_eq_true rfl⟩) rfl hl.1 rfl (Nat.le_of_ble_eq_true rfl) dX5_stands_11 ⟨Nat.le_refl 0, Nat.le_refl 0⟩ (fun H locs hW => ?_)
    refine lv_if_ne (tgt := 21) hx hb dX5_stands_14 (by decide) (fun c2 => ?_) (fun c2 => ?_)
    · replace h := iff_ h c2
      refine lv_iconst (v := 0) hx hb dX5_stands_21 (by decide) ?_
      exact wr_z C hr (Or.inl rfl) hW h dX5_stands_22
    · replace h := ift h c2
      refine lv_iconst (v := 1) hx hb dX5_stands_17 (by decide) ?_
      refine lv_goto (tgt := 22) hx hb dX5_stands_18 (by decide) ?_
      exact wr_z C hr (Or.inr rfl) hW h dX5_stands_22
theorem yd_X5_said : yX5_said.cls = RX5 ∧ yX5_said.cls ≠ "java/lang/invoke/MethodHandle" ∧ yX5_said.cls ≠ "java/lang/invoke/VarHandle" ∧ (parseMethodDescriptor yX5_said.desc).map (fun d => d.parameters.length) = some 2 := by decide +kernel
set_option maxHeartbeats 4000000 in
set_option maxRecDepth 100000 in
theorem L_X5_said_5 {G : GG} {p : Program} {e : Env} {s : State} {m : MethodId} {args : Array Value} {below : List Frame} {meth : Method} {c : Code} {Q : State → Prop} (C : Cx G wsX5_said RX5 cX5_said 6 p s m args meth c) : ∀ (n : Nat) (x1 : Int32) (x2 : Int32) (x3 : Int32) (x4 : Int32) (M : Me) (y : Int32 × Me) (H : Heap) (locs : List Loc) (ls : Array Slot), fL_X5_said_5 n x1 x2 x3 x4 M = some y → wH G s M H locs → lv_has ls 6 [(0, .ref (ga G 73)), (1, .int x1), (2, .int x2), (3, .int x3), (4, .int x4)] → (∀ (H : Heap) (locs : List Loc) (ls : Array Slot), wH G s y.2 H locs → lv_has ls 6 [(3, .int y.1)] → W p (gl G) e (rmd 0 0 0) s m args below meth c H locs 0 0 Q (F0 m 65 ls [])) → W p (gl G) e (rmd 0 0 0) s m args below meth c H locs 0 0 Q (F0 m 5 ls []) := by
  have hx := C.1
  have hb := C.2.1
  have hown := C.2.2.2.1
  have hts := C.2.2.2.2.1
  have inX5 : ∀ w ∈ wsX50, w ∈ wsX5_said := by decide +kernel
  have hL7 := hts (.fieldLink RX5 7 "TrustedUpdatesModel" "row" "[I") (by decide +kernel)
  intro n
  induction n with
  | zero => intro x1 x2 x3 x4 M y H locs ls h; exact nso h
  | succ n ih =>
    intro x1 x2 x3 x4 M y H locs ls h hW hl kx
    rw [fL_X5_said_5] at h
    refine lv_iload hx hb dX5_said_5 (lv_at hl 4 rfl) ?_
    refine lv_aload_n hx hb dX5_said_7 rfl (lv_at hl 0 rfl) ?_
    refine wg_r C hW (k := 73) (ci := 5) (j := 1) (q := 74) k73 rfl ⟨by decide, rfl⟩ inX5 (by decide) (rfq k73 rfl) hL7 (fun _ h9 => h9) dX5_said_8 ?_
    refine lv_bipush (v := 120) hx hb dX5_said_11 (by decide) ?_
    refine lv_iload_n hx hb dX5_said_13 rfl (lv_at hl 1 rfl) ?_
    refine lv_imul hx hb dX5_said_14 ?_
    refine lv_iconst (v := 4) hx hb dX5_said_15 (by decide) ?_
    refine lv_iadd hx hb dX5_said_16 ?_
    obtain ⟨hg1, h⟩ := ifg h
    refine wa_l C hW (k := 74) k74 hg1 dX5_said_17 (v := (M 74 ((120 * x1) + 4).toNatClampNeg)) rfl ?_
    refine lv_icmp_ge (tgt := 65) hx hb dX5_said_18 (by decide) (fun c1 => ?_) (fun c1 => ?_)
    · replace h := ift h c1
      cases h
      exact kx _ _ ls hW (lv_sub hl [3] rfl)
    · replace h := iff_ h c1
      refine lv_bipush (v := 120) hx hb dX5_said_21 (by decide) ?_
      refine lv_iload_n hx hb dX5_said_23 rfl (lv_at hl 1 rfl) ?_
      refine lv_imul hx hb dX5_said_24 ?_
      refine lv_iconst (v := 5) hx hb dX5_said_25 (by decide) ?_
      refine lv_iadd hx hb dX5_said_26 ?_
      refine lv_iconst (v := 2) hx hb dX5_said_27 (by decide) ?_
      refine lv_iload hx hb dX5_said_28 (lv_at hl 4 rfl) ?_
      refine lv_imul hx hb dX5_said_30 ?_
      refine lv_iadd hx hb dX5_said_31 ?_
      refine lv_istore (lv' := [(5, .int (((120 * x1) + 5) + (2 * x4))), (0, .ref (ga G 73)), (1, .int x1), (2, .int x2), (3, .int x3), (4, .int x4)]) hx hb dX5_said_32 hl (by decide) rfl (fun ls hl => ?_)
      refine lv_aload_n hx hb dX5_said_34 rfl (lv_at hl 1 rfl) ?_
      refine wg_r C hW (k := 73) (ci := 5) (j := 1) (q := 74) k73 rfl ⟨by decide, rfl⟩ inX5 (by decide) (rfq k73 rfl) hL7 (fun _ h9 => h9) dX5_said_35 ?_
      refine lv_iload hx hb dX5_said_38 (lv_at hl 0 rfl) ?_
      obtain ⟨hg2, h⟩ := ifg h
      refine wa_l C hW (k := 74) k74 hg2 dX5_said_40 (v := (M 74 (((120 * x1) + 5) + (2 * x4)).toNatClampNeg)) rfl ?_
      refine lv_iload_n hx hb dX5_said_41 rfl (lv_at hl 3 rfl) ?_
      refine lv_icmp_ne (tgt := 57) hx hb dX5_said_42 (by decide) (fun c2 => ?_) (fun c2 => ?_)
      · replace h := iff_ h c2
        refine lv_iload_n hx hb dX5_said_57 rfl (lv_at hl 4 rfl) ?_
        refine lv_istore_n (lv' := [(3, .int x3), (5, .int (((120 * x1) + 5) + (2 * x4))), (0, .ref (ga G 73)), (1, .int x1), (2, .int x2), (4, .int x4)]) hx hb dX5_said_58 rfl hl (by decide) rfl (fun ls hl => ?_)
        refine lv_iinc (v := (x4 + 1)) (lv' := [(4, .int (x4 + 1)), (3, .int x3), (5, .int (((120 * x1) + 5) + (2 * x4))), (0, .ref (ga G 73)), (1, .int x1), (2, .int x2)]) hx hb dX5_said_59 hl (k := 5) rfl rfl (by decide) rfl (fun ls hl => ?_)
        refine lv_goto (tgt := 5) hx hb dX5_said_62 (by decide) ?_
        exact ih x1 x2 x3 (x4 + 1) M y _ _ ls h hW (lv_sub hl [3, 4, 5, 1, 0] rfl) kx
      · replace h := ift h c2
        refine lv_aload_n hx hb dX5_said_45 rfl (lv_at hl 1 rfl) ?_
        refine wg_r C hW (k := 73) (ci := 5) (j := 1) (q := 74) k73 rfl ⟨by decide, rfl⟩ inX5 (by decide) (rfq k73 rfl) hL7 (fun _ h9 => h9) dX5_said_46 ?_
        refine lv_iload hx hb dX5_said_49 (lv_at hl 0 rfl) ?_
        refine lv_iconst (v := 1) hx hb dX5_said_51 (by decide) ?_
        refine lv_iadd hx hb dX5_said_52 ?_
        obtain ⟨hg3, h⟩ := ifg h
        refine wa_l C hW (k := 74) k74 hg3 dX5_said_53 (v := (M 74 ((((120 * x1) + 5) + (2 * x4)) + 1).toNatClampNeg)) rfl ?_
        refine lv_goto (tgt := 58) hx hb dX5_said_54 (by decide) ?_
        refine lv_istore_n (lv' := [(3, .int (M 74 ((((120 * x1) + 5) + (2 * x4)) + 1).toNatClampNeg)), (5, .int (((120 * x1) + 5) + (2 * x4))), (0, .ref (ga G 73)), (1, .int x1), (2, .int x2), (4, .int x4)]) hx hb dX5_said_58 rfl hl (by decide) rfl (fun ls hl => ?_)
        refine lv_iinc (v := (x4 + 1)) (lv' := [(4, .int (x4 + 1)), (3, .int (M 74 ((((120 * x1) + 5) + (2 * x4)) + 1).toNatClampNeg)), (5, .int (((120 * x1) + 5) + (2 * x4))), (0, .ref (ga G 73)), (1, .int x1), (2, .int x2)]) hx hb dX5_said_59 hl (k := 5) rfl rfl (by decide) rfl (fun ls hl => ?_)
        refine lv_goto (tgt := 5) hx hb dX5_said_62 (by decide) ?_
        exact ih x1 x2 (M 74 ((((120 * x1) + 5) + (2 * x4)) + 1).toNatClampNeg) (x4 + 1) M y _ _ ls h hW (lv_sub hl [3, 4, 5, 1, 0] rfl) kx
set_option maxHeartbeats 4000000 in
set_option maxRecDepth 100000 in
theorem c_X5_said (G : GG) (a1 : Int32) (a2 : Int32) (M : Me) (y : Int32 × Me) (h : f_X5_said a1 a2 M = some y) : CI G yX5_said wsX5_said (rmd 0 0 0) [.ref (ga G 73), .int a1, .int a2] M y := by
  rw [f_X5_said] at h
  refine co_o (by decide) rfl rfl (Nat.le_of_ble_eq_true rfl) (fun p e s m below meth c ls C hr hW hl => ?_)
  have hx := C.1
  have hb := C.2.1
  have hown := C.2.2.2.1
  have hts := C.2.2.2.2.1
  have hl : lv_has ls 6 [(0, .ref (ga G 73)), (1, .int a1), (2, .int a2)] := hl
  refine lv_iconst (v := 0) hx hb dX5_said_0 (by decide) ?_
  refine lv_istore_n (lv' := [(3, .int 0), (0, .ref (ga G 73)), (1, .int a1), (2, .int a2)]) hx hb dX5_said_1 rfl hl (by decide) rfl (fun ls hl => ?_)
  refine lv_iconst (v := 0) hx hb dX5_said_2 (by decide) ?_
  refine lv_istore (lv' := [(4, .int 0), (3, .int 0), (0, .ref (ga G 73)), (1, .int a1), (2, .int a2)]) hx hb dX5_said_3 hl (by decide) rfl (fun ls hl => ?_)
  obtain ⟨q1, hq1, h⟩ := ob h
  refine L_X5_said_5 C 200 a1 a2 0 0 M q1 _ _ ls hq1 hW (lv_sub hl [2, 3, 4, 1, 0] rfl) (fun H locs ls hW hl => ?_)
  refine lv_iload_n hx hb dX5_said_65 rfl (lv_at hl 0 rfl) ?_
  exact wr_i C hr hW h dX5_said_66
theorem yd_X5_sign : yX5_sign.cls = RX5 ∧ yX5_sign.cls ≠ "java/lang/invoke/MethodHandle" ∧ yX5_sign.cls ≠ "java/lang/invoke/VarHandle" ∧ (parseMethodDescriptor yX5_sign.desc).map (fun d => d.parameters.length) = some 1 := by decide +kernel
set_option maxHeartbeats 4000000 in
set_option maxRecDepth 100000 in
theorem c_X5_sign (G : GG) (a1 : Int32) (M : Me) (y : Int32 × Me) (h : f_X5_sign a1 M = some y) : CI G yX5_sign wsX5_sign (rmd 7 0 0) [.ref (ga G 73), .int a1] M y := by
  rw [f_X5_sign] at h
  refine co_o (by decide) rfl rfl (Nat.le_of_ble_eq_true rfl) (fun p e s m below meth c ls C hr hW hl => ?_)
  have hx := C.1
  have hb := C.2.1
  have hown := C.2.2.2.1
  have hts := C.2.2.2.2.1
  have inX5 : ∀ w ∈ wsX50, w ∈ wsX5_sign := by decide +kernel
  have hL7 := hts (.fieldLink RX5 7 "TrustedUpdatesModel" "row" "[I") (by decide +kernel)
  have hL13 := hts (.fieldLink RX5 13 "TrustedUpdatesModel" "sizes" "[I") (by decide +kernel)
  have hL26 := hts (.fieldLink RX5 26 "TrustedUpdatesModel" "thrown" "I") (by decide +kernel)
  have hL49 := hts (.fieldLink RX5 49 "TrustedUpdatesModel" "at" "I") (by decide +kernel)
  have hL52 := hts (.fieldLink RX5 52 "TrustedUpdatesModel" "end" "I") (by decide +kernel)
  have hL86 := hts (.fieldLink RX5 86 "TrustedUpdatesModel" "signed" "I") (by decide +kernel)
  have hl : lv_has ls 6 [(0, .ref (ga G 73)), (1, .int a1)] := hl
  refine lv_aload_n hx hb dX5_sign_0 rfl (lv_at hl 0 rfl) ?_
  refine lv_iload_n hx hb dX5_sign_1 rfl (lv_at hl 1 rfl) ?_
  refine lv_if_lt (tgt := 11) hx hb dX5_sign_2 (by decide) (fun c1 => ?_) (fun c1 => ?_)
  · replace h := ift h c1
    refine lv_iconst (v := 1) hx hb dX5_sign_11 (by decide) ?_
    refine lv_goto (tgt := 16) hx hb dX5_sign_12 (by decide) ?_
    refine wp_t C hW (k := 73) (ci := 5) (j := 0) (ty := .int) rfl rfl k73 rfl ⟨by decide, rfl⟩ inX5 tyX5 tyX5_ok nmX5 (by decide) (rfq k73 rfl) hL26 (fun _ h9 => h9) rfl rfl dX5_sign_16 (fun H locs hW => ?_)
    refine lv_aload_n hx hb dX5_sign_19 rfl (lv_at hl 0 rfl) ?_
    refine wg_i C hW (k := 73) (ci := 5) (j := 0) k73 rfl ⟨by decide, rfl⟩ inX5 (by decide) (rfq k73 rfl) (v := 1) up_s hL26 (fun _ h9 => h9) dX5_sign_20 ?_
    refine lv_if_le (tgt := 28) hx hb dX5_sign_23 (by decide) (fun c2 => absurd c2 (by decide)) (fun _ => ?_)
    refine lv_iconst (v := 0) hx hb dX5_sign_26 (by decide) ?_
    exact wr_i C hr hW h dX5_sign_27
  · replace h := iff_ h c1
    refine lv_iload_n hx hb dX5_sign_5 rfl (lv_at hl 1 rfl) ?_
    refine lv_bipush (v := 9) hx hb dX5_sign_6 (by decide) ?_
    refine lv_icmp_le (tgt := 15) hx hb dX5_sign_8 (by decide) (fun c3 => ?_) (fun c3 => ?_)
    · replace h := ift h c3
      refine lv_iconst (v := 0) hx hb dX5_sign_15 (by decide) ?_
      refine wp_t C hW (k := 73) (ci := 5) (j := 0) (ty := .int) rfl rfl k73 rfl ⟨by decide, rfl⟩ inX5 tyX5 tyX5_ok nmX5 (by decide) (rfq k73 rfl) hL26 (fun _ h9 => h9) rfl rfl dX5_sign_16 (fun H locs hW => ?_)
      refine lv_aload_n hx hb dX5_sign_19 rfl (lv_at hl 0 rfl) ?_
      refine wg_i C hW (k := 73) (ci := 5) (j := 0) k73 rfl ⟨by decide, rfl⟩ inX5 (by decide) (rfq k73 rfl) (v := 0) up_s hL26 (fun _ h9 => h9) dX5_sign_20 ?_
      refine lv_if_le (tgt := 28) hx hb dX5_sign_23 (by decide) (fun _ => ?_) (fun c4 => absurd c4 (by decide))
      refine lv_aload_n hx hb dX5_sign_28 rfl (lv_at hl 0 rfl) ?_
      refine lv_bipush (v := 7) hx hb dX5_sign_29 (by decide) ?_
      obtain ⟨q1, hq1, h⟩ := ob h
      refine wc_Vi C hW (k := 73) (As := [.int 7]) (rest := []) (c_X5_isDocument G 7 (up M 73 0 0) q1 hq1) k73 rfl (by decide) (cwV 1 hts gX5_sign_X5_isDocument rfl rfl rfl yd_X5_isDocument ⟨Nat.le_of_ble_eq_true rfl, Nat.le_of_ble_eq_true rfl⟩) rfl hl.1 rfl (Nat.le_of_ble_eq_true rfl) dX5_sign_31 ⟨Nat.le_refl 0, Nat.le_refl 0⟩ (fun H locs hW => ?_)
      refine lv_istore_n (lv' := [(2, .int q1.1), (0, .ref (ga G 73)), (1, .int a1)]) hx hb dX5_sign_34 rfl hl (by decide) rfl (fun ls hl => ?_)
      refine lv_aload_n hx hb dX5_sign_35 rfl (lv_at hl 1 rfl) ?_
      refine lv_bipush (v := 7) hx hb dX5_sign_36 (by decide) ?_
      obtain ⟨q2, hq2, h⟩ := ob h
      refine wc_Vi C hW (k := 73) (As := [.int 7]) (rest := []) (c_X5_passSigned G 7 q1.2 q2 hq2) k73 rfl (by decide) (cwV 1 hts gX5_sign_X5_passSigned rfl rfl rfl yd_X5_passSigned ⟨Nat.le_of_ble_eq_true rfl, Nat.le_of_ble_eq_true rfl⟩) rfl hl.1 rfl (Nat.le_of_ble_eq_true rfl) dX5_sign_38 ⟨Nat.le_refl 0, Nat.le_refl 0⟩ (fun H locs hW => ?_)
      refine lv_if_eq (tgt := 59) hx hb dX5_sign_41 (by decide) (fun c5 => ?_) (fun c5 => ?_)
      · replace h := ift h c5
        refine lv_iconst (v := 0) hx hb dX5_sign_59 (by decide) ?_
        refine lv_istore_n (lv' := [(3, .int 0), (2, .int q1.1), (0, .ref (ga G 73)), (1, .int a1)]) hx hb dX5_sign_60 rfl hl (by decide) rfl (fun ls hl => ?_)
        refine lv_iload_n hx hb dX5_sign_61 rfl (lv_at hl 1 rfl) ?_
        refine lv_if_ne (tgt := 75) hx hb dX5_sign_62 (by decide) (fun c6 => ?_) (fun c6 => ?_)
        · replace h := iff_ h c6
          refine lv_iload_n hx hb dX5_sign_75 rfl (lv_at hl 0 rfl) ?_
          refine lv_if_eq (tgt := 83) hx hb dX5_sign_76 (by decide) (fun _ => ?_) (fun c7 => absurd c7 (by decide))
          refine lv_aload_n hx hb dX5_sign_83 rfl (lv_at hl 2 rfl) ?_
          refine wg_r C hW (k := 73) (ci := 5) (j := 1) (q := 74) k73 rfl ⟨by decide, rfl⟩ inX5 (by decide) (rfq k73 rfl) hL7 (fun _ h9 => h9) dX5_sign_84 ?_
          refine lv_aload_n hx hb dX5_sign_87 rfl (lv_at hl 2 rfl) ?_
          refine wg_i C hW (k := 73) (ci := 5) (j := 10) k73 rfl ⟨by decide, rfl⟩ inX5 (by decide) (rfq k73 rfl) (v := (q2.2 73 10)) rfl hL86 (fun _ h9 => h9) dX5_sign_88 ?_
          obtain ⟨hg1, h⟩ := ifg h
          refine wa_l C hW (k := 74) k74 hg1 dX5_sign_91 (v := (q2.2 74 (q2.2 73 10).toNatClampNeg)) rfl ?_
          refine lv_istore (lv' := [(4, .int (q2.2 74 (q2.2 73 10).toNatClampNeg)), (3, .int 0), (2, .int q1.1), (0, .ref (ga G 73)), (1, .int a1)]) hx hb dX5_sign_92 hl (by decide) rfl (fun ls hl => ?_)
          refine lv_iload hx hb dX5_sign_94 (lv_at hl 0 rfl) ?_
          refine lv_bipush (v := 6) hx hb dX5_sign_96 (by decide) ?_
          refine lv_icmp_eq (tgt := 124) hx hb dX5_sign_98 (by decide) (fun c8 => ?_) (fun c8 => ?_)
          · replace h := ift h c8
            refine lv_aload_n hx hb dX5_sign_124 rfl (lv_at hl 3 rfl) ?_
            refine lv_iconst (v := 3) hx hb dX5_sign_125 (by decide) ?_
            obtain ⟨q3, hq3, h⟩ := ob h
            refine wc_Vi C hW (k := 73) (As := [.int 3]) (rest := []) (c_X5_fail G 3 q2.2 q3 hq3) k73 rfl (by decide) (cwV 1 hts gX5_sign_X5_fail rfl rfl rfl yd_X5_fail ⟨Nat.le_of_ble_eq_true rfl, Nat.le_of_ble_eq_true rfl⟩) rfl hl.1 rfl (Nat.le_of_ble_eq_true rfl) dX5_sign_126 ⟨Nat.le_refl 0, Nat.le_refl 0⟩ (fun H locs hW => ?_)
            exact wr_i C hr hW h dX5_sign_129
          · replace h := iff_ h c8
            refine lv_aload_n hx hb dX5_sign_101 rfl (lv_at hl 3 rfl) ?_
            refine wg_r C hW (k := 73) (ci := 5) (j := 2) (q := 75) k73 rfl ⟨by decide, rfl⟩ inX5 (by decide) (rfq k73 rfl) hL13 (fun _ h9 => h9) dX5_sign_102 ?_
            refine lv_bipush (v := 7) hx hb dX5_sign_105 (by decide) ?_
            refine wa_l C hW (k := 75) k75 (by decide) dX5_sign_107 (v := (q2.2 75 7)) (congrArg (q2.2 75) (by decide)) ?_
            refine lv_iload_n hx hb dX5_sign_108 rfl (lv_at hl 1 rfl) ?_
            refine lv_if_eq (tgt := 117) hx hb dX5_sign_109 (by decide) (fun _ => ?_) (fun c9 => absurd c9 (by decide))
            refine lv_iconst (v := 5) hx hb dX5_sign_117 (by decide) ?_
            refine lv_iadd hx hb dX5_sign_118 ?_
            refine lv_bipush (v := 120) hx hb dX5_sign_119 (by decide) ?_
            refine lv_icmp_le (tgt := 130) hx hb dX5_sign_121 (by decide) (fun c10 => ?_) (fun c10 => ?_)
            · replace h := ift h c10
              refine lv_aload_n hx hb dX5_sign_130 rfl (lv_at hl 3 rfl) ?_
              refine lv_sipush (v := 840) hx hb dX5_sign_131 (by decide) ?_
              refine lv_aload_n hx hb dX5_sign_134 rfl (lv_at hl 3 rfl) ?_
              refine wg_i C hW (k := 73) (ci := 5) (j := 10) k73 rfl ⟨by decide, rfl⟩ inX5 (by decide) (rfq k73 rfl) (v := (q2.2 73 10)) rfl hL86 (fun _ h9 => h9) dX5_sign_135 ?_
              refine lv_sipush (v := 840) hx hb dX5_sign_138 (by decide) ?_
              refine lv_isub hx hb dX5_sign_141 ?_
              refine lv_iload_n hx hb dX5_sign_142 rfl (lv_at hl 4 rfl) ?_
              refine lv_iconst (v := 1) hx hb dX5_sign_143 (by decide) ?_
              refine lv_iadd hx hb dX5_sign_144 ?_
              obtain ⟨q4, hq4, h⟩ := ob h
              refine wc_Vi C hW (k := 73) (As := [.int 840, .int ((q2.2 73 10) - 840), .int (a1 + 1)]) (rest := []) (c_X5_mixOf G 840 ((q2.2 73 10) - 840) (a1 + 1) q2.2 q4 hq4) k73 rfl (by decide) (cwV 3 hts gX5_sign_X5_mixOf rfl rfl rfl yd_X5_mixOf ⟨Nat.le_of_ble_eq_true rfl, Nat.le_of_ble_eq_true rfl⟩) rfl hl.1 rfl (Nat.le_of_ble_eq_true rfl) dX5_sign_145 ⟨Nat.le_refl 0, Nat.le_refl 0⟩ (fun H locs hW => ?_)
              refine lv_istore (lv' := [(5, .int q4.1), (4, .int (q2.2 74 (q2.2 73 10).toNatClampNeg)), (3, .int 0), (2, .int q1.1), (0, .ref (ga G 73)), (1, .int a1)]) hx hb dX5_sign_148 hl (by decide) rfl (fun ls hl => ?_)
              refine lv_iload_n hx hb dX5_sign_150 rfl (lv_at hl 2 rfl) ?_
              refine lv_if_eq (tgt := 159) hx hb dX5_sign_151 (by decide) (fun _ => ?_) (fun c11 => absurd c11 (by decide))
              refine lv_aload_n hx hb dX5_sign_159 rfl (lv_at hl 4 rfl) ?_
              refine wg_r C hW (k := 73) (ci := 5) (j := 1) (q := 74) k73 rfl ⟨by decide, rfl⟩ inX5 (by decide) (rfq k73 rfl) hL7 (fun _ h9 => h9) dX5_sign_160 ?_
              refine lv_aload_n hx hb dX5_sign_163 rfl (lv_at hl 4 rfl) ?_
              refine wg_i C hW (k := 73) (ci := 5) (j := 10) k73 rfl ⟨by decide, rfl⟩ inX5 (by decide) (rfq k73 rfl) (v := (q4.2 73 10)) rfl hL86 (fun _ h9 => h9) dX5_sign_164 ?_
              refine lv_iload hx hb dX5_sign_167 (lv_at hl 1 rfl) ?_
              refine lv_iconst (v := 1) hx hb dX5_sign_169 (by decide) ?_
              refine lv_iadd hx hb dX5_sign_170 ?_
              obtain ⟨hg2, h⟩ := ifg h
              refine wa_s C hW (k := 74) k74 hg2 dX5_sign_171 (fun H locs hW => ?_)
              refine lv_aload_n hx hb dX5_sign_172 rfl (lv_at hl 4 rfl) ?_
              refine lv_iload_n hx hb dX5_sign_173 rfl (lv_at hl 5 rfl) ?_
              obtain ⟨q5, hq5, h⟩ := ob h
              refine wc_Vv C hW (k := 73) (As := [.int a1]) (rest := []) (c_X5_add G a1 (up q4.2 74 (q4.2 73 10).toNatClampNeg ((q2.2 74 (q2.2 73 10).toNatClampNeg) + 1)) q5 hq5) k73 rfl (by decide) (cwV 1 hts gX5_sign_X5_add rfl rfl rfl yd_X5_add ⟨Nat.le_of_ble_eq_true rfl, Nat.le_of_ble_eq_true rfl⟩) rfl hl.1 rfl (Nat.le_of_ble_eq_true rfl) dX5_sign_174 ⟨Nat.le_refl 0, Nat.le_refl 0⟩ (fun H locs hW => ?_)
              refine lv_aload_n hx hb dX5_sign_177 rfl (lv_at hl 4 rfl) ?_
              refine lv_iload hx hb dX5_sign_178 (lv_at hl 0 rfl) ?_
              obtain ⟨q6, hq6, h⟩ := ob h
              refine wc_Vv C hW (k := 73) (As := [.int q4.1]) (rest := []) (c_X5_addFour G q4.1 q5.2 q6 hq6) k73 rfl (by decide) (cwV 1 hts gX5_sign_X5_addFour rfl rfl rfl yd_X5_addFour ⟨Nat.le_of_ble_eq_true rfl, Nat.le_of_ble_eq_true rfl⟩) rfl hl.1 rfl (Nat.le_of_ble_eq_true rfl) dX5_sign_180 ⟨Nat.le_refl 0, Nat.le_refl 0⟩ (fun H locs hW => ?_)
              refine lv_iload hx hb dX5_sign_183 (lv_at hl 1 rfl) ?_
              refine lv_iconst (v := 1) hx hb dX5_sign_185 (by decide) ?_
              refine lv_iadd hx hb dX5_sign_186 ?_
              exact wr_i C hr hW h dX5_sign_187
            · replace h := iff_ h c10
              refine lv_aload_n hx hb dX5_sign_124 rfl (lv_at hl 3 rfl) ?_
              refine lv_iconst (v := 3) hx hb dX5_sign_125 (by decide) ?_
              obtain ⟨q7, hq7, h⟩ := ob h
              refine wc_Vi C hW (k := 73) (As := [.int 3]) (rest := []) (c_X5_fail G 3 q2.2 q7 hq7) k73 rfl (by decide) (cwV 1 hts gX5_sign_X5_fail rfl rfl rfl yd_X5_fail ⟨Nat.le_of_ble_eq_true rfl, Nat.le_of_ble_eq_true rfl⟩) rfl hl.1 rfl (Nat.le_of_ble_eq_true rfl) dX5_sign_126 ⟨Nat.le_refl 0, Nat.le_refl 0⟩ (fun H locs hW => ?_)
              exact wr_i C hr hW h dX5_sign_129
        · replace h := ift h c6
          refine lv_iload_n hx hb dX5_sign_65 rfl (lv_at hl 0 rfl) ?_
          refine lv_if_ne (tgt := 75) hx hb dX5_sign_66 (by decide) (fun c12 => absurd c12 (by decide)) (fun _ => ?_)
          refine lv_aload_n hx hb dX5_sign_69 rfl (lv_at hl 2 rfl) ?_
          refine lv_iconst (v := 2) hx hb dX5_sign_70 (by decide) ?_
          obtain ⟨q8, hq8, h⟩ := ob h
          refine wc_Vi C hW (k := 73) (As := [.int 2]) (rest := []) (c_X5_fail G 2 q2.2 q8 hq8) k73 rfl (by decide) (cwV 1 hts gX5_sign_X5_fail rfl rfl rfl yd_X5_fail ⟨Nat.le_of_ble_eq_true rfl, Nat.le_of_ble_eq_true rfl⟩) rfl hl.1 rfl (Nat.le_of_ble_eq_true rfl) dX5_sign_71 ⟨Nat.le_refl 0, Nat.le_refl 0⟩ (fun H locs hW => ?_)
          exact wr_i C hr hW h dX5_sign_74
      · replace h := iff_ h c5
        refine lv_aload_n hx hb dX5_sign_44 rfl (lv_at hl 1 rfl) ?_
        refine wg_i C hW (k := 73) (ci := 5) (j := 7) k73 rfl ⟨by decide, rfl⟩ inX5 (by decide) (rfq k73 rfl) (v := (q2.2 73 7)) rfl hL49 (fun _ h9 => h9) dX5_sign_45 ?_
        refine lv_aload_n hx hb dX5_sign_48 rfl (lv_at hl 1 rfl) ?_
        refine wg_i C hW (k := 73) (ci := 5) (j := 8) k73 rfl ⟨by decide, rfl⟩ inX5 (by decide) (rfq k73 rfl) (v := (q2.2 73 8)) rfl hL52 (fun _ h9 => h9) dX5_sign_49 ?_
        refine lv_icmp_ne (tgt := 59) hx hb dX5_sign_52 (by decide) (fun c13 => ?_) (fun c13 => ?_)
        · replace h := iff_ h c13
          refine lv_iconst (v := 0) hx hb dX5_sign_59 (by decide) ?_
          refine lv_istore_n (lv' := [(3, .int 0), (2, .int q1.1), (0, .ref (ga G 73)), (1, .int a1)]) hx hb dX5_sign_60 rfl hl (by decide) rfl (fun ls hl => ?_)
          refine lv_iload_n hx hb dX5_sign_61 rfl (lv_at hl 1 rfl) ?_
          refine lv_if_ne (tgt := 75) hx hb dX5_sign_62 (by decide) (fun c14 => ?_) (fun c14 => ?_)
          · replace h := iff_ h c14
            refine lv_iload_n hx hb dX5_sign_75 rfl (lv_at hl 0 rfl) ?_
            refine lv_if_eq (tgt := 83) hx hb dX5_sign_76 (by decide) (fun _ => ?_) (fun c15 => absurd c15 (by decide))
            refine lv_aload_n hx hb dX5_sign_83 rfl (lv_at hl 2 rfl) ?_
            refine wg_r C hW (k := 73) (ci := 5) (j := 1) (q := 74) k73 rfl ⟨by decide, rfl⟩ inX5 (by decide) (rfq k73 rfl) hL7 (fun _ h9 => h9) dX5_sign_84 ?_
            refine lv_aload_n hx hb dX5_sign_87 rfl (lv_at hl 2 rfl) ?_
            refine wg_i C hW (k := 73) (ci := 5) (j := 10) k73 rfl ⟨by decide, rfl⟩ inX5 (by decide) (rfq k73 rfl) (v := (q2.2 73 10)) rfl hL86 (fun _ h9 => h9) dX5_sign_88 ?_
            obtain ⟨hg3, h⟩ := ifg h
            refine wa_l C hW (k := 74) k74 hg3 dX5_sign_91 (v := (q2.2 74 (q2.2 73 10).toNatClampNeg)) rfl ?_
            refine lv_istore (lv' := [(4, .int (q2.2 74 (q2.2 73 10).toNatClampNeg)), (3, .int 0), (2, .int q1.1), (0, .ref (ga G 73)), (1, .int a1)]) hx hb dX5_sign_92 hl (by decide) rfl (fun ls hl => ?_)
            refine lv_iload hx hb dX5_sign_94 (lv_at hl 0 rfl) ?_
            refine lv_bipush (v := 6) hx hb dX5_sign_96 (by decide) ?_
            refine lv_icmp_eq (tgt := 124) hx hb dX5_sign_98 (by decide) (fun c16 => ?_) (fun c16 => ?_)
            · replace h := ift h c16
              refine lv_aload_n hx hb dX5_sign_124 rfl (lv_at hl 3 rfl) ?_
              refine lv_iconst (v := 3) hx hb dX5_sign_125 (by decide) ?_
              obtain ⟨q9, hq9, h⟩ := ob h
              refine wc_Vi C hW (k := 73) (As := [.int 3]) (rest := []) (c_X5_fail G 3 q2.2 q9 hq9) k73 rfl (by decide) (cwV 1 hts gX5_sign_X5_fail rfl rfl rfl yd_X5_fail ⟨Nat.le_of_ble_eq_true rfl, Nat.le_of_ble_eq_true rfl⟩) rfl hl.1 rfl (Nat.le_of_ble_eq_true rfl) dX5_sign_126 ⟨Nat.le_refl 0, Nat.le_refl 0⟩ (fun H locs hW => ?_)
              exact wr_i C hr hW h dX5_sign_129
            · replace h := iff_ h c16
              refine lv_aload_n hx hb dX5_sign_101 rfl (lv_at hl 3 rfl) ?_
              refine wg_r C hW (k := 73) (ci := 5) (j := 2) (q := 75) k73 rfl ⟨by decide, rfl⟩ inX5 (by decide) (rfq k73 rfl) hL13 (fun _ h9 => h9) dX5_sign_102 ?_
              refine lv_bipush (v := 7) hx hb dX5_sign_105 (by decide) ?_
              refine wa_l C hW (k := 75) k75 (by decide) dX5_sign_107 (v := (q2.2 75 7)) (congrArg (q2.2 75) (by decide)) ?_
              refine lv_iload_n hx hb dX5_sign_108 rfl (lv_at hl 1 rfl) ?_
              refine lv_if_eq (tgt := 117) hx hb dX5_sign_109 (by decide) (fun _ => ?_) (fun c17 => absurd c17 (by decide))
              refine lv_iconst (v := 5) hx hb dX5_sign_117 (by decide) ?_
              refine lv_iadd hx hb dX5_sign_118 ?_
              refine lv_bipush (v := 120) hx hb dX5_sign_119 (by decide) ?_
              refine lv_icmp_le (tgt := 130) hx hb dX5_sign_121 (by decide) (fun c18 => ?_) (fun c18 => ?_)
              · replace h := ift h c18
                refine lv_aload_n hx hb dX5_sign_130 rfl (lv_at hl 3 rfl) ?_
                refine lv_sipush (v := 840) hx hb dX5_sign_131 (by decide) ?_
                refine lv_aload_n hx hb dX5_sign_134 rfl (lv_at hl 3 rfl) ?_
                refine wg_i C hW (k := 73) (ci := 5) (j := 10) k73 rfl ⟨by decide, rfl⟩ inX5 (by decide) (rfq k73 rfl) (v := (q2.2 73 10)) rfl hL86 (fun _ h9 => h9) dX5_sign_135 ?_
                refine lv_sipush (v := 840) hx hb dX5_sign_138 (by decide) ?_
                refine lv_isub hx hb dX5_sign_141 ?_
                refine lv_iload_n hx hb dX5_sign_142 rfl (lv_at hl 4 rfl) ?_
                refine lv_iconst (v := 1) hx hb dX5_sign_143 (by decide) ?_
                refine lv_iadd hx hb dX5_sign_144 ?_
                obtain ⟨q10, hq10, h⟩ := ob h
                refine wc_Vi C hW (k := 73) (As := [.int 840, .int ((q2.2 73 10) - 840), .int (a1 + 1)]) (rest := []) (c_X5_mixOf G 840 ((q2.2 73 10) - 840) (a1 + 1) q2.2 q10 hq10) k73 rfl (by decide) (cwV 3 hts gX5_sign_X5_mixOf rfl rfl rfl yd_X5_mixOf ⟨Nat.le_of_ble_eq_true rfl, Nat.le_of_ble_eq_true rfl⟩) rfl hl.1 rfl (Nat.le_of_ble_eq_true rfl) dX5_sign_145 ⟨Nat.le_refl 0, Nat.le_refl 0⟩ (fun H locs hW => ?_)
                refine lv_istore (lv' := [(5, .int q10.1), (4, .int (q2.2 74 (q2.2 73 10).toNatClampNeg)), (3, .int 0), (2, .int q1.1), (0, .ref (ga G 73)), (1, .int a1)]) hx hb dX5_sign_148 hl (by decide) rfl (fun ls hl => ?_)
                refine lv_iload_n hx hb dX5_sign_150 rfl (lv_at hl 2 rfl) ?_
                refine lv_if_eq (tgt := 159) hx hb dX5_sign_151 (by decide) (fun _ => ?_) (fun c19 => absurd c19 (by decide))
                refine lv_aload_n hx hb dX5_sign_159 rfl (lv_at hl 4 rfl) ?_
                refine wg_r C hW (k := 73) (ci := 5) (j := 1) (q := 74) k73 rfl ⟨by decide, rfl⟩ inX5 (by decide) (rfq k73 rfl) hL7 (fun _ h9 => h9) dX5_sign_160 ?_
                refine lv_aload_n hx hb dX5_sign_163 rfl (lv_at hl 4 rfl) ?_
                refine wg_i C hW (k := 73) (ci := 5) (j := 10) k73 rfl ⟨by decide, rfl⟩ inX5 (by decide) (rfq k73 rfl) (v := (q10.2 73 10)) rfl hL86 (fun _ h9 => h9) dX5_sign_164 ?_
                refine lv_iload hx hb dX5_sign_167 (lv_at hl 1 rfl) ?_
                refine lv_iconst (v := 1) hx hb dX5_sign_169 (by decide) ?_
                refine lv_iadd hx hb dX5_sign_170 ?_
                obtain ⟨hg4, h⟩ := ifg h
                refine wa_s C hW (k := 74) k74 hg4 dX5_sign_171 (fun H locs hW => ?_)
                refine lv_aload_n hx hb dX5_sign_172 rfl (lv_at hl 4 rfl) ?_
                refine lv_iload_n hx hb dX5_sign_173 rfl (lv_at hl 5 rfl) ?_
                obtain ⟨q11, hq11, h⟩ := ob h
                refine wc_Vv C hW (k := 73) (As := [.int a1]) (rest := []) (c_X5_add G a1 (up q10.2 74 (q10.2 73 10).toNatClampNeg ((q2.2 74 (q2.2 73 10).toNatClampNeg) + 1)) q11 hq11) k73 rfl (by decide) (cwV 1 hts gX5_sign_X5_add rfl rfl rfl yd_X5_add ⟨Nat.le_of_ble_eq_true rfl, Nat.le_of_ble_eq_true rfl⟩) rfl hl.1 rfl (Nat.le_of_ble_eq_true rfl) dX5_sign_174 ⟨Nat.le_refl 0, Nat.le_refl 0⟩ (fun H locs hW => ?_)
                refine lv_aload_n hx hb dX5_sign_177 rfl (lv_at hl 4 rfl) ?_
                refine lv_iload hx hb dX5_sign_178 (lv_at hl 0 rfl) ?_
                obtain ⟨q12, hq12, h⟩ := ob h
                refine wc_Vv C hW (k := 73) (As := [.int q10.1]) (rest := []) (c_X5_addFour G q10.1 q11.2 q12 hq12) k73 rfl (by decide) (cwV 1 hts gX5_sign_X5_addFour rfl rfl rfl yd_X5_addFour ⟨Nat.le_of_ble_eq_true rfl, Nat.le_of_ble_eq_true rfl⟩) rfl hl.1 rfl (Nat.le_of_ble_eq_true rfl) dX5_sign_180 ⟨Nat.le_refl 0, Nat.le_refl 0⟩ (fun H locs hW => ?_)
                refine lv_iload hx hb dX5_sign_183 (lv_at hl 1 rfl) ?_
                refine lv_iconst (v := 1) hx hb dX5_sign_185 (by decide) ?_
                refine lv_iadd hx hb dX5_sign_186 ?_
                exact wr_i C hr hW h dX5_sign_187
              · replace h := iff_ h c18
                refine lv_aload_n hx hb dX5_sign_124 rfl (lv_at hl 3 rfl) ?_
                refine lv_iconst (v := 3) hx hb dX5_sign_125 (by decide) ?_
                obtain ⟨q13, hq13, h⟩ := ob h
                refine wc_Vi C hW (k := 73) (As := [.int 3]) (rest := []) (c_X5_fail G 3 q2.2 q13 hq13) k73 rfl (by decide) (cwV 1 hts gX5_sign_X5_fail rfl rfl rfl yd_X5_fail ⟨Nat.le_of_ble_eq_true rfl, Nat.le_of_ble_eq_true rfl⟩) rfl hl.1 rfl (Nat.le_of_ble_eq_true rfl) dX5_sign_126 ⟨Nat.le_refl 0, Nat.le_refl 0⟩ (fun H locs hW => ?_)
                exact wr_i C hr hW h dX5_sign_129
          · replace h := ift h c14
            refine lv_iload_n hx hb dX5_sign_65 rfl (lv_at hl 0 rfl) ?_
            refine lv_if_ne (tgt := 75) hx hb dX5_sign_66 (by decide) (fun c20 => absurd c20 (by decide)) (fun _ => ?_)
            refine lv_aload_n hx hb dX5_sign_69 rfl (lv_at hl 2 rfl) ?_
            refine lv_iconst (v := 2) hx hb dX5_sign_70 (by decide) ?_
            obtain ⟨q14, hq14, h⟩ := ob h
            refine wc_Vi C hW (k := 73) (As := [.int 2]) (rest := []) (c_X5_fail G 2 q2.2 q14 hq14) k73 rfl (by decide) (cwV 1 hts gX5_sign_X5_fail rfl rfl rfl yd_X5_fail ⟨Nat.le_of_ble_eq_true rfl, Nat.le_of_ble_eq_true rfl⟩) rfl hl.1 rfl (Nat.le_of_ble_eq_true rfl) dX5_sign_71 ⟨Nat.le_refl 0, Nat.le_refl 0⟩ (fun H locs hW => ?_)
            exact wr_i C hr hW h dX5_sign_74
        · replace h := ift h c13
          refine lv_iconst (v := 1) hx hb dX5_sign_55 (by decide) ?_
          refine lv_goto (tgt := 60) hx hb dX5_sign_56 (by decide) ?_
          refine lv_istore_n (lv' := [(3, .int 1), (2, .int q1.1), (0, .ref (ga G 73)), (1, .int a1)]) hx hb dX5_sign_60 rfl hl (by decide) rfl (fun ls hl => ?_)
          refine lv_iload_n hx hb dX5_sign_61 rfl (lv_at hl 1 rfl) ?_
          refine lv_if_ne (tgt := 75) hx hb dX5_sign_62 (by decide) (fun c21 => ?_) (fun c21 => ?_)
          · replace h := iff_ h c21
            refine lv_iload_n hx hb dX5_sign_75 rfl (lv_at hl 0 rfl) ?_
            refine lv_if_eq (tgt := 83) hx hb dX5_sign_76 (by decide) (fun c22 => absurd c22 (by decide)) (fun _ => ?_)
            refine lv_iconst (v := 0) hx hb dX5_sign_79 (by decide) ?_
            refine lv_goto (tgt := 92) hx hb dX5_sign_80 (by decide) ?_
            refine lv_istore (lv' := [(4, .int 0), (3, .int 1), (2, .int q1.1), (0, .ref (ga G 73)), (1, .int a1)]) hx hb dX5_sign_92 hl (by decide) rfl (fun ls hl => ?_)
            refine lv_iload hx hb dX5_sign_94 (lv_at hl 0 rfl) ?_
            refine lv_bipush (v := 6) hx hb dX5_sign_96 (by decide) ?_
            refine lv_icmp_eq (tgt := 124) hx hb dX5_sign_98 (by decide) (fun c23 => absurd c23 (by decide)) (fun _ => ?_)
            refine lv_aload_n hx hb dX5_sign_101 rfl (lv_at hl 3 rfl) ?_
            refine wg_r C hW (k := 73) (ci := 5) (j := 2) (q := 75) k73 rfl ⟨by decide, rfl⟩ inX5 (by decide) (rfq k73 rfl) hL13 (fun _ h9 => h9) dX5_sign_102 ?_
            refine lv_bipush (v := 7) hx hb dX5_sign_105 (by decide) ?_
            refine wa_l C hW (k := 75) k75 (by decide) dX5_sign_107 (v := (q2.2 75 7)) (congrArg (q2.2 75) (by decide)) ?_
            refine lv_iload_n hx hb dX5_sign_108 rfl (lv_at hl 1 rfl) ?_
            refine lv_if_eq (tgt := 117) hx hb dX5_sign_109 (by decide) (fun c24 => absurd c24 (by decide)) (fun _ => ?_)
            refine lv_bipush (v := 6) hx hb dX5_sign_112 (by decide) ?_
            refine lv_goto (tgt := 118) hx hb dX5_sign_114 (by decide) ?_
            refine lv_iadd hx hb dX5_sign_118 ?_
            refine lv_bipush (v := 120) hx hb dX5_sign_119 (by decide) ?_
            refine lv_icmp_le (tgt := 130) hx hb dX5_sign_121 (by decide) (fun c25 => ?_) (fun c25 => ?_)
            · replace h := ift h c25
              refine lv_aload_n hx hb dX5_sign_130 rfl (lv_at hl 3 rfl) ?_
              refine lv_sipush (v := 840) hx hb dX5_sign_131 (by decide) ?_
              refine lv_aload_n hx hb dX5_sign_134 rfl (lv_at hl 3 rfl) ?_
              refine wg_i C hW (k := 73) (ci := 5) (j := 10) k73 rfl ⟨by decide, rfl⟩ inX5 (by decide) (rfq k73 rfl) (v := (q2.2 73 10)) rfl hL86 (fun _ h9 => h9) dX5_sign_135 ?_
              refine lv_sipush (v := 840) hx hb dX5_sign_138 (by decide) ?_
              refine lv_isub hx hb dX5_sign_141 ?_
              refine lv_iload_n hx hb dX5_sign_142 rfl (lv_at hl 4 rfl) ?_
              refine lv_iconst (v := 1) hx hb dX5_sign_143 (by decide) ?_
              refine lv_iadd hx hb dX5_sign_144 ?_
              obtain ⟨q15, hq15, h⟩ := ob h
              refine wc_Vi C hW (k := 73) (As := [.int 840, .int ((q2.2 73 10) - 840), .int (a1 + 1)]) (rest := []) (c_X5_mixOf G 840 ((q2.2 73 10) - 840) (a1 + 1) q2.2 q15 hq15) k73 rfl (by decide) (cwV 3 hts gX5_sign_X5_mixOf rfl rfl rfl yd_X5_mixOf ⟨Nat.le_of_ble_eq_true rfl, Nat.le_of_ble_eq_true rfl⟩) rfl hl.1 rfl (Nat.le_of_ble_eq_true rfl) dX5_sign_145 ⟨Nat.le_refl 0, Nat.le_refl 0⟩ (fun H locs hW => ?_)
              refine lv_istore (lv' := [(5, .int q15.1), (4, .int 0), (3, .int 1), (2, .int q1.1), (0, .ref (ga G 73)), (1, .int a1)]) hx hb dX5_sign_148 hl (by decide) rfl (fun ls hl => ?_)
              refine lv_iload_n hx hb dX5_sign_150 rfl (lv_at hl 2 rfl) ?_
              refine lv_if_eq (tgt := 159) hx hb dX5_sign_151 (by decide) (fun c26 => absurd c26 (by decide)) (fun _ => ?_)
              refine lv_aload_n hx hb dX5_sign_154 rfl (lv_at hl 4 rfl) ?_
              refine lv_iconst (v := 0) hx hb dX5_sign_155 (by decide) ?_
              obtain ⟨q16, hq16, h⟩ := ob h
              refine wc_Vv C hW (k := 73) (As := [.int 0]) (rest := []) (c_X5_add G 0 q15.2 q16 hq16) k73 rfl (by decide) (cwV 1 hts gX5_sign_X5_add rfl rfl rfl yd_X5_add ⟨Nat.le_of_ble_eq_true rfl, Nat.le_of_ble_eq_true rfl⟩) rfl hl.1 rfl (Nat.le_of_ble_eq_true rfl) dX5_sign_156 ⟨Nat.le_refl 0, Nat.le_refl 0⟩ (fun H locs hW => ?_)
              refine lv_aload_n hx hb dX5_sign_159 rfl (lv_at hl 4 rfl) ?_
              refine wg_r C hW (k := 73) (ci := 5) (j := 1) (q := 74) k73 rfl ⟨by decide, rfl⟩ inX5 (by decide) (rfq k73 rfl) hL7 (fun _ h9 => h9) dX5_sign_160 ?_
              refine lv_aload_n hx hb dX5_sign_163 rfl (lv_at hl 4 rfl) ?_
              refine wg_i C hW (k := 73) (ci := 5) (j := 10) k73 rfl ⟨by decide, rfl⟩ inX5 (by decide) (rfq k73 rfl) (v := (q16.2 73 10)) rfl hL86 (fun _ h9 => h9) dX5_sign_164 ?_
              refine lv_iload hx hb dX5_sign_167 (lv_at hl 1 rfl) ?_
              refine lv_iconst (v := 1) hx hb dX5_sign_169 (by decide) ?_
              refine lv_iadd hx hb dX5_sign_170 ?_
              obtain ⟨hg5, h⟩ := ifg h
              refine wa_s C hW (k := 74) k74 hg5 dX5_sign_171 (fun H locs hW => ?_)
              refine lv_aload_n hx hb dX5_sign_172 rfl (lv_at hl 4 rfl) ?_
              refine lv_iload_n hx hb dX5_sign_173 rfl (lv_at hl 5 rfl) ?_
              obtain ⟨q17, hq17, h⟩ := ob h
              refine wc_Vv C hW (k := 73) (As := [.int a1]) (rest := []) (c_X5_add G a1 (up q16.2 74 (q16.2 73 10).toNatClampNeg (0 + 1)) q17 hq17) k73 rfl (by decide) (cwV 1 hts gX5_sign_X5_add rfl rfl rfl yd_X5_add ⟨Nat.le_of_ble_eq_true rfl, Nat.le_of_ble_eq_true rfl⟩) rfl hl.1 rfl (Nat.le_of_ble_eq_true rfl) dX5_sign_174 ⟨Nat.le_refl 0, Nat.le_refl 0⟩ (fun H locs hW => ?_)
              refine lv_aload_n hx hb dX5_sign_177 rfl (lv_at hl 4 rfl) ?_
              refine lv_iload hx hb dX5_sign_178 (lv_at hl 0 rfl) ?_
              obtain ⟨q18, hq18, h⟩ := ob h
              refine wc_Vv C hW (k := 73) (As := [.int q15.1]) (rest := []) (c_X5_addFour G q15.1 q17.2 q18 hq18) k73 rfl (by decide) (cwV 1 hts gX5_sign_X5_addFour rfl rfl rfl yd_X5_addFour ⟨Nat.le_of_ble_eq_true rfl, Nat.le_of_ble_eq_true rfl⟩) rfl hl.1 rfl (Nat.le_of_ble_eq_true rfl) dX5_sign_180 ⟨Nat.le_refl 0, Nat.le_refl 0⟩ (fun H locs hW => ?_)
              refine lv_iload hx hb dX5_sign_183 (lv_at hl 1 rfl) ?_
              refine lv_iconst (v := 1) hx hb dX5_sign_185 (by decide) ?_
              refine lv_iadd hx hb dX5_sign_186 ?_
              exact wr_i C hr hW h dX5_sign_187
            · replace h := iff_ h c25
              refine lv_aload_n hx hb dX5_sign_124 rfl (lv_at hl 3 rfl) ?_
              refine lv_iconst (v := 3) hx hb dX5_sign_125 (by decide) ?_
              obtain ⟨q19, hq19, h⟩ := ob h
              refine wc_Vi C hW (k := 73) (As := [.int 3]) (rest := []) (c_X5_fail G 3 q2.2 q19 hq19) k73 rfl (by decide) (cwV 1 hts gX5_sign_X5_fail rfl rfl rfl yd_X5_fail ⟨Nat.le_of_ble_eq_true rfl, Nat.le_of_ble_eq_true rfl⟩) rfl hl.1 rfl (Nat.le_of_ble_eq_true rfl) dX5_sign_126 ⟨Nat.le_refl 0, Nat.le_refl 0⟩ (fun H locs hW => ?_)
              exact wr_i C hr hW h dX5_sign_129
          · replace h := ift h c21
            refine lv_iload_n hx hb dX5_sign_65 rfl (lv_at hl 0 rfl) ?_
            refine lv_if_ne (tgt := 75) hx hb dX5_sign_66 (by decide) (fun _ => ?_) (fun c27 => absurd c27 (by decide))
            refine lv_iload_n hx hb dX5_sign_75 rfl (lv_at hl 0 rfl) ?_
            refine lv_if_eq (tgt := 83) hx hb dX5_sign_76 (by decide) (fun c28 => absurd c28 (by decide)) (fun _ => ?_)
            refine lv_iconst (v := 0) hx hb dX5_sign_79 (by decide) ?_
            refine lv_goto (tgt := 92) hx hb dX5_sign_80 (by decide) ?_
            refine lv_istore (lv' := [(4, .int 0), (3, .int 1), (2, .int q1.1), (0, .ref (ga G 73)), (1, .int a1)]) hx hb dX5_sign_92 hl (by decide) rfl (fun ls hl => ?_)
            refine lv_iload hx hb dX5_sign_94 (lv_at hl 0 rfl) ?_
            refine lv_bipush (v := 6) hx hb dX5_sign_96 (by decide) ?_
            refine lv_icmp_eq (tgt := 124) hx hb dX5_sign_98 (by decide) (fun c29 => absurd c29 (by decide)) (fun _ => ?_)
            refine lv_aload_n hx hb dX5_sign_101 rfl (lv_at hl 3 rfl) ?_
            refine wg_r C hW (k := 73) (ci := 5) (j := 2) (q := 75) k73 rfl ⟨by decide, rfl⟩ inX5 (by decide) (rfq k73 rfl) hL13 (fun _ h9 => h9) dX5_sign_102 ?_
            refine lv_bipush (v := 7) hx hb dX5_sign_105 (by decide) ?_
            refine wa_l C hW (k := 75) k75 (by decide) dX5_sign_107 (v := (q2.2 75 7)) (congrArg (q2.2 75) (by decide)) ?_
            refine lv_iload_n hx hb dX5_sign_108 rfl (lv_at hl 1 rfl) ?_
            refine lv_if_eq (tgt := 117) hx hb dX5_sign_109 (by decide) (fun c30 => absurd c30 (by decide)) (fun _ => ?_)
            refine lv_bipush (v := 6) hx hb dX5_sign_112 (by decide) ?_
            refine lv_goto (tgt := 118) hx hb dX5_sign_114 (by decide) ?_
            refine lv_iadd hx hb dX5_sign_118 ?_
            refine lv_bipush (v := 120) hx hb dX5_sign_119 (by decide) ?_
            refine lv_icmp_le (tgt := 130) hx hb dX5_sign_121 (by decide) (fun c31 => ?_) (fun c31 => ?_)
            · replace h := ift h c31
              refine lv_aload_n hx hb dX5_sign_130 rfl (lv_at hl 3 rfl) ?_
              refine lv_sipush (v := 840) hx hb dX5_sign_131 (by decide) ?_
              refine lv_aload_n hx hb dX5_sign_134 rfl (lv_at hl 3 rfl) ?_
              refine wg_i C hW (k := 73) (ci := 5) (j := 10) k73 rfl ⟨by decide, rfl⟩ inX5 (by decide) (rfq k73 rfl) (v := (q2.2 73 10)) rfl hL86 (fun _ h9 => h9) dX5_sign_135 ?_
              refine lv_sipush (v := 840) hx hb dX5_sign_138 (by decide) ?_
              refine lv_isub hx hb dX5_sign_141 ?_
              refine lv_iload_n hx hb dX5_sign_142 rfl (lv_at hl 4 rfl) ?_
              refine lv_iconst (v := 1) hx hb dX5_sign_143 (by decide) ?_
              refine lv_iadd hx hb dX5_sign_144 ?_
              obtain ⟨q20, hq20, h⟩ := ob h
              refine wc_Vi C hW (k := 73) (As := [.int 840, .int ((q2.2 73 10) - 840), .int (a1 + 1)]) (rest := []) (c_X5_mixOf G 840 ((q2.2 73 10) - 840) (a1 + 1) q2.2 q20 hq20) k73 rfl (by decide) (cwV 3 hts gX5_sign_X5_mixOf rfl rfl rfl yd_X5_mixOf ⟨Nat.le_of_ble_eq_true rfl, Nat.le_of_ble_eq_true rfl⟩) rfl hl.1 rfl (Nat.le_of_ble_eq_true rfl) dX5_sign_145 ⟨Nat.le_refl 0, Nat.le_refl 0⟩ (fun H locs hW => ?_)
              refine lv_istore (lv' := [(5, .int q20.1), (4, .int 0), (3, .int 1), (2, .int q1.1), (0, .ref (ga G 73)), (1, .int a1)]) hx hb dX5_sign_148 hl (by decide) rfl (fun ls hl => ?_)
              refine lv_iload_n hx hb dX5_sign_150 rfl (lv_at hl 2 rfl) ?_
              refine lv_if_eq (tgt := 159) hx hb dX5_sign_151 (by decide) (fun c32 => absurd c32 (by decide)) (fun _ => ?_)
              refine lv_aload_n hx hb dX5_sign_154 rfl (lv_at hl 4 rfl) ?_
              refine lv_iconst (v := 0) hx hb dX5_sign_155 (by decide) ?_
              obtain ⟨q21, hq21, h⟩ := ob h
              refine wc_Vv C hW (k := 73) (As := [.int 0]) (rest := []) (c_X5_add G 0 q20.2 q21 hq21) k73 rfl (by decide) (cwV 1 hts gX5_sign_X5_add rfl rfl rfl yd_X5_add ⟨Nat.le_of_ble_eq_true rfl, Nat.le_of_ble_eq_true rfl⟩) rfl hl.1 rfl (Nat.le_of_ble_eq_true rfl) dX5_sign_156 ⟨Nat.le_refl 0, Nat.le_refl 0⟩ (fun H locs hW => ?_)
              refine lv_aload_n hx hb dX5_sign_159 rfl (lv_at hl 4 rfl) ?_
              refine wg_r C hW (k := 73) (ci := 5) (j := 1) (q := 74) k73 rfl ⟨by decide, rfl⟩ inX5 (by decide) (rfq k73 rfl) hL7 (fun _ h9 => h9) dX5_sign_160 ?_
              refine lv_aload_n hx hb dX5_sign_163 rfl (lv_at hl 4 rfl) ?_
              refine wg_i C hW (k := 73) (ci := 5) (j := 10) k73 rfl ⟨by decide, rfl⟩ inX5 (by decide) (rfq k73 rfl) (v := (q21.2 73 10)) rfl hL86 (fun _ h9 => h9) dX5_sign_164 ?_
              refine lv_iload hx hb dX5_sign_167 (lv_at hl 1 rfl) ?_
              refine lv_iconst (v := 1) hx hb dX5_sign_169 (by decide) ?_
              refine lv_iadd hx hb dX5_sign_170 ?_
              obtain ⟨hg6, h⟩ := ifg h
              refine wa_s C hW (k := 74) k74 hg6 dX5_sign_171 (fun H locs hW => ?_)
              refine lv_aload_n hx hb dX5_sign_172 rfl (lv_at hl 4 rfl) ?_
              refine lv_iload_n hx hb dX5_sign_173 rfl (lv_at hl 5 rfl) ?_
              obtain ⟨q22, hq22, h⟩ := ob h
              refine wc_Vv C hW (k := 73) (As := [.int a1]) (rest := []) (c_X5_add G a1 (up q21.2 74 (q21.2 73 10).toNatClampNeg (0 + 1)) q22 hq22) k73 rfl (by decide) (cwV 1 hts gX5_sign_X5_add rfl rfl rfl yd_X5_add ⟨Nat.le_of_ble_eq_true rfl, Nat.le_of_ble_eq_true rfl⟩) rfl hl.1 rfl (Nat.le_of_ble_eq_true rfl) dX5_sign_174 ⟨Nat.le_refl 0, Nat.le_refl 0⟩ (fun H locs hW => ?_)
              refine lv_aload_n hx hb dX5_sign_177 rfl (lv_at hl 4 rfl) ?_
              refine lv_iload hx hb dX5_sign_178 (lv_at hl 0 rfl) ?_
              obtain ⟨q23, hq23, h⟩ := ob h
              refine wc_Vv C hW (k := 73) (As := [.int q20.1]) (rest := []) (c_X5_addFour G q20.1 q22.2 q23 hq23) k73 rfl (by decide) (cwV 1 hts gX5_sign_X5_addFour rfl rfl rfl yd_X5_addFour ⟨Nat.le_of_ble_eq_true rfl, Nat.le_of_ble_eq_true rfl⟩) rfl hl.1 rfl (Nat.le_of_ble_eq_true rfl) dX5_sign_180 ⟨Nat.le_refl 0, Nat.le_refl 0⟩ (fun H locs hW => ?_)
              refine lv_iload hx hb dX5_sign_183 (lv_at hl 1 rfl) ?_
              refine lv_iconst (v := 1) hx hb dX5_sign_185 (by decide) ?_
              refine lv_iadd hx hb dX5_sign_186 ?_
              exact wr_i C hr hW h dX5_sign_187
            · replace h := iff_ h c31
              refine lv_aload_n hx hb dX5_sign_124 rfl (lv_at hl 3 rfl) ?_
              refine lv_iconst (v := 3) hx hb dX5_sign_125 (by decide) ?_
              obtain ⟨q24, hq24, h⟩ := ob h
              refine wc_Vi C hW (k := 73) (As := [.int 3]) (rest := []) (c_X5_fail G 3 q2.2 q24 hq24) k73 rfl (by decide) (cwV 1 hts gX5_sign_X5_fail rfl rfl rfl yd_X5_fail ⟨Nat.le_of_ble_eq_true rfl, Nat.le_of_ble_eq_true rfl⟩) rfl hl.1 rfl (Nat.le_of_ble_eq_true rfl) dX5_sign_126 ⟨Nat.le_refl 0, Nat.le_refl 0⟩ (fun H locs hW => ?_)
              exact wr_i C hr hW h dX5_sign_129
    · replace h := iff_ h c3
      refine lv_iconst (v := 1) hx hb dX5_sign_11 (by decide) ?_
      refine lv_goto (tgt := 16) hx hb dX5_sign_12 (by decide) ?_
      refine wp_t C hW (k := 73) (ci := 5) (j := 0) (ty := .int) rfl rfl k73 rfl ⟨by decide, rfl⟩ inX5 tyX5 tyX5_ok nmX5 (by decide) (rfq k73 rfl) hL26 (fun _ h9 => h9) rfl rfl dX5_sign_16 (fun H locs hW => ?_)
      refine lv_aload_n hx hb dX5_sign_19 rfl (lv_at hl 0 rfl) ?_
      refine wg_i C hW (k := 73) (ci := 5) (j := 0) k73 rfl ⟨by decide, rfl⟩ inX5 (by decide) (rfq k73 rfl) (v := 1) up_s hL26 (fun _ h9 => h9) dX5_sign_20 ?_
      refine lv_if_le (tgt := 28) hx hb dX5_sign_23 (by decide) (fun c33 => absurd c33 (by decide)) (fun _ => ?_)
      refine lv_iconst (v := 0) hx hb dX5_sign_26 (by decide) ?_
      exact wr_i C hr hW h dX5_sign_27
theorem yd_X5_copy : yX5_copy.cls = RX5 ∧ yX5_copy.cls ≠ "java/lang/invoke/MethodHandle" ∧ yX5_copy.cls ≠ "java/lang/invoke/VarHandle" ∧ (parseMethodDescriptor yX5_copy.desc).map (fun d => d.parameters.length) = some 2 := by decide +kernel
set_option maxHeartbeats 4000000 in
set_option maxRecDepth 100000 in
theorem L_X5_copy_14 {G : GG} {p : Program} {e : Env} {s : State} {m : MethodId} {args : Array Value} {below : List Frame} {meth : Method} {c : Code} {Q : State → Prop} (C : Cx G wsX5_copy RX5 cX5_copy 4 p s m args meth c) : ∀ (n : Nat) (x1 : Int32) (x2 : Int32) (x3 : Int32) (M : Me) (y : Int32 × Me) (H : Heap) (locs : List Loc) (ls : Array Slot), fL_X5_copy_14 n x1 x2 x3 M = some y → wH G s M H locs → lv_has ls 4 [(0, .ref (ga G 73)), (1, .int x1), (2, .int x2), (3, .int x3)] → (∀ (H : Heap) (locs : List Loc) (ls : Array Slot), wH G s y.2 H locs → lv_has ls 4 [] → W p (gl G) e (rmd 0 0 0) s m args below meth c H locs 0 0 Q (F0 m 52 ls [])) → W p (gl G) e (rmd 0 0 0) s m args below meth c H locs 0 0 Q (F0 m 14 ls []) := by
  have hx := C.1
  have hb := C.2.1
  have hown := C.2.2.2.1
  have hts := C.2.2.2.2.1
  have inX5 : ∀ w ∈ wsX50, w ∈ wsX5_copy := by decide +kernel
  have hL7 := hts (.fieldLink RX5 7 "TrustedUpdatesModel" "row" "[I") (by decide +kernel)
  have hL13 := hts (.fieldLink RX5 13 "TrustedUpdatesModel" "sizes" "[I") (by decide +kernel)
  intro n
  induction n with
  | zero => intro x1 x2 x3 M y H locs ls h; exact nso h
  | succ n ih =>
    intro x1 x2 x3 M y H locs ls h hW hl kx
    rw [fL_X5_copy_14] at h
    refine lv_iload_n hx hb dX5_copy_14 rfl (lv_at hl 3 rfl) ?_
    refine lv_aload_n hx hb dX5_copy_15 rfl (lv_at hl 0 rfl) ?_
    refine wg_r C hW (k := 73) (ci := 5) (j := 2) (q := 75) k73 rfl ⟨by decide, rfl⟩ inX5 (by decide) (rfq k73 rfl) hL13 (fun _ h9 => h9) dX5_copy_16 ?_
    refine lv_iload_n hx hb dX5_copy_19 rfl (lv_at hl 1 rfl) ?_
    obtain ⟨hg3, h⟩ := ifg h
    refine wa_l C hW (k := 75) k75 hg3 dX5_copy_20 (v := (M 75 x1.toNatClampNeg)) rfl ?_
    refine lv_icmp_ge (tgt := 52) hx hb dX5_copy_21 (by decide) (fun c1 => ?_) (fun c1 => ?_)
    · replace h := ift h c1
      cases h
      exact kx _ _ ls hW (lv_sub hl [] rfl)
    · replace h := iff_ h c1
      refine lv_aload_n hx hb dX5_copy_24 rfl (lv_at hl 0 rfl) ?_
      refine wg_r C hW (k := 73) (ci := 5) (j := 1) (q := 74) k73 rfl ⟨by decide, rfl⟩ inX5 (by decide) (rfq k73 rfl) hL7 (fun _ h9 => h9) dX5_copy_25 ?_
      refine lv_bipush (v := 120) hx hb dX5_copy_28 (by decide) ?_
      refine lv_iload_n hx hb dX5_copy_30 rfl (lv_at hl 2 rfl) ?_
      refine lv_imul hx hb dX5_copy_31 ?_
      refine lv_iload_n hx hb dX5_copy_32 rfl (lv_at hl 3 rfl) ?_
      refine lv_iadd hx hb dX5_copy_33 ?_
      refine lv_aload_n hx hb dX5_copy_34 rfl (lv_at hl 0 rfl) ?_
      refine wg_r C hW (k := 73) (ci := 5) (j := 1) (q := 74) k73 rfl ⟨by decide, rfl⟩ inX5 (by decide) (rfq k73 rfl) hL7 (fun _ h9 => h9) dX5_copy_35 ?_
      refine lv_bipush (v := 120) hx hb dX5_copy_38 (by decide) ?_
      refine lv_iload_n hx hb dX5_copy_40 rfl (lv_at hl 1 rfl) ?_
      refine lv_imul hx hb dX5_copy_41 ?_
      refine lv_iload_n hx hb dX5_copy_42 rfl (lv_at hl 3 rfl) ?_
      refine lv_iadd hx hb dX5_copy_43 ?_
      obtain ⟨hg4, h⟩ := ifg h
      refine wa_l C hW (k := 74) k74 hg4 dX5_copy_44 (v := (M 74 ((120 * x1) + x3).toNatClampNeg)) rfl ?_
      obtain ⟨hg5, h⟩ := ifg h
      refine wa_s C hW (k := 74) k74 hg5 dX5_copy_45 (fun H locs hW => ?_)
      refine lv_iinc (v := (x3 + 1)) (lv' := [(3, .int (x3 + 1)), (0, .ref (ga G 73)), (1, .int x1), (2, .int x2)]) hx hb dX5_copy_46 hl (k := 3) rfl rfl (by decide) rfl (fun ls hl => ?_)
      refine lv_goto (tgt := 14) hx hb dX5_copy_49 (by decide) ?_
      exact ih x1 x2 (x3 + 1) (up M 74 ((120 * x2) + x3).toNatClampNeg (M 74 ((120 * x1) + x3).toNatClampNeg)) y _ _ ls h hW (lv_sub hl [1, 2, 3, 0] rfl) kx
set_option maxHeartbeats 4000000 in
set_option maxRecDepth 100000 in
theorem c_X5_copy (G : GG) (a1 : Int32) (a2 : Int32) (M : Me) (y : Int32 × Me) (h : f_X5_copy a1 a2 M = some y) : CV G yX5_copy wsX5_copy (rmd 0 0 0) [.ref (ga G 73), .int a1, .int a2] M y := by
  rw [f_X5_copy] at h
  refine co_o (by decide) rfl rfl (Nat.le_of_ble_eq_true rfl) (fun p e s m below meth c ls C hr hW hl => ?_)
  have hx := C.1
  have hb := C.2.1
  have hown := C.2.2.2.1
  have hts := C.2.2.2.2.1
  have inX5 : ∀ w ∈ wsX50, w ∈ wsX5_copy := by decide +kernel
  have hL13 := hts (.fieldLink RX5 13 "TrustedUpdatesModel" "sizes" "[I") (by decide +kernel)
  have hl : lv_has ls 4 [(0, .ref (ga G 73)), (1, .int a1), (2, .int a2)] := hl
  refine lv_aload_n hx hb dX5_copy_0 rfl (lv_at hl 0 rfl) ?_
  refine wg_r C hW (k := 73) (ci := 5) (j := 2) (q := 75) k73 rfl ⟨by decide, rfl⟩ inX5 (by decide) (rfq k73 rfl) hL13 (fun _ h9 => h9) dX5_copy_1 ?_
  refine lv_iload_n hx hb dX5_copy_4 rfl (lv_at hl 2 rfl) ?_
  refine lv_aload_n hx hb dX5_copy_5 rfl (lv_at hl 0 rfl) ?_
  refine wg_r C hW (k := 73) (ci := 5) (j := 2) (q := 75) k73 rfl ⟨by decide, rfl⟩ inX5 (by decide) (rfq k73 rfl) hL13 (fun _ h9 => h9) dX5_copy_6 ?_
  refine lv_iload_n hx hb dX5_copy_9 rfl (lv_at hl 1 rfl) ?_
  obtain ⟨hg1, h⟩ := ifg h
  refine wa_l C hW (k := 75) k75 hg1 dX5_copy_10 (v := (M 75 a1.toNatClampNeg)) rfl ?_
  obtain ⟨hg2, h⟩ := ifg h
  refine wa_s C hW (k := 75) k75 hg2 dX5_copy_11 (fun H locs hW => ?_)
  refine lv_iconst (v := 0) hx hb dX5_copy_12 (by decide) ?_
  refine lv_istore_n (lv' := [(3, .int 0), (0, .ref (ga G 73)), (1, .int a1), (2, .int a2)]) hx hb dX5_copy_13 rfl hl (by decide) rfl (fun ls hl => ?_)
  obtain ⟨q1, hq1, h⟩ := ob h
  refine L_X5_copy_14 C 200 a1 a2 0 (up M 75 a2.toNatClampNeg (M 75 a1.toNatClampNeg)) q1 _ _ ls hq1 hW (lv_sub hl [1, 2, 3, 0] rfl) (fun H locs ls hW hl => ?_)
  exact wr_v C hr hW h dX5_copy_52
theorem yd_X5_content : yX5_content.cls = RX5 ∧ yX5_content.cls ≠ "java/lang/invoke/MethodHandle" ∧ yX5_content.cls ≠ "java/lang/invoke/VarHandle" ∧ (parseMethodDescriptor yX5_content.desc).map (fun d => d.parameters.length) = some 0 := by decide +kernel
set_option maxHeartbeats 4000000 in
set_option maxRecDepth 100000 in
theorem c_X5_content (G : GG)  (M : Me) (y : Int32 × Me) (h : f_X5_content  M = some y) : CI G yX5_content wsX5_content (rmd 1 0 0) [.ref (ga G 73)] M y := by
  rw [f_X5_content] at h
  refine co_o (by decide) rfl rfl (Nat.le_of_ble_eq_true rfl) (fun p e s m below meth c ls C hr hW hl => ?_)
  have hx := C.1
  have hb := C.2.1
  have hown := C.2.2.2.1
  have hts := C.2.2.2.2.1
  have inX5 : ∀ w ∈ wsX50, w ∈ wsX5_content := by decide +kernel
  have hL13 := hts (.fieldLink RX5 13 "TrustedUpdatesModel" "sizes" "[I") (by decide +kernel)
  have hL26 := hts (.fieldLink RX5 26 "TrustedUpdatesModel" "thrown" "I") (by decide +kernel)
  have hl : lv_has ls 1 [(0, .ref (ga G 73))] := hl
  refine lv_aload_n hx hb dX5_content_0 rfl (lv_at hl 0 rfl) ?_
  refine lv_iconst (v := 0) hx hb dX5_content_1 (by decide) ?_
  refine wp_t C hW (k := 73) (ci := 5) (j := 0) (ty := .int) rfl rfl k73 rfl ⟨by decide, rfl⟩ inX5 tyX5 tyX5_ok nmX5 (by decide) (rfq k73 rfl) hL26 (fun _ h9 => h9) rfl rfl dX5_content_2 (fun H locs hW => ?_)
  refine lv_aload_n hx hb dX5_content_5 rfl (lv_at hl 0 rfl) ?_
  refine lv_bipush (v := 7) hx hb dX5_content_6 (by decide) ?_
  refine lv_bipush (v := 8) hx hb dX5_content_8 (by decide) ?_
  obtain ⟨q1, hq1, h⟩ := ob h
  refine wc_Vv C hW (k := 73) (As := [.int 7, .int 8]) (rest := []) (c_X5_copy G 7 8 (up M 73 0 0) q1 hq1) k73 rfl (by decide) (cwV 2 hts gX5_content_X5_copy rfl rfl rfl yd_X5_copy ⟨Nat.le_of_ble_eq_true rfl, Nat.le_of_ble_eq_true rfl⟩) rfl hl.1 rfl (Nat.le_of_ble_eq_true rfl) dX5_content_10 ⟨Nat.le_refl 0, Nat.le_refl 0⟩ (fun H locs hW => ?_)
  refine lv_aload_n hx hb dX5_content_13 rfl (lv_at hl 0 rfl) ?_
  refine wg_r C hW (k := 73) (ci := 5) (j := 2) (q := 75) k73 rfl ⟨by decide, rfl⟩ inX5 (by decide) (rfq k73 rfl) hL13 (fun _ h9 => h9) dX5_content_14 ?_
  refine lv_bipush (v := 8) hx hb dX5_content_17 (by decide) ?_
  refine wa_l C hW (k := 75) k75 (by decide) dX5_content_19 (v := (q1.2 75 8)) (congrArg (q1.2 75) (by decide)) ?_
  exact wr_i C hr hW h dX5_content_20
theorem yd_X5_tick : yX5_tick.cls = RX5 ∧ yX5_tick.cls ≠ "java/lang/invoke/MethodHandle" ∧ yX5_tick.cls ≠ "java/lang/invoke/VarHandle" ∧ (parseMethodDescriptor yX5_tick.desc).map (fun d => d.parameters.length) = some 1 := by decide +kernel
set_option maxHeartbeats 4000000 in
set_option maxRecDepth 100000 in
theorem c_X5_tick (G : GG) (a1 : Int32) (M : Me) (y : Int32 × Me) (h : f_X5_tick a1 M = some y) : CI G yX5_tick wsX5_tick (rmd 0 0 0) [.ref (ga G 73), .int a1] M y := by
  rw [f_X5_tick] at h
  refine co_o (by decide) rfl rfl (Nat.le_of_ble_eq_true rfl) (fun p e s m below meth c ls C hr hW hl => ?_)
  have hx := C.1
  have hb := C.2.1
  have hown := C.2.2.2.1
  have hts := C.2.2.2.2.1
  have inX5 : ∀ w ∈ wsX50, w ∈ wsX5_tick := by decide +kernel
  have hL26 := hts (.fieldLink RX5 26 "TrustedUpdatesModel" "thrown" "I") (by decide +kernel)
  have hL106 := hts (.fieldLink RX5 106 "TrustedUpdatesModel" "clock" "I") (by decide +kernel)
  have hl : lv_has ls 2 [(0, .ref (ga G 73)), (1, .int a1)] := hl
  refine lv_aload_n hx hb dX5_tick_0 rfl (lv_at hl 0 rfl) ?_
  refine lv_iload_n hx hb dX5_tick_1 rfl (lv_at hl 1 rfl) ?_
  refine lv_if_lt (tgt := 12) hx hb dX5_tick_2 (by decide) (fun c1 => ?_) (fun c1 => ?_)
  · replace h := ift h c1
    refine lv_iconst (v := 1) hx hb dX5_tick_12 (by decide) ?_
    refine lv_goto (tgt := 17) hx hb dX5_tick_13 (by decide) ?_
    refine wp_t C hW (k := 73) (ci := 5) (j := 0) (ty := .int) rfl rfl k73 rfl ⟨by decide, rfl⟩ inX5 tyX5 tyX5_ok nmX5 (by decide) (rfq k73 rfl) hL26 (fun _ h9 => h9) rfl rfl dX5_tick_17 (fun H locs hW => ?_)
    refine lv_aload_n hx hb dX5_tick_20 rfl (lv_at hl 0 rfl) ?_
    refine lv_aload_n hx hb dX5_tick_21 rfl (lv_at hl 0 rfl) ?_
    refine wg_i C hW (k := 73) (ci := 5) (j := 0) k73 rfl ⟨by decide, rfl⟩ inX5 (by decide) (rfq k73 rfl) (v := 1) up_s hL26 (fun _ h9 => h9) dX5_tick_22 ?_
    refine lv_if_le (tgt := 35) hx hb dX5_tick_25 (by decide) (fun c2 => absurd c2 (by decide)) (fun _ => ?_)
    refine lv_aload_n hx hb dX5_tick_28 rfl (lv_at hl 0 rfl) ?_
    refine wg_i C hW (k := 73) (ci := 5) (j := 4) k73 rfl ⟨by decide, rfl⟩ inX5 (by decide) (rfq k73 rfl) (v := (M 73 4)) (up_j (by decide)) hL106 (fun _ h9 => h9) dX5_tick_29 ?_
    refine lv_goto (tgt := 41) hx hb dX5_tick_32 (by decide) ?_
    refine wp_t C hW (k := 73) (ci := 5) (j := 4) (ty := .int) rfl rfl k73 rfl ⟨by decide, rfl⟩ inX5 tyX5 tyX5_ok nmX5 (by decide) (rfq k73 rfl) hL106 (fun _ h9 => h9) rfl rfl dX5_tick_41 (fun H locs hW => ?_)
    refine lv_aload_n hx hb dX5_tick_44 rfl (lv_at hl 0 rfl) ?_
    refine wg_i C hW (k := 73) (ci := 5) (j := 0) k73 rfl ⟨by decide, rfl⟩ inX5 (by decide) (rfq k73 rfl) (v := 1) ((up_j (by decide)).trans up_s) hL26 (fun _ h9 => h9) dX5_tick_45 ?_
    refine lv_if_le (tgt := 55) hx hb dX5_tick_48 (by decide) (fun c3 => absurd c3 (by decide)) (fun _ => ?_)
    refine lv_iconst (v := 0) hx hb dX5_tick_51 (by decide) ?_
    refine lv_goto (tgt := 59) hx hb dX5_tick_52 (by decide) ?_
    exact wr_i C hr hW h dX5_tick_59
  · replace h := iff_ h c1
    refine lv_iload_n hx hb dX5_tick_5 rfl (lv_at hl 1 rfl) ?_
    refine lv_sipush (v := 10000) hx hb dX5_tick_6 (by decide) ?_
    refine lv_icmp_le (tgt := 16) hx hb dX5_tick_9 (by decide) (fun c4 => ?_) (fun c4 => ?_)
    · replace h := ift h c4
      refine lv_iconst (v := 0) hx hb dX5_tick_16 (by decide) ?_
      refine wp_t C hW (k := 73) (ci := 5) (j := 0) (ty := .int) rfl rfl k73 rfl ⟨by decide, rfl⟩ inX5 tyX5 tyX5_ok nmX5 (by decide) (rfq k73 rfl) hL26 (fun _ h9 => h9) rfl rfl dX5_tick_17 (fun H locs hW => ?_)
      refine lv_aload_n hx hb dX5_tick_20 rfl (lv_at hl 0 rfl) ?_
      refine lv_aload_n hx hb dX5_tick_21 rfl (lv_at hl 0 rfl) ?_
      refine wg_i C hW (k := 73) (ci := 5) (j := 0) k73 rfl ⟨by decide, rfl⟩ inX5 (by decide) (rfq k73 rfl) (v := 0) up_s hL26 (fun _ h9 => h9) dX5_tick_22 ?_
      refine lv_if_le (tgt := 35) hx hb dX5_tick_25 (by decide) (fun _ => ?_) (fun c5 => absurd c5 (by decide))
      refine lv_aload_n hx hb dX5_tick_35 rfl (lv_at hl 0 rfl) ?_
      refine wg_i C hW (k := 73) (ci := 5) (j := 4) k73 rfl ⟨by decide, rfl⟩ inX5 (by decide) (rfq k73 rfl) (v := (M 73 4)) (up_j (by decide)) hL106 (fun _ h9 => h9) dX5_tick_36 ?_
      refine lv_iload_n hx hb dX5_tick_39 rfl (lv_at hl 1 rfl) ?_
      refine lv_iadd hx hb dX5_tick_40 ?_
      refine wp_t C hW (k := 73) (ci := 5) (j := 4) (ty := .int) rfl rfl k73 rfl ⟨by decide, rfl⟩ inX5 tyX5 tyX5_ok nmX5 (by decide) (rfq k73 rfl) hL106 (fun _ h9 => h9) rfl rfl dX5_tick_41 (fun H locs hW => ?_)
      refine lv_aload_n hx hb dX5_tick_44 rfl (lv_at hl 0 rfl) ?_
      refine wg_i C hW (k := 73) (ci := 5) (j := 0) k73 rfl ⟨by decide, rfl⟩ inX5 (by decide) (rfq k73 rfl) (v := 0) ((up_j (by decide)).trans up_s) hL26 (fun _ h9 => h9) dX5_tick_45 ?_
      refine lv_if_le (tgt := 55) hx hb dX5_tick_48 (by decide) (fun _ => ?_) (fun c6 => absurd c6 (by decide))
      refine lv_aload_n hx hb dX5_tick_55 rfl (lv_at hl 0 rfl) ?_
      refine wg_i C hW (k := 73) (ci := 5) (j := 4) k73 rfl ⟨by decide, rfl⟩ inX5 (by decide) (rfq k73 rfl) (v := ((M 73 4) + a1)) up_s hL106 (fun _ h9 => h9) dX5_tick_56 ?_
      exact wr_i C hr hW h dX5_tick_59
    · replace h := iff_ h c4
      refine lv_iconst (v := 1) hx hb dX5_tick_12 (by decide) ?_
      refine lv_goto (tgt := 17) hx hb dX5_tick_13 (by decide) ?_
      refine wp_t C hW (k := 73) (ci := 5) (j := 0) (ty := .int) rfl rfl k73 rfl ⟨by decide, rfl⟩ inX5 tyX5 tyX5_ok nmX5 (by decide) (rfq k73 rfl) hL26 (fun _ h9 => h9) rfl rfl dX5_tick_17 (fun H locs hW => ?_)
      refine lv_aload_n hx hb dX5_tick_20 rfl (lv_at hl 0 rfl) ?_
      refine lv_aload_n hx hb dX5_tick_21 rfl (lv_at hl 0 rfl) ?_
      refine wg_i C hW (k := 73) (ci := 5) (j := 0) k73 rfl ⟨by decide, rfl⟩ inX5 (by decide) (rfq k73 rfl) (v := 1) up_s hL26 (fun _ h9 => h9) dX5_tick_22 ?_
      refine lv_if_le (tgt := 35) hx hb dX5_tick_25 (by decide) (fun c7 => absurd c7 (by decide)) (fun _ => ?_)
      refine lv_aload_n hx hb dX5_tick_28 rfl (lv_at hl 0 rfl) ?_
      refine wg_i C hW (k := 73) (ci := 5) (j := 4) k73 rfl ⟨by decide, rfl⟩ inX5 (by decide) (rfq k73 rfl) (v := (M 73 4)) (up_j (by decide)) hL106 (fun _ h9 => h9) dX5_tick_29 ?_
      refine lv_goto (tgt := 41) hx hb dX5_tick_32 (by decide) ?_
      refine wp_t C hW (k := 73) (ci := 5) (j := 4) (ty := .int) rfl rfl k73 rfl ⟨by decide, rfl⟩ inX5 tyX5 tyX5_ok nmX5 (by decide) (rfq k73 rfl) hL106 (fun _ h9 => h9) rfl rfl dX5_tick_41 (fun H locs hW => ?_)
      refine lv_aload_n hx hb dX5_tick_44 rfl (lv_at hl 0 rfl) ?_
      refine wg_i C hW (k := 73) (ci := 5) (j := 0) k73 rfl ⟨by decide, rfl⟩ inX5 (by decide) (rfq k73 rfl) (v := 1) ((up_j (by decide)).trans up_s) hL26 (fun _ h9 => h9) dX5_tick_45 ?_
      refine lv_if_le (tgt := 55) hx hb dX5_tick_48 (by decide) (fun c8 => absurd c8 (by decide)) (fun _ => ?_)
      refine lv_iconst (v := 0) hx hb dX5_tick_51 (by decide) ?_
      refine lv_goto (tgt := 59) hx hb dX5_tick_52 (by decide) ?_
      exact wr_i C hr hW h dX5_tick_59
theorem yd_X5_roleOfDraft : yX5_roleOfDraft.cls = RX5 ∧ yX5_roleOfDraft.cls ≠ "java/lang/invoke/MethodHandle" ∧ yX5_roleOfDraft.cls ≠ "java/lang/invoke/VarHandle" ∧ (parseMethodDescriptor yX5_roleOfDraft.desc).map (fun d => d.parameters.length) = some 0 := by decide +kernel
set_option maxHeartbeats 4000000 in
set_option maxRecDepth 100000 in
theorem c_X5_roleOfDraft (G : GG)  (M : Me) (y : Int32 × Me) (h : f_X5_roleOfDraft  M = some y) : CI G yX5_roleOfDraft wsX5_roleOfDraft (rmd 0 0 0) [.ref (ga G 73)] M y := by
  rw [f_X5_roleOfDraft] at h
  refine co_o (by decide) rfl rfl (Nat.le_of_ble_eq_true rfl) (fun p e s m below meth c ls C hr hW hl => ?_)
  have hx := C.1
  have hb := C.2.1
  have hown := C.2.2.2.1
  have hts := C.2.2.2.2.1
  have inX5 : ∀ w ∈ wsX50, w ∈ wsX5_roleOfDraft := by decide +kernel
  have hL7 := hts (.fieldLink RX5 7 "TrustedUpdatesModel" "row" "[I") (by decide +kernel)
  have hl : lv_has ls 1 [(0, .ref (ga G 73))] := hl
  refine lv_aload_n hx hb dX5_roleOfDraft_0 rfl (lv_at hl 0 rfl) ?_
  refine wg_r C hW (k := 73) (ci := 5) (j := 1) (q := 74) k73 rfl ⟨by decide, rfl⟩ inX5 (by decide) (rfq k73 rfl) hL7 (fun _ h9 => h9) dX5_roleOfDraft_1 ?_
  refine lv_sipush (v := 840) hx hb dX5_roleOfDraft_4 (by decide) ?_
  refine wa_l C hW (k := 74) k74 (by decide) dX5_roleOfDraft_7 (v := (M 74 840)) (congrArg (M 74) (by decide)) ?_
  exact wr_i C hr hW h dX5_roleOfDraft_8
theorem yd_X5_trust : yX5_trust.cls = RX5 ∧ yX5_trust.cls ≠ "java/lang/invoke/MethodHandle" ∧ yX5_trust.cls ≠ "java/lang/invoke/VarHandle" ∧ (parseMethodDescriptor yX5_trust.desc).map (fun d => d.parameters.length) = some 1 := by decide +kernel
set_option maxHeartbeats 4000000 in
set_option maxRecDepth 100000 in
theorem c_X5_trust (G : GG) (a1 : Int32) (M : Me) (y : Int32 × Me) (h : f_X5_trust a1 M = some y) : CV G yX5_trust wsX5_trust (rmd 1 0 0) [.ref (ga G 73), .int a1] M y := by
  rw [f_X5_trust] at h
  refine co_o (by decide) rfl rfl (Nat.le_of_ble_eq_true rfl) (fun p e s m below meth c ls C hr hW hl => ?_)
  have hx := C.1
  have hb := C.2.1
  have hown := C.2.2.2.1
  have hts := C.2.2.2.2.1
  have inX5 : ∀ w ∈ wsX50, w ∈ wsX5_trust := by decide +kernel
  have hL16 := hts (.fieldLink RX5 16 "TrustedUpdatesModel" "has" "[Z") (by decide +kernel)
  have hl : lv_has ls 2 [(0, .ref (ga G 73)), (1, .int a1)] := hl
  refine lv_aload_n hx hb dX5_trust_0 rfl (lv_at hl 0 rfl) ?_
  refine lv_bipush (v := 7) hx hb dX5_trust_1 (by decide) ?_
  refine lv_iload_n hx hb dX5_trust_3 rfl (lv_at hl 1 rfl) ?_
  obtain ⟨q1, hq1, h⟩ := ob h
  refine wc_Vv C hW (k := 73) (As := [.int 7, .int a1]) (rest := []) (c_X5_copy G 7 a1 M q1 hq1) k73 rfl (by decide) (cwV 2 hts gX5_trust_X5_copy rfl rfl rfl yd_X5_copy ⟨Nat.le_of_ble_eq_true rfl, Nat.le_of_ble_eq_true rfl⟩) rfl hl.1 rfl (Nat.le_of_ble_eq_true rfl) dX5_trust_4 ⟨Nat.le_refl 0, Nat.le_refl 0⟩ (fun H locs hW => ?_)
  refine lv_aload_n hx hb dX5_trust_7 rfl (lv_at hl 0 rfl) ?_
  refine wg_r C hW (k := 73) (ci := 5) (j := 3) (q := 76) k73 rfl ⟨by decide, rfl⟩ inX5 (by decide) (rfq k73 rfl) hL16 (fun _ h9 => h9) dX5_trust_8 ?_
  refine lv_iload_n hx hb dX5_trust_11 rfl (lv_at hl 1 rfl) ?_
  refine lv_iconst (v := 1) hx hb dX5_trust_12 (by decide) ?_
  obtain ⟨hg1, h⟩ := ifg h
  refine wz_s C hW (k := 76) k76 (by decide) hg1 dX5_trust_13 (fun H locs hW => ?_)
  exact wr_v C hr hW h dX5_trust_14
theorem yd_X5_begin : yX5_begin.cls = RX5 ∧ yX5_begin.cls ≠ "java/lang/invoke/MethodHandle" ∧ yX5_begin.cls ≠ "java/lang/invoke/VarHandle" ∧ (parseMethodDescriptor yX5_begin.desc).map (fun d => d.parameters.length) = some 0 := by decide +kernel
set_option maxHeartbeats 4000000 in
set_option maxRecDepth 100000 in
theorem L_X5_begin_35 {G : GG} {p : Program} {e : Env} {s : State} {m : MethodId} {args : Array Value} {below : List Frame} {meth : Method} {c : Code} {Q : State → Prop} (C : Cx G wsX5_begin RX5 cX5_begin 2 p s m args meth c) : ∀ (n : Nat) (x1 : Int32) (M : Me) (y : Int32 × Me) (H : Heap) (locs : List Loc) (ls : Array Slot), fL_X5_begin_35 n x1 M = some y → wH G s M H locs → lv_has ls 2 [(0, .ref (ga G 73)), (1, .int x1)] → (∀ (H : Heap) (locs : List Loc) (ls : Array Slot), wH G s y.2 H locs → lv_has ls 2 [(0, .ref (ga G 73))] → W p (gl G) e (rmd 7 0 0) s m args below meth c H locs 0 0 Q (F0 m 54 ls [])) → W p (gl G) e (rmd 7 0 0) s m args below meth c H locs 0 0 Q (F0 m 35 ls []) := by
  have hx := C.1
  have hb := C.2.1
  have hown := C.2.2.2.1
  have hts := C.2.2.2.2.1
  have inX5 : ∀ w ∈ wsX50, w ∈ wsX5_begin := by decide +kernel
  have hL16 := hts (.fieldLink RX5 16 "TrustedUpdatesModel" "has" "[Z") (by decide +kernel)
  intro n
  induction n with
  | zero => intro x1 M y H locs ls h; exact nso h
  | succ n ih =>
    intro x1 M y H locs ls h hW hl kx
    rw [fL_X5_begin_35] at h
    refine lv_iload_n hx hb dX5_begin_35 rfl (lv_at hl 1 rfl) ?_
    refine lv_bipush (v := 7) hx hb dX5_begin_36 (by decide) ?_
    refine lv_icmp_ge (tgt := 54) hx hb dX5_begin_38 (by decide) (fun c6 => ?_) (fun c6 => ?_)
    · replace h := ift h c6
      cases h
      exact kx _ _ ls hW (lv_sub hl [0] rfl)
    · replace h := iff_ h c6
      refine lv_aload_n hx hb dX5_begin_41 rfl (lv_at hl 0 rfl) ?_
      refine wg_r C hW (k := 73) (ci := 5) (j := 3) (q := 76) k73 rfl ⟨by decide, rfl⟩ inX5 (by decide) (rfq k73 rfl) hL16 (fun _ h9 => h9) dX5_begin_42 ?_
      refine lv_iload_n hx hb dX5_begin_45 rfl (lv_at hl 1 rfl) ?_
      refine lv_iconst (v := 0) hx hb dX5_begin_46 (by decide) ?_
      obtain ⟨hg1, h⟩ := ifg h
      refine wz_s C hW (k := 76) k76 (by decide) hg1 dX5_begin_47 (fun H locs hW => ?_)
      refine lv_iinc (v := (x1 + 1)) (lv' := [(1, .int (x1 + 1)), (0, .ref (ga G 73))]) hx hb dX5_begin_48 hl (k := 1) rfl rfl (by decide) rfl (fun ls hl => ?_)
      refine lv_goto (tgt := 35) hx hb dX5_begin_51 (by decide) ?_
      exact ih (x1 + 1) (up M 76 x1.toNatClampNeg 0) y _ _ ls h hW (lv_sub hl [1, 0] rfl) kx
set_option maxHeartbeats 4000000 in
set_option maxRecDepth 100000 in
theorem c_X5_begin (G : GG)  (M : Me) (y : Int32 × Me) (h : f_X5_begin  M = some y) : CV G yX5_begin wsX5_begin (rmd 7 0 0) [.ref (ga G 73)] M y := by
  rw [f_X5_begin] at h
  refine co_o (by decide) rfl rfl (Nat.le_of_ble_eq_true rfl) (fun p e s m below meth c ls C hr hW hl => ?_)
  have hx := C.1
  have hb := C.2.1
  have hown := C.2.2.2.1
  have hts := C.2.2.2.2.1
  have inX5 : ∀ w ∈ wsX50, w ∈ wsX5_begin := by decide +kernel
  have hL26 := hts (.fieldLink RX5 26 "TrustedUpdatesModel" "thrown" "I") (by decide +kernel)
  have hl : lv_has ls 2 [(0, .ref (ga G 73))] := hl
  refine lv_aload_n hx hb dX5_begin_0 rfl (lv_at hl 0 rfl) ?_
  refine lv_aload_n hx hb dX5_begin_1 rfl (lv_at hl 0 rfl) ?_
  refine lv_bipush (v := 7) hx hb dX5_begin_2 (by decide) ?_
  obtain ⟨q1, hq1, h⟩ := ob h
  refine wc_Vi C hW (k := 73) (As := [.int 7]) (rest := [.ref (ga G 73)]) (c_X5_isDocument G 7 M q1 hq1) k73 rfl (by decide) (cwV 1 hts gX5_begin_X5_isDocument rfl rfl rfl yd_X5_isDocument ⟨Nat.le_of_ble_eq_true rfl, Nat.le_of_ble_eq_true rfl⟩) rfl hl.1 rfl (Nat.le_of_ble_eq_true rfl) dX5_begin_4 ⟨Nat.le_refl 0, Nat.le_refl 0⟩ (fun H locs hW => ?_)
  refine lv_if_eq (tgt := 21) hx hb dX5_begin_7 (by decide) (fun c1 => ?_) (fun c1 => ?_)
  · replace h := ift h c1
    refine lv_iconst (v := 1) hx hb dX5_begin_21 (by decide) ?_
    refine wp_t C hW (k := 73) (ci := 5) (j := 0) (ty := .int) rfl rfl k73 rfl ⟨by decide, rfl⟩ inX5 tyX5 tyX5_ok nmX5 (by decide) (rfq k73 rfl) hL26 (fun _ h9 => h9) rfl rfl dX5_begin_22 (fun H locs hW => ?_)
    refine lv_aload_n hx hb dX5_begin_25 rfl (lv_at hl 0 rfl) ?_
    refine wg_i C hW (k := 73) (ci := 5) (j := 0) k73 rfl ⟨by decide, rfl⟩ inX5 (by decide) (rfq k73 rfl) (v := 1) up_s hL26 (fun _ h9 => h9) dX5_begin_26 ?_
    refine lv_if_le (tgt := 33) hx hb dX5_begin_29 (by decide) (fun c2 => absurd c2 (by decide)) (fun _ => ?_)
    exact wr_v C hr hW h dX5_begin_32
  · replace h := iff_ h c1
    refine lv_aload_n hx hb dX5_begin_10 rfl (lv_at hl 0 rfl) ?_
    obtain ⟨q2, hq2, h⟩ := ob h
    refine wc_Vi C hW (k := 73) (As := []) (rest := [.ref (ga G 73)]) (c_X5_roleOfDraft G  q1.2 q2 hq2) k73 rfl (by decide) (cwV 0 hts gX5_begin_X5_roleOfDraft rfl rfl rfl yd_X5_roleOfDraft ⟨Nat.le_of_ble_eq_true rfl, Nat.le_of_ble_eq_true rfl⟩) rfl hl.1 rfl (Nat.le_of_ble_eq_true rfl) dX5_begin_11 ⟨Nat.le_refl 0, Nat.le_refl 0⟩ (fun H locs hW => ?_)
    refine lv_if_ne (tgt := 21) hx hb dX5_begin_14 (by decide) (fun c3 => ?_) (fun c3 => ?_)
    · replace h := iff_ h c3
      refine lv_iconst (v := 1) hx hb dX5_begin_21 (by decide) ?_
      refine wp_t C hW (k := 73) (ci := 5) (j := 0) (ty := .int) rfl rfl k73 rfl ⟨by decide, rfl⟩ inX5 tyX5 tyX5_ok nmX5 (by decide) (rfq k73 rfl) hL26 (fun _ h9 => h9) rfl rfl dX5_begin_22 (fun H locs hW => ?_)
      refine lv_aload_n hx hb dX5_begin_25 rfl (lv_at hl 0 rfl) ?_
      refine wg_i C hW (k := 73) (ci := 5) (j := 0) k73 rfl ⟨by decide, rfl⟩ inX5 (by decide) (rfq k73 rfl) (v := 1) up_s hL26 (fun _ h9 => h9) dX5_begin_26 ?_
      refine lv_if_le (tgt := 33) hx hb dX5_begin_29 (by decide) (fun c4 => absurd c4 (by decide)) (fun _ => ?_)
      exact wr_v C hr hW h dX5_begin_32
    · replace h := ift h c3
      refine lv_iconst (v := 0) hx hb dX5_begin_17 (by decide) ?_
      refine lv_goto (tgt := 22) hx hb dX5_begin_18 (by decide) ?_
      refine wp_t C hW (k := 73) (ci := 5) (j := 0) (ty := .int) rfl rfl k73 rfl ⟨by decide, rfl⟩ inX5 tyX5 tyX5_ok nmX5 (by decide) (rfq k73 rfl) hL26 (fun _ h9 => h9) rfl rfl dX5_begin_22 (fun H locs hW => ?_)
      refine lv_aload_n hx hb dX5_begin_25 rfl (lv_at hl 0 rfl) ?_
      refine wg_i C hW (k := 73) (ci := 5) (j := 0) k73 rfl ⟨by decide, rfl⟩ inX5 (by decide) (rfq k73 rfl) (v := 0) up_s hL26 (fun _ h9 => h9) dX5_begin_26 ?_
      refine lv_if_le (tgt := 33) hx hb dX5_begin_29 (by decide) (fun _ => ?_) (fun c5 => absurd c5 (by decide))
      refine lv_iconst (v := 0) hx hb dX5_begin_33 (by decide) ?_
      refine lv_istore_n (lv' := [(1, .int 0), (0, .ref (ga G 73))]) hx hb dX5_begin_34 rfl hl (by decide) rfl (fun ls hl => ?_)
      obtain ⟨q3, hq3, h⟩ := ob h
      refine L_X5_begin_35 C 200 0 (up q2.2 73 0 0) q3 _ _ ls hq3 hW (lv_sub hl [1, 0] rfl) (fun H locs ls hW hl => ?_)
      refine lv_aload_n hx hb dX5_begin_54 rfl (lv_at hl 0 rfl) ?_
      refine lv_iconst (v := 0) hx hb dX5_begin_55 (by decide) ?_
      obtain ⟨q4, hq4, h⟩ := ob h
      refine wc_Vv C hW (k := 73) (As := [.int 0]) (rest := []) (c_X5_trust G 0 q3.2 q4 hq4) k73 rfl (by decide) (cwV 1 hts gX5_begin_X5_trust rfl rfl rfl yd_X5_trust ⟨Nat.le_of_ble_eq_true rfl, Nat.le_of_ble_eq_true rfl⟩) rfl hl.1 rfl (Nat.le_of_ble_eq_true rfl) dX5_begin_56 ⟨Nat.le_refl 0, Nat.le_refl 0⟩ (fun H locs hW => ?_)
      exact wr_v C hr hW h dX5_begin_59
theorem yd_X5_areSameKeys : yX5_areSameKeys.cls = RX5 ∧ yX5_areSameKeys.cls ≠ "java/lang/invoke/MethodHandle" ∧ yX5_areSameKeys.cls ≠ "java/lang/invoke/VarHandle" ∧ (parseMethodDescriptor yX5_areSameKeys.desc).map (fun d => d.parameters.length) = some 1 := by decide +kernel
set_option maxHeartbeats 4000000 in
set_option maxRecDepth 100000 in
theorem L_X5_areSameKeys_21 {G : GG} {p : Program} {e : Env} {s : State} {m : MethodId} {args : Array Value} {below : List Frame} {meth : Method} {c : Code} {Q : State → Prop} (C : Cx G wsX5_areSameKeys RX5 cX5_areSameKeys 6 p s m args meth c) : ∀ (n : Nat) (x2 : Int32) (x3 : Int32) (x4 : Int32) (x5 : Int32) (M : Me) (y : Int32 × Me) (H : Heap) (locs : List Loc) (ls : Array Slot), fL_X5_areSameKeys_21 n x2 x3 x4 x5 M = some y → wH G s M H locs → lv_has ls 6 [(0, .ref (ga G 73)), (2, .int x2), (3, .int x3), (4, .int x4), (5, .int x5)] → (∀ (H : Heap) (locs : List Loc) (ls : Array Slot), wH G s y.2 H locs → lv_has ls 6 [(4, .int y.1)] → W p (gl G) e (rmd 1 0 0) s m args below meth c H locs 0 0 Q (F0 m 75 ls [])) → W p (gl G) e (rmd 1 0 0) s m args below meth c H locs 0 0 Q (F0 m 21 ls []) := by
  have hx := C.1
  have hb := C.2.1
  have hown := C.2.2.2.1
  have hts := C.2.2.2.2.1
  have inX5 : ∀ w ∈ wsX50, w ∈ wsX5_areSameKeys := by decide +kernel
  have hL7 := hts (.fieldLink RX5 7 "TrustedUpdatesModel" "row" "[I") (by decide +kernel)
  intro n
  induction n with
  | zero => intro x2 x3 x4 x5 M y H locs ls h; exact nso h
  | succ n ih =>
    intro x2 x3 x4 x5 M y H locs ls h hW hl kx
    rw [fL_X5_areSameKeys_21] at h
    refine lv_iload hx hb dX5_areSameKeys_21 (lv_at hl 4 rfl) ?_
    refine lv_iconst (v := 2) hx hb dX5_areSameKeys_23 (by decide) ?_
    refine lv_aload_n hx hb dX5_areSameKeys_24 rfl (lv_at hl 0 rfl) ?_
    refine wg_r C hW (k := 73) (ci := 5) (j := 1) (q := 74) k73 rfl ⟨by decide, rfl⟩ inX5 (by decide) (rfq k73 rfl) hL7 (fun _ h9 => h9) dX5_areSameKeys_25 ?_
    refine lv_iload_n hx hb dX5_areSameKeys_28 rfl (lv_at hl 1 rfl) ?_
    refine lv_iconst (v := 1) hx hb dX5_areSameKeys_29 (by decide) ?_
    refine lv_iadd hx hb dX5_areSameKeys_30 ?_
    obtain ⟨hg1, h⟩ := ifg h
    refine wa_l C hW (k := 74) k74 hg1 dX5_areSameKeys_31 (v := (M 74 (x2 + 1).toNatClampNeg)) rfl ?_
    refine lv_iadd hx hb dX5_areSameKeys_32 ?_
    refine lv_icmp_ge (tgt := 75) hx hb dX5_areSameKeys_33 (by decide) (fun c1 => ?_) (fun c1 => ?_)
    · replace h := ift h c1
      cases h
      exact kx _ _ ls hW (lv_sub hl [3] rfl)
    · replace h := iff_ h c1
      refine lv_iload hx hb dX5_areSameKeys_36 (lv_at hl 3 rfl) ?_
      refine lv_if_eq (tgt := 66) hx hb dX5_areSameKeys_38 (by decide) (fun c2 => ?_) (fun c2 => ?_)
      · replace h := ift h c2
        refine lv_iconst (v := 0) hx hb dX5_areSameKeys_66 (by decide) ?_
        refine lv_istore (lv' := [(4, .int 0), (0, .ref (ga G 73)), (2, .int x2), (3, .int x3), (5, .int x5)]) hx hb dX5_areSameKeys_67 hl (by decide) rfl (fun ls hl => ?_)
        refine lv_iinc (v := (x5 + 1)) (lv' := [(5, .int (x5 + 1)), (4, .int 0), (0, .ref (ga G 73)), (2, .int x2), (3, .int x3)]) hx hb dX5_areSameKeys_69 hl (k := 4) rfl rfl (by decide) rfl (fun ls hl => ?_)
        refine lv_goto (tgt := 21) hx hb dX5_areSameKeys_72 (by decide) ?_
        exact ih x2 x3 0 (x5 + 1) M y _ _ ls h hW (lv_sub hl [2, 3, 4, 1, 0] rfl) kx
      · replace h := iff_ h c2
        refine lv_aload_n hx hb dX5_areSameKeys_41 rfl (lv_at hl 0 rfl) ?_
        refine wg_r C hW (k := 73) (ci := 5) (j := 1) (q := 74) k73 rfl ⟨by decide, rfl⟩ inX5 (by decide) (rfq k73 rfl) hL7 (fun _ h9 => h9) dX5_areSameKeys_42 ?_
        refine lv_iload_n hx hb dX5_areSameKeys_45 rfl (lv_at hl 1 rfl) ?_
        refine lv_iload hx hb dX5_areSameKeys_46 (lv_at hl 4 rfl) ?_
        refine lv_iadd hx hb dX5_areSameKeys_48 ?_
        obtain ⟨hg2, h⟩ := ifg h
        refine wa_l C hW (k := 74) k74 hg2 dX5_areSameKeys_49 (v := (M 74 (x2 + x5).toNatClampNeg)) rfl ?_
        refine lv_aload_n hx hb dX5_areSameKeys_50 rfl (lv_at hl 0 rfl) ?_
        refine wg_r C hW (k := 73) (ci := 5) (j := 1) (q := 74) k73 rfl ⟨by decide, rfl⟩ inX5 (by decide) (rfq k73 rfl) hL7 (fun _ h9 => h9) dX5_areSameKeys_51 ?_
        refine lv_iload_n hx hb dX5_areSameKeys_54 rfl (lv_at hl 2 rfl) ?_
        refine lv_iload hx hb dX5_areSameKeys_55 (lv_at hl 4 rfl) ?_
        refine lv_iadd hx hb dX5_areSameKeys_57 ?_
        obtain ⟨hg3, h⟩ := ifg h
        refine wa_l C hW (k := 74) k74 hg3 dX5_areSameKeys_58 (v := (M 74 (x3 + x5).toNatClampNeg)) rfl ?_
        refine lv_icmp_ne (tgt := 66) hx hb dX5_areSameKeys_59 (by decide) (fun c3 => ?_) (fun c3 => ?_)
        · replace h := iff_ h c3
          refine lv_iconst (v := 0) hx hb dX5_areSameKeys_66 (by decide) ?_
          refine lv_istore (lv' := [(4, .int 0), (0, .ref (ga G 73)), (2, .int x2), (3, .int x3), (5, .int x5)]) hx hb dX5_areSameKeys_67 hl (by decide) rfl (fun ls hl => ?_)
          refine lv_iinc (v := (x5 + 1)) (lv' := [(5, .int (x5 + 1)), (4, .int 0), (0, .ref (ga G 73)), (2, .int x2), (3, .int x3)]) hx hb dX5_areSameKeys_69 hl (k := 4) rfl rfl (by decide) rfl (fun ls hl => ?_)
          refine lv_goto (tgt := 21) hx hb dX5_areSameKeys_72 (by decide) ?_
          exact ih x2 x3 0 (x5 + 1) M y _ _ ls h hW (lv_sub hl [2, 3, 4, 1, 0] rfl) kx
        · replace h := ift h c3
          refine lv_iconst (v := 1) hx hb dX5_areSameKeys_62 (by decide) ?_
          refine lv_goto (tgt := 67) hx hb dX5_areSameKeys_63 (by decide) ?_
          refine lv_istore (lv' := [(4, .int 1), (0, .ref (ga G 73)), (2, .int x2), (3, .int x3), (5, .int x5)]) hx hb dX5_areSameKeys_67 hl (by decide) rfl (fun ls hl => ?_)
          refine lv_iinc (v := (x5 + 1)) (lv' := [(5, .int (x5 + 1)), (4, .int 1), (0, .ref (ga G 73)), (2, .int x2), (3, .int x3)]) hx hb dX5_areSameKeys_69 hl (k := 4) rfl rfl (by decide) rfl (fun ls hl => ?_)
          refine lv_goto (tgt := 21) hx hb dX5_areSameKeys_72 (by decide) ?_
          exact ih x2 x3 1 (x5 + 1) M y _ _ ls h hW (lv_sub hl [2, 3, 4, 1, 0] rfl) kx
set_option maxHeartbeats 4000000 in
set_option maxRecDepth 100000 in
theorem c_X5_areSameKeys (G : GG) (a1 : Int32) (M : Me) (y : Int32 × Me) (h : f_X5_areSameKeys a1 M = some y) : CI G yX5_areSameKeys wsX5_areSameKeys (rmd 1 0 0) [.ref (ga G 73), .int a1] M y := by
  rw [f_X5_areSameKeys] at h
  refine co_o (by decide) rfl rfl (Nat.le_of_ble_eq_true rfl) (fun p e s m below meth c ls C hr hW hl => ?_)
  have hx := C.1
  have hb := C.2.1
  have hown := C.2.2.2.1
  have hts := C.2.2.2.2.1
  have hl : lv_has ls 6 [(0, .ref (ga G 73)), (1, .int a1)] := hl
  refine lv_aload_n hx hb dX5_areSameKeys_0 rfl (lv_at hl 0 rfl) ?_
  refine lv_iconst (v := 0) hx hb dX5_areSameKeys_1 (by decide) ?_
  refine lv_iload_n hx hb dX5_areSameKeys_2 rfl (lv_at hl 1 rfl) ?_
  obtain ⟨q1, hq1, h⟩ := ob h
  refine wc_Vi C hW (k := 73) (As := [.int 0, .int a1]) (rest := []) (c_X5_keysOf G 0 a1 M q1 hq1) k73 rfl (by decide) (cwV 2 hts gX5_areSameKeys_X5_keysOf rfl rfl rfl yd_X5_keysOf ⟨Nat.le_of_ble_eq_true rfl, Nat.le_of_ble_eq_true rfl⟩) rfl hl.1 rfl (Nat.le_of_ble_eq_true rfl) dX5_areSameKeys_3 ⟨Nat.le_refl 0, Nat.le_refl 0⟩ (fun H locs hW => ?_)
  refine lv_istore_n (lv' := [(2, .int q1.1), (0, .ref (ga G 73)), (1, .int a1)]) hx hb dX5_areSameKeys_6 rfl hl (by decide) rfl (fun ls hl => ?_)
  refine lv_aload_n hx hb dX5_areSameKeys_7 rfl (lv_at hl 1 rfl) ?_
  refine lv_bipush (v := 7) hx hb dX5_areSameKeys_8 (by decide) ?_
  refine lv_iload_n hx hb dX5_areSameKeys_10 rfl (lv_at hl 2 rfl) ?_
  obtain ⟨q2, hq2, h⟩ := ob h
  refine wc_Vi C hW (k := 73) (As := [.int 7, .int a1]) (rest := []) (c_X5_keysOf G 7 a1 q1.2 q2 hq2) k73 rfl (by decide) (cwV 2 hts gX5_areSameKeys_X5_keysOf rfl rfl rfl yd_X5_keysOf ⟨Nat.le_of_ble_eq_true rfl, Nat.le_of_ble_eq_true rfl⟩) rfl hl.1 rfl (Nat.le_of_ble_eq_true rfl) dX5_areSameKeys_11 ⟨Nat.le_refl 0, Nat.le_refl 0⟩ (fun H locs hW => ?_)
  refine lv_istore_n (lv' := [(3, .int q2.1), (2, .int q1.1), (0, .ref (ga G 73)), (1, .int a1)]) hx hb dX5_areSameKeys_14 rfl hl (by decide) rfl (fun ls hl => ?_)
  refine lv_iconst (v := 1) hx hb dX5_areSameKeys_15 (by decide) ?_
  refine lv_istore (lv' := [(4, .int 1), (3, .int q2.1), (2, .int q1.1), (0, .ref (ga G 73)), (1, .int a1)]) hx hb dX5_areSameKeys_16 hl (by decide) rfl (fun ls hl => ?_)
  refine lv_iconst (v := 0) hx hb dX5_areSameKeys_18 (by decide) ?_
  refine lv_istore (lv' := [(5, .int 0), (4, .int 1), (3, .int q2.1), (2, .int q1.1), (0, .ref (ga G 73)), (1, .int a1)]) hx hb dX5_areSameKeys_19 hl (by decide) rfl (fun ls hl => ?_)
  obtain ⟨q3, hq3, h⟩ := ob h
  refine L_X5_areSameKeys_21 C 200 q1.1 q2.1 1 0 q2.2 q3 _ _ ls hq3 hW (lv_sub hl [4, 3, 2, 1, 0] rfl) (fun H locs ls hW hl => ?_)
  refine lv_iload hx hb dX5_areSameKeys_75 (lv_at hl 0 rfl) ?_
  obtain ⟨hg4, h⟩ := ifg h
  exact wr_z C hr (bB_or hg4) hW h dX5_areSameKeys_77
