theorem yd_X5_hasTarget : yX5_hasTarget.cls = RX5 ∧ yX5_hasTarget.cls ≠ "java/lang/invoke/MethodHandle" ∧ yX5_hasTarget.cls ≠ "java/lang/invoke/VarHandle" ∧ (parseMethodDescriptor yX5_hasTarget.desc).map (fun d => d.parameters.length) = some 3 := by decide +kernel
set_option maxHeartbeats 4000000 in
set_option maxRecDepth 100000 in
theorem L_X5_hasTarget_11 {G : GG} {p : Program} {e : Env} {s : State} {m : MethodId} {args : Array Value} {below : List Frame} {meth : Method} {c : Code} (C : Cx G wsX5_hasTarget RX5 cX5_hasTarget 7 p s m args meth c) (hr : meth.sig.returnType = (some .boolean)) : ∀ (n : Nat) (x1 : Int32) (x2 : Int64) (x4 : Int32) (x5 : Int32) (x6 : Int32) (M : Me) (y : Int32 × Me) (H : Heap) (locs : List Loc) (ls : Array Slot), fL_X5_hasTarget_11 n x1 x2 x4 x5 x6 M = some y → wH G s M H locs → lv_has ls 7 [(0, .ref (ga G 73)), (1, .int x1), (2, .long x2), (4, .int x4), (5, .int x5), (6, .int x6)] → W p (gl G) e (rmd 2 0 0) s m args below meth c H locs 0 0 (MQ below (Qi G y) args s 0 0 (wA G)) (F0 m 11 ls []) := by
  have hx := C.1
  have hb := C.2.1
  have hown := C.2.2.2.1
  have hts := C.2.2.2.2.1
  have inX5 : ∀ w ∈ wsX50, w ∈ wsX5_hasTarget := by decide +kernel
  have hL7 := hts (.fieldLink RX5 7 "TrustedUpdatesModel" "row" "[I") (by decide +kernel)
  have hL162 := hts (.fieldLink RX5 162 "TrustedUpdatesModel" "foundLength" "I") (by decide +kernel)
  have hL165 := hts (.fieldLink RX5 165 "TrustedUpdatesModel" "foundDigest" "I") (by decide +kernel)
  intro n
  induction n with
  | zero => intro x1 x2 x4 x5 x6 M y H locs ls h; exact nso h
  | succ n ih =>
    intro x1 x2 x4 x5 x6 M y H locs ls h hW hl
    rw [fL_X5_hasTarget_11] at h
    refine lv_iload hx hb dX5_hasTarget_11 (lv_at hl 5 rfl) ?_
    refine lv_aload_n hx hb dX5_hasTarget_13 rfl (lv_at hl 0 rfl) ?_
    refine wg_r C hW (k := 73) (ci := 5) (j := 1) (q := 74) k73 rfl ⟨by decide, rfl⟩ inX5 (by decide) (rfq k73 rfl) hL7 (fun _ h9 => h9) dX5_hasTarget_14 ?_
    refine lv_bipush (v := 120) hx hb dX5_hasTarget_17 (by decide) ?_
    refine lv_iload_n hx hb dX5_hasTarget_19 rfl (lv_at hl 1 rfl) ?_
    refine lv_imul hx hb dX5_hasTarget_20 ?_
    refine lv_iconst (v := 4) hx hb dX5_hasTarget_21 (by decide) ?_
    refine lv_iadd hx hb dX5_hasTarget_22 ?_
    obtain ⟨hg1, h⟩ := ifg h
    refine wa_l C hW (k := 74) k74 hg1 dX5_hasTarget_23 (v := (M 74 ((120 * x1) + 4).toNatClampNeg)) rfl ?_
    refine lv_icmp_ge (tgt := 107) hx hb dX5_hasTarget_24 (by decide) (fun c1 => ?_) (fun c1 => ?_)
    · replace h := ift h c1
      refine lv_iconst (v := 0) hx hb dX5_hasTarget_107 (by decide) ?_
      exact wr_z C hr (Or.inl rfl) hW h dX5_hasTarget_108
    · replace h := iff_ h c1
      refine lv_aload_n hx hb dX5_hasTarget_27 rfl (lv_at hl 0 rfl) ?_
      refine wg_r C hW (k := 73) (ci := 5) (j := 1) (q := 74) k73 rfl ⟨by decide, rfl⟩ inX5 (by decide) (rfq k73 rfl) hL7 (fun _ h9 => h9) dX5_hasTarget_28 ?_
      refine lv_iload hx hb dX5_hasTarget_31 (lv_at hl 4 rfl) ?_
      obtain ⟨hg2, h⟩ := ifg h
      refine wa_l C hW (k := 74) k74 hg2 dX5_hasTarget_33 (v := (M 74 x5.toNatClampNeg)) rfl ?_
      refine lv_iload hx hb dX5_hasTarget_34 (lv_at hl 3 rfl) ?_
      refine lv_icmp_ne (tgt := 86) hx hb dX5_hasTarget_36 (by decide) (fun c2 => ?_) (fun c2 => ?_)
      · replace h := iff_ h c2
        refine lv_iload hx hb dX5_hasTarget_86 (lv_at hl 4 rfl) ?_
        refine lv_aload_n hx hb dX5_hasTarget_88 rfl (lv_at hl 0 rfl) ?_
        refine wg_r C hW (k := 73) (ci := 5) (j := 1) (q := 74) k73 rfl ⟨by decide, rfl⟩ inX5 (by decide) (rfq k73 rfl) hL7 (fun _ h9 => h9) dX5_hasTarget_89 ?_
        refine lv_iload hx hb dX5_hasTarget_92 (lv_at hl 4 rfl) ?_
        refine wa_l C hW (k := 74) k74 hg2 dX5_hasTarget_94 (v := (M 74 x5.toNatClampNeg)) rfl ?_
        refine lv_iadd hx hb dX5_hasTarget_95 ?_
        refine lv_bipush (v := 6) hx hb dX5_hasTarget_96 (by decide) ?_
        refine lv_iadd hx hb dX5_hasTarget_98 ?_
        refine lv_istore (lv' := [(5, .int ((x5 + (M 74 x5.toNatClampNeg)) + 6)), (0, .ref (ga G 73)), (1, .int x1), (2, .long x2), (4, .int x4), (6, .int x6)]) hx hb dX5_hasTarget_99 hl (by decide) rfl (fun ls hl => ?_)
        refine lv_iinc (v := (x6 + 1)) (lv' := [(6, .int (x6 + 1)), (5, .int ((x5 + (M 74 x5.toNatClampNeg)) + 6)), (0, .ref (ga G 73)), (1, .int x1), (2, .long x2), (4, .int x4)]) hx hb dX5_hasTarget_101 hl (k := 5) rfl rfl (by decide) rfl (fun ls hl => ?_)
        refine lv_goto (tgt := 11) hx hb dX5_hasTarget_104 (by decide) ?_
        exact ih x1 x2 x4 ((x5 + (M 74 x5.toNatClampNeg)) + 6) (x6 + 1) M y _ _ ls h hW (lv_sub hl [2, 3, 4, 5, 1, 0] rfl)
      · replace h := ift h c2
        refine lv_aload_n hx hb dX5_hasTarget_39 rfl (lv_at hl 0 rfl) ?_
        refine lv_iload hx hb dX5_hasTarget_40 (lv_at hl 4 rfl) ?_
        refine lv_iconst (v := 1) hx hb dX5_hasTarget_42 (by decide) ?_
        refine lv_iadd hx hb dX5_hasTarget_43 ?_
        refine lv_iload hx hb dX5_hasTarget_44 (lv_at hl 3 rfl) ?_
        refine lv_lload_n hx hb dX5_hasTarget_46 rfl (lv_at hl 2 rfl) ?_
        obtain ⟨q1, hq1, h⟩ := ob h
        refine wc_Vi C hW (k := 73) (As := [.int (x5 + 1), .int x4, .long x2]) (rest := []) (c_X5_begins G (x5 + 1) x4 x2 M q1 hq1) k73 rfl (by decide) (cwV 3 hts gX5_hasTarget_X5_begins rfl rfl rfl yd_X5_begins ⟨Nat.le_of_ble_eq_true rfl, Nat.le_of_ble_eq_true rfl⟩) rfl hl.1 rfl (Nat.le_of_ble_eq_true rfl) dX5_hasTarget_47 ⟨Nat.le_refl 0, Nat.le_refl 0⟩ (fun H locs hW => ?_)
        refine lv_if_eq (tgt := 86) hx hb dX5_hasTarget_50 (by decide) (fun c3 => ?_) (fun c3 => ?_)
        · replace h := ift h c3
          refine lv_iload hx hb dX5_hasTarget_86 (lv_at hl 4 rfl) ?_
          refine lv_aload_n hx hb dX5_hasTarget_88 rfl (lv_at hl 0 rfl) ?_
          refine wg_r C hW (k := 73) (ci := 5) (j := 1) (q := 74) k73 rfl ⟨by decide, rfl⟩ inX5 (by decide) (rfq k73 rfl) hL7 (fun _ h9 => h9) dX5_hasTarget_89 ?_
          refine lv_iload hx hb dX5_hasTarget_92 (lv_at hl 4 rfl) ?_
          refine wa_l C hW (k := 74) k74 hg2 dX5_hasTarget_94 (v := (q1.2 74 x5.toNatClampNeg)) rfl ?_
          refine lv_iadd hx hb dX5_hasTarget_95 ?_
          refine lv_bipush (v := 6) hx hb dX5_hasTarget_96 (by decide) ?_
          refine lv_iadd hx hb dX5_hasTarget_98 ?_
          refine lv_istore (lv' := [(5, .int ((x5 + (q1.2 74 x5.toNatClampNeg)) + 6)), (0, .ref (ga G 73)), (1, .int x1), (2, .long x2), (4, .int x4), (6, .int x6)]) hx hb dX5_hasTarget_99 hl (by decide) rfl (fun ls hl => ?_)
          refine lv_iinc (v := (x6 + 1)) (lv' := [(6, .int (x6 + 1)), (5, .int ((x5 + (q1.2 74 x5.toNatClampNeg)) + 6)), (0, .ref (ga G 73)), (1, .int x1), (2, .long x2), (4, .int x4)]) hx hb dX5_hasTarget_101 hl (k := 5) rfl rfl (by decide) rfl (fun ls hl => ?_)
          refine lv_goto (tgt := 11) hx hb dX5_hasTarget_104 (by decide) ?_
          exact ih x1 x2 x4 ((x5 + (q1.2 74 x5.toNatClampNeg)) + 6) (x6 + 1) q1.2 y _ _ ls h hW (lv_sub hl [2, 3, 4, 5, 1, 0] rfl)
        · replace h := iff_ h c3
          refine lv_aload_n hx hb dX5_hasTarget_53 rfl (lv_at hl 0 rfl) ?_
          refine lv_aload_n hx hb dX5_hasTarget_54 rfl (lv_at hl 0 rfl) ?_
          refine wg_r C hW (k := 73) (ci := 5) (j := 1) (q := 74) k73 rfl ⟨by decide, rfl⟩ inX5 (by decide) (rfq k73 rfl) hL7 (fun _ h9 => h9) dX5_hasTarget_55 ?_
          refine lv_iload hx hb dX5_hasTarget_58 (lv_at hl 4 rfl) ?_
          refine lv_iconst (v := 1) hx hb dX5_hasTarget_60 (by decide) ?_
          refine lv_iadd hx hb dX5_hasTarget_61 ?_
          refine lv_iload hx hb dX5_hasTarget_62 (lv_at hl 3 rfl) ?_
          refine lv_iadd hx hb dX5_hasTarget_64 ?_
          obtain ⟨hg3, h⟩ := ifg h
          refine wa_l C hW (k := 74) k74 hg3 dX5_hasTarget_65 (v := (q1.2 74 ((x5 + 1) + x4).toNatClampNeg)) rfl ?_
          refine wp_t C hW (k := 73) (ci := 5) (j := 12) (ty := .int) rfl rfl k73 rfl ⟨by decide, rfl⟩ inX5 tyX5 tyX5_ok nmX5 (by decide) (rfq k73 rfl) hL162 (fun _ h9 => h9) rfl rfl dX5_hasTarget_66 (fun H locs hW => ?_)
          refine lv_aload_n hx hb dX5_hasTarget_69 rfl (lv_at hl 0 rfl) ?_
          refine lv_aload_n hx hb dX5_hasTarget_70 rfl (lv_at hl 0 rfl) ?_
          refine lv_iload hx hb dX5_hasTarget_71 (lv_at hl 4 rfl) ?_
          refine lv_iconst (v := 2) hx hb dX5_hasTarget_73 (by decide) ?_
          refine lv_iadd hx hb dX5_hasTarget_74 ?_
          refine lv_iload hx hb dX5_hasTarget_75 (lv_at hl 3 rfl) ?_
          refine lv_iadd hx hb dX5_hasTarget_77 ?_
          obtain ⟨q2, hq2, h⟩ := ob h
          refine wc_Vi C hW (k := 73) (As := [.int ((x5 + 2) + x4)]) (rest := [.ref (ga G 73)]) (c_X5_four G ((x5 + 2) + x4) (up q1.2 73 12 (q1.2 74 ((x5 + 1) + x4).toNatClampNeg)) q2 hq2) k73 rfl (by decide) (cwV 1 hts gX5_hasTarget_X5_four rfl rfl rfl yd_X5_four ⟨Nat.le_of_ble_eq_true rfl, Nat.le_of_ble_eq_true rfl⟩) rfl hl.1 rfl (Nat.le_of_ble_eq_true rfl) dX5_hasTarget_78 ⟨Nat.le_refl 0, Nat.le_refl 0⟩ (fun H locs hW => ?_)
          refine wp_t C hW (k := 73) (ci := 5) (j := 13) (ty := .int) rfl rfl k73 rfl ⟨by decide, rfl⟩ inX5 tyX5 tyX5_ok nmX5 (by decide) (rfq k73 rfl) hL165 (fun _ h9 => h9) rfl rfl dX5_hasTarget_81 (fun H locs hW => ?_)
          refine lv_iconst (v := 1) hx hb dX5_hasTarget_84 (by decide) ?_
          exact wr_z C hr (Or.inr rfl) hW h dX5_hasTarget_85
set_option maxHeartbeats 4000000 in
set_option maxRecDepth 100000 in
theorem c_X5_hasTarget (G : GG) (a1 : Int32) (a2 : Int64) (a3 : Int32) (M : Me) (y : Int32 × Me) (h : f_X5_hasTarget a1 a2 a3 M = some y) : CI G yX5_hasTarget wsX5_hasTarget (rmd 2 0 0) [.ref (ga G 73), .int a1, .long a2, .int a3] M y := by
  rw [f_X5_hasTarget] at h
  refine co_o (by decide) rfl rfl (Nat.le_of_ble_eq_true rfl) (fun p e s m below meth c ls C hr hW hl => ?_)
  have hx := C.1
  have hb := C.2.1
  have hown := C.2.2.2.1
  have hts := C.2.2.2.2.1
  have hl : lv_has ls 7 [(0, .ref (ga G 73)), (1, .int a1), (2, .long a2), (4, .int a3)] := hl
  refine lv_bipush (v := 120) hx hb dX5_hasTarget_0 (by decide) ?_
  refine lv_iload_n hx hb dX5_hasTarget_2 rfl (lv_at hl 1 rfl) ?_
  refine lv_imul hx hb dX5_hasTarget_3 ?_
  refine lv_iconst (v := 5) hx hb dX5_hasTarget_4 (by decide) ?_
  refine lv_iadd hx hb dX5_hasTarget_5 ?_
  refine lv_istore (lv' := [(5, .int ((120 * a1) + 5)), (0, .ref (ga G 73)), (1, .int a1), (2, .long a2), (4, .int a3)]) hx hb dX5_hasTarget_6 hl (by decide) rfl (fun ls hl => ?_)
  refine lv_iconst (v := 0) hx hb dX5_hasTarget_8 (by decide) ?_
  refine lv_istore (lv' := [(6, .int 0), (5, .int ((120 * a1) + 5)), (0, .ref (ga G 73)), (1, .int a1), (2, .long a2), (4, .int a3)]) hx hb dX5_hasTarget_9 hl (by decide) rfl (fun ls hl => ?_)
  exact L_X5_hasTarget_11 C hr 200 a1 a2 a3 ((120 * a1) + 5) 0 M y _ _ ls h hW (lv_sub hl [2, 3, 4, 5, 1, 0] rfl)
theorem yd_X5_delegation : yX5_delegation.cls = RX5 ∧ yX5_delegation.cls ≠ "java/lang/invoke/MethodHandle" ∧ yX5_delegation.cls ≠ "java/lang/invoke/VarHandle" ∧ (parseMethodDescriptor yX5_delegation.desc).map (fun d => d.parameters.length) = some 2 := by decide +kernel
set_option maxHeartbeats 4000000 in
set_option maxRecDepth 100000 in
theorem L_X5_delegation_10 {G : GG} {p : Program} {e : Env} {s : State} {m : MethodId} {args : Array Value} {below : List Frame} {meth : Method} {c : Code} {Q : State → Prop} (C : Cx G wsX5_delegation RX5 cX5_delegation 6 p s m args meth c) : ∀ (n : Nat) (x1 : Int32) (x2 : Int32) (x3 : Int32) (x4 : Int32) (M : Me) (y : Int32 × Me) (H : Heap) (locs : List Loc) (ls : Array Slot), fL_X5_delegation_10 n x1 x2 x3 x4 M = some y → wH G s M H locs → lv_has ls 6 [(0, .ref (ga G 73)), (1, .int x1), (2, .int x2), (3, .int x3), (4, .int x4)] → (∀ (H : Heap) (locs : List Loc) (ls : Array Slot), wH G s y.2 H locs → lv_has ls 6 [(0, .ref (ga G 73)), (2, .int x2), (3, .int y.1)] → W p (gl G) e (rmd 0 0 0) s m args below meth c H locs 0 0 Q (F0 m 44 ls [])) → W p (gl G) e (rmd 0 0 0) s m args below meth c H locs 0 0 Q (F0 m 10 ls []) := by
  have hx := C.1
  have hb := C.2.1
  have hown := C.2.2.2.1
  have hts := C.2.2.2.2.1
  have inX5 : ∀ w ∈ wsX50, w ∈ wsX5_delegation := by decide +kernel
  have hL7 := hts (.fieldLink RX5 7 "TrustedUpdatesModel" "row" "[I") (by decide +kernel)
  intro n
  induction n with
  | zero => intro x1 x2 x3 x4 M y H locs ls h; exact nso h
  | succ n ih =>
    intro x1 x2 x3 x4 M y H locs ls h hW hl kx
    rw [fL_X5_delegation_10] at h
    refine lv_iload hx hb dX5_delegation_10 (lv_at hl 4 rfl) ?_
    refine lv_aload_n hx hb dX5_delegation_12 rfl (lv_at hl 0 rfl) ?_
    refine wg_r C hW (k := 73) (ci := 5) (j := 1) (q := 74) k73 rfl ⟨by decide, rfl⟩ inX5 (by decide) (rfq k73 rfl) hL7 (fun _ h9 => h9) dX5_delegation_13 ?_
    refine lv_bipush (v := 120) hx hb dX5_delegation_16 (by decide) ?_
    refine lv_iload_n hx hb dX5_delegation_18 rfl (lv_at hl 1 rfl) ?_
    refine lv_imul hx hb dX5_delegation_19 ?_
    refine lv_iconst (v := 4) hx hb dX5_delegation_20 (by decide) ?_
    refine lv_iadd hx hb dX5_delegation_21 ?_
    obtain ⟨hg1, h⟩ := ifg h
    refine wa_l C hW (k := 74) k74 hg1 dX5_delegation_22 (v := (M 74 ((120 * x1) + 4).toNatClampNeg)) rfl ?_
    refine lv_icmp_ge (tgt := 44) hx hb dX5_delegation_23 (by decide) (fun c1 => ?_) (fun c1 => ?_)
    · replace h := ift h c1
      cases h
      exact kx _ _ ls hW (lv_sub hl [0, 2, 3] rfl)
    · replace h := iff_ h c1
      refine lv_iload_n hx hb dX5_delegation_26 rfl (lv_at hl 3 rfl) ?_
      refine lv_aload_n hx hb dX5_delegation_27 rfl (lv_at hl 0 rfl) ?_
      refine wg_r C hW (k := 73) (ci := 5) (j := 1) (q := 74) k73 rfl ⟨by decide, rfl⟩ inX5 (by decide) (rfq k73 rfl) hL7 (fun _ h9 => h9) dX5_delegation_28 ?_
      refine lv_iload_n hx hb dX5_delegation_31 rfl (lv_at hl 3 rfl) ?_
      obtain ⟨hg2, h⟩ := ifg h
      refine wa_l C hW (k := 74) k74 hg2 dX5_delegation_32 (v := (M 74 x3.toNatClampNeg)) rfl ?_
      refine lv_iadd hx hb dX5_delegation_33 ?_
      refine lv_bipush (v := 6) hx hb dX5_delegation_34 (by decide) ?_
      refine lv_iadd hx hb dX5_delegation_36 ?_
      refine lv_istore_n (lv' := [(3, .int ((x3 + (M 74 x3.toNatClampNeg)) + 6)), (0, .ref (ga G 73)), (1, .int x1), (2, .int x2), (4, .int x4)]) hx hb dX5_delegation_37 rfl hl (by decide) rfl (fun ls hl => ?_)
      refine lv_iinc (v := (x4 + 1)) (lv' := [(4, .int (x4 + 1)), (3, .int ((x3 + (M 74 x3.toNatClampNeg)) + 6)), (0, .ref (ga G 73)), (1, .int x1), (2, .int x2)]) hx hb dX5_delegation_38 hl (k := 4) rfl rfl (by decide) rfl (fun ls hl => ?_)
      refine lv_goto (tgt := 10) hx hb dX5_delegation_41 (by decide) ?_
      exact ih x1 x2 ((x3 + (M 74 x3.toNatClampNeg)) + 6) (x4 + 1) M y _ _ ls h hW (lv_sub hl [2, 3, 4, 1, 0] rfl) kx
set_option maxHeartbeats 4000000 in
set_option maxRecDepth 100000 in
theorem L_X5_delegation_62 {G : GG} {p : Program} {e : Env} {s : State} {m : MethodId} {args : Array Value} {below : List Frame} {meth : Method} {c : Code} {Q : State → Prop} (C : Cx G wsX5_delegation RX5 cX5_delegation 6 p s m args meth c) : ∀ (n : Nat) (x2 : Int32) (x3 : Int32) (x4 : Int32) (M : Me) (y : Int32 × Me) (H : Heap) (locs : List Loc) (ls : Array Slot), fL_X5_delegation_62 n x2 x3 x4 M = some y → wH G s M H locs → lv_has ls 6 [(0, .ref (ga G 73)), (2, .int x2), (3, .int x3), (4, .int x4)] → (∀ (H : Heap) (locs : List Loc) (ls : Array Slot), wH G s y.2 H locs → lv_has ls 6 [(3, .int y.1)] → W p (gl G) e (rmd 0 0 0) s m args below meth c H locs 0 0 Q (F0 m 101 ls [])) → W p (gl G) e (rmd 0 0 0) s m args below meth c H locs 0 0 Q (F0 m 62 ls []) := by
  have hx := C.1
  have hb := C.2.1
  have hown := C.2.2.2.1
  have hts := C.2.2.2.2.1
  have inX5 : ∀ w ∈ wsX50, w ∈ wsX5_delegation := by decide +kernel
  have hL7 := hts (.fieldLink RX5 7 "TrustedUpdatesModel" "row" "[I") (by decide +kernel)
  intro n
  induction n with
  | zero => intro x2 x3 x4 M y H locs ls h; exact nso h
  | succ n ih =>
    intro x2 x3 x4 M y H locs ls h hW hl kx
    rw [fL_X5_delegation_62] at h
    refine lv_iload hx hb dX5_delegation_62 (lv_at hl 3 rfl) ?_
    refine lv_iload_n hx hb dX5_delegation_64 rfl (lv_at hl 1 rfl) ?_
    refine lv_icmp_ge (tgt := 101) hx hb dX5_delegation_65 (by decide) (fun c3 => ?_) (fun c3 => ?_)
    · replace h := ift h c3
      cases h
      exact kx _ _ ls hW (lv_sub hl [2] rfl)
    · replace h := iff_ h c3
      refine lv_iload_n hx hb dX5_delegation_68 rfl (lv_at hl 2 rfl) ?_
      refine lv_iconst (v := 4) hx hb dX5_delegation_69 (by decide) ?_
      refine lv_iadd hx hb dX5_delegation_70 ?_
      refine lv_aload_n hx hb dX5_delegation_71 rfl (lv_at hl 0 rfl) ?_
      refine wg_r C hW (k := 73) (ci := 5) (j := 1) (q := 74) k73 rfl ⟨by decide, rfl⟩ inX5 (by decide) (rfq k73 rfl) hL7 (fun _ h9 => h9) dX5_delegation_72 ?_
      refine lv_iload_n hx hb dX5_delegation_75 rfl (lv_at hl 2 rfl) ?_
      refine lv_iconst (v := 3) hx hb dX5_delegation_76 (by decide) ?_
      refine lv_iadd hx hb dX5_delegation_77 ?_
      obtain ⟨hg4, h⟩ := ifg h
      refine wa_l C hW (k := 74) k74 hg4 dX5_delegation_78 (v := (M 74 (x3 + 3).toNatClampNeg)) rfl ?_
      refine lv_iadd hx hb dX5_delegation_79 ?_
      refine lv_istore (lv' := [(5, .int ((x3 + 4) + (M 74 (x3 + 3).toNatClampNeg))), (0, .ref (ga G 73)), (2, .int x2), (3, .int x3), (4, .int x4)]) hx hb dX5_delegation_80 hl (by decide) rfl (fun ls hl => ?_)
      refine lv_iload hx hb dX5_delegation_82 (lv_at hl 0 rfl) ?_
      refine lv_iconst (v := 1) hx hb dX5_delegation_84 (by decide) ?_
      refine lv_iadd hx hb dX5_delegation_85 ?_
      refine lv_aload_n hx hb dX5_delegation_86 rfl (lv_at hl 1 rfl) ?_
      refine wg_r C hW (k := 73) (ci := 5) (j := 1) (q := 74) k73 rfl ⟨by decide, rfl⟩ inX5 (by decide) (rfq k73 rfl) hL7 (fun _ h9 => h9) dX5_delegation_87 ?_
      refine lv_iload hx hb dX5_delegation_90 (lv_at hl 0 rfl) ?_
      obtain ⟨hg5, h⟩ := ifg h
      refine wa_l C hW (k := 74) k74 hg5 dX5_delegation_92 (v := (M 74 ((x3 + 4) + (M 74 (x3 + 3).toNatClampNeg)).toNatClampNeg)) rfl ?_
      refine lv_iadd hx hb dX5_delegation_93 ?_
      refine lv_istore_n (lv' := [(3, .int ((((x3 + 4) + (M 74 (x3 + 3).toNatClampNeg)) + 1) + (M 74 ((x3 + 4) + (M 74 (x3 + 3).toNatClampNeg)).toNatClampNeg))), (5, .int ((x3 + 4) + (M 74 (x3 + 3).toNatClampNeg))), (0, .ref (ga G 73)), (2, .int x2), (4, .int x4)]) hx hb dX5_delegation_94 rfl hl (by decide) rfl (fun ls hl => ?_)
      refine lv_iinc (v := (x4 + 1)) (lv' := [(4, .int (x4 + 1)), (3, .int ((((x3 + 4) + (M 74 (x3 + 3).toNatClampNeg)) + 1) + (M 74 ((x3 + 4) + (M 74 (x3 + 3).toNatClampNeg)).toNatClampNeg))), (5, .int ((x3 + 4) + (M 74 (x3 + 3).toNatClampNeg))), (0, .ref (ga G 73)), (2, .int x2)]) hx hb dX5_delegation_95 hl (k := 4) rfl rfl (by decide) rfl (fun ls hl => ?_)
      refine lv_goto (tgt := 62) hx hb dX5_delegation_98 (by decide) ?_
      exact ih x2 ((((x3 + 4) + (M 74 (x3 + 3).toNatClampNeg)) + 1) + (M 74 ((x3 + 4) + (M 74 (x3 + 3).toNatClampNeg)).toNatClampNeg)) (x4 + 1) M y _ _ ls h hW (lv_sub hl [3, 4, 1, 0] rfl) kx
set_option maxHeartbeats 4000000 in
set_option maxRecDepth 100000 in
theorem c_X5_delegation (G : GG) (a1 : Int32) (a2 : Int32) (M : Me) (y : Int32 × Me) (h : f_X5_delegation a1 a2 M = some y) : CI G yX5_delegation wsX5_delegation (rmd 0 0 0) [.ref (ga G 73), .int a1, .int a2] M y := by
  rw [f_X5_delegation] at h
  refine co_o (by decide) rfl rfl (Nat.le_of_ble_eq_true rfl) (fun p e s m below meth c ls C hr hW hl => ?_)
  have hx := C.1
  have hb := C.2.1
  have hown := C.2.2.2.1
  have hts := C.2.2.2.2.1
  have inX5 : ∀ w ∈ wsX50, w ∈ wsX5_delegation := by decide +kernel
  have hL7 := hts (.fieldLink RX5 7 "TrustedUpdatesModel" "row" "[I") (by decide +kernel)
  have hl : lv_has ls 6 [(0, .ref (ga G 73)), (1, .int a1), (2, .int a2)] := hl
  refine lv_bipush (v := 120) hx hb dX5_delegation_0 (by decide) ?_
  refine lv_iload_n hx hb dX5_delegation_2 rfl (lv_at hl 1 rfl) ?_
  refine lv_imul hx hb dX5_delegation_3 ?_
  refine lv_iconst (v := 5) hx hb dX5_delegation_4 (by decide) ?_
  refine lv_iadd hx hb dX5_delegation_5 ?_
  refine lv_istore_n (lv' := [(3, .int ((120 * a1) + 5)), (0, .ref (ga G 73)), (1, .int a1), (2, .int a2)]) hx hb dX5_delegation_6 rfl hl (by decide) rfl (fun ls hl => ?_)
  refine lv_iconst (v := 0) hx hb dX5_delegation_7 (by decide) ?_
  refine lv_istore (lv' := [(4, .int 0), (3, .int ((120 * a1) + 5)), (0, .ref (ga G 73)), (1, .int a1), (2, .int a2)]) hx hb dX5_delegation_8 hl (by decide) rfl (fun ls hl => ?_)
  obtain ⟨q1, hq1, h⟩ := ob h
  refine L_X5_delegation_10 C 200 a1 a2 ((120 * a1) + 5) 0 M q1 _ _ ls hq1 hW (lv_sub hl [2, 3, 4, 1, 0] rfl) (fun H locs ls hW hl => ?_)
  refine lv_iload_n hx hb dX5_delegation_44 rfl (lv_at hl 1 rfl) ?_
  refine lv_aload_n hx hb dX5_delegation_45 rfl (lv_at hl 0 rfl) ?_
  refine wg_r C hW (k := 73) (ci := 5) (j := 1) (q := 74) k73 rfl ⟨by decide, rfl⟩ inX5 (by decide) (rfq k73 rfl) hL7 (fun _ h9 => h9) dX5_delegation_46 ?_
  refine lv_iload_n hx hb dX5_delegation_49 rfl (lv_at hl 2 rfl) ?_
  obtain ⟨hg3, h⟩ := ifg h
  refine wa_l C hW (k := 74) k74 hg3 dX5_delegation_50 (v := (q1.2 74 q1.1.toNatClampNeg)) rfl ?_
  refine lv_icmp_lt (tgt := 56) hx hb dX5_delegation_51 (by decide) (fun c2 => ?_) (fun c2 => ?_)
  · replace h := ift h c2
    refine lv_iinc (v := (q1.1 + 1)) (lv' := [(3, .int (q1.1 + 1)), (0, .ref (ga G 73)), (2, .int a2)]) hx hb dX5_delegation_56 hl (k := 2) rfl rfl (by decide) rfl (fun ls hl => ?_)
    refine lv_iconst (v := 0) hx hb dX5_delegation_59 (by decide) ?_
    refine lv_istore (lv' := [(4, .int 0), (3, .int (q1.1 + 1)), (0, .ref (ga G 73)), (2, .int a2)]) hx hb dX5_delegation_60 hl (by decide) rfl (fun ls hl => ?_)
    obtain ⟨q2, hq2, h⟩ := ob h
    refine L_X5_delegation_62 C 200 a2 (q1.1 + 1) 0 q1.2 q2 _ _ ls hq2 hW (lv_sub hl [2, 3, 1, 0] rfl) (fun H locs ls hW hl => ?_)
    refine lv_iload_n hx hb dX5_delegation_101 rfl (lv_at hl 0 rfl) ?_
    exact wr_i C hr hW h dX5_delegation_102
  · replace h := iff_ h c2
    refine lv_iconst (v := (-1)) hx hb dX5_delegation_54 (by decide) ?_
    exact wr_i C hr hW h dX5_delegation_55
theorem yd_X5_visit : yX5_visit.cls = RX5 ∧ yX5_visit.cls ≠ "java/lang/invoke/MethodHandle" ∧ yX5_visit.cls ≠ "java/lang/invoke/VarHandle" ∧ (parseMethodDescriptor yX5_visit.desc).map (fun d => d.parameters.length) = some 1 := by decide +kernel
set_option maxHeartbeats 4000000 in
set_option maxRecDepth 100000 in
theorem c_X5_visit (G : GG) (a1 : Int32) (M : Me) (y : Int32 × Me) (h : f_X5_visit a1 M = some y) : CV G yX5_visit wsX5_visit (rmd 0 0 0) [.ref (ga G 73), .int a1] M y := by
  rw [f_X5_visit] at h
  refine co_o (by decide) rfl rfl (Nat.le_of_ble_eq_true rfl) (fun p e s m below meth c ls C hr hW hl => ?_)
  have hx := C.1
  have hb := C.2.1
  have hown := C.2.2.2.1
  have hts := C.2.2.2.2.1
  have inX5 : ∀ w ∈ wsX50, w ∈ wsX5_visit := by decide +kernel
  have hL20 := hts (.fieldLink RX5 20 "TrustedUpdatesModel" "path" "[I") (by decide +kernel)
  have hL23 := hts (.fieldLink RX5 23 "TrustedUpdatesModel" "going" "[I") (by decide +kernel)
  have hL168 := hts (.fieldLink RX5 168 "TrustedUpdatesModel" "depth" "I") (by decide +kernel)
  have hL171 := hts (.fieldLink RX5 171 "TrustedUpdatesModel" "visited" "I") (by decide +kernel)
  have hL174 := hts (.fieldLink RX5 174 "TrustedUpdatesModel" "seen" "I") (by decide +kernel)
  have hl : lv_has ls 2 [(0, .ref (ga G 73)), (1, .int a1)] := hl
  refine lv_aload_n hx hb dX5_visit_0 rfl (lv_at hl 0 rfl) ?_
  refine wg_r C hW (k := 73) (ci := 5) (j := 15) (q := 77) k73 rfl ⟨by decide, rfl⟩ inX5 (by decide) (rfq k73 rfl) hL20 (fun _ h9 => h9) dX5_visit_1 ?_
  refine lv_aload_n hx hb dX5_visit_4 rfl (lv_at hl 0 rfl) ?_
  refine wg_i C hW (k := 73) (ci := 5) (j := 14) k73 rfl ⟨by decide, rfl⟩ inX5 (by decide) (rfq k73 rfl) (v := (M 73 14)) rfl hL168 (fun _ h9 => h9) dX5_visit_5 ?_
  refine lv_iload_n hx hb dX5_visit_8 rfl (lv_at hl 1 rfl) ?_
  obtain ⟨hg1, h⟩ := ifg h
  refine wa_s C hW (k := 77) k77 hg1 dX5_visit_9 (fun H locs hW => ?_)
  refine lv_aload_n hx hb dX5_visit_10 rfl (lv_at hl 0 rfl) ?_
  refine wg_r C hW (k := 73) (ci := 5) (j := 16) (q := 78) k73 rfl ⟨by decide, rfl⟩ inX5 (by decide) (rfq k73 rfl) hL23 (fun _ h9 => h9) dX5_visit_11 ?_
  refine lv_aload_n hx hb dX5_visit_14 rfl (lv_at hl 0 rfl) ?_
  refine wg_i C hW (k := 73) (ci := 5) (j := 14) k73 rfl ⟨by decide, rfl⟩ inX5 (by decide) (rfq k73 rfl) (v := (M 73 14)) (up_k (by decide)) hL168 (fun _ h9 => h9) dX5_visit_15 ?_
  refine lv_iconst (v := 0) hx hb dX5_visit_18 (by decide) ?_
  obtain ⟨hg2, h⟩ := ifg h
  refine wa_s C hW (k := 78) k78 hg2 dX5_visit_19 (fun H locs hW => ?_)
  refine lv_aload_n hx hb dX5_visit_20 rfl (lv_at hl 0 rfl) ?_
  refine lv_dup hx hb dX5_visit_21 rfl ?_
  refine wg_i C hW (k := 73) (ci := 5) (j := 14) k73 rfl ⟨by decide, rfl⟩ inX5 (by decide) (rfq k73 rfl) (v := (M 73 14)) ((up_k (by decide)).trans (up_k (by decide))) hL168 (fun _ h9 => h9) dX5_visit_22 ?_
  refine lv_iconst (v := 1) hx hb dX5_visit_25 (by decide) ?_
  refine lv_iadd hx hb dX5_visit_26 ?_
  refine wp_t C hW (k := 73) (ci := 5) (j := 14) (ty := .int) rfl rfl k73 rfl ⟨by decide, rfl⟩ inX5 tyX5 tyX5_ok nmX5 (by decide) (rfq k73 rfl) hL168 (fun _ h9 => h9) rfl rfl dX5_visit_27 (fun H locs hW => ?_)
  refine lv_aload_n hx hb dX5_visit_30 rfl (lv_at hl 0 rfl) ?_
  refine lv_dup hx hb dX5_visit_31 rfl ?_
  refine wg_i C hW (k := 73) (ci := 5) (j := 5) k73 rfl ⟨by decide, rfl⟩ inX5 (by decide) (rfq k73 rfl) (v := (M 73 5)) ((up_j (by decide)).trans ((up_k (by decide)).trans (up_k (by decide)))) hL171 (fun _ h9 => h9) dX5_visit_32 ?_
  refine lv_iconst (v := 1) hx hb dX5_visit_35 (by decide) ?_
  refine lv_iadd hx hb dX5_visit_36 ?_
  refine wp_t C hW (k := 73) (ci := 5) (j := 5) (ty := .int) rfl rfl k73 rfl ⟨by decide, rfl⟩ inX5 tyX5 tyX5_ok nmX5 (by decide) (rfq k73 rfl) hL171 (fun _ h9 => h9) rfl rfl dX5_visit_37 (fun H locs hW => ?_)
  refine lv_aload_n hx hb dX5_visit_40 rfl (lv_at hl 0 rfl) ?_
  refine lv_aload_n hx hb dX5_visit_41 rfl (lv_at hl 0 rfl) ?_
  refine wg_i C hW (k := 73) (ci := 5) (j := 17) k73 rfl ⟨by decide, rfl⟩ inX5 (by decide) (rfq k73 rfl) (v := (M 73 17)) ((up_j (by decide)).trans ((up_j (by decide)).trans ((up_k (by decide)).trans (up_k (by decide))))) hL174 (fun _ h9 => h9) dX5_visit_42 ?_
  refine lv_iconst (v := 1) hx hb dX5_visit_45 (by decide) ?_
  refine lv_iload_n hx hb dX5_visit_46 rfl (lv_at hl 1 rfl) ?_
  refine lv_ishl hx hb dX5_visit_47 ?_
  refine lv_ior hx hb dX5_visit_48 ?_
  refine wp_t C hW (k := 73) (ci := 5) (j := 17) (ty := .int) rfl rfl k73 rfl ⟨by decide, rfl⟩ inX5 tyX5 tyX5_ok nmX5 (by decide) (rfq k73 rfl) hL174 (fun _ h9 => h9) rfl rfl dX5_visit_49 (fun H locs hW => ?_)
  exact wr_v C hr hW h dX5_visit_52
theorem yd_X5_find : yX5_find.cls = RX5 ∧ yX5_find.cls ≠ "java/lang/invoke/MethodHandle" ∧ yX5_find.cls ≠ "java/lang/invoke/VarHandle" ∧ (parseMethodDescriptor yX5_find.desc).map (fun d => d.parameters.length) = some 2 := by decide +kernel
set_option maxHeartbeats 4000000 in
set_option maxRecDepth 100000 in
theorem L_X5_find_20 {G : GG} {p : Program} {e : Env} {s : State} {m : MethodId} {args : Array Value} {below : List Frame} {meth : Method} {c : Code} (C : Cx G wsX5_find RX5 cX5_find 8 p s m args meth c) (hr : meth.sig.returnType = (some .int)) : ∀ (n : Nat) (x1 : Int64) (x3 : Int32) (M : Me) (y : Int32 × Me) (H : Heap) (locs : List Loc) (ls : Array Slot), fL_X5_find_20 n x1 x3 M = some y → wH G s M H locs → lv_has ls 8 [(0, .ref (ga G 73)), (1, .long x1), (3, .int x3)] → W p (gl G) e (rmd 8 0 0) s m args below meth c H locs 0 0 (MQ below (Qi G y) args s 0 0 (wA G)) (F0 m 20 ls []) := by
  have hx := C.1
  have hb := C.2.1
  have hown := C.2.2.2.1
  have hts := C.2.2.2.2.1
  have inX5 : ∀ w ∈ wsX50, w ∈ wsX5_find := by decide +kernel
  have hL7 := hts (.fieldLink RX5 7 "TrustedUpdatesModel" "row" "[I") (by decide +kernel)
  have hL20 := hts (.fieldLink RX5 20 "TrustedUpdatesModel" "path" "[I") (by decide +kernel)
  have hL23 := hts (.fieldLink RX5 23 "TrustedUpdatesModel" "going" "[I") (by decide +kernel)
  have hL168 := hts (.fieldLink RX5 168 "TrustedUpdatesModel" "depth" "I") (by decide +kernel)
  have hL174 := hts (.fieldLink RX5 174 "TrustedUpdatesModel" "seen" "I") (by decide +kernel)
  intro n
  induction n with
  | zero => intro x1 x3 M y H locs ls h; exact nso h
  | succ n ih =>
    intro x1 x3 M y H locs ls h hW hl
    rw [fL_X5_find_20] at h
    refine lv_aload_n hx hb dX5_find_20 rfl (lv_at hl 0 rfl) ?_
    refine wg_i C hW (k := 73) (ci := 5) (j := 14) k73 rfl ⟨by decide, rfl⟩ inX5 (by decide) (rfq k73 rfl) (v := (M 73 14)) rfl hL168 (fun _ h9 => h9) dX5_find_21 ?_
    refine lv_if_le (tgt := 303) hx hb dX5_find_24 (by decide) (fun c1 => ?_) (fun c1 => ?_)
    · replace h := ift h c1
      refine lv_iconst (v := (-1)) hx hb dX5_find_303 (by decide) ?_
      exact wr_i C hr hW h dX5_find_304
    · replace h := iff_ h c1
      refine lv_aload_n hx hb dX5_find_27 rfl (lv_at hl 0 rfl) ?_
      refine wg_r C hW (k := 73) (ci := 5) (j := 15) (q := 77) k73 rfl ⟨by decide, rfl⟩ inX5 (by decide) (rfq k73 rfl) hL20 (fun _ h9 => h9) dX5_find_28 ?_
      refine lv_aload_n hx hb dX5_find_31 rfl (lv_at hl 0 rfl) ?_
      refine wg_i C hW (k := 73) (ci := 5) (j := 14) k73 rfl ⟨by decide, rfl⟩ inX5 (by decide) (rfq k73 rfl) (v := (M 73 14)) rfl hL168 (fun _ h9 => h9) dX5_find_32 ?_
      refine lv_iconst (v := 1) hx hb dX5_find_35 (by decide) ?_
      refine lv_isub hx hb dX5_find_36 ?_
      obtain ⟨hg1, h⟩ := ifg h
      refine wa_l C hW (k := 77) k77 hg1 dX5_find_37 (v := (M 77 ((M 73 14) - 1).toNatClampNeg)) rfl ?_
      refine lv_istore (lv' := [(4, .int (M 77 ((M 73 14) - 1).toNatClampNeg)), (0, .ref (ga G 73)), (1, .long x1), (3, .int x3)]) hx hb dX5_find_38 hl (by decide) rfl (fun ls hl => ?_)
      refine lv_aload_n hx hb dX5_find_40 rfl (lv_at hl 1 rfl) ?_
      refine wg_r C hW (k := 73) (ci := 5) (j := 16) (q := 78) k73 rfl ⟨by decide, rfl⟩ inX5 (by decide) (rfq k73 rfl) hL23 (fun _ h9 => h9) dX5_find_41 ?_
      refine lv_aload_n hx hb dX5_find_44 rfl (lv_at hl 1 rfl) ?_
      refine wg_i C hW (k := 73) (ci := 5) (j := 14) k73 rfl ⟨by decide, rfl⟩ inX5 (by decide) (rfq k73 rfl) (v := (M 73 14)) rfl hL168 (fun _ h9 => h9) dX5_find_45 ?_
      refine lv_iconst (v := 1) hx hb dX5_find_48 (by decide) ?_
      refine lv_isub hx hb dX5_find_49 ?_
      obtain ⟨hg2, h⟩ := ifg h
      refine wa_l C hW (k := 78) k78 hg2 dX5_find_50 (v := (M 78 ((M 73 14) - 1).toNatClampNeg)) rfl ?_
      refine lv_if_ne (tgt := 68) hx hb dX5_find_51 (by decide) (fun c2 => ?_) (fun c2 => ?_)
      · replace h := iff_ h c2
        refine lv_aload_n hx hb dX5_find_68 rfl (lv_at hl 1 rfl) ?_
        refine lv_iload hx hb dX5_find_69 (lv_at hl 0 rfl) ?_
        refine lv_aload_n hx hb dX5_find_71 rfl (lv_at hl 1 rfl) ?_
        refine wg_r C hW (k := 73) (ci := 5) (j := 16) (q := 78) k73 rfl ⟨by decide, rfl⟩ inX5 (by decide) (rfq k73 rfl) hL23 (fun _ h9 => h9) dX5_find_72 ?_
        refine lv_aload_n hx hb dX5_find_75 rfl (lv_at hl 1 rfl) ?_
        refine wg_i C hW (k := 73) (ci := 5) (j := 14) k73 rfl ⟨by decide, rfl⟩ inX5 (by decide) (rfq k73 rfl) (v := (M 73 14)) rfl hL168 (fun _ h9 => h9) dX5_find_76 ?_
        refine lv_iconst (v := 1) hx hb dX5_find_79 (by decide) ?_
        refine lv_isub hx hb dX5_find_80 ?_
        refine wa_l C hW (k := 78) k78 hg2 dX5_find_81 (v := (M 78 ((M 73 14) - 1).toNatClampNeg)) rfl ?_
        obtain ⟨q2, hq2, h⟩ := ob h
        refine wc_Vi C hW (k := 73) (As := [.int (M 77 ((M 73 14) - 1).toNatClampNeg), .int (M 78 ((M 73 14) - 1).toNatClampNeg)]) (rest := []) (c_X5_delegation G (M 77 ((M 73 14) - 1).toNatClampNeg) (M 78 ((M 73 14) - 1).toNatClampNeg) M q2 hq2) k73 rfl (by decide) (cwV 2 hts gX5_find_X5_delegation rfl rfl rfl yd_X5_delegation ⟨Nat.le_of_ble_eq_true rfl, Nat.le_of_ble_eq_true rfl⟩) rfl hl.1 rfl (Nat.le_of_ble_eq_true rfl) dX5_find_82 ⟨Nat.le_refl 0, Nat.le_refl 0⟩ (fun H locs hW => ?_)
        refine lv_istore (lv' := [(5, .int q2.1), (4, .int (M 77 ((M 73 14) - 1).toNatClampNeg)), (0, .ref (ga G 73)), (1, .long x1), (3, .int x3)]) hx hb dX5_find_85 hl (by decide) rfl (fun ls hl => ?_)
        refine lv_iload hx hb dX5_find_87 (lv_at hl 0 rfl) ?_
        refine lv_if_ge (tgt := 167) hx hb dX5_find_89 (by decide) (fun c3 => ?_) (fun c3 => ?_)
        · replace h := ift h c3
          refine lv_aload_n hx hb dX5_find_167 rfl (lv_at hl 2 rfl) ?_
          refine wg_r C hW (k := 73) (ci := 5) (j := 16) (q := 78) k73 rfl ⟨by decide, rfl⟩ inX5 (by decide) (rfq k73 rfl) hL23 (fun _ h9 => h9) dX5_find_168 ?_
          refine lv_aload_n hx hb dX5_find_171 rfl (lv_at hl 2 rfl) ?_
          refine wg_i C hW (k := 73) (ci := 5) (j := 14) k73 rfl ⟨by decide, rfl⟩ inX5 (by decide) (rfq k73 rfl) (v := (q2.2 73 14)) rfl hL168 (fun _ h9 => h9) dX5_find_172 ?_
          refine lv_iconst (v := 1) hx hb dX5_find_175 (by decide) ?_
          refine lv_isub hx hb dX5_find_176 ?_
          refine lv_dup2_11 hx hb dX5_find_177 rfl rfl ?_
          obtain ⟨hg3, h⟩ := ifg h
          refine wa_l C hW (k := 78) k78 hg3 dX5_find_178 (v := (q2.2 78 ((q2.2 73 14) - 1).toNatClampNeg)) rfl ?_
          refine lv_iconst (v := 1) hx hb dX5_find_179 (by decide) ?_
          refine lv_iadd hx hb dX5_find_180 ?_
          refine wa_s C hW (k := 78) k78 hg3 dX5_find_181 (fun H locs hW => ?_)
          refine lv_iload hx hb dX5_find_182 (lv_at hl 0 rfl) ?_
          refine lv_iconst (v := 4) hx hb dX5_find_184 (by decide) ?_
          refine lv_iadd hx hb dX5_find_185 ?_
          refine lv_aload_n hx hb dX5_find_186 rfl (lv_at hl 2 rfl) ?_
          refine wg_r C hW (k := 73) (ci := 5) (j := 1) (q := 74) k73 rfl ⟨by decide, rfl⟩ inX5 (by decide) (rfq k73 rfl) hL7 (fun _ h9 => h9) dX5_find_187 ?_
          refine lv_iload hx hb dX5_find_190 (lv_at hl 0 rfl) ?_
          refine lv_iconst (v := 3) hx hb dX5_find_192 (by decide) ?_
          refine lv_iadd hx hb dX5_find_193 ?_
          obtain ⟨hg4, h⟩ := ifg h
          refine wa_l C hW (k := 74) k74 hg4 dX5_find_194 (v := (q2.2 74 (q2.1 + 3).toNatClampNeg)) (up_k (by decide)) ?_
          refine lv_iadd hx hb dX5_find_195 ?_
          refine lv_istore (lv' := [(6, .int ((q2.1 + 4) + (q2.2 74 (q2.1 + 3).toNatClampNeg))), (5, .int q2.1), (4, .int (M 77 ((M 73 14) - 1).toNatClampNeg)), (0, .ref (ga G 73)), (1, .long x1), (3, .int x3)]) hx hb dX5_find_196 hl (by decide) rfl (fun ls hl => ?_)
          refine lv_aload_n hx hb dX5_find_198 rfl (lv_at hl 3 rfl) ?_
          refine wg_r C hW (k := 73) (ci := 5) (j := 1) (q := 74) k73 rfl ⟨by decide, rfl⟩ inX5 (by decide) (rfq k73 rfl) hL7 (fun _ h9 => h9) dX5_find_199 ?_
          refine lv_iload hx hb dX5_find_202 (lv_at hl 0 rfl) ?_
          obtain ⟨hg5, h⟩ := ifg h
          refine wa_l C hW (k := 74) k74 hg5 dX5_find_204 (v := (q2.2 74 ((q2.1 + 4) + (q2.2 74 (q2.1 + 3).toNatClampNeg)).toNatClampNeg)) (up_k (by decide)) ?_
          refine lv_iload_n hx hb dX5_find_205 rfl (lv_at hl 5 rfl) ?_
          refine lv_icmp_gt (tgt := 249) hx hb dX5_find_206 (by decide) (fun c4 => ?_) (fun c4 => ?_)
          · replace h := ift h c4
            refine lv_iconst (v := 0) hx hb dX5_find_249 (by decide) ?_
            refine lv_istore (lv' := [(7, .int 0), (6, .int ((q2.1 + 4) + (q2.2 74 (q2.1 + 3).toNatClampNeg))), (5, .int q2.1), (4, .int (M 77 ((M 73 14) - 1).toNatClampNeg)), (0, .ref (ga G 73)), (1, .long x1), (3, .int x3)]) hx hb dX5_find_250 hl (by decide) rfl (fun ls hl => ?_)
            refine lv_iload hx hb dX5_find_252 (lv_at hl 0 rfl) ?_
            refine lv_if_eq (tgt := 300) hx hb dX5_find_254 (by decide) (fun _ => ?_) (fun c5 => absurd c5 (by decide))
            refine lv_goto (tgt := 20) hx hb dX5_find_300 (by decide) ?_
            exact ih x1 x3 (up q2.2 78 ((q2.2 73 14) - 1).toNatClampNeg ((q2.2 78 ((q2.2 73 14) - 1).toNatClampNeg) + 1)) y _ _ ls h hW (lv_sub hl [4, 5, 6] rfl)
          · replace h := iff_ h c4
            refine lv_aload_n hx hb dX5_find_209 rfl (lv_at hl 3 rfl) ?_
            refine lv_iload hx hb dX5_find_210 (lv_at hl 0 rfl) ?_
            refine lv_iconst (v := 1) hx hb dX5_find_212 (by decide) ?_
            refine lv_iadd hx hb dX5_find_213 ?_
            refine lv_aload_n hx hb dX5_find_214 rfl (lv_at hl 3 rfl) ?_
            refine wg_r C hW (k := 73) (ci := 5) (j := 1) (q := 74) k73 rfl ⟨by decide, rfl⟩ inX5 (by decide) (rfq k73 rfl) hL7 (fun _ h9 => h9) dX5_find_215 ?_
            refine lv_iload hx hb dX5_find_218 (lv_at hl 0 rfl) ?_
            refine wa_l C hW (k := 74) k74 hg5 dX5_find_220 (v := (q2.2 74 ((q2.1 + 4) + (q2.2 74 (q2.1 + 3).toNatClampNeg)).toNatClampNeg)) (up_k (by decide)) ?_
            refine lv_lload_n hx hb dX5_find_221 rfl (lv_at hl 4 rfl) ?_
            obtain ⟨q3, hq3, h⟩ := ob h
            refine wc_Vi C hW (k := 73) (As := [.int (((q2.1 + 4) + (q2.2 74 (q2.1 + 3).toNatClampNeg)) + 1), .int (q2.2 74 ((q2.1 + 4) + (q2.2 74 (q2.1 + 3).toNatClampNeg)).toNatClampNeg), .long x1]) (rest := []) (c_X5_begins G (((q2.1 + 4) + (q2.2 74 (q2.1 + 3).toNatClampNeg)) + 1) (q2.2 74 ((q2.1 + 4) + (q2.2 74 (q2.1 + 3).toNatClampNeg)).toNatClampNeg) x1 (up q2.2 78 ((q2.2 73 14) - 1).toNatClampNeg ((q2.2 78 ((q2.2 73 14) - 1).toNatClampNeg) + 1)) q3 hq3) k73 rfl (by decide) (cwV 3 hts gX5_find_X5_begins rfl rfl rfl yd_X5_begins ⟨Nat.le_of_ble_eq_true rfl, Nat.le_of_ble_eq_true rfl⟩) rfl hl.1 rfl (Nat.le_of_ble_eq_true rfl) dX5_find_222 ⟨Nat.le_refl 0, Nat.le_refl 0⟩ (fun H locs hW => ?_)
            refine lv_if_eq (tgt := 249) hx hb dX5_find_225 (by decide) (fun c6 => ?_) (fun c6 => ?_)
            · replace h := ift h c6
              refine lv_iconst (v := 0) hx hb dX5_find_249 (by decide) ?_
              refine lv_istore (lv' := [(7, .int 0), (6, .int ((q2.1 + 4) + (q2.2 74 (q2.1 + 3).toNatClampNeg))), (5, .int q2.1), (4, .int (M 77 ((M 73 14) - 1).toNatClampNeg)), (0, .ref (ga G 73)), (1, .long x1), (3, .int x3)]) hx hb dX5_find_250 hl (by decide) rfl (fun ls hl => ?_)
              refine lv_iload hx hb dX5_find_252 (lv_at hl 0 rfl) ?_
              refine lv_if_eq (tgt := 300) hx hb dX5_find_254 (by decide) (fun _ => ?_) (fun c7 => absurd c7 (by decide))
              refine lv_goto (tgt := 20) hx hb dX5_find_300 (by decide) ?_
              exact ih x1 x3 q3.2 y _ _ ls h hW (lv_sub hl [4, 5, 6] rfl)
            · replace h := iff_ h c6
              refine lv_aload_n hx hb dX5_find_228 rfl (lv_at hl 3 rfl) ?_
              refine wg_i C hW (k := 73) (ci := 5) (j := 17) k73 rfl ⟨by decide, rfl⟩ inX5 (by decide) (rfq k73 rfl) (v := (q3.2 73 17)) rfl hL174 (fun _ h9 => h9) dX5_find_229 ?_
              refine lv_aload_n hx hb dX5_find_232 rfl (lv_at hl 3 rfl) ?_
              refine wg_r C hW (k := 73) (ci := 5) (j := 1) (q := 74) k73 rfl ⟨by decide, rfl⟩ inX5 (by decide) (rfq k73 rfl) hL7 (fun _ h9 => h9) dX5_find_233 ?_
              refine lv_iload hx hb dX5_find_236 (lv_at hl 1 rfl) ?_
              obtain ⟨hg6, h⟩ := ifg h
              refine wa_l C hW (k := 74) k74 hg6 dX5_find_238 (v := (q3.2 74 q2.1.toNatClampNeg)) rfl ?_
              refine lv_ishr hx hb dX5_find_239 ?_
              refine lv_iconst (v := 1) hx hb dX5_find_240 (by decide) ?_
              refine lv_iand hx hb dX5_find_241 ?_
              refine lv_if_ne (tgt := 249) hx hb dX5_find_242 (by decide) (fun c8 => ?_) (fun c8 => ?_)
              · replace h := iff_ h c8
                refine lv_iconst (v := 0) hx hb dX5_find_249 (by decide) ?_
                refine lv_istore (lv' := [(7, .int 0), (6, .int ((q2.1 + 4) + (q2.2 74 (q2.1 + 3).toNatClampNeg))), (5, .int q2.1), (4, .int (M 77 ((M 73 14) - 1).toNatClampNeg)), (0, .ref (ga G 73)), (1, .long x1), (3, .int x3)]) hx hb dX5_find_250 hl (by decide) rfl (fun ls hl => ?_)
                refine lv_iload hx hb dX5_find_252 (lv_at hl 0 rfl) ?_
                refine lv_if_eq (tgt := 300) hx hb dX5_find_254 (by decide) (fun _ => ?_) (fun c9 => absurd c9 (by decide))
                refine lv_goto (tgt := 20) hx hb dX5_find_300 (by decide) ?_
                exact ih x1 x3 q3.2 y _ _ ls h hW (lv_sub hl [4, 5, 6] rfl)
              · replace h := ift h c8
                refine lv_iconst (v := 1) hx hb dX5_find_245 (by decide) ?_
                refine lv_goto (tgt := 250) hx hb dX5_find_246 (by decide) ?_
                refine lv_istore (lv' := [(7, .int 1), (6, .int ((q2.1 + 4) + (q2.2 74 (q2.1 + 3).toNatClampNeg))), (5, .int q2.1), (4, .int (M 77 ((M 73 14) - 1).toNatClampNeg)), (0, .ref (ga G 73)), (1, .long x1), (3, .int x3)]) hx hb dX5_find_250 hl (by decide) rfl (fun ls hl => ?_)
                refine lv_iload hx hb dX5_find_252 (lv_at hl 0 rfl) ?_
                refine lv_if_eq (tgt := 300) hx hb dX5_find_254 (by decide) (fun c10 => absurd c10 (by decide)) (fun _ => ?_)
                refine lv_aload_n hx hb dX5_find_257 rfl (lv_at hl 4 rfl) ?_
                refine lv_aload_n hx hb dX5_find_258 rfl (lv_at hl 4 rfl) ?_
                refine wg_r C hW (k := 73) (ci := 5) (j := 1) (q := 74) k73 rfl ⟨by decide, rfl⟩ inX5 (by decide) (rfq k73 rfl) hL7 (fun _ h9 => h9) dX5_find_259 ?_
                refine lv_iload hx hb dX5_find_262 (lv_at hl 2 rfl) ?_
                refine wa_l C hW (k := 74) k74 hg6 dX5_find_264 (v := (q3.2 74 q2.1.toNatClampNeg)) rfl ?_
                obtain ⟨q4, hq4, h⟩ := ob h
                refine wc_Vi C hW (k := 73) (As := [.int (q3.2 74 q2.1.toNatClampNeg)]) (rest := []) (c_X5_isFresh G (q3.2 74 q2.1.toNatClampNeg) q3.2 q4 hq4) k73 rfl (by decide) (cwV 1 hts gX5_find_X5_isFresh rfl rfl rfl yd_X5_isFresh ⟨Nat.le_of_ble_eq_true rfl, Nat.le_of_ble_eq_true rfl⟩) rfl hl.1 rfl (Nat.le_of_ble_eq_true rfl) dX5_find_265 ⟨Nat.le_refl 0, Nat.le_refl 0⟩ (fun H locs hW => ?_)
                refine lv_if_eq (tgt := 300) hx hb dX5_find_268 (by decide) (fun c11 => ?_) (fun c11 => ?_)
                · replace h := ift h c11
                  refine lv_goto (tgt := 20) hx hb dX5_find_300 (by decide) ?_
                  exact ih x1 x3 q4.2 y _ _ ls h hW (lv_sub hl [4, 5, 6] rfl)
                · replace h := iff_ h c11
                  refine lv_aload_n hx hb dX5_find_271 rfl (lv_at hl 4 rfl) ?_
                  refine lv_aload_n hx hb dX5_find_272 rfl (lv_at hl 4 rfl) ?_
                  refine wg_r C hW (k := 73) (ci := 5) (j := 1) (q := 74) k73 rfl ⟨by decide, rfl⟩ inX5 (by decide) (rfq k73 rfl) hL7 (fun _ h9 => h9) dX5_find_273 ?_
                  refine lv_iload hx hb dX5_find_276 (lv_at hl 2 rfl) ?_
                  refine wa_l C hW (k := 74) k74 hg6 dX5_find_278 (v := (q4.2 74 q2.1.toNatClampNeg)) rfl ?_
                  refine lv_iload hx hb dX5_find_279 (lv_at hl 2 rfl) ?_
                  refine lv_iconst (v := 2) hx hb dX5_find_281 (by decide) ?_
                  refine lv_iadd hx hb dX5_find_282 ?_
                  obtain ⟨q5, hq5, h⟩ := ob h
                  refine wc_Vi C hW (k := 73) (As := [.int (q4.2 74 q2.1.toNatClampNeg), .int (q2.1 + 2)]) (rest := []) (c_X5_isSigned G (q4.2 74 q2.1.toNatClampNeg) (q2.1 + 2) q4.2 q5 hq5) k73 rfl (by decide) (cwV 2 hts gX5_find_X5_isSigned rfl rfl rfl yd_X5_isSigned ⟨Nat.le_of_ble_eq_true rfl, Nat.le_of_ble_eq_true rfl⟩) rfl hl.1 rfl (Nat.le_of_ble_eq_true rfl) dX5_find_283 ⟨Nat.le_refl 0, Nat.le_refl 0⟩ (fun H locs hW => ?_)
                  refine lv_if_eq (tgt := 300) hx hb dX5_find_286 (by decide) (fun c12 => ?_) (fun c12 => ?_)
                  · replace h := ift h c12
                    refine lv_goto (tgt := 20) hx hb dX5_find_300 (by decide) ?_
                    exact ih x1 x3 q5.2 y _ _ ls h hW (lv_sub hl [4, 5, 6] rfl)
                  · replace h := iff_ h c12
                    refine lv_aload_n hx hb dX5_find_289 rfl (lv_at hl 4 rfl) ?_
                    refine lv_aload_n hx hb dX5_find_290 rfl (lv_at hl 4 rfl) ?_
                    refine wg_r C hW (k := 73) (ci := 5) (j := 1) (q := 74) k73 rfl ⟨by decide, rfl⟩ inX5 (by decide) (rfq k73 rfl) hL7 (fun _ h9 => h9) dX5_find_291 ?_
                    refine lv_iload hx hb dX5_find_294 (lv_at hl 2 rfl) ?_
                    refine wa_l C hW (k := 74) k74 hg6 dX5_find_296 (v := (q5.2 74 q2.1.toNatClampNeg)) rfl ?_
                    obtain ⟨q6, hq6, h⟩ := ob h
                    refine wc_Vv C hW (k := 73) (As := [.int (q5.2 74 q2.1.toNatClampNeg)]) (rest := []) (c_X5_visit G (q5.2 74 q2.1.toNatClampNeg) q5.2 q6 hq6) k73 rfl (by decide) (cwV 1 hts gX5_find_X5_visit rfl rfl rfl yd_X5_visit ⟨Nat.le_of_ble_eq_true rfl, Nat.le_of_ble_eq_true rfl⟩) rfl hl.1 rfl (Nat.le_of_ble_eq_true rfl) dX5_find_297 ⟨Nat.le_refl 0, Nat.le_refl 0⟩ (fun H locs hW => ?_)
                    refine lv_goto (tgt := 20) hx hb dX5_find_300 (by decide) ?_
                    exact ih x1 x3 q6.2 y _ _ ls h hW (lv_sub hl [4, 5, 6] rfl)
        · replace h := iff_ h c3
          refine lv_aload_n hx hb dX5_find_92 rfl (lv_at hl 2 rfl) ?_
          refine lv_dup hx hb dX5_find_93 rfl ?_
          refine wg_i C hW (k := 73) (ci := 5) (j := 14) k73 rfl ⟨by decide, rfl⟩ inX5 (by decide) (rfq k73 rfl) (v := (q2.2 73 14)) rfl hL168 (fun _ h9 => h9) dX5_find_94 ?_
          refine lv_iconst (v := 1) hx hb dX5_find_97 (by decide) ?_
          refine lv_isub hx hb dX5_find_98 ?_
          refine wp_t C hW (k := 73) (ci := 5) (j := 14) (ty := .int) rfl rfl k73 rfl ⟨by decide, rfl⟩ inX5 tyX5 tyX5_ok nmX5 (by decide) (rfq k73 rfl) hL168 (fun _ h9 => h9) rfl rfl dX5_find_99 (fun H locs hW => ?_)
          refine lv_aload_n hx hb dX5_find_102 rfl (lv_at hl 2 rfl) ?_
          refine wg_i C hW (k := 73) (ci := 5) (j := 14) k73 rfl ⟨by decide, rfl⟩ inX5 (by decide) (rfq k73 rfl) (v := ((q2.2 73 14) - 1)) up_s hL168 (fun _ h9 => h9) dX5_find_103 ?_
          refine lv_if_le (tgt := 300) hx hb dX5_find_106 (by decide) (fun c13 => ?_) (fun c13 => ?_)
          · replace h := ift h c13
            refine lv_goto (tgt := 20) hx hb dX5_find_300 (by decide) ?_
            exact ih x1 x3 (up q2.2 73 14 ((q2.2 73 14) - 1)) y _ _ ls h hW (lv_sub hl [2, 3, 4] rfl)
          · replace h := iff_ h c13
            refine lv_aload_n hx hb dX5_find_109 rfl (lv_at hl 2 rfl) ?_
            refine lv_aload_n hx hb dX5_find_110 rfl (lv_at hl 2 rfl) ?_
            refine wg_r C hW (k := 73) (ci := 5) (j := 15) (q := 77) k73 rfl ⟨by decide, rfl⟩ inX5 (by decide) (rfq k73 rfl) hL20 (fun _ h9 => h9) dX5_find_111 ?_
            refine lv_aload_n hx hb dX5_find_114 rfl (lv_at hl 2 rfl) ?_
            refine wg_i C hW (k := 73) (ci := 5) (j := 14) k73 rfl ⟨by decide, rfl⟩ inX5 (by decide) (rfq k73 rfl) (v := ((q2.2 73 14) - 1)) up_s hL168 (fun _ h9 => h9) dX5_find_115 ?_
            refine lv_iconst (v := 1) hx hb dX5_find_118 (by decide) ?_
            refine lv_isub hx hb dX5_find_119 ?_
            obtain ⟨hg7, h⟩ := ifg h
            refine wa_l C hW (k := 77) k77 hg7 dX5_find_120 (v := (q2.2 77 (((q2.2 73 14) - 1) - 1).toNatClampNeg)) (up_k (by decide)) ?_
            refine lv_aload_n hx hb dX5_find_121 rfl (lv_at hl 2 rfl) ?_
            refine wg_r C hW (k := 73) (ci := 5) (j := 16) (q := 78) k73 rfl ⟨by decide, rfl⟩ inX5 (by decide) (rfq k73 rfl) hL23 (fun _ h9 => h9) dX5_find_122 ?_
            refine lv_aload_n hx hb dX5_find_125 rfl (lv_at hl 2 rfl) ?_
            refine wg_i C hW (k := 73) (ci := 5) (j := 14) k73 rfl ⟨by decide, rfl⟩ inX5 (by decide) (rfq k73 rfl) (v := ((q2.2 73 14) - 1)) up_s hL168 (fun _ h9 => h9) dX5_find_126 ?_
            refine lv_iconst (v := 1) hx hb dX5_find_129 (by decide) ?_
            refine lv_isub hx hb dX5_find_130 ?_
            obtain ⟨hg8, h⟩ := ifg h
            refine wa_l C hW (k := 78) k78 hg8 dX5_find_131 (v := (q2.2 78 (((q2.2 73 14) - 1) - 1).toNatClampNeg)) (up_k (by decide)) ?_
            refine lv_iconst (v := 1) hx hb dX5_find_132 (by decide) ?_
            refine lv_isub hx hb dX5_find_133 ?_
            obtain ⟨q7, hq7, h⟩ := ob h
            refine wc_Vi C hW (k := 73) (As := [.int (q2.2 77 (((q2.2 73 14) - 1) - 1).toNatClampNeg), .int ((q2.2 78 (((q2.2 73 14) - 1) - 1).toNatClampNeg) - 1)]) (rest := []) (c_X5_delegation G (q2.2 77 (((q2.2 73 14) - 1) - 1).toNatClampNeg) ((q2.2 78 (((q2.2 73 14) - 1) - 1).toNatClampNeg) - 1) (up q2.2 73 14 ((q2.2 73 14) - 1)) q7 hq7) k73 rfl (by decide) (cwV 2 hts gX5_find_X5_delegation rfl rfl rfl yd_X5_delegation ⟨Nat.le_of_ble_eq_true rfl, Nat.le_of_ble_eq_true rfl⟩) rfl hl.1 rfl (Nat.le_of_ble_eq_true rfl) dX5_find_134 ⟨Nat.le_refl 0, Nat.le_refl 0⟩ (fun H locs hW => ?_)
            refine lv_istore (lv' := [(6, .int q7.1), (5, .int q2.1), (4, .int (M 77 ((M 73 14) - 1).toNatClampNeg)), (0, .ref (ga G 73)), (1, .long x1), (3, .int x3)]) hx hb dX5_find_137 hl (by decide) rfl (fun ls hl => ?_)
            refine lv_aload_n hx hb dX5_find_139 rfl (lv_at hl 3 rfl) ?_
            refine lv_aload_n hx hb dX5_find_140 rfl (lv_at hl 3 rfl) ?_
            refine wg_r C hW (k := 73) (ci := 5) (j := 1) (q := 74) k73 rfl ⟨by decide, rfl⟩ inX5 (by decide) (rfq k73 rfl) hL7 (fun _ h9 => h9) dX5_find_141 ?_
            refine lv_iload hx hb dX5_find_144 (lv_at hl 0 rfl) ?_
            refine lv_iconst (v := 1) hx hb dX5_find_146 (by decide) ?_
            refine lv_iadd hx hb dX5_find_147 ?_
            obtain ⟨hg9, h⟩ := ifg h
            refine wa_l C hW (k := 74) k74 hg9 dX5_find_148 (v := (q7.2 74 (q7.1 + 1).toNatClampNeg)) rfl ?_
            refine lv_iconst (v := 1) hx hb dX5_find_149 (by decide) ?_
            refine lv_icmp_ne (tgt := 157) hx hb dX5_find_150 (by decide) (fun c14 => ?_) (fun c14 => ?_)
            · replace h := iff_ h c14
              refine lv_aload_n hx hb dX5_find_157 rfl (lv_at hl 3 rfl) ?_
              refine wg_i C hW (k := 73) (ci := 5) (j := 14) k73 rfl ⟨by decide, rfl⟩ inX5 (by decide) (rfq k73 rfl) (v := (q7.2 73 14)) rfl hL168 (fun _ h9 => h9) dX5_find_158 ?_
              refine wp_t C hW (k := 73) (ci := 5) (j := 14) (ty := .int) rfl rfl k73 rfl ⟨by decide, rfl⟩ inX5 tyX5 tyX5_ok nmX5 (by decide) (rfq k73 rfl) hL168 (fun _ h9 => h9) rfl rfl dX5_find_161 (fun H locs hW => ?_)
              refine lv_goto (tgt := 300) hx hb dX5_find_164 (by decide) ?_
              refine lv_goto (tgt := 20) hx hb dX5_find_300 (by decide) ?_
              exact ih x1 x3 (up q7.2 73 14 (q7.2 73 14)) y _ _ ls h hW (lv_sub hl [3, 4, 5] rfl)
            · replace h := ift h c14
              refine lv_iconst (v := 0) hx hb dX5_find_153 (by decide) ?_
              refine lv_goto (tgt := 161) hx hb dX5_find_154 (by decide) ?_
              refine wp_t C hW (k := 73) (ci := 5) (j := 14) (ty := .int) rfl rfl k73 rfl ⟨by decide, rfl⟩ inX5 tyX5 tyX5_ok nmX5 (by decide) (rfq k73 rfl) hL168 (fun _ h9 => h9) rfl rfl dX5_find_161 (fun H locs hW => ?_)
              refine lv_goto (tgt := 300) hx hb dX5_find_164 (by decide) ?_
              refine lv_goto (tgt := 20) hx hb dX5_find_300 (by decide) ?_
              exact ih x1 x3 (up q7.2 73 14 0) y _ _ ls h hW (lv_sub hl [3, 4, 5] rfl)
      · replace h := ift h c2
        refine lv_aload_n hx hb dX5_find_54 rfl (lv_at hl 1 rfl) ?_
        refine lv_iload hx hb dX5_find_55 (lv_at hl 0 rfl) ?_
        refine lv_lload_n hx hb dX5_find_57 rfl (lv_at hl 2 rfl) ?_
        refine lv_iload_n hx hb dX5_find_58 rfl (lv_at hl 3 rfl) ?_
        obtain ⟨q8, hq8, h⟩ := ob h
        refine wc_Vi C hW (k := 73) (As := [.int (M 77 ((M 73 14) - 1).toNatClampNeg), .long x1, .int x3]) (rest := []) (c_X5_hasTarget G (M 77 ((M 73 14) - 1).toNatClampNeg) x1 x3 M q8 hq8) k73 rfl (by decide) (cwV 3 hts gX5_find_X5_hasTarget rfl rfl rfl yd_X5_hasTarget ⟨Nat.le_of_ble_eq_true rfl, Nat.le_of_ble_eq_true rfl⟩) rfl hl.1 rfl (Nat.le_of_ble_eq_true rfl) dX5_find_59 ⟨Nat.le_refl 0, Nat.le_refl 0⟩ (fun H locs hW => ?_)
        refine lv_if_eq (tgt := 68) hx hb dX5_find_62 (by decide) (fun c15 => ?_) (fun c15 => ?_)
        · replace h := ift h c15
          refine lv_aload_n hx hb dX5_find_68 rfl (lv_at hl 1 rfl) ?_
          refine lv_iload hx hb dX5_find_69 (lv_at hl 0 rfl) ?_
          refine lv_aload_n hx hb dX5_find_71 rfl (lv_at hl 1 rfl) ?_
          refine wg_r C hW (k := 73) (ci := 5) (j := 16) (q := 78) k73 rfl ⟨by decide, rfl⟩ inX5 (by decide) (rfq k73 rfl) hL23 (fun _ h9 => h9) dX5_find_72 ?_
          refine lv_aload_n hx hb dX5_find_75 rfl (lv_at hl 1 rfl) ?_
          refine wg_i C hW (k := 73) (ci := 5) (j := 14) k73 rfl ⟨by decide, rfl⟩ inX5 (by decide) (rfq k73 rfl) (v := (q8.2 73 14)) rfl hL168 (fun _ h9 => h9) dX5_find_76 ?_
          refine lv_iconst (v := 1) hx hb dX5_find_79 (by decide) ?_
          refine lv_isub hx hb dX5_find_80 ?_
          obtain ⟨hg10, h⟩ := ifg h
          refine wa_l C hW (k := 78) k78 hg10 dX5_find_81 (v := (q8.2 78 ((q8.2 73 14) - 1).toNatClampNeg)) rfl ?_
          obtain ⟨q9, hq9, h⟩ := ob h
          refine wc_Vi C hW (k := 73) (As := [.int (M 77 ((M 73 14) - 1).toNatClampNeg), .int (q8.2 78 ((q8.2 73 14) - 1).toNatClampNeg)]) (rest := []) (c_X5_delegation G (M 77 ((M 73 14) - 1).toNatClampNeg) (q8.2 78 ((q8.2 73 14) - 1).toNatClampNeg) q8.2 q9 hq9) k73 rfl (by decide) (cwV 2 hts gX5_find_X5_delegation rfl rfl rfl yd_X5_delegation ⟨Nat.le_of_ble_eq_true rfl, Nat.le_of_ble_eq_true rfl⟩) rfl hl.1 rfl (Nat.le_of_ble_eq_true rfl) dX5_find_82 ⟨Nat.le_refl 0, Nat.le_refl 0⟩ (fun H locs hW => ?_)
          refine lv_istore (lv' := [(5, .int q9.1), (4, .int (M 77 ((M 73 14) - 1).toNatClampNeg)), (0, .ref (ga G 73)), (1, .long x1), (3, .int x3)]) hx hb dX5_find_85 hl (by decide) rfl (fun ls hl => ?_)
          refine lv_iload hx hb dX5_find_87 (lv_at hl 0 rfl) ?_
          refine lv_if_ge (tgt := 167) hx hb dX5_find_89 (by decide) (fun c16 => ?_) (fun c16 => ?_)
          · replace h := ift h c16
            refine lv_aload_n hx hb dX5_find_167 rfl (lv_at hl 2 rfl) ?_
            refine wg_r C hW (k := 73) (ci := 5) (j := 16) (q := 78) k73 rfl ⟨by decide, rfl⟩ inX5 (by decide) (rfq k73 rfl) hL23 (fun _ h9 => h9) dX5_find_168 ?_
            refine lv_aload_n hx hb dX5_find_171 rfl (lv_at hl 2 rfl) ?_
            refine wg_i C hW (k := 73) (ci := 5) (j := 14) k73 rfl ⟨by decide, rfl⟩ inX5 (by decide) (rfq k73 rfl) (v := (q9.2 73 14)) rfl hL168 (fun _ h9 => h9) dX5_find_172 ?_
            refine lv_iconst (v := 1) hx hb dX5_find_175 (by decide) ?_
            refine lv_isub hx hb dX5_find_176 ?_
            refine lv_dup2_11 hx hb dX5_find_177 rfl rfl ?_
            obtain ⟨hg11, h⟩ := ifg h
            refine wa_l C hW (k := 78) k78 hg11 dX5_find_178 (v := (q9.2 78 ((q9.2 73 14) - 1).toNatClampNeg)) rfl ?_
            refine lv_iconst (v := 1) hx hb dX5_find_179 (by decide) ?_
            refine lv_iadd hx hb dX5_find_180 ?_
            refine wa_s C hW (k := 78) k78 hg11 dX5_find_181 (fun H locs hW => ?_)
            refine lv_iload hx hb dX5_find_182 (lv_at hl 0 rfl) ?_
            refine lv_iconst (v := 4) hx hb dX5_find_184 (by decide) ?_
            refine lv_iadd hx hb dX5_find_185 ?_
            refine lv_aload_n hx hb dX5_find_186 rfl (lv_at hl 2 rfl) ?_
            refine wg_r C hW (k := 73) (ci := 5) (j := 1) (q := 74) k73 rfl ⟨by decide, rfl⟩ inX5 (by decide) (rfq k73 rfl) hL7 (fun _ h9 => h9) dX5_find_187 ?_
            refine lv_iload hx hb dX5_find_190 (lv_at hl 0 rfl) ?_
            refine lv_iconst (v := 3) hx hb dX5_find_192 (by decide) ?_
            refine lv_iadd hx hb dX5_find_193 ?_
            obtain ⟨hg12, h⟩ := ifg h
            refine wa_l C hW (k := 74) k74 hg12 dX5_find_194 (v := (q9.2 74 (q9.1 + 3).toNatClampNeg)) (up_k (by decide)) ?_
            refine lv_iadd hx hb dX5_find_195 ?_
            refine lv_istore (lv' := [(6, .int ((q9.1 + 4) + (q9.2 74 (q9.1 + 3).toNatClampNeg))), (5, .int q9.1), (4, .int (M 77 ((M 73 14) - 1).toNatClampNeg)), (0, .ref (ga G 73)), (1, .long x1), (3, .int x3)]) hx hb dX5_find_196 hl (by decide) rfl (fun ls hl => ?_)
            refine lv_aload_n hx hb dX5_find_198 rfl (lv_at hl 3 rfl) ?_
            refine wg_r C hW (k := 73) (ci := 5) (j := 1) (q := 74) k73 rfl ⟨by decide, rfl⟩ inX5 (by decide) (rfq k73 rfl) hL7 (fun _ h9 => h9) dX5_find_199 ?_
            refine lv_iload hx hb dX5_find_202 (lv_at hl 0 rfl) ?_
            obtain ⟨hg13, h⟩ := ifg h
            refine wa_l C hW (k := 74) k74 hg13 dX5_find_204 (v := (q9.2 74 ((q9.1 + 4) + (q9.2 74 (q9.1 + 3).toNatClampNeg)).toNatClampNeg)) (up_k (by decide)) ?_
            refine lv_iload_n hx hb dX5_find_205 rfl (lv_at hl 5 rfl) ?_
            refine lv_icmp_gt (tgt := 249) hx hb dX5_find_206 (by decide) (fun c17 => ?_) (fun c17 => ?_)
            · replace h := ift h c17
              refine lv_iconst (v := 0) hx hb dX5_find_249 (by decide) ?_
              refine lv_istore (lv' := [(7, .int 0), (6, .int ((q9.1 + 4) + (q9.2 74 (q9.1 + 3).toNatClampNeg))), (5, .int q9.1), (4, .int (M 77 ((M 73 14) - 1).toNatClampNeg)), (0, .ref (ga G 73)), (1, .long x1), (3, .int x3)]) hx hb dX5_find_250 hl (by decide) rfl (fun ls hl => ?_)
              refine lv_iload hx hb dX5_find_252 (lv_at hl 0 rfl) ?_
              refine lv_if_eq (tgt := 300) hx hb dX5_find_254 (by decide) (fun _ => ?_) (fun c18 => absurd c18 (by decide))
              refine lv_goto (tgt := 20) hx hb dX5_find_300 (by decide) ?_
              exact ih x1 x3 (up q9.2 78 ((q9.2 73 14) - 1).toNatClampNeg ((q9.2 78 ((q9.2 73 14) - 1).toNatClampNeg) + 1)) y _ _ ls h hW (lv_sub hl [4, 5, 6] rfl)
            · replace h := iff_ h c17
              refine lv_aload_n hx hb dX5_find_209 rfl (lv_at hl 3 rfl) ?_
              refine lv_iload hx hb dX5_find_210 (lv_at hl 0 rfl) ?_
              refine lv_iconst (v := 1) hx hb dX5_find_212 (by decide) ?_
              refine lv_iadd hx hb dX5_find_213 ?_
              refine lv_aload_n hx hb dX5_find_214 rfl (lv_at hl 3 rfl) ?_
              refine wg_r C hW (k := 73) (ci := 5) (j := 1) (q := 74) k73 rfl ⟨by decide, rfl⟩ inX5 (by decide) (rfq k73 rfl) hL7 (fun _ h9 => h9) dX5_find_215 ?_
              refine lv_iload hx hb dX5_find_218 (lv_at hl 0 rfl) ?_
              refine wa_l C hW (k := 74) k74 hg13 dX5_find_220 (v := (q9.2 74 ((q9.1 + 4) + (q9.2 74 (q9.1 + 3).toNatClampNeg)).toNatClampNeg)) (up_k (by decide)) ?_
              refine lv_lload_n hx hb dX5_find_221 rfl (lv_at hl 4 rfl) ?_
              obtain ⟨q10, hq10, h⟩ := ob h
              refine wc_Vi C hW (k := 73) (As := [.int (((q9.1 + 4) + (q9.2 74 (q9.1 + 3).toNatClampNeg)) + 1), .int (q9.2 74 ((q9.1 + 4) + (q9.2 74 (q9.1 + 3).toNatClampNeg)).toNatClampNeg), .long x1]) (rest := []) (c_X5_begins G (((q9.1 + 4) + (q9.2 74 (q9.1 + 3).toNatClampNeg)) + 1) (q9.2 74 ((q9.1 + 4) + (q9.2 74 (q9.1 + 3).toNatClampNeg)).toNatClampNeg) x1 (up q9.2 78 ((q9.2 73 14) - 1).toNatClampNeg ((q9.2 78 ((q9.2 73 14) - 1).toNatClampNeg) + 1)) q10 hq10) k73 rfl (by decide) (cwV 3 hts gX5_find_X5_begins rfl rfl rfl yd_X5_begins ⟨Nat.le_of_ble_eq_true rfl, Nat.le_of_ble_eq_true rfl⟩) rfl hl.1 rfl (Nat.le_of_ble_eq_true rfl) dX5_find_222 ⟨Nat.le_refl 0, Nat.le_refl 0⟩ (fun H locs hW => ?_)
              refine lv_if_eq (tgt := 249) hx hb dX5_find_225 (by decide) (fun c19 => ?_) (fun c19 => ?_)
              · replace h := ift h c19
                refine lv_iconst (v := 0) hx hb dX5_find_249 (by decide) ?_
                refine lv_istore (lv' := [(7, .int 0), (6, .int ((q9.1 + 4) + (q9.2 74 (q9.1 + 3).toNatClampNeg))), (5, .int q9.1), (4, .int (M 77 ((M 73 14) - 1).toNatClampNeg)), (0, .ref (ga G 73)), (1, .long x1), (3, .int x3)]) hx hb dX5_find_250 hl (by decide) rfl (fun ls hl => ?_)
                refine lv_iload hx hb dX5_find_252 (lv_at hl 0 rfl) ?_
                refine lv_if_eq (tgt := 300) hx hb dX5_find_254 (by decide) (fun _ => ?_) (fun c20 => absurd c20 (by decide))
                refine lv_goto (tgt := 20) hx hb dX5_find_300 (by decide) ?_
                exact ih x1 x3 q10.2 y _ _ ls h hW (lv_sub hl [4, 5, 6] rfl)
              · replace h := iff_ h c19
                refine lv_aload_n hx hb dX5_find_228 rfl (lv_at hl 3 rfl) ?_
                refine wg_i C hW (k := 73) (ci := 5) (j := 17) k73 rfl ⟨by decide, rfl⟩ inX5 (by decide) (rfq k73 rfl) (v := (q10.2 73 17)) rfl hL174 (fun _ h9 => h9) dX5_find_229 ?_
                refine lv_aload_n hx hb dX5_find_232 rfl (lv_at hl 3 rfl) ?_
                refine wg_r C hW (k := 73) (ci := 5) (j := 1) (q := 74) k73 rfl ⟨by decide, rfl⟩ inX5 (by decide) (rfq k73 rfl) hL7 (fun _ h9 => h9) dX5_find_233 ?_
                refine lv_iload hx hb dX5_find_236 (lv_at hl 1 rfl) ?_
                obtain ⟨hg14, h⟩ := ifg h
                refine wa_l C hW (k := 74) k74 hg14 dX5_find_238 (v := (q10.2 74 q9.1.toNatClampNeg)) rfl ?_
                refine lv_ishr hx hb dX5_find_239 ?_
                refine lv_iconst (v := 1) hx hb dX5_find_240 (by decide) ?_
                refine lv_iand hx hb dX5_find_241 ?_
                refine lv_if_ne (tgt := 249) hx hb dX5_find_242 (by decide) (fun c21 => ?_) (fun c21 => ?_)
                · replace h := iff_ h c21
                  refine lv_iconst (v := 0) hx hb dX5_find_249 (by decide) ?_
                  refine lv_istore (lv' := [(7, .int 0), (6, .int ((q9.1 + 4) + (q9.2 74 (q9.1 + 3).toNatClampNeg))), (5, .int q9.1), (4, .int (M 77 ((M 73 14) - 1).toNatClampNeg)), (0, .ref (ga G 73)), (1, .long x1), (3, .int x3)]) hx hb dX5_find_250 hl (by decide) rfl (fun ls hl => ?_)
                  refine lv_iload hx hb dX5_find_252 (lv_at hl 0 rfl) ?_
                  refine lv_if_eq (tgt := 300) hx hb dX5_find_254 (by decide) (fun _ => ?_) (fun c22 => absurd c22 (by decide))
                  refine lv_goto (tgt := 20) hx hb dX5_find_300 (by decide) ?_
                  exact ih x1 x3 q10.2 y _ _ ls h hW (lv_sub hl [4, 5, 6] rfl)
                · replace h := ift h c21
                  refine lv_iconst (v := 1) hx hb dX5_find_245 (by decide) ?_
                  refine lv_goto (tgt := 250) hx hb dX5_find_246 (by decide) ?_
                  refine lv_istore (lv' := [(7, .int 1), (6, .int ((q9.1 + 4) + (q9.2 74 (q9.1 + 3).toNatClampNeg))), (5, .int q9.1), (4, .int (M 77 ((M 73 14) - 1).toNatClampNeg)), (0, .ref (ga G 73)), (1, .long x1), (3, .int x3)]) hx hb dX5_find_250 hl (by decide) rfl (fun ls hl => ?_)
                  refine lv_iload hx hb dX5_find_252 (lv_at hl 0 rfl) ?_
                  refine lv_if_eq (tgt := 300) hx hb dX5_find_254 (by decide) (fun c23 => absurd c23 (by decide)) (fun _ => ?_)
                  refine lv_aload_n hx hb dX5_find_257 rfl (lv_at hl 4 rfl) ?_
                  refine lv_aload_n hx hb dX5_find_258 rfl (lv_at hl 4 rfl) ?_
                  refine wg_r C hW (k := 73) (ci := 5) (j := 1) (q := 74) k73 rfl ⟨by decide, rfl⟩ inX5 (by decide) (rfq k73 rfl) hL7 (fun _ h9 => h9) dX5_find_259 ?_
                  refine lv_iload hx hb dX5_find_262 (lv_at hl 2 rfl) ?_
                  refine wa_l C hW (k := 74) k74 hg14 dX5_find_264 (v := (q10.2 74 q9.1.toNatClampNeg)) rfl ?_
                  obtain ⟨q11, hq11, h⟩ := ob h
                  refine wc_Vi C hW (k := 73) (As := [.int (q10.2 74 q9.1.toNatClampNeg)]) (rest := []) (c_X5_isFresh G (q10.2 74 q9.1.toNatClampNeg) q10.2 q11 hq11) k73 rfl (by decide) (cwV 1 hts gX5_find_X5_isFresh rfl rfl rfl yd_X5_isFresh ⟨Nat.le_of_ble_eq_true rfl, Nat.le_of_ble_eq_true rfl⟩) rfl hl.1 rfl (Nat.le_of_ble_eq_true rfl) dX5_find_265 ⟨Nat.le_refl 0, Nat.le_refl 0⟩ (fun H locs hW => ?_)
                  refine lv_if_eq (tgt := 300) hx hb dX5_find_268 (by decide) (fun c24 => ?_) (fun c24 => ?_)
                  · replace h := ift h c24
                    refine lv_goto (tgt := 20) hx hb dX5_find_300 (by decide) ?_
                    exact ih x1 x3 q11.2 y _ _ ls h hW (lv_sub hl [4, 5, 6] rfl)
                  · replace h := iff_ h c24
                    refine lv_aload_n hx hb dX5_find_271 rfl (lv_at hl 4 rfl) ?_
                    refine lv_aload_n hx hb dX5_find_272 rfl (lv_at hl 4 rfl) ?_
                    refine wg_r C hW (k := 73) (ci := 5) (j := 1) (q := 74) k73 rfl ⟨by decide, rfl⟩ inX5 (by decide) (rfq k73 rfl) hL7 (fun _ h9 => h9) dX5_find_273 ?_
                    refine lv_iload hx hb dX5_find_276 (lv_at hl 2 rfl) ?_
                    refine wa_l C hW (k := 74) k74 hg14 dX5_find_278 (v := (q11.2 74 q9.1.toNatClampNeg)) rfl ?_
                    refine lv_iload hx hb dX5_find_279 (lv_at hl 2 rfl) ?_
                    refine lv_iconst (v := 2) hx hb dX5_find_281 (by decide) ?_
                    refine lv_iadd hx hb dX5_find_282 ?_
                    obtain ⟨q12, hq12, h⟩ := ob h
                    refine wc_Vi C hW (k := 73) (As := [.int (q11.2 74 q9.1.toNatClampNeg), .int (q9.1 + 2)]) (rest := []) (c_X5_isSigned G (q11.2 74 q9.1.toNatClampNeg) (q9.1 + 2) q11.2 q12 hq12) k73 rfl (by decide) (cwV 2 hts gX5_find_X5_isSigned rfl rfl rfl yd_X5_isSigned ⟨Nat.le_of_ble_eq_true rfl, Nat.le_of_ble_eq_true rfl⟩) rfl hl.1 rfl (Nat.le_of_ble_eq_true rfl) dX5_find_283 ⟨Nat.le_refl 0, Nat.le_refl 0⟩ (fun H locs hW => ?_)
                    refine lv_if_eq (tgt := 300) hx hb dX5_find_286 (by decide) (fun c25 => ?_) (fun c25 => ?_)
                    · replace h := ift h c25
                      refine lv_goto (tgt := 20) hx hb dX5_find_300 (by decide) ?_
                      exact ih x1 x3 q12.2 y _ _ ls h hW (lv_sub hl [4, 5, 6] rfl)
                    · replace h := iff_ h c25
                      refine lv_aload_n hx hb dX5_find_289 rfl (lv_at hl 4 rfl) ?_
                      refine lv_aload_n hx hb dX5_find_290 rfl (lv_at hl 4 rfl) ?_
                      refine wg_r C hW (k := 73) (ci := 5) (j := 1) (q := 74) k73 rfl ⟨by decide, rfl⟩ inX5 (by decide) (rfq k73 rfl) hL7 (fun _ h9 => h9) dX5_find_291 ?_
                      refine lv_iload hx hb dX5_find_294 (lv_at hl 2 rfl) ?_
                      refine wa_l C hW (k := 74) k74 hg14 dX5_find_296 (v := (q12.2 74 q9.1.toNatClampNeg)) rfl ?_
                      obtain ⟨q13, hq13, h⟩ := ob h
                      refine wc_Vv C hW (k := 73) (As := [.int (q12.2 74 q9.1.toNatClampNeg)]) (rest := []) (c_X5_visit G (q12.2 74 q9.1.toNatClampNeg) q12.2 q13 hq13) k73 rfl (by decide) (cwV 1 hts gX5_find_X5_visit rfl rfl rfl yd_X5_visit ⟨Nat.le_of_ble_eq_true rfl, Nat.le_of_ble_eq_true rfl⟩) rfl hl.1 rfl (Nat.le_of_ble_eq_true rfl) dX5_find_297 ⟨Nat.le_refl 0, Nat.le_refl 0⟩ (fun H locs hW => ?_)
                      refine lv_goto (tgt := 20) hx hb dX5_find_300 (by decide) ?_
                      exact ih x1 x3 q13.2 y _ _ ls h hW (lv_sub hl [4, 5, 6] rfl)
          · replace h := iff_ h c16
            refine lv_aload_n hx hb dX5_find_92 rfl (lv_at hl 2 rfl) ?_
            refine lv_dup hx hb dX5_find_93 rfl ?_
            refine wg_i C hW (k := 73) (ci := 5) (j := 14) k73 rfl ⟨by decide, rfl⟩ inX5 (by decide) (rfq k73 rfl) (v := (q9.2 73 14)) rfl hL168 (fun _ h9 => h9) dX5_find_94 ?_
            refine lv_iconst (v := 1) hx hb dX5_find_97 (by decide) ?_
            refine lv_isub hx hb dX5_find_98 ?_
            refine wp_t C hW (k := 73) (ci := 5) (j := 14) (ty := .int) rfl rfl k73 rfl ⟨by decide, rfl⟩ inX5 tyX5 tyX5_ok nmX5 (by decide) (rfq k73 rfl) hL168 (fun _ h9 => h9) rfl rfl dX5_find_99 (fun H locs hW => ?_)
            refine lv_aload_n hx hb dX5_find_102 rfl (lv_at hl 2 rfl) ?_
            refine wg_i C hW (k := 73) (ci := 5) (j := 14) k73 rfl ⟨by decide, rfl⟩ inX5 (by decide) (rfq k73 rfl) (v := ((q9.2 73 14) - 1)) up_s hL168 (fun _ h9 => h9) dX5_find_103 ?_
            refine lv_if_le (tgt := 300) hx hb dX5_find_106 (by decide) (fun c26 => ?_) (fun c26 => ?_)
            · replace h := ift h c26
              refine lv_goto (tgt := 20) hx hb dX5_find_300 (by decide) ?_
              exact ih x1 x3 (up q9.2 73 14 ((q9.2 73 14) - 1)) y _ _ ls h hW (lv_sub hl [2, 3, 4] rfl)
            · replace h := iff_ h c26
              refine lv_aload_n hx hb dX5_find_109 rfl (lv_at hl 2 rfl) ?_
              refine lv_aload_n hx hb dX5_find_110 rfl (lv_at hl 2 rfl) ?_
              refine wg_r C hW (k := 73) (ci := 5) (j := 15) (q := 77) k73 rfl ⟨by decide, rfl⟩ inX5 (by decide) (rfq k73 rfl) hL20 (fun _ h9 => h9) dX5_find_111 ?_
              refine lv_aload_n hx hb dX5_find_114 rfl (lv_at hl 2 rfl) ?_
              refine wg_i C hW (k := 73) (ci := 5) (j := 14) k73 rfl ⟨by decide, rfl⟩ inX5 (by decide) (rfq k73 rfl) (v := ((q9.2 73 14) - 1)) up_s hL168 (fun _ h9 => h9) dX5_find_115 ?_
              refine lv_iconst (v := 1) hx hb dX5_find_118 (by decide) ?_
              refine lv_isub hx hb dX5_find_119 ?_
              obtain ⟨hg15, h⟩ := ifg h
              refine wa_l C hW (k := 77) k77 hg15 dX5_find_120 (v := (q9.2 77 (((q9.2 73 14) - 1) - 1).toNatClampNeg)) (up_k (by decide)) ?_
              refine lv_aload_n hx hb dX5_find_121 rfl (lv_at hl 2 rfl) ?_
              refine wg_r C hW (k := 73) (ci := 5) (j := 16) (q := 78) k73 rfl ⟨by decide, rfl⟩ inX5 (by decide) (rfq k73 rfl) hL23 (fun _ h9 => h9) dX5_find_122 ?_
              refine lv_aload_n hx hb dX5_find_125 rfl (lv_at hl 2 rfl) ?_
              refine wg_i C hW (k := 73) (ci := 5) (j := 14) k73 rfl ⟨by decide, rfl⟩ inX5 (by decide) (rfq k73 rfl) (v := ((q9.2 73 14) - 1)) up_s hL168 (fun _ h9 => h9) dX5_find_126 ?_
              refine lv_iconst (v := 1) hx hb dX5_find_129 (by decide) ?_
              refine lv_isub hx hb dX5_find_130 ?_
              obtain ⟨hg16, h⟩ := ifg h
              refine wa_l C hW (k := 78) k78 hg16 dX5_find_131 (v := (q9.2 78 (((q9.2 73 14) - 1) - 1).toNatClampNeg)) (up_k (by decide)) ?_
              refine lv_iconst (v := 1) hx hb dX5_find_132 (by decide) ?_
              refine lv_isub hx hb dX5_find_133 ?_
              obtain ⟨q14, hq14, h⟩ := ob h
              refine wc_Vi C hW (k := 73) (As := [.int (q9.2 77 (((q9.2 73 14) - 1) - 1).toNatClampNeg), .int ((q9.2 78 (((q9.2 73 14) - 1) - 1).toNatClampNeg) - 1)]) (rest := []) (c_X5_delegation G (q9.2 77 (((q9.2 73 14) - 1) - 1).toNatClampNeg) ((q9.2 78 (((q9.2 73 14) - 1) - 1).toNatClampNeg) - 1) (up q9.2 73 14 ((q9.2 73 14) - 1)) q14 hq14) k73 rfl (by decide) (cwV 2 hts gX5_find_X5_delegation rfl rfl rfl yd_X5_delegation ⟨Nat.le_of_ble_eq_true rfl, Nat.le_of_ble_eq_true rfl⟩) rfl hl.1 rfl (Nat.le_of_ble_eq_true rfl) dX5_find_134 ⟨Nat.le_refl 0, Nat.le_refl 0⟩ (fun H locs hW => ?_)
              refine lv_istore (lv' := [(6, .int q14.1), (5, .int q9.1), (4, .int (M 77 ((M 73 14) - 1).toNatClampNeg)), (0, .ref (ga G 73)), (1, .long x1), (3, .int x3)]) hx hb dX5_find_137 hl (by decide) rfl (fun ls hl => ?_)
              refine lv_aload_n hx hb dX5_find_139 rfl (lv_at hl 3 rfl) ?_
              refine lv_aload_n hx hb dX5_find_140 rfl (lv_at hl 3 rfl) ?_
              refine wg_r C hW (k := 73) (ci := 5) (j := 1) (q := 74) k73 rfl ⟨by decide, rfl⟩ inX5 (by decide) (rfq k73 rfl) hL7 (fun _ h9 => h9) dX5_find_141 ?_
              refine lv_iload hx hb dX5_find_144 (lv_at hl 0 rfl) ?_
              refine lv_iconst (v := 1) hx hb dX5_find_146 (by decide) ?_
              refine lv_iadd hx hb dX5_find_147 ?_
              obtain ⟨hg17, h⟩ := ifg h
              refine wa_l C hW (k := 74) k74 hg17 dX5_find_148 (v := (q14.2 74 (q14.1 + 1).toNatClampNeg)) rfl ?_
              refine lv_iconst (v := 1) hx hb dX5_find_149 (by decide) ?_
              refine lv_icmp_ne (tgt := 157) hx hb dX5_find_150 (by decide) (fun c27 => ?_) (fun c27 => ?_)
              · replace h := iff_ h c27
                refine lv_aload_n hx hb dX5_find_157 rfl (lv_at hl 3 rfl) ?_
                refine wg_i C hW (k := 73) (ci := 5) (j := 14) k73 rfl ⟨by decide, rfl⟩ inX5 (by decide) (rfq k73 rfl) (v := (q14.2 73 14)) rfl hL168 (fun _ h9 => h9) dX5_find_158 ?_
                refine wp_t C hW (k := 73) (ci := 5) (j := 14) (ty := .int) rfl rfl k73 rfl ⟨by decide, rfl⟩ inX5 tyX5 tyX5_ok nmX5 (by decide) (rfq k73 rfl) hL168 (fun _ h9 => h9) rfl rfl dX5_find_161 (fun H locs hW => ?_)
                refine lv_goto (tgt := 300) hx hb dX5_find_164 (by decide) ?_
                refine lv_goto (tgt := 20) hx hb dX5_find_300 (by decide) ?_
                exact ih x1 x3 (up q14.2 73 14 (q14.2 73 14)) y _ _ ls h hW (lv_sub hl [3, 4, 5] rfl)
              · replace h := ift h c27
                refine lv_iconst (v := 0) hx hb dX5_find_153 (by decide) ?_
                refine lv_goto (tgt := 161) hx hb dX5_find_154 (by decide) ?_
                refine wp_t C hW (k := 73) (ci := 5) (j := 14) (ty := .int) rfl rfl k73 rfl ⟨by decide, rfl⟩ inX5 tyX5 tyX5_ok nmX5 (by decide) (rfq k73 rfl) hL168 (fun _ h9 => h9) rfl rfl dX5_find_161 (fun H locs hW => ?_)
                refine lv_goto (tgt := 300) hx hb dX5_find_164 (by decide) ?_
                refine lv_goto (tgt := 20) hx hb dX5_find_300 (by decide) ?_
                exact ih x1 x3 (up q14.2 73 14 0) y _ _ ls h hW (lv_sub hl [3, 4, 5] rfl)
        · replace h := iff_ h c15
          refine lv_iload hx hb dX5_find_65 (lv_at hl 0 rfl) ?_
          exact wr_i C hr hW h dX5_find_67
set_option maxHeartbeats 4000000 in
set_option maxRecDepth 100000 in
theorem c_X5_find (G : GG) (a1 : Int64) (a2 : Int32) (M : Me) (y : Int32 × Me) (h : f_X5_find a1 a2 M = some y) : CI G yX5_find wsX5_find (rmd 8 0 0) [.ref (ga G 73), .long a1, .int a2] M y := by
  rw [f_X5_find] at h
  refine co_o (by decide) rfl rfl (Nat.le_of_ble_eq_true rfl) (fun p e s m below meth c ls C hr hW hl => ?_)
  have hx := C.1
  have hb := C.2.1
  have hown := C.2.2.2.1
  have hts := C.2.2.2.2.1
  have inX5 : ∀ w ∈ wsX50, w ∈ wsX5_find := by decide +kernel
  have hL168 := hts (.fieldLink RX5 168 "TrustedUpdatesModel" "depth" "I") (by decide +kernel)
  have hL171 := hts (.fieldLink RX5 171 "TrustedUpdatesModel" "visited" "I") (by decide +kernel)
  have hL174 := hts (.fieldLink RX5 174 "TrustedUpdatesModel" "seen" "I") (by decide +kernel)
  have hl : lv_has ls 8 [(0, .ref (ga G 73)), (1, .long a1), (3, .int a2)] := hl
  refine lv_aload_n hx hb dX5_find_0 rfl (lv_at hl 0 rfl) ?_
  refine lv_iconst (v := 0) hx hb dX5_find_1 (by decide) ?_
  refine wp_t C hW (k := 73) (ci := 5) (j := 14) (ty := .int) rfl rfl k73 rfl ⟨by decide, rfl⟩ inX5 tyX5 tyX5_ok nmX5 (by decide) (rfq k73 rfl) hL168 (fun _ h9 => h9) rfl rfl dX5_find_2 (fun H locs hW => ?_)
  refine lv_aload_n hx hb dX5_find_5 rfl (lv_at hl 0 rfl) ?_
  refine lv_iconst (v := 0) hx hb dX5_find_6 (by decide) ?_
  refine wp_t C hW (k := 73) (ci := 5) (j := 5) (ty := .int) rfl rfl k73 rfl ⟨by decide, rfl⟩ inX5 tyX5 tyX5_ok nmX5 (by decide) (rfq k73 rfl) hL171 (fun _ h9 => h9) rfl rfl dX5_find_7 (fun H locs hW => ?_)
  refine lv_aload_n hx hb dX5_find_10 rfl (lv_at hl 0 rfl) ?_
  refine lv_iconst (v := 0) hx hb dX5_find_11 (by decide) ?_
  refine wp_t C hW (k := 73) (ci := 5) (j := 17) (ty := .int) rfl rfl k73 rfl ⟨by decide, rfl⟩ inX5 tyX5 tyX5_ok nmX5 (by decide) (rfq k73 rfl) hL174 (fun _ h9 => h9) rfl rfl dX5_find_12 (fun H locs hW => ?_)
  refine lv_aload_n hx hb dX5_find_15 rfl (lv_at hl 0 rfl) ?_
  refine lv_iconst (v := 3) hx hb dX5_find_16 (by decide) ?_
  obtain ⟨q1, hq1, h⟩ := ob h
  refine wc_Vv C hW (k := 73) (As := [.int 3]) (rest := []) (c_X5_visit G 3 (up (up (up M 73 14 0) 73 5 0) 73 17 0) q1 hq1) k73 rfl (by decide) (cwV 1 hts gX5_find_X5_visit rfl rfl rfl yd_X5_visit ⟨Nat.le_of_ble_eq_true rfl, Nat.le_of_ble_eq_true rfl⟩) rfl hl.1 rfl (Nat.le_of_ble_eq_true rfl) dX5_find_17 ⟨Nat.le_refl 0, Nat.le_refl 0⟩ (fun H locs hW => ?_)
  exact L_X5_find_20 C hr 200 a1 a2 q1.2 y _ _ ls h hW (lv_sub hl [0, 1, 2] rfl)
theorem yd_X5_wrongSeek : yX5_wrongSeek.cls = RX5 ∧ yX5_wrongSeek.cls ≠ "java/lang/invoke/MethodHandle" ∧ yX5_wrongSeek.cls ≠ "java/lang/invoke/VarHandle" ∧ (parseMethodDescriptor yX5_wrongSeek.desc).map (fun d => d.parameters.length) = some 2 := by decide +kernel
set_option maxHeartbeats 4000000 in
set_option maxRecDepth 100000 in
theorem c_X5_wrongSeek (G : GG) (a1 : Int64) (a2 : Int32) (M : Me) (y : Int32 × Me) (h : f_X5_wrongSeek a1 a2 M = some y) : CI G yX5_wrongSeek wsX5_wrongSeek (rmd 4 0 0) [.ref (ga G 73), .long a1, .int a2] M y := by
  rw [f_X5_wrongSeek] at h
  refine co_o (by decide) rfl rfl (Nat.le_of_ble_eq_true rfl) (fun p e s m below meth c ls C hr hW hl => ?_)
  have hx := C.1
  have hb := C.2.1
  have hown := C.2.2.2.1
  have hts := C.2.2.2.2.1
  have hl : lv_has ls 4 [(0, .ref (ga G 73)), (1, .long a1), (3, .int a2)] := hl
  refine lv_lload_n hx hb dX5_wrongSeek_0 rfl (lv_at hl 1 rfl) ?_
  refine lv_iload_n hx hb dX5_wrongSeek_1 rfl (lv_at hl 2 rfl) ?_
  obtain ⟨q1, hq1, h⟩ := ob h
  refine wc_Si C hW (As := [.long a1, .int a2]) (rest := []) (c_X5_isName G a1 a2 M q1 hq1) (va_cwS 2 hts gX5_wrongSeek_X5_isName rfl rfl rfl yd_X5_isName ⟨Nat.le_of_ble_eq_true rfl, Nat.le_of_ble_eq_true rfl⟩) rfl hl.1 rfl (Nat.le_of_ble_eq_true rfl) dX5_wrongSeek_2 ⟨Nat.le_refl 0, Nat.le_refl 0⟩ (fun H locs hW => ?_)
  refine lv_if_ne (tgt := 12) hx hb dX5_wrongSeek_5 (by decide) (fun c1 => ?_) (fun c1 => ?_)
  · replace h := iff_ h c1
    refine lv_aload_n hx hb dX5_wrongSeek_12 rfl (lv_at hl 0 rfl) ?_
    refine lv_iconst (v := 0) hx hb dX5_wrongSeek_13 (by decide) ?_
    obtain ⟨q2, hq2, h⟩ := ob h
    refine wc_Vi C hW (k := 73) (As := [.int 0]) (rest := []) (c_X5_stands G 0 q1.2 q2 hq2) k73 rfl (by decide) (cwV 1 hts gX5_wrongSeek_X5_stands rfl rfl rfl yd_X5_stands ⟨Nat.le_of_ble_eq_true rfl, Nat.le_of_ble_eq_true rfl⟩) rfl hl.1 rfl (Nat.le_of_ble_eq_true rfl) dX5_wrongSeek_14 ⟨Nat.le_refl 0, Nat.le_refl 0⟩ (fun H locs hW => ?_)
    refine lv_if_eq (tgt := 44) hx hb dX5_wrongSeek_17 (by decide) (fun c2 => ?_) (fun c2 => ?_)
    · replace h := ift h c2
      refine lv_iconst (v := 2) hx hb dX5_wrongSeek_44 (by decide) ?_
      refine lv_goto (tgt := 49) hx hb dX5_wrongSeek_45 (by decide) ?_
      exact wr_i C hr hW h dX5_wrongSeek_49
    · replace h := iff_ h c2
      refine lv_aload_n hx hb dX5_wrongSeek_20 rfl (lv_at hl 0 rfl) ?_
      refine lv_iconst (v := 1) hx hb dX5_wrongSeek_21 (by decide) ?_
      obtain ⟨q3, hq3, h⟩ := ob h
      refine wc_Vi C hW (k := 73) (As := [.int 1]) (rest := []) (c_X5_stands G 1 q2.2 q3 hq3) k73 rfl (by decide) (cwV 1 hts gX5_wrongSeek_X5_stands rfl rfl rfl yd_X5_stands ⟨Nat.le_of_ble_eq_true rfl, Nat.le_of_ble_eq_true rfl⟩) rfl hl.1 rfl (Nat.le_of_ble_eq_true rfl) dX5_wrongSeek_22 ⟨Nat.le_refl 0, Nat.le_refl 0⟩ (fun H locs hW => ?_)
      refine lv_if_eq (tgt := 44) hx hb dX5_wrongSeek_25 (by decide) (fun c3 => ?_) (fun c3 => ?_)
      · replace h := ift h c3
        refine lv_iconst (v := 2) hx hb dX5_wrongSeek_44 (by decide) ?_
        refine lv_goto (tgt := 49) hx hb dX5_wrongSeek_45 (by decide) ?_
        exact wr_i C hr hW h dX5_wrongSeek_49
      · replace h := iff_ h c3
        refine lv_aload_n hx hb dX5_wrongSeek_28 rfl (lv_at hl 0 rfl) ?_
        refine lv_iconst (v := 2) hx hb dX5_wrongSeek_29 (by decide) ?_
        obtain ⟨q4, hq4, h⟩ := ob h
        refine wc_Vi C hW (k := 73) (As := [.int 2]) (rest := []) (c_X5_stands G 2 q3.2 q4 hq4) k73 rfl (by decide) (cwV 1 hts gX5_wrongSeek_X5_stands rfl rfl rfl yd_X5_stands ⟨Nat.le_of_ble_eq_true rfl, Nat.le_of_ble_eq_true rfl⟩) rfl hl.1 rfl (Nat.le_of_ble_eq_true rfl) dX5_wrongSeek_30 ⟨Nat.le_refl 0, Nat.le_refl 0⟩ (fun H locs hW => ?_)
        refine lv_if_eq (tgt := 44) hx hb dX5_wrongSeek_33 (by decide) (fun c4 => ?_) (fun c4 => ?_)
        · replace h := ift h c4
          refine lv_iconst (v := 2) hx hb dX5_wrongSeek_44 (by decide) ?_
          refine lv_goto (tgt := 49) hx hb dX5_wrongSeek_45 (by decide) ?_
          exact wr_i C hr hW h dX5_wrongSeek_49
        · replace h := iff_ h c4
          refine lv_aload_n hx hb dX5_wrongSeek_36 rfl (lv_at hl 0 rfl) ?_
          refine lv_iconst (v := 3) hx hb dX5_wrongSeek_37 (by decide) ?_
          obtain ⟨q5, hq5, h⟩ := ob h
          refine wc_Vi C hW (k := 73) (As := [.int 3]) (rest := []) (c_X5_isFresh G 3 q4.2 q5 hq5) k73 rfl (by decide) (cwV 1 hts gX5_wrongSeek_X5_isFresh rfl rfl rfl yd_X5_isFresh ⟨Nat.le_of_ble_eq_true rfl, Nat.le_of_ble_eq_true rfl⟩) rfl hl.1 rfl (Nat.le_of_ble_eq_true rfl) dX5_wrongSeek_38 ⟨Nat.le_refl 0, Nat.le_refl 0⟩ (fun H locs hW => ?_)
          refine lv_if_ne (tgt := 48) hx hb dX5_wrongSeek_41 (by decide) (fun c5 => ?_) (fun c5 => ?_)
          · replace h := iff_ h c5
            refine lv_iconst (v := 0) hx hb dX5_wrongSeek_48 (by decide) ?_
            exact wr_i C hr hW h dX5_wrongSeek_49
          · replace h := ift h c5
            refine lv_iconst (v := 2) hx hb dX5_wrongSeek_44 (by decide) ?_
            refine lv_goto (tgt := 49) hx hb dX5_wrongSeek_45 (by decide) ?_
            exact wr_i C hr hW h dX5_wrongSeek_49
  · replace h := ift h c1
    refine lv_iconst (v := 1) hx hb dX5_wrongSeek_8 (by decide) ?_
    refine lv_goto (tgt := 49) hx hb dX5_wrongSeek_9 (by decide) ?_
    exact wr_i C hr hW h dX5_wrongSeek_49
theorem yd_X5_seek : yX5_seek.cls = RX5 ∧ yX5_seek.cls ≠ "java/lang/invoke/MethodHandle" ∧ yX5_seek.cls ≠ "java/lang/invoke/VarHandle" ∧ (parseMethodDescriptor yX5_seek.desc).map (fun d => d.parameters.length) = some 2 := by decide +kernel
set_option maxHeartbeats 4000000 in
set_option maxRecDepth 100000 in
theorem c_X5_seek (G : GG) (a1 : Int64) (a2 : Int32) (M : Me) (y : Int32 × Me) (h : f_X5_seek a1 a2 M = some y) : CI G yX5_seek wsX5_seek (rmd 9 0 0) [.ref (ga G 73), .long a1, .int a2] M y := by
  rw [f_X5_seek] at h
  refine co_o (by decide) rfl rfl (Nat.le_of_ble_eq_true rfl) (fun p e s m below meth c ls C hr hW hl => ?_)
  have hx := C.1
  have hb := C.2.1
  have hown := C.2.2.2.1
  have hts := C.2.2.2.2.1
  have inX5 : ∀ w ∈ wsX50, w ∈ wsX5_seek := by decide +kernel
  have hL26 := hts (.fieldLink RX5 26 "TrustedUpdatesModel" "thrown" "I") (by decide +kernel)
  have hl : lv_has ls 4 [(0, .ref (ga G 73)), (1, .long a1), (3, .int a2)] := hl
  refine lv_aload_n hx hb dX5_seek_0 rfl (lv_at hl 0 rfl) ?_
  refine lv_aload_n hx hb dX5_seek_1 rfl (lv_at hl 0 rfl) ?_
  refine lv_lload_n hx hb dX5_seek_2 rfl (lv_at hl 1 rfl) ?_
  refine lv_iload_n hx hb dX5_seek_3 rfl (lv_at hl 2 rfl) ?_
  obtain ⟨q1, hq1, h⟩ := ob h
  refine wc_Vi C hW (k := 73) (As := [.long a1, .int a2]) (rest := [.ref (ga G 73)]) (c_X5_wrongSeek G a1 a2 M q1 hq1) k73 rfl (by decide) (cwV 2 hts gX5_seek_X5_wrongSeek rfl rfl rfl yd_X5_wrongSeek ⟨Nat.le_of_ble_eq_true rfl, Nat.le_of_ble_eq_true rfl⟩) rfl hl.1 rfl (Nat.le_of_ble_eq_true rfl) dX5_seek_4 ⟨Nat.le_refl 0, Nat.le_refl 0⟩ (fun H locs hW => ?_)
  refine wp_t C hW (k := 73) (ci := 5) (j := 0) (ty := .int) rfl rfl k73 rfl ⟨by decide, rfl⟩ inX5 tyX5 tyX5_ok nmX5 (by decide) (rfq k73 rfl) hL26 (fun _ h9 => h9) rfl rfl dX5_seek_7 (fun H locs hW => ?_)
  refine lv_aload_n hx hb dX5_seek_10 rfl (lv_at hl 0 rfl) ?_
  refine wg_i C hW (k := 73) (ci := 5) (j := 0) k73 rfl ⟨by decide, rfl⟩ inX5 (by decide) (rfq k73 rfl) (v := q1.1) up_s hL26 (fun _ h9 => h9) dX5_seek_11 ?_
  refine lv_if_le (tgt := 21) hx hb dX5_seek_14 (by decide) (fun c1 => ?_) (fun c1 => ?_)
  · replace h := ift h c1
    refine lv_aload_n hx hb dX5_seek_21 rfl (lv_at hl 0 rfl) ?_
    refine lv_lload_n hx hb dX5_seek_22 rfl (lv_at hl 1 rfl) ?_
    refine lv_iload_n hx hb dX5_seek_23 rfl (lv_at hl 2 rfl) ?_
    obtain ⟨q2, hq2, h⟩ := ob h
    refine wc_Vi C hW (k := 73) (As := [.long a1, .int a2]) (rest := []) (c_X5_find G a1 a2 (up q1.2 73 0 q1.1) q2 hq2) k73 rfl (by decide) (cwV 2 hts gX5_seek_X5_find rfl rfl rfl yd_X5_find ⟨Nat.le_of_ble_eq_true rfl, Nat.le_of_ble_eq_true rfl⟩) rfl hl.1 rfl (Nat.le_of_ble_eq_true rfl) dX5_seek_24 ⟨Nat.le_refl 0, Nat.le_refl 0⟩ (fun H locs hW => ?_)
    exact wr_i C hr hW h dX5_seek_27
  · replace h := iff_ h c1
    refine lv_iconst (v := 0) hx hb dX5_seek_17 (by decide) ?_
    refine lv_goto (tgt := 27) hx hb dX5_seek_18 (by decide) ?_
    exact wr_i C hr hW h dX5_seek_27
theorem yd_X5_visits : yX5_visits.cls = RX5 ∧ yX5_visits.cls ≠ "java/lang/invoke/MethodHandle" ∧ yX5_visits.cls ≠ "java/lang/invoke/VarHandle" ∧ (parseMethodDescriptor yX5_visits.desc).map (fun d => d.parameters.length) = some 0 := by decide +kernel
set_option maxHeartbeats 4000000 in
set_option maxRecDepth 100000 in
theorem c_X5_visits (G : GG)  (M : Me) (y : Int32 × Me) (h : f_X5_visits  M = some y) : CI G yX5_visits wsX5_visits (rmd 0 0 0) [.ref (ga G 73)] M y := by
  rw [f_X5_visits] at h
  refine co_o (by decide) rfl rfl (Nat.le_of_ble_eq_true rfl) (fun p e s m below meth c ls C hr hW hl => ?_)
  have hx := C.1
  have hb := C.2.1
  have hown := C.2.2.2.1
  have hts := C.2.2.2.2.1
  have inX5 : ∀ w ∈ wsX50, w ∈ wsX5_visits := by decide +kernel
  have hL26 := hts (.fieldLink RX5 26 "TrustedUpdatesModel" "thrown" "I") (by decide +kernel)
  have hL171 := hts (.fieldLink RX5 171 "TrustedUpdatesModel" "visited" "I") (by decide +kernel)
  have hl : lv_has ls 1 [(0, .ref (ga G 73))] := hl
  refine lv_aload_n hx hb dX5_visits_0 rfl (lv_at hl 0 rfl) ?_
  refine lv_iconst (v := 0) hx hb dX5_visits_1 (by decide) ?_
  refine wp_t C hW (k := 73) (ci := 5) (j := 0) (ty := .int) rfl rfl k73 rfl ⟨by decide, rfl⟩ inX5 tyX5 tyX5_ok nmX5 (by decide) (rfq k73 rfl) hL26 (fun _ h9 => h9) rfl rfl dX5_visits_2 (fun H locs hW => ?_)
  refine lv_aload_n hx hb dX5_visits_5 rfl (lv_at hl 0 rfl) ?_
  refine wg_i C hW (k := 73) (ci := 5) (j := 5) k73 rfl ⟨by decide, rfl⟩ inX5 (by decide) (rfq k73 rfl) (v := (M 73 5)) (up_j (by decide)) hL171 (fun _ h9 => h9) dX5_visits_6 ?_
  exact wr_i C hr hW h dX5_visits_9
