theorem yd_X1_byteAt : yX1_byteAt.cls = RX1 ∧ yX1_byteAt.cls ≠ "java/lang/invoke/MethodHandle" ∧ yX1_byteAt.cls ≠ "java/lang/invoke/VarHandle" ∧ (parseMethodDescriptor yX1_byteAt.desc).map (fun d => d.parameters.length) = some 1 := by decide +kernel
set_option maxHeartbeats 4000000 in
set_option maxRecDepth 100000 in
theorem c_X1_byteAt (G : GG) (k : Nat) (hk : isK k 1) (a1 : Int32) (M : Me) (y : Int32 × Me) (h : f_X1_byteAt k a1 M = some y) : CI G yX1_byteAt wsX1_byteAt (rmd 0 0 0) [.ref (ga G k), .int a1] M y := by
  rw [f_X1_byteAt] at h
  refine co_o (by decide) rfl rfl (Nat.le_of_ble_eq_true rfl) (fun p e s m below meth c ls C hr hW hl => ?_)
  have hx := C.1
  have hb := C.2.1
  have hown := C.2.2.2.1
  have hts := C.2.2.2.2.1
  have inX1 : ∀ w ∈ wsX10, w ∈ wsX1_byteAt := by decide +kernel
  have hL9 := hts (.fieldLink RX1 9 "TrustedUpdates$Row" "bytes" "[I") (by decide +kernel)
  have hL15 := hts (.fieldLink RX1 15 "TrustedUpdates$Row" "size" "I") (by decide +kernel)
  have hl : lv_has ls 2 [(0, .ref (ga G k)), (1, .int a1)] := hl
  refine lv_iload_n hx hb dX1_byteAt_0 rfl (lv_at hl 1 rfl) ?_
  refine lv_if_lt (tgt := 21) hx hb dX1_byteAt_1 (by decide) (fun c1 => ?_) (fun c1 => ?_)
  · replace h := ift h c1
    refine lv_iconst (v := (-1)) hx hb dX1_byteAt_21 (by decide) ?_
    exact wr_i C hr hW h dX1_byteAt_22
  · replace h := iff_ h c1
    refine lv_iload_n hx hb dX1_byteAt_4 rfl (lv_at hl 1 rfl) ?_
    refine lv_aload_n hx hb dX1_byteAt_5 rfl (lv_at hl 0 rfl) ?_
    refine wg_i C hW (k := k) (ci := 1) (j := 1) hk rfl ⟨by decide, rfl⟩ inX1 (by decide) (rfq hk rfl) (v := (M k 1)) rfl hL15 (fun _ h9 => h9) dX1_byteAt_6 ?_
    refine lv_icmp_ge (tgt := 21) hx hb dX1_byteAt_9 (by decide) (fun c2 => ?_) (fun c2 => ?_)
    · replace h := ift h c2
      refine lv_iconst (v := (-1)) hx hb dX1_byteAt_21 (by decide) ?_
      exact wr_i C hr hW h dX1_byteAt_22
    · replace h := iff_ h c2
      refine lv_aload_n hx hb dX1_byteAt_12 rfl (lv_at hl 0 rfl) ?_
      refine wg_r C hW (k := k) (ci := 1) (j := 0) (q := (k + 1)) hk rfl ⟨by decide, rfl⟩ inX1 (by decide) (rfq hk rfl) hL9 (fun _ h9 => h9) dX1_byteAt_13 ?_
      refine lv_iload_n hx hb dX1_byteAt_16 rfl (lv_at hl 1 rfl) ?_
      obtain ⟨hg1, h⟩ := ifg h
      refine wa_l C hW (k := (k + 1)) (kr_a hk) hg1 dX1_byteAt_17 (v := (M (k + 1) a1.toNatClampNeg)) rfl ?_
      refine lv_goto (tgt := 22) hx hb dX1_byteAt_18 (by decide) ?_
      exact wr_i C hr hW h dX1_byteAt_22
theorem yd_X1_become : yX1_become.cls = RX1 ∧ yX1_become.cls ≠ "java/lang/invoke/MethodHandle" ∧ yX1_become.cls ≠ "java/lang/invoke/VarHandle" ∧ (parseMethodDescriptor yX1_become.desc).map (fun d => d.parameters.length) = some 1 := by decide +kernel
set_option maxHeartbeats 4000000 in
set_option maxRecDepth 100000 in
theorem c_X1_become (G : GG) (k : Nat) (hk : isK k 1) (b1 : Nat) (hb1 : isK b1 1) (M : Me) (y : Int32 × Me) (h : f_X1_become k b1 M = some y) : CV G yX1_become wsX1_become (rmd 1 0 0) [.ref (ga G k), .ref (ga G b1)] M y := by
  rw [f_X1_become] at h
  refine co_o (by decide) rfl rfl (Nat.le_of_ble_eq_true rfl) (fun p e s m below meth c ls C hr hW hl => ?_)
  have hx := C.1
  have hb := C.2.1
  have hown := C.2.2.2.1
  have hts := C.2.2.2.2.1
  have inX1 : ∀ w ∈ wsX10, w ∈ wsX1_become := by decide +kernel
  have hL9 := hts (.fieldLink RX1 9 "TrustedUpdates$Row" "bytes" "[I") (by decide +kernel)
  have hL15 := hts (.fieldLink RX1 15 "TrustedUpdates$Row" "size" "I") (by decide +kernel)
  have hl : lv_has ls 2 [(0, .ref (ga G k)), (1, .ref (ga G b1))] := hl
  refine lv_aload_n hx hb dX1_become_0 rfl (lv_at hl 1 rfl) ?_
  refine wg_i C hW (k := b1) (ci := 1) (j := 1) hb1 rfl ⟨by decide, rfl⟩ inX1 (by decide) (rfq hb1 rfl) (v := (M b1 1)) rfl hL15 (fun _ h9 => h9) dX1_become_1 ?_
  refine lv_aload_n hx hb dX1_become_4 rfl (lv_at hl 0 rfl) ?_
  refine wg_r C hW (k := k) (ci := 1) (j := 0) (q := (k + 1)) hk rfl ⟨by decide, rfl⟩ inX1 (by decide) (rfq hk rfl) hL9 (fun _ h9 => h9) dX1_become_5 ?_
  refine wa_n C hW (k := (k + 1)) (kr_a hk) dX1_become_8 ?_
  refine lv_icmp_gt (tgt := 37) hx hb dX1_become_9 (by decide) (fun c1 => ?_) (fun c1 => ?_)
  · replace h := ift h c1
    exact wr_v C hr hW h dX1_become_37
  · replace h := iff_ h c1
    refine lv_aload_n hx hb dX1_become_12 rfl (lv_at hl 1 rfl) ?_
    refine wg_r C hW (k := b1) (ci := 1) (j := 0) (q := (b1 + 1)) hb1 rfl ⟨by decide, rfl⟩ inX1 (by decide) (rfq hb1 rfl) hL9 (fun _ h9 => h9) dX1_become_13 ?_
    refine lv_iconst (v := 0) hx hb dX1_become_16 (by decide) ?_
    refine lv_aload_n hx hb dX1_become_17 rfl (lv_at hl 0 rfl) ?_
    refine wg_r C hW (k := k) (ci := 1) (j := 0) (q := (k + 1)) hk rfl ⟨by decide, rfl⟩ inX1 (by decide) (rfq hk rfl) hL9 (fun _ h9 => h9) dX1_become_18 ?_
    refine lv_iconst (v := 0) hx hb dX1_become_21 (by decide) ?_
    refine lv_aload_n hx hb dX1_become_22 rfl (lv_at hl 1 rfl) ?_
    refine wg_i C hW (k := b1) (ci := 1) (j := 1) hb1 rfl ⟨by decide, rfl⟩ inX1 (by decide) (rfq hb1 rfl) (v := (M b1 1)) rfl hL15 (fun _ h9 => h9) dX1_become_23 ?_
    obtain ⟨hg1, h⟩ := ifg h
    refine wa_cpy C hW (kr_a hb1) (kr_a hk) hg1 (hts (.methodLink RX1 23 arraycopyName) (by decide +kernel)) (hts (.native arraycopyName) (by decide +kernel)) (hts (.static arraycopyName) (by decide +kernel)) (hts (.initialized "java/lang/System") (by decide +kernel)) hl.1 (Nat.le_of_ble_eq_true rfl) (Nat.le_of_ble_eq_true rfl) dX1_become_26 (fun H locs hW => ?_)
    refine lv_aload_n hx hb dX1_become_29 rfl (lv_at hl 0 rfl) ?_
    refine lv_aload_n hx hb dX1_become_30 rfl (lv_at hl 1 rfl) ?_
    refine wg_i C hW (k := b1) (ci := 1) (j := 1) hb1 rfl ⟨by decide, rfl⟩ inX1 (by decide) (rfq hb1 rfl) (v := ((upr M (k + 1) (va_cpy (M (b1 + 1)) (M (k + 1)) 0 0 (M b1 1).toNatClampNeg)) b1 1)) rfl hL15 (fun _ h9 => h9) dX1_become_31 ?_
    refine wp_t C hW (k := k) (ci := 1) (j := 1) (ty := .int) rfl rfl hk rfl ⟨by decide, rfl⟩ inX1 tyX1 tyX1_ok nmX1 (by decide) (rfq hk rfl) hL15 (fun _ h9 => h9) rfl rfl dX1_become_34 (fun H locs hW => ?_)
    exact wr_v C hr hW h dX1_become_37
theorem yd_X1_agrees : yX1_agrees.cls = RX1 ∧ yX1_agrees.cls ≠ "java/lang/invoke/MethodHandle" ∧ yX1_agrees.cls ≠ "java/lang/invoke/VarHandle" ∧ (parseMethodDescriptor yX1_agrees.desc).map (fun d => d.parameters.length) = some 4 := by decide +kernel
set_option maxHeartbeats 4000000 in
set_option maxRecDepth 100000 in
theorem L_X1_agrees_3 {G : GG} {p : Program} {e : Env} {s : State} {m : MethodId} {args : Array Value} {below : List Frame} {meth : Method} {c : Code} (C : Cx G wsX1_agrees RX1 cX1_agrees 7 p s m args meth c) (hr : meth.sig.returnType = (some .boolean)) : ∀ (n : Nat) (k0 : Nat) (hk0 : isK k0 1) (x1 : Int32) (k2 : Nat) (hk2 : isK k2 1) (x3 : Int32) (x4 : Int32) (x5 : Int32) (M : Me) (y : Int32 × Me) (H : Heap) (locs : List Loc) (ls : Array Slot), fL_X1_agrees_3 n k0 x1 k2 x3 x4 x5 M = some y → wH G s M H locs → lv_has ls 7 [(0, .ref (ga G k0)), (1, .int x1), (2, .ref (ga G k2)), (3, .int x3), (4, .int x4), (5, .int x5)] → W p (gl G) e (rmd 1 0 0) s m args below meth c H locs 0 0 (MQ below (Qi G y) args s 0 0 (wA G)) (F0 m 3 ls []) := by
  have hx := C.1
  have hb := C.2.1
  have hown := C.2.2.2.1
  have hts := C.2.2.2.2.1
  intro n
  induction n with
  | zero => intro k0 hk0 x1 k2 hk2 x3 x4 x5 M y H locs ls h; exact nso h
  | succ n ih =>
    intro k0 hk0 x1 k2 hk2 x3 x4 x5 M y H locs ls h hW hl
    rw [fL_X1_agrees_3] at h
    refine lv_iload hx hb dX1_agrees_3 (lv_at hl 5 rfl) ?_
    refine lv_iload hx hb dX1_agrees_5 (lv_at hl 4 rfl) ?_
    refine lv_icmp_ge (tgt := 47) hx hb dX1_agrees_7 (by decide) (fun c1 => ?_) (fun c1 => ?_)
    · replace h := ift h c1
      refine lv_iconst (v := 1) hx hb dX1_agrees_47 (by decide) ?_
      exact wr_z C hr (Or.inr rfl) hW h dX1_agrees_48
    · replace h := iff_ h c1
      refine lv_aload_n hx hb dX1_agrees_10 rfl (lv_at hl 0 rfl) ?_
      refine lv_iload_n hx hb dX1_agrees_11 rfl (lv_at hl 1 rfl) ?_
      refine lv_iload hx hb dX1_agrees_12 (lv_at hl 5 rfl) ?_
      refine lv_iadd hx hb dX1_agrees_14 ?_
      obtain ⟨q1, hq1, h⟩ := ob h
      refine wc_Vi C hW (k := k0) (As := [.int (x1 + x5)]) (rest := []) (c_X1_byteAt G k0 hk0 (x1 + x5) M q1 hq1) hk0 rfl (by decide) (cwV 1 hts gX1_agrees_X1_byteAt rfl rfl rfl yd_X1_byteAt ⟨Nat.le_of_ble_eq_true rfl, Nat.le_of_ble_eq_true rfl⟩) rfl hl.1 rfl (Nat.le_of_ble_eq_true rfl) dX1_agrees_15 ⟨Nat.le_refl 0, Nat.le_refl 0⟩ (fun H locs hW => ?_)
      refine lv_istore (lv' := [(6, .int q1.1), (0, .ref (ga G k0)), (1, .int x1), (2, .ref (ga G k2)), (3, .int x3), (4, .int x4), (5, .int x5)]) hx hb dX1_agrees_18 hl (by decide) rfl (fun ls hl => ?_)
      refine lv_iload hx hb dX1_agrees_20 (lv_at hl 0 rfl) ?_
      refine lv_iconst (v := (-1)) hx hb dX1_agrees_22 (by decide) ?_
      refine lv_icmp_eq (tgt := 39) hx hb dX1_agrees_23 (by decide) (fun c2 => ?_) (fun c2 => ?_)
      · replace h := ift h c2
        refine lv_iconst (v := 0) hx hb dX1_agrees_39 (by decide) ?_
        exact wr_z C hr (Or.inl rfl) hW h dX1_agrees_40
      · replace h := iff_ h c2
        refine lv_iload hx hb dX1_agrees_26 (lv_at hl 0 rfl) ?_
        refine lv_aload_n hx hb dX1_agrees_28 rfl (lv_at hl 3 rfl) ?_
        refine lv_iload_n hx hb dX1_agrees_29 rfl (lv_at hl 4 rfl) ?_
        refine lv_iload hx hb dX1_agrees_30 (lv_at hl 6 rfl) ?_
        refine lv_iadd hx hb dX1_agrees_32 ?_
        obtain ⟨q2, hq2, h⟩ := ob h
        refine wc_Vi C hW (k := k2) (As := [.int (x3 + x5)]) (rest := [.int q1.1]) (c_X1_byteAt G k2 hk2 (x3 + x5) q1.2 q2 hq2) hk2 rfl (by decide) (cwV 1 hts gX1_agrees_X1_byteAt rfl rfl rfl yd_X1_byteAt ⟨Nat.le_of_ble_eq_true rfl, Nat.le_of_ble_eq_true rfl⟩) rfl hl.1 rfl (Nat.le_of_ble_eq_true rfl) dX1_agrees_33 ⟨Nat.le_refl 0, Nat.le_refl 0⟩ (fun H locs hW => ?_)
        refine lv_icmp_eq (tgt := 41) hx hb dX1_agrees_36 (by decide) (fun c3 => ?_) (fun c3 => ?_)
        · replace h := ift h c3
          refine lv_iinc (v := (x5 + 1)) (lv' := [(5, .int (x5 + 1)), (6, .int q1.1), (0, .ref (ga G k0)), (1, .int x1), (2, .ref (ga G k2)), (3, .int x3), (4, .int x4)]) hx hb dX1_agrees_41 hl (k := 6) rfl rfl (by decide) rfl (fun ls hl => ?_)
          refine lv_goto (tgt := 3) hx hb dX1_agrees_44 (by decide) ?_
          exact ih k0 hk0 x1 k2 hk2 x3 x4 (x5 + 1) q2.2 y _ _ ls h hW (lv_sub hl [2, 3, 4, 5, 6, 0] rfl)
        · replace h := iff_ h c3
          refine lv_iconst (v := 0) hx hb dX1_agrees_39 (by decide) ?_
          exact wr_z C hr (Or.inl rfl) hW h dX1_agrees_40
set_option maxHeartbeats 4000000 in
set_option maxRecDepth 100000 in
theorem c_X1_agrees (G : GG) (k : Nat) (hk : isK k 1) (a1 : Int32) (b2 : Nat) (hb2 : isK b2 1) (a3 : Int32) (a4 : Int32) (M : Me) (y : Int32 × Me) (h : f_X1_agrees k a1 b2 a3 a4 M = some y) : CI G yX1_agrees wsX1_agrees (rmd 1 0 0) [.ref (ga G k), .int a1, .ref (ga G b2), .int a3, .int a4] M y := by
  rw [f_X1_agrees] at h
  refine co_o (by decide) rfl rfl (Nat.le_of_ble_eq_true rfl) (fun p e s m below meth c ls C hr hW hl => ?_)
  have hx := C.1
  have hb := C.2.1
  have hown := C.2.2.2.1
  have hts := C.2.2.2.2.1
  have hl : lv_has ls 7 [(0, .ref (ga G k)), (1, .int a1), (2, .ref (ga G b2)), (3, .int a3), (4, .int a4)] := hl
  refine lv_iconst (v := 0) hx hb dX1_agrees_0 (by decide) ?_
  refine lv_istore (lv' := [(5, .int 0), (0, .ref (ga G k)), (1, .int a1), (2, .ref (ga G b2)), (3, .int a3), (4, .int a4)]) hx hb dX1_agrees_1 hl (by decide) rfl (fun ls hl => ?_)
  exact L_X1_agrees_3 C hr 200 k hk a1 b2 hb2 a3 a4 0 M y _ _ ls h hW (lv_sub hl [1, 2, 3, 4, 5, 0] rfl)
theorem yd_X1_size : yX1_size.cls = RX1 ∧ yX1_size.cls ≠ "java/lang/invoke/MethodHandle" ∧ yX1_size.cls ≠ "java/lang/invoke/VarHandle" ∧ (parseMethodDescriptor yX1_size.desc).map (fun d => d.parameters.length) = some 0 := by decide +kernel
set_option maxHeartbeats 4000000 in
set_option maxRecDepth 100000 in
theorem c_X1_size (G : GG) (k : Nat) (hk : isK k 1) (M : Me) (y : Int32 × Me) (h : f_X1_size k M = some y) : CI G yX1_size wsX1_size (rmd 0 0 0) [.ref (ga G k)] M y := by
  rw [f_X1_size] at h
  refine co_o (by decide) rfl rfl (Nat.le_of_ble_eq_true rfl) (fun p e s m below meth c ls C hr hW hl => ?_)
  have hx := C.1
  have hb := C.2.1
  have hown := C.2.2.2.1
  have hts := C.2.2.2.2.1
  have inX1 : ∀ w ∈ wsX10, w ∈ wsX1_size := by decide +kernel
  have hL15 := hts (.fieldLink RX1 15 "TrustedUpdates$Row" "size" "I") (by decide +kernel)
  have hl : lv_has ls 1 [(0, .ref (ga G k))] := hl
  refine lv_aload_n hx hb dX1_size_0 rfl (lv_at hl 0 rfl) ?_
  refine wg_i C hW (k := k) (ci := 1) (j := 1) hk rfl ⟨by decide, rfl⟩ inX1 (by decide) (rfq hk rfl) (v := (M k 1)) rfl hL15 (fun _ h9 => h9) dX1_size_1 ?_
  exact wr_i C hr hW h dX1_size_4
theorem yd_X1_mixOfFirst : yX1_mixOfFirst.cls = RX1 ∧ yX1_mixOfFirst.cls ≠ "java/lang/invoke/MethodHandle" ∧ yX1_mixOfFirst.cls ≠ "java/lang/invoke/VarHandle" ∧ (parseMethodDescriptor yX1_mixOfFirst.desc).map (fun d => d.parameters.length) = some 2 := by decide +kernel
set_option maxHeartbeats 4000000 in
set_option maxRecDepth 100000 in
theorem L_X1_mixOfFirst_8 {G : GG} {p : Program} {e : Env} {s : State} {m : MethodId} {args : Array Value} {below : List Frame} {meth : Method} {c : Code} {Q : State → Prop} (C : Cx G wsX1_mixOfFirst RX1 cX1_mixOfFirst 5 p s m args meth c) : ∀ (n : Nat) (k0 : Nat) (hk0 : isK k0 1) (x1 : Int32) (x3 : Int32) (x4 : Int32) (M : Me) (y : Int32 × Me) (H : Heap) (locs : List Loc) (ls : Array Slot), fL_X1_mixOfFirst_8 n k0 x1 x3 x4 M = some y → wH G s M H locs → lv_has ls 5 [(0, .ref (ga G k0)), (1, .int x1), (3, .int x3), (4, .int x4)] → (∀ (H : Heap) (locs : List Loc) (ls : Array Slot), wH G s y.2 H locs → lv_has ls 5 [(3, .int y.1)] → W p (gl G) e (rmd 0 0 0) s m args below meth c H locs 0 0 Q (F0 m 49 ls [])) → W p (gl G) e (rmd 0 0 0) s m args below meth c H locs 0 0 Q (F0 m 8 ls []) := by
  have hx := C.1
  have hb := C.2.1
  have hown := C.2.2.2.1
  have hts := C.2.2.2.2.1
  have inX1 : ∀ w ∈ wsX10, w ∈ wsX1_mixOfFirst := by decide +kernel
  have hC30 := hts (.constant RX1 30 (16777619)) (by decide +kernel)
  have hL9 := hts (.fieldLink RX1 9 "TrustedUpdates$Row" "bytes" "[I") (by decide +kernel)
  have hL15 := hts (.fieldLink RX1 15 "TrustedUpdates$Row" "size" "I") (by decide +kernel)
  intro n
  induction n with
  | zero => intro k0 hk0 x1 x3 x4 M y H locs ls h; exact nso h
  | succ n ih =>
    intro k0 hk0 x1 x3 x4 M y H locs ls h hW hl kx
    rw [fL_X1_mixOfFirst_8] at h
    refine lv_iload hx hb dX1_mixOfFirst_8 (lv_at hl 3 rfl) ?_
    refine lv_iload_n hx hb dX1_mixOfFirst_10 rfl (lv_at hl 1 rfl) ?_
    refine lv_icmp_ge (tgt := 49) hx hb dX1_mixOfFirst_11 (by decide) (fun c1 => ?_) (fun c1 => ?_)
    · replace h := ift h c1
      cases h
      exact kx _ _ ls hW (lv_sub hl [2] rfl)
    · replace h := iff_ h c1
      refine lv_iload hx hb dX1_mixOfFirst_14 (lv_at hl 3 rfl) ?_
      refine lv_aload_n hx hb dX1_mixOfFirst_16 rfl (lv_at hl 0 rfl) ?_
      refine wg_i C hW (k := k0) (ci := 1) (j := 1) hk0 rfl ⟨by decide, rfl⟩ inX1 (by decide) (rfq hk0 rfl) (v := (M k0 1)) rfl hL15 (fun _ h9 => h9) dX1_mixOfFirst_17 ?_
      refine lv_icmp_ge (tgt := 49) hx hb dX1_mixOfFirst_20 (by decide) (fun c2 => ?_) (fun c2 => ?_)
      · replace h := ift h c2
        cases h
        exact kx _ _ ls hW (lv_sub hl [2] rfl)
      · replace h := iff_ h c2
        refine lv_iload_n hx hb dX1_mixOfFirst_23 rfl (lv_at hl 2 rfl) ?_
        refine lv_aload_n hx hb dX1_mixOfFirst_24 rfl (lv_at hl 0 rfl) ?_
        refine wg_r C hW (k := k0) (ci := 1) (j := 0) (q := (k0 + 1)) hk0 rfl ⟨by decide, rfl⟩ inX1 (by decide) (rfq hk0 rfl) hL9 (fun _ h9 => h9) dX1_mixOfFirst_25 ?_
        refine lv_iload hx hb dX1_mixOfFirst_28 (lv_at hl 3 rfl) ?_
        obtain ⟨hg1, h⟩ := ifg h
        refine wa_l C hW (k := (k0 + 1)) (kr_a hk0) hg1 dX1_mixOfFirst_30 (v := (M (k0 + 1) x4.toNatClampNeg)) rfl ?_
        refine lv_ixor hx hb dX1_mixOfFirst_31 ?_
        refine lv_ldc (v := 16777619) hx hb hown hC30 dX1_mixOfFirst_32 ?_
        refine lv_imul hx hb dX1_mixOfFirst_34 ?_
        refine lv_istore_n (lv' := [(3, .int ((x3 ^^^ (M (k0 + 1) x4.toNatClampNeg)) * 16777619)), (0, .ref (ga G k0)), (1, .int x1), (4, .int x4)]) hx hb dX1_mixOfFirst_35 rfl hl (by decide) rfl (fun ls hl => ?_)
        refine lv_iload_n hx hb dX1_mixOfFirst_36 rfl (lv_at hl 0 rfl) ?_
        refine lv_iload_n hx hb dX1_mixOfFirst_37 rfl (lv_at hl 0 rfl) ?_
        refine lv_bipush (v := 15) hx hb dX1_mixOfFirst_38 (by decide) ?_
        refine lv_iushr (v := (ush ((x3 ^^^ (M (k0 + 1) x4.toNatClampNeg)) * 16777619) 15)) hx hb dX1_mixOfFirst_40 rfl ?_
        refine lv_ixor hx hb dX1_mixOfFirst_41 ?_
        refine lv_istore_n (lv' := [(3, .int (((x3 ^^^ (M (k0 + 1) x4.toNatClampNeg)) * 16777619) ^^^ (ush ((x3 ^^^ (M (k0 + 1) x4.toNatClampNeg)) * 16777619) 15))), (0, .ref (ga G k0)), (1, .int x1), (4, .int x4)]) hx hb dX1_mixOfFirst_42 rfl hl (by decide) rfl (fun ls hl => ?_)
        refine lv_iinc (v := (x4 + 1)) (lv' := [(4, .int (x4 + 1)), (3, .int (((x3 ^^^ (M (k0 + 1) x4.toNatClampNeg)) * 16777619) ^^^ (ush ((x3 ^^^ (M (k0 + 1) x4.toNatClampNeg)) * 16777619) 15))), (0, .ref (ga G k0)), (1, .int x1)]) hx hb dX1_mixOfFirst_43 hl (k := 3) rfl rfl (by decide) rfl (fun ls hl => ?_)
        refine lv_goto (tgt := 8) hx hb dX1_mixOfFirst_46 (by decide) ?_
        exact ih k0 hk0 x1 (((x3 ^^^ (M (k0 + 1) x4.toNatClampNeg)) * 16777619) ^^^ (ush ((x3 ^^^ (M (k0 + 1) x4.toNatClampNeg)) * 16777619) 15)) (x4 + 1) M y _ _ ls h hW (lv_sub hl [2, 3, 1, 0] rfl) kx
set_option maxHeartbeats 4000000 in
set_option maxRecDepth 100000 in
theorem c_X1_mixOfFirst (G : GG) (k : Nat) (hk : isK k 1) (a1 : Int32) (a2 : Int32) (M : Me) (y : Int32 × Me) (h : f_X1_mixOfFirst k a1 a2 M = some y) : CI G yX1_mixOfFirst wsX1_mixOfFirst (rmd 0 0 0) [.ref (ga G k), .int a1, .int a2] M y := by
  rw [f_X1_mixOfFirst] at h
  refine co_o (by decide) rfl rfl (Nat.le_of_ble_eq_true rfl) (fun p e s m below meth c ls C hr hW hl => ?_)
  have hx := C.1
  have hb := C.2.1
  have hown := C.2.2.2.1
  have hts := C.2.2.2.2.1
  have hC29 := hts (.constant RX1 29 (-1640531527)) (by decide +kernel)
  have hl : lv_has ls 5 [(0, .ref (ga G k)), (1, .int a1), (2, .int a2)] := hl
  refine lv_iload_n hx hb dX1_mixOfFirst_0 rfl (lv_at hl 2 rfl) ?_
  refine lv_ldc (v := (-1640531527)) hx hb hown hC29 dX1_mixOfFirst_1 ?_
  refine lv_imul hx hb dX1_mixOfFirst_3 ?_
  refine lv_istore_n (lv' := [(3, .int (a2 * (-1640531527))), (0, .ref (ga G k)), (1, .int a1), (2, .int a2)]) hx hb dX1_mixOfFirst_4 rfl hl (by decide) rfl (fun ls hl => ?_)
  refine lv_iconst (v := 0) hx hb dX1_mixOfFirst_5 (by decide) ?_
  refine lv_istore (lv' := [(4, .int 0), (3, .int (a2 * (-1640531527))), (0, .ref (ga G k)), (1, .int a1), (2, .int a2)]) hx hb dX1_mixOfFirst_6 hl (by decide) rfl (fun ls hl => ?_)
  obtain ⟨q1, hq1, h⟩ := ob h
  refine L_X1_mixOfFirst_8 C 200 k hk a1 (a2 * (-1640531527)) 0 M q1 _ _ ls hq1 hW (lv_sub hl [2, 3, 1, 0] rfl) (fun H locs ls hW hl => ?_)
  refine lv_iload_n hx hb dX1_mixOfFirst_49 rfl (lv_at hl 0 rfl) ?_
  exact wr_i C hr hW h dX1_mixOfFirst_50
theorem yd_X1_wordAt : yX1_wordAt.cls = RX1 ∧ yX1_wordAt.cls ≠ "java/lang/invoke/MethodHandle" ∧ yX1_wordAt.cls ≠ "java/lang/invoke/VarHandle" ∧ (parseMethodDescriptor yX1_wordAt.desc).map (fun d => d.parameters.length) = some 1 := by decide +kernel
set_option maxHeartbeats 4000000 in
set_option maxRecDepth 100000 in
theorem c_X1_wordAt (G : GG) (k : Nat) (hk : isK k 1) (a1 : Int32) (M : Me) (y : Int32 × Me) (h : f_X1_wordAt k a1 M = some y) : CI G yX1_wordAt wsX1_wordAt (rmd 0 0 0) [.ref (ga G k), .int a1] M y := by
  rw [f_X1_wordAt] at h
  refine co_o (by decide) rfl rfl (Nat.le_of_ble_eq_true rfl) (fun p e s m below meth c ls C hr hW hl => ?_)
  have hx := C.1
  have hb := C.2.1
  have hown := C.2.2.2.1
  have hts := C.2.2.2.2.1
  have inX1 : ∀ w ∈ wsX10, w ∈ wsX1_wordAt := by decide +kernel
  have hL9 := hts (.fieldLink RX1 9 "TrustedUpdates$Row" "bytes" "[I") (by decide +kernel)
  have hL15 := hts (.fieldLink RX1 15 "TrustedUpdates$Row" "size" "I") (by decide +kernel)
  have hl : lv_has ls 2 [(0, .ref (ga G k)), (1, .int a1)] := hl
  refine lv_iload_n hx hb dX1_wordAt_0 rfl (lv_at hl 1 rfl) ?_
  refine lv_if_lt (tgt := 14) hx hb dX1_wordAt_1 (by decide) (fun c1 => ?_) (fun c1 => ?_)
  · replace h := ift h c1
    refine lv_iconst (v := 0) hx hb dX1_wordAt_14 (by decide) ?_
    exact wr_i C hr hW h dX1_wordAt_15
  · replace h := iff_ h c1
    refine lv_iload_n hx hb dX1_wordAt_4 rfl (lv_at hl 1 rfl) ?_
    refine lv_aload_n hx hb dX1_wordAt_5 rfl (lv_at hl 0 rfl) ?_
    refine wg_i C hW (k := k) (ci := 1) (j := 1) hk rfl ⟨by decide, rfl⟩ inX1 (by decide) (rfq hk rfl) (v := (M k 1)) rfl hL15 (fun _ h9 => h9) dX1_wordAt_6 ?_
    refine lv_iconst (v := 4) hx hb dX1_wordAt_9 (by decide) ?_
    refine lv_isub hx hb dX1_wordAt_10 ?_
    refine lv_icmp_le (tgt := 16) hx hb dX1_wordAt_11 (by decide) (fun c2 => ?_) (fun c2 => ?_)
    · replace h := ift h c2
      refine lv_aload_n hx hb dX1_wordAt_16 rfl (lv_at hl 0 rfl) ?_
      refine wg_r C hW (k := k) (ci := 1) (j := 0) (q := (k + 1)) hk rfl ⟨by decide, rfl⟩ inX1 (by decide) (rfq hk rfl) hL9 (fun _ h9 => h9) dX1_wordAt_17 ?_
      refine lv_iload_n hx hb dX1_wordAt_20 rfl (lv_at hl 1 rfl) ?_
      obtain ⟨hg1, h⟩ := ifg h
      refine wa_l C hW (k := (k + 1)) (kr_a hk) hg1 dX1_wordAt_21 (v := (M (k + 1) a1.toNatClampNeg)) rfl ?_
      refine lv_bipush (v := 24) hx hb dX1_wordAt_22 (by decide) ?_
      refine lv_ishl hx hb dX1_wordAt_24 ?_
      refine lv_aload_n hx hb dX1_wordAt_25 rfl (lv_at hl 0 rfl) ?_
      refine wg_r C hW (k := k) (ci := 1) (j := 0) (q := (k + 1)) hk rfl ⟨by decide, rfl⟩ inX1 (by decide) (rfq hk rfl) hL9 (fun _ h9 => h9) dX1_wordAt_26 ?_
      refine lv_iload_n hx hb dX1_wordAt_29 rfl (lv_at hl 1 rfl) ?_
      refine lv_iconst (v := 1) hx hb dX1_wordAt_30 (by decide) ?_
      refine lv_iadd hx hb dX1_wordAt_31 ?_
      obtain ⟨hg2, h⟩ := ifg h
      refine wa_l C hW (k := (k + 1)) (kr_a hk) hg2 dX1_wordAt_32 (v := (M (k + 1) (a1 + 1).toNatClampNeg)) rfl ?_
      refine lv_bipush (v := 16) hx hb dX1_wordAt_33 (by decide) ?_
      refine lv_ishl hx hb dX1_wordAt_35 ?_
      refine lv_ior hx hb dX1_wordAt_36 ?_
      refine lv_aload_n hx hb dX1_wordAt_37 rfl (lv_at hl 0 rfl) ?_
      refine wg_r C hW (k := k) (ci := 1) (j := 0) (q := (k + 1)) hk rfl ⟨by decide, rfl⟩ inX1 (by decide) (rfq hk rfl) hL9 (fun _ h9 => h9) dX1_wordAt_38 ?_
      refine lv_iload_n hx hb dX1_wordAt_41 rfl (lv_at hl 1 rfl) ?_
      refine lv_iconst (v := 2) hx hb dX1_wordAt_42 (by decide) ?_
      refine lv_iadd hx hb dX1_wordAt_43 ?_
      obtain ⟨hg3, h⟩ := ifg h
      refine wa_l C hW (k := (k + 1)) (kr_a hk) hg3 dX1_wordAt_44 (v := (M (k + 1) (a1 + 2).toNatClampNeg)) rfl ?_
      refine lv_bipush (v := 8) hx hb dX1_wordAt_45 (by decide) ?_
      refine lv_ishl hx hb dX1_wordAt_47 ?_
      refine lv_ior hx hb dX1_wordAt_48 ?_
      refine lv_aload_n hx hb dX1_wordAt_49 rfl (lv_at hl 0 rfl) ?_
      refine wg_r C hW (k := k) (ci := 1) (j := 0) (q := (k + 1)) hk rfl ⟨by decide, rfl⟩ inX1 (by decide) (rfq hk rfl) hL9 (fun _ h9 => h9) dX1_wordAt_50 ?_
      refine lv_iload_n hx hb dX1_wordAt_53 rfl (lv_at hl 1 rfl) ?_
      refine lv_iconst (v := 3) hx hb dX1_wordAt_54 (by decide) ?_
      refine lv_iadd hx hb dX1_wordAt_55 ?_
      obtain ⟨hg4, h⟩ := ifg h
      refine wa_l C hW (k := (k + 1)) (kr_a hk) hg4 dX1_wordAt_56 (v := (M (k + 1) (a1 + 3).toNatClampNeg)) rfl ?_
      refine lv_ior hx hb dX1_wordAt_57 ?_
      exact wr_i C hr hW h dX1_wordAt_58
    · replace h := iff_ h c2
      refine lv_iconst (v := 0) hx hb dX1_wordAt_14 (by decide) ?_
      exact wr_i C hr hW h dX1_wordAt_15
theorem yd_X1_has : yX1_has.cls = RX1 ∧ yX1_has.cls ≠ "java/lang/invoke/MethodHandle" ∧ yX1_has.cls ≠ "java/lang/invoke/VarHandle" ∧ (parseMethodDescriptor yX1_has.desc).map (fun d => d.parameters.length) = some 1 := by decide +kernel
set_option maxHeartbeats 4000000 in
set_option maxRecDepth 100000 in
theorem c_X1_has (G : GG) (k : Nat) (hk : isK k 1) (a1 : Int32) (M : Me) (y : Int32 × Me) (h : f_X1_has k a1 M = some y) : CI G yX1_has wsX1_has (rmd 0 0 0) [.ref (ga G k), .int a1] M y := by
  rw [f_X1_has] at h
  refine co_o (by decide) rfl rfl (Nat.le_of_ble_eq_true rfl) (fun p e s m below meth c ls C hr hW hl => ?_)
  have hx := C.1
  have hb := C.2.1
  have hown := C.2.2.2.1
  have hts := C.2.2.2.2.1
  have inX1 : ∀ w ∈ wsX10, w ∈ wsX1_has := by decide +kernel
  have hL15 := hts (.fieldLink RX1 15 "TrustedUpdates$Row" "size" "I") (by decide +kernel)
  have hl : lv_has ls 2 [(0, .ref (ga G k)), (1, .int a1)] := hl
  refine lv_iload_n hx hb dX1_has_0 rfl (lv_at hl 1 rfl) ?_
  refine lv_if_lt (tgt := 16) hx hb dX1_has_1 (by decide) (fun c1 => ?_) (fun c1 => ?_)
  · replace h := ift h c1
    refine lv_iconst (v := 0) hx hb dX1_has_16 (by decide) ?_
    exact wr_z C hr (Or.inl rfl) hW h dX1_has_17
  · replace h := iff_ h c1
    refine lv_iload_n hx hb dX1_has_4 rfl (lv_at hl 1 rfl) ?_
    refine lv_aload_n hx hb dX1_has_5 rfl (lv_at hl 0 rfl) ?_
    refine wg_i C hW (k := k) (ci := 1) (j := 1) hk rfl ⟨by decide, rfl⟩ inX1 (by decide) (rfq hk rfl) (v := (M k 1)) rfl hL15 (fun _ h9 => h9) dX1_has_6 ?_
    refine lv_icmp_ge (tgt := 16) hx hb dX1_has_9 (by decide) (fun c2 => ?_) (fun c2 => ?_)
    · replace h := ift h c2
      refine lv_iconst (v := 0) hx hb dX1_has_16 (by decide) ?_
      exact wr_z C hr (Or.inl rfl) hW h dX1_has_17
    · replace h := iff_ h c2
      refine lv_iconst (v := 1) hx hb dX1_has_12 (by decide) ?_
      refine lv_goto (tgt := 17) hx hb dX1_has_13 (by decide) ?_
      exact wr_z C hr (Or.inr rfl) hW h dX1_has_17
theorem yd_X1_hasRoomFor : yX1_hasRoomFor.cls = RX1 ∧ yX1_hasRoomFor.cls ≠ "java/lang/invoke/MethodHandle" ∧ yX1_hasRoomFor.cls ≠ "java/lang/invoke/VarHandle" ∧ (parseMethodDescriptor yX1_hasRoomFor.desc).map (fun d => d.parameters.length) = some 1 := by decide +kernel
set_option maxHeartbeats 4000000 in
set_option maxRecDepth 100000 in
theorem c_X1_hasRoomFor (G : GG) (k : Nat) (hk : isK k 1) (a1 : Int32) (M : Me) (y : Int32 × Me) (h : f_X1_hasRoomFor k a1 M = some y) : CI G yX1_hasRoomFor wsX1_hasRoomFor (rmd 0 0 0) [.ref (ga G k), .int a1] M y := by
  rw [f_X1_hasRoomFor] at h
  refine co_o (by decide) rfl rfl (Nat.le_of_ble_eq_true rfl) (fun p e s m below meth c ls C hr hW hl => ?_)
  have hx := C.1
  have hb := C.2.1
  have hown := C.2.2.2.1
  have hts := C.2.2.2.2.1
  have inX1 : ∀ w ∈ wsX10, w ∈ wsX1_hasRoomFor := by decide +kernel
  have hL9 := hts (.fieldLink RX1 9 "TrustedUpdates$Row" "bytes" "[I") (by decide +kernel)
  have hL15 := hts (.fieldLink RX1 15 "TrustedUpdates$Row" "size" "I") (by decide +kernel)
  have hl : lv_has ls 2 [(0, .ref (ga G k)), (1, .int a1)] := hl
  refine lv_iload_n hx hb dX1_hasRoomFor_0 rfl (lv_at hl 1 rfl) ?_
  refine lv_aload_n hx hb dX1_hasRoomFor_1 rfl (lv_at hl 0 rfl) ?_
  refine wg_r C hW (k := k) (ci := 1) (j := 0) (q := (k + 1)) hk rfl ⟨by decide, rfl⟩ inX1 (by decide) (rfq hk rfl) hL9 (fun _ h9 => h9) dX1_hasRoomFor_2 ?_
  refine wa_n C hW (k := (k + 1)) (kr_a hk) dX1_hasRoomFor_5 ?_
  refine lv_aload_n hx hb dX1_hasRoomFor_6 rfl (lv_at hl 0 rfl) ?_
  refine wg_i C hW (k := k) (ci := 1) (j := 1) hk rfl ⟨by decide, rfl⟩ inX1 (by decide) (rfq hk rfl) (v := (M k 1)) rfl hL15 (fun _ h9 => h9) dX1_hasRoomFor_7 ?_
  refine lv_isub hx hb dX1_hasRoomFor_10 ?_
  refine lv_icmp_gt (tgt := 18) hx hb dX1_hasRoomFor_11 (by decide) (fun c1 => ?_) (fun c1 => ?_)
  · replace h := ift h c1
    refine lv_iconst (v := 0) hx hb dX1_hasRoomFor_18 (by decide) ?_
    exact wr_z C hr (Or.inl rfl) hW h dX1_hasRoomFor_19
  · replace h := iff_ h c1
    refine lv_iconst (v := 1) hx hb dX1_hasRoomFor_14 (by decide) ?_
    refine lv_goto (tgt := 19) hx hb dX1_hasRoomFor_15 (by decide) ?_
    exact wr_z C hr (Or.inr rfl) hW h dX1_hasRoomFor_19
theorem yd_X1_replace : yX1_replace.cls = RX1 ∧ yX1_replace.cls ≠ "java/lang/invoke/MethodHandle" ∧ yX1_replace.cls ≠ "java/lang/invoke/VarHandle" ∧ (parseMethodDescriptor yX1_replace.desc).map (fun d => d.parameters.length) = some 2 := by decide +kernel
set_option maxHeartbeats 4000000 in
set_option maxRecDepth 100000 in
theorem c_X1_replace (G : GG) (k : Nat) (hk : isK k 1) (a1 : Int32) (a2 : Int32) (M : Me) (y : Int32 × Me) (h : f_X1_replace k a1 a2 M = some y) : CV G yX1_replace wsX1_replace (rmd 0 0 0) [.ref (ga G k), .int a1, .int a2] M y := by
  rw [f_X1_replace] at h
  refine co_o (by decide) rfl rfl (Nat.le_of_ble_eq_true rfl) (fun p e s m below meth c ls C hr hW hl => ?_)
  have hx := C.1
  have hb := C.2.1
  have hown := C.2.2.2.1
  have hts := C.2.2.2.2.1
  have inX1 : ∀ w ∈ wsX10, w ∈ wsX1_replace := by decide +kernel
  have hL9 := hts (.fieldLink RX1 9 "TrustedUpdates$Row" "bytes" "[I") (by decide +kernel)
  have hL15 := hts (.fieldLink RX1 15 "TrustedUpdates$Row" "size" "I") (by decide +kernel)
  have hl : lv_has ls 3 [(0, .ref (ga G k)), (1, .int a1), (2, .int a2)] := hl
  refine lv_iload_n hx hb dX1_replace_0 rfl (lv_at hl 1 rfl) ?_
  refine lv_if_lt (tgt := 23) hx hb dX1_replace_1 (by decide) (fun c1 => ?_) (fun c1 => ?_)
  · replace h := ift h c1
    exact wr_v C hr hW h dX1_replace_23
  · replace h := iff_ h c1
    refine lv_iload_n hx hb dX1_replace_4 rfl (lv_at hl 1 rfl) ?_
    refine lv_aload_n hx hb dX1_replace_5 rfl (lv_at hl 0 rfl) ?_
    refine wg_i C hW (k := k) (ci := 1) (j := 1) hk rfl ⟨by decide, rfl⟩ inX1 (by decide) (rfq hk rfl) (v := (M k 1)) rfl hL15 (fun _ h9 => h9) dX1_replace_6 ?_
    refine lv_icmp_ge (tgt := 23) hx hb dX1_replace_9 (by decide) (fun c2 => ?_) (fun c2 => ?_)
    · replace h := ift h c2
      exact wr_v C hr hW h dX1_replace_23
    · replace h := iff_ h c2
      refine lv_aload_n hx hb dX1_replace_12 rfl (lv_at hl 0 rfl) ?_
      refine wg_r C hW (k := k) (ci := 1) (j := 0) (q := (k + 1)) hk rfl ⟨by decide, rfl⟩ inX1 (by decide) (rfq hk rfl) hL9 (fun _ h9 => h9) dX1_replace_13 ?_
      refine lv_iload_n hx hb dX1_replace_16 rfl (lv_at hl 1 rfl) ?_
      refine lv_iload_n hx hb dX1_replace_17 rfl (lv_at hl 2 rfl) ?_
      refine lv_sipush (v := 255) hx hb dX1_replace_18 (by decide) ?_
      refine lv_iand hx hb dX1_replace_21 ?_
      obtain ⟨hg1, h⟩ := ifg h
      refine wa_s C hW (k := (k + 1)) (kr_a hk) hg1 dX1_replace_22 (fun H locs hW => ?_)
      exact wr_v C hr hW h dX1_replace_23
theorem yd_X1_append : yX1_append.cls = RX1 ∧ yX1_append.cls ≠ "java/lang/invoke/MethodHandle" ∧ yX1_append.cls ≠ "java/lang/invoke/VarHandle" ∧ (parseMethodDescriptor yX1_append.desc).map (fun d => d.parameters.length) = some 1 := by decide +kernel
set_option maxHeartbeats 4000000 in
set_option maxRecDepth 100000 in
theorem c_X1_append (G : GG) (k : Nat) (hk : isK k 1) (a1 : Int32) (M : Me) (y : Int32 × Me) (h : f_X1_append k a1 M = some y) : CV G yX1_append wsX1_append (rmd 0 0 0) [.ref (ga G k), .int a1] M y := by
  rw [f_X1_append] at h
  refine co_o (by decide) rfl rfl (Nat.le_of_ble_eq_true rfl) (fun p e s m below meth c ls C hr hW hl => ?_)
  have hx := C.1
  have hb := C.2.1
  have hown := C.2.2.2.1
  have hts := C.2.2.2.2.1
  have inX1 : ∀ w ∈ wsX10, w ∈ wsX1_append := by decide +kernel
  have hL9 := hts (.fieldLink RX1 9 "TrustedUpdates$Row" "bytes" "[I") (by decide +kernel)
  have hL15 := hts (.fieldLink RX1 15 "TrustedUpdates$Row" "size" "I") (by decide +kernel)
  have hl : lv_has ls 2 [(0, .ref (ga G k)), (1, .int a1)] := hl
  refine lv_aload_n hx hb dX1_append_0 rfl (lv_at hl 0 rfl) ?_
  refine wg_i C hW (k := k) (ci := 1) (j := 1) hk rfl ⟨by decide, rfl⟩ inX1 (by decide) (rfq hk rfl) (v := (M k 1)) rfl hL15 (fun _ h9 => h9) dX1_append_1 ?_
  refine lv_aload_n hx hb dX1_append_4 rfl (lv_at hl 0 rfl) ?_
  refine wg_r C hW (k := k) (ci := 1) (j := 0) (q := (k + 1)) hk rfl ⟨by decide, rfl⟩ inX1 (by decide) (rfq hk rfl) hL9 (fun _ h9 => h9) dX1_append_5 ?_
  refine wa_n C hW (k := (k + 1)) (kr_a hk) dX1_append_8 ?_
  refine lv_icmp_ge (tgt := 36) hx hb dX1_append_9 (by decide) (fun c1 => ?_) (fun c1 => ?_)
  · replace h := ift h c1
    exact wr_v C hr hW h dX1_append_36
  · replace h := iff_ h c1
    refine lv_aload_n hx hb dX1_append_12 rfl (lv_at hl 0 rfl) ?_
    refine wg_r C hW (k := k) (ci := 1) (j := 0) (q := (k + 1)) hk rfl ⟨by decide, rfl⟩ inX1 (by decide) (rfq hk rfl) hL9 (fun _ h9 => h9) dX1_append_13 ?_
    refine lv_aload_n hx hb dX1_append_16 rfl (lv_at hl 0 rfl) ?_
    refine wg_i C hW (k := k) (ci := 1) (j := 1) hk rfl ⟨by decide, rfl⟩ inX1 (by decide) (rfq hk rfl) (v := (M k 1)) rfl hL15 (fun _ h9 => h9) dX1_append_17 ?_
    refine lv_iload_n hx hb dX1_append_20 rfl (lv_at hl 1 rfl) ?_
    refine lv_sipush (v := 255) hx hb dX1_append_21 (by decide) ?_
    refine lv_iand hx hb dX1_append_24 ?_
    obtain ⟨hg1, h⟩ := ifg h
    refine wa_s C hW (k := (k + 1)) (kr_a hk) hg1 dX1_append_25 (fun H locs hW => ?_)
    refine lv_aload_n hx hb dX1_append_26 rfl (lv_at hl 0 rfl) ?_
    refine lv_dup hx hb dX1_append_27 rfl ?_
    refine wg_i C hW (k := k) (ci := 1) (j := 1) hk rfl ⟨by decide, rfl⟩ inX1 (by decide) (rfq hk rfl) (v := (M k 1)) (up_k (by omega)) hL15 (fun _ h9 => h9) dX1_append_28 ?_
    refine lv_iconst (v := 1) hx hb dX1_append_31 (by decide) ?_
    refine lv_iadd hx hb dX1_append_32 ?_
    refine wp_t C hW (k := k) (ci := 1) (j := 1) (ty := .int) rfl rfl hk rfl ⟨by decide, rfl⟩ inX1 tyX1 tyX1_ok nmX1 (by decide) (rfq hk rfl) hL15 (fun _ h9 => h9) rfl rfl dX1_append_33 (fun H locs hW => ?_)
    exact wr_v C hr hW h dX1_append_36
theorem yd_X1_appendLowest : yX1_appendLowest.cls = RX1 ∧ yX1_appendLowest.cls ≠ "java/lang/invoke/MethodHandle" ∧ yX1_appendLowest.cls ≠ "java/lang/invoke/VarHandle" ∧ (parseMethodDescriptor yX1_appendLowest.desc).map (fun d => d.parameters.length) = some 2 := by decide +kernel
set_option maxHeartbeats 4000000 in
set_option maxRecDepth 100000 in
theorem L_X1_appendLowest_3 {G : GG} {p : Program} {e : Env} {s : State} {m : MethodId} {args : Array Value} {below : List Frame} {meth : Method} {c : Code} {Q : State → Prop} (C : Cx G wsX1_appendLowest RX1 cX1_appendLowest 5 p s m args meth c) : ∀ (n : Nat) (k0 : Nat) (hk0 : isK k0 1) (x1 : Int64) (x3 : Int32) (x4 : Int32) (M : Me) (y : Int32 × Me) (H : Heap) (locs : List Loc) (ls : Array Slot), fL_X1_appendLowest_3 n k0 x1 x3 x4 M = some y → wH G s M H locs → lv_has ls 5 [(0, .ref (ga G k0)), (1, .long x1), (3, .int x3), (4, .int x4)] → (∀ (H : Heap) (locs : List Loc) (ls : Array Slot), wH G s y.2 H locs → lv_has ls 5 [] → W p (gl G) e (rmd 1 0 0) s m args below meth c H locs 0 0 Q (F0 m 27 ls [])) → W p (gl G) e (rmd 1 0 0) s m args below meth c H locs 0 0 Q (F0 m 3 ls []) := by
  have hx := C.1
  have hb := C.2.1
  have hown := C.2.2.2.1
  have hts := C.2.2.2.2.1
  intro n
  induction n with
  | zero => intro k0 hk0 x1 x3 x4 M y H locs ls h; exact nso h
  | succ n ih =>
    intro k0 hk0 x1 x3 x4 M y H locs ls h hW hl kx
    rw [fL_X1_appendLowest_3] at h
    refine lv_iload hx hb dX1_appendLowest_3 (lv_at hl 3 rfl) ?_
    refine lv_iload_n hx hb dX1_appendLowest_5 rfl (lv_at hl 2 rfl) ?_
    refine lv_icmp_ge (tgt := 27) hx hb dX1_appendLowest_6 (by decide) (fun c1 => ?_) (fun c1 => ?_)
    · replace h := ift h c1
      cases h
      exact kx _ _ ls hW (lv_sub hl [] rfl)
    · replace h := iff_ h c1
      refine lv_aload_n hx hb dX1_appendLowest_9 rfl (lv_at hl 0 rfl) ?_
      refine lv_lload_n hx hb dX1_appendLowest_10 rfl (lv_at hl 1 rfl) ?_
      refine lv_bipush (v := 8) hx hb dX1_appendLowest_11 (by decide) ?_
      refine lv_iload hx hb dX1_appendLowest_13 (lv_at hl 3 rfl) ?_
      refine lv_imul hx hb dX1_appendLowest_15 ?_
      refine lv_lushr (v := (lushr_ x1 (8 * x4))) hx hb dX1_appendLowest_16 rfl ?_
      refine lv_l2i (v := ((lushr_ x1 (8 * x4)).toInt32)) hx hb dX1_appendLowest_17 rfl ?_
      obtain ⟨q1, hq1, h⟩ := ob h
      refine wc_Vv C hW (k := k0) (As := [.int ((lushr_ x1 (8 * x4)).toInt32)]) (rest := []) (c_X1_append G k0 hk0 ((lushr_ x1 (8 * x4)).toInt32) M q1 hq1) hk0 rfl (by decide) (cwV 1 hts gX1_appendLowest_X1_append rfl rfl rfl yd_X1_append ⟨Nat.le_of_ble_eq_true rfl, Nat.le_of_ble_eq_true rfl⟩) rfl hl.1 rfl (Nat.le_of_ble_eq_true rfl) dX1_appendLowest_18 ⟨Nat.le_refl 0, Nat.le_refl 0⟩ (fun H locs hW => ?_)
      refine lv_iinc (v := (x4 + 1)) (lv' := [(4, .int (x4 + 1)), (0, .ref (ga G k0)), (1, .long x1), (3, .int x3)]) hx hb dX1_appendLowest_21 hl (k := 3) rfl rfl (by decide) rfl (fun ls hl => ?_)
      refine lv_goto (tgt := 3) hx hb dX1_appendLowest_24 (by decide) ?_
      exact ih k0 hk0 x1 x3 (x4 + 1) q1.2 y _ _ ls h hW (lv_sub hl [1, 2, 3, 0] rfl) kx
set_option maxHeartbeats 4000000 in
set_option maxRecDepth 100000 in
theorem c_X1_appendLowest (G : GG) (k : Nat) (hk : isK k 1) (a1 : Int64) (a2 : Int32) (M : Me) (y : Int32 × Me) (h : f_X1_appendLowest k a1 a2 M = some y) : CV G yX1_appendLowest wsX1_appendLowest (rmd 1 0 0) [.ref (ga G k), .long a1, .int a2] M y := by
  rw [f_X1_appendLowest] at h
  refine co_o (by decide) rfl rfl (Nat.le_of_ble_eq_true rfl) (fun p e s m below meth c ls C hr hW hl => ?_)
  have hx := C.1
  have hb := C.2.1
  have hown := C.2.2.2.1
  have hts := C.2.2.2.2.1
  have hl : lv_has ls 5 [(0, .ref (ga G k)), (1, .long a1), (3, .int a2)] := hl
  refine lv_iconst (v := 0) hx hb dX1_appendLowest_0 (by decide) ?_
  refine lv_istore (lv' := [(4, .int 0), (0, .ref (ga G k)), (1, .long a1), (3, .int a2)]) hx hb dX1_appendLowest_1 hl (by decide) rfl (fun ls hl => ?_)
  obtain ⟨q2, hq2, h⟩ := ob h
  refine L_X1_appendLowest_3 C 200 k hk a1 a2 0 M q2 _ _ ls hq2 hW (lv_sub hl [1, 2, 3, 0] rfl) (fun H locs ls hW hl => ?_)
  exact wr_v C hr hW h dX1_appendLowest_27
theorem yd_X1_appendWord : yX1_appendWord.cls = RX1 ∧ yX1_appendWord.cls ≠ "java/lang/invoke/MethodHandle" ∧ yX1_appendWord.cls ≠ "java/lang/invoke/VarHandle" ∧ (parseMethodDescriptor yX1_appendWord.desc).map (fun d => d.parameters.length) = some 1 := by decide +kernel
set_option maxHeartbeats 4000000 in
set_option maxRecDepth 100000 in
theorem c_X1_appendWord (G : GG) (k : Nat) (hk : isK k 1) (a1 : Int32) (M : Me) (y : Int32 × Me) (h : f_X1_appendWord k a1 M = some y) : CV G yX1_appendWord wsX1_appendWord (rmd 1 0 0) [.ref (ga G k), .int a1] M y := by
  rw [f_X1_appendWord] at h
  refine co_o (by decide) rfl rfl (Nat.le_of_ble_eq_true rfl) (fun p e s m below meth c ls C hr hW hl => ?_)
  have hx := C.1
  have hb := C.2.1
  have hown := C.2.2.2.1
  have hts := C.2.2.2.2.1
  have hl : lv_has ls 2 [(0, .ref (ga G k)), (1, .int a1)] := hl
  refine lv_aload_n hx hb dX1_appendWord_0 rfl (lv_at hl 0 rfl) ?_
  refine lv_iload_n hx hb dX1_appendWord_1 rfl (lv_at hl 1 rfl) ?_
  refine lv_bipush (v := 24) hx hb dX1_appendWord_2 (by decide) ?_
  refine lv_iushr (v := (ush a1 24)) hx hb dX1_appendWord_4 rfl ?_
  obtain ⟨q1, hq1, h⟩ := ob h
  refine wc_Vv C hW (k := k) (As := [.int (ush a1 24)]) (rest := []) (c_X1_append G k hk (ush a1 24) M q1 hq1) hk rfl (by decide) (cwV 1 hts gX1_appendWord_X1_append rfl rfl rfl yd_X1_append ⟨Nat.le_of_ble_eq_true rfl, Nat.le_of_ble_eq_true rfl⟩) rfl hl.1 rfl (Nat.le_of_ble_eq_true rfl) dX1_appendWord_5 ⟨Nat.le_refl 0, Nat.le_refl 0⟩ (fun H locs hW => ?_)
  refine lv_aload_n hx hb dX1_appendWord_8 rfl (lv_at hl 0 rfl) ?_
  refine lv_iload_n hx hb dX1_appendWord_9 rfl (lv_at hl 1 rfl) ?_
  refine lv_bipush (v := 16) hx hb dX1_appendWord_10 (by decide) ?_
  refine lv_iushr (v := (ush a1 16)) hx hb dX1_appendWord_12 rfl ?_
  obtain ⟨q2, hq2, h⟩ := ob h
  refine wc_Vv C hW (k := k) (As := [.int (ush a1 16)]) (rest := []) (c_X1_append G k hk (ush a1 16) q1.2 q2 hq2) hk rfl (by decide) (cwV 1 hts gX1_appendWord_X1_append rfl rfl rfl yd_X1_append ⟨Nat.le_of_ble_eq_true rfl, Nat.le_of_ble_eq_true rfl⟩) rfl hl.1 rfl (Nat.le_of_ble_eq_true rfl) dX1_appendWord_13 ⟨Nat.le_refl 0, Nat.le_refl 0⟩ (fun H locs hW => ?_)
  refine lv_aload_n hx hb dX1_appendWord_16 rfl (lv_at hl 0 rfl) ?_
  refine lv_iload_n hx hb dX1_appendWord_17 rfl (lv_at hl 1 rfl) ?_
  refine lv_bipush (v := 8) hx hb dX1_appendWord_18 (by decide) ?_
  refine lv_iushr (v := (ush a1 8)) hx hb dX1_appendWord_20 rfl ?_
  obtain ⟨q3, hq3, h⟩ := ob h
  refine wc_Vv C hW (k := k) (As := [.int (ush a1 8)]) (rest := []) (c_X1_append G k hk (ush a1 8) q2.2 q3 hq3) hk rfl (by decide) (cwV 1 hts gX1_appendWord_X1_append rfl rfl rfl yd_X1_append ⟨Nat.le_of_ble_eq_true rfl, Nat.le_of_ble_eq_true rfl⟩) rfl hl.1 rfl (Nat.le_of_ble_eq_true rfl) dX1_appendWord_21 ⟨Nat.le_refl 0, Nat.le_refl 0⟩ (fun H locs hW => ?_)
  refine lv_aload_n hx hb dX1_appendWord_24 rfl (lv_at hl 0 rfl) ?_
  refine lv_iload_n hx hb dX1_appendWord_25 rfl (lv_at hl 1 rfl) ?_
  obtain ⟨q4, hq4, h⟩ := ob h
  refine wc_Vv C hW (k := k) (As := [.int a1]) (rest := []) (c_X1_append G k hk a1 q3.2 q4 hq4) hk rfl (by decide) (cwV 1 hts gX1_appendWord_X1_append rfl rfl rfl yd_X1_append ⟨Nat.le_of_ble_eq_true rfl, Nat.le_of_ble_eq_true rfl⟩) rfl hl.1 rfl (Nat.le_of_ble_eq_true rfl) dX1_appendWord_26 ⟨Nat.le_refl 0, Nat.le_refl 0⟩ (fun H locs hW => ?_)
  exact wr_v C hr hW h dX1_appendWord_29
theorem yd_X1_keepFirst : yX1_keepFirst.cls = RX1 ∧ yX1_keepFirst.cls ≠ "java/lang/invoke/MethodHandle" ∧ yX1_keepFirst.cls ≠ "java/lang/invoke/VarHandle" ∧ (parseMethodDescriptor yX1_keepFirst.desc).map (fun d => d.parameters.length) = some 1 := by decide +kernel
set_option maxHeartbeats 4000000 in
set_option maxRecDepth 100000 in
theorem c_X1_keepFirst (G : GG) (k : Nat) (hk : isK k 1) (a1 : Int32) (M : Me) (y : Int32 × Me) (h : f_X1_keepFirst k a1 M = some y) : CV G yX1_keepFirst wsX1_keepFirst (rmd 0 0 0) [.ref (ga G k), .int a1] M y := by
  rw [f_X1_keepFirst] at h
  refine co_o (by decide) rfl rfl (Nat.le_of_ble_eq_true rfl) (fun p e s m below meth c ls C hr hW hl => ?_)
  have hx := C.1
  have hb := C.2.1
  have hown := C.2.2.2.1
  have hts := C.2.2.2.2.1
  have inX1 : ∀ w ∈ wsX10, w ∈ wsX1_keepFirst := by decide +kernel
  have hL15 := hts (.fieldLink RX1 15 "TrustedUpdates$Row" "size" "I") (by decide +kernel)
  have hl : lv_has ls 2 [(0, .ref (ga G k)), (1, .int a1)] := hl
  refine lv_iload_n hx hb dX1_keepFirst_0 rfl (lv_at hl 1 rfl) ?_
  refine lv_if_lt (tgt := 17) hx hb dX1_keepFirst_1 (by decide) (fun c1 => ?_) (fun c1 => ?_)
  · replace h := ift h c1
    exact wr_v C hr hW h dX1_keepFirst_17
  · replace h := iff_ h c1
    refine lv_iload_n hx hb dX1_keepFirst_4 rfl (lv_at hl 1 rfl) ?_
    refine lv_aload_n hx hb dX1_keepFirst_5 rfl (lv_at hl 0 rfl) ?_
    refine wg_i C hW (k := k) (ci := 1) (j := 1) hk rfl ⟨by decide, rfl⟩ inX1 (by decide) (rfq hk rfl) (v := (M k 1)) rfl hL15 (fun _ h9 => h9) dX1_keepFirst_6 ?_
    refine lv_icmp_ge (tgt := 17) hx hb dX1_keepFirst_9 (by decide) (fun c2 => ?_) (fun c2 => ?_)
    · replace h := ift h c2
      exact wr_v C hr hW h dX1_keepFirst_17
    · replace h := iff_ h c2
      refine lv_aload_n hx hb dX1_keepFirst_12 rfl (lv_at hl 0 rfl) ?_
      refine lv_iload_n hx hb dX1_keepFirst_13 rfl (lv_at hl 1 rfl) ?_
      refine wp_t C hW (k := k) (ci := 1) (j := 1) (ty := .int) rfl rfl hk rfl ⟨by decide, rfl⟩ inX1 tyX1 tyX1_ok nmX1 (by decide) (rfq hk rfl) hL15 (fun _ h9 => h9) rfl rfl dX1_keepFirst_14 (fun H locs hW => ?_)
      exact wr_v C hr hW h dX1_keepFirst_17
theorem yd_X1_wholeDigest : yX1_wholeDigest.cls = RX1 ∧ yX1_wholeDigest.cls ≠ "java/lang/invoke/MethodHandle" ∧ yX1_wholeDigest.cls ≠ "java/lang/invoke/VarHandle" ∧ (parseMethodDescriptor yX1_wholeDigest.desc).map (fun d => d.parameters.length) = some 0 := by decide +kernel
set_option maxHeartbeats 4000000 in
set_option maxRecDepth 100000 in
theorem c_X1_wholeDigest (G : GG) (k : Nat) (hk : isK k 1) (M : Me) (y : Int32 × Me) (h : f_X1_wholeDigest k M = some y) : CI G yX1_wholeDigest wsX1_wholeDigest (rmd 1 0 0) [.ref (ga G k)] M y := by
  rw [f_X1_wholeDigest] at h
  refine co_o (by decide) rfl rfl (Nat.le_of_ble_eq_true rfl) (fun p e s m below meth c ls C hr hW hl => ?_)
  have hx := C.1
  have hb := C.2.1
  have hown := C.2.2.2.1
  have hts := C.2.2.2.2.1
  have inX1 : ∀ w ∈ wsX10, w ∈ wsX1_wholeDigest := by decide +kernel
  have hL15 := hts (.fieldLink RX1 15 "TrustedUpdates$Row" "size" "I") (by decide +kernel)
  have hl : lv_has ls 1 [(0, .ref (ga G k))] := hl
  refine lv_aload_n hx hb dX1_wholeDigest_0 rfl (lv_at hl 0 rfl) ?_
  refine lv_aload_n hx hb dX1_wholeDigest_1 rfl (lv_at hl 0 rfl) ?_
  refine wg_i C hW (k := k) (ci := 1) (j := 1) hk rfl ⟨by decide, rfl⟩ inX1 (by decide) (rfq hk rfl) (v := (M k 1)) rfl hL15 (fun _ h9 => h9) dX1_wholeDigest_2 ?_
  refine lv_iconst (v := 0) hx hb dX1_wholeDigest_5 (by decide) ?_
  obtain ⟨q1, hq1, h⟩ := ob h
  refine wc_Vi C hW (k := k) (As := [.int (M k 1), .int 0]) (rest := []) (c_X1_mixOfFirst G k hk (M k 1) 0 M q1 hq1) hk rfl (by decide) (cwV 2 hts gX1_wholeDigest_X1_mixOfFirst rfl rfl rfl yd_X1_mixOfFirst ⟨Nat.le_of_ble_eq_true rfl, Nat.le_of_ble_eq_true rfl⟩) rfl hl.1 rfl (Nat.le_of_ble_eq_true rfl) dX1_wholeDigest_6 ⟨Nat.le_refl 0, Nat.le_refl 0⟩ (fun H locs hW => ?_)
  exact wr_i C hr hW h dX1_wholeDigest_9
