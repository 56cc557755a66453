theorem yd_L_at : yL_at.cls ≠ "java/lang/invoke/MethodHandle" ∧ yL_at.cls ≠ "java/lang/invoke/VarHandle" ∧ (parseMethodDescriptor yL_at.desc).map (fun d => d.parameters.length) = some 3 := by decide +kernel
set_option maxHeartbeats 4000000 in
set_option maxRecDepth 100000 in
theorem c_L_at (G : GG) (a2 : Int32) (M : Me) (y : Int32 × Me) (h : f_L_at a2 M = some y) : CL G yL_at wsL_at (rmd 7 1 6) [.ref (ga G 72), .int a2, .ref (ga G 79)] M y 1 6 := by
  rw [f_L_at] at h
  refine co_l (hh := [(0, 9, 12, 13)]) (by decide) rfl rfl (Nat.le_of_ble_eq_true rfl) (fun p e s m below meth c ls C hZ hN hT hr hW hl => ?_)
  have hx := C.1
  have hb := C.2.1
  have hown := C.2.2.2.1
  have hts := C.2.2.2.2.1
  have hl : lv_has ls 4 [(0, .ref (ga G 72)), (1, .int a2), (2, .ref (ga G 79))] := hl
  refine lv_aload_n hx hb dL_at_0 rfl (lv_at hl 2 rfl) ?_
  refine lv_iconst (v := 0) hx hb dL_at_1 (by decide) ?_
  refine lv_aload_n hx hb dL_at_2 rfl (lv_at hl 0 rfl) ?_
  refine lv_iload_n hx hb dL_at_3 rfl (lv_at hl 1 rfl) ?_
  obtain ⟨q1, hq1, h⟩ := ob h
  refine wct_Vi C hZ hW (k := 72) (As := [.int a2]) (rest := [.int 0, .ref (ga G 79)]) (c_X4_at G a2 M q1 hq1) k72 rfl (by decide) (cwV 1 hts gL_at_X4_at rfl rfl rfl yd_X4_at ⟨Nat.le_of_ble_eq_true rfl, Nat.le_of_ble_eq_true rfl⟩) rfl hl.1 rfl (Nat.le_of_ble_eq_true rfl) dL_at_4 ⟨Nat.le_of_ble_eq_true rfl, Nat.le_of_ble_eq_true rfl⟩ (fun E ce q9 H locs hne he hW h1 h2 h3 => ?_) (fun H locs h0 hW => ?_)
  · replace h := iff_ h hne
    by_cases x1 : q1.1.1 = 1
    · replace h := ift h x1
      rw [x1] at he
      subst he
      refine cx_catch hown [] { startPc := 0, endPc := 9, handlerPc := 12, catchType := 13 } [] hT (fun _ hz => absurd hz List.not_mem_nil) (by decide) (by decide) (hts (.classLink RL 13 "java/lang/IndexOutOfBoundsException") (by decide +kernel)) (hZ.2.2.2.1 1) h1 h2 h3 ?_
      refine lv_astore_n (lv' := [(3, .ref q9), (0, .ref (ga G 72)), (1, .int a2), (2, .ref (ga G 79))]) hx hb dL_at_12 rfl hl (by decide) rfl (fun ls hl => ?_)
      refine lv_iconst (v := 1) hx hb dL_at_13 (by decide) ?_
      exact wr_i C hr hW h dL_at_14
    replace h := iff_ h x1
    exact nso h
  replace h := ift h h0
  refine lv_i2l (v := (q1.1.2.toInt64)) hx hb dL_at_7 rfl ?_
  refine wl_s C hW (k := 79) k79 (by decide) dL_at_8 (fun H locs hW => ?_)
  have hW : wH G s (up q1.2 79 0 q1.1.2) H locs := hW
  refine lv_goto (tgt := 15) hx hb dL_at_9 (by decide) ?_
  refine lv_iconst (v := 0) hx hb dL_at_15 (by decide) ?_
  exact wr_i C hr hW h dL_at_16
theorem yd_L_sign : yL_sign.cls ≠ "java/lang/invoke/MethodHandle" ∧ yL_sign.cls ≠ "java/lang/invoke/VarHandle" ∧ (parseMethodDescriptor yL_sign.desc).map (fun d => d.parameters.length) = some 3 := by decide +kernel
set_option maxHeartbeats 4000000 in
set_option maxRecDepth 100000 in
theorem c_L_sign (G : GG) (a2 : Int32) (M : Me) (y : Int32 × Me) (h : f_L_sign a2 M = some y) : CL G yL_sign wsL_sign (rmd 7 1 6) [.ref (ga G 72), .int a2, .ref (ga G 79)] M y 1 6 := by
  rw [f_L_sign] at h
  refine co_l (hh := [(0, 9, 12, 13), (0, 9, 15, 18), (0, 9, 18, 20)]) (by decide) rfl rfl (Nat.le_of_ble_eq_true rfl) (fun p e s m below meth c ls C hZ hN hT hr hW hl => ?_)
  have hx := C.1
  have hb := C.2.1
  have hown := C.2.2.2.1
  have hts := C.2.2.2.2.1
  have hl : lv_has ls 4 [(0, .ref (ga G 72)), (1, .int a2), (2, .ref (ga G 79))] := hl
  refine lv_aload_n hx hb dL_sign_0 rfl (lv_at hl 2 rfl) ?_
  refine lv_iconst (v := 0) hx hb dL_sign_1 (by decide) ?_
  refine lv_aload_n hx hb dL_sign_2 rfl (lv_at hl 0 rfl) ?_
  refine lv_iload_n hx hb dL_sign_3 rfl (lv_at hl 1 rfl) ?_
  obtain ⟨q1, hq1, h⟩ := ob h
  refine wct_Vi C hZ hW (k := 72) (As := [.int a2]) (rest := [.int 0, .ref (ga G 79)]) (c_X4_sign G a2 M q1 hq1) k72 rfl (by decide) (cwV 1 hts gL_sign_X4_sign rfl rfl rfl yd_X4_sign ⟨Nat.le_of_ble_eq_true rfl, Nat.le_of_ble_eq_true rfl⟩) rfl hl.1 rfl (Nat.le_of_ble_eq_true rfl) dL_sign_4 ⟨Nat.le_of_ble_eq_true rfl, Nat.le_of_ble_eq_true rfl⟩ (fun E ce q9 H locs hne he hW h1 h2 h3 => ?_) (fun H locs h0 hW => ?_)
  · replace h := iff_ h hne
    by_cases x1 : q1.1.1 = 1
    · replace h := ift h x1
      rw [x1] at he
      subst he
      refine cx_catch hown [] { startPc := 0, endPc := 9, handlerPc := 12, catchType := 13 } [{ startPc := 0, endPc := 9, handlerPc := 15, catchType := 18 }, { startPc := 0, endPc := 9, handlerPc := 18, catchType := 20 }] hT (fun _ hz => absurd hz List.not_mem_nil) (by decide) (by decide) (hts (.classLink RL 13 "java/lang/IndexOutOfBoundsException") (by decide +kernel)) (hZ.2.2.2.1 1) h1 h2 h3 ?_
      refine lv_astore_n (lv' := [(3, .ref q9), (0, .ref (ga G 72)), (1, .int a2), (2, .ref (ga G 79))]) hx hb dL_sign_12 rfl hl (by decide) rfl (fun ls hl => ?_)
      refine lv_iconst (v := 1) hx hb dL_sign_13 (by decide) ?_
      exact wr_i C hr hW h dL_sign_14
    replace h := iff_ h x1
    by_cases x2 : q1.1.1 = 2
    · replace h := ift h x2
      rw [x2] at he
      subst he
      refine cx_catch hown [{ startPc := 0, endPc := 9, handlerPc := 12, catchType := 13 }] { startPc := 0, endPc := 9, handlerPc := 15, catchType := 18 } [{ startPc := 0, endPc := 9, handlerPc := 18, catchType := 20 }] hT (List.forall_mem_cons.mpr ⟨⟨by decide, by decide, "java/lang/IndexOutOfBoundsException", hts (.classLink RL 13 "java/lang/IndexOutOfBoundsException") (by decide +kernel), hN 2 1 (by decide) (by decide) (by decide) (by decide) (by decide)⟩, (fun _ hz => absurd hz List.not_mem_nil)⟩) (by decide) (by decide) (hts (.classLink RL 18 "java/lang/IllegalArgumentException") (by decide +kernel)) (hZ.2.2.2.1 2) h1 h2 h3 ?_
      refine lv_astore_n (lv' := [(3, .ref q9), (0, .ref (ga G 72)), (1, .int a2), (2, .ref (ga G 79))]) hx hb dL_sign_15 rfl hl (by decide) rfl (fun ls hl => ?_)
      refine lv_iconst (v := 2) hx hb dL_sign_16 (by decide) ?_
      exact wr_i C hr hW h dL_sign_17
    replace h := iff_ h x2
    by_cases x4 : q1.1.1 = 4
    · replace h := ift h x4
      rw [x4] at he
      subst he
      refine cx_catch hown [{ startPc := 0, endPc := 9, handlerPc := 12, catchType := 13 }, { startPc := 0, endPc := 9, handlerPc := 15, catchType := 18 }] { startPc := 0, endPc := 9, handlerPc := 18, catchType := 20 } [] hT (List.forall_mem_cons.mpr ⟨⟨by decide, by decide, "java/lang/IndexOutOfBoundsException", hts (.classLink RL 13 "java/lang/IndexOutOfBoundsException") (by decide +kernel), hN 4 1 (by decide) (by decide) (by decide) (by decide) (by decide)⟩, (List.forall_mem_cons.mpr ⟨⟨by decide, by decide, "java/lang/IllegalArgumentException", hts (.classLink RL 18 "java/lang/IllegalArgumentException") (by decide +kernel), hN 4 2 (by decide) (by decide) (by decide) (by decide) (by decide)⟩, (fun _ hz => absurd hz List.not_mem_nil)⟩)⟩) (by decide) (by decide) (hts (.classLink RL 20 "java/lang/UnsupportedOperationException") (by decide +kernel)) (hZ.2.2.2.1 4) h1 h2 h3 ?_
      refine lv_astore_n (lv' := [(3, .ref q9), (0, .ref (ga G 72)), (1, .int a2), (2, .ref (ga G 79))]) hx hb dL_sign_18 rfl hl (by decide) rfl (fun ls hl => ?_)
      refine lv_iconst (v := 3) hx hb dL_sign_19 (by decide) ?_
      exact wr_i C hr hW h dL_sign_20
    replace h := iff_ h x4
    exact nso h
  replace h := ift h h0
  refine lv_i2l (v := (q1.1.2.toInt64)) hx hb dL_sign_7 rfl ?_
  refine wl_s C hW (k := 79) k79 (by decide) dL_sign_8 (fun H locs hW => ?_)
  have hW : wH G s (up q1.2 79 0 q1.1.2) H locs := hW
  refine lv_goto (tgt := 21) hx hb dL_sign_9 (by decide) ?_
  refine lv_iconst (v := 0) hx hb dL_sign_21 (by decide) ?_
  exact wr_i C hr hW h dL_sign_22
theorem yd_L_tick : yL_tick.cls ≠ "java/lang/invoke/MethodHandle" ∧ yL_tick.cls ≠ "java/lang/invoke/VarHandle" ∧ (parseMethodDescriptor yL_tick.desc).map (fun d => d.parameters.length) = some 3 := by decide +kernel
set_option maxHeartbeats 4000000 in
set_option maxRecDepth 100000 in
theorem c_L_tick (G : GG) (a2 : Int32) (M : Me) (y : Int32 × Me) (h : f_L_tick a2 M = some y) : CL G yL_tick wsL_tick (rmd 7 1 6) [.ref (ga G 72), .int a2, .ref (ga G 79)] M y 1 6 := by
  rw [f_L_tick] at h
  refine co_l (hh := [(0, 9, 12, 18)]) (by decide) rfl rfl (Nat.le_of_ble_eq_true rfl) (fun p e s m below meth c ls C hZ hN hT hr hW hl => ?_)
  have hx := C.1
  have hb := C.2.1
  have hown := C.2.2.2.1
  have hts := C.2.2.2.2.1
  have hl : lv_has ls 4 [(0, .ref (ga G 72)), (1, .int a2), (2, .ref (ga G 79))] := hl
  refine lv_aload_n hx hb dL_tick_0 rfl (lv_at hl 2 rfl) ?_
  refine lv_iconst (v := 0) hx hb dL_tick_1 (by decide) ?_
  refine lv_aload_n hx hb dL_tick_2 rfl (lv_at hl 0 rfl) ?_
  refine lv_iload_n hx hb dL_tick_3 rfl (lv_at hl 1 rfl) ?_
  obtain ⟨q1, hq1, h⟩ := ob h
  refine wct_Vi C hZ hW (k := 72) (As := [.int a2]) (rest := [.int 0, .ref (ga G 79)]) (c_X4_tick G a2 M q1 hq1) k72 rfl (by decide) (cwV 1 hts gL_tick_X4_tick rfl rfl rfl yd_X4_tick ⟨Nat.le_of_ble_eq_true rfl, Nat.le_of_ble_eq_true rfl⟩) rfl hl.1 rfl (Nat.le_of_ble_eq_true rfl) dL_tick_4 ⟨Nat.le_of_ble_eq_true rfl, Nat.le_of_ble_eq_true rfl⟩ (fun E ce q9 H locs hne he hW h1 h2 h3 => ?_) (fun H locs h0 hW => ?_)
  · replace h := iff_ h hne
    by_cases x2 : q1.1.1 = 2
    · replace h := ift h x2
      rw [x2] at he
      subst he
      refine cx_catch hown [] { startPc := 0, endPc := 9, handlerPc := 12, catchType := 18 } [] hT (fun _ hz => absurd hz List.not_mem_nil) (by decide) (by decide) (hts (.classLink RL 18 "java/lang/IllegalArgumentException") (by decide +kernel)) (hZ.2.2.2.1 2) h1 h2 h3 ?_
      refine lv_astore_n (lv' := [(3, .ref q9), (0, .ref (ga G 72)), (1, .int a2), (2, .ref (ga G 79))]) hx hb dL_tick_12 rfl hl (by decide) rfl (fun ls hl => ?_)
      refine lv_iconst (v := 1) hx hb dL_tick_13 (by decide) ?_
      exact wr_i C hr hW h dL_tick_14
    replace h := iff_ h x2
    exact nso h
  replace h := ift h h0
  refine lv_i2l (v := (q1.1.2.toInt64)) hx hb dL_tick_7 rfl ?_
  refine wl_s C hW (k := 79) k79 (by decide) dL_tick_8 (fun H locs hW => ?_)
  have hW : wH G s (up q1.2 79 0 q1.1.2) H locs := hW
  refine lv_goto (tgt := 15) hx hb dL_tick_9 (by decide) ?_
  refine lv_iconst (v := 0) hx hb dL_tick_15 (by decide) ?_
  exact wr_i C hr hW h dL_tick_16
theorem yd_L_begin : yL_begin.cls ≠ "java/lang/invoke/MethodHandle" ∧ yL_begin.cls ≠ "java/lang/invoke/VarHandle" ∧ (parseMethodDescriptor yL_begin.desc).map (fun d => d.parameters.length) = some 1 := by decide +kernel
set_option maxHeartbeats 4000000 in
set_option maxRecDepth 100000 in
theorem c_L_begin (G : GG)  (M : Me) (y : Int32 × Me) (h : f_L_begin  M = some y) : CL G yL_begin wsL_begin (rmd 8 1 6) [.ref (ga G 72)] M y 1 6 := by
  rw [f_L_begin] at h
  refine co_l (hh := [(0, 4, 7, 18)]) (by decide) rfl rfl (Nat.le_of_ble_eq_true rfl) (fun p e s m below meth c ls C hZ hN hT hr hW hl => ?_)
  have hx := C.1
  have hb := C.2.1
  have hown := C.2.2.2.1
  have hts := C.2.2.2.2.1
  have hl : lv_has ls 2 [(0, .ref (ga G 72))] := hl
  refine lv_aload_n hx hb dL_begin_0 rfl (lv_at hl 0 rfl) ?_
  obtain ⟨q1, hq1, h⟩ := ob h
  refine wct_Vv C hZ hW (k := 72) (As := []) (rest := []) (c_X4_begin G  M q1 hq1) k72 rfl (by decide) (cwV 0 hts gL_begin_X4_begin rfl rfl rfl yd_X4_begin ⟨Nat.le_of_ble_eq_true rfl, Nat.le_of_ble_eq_true rfl⟩) rfl hl.1 rfl (Nat.le_of_ble_eq_true rfl) dL_begin_1 ⟨Nat.le_of_ble_eq_true rfl, Nat.le_of_ble_eq_true rfl⟩ (fun E ce q9 H locs hne he hW h1 h2 h3 => ?_) (fun H locs h0 hW => ?_)
  · replace h := iff_ h hne
    by_cases x2 : q1.1.1 = 2
    · replace h := ift h x2
      rw [x2] at he
      subst he
      refine cx_catch hown [] { startPc := 0, endPc := 4, handlerPc := 7, catchType := 18 } [] hT (fun _ hz => absurd hz List.not_mem_nil) (by decide) (by decide) (hts (.classLink RL 18 "java/lang/IllegalArgumentException") (by decide +kernel)) (hZ.2.2.2.1 2) h1 h2 h3 ?_
      refine lv_astore_n (lv' := [(1, .ref q9), (0, .ref (ga G 72))]) hx hb dL_begin_7 rfl hl (by decide) rfl (fun ls hl => ?_)
      refine lv_iconst (v := 1) hx hb dL_begin_8 (by decide) ?_
      exact wr_i C hr hW h dL_begin_9
    replace h := iff_ h x2
    exact nso h
  replace h := ift h h0
  refine lv_goto (tgt := 10) hx hb dL_begin_4 (by decide) ?_
  refine lv_iconst (v := 0) hx hb dL_begin_10 (by decide) ?_
  exact wr_i C hr hW h dL_begin_11
theorem yd_L_offer : yL_offer.cls ≠ "java/lang/invoke/MethodHandle" ∧ yL_offer.cls ≠ "java/lang/invoke/VarHandle" ∧ (parseMethodDescriptor yL_offer.desc).map (fun d => d.parameters.length) = some 2 := by decide +kernel
set_option maxHeartbeats 4000000 in
set_option maxRecDepth 100000 in
theorem c_L_offer (G : GG)  (M : Me) (y : Int32 × Me) (h : f_L_offer  M = some y) : CL G yL_offer wsL_offer (rmd 8 1 6) [.ref (ga G 72), .ref (ga G 79)] M y 1 6 := by
  rw [f_L_offer] at h
  refine co_l (hh := [(0, 8, 11, 18), (0, 8, 14, 13), (0, 8, 17, 32), (0, 8, 20, 20), (0, 8, 23, 34)]) (by decide) rfl rfl (Nat.le_of_ble_eq_true rfl) (fun p e s m below meth c ls C hZ hN hT hr hW hl => ?_)
  have hx := C.1
  have hb := C.2.1
  have hown := C.2.2.2.1
  have hts := C.2.2.2.2.1
  have hl : lv_has ls 3 [(0, .ref (ga G 72)), (1, .ref (ga G 79))] := hl
  refine lv_aload_n hx hb dL_offer_0 rfl (lv_at hl 1 rfl) ?_
  refine lv_iconst (v := 0) hx hb dL_offer_1 (by decide) ?_
  refine lv_aload_n hx hb dL_offer_2 rfl (lv_at hl 0 rfl) ?_
  obtain ⟨q1, hq1, h⟩ := ob h
  refine wct_Vi C hZ hW (k := 72) (As := []) (rest := [.int 0, .ref (ga G 79)]) (c_X4_offer G  M q1 hq1) k72 rfl (by decide) (cwV 0 hts gL_offer_X4_offer rfl rfl rfl yd_X4_offer ⟨Nat.le_of_ble_eq_true rfl, Nat.le_of_ble_eq_true rfl⟩) rfl hl.1 rfl (Nat.le_of_ble_eq_true rfl) dL_offer_3 ⟨Nat.le_of_ble_eq_true rfl, Nat.le_of_ble_eq_true rfl⟩ (fun E ce q9 H locs hne he hW h1 h2 h3 => ?_) (fun H locs h0 hW => ?_)
  · replace h := iff_ h hne
    by_cases x2 : q1.1.1 = 2
    · replace h := ift h x2
      rw [x2] at he
      subst he
      refine cx_catch hown [] { startPc := 0, endPc := 8, handlerPc := 11, catchType := 18 } [{ startPc := 0, endPc := 8, handlerPc := 14, catchType := 13 }, { startPc := 0, endPc := 8, handlerPc := 17, catchType := 32 }, { startPc := 0, endPc := 8, handlerPc := 20, catchType := 20 }, { startPc := 0, endPc := 8, handlerPc := 23, catchType := 34 }] hT (fun _ hz => absurd hz List.not_mem_nil) (by decide) (by decide) (hts (.classLink RL 18 "java/lang/IllegalArgumentException") (by decide +kernel)) (hZ.2.2.2.1 2) h1 h2 h3 ?_
      refine lv_astore_n (lv' := [(2, .ref q9), (0, .ref (ga G 72)), (1, .ref (ga G 79))]) hx hb dL_offer_11 rfl hl (by decide) rfl (fun ls hl => ?_)
      refine lv_iconst (v := 1) hx hb dL_offer_12 (by decide) ?_
      exact wr_i C hr hW h dL_offer_13
    replace h := iff_ h x2
    by_cases x1 : q1.1.1 = 1
    · replace h := ift h x1
      rw [x1] at he
      subst he
      refine cx_catch hown [{ startPc := 0, endPc := 8, handlerPc := 11, catchType := 18 }] { startPc := 0, endPc := 8, handlerPc := 14, catchType := 13 } [{ startPc := 0, endPc := 8, handlerPc := 17, catchType := 32 }, { startPc := 0, endPc := 8, handlerPc := 20, catchType := 20 }, { startPc := 0, endPc := 8, handlerPc := 23, catchType := 34 }] hT (List.forall_mem_cons.mpr ⟨⟨by decide, by decide, "java/lang/IllegalArgumentException", hts (.classLink RL 18 "java/lang/IllegalArgumentException") (by decide +kernel), hN 1 2 (by decide) (by decide) (by decide) (by decide) (by decide)⟩, (fun _ hz => absurd hz List.not_mem_nil)⟩) (by decide) (by decide) (hts (.classLink RL 13 "java/lang/IndexOutOfBoundsException") (by decide +kernel)) (hZ.2.2.2.1 1) h1 h2 h3 ?_
      refine lv_astore_n (lv' := [(2, .ref q9), (0, .ref (ga G 72)), (1, .ref (ga G 79))]) hx hb dL_offer_14 rfl hl (by decide) rfl (fun ls hl => ?_)
      refine lv_iconst (v := 2) hx hb dL_offer_15 (by decide) ?_
      exact wr_i C hr hW h dL_offer_16
    replace h := iff_ h x1
    by_cases x3 : q1.1.1 = 3
    · replace h := ift h x3
      rw [x3] at he
      subst he
      refine cx_catch hown [{ startPc := 0, endPc := 8, handlerPc := 11, catchType := 18 }, { startPc := 0, endPc := 8, handlerPc := 14, catchType := 13 }] { startPc := 0, endPc := 8, handlerPc := 17, catchType := 32 } [{ startPc := 0, endPc := 8, handlerPc := 20, catchType := 20 }, { startPc := 0, endPc := 8, handlerPc := 23, catchType := 34 }] hT (List.forall_mem_cons.mpr ⟨⟨by decide, by decide, "java/lang/IllegalArgumentException", hts (.classLink RL 18 "java/lang/IllegalArgumentException") (by decide +kernel), hN 3 2 (by decide) (by decide) (by decide) (by decide) (by decide)⟩, (List.forall_mem_cons.mpr ⟨⟨by decide, by decide, "java/lang/IndexOutOfBoundsException", hts (.classLink RL 13 "java/lang/IndexOutOfBoundsException") (by decide +kernel), hN 3 1 (by decide) (by decide) (by decide) (by decide) (by decide)⟩, (fun _ hz => absurd hz List.not_mem_nil)⟩)⟩) (by decide) (by decide) (hts (.classLink RL 32 "java/lang/IllegalStateException") (by decide +kernel)) (hZ.2.2.2.1 3) h1 h2 h3 ?_
      refine lv_astore_n (lv' := [(2, .ref q9), (0, .ref (ga G 72)), (1, .ref (ga G 79))]) hx hb dL_offer_17 rfl hl (by decide) rfl (fun ls hl => ?_)
      refine lv_iconst (v := 3) hx hb dL_offer_18 (by decide) ?_
      exact wr_i C hr hW h dL_offer_19
    replace h := iff_ h x3
    by_cases x4 : q1.1.1 = 4
    · replace h := ift h x4
      rw [x4] at he
      subst he
      refine cx_catch hown [{ startPc := 0, endPc := 8, handlerPc := 11, catchType := 18 }, { startPc := 0, endPc := 8, handlerPc := 14, catchType := 13 }, { startPc := 0, endPc := 8, handlerPc := 17, catchType := 32 }] { startPc := 0, endPc := 8, handlerPc := 20, catchType := 20 } [{ startPc := 0, endPc := 8, handlerPc := 23, catchType := 34 }] hT (List.forall_mem_cons.mpr ⟨⟨by decide, by decide, "java/lang/IllegalArgumentException", hts (.classLink RL 18 "java/lang/IllegalArgumentException") (by decide +kernel), hN 4 2 (by decide) (by decide) (by decide) (by decide) (by decide)⟩, (List.forall_mem_cons.mpr ⟨⟨by decide, by decide, "java/lang/IndexOutOfBoundsException", hts (.classLink RL 13 "java/lang/IndexOutOfBoundsException") (by decide +kernel), hN 4 1 (by decide) (by decide) (by decide) (by decide) (by decide)⟩, (List.forall_mem_cons.mpr ⟨⟨by decide, by decide, "java/lang/IllegalStateException", hts (.classLink RL 32 "java/lang/IllegalStateException") (by decide +kernel), hN 4 3 (by decide) (by decide) (by decide) (by decide) (by decide)⟩, (fun _ hz => absurd hz List.not_mem_nil)⟩)⟩)⟩) (by decide) (by decide) (hts (.classLink RL 20 "java/lang/UnsupportedOperationException") (by decide +kernel)) (hZ.2.2.2.1 4) h1 h2 h3 ?_
      refine lv_astore_n (lv' := [(2, .ref q9), (0, .ref (ga G 72)), (1, .ref (ga G 79))]) hx hb dL_offer_20 rfl hl (by decide) rfl (fun ls hl => ?_)
      refine lv_iconst (v := 4) hx hb dL_offer_21 (by decide) ?_
      exact wr_i C hr hW h dL_offer_22
    replace h := iff_ h x4
    by_cases x5 : q1.1.1 = 5
    · replace h := ift h x5
      rw [x5] at he
      subst he
      refine cx_catch hown [{ startPc := 0, endPc := 8, handlerPc := 11, catchType := 18 }, { startPc := 0, endPc := 8, handlerPc := 14, catchType := 13 }, { startPc := 0, endPc := 8, handlerPc := 17, catchType := 32 }, { startPc := 0, endPc := 8, handlerPc := 20, catchType := 20 }] { startPc := 0, endPc := 8, handlerPc := 23, catchType := 34 } [] hT (List.forall_mem_cons.mpr ⟨⟨by decide, by decide, "java/lang/IllegalArgumentException", hts (.classLink RL 18 "java/lang/IllegalArgumentException") (by decide +kernel), hN 5 2 (by decide) (by decide) (by decide) (by decide) (by decide)⟩, (List.forall_mem_cons.mpr ⟨⟨by decide, by decide, "java/lang/IndexOutOfBoundsException", hts (.classLink RL 13 "java/lang/IndexOutOfBoundsException") (by decide +kernel), hN 5 1 (by decide) (by decide) (by decide) (by decide) (by decide)⟩, (List.forall_mem_cons.mpr ⟨⟨by decide, by decide, "java/lang/IllegalStateException", hts (.classLink RL 32 "java/lang/IllegalStateException") (by decide +kernel), hN 5 3 (by decide) (by decide) (by decide) (by decide) (by decide)⟩, (List.forall_mem_cons.mpr ⟨⟨by decide, by decide, "java/lang/UnsupportedOperationException", hts (.classLink RL 20 "java/lang/UnsupportedOperationException") (by decide +kernel), hN 5 4 (by decide) (by decide) (by decide) (by decide) (by decide)⟩, (fun _ hz => absurd hz List.not_mem_nil)⟩)⟩)⟩)⟩) (by decide) (by decide) (hts (.classLink RL 34 "java/util/NoSuchElementException") (by decide +kernel)) (hZ.2.2.2.1 5) h1 h2 h3 ?_
      refine lv_astore_n (lv' := [(2, .ref q9), (0, .ref (ga G 72)), (1, .ref (ga G 79))]) hx hb dL_offer_23 rfl hl (by decide) rfl (fun ls hl => ?_)
      refine lv_iconst (v := 5) hx hb dL_offer_24 (by decide) ?_
      exact wr_i C hr hW h dL_offer_25
    replace h := iff_ h x5
    exact nso h
  replace h := ift h h0
  refine lv_i2l (v := (q1.1.2.toInt64)) hx hb dL_offer_6 rfl ?_
  refine wl_s C hW (k := 79) k79 (by decide) dL_offer_7 (fun H locs hW => ?_)
  have hW : wH G s (up q1.2 79 0 q1.1.2) H locs := hW
  refine lv_goto (tgt := 26) hx hb dL_offer_8 (by decide) ?_
  refine lv_iconst (v := 0) hx hb dL_offer_26 (by decide) ?_
  exact wr_i C hr hW h dL_offer_27
theorem yd_L_trusted : yL_trusted.cls ≠ "java/lang/invoke/MethodHandle" ∧ yL_trusted.cls ≠ "java/lang/invoke/VarHandle" ∧ (parseMethodDescriptor yL_trusted.desc).map (fun d => d.parameters.length) = some 4 := by decide +kernel
set_option maxHeartbeats 4000000 in
set_option maxRecDepth 100000 in
theorem c_L_trusted (G : GG) (a2 : Int32) (a3 : Int32) (M : Me) (y : Int32 × Me) (h : f_L_trusted a2 a3 M = some y) : CL G yL_trusted wsL_trusted (rmd 7 1 6) [.ref (ga G 72), .int a2, .int a3, .ref (ga G 79)] M y 1 6 := by
  rw [f_L_trusted] at h
  refine co_l (hh := [(0, 10, 13, 13)]) (by decide) rfl rfl (Nat.le_of_ble_eq_true rfl) (fun p e s m below meth c ls C hZ hN hT hr hW hl => ?_)
  have hx := C.1
  have hb := C.2.1
  have hown := C.2.2.2.1
  have hts := C.2.2.2.2.1
  have hl : lv_has ls 5 [(0, .ref (ga G 72)), (1, .int a2), (2, .int a3), (3, .ref (ga G 79))] := hl
  refine lv_aload_n hx hb dL_trusted_0 rfl (lv_at hl 3 rfl) ?_
  refine lv_iconst (v := 0) hx hb dL_trusted_1 (by decide) ?_
  refine lv_aload_n hx hb dL_trusted_2 rfl (lv_at hl 0 rfl) ?_
  refine lv_iload_n hx hb dL_trusted_3 rfl (lv_at hl 1 rfl) ?_
  refine lv_iload_n hx hb dL_trusted_4 rfl (lv_at hl 2 rfl) ?_
  obtain ⟨q1, hq1, h⟩ := ob h
  refine wct_Vi C hZ hW (k := 72) (As := [.int a2, .int a3]) (rest := [.int 0, .ref (ga G 79)]) (c_X4_trusted G a2 a3 M q1 hq1) k72 rfl (by decide) (cwV 2 hts gL_trusted_X4_trusted rfl rfl rfl yd_X4_trusted ⟨Nat.le_of_ble_eq_true rfl, Nat.le_of_ble_eq_true rfl⟩) rfl hl.1 rfl (Nat.le_of_ble_eq_true rfl) dL_trusted_5 ⟨Nat.le_of_ble_eq_true rfl, Nat.le_of_ble_eq_true rfl⟩ (fun E ce q9 H locs hne he hW h1 h2 h3 => ?_) (fun H locs h0 hW => ?_)
  · replace h := iff_ h hne
    by_cases x1 : q1.1.1 = 1
    · replace h := ift h x1
      rw [x1] at he
      subst he
      refine cx_catch hown [] { startPc := 0, endPc := 10, handlerPc := 13, catchType := 13 } [] hT (fun _ hz => absurd hz List.not_mem_nil) (by decide) (by decide) (hts (.classLink RL 13 "java/lang/IndexOutOfBoundsException") (by decide +kernel)) (hZ.2.2.2.1 1) h1 h2 h3 ?_
      refine lv_astore (lv' := [(4, .ref q9), (0, .ref (ga G 72)), (1, .int a2), (2, .int a3), (3, .ref (ga G 79))]) hx hb dL_trusted_13 hl (by decide) rfl (fun ls hl => ?_)
      refine lv_iconst (v := 1) hx hb dL_trusted_15 (by decide) ?_
      exact wr_i C hr hW h dL_trusted_16
    replace h := iff_ h x1
    exact nso h
  replace h := ift h h0
  refine lv_i2l (v := (q1.1.2.toInt64)) hx hb dL_trusted_8 rfl ?_
  refine wl_s C hW (k := 79) k79 (by decide) dL_trusted_9 (fun H locs hW => ?_)
  have hW : wH G s (up q1.2 79 0 q1.1.2) H locs := hW
  refine lv_goto (tgt := 17) hx hb dL_trusted_10 (by decide) ?_
  refine lv_iconst (v := 0) hx hb dL_trusted_17 (by decide) ?_
  exact wr_i C hr hW h dL_trusted_18
theorem yd_L_seek : yL_seek.cls ≠ "java/lang/invoke/MethodHandle" ∧ yL_seek.cls ≠ "java/lang/invoke/VarHandle" ∧ (parseMethodDescriptor yL_seek.desc).map (fun d => d.parameters.length) = some 4 := by decide +kernel
set_option maxHeartbeats 4000000 in
set_option maxRecDepth 100000 in
theorem c_L_seek (G : GG) (a2 : Int64) (a3 : Int32) (M : Me) (y : Int32 × Me) (h : f_L_seek a2 a3 M = some y) : CL G yL_seek wsL_seek (rmd 15 1 6) [.ref (ga G 72), .long a2, .int a3, .ref (ga G 79)] M y 1 6 := by
  rw [f_L_seek] at h
  refine co_l (hh := [(0, 11, 14, 18), (0, 11, 18, 32)]) (by decide) rfl rfl (Nat.le_of_ble_eq_true rfl) (fun p e s m below meth c ls C hZ hN hT hr hW hl => ?_)
  have hx := C.1
  have hb := C.2.1
  have hown := C.2.2.2.1
  have hts := C.2.2.2.2.1
  have hl : lv_has ls 6 [(0, .ref (ga G 72)), (1, .long a2), (3, .int a3), (4, .ref (ga G 79))] := hl
  refine lv_aload hx hb dL_seek_0 (lv_at hl 3 rfl) ?_
  refine lv_iconst (v := 0) hx hb dL_seek_2 (by decide) ?_
  refine lv_aload_n hx hb dL_seek_3 rfl (lv_at hl 0 rfl) ?_
  refine lv_lload_n hx hb dL_seek_4 rfl (lv_at hl 1 rfl) ?_
  refine lv_iload_n hx hb dL_seek_5 rfl (lv_at hl 2 rfl) ?_
  obtain ⟨q1, hq1, h⟩ := ob h
  refine wct_Vi C hZ hW (k := 72) (As := [.long a2, .int a3]) (rest := [.int 0, .ref (ga G 79)]) (c_X4_seek G a2 a3 M q1 hq1) k72 rfl (by decide) (cwV 2 hts gL_seek_X4_seek rfl rfl rfl yd_X4_seek ⟨Nat.le_of_ble_eq_true rfl, Nat.le_of_ble_eq_true rfl⟩) rfl hl.1 rfl (Nat.le_of_ble_eq_true rfl) dL_seek_6 ⟨Nat.le_of_ble_eq_true rfl, Nat.le_of_ble_eq_true rfl⟩ (fun E ce q9 H locs hne he hW h1 h2 h3 => ?_) (fun H locs h0 hW => ?_)
  · replace h := iff_ h hne
    by_cases x2 : q1.1.1 = 2
    · replace h := ift h x2
      rw [x2] at he
      subst he
      refine cx_catch hown [] { startPc := 0, endPc := 11, handlerPc := 14, catchType := 18 } [{ startPc := 0, endPc := 11, handlerPc := 18, catchType := 32 }] hT (fun _ hz => absurd hz List.not_mem_nil) (by decide) (by decide) (hts (.classLink RL 18 "java/lang/IllegalArgumentException") (by decide +kernel)) (hZ.2.2.2.1 2) h1 h2 h3 ?_
      refine lv_astore (lv' := [(5, .ref q9), (0, .ref (ga G 72)), (1, .long a2), (3, .int a3), (4, .ref (ga G 79))]) hx hb dL_seek_14 hl (by decide) rfl (fun ls hl => ?_)
      refine lv_iconst (v := 1) hx hb dL_seek_16 (by decide) ?_
      exact wr_i C hr hW h dL_seek_17
    replace h := iff_ h x2
    by_cases x3 : q1.1.1 = 3
    · replace h := ift h x3
      rw [x3] at he
      subst he
      refine cx_catch hown [{ startPc := 0, endPc := 11, handlerPc := 14, catchType := 18 }] { startPc := 0, endPc := 11, handlerPc := 18, catchType := 32 } [] hT (List.forall_mem_cons.mpr ⟨⟨by decide, by decide, "java/lang/IllegalArgumentException", hts (.classLink RL 18 "java/lang/IllegalArgumentException") (by decide +kernel), hN 3 2 (by decide) (by decide) (by decide) (by decide) (by decide)⟩, (fun _ hz => absurd hz List.not_mem_nil)⟩) (by decide) (by decide) (hts (.classLink RL 32 "java/lang/IllegalStateException") (by decide +kernel)) (hZ.2.2.2.1 3) h1 h2 h3 ?_
      refine lv_astore (lv' := [(5, .ref q9), (0, .ref (ga G 72)), (1, .long a2), (3, .int a3), (4, .ref (ga G 79))]) hx hb dL_seek_18 hl (by decide) rfl (fun ls hl => ?_)
      refine lv_iconst (v := 2) hx hb dL_seek_20 (by decide) ?_
      exact wr_i C hr hW h dL_seek_21
    replace h := iff_ h x3
    exact nso h
  replace h := ift h h0
  refine lv_i2l (v := (q1.1.2.toInt64)) hx hb dL_seek_9 rfl ?_
  refine wl_s C hW (k := 79) k79 (by decide) dL_seek_10 (fun H locs hW => ?_)
  have hW : wH G s (up q1.2 79 0 q1.1.2) H locs := hW
  refine lv_goto (tgt := 22) hx hb dL_seek_11 (by decide) ?_
  refine lv_iconst (v := 0) hx hb dL_seek_22 (by decide) ?_
  exact wr_i C hr hW h dL_seek_23
theorem yd_L_install : yL_install.cls ≠ "java/lang/invoke/MethodHandle" ∧ yL_install.cls ≠ "java/lang/invoke/VarHandle" ∧ (parseMethodDescriptor yL_install.desc).map (fun d => d.parameters.length) = some 4 := by decide +kernel
set_option maxHeartbeats 4000000 in
set_option maxRecDepth 100000 in
theorem c_L_install (G : GG) (a2 : Int64) (a3 : Int32) (M : Me) (y : Int32 × Me) (h : f_L_install a2 a3 M = some y) : CL G yL_install wsL_install (rmd 15 2 12) [.ref (ga G 72), .long a2, .int a3, .ref (ga G 79)] M y 2 12 := by
  rw [f_L_install] at h
  refine co_l (hh := [(0, 11, 14, 18), (0, 11, 18, 32), (0, 11, 22, 34), (0, 11, 26, 20)]) (by decide) rfl rfl (Nat.le_of_ble_eq_true rfl) (fun p e s m below meth c ls C hZ hN hT hr hW hl => ?_)
  have hx := C.1
  have hb := C.2.1
  have hown := C.2.2.2.1
  have hts := C.2.2.2.2.1
  have hl : lv_has ls 6 [(0, .ref (ga G 72)), (1, .long a2), (3, .int a3), (4, .ref (ga G 79))] := hl
  refine lv_aload hx hb dL_install_0 (lv_at hl 3 rfl) ?_
  refine lv_iconst (v := 0) hx hb dL_install_2 (by decide) ?_
  refine lv_aload_n hx hb dL_install_3 rfl (lv_at hl 0 rfl) ?_
  refine lv_lload_n hx hb dL_install_4 rfl (lv_at hl 1 rfl) ?_
  refine lv_iload_n hx hb dL_install_5 rfl (lv_at hl 2 rfl) ?_
  obtain ⟨q1, hq1, h⟩ := ob h
  refine wct_Vi C hZ hW (k := 72) (As := [.long a2, .int a3]) (rest := [.int 0, .ref (ga G 79)]) (c_X4_install G a2 a3 M q1 hq1) k72 rfl (by decide) (cwV 2 hts gL_install_X4_install rfl rfl rfl yd_X4_install ⟨Nat.le_of_ble_eq_true rfl, Nat.le_of_ble_eq_true rfl⟩) rfl hl.1 rfl (Nat.le_of_ble_eq_true rfl) dL_install_6 ⟨Nat.le_of_ble_eq_true rfl, Nat.le_of_ble_eq_true rfl⟩ (fun E ce q9 H locs hne he hW h1 h2 h3 => ?_) (fun H locs h0 hW => ?_)
  · replace h := iff_ h hne
    by_cases x2 : q1.1.1 = 2
    · replace h := ift h x2
      rw [x2] at he
      subst he
      refine cx_catch hown [] { startPc := 0, endPc := 11, handlerPc := 14, catchType := 18 } [{ startPc := 0, endPc := 11, handlerPc := 18, catchType := 32 }, { startPc := 0, endPc := 11, handlerPc := 22, catchType := 34 }, { startPc := 0, endPc := 11, handlerPc := 26, catchType := 20 }] hT (fun _ hz => absurd hz List.not_mem_nil) (by decide) (by decide) (hts (.classLink RL 18 "java/lang/IllegalArgumentException") (by decide +kernel)) (hZ.2.2.2.1 2) h1 h2 h3 ?_
      refine lv_astore (lv' := [(5, .ref q9), (0, .ref (ga G 72)), (1, .long a2), (3, .int a3), (4, .ref (ga G 79))]) hx hb dL_install_14 hl (by decide) rfl (fun ls hl => ?_)
      refine lv_iconst (v := 1) hx hb dL_install_16 (by decide) ?_
      exact wr_i C hr hW h dL_install_17
    replace h := iff_ h x2
    by_cases x3 : q1.1.1 = 3
    · replace h := ift h x3
      rw [x3] at he
      subst he
      refine cx_catch hown [{ startPc := 0, endPc := 11, handlerPc := 14, catchType := 18 }] { startPc := 0, endPc := 11, handlerPc := 18, catchType := 32 } [{ startPc := 0, endPc := 11, handlerPc := 22, catchType := 34 }, { startPc := 0, endPc := 11, handlerPc := 26, catchType := 20 }] hT (List.forall_mem_cons.mpr ⟨⟨by decide, by decide, "java/lang/IllegalArgumentException", hts (.classLink RL 18 "java/lang/IllegalArgumentException") (by decide +kernel), hN 3 2 (by decide) (by decide) (by decide) (by decide) (by decide)⟩, (fun _ hz => absurd hz List.not_mem_nil)⟩) (by decide) (by decide) (hts (.classLink RL 32 "java/lang/IllegalStateException") (by decide +kernel)) (hZ.2.2.2.1 3) h1 h2 h3 ?_
      refine lv_astore (lv' := [(5, .ref q9), (0, .ref (ga G 72)), (1, .long a2), (3, .int a3), (4, .ref (ga G 79))]) hx hb dL_install_18 hl (by decide) rfl (fun ls hl => ?_)
      refine lv_iconst (v := 2) hx hb dL_install_20 (by decide) ?_
      exact wr_i C hr hW h dL_install_21
    replace h := iff_ h x3
    by_cases x5 : q1.1.1 = 5
    · replace h := ift h x5
      rw [x5] at he
      subst he
      refine cx_catch hown [{ startPc := 0, endPc := 11, handlerPc := 14, catchType := 18 }, { startPc := 0, endPc := 11, handlerPc := 18, catchType := 32 }] { startPc := 0, endPc := 11, handlerPc := 22, catchType := 34 } [{ startPc := 0, endPc := 11, handlerPc := 26, catchType := 20 }] hT (List.forall_mem_cons.mpr ⟨⟨by decide, by decide, "java/lang/IllegalArgumentException", hts (.classLink RL 18 "java/lang/IllegalArgumentException") (by decide +kernel), hN 5 2 (by decide) (by decide) (by decide) (by decide) (by decide)⟩, (List.forall_mem_cons.mpr ⟨⟨by decide, by decide, "java/lang/IllegalStateException", hts (.classLink RL 32 "java/lang/IllegalStateException") (by decide +kernel), hN 5 3 (by decide) (by decide) (by decide) (by decide) (by decide)⟩, (fun _ hz => absurd hz List.not_mem_nil)⟩)⟩) (by decide) (by decide) (hts (.classLink RL 34 "java/util/NoSuchElementException") (by decide +kernel)) (hZ.2.2.2.1 5) h1 h2 h3 ?_
      refine lv_astore (lv' := [(5, .ref q9), (0, .ref (ga G 72)), (1, .long a2), (3, .int a3), (4, .ref (ga G 79))]) hx hb dL_install_22 hl (by decide) rfl (fun ls hl => ?_)
      refine lv_iconst (v := 3) hx hb dL_install_24 (by decide) ?_
      exact wr_i C hr hW h dL_install_25
    replace h := iff_ h x5
    by_cases x4 : q1.1.1 = 4
    · replace h := ift h x4
      rw [x4] at he
      subst he
      refine cx_catch hown [{ startPc := 0, endPc := 11, handlerPc := 14, catchType := 18 }, { startPc := 0, endPc := 11, handlerPc := 18, catchType := 32 }, { startPc := 0, endPc := 11, handlerPc := 22, catchType := 34 }] { startPc := 0, endPc := 11, handlerPc := 26, catchType := 20 } [] hT (List.forall_mem_cons.mpr ⟨⟨by decide, by decide, "java/lang/IllegalArgumentException", hts (.classLink RL 18 "java/lang/IllegalArgumentException") (by decide +kernel), hN 4 2 (by decide) (by decide) (by decide) (by decide) (by decide)⟩, (List.forall_mem_cons.mpr ⟨⟨by decide, by decide, "java/lang/IllegalStateException", hts (.classLink RL 32 "java/lang/IllegalStateException") (by decide +kernel), hN 4 3 (by decide) (by decide) (by decide) (by decide) (by decide)⟩, (List.forall_mem_cons.mpr ⟨⟨by decide, by decide, "java/util/NoSuchElementException", hts (.classLink RL 34 "java/util/NoSuchElementException") (by decide +kernel), hN 4 5 (by decide) (by decide) (by decide) (by decide) (by decide)⟩, (fun _ hz => absurd hz List.not_mem_nil)⟩)⟩)⟩) (by decide) (by decide) (hts (.classLink RL 20 "java/lang/UnsupportedOperationException") (by decide +kernel)) (hZ.2.2.2.1 4) h1 h2 h3 ?_
      refine lv_astore (lv' := [(5, .ref q9), (0, .ref (ga G 72)), (1, .long a2), (3, .int a3), (4, .ref (ga G 79))]) hx hb dL_install_26 hl (by decide) rfl (fun ls hl => ?_)
      refine lv_iconst (v := 4) hx hb dL_install_28 (by decide) ?_
      exact wr_i C hr hW h dL_install_29
    replace h := iff_ h x4
    exact nso h
  replace h := ift h h0
  refine lv_i2l (v := (q1.1.2.toInt64)) hx hb dL_install_9 rfl ?_
  refine wl_s C hW (k := 79) k79 (by decide) dL_install_10 (fun H locs hW => ?_)
  have hW : wH G s (up q1.2 79 0 q1.1.2) H locs := hW
  refine lv_goto (tgt := 30) hx hb dL_install_11 (by decide) ?_
  refine lv_iconst (v := 0) hx hb dL_install_30 (by decide) ?_
  exact wr_i C hr hW h dL_install_31
