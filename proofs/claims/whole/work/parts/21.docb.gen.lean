theorem yd_X0_readSignatures : yX0_readSignatures.cls = RX0 ∧ yX0_readSignatures.cls ≠ "java/lang/invoke/MethodHandle" ∧ yX0_readSignatures.cls ≠ "java/lang/invoke/VarHandle" ∧ (parseMethodDescriptor yX0_readSignatures.desc).map (fun d => d.parameters.length) = some 0 := by decide +kernel
set_option maxHeartbeats 4000000 in
set_option maxRecDepth 100000 in
theorem L_X0_readSignatures_10 {G : GG} {p : Program} {e : Env} {s : State} {m : MethodId} {args : Array Value} {below : List Frame} {meth : Method} {c : Code} {Q : State → Prop} (C : Cx G wsX0_readSignatures RX0 cX0_readSignatures 3 p s m args meth c) : ∀ (n : Nat) (k0 : Nat) (hk0 : isK k0 0) (x1 : Int32) (x2 : Int32) (M : Me) (y : Int32 × Me) (H : Heap) (locs : List Loc) (ls : Array Slot), fL_X0_readSignatures_10 n k0 x1 x2 M = some y → wH G s M H locs → lv_has ls 3 [(0, .ref (ga G k0)), (1, .int x1), (2, .int x2)] → (∀ (H : Heap) (locs : List Loc) (ls : Array Slot), wH G s y.2 H locs → lv_has ls 3 [] → W p (gl G) e (rmd 3 0 0) s m args below meth c H locs 0 0 Q (F0 m 34 ls [])) → W p (gl G) e (rmd 3 0 0) s m args below meth c H locs 0 0 Q (F0 m 10 ls []) := by
  have hx := C.1
  have hb := C.2.1
  have hown := C.2.2.2.1
  have hts := C.2.2.2.2.1
  intro n
  induction n with
  | zero => intro k0 hk0 x1 x2 M y H locs ls h; exact nso h
  | succ n ih =>
    intro k0 hk0 x1 x2 M y H locs ls h hW hl kx
    rw [fL_X0_readSignatures_10] at h
    refine lv_iload_n hx hb dX0_readSignatures_10 rfl (lv_at hl 2 rfl) ?_
    refine lv_iload_n hx hb dX0_readSignatures_11 rfl (lv_at hl 1 rfl) ?_
    refine lv_icmp_ge (tgt := 34) hx hb dX0_readSignatures_12 (by decide) (fun c1 => ?_) (fun c1 => ?_)
    · replace h := ift h c1
      cases h
      exact kx _ _ ls hW (lv_sub hl [] rfl)
    · replace h := iff_ h c1
      refine lv_aload_n hx hb dX0_readSignatures_15 rfl (lv_at hl 0 rfl) ?_
      refine lv_iconst (v := 0) hx hb dX0_readSignatures_16 (by decide) ?_
      refine lv_bipush (v := 9) hx hb dX0_readSignatures_17 (by decide) ?_
      obtain ⟨q2, hq2, h⟩ := ob h
      refine wc_Vi C hW (k := k0) (As := [.int 0, .int 9]) (rest := []) (c_X0_next G k0 hk0 0 9 M q2 hq2) hk0 rfl (by decide) (cwV 2 hts gX0_readSignatures_X0_next rfl rfl rfl yd_X0_next ⟨Nat.le_of_ble_eq_true rfl, Nat.le_of_ble_eq_true rfl⟩) rfl hl.1 rfl (Nat.le_of_ble_eq_true rfl) dX0_readSignatures_19 ⟨Nat.le_refl 0, Nat.le_refl 0⟩ (fun H locs hW => ?_)
      refine lv_pop hx hb dX0_readSignatures_22 rfl ?_
      refine lv_aload_n hx hb dX0_readSignatures_23 rfl (lv_at hl 0 rfl) ?_
      refine lv_iconst (v := 4) hx hb dX0_readSignatures_24 (by decide) ?_
      obtain ⟨q3, hq3, h⟩ := ob h
      refine wc_Vv C hW (k := k0) (As := [.int 4]) (rest := []) (c_X0_skip G k0 hk0 4 q2.2 q3 hq3) hk0 rfl (by decide) (cwV 1 hts gX0_readSignatures_X0_skip rfl rfl rfl yd_X0_skip ⟨Nat.le_of_ble_eq_true rfl, Nat.le_of_ble_eq_true rfl⟩) rfl hl.1 rfl (Nat.le_of_ble_eq_true rfl) dX0_readSignatures_25 ⟨Nat.le_refl 0, Nat.le_refl 0⟩ (fun H locs hW => ?_)
      refine lv_iinc (v := (x2 + 1)) (lv' := [(2, .int (x2 + 1)), (0, .ref (ga G k0)), (1, .int x1)]) hx hb dX0_readSignatures_28 hl (k := 2) rfl rfl (by decide) rfl (fun ls hl => ?_)
      refine lv_goto (tgt := 10) hx hb dX0_readSignatures_31 (by decide) ?_
      exact ih k0 hk0 x1 (x2 + 1) q3.2 y _ _ ls h hW (lv_sub hl [1, 2, 0] rfl) kx
set_option maxHeartbeats 4000000 in
set_option maxRecDepth 100000 in
theorem c_X0_readSignatures (G : GG) (k : Nat) (hk : isK k 0) (M : Me) (y : Int32 × Me) (h : f_X0_readSignatures k M = some y) : CV G yX0_readSignatures wsX0_readSignatures (rmd 3 0 0) [.ref (ga G k)] M y := by
  rw [f_X0_readSignatures] at h
  refine co_o (by decide) rfl rfl (Nat.le_of_ble_eq_true rfl) (fun p e s m below meth c ls C hr hW hl => ?_)
  have hx := C.1
  have hb := C.2.1
  have hown := C.2.2.2.1
  have hts := C.2.2.2.2.1
  have hl : lv_has ls 3 [(0, .ref (ga G k))] := hl
  refine lv_aload_n hx hb dX0_readSignatures_0 rfl (lv_at hl 0 rfl) ?_
  refine lv_iconst (v := 0) hx hb dX0_readSignatures_1 (by decide) ?_
  refine lv_bipush (v := 6) hx hb dX0_readSignatures_2 (by decide) ?_
  obtain ⟨q1, hq1, h⟩ := ob h
  refine wc_Vi C hW (k := k) (As := [.int 0, .int 6]) (rest := []) (c_X0_next G k hk 0 6 M q1 hq1) hk rfl (by decide) (cwV 2 hts gX0_readSignatures_X0_next rfl rfl rfl yd_X0_next ⟨Nat.le_of_ble_eq_true rfl, Nat.le_of_ble_eq_true rfl⟩) rfl hl.1 rfl (Nat.le_of_ble_eq_true rfl) dX0_readSignatures_4 ⟨Nat.le_refl 0, Nat.le_refl 0⟩ (fun H locs hW => ?_)
  refine lv_istore_n (lv' := [(1, .int q1.1), (0, .ref (ga G k))]) hx hb dX0_readSignatures_7 rfl hl (by decide) rfl (fun ls hl => ?_)
  refine lv_iconst (v := 0) hx hb dX0_readSignatures_8 (by decide) ?_
  refine lv_istore_n (lv' := [(2, .int 0), (1, .int q1.1), (0, .ref (ga G k))]) hx hb dX0_readSignatures_9 rfl hl (by decide) rfl (fun ls hl => ?_)
  obtain ⟨q4, hq4, h⟩ := ob h
  refine L_X0_readSignatures_10 C 200 k hk q1.1 0 q1.2 q4 _ _ ls hq4 hW (lv_sub hl [2, 1, 0] rfl) (fun H locs ls hW hl => ?_)
  exact wr_v C hr hW h dX0_readSignatures_34
theorem yd_X0_read : yX0_read.cls = RX0 ∧ yX0_read.cls ≠ "java/lang/invoke/MethodHandle" ∧ yX0_read.cls ≠ "java/lang/invoke/VarHandle" ∧ (parseMethodDescriptor yX0_read.desc).map (fun d => d.parameters.length) = some 1 := by decide +kernel
set_option maxHeartbeats 4000000 in
set_option maxRecDepth 100000 in
theorem c_X0_read (G : GG) (k : Nat) (hk : isK k 0) (b1 : Nat) (hb1 : isK b1 1) (M : Me) (y : Int32 × Me) (h : f_X0_read k b1 M = some y) : CV G yX0_read wsX0_read (rmd 5 0 0) [.ref (ga G k), .ref (ga G b1)] M y := by
  rw [f_X0_read] at h
  refine co_o (by decide) rfl rfl (Nat.le_of_ble_eq_true rfl) (fun p e s m below meth c ls C hr hW hl => ?_)
  have hx := C.1
  have hb := C.2.1
  have hown := C.2.2.2.1
  have hts := C.2.2.2.2.1
  have inX0 : ∀ w ∈ wsX00, w ∈ wsX0_read := by decide +kernel
  have hL14 := hts (.fieldLink RX0 14 "TrustedUpdates$Document" "row" "LTrustedUpdates$Row;") (by decide +kernel)
  have hL33 := hts (.fieldLink RX0 33 "TrustedUpdates$Document" "whole" "Z") (by decide +kernel)
  have hL37 := hts (.fieldLink RX0 37 "TrustedUpdates$Document" "bare" "Z") (by decide +kernel)
  have hL50 := hts (.fieldLink RX0 50 "TrustedUpdates$Document" "signedSize" "I") (by decide +kernel)
  have hL61 := hts (.fieldLink RX0 61 "TrustedUpdates$Document" "place" "I") (by decide +kernel)
  have hL64 := hts (.fieldLink RX0 64 "TrustedUpdates$Document" "sound" "Z") (by decide +kernel)
  have hl : lv_has ls 2 [(0, .ref (ga G k)), (1, .ref (ga G b1))] := hl
  refine lv_aload_n hx hb dX0_read_0 rfl (lv_at hl 0 rfl) ?_
  refine wg_r C hW (k := k) (ci := 0) (j := 0) (q := (k + 1)) hk rfl ⟨by decide, rfl⟩ inX0 (by decide) (rfq hk rfl) hL14 (fun _ h9 => h9) dX0_read_1 ?_
  refine lv_aload_n hx hb dX0_read_4 rfl (lv_at hl 1 rfl) ?_
  obtain ⟨q1, hq1, h⟩ := ob h
  refine wc_Vv C hW (k := (k + 1)) (As := [.ref (ga G b1)]) (rest := []) (c_X1_become G (k + 1) (kd_r hk) b1 hb1 M q1 hq1) (kd_r hk) rfl (by decide) (cwV 1 hts gX0_read_X1_become rfl rfl rfl yd_X1_become ⟨Nat.le_of_ble_eq_true rfl, Nat.le_of_ble_eq_true rfl⟩) rfl hl.1 rfl (Nat.le_of_ble_eq_true rfl) dX0_read_5 ⟨Nat.le_refl 0, Nat.le_refl 0⟩ (fun H locs hW => ?_)
  refine lv_aload_n hx hb dX0_read_8 rfl (lv_at hl 0 rfl) ?_
  refine lv_iconst (v := 0) hx hb dX0_read_9 (by decide) ?_
  refine wp_t C hW (k := k) (ci := 0) (j := 5) (ty := .int) rfl rfl hk rfl ⟨by decide, rfl⟩ inX0 tyX0 tyX0_ok nmX0 (by decide) (rfq hk rfl) hL61 (fun _ h9 => h9) rfl rfl dX0_read_10 (fun H locs hW => ?_)
  refine lv_aload_n hx hb dX0_read_13 rfl (lv_at hl 0 rfl) ?_
  refine lv_iconst (v := 1) hx hb dX0_read_14 (by decide) ?_
  refine wp_t C hW (k := k) (ci := 0) (j := 6) (ty := .boolean) (nar_b (Or.inr rfl)).1 (nar_b (Or.inr rfl)).2 hk rfl ⟨by decide, rfl⟩ inX0 tyX0 tyX0_ok nmX0 (by decide) (rfq hk rfl) hL64 (fun _ h9 => h9) rfl rfl dX0_read_15 (fun H locs hW => ?_)
  refine lv_aload_n hx hb dX0_read_18 rfl (lv_at hl 0 rfl) ?_
  obtain ⟨q2, hq2, h⟩ := ob h
  refine wc_Vv C hW (k := k) (As := []) (rest := []) (c_X0_readSigned G k hk (up (up q1.2 k 5 0) k 6 1) q2 hq2) hk rfl (by decide) (cwV 0 hts gX0_read_X0_readSigned rfl rfl rfl yd_X0_readSigned ⟨Nat.le_of_ble_eq_true rfl, Nat.le_of_ble_eq_true rfl⟩) rfl hl.1 rfl (Nat.le_of_ble_eq_true rfl) dX0_read_19 ⟨Nat.le_refl 0, Nat.le_refl 0⟩ (fun H locs hW => ?_)
  refine lv_aload_n hx hb dX0_read_22 rfl (lv_at hl 0 rfl) ?_
  refine lv_aload_n hx hb dX0_read_23 rfl (lv_at hl 0 rfl) ?_
  refine wg_i C hW (k := k) (ci := 0) (j := 5) hk rfl ⟨by decide, rfl⟩ inX0 (by decide) (rfq hk rfl) (v := (q2.2 k 5)) rfl hL61 (fun _ h9 => h9) dX0_read_24 ?_
  refine wp_t C hW (k := k) (ci := 0) (j := 14) (ty := .int) rfl rfl hk rfl ⟨by decide, rfl⟩ inX0 tyX0 tyX0_ok nmX0 (by decide) (rfq hk rfl) hL50 (fun _ h9 => h9) rfl rfl dX0_read_27 (fun H locs hW => ?_)
  refine lv_aload_n hx hb dX0_read_30 rfl (lv_at hl 0 rfl) ?_
  refine lv_aload_n hx hb dX0_read_31 rfl (lv_at hl 0 rfl) ?_
  refine wg_i C hW (k := k) (ci := 0) (j := 6) hk rfl ⟨by decide, rfl⟩ inX0 (by decide) (rfq hk rfl) (v := (q2.2 k 6)) (up_j (by decide)) hL64 (fun _ h9 => h9) dX0_read_32 ?_
  refine lv_if_eq (tgt := 56) hx hb dX0_read_35 (by decide) (fun c1 => ?_) (fun c1 => ?_)
  · replace h := ift h c1
    refine lv_iconst (v := 0) hx hb dX0_read_56 (by decide) ?_
    refine wp_t C hW (k := k) (ci := 0) (j := 7) (ty := .boolean) (nar_b (Or.inl rfl)).1 (nar_b (Or.inl rfl)).2 hk rfl ⟨by decide, rfl⟩ inX0 tyX0 tyX0_ok nmX0 (by decide) (rfq hk rfl) hL37 (fun _ h9 => h9) rfl rfl dX0_read_57 (fun H locs hW => ?_)
    refine lv_aload_n hx hb dX0_read_60 rfl (lv_at hl 0 rfl) ?_
    obtain ⟨q3, hq3, h⟩ := ob h
    refine wc_Vv C hW (k := k) (As := []) (rest := []) (c_X0_readSignatures G k hk (up (up q2.2 k 14 (q2.2 k 5)) k 7 0) q3 hq3) hk rfl (by decide) (cwV 0 hts gX0_read_X0_readSignatures rfl rfl rfl yd_X0_readSignatures ⟨Nat.le_of_ble_eq_true rfl, Nat.le_of_ble_eq_true rfl⟩) rfl hl.1 rfl (Nat.le_of_ble_eq_true rfl) dX0_read_61 ⟨Nat.le_refl 0, Nat.le_refl 0⟩ (fun H locs hW => ?_)
    refine lv_aload_n hx hb dX0_read_64 rfl (lv_at hl 0 rfl) ?_
    refine lv_aload_n hx hb dX0_read_65 rfl (lv_at hl 0 rfl) ?_
    refine wg_i C hW (k := k) (ci := 0) (j := 6) hk rfl ⟨by decide, rfl⟩ inX0 (by decide) (rfq hk rfl) (v := (q3.2 k 6)) rfl hL64 (fun _ h9 => h9) dX0_read_66 ?_
    refine lv_if_eq (tgt := 90) hx hb dX0_read_69 (by decide) (fun c2 => ?_) (fun c2 => ?_)
    · replace h := ift h c2
      refine lv_iconst (v := 0) hx hb dX0_read_90 (by decide) ?_
      refine wp_t C hW (k := k) (ci := 0) (j := 8) (ty := .boolean) (nar_b (Or.inl rfl)).1 (nar_b (Or.inl rfl)).2 hk rfl ⟨by decide, rfl⟩ inX0 tyX0 tyX0_ok nmX0 (by decide) (rfq hk rfl) hL33 (fun _ h9 => h9) rfl rfl dX0_read_91 (fun H locs hW => ?_)
      exact wr_v C hr hW h dX0_read_94
    · replace h := iff_ h c2
      refine lv_aload_n hx hb dX0_read_72 rfl (lv_at hl 0 rfl) ?_
      refine wg_i C hW (k := k) (ci := 0) (j := 5) hk rfl ⟨by decide, rfl⟩ inX0 (by decide) (rfq hk rfl) (v := (q3.2 k 5)) rfl hL61 (fun _ h9 => h9) dX0_read_73 ?_
      refine lv_aload_n hx hb dX0_read_76 rfl (lv_at hl 0 rfl) ?_
      refine wg_r C hW (k := k) (ci := 0) (j := 0) (q := (k + 1)) hk rfl ⟨by decide, rfl⟩ inX0 (by decide) (rfq hk rfl) hL14 (fun _ h9 => h9) dX0_read_77 ?_
      obtain ⟨q4, hq4, h⟩ := ob h
      refine wc_Vi C hW (k := (k + 1)) (As := []) (rest := [.int (q3.2 k 5), .ref (ga G k)]) (c_X1_size G (k + 1) (kd_r hk) q3.2 q4 hq4) (kd_r hk) rfl (by decide) (cwV 0 hts gX0_read_X1_size rfl rfl rfl yd_X1_size ⟨Nat.le_of_ble_eq_true rfl, Nat.le_of_ble_eq_true rfl⟩) rfl hl.1 rfl (Nat.le_of_ble_eq_true rfl) dX0_read_80 ⟨Nat.le_refl 0, Nat.le_refl 0⟩ (fun H locs hW => ?_)
      refine lv_icmp_ne (tgt := 90) hx hb dX0_read_83 (by decide) (fun c3 => ?_) (fun c3 => ?_)
      · replace h := iff_ h c3
        refine lv_iconst (v := 0) hx hb dX0_read_90 (by decide) ?_
        refine wp_t C hW (k := k) (ci := 0) (j := 8) (ty := .boolean) (nar_b (Or.inl rfl)).1 (nar_b (Or.inl rfl)).2 hk rfl ⟨by decide, rfl⟩ inX0 tyX0 tyX0_ok nmX0 (by decide) (rfq hk rfl) hL33 (fun _ h9 => h9) rfl rfl dX0_read_91 (fun H locs hW => ?_)
        exact wr_v C hr hW h dX0_read_94
      · replace h := ift h c3
        refine lv_iconst (v := 1) hx hb dX0_read_86 (by decide) ?_
        refine lv_goto (tgt := 91) hx hb dX0_read_87 (by decide) ?_
        refine wp_t C hW (k := k) (ci := 0) (j := 8) (ty := .boolean) (nar_b (Or.inr rfl)).1 (nar_b (Or.inr rfl)).2 hk rfl ⟨by decide, rfl⟩ inX0 tyX0 tyX0_ok nmX0 (by decide) (rfq hk rfl) hL33 (fun _ h9 => h9) rfl rfl dX0_read_91 (fun H locs hW => ?_)
        exact wr_v C hr hW h dX0_read_94
  · replace h := iff_ h c1
    refine lv_aload_n hx hb dX0_read_38 rfl (lv_at hl 0 rfl) ?_
    refine wg_i C hW (k := k) (ci := 0) (j := 5) hk rfl ⟨by decide, rfl⟩ inX0 (by decide) (rfq hk rfl) (v := (q2.2 k 5)) (up_j (by decide)) hL61 (fun _ h9 => h9) dX0_read_39 ?_
    refine lv_aload_n hx hb dX0_read_42 rfl (lv_at hl 0 rfl) ?_
    refine wg_r C hW (k := k) (ci := 0) (j := 0) (q := (k + 1)) hk rfl ⟨by decide, rfl⟩ inX0 (by decide) (rfq hk rfl) hL14 (fun _ h9 => h9) dX0_read_43 ?_
    obtain ⟨q5, hq5, h⟩ := ob h
    refine wc_Vi C hW (k := (k + 1)) (As := []) (rest := [.int (q2.2 k 5), .ref (ga G k)]) (c_X1_size G (k + 1) (kd_r hk) (up q2.2 k 14 (q2.2 k 5)) q5 hq5) (kd_r hk) rfl (by decide) (cwV 0 hts gX0_read_X1_size rfl rfl rfl yd_X1_size ⟨Nat.le_of_ble_eq_true rfl, Nat.le_of_ble_eq_true rfl⟩) rfl hl.1 rfl (Nat.le_of_ble_eq_true rfl) dX0_read_46 ⟨Nat.le_refl 0, Nat.le_refl 0⟩ (fun H locs hW => ?_)
    refine lv_icmp_ne (tgt := 56) hx hb dX0_read_49 (by decide) (fun c4 => ?_) (fun c4 => ?_)
    · replace h := iff_ h c4
      refine lv_iconst (v := 0) hx hb dX0_read_56 (by decide) ?_
      refine wp_t C hW (k := k) (ci := 0) (j := 7) (ty := .boolean) (nar_b (Or.inl rfl)).1 (nar_b (Or.inl rfl)).2 hk rfl ⟨by decide, rfl⟩ inX0 tyX0 tyX0_ok nmX0 (by decide) (rfq hk rfl) hL37 (fun _ h9 => h9) rfl rfl dX0_read_57 (fun H locs hW => ?_)
      refine lv_aload_n hx hb dX0_read_60 rfl (lv_at hl 0 rfl) ?_
      obtain ⟨q6, hq6, h⟩ := ob h
      refine wc_Vv C hW (k := k) (As := []) (rest := []) (c_X0_readSignatures G k hk (up q5.2 k 7 0) q6 hq6) hk rfl (by decide) (cwV 0 hts gX0_read_X0_readSignatures rfl rfl rfl yd_X0_readSignatures ⟨Nat.le_of_ble_eq_true rfl, Nat.le_of_ble_eq_true rfl⟩) rfl hl.1 rfl (Nat.le_of_ble_eq_true rfl) dX0_read_61 ⟨Nat.le_refl 0, Nat.le_refl 0⟩ (fun H locs hW => ?_)
      refine lv_aload_n hx hb dX0_read_64 rfl (lv_at hl 0 rfl) ?_
      refine lv_aload_n hx hb dX0_read_65 rfl (lv_at hl 0 rfl) ?_
      refine wg_i C hW (k := k) (ci := 0) (j := 6) hk rfl ⟨by decide, rfl⟩ inX0 (by decide) (rfq hk rfl) (v := (q6.2 k 6)) rfl hL64 (fun _ h9 => h9) dX0_read_66 ?_
      refine lv_if_eq (tgt := 90) hx hb dX0_read_69 (by decide) (fun c5 => ?_) (fun c5 => ?_)
      · replace h := ift h c5
        refine lv_iconst (v := 0) hx hb dX0_read_90 (by decide) ?_
        refine wp_t C hW (k := k) (ci := 0) (j := 8) (ty := .boolean) (nar_b (Or.inl rfl)).1 (nar_b (Or.inl rfl)).2 hk rfl ⟨by decide, rfl⟩ inX0 tyX0 tyX0_ok nmX0 (by decide) (rfq hk rfl) hL33 (fun _ h9 => h9) rfl rfl dX0_read_91 (fun H locs hW => ?_)
        exact wr_v C hr hW h dX0_read_94
      · replace h := iff_ h c5
        refine lv_aload_n hx hb dX0_read_72 rfl (lv_at hl 0 rfl) ?_
        refine wg_i C hW (k := k) (ci := 0) (j := 5) hk rfl ⟨by decide, rfl⟩ inX0 (by decide) (rfq hk rfl) (v := (q6.2 k 5)) rfl hL61 (fun _ h9 => h9) dX0_read_73 ?_
        refine lv_aload_n hx hb dX0_read_76 rfl (lv_at hl 0 rfl) ?_
        refine wg_r C hW (k := k) (ci := 0) (j := 0) (q := (k + 1)) hk rfl ⟨by decide, rfl⟩ inX0 (by decide) (rfq hk rfl) hL14 (fun _ h9 => h9) dX0_read_77 ?_
        obtain ⟨q7, hq7, h⟩ := ob h
        refine wc_Vi C hW (k := (k + 1)) (As := []) (rest := [.int (q6.2 k 5), .ref (ga G k)]) (c_X1_size G (k + 1) (kd_r hk) q6.2 q7 hq7) (kd_r hk) rfl (by decide) (cwV 0 hts gX0_read_X1_size rfl rfl rfl yd_X1_size ⟨Nat.le_of_ble_eq_true rfl, Nat.le_of_ble_eq_true rfl⟩) rfl hl.1 rfl (Nat.le_of_ble_eq_true rfl) dX0_read_80 ⟨Nat.le_refl 0, Nat.le_refl 0⟩ (fun H locs hW => ?_)
        refine lv_icmp_ne (tgt := 90) hx hb dX0_read_83 (by decide) (fun c6 => ?_) (fun c6 => ?_)
        · replace h := iff_ h c6
          refine lv_iconst (v := 0) hx hb dX0_read_90 (by decide) ?_
          refine wp_t C hW (k := k) (ci := 0) (j := 8) (ty := .boolean) (nar_b (Or.inl rfl)).1 (nar_b (Or.inl rfl)).2 hk rfl ⟨by decide, rfl⟩ inX0 tyX0 tyX0_ok nmX0 (by decide) (rfq hk rfl) hL33 (fun _ h9 => h9) rfl rfl dX0_read_91 (fun H locs hW => ?_)
          exact wr_v C hr hW h dX0_read_94
        · replace h := ift h c6
          refine lv_iconst (v := 1) hx hb dX0_read_86 (by decide) ?_
          refine lv_goto (tgt := 91) hx hb dX0_read_87 (by decide) ?_
          refine wp_t C hW (k := k) (ci := 0) (j := 8) (ty := .boolean) (nar_b (Or.inr rfl)).1 (nar_b (Or.inr rfl)).2 hk rfl ⟨by decide, rfl⟩ inX0 tyX0 tyX0_ok nmX0 (by decide) (rfq hk rfl) hL33 (fun _ h9 => h9) rfl rfl dX0_read_91 (fun H locs hW => ?_)
          exact wr_v C hr hW h dX0_read_94
    · replace h := ift h c4
      refine lv_iconst (v := 1) hx hb dX0_read_52 (by decide) ?_
      refine lv_goto (tgt := 57) hx hb dX0_read_53 (by decide) ?_
      refine wp_t C hW (k := k) (ci := 0) (j := 7) (ty := .boolean) (nar_b (Or.inr rfl)).1 (nar_b (Or.inr rfl)).2 hk rfl ⟨by decide, rfl⟩ inX0 tyX0 tyX0_ok nmX0 (by decide) (rfq hk rfl) hL37 (fun _ h9 => h9) rfl rfl dX0_read_57 (fun H locs hW => ?_)
      refine lv_aload_n hx hb dX0_read_60 rfl (lv_at hl 0 rfl) ?_
      obtain ⟨q8, hq8, h⟩ := ob h
      refine wc_Vv C hW (k := k) (As := []) (rest := []) (c_X0_readSignatures G k hk (up q5.2 k 7 1) q8 hq8) hk rfl (by decide) (cwV 0 hts gX0_read_X0_readSignatures rfl rfl rfl yd_X0_readSignatures ⟨Nat.le_of_ble_eq_true rfl, Nat.le_of_ble_eq_true rfl⟩) rfl hl.1 rfl (Nat.le_of_ble_eq_true rfl) dX0_read_61 ⟨Nat.le_refl 0, Nat.le_refl 0⟩ (fun H locs hW => ?_)
      refine lv_aload_n hx hb dX0_read_64 rfl (lv_at hl 0 rfl) ?_
      refine lv_aload_n hx hb dX0_read_65 rfl (lv_at hl 0 rfl) ?_
      refine wg_i C hW (k := k) (ci := 0) (j := 6) hk rfl ⟨by decide, rfl⟩ inX0 (by decide) (rfq hk rfl) (v := (q8.2 k 6)) rfl hL64 (fun _ h9 => h9) dX0_read_66 ?_
      refine lv_if_eq (tgt := 90) hx hb dX0_read_69 (by decide) (fun c7 => ?_) (fun c7 => ?_)
      · replace h := ift h c7
        refine lv_iconst (v := 0) hx hb dX0_read_90 (by decide) ?_
        refine wp_t C hW (k := k) (ci := 0) (j := 8) (ty := .boolean) (nar_b (Or.inl rfl)).1 (nar_b (Or.inl rfl)).2 hk rfl ⟨by decide, rfl⟩ inX0 tyX0 tyX0_ok nmX0 (by decide) (rfq hk rfl) hL33 (fun _ h9 => h9) rfl rfl dX0_read_91 (fun H locs hW => ?_)
        exact wr_v C hr hW h dX0_read_94
      · replace h := iff_ h c7
        refine lv_aload_n hx hb dX0_read_72 rfl (lv_at hl 0 rfl) ?_
        refine wg_i C hW (k := k) (ci := 0) (j := 5) hk rfl ⟨by decide, rfl⟩ inX0 (by decide) (rfq hk rfl) (v := (q8.2 k 5)) rfl hL61 (fun _ h9 => h9) dX0_read_73 ?_
        refine lv_aload_n hx hb dX0_read_76 rfl (lv_at hl 0 rfl) ?_
        refine wg_r C hW (k := k) (ci := 0) (j := 0) (q := (k + 1)) hk rfl ⟨by decide, rfl⟩ inX0 (by decide) (rfq hk rfl) hL14 (fun _ h9 => h9) dX0_read_77 ?_
        obtain ⟨q9, hq9, h⟩ := ob h
        refine wc_Vi C hW (k := (k + 1)) (As := []) (rest := [.int (q8.2 k 5), .ref (ga G k)]) (c_X1_size G (k + 1) (kd_r hk) q8.2 q9 hq9) (kd_r hk) rfl (by decide) (cwV 0 hts gX0_read_X1_size rfl rfl rfl yd_X1_size ⟨Nat.le_of_ble_eq_true rfl, Nat.le_of_ble_eq_true rfl⟩) rfl hl.1 rfl (Nat.le_of_ble_eq_true rfl) dX0_read_80 ⟨Nat.le_refl 0, Nat.le_refl 0⟩ (fun H locs hW => ?_)
        refine lv_icmp_ne (tgt := 90) hx hb dX0_read_83 (by decide) (fun c8 => ?_) (fun c8 => ?_)
        · replace h := iff_ h c8
          refine lv_iconst (v := 0) hx hb dX0_read_90 (by decide) ?_
          refine wp_t C hW (k := k) (ci := 0) (j := 8) (ty := .boolean) (nar_b (Or.inl rfl)).1 (nar_b (Or.inl rfl)).2 hk rfl ⟨by decide, rfl⟩ inX0 tyX0 tyX0_ok nmX0 (by decide) (rfq hk rfl) hL33 (fun _ h9 => h9) rfl rfl dX0_read_91 (fun H locs hW => ?_)
          exact wr_v C hr hW h dX0_read_94
        · replace h := ift h c8
          refine lv_iconst (v := 1) hx hb dX0_read_86 (by decide) ?_
          refine lv_goto (tgt := 91) hx hb dX0_read_87 (by decide) ?_
          refine wp_t C hW (k := k) (ci := 0) (j := 8) (ty := .boolean) (nar_b (Or.inr rfl)).1 (nar_b (Or.inr rfl)).2 hk rfl ⟨by decide, rfl⟩ inX0 tyX0 tyX0_ok nmX0 (by decide) (rfq hk rfl) hL33 (fun _ h9 => h9) rfl rfl dX0_read_91 (fun H locs hW => ?_)
          exact wr_v C hr hW h dX0_read_94
theorem yd_X0_signatureOf : yX0_signatureOf.cls = RX0 ∧ yX0_signatureOf.cls ≠ "java/lang/invoke/MethodHandle" ∧ yX0_signatureOf.cls ≠ "java/lang/invoke/VarHandle" ∧ (parseMethodDescriptor yX0_signatureOf.desc).map (fun d => d.parameters.length) = some 1 := by decide +kernel
set_option maxHeartbeats 4000000 in
set_option maxRecDepth 100000 in
theorem c_X0_signatureOf (G : GG) (k : Nat) (hk : isK k 0) (a1 : Int32) (M : Me) (y : Int32 × Me) (h : f_X0_signatureOf k a1 M = some y) : CI G yX0_signatureOf wsX0_signatureOf (rmd 1 0 0) [.ref (ga G k), .int a1] M y := by
  rw [f_X0_signatureOf] at h
  refine co_o (by decide) rfl rfl (Nat.le_of_ble_eq_true rfl) (fun p e s m below meth c ls C hr hW hl => ?_)
  have hx := C.1
  have hb := C.2.1
  have hown := C.2.2.2.1
  have hts := C.2.2.2.2.1
  have inX0 : ∀ w ∈ wsX00, w ∈ wsX0_signatureOf := by decide +kernel
  have hL14 := hts (.fieldLink RX0 14 "TrustedUpdates$Document" "row" "LTrustedUpdates$Row;") (by decide +kernel)
  have hL50 := hts (.fieldLink RX0 50 "TrustedUpdates$Document" "signedSize" "I") (by decide +kernel)
  have hl : lv_has ls 2 [(0, .ref (ga G k)), (1, .int a1)] := hl
  refine lv_aload_n hx hb dX0_signatureOf_0 rfl (lv_at hl 0 rfl) ?_
  refine wg_r C hW (k := k) (ci := 0) (j := 0) (q := (k + 1)) hk rfl ⟨by decide, rfl⟩ inX0 (by decide) (rfq hk rfl) hL14 (fun _ h9 => h9) dX0_signatureOf_1 ?_
  refine lv_aload_n hx hb dX0_signatureOf_4 rfl (lv_at hl 0 rfl) ?_
  refine wg_i C hW (k := k) (ci := 0) (j := 14) hk rfl ⟨by decide, rfl⟩ inX0 (by decide) (rfq hk rfl) (v := (M k 14)) rfl hL50 (fun _ h9 => h9) dX0_signatureOf_5 ?_
  refine lv_iload_n hx hb dX0_signatureOf_8 rfl (lv_at hl 1 rfl) ?_
  refine lv_iconst (v := 1) hx hb dX0_signatureOf_9 (by decide) ?_
  refine lv_iadd hx hb dX0_signatureOf_10 ?_
  obtain ⟨q1, hq1, h⟩ := ob h
  refine wc_Vi C hW (k := (k + 1)) (As := [.int (M k 14), .int (a1 + 1)]) (rest := []) (c_X1_mixOfFirst G (k + 1) (kd_r hk) (M k 14) (a1 + 1) M q1 hq1) (kd_r hk) rfl (by decide) (cwV 2 hts gX0_signatureOf_X1_mixOfFirst rfl rfl rfl yd_X1_mixOfFirst ⟨Nat.le_of_ble_eq_true rfl, Nat.le_of_ble_eq_true rfl⟩) rfl hl.1 rfl (Nat.le_of_ble_eq_true rfl) dX0_signatureOf_11 ⟨Nat.le_refl 0, Nat.le_refl 0⟩ (fun H locs hW => ?_)
  exact wr_i C hr hW h dX0_signatureOf_14
theorem yd_X0_hasSignatureOf : yX0_hasSignatureOf.cls = RX0 ∧ yX0_hasSignatureOf.cls ≠ "java/lang/invoke/MethodHandle" ∧ yX0_hasSignatureOf.cls ≠ "java/lang/invoke/VarHandle" ∧ (parseMethodDescriptor yX0_hasSignatureOf.desc).map (fun d => d.parameters.length) = some 1 := by decide +kernel
set_option maxHeartbeats 4000000 in
set_option maxRecDepth 100000 in
theorem L_X0_hasSignatureOf_14 {G : GG} {p : Program} {e : Env} {s : State} {m : MethodId} {args : Array Value} {below : List Frame} {meth : Method} {c : Code} (C : Cx G wsX0_hasSignatureOf RX0 cX0_hasSignatureOf 6 p s m args meth c) (hr : meth.sig.returnType = (some .boolean)) : ∀ (n : Nat) (k0 : Nat) (hk0 : isK k0 0) (x1 : Int32) (x2 : Int32) (x3 : Int32) (x4 : Int32) (M : Me) (y : Int32 × Me) (H : Heap) (locs : List Loc) (ls : Array Slot), fL_X0_hasSignatureOf_14 n k0 x1 x2 x3 x4 M = some y → wH G s M H locs → lv_has ls 6 [(0, .ref (ga G k0)), (1, .int x1), (2, .int x2), (3, .int x3), (4, .int x4)] → W p (gl G) e (rmd 2 0 0) s m args below meth c H locs 0 0 (MQ below (Qi G y) args s 0 0 (wA G)) (F0 m 14 ls []) := by
  have hx := C.1
  have hb := C.2.1
  have hown := C.2.2.2.1
  have hts := C.2.2.2.2.1
  have inX0 : ∀ w ∈ wsX00, w ∈ wsX0_hasSignatureOf := by decide +kernel
  have hL14 := hts (.fieldLink RX0 14 "TrustedUpdates$Document" "row" "LTrustedUpdates$Row;") (by decide +kernel)
  have hL50 := hts (.fieldLink RX0 50 "TrustedUpdates$Document" "signedSize" "I") (by decide +kernel)
  intro n
  induction n with
  | zero => intro k0 hk0 x1 x2 x3 x4 M y H locs ls h; exact nso h
  | succ n ih =>
    intro k0 hk0 x1 x2 x3 x4 M y H locs ls h hW hl
    rw [fL_X0_hasSignatureOf_14] at h
    refine lv_iload hx hb dX0_hasSignatureOf_14 (lv_at hl 4 rfl) ?_
    refine lv_iload_n hx hb dX0_hasSignatureOf_16 rfl (lv_at hl 3 rfl) ?_
    refine lv_icmp_ge (tgt := 69) hx hb dX0_hasSignatureOf_17 (by decide) (fun c1 => ?_) (fun c1 => ?_)
    · replace h := ift h c1
      refine lv_iconst (v := 0) hx hb dX0_hasSignatureOf_69 (by decide) ?_
      exact wr_z C hr (Or.inl rfl) hW h dX0_hasSignatureOf_70
    · replace h := iff_ h c1
      refine lv_aload_n hx hb dX0_hasSignatureOf_20 rfl (lv_at hl 0 rfl) ?_
      refine wg_i C hW (k := k0) (ci := 0) (j := 14) hk0 rfl ⟨by decide, rfl⟩ inX0 (by decide) (rfq hk0 rfl) (v := (M k0 14)) rfl hL50 (fun _ h9 => h9) dX0_hasSignatureOf_21 ?_
      refine lv_iconst (v := 1) hx hb dX0_hasSignatureOf_24 (by decide) ?_
      refine lv_iadd hx hb dX0_hasSignatureOf_25 ?_
      refine lv_iconst (v := 5) hx hb dX0_hasSignatureOf_26 (by decide) ?_
      refine lv_iload hx hb dX0_hasSignatureOf_27 (lv_at hl 4 rfl) ?_
      refine lv_imul hx hb dX0_hasSignatureOf_29 ?_
      refine lv_iadd hx hb dX0_hasSignatureOf_30 ?_
      refine lv_istore (lv' := [(5, .int (((M k0 14) + 1) + (5 * x4))), (0, .ref (ga G k0)), (1, .int x1), (2, .int x2), (3, .int x3), (4, .int x4)]) hx hb dX0_hasSignatureOf_31 hl (by decide) rfl (fun ls hl => ?_)
      refine lv_aload_n hx hb dX0_hasSignatureOf_33 rfl (lv_at hl 1 rfl) ?_
      refine wg_r C hW (k := k0) (ci := 0) (j := 0) (q := (k0 + 1)) hk0 rfl ⟨by decide, rfl⟩ inX0 (by decide) (rfq hk0 rfl) hL14 (fun _ h9 => h9) dX0_hasSignatureOf_34 ?_
      refine lv_iload hx hb dX0_hasSignatureOf_37 (lv_at hl 0 rfl) ?_
      obtain ⟨q3, hq3, h⟩ := ob h
      refine wc_Vi C hW (k := (k0 + 1)) (As := [.int (((M k0 14) + 1) + (5 * x4))]) (rest := []) (c_X1_byteAt G (k0 + 1) (kd_r hk0) (((M k0 14) + 1) + (5 * x4)) M q3 hq3) (kd_r hk0) rfl (by decide) (cwV 1 hts gX0_hasSignatureOf_X1_byteAt rfl rfl rfl yd_X1_byteAt ⟨Nat.le_of_ble_eq_true rfl, Nat.le_of_ble_eq_true rfl⟩) rfl hl.1 rfl (Nat.le_of_ble_eq_true rfl) dX0_hasSignatureOf_39 ⟨Nat.le_refl 0, Nat.le_refl 0⟩ (fun H locs hW => ?_)
      refine lv_iload_n hx hb dX0_hasSignatureOf_42 rfl (lv_at hl 2 rfl) ?_
      refine lv_icmp_ne (tgt := 63) hx hb dX0_hasSignatureOf_43 (by decide) (fun c2 => ?_) (fun c2 => ?_)
      · replace h := iff_ h c2
        refine lv_iinc (v := (x4 + 1)) (lv' := [(4, .int (x4 + 1)), (5, .int (((M k0 14) + 1) + (5 * x4))), (0, .ref (ga G k0)), (1, .int x1), (2, .int x2), (3, .int x3)]) hx hb dX0_hasSignatureOf_63 hl (k := 5) rfl rfl (by decide) rfl (fun ls hl => ?_)
        refine lv_goto (tgt := 14) hx hb dX0_hasSignatureOf_66 (by decide) ?_
        exact ih k0 hk0 x1 x2 x3 (x4 + 1) q3.2 y _ _ ls h hW (lv_sub hl [2, 3, 4, 5, 0] rfl)
      · replace h := ift h c2
        refine lv_aload_n hx hb dX0_hasSignatureOf_46 rfl (lv_at hl 1 rfl) ?_
        refine wg_r C hW (k := k0) (ci := 0) (j := 0) (q := (k0 + 1)) hk0 rfl ⟨by decide, rfl⟩ inX0 (by decide) (rfq hk0 rfl) hL14 (fun _ h9 => h9) dX0_hasSignatureOf_47 ?_
        refine lv_iload hx hb dX0_hasSignatureOf_50 (lv_at hl 0 rfl) ?_
        refine lv_iconst (v := 1) hx hb dX0_hasSignatureOf_52 (by decide) ?_
        refine lv_iadd hx hb dX0_hasSignatureOf_53 ?_
        obtain ⟨q4, hq4, h⟩ := ob h
        refine wc_Vi C hW (k := (k0 + 1)) (As := [.int ((((M k0 14) + 1) + (5 * x4)) + 1)]) (rest := []) (c_X1_wordAt G (k0 + 1) (kd_r hk0) ((((M k0 14) + 1) + (5 * x4)) + 1) q3.2 q4 hq4) (kd_r hk0) rfl (by decide) (cwV 1 hts gX0_hasSignatureOf_X1_wordAt rfl rfl rfl yd_X1_wordAt ⟨Nat.le_of_ble_eq_true rfl, Nat.le_of_ble_eq_true rfl⟩) rfl hl.1 rfl (Nat.le_of_ble_eq_true rfl) dX0_hasSignatureOf_54 ⟨Nat.le_refl 0, Nat.le_refl 0⟩ (fun H locs hW => ?_)
        refine lv_iload_n hx hb dX0_hasSignatureOf_57 rfl (lv_at hl 3 rfl) ?_
        refine lv_icmp_ne (tgt := 63) hx hb dX0_hasSignatureOf_58 (by decide) (fun c3 => ?_) (fun c3 => ?_)
        · replace h := iff_ h c3
          refine lv_iinc (v := (x4 + 1)) (lv' := [(4, .int (x4 + 1)), (5, .int (((M k0 14) + 1) + (5 * x4))), (0, .ref (ga G k0)), (1, .int x1), (2, .int x2), (3, .int x3)]) hx hb dX0_hasSignatureOf_63 hl (k := 5) rfl rfl (by decide) rfl (fun ls hl => ?_)
          refine lv_goto (tgt := 14) hx hb dX0_hasSignatureOf_66 (by decide) ?_
          exact ih k0 hk0 x1 x2 x3 (x4 + 1) q4.2 y _ _ ls h hW (lv_sub hl [2, 3, 4, 5, 0] rfl)
        · replace h := ift h c3
          refine lv_iconst (v := 1) hx hb dX0_hasSignatureOf_61 (by decide) ?_
          exact wr_z C hr (Or.inr rfl) hW h dX0_hasSignatureOf_62
set_option maxHeartbeats 4000000 in
set_option maxRecDepth 100000 in
theorem c_X0_hasSignatureOf (G : GG) (k : Nat) (hk : isK k 0) (a1 : Int32) (M : Me) (y : Int32 × Me) (h : f_X0_hasSignatureOf k a1 M = some y) : CI G yX0_hasSignatureOf wsX0_hasSignatureOf (rmd 2 0 0) [.ref (ga G k), .int a1] M y := by
  rw [f_X0_hasSignatureOf] at h
  refine co_o (by decide) rfl rfl (Nat.le_of_ble_eq_true rfl) (fun p e s m below meth c ls C hr hW hl => ?_)
  have hx := C.1
  have hb := C.2.1
  have hown := C.2.2.2.1
  have hts := C.2.2.2.2.1
  have hl : lv_has ls 6 [(0, .ref (ga G k)), (1, .int a1)] := hl
  refine lv_aload_n hx hb dX0_hasSignatureOf_0 rfl (lv_at hl 0 rfl) ?_
  refine lv_iload_n hx hb dX0_hasSignatureOf_1 rfl (lv_at hl 1 rfl) ?_
  obtain ⟨q1, hq1, h⟩ := ob h
  refine wc_Vi C hW (k := k) (As := [.int a1]) (rest := []) (c_X0_signatureOf G k hk a1 M q1 hq1) hk rfl (by decide) (cwV 1 hts gX0_hasSignatureOf_X0_signatureOf rfl rfl rfl yd_X0_signatureOf ⟨Nat.le_of_ble_eq_true rfl, Nat.le_of_ble_eq_true rfl⟩) rfl hl.1 rfl (Nat.le_of_ble_eq_true rfl) dX0_hasSignatureOf_2 ⟨Nat.le_refl 0, Nat.le_refl 0⟩ (fun H locs hW => ?_)
  refine lv_istore_n (lv' := [(2, .int q1.1), (0, .ref (ga G k)), (1, .int a1)]) hx hb dX0_hasSignatureOf_5 rfl hl (by decide) rfl (fun ls hl => ?_)
  refine lv_aload_n hx hb dX0_hasSignatureOf_6 rfl (lv_at hl 1 rfl) ?_
  obtain ⟨q2, hq2, h⟩ := ob h
  refine wc_Vi C hW (k := k) (As := []) (rest := []) (c_X0_signatureCount G k hk q1.2 q2 hq2) hk rfl (by decide) (cwV 0 hts gX0_hasSignatureOf_X0_signatureCount rfl rfl rfl yd_X0_signatureCount ⟨Nat.le_of_ble_eq_true rfl, Nat.le_of_ble_eq_true rfl⟩) rfl hl.1 rfl (Nat.le_of_ble_eq_true rfl) dX0_hasSignatureOf_7 ⟨Nat.le_refl 0, Nat.le_refl 0⟩ (fun H locs hW => ?_)
  refine lv_istore_n (lv' := [(3, .int q2.1), (2, .int q1.1), (0, .ref (ga G k)), (1, .int a1)]) hx hb dX0_hasSignatureOf_10 rfl hl (by decide) rfl (fun ls hl => ?_)
  refine lv_iconst (v := 0) hx hb dX0_hasSignatureOf_11 (by decide) ?_
  refine lv_istore (lv' := [(4, .int 0), (3, .int q2.1), (2, .int q1.1), (0, .ref (ga G k)), (1, .int a1)]) hx hb dX0_hasSignatureOf_12 hl (by decide) rfl (fun ls hl => ?_)
  exact L_X0_hasSignatureOf_14 C hr 200 k hk a1 q1.1 q2.1 0 q2.2 y _ _ ls h hW (lv_sub hl [3, 4, 2, 1, 0] rfl)
theorem yd_X0_isSignedAsAsked : yX0_isSignedAsAsked.cls = RX0 ∧ yX0_isSignedAsAsked.cls ≠ "java/lang/invoke/MethodHandle" ∧ yX0_isSignedAsAsked.cls ≠ "java/lang/invoke/VarHandle" ∧ (parseMethodDescriptor yX0_isSignedAsAsked.desc).map (fun d => d.parameters.length) = some 2 := by decide +kernel
set_option maxHeartbeats 4000000 in
set_option maxRecDepth 100000 in
theorem L_X0_isSignedAsAsked_21 {G : GG} {p : Program} {e : Env} {s : State} {m : MethodId} {args : Array Value} {below : List Frame} {meth : Method} {c : Code} {Q : State → Prop} (C : Cx G wsX0_isSignedAsAsked RX0 cX0_isSignedAsAsked 7 p s m args meth c) : ∀ (n : Nat) (k0 : Nat) (hk0 : isK k0 0) (k1 : Nat) (hk1 : isK k1 1) (x2 : Int32) (x3 : Int32) (x4 : Int32) (x5 : Int32) (x6 : Int32) (M : Me) (y : Int32 × Me) (H : Heap) (locs : List Loc) (ls : Array Slot), fL_X0_isSignedAsAsked_21 n k0 k1 x2 x3 x4 x5 x6 M = some y → wH G s M H locs → lv_has ls 7 [(0, .ref (ga G k0)), (1, .ref (ga G k1)), (2, .int x2), (3, .int x3), (4, .int x4), (5, .int x5), (6, .int x6)] → (∀ (H : Heap) (locs : List Loc) (ls : Array Slot), wH G s y.2 H locs → lv_has ls 7 [(3, .int x3), (5, .int y.1)] → W p (gl G) e (rmd 3 0 0) s m args below meth c H locs 0 0 Q (F0 m 54 ls [])) → W p (gl G) e (rmd 3 0 0) s m args below meth c H locs 0 0 Q (F0 m 21 ls []) := by
  have hx := C.1
  have hb := C.2.1
  have hown := C.2.2.2.1
  have hts := C.2.2.2.2.1
  intro n
  induction n with
  | zero => intro k0 hk0 k1 hk1 x2 x3 x4 x5 x6 M y H locs ls h; exact nso h
  | succ n ih =>
    intro k0 hk0 k1 hk1 x2 x3 x4 x5 x6 M y H locs ls h hW hl kx
    rw [fL_X0_isSignedAsAsked_21] at h
    refine lv_iload hx hb dX0_isSignedAsAsked_21 (lv_at hl 6 rfl) ?_
    refine lv_iload hx hb dX0_isSignedAsAsked_23 (lv_at hl 4 rfl) ?_
    refine lv_icmp_ge (tgt := 54) hx hb dX0_isSignedAsAsked_25 (by decide) (fun c1 => ?_) (fun c1 => ?_)
    · replace h := ift h c1
      cases h
      exact kx _ _ ls hW (lv_sub hl [3, 5] rfl)
    · replace h := iff_ h c1
      refine lv_aload_n hx hb dX0_isSignedAsAsked_28 rfl (lv_at hl 0 rfl) ?_
      refine lv_aload_n hx hb dX0_isSignedAsAsked_29 rfl (lv_at hl 1 rfl) ?_
      refine lv_iload_n hx hb dX0_isSignedAsAsked_30 rfl (lv_at hl 2 rfl) ?_
      refine lv_iconst (v := 2) hx hb dX0_isSignedAsAsked_31 (by decide) ?_
      refine lv_iadd hx hb dX0_isSignedAsAsked_32 ?_
      refine lv_iload hx hb dX0_isSignedAsAsked_33 (lv_at hl 6 rfl) ?_
      refine lv_iadd hx hb dX0_isSignedAsAsked_35 ?_
      obtain ⟨q3, hq3, h⟩ := ob h
      refine wc_Vi C hW (k := k1) (As := [.int ((x2 + 2) + x6)]) (rest := [.ref (ga G k0)]) (c_X1_byteAt G k1 hk1 ((x2 + 2) + x6) M q3 hq3) hk1 rfl (by decide) (cwV 1 hts gX0_isSignedAsAsked_X1_byteAt rfl rfl rfl yd_X1_byteAt ⟨Nat.le_of_ble_eq_true rfl, Nat.le_of_ble_eq_true rfl⟩) rfl hl.1 rfl (Nat.le_of_ble_eq_true rfl) dX0_isSignedAsAsked_36 ⟨Nat.le_refl 0, Nat.le_refl 0⟩ (fun H locs hW => ?_)
      obtain ⟨q4, hq4, h⟩ := ob h
      refine wc_Vi C hW (k := k0) (As := [.int q3.1]) (rest := []) (c_X0_hasSignatureOf G k0 hk0 q3.1 q3.2 q4 hq4) hk0 rfl (by decide) (cwV 1 hts gX0_isSignedAsAsked_X0_hasSignatureOf rfl rfl rfl yd_X0_hasSignatureOf ⟨Nat.le_of_ble_eq_true rfl, Nat.le_of_ble_eq_true rfl⟩) rfl hl.1 rfl (Nat.le_of_ble_eq_true rfl) dX0_isSignedAsAsked_39 ⟨Nat.le_refl 0, Nat.le_refl 0⟩ (fun H locs hW => ?_)
      refine lv_if_eq (tgt := 48) hx hb dX0_isSignedAsAsked_42 (by decide) (fun c2 => ?_) (fun c2 => ?_)
      · replace h := ift h c2
        refine lv_iinc (v := (x6 + 1)) (lv' := [(6, .int (x6 + 1)), (0, .ref (ga G k0)), (1, .ref (ga G k1)), (2, .int x2), (3, .int x3), (4, .int x4), (5, .int x5)]) hx hb dX0_isSignedAsAsked_48 hl (k := 6) rfl rfl (by decide) rfl (fun ls hl => ?_)
        refine lv_goto (tgt := 21) hx hb dX0_isSignedAsAsked_51 (by decide) ?_
        exact ih k0 hk0 k1 hk1 x2 x3 x4 x5 (x6 + 1) q4.2 y _ _ ls h hW (lv_sub hl [1, 2, 3, 4, 5, 6, 0] rfl) kx
      · replace h := iff_ h c2
        refine lv_iinc (v := (x5 + 1)) (lv' := [(5, .int (x5 + 1)), (0, .ref (ga G k0)), (1, .ref (ga G k1)), (2, .int x2), (3, .int x3), (4, .int x4), (6, .int x6)]) hx hb dX0_isSignedAsAsked_45 hl (k := 5) rfl rfl (by decide) rfl (fun ls hl => ?_)
        refine lv_iinc (v := (x6 + 1)) (lv' := [(6, .int (x6 + 1)), (5, .int (x5 + 1)), (0, .ref (ga G k0)), (1, .ref (ga G k1)), (2, .int x2), (3, .int x3), (4, .int x4)]) hx hb dX0_isSignedAsAsked_48 hl (k := 6) rfl rfl (by decide) rfl (fun ls hl => ?_)
        refine lv_goto (tgt := 21) hx hb dX0_isSignedAsAsked_51 (by decide) ?_
        exact ih k0 hk0 k1 hk1 x2 x3 x4 (x5 + 1) (x6 + 1) q4.2 y _ _ ls h hW (lv_sub hl [2, 3, 4, 5, 6, 1, 0] rfl) kx
set_option maxHeartbeats 4000000 in
set_option maxRecDepth 100000 in
theorem c_X0_isSignedAsAsked (G : GG) (k : Nat) (hk : isK k 0) (b1 : Nat) (hb1 : isK b1 1) (a2 : Int32) (M : Me) (y : Int32 × Me) (h : f_X0_isSignedAsAsked k b1 a2 M = some y) : CI G yX0_isSignedAsAsked wsX0_isSignedAsAsked (rmd 3 0 0) [.ref (ga G k), .ref (ga G b1), .int a2] M y := by
  rw [f_X0_isSignedAsAsked] at h
  refine co_o (by decide) rfl rfl (Nat.le_of_ble_eq_true rfl) (fun p e s m below meth c ls C hr hW hl => ?_)
  have hx := C.1
  have hb := C.2.1
  have hown := C.2.2.2.1
  have hts := C.2.2.2.2.1
  have hl : lv_has ls 7 [(0, .ref (ga G k)), (1, .ref (ga G b1)), (2, .int a2)] := hl
  refine lv_aload_n hx hb dX0_isSignedAsAsked_0 rfl (lv_at hl 1 rfl) ?_
  refine lv_iload_n hx hb dX0_isSignedAsAsked_1 rfl (lv_at hl 2 rfl) ?_
  obtain ⟨q1, hq1, h⟩ := ob h
  refine wc_Vi C hW (k := b1) (As := [.int a2]) (rest := []) (c_X1_byteAt G b1 hb1 a2 M q1 hq1) hb1 rfl (by decide) (cwV 1 hts gX0_isSignedAsAsked_X1_byteAt rfl rfl rfl yd_X1_byteAt ⟨Nat.le_of_ble_eq_true rfl, Nat.le_of_ble_eq_true rfl⟩) rfl hl.1 rfl (Nat.le_of_ble_eq_true rfl) dX0_isSignedAsAsked_2 ⟨Nat.le_refl 0, Nat.le_refl 0⟩ (fun H locs hW => ?_)
  refine lv_istore_n (lv' := [(3, .int q1.1), (0, .ref (ga G k)), (1, .ref (ga G b1)), (2, .int a2)]) hx hb dX0_isSignedAsAsked_5 rfl hl (by decide) rfl (fun ls hl => ?_)
  refine lv_aload_n hx hb dX0_isSignedAsAsked_6 rfl (lv_at hl 2 rfl) ?_
  refine lv_iload_n hx hb dX0_isSignedAsAsked_7 rfl (lv_at hl 3 rfl) ?_
  refine lv_iconst (v := 1) hx hb dX0_isSignedAsAsked_8 (by decide) ?_
  refine lv_iadd hx hb dX0_isSignedAsAsked_9 ?_
  obtain ⟨q2, hq2, h⟩ := ob h
  refine wc_Vi C hW (k := b1) (As := [.int (a2 + 1)]) (rest := []) (c_X1_byteAt G b1 hb1 (a2 + 1) q1.2 q2 hq2) hb1 rfl (by decide) (cwV 1 hts gX0_isSignedAsAsked_X1_byteAt rfl rfl rfl yd_X1_byteAt ⟨Nat.le_of_ble_eq_true rfl, Nat.le_of_ble_eq_true rfl⟩) rfl hl.1 rfl (Nat.le_of_ble_eq_true rfl) dX0_isSignedAsAsked_10 ⟨Nat.le_refl 0, Nat.le_refl 0⟩ (fun H locs hW => ?_)
  refine lv_istore (lv' := [(4, .int q2.1), (3, .int q1.1), (0, .ref (ga G k)), (1, .ref (ga G b1)), (2, .int a2)]) hx hb dX0_isSignedAsAsked_13 hl (by decide) rfl (fun ls hl => ?_)
  refine lv_iconst (v := 0) hx hb dX0_isSignedAsAsked_15 (by decide) ?_
  refine lv_istore (lv' := [(5, .int 0), (4, .int q2.1), (3, .int q1.1), (0, .ref (ga G k)), (1, .ref (ga G b1)), (2, .int a2)]) hx hb dX0_isSignedAsAsked_16 hl (by decide) rfl (fun ls hl => ?_)
  refine lv_iconst (v := 0) hx hb dX0_isSignedAsAsked_18 (by decide) ?_
  refine lv_istore (lv' := [(6, .int 0), (5, .int 0), (4, .int q2.1), (3, .int q1.1), (0, .ref (ga G k)), (1, .ref (ga G b1)), (2, .int a2)]) hx hb dX0_isSignedAsAsked_19 hl (by decide) rfl (fun ls hl => ?_)
  obtain ⟨q5, hq5, h⟩ := ob h
  refine L_X0_isSignedAsAsked_21 C 200 k hk b1 hb1 a2 q1.1 q2.1 0 0 q2.2 q5 _ _ ls hq5 hW (lv_sub hl [4, 5, 6, 3, 2, 1, 0] rfl) (fun H locs ls hW hl => ?_)
  refine lv_iload hx hb dX0_isSignedAsAsked_54 (lv_at hl 1 rfl) ?_
  refine lv_iload_n hx hb dX0_isSignedAsAsked_56 rfl (lv_at hl 0 rfl) ?_
  refine lv_icmp_lt (tgt := 64) hx hb dX0_isSignedAsAsked_57 (by decide) (fun c3 => ?_) (fun c3 => ?_)
  · replace h := ift h c3
    refine lv_iconst (v := 0) hx hb dX0_isSignedAsAsked_64 (by decide) ?_
    exact wr_z C hr (Or.inl rfl) hW h dX0_isSignedAsAsked_65
  · replace h := iff_ h c3
    refine lv_iconst (v := 1) hx hb dX0_isSignedAsAsked_60 (by decide) ?_
    refine lv_goto (tgt := 65) hx hb dX0_isSignedAsAsked_61 (by decide) ?_
    exact wr_z C hr (Or.inr rfl) hW h dX0_isSignedAsAsked_65
theorem yd_X0_rootVouchesFor : yX0_rootVouchesFor.cls = RX0 ∧ yX0_rootVouchesFor.cls ≠ "java/lang/invoke/MethodHandle" ∧ yX0_rootVouchesFor.cls ≠ "java/lang/invoke/VarHandle" ∧ (parseMethodDescriptor yX0_rootVouchesFor.desc).map (fun d => d.parameters.length) = some 2 := by decide +kernel
set_option maxHeartbeats 4000000 in
set_option maxRecDepth 100000 in
theorem c_X0_rootVouchesFor (G : GG) (k : Nat) (hk : isK k 0) (b1 : Nat) (hb1 : isK b1 0) (a2 : Int32) (M : Me) (y : Int32 × Me) (h : f_X0_rootVouchesFor k b1 a2 M = some y) : CI G yX0_rootVouchesFor wsX0_rootVouchesFor (rmd 4 0 0) [.ref (ga G k), .ref (ga G b1), .int a2] M y := by
  rw [f_X0_rootVouchesFor] at h
  refine co_o (by decide) rfl rfl (Nat.le_of_ble_eq_true rfl) (fun p e s m below meth c ls C hr hW hl => ?_)
  have hx := C.1
  have hb := C.2.1
  have hown := C.2.2.2.1
  have hts := C.2.2.2.2.1
  have inX0 : ∀ w ∈ wsX00, w ∈ wsX0_rootVouchesFor := by decide +kernel
  have hL14 := hts (.fieldLink RX0 14 "TrustedUpdates$Document" "row" "LTrustedUpdates$Row;") (by decide +kernel)
  have hL20 := hts (.fieldLink RX0 20 "TrustedUpdates$Document" "keySets" "[I") (by decide +kernel)
  have hl : lv_has ls 3 [(0, .ref (ga G k)), (1, .ref (ga G b1)), (2, .int a2)] := hl
  refine lv_iload_n hx hb dX0_rootVouchesFor_0 rfl (lv_at hl 2 rfl) ?_
  refine lv_if_lt (tgt := 30) hx hb dX0_rootVouchesFor_1 (by decide) (fun c1 => ?_) (fun c1 => ?_)
  · replace h := ift h c1
    refine lv_iconst (v := 0) hx hb dX0_rootVouchesFor_30 (by decide) ?_
    exact wr_z C hr (Or.inl rfl) hW h dX0_rootVouchesFor_31
  · replace h := iff_ h c1
    refine lv_iload_n hx hb dX0_rootVouchesFor_4 rfl (lv_at hl 2 rfl) ?_
    refine lv_iconst (v := 4) hx hb dX0_rootVouchesFor_5 (by decide) ?_
    refine lv_icmp_ge (tgt := 30) hx hb dX0_rootVouchesFor_6 (by decide) (fun c2 => ?_) (fun c2 => ?_)
    · replace h := ift h c2
      refine lv_iconst (v := 0) hx hb dX0_rootVouchesFor_30 (by decide) ?_
      exact wr_z C hr (Or.inl rfl) hW h dX0_rootVouchesFor_31
    · replace h := iff_ h c2
      refine lv_aload_n hx hb dX0_rootVouchesFor_9 rfl (lv_at hl 1 rfl) ?_
      refine lv_aload_n hx hb dX0_rootVouchesFor_10 rfl (lv_at hl 0 rfl) ?_
      refine wg_r C hW (k := k) (ci := 0) (j := 0) (q := (k + 1)) hk rfl ⟨by decide, rfl⟩ inX0 (by decide) (rfq hk rfl) hL14 (fun _ h9 => h9) dX0_rootVouchesFor_11 ?_
      refine lv_aload_n hx hb dX0_rootVouchesFor_14 rfl (lv_at hl 0 rfl) ?_
      refine wg_r C hW (k := k) (ci := 0) (j := 1) (q := (k + 3)) hk rfl ⟨by decide, rfl⟩ inX0 (by decide) (rfq hk rfl) hL20 (fun _ h9 => h9) dX0_rootVouchesFor_15 ?_
      refine lv_iload_n hx hb dX0_rootVouchesFor_18 rfl (lv_at hl 2 rfl) ?_
      obtain ⟨hg1, h⟩ := ifg h
      refine wa_l C hW (k := (k + 3)) (kd_a3 hk) hg1 dX0_rootVouchesFor_19 (v := (M (k + 3) a2.toNatClampNeg)) rfl ?_
      obtain ⟨q1, hq1, h⟩ := ob h
      refine wc_Vi C hW (k := b1) (As := [.ref (ga G (k + 1)), .int (M (k + 3) a2.toNatClampNeg)]) (rest := []) (c_X0_isSignedAsAsked G b1 hb1 (k + 1) (kd_r hk) (M (k + 3) a2.toNatClampNeg) M q1 hq1) hb1 rfl (by decide) (cwV 2 hts gX0_rootVouchesFor_X0_isSignedAsAsked rfl rfl rfl yd_X0_isSignedAsAsked ⟨Nat.le_of_ble_eq_true rfl, Nat.le_of_ble_eq_true rfl⟩) rfl hl.1 rfl (Nat.le_of_ble_eq_true rfl) dX0_rootVouchesFor_20 ⟨Nat.le_refl 0, Nat.le_refl 0⟩ (fun H locs hW => ?_)
      refine lv_if_eq (tgt := 30) hx hb dX0_rootVouchesFor_23 (by decide) (fun c3 => ?_) (fun c3 => ?_)
      · replace h := ift h c3
        refine lv_iconst (v := 0) hx hb dX0_rootVouchesFor_30 (by decide) ?_
        exact wr_z C hr (Or.inl rfl) hW h dX0_rootVouchesFor_31
      · replace h := iff_ h c3
        refine lv_iconst (v := 1) hx hb dX0_rootVouchesFor_26 (by decide) ?_
        refine lv_goto (tgt := 31) hx hb dX0_rootVouchesFor_27 (by decide) ?_
        exact wr_z C hr (Or.inr rfl) hW h dX0_rootVouchesFor_31
theorem yd_X0_hasKeySetOf : yX0_hasKeySetOf.cls = RX0 ∧ yX0_hasKeySetOf.cls ≠ "java/lang/invoke/MethodHandle" ∧ yX0_hasKeySetOf.cls ≠ "java/lang/invoke/VarHandle" ∧ (parseMethodDescriptor yX0_hasKeySetOf.desc).map (fun d => d.parameters.length) = some 2 := by decide +kernel
set_option maxHeartbeats 4000000 in
set_option maxRecDepth 100000 in
theorem c_X0_hasKeySetOf (G : GG) (k : Nat) (hk : isK k 0) (b1 : Nat) (hb1 : isK b1 0) (a2 : Int32) (M : Me) (y : Int32 × Me) (h : f_X0_hasKeySetOf k b1 a2 M = some y) : CI G yX0_hasKeySetOf wsX0_hasKeySetOf (rmd 2 0 0) [.ref (ga G k), .ref (ga G b1), .int a2] M y := by
  rw [f_X0_hasKeySetOf] at h
  refine co_o (by decide) rfl rfl (Nat.le_of_ble_eq_true rfl) (fun p e s m below meth c ls C hr hW hl => ?_)
  have hx := C.1
  have hb := C.2.1
  have hown := C.2.2.2.1
  have hts := C.2.2.2.2.1
  have inX0 : ∀ w ∈ wsX00, w ∈ wsX0_hasKeySetOf := by decide +kernel
  have hL14 := hts (.fieldLink RX0 14 "TrustedUpdates$Document" "row" "LTrustedUpdates$Row;") (by decide +kernel)
  have hL20 := hts (.fieldLink RX0 20 "TrustedUpdates$Document" "keySets" "[I") (by decide +kernel)
  have hl : lv_has ls 4 [(0, .ref (ga G k)), (1, .ref (ga G b1)), (2, .int a2)] := hl
  refine lv_iload_n hx hb dX0_hasKeySetOf_0 rfl (lv_at hl 2 rfl) ?_
  refine lv_if_lt (tgt := 9) hx hb dX0_hasKeySetOf_1 (by decide) (fun c1 => ?_) (fun c1 => ?_)
  · replace h := ift h c1
    refine lv_iconst (v := 0) hx hb dX0_hasKeySetOf_9 (by decide) ?_
    exact wr_z C hr (Or.inl rfl) hW h dX0_hasKeySetOf_10
  · replace h := iff_ h c1
    refine lv_iload_n hx hb dX0_hasKeySetOf_4 rfl (lv_at hl 2 rfl) ?_
    refine lv_iconst (v := 4) hx hb dX0_hasKeySetOf_5 (by decide) ?_
    refine lv_icmp_lt (tgt := 11) hx hb dX0_hasKeySetOf_6 (by decide) (fun c2 => ?_) (fun c2 => ?_)
    · replace h := ift h c2
      refine lv_aload_n hx hb dX0_hasKeySetOf_11 rfl (lv_at hl 0 rfl) ?_
      refine wg_r C hW (k := k) (ci := 0) (j := 1) (q := (k + 3)) hk rfl ⟨by decide, rfl⟩ inX0 (by decide) (rfq hk rfl) hL20 (fun _ h9 => h9) dX0_hasKeySetOf_12 ?_
      refine lv_iload_n hx hb dX0_hasKeySetOf_15 rfl (lv_at hl 2 rfl) ?_
      obtain ⟨hg1, h⟩ := ifg h
      refine wa_l C hW (k := (k + 3)) (kd_a3 hk) hg1 dX0_hasKeySetOf_16 (v := (M (k + 3) a2.toNatClampNeg)) rfl ?_
      refine lv_istore_n (lv' := [(3, .int (M (k + 3) a2.toNatClampNeg)), (0, .ref (ga G k)), (1, .ref (ga G b1)), (2, .int a2)]) hx hb dX0_hasKeySetOf_17 rfl hl (by decide) rfl (fun ls hl => ?_)
      refine lv_aload_n hx hb dX0_hasKeySetOf_18 rfl (lv_at hl 1 rfl) ?_
      refine wg_r C hW (k := k) (ci := 0) (j := 0) (q := (k + 1)) hk rfl ⟨by decide, rfl⟩ inX0 (by decide) (rfq hk rfl) hL14 (fun _ h9 => h9) dX0_hasKeySetOf_19 ?_
      refine lv_iload_n hx hb dX0_hasKeySetOf_22 rfl (lv_at hl 0 rfl) ?_
      refine lv_aload_n hx hb dX0_hasKeySetOf_23 rfl (lv_at hl 2 rfl) ?_
      refine wg_r C hW (k := b1) (ci := 0) (j := 0) (q := (b1 + 1)) hb1 rfl ⟨by decide, rfl⟩ inX0 (by decide) (rfq hb1 rfl) hL14 (fun _ h9 => h9) dX0_hasKeySetOf_24 ?_
      refine lv_aload_n hx hb dX0_hasKeySetOf_27 rfl (lv_at hl 2 rfl) ?_
      refine wg_r C hW (k := b1) (ci := 0) (j := 1) (q := (b1 + 3)) hb1 rfl ⟨by decide, rfl⟩ inX0 (by decide) (rfq hb1 rfl) hL20 (fun _ h9 => h9) dX0_hasKeySetOf_28 ?_
      refine lv_iload_n hx hb dX0_hasKeySetOf_31 rfl (lv_at hl 3 rfl) ?_
      obtain ⟨hg2, h⟩ := ifg h
      refine wa_l C hW (k := (b1 + 3)) (kd_a3 hb1) hg2 dX0_hasKeySetOf_32 (v := (M (b1 + 3) a2.toNatClampNeg)) rfl ?_
      refine lv_iconst (v := 2) hx hb dX0_hasKeySetOf_33 (by decide) ?_
      refine lv_aload_n hx hb dX0_hasKeySetOf_34 rfl (lv_at hl 1 rfl) ?_
      refine wg_r C hW (k := k) (ci := 0) (j := 0) (q := (k + 1)) hk rfl ⟨by decide, rfl⟩ inX0 (by decide) (rfq hk rfl) hL14 (fun _ h9 => h9) dX0_hasKeySetOf_35 ?_
      refine lv_iload_n hx hb dX0_hasKeySetOf_38 rfl (lv_at hl 0 rfl) ?_
      refine lv_iconst (v := 1) hx hb dX0_hasKeySetOf_39 (by decide) ?_
      refine lv_iadd hx hb dX0_hasKeySetOf_40 ?_
      obtain ⟨q1, hq1, h⟩ := ob h
      refine wc_Vi C hW (k := (k + 1)) (As := [.int ((M (k + 3) a2.toNatClampNeg) + 1)]) (rest := [.int 2, .int (M (b1 + 3) a2.toNatClampNeg), .ref (ga G (b1 + 1)), .int (M (k + 3) a2.toNatClampNeg), .ref (ga G (k + 1))]) (c_X1_byteAt G (k + 1) (kd_r hk) ((M (k + 3) a2.toNatClampNeg) + 1) M q1 hq1) (kd_r hk) rfl (by decide) (cwV 1 hts gX0_hasKeySetOf_X1_byteAt rfl rfl rfl yd_X1_byteAt ⟨Nat.le_of_ble_eq_true rfl, Nat.le_of_ble_eq_true rfl⟩) rfl hl.1 rfl (Nat.le_of_ble_eq_true rfl) dX0_hasKeySetOf_41 ⟨Nat.le_refl 0, Nat.le_refl 0⟩ (fun H locs hW => ?_)
      refine lv_iadd hx hb dX0_hasKeySetOf_44 ?_
      obtain ⟨q2, hq2, h⟩ := ob h
      refine wc_Vi C hW (k := (k + 1)) (As := [.int (M (k + 3) a2.toNatClampNeg), .ref (ga G (b1 + 1)), .int (M (b1 + 3) a2.toNatClampNeg), .int (2 + q1.1)]) (rest := []) (c_X1_agrees G (k + 1) (kd_r hk) (M (k + 3) a2.toNatClampNeg) (b1 + 1) (kd_r hb1) (M (b1 + 3) a2.toNatClampNeg) (2 + q1.1) q1.2 q2 hq2) (kd_r hk) rfl (by decide) (cwV 4 hts gX0_hasKeySetOf_X1_agrees rfl rfl rfl yd_X1_agrees ⟨Nat.le_of_ble_eq_true rfl, Nat.le_of_ble_eq_true rfl⟩) rfl hl.1 rfl (Nat.le_of_ble_eq_true rfl) dX0_hasKeySetOf_45 ⟨Nat.le_refl 0, Nat.le_refl 0⟩ (fun H locs hW => ?_)
      obtain ⟨hg3, h⟩ := ifg h
      exact wr_z C hr (bB_or hg3) hW h dX0_hasKeySetOf_48
    · replace h := iff_ h c2
      refine lv_iconst (v := 0) hx hb dX0_hasKeySetOf_9 (by decide) ?_
      exact wr_z C hr (Or.inl rfl) hW h dX0_hasKeySetOf_10
theorem yd_X0_stampedVersion : yX0_stampedVersion.cls = RX0 ∧ yX0_stampedVersion.cls ≠ "java/lang/invoke/MethodHandle" ∧ yX0_stampedVersion.cls ≠ "java/lang/invoke/VarHandle" ∧ (parseMethodDescriptor yX0_stampedVersion.desc).map (fun d => d.parameters.length) = some 0 := by decide +kernel
set_option maxHeartbeats 4000000 in
set_option maxRecDepth 100000 in
theorem c_X0_stampedVersion (G : GG) (k : Nat) (hk : isK k 0) (M : Me) (y : Int32 × Me) (h : f_X0_stampedVersion k M = some y) : CI G yX0_stampedVersion wsX0_stampedVersion (rmd 1 0 0) [.ref (ga G k)] M y := by
  rw [f_X0_stampedVersion] at h
  refine co_o (by decide) rfl rfl (Nat.le_of_ble_eq_true rfl) (fun p e s m below meth c ls C hr hW hl => ?_)
  have hx := C.1
  have hb := C.2.1
  have hown := C.2.2.2.1
  have hts := C.2.2.2.2.1
  have inX0 : ∀ w ∈ wsX00, w ∈ wsX0_stampedVersion := by decide +kernel
  have hL14 := hts (.fieldLink RX0 14 "TrustedUpdates$Document" "row" "LTrustedUpdates$Row;") (by decide +kernel)
  have hl : lv_has ls 1 [(0, .ref (ga G k))] := hl
  refine lv_aload_n hx hb dX0_stampedVersion_0 rfl (lv_at hl 0 rfl) ?_
  refine wg_r C hW (k := k) (ci := 0) (j := 0) (q := (k + 1)) hk rfl ⟨by decide, rfl⟩ inX0 (by decide) (rfq hk rfl) hL14 (fun _ h9 => h9) dX0_stampedVersion_1 ?_
  refine lv_iconst (v := 4) hx hb dX0_stampedVersion_4 (by decide) ?_
  obtain ⟨q1, hq1, h⟩ := ob h
  refine wc_Vi C hW (k := (k + 1)) (As := [.int 4]) (rest := []) (c_X1_byteAt G (k + 1) (kd_r hk) 4 M q1 hq1) (kd_r hk) rfl (by decide) (cwV 1 hts gX0_stampedVersion_X1_byteAt rfl rfl rfl yd_X1_byteAt ⟨Nat.le_of_ble_eq_true rfl, Nat.le_of_ble_eq_true rfl⟩) rfl hl.1 rfl (Nat.le_of_ble_eq_true rfl) dX0_stampedVersion_5 ⟨Nat.le_refl 0, Nat.le_refl 0⟩ (fun H locs hW => ?_)
  exact wr_i C hr hW h dX0_stampedVersion_8
theorem yd_X0_stampedDigest : yX0_stampedDigest.cls = RX0 ∧ yX0_stampedDigest.cls ≠ "java/lang/invoke/MethodHandle" ∧ yX0_stampedDigest.cls ≠ "java/lang/invoke/VarHandle" ∧ (parseMethodDescriptor yX0_stampedDigest.desc).map (fun d => d.parameters.length) = some 0 := by decide +kernel
set_option maxHeartbeats 4000000 in
set_option maxRecDepth 100000 in
theorem c_X0_stampedDigest (G : GG) (k : Nat) (hk : isK k 0) (M : Me) (y : Int32 × Me) (h : f_X0_stampedDigest k M = some y) : CI G yX0_stampedDigest wsX0_stampedDigest (rmd 1 0 0) [.ref (ga G k)] M y := by
  rw [f_X0_stampedDigest] at h
  refine co_o (by decide) rfl rfl (Nat.le_of_ble_eq_true rfl) (fun p e s m below meth c ls C hr hW hl => ?_)
  have hx := C.1
  have hb := C.2.1
  have hown := C.2.2.2.1
  have hts := C.2.2.2.2.1
  have inX0 : ∀ w ∈ wsX00, w ∈ wsX0_stampedDigest := by decide +kernel
  have hL14 := hts (.fieldLink RX0 14 "TrustedUpdates$Document" "row" "LTrustedUpdates$Row;") (by decide +kernel)
  have hl : lv_has ls 1 [(0, .ref (ga G k))] := hl
  refine lv_aload_n hx hb dX0_stampedDigest_0 rfl (lv_at hl 0 rfl) ?_
  refine wg_r C hW (k := k) (ci := 0) (j := 0) (q := (k + 1)) hk rfl ⟨by decide, rfl⟩ inX0 (by decide) (rfq hk rfl) hL14 (fun _ h9 => h9) dX0_stampedDigest_1 ?_
  refine lv_iconst (v := 5) hx hb dX0_stampedDigest_4 (by decide) ?_
  obtain ⟨q1, hq1, h⟩ := ob h
  refine wc_Vi C hW (k := (k + 1)) (As := [.int 5]) (rest := []) (c_X1_wordAt G (k + 1) (kd_r hk) 5 M q1 hq1) (kd_r hk) rfl (by decide) (cwV 1 hts gX0_stampedDigest_X1_wordAt rfl rfl rfl yd_X1_wordAt ⟨Nat.le_of_ble_eq_true rfl, Nat.le_of_ble_eq_true rfl⟩) rfl hl.1 rfl (Nat.le_of_ble_eq_true rfl) dX0_stampedDigest_5 ⟨Nat.le_refl 0, Nat.le_refl 0⟩ (fun H locs hW => ?_)
  exact wr_i C hr hW h dX0_stampedDigest_8
theorem yd_X0_versionFor : yX0_versionFor.cls = RX0 ∧ yX0_versionFor.cls ≠ "java/lang/invoke/MethodHandle" ∧ yX0_versionFor.cls ≠ "java/lang/invoke/VarHandle" ∧ (parseMethodDescriptor yX0_versionFor.desc).map (fun d => d.parameters.length) = some 1 := by decide +kernel
set_option maxHeartbeats 4000000 in
set_option maxRecDepth 100000 in
theorem c_X0_versionFor (G : GG) (k : Nat) (hk : isK k 0) (a1 : Int32) (M : Me) (y : Int32 × Me) (h : f_X0_versionFor k a1 M = some y) : CI G yX0_versionFor wsX0_versionFor (rmd 0 0 0) [.ref (ga G k), .int a1] M y := by
  rw [f_X0_versionFor] at h
  refine co_o (by decide) rfl rfl (Nat.le_of_ble_eq_true rfl) (fun p e s m below meth c ls C hr hW hl => ?_)
  have hx := C.1
  have hb := C.2.1
  have hown := C.2.2.2.1
  have hts := C.2.2.2.2.1
  have inX0 : ∀ w ∈ wsX00, w ∈ wsX0_versionFor := by decide +kernel
  have hL24 := hts (.fieldLink RX0 24 "TrustedUpdates$Document" "versions" "[I") (by decide +kernel)
  have hl : lv_has ls 2 [(0, .ref (ga G k)), (1, .int a1)] := hl
  refine lv_iload_n hx hb dX0_versionFor_0 rfl (lv_at hl 1 rfl) ?_
  refine lv_if_lt (tgt := 19) hx hb dX0_versionFor_1 (by decide) (fun c1 => ?_) (fun c1 => ?_)
  · replace h := ift h c1
    refine lv_iconst (v := (-1)) hx hb dX0_versionFor_19 (by decide) ?_
    exact wr_i C hr hW h dX0_versionFor_20
  · replace h := iff_ h c1
    refine lv_iload_n hx hb dX0_versionFor_4 rfl (lv_at hl 1 rfl) ?_
    refine lv_bipush (v := 6) hx hb dX0_versionFor_5 (by decide) ?_
    refine lv_icmp_gt (tgt := 19) hx hb dX0_versionFor_7 (by decide) (fun c2 => ?_) (fun c2 => ?_)
    · replace h := ift h c2
      refine lv_iconst (v := (-1)) hx hb dX0_versionFor_19 (by decide) ?_
      exact wr_i C hr hW h dX0_versionFor_20
    · replace h := iff_ h c2
      refine lv_aload_n hx hb dX0_versionFor_10 rfl (lv_at hl 0 rfl) ?_
      refine wg_r C hW (k := k) (ci := 0) (j := 2) (q := (k + 4)) hk rfl ⟨by decide, rfl⟩ inX0 (by decide) (rfq hk rfl) hL24 (fun _ h9 => h9) dX0_versionFor_11 ?_
      refine lv_iload_n hx hb dX0_versionFor_14 rfl (lv_at hl 1 rfl) ?_
      obtain ⟨hg1, h⟩ := ifg h
      refine wa_l C hW (k := (k + 4)) (kd_a4 hk) hg1 dX0_versionFor_15 (v := (M (k + 4) a1.toNatClampNeg)) rfl ?_
      refine lv_goto (tgt := 20) hx hb dX0_versionFor_16 (by decide) ?_
      exact wr_i C hr hW h dX0_versionFor_20
theorem yd_X0_targetNamed : yX0_targetNamed.cls = RX0 ∧ yX0_targetNamed.cls ≠ "java/lang/invoke/MethodHandle" ∧ yX0_targetNamed.cls ≠ "java/lang/invoke/VarHandle" ∧ (parseMethodDescriptor yX0_targetNamed.desc).map (fun d => d.parameters.length) = some 1 := by decide +kernel
set_option maxHeartbeats 4000000 in
set_option maxRecDepth 100000 in
theorem L_X0_targetNamed_2 {G : GG} {p : Program} {e : Env} {s : State} {m : MethodId} {args : Array Value} {below : List Frame} {meth : Method} {c : Code} (C : Cx G wsX0_targetNamed RX0 cX0_targetNamed 4 p s m args meth c) (hr : meth.sig.returnType = (some .int)) : ∀ (n : Nat) (k0 : Nat) (hk0 : isK k0 0) (k1 : Nat) (hk1 : isK k1 1) (x2 : Int32) (M : Me) (y : Int32 × Me) (H : Heap) (locs : List Loc) (ls : Array Slot), fL_X0_targetNamed_2 n k0 k1 x2 M = some y → wH G s M H locs → lv_has ls 4 [(0, .ref (ga G k0)), (1, .ref (ga G k1)), (2, .int x2)] → W p (gl G) e (rmd 2 0 0) s m args below meth c H locs 0 0 (MQ below (Qi G y) args s 0 0 (wA G)) (F0 m 2 ls []) := by
  have hx := C.1
  have hb := C.2.1
  have hown := C.2.2.2.1
  have hts := C.2.2.2.2.1
  have inX0 : ∀ w ∈ wsX00, w ∈ wsX0_targetNamed := by decide +kernel
  have hL14 := hts (.fieldLink RX0 14 "TrustedUpdates$Document" "row" "LTrustedUpdates$Row;") (by decide +kernel)
  have hL27 := hts (.fieldLink RX0 27 "TrustedUpdates$Document" "targets" "[I") (by decide +kernel)
  have hL99 := hts (.fieldLink RX0 99 "TrustedUpdates$Document" "targetCount" "I") (by decide +kernel)
  intro n
  induction n with
  | zero => intro k0 hk0 k1 hk1 x2 M y H locs ls h; exact nso h
  | succ n ih =>
    intro k0 hk0 k1 hk1 x2 M y H locs ls h hW hl
    rw [fL_X0_targetNamed_2] at h
    refine lv_iload_n hx hb dX0_targetNamed_2 rfl (lv_at hl 2 rfl) ?_
    refine lv_aload_n hx hb dX0_targetNamed_3 rfl (lv_at hl 0 rfl) ?_
    refine wg_i C hW (k := k0) (ci := 0) (j := 12) hk0 rfl ⟨by decide, rfl⟩ inX0 (by decide) (rfq hk0 rfl) (v := (M k0 12)) rfl hL99 (fun _ h9 => h9) dX0_targetNamed_4 ?_
    refine lv_icmp_ge (tgt := 66) hx hb dX0_targetNamed_7 (by decide) (fun c1 => ?_) (fun c1 => ?_)
    · replace h := ift h c1
      refine lv_iconst (v := (-1)) hx hb dX0_targetNamed_66 (by decide) ?_
      exact wr_i C hr hW h dX0_targetNamed_67
    · replace h := iff_ h c1
      refine lv_aload_n hx hb dX0_targetNamed_10 rfl (lv_at hl 0 rfl) ?_
      refine wg_r C hW (k := k0) (ci := 0) (j := 3) (q := (k0 + 5)) hk0 rfl ⟨by decide, rfl⟩ inX0 (by decide) (rfq hk0 rfl) hL27 (fun _ h9 => h9) dX0_targetNamed_11 ?_
      refine lv_iload_n hx hb dX0_targetNamed_14 rfl (lv_at hl 2 rfl) ?_
      obtain ⟨hg1, h⟩ := ifg h
      refine wa_l C hW (k := (k0 + 5)) (kd_a5 hk0) hg1 dX0_targetNamed_15 (v := (M (k0 + 5) x2.toNatClampNeg)) rfl ?_
      refine lv_istore_n (lv' := [(3, .int (M (k0 + 5) x2.toNatClampNeg)), (0, .ref (ga G k0)), (1, .ref (ga G k1)), (2, .int x2)]) hx hb dX0_targetNamed_16 rfl hl (by decide) rfl (fun ls hl => ?_)
      refine lv_aload_n hx hb dX0_targetNamed_17 rfl (lv_at hl 1 rfl) ?_
      refine wg_r C hW (k := k0) (ci := 0) (j := 0) (q := (k0 + 1)) hk0 rfl ⟨by decide, rfl⟩ inX0 (by decide) (rfq hk0 rfl) hL14 (fun _ h9 => h9) dX0_targetNamed_18 ?_
      refine lv_iload_n hx hb dX0_targetNamed_21 rfl (lv_at hl 0 rfl) ?_
      obtain ⟨q1, hq1, h⟩ := ob h
      refine wc_Vi C hW (k := (k0 + 1)) (As := [.int (M (k0 + 5) x2.toNatClampNeg)]) (rest := []) (c_X1_byteAt G (k0 + 1) (kd_r hk0) (M (k0 + 5) x2.toNatClampNeg) M q1 hq1) (kd_r hk0) rfl (by decide) (cwV 1 hts gX0_targetNamed_X1_byteAt rfl rfl rfl yd_X1_byteAt ⟨Nat.le_of_ble_eq_true rfl, Nat.le_of_ble_eq_true rfl⟩) rfl hl.1 rfl (Nat.le_of_ble_eq_true rfl) dX0_targetNamed_22 ⟨Nat.le_refl 0, Nat.le_refl 0⟩ (fun H locs hW => ?_)
      refine lv_aload_n hx hb dX0_targetNamed_25 rfl (lv_at hl 2 rfl) ?_
      obtain ⟨q2, hq2, h⟩ := ob h
      refine wc_Vi C hW (k := k1) (As := []) (rest := [.int q1.1]) (c_X1_size G k1 hk1 q1.2 q2 hq2) hk1 rfl (by decide) (cwV 0 hts gX0_targetNamed_X1_size rfl rfl rfl yd_X1_size ⟨Nat.le_of_ble_eq_true rfl, Nat.le_of_ble_eq_true rfl⟩) rfl hl.1 rfl (Nat.le_of_ble_eq_true rfl) dX0_targetNamed_26 ⟨Nat.le_refl 0, Nat.le_refl 0⟩ (fun H locs hW => ?_)
      refine lv_icmp_ne (tgt := 60) hx hb dX0_targetNamed_29 (by decide) (fun c2 => ?_) (fun c2 => ?_)
      · replace h := iff_ h c2
        refine lv_iinc (v := (x2 + 1)) (lv' := [(2, .int (x2 + 1)), (3, .int (M (k0 + 5) x2.toNatClampNeg)), (0, .ref (ga G k0)), (1, .ref (ga G k1))]) hx hb dX0_targetNamed_60 hl (k := 3) rfl rfl (by decide) rfl (fun ls hl => ?_)
        refine lv_goto (tgt := 2) hx hb dX0_targetNamed_63 (by decide) ?_
        exact ih k0 hk0 k1 hk1 (x2 + 1) q2.2 y _ _ ls h hW (lv_sub hl [2, 3, 0] rfl)
      · replace h := ift h c2
        refine lv_aload_n hx hb dX0_targetNamed_32 rfl (lv_at hl 2 rfl) ?_
        refine lv_iconst (v := 0) hx hb dX0_targetNamed_33 (by decide) ?_
        refine lv_aload_n hx hb dX0_targetNamed_34 rfl (lv_at hl 1 rfl) ?_
        refine wg_r C hW (k := k0) (ci := 0) (j := 0) (q := (k0 + 1)) hk0 rfl ⟨by decide, rfl⟩ inX0 (by decide) (rfq hk0 rfl) hL14 (fun _ h9 => h9) dX0_targetNamed_35 ?_
        refine lv_iload_n hx hb dX0_targetNamed_38 rfl (lv_at hl 0 rfl) ?_
        refine lv_iconst (v := 1) hx hb dX0_targetNamed_39 (by decide) ?_
        refine lv_iadd hx hb dX0_targetNamed_40 ?_
        refine lv_aload_n hx hb dX0_targetNamed_41 rfl (lv_at hl 2 rfl) ?_
        obtain ⟨q3, hq3, h⟩ := ob h
        refine wc_Vi C hW (k := k1) (As := []) (rest := [.int ((M (k0 + 5) x2.toNatClampNeg) + 1), .ref (ga G (k0 + 1)), .int 0, .ref (ga G k1)]) (c_X1_size G k1 hk1 q2.2 q3 hq3) hk1 rfl (by decide) (cwV 0 hts gX0_targetNamed_X1_size rfl rfl rfl yd_X1_size ⟨Nat.le_of_ble_eq_true rfl, Nat.le_of_ble_eq_true rfl⟩) rfl hl.1 rfl (Nat.le_of_ble_eq_true rfl) dX0_targetNamed_42 ⟨Nat.le_refl 0, Nat.le_refl 0⟩ (fun H locs hW => ?_)
        obtain ⟨q4, hq4, h⟩ := ob h
        refine wc_Vi C hW (k := k1) (As := [.int 0, .ref (ga G (k0 + 1)), .int ((M (k0 + 5) x2.toNatClampNeg) + 1), .int q3.1]) (rest := []) (c_X1_agrees G k1 hk1 0 (k0 + 1) (kd_r hk0) ((M (k0 + 5) x2.toNatClampNeg) + 1) q3.1 q3.2 q4 hq4) hk1 rfl (by decide) (cwV 4 hts gX0_targetNamed_X1_agrees rfl rfl rfl yd_X1_agrees ⟨Nat.le_of_ble_eq_true rfl, Nat.le_of_ble_eq_true rfl⟩) rfl hl.1 rfl (Nat.le_of_ble_eq_true rfl) dX0_targetNamed_45 ⟨Nat.le_refl 0, Nat.le_refl 0⟩ (fun H locs hW => ?_)
        refine lv_if_eq (tgt := 60) hx hb dX0_targetNamed_48 (by decide) (fun c3 => ?_) (fun c3 => ?_)
        · replace h := ift h c3
          refine lv_iinc (v := (x2 + 1)) (lv' := [(2, .int (x2 + 1)), (3, .int (M (k0 + 5) x2.toNatClampNeg)), (0, .ref (ga G k0)), (1, .ref (ga G k1))]) hx hb dX0_targetNamed_60 hl (k := 3) rfl rfl (by decide) rfl (fun ls hl => ?_)
          refine lv_goto (tgt := 2) hx hb dX0_targetNamed_63 (by decide) ?_
          exact ih k0 hk0 k1 hk1 (x2 + 1) q4.2 y _ _ ls h hW (lv_sub hl [2, 3, 0] rfl)
        · replace h := iff_ h c3
          refine lv_iload_n hx hb dX0_targetNamed_51 rfl (lv_at hl 0 rfl) ?_
          refine lv_iconst (v := 1) hx hb dX0_targetNamed_52 (by decide) ?_
          refine lv_iadd hx hb dX0_targetNamed_53 ?_
          refine lv_aload_n hx hb dX0_targetNamed_54 rfl (lv_at hl 2 rfl) ?_
          obtain ⟨q5, hq5, h⟩ := ob h
          refine wc_Vi C hW (k := k1) (As := []) (rest := [.int ((M (k0 + 5) x2.toNatClampNeg) + 1)]) (c_X1_size G k1 hk1 q4.2 q5 hq5) hk1 rfl (by decide) (cwV 0 hts gX0_targetNamed_X1_size rfl rfl rfl yd_X1_size ⟨Nat.le_of_ble_eq_true rfl, Nat.le_of_ble_eq_true rfl⟩) rfl hl.1 rfl (Nat.le_of_ble_eq_true rfl) dX0_targetNamed_55 ⟨Nat.le_refl 0, Nat.le_refl 0⟩ (fun H locs hW => ?_)
          refine lv_iadd hx hb dX0_targetNamed_58 ?_
          exact wr_i C hr hW h dX0_targetNamed_59
set_option maxHeartbeats 4000000 in
set_option maxRecDepth 100000 in
theorem c_X0_targetNamed (G : GG) (k : Nat) (hk : isK k 0) (b1 : Nat) (hb1 : isK b1 1) (M : Me) (y : Int32 × Me) (h : f_X0_targetNamed k b1 M = some y) : CI G yX0_targetNamed wsX0_targetNamed (rmd 2 0 0) [.ref (ga G k), .ref (ga G b1)] M y := by
  rw [f_X0_targetNamed] at h
  refine co_o (by decide) rfl rfl (Nat.le_of_ble_eq_true rfl) (fun p e s m below meth c ls C hr hW hl => ?_)
  have hx := C.1
  have hb := C.2.1
  have hown := C.2.2.2.1
  have hts := C.2.2.2.2.1
  have hl : lv_has ls 4 [(0, .ref (ga G k)), (1, .ref (ga G b1))] := hl
  refine lv_iconst (v := 0) hx hb dX0_targetNamed_0 (by decide) ?_
  refine lv_istore_n (lv' := [(2, .int 0), (0, .ref (ga G k)), (1, .ref (ga G b1))]) hx hb dX0_targetNamed_1 rfl hl (by decide) rfl (fun ls hl => ?_)
  exact L_X0_targetNamed_2 C hr 200 k hk b1 hb1 0 M y _ _ ls h hW (lv_sub hl [1, 2, 0] rfl)
theorem yd_X0_delegationCount : yX0_delegationCount.cls = RX0 ∧ yX0_delegationCount.cls ≠ "java/lang/invoke/MethodHandle" ∧ yX0_delegationCount.cls ≠ "java/lang/invoke/VarHandle" ∧ (parseMethodDescriptor yX0_delegationCount.desc).map (fun d => d.parameters.length) = some 0 := by decide +kernel
set_option maxHeartbeats 4000000 in
set_option maxRecDepth 100000 in
theorem c_X0_delegationCount (G : GG) (k : Nat) (hk : isK k 0) (M : Me) (y : Int32 × Me) (h : f_X0_delegationCount k M = some y) : CI G yX0_delegationCount wsX0_delegationCount (rmd 0 0 0) [.ref (ga G k)] M y := by
  rw [f_X0_delegationCount] at h
  refine co_o (by decide) rfl rfl (Nat.le_of_ble_eq_true rfl) (fun p e s m below meth c ls C hr hW hl => ?_)
  have hx := C.1
  have hb := C.2.1
  have hown := C.2.2.2.1
  have hts := C.2.2.2.2.1
  have inX0 : ∀ w ∈ wsX00, w ∈ wsX0_delegationCount := by decide +kernel
  have hL114 := hts (.fieldLink RX0 114 "TrustedUpdates$Document" "delegationCount" "I") (by decide +kernel)
  have hl : lv_has ls 1 [(0, .ref (ga G k))] := hl
  refine lv_aload_n hx hb dX0_delegationCount_0 rfl (lv_at hl 0 rfl) ?_
  refine wg_i C hW (k := k) (ci := 0) (j := 13) hk rfl ⟨by decide, rfl⟩ inX0 (by decide) (rfq hk rfl) (v := (M k 13)) rfl hL114 (fun _ h9 => h9) dX0_delegationCount_1 ?_
  exact wr_i C hr hW h dX0_delegationCount_4
theorem yd_X0_delegationPlace : yX0_delegationPlace.cls = RX0 ∧ yX0_delegationPlace.cls ≠ "java/lang/invoke/MethodHandle" ∧ yX0_delegationPlace.cls ≠ "java/lang/invoke/VarHandle" ∧ (parseMethodDescriptor yX0_delegationPlace.desc).map (fun d => d.parameters.length) = some 1 := by decide +kernel
set_option maxHeartbeats 4000000 in
set_option maxRecDepth 100000 in
theorem c_X0_delegationPlace (G : GG) (k : Nat) (hk : isK k 0) (a1 : Int32) (M : Me) (y : Int32 × Me) (h : f_X0_delegationPlace k a1 M = some y) : CI G yX0_delegationPlace wsX0_delegationPlace (rmd 0 0 0) [.ref (ga G k), .int a1] M y := by
  rw [f_X0_delegationPlace] at h
  refine co_o (by decide) rfl rfl (Nat.le_of_ble_eq_true rfl) (fun p e s m below meth c ls C hr hW hl => ?_)
  have hx := C.1
  have hb := C.2.1
  have hown := C.2.2.2.1
  have hts := C.2.2.2.2.1
  have inX0 : ∀ w ∈ wsX00, w ∈ wsX0_delegationPlace := by decide +kernel
  have hL30 := hts (.fieldLink RX0 30 "TrustedUpdates$Document" "delegations" "[I") (by decide +kernel)
  have hL114 := hts (.fieldLink RX0 114 "TrustedUpdates$Document" "delegationCount" "I") (by decide +kernel)
  have hl : lv_has ls 2 [(0, .ref (ga G k)), (1, .int a1)] := hl
  refine lv_iload_n hx hb dX0_delegationPlace_0 rfl (lv_at hl 1 rfl) ?_
  refine lv_if_lt (tgt := 21) hx hb dX0_delegationPlace_1 (by decide) (fun c1 => ?_) (fun c1 => ?_)
  · replace h := ift h c1
    refine lv_iconst (v := (-1)) hx hb dX0_delegationPlace_21 (by decide) ?_
    exact wr_i C hr hW h dX0_delegationPlace_22
  · replace h := iff_ h c1
    refine lv_iload_n hx hb dX0_delegationPlace_4 rfl (lv_at hl 1 rfl) ?_
    refine lv_aload_n hx hb dX0_delegationPlace_5 rfl (lv_at hl 0 rfl) ?_
    refine wg_i C hW (k := k) (ci := 0) (j := 13) hk rfl ⟨by decide, rfl⟩ inX0 (by decide) (rfq hk rfl) (v := (M k 13)) rfl hL114 (fun _ h9 => h9) dX0_delegationPlace_6 ?_
    refine lv_icmp_ge (tgt := 21) hx hb dX0_delegationPlace_9 (by decide) (fun c2 => ?_) (fun c2 => ?_)
    · replace h := ift h c2
      refine lv_iconst (v := (-1)) hx hb dX0_delegationPlace_21 (by decide) ?_
      exact wr_i C hr hW h dX0_delegationPlace_22
    · replace h := iff_ h c2
      refine lv_aload_n hx hb dX0_delegationPlace_12 rfl (lv_at hl 0 rfl) ?_
      refine wg_r C hW (k := k) (ci := 0) (j := 4) (q := (k + 6)) hk rfl ⟨by decide, rfl⟩ inX0 (by decide) (rfq hk rfl) hL30 (fun _ h9 => h9) dX0_delegationPlace_13 ?_
      refine lv_iload_n hx hb dX0_delegationPlace_16 rfl (lv_at hl 1 rfl) ?_
      obtain ⟨hg1, h⟩ := ifg h
      refine wa_l C hW (k := (k + 6)) (kd_a6 hk) hg1 dX0_delegationPlace_17 (v := (M (k + 6) a1.toNatClampNeg)) rfl ?_
      refine lv_goto (tgt := 22) hx hb dX0_delegationPlace_18 (by decide) ?_
      exact wr_i C hr hW h dX0_delegationPlace_22
theorem yd_X0_delegateOf : yX0_delegateOf.cls = RX0 ∧ yX0_delegateOf.cls ≠ "java/lang/invoke/MethodHandle" ∧ yX0_delegateOf.cls ≠ "java/lang/invoke/VarHandle" ∧ (parseMethodDescriptor yX0_delegateOf.desc).map (fun d => d.parameters.length) = some 1 := by decide +kernel
set_option maxHeartbeats 4000000 in
set_option maxRecDepth 100000 in
theorem c_X0_delegateOf (G : GG) (k : Nat) (hk : isK k 0) (a1 : Int32) (M : Me) (y : Int32 × Me) (h : f_X0_delegateOf k a1 M = some y) : CI G yX0_delegateOf wsX0_delegateOf (rmd 1 0 0) [.ref (ga G k), .int a1] M y := by
  rw [f_X0_delegateOf] at h
  refine co_o (by decide) rfl rfl (Nat.le_of_ble_eq_true rfl) (fun p e s m below meth c ls C hr hW hl => ?_)
  have hx := C.1
  have hb := C.2.1
  have hown := C.2.2.2.1
  have hts := C.2.2.2.2.1
  have inX0 : ∀ w ∈ wsX00, w ∈ wsX0_delegateOf := by decide +kernel
  have hL14 := hts (.fieldLink RX0 14 "TrustedUpdates$Document" "row" "LTrustedUpdates$Row;") (by decide +kernel)
  have hl : lv_has ls 2 [(0, .ref (ga G k)), (1, .int a1)] := hl
  refine lv_aload_n hx hb dX0_delegateOf_0 rfl (lv_at hl 0 rfl) ?_
  refine wg_r C hW (k := k) (ci := 0) (j := 0) (q := (k + 1)) hk rfl ⟨by decide, rfl⟩ inX0 (by decide) (rfq hk rfl) hL14 (fun _ h9 => h9) dX0_delegateOf_1 ?_
  refine lv_aload_n hx hb dX0_delegateOf_4 rfl (lv_at hl 0 rfl) ?_
  refine lv_iload_n hx hb dX0_delegateOf_5 rfl (lv_at hl 1 rfl) ?_
  obtain ⟨q1, hq1, h⟩ := ob h
  refine wc_Vi C hW (k := k) (As := [.int a1]) (rest := [.ref (ga G (k + 1))]) (c_X0_delegationPlace G k hk a1 M q1 hq1) hk rfl (by decide) (cwV 1 hts gX0_delegateOf_X0_delegationPlace rfl rfl rfl yd_X0_delegationPlace ⟨Nat.le_of_ble_eq_true rfl, Nat.le_of_ble_eq_true rfl⟩) rfl hl.1 rfl (Nat.le_of_ble_eq_true rfl) dX0_delegateOf_6 ⟨Nat.le_refl 0, Nat.le_refl 0⟩ (fun H locs hW => ?_)
  obtain ⟨q2, hq2, h⟩ := ob h
  refine wc_Vi C hW (k := (k + 1)) (As := [.int q1.1]) (rest := []) (c_X1_byteAt G (k + 1) (kd_r hk) q1.1 q1.2 q2 hq2) (kd_r hk) rfl (by decide) (cwV 1 hts gX0_delegateOf_X1_byteAt rfl rfl rfl yd_X1_byteAt ⟨Nat.le_of_ble_eq_true rfl, Nat.le_of_ble_eq_true rfl⟩) rfl hl.1 rfl (Nat.le_of_ble_eq_true rfl) dX0_delegateOf_9 ⟨Nat.le_refl 0, Nat.le_refl 0⟩ (fun H locs hW => ?_)
  exact wr_i C hr hW h dX0_delegateOf_12
theorem yd_X0_isFinal : yX0_isFinal.cls = RX0 ∧ yX0_isFinal.cls ≠ "java/lang/invoke/MethodHandle" ∧ yX0_isFinal.cls ≠ "java/lang/invoke/VarHandle" ∧ (parseMethodDescriptor yX0_isFinal.desc).map (fun d => d.parameters.length) = some 1 := by decide +kernel
set_option maxHeartbeats 4000000 in
set_option maxRecDepth 100000 in
theorem c_X0_isFinal (G : GG) (k : Nat) (hk : isK k 0) (a1 : Int32) (M : Me) (y : Int32 × Me) (h : f_X0_isFinal k a1 M = some y) : CI G yX0_isFinal wsX0_isFinal (rmd 1 0 0) [.ref (ga G k), .int a1] M y := by
  rw [f_X0_isFinal] at h
  refine co_o (by decide) rfl rfl (Nat.le_of_ble_eq_true rfl) (fun p e s m below meth c ls C hr hW hl => ?_)
  have hx := C.1
  have hb := C.2.1
  have hown := C.2.2.2.1
  have hts := C.2.2.2.2.1
  have inX0 : ∀ w ∈ wsX00, w ∈ wsX0_isFinal := by decide +kernel
  have hL14 := hts (.fieldLink RX0 14 "TrustedUpdates$Document" "row" "LTrustedUpdates$Row;") (by decide +kernel)
  have hl : lv_has ls 2 [(0, .ref (ga G k)), (1, .int a1)] := hl
  refine lv_aload_n hx hb dX0_isFinal_0 rfl (lv_at hl 0 rfl) ?_
  refine wg_r C hW (k := k) (ci := 0) (j := 0) (q := (k + 1)) hk rfl ⟨by decide, rfl⟩ inX0 (by decide) (rfq hk rfl) hL14 (fun _ h9 => h9) dX0_isFinal_1 ?_
  refine lv_aload_n hx hb dX0_isFinal_4 rfl (lv_at hl 0 rfl) ?_
  refine lv_iload_n hx hb dX0_isFinal_5 rfl (lv_at hl 1 rfl) ?_
  obtain ⟨q1, hq1, h⟩ := ob h
  refine wc_Vi C hW (k := k) (As := [.int a1]) (rest := [.ref (ga G (k + 1))]) (c_X0_delegationPlace G k hk a1 M q1 hq1) hk rfl (by decide) (cwV 1 hts gX0_isFinal_X0_delegationPlace rfl rfl rfl yd_X0_delegationPlace ⟨Nat.le_of_ble_eq_true rfl, Nat.le_of_ble_eq_true rfl⟩) rfl hl.1 rfl (Nat.le_of_ble_eq_true rfl) dX0_isFinal_6 ⟨Nat.le_refl 0, Nat.le_refl 0⟩ (fun H locs hW => ?_)
  refine lv_iconst (v := 1) hx hb dX0_isFinal_9 (by decide) ?_
  refine lv_iadd hx hb dX0_isFinal_10 ?_
  obtain ⟨q2, hq2, h⟩ := ob h
  refine wc_Vi C hW (k := (k + 1)) (As := [.int (q1.1 + 1)]) (rest := []) (c_X1_byteAt G (k + 1) (kd_r hk) (q1.1 + 1) q1.2 q2 hq2) (kd_r hk) rfl (by decide) (cwV 1 hts gX0_isFinal_X1_byteAt rfl rfl rfl yd_X1_byteAt ⟨Nat.le_of_ble_eq_true rfl, Nat.le_of_ble_eq_true rfl⟩) rfl hl.1 rfl (Nat.le_of_ble_eq_true rfl) dX0_isFinal_11 ⟨Nat.le_refl 0, Nat.le_refl 0⟩ (fun H locs hW => ?_)
  refine lv_iconst (v := 1) hx hb dX0_isFinal_14 (by decide) ?_
  refine lv_icmp_ne (tgt := 22) hx hb dX0_isFinal_15 (by decide) (fun c1 => ?_) (fun c1 => ?_)
  · replace h := iff_ h c1
    refine lv_iconst (v := 0) hx hb dX0_isFinal_22 (by decide) ?_
    exact wr_z C hr (Or.inl rfl) hW h dX0_isFinal_23
  · replace h := ift h c1
    refine lv_iconst (v := 1) hx hb dX0_isFinal_18 (by decide) ?_
    refine lv_goto (tgt := 23) hx hb dX0_isFinal_19 (by decide) ?_
    exact wr_z C hr (Or.inr rfl) hW h dX0_isFinal_23
theorem yd_X0_delegatedKeySet : yX0_delegatedKeySet.cls = RX0 ∧ yX0_delegatedKeySet.cls ≠ "java/lang/invoke/MethodHandle" ∧ yX0_delegatedKeySet.cls ≠ "java/lang/invoke/VarHandle" ∧ (parseMethodDescriptor yX0_delegatedKeySet.desc).map (fun d => d.parameters.length) = some 1 := by decide +kernel
set_option maxHeartbeats 4000000 in
set_option maxRecDepth 100000 in
theorem c_X0_delegatedKeySet (G : GG) (k : Nat) (hk : isK k 0) (a1 : Int32) (M : Me) (y : Int32 × Me) (h : f_X0_delegatedKeySet k a1 M = some y) : CI G yX0_delegatedKeySet wsX0_delegatedKeySet (rmd 1 0 0) [.ref (ga G k), .int a1] M y := by
  rw [f_X0_delegatedKeySet] at h
  refine co_o (by decide) rfl rfl (Nat.le_of_ble_eq_true rfl) (fun p e s m below meth c ls C hr hW hl => ?_)
  have hx := C.1
  have hb := C.2.1
  have hown := C.2.2.2.1
  have hts := C.2.2.2.2.1
  have hl : lv_has ls 2 [(0, .ref (ga G k)), (1, .int a1)] := hl
  refine lv_aload_n hx hb dX0_delegatedKeySet_0 rfl (lv_at hl 0 rfl) ?_
  refine lv_iload_n hx hb dX0_delegatedKeySet_1 rfl (lv_at hl 1 rfl) ?_
  obtain ⟨q1, hq1, h⟩ := ob h
  refine wc_Vi C hW (k := k) (As := [.int a1]) (rest := []) (c_X0_delegationPlace G k hk a1 M q1 hq1) hk rfl (by decide) (cwV 1 hts gX0_delegatedKeySet_X0_delegationPlace rfl rfl rfl yd_X0_delegationPlace ⟨Nat.le_of_ble_eq_true rfl, Nat.le_of_ble_eq_true rfl⟩) rfl hl.1 rfl (Nat.le_of_ble_eq_true rfl) dX0_delegatedKeySet_2 ⟨Nat.le_refl 0, Nat.le_refl 0⟩ (fun H locs hW => ?_)
  refine lv_iconst (v := 2) hx hb dX0_delegatedKeySet_5 (by decide) ?_
  refine lv_iadd hx hb dX0_delegatedKeySet_6 ?_
  exact wr_i C hr hW h dX0_delegatedKeySet_7
theorem yd_X0_delegates : yX0_delegates.cls = RX0 ∧ yX0_delegates.cls ≠ "java/lang/invoke/MethodHandle" ∧ yX0_delegates.cls ≠ "java/lang/invoke/VarHandle" ∧ (parseMethodDescriptor yX0_delegates.desc).map (fun d => d.parameters.length) = some 2 := by decide +kernel
set_option maxHeartbeats 4000000 in
set_option maxRecDepth 100000 in
theorem c_X0_delegates (G : GG) (k : Nat) (hk : isK k 0) (a1 : Int32) (b2 : Nat) (hb2 : isK b2 1) (M : Me) (y : Int32 × Me) (h : f_X0_delegates k a1 b2 M = some y) : CI G yX0_delegates wsX0_delegates (rmd 2 0 0) [.ref (ga G k), .int a1, .ref (ga G b2)] M y := by
  rw [f_X0_delegates] at h
  refine co_o (by decide) rfl rfl (Nat.le_of_ble_eq_true rfl) (fun p e s m below meth c ls C hr hW hl => ?_)
  have hx := C.1
  have hb := C.2.1
  have hown := C.2.2.2.1
  have hts := C.2.2.2.2.1
  have inX0 : ∀ w ∈ wsX00, w ∈ wsX0_delegates := by decide +kernel
  have hL14 := hts (.fieldLink RX0 14 "TrustedUpdates$Document" "row" "LTrustedUpdates$Row;") (by decide +kernel)
  have hl : lv_has ls 5 [(0, .ref (ga G k)), (1, .int a1), (2, .ref (ga G b2))] := hl
  refine lv_aload_n hx hb dX0_delegates_0 rfl (lv_at hl 0 rfl) ?_
  refine lv_iload_n hx hb dX0_delegates_1 rfl (lv_at hl 1 rfl) ?_
  obtain ⟨q1, hq1, h⟩ := ob h
  refine wc_Vi C hW (k := k) (As := [.int a1]) (rest := []) (c_X0_delegatedKeySet G k hk a1 M q1 hq1) hk rfl (by decide) (cwV 1 hts gX0_delegates_X0_delegatedKeySet rfl rfl rfl yd_X0_delegatedKeySet ⟨Nat.le_of_ble_eq_true rfl, Nat.le_of_ble_eq_true rfl⟩) rfl hl.1 rfl (Nat.le_of_ble_eq_true rfl) dX0_delegates_2 ⟨Nat.le_refl 0, Nat.le_refl 0⟩ (fun H locs hW => ?_)
  refine lv_istore_n (lv' := [(3, .int q1.1), (0, .ref (ga G k)), (1, .int a1), (2, .ref (ga G b2))]) hx hb dX0_delegates_5 rfl hl (by decide) rfl (fun ls hl => ?_)
  refine lv_iload_n hx hb dX0_delegates_6 rfl (lv_at hl 0 rfl) ?_
  refine lv_iconst (v := 2) hx hb dX0_delegates_7 (by decide) ?_
  refine lv_iadd hx hb dX0_delegates_8 ?_
  refine lv_aload_n hx hb dX0_delegates_9 rfl (lv_at hl 1 rfl) ?_
  refine wg_r C hW (k := k) (ci := 0) (j := 0) (q := (k + 1)) hk rfl ⟨by decide, rfl⟩ inX0 (by decide) (rfq hk rfl) hL14 (fun _ h9 => h9) dX0_delegates_10 ?_
  refine lv_iload_n hx hb dX0_delegates_13 rfl (lv_at hl 0 rfl) ?_
  refine lv_iconst (v := 1) hx hb dX0_delegates_14 (by decide) ?_
  refine lv_iadd hx hb dX0_delegates_15 ?_
  obtain ⟨q2, hq2, h⟩ := ob h
  refine wc_Vi C hW (k := (k + 1)) (As := [.int (q1.1 + 1)]) (rest := [.int (q1.1 + 2)]) (c_X1_byteAt G (k + 1) (kd_r hk) (q1.1 + 1) q1.2 q2 hq2) (kd_r hk) rfl (by decide) (cwV 1 hts gX0_delegates_X1_byteAt rfl rfl rfl yd_X1_byteAt ⟨Nat.le_of_ble_eq_true rfl, Nat.le_of_ble_eq_true rfl⟩) rfl hl.1 rfl (Nat.le_of_ble_eq_true rfl) dX0_delegates_16 ⟨Nat.le_refl 0, Nat.le_refl 0⟩ (fun H locs hW => ?_)
  refine lv_iadd hx hb dX0_delegates_19 ?_
  refine lv_istore (lv' := [(4, .int ((q1.1 + 2) + q2.1)), (3, .int q1.1), (0, .ref (ga G k)), (1, .int a1), (2, .ref (ga G b2))]) hx hb dX0_delegates_20 hl (by decide) rfl (fun ls hl => ?_)
  refine lv_aload_n hx hb dX0_delegates_22 rfl (lv_at hl 4 rfl) ?_
  refine lv_iconst (v := 0) hx hb dX0_delegates_23 (by decide) ?_
  refine lv_aload_n hx hb dX0_delegates_24 rfl (lv_at hl 2 rfl) ?_
  refine wg_r C hW (k := k) (ci := 0) (j := 0) (q := (k + 1)) hk rfl ⟨by decide, rfl⟩ inX0 (by decide) (rfq hk rfl) hL14 (fun _ h9 => h9) dX0_delegates_25 ?_
  refine lv_iload hx hb dX0_delegates_28 (lv_at hl 0 rfl) ?_
  refine lv_iconst (v := 1) hx hb dX0_delegates_30 (by decide) ?_
  refine lv_iadd hx hb dX0_delegates_31 ?_
  refine lv_aload_n hx hb dX0_delegates_32 rfl (lv_at hl 2 rfl) ?_
  refine wg_r C hW (k := k) (ci := 0) (j := 0) (q := (k + 1)) hk rfl ⟨by decide, rfl⟩ inX0 (by decide) (rfq hk rfl) hL14 (fun _ h9 => h9) dX0_delegates_33 ?_
  refine lv_iload hx hb dX0_delegates_36 (lv_at hl 0 rfl) ?_
  obtain ⟨q3, hq3, h⟩ := ob h
  refine wc_Vi C hW (k := (k + 1)) (As := [.int ((q1.1 + 2) + q2.1)]) (rest := [.int (((q1.1 + 2) + q2.1) + 1), .ref (ga G (k + 1)), .int 0, .ref (ga G b2)]) (c_X1_byteAt G (k + 1) (kd_r hk) ((q1.1 + 2) + q2.1) q2.2 q3 hq3) (kd_r hk) rfl (by decide) (cwV 1 hts gX0_delegates_X1_byteAt rfl rfl rfl yd_X1_byteAt ⟨Nat.le_of_ble_eq_true rfl, Nat.le_of_ble_eq_true rfl⟩) rfl hl.1 rfl (Nat.le_of_ble_eq_true rfl) dX0_delegates_38 ⟨Nat.le_refl 0, Nat.le_refl 0⟩ (fun H locs hW => ?_)
  obtain ⟨q4, hq4, h⟩ := ob h
  refine wc_Vi C hW (k := b2) (As := [.int 0, .ref (ga G (k + 1)), .int (((q1.1 + 2) + q2.1) + 1), .int q3.1]) (rest := []) (c_X1_agrees G b2 hb2 0 (k + 1) (kd_r hk) (((q1.1 + 2) + q2.1) + 1) q3.1 q3.2 q4 hq4) hb2 rfl (by decide) (cwV 4 hts gX0_delegates_X1_agrees rfl rfl rfl yd_X1_agrees ⟨Nat.le_of_ble_eq_true rfl, Nat.le_of_ble_eq_true rfl⟩) rfl hl.1 rfl (Nat.le_of_ble_eq_true rfl) dX0_delegates_41 ⟨Nat.le_refl 0, Nat.le_refl 0⟩ (fun H locs hW => ?_)
  obtain ⟨hg1, h⟩ := ifg h
  exact wr_z C hr (bB_or hg1) hW h dX0_delegates_44
