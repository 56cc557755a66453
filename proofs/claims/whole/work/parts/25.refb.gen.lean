theorem yd_X5_passTargets : yX5_passTargets.cls = RX5 ∧ yX5_passTargets.cls ≠ "java/lang/invoke/MethodHandle" ∧ yX5_passTargets.cls ≠ "java/lang/invoke/VarHandle" ∧ (parseMethodDescriptor yX5_passTargets.desc).map (fun d => d.parameters.length) = some 0 := by decide +kernel
set_option maxHeartbeats 4000000 in
set_option maxRecDepth 100000 in
theorem L_X5_passTargets_41 {G : GG} {p : Program} {e : Env} {s : State} {m : MethodId} {args : Array Value} {below : List Frame} {meth : Method} {c : Code} {Q : State → Prop} (C : Cx G wsX5_passTargets RX5 cX5_passTargets 6 p s m args meth c) : ∀ (n : Nat) (x1 : Int32) (x2 : Int32) (x3 : Int32) (x4 : Int32) (x5 : Int32) (M : Me) (y : Int32 × Me) (H : Heap) (locs : List Loc) (ls : Array Slot), fL_X5_passTargets_41 n x1 x2 x3 x4 x5 M = some y → wH G s M H locs → lv_has ls 6 [(0, .ref (ga G 73)), (1, .int x1), (2, .int x2), (3, .int x3), (4, .int x4), (5, .int x5)] → (∀ (H : Heap) (locs : List Loc) (ls : Array Slot), wH G s y.2 H locs → lv_has ls 6 [(0, .ref (ga G 73)), (1, .int x1), (2, .int x2), (3, .int x3)] → W p (gl G) e (rmd 3 0 0) s m args below meth c H locs 0 0 Q (F0 m 93 ls [])) → W p (gl G) e (rmd 3 0 0) s m args below meth c H locs 0 0 Q (F0 m 41 ls []) := by
  have hx := C.1
  have hb := C.2.1
  have hown := C.2.2.2.1
  have hts := C.2.2.2.2.1
  have inX5 : ∀ w ∈ wsX50, w ∈ wsX5_passTargets := by decide +kernel
  have hL7 := hts (.fieldLink RX5 7 "TrustedUpdatesModel" "row" "[I") (by decide +kernel)
  have hL45 := hts (.fieldLink RX5 45 "TrustedUpdatesModel" "good" "Z") (by decide +kernel)
  intro n
  induction n with
  | zero => intro x1 x2 x3 x4 x5 M y H locs ls h; exact nso h
  | succ n ih =>
    intro x1 x2 x3 x4 x5 M y H locs ls h hW hl kx
    rw [fL_X5_passTargets_41] at h
    refine lv_aload_n hx hb dX5_passTargets_41 rfl (lv_at hl 0 rfl) ?_
    refine wg_i C hW (k := 73) (ci := 5) (j := 9) k73 rfl ⟨by decide, rfl⟩ inX5 (by decide) (rfq k73 rfl) (v := (M 73 9)) rfl hL45 (fun _ h9 => h9) dX5_passTargets_42 ?_
    refine lv_if_eq (tgt := 93) hx hb dX5_passTargets_45 (by decide) (fun c3 => ?_) (fun c3 => ?_)
    · replace h := ift h c3
      cases h
      exact kx _ _ ls hW (lv_sub hl [0, 1, 2, 3] rfl)
    · replace h := iff_ h c3
      refine lv_iload hx hb dX5_passTargets_48 (lv_at hl 5 rfl) ?_
      refine lv_iload hx hb dX5_passTargets_50 (lv_at hl 4 rfl) ?_
      refine lv_icmp_ge (tgt := 93) hx hb dX5_passTargets_52 (by decide) (fun c4 => ?_) (fun c4 => ?_)
      · replace h := ift h c4
        cases h
        exact kx _ _ ls hW (lv_sub hl [0, 1, 2, 3] rfl)
      · replace h := iff_ h c4
        refine lv_aload_n hx hb dX5_passTargets_55 rfl (lv_at hl 0 rfl) ?_
        refine lv_aload_n hx hb dX5_passTargets_56 rfl (lv_at hl 0 rfl) ?_
        refine lv_iload hx hb dX5_passTargets_57 (lv_at hl 5 rfl) ?_
        refine lv_iload hx hb dX5_passTargets_59 (lv_at hl 4 rfl) ?_
        obtain ⟨q3, hq3, h⟩ := ob h
        refine wc_Vi C hW (k := 73) (As := [.int x5, .int x4]) (rest := [.ref (ga G 73)]) (c_X5_areSame G x5 x4 M q3 hq3) k73 rfl (by decide) (cwV 2 hts gX5_passTargets_X5_areSame rfl rfl rfl yd_X5_areSame ⟨Nat.le_of_ble_eq_true rfl, Nat.le_of_ble_eq_true rfl⟩) rfl hl.1 rfl (Nat.le_of_ble_eq_true rfl) dX5_passTargets_61 ⟨Nat.le_refl 0, Nat.le_refl 0⟩ (fun H locs hW => ?_)
        refine lv_if_ne (tgt := 71) hx hb dX5_passTargets_64 (by decide) (fun c5 => ?_) (fun c5 => ?_)
        · replace h := iff_ h c5
          refine lv_iconst (v := 0) hx hb dX5_passTargets_71 (by decide) ?_
          refine wp_t C hW (k := 73) (ci := 5) (j := 9) (ty := .boolean) (nar_b (Or.inl rfl)).1 (nar_b (Or.inl rfl)).2 k73 rfl ⟨by decide, rfl⟩ inX5 tyX5 tyX5_ok nmX5 (by decide) (rfq k73 rfl) hL45 (fun _ h9 => h9) rfl rfl dX5_passTargets_72 (fun H locs hW => ?_)
          refine lv_iload hx hb dX5_passTargets_75 (lv_at hl 5 rfl) ?_
          refine lv_aload_n hx hb dX5_passTargets_77 rfl (lv_at hl 0 rfl) ?_
          refine wg_r C hW (k := 73) (ci := 5) (j := 1) (q := 74) k73 rfl ⟨by decide, rfl⟩ inX5 (by decide) (rfq k73 rfl) hL7 (fun _ h9 => h9) dX5_passTargets_78 ?_
          refine lv_iload hx hb dX5_passTargets_81 (lv_at hl 5 rfl) ?_
          obtain ⟨hg1, h⟩ := ifg h
          refine wa_l C hW (k := 74) k74 hg1 dX5_passTargets_83 (v := (q3.2 74 x5.toNatClampNeg)) (up_k (by decide)) ?_
          refine lv_iadd hx hb dX5_passTargets_84 ?_
          refine lv_bipush (v := 6) hx hb dX5_passTargets_85 (by decide) ?_
          refine lv_iadd hx hb dX5_passTargets_87 ?_
          refine lv_istore (lv' := [(5, .int ((x5 + (q3.2 74 x5.toNatClampNeg)) + 6)), (0, .ref (ga G 73)), (1, .int x1), (2, .int x2), (3, .int x3), (4, .int x4)]) hx hb dX5_passTargets_88 hl (by decide) rfl (fun ls hl => ?_)
          refine lv_goto (tgt := 41) hx hb dX5_passTargets_90 (by decide) ?_
          exact ih x1 x2 x3 x4 ((x5 + (q3.2 74 x5.toNatClampNeg)) + 6) (up q3.2 73 9 0) y _ _ ls h hW (lv_sub hl [1, 2, 3, 4, 5, 0] rfl) kx
        · replace h := ift h c5
          refine lv_iconst (v := 1) hx hb dX5_passTargets_67 (by decide) ?_
          refine lv_goto (tgt := 72) hx hb dX5_passTargets_68 (by decide) ?_
          refine wp_t C hW (k := 73) (ci := 5) (j := 9) (ty := .boolean) (nar_b (Or.inr rfl)).1 (nar_b (Or.inr rfl)).2 k73 rfl ⟨by decide, rfl⟩ inX5 tyX5 tyX5_ok nmX5 (by decide) (rfq k73 rfl) hL45 (fun _ h9 => h9) rfl rfl dX5_passTargets_72 (fun H locs hW => ?_)
          refine lv_iload hx hb dX5_passTargets_75 (lv_at hl 5 rfl) ?_
          refine lv_aload_n hx hb dX5_passTargets_77 rfl (lv_at hl 0 rfl) ?_
          refine wg_r C hW (k := 73) (ci := 5) (j := 1) (q := 74) k73 rfl ⟨by decide, rfl⟩ inX5 (by decide) (rfq k73 rfl) hL7 (fun _ h9 => h9) dX5_passTargets_78 ?_
          refine lv_iload hx hb dX5_passTargets_81 (lv_at hl 5 rfl) ?_
          obtain ⟨hg2, h⟩ := ifg h
          refine wa_l C hW (k := 74) k74 hg2 dX5_passTargets_83 (v := (q3.2 74 x5.toNatClampNeg)) (up_k (by decide)) ?_
          refine lv_iadd hx hb dX5_passTargets_84 ?_
          refine lv_bipush (v := 6) hx hb dX5_passTargets_85 (by decide) ?_
          refine lv_iadd hx hb dX5_passTargets_87 ?_
          refine lv_istore (lv' := [(5, .int ((x5 + (q3.2 74 x5.toNatClampNeg)) + 6)), (0, .ref (ga G 73)), (1, .int x1), (2, .int x2), (3, .int x3), (4, .int x4)]) hx hb dX5_passTargets_88 hl (by decide) rfl (fun ls hl => ?_)
          refine lv_goto (tgt := 41) hx hb dX5_passTargets_90 (by decide) ?_
          exact ih x1 x2 x3 x4 ((x5 + (q3.2 74 x5.toNatClampNeg)) + 6) (up q3.2 73 9 1) y _ _ ls h hW (lv_sub hl [1, 2, 3, 4, 5, 0] rfl) kx
set_option maxHeartbeats 4000000 in
set_option maxRecDepth 100000 in
theorem L_X5_passTargets_14 {G : GG} {p : Program} {e : Env} {s : State} {m : MethodId} {args : Array Value} {below : List Frame} {meth : Method} {c : Code} {Q : State → Prop} (C : Cx G wsX5_passTargets RX5 cX5_passTargets 6 p s m args meth c) : ∀ (n : Nat) (x1 : Int32) (x2 : Int32) (x3 : Int32) (M : Me) (y : Int32 × Me) (H : Heap) (locs : List Loc) (ls : Array Slot), fL_X5_passTargets_14 n x1 x2 x3 M = some y → wH G s M H locs → lv_has ls 6 [(0, .ref (ga G 73)), (1, .int x1), (2, .int x2), (3, .int x3)] → (∀ (H : Heap) (locs : List Loc) (ls : Array Slot), wH G s y.2 H locs → lv_has ls 6 [(0, .ref (ga G 73))] → W p (gl G) e (rmd 3 0 0) s m args below meth c H locs 0 0 Q (F0 m 104 ls [])) → W p (gl G) e (rmd 3 0 0) s m args below meth c H locs 0 0 Q (F0 m 14 ls []) := by
  have hx := C.1
  have hb := C.2.1
  have hown := C.2.2.2.1
  have hts := C.2.2.2.2.1
  have inX5 : ∀ w ∈ wsX50, w ∈ wsX5_passTargets := by decide +kernel
  have hL45 := hts (.fieldLink RX5 45 "TrustedUpdatesModel" "good" "Z") (by decide +kernel)
  have hL49 := hts (.fieldLink RX5 49 "TrustedUpdatesModel" "at" "I") (by decide +kernel)
  intro n
  induction n with
  | zero => intro x1 x2 x3 M y H locs ls h; exact nso h
  | succ n ih =>
    intro x1 x2 x3 M y H locs ls h hW hl kx
    rw [fL_X5_passTargets_14] at h
    refine lv_iload_n hx hb dX5_passTargets_14 rfl (lv_at hl 3 rfl) ?_
    refine lv_iload_n hx hb dX5_passTargets_15 rfl (lv_at hl 1 rfl) ?_
    refine lv_icmp_ge (tgt := 104) hx hb dX5_passTargets_16 (by decide) (fun c1 => ?_) (fun c1 => ?_)
    · replace h := ift h c1
      cases h
      exact kx _ _ ls hW (lv_sub hl [0] rfl)
    · replace h := iff_ h c1
      refine lv_aload_n hx hb dX5_passTargets_19 rfl (lv_at hl 0 rfl) ?_
      refine wg_i C hW (k := 73) (ci := 5) (j := 9) k73 rfl ⟨by decide, rfl⟩ inX5 (by decide) (rfq k73 rfl) (v := (M 73 9)) rfl hL45 (fun _ h9 => h9) dX5_passTargets_20 ?_
      refine lv_if_eq (tgt := 104) hx hb dX5_passTargets_23 (by decide) (fun c2 => ?_) (fun c2 => ?_)
      · replace h := ift h c2
        cases h
        exact kx _ _ ls hW (lv_sub hl [0] rfl)
      · replace h := iff_ h c2
        refine lv_aload_n hx hb dX5_passTargets_26 rfl (lv_at hl 0 rfl) ?_
        refine wg_i C hW (k := 73) (ci := 5) (j := 7) k73 rfl ⟨by decide, rfl⟩ inX5 (by decide) (rfq k73 rfl) (v := (M 73 7)) rfl hL49 (fun _ h9 => h9) dX5_passTargets_27 ?_
        refine lv_istore (lv' := [(4, .int (M 73 7)), (0, .ref (ga G 73)), (1, .int x1), (2, .int x2), (3, .int x3)]) hx hb dX5_passTargets_30 hl (by decide) rfl (fun ls hl => ?_)
        refine lv_aload_n hx hb dX5_passTargets_32 rfl (lv_at hl 1 rfl) ?_
        refine lv_iconst (v := 1) hx hb dX5_passTargets_33 (by decide) ?_
        refine lv_iconst (v := 4) hx hb dX5_passTargets_34 (by decide) ?_
        obtain ⟨q2, hq2, h⟩ := ob h
        refine wc_Vv C hW (k := 73) (As := [.int 1, .int 4]) (rest := []) (c_X5_passLetters G 1 4 M q2 hq2) k73 rfl (by decide) (cwV 2 hts gX5_passTargets_X5_passLetters rfl rfl rfl yd_X5_passLetters ⟨Nat.le_of_ble_eq_true rfl, Nat.le_of_ble_eq_true rfl⟩) rfl hl.1 rfl (Nat.le_of_ble_eq_true rfl) dX5_passTargets_35 ⟨Nat.le_refl 0, Nat.le_refl 0⟩ (fun H locs hW => ?_)
        refine lv_iload_n hx hb dX5_passTargets_38 rfl (lv_at hl 3 rfl) ?_
        refine lv_istore (lv' := [(5, .int x2), (4, .int (M 73 7)), (0, .ref (ga G 73)), (1, .int x1), (2, .int x2), (3, .int x3)]) hx hb dX5_passTargets_39 hl (by decide) rfl (fun ls hl => ?_)
        obtain ⟨q4, hq4, h⟩ := ob h
        refine L_X5_passTargets_41 C 200 x1 x2 x3 (M 73 7) x2 q2.2 q4 _ _ ls hq4 hW (lv_sub hl [2, 3, 4, 5, 1, 0] rfl) (fun H locs ls hW hl => ?_)
        refine lv_aload_n hx hb dX5_passTargets_93 rfl (lv_at hl 0 rfl) ?_
        refine lv_iconst (v := 5) hx hb dX5_passTargets_94 (by decide) ?_
        obtain ⟨q5, hq5, h⟩ := ob h
        refine wc_Vv C hW (k := 73) (As := [.int 5]) (rest := []) (c_X5_skip G 5 q4.2 q5 hq5) k73 rfl (by decide) (cwV 1 hts gX5_passTargets_X5_skip rfl rfl rfl yd_X5_skip ⟨Nat.le_of_ble_eq_true rfl, Nat.le_of_ble_eq_true rfl⟩) rfl hl.1 rfl (Nat.le_of_ble_eq_true rfl) dX5_passTargets_95 ⟨Nat.le_refl 0, Nat.le_refl 0⟩ (fun H locs hW => ?_)
        refine lv_iinc (v := (x3 + 1)) (lv' := [(3, .int (x3 + 1)), (0, .ref (ga G 73)), (1, .int x1), (2, .int x2)]) hx hb dX5_passTargets_98 hl (k := 3) rfl rfl (by decide) rfl (fun ls hl => ?_)
        refine lv_goto (tgt := 14) hx hb dX5_passTargets_101 (by decide) ?_
        exact ih x1 x2 (x3 + 1) q5.2 y _ _ ls h hW (lv_sub hl [1, 2, 3, 0] rfl) kx
set_option maxHeartbeats 4000000 in
set_option maxRecDepth 100000 in
theorem L_X5_passTargets_116 {G : GG} {p : Program} {e : Env} {s : State} {m : MethodId} {args : Array Value} {below : List Frame} {meth : Method} {c : Code} {Q : State → Prop} (C : Cx G wsX5_passTargets RX5 cX5_passTargets 6 p s m args meth c) : ∀ (n : Nat) (x1 : Int32) (x3 : Int32) (x4 : Int32) (M : Me) (y : Int32 × Me) (H : Heap) (locs : List Loc) (ls : Array Slot), fL_X5_passTargets_116 n x1 x3 x4 M = some y → wH G s M H locs → lv_has ls 6 [(0, .ref (ga G 73)), (1, .int x1), (3, .int x3), (4, .int x4)] → (∀ (H : Heap) (locs : List Loc) (ls : Array Slot), wH G s y.2 H locs → lv_has ls 6 [] → W p (gl G) e (rmd 3 0 0) s m args below meth c H locs 0 0 Q (F0 m 193 ls [])) → W p (gl G) e (rmd 3 0 0) s m args below meth c H locs 0 0 Q (F0 m 116 ls []) := by
  have hx := C.1
  have hb := C.2.1
  have hown := C.2.2.2.1
  have hts := C.2.2.2.2.1
  have inX5 : ∀ w ∈ wsX50, w ∈ wsX5_passTargets := by decide +kernel
  have hL45 := hts (.fieldLink RX5 45 "TrustedUpdatesModel" "good" "Z") (by decide +kernel)
  intro n
  induction n with
  | zero => intro x1 x3 x4 M y H locs ls h; exact nso h
  | succ n ih =>
    intro x1 x3 x4 M y H locs ls h hW hl kx
    rw [fL_X5_passTargets_116] at h
    refine lv_iload hx hb dX5_passTargets_116 (lv_at hl 3 rfl) ?_
    refine lv_iload_n hx hb dX5_passTargets_118 rfl (lv_at hl 1 rfl) ?_
    refine lv_icmp_ge (tgt := 193) hx hb dX5_passTargets_119 (by decide) (fun c6 => ?_) (fun c6 => ?_)
    · replace h := ift h c6
      cases h
      exact kx _ _ ls hW (lv_sub hl [] rfl)
    · replace h := iff_ h c6
      refine lv_aload_n hx hb dX5_passTargets_122 rfl (lv_at hl 0 rfl) ?_
      refine wg_i C hW (k := 73) (ci := 5) (j := 9) k73 rfl ⟨by decide, rfl⟩ inX5 (by decide) (rfq k73 rfl) (v := (M 73 9)) rfl hL45 (fun _ h9 => h9) dX5_passTargets_123 ?_
      refine lv_if_eq (tgt := 193) hx hb dX5_passTargets_126 (by decide) (fun c7 => ?_) (fun c7 => ?_)
      · replace h := ift h c7
        cases h
        exact kx _ _ ls hW (lv_sub hl [] rfl)
      · replace h := iff_ h c7
        refine lv_aload_n hx hb dX5_passTargets_129 rfl (lv_at hl 0 rfl) ?_
        refine lv_iconst (v := 4) hx hb dX5_passTargets_130 (by decide) ?_
        refine lv_bipush (v := 6) hx hb dX5_passTargets_131 (by decide) ?_
        obtain ⟨q8, hq8, h⟩ := ob h
        refine wc_Vi C hW (k := 73) (As := [.int 4, .int 6]) (rest := []) (c_X5_between G 4 6 M q8 hq8) k73 rfl (by decide) (cwV 2 hts gX5_passTargets_X5_between rfl rfl rfl yd_X5_between ⟨Nat.le_of_ble_eq_true rfl, Nat.le_of_ble_eq_true rfl⟩) rfl hl.1 rfl (Nat.le_of_ble_eq_true rfl) dX5_passTargets_133 ⟨Nat.le_refl 0, Nat.le_refl 0⟩ (fun H locs hW => ?_)
        refine lv_istore (lv' := [(5, .int q8.1), (0, .ref (ga G 73)), (1, .int x1), (3, .int x3), (4, .int x4)]) hx hb dX5_passTargets_136 hl (by decide) rfl (fun ls hl => ?_)
        refine lv_aload_n hx hb dX5_passTargets_138 rfl (lv_at hl 1 rfl) ?_
        refine lv_aload_n hx hb dX5_passTargets_139 rfl (lv_at hl 1 rfl) ?_
        refine wg_i C hW (k := 73) (ci := 5) (j := 9) k73 rfl ⟨by decide, rfl⟩ inX5 (by decide) (rfq k73 rfl) (v := (q8.2 73 9)) rfl hL45 (fun _ h9 => h9) dX5_passTargets_140 ?_
        refine lv_if_eq (tgt := 159) hx hb dX5_passTargets_143 (by decide) (fun c8 => ?_) (fun c8 => ?_)
        · replace h := ift h c8
          refine lv_iconst (v := 0) hx hb dX5_passTargets_159 (by decide) ?_
          refine wp_t C hW (k := 73) (ci := 5) (j := 9) (ty := .boolean) (nar_b (Or.inl rfl)).1 (nar_b (Or.inl rfl)).2 k73 rfl ⟨by decide, rfl⟩ inX5 tyX5 tyX5_ok nmX5 (by decide) (rfq k73 rfl) hL45 (fun _ h9 => h9) rfl rfl dX5_passTargets_160 (fun H locs hW => ?_)
          refine lv_iload_n hx hb dX5_passTargets_163 rfl (lv_at hl 3 rfl) ?_
          refine lv_iconst (v := 1) hx hb dX5_passTargets_164 (by decide) ?_
          refine lv_iload hx hb dX5_passTargets_165 (lv_at hl 0 rfl) ?_
          refine lv_ishl hx hb dX5_passTargets_167 ?_
          refine lv_ior hx hb dX5_passTargets_168 ?_
          refine lv_istore_n (lv' := [(3, .int (x3 ||| (1 <<< (q8.1 &&& 31)))), (5, .int q8.1), (0, .ref (ga G 73)), (1, .int x1), (4, .int x4)]) hx hb dX5_passTargets_169 rfl hl (by decide) rfl (fun ls hl => ?_)
          refine lv_aload_n hx hb dX5_passTargets_170 rfl (lv_at hl 2 rfl) ?_
          refine lv_iconst (v := 0) hx hb dX5_passTargets_171 (by decide) ?_
          refine lv_iconst (v := 1) hx hb dX5_passTargets_172 (by decide) ?_
          obtain ⟨q9, hq9, h⟩ := ob h
          refine wc_Vi C hW (k := 73) (As := [.int 0, .int 1]) (rest := []) (c_X5_between G 0 1 (up q8.2 73 9 0) q9 hq9) k73 rfl (by decide) (cwV 2 hts gX5_passTargets_X5_between rfl rfl rfl yd_X5_between ⟨Nat.le_of_ble_eq_true rfl, Nat.le_of_ble_eq_true rfl⟩) rfl hl.1 rfl (Nat.le_of_ble_eq_true rfl) dX5_passTargets_173 ⟨Nat.le_refl 0, Nat.le_refl 0⟩ (fun H locs hW => ?_)
          refine lv_pop hx hb dX5_passTargets_176 rfl ?_
          refine lv_aload_n hx hb dX5_passTargets_177 rfl (lv_at hl 2 rfl) ?_
          obtain ⟨q10, hq10, h⟩ := ob h
          refine wc_Vv C hW (k := 73) (As := []) (rest := []) (c_X5_passKeys G  q9.2 q10 hq10) k73 rfl (by decide) (cwV 0 hts gX5_passTargets_X5_passKeys rfl rfl rfl yd_X5_passKeys ⟨Nat.le_of_ble_eq_true rfl, Nat.le_of_ble_eq_true rfl⟩) rfl hl.1 rfl (Nat.le_of_ble_eq_true rfl) dX5_passTargets_178 ⟨Nat.le_refl 0, Nat.le_refl 0⟩ (fun H locs hW => ?_)
          refine lv_aload_n hx hb dX5_passTargets_181 rfl (lv_at hl 2 rfl) ?_
          refine lv_iconst (v := 0) hx hb dX5_passTargets_182 (by decide) ?_
          refine lv_iconst (v := 3) hx hb dX5_passTargets_183 (by decide) ?_
          obtain ⟨q11, hq11, h⟩ := ob h
          refine wc_Vv C hW (k := 73) (As := [.int 0, .int 3]) (rest := []) (c_X5_passLetters G 0 3 q10.2 q11 hq11) k73 rfl (by decide) (cwV 2 hts gX5_passTargets_X5_passLetters rfl rfl rfl yd_X5_passLetters ⟨Nat.le_of_ble_eq_true rfl, Nat.le_of_ble_eq_true rfl⟩) rfl hl.1 rfl (Nat.le_of_ble_eq_true rfl) dX5_passTargets_184 ⟨Nat.le_refl 0, Nat.le_refl 0⟩ (fun H locs hW => ?_)
          refine lv_iinc (v := (x4 + 1)) (lv' := [(4, .int (x4 + 1)), (3, .int (x3 ||| (1 <<< (q8.1 &&& 31)))), (5, .int q8.1), (0, .ref (ga G 73)), (1, .int x1)]) hx hb dX5_passTargets_187 hl (k := 4) rfl rfl (by decide) rfl (fun ls hl => ?_)
          refine lv_goto (tgt := 116) hx hb dX5_passTargets_190 (by decide) ?_
          exact ih x1 (x3 ||| (1 <<< (q8.1 &&& 31))) (x4 + 1) q11.2 y _ _ ls h hW (lv_sub hl [3, 4, 1, 0] rfl) kx
        · replace h := iff_ h c8
          refine lv_iload_n hx hb dX5_passTargets_146 rfl (lv_at hl 3 rfl) ?_
          refine lv_iload hx hb dX5_passTargets_147 (lv_at hl 0 rfl) ?_
          refine lv_ishr hx hb dX5_passTargets_149 ?_
          refine lv_iconst (v := 1) hx hb dX5_passTargets_150 (by decide) ?_
          refine lv_iand hx hb dX5_passTargets_151 ?_
          refine lv_if_ne (tgt := 159) hx hb dX5_passTargets_152 (by decide) (fun c9 => ?_) (fun c9 => ?_)
          · replace h := iff_ h c9
            refine lv_iconst (v := 0) hx hb dX5_passTargets_159 (by decide) ?_
            refine wp_t C hW (k := 73) (ci := 5) (j := 9) (ty := .boolean) (nar_b (Or.inl rfl)).1 (nar_b (Or.inl rfl)).2 k73 rfl ⟨by decide, rfl⟩ inX5 tyX5 tyX5_ok nmX5 (by decide) (rfq k73 rfl) hL45 (fun _ h9 => h9) rfl rfl dX5_passTargets_160 (fun H locs hW => ?_)
            refine lv_iload_n hx hb dX5_passTargets_163 rfl (lv_at hl 3 rfl) ?_
            refine lv_iconst (v := 1) hx hb dX5_passTargets_164 (by decide) ?_
            refine lv_iload hx hb dX5_passTargets_165 (lv_at hl 0 rfl) ?_
            refine lv_ishl hx hb dX5_passTargets_167 ?_
            refine lv_ior hx hb dX5_passTargets_168 ?_
            refine lv_istore_n (lv' := [(3, .int (x3 ||| (1 <<< (q8.1 &&& 31)))), (5, .int q8.1), (0, .ref (ga G 73)), (1, .int x1), (4, .int x4)]) hx hb dX5_passTargets_169 rfl hl (by decide) rfl (fun ls hl => ?_)
            refine lv_aload_n hx hb dX5_passTargets_170 rfl (lv_at hl 2 rfl) ?_
            refine lv_iconst (v := 0) hx hb dX5_passTargets_171 (by decide) ?_
            refine lv_iconst (v := 1) hx hb dX5_passTargets_172 (by decide) ?_
            obtain ⟨q12, hq12, h⟩ := ob h
            refine wc_Vi C hW (k := 73) (As := [.int 0, .int 1]) (rest := []) (c_X5_between G 0 1 (up q8.2 73 9 0) q12 hq12) k73 rfl (by decide) (cwV 2 hts gX5_passTargets_X5_between rfl rfl rfl yd_X5_between ⟨Nat.le_of_ble_eq_true rfl, Nat.le_of_ble_eq_true rfl⟩) rfl hl.1 rfl (Nat.le_of_ble_eq_true rfl) dX5_passTargets_173 ⟨Nat.le_refl 0, Nat.le_refl 0⟩ (fun H locs hW => ?_)
            refine lv_pop hx hb dX5_passTargets_176 rfl ?_
            refine lv_aload_n hx hb dX5_passTargets_177 rfl (lv_at hl 2 rfl) ?_
            obtain ⟨q13, hq13, h⟩ := ob h
            refine wc_Vv C hW (k := 73) (As := []) (rest := []) (c_X5_passKeys G  q12.2 q13 hq13) k73 rfl (by decide) (cwV 0 hts gX5_passTargets_X5_passKeys rfl rfl rfl yd_X5_passKeys ⟨Nat.le_of_ble_eq_true rfl, Nat.le_of_ble_eq_true rfl⟩) rfl hl.1 rfl (Nat.le_of_ble_eq_true rfl) dX5_passTargets_178 ⟨Nat.le_refl 0, Nat.le_refl 0⟩ (fun H locs hW => ?_)
            refine lv_aload_n hx hb dX5_passTargets_181 rfl (lv_at hl 2 rfl) ?_
            refine lv_iconst (v := 0) hx hb dX5_passTargets_182 (by decide) ?_
            refine lv_iconst (v := 3) hx hb dX5_passTargets_183 (by decide) ?_
            obtain ⟨q14, hq14, h⟩ := ob h
            refine wc_Vv C hW (k := 73) (As := [.int 0, .int 3]) (rest := []) (c_X5_passLetters G 0 3 q13.2 q14 hq14) k73 rfl (by decide) (cwV 2 hts gX5_passTargets_X5_passLetters rfl rfl rfl yd_X5_passLetters ⟨Nat.le_of_ble_eq_true rfl, Nat.le_of_ble_eq_true rfl⟩) rfl hl.1 rfl (Nat.le_of_ble_eq_true rfl) dX5_passTargets_184 ⟨Nat.le_refl 0, Nat.le_refl 0⟩ (fun H locs hW => ?_)
            refine lv_iinc (v := (x4 + 1)) (lv' := [(4, .int (x4 + 1)), (3, .int (x3 ||| (1 <<< (q8.1 &&& 31)))), (5, .int q8.1), (0, .ref (ga G 73)), (1, .int x1)]) hx hb dX5_passTargets_187 hl (k := 4) rfl rfl (by decide) rfl (fun ls hl => ?_)
            refine lv_goto (tgt := 116) hx hb dX5_passTargets_190 (by decide) ?_
            exact ih x1 (x3 ||| (1 <<< (q8.1 &&& 31))) (x4 + 1) q14.2 y _ _ ls h hW (lv_sub hl [3, 4, 1, 0] rfl) kx
          · replace h := ift h c9
            refine lv_iconst (v := 1) hx hb dX5_passTargets_155 (by decide) ?_
            refine lv_goto (tgt := 160) hx hb dX5_passTargets_156 (by decide) ?_
            refine wp_t C hW (k := 73) (ci := 5) (j := 9) (ty := .boolean) (nar_b (Or.inr rfl)).1 (nar_b (Or.inr rfl)).2 k73 rfl ⟨by decide, rfl⟩ inX5 tyX5 tyX5_ok nmX5 (by decide) (rfq k73 rfl) hL45 (fun _ h9 => h9) rfl rfl dX5_passTargets_160 (fun H locs hW => ?_)
            refine lv_iload_n hx hb dX5_passTargets_163 rfl (lv_at hl 3 rfl) ?_
            refine lv_iconst (v := 1) hx hb dX5_passTargets_164 (by decide) ?_
            refine lv_iload hx hb dX5_passTargets_165 (lv_at hl 0 rfl) ?_
            refine lv_ishl hx hb dX5_passTargets_167 ?_
            refine lv_ior hx hb dX5_passTargets_168 ?_
            refine lv_istore_n (lv' := [(3, .int (x3 ||| (1 <<< (q8.1 &&& 31)))), (5, .int q8.1), (0, .ref (ga G 73)), (1, .int x1), (4, .int x4)]) hx hb dX5_passTargets_169 rfl hl (by decide) rfl (fun ls hl => ?_)
            refine lv_aload_n hx hb dX5_passTargets_170 rfl (lv_at hl 2 rfl) ?_
            refine lv_iconst (v := 0) hx hb dX5_passTargets_171 (by decide) ?_
            refine lv_iconst (v := 1) hx hb dX5_passTargets_172 (by decide) ?_
            obtain ⟨q15, hq15, h⟩ := ob h
            refine wc_Vi C hW (k := 73) (As := [.int 0, .int 1]) (rest := []) (c_X5_between G 0 1 (up q8.2 73 9 1) q15 hq15) k73 rfl (by decide) (cwV 2 hts gX5_passTargets_X5_between rfl rfl rfl yd_X5_between ⟨Nat.le_of_ble_eq_true rfl, Nat.le_of_ble_eq_true rfl⟩) rfl hl.1 rfl (Nat.le_of_ble_eq_true rfl) dX5_passTargets_173 ⟨Nat.le_refl 0, Nat.le_refl 0⟩ (fun H locs hW => ?_)
            refine lv_pop hx hb dX5_passTargets_176 rfl ?_
            refine lv_aload_n hx hb dX5_passTargets_177 rfl (lv_at hl 2 rfl) ?_
            obtain ⟨q16, hq16, h⟩ := ob h
            refine wc_Vv C hW (k := 73) (As := []) (rest := []) (c_X5_passKeys G  q15.2 q16 hq16) k73 rfl (by decide) (cwV 0 hts gX5_passTargets_X5_passKeys rfl rfl rfl yd_X5_passKeys ⟨Nat.le_of_ble_eq_true rfl, Nat.le_of_ble_eq_true rfl⟩) rfl hl.1 rfl (Nat.le_of_ble_eq_true rfl) dX5_passTargets_178 ⟨Nat.le_refl 0, Nat.le_refl 0⟩ (fun H locs hW => ?_)
            refine lv_aload_n hx hb dX5_passTargets_181 rfl (lv_at hl 2 rfl) ?_
            refine lv_iconst (v := 0) hx hb dX5_passTargets_182 (by decide) ?_
            refine lv_iconst (v := 3) hx hb dX5_passTargets_183 (by decide) ?_
            obtain ⟨q17, hq17, h⟩ := ob h
            refine wc_Vv C hW (k := 73) (As := [.int 0, .int 3]) (rest := []) (c_X5_passLetters G 0 3 q16.2 q17 hq17) k73 rfl (by decide) (cwV 2 hts gX5_passTargets_X5_passLetters rfl rfl rfl yd_X5_passLetters ⟨Nat.le_of_ble_eq_true rfl, Nat.le_of_ble_eq_true rfl⟩) rfl hl.1 rfl (Nat.le_of_ble_eq_true rfl) dX5_passTargets_184 ⟨Nat.le_refl 0, Nat.le_refl 0⟩ (fun H locs hW => ?_)
            refine lv_iinc (v := (x4 + 1)) (lv' := [(4, .int (x4 + 1)), (3, .int (x3 ||| (1 <<< (q8.1 &&& 31)))), (5, .int q8.1), (0, .ref (ga G 73)), (1, .int x1)]) hx hb dX5_passTargets_187 hl (k := 4) rfl rfl (by decide) rfl (fun ls hl => ?_)
            refine lv_goto (tgt := 116) hx hb dX5_passTargets_190 (by decide) ?_
            exact ih x1 (x3 ||| (1 <<< (q8.1 &&& 31))) (x4 + 1) q17.2 y _ _ ls h hW (lv_sub hl [3, 4, 1, 0] rfl) kx
set_option maxHeartbeats 4000000 in
set_option maxRecDepth 100000 in
theorem c_X5_passTargets (G : GG)  (M : Me) (y : Int32 × Me) (h : f_X5_passTargets  M = some y) : CV G yX5_passTargets wsX5_passTargets (rmd 3 0 0) [.ref (ga G 73)] M y := by
  rw [f_X5_passTargets] at h
  refine co_o (by decide) rfl rfl (Nat.le_of_ble_eq_true rfl) (fun p e s m below meth c ls C hr hW hl => ?_)
  have hx := C.1
  have hb := C.2.1
  have hown := C.2.2.2.1
  have hts := C.2.2.2.2.1
  have inX5 : ∀ w ∈ wsX50, w ∈ wsX5_passTargets := by decide +kernel
  have hL49 := hts (.fieldLink RX5 49 "TrustedUpdatesModel" "at" "I") (by decide +kernel)
  have hl : lv_has ls 6 [(0, .ref (ga G 73))] := hl
  refine lv_aload_n hx hb dX5_passTargets_0 rfl (lv_at hl 0 rfl) ?_
  refine lv_iconst (v := 0) hx hb dX5_passTargets_1 (by decide) ?_
  refine lv_iconst (v := 4) hx hb dX5_passTargets_2 (by decide) ?_
  obtain ⟨q1, hq1, h⟩ := ob h
  refine wc_Vi C hW (k := 73) (As := [.int 0, .int 4]) (rest := []) (c_X5_between G 0 4 M q1 hq1) k73 rfl (by decide) (cwV 2 hts gX5_passTargets_X5_between rfl rfl rfl yd_X5_between ⟨Nat.le_of_ble_eq_true rfl, Nat.le_of_ble_eq_true rfl⟩) rfl hl.1 rfl (Nat.le_of_ble_eq_true rfl) dX5_passTargets_3 ⟨Nat.le_refl 0, Nat.le_refl 0⟩ (fun H locs hW => ?_)
  refine lv_istore_n (lv' := [(1, .int q1.1), (0, .ref (ga G 73))]) hx hb dX5_passTargets_6 rfl hl (by decide) rfl (fun ls hl => ?_)
  refine lv_aload_n hx hb dX5_passTargets_7 rfl (lv_at hl 1 rfl) ?_
  refine wg_i C hW (k := 73) (ci := 5) (j := 7) k73 rfl ⟨by decide, rfl⟩ inX5 (by decide) (rfq k73 rfl) (v := (q1.2 73 7)) rfl hL49 (fun _ h9 => h9) dX5_passTargets_8 ?_
  refine lv_istore_n (lv' := [(2, .int (q1.2 73 7)), (1, .int q1.1), (0, .ref (ga G 73))]) hx hb dX5_passTargets_11 rfl hl (by decide) rfl (fun ls hl => ?_)
  refine lv_iconst (v := 0) hx hb dX5_passTargets_12 (by decide) ?_
  refine lv_istore_n (lv' := [(3, .int 0), (2, .int (q1.2 73 7)), (1, .int q1.1), (0, .ref (ga G 73))]) hx hb dX5_passTargets_13 rfl hl (by decide) rfl (fun ls hl => ?_)
  obtain ⟨q6, hq6, h⟩ := ob h
  refine L_X5_passTargets_14 C 200 q1.1 (q1.2 73 7) 0 q1.2 q6 _ _ ls hq6 hW (lv_sub hl [3, 2, 1, 0] rfl) (fun H locs ls hW hl => ?_)
  refine lv_aload_n hx hb dX5_passTargets_104 rfl (lv_at hl 0 rfl) ?_
  refine lv_iconst (v := 0) hx hb dX5_passTargets_105 (by decide) ?_
  refine lv_iconst (v := 3) hx hb dX5_passTargets_106 (by decide) ?_
  obtain ⟨q7, hq7, h⟩ := ob h
  refine wc_Vi C hW (k := 73) (As := [.int 0, .int 3]) (rest := []) (c_X5_between G 0 3 q6.2 q7 hq7) k73 rfl (by decide) (cwV 2 hts gX5_passTargets_X5_between rfl rfl rfl yd_X5_between ⟨Nat.le_of_ble_eq_true rfl, Nat.le_of_ble_eq_true rfl⟩) rfl hl.1 rfl (Nat.le_of_ble_eq_true rfl) dX5_passTargets_107 ⟨Nat.le_refl 0, Nat.le_refl 0⟩ (fun H locs hW => ?_)
  refine lv_istore_n (lv' := [(1, .int q7.1), (0, .ref (ga G 73))]) hx hb dX5_passTargets_110 rfl hl (by decide) rfl (fun ls hl => ?_)
  refine lv_iconst (v := 0) hx hb dX5_passTargets_111 (by decide) ?_
  refine lv_istore_n (lv' := [(3, .int 0), (1, .int q7.1), (0, .ref (ga G 73))]) hx hb dX5_passTargets_112 rfl hl (by decide) rfl (fun ls hl => ?_)
  refine lv_iconst (v := 0) hx hb dX5_passTargets_113 (by decide) ?_
  refine lv_istore (lv' := [(4, .int 0), (3, .int 0), (1, .int q7.1), (0, .ref (ga G 73))]) hx hb dX5_passTargets_114 hl (by decide) rfl (fun ls hl => ?_)
  obtain ⟨q18, hq18, h⟩ := ob h
  refine L_X5_passTargets_116 C 200 q7.1 0 0 q7.2 q18 _ _ ls hq18 hW (lv_sub hl [3, 2, 1, 0] rfl) (fun H locs ls hW hl => ?_)
  exact wr_v C hr hW h dX5_passTargets_193
theorem yd_X5_passBody : yX5_passBody.cls = RX5 ∧ yX5_passBody.cls ≠ "java/lang/invoke/MethodHandle" ∧ yX5_passBody.cls ≠ "java/lang/invoke/VarHandle" ∧ (parseMethodDescriptor yX5_passBody.desc).map (fun d => d.parameters.length) = some 1 := by decide +kernel
set_option maxHeartbeats 4000000 in
set_option maxRecDepth 100000 in
theorem L_X5_passBody_70 {G : GG} {p : Program} {e : Env} {s : State} {m : MethodId} {args : Array Value} {below : List Frame} {meth : Method} {c : Code} {Q : State → Prop} (C : Cx G wsX5_passBody RX5 cX5_passBody 5 p s m args meth c) : ∀ (n : Nat) (x2 : Int32) (x3 : Int32) (x4 : Int32) (M : Me) (y : Int32 × Me) (H : Heap) (locs : List Loc) (ls : Array Slot), fL_X5_passBody_70 n x2 x3 x4 M = some y → wH G s M H locs → lv_has ls 5 [(0, .ref (ga G 73)), (2, .int x2), (3, .int x3), (4, .int x4)] → (∀ (H : Heap) (locs : List Loc) (ls : Array Slot), wH G s y.2 H locs → lv_has ls 5 [] → W p (gl G) e (rmd 4 0 0) s m args below meth c H locs 0 0 Q (F0 m 126 ls [])) → W p (gl G) e (rmd 4 0 0) s m args below meth c H locs 0 0 Q (F0 m 70 ls []) := by
  have hx := C.1
  have hb := C.2.1
  have hown := C.2.2.2.1
  have hts := C.2.2.2.2.1
  have inX5 : ∀ w ∈ wsX50, w ∈ wsX5_passBody := by decide +kernel
  have hL45 := hts (.fieldLink RX5 45 "TrustedUpdatesModel" "good" "Z") (by decide +kernel)
  intro n
  induction n with
  | zero => intro x2 x3 x4 M y H locs ls h; exact nso h
  | succ n ih =>
    intro x2 x3 x4 M y H locs ls h hW hl kx
    rw [fL_X5_passBody_70] at h
    refine lv_iload hx hb dX5_passBody_70 (lv_at hl 3 rfl) ?_
    refine lv_iload_n hx hb dX5_passBody_72 rfl (lv_at hl 1 rfl) ?_
    refine lv_icmp_ge (tgt := 126) hx hb dX5_passBody_73 (by decide) (fun c4 => ?_) (fun c4 => ?_)
    · replace h := ift h c4
      cases h
      exact kx _ _ ls hW (lv_sub hl [] rfl)
    · replace h := iff_ h c4
      refine lv_aload_n hx hb dX5_passBody_76 rfl (lv_at hl 0 rfl) ?_
      refine wg_i C hW (k := 73) (ci := 5) (j := 9) k73 rfl ⟨by decide, rfl⟩ inX5 (by decide) (rfq k73 rfl) (v := (M 73 9)) rfl hL45 (fun _ h9 => h9) dX5_passBody_77 ?_
      refine lv_if_eq (tgt := 126) hx hb dX5_passBody_80 (by decide) (fun c5 => ?_) (fun c5 => ?_)
      · replace h := ift h c5
        cases h
        exact kx _ _ ls hW (lv_sub hl [] rfl)
      · replace h := iff_ h c5
        refine lv_aload_n hx hb dX5_passBody_83 rfl (lv_at hl 0 rfl) ?_
        refine lv_iload hx hb dX5_passBody_84 (lv_at hl 3 rfl) ?_
        refine lv_if_ne (tgt := 93) hx hb dX5_passBody_86 (by decide) (fun c6 => ?_) (fun c6 => ?_)
        · replace h := iff_ h c6
          refine lv_iload_n hx hb dX5_passBody_93 rfl (lv_at hl 2 rfl) ?_
          refine lv_iconst (v := 1) hx hb dX5_passBody_94 (by decide) ?_
          refine lv_iadd hx hb dX5_passBody_95 ?_
          refine lv_iload hx hb dX5_passBody_96 (lv_at hl 3 rfl) ?_
          refine lv_if_ne (tgt := 105) hx hb dX5_passBody_98 (by decide) (fun _ => ?_) (fun c7 => absurd c7 c6)
          refine lv_bipush (v := 6) hx hb dX5_passBody_105 (by decide) ?_
          obtain ⟨q3, hq3, h⟩ := ob h
          refine wc_Vi C hW (k := 73) (As := [.int (x3 + 1), .int 6]) (rest := []) (c_X5_between G (x3 + 1) 6 M q3 hq3) k73 rfl (by decide) (cwV 2 hts gX5_passBody_X5_between rfl rfl rfl yd_X5_between ⟨Nat.le_of_ble_eq_true rfl, Nat.le_of_ble_eq_true rfl⟩) rfl hl.1 rfl (Nat.le_of_ble_eq_true rfl) dX5_passBody_107 ⟨Nat.le_refl 0, Nat.le_refl 0⟩ (fun H locs hW => ?_)
          refine lv_istore_n (lv' := [(3, .int q3.1), (0, .ref (ga G 73)), (2, .int x2), (4, .int x4)]) hx hb dX5_passBody_110 rfl hl (by decide) rfl (fun ls hl => ?_)
          refine lv_aload_n hx hb dX5_passBody_111 rfl (lv_at hl 1 rfl) ?_
          refine lv_iconst (v := 1) hx hb dX5_passBody_112 (by decide) ?_
          refine lv_sipush (v := 255) hx hb dX5_passBody_113 (by decide) ?_
          obtain ⟨q4, hq4, h⟩ := ob h
          refine wc_Vi C hW (k := 73) (As := [.int 1, .int 255]) (rest := []) (c_X5_between G 1 255 q3.2 q4 hq4) k73 rfl (by decide) (cwV 2 hts gX5_passBody_X5_between rfl rfl rfl yd_X5_between ⟨Nat.le_of_ble_eq_true rfl, Nat.le_of_ble_eq_true rfl⟩) rfl hl.1 rfl (Nat.le_of_ble_eq_true rfl) dX5_passBody_116 ⟨Nat.le_refl 0, Nat.le_refl 0⟩ (fun H locs hW => ?_)
          refine lv_pop hx hb dX5_passBody_119 rfl ?_
          refine lv_iinc (v := (x4 + 1)) (lv' := [(4, .int (x4 + 1)), (3, .int q3.1), (0, .ref (ga G 73)), (2, .int x2)]) hx hb dX5_passBody_120 hl (k := 3) rfl rfl (by decide) rfl (fun ls hl => ?_)
          refine lv_goto (tgt := 70) hx hb dX5_passBody_123 (by decide) ?_
          exact ih x2 q3.1 (x4 + 1) q4.2 y _ _ ls h hW (lv_sub hl [2, 3, 1, 0] rfl) kx
        · replace h := ift h c6
          refine lv_iconst (v := 3) hx hb dX5_passBody_89 (by decide) ?_
          refine lv_goto (tgt := 96) hx hb dX5_passBody_90 (by decide) ?_
          refine lv_iload hx hb dX5_passBody_96 (lv_at hl 3 rfl) ?_
          refine lv_if_ne (tgt := 105) hx hb dX5_passBody_98 (by decide) (fun c8 => absurd c6 c8) (fun _ => ?_)
          refine lv_iconst (v := 3) hx hb dX5_passBody_101 (by decide) ?_
          refine lv_goto (tgt := 107) hx hb dX5_passBody_102 (by decide) ?_
          obtain ⟨q5, hq5, h⟩ := ob h
          refine wc_Vi C hW (k := 73) (As := [.int 3, .int 3]) (rest := []) (c_X5_between G 3 3 M q5 hq5) k73 rfl (by decide) (cwV 2 hts gX5_passBody_X5_between rfl rfl rfl yd_X5_between ⟨Nat.le_of_ble_eq_true rfl, Nat.le_of_ble_eq_true rfl⟩) rfl hl.1 rfl (Nat.le_of_ble_eq_true rfl) dX5_passBody_107 ⟨Nat.le_refl 0, Nat.le_refl 0⟩ (fun H locs hW => ?_)
          refine lv_istore_n (lv' := [(3, .int q5.1), (0, .ref (ga G 73)), (2, .int x2), (4, .int x4)]) hx hb dX5_passBody_110 rfl hl (by decide) rfl (fun ls hl => ?_)
          refine lv_aload_n hx hb dX5_passBody_111 rfl (lv_at hl 1 rfl) ?_
          refine lv_iconst (v := 1) hx hb dX5_passBody_112 (by decide) ?_
          refine lv_sipush (v := 255) hx hb dX5_passBody_113 (by decide) ?_
          obtain ⟨q6, hq6, h⟩ := ob h
          refine wc_Vi C hW (k := 73) (As := [.int 1, .int 255]) (rest := []) (c_X5_between G 1 255 q5.2 q6 hq6) k73 rfl (by decide) (cwV 2 hts gX5_passBody_X5_between rfl rfl rfl yd_X5_between ⟨Nat.le_of_ble_eq_true rfl, Nat.le_of_ble_eq_true rfl⟩) rfl hl.1 rfl (Nat.le_of_ble_eq_true rfl) dX5_passBody_116 ⟨Nat.le_refl 0, Nat.le_refl 0⟩ (fun H locs hW => ?_)
          refine lv_pop hx hb dX5_passBody_119 rfl ?_
          refine lv_iinc (v := (x4 + 1)) (lv' := [(4, .int (x4 + 1)), (3, .int q5.1), (0, .ref (ga G 73)), (2, .int x2)]) hx hb dX5_passBody_120 hl (k := 3) rfl rfl (by decide) rfl (fun ls hl => ?_)
          refine lv_goto (tgt := 70) hx hb dX5_passBody_123 (by decide) ?_
          exact ih x2 q5.1 (x4 + 1) q6.2 y _ _ ls h hW (lv_sub hl [2, 3, 1, 0] rfl) kx
set_option maxHeartbeats 4000000 in
set_option maxRecDepth 100000 in
theorem L_X5_passBody_6 {G : GG} {p : Program} {e : Env} {s : State} {m : MethodId} {args : Array Value} {below : List Frame} {meth : Method} {c : Code} {Q : State → Prop} (C : Cx G wsX5_passBody RX5 cX5_passBody 5 p s m args meth c) : ∀ (n : Nat) (x2 : Int32) (M : Me) (y : Int32 × Me) (H : Heap) (locs : List Loc) (ls : Array Slot), fL_X5_passBody_6 n x2 M = some y → wH G s M H locs → lv_has ls 5 [(0, .ref (ga G 73)), (2, .int x2)] → (∀ (H : Heap) (locs : List Loc) (ls : Array Slot), wH G s y.2 H locs → lv_has ls 5 [] → W p (gl G) e (rmd 4 0 0) s m args below meth c H locs 0 0 Q (F0 m 28 ls [])) → W p (gl G) e (rmd 4 0 0) s m args below meth c H locs 0 0 Q (F0 m 6 ls []) := by
  have hx := C.1
  have hb := C.2.1
  have hown := C.2.2.2.1
  have hts := C.2.2.2.2.1
  have inX5 : ∀ w ∈ wsX50, w ∈ wsX5_passBody := by decide +kernel
  have hL45 := hts (.fieldLink RX5 45 "TrustedUpdatesModel" "good" "Z") (by decide +kernel)
  intro n
  induction n with
  | zero => intro x2 M y H locs ls h; exact nso h
  | succ n ih =>
    intro x2 M y H locs ls h hW hl kx
    rw [fL_X5_passBody_6] at h
    refine lv_iload_n hx hb dX5_passBody_6 rfl (lv_at hl 1 rfl) ?_
    refine lv_iconst (v := 4) hx hb dX5_passBody_7 (by decide) ?_
    refine lv_icmp_ge (tgt := 28) hx hb dX5_passBody_8 (by decide) (fun c9 => ?_) (fun c9 => ?_)
    · replace h := ift h c9
      cases h
      exact kx _ _ ls hW (lv_sub hl [] rfl)
    · replace h := iff_ h c9
      refine lv_aload_n hx hb dX5_passBody_11 rfl (lv_at hl 0 rfl) ?_
      refine wg_i C hW (k := 73) (ci := 5) (j := 9) k73 rfl ⟨by decide, rfl⟩ inX5 (by decide) (rfq k73 rfl) (v := (M 73 9)) rfl hL45 (fun _ h9 => h9) dX5_passBody_12 ?_
      refine lv_if_eq (tgt := 28) hx hb dX5_passBody_15 (by decide) (fun c10 => ?_) (fun c10 => ?_)
      · replace h := ift h c10
        cases h
        exact kx _ _ ls hW (lv_sub hl [] rfl)
      · replace h := iff_ h c10
        refine lv_aload_n hx hb dX5_passBody_18 rfl (lv_at hl 0 rfl) ?_
        obtain ⟨q10, hq10, h⟩ := ob h
        refine wc_Vv C hW (k := 73) (As := []) (rest := []) (c_X5_passKeys G  M q10 hq10) k73 rfl (by decide) (cwV 0 hts gX5_passBody_X5_passKeys rfl rfl rfl yd_X5_passKeys ⟨Nat.le_of_ble_eq_true rfl, Nat.le_of_ble_eq_true rfl⟩) rfl hl.1 rfl (Nat.le_of_ble_eq_true rfl) dX5_passBody_19 ⟨Nat.le_refl 0, Nat.le_refl 0⟩ (fun H locs hW => ?_)
        refine lv_iinc (v := (x2 + 1)) (lv' := [(2, .int (x2 + 1)), (0, .ref (ga G 73))]) hx hb dX5_passBody_22 hl (k := 1) rfl rfl (by decide) rfl (fun ls hl => ?_)
        refine lv_goto (tgt := 6) hx hb dX5_passBody_25 (by decide) ?_
        exact ih (x2 + 1) q10.2 y _ _ ls h hW (lv_sub hl [1, 0] rfl) kx
set_option maxHeartbeats 4000000 in
set_option maxRecDepth 100000 in
theorem c_X5_passBody (G : GG) (a1 : Int32) (M : Me) (y : Int32 × Me) (h : f_X5_passBody a1 M = some y) : CV G yX5_passBody wsX5_passBody (rmd 4 0 0) [.ref (ga G 73), .int a1] M y := by
  rw [f_X5_passBody] at h
  refine co_o (by decide) rfl rfl (Nat.le_of_ble_eq_true rfl) (fun p e s m below meth c ls C hr hW hl => ?_)
  have hx := C.1
  have hb := C.2.1
  have hown := C.2.2.2.1
  have hts := C.2.2.2.2.1
  have hl : lv_has ls 5 [(0, .ref (ga G 73)), (1, .int a1)] := hl
  refine lv_iload_n hx hb dX5_passBody_0 rfl (lv_at hl 1 rfl) ?_
  refine lv_if_ne (tgt := 31) hx hb dX5_passBody_1 (by decide) (fun c1 => ?_) (fun c1 => ?_)
  · replace h := iff_ h c1
    refine lv_iload_n hx hb dX5_passBody_31 rfl (lv_at hl 1 rfl) ?_
    refine lv_iconst (v := 1) hx hb dX5_passBody_32 (by decide) ?_
    refine lv_icmp_ne (tgt := 53) hx hb dX5_passBody_33 (by decide) (fun c2 => ?_) (fun c2 => ?_)
    · replace h := iff_ h c2
      refine lv_iload_n hx hb dX5_passBody_53 rfl (lv_at hl 1 rfl) ?_
      refine lv_iconst (v := 2) hx hb dX5_passBody_54 (by decide) ?_
      refine lv_icmp_ne (tgt := 129) hx hb dX5_passBody_55 (by decide) (fun c3 => ?_) (fun c3 => ?_)
      · replace h := iff_ h c3
        refine lv_aload_n hx hb dX5_passBody_129 rfl (lv_at hl 0 rfl) ?_
        obtain ⟨q1, hq1, h⟩ := ob h
        refine wc_Vv C hW (k := 73) (As := []) (rest := []) (c_X5_passTargets G  M q1 hq1) k73 rfl (by decide) (cwV 0 hts gX5_passBody_X5_passTargets rfl rfl rfl yd_X5_passTargets ⟨Nat.le_of_ble_eq_true rfl, Nat.le_of_ble_eq_true rfl⟩) rfl hl.1 rfl (Nat.le_of_ble_eq_true rfl) dX5_passBody_130 ⟨Nat.le_refl 0, Nat.le_refl 0⟩ (fun H locs hW => ?_)
        exact wr_v C hr hW h dX5_passBody_133
      · replace h := ift h c3
        refine lv_aload_n hx hb dX5_passBody_58 rfl (lv_at hl 0 rfl) ?_
        refine lv_iconst (v := 1) hx hb dX5_passBody_59 (by decide) ?_
        refine lv_iconst (v := 4) hx hb dX5_passBody_60 (by decide) ?_
        obtain ⟨q2, hq2, h⟩ := ob h
        refine wc_Vi C hW (k := 73) (As := [.int 1, .int 4]) (rest := []) (c_X5_between G 1 4 M q2 hq2) k73 rfl (by decide) (cwV 2 hts gX5_passBody_X5_between rfl rfl rfl yd_X5_between ⟨Nat.le_of_ble_eq_true rfl, Nat.le_of_ble_eq_true rfl⟩) rfl hl.1 rfl (Nat.le_of_ble_eq_true rfl) dX5_passBody_61 ⟨Nat.le_refl 0, Nat.le_refl 0⟩ (fun H locs hW => ?_)
        refine lv_istore_n (lv' := [(2, .int q2.1), (0, .ref (ga G 73)), (1, .int a1)]) hx hb dX5_passBody_64 rfl hl (by decide) rfl (fun ls hl => ?_)
        refine lv_iconst (v := 2) hx hb dX5_passBody_65 (by decide) ?_
        refine lv_istore_n (lv' := [(3, .int 2), (2, .int q2.1), (0, .ref (ga G 73)), (1, .int a1)]) hx hb dX5_passBody_66 rfl hl (by decide) rfl (fun ls hl => ?_)
        refine lv_iconst (v := 0) hx hb dX5_passBody_67 (by decide) ?_
        refine lv_istore (lv' := [(4, .int 0), (3, .int 2), (2, .int q2.1), (0, .ref (ga G 73)), (1, .int a1)]) hx hb dX5_passBody_68 hl (by decide) rfl (fun ls hl => ?_)
        obtain ⟨q7, hq7, h⟩ := ob h
        refine L_X5_passBody_70 C 200 q2.1 2 0 q2.2 q7 _ _ ls hq7 hW (lv_sub hl [3, 2, 1, 0] rfl) (fun H locs ls hW hl => ?_)
        refine lv_goto (tgt := 133) hx hb dX5_passBody_126 (by decide) ?_
        exact wr_v C hr hW h dX5_passBody_133
    · replace h := ift h c2
      refine lv_aload_n hx hb dX5_passBody_36 rfl (lv_at hl 0 rfl) ?_
      refine lv_iconst (v := 1) hx hb dX5_passBody_37 (by decide) ?_
      refine lv_sipush (v := 255) hx hb dX5_passBody_38 (by decide) ?_
      obtain ⟨q8, hq8, h⟩ := ob h
      refine wc_Vi C hW (k := 73) (As := [.int 1, .int 255]) (rest := []) (c_X5_between G 1 255 M q8 hq8) k73 rfl (by decide) (cwV 2 hts gX5_passBody_X5_between rfl rfl rfl yd_X5_between ⟨Nat.le_of_ble_eq_true rfl, Nat.le_of_ble_eq_true rfl⟩) rfl hl.1 rfl (Nat.le_of_ble_eq_true rfl) dX5_passBody_41 ⟨Nat.le_refl 0, Nat.le_refl 0⟩ (fun H locs hW => ?_)
      refine lv_pop hx hb dX5_passBody_44 rfl ?_
      refine lv_aload_n hx hb dX5_passBody_45 rfl (lv_at hl 0 rfl) ?_
      refine lv_iconst (v := 4) hx hb dX5_passBody_46 (by decide) ?_
      obtain ⟨q9, hq9, h⟩ := ob h
      refine wc_Vv C hW (k := 73) (As := [.int 4]) (rest := []) (c_X5_skip G 4 q8.2 q9 hq9) k73 rfl (by decide) (cwV 1 hts gX5_passBody_X5_skip rfl rfl rfl yd_X5_skip ⟨Nat.le_of_ble_eq_true rfl, Nat.le_of_ble_eq_true rfl⟩) rfl hl.1 rfl (Nat.le_of_ble_eq_true rfl) dX5_passBody_47 ⟨Nat.le_refl 0, Nat.le_refl 0⟩ (fun H locs hW => ?_)
      refine lv_goto (tgt := 133) hx hb dX5_passBody_50 (by decide) ?_
      exact wr_v C hr hW h dX5_passBody_133
  · replace h := ift h c1
    refine lv_iconst (v := 0) hx hb dX5_passBody_4 (by decide) ?_
    refine lv_istore_n (lv' := [(2, .int 0), (0, .ref (ga G 73)), (1, .int a1)]) hx hb dX5_passBody_5 rfl hl (by decide) rfl (fun ls hl => ?_)
    obtain ⟨q11, hq11, h⟩ := ob h
    refine L_X5_passBody_6 C 200 0 M q11 _ _ ls hq11 hW (lv_sub hl [1, 0] rfl) (fun H locs ls hW hl => ?_)
    refine lv_goto (tgt := 133) hx hb dX5_passBody_28 (by decide) ?_
    exact wr_v C hr hW h dX5_passBody_133
theorem yd_X5_passSigned : yX5_passSigned.cls = RX5 ∧ yX5_passSigned.cls ≠ "java/lang/invoke/MethodHandle" ∧ yX5_passSigned.cls ≠ "java/lang/invoke/VarHandle" ∧ (parseMethodDescriptor yX5_passSigned.desc).map (fun d => d.parameters.length) = some 1 := by decide +kernel
set_option maxHeartbeats 4000000 in
set_option maxRecDepth 100000 in
theorem c_X5_passSigned (G : GG) (a1 : Int32) (M : Me) (y : Int32 × Me) (h : f_X5_passSigned a1 M = some y) : CI G yX5_passSigned wsX5_passSigned (rmd 5 0 0) [.ref (ga G 73), .int a1] M y := by
  rw [f_X5_passSigned] at h
  refine co_o (by decide) rfl rfl (Nat.le_of_ble_eq_true rfl) (fun p e s m below meth c ls C hr hW hl => ?_)
  have hx := C.1
  have hb := C.2.1
  have hown := C.2.2.2.1
  have hts := C.2.2.2.2.1
  have inX5 : ∀ w ∈ wsX50, w ∈ wsX5_passSigned := by decide +kernel
  have hL13 := hts (.fieldLink RX5 13 "TrustedUpdatesModel" "sizes" "[I") (by decide +kernel)
  have hL45 := hts (.fieldLink RX5 45 "TrustedUpdatesModel" "good" "Z") (by decide +kernel)
  have hL49 := hts (.fieldLink RX5 49 "TrustedUpdatesModel" "at" "I") (by decide +kernel)
  have hL52 := hts (.fieldLink RX5 52 "TrustedUpdatesModel" "end" "I") (by decide +kernel)
  have hL86 := hts (.fieldLink RX5 86 "TrustedUpdatesModel" "signed" "I") (by decide +kernel)
  have hl : lv_has ls 3 [(0, .ref (ga G 73)), (1, .int a1)] := hl
  refine lv_aload_n hx hb dX5_passSigned_0 rfl (lv_at hl 0 rfl) ?_
  refine lv_bipush (v := 120) hx hb dX5_passSigned_1 (by decide) ?_
  refine lv_iload_n hx hb dX5_passSigned_3 rfl (lv_at hl 1 rfl) ?_
  refine lv_imul hx hb dX5_passSigned_4 ?_
  refine wp_t C hW (k := 73) (ci := 5) (j := 7) (ty := .int) rfl rfl k73 rfl ⟨by decide, rfl⟩ inX5 tyX5 tyX5_ok nmX5 (by decide) (rfq k73 rfl) hL49 (fun _ h9 => h9) rfl rfl dX5_passSigned_5 (fun H locs hW => ?_)
  refine lv_aload_n hx hb dX5_passSigned_8 rfl (lv_at hl 0 rfl) ?_
  refine lv_aload_n hx hb dX5_passSigned_9 rfl (lv_at hl 0 rfl) ?_
  refine wg_i C hW (k := 73) (ci := 5) (j := 7) k73 rfl ⟨by decide, rfl⟩ inX5 (by decide) (rfq k73 rfl) (v := (120 * a1)) up_s hL49 (fun _ h9 => h9) dX5_passSigned_10 ?_
  refine lv_aload_n hx hb dX5_passSigned_13 rfl (lv_at hl 0 rfl) ?_
  refine wg_r C hW (k := 73) (ci := 5) (j := 2) (q := 75) k73 rfl ⟨by decide, rfl⟩ inX5 (by decide) (rfq k73 rfl) hL13 (fun _ h9 => h9) dX5_passSigned_14 ?_
  refine lv_iload_n hx hb dX5_passSigned_17 rfl (lv_at hl 1 rfl) ?_
  obtain ⟨hg1, h⟩ := ifg h
  refine wa_l C hW (k := 75) k75 hg1 dX5_passSigned_18 (v := (M 75 a1.toNatClampNeg)) (up_k (by decide)) ?_
  refine lv_iadd hx hb dX5_passSigned_19 ?_
  refine wp_t C hW (k := 73) (ci := 5) (j := 8) (ty := .int) rfl rfl k73 rfl ⟨by decide, rfl⟩ inX5 tyX5 tyX5_ok nmX5 (by decide) (rfq k73 rfl) hL52 (fun _ h9 => h9) rfl rfl dX5_passSigned_20 (fun H locs hW => ?_)
  refine lv_aload_n hx hb dX5_passSigned_23 rfl (lv_at hl 0 rfl) ?_
  refine lv_iconst (v := 1) hx hb dX5_passSigned_24 (by decide) ?_
  refine wp_t C hW (k := 73) (ci := 5) (j := 9) (ty := .boolean) (nar_b (Or.inr rfl)).1 (nar_b (Or.inr rfl)).2 k73 rfl ⟨by decide, rfl⟩ inX5 tyX5 tyX5_ok nmX5 (by decide) (rfq k73 rfl) hL45 (fun _ h9 => h9) rfl rfl dX5_passSigned_25 (fun H locs hW => ?_)
  refine lv_aload_n hx hb dX5_passSigned_28 rfl (lv_at hl 0 rfl) ?_
  refine lv_iconst (v := 0) hx hb dX5_passSigned_29 (by decide) ?_
  refine lv_bipush (v := 6) hx hb dX5_passSigned_30 (by decide) ?_
  obtain ⟨q1, hq1, h⟩ := ob h
  refine wc_Vi C hW (k := 73) (As := [.int 0, .int 6]) (rest := []) (c_X5_between G 0 6 (up (up (up M 73 7 (120 * a1)) 73 8 ((120 * a1) + (M 75 a1.toNatClampNeg))) 73 9 1) q1 hq1) k73 rfl (by decide) (cwV 2 hts gX5_passSigned_X5_between rfl rfl rfl yd_X5_between ⟨Nat.le_of_ble_eq_true rfl, Nat.le_of_ble_eq_true rfl⟩) rfl hl.1 rfl (Nat.le_of_ble_eq_true rfl) dX5_passSigned_32 ⟨Nat.le_refl 0, Nat.le_refl 0⟩ (fun H locs hW => ?_)
  refine lv_istore_n (lv' := [(2, .int q1.1), (0, .ref (ga G 73)), (1, .int a1)]) hx hb dX5_passSigned_35 rfl hl (by decide) rfl (fun ls hl => ?_)
  refine lv_aload_n hx hb dX5_passSigned_36 rfl (lv_at hl 1 rfl) ?_
  refine lv_iconst (v := 1) hx hb dX5_passSigned_37 (by decide) ?_
  refine lv_sipush (v := 255) hx hb dX5_passSigned_38 (by decide) ?_
  obtain ⟨q2, hq2, h⟩ := ob h
  refine wc_Vi C hW (k := 73) (As := [.int 1, .int 255]) (rest := []) (c_X5_between G 1 255 q1.2 q2 hq2) k73 rfl (by decide) (cwV 2 hts gX5_passSigned_X5_between rfl rfl rfl yd_X5_between ⟨Nat.le_of_ble_eq_true rfl, Nat.le_of_ble_eq_true rfl⟩) rfl hl.1 rfl (Nat.le_of_ble_eq_true rfl) dX5_passSigned_41 ⟨Nat.le_refl 0, Nat.le_refl 0⟩ (fun H locs hW => ?_)
  refine lv_pop hx hb dX5_passSigned_44 rfl ?_
  refine lv_aload_n hx hb dX5_passSigned_45 rfl (lv_at hl 1 rfl) ?_
  refine lv_iconst (v := 2) hx hb dX5_passSigned_46 (by decide) ?_
  obtain ⟨q3, hq3, h⟩ := ob h
  refine wc_Vv C hW (k := 73) (As := [.int 2]) (rest := []) (c_X5_skip G 2 q2.2 q3 hq3) k73 rfl (by decide) (cwV 1 hts gX5_passSigned_X5_skip rfl rfl rfl yd_X5_skip ⟨Nat.le_of_ble_eq_true rfl, Nat.le_of_ble_eq_true rfl⟩) rfl hl.1 rfl (Nat.le_of_ble_eq_true rfl) dX5_passSigned_47 ⟨Nat.le_refl 0, Nat.le_refl 0⟩ (fun H locs hW => ?_)
  refine lv_aload_n hx hb dX5_passSigned_50 rfl (lv_at hl 1 rfl) ?_
  refine wg_i C hW (k := 73) (ci := 5) (j := 9) k73 rfl ⟨by decide, rfl⟩ inX5 (by decide) (rfq k73 rfl) (v := (q3.2 73 9)) rfl hL45 (fun _ h9 => h9) dX5_passSigned_51 ?_
  refine lv_if_eq (tgt := 62) hx hb dX5_passSigned_54 (by decide) (fun c1 => ?_) (fun c1 => ?_)
  · replace h := ift h c1
    refine lv_aload_n hx hb dX5_passSigned_62 rfl (lv_at hl 1 rfl) ?_
    refine lv_aload_n hx hb dX5_passSigned_63 rfl (lv_at hl 1 rfl) ?_
    refine wg_i C hW (k := 73) (ci := 5) (j := 7) k73 rfl ⟨by decide, rfl⟩ inX5 (by decide) (rfq k73 rfl) (v := (q3.2 73 7)) rfl hL49 (fun _ h9 => h9) dX5_passSigned_64 ?_
    refine wp_t C hW (k := 73) (ci := 5) (j := 10) (ty := .int) rfl rfl k73 rfl ⟨by decide, rfl⟩ inX5 tyX5 tyX5_ok nmX5 (by decide) (rfq k73 rfl) hL86 (fun _ h9 => h9) rfl rfl dX5_passSigned_67 (fun H locs hW => ?_)
    refine lv_aload_n hx hb dX5_passSigned_70 rfl (lv_at hl 1 rfl) ?_
    refine wg_i C hW (k := 73) (ci := 5) (j := 9) k73 rfl ⟨by decide, rfl⟩ inX5 (by decide) (rfq k73 rfl) (v := (q3.2 73 9)) (up_j (by decide)) hL45 (fun _ h9 => h9) dX5_passSigned_71 ?_
    obtain ⟨hg2, h⟩ := ifg h
    exact wr_z C hr (bB_or hg2) hW h dX5_passSigned_74
  · replace h := iff_ h c1
    refine lv_aload_n hx hb dX5_passSigned_57 rfl (lv_at hl 1 rfl) ?_
    refine lv_iload_n hx hb dX5_passSigned_58 rfl (lv_at hl 0 rfl) ?_
    obtain ⟨q4, hq4, h⟩ := ob h
    refine wc_Vv C hW (k := 73) (As := [.int q1.1]) (rest := []) (c_X5_passBody G q1.1 q3.2 q4 hq4) k73 rfl (by decide) (cwV 1 hts gX5_passSigned_X5_passBody rfl rfl rfl yd_X5_passBody ⟨Nat.le_of_ble_eq_true rfl, Nat.le_of_ble_eq_true rfl⟩) rfl hl.1 rfl (Nat.le_of_ble_eq_true rfl) dX5_passSigned_59 ⟨Nat.le_refl 0, Nat.le_refl 0⟩ (fun H locs hW => ?_)
    refine lv_aload_n hx hb dX5_passSigned_62 rfl (lv_at hl 1 rfl) ?_
    refine lv_aload_n hx hb dX5_passSigned_63 rfl (lv_at hl 1 rfl) ?_
    refine wg_i C hW (k := 73) (ci := 5) (j := 7) k73 rfl ⟨by decide, rfl⟩ inX5 (by decide) (rfq k73 rfl) (v := (q4.2 73 7)) rfl hL49 (fun _ h9 => h9) dX5_passSigned_64 ?_
    refine wp_t C hW (k := 73) (ci := 5) (j := 10) (ty := .int) rfl rfl k73 rfl ⟨by decide, rfl⟩ inX5 tyX5 tyX5_ok nmX5 (by decide) (rfq k73 rfl) hL86 (fun _ h9 => h9) rfl rfl dX5_passSigned_67 (fun H locs hW => ?_)
    refine lv_aload_n hx hb dX5_passSigned_70 rfl (lv_at hl 1 rfl) ?_
    refine wg_i C hW (k := 73) (ci := 5) (j := 9) k73 rfl ⟨by decide, rfl⟩ inX5 (by decide) (rfq k73 rfl) (v := (q4.2 73 9)) (up_j (by decide)) hL45 (fun _ h9 => h9) dX5_passSigned_71 ?_
    obtain ⟨hg3, h⟩ := ifg h
    exact wr_z C hr (bB_or hg3) hW h dX5_passSigned_74
theorem yd_X5_isDocument : yX5_isDocument.cls = RX5 ∧ yX5_isDocument.cls ≠ "java/lang/invoke/MethodHandle" ∧ yX5_isDocument.cls ≠ "java/lang/invoke/VarHandle" ∧ (parseMethodDescriptor yX5_isDocument.desc).map (fun d => d.parameters.length) = some 1 := by decide +kernel
set_option maxHeartbeats 4000000 in
set_option maxRecDepth 100000 in
theorem L_X5_isDocument_20 {G : GG} {p : Program} {e : Env} {s : State} {m : MethodId} {args : Array Value} {below : List Frame} {meth : Method} {c : Code} {Q : State → Prop} (C : Cx G wsX5_isDocument RX5 cX5_isDocument 4 p s m args meth c) : ∀ (n : Nat) (x2 : Int32) (x3 : Int32) (M : Me) (y : Int32 × Me) (H : Heap) (locs : List Loc) (ls : Array Slot), fL_X5_isDocument_20 n x2 x3 M = some y → wH G s M H locs → lv_has ls 4 [(0, .ref (ga G 73)), (2, .int x2), (3, .int x3)] → (∀ (H : Heap) (locs : List Loc) (ls : Array Slot), wH G s y.2 H locs → lv_has ls 4 [(0, .ref (ga G 73))] → W p (gl G) e (rmd 6 0 0) s m args below meth c H locs 0 0 Q (F0 m 51 ls [])) → W p (gl G) e (rmd 6 0 0) s m args below meth c H locs 0 0 Q (F0 m 20 ls []) := by
  have hx := C.1
  have hb := C.2.1
  have hown := C.2.2.2.1
  have hts := C.2.2.2.2.1
  have inX5 : ∀ w ∈ wsX50, w ∈ wsX5_isDocument := by decide +kernel
  have hL45 := hts (.fieldLink RX5 45 "TrustedUpdatesModel" "good" "Z") (by decide +kernel)
  intro n
  induction n with
  | zero => intro x2 x3 M y H locs ls h; exact nso h
  | succ n ih =>
    intro x2 x3 M y H locs ls h hW hl kx
    rw [fL_X5_isDocument_20] at h
    refine lv_iload_n hx hb dX5_isDocument_20 rfl (lv_at hl 2 rfl) ?_
    refine lv_iload_n hx hb dX5_isDocument_21 rfl (lv_at hl 1 rfl) ?_
    refine lv_icmp_ge (tgt := 51) hx hb dX5_isDocument_22 (by decide) (fun c2 => ?_) (fun c2 => ?_)
    · replace h := ift h c2
      cases h
      exact kx _ _ ls hW (lv_sub hl [0] rfl)
    · replace h := iff_ h c2
      refine lv_aload_n hx hb dX5_isDocument_25 rfl (lv_at hl 0 rfl) ?_
      refine wg_i C hW (k := 73) (ci := 5) (j := 9) k73 rfl ⟨by decide, rfl⟩ inX5 (by decide) (rfq k73 rfl) (v := (M 73 9)) rfl hL45 (fun _ h9 => h9) dX5_isDocument_26 ?_
      refine lv_if_eq (tgt := 51) hx hb dX5_isDocument_29 (by decide) (fun c3 => ?_) (fun c3 => ?_)
      · replace h := ift h c3
        cases h
        exact kx _ _ ls hW (lv_sub hl [0] rfl)
      · replace h := iff_ h c3
        refine lv_aload_n hx hb dX5_isDocument_32 rfl (lv_at hl 0 rfl) ?_
        refine lv_iconst (v := 0) hx hb dX5_isDocument_33 (by decide) ?_
        refine lv_bipush (v := 9) hx hb dX5_isDocument_34 (by decide) ?_
        obtain ⟨q3, hq3, h⟩ := ob h
        refine wc_Vi C hW (k := 73) (As := [.int 0, .int 9]) (rest := []) (c_X5_between G 0 9 M q3 hq3) k73 rfl (by decide) (cwV 2 hts gX5_isDocument_X5_between rfl rfl rfl yd_X5_between ⟨Nat.le_of_ble_eq_true rfl, Nat.le_of_ble_eq_true rfl⟩) rfl hl.1 rfl (Nat.le_of_ble_eq_true rfl) dX5_isDocument_36 ⟨Nat.le_refl 0, Nat.le_refl 0⟩ (fun H locs hW => ?_)
        refine lv_pop hx hb dX5_isDocument_39 rfl ?_
        refine lv_aload_n hx hb dX5_isDocument_40 rfl (lv_at hl 0 rfl) ?_
        refine lv_iconst (v := 4) hx hb dX5_isDocument_41 (by decide) ?_
        obtain ⟨q4, hq4, h⟩ := ob h
        refine wc_Vv C hW (k := 73) (As := [.int 4]) (rest := []) (c_X5_skip G 4 q3.2 q4 hq4) k73 rfl (by decide) (cwV 1 hts gX5_isDocument_X5_skip rfl rfl rfl yd_X5_skip ⟨Nat.le_of_ble_eq_true rfl, Nat.le_of_ble_eq_true rfl⟩) rfl hl.1 rfl (Nat.le_of_ble_eq_true rfl) dX5_isDocument_42 ⟨Nat.le_refl 0, Nat.le_refl 0⟩ (fun H locs hW => ?_)
        refine lv_iinc (v := (x3 + 1)) (lv' := [(3, .int (x3 + 1)), (0, .ref (ga G 73)), (2, .int x2)]) hx hb dX5_isDocument_45 hl (k := 2) rfl rfl (by decide) rfl (fun ls hl => ?_)
        refine lv_goto (tgt := 20) hx hb dX5_isDocument_48 (by decide) ?_
        exact ih x2 (x3 + 1) q4.2 y _ _ ls h hW (lv_sub hl [1, 2, 0] rfl) kx
set_option maxHeartbeats 4000000 in
set_option maxRecDepth 100000 in
theorem c_X5_isDocument (G : GG) (a1 : Int32) (M : Me) (y : Int32 × Me) (h : f_X5_isDocument a1 M = some y) : CI G yX5_isDocument wsX5_isDocument (rmd 6 0 0) [.ref (ga G 73), .int a1] M y := by
  rw [f_X5_isDocument] at h
  refine co_o (by decide) rfl rfl (Nat.le_of_ble_eq_true rfl) (fun p e s m below meth c ls C hr hW hl => ?_)
  have hx := C.1
  have hb := C.2.1
  have hown := C.2.2.2.1
  have hts := C.2.2.2.2.1
  have inX5 : ∀ w ∈ wsX50, w ∈ wsX5_isDocument := by decide +kernel
  have hL45 := hts (.fieldLink RX5 45 "TrustedUpdatesModel" "good" "Z") (by decide +kernel)
  have hL49 := hts (.fieldLink RX5 49 "TrustedUpdatesModel" "at" "I") (by decide +kernel)
  have hL52 := hts (.fieldLink RX5 52 "TrustedUpdatesModel" "end" "I") (by decide +kernel)
  have hl : lv_has ls 4 [(0, .ref (ga G 73)), (1, .int a1)] := hl
  refine lv_aload_n hx hb dX5_isDocument_0 rfl (lv_at hl 0 rfl) ?_
  refine lv_iload_n hx hb dX5_isDocument_1 rfl (lv_at hl 1 rfl) ?_
  obtain ⟨q1, hq1, h⟩ := ob h
  refine wc_Vi C hW (k := 73) (As := [.int a1]) (rest := []) (c_X5_passSigned G a1 M q1 hq1) k73 rfl (by decide) (cwV 1 hts gX5_isDocument_X5_passSigned rfl rfl rfl yd_X5_passSigned ⟨Nat.le_of_ble_eq_true rfl, Nat.le_of_ble_eq_true rfl⟩) rfl hl.1 rfl (Nat.le_of_ble_eq_true rfl) dX5_isDocument_2 ⟨Nat.le_refl 0, Nat.le_refl 0⟩ (fun H locs hW => ?_)
  refine lv_if_ne (tgt := 10) hx hb dX5_isDocument_5 (by decide) (fun c1 => ?_) (fun c1 => ?_)
  · replace h := iff_ h c1
    refine lv_aload_n hx hb dX5_isDocument_10 rfl (lv_at hl 0 rfl) ?_
    refine lv_iconst (v := 0) hx hb dX5_isDocument_11 (by decide) ?_
    refine lv_bipush (v := 6) hx hb dX5_isDocument_12 (by decide) ?_
    obtain ⟨q2, hq2, h⟩ := ob h
    refine wc_Vi C hW (k := 73) (As := [.int 0, .int 6]) (rest := []) (c_X5_between G 0 6 q1.2 q2 hq2) k73 rfl (by decide) (cwV 2 hts gX5_isDocument_X5_between rfl rfl rfl yd_X5_between ⟨Nat.le_of_ble_eq_true rfl, Nat.le_of_ble_eq_true rfl⟩) rfl hl.1 rfl (Nat.le_of_ble_eq_true rfl) dX5_isDocument_14 ⟨Nat.le_refl 0, Nat.le_refl 0⟩ (fun H locs hW => ?_)
    refine lv_istore_n (lv' := [(2, .int q2.1), (0, .ref (ga G 73)), (1, .int a1)]) hx hb dX5_isDocument_17 rfl hl (by decide) rfl (fun ls hl => ?_)
    refine lv_iconst (v := 0) hx hb dX5_isDocument_18 (by decide) ?_
    refine lv_istore_n (lv' := [(3, .int 0), (2, .int q2.1), (0, .ref (ga G 73)), (1, .int a1)]) hx hb dX5_isDocument_19 rfl hl (by decide) rfl (fun ls hl => ?_)
    obtain ⟨q5, hq5, h⟩ := ob h
    refine L_X5_isDocument_20 C 200 q2.1 0 q2.2 q5 _ _ ls hq5 hW (lv_sub hl [2, 1, 0] rfl) (fun H locs ls hW hl => ?_)
    refine lv_aload_n hx hb dX5_isDocument_51 rfl (lv_at hl 0 rfl) ?_
    refine wg_i C hW (k := 73) (ci := 5) (j := 9) k73 rfl ⟨by decide, rfl⟩ inX5 (by decide) (rfq k73 rfl) (v := (q5.2 73 9)) rfl hL45 (fun _ h9 => h9) dX5_isDocument_52 ?_
    refine lv_if_eq (tgt := 73) hx hb dX5_isDocument_55 (by decide) (fun c4 => ?_) (fun c4 => ?_)
    · replace h := ift h c4
      refine lv_iconst (v := 0) hx hb dX5_isDocument_73 (by decide) ?_
      exact wr_z C hr (Or.inl rfl) hW h dX5_isDocument_74
    · replace h := iff_ h c4
      refine lv_aload_n hx hb dX5_isDocument_58 rfl (lv_at hl 0 rfl) ?_
      refine wg_i C hW (k := 73) (ci := 5) (j := 7) k73 rfl ⟨by decide, rfl⟩ inX5 (by decide) (rfq k73 rfl) (v := (q5.2 73 7)) rfl hL49 (fun _ h9 => h9) dX5_isDocument_59 ?_
      refine lv_aload_n hx hb dX5_isDocument_62 rfl (lv_at hl 0 rfl) ?_
      refine wg_i C hW (k := 73) (ci := 5) (j := 8) k73 rfl ⟨by decide, rfl⟩ inX5 (by decide) (rfq k73 rfl) (v := (q5.2 73 8)) rfl hL52 (fun _ h9 => h9) dX5_isDocument_63 ?_
      refine lv_icmp_ne (tgt := 73) hx hb dX5_isDocument_66 (by decide) (fun c5 => ?_) (fun c5 => ?_)
      · replace h := iff_ h c5
        refine lv_iconst (v := 0) hx hb dX5_isDocument_73 (by decide) ?_
        exact wr_z C hr (Or.inl rfl) hW h dX5_isDocument_74
      · replace h := ift h c5
        refine lv_iconst (v := 1) hx hb dX5_isDocument_69 (by decide) ?_
        refine lv_goto (tgt := 74) hx hb dX5_isDocument_70 (by decide) ?_
        exact wr_z C hr (Or.inr rfl) hW h dX5_isDocument_74
  · replace h := ift h c1
    refine lv_iconst (v := 0) hx hb dX5_isDocument_8 (by decide) ?_
    exact wr_z C hr (Or.inl rfl) hW h dX5_isDocument_9
theorem yd_X5_hasSignature : yX5_hasSignature.cls = RX5 ∧ yX5_hasSignature.cls ≠ "java/lang/invoke/MethodHandle" ∧ yX5_hasSignature.cls ≠ "java/lang/invoke/VarHandle" ∧ (parseMethodDescriptor yX5_hasSignature.desc).map (fun d => d.parameters.length) = some 2 := by decide +kernel
set_option maxHeartbeats 4000000 in
set_option maxRecDepth 100000 in
theorem L_X5_hasSignature_27 {G : GG} {p : Program} {e : Env} {s : State} {m : MethodId} {args : Array Value} {below : List Frame} {meth : Method} {c : Code} {Q : State → Prop} (C : Cx G wsX5_hasSignature RX5 cX5_hasSignature 8 p s m args meth c) : ∀ (n : Nat) (x2 : Int32) (x4 : Int32) (x5 : Int32) (x6 : Int32) (M : Me) (y : Int32 × Me) (H : Heap) (locs : List Loc) (ls : Array Slot), fL_X5_hasSignature_27 n x2 x4 x5 x6 M = some y → wH G s M H locs → lv_has ls 8 [(0, .ref (ga G 73)), (2, .int x2), (4, .int x4), (5, .int x5), (6, .int x6)] → (∀ (H : Heap) (locs : List Loc) (ls : Array Slot), wH G s y.2 H locs → lv_has ls 8 [(5, .int y.1)] → W p (gl G) e (rmd 1 0 0) s m args below meth c H locs 0 0 Q (F0 m 96 ls [])) → W p (gl G) e (rmd 1 0 0) s m args below meth c H locs 0 0 Q (F0 m 27 ls []) := by
  have hx := C.1
  have hb := C.2.1
  have hown := C.2.2.2.1
  have hts := C.2.2.2.2.1
  have inX5 : ∀ w ∈ wsX50, w ∈ wsX5_hasSignature := by decide +kernel
  have hL7 := hts (.fieldLink RX5 7 "TrustedUpdatesModel" "row" "[I") (by decide +kernel)
  have hL86 := hts (.fieldLink RX5 86 "TrustedUpdatesModel" "signed" "I") (by decide +kernel)
  intro n
  induction n with
  | zero => intro x2 x4 x5 x6 M y H locs ls h; exact nso h
  | succ n ih =>
    intro x2 x4 x5 x6 M y H locs ls h hW hl kx
    rw [fL_X5_hasSignature_27] at h
    refine lv_iload hx hb dX5_hasSignature_27 (lv_at hl 4 rfl) ?_
    refine lv_aload_n hx hb dX5_hasSignature_29 rfl (lv_at hl 0 rfl) ?_
    refine wg_r C hW (k := 73) (ci := 5) (j := 1) (q := 74) k73 rfl ⟨by decide, rfl⟩ inX5 (by decide) (rfq k73 rfl) hL7 (fun _ h9 => h9) dX5_hasSignature_30 ?_
    refine lv_aload_n hx hb dX5_hasSignature_33 rfl (lv_at hl 0 rfl) ?_
    refine wg_i C hW (k := 73) (ci := 5) (j := 10) k73 rfl ⟨by decide, rfl⟩ inX5 (by decide) (rfq k73 rfl) (v := (M 73 10)) rfl hL86 (fun _ h9 => h9) dX5_hasSignature_34 ?_
    obtain ⟨hg1, h⟩ := ifg h
    refine wa_l C hW (k := 74) k74 hg1 dX5_hasSignature_37 (v := (M 74 (M 73 10).toNatClampNeg)) rfl ?_
    refine lv_icmp_ge (tgt := 96) hx hb dX5_hasSignature_38 (by decide) (fun c1 => ?_) (fun c1 => ?_)
    · replace h := ift h c1
      cases h
      exact kx _ _ ls hW (lv_sub hl [3] rfl)
    · replace h := iff_ h c1
      refine lv_aload_n hx hb dX5_hasSignature_41 rfl (lv_at hl 0 rfl) ?_
      refine wg_i C hW (k := 73) (ci := 5) (j := 10) k73 rfl ⟨by decide, rfl⟩ inX5 (by decide) (rfq k73 rfl) (v := (M 73 10)) rfl hL86 (fun _ h9 => h9) dX5_hasSignature_42 ?_
      refine lv_iconst (v := 1) hx hb dX5_hasSignature_45 (by decide) ?_
      refine lv_iadd hx hb dX5_hasSignature_46 ?_
      refine lv_iconst (v := 5) hx hb dX5_hasSignature_47 (by decide) ?_
      refine lv_iload hx hb dX5_hasSignature_48 (lv_at hl 4 rfl) ?_
      refine lv_imul hx hb dX5_hasSignature_50 ?_
      refine lv_iadd hx hb dX5_hasSignature_51 ?_
      refine lv_istore (lv' := [(7, .int (((M 73 10) + 1) + (5 * x6))), (0, .ref (ga G 73)), (2, .int x2), (4, .int x4), (5, .int x5), (6, .int x6)]) hx hb dX5_hasSignature_52 hl (by decide) rfl (fun ls hl => ?_)
      refine lv_iload hx hb dX5_hasSignature_54 (lv_at hl 4 rfl) ?_
      refine lv_if_ne (tgt := 83) hx hb dX5_hasSignature_56 (by decide) (fun c2 => ?_) (fun c2 => ?_)
      · replace h := iff_ h c2
        refine lv_iconst (v := 1) hx hb dX5_hasSignature_83 (by decide) ?_
        refine lv_goto (tgt := 88) hx hb dX5_hasSignature_84 (by decide) ?_
        refine lv_istore (lv' := [(5, .int 1), (7, .int (((M 73 10) + 1) + (5 * x6))), (0, .ref (ga G 73)), (2, .int x2), (4, .int x4), (6, .int x6)]) hx hb dX5_hasSignature_88 hl (by decide) rfl (fun ls hl => ?_)
        refine lv_iinc (v := (x6 + 1)) (lv' := [(6, .int (x6 + 1)), (5, .int 1), (7, .int (((M 73 10) + 1) + (5 * x6))), (0, .ref (ga G 73)), (2, .int x2), (4, .int x4)]) hx hb dX5_hasSignature_90 hl (k := 5) rfl rfl (by decide) rfl (fun ls hl => ?_)
        refine lv_goto (tgt := 27) hx hb dX5_hasSignature_93 (by decide) ?_
        exact ih x2 x4 1 (x6 + 1) M y _ _ ls h hW (lv_sub hl [3, 4, 5, 1, 0] rfl) kx
      · replace h := ift h c2
        refine lv_aload_n hx hb dX5_hasSignature_59 rfl (lv_at hl 1 rfl) ?_
        refine wg_r C hW (k := 73) (ci := 5) (j := 1) (q := 74) k73 rfl ⟨by decide, rfl⟩ inX5 (by decide) (rfq k73 rfl) hL7 (fun _ h9 => h9) dX5_hasSignature_60 ?_
        refine lv_iload hx hb dX5_hasSignature_63 (lv_at hl 0 rfl) ?_
        obtain ⟨hg2, h⟩ := ifg h
        refine wa_l C hW (k := 74) k74 hg2 dX5_hasSignature_65 (v := (M 74 (((M 73 10) + 1) + (5 * x6)).toNatClampNeg)) rfl ?_
        refine lv_iload_n hx hb dX5_hasSignature_66 rfl (lv_at hl 2 rfl) ?_
        refine lv_icmp_ne (tgt := 87) hx hb dX5_hasSignature_67 (by decide) (fun c3 => ?_) (fun c3 => ?_)
        · replace h := iff_ h c3
          refine lv_iconst (v := 0) hx hb dX5_hasSignature_87 (by decide) ?_
          refine lv_istore (lv' := [(5, .int 0), (7, .int (((M 73 10) + 1) + (5 * x6))), (0, .ref (ga G 73)), (2, .int x2), (4, .int x4), (6, .int x6)]) hx hb dX5_hasSignature_88 hl (by decide) rfl (fun ls hl => ?_)
          refine lv_iinc (v := (x6 + 1)) (lv' := [(6, .int (x6 + 1)), (5, .int 0), (7, .int (((M 73 10) + 1) + (5 * x6))), (0, .ref (ga G 73)), (2, .int x2), (4, .int x4)]) hx hb dX5_hasSignature_90 hl (k := 5) rfl rfl (by decide) rfl (fun ls hl => ?_)
          refine lv_goto (tgt := 27) hx hb dX5_hasSignature_93 (by decide) ?_
          exact ih x2 x4 0 (x6 + 1) M y _ _ ls h hW (lv_sub hl [3, 4, 5, 1, 0] rfl) kx
        · replace h := ift h c3
          refine lv_aload_n hx hb dX5_hasSignature_70 rfl (lv_at hl 1 rfl) ?_
          refine lv_iload hx hb dX5_hasSignature_71 (lv_at hl 0 rfl) ?_
          refine lv_iconst (v := 1) hx hb dX5_hasSignature_73 (by decide) ?_
          refine lv_iadd hx hb dX5_hasSignature_74 ?_
          obtain ⟨q2, hq2, h⟩ := ob h
          refine wc_Vi C hW (k := 73) (As := [.int ((((M 73 10) + 1) + (5 * x6)) + 1)]) (rest := []) (c_X5_four G ((((M 73 10) + 1) + (5 * x6)) + 1) M q2 hq2) k73 rfl (by decide) (cwV 1 hts gX5_hasSignature_X5_four rfl rfl rfl yd_X5_four ⟨Nat.le_of_ble_eq_true rfl, Nat.le_of_ble_eq_true rfl⟩) rfl hl.1 rfl (Nat.le_of_ble_eq_true rfl) dX5_hasSignature_75 ⟨Nat.le_refl 0, Nat.le_refl 0⟩ (fun H locs hW => ?_)
          refine lv_iload hx hb dX5_hasSignature_78 (lv_at hl 3 rfl) ?_
          refine lv_icmp_ne (tgt := 87) hx hb dX5_hasSignature_80 (by decide) (fun c4 => ?_) (fun c4 => ?_)
          · replace h := iff_ h c4
            refine lv_iconst (v := 0) hx hb dX5_hasSignature_87 (by decide) ?_
            refine lv_istore (lv' := [(5, .int 0), (7, .int (((M 73 10) + 1) + (5 * x6))), (0, .ref (ga G 73)), (2, .int x2), (4, .int x4), (6, .int x6)]) hx hb dX5_hasSignature_88 hl (by decide) rfl (fun ls hl => ?_)
            refine lv_iinc (v := (x6 + 1)) (lv' := [(6, .int (x6 + 1)), (5, .int 0), (7, .int (((M 73 10) + 1) + (5 * x6))), (0, .ref (ga G 73)), (2, .int x2), (4, .int x4)]) hx hb dX5_hasSignature_90 hl (k := 5) rfl rfl (by decide) rfl (fun ls hl => ?_)
            refine lv_goto (tgt := 27) hx hb dX5_hasSignature_93 (by decide) ?_
            exact ih x2 x4 0 (x6 + 1) q2.2 y _ _ ls h hW (lv_sub hl [3, 4, 5, 1, 0] rfl) kx
          · replace h := ift h c4
            refine lv_iconst (v := 1) hx hb dX5_hasSignature_83 (by decide) ?_
            refine lv_goto (tgt := 88) hx hb dX5_hasSignature_84 (by decide) ?_
            refine lv_istore (lv' := [(5, .int 1), (7, .int (((M 73 10) + 1) + (5 * x6))), (0, .ref (ga G 73)), (2, .int x2), (4, .int x4), (6, .int x6)]) hx hb dX5_hasSignature_88 hl (by decide) rfl (fun ls hl => ?_)
            refine lv_iinc (v := (x6 + 1)) (lv' := [(6, .int (x6 + 1)), (5, .int 1), (7, .int (((M 73 10) + 1) + (5 * x6))), (0, .ref (ga G 73)), (2, .int x2), (4, .int x4)]) hx hb dX5_hasSignature_90 hl (k := 5) rfl rfl (by decide) rfl (fun ls hl => ?_)
            refine lv_goto (tgt := 27) hx hb dX5_hasSignature_93 (by decide) ?_
            exact ih x2 x4 1 (x6 + 1) q2.2 y _ _ ls h hW (lv_sub hl [3, 4, 5, 1, 0] rfl) kx
set_option maxHeartbeats 4000000 in
set_option maxRecDepth 100000 in
theorem c_X5_hasSignature (G : GG) (a1 : Int32) (a2 : Int32) (M : Me) (y : Int32 × Me) (h : f_X5_hasSignature a1 a2 M = some y) : CI G yX5_hasSignature wsX5_hasSignature (rmd 1 0 0) [.ref (ga G 73), .int a1, .int a2] M y := by
  rw [f_X5_hasSignature] at h
  refine co_o (by decide) rfl rfl (Nat.le_of_ble_eq_true rfl) (fun p e s m below meth c ls C hr hW hl => ?_)
  have hx := C.1
  have hb := C.2.1
  have hown := C.2.2.2.1
  have hts := C.2.2.2.2.1
  have inX5 : ∀ w ∈ wsX50, w ∈ wsX5_hasSignature := by decide +kernel
  have hL86 := hts (.fieldLink RX5 86 "TrustedUpdatesModel" "signed" "I") (by decide +kernel)
  have hl : lv_has ls 8 [(0, .ref (ga G 73)), (1, .int a1), (2, .int a2)] := hl
  refine lv_bipush (v := 120) hx hb dX5_hasSignature_0 (by decide) ?_
  refine lv_iload_n hx hb dX5_hasSignature_2 rfl (lv_at hl 1 rfl) ?_
  refine lv_imul hx hb dX5_hasSignature_3 ?_
  refine lv_istore_n (lv' := [(3, .int (120 * a1)), (0, .ref (ga G 73)), (1, .int a1), (2, .int a2)]) hx hb dX5_hasSignature_4 rfl hl (by decide) rfl (fun ls hl => ?_)
  refine lv_aload_n hx hb dX5_hasSignature_5 rfl (lv_at hl 1 rfl) ?_
  refine lv_iload_n hx hb dX5_hasSignature_6 rfl (lv_at hl 0 rfl) ?_
  refine lv_aload_n hx hb dX5_hasSignature_7 rfl (lv_at hl 1 rfl) ?_
  refine wg_i C hW (k := 73) (ci := 5) (j := 10) k73 rfl ⟨by decide, rfl⟩ inX5 (by decide) (rfq k73 rfl) (v := (M 73 10)) rfl hL86 (fun _ h9 => h9) dX5_hasSignature_8 ?_
  refine lv_iload_n hx hb dX5_hasSignature_11 rfl (lv_at hl 0 rfl) ?_
  refine lv_isub hx hb dX5_hasSignature_12 ?_
  refine lv_iload_n hx hb dX5_hasSignature_13 rfl (lv_at hl 3 rfl) ?_
  refine lv_iconst (v := 1) hx hb dX5_hasSignature_14 (by decide) ?_
  refine lv_iadd hx hb dX5_hasSignature_15 ?_
  obtain ⟨q1, hq1, h⟩ := ob h
  refine wc_Vi C hW (k := 73) (As := [.int (120 * a1), .int ((M 73 10) - (120 * a1)), .int (a2 + 1)]) (rest := []) (c_X5_mixOf G (120 * a1) ((M 73 10) - (120 * a1)) (a2 + 1) M q1 hq1) k73 rfl (by decide) (cwV 3 hts gX5_hasSignature_X5_mixOf rfl rfl rfl yd_X5_mixOf ⟨Nat.le_of_ble_eq_true rfl, Nat.le_of_ble_eq_true rfl⟩) rfl hl.1 rfl (Nat.le_of_ble_eq_true rfl) dX5_hasSignature_16 ⟨Nat.le_refl 0, Nat.le_refl 0⟩ (fun H locs hW => ?_)
  refine lv_istore (lv' := [(4, .int q1.1), (3, .int (120 * a1)), (0, .ref (ga G 73)), (1, .int a1), (2, .int a2)]) hx hb dX5_hasSignature_19 hl (by decide) rfl (fun ls hl => ?_)
  refine lv_iconst (v := 0) hx hb dX5_hasSignature_21 (by decide) ?_
  refine lv_istore (lv' := [(5, .int 0), (4, .int q1.1), (3, .int (120 * a1)), (0, .ref (ga G 73)), (1, .int a1), (2, .int a2)]) hx hb dX5_hasSignature_22 hl (by decide) rfl (fun ls hl => ?_)
  refine lv_iconst (v := 0) hx hb dX5_hasSignature_24 (by decide) ?_
  refine lv_istore (lv' := [(6, .int 0), (5, .int 0), (4, .int q1.1), (3, .int (120 * a1)), (0, .ref (ga G 73)), (1, .int a1), (2, .int a2)]) hx hb dX5_hasSignature_25 hl (by decide) rfl (fun ls hl => ?_)
  obtain ⟨q3, hq3, h⟩ := ob h
  refine L_X5_hasSignature_27 C 200 a2 q1.1 0 0 q1.2 q3 _ _ ls hq3 hW (lv_sub hl [4, 6, 2, 1, 0] rfl) (fun H locs ls hW hl => ?_)
  refine lv_iload hx hb dX5_hasSignature_96 (lv_at hl 0 rfl) ?_
  obtain ⟨hg3, h⟩ := ifg h
  exact wr_z C hr (bB_or hg3) hW h dX5_hasSignature_98
theorem yd_X5_isSigned : yX5_isSigned.cls = RX5 ∧ yX5_isSigned.cls ≠ "java/lang/invoke/MethodHandle" ∧ yX5_isSigned.cls ≠ "java/lang/invoke/VarHandle" ∧ (parseMethodDescriptor yX5_isSigned.desc).map (fun d => d.parameters.length) = some 2 := by decide +kernel
set_option maxHeartbeats 4000000 in
set_option maxRecDepth 100000 in
theorem L_X5_isSigned_12 {G : GG} {p : Program} {e : Env} {s : State} {m : MethodId} {args : Array Value} {below : List Frame} {meth : Method} {c : Code} {Q : State → Prop} (C : Cx G wsX5_isSigned RX5 cX5_isSigned 6 p s m args meth c) : ∀ (n : Nat) (x1 : Int32) (x2 : Int32) (x3 : Int32) (x4 : Int32) (x5 : Int32) (M : Me) (y : Int32 × Me) (H : Heap) (locs : List Loc) (ls : Array Slot), fL_X5_isSigned_12 n x1 x2 x3 x4 x5 M = some y → wH G s M H locs → lv_has ls 6 [(0, .ref (ga G 73)), (1, .int x1), (2, .int x2), (3, .int x3), (4, .int x4), (5, .int x5)] → (∀ (H : Heap) (locs : List Loc) (ls : Array Slot), wH G s y.2 H locs → lv_has ls 6 [(0, .ref (ga G 73)), (2, .int x2), (3, .int x3), (4, .int y.1)] → W p (gl G) e (rmd 7 0 0) s m args below meth c H locs 0 0 Q (F0 m 65 ls [])) → W p (gl G) e (rmd 7 0 0) s m args below meth c H locs 0 0 Q (F0 m 12 ls []) := by
  have hx := C.1
  have hb := C.2.1
  have hown := C.2.2.2.1
  have hts := C.2.2.2.2.1
  have inX5 : ∀ w ∈ wsX50, w ∈ wsX5_isSigned := by decide +kernel
  have hL7 := hts (.fieldLink RX5 7 "TrustedUpdatesModel" "row" "[I") (by decide +kernel)
  intro n
  induction n with
  | zero => intro x1 x2 x3 x4 x5 M y H locs ls h; exact nso h
  | succ n ih =>
    intro x1 x2 x3 x4 x5 M y H locs ls h hW hl kx
    rw [fL_X5_isSigned_12] at h
    refine lv_iload hx hb dX5_isSigned_12 (lv_at hl 5 rfl) ?_
    refine lv_aload_n hx hb dX5_isSigned_14 rfl (lv_at hl 0 rfl) ?_
    refine wg_r C hW (k := 73) (ci := 5) (j := 1) (q := 74) k73 rfl ⟨by decide, rfl⟩ inX5 (by decide) (rfq k73 rfl) hL7 (fun _ h9 => h9) dX5_isSigned_15 ?_
    refine lv_iload_n hx hb dX5_isSigned_18 rfl (lv_at hl 2 rfl) ?_
    refine lv_iconst (v := 1) hx hb dX5_isSigned_19 (by decide) ?_
    refine lv_iadd hx hb dX5_isSigned_20 ?_
    obtain ⟨hg1, h⟩ := ifg h
    refine wa_l C hW (k := 74) k74 hg1 dX5_isSigned_21 (v := (M 74 (x2 + 1).toNatClampNeg)) rfl ?_
    refine lv_icmp_ge (tgt := 65) hx hb dX5_isSigned_22 (by decide) (fun c1 => ?_) (fun c1 => ?_)
    · replace h := ift h c1
      cases h
      exact kx _ _ ls hW (lv_sub hl [0, 2, 3, 4] rfl)
    · replace h := iff_ h c1
      refine lv_iload_n hx hb dX5_isSigned_25 rfl (lv_at hl 3 rfl) ?_
      refine lv_if_eq (tgt := 65) hx hb dX5_isSigned_26 (by decide) (fun c2 => ?_) (fun c2 => ?_)
      · replace h := ift h c2
        cases h
        exact kx _ _ ls hW (lv_sub hl [0, 2, 3, 4] rfl)
      · replace h := iff_ h c2
        refine lv_aload_n hx hb dX5_isSigned_29 rfl (lv_at hl 0 rfl) ?_
        refine lv_iload_n hx hb dX5_isSigned_30 rfl (lv_at hl 1 rfl) ?_
        refine lv_aload_n hx hb dX5_isSigned_31 rfl (lv_at hl 0 rfl) ?_
        refine wg_r C hW (k := 73) (ci := 5) (j := 1) (q := 74) k73 rfl ⟨by decide, rfl⟩ inX5 (by decide) (rfq k73 rfl) hL7 (fun _ h9 => h9) dX5_isSigned_32 ?_
        refine lv_iload_n hx hb dX5_isSigned_35 rfl (lv_at hl 2 rfl) ?_
        refine lv_iconst (v := 2) hx hb dX5_isSigned_36 (by decide) ?_
        refine lv_iadd hx hb dX5_isSigned_37 ?_
        refine lv_iload hx hb dX5_isSigned_38 (lv_at hl 5 rfl) ?_
        refine lv_iadd hx hb dX5_isSigned_40 ?_
        obtain ⟨hg2, h⟩ := ifg h
        refine wa_l C hW (k := 74) k74 hg2 dX5_isSigned_41 (v := (M 74 ((x2 + 2) + x5).toNatClampNeg)) rfl ?_
        obtain ⟨q2, hq2, h⟩ := ob h
        refine wc_Vi C hW (k := 73) (As := [.int x1, .int (M 74 ((x2 + 2) + x5).toNatClampNeg)]) (rest := []) (c_X5_hasSignature G x1 (M 74 ((x2 + 2) + x5).toNatClampNeg) M q2 hq2) k73 rfl (by decide) (cwV 2 hts gX5_isSigned_X5_hasSignature rfl rfl rfl yd_X5_hasSignature ⟨Nat.le_of_ble_eq_true rfl, Nat.le_of_ble_eq_true rfl⟩) rfl hl.1 rfl (Nat.le_of_ble_eq_true rfl) dX5_isSigned_42 ⟨Nat.le_refl 0, Nat.le_refl 0⟩ (fun H locs hW => ?_)
        refine lv_if_eq (tgt := 55) hx hb dX5_isSigned_45 (by decide) (fun c3 => ?_) (fun c3 => ?_)
        · replace h := ift h c3
          refine lv_iload hx hb dX5_isSigned_55 (lv_at hl 4 rfl) ?_
          refine lv_istore (lv' := [(4, .int x4), (0, .ref (ga G 73)), (1, .int x1), (2, .int x2), (3, .int x3), (5, .int x5)]) hx hb dX5_isSigned_57 hl (by decide) rfl (fun ls hl => ?_)
          refine lv_iinc (v := (x5 + 1)) (lv' := [(5, .int (x5 + 1)), (4, .int x4), (0, .ref (ga G 73)), (1, .int x1), (2, .int x2), (3, .int x3)]) hx hb dX5_isSigned_59 hl (k := 5) rfl rfl (by decide) rfl (fun ls hl => ?_)
          refine lv_goto (tgt := 12) hx hb dX5_isSigned_62 (by decide) ?_
          exact ih x1 x2 x3 x4 (x5 + 1) q2.2 y _ _ ls h hW (lv_sub hl [2, 3, 4, 5, 1, 0] rfl) kx
        · replace h := iff_ h c3
          refine lv_iload hx hb dX5_isSigned_48 (lv_at hl 4 rfl) ?_
          refine lv_iconst (v := 1) hx hb dX5_isSigned_50 (by decide) ?_
          refine lv_iadd hx hb dX5_isSigned_51 ?_
          refine lv_goto (tgt := 57) hx hb dX5_isSigned_52 (by decide) ?_
          refine lv_istore (lv' := [(4, .int (x4 + 1)), (0, .ref (ga G 73)), (1, .int x1), (2, .int x2), (3, .int x3), (5, .int x5)]) hx hb dX5_isSigned_57 hl (by decide) rfl (fun ls hl => ?_)
          refine lv_iinc (v := (x5 + 1)) (lv' := [(5, .int (x5 + 1)), (4, .int (x4 + 1)), (0, .ref (ga G 73)), (1, .int x1), (2, .int x2), (3, .int x3)]) hx hb dX5_isSigned_59 hl (k := 5) rfl rfl (by decide) rfl (fun ls hl => ?_)
          refine lv_goto (tgt := 12) hx hb dX5_isSigned_62 (by decide) ?_
          exact ih x1 x2 x3 (x4 + 1) (x5 + 1) q2.2 y _ _ ls h hW (lv_sub hl [2, 3, 4, 5, 1, 0] rfl) kx
set_option maxHeartbeats 4000000 in
set_option maxRecDepth 100000 in
theorem c_X5_isSigned (G : GG) (a1 : Int32) (a2 : Int32) (M : Me) (y : Int32 × Me) (h : f_X5_isSigned a1 a2 M = some y) : CI G yX5_isSigned wsX5_isSigned (rmd 7 0 0) [.ref (ga G 73), .int a1, .int a2] M y := by
  rw [f_X5_isSigned] at h
  refine co_o (by decide) rfl rfl (Nat.le_of_ble_eq_true rfl) (fun p e s m below meth c ls C hr hW hl => ?_)
  have hx := C.1
  have hb := C.2.1
  have hown := C.2.2.2.1
  have hts := C.2.2.2.2.1
  have inX5 : ∀ w ∈ wsX50, w ∈ wsX5_isSigned := by decide +kernel
  have hL7 := hts (.fieldLink RX5 7 "TrustedUpdatesModel" "row" "[I") (by decide +kernel)
  have hl : lv_has ls 6 [(0, .ref (ga G 73)), (1, .int a1), (2, .int a2)] := hl
  refine lv_aload_n hx hb dX5_isSigned_0 rfl (lv_at hl 0 rfl) ?_
  refine lv_iload_n hx hb dX5_isSigned_1 rfl (lv_at hl 1 rfl) ?_
  obtain ⟨q1, hq1, h⟩ := ob h
  refine wc_Vi C hW (k := 73) (As := [.int a1]) (rest := []) (c_X5_isDocument G a1 M q1 hq1) k73 rfl (by decide) (cwV 1 hts gX5_isSigned_X5_isDocument rfl rfl rfl yd_X5_isDocument ⟨Nat.le_of_ble_eq_true rfl, Nat.le_of_ble_eq_true rfl⟩) rfl hl.1 rfl (Nat.le_of_ble_eq_true rfl) dX5_isSigned_2 ⟨Nat.le_refl 0, Nat.le_refl 0⟩ (fun H locs hW => ?_)
  refine lv_istore_n (lv' := [(3, .int q1.1), (0, .ref (ga G 73)), (1, .int a1), (2, .int a2)]) hx hb dX5_isSigned_5 rfl hl (by decide) rfl (fun ls hl => ?_)
  refine lv_iconst (v := 0) hx hb dX5_isSigned_6 (by decide) ?_
  refine lv_istore (lv' := [(4, .int 0), (3, .int q1.1), (0, .ref (ga G 73)), (1, .int a1), (2, .int a2)]) hx hb dX5_isSigned_7 hl (by decide) rfl (fun ls hl => ?_)
  refine lv_iconst (v := 0) hx hb dX5_isSigned_9 (by decide) ?_
  refine lv_istore (lv' := [(5, .int 0), (4, .int 0), (3, .int q1.1), (0, .ref (ga G 73)), (1, .int a1), (2, .int a2)]) hx hb dX5_isSigned_10 hl (by decide) rfl (fun ls hl => ?_)
  obtain ⟨q3, hq3, h⟩ := ob h
  refine L_X5_isSigned_12 C 200 a1 a2 q1.1 0 0 q1.2 q3 _ _ ls hq3 hW (lv_sub hl [3, 4, 5, 2, 1, 0] rfl) (fun H locs ls hW hl => ?_)
  refine lv_iload_n hx hb dX5_isSigned_65 rfl (lv_at hl 2 rfl) ?_
  refine lv_if_eq (tgt := 84) hx hb dX5_isSigned_66 (by decide) (fun c4 => ?_) (fun c4 => ?_)
  · replace h := ift h c4
    refine lv_iconst (v := 0) hx hb dX5_isSigned_84 (by decide) ?_
    exact wr_z C hr (Or.inl rfl) hW h dX5_isSigned_85
  · replace h := iff_ h c4
    refine lv_iload hx hb dX5_isSigned_69 (lv_at hl 3 rfl) ?_
    refine lv_aload_n hx hb dX5_isSigned_71 rfl (lv_at hl 0 rfl) ?_
    refine wg_r C hW (k := 73) (ci := 5) (j := 1) (q := 74) k73 rfl ⟨by decide, rfl⟩ inX5 (by decide) (rfq k73 rfl) hL7 (fun _ h9 => h9) dX5_isSigned_72 ?_
    refine lv_iload_n hx hb dX5_isSigned_75 rfl (lv_at hl 1 rfl) ?_
    obtain ⟨hg3, h⟩ := ifg h
    refine wa_l C hW (k := 74) k74 hg3 dX5_isSigned_76 (v := (q3.2 74 a2.toNatClampNeg)) rfl ?_
    refine lv_icmp_lt (tgt := 84) hx hb dX5_isSigned_77 (by decide) (fun c5 => ?_) (fun c5 => ?_)
    · replace h := ift h c5
      refine lv_iconst (v := 0) hx hb dX5_isSigned_84 (by decide) ?_
      exact wr_z C hr (Or.inl rfl) hW h dX5_isSigned_85
    · replace h := iff_ h c5
      refine lv_iconst (v := 1) hx hb dX5_isSigned_80 (by decide) ?_
      refine lv_goto (tgt := 85) hx hb dX5_isSigned_81 (by decide) ?_
      exact wr_z C hr (Or.inr rfl) hW h dX5_isSigned_85
theorem yd_X5_keysOf : yX5_keysOf.cls = RX5 ∧ yX5_keysOf.cls ≠ "java/lang/invoke/MethodHandle" ∧ yX5_keysOf.cls ≠ "java/lang/invoke/VarHandle" ∧ (parseMethodDescriptor yX5_keysOf.desc).map (fun d => d.parameters.length) = some 2 := by decide +kernel
set_option maxHeartbeats 4000000 in
set_option maxRecDepth 100000 in
theorem L_X5_keysOf_10 {G : GG} {p : Program} {e : Env} {s : State} {m : MethodId} {args : Array Value} {below : List Frame} {meth : Method} {c : Code} {Q : State → Prop} (C : Cx G wsX5_keysOf RX5 cX5_keysOf 5 p s m args meth c) : ∀ (n : Nat) (x2 : Int32) (x3 : Int32) (x4 : Int32) (M : Me) (y : Int32 × Me) (H : Heap) (locs : List Loc) (ls : Array Slot), fL_X5_keysOf_10 n x2 x3 x4 M = some y → wH G s M H locs → lv_has ls 5 [(0, .ref (ga G 73)), (2, .int x2), (3, .int x3), (4, .int x4)] → (∀ (H : Heap) (locs : List Loc) (ls : Array Slot), wH G s y.2 H locs → lv_has ls 5 [(3, .int y.1)] → W p (gl G) e (rmd 0 0 0) s m args below meth c H locs 0 0 Q (F0 m 35 ls [])) → W p (gl G) e (rmd 0 0 0) s m args below meth c H locs 0 0 Q (F0 m 10 ls []) := by
  have hx := C.1
  have hb := C.2.1
  have hown := C.2.2.2.1
  have hts := C.2.2.2.2.1
  have inX5 : ∀ w ∈ wsX50, w ∈ wsX5_keysOf := by decide +kernel
  have hL7 := hts (.fieldLink RX5 7 "TrustedUpdatesModel" "row" "[I") (by decide +kernel)
  intro n
  induction n with
  | zero => intro x2 x3 x4 M y H locs ls h; exact nso h
  | succ n ih =>
    intro x2 x3 x4 M y H locs ls h hW hl kx
    rw [fL_X5_keysOf_10] at h
    refine lv_iload hx hb dX5_keysOf_10 (lv_at hl 3 rfl) ?_
    refine lv_iload_n hx hb dX5_keysOf_12 rfl (lv_at hl 1 rfl) ?_
    refine lv_icmp_ge (tgt := 35) hx hb dX5_keysOf_13 (by decide) (fun c1 => ?_) (fun c1 => ?_)
    · replace h := ift h c1
      cases h
      exact kx _ _ ls hW (lv_sub hl [2] rfl)
    · replace h := iff_ h c1
      refine lv_iload_n hx hb dX5_keysOf_16 rfl (lv_at hl 2 rfl) ?_
      refine lv_iconst (v := 2) hx hb dX5_keysOf_17 (by decide) ?_
      refine lv_iadd hx hb dX5_keysOf_18 ?_
      refine lv_aload_n hx hb dX5_keysOf_19 rfl (lv_at hl 0 rfl) ?_
      refine wg_r C hW (k := 73) (ci := 5) (j := 1) (q := 74) k73 rfl ⟨by decide, rfl⟩ inX5 (by decide) (rfq k73 rfl) hL7 (fun _ h9 => h9) dX5_keysOf_20 ?_
      refine lv_iload_n hx hb dX5_keysOf_23 rfl (lv_at hl 2 rfl) ?_
      refine lv_iconst (v := 1) hx hb dX5_keysOf_24 (by decide) ?_
      refine lv_iadd hx hb dX5_keysOf_25 ?_
      obtain ⟨hg1, h⟩ := ifg h
      refine wa_l C hW (k := 74) k74 hg1 dX5_keysOf_26 (v := (M 74 (x3 + 1).toNatClampNeg)) rfl ?_
      refine lv_iadd hx hb dX5_keysOf_27 ?_
      refine lv_istore_n (lv' := [(3, .int ((x3 + 2) + (M 74 (x3 + 1).toNatClampNeg))), (0, .ref (ga G 73)), (2, .int x2), (4, .int x4)]) hx hb dX5_keysOf_28 rfl hl (by decide) rfl (fun ls hl => ?_)
      refine lv_iinc (v := (x4 + 1)) (lv' := [(4, .int (x4 + 1)), (3, .int ((x3 + 2) + (M 74 (x3 + 1).toNatClampNeg))), (0, .ref (ga G 73)), (2, .int x2)]) hx hb dX5_keysOf_29 hl (k := 3) rfl rfl (by decide) rfl (fun ls hl => ?_)
      refine lv_goto (tgt := 10) hx hb dX5_keysOf_32 (by decide) ?_
      exact ih x2 ((x3 + 2) + (M 74 (x3 + 1).toNatClampNeg)) (x4 + 1) M y _ _ ls h hW (lv_sub hl [2, 3, 1, 0] rfl) kx
set_option maxHeartbeats 4000000 in
set_option maxRecDepth 100000 in
theorem c_X5_keysOf (G : GG) (a1 : Int32) (a2 : Int32) (M : Me) (y : Int32 × Me) (h : f_X5_keysOf a1 a2 M = some y) : CI G yX5_keysOf wsX5_keysOf (rmd 0 0 0) [.ref (ga G 73), .int a1, .int a2] M y := by
  rw [f_X5_keysOf] at h
  refine co_o (by decide) rfl rfl (Nat.le_of_ble_eq_true rfl) (fun p e s m below meth c ls C hr hW hl => ?_)
  have hx := C.1
  have hb := C.2.1
  have hown := C.2.2.2.1
  have hts := C.2.2.2.2.1
  have hl : lv_has ls 5 [(0, .ref (ga G 73)), (1, .int a1), (2, .int a2)] := hl
  refine lv_bipush (v := 120) hx hb dX5_keysOf_0 (by decide) ?_
  refine lv_iload_n hx hb dX5_keysOf_2 rfl (lv_at hl 1 rfl) ?_
  refine lv_imul hx hb dX5_keysOf_3 ?_
  refine lv_iconst (v := 4) hx hb dX5_keysOf_4 (by decide) ?_
  refine lv_iadd hx hb dX5_keysOf_5 ?_
  refine lv_istore_n (lv' := [(3, .int ((120 * a1) + 4)), (0, .ref (ga G 73)), (1, .int a1), (2, .int a2)]) hx hb dX5_keysOf_6 rfl hl (by decide) rfl (fun ls hl => ?_)
  refine lv_iconst (v := 0) hx hb dX5_keysOf_7 (by decide) ?_
  refine lv_istore (lv' := [(4, .int 0), (3, .int ((120 * a1) + 4)), (0, .ref (ga G 73)), (1, .int a1), (2, .int a2)]) hx hb dX5_keysOf_8 hl (by decide) rfl (fun ls hl => ?_)
  obtain ⟨q1, hq1, h⟩ := ob h
  refine L_X5_keysOf_10 C 200 a2 ((120 * a1) + 4) 0 M q1 _ _ ls hq1 hW (lv_sub hl [2, 4, 1, 0] rfl) (fun H locs ls hW hl => ?_)
  refine lv_iload_n hx hb dX5_keysOf_35 rfl (lv_at hl 0 rfl) ?_
  exact wr_i C hr hW h dX5_keysOf_36
theorem yd_X5_versionOf : yX5_versionOf.cls = RX5 ∧ yX5_versionOf.cls ≠ "java/lang/invoke/MethodHandle" ∧ yX5_versionOf.cls ≠ "java/lang/invoke/VarHandle" ∧ (parseMethodDescriptor yX5_versionOf.desc).map (fun d => d.parameters.length) = some 1 := by decide +kernel
set_option maxHeartbeats 4000000 in
set_option maxRecDepth 100000 in
theorem c_X5_versionOf (G : GG) (a1 : Int32) (M : Me) (y : Int32 × Me) (h : f_X5_versionOf a1 M = some y) : CI G yX5_versionOf wsX5_versionOf (rmd 0 0 0) [.ref (ga G 73), .int a1] M y := by
  rw [f_X5_versionOf] at h
  refine co_o (by decide) rfl rfl (Nat.le_of_ble_eq_true rfl) (fun p e s m below meth c ls C hr hW hl => ?_)
  have hx := C.1
  have hb := C.2.1
  have hown := C.2.2.2.1
  have hts := C.2.2.2.2.1
  have inX5 : ∀ w ∈ wsX50, w ∈ wsX5_versionOf := by decide +kernel
  have hL7 := hts (.fieldLink RX5 7 "TrustedUpdatesModel" "row" "[I") (by decide +kernel)
  have hl : lv_has ls 2 [(0, .ref (ga G 73)), (1, .int a1)] := hl
  refine lv_aload_n hx hb dX5_versionOf_0 rfl (lv_at hl 0 rfl) ?_
  refine wg_r C hW (k := 73) (ci := 5) (j := 1) (q := 74) k73 rfl ⟨by decide, rfl⟩ inX5 (by decide) (rfq k73 rfl) hL7 (fun _ h9 => h9) dX5_versionOf_1 ?_
  refine lv_bipush (v := 120) hx hb dX5_versionOf_4 (by decide) ?_
  refine lv_iload_n hx hb dX5_versionOf_6 rfl (lv_at hl 1 rfl) ?_
  refine lv_imul hx hb dX5_versionOf_7 ?_
  refine lv_iconst (v := 1) hx hb dX5_versionOf_8 (by decide) ?_
  refine lv_iadd hx hb dX5_versionOf_9 ?_
  obtain ⟨hg1, h⟩ := ifg h
  refine wa_l C hW (k := 74) k74 hg1 dX5_versionOf_10 (v := (M 74 ((120 * a1) + 1).toNatClampNeg)) rfl ?_
  exact wr_i C hr hW h dX5_versionOf_11
theorem yd_X5_endOf : yX5_endOf.cls = RX5 ∧ yX5_endOf.cls ≠ "java/lang/invoke/MethodHandle" ∧ yX5_endOf.cls ≠ "java/lang/invoke/VarHandle" ∧ (parseMethodDescriptor yX5_endOf.desc).map (fun d => d.parameters.length) = some 1 := by decide +kernel
set_option maxHeartbeats 4000000 in
set_option maxRecDepth 100000 in
theorem c_X5_endOf (G : GG) (a1 : Int32) (M : Me) (y : Int32 × Me) (h : f_X5_endOf a1 M = some y) : CI G yX5_endOf wsX5_endOf (rmd 0 0 0) [.ref (ga G 73), .int a1] M y := by
  rw [f_X5_endOf] at h
  refine co_o (by decide) rfl rfl (Nat.le_of_ble_eq_true rfl) (fun p e s m below meth c ls C hr hW hl => ?_)
  have hx := C.1
  have hb := C.2.1
  have hown := C.2.2.2.1
  have hts := C.2.2.2.2.1
  have inX5 : ∀ w ∈ wsX50, w ∈ wsX5_endOf := by decide +kernel
  have hL7 := hts (.fieldLink RX5 7 "TrustedUpdatesModel" "row" "[I") (by decide +kernel)
  have hl : lv_has ls 2 [(0, .ref (ga G 73)), (1, .int a1)] := hl
  refine lv_sipush (v := 256) hx hb dX5_endOf_0 (by decide) ?_
  refine lv_aload_n hx hb dX5_endOf_3 rfl (lv_at hl 0 rfl) ?_
  refine wg_r C hW (k := 73) (ci := 5) (j := 1) (q := 74) k73 rfl ⟨by decide, rfl⟩ inX5 (by decide) (rfq k73 rfl) hL7 (fun _ h9 => h9) dX5_endOf_4 ?_
  refine lv_bipush (v := 120) hx hb dX5_endOf_7 (by decide) ?_
  refine lv_iload_n hx hb dX5_endOf_9 rfl (lv_at hl 1 rfl) ?_
  refine lv_imul hx hb dX5_endOf_10 ?_
  refine lv_iconst (v := 2) hx hb dX5_endOf_11 (by decide) ?_
  refine lv_iadd hx hb dX5_endOf_12 ?_
  obtain ⟨hg1, h⟩ := ifg h
  refine wa_l C hW (k := 74) k74 hg1 dX5_endOf_13 (v := (M 74 ((120 * a1) + 2).toNatClampNeg)) rfl ?_
  refine lv_imul hx hb dX5_endOf_14 ?_
  refine lv_aload_n hx hb dX5_endOf_15 rfl (lv_at hl 0 rfl) ?_
  refine wg_r C hW (k := 73) (ci := 5) (j := 1) (q := 74) k73 rfl ⟨by decide, rfl⟩ inX5 (by decide) (rfq k73 rfl) hL7 (fun _ h9 => h9) dX5_endOf_16 ?_
  refine lv_bipush (v := 120) hx hb dX5_endOf_19 (by decide) ?_
  refine lv_iload_n hx hb dX5_endOf_21 rfl (lv_at hl 1 rfl) ?_
  refine lv_imul hx hb dX5_endOf_22 ?_
  refine lv_iconst (v := 3) hx hb dX5_endOf_23 (by decide) ?_
  refine lv_iadd hx hb dX5_endOf_24 ?_
  obtain ⟨hg2, h⟩ := ifg h
  refine wa_l C hW (k := 74) k74 hg2 dX5_endOf_25 (v := (M 74 ((120 * a1) + 3).toNatClampNeg)) rfl ?_
  refine lv_iadd hx hb dX5_endOf_26 ?_
  exact wr_i C hr hW h dX5_endOf_27
theorem yd_X5_isOver : yX5_isOver.cls = RX5 ∧ yX5_isOver.cls ≠ "java/lang/invoke/MethodHandle" ∧ yX5_isOver.cls ≠ "java/lang/invoke/VarHandle" ∧ (parseMethodDescriptor yX5_isOver.desc).map (fun d => d.parameters.length) = some 1 := by decide +kernel
set_option maxHeartbeats 4000000 in
set_option maxRecDepth 100000 in
theorem c_X5_isOver (G : GG) (a1 : Int32) (M : Me) (y : Int32 × Me) (h : f_X5_isOver a1 M = some y) : CI G yX5_isOver wsX5_isOver (rmd 1 0 0) [.ref (ga G 73), .int a1] M y := by
  rw [f_X5_isOver] at h
  refine co_o (by decide) rfl rfl (Nat.le_of_ble_eq_true rfl) (fun p e s m below meth c ls C hr hW hl => ?_)
  have hx := C.1
  have hb := C.2.1
  have hown := C.2.2.2.1
  have hts := C.2.2.2.2.1
  have inX5 : ∀ w ∈ wsX50, w ∈ wsX5_isOver := by decide +kernel
  have hL106 := hts (.fieldLink RX5 106 "TrustedUpdatesModel" "clock" "I") (by decide +kernel)
  have hl : lv_has ls 2 [(0, .ref (ga G 73)), (1, .int a1)] := hl
  refine lv_aload_n hx hb dX5_isOver_0 rfl (lv_at hl 0 rfl) ?_
  refine lv_iload_n hx hb dX5_isOver_1 rfl (lv_at hl 1 rfl) ?_
  obtain ⟨q1, hq1, h⟩ := ob h
  refine wc_Vi C hW (k := 73) (As := [.int a1]) (rest := []) (c_X5_endOf G a1 M q1 hq1) k73 rfl (by decide) (cwV 1 hts gX5_isOver_X5_endOf rfl rfl rfl yd_X5_endOf ⟨Nat.le_of_ble_eq_true rfl, Nat.le_of_ble_eq_true rfl⟩) rfl hl.1 rfl (Nat.le_of_ble_eq_true rfl) dX5_isOver_2 ⟨Nat.le_refl 0, Nat.le_refl 0⟩ (fun H locs hW => ?_)
  refine lv_aload_n hx hb dX5_isOver_5 rfl (lv_at hl 0 rfl) ?_
  refine wg_i C hW (k := 73) (ci := 5) (j := 4) k73 rfl ⟨by decide, rfl⟩ inX5 (by decide) (rfq k73 rfl) (v := (q1.2 73 4)) rfl hL106 (fun _ h9 => h9) dX5_isOver_6 ?_
  refine lv_icmp_gt (tgt := 16) hx hb dX5_isOver_9 (by decide) (fun c1 => ?_) (fun c1 => ?_)
  · replace h := ift h c1
    refine lv_iconst (v := 0) hx hb dX5_isOver_16 (by decide) ?_
    exact wr_z C hr (Or.inl rfl) hW h dX5_isOver_17
  · replace h := iff_ h c1
    refine lv_iconst (v := 1) hx hb dX5_isOver_12 (by decide) ?_
    refine lv_goto (tgt := 17) hx hb dX5_isOver_13 (by decide) ?_
    exact wr_z C hr (Or.inr rfl) hW h dX5_isOver_17
