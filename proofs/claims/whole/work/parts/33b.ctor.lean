def tuL (cs : Cs) (h0 : Nat) (a o nn : Nat → Nat) (d : Nat → Nat → Nat) : va_W := (((((h0, .inr (4, [.ref (a 0), .ref (a 2), .ref (o 0), .ref (a 4), .ref (a 6), .int 0, .int 0])) :: rowL cs.1 120 (a 0) (a 1)) ++ rowL cs.1 120 (a 2) (a 3)) ++ docL cs.1 o) ++ truL cs (a 4) (a 5) nn d 7) ++ seaL cs (a 6) (a 4) (a 7) (a 8)
set_option maxHeartbeats 4000000 in
set_option maxRecDepth 100000 in
theorem c_X3_init (l : Launch) (D : va_G) (cs : Cs) (h0 sz : Nat) : CN l yX3_init wsX3_init { frames := 3, cells := 57, slots := 1247, locals := 120 } [.ref h0] D cs sz [(h0, .inr (3, [.null, .null, .int 0]))] (fun (u : Nat × (Nat → Nat) × (Nat → Nat → Nat)) => True) (fun u : Nat × (Nat → Nat) × (Nat → Nat → Nat) => truL cs h0 u.1 u.2.1 u.2.2 7) 57 1247 := by
  refine cn_o (by decide) rfl rfl (Nat.le_of_ble_eq_true rfl) rfl (fun p e s m below meth c ls C hin hr hA hP hD hl => ?_)
  have hx := C.1
  have hb := C.2.1
  have hml := C.2.2.1
  have hown := C.2.2.2.1
  have hts := C.2.2.2.2.1
  have hK := C.2.2.2.2.2.2.1
  have hS : va_S (va_A [(h0, .inr (3, [.null, .null, .int 0]))] s.heap.size) s.heap s.heap [] := va_S.rf
  have hl : lv_has ls 2 [(0, .ref h0)] := hl
  refine lv_aload_n hx hb dX3_init_0 rfl (lv_at hl 0 rfl) ?_
  refine W.objInit hx hb hown (hts (.methodLink RX3 3 objectInit) (by decide +kernel)) (hts (.instanceMethod objectInit) (by decide +kernel)) (hts _ (List.mem_of_getElem? (i := 3) rfl)) rfl (by rw [hml]; exact hl.1) rfl dX3_init_1 (Nat.le_of_ble_eq_true rfl) (Nat.le_of_ble_eq_true rfl) ?_
  refine W.eq (g2 := F0 m 4 ls []) rfl ?_
  refine lv_aload_n hx hb dX3_init_4 rfl (lv_at hl 0 rfl) ?_
  refine va_new (ci := 0) (fs := [.null, .null, .null, .null, .null, .int 0, .int 0, .int 0, .int 0, .int 0, .int 0, .int 0, .int 0, .int 0, .int 0]) (C := RX0) (T := TX0) (N := 15) hx hb hts (by decide +kernel) tyX0 tyX0_ok hown (hts (.classLink RX3 9 RX0) (by decide +kernel)) (hts (.instantiable RX0 15) (by decide +kernel)) (hts (.initialized RX0) (by decide +kernel)) hK hP hD hS hA rfl (by decide) (Nat.le_of_ble_eq_true rfl) (Nat.le_of_ble_eq_true rfl) dX3_init_5 (fun q5 H hP hD hS => ?_)
  refine lv_dup hx hb dX3_init_8 rfl ?_
  refine wn_in C hP hD hS hA (As := []) (rest := [.ref q5, .ref h0]) (c_X0_init l D cs q5 H.size) (cwI 0 hts gX3_init_X0_init rfl rfl rfl (hts (.initialized RX0) (by decide +kernel)) (hts (.methodLink RX3 11 yX0_init) (by decide +kernel)) (hts (.instanceMethod yX0_init) (by decide +kernel)) rfl (by decide +kernel) ⟨(Nat.le_of_ble_eq_true rfl), (Nat.le_of_ble_eq_true rfl)⟩) rfl hl.1 rfl (Nat.le_of_ble_eq_true rfl) dX3_init_9 ⟨(Nat.le_of_ble_eq_true rfl), (Nat.le_of_ble_eq_true rfl)⟩ (fun nn H locs hu hP hD hS => ?_)
  have hP9 := hP
  have hD9 := hD
  have hS9 := hS
  subst hu
  have hP := hP9
  have hD := hD9
  have hS := hS9
  refine va_putF (D := D) (ci := 3) (v := .ref (nn 0)) (ty := tyX3 1) (C := RX3) (T := TX3) (N := 3) hx hb hts (by decide +kernel) tyX3 tyX3_ok nmX3 hown hK hP hD hS 0 rfl rfl 1 (by decide) (hts (.fieldLink RX3 12 "TrustedUpdates$Trust" "none" "LTrustedUpdates$Document;") (by decide +kernel)) (fun _ h9 => h9) rfl hin rfl (tyX3_ok 1 (by decide)) rfl rfl (Nat.le_of_ble_eq_true rfl) dX3_init_12 (fun H locs hP hD hS => ?_)
  have hP : va_P D vwCl (((h0, .inr (3, [.null, .ref (nn 0), .int 0])) :: []) ++ (docL cs.1 nn)) H := hP
  have hD : va_D _ (((h0, .inr (3, [.null, .ref (nn 0), .int 0])) :: []) ++ (docL cs.1 nn)) := hD
  refine lv_aload_n hx hb dX3_init_15 rfl (lv_at hl 0 rfl) ?_
  refine lv_bipush (v := 7) hx hb dX3_init_16 (by decide) ?_
  refine wn_qa C hP hD hS hA (hts (.classLink RX3 9 RX0) (by decide +kernel)) (N := 7) (by decide) (by decide) (by decide) (Nat.le_of_ble_eq_true rfl) (Nat.le_of_ble_eq_true rfl) dX3_init_18 (fun q18 H hP hD hS => ?_)
  refine va_putF (D := D) (ci := 3) (v := .ref q18) (ty := tyX3 0) (C := RX3) (T := TX3) (N := 3) hx hb hts (by decide +kernel) tyX3 tyX3_ok nmX3 hown hK hP hD hS 0 rfl rfl 0 (by decide) (hts (.fieldLink RX3 18 "TrustedUpdates$Trust" "documents" "[LTrustedUpdates$Document;") (by decide +kernel)) (fun _ h9 => h9) rfl hin rfl (tyX3_ok 0 (by decide)) rfl rfl (Nat.le_of_ble_eq_true rfl) dX3_init_21 (fun H locs hP hD hS => ?_)
  have hP : va_P D vwCl ((((h0, .inr (3, [.ref q18, .ref (nn 0), .int 0])) :: []) ++ (docL cs.1 nn)) ++ [(q18, .inl (cs.2.2.2, 7, .inr (.inr (.inr (.inr (fun _ => none))))))]) H := hP
  have hD : va_D _ ((((h0, .inr (3, [.ref q18, .ref (nn 0), .int 0])) :: []) ++ (docL cs.1 nn)) ++ [(q18, .inl (cs.2.2.2, 7, .inr (.inr (.inr (.inr (fun _ => none))))))]) := hD
  refine lv_iconst (v := 0) hx hb dX3_init_24 (by decide) ?_
  refine lv_istore_n (lv' := [(1, .int 0), (0, .ref h0)]) hx hb dX3_init_25 rfl hl (by decide) rfl (fun ls hl => ?_)
  refine lv_iload_n hx hb dX3_init_26 rfl (lv_at hl 0 rfl) ?_
  refine lv_bipush (v := 6) hx hb dX3_init_27 (by decide) ?_
  refine lv_icmp_gt (tgt := 51) hx hb dX3_init_29 (by decide) (fun cc => absurd cc (by decide)) (fun _ => ?_)
  refine lv_aload_n hx hb dX3_init_32 rfl (lv_at hl 1 rfl) ?_
  refine va_get (D := D) (ci := 3) (v := .ref q18) (C := RX3) (T := TX3) (N := 3) hx hb hts (by decide +kernel) hown hK hP 0 rfl rfl 0 (by decide) (hts (.fieldLink RX3 18 "TrustedUpdates$Trust" "documents" "[LTrustedUpdates$Document;") (by decide +kernel)) (fun _ h9 => h9) rfl dX3_init_33 ?_
  refine lv_iload_n hx hb dX3_init_36 rfl (lv_at hl 0 rfl) ?_
  refine va_new (ci := 0) (fs := [.null, .null, .null, .null, .null, .int 0, .int 0, .int 0, .int 0, .int 0, .int 0, .int 0, .int 0, .int 0, .int 0]) (C := RX0) (T := TX0) (N := 15) hx hb hts (by decide +kernel) tyX0 tyX0_ok hown (hts (.classLink RX3 9 RX0) (by decide +kernel)) (hts (.instantiable RX0 15) (by decide +kernel)) (hts (.initialized RX0) (by decide +kernel)) hK hP hD hS hA rfl (by decide) (Nat.le_of_ble_eq_true rfl) (Nat.le_of_ble_eq_true rfl) dX3_init_37 (fun q37 H hP hD hS => ?_)
  refine lv_dup hx hb dX3_init_40 rfl ?_
  refine wn_in C hP hD hS hA (As := []) (rest := [.ref q37, .int 0, .ref q18]) (c_X0_init l D cs q37 H.size) (cwI 0 hts gX3_init_X0_init rfl rfl rfl (hts (.initialized RX0) (by decide +kernel)) (hts (.methodLink RX3 11 yX0_init) (by decide +kernel)) (hts (.instanceMethod yX0_init) (by decide +kernel)) rfl (by decide +kernel) ⟨(Nat.le_of_ble_eq_true rfl), (Nat.le_of_ble_eq_true rfl)⟩) rfl hl.1 rfl (Nat.le_of_ble_eq_true rfl) dX3_init_41 ⟨(Nat.le_of_ble_eq_true rfl), (Nat.le_of_ble_eq_true rfl)⟩ (fun d0 H locs hu hP hD hS => ?_)
  have hP9 := hP
  have hD9 := hD
  have hS9 := hS
  subst hu
  have hP := hP9
  have hD := hD9
  have hS := hS9
  refine va_astq (i := 0) (v := d0 0) hx hb hK hP hD hS 8 3 9 0 (r := (RX0, TX0, 15)) (f := (fun _ => none)) rfl rfl rfl rfl (inB_in (by decide)) dX3_init_44 (fun H locs hP hD hS => ?_)
  have hP : va_P D vwCl (((((h0, .inr (3, [.ref q18, .ref (nn 0), .int 0])) :: []) ++ (docL cs.1 nn)) ++ [(q18, .inl (cs.2.2.2, 7, .inr (.inr (.inr (.inr (va_up (fun _ => none) 0 (some (d0 0))))))))]) ++ (docL cs.1 d0)) H := hP
  have hD : va_D _ (((((h0, .inr (3, [.ref q18, .ref (nn 0), .int 0])) :: []) ++ (docL cs.1 nn)) ++ [(q18, .inl (cs.2.2.2, 7, .inr (.inr (.inr (.inr (va_up (fun _ => none) 0 (some (d0 0))))))))]) ++ (docL cs.1 d0)) := hD
  refine lv_iinc (v := 1) (lv' := [(1, .int 1), (0, .ref h0)]) hx hb dX3_init_45 hl (k := 0) rfl (by decide) (by decide) rfl (fun ls hl => ?_)
  refine lv_goto (tgt := 26) hx hb dX3_init_48 (by decide) ?_
  refine lv_iload_n hx hb dX3_init_26 rfl (lv_at hl 0 rfl) ?_
  refine lv_bipush (v := 6) hx hb dX3_init_27 (by decide) ?_
  refine lv_icmp_gt (tgt := 51) hx hb dX3_init_29 (by decide) (fun cc => absurd cc (by decide)) (fun _ => ?_)
  refine lv_aload_n hx hb dX3_init_32 rfl (lv_at hl 1 rfl) ?_
  refine va_get (D := D) (ci := 3) (v := .ref q18) (C := RX3) (T := TX3) (N := 3) hx hb hts (by decide +kernel) hown hK hP 0 rfl rfl 0 (by decide) (hts (.fieldLink RX3 18 "TrustedUpdates$Trust" "documents" "[LTrustedUpdates$Document;") (by decide +kernel)) (fun _ h9 => h9) rfl dX3_init_33 ?_
  refine lv_iload_n hx hb dX3_init_36 rfl (lv_at hl 0 rfl) ?_
  refine va_new (ci := 0) (fs := [.null, .null, .null, .null, .null, .int 0, .int 0, .int 0, .int 0, .int 0, .int 0, .int 0, .int 0, .int 0, .int 0]) (C := RX0) (T := TX0) (N := 15) hx hb hts (by decide +kernel) tyX0 tyX0_ok hown (hts (.classLink RX3 9 RX0) (by decide +kernel)) (hts (.instantiable RX0 15) (by decide +kernel)) (hts (.initialized RX0) (by decide +kernel)) hK hP hD hS hA rfl (by decide) (Nat.le_of_ble_eq_true rfl) (Nat.le_of_ble_eq_true rfl) dX3_init_37 (fun q37 H hP hD hS => ?_)
  refine lv_dup hx hb dX3_init_40 rfl ?_
  refine wn_in C hP hD hS hA (As := []) (rest := [.ref q37, .int 1, .ref q18]) (c_X0_init l D cs q37 H.size) (cwI 0 hts gX3_init_X0_init rfl rfl rfl (hts (.initialized RX0) (by decide +kernel)) (hts (.methodLink RX3 11 yX0_init) (by decide +kernel)) (hts (.instanceMethod yX0_init) (by decide +kernel)) rfl (by decide +kernel) ⟨(Nat.le_of_ble_eq_true rfl), (Nat.le_of_ble_eq_true rfl)⟩) rfl hl.1 rfl (Nat.le_of_ble_eq_true rfl) dX3_init_41 ⟨(Nat.le_of_ble_eq_true rfl), (Nat.le_of_ble_eq_true rfl)⟩ (fun d1 H locs hu hP hD hS => ?_)
  have hP9 := hP
  have hD9 := hD
  have hS9 := hS
  subst hu
  have hP := hP9
  have hD := hD9
  have hS := hS9
  refine va_astq (i := 1) (v := d1 0) hx hb hK hP hD hS 8 3 16 0 (r := (RX0, TX0, 15)) (f := (va_up (fun _ => none) 0 (some (d0 0)))) rfl rfl rfl rfl (inB_in (by decide)) dX3_init_44 (fun H locs hP hD hS => ?_)
  have hP : va_P D vwCl ((((((h0, .inr (3, [.ref q18, .ref (nn 0), .int 0])) :: []) ++ (docL cs.1 nn)) ++ [(q18, .inl (cs.2.2.2, 7, .inr (.inr (.inr (.inr (va_up (va_up (fun _ => none) 0 (some (d0 0))) 1 (some (d1 0))))))))]) ++ (docL cs.1 d0)) ++ (docL cs.1 d1)) H := hP
  have hD : va_D _ ((((((h0, .inr (3, [.ref q18, .ref (nn 0), .int 0])) :: []) ++ (docL cs.1 nn)) ++ [(q18, .inl (cs.2.2.2, 7, .inr (.inr (.inr (.inr (va_up (va_up (fun _ => none) 0 (some (d0 0))) 1 (some (d1 0))))))))]) ++ (docL cs.1 d0)) ++ (docL cs.1 d1)) := hD
  refine lv_iinc (v := 2) (lv' := [(1, .int 2), (0, .ref h0)]) hx hb dX3_init_45 hl (k := 0) rfl (by decide) (by decide) rfl (fun ls hl => ?_)
  refine lv_goto (tgt := 26) hx hb dX3_init_48 (by decide) ?_
  refine lv_iload_n hx hb dX3_init_26 rfl (lv_at hl 0 rfl) ?_
  refine lv_bipush (v := 6) hx hb dX3_init_27 (by decide) ?_
  refine lv_icmp_gt (tgt := 51) hx hb dX3_init_29 (by decide) (fun cc => absurd cc (by decide)) (fun _ => ?_)
  refine lv_aload_n hx hb dX3_init_32 rfl (lv_at hl 1 rfl) ?_
  refine va_get (D := D) (ci := 3) (v := .ref q18) (C := RX3) (T := TX3) (N := 3) hx hb hts (by decide +kernel) hown hK hP 0 rfl rfl 0 (by decide) (hts (.fieldLink RX3 18 "TrustedUpdates$Trust" "documents" "[LTrustedUpdates$Document;") (by decide +kernel)) (fun _ h9 => h9) rfl dX3_init_33 ?_
  refine lv_iload_n hx hb dX3_init_36 rfl (lv_at hl 0 rfl) ?_
  refine va_new (ci := 0) (fs := [.null, .null, .null, .null, .null, .int 0, .int 0, .int 0, .int 0, .int 0, .int 0, .int 0, .int 0, .int 0, .int 0]) (C := RX0) (T := TX0) (N := 15) hx hb hts (by decide +kernel) tyX0 tyX0_ok hown (hts (.classLink RX3 9 RX0) (by decide +kernel)) (hts (.instantiable RX0 15) (by decide +kernel)) (hts (.initialized RX0) (by decide +kernel)) hK hP hD hS hA rfl (by decide) (Nat.le_of_ble_eq_true rfl) (Nat.le_of_ble_eq_true rfl) dX3_init_37 (fun q37 H hP hD hS => ?_)
  refine lv_dup hx hb dX3_init_40 rfl ?_
  refine wn_in C hP hD hS hA (As := []) (rest := [.ref q37, .int 2, .ref q18]) (c_X0_init l D cs q37 H.size) (cwI 0 hts gX3_init_X0_init rfl rfl rfl (hts (.initialized RX0) (by decide +kernel)) (hts (.methodLink RX3 11 yX0_init) (by decide +kernel)) (hts (.instanceMethod yX0_init) (by decide +kernel)) rfl (by decide +kernel) ⟨(Nat.le_of_ble_eq_true rfl), (Nat.le_of_ble_eq_true rfl)⟩) rfl hl.1 rfl (Nat.le_of_ble_eq_true rfl) dX3_init_41 ⟨(Nat.le_of_ble_eq_true rfl), (Nat.le_of_ble_eq_true rfl)⟩ (fun d2 H locs hu hP hD hS => ?_)
  have hP9 := hP
  have hD9 := hD
  have hS9 := hS
  subst hu
  have hP := hP9
  have hD := hD9
  have hS := hS9
  refine va_astq (i := 2) (v := d2 0) hx hb hK hP hD hS 8 3 23 0 (r := (RX0, TX0, 15)) (f := (va_up (va_up (fun _ => none) 0 (some (d0 0))) 1 (some (d1 0)))) rfl rfl rfl rfl (inB_in (by decide)) dX3_init_44 (fun H locs hP hD hS => ?_)
  have hP : va_P D vwCl (((((((h0, .inr (3, [.ref q18, .ref (nn 0), .int 0])) :: []) ++ (docL cs.1 nn)) ++ [(q18, .inl (cs.2.2.2, 7, .inr (.inr (.inr (.inr (va_up (va_up (va_up (fun _ => none) 0 (some (d0 0))) 1 (some (d1 0))) 2 (some (d2 0))))))))]) ++ (docL cs.1 d0)) ++ (docL cs.1 d1)) ++ (docL cs.1 d2)) H := hP
  have hD : va_D _ (((((((h0, .inr (3, [.ref q18, .ref (nn 0), .int 0])) :: []) ++ (docL cs.1 nn)) ++ [(q18, .inl (cs.2.2.2, 7, .inr (.inr (.inr (.inr (va_up (va_up (va_up (fun _ => none) 0 (some (d0 0))) 1 (some (d1 0))) 2 (some (d2 0))))))))]) ++ (docL cs.1 d0)) ++ (docL cs.1 d1)) ++ (docL cs.1 d2)) := hD
  refine lv_iinc (v := 3) (lv' := [(1, .int 3), (0, .ref h0)]) hx hb dX3_init_45 hl (k := 0) rfl (by decide) (by decide) rfl (fun ls hl => ?_)
  refine lv_goto (tgt := 26) hx hb dX3_init_48 (by decide) ?_
  refine lv_iload_n hx hb dX3_init_26 rfl (lv_at hl 0 rfl) ?_
  refine lv_bipush (v := 6) hx hb dX3_init_27 (by decide) ?_
  refine lv_icmp_gt (tgt := 51) hx hb dX3_init_29 (by decide) (fun cc => absurd cc (by decide)) (fun _ => ?_)
  refine lv_aload_n hx hb dX3_init_32 rfl (lv_at hl 1 rfl) ?_
  refine va_get (D := D) (ci := 3) (v := .ref q18) (C := RX3) (T := TX3) (N := 3) hx hb hts (by decide +kernel) hown hK hP 0 rfl rfl 0 (by decide) (hts (.fieldLink RX3 18 "TrustedUpdates$Trust" "documents" "[LTrustedUpdates$Document;") (by decide +kernel)) (fun _ h9 => h9) rfl dX3_init_33 ?_
  refine lv_iload_n hx hb dX3_init_36 rfl (lv_at hl 0 rfl) ?_
  refine va_new (ci := 0) (fs := [.null, .null, .null, .null, .null, .int 0, .int 0, .int 0, .int 0, .int 0, .int 0, .int 0, .int 0, .int 0, .int 0]) (C := RX0) (T := TX0) (N := 15) hx hb hts (by decide +kernel) tyX0 tyX0_ok hown (hts (.classLink RX3 9 RX0) (by decide +kernel)) (hts (.instantiable RX0 15) (by decide +kernel)) (hts (.initialized RX0) (by decide +kernel)) hK hP hD hS hA rfl (by decide) (Nat.le_of_ble_eq_true rfl) (Nat.le_of_ble_eq_true rfl) dX3_init_37 (fun q37 H hP hD hS => ?_)
  refine lv_dup hx hb dX3_init_40 rfl ?_
  refine wn_in C hP hD hS hA (As := []) (rest := [.ref q37, .int 3, .ref q18]) (c_X0_init l D cs q37 H.size) (cwI 0 hts gX3_init_X0_init rfl rfl rfl (hts (.initialized RX0) (by decide +kernel)) (hts (.methodLink RX3 11 yX0_init) (by decide +kernel)) (hts (.instanceMethod yX0_init) (by decide +kernel)) rfl (by decide +kernel) ⟨(Nat.le_of_ble_eq_true rfl), (Nat.le_of_ble_eq_true rfl)⟩) rfl hl.1 rfl (Nat.le_of_ble_eq_true rfl) dX3_init_41 ⟨(Nat.le_of_ble_eq_true rfl), (Nat.le_of_ble_eq_true rfl)⟩ (fun d3 H locs hu hP hD hS => ?_)
  have hP9 := hP
  have hD9 := hD
  have hS9 := hS
  subst hu
  have hP := hP9
  have hD := hD9
  have hS := hS9
  refine va_astq (i := 3) (v := d3 0) hx hb hK hP hD hS 8 3 30 0 (r := (RX0, TX0, 15)) (f := (va_up (va_up (va_up (fun _ => none) 0 (some (d0 0))) 1 (some (d1 0))) 2 (some (d2 0)))) rfl rfl rfl rfl (inB_in (by decide)) dX3_init_44 (fun H locs hP hD hS => ?_)
  have hP : va_P D vwCl ((((((((h0, .inr (3, [.ref q18, .ref (nn 0), .int 0])) :: []) ++ (docL cs.1 nn)) ++ [(q18, .inl (cs.2.2.2, 7, .inr (.inr (.inr (.inr (va_up (va_up (va_up (va_up (fun _ => none) 0 (some (d0 0))) 1 (some (d1 0))) 2 (some (d2 0))) 3 (some (d3 0))))))))]) ++ (docL cs.1 d0)) ++ (docL cs.1 d1)) ++ (docL cs.1 d2)) ++ (docL cs.1 d3)) H := hP
  have hD : va_D _ ((((((((h0, .inr (3, [.ref q18, .ref (nn 0), .int 0])) :: []) ++ (docL cs.1 nn)) ++ [(q18, .inl (cs.2.2.2, 7, .inr (.inr (.inr (.inr (va_up (va_up (va_up (va_up (fun _ => none) 0 (some (d0 0))) 1 (some (d1 0))) 2 (some (d2 0))) 3 (some (d3 0))))))))]) ++ (docL cs.1 d0)) ++ (docL cs.1 d1)) ++ (docL cs.1 d2)) ++ (docL cs.1 d3)) := hD
  refine lv_iinc (v := 4) (lv' := [(1, .int 4), (0, .ref h0)]) hx hb dX3_init_45 hl (k := 0) rfl (by decide) (by decide) rfl (fun ls hl => ?_)
  refine lv_goto (tgt := 26) hx hb dX3_init_48 (by decide) ?_
  refine lv_iload_n hx hb dX3_init_26 rfl (lv_at hl 0 rfl) ?_
  refine lv_bipush (v := 6) hx hb dX3_init_27 (by decide) ?_
  refine lv_icmp_gt (tgt := 51) hx hb dX3_init_29 (by decide) (fun cc => absurd cc (by decide)) (fun _ => ?_)
  refine lv_aload_n hx hb dX3_init_32 rfl (lv_at hl 1 rfl) ?_
  refine va_get (D := D) (ci := 3) (v := .ref q18) (C := RX3) (T := TX3) (N := 3) hx hb hts (by decide +kernel) hown hK hP 0 rfl rfl 0 (by decide) (hts (.fieldLink RX3 18 "TrustedUpdates$Trust" "documents" "[LTrustedUpdates$Document;") (by decide +kernel)) (fun _ h9 => h9) rfl dX3_init_33 ?_
  refine lv_iload_n hx hb dX3_init_36 rfl (lv_at hl 0 rfl) ?_
  refine va_new (ci := 0) (fs := [.null, .null, .null, .null, .null, .int 0, .int 0, .int 0, .int 0, .int 0, .int 0, .int 0, .int 0, .int 0, .int 0]) (C := RX0) (T := TX0) (N := 15) hx hb hts (by decide +kernel) tyX0 tyX0_ok hown (hts (.classLink RX3 9 RX0) (by decide +kernel)) (hts (.instantiable RX0 15) (by decide +kernel)) (hts (.initialized RX0) (by decide +kernel)) hK hP hD hS hA rfl (by decide) (Nat.le_of_ble_eq_true rfl) (Nat.le_of_ble_eq_true rfl) dX3_init_37 (fun q37 H hP hD hS => ?_)
  refine lv_dup hx hb dX3_init_40 rfl ?_
  refine wn_in C hP hD hS hA (As := []) (rest := [.ref q37, .int 4, .ref q18]) (c_X0_init l D cs q37 H.size) (cwI 0 hts gX3_init_X0_init rfl rfl rfl (hts (.initialized RX0) (by decide +kernel)) (hts (.methodLink RX3 11 yX0_init) (by decide +kernel)) (hts (.instanceMethod yX0_init) (by decide +kernel)) rfl (by decide +kernel) ⟨(Nat.le_of_ble_eq_true rfl), (Nat.le_of_ble_eq_true rfl)⟩) rfl hl.1 rfl (Nat.le_of_ble_eq_true rfl) dX3_init_41 ⟨(Nat.le_of_ble_eq_true rfl), (Nat.le_of_ble_eq_true rfl)⟩ (fun d4 H locs hu hP hD hS => ?_)
  have hP9 := hP
  have hD9 := hD
  have hS9 := hS
  subst hu
  have hP := hP9
  have hD := hD9
  have hS := hS9
  refine va_astq (i := 4) (v := d4 0) hx hb hK hP hD hS 8 3 37 0 (r := (RX0, TX0, 15)) (f := (va_up (va_up (va_up (va_up (fun _ => none) 0 (some (d0 0))) 1 (some (d1 0))) 2 (some (d2 0))) 3 (some (d3 0)))) rfl rfl rfl rfl (inB_in (by decide)) dX3_init_44 (fun H locs hP hD hS => ?_)
  have hP : va_P D vwCl (((((((((h0, .inr (3, [.ref q18, .ref (nn 0), .int 0])) :: []) ++ (docL cs.1 nn)) ++ [(q18, .inl (cs.2.2.2, 7, .inr (.inr (.inr (.inr (va_up (va_up (va_up (va_up (va_up (fun _ => none) 0 (some (d0 0))) 1 (some (d1 0))) 2 (some (d2 0))) 3 (some (d3 0))) 4 (some (d4 0))))))))]) ++ (docL cs.1 d0)) ++ (docL cs.1 d1)) ++ (docL cs.1 d2)) ++ (docL cs.1 d3)) ++ (docL cs.1 d4)) H := hP
  have hD : va_D _ (((((((((h0, .inr (3, [.ref q18, .ref (nn 0), .int 0])) :: []) ++ (docL cs.1 nn)) ++ [(q18, .inl (cs.2.2.2, 7, .inr (.inr (.inr (.inr (va_up (va_up (va_up (va_up (va_up (fun _ => none) 0 (some (d0 0))) 1 (some (d1 0))) 2 (some (d2 0))) 3 (some (d3 0))) 4 (some (d4 0))))))))]) ++ (docL cs.1 d0)) ++ (docL cs.1 d1)) ++ (docL cs.1 d2)) ++ (docL cs.1 d3)) ++ (docL cs.1 d4)) := hD
  refine lv_iinc (v := 5) (lv' := [(1, .int 5), (0, .ref h0)]) hx hb dX3_init_45 hl (k := 0) rfl (by decide) (by decide) rfl (fun ls hl => ?_)
  refine lv_goto (tgt := 26) hx hb dX3_init_48 (by decide) ?_
  refine lv_iload_n hx hb dX3_init_26 rfl (lv_at hl 0 rfl) ?_
  refine lv_bipush (v := 6) hx hb dX3_init_27 (by decide) ?_
  refine lv_icmp_gt (tgt := 51) hx hb dX3_init_29 (by decide) (fun cc => absurd cc (by decide)) (fun _ => ?_)
  refine lv_aload_n hx hb dX3_init_32 rfl (lv_at hl 1 rfl) ?_
  refine va_get (D := D) (ci := 3) (v := .ref q18) (C := RX3) (T := TX3) (N := 3) hx hb hts (by decide +kernel) hown hK hP 0 rfl rfl 0 (by decide) (hts (.fieldLink RX3 18 "TrustedUpdates$Trust" "documents" "[LTrustedUpdates$Document;") (by decide +kernel)) (fun _ h9 => h9) rfl dX3_init_33 ?_
  refine lv_iload_n hx hb dX3_init_36 rfl (lv_at hl 0 rfl) ?_
  refine va_new (ci := 0) (fs := [.null, .null, .null, .null, .null, .int 0, .int 0, .int 0, .int 0, .int 0, .int 0, .int 0, .int 0, .int 0, .int 0]) (C := RX0) (T := TX0) (N := 15) hx hb hts (by decide +kernel) tyX0 tyX0_ok hown (hts (.classLink RX3 9 RX0) (by decide +kernel)) (hts (.instantiable RX0 15) (by decide +kernel)) (hts (.initialized RX0) (by decide +kernel)) hK hP hD hS hA rfl (by decide) (Nat.le_of_ble_eq_true rfl) (Nat.le_of_ble_eq_true rfl) dX3_init_37 (fun q37 H hP hD hS => ?_)
  refine lv_dup hx hb dX3_init_40 rfl ?_
  refine wn_in C hP hD hS hA (As := []) (rest := [.ref q37, .int 5, .ref q18]) (c_X0_init l D cs q37 H.size) (cwI 0 hts gX3_init_X0_init rfl rfl rfl (hts (.initialized RX0) (by decide +kernel)) (hts (.methodLink RX3 11 yX0_init) (by decide +kernel)) (hts (.instanceMethod yX0_init) (by decide +kernel)) rfl (by decide +kernel) ⟨(Nat.le_of_ble_eq_true rfl), (Nat.le_of_ble_eq_true rfl)⟩) rfl hl.1 rfl (Nat.le_of_ble_eq_true rfl) dX3_init_41 ⟨(Nat.le_of_ble_eq_true rfl), (Nat.le_of_ble_eq_true rfl)⟩ (fun d5 H locs hu hP hD hS => ?_)
  have hP9 := hP
  have hD9 := hD
  have hS9 := hS
  subst hu
  have hP := hP9
  have hD := hD9
  have hS := hS9
  refine va_astq (i := 5) (v := d5 0) hx hb hK hP hD hS 8 3 44 0 (r := (RX0, TX0, 15)) (f := (va_up (va_up (va_up (va_up (va_up (fun _ => none) 0 (some (d0 0))) 1 (some (d1 0))) 2 (some (d2 0))) 3 (some (d3 0))) 4 (some (d4 0)))) rfl rfl rfl rfl (inB_in (by decide)) dX3_init_44 (fun H locs hP hD hS => ?_)
  have hP : va_P D vwCl ((((((((((h0, .inr (3, [.ref q18, .ref (nn 0), .int 0])) :: []) ++ (docL cs.1 nn)) ++ [(q18, .inl (cs.2.2.2, 7, .inr (.inr (.inr (.inr (va_up (va_up (va_up (va_up (va_up (va_up (fun _ => none) 0 (some (d0 0))) 1 (some (d1 0))) 2 (some (d2 0))) 3 (some (d3 0))) 4 (some (d4 0))) 5 (some (d5 0))))))))]) ++ (docL cs.1 d0)) ++ (docL cs.1 d1)) ++ (docL cs.1 d2)) ++ (docL cs.1 d3)) ++ (docL cs.1 d4)) ++ (docL cs.1 d5)) H := hP
  have hD : va_D _ ((((((((((h0, .inr (3, [.ref q18, .ref (nn 0), .int 0])) :: []) ++ (docL cs.1 nn)) ++ [(q18, .inl (cs.2.2.2, 7, .inr (.inr (.inr (.inr (va_up (va_up (va_up (va_up (va_up (va_up (fun _ => none) 0 (some (d0 0))) 1 (some (d1 0))) 2 (some (d2 0))) 3 (some (d3 0))) 4 (some (d4 0))) 5 (some (d5 0))))))))]) ++ (docL cs.1 d0)) ++ (docL cs.1 d1)) ++ (docL cs.1 d2)) ++ (docL cs.1 d3)) ++ (docL cs.1 d4)) ++ (docL cs.1 d5)) := hD
  refine lv_iinc (v := 6) (lv' := [(1, .int 6), (0, .ref h0)]) hx hb dX3_init_45 hl (k := 0) rfl (by decide) (by decide) rfl (fun ls hl => ?_)
  refine lv_goto (tgt := 26) hx hb dX3_init_48 (by decide) ?_
  refine lv_iload_n hx hb dX3_init_26 rfl (lv_at hl 0 rfl) ?_
  refine lv_bipush (v := 6) hx hb dX3_init_27 (by decide) ?_
  refine lv_icmp_gt (tgt := 51) hx hb dX3_init_29 (by decide) (fun cc => absurd cc (by decide)) (fun _ => ?_)
  refine lv_aload_n hx hb dX3_init_32 rfl (lv_at hl 1 rfl) ?_
  refine va_get (D := D) (ci := 3) (v := .ref q18) (C := RX3) (T := TX3) (N := 3) hx hb hts (by decide +kernel) hown hK hP 0 rfl rfl 0 (by decide) (hts (.fieldLink RX3 18 "TrustedUpdates$Trust" "documents" "[LTrustedUpdates$Document;") (by decide +kernel)) (fun _ h9 => h9) rfl dX3_init_33 ?_
  refine lv_iload_n hx hb dX3_init_36 rfl (lv_at hl 0 rfl) ?_
  refine va_new (ci := 0) (fs := [.null, .null, .null, .null, .null, .int 0, .int 0, .int 0, .int 0, .int 0, .int 0, .int 0, .int 0, .int 0, .int 0]) (C := RX0) (T := TX0) (N := 15) hx hb hts (by decide +kernel) tyX0 tyX0_ok hown (hts (.classLink RX3 9 RX0) (by decide +kernel)) (hts (.instantiable RX0 15) (by decide +kernel)) (hts (.initialized RX0) (by decide +kernel)) hK hP hD hS hA rfl (by decide) (Nat.le_of_ble_eq_true rfl) (Nat.le_of_ble_eq_true rfl) dX3_init_37 (fun q37 H hP hD hS => ?_)
  refine lv_dup hx hb dX3_init_40 rfl ?_
  refine wn_in C hP hD hS hA (As := []) (rest := [.ref q37, .int 6, .ref q18]) (c_X0_init l D cs q37 H.size) (cwI 0 hts gX3_init_X0_init rfl rfl rfl (hts (.initialized RX0) (by decide +kernel)) (hts (.methodLink RX3 11 yX0_init) (by decide +kernel)) (hts (.instanceMethod yX0_init) (by decide +kernel)) rfl (by decide +kernel) ⟨(Nat.le_of_ble_eq_true rfl), (Nat.le_of_ble_eq_true rfl)⟩) rfl hl.1 rfl (Nat.le_of_ble_eq_true rfl) dX3_init_41 ⟨(Nat.le_of_ble_eq_true rfl), (Nat.le_of_ble_eq_true rfl)⟩ (fun d6 H locs hu hP hD hS => ?_)
  have hP9 := hP
  have hD9 := hD
  have hS9 := hS
  subst hu
  have hP := hP9
  have hD := hD9
  have hS := hS9
  refine va_astq (i := 6) (v := d6 0) hx hb hK hP hD hS 8 3 51 0 (r := (RX0, TX0, 15)) (f := (va_up (va_up (va_up (va_up (va_up (va_up (fun _ => none) 0 (some (d0 0))) 1 (some (d1 0))) 2 (some (d2 0))) 3 (some (d3 0))) 4 (some (d4 0))) 5 (some (d5 0)))) rfl rfl rfl rfl (inB_in (by decide)) dX3_init_44 (fun H locs hP hD hS => ?_)
  have hP : va_P D vwCl (((((((((((h0, .inr (3, [.ref q18, .ref (nn 0), .int 0])) :: []) ++ (docL cs.1 nn)) ++ [(q18, .inl (cs.2.2.2, 7, .inr (.inr (.inr (.inr (va_up (va_up (va_up (va_up (va_up (va_up (va_up (fun _ => none) 0 (some (d0 0))) 1 (some (d1 0))) 2 (some (d2 0))) 3 (some (d3 0))) 4 (some (d4 0))) 5 (some (d5 0))) 6 (some (d6 0))))))))]) ++ (docL cs.1 d0)) ++ (docL cs.1 d1)) ++ (docL cs.1 d2)) ++ (docL cs.1 d3)) ++ (docL cs.1 d4)) ++ (docL cs.1 d5)) ++ (docL cs.1 d6)) H := hP
  have hD : va_D _ (((((((((((h0, .inr (3, [.ref q18, .ref (nn 0), .int 0])) :: []) ++ (docL cs.1 nn)) ++ [(q18, .inl (cs.2.2.2, 7, .inr (.inr (.inr (.inr (va_up (va_up (va_up (va_up (va_up (va_up (va_up (fun _ => none) 0 (some (d0 0))) 1 (some (d1 0))) 2 (some (d2 0))) 3 (some (d3 0))) 4 (some (d4 0))) 5 (some (d5 0))) 6 (some (d6 0))))))))]) ++ (docL cs.1 d0)) ++ (docL cs.1 d1)) ++ (docL cs.1 d2)) ++ (docL cs.1 d3)) ++ (docL cs.1 d4)) ++ (docL cs.1 d5)) ++ (docL cs.1 d6)) := hD
  refine lv_iinc (v := 7) (lv' := [(1, .int 7), (0, .ref h0)]) hx hb dX3_init_45 hl (k := 0) rfl (by decide) (by decide) rfl (fun ls hl => ?_)
  refine lv_goto (tgt := 26) hx hb dX3_init_48 (by decide) ?_
  refine lv_iload_n hx hb dX3_init_26 rfl (lv_at hl 0 rfl) ?_
  refine lv_bipush (v := 6) hx hb dX3_init_27 (by decide) ?_
  refine lv_icmp_gt (tgt := 51) hx hb dX3_init_29 (by decide) (fun _ => ?_) (fun cc => absurd cc (by decide))
  exact wn_ret C hr (post := fun _ : Nat × (Nat → Nat) × (Nat → Nat → Nat) => True) (L := fun u : Nat × (Nat → Nat) × (Nat → Nat → Nat) => truL cs h0 u.1 u.2.1 u.2.2 7) (q18, nn, fun i => match i with | 0 => d0 | 1 => d1 | 2 => d2 | 3 => d3 | 4 => d4 | 5 => d5 | _ => d6) trivial hP hD hS (by decide) (by decide) dX3_init_51
set_option maxHeartbeats 4000000 in
set_option maxRecDepth 100000 in
theorem c_X4_init (l : Launch) (D : va_G) (cs : Cs) (h0 sz : Nat) : CN l yX4_init wsX4_init { frames := 4, cells := 72, slots := 1662, locals := 160 } [.ref h0] D cs sz [(h0, .inr (4, [.null, .null, .null, .null, .null, .int 0, .int 0]))] (fun (u : (Nat → Nat) × (Nat → Nat) × (Nat → Nat) × (Nat → Nat → Nat)) => True) (fun u : (Nat → Nat) × (Nat → Nat) × (Nat → Nat) × (Nat → Nat → Nat) => tuL cs h0 u.1 u.2.1 u.2.2.1 u.2.2.2) 72 1662 := by
  refine cn_o (by decide) rfl rfl (Nat.le_of_ble_eq_true rfl) rfl (fun p e s m below meth c ls C hin hr hA hP hD hl => ?_)
  have hx := C.1
  have hb := C.2.1
  have hml := C.2.2.1
  have hown := C.2.2.2.1
  have hts := C.2.2.2.2.1
  have hK := C.2.2.2.2.2.2.1
  have hS : va_S (va_A [(h0, .inr (4, [.null, .null, .null, .null, .null, .int 0, .int 0]))] s.heap.size) s.heap s.heap [] := va_S.rf
  have hl : lv_has ls 1 [(0, .ref h0)] := hl
  refine lv_aload_n hx hb dX4_init_0 rfl (lv_at hl 0 rfl) ?_
  refine W.objInit hx hb hown (hts (.methodLink RX4 3 objectInit) (by decide +kernel)) (hts (.instanceMethod objectInit) (by decide +kernel)) (hts _ (List.mem_of_getElem? (i := 3) rfl)) rfl (by rw [hml]; exact hl.1) rfl dX4_init_1 (Nat.le_of_ble_eq_true rfl) (Nat.le_of_ble_eq_true rfl) ?_
  refine W.eq (g2 := F0 m 4 ls []) rfl ?_
  refine lv_aload_n hx hb dX4_init_4 rfl (lv_at hl 0 rfl) ?_
  refine va_new (ci := 1) (fs := [.null, .int 0]) (C := RX1) (T := TX1) (N := 2) hx hb hts (by decide +kernel) tyX1 tyX1_ok hown (hts (.classLink RX4 9 RX1) (by decide +kernel)) (hts (.instantiable RX1 2) (by decide +kernel)) (hts (.initialized RX1) (by decide +kernel)) hK hP hD hS hA rfl (by decide) (Nat.le_of_ble_eq_true rfl) (Nat.le_of_ble_eq_true rfl) dX4_init_5 (fun q5 H hP hD hS => ?_)
  refine lv_dup hx hb dX4_init_8 rfl ?_
  refine lv_bipush (v := 120) hx hb dX4_init_9 (by decide) ?_
  refine wn_in C hP hD hS hA (As := [.int 120]) (rest := [.ref q5, .ref h0]) (c_X1_init l D cs q5 H.size 120 120 (by decide) (by decide) (by decide)) (cwI 1 hts gX4_init_X1_init rfl rfl rfl (hts (.initialized RX1) (by decide +kernel)) (hts (.methodLink RX4 11 yX1_init) (by decide +kernel)) (hts (.instanceMethod yX1_init) (by decide +kernel)) rfl (by decide +kernel) ⟨(Nat.le_of_ble_eq_true rfl), (Nat.le_of_ble_eq_true rfl)⟩) rfl hl.1 rfl (Nat.le_of_ble_eq_true rfl) dX4_init_11 ⟨(Nat.le_of_ble_eq_true rfl), (Nat.le_of_ble_eq_true rfl)⟩ (fun a5 H locs hu hP hD hS => ?_)
  refine va_putF (D := D) (ci := 4) (v := .ref q5) (ty := tyX4 0) (C := RX4) (T := TX4) (N := 7) hx hb hts (by decide +kernel) tyX4 tyX4_ok nmX4 hown hK hP hD hS 0 rfl rfl 0 (by decide) (hts (.fieldLink RX4 14 "TrustedUpdates" "draft" "LTrustedUpdates$Row;") (by decide +kernel)) (fun _ h9 => h9) rfl hin rfl (tyX4_ok 0 (by decide)) rfl rfl (Nat.le_of_ble_eq_true rfl) dX4_init_14 (fun H locs hP hD hS => ?_)
  have hP : va_P D vwCl (((h0, .inr (4, [.ref q5, .null, .null, .null, .null, .int 0, .int 0])) :: []) ++ (rowL cs.1 120 q5 a5)) H := hP
  have hD : va_D _ (((h0, .inr (4, [.ref q5, .null, .null, .null, .null, .int 0, .int 0])) :: []) ++ (rowL cs.1 120 q5 a5)) := hD
  refine lv_aload_n hx hb dX4_init_17 rfl (lv_at hl 0 rfl) ?_
  refine va_new (ci := 1) (fs := [.null, .int 0]) (C := RX1) (T := TX1) (N := 2) hx hb hts (by decide +kernel) tyX1 tyX1_ok hown (hts (.classLink RX4 9 RX1) (by decide +kernel)) (hts (.instantiable RX1 2) (by decide +kernel)) (hts (.initialized RX1) (by decide +kernel)) hK hP hD hS hA rfl (by decide) (Nat.le_of_ble_eq_true rfl) (Nat.le_of_ble_eq_true rfl) dX4_init_18 (fun q18 H hP hD hS => ?_)
  refine lv_dup hx hb dX4_init_21 rfl ?_
  refine lv_bipush (v := 120) hx hb dX4_init_22 (by decide) ?_
  refine wn_in C hP hD hS hA (As := [.int 120]) (rest := [.ref q18, .ref h0]) (c_X1_init l D cs q18 H.size 120 120 (by decide) (by decide) (by decide)) (cwI 1 hts gX4_init_X1_init rfl rfl rfl (hts (.initialized RX1) (by decide +kernel)) (hts (.methodLink RX4 11 yX1_init) (by decide +kernel)) (hts (.instanceMethod yX1_init) (by decide +kernel)) rfl (by decide +kernel) ⟨(Nat.le_of_ble_eq_true rfl), (Nat.le_of_ble_eq_true rfl)⟩) rfl hl.1 rfl (Nat.le_of_ble_eq_true rfl) dX4_init_24 ⟨(Nat.le_of_ble_eq_true rfl), (Nat.le_of_ble_eq_true rfl)⟩ (fun a18 H locs hu hP hD hS => ?_)
  refine va_putF (D := D) (ci := 4) (v := .ref q18) (ty := tyX4 1) (C := RX4) (T := TX4) (N := 7) hx hb hts (by decide +kernel) tyX4 tyX4_ok nmX4 hown hK hP hD hS 0 rfl rfl 1 (by decide) (hts (.fieldLink RX4 18 "TrustedUpdates" "content" "LTrustedUpdates$Row;") (by decide +kernel)) (fun _ h9 => h9) rfl hin rfl (tyX4_ok 1 (by decide)) rfl rfl (Nat.le_of_ble_eq_true rfl) dX4_init_27 (fun H locs hP hD hS => ?_)
  have hP : va_P D vwCl ((((h0, .inr (4, [.ref q5, .ref q18, .null, .null, .null, .int 0, .int 0])) :: []) ++ (rowL cs.1 120 q5 a5)) ++ (rowL cs.1 120 q18 a18)) H := hP
  have hD : va_D _ ((((h0, .inr (4, [.ref q5, .ref q18, .null, .null, .null, .int 0, .int 0])) :: []) ++ (rowL cs.1 120 q5 a5)) ++ (rowL cs.1 120 q18 a18)) := hD
  refine lv_aload_n hx hb dX4_init_30 rfl (lv_at hl 0 rfl) ?_
  refine va_new (ci := 0) (fs := [.null, .null, .null, .null, .null, .int 0, .int 0, .int 0, .int 0, .int 0, .int 0, .int 0, .int 0, .int 0, .int 0]) (C := RX0) (T := TX0) (N := 15) hx hb hts (by decide +kernel) tyX0 tyX0_ok hown (hts (.classLink RX4 21 RX0) (by decide +kernel)) (hts (.instantiable RX0 15) (by decide +kernel)) (hts (.initialized RX0) (by decide +kernel)) hK hP hD hS hA rfl (by decide) (Nat.le_of_ble_eq_true rfl) (Nat.le_of_ble_eq_true rfl) dX4_init_31 (fun q31 H hP hD hS => ?_)
  refine lv_dup hx hb dX4_init_34 rfl ?_
  refine wn_in C hP hD hS hA (As := []) (rest := [.ref q31, .ref h0]) (c_X0_init l D cs q31 H.size) (cwI 0 hts gX4_init_X0_init rfl rfl rfl (hts (.initialized RX0) (by decide +kernel)) (hts (.methodLink RX4 23 yX0_init) (by decide +kernel)) (hts (.instanceMethod yX0_init) (by decide +kernel)) rfl (by decide +kernel) ⟨(Nat.le_of_ble_eq_true rfl), (Nat.le_of_ble_eq_true rfl)⟩) rfl hl.1 rfl (Nat.le_of_ble_eq_true rfl) dX4_init_35 ⟨(Nat.le_of_ble_eq_true rfl), (Nat.le_of_ble_eq_true rfl)⟩ (fun oo H locs hu hP hD hS => ?_)
  have hP9 := hP
  have hD9 := hD
  have hS9 := hS
  subst hu
  have hP := hP9
  have hD := hD9
  have hS := hS9
  refine va_putF (D := D) (ci := 4) (v := .ref (oo 0)) (ty := tyX4 2) (C := RX4) (T := TX4) (N := 7) hx hb hts (by decide +kernel) tyX4 tyX4_ok nmX4 hown hK hP hD hS 0 rfl rfl 2 (by decide) (hts (.fieldLink RX4 24 "TrustedUpdates" "offered" "LTrustedUpdates$Document;") (by decide +kernel)) (fun _ h9 => h9) rfl hin rfl (tyX4_ok 2 (by decide)) rfl rfl (Nat.le_of_ble_eq_true rfl) dX4_init_38 (fun H locs hP hD hS => ?_)
  have hP : va_P D vwCl (((((h0, .inr (4, [.ref q5, .ref q18, .ref (oo 0), .null, .null, .int 0, .int 0])) :: []) ++ (rowL cs.1 120 q5 a5)) ++ (rowL cs.1 120 q18 a18)) ++ (docL cs.1 oo)) H := hP
  have hD : va_D _ (((((h0, .inr (4, [.ref q5, .ref q18, .ref (oo 0), .null, .null, .int 0, .int 0])) :: []) ++ (rowL cs.1 120 q5 a5)) ++ (rowL cs.1 120 q18 a18)) ++ (docL cs.1 oo)) := hD
  refine lv_aload_n hx hb dX4_init_41 rfl (lv_at hl 0 rfl) ?_
  refine va_new (ci := 3) (fs := [.null, .null, .int 0]) (C := RX3) (T := TX3) (N := 3) hx hb hts (by decide +kernel) tyX3 tyX3_ok hown (hts (.classLink RX4 28 RX3) (by decide +kernel)) (hts (.instantiable RX3 3) (by decide +kernel)) (hts (.initialized RX3) (by decide +kernel)) hK hP hD hS hA rfl (by decide) (Nat.le_of_ble_eq_true rfl) (Nat.le_of_ble_eq_true rfl) dX4_init_42 (fun q42 H hP hD hS => ?_)
  refine lv_dup hx hb dX4_init_45 rfl ?_
  refine wn_in C hP hD hS hA (As := []) (rest := [.ref q42, .ref h0]) (c_X3_init l D cs q42 H.size) (cwI 0 hts gX4_init_X3_init rfl rfl rfl (hts (.initialized RX3) (by decide +kernel)) (hts (.methodLink RX4 30 yX3_init) (by decide +kernel)) (hts (.instanceMethod yX3_init) (by decide +kernel)) rfl (by decide +kernel) ⟨(Nat.le_of_ble_eq_true rfl), (Nat.le_of_ble_eq_true rfl)⟩) rfl hl.1 rfl (Nat.le_of_ble_eq_true rfl) dX4_init_46 ⟨(Nat.le_of_ble_eq_true rfl), (Nat.le_of_ble_eq_true rfl)⟩ (fun ut H locs hu hP hD hS => ?_)
  refine va_putF (D := D) (ci := 4) (v := .ref q42) (ty := tyX4 3) (C := RX4) (T := TX4) (N := 7) hx hb hts (by decide +kernel) tyX4 tyX4_ok nmX4 hown hK hP hD hS 0 rfl rfl 3 (by decide) (hts (.fieldLink RX4 31 "TrustedUpdates" "trust" "LTrustedUpdates$Trust;") (by decide +kernel)) (fun _ h9 => h9) rfl hin rfl (tyX4_ok 3 (by decide)) rfl rfl (Nat.le_of_ble_eq_true rfl) dX4_init_49 (fun H locs hP hD hS => ?_)
  have hP : va_P D vwCl ((((((h0, .inr (4, [.ref q5, .ref q18, .ref (oo 0), .ref q42, .null, .int 0, .int 0])) :: []) ++ (rowL cs.1 120 q5 a5)) ++ (rowL cs.1 120 q18 a18)) ++ (docL cs.1 oo)) ++ (truL cs q42 ut.1 ut.2.1 ut.2.2 7)) H := hP
  have hD : va_D _ ((((((h0, .inr (4, [.ref q5, .ref q18, .ref (oo 0), .ref q42, .null, .int 0, .int 0])) :: []) ++ (rowL cs.1 120 q5 a5)) ++ (rowL cs.1 120 q18 a18)) ++ (docL cs.1 oo)) ++ (truL cs q42 ut.1 ut.2.1 ut.2.2 7)) := hD
  refine lv_aload_n hx hb dX4_init_52 rfl (lv_at hl 0 rfl) ?_
  refine va_new (ci := 2) (fs := [.null, .null, .int 0, .int 0, .int 0, .int 0, .int 0]) (C := RX2) (T := TX2) (N := 7) hx hb hts (by decide +kernel) tyX2 tyX2_ok hown (hts (.classLink RX4 35 RX2) (by decide +kernel)) (hts (.instantiable RX2 7) (by decide +kernel)) (hts (.initialized RX2) (by decide +kernel)) hK hP hD hS hA rfl (by decide) (Nat.le_of_ble_eq_true rfl) (Nat.le_of_ble_eq_true rfl) dX4_init_53 (fun q53 H hP hD hS => ?_)
  refine lv_dup hx hb dX4_init_56 rfl ?_
  refine lv_aload_n hx hb dX4_init_57 rfl (lv_at hl 0 rfl) ?_
  refine va_get (D := D) (ci := 4) (v := .ref q42) (C := RX4) (T := TX4) (N := 7) hx hb hts (by decide +kernel) hown hK hP 0 rfl rfl 3 (by decide) (hts (.fieldLink RX4 31 "TrustedUpdates" "trust" "LTrustedUpdates$Trust;") (by decide +kernel)) (fun _ h9 => h9) rfl dX4_init_58 ?_
  refine wn_in C hP hD hS hA (As := [.ref q42]) (rest := [.ref q53, .ref h0]) (c_X2_init l D cs q53 H.size q42) (cwI 1 hts gX4_init_X2_init rfl rfl rfl (hts (.initialized RX2) (by decide +kernel)) (hts (.methodLink RX4 37 yX2_init) (by decide +kernel)) (hts (.instanceMethod yX2_init) (by decide +kernel)) rfl (by decide +kernel) ⟨(Nat.le_of_ble_eq_true rfl), (Nat.le_of_ble_eq_true rfl)⟩) rfl hl.1 rfl (Nat.le_of_ble_eq_true rfl) dX4_init_61 ⟨(Nat.le_of_ble_eq_true rfl), (Nat.le_of_ble_eq_true rfl)⟩ (fun us H locs hu hP hD hS => ?_)
  refine va_putF (D := D) (ci := 4) (v := .ref q53) (ty := tyX4 4) (C := RX4) (T := TX4) (N := 7) hx hb hts (by decide +kernel) tyX4 tyX4_ok nmX4 hown hK hP hD hS 0 rfl rfl 4 (by decide) (hts (.fieldLink RX4 40 "TrustedUpdates" "search" "LTrustedUpdates$Search;") (by decide +kernel)) (fun _ h9 => h9) rfl hin rfl (tyX4_ok 4 (by decide)) rfl rfl (Nat.le_of_ble_eq_true rfl) dX4_init_64 (fun H locs hP hD hS => ?_)
  have hP : va_P D vwCl (((((((h0, .inr (4, [.ref q5, .ref q18, .ref (oo 0), .ref q42, .ref q53, .int 0, .int 0])) :: []) ++ (rowL cs.1 120 q5 a5)) ++ (rowL cs.1 120 q18 a18)) ++ (docL cs.1 oo)) ++ (truL cs q42 ut.1 ut.2.1 ut.2.2 7)) ++ (seaL cs q53 q42 us.1 us.2)) H := hP
  have hD : va_D _ (((((((h0, .inr (4, [.ref q5, .ref q18, .ref (oo 0), .ref q42, .ref q53, .int 0, .int 0])) :: []) ++ (rowL cs.1 120 q5 a5)) ++ (rowL cs.1 120 q18 a18)) ++ (docL cs.1 oo)) ++ (truL cs q42 ut.1 ut.2.1 ut.2.2 7)) ++ (seaL cs q53 q42 us.1 us.2)) := hD
  exact wn_ret C hr (post := fun _ : (Nat → Nat) × (Nat → Nat) × (Nat → Nat) × (Nat → Nat → Nat) => True) (L := fun u : (Nat → Nat) × (Nat → Nat) × (Nat → Nat) × (Nat → Nat → Nat) => tuL cs h0 u.1 u.2.1 u.2.2.1 u.2.2.2) ((fun i => match i with | 0 => q5 | 1 => a5 | 2 => q18 | 3 => a18 | 4 => q42 | 5 => ut.1 | 6 => q53 | 7 => us.1 | _ => us.2), oo, ut.2.1, ut.2.2) trivial hP hD hS (by decide) (by decide) dX4_init_67
