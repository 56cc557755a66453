def rowL (cI : ClassId) (n h0 q : Nat) : va_W := [(h0, .inr (1, [.ref q, .int 0])), (q, ia cI n)]
def docL (cI : ClassId) (a : Nat → Nat) : va_W := [(a 0, .inr (0, [.ref (a 1), .ref (a 3), .ref (a 4), .ref (a 5), .ref (a 6), .int 0, .int 0, .int 0, .int 0, .int 0, .int 0, .int 0, .int 0, .int 0, .int 0])), (a 1, .inr (1, [.ref (a 2), .int 0])), (a 2, ia cI 120), (a 3, ia cI 4), (a 4, ia cI 7), (a 5, ia cI 4), (a 6, ia cI 3)]
def qaF (d : Nat → Nat → Nat) : Nat → Nat → Option Nat
  | 0 => fun _ => none
  | n + 1 => va_up (qaF d n) n (some (d n 0))
def dsL (cI : ClassId) (d : Nat → Nat → Nat) : Nat → va_W
  | 0 => []
  | n + 1 => dsL cI d n ++ docL cI (d n)
def truL (cs : Cs) (h0 qa : Nat) (nn : Nat → Nat) (d : Nat → Nat → Nat) (n : Nat) : va_W := ((h0, .inr (3, [.ref qa, .ref (nn 0), .int 0])) :: (docL cs.1 nn ++ [(qa, .inl (cs.2.2.2, 7, .inr (.inr (.inr (.inr (qaF d n))))))])) ++ dsL cs.1 d n
def seaL (cs : Cs) (h0 t r a : Nat) : va_W := (h0, .inr (2, [.ref t, .ref r, .int 0, .int 0, .int 0, .int 0, .int 0])) :: rowL cs.1 4 r a
def modL (cs : Cs) (h0 : Nat) (a : Nat → Nat) : va_W := [(h0, .inr (5, [.int 0, .ref (a 0), .ref (a 1), .ref (a 2), .int 0, .int 0, .int 0, .int 0, .int 0, .int 0, .int 0, .int 0, .int 0, .int 0, .int 0, .ref (a 3), .ref (a 4), .int 0])), (a 0, ia cs.1 1080), (a 1, ia cs.1 9), (a 2, ia cs.2.1 7), (a 3, ia cs.1 8), (a 4, ia cs.1 8)]
set_option maxHeartbeats 4000000 in
set_option maxRecDepth 100000 in
theorem c_X1_init (l : Launch) (D : va_G) (cs : Cs) (h0 sz : Nat) (n : Int32) (N : Nat) (hn : ¬ n < 0) (hN : n.toNatClampNeg = N) (hb4 : N * componentBytes .int ≤ 536870912) : CN l yX1_init wsX1_init { frames := 1, cells := 1, slots := N, locals := 40 } [.ref h0, .int n] D cs sz [(h0, .inr (1, [.null, .int 0]))] (fun (q : Nat) => True) (fun q : Nat => rowL cs.1 N h0 q) 1 N := by
  refine cn_o (by decide) rfl rfl (Nat.le_of_ble_eq_true rfl) rfl (fun p e s m below meth c ls C hin hr hA hP hD hl => ?_)
  have hx := C.1
  have hb := C.2.1
  have hml := C.2.2.1
  have hown := C.2.2.2.1
  have hts := C.2.2.2.2.1
  have hK := C.2.2.2.2.2.2.1
  have hS : va_S (va_A [(h0, .inr (1, [.null, .int 0]))] s.heap.size) s.heap s.heap [] := va_S.rf
  have hl : lv_has ls 2 [(0, .ref h0), (1, .int n)] := hl
  refine lv_aload_n hx hb dX1_init_0 rfl (lv_at hl 0 rfl) ?_
  refine W.objInit hx hb hown (hts (.methodLink RX1 3 objectInit) (by decide +kernel)) (hts (.instanceMethod objectInit) (by decide +kernel)) (hts _ (List.mem_of_getElem? (i := 3) rfl)) rfl (by rw [hml]; exact hl.1) rfl dX1_init_1 (Nat.le_of_ble_eq_true rfl) (Nat.le_of_ble_eq_true rfl) ?_
  refine W.eq (g2 := F0 m 4 ls []) rfl ?_
  refine lv_aload_n hx hb dX1_init_4 rfl (lv_at hl 0 rfl) ?_
  refine lv_iload_n hx hb dX1_init_5 rfl (lv_at hl 1 rfl) ?_
  refine wn_ia C hP hD hS hA (hts (.arrayClass .int) (by decide +kernel)) (N := N) hn hN hb4 (Nat.le_of_ble_eq_true rfl) (by show 0 + N ≤ N; omega) dX1_init_6 (fun q6 H hP hD hS => ?_)
  refine va_putF (D := D) (ci := 1) (v := .ref q6) (ty := tyX1 0) (C := RX1) (T := TX1) (N := 2) hx hb hts (by decide +kernel) tyX1 tyX1_ok nmX1 hown hK hP hD hS 0 rfl rfl 0 (by decide) (hts (.fieldLink RX1 9 "TrustedUpdates$Row" "bytes" "[I") (by decide +kernel)) (fun _ h9 => h9) rfl hin rfl (tyX1_ok 0 (by decide)) rfl rfl (Nat.le_of_ble_eq_true rfl) dX1_init_8 (fun H locs hP hD hS => ?_)
  have hP : va_P D vwCl (((h0, .inr (1, [.ref q6, .int 0])) :: []) ++ [(q6, ia cs.1 N)]) H := hP
  have hD : va_D _ (((h0, .inr (1, [.ref q6, .int 0])) :: []) ++ [(q6, ia cs.1 N)]) := hD
  exact wn_ret C hr (L := fun q : Nat => rowL cs.1 N h0 q) q6 trivial hP hD hS (by decide) (by show 0 + N ≤ N; omega) dX1_init_11
set_option maxHeartbeats 4000000 in
set_option maxRecDepth 100000 in
theorem c_X0_init (l : Launch) (D : va_G) (cs : Cs) (h0 sz : Nat) : CN l yX0_init wsX0_init { frames := 2, cells := 6, slots := 140, locals := 80 } [.ref h0] D cs sz [(h0, .inr (0, [.null, .null, .null, .null, .null, .int 0, .int 0, .int 0, .int 0, .int 0, .int 0, .int 0, .int 0, .int 0, .int 0]))] (fun (a : Nat → Nat) => a 0 = h0) (fun a : Nat → Nat => docL cs.1 a) 6 140 := by
  refine cn_o (by decide) rfl rfl (Nat.le_of_ble_eq_true rfl) rfl (fun p e s m below meth c ls C hin hr hA hP hD hl => ?_)
  have hx := C.1
  have hb := C.2.1
  have hml := C.2.2.1
  have hown := C.2.2.2.1
  have hts := C.2.2.2.2.1
  have hK := C.2.2.2.2.2.2.1
  have hS : va_S (va_A [(h0, .inr (0, [.null, .null, .null, .null, .null, .int 0, .int 0, .int 0, .int 0, .int 0, .int 0, .int 0, .int 0, .int 0, .int 0]))] s.heap.size) s.heap s.heap [] := va_S.rf
  have hl : lv_has ls 1 [(0, .ref h0)] := hl
  refine lv_aload_n hx hb dX0_init_0 rfl (lv_at hl 0 rfl) ?_
  refine W.objInit hx hb hown (hts (.methodLink RX0 3 objectInit) (by decide +kernel)) (hts (.instanceMethod objectInit) (by decide +kernel)) (hts _ (List.mem_of_getElem? (i := 3) rfl)) rfl (by rw [hml]; exact hl.1) rfl dX0_init_1 (Nat.le_of_ble_eq_true rfl) (Nat.le_of_ble_eq_true rfl) ?_
  refine W.eq (g2 := F0 m 4 ls []) rfl ?_
  refine lv_aload_n hx hb dX0_init_4 rfl (lv_at hl 0 rfl) ?_
  refine va_new (ci := 1) (fs := [.null, .int 0]) (C := RX1) (T := TX1) (N := 2) hx hb hts (by decide +kernel) tyX1 tyX1_ok hown (hts (.classLink RX0 9 RX1) (by decide +kernel)) (hts (.instantiable RX1 2) (by decide +kernel)) (hts (.initialized RX1) (by decide +kernel)) hK hP hD hS hA rfl (by decide) (Nat.le_of_ble_eq_true rfl) (Nat.le_of_ble_eq_true rfl) dX0_init_5 (fun q5 H hP hD hS => ?_)
  refine lv_dup hx hb dX0_init_8 rfl ?_
  refine lv_bipush (v := 120) hx hb dX0_init_9 (by decide) ?_
  refine wn_in C hP hD hS hA (As := [.int 120]) (rest := [.ref q5, .ref h0]) (c_X1_init l D cs q5 H.size 120 120 (by decide) (by decide) (by decide)) (cwI 1 hts gX0_init_X1_init rfl rfl rfl (hts (.initialized RX1) (by decide +kernel)) (hts (.methodLink RX0 11 yX1_init) (by decide +kernel)) (hts (.instanceMethod yX1_init) (by decide +kernel)) rfl (by decide +kernel) ⟨(Nat.le_of_ble_eq_true rfl), (Nat.le_of_ble_eq_true rfl)⟩) rfl hl.1 rfl (Nat.le_of_ble_eq_true rfl) dX0_init_11 ⟨(Nat.le_of_ble_eq_true rfl), (Nat.le_of_ble_eq_true rfl)⟩ (fun a5 H locs hu hP hD hS => ?_)
  refine va_putF (D := D) (ci := 0) (v := .ref q5) (ty := tyX0 0) (C := RX0) (T := TX0) (N := 15) hx hb hts (by decide +kernel) tyX0 tyX0_ok nmX0 hown hK hP hD hS 0 rfl rfl 0 (by decide) (hts (.fieldLink RX0 14 "TrustedUpdates$Document" "row" "LTrustedUpdates$Row;") (by decide +kernel)) (fun _ h9 => h9) rfl hin rfl (tyX0_ok 0 (by decide)) rfl rfl (Nat.le_of_ble_eq_true rfl) dX0_init_14 (fun H locs hP hD hS => ?_)
  have hP : va_P D vwCl (((h0, .inr (0, [.ref q5, .null, .null, .null, .null, .int 0, .int 0, .int 0, .int 0, .int 0, .int 0, .int 0, .int 0, .int 0, .int 0])) :: []) ++ (rowL cs.1 120 q5 a5)) H := hP
  have hD : va_D _ (((h0, .inr (0, [.ref q5, .null, .null, .null, .null, .int 0, .int 0, .int 0, .int 0, .int 0, .int 0, .int 0, .int 0, .int 0, .int 0])) :: []) ++ (rowL cs.1 120 q5 a5)) := hD
  refine lv_aload_n hx hb dX0_init_17 rfl (lv_at hl 0 rfl) ?_
  refine lv_iconst (v := 4) hx hb dX0_init_18 (by decide) ?_
  refine wn_ia C hP hD hS hA (hts (.arrayClass .int) (by decide +kernel)) (N := 4) (by decide) (by decide) (by decide) (Nat.le_of_ble_eq_true rfl) (Nat.le_of_ble_eq_true rfl) dX0_init_19 (fun q19 H hP hD hS => ?_)
  refine va_putF (D := D) (ci := 0) (v := .ref q19) (ty := tyX0 1) (C := RX0) (T := TX0) (N := 15) hx hb hts (by decide +kernel) tyX0 tyX0_ok nmX0 hown hK hP hD hS 0 rfl rfl 1 (by decide) (hts (.fieldLink RX0 20 "TrustedUpdates$Document" "keySets" "[I") (by decide +kernel)) (fun _ h9 => h9) rfl hin rfl (tyX0_ok 1 (by decide)) rfl rfl (Nat.le_of_ble_eq_true rfl) dX0_init_21 (fun H locs hP hD hS => ?_)
  have hP : va_P D vwCl ((((h0, .inr (0, [.ref q5, .ref q19, .null, .null, .null, .int 0, .int 0, .int 0, .int 0, .int 0, .int 0, .int 0, .int 0, .int 0, .int 0])) :: []) ++ (rowL cs.1 120 q5 a5)) ++ [(q19, ia cs.1 4)]) H := hP
  have hD : va_D _ ((((h0, .inr (0, [.ref q5, .ref q19, .null, .null, .null, .int 0, .int 0, .int 0, .int 0, .int 0, .int 0, .int 0, .int 0, .int 0, .int 0])) :: []) ++ (rowL cs.1 120 q5 a5)) ++ [(q19, ia cs.1 4)]) := hD
  refine lv_aload_n hx hb dX0_init_24 rfl (lv_at hl 0 rfl) ?_
  refine lv_bipush (v := 7) hx hb dX0_init_25 (by decide) ?_
  refine wn_ia C hP hD hS hA (hts (.arrayClass .int) (by decide +kernel)) (N := 7) (by decide) (by decide) (by decide) (Nat.le_of_ble_eq_true rfl) (Nat.le_of_ble_eq_true rfl) dX0_init_27 (fun q27 H hP hD hS => ?_)
  refine va_putF (D := D) (ci := 0) (v := .ref q27) (ty := tyX0 2) (C := RX0) (T := TX0) (N := 15) hx hb hts (by decide +kernel) tyX0 tyX0_ok nmX0 hown hK hP hD hS 0 rfl rfl 2 (by decide) (hts (.fieldLink RX0 24 "TrustedUpdates$Document" "versions" "[I") (by decide +kernel)) (fun _ h9 => h9) rfl hin rfl (tyX0_ok 2 (by decide)) rfl rfl (Nat.le_of_ble_eq_true rfl) dX0_init_29 (fun H locs hP hD hS => ?_)
  have hP : va_P D vwCl (((((h0, .inr (0, [.ref q5, .ref q19, .ref q27, .null, .null, .int 0, .int 0, .int 0, .int 0, .int 0, .int 0, .int 0, .int 0, .int 0, .int 0])) :: []) ++ (rowL cs.1 120 q5 a5)) ++ [(q19, ia cs.1 4)]) ++ [(q27, ia cs.1 7)]) H := hP
  have hD : va_D _ (((((h0, .inr (0, [.ref q5, .ref q19, .ref q27, .null, .null, .int 0, .int 0, .int 0, .int 0, .int 0, .int 0, .int 0, .int 0, .int 0, .int 0])) :: []) ++ (rowL cs.1 120 q5 a5)) ++ [(q19, ia cs.1 4)]) ++ [(q27, ia cs.1 7)]) := hD
  refine lv_aload_n hx hb dX0_init_32 rfl (lv_at hl 0 rfl) ?_
  refine lv_iconst (v := 4) hx hb dX0_init_33 (by decide) ?_
  refine wn_ia C hP hD hS hA (hts (.arrayClass .int) (by decide +kernel)) (N := 4) (by decide) (by decide) (by decide) (Nat.le_of_ble_eq_true rfl) (Nat.le_of_ble_eq_true rfl) dX0_init_34 (fun q34 H hP hD hS => ?_)
  refine va_putF (D := D) (ci := 0) (v := .ref q34) (ty := tyX0 3) (C := RX0) (T := TX0) (N := 15) hx hb hts (by decide +kernel) tyX0 tyX0_ok nmX0 hown hK hP hD hS 0 rfl rfl 3 (by decide) (hts (.fieldLink RX0 27 "TrustedUpdates$Document" "targets" "[I") (by decide +kernel)) (fun _ h9 => h9) rfl hin rfl (tyX0_ok 3 (by decide)) rfl rfl (Nat.le_of_ble_eq_true rfl) dX0_init_36 (fun H locs hP hD hS => ?_)
  have hP : va_P D vwCl ((((((h0, .inr (0, [.ref q5, .ref q19, .ref q27, .ref q34, .null, .int 0, .int 0, .int 0, .int 0, .int 0, .int 0, .int 0, .int 0, .int 0, .int 0])) :: []) ++ (rowL cs.1 120 q5 a5)) ++ [(q19, ia cs.1 4)]) ++ [(q27, ia cs.1 7)]) ++ [(q34, ia cs.1 4)]) H := hP
  have hD : va_D _ ((((((h0, .inr (0, [.ref q5, .ref q19, .ref q27, .ref q34, .null, .int 0, .int 0, .int 0, .int 0, .int 0, .int 0, .int 0, .int 0, .int 0, .int 0])) :: []) ++ (rowL cs.1 120 q5 a5)) ++ [(q19, ia cs.1 4)]) ++ [(q27, ia cs.1 7)]) ++ [(q34, ia cs.1 4)]) := hD
  refine lv_aload_n hx hb dX0_init_39 rfl (lv_at hl 0 rfl) ?_
  refine lv_iconst (v := 3) hx hb dX0_init_40 (by decide) ?_
  refine wn_ia C hP hD hS hA (hts (.arrayClass .int) (by decide +kernel)) (N := 3) (by decide) (by decide) (by decide) (Nat.le_of_ble_eq_true rfl) (Nat.le_of_ble_eq_true rfl) dX0_init_41 (fun q41 H hP hD hS => ?_)
  refine va_putF (D := D) (ci := 0) (v := .ref q41) (ty := tyX0 4) (C := RX0) (T := TX0) (N := 15) hx hb hts (by decide +kernel) tyX0 tyX0_ok nmX0 hown hK hP hD hS 0 rfl rfl 4 (by decide) (hts (.fieldLink RX0 30 "TrustedUpdates$Document" "delegations" "[I") (by decide +kernel)) (fun _ h9 => h9) rfl hin rfl (tyX0_ok 4 (by decide)) rfl rfl (Nat.le_of_ble_eq_true rfl) dX0_init_43 (fun H locs hP hD hS => ?_)
  have hP : va_P D vwCl (((((((h0, .inr (0, [.ref q5, .ref q19, .ref q27, .ref q34, .ref q41, .int 0, .int 0, .int 0, .int 0, .int 0, .int 0, .int 0, .int 0, .int 0, .int 0])) :: []) ++ (rowL cs.1 120 q5 a5)) ++ [(q19, ia cs.1 4)]) ++ [(q27, ia cs.1 7)]) ++ [(q34, ia cs.1 4)]) ++ [(q41, ia cs.1 3)]) H := hP
  have hD : va_D _ (((((((h0, .inr (0, [.ref q5, .ref q19, .ref q27, .ref q34, .ref q41, .int 0, .int 0, .int 0, .int 0, .int 0, .int 0, .int 0, .int 0, .int 0, .int 0])) :: []) ++ (rowL cs.1 120 q5 a5)) ++ [(q19, ia cs.1 4)]) ++ [(q27, ia cs.1 7)]) ++ [(q34, ia cs.1 4)]) ++ [(q41, ia cs.1 3)]) := hD
  exact wn_ret C hr (post := fun a : Nat → Nat => a 0 = h0) (L := fun a : Nat → Nat => docL cs.1 a) (fun k => match k with | 0 => h0 | 1 => q5 | 2 => a5 | 3 => q19 | 4 => q27 | 5 => q34 | _ => q41) rfl hP hD hS (by decide) (by decide) dX0_init_46
set_option maxHeartbeats 4000000 in
set_option maxRecDepth 100000 in
theorem c_X2_init (l : Launch) (D : va_G) (cs : Cs) (h0 sz t : Nat) : CN l yX2_init wsX2_init { frames := 2, cells := 2, slots := 6, locals := 80 } [.ref h0, .ref t] D cs sz [(h0, .inr (2, [.null, .null, .int 0, .int 0, .int 0, .int 0, .int 0]))] (fun (u : Nat × Nat) => True) (fun u : Nat × Nat => seaL cs h0 t u.1 u.2) 2 6 := by
  refine cn_o (by decide) rfl rfl (Nat.le_of_ble_eq_true rfl) rfl (fun p e s m below meth c ls C hin hr hA hP hD hl => ?_)
  have hx := C.1
  have hb := C.2.1
  have hml := C.2.2.1
  have hown := C.2.2.2.1
  have hts := C.2.2.2.2.1
  have hK := C.2.2.2.2.2.2.1
  have hS : va_S (va_A [(h0, .inr (2, [.null, .null, .int 0, .int 0, .int 0, .int 0, .int 0]))] s.heap.size) s.heap s.heap [] := va_S.rf
  have hl : lv_has ls 2 [(0, .ref h0), (1, .ref t)] := hl
  refine lv_aload_n hx hb dX2_init_0 rfl (lv_at hl 0 rfl) ?_
  refine W.objInit hx hb hown (hts (.methodLink RX2 3 objectInit) (by decide +kernel)) (hts (.instanceMethod objectInit) (by decide +kernel)) (hts _ (List.mem_of_getElem? (i := 3) rfl)) rfl (by rw [hml]; exact hl.1) rfl dX2_init_1 (Nat.le_of_ble_eq_true rfl) (Nat.le_of_ble_eq_true rfl) ?_
  refine W.eq (g2 := F0 m 4 ls []) rfl ?_
  refine lv_aload_n hx hb dX2_init_4 rfl (lv_at hl 0 rfl) ?_
  refine lv_aload_n hx hb dX2_init_5 rfl (lv_at hl 1 rfl) ?_
  refine va_putF (D := D) (ci := 2) (v := .ref t) (ty := tyX2 0) (C := RX2) (T := TX2) (N := 7) hx hb hts (by decide +kernel) tyX2 tyX2_ok nmX2 hown hK hP hD hS 0 rfl rfl 0 (by decide) (hts (.fieldLink RX2 9 "TrustedUpdates$Search" "trust" "LTrustedUpdates$Trust;") (by decide +kernel)) (fun _ h9 => h9) rfl hin rfl (tyX2_ok 0 (by decide)) rfl rfl (Nat.le_of_ble_eq_true rfl) dX2_init_6 (fun H locs hP hD hS => ?_)
  have hP : va_P D vwCl ((h0, .inr (2, [.ref t, .null, .int 0, .int 0, .int 0, .int 0, .int 0])) :: []) H := hP
  have hD : va_D _ ((h0, .inr (2, [.ref t, .null, .int 0, .int 0, .int 0, .int 0, .int 0])) :: []) := hD
  refine lv_aload_n hx hb dX2_init_9 rfl (lv_at hl 0 rfl) ?_
  refine va_new (ci := 1) (fs := [.null, .int 0]) (C := RX1) (T := TX1) (N := 2) hx hb hts (by decide +kernel) tyX1 tyX1_ok hown (hts (.classLink RX2 15 RX1) (by decide +kernel)) (hts (.instantiable RX1 2) (by decide +kernel)) (hts (.initialized RX1) (by decide +kernel)) hK hP hD hS hA rfl (by decide) (Nat.le_of_ble_eq_true rfl) (Nat.le_of_ble_eq_true rfl) dX2_init_10 (fun q10 H hP hD hS => ?_)
  refine lv_dup hx hb dX2_init_13 rfl ?_
  refine lv_iconst (v := 4) hx hb dX2_init_14 (by decide) ?_
  refine wn_in C hP hD hS hA (As := [.int 4]) (rest := [.ref q10, .ref h0]) (c_X1_init l D cs q10 H.size 4 4 (by decide) (by decide) (by decide)) (cwI 1 hts gX2_init_X1_init rfl rfl rfl (hts (.initialized RX1) (by decide +kernel)) (hts (.methodLink RX2 17 yX1_init) (by decide +kernel)) (hts (.instanceMethod yX1_init) (by decide +kernel)) rfl (by decide +kernel) ⟨(Nat.le_of_ble_eq_true rfl), (Nat.le_of_ble_eq_true rfl)⟩) rfl hl.1 rfl (Nat.le_of_ble_eq_true rfl) dX2_init_15 ⟨(Nat.le_of_ble_eq_true rfl), (Nat.le_of_ble_eq_true rfl)⟩ (fun a10 H locs hu hP hD hS => ?_)
  refine va_putF (D := D) (ci := 2) (v := .ref q10) (ty := tyX2 1) (C := RX2) (T := TX2) (N := 7) hx hb hts (by decide +kernel) tyX2 tyX2_ok nmX2 hown hK hP hD hS 0 rfl rfl 1 (by decide) (hts (.fieldLink RX2 20 "TrustedUpdates$Search" "name" "LTrustedUpdates$Row;") (by decide +kernel)) (fun _ h9 => h9) rfl hin rfl (tyX2_ok 1 (by decide)) rfl rfl (Nat.le_of_ble_eq_true rfl) dX2_init_18 (fun H locs hP hD hS => ?_)
  have hP : va_P D vwCl (((h0, .inr (2, [.ref t, .ref q10, .int 0, .int 0, .int 0, .int 0, .int 0])) :: []) ++ (rowL cs.1 4 q10 a10)) H := hP
  have hD : va_D _ (((h0, .inr (2, [.ref t, .ref q10, .int 0, .int 0, .int 0, .int 0, .int 0])) :: []) ++ (rowL cs.1 4 q10 a10)) := hD
  exact wn_ret C hr (L := fun u : Nat × Nat => seaL cs h0 t u.1 u.2) (q10, a10) trivial hP hD hS (Nat.le_of_ble_eq_true rfl) (Nat.le_of_ble_eq_true rfl) dX2_init_21
set_option maxHeartbeats 4000000 in
set_option maxRecDepth 100000 in
theorem c_X5_init (l : Launch) (D : va_G) (cs : Cs) (h0 sz : Nat) : CN l yX5_init wsX5_init { frames := 1, cells := 5, slots := 1112, locals := 40 } [.ref h0] D cs sz [(h0, .inr (5, [.int 0, .null, .null, .null, .int 0, .int 0, .int 0, .int 0, .int 0, .int 0, .int 0, .int 0, .int 0, .int 0, .int 0, .null, .null, .int 0]))] (fun (a : Nat → Nat) => True) (fun a : Nat → Nat => modL cs h0 a) 5 1112 := by
  refine cn_o (by decide) rfl rfl (Nat.le_of_ble_eq_true rfl) rfl (fun p e s m below meth c ls C hin hr hA hP hD hl => ?_)
  have hx := C.1
  have hb := C.2.1
  have hml := C.2.2.1
  have hown := C.2.2.2.1
  have hts := C.2.2.2.2.1
  have hK := C.2.2.2.2.2.2.1
  have hS : va_S (va_A [(h0, .inr (5, [.int 0, .null, .null, .null, .int 0, .int 0, .int 0, .int 0, .int 0, .int 0, .int 0, .int 0, .int 0, .int 0, .int 0, .null, .null, .int 0]))] s.heap.size) s.heap s.heap [] := va_S.rf
  have hl : lv_has ls 1 [(0, .ref h0)] := hl
  refine lv_aload_n hx hb dX5_init_0 rfl (lv_at hl 0 rfl) ?_
  refine W.objInit hx hb hown (hts (.methodLink RX5 1 objectInit) (by decide +kernel)) (hts (.instanceMethod objectInit) (by decide +kernel)) (hts _ (List.mem_of_getElem? (i := 3) rfl)) rfl (by rw [hml]; exact hl.1) rfl dX5_init_1 (Nat.le_of_ble_eq_true rfl) (Nat.le_of_ble_eq_true rfl) ?_
  refine W.eq (g2 := F0 m 4 ls []) rfl ?_
  refine lv_aload_n hx hb dX5_init_4 rfl (lv_at hl 0 rfl) ?_
  refine lv_sipush (v := 1080) hx hb dX5_init_5 (by decide) ?_
  refine wn_ia C hP hD hS hA (hts (.arrayClass .int) (by decide +kernel)) (N := 1080) (by decide) (by decide) (by decide) (Nat.le_of_ble_eq_true rfl) (Nat.le_of_ble_eq_true rfl) dX5_init_8 (fun q8 H hP hD hS => ?_)
  refine va_putF (D := D) (ci := 5) (v := .ref q8) (ty := tyX5 1) (C := RX5) (T := TX5) (N := 18) hx hb hts (by decide +kernel) tyX5 tyX5_ok nmX5 hown hK hP hD hS 0 rfl rfl 1 (by decide) (hts (.fieldLink RX5 7 "TrustedUpdatesModel" "row" "[I") (by decide +kernel)) (fun _ h9 => h9) rfl hin rfl (tyX5_ok 1 (by decide)) rfl rfl (Nat.le_of_ble_eq_true rfl) dX5_init_10 (fun H locs hP hD hS => ?_)
  have hP : va_P D vwCl (((h0, .inr (5, [.int 0, .ref q8, .null, .null, .int 0, .int 0, .int 0, .int 0, .int 0, .int 0, .int 0, .int 0, .int 0, .int 0, .int 0, .null, .null, .int 0])) :: []) ++ [(q8, ia cs.1 1080)]) H := hP
  have hD : va_D _ (((h0, .inr (5, [.int 0, .ref q8, .null, .null, .int 0, .int 0, .int 0, .int 0, .int 0, .int 0, .int 0, .int 0, .int 0, .int 0, .int 0, .null, .null, .int 0])) :: []) ++ [(q8, ia cs.1 1080)]) := hD
  refine lv_aload_n hx hb dX5_init_13 rfl (lv_at hl 0 rfl) ?_
  refine lv_bipush (v := 9) hx hb dX5_init_14 (by decide) ?_
  refine wn_ia C hP hD hS hA (hts (.arrayClass .int) (by decide +kernel)) (N := 9) (by decide) (by decide) (by decide) (Nat.le_of_ble_eq_true rfl) (Nat.le_of_ble_eq_true rfl) dX5_init_16 (fun q16 H hP hD hS => ?_)
  refine va_putF (D := D) (ci := 5) (v := .ref q16) (ty := tyX5 2) (C := RX5) (T := TX5) (N := 18) hx hb hts (by decide +kernel) tyX5 tyX5_ok nmX5 hown hK hP hD hS 0 rfl rfl 2 (by decide) (hts (.fieldLink RX5 13 "TrustedUpdatesModel" "sizes" "[I") (by decide +kernel)) (fun _ h9 => h9) rfl hin rfl (tyX5_ok 2 (by decide)) rfl rfl (Nat.le_of_ble_eq_true rfl) dX5_init_18 (fun H locs hP hD hS => ?_)
  have hP : va_P D vwCl ((((h0, .inr (5, [.int 0, .ref q8, .ref q16, .null, .int 0, .int 0, .int 0, .int 0, .int 0, .int 0, .int 0, .int 0, .int 0, .int 0, .int 0, .null, .null, .int 0])) :: []) ++ [(q8, ia cs.1 1080)]) ++ [(q16, ia cs.1 9)]) H := hP
  have hD : va_D _ ((((h0, .inr (5, [.int 0, .ref q8, .ref q16, .null, .int 0, .int 0, .int 0, .int 0, .int 0, .int 0, .int 0, .int 0, .int 0, .int 0, .int 0, .null, .null, .int 0])) :: []) ++ [(q8, ia cs.1 1080)]) ++ [(q16, ia cs.1 9)]) := hD
  refine lv_aload_n hx hb dX5_init_21 rfl (lv_at hl 0 rfl) ?_
  refine lv_bipush (v := 7) hx hb dX5_init_22 (by decide) ?_
  refine wn_za C hP hD hS hA (hts (.arrayClass .boolean) (by decide +kernel)) (N := 7) (by decide) (by decide) (by decide) (Nat.le_of_ble_eq_true rfl) (Nat.le_of_ble_eq_true rfl) dX5_init_24 (fun q24 H hP hD hS => ?_)
  refine va_putF (D := D) (ci := 5) (v := .ref q24) (ty := tyX5 3) (C := RX5) (T := TX5) (N := 18) hx hb hts (by decide +kernel) tyX5 tyX5_ok nmX5 hown hK hP hD hS 0 rfl rfl 3 (by decide) (hts (.fieldLink RX5 16 "TrustedUpdatesModel" "has" "[Z") (by decide +kernel)) (fun _ h9 => h9) rfl hin rfl (tyX5_ok 3 (by decide)) rfl rfl (Nat.le_of_ble_eq_true rfl) dX5_init_26 (fun H locs hP hD hS => ?_)
  have hP : va_P D vwCl (((((h0, .inr (5, [.int 0, .ref q8, .ref q16, .ref q24, .int 0, .int 0, .int 0, .int 0, .int 0, .int 0, .int 0, .int 0, .int 0, .int 0, .int 0, .null, .null, .int 0])) :: []) ++ [(q8, ia cs.1 1080)]) ++ [(q16, ia cs.1 9)]) ++ [(q24, ia cs.2.1 7)]) H := hP
  have hD : va_D _ (((((h0, .inr (5, [.int 0, .ref q8, .ref q16, .ref q24, .int 0, .int 0, .int 0, .int 0, .int 0, .int 0, .int 0, .int 0, .int 0, .int 0, .int 0, .null, .null, .int 0])) :: []) ++ [(q8, ia cs.1 1080)]) ++ [(q16, ia cs.1 9)]) ++ [(q24, ia cs.2.1 7)]) := hD
  refine lv_aload_n hx hb dX5_init_29 rfl (lv_at hl 0 rfl) ?_
  refine lv_bipush (v := 8) hx hb dX5_init_30 (by decide) ?_
  refine wn_ia C hP hD hS hA (hts (.arrayClass .int) (by decide +kernel)) (N := 8) (by decide) (by decide) (by decide) (Nat.le_of_ble_eq_true rfl) (Nat.le_of_ble_eq_true rfl) dX5_init_32 (fun q32 H hP hD hS => ?_)
  refine va_putF (D := D) (ci := 5) (v := .ref q32) (ty := tyX5 15) (C := RX5) (T := TX5) (N := 18) hx hb hts (by decide +kernel) tyX5 tyX5_ok nmX5 hown hK hP hD hS 0 rfl rfl 15 (by decide) (hts (.fieldLink RX5 20 "TrustedUpdatesModel" "path" "[I") (by decide +kernel)) (fun _ h9 => h9) rfl hin rfl (tyX5_ok 15 (by decide)) rfl rfl (Nat.le_of_ble_eq_true rfl) dX5_init_34 (fun H locs hP hD hS => ?_)
  have hP : va_P D vwCl ((((((h0, .inr (5, [.int 0, .ref q8, .ref q16, .ref q24, .int 0, .int 0, .int 0, .int 0, .int 0, .int 0, .int 0, .int 0, .int 0, .int 0, .int 0, .ref q32, .null, .int 0])) :: []) ++ [(q8, ia cs.1 1080)]) ++ [(q16, ia cs.1 9)]) ++ [(q24, ia cs.2.1 7)]) ++ [(q32, ia cs.1 8)]) H := hP
  have hD : va_D _ ((((((h0, .inr (5, [.int 0, .ref q8, .ref q16, .ref q24, .int 0, .int 0, .int 0, .int 0, .int 0, .int 0, .int 0, .int 0, .int 0, .int 0, .int 0, .ref q32, .null, .int 0])) :: []) ++ [(q8, ia cs.1 1080)]) ++ [(q16, ia cs.1 9)]) ++ [(q24, ia cs.2.1 7)]) ++ [(q32, ia cs.1 8)]) := hD
  refine lv_aload_n hx hb dX5_init_37 rfl (lv_at hl 0 rfl) ?_
  refine lv_bipush (v := 8) hx hb dX5_init_38 (by decide) ?_
  refine wn_ia C hP hD hS hA (hts (.arrayClass .int) (by decide +kernel)) (N := 8) (by decide) (by decide) (by decide) (Nat.le_of_ble_eq_true rfl) (Nat.le_of_ble_eq_true rfl) dX5_init_40 (fun q40 H hP hD hS => ?_)
  refine va_putF (D := D) (ci := 5) (v := .ref q40) (ty := tyX5 16) (C := RX5) (T := TX5) (N := 18) hx hb hts (by decide +kernel) tyX5 tyX5_ok nmX5 hown hK hP hD hS 0 rfl rfl 16 (by decide) (hts (.fieldLink RX5 23 "TrustedUpdatesModel" "going" "[I") (by decide +kernel)) (fun _ h9 => h9) rfl hin rfl (tyX5_ok 16 (by decide)) rfl rfl (Nat.le_of_ble_eq_true rfl) dX5_init_42 (fun H locs hP hD hS => ?_)
  have hP : va_P D vwCl (((((((h0, .inr (5, [.int 0, .ref q8, .ref q16, .ref q24, .int 0, .int 0, .int 0, .int 0, .int 0, .int 0, .int 0, .int 0, .int 0, .int 0, .int 0, .ref q32, .ref q40, .int 0])) :: []) ++ [(q8, ia cs.1 1080)]) ++ [(q16, ia cs.1 9)]) ++ [(q24, ia cs.2.1 7)]) ++ [(q32, ia cs.1 8)]) ++ [(q40, ia cs.1 8)]) H := hP
  have hD : va_D _ (((((((h0, .inr (5, [.int 0, .ref q8, .ref q16, .ref q24, .int 0, .int 0, .int 0, .int 0, .int 0, .int 0, .int 0, .int 0, .int 0, .int 0, .int 0, .ref q32, .ref q40, .int 0])) :: []) ++ [(q8, ia cs.1 1080)]) ++ [(q16, ia cs.1 9)]) ++ [(q24, ia cs.2.1 7)]) ++ [(q32, ia cs.1 8)]) ++ [(q40, ia cs.1 8)]) := hD
  exact wn_ret C hr (L := fun a : Nat → Nat => modL cs h0 a) (fun k => match k with | 0 => q8 | 1 => q16 | 2 => q24 | 3 => q32 | _ => q40) trivial hP hD hS (by decide) (by decide) dX5_init_45
