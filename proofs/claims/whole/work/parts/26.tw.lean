/-! methods that may throw: codes of the exceptions; 0: it returned -/
def exN (c : Nat) : String := if c = 1 then "java/lang/IndexOutOfBoundsException" else if c = 2 then "java/lang/IllegalArgumentException" else if c = 3 then "java/lang/IllegalStateException" else if c = 4 then "java/lang/UnsupportedOperationException" else "java/util/NoSuchElementException"
def xD1 : MethodName := ⟨"java/lang/RuntimeException", "<init>", "()V"⟩
def xD2 : MethodName := ⟨"java/lang/Exception", "<init>", "()V"⟩
def xD3 : MethodName := ⟨"java/lang/Throwable", "<init>", "()V"⟩
def zq (G : GG) (U : State) (H : Heap) : Prop := (gl G).stackTraces = false ∧ vx_Zq Bundle.tN "UNASSIGNED_STACK" Bundle.steD (wA G) U H ∧ vx_Zq Bundle.tN "SUPPRESSED_SENTINEL" Bundle.listD (wA G) U H ∧ (∀ i, va_Nw (.castable (exN i) (exN i)) U) ∧ va_Nw (.declares xD1) U ∧ va_Nw (.declares xD2) U ∧ va_Nw (.declares xD3) U
def wUX (G : GG) (M : Me) (U : State) : Prop := wU G M U ∧ zq G U U.heap
abbrev QiT (G : GG) (y : YT) : Array Value → State → Outcome → State → Prop := va_Qi (fun (r : Int32) (u : Me) => r = y.1.2 ∧ u = y.2 ∧ y.1.1 = 0) (wU G) (wA G)
abbrev QvT (G : GG) (y : YT) : Array Value → State → Outcome → State → Prop := va_Qv (fun (u : Me) => u = y.2 ∧ y.1.1 = 0) (wU G) (wA G)
abbrev XT (G : GG) (y : YT) : String → State → State → Prop := vx_X (fun u : Me => u = y.2 ∧ y.1.1 ≠ 0) (fun E u t => E = exN y.1.1 ∧ wU G u t) (wA G)
abbrev CIT (G : GG) (y : MethodName) (ws : List Cond) (rm : Room) (av : List Value) (M : Me) (yv : YT) (mc ms : Nat) : Prop := vx_Met (gl G) y ws rm (va_Pc av (wUX G M)) (QiT G yv) (XT G yv) mc ms (wA G)
abbrev CVT (G : GG) (y : MethodName) (ws : List Cond) (rm : Room) (av : List Value) (M : Me) (yv : YT) (mc ms : Nat) : Prop := vx_Met (gl G) y ws rm (va_Pc av (wUX G M)) (QvT G yv) (XT G yv) mc ms (wA G)
abbrev xNs : List String := ["java/lang/RuntimeException", "java/lang/Exception"]
theorem zq.calling {G : GG} {U : State} {g : JFrame} {mk : MethodId} {a : Array Value} (h : zq G U U.heap) : zq G (U.calling g mk a) (U.calling g mk a).heap :=
  ⟨h.1, vx_Zq.moved (u := U) (U := U.calling g mk a) (Vm.Alike.refl U.vm) h.2.1, vx_Zq.moved (u := U) (U := U.calling g mk a) (Vm.Alike.refl U.vm) h.2.2.1, fun i => va_tabs rfl (rfl : U.vm = (U.calling g mk a).vm) (h.2.2.2.1 i), va_tabs rfl (rfl : U.vm = (U.calling g mk a).vm) h.2.2.2.2.1, va_tabs rfl (rfl : U.vm = (U.calling g mk a).vm) h.2.2.2.2.2.1, va_tabs rfl (rfl : U.vm = (U.calling g mk a).vm) h.2.2.2.2.2.2⟩
theorem zq.goes {G : GG} {s U : State} {H : Heap} {locs : List Loc} (h : zq G s s.heap) (hS : va_S (wA G) s.heap H locs) (hU : U.heap = H) (hW : s.WarmedH U.vm) : zq G U U.heap := by
  rw [hU]
  exact ⟨h.1, vx_Zq.moved hW.alike (vx_Zq.kept h.2.1 hS.2.1), vx_Zq.moved hW.alike (vx_Zq.kept h.2.2.1 hS.2.1), fun i => va_Nw.warmC hW (h.2.2.2.1 i), va_Nw.warmD hW h.2.2.2.2.1, va_Nw.warmD hW h.2.2.2.2.2.1, va_Nw.warmD hW h.2.2.2.2.2.2⟩
section WT
variable {G : GG} {Ts : List Cond} {own : String} {cc : ByteArray} {nL : Nat} {p : Program} {e : Env} {R : Room} {s : State} {m : MethodId} {args : Array Value} {below : List Frame} {meth : Method} {c : Code} {H : Heap} {locs : List Loc} {cells slots : Nat} {Q : State → Prop} {pc : Nat} {ls : Array Slot} {rest : List Value} {M : Me}
theorem wt_i (C : Cx G Ts own cc nL p s m args meth c) (hr : meth.sig.returnType = some .int) {r : Int32} {yv : YT} {mc ms : Nat} (hW : wH G s M H locs) (h : some (((0 : Nat), r), M) = some yv) (hdg : decode cc pc = .ok (.ireturn, 1)) (hc : cells ≤ mc) (hs : slots ≤ ms) : W p (gl G) e R s m args below meth c H locs cells slots (vx_MQ below (QiT G yv) (XT G yv) args s mc ms (wA G)) (F0 m pc ls [.int r]) := by
  cases h
  obtain ⟨hx, hb, hml, hown, hts, hlk, hK, hz⟩ := C
  obtain ⟨hP, hD, hS⟩ := hW
  refine W.widen hc hs (vx_ret ?_)
  exact W.iret (v := r) hx hb hr (fun t ht hWm => ⟨⟨r, M, rfl, ⟨rfl, rfl, rfl⟩, by rw [ht]; exact Nat.le_trans hz hS.1, by rw [ht]; exact hP, va_K.moved hWm.alike hK, hD⟩, hS.F ht⟩) hS.2.2 hdg
theorem wt_v (C : Cx G Ts own cc nL p s m args meth c) (hr : meth.sig.returnType = none) {yv : YT} {mc ms : Nat} (hW : wH G s M H locs) (h : some (((0 : Nat), (0 : Int32)), M) = some yv) (hdg : decode cc pc = .ok (.return_, 1)) (hc : cells ≤ mc) (hs : slots ≤ ms) : W p (gl G) e R s m args below meth c H locs cells slots (vx_MQ below (QvT G yv) (XT G yv) args s mc ms (wA G)) (F0 m pc ls []) := by
  cases h
  obtain ⟨hx, hb, hml, hown, hts, hlk, hK, hz⟩ := C
  obtain ⟨hP, hD, hS⟩ := hW
  refine W.widen hc hs (vx_ret ?_)
  exact W.vret hx hb hr (fun t ht hWm => ⟨⟨M, rfl, ⟨rfl, rfl⟩, by rw [ht]; exact Nat.le_trans hz hS.1, by rw [ht]; exact hP, va_K.moved hWm.alike hK, hD⟩, hS.F ht⟩) hS.2.2 hdg
/-- throw new E() -/
theorem wt_x (C : Cx G Ts own cc nL p s m args meth c) (hZ : zq G s s.heap) (hE : ∀ x ∈ c.exceptionTable.toList, False) (hW : wH G s M H locs) {Qc : Array Value → State → Outcome → State → Prop} {yv : YT} {mc ms ik ic code : Nat} {cls : String} (hcls : cls = exN code) (hcode : code ≠ 0) (h : some ((code, (0 : Int32)), M) = some yv)
    (hfit : Bundle.fit cls = true) (hk : (Cond.classLink own ik cls).before args s = true) (hini : (Cond.initialized cls).before args s = true) (hin : ∀ w ∈ (vx_at0 own ic cls xNs).filter goodWord, w ∈ Ts) (hno : ∀ w ∈ (vx_at0 own ic cls xNs).filter (fun w => !goodWord w), w ∈ ([.castable cls cls, .declares xD1, .declares xD2, .declares xD3] : List Cond))
    (hgood : ∀ w ∈ Cond.classLink own ik cls :: Cond.initialized cls :: vx_at0 own ic cls xNs, vx_ot w = true) (hsize : ls.size = nL)
    (d0 : decode cc pc = .ok (.new ik, 3)) (d3 : decode cc (pc + 3) = .ok (.dup, 1)) (d4 : decode cc (pc + 4) = .ok (.invokespecial ic, 3)) (d7 : decode cc (pc + 7) = .ok (.athrow, 1))
    (hRf : 5 < R.frames) (hRl : (rest.map fun v => v.category).sum + 81 ≤ R.locals) (hRc : cells + 1 ≤ R.cells) (hRs : slots + 6 ≤ R.slots) (hc : cells + 1 ≤ mc) (hs : slots + 6 ≤ ms) :
    W p (gl G) e R s m args below meth c H locs cells slots (vx_MQ below Qc (XT G yv) args s mc ms (wA G)) (F0 m pc ls rest) := by
  cases h
  subst hcls
  obtain ⟨hx, hb, hml, hown, hts, hlk, hK, hz⟩ := C
  obtain ⟨hP, hD, hS⟩ := hW
  refine vx_throw0 (A := wA G) hx hb hZ.1 hown hfit (by decide +kernel) hk hini (vx_hat (fun w hw => hts w (hin w hw)) hno (vx_c (va_Nw.use rfl (hZ.2.2.2.1 code)) (vx_c (va_Nw.use rfl hZ.2.2.2.2.1) (vx_c (va_Nw.use rfl hZ.2.2.2.2.2.1) (vx_c (va_Nw.use rfl hZ.2.2.2.2.2.2) vx_n))))) hgood hZ.2.1 hZ.2.2.1 hS (hsize.trans hml.symm) d0 d3 d4 d7 (fun x hx => (hE x hx).elim) hRf hRl hRc hRs hlk (fun t ha h1 h2 => ?_) hS.2.2 hc hs
  refine ⟨M, ⟨rfl, hcode⟩, ⟨rfl, Nat.le_trans (Nat.le_trans hz hS.1) h1, fun k q hk => va_at.kept (hP k q hk) (h2 _ (vx_lt hP hk)), va_K.moved ha hK, hD⟩, Nat.le_trans hS.1 h1, fun q hq hA => ?_⟩
  rw [h2 q (Nat.lt_of_lt_of_le hq hS.1)]
  exact hS.2.1 q hq hA
/-- what a callee threw goes on to the caller -/
theorem wt_p (C : Cx G Ts own cc nL p s m args meth c) (hE : ∀ x ∈ c.exceptionTable.toList, False) (hW : wH G s M H locs) {Qc : Array Value → State → Outcome → State → Prop} {yv : YT} {mc ms code : Nat} {E : String} {ce : Cell} {q9 : Addr} (he : E = exN code) (hcode : code ≠ 0) (h : some ((code, (0 : Int32)), M) = some yv)
    (hcell : H[q9]? = some ce) (hv : ce.vm = .none) (hcl : s.vm.findClass E = some ce.cls) (hc : cells ≤ mc) (hs : slots ≤ ms) :
    vx_W p (gl G) e R s m args below meth c H locs cells slots (vx_MQ below Qc (XT G yv) args s mc ms (wA G)) (F0 m pc ls rest) q9 := by
  cases h
  subst he
  obtain ⟨hx, hb, hml, hown, hts, hlk, hK, hz⟩ := C
  obtain ⟨hP, hD, hS⟩ := hW
  exact vx_out (fun x hx => (hE x hx).elim) hlk hcell hv hcl (fun t ht ha => ⟨M, ⟨rfl, hcode⟩, ⟨rfl, by rw [ht]; exact Nat.le_trans hz hS.1, by rw [ht]; exact hP, va_K.moved ha hK, hD⟩, hS.F ht⟩) hS.2.2 hc hs
theorem wct_Vv (C : Cx G Ts own cc nL p s m args meth c) (hZ : zq G s s.heap) (hW : wH G s M H locs) {y : MethodName} {ws : List Cond} {rm : Room} {As : List Value} {yv : YT} {mc ms : Nat} {k ci N index maxL n : Nat} {Cn : String} {T : u_T} {bytes : ByteArray} {ret : Option FieldType} {st0 : List Value}
    (hM : CVT G y ws rm (.ref (ga G k) :: As) M yv mc ms) (hk : isK k ci) (hc : vwCl[ci]? = some (Cn, T, N)) (hci : ci < 6) (cw : CallW R s args own Cn index y bytes maxL ret ws rm mc ms n) (hn : As.length = n) (hsize : ls.size = nL) (hst : st0 = As.reverse ++ .ref (ga G k) :: rest) (hsum : (rest.map fun v => v.category).sum ≤ 8) (hdg : decode cc pc = .ok (.invokevirtual index, 3)) (hf : cells + mc ≤ R.cells ∧ slots + ms ≤ R.slots)
    (kx : ∀ (E : String) (ce : Cell) (q9 : Addr) (H1 : Heap) (locs1 : List Loc), yv.1.1 ≠ 0 → E = exN yv.1.1 → wH G s yv.2 H1 locs1 → H1[q9]? = some ce → ce.vm = .none → s.vm.findClass E = some ce.cls → vx_W p (gl G) e R s m args below meth c H1 locs1 (cells + mc) (slots + ms) Q (F0 m pc ls rest) q9)
    (kk : ∀ (H1 : Heap) (locs1 : List Loc), yv.1.1 = 0 → wH G s yv.2 H1 locs1 → W p (gl G) e R s m args below meth c H1 locs1 (cells + mc) (slots + ms) Q (F0 m (pc + 3) ls rest)) : W p (gl G) e R s m args below meth c H locs cells slots Q (F0 m pc ls st0) := by
  subst hst
  obtain ⟨hx, hb, hml, hown, hts, hlk, hK, hz⟩ := C
  obtain ⟨hP, hD, hS⟩ := hW
  refine vx_callv (vx_runV (As := As) (rest := rest) ⟨hx, hb, hml, hown, hts⟩ hM cw ⟨fun a U g mk q => ⟨q.1, ⟨q.2.1.1, q.2.1.2.1, va_K.moved (u := U) (U := U.calling g mk a) (Vm.Alike.refl U.vm) q.2.1.2.2.1, q.2.1.2.2.2⟩, zq.calling q.2.2⟩, va_recv hK hP hc (ww_ob hk hci), fun U hU hWm => ⟨rfl, ⟨by rw [hU]; exact Nat.le_trans hz hS.1, by rw [hU]; exact hP, va_K.moved hWm.alike hK, hD⟩, zq.goes hZ hS hU hWm⟩⟩ rfl hn hsize rfl (lv_room hsum) hdg hf) hS (fun q _ h => h) (fun q h => h) (fun q _ h => h) (fun E ce q9 u t H1 locs1 ht hvm hw hB hz1 hk1 hS1 h1 h2 h3 => ?_) (fun u t H1 locs1 ht hvm hw hB hz1 hk1 hS1 => ?_)
  · obtain ⟨rfl, hne⟩ := hw
    obtain ⟨he, b0, b1, b2, b3⟩ := hB
    rw [ht] at b1
    exact kx E ce q9 H1 locs1 hne he ⟨b1, b3, hS1⟩ h1 h2 h3
  · obtain ⟨rfl, h0⟩ := hw
    obtain ⟨b0, b1, b2, b3⟩ := hB
    rw [ht] at b1
    exact kk H1 locs1 h0 ⟨b1, b3, hS1⟩
theorem wct_Vi (C : Cx G Ts own cc nL p s m args meth c) (hZ : zq G s s.heap) (hW : wH G s M H locs) {y : MethodName} {ws : List Cond} {rm : Room} {As : List Value} {yv : YT} {mc ms : Nat} {k ci N index maxL n : Nat} {Cn : String} {T : u_T} {bytes : ByteArray} {ret : Option FieldType} {st0 : List Value}
    (hM : CIT G y ws rm (.ref (ga G k) :: As) M yv mc ms) (hk : isK k ci) (hc : vwCl[ci]? = some (Cn, T, N)) (hci : ci < 6) (cw : CallW R s args own Cn index y bytes maxL ret ws rm mc ms n) (hn : As.length = n) (hsize : ls.size = nL) (hst : st0 = As.reverse ++ .ref (ga G k) :: rest) (hsum : (rest.map fun v => v.category).sum ≤ 8) (hdg : decode cc pc = .ok (.invokevirtual index, 3)) (hf : cells + mc ≤ R.cells ∧ slots + ms ≤ R.slots)
    (kx : ∀ (E : String) (ce : Cell) (q9 : Addr) (H1 : Heap) (locs1 : List Loc), yv.1.1 ≠ 0 → E = exN yv.1.1 → wH G s yv.2 H1 locs1 → H1[q9]? = some ce → ce.vm = .none → s.vm.findClass E = some ce.cls → vx_W p (gl G) e R s m args below meth c H1 locs1 (cells + mc) (slots + ms) Q (F0 m pc ls rest) q9)
    (kk : ∀ (H1 : Heap) (locs1 : List Loc), yv.1.1 = 0 → wH G s yv.2 H1 locs1 → W p (gl G) e R s m args below meth c H1 locs1 (cells + mc) (slots + ms) Q (F0 m (pc + 3) ls (.int yv.1.2 :: rest))) : W p (gl G) e R s m args below meth c H locs cells slots Q (F0 m pc ls st0) := by
  subst hst
  obtain ⟨hx, hb, hml, hown, hts, hlk, hK, hz⟩ := C
  obtain ⟨hP, hD, hS⟩ := hW
  refine vx_calli (vx_runV (As := As) (rest := rest) ⟨hx, hb, hml, hown, hts⟩ hM cw ⟨fun a U g mk q => ⟨q.1, ⟨q.2.1.1, q.2.1.2.1, va_K.moved (u := U) (U := U.calling g mk a) (Vm.Alike.refl U.vm) q.2.1.2.2.1, q.2.1.2.2.2⟩, zq.calling q.2.2⟩, va_recv hK hP hc (ww_ob hk hci), fun U hU hWm => ⟨rfl, ⟨by rw [hU]; exact Nat.le_trans hz hS.1, by rw [hU]; exact hP, va_K.moved hWm.alike hK, hD⟩, zq.goes hZ hS hU hWm⟩⟩ rfl hn hsize rfl (lv_room hsum) hdg hf) hS (fun q _ h => h) (fun q h => h) (fun q _ h => h) (fun E ce q9 u t H1 locs1 ht hvm hw hB hz1 hk1 hS1 h1 h2 h3 => ?_) (fun r u t H1 locs1 ht hvm hw hB hz1 hk1 hS1 => ?_)
  · obtain ⟨rfl, hne⟩ := hw
    obtain ⟨he, b0, b1, b2, b3⟩ := hB
    rw [ht] at b1
    exact kx E ce q9 H1 locs1 hne he ⟨b1, b3, hS1⟩ h1 h2 h3
  · obtain ⟨rfl, rfl, h0⟩ := hw
    obtain ⟨b0, b1, b2, b3⟩ := hB
    rw [ht] at b1
    exact kk H1 locs1 h0 ⟨b1, b3, hS1⟩
end WT
theorem co_t {G : GG} {y : MethodName} {ws ws' : List Cond} {rm : Room} {cc : ByteArray} {maxL mc ms : Nat} {ret : Option FieldType} {own : String} {av : List Value} {M : Me} {Qc : Array Value → State → Outcome → State → Prop} {XC : String → State → State → Prop}
    (hy : plainName y.cls = true) (hw : ws = Cond.code y cc maxL ret :: ws') (hown : y.cls = own) (hlen : (lg_sl av).length ≤ maxL)
    (body : ∀ (p : Program) (e : Env) (s : State) (m : MethodId) (below : List Frame) (meth : Method) (c : Code) (ls : Array Slot), Cx G ws own cc maxL p s m av.toArray meth c → zq G s s.heap → (∀ x ∈ c.exceptionTable.toList, False) → meth.sig.returnType = ret → wH G s M s.heap [] → lv_has ls maxL (lv_args 0 av) →
      W p (gl G) e rm s m av.toArray below meth c s.heap [] 0 0 (vx_MQ below Qc XC av.toArray s mc ms (wA G)) (F0 m 0 ls [])) : vx_Met (gl G) y ws rm (va_Pc av (wUX G M)) Qc XC mc ms (wA G) := by
  refine vx_ofW (cc := cc) (maxL := maxL) (ret := ret) hy hw ?_
  intro p e s m args below meth c s₁ B hml hE hv
  obtain ⟨rfl, ⟨hz, hP, hK, hD⟩, hZ⟩ := hv
  have hl := lv_entry av (n := maxL) hlen
  rw [lg_entry_eq]
  generalize (lg_sl av ++ List.replicate (maxL - (lg_sl av).length) Slot.unset).toArray = ls at hl ⊢
  subst hown
  exact body p e s m below meth c ls ⟨B.exec, B.bytes, hml, findClass_of_methodNamed B.named, atoms_spec (ws := ws) B.pre, B.notSynchronized, hK, hz⟩ hZ hE B.returns ⟨hP, hD, va_S.rf⟩ hl
