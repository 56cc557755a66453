/-! the law's own methods, which catch -/
def zN (U : State) : Prop := ∀ i j : Nat, i < 6 → j < 6 → 0 < i → 0 < j → i ≠ j → va_Nc (exN i) (exN j) U
def wUL (G : GG) (M : Me) (U : State) : Prop := wUX G M U ∧ zN U
abbrev CL (G : GG) (y : MethodName) (ws : List Cond) (rm : Room) (av : List Value) (M : Me) (yv : Int32 × Me) (mc ms : Nat) : Prop := Met (gl G) y ws rm (va_Pc av (wUL G M)) (Qi G yv) mc ms (wA G)
theorem zN.moved {u U : State} (hvm : u.vm.Alike U.vm) (h : zN u) : zN U := fun i j h1 h2 h3 h4 h5 => by
  obtain ⟨c, t, a, b, d⟩ := h i j h1 h2 h3 h4 h5
  exact ⟨c, t, by rw [hvm.findClass]; exact a, by rw [hvm.findClass]; exact b, by rw [hvm.assignable]; exact d⟩
theorem co_l {G : GG} {y : MethodName} {ws ws' : List Cond} {rm : Room} {cc : ByteArray} {maxL mc ms : Nat} {ret : Option FieldType} {own : String} {av : List Value} {M : Me} {Qc : Array Value → State → Outcome → State → Prop} {hh : List (Nat × Nat × Nat × Nat)}
    (hy : plainName y.cls = true) (hw : ws = Cond.codeWith y cc maxL ret hh :: ws') (hown : y.cls = own) (hlen : (lg_sl av).length ≤ maxL)
    (body : ∀ (p : Program) (e : Env) (s : State) (m : MethodId) (below : List Frame) (meth : Method) (c : Code) (ls : Array Slot), Cx G ws own cc maxL p s m av.toArray meth c → zq G s s.heap → zN s → c.exceptionTable.toList = tableOf hh → meth.sig.returnType = ret → wH G s M s.heap [] → lv_has ls maxL (lv_args 0 av) →
      W p (gl G) e rm s m av.toArray below meth c s.heap [] 0 0 (MQ below Qc av.toArray s mc ms (wA G)) (F0 m 0 ls [])) : Met (gl G) y ws rm (va_Pc av (wUL G M)) Qc mc ms (wA G) := by
  refine va_MetW (cc := cc) (maxL := maxL) (ret := ret) hy hw ?_
  intro p e s m args below meth c s₁ B hml hv
  obtain ⟨rfl, ⟨⟨hz, hP, hK, hD⟩, hZ⟩, hN⟩ := hv
  have hl := lv_entry av (n := maxL) hlen
  rw [lg_entry_eq]
  generalize (lg_sl av ++ List.replicate (maxL - (lg_sl av).length) Slot.unset).toArray = ls at hl ⊢
  subst hown
  have hts := atoms_spec (ws := ws) B.pre
  exact body p e s m below meth c ls ⟨B.exec, B.bytes, hml, findClass_of_methodNamed B.named, hts, B.notSynchronized, hK, hz⟩ hZ hN (vx_table (x := y) B (hts _ (by rw [hw]; exact List.mem_cons_self))) B.returns ⟨hP, hD, va_S.rf⟩ hl
section WL
variable {G : GG} {Ts : List Cond} {own : String} {cc : ByteArray} {nL : Nat} {p : Program} {e : Env} {R : Room} {s : State} {m : MethodId} {args : Array Value} {below : List Frame} {meth : Method} {c : Code} {H : Heap} {locs : List Loc} {cells slots : Nat} {Q : State → Prop} {pc : Nat} {ls : Array Slot} {rest : List Value} {M : Me}
theorem wcl_S (C : Cx G Ts own cc nL p s m args meth c) (hZ : zq G s s.heap) (hN : zN s) (hW : wH G s M H locs) {y : MethodName} {ws : List Cond} {rm : Room} {As : List Value} {yv : Int32 × Me} {mc ms index maxL n : Nat} {bytes : ByteArray} {ret : Option FieldType} {hh : List (Nat × Nat × Nat × Nat)} {st0 : List Value}
    (hM : CL G y ws rm As M yv mc ms) (cw : vx_CSW R s args own index y bytes maxL ret hh ws rm mc ms n) (hn : As.length = n) (hsize : ls.size = nL) (hst : st0 = As.reverse ++ rest) (hsum : (rest.map fun v => v.category).sum ≤ 8) (hdg : decode cc pc = .ok (.invokestatic index, 3)) (hf : cells + mc ≤ R.cells ∧ slots + ms ≤ R.slots)
    (kk : ∀ (H1 : Heap) (locs1 : List Loc), wH G s yv.2 H1 locs1 → W p (gl G) e R s m args below meth c H1 locs1 (cells + mc) (slots + ms) Q (F0 m (pc + 3) ls (.int yv.1 :: rest))) : W p (gl G) e R s m args below meth c H locs cells slots Q (F0 m pc ls st0) := by
  subst hst
  obtain ⟨hx, hb, hml, hown, hts, hlk, hK, hz⟩ := C
  obtain ⟨hP, hD, hS⟩ := hW
  refine va_calli (vx_runSW (As := As) (rest := rest) ⟨hx, hb, hml, hown, hts⟩ hM cw ⟨fun a U g mk q => ⟨q.1, ⟨⟨q.2.1.1.1, q.2.1.1.2.1, va_K.moved (u := U) (U := U.calling g mk a) (Vm.Alike.refl U.vm) q.2.1.1.2.2.1, q.2.1.1.2.2.2⟩, zq.calling q.2.1.2⟩, zN.moved (u := U) (U := U.calling g mk a) (Vm.Alike.refl U.vm) q.2.2⟩, fun U hU hWm => ⟨rfl, ⟨⟨by rw [hU]; exact Nat.le_trans hz hS.1, by rw [hU]; exact hP, va_K.moved hWm.alike hK, hD⟩, zq.goes hZ hS hU hWm⟩, zN.moved hWm.alike hN⟩⟩ rfl hn hsize rfl (lv_room hsum) hdg hf) hS (fun q _ h => h) (fun q h => h) (fun r u t H1 locs1 ht hvm hw hB hz1 hk1 hS1 => ?_)
  obtain ⟨rfl, rfl⟩ := hw
  obtain ⟨b0, b1, b2, b3⟩ := hB
  rw [ht] at b1
  exact kk H1 locs1 ⟨b1, b3, hS1⟩
end WL
