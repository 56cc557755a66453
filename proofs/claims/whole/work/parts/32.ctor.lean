def zr : Nat → Int32 := fun _ => 0
def ia (cI : ClassId) (n : Nat) : va_E := .inl (cI, n, .inl zr)
abbrev Cs : Type := ClassId × ClassId × ClassId × ClassId
def kT (cs : Cs) : List (ClassId × FieldType) := [(cs.1, .int), (cs.2.1, .boolean), (cs.2.2.1, .long), (cs.2.2.2, .object RX0)]
abbrev iPre (D : va_G) (cs : Cs) (sz : Nat) (w : va_W) (U : State) : Prop := U.heap.size = sz ∧ va_P D vwCl w U.heap ∧ va_K D vwCl (kT cs) U ∧ va_AO RX0 U ∧ va_D (fun _ => True) w
abbrev iPost (D : va_G) (cs : Cs) (A : Nat → Prop) (w : va_W) (t : State) : Prop := va_P D vwCl w t.heap ∧ va_K D vwCl (kT cs) t ∧ va_D A w
abbrev CN (l : Launch) (y : MethodName) (ws : List Cond) (rm : Room) (av : List Value) (D : va_G) (cs : Cs) (sz : Nat) (w0 : va_W) {S : Type} (post : S → Prop) (L : S → va_W) (mc ms : Nat) : Prop :=
  Met l y ws rm (va_Pc av (iPre D cs sz w0)) (va_Qv post (fun u t => iPost D cs (va_A w0 sz) (L u) t) (va_A w0 sz)) mc ms (va_A w0 sz)
def Cn (ws : List Cond) (own : String) (cc : ByteArray) (nL : Nat) (D : va_G) (cs : Cs) (p : Program) (s : State) (m : MethodId) (args : Array Value) (meth : Method) (c : Code) : Prop :=
  p.tables.exec = Jvm.exec ∧ c.code = cc ∧ c.maxLocals = nL ∧ s.vm.findClass own = some m.cls ∧ (∀ w ∈ ws, w.before args s = true) ∧ meth.locks = false ∧ va_K D vwCl (kT cs) s ∧ va_AO RX0 s
/-- a callee's cells come back, the others are as they were -/
theorem jn {A : Nat → Prop} {D : va_G} {cl : List vw_C} {wr wc w1 : va_W} {H H1 : Heap} (hP : va_P D cl (wr ++ wc) H) (hD : va_D A (wr ++ wc)) (hk : ∀ q : Nat, q < H.size → ¬ va_A wc H.size q → H1[q]? = H[q]?) (hF : ∀ q, va_A wc H.size q → A q) (hP1 : va_P D cl w1 H1) (hD1 : va_D (va_A wc H.size) w1) :
    va_P D cl (wr ++ w1) H1 ∧ va_D A (wr ++ w1) := by
  have old : ∀ (k : Nat) (q : Nat × va_E), wr[k]? = some q → q.1 < H.size ∧ ¬ va_A wc H.size q.1 := by
    intro k q hq
    have hkl : k < wr.length := (List.getElem?_eq_some_iff.mp hq).1
    have hq2 : (wr ++ wc)[k]? = some q := by rw [List.getElem?_append_left hkl]; exact hq
    refine ⟨vx_lt hP hq2, fun z => ?_⟩
    rcases z with ⟨j, e, hj⟩ | z
    · have hj2 : (wr ++ wc)[wr.length + j]? = some (q.1, e) := by rw [List.getElem?_append_right (by omega), Nat.add_sub_cancel_left]; exact hj
      have := hD.1 k (wr.length + j) q (q.1, e) hq2 hj2 rfl
      omega
    · exact Nat.lt_irrefl _ (Nat.lt_of_lt_of_le (vx_lt hP hq2) z)
  have sp : ∀ (k : Nat) (q : Nat × va_E), (wr ++ w1)[k]? = some q → (wr[k]? = some q ∧ k < wr.length) ∨ (w1[k - wr.length]? = some q ∧ wr.length ≤ k) := by
    intro k q hq
    rcases Nat.lt_or_ge k wr.length with h | h
    · rw [List.getElem?_append_left h] at hq; exact Or.inl ⟨hq, h⟩
    · rw [List.getElem?_append_right h] at hq; exact Or.inr ⟨hq, h⟩
  refine ⟨fun k q hq => ?_, fun i j p q hp hq e => ?_, fun k q hq => ?_⟩
  · rcases sp k q hq with ⟨h, hl⟩ | ⟨h, hl⟩
    · obtain ⟨h1, h2⟩ := old k q h
      exact va_at.kept (hP k q (by rw [List.getElem?_append_left hl]; exact h)) (hk _ h1 h2)
    · exact hP1 _ q h
  · rcases sp i p hp with ⟨h, hl⟩ | ⟨h, hl⟩ <;> rcases sp j q hq with ⟨h', hl'⟩ | ⟨h', hl'⟩
    · exact hD.1 i j p q (by rw [List.getElem?_append_left hl]; exact h) (by rw [List.getElem?_append_left hl']; exact h') e
    · exact absurd (by rw [e]; exact hD1.2 _ q h') (old i p h).2
    · exact absurd (by rw [← e]; exact hD1.2 _ p h) (old j q h').2
    · have := hD1.1 _ _ p q h h' e
      omega
  · rcases sp k q hq with ⟨h, hl⟩ | ⟨h, hl⟩
    · exact hD.2 k q (by rw [List.getElem?_append_left hl]; exact h)
    · exact hF _ (hD1.2 _ q h)
theorem jn_free {A : Nat → Prop} {wr wc : va_W} {H0 H : Heap} {locs : List Loc} (hD : va_D A (wr ++ wc)) (hS : va_S A H0 H locs) (hA : ∀ q, H0.size ≤ q → A q) : ∀ q, va_A wc H.size q → A q := by
  intro q z
  rcases z with ⟨j, e, hj⟩ | z
  · exact hD.2 (wr.length + j) (q, e) (by rw [List.getElem?_append_right (by omega), Nat.add_sub_cancel_left]; exact hj)
  · exact hA q (Nat.le_trans hS.1 z)
section CT
variable {Ts : List Cond} {own : String} {cc : ByteArray} {nL : Nat} {D : va_G} {cs : Cs} {p : Program} {l : Launch} {e : Env} {R : Room} {s : State} {m : MethodId} {args : Array Value} {below : List Frame} {meth : Method} {c : Code} {H0 H : Heap} {locs : List Loc} {cells slots : Nat} {Q : State → Prop} {pc : Nat} {ls : Array Slot} {rest : List Value} {A : Nat → Prop} {ws : va_W}
/-- new int[N] -/
theorem wn_ia (C : Cn Ts own cc nL D cs p s m args meth c) (hP : va_P D vwCl ws H) (hD : va_D A ws) (hS : va_S A H0 H locs) (hA : ∀ q, H0.size ≤ q → A q) (harr : (Cond.arrayClass .int).before args s = true) {n : Int32} {N : Nat} (hn : ¬ n < 0) (hN : n.toNatClampNeg = N) (hbytes : N * componentBytes .int ≤ 536870912) (hcells : cells + 1 ≤ R.cells) (hslots : slots + N ≤ R.slots) (hdg : decode cc pc = .ok (.newarray .int, 2))
    (kk : ∀ (q : Nat) (H1 : Heap), va_P D vwCl (ws ++ [(q, ia cs.1 N)]) H1 → va_D A (ws ++ [(q, ia cs.1 N)]) → va_S A H0 H1 locs → W p l e R s m args below meth c H1 locs (cells + 1) (slots + N) Q (F0 m (pc + 2) ls (.ref q :: rest))) : W p l e R s m args below meth c H locs cells slots Q (F0 m pc ls (.int n :: rest)) := by
  obtain ⟨hx, hb, hml, hown, hts, hlk, hK, hO⟩ := C
  refine va_newa (atype := .int) (ty := .int) (a0 := (N, .inl zr)) hx hb harr rfl hK hP hD hS hA (fun cA => rfl) hn hN hbytes hcells hslots hdg (fun q cA H1 hK1 hP1 hD1 hS1 => ?_)
  have h1 := (hK1.2 4 (cA, .int) rfl).2
  have h2 := (hK.2 0 (cs.1, .int) rfl).2
  have e1 : cA = cs.1 := Option.some.inj (h1.symm.trans h2)
  subst e1
  exact kk q H1 hP1 hD1 hS1
theorem wn_za (C : Cn Ts own cc nL D cs p s m args meth c) (hP : va_P D vwCl ws H) (hD : va_D A ws) (hS : va_S A H0 H locs) (hA : ∀ q, H0.size ≤ q → A q) (harr : (Cond.arrayClass .boolean).before args s = true) {n : Int32} {N : Nat} (hn : ¬ n < 0) (hN : n.toNatClampNeg = N) (hbytes : N * componentBytes .boolean ≤ 536870912) (hcells : cells + 1 ≤ R.cells) (hslots : slots + N ≤ R.slots) (hdg : decode cc pc = .ok (.newarray .boolean, 2))
    (kk : ∀ (q : Nat) (H1 : Heap), va_P D vwCl (ws ++ [(q, ia cs.2.1 N)]) H1 → va_D A (ws ++ [(q, ia cs.2.1 N)]) → va_S A H0 H1 locs → W p l e R s m args below meth c H1 locs (cells + 1) (slots + N) Q (F0 m (pc + 2) ls (.ref q :: rest))) : W p l e R s m args below meth c H locs cells slots Q (F0 m pc ls (.int n :: rest)) := by
  obtain ⟨hx, hb, hml, hown, hts, hlk, hK, hO⟩ := C
  refine va_newa (atype := .boolean) (ty := .boolean) (a0 := (N, .inl zr)) hx hb harr rfl hK hP hD hS hA (fun cA => rfl) hn hN hbytes hcells hslots hdg (fun q cA H1 hK1 hP1 hD1 hS1 => ?_)
  have h1 := (hK1.2 4 (cA, .boolean) rfl).2
  have h2 := (hK.2 1 (cs.2.1, .boolean) rfl).2
  have e1 : cA = cs.2.1 := Option.some.inj (h1.symm.trans h2)
  subst e1
  exact kk q H1 hP1 hD1 hS1
theorem wn_qa (C : Cn Ts own cc nL D cs p s m args meth c) (hP : va_P D vwCl ws H) (hD : va_D A ws) (hS : va_S A H0 H locs) (hA : ∀ q, H0.size ≤ q → A q) {index : Nat} (hlink : (Cond.classLink own index RX0).before args s = true) {n : Int32} {N : Nat} (hn : ¬ n < 0) (hN : n.toNatClampNeg = N) (hbytes : N * 4 ≤ 536870912) (hcells : cells + 1 ≤ R.cells) (hslots : slots + N ≤ R.slots) (hdg : decode cc pc = .ok (.anewarray index, 3))
    (kk : ∀ (q : Nat) (H1 : Heap), va_P D vwCl (ws ++ [(q, .inl (cs.2.2.2, N, .inr (.inr (.inr (.inr (fun _ => none))))))]) H1 → va_D A (ws ++ [(q, .inl (cs.2.2.2, N, .inr (.inr (.inr (.inr (fun _ => none))))))]) → va_S A H0 H1 locs → W p l e R s m args below meth c H1 locs (cells + 1) (slots + N) Q (F0 m (pc + 3) ls (.ref q :: rest))) : W p l e R s m args below meth c H locs cells slots Q (F0 m pc ls (.int n :: rest)) := by
  obtain ⟨hx, hb, hml, hown, hts, hlk, hK, hO⟩ := C
  refine va_newq hx hb hown hlink hO hK hP hD hS hA hn hN hbytes hcells hslots hdg (fun q cA H1 hK1 hP1 hD1 hS1 => ?_)
  obtain ⟨k1, c1, -, -, -, h1⟩ := (hK1.2 4 (cA, .object RX0) rfl).2
  obtain ⟨k2, c2, -, -, -, h2⟩ := (hK.2 3 (cs.2.2.2, .object RX0) rfl).2
  have e1 : cA = cs.2.2.2 := Option.some.inj (h1.symm.trans h2)
  subst e1
  exact kk q H1 hP1 hD1 hS1
/-- the constructor of a new object, which stands last -/
theorem wn_in (C : Cn Ts own cc nL D cs p s m args meth c) {q : Nat} {e0 : va_E} (hP : va_P D vwCl (ws ++ [(q, e0)]) H) (hD : va_D A (ws ++ [(q, e0)])) (hS : va_S A H0 H locs) (hA : ∀ q, H0.size ≤ q → A q) {y : MethodName} {ws' : List Cond} {rm : Room} {As : List Value} {S : Type} {post : S → Prop} {L : S → va_W} {mc ms index maxL n : Nat} {bytes : ByteArray} {st0 : List Value}
    (hM : CN l y ws' rm (.ref q :: As) D cs H.size [(q, e0)] post L mc ms) (cw : CallB R s args own index y bytes maxL none ws' rm mc ms n ∧ y.name = "<init>" ∧ (Cond.instanceMethod y).before args s = true) (hn : As.length = n) (hsize : ls.size = nL) (hst : st0 = As.reverse ++ .ref q :: rest) (hsum : (rest.map fun v => v.category).sum ≤ 8) (hdg : decode cc pc = .ok (.invokespecial index, 3)) (hf : cells + mc ≤ R.cells ∧ slots + ms ≤ R.slots)
    (kk : ∀ (u : S) (H1 : Heap) (locs1 : List Loc), post u → va_P D vwCl (ws ++ L u) H1 → va_D A (ws ++ L u) → va_S A H0 H1 locs1 → W p l e R s m args below meth c H1 locs1 (cells + mc) (slots + ms) Q (F0 m (pc + 3) ls rest)) : W p l e R s m args below meth c H locs cells slots Q (F0 m pc ls st0) := by
  subst hst
  obtain ⟨hx, hb, hml, hown, hts, hlk, hK, hO⟩ := C
  have hF := jn_free hD hS hA
  have hPc : va_P D vwCl [(q, e0)] H := fun k z hz => hP (ws.length + k) z (by rw [List.getElem?_append_right (by omega), Nat.add_sub_cancel_left]; exact hz)
  have hDc : va_D (fun _ => True) [(q, e0)] := ⟨fun i j a b h1 h2 _ => by
    have := (List.getElem?_eq_some_iff.mp h1).1
    have := (List.getElem?_eq_some_iff.mp h2).1
    simp at *
    omega, fun _ _ _ => trivial⟩
  refine va_callv (va_runI (As := As) (rest := rest) ⟨hx, hb, hml, hown, hts⟩ hM cw ⟨fun a U g mk z => ⟨z.1, z.2.1, z.2.2.1, va_K.moved (u := U) (U := U.calling g mk a) (Vm.Alike.refl U.vm) z.2.2.2.1, va_AO.moved (u := U) (U := U.calling g mk a) (Vm.Alike.refl U.vm) z.2.2.2.2.1, z.2.2.2.2.2⟩, fun U hU hWm => ⟨rfl, by rw [hU], by rw [hU]; exact hPc, va_K.moved hWm.alike hK, va_AO.moved hWm.alike hO, hDc⟩⟩ rfl hn hsize rfl (lv_room hsum) hdg hf) hS (fun q _ h => hF q h) hF (fun u t H1 locs1 ht hvm hw hB hz1 hk1 hS1 => ?_)
  obtain ⟨b1, b2, b3⟩ := hB
  rw [ht] at b1
  obtain ⟨hP1, hD1⟩ := jn hP hD hk1 hF b1 b3
  exact kk u H1 locs1 hw hP1 hD1 hS1
theorem wn_ret (C : Cn Ts own cc nL D cs p s m args meth c) (hr : meth.sig.returnType = none) {S : Type} {post : S → Prop} {L : S → va_W} (u : S) (hu : post u) (hP : va_P D vwCl (L u) H) (hD : va_D A (L u)) (hS : va_S A s.heap H locs) {mc ms : Nat} (hc : cells ≤ mc) (hs : slots ≤ ms) (hdg : decode cc pc = .ok (.return_, 1)) : W p l e R s m args below meth c H locs cells slots (MQ below (va_Qv post (fun u t => iPost D cs A (L u) t) A) args s mc ms A) (F0 m pc ls []) := by
  obtain ⟨hx, hb, hml, hown, hts, hlk, hK, hO⟩ := C
  refine W.widen hc hs ?_
  exact W.vret hx hb hr (fun t ht hWm => ⟨⟨u, rfl, hu, by rw [ht]; exact hP, va_K.moved hWm.alike hK, hD⟩, hS.F ht⟩) hS.2.2 hdg
end CT
theorem cn_o {l : Launch} {y : MethodName} {ws ws' : List Cond} {rm : Room} {cc : ByteArray} {maxL mc ms sz : Nat} {own : String} {av : List Value} {D : va_G} {cs : Cs} {w0 : va_W} {S : Type} {post : S → Prop} {L : S → va_W}
    (hy : plainName y.cls = true) (hw : ws = Cond.code y cc maxL none :: ws') (hown : y.cls = own) (hlen : (lg_sl av).length ≤ maxL) (hnm : y.name = "<init>")
    (body : ∀ (p : Program) (e : Env) (s : State) (m : MethodId) (below : List Frame) (meth : Method) (c : Code) (ls : Array Slot), Cn ws own cc maxL D cs p s m av.toArray meth c → meth.name = "<init>" → meth.sig.returnType = none → (∀ q, s.heap.size ≤ q → va_A w0 s.heap.size q) → va_P D vwCl w0 s.heap → va_D (va_A w0 s.heap.size) w0 → lv_has ls maxL (lv_args 0 av) →
      W p l e rm s m av.toArray below meth c s.heap [] 0 0 (MQ below (va_Qv post (fun u t => iPost D cs (va_A w0 s.heap.size) (L u) t) (va_A w0 s.heap.size)) av.toArray s mc ms (va_A w0 s.heap.size)) (F0 m 0 ls [])) : CN l y ws rm av D cs sz w0 post L mc ms := by
  refine Met.ofW (cc := cc) (maxL := maxL) (ret := none) hy hw ?_
  intro p e s m args below meth c s₁ B hml hv
  obtain ⟨rfl, hsz, hP, hK, hO, hD0⟩ := hv
  subst hsz
  have hl := lv_entry av (n := maxL) hlen
  rw [lg_entry_eq]
  generalize (lg_sl av ++ List.replicate (maxL - (lg_sl av).length) Slot.unset).toArray = ls at hl ⊢
  subst hown
  exact body p e s m below meth c ls ⟨B.exec, B.bytes, hml, findClass_of_methodNamed B.named, atoms_spec (ws := ws) B.pre, B.notSynchronized, hK, hO⟩ ((name_of_methodNamed B.named B.method).1.trans hnm) B.returns (fun q h => Or.inr h) hP hD0.self hl
