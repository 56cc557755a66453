/-! the flat world: every object and array of the class, of the reference and of the law, by a number; what they hold, a function -/
abbrev Me : Type := Nat → Nat → Int32
def up (M : Me) (k j : Nat) (v : Int32) : Me := fun a b => if a = k ∧ b = j then v else M a b
def upr (M : Me) (k : Nat) (f : Nat → Int32) : Me := fun a => if a = k then f else M a
theorem up_s {M : Me} {k j : Nat} {v : Int32} : up M k j v k j = v := by simp [up]
theorem up_k {M : Me} {k j a b : Nat} {v : Int32} (h : a ≠ k) : up M k j v a b = M a b := by simp [up, h]
theorem up_j {M : Me} {k j a b : Nat} {v : Int32} (h : b ≠ j) : up M k j v a b = M a b := by simp [up, h]
theorem up_row {M : Me} {k j a : Nat} {v : Int32} (h : a ≠ k) : up M k j v a = M a := by funext b; exact up_k h
theorem up_upd {M : Me} {k j : Nat} {v : Int32} : up M k j v k = upd (M k) j v := by funext b; simp [up, upd]
theorem upr_s {M : Me} {k : Nat} {f : Nat → Int32} : upr M k f k = f := by simp [upr]
theorem upr_k {M : Me} {k a : Nat} {f : Nat → Int32} (h : a ≠ k) : upr M k f a = M a := by simp [upr, h]
abbrev GG : Type := Launch × va_G × (ClassId × ClassId × ClassId × ClassId) × (Nat → Nat) × Nat
abbrev gl (G : GG) : Launch := G.1
abbrev gD (G : GG) : va_G := G.2.1
abbrev gc (G : GG) : ClassId × ClassId × ClassId × ClassId := G.2.2.1
abbrev ga (G : GG) : Nat → Nat := G.2.2.2.1
abbrev gz (G : GG) : Nat := G.2.2.2.2
/-- kinds: 0 Document, 1 Row, 2 Search, 3 Trust, 4 the class, 5 the reference, 6 int[], 7 boolean[], 8 long[], 9 Document[] -/
def kd (k : Nat) : Nat := if k < 63 then (if k % 7 = 0 then 0 else if k % 7 = 1 then 1 else 6) else if k = 63 ∨ k = 65 ∨ k = 67 then 1 else if k = 69 then 3 else if k = 71 then 2 else if k = 72 then 4 else if k = 73 then 5 else if k = 76 then 7 else if k = 79 then 8 else if k = 70 then 9 else 6
def al (k : Nat) : Nat := if k < 63 then (if k % 7 = 2 then 120 else if k % 7 = 3 then 4 else if k % 7 = 4 then 7 else if k % 7 = 5 then 4 else 3) else if k = 64 ∨ k = 66 then 120 else if k = 68 then 4 else if k = 70 then 7 else if k = 74 then 1080 else if k = 75 then 9 else if k = 76 then 7 else if k = 79 then 1 else 8
/-- the references that never change -/
def rfn (k j : Nat) : Option Nat :=
  if kd k = 0 then (if j = 0 then some (k + 1) else if j < 5 then some (k + 2 + j) else none)
  else if kd k = 1 then (if j = 0 then some (k + 1) else none)
  else if kd k = 2 then (if j = 0 then some 69 else if j = 1 then some 67 else none)
  else if kd k = 3 then (if j = 0 then some 70 else if j = 1 then some 49 else none)
  else if kd k = 4 then (if j = 0 then some 63 else if j = 1 then some 65 else if j = 2 then some 56 else if j = 3 then some 69 else if j = 4 then some 71 else none)
  else if kd k = 5 then (if j = 1 then some 74 else if j = 2 then some 75 else if j = 3 then some 76 else if j = 15 then some 77 else if j = 16 then some 78 else none)
  else none
def nfd (ci : Nat) : Nat := if ci = 0 then 15 else if ci = 1 then 2 else if ci = 2 then 7 else if ci = 3 then 3 else if ci = 4 then 7 else 18
def fv (G : GG) (M : Me) (k j : Nat) : Value := match rfn k j with
  | some q => .ref (ga G q)
  | none => .int (M k j)
def sh (G : GG) (M : Me) (k : Nat) : va_E :=
  if kd k < 6 then .inr (kd k, (List.range (nfd (kd k))).map (fv G M k))
  else if kd k = 6 then .inl ((gc G).1, al k, .inl (M k))
  else if kd k = 7 then .inl ((gc G).2.1, al k, .inl (M k))
  else if kd k = 8 then .inl ((gc G).2.2.1, al k, .inr (.inl (fun j => (M k j).toInt64)))
  else .inl ((gc G).2.2.2, al k, .inr (.inr (.inr (.inr (fun j => some (ga G (7 * j)))))))
def ww (G : GG) (M : Me) : va_W := (List.range 80).map (fun k => (ga G k, sh G M k))
def wT (G : GG) : List (ClassId × FieldType) := [((gc G).1, .int), ((gc G).2.1, .boolean), ((gc G).2.2.1, .long), ((gc G).2.2.2, .object RX0)]
def wA (G : GG) : Nat → Prop := fun q => (∃ k, k < 80 ∧ q = ga G k) ∨ gz G ≤ q
def isK (k ci : Nat) : Prop := k < 80 ∧ kd k = ci
theorem ww_at {G : GG} {M : Me} {k : Nat} (hk : k < 80) : (ww G M)[k]? = some (ga G k, sh G M k) := by simp [ww, hk]
theorem ww_ob {G : GG} {M : Me} {k ci : Nat} (hk : isK k ci) (hc : ci < 6) : (ww G M)[k]? = some (ga G k, .inr (ci, (List.range (nfd ci)).map (fv G M k))) := by
  rw [ww_at hk.1, sh, hk.2, if_pos hc]
theorem ww_ia {G : GG} {M : Me} {k : Nat} (hk : isK k 6) : (ww G M)[k]? = some (ga G k, .inl ((gc G).1, al k, .inl (M k))) := by
  rw [ww_at hk.1, sh, hk.2]; rfl
theorem ww_za {G : GG} {M : Me} {k : Nat} (hk : isK k 7) : (ww G M)[k]? = some (ga G k, .inl ((gc G).2.1, al k, .inl (M k))) := by
  rw [ww_at hk.1, sh, hk.2]; rfl
theorem ww_la {G : GG} {M : Me} {k : Nat} (hk : isK k 8) : (ww G M)[k]? = some (ga G k, .inl ((gc G).2.2.1, al k, .inr (.inl (fun j => (M k j).toInt64)))) := by
  rw [ww_at hk.1, sh, hk.2]; rfl
theorem ww_da {G : GG} {M : Me} {k : Nat} (hk : isK k 9) : (ww G M)[k]? = some (ga G k, .inl ((gc G).2.2.2, al k, .inr (.inr (.inr (.inr (fun j => some (ga G (7 * j)))))))) := by
  rw [ww_at hk.1, sh, hk.2]; rfl
theorem sh_eq {G : GG} {M M' : Me} {i : Nat} (h : M' i = M i) : sh G M' i = sh G M i := by
  have h2 : fv G M' i = fv G M i := by funext j; simp only [fv, h]
  simp only [sh, h, h2]
theorem ww_set {G : GG} {M M' : Me} {k : Nat} {e : va_E} (he : sh G M' k = e) (hf : ∀ i, i ≠ k → M' i = M i) : (ww G M).set k (ga G k, e) = ww G M' := by
  apply List.ext_getElem?
  intro i
  by_cases hi : i < 80
  · by_cases hik : i = k
    · subst hik
      rw [ww_at hi, he, List.getElem?_set_self (by simp [ww, hi])]
    · rw [List.getElem?_set_ne (fun q => hik q.symm), ww_at hi, ww_at hi, sh_eq (hf i hik)]
  · rw [List.getElem?_eq_none (by simp [ww]; omega), List.getElem?_eq_none (by simp [ww]; omega)]
theorem ob_set {G : GG} {M : Me} {k j n : Nat} {v : Int32} (hj : j < n) (hr : rfn k j = none) : (List.range n).map (fv G (up M k j v) k) = ((List.range n).map (fv G M k)).set j (.int v) := by
  apply List.ext_getElem?
  intro i
  by_cases hi : i < n
  · by_cases hij : i = j
    · subst hij
      rw [List.getElem?_set_self (by simp [hi])]
      simp [hi, fv, hr, up_s]
    · rw [List.getElem?_set_ne (fun q => hij q.symm)]
      simp only [List.getElem?_map, List.getElem?_range hi, Option.map_some, fv, up_j hij]
  · rw [List.getElem?_eq_none (by simp; omega), List.getElem?_eq_none (by simp; omega)]
theorem ww_put {G : GG} {M : Me} {k ci j : Nat} {v : Int32} (hk : isK k ci) (hc : ci < 6) (hj : j < nfd ci) (hr : rfn k j = none) : (ww G M).set k (ga G k, .inr (ci, ((List.range (nfd ci)).map (fv G M k)).set j (.int v))) = ww G (up M k j v) := by
  refine ww_set ?_ (fun i hi => up_row hi)
  rw [sh, hk.2, if_pos hc, ob_set hj hr]
theorem ww_ist {G : GG} {M : Me} {k j : Nat} {v : Int32} (hk : isK k 6) : (ww G M).set k (ga G k, .inl ((gc G).1, al k, .inl (upd (M k) j v))) = ww G (up M k j v) := by
  refine ww_set ?_ (fun i hi => up_row hi)
  rw [sh, hk.2, up_upd]; rfl
theorem ww_zst {G : GG} {M : Me} {k j : Nat} {v : Int32} (hk : isK k 7) : (ww G M).set k (ga G k, .inl ((gc G).2.1, al k, .inl (upd (M k) j v))) = ww G (up M k j v) := by
  refine ww_set ?_ (fun i hi => up_row hi)
  rw [sh, hk.2, up_upd]; rfl
theorem ww_lst {G : GG} {M : Me} {k j : Nat} {v : Int32} (hk : isK k 8) : (ww G M).set k (ga G k, .inl ((gc G).2.2.1, al k, .inr (.inl (vp_updL (fun j => (M k j).toInt64) j v.toInt64)))) = ww G (up M k j v) := by
  refine ww_set ?_ (fun i hi => up_row hi)
  have h2 : (fun b => (up M k j v k b).toInt64) = vp_updL (fun j => (M k j).toInt64) j v.toInt64 := by
    funext b
    by_cases hb : b = j
    · subst hb; simp [up_s, vp_updL]
    · simp [up_j hb, vp_updL, hb]
  rw [sh, hk.2, h2]; rfl
theorem ww_cpy {G : GG} {M : Me} {k : Nat} {f : Nat → Int32} (hk : isK k 6) : (ww G M).set k (ga G k, .inl ((gc G).1, al k, .inl f)) = ww G (upr M k f) := by
  refine ww_set ?_ (fun i hi => upr_k hi)
  rw [sh, hk.2, upr_s]; rfl
/-- what a method's body stands on -/
def Cx (G : GG) (Ts : List Cond) (own : String) (cc : ByteArray) (nL : Nat) (p : Program) (s : State) (m : MethodId) (args : Array Value) (meth : Method) (c : Code) : Prop :=
  p.tables.exec = Jvm.exec ∧ c.code = cc ∧ c.maxLocals = nL ∧ s.vm.findClass own = some m.cls ∧ (∀ w ∈ Ts, w.before args s = true) ∧ meth.locks = false ∧ va_K (gD G) vwCl (wT G) s ∧ gz G ≤ s.heap.size
def wH (G : GG) (s : State) (M : Me) (H : Heap) (locs : List Loc) : Prop := va_P (gD G) vwCl (ww G M) H ∧ va_D (wA G) (ww G M) ∧ va_S (wA G) s.heap H locs
def wU (G : GG) (M : Me) (U : State) : Prop := gz G ≤ U.heap.size ∧ va_P (gD G) vwCl (ww G M) U.heap ∧ va_K (gD G) vwCl (wT G) U ∧ va_D (wA G) (ww G M)
abbrev rmd (d mc ms : Nat) : Room := { frames := d, cells := mc, slots := ms, locals := 40 * d }
abbrev Qi (G : GG) (y : Int32 × Me) : Array Value → State → Outcome → State → Prop := va_Qi (fun (r : Int32) (u : Me) => r = y.1 ∧ u = y.2) (wU G) (wA G)
abbrev Qv (G : GG) (y : Int32 × Me) : Array Value → State → Outcome → State → Prop := va_Qv (fun (u : Me) => u = y.2) (wU G) (wA G)
abbrev Qr (G : GG) (y : Nat × Me) : Array Value → State → Outcome → State → Prop := va_Qr (fun (u : Me) => u = y.2) (fun u a t => a = ga G y.1 ∧ wU G u t) (wA G)
abbrev CI (G : GG) (y : MethodName) (ws : List Cond) (rm : Room) (av : List Value) (M : Me) (yv : Int32 × Me) : Prop := Met (gl G) y ws rm (va_Pc av (wU G M)) (Qi G yv) 0 0 (wA G)
abbrev CV (G : GG) (y : MethodName) (ws : List Cond) (rm : Room) (av : List Value) (M : Me) (yv : Int32 × Me) : Prop := Met (gl G) y ws rm (va_Pc av (wU G M)) (Qv G yv) 0 0 (wA G)
abbrev CR (G : GG) (y : MethodName) (ws : List Cond) (rm : Room) (av : List Value) (M : Me) (yv : Nat × Me) : Prop := Met (gl G) y ws rm (va_Pc av (wU G M)) (Qr G yv) 0 0 (wA G)
theorem ob {α β : Type} {x : Option α} {g : α → Option β} {y : β} (h : x.bind g = some y) : ∃ a, x = some a ∧ g a = some y := by
  cases x with
  | none => cases h
  | some a => exact ⟨a, rfl, h⟩
theorem ift {α : Type} {c : Prop} [Decidable c] {a b : Option α} {y : α} (h : (if c then a else b) = some y) (hc : c) : a = some y := by rw [if_pos hc] at h; exact h
theorem iff_ {α : Type} {c : Prop} [Decidable c] {a b : Option α} {y : α} (h : (if c then a else b) = some y) (hc : ¬ c) : b = some y := by rw [if_neg hc] at h; exact h
theorem ifg {α : Type} {c : Prop} [Decidable c] {a : Option α} {y : α} (h : (if c then a else none) = some y) : c ∧ a = some y := by
  by_cases hc : c
  · rw [if_pos hc] at h; exact ⟨hc, h⟩
  · rw [if_neg hc] at h; cases h
def inB (i : Int32) (n : Nat) : Bool := !(decide (i < 0) || decide (n ≤ i.toNatClampNeg))
theorem inB_in {i : Int32} {n : Nat} (h : inB i n = true) : vp_in i n := by
  intro q
  rcases q with q | q <;> simp [inB, q] at h
def bB (v : Int32) : Bool := decide (v = 0) || decide (v = 1)
theorem bB_or {v : Int32} (h : bB v = true) : v = 0 ∨ v = 1 := by simpa [bB] using h
def kB (k ci : Nat) : Bool := decide (k < 80) && decide (kd k = ci)
theorem kB_is {k ci : Nat} (h : kB k ci = true) : isK k ci := by simpa [kB, isK] using h
def cpB (n : Int32) (a b : Nat) : Bool := !decide (n < 0) && decide (n.toNatClampNeg ≤ a) && decide (n.toNatClampNeg ≤ b)
theorem cpB_is {n : Int32} {a b : Nat} (h : cpB n a b = true) : ¬ n < 0 ∧ n.toNatClampNeg ≤ a ∧ n.toNatClampNeg ≤ b := by
  simp only [cpB, Bool.and_eq_true, Bool.not_eq_true', decide_eq_false_iff_not, decide_eq_true_eq] at h
  exact ⟨h.1.1, h.1.2, h.2⟩
section WD
variable {G : GG} {Ts : List Cond} {own : String} {cc : ByteArray} {nL : Nat} {p : Program} {e : Env} {R : Room} {s : State} {m : MethodId} {args : Array Value} {below : List Frame} {meth : Method} {c : Code} {H : Heap} {locs : List Loc} {cells slots : Nat} {Q : State → Prop} {pc : Nat} {ls : Array Slot} {rest : List Value} {M : Me}
theorem wg_i (C : Cx G Ts own cc nL p s m args meth c) (hW : wH G s M H locs) {k ci j N index : Nat} {Cn ref : String} {T : u_T} (hk : isK k ci) (hc : vwCl[ci]? = some (Cn, T, N)) (hcN : ci < 6 ∧ nfd ci = N) (hin : ∀ w ∈ u_ws Cn T N, w ∈ Ts) (hj : j < N) (hr : rfn k j = none) {v : Int32} (hv : M k j = v)
    (hlink : (Cond.fieldLink own index ref (T j).2.1 (T j).2.2.1).before args s = true) (hsame : ∀ x, s.fieldFound? (T j).1 (T j).2.1 (T j).2.2.1 = some x → s.fieldFound? ref (T j).2.1 (T j).2.2.1 = some x) (hdg : decode cc pc = .ok (.getfield index, 3))
    (kk : W p (gl G) e R s m args below meth c H locs cells slots Q (F0 m (pc + 3) ls (.int v :: rest))) : W p (gl G) e R s m args below meth c H locs cells slots Q (F0 m pc ls (.ref (ga G k) :: rest)) := by
  subst hv
  refine va_get (D := gD G) (ci := ci) (v := .int (M k j)) (C := Cn) (T := T) (N := N) C.1 C.2.1 C.2.2.2.2.1 hin C.2.2.2.1 C.2.2.2.2.2.2.1 hW.1 k (ww_ob hk hcN.1) hc j hj hlink hsame ?_ hdg kk
  have hjn : j < nfd ci := by rw [hcN.2]; exact hj
  simp only [List.getElem?_map, List.getElem?_range hjn, Option.map_some, fv, hr]
theorem wg_r (C : Cx G Ts own cc nL p s m args meth c) (hW : wH G s M H locs) {k ci j N index q : Nat} {Cn ref : String} {T : u_T} (hk : isK k ci) (hc : vwCl[ci]? = some (Cn, T, N)) (hcN : ci < 6 ∧ nfd ci = N) (hin : ∀ w ∈ u_ws Cn T N, w ∈ Ts) (hj : j < N) (hr : rfn k j = some q)
    (hlink : (Cond.fieldLink own index ref (T j).2.1 (T j).2.2.1).before args s = true) (hsame : ∀ x, s.fieldFound? (T j).1 (T j).2.1 (T j).2.2.1 = some x → s.fieldFound? ref (T j).2.1 (T j).2.2.1 = some x) (hdg : decode cc pc = .ok (.getfield index, 3))
    (kk : W p (gl G) e R s m args below meth c H locs cells slots Q (F0 m (pc + 3) ls (.ref (ga G q) :: rest))) : W p (gl G) e R s m args below meth c H locs cells slots Q (F0 m pc ls (.ref (ga G k) :: rest)) := by
  refine va_get (D := gD G) (ci := ci) (v := .ref (ga G q)) (C := Cn) (T := T) (N := N) C.1 C.2.1 C.2.2.2.2.1 hin C.2.2.2.1 C.2.2.2.2.2.2.1 hW.1 k (ww_ob hk hcN.1) hc j hj hlink hsame ?_ hdg kk
  have hjn : j < nfd ci := by rw [hcN.2]; exact hj
  simp only [List.getElem?_map, List.getElem?_range hjn, Option.map_some, fv, hr]
theorem wp_t (C : Cx G Ts own cc nL p s m args meth c) (hW : wH G s M H locs) {k ci j N index : Nat} {Cn ref : String} {T : u_T} {ty : FieldType} {v : Int32} (hn : narrow ty (.int v) = .int v) (hfit : fits ty (.int v) = true) (hk : isK k ci) (hc : vwCl[ci]? = some (Cn, T, N)) (hcN : ci < 6 ∧ nfd ci = N) (hin : ∀ w ∈ u_ws Cn T N, w ∈ Ts) (ty0 : Nat → FieldType) (hty : ∀ k, k < N → parseFieldDescriptor (T k).2.2.1 = some (ty0 k)) (hnm : ∀ a, a < N → ∀ b, b < N → a ≠ b → (T a).2.1 ≠ (T b).2.1) (hj : j < N) (hr : rfn k j = none)
    (hlink : (Cond.fieldLink own index ref (T j).2.1 (T j).2.2.1).before args s = true) (hsame : ∀ x, s.fieldFound? (T j).1 (T j).2.1 (T j).2.2.1 = some x → s.fieldFound? ref (T j).2.1 (T j).2.2.1 = some x) (hfin : (T j).2.2.2 = false) (hd : ty0 j = ty) (hdg : decode cc pc = .ok (.putfield index, 3))
    (kk : ∀ (H1 : Heap) (locs1 : List Loc), wH G s (up M k j v) H1 locs1 → W p (gl G) e R s m args below meth c H1 locs1 cells slots Q (F0 m (pc + 3) ls rest)) : W p (gl G) e R s m args below meth c H locs cells slots Q (F0 m pc ls (.int v :: .ref (ga G k) :: rest)) := by
  have hjn : j < nfd ci := by rw [hcN.2]; exact hj
  refine va_put (D := gD G) (ci := ci) (v := .int v) (ty := ty) (C := Cn) (T := T) (N := N) C.1 C.2.1 C.2.2.2.2.1 hin ty0 hty hnm C.2.2.2.1 C.2.2.2.2.2.2.1 hW.1 hW.2.1 hW.2.2 k (ww_ob hk hcN.1) hc j hj hlink hsame hfin (by rw [hty j hj, hd]) hn hfit (by simp [hjn]) hdg (fun H1 locs1 a1 a2 a3 => ?_)
  rw [ww_put hk hcN.1 hjn hr] at a1 a2
  exact kk H1 locs1 ⟨a1, a2, a3⟩
theorem wa_l (C : Cx G Ts own cc nL p s m args meth c) (hW : wH G s M H locs) {k : Nat} (hk : isK k 6) {i : Int32} (hi : inB i (al k) = true) (hdg : decode cc pc = .ok (.iaload, 1)) {v : Int32} (hv : M k i.toNatClampNeg = v)
    (kk : W p (gl G) e R s m args below meth c H locs cells slots Q (F0 m (pc + 1) ls (.int v :: rest))) : W p (gl G) e R s m args below meth c H locs cells slots Q (F0 m pc ls (.int i :: .ref (ga G k) :: rest)) := by
  subst hv
  exact va_iald C.1 C.2.1 C.2.2.2.2.2.2.1 hW.1 k 0 (ww_ia hk) rfl (inB_in hi) hdg kk
theorem wz_l (C : Cx G Ts own cc nL p s m args meth c) (hW : wH G s M H locs) {k : Nat} (hk : isK k 7) {i : Int32} (hi : inB i (al k) = true) (hdg : decode cc pc = .ok (.baload, 1)) {v : Int32} (hv : M k i.toNatClampNeg = v)
    (kk : W p (gl G) e R s m args below meth c H locs cells slots Q (F0 m (pc + 1) ls (.int v :: rest))) : W p (gl G) e R s m args below meth c H locs cells slots Q (F0 m pc ls (.int i :: .ref (ga G k) :: rest)) := by
  subst hv
  exact va_zald C.1 C.2.1 C.2.2.2.2.2.2.1 hW.1 k 1 (ww_za hk) rfl (inB_in hi) hdg kk
theorem wl_l (C : Cx G Ts own cc nL p s m args meth c) (hW : wH G s M H locs) {k : Nat} (hk : isK k 8) {i : Int32} (hi : inB i (al k) = true) (hdg : decode cc pc = .ok (.laload, 1)) {v : Int32} (hv : M k i.toNatClampNeg = v)
    (kk : W p (gl G) e R s m args below meth c H locs cells slots Q (F0 m (pc + 1) ls (.long v.toInt64 :: rest))) : W p (gl G) e R s m args below meth c H locs cells slots Q (F0 m pc ls (.int i :: .ref (ga G k) :: rest)) := by
  subst hv
  exact va_lald C.1 C.2.1 C.2.2.2.2.2.2.1 hW.1 k 2 (ww_la hk) rfl (inB_in hi) hdg kk
theorem wd_l (C : Cx G Ts own cc nL p s m args meth c) (hW : wH G s M H locs) {k : Nat} (hk : isK k 9) {i : Int32} (hi : inB i (al k) = true) (hdg : decode cc pc = .ok (.aaload, 1))
    (kk : W p (gl G) e R s m args below meth c H locs cells slots Q (F0 m (pc + 1) ls (.ref (ga G (7 * i.toNatClampNeg)) :: rest))) : W p (gl G) e R s m args below meth c H locs cells slots Q (F0 m pc ls (.int i :: .ref (ga G k) :: rest)) :=
  va_aldq C.1 C.2.1 C.2.2.2.2.2.2.1 hW.1 k 3 (ww_da hk) rfl (inB_in hi) hdg kk
theorem wa_s (C : Cx G Ts own cc nL p s m args meth c) (hW : wH G s M H locs) {k : Nat} (hk : isK k 6) {i x : Int32} (hi : inB i (al k) = true) (hdg : decode cc pc = .ok (.iastore, 1))
    (kk : ∀ (H1 : Heap) (locs1 : List Loc), wH G s (up M k i.toNatClampNeg x) H1 locs1 → W p (gl G) e R s m args below meth c H1 locs1 cells slots Q (F0 m (pc + 1) ls rest)) : W p (gl G) e R s m args below meth c H locs cells slots Q (F0 m pc ls (.int x :: .int i :: .ref (ga G k) :: rest)) := by
  refine va_iast C.1 C.2.1 C.2.2.2.2.2.2.1 hW.1 hW.2.1 hW.2.2 k 0 (ww_ia hk) rfl (inB_in hi) hdg (fun H1 locs1 a1 a2 a3 => ?_)
  rw [ww_ist hk] at a1 a2
  exact kk H1 locs1 ⟨a1, a2, a3⟩
theorem wz_s (C : Cx G Ts own cc nL p s m args meth c) (hW : wH G s M H locs) {k : Nat} (hk : isK k 7) {i x : Int32} (hx : vp_nar .boolean x = x) (hi : inB i (al k) = true) (hdg : decode cc pc = .ok (.bastore, 1))
    (kk : ∀ (H1 : Heap) (locs1 : List Loc), wH G s (up M k i.toNatClampNeg x) H1 locs1 → W p (gl G) e R s m args below meth c H1 locs1 cells slots Q (F0 m (pc + 1) ls rest)) : W p (gl G) e R s m args below meth c H locs cells slots Q (F0 m pc ls (.int x :: .int i :: .ref (ga G k) :: rest)) := by
  refine va_zast C.1 C.2.1 C.2.2.2.2.2.2.1 hW.1 hW.2.1 hW.2.2 k 1 (ww_za hk) rfl (inB_in hi) hdg (fun H1 locs1 a1 a2 a3 => ?_)
  rw [hx, ww_zst hk] at a1 a2
  exact kk H1 locs1 ⟨a1, a2, a3⟩
theorem wl_s (C : Cx G Ts own cc nL p s m args meth c) (hW : wH G s M H locs) {k : Nat} (hk : isK k 8) {i x : Int32} (hi : inB i (al k) = true) (hdg : decode cc pc = .ok (.lastore, 1))
    (kk : ∀ (H1 : Heap) (locs1 : List Loc), wH G s (up M k i.toNatClampNeg x) H1 locs1 → W p (gl G) e R s m args below meth c H1 locs1 cells slots Q (F0 m (pc + 1) ls rest)) : W p (gl G) e R s m args below meth c H locs cells slots Q (F0 m pc ls (.long x.toInt64 :: .int i :: .ref (ga G k) :: rest)) := by
  refine va_last C.1 C.2.1 C.2.2.2.2.2.2.1 hW.1 hW.2.1 hW.2.2 k 2 (ww_la hk) rfl (inB_in hi) hdg (fun H1 locs1 a1 a2 a3 => ?_)
  rw [ww_lst hk] at a1 a2
  exact kk H1 locs1 ⟨a1, a2, a3⟩
theorem wa_n (C : Cx G Ts own cc nL p s m args meth c) (hW : wH G s M H locs) {k : Nat} (hk : isK k 6) (hdg : decode cc pc = .ok (.arraylength, 1))
    (kk : W p (gl G) e R s m args below meth c H locs cells slots Q (F0 m (pc + 1) ls (.int (nI (al k)) :: rest))) : W p (gl G) e R s m args below meth c H locs cells slots Q (F0 m pc ls (.ref (ga G k) :: rest)) :=
  va_alen C.1 C.2.1 C.2.2.2.2.2.2.1 hW.1 k 0 (ww_ia hk) rfl rfl hdg kk
/-- a call that answers an int, of a method of an object of the world -/
theorem wc_Vi (C : Cx G Ts own cc nL p s m args meth c) (hW : wH G s M H locs) {y : MethodName} {ws : List Cond} {rm : Room} {As : List Value} {yv : Int32 × Me} {k ci N index maxL n : Nat} {Cn : String} {T : u_T} {bytes : ByteArray} {ret : Option FieldType} {st0 : List Value}
    (hM : CI G y ws rm (.ref (ga G k) :: As) M yv) (hk : isK k ci) (hc : vwCl[ci]? = some (Cn, T, N)) (hci : ci < 6) (cw : CallW R s args own Cn index y bytes maxL ret ws rm 0 0 n) (hn : As.length = n) (hsize : ls.size = nL) (hst : st0 = As.reverse ++ .ref (ga G k) :: rest) (hsum : (rest.map fun v => v.category).sum ≤ 8) (hdg : decode cc pc = .ok (.invokevirtual index, 3)) (hf : cells ≤ R.cells ∧ slots ≤ R.slots)
    (kk : ∀ (H1 : Heap) (locs1 : List Loc), wH G s yv.2 H1 locs1 → W p (gl G) e R s m args below meth c H1 locs1 cells slots Q (F0 m (pc + 3) ls (.int yv.1 :: rest))) : W p (gl G) e R s m args below meth c H locs cells slots Q (F0 m pc ls st0) := by
  subst hst
  obtain ⟨hx, hb, hml, hown, hts, hlk, hK, hz⟩ := C
  obtain ⟨hP, hD, hS⟩ := hW
  refine va_calli (va_runV (As := As) (rest := rest) ⟨hx, hb, hml, hown, hts⟩ hM cw ⟨fun a U g mk q => ⟨q.1, q.2.1, q.2.2.1, va_K.moved (u := U) (U := U.calling g mk a) (Vm.Alike.refl U.vm) q.2.2.2.1, q.2.2.2.2⟩, va_recv hK hP hc (ww_ob hk hci), fun U hU hWm => ⟨rfl, by rw [hU]; exact Nat.le_trans hz hS.1, by rw [hU]; exact hP, va_K.moved hWm.alike hK, hD⟩⟩ rfl hn hsize rfl (lv_room hsum) hdg hf) hS (fun q _ h => h) (fun q h => h) (fun r u t H1 locs1 ht hvm hw hB hz1 hk1 hS1 => ?_)
  obtain ⟨rfl, rfl⟩ := hw
  obtain ⟨b0, b1, b2, b3⟩ := hB
  rw [ht] at b1
  exact kk H1 locs1 ⟨b1, b3, hS1⟩
theorem wc_Vv (C : Cx G Ts own cc nL p s m args meth c) (hW : wH G s M H locs) {y : MethodName} {ws : List Cond} {rm : Room} {As : List Value} {yv : Int32 × Me} {k ci N index maxL n : Nat} {Cn : String} {T : u_T} {bytes : ByteArray} {ret : Option FieldType} {st0 : List Value}
    (hM : CV G y ws rm (.ref (ga G k) :: As) M yv) (hk : isK k ci) (hc : vwCl[ci]? = some (Cn, T, N)) (hci : ci < 6) (cw : CallW R s args own Cn index y bytes maxL ret ws rm 0 0 n) (hn : As.length = n) (hsize : ls.size = nL) (hst : st0 = As.reverse ++ .ref (ga G k) :: rest) (hsum : (rest.map fun v => v.category).sum ≤ 8) (hdg : decode cc pc = .ok (.invokevirtual index, 3)) (hf : cells ≤ R.cells ∧ slots ≤ R.slots)
    (kk : ∀ (H1 : Heap) (locs1 : List Loc), wH G s yv.2 H1 locs1 → W p (gl G) e R s m args below meth c H1 locs1 cells slots Q (F0 m (pc + 3) ls rest)) : W p (gl G) e R s m args below meth c H locs cells slots Q (F0 m pc ls st0) := by
  subst hst
  obtain ⟨hx, hb, hml, hown, hts, hlk, hK, hz⟩ := C
  obtain ⟨hP, hD, hS⟩ := hW
  refine va_callv (va_runV (As := As) (rest := rest) ⟨hx, hb, hml, hown, hts⟩ hM cw ⟨fun a U g mk q => ⟨q.1, q.2.1, q.2.2.1, va_K.moved (u := U) (U := U.calling g mk a) (Vm.Alike.refl U.vm) q.2.2.2.1, q.2.2.2.2⟩, va_recv hK hP hc (ww_ob hk hci), fun U hU hWm => ⟨rfl, by rw [hU]; exact Nat.le_trans hz hS.1, by rw [hU]; exact hP, va_K.moved hWm.alike hK, hD⟩⟩ rfl hn hsize rfl (lv_room hsum) hdg hf) hS (fun q _ h => h) (fun q h => h) (fun u t H1 locs1 ht hvm hw hB hz1 hk1 hS1 => ?_)
  obtain rfl := hw
  obtain ⟨b0, b1, b2, b3⟩ := hB
  rw [ht] at b1
  exact kk H1 locs1 ⟨b1, b3, hS1⟩
theorem wc_Vr (C : Cx G Ts own cc nL p s m args meth c) (hW : wH G s M H locs) {y : MethodName} {ws : List Cond} {rm : Room} {As : List Value} {yv : Nat × Me} {k ci N index maxL n : Nat} {Cn : String} {T : u_T} {bytes : ByteArray} {ret : Option FieldType} {st0 : List Value}
    (hM : CR G y ws rm (.ref (ga G k) :: As) M yv) (hk : isK k ci) (hc : vwCl[ci]? = some (Cn, T, N)) (hci : ci < 6) (cw : CallW R s args own Cn index y bytes maxL ret ws rm 0 0 n) (hn : As.length = n) (hsize : ls.size = nL) (hst : st0 = As.reverse ++ .ref (ga G k) :: rest) (hsum : (rest.map fun v => v.category).sum ≤ 8) (hdg : decode cc pc = .ok (.invokevirtual index, 3)) (hf : cells ≤ R.cells ∧ slots ≤ R.slots)
    (kk : ∀ (H1 : Heap) (locs1 : List Loc), wH G s yv.2 H1 locs1 → W p (gl G) e R s m args below meth c H1 locs1 cells slots Q (F0 m (pc + 3) ls (.ref (ga G yv.1) :: rest))) : W p (gl G) e R s m args below meth c H locs cells slots Q (F0 m pc ls st0) := by
  subst hst
  obtain ⟨hx, hb, hml, hown, hts, hlk, hK, hz⟩ := C
  obtain ⟨hP, hD, hS⟩ := hW
  refine va_callr (va_runV (As := As) (rest := rest) ⟨hx, hb, hml, hown, hts⟩ hM cw ⟨fun a U g mk q => ⟨q.1, q.2.1, q.2.2.1, va_K.moved (u := U) (U := U.calling g mk a) (Vm.Alike.refl U.vm) q.2.2.2.1, q.2.2.2.2⟩, va_recv hK hP hc (ww_ob hk hci), fun U hU hWm => ⟨rfl, by rw [hU]; exact Nat.le_trans hz hS.1, by rw [hU]; exact hP, va_K.moved hWm.alike hK, hD⟩⟩ rfl hn hsize rfl (lv_room hsum) hdg hf) hS (fun q _ h => h) (fun q h => h) (fun u ra t H1 locs1 ht hvm hw hB hz1 hk1 hS1 => ?_)
  obtain rfl := hw
  obtain ⟨rfl, b0, b1, b2, b3⟩ := hB
  rw [ht] at b1
  exact kk H1 locs1 ⟨b1, b3, hS1⟩
theorem wc_Si (C : Cx G Ts own cc nL p s m args meth c) (hW : wH G s M H locs) {y : MethodName} {ws : List Cond} {rm : Room} {As : List Value} {yv : Int32 × Me} {index maxL n : Nat} {bytes : ByteArray} {ret : Option FieldType} {st0 : List Value}
    (hM : CI G y ws rm As M yv) (cw : CallB R s args own index y bytes maxL ret ws rm 0 0 n ∧ (Cond.static y).before args s = true) (hn : As.length = n) (hsize : ls.size = nL) (hst : st0 = As.reverse ++ rest) (hsum : (rest.map fun v => v.category).sum ≤ 8) (hdg : decode cc pc = .ok (.invokestatic index, 3)) (hf : cells ≤ R.cells ∧ slots ≤ R.slots)
    (kk : ∀ (H1 : Heap) (locs1 : List Loc), wH G s yv.2 H1 locs1 → W p (gl G) e R s m args below meth c H1 locs1 cells slots Q (F0 m (pc + 3) ls (.int yv.1 :: rest))) : W p (gl G) e R s m args below meth c H locs cells slots Q (F0 m pc ls st0) := by
  subst hst
  obtain ⟨hx, hb, hml, hown, hts, hlk, hK, hz⟩ := C
  obtain ⟨hP, hD, hS⟩ := hW
  refine va_calli (va_runS (As := As) (rest := rest) ⟨hx, hb, hml, hown, hts⟩ hM cw ⟨fun a U g mk q => ⟨q.1, q.2.1, q.2.2.1, va_K.moved (u := U) (U := U.calling g mk a) (Vm.Alike.refl U.vm) q.2.2.2.1, q.2.2.2.2⟩, fun U hU hWm => ⟨rfl, by rw [hU]; exact Nat.le_trans hz hS.1, by rw [hU]; exact hP, va_K.moved hWm.alike hK, hD⟩⟩ rfl hn hsize rfl (lv_room hsum) hdg hf) hS (fun q _ h => h) (fun q h => h) (fun r u t H1 locs1 ht hvm hw hB hz1 hk1 hS1 => ?_)
  obtain ⟨rfl, rfl⟩ := hw
  obtain ⟨b0, b1, b2, b3⟩ := hB
  rw [ht] at b1
  exact kk H1 locs1 ⟨b1, b3, hS1⟩
theorem wa_cpy (C : Cx G Ts own cc nL p s m args meth c) (hW : wH G s M H locs) {k1 k2 index : Nat} (h1 : isK k1 6) (h2 : isK k2 6) {n : Int32} (hg : cpB n (al k1) (al k2) = true) (hlink : (Cond.methodLink own index arraycopyName).before args s = true) (hnat : (Cond.native arraycopyName).before args s = true) (hstat : (Cond.static arraycopyName).before args s = true) (hini : (Cond.initialized "java/lang/System").before args s = true)
    (hsize : ls.size = nL) (hfr : 1 ≤ R.frames) (hloc : (rest.map fun v => v.category).sum + (nativeFrameWords "java/lang/System" "arraycopy" 5 + 11) ≤ R.locals) (hdg : decode cc pc = .ok (.invokestatic index, 3))
    (kk : ∀ (H1 : Heap) (locs1 : List Loc), wH G s (upr M k2 (va_cpy (M k1) (M k2) 0 0 n.toNatClampNeg)) H1 locs1 → W p (gl G) e R s m args below meth c H1 locs1 cells slots Q (F0 m (pc + 3) ls rest)) : W p (gl G) e R s m args below meth c H locs cells slots Q (F0 m pc ls (.int n :: .int 0 :: .ref (ga G k2) :: .int 0 :: .ref (ga G k1) :: rest)) := by
  obtain ⟨hx, hb, hml, hown, hts, hlk, hK, hz⟩ := C
  obtain ⟨hP, hD, hS⟩ := hW
  obtain ⟨g1, g2, g3⟩ := cpB_is hg
  have e0 : (0 : Int32).toNatClampNeg = 0 := by decide
  refine va_copyi (ty := .int) hx hb (hml.trans hsize.symm) hown hlink hnat hstat hini hK hP hD hS k1 k2 0 0 (ww_ia h1) (ww_ia h2) rfl rfl rfl (by decide) (by decide) g1 (by rw [e0]; omega) (by rw [e0]; omega) (fun i hi => rfl) hfr hloc hdg (fun H1 locs1 a1 a2 a3 => ?_)
  rw [e0, ww_cpy h2] at a1 a2
  exact kk H1 locs1 ⟨a1, a2, a3⟩
/-- ends -/
theorem wr_i (C : Cx G Ts own cc nL p s m args meth c) (hr : meth.sig.returnType = some .int) {r : Int32} {yv : Int32 × Me} (hW : wH G s M H locs) (h : some (r, M) = some yv) (hdg : decode cc pc = .ok (.ireturn, 1)) : W p (gl G) e R s m args below meth c H locs cells slots (MQ below (Qi G yv) args s cells slots (wA G)) (F0 m pc ls [.int r]) := by
  cases h
  obtain ⟨hx, hb, hml, hown, hts, hlk, hK, hz⟩ := C
  obtain ⟨hP, hD, hS⟩ := hW
  exact W.iret (v := r) hx hb hr (fun t ht hWm => ⟨⟨r, M, rfl, ⟨rfl, rfl⟩, by rw [ht]; exact Nat.le_trans hz hS.1, by rw [ht]; exact hP, va_K.moved hWm.alike hK, hD⟩, hS.F ht⟩) hS.2.2 hdg
theorem nar_b {v : Int32} (h : v = 0 ∨ v = 1) : narrow .boolean (.int v) = .int v ∧ fits .boolean (.int v) = true := by
  rcases h with rfl | rfl <;> decide +kernel
theorem wr_z (C : Cx G Ts own cc nL p s m args meth c) (hr : meth.sig.returnType = some .boolean) {r : Int32} {yv : Int32 × Me} (hb01 : r = 0 ∨ r = 1) (hW : wH G s M H locs) (h : some (r, M) = some yv) (hdg : decode cc pc = .ok (.ireturn, 1)) : W p (gl G) e R s m args below meth c H locs cells slots (MQ below (Qi G yv) args s cells slots (wA G)) (F0 m pc ls [.int r]) := by
  cases h
  obtain ⟨hx, hb, hml, hown, hts, hlk, hK, hz⟩ := C
  obtain ⟨hP, hD, hS⟩ := hW
  exact W.zret (v := r) hx hb hr (nar_b hb01).1 (fun t ht hWm => ⟨⟨r, M, rfl, ⟨rfl, rfl⟩, by rw [ht]; exact Nat.le_trans hz hS.1, by rw [ht]; exact hP, va_K.moved hWm.alike hK, hD⟩, hS.F ht⟩) hS.2.2 hdg
theorem wr_v (C : Cx G Ts own cc nL p s m args meth c) (hr : meth.sig.returnType = none) {yv : Int32 × Me} (hW : wH G s M H locs) (h : some ((0 : Int32), M) = some yv) (hdg : decode cc pc = .ok (.return_, 1)) : W p (gl G) e R s m args below meth c H locs cells slots (MQ below (Qv G yv) args s cells slots (wA G)) (F0 m pc ls []) := by
  cases h
  obtain ⟨hx, hb, hml, hown, hts, hlk, hK, hz⟩ := C
  obtain ⟨hP, hD, hS⟩ := hW
  exact W.vret hx hb hr (fun t ht hWm => ⟨⟨M, rfl, rfl, by rw [ht]; exact Nat.le_trans hz hS.1, by rw [ht]; exact hP, va_K.moved hWm.alike hK, hD⟩, hS.F ht⟩) hS.2.2 hdg
theorem wr_r (C : Cx G Ts own cc nL p s m args meth c) {rt : FieldType} (hr : meth.sig.returnType = some rt) (hrt : (∃ n, rt = .object n) ∨ ∃ t, rt = .array t) {q : Nat} {yv : Nat × Me} (hW : wH G s M H locs) (h : some (q, M) = some yv) (hdg : decode cc pc = .ok (.areturn, 1)) : W p (gl G) e R s m args below meth c H locs cells slots (MQ below (Qr G yv) args s cells slots (wA G)) (F0 m pc ls [.ref (ga G q)]) := by
  cases h
  obtain ⟨hx, hb, hml, hown, hts, hlk, hK, hz⟩ := C
  obtain ⟨hP, hD, hS⟩ := hW
  exact W.aret (v := .ref (ga G q)) hx hb hr hrt (Or.inr ⟨_, rfl⟩) (fun t ht hWm => ⟨⟨M, ga G q, rfl, rfl, rfl, by rw [ht]; exact Nat.le_trans hz hS.1, by rw [ht]; exact hP, va_K.moved hWm.alike hK, hD⟩, hS.F ht⟩) hS.2.2 hdg
end WD
/-- a contract out of the walk of the body -/
theorem co_o {G : GG} {y : MethodName} {ws ws' : List Cond} {rm : Room} {cc : ByteArray} {maxL : Nat} {ret : Option FieldType} {own : String} {av : List Value} {M : Me} {Qc : Array Value → State → Outcome → State → Prop}
    (hy : plainName y.cls = true) (hw : ws = Cond.code y cc maxL ret :: ws') (hown : y.cls = own) (hlen : (lg_sl av).length ≤ maxL)
    (body : ∀ (p : Program) (e : Env) (s : State) (m : MethodId) (below : List Frame) (meth : Method) (c : Code) (ls : Array Slot), Cx G ws own cc maxL p s m av.toArray meth c → meth.sig.returnType = ret → wH G s M s.heap [] → lv_has ls maxL (lv_args 0 av) →
      W p (gl G) e rm s m av.toArray below meth c s.heap [] 0 0 (MQ below Qc av.toArray s 0 0 (wA G)) (F0 m 0 ls [])) : Met (gl G) y ws rm (va_Pc av (wU G M)) Qc 0 0 (wA G) := by
  refine Met.ofW (cc := cc) (maxL := maxL) (ret := ret) hy hw ?_
  intro p e s m args below meth c s₁ B hml hv
  obtain ⟨rfl, hz, hP, hK, hD⟩ := hv
  have hl := lv_entry av (n := maxL) hlen
  rw [lg_entry_eq]
  generalize (lg_sl av ++ List.replicate (maxL - (lg_sl av).length) Slot.unset).toArray = ls at hl ⊢
  subst hown
  exact body p e s m below meth c ls ⟨B.exec, B.bytes, hml, findClass_of_methodNamed B.named, atoms_spec (ws := ws) B.pre, B.notSynchronized, hK, hz⟩ B.returns ⟨hP, hD, va_S.rf⟩ hl

theorem nso {α : Type} {y : α} {P : Prop} (h : (none : Option α) = some y) : P := by cases h
def rfc (ci k j : Nat) : Option Nat :=
  if ci = 0 then (if j = 0 then some (k + 1) else if j < 5 then some (k + 2 + j) else none)
  else if ci = 1 then (if j = 0 then some (k + 1) else none)
  else if ci = 2 then (if j = 0 then some 69 else if j = 1 then some 67 else none)
  else if ci = 3 then (if j = 0 then some 70 else if j = 1 then some 49 else none)
  else if ci = 4 then (if j = 0 then some 63 else if j = 1 then some 65 else if j = 2 then some 56 else if j = 3 then some 69 else if j = 4 then some 71 else none)
  else if ci = 5 then (if j = 1 then some 74 else if j = 2 then some 75 else if j = 3 then some 76 else if j = 15 then some 77 else if j = 16 then some 78 else none)
  else none
theorem rfq {k ci j : Nat} {r : Option Nat} (hk : isK k ci) (h : rfc ci k j = r) : rfn k j = r := by
  rw [← h, ← hk.2]; rfl
theorem kd_r {k : Nat} (hk : isK k 0) : isK (k + 1) 1 := (by decide : ∀ k, k < 80 → kd k = 0 → k + 1 < 80 ∧ kd (k + 1) = 1) k hk.1 hk.2
theorem kd_a3 {k : Nat} (hk : isK k 0) : isK (k + 3) 6 := (by decide : ∀ k, k < 80 → kd k = 0 → k + 3 < 80 ∧ kd (k + 3) = 6) k hk.1 hk.2
theorem kd_a4 {k : Nat} (hk : isK k 0) : isK (k + 4) 6 := (by decide : ∀ k, k < 80 → kd k = 0 → k + 4 < 80 ∧ kd (k + 4) = 6) k hk.1 hk.2
theorem kd_a5 {k : Nat} (hk : isK k 0) : isK (k + 5) 6 := (by decide : ∀ k, k < 80 → kd k = 0 → k + 5 < 80 ∧ kd (k + 5) = 6) k hk.1 hk.2
theorem kd_a6 {k : Nat} (hk : isK k 0) : isK (k + 6) 6 := (by decide : ∀ k, k < 80 → kd k = 0 → k + 6 < 80 ∧ kd (k + 6) = 6) k hk.1 hk.2
theorem kr_a {k : Nat} (hk : isK k 1) : isK (k + 1) 6 := (by decide : ∀ k, k < 80 → kd k = 1 → k + 1 < 80 ∧ kd (k + 1) = 6) k hk.1 hk.2
theorem k49 : isK 49 0 := ⟨by decide, by decide⟩
theorem k56 : isK 56 0 := ⟨by decide, by decide⟩
theorem k63 : isK 63 1 := ⟨by decide, by decide⟩
theorem k65 : isK 65 1 := ⟨by decide, by decide⟩
theorem k67 : isK 67 1 := ⟨by decide, by decide⟩
theorem k69 : isK 69 3 := ⟨by decide, by decide⟩
theorem k70 : isK 70 9 := ⟨by decide, by decide⟩
theorem k71 : isK 71 2 := ⟨by decide, by decide⟩
theorem k72 : isK 72 4 := ⟨by decide, by decide⟩
theorem k73 : isK 73 5 := ⟨by decide, by decide⟩
theorem k74 : isK 74 6 := ⟨by decide, by decide⟩
theorem k75 : isK 75 6 := ⟨by decide, by decide⟩
theorem k76 : isK 76 7 := ⟨by decide, by decide⟩
theorem k77 : isK 77 6 := ⟨by decide, by decide⟩
theorem k78 : isK 78 6 := ⟨by decide, by decide⟩
theorem k79 : isK 79 8 := ⟨by decide, by decide⟩
theorem kd_of {i : Int32} (h : inB i (al 70) = true) : isK (7 * i.toNatClampNeg) 0 := by
  have h1 := inB_in h
  have h2 : i.toNatClampNeg < 7 := Nat.not_le.mp fun q => h1 (Or.inr q)
  exact (by decide : ∀ n, n < 7 → 7 * n < 80 ∧ kd (7 * n) = 0) _ h2
def ush (x y : Int32) : Int32 := (x.toUInt32 >>> (y.toUInt32 &&& Int32.toUInt32 31)).toInt32
def lushr_ (x : Int64) (y : Int32) : Int64 := (x.toUInt64 >>> (y.toInt64.toUInt64 &&& Int64.toUInt64 63)).toInt64
def lshr_ (x : Int64) (y : Int32) : Int64 := x >>> (y.toInt64 &&& 63)
def lshl_ (x : Int64) (y : Int32) : Int64 := x <<< (y.toInt64 &&& 63)
theorem tb_out2 {x : Int32} (h0 : ¬ x = 0) (h1 : ¬ x = 1) (h2 : ¬ x = 2) : x.toInt < 0 ∨ 2 < x.toInt := by
  have a0 := lv_neT h0 (a := 0) (by decide)
  have a1 := lv_neT h1 (a := 1) (by decide)
  have a2 := lv_neT h2 (a := 2) (by decide)
  omega
abbrev YT : Type := (Nat × Int32) × Me
