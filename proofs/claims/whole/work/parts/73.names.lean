/-! names: letters of a long, on both sides -/
def ltr (w : Int64) (i : Nat) : Nat := low8 ((lushr_ w (8 * nI i)).toInt32)
theorem ltr_eq (w : Int64) (i : Nat) : low8 ((lushr_ w (8 * nI i)).toInt32) = ltr w i := by rw [ltr]
theorem ltr_lt {w : Int64} {i : Nat} : ltr w i < 256 := by rw [ltr]; exact low8_lt _
theorem nI_low8 {x : Int32} (h : x.toBitVec.toNat < 256) : x = nI (low8 x) := by
  apply Int32.toBitVec_inj.mp
  apply BitVec.eq_of_toNat_eq
  rw [pk_tn (by have := low8_lt x; omega)]
  unfold low8
  omega
theorem and255 (y : Int64) : (y &&& 255).toInt32 = nI (low8 ((y &&& 255).toInt32)) := by
  apply nI_low8
  rw [Int64.toBitVec_toInt32, BitVec.signExtend_eq_setWidth_of_le _ (by decide), BitVec.toNat_setWidth]
  have e : (y &&& 255).toBitVec.toNat = y.toBitVec.toNat % 2 ^ 8 := by
    rw [show (y &&& 255).toBitVec = y.toBitVec &&& 255#64 from rfl, BitVec.toNat_and, show (255#64).toNat = 2 ^ 8 - 1 by decide, Nat.and_two_pow_sub_one_eq_mod]
  rw [e]
  omega
theorem m_letter {w : Int64} {i : Nat} {M : Me} (hi : i < 8) : f_X5_letter w (nI i) M = some (nI (ltr w i), M) := by
  rw [f_X5_letter, and255, ← sw_eq w i hi, ltr_eq]
def nmO (w : Int64) : Nat → Nat → Bool
  | 0, _ => true
  | c + 1, i => if 97 ≤ ltr w i ∧ ltr w i ≤ 122 then nmO w c (i + 1) else false
theorem nmO_t {w : Int64} {c i : Nat} (h : 97 ≤ ltr w i ∧ ltr w i ≤ 122) : nmO w (c + 1) i = nmO w c (i + 1) := by rw [nmO, if_pos h]
theorem nmO_f {w : Int64} {c i : Nat} (h : ¬ (97 ≤ ltr w i ∧ ltr w i ≤ 122)) : nmO w (c + 1) i = false := by rw [nmO, if_neg h]
theorem s_nameL {w : Int64} {M : Me} {m : Nat} (hm : m ≤ 4) : ∀ (c fuel i : Nat), c < fuel → i + c = m → fL_X4_isName_14 fuel w (nI m) (nI i) M = some (if nmO w c i = true then 1 else 0, M) := by
  intro c
  induction c with
  | zero =>
    intro fuel i hf hi
    obtain ⟨f, rfl⟩ : ∃ f, fuel = f + 1 := ⟨fuel - 1, by omega⟩
    rw [fL_X4_isName_14, if_pos (nI_le (by omega) (by omega)), nmO, if_pos rfl]
  | succ c ih =>
    intro fuel i hf hi
    obtain ⟨f, rfl⟩ : ∃ f, fuel = f + 1 := ⟨fuel - 1, by omega⟩
    have l := ltr_lt (w := w) (i := i)
    rw [fL_X4_isName_14, if_neg (nI_ge (by omega) (by omega)), low8_and, ltr_eq]
    by_cases c1 : 97 ≤ ltr w i
    · rw [if_neg (show ¬ nI (ltr w i) < (97 : Int32) from nI_nlt (b := 97) c1 (by omega))]
      by_cases c2 : ltr w i ≤ 122
      · rw [if_pos (show nI (ltr w i) ≤ (122 : Int32) from nI_le (b := 122) c2 (by omega)), nmO_t ⟨c1, c2⟩, nI_1]
        exact ih f (i + 1) (by omega) (by omega)
      · rw [if_neg (show ¬ nI (ltr w i) ≤ (122 : Int32) from nI_ge (a := 122) (by omega) (by omega)), nmO_f (fun q => c2 q.2), if_neg (by decide)]
    · rw [if_pos (show nI (ltr w i) < (97 : Int32) from nI_lt (b := 97) (by omega) (by omega)), nmO_f (fun q => c1 q.1), if_neg (by decide)]
theorem m_name0 {w : Int64} {M : Me} {x y : Int32} {f : Nat} : fL_X5_isName_18 (f + 1) w x 0 y M = some (0, M) := by
  rw [fL_X5_isName_18, if_pos rfl]
  split <;> rfl
theorem m_nameL {w : Int64} {M : Me} {m : Nat} (hm : m ≤ 4) : ∀ (c fuel i : Nat), c + 1 < fuel → i + c = m → fL_X5_isName_18 fuel w (nI m) 1 (nI i) M = some (if nmO w c i = true then 1 else 0, M) := by
  intro c
  induction c with
  | zero =>
    intro fuel i hf hi
    obtain ⟨f, rfl⟩ : ∃ f, fuel = f + 1 := ⟨fuel - 1, by omega⟩
    rw [fL_X5_isName_18, if_pos (nI_le (by omega) (by omega)), nmO, if_pos rfl]
  | succ c ih =>
    intro fuel i hf hi
    obtain ⟨f, rfl⟩ : ∃ f, fuel = f + 2 := ⟨fuel - 2, by omega⟩
    have l := ltr_lt (w := w) (i := i)
    rw [fL_X5_isName_18, if_neg (nI_ge (by omega) (by omega)), if_neg (by decide), m_letter (by omega), Option.bind_some]
    dsimp only
    by_cases c1 : 97 ≤ ltr w i
    · rw [if_neg (show ¬ nI (ltr w i) < (97 : Int32) from nI_nlt (b := 97) c1 (by omega)), m_letter (by omega), Option.bind_some]
      dsimp only
      by_cases c2 : ltr w i ≤ 122
      · rw [if_neg (show ¬ (122 : Int32) < nI (ltr w i) from nI_nlt (a := 122) c2 (by omega)), nmO_t ⟨c1, c2⟩, nI_1]
        exact ih (f + 1) (i + 1) (by omega) (by omega)
      · rw [if_pos (show (122 : Int32) < nI (ltr w i) from nI_lt (a := 122) (by omega) (by omega)), nmO_f (fun q => c2 q.2), if_neg (by decide), m_name0]
    · rw [if_pos (show nI (ltr w i) < (97 : Int32) from nI_lt (b := 97) (by omega) (by omega)), nmO_f (fun q => c1 q.1), if_neg (by decide), m_name0]
/-- a name of so many letters, or none -/
theorem name_ok (w : Int64) (x : Int32) : (∀ M, f_X4_isName w x M = some (0, M) ∧ f_X5_isName w x M = some (0, M)) ∨ ∃ m : Nat, 1 ≤ m ∧ m ≤ 4 ∧ x = nI m ∧ ∀ M, f_X4_isName w x M = some (1, M) ∧ f_X5_isName w x M = some (1, M) := by
  have t1 : (1 : Int32).toInt = 1 := by decide
  have t0 : (0 : Int32).toInt = 0 := by decide
  have t4 : (4 : Int32).toInt = 4 := by decide
  have t5 : (5 : Int32).toInt = 5 := by decide
  by_cases c1 : x < 1
  · refine Or.inl (fun M => ⟨by rw [f_X4_isName, if_pos c1], ?_⟩)
    have c0 : x ≤ 0 := by rw [Int32.lt_iff_toInt_lt] at c1; rw [Int32.le_iff_toInt_le]; omega
    rw [f_X5_isName, if_pos c0, m_name0]; rfl
  have c0 : ¬ x ≤ 0 := by rw [Int32.lt_iff_toInt_lt] at c1; rw [Int32.le_iff_toInt_le]; omega
  by_cases c4 : x ≤ 4
  · have c5 : ¬ (5 : Int32) ≤ x := by rw [Int32.le_iff_toInt_le] at c4 ⊢; omega
    obtain ⟨m, hm, rfl⟩ := nI_of2 (M := 4) (n := 4) (by decide) (fun z => c0 (Int32.le_of_lt z)) c4
    have m1 : 1 ≤ m := by
      rcases Nat.eq_zero_or_pos m with z | z
      · subst z; exact absurd (show nI 0 ≤ (0 : Int32) by decide) c0
      · exact z
    have e1 : ∀ M : Me, fL_X4_isName_14 200 w (nI m) 0 M = _ := fun M => s_nameL (w := w) (M := M) hm m 200 0 (by omega) (by omega)
    have e2 : ∀ M : Me, fL_X5_isName_18 200 w (nI m) 1 0 M = _ := fun M => m_nameL (w := w) (M := M) hm m 200 0 (by omega) (by omega)
    cases hh : nmO w m 0 with
    | false =>
      refine Or.inl (fun M => ⟨?_, ?_⟩)
      · rw [f_X4_isName, if_neg c1, if_pos c4, e1, hh]; rfl
      · rw [f_X5_isName, if_neg c0, if_neg c5, e2, hh]; rfl
    | true =>
      refine Or.inr ⟨m, m1, hm, rfl, fun M => ⟨?_, ?_⟩⟩
      · rw [f_X4_isName, if_neg c1, if_pos c4, e1, hh]; rfl
      · rw [f_X5_isName, if_neg c0, if_neg c5, e2, hh]; rfl
  · refine Or.inl (fun M => ⟨by rw [f_X4_isName, if_neg c1, if_neg c4], ?_⟩)
    have c5 : (5 : Int32) ≤ x := by rw [Int32.le_iff_toInt_le] at c4 ⊢; omega
    rw [f_X5_isName, if_neg c0, if_pos c5, m_name0]; rfl
/-- fresh: in force, and its version is the snapshot's -/
def frO (b : Nat → Nat → Nat) (h : Nat → Bool) (ck : Int32) (r : Nat) : Bool := st b h ck r && decide (b r 1 = sv (b 2) r (b 2 4))
theorem s_fresh {M : Me} {n : Nat → Nat} {b : Nat → Nat → Nat} {h : Nat → Bool} {ck vs is : Int32} (C : CInv M n b h ck vs is) (W : WF n b h) (h2 : h 2 = true) {r : Nat} (hr : r < 7) {x : Int32} (hx : x = nI r) : f_X3_isFresh x M = some (if frO b h ck r = true then 1 else 0, M) := by
  subst hx
  rw [f_X3_isFresh, s_force C W hr rfl, Option.bind_some]
  dsimp only
  unfold frO
  cases q : st b h ck r with
  | false => rfl
  | true =>
    obtain ⟨s, d, z⟩ := C.dc W hr (st_h q)
    obtain ⟨s2, d2, z2⟩ := C.dc W (r := 2) (by omega) h2
    have n4 := W.n4 hr (st_h q)
    have l := d.lt 1 (by omega)
    obtain ⟨y1, y2, -, -⟩ := snap_lt W h2
    have lv : sv (b 2) r (b 2 4) < 256 := sv_lt _ (fun i hi => d2.lt _ (by omega))
    rw [if_pos rfl, if_neg (by decide), s_docOf rfl hr, Option.bind_some]
    dsimp only
    rw [if_pos (kB7 hr), s_ver d, Option.bind_some]
    dsimp only
    rw [s_docOf (r := 2) (x := 2) rfl (by omega), Option.bind_some]
    dsimp only
    rw [if_pos (kB7 (r := 2) (by omega)), s_verFor (isK7 (r := 2) (by omega)) d2 z2 hr rfl, Option.bind_some]
    dsimp only
    by_cases e : b r 1 = sv (b 2) r (b 2 4)
    · rw [if_pos ((vI_eq n4.2.1 (by omega) (by omega)).mpr e), if_pos (by simp [e])]
    · rw [if_neg (fun q => e ((vI_eq n4.2.1 (by omega) (by omega)).mp q)), if_neg (by simp [e])]
theorem m_fresh {M : Me} {n : Nat → Nat} {b : Nat → Nat → Nat} {h : Nat → Bool} {ck vs is : Int32} (D : MInv M n b h ck vs is) (W : WF n b h) (h2 : h 2 = true) {r : Nat} (hr : r < 7) {x : Int32} (hx : x = nI r) : f_X5_isFresh x M = some (if frO b h ck r = true then 1 else 0, M) := by
  subst hx
  rw [f_X5_isFresh, m_stands D W hr rfl, Option.bind_some]
  dsimp only
  unfold frO
  cases q : st b h ck r with
  | false => rfl
  | true =>
    have n4 := W.n4 hr (st_h q)
    have l := ((D.1 r (by omega)).2.2.2 1 (by omega)).2
    obtain ⟨y1, y2, -, -⟩ := snap_lt W h2
    have lv := svT W D h2 r
    rw [if_pos rfl, if_neg (by decide), m_ver (D.1 r (by omega)) (by omega), Option.bind_some]
    dsimp only
    rw [m_said (x := 2) (D.1 2 (by omega)) y1 y2 hr rfl rfl, Option.bind_some]
    dsimp only
    by_cases e : b r 1 = sv (b 2) r (b 2 4)
    · rw [if_pos (by rw [e]), if_pos (by simp [e])]
    · rw [if_neg (fun q => e ((nI_eq (by omega) (by omega)).mp q)), if_neg (by simp [e])]
def alO (b : Nat → Nat → Nat) (h : Nat → Bool) (ck : Int32) : Bool := st b h ck 0 && st b h ck 1 && st b h ck 2 && frO b h ck 3
theorem s_allow {M : Me} {n : Nat → Nat} {b : Nat → Nat → Nat} {h : Nat → Bool} {ck vs is : Int32} (C : CInv M n b h ck vs is) (W : WF n b h) : f_X3_allowsSeeking M = some (if alO b h ck = true then 1 else 0, M) := by
  rw [f_X3_allowsSeeking, show f_X3_isInForce 0 M = _ from s_force C W (r := 0) (by omega) rfl, Option.bind_some]
  dsimp only
  unfold alO
  cases q0 : st b h ck 0
  · rfl
  rw [if_pos rfl, if_neg (by decide), show f_X3_isInForce 1 M = _ from s_force C W (r := 1) (by omega) rfl, Option.bind_some]
  dsimp only
  cases q1 : st b h ck 1
  · rfl
  rw [if_pos rfl, if_neg (by decide), show f_X3_isInForce 2 M = _ from s_force C W (r := 2) (by omega) rfl, Option.bind_some]
  dsimp only
  cases q2 : st b h ck 2
  · rfl
  rw [if_pos rfl, if_neg (by decide), show f_X3_isFresh 3 M = _ from s_fresh C W (st_h q2) (r := 3) (by omega) rfl, Option.bind_some]
  cases frO b h ck 3 <;> rfl
theorem m_wrong {M : Me} {n : Nat → Nat} {b : Nat → Nat → Nat} {h : Nat → Bool} {ck vs is : Int32} {w : Int64} {x : Int32} (D : MInv M n b h ck vs is) (W : WF n b h) (hn : f_X5_isName w x M = some (1, M)) : f_X5_wrongSeek w x M = some (if alO b h ck = true then 0 else 2, M) := by
  rw [f_X5_wrongSeek, hn, Option.bind_some]
  dsimp only
  rw [if_neg (by decide), show f_X5_stands 0 M = _ from m_stands D W (r := 0) (by omega) rfl, Option.bind_some]
  dsimp only
  unfold alO
  cases q0 : st b h ck 0
  · rfl
  rw [if_pos rfl, if_neg (by decide), show f_X5_stands 1 M = _ from m_stands D W (r := 1) (by omega) rfl, Option.bind_some]
  dsimp only
  cases q1 : st b h ck 1
  · rfl
  rw [if_pos rfl, if_neg (by decide), show f_X5_stands 2 M = _ from m_stands D W (r := 2) (by omega) rfl, Option.bind_some]
  dsimp only
  cases q2 : st b h ck 2
  · rfl
  rw [if_pos rfl, if_neg (by decide), show f_X5_isFresh 3 M = _ from m_fresh D W (st_h q2) (r := 3) (by omega) rfl, Option.bind_some]
  cases frO b h ck 3 <;> rfl
