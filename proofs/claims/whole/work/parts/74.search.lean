/-! the search, once and for all: what both sides do -/
def bgO (b : Nat → Nat) (p : Nat) (w : Int64) : Nat → Nat → Bool
  | 0, _ => true
  | c + 1, i => if b (p + i) = ltr w i then bgO b p w c (i + 1) else false
theorem bgO_t {b : Nat → Nat} {p c i : Nat} {w : Int64} (h : b (p + i) = ltr w i) : bgO b p w (c + 1) i = bgO b p w c (i + 1) := by rw [bgO, if_pos h]
theorem bgO_f {b : Nat → Nat} {p c i : Nat} {w : Int64} (h : ¬ b (p + i) = ltr w i) : bgO b p w (c + 1) i = false := by rw [bgO, if_neg h]
def tgO (b : Nat → Nat) (w : Int64) (m : Nat) : Nat → Nat → Option Nat
  | 0, _ => none
  | c + 1, i => if b (tPos b i) = m ∧ bgO b (tPos b i + 1) w m 0 = true then some (tPos b i + 1 + m) else tgO b w m c (i + 1)
theorem tgO_t {b : Nat → Nat} {m c i : Nat} {w : Int64} (h : b (tPos b i) = m ∧ bgO b (tPos b i + 1) w m 0 = true) : tgO b w m (c + 1) i = some (tPos b i + 1 + m) := by rw [tgO, if_pos h]
theorem tgO_f {b : Nat → Nat} {m c i : Nat} {w : Int64} (h : ¬ (b (tPos b i) = m ∧ bgO b (tPos b i + 1) w m 0 = true)) : tgO b w m (c + 1) i = tgO b w m c (i + 1) := by rw [tgO, if_neg h]
def dN (b : Nat → Nat) : Nat := b (tPos b (b 4))
def dQ (b : Nat → Nat) (i : Nat) : Nat := dP b (tPos b (b 4) + 1) i
def pre (b : Nat → Nat) (i : Nat) : Nat := dQ b i + 4 + b (dQ b i + 3)
def pfO (b : Nat → Nat) (w : Int64) (m i : Nat) : Bool := decide (b (pre b i) ≤ m) && bgO b (pre b i + 1) w (b (pre b i)) 0
def szO (n : Nat → Nat) (b : Nat → Nat → Nat) (r : Nat) : Nat := (pSig (b r) (n r)).getD 0
def foO (n : Nat → Nat) (b : Nat → Nat → Nat) (h : Nat → Bool) (ck : Int32) (w : Int64) (m r i v : Nat) : Bool := pfO (b r) w m i && !(v.testBit (b r (dQ (b r) i))) && frO b h ck (b r (dQ (b r) i)) && sgO (b (b r (dQ (b r) i))) (szO n b (b r (dQ (b r) i))) (b r) (dQ (b r) i + 2)
abbrev RT : Type := Nat × Nat × Int32 × Nat × Nat
def lpO (fo : Nat → Nat → Bool) (dr : Nat → Nat) (fi : Nat → Bool) (rc : Nat → Nat → Int32 → RT) : Nat → Nat → Nat → Int32 → RT
  | 0, _, v, c => (0, v, c, 0, 0)
  | k + 1, i, v, c => if fo i v = true then (if (rc (dr i) v c).1 = 0 then (if fi i = true then (1, (rc (dr i) v c).2.1, (rc (dr i) v c).2.2.1, 0, 0) else lpO fo dr fi rc k (i + 1) (rc (dr i) v c).2.1 (rc (dr i) v c).2.2.1) else rc (dr i) v c) else lpO fo dr fi rc k (i + 1) v c
def vsO (n : Nat → Nat) (b : Nat → Nat → Nat) (h : Nat → Bool) (ck : Int32) (w : Int64) (m : Nat) : Nat → Nat → Nat → Int32 → RT
  | 0, _, v, c => (0, v, c, 0, 0)
  | f + 1, r, v, c => match tgO (b r) w m (b r 4) 0 with
    | some p => (2, v ||| 2 ^ r, c + 1, r, p)
    | none => lpO (foO n b h ck w m r) (fun i => b r (dQ (b r) i)) (fun i => decide (b r (dQ (b r) i + 1) = 1)) (vsO n b h ck w m f) (dN (b r)) 0 (v ||| 2 ^ r) (c + 1)
theorem vsO_t {n : Nat → Nat} {b : Nat → Nat → Nat} {h : Nat → Bool} {ck c : Int32} {w : Int64} {m f r v p : Nat} (q : tgO (b r) w m (b r 4) 0 = some p) : vsO n b h ck w m (f + 1) r v c = (2, v ||| 2 ^ r, c + 1, r, p) := by rw [vsO, q]
theorem vsO_n {n : Nat → Nat} {b : Nat → Nat → Nat} {h : Nat → Bool} {ck c : Int32} {w : Int64} {m f r v : Nat} (q : tgO (b r) w m (b r 4) 0 = none) : vsO n b h ck w m (f + 1) r v c = lpO (foO n b h ck w m r) (fun i => b r (dQ (b r) i)) (fun i => decide (b r (dQ (b r) i + 1) = 1)) (vsO n b h ck w m f) (dN (b r)) 0 (v ||| 2 ^ r) (c + 1) := by rw [vsO, q]
theorem bt_or : ∀ v, v < 128 → ∀ r, r < 7 → (nI v ||| (1 <<< (nI r &&& 31))) = nI (v ||| 2 ^ r) ∧ v ||| 2 ^ r < 128 := by decide +kernel
theorem bt_tst : ∀ v, v < 128 → ∀ r, r < 7 → ((((nI v >>> (nI r &&& 31)) &&& 1) = 0) ↔ v.testBit r = false) := by decide +kernel
def tgI : Option Nat → Int32
  | some p => nI p
  | none => -1
theorem ag_bg {b nb : Nat → Nat} {n m p : Nat} {w : Int64} (hb : ∀ j, j < m → nb j = ltr w j) : ∀ c i, i + c ≤ m → p + i + c ≤ n → ag nb m b n 0 p c i = bgO b p w c i := by
  intro c
  induction c with
  | zero => intro i _ _; rw [ag, bgO]
  | succ c ih =>
    intro i h1 h2
    by_cases e : b (p + i) = ltr w i
    · rw [bgO_t e, ag_t ⟨by omega, by omega, by rw [Nat.zero_add, hb i (by omega), e]⟩, ih (i + 1) (by omega) (by omega)]
    · rw [bgO_f e, ag_f (fun q => e (by rw [← q.2.2, Nat.zero_add, hb i (by omega)]))]
section SR1
variable {M : Me} {k n s m : Nat} {b nb : Nat → Nat} {w : Int64}
theorem s_targetL (hk : isK k 0) (d : Dc M k n b s) (h3 : 3 ≤ b 0) (R : RW M 67 m nb) (hb : ∀ j, j < m → nb j = ltr w j) (hm : m ≤ 4) : ∀ (c fuel i : Nat), c < fuel → i + c = b 4 → fL_X0_targetNamed_2 fuel k 67 (nI i) M = some (tgI (tgO b w m c i), M) := by
  obtain ⟨t1, t2, t3, t4, t5, t6⟩ := tgtF d.2.1 h3
  obtain ⟨x1, x2, x3, x4⟩ := d.2.2.2.2.2.2.1.2.2.2.2.2 h3
  have hn := d.2.2.2.2.2.2.2.2
  have ha := (alD_of hk).2.2.2.1
  intro c
  induction c with
  | zero =>
    intro fuel i hf hi
    obtain ⟨f, rfl⟩ : ∃ f, fuel = f + 1 := ⟨fuel - 1, by omega⟩
    rw [fL_X0_targetNamed_2, x1, if_pos (nI_le (by omega) (by omega)), tgO, tgI]
  | succ c ih =>
    intro fuel i hf hi
    obtain ⟨f, rfl⟩ : ∃ f, fuel = f + 1 := ⟨fuel - 1, by omega⟩
    obtain ⟨y1, y2⟩ := t3 i (by omega)
    have lt := d.lt (tPos b i) (by omega)
    rw [fL_X0_targetNamed_2, x1, if_neg (nI_ge (by omega) (by omega)), ha, if_pos (inB_nI (by omega) (by omega)), nI_clamp (by omega), x2 i (by omega), s_byteD d (p := tPos b i) (by omega) rfl, Option.bind_some]
    dsimp only
    rw [f_X1_size, R.1, Option.bind_some]
    dsimp only
    by_cases e1 : b (tPos b i) = m
    · have ea := s_agrees (M := M) (c := m) R d.1 (fr := 0) (of := tPos b i + 1) (by omega) (by omega) (by omega)
      rw [ag_bg hb m 0 (by omega) (by omega)] at ea
      rw [if_pos (by rw [e1]), f_X1_size, R.1, Option.bind_some]
      dsimp only
      rw [nI_1, show f_X1_agrees 67 0 (k + 1) (nI (tPos b i + 1)) (nI m) M = _ from ea, Option.bind_some]
      dsimp only
      by_cases e2 : bgO b (tPos b i + 1) w m 0 = true
      · rw [if_pos e2, if_neg (by decide), tgO_t ⟨e1, e2⟩, f_X1_size, R.1, Option.bind_some, nI_add, tgI]
      · rw [if_neg e2, if_pos rfl, tgO_f (fun q => e2 q.2), nI_1]
        exact ih f (i + 1) (by omega) (by omega)
    · rw [if_neg (fun q => e1 ((nI_eq (by omega) (by omega)).mp q)), tgO_f (fun q => e1 q.1), nI_1]
      exact ih f (i + 1) (by omega) (by omega)
theorem s_target (hk : isK k 0) (d : Dc M k n b s) (h3 : 3 ≤ b 0) (R : RW M 67 m nb) (hb : ∀ j, j < m → nb j = ltr w j) (hm : m ≤ 4) : f_X0_targetNamed k 67 M = some (tgI (tgO b w m (b 4) 0), M) := by
  rw [f_X0_targetNamed]
  exact s_targetL hk d h3 R hb hm (b 4) 200 0 (by have := (tgtF d.2.1 h3).2.1; omega) (by omega)
theorem s_place (hk : isK k 0) (d : Dc M k n b s) (h3 : 3 ≤ b 0) {i : Nat} (hi : i < dN b) : f_X0_delegationPlace k (nI i) M = some (nI (dQ b i), M) := by
  obtain ⟨t1, t2, t3, t4, t5, t6⟩ := tgtF d.2.1 h3
  obtain ⟨x1, x2, x3, x4⟩ := d.2.2.2.2.2.2.1.2.2.2.2.2 h3
  have ha := (alD_of hk).2.2.2.2
  unfold dN at hi
  rw [f_X0_delegationPlace, if_neg (nI_pos (by omega)), x3, if_neg (nI_ge hi (by omega)), ha, if_pos (inB_nI (by omega) (by omega)), nI_clamp (by omega), x4 i hi, dQ]
theorem dl_of (d : Dc M k n b s) (h3 : 3 ≤ b 0) {i : Nat} (hi : i < dN b) : DL b n (dQ b i) ∧ n ≤ 120 := ⟨(tgtF d.2.1 h3).2.2.2.2.2 i hi, d.2.2.2.2.2.2.2.2⟩
theorem s_delegate (hk : isK k 0) (d : Dc M k n b s) (h3 : 3 ≤ b 0) {i : Nat} (hi : i < dN b) : f_X0_delegateOf k (nI i) M = some (nI (b (dQ b i)), M) := by
  obtain ⟨⟨⟨K1, -, -, -⟩, l1, l2, l3, l4⟩, l5⟩ := dl_of d h3 hi
  rw [f_X0_delegateOf, s_place hk d h3 hi, Option.bind_some]
  dsimp only
  rw [s_byteD d (p := dQ b i) (by omega) rfl, Option.bind_some]
theorem s_final (hk : isK k 0) (d : Dc M k n b s) (h3 : 3 ≤ b 0) {i : Nat} (hi : i < dN b) : f_X0_isFinal k (nI i) M = some (if decide (b (dQ b i + 1) = 1) = true then 1 else 0, M) := by
  obtain ⟨⟨⟨K1, -, -, -⟩, l1, l2, l3, l4⟩, l5⟩ := dl_of d h3 hi
  have := d.lt (dQ b i + 1) (by omega)
  rw [f_X0_isFinal, s_place hk d h3 hi, Option.bind_some]
  dsimp only
  rw [s_byteD d (p := dQ b i + 1) (by omega) (nI_1 _), Option.bind_some]
  dsimp only
  by_cases e : b (dQ b i + 1) = 1
  · rw [if_pos (by rw [e]; rfl), if_pos (decide_eq_true e)]
  · rw [if_neg (show ¬ nI (b (dQ b i + 1)) = (1 : Int32) from fun q => e ((nI_eq (b := 1) (by omega) (by omega)).mp q)), if_neg (by simpa using e)]
theorem s_dkeys (hk : isK k 0) (d : Dc M k n b s) (h3 : 3 ≤ b 0) {i : Nat} (hi : i < dN b) : f_X0_delegatedKeySet k (nI i) M = some (nI (dQ b i + 2), M) := by
  rw [f_X0_delegatedKeySet, s_place hk d h3 hi, Option.bind_some]
  dsimp only
  rw [show nI (dQ b i) + 2 = nI (dQ b i + 2) from nI_add _ 2]
theorem s_delegates (hk : isK k 0) (d : Dc M k n b s) (h3 : 3 ≤ b 0) (R : RW M 67 m nb) (hb : ∀ j, j < m → nb j = ltr w j) (hm : m ≤ 4) {i : Nat} (hi : i < dN b) : f_X0_delegates k (nI i) 67 M = some (if pfO b w m i = true then 1 else 0, M) := by
  obtain ⟨⟨⟨K1, K2, K3, K4⟩, l1, l2, l3, l4⟩, l5⟩ := dl_of d h3 hi
  rw [show dQ b i + 2 + 1 = dQ b i + 3 by omega] at K1 K3 K4
  rw [f_X0_delegates, s_dkeys hk d h3 hi, Option.bind_some]
  dsimp only
  rw [nI_1, s_byteD d (p := dQ b i + 2 + 1) (by omega) rfl, Option.bind_some]
  dsimp only
  have hp : (nI (dQ b i + 2) + 2) + nI (b (dQ b i + 2 + 1)) = nI (pre b i) := by
    rw [show nI (dQ b i + 2) + 2 = nI (dQ b i + 2 + 2) from nI_add _ 2, nI_add, pre, show dQ b i + 2 + 1 = dQ b i + 3 by omega, show dQ b i + 2 + 2 = dQ b i + 4 by omega]
  rw [hp, s_byteD d (p := pre b i) (by rw [pre]; omega) rfl, Option.bind_some]
  dsimp only
  have l1' : pre b i + 1 + b (pre b i) ≤ n := by rw [pre]; omega
  have l4' : b (pre b i) ≤ 3 := l4
  have ea := s_agrees (M := M) (c := b (pre b i)) R d.1 (fr := 0) (of := pre b i + 1) (by omega) (by omega) (by omega)
  have : ag nb m b n 0 (pre b i + 1) (b (pre b i)) 0 = pfO b w m i := by
    unfold pfO
    by_cases e : b (pre b i) ≤ m
    · rw [ag_bg hb _ 0 (by omega) (by omega)]; simp [e]
    · have nt : ¬ ag nb m b n 0 (pre b i + 1) (b (pre b i)) 0 = true := fun q => by
        have := ((ag_iff _ _).mp q m (by omega) (by omega)).1
        omega
      simp [e]
      simpa using nt
  rw [this] at ea
  rw [nI_1, show f_X1_agrees 67 0 (k + 1) (nI (pre b i + 1)) (nI (b (pre b i))) M = _ from ea, Option.bind_some, if_pos bB_ite]
end SR1
theorem szO_eq {n : Nat → Nat} {b : Nat → Nat → Nat} {r s : Nat} (h : pSig (b r) (n r) = some s) : szO n b r = s := by rw [szO, h]; rfl
theorem s_may {M : Me} {n : Nat → Nat} {b : Nat → Nat → Nat} {h : Nat → Bool} {ck vs is : Int32} {w : Int64} {m r i v : Nat} {nb : Nat → Nat} (C : CInv M n b h ck vs is) (W : WF n b h) (h2 : h 2 = true) (R : RW M 67 m nb) (hb : ∀ j, j < m → nb j = ltr w j) (hm : m ≤ 4) (hr : r < 7) (h3 : 3 ≤ r) (hh : h r = true) (hi : i < dN (b r)) (hv : v < 128) (h71 : M 71 2 = nI v) : f_X2_mayFollow (7 * r) (nI i) M = some (if foO n b h ck w m r i v = true then 1 else 0, M) := by
  obtain ⟨s, d, z⟩ := C.dc W hr hh
  have z3 : 3 ≤ b r 0 := by omega
  obtain ⟨⟨KK, l1, l2, l3, l4⟩, l5⟩ := dl_of d z3 hi
  have hk := isK7 hr
  rw [f_X2_mayFollow, s_delegate hk d z3 hi, Option.bind_some]
  dsimp only
  rw [s_delegates hk d z3 R hb hm hi, Option.bind_some]
  dsimp only
  unfold foO
  cases q1 : pfO (b r) w m i with
  | false => rfl
  | true =>
    rw [if_pos rfl, if_neg (by decide)]
    simp only [h71]
    have bt := bt_tst v hv (b r (dQ (b r) i)) (by omega)
    cases q2 : v.testBit (b r (dQ (b r) i)) with
    | true => rw [if_neg (fun q => by rw [bt.mp q] at q2; cases q2)]; rfl
    | false =>
      rw [if_pos (bt.mpr q2), s_fresh C W h2 (r := b r (dQ (b r) i)) (by omega) rfl, Option.bind_some]
      dsimp only
      cases q3 : frO b h ck (b r (dQ (b r) i)) with
      | false => rfl
      | true =>
        have hh' : h (b r (dQ (b r) i)) = true := st_h (by unfold frO at q3; simp only [Bool.and_eq_true] at q3; exact q3.1)
        obtain ⟨s', d', z'⟩ := C.dc W (r := b r (dQ (b r) i)) (by omega) hh'
        rw [if_pos rfl, if_neg (by decide), s_docOf rfl (by omega), Option.bind_some]
        dsimp only
        rw [if_pos (kB7 (by omega)), f_X0_row, Option.bind_some]
        dsimp only
        rw [if_pos (kB71 hr), s_dkeys hk d z3 hi, Option.bind_some]
        dsimp only
        rw [s_signed d' d.1 KK, Option.bind_some, szO_eq d'.2.1]
        cases sgO (b (b r (dQ (b r) i))) s' (b r) (dQ (b r) i + 2) <;> rfl
