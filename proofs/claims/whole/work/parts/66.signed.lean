/-! signatures: both sides count the same -/
def wd (b : Nat → Nat) (p : Nat) : Int32 := (((nI (b p) <<< (24 &&& 31)) ||| (nI (b (p + 1)) <<< (16 &&& 31))) ||| (nI (b (p + 2)) <<< (8 &&& 31))) ||| nI (b (p + 3))
theorem wd_eq (b : Nat → Nat) (p : Nat) : (((nI (b p) <<< (24 &&& 31)) ||| (nI (b (p + 1)) <<< (16 &&& 31))) ||| (nI (b (p + 2)) <<< (8 &&& 31))) ||| nI (b (p + 3)) = wd b p := by rw [wd]
theorem s_wordAt {M : Me} {k n p : Nat} {b : Nat → Nat} (R : RW M k n b) (hp : p + 4 ≤ n) : f_X1_wordAt k (nI p) M = some (wd b p, M) := by
  obtain ⟨r1, r2, r3, r4⟩ := R
  have e2 : nI p + 2 = nI (p + 2) := nI_add p 2
  have e3 : nI p + 3 = nI (p + 3) := nI_add p 3
  have e4 : nI n - 4 = nI (n - 4) := pk_sub (b := 4) (by omega)
  rw [f_X1_wordAt, if_neg (nI_pos (by omega)), r1, e4, if_pos (nI_le (by omega) (by omega)), nI_1, e2, e3, if_pos (inB_nI (by omega) (by omega)), if_pos (inB_nI (by omega) (by omega)), if_pos (inB_nI (by omega) (by omega)), if_pos (inB_nI (by omega) (by omega)), nI_clamp (by omega), nI_clamp (by omega), nI_clamp (by omega), nI_clamp (by omega), (r4 p (by omega)).1, (r4 (p + 1) (by omega)).1, (r4 (p + 2) (by omega)).1, (r4 (p + 3) (by omega)).1, wd_eq]
theorem m_wordAt {M : Me} {t n p : Nat} {b : Nat → Nat} (R : RM M t n b) {x : Int32} (hx : x = nI (120 * t + p)) (hp : p + 4 ≤ n) : f_X5_four x M = some (wd b p, M) := by
  obtain ⟨a1, a2⟩ := m_at R hx (by omega)
  obtain ⟨b1, b2⟩ := m_at R (x := x + 1) (p := p + 1) (by rw [hx]; exact nI_add _ 1) (by omega)
  obtain ⟨c1, c2⟩ := m_at R (x := x + 2) (p := p + 2) (by rw [hx]; exact nI_add _ 2) (by omega)
  obtain ⟨d1, d2⟩ := m_at R (x := x + 3) (p := p + 3) (by rw [hx]; exact nI_add _ 3) (by omega)
  rw [f_X5_four, if_pos a1, if_pos b1, if_pos c1, if_pos d1, a2, b2, c2, d2, wd_eq]
def hsB (b : Nat → Nat) (s : Nat) (key d : Int32) : Nat → Nat → Bool
  | 0, _ => false
  | c + 1, i => if nI (b (s + 1 + 5 * i)) = key ∧ wd b (s + 1 + 5 * i + 1) = d then true else hsB b s key d c (i + 1)
theorem hsB_t {b : Nat → Nat} {s c i : Nat} {key d : Int32} (h : nI (b (s + 1 + 5 * i)) = key ∧ wd b (s + 1 + 5 * i + 1) = d) : hsB b s key d (c + 1) i = true := by rw [hsB, if_pos h]
theorem hsB_f {b : Nat → Nat} {s c i : Nat} {key d : Int32} (h : ¬ (nI (b (s + 1 + 5 * i)) = key ∧ wd b (s + 1 + 5 * i + 1) = d)) : hsB b s key d (c + 1) i = hsB b s key d c (i + 1) := by rw [hsB, if_neg h]
theorem n5 (s i : Nat) : (nI s + 1) + (5 * nI i) = nI (s + 1 + 5 * i) := by
  rw [nI_1, show (5 : Int32) * nI i = nI (5 * i) from pk_mul 5 i, nI_add]
theorem s_hasL {M : Me} {k n s : Nat} {b : Nat → Nat} {key dd : Int32} (d : Dc M k n b s) : ∀ (c fuel i : Nat), c < fuel → i + c = b s → fL_X0_hasSignatureOf_14 fuel k key dd (nI (b s)) (nI i) M = some (if hsB b s key dd c i = true then 1 else 0, M) := by
  obtain ⟨R, -, -, d4, d5, d6, -, d8, d9⟩ := d
  intro c
  induction c with
  | zero =>
    intro fuel i hf hi
    obtain ⟨f, rfl⟩ : ∃ f, fuel = f + 1 := ⟨fuel - 1, by omega⟩
    rw [fL_X0_hasSignatureOf_14, if_pos (nI_le (by omega) (by omega)), hsB, if_neg (by decide)]
  | succ c ih =>
    intro fuel i hf hi
    obtain ⟨f, rfl⟩ : ∃ f, fuel = f + 1 := ⟨fuel - 1, by omega⟩
    rw [fL_X0_hasSignatureOf_14, if_neg (nI_ge (by omega) (by omega)), d8, n5, s_byteAt R (by omega), if_pos (show s + 1 + 5 * i < n by omega), Option.bind_some]
    dsimp only
    by_cases c1 : nI (b (s + 1 + 5 * i)) = key
    · rw [if_pos c1, nI_1, s_wordAt R (by omega), Option.bind_some]
      dsimp only
      by_cases c2 : wd b (s + 1 + 5 * i + 1) = dd
      · rw [if_pos c2, hsB_t ⟨c1, c2⟩, if_pos rfl]
      · rw [if_neg c2, hsB_f (fun q => c2 q.2), nI_1]
        exact ih f (i + 1) (by omega) (by omega)
    · rw [if_neg c1, hsB_f (fun q => c1 q.1), nI_1]
      exact ih f (i + 1) (by omega) (by omega)
def hsO (b : Nat → Nat) (s : Nat) (key : Int32) : Bool := hsB b s key (mxO b s (key + 1)) (b s) 0
theorem hsO_eq (b : Nat → Nat) (s : Nat) (key : Int32) : hsB b s key (mxO b s (key + 1)) (b s) 0 = hsO b s key := by rw [hsO]
theorem s_has {M : Me} {k n s : Nat} {b : Nat → Nat} (d : Dc M k n b s) (key : Int32) : f_X0_hasSignatureOf k key M = some (if hsO b s key = true then 1 else 0, M) := by
  have e := s_hasL (key := key) (dd := mxO b s (key + 1)) d (b s) 200 0 (by have := d.2.2.2.2.1; omega) (by omega)
  obtain ⟨R, -, -, d4, d5, d6, -, d8, d9⟩ := id d
  have e1 : f_X0_signatureOf k key M = some (mxO b s (key + 1), M) := by
    rw [f_X0_signatureOf, d8, s_mix R (by omega), Option.bind_some]
  have e2 : f_X0_signatureCount k M = some (nI (b s), M) := by
    rw [f_X0_signatureCount, d8, s_byteAt R (by omega), if_pos d4, Option.bind_some]
  rw [hsO_eq] at e
  rw [f_X0_hasSignatureOf, e1, Option.bind_some]
  dsimp only
  rw [e2, Option.bind_some]
  exact e
theorem m_hasL1 {M : Me} {t n s : Nat} {b : Nat → Nat} {key dd : Int32} (R : RM M t n b) (d4 : s < n) (hs : M 73 10 = nI (120 * t + s)) : ∀ (c fuel i : Nat), c < fuel → i + c = b s → b s ≤ 6 → fL_X5_hasSignature_27 fuel key dd 1 (nI i) M = some (1, M) := by
  obtain ⟨a1, a2⟩ := m_at R hs d4
  intro c
  induction c with
  | zero =>
    intro fuel i hf hi h6
    obtain ⟨f, rfl⟩ : ∃ f, fuel = f + 1 := ⟨fuel - 1, by omega⟩
    rw [fL_X5_hasSignature_27, if_pos a1, a2, if_pos (nI_le (by omega) (by omega))]
  | succ c ih =>
    intro fuel i hf hi h6
    obtain ⟨f, rfl⟩ : ∃ f, fuel = f + 1 := ⟨fuel - 1, by omega⟩
    rw [fL_X5_hasSignature_27, if_pos a1, a2, if_neg (nI_ge (by omega) (by omega)), if_neg (by decide), nI_1]
    exact ih f (i + 1) (by omega) (by omega) h6
theorem m_hasL {M : Me} {t n s : Nat} {b : Nat → Nat} {key dd : Int32} (R : RM M t n b) (d4 : s < n) (d5 : b s ≤ 6) (d6 : n = s + 1 + 5 * b s) (hs : M 73 10 = nI (120 * t + s)) : ∀ (c fuel i : Nat), c < fuel → i + c = b s → fL_X5_hasSignature_27 fuel key dd 0 (nI i) M = some (if hsB b s key dd c i = true then 1 else 0, M) := by
  obtain ⟨a1, a2⟩ := m_at R hs d4
  intro c
  induction c with
  | zero =>
    intro fuel i hf hi
    obtain ⟨f, rfl⟩ : ∃ f, fuel = f + 1 := ⟨fuel - 1, by omega⟩
    rw [fL_X5_hasSignature_27, if_pos a1, a2, if_pos (nI_le (by omega) (by omega)), hsB, if_neg (by decide)]
  | succ c ih =>
    intro fuel i hf hi
    obtain ⟨f, rfl⟩ : ∃ f, fuel = f + 1 := ⟨fuel - 1, by omega⟩
    have hx : ((M 73 10) + 1) + (5 * nI i) = nI (120 * t + (s + 1 + 5 * i)) := by rw [hs, n5, show 120 * t + s + 1 + 5 * i = 120 * t + (s + 1 + 5 * i) by omega]
    obtain ⟨c1, c2⟩ := m_at R hx (by omega)
    rw [fL_X5_hasSignature_27, if_pos a1, a2, if_neg (nI_ge (by omega) (by omega)), if_pos rfl, if_pos c1, c2]
    by_cases k1 : nI (b (s + 1 + 5 * i)) = key
    · rw [if_pos k1, m_wordAt R (p := s + 1 + 5 * i + 1) (x := ((M 73 10) + 1) + (5 * nI i) + 1) (by rw [hx]; exact nI_add _ 1) (by omega), Option.bind_some]
      dsimp only
      by_cases k2 : wd b (s + 1 + 5 * i + 1) = dd
      · rw [if_pos k2, hsB_t ⟨k1, k2⟩, if_pos rfl, nI_1]
        exact m_hasL1 R d4 hs c f (i + 1) (by omega) (by omega) d5
      · rw [if_neg k2, hsB_f (fun q => k2 q.2), nI_1]
        exact ih f (i + 1) (by omega) (by omega)
    · rw [if_neg k1, hsB_f (fun q => k1 q.1), nI_1]
      exact ih f (i + 1) (by omega) (by omega)
theorem m_has {M : Me} {t n s : Nat} {b : Nat → Nat} (R : RM M t n b) (d4 : s < n) (d5 : b s ≤ 6) (d6 : n = s + 1 + 5 * b s) (hs : M 73 10 = nI (120 * t + s)) (key : Int32) : f_X5_hasSignature (nI t) key M = some (if hsO b s key = true then 1 else 0, M) := by
  have e := m_hasL (key := key) (dd := mxO b s (key + 1)) R d4 d5 d6 hs (b s) 200 0 (by omega) (by omega)
  rw [hsO_eq] at e
  have e1 : f_X5_mixOf (120 * nI t) ((M 73 10) - (120 * nI t)) (key + 1) M = some (mxO b s (key + 1), M) := by
    refine m_mix R (m := s) (by omega) (key + 1) (n120 t) ?_
    rw [hs, n120, pk_sub (by omega), show 120 * t + s - 120 * t = s by omega]
  rw [f_X5_hasSignature, e1, Option.bind_some]
  dsimp only
  rw [show fL_X5_hasSignature_27 200 key (mxO b s (key + 1)) 0 0 M = _ from e, Option.bind_some, if_pos bB_ite]
def cnB (f : Nat → Bool) : Nat → Nat → Nat → Nat
  | 0, _, a => a
  | c + 1, i, a => cnB f c (i + 1) (if f i = true then a + 1 else a)
theorem cnB_t {f : Nat → Bool} {c i a : Nat} (h : f i = true) : cnB f (c + 1) i a = cnB f c (i + 1) (a + 1) := by rw [cnB, if_pos h]
theorem cnB_f {f : Nat → Bool} {c i a : Nat} (h : ¬ f i = true) : cnB f (c + 1) i a = cnB f c (i + 1) a := by rw [cnB, if_neg h]
theorem cnB_le {f : Nat → Bool} : ∀ (c i a : Nat), cnB f c i a ≤ a + c := by
  intro c
  induction c with
  | zero => intro i a; exact Nat.le_refl _
  | succ c ih =>
    intro i a
    by_cases h : f i = true
    · rw [cnB_t h]; have := ih (i + 1) (a + 1); omega
    · rw [cnB_f h]; have := ih (i + 1) a; omega
/-- whether a document is signed as a key set of another text asks -/
def sgO (b : Nat → Nat) (s : Nat) (b' : Nat → Nat) (p : Nat) : Bool := decide (b' p ≤ cnB (fun i => hsO b s (nI (b' (p + 2 + i)))) (b' (p + 1)) 0 0)
theorem s_sgL {M : Me} {k n s v n' p : Nat} {b b' : Nat → Nat} {y : Int32} (d : Dc M k n b s) (R : RW M v n' b') (K : KS b' n' p) : ∀ (c fuel i a : Nat), c < fuel → i + c = b' (p + 1) → fL_X0_isSignedAsAsked_21 fuel k v (nI p) y (nI (b' (p + 1))) (nI a) (nI i) M = some (nI (cnB (fun i => hsO b s (nI (b' (p + 2 + i)))) c i a), M) := by
  obtain ⟨K1, K2, K3, K4⟩ := K
  have hn : n' ≤ 120 := by obtain ⟨_, q1, q2, _⟩ := R; omega
  intro c
  induction c with
  | zero =>
    intro fuel i a hf hi
    obtain ⟨f, rfl⟩ : ∃ f, fuel = f + 1 := ⟨fuel - 1, by omega⟩
    rw [fL_X0_isSignedAsAsked_21, if_pos (nI_le (by omega) (by omega)), cnB]
  | succ c ih =>
    intro fuel i a hf hi
    obtain ⟨f, rfl⟩ : ∃ f, fuel = f + 1 := ⟨fuel - 1, by omega⟩
    rw [fL_X0_isSignedAsAsked_21, if_neg (nI_ge (by omega) (by omega)), show nI p + 2 = nI (p + 2) from nI_add p 2, nI_add, s_byteAt R (by omega), if_pos (show p + 2 + i < n' by omega), Option.bind_some]
    dsimp only
    rw [s_has d, Option.bind_some]
    dsimp only
    by_cases g : hsO b s (nI (b' (p + 2 + i))) = true
    · rw [if_pos g, if_neg (by decide), cnB_t (f := fun i => hsO b s (nI (b' (p + 2 + i)))) g, nI_1, nI_1]
      exact ih f (i + 1) (a + 1) (by omega) (by omega)
    · rw [if_neg g, if_pos rfl, cnB_f (f := fun i => hsO b s (nI (b' (p + 2 + i)))) g, nI_1]
      exact ih f (i + 1) a (by omega) (by omega)
theorem s_signed {M : Me} {k n s v n' p : Nat} {b b' : Nat → Nat} (d : Dc M k n b s) (R : RW M v n' b') (K : KS b' n' p) : f_X0_isSignedAsAsked k v (nI p) M = some (if sgO b s b' p = true then 1 else 0, M) := by
  have hn : n' ≤ 120 := by obtain ⟨_, q1, q2, _⟩ := R; omega
  have e := s_sgL (y := nI (b' p)) d R K (b' (p + 1)) 200 0 0 (by have := K.2.2.2; omega) (by omega)
  obtain ⟨K1, K2, K3, K4⟩ := K
  have le := cnB_le (f := fun i => hsO b s (nI (b' (p + 2 + i)))) (b' (p + 1)) 0 0
  rw [f_X0_isSignedAsAsked, s_byteAt R (by omega), if_pos (show p < n' by omega), Option.bind_some]
  dsimp only
  rw [nI_1, s_byteAt R (by omega), if_pos (show p + 1 < n' by omega), Option.bind_some]
  dsimp only
  rw [show fL_X0_isSignedAsAsked_21 200 k v (nI p) (nI (b' p)) (nI (b' (p + 1))) 0 0 M = _ from e, Option.bind_some]
  dsimp only
  by_cases c : b' p ≤ cnB (fun i => hsO b s (nI (b' (p + 2 + i)))) (b' (p + 1)) 0 0
  · rw [if_neg (nI_nlt c (by omega)), if_pos (by rw [sgO]; exact decide_eq_true c)]
  · rw [if_pos (nI_lt (by omega) (by omega)), if_neg (by rw [sgO]; simp only [decide_eq_true_eq]; exact c)]
theorem m_sgL {M : Me} {t n s t' n' p : Nat} {b b' : Nat → Nat} (R : RM M t n b) (d4 : s < n) (d5 : b s ≤ 6) (d6 : n = s + 1 + 5 * b s) (hs : M 73 10 = nI (120 * t + s)) (R' : RM M t' n' b') (K : KS b' n' p) : ∀ (c fuel i a : Nat), c < fuel → i + c = b' (p + 1) → fL_X5_isSigned_12 fuel (nI t) (nI (120 * t' + p)) 1 (nI a) (nI i) M = some (nI (cnB (fun i => hsO b s (nI (b' (p + 2 + i)))) c i a), M) := by
  obtain ⟨K1, K2, K3, K4⟩ := K
  obtain ⟨a1, a2⟩ := m_at R' (x := nI (120 * t' + p) + 1) (p := p + 1) (nI_add _ 1) (by omega)
  intro c
  induction c with
  | zero =>
    intro fuel i a hf hi
    obtain ⟨f, rfl⟩ : ∃ f, fuel = f + 1 := ⟨fuel - 1, by omega⟩
    rw [fL_X5_isSigned_12, if_pos a1, a2, if_pos (nI_le (by omega) (by omega)), cnB]
  | succ c ih =>
    intro fuel i a hf hi
    obtain ⟨f, rfl⟩ : ∃ f, fuel = f + 1 := ⟨fuel - 1, by omega⟩
    obtain ⟨c1, c2⟩ := m_at R' (x := nI (120 * t' + p) + 2 + nI i) (p := p + 2 + i) (by rw [show nI (120 * t' + p) + 2 = nI (120 * t' + p + 2) from nI_add _ 2, nI_add, show 120 * t' + p + 2 + i = 120 * t' + (p + 2 + i) by omega]) (by omega)
    rw [fL_X5_isSigned_12, if_pos a1, a2, if_neg (nI_ge (by omega) (by omega)), if_neg (by decide), if_pos c1, c2, m_has R d4 d5 d6 hs, Option.bind_some]
    dsimp only
    by_cases g : hsO b s (nI (b' (p + 2 + i))) = true
    · rw [if_pos g, if_neg (by decide), cnB_t (f := fun i => hsO b s (nI (b' (p + 2 + i)))) g, nI_1, nI_1]
      exact ih f (i + 1) (a + 1) (by omega) (by omega)
    · rw [if_neg g, if_pos rfl, cnB_f (f := fun i => hsO b s (nI (b' (p + 2 + i)))) g, nI_1]
      exact ih f (i + 1) a (by omega) (by omega)
theorem m_signed {M : Me} {t n s t' n' p : Nat} {b b' : Nat → Nat} (ht : t ≤ 7) (R : RM M t n b) (hd : pDoc b n = some n) (hsg : pSig b n = some s) (R' : RM M t' n' b') (K : KS b' n' p) {x y : Int32} (hx : x = nI t) (hy : y = nI (120 * t' + p)) : ∃ M', f_X5_isSigned x y M = some (if sgO b s b' p = true then 1 else 0, M') ∧ FP M M' := by
  subst hx; subst hy
  obtain ⟨s', g1, d4, d5, d6, -⟩ := pDoc_some hd
  rw [hsg] at g1; cases g1
  obtain ⟨M1, e1, f1, k1⟩ := ms_doc ht R
  have R1 := R.fp f1
  have R1' := R'.fp f1
  have hs := k1 s hsg
  have e := m_sgL R1 d4 d5 d6 hs R1' K (b' (p + 1)) 200 0 0 (by have := K.2.2.2; omega) (by omega)
  obtain ⟨K1, K2, K3, K4⟩ := K
  have le := cnB_le (f := fun i => hsO b s (nI (b' (p + 2 + i)))) (b' (p + 1)) 0 0
  obtain ⟨a1, a2⟩ := m_at R1' (p := p) rfl (by omega)
  refine ⟨M1, ?_, f1⟩
  rw [f_X5_isSigned, e1, if_pos hd, Option.bind_some]
  dsimp only
  rw [show fL_X5_isSigned_12 200 (nI t) (nI (120 * t' + p)) 1 0 0 M1 = _ from e, Option.bind_some]
  dsimp only
  rw [if_neg (by decide), if_pos a1]
  simp only [a2]
  by_cases c : b' p ≤ cnB (fun i => hsO b s (nI (b' (p + 2 + i)))) (b' (p + 1)) 0 0
  · rw [if_neg (nI_nlt c (by omega)), if_pos (by rw [sgO]; exact decide_eq_true c)]
  · rw [if_pos (nI_lt (by omega) (by omega)), if_neg (by rw [sgO]; simp only [decide_eq_true_eq]; exact c)]
