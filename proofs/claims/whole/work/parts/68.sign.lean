/-! sign -/
theorem low8_nI {v : Nat} (h : v < 256) : low8 (nI v) = v := by
  unfold low8; rw [pk_tn (by omega)]; omega
theorem s_replace {M : Me} {n i : Nat} {b : Nat → Nat} (h : RW M 63 n b) (hi : i < n) (x : Int32) : ∃ M', f_X1_replace 63 (nI i) x M = some (0, M') ∧ RW M' 63 n (va_up b i (low8 x)) ∧ (∀ a, a ≠ 63 → a ≠ 64 → M' a = M a) := by
  obtain ⟨r1, r2, r3, r4⟩ := h
  refine ⟨up M 64 i (nI (low8 x)), ?_, ⟨by rw [up_k (by decide)]; exact r1, r2, r3, fun j hj => ?_⟩, fun a g1 g2 => up_row g2⟩
  · rw [f_X1_replace, if_neg (nI_pos (by omega)), r1, if_neg (nI_ge hi (by omega)), al_64, if_pos (inB_nI (by omega) (by omega)), nI_clamp (by omega), low8_and]
  · by_cases e : j = i
    · subst e; rw [up_s]; simp only [va_up, if_pos]; exact ⟨trivial, low8_lt x⟩
    · rw [up_j e]; simp only [va_up, if_neg e]; exact r4 j hj
theorem m_set {M : Me} {n i v : Nat} {b : Nat → Nat} (h : RM M 7 n b) (hi : i < n) (hv : v < 256) : RM (up M 74 (840 + i) (nI v)) 7 n (va_up b i v) ∧ FT M (up M 74 (840 + i) (nI v)) := by
  obtain ⟨r1, r2, r3, r4⟩ := h
  refine ⟨⟨by rw [up_k (by decide)]; exact r1, r2, r3, fun j hj => ?_⟩, FT.u74 (by omega)⟩
  by_cases e : j = i
  · subst e; rw [show 120 * 7 + j = 840 + j by omega, up_s]; simp only [va_up, if_pos]; exact ⟨trivial, hv⟩
  · rw [up_j (by omega)]; simp only [va_up, if_neg e]; exact r4 j hj
theorem va_twice {α : Type} {b : Nat → α} {i : Nat} {u v : α} : va_up (va_up b i u) i v = va_up b i v := by
  funext j
  by_cases e : j = i
  · simp only [va_up, if_pos e]
  · simp only [va_up, if_neg e]
/-- the key and its four bytes, on both sides -/
theorem s_tail {M : Me} {n s m : Nat} {b b' : Nat → Nat} {key : Int32} (h : RW M 63 n b) (hn : n + 5 ≤ 120) (R : RW M 57 m b') (hs : s ≤ m) (h14 : M 56 14 = nI s) : ∃ M', ((f_X1_append 63 key M).bind fun q13 => ((f_X0_signatureOf 56 key q13.2).bind fun q14 => ((f_X1_appendWord 63 q14.1 q14.2).bind fun q15 => some q15.2))) = some M' ∧ RW M' 63 (n + 5) (apN (fourS (mxO b' s (key + 1))) 4 0 (n + 1) (va_up b n (low8 key))) ∧ (∀ a, a ≠ 63 → a ≠ 64 → M' a = M a) := by
  obtain ⟨M1, e1, w1, f1⟩ := s_append h (by rw [al_64]; omega) key
  have R1 : RW M1 57 m b' := R.keep (f1 _ (by decide) (by decide)) (f1 _ (by decide) (by decide))
  have e2 : f_X0_signatureOf 56 key M1 = some (mxO b' s (key + 1), M1) := by
    rw [f_X0_signatureOf, f1 56 (by decide) (by decide), h14, s_mix (k := 56 + 1) R1 hs, Option.bind_some]
  obtain ⟨M3, e3, w3, f3⟩ := s_word w1 (by rw [al_64]; omega) (mxO b' s (key + 1))
  refine ⟨M3, ?_, w3, fun a g1 g2 => (f3 a g1 g2).trans (f1 a g1 g2)⟩
  rw [e1, Option.bind_some]
  dsimp only
  rw [e2, Option.bind_some]
  dsimp only
  rw [e3, Option.bind_some]
theorem m_tail {M : Me} {n : Nat} {b : Nat → Nat} {key v : Int32} (h : RM M 7 n b) (hn : n + 5 ≤ 120) : ∃ M', ((f_X5_add key M).bind fun q5 => ((f_X5_addFour v q5.2).bind fun q6 => some q6.2)) = some M' ∧ RM M' 7 (n + 5) (apN (fourS v) 4 0 (n + 1) (va_up b n (low8 key))) ∧ FT M M' := by
  obtain ⟨M1, e1, w1, f1⟩ := m_add h (by omega) key
  obtain ⟨M3, e3, w3, f3⟩ := m_four w1 (by omega) v
  refine ⟨M3, ?_, w3, f1.tr f3⟩
  rw [e1, Option.bind_some]
  dsimp only
  rw [e3, Option.bind_some]
theorem tl_s {α : Type} {M M' : Me} {key : Int32} {g : Me → Option α} (h : ((f_X1_append 63 key M).bind fun q13 => ((f_X0_signatureOf 56 key q13.2).bind fun q14 => ((f_X1_appendWord 63 q14.1 q14.2).bind fun q15 => some q15.2))) = some M') : ((f_X1_append 63 key M).bind fun q13 => ((f_X0_signatureOf 56 key q13.2).bind fun q14 => ((f_X1_appendWord 63 q14.1 q14.2).bind fun q15 => g q15.2))) = g M' := by
  obtain ⟨q1, e1, h1⟩ := ob h
  obtain ⟨q2, e2, h2⟩ := ob h1
  obtain ⟨q3, e3, h3⟩ := ob h2
  cases h3
  rw [e1, Option.bind_some, e2, Option.bind_some, e3, Option.bind_some]
theorem tl_m {α : Type} {M M' : Me} {key v : Int32} {g : Me → Option α} (h : ((f_X5_add key M).bind fun q5 => ((f_X5_addFour v q5.2).bind fun q6 => some q6.2)) = some M') : ((f_X5_add key M).bind fun q5 => ((f_X5_addFour v q5.2).bind fun q6 => g q6.2)) = g M' := by
  obtain ⟨q1, e1, h1⟩ := ob h
  obtain ⟨q2, e2, h2⟩ := ob h1
  cases h2
  rw [e1, Option.bind_some, e2, Option.bind_some]
theorem add73 {x : Int32} {M : Me} {q : Int32 × Me} (h : f_X5_add x M = some q) : q.2 73 = M 73 := by
  rw [f_X5_add] at h
  obtain ⟨_, h⟩ := ifg h
  cases h
  dsimp only
  rw [up_row (by decide), up_row (by decide)]
theorem four73L {v : Int32} : ∀ (fuel : Nat) (i : Int32) (M : Me) (q : Int32 × Me), fL_X5_addFour_3 fuel v i M = some q → q.2 73 = M 73 := by
  intro fuel
  induction fuel with
  | zero => intro i M q h; cases h
  | succ f ih =>
    intro i M q h
    rw [fL_X5_addFour_3] at h
    by_cases c : i < 0
    · rw [if_pos c] at h; cases h; rfl
    · rw [if_neg c] at h
      obtain ⟨q1, e1, h1⟩ := ob h
      exact (ih _ _ _ h1).trans (add73 e1)
theorem tl73 {M M' : Me} {key v : Int32} (h : ((f_X5_add key M).bind fun q5 => ((f_X5_addFour v q5.2).bind fun q6 => some q6.2)) = some M') : M' 73 = M 73 := by
  obtain ⟨q1, e1, h1⟩ := ob h
  obtain ⟨q2, e2, h2⟩ := ob h1
  cases h2
  rw [f_X5_addFour] at e2
  obtain ⟨q3, e3, h3⟩ := ob e2
  cases h3
  exact (four73L _ _ _ _ e3).trans (add73 e1)
theorem sign_ok (key : Int32) : OkB (f_L_sign key) (f_X5_sign key) := by
  rintro M ⟨n, b, h, ck, vs, is, W, C, D⟩
  by_cases c1 : key < 0
  · refine ⟨1, 0, M, up M 73 0 1, ?_, ?_, up_s, fun q => absurd q (by decide), n, b, h, ck, vs, is, W, C.thrown, D.thrown⟩
    · rw [f_L_sign, f_X4_sign, if_pos c1]; rfl
    · rw [f_X5_sign, if_pos c1]
  by_cases c2 : key ≤ 9
  case neg =>
    refine ⟨1, 0, M, up M 73 0 1, ?_, ?_, up_s, fun q => absurd q (by decide), n, b, h, ck, vs, is, W, C.thrown, D.thrown⟩
    · rw [f_L_sign, f_X4_sign, if_neg c1, if_neg c2]; rfl
    · rw [f_X5_sign, if_neg c1, if_neg c2]
  obtain ⟨M1, e1, r1, f1, C1, k1⟩ := s_readD C
  have hn := (D.1 7 (by omega)).2.1
  have room : ∀ {x : Int32} {g : Nat}, x = nI g → g < 100 → f_X1_hasRoomFor 63 x M1 = some (if n 7 + g ≤ 120 then 1 else 0, M1) := by
    intro x g hx hg
    subst hx
    rw [f_X1_hasRoomFor, al_64, C1.1.1, show (nI 120 : Int32) - nI (n 7) = nI (120 - n 7) from pk_sub hn]
    by_cases c : n 7 + g ≤ 120
    · rw [if_neg (nI_nlt (by omega) (by omega)), if_pos c]
    · rw [if_pos (nI_lt (by omega) (by omega)), if_neg c]
  -- the reference's reading, wherever it begins
  have rd : ∀ Ma : Me, MInv Ma n b h ck vs is → ∃ M3 M4, f_X5_isDocument 7 (up Ma 73 0 0) = some (if pDoc (b 7) (n 7) = some (n 7) then 1 else 0, M3) ∧ f_X5_passSigned 7 M3 = some (if pSig (b 7) (n 7) = none then 0 else 1, M4) ∧ FP (up Ma 73 0 0) M4 ∧ MInv M4 n b h ck vs is ∧ (∀ s, pSig (b 7) (n 7) = some s → M4 73 10 = nI (840 + s) ∧ M4 73 7 = nI (840 + s) ∧ M4 73 8 = nI (840 + n 7) ∧ s ≤ n 7) := by
    intro Ma Da
    have Da' := Da.thrown (v := 0)
    obtain ⟨M3, g1, g2, -⟩ := ms_doc (t := 7) (by omega) (Da'.1 7 (by omega))
    have D3 := Da'.fp g2
    obtain ⟨M4, g3, g4, g5, g6⟩ := ms_signed (t := 7) (by omega) (D3.1 7 (by omega))
    refine ⟨M3, M4, g1, g3, g2.tr g5, D3.fp g5, fun s hs => ?_⟩
    rw [hs] at g4
    obtain ⟨g8, -, g7⟩ := ms_good g4
    exact ⟨by rw [g6]; exact g7, g7, g4.2.2.1, g8⟩
  have no : ∀ (c : Nat) (k : Int32), f_X4_sign key M = some ((c, 0), M1) → (c = 2 ∧ k = 2 ∨ c = 4 ∧ k = 3) → (∃ M2, f_X5_sign key M1 = some (0, up M2 73 0 k) ∧ MInv M2 n b h ck vs is ∧ FP (up M1 73 0 0) M2) → ∃ k o M1 M2, f_L_sign key M = some (k, M1) ∧ f_X5_sign key M1 = some (o, M2) ∧ M2 73 0 = k ∧ (k = 0 → M2 79 0 = o) ∧ Inv M2 := by
    rintro c k g1 g2 ⟨M2, g3, g4, g5⟩
    refine ⟨k, 0, M1, up M2 73 0 k, ?_, g3, up_s, fun q => ?_, n, b, h, ck, vs, is, W, (C1.thrown.fp g5).thrown, g4.thrown⟩
    · rw [f_L_sign, g1, Option.bind_some]
      rcases g2 with ⟨rfl, rfl⟩ | ⟨rfl, rfl⟩ <;> rfl
    · rcases g2 with ⟨rfl, rfl⟩ | ⟨rfl, rfl⟩ <;> exact absurd q (by decide)
  have D1 : MInv M1 n b h ck vs is := D.km k1
  obtain ⟨M3, M4, x1, x2, x3, D4, x4⟩ := rd M1 D1
  by_cases hb : pSig (b 7) (n 7) = some (n 7)
  · -- bare
    have hd : ¬ pDoc (b 7) (n 7) = some (n 7) := fun q => by
      obtain ⟨s, z1, z2, -⟩ := pDoc_some q
      rw [hb] at z1; cases z1; omega
    have hc : f_X4_sign key M = ((f_X1_hasRoomFor 63 6 M1).bind fun q3 => if q3.1 = 0 then some ((4, 0), q3.2) else ((f_X1_append 63 1 q3.2).bind fun q4 => ((f_X1_append 63 key q4.2).bind fun q5 => ((f_X0_signatureOf 56 key q5.2).bind fun q6 => ((f_X1_appendWord 63 q6.1 q6.2).bind fun q7 => some ((0, (0 + 1)), q7.2)))))) := by
      rw [f_X4_sign, if_neg c1, if_pos c2, e1, Option.bind_some]
      dsimp only
      rw [s_bareD r1, if_pos hb, Option.bind_some]
      dsimp only
      rw [if_neg (by decide)]
    have hm : ∀ Ma : Me, MInv Ma n b h ck vs is → ∃ M4, FP (up Ma 73 0 0) M4 ∧ MInv M4 n b h ck vs is ∧ M4 73 10 = nI (840 + n 7) ∧ f_X5_sign key Ma = (if ((M4 75 7) + 6) ≤ 120 then ((f_X5_mixOf 840 ((M4 73 10) - 840) (key + 1) M4).bind fun q20 => ((f_X5_add 0 q20.2).bind fun q21 => if inB (q21.2 73 10) (al 74) = true then ((f_X5_add key (up q21.2 74 (q21.2 73 10).toNatClampNeg (0 + 1))).bind fun q22 => ((f_X5_addFour q20.1 q22.2).bind fun q23 => some ((0 + 1), q23.2))) else none)) else ((f_X5_fail 3 M4).bind fun q24 => some (q24.1, q24.2))) := by
      intro Ma Da
      obtain ⟨M3, M4, x1, x2, x3, D4, x4⟩ := rd Ma Da
      obtain ⟨y1, y2, y3, y4⟩ := x4 _ hb
      refine ⟨M4, x3, D4, y1, ?_⟩
      rw [f_X5_sign, if_neg c1, if_pos c2, x1, if_neg hd, Option.bind_some]
      dsimp only
      rw [x2, if_neg (by rw [hb]; intro z; cases z), Option.bind_some]
      dsimp only
      rw [if_neg (by decide), if_pos (by rw [y2, y3]), if_pos rfl]
    rw [room (x := 6) (g := 6) rfl (by omega), Option.bind_some] at hc
    dsimp only at hc
    by_cases c3 : n 7 + 6 ≤ 120
    · rw [if_pos c3, if_neg (by decide)] at hc
      obtain ⟨Mb, e2, w2, f2⟩ := s_append C1.1 (by rw [al_64]; omega) 1
      rw [e2, Option.bind_some] at hc
      dsimp only at hc
      have rr := r1.keep (M' := Mb) (fun a g1 g2 => f2 a (by omega) (by omega))
      obtain ⟨Mc, e3, w3, f3⟩ := s_tail (key := key) w2 (by omega) rr.1 (Nat.le_refl _) (rr.2.2.2 _ hb).2
      rw [tl_s (g := fun z => some (((0 : Nat), ((0 : Int32) + 1)), z)) e3] at hc
      have f23 : ∀ a, a ≠ 63 → a ≠ 64 → Mc a = M1 a := fun a g1 g2 => (f3 a g1 g2).trans (f2 a g1 g2)
      have Dd : MInv (up Mc 79 0 1) n b h ck vs is := (D1.keep (M' := Mc) (fun a g1 g2 => f23 a (by omega) (by omega))).out
      obtain ⟨M5, g1, g2, g3, g4⟩ := hm _ Dd
      obtain ⟨M6, e6, w6, f6⟩ := m_add (g2.1 7 (by omega)) (by omega) 0
      obtain ⟨w7, f7⟩ := m_set (v := 1) w6 (Nat.lt_succ_self _) (by omega)
      rw [va_twice] at w7
      obtain ⟨M8, e8, w8, f8⟩ := m_tail (key := key) (v := mxO (b 7) (n 7) (key + 1)) w7 (by omega)
      have mx : f_X5_mixOf 840 ((M5 73 10) - 840) (key + 1) M5 = some (mxO (b 7) (n 7) (key + 1), M5) := by
        refine m_mix (t := 7) (g2.1 7 (by omega)) (Nat.le_refl _) (key + 1) rfl ?_
        rw [g3, show (840 : Int32) = nI 840 from rfl, pk_sub (by omega), show 840 + n 7 - 840 = n 7 by omega]
      have F : FT M5 M8 := (f6.tr f7).tr f8
      have K5 : KM (up Mc 79 0 1) M5 := fun a ha => by rw [g1.row (by omega), up_row (by omega)]
      refine ⟨0, 1, up Mc 79 0 1, M8, ?_, ?_, ?_, fun _ => ?_, va_up n 7 (n 7 + 1 + 5), va_up b 7 _, h, ck, vs, is, W.draft (fun t ht => ⟨by simp [va_up, show ¬ t = 7 by omega], by simp [va_up, show ¬ t = 7 by omega]⟩), (((C1.draft f23 w3).out.keep K5).keep F.km), ?_⟩
      · rw [f_L_sign, hc, Option.bind_some]; rfl
      · rw [g4, (g2.1 7 (by omega)).1, if_pos (show nI (n 7) + 6 ≤ (120 : Int32) by rw [show nI (n 7) + 6 = nI (n 7 + 6) from nI_add _ 6]; exact nI_le (b := 120) (by omega) (by omega)), mx, Option.bind_some]
        dsimp only
        rw [e6, Option.bind_some]
        dsimp only
        have i10 : M6 73 10 = nI (840 + n 7) := by rw [f6 73 10 (by omega) (by omega) (by omega)]; exact g3
        rw [if_pos (show inB (M6 73 10) (al 74) = true by rw [i10, al74]; exact inB_nI (by omega) (by omega)), i10, nI_clamp (by omega), show ((0 : Int32) + 1) = nI 1 from rfl, tl_m (g := fun z => some (nI 1, z)) e8]; rfl
      · rw [tl73 e8, up_row (by decide), show M6 73 = M5 73 from add73 e6, g1 73 0 (by omega), up_s]
      · rw [F 79 0 (by omega) (by omega) (by omega), g1.row (by decide), up_row (by decide), up_s]
      · have := g2.draft F w8
        rw [show low8 1 = 1 by decide] at *
        exact this
    · rw [if_neg c3, if_pos rfl] at hc
      obtain ⟨M5, g1, g2, g3, g4⟩ := hm M1 D1
      refine no 4 3 hc (Or.inr ⟨rfl, rfl⟩) ⟨M5, ?_, g2, g1⟩
      rw [g4, (g2.1 7 (by omega)).1, if_neg (show ¬ nI (n 7) + 6 ≤ (120 : Int32) by rw [show nI (n 7) + 6 = nI (n 7 + 6) from nI_add _ 6]; exact nI_ge (a := 120) (by omega) (by omega)), f_X5_fail]; rfl
  · -- not bare
    have hc0 : f_X4_sign key M = ((f_X0_isWhole 56 M1).bind fun q8 => if q8.1 = 0 then some ((2, 0), q8.2) else ((f_X0_signatureCount 56 q8.2).bind fun q9 => if 6 ≤ q9.1 then some ((4, 0), q9.2) else ((f_X1_hasRoomFor 63 5 q9.2).bind fun q10 => if q10.1 = 0 then some ((4, 0), q10.2) else ((f_X0_signedSize 56 q10.2).bind fun q11 => ((f_X1_replace 63 q11.1 (q9.1 + 1) q11.2).bind fun q12 => ((f_X1_append 63 key q12.2).bind fun q13 => ((f_X0_signatureOf 56 key q13.2).bind fun q14 => ((f_X1_appendWord 63 q14.1 q14.2).bind fun q15 => some ((0, (q9.1 + 1)), q15.2))))))))) := by
      rw [f_X4_sign, if_neg c1, if_pos c2, e1, Option.bind_some]
      dsimp only
      rw [s_bareD r1, if_neg hb, Option.bind_some]
      dsimp only
      rw [if_pos rfl]
    by_cases hd : pDoc (b 7) (n 7) = some (n 7)
    · obtain ⟨s, d⟩ := r1.dc hd
      obtain ⟨d1, d2, -, d4, d5, d6, -, d8, d9⟩ := id d
      have ecnt : f_X0_signatureCount 56 M1 = some (nI (b 7 s), M1) := by
        rw [f_X0_signatureCount, d8, s_byteAt d1 (by omega), if_pos d4, Option.bind_some]
      rw [s_wholeD r1, if_pos hd, Option.bind_some] at hc0
      dsimp only at hc0
      rw [if_neg (by decide), ecnt, Option.bind_some] at hc0
      dsimp only at hc0
      have hm : ∀ Ma : Me, MInv Ma n b h ck vs is → ∃ M4, FP (up Ma 73 0 0) M4 ∧ MInv M4 n b h ck vs is ∧ M4 73 10 = nI (840 + s) ∧ f_X5_sign key Ma = (if (nI (b 7 s)) = 6 then ((f_X5_fail 3 M4).bind fun q9 => some (q9.1, q9.2)) else if ((M4 75 7) + 5) ≤ 120 then ((f_X5_mixOf 840 ((M4 73 10) - 840) (key + 1) M4).bind fun q10 => if inB (q10.2 73 10) (al 74) = true then ((f_X5_add key (up q10.2 74 (q10.2 73 10).toNatClampNeg ((nI (b 7 s)) + 1))).bind fun q11 => ((f_X5_addFour q10.1 q11.2).bind fun q12 => some (((nI (b 7 s)) + 1), q12.2))) else none) else ((f_X5_fail 3 M4).bind fun q13 => some (q13.1, q13.2))) := by
        intro Ma Da
        obtain ⟨M3, M4, x1, x2, x3, D4, x4⟩ := rd Ma Da
        obtain ⟨y1, y2, y3, y4⟩ := x4 _ d2
        refine ⟨M4, x3, D4, y1, ?_⟩
        obtain ⟨z1, z2⟩ := m_at (D4.1 7 (by omega)) (p := s) y1 d4
        rw [f_X5_sign, if_neg c1, if_pos c2, x1, if_pos hd, Option.bind_some]
        dsimp only
        rw [x2, if_neg (by rw [d2]; intro z; cases z), Option.bind_some]
        dsimp only
        rw [if_neg (by decide), if_neg (by rw [y2, y3]; intro z; have := (nI_eq (by omega) (by omega)).mp z; omega), if_neg (by decide), if_pos z1]
        simp only [z2]
      by_cases c6 : b 7 s = 6
      · rw [if_pos (show (6 : Int32) ≤ nI (b 7 s) from nI_le (a := 6) (by omega) (by omega))] at hc0
        obtain ⟨M5, g1, g2, g3, g4⟩ := hm M1 D1
        refine no 4 3 hc0 (Or.inr ⟨rfl, rfl⟩) ⟨M5, ?_, g2, g1⟩
        rw [g4, if_pos (by rw [c6]; rfl), f_X5_fail]; rfl
      rw [if_neg (show ¬ (6 : Int32) ≤ nI (b 7 s) from nI_ge (b := 6) (by omega) (by omega)), room (x := 5) (g := 5) rfl (by omega), Option.bind_some] at hc0
      dsimp only at hc0
      have n6 : ¬ nI (b 7 s) = (6 : Int32) := fun q => c6 ((nI_eq (b := 6) (by omega) (by omega)).mp q)
      by_cases c3 : n 7 + 5 ≤ 120
      · rw [if_pos c3, if_neg (by decide), f_X0_signedSize, d8, Option.bind_some] at hc0
        dsimp only at hc0
        obtain ⟨Mb, e2, w2, f2⟩ := s_replace C1.1 d4 (nI (b 7 s) + 1)
        rw [e2, Option.bind_some] at hc0
        dsimp only at hc0
        have rr := r1.keep (M' := Mb) (fun a g1 g2 => f2 a (by omega) (by omega))
        obtain ⟨Mc, e3, w3, f3⟩ := s_tail (key := key) w2 (by omega) rr.1 (by omega) (rr.2.2.2 _ d2).2
        rw [tl_s (g := fun z => some (((0 : Nat), (nI (b 7 s) + 1)), z)) e3] at hc0
        have f23 : ∀ a, a ≠ 63 → a ≠ 64 → Mc a = M1 a := fun a g1 g2 => (f3 a g1 g2).trans (f2 a g1 g2)
        have Dd : MInv (up Mc 79 0 (nI (b 7 s) + 1)) n b h ck vs is := (D1.keep (M' := Mc) (fun a g1 g2 => f23 a (by omega) (by omega))).out
        obtain ⟨M5, g1, g2, g3, g4⟩ := hm _ Dd
        have l8b : low8 (nI (b 7 s) + 1) = b 7 s + 1 := by rw [nI_1, low8_nI (by omega)]
        obtain ⟨w7, f7⟩ := m_set (v := b 7 s + 1) (g2.1 7 (by omega)) d4 (by omega)
        obtain ⟨M8, e8, w8, f8⟩ := m_tail (key := key) (v := mxO (b 7) s (key + 1)) w7 (by omega)
        have mx : f_X5_mixOf 840 ((M5 73 10) - 840) (key + 1) M5 = some (mxO (b 7) s (key + 1), M5) := by
          refine m_mix (t := 7) (g2.1 7 (by omega)) (by omega) (key + 1) rfl ?_
          rw [g3, show (840 : Int32) = nI 840 from rfl, pk_sub (by omega), show 840 + s - 840 = s by omega]
        have F : FT M5 M8 := f7.tr f8
        have K5 : KM (up Mc 79 0 (nI (b 7 s) + 1)) M5 := fun a ha => by rw [g1.row (by omega), up_row (by omega)]
        refine ⟨0, nI (b 7 s) + 1, up Mc 79 0 (nI (b 7 s) + 1), M8, ?_, ?_, ?_, fun _ => ?_, va_up n 7 (n 7 + 5), va_up b 7 _, h, ck, vs, is, W.draft (fun t ht => ⟨by simp [va_up, show ¬ t = 7 by omega], by simp [va_up, show ¬ t = 7 by omega]⟩), (((C1.draft f23 w3).out.keep K5).keep F.km), ?_⟩
        · rw [f_L_sign, hc0, Option.bind_some]; rfl
        · rw [g4, if_neg n6, (g2.1 7 (by omega)).1, if_pos (show nI (n 7) + 5 ≤ (120 : Int32) by rw [show nI (n 7) + 5 = nI (n 7 + 5) from nI_add _ 5]; exact nI_le (b := 120) (by omega) (by omega)), mx, Option.bind_some]
          dsimp only
          rw [if_pos (show inB (M5 73 10) (al 74) = true by rw [g3, al74]; exact inB_nI (by omega) (by omega)), g3, nI_clamp (by omega)]
          simp only [nI_1]
          rw [tl_m (g := fun z => some (nI (b 7 s + 1), z)) e8]
        · rw [tl73 e8, up_row (by decide), g1 73 0 (by omega), up_s]
        · rw [F 79 0 (by omega) (by omega) (by omega), g1.row (by decide), up_row (by decide), up_s]
        · rw [l8b]
          exact g2.draft F w8
      · rw [if_neg c3, if_pos rfl] at hc0
        obtain ⟨M5, g1, g2, g3, g4⟩ := hm M1 D1
        refine no 4 3 hc0 (Or.inr ⟨rfl, rfl⟩) ⟨M5, ?_, g2, g1⟩
        rw [g4, if_neg n6, (g2.1 7 (by omega)).1, if_neg (show ¬ nI (n 7) + 5 ≤ (120 : Int32) by rw [show nI (n 7) + 5 = nI (n 7 + 5) from nI_add _ 5]; exact nI_ge (a := 120) (by omega) (by omega)), f_X5_fail]; rfl
    · rw [s_wholeD r1, if_neg hd, Option.bind_some] at hc0
      refine no 2 2 hc0 (Or.inl ⟨rfl, rfl⟩) ⟨M4, ?_, D4, x3⟩
      rw [f_X5_sign, if_neg c1, if_pos c2, x1, if_neg hd, Option.bind_some]
      dsimp only
      rw [x2, Option.bind_some]
      dsimp only
      cases hs : pSig (b 7) (n 7) with
      | none => rw [if_pos rfl, if_pos rfl, if_pos rfl, f_X5_fail]; rfl
      | some s =>
        obtain ⟨y1, y2, y3, y4⟩ := x4 _ hs
        rw [if_neg (show ¬ (if some s = none then (0 : Int32) else 1) = 0 by rw [if_neg (by intro z; cases z)]; decide), if_neg (by rw [y2, y3]; intro z; have := (nI_eq (by omega) (by omega)).mp z; exact hb (by rw [hs]; congr 1; omega)), if_pos rfl, f_X5_fail]; rfl
