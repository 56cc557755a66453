/-! documents that stand, and their signatures -/
theorem al70 : al 70 = 7 := by decide
theorem s_docOf {r : Nat} {M : Me} {x : Int32} (hx : x = nI r) (hr : r < 7) : f_X3_documentOf x M = some (7 * r, M) := by
  subst hx
  rw [f_X3_documentOf, if_neg (nI_pos (by omega)), if_neg (show ¬ (6 : Int32) < nI r from nI_nlt (a := 6) (by omega) (by omega)), al70, if_pos (inB_nI hr (by omega)), nI_clamp (by omega)]
theorem kB7 {r : Nat} (hr : r < 7) : kB (7 * r) 0 = true := (by decide : ∀ r, r < 7 → kB (7 * r) 0 = true) r hr
theorem kB71 {r : Nat} (hr : r < 7) : kB (7 * r + 1) 1 = true := (by decide : ∀ r, r < 7 → kB (7 * r + 1) 1 = true) r hr
theorem isK7 {r : Nat} (hr : r < 7) : isK (7 * r) 0 := kB_is (kB7 hr)
theorem bB_ite {c : Prop} [Decidable c] : bB (if c then (1 : Int32) else 0) = true := by
  by_cases h : c
  · rw [if_pos h]; decide
  · rw [if_neg h]; decide
/-- a document that is whole, in its cells -/
def Dc (M : Me) (k n : Nat) (b : Nat → Nat) (s : Nat) : Prop := RW M (k + 1) n b ∧ pSig b n = some s ∧ pDoc b n = some n ∧ s < n ∧ b s ≤ 6 ∧ n = s + 1 + 5 * b s ∧ DocF M k b ∧ M k 14 = nI s ∧ n ≤ 120
theorem Rd.dc {M : Me} {k n : Nat} {b : Nat → Nat} (h : Rd M k n b) (hd : pDoc b n = some n) : ∃ s, Dc M k n b s := by
  obtain ⟨s, h1, h2, h3, h4, h5⟩ := pDoc_some hd
  obtain ⟨r1, r2, r3, r4⟩ := h
  obtain ⟨d1, d2⟩ := r4 s h1
  exact ⟨s, r1, h1, hd, h2, h3, h4, d1, d2, by obtain ⟨_, q1, q2, _⟩ := r1; omega⟩
theorem CInv.dc {M : Me} {n : Nat → Nat} {b : Nat → Nat → Nat} {h : Nat → Bool} {ck vs is : Int32} (C : CInv M n b h ck vs is) (W : WF n b h) {r : Nat} (hr : r < 7) (hh : h r = true) : ∃ s, Dc M (7 * r) (n r) (b r) s ∧ b r 0 = r := by
  obtain ⟨s, hs⟩ := ((C.2.2.2.1 r hr).2 hh).dc (W r hr hh).1
  exact ⟨s, hs, (W r hr hh).2⟩
theorem s_whole {M : Me} {n : Nat → Nat} {b : Nat → Nat → Nat} {h : Nat → Bool} {ck vs is : Int32} (C : CInv M n b h ck vs is) {r : Nat} (hr : r < 7) : f_X0_isWhole (7 * r) M = some (if h r = true then 1 else 0, M) := by
  rw [f_X0_isWhole, (C.2.2.2.1 r hr).1, if_pos bB_ite]
theorem m_at {M : Me} {t n p : Nat} {b : Nat → Nat} (R : RM M t n b) {x : Int32} (hx : x = nI (120 * t + p)) (hp : p < n) : inB x (al 74) = true ∧ M 74 x.toNatClampNeg = nI (b p) := by
  subst hx
  obtain ⟨r1, r2, r3, r4⟩ := R
  exact ⟨by rw [al74]; exact inB_nI (by omega) (by omega), by rw [nI_clamp (by omega)]; exact (r4 p hp).1⟩
theorem n120 (t : Nat) : (120 : Int32) * nI t = nI (120 * t) := pk_mul 120 t
theorem m_ver {M : Me} {t n : Nat} {b : Nat → Nat} (R : RM M t n b) (hn : 1 < n) : f_X5_versionOf (nI t) M = some (nI (b 1), M) := by
  obtain ⟨a1, a2⟩ := m_at R (x := 120 * nI t + 1) (p := 1) (by rw [n120]; exact nI_add _ 1) hn
  rw [f_X5_versionOf, if_pos a1, a2]
theorem m_end {M : Me} {t n : Nat} {b : Nat → Nat} (R : RM M t n b) (hn : 3 < n) : f_X5_endOf (nI t) M = some (nI (256 * b 2 + b 3), M) := by
  obtain ⟨a1, a2⟩ := m_at R (x := 120 * nI t + 2) (p := 2) (by rw [n120]; exact nI_add _ 2) (by omega)
  obtain ⟨c1, c2⟩ := m_at R (x := 120 * nI t + 3) (p := 3) (by rw [n120]; exact nI_add _ 3) hn
  rw [f_X5_endOf, if_pos a1, if_pos c1, a2, c2, show (256 : Int32) * nI (b 2) = nI (256 * b 2) from pk_mul 256 (b 2), nI_add]
/-- trusted, and not ended -/
def st (b : Nat → Nat → Nat) (h : Nat → Bool) (ck : Int32) (r : Nat) : Bool := h r && decide (ck < nI (256 * b r 2 + b r 3))
theorem s_ended {M : Me} {k n s : Nat} {b : Nat → Nat} (d : Dc M k n b s) : f_X3_findsEnded k M = some (if M 69 2 < nI (256 * b 2 + b 3) then 0 else 1, M) := by
  obtain ⟨-, -, -, -, -, -, ⟨-, -, d3, -⟩, -⟩ := d
  rw [f_X3_findsEnded, f_X0_end, d3, Option.bind_some]
  dsimp only
  by_cases c : M 69 2 < nI (256 * b 2 + b 3)
  · rw [if_pos c, if_pos c]
  · rw [if_neg c, if_neg c]
theorem s_force {M : Me} {n : Nat → Nat} {b : Nat → Nat → Nat} {h : Nat → Bool} {ck vs is : Int32} (C : CInv M n b h ck vs is) (W : WF n b h) {r : Nat} (hr : r < 7) {x : Int32} (hx : x = nI r) : f_X3_isInForce x M = some (if st b h ck r = true then 1 else 0, M) := by
  rw [f_X3_isInForce, s_docOf hx hr, Option.bind_some]
  dsimp only
  rw [if_pos (kB7 hr), s_whole C hr, Option.bind_some]
  dsimp only
  cases hh : h r with
  | false => rw [if_pos (by decide), if_neg (by simp [st, hh])]
  | true =>
    obtain ⟨s, d, -⟩ := C.dc W hr hh
    rw [if_pos rfl, if_neg (by decide), s_ended d, Option.bind_some, C.2.2.2.2.1]
    dsimp only
    by_cases c : ck < nI (256 * b r 2 + b r 3)
    · rw [if_pos c, if_pos rfl, if_pos (by simp [st, hh, c])]
    · rw [if_neg c, if_neg (by decide), if_neg (by simp [st, hh, c])]
theorem m_over {M : Me} {t n : Nat} {b : Nat → Nat} (R : RM M t n b) (hn : 3 < n) : f_X5_isOver (nI t) M = some (if M 73 4 < nI (256 * b 2 + b 3) then 0 else 1, M) := by
  rw [f_X5_isOver, m_end R hn, Option.bind_some]
  dsimp only
  by_cases c : M 73 4 < nI (256 * b 2 + b 3)
  · rw [if_pos c, if_pos c]
  · rw [if_neg c, if_neg c]
theorem WF.n4 {n : Nat → Nat} {b : Nat → Nat → Nat} {h : Nat → Bool} (W : WF n b h) {r : Nat} (hr : r < 7) (hh : h r = true) : 4 ≤ n r ∧ 1 ≤ b r 1 ∧ ∃ s, pSig (b r) (n r) = some s := by
  obtain ⟨s, h1, -⟩ := pDoc_some (W r hr hh).1
  obtain ⟨g1, -, g3, -⟩ := pSig_some h1
  exact ⟨g1, g3, s, h1⟩
theorem m_stands {M : Me} {n : Nat → Nat} {b : Nat → Nat → Nat} {h : Nat → Bool} {ck vs is : Int32} (D : MInv M n b h ck vs is) (W : WF n b h) {r : Nat} (hr : r < 7) {x : Int32} (hx : x = nI r) : f_X5_stands x M = some (if st b h ck r = true then 1 else 0, M) := by
  subst hx
  rw [f_X5_stands, al76, if_pos (inB_nI hr (by omega)), nI_clamp (by omega), D.2.1 r hr]
  cases hh : h r with
  | false => rw [if_pos (by decide), if_neg (by simp [st, hh])]
  | true =>
    rw [if_pos rfl, if_neg (by decide), m_over (D.1 r (by omega)) (by have := (W.n4 hr hh).1; omega), Option.bind_some, D.2.2.1]
    dsimp only
    by_cases c : ck < nI (256 * b r 2 + b r 3)
    · rw [if_pos c, if_pos rfl, if_pos (by simp [st, hh, c])]
    · rw [if_neg c, if_neg (by decide), if_neg (by simp [st, hh, c])]
theorem s_ver {M : Me} {k n s : Nat} {b : Nat → Nat} (d : Dc M k n b s) : f_X0_version k M = some (nI (b 1), M) := by
  rw [f_X0_version, d.2.2.2.2.2.2.1.2.1]
theorem s_role {M : Me} {k n s : Nat} {b : Nat → Nat} (d : Dc M k n b s) : f_X0_role k M = some (nI (b 0), M) := by
  rw [f_X0_role, d.2.2.2.2.2.2.1.1]
theorem trusted_ok (x e : Int32) : OkB (f_L_trusted x e) (f_X5_trusted x e) := by
  rintro M ⟨n, b, h, ck, vs, is, W, C, D⟩
  have no : ∀ {P Q : Prop}, f_L_trusted x e M = some (1, M) → f_X5_trusted x e M = some (0, up M 73 0 1) → ∃ k o M1 M2, f_L_trusted x e M = some (k, M1) ∧ f_X5_trusted x e M1 = some (o, M2) ∧ M2 73 0 = k ∧ (k = 0 → M2 79 0 = o) ∧ Inv M2 := fun e1 e2 =>
    ⟨1, 0, M, up M 73 0 1, e1, e2, up_s, fun q => absurd q (by decide), n, b, h, ck, vs, is, W, C.thrown, D.thrown⟩
  by_cases c1 : x < 0
  · refine no (P := True) (Q := True) ?_ ?_
    · rw [f_L_trusted, f_X4_trusted, if_pos c1]; rfl
    · rw [f_X5_trusted, if_pos c1]
  by_cases c2 : x ≤ 6
  · obtain ⟨r, hr, rfl⟩ := nI_of2 (M := 6) (n := 6) (by decide) c1 c2
    have yes : ∀ o : Int32, f_X4_trusted (nI r) e M = some ((0, o), M) → (∀ M' : Me, MInv M' n b h ck vs is → f_X5_trusted (nI r) e M' = some (o, up M' 73 0 0)) → ∃ k o M1 M2, f_L_trusted (nI r) e M = some (k, M1) ∧ f_X5_trusted (nI r) e M1 = some (o, M2) ∧ M2 73 0 = k ∧ (k = 0 → M2 79 0 = o) ∧ Inv M2 := fun o e1 e2 =>
      ⟨0, o, up M 79 0 o, up (up M 79 0 o) 73 0 0, by rw [f_L_trusted, e1, Option.bind_some]; rfl, e2 _ D.out, up_s, fun _ => by rw [up_k (by decide), up_s], n, b, h, ck, vs, is, W, C.out.thrown, D.out.thrown⟩
    rw [show f_L_trusted (nI r) e = fun M => f_L_trusted (nI r) e M from rfl]
    cases hh : h r with
    | false =>
      refine yes (-1) ?_ (fun M' D' => ?_)
      · rw [f_X4_trusted, if_neg c1, if_pos c2, s_docOf rfl (by omega), Option.bind_some]
        dsimp only
        rw [if_pos (kB7 (by omega)), s_whole C (by omega), Option.bind_some, hh]; rfl
      · rw [f_X5_trusted, if_neg c1, if_pos c2, al76, if_pos (inB_nI (by omega) (by omega)), nI_clamp (by omega), D'.2.1 r (by omega), hh]; rfl
    | true =>
      obtain ⟨s, d, -⟩ := C.dc W (by omega) hh
      have h4 := (W.n4 (by omega) hh).1
      by_cases c3 : e = 0
      · refine yes (nI (b r 1)) ?_ (fun M' D' => ?_)
        · rw [f_X4_trusted, if_neg c1, if_pos c2, s_docOf rfl (by omega), Option.bind_some]
          dsimp only
          rw [if_pos (kB7 (by omega)), s_whole C (by omega), Option.bind_some, hh]
          dsimp only
          rw [if_pos rfl, if_neg (by decide), if_pos c3, s_ver d]; rfl
        · rw [f_X5_trusted, if_neg c1, if_pos c2, al76, if_pos (inB_nI (by omega) (by omega)), nI_clamp (by omega), D'.2.1 r (by omega), hh, if_pos rfl, if_neg (by decide), if_pos c3, m_ver (D'.thrown.1 r (by omega)) (by omega)]; rfl
      · refine yes (nI (256 * b r 2 + b r 3)) ?_ (fun M' D' => ?_)
        · rw [f_X4_trusted, if_neg c1, if_pos c2, s_docOf rfl (by omega), Option.bind_some]
          dsimp only
          rw [if_pos (kB7 (by omega)), s_whole C (by omega), Option.bind_some, hh]
          dsimp only
          rw [if_pos rfl, if_neg (by decide), if_neg c3, f_X0_end, d.2.2.2.2.2.2.1.2.2.1]; rfl
        · rw [f_X5_trusted, if_neg c1, if_pos c2, al76, if_pos (inB_nI (by omega) (by omega)), nI_clamp (by omega), D'.2.1 r (by omega), hh, if_pos rfl, if_neg (by decide), if_neg c3, m_end (D'.thrown.1 r (by omega)) (by omega)]; rfl
  · refine no (P := True) (Q := True) ?_ ?_
    · rw [f_L_trusted, f_X4_trusted, if_neg c1, if_neg c2]; rfl
    · rw [f_X5_trusted, if_neg c1, if_neg c2]
