/-- what a document's object holds of its row -/
def DocF (M : Me) (k : Nat) (b : Nat → Nat) : Prop := M k 9 = nI (b 0) ∧ M k 10 = nI (b 1) ∧ M k 11 = nI (256 * b 2 + b 3) ∧ (b 0 = 0 → ∀ j, j < 4 → M (k + 3) j = nI (ksP b j)) ∧ (b 0 = 2 → ∀ r, r < 7 → M (k + 4) r = vI (sv b r (b 4))) ∧
  (3 ≤ b 0 → M k 12 = nI (b 4) ∧ (∀ j, j < b 4 → M (k + 5) j = nI (tPos b j)) ∧ M k 13 = nI (b (tPos b (b 4))) ∧ ∀ j, j < b (tPos b (b 4)) → M (k + 6) j = nI (dP b (tPos b (b 4) + 1) j))
def FD (k : Nat) (M M' : Me) : Prop := ∀ a, a ≠ k → a ≠ k + 3 → a ≠ k + 4 → a ≠ k + 5 → a ≠ k + 6 → M' a = M a
theorem FD.tr {k : Nat} {M M1 M2 : Me} (h : FD k M M1) (g : FD k M1 M2) : FD k M M2 := fun a c d e f g' => (g a c d e f g').trans (h a c d e f g')
theorem F5.fd {k : Nat} {M M' : Me} (h : F5 k M M') : FD k M M' := fun a c _ _ _ _ => h.row c
theorem FD.upk {k j : Nat} {M : Me} {v : Int32} : FD k M (up M k j v) := fun a c _ _ _ _ => up_row c
theorem FX.fd {k x f : Nat} {M M' : Me} (h : FX k x f M M') (hx : x = k + 3 ∨ x = k + 4 ∨ x = k + 5 ∨ x = k + 6) : FD k M M' := fun a c d e f g => h.row (by omega) c
def alD (k : Nat) : Prop := al (k + 2) = 120 ∧ al (k + 3) = 4 ∧ al (k + 4) = 7 ∧ al (k + 5) = 4 ∧ al (k + 6) = 3
theorem alD_of {k : Nat} (hk : isK k 0) : alD k := (by decide : ∀ k, k < 80 → kd k = 0 → al (k + 2) = 120 ∧ al (k + 3) = 4 ∧ al (k + 4) = 7 ∧ al (k + 5) = 4 ∧ al (k + 6) = 3) k hk.1 hk.2
theorem pN_st {b : Nat → Nat} {n lo hi : Nat} {st : Option Nat} {q : Nat} (h : st.bind (pN b n lo hi) = some q) : ∃ p, st = some p ∧ pN b n lo hi p = some (p + 1) ∧ q = p + 1 := by
  cases st with
  | none => cases h
  | some p => rw [Option.bind_some] at h; exact ⟨p, rfl, by rw [h, (pN_some h).2.2.2], (pN_some h).2.2.2⟩
theorem cs_signed {k n : Nat} {b : Nat → Nat} (ha : alD k) (M : Me) (h : CS M k n b (some 0)) : ∃ M', f_X0_readSigned k M = some (0, M') ∧ CS M' k n b (pSig b n) ∧ FD k M M' ∧ (∀ q, pSig b n = some q → DocF M' k b) := by
  obtain ⟨a2, a3, a4, a5, a6⟩ := ha
  have hlt := cs_lt h
  obtain ⟨v1, M1, e1, h1, f1, r1, r2, r3⟩ := cs_next (lo := 0) (hi := 6) (lo' := 0) (hi' := 6) rfl rfl (by omega) (by omega) h
  obtain ⟨v2, M2, e2, h2, f2, -, s2, s3⟩ := cs_next (lo := 1) (hi := 255) (lo' := 1) (hi' := 255) rfl rfl (by omega) (by omega) (h1.upo (a := k) (j := 9) (v := nI v1) (Or.inr (by omega)) (by omega) (by omega))
  obtain ⟨v3, M3, e3, h3, f3, -, t2, t3⟩ := cs_next (lo := 0) (hi := 255) (lo' := 0) (hi' := 255) rfl rfl (by omega) (by omega) (h2.upo (a := k) (j := 10) (v := nI v2) (Or.inr (by omega)) (by omega) (by omega))
  obtain ⟨v4, M4, e4, h4, f4, -, u2, u3⟩ := cs_next (lo := 0) (hi := 255) (lo' := 0) (hi' := 255) rfl rfl (by omega) (by omega) h3
  have hE : ((nI v3 <<< (8 &&& 31)) ||| nI v4) = nI (256 * v3 + v4) := end_eq (by omega) (by omega)
  have h5 : CS (up M4 k 11 (nI (256 * v3 + v4))) k n b ((((some 0).bind (pN b n 0 6)).bind (pN b n 1 255)).bind (pN b n 0 255) |>.bind (pN b n 0 255)) := h4.upo (Or.inr (by omega)) (by omega) (by omega)
  have n9 : ∀ j, ¬ (j = 5 ∨ j = 6) → M4 k j = up M2 k 10 (nI v2) k j := fun j hj => ((f3.tr f4) k j (fun q => hj q.2))
  have m9 : M4 k 9 = nI v1 := by rw [n9 9 (by omega), up_j (by decide), f2 k 9 (by omega), up_s]
  have m10 : M4 k 10 = nI v2 := by rw [n9 10 (by omega), up_s]
  have hFD : FD k M (up M4 k 11 (nI (256 * v3 + v4))) := (((((f1.fd).tr FD.upk).tr f2.fd).tr FD.upk).tr (f3.tr f4).fd).tr FD.upk
  -- the place behind the head
  have head : ∀ q, ((((some 0).bind (pN b n 0 6)).bind (pN b n 1 255)).bind (pN b n 0 255) |>.bind (pN b n 0 255)) = some q → q = 4 ∧ v1 = b 0 ∧ v2 = b 1 ∧ v3 = b 2 ∧ v4 = b 3 ∧ b 0 ≤ 6 := by
    intro q hq
    obtain ⟨p3, g3, c3, rfl⟩ := pN_st hq
    obtain ⟨p2, g2, c2, rfl⟩ := pN_st g3
    obtain ⟨p1, g1, c1, rfl⟩ := pN_st g2
    obtain ⟨p0, g0, c0, rfl⟩ := pN_st g1
    cases g0
    exact ⟨rfl, r3 0 rfl c0, s3 1 g1 c1, t3 2 g2 c2, u3 3 g3 c3, (pN_some c0).2.2.1⟩
  obtain ⟨S4, hS4⟩ : ∃ S4 : Option Nat, S4 = ((((some 0).bind (pN b n 0 6)).bind (pN b n 1 255)).bind (pN b n 0 255) |>.bind (pN b n 0 255)) := ⟨_, rfl⟩
  rw [← hS4] at h5 head
  have sig : pSig b n = S4.bind (pBody b n (b 0)) := by
    rw [hS4, pSig, Option.bind_some]
    rcases pN_is (b := b) (n := n) (lo := 0) (hi := 6) (p := 0) with d | d
    · rw [d]; rfl
    · rw [d, Option.bind_some, Option.bind_some]
      rcases pN_is (b := b) (n := n) (lo := 1) (hi := 255) (p := 0 + 1) with d1 | d1
      · rw [d1]; rfl
      · have := (pN_some d1).1
        rw [d1, Option.bind_some, Option.bind_some, ← pAny_sk hlt.2 2 _ (by omega)]
        simp only [pAny, ob_bind, Option.bind_some]
  obtain ⟨M5, hM5⟩ : ∃ M5 : Me, M5 = up M4 k 11 (nI (256 * v3 + v4)) := ⟨_, rfl⟩
  rw [← hM5] at h5 hFD
  have k9 : M5 k 9 = nI v1 := by rw [hM5, up_j (by decide)]; exact m9
  have k10 : M5 k 10 = nI v2 := by rw [hM5, up_j (by decide)]; exact m10
  have k11 : M5 k 11 = nI (256 * v3 + v4) := by rw [hM5, up_s]
  have base : ∀ M6 : Me, (∀ j, j = 9 ∨ j = 10 ∨ j = 11 → M6 k j = M5 k j) → ∀ q, S4 = some q → M6 k 9 = nI (b 0) ∧ M6 k 10 = nI (b 1) ∧ M6 k 11 = nI (256 * b 2 + b 3) := by
    intro M6 hj q hq
    obtain ⟨-, x1, x2, x3, x4, -⟩ := head q hq
    rw [hj 9 (by omega), hj 10 (by omega), hj 11 (by omega), k9, k10, k11, x1, x2, x3, x4]
    exact ⟨rfl, rfl, rfl⟩
  have sS4 : ∀ {g : Nat → Option Nat} {q : Nat}, S4.bind g = some q → ∃ p, S4 = some p := by
    intro g q hq
    cases S4 with
    | none => cases hq
    | some p => exact ⟨p, rfl⟩
  rw [sig, f_X0_readSigned, e1, Option.bind_some, e2, Option.bind_some, e3, Option.bind_some, e4, Option.bind_some]
  simp only [hE]
  rw [← hM5, m9]
  by_cases c0 : v1 = 0
  · subst c0
    rw [if_pos (show nI 0 = (0 : Int32) from rfl)]
    obtain ⟨M6, e6, h6, f6, w6⟩ := cs_root a3 M5 S4 h5 (fun q hq => (head q hq).1)
    have hsp : S4.bind (pBody b n (b 0)) = S4.bind (pRk b n 4) := by
      cases hc : S4 with
      | none => rfl
      | some q => have := head q hc; rw [Option.bind_some, Option.bind_some, ← this.2.1, pBody, if_pos rfl]
    rw [hsp]
    refine ⟨M6, by rw [e6]; rfl, h6, hFD.tr (f6.fd (Or.inl rfl)), fun q hq => ?_⟩
    obtain ⟨p, hp⟩ := sS4 hq
    obtain ⟨b1, b2, b3⟩ := base M6 (fun j hj => f6 k j (by omega) (by rintro ⟨-, q⟩; omega)) p hp
    have hb0 := (head p hp).2.1
    exact ⟨b1, b2, b3, fun _ => w6 q hq, fun h => by omega, fun h => by omega⟩
  rw [if_neg (show ¬ nI v1 = (0 : Int32) from fun q => c0 ((nI_eq (b := 0) (by omega) (by omega)).mp q))]
  by_cases c1 : v1 = 1
  · subst c1
    rw [if_pos (show nI 1 = (1 : Int32) from rfl)]
    obtain ⟨w, M6, e6, h6, f6, -⟩ := cs_next (lo := 1) (hi := 255) (lo' := 1) (hi' := 255) rfl rfl (by omega) (by omega) h5
    obtain ⟨M7, e7, h7, f7⟩ := cs_skip (c := 4) (c' := 4) rfl (by omega) _ _ h6
    have hsp : S4.bind (pBody b n (b 0)) = (S4.bind (pN b n 1 255)).bind (pSk n 4) := by
      cases hc : S4 with
      | none => rfl
      | some q => have := head q hc; rw [Option.bind_some, Option.bind_some, ← this.2.1, pBody, if_neg (by decide), if_pos rfl]
    rw [hsp]
    refine ⟨M7, by rw [e6, Option.bind_some, e7]; rfl, h7, hFD.tr (f6.tr f7).fd, fun q hq => ?_⟩
    obtain ⟨p, hp⟩ : ∃ p, S4 = some p := by
      cases S4 with
      | none => cases hq
      | some p => exact ⟨p, rfl⟩
    obtain ⟨b1, b2, b3⟩ := base M7 (fun j hj => (f6.tr f7) k j (by omega)) p hp
    have hb0 := (head p hp).2.1
    exact ⟨b1, b2, b3, fun h => by omega, fun h => by omega, fun h => by omega⟩
  rw [if_neg (show ¬ nI v1 = (1 : Int32) from fun q => c1 ((nI_eq (b := 1) (by omega) (by omega)).mp q))]
  by_cases c2 : v1 = 2
  · subst c2
    rw [if_pos (show nI 2 = (2 : Int32) from rfl)]
    obtain ⟨M6, e6, h6, f6, w6⟩ := cs_ent a4 M5 S4 h5 (fun q hq => (head q hq).1)
    have hsp : S4.bind (pBody b n (b 0)) = S4.bind (fun p => (pN b n 1 4 p).bind fun q => pEs b n (b p) 3 3 q) := by
      cases hc : S4 with
      | none => rfl
      | some q => have := head q hc; rw [Option.bind_some, Option.bind_some, ← this.2.1, pBody, if_neg (by decide), if_neg (by decide), if_pos rfl]
    rw [hsp]
    refine ⟨M6, by rw [e6]; rfl, h6, hFD.tr (f6.fd (Or.inr (Or.inl rfl))), fun q hq => ?_⟩
    obtain ⟨p, hp⟩ := sS4 hq
    obtain ⟨b1, b2, b3⟩ := base M6 (fun j hj => f6 k j (by omega) (by rintro ⟨-, q⟩; omega)) p hp
    have hb0 := (head p hp).2.1
    exact ⟨b1, b2, b3, fun h => by omega, fun _ => w6 q hq, fun h => by omega⟩
  rw [if_neg (show ¬ nI v1 = (2 : Int32) from fun q => c2 ((nI_eq (b := 2) (by omega) (by omega)).mp q))]
  obtain ⟨M6, e6, h6, f6, w6⟩ := cs_tgt a5 M5 S4 h5 (fun q hq => (head q hq).1)
  obtain ⟨M7, e7, h7, f7, w7⟩ := cs_del (d0 := tPos b (b 4) + 1) a6 M6 _ h6 (fun q hq => by rw [(w6 q hq).2.1])
  have hsp : S4.bind (pBody b n (b 0)) = (S4.bind (fun p => (pN b n 0 4 p).bind fun q => pTs b n (b p) 0 q)).bind (fun p => (pN b n 0 3 p).bind fun q => pDs b n (b p) 0 q) := by
    cases hc : S4 with
    | none => rfl
    | some q =>
      have := head q hc
      rw [Option.bind_some, Option.bind_some, pBody, if_neg (by omega), if_neg (by omega), if_neg (by omega), ob_bind]
  rw [hsp]
  refine ⟨M7, by rw [e6, Option.bind_some, e7]; rfl, h7, (hFD.tr (f6.fd (by omega))).tr (f7.fd (by omega)), fun q hq => ?_⟩
  obtain ⟨r, hr⟩ : ∃ r, (S4.bind (fun p => (pN b n 0 4 p).bind fun q => pTs b n (b p) 0 q)) = some r := by
    cases hc : (S4.bind (fun p => (pN b n 0 4 p).bind fun q => pTs b n (b p) 0 q)) with
    | none => rw [hc] at hq; cases hq
    | some r => exact ⟨r, rfl⟩
  obtain ⟨p, hp⟩ := sS4 hr
  have x67 : ∀ j, j ≠ 5 → j ≠ 6 → j ≠ 13 → M7 k j = M6 k j := fun j g1 g2 g3 => f7 k j (by omega) (by rintro ⟨-, q⟩; omega)
  obtain ⟨b1, b2, b3⟩ := base M7 (fun j hj => by rw [x67 j (by omega) (by omega) (by omega)]; exact f6 k j (by omega) (by rintro ⟨-, q⟩; omega)) p hp
  have hb0 := (head p hp).2.1
  obtain ⟨y1, y2, y3⟩ := w6 r hr
  obtain ⟨z1, z2⟩ := w7 q hq
  refine ⟨b1, b2, b3, fun h => by omega, fun h => by omega, fun _ => ⟨by rw [x67 12 (by omega) (by omega) (by omega)]; exact y1, fun j hj => ?_, z1, z2⟩⟩
  rw [f7.row (a := k + 5) (by omega) (by omega)]
  exact y3 j hj
