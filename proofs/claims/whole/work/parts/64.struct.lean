/-! what a document's parts say of its bytes -/
theorem pSg_some {b : Nat → Nat} {n : Nat} : ∀ {c p q : Nat}, p ≤ n → pSg b n c p = some q → q = p + 5 * c ∧ q ≤ n := by
  intro c
  induction c with
  | zero => intro p q hp h; simp only [pSg] at h; cases h; exact ⟨rfl, hp⟩
  | succ c ih =>
    intro p q hp h
    simp only [pSg] at h
    obtain ⟨r, h1, h2⟩ := ob h
    obtain ⟨g1, g2, g3, rfl⟩ := pN_some h1
    obtain ⟨r, h3, h4⟩ := ob h2
    obtain ⟨g4, rfl⟩ := pSk_some h3
    obtain ⟨e1, e2⟩ := ih g4 h4
    exact ⟨by omega, e2⟩
theorem pDoc_some {b : Nat → Nat} {n q : Nat} (h : pDoc b n = some q) : ∃ s, pSig b n = some s ∧ s < n ∧ b s ≤ 6 ∧ q = s + 1 + 5 * b s ∧ q ≤ n := by
  unfold pDoc at h
  obtain ⟨s, h1, h2⟩ := ob h
  unfold pEnd at h2
  obtain ⟨r, h3, h4⟩ := ob h2
  obtain ⟨g1, g2, g3, rfl⟩ := pN_some h3
  obtain ⟨e1, e2⟩ := pSg_some g1 h4
  exact ⟨s, h1, g1, g3, e1, e2⟩
theorem pSig_some {b : Nat → Nat} {n s : Nat} (h : pSig b n = some s) : 4 ≤ n ∧ b 0 ≤ 6 ∧ 1 ≤ b 1 ∧ pBody b n (b 0) 4 = some s := by
  unfold pSig at h
  obtain ⟨r, h1, h2⟩ := ob h
  obtain ⟨g1, g2, g3, rfl⟩ := pN_some h1
  obtain ⟨r, h3, h4⟩ := ob h2
  obtain ⟨k1, k2, k3, rfl⟩ := pN_some h3
  obtain ⟨r, h5, h6⟩ := ob h4
  obtain ⟨k4, rfl⟩ := pSk_some h5
  exact ⟨by omega, g3, k2, h6⟩
theorem pRk_some {b : Nat → Nat} {n : Nat} : ∀ {c i p q : Nat}, p = ksP b i → pRk b n c p = some q → q = ksP b (i + c) ∧ ∀ j, i ≤ j → j < i + c → ksP b j + 2 + b (ksP b j + 1) ≤ n ∧ 1 ≤ b (ksP b j) ∧ b (ksP b j) ≤ b (ksP b j + 1) ∧ b (ksP b j + 1) ≤ 4 := by
  intro c
  induction c with
  | zero => intro i p q hp h; simp only [pRk] at h; cases h; exact ⟨hp, fun j h1 h2 => by omega⟩
  | succ c ih =>
    intro i p q hp h
    simp only [pRk] at h
    obtain ⟨r, h1, h2⟩ := ob h
    obtain ⟨g1, g2, g3, g4, g5⟩ := pKey_some h1
    subst hp
    obtain ⟨e1, e2⟩ := ih (i := i + 1) (p := r) (by rw [ksP]; exact g1.symm) h2
    refine ⟨by rw [e1, show i + 1 + c = i + (c + 1) by omega], fun j h3 h4 => ?_⟩
    by_cases e : j = i
    · subst e; exact ⟨by omega, g3, g4, g5⟩
    · exact e2 j (by omega) (by omega)
/-- a key set that stands at a place -/
def KS (b : Nat → Nat) (n p : Nat) : Prop := p + 2 + b (p + 1) ≤ n ∧ 1 ≤ b p ∧ b p ≤ b (p + 1) ∧ b (p + 1) ≤ 4
theorem rootF {b : Nat → Nat} {n s : Nat} (h : pSig b n = some s) (h0 : b 0 = 0) : ∀ j, j < 4 → KS b n (ksP b j) := by
  obtain ⟨-, -, -, h4⟩ := pSig_some h
  rw [h0, pBody, if_pos rfl] at h4
  intro j hj
  exact (pRk_some (i := 0) rfl h4).2 j (Nat.zero_le _) (by omega)
theorem stampF {b : Nat → Nat} {n s : Nat} (h : pSig b n = some s) (h0 : b 0 = 1) : 9 ≤ n := by
  obtain ⟨-, -, -, h4⟩ := pSig_some h
  rw [h0, pBody, if_neg (by decide), if_pos rfl] at h4
  obtain ⟨r, h1, h2⟩ := ob h4
  obtain ⟨g1, g2, g3, rfl⟩ := pN_some h1
  obtain ⟨k4, rfl⟩ := pSk_some h2
  omega
theorem pEs_some {b : Nat → Nat} {n : Nat} : ∀ {c lo hi p q : Nat}, p ≤ n → pEs b n c lo hi p = some q → q = p + 2 * c ∧ q ≤ n ∧ ∀ i, i < c → 1 ≤ b (p + 2 * i + 1) := by
  intro c
  induction c with
  | zero => intro lo hi p q hp h; simp only [pEs] at h; cases h; exact ⟨rfl, hp, fun i hi => absurd hi (Nat.not_lt_zero i)⟩
  | succ c ih =>
    intro lo hi p q hp h
    simp only [pEs] at h
    obtain ⟨r, h1, h2⟩ := ob h
    obtain ⟨g1, g2, g3, rfl⟩ := pN_some h1
    obtain ⟨r, h3, h4⟩ := ob h2
    obtain ⟨k1, k2, k3, rfl⟩ := pN_some h3
    obtain ⟨e1, e2, e3⟩ := ih k1 h4
    refine ⟨by omega, e2, fun i hi => ?_⟩
    cases i with
    | zero => exact k2
    | succ i => have := e3 i (by omega); rw [show p + 2 * (i + 1) + 1 = p + 1 + 1 + 2 * i + 1 by omega]; exact this
theorem snapF {b : Nat → Nat} {n s : Nat} (h : pSig b n = some s) (h0 : b 0 = 2) : b 4 ≤ 4 ∧ 5 + 2 * b 4 ≤ n ∧ ∀ i, i < b 4 → 1 ≤ b (5 + 2 * i + 1) := by
  obtain ⟨-, -, -, h4⟩ := pSig_some h
  rw [h0, pBody, if_neg (by decide), if_neg (by decide), if_pos rfl] at h4
  obtain ⟨r, h1, h2⟩ := ob h4
  obtain ⟨g1, g2, g3, rfl⟩ := pN_some h1
  obtain ⟨e1, e2, e3⟩ := pEs_some g1 h2
  exact ⟨g3, by omega, e3⟩
theorem pTs_some {b : Nat → Nat} {n : Nat} : ∀ {c i p q : Nat}, p = tPos b i → p ≤ n → pTs b n c i p = some q → q = tPos b (i + c) ∧ q ≤ n ∧ ∀ j, i ≤ j → j < i + c → tPos b j + b (tPos b j) + 6 ≤ n ∧ b (tPos b j) ≤ 4 := by
  intro c
  induction c with
  | zero => intro i p q hp hn h; simp only [pTs] at h; cases h; exact ⟨hp, hn, fun j h1 h2 => by omega⟩
  | succ c ih =>
    intro i p q hp hn h
    simp only [pTs] at h
    obtain ⟨r, h1, h2⟩ := ob h
    obtain ⟨g1, g2, g3, g4, -⟩ := pLet_some h1
    obtain ⟨r, h3, h4⟩ := ob h2
    obtain ⟨k1, rfl⟩ := pSk_some h3
    subst hp
    by_cases cc : ((List.range i).any fun j => same b (tPos b j) (tPos b i)) = true
    · rw [if_pos cc] at h4; cases h4
    rw [if_neg cc] at h4
    obtain ⟨e1, e2, e3⟩ := ih (i := i + 1) (by rw [tPos]; omega) (by omega) h4
    refine ⟨by rw [e1, show i + 1 + c = i + (c + 1) by omega], e2, fun j h3 h4 => ?_⟩
    by_cases e : j = i
    · subst e; exact ⟨by omega, g4⟩
    · exact e3 j (by omega) (by omega)
/-- a delegation that stands at a place -/
def DL (b : Nat → Nat) (n p : Nat) : Prop := KS b n (p + 2) ∧ p + 4 + b (p + 3) + 1 + b (p + 4 + b (p + 3)) ≤ n ∧ 4 ≤ b p ∧ b p ≤ 6 ∧ b (p + 4 + b (p + 3)) ≤ 3
theorem pDs_some {b : Nat → Nat} {n d0 : Nat} : ∀ {c i p q : Nat} {r : Int32}, p = dP b d0 i → pDs b n c r p = some q → ∀ j, i ≤ j → j < i + c → DL b n (dP b d0 j) := by
  intro c
  induction c with
  | zero => intro i p q r hp h j h1 h2; omega
  | succ c ih =>
    intro i p q r hp h j hj1 hj2
    simp only [pDs] at h
    obtain ⟨r1, h1, h2⟩ := ob h
    obtain ⟨g1, g2, g3, rfl⟩ := pN_some h1
    by_cases cc : ((r >>> (nI (b p) &&& 31)) &&& 1) = 0
    · rw [if_pos cc] at h2
      obtain ⟨r1, h3, h4⟩ := ob h2
      obtain ⟨k1, k2, k3, rfl⟩ := pN_some h3
      obtain ⟨r1, h5, h6⟩ := ob h4
      obtain ⟨a1, a2, a3, a4, a5⟩ := pKey_some h5
      obtain ⟨r2, h7, h8⟩ := ob h6
      obtain ⟨c1, c2, c3, c4, -⟩ := pLet_some h7
      subst hp
      have z : r1 = dP b d0 i + 4 + b (dP b d0 i + 3) := by
        rw [show dP b d0 i + 1 + 1 + 1 = dP b d0 i + 3 by omega] at a1; omega
      subst z
      by_cases e : j = i
      · subst e
        exact ⟨⟨by rw [show dP b d0 j + 2 + 1 = dP b d0 j + 3 by omega]; omega, a3, a4, a5⟩, by omega, g2, g3, c4⟩
      · exact ih (i := i + 1) (by rw [dP]; omega) h8 j (by omega) (by omega)
    · rw [if_neg cc] at h2; cases h2
theorem tgtF {b : Nat → Nat} {n s : Nat} (h : pSig b n = some s) (h0 : 3 ≤ b 0) : 4 < n ∧ b 4 ≤ 4 ∧ (∀ j, j < b 4 → tPos b j + b (tPos b j) + 6 ≤ n ∧ b (tPos b j) ≤ 4) ∧ tPos b (b 4) < n ∧ b (tPos b (b 4)) ≤ 3 ∧ ∀ j, j < b (tPos b (b 4)) → DL b n (dP b (tPos b (b 4) + 1) j) := by
  obtain ⟨-, -, -, h4⟩ := pSig_some h
  rw [pBody, if_neg (by omega), if_neg (by omega), if_neg (by omega)] at h4
  obtain ⟨r, h1, h2⟩ := ob h4
  obtain ⟨g1, g2, g3, rfl⟩ := pN_some h1
  obtain ⟨r, h3, h5⟩ := ob h2
  obtain ⟨e1, e2, e3⟩ := pTs_some (i := 0) rfl (show tPos b 0 ≤ n from g1) h3
  rw [Nat.zero_add] at e1 e3
  obtain ⟨r1, h6, h7⟩ := ob h5
  obtain ⟨k1, k2, k3, rfl⟩ := pN_some h6
  subst e1
  exact ⟨g1, g3, fun j hj => e3 j (Nat.zero_le _) hj, k1, k3, fun j hj => pDs_some (i := 0) rfl h7 j (Nat.zero_le _) (by omega)⟩
