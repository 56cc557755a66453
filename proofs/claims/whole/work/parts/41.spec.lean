/-! what a document is: a walk over its bytes; each piece takes a place and gives the place behind it -/
def pN (b : Nat → Nat) (n lo hi p : Nat) : Option Nat := if p < n ∧ lo ≤ b p ∧ b p ≤ hi then some (p + 1) else none
def pSk (n c p : Nat) : Option Nat := if p + c ≤ n then some (p + c) else none
def pKs (b : Nat → Nat) (n : Nat) : Nat → Nat → Nat → Option Nat
  | 0, _, p => some p
  | c + 1, lo, p => (pN b n lo 9 p).bind fun q => pKs b n c (b p + 1) q
def pKey (b : Nat → Nat) (n p : Nat) : Option Nat := (pN b n 1 4 p).bind fun q => (pN b n (b p) 4 q).bind fun r => pKs b n (b q) 0 r
def pLs (b : Nat → Nat) (n : Nat) : Nat → Nat → Option Nat
  | 0, p => some p
  | c + 1, p => (pN b n 97 122 p).bind fun q => pLs b n c q
def pLet (b : Nat → Nat) (n lo hi p : Nat) : Option Nat := (pN b n lo hi p).bind fun q => pLs b n (b p) q
def same (b : Nat → Nat) (q p : Nat) : Bool := (List.range (b q + 1)).all (fun i => b (q + i) == b (p + i))
def tPos (b : Nat → Nat) : Nat → Nat
  | 0 => 5
  | i + 1 => tPos b i + b (tPos b i) + 6
def pTs (b : Nat → Nat) (n : Nat) : Nat → Nat → Nat → Option Nat
  | 0, _, p => some p
  | c + 1, i, p => (pLet b n 1 4 p).bind fun q => (pSk n 5 q).bind fun r => if (List.range i).any (fun j => same b (tPos b j) p) = true then none else pTs b n c (i + 1) r
def pDs (b : Nat → Nat) (n : Nat) : Nat → Int32 → Nat → Option Nat
  | 0, _, p => some p
  | c + 1, r, p => (pN b n 4 6 p).bind fun p1 => if ((r >>> (nI (b p) &&& 31)) &&& 1) = 0 then (pN b n 0 1 p1).bind fun p2 => (pKey b n p2).bind fun p3 => (pLet b n 0 3 p3).bind fun p4 => pDs b n c (r ||| (1 <<< (nI (b p) &&& 31))) p4 else none
def pEs (b : Nat → Nat) (n : Nat) : Nat → Nat → Nat → Nat → Option Nat
  | 0, _, _, p => some p
  | c + 1, lo, hi, p => (pN b n lo hi p).bind fun q => (pN b n 1 255 q).bind fun r => pEs b n c (b p + 1) 6 r
def pRk (b : Nat → Nat) (n : Nat) : Nat → Nat → Option Nat
  | 0, p => some p
  | c + 1, p => (pKey b n p).bind fun q => pRk b n c q
def pBody (b : Nat → Nat) (n r p : Nat) : Option Nat :=
  if r = 0 then pRk b n 4 p
  else if r = 1 then (pN b n 1 255 p).bind fun q => pSk n 4 q
  else if r = 2 then (pN b n 1 4 p).bind fun q => pEs b n (b p) 3 3 q
  else (pN b n 0 4 p).bind fun q => (pTs b n (b p) 0 q).bind fun r => (pN b n 0 3 r).bind fun s => pDs b n (b r) 0 s
def pSig (b : Nat → Nat) (n : Nat) : Option Nat := (pN b n 0 6 0).bind fun p => (pN b n 1 255 p).bind fun q => (pSk n 2 q).bind fun r => pBody b n (b 0) r
def pSg (b : Nat → Nat) (n : Nat) : Nat → Nat → Option Nat
  | 0, p => some p
  | c + 1, p => (pN b n 0 9 p).bind fun q => (pSk n 4 q).bind fun r => pSg b n c r
def pEnd (b : Nat → Nat) (n s : Nat) : Option Nat := (pN b n 0 6 s).bind fun q => pSg b n (b s) q
def pDoc (b : Nat → Nat) (n : Nat) : Option Nat := (pSig b n).bind fun s => pEnd b n s
theorem pN_some {b : Nat → Nat} {n lo hi p q : Nat} (h : pN b n lo hi p = some q) : p < n ∧ lo ≤ b p ∧ b p ≤ hi ∧ q = p + 1 := by
  unfold pN at h
  by_cases c : p < n ∧ lo ≤ b p ∧ b p ≤ hi
  · rw [if_pos c] at h; cases h; exact ⟨c.1, c.2.1, c.2.2, rfl⟩
  · rw [if_neg c] at h; cases h
theorem pSk_some {n c p q : Nat} (h : pSk n c p = some q) : p + c ≤ n ∧ q = p + c := by
  unfold pSk at h
  by_cases d : p + c ≤ n
  · rw [if_pos d] at h; cases h; exact ⟨d, rfl⟩
  · rw [if_neg d] at h; cases h
theorem pKs_some {b : Nat → Nat} {n : Nat} : ∀ {c lo p q : Nat}, p ≤ n → pKs b n c lo p = some q → q = p + c ∧ q ≤ n := by
  intro c
  induction c with
  | zero => intro lo p q hp h; simp only [pKs] at h; cases h; exact ⟨rfl, hp⟩
  | succ c ih =>
    intro lo p q hp h
    simp only [pKs] at h
    obtain ⟨r, h1, h2⟩ := ob h
    obtain ⟨g1, g2, g3, rfl⟩ := pN_some h1
    obtain ⟨e1, e2⟩ := ih g1 h2
    exact ⟨by omega, e2⟩
theorem pLs_some {b : Nat → Nat} {n : Nat} : ∀ {c p q : Nat}, p ≤ n → pLs b n c p = some q → q = p + c ∧ q ≤ n ∧ ∀ i, i < c → 97 ≤ b (p + i) ∧ b (p + i) ≤ 122 := by
  intro c
  induction c with
  | zero => intro p q hp h; simp only [pLs] at h; cases h; exact ⟨rfl, hp, fun i hi => absurd hi (Nat.not_lt_zero i)⟩
  | succ c ih =>
    intro p q hp h
    simp only [pLs] at h
    obtain ⟨r, h1, h2⟩ := ob h
    obtain ⟨g1, g2, g3, rfl⟩ := pN_some h1
    obtain ⟨e1, e2, e3⟩ := ih g1 h2
    refine ⟨by omega, e2, fun i hi => ?_⟩
    cases i with
    | zero => exact ⟨g2, g3⟩
    | succ i => have := e3 i (by omega); rw [show p + (i + 1) = p + 1 + i by omega]; exact this
theorem pKey_some {b : Nat → Nat} {n p q : Nat} (h : pKey b n p = some q) : p + 2 + b (p + 1) = q ∧ q ≤ n ∧ 1 ≤ b p ∧ b p ≤ b (p + 1) ∧ b (p + 1) ≤ 4 := by
  unfold pKey at h
  obtain ⟨r, h1, h2⟩ := ob h
  obtain ⟨g1, g2, g3, rfl⟩ := pN_some h1
  obtain ⟨r, h3, h4⟩ := ob h2
  obtain ⟨g4, g5, g6, rfl⟩ := pN_some h3
  obtain ⟨e1, e2⟩ := pKs_some g4 h4
  exact ⟨by omega, e2, g2, g5, g6⟩
theorem pLet_some {b : Nat → Nat} {n lo hi p q : Nat} (h : pLet b n lo hi p = some q) : p + 1 + b p = q ∧ q ≤ n ∧ lo ≤ b p ∧ b p ≤ hi ∧ ∀ i, i < b p → 97 ≤ b (p + 1 + i) ∧ b (p + 1 + i) ≤ 122 := by
  unfold pLet at h
  obtain ⟨r, h1, h2⟩ := ob h
  obtain ⟨g1, g2, g3, rfl⟩ := pN_some h1
  obtain ⟨e1, e2, e3⟩ := pLs_some g1 h2
  exact ⟨by omega, e2, g2, g3, e3⟩
