/-! numbers -/
theorem lit_nI (c : Nat) : (OfNat.ofNat c : Int32) = nI (OfNat.ofNat c) := rfl
theorem nI_m1 {a : Nat} (h : a < 2 ^ 31) : ¬ nI a = -1 := by
  intro q
  have h1 := congrArg Int32.toInt q
  rw [nI_toInt h] at h1
  have h2 : (-1 : Int32).toInt = -1 := by decide
  rw [h2] at h1
  omega
theorem nI_m1' {a : Nat} (h : a < 2 ^ 31) : ¬ (-1 : Int32) = nI a := fun q => nI_m1 h q.symm
theorem m1_lt {a : Nat} (h : a < 2 ^ 31) : (-1 : Int32) < nI a := by
  rw [Int32.lt_iff_toInt_lt, nI_toInt h]
  have h2 : (-1 : Int32).toInt = -1 := by decide
  rw [h2]
  omega
theorem inB_nI {p n : Nat} (h : p < n) (hn : n < 2 ^ 31) : inB (nI p) n = true := by
  have h1 : ¬ nI p < 0 := nI_pos (by omega)
  have h2 : ¬ n ≤ (nI p).toNatClampNeg := by rw [nI_clamp (by omega)]; omega
  simp [inB, h1, h2]
/-- a row: so many bytes -/
def RW (M : Me) (k n : Nat) (b : Nat → Nat) : Prop := M k 1 = nI n ∧ n ≤ al (k + 1) ∧ al (k + 1) ≤ 120 ∧ ∀ i, i < n → M (k + 1) i = nI (b i) ∧ b i < 256
theorem s_byteAt {M : Me} {k n : Nat} {b : Nat → Nat} (h : RW M k n b) {p : Nat} (hp : p < 2 ^ 31) : f_X1_byteAt k (nI p) M = some (if p < n then nI (b p) else -1, M) := by
  obtain ⟨h1, h2, h3, h4⟩ := h
  unfold f_X1_byteAt
  rw [if_neg (nI_pos hp), h1]
  by_cases c : p < n
  · rw [if_neg (nI_ge c (by omega)), if_pos (inB_nI (by omega) (by omega)), nI_clamp hp, (h4 p c).1, if_pos c]
  · rw [if_pos (nI_le (by omega) hp), if_neg c]
