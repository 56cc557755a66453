/-! every call, then the whole script -/
theorem cmp_self (x : Int64) : lg_cmp x x = 0 := by
  unfold lg_cmp
  rw [if_neg (show ¬ x > x from Int64.lt_irrefl), if_pos rfl]
theorem stA {f g rc : Me → Option (Int32 × Me)} {M : Me} (ok : OkA f g) (hI : Inv M) (hr : ∀ M', Inv M' → ∃ y : Int32 × Me, rc M' = some y ∧ y.1 = 1) : ∃ y : Int32 × Me, ((f M).bind fun q1 => ((g q1.2).bind fun q2 => if q1.1 = q2.1 then rc q2.2 else some (0, q2.2))) = some y ∧ y.1 = 1 := by
  obtain ⟨o, M1, M2, e1, e2, I2⟩ := ok M hI
  obtain ⟨y, e3, e4⟩ := hr M2 I2
  refine ⟨y, ?_, e4⟩
  rw [e1, Option.bind_some]
  dsimp only
  rw [e2, Option.bind_some]
  dsimp only
  rw [if_pos rfl, e3]
theorem stB {f g rc : Me → Option (Int32 × Me)} {M : Me} (ok : OkB f g) (hI : Inv M) (hr : ∀ M', Inv M' → ∃ y : Int32 × Me, rc M' = some y ∧ y.1 = 1) : ∃ y : Int32 × Me, ((f M).bind fun q9 => ((g q9.2).bind fun q10 => ((f_X5_thrown q10.2).bind fun q11 => if q11.1 = q9.1 then if q9.1 = 0 then if (lg_cmp ((q11.2 79 0).toInt64) (q10.1.toInt64)) = 0 then rc q11.2 else some (0, q11.2) else rc q11.2 else some (0, q11.2)))) = some y ∧ y.1 = 1 := by
  obtain ⟨k, o, M1, M2, e1, e2, e5, e6, I2⟩ := ok M hI
  obtain ⟨y, e3, e4⟩ := hr M2 I2
  refine ⟨y, ?_, e4⟩
  rw [e1, Option.bind_some]
  dsimp only
  rw [e2, Option.bind_some]
  dsimp only
  rw [f_X5_thrown, e5, Option.bind_some]
  dsimp only
  rw [if_pos rfl]
  by_cases z : k = 0
  · rw [if_pos z, if_pos (by rw [e6 z]; exact cmp_self _), e3]
  · rw [if_neg z, e3]
theorem stC {f g rc : Me → Option (Int32 × Me)} {M : Me} (ok : OkC f g) (hI : Inv M) (hr : ∀ M', Inv M' → ∃ y : Int32 × Me, rc M' = some y ∧ y.1 = 1) : ∃ y : Int32 × Me, ((f M).bind fun q9 => ((g q9.2).bind fun q10 => ((f_X5_thrown q10.2).bind fun q11 => if q11.1 = q9.1 then rc q11.2 else some (0, q11.2)))) = some y ∧ y.1 = 1 := by
  obtain ⟨k, o, M1, M2, e1, e2, e5, I2⟩ := ok M hI
  obtain ⟨y, e3, e4⟩ := hr M2 I2
  refine ⟨y, ?_, e4⟩
  rw [e1, Option.bind_some]
  dsimp only
  rw [e2, Option.bind_some]
  dsimp only
  rw [f_X5_thrown, e5, Option.bind_some]
  dsimp only
  rw [if_pos rfl, e3]
theorem law_loop (xs : Nat → Int32) (L : Nat) (hL : L ≤ 192) : ∀ (fuel j : Nat) (M : Me), 49 ≤ fuel + j → j ≤ 48 → Inv M → ∃ y : Int32 × Me, fL_L_law xs L fuel (nI (4 * j)) M = some y ∧ y.1 = 1 := by
  intro fuel
  induction fuel with
  | zero => intro j M h1 h2; omega
  | succ f ih =>
    intro j M h1 h2 hI
    by_cases c : 4 * j + 4 ≤ L
    · have hr : ∀ M', Inv M' → ∃ y : Int32 × Me, fL_L_law xs L f (nI (4 * j) + 4) M' = some y ∧ y.1 = 1 := fun M' I' => by
        rw [show nI (4 * j) + 4 = nI (4 * (j + 1)) from nI_add (4 * j) 4]
        exact ih (j + 1) M' (by omega) (by omega) I'
      have b1 : inB (nI (4 * j) + 1) L = true := by rw [nI_1]; exact inB_nI (by omega) (by omega)
      have b2 : inB (nI (4 * j) + 2) L = true := by rw [show nI (4 * j) + 2 = nI (4 * j + 2) from nI_add _ 2]; exact inB_nI (by omega) (by omega)
      have b3 : inB (nI (4 * j) + 3) L = true := by rw [show nI (4 * j) + 3 = nI (4 * j + 3) from nI_add _ 3]; exact inB_nI (by omega) (by omega)
      have b0 : inB (nI (4 * j)) L = true := inB_nI (by omega) (by omega)
      rw [fL_L_law, if_neg (show ¬ (Int32.ofNat L) - 4 < nI (4 * j) by rw [show (Int32.ofNat L) - 4 = nI (L - 4) from pk_sub (a := L) (b := 4) (by omega)]; exact nI_nlt (by omega) (by omega)), if_pos b0]
      by_cases c0 : ((xs (nI (4 * j)).toNatClampNeg) &&& 31) = 0
      · rw [if_pos c0, if_pos b1, if_pos b2, if_pos b3]
        exact stA (put_okA _ _) hI hr
      rw [if_neg c0]
      by_cases c1 : ((xs (nI (4 * j)).toNatClampNeg) &&& 31) = 1
      · rw [if_pos c1, if_pos b1]
        exact stA (cut_okA _) hI hr
      rw [if_neg c1]
      by_cases c2 : ((xs (nI (4 * j)).toNatClampNeg) &&& 31) = 2
      · rw [if_pos c2, if_pos b1, if_pos b2]
        exact stA (alter_okA _ _) hI hr
      rw [if_neg c2]
      by_cases c3 : ((xs (nI (4 * j)).toNatClampNeg) &&& 31) = 3
      · rw [if_pos c3]
        exact stA length_okA hI hr
      rw [if_neg c3]
      by_cases c4 : ((xs (nI (4 * j)).toNatClampNeg) &&& 31) = 4
      · rw [if_pos c4, if_pos b1]
        exact stB (at_ok _) hI hr
      rw [if_neg c4]
      by_cases c5 : ((xs (nI (4 * j)).toNatClampNeg) &&& 31) = 5
      · rw [if_pos c5, if_pos b1]
        exact stA (mix_okA _) hI hr
      rw [if_neg c5]
      by_cases c6 : ((xs (nI (4 * j)).toNatClampNeg) &&& 31) = 6
      · rw [if_pos c6]
        exact stA digest_okA hI hr
      rw [if_neg c6]
      by_cases c7 : ((xs (nI (4 * j)).toNatClampNeg) &&& 31) = 7
      · rw [if_pos c7, if_pos b1]
        exact stB (sign_ok _) hI hr
      rw [if_neg c7]
      by_cases c8 : ((xs (nI (4 * j)).toNatClampNeg) &&& 31) = 8
      · rw [if_pos c8]
        exact stA content_ok hI hr
      rw [if_neg c8]
      by_cases c9 : ((xs (nI (4 * j)).toNatClampNeg) &&& 31) = 9
      · rw [if_pos c9, if_pos b1]
        exact stB (tick_ok _) hI hr
      rw [if_neg c9]
      by_cases c10 : ((xs (nI (4 * j)).toNatClampNeg) &&& 31) = 10
      · rw [if_pos c10]
        exact stC begin_ok hI hr
      rw [if_neg c10]
      by_cases c11 : ((xs (nI (4 * j)).toNatClampNeg) &&& 31) = 11
      · rw [if_pos c11]
        exact stB offer_ok hI hr
      rw [if_neg c11]
      by_cases c12 : ((xs (nI (4 * j)).toNatClampNeg) &&& 31) = 12
      · rw [if_pos c12, if_pos b1, if_pos b2]
        by_cases e : xs (nI (4 * j) + 2).toNatClampNeg = 0
        · rw [if_pos e]; exact stB (trusted_ok _ 0) hI hr
        · rw [if_neg e]; exact stB (trusted_ok _ 1) hI hr
      rw [if_neg c12]
      by_cases c13 : ((xs (nI (4 * j)).toNatClampNeg) &&& 31) = 13
      · rw [if_pos c13, if_pos b1, if_pos b2, if_pos b3]
        exact stB (seek_ok _ _) hI hr
      rw [if_neg c13]
      by_cases c14 : ((xs (nI (4 * j)).toNatClampNeg) &&& 31) = 14
      · rw [if_pos c14]
        exact stA visits_ok hI hr
      rw [if_neg c14]
      by_cases c15 : ((xs (nI (4 * j)).toNatClampNeg) &&& 31) = 15
      · rw [if_pos c15, if_pos b1, if_pos b2, if_pos b3]
        exact stB (install_ok _ _) hI hr
      rw [if_neg c15]
      by_cases c16 : ((xs (nI (4 * j)).toNatClampNeg) &&& 31) = 16
      · rw [if_pos c16]
        exact stA installed_ok hI hr
      rw [if_neg c16]
      exact hr M hI
    · refine ⟨(1, M), ?_, rfl⟩
      rw [fL_L_law, if_pos]
      by_cases g : 4 ≤ L
      · rw [show (Int32.ofNat L) - 4 = nI (L - 4) from pk_sub (a := L) (b := 4) g]; exact nI_lt (by omega) (by omega)
      · have h1 : (Int32.ofNat L) - 4 < 0 := pk_sneg (a := L) (b := 4) (by omega) (by omega)
        have h2 : (0 : Int32) ≤ nI (4 * j) := nI_pos' (by omega)
        exact Int32.lt_of_lt_of_le h1 h2
theorem inv0 : Inv M0 := by
  refine ⟨fun _ => 0, fun _ _ => 0, fun _ => false, 0, 0, 0, fun r hr q => (by cases q), ⟨⟨rfl, Nat.zero_le _, by decide, fun i hi => absurd hi (Nat.not_lt_zero i)⟩, ⟨rfl, Nat.zero_le _, by decide, fun i hi => absurd hi (Nat.not_lt_zero i)⟩, ⟨0, fun _ => 0, rfl, Nat.zero_le _, by decide, fun i hi => absurd hi (Nat.not_lt_zero i)⟩, fun r hr => ⟨rfl, fun q => (by cases q)⟩, rfl, rfl, rfl⟩, fun t ht => ⟨rfl, Nat.zero_le _, by omega, fun i hi => absurd hi (Nat.not_lt_zero i)⟩, fun r hr => rfl, rfl, rfl, rfl⟩
theorem law_ok (xs : Nat → Int32) (L : Nat) (hL : L ≤ 192) : ∃ y : Int32 × Me, fL_L_law xs L 200 0 M0 = some y ∧ y.1 = 1 := law_loop xs L hL 200 0 M0 (by omega) (by omega) inv0
