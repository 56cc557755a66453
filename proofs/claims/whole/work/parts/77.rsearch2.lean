theorem m_beg0 {w : Int64} {p m : Nat} {M : Me} {x : Int32} : ∀ (c fuel i : Nat), c < fuel → i + c = m → m < 1000 → fL_X5_begins_6 fuel x (nI m) w 0 (nI i) M = some (0, M) := by
  intro c
  induction c with
  | zero =>
    intro fuel i hf hi hm
    obtain ⟨f, rfl⟩ : ∃ f, fuel = f + 1 := ⟨fuel - 1, by omega⟩
    rw [fL_X5_begins_6, if_pos (nI_le (by omega) (by omega))]
  | succ c ih =>
    intro fuel i hf hi hm
    obtain ⟨f, rfl⟩ : ∃ f, fuel = f + 1 := ⟨fuel - 1, by omega⟩
    rw [fL_X5_begins_6, if_neg (nI_ge (by omega) (by omega)), if_pos rfl, nI_1]
    exact ih f (i + 1) (by omega) (by omega) hm
theorem m_begL {w : Int64} {M : Me} {t n p m : Nat} {b : Nat → Nat} (R : RM M t n b) (hp : p + m ≤ n) (hm : m ≤ 4) : ∀ (c fuel i : Nat), c < fuel → i + c = m → fL_X5_begins_6 fuel (nI (120 * t + p)) (nI m) w 1 (nI i) M = some (if bgO b p w c i = true then 1 else 0, M) := by
  intro c
  induction c with
  | zero =>
    intro fuel i hf hi
    obtain ⟨f, rfl⟩ : ∃ f, fuel = f + 1 := ⟨fuel - 1, by omega⟩
    rw [fL_X5_begins_6, if_pos (nI_le (by omega) (by omega)), bgO, if_pos rfl]
  | succ c ih =>
    intro fuel i hf hi
    obtain ⟨f, rfl⟩ : ∃ f, fuel = f + 1 := ⟨fuel - 1, by omega⟩
    obtain ⟨c1, c2⟩ := m_at R (x := nI (120 * t + p) + nI i) (p := p + i) (by rw [nI_add, show 120 * t + p + i = 120 * t + (p + i) by omega]) (by omega)
    have l := (R.2.2.2 (p + i) (by omega)).2
    have l2 := ltr_lt (w := w) (i := i)
    rw [fL_X5_begins_6, if_neg (nI_ge (by omega) (by omega)), if_neg (by decide), if_pos c1, m_letter (by omega), Option.bind_some]
    dsimp only
    rw [c2]
    by_cases e : b (p + i) = ltr w i
    · rw [if_pos (by rw [e]), bgO_t e, nI_1]
      exact ih f (i + 1) (by omega) (by omega)
    · rw [if_neg (fun q => e ((nI_eq (by omega) (by omega)).mp q)), bgO_f e, if_neg (by decide), nI_1]
      exact m_beg0 (p := 0) c f (i + 1) (by omega) (by omega) (by omega)
theorem m_begins {w : Int64} {M : Me} {t n p m : Nat} {b : Nat → Nat} (R : RM M t n b) (hp : p + m ≤ n) (hm : m ≤ 4) {x y : Int32} (hx : x = nI (120 * t + p)) (hy : y = nI m) : f_X5_begins x y w M = some (if bgO b p w m 0 = true then 1 else 0, M) := by
  subst hx; subst hy
  have e := m_begL (w := w) R hp hm m 200 0 (by omega) (by omega)
  rw [f_X5_begins, show fL_X5_begins_6 200 (nI (120 * t + p)) (nI m) w 1 0 M = _ from e, Option.bind_some, if_pos bB_ite]
def tgM (M : Me) (b : Nat → Nat) : Option Nat → Int32 × Me
  | some p => (1, up (up M 73 12 (nI (b p))) 73 13 (wd b (p + 1)))
  | none => (0, M)
theorem m_tgtL {w : Int64} {M : Me} {t n s m : Nat} {b : Nat → Nat} (R : RM M t n b) (hs : pSig b n = some s) (h3 : 3 ≤ b 0) (hm : m ≤ 4) : ∀ (c fuel i : Nat), c < fuel → i + c = b 4 → fL_X5_hasTarget_11 fuel (nI t) w (nI m) (nI (120 * t + tPos b i)) (nI i) M = some (tgM M b (tgO b w m c i)) := by
  obtain ⟨t1, t2, t3, t4, t5, t6⟩ := tgtF hs h3
  have hn := R.2.1
  obtain ⟨a1, a2⟩ := m_at R (x := 120 * nI t + 4) (p := 4) (by rw [n120]; exact nI_add _ 4) (by omega)
  intro c
  induction c with
  | zero =>
    intro fuel i hf hi
    obtain ⟨f, rfl⟩ : ∃ f, fuel = f + 1 := ⟨fuel - 1, by omega⟩
    rw [fL_X5_hasTarget_11, if_pos a1, a2, if_pos (nI_le (by omega) (by omega)), tgO, tgM]
  | succ c ih =>
    intro fuel i hf hi
    obtain ⟨f, rfl⟩ : ∃ f, fuel = f + 1 := ⟨fuel - 1, by omega⟩
    obtain ⟨y1, y2⟩ := t3 i (by omega)
    obtain ⟨c1, c2⟩ := m_at R (x := nI (120 * t + tPos b i)) (p := tPos b i) rfl (by omega)
    have nx : (nI (120 * t + tPos b i) + nI (b (tPos b i))) + 6 = nI (120 * t + tPos b (i + 1)) := by
      rw [nI_add, show nI (120 * t + tPos b i + b (tPos b i)) + 6 = nI (120 * t + tPos b i + b (tPos b i) + 6) from nI_add _ 6, tPos, show 120 * t + (tPos b i + b (tPos b i) + 6) = 120 * t + tPos b i + b (tPos b i) + 6 by omega]
    rw [fL_X5_hasTarget_11, if_pos a1, a2, if_neg (nI_ge (by omega) (by omega)), if_pos c1, c2]
    by_cases e1 : b (tPos b i) = m
    · rw [if_pos (by rw [e1]), m_begins (w := w) R (p := tPos b i + 1) (m := m) (by omega) hm (by rw [nI_1, show 120 * t + tPos b i + 1 = 120 * t + (tPos b i + 1) by omega]) rfl, Option.bind_some]
      dsimp only
      by_cases e2 : bgO b (tPos b i + 1) w m 0 = true
      · have hx : (nI (120 * t + tPos b i) + 1) + nI m = nI (120 * t + (tPos b i + 1 + m)) := by rw [nI_1, nI_add, show 120 * t + tPos b i + 1 + m = 120 * t + (tPos b i + 1 + m) by omega]
        obtain ⟨d1, d2⟩ := m_at R hx (by omega)
        have R' : RM (up M 73 12 (nI (b (tPos b i + 1 + m)))) t n b := by
          obtain ⟨r1, r2, r3, r4⟩ := R
          exact ⟨by rw [up_k (by decide)]; exact r1, r2, r3, fun j hj => by rw [up_k (by decide)]; exact r4 j hj⟩
        rw [if_pos e2, if_neg (by decide), if_pos d1, d2, m_wordAt R' (p := tPos b i + 1 + m + 1) (x := (nI (120 * t + tPos b i) + 2) + nI m) (by rw [show nI (120 * t + tPos b i) + 2 = nI (120 * t + tPos b i + 2) from nI_add _ 2, nI_add, show 120 * t + tPos b i + 2 + m = 120 * t + (tPos b i + 1 + m + 1) by omega]) (by omega), Option.bind_some, tgO_t ⟨e1, e2⟩, tgM]
      · rw [if_neg e2, if_pos rfl, tgO_f (fun q => e2 q.2), c2, nx, nI_1]
        exact ih f (i + 1) (by omega) (by omega)
    · have l := (R.2.2.2 (tPos b i) (by omega)).2
      rw [if_neg (fun q => e1 ((nI_eq (by omega) (by omega)).mp q)), tgO_f (fun q => e1 q.1), nx, nI_1]
      exact ih f (i + 1) (by omega) (by omega)
theorem m_target {w : Int64} {M : Me} {t n s m : Nat} {b : Nat → Nat} (R : RM M t n b) (hs : pSig b n = some s) (h3 : 3 ≤ b 0) (hm : m ≤ 4) : f_X5_hasTarget (nI t) w (nI m) M = some (tgM M b (tgO b w m (b 4) 0)) := by
  rw [f_X5_hasTarget, n120, show nI (120 * t) + 5 = nI (120 * t + tPos b 0) from nI_add _ 5]
  exact m_tgtL R hs h3 hm (b 4) 200 0 (by have := (tgtF hs h3).2.1; omega) (by omega)
theorem m_del1 {M : Me} {t n s : Nat} {b : Nat → Nat} {y : Int32} (R : RM M t n b) (hs : pSig b n = some s) (h3 : 3 ≤ b 0) : ∀ (c fuel i : Nat), c < fuel → i + c = b 4 → fL_X5_delegation_10 fuel (nI t) y (nI (120 * t + tPos b i)) (nI i) M = some (nI (120 * t + tPos b (b 4)), M) := by
  obtain ⟨t1, t2, t3, t4, t5, t6⟩ := tgtF hs h3
  have hn := R.2.1
  obtain ⟨a1, a2⟩ := m_at R (x := 120 * nI t + 4) (p := 4) (by rw [n120]; exact nI_add _ 4) (by omega)
  intro c
  induction c with
  | zero =>
    intro fuel i hf hi
    obtain ⟨f, rfl⟩ : ∃ f, fuel = f + 1 := ⟨fuel - 1, by omega⟩
    rw [fL_X5_delegation_10, if_pos a1, a2, if_pos (nI_le (by omega) (by omega)), show i = b 4 by omega]
  | succ c ih =>
    intro fuel i hf hi
    obtain ⟨f, rfl⟩ : ∃ f, fuel = f + 1 := ⟨fuel - 1, by omega⟩
    obtain ⟨y1, y2⟩ := t3 i (by omega)
    obtain ⟨c1, c2⟩ := m_at R (x := nI (120 * t + tPos b i)) (p := tPos b i) rfl (by omega)
    rw [fL_X5_delegation_10, if_pos a1, a2, if_neg (nI_ge (by omega) (by omega)), if_pos c1, c2, nI_add, show nI (120 * t + tPos b i + b (tPos b i)) + 6 = nI (120 * t + tPos b i + b (tPos b i) + 6) from nI_add _ 6, show 120 * t + tPos b i + b (tPos b i) + 6 = 120 * t + tPos b (i + 1) by rw [tPos]; omega, nI_1]
    exact ih f (i + 1) (by omega) (by omega)
theorem m_del2 {M : Me} {t n k : Nat} {b : Nat → Nat} (R : RM M t n b) (hk : k < dN b) (h3 : b (tPos b (b 4)) ≤ 3) (hD : ∀ j, j < dN b → DL b n (dQ b j)) : ∀ (c fuel i : Nat), c < fuel → i + c = k → fL_X5_delegation_62 fuel (nI k) (nI (120 * t + dQ b i)) (nI i) M = some (nI (120 * t + dQ b k), M) := by
  have hn := R.2.1
  have k3 : k < 3 := by unfold dN at hk; omega
  intro c
  induction c with
  | zero =>
    intro fuel i hf hi
    obtain ⟨f, rfl⟩ : ∃ f, fuel = f + 1 := ⟨fuel - 1, by omega⟩
    rw [fL_X5_delegation_62, if_pos (nI_le (by omega) (by omega)), show i = k by omega]
  | succ c ih =>
    intro fuel i hf hi
    obtain ⟨f, rfl⟩ : ∃ f, fuel = f + 1 := ⟨fuel - 1, by omega⟩
    obtain ⟨⟨K1, K2, K3, K4⟩, l1, l2, l3, l4⟩ := hD i (by omega)
    obtain ⟨c1, c2⟩ := m_at R (x := nI (120 * t + dQ b i) + 3) (p := dQ b i + 3) (nI_add _ 3) (by omega)
    have hx : (nI (120 * t + dQ b i) + 4) + nI (b (dQ b i + 3)) = nI (120 * t + pre b i) := by
      rw [show nI (120 * t + dQ b i) + 4 = nI (120 * t + dQ b i + 4) from nI_add _ 4, nI_add, pre, show 120 * t + dQ b i + 4 + b (dQ b i + 3) = 120 * t + (dQ b i + 4 + b (dQ b i + 3)) by omega]
    obtain ⟨d1, d2⟩ := m_at R (x := nI (120 * t + pre b i)) (p := pre b i) rfl (by rw [pre]; omega)
    rw [fL_X5_delegation_62, if_neg (nI_ge (by omega) (by omega)), if_pos c1, c2, hx, if_pos d1, d2, nI_1, nI_add, nI_1, show 120 * t + pre b i + 1 + b (pre b i) = 120 * t + dQ b (i + 1) by unfold dQ; rw [dP]; unfold pre dQ; omega]
    exact ih f (i + 1) (by omega) (by omega)
theorem m_deleg {M : Me} {t n s k : Nat} {b : Nat → Nat} (R : RM M t n b) (hs : pSig b n = some s) (h3 : 3 ≤ b 0) (hk : k < 100) : f_X5_delegation (nI t) (nI k) M = some (if k < dN b then nI (120 * t + dQ b k) else -1, M) := by
  obtain ⟨t1, t2, t3, t4, t5, t6⟩ := tgtF hs h3
  have hn := R.2.1
  have e := m_del1 (y := nI k) R hs h3 (b 4) 200 0 (by omega) (by omega)
  obtain ⟨c1, c2⟩ := m_at R (x := nI (120 * t + tPos b (b 4))) (p := tPos b (b 4)) rfl t4
  rw [f_X5_delegation, n120, show nI (120 * t) + 5 = nI (120 * t + tPos b 0) from nI_add _ 5, show fL_X5_delegation_10 200 (nI t) (nI k) (nI (120 * t + tPos b 0)) 0 M = _ from e, Option.bind_some]
  dsimp only
  rw [if_pos c1]
  simp only [c2]
  by_cases g : k < dN b
  · have e2 := m_del2 R g t5 t6 k 200 0 (by omega) (by omega)
    rw [if_pos (nI_lt (show k < b (tPos b (b 4)) from g) (by omega)), if_pos g, nI_1, show fL_X5_delegation_62 200 (nI k) (nI (120 * t + tPos b (b 4) + 1)) 0 M = _ from e2, Option.bind_some]
  · rw [if_neg (nI_nlt (by unfold dN at g; omega) (by omega)), if_neg g]
