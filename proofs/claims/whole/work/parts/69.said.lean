/-! what a snapshot says; where a root's key sets stand; whether two are the same -/
theorem sv_t {b : Nat → Nat} {r c : Nat} (h : b (5 + 2 * c) = r) : sv b r (c + 1) = b (5 + 2 * c + 1) := by rw [sv, if_pos h]
theorem sv_f {b : Nat → Nat} {r c : Nat} (h : ¬ b (5 + 2 * c) = r) : sv b r (c + 1) = sv b r c := by rw [sv, if_neg h]
theorem sv_lt {b : Nat → Nat} {r : Nat} : ∀ c, (∀ i, i < c → b (5 + 2 * i + 1) < 256) → sv b r c < 256 := by
  intro c
  induction c with
  | zero => intro _; rw [sv]; omega
  | succ c ih =>
    intro h
    by_cases e : b (5 + 2 * c) = r
    · rw [sv_t e]; exact h c (by omega)
    · rw [sv_f e]; exact ih (fun i hi => h i (by omega))
theorem vI_m1 {v : Nat} (h : v < 2 ^ 31) : vI v = -1 ↔ v = 0 := by
  unfold vI
  by_cases c : v = 0
  · rw [if_pos c]; exact ⟨fun _ => c, fun _ => rfl⟩
  · rw [if_neg c]; exact ⟨fun q => absurd q (nI_m1 h), fun q => absurd q c⟩
theorem vI_le {u v : Nat} (hu : u < 2 ^ 31) (hv : v < 2 ^ 31) : vI u ≤ vI v ↔ u ≤ v := by
  unfold vI
  by_cases c : u = 0
  · rw [if_pos c]
    refine ⟨fun _ => by omega, fun _ => ?_⟩
    by_cases d : v = 0
    · rw [if_pos d]; decide
    · rw [if_neg d]; exact Int32.le_of_lt (m1_lt hv)
  · rw [if_neg c]
    by_cases d : v = 0
    · rw [if_pos d]
      refine ⟨fun q => ?_, fun q => by omega⟩
      have := m1_lt hu
      exact absurd q (Int32.not_le.mpr this)
    · rw [if_neg d]; exact nI_leI hu hv
theorem vI_eq {x v : Nat} (h1 : 1 ≤ x) (hx : x < 2 ^ 31) (hv : v < 2 ^ 31) : nI x = vI v ↔ x = v := by
  unfold vI
  by_cases c : v = 0
  · rw [if_pos c]; exact ⟨fun q => absurd q (nI_m1 hx), fun q => by omega⟩
  · rw [if_neg c]; exact nI_eq hx hv
theorem Dc.lt {M : Me} {k n s : Nat} {b : Nat → Nat} (d : Dc M k n b s) : ∀ i, i < n → b i < 256 := fun i hi => (d.1.2.2.2 i hi).2
theorem s_verFor {M : Me} {k n s r : Nat} {b : Nat → Nat} (hk : isK k 0) (d : Dc M k n b s) (h2 : b 0 = 2) (hr : r < 7) {x : Int32} (hx : x = nI r) : f_X0_versionFor k x M = some (vI (sv b r (b 4)), M) := by
  subst hx
  have a := (alD_of hk).2.2.1
  rw [f_X0_versionFor, if_neg (nI_pos (by omega)), if_neg (show ¬ (6 : Int32) < nI r from nI_nlt (a := 6) (by omega) (by omega)), a, if_pos (inB_nI hr (by omega)), nI_clamp (by omega), d.2.2.2.2.2.2.1.2.2.2.2.1 h2 r hr]
theorem m_saidL {M : Me} {t n r : Nat} {b : Nat → Nat} (R : RM M t n b) (h4 : b 4 ≤ 4) (hn : 5 + 2 * b 4 ≤ n) (hr : r < 7) : ∀ (c fuel i : Nat), c < fuel → i + c = b 4 → fL_X5_said_5 fuel (nI t) (nI r) (nI (sv b r i)) (nI i) M = some (nI (sv b r (b 4)), M) := by
  obtain ⟨a1, a2⟩ := m_at R (x := 120 * nI t + 4) (p := 4) (by rw [n120]; exact nI_add _ 4) (by omega)
  intro c
  induction c with
  | zero =>
    intro fuel i hf hi
    obtain ⟨f, rfl⟩ : ∃ f, fuel = f + 1 := ⟨fuel - 1, by omega⟩
    rw [fL_X5_said_5, if_pos a1, a2, if_pos (nI_le (by omega) (by omega)), show i = b 4 by omega]
  | succ c ih =>
    intro fuel i hf hi
    obtain ⟨f, rfl⟩ : ∃ f, fuel = f + 1 := ⟨fuel - 1, by omega⟩
    have hx : ((120 * nI t) + 5) + (2 * nI i) = nI (120 * t + (5 + 2 * i)) := by
      rw [n120, show nI (120 * t) + 5 = nI (120 * t + 5) from nI_add _ 5, show (2 : Int32) * nI i = nI (2 * i) from pk_mul 2 i, nI_add, show 120 * t + 5 + 2 * i = 120 * t + (5 + 2 * i) by omega]
    obtain ⟨c1, c2⟩ := m_at R hx (by omega)
    obtain ⟨d1, d2⟩ := m_at R (x := ((120 * nI t) + 5) + (2 * nI i) + 1) (p := 5 + 2 * i + 1) (by rw [hx]; exact nI_add _ 1) (by omega)
    have hb := (R.2.2.2 (5 + 2 * i) (by omega)).2
    rw [fL_X5_said_5, if_pos a1, a2, if_neg (nI_ge (by omega) (by omega)), if_pos c1, c2]
    by_cases e : b (5 + 2 * i) = r
    · rw [if_pos (by rw [e]), if_pos d1, d2, nI_1, ← sv_t e]
      exact ih f (i + 1) (by omega) (by omega)
    · rw [if_neg (fun q => e ((nI_eq (by omega) (by omega)).mp q)), nI_1, ← sv_f e]
      exact ih f (i + 1) (by omega) (by omega)
theorem m_said {M : Me} {t n r : Nat} {b : Nat → Nat} (R : RM M t n b) (h4 : b 4 ≤ 4) (hn : 5 + 2 * b 4 ≤ n) (hr : r < 7) {x y : Int32} (hx : x = nI t) (hy : y = nI r) : f_X5_said x y M = some (nI (sv b r (b 4)), M) := by
  subst hx; subst hy
  have e := m_saidL R h4 hn hr (b 4) 200 0 (by omega) (by omega)
  rw [f_X5_said, show fL_X5_said_5 200 (nI t) (nI r) 0 0 M = some (nI (sv b r (b 4)), M) from e, Option.bind_some]
theorem ks_lt {b : Nat → Nat} {n : Nat} (K : ∀ j, j < 4 → KS b n (ksP b j)) {j : Nat} (hj : j < 4) : ksP b j + 2 + b (ksP b j + 1) ≤ n := (K j hj).1
theorem m_keysL {M : Me} {t n j : Nat} {b : Nat → Nat} (R : RM M t n b) (K : ∀ j, j < 4 → KS b n (ksP b j)) (hj : j < 4) : ∀ (c fuel i : Nat), c < fuel → i + c = j → fL_X5_keysOf_10 fuel (nI j) (nI (120 * t + ksP b i)) (nI i) M = some (nI (120 * t + ksP b j), M) := by
  intro c
  induction c with
  | zero =>
    intro fuel i hf hi
    obtain ⟨f, rfl⟩ : ∃ f, fuel = f + 1 := ⟨fuel - 1, by omega⟩
    rw [fL_X5_keysOf_10, if_pos (nI_le (by omega) (by omega)), show i = j by omega]
  | succ c ih =>
    intro fuel i hf hi
    obtain ⟨f, rfl⟩ : ∃ f, fuel = f + 1 := ⟨fuel - 1, by omega⟩
    have K1 := ks_lt K (j := i) (by omega)
    obtain ⟨c1, c2⟩ := m_at R (x := nI (120 * t + ksP b i) + 1) (p := ksP b i + 1) (nI_add _ 1) (by omega)
    rw [fL_X5_keysOf_10, if_neg (nI_ge (by omega) (by omega)), if_pos c1, c2, show nI (120 * t + ksP b i) + 2 = nI (120 * t + ksP b i + 2) from nI_add _ 2, nI_add, nI_1, show 120 * t + ksP b i + 2 + b (ksP b i + 1) = 120 * t + ksP b (i + 1) by rw [ksP]; omega]
    exact ih f (i + 1) (by omega) (by omega)
theorem m_keys {M : Me} {t n j : Nat} {b : Nat → Nat} (R : RM M t n b) (K : ∀ j, j < 4 → KS b n (ksP b j)) (hj : j < 4) {x y : Int32} (hx : x = nI t) (hy : y = nI j) : f_X5_keysOf x y M = some (nI (120 * t + ksP b j), M) := by
  subst hx; subst hy
  have e := m_keysL R K hj j 200 0 (by omega) (by omega)
  rw [f_X5_keysOf, n120, show nI (120 * t) + 4 = nI (120 * t + ksP b 0) from nI_add _ 4, show fL_X5_keysOf_10 200 (nI j) (nI (120 * t + ksP b 0)) 0 M = _ from e, Option.bind_some]
theorem s_vouch {M : Me} {k n s k' n' s' j : Nat} {b b' : Nat → Nat} (hk : isK k 0) (d : Dc M k n b s) (h0 : b 0 = 0) (d' : Dc M k' n' b' s') (hj : j < 4) {x : Int32} (hx : x = nI j) : f_X0_rootVouchesFor k k' x M = some (if sgO b' s' b (ksP b j) = true then 1 else 0, M) := by
  subst hx
  have a := (alD_of hk).2.1
  have K := rootF d.2.1 h0
  rw [f_X0_rootVouchesFor, if_neg (nI_pos (by omega)), if_neg (show ¬ (4 : Int32) ≤ nI j from nI_ge (b := 4) (by omega) (by omega)), a, if_pos (inB_nI hj (by omega)), nI_clamp (by omega), d.2.2.2.2.2.2.1.2.2.2.1 h0 j hj, s_signed d' d.1 (K j hj), Option.bind_some]
  dsimp only
  cases sgO b' s' b (ksP b j) <;> rfl
/-- the same bytes from two places on -/
def sm2 (b b' : Nat → Nat) (q p : Nat) : Nat → Nat → Bool
  | 0, _ => true
  | c + 1, i => if b (q + i) = b' (p + i) then sm2 b b' q p c (i + 1) else false
theorem sm2_t {b b' : Nat → Nat} {q p c i : Nat} (h : b (q + i) = b' (p + i)) : sm2 b b' q p (c + 1) i = sm2 b b' q p c (i + 1) := by rw [sm2, if_pos h]
theorem sm2_f {b b' : Nat → Nat} {q p c i : Nat} (h : ¬ b (q + i) = b' (p + i)) : sm2 b b' q p (c + 1) i = false := by rw [sm2, if_neg h]
theorem sm2_iff {b b' : Nat → Nat} {q p : Nat} : ∀ c i, sm2 b b' q p c i = true ↔ ∀ j, i ≤ j → j < i + c → b (q + j) = b' (p + j) := by
  intro c
  induction c with
  | zero => intro i; exact ⟨fun _ j h1 h2 => by omega, fun _ => rfl⟩
  | succ c ih =>
    intro i
    by_cases e : b (q + i) = b' (p + i)
    · rw [sm2_t e, ih]
      refine ⟨fun h j h1 h2 => ?_, fun h j h1 h2 => h j (by omega) (by omega)⟩
      by_cases k : j = i
      · subst k; exact e
      · exact h j (by omega) (by omega)
    · rw [sm2_f e]
      exact ⟨fun h => (by cases h), fun h => absurd (h i (Nat.le_refl _) (by omega)) e⟩
/-- the key sets of two roots are the same -/
def skO (b b' : Nat → Nat) (q p : Nat) : Bool := sm2 b b' q p (2 + b (q + 1)) 0
theorem ag_sk {b b' : Nat → Nat} {n n' q p : Nat} (K : KS b n q) (K' : KS b' n' p) : ag b n b' n' q p (2 + b (q + 1)) 0 = skO b b' q p := by
  have : ag b n b' n' q p (2 + b (q + 1)) 0 = true ↔ skO b b' q p = true := by
    rw [ag_iff, skO, sm2_iff]
    obtain ⟨K1, K2, K3, K4⟩ := K
    obtain ⟨L1, L2, L3, L4⟩ := K'
    refine ⟨fun h j h1 h2 => (h j h1 h2).2.2, fun h j h1 h2 => ?_⟩
    have e := h 1 (by omega) (by omega)
    exact ⟨by omega, by omega, h j h1 h2⟩
  cases h1 : ag b n b' n' q p (2 + b (q + 1)) 0 <;> cases h2 : skO b b' q p <;> simp_all
theorem s_hasKeys {M : Me} {k n s k' n' s' j : Nat} {b b' : Nat → Nat} (hk : isK k 0) (d : Dc M k n b s) (h0 : b 0 = 0) (hk' : isK k' 0) (d' : Dc M k' n' b' s') (h0' : b' 0 = 0) (hj : j < 4) {x : Int32} (hx : x = nI j) : f_X0_hasKeySetOf k k' x M = some (if skO b b' (ksP b j) (ksP b' j) = true then 1 else 0, M) := by
  subst hx
  have a := (alD_of hk).2.1
  have a' := (alD_of hk').2.1
  have K := rootF d.2.1 h0 j hj
  have K' := rootF d'.2.1 h0' j hj
  have n1 := d.2.2.2.2.2.2.2.2
  have n2 := d'.2.2.2.2.2.2.2.2
  obtain ⟨K1, K2, K3, K4⟩ := id K
  obtain ⟨L1, L2, L3, L4⟩ := id K'
  have e := s_agrees (M := M) (c := 2 + b (ksP b j + 1)) d.1 d'.1 (fr := ksP b j) (of := ksP b' j) (by omega) (by omega) (by omega)
  rw [ag_sk K K'] at e
  rw [f_X0_hasKeySetOf, if_neg (nI_pos (by omega)), if_pos (show nI j < (4 : Int32) from nI_lt (b := 4) (by omega) (by omega)), a, a', if_pos (inB_nI hj (by omega)), if_pos (inB_nI hj (by omega)), nI_clamp (by omega), d.2.2.2.2.2.2.1.2.2.2.1 h0 j hj, d'.2.2.2.2.2.2.1.2.2.2.1 h0' j hj, nI_1, s_byteAt d.1 (by omega), if_pos (show ksP b j + 1 < n by omega), Option.bind_some]
  dsimp only
  rw [show (2 : Int32) + nI (b (ksP b j + 1)) = nI (2 + b (ksP b j + 1)) from nI_add 2 _, e, Option.bind_some, if_pos bB_ite]
theorem m_sk0 {M : Me} {t n q : Nat} {b : Nat → Nat} {x : Int32} (R : RM M t n b) (K : KS b n q) : ∀ (c fuel i : Nat), c < fuel → i + c = 2 + b (q + 1) → fL_X5_areSameKeys_21 fuel (nI (120 * t + q)) x 0 (nI i) M = some (0, M) := by
  obtain ⟨K1, K2, K3, K4⟩ := K
  obtain ⟨a1, a2⟩ := m_at R (x := nI (120 * t + q) + 1) (p := q + 1) (nI_add _ 1) (by omega)
  intro c
  induction c with
  | zero =>
    intro fuel i hf hi
    obtain ⟨f, rfl⟩ : ∃ f, fuel = f + 1 := ⟨fuel - 1, by omega⟩
    rw [fL_X5_areSameKeys_21, if_pos a1, a2, show (2 : Int32) + nI (b (q + 1)) = nI (2 + b (q + 1)) from nI_add 2 _, if_pos (nI_le (by omega) (by omega))]
  | succ c ih =>
    intro fuel i hf hi
    obtain ⟨f, rfl⟩ : ∃ f, fuel = f + 1 := ⟨fuel - 1, by omega⟩
    rw [fL_X5_areSameKeys_21, if_pos a1, a2, show (2 : Int32) + nI (b (q + 1)) = nI (2 + b (q + 1)) from nI_add 2 _, if_neg (nI_ge (by omega) (by omega)), if_pos rfl, nI_1]
    exact ih f (i + 1) (by omega) (by omega)
theorem m_skL {M : Me} {t n t' n' q p : Nat} {b b' : Nat → Nat} (R : RM M t n b) (R' : RM M t' n' b') (K : KS b n q) (K' : KS b' n' p) : ∀ (c fuel i : Nat), c < fuel → i + c = 2 + b (q + 1) → (2 ≤ i → b (q + 1) = b' (p + 1)) → fL_X5_areSameKeys_21 fuel (nI (120 * t + q)) (nI (120 * t' + p)) 1 (nI i) M = some (if sm2 b b' q p c i = true then 1 else 0, M) := by
  obtain ⟨K1, K2, K3, K4⟩ := id K
  obtain ⟨L1, L2, L3, L4⟩ := id K'
  obtain ⟨a1, a2⟩ := m_at R (x := nI (120 * t + q) + 1) (p := q + 1) (nI_add _ 1) (by omega)
  intro c
  induction c with
  | zero =>
    intro fuel i hf hi h2
    obtain ⟨f, rfl⟩ : ∃ f, fuel = f + 1 := ⟨fuel - 1, by omega⟩
    rw [fL_X5_areSameKeys_21, if_pos a1, a2, show (2 : Int32) + nI (b (q + 1)) = nI (2 + b (q + 1)) from nI_add 2 _, if_pos (nI_le (by omega) (by omega)), sm2, if_pos rfl]
  | succ c ih =>
    intro fuel i hf hi h2
    obtain ⟨f, rfl⟩ : ∃ f, fuel = f + 1 := ⟨fuel - 1, by omega⟩
    obtain ⟨c1, c2⟩ := m_at R (x := nI (120 * t + q) + nI i) (p := q + i) (by rw [nI_add, show 120 * t + q + i = 120 * t + (q + i) by omega]) (by omega)
    obtain ⟨d1, d2⟩ := m_at R' (x := nI (120 * t' + p) + nI i) (p := p + i) (by rw [nI_add, show 120 * t' + p + i = 120 * t' + (p + i) by omega]) (by
      by_cases z : 2 ≤ i
      · have := h2 z; omega
      · omega)
    have g1 := (R.2.2.2 (q + i) (by omega)).2
    have g2 : b' (p + i) < 256 := (R'.2.2.2 (p + i) (by
      by_cases z : 2 ≤ i
      · have := h2 z; omega
      · omega)).2
    rw [fL_X5_areSameKeys_21, if_pos a1, a2, show (2 : Int32) + nI (b (q + 1)) = nI (2 + b (q + 1)) from nI_add 2 _, if_neg (nI_ge (by omega) (by omega)), if_neg (by decide), if_pos c1, if_pos d1, c2, d2, nI_1]
    by_cases e : b (q + i) = b' (p + i)
    · rw [if_pos (by rw [e]), sm2_t e]
      refine ih f (i + 1) (by omega) (by omega) (fun z => ?_)
      by_cases y : i = 1
      · subst y; exact e
      · exact h2 (by omega)
    · rw [if_neg (fun z => e ((nI_eq (by omega) (by omega)).mp z)), sm2_f e, if_neg (by decide)]
      exact m_sk0 R K c f (i + 1) (by omega) (by omega)
theorem m_sameKeys {M : Me} {n n' j : Nat} {b b' : Nat → Nat} (R : RM M 0 n b) (R' : RM M 7 n' b') (K : ∀ j, j < 4 → KS b n (ksP b j)) (K' : ∀ j, j < 4 → KS b' n' (ksP b' j)) (hj : j < 4) {x : Int32} (hx : x = nI j) : f_X5_areSameKeys x M = some (if skO b b' (ksP b j) (ksP b' j) = true then 1 else 0, M) := by
  have e := m_skL R R' (K j hj) (K' j hj) (2 + b (ksP b j + 1)) 200 0 (by have := (K j hj).2.2.2; omega) (by omega) (fun z => by omega)
  rw [f_X5_areSameKeys, m_keys (x := 0) R K hj rfl hx, Option.bind_some]
  dsimp only
  rw [m_keys (x := 7) R' K' hj rfl hx, Option.bind_some]
  dsimp only
  rw [show fL_X5_areSameKeys_21 200 (nI (120 * 0 + ksP b j)) (nI (120 * 7 + ksP b' j)) 1 0 M = _ from e, Option.bind_some, if_pos bB_ite, skO]
