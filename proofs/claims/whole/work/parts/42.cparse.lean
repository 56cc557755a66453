/-! the class reads a document: what each reader does to the place and to the soundness -/
def F5 (k : Nat) (M M' : Me) : Prop := ∀ a j, ¬ (a = k ∧ (j = 5 ∨ j = 6)) → M' a j = M a j
theorem F5.rf {k : Nat} {M : Me} : F5 k M M := fun _ _ _ => rfl
theorem F5.tr {k : Nat} {M M1 M2 : Me} (h : F5 k M M1) (g : F5 k M1 M2) : F5 k M M2 := fun a j c => (g a j c).trans (h a j c)
theorem F5.up5 {k : Nat} {M : Me} {v : Int32} : F5 k M (up M k 5 v) := fun a j c => by
  unfold up
  rw [if_neg]
  rintro ⟨rfl, rfl⟩
  exact c ⟨rfl, Or.inl rfl⟩
theorem F5.up6 {k : Nat} {M : Me} {v : Int32} : F5 k M (up M k 6 v) := fun a j c => by
  unfold up
  rw [if_neg]
  rintro ⟨rfl, rfl⟩
  exact c ⟨rfl, Or.inr rfl⟩
theorem F5.row {k a : Nat} {M M' : Me} (h : F5 k M M') (ha : a ≠ k) : M' a = M a := by
  funext j
  exact h a j (fun q => ha q.1)
theorem RW.f5 {k n : Nat} {b : Nat → Nat} {M M' : Me} (h : RW M (k + 1) n b) (f : F5 k M M') : RW M' (k + 1) n b := by
  obtain ⟨h1, h2, h3, h4⟩ := h
  have e1 := f.row (a := k + 1) (by omega)
  have e2 := f.row (a := k + 1 + 1) (by omega)
  exact ⟨by rw [e1]; exact h1, h2, h3, fun i hi => by rw [e2]; exact h4 i hi⟩
/-- the reader stands at st, or is unsound -/
def CS (M : Me) (k n : Nat) (b : Nat → Nat) (st : Option Nat) : Prop := RW M (k + 1) n b ∧ ∃ p, p ≤ n ∧ M k 5 = nI p ∧ ((M k 6 = 1 ∧ st = some p) ∨ (M k 6 = 0 ∧ st = none))
theorem cs_next {k n lo hi : Nat} {b : Nat → Nat} {lo' hi' : Int32} (hlo : lo' = nI lo) (hhi : hi' = nI hi) (g1 : lo < 1000) (g2 : hi < 1000) {M : Me} {st : Option Nat} (h : CS M k n b st) :
    ∃ v M', f_X0_next k lo' hi' M = some (nI v, M') ∧ CS M' k n b (st.bind (pN b n lo hi)) ∧ F5 k M M' ∧ lo ≤ v ∧ (v ≤ hi ∨ v = lo) ∧ (∀ p, st = some p → pN b n lo hi p = some (p + 1) → v = b p) := by
  subst hlo
  subst hhi
  obtain ⟨hR, p, hp, hpl, hst⟩ := h
  have hn : n ≤ 120 := by obtain ⟨_, h2, h3, _⟩ := hR; omega
  have bad : (∀ q, st = some q → pN b n lo hi q = none) → ∃ v M', some (nI lo, up M k 6 0) = some (nI v, M') ∧ CS M' k n b (st.bind (pN b n lo hi)) ∧ F5 k M M' ∧ lo ≤ v ∧ (v ≤ hi ∨ v = lo) ∧ (∀ p, st = some p → pN b n lo hi p = some (p + 1) → v = b p) := by
    intro hq
    refine ⟨lo, _, rfl, ⟨hR.f5 F5.up6, p, hp, by rw [up_j (by decide)]; exact hpl, Or.inr ⟨up_s, ?_⟩⟩, F5.up6, Nat.le_refl _, Or.inr rfl, fun q e1 e2 => ?_⟩
    · cases st with
      | none => rfl
      | some q => exact hq q rfl
    · rw [hq q e1] at e2; cases e2
  unfold f_X0_next
  rw [hpl, s_byteAt hR (by omega)]
  simp only [Option.bind_some]
  by_cases c : p < n
  · simp only [if_pos c]
    have hb := (hR.2.2.2 p c).2
    by_cases c1 : b p < lo
    · rw [if_pos (nI_lt c1 (by omega))]
      refine bad (fun q e => ?_)
      rcases hst with ⟨-, e2⟩ | ⟨-, e2⟩
      · rw [e] at e2; cases e2
        rw [pN, if_neg (by omega)]
      · rw [e] at e2; cases e2
    · rw [if_neg (nI_nlt (by omega) (by omega))]
      by_cases c2 : b p ≤ hi
      · rw [if_pos (nI_le c2 (by omega))]
        refine ⟨b p, _, rfl, ⟨hR.f5 F5.up5, p + 1, by omega, by rw [up_s, hpl, nI_1], ?_⟩, F5.up5, by omega, Or.inl c2, fun q e1 e2 => ?_⟩
        · rw [up_j (by decide)]
          rcases hst with ⟨e1, e2⟩ | ⟨e1, e2⟩
          · left; refine ⟨e1, ?_⟩; rw [e2]; show pN b n lo hi p = _; rw [pN, if_pos (by omega)]
          · right; refine ⟨e1, ?_⟩; rw [e2]; rfl
        · rcases hst with ⟨-, e3⟩ | ⟨-, e3⟩
          · rw [e1] at e3; cases e3; rfl
          · rw [e1] at e3; cases e3
      · rw [if_neg (nI_ge (by omega) (by omega))]
        refine bad (fun q e => ?_)
        rcases hst with ⟨-, e2⟩ | ⟨-, e2⟩
        · rw [e] at e2; cases e2
          rw [pN, if_neg (by omega)]
        · rw [e] at e2; cases e2
  · simp only [if_neg c]
    rw [if_pos (m1_lt (by omega))]
    refine bad (fun q e => ?_)
    rcases hst with ⟨-, e2⟩ | ⟨-, e2⟩
    · rw [e] at e2; cases e2
      rw [pN, if_neg (by omega)]
    · rw [e] at e2; cases e2
/-- a reader that gives nothing -/
def PC (k n : Nat) (b : Nat → Nat) (g : Me → Option (Int32 × Me)) (sp : Nat → Option Nat) : Prop := ∀ (M : Me) (st : Option Nat), CS M k n b st → ∃ M', g M = some (0, M') ∧ CS M' k n b (st.bind sp) ∧ F5 k M M'
theorem ob_bind {α β γ : Type} (x : Option α) (f : α → Option β) (g : β → Option γ) : (x.bind f).bind g = x.bind (fun a => (f a).bind g) := by cases x <;> rfl
/-- so many bytes of any kind -/
def pAny (b : Nat → Nat) (n : Nat) : Nat → Nat → Option Nat
  | 0, p => some p
  | c + 1, p => (pN b n 0 255 p).bind fun q => pAny b n c q
theorem pAny_sk {b : Nat → Nat} {n : Nat} (hb : ∀ i, i < n → b i < 256) : ∀ c p, p ≤ n → pAny b n c p = pSk n c p := by
  intro c
  induction c with
  | zero => intro p hp; simp [pAny, pSk, hp]
  | succ c ih =>
    intro p hp
    simp only [pAny]
    by_cases h : p < n
    · have := hb p h
      rw [pN, if_pos (by omega), Option.bind_some, ih (p + 1) (by omega), pSk, pSk, show p + 1 + c = p + (c + 1) by omega]
    · rw [pN, if_neg (by omega), pSk, if_neg (by omega)]; rfl
theorem cs_skipL {k n : Nat} {b : Nat → Nat} : ∀ (c fuel i : Nat) (M : Me) (st : Option Nat), c < fuel → i + c < 1000 → CS M k n b st → ∃ M', fL_X0_skip_2 fuel k (nI (i + c)) (nI i) M = some (0, M') ∧ CS M' k n b (st.bind (pAny b n c)) ∧ F5 k M M' := by
  intro c
  induction c with
  | zero =>
    intro fuel i M st hf hi h
    obtain ⟨f, rfl⟩ : ∃ f, fuel = f + 1 := ⟨fuel - 1, by omega⟩
    refine ⟨M, ?_, ?_, F5.rf⟩
    · rw [fL_X0_skip_2, if_pos (nI_le (by omega) (by omega))]
    · cases st <;> exact h
  | succ c ih =>
    intro fuel i M st hf hi h
    obtain ⟨f, rfl⟩ : ∃ f, fuel = f + 1 := ⟨fuel - 1, by omega⟩
    obtain ⟨v, M1, e1, h1, f1, -⟩ := cs_next (lo := 0) (hi := 255) (lo' := 0) (hi' := 255) rfl rfl (by omega) (by omega) h
    obtain ⟨M2, e2, h2, f2⟩ := ih f (i + 1) M1 _ (by omega) (by omega) h1
    refine ⟨M2, ?_, ?_, f1.tr f2⟩
    · rw [fL_X0_skip_2, if_neg (nI_ge (by omega) (by omega)), e1, Option.bind_some, nI_1]
      rw [show i + (c + 1) = i + 1 + c by omega]; exact e2
    · rw [ob_bind] at h2; exact h2
