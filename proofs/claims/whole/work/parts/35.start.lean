theorem nc_of {A B : String} {s : State} {args : Array Value} (hA : va_Nw (.castable A A) s) (hB : va_Nw (.castable B B) s) (hno : (Cond.not (.castable A B)).before args s = true) : va_Nc A B s := by
  obtain ⟨c1, c2, h1, h2, -⟩ := Cond.castable_spec (va_Nw.use (A := args) rfl hA)
  obtain ⟨c3, c4, h3, h4, -⟩ := Cond.castable_spec (va_Nw.use (A := args) rfl hB)
  have hv := Cond.holds_not_iff.mp hno
  simp only [Cond.value, h1, h3] at hv
  exact ⟨c1, c3, h1, h3, Option.some.inj hv⟩
theorem arrV_congr {cA : ClassId} {n : Nat} {z z' : Nat → Value} (h : ∀ j, j < n → z j = z' j) : arrV cA n z = arrV cA n z' := by
  unfold arrV
  congr 1
  apply Array.ext
  · simp
  · intro i h1 h2
    simp at h1
    simp [h i (by simpa using h1)]
def M0 : Me := fun _ _ => 0
def adr (a o nn : Nat → Nat) (d : Nat → Nat → Nat) (am : Nat → Nat) (q72 q73 q79 : Nat) : Nat → Nat := fun k =>
  if k < 49 then d (k / 7) (k % 7) else if k < 56 then nn (k - 49) else if k < 63 then o (k - 56)
  else if k = 63 then a 0 else if k = 64 then a 1 else if k = 65 then a 2 else if k = 66 then a 3 else if k = 67 then a 7 else if k = 68 then a 8
  else if k = 69 then a 4 else if k = 70 then a 5 else if k = 71 then a 6 else if k = 72 then q72 else if k = 73 then q73 else if k < 79 then am (k - 74) else q79
def fin80 (cs : Cs) (a o nn : Nat → Nat) (d : Nat → Nat → Nat) (am : Nat → Nat) (q72 q73 q79 : Nat) : va_W := (tuL cs q72 a o nn d ++ modL cs q73 am) ++ [(q79, .inl (cs.2.2.1, 1, .inr (.inl (fun _ => (0 : Int32).toInt64))))]
def piL : List Nat := [21, 22, 23, 24, 25, 26, 27, 28, 29, 30, 31, 32, 33, 34, 35, 36, 37, 38, 39, 40, 41, 42, 43, 44, 45, 46, 47, 48, 49, 50, 51, 52, 53, 54, 55, 56, 57, 58, 59, 60, 61, 62, 63, 64, 65, 66, 67, 68, 69, 13, 14, 15, 16, 17, 18, 19, 5, 6, 7, 8, 9, 10, 11, 1, 2, 3, 4, 71, 72, 12, 20, 70, 0, 73, 74, 75, 76, 77, 78, 79]
def pi (k : Nat) : Nat := piL.getD k 0
theorem pi_inj : ∀ i, i < 80 → ∀ j, j < 80 → pi i = pi j → i = j := by decide +kernel
set_option maxHeartbeats 4000000 in
set_option maxRecDepth 100000 in
theorem flat_all {l : Launch} {D : va_G} {cs : Cs} {a o nn : Nat → Nat} {d : Nat → Nat → Nat} {am : Nat → Nat} {q72 q73 q79 z : Nat} {H : Heap} (hP : va_P D vwCl (fin80 cs a o nn d am q72 q73 q79) H) : ∀ k, k < 80 → ∃ e : va_E, (fin80 cs a o nn d am q72 q73 q79)[pi k]? = some (ga ((l, D, cs, adr a o nn d am q72 q73 q79, z) : GG) k, e) ∧ va_at D vwCl (ga ((l, D, cs, adr a o nn d am q72 q73 q79, z) : GG) k, sh ((l, D, cs, adr a o nn d am q72 q73 q79, z) : GG) M0 k) H := by
  intro k hk
  have hh : k = 0 ∨ k = 1 ∨ k = 2 ∨ k = 3 ∨ k = 4 ∨ k = 5 ∨ k = 6 ∨ k = 7 ∨ k = 8 ∨ k = 9 ∨ k = 10 ∨ k = 11 ∨ k = 12 ∨ k = 13 ∨ k = 14 ∨ k = 15 ∨ k = 16 ∨ k = 17 ∨ k = 18 ∨ k = 19 ∨ k = 20 ∨ k = 21 ∨ k = 22 ∨ k = 23 ∨ k = 24 ∨ k = 25 ∨ k = 26 ∨ k = 27 ∨ k = 28 ∨ k = 29 ∨ k = 30 ∨ k = 31 ∨ k = 32 ∨ k = 33 ∨ k = 34 ∨ k = 35 ∨ k = 36 ∨ k = 37 ∨ k = 38 ∨ k = 39 ∨ k = 40 ∨ k = 41 ∨ k = 42 ∨ k = 43 ∨ k = 44 ∨ k = 45 ∨ k = 46 ∨ k = 47 ∨ k = 48 ∨ k = 49 ∨ k = 50 ∨ k = 51 ∨ k = 52 ∨ k = 53 ∨ k = 54 ∨ k = 55 ∨ k = 56 ∨ k = 57 ∨ k = 58 ∨ k = 59 ∨ k = 60 ∨ k = 61 ∨ k = 62 ∨ k = 63 ∨ k = 64 ∨ k = 65 ∨ k = 66 ∨ k = 67 ∨ k = 68 ∨ k = 69 ∨ k = 70 ∨ k = 71 ∨ k = 72 ∨ k = 73 ∨ k = 74 ∨ k = 75 ∨ k = 76 ∨ k = 77 ∨ k = 78 ∨ k = 79 := by omega
  rcases hh with rfl | rfl | rfl | rfl | rfl | rfl | rfl | rfl | rfl | rfl | rfl | rfl | rfl | rfl | rfl | rfl | rfl | rfl | rfl | rfl | rfl | rfl | rfl | rfl | rfl | rfl | rfl | rfl | rfl | rfl | rfl | rfl | rfl | rfl | rfl | rfl | rfl | rfl | rfl | rfl | rfl | rfl | rfl | rfl | rfl | rfl | rfl | rfl | rfl | rfl | rfl | rfl | rfl | rfl | rfl | rfl | rfl | rfl | rfl | rfl | rfl | rfl | rfl | rfl | rfl | rfl | rfl | rfl | rfl | rfl | rfl | rfl | rfl | rfl | rfl | rfl | rfl | rfl | rfl | rfl
  · exact ⟨_, rfl, hP 21 (ga ((l, D, cs, adr a o nn d am q72 q73 q79, z) : GG) 0, sh ((l, D, cs, adr a o nn d am q72 q73 q79, z) : GG) M0 0) rfl⟩
  · exact ⟨_, rfl, hP 22 (ga ((l, D, cs, adr a o nn d am q72 q73 q79, z) : GG) 1, sh ((l, D, cs, adr a o nn d am q72 q73 q79, z) : GG) M0 1) rfl⟩
  · exact ⟨_, rfl, hP 23 (ga ((l, D, cs, adr a o nn d am q72 q73 q79, z) : GG) 2, sh ((l, D, cs, adr a o nn d am q72 q73 q79, z) : GG) M0 2) rfl⟩
  · exact ⟨_, rfl, hP 24 (ga ((l, D, cs, adr a o nn d am q72 q73 q79, z) : GG) 3, sh ((l, D, cs, adr a o nn d am q72 q73 q79, z) : GG) M0 3) rfl⟩
  · exact ⟨_, rfl, hP 25 (ga ((l, D, cs, adr a o nn d am q72 q73 q79, z) : GG) 4, sh ((l, D, cs, adr a o nn d am q72 q73 q79, z) : GG) M0 4) rfl⟩
  · exact ⟨_, rfl, hP 26 (ga ((l, D, cs, adr a o nn d am q72 q73 q79, z) : GG) 5, sh ((l, D, cs, adr a o nn d am q72 q73 q79, z) : GG) M0 5) rfl⟩
  · exact ⟨_, rfl, hP 27 (ga ((l, D, cs, adr a o nn d am q72 q73 q79, z) : GG) 6, sh ((l, D, cs, adr a o nn d am q72 q73 q79, z) : GG) M0 6) rfl⟩
  · exact ⟨_, rfl, hP 28 (ga ((l, D, cs, adr a o nn d am q72 q73 q79, z) : GG) 7, sh ((l, D, cs, adr a o nn d am q72 q73 q79, z) : GG) M0 7) rfl⟩
  · exact ⟨_, rfl, hP 29 (ga ((l, D, cs, adr a o nn d am q72 q73 q79, z) : GG) 8, sh ((l, D, cs, adr a o nn d am q72 q73 q79, z) : GG) M0 8) rfl⟩
  · exact ⟨_, rfl, hP 30 (ga ((l, D, cs, adr a o nn d am q72 q73 q79, z) : GG) 9, sh ((l, D, cs, adr a o nn d am q72 q73 q79, z) : GG) M0 9) rfl⟩
  · exact ⟨_, rfl, hP 31 (ga ((l, D, cs, adr a o nn d am q72 q73 q79, z) : GG) 10, sh ((l, D, cs, adr a o nn d am q72 q73 q79, z) : GG) M0 10) rfl⟩
  · exact ⟨_, rfl, hP 32 (ga ((l, D, cs, adr a o nn d am q72 q73 q79, z) : GG) 11, sh ((l, D, cs, adr a o nn d am q72 q73 q79, z) : GG) M0 11) rfl⟩
  · exact ⟨_, rfl, hP 33 (ga ((l, D, cs, adr a o nn d am q72 q73 q79, z) : GG) 12, sh ((l, D, cs, adr a o nn d am q72 q73 q79, z) : GG) M0 12) rfl⟩
  · exact ⟨_, rfl, hP 34 (ga ((l, D, cs, adr a o nn d am q72 q73 q79, z) : GG) 13, sh ((l, D, cs, adr a o nn d am q72 q73 q79, z) : GG) M0 13) rfl⟩
  · exact ⟨_, rfl, hP 35 (ga ((l, D, cs, adr a o nn d am q72 q73 q79, z) : GG) 14, sh ((l, D, cs, adr a o nn d am q72 q73 q79, z) : GG) M0 14) rfl⟩
  · exact ⟨_, rfl, hP 36 (ga ((l, D, cs, adr a o nn d am q72 q73 q79, z) : GG) 15, sh ((l, D, cs, adr a o nn d am q72 q73 q79, z) : GG) M0 15) rfl⟩
  · exact ⟨_, rfl, hP 37 (ga ((l, D, cs, adr a o nn d am q72 q73 q79, z) : GG) 16, sh ((l, D, cs, adr a o nn d am q72 q73 q79, z) : GG) M0 16) rfl⟩
  · exact ⟨_, rfl, hP 38 (ga ((l, D, cs, adr a o nn d am q72 q73 q79, z) : GG) 17, sh ((l, D, cs, adr a o nn d am q72 q73 q79, z) : GG) M0 17) rfl⟩
  · exact ⟨_, rfl, hP 39 (ga ((l, D, cs, adr a o nn d am q72 q73 q79, z) : GG) 18, sh ((l, D, cs, adr a o nn d am q72 q73 q79, z) : GG) M0 18) rfl⟩
  · exact ⟨_, rfl, hP 40 (ga ((l, D, cs, adr a o nn d am q72 q73 q79, z) : GG) 19, sh ((l, D, cs, adr a o nn d am q72 q73 q79, z) : GG) M0 19) rfl⟩
  · exact ⟨_, rfl, hP 41 (ga ((l, D, cs, adr a o nn d am q72 q73 q79, z) : GG) 20, sh ((l, D, cs, adr a o nn d am q72 q73 q79, z) : GG) M0 20) rfl⟩
  · exact ⟨_, rfl, hP 42 (ga ((l, D, cs, adr a o nn d am q72 q73 q79, z) : GG) 21, sh ((l, D, cs, adr a o nn d am q72 q73 q79, z) : GG) M0 21) rfl⟩
  · exact ⟨_, rfl, hP 43 (ga ((l, D, cs, adr a o nn d am q72 q73 q79, z) : GG) 22, sh ((l, D, cs, adr a o nn d am q72 q73 q79, z) : GG) M0 22) rfl⟩
  · exact ⟨_, rfl, hP 44 (ga ((l, D, cs, adr a o nn d am q72 q73 q79, z) : GG) 23, sh ((l, D, cs, adr a o nn d am q72 q73 q79, z) : GG) M0 23) rfl⟩
  · exact ⟨_, rfl, hP 45 (ga ((l, D, cs, adr a o nn d am q72 q73 q79, z) : GG) 24, sh ((l, D, cs, adr a o nn d am q72 q73 q79, z) : GG) M0 24) rfl⟩
  · exact ⟨_, rfl, hP 46 (ga ((l, D, cs, adr a o nn d am q72 q73 q79, z) : GG) 25, sh ((l, D, cs, adr a o nn d am q72 q73 q79, z) : GG) M0 25) rfl⟩
  · exact ⟨_, rfl, hP 47 (ga ((l, D, cs, adr a o nn d am q72 q73 q79, z) : GG) 26, sh ((l, D, cs, adr a o nn d am q72 q73 q79, z) : GG) M0 26) rfl⟩
  · exact ⟨_, rfl, hP 48 (ga ((l, D, cs, adr a o nn d am q72 q73 q79, z) : GG) 27, sh ((l, D, cs, adr a o nn d am q72 q73 q79, z) : GG) M0 27) rfl⟩
  · exact ⟨_, rfl, hP 49 (ga ((l, D, cs, adr a o nn d am q72 q73 q79, z) : GG) 28, sh ((l, D, cs, adr a o nn d am q72 q73 q79, z) : GG) M0 28) rfl⟩
  · exact ⟨_, rfl, hP 50 (ga ((l, D, cs, adr a o nn d am q72 q73 q79, z) : GG) 29, sh ((l, D, cs, adr a o nn d am q72 q73 q79, z) : GG) M0 29) rfl⟩
  · exact ⟨_, rfl, hP 51 (ga ((l, D, cs, adr a o nn d am q72 q73 q79, z) : GG) 30, sh ((l, D, cs, adr a o nn d am q72 q73 q79, z) : GG) M0 30) rfl⟩
  · exact ⟨_, rfl, hP 52 (ga ((l, D, cs, adr a o nn d am q72 q73 q79, z) : GG) 31, sh ((l, D, cs, adr a o nn d am q72 q73 q79, z) : GG) M0 31) rfl⟩
  · exact ⟨_, rfl, hP 53 (ga ((l, D, cs, adr a o nn d am q72 q73 q79, z) : GG) 32, sh ((l, D, cs, adr a o nn d am q72 q73 q79, z) : GG) M0 32) rfl⟩
  · exact ⟨_, rfl, hP 54 (ga ((l, D, cs, adr a o nn d am q72 q73 q79, z) : GG) 33, sh ((l, D, cs, adr a o nn d am q72 q73 q79, z) : GG) M0 33) rfl⟩
  · exact ⟨_, rfl, hP 55 (ga ((l, D, cs, adr a o nn d am q72 q73 q79, z) : GG) 34, sh ((l, D, cs, adr a o nn d am q72 q73 q79, z) : GG) M0 34) rfl⟩
  · exact ⟨_, rfl, hP 56 (ga ((l, D, cs, adr a o nn d am q72 q73 q79, z) : GG) 35, sh ((l, D, cs, adr a o nn d am q72 q73 q79, z) : GG) M0 35) rfl⟩
  · exact ⟨_, rfl, hP 57 (ga ((l, D, cs, adr a o nn d am q72 q73 q79, z) : GG) 36, sh ((l, D, cs, adr a o nn d am q72 q73 q79, z) : GG) M0 36) rfl⟩
  · exact ⟨_, rfl, hP 58 (ga ((l, D, cs, adr a o nn d am q72 q73 q79, z) : GG) 37, sh ((l, D, cs, adr a o nn d am q72 q73 q79, z) : GG) M0 37) rfl⟩
  · exact ⟨_, rfl, hP 59 (ga ((l, D, cs, adr a o nn d am q72 q73 q79, z) : GG) 38, sh ((l, D, cs, adr a o nn d am q72 q73 q79, z) : GG) M0 38) rfl⟩
  · exact ⟨_, rfl, hP 60 (ga ((l, D, cs, adr a o nn d am q72 q73 q79, z) : GG) 39, sh ((l, D, cs, adr a o nn d am q72 q73 q79, z) : GG) M0 39) rfl⟩
  · exact ⟨_, rfl, hP 61 (ga ((l, D, cs, adr a o nn d am q72 q73 q79, z) : GG) 40, sh ((l, D, cs, adr a o nn d am q72 q73 q79, z) : GG) M0 40) rfl⟩
  · exact ⟨_, rfl, hP 62 (ga ((l, D, cs, adr a o nn d am q72 q73 q79, z) : GG) 41, sh ((l, D, cs, adr a o nn d am q72 q73 q79, z) : GG) M0 41) rfl⟩
  · exact ⟨_, rfl, hP 63 (ga ((l, D, cs, adr a o nn d am q72 q73 q79, z) : GG) 42, sh ((l, D, cs, adr a o nn d am q72 q73 q79, z) : GG) M0 42) rfl⟩
  · exact ⟨_, rfl, hP 64 (ga ((l, D, cs, adr a o nn d am q72 q73 q79, z) : GG) 43, sh ((l, D, cs, adr a o nn d am q72 q73 q79, z) : GG) M0 43) rfl⟩
  · exact ⟨_, rfl, hP 65 (ga ((l, D, cs, adr a o nn d am q72 q73 q79, z) : GG) 44, sh ((l, D, cs, adr a o nn d am q72 q73 q79, z) : GG) M0 44) rfl⟩
  · exact ⟨_, rfl, hP 66 (ga ((l, D, cs, adr a o nn d am q72 q73 q79, z) : GG) 45, sh ((l, D, cs, adr a o nn d am q72 q73 q79, z) : GG) M0 45) rfl⟩
  · exact ⟨_, rfl, hP 67 (ga ((l, D, cs, adr a o nn d am q72 q73 q79, z) : GG) 46, sh ((l, D, cs, adr a o nn d am q72 q73 q79, z) : GG) M0 46) rfl⟩
  · exact ⟨_, rfl, hP 68 (ga ((l, D, cs, adr a o nn d am q72 q73 q79, z) : GG) 47, sh ((l, D, cs, adr a o nn d am q72 q73 q79, z) : GG) M0 47) rfl⟩
  · exact ⟨_, rfl, hP 69 (ga ((l, D, cs, adr a o nn d am q72 q73 q79, z) : GG) 48, sh ((l, D, cs, adr a o nn d am q72 q73 q79, z) : GG) M0 48) rfl⟩
  · exact ⟨_, rfl, hP 13 (ga ((l, D, cs, adr a o nn d am q72 q73 q79, z) : GG) 49, sh ((l, D, cs, adr a o nn d am q72 q73 q79, z) : GG) M0 49) rfl⟩
  · exact ⟨_, rfl, hP 14 (ga ((l, D, cs, adr a o nn d am q72 q73 q79, z) : GG) 50, sh ((l, D, cs, adr a o nn d am q72 q73 q79, z) : GG) M0 50) rfl⟩
  · exact ⟨_, rfl, hP 15 (ga ((l, D, cs, adr a o nn d am q72 q73 q79, z) : GG) 51, sh ((l, D, cs, adr a o nn d am q72 q73 q79, z) : GG) M0 51) rfl⟩
  · exact ⟨_, rfl, hP 16 (ga ((l, D, cs, adr a o nn d am q72 q73 q79, z) : GG) 52, sh ((l, D, cs, adr a o nn d am q72 q73 q79, z) : GG) M0 52) rfl⟩
  · exact ⟨_, rfl, hP 17 (ga ((l, D, cs, adr a o nn d am q72 q73 q79, z) : GG) 53, sh ((l, D, cs, adr a o nn d am q72 q73 q79, z) : GG) M0 53) rfl⟩
  · exact ⟨_, rfl, hP 18 (ga ((l, D, cs, adr a o nn d am q72 q73 q79, z) : GG) 54, sh ((l, D, cs, adr a o nn d am q72 q73 q79, z) : GG) M0 54) rfl⟩
  · exact ⟨_, rfl, hP 19 (ga ((l, D, cs, adr a o nn d am q72 q73 q79, z) : GG) 55, sh ((l, D, cs, adr a o nn d am q72 q73 q79, z) : GG) M0 55) rfl⟩
  · exact ⟨_, rfl, hP 5 (ga ((l, D, cs, adr a o nn d am q72 q73 q79, z) : GG) 56, sh ((l, D, cs, adr a o nn d am q72 q73 q79, z) : GG) M0 56) rfl⟩
  · exact ⟨_, rfl, hP 6 (ga ((l, D, cs, adr a o nn d am q72 q73 q79, z) : GG) 57, sh ((l, D, cs, adr a o nn d am q72 q73 q79, z) : GG) M0 57) rfl⟩
  · exact ⟨_, rfl, hP 7 (ga ((l, D, cs, adr a o nn d am q72 q73 q79, z) : GG) 58, sh ((l, D, cs, adr a o nn d am q72 q73 q79, z) : GG) M0 58) rfl⟩
  · exact ⟨_, rfl, hP 8 (ga ((l, D, cs, adr a o nn d am q72 q73 q79, z) : GG) 59, sh ((l, D, cs, adr a o nn d am q72 q73 q79, z) : GG) M0 59) rfl⟩
  · exact ⟨_, rfl, hP 9 (ga ((l, D, cs, adr a o nn d am q72 q73 q79, z) : GG) 60, sh ((l, D, cs, adr a o nn d am q72 q73 q79, z) : GG) M0 60) rfl⟩
  · exact ⟨_, rfl, hP 10 (ga ((l, D, cs, adr a o nn d am q72 q73 q79, z) : GG) 61, sh ((l, D, cs, adr a o nn d am q72 q73 q79, z) : GG) M0 61) rfl⟩
  · exact ⟨_, rfl, hP 11 (ga ((l, D, cs, adr a o nn d am q72 q73 q79, z) : GG) 62, sh ((l, D, cs, adr a o nn d am q72 q73 q79, z) : GG) M0 62) rfl⟩
  · exact ⟨_, rfl, hP 1 (ga ((l, D, cs, adr a o nn d am q72 q73 q79, z) : GG) 63, sh ((l, D, cs, adr a o nn d am q72 q73 q79, z) : GG) M0 63) rfl⟩
  · exact ⟨_, rfl, hP 2 (ga ((l, D, cs, adr a o nn d am q72 q73 q79, z) : GG) 64, sh ((l, D, cs, adr a o nn d am q72 q73 q79, z) : GG) M0 64) rfl⟩
  · exact ⟨_, rfl, hP 3 (ga ((l, D, cs, adr a o nn d am q72 q73 q79, z) : GG) 65, sh ((l, D, cs, adr a o nn d am q72 q73 q79, z) : GG) M0 65) rfl⟩
  · exact ⟨_, rfl, hP 4 (ga ((l, D, cs, adr a o nn d am q72 q73 q79, z) : GG) 66, sh ((l, D, cs, adr a o nn d am q72 q73 q79, z) : GG) M0 66) rfl⟩
  · exact ⟨_, rfl, hP 71 (ga ((l, D, cs, adr a o nn d am q72 q73 q79, z) : GG) 67, sh ((l, D, cs, adr a o nn d am q72 q73 q79, z) : GG) M0 67) rfl⟩
  · exact ⟨_, rfl, hP 72 (ga ((l, D, cs, adr a o nn d am q72 q73 q79, z) : GG) 68, sh ((l, D, cs, adr a o nn d am q72 q73 q79, z) : GG) M0 68) rfl⟩
  · exact ⟨_, rfl, hP 12 (ga ((l, D, cs, adr a o nn d am q72 q73 q79, z) : GG) 69, sh ((l, D, cs, adr a o nn d am q72 q73 q79, z) : GG) M0 69) rfl⟩
  · refine ⟨_, rfl, ?_⟩
    have h1 : H[a 5]? = some (vp_cell cs.2.2.2 (7, .inr (.inr (.inr (.inr (qaF d 7)))))) := hP 20 (a 5, .inl (cs.2.2.2, 7, .inr (.inr (.inr (.inr (qaF d 7)))))) rfl
    show H[a 5]? = some (vp_cell cs.2.2.2 (7, .inr (.inr (.inr (.inr (fun j => some (ga ((l, D, cs, adr a o nn d am q72 q73 q79, z) : GG) (7 * j))))))))
    rw [h1, vp_cell_q, vp_cell_q]
    refine congrArg some (arrV_congr (fun j hj => ?_))
    rcases (show j = 0 ∨ j = 1 ∨ j = 2 ∨ j = 3 ∨ j = 4 ∨ j = 5 ∨ j = 6 by omega) with rfl | rfl | rfl | rfl | rfl | rfl | rfl <;> rfl
  · exact ⟨_, rfl, hP 70 (ga ((l, D, cs, adr a o nn d am q72 q73 q79, z) : GG) 71, sh ((l, D, cs, adr a o nn d am q72 q73 q79, z) : GG) M0 71) rfl⟩
  · exact ⟨_, rfl, hP 0 (ga ((l, D, cs, adr a o nn d am q72 q73 q79, z) : GG) 72, sh ((l, D, cs, adr a o nn d am q72 q73 q79, z) : GG) M0 72) rfl⟩
  · exact ⟨_, rfl, hP 73 (ga ((l, D, cs, adr a o nn d am q72 q73 q79, z) : GG) 73, sh ((l, D, cs, adr a o nn d am q72 q73 q79, z) : GG) M0 73) rfl⟩
  · exact ⟨_, rfl, hP 74 (ga ((l, D, cs, adr a o nn d am q72 q73 q79, z) : GG) 74, sh ((l, D, cs, adr a o nn d am q72 q73 q79, z) : GG) M0 74) rfl⟩
  · exact ⟨_, rfl, hP 75 (ga ((l, D, cs, adr a o nn d am q72 q73 q79, z) : GG) 75, sh ((l, D, cs, adr a o nn d am q72 q73 q79, z) : GG) M0 75) rfl⟩
  · exact ⟨_, rfl, hP 76 (ga ((l, D, cs, adr a o nn d am q72 q73 q79, z) : GG) 76, sh ((l, D, cs, adr a o nn d am q72 q73 q79, z) : GG) M0 76) rfl⟩
  · exact ⟨_, rfl, hP 77 (ga ((l, D, cs, adr a o nn d am q72 q73 q79, z) : GG) 77, sh ((l, D, cs, adr a o nn d am q72 q73 q79, z) : GG) M0 77) rfl⟩
  · exact ⟨_, rfl, hP 78 (ga ((l, D, cs, adr a o nn d am q72 q73 q79, z) : GG) 78, sh ((l, D, cs, adr a o nn d am q72 q73 q79, z) : GG) M0 78) rfl⟩
  · exact ⟨_, rfl, hP 79 (ga ((l, D, cs, adr a o nn d am q72 q73 q79, z) : GG) 79, sh ((l, D, cs, adr a o nn d am q72 q73 q79, z) : GG) M0 79) rfl⟩
theorem flat_of {l : Launch} {D : va_G} {cs : Cs} {a o nn : Nat → Nat} {d : Nat → Nat → Nat} {am : Nat → Nat} {q72 q73 q79 : Nat} {s : State} {H : Heap} {locs : List Loc} (hP : va_P D vwCl (fin80 cs a o nn d am q72 q73 q79) H) (hD : va_D (fun q : Nat => s.heap.size ≤ q) (fin80 cs a o nn d am q72 q73 q79)) (hS : va_S (fun q : Nat => s.heap.size ≤ q) s.heap H locs) (G : GG) (hG : G = (l, D, cs, adr a o nn d am q72 q73 q79, s.heap.size)) : wH G s M0 H locs ∧ ∀ q, wA G q → s.heap.size ≤ q := by
  subst hG
  have hall := flat_all (l := l) (z := s.heap.size) hP
  have inr : ∀ (k : Nat) (q : Nat × va_E), (ww (l, D, cs, adr a o nn d am q72 q73 q79, s.heap.size) M0)[k]? = some q → k < 80 ∧ q = (ga (l, D, cs, adr a o nn d am q72 q73 q79, s.heap.size) k, sh (l, D, cs, adr a o nn d am q72 q73 q79, s.heap.size) M0 k) := by
    intro k q hq
    have hk : k < 80 := by
      have := (List.getElem?_eq_some_iff.mp hq).1
      simpa [ww] using this
    rw [ww_at hk] at hq
    exact ⟨hk, (Option.some.inj hq).symm⟩
  refine ⟨⟨fun k q hq => ?_, ⟨fun i j p q hp hq e => ?_, fun k q hq => ?_⟩, hS.1, fun q h1 h2 => ?_, fun x hx => Or.inr (hS.2.2 x hx)⟩, fun q hq => ?_⟩
  · obtain ⟨hk, rfl⟩ := inr k q hq
    obtain ⟨e, -, h⟩ := hall k hk
    exact h
  · obtain ⟨hi, rfl⟩ := inr i p hp
    obtain ⟨hj, rfl⟩ := inr j q hq
    obtain ⟨e1, f1, -⟩ := hall i hi
    obtain ⟨e2, f2, -⟩ := hall j hj
    exact pi_inj i hi j hj (hD.1 _ _ _ _ f1 f2 e)
  · obtain ⟨hk, rfl⟩ := inr k q hq
    exact Or.inl ⟨k, hk, rfl⟩
  · exact hS.2.1 q h1 (Nat.not_le.mpr h1)
  · rcases hq with ⟨k, hk, rfl⟩ | hq
    · obtain ⟨e1, f1, -⟩ := hall k hk
      exact hD.2 _ _ f1
    · exact hq
set_option maxHeartbeats 4000000 in
set_option maxRecDepth 100000 in
/-- THE LAW, from its entry; that its loop ends with true is what remains of it -/
theorem whole_start {p : Program} {e : Env} {s : State} {m : MethodId} {below : List Frame} {meth : Method} {c : Code} (l : Launch) (hst : l.stackTraces = false) {b L : Nat} {xs : Nat → Int32} {y : Int32 × Me} (hlaw : fL_L_law xs L 200 0 M0 = some y) (hy : y.1 = 1) (C0 : lw_At p s m meth c b L xs) : W p l e room_1 s m #[Value.ref b] below meth c s.heap [] 0 0 (lw_Z below #[Value.ref b] s) (entryFrame m ([Value.ref b] : List Value).toArray 7) := by
  obtain ⟨hx, hb, hr, hml, hown, hts0, hX, hbl, hlocks, hgv⟩ := id C0
  have hts : ∀ w ∈ wsL_law, w.before #[Value.ref b] s = true := fun w h => hts0 w (wsL_law_in w h)
  have hnar := flat_of_before _ hgv
  have hA : ∀ q : Nat, s.heap.size ≤ q → (fun q : Nat => s.heap.size ≤ q) q := fun _ h => h
  obtain ⟨c0, iS0, hKn0⟩ := u_known (C := RX0) (T := TX0) (N := 15) (n := 15) hts0 inX0 (hts (.instantiable RX0 15) (by decide +kernel))
  obtain ⟨c1, iS1, hKn1⟩ := u_known (C := RX1) (T := TX1) (N := 2) (n := 2) hts0 inX1 (hts (.instantiable RX1 2) (by decide +kernel))
  obtain ⟨c2, iS2, hKn2⟩ := u_known (C := RX2) (T := TX2) (N := 7) (n := 7) hts0 inX2 (hts (.instantiable RX2 7) (by decide +kernel))
  obtain ⟨c3, iS3, hKn3⟩ := u_known (C := RX3) (T := TX3) (N := 3) (n := 3) hts0 inX3 (hts (.instantiable RX3 3) (by decide +kernel))
  obtain ⟨c4, iS4, hKn4⟩ := u_known (C := RX4) (T := TX4) (N := 7) (n := 7) hts0 inX4 (hts (.instantiable RX4 7) (by decide +kernel))
  obtain ⟨c5, iS5, hKn5⟩ := u_known (C := RX5) (T := TX5) (N := 18) (n := 18) hts0 inX5 (hts (.instantiable RX5 18) (by decide +kernel))
  obtain ⟨D, hKc⟩ : ∃ D : va_G, ∀ (k : Nat) (q : vw_C), vwCl[k]? = some q → u_Kn s q.1 q.2.1 q.2.2 (D.1 k) (D.2 k) := by
    refine ⟨(fun k => match k with | 0 => c0 | 1 => c1 | 2 => c2 | 3 => c3 | 4 => c4 | _ => c5, fun k => match k with | 0 => iS0 | 1 => iS1 | 2 => iS2 | 3 => iS3 | 4 => iS4 | _ => iS5), ?_⟩
    intro k q hq
    match k, hq with
    | 0, hq => cases hq; exact hKn0
    | 1, hq => cases hq; exact hKn1
    | 2, hq => cases hq; exact hKn2
    | 3, hq => cases hq; exact hKn3
    | 4, hq => cases hq; exact hKn4
    | 5, hq => cases hq; exact hKn5
    | k + 6, hq => simp [vwCl] at hq
  have arr : ∀ ty : FieldType, (∀ C, ty ≠ .object C) → (Cond.arrayClass ty).before #[Value.ref b] s = true → ∃ cA, ArrOfT s cA ty ∧ va_RA s cA ty := by
    intro ty hno h
    obtain ⟨cA, kA, comp, h1, h2, h3⟩ := Cond.arrayClass_spec h
    refine ⟨cA, fun n z => ⟨fun k h => (by cases h), kA, h2, comp, h3⟩, ?_⟩
    cases ty with
    | object C => exact absurd rfl (hno C)
    | _ => exact h1
  obtain ⟨cI, hI⟩ := arr .int (by intro C h; cases h) (hts (.arrayClass .int) (by decide +kernel))
  obtain ⟨cZ, hZb⟩ := arr .boolean (by intro C h; cases h) (hts (.arrayClass .boolean) (by decide +kernel))
  obtain ⟨cL, hLo⟩ := arr .long (by intro C h; cases h) (hts (.arrayClass .long) (by decide +kernel))
  have hO : va_AO RX0 s := va_AO.of (hts0 (.arrayOver (.object RX0)) (by decide +kernel))
  obtain ⟨cD, hDo⟩ : ∃ cA, ArrOfT s cA (.object RX0) ∧ va_RA s cA (.object RX0) := by
    obtain ⟨comp, cA, kA, h1, -, h2, h3, h4⟩ := Cond.arrayOver_spec hO
    exact ⟨cA, fun n z => ⟨fun k h => (by cases h), kA, h2, comp, h3⟩, kA, comp, h2, h3, h1, h4⟩
  obtain ⟨cs, hcs⟩ : ∃ cs : Cs, cs = (cI, cZ, cL, cD) := ⟨_, rfl⟩
  have hK : va_K D vwCl (kT cs) s := by
    subst hcs
    refine ⟨hKc, fun k q hq => ?_⟩
    match k, hq with
    | 0, hq => cases hq; exact hI
    | 1, hq => cases hq; exact hZb
    | 2, hq => cases hq; exact hLo
    | 3, hq => cases hq; exact hDo
    | k + 4, hq => simp [kT] at hq
  have C : Cn wsL_law RL cL_law 7 D cs p s m #[Value.ref b] meth c := ⟨hx, hb, hml, hown, hts, hlocks, hK, hO⟩
  have hS : va_S (fun q : Nat => s.heap.size ≤ q) s.heap s.heap [] := va_S.rf
  have hP : va_P D vwCl [] s.heap := fun k q h => by simp at h
  have hD : va_D (fun q : Nat => s.heap.size ≤ q) [] := ⟨fun i j p q h => by simp at h, fun k q h => by simp at h⟩
  have hl := lv_entry ([.ref b]) (n := 7) (Nat.le_of_ble_eq_true rfl)
  rw [lg_entry_eq]
  generalize (lg_sl ([.ref b]) ++ List.replicate (7 - (lg_sl ([.ref b])).length) Slot.unset).toArray = ls at hl ⊢
  have hl : lv_has ls 7 [(0, .ref b)] := hl
  refine va_new (ci := 4) (fs := [.null, .null, .null, .null, .null, .int 0, .int 0]) (C := RX4) (T := TX4) (N := 7) hx hb hts0 inX4 tyX4 tyX4_ok hown (hts (.classLink RL 8 RX4) (by decide +kernel)) (hts (.instantiable RX4 7) (by decide +kernel)) (hts (.initialized RX4) (by decide +kernel)) hK hP hD hS hA rfl (by decide) (Nat.le_of_ble_eq_true rfl) (Nat.le_of_ble_eq_true rfl) dL_law_0 (fun q72 H hP hD hS => ?_)
  refine lv_dup hx hb dL_law_3 rfl ?_
  refine wn_in C hP hD hS hA (As := []) (rest := [.ref q72]) (c_X4_init l D cs q72 H.size) (cwI 0 hts gL_law_X4_init rfl rfl rfl (hts (.initialized RX4) (by decide +kernel)) (hts (.methodLink RL 47 yX4_init) (by decide +kernel)) (hts (.instanceMethod yX4_init) (by decide +kernel)) rfl (by decide +kernel) ⟨(Nat.le_of_ble_eq_true rfl), (Nat.le_of_ble_eq_true rfl)⟩) rfl hl.1 rfl (Nat.le_of_ble_eq_true rfl) dL_law_4 ⟨(Nat.le_of_ble_eq_true rfl), (Nat.le_of_ble_eq_true rfl)⟩ (fun u H locs hu hP hD hS => ?_)
  refine lv_astore_n (lv' := [(1, .ref q72), (0, .ref b)]) hx hb dL_law_7 rfl hl (by decide) rfl (fun ls hl => ?_)
  refine va_new (ci := 5) (fs := [.int 0, .null, .null, .null, .int 0, .int 0, .int 0, .int 0, .int 0, .int 0, .int 0, .int 0, .int 0, .int 0, .int 0, .null, .null, .int 0]) (C := RX5) (T := TX5) (N := 18) hx hb hts0 inX5 tyX5 tyX5_ok hown (hts (.classLink RL 48 RX5) (by decide +kernel)) (hts (.instantiable RX5 18) (by decide +kernel)) (hts (.initialized RX5) (by decide +kernel)) hK hP hD hS hA rfl (by decide) (Nat.le_of_ble_eq_true rfl) (Nat.le_of_ble_eq_true rfl) dL_law_8 (fun q73 H hP hD hS => ?_)
  refine lv_dup hx hb dL_law_11 rfl ?_
  refine wn_in C hP hD hS hA (As := []) (rest := [.ref q73]) (c_X5_init l D cs q73 H.size) (cwI 0 hts gL_law_X5_init rfl rfl rfl (hts (.initialized RX5) (by decide +kernel)) (hts (.methodLink RL 50 yX5_init) (by decide +kernel)) (hts (.instanceMethod yX5_init) (by decide +kernel)) rfl (by decide +kernel) ⟨(Nat.le_of_ble_eq_true rfl), (Nat.le_of_ble_eq_true rfl)⟩) rfl hl.1 rfl (Nat.le_of_ble_eq_true rfl) dL_law_12 ⟨(Nat.le_of_ble_eq_true rfl), (Nat.le_of_ble_eq_true rfl)⟩ (fun am H locs hu hP hD hS => ?_)
  refine lv_astore_n (lv' := [(2, .ref q73), (1, .ref q72), (0, .ref b)]) hx hb dL_law_15 rfl hl (by decide) rfl (fun ls hl => ?_)
  refine lv_iconst (v := 1) hx hb dL_law_16 (by decide) ?_
  refine va_newa (atype := .long) (ty := .long) (N' := 1) (a0 := (1, .inr (.inl (fun _ => (0 : Int32).toInt64)))) hx hb (hts (.arrayClass .long) (by decide +kernel)) rfl hK hP hD hS hA (fun cA => rfl) (by decide) (by decide) (by decide) (Nat.le_of_ble_eq_true rfl) (Nat.le_of_ble_eq_true rfl) dL_law_17 (fun q79 cA H hK1 hP hD hS => ?_)
  have e1 : cA = cs.2.2.1 := Option.some.inj ((hK1.2 4 (cA, .long) rfl).2.symm.trans (hK.2 2 (cs.2.2.1, .long) rfl).2)
  subst e1
  refine lv_astore_n (lv' := [(3, .ref q79), (2, .ref q73), (1, .ref q72), (0, .ref b)]) hx hb dL_law_19 rfl hl (by decide) rfl (fun ls hl => ?_)
  refine lv_iconst (v := 0) hx hb dL_law_20 (by decide) ?_
  refine lv_istore (lv' := [(4, .int 0), (3, .ref q79), (2, .ref q73), (1, .ref q72), (0, .ref b)]) hx hb dL_law_21 hl (by decide) rfl (fun ls hl => ?_)
  obtain ⟨G, hG⟩ : ∃ G : GG, G = (l, D, cs, adr u.1 u.2.1 u.2.2.1 u.2.2.2 am q72 q73 q79, s.heap.size) := ⟨_, rfl⟩
  have hP : va_P D vwCl (fin80 cs u.1 u.2.1 u.2.2.1 u.2.2.2 am q72 q73 q79) H := hP
  have hD : va_D (fun q : Nat => s.heap.size ≤ q) (fin80 cs u.1 u.2.1 u.2.2.1 u.2.2.2 am q72 q73 q79) := hD
  obtain ⟨hW, hga⟩ := flat_of (l := l) hP hD hS G hG
  have hnA : ∀ q : Nat, q < s.heap.size → ¬ wA G q := fun q h1 h2 => Nat.lt_irrefl _ (Nat.lt_of_lt_of_le h1 (hga q h2))
  have hcast : ∀ i, va_Nw (.castable (exN i) (exN i)) s := by
    intro i
    refine va_Nw.of (A := #[Value.ref b]) rfl (hts0 _ ?_)
    unfold exN
    split
    · decide +kernel
    · split
      · decide +kernel
      · split
        · decide +kernel
        · split
          · decide +kernel
          · decide +kernel
  have hZ : zq G s s.heap := by
    refine ⟨by rw [hG]; exact hst, vx_Zqof (args := #[Value.ref b]) (hts0 _ (by decide +kernel)) (hts0 _ (by decide +kernel)) (hnar _ (by decide +kernel)) hnA, vx_Zqof (args := #[Value.ref b]) (hts0 _ (by decide +kernel)) (hts0 _ (by decide +kernel)) (hnar _ (by decide +kernel)) hnA, hcast, va_Nw.of (A := #[Value.ref b]) rfl (hts0 _ (by decide +kernel)), va_Nw.of (A := #[Value.ref b]) rfl (hts0 _ (by decide +kernel)), va_Nw.of (A := #[Value.ref b]) rfl (hts0 _ (by decide +kernel))⟩
  have hN : zN s := by
    intro i j h1 h2 h3 h4 h5
    refine nc_of (args := #[Value.ref b]) (hcast i) (hcast j) (hnar _ ?_)
    rcases (show i = 1 ∨ i = 2 ∨ i = 3 ∨ i = 4 ∨ i = 5 by omega) with rfl | rfl | rfl | rfl | rfl <;> rcases (show j = 1 ∨ j = 2 ∨ j = 3 ∨ j = 4 ∨ j = 5 by omega) with rfl | rfl | rfl | rfl | rfl <;> first | exact absurd rfl h5 | decide +kernel
  have CX : Cx G wsL_law RL cL_law 7 p s m #[Value.ref b] meth c := ⟨hx, hb, hml, hown, hts, hlocks, by subst hG; exact hK, by subst hG; exact Nat.le_refl _⟩
  have hgl : gl G = l := by subst hG; rfl
  have ea : ga G 72 = q72 ∧ ga G 73 = q73 ∧ ga G 79 = q79 := by subst hG; exact ⟨rfl, rfl, rfl⟩
  have hl : lv_has ls 7 [(0, .ref b), (1, .ref (ga G 72)), (2, .ref (ga G 73)), (3, .ref (ga G 79)), (4, .int 0)] := by rw [ea.1, ea.2.1, ea.2.2]; exact lv_sub hl [4, 3, 2, 1, 0] rfl
  rw [← hgl]
  exact L_law_loop CX hr hX hbl (hnA b hbl) hZ hN hga 200 0 M0 y H locs ls _ _ (Nat.le_of_ble_eq_true rfl) (Nat.le_of_ble_eq_true rfl) hlaw hy hW hl
