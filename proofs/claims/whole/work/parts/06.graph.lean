def kdC (j : Nat) : Nat := if j = 0 then 9 else if j < 3 then 6 else if j < 11 then 5 else if j < 19 then 250 else if j < 21 then 3 else if j < 33 then 140 else if j < 35 then 250 else if j < 39 then 160 else if j < 41 then 140 else if j = 41 then 0 else if j = 42 then 140 else if j = 43 then 2601 else if j = 44 then 4 else if j < 47 then 2 else if j = 47 then 292 else if j < 54 then 105 else if j = 54 then 7 else if j = 55 then 1 else if j = 56 then 130 else if j = 57 then 109 else if j = 58 then 8 else 19
def rfC (j i : Nat) : Nat := match kdC j, i with
  | 9, 0 => 1
  | 9, 1 => 2
  | 9, 2 => 41
  | 9, 3 => 44
  | 9, 4 => 54
  | 9, 5 => 55
  | 9, 6 => 58
  | 6, 0 => (4 * j - 1)
  | 6, 1 => (4 * j)
  | 6, 2 => (4 * j + 1)
  | 6, 3 => (4 * j + 2)
  | 6, 4 => (j + 18)
  | 6, 5 => (j + 32)
  | 6, 6 => (j + 34)
  | 6, 7 => (j + 36)
  | 6, 8 => (j + 38)
  | 5, 0 => (j + 8)
  | 0, 0 => 42
  | 0, 1 => 43
  | 4, 0 => 45
  | 4, 1 => 46
  | 4, 2 => 47
  | 2, 0 => (j + 3)
  | 2, 1 => (j + 5)
  | 2, 2 => (j + 7)
  | 1, 0 => 56
  | 1, 1 => 57
  | 3, 0 => (j + 2)
  | 3, 1 => (j + 4)
  | 3, 2 => (j + 6)
  | 3, 3 => (j + 8)
  | 3, 4 => (j + 10)
  | 3, 5 => (j + 12)
  | _, _ => 0
abbrev GC : GG := (59, kdC, rfC)
def kdM (j : Nat) : Nat := match j with
  | 0 => 10
  | 1 => 28
  | 2 => 108
  | 3 => 108
  | 4 => 1300
  | 5 => 250
  | 6 => 250
  | 7 => 160
  | 8 => 160
  | 9 => 140
  | 10 => 2601
  | 11 => 140
  | 12 => 102
  | 13 => 180
  | 14 => 180
  | 15 => 180
  | 16 => 180
  | 17 => 140
  | 18 => 102
  | 19 => 110
  | 20 => 110
  | 21 => 105
  | 22 => 105
  | 23 => 130
  | 24 => 130
  | 25 => 24
  | _ => 19
def rfM (_ i : Nat) : Nat := match i with
  | 0 => 1
  | 1 => 2
  | 2 => 3
  | 3 => 4
  | 4 => 5
  | 8 => 6
  | 10 => 7
  | 11 => 8
  | 13 => 9
  | 16 => 10
  | 17 => 11
  | 18 => 12
  | 19 => 13
  | 20 => 14
  | 21 => 15
  | 22 => 16
  | 25 => 17
  | 28 => 18
  | 29 => 19
  | 30 => 20
  | 31 => 21
  | 32 => 22
  | 37 => 23
  | 38 => 24
  | 41 => 25
  | _ => 0
abbrev GM : GG := (26, kdM, rfM)
theorem rk_big {k i : Nat} (h : 43 ≤ i) : rk k i = none := by
  unfold rk
  split <;> first | rfl | omega
def gokb (G : GG) : Bool := (List.range G.1).all fun j => (List.range 43).all fun i => match rk (G.2.1 j) i with
  | some k => decide (G.2.1 (G.2.2 j i) = k ∧ G.2.2 j i < G.1)
  | none => true
theorem gok_of {G : GG} (h : gokb G = true) : GOK G := by
  intro j hj i k hk
  by_cases hi : i < 43
  · have h1 := List.all_eq_true.mp (List.all_eq_true.mp h j (List.mem_range.mpr hj)) i (List.mem_range.mpr hi)
    rw [hk] at h1
    exact of_decide_eq_true h1
  · rw [rk_big (by omega)] at hk
    cases hk
theorem GC_ok : GOK GC := gok_of (by decide +kernel)
theorem GM_ok : GOK GM := gok_of (by decide +kernel)
theorem rfc_9_0 {j : Nat} (h : GC.2.1 j = 9) : GC.2.2 j 0 = 1 := by
  show rfC j 0 = _
  unfold rfC
  rw [show kdC j = 9 from h]
  rfl
theorem rfc_9_1 {j : Nat} (h : GC.2.1 j = 9) : GC.2.2 j 1 = 2 := by
  show rfC j 1 = _
  unfold rfC
  rw [show kdC j = 9 from h]
  rfl
theorem rfc_9_2 {j : Nat} (h : GC.2.1 j = 9) : GC.2.2 j 2 = 41 := by
  show rfC j 2 = _
  unfold rfC
  rw [show kdC j = 9 from h]
  rfl
theorem rfc_9_3 {j : Nat} (h : GC.2.1 j = 9) : GC.2.2 j 3 = 44 := by
  show rfC j 3 = _
  unfold rfC
  rw [show kdC j = 9 from h]
  rfl
theorem rfc_9_4 {j : Nat} (h : GC.2.1 j = 9) : GC.2.2 j 4 = 54 := by
  show rfC j 4 = _
  unfold rfC
  rw [show kdC j = 9 from h]
  rfl
theorem rfc_9_5 {j : Nat} (h : GC.2.1 j = 9) : GC.2.2 j 5 = 55 := by
  show rfC j 5 = _
  unfold rfC
  rw [show kdC j = 9 from h]
  rfl
theorem rfc_9_6 {j : Nat} (h : GC.2.1 j = 9) : GC.2.2 j 6 = 58 := by
  show rfC j 6 = _
  unfold rfC
  rw [show kdC j = 9 from h]
  rfl
theorem rfc_6_0 {j : Nat} (h : GC.2.1 j = 6) : GC.2.2 j 0 = (4 * j - 1) := by
  show rfC j 0 = _
  unfold rfC
  rw [show kdC j = 6 from h]
  rfl
theorem rfc_6_1 {j : Nat} (h : GC.2.1 j = 6) : GC.2.2 j 1 = (4 * j) := by
  show rfC j 1 = _
  unfold rfC
  rw [show kdC j = 6 from h]
  rfl
theorem rfc_6_2 {j : Nat} (h : GC.2.1 j = 6) : GC.2.2 j 2 = (4 * j + 1) := by
  show rfC j 2 = _
  unfold rfC
  rw [show kdC j = 6 from h]
  rfl
theorem rfc_6_3 {j : Nat} (h : GC.2.1 j = 6) : GC.2.2 j 3 = (4 * j + 2) := by
  show rfC j 3 = _
  unfold rfC
  rw [show kdC j = 6 from h]
  rfl
theorem rfc_6_4 {j : Nat} (h : GC.2.1 j = 6) : GC.2.2 j 4 = (j + 18) := by
  show rfC j 4 = _
  unfold rfC
  rw [show kdC j = 6 from h]
  rfl
theorem rfc_6_5 {j : Nat} (h : GC.2.1 j = 6) : GC.2.2 j 5 = (j + 32) := by
  show rfC j 5 = _
  unfold rfC
  rw [show kdC j = 6 from h]
  rfl
theorem rfc_6_6 {j : Nat} (h : GC.2.1 j = 6) : GC.2.2 j 6 = (j + 34) := by
  show rfC j 6 = _
  unfold rfC
  rw [show kdC j = 6 from h]
  rfl
theorem rfc_6_7 {j : Nat} (h : GC.2.1 j = 6) : GC.2.2 j 7 = (j + 36) := by
  show rfC j 7 = _
  unfold rfC
  rw [show kdC j = 6 from h]
  rfl
theorem rfc_6_8 {j : Nat} (h : GC.2.1 j = 6) : GC.2.2 j 8 = (j + 38) := by
  show rfC j 8 = _
  unfold rfC
  rw [show kdC j = 6 from h]
  rfl
theorem rfc_5_0 {j : Nat} (h : GC.2.1 j = 5) : GC.2.2 j 0 = (j + 8) := by
  show rfC j 0 = _
  unfold rfC
  rw [show kdC j = 5 from h]
  rfl
theorem rfc_0_0 {j : Nat} (h : GC.2.1 j = 0) : GC.2.2 j 0 = 42 := by
  show rfC j 0 = _
  unfold rfC
  rw [show kdC j = 0 from h]
  rfl
theorem rfc_0_1 {j : Nat} (h : GC.2.1 j = 0) : GC.2.2 j 1 = 43 := by
  show rfC j 1 = _
  unfold rfC
  rw [show kdC j = 0 from h]
  rfl
theorem rfc_4_0 {j : Nat} (h : GC.2.1 j = 4) : GC.2.2 j 0 = 45 := by
  show rfC j 0 = _
  unfold rfC
  rw [show kdC j = 4 from h]
  rfl
theorem rfc_4_1 {j : Nat} (h : GC.2.1 j = 4) : GC.2.2 j 1 = 46 := by
  show rfC j 1 = _
  unfold rfC
  rw [show kdC j = 4 from h]
  rfl
theorem rfc_4_2 {j : Nat} (h : GC.2.1 j = 4) : GC.2.2 j 2 = 47 := by
  show rfC j 2 = _
  unfold rfC
  rw [show kdC j = 4 from h]
  rfl
theorem rfc_2_0 {j : Nat} (h : GC.2.1 j = 2) : GC.2.2 j 0 = (j + 3) := by
  show rfC j 0 = _
  unfold rfC
  rw [show kdC j = 2 from h]
  rfl
theorem rfc_2_1 {j : Nat} (h : GC.2.1 j = 2) : GC.2.2 j 1 = (j + 5) := by
  show rfC j 1 = _
  unfold rfC
  rw [show kdC j = 2 from h]
  rfl
theorem rfc_2_2 {j : Nat} (h : GC.2.1 j = 2) : GC.2.2 j 2 = (j + 7) := by
  show rfC j 2 = _
  unfold rfC
  rw [show kdC j = 2 from h]
  rfl
theorem rfc_1_0 {j : Nat} (h : GC.2.1 j = 1) : GC.2.2 j 0 = 56 := by
  show rfC j 0 = _
  unfold rfC
  rw [show kdC j = 1 from h]
  rfl
theorem rfc_1_1 {j : Nat} (h : GC.2.1 j = 1) : GC.2.2 j 1 = 57 := by
  show rfC j 1 = _
  unfold rfC
  rw [show kdC j = 1 from h]
  rfl
theorem rfc_3_0 {j : Nat} (h : GC.2.1 j = 3) : GC.2.2 j 0 = (j + 2) := by
  show rfC j 0 = _
  unfold rfC
  rw [show kdC j = 3 from h]
  rfl
theorem rfc_3_1 {j : Nat} (h : GC.2.1 j = 3) : GC.2.2 j 1 = (j + 4) := by
  show rfC j 1 = _
  unfold rfC
  rw [show kdC j = 3 from h]
  rfl
theorem rfc_3_2 {j : Nat} (h : GC.2.1 j = 3) : GC.2.2 j 2 = (j + 6) := by
  show rfC j 2 = _
  unfold rfC
  rw [show kdC j = 3 from h]
  rfl
theorem rfc_3_3 {j : Nat} (h : GC.2.1 j = 3) : GC.2.2 j 3 = (j + 8) := by
  show rfC j 3 = _
  unfold rfC
  rw [show kdC j = 3 from h]
  rfl
theorem rfc_3_4 {j : Nat} (h : GC.2.1 j = 3) : GC.2.2 j 4 = (j + 10) := by
  show rfC j 4 = _
  unfold rfC
  rw [show kdC j = 3 from h]
  rfl
theorem rfc_3_5 {j : Nat} (h : GC.2.1 j = 3) : GC.2.2 j 5 = (j + 12) := by
  show rfC j 5 = _
  unfold rfC
  rw [show kdC j = 3 from h]
  rfl
theorem i32_of {x : Int32} {k : Int} (y : Int32) (h : x.toInt = k) (hy : y.toInt = k) : x = y := Int32.toInt_inj.mp (h.trans hy.symm)
theorem sw0_4 {x : Int32} (h : ¬ (x.toInt < 0 ∨ 3 < x.toInt)) : x = 0 ∨ x = 1 ∨ x = 2 ∨ x = 3 := by
  have h1 : x.toInt = 0 ∨ x.toInt = 1 ∨ x.toInt = 2 ∨ x.toInt = 3 := by omega
  rcases h1 with h | h | h | h
  · exact Or.inl (i32_of 0 h rfl)
  · exact Or.inr (Or.inl (i32_of 1 h rfl))
  · exact Or.inr (Or.inr (Or.inl (i32_of 2 h rfl)))
  · exact Or.inr (Or.inr (Or.inr ((i32_of 3 h rfl))))
theorem sw0_5 {x : Int32} (h : ¬ (x.toInt < 0 ∨ 4 < x.toInt)) : x = 0 ∨ x = 1 ∨ x = 2 ∨ x = 3 ∨ x = 4 := by
  have h1 : x.toInt = 0 ∨ x.toInt = 1 ∨ x.toInt = 2 ∨ x.toInt = 3 ∨ x.toInt = 4 := by omega
  rcases h1 with h | h | h | h | h
  · exact Or.inl (i32_of 0 h rfl)
  · exact Or.inr (Or.inl (i32_of 1 h rfl))
  · exact Or.inr (Or.inr (Or.inl (i32_of 2 h rfl)))
  · exact Or.inr (Or.inr (Or.inr (Or.inl (i32_of 3 h rfl))))
  · exact Or.inr (Or.inr (Or.inr (Or.inr ((i32_of 4 h rfl)))))
theorem sw0_6 {x : Int32} (h : ¬ (x.toInt < 0 ∨ 5 < x.toInt)) : x = 0 ∨ x = 1 ∨ x = 2 ∨ x = 3 ∨ x = 4 ∨ x = 5 := by
  have h1 : x.toInt = 0 ∨ x.toInt = 1 ∨ x.toInt = 2 ∨ x.toInt = 3 ∨ x.toInt = 4 ∨ x.toInt = 5 := by omega
  rcases h1 with h | h | h | h | h | h
  · exact Or.inl (i32_of 0 h rfl)
  · exact Or.inr (Or.inl (i32_of 1 h rfl))
  · exact Or.inr (Or.inr (Or.inl (i32_of 2 h rfl)))
  · exact Or.inr (Or.inr (Or.inr (Or.inl (i32_of 3 h rfl))))
  · exact Or.inr (Or.inr (Or.inr (Or.inr (Or.inl (i32_of 4 h rfl)))))
  · exact Or.inr (Or.inr (Or.inr (Or.inr (Or.inr ((i32_of 5 h rfl))))))
theorem sw0_7 {x : Int32} (h : ¬ (x.toInt < 0 ∨ 6 < x.toInt)) : x = 0 ∨ x = 1 ∨ x = 2 ∨ x = 3 ∨ x = 4 ∨ x = 5 ∨ x = 6 := by
  have h1 : x.toInt = 0 ∨ x.toInt = 1 ∨ x.toInt = 2 ∨ x.toInt = 3 ∨ x.toInt = 4 ∨ x.toInt = 5 ∨ x.toInt = 6 := by omega
  rcases h1 with h | h | h | h | h | h | h
  · exact Or.inl (i32_of 0 h rfl)
  · exact Or.inr (Or.inl (i32_of 1 h rfl))
  · exact Or.inr (Or.inr (Or.inl (i32_of 2 h rfl)))
  · exact Or.inr (Or.inr (Or.inr (Or.inl (i32_of 3 h rfl))))
  · exact Or.inr (Or.inr (Or.inr (Or.inr (Or.inl (i32_of 4 h rfl)))))
  · exact Or.inr (Or.inr (Or.inr (Or.inr (Or.inr (Or.inl (i32_of 5 h rfl))))))
  · exact Or.inr (Or.inr (Or.inr (Or.inr (Or.inr (Or.inr ((i32_of 6 h rfl)))))))
theorem sw0_3 {x : Int32} (h : ¬ (x.toInt < 0 ∨ 2 < x.toInt)) : x = 0 ∨ x = 1 ∨ x = 2 := by
  have h1 : x.toInt = 0 ∨ x.toInt = 1 ∨ x.toInt = 2 := by omega
  rcases h1 with h | h | h
  · exact Or.inl (i32_of 0 h rfl)
  · exact Or.inr (Or.inl (i32_of 1 h rfl))
  · exact Or.inr (Or.inr ((i32_of 2 h rfl)))
theorem sw0_2 {x : Int32} (h : ¬ (x.toInt < 0 ∨ 1 < x.toInt)) : x = 0 ∨ x = 1 := by
  have h1 : x.toInt = 0 ∨ x.toInt = 1 := by omega
  rcases h1 with h | h
  · exact Or.inl (i32_of 0 h rfl)
  · exact Or.inr ((i32_of 1 h rfl))
theorem sw0_32 {x : Int32} (h : ¬ (x.toInt < 0 ∨ 31 < x.toInt)) : x = 0 ∨ x = 1 ∨ x = 2 ∨ x = 3 ∨ x = 4 ∨ x = 5 ∨ x = 6 ∨ x = 7 ∨ x = 8 ∨ x = 9 ∨ x = 10 ∨ x = 11 ∨ x = 12 ∨ x = 13 ∨ x = 14 ∨ x = 15 ∨ x = 16 ∨ x = 17 ∨ x = 18 ∨ x = 19 ∨ x = 20 ∨ x = 21 ∨ x = 22 ∨ x = 23 ∨ x = 24 ∨ x = 25 ∨ x = 26 ∨ x = 27 ∨ x = 28 ∨ x = 29 ∨ x = 30 ∨ x = 31 := by
  have h1 : x.toInt = 0 ∨ x.toInt = 1 ∨ x.toInt = 2 ∨ x.toInt = 3 ∨ x.toInt = 4 ∨ x.toInt = 5 ∨ x.toInt = 6 ∨ x.toInt = 7 ∨ x.toInt = 8 ∨ x.toInt = 9 ∨ x.toInt = 10 ∨ x.toInt = 11 ∨ x.toInt = 12 ∨ x.toInt = 13 ∨ x.toInt = 14 ∨ x.toInt = 15 ∨ x.toInt = 16 ∨ x.toInt = 17 ∨ x.toInt = 18 ∨ x.toInt = 19 ∨ x.toInt = 20 ∨ x.toInt = 21 ∨ x.toInt = 22 ∨ x.toInt = 23 ∨ x.toInt = 24 ∨ x.toInt = 25 ∨ x.toInt = 26 ∨ x.toInt = 27 ∨ x.toInt = 28 ∨ x.toInt = 29 ∨ x.toInt = 30 ∨ x.toInt = 31 := by omega
  rcases h1 with h | h | h | h | h | h | h | h | h | h | h | h | h | h | h | h | h | h | h | h | h | h | h | h | h | h | h | h | h | h | h | h
  · exact Or.inl (i32_of 0 h rfl)
  · exact Or.inr (Or.inl (i32_of 1 h rfl))
  · exact Or.inr (Or.inr (Or.inl (i32_of 2 h rfl)))
  · exact Or.inr (Or.inr (Or.inr (Or.inl (i32_of 3 h rfl))))
  · exact Or.inr (Or.inr (Or.inr (Or.inr (Or.inl (i32_of 4 h rfl)))))
  · exact Or.inr (Or.inr (Or.inr (Or.inr (Or.inr (Or.inl (i32_of 5 h rfl))))))
  · exact Or.inr (Or.inr (Or.inr (Or.inr (Or.inr (Or.inr (Or.inl (i32_of 6 h rfl)))))))
  · exact Or.inr (Or.inr (Or.inr (Or.inr (Or.inr (Or.inr (Or.inr (Or.inl (i32_of 7 h rfl))))))))
  · exact Or.inr (Or.inr (Or.inr (Or.inr (Or.inr (Or.inr (Or.inr (Or.inr (Or.inl (i32_of 8 h rfl)))))))))
  · exact Or.inr (Or.inr (Or.inr (Or.inr (Or.inr (Or.inr (Or.inr (Or.inr (Or.inr (Or.inl (i32_of 9 h rfl))))))))))
  · exact Or.inr (Or.inr (Or.inr (Or.inr (Or.inr (Or.inr (Or.inr (Or.inr (Or.inr (Or.inr (Or.inl (i32_of 10 h rfl)))))))))))
  · exact Or.inr (Or.inr (Or.inr (Or.inr (Or.inr (Or.inr (Or.inr (Or.inr (Or.inr (Or.inr (Or.inr (Or.inl (i32_of 11 h rfl))))))))))))
  · exact Or.inr (Or.inr (Or.inr (Or.inr (Or.inr (Or.inr (Or.inr (Or.inr (Or.inr (Or.inr (Or.inr (Or.inr (Or.inl (i32_of 12 h rfl)))))))))))))
  · exact Or.inr (Or.inr (Or.inr (Or.inr (Or.inr (Or.inr (Or.inr (Or.inr (Or.inr (Or.inr (Or.inr (Or.inr (Or.inr (Or.inl (i32_of 13 h rfl))))))))))))))
  · exact Or.inr (Or.inr (Or.inr (Or.inr (Or.inr (Or.inr (Or.inr (Or.inr (Or.inr (Or.inr (Or.inr (Or.inr (Or.inr (Or.inr (Or.inl (i32_of 14 h rfl)))))))))))))))
  · exact Or.inr (Or.inr (Or.inr (Or.inr (Or.inr (Or.inr (Or.inr (Or.inr (Or.inr (Or.inr (Or.inr (Or.inr (Or.inr (Or.inr (Or.inr (Or.inl (i32_of 15 h rfl))))))))))))))))
  · exact Or.inr (Or.inr (Or.inr (Or.inr (Or.inr (Or.inr (Or.inr (Or.inr (Or.inr (Or.inr (Or.inr (Or.inr (Or.inr (Or.inr (Or.inr (Or.inr (Or.inl (i32_of 16 h rfl)))))))))))))))))
  · exact Or.inr (Or.inr (Or.inr (Or.inr (Or.inr (Or.inr (Or.inr (Or.inr (Or.inr (Or.inr (Or.inr (Or.inr (Or.inr (Or.inr (Or.inr (Or.inr (Or.inr (Or.inl (i32_of 17 h rfl))))))))))))))))))
  · exact Or.inr (Or.inr (Or.inr (Or.inr (Or.inr (Or.inr (Or.inr (Or.inr (Or.inr (Or.inr (Or.inr (Or.inr (Or.inr (Or.inr (Or.inr (Or.inr (Or.inr (Or.inr (Or.inl (i32_of 18 h rfl)))))))))))))))))))
  · exact Or.inr (Or.inr (Or.inr (Or.inr (Or.inr (Or.inr (Or.inr (Or.inr (Or.inr (Or.inr (Or.inr (Or.inr (Or.inr (Or.inr (Or.inr (Or.inr (Or.inr (Or.inr (Or.inr (Or.inl (i32_of 19 h rfl))))))))))))))))))))
  · exact Or.inr (Or.inr (Or.inr (Or.inr (Or.inr (Or.inr (Or.inr (Or.inr (Or.inr (Or.inr (Or.inr (Or.inr (Or.inr (Or.inr (Or.inr (Or.inr (Or.inr (Or.inr (Or.inr (Or.inr (Or.inl (i32_of 20 h rfl)))))))))))))))))))))
  · exact Or.inr (Or.inr (Or.inr (Or.inr (Or.inr (Or.inr (Or.inr (Or.inr (Or.inr (Or.inr (Or.inr (Or.inr (Or.inr (Or.inr (Or.inr (Or.inr (Or.inr (Or.inr (Or.inr (Or.inr (Or.inr (Or.inl (i32_of 21 h rfl))))))))))))))))))))))
  · exact Or.inr (Or.inr (Or.inr (Or.inr (Or.inr (Or.inr (Or.inr (Or.inr (Or.inr (Or.inr (Or.inr (Or.inr (Or.inr (Or.inr (Or.inr (Or.inr (Or.inr (Or.inr (Or.inr (Or.inr (Or.inr (Or.inr (Or.inl (i32_of 22 h rfl)))))))))))))))))))))))
  · exact Or.inr (Or.inr (Or.inr (Or.inr (Or.inr (Or.inr (Or.inr (Or.inr (Or.inr (Or.inr (Or.inr (Or.inr (Or.inr (Or.inr (Or.inr (Or.inr (Or.inr (Or.inr (Or.inr (Or.inr (Or.inr (Or.inr (Or.inr (Or.inl (i32_of 23 h rfl))))))))))))))))))))))))
  · exact Or.inr (Or.inr (Or.inr (Or.inr (Or.inr (Or.inr (Or.inr (Or.inr (Or.inr (Or.inr (Or.inr (Or.inr (Or.inr (Or.inr (Or.inr (Or.inr (Or.inr (Or.inr (Or.inr (Or.inr (Or.inr (Or.inr (Or.inr (Or.inr (Or.inl (i32_of 24 h rfl)))))))))))))))))))))))))
  · exact Or.inr (Or.inr (Or.inr (Or.inr (Or.inr (Or.inr (Or.inr (Or.inr (Or.inr (Or.inr (Or.inr (Or.inr (Or.inr (Or.inr (Or.inr (Or.inr (Or.inr (Or.inr (Or.inr (Or.inr (Or.inr (Or.inr (Or.inr (Or.inr (Or.inr (Or.inl (i32_of 25 h rfl))))))))))))))))))))))))))
  · exact Or.inr (Or.inr (Or.inr (Or.inr (Or.inr (Or.inr (Or.inr (Or.inr (Or.inr (Or.inr (Or.inr (Or.inr (Or.inr (Or.inr (Or.inr (Or.inr (Or.inr (Or.inr (Or.inr (Or.inr (Or.inr (Or.inr (Or.inr (Or.inr (Or.inr (Or.inr (Or.inl (i32_of 26 h rfl)))))))))))))))))))))))))))
  · exact Or.inr (Or.inr (Or.inr (Or.inr (Or.inr (Or.inr (Or.inr (Or.inr (Or.inr (Or.inr (Or.inr (Or.inr (Or.inr (Or.inr (Or.inr (Or.inr (Or.inr (Or.inr (Or.inr (Or.inr (Or.inr (Or.inr (Or.inr (Or.inr (Or.inr (Or.inr (Or.inr (Or.inl (i32_of 27 h rfl))))))))))))))))))))))))))))
  · exact Or.inr (Or.inr (Or.inr (Or.inr (Or.inr (Or.inr (Or.inr (Or.inr (Or.inr (Or.inr (Or.inr (Or.inr (Or.inr (Or.inr (Or.inr (Or.inr (Or.inr (Or.inr (Or.inr (Or.inr (Or.inr (Or.inr (Or.inr (Or.inr (Or.inr (Or.inr (Or.inr (Or.inr (Or.inl (i32_of 28 h rfl)))))))))))))))))))))))))))))
  · exact Or.inr (Or.inr (Or.inr (Or.inr (Or.inr (Or.inr (Or.inr (Or.inr (Or.inr (Or.inr (Or.inr (Or.inr (Or.inr (Or.inr (Or.inr (Or.inr (Or.inr (Or.inr (Or.inr (Or.inr (Or.inr (Or.inr (Or.inr (Or.inr (Or.inr (Or.inr (Or.inr (Or.inr (Or.inr (Or.inl (i32_of 29 h rfl))))))))))))))))))))))))))))))
  · exact Or.inr (Or.inr (Or.inr (Or.inr (Or.inr (Or.inr (Or.inr (Or.inr (Or.inr (Or.inr (Or.inr (Or.inr (Or.inr (Or.inr (Or.inr (Or.inr (Or.inr (Or.inr (Or.inr (Or.inr (Or.inr (Or.inr (Or.inr (Or.inr (Or.inr (Or.inr (Or.inr (Or.inr (Or.inr (Or.inr (Or.inl (i32_of 30 h rfl)))))))))))))))))))))))))))))))
  · exact Or.inr (Or.inr (Or.inr (Or.inr (Or.inr (Or.inr (Or.inr (Or.inr (Or.inr (Or.inr (Or.inr (Or.inr (Or.inr (Or.inr (Or.inr (Or.inr (Or.inr (Or.inr (Or.inr (Or.inr (Or.inr (Or.inr (Or.inr (Or.inr (Or.inr (Or.inr (Or.inr (Or.inr (Or.inr (Or.inr (Or.inr ((i32_of 31 h rfl))))))))))))))))))))))))))))))))
abbrev rmX0_init : Room := { frames := 1, cells := 0, slots := 0, locals := 40 }
abbrev rmX0_hasJoint : Room := { frames := 0, cells := 0, slots := 0, locals := 0 }
theorem mv_X0_hasJoint : mV yX0_hasJoint RX0 cX0_hasJoint 2 (some .boolean) 1 := ⟨mI_X0_hasJoint, mE_X0_hasJoint, iz_X0, mC_X0_hasJoint, by decide +kernel⟩
abbrev rmX0_add : Room := { frames := 0, cells := 0, slots := 0, locals := 0 }
theorem mv_X0_add : mV yX0_add RX0 cX0_add 2 (some .int) 1 := ⟨mI_X0_add, mE_X0_add, iz_X0, mC_X0_add, by decide +kernel⟩
abbrev rmX0_withPair : Room := { frames := 1, cells := 0, slots := 0, locals := 21 }
theorem mv_X0_withPair : mV yX0_withPair RX0 cX0_withPair 4 (some .int) 3 := ⟨mI_X0_withPair, mE_X0_withPair, iz_X0, mC_X0_withPair, by decide +kernel⟩
abbrev rmX0_leastCost : Room := { frames := 2, cells := 0, slots := 0, locals := 44 }
theorem mv_X0_leastCost : mV yX0_leastCost RX0 cX0_leastCost 6 (some .int) 1 := ⟨mI_X0_leastCost, mE_X0_leastCost, iz_X0, mC_X0_leastCost, by decide +kernel⟩
abbrev rmX0_lastFeltNotLeftOut : Room := { frames := 2, cells := 0, slots := 0, locals := 44 }
theorem mv_X0_lastFeltNotLeftOut : mV yX0_lastFeltNotLeftOut RX0 cX0_lastFeltNotLeftOut 6 (some .int) 3 := ⟨mI_X0_lastFeltNotLeftOut, mE_X0_lastFeltNotLeftOut, iz_X0, mC_X0_lastFeltNotLeftOut, by decide +kernel⟩
abbrev rmX0_pairUp : Room := { frames := 3, cells := 0, slots := 0, locals := 69 }
theorem mv_X0_pairUp : mV yX0_pairUp RX0 cX0_pairUp 4 none 1 := ⟨mI_X0_pairUp, mE_X0_pairUp, iz_X0, mC_X0_pairUp, by decide +kernel⟩
abbrev rmX0_jointPairedWith : Room := { frames := 0, cells := 0, slots := 0, locals := 0 }
theorem mv_X0_jointPairedWith : mV yX0_jointPairedWith RX0 cX0_jointPairedWith 4 (some .int) 2 := ⟨mI_X0_jointPairedWith, mE_X0_jointPairedWith, iz_X0, mC_X0_jointPairedWith, by decide +kernel⟩
abbrev rmX1_init : Room := { frames := 1, cells := 0, slots := 0, locals := 40 }
abbrev rmX1_add : Room := { frames := 0, cells := 0, slots := 0, locals := 0 }
theorem mv_X1_add : mV yX1_add RX1 cX1_add 3 (some .int) 2 := ⟨mI_X1_add, mE_X1_add, iz_X1, mC_X1_add, by decide +kernel⟩
abbrev rmX1_hasYear : Room := { frames := 0, cells := 0, slots := 0, locals := 0 }
theorem mv_X1_hasYear : mV yX1_hasYear RX1 cX1_hasYear 3 (some .boolean) 2 := ⟨mI_X1_hasYear, mE_X1_hasYear, iz_X1, mC_X1_hasYear, by decide +kernel⟩
abbrev rmX1_isEnough : Room := { frames := 1, cells := 0, slots := 0, locals := 22 }
theorem mv_X1_isEnough : mV yX1_isEnough RX1 cX1_isEnough 5 (some .boolean) 1 := ⟨mI_X1_isEnough, mE_X1_isEnough, iz_X1, mC_X1_isEnough, by decide +kernel⟩
abbrev rmJ6_bitCount_0f7a4 : Room := { frames := 0, cells := 0, slots := 0, locals := 0 }
theorem ms_J6_bitCount_0f7a4 : mS yJ6_bitCount_0f7a4 cJ6_bitCount_0f7a4 1 (some .int) 1 := ⟨mS_J6_bitCount_0f7a4, iz_J6, mC_J6_bitCount_0f7a4, by decide +kernel⟩
abbrev rmX1_costOf : Room := { frames := 1, cells := 0, slots := 0, locals := 20 }
theorem mv_X1_costOf : mV yX1_costOf RX1 cX1_costOf 2 (some .int) 1 := ⟨mI_X1_costOf, mE_X1_costOf, iz_X1, mC_X1_costOf, by decide +kernel⟩
abbrev rmX1_bestYears : Room := { frames := 2, cells := 0, slots := 0, locals := 46 }
theorem mv_X1_bestYears : mV yX1_bestYears RX1 cX1_bestYears 3 (some .int) 0 := ⟨mI_X1_bestYears, mE_X1_bestYears, iz_X1, mC_X1_bestYears, by decide +kernel⟩
abbrev rmX1_worksAheadOf : Room := { frames := 0, cells := 0, slots := 0, locals := 0 }
theorem mv_X1_worksAheadOf : mV yX1_worksAheadOf RX1 cX1_worksAheadOf 4 (some .int) 1 := ⟨mI_X1_worksAheadOf, mE_X1_worksAheadOf, iz_X1, mC_X1_worksAheadOf, by decide +kernel⟩
abbrev rmX1_yearOf : Room := { frames := 1, cells := 0, slots := 0, locals := 23 }
theorem mv_X1_yearOf : mV yX1_yearOf RX1 cX1_yearOf 5 (some .int) 2 := ⟨mI_X1_yearOf, mE_X1_yearOf, iz_X1, mC_X1_yearOf, by decide +kernel⟩
abbrev rmX2_init : Room := { frames := 1, cells := 0, slots := 0, locals := 40 }
abbrev rmX6_feltAt : Room := { frames := 0, cells := 0, slots := 0, locals := 0 }
theorem mv_X6_feltAt : mV yX6_feltAt RX6 cX6_feltAt 3 (some .int) 1 := ⟨mI_X6_feltAt, mE_X6_feltAt, iz_X6, mC_X6_feltAt, by decide +kernel⟩
abbrev rmX2_gather : Room := { frames := 1, cells := 0, slots := 0, locals := 22 }
theorem mv_X2_gather : mV yX2_gather RX2 cX2_gather 4 none 2 := ⟨mI_X2_gather, mE_X2_gather, iz_X2, mC_X2_gather, by decide +kernel⟩
abbrev rmX3_init : Room := { frames := 1, cells := 0, slots := 0, locals := 40 }
abbrev rmX3_hasMark : Room := { frames := 0, cells := 0, slots := 0, locals := 0 }
theorem mv_X3_hasMark : mV yX3_hasMark RX3 cX3_hasMark 2 (some .boolean) 1 := ⟨mI_X3_hasMark, mE_X3_hasMark, iz_X3, mC_X3_hasMark, by decide +kernel⟩
abbrev rmX3_add : Room := { frames := 0, cells := 0, slots := 0, locals := 0 }
theorem mv_X3_add : mV yX3_add RX3 cX3_add 5 (some .int) 4 := ⟨mI_X3_add, mE_X3_add, iz_X3, mC_X3_add, by decide +kernel⟩
abbrev rmX3_fact : Room := { frames := 0, cells := 0, slots := 0, locals := 0 }
theorem mv_X3_fact : mV yX3_fact RX3 cX3_fact 3 (some .int) 2 := ⟨mI_X3_fact, mE_X3_fact, iz_X3, mC_X3_fact, by decide +kernel⟩
abbrev rmX3_endOf : Room := { frames := 0, cells := 0, slots := 0, locals := 0 }
theorem mv_X3_endOf : mV yX3_endOf RX3 cX3_endOf 2 (some .int) 1 := ⟨mI_X3_endOf, mE_X3_endOf, iz_X3, mC_X3_endOf, by decide +kernel⟩
abbrev rmX9_hoursApart : Room := { frames := 1, cells := 0, slots := 0, locals := 21 }
theorem ms_X9_hoursApart : mS yX9_hoursApart cX9_hoursApart 3 (some .int) 2 := ⟨mS_X9_hoursApart, iz_X9, mC_X9_hoursApart, by decide +kernel⟩
abbrev rmX3_areNear : Room := { frames := 2, cells := 0, slots := 0, locals := 43 }
theorem mv_X3_areNear : mV yX3_areNear RX3 cX3_areNear 6 (some .boolean) 4 := ⟨mI_X3_areNear, mE_X3_areNear, iz_X3, mC_X3_areNear, by decide +kernel⟩
abbrev rmX3_spread : Room := { frames := 3, cells := 0, slots := 0, locals := 68 }
theorem mv_X3_spread : mV yX3_spread RX3 cX3_spread 7 none 3 := ⟨mI_X3_spread, mE_X3_spread, iz_X3, mC_X3_spread, by decide +kernel⟩
abbrev rmX3_putTogether : Room := { frames := 4, cells := 0, slots := 0, locals := 94 }
theorem mv_X3_putTogether : mV yX3_putTogether RX3 cX3_putTogether 4 none 2 := ⟨mI_X3_putTogether, mE_X3_putTogether, iz_X3, mC_X3_putTogether, by decide +kernel⟩
abbrev rmX3_groupFact : Room := { frames := 1, cells := 0, slots := 0, locals := 21 }
theorem mv_X3_groupFact : mV yX3_groupFact RX3 cX3_groupFact 9 (some .int) 2 := ⟨mI_X3_groupFact, mE_X3_groupFact, iz_X3, mC_X3_groupFact, by decide +kernel⟩
abbrev rmX4_init : Room := { frames := 2, cells := 0, slots := 0, locals := 60 }
abbrev rmX4_withPair : Room := { frames := 2, cells := 0, slots := 0, locals := 43 }
theorem mv_X4_withPair : mV yX4_withPair RX4 cX4_withPair 5 (some .int) 3 := ⟨mI_X4_withPair, mE_X4_withPair, iz_X4, mC_X4_withPair, by decide +kernel⟩
abbrev rmX4_leastFrom : Room := { frames := 3, cells := 0, slots := 0, locals := 67 }
theorem mv_X4_leastFrom : mV yX4_leastFrom RX4 cX4_leastFrom 5 (some .int) 2 := ⟨mI_X4_leastFrom, mE_X4_leastFrom, iz_X4, mC_X4_leastFrom, by decide +kernel⟩
abbrev rmX4_leastCost : Room := { frames := 4, cells := 0, slots := 0, locals := 91 }
theorem mv_X4_leastCost : mV yX4_leastCost RX4 cX4_leastCost 8 (some .int) 4 := ⟨mI_X4_leastCost, mE_X4_leastCost, iz_X4, mC_X4_leastCost, by decide +kernel⟩
abbrev rmX4_choiceAt : Room := { frames := 3, cells := 0, slots := 0, locals := 67 }
theorem mv_X4_choiceAt : mV yX4_choiceAt RX4 cX4_choiceAt 4 (some .int) 2 := ⟨mI_X4_choiceAt, mE_X4_choiceAt, iz_X4, mC_X4_choiceAt, by decide +kernel⟩
abbrev rmX4_otherOf : Room := { frames := 4, cells := 0, slots := 0, locals := 90 }
theorem mv_X4_otherOf : mV yX4_otherOf RX4 cX4_otherOf 5 (some .int) 1 := ⟨mI_X4_otherOf, mE_X4_otherOf, iz_X4, mC_X4_otherOf, by decide +kernel⟩
abbrev rmX5_init : Room := { frames := 1, cells := 0, slots := 0, locals := 40 }
abbrev rmX5_isLost : Room := { frames := 0, cells := 0, slots := 0, locals := 0 }
theorem mv_X5_isLost : mV yX5_isLost RX5 cX5_isLost 1 (some .boolean) 0 := ⟨mI_X5_isLost, mE_X5_isLost, iz_X5, mC_X5_isLost, by decide +kernel⟩
abbrev rmX5_begin : Room := { frames := 1, cells := 0, slots := 0, locals := 21 }
theorem mv_X5_begin : mV yX5_begin RX5 cX5_begin 4 none 2 := ⟨mI_X5_begin, mE_X5_begin, iz_X5, mC_X5_begin, by decide +kernel⟩
abbrev rmX5_drop : Room := { frames := 0, cells := 0, slots := 0, locals := 0 }
theorem mv_X5_drop : mV yX5_drop RX5 cX5_drop 1 none 0 := ⟨mI_X5_drop, mE_X5_drop, iz_X5, mC_X5_drop, by decide +kernel⟩
abbrev rmX5_hasItem : Room := { frames := 0, cells := 0, slots := 0, locals := 0 }
theorem mv_X5_hasItem : mV yX5_hasItem RX5 cX5_hasItem 2 (some .boolean) 1 := ⟨mI_X5_hasItem, mE_X5_hasItem, iz_X5, mC_X5_hasItem, by decide +kernel⟩
abbrev rmX5_hasItems : Room := { frames := 0, cells := 0, slots := 0, locals := 0 }
theorem mv_X5_hasItems : mV yX5_hasItems RX5 cX5_hasItems 3 (some .boolean) 2 := ⟨mI_X5_hasItems, mE_X5_hasItems, iz_X5, mC_X5_hasItems, by decide +kernel⟩
abbrev rmX5_faultOf : Room := { frames := 1, cells := 0, slots := 0, locals := 21 }
theorem mv_X5_faultOf : mV yX5_faultOf RX5 cX5_faultOf 3 (some .int) 2 := ⟨mI_X5_faultOf, mE_X5_faultOf, iz_X5, mC_X5_faultOf, by decide +kernel⟩
abbrev rmX5_store : Room := { frames := 1, cells := 0, slots := 0, locals := 21 }
theorem mv_X5_store : mV yX5_store RX5 cX5_store 3 none 2 := ⟨mI_X5_store, mE_X5_store, iz_X5, mC_X5_store, by decide +kernel⟩
abbrev rmX9_isWithin : Room := { frames := 0, cells := 0, slots := 0, locals := 0 }
theorem ms_X9_isWithin : mS yX9_isWithin cX9_isWithin 3 (some .boolean) 3 := ⟨mS_X9_isWithin, iz_X9, mC_X9_isWithin, by decide +kernel⟩
abbrev rmX5_readingAt : Room := { frames := 1, cells := 0, slots := 0, locals := 22 }
theorem mv_X5_readingAt : mV yX5_readingAt RX5 cX5_readingAt 2 (some .int) 1 := ⟨mI_X5_readingAt, mE_X5_readingAt, iz_X5, mC_X5_readingAt, by decide +kernel⟩
abbrev rmX5_hasWeldAt : Room := { frames := 1, cells := 0, slots := 0, locals := 21 }
theorem mv_X5_hasWeldAt : mV yX5_hasWeldAt RX5 cX5_hasWeldAt 2 (some .boolean) 1 := ⟨mI_X5_hasWeldAt, mE_X5_hasWeldAt, iz_X5, mC_X5_hasWeldAt, by decide +kernel⟩
abbrev rmX6_init : Room := { frames := 2, cells := 0, slots := 0, locals := 60 }
abbrev rmX6_reelAt : Room := { frames := 0, cells := 0, slots := 0, locals := 0 }
theorem mv_X6_reelAt : mV yX6_reelAt RX6 cX6_reelAt 2 (some (.object "PigLine$Reel")) 1 := ⟨mI_X6_reelAt, mE_X6_reelAt, iz_X6, mC_X6_reelAt, by decide +kernel⟩
abbrev rmX6_readingsTogether : Room := { frames := 2, cells := 0, slots := 0, locals := 43 }
theorem mv_X6_readingsTogether : mV yX6_readingsTogether RX6 cX6_readingsTogether 7 (some .int) 1 := ⟨mI_X6_readingsTogether, mE_X6_readingsTogether, iz_X6, mC_X6_readingsTogether, by decide +kernel⟩
abbrev rmX6_feel : Room := { frames := 3, cells := 0, slots := 0, locals := 69 }
theorem mv_X6_feel : mV yX6_feel RX6 cX6_feel 6 none 0 := ⟨mI_X6_feel, mE_X6_feel, iz_X6, mC_X6_feel, by decide +kernel⟩
abbrev rmX6_fact : Room := { frames := 0, cells := 0, slots := 0, locals := 0 }
theorem mv_X6_fact : mV yX6_fact RX6 cX6_fact 2 (some .int) 1 := ⟨mI_X6_fact, mE_X6_fact, iz_X6, mC_X6_fact, by decide +kernel⟩
abbrev rmX6_markFact : Room := { frames := 1, cells := 0, slots := 0, locals := 22 }
theorem mv_X6_markFact : mV yX6_markFact RX6 cX6_markFact 3 (some .int) 2 := ⟨mI_X6_markFact, mE_X6_markFact, iz_X6, mC_X6_markFact, by decide +kernel⟩
abbrev rmX7_init : Room := { frames := 1, cells := 0, slots := 0, locals := 40 }
abbrev rmX7_leastTruly : Room := { frames := 1, cells := 0, slots := 0, locals := 21 }
theorem mv_X7_leastTruly : mV yX7_leastTruly RX7 cX7_leastTruly 2 (some .int) 1 := ⟨mI_X7_leastTruly, mE_X7_leastTruly, iz_X7, mC_X7_leastTruly, by decide +kernel⟩
abbrev rmX7_mostTruly : Room := { frames := 1, cells := 0, slots := 0, locals := 21 }
theorem mv_X7_mostTruly : mV yX7_mostTruly RX7 cX7_mostTruly 2 (some .int) 1 := ⟨mI_X7_mostTruly, mE_X7_mostTruly, iz_X7, mC_X7_mostTruly, by decide +kernel⟩
abbrev rmX7_lastYear : Room := { frames := 0, cells := 0, slots := 0, locals := 0 }
theorem mv_X7_lastYear : mV yX7_lastYear RX7 cX7_lastYear 4 (some .int) 2 := ⟨mI_X7_lastYear, mE_X7_lastYear, iz_X7, mC_X7_lastYear, by decide +kernel⟩
abbrev rmX7_fact : Room := { frames := 2, cells := 0, slots := 0, locals := 42 }
theorem mv_X7_fact : mV yX7_fact RX7 cX7_fact 5 (some .int) 3 := ⟨mI_X7_fact, mE_X7_fact, iz_X7, mC_X7_fact, by decide +kernel⟩
abbrev rmX8_init : Room := { frames := 1, cells := 0, slots := 0, locals := 40 }
abbrev rmX8_isOpen : Room := { frames := 0, cells := 0, slots := 0, locals := 0 }
theorem mv_X8_isOpen : mV yX8_isOpen RX8 cX8_isOpen 2 (some .boolean) 1 := ⟨mI_X8_isOpen, mE_X8_isOpen, iz_X8, mC_X8_isOpen, by decide +kernel⟩
abbrev rmX8_mayOpen : Room := { frames := 1, cells := 0, slots := 0, locals := 21 }
theorem mv_X8_mayOpen : mV yX8_mayOpen RX8 cX8_mayOpen 2 (some .boolean) 1 := ⟨mI_X8_mayOpen, mE_X8_mayOpen, iz_X8, mC_X8_mayOpen, by decide +kernel⟩
abbrev rmX8_open : Room := { frames := 0, cells := 0, slots := 0, locals := 0 }
theorem mv_X8_open : mV yX8_open RX8 cX8_open 2 none 1 := ⟨mI_X8_open, mE_X8_open, iz_X8, mC_X8_open, by decide +kernel⟩
abbrev rmX8_shut : Room := { frames := 0, cells := 0, slots := 0, locals := 0 }
theorem mv_X8_shut : mV yX8_shut RX8 cX8_shut 2 none 1 := ⟨mI_X8_shut, mE_X8_shut, iz_X8, mC_X8_shut, by decide +kernel⟩
abbrev rmX9_init : Room := { frames := 3, cells := 0, slots := 0, locals := 80 }
abbrev rmX9_runAt : Room := { frames := 0, cells := 0, slots := 0, locals := 0 }
theorem mv_X9_runAt : mV yX9_runAt RX9 cX9_runAt 2 (some (.object "PigLine$Run")) 1 := ⟨mI_X9_runAt, mE_X9_runAt, iz_X9, mC_X9_runAt, by decide +kernel⟩
abbrev rmX9_reelAt : Room := { frames := 1, cells := 0, slots := 0, locals := 21 }
theorem mv_X9_reelAt : mV yX9_reelAt RX9 cX9_reelAt 3 (some (.object "PigLine$Reel")) 1 := ⟨mI_X9_reelAt, mE_X9_reelAt, iz_X9, mC_X9_reelAt, by decide +kernel⟩
abbrev rmX9_isForm : Room := { frames := 1, cells := 0, slots := 0, locals := 22 }
theorem ms_X9_isForm : mS yX9_isForm cX9_isForm 1 (some .boolean) 1 := ⟨mS_X9_isForm, iz_X9, mC_X9_isForm, by decide +kernel⟩
abbrev rmX9_found : Room := { frames := 0, cells := 0, slots := 0, locals := 0 }
theorem mv_X9_found : mV yX9_found RX9 cX9_found 2 (some .int) 1 := ⟨mI_X9_found, mE_X9_found, iz_X9, mC_X9_found, by decide +kernel⟩
abbrev rmX9_reel : Room := { frames := 2, cells := 0, slots := 0, locals := 44 }
theorem mv_X9_reel : mV yX9_reel RX9 cX9_reel 5 (some .int) 3 := ⟨mI_X9_reel, mE_X9_reel, iz_X9, mC_X9_reel, by decide +kernel⟩
abbrev rmX9_lose : Room := { frames := 2, cells := 0, slots := 0, locals := 43 }
theorem mv_X9_lose : mV yX9_lose RX9 cX9_lose 4 (some .int) 1 := ⟨mI_X9_lose, mE_X9_lose, iz_X9, mC_X9_lose, by decide +kernel⟩
abbrev rmX9_put : Room := { frames := 2, cells := 0, slots := 0, locals := 43 }
theorem mv_X9_put : mV yX9_put RX9 cX9_put 7 (some .int) 4 := ⟨mI_X9_put, mE_X9_put, iz_X9, mC_X9_put, by decide +kernel⟩
abbrev rmX9_get : Room := { frames := 2, cells := 0, slots := 0, locals := 43 }
theorem mv_X9_get : mV yX9_get RX9 cX9_get 6 (some .int) 3 := ⟨mI_X9_get, mE_X9_get, iz_X9, mC_X9_get, by decide +kernel⟩
abbrev rmX9_copy : Room := { frames := 2, cells := 0, slots := 0, locals := 43 }
theorem mv_X9_copy : mV yX9_copy RX9 cX9_copy 8 (some .int) 5 := ⟨mI_X9_copy, mE_X9_copy, iz_X9, mC_X9_copy, by decide +kernel⟩
abbrev rmX9_run : Room := { frames := 4, cells := 0, slots := 0, locals := 94 }
theorem mv_X9_run : mV yX9_run RX9 cX9_run 4 (some .int) 2 := ⟨mI_X9_run, mE_X9_run, iz_X9, mC_X9_run, by decide +kernel⟩
abbrev rmX9_way : Room := { frames := 4, cells := 0, slots := 0, locals := 94 }
theorem mv_X9_way : mV yX9_way RX9 cX9_way 4 (some .int) 2 := ⟨mI_X9_way, mE_X9_way, iz_X9, mC_X9_way, by decide +kernel⟩
abbrev rmX9_felt : Room := { frames := 4, cells := 0, slots := 0, locals := 94 }
theorem mv_X9_felt : mV yX9_felt RX9 cX9_felt 5 (some .int) 3 := ⟨mI_X9_felt, mE_X9_felt, iz_X9, mC_X9_felt, by decide +kernel⟩
abbrev rmX9_joint : Room := { frames := 1, cells := 0, slots := 0, locals := 22 }
theorem mv_X9_joint : mV yX9_joint RX9 cX9_joint 2 (some .int) 1 := ⟨mI_X9_joint, mE_X9_joint, iz_X9, mC_X9_joint, by decide +kernel⟩
abbrev rmX9_wipe : Room := { frames := 0, cells := 0, slots := 0, locals := 0 }
theorem mv_X9_wipe : mV yX9_wipe RX9 cX9_wipe 2 (some .int) 0 := ⟨mI_X9_wipe, mE_X9_wipe, iz_X9, mC_X9_wipe, by decide +kernel⟩
abbrev rmX9_costs : Room := { frames := 1, cells := 0, slots := 0, locals := 22 }
theorem mv_X9_costs : mV yX9_costs RX9 cX9_costs 3 (some .int) 2 := ⟨mI_X9_costs, mE_X9_costs, iz_X9, mC_X9_costs, by decide +kernel⟩
abbrev rmX9_match : Room := { frames := 4, cells := 0, slots := 0, locals := 94 }
theorem mv_X9_match : mV yX9_match RX9 cX9_match 3 (some .int) 1 := ⟨mI_X9_match, mE_X9_match, iz_X9, mC_X9_match, by decide +kernel⟩
abbrev rmX9_paired : Room := { frames := 4, cells := 0, slots := 0, locals := 94 }
theorem mv_X9_paired : mV yX9_paired RX9 cX9_paired 4 (some .int) 2 := ⟨mI_X9_paired, mE_X9_paired, iz_X9, mC_X9_paired, by decide +kernel⟩
abbrev rmX9_mark : Room := { frames := 1, cells := 0, slots := 0, locals := 24 }
theorem mv_X9_mark : mV yX9_mark RX9 cX9_mark 7 (some .int) 5 := ⟨mI_X9_mark, mE_X9_mark, iz_X9, mC_X9_mark, by decide +kernel⟩
abbrev rmX9_clear : Room := { frames := 1, cells := 0, slots := 0, locals := 21 }
theorem mv_X9_clear : mV yX9_clear RX9 cX9_clear 4 (some .int) 1 := ⟨mI_X9_clear, mE_X9_clear, iz_X9, mC_X9_clear, by decide +kernel⟩
abbrev rmX9_about : Room := { frames := 5, cells := 0, slots := 0, locals := 117 }
theorem mv_X9_about : mV yX9_about RX9 cX9_about 5 (some .int) 3 := ⟨mI_X9_about, mE_X9_about, iz_X9, mC_X9_about, by decide +kernel⟩
abbrev rmX9_near : Room := { frames := 1, cells := 0, slots := 0, locals := 22 }
theorem mv_X9_near : mV yX9_near RX9 cX9_near 3 (some .int) 2 := ⟨mI_X9_near, mE_X9_near, iz_X9, mC_X9_near, by decide +kernel⟩
abbrev rmX9_groups : Room := { frames := 5, cells := 0, slots := 0, locals := 117 }
theorem mv_X9_groups : mV yX9_groups RX9 cX9_groups 3 (some .int) 1 := ⟨mI_X9_groups, mE_X9_groups, iz_X9, mC_X9_groups, by decide +kernel⟩
abbrev rmX9_group : Room := { frames := 5, cells := 0, slots := 0, locals := 117 }
theorem mv_X9_group : mV yX9_group RX9 cX9_group 5 (some .int) 3 := ⟨mI_X9_group, mE_X9_group, iz_X9, mC_X9_group, by decide +kernel⟩
abbrev rmX9_alone : Room := { frames := 1, cells := 0, slots := 0, locals := 22 }
theorem mv_X9_alone : mV yX9_alone RX9 cX9_alone 3 (some .int) 1 := ⟨mI_X9_alone, mE_X9_alone, iz_X9, mC_X9_alone, by decide +kernel⟩
abbrev rmX9_matchBothRuns : Room := { frames := 4, cells := 0, slots := 0, locals := 94 }
theorem mv_X9_matchBothRuns : mV yX9_matchBothRuns RX9 cX9_matchBothRuns 1 none 0 := ⟨mI_X9_matchBothRuns, mE_X9_matchBothRuns, iz_X9, mC_X9_matchBothRuns, by decide +kernel⟩
abbrev rmX9_pairing : Room := { frames := 5, cells := 0, slots := 0, locals := 118 }
theorem mv_X9_pairing : mV yX9_pairing RX9 cX9_pairing 2 (some .int) 1 := ⟨mI_X9_pairing, mE_X9_pairing, iz_X9, mC_X9_pairing, by decide +kernel⟩
abbrev rmX9_twinOf : Room := { frames := 5, cells := 0, slots := 0, locals := 118 }
theorem mv_X9_twinOf : mV yX9_twinOf RX9 cX9_twinOf 3 (some .int) 1 := ⟨mI_X9_twinOf, mE_X9_twinOf, iz_X9, mC_X9_twinOf, by decide +kernel⟩
abbrev rmX9_twin : Room := { frames := 6, cells := 0, slots := 0, locals := 140 }
theorem mv_X9_twin : mV yX9_twin RX9 cX9_twin 2 (some .int) 1 := ⟨mI_X9_twin, mE_X9_twin, iz_X9, mC_X9_twin, by decide +kernel⟩
abbrev rmX9_tool : Room := { frames := 1, cells := 0, slots := 0, locals := 22 }
theorem mv_X9_tool : mV yX9_tool RX9 cX9_tool 4 (some .int) 3 := ⟨mI_X9_tool, mE_X9_tool, iz_X9, mC_X9_tool, by decide +kernel⟩
abbrev rmX9_growth : Room := { frames := 6, cells := 0, slots := 0, locals := 140 }
theorem mv_X9_growth : mV yX9_growth RX9 cX9_growth 4 (some .int) 2 := ⟨mI_X9_growth, mE_X9_growth, iz_X9, mC_X9_growth, by decide +kernel⟩
abbrev rmX9_work : Room := { frames := 1, cells := 0, slots := 0, locals := 22 }
theorem mv_X9_work : mV yX9_work RX9 cX9_work 3 (some .int) 2 := ⟨mI_X9_work, mE_X9_work, iz_X9, mC_X9_work, by decide +kernel⟩
abbrev rmX9_yearly : Room := { frames := 1, cells := 0, slots := 0, locals := 22 }
theorem mv_X9_yearly : mV yX9_yearly RX9 cX9_yearly 3 (some .int) 2 := ⟨mI_X9_yearly, mE_X9_yearly, iz_X9, mC_X9_yearly, by decide +kernel⟩
abbrev rmX9_plan : Room := { frames := 3, cells := 0, slots := 0, locals := 68 }
theorem mv_X9_plan : mV yX9_plan RX9 cX9_plan 2 (some .int) 0 := ⟨mI_X9_plan, mE_X9_plan, iz_X9, mC_X9_plan, by decide +kernel⟩
abbrev rmX9_years : Room := { frames := 3, cells := 0, slots := 0, locals := 68 }
theorem mv_X9_years : mV yX9_years RX9 cX9_years 2 (some .int) 0 := ⟨mI_X9_years, mE_X9_years, iz_X9, mC_X9_years, by decide +kernel⟩
abbrev rmX9_when : Room := { frames := 3, cells := 0, slots := 0, locals := 68 }
theorem mv_X9_when : mV yX9_when RX9 cX9_when 3 (some .int) 1 := ⟨mI_X9_when, mE_X9_when, iz_X9, mC_X9_when, by decide +kernel⟩
abbrev rmX9_trap : Room := { frames := 2, cells := 0, slots := 0, locals := 42 }
theorem mv_X9_trap : mV yX9_trap RX9 cX9_trap 3 (some .int) 2 := ⟨mI_X9_trap, mE_X9_trap, iz_X9, mC_X9_trap, by decide +kernel⟩
abbrev rmX9_count : Room := { frames := 0, cells := 0, slots := 0, locals := 0 }
theorem mv_X9_count : mV yX9_count RX9 cX9_count 2 (some .int) 1 := ⟨mI_X9_count, mE_X9_count, iz_X9, mC_X9_count, by decide +kernel⟩
abbrev rmX9_digestOfRun : Room := { frames := 5, cells := 0, slots := 0, locals := 117 }
theorem mv_X9_digestOfRun : mV yX9_digestOfRun RX9 cX9_digestOfRun 8 (some .long) 2 := ⟨mI_X9_digestOfRun, mE_X9_digestOfRun, iz_X9, mC_X9_digestOfRun, by decide +kernel⟩
abbrev rmX9_digest : Room := { frames := 6, cells := 0, slots := 0, locals := 144 }
theorem mv_X9_digest : mV yX9_digest RX9 cX9_digest 4 (some .long) 0 := ⟨mI_X9_digest, mE_X9_digest, iz_X9, mC_X9_digest, by decide +kernel⟩
abbrev rmX10_init : Room := { frames := 1, cells := 0, slots := 0, locals := 40 }
abbrev rmX10_in : Room := { frames := 0, cells := 0, slots := 0, locals := 0 }
theorem ms_X10_in : mS yX10_in cX10_in 3 (some .boolean) 3 := ⟨mS_X10_in, iz_X10, mC_X10_in, by decide +kernel⟩
abbrev rmX10_meets : Room := { frames := 0, cells := 0, slots := 0, locals := 0 }
theorem mv_X10_meets : mV yX10_meets RX10 cX10_meets 2 (some .int) 1 := ⟨mI_X10_meets, mE_X10_meets, iz_X10, mC_X10_meets, by decide +kernel⟩
abbrev rmX10_isReel : Room := { frames := 1, cells := 0, slots := 0, locals := 22 }
theorem ms_X10_isReel : mS yX10_isReel cX10_isReel 1 (some .boolean) 1 := ⟨mS_X10_isReel, iz_X10, mC_X10_isReel, by decide +kernel⟩
abbrev rmX10_reel : Room := { frames := 2, cells := 0, slots := 0, locals := 42 }
theorem mv_X10_reel : mV yX10_reel RX10 cX10_reel 5 (some .int) 3 := ⟨mI_X10_reel, mE_X10_reel, iz_X10, mC_X10_reel, by decide +kernel⟩
abbrev rmX10_lose : Room := { frames := 2, cells := 0, slots := 0, locals := 42 }
theorem mv_X10_lose : mV yX10_lose RX10 cX10_lose 2 (some .int) 1 := ⟨mI_X10_lose, mE_X10_lose, iz_X10, mC_X10_lose, by decide +kernel⟩
abbrev rmX10_lacks : Room := { frames := 1, cells := 0, slots := 0, locals := 22 }
theorem mv_X10_lacks : mV yX10_lacks RX10 cX10_lacks 4 (some .int) 3 := ⟨mI_X10_lacks, mE_X10_lacks, iz_X10, mC_X10_lacks, by decide +kernel⟩
abbrev rmX10_put : Room := { frames := 2, cells := 0, slots := 0, locals := 45 }
theorem mv_X10_put : mV yX10_put RX10 cX10_put 6 (some .int) 4 := ⟨mI_X10_put, mE_X10_put, iz_X10, mC_X10_put, by decide +kernel⟩
abbrev rmX10_get : Room := { frames := 2, cells := 0, slots := 0, locals := 45 }
theorem mv_X10_get : mV yX10_get RX10 cX10_get 5 (some .int) 3 := ⟨mI_X10_get, mE_X10_get, iz_X10, mC_X10_get, by decide +kernel⟩
abbrev rmX10_copy : Room := { frames := 2, cells := 0, slots := 0, locals := 42 }
theorem mv_X10_copy : mV yX10_copy RX10 cX10_copy 7 (some .int) 5 := ⟨mI_X10_copy, mE_X10_copy, iz_X10, mC_X10_copy, by decide +kernel⟩
abbrev rmX10_isRun : Room := { frames := 1, cells := 0, slots := 0, locals := 22 }
theorem ms_X10_isRun : mS yX10_isRun cX10_isRun 1 (some .boolean) 1 := ⟨mS_X10_isRun, iz_X10, mC_X10_isRun, by decide +kernel⟩
abbrev rmX10_reading : Room := { frames := 1, cells := 0, slots := 0, locals := 22 }
theorem mv_X10_reading : mV yX10_reading RX10 cX10_reading 4 (some .int) 2 := ⟨mI_X10_reading, mE_X10_reading, iz_X10, mC_X10_reading, by decide +kernel⟩
abbrev rmX10_middle : Room := { frames := 0, cells := 0, slots := 0, locals := 0 }
theorem ms_X10_middle : mS yX10_middle cX10_middle 5 (some .int) 3 := ⟨mS_X10_middle, iz_X10, mC_X10_middle, by decide +kernel⟩
abbrev rmX10_goThrough : Room := { frames := 2, cells := 0, slots := 0, locals := 45 }
theorem mv_X10_goThrough : mV yX10_goThrough RX10 cX10_goThrough 9 none 1 := ⟨mI_X10_goThrough, mE_X10_goThrough, iz_X10, mC_X10_goThrough, by decide +kernel⟩
abbrev rmX10_run : Room := { frames := 3, cells := 0, slots := 0, locals := 73 }
theorem mv_X10_run : mV yX10_run RX10 cX10_run 3 (some .int) 2 := ⟨mI_X10_run, mE_X10_run, iz_X10, mC_X10_run, by decide +kernel⟩
abbrev rmX10_way : Room := { frames := 3, cells := 0, slots := 0, locals := 73 }
theorem mv_X10_way : mV yX10_way RX10 cX10_way 3 (some .int) 2 := ⟨mI_X10_way, mE_X10_way, iz_X10, mC_X10_way, by decide +kernel⟩
abbrev rmX10_felt : Room := { frames := 3, cells := 0, slots := 0, locals := 73 }
theorem mv_X10_felt : mV yX10_felt RX10 cX10_felt 4 (some .int) 3 := ⟨mI_X10_felt, mE_X10_felt, iz_X10, mC_X10_felt, by decide +kernel⟩
abbrev rmX10_joint : Room := { frames := 1, cells := 0, slots := 0, locals := 22 }
theorem mv_X10_joint : mV yX10_joint RX10 cX10_joint 2 (some .int) 1 := ⟨mI_X10_joint, mE_X10_joint, iz_X10, mC_X10_joint, by decide +kernel⟩
abbrev rmX10_wipe : Room := { frames := 0, cells := 0, slots := 0, locals := 0 }
theorem mv_X10_wipe : mV yX10_wipe RX10 cX10_wipe 2 (some .int) 0 := ⟨mI_X10_wipe, mE_X10_wipe, iz_X10, mC_X10_wipe, by decide +kernel⟩
abbrev rmX10_costs : Room := { frames := 1, cells := 0, slots := 0, locals := 22 }
theorem mv_X10_costs : mV yX10_costs RX10 cX10_costs 3 (some .int) 2 := ⟨mI_X10_costs, mE_X10_costs, iz_X10, mC_X10_costs, by decide +kernel⟩
abbrev rmX10_apart : Room := { frames := 0, cells := 0, slots := 0, locals := 0 }
theorem ms_X10_apart : mS yX10_apart cX10_apart 2 (some .int) 2 := ⟨mS_X10_apart, iz_X10, mC_X10_apart, by decide +kernel⟩
abbrev rmX10_pairCost : Room := { frames := 1, cells := 0, slots := 0, locals := 21 }
theorem mv_X10_pairCost : mV yX10_pairCost RX10 cX10_pairCost 3 (some .int) 2 := ⟨mI_X10_pairCost, mE_X10_pairCost, iz_X10, mC_X10_pairCost, by decide +kernel⟩
abbrev rmX10_matches : Room := { frames := 3, cells := 0, slots := 0, locals := 73 }
theorem mv_X10_matches : mV yX10_matches RX10 cX10_matches 5 none 1 := ⟨mI_X10_matches, mE_X10_matches, iz_X10, mC_X10_matches, by decide +kernel⟩
abbrev rmX10_match : Room := { frames := 4, cells := 0, slots := 0, locals := 97 }
theorem mv_X10_match : mV yX10_match RX10 cX10_match 2 (some .int) 1 := ⟨mI_X10_match, mE_X10_match, iz_X10, mC_X10_match, by decide +kernel⟩
abbrev rmX10_paired : Room := { frames := 4, cells := 0, slots := 0, locals := 97 }
theorem mv_X10_paired : mV yX10_paired RX10 cX10_paired 3 (some .int) 2 := ⟨mI_X10_paired, mE_X10_paired, iz_X10, mC_X10_paired, by decide +kernel⟩
abbrev rmX10_isMark : Room := { frames := 2, cells := 0, slots := 0, locals := 42 }
theorem mv_X10_isMark : mV yX10_isMark RX10 cX10_isMark 3 (some .boolean) 2 := ⟨mI_X10_isMark, mE_X10_isMark, iz_X10, mC_X10_isMark, by decide +kernel⟩
abbrev rmX10_mark : Room := { frames := 2, cells := 0, slots := 0, locals := 42 }
theorem mv_X10_mark : mV yX10_mark RX10 cX10_mark 7 (some .int) 5 := ⟨mI_X10_mark, mE_X10_mark, iz_X10, mC_X10_mark, by decide +kernel⟩
abbrev rmX10_clear : Room := { frames := 2, cells := 0, slots := 0, locals := 42 }
theorem mv_X10_clear : mV yX10_clear RX10 cX10_clear 3 (some .int) 1 := ⟨mI_X10_clear, mE_X10_clear, iz_X10, mC_X10_clear, by decide +kernel⟩
abbrev rmX10_jointAt : Room := { frames := 1, cells := 0, slots := 0, locals := 22 }
theorem mv_X10_jointAt : mV yX10_jointAt RX10 cX10_jointAt 3 (some .int) 1 := ⟨mI_X10_jointAt, mE_X10_jointAt, iz_X10, mC_X10_jointAt, by decide +kernel⟩
abbrev rmX10_hours : Room := { frames := 1, cells := 0, slots := 0, locals := 21 }
theorem ms_X10_hours : mS yX10_hours cX10_hours 3 (some .int) 2 := ⟨mS_X10_hours, iz_X10, mC_X10_hours, by decide +kernel⟩
abbrev rmX10_areNear : Room := { frames := 2, cells := 0, slots := 0, locals := 43 }
theorem mv_X10_areNear : mV yX10_areNear RX10 cX10_areNear 6 (some .boolean) 2 := ⟨mI_X10_areNear, mE_X10_areNear, iz_X10, mC_X10_areNear, by decide +kernel⟩
abbrev rmX10_joinMarks : Room := { frames := 3, cells := 0, slots := 0, locals := 68 }
theorem mv_X10_joinMarks : mV yX10_joinMarks RX10 cX10_joinMarks 6 none 1 := ⟨mI_X10_joinMarks, mE_X10_joinMarks, iz_X10, mC_X10_joinMarks, by decide +kernel⟩
abbrev rmX10_about : Room := { frames := 4, cells := 0, slots := 0, locals := 93 }
theorem mv_X10_about : mV yX10_about RX10 cX10_about 5 (some .int) 3 := ⟨mI_X10_about, mE_X10_about, iz_X10, mC_X10_about, by decide +kernel⟩
abbrev rmX10_near : Room := { frames := 1, cells := 0, slots := 0, locals := 22 }
theorem mv_X10_near : mV yX10_near RX10 cX10_near 3 (some .int) 2 := ⟨mI_X10_near, mE_X10_near, iz_X10, mC_X10_near, by decide +kernel⟩
abbrev rmX10_groups : Room := { frames := 4, cells := 0, slots := 0, locals := 93 }
theorem mv_X10_groups : mV yX10_groups RX10 cX10_groups 2 (some .int) 1 := ⟨mI_X10_groups, mE_X10_groups, iz_X10, mC_X10_groups, by decide +kernel⟩
abbrev rmX10_group : Room := { frames := 4, cells := 0, slots := 0, locals := 93 }
theorem mv_X10_group : mV yX10_group RX10 cX10_group 12 (some .int) 3 := ⟨mI_X10_group, mE_X10_group, iz_X10, mC_X10_group, by decide +kernel⟩
abbrev rmX10_alone : Room := { frames := 1, cells := 0, slots := 0, locals := 22 }
theorem mv_X10_alone : mV yX10_alone RX10 cX10_alone 3 (some .int) 1 := ⟨mI_X10_alone, mE_X10_alone, iz_X10, mC_X10_alone, by decide +kernel⟩
abbrev rmX10_gather : Room := { frames := 4, cells := 0, slots := 0, locals := 97 }
theorem mv_X10_gather : mV yX10_gather RX10 cX10_gather 6 none 1 := ⟨mI_X10_gather, mE_X10_gather, iz_X10, mC_X10_gather, by decide +kernel⟩
abbrev rmX10_choiceCost : Room := { frames := 2, cells := 0, slots := 0, locals := 43 }
theorem mv_X10_choiceCost : mV yX10_choiceCost RX10 cX10_choiceCost 5 (some .int) 0 := ⟨mI_X10_choiceCost, mE_X10_choiceCost, iz_X10, mC_X10_choiceCost, by decide +kernel⟩
abbrev rmX10_choosesOn : Room := { frames := 0, cells := 0, slots := 0, locals := 0 }
theorem mv_X10_choosesOn : mV yX10_choosesOn RX10 cX10_choosesOn 2 (some .boolean) 0 := ⟨mI_X10_choosesOn, mE_X10_choosesOn, iz_X10, mC_X10_choosesOn, by decide +kernel⟩
abbrev rmX10_pairs : Room := { frames := 5, cells := 0, slots := 0, locals := 122 }
theorem mv_X10_pairs : mV yX10_pairs RX10 cX10_pairs 6 (some .int) 1 := ⟨mI_X10_pairs, mE_X10_pairs, iz_X10, mC_X10_pairs, by decide +kernel⟩
abbrev rmX10_pairing : Room := { frames := 6, cells := 0, slots := 0, locals := 147 }
theorem mv_X10_pairing : mV yX10_pairing RX10 cX10_pairing 2 (some .int) 1 := ⟨mI_X10_pairing, mE_X10_pairing, iz_X10, mC_X10_pairing, by decide +kernel⟩
abbrev rmX10_twinOf : Room := { frames := 6, cells := 0, slots := 0, locals := 147 }
theorem mv_X10_twinOf : mV yX10_twinOf RX10 cX10_twinOf 6 (some .int) 1 := ⟨mI_X10_twinOf, mE_X10_twinOf, iz_X10, mC_X10_twinOf, by decide +kernel⟩
abbrev rmX10_twin : Room := { frames := 7, cells := 0, slots := 0, locals := 172 }
theorem mv_X10_twin : mV yX10_twin RX10 cX10_twin 2 (some .int) 1 := ⟨mI_X10_twin, mE_X10_twin, iz_X10, mC_X10_twin, by decide +kernel⟩
abbrev rmX10_tool : Room := { frames := 1, cells := 0, slots := 0, locals := 22 }
theorem mv_X10_tool : mV yX10_tool RX10 cX10_tool 4 (some .int) 3 := ⟨mI_X10_tool, mE_X10_tool, iz_X10, mC_X10_tool, by decide +kernel⟩
abbrev rmX10_lowOf : Room := { frames := 0, cells := 0, slots := 0, locals := 0 }
theorem mv_X10_lowOf : mV yX10_lowOf RX10 cX10_lowOf 2 (some .int) 1 := ⟨mI_X10_lowOf, mE_X10_lowOf, iz_X10, mC_X10_lowOf, by decide +kernel⟩
abbrev rmX10_highOf : Room := { frames := 0, cells := 0, slots := 0, locals := 0 }
theorem mv_X10_highOf : mV yX10_highOf RX10 cX10_highOf 2 (some .int) 1 := ⟨mI_X10_highOf, mE_X10_highOf, iz_X10, mC_X10_highOf, by decide +kernel⟩
abbrev rmX10_growth : Room := { frames := 7, cells := 0, slots := 0, locals := 172 }
theorem mv_X10_growth : mV yX10_growth RX10 cX10_growth 10 (some .int) 2 := ⟨mI_X10_growth, mE_X10_growth, iz_X10, mC_X10_growth, by decide +kernel⟩
abbrev rmX10_work : Room := { frames := 1, cells := 0, slots := 0, locals := 22 }
theorem mv_X10_work : mV yX10_work RX10 cX10_work 3 (some .int) 2 := ⟨mI_X10_work, mE_X10_work, iz_X10, mC_X10_work, by decide +kernel⟩
abbrev rmX10_yearly : Room := { frames := 1, cells := 0, slots := 0, locals := 22 }
theorem mv_X10_yearly : mV yX10_yearly RX10 cX10_yearly 3 (some .int) 2 := ⟨mI_X10_yearly, mE_X10_yearly, iz_X10, mC_X10_yearly, by decide +kernel⟩
abbrev rmX10_many : Room := { frames := 0, cells := 0, slots := 0, locals := 0 }
theorem ms_X10_many : mS yX10_many cX10_many 3 (some .int) 1 := ⟨mS_X10_many, iz_X10, mC_X10_many, by decide +kernel⟩
abbrev rmX10_willDo : Room := { frames := 1, cells := 0, slots := 0, locals := 22 }
theorem mv_X10_willDo : mV yX10_willDo RX10 cX10_willDo 5 (some .boolean) 1 := ⟨mI_X10_willDo, mE_X10_willDo, iz_X10, mC_X10_willDo, by decide +kernel⟩
abbrev rmX10_planned : Room := { frames := 2, cells := 0, slots := 0, locals := 46 }
theorem mv_X10_planned : mV yX10_planned RX10 cX10_planned 3 (some .int) 0 := ⟨mI_X10_planned, mE_X10_planned, iz_X10, mC_X10_planned, by decide +kernel⟩
abbrev rmX10_plan : Room := { frames := 3, cells := 0, slots := 0, locals := 68 }
theorem mv_X10_plan : mV yX10_plan RX10 cX10_plan 4 (some .int) 0 := ⟨mI_X10_plan, mE_X10_plan, iz_X10, mC_X10_plan, by decide +kernel⟩
abbrev rmX10_years : Room := { frames := 3, cells := 0, slots := 0, locals := 68 }
theorem mv_X10_years : mV yX10_years RX10 cX10_years 2 (some .int) 0 := ⟨mI_X10_years, mE_X10_years, iz_X10, mC_X10_years, by decide +kernel⟩
abbrev rmX10_when : Room := { frames := 3, cells := 0, slots := 0, locals := 68 }
theorem mv_X10_when : mV yX10_when RX10 cX10_when 6 (some .int) 1 := ⟨mI_X10_when, mE_X10_when, iz_X10, mC_X10_when, by decide +kernel⟩
abbrev rmX10_mayOpen : Room := { frames := 0, cells := 0, slots := 0, locals := 0 }
theorem mv_X10_mayOpen : mV yX10_mayOpen RX10 cX10_mayOpen 2 (some .boolean) 1 := ⟨mI_X10_mayOpen, mE_X10_mayOpen, iz_X10, mC_X10_mayOpen, by decide +kernel⟩
abbrev rmX10_trap : Room := { frames := 1, cells := 0, slots := 0, locals := 22 }
theorem mv_X10_trap : mV yX10_trap RX10 cX10_trap 3 (some .int) 2 := ⟨mI_X10_trap, mE_X10_trap, iz_X10, mC_X10_trap, by decide +kernel⟩
abbrev rmX10_count : Room := { frames := 0, cells := 0, slots := 0, locals := 0 }
theorem mv_X10_count : mV yX10_count RX10 cX10_count 2 (some .int) 1 := ⟨mI_X10_count, mE_X10_count, iz_X10, mC_X10_count, by decide +kernel⟩
abbrev rmX10_digest : Room := { frames := 5, cells := 0, slots := 0, locals := 118 }
theorem mv_X10_digest : mV yX10_digest RX10 cX10_digest 6 (some .long) 0 := ⟨mI_X10_digest, mE_X10_digest, iz_X10, mC_X10_digest, by decide +kernel⟩
