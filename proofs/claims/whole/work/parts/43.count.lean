/-! counts -/
theorem cnt4 {nF : Nat} {M : PS} (h : ∀ k, k < 4 → M.2 25 k = 0 ∨ M.2 25 k = 1) : (if (0 : Int32) < 0 ∨ 4 ≤ (0 : Int32).toNatClampNeg then none else (if (M.2 25 (0 : Int32).toNatClampNeg) = (0 : Int32) then (BX10_count_77 nF M (0 : Int32)) else (BX10_count_77 nF M (1 : Int32)))) = some (((M.2 25 0 + 2 * M.2 25 1) + 4 * M.2 25 2) + 8 * M.2 25 3) := by
  have c0 : (0 : Int32).toNatClampNeg = 0 := rfl
  have c1 : (1 : Int32).toNatClampNeg = 1 := rfl
  have c2 : (2 : Int32).toNatClampNeg = 2 := rfl
  have c3 : (3 : Int32).toNatClampNeg = 3 := rfl
  unfold BX10_count_77 BX10_count_91 BX10_count_106
  rcases h 0 (by decide) with h0 | h0 <;> rcases h 1 (by decide) with h1 | h1 <;> rcases h 2 (by decide) with h2 | h2 <;> rcases h 3 (by decide) with h3 | h3 <;> (rw [c0, c1, c2, c3, h0, h1, h2, h3]; rfl)
theorem sim_count_ok (nF : Nat) : sim_count nF Inv := by
  intro S M a1 hI
  have hI0 := hI
  obtain ⟨hR, hN, hT, hB, hK, hW, hV⟩ := hI
  refine ⟨fX9_count S a1, S, M, ⟨rfl, rfl⟩, ⟨?_, rfl⟩, hI0⟩
  by_cases hts : a1.toInt < 0 ∨ 6 < a1.toInt
  · rw [fX9_count, fX10_count, if_pos hts, if_pos hts]
  obtain h | h | h | h | h | h | h := sw0_7 hts
  · subst h
    show some (M.1 0 12) = some (S.1 41 2)
    rw [hB.1]
  · subst h
    show some (M.2 12 0) = some (S.1 19 6)
    rw [(hK 0 (by decide)).1]
  · subst h
    show some (M.2 12 1) = some (S.1 20 6)
    rw [show S.1 20 6 = M.2 12 1 from (hK 1 (by decide)).1]
  · subst h
    show some (M.1 0 36) = some (S.1 55 2)
    rw [hW.1]
  · subst h
    show (if (0 : Int32) < 0 ∨ 4 ≤ (0 : Int32).toNatClampNeg then none else (if (M.2 25 (0 : Int32).toNatClampNeg) = (0 : Int32) then (BX10_count_77 nF M (0 : Int32)) else (BX10_count_77 nF M (1 : Int32)))) = some (S.1 58 0)
    rw [cnt4 hV.1, hV.2.1]
  · subst h
    show (if M.1 0 42 = (0 : Int32) then some (0 : Int32) else some 1) = some (if S.1 58 1 = (0 : Int32) then (0 : Int32) else 1)
    rw [hV.2.2.1]
    split <;> rfl
  · subst h
    show some (M.1 0 5) = some (S.1 0 9)
    rw [hN.1]
