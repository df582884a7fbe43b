/-! group -/
theorem gf_loop (nF : Nat) {S M : PS} {r n : Nat} {g wh : Int32} (hr : r < 2) (hK : IK S M) (hn : nMk M r = n) (he : ∀ b, b < n → S.2 (29 + r) b = M.2 17 b) (hw : wh = 0 ∨ wh = 1 ∨ wh = 2 ∨ wh = 3 ∨ wh = 4) : ∀ (k fl m c : Nat) (v3 v5 v6 v7 : Int32), m + k = n → k < fl → c ≤ m → (c = 0 → v6 = 0) → ∃ x : Int32, LX3_groupFact_17 nF fl S (19 + r) g wh v3 (nI c) v5 v6 v7 (nI m) = some x ∧ LX10_group_59 nF fl M (nI r) g wh v3 (nI c) v5 v6 v7 (nI m) = some (x, M) := by
  obtain ⟨n1, n2, n3, n4⟩ := hK.nat hr
  rw [hn] at n1 n2 n3 n4
  intro k
  induction k with
  | zero =>
    intro fl m c v3 v5 v6 v7 h1 h2 hc h6
    obtain ⟨fl, rfl⟩ : ∃ m, fl = m + 1 := ⟨fl - 1, by omega⟩
    obtain rfl : m = n := by omega
    rw [LX3_groupFact_17, if_pos (by rw [n3]; exact nI_le (Nat.le_refl _) (by omega)), LX10_group_59, if_neg (nI_in (N := 2) (by omega) (by omega)), nI_clamp (n := r) (by omega), n2, if_pos (nI_le (Nat.le_refl _) (by omega))]
    rcases hw with rfl | rfl | rfl | rfl | rfl
    · exact ⟨v3, rfl, rfl⟩
    · exact ⟨nI c, rfl, rfl⟩
    · exact ⟨v5, rfl, rfl⟩
    · exact ⟨v6, rfl, rfl⟩
    · exact ⟨v7, rfl, rfl⟩
  | succ k ih =>
    intro fl m c v3 v5 v6 v7 h1 h2 hc h6
    obtain ⟨fl, rfl⟩ : ∃ m, fl = m + 1 := ⟨fl - 1, by omega⟩
    have hm : m < n := by omega
    obtain ⟨a1, a2, a3, a4, a5, a6, a7, a8⟩ := n4 m hm
    have gm := nI_in (c := m) (N := 40) (by omega) (by omega)
    have g80 := nI_in (c := 40 * r + m) (N := 80) (by omega) (by omega)
    have hcl : (nI m).toNatClampNeg = m := nI_clamp (by omega)
    have hcl2 : (nI (40 * r + m)).toNatClampNeg = 40 * r + m := nI_clamp (by omega)
    rw [LX3_groupFact_17, if_neg (by rw [n3]; exact nI_ge (by omega) (by omega)), if_neg gm, LX10_group_59, if_neg (nI_in (N := 2) (by omega) (by omega)), nI_clamp (n := r) (by omega), n2, if_neg (nI_ge (by omega) (by omega)), if_neg gm, hcl, show 19 + r + 10 = 29 + r by omega, he m hm]
    by_cases d1 : M.2 17 m = g
    · rw [if_pos d1, if_pos d1, ix40, if_neg g80, hcl2]
      have eC : ∀ t0 lw : Int32, BX3_groupFact_76 nF (LX3_groupFact_17 nF fl) S (19 + r) g wh t0 (nI c) v6 v7 (nI m) lw = LX3_groupFact_17 nF fl S (19 + r) g wh t0 (nI (c + 1)) lw (if v6 < M.2 13 (40 * r + m) + M.2 16 (40 * r + m) then M.2 13 (40 * r + m) + M.2 16 (40 * r + m) else v6) (if v7 < M.2 15 (40 * r + m) then M.2 15 (40 * r + m) else v7) (nI (m + 1)) := by
        intro t0 lw
        rw [BX3_groupFact_76, fX3_endOf, if_neg gm, Option.bind_some, if_neg gm, hcl, show 19 + r + 2 = 21 + r by omega, show 19 + r + 8 = 27 + r by omega, show 19 + r + 6 = 25 + r by omega, a1, a3, a4, nI_1, nI_1]
      have eM : ∀ lw hi : Int32, BX10_group_157 nF (LX10_group_59 nF fl) M (nI r) g wh v3 (nI c) lw v7 (nI m) (nI (40 * r + m)) hi = LX10_group_59 nF fl M (nI r) g wh (if c = 0 then nI m else v3) (nI (c + 1)) lw hi (if v7 < M.2 15 (40 * r + m) then M.2 15 (40 * r + m) else v7) (nI (m + 1)) := by
        intro lw hi
        rw [BX10_group_157, if_neg g80, hcl2, BX10_group_183, BX10_group_183, nI_1, nI_1]
        by_cases e0 : c = 0
        · subst e0
          rw [if_pos (show nI 0 = 0 from rfl), if_pos (show nI 0 = 0 from rfl), if_pos rfl]
          by_cases e1 : M.2 15 (40 * r + m) ≤ v7
          · rw [if_pos e1, if_neg (Int32.not_lt.mpr e1)]
          · rw [if_neg e1, if_pos (Int32.not_le.mp e1)]
        · rw [if_neg (nI_ne0 (n := c) (by omega) (by omega)), if_neg (nI_ne0 (n := c) (by omega) (by omega)), if_neg e0]
          by_cases e1 : M.2 15 (40 * r + m) ≤ v7
          · rw [if_pos e1, if_neg (Int32.not_lt.mpr e1)]
          · rw [if_neg e1, if_pos (Int32.not_le.mp e1)]
      have hend : 0 ≤ (M.2 13 (40 * r + m) + M.2 16 (40 * r + m)).toInt := by
        have := a5.1; have := a5.2; have := a8.1; have := a8.2
        rw [add_toInt (by omega) (by omega)]
        omega
      have h00 : (0 : Int32).toInt = 0 := rfl
      by_cases e0 : c = 0
      · have e0' : nI c = 0 := by rw [e0]; rfl
        rw [if_pos e0', if_pos e0', BX3_groupFact_48, if_pos e0', if_neg gm, hcl, show 19 + r + 2 = 21 + r by omega, a1, eC, BX10_group_124, if_neg g80, hcl2, BX10_group_136, if_pos e0', BX10_group_150, eM, if_pos e0]
        have e6 := h6 e0
        have ee : (if v6 < M.2 13 (40 * r + m) + M.2 16 (40 * r + m) then M.2 13 (40 * r + m) + M.2 16 (40 * r + m) else v6) = M.2 13 (40 * r + m) + M.2 16 (40 * r + m) := by
          rw [e6]
          by_cases q : (0 : Int32) < M.2 13 (40 * r + m) + M.2 16 (40 * r + m)
          · rw [if_pos q]
          · rw [if_neg q]
            rw [Int32.lt_iff_toInt_lt] at q
            exact (i32_of 0 (k := 0) (by omega) rfl).symm
        rw [ee]
        exact ih fl (m + 1) (c + 1) _ _ _ _ (by omega) (by omega) (by omega) (by omega)
      · have e0' : ¬ nI c = 0 := nI_ne0 (n := c) (by omega) (by omega)
        rw [if_neg e0', if_neg e0', BX3_groupFact_48, if_neg e0', if_neg gm, hcl, show 19 + r + 2 = 21 + r by omega, a1, eC]
        have e136 : ∀ lw : Int32, BX10_group_136 nF (LX10_group_59 nF fl) M (nI r) g wh v3 (nI c) v6 v7 (nI m) (nI (40 * r + m)) (M.2 13 (40 * r + m) + M.2 16 (40 * r + m)) lw = LX10_group_59 nF fl M (nI r) g wh v3 (nI (c + 1)) lw (if v6 < M.2 13 (40 * r + m) + M.2 16 (40 * r + m) then M.2 13 (40 * r + m) + M.2 16 (40 * r + m) else v6) (if v7 < M.2 15 (40 * r + m) then M.2 15 (40 * r + m) else v7) (nI (m + 1)) := by
          intro lw
          rw [BX10_group_136, if_neg e0', BX10_group_150, eM, eM, if_neg e0]
          by_cases q : M.2 13 (40 * r + m) + M.2 16 (40 * r + m) ≤ v6
          · rw [if_pos q, if_neg (Int32.not_lt.mpr q)]
          · rw [if_neg q, if_pos (Int32.not_le.mp q)]
        rw [BX10_group_124, if_neg g80, hcl2, e136, e136]
        have elw : (if v5 ≤ M.2 13 (40 * r + m) then LX10_group_59 nF fl M (nI r) g wh v3 (nI (c + 1)) v5 (if v6 < M.2 13 (40 * r + m) + M.2 16 (40 * r + m) then M.2 13 (40 * r + m) + M.2 16 (40 * r + m) else v6) (if v7 < M.2 15 (40 * r + m) then M.2 15 (40 * r + m) else v7) (nI (m + 1)) else LX10_group_59 nF fl M (nI r) g wh v3 (nI (c + 1)) (M.2 13 (40 * r + m)) (if v6 < M.2 13 (40 * r + m) + M.2 16 (40 * r + m) then M.2 13 (40 * r + m) + M.2 16 (40 * r + m) else v6) (if v7 < M.2 15 (40 * r + m) then M.2 15 (40 * r + m) else v7) (nI (m + 1))) = LX10_group_59 nF fl M (nI r) g wh v3 (nI (c + 1)) (if M.2 13 (40 * r + m) < v5 then M.2 13 (40 * r + m) else v5) (if v6 < M.2 13 (40 * r + m) + M.2 16 (40 * r + m) then M.2 13 (40 * r + m) + M.2 16 (40 * r + m) else v6) (if v7 < M.2 15 (40 * r + m) then M.2 15 (40 * r + m) else v7) (nI (m + 1)) := by
          by_cases q : v5 ≤ M.2 13 (40 * r + m)
          · rw [if_pos q, if_neg (Int32.not_lt.mpr q)]
          · rw [if_neg q, if_pos (Int32.not_le.mp q)]
        rw [elw]
        exact ih fl (m + 1) (c + 1) _ _ _ _ (by omega) (by omega) (by omega) (by omega)
    · rw [if_neg d1, if_neg d1, nI_1]
      exact ih fl (m + 1) c _ _ _ _ (by omega) (by omega) (by omega) h6
theorem sim_group_ok (nF : Nat) (hF : 1000 ≤ nF) : sim_group nF Inv := by
  intro S M a1 a2 a3 hI
  rcases runAt_nat S M a1 with ⟨q1, q2⟩ | ⟨r, hr, rfl, q2, q3⟩
  · exact ⟨-2, S, M, by rw [fX9_group, q2], by rw [fX10_group, if_pos q1], hI⟩
  by_cases c2 : fX10_in M a3 0 4 = 0
  · refine ⟨-2, S, M, ?_, by rw [fX10_group, if_neg q3, if_pos c2], hI⟩
    rw [fX9_group, q2]; dsimp only; rw [if_pos (inW.trans c2)]
  have c2' := fun q => c2 ((inW (S := S)).symm.trans q)
  have hb := in_btw c2
  have hb' : ¬ (a3.toInt < 0 ∨ 4 < a3.toInt) := by have h0 : (0 : Int32).toInt = 0 := rfl; have h3 : (4 : Int32).toInt = 4 := rfl; omega
  obtain ⟨n1, n2, n3, n4⟩ := hI.2.2.2.2.1.nat hr
  obtain ⟨S', M', G, s1, m1, s2, m2, s3, m3, g1, g2⟩ := groups_both nF hF hr hI
  have hI' := hI.keep (s2.keep hr) m2.keep
  rcases idx_cases M' a2 G (by omega) with ⟨i1, i2⟩ | ⟨i, hi, rfl, i3, i4, i5⟩
  · refine ⟨-2, S', M', ?_, ?_, hI'⟩
    · rw [fX9_group, q2]; dsimp only; rw [if_neg c2', show 1 + r + 18 = 19 + r by omega, s1, Option.bind_some, s3]
      rcases i2 with i2 | ⟨i2, i3⟩
      · rw [if_pos i2]
      · rw [if_neg i2, if_neg i3]
    · rw [fX10_group, if_neg q3, if_neg c2, m1, Option.bind_some, m3, if_pos i1]
  · obtain ⟨x, x1, x2⟩ := gf_loop nF (g := nI i) hr hI'.2.2.2.2.1 (m2.nMk' r) g2 (sw0_5 hb') (nMk M r) nF 0 0 (-1) 0 0 0 (by omega) (by omega) (by omega) (fun _ => rfl)
    refine ⟨x, S', M', ?_, ?_, hI'⟩
    · rw [fX9_group, q2]; dsimp only; rw [if_neg c2', show 1 + r + 18 = 19 + r by omega, s1, Option.bind_some, s3, if_neg i4, if_pos i5, fX3_groupFact]
      rw [show (LX3_groupFact_17 nF nF S' (19 + r) (nI i) a3 (-1) 0 0 0 0 0) = some x from x1]
      rfl
    · rw [fX10_group, if_neg q3, if_neg c2, m1, Option.bind_some, m3, if_neg i3]
      exact x2
