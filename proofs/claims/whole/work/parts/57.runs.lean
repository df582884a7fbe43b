/-! run, way, felt -/
theorem runAt_nat (S M : PS) (a : Int32) : (fX10_isRun M a = 0 ∧ fX9_runAt S a = none) ∨ ∃ r : Nat, r < 2 ∧ a = nI r ∧ fX9_runAt S a = some (6, 1 + r) ∧ ¬ fX10_isRun M a = 0 := by
  rcases runAt_cases S M a with q | ⟨h1, h2, h3⟩ | ⟨h1, h2, h3⟩
  · exact Or.inl q
  · exact Or.inr ⟨0, by omega, h1, h2, h3⟩
  · exact Or.inr ⟨1, by omega, h1, h2, h3⟩
theorem idx_cases (M : PS) (x : Int32) (n : Nat) (hn : n < 2 ^ 30) : (fX10_in M x 0 (nI n - 1) = 0 ∧ (x < 0 ∨ (¬ x < 0 ∧ ¬ x < nI n))) ∨ (∃ i : Nat, i < n ∧ x = nI i ∧ ¬ fX10_in M x 0 (nI n - 1) = 0 ∧ ¬ x < 0 ∧ x < nI n) := by
  have hs1 : (nI n - 1).toInt = (n : Int) - 1 := pk_sub_toInt (a := n) (b := 1) hn (by omega)
  have h0 : (0 : Int32).toInt = 0 := rfl
  by_cases c1 : fX10_in M x 0 (nI n - 1) = 0
  · refine Or.inl ⟨c1, ?_⟩
    by_cases c2 : x < 0
    · exact Or.inl c2
    · refine Or.inr ⟨c2, fun c3 => in_pos (M := M) (a := x) (b := 0) (z := nI n - 1) ?_ c1⟩
      rw [Int32.lt_iff_toInt_lt, nI_toInt (by omega)] at c3
      rw [Int32.lt_iff_toInt_lt] at c2
      rw [hs1]
      exact ⟨by omega, by omega⟩
  · have hb := in_btw c1
    rw [hs1] at hb
    have hx := clamp_toInt (x := x) (by omega)
    have e : x = nI x.toNatClampNeg := nI_of_btw (b := (n : Int) - 1) ⟨by omega, hb.2⟩
    refine Or.inr ⟨x.toNatClampNeg, by omega, e, c1, ?_, ?_⟩
    · rw [Int32.lt_iff_toInt_lt]; omega
    · rw [Int32.lt_iff_toInt_lt, nI_toInt (by omega)]; omega
theorem sim_run_ok (nF : Nat) (hF : 1000 ≤ nF) : sim_run nF Inv := by
  intro S M a1 a2 hI
  rcases runAt_nat S M a1 with ⟨q1, q2⟩ | ⟨r, hr, rfl, q2, q3⟩
  · exact ⟨-2, S, M, by rw [fX9_run, q2], by rw [fX10_run, if_pos q1], hI⟩
  obtain ⟨M', m1, m2, m3⟩ := go_M nF hF hr hI.1
  by_cases c2 : fX10_in M a2 0 3 = 0
  · have hb : a2.toInt < 0 ∨ 3 < a2.toInt := by
      apply Decidable.byContradiction
      intro q
      exact in_pos (M := M) (a := a2) (b := 0) (z := 3) ⟨by have : (0 : Int32).toInt = 0 := rfl; omega, by have : (3 : Int32).toInt = 3 := rfl; omega⟩ c2
    refine ⟨-2, S, M', ?_, ?_, hI.keep keepC.rfl' m2.keep⟩
    · rw [fX9_run, q2]; dsimp only; rw [if_pos (inW.trans c2)]
    · rw [fX10_run, if_neg q3, m1, Option.bind_some, if_pos hb]
  have hb := in_btw c2
  have hb' : ¬ (a2.toInt < 0 ∨ 3 < a2.toInt) := by have h0 : (0 : Int32).toInt = 0 := rfl; have h3 : (3 : Int32).toInt = 3 := rfl; omega
  obtain ⟨S', s1, s2, s3⟩ := feel_C nF hF hr hI.1
  have c2' := fun q => c2 ((inW (S := S)).symm.trans q)
  have hT := tkN_le hr hI.1
  have hK := hI.keep (s2.keep hr) m2.keep
  obtain ⟨d1, d2, d3, d4⟩ := s3
  obtain ⟨e1, e2, e3, e4⟩ := m3
  have fin : ∀ x : Int32, fX6_fact nF S' (1 + r) a2 = some x → (if a2.toInt < 0 ∨ 3 < a2.toInt then (some ((-2 : Int32), M')) else if a2 = 0 then (some ((M'.1 0 6), M')) else if a2 = 1 then (some ((M'.1 0 7), M')) else if a2 = 2 then (if (M'.1 0 6) = (0 : Int32) then (some ((0 : Int32), M')) else (if ((M'.1 0 6) - (1 : Int32)) < 0 ∨ 150 ≤ ((M'.1 0 6) - (1 : Int32)).toNatClampNeg then none else (some ((M'.2 6 ((M'.1 0 6) - (1 : Int32)).toNatClampNeg), M')))) else (some ((M'.1 0 9), M'))) = some (x, M') → ∃ (x : Int32) (S' M' : PS), (fX9_run nF S (nI r) a2 = some (x, S')) ∧ (fX10_run nF M (nI r) a2 = some (x, M')) ∧ Inv S' M' := by
    intro x h1 h2
    refine ⟨x, S', M', ?_, ?_, hK⟩
    · rw [fX9_run, q2]; dsimp only; rw [if_neg c2', s1, Option.bind_some, h1]; rfl
    · rw [fX10_run, if_neg q3, m1, Option.bind_some]; exact h2
  rcases sw0_4 hb' with rfl | rfl | rfl | rfl
  · exact fin (nI (tkN M r)) (by rw [← d1]; rfl) (by rw [← e1]; rfl)
  · exact fin (bld (mdl M r) (tkN M r)) (by rw [← d2]; rfl) (by rw [← e2]; rfl)
  · by_cases c : tkN M r = 0
    · refine fin 0 ?_ ?_
      · show (if S'.1 (1 + r) 9 ≤ 0 then some 0 else _) = _
        rw [d1, c]; rfl
      · show (if M'.1 0 6 = 0 then some (0, M') else _) = _
        rw [e1, c]; rfl
    · obtain ⟨T, hT2⟩ : ∃ T, tkN M r = T + 1 := ⟨tkN M r - 1, by omega⟩
      rw [hT2] at d1 d4 e1 e4
      refine fin (wyN (mdl M r) (T + 1)) ?_ ?_
      · show (if S'.1 (1 + r) 9 ≤ 0 then some 0 else (if S'.1 (1 + r) 9 - 1 < 0 ∨ 150 ≤ (S'.1 (1 + r) 9 - 1).toNatClampNeg then none else some (S'.2 (1 + r + 32) (S'.1 (1 + r) 9 - 1).toNatClampNeg))) = _
        rw [d1, if_neg (nI_nle (by omega) (by omega)), nI_pred, if_neg (nI_in (N := 150) (by omega) (by omega)), nI_clamp (by omega), show 1 + r + 32 = 33 + r by omega, d4.1 T (by omega)]
      · show (if M'.1 0 6 = 0 then some (0, M') else (if M'.1 0 6 - 1 < 0 ∨ 150 ≤ (M'.1 0 6 - 1).toNatClampNeg then none else some (M'.2 6 (M'.1 0 6 - 1).toNatClampNeg, M'))) = _
        rw [e1, if_neg (nI_ne0 (by omega) (by omega)), nI_pred, if_neg (nI_in (N := 150) (by omega) (by omega)), nI_clamp (by omega), e4.1 T (by omega)]
  · exact fin (nI (jnN (wl M r) (tkN M r))) (by rw [← d3]; rfl) (by rw [← e3]; rfl)
theorem sim_way_ok (nF : Nat) (hF : 1000 ≤ nF) : sim_way nF Inv := by
  intro S M a1 a2 hI
  rcases runAt_nat S M a1 with ⟨q1, q2⟩ | ⟨r, hr, rfl, q2, q3⟩
  · exact ⟨-2, S, M, by rw [fX9_way, q2], by rw [fX10_way, if_pos q1], hI⟩
  obtain ⟨M', m1, m2, m3⟩ := go_M nF hF hr hI.1
  obtain ⟨S', s1, s2, s3⟩ := feel_C nF hF hr hI.1
  have hT := tkN_le hr hI.1
  have hK := hI.keep (s2.keep hr) m2.keep
  obtain ⟨d1, d2, d3, d4⟩ := s3
  obtain ⟨e1, e2, e3, e4⟩ := m3
  rcases idx_cases M' a2 (tkN M r) (by omega) with ⟨i1, i2⟩ | ⟨i, hi, rfl, i3, i4, i5⟩
  · refine ⟨-2, S', M', ?_, ?_, hK⟩
    · rw [fX9_way, q2]; dsimp only; rw [s1, Option.bind_some, d1]
      rcases i2 with i2 | ⟨i2, i3⟩
      · rw [if_pos i2]
      · rw [if_neg i2, if_neg i3]
    · rw [fX10_way, if_neg q3, m1, Option.bind_some, e1, if_pos i1]
  · refine ⟨wyN (mdl M r) (i + 1), S', M', ?_, ?_, hK⟩
    · rw [fX9_way, q2]; dsimp only; rw [s1, Option.bind_some, d1, if_neg i4, if_pos i5, if_neg (nI_in (N := 150) (by omega) (by omega)), nI_clamp (by omega), show 1 + r + 32 = 33 + r by omega, d4.1 i hi]
    · rw [fX10_way, if_neg q3, m1, Option.bind_some, e1, if_neg i3, if_neg (nI_in (N := 150) (by omega) (by omega)), nI_clamp (by omega), e4.1 i hi]
theorem sim_felt_ok (nF : Nat) (hF : 1000 ≤ nF) : sim_felt nF Inv := by
  intro S M a1 a2 a3 hI
  rcases runAt_nat S M a1 with ⟨q1, q2⟩ | ⟨r, hr, rfl, q2, q3⟩
  · exact ⟨-2, S, M, by rw [fX9_felt, q2], by rw [fX10_felt, if_pos q1], hI⟩
  by_cases c2 : fX10_in M a3 0 1 = 0
  · refine ⟨-2, S, M, ?_, by rw [fX10_felt, if_neg q3, if_pos c2], hI⟩
    rw [fX9_felt, q2]; dsimp only; rw [if_pos (inW.trans c2)]
  have c2' := fun q => c2 ((inW (S := S)).symm.trans q)
  obtain ⟨M', m1, m2, m3⟩ := go_M nF hF hr hI.1
  obtain ⟨S', s1, s2, s3⟩ := feel_C nF hF hr hI.1
  have hJ := jn_le (wl M r) (tkN M r)
  have hK := hI.keep (s2.keep hr) m2.keep
  obtain ⟨d1, d2, d3, d4⟩ := s3
  obtain ⟨e1, e2, e3, e4⟩ := m3
  rcases idx_cases M' a2 (jnN (wl M r) (tkN M r)) (by omega) with ⟨i1, i2⟩ | ⟨i, hi, rfl, i3, i4, i5⟩
  · refine ⟨-2, S', M', ?_, ?_, hK⟩
    · rw [fX9_felt, q2]; dsimp only; rw [if_neg c2', s1, Option.bind_some, d3]
      rcases i2 with i2 | ⟨i2, i3⟩
      · rw [if_pos i2]
      · rw [if_neg i2, if_neg i3]
    · rw [fX10_felt, if_neg q3, if_neg c2, m1, Option.bind_some, e3, if_pos i1]
  · have d5 := d4.2 i hi
    have e5 := e4.2 i hi
    have g := nI_in (c := i) (N := 60) (by omega) (by omega)
    by_cases c3 : a3 = 0
    · refine ⟨jbN (mdl M r) (wl M r) (tkN M r) i, S', M', ?_, ?_, hK⟩
      · rw [fX9_felt, q2]; dsimp only; rw [if_neg c2', s1, Option.bind_some, d3, if_neg i4, if_pos i5, if_pos c3, if_neg g, nI_clamp (by omega), show 1 + r + 34 = 35 + r by omega, d5.1]
      · rw [fX10_felt, if_neg q3, if_neg c2, m1, Option.bind_some, e3, if_neg i3, if_pos c3, if_neg g, nI_clamp (by omega), e5.1]
    · refine ⟨jlN (mdl M r) (wl M r) (tkN M r) i, S', M', ?_, ?_, hK⟩
      · rw [fX9_felt, q2]; dsimp only; rw [if_neg c2', s1, Option.bind_some, d3, if_neg i4, if_pos i5, if_neg c3, if_neg g, nI_clamp (by omega), show 1 + r + 36 = 37 + r by omega, d5.2]
      · rw [fX10_felt, if_neg q3, if_neg c2, m1, Option.bind_some, e3, if_neg i3, if_neg c3, if_neg g, nI_clamp (by omega), e5.2]
