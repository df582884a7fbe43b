/-! about -/
def ftL (js ln : Nat → Nat) (v : Nat) : Nat → Nat → Int32
  | 0, _ => -1
  | k + 1, j => if js j ≤ v ∧ v < js j + ln j then nI j else ftL js ln v k (j + 1)
def ftAt (M : PS) (r v : Nat) : Int32 := ftL (jsN M r) (lnN M r) v (jN M r) 0
def wayM (M : PS) (r m : Nat) : Nat := (M.2 13 (40 * r + m)).toNatClampNeg
theorem way_nat {S M : PS} {r m : Nat} (hr : r < 2) (h : IK S M) (hm : m < nMk M r) : M.2 13 (40 * r + m) = nI (wayM M r m) ∧ wayM M r m ≤ 4000000 := by
  obtain ⟨n1, n2, n3, n4⟩ := h.nat hr
  obtain ⟨a1, a2, a3, a4, a5, a6, a7, a8⟩ := n4 m hm
  exact ⟨nI_of_btw a5, by unfold wayM; have := clamp_toInt a5.1; have := a5.2; omega⟩
theorem feltC_loop (nF : Nat) {S S0 M : PS} {r v : Nat} (hr : r < 2) (hR : IR S0 M) (hv : v ≤ 4000000) (hf : FeltC S M r) : ∀ (k fl j : Nat), j + k = jN M r → k < fl → LX6_feltAt_2 nF fl S (1 + r) (nI v) (nI j) = some (ftL (jsN M r) (lnN M r) v k j) := by
  have hJ := jN_le M r
  intro k
  induction k with
  | zero =>
    intro fl j h1 h2
    obtain ⟨fl, rfl⟩ : ∃ m, fl = m + 1 := ⟨fl - 1, by omega⟩
    rw [LX6_feltAt_2, if_pos (by rw [hf.2.2.1]; exact nI_le (show jN M r ≤ j by omega) (by omega))]
    rfl
  | succ k ih =>
    intro fl j h1 h2
    obtain ⟨fl, rfl⟩ : ∃ m, fl = m + 1 := ⟨fl - 1, by omega⟩
    have hj : j < jN M r := by omega
    obtain ⟨b1, b2, b3⟩ := felt_bnd hr hR j hj
    have e := hf.2.2.2.2 j hj
    rw [LX6_feltAt_2, if_neg (by rw [hf.2.2.1]; exact nI_ge (b := jN M r) (by omega) (by omega)), if_neg (nI_in (N := 60) (by omega) (by omega)), nI_clamp (by omega), show 1 + r + 34 = 35 + r by omega, show 1 + r + 36 = 37 + r by omega, e.1, e.2, b1, b2, nI_add, nI_1, ftL]
    by_cases c1 : jsN M r j ≤ v
    · rw [if_neg (nI_nlt c1 (by omega))]
      by_cases c2 : v < jsN M r j + lnN M r j
      · rw [if_neg (nI_ge c2 (by omega)), if_pos ⟨c1, c2⟩]
      · rw [if_pos (nI_le (by omega) (by omega)), if_neg (fun q => c2 q.2)]
        exact ih fl (j + 1) (by omega) (by omega)
    · rw [if_pos ((nI_ltI (by omega) (by omega)).mpr (by omega)), if_neg (fun q => c1 q.1)]
      exact ih fl (j + 1) (by omega) (by omega)
theorem felt_C (nF : Nat) (hF : 1000 ≤ nF) {S S0 M : PS} {r v : Nat} (hr : r < 2) (hR : IR S0 M) (hv : v ≤ 4000000) (hf : FeltC S M r) : fX6_feltAt nF S (1 + r) (nI v) = some (ftAt M r v) := feltC_loop nF hr hR hv hf (jN M r) nF 0 (by omega) (by have := jN_le M r; omega)
theorem feltM_loop (nF : Nat) {S0 M M' : PS} {r v : Nat} (hr : r < 2) (hR : IR S0 M) (hv : v ≤ 4000000) (hf : FeltM M' M r) : ∀ (k fl j : Nat), j + k = jN M r → k < fl → LX10_jointAt_2 nF fl M' (nI v) (nI j) = some (ftL (jsN M r) (lnN M r) v k j) := by
  have hJ := jN_le M r
  intro k
  induction k with
  | zero =>
    intro fl j h1 h2
    obtain ⟨fl, rfl⟩ : ∃ m, fl = m + 1 := ⟨fl - 1, by omega⟩
    rw [LX10_jointAt_2, if_pos (by rw [hf.2.2.1]; exact nI_le (show jN M r ≤ j by omega) (by omega))]
    rfl
  | succ k ih =>
    intro fl j h1 h2
    obtain ⟨fl, rfl⟩ : ∃ m, fl = m + 1 := ⟨fl - 1, by omega⟩
    have hj : j < jN M r := by omega
    obtain ⟨b1, b2, b3⟩ := felt_bnd hr hR j hj
    have e := hf.2.2.2.2 j hj
    have es : (nI (jsN M r j + lnN M r j) - 1).toInt = ((jsN M r j + lnN M r j : Nat) : Int) - 1 := pk_sub_toInt (a := jsN M r j + lnN M r j) (b := 1) (by omega) (by omega)
    rw [LX10_jointAt_2, if_neg (by rw [hf.2.2.1]; exact nI_ge (b := jN M r) (by omega) (by omega)), if_neg (nI_in (N := 60) (by omega) (by omega)), nI_clamp (by omega), e.1, e.2, b1, b2, nI_add, nI_1, ftL]
    by_cases c : jsN M r j ≤ v ∧ v < jsN M r j + lnN M r j
    · rw [if_pos c, if_neg]
      apply in_pos
      show (nI (jsN M r j)).toInt ≤ (nI v).toInt ∧ (nI v).toInt ≤ (nI (jsN M r j + lnN M r j) - 1).toInt
      rw [nI_toInt (n := v) (by omega), nI_toInt (n := jsN M r j) (by omega), es]
      exact ⟨by omega, by omega⟩
    · rw [if_neg c, if_pos]
      · exact ih fl (j + 1) (by omega) (by omega)
      · apply Decidable.byContradiction
        intro q
        have hb : (nI (jsN M r j)).toInt ≤ (nI v).toInt ∧ (nI v).toInt ≤ (nI (jsN M r j + lnN M r j) - 1).toInt := in_btw q
        rw [nI_toInt (n := v) (by omega), nI_toInt (n := jsN M r j) (by omega), es] at hb
        exact c ⟨by omega, by omega⟩
theorem felt_M (nF : Nat) (hF : 1000 ≤ nF) {S0 M M' : PS} {r v : Nat} (hr : r < 2) (hR : IR S0 M) (hv : v ≤ 4000000) (hf : FeltM M' M r) : fX10_jointAt nF M' (nI v) = some (ftAt M r v) := feltM_loop nF hr hR hv hf (jN M r) nF 0 (by omega) (by have := jN_le M r; omega)
theorem hasMark_C (nF : Nat) {S M : PS} {r : Nat} (hr : r < 2) (hI : Inv S M) (a : Int32) : (fX10_isMark nF M (nI r) a = some 0 ∧ fX3_hasMark S (19 + r) a = 0) ∨ ∃ m : Nat, m < nMk M r ∧ a = nI m ∧ fX10_isMark nF M (nI r) a = some 1 ∧ ¬ fX3_hasMark S (19 + r) a = 0 := by
  obtain ⟨n1, n2, n3, n4⟩ := hI.2.2.2.2.1.nat hr
  have hr1 : ¬ fX10_isRun M (nI r) = 0 := by
    rcases (show r = 0 ∨ r = 1 by omega) with rfl | rfl
    · show ¬ (1 : Int32) = 0
      decide
    · show ¬ (1 : Int32) = 0
      decide
  rw [fX10_isMark, if_neg hr1, if_neg (nI_in (N := 2) (by omega) (by omega)), nI_clamp (by omega), n2, fX3_hasMark, n3]
  rcases idx_cases M a (nMk M r) (by omega) with ⟨i1, i2⟩ | ⟨i, hi, e, i3, i4, i5⟩
  · refine Or.inl ⟨by rw [if_pos i1], ?_⟩
    rcases i2 with i2 | ⟨i2, i3⟩
    · rw [if_pos i2]
    · rw [if_neg i2, if_pos (Int32.not_lt.mp i3)]
  · refine Or.inr ⟨i, hi, e, by rw [if_neg i3], ?_⟩
    rw [if_neg i4, if_neg (Int32.not_le.mpr i5)]
    decide
theorem sim_about_ok (nF : Nat) (hF : 1000 ≤ nF) : sim_about nF Inv := by
  intro S M a1 a2 a3 hI
  rcases runAt_nat S M a1 with ⟨q1, q2⟩ | ⟨r, hr, rfl, q2, q3⟩
  · exact ⟨-2, S, M, by rw [fX9_about, q2], by rw [fX10_about, fX10_isMark, if_pos q1]; rfl, hI⟩
  rcases hasMark_C nF hr hI a2 with ⟨i1, i2⟩ | ⟨m, hm, rfl, i3, i4⟩
  · refine ⟨-2, S, M, ?_, by rw [fX10_about, i1]; rfl, hI⟩
    rw [fX9_about, q2]; dsimp only; rw [show 1 + r + 18 = 19 + r by omega, if_pos i2]
  obtain ⟨n1, n2, n3, n4⟩ := hI.2.2.2.2.1.nat hr
  obtain ⟨b1, b2, b3, b4, b5, b6, b7, b8⟩ := n4 m hm
  have gm := nI_in (c := m) (N := 40) (by omega) (by omega)
  have g80 := nI_in (c := 40 * r + m) (N := 80) (by omega) (by omega)
  have hcl : (nI m).toNatClampNeg = m := nI_clamp (by omega)
  have hcl2 : (nI (40 * r + m)).toNatClampNeg = 40 * r + m := nI_clamp (by omega)
  have h10 : ¬ (1 : Int32) = 0 := by decide
  by_cases c2 : fX10_in M a3 0 5 = 0
  · have hb : a3.toInt < 0 ∨ 5 < a3.toInt := by
      apply Decidable.byContradiction
      intro q
      exact in_pos (M := M) (a := a3) (b := 0) (z := 5) ⟨by have : (0 : Int32).toInt = 0 := rfl; omega, by have : (5 : Int32).toInt = 5 := rfl; omega⟩ c2
    refine ⟨-2, S, M, ?_, ?_, hI⟩
    · rw [fX9_about, q2]; dsimp only; rw [show 1 + r + 18 = 19 + r by omega, if_neg i4, if_pos (inW.trans c2)]
    · rw [fX10_about, i3, Option.bind_some, if_neg h10, if_pos hb]
  have c2' := fun q => c2 ((inW (S := S)).symm.trans q)
  have hb := in_btw c2
  have hb' : ¬ (a3.toInt < 0 ∨ 5 < a3.toInt) := by have h0 : (0 : Int32).toInt = 0 := rfl; have h3 : (5 : Int32).toInt = 5 := rfl; omega
  have hC : fX9_about nF S (nI r) (nI m) a3 = (if a3 = 4 then ((fX6_feel nF S (1 + r)).bind fun r3 => (BX9_about_46 nF r3 (nI m) a3 (1 + r))) else (BX9_about_46 nF S (nI m) a3 (1 + r))) := by
    rw [fX9_about, q2]; dsimp only; rw [show 1 + r + 18 = 19 + r by omega, if_neg i4, if_neg c2']
  have hM : ∀ z : Option (Int32 × PS), (if a3.toInt < 0 ∨ 5 < a3.toInt then (some ((-2 : Int32), M)) else if a3 = 0 then (some ((M.2 13 (40 * r + m)), M)) else if a3 = 1 then (some ((M.2 14 (40 * r + m)), M)) else if a3 = 2 then (some ((M.2 15 (40 * r + m)), M)) else if a3 = 3 then (some ((M.2 16 (40 * r + m)), M)) else if a3 = 4 then ((fX10_goThrough nF M (nI r)).bind fun r1 => ((fX10_jointAt nF r1 (r1.2 13 (40 * r + m))).bind fun r2 => (some (r2, r1)))) else ((fX10_joinMarks nF M (nI r)).bind fun r3 => (some ((r3.2 17 m), r3)))) = z → fX10_about nF M (nI r) (nI m) a3 = z := by
    intro z h
    rw [fX10_about, i3, Option.bind_some, if_neg h10, ix40, hcl2, hcl]
    simp only [if_neg g80, if_neg gm, if_neg (show ¬ (nI (40 * r + m) < 0 ∨ 80 ≤ 40 * r + m) from fun q => q.elim (nI_pos (by omega)) (by omega)), if_neg (show ¬ (nI m < 0 ∨ 40 ≤ m) from fun q => q.elim (nI_pos (by omega)) (by omega))]
    exact h
  have hF0 : ∀ (x : Int32) (w : Int32), ¬ w = 4 → ¬ w = 5 → fX3_fact nF S (19 + r) (nI m) w = some x → BX9_about_46 nF S (nI m) w (1 + r) = some (x, S) := by
    intro x w h4 h5 h
    rw [BX9_about_46, if_neg h5, fX6_markFact, if_neg h4, show 1 + r + 18 = 19 + r by omega, h]
    rfl
  rcases sw0_6 hb' with rfl | rfl | rfl | rfl | rfl | rfl
  · refine ⟨M.2 13 (40 * r + m), S, M, ?_, hM _ rfl, hI⟩
    rw [hC, if_neg (by decide)]
    refine hF0 _ _ (by decide) (by decide) ?_
    show (if nI m < 0 ∨ 40 ≤ (nI m).toNatClampNeg then none else some (S.2 (19 + r + 2) (nI m).toNatClampNeg)) = _
    rw [if_neg gm, hcl, show 19 + r + 2 = 21 + r by omega, b1]
  · refine ⟨M.2 14 (40 * r + m), S, M, ?_, hM _ rfl, hI⟩
    rw [hC, if_neg (by decide)]
    refine hF0 _ _ (by decide) (by decide) ?_
    show (if nI m < 0 ∨ 40 ≤ (nI m).toNatClampNeg then none else some (S.2 (19 + r + 4) (nI m).toNatClampNeg)) = _
    rw [if_neg gm, hcl, show 19 + r + 4 = 23 + r by omega, b2]
  · refine ⟨M.2 15 (40 * r + m), S, M, ?_, hM _ rfl, hI⟩
    rw [hC, if_neg (by decide)]
    refine hF0 _ _ (by decide) (by decide) ?_
    show (if nI m < 0 ∨ 40 ≤ (nI m).toNatClampNeg then none else some (S.2 (19 + r + 6) (nI m).toNatClampNeg)) = _
    rw [if_neg gm, hcl, show 19 + r + 6 = 25 + r by omega, b3]
  · refine ⟨M.2 16 (40 * r + m), S, M, ?_, hM _ rfl, hI⟩
    rw [hC, if_neg (by decide)]
    refine hF0 _ _ (by decide) (by decide) ?_
    show (if nI m < 0 ∨ 40 ≤ (nI m).toNatClampNeg then none else some (S.2 (19 + r + 8) (nI m).toNatClampNeg)) = _
    rw [if_neg gm, hcl, show 19 + r + 8 = 27 + r by omega, b4]
  · obtain ⟨S', s1, s2, s3⟩ := feel_C nF hF hr hI.1
    obtain ⟨M', m1, m2, m3⟩ := go_M nF hF hr hI.1
    have hw := way_nat hr hI.2.2.2.2.1 hm
    refine ⟨ftAt M r (wayM M r m), S', M', ?_, hM _ ?_, hI.keep (s2.keep hr) m2.keep⟩
    · rw [hC, if_pos rfl, s1, Option.bind_some, BX9_about_46, if_neg (by decide), fX6_markFact, if_pos rfl, if_neg gm, hcl, show 1 + r + 18 + 2 = 21 + r by omega, s2.2 (21 + r) (by omega), b1, hw.1, felt_C nF hF hr hI.1 hw.2 s3]
      rfl
    · show ((fX10_goThrough nF M (nI r)).bind fun r1 => ((fX10_jointAt nF r1 (r1.2 13 (40 * r + m))).bind fun r2 => (some (r2, r1)))) = _
      rw [m1, Option.bind_some, m2.2 13 (by decide), hw.1, felt_M nF hF hr hI.1 hw.2 m3]
      rfl
  · obtain ⟨S', M', G, s1, m1, s2, m2, s3, m3, g1, g2⟩ := groups_both nF hF hr hI
    refine ⟨M'.2 17 m, S', M', ?_, hM _ ?_, hI.keep (s2.keep hr) m2.keep⟩
    · rw [hC, if_neg (by decide), BX9_about_46, if_pos rfl, show 1 + r + 18 = 19 + r by omega, s1, Option.bind_some, fX6_markFact, if_neg (by decide), show 1 + r + 18 = 19 + r by omega]
      show ((if nI m < 0 ∨ 40 ≤ (nI m).toNatClampNeg then none else some (S'.2 (19 + r + 10) (nI m).toNatClampNeg)).bind fun r0 => some r0).bind _ = _
      rw [if_neg gm, hcl, show 19 + r + 10 = 29 + r by omega, g2 m hm]
      rfl
    · show ((fX10_joinMarks nF M (nI r)).bind fun r3 => (some ((r3.2 17 m), r3))) = _
      rw [m1]
      rfl
