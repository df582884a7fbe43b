/-! works -/
theorem cntY_congr {f g : Nat → Int32} {y : Int32} : ∀ {n : Nat}, (∀ i, i < n → f i = g i) → cntY f y n = cntY g y n
  | 0, _ => rfl
  | n + 1, h => by rw [cntY, cntY, cntY_congr (fun i hi => h i (by omega)), h n (by omega)]
theorem sumC_congr {f g : Nat → Int32} : ∀ {n : Nat}, (∀ i, i < n → f i = g i) → sumC f n = sumC g n
  | 0, _ => rfl
  | n + 1, h => by rw [sumC, sumC, sumC_congr (fun i hi => h i (by omega)), h n (by omega)]
theorem sim_work_ok (nF : Nat) : sim_work nF Inv := by
  intro S M a1 a2 hI
  by_cases c1 : fX10_in M a1 1 1000 = 0
  · exact ⟨-2, S, M, by rw [fX9_work, if_pos (inW.trans c1)], by rw [fX10_work, if_pos c1], hI⟩
  have c1' := fun q => c1 ((inW (S := S)).symm.trans q)
  by_cases c2 : fX10_in M a2 1 8 = 0
  · exact ⟨-2, S, M, by rw [fX9_work, if_neg c1', if_pos (inW.trans c2)], by rw [fX10_work, if_neg c1, if_pos c2], hI⟩
  have c2' := fun q => c2 ((inW (S := S)).symm.trans q)
  have hI0 := hI
  obtain ⟨hR, hN, hT, hB, hK, hW, hV⟩ := hI
  have hn := hW.2.1
  by_cases c3 : M.1 0 36 = 30
  · refine ⟨-3, S, M, ?_, by rw [fX10_work, if_neg c1, if_neg c2, if_pos c3], hI0⟩
    rw [fX9_work, if_neg c1', if_neg c2', fX1_add, if_neg (by rw [hW.1, c3]; decide)]
    rfl
  have hlt : (M.1 0 36).toInt < 30 := by
    have : (M.1 0 36).toInt ≠ 30 := fun q => c3 (i32_of 30 q rfl)
    omega
  obtain ⟨n, hn30, hMn⟩ : ∃ n : Nat, n < 30 ∧ M.1 0 36 = nI n := ⟨_, by have := clamp_toInt hn.1; omega, nI_of_btw hn⟩
  have hb2 : btw a2 1 8 := in_btw c2
  have hb1 : btw a1 1 1000 := in_btw c1
  obtain ⟨y0, hy0, hy1, ha2⟩ : ∃ y : Nat, 1 ≤ y ∧ y ≤ 8 ∧ a2 = nI y := ⟨a2.toNatClampNeg, by have := clamp_toInt (x := a2) (by have := hb2.1; omega); have := hb2.1; omega, by have := clamp_toInt (x := a2) (by have := hb2.1; omega); have := hb2.2; omega, nI_of_btw (b := 8) ⟨by have := hb2.1; omega, hb2.2⟩⟩
  have hSn : S.1 55 2 = nI n := hW.1.trans hMn
  have hcl : (nI n).toNatClampNeg = n := nI_clamp (by omega)
  have hcy : (nI y0).toNatClampNeg = y0 := nI_clamp (by omega)
  have hcl1 : (nI n + 1).toNatClampNeg = n + 1 := by rw [nI_1]; exact nI_clamp (by omega)
  have hS : S.1 55 2 < 30 := by rw [hW.1, Int32.lt_iff_toInt_lt]; exact hlt
  have hgS : ¬ (S.1 55 2 < 0 ∨ 30 ≤ (S.1 55 2).toNatClampNeg) := by rw [hW.1]; exact guard_in (n := 30) hn.1 hlt
  have hgM : ¬ (M.1 0 36 < 0 ∨ 30 ≤ (M.1 0 36).toNatClampNeg) := guard_in (n := 30) hn.1 hlt
  have hgy : ¬ (a2 < 0 ∨ 9 ≤ a2.toNatClampNeg) := by rw [ha2]; exact nI_in (N := 9) (by omega) (by omega)
  refine ⟨nI n + 1 - 1, sti (sti (sta (sta S 56 n a2) 57 y0 (S.2 57 y0 + 1)) 55 3 (S.1 55 3 + a1)) 55 2 (nI n + 1), sti (sta (sta M 23 n a1) 24 n a2) 0 36 (nI n + 1), ?_, ?_, ?_⟩
  · rw [fX9_work, if_neg c1', if_neg c2', fX1_add, if_pos hS, if_neg hgS, if_neg hgy, hSn, hcl, show a2.toNatClampNeg = y0 by rw [ha2, hcy]]
    rfl
  · rw [fX10_work, if_neg c1, if_neg c2, if_neg c3, if_neg hgM, hMn, hcl]
  · refine ⟨(((hR.staS (by decide)).staS (by decide)).stiS (by decide)).stiS (by decide) |>.staM (by decide) |>.staM (by decide) |>.stiM, ((hN.staS.staS.stiS (by decide)).stiS (by decide)).staM.staM.stiM (by decide), ((hT.staS.staS.stiS (by decide)).stiS (by decide)).staM.staM.stiM (by decide), ((((hB.staS (by decide)).staS (by decide)).stiS (by decide)).stiS (by decide)).staM (by decide) |>.staM (by decide) |>.stiM (by decide), (((hK.staS (by decide)).staS (by decide)).stiS (by decide)).stiS (by decide) |>.staM (by decide) |>.staM (by decide) |>.stiM, ?_, ((hV.staS.staS.stiS (by decide)).stiS (by decide)).staM (by decide) |>.staM (by decide) |>.stiM (by decide)⟩
    have e1 : (nI n + 1).toInt = n + 1 := by rw [nI_1]; exact nI_toInt (by omega)
    have en : (nI n).toInt = n := nI_toInt (by omega)
    have hM24 : ∀ i, i < n → (sta M 24 n a2).2 24 i = M.2 24 i := fun i hi => sta_ne2 (by omega)
    have hM23 : ∀ i, i < n → (sta M 23 n a1).2 23 i = M.2 23 i := fun i hi => sta_ne2 (by omega)
    refine ⟨rfl, ?_, fun w hw => ?_, fun y hy => ?_, ?_, hW.2.2.2.2.2.1, hW.2.2.2.2.2.2.1, hW.2.2.2.2.2.2.2.1, hW.2.2.2.2.2.2.2.2⟩
    · show btw (nI n + 1) 0 30
      exact ⟨by omega, by omega⟩
    · have hw : (w : Int) < (nI n + 1).toInt := hw
      show (sta S 56 n a2).2 56 w = (sta M 24 n a2).2 24 w ∧ btw ((sta M 24 n a2).2 24 w) 1 8 ∧ btw ((sta M 23 n a1).2 23 w) 1 1000
      by_cases e : w = n
      · subst e
        rw [sta_eq, sta_eq, sta_eq]
        exact ⟨rfl, hb2, hb1⟩
      · rw [sta_ne2 e, sta_ne2 e, sta_ne2 e]
        exact hW.2.2.1 w (by rw [hMn, en]; omega)
    · show (sta S 57 y0 (S.2 57 y0 + 1)).2 57 y = nI (cntY ((sta M 24 n a2).2 24) (nI y) (nI n + 1).toNatClampNeg)
      have h0 := hW.2.2.2.1
      rw [hMn, hcl] at h0
      rw [hcl1, cntY, cntY_congr hM24, sta_eq]
      by_cases e : y = y0
      · subst e
        rw [sta_eq, if_pos ha2, h0 y hy, nI_1]
      · rw [sta_ne2 e, if_neg (fun q => e ((nI_eq (by omega) (by omega)).mp (ha2.symm.trans q)).symm), h0 y hy]
        rfl
    · show S.1 55 3 + a1 = sumC ((sta M 23 n a1).2 23) (nI n + 1).toNatClampNeg
      have h0 := hW.2.2.2.2.1
      rw [hMn, hcl] at h0
      rw [hcl1, sumC, sumC_congr hM23, sta_eq, h0]
