/-! the calls that only test and store -/
theorem inW {S M : PS} {a b z : Int32} : fX9_isWithin S a b z = fX10_in M a b z := rfl
theorem inWM {S M : PS} {a b z : Int32} : fX10_in S a b z = fX10_in M a b z := rfl
theorem in_btw {M : PS} {a b z : Int32} (h : ¬ fX10_in M a b z = 0) : btw a b.toInt z.toInt := by
  unfold fX10_in at h
  split at h
  · exact absurd rfl h
  · rename_i h1
    split at h
    · exact absurd rfl h
    · rename_i h2
      rw [Int32.lt_iff_toInt_lt] at h1 h2
      exact ⟨by omega, by omega⟩
theorem in_pos {M : PS} {a b z : Int32} (h : btw a b.toInt z.toInt) : ¬ fX10_in M a b z = 0 := by
  unfold fX10_in
  rw [if_neg (by rw [Int32.lt_iff_toInt_lt]; omega), if_neg (by rw [Int32.lt_iff_toInt_lt]; omega)]
  decide
theorem in_one {M : PS} {a b z : Int32} (h : ¬ fX10_in M a b z = 0) : fX10_in M a b z = 1 := by
  unfold fX10_in at h ⊢
  split at h
  · exact absurd rfl h
  · split at h
    · exact absurd rfl h
    · rename_i h1 h2
      rw [if_neg h1, if_neg h2]
theorem clamp_toInt {x : Int32} (h : 0 ≤ x.toInt) : (x.toNatClampNeg : Int) = x.toInt := by
  show ((x.toInt.toNat : Nat) : Int) = x.toInt
  omega
theorem add_toInt {x y : Int32} (h1 : -2147483648 ≤ x.toInt + y.toInt) (h2 : x.toInt + y.toInt < 2147483648) : (x + y).toInt = x.toInt + y.toInt := by
  rw [Int32.toInt_add]
  exact Int.bmod_eq_of_le (by omega) (by omega)
theorem sub_toInt {x y : Int32} (h1 : -2147483648 ≤ x.toInt - y.toInt) (h2 : x.toInt - y.toInt < 2147483648) : (x - y).toInt = x.toInt - y.toInt := by
  rw [Int32.toInt_sub]
  exact Int.bmod_eq_of_le (by omega) (by omega)
theorem mul_toInt {x y : Int32} (h1 : -2147483648 ≤ x.toInt * y.toInt) (h2 : x.toInt * y.toInt < 2147483648) : (x * y).toInt = x.toInt * y.toInt := by
  rw [Int32.toInt_mul]
  exact Int.bmod_eq_of_le (by omega) (by omega)
theorem sim_costs_ok (nF : Nat) : sim_costs nF Inv := by
  intro S M a1 a2 hI
  by_cases c1 : fX10_in M a1 0 1000000 = 0
  · exact ⟨-2, S, M, by rw [fX9_costs, if_pos (inW.trans c1)], by rw [fX10_costs, if_pos c1], hI⟩
  by_cases c2 : fX10_in M a2 0 1000000 = 0
  · exact ⟨-2, S, M, by rw [fX9_costs, if_neg (fun q => c1 (inW.symm.trans q)), if_pos (inW.trans c2)], by rw [fX10_costs, if_neg c1, if_pos c2], hI⟩
  refine ⟨1, _, _, by rw [fX9_costs, if_neg (fun q => c1 (inW.symm.trans q)), if_neg (fun q => c2 (inW.symm.trans q))], by rw [fX10_costs, if_neg c1, if_neg c2], ?_⟩
  obtain ⟨hR, hN, hT, hB, hK, hW, hV⟩ := hI
  refine ⟨(hR.stiS (by decide)).stiS (by decide) |>.stiM.stiM, ((hN.stiS (by decide)).stiS (by decide)).stiM (by decide) |>.stiM (by decide), ((hT.stiS (by decide)).stiS (by decide)).stiM (by decide) |>.stiM (by decide), ?_, (hK.stiS (by decide)).stiS (by decide) |>.stiM.stiM, ((hW.stiS (by decide)).stiS (by decide)).stiM (by decide) |>.stiM (by decide), ((hV.stiS (by decide)).stiS (by decide)).stiM (by decide) |>.stiM (by decide)⟩
  exact ⟨hB.1, hB.2.1, hB.2.2.1, rfl, in_btw c1, rfl, in_btw c2⟩
theorem sim_near_ok (nF : Nat) : sim_near nF Inv := by
  intro S M a1 a2 hI
  by_cases c1 : fX10_in M a1 0 100000 = 0
  · exact ⟨-2, S, M, by rw [fX9_near, if_pos (inW.trans c1)], by rw [fX10_near, if_pos c1], hI⟩
  by_cases c2 : fX10_in M a2 0 6 = 0
  · exact ⟨-2, S, M, by rw [fX9_near, if_neg (fun q => c1 (inW.symm.trans q)), if_pos (inW.trans c2)], by rw [fX10_near, if_neg c1, if_pos c2], hI⟩
  refine ⟨1, _, _, by rw [fX9_near, if_neg (fun q => c1 (inW.symm.trans q)), if_neg (fun q => c2 (inW.symm.trans q))], by rw [fX10_near, if_neg c1, if_neg c2], ?_⟩
  obtain ⟨hR, hN, hT, hB, hK, hW, hV⟩ := hI
  refine ⟨(hR.stiS (by decide)).stiS (by decide) |>.stiM.stiM, ?_, ((hT.stiS (by decide)).stiS (by decide)).stiM (by decide) |>.stiM (by decide), ((hB.stiS (by decide)).stiS (by decide)).stiM (by decide) |>.stiM (by decide), (hK.stiS (by decide)).stiS (by decide) |>.stiM.stiM, ((hW.stiS (by decide)).stiS (by decide)).stiM (by decide) |>.stiM (by decide), ((hV.stiS (by decide)).stiS (by decide)).stiM (by decide) |>.stiM (by decide)⟩
  exact ⟨hN.1, rfl, in_btw c1, rfl, in_btw c2, hN.2.2.2.2.2.1, hN.2.2.2.2.2.2⟩
theorem sim_alone_ok (nF : Nat) : sim_alone nF Inv := by
  intro S M a1 hI
  by_cases c1 : fX10_in M a1 0 100000 = 0
  · exact ⟨-2, S, M, by rw [fX9_alone, if_pos (inW.trans c1)], by rw [fX10_alone, if_pos c1], hI⟩
  obtain ⟨hR, hN, hT, hB, hK, hW, hV⟩ := hI
  refine ⟨M.1 0 27, _, _, by rw [fX9_alone, if_neg (fun q => c1 (inW.symm.trans q)), hN.2.2.2.2.2.1], by rw [fX10_alone, if_neg c1], ?_⟩
  refine ⟨(hR.stiS (by decide)).stiM, ?_, (hT.stiS (by decide)).stiM (by decide), (hB.stiS (by decide)).stiM (by decide), (hK.stiS (by decide)).stiM, (hW.stiS (by decide)).stiM (by decide), (hV.stiS (by decide)).stiM (by decide)⟩
  exact ⟨hN.1, hN.2.1, hN.2.2.1, hN.2.2.2.1, hN.2.2.2.2.1, rfl, in_btw c1⟩
theorem sim_tool_ok (nF : Nat) : sim_tool nF Inv := by
  intro S M a1 a2 a3 hI
  by_cases c1 : fX10_in M a1 1 50 = 0
  · exact ⟨-2, S, M, by rw [fX9_tool, if_pos (inW.trans c1)], by rw [fX10_tool, if_pos c1], hI⟩
  by_cases c2 : fX10_in M a2 0 50 = 0
  · exact ⟨-2, S, M, by rw [fX9_tool, if_neg (fun q => c1 (inW.symm.trans q)), if_pos (inW.trans c2)], by rw [fX10_tool, if_neg c1, if_pos c2], hI⟩
  by_cases c3 : fX10_in M a3 0 100 = 0
  · exact ⟨-2, S, M, by rw [fX9_tool, if_neg (fun q => c1 (inW.symm.trans q)), if_neg (fun q => c2 (inW.symm.trans q)), if_pos (inW.trans c3)], by rw [fX10_tool, if_neg c1, if_neg c2, if_pos c3], hI⟩
  refine ⟨1, _, _, by rw [fX9_tool, if_neg (fun q => c1 (inW.symm.trans q)), if_neg (fun q => c2 (inW.symm.trans q)), if_neg (fun q => c3 (inW.symm.trans q))], by rw [fX10_tool, if_neg c1, if_neg c2, if_neg c3], ?_⟩
  obtain ⟨hR, hN, hT, hB, hK, hW, hV⟩ := hI
  refine ⟨((hR.stiS (by decide)).stiS (by decide)).stiS (by decide) |>.stiM.stiM.stiM, (((hN.stiS (by decide)).stiS (by decide)).stiS (by decide)).stiM (by decide) |>.stiM (by decide) |>.stiM (by decide), ?_, (((hB.stiS (by decide)).stiS (by decide)).stiS (by decide)).stiM (by decide) |>.stiM (by decide) |>.stiM (by decide), ((hK.stiS (by decide)).stiS (by decide)).stiS (by decide) |>.stiM.stiM.stiM, (((hW.stiS (by decide)).stiS (by decide)).stiS (by decide)).stiM (by decide) |>.stiM (by decide) |>.stiM (by decide), (((hV.stiS (by decide)).stiS (by decide)).stiS (by decide)).stiM (by decide) |>.stiM (by decide) |>.stiM (by decide)⟩
  exact ⟨rfl, in_btw c1, rfl, in_btw c2, rfl, in_btw c3⟩
theorem sim_yearly_ok (nF : Nat) : sim_yearly nF Inv := by
  intro S M a1 a2 hI
  by_cases c1 : fX10_in M a1 1 30 = 0
  · exact ⟨-2, S, M, by rw [fX9_yearly, if_pos (inW.trans c1)], by rw [fX10_yearly, if_pos c1], hI⟩
  by_cases c2 : fX10_in M a2 0 10000 = 0
  · exact ⟨-2, S, M, by rw [fX9_yearly, if_neg (fun q => c1 (inW.symm.trans q)), if_pos (inW.trans c2)], by rw [fX10_yearly, if_neg c1, if_pos c2], hI⟩
  refine ⟨1, _, _, by rw [fX9_yearly, if_neg (fun q => c1 (inW.symm.trans q)), if_neg (fun q => c2 (inW.symm.trans q))], by rw [fX10_yearly, if_neg c1, if_neg c2], ?_⟩
  obtain ⟨hR, hN, hT, hB, hK, hW, hV⟩ := hI
  refine ⟨(hR.stiS (by decide)).stiS (by decide) |>.stiM.stiM, ((hN.stiS (by decide)).stiS (by decide)).stiM (by decide) |>.stiM (by decide), ((hT.stiS (by decide)).stiS (by decide)).stiM (by decide) |>.stiM (by decide), ((hB.stiS (by decide)).stiS (by decide)).stiM (by decide) |>.stiM (by decide), (hK.stiS (by decide)).stiS (by decide) |>.stiM.stiM, ?_, ((hV.stiS (by decide)).stiS (by decide)).stiM (by decide) |>.stiM (by decide)⟩
  exact ⟨hW.1, hW.2.1, hW.2.2.1, hW.2.2.2.1, hW.2.2.2.2.1, rfl, in_btw c1, rfl, in_btw c2⟩
theorem sim_wipe_ok (nF : Nat) : sim_wipe nF Inv := by
  intro S M hI
  obtain ⟨hR, hN, hT, hB, hK, hW, hV⟩ := hI
  refine ⟨M.1 0 12, _, _, by rw [fX9_wipe, hB.1], by rw [fX10_wipe], ?_⟩
  refine ⟨(hR.stiS (by decide)).stiM, (hN.stiS (by decide)).stiM (by decide), (hT.stiS (by decide)).stiM (by decide), ?_, (hK.stiS (by decide)).stiM, (hW.stiS (by decide)).stiM (by decide), (hV.stiS (by decide)).stiM (by decide)⟩
  exact ⟨rfl, ⟨show (0 : Int) ≤ (0 : Int32).toInt by decide, show (0 : Int32).toInt ≤ 40 by decide⟩, fun j hj => absurd hj (by show ¬ (j : Int) < (0 : Int32).toInt; have : (0 : Int32).toInt = 0 := rfl; omega), hB.2.2.2.1, hB.2.2.2.2.1, hB.2.2.2.2.2.1, hB.2.2.2.2.2.2⟩
