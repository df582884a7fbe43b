/-! the calls that add, clear, count -/
theorem nI_of_btw {x : Int32} {b : Int} (h : btw x 0 b) : x = nI x.toNatClampNeg := by
  apply Int32.toInt_inj.mp
  have h1 := clamp_toInt h.1
  have hlt : x.toInt < 2147483648 := by have := Int32.toInt_lt x; simpa using this
  rw [nI_toInt (by omega)]
  exact h1.symm
theorem guard_in {x : Int32} {n : Nat} (h0 : 0 ≤ x.toInt) (h1 : x.toInt < n) : ¬ (x < 0 ∨ n ≤ x.toNatClampNeg) := by
  rintro (h | h)
  · rw [Int32.lt_iff_toInt_lt] at h
    have : (0 : Int32).toInt = 0 := rfl
    omega
  · have := clamp_toInt h0
    omega
theorem sim_joint_ok (nF : Nat) : sim_joint nF Inv := by
  intro S M a1 hI
  by_cases c1 : fX10_in M a1 1 100000 = 0
  · exact ⟨-2, S, M, by rw [fX9_joint, if_pos (inW.trans c1)], by rw [fX10_joint, if_pos c1], hI⟩
  have hI0 := hI
  obtain ⟨hR, hN, hT, hB, hK, hW, hV⟩ := hI
  have hn := hB.2.1
  by_cases c2 : M.1 0 12 = 40
  · refine ⟨-3, S, M, ?_, by rw [fX10_joint, if_neg c1, if_pos c2], hI0⟩
    rw [fX9_joint, if_neg (fun q => c1 (inW.symm.trans q)), fX0_add, if_neg (by rw [hB.1, c2]; decide)]
    rfl
  have hlt : (M.1 0 12).toInt < 40 := by
    have : (M.1 0 12).toInt ≠ 40 := fun q => c2 (i32_of 40 q rfl)
    omega
  have hS : S.1 41 2 < 40 := by rw [hB.1, Int32.lt_iff_toInt_lt]; exact hlt
  have hg := guard_in (n := 40) hn.1 hlt
  have hcl := clamp_toInt hn.1
  have hadd : (M.1 0 12 + 1).toInt = (M.1 0 12).toInt + 1 := add_toInt (by have : (1 : Int32).toInt = 1 := rfl; omega) (by have : (1 : Int32).toInt = 1 := rfl; omega)
  refine ⟨M.1 0 12 + 1 - 1, sti (sta S 42 (M.1 0 12).toNatClampNeg a1) 41 2 (M.1 0 12 + 1), sti (sta M 9 (M.1 0 12).toNatClampNeg a1) 0 12 (M.1 0 12 + 1), ?_, ?_, ?_⟩
  · rw [fX9_joint, if_neg (fun q => c1 (inW.symm.trans q)), fX0_add, if_pos hS, if_neg (by rw [hB.1]; exact hg)]
    show some (S.1 41 2 + 1 - 1, sti (sta S 42 (S.1 41 2).toNatClampNeg a1) 41 2 (S.1 41 2 + 1)) = _
    rw [hB.1]
  · rw [fX10_joint, if_neg c1, if_neg c2, if_neg hg]
  · refine ⟨((hR.staS (by decide)).stiS (by decide)).staM (by decide) |>.stiM, ((hN.staS).stiS (by decide)).staM.stiM (by decide), (hT.staS.stiS (by decide)).staM.stiM (by decide), ?_, ((hK.staS (by decide)).stiS (by decide)).staM (by decide) |>.stiM, ((hW.staS (by decide)).stiS (by decide)).staM (by decide) |>.stiM (by decide), (hV.staS.stiS (by decide)).staM (by decide) |>.stiM (by decide)⟩
    refine ⟨rfl, ⟨?_, ?_⟩, fun j hj => ?_, hB.2.2.2.1, hB.2.2.2.2.1, hB.2.2.2.2.2.1, hB.2.2.2.2.2.2⟩
    · show (0 : Int) ≤ (M.1 0 12 + 1).toInt
      omega
    · show (M.1 0 12 + 1).toInt ≤ 40
      omega
    · have hj : (j : Int) < (M.1 0 12 + 1).toInt := hj
      show (sta S 42 (M.1 0 12).toNatClampNeg a1).2 42 j = (sta M 9 (M.1 0 12).toNatClampNeg a1).2 9 j ∧ btw ((sta M 9 (M.1 0 12).toNatClampNeg a1).2 9 j) 1 100000
      by_cases e : j = (M.1 0 12).toNatClampNeg
      · subst e
        rw [sta_eq, sta_eq]
        exact ⟨rfl, in_btw c1⟩
      · rw [sta_ne2 e, sta_ne2 e]
        exact hB.2.2.1 j (by omega)
theorem runAt_cases (S M : PS) (a : Int32) : (fX10_isRun M a = 0 ∧ fX9_runAt S a = none) ∨ (a = 0 ∧ fX9_runAt S a = some (6, 1) ∧ ¬ fX10_isRun M a = 0) ∨ (a = 1 ∧ fX9_runAt S a = some (6, 2) ∧ ¬ fX10_isRun M a = 0) := by
  by_cases h0 : a = 0
  · subst h0; exact Or.inr (Or.inl ⟨rfl, rfl, by show ¬ (1 : Int32) = 0; decide⟩)
  by_cases h1 : a = 1
  · subst h1; exact Or.inr (Or.inr ⟨rfl, rfl, by show ¬ (1 : Int32) = 0; decide⟩)
  refine Or.inl ⟨?_, by rw [fX9_runAt, if_neg h0, if_neg h1]⟩
  unfold fX10_isRun fX10_in
  by_cases c : a < 0
  · rw [if_pos c]
  · rw [if_neg c, if_pos]
    rw [Int32.lt_iff_toInt_lt] at c ⊢
    have e0 : (0 : Int32).toInt = 0 := rfl
    have e1 : (1 : Int32).toInt = 1 := rfl
    have n0 : a.toInt ≠ 0 := fun q => h0 (i32_of 0 q rfl)
    have n1 : a.toInt ≠ 1 := fun q => h1 (i32_of 1 q rfl)
    omega
theorem IK_add {S M : PS} {r0 : Nat} (hr0 : r0 < 2) (h : IK S M) (n : Nat) (hn : n < 40) (hM : M.2 12 r0 = nI n) {a2 a3 a4 a5 : Int32} (b2 : btw a2 0 4000000) (b3 : btw a3 0 11) (b4 : btw a4 0 100) (b5 : btw a5 0 10000) : IK (sti (sta (sta (sta (sta S (21 + r0) n a2) (23 + r0) n a3) (25 + r0) n a4) (27 + r0) n a5) (19 + r0) 6 (nI n + 1)) (sta (sta (sta (sta (sta M 13 (40 * r0 + n) a2) 14 (40 * r0 + n) a3) 15 (40 * r0 + n) a4) 16 (40 * r0 + n) a5) 12 r0 (nI n + 1)) := by
  intro r hr
  obtain ⟨h1, h2, h3⟩ := h r hr
  have e1 : (nI n + 1).toInt = n + 1 := by rw [nI_1]; exact nI_toInt (by omega)
  have en : (nI n).toInt = n := nI_toInt (by omega)
  unfold markOK
  simp (disch := omega) only [sti_2, sta_1, sta_ne]
  by_cases e : r = r0
  · subst e
    rw [sti_eq, sta_eq]
    refine ⟨rfl, ⟨by omega, by omega⟩, fun i hi => ?_⟩
    by_cases ei : i = n
    · subst ei
      simp only [sta_eq]
      exact ⟨trivial, trivial, trivial, trivial, b2, b3, b4, b5⟩
    · simp (disch := omega) only [sta_ne2]
      exact h3 i (by rw [hM, en]; omega)
  · rw [sti_ne (by omega), sta_ne2 e]
    refine ⟨h1, h2, fun i hi => ?_⟩
    have hi : (i : Int) < (M.2 12 r).toInt := hi
    have h4 := h3 i hi
    have hne : ¬ 40 * r + i = 40 * r0 + n := by omega
    have g : ∀ (X : PS) (a : Nat) (v : Int32), (sta X a (40 * r0 + n) v).2 a (40 * r + i) = X.2 a (40 * r + i) := fun X a v => sta_ne2 hne
    rw [g, g, g, g]
    simp (disch := omega) only [sta_ne]
    exact h4
theorem sim_mark_ok (nF : Nat) : sim_mark nF Inv := by
  intro S M a1 a2 a3 a4 a5 hI
  have hI0 := hI
  obtain ⟨hR, hN, hT, hB, hK, hW, hV⟩ := hI
  rcases runAt_cases S M a1 with ⟨q1, q2⟩ | q | q
  · exact ⟨-2, S, M, by rw [fX9_mark, q2], by rw [fX10_mark, if_pos q1], hI0⟩
  all_goals
    obtain ⟨rfl, q2, q3⟩ := q
    by_cases c2 : fX10_in M a2 0 4000000 = 0
    · exact ⟨-2, S, M, by rw [fX9_mark, q2]; dsimp only; rw [if_pos (inW.trans c2)], by rw [fX10_mark, if_neg q3, if_pos c2], hI0⟩
    by_cases c3 : fX10_in M a3 0 11 = 0
    · exact ⟨-2, S, M, by rw [fX9_mark, q2]; dsimp only; rw [if_neg (fun q => c2 (inW.symm.trans q)), if_pos (inW.trans c3)], by rw [fX10_mark, if_neg q3, if_neg c2, if_pos c3], hI0⟩
    by_cases c4 : fX10_in M a4 0 100 = 0
    · exact ⟨-2, S, M, by rw [fX9_mark, q2]; dsimp only; rw [if_neg (fun q => c2 (inW.symm.trans q)), if_neg (fun q => c3 (inW.symm.trans q)), if_pos (inW.trans c4)], by rw [fX10_mark, if_neg q3, if_neg c2, if_neg c3, if_pos c4], hI0⟩
    by_cases c5 : fX10_in M a5 0 10000 = 0
    · exact ⟨-2, S, M, by rw [fX9_mark, q2]; dsimp only; rw [if_neg (fun q => c2 (inW.symm.trans q)), if_neg (fun q => c3 (inW.symm.trans q)), if_neg (fun q => c4 (inW.symm.trans q)), if_pos (inW.trans c5)], by rw [fX10_mark, if_neg q3, if_neg c2, if_neg c3, if_neg c4, if_pos c5], hI0⟩
    have c2' := fun q => c2 ((inW (S := S)).symm.trans q)
    have c3' := fun q => c3 ((inW (S := S)).symm.trans q)
    have c4' := fun q => c4 ((inW (S := S)).symm.trans q)
    have c5' := fun q => c5 ((inW (S := S)).symm.trans q)
  · have hk := hK 0 (by decide)
    have hk1 : S.1 19 6 = M.2 12 0 := hk.1
    have hn := hk.2.1
    by_cases c6 : M.2 12 0 = 40
    · refine ⟨-3, S, M, ?_, ?_, hI0⟩
      · rw [fX9_mark, q2]; dsimp only
        rw [if_neg c2', if_neg c3', if_neg c4', if_neg c5', show (1 + 18 : Nat) = 19 from rfl, fX3_add, if_neg (by rw [hk1, c6]; decide)]
        rfl
      · rw [fX10_mark, if_neg q3, if_neg c2, if_neg c3, if_neg c4, if_neg c5, show (0 : Int32).toNatClampNeg = 0 from rfl, if_neg (by decide), if_pos c6]
    have hlt : (M.2 12 0).toInt < 40 := by
      have : (M.2 12 0).toInt ≠ 40 := fun q => c6 (i32_of 40 q rfl)
      omega
    obtain ⟨n, hn40, hMn⟩ : ∃ n : Nat, n < 40 ∧ M.2 12 0 = nI n := ⟨_, by have := clamp_toInt hn.1; omega, nI_of_btw hn⟩
    have hSn : S.1 19 6 = nI n := hk1.trans hMn
    have hcl : (nI n).toNatClampNeg = n := nI_clamp (by omega)
    have hS : S.1 19 6 < 40 := by rw [hk1, Int32.lt_iff_toInt_lt]; exact hlt
    have hgS : ¬ (S.1 19 6 < 0 ∨ 40 ≤ (S.1 19 6).toNatClampNeg) := by rw [hk1]; exact guard_in (n := 40) hn.1 hlt
    have hix : ((40 : Int32) * 0 + M.2 12 0) = nI (40 * 0 + n) := by rw [hMn]; show nI 40 * nI 0 + nI n = _; rw [pk_mul, nI_add]
    have hgM : ¬ (((40 : Int32) * 0 + M.2 12 0) < 0 ∨ 80 ≤ ((40 : Int32) * 0 + M.2 12 0).toNatClampNeg) := by rw [hix]; exact nI_in (N := 80) (by omega) (by omega)
    refine ⟨nI n + 1 - 1, _, _, ?_, ?_, ⟨?_, ?_, ?_, ?_, IK_add (by decide : 0 < 2) hK n hn40 hMn (in_btw c2) (in_btw c3) (in_btw c4) (in_btw c5), ?_, ?_⟩⟩
    · rw [fX9_mark, q2]; dsimp only
      rw [if_neg c2', if_neg c3', if_neg c4', if_neg c5', show (1 + 18 : Nat) = 19 from rfl, fX3_add, if_pos hS, if_neg hgS]
      show some (S.1 19 6 + 1 - 1, sti (sta (sta (sta (sta S 21 (S.1 19 6).toNatClampNeg a2) 23 (S.1 19 6).toNatClampNeg a3) 25 (S.1 19 6).toNatClampNeg a4) 27 (S.1 19 6).toNatClampNeg a5) 19 6 (S.1 19 6 + 1)) = _
      rw [hSn, hcl]
    · rw [fX10_mark, if_neg q3, if_neg c2, if_neg c3, if_neg c4, if_neg c5, show (0 : Int32).toNatClampNeg = 0 from rfl, if_neg (by decide), if_neg c6, if_neg hgM]
      rw [hix, nI_clamp (by omega)]
      show some (M.2 12 0 + 1 - 1, sta (sta (sta (sta (sta M 13 (40 * 0 + n) a2) 14 (40 * 0 + n) a3) 15 (40 * 0 + n) a4) 16 (40 * 0 + n) a5) 12 0 (M.2 12 0 + 1)) = _
      rw [hMn]
    · exact (((((hR.staS (by decide)).staS (by decide)).staS (by decide)).staS (by decide)).stiS (by decide)).staM (by decide) |>.staM (by decide) |>.staM (by decide) |>.staM (by decide) |>.staM (by decide)
    · exact (hN.staS.staS.staS.staS.stiS (by decide)).staM.staM.staM.staM.staM
    · exact (hT.staS.staS.staS.staS.stiS (by decide)).staM.staM.staM.staM.staM
    · exact (((((hB.staS (by decide)).staS (by decide)).staS (by decide)).staS (by decide)).stiS (by decide)).staM (by decide) |>.staM (by decide) |>.staM (by decide) |>.staM (by decide) |>.staM (by decide)
    · exact (((((hW.staS (by decide)).staS (by decide)).staS (by decide)).staS (by decide)).stiS (by decide)).staM (by decide) |>.staM (by decide) |>.staM (by decide) |>.staM (by decide) |>.staM (by decide)
    · exact (hV.staS.staS.staS.staS.stiS (by decide)).staM (by decide) |>.staM (by decide) |>.staM (by decide) |>.staM (by decide) |>.staM (by decide)
  · have hk := hK 1 (by decide)
    have hk1 : S.1 20 6 = M.2 12 1 := hk.1
    have hn := hk.2.1
    by_cases c6 : M.2 12 1 = 40
    · refine ⟨-3, S, M, ?_, ?_, hI0⟩
      · rw [fX9_mark, q2]; dsimp only
        rw [if_neg c2', if_neg c3', if_neg c4', if_neg c5', show (2 + 18 : Nat) = 20 from rfl, fX3_add, if_neg (by rw [hk1, c6]; decide)]
        rfl
      · rw [fX10_mark, if_neg q3, if_neg c2, if_neg c3, if_neg c4, if_neg c5, show (1 : Int32).toNatClampNeg = 1 from rfl, if_neg (by decide), if_pos c6]
    have hlt : (M.2 12 1).toInt < 40 := by
      have : (M.2 12 1).toInt ≠ 40 := fun q => c6 (i32_of 40 q rfl)
      omega
    obtain ⟨n, hn40, hMn⟩ : ∃ n : Nat, n < 40 ∧ M.2 12 1 = nI n := ⟨_, by have := clamp_toInt hn.1; omega, nI_of_btw hn⟩
    have hSn : S.1 20 6 = nI n := hk1.trans hMn
    have hcl : (nI n).toNatClampNeg = n := nI_clamp (by omega)
    have hS : S.1 20 6 < 40 := by rw [hk1, Int32.lt_iff_toInt_lt]; exact hlt
    have hgS : ¬ (S.1 20 6 < 0 ∨ 40 ≤ (S.1 20 6).toNatClampNeg) := by rw [hk1]; exact guard_in (n := 40) hn.1 hlt
    have hix : ((40 : Int32) * 1 + M.2 12 1) = nI (40 * 1 + n) := by rw [hMn]; show nI 40 * nI 1 + nI n = _; rw [pk_mul, nI_add]
    have hgM : ¬ (((40 : Int32) * 1 + M.2 12 1) < 0 ∨ 80 ≤ ((40 : Int32) * 1 + M.2 12 1).toNatClampNeg) := by rw [hix]; exact nI_in (N := 80) (by omega) (by omega)
    refine ⟨nI n + 1 - 1, _, _, ?_, ?_, ⟨?_, ?_, ?_, ?_, IK_add (by decide : 1 < 2) hK n hn40 hMn (in_btw c2) (in_btw c3) (in_btw c4) (in_btw c5), ?_, ?_⟩⟩
    · rw [fX9_mark, q2]; dsimp only
      rw [if_neg c2', if_neg c3', if_neg c4', if_neg c5', show (2 + 18 : Nat) = 20 from rfl, fX3_add, if_pos hS, if_neg hgS]
      show some (S.1 20 6 + 1 - 1, sti (sta (sta (sta (sta S 22 (S.1 20 6).toNatClampNeg a2) 24 (S.1 20 6).toNatClampNeg a3) 26 (S.1 20 6).toNatClampNeg a4) 28 (S.1 20 6).toNatClampNeg a5) 20 6 (S.1 20 6 + 1)) = _
      rw [hSn, hcl]
    · rw [fX10_mark, if_neg q3, if_neg c2, if_neg c3, if_neg c4, if_neg c5, show (1 : Int32).toNatClampNeg = 1 from rfl, if_neg (by decide), if_neg c6, if_neg hgM]
      rw [hix, nI_clamp (by omega)]
      show some (M.2 12 1 + 1 - 1, sta (sta (sta (sta (sta M 13 (40 * 1 + n) a2) 14 (40 * 1 + n) a3) 15 (40 * 1 + n) a4) 16 (40 * 1 + n) a5) 12 1 (M.2 12 1 + 1)) = _
      rw [hMn]
    · exact (((((hR.staS (by decide)).staS (by decide)).staS (by decide)).staS (by decide)).stiS (by decide)).staM (by decide) |>.staM (by decide) |>.staM (by decide) |>.staM (by decide) |>.staM (by decide)
    · exact (hN.staS.staS.staS.staS.stiS (by decide)).staM.staM.staM.staM.staM
    · exact (hT.staS.staS.staS.staS.stiS (by decide)).staM.staM.staM.staM.staM
    · exact (((((hB.staS (by decide)).staS (by decide)).staS (by decide)).staS (by decide)).stiS (by decide)).staM (by decide) |>.staM (by decide) |>.staM (by decide) |>.staM (by decide) |>.staM (by decide)
    · exact (((((hW.staS (by decide)).staS (by decide)).staS (by decide)).staS (by decide)).stiS (by decide)).staM (by decide) |>.staM (by decide) |>.staM (by decide) |>.staM (by decide) |>.staM (by decide)
    · exact (hV.staS.staS.staS.staS.stiS (by decide)).staM (by decide) |>.staM (by decide) |>.staM (by decide) |>.staM (by decide) |>.staM (by decide)
theorem IK_clear {S M : PS} {r0 : Nat} (hr0 : r0 < 2) (h : IK S M) : IK (sti S (19 + r0) 6 0) (sta M 12 r0 0) := by
  intro r hr
  obtain ⟨h1, h2, h3⟩ := h r hr
  by_cases e : r = r0
  · subst e
    rw [sti_eq, sta_eq]
    exact ⟨rfl, by decide, fun i hi => absurd hi (by have : (0 : Int32).toInt = 0 := rfl; omega)⟩
  · rw [sti_ne (by omega), sta_ne2 e]
    refine ⟨h1, h2, fun i hi => ?_⟩
    have := h3 i hi
    unfold markOK at this ⊢
    simp (disch := omega) only [sti_2, sta_ne]
    exact this
theorem sim_clear_ok (nF : Nat) : sim_clear nF Inv := by
  intro S M a1 hI
  have hI0 := hI
  obtain ⟨hR, hN, hT, hB, hK, hW, hV⟩ := hI
  rcases runAt_cases S M a1 with ⟨q1, q2⟩ | ⟨rfl, q2, q3⟩ | ⟨rfl, q2, q3⟩
  · exact ⟨-2, S, M, by rw [fX9_clear, q2], by rw [fX10_clear, if_pos q1], hI0⟩
  · refine ⟨M.2 12 0, sti S 19 6 0, sta M 12 0 0, ?_, ?_, (hR.stiS (by decide)).staM (by decide), (hN.stiS (by decide)).staM, (hT.stiS (by decide)).staM, (hB.stiS (by decide)).staM (by decide), IK_clear (by decide : 0 < 2) hK, (hW.stiS (by decide)).staM (by decide), (hV.stiS (by decide)).staM (by decide)⟩
    · rw [fX9_clear, q2]
      show some (S.1 19 6, sti S 19 6 0) = _
      rw [(hK 0 (by decide)).1]
    · rw [fX10_clear, if_neg q3, if_neg (by decide)]; rfl
  · refine ⟨M.2 12 1, sti S 20 6 0, sta M 12 1 0, ?_, ?_, (hR.stiS (by decide)).staM (by decide), (hN.stiS (by decide)).staM, (hT.stiS (by decide)).staM, (hB.stiS (by decide)).staM (by decide), IK_clear (by decide : 1 < 2) hK, (hW.stiS (by decide)).staM (by decide), (hV.stiS (by decide)).staM (by decide)⟩
    · rw [fX9_clear, q2]
      show some (S.1 20 6, sti S 20 6 0) = _
      rw [show S.1 20 6 = M.2 12 1 from (hK 1 (by decide)).1]
    · rw [fX10_clear, if_neg q3, if_neg (by decide)]; rfl
