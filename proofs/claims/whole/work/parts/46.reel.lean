/-! reels -/
theorem reelAt_cases (nF : Nat) (S M : PS) (a : Int32) : (fX10_isReel M a = 0 ∧ fX9_reelAt nF S a = some none) ∨ (∃ q : Nat, q < 8 ∧ a = nI q ∧ fX9_reelAt nF S a = some (some (5, 3 + q)) ∧ ¬ fX10_isReel M a = 0) := by
  by_cases h : fX10_isReel M a = 0
  · refine Or.inl ⟨h, ?_⟩
    by_cases c : (0 : Int32) ≤ a
    · have c0 : 0 ≤ a.toInt := by have := Int32.le_iff_toInt_le.mp c; exact this
      have h8 : 8 ≤ a.toInt := by
        rcases Int.lt_or_le a.toInt 8 with q | q
        · exact absurd h (in_pos (b := 0) (z := 7) ⟨c0, by have : (7 : Int32).toInt = 7 := rfl; omega⟩)
        · exact q
      obtain ⟨m, hm, rfl⟩ := nI_of (x := a) (by rw [Int32.lt_iff_toInt_lt]; have : (0 : Int32).toInt = 0 := rfl; omega)
      have hm8 : 8 ≤ m := by rw [nI_toInt hm] at h8; omega
      rw [fX9_reelAt, if_pos c, show nI m / (4 : Int32) = nI (m / 4) from pk_div hm (by decide) (by decide)]
      have hr : fX9_runAt S (nI (m / 4)) = none := by
        rw [fX9_runAt, if_neg (fun q => by have := (nI_eq (a := m / 4) (b := 0) (by omega) (by omega)).mp q; omega), if_neg (fun q => by have := (nI_eq (a := m / 4) (b := 1) (by omega) (by omega)).mp q; omega)]
      rw [hr]
    · rw [fX9_reelAt, if_neg c]
  · refine Or.inr ?_
    have hb : btw a 0 7 := in_btw h
    refine ⟨a.toNatClampNeg, by have := clamp_toInt hb.1; have := hb.2; omega, nI_of_btw hb, ?_, h⟩
    obtain ⟨q, hq, rfl⟩ : ∃ q : Nat, q < 8 ∧ a = nI q := ⟨_, by have := clamp_toInt hb.1; have := hb.2; omega, nI_of_btw hb⟩
    rw [nI_clamp (by omega)]
    rcases (show q = 0 ∨ q = 1 ∨ q = 2 ∨ q = 3 ∨ q = 4 ∨ q = 5 ∨ q = 6 ∨ q = 7 by omega) with rfl | rfl | rfl | rfl | rfl | rfl | rfl | rfl <;> rfl
theorem Inv_find {S M : PS} {v : Int32} (h : Inv S M) : Inv (sti S 0 9 v) (sti M 0 5 v) := by
  obtain ⟨hR, hN, hT, hB, hK, hW, hV⟩ := h
  exact ⟨(hR.stiS (by decide)).stiM, ⟨rfl, hN.2⟩, (hT.stiS (by decide)).stiM (by decide), (hB.stiS (by decide)).stiM (by decide), (hK.stiS (by decide)).stiM, (hW.stiS (by decide)).stiM (by decide), (hV.stiS (by decide)).stiM (by decide)⟩
theorem isLost_0 {S M : PS} {q : Nat} (h : reelOK S M q) : (fX5_isLost S (3 + q) = 0 ∧ ¬ M.2 1 q = 0) ∨ (¬ fX5_isLost S (3 + q) = 0 ∧ M.2 1 q = 0) := by
  rcases h with ⟨h1, h2, h3⟩ | ⟨h1, h2, h3, -⟩
  · exact Or.inr ⟨by rw [fX5_isLost, if_pos h1]; decide, h3⟩
  · refine Or.inl ⟨?_, by rw [h1]; decide⟩
    rw [fX5_isLost, if_neg]
    intro e
    rw [h2] at e
    rw [e] at h3
    exact absurd h3.1 (by decide)
theorem gq {q : Nat} (h : q < 8) : ¬ (nI q < 0 ∨ 8 ≤ (nI q).toNatClampNeg) := nI_in (N := 8) h (by omega)
theorem sim_lose_ok (nF : Nat) : sim_lose nF Inv := by
  intro S M a1 hI
  have hI0 := hI
  obtain ⟨hR, hN, hT, hB, hK, hW, hV⟩ := hI
  rcases reelAt_cases nF S M a1 with ⟨q1, q2⟩ | ⟨q, hq, rfl, q2, q3⟩
  · exact ⟨-2, S, M, by rw [fX9_lose, q2]; rfl, by rw [fX10_lose, if_pos q1], hI0⟩
  have hcl : (nI q).toNatClampNeg = q := nI_clamp (by omega)
  rcases isLost_0 (hR q hq) with ⟨e1, e2⟩ | ⟨e1, e2⟩
  · refine ⟨M.2 3 q, sti (sti S (3 + q) 1 (-1)) (3 + q) 2 0, sta M 1 q 0, ?_, ?_, ?_⟩
    · rw [fX9_lose, q2]
      show (if fX5_isLost S (3 + q) = 0 then some (S.1 (3 + q) 2, fX5_drop S (3 + q)) else _) = _
      rw [if_pos e1]
      rcases hR q hq with ⟨h1, h2, h3⟩ | ⟨h1, h2, h3, h4, -⟩
      · exact absurd h3 e2
      · rw [h4]; rfl
    · rw [fX10_lose, if_neg q3, if_neg (gq hq), hcl, if_neg e2]
      rfl
    · refine ⟨fun r hr => ?_, (((hN.stiS (by omega)).stiS (by omega)).staM), (((hT.stiS (by omega)).stiS (by omega)).staM), ((hB.stiS (by omega)).stiS (by omega)).staM (by decide), ((hK.stiS (by omega)).stiS (by omega)).staM (by decide), ((hW.stiS (by omega)).stiS (by omega)).staM (by decide), ((hV.stiS (by omega)).stiS (by omega)).staM (by decide)⟩
      by_cases e : r = q
      · subst e
        exact Or.inl ⟨(sti_ne (by omega)).trans sti_eq, sti_eq, sta_eq⟩
      · have := hR r hr
        unfold reelOK at this ⊢
        rw [sti_ne (by omega), sti_ne (by omega), sti_ne (by omega), sti_ne (by omega), sta_ne2 e, sta_ne (a := 2) (by decide), sta_ne (a := 3) (by decide), sta_ne (a := 4) (by decide)]
        exact this
  · refine ⟨-10 - 1, sti S 0 9 1, sti M 0 5 1, ?_, ?_, Inv_find hI0⟩
    · rw [fX9_lose, q2]
      show (if fX5_isLost S (3 + q) = 0 then _ else some ((-10 : Int32) - 1, sti S 0 9 1)) = _
      rw [if_neg e1]
    · rw [fX10_lose, if_neg q3, if_neg (gq hq), hcl, if_pos e2]
      rfl
