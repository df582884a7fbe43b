/-! items -/
theorem lacks_cases {S M : PS} {q : Nat} (nF : Nat) (hq : q < 8) (h : reelOK S M q) (a2 a3 : Int32) :
    (∃ v : Int32, ¬ v = 0 ∧ ¬ v ≤ 0 ∧ fX5_faultOf S (3 + q) a2 a3 = v ∧ fX10_lacks nF M (nI q) a2 a3 = some v) ∨
    (fX5_faultOf S (3 + q) a2 a3 = 0 ∧ fX10_lacks nF M (nI q) a2 a3 = some 0 ∧ M.2 1 q = 1 ∧ M.2 2 q = a2 ∧ S.1 (3 + q) 1 = a2 ∧ ¬ fX5_hasItem S (3 + q) a3 = 0 ∧ ∃ i : Nat, a3 = nI i ∧ (i : Int) < (M.2 3 q).toInt ∧ i < 150) := by
  have hcl : (nI q).toNatClampNeg = q := nI_clamp (by omega)
  have e0 : (0 : Int32).toInt = 0 := rfl
  have e1 : (1 : Int32).toInt = 1 := rfl
  rcases isLost_0 h with ⟨l1, l2⟩ | ⟨l1, l2⟩
  · rcases h with ⟨h1, h2, h3⟩ | ⟨h1, h2, h3, h4, h5, h6⟩
    · exact absurd h3 l2
    by_cases c : M.2 2 q = a2
    · have hs : (M.2 3 q - 1).toInt = (M.2 3 q).toInt - 1 := sub_toInt (by omega) (by omega)
      by_cases d : fX10_in M a3 0 (M.2 3 q - 1) = 0
      · have hi : fX5_hasItem S (3 + q) a3 = 0 := by
          unfold fX10_in at d
          unfold fX5_hasItem
          split at d
          · rename_i g; rw [if_pos g]
          · rename_i g
            split at d
            · rename_i g2
              rw [if_neg g, if_pos]
              rw [h4, Int32.le_iff_toInt_le]
              rw [Int32.lt_iff_toInt_lt] at g2
              omega
            · exact absurd d (by decide)
        refine Or.inl ⟨2, by decide, by decide, ?_, ?_⟩
        · rw [fX5_faultOf, if_pos l1, if_pos (h2.trans c), if_pos hi]
        · rw [fX10_lacks, if_neg (gq hq), hcl, if_neg l2, if_pos c, if_pos d]
      · have hb : btw a3 0 ((M.2 3 q).toInt - 1) := by
          have := in_btw d
          rw [hs] at this
          exact this
        have hi : ¬ fX5_hasItem S (3 + q) a3 = 0 := by
          unfold fX5_hasItem
          rw [if_neg (by rw [Int32.lt_iff_toInt_lt]; have := hb.1; omega), if_neg (by rw [h4, Int32.le_iff_toInt_le]; have := hb.2; omega)]
          decide
        refine Or.inr ⟨?_, ?_, h1, c, h2.trans c, hi, a3.toNatClampNeg, nI_of_btw hb, ?_, ?_⟩
        · rw [fX5_faultOf, if_pos l1, if_pos (h2.trans c), if_neg hi]
        · rw [fX10_lacks, if_neg (gq hq), hcl, if_neg l2, if_pos c, if_neg d]
        · have := clamp_toInt hb.1; have := hb.2; omega
        · have := clamp_toInt hb.1; have := hb.2; omega
    · refine Or.inl ⟨3, by decide, by decide, ?_, ?_⟩
      · rw [fX5_faultOf, if_pos l1, if_neg (fun g => c (h2.symm.trans g))]
      · rw [fX10_lacks, if_neg (gq hq), hcl, if_neg l2, if_neg c]
  · refine Or.inl ⟨1, by decide, by decide, ?_, ?_⟩
    · rw [fX5_faultOf, if_neg l1]
    · rw [fX10_lacks, if_neg (gq hq), hcl, if_pos l2]
theorem ix150 {q i : Nat} : ((150 : Int32) * nI q + nI i) = nI (150 * q + i) := by
  show nI 150 * nI q + nI i = _
  rw [pk_mul, nI_add]
theorem sim_get_ok (nF : Nat) : sim_get nF Inv := by
  intro S M a1 a2 a3 hI
  have hI0 := hI
  obtain ⟨hR, hN, hT, hB, hK, hW, hV⟩ := hI
  rcases reelAt_cases nF S M a1 with ⟨q1, q2⟩ | ⟨q, hq, rfl, q2, q3⟩
  · exact ⟨-2147483648, S, M, by rw [fX9_get, q2]; rfl, by rw [fX10_get, if_pos q1], hI0⟩
  by_cases c2 : fX10_in M a2 0 2 = 0
  · refine ⟨-2147483648, S, M, ?_, by rw [fX10_get, if_neg q3, if_pos c2], hI0⟩
    rw [fX9_get, q2]
    show (if fX9_isForm S a2 = 0 then some ((-2147483648 : Int32), S) else _) = _
    rw [if_pos (show fX9_isForm S a2 = 0 from c2)]
  rcases lacks_cases nF hq (hR q hq) a2 a3 with ⟨v, n1, n2, e1, e2⟩ | ⟨e1, e2, e3, e4, e5, e6, i, rfl, hi, hi2⟩
  · refine ⟨-2147483648, sti S 0 9 v, sti M 0 5 v, ?_, ?_, Inv_find hI0⟩
    · rw [fX9_get, q2]
      show (if fX9_isForm S a2 = 0 then _ else (if fX5_faultOf S (3 + q) a2 a3 = 0 then _ else some ((-2147483648 : Int32), (fX9_found S (fX5_faultOf S (3 + q) a2 a3)).2))) = _
      rw [if_neg (show ¬ fX9_isForm S a2 = 0 from c2), e1, if_neg n1]
      rfl
    · rw [fX10_get, if_neg q3, if_neg c2, e2, Option.bind_some, if_neg n2]
  · refine ⟨M.2 4 (150 * q + i), S, M, ?_, ?_, hI0⟩
    · rw [fX9_get, q2]
      show (if fX9_isForm S a2 = 0 then _ else (if fX5_faultOf S (3 + q) a2 (nI i) = 0 then (if nI i < 0 ∨ 150 ≤ (nI i).toNatClampNeg then none else some (S.2 (3 + q + 8) (nI i).toNatClampNeg, S)) else _)) = _
      rw [if_neg (show ¬ fX9_isForm S a2 = 0 from c2), if_pos e1, if_neg (nI_in (N := 150) hi2 (by omega)), nI_clamp (by omega), show 3 + q + 8 = 11 + q by omega]
      rcases hR q hq with ⟨h1, h2, h3⟩ | ⟨h1, h2, h3, h4, h5, h6⟩
      · rw [h3] at e3; exact absurd e3 (by decide)
      · rw [h6 i hi]
    · rw [fX10_get, if_neg q3, if_neg c2, e2, Option.bind_some, if_pos (by decide), ix150, if_neg (nI_in (N := 1200) (by omega) (by omega)), nI_clamp (by omega)]
theorem Inv_item {S M : PS} {q i : Nat} {v : Int32} (hq : q < 8) (hi : i < 150) (h : Inv S M) : Inv (sta S (11 + q) i v) (sta M 4 (150 * q + i) v) := by
  obtain ⟨hR, hN, hT, hB, hK, hW, hV⟩ := h
  refine ⟨fun r hr => ?_, hN.staS.staM, hT.staS.staM, (hB.staS (by omega)).staM (by decide), (hK.staS (by omega)).staM (by decide), (hW.staS (by omega)).staM (by decide), hV.staS.staM (by decide)⟩
  rcases hR r hr with h | ⟨h1, h2, h3, h4, h5, h6⟩
  · exact Or.inl h
  · refine Or.inr ⟨h1, h2, h3, h4, h5, fun k hk => ?_⟩
    have h7 := h6 k hk
    have hk : (k : Int) < (M.2 3 r).toInt := hk
    have hk2 := h5.2
    rw [sta_r, sta_r, h7]
    by_cases e : r = q ∧ k = i
    · rw [if_pos ⟨by omega, e.2⟩, if_pos ⟨rfl, by rw [e.1, e.2]⟩]
    · rw [if_neg (fun g => e ⟨by omega, g.2⟩), if_neg (fun g => e (by have := g.2; constructor <;> omega))]
theorem sim_put_ok (nF : Nat) : sim_put nF Inv := by
  intro S M a1 a2 a3 a4 hI
  have hI0 := hI
  obtain ⟨hR, hN, hT, hB, hK, hW, hV⟩ := hI
  rcases reelAt_cases nF S M a1 with ⟨q1, q2⟩ | ⟨q, hq, rfl, q2, q3⟩
  · exact ⟨-2, S, M, by rw [fX9_put, q2]; rfl, by rw [fX10_put, if_pos q1], hI0⟩
  by_cases c2 : fX10_in M a2 0 2 = 0
  · refine ⟨-2, S, M, ?_, by rw [fX10_put, if_neg q3, if_pos c2], hI0⟩
    rw [fX9_put, q2]
    show (if fX9_isForm S a2 = 0 then some ((-2 : Int32), S) else _) = _
    rw [if_pos (show fX9_isForm S a2 = 0 from c2)]
  rcases lacks_cases nF hq (hR q hq) a2 a3 with ⟨v, n1, n2, e1, e2⟩ | ⟨e1, e2, e3, e4, e5, e6, i, rfl, hi, hi2⟩
  · refine ⟨-10 - v, sti S 0 9 v, sti M 0 5 v, ?_, ?_, Inv_find hI0⟩
    · rw [fX9_put, q2]
      show (if fX9_isForm S a2 = 0 then _ else (if fX5_faultOf S (3 + q) a2 a3 = 0 then _ else some ((fX9_found S (fX5_faultOf S (3 + q) a2 a3)).1, (fX9_found S (fX5_faultOf S (3 + q) a2 a3)).2))) = _
      rw [if_neg (show ¬ fX9_isForm S a2 = 0 from c2), e1, if_neg n1]
      rfl
    · rw [fX10_put, if_neg q3, if_neg c2, e2, Option.bind_some, if_neg n2]
      rfl
  · have hc9 : ∀ w : Option (Int32 × PS), (((fX5_store nF S (3 + q) (nI i) a4).bind fun r3 => (some ((1 : Int32), r3))) = w) → fX9_put nF S (nI q) a2 (nI i) a4 = w := by
      intro w hw
      rw [fX9_put, q2]
      show (if fX9_isForm S a2 = 0 then _ else (if fX5_faultOf S (3 + q) a2 (nI i) = 0 then ((fX5_store nF S (3 + q) (nI i) a4).bind fun r3 => (some ((1 : Int32), r3))) else _)) = _
      rw [if_neg (show ¬ fX9_isForm S a2 = 0 from c2), if_pos e1]
      exact hw
    have g1 := nI_in (c := i) (N := 150) hi2 (by omega)
    have g2 := nI_in (c := 150 * q + i) (N := 1200) (by omega) (by omega)
    have hcl : (nI i).toNatClampNeg = i := nI_clamp (by omega)
    have hcl2 : (nI (150 * q + i)).toNatClampNeg = 150 * q + i := nI_clamp (by omega)
    have e8 : 3 + q + 8 = 11 + q := by omega
    by_cases d0 : a2 = 0
    · refine ⟨1, _, _, hc9 _ ?_, ?_, Inv_item (v := a4.toInt8.toInt32) hq hi2 hI0⟩
      · rw [fX5_store, if_neg e6, if_pos (e5.trans d0), if_neg g1, hcl, e8]; rfl
      · rw [fX10_put, if_neg q3, if_neg c2, e2, Option.bind_some, if_pos (by decide), if_pos d0, ix150, if_neg g2, hcl2]
    by_cases d1 : a2 = 1
    · refine ⟨1, _, _, hc9 _ ?_, ?_, Inv_item (v := a4.toInt16.toInt32) hq hi2 hI0⟩
      · rw [fX5_store, if_neg e6, if_neg (fun g => d0 (e5.symm.trans g)), if_pos (e5.trans d1), if_neg g1, hcl, e8]; rfl
      · rw [fX10_put, if_neg q3, if_neg c2, e2, Option.bind_some, if_pos (by decide), if_neg d0, if_pos d1, ix150, if_neg g2, hcl2]
    · refine ⟨1, _, _, hc9 _ ?_, ?_, Inv_item (v := a4) hq hi2 hI0⟩
      · rw [fX5_store, if_neg e6, if_neg (fun g => d0 (e5.symm.trans g)), if_neg (fun g => d1 (e5.symm.trans g)), if_neg g1, hcl, e8]; rfl
      · rw [fX10_put, if_neg q3, if_neg c2, e2, Option.bind_some, if_pos (by decide), if_neg d0, if_neg d1, ix150, if_neg g2, hcl2]
