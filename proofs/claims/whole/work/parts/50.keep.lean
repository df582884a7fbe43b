/-! the calls that compute: all but scratch stays -/
def keepC (S S' : PS) : Prop := (∀ a b : Nat, ¬ (((a = 1 ∨ a = 2) ∧ (b = 9 ∨ b = 10 ∨ b = 11)) ∨ ((a = 19 ∨ a = 20) ∧ b = 7) ∨ ((a = 45 ∨ a = 46) ∧ b = 3)) → S'.1 a b = S.1 a b) ∧ (∀ a : Nat, ¬ ((29 ≤ a ∧ a ≤ 40) ∨ a = 43 ∨ (47 ≤ a ∧ a ≤ 53)) → S'.2 a = S.2 a)
def keepM (M M' : PS) : Prop := (∀ b : Nat, ¬ (b = 6 ∨ b = 7 ∨ b = 9 ∨ b = 26) → M'.1 0 b = M.1 0 b) ∧ (∀ a : Nat, ¬ ((5 ≤ a ∧ a ≤ 8) ∨ a = 10 ∨ a = 11 ∨ (17 ≤ a ∧ a ≤ 22)) → M'.2 a = M.2 a)
theorem keepC.rfl' {S : PS} : keepC S S := ⟨fun _ _ _ => rfl, fun _ _ => rfl⟩
theorem keepM.rfl' {M : PS} : keepM M M := ⟨fun _ _ => rfl, fun _ _ => rfl⟩
theorem keepC.trans {S S1 S2 : PS} (h : keepC S S1) (h2 : keepC S1 S2) : keepC S S2 := ⟨fun a b q => (h2.1 a b q).trans (h.1 a b q), fun a q => (h2.2 a q).trans (h.2 a q)⟩
theorem keepM.trans {S S1 S2 : PS} (h : keepM S S1) (h2 : keepM S1 S2) : keepM S S2 := ⟨fun b q => (h2.1 b q).trans (h.1 b q), fun a q => (h2.2 a q).trans (h.2 a q)⟩
theorem Inv.keep {S M S' M' : PS} (h : Inv S M) (hc : keepC S S') (hm : keepM M M') : Inv S' M' := by
  obtain ⟨hR, hN, hT, hB, hK, hW, hV⟩ := h
  refine ⟨hR.congr (fun q hq => ⟨hc.1 _ _ (by omega), hc.1 _ _ (by omega), hc.2 _ (by omega)⟩) ⟨hm.2 _ (by decide), hm.2 _ (by decide), hm.2 _ (by decide), hm.2 _ (by decide)⟩, ?_, ?_, ?_, hK.congr (fun r hr => ⟨hc.1 _ _ (by omega), hc.2 _ (by omega), hc.2 _ (by omega), hc.2 _ (by omega), hc.2 _ (by omega)⟩) ⟨hm.2 _ (by decide), hm.2 _ (by decide), hm.2 _ (by decide), hm.2 _ (by decide), hm.2 _ (by decide)⟩, ?_, ?_⟩
  · unfold IN at hN ⊢
    rw [hc.1 0 9 (by decide), hc.1 0 7 (by decide), hc.1 0 8 (by decide), hc.1 44 3 (by decide), hm.1 5 (by decide), hm.1 23 (by decide), hm.1 24 (by decide), hm.1 27 (by decide)]
    exact hN
  · unfold IT at hT ⊢
    rw [hc.1 54 0 (by decide), hc.1 54 1 (by decide), hc.1 54 2 (by decide), hm.1 33 (by decide), hm.1 34 (by decide), hm.1 35 (by decide)]
    exact hT
  · unfold IB at hB ⊢
    rw [hc.1 41 2 (by decide), hc.1 41 3 (by decide), hc.1 41 4 (by decide), hc.2 42 (by decide), hm.1 12 (by decide), hm.1 14 (by decide), hm.1 15 (by decide), hm.2 9 (by decide)]
    exact hB
  · unfold IW at hW ⊢
    rw [hc.1 55 2 (by decide), hc.1 55 3 (by decide), hc.1 55 4 (by decide), hc.1 55 5 (by decide), hc.2 56 (by decide), hc.2 57 (by decide), hm.1 36 (by decide), hm.1 39 (by decide), hm.1 40 (by decide), hm.2 23 (by decide), hm.2 24 (by decide)]
    exact hW
  · unfold IV at hV ⊢
    rw [hc.1 58 0 (by decide), hc.1 58 1 (by decide), hm.1 42 (by decide), hm.2 25 (by decide)]
    exact hV
