/-! match, paired -/
def nBk (M : PS) : Nat := (M.1 0 12).toNatClampNeg
def miN (M : PS) : Nat := (M.1 0 14).toNatClampNeg
def exN (M : PS) : Nat := (M.1 0 15).toNatClampNeg
def bkN (M : PS) (i : Nat) : Nat := (M.2 9 i).toNatClampNeg
def jN (M : PS) (r : Nat) : Nat := jnN (wl M r) (tkN M r)
def jsN (M : PS) (r j : Nat) : Nat := (jbN (mdl M r) (wl M r) (tkN M r) j).toNatClampNeg
def lnN (M : PS) (r j : Nat) : Nat := (jlN (mdl M r) (wl M r) (tkN M r) j).toNatClampNeg
def cstM (M : PS) (r : Nat) : Nat → Nat → Nat := cst (bkN M) (lnN M r) (miN M) (exN M)
def pcM (M : PS) (r : Nat) : Nat → Nat → Nat := pcN (bkN M) (lnN M r) (miN M) (exN M)
def parM (M : PS) (r k : Nat) : Int32 := prtN (cstM M r) (pcM M r) (miN M) (nBk M) (jN M r) k
theorem jN_same {M M' : PS} (h : keepM M M') (r : Nat) : jN M' r = jN M r := by
  unfold jN
  rw [wl_same h.same, tkN_same h.same]
theorem jsN_same {M M' : PS} (h : keepM M M') (r : Nat) : jsN M' r = jsN M r := by
  funext j
  unfold jsN
  rw [wl_same h.same, tkN_same h.same, mdl_same h.same]
theorem lnN_same {M M' : PS} (h : keepM M M') (r : Nat) : lnN M' r = lnN M r := by
  funext j
  unfold lnN
  rw [wl_same h.same, tkN_same h.same, mdl_same h.same]
theorem nBk_same {M M' : PS} (h : keepM M M') : nBk M' = nBk M := by
  unfold nBk
  rw [h.1 12 (by decide)]
theorem cstM_same {M M' : PS} (h : keepM M M') (r : Nat) : cstM M' r = cstM M r := by
  unfold cstM
  rw [lnN_same h, show bkN M' = bkN M by unfold bkN; rw [h.2 9 (by decide)], show miN M' = miN M by unfold miN; rw [h.1 14 (by decide)], show exN M' = exN M by unfold exN; rw [h.1 15 (by decide)]]
theorem parM_same {M M' : PS} (h : keepM M M') (r k : Nat) : parM M' r k = parM M r k := by
  unfold parM
  rw [cstM_same h, jN_same h, nBk_same h, show miN M' = miN M by unfold miN; rw [h.1 14 (by decide)], show pcM M' r = pcM M r by unfold pcM; rw [lnN_same h, show bkN M' = bkN M by unfold bkN; rw [h.2 9 (by decide)], show miN M' = miN M by unfold miN; rw [h.1 14 (by decide)], show exN M' = exN M by unfold exN; rw [h.1 15 (by decide)]]]
theorem FeltM_same {M0 M M' : PS} {r : Nat} (h : keepM M0 M) (hf : FeltM M' M r) : FeltM M' M0 r := by
  unfold FeltM at hf ⊢
  rw [← wl_same h.same, ← tkN_same h.same, ← mdl_same h.same]
  exact hf
theorem jN_le (M : PS) (r : Nat) : jN M r ≤ 60 := jn_le _ _
theorem felt_bnd {S M : PS} {r : Nat} (hr : r < 2) (hR : IR S M) (j : Nat) (hj : j < jN M r) : jbN (mdl M r) (wl M r) (tkN M r) j = nI (jsN M r j) ∧ jlN (mdl M r) (wl M r) (tkN M r) j = nI (lnN M r j) ∧ jsN M r j + lnN M r j ≤ 4500000 := by
  obtain ⟨s, v, f, h1, h2, h3, h4, h5, h6, h7⟩ := felt_nat (mdl M r) (wl M r) (mdl_cases M r) (tkN M r)
  obtain ⟨b, l, q1, q2, q3⟩ := h7 j hj
  have hT := tkN_le hr hR
  have e1 : jsN M r j = b := by unfold jsN; rw [q1]; exact nI_clamp (by omega)
  have e2 : lnN M r j = l := by unfold lnN; rw [q2]; exact nI_clamp (by omega)
  rw [e1, e2]
  exact ⟨q1, q2, by omega⟩
theorem IB.nat {S M : PS} (h : IB S M) : nBk M ≤ 40 ∧ miN M ≤ 1000000 ∧ exN M ≤ 1000000 ∧ M.1 0 12 = nI (nBk M) ∧ M.1 0 14 = nI (miN M) ∧ M.1 0 15 = nI (exN M) ∧ (∀ i, i < nBk M → M.2 9 i = nI (bkN M i) ∧ bkN M i ≤ 100000) := by
  obtain ⟨h1, h2, h3, h4, h5, h6, h7⟩ := h
  have a1 := clamp_toInt h2.1
  have a2 := clamp_toInt h5.1
  have a3 := clamp_toInt h7.1
  refine ⟨by unfold nBk; have := h2.2; omega, by unfold miN; have := h5.2; omega, by unfold exN; have := h7.2; omega, nI_of_btw h2, nI_of_btw h5, nI_of_btw h7, fun i hi => ?_⟩
  have hb := (h3 i (by unfold nBk at hi; omega)).2
  have hb' : btw (M.2 9 i) 0 100000 := ⟨by have := hb.1; omega, hb.2⟩
  exact ⟨nI_of_btw hb', by unfold bkN; have := clamp_toInt hb'.1; have := hb'.2; omega⟩
theorem bookC_of {S S' M : PS} {r : Nat} (hr : r < 2) (hI : Inv S M) (hk : keepC S S') (hF : FeltC S' M r) : bookC S' r (nBk M) (jN M r) (miN M) (exN M) (bkN M) (lnN M r) := by
  obtain ⟨n1, n2, n3, n4, n5, n6, n7⟩ := hI.2.2.2.1.nat
  obtain ⟨b1, b2, b3, b4, b5, b6, b7⟩ := hI.2.2.2.1
  refine ⟨n1, jN_le M r, n2, n3, ?_, ?_, ?_, hF.2.2.1, fun i hi => ?_, fun j hj => ?_⟩
  · rw [hk.1 41 2 (by decide), b1, n4]
  · rw [hk.1 41 3 (by decide), b4, n5]
  · rw [hk.1 41 4 (by decide), b6, n6]
  · rw [hk.2 42 (by decide), (b3 i (by rw [n4, nI_toInt (by omega)]; omega)).1]
    exact n7 i hi
  · have h := felt_bnd hr hI.1 j hj
    exact ⟨(hF.2.2.2.2 j hj).2.trans h.2.1, by omega⟩
theorem bookM_of {S M M' : PS} {r : Nat} (hr : r < 2) (hI : Inv S M) (hk : goFr M M') (hF : FeltM M' M r) : bookM M' (nBk M) (jN M r) (miN M) (exN M) (bkN M) (lnN M r) := by
  obtain ⟨n1, n2, n3, n4, n5, n6, n7⟩ := hI.2.2.2.1.nat
  refine ⟨n1, jN_le M r, n2, n3, ?_, ?_, ?_, hF.2.2.1, fun i hi => ?_, fun j hj => ?_⟩
  · rw [hk.1 0 12 (by decide), n4]
  · rw [hk.1 0 14 (by decide), n5]
  · rw [hk.1 0 15 (by decide), n6]
  · rw [hk.2 9 (by decide)]
    exact n7 i hi
  · have h := felt_bnd hr hI.1 j hj
    exact ⟨(hF.2.2.2.2 j hj).2.trans h.2.1, by omega⟩
def mtFr (M M' : PS) : Prop := (∀ a b : Nat, ¬ (a = 0 ∧ (b = 6 ∨ b = 7 ∨ b = 9)) → M'.1 a b = M.1 a b) ∧ (∀ a : Nat, ¬ ((6 ≤ a ∧ a ≤ 8) ∨ a = 10 ∨ a = 11) → M'.2 a = M.2 a)
theorem mtFr.keep {M M' : PS} (h : mtFr M M') : keepM M M' := ⟨fun b q => h.1 0 b (by omega), fun a q => h.2 a (by omega)⟩
theorem mt_M (nF : Nat) (hF : 1000 ≤ nF) {S M : PS} {r : Nat} (hr : r < 2) (hI : Inv S M) : ∃ M', fX10_matches nF M (nI r) = some M' ∧ mtFr M M' ∧ FeltM M' M r ∧ (∀ i, i ≤ nBk M → ∀ j, j ≤ jN M r → M'.2 10 (61 * i + j) = nI (cstM M r i j)) ∧ (∀ i, i < nBk M → M'.2 11 i = parM M r i) := by
  obtain ⟨M1, a1, a2, a3⟩ := go_M nF hF hr hI.1
  obtain ⟨M', b1, b2, b3, b4, b5⟩ := match_M nF hF (bookM_of hr hI a2 a3)
  refine ⟨M', ?_, ⟨fun a b q => by rw [b2]; exact a2.1 a b q, fun a q => (b3 a (by omega) (by omega)).trans (a2.2 a (by omega))⟩, ?_, b4, b5⟩
  · rw [fX10_matches, a1, Option.bind_some]
    exact b1
  · unfold FeltM at a3 ⊢
    rw [b2, b3 6 (by decide) (by decide), b3 7 (by decide) (by decide), b3 8 (by decide) (by decide)]
    exact a3
def puFr (S S' : PS) (r : Nat) : Prop := (∀ a b : Nat, ¬ (a = 1 + r ∧ (b = 9 ∨ b = 10 ∨ b = 11)) → S'.1 a b = S.1 a b) ∧ (∀ a : Nat, ¬ (a = 33 + r ∨ a = 35 + r ∨ a = 37 + r ∨ a = 39 + r ∨ a = 43) → S'.2 a = S.2 a)
theorem puFr.keep {S S' : PS} {r : Nat} (hr : r < 2) (h : puFr S S' r) : keepC S S' := ⟨fun a b q => h.1 a b (by omega), fun a q => h.2 a (by omega)⟩
theorem fp_C (nF : Nat) (hF : 1000 ≤ nF) {S M : PS} {r : Nat} (hr : r < 2) (hI : Inv S M) : ∃ S1 S', fX6_feel nF S (1 + r) = some S1 ∧ fX0_pairUp nF S1 (1 + r) = some S' ∧ puFr S S' r ∧ FeltC S' M r ∧ (∀ k, k < nBk M → S'.2 (39 + r) k = parM M r k) := by
  obtain ⟨S1, a1, a2, a3⟩ := feel_C nF hF hr hI.1
  obtain ⟨S', b1, b2, b3, b4⟩ := pairUp_C nF hF hr (bookC_of hr hI (a2.keep hr) a3)
  refine ⟨S1, S', a1, b1, ⟨fun a b q => by rw [b2]; exact a2.1 a b q, fun a q => (b3 a (by omega) (by omega)).trans (a2.2 a (by omega))⟩, ?_, b4⟩
  unfold FeltC at a3 ⊢
  rw [b2, b3 (33 + r) (by omega) (by omega), b3 (35 + r) (by omega) (by omega), b3 (37 + r) (by omega) (by omega)]
  exact a3
theorem fl_C (nF : Nat) (hF : 1000 ≤ nF) {S M : PS} {r : Nat} (hr : r < 2) (hI : Inv S M) (hf : FeltC S M r) : ∃ S', fX0_leastCost nF S (1 + r) = some (nI (cstM M r (nBk M) (jN M r)), S') ∧ fr43 S S' := by
  obtain ⟨S', b1, b2, b3⟩ := least_C nF hF hr (bookC_of hr hI keepC.rfl' hf)
  exact ⟨S', b1, b2⟩
theorem sim_match_ok (nF : Nat) (hF : 1000 ≤ nF) : sim_match nF Inv := by
  intro S M a1 hI
  rcases runAt_nat S M a1 with ⟨q1, q2⟩ | ⟨r, hr, rfl, q2, q3⟩
  · exact ⟨-2, S, M, by rw [fX9_match, q2], by rw [fX10_match, if_pos q1], hI⟩
  obtain ⟨S1, s1, s2, s3⟩ := feel_C nF hF hr hI.1
  have hI1 := hI.keep (s2.keep hr) keepM.rfl'
  obtain ⟨S', t1, t2⟩ := fl_C nF hF hr hI1 s3
  obtain ⟨M', m1, m2, m3, m4, m5⟩ := mt_M nF hF hr hI
  have hn := hI.2.2.2.1.nat
  have hJ := jN_le M r
  refine ⟨nI (cstM M r (nBk M) (jN M r)), S', M', ?_, ?_, hI.keep ((s2.keep hr).trans t2.keep) m2.keep⟩
  · rw [fX9_match, q2]; dsimp only; rw [s1, Option.bind_some, t1]; rfl
  · rw [fX10_match, if_neg q3, m1, Option.bind_some, m2.1 0 12 (by decide), hn.2.2.2.1, m3.2.2.1, ix61, show jnN (wl M r) (tkN M r) = jN M r from rfl, if_neg (nI_in (N := 2501) (by omega) (by omega)), nI_clamp (by omega), m4 _ (Nat.le_refl _) _ (Nat.le_refl _)]
theorem hasJoint_C {S M : PS} (hI : Inv S M) (a : Int32) : (fX10_in M a 0 (M.1 0 12 - 1) = 0 ∧ fX0_hasJoint S a = 0) ∨ ∃ k : Nat, k < nBk M ∧ a = nI k ∧ ¬ fX10_in M a 0 (M.1 0 12 - 1) = 0 ∧ ¬ fX0_hasJoint S a = 0 := by
  have hn := hI.2.2.2.1.nat
  have h1 : S.1 41 2 = nI (nBk M) := hI.2.2.2.1.1.trans hn.2.2.2.1
  rcases idx_cases M a (nBk M) (by omega) with ⟨i1, i2⟩ | ⟨i, hi, e, i3, i4, i5⟩
  · refine Or.inl ⟨by rw [hn.2.2.2.1]; exact i1, ?_⟩
    rw [fX0_hasJoint, h1]
    rcases i2 with i2 | ⟨i2, i3⟩
    · rw [if_pos i2]
    · rw [if_neg i2, if_pos (Int32.not_lt.mp i3)]
  · refine Or.inr ⟨i, hi, e, by rw [hn.2.2.2.1]; exact i3, ?_⟩
    rw [fX0_hasJoint, h1, if_neg i4, if_neg (Int32.not_le.mpr i5)]
    decide
theorem sim_paired_ok (nF : Nat) (hF : 1000 ≤ nF) : sim_paired nF Inv := by
  intro S M a1 a2 hI
  rcases runAt_nat S M a1 with ⟨q1, q2⟩ | ⟨r, hr, rfl, q2, q3⟩
  · exact ⟨-2, S, M, by rw [fX9_paired, q2], by rw [fX10_paired, if_pos q1], hI⟩
  have hn := hI.2.2.2.1.nat
  rcases hasJoint_C hI a2 with ⟨i1, i2⟩ | ⟨k, hk, rfl, i3, i4⟩
  · refine ⟨-2, S, M, ?_, by rw [fX10_paired, if_neg q3, if_pos i1], hI⟩
    rw [fX9_paired, q2]; dsimp only; rw [if_pos i2]
  obtain ⟨S1, S', s1, s2, s3, s4, s5⟩ := fp_C nF hF hr hI
  obtain ⟨M', m1, m2, m3, m4, m5⟩ := mt_M nF hF hr hI
  refine ⟨parM M r k, S', M', ?_, ?_, hI.keep (s3.keep hr) m2.keep⟩
  · rw [fX9_paired, q2]; dsimp only; rw [if_neg i4, s1, Option.bind_some, s2, Option.bind_some, if_neg (nI_in (N := 40) (by omega) (by omega)), nI_clamp (by omega), show 1 + r + 38 = 39 + r by omega, s5 k hk]
  · rw [fX10_paired, if_neg q3, if_neg i3, m1, Option.bind_some, if_neg (nI_in (N := 40) (by omega) (by omega)), nI_clamp (by omega), m5 k hk]
