/-! digest -/
def factN (M : PS) (r w : Nat) : Int32 := if w = 0 then nI (tkN M r) else if w = 1 then bld (mdl M r) (tkN M r) else if w = 2 then wyN (mdl M r) (tkN M r) else nI (jN M r)
theorem factN_same {M M' : PS} (h : keepM M M') (r w : Nat) : factN M' r w = factN M r w := by
  unfold factN
  rw [jN_same h, mdl_same h.same, tkN_same h.same]
theorem FeltC_same {S M M' : PS} {r : Nat} (h : keepM M M') (hf : FeltC S M r) : FeltC S M' r := by
  unfold FeltC at hf ⊢
  rw [wl_same h.same, tkN_same h.same, mdl_same h.same]
  exact hf
theorem fact_C (nF : Nat) {S0 S M : PS} {r w : Nat} (hr : r < 2) (hR : IR S0 M) (hf : FeltC S M r) (hw : w < 4) : fX6_fact nF S (1 + r) (nI w) = some (factN M r w) := by
  obtain ⟨d1, d2, d3, d4⟩ := hf
  have hT := tkN_le hr hR
  rcases (show w = 0 ∨ w = 1 ∨ w = 2 ∨ w = 3 by omega) with rfl | rfl | rfl | rfl
  · show some (S.1 (1 + r) 9) = some (nI (tkN M r))
    rw [d1]
  · show some (S.1 (1 + r) 10) = some (bld (mdl M r) (tkN M r))
    rw [d2]
  · show (if S.1 (1 + r) 9 ≤ 0 then some 0 else (if S.1 (1 + r) 9 - 1 < 0 ∨ 150 ≤ (S.1 (1 + r) 9 - 1).toNatClampNeg then none else some (S.2 (1 + r + 32) (S.1 (1 + r) 9 - 1).toNatClampNeg))) = some (wyN (mdl M r) (tkN M r))
    by_cases c : tkN M r = 0
    · rw [d1, c]; rfl
    · obtain ⟨T, hT2⟩ : ∃ T, tkN M r = T + 1 := ⟨tkN M r - 1, by omega⟩
      rw [hT2] at d1 d4 ⊢
      rw [d1, if_neg (nI_nle (by omega) (by omega)), nI_pred, if_neg (nI_in (N := 150) (by omega) (by omega)), nI_clamp (by omega), show 1 + r + 32 = 33 + r by omega, d4.1 T (by omega)]
  · show some (S.1 (1 + r) 11) = some (nI (jN M r))
    rw [d3]
    rfl
theorem isRun_M (M : PS) {r : Nat} (hr : r < 2) : ¬ fX10_isRun M (nI r) = 0 := by
  rcases (show r = 0 ∨ r = 1 by omega) with rfl | rfl
  · show ¬ (1 : Int32) = 0
    decide
  · show ¬ (1 : Int32) = 0
    decide
theorem run_M (nF : Nat) (hF : 1000 ≤ nF) {S M : PS} {r w : Nat} (hr : r < 2) (hR : IR S M) (hw : w < 4) : ∃ M', fX10_run nF M (nI r) (nI w) = some (factN M r w, M') ∧ goFr M M' ∧ FeltM M' M r := by
  obtain ⟨M', m1, m2, m3⟩ := go_M nF hF hr hR
  refine ⟨M', ?_, m2, m3⟩
  rw [fX10_run, if_neg (isRun_M M hr), m1, Option.bind_some]
  obtain ⟨e1, e2, e3, e4⟩ := m3
  have hT := tkN_le hr hR
  rcases (show w = 0 ∨ w = 1 ∨ w = 2 ∨ w = 3 by omega) with rfl | rfl | rfl | rfl
  · show some (M'.1 0 6, M') = some (nI (tkN M r), M')
    rw [e1]
  · show some (M'.1 0 7, M') = some (bld (mdl M r) (tkN M r), M')
    rw [e2]
  · show (if M'.1 0 6 = 0 then some (0, M') else (if M'.1 0 6 - 1 < 0 ∨ 150 ≤ (M'.1 0 6 - 1).toNatClampNeg then none else some (M'.2 6 (M'.1 0 6 - 1).toNatClampNeg, M'))) = some (wyN (mdl M r) (tkN M r), M')
    by_cases c : tkN M r = 0
    · rw [e1, c]; rfl
    · obtain ⟨T, hT2⟩ : ∃ T, tkN M r = T + 1 := ⟨tkN M r - 1, by omega⟩
      rw [hT2] at e1 e4 ⊢
      rw [e1, if_neg (nI_ne0 (by omega) (by omega)), nI_pred, if_neg (nI_in (N := 150) (by omega) (by omega)), nI_clamp (by omega), e4.1 T (by omega)]
  · show some (M'.1 0 9, M') = some (nI (jN M r), M')
    rw [e3]
    rfl
theorem match_val (nF : Nat) (hF : 1000 ≤ nF) {S M : PS} {r : Nat} (hr : r < 2) (hI : Inv S M) : ∃ M', fX10_match nF M (nI r) = some (nI (cstM M r (nBk M) (jN M r)), M') ∧ keepM M M' := by
  obtain ⟨M', m1, m2, m3, m4, m5⟩ := mt_M nF hF hr hI
  have hn := hI.2.2.2.1.nat
  have hJ := jN_le M r
  refine ⟨M', ?_, m2.keep⟩
  rw [fX10_match, if_neg (isRun_M M hr), m1, Option.bind_some, m2.1 0 12 (by decide), hn.2.2.2.1, m3.2.2.1, ix61, show jnN (wl M r) (tkN M r) = jN M r from rfl, if_neg (nI_in (N := 2501) (by omega) (by omega)), nI_clamp (by omega), m4 _ (Nat.le_refl _) _ (Nat.le_refl _)]
theorem dg_facts (nF : Nat) (hF : 1000 ≤ nF) {S S1 M0 : PS} {r : Nat} (hr : r < 2) (hI : Inv S M0) (hf : FeltC S1 M0 r) (k33 : PS → Int64 → Int32 → Option (Int64 × PS)) : ∀ (d fl w : Nat) (h : Int64) (M : PS), w + d = 4 → d < fl → keepM M0 M → (d = 0 → FeltM M M0 r) → ∃ (H : Int64) (M' : PS), LX9_digestOfRun_10 nF fl S1 (1 + r) h (nI w) = BX9_digestOfRun_38 nF S1 (1 + r) H ∧ LX10_digest_41 nF k33 fl M h (nI r) (nI w) = BX10_digest_68 nF k33 M' H (nI r) ∧ keepM M0 M' ∧ FeltM M' M0 r := by
  intro d
  induction d with
  | zero =>
    intro fl w h M e1 e2 hk hfm
    obtain ⟨fl, rfl⟩ : ∃ m, fl = m + 1 := ⟨fl - 1, by omega⟩
    obtain rfl : w = 4 := by omega
    exact ⟨h, M, by rw [LX9_digestOfRun_10, if_pos (by decide)], by rw [LX10_digest_41, if_pos (by decide)], hk, hfm rfl⟩
  | succ d ih =>
    intro fl w h M e1 e2 hk hfm
    obtain ⟨fl, rfl⟩ : ∃ m, fl = m + 1 := ⟨fl - 1, by omega⟩
    obtain ⟨M1, a1, a2, a3⟩ := run_M nF hF hr (hI.keep keepC.rfl' hk).1 (show w < 4 by omega)
    obtain ⟨H, M', b1, b2, b3, b4⟩ := ih fl (w + 1) ((31 * h) + (factN M0 r w).toInt64) M1 (by omega) (by omega) (hk.trans a2.keep) (fun _ => FeltM_same hk a3)
    refine ⟨H, M', ?_, ?_, b3, b4⟩
    · rw [LX9_digestOfRun_10, if_neg (show ¬ (3 : Int32) < nI w from nI_nlt (b := w) (a := 3) (by omega) (by omega)), fact_C nF hr hI.1 hf (by omega), Option.bind_some, nI_1]
      exact b1
    · rw [LX10_digest_41, if_neg (show ¬ (4 : Int32) ≤ nI w from nI_ge (b := 4) (by omega) (by omega)), a1, Option.bind_some, nI_1]
      dsimp only
      rw [factN_same hk]
      exact b2
theorem dg_lens (nF : Nat) {S1 M M0 : PS} {r : Nat} (hf : FeltC S1 M0 r) (hm : FeltM M M0 r) (k33 : PS → Int64 → Int32 → Option (Int64 × PS)) : ∀ (d fl j : Nat) (h : Int64), j + d = jN M0 r → d < fl → ∃ H : Int64, LX9_digestOfRun_41 nF fl S1 (1 + r) h (nI j) = BX9_digestOfRun_73 nF S1 (1 + r) H ∧ LX10_digest_71 nF k33 fl M h (nI r) (nI j) = BX10_digest_101 nF k33 M H (nI r) := by
  have hJ := jN_le M0 r
  have e1 : S1.1 (1 + r) 11 = nI (jN M0 r) := hf.2.2.1
  have e2 : M.1 0 9 = nI (jN M0 r) := hm.2.2.1
  intro d
  induction d with
  | zero =>
    intro fl j h q1 q2
    obtain ⟨fl, rfl⟩ : ∃ m, fl = m + 1 := ⟨fl - 1, by omega⟩
    exact ⟨h, by rw [LX9_digestOfRun_41, if_pos (by rw [e1]; exact nI_le (by omega) (by omega))], by rw [LX10_digest_71, if_pos (by rw [e2]; exact nI_le (by omega) (by omega))]⟩
  | succ d ih =>
    intro fl j h q1 q2
    obtain ⟨fl, rfl⟩ : ∃ m, fl = m + 1 := ⟨fl - 1, by omega⟩
    have hj : j < jN M0 r := by omega
    obtain ⟨H, b1, b2⟩ := ih fl (j + 1) ((31 * h) + (jlN (mdl M0 r) (wl M0 r) (tkN M0 r) j).toInt64) (by omega) (by omega)
    refine ⟨H, ?_, ?_⟩
    · rw [LX9_digestOfRun_41, if_neg (by rw [e1]; exact nI_ge (by omega) (by omega)), if_neg (nI_in (N := 60) (by omega) (by omega)), nI_clamp (by omega), nI_1, show 1 + r + 36 = 37 + r by omega, (hf.2.2.2.2 j hj).2]
      exact b1
    · rw [LX10_digest_71, if_neg (by rw [e2]; exact nI_ge (by omega) (by omega)), if_neg (nI_in (N := 60) (by omega) (by omega)), nI_clamp (by omega), nI_1, (hm.2.2.2.2 j hj).2]
      exact b2
theorem about_val (nF : Nat) (hF : 1000 ≤ nF) {S2 S3 M : PS} {r m w : Nat} (hr : r < 2) (hI : Inv S2 M) (hp : fX3_putTogether nF S2 (19 + r) (S2.1 0 7) (S2.1 0 8) = some S3) (hf : FeltC S3 M r) (hK3 : IK S3 M) (hm : m < nMk M r) (hw : w < 6) : ∃ (x : Int32) (M' : PS), fX6_markFact nF S3 (1 + r) (nI m) (nI w) = some x ∧ fX10_about nF M (nI r) (nI m) (nI w) = some (x, M') ∧ keepM M M' := by
  obtain ⟨n1, n2, n3, n4⟩ := hK3.nat hr
  obtain ⟨b1, b2, b3, b4, b5, b6, b7, b8⟩ := n4 m hm
  have gm := nI_in (c := m) (N := 40) (by omega) (by omega)
  have g80 := nI_in (c := 40 * r + m) (N := 80) (by omega) (by omega)
  have hcl : (nI m).toNatClampNeg = m := nI_clamp (by omega)
  have hcl2 : (nI (40 * r + m)).toNatClampNeg = 40 * r + m := nI_clamp (by omega)
  have h10 : ¬ (1 : Int32) = 0 := by decide
  have i3 : fX10_isMark nF M (nI r) (nI m) = some 1 := by
    rcases hasMark_C nF hr hI (nI m) with ⟨i1, i2⟩ | ⟨m', hm', e, i3, i4⟩
    · exfalso
      rw [fX3_hasMark, (hI.2.2.2.2.1.nat hr).2.2.1, if_neg (nI_pos (by omega)), if_neg (nI_ge hm (by omega))] at i2
      exact absurd i2 (by decide)
    · exact i3
  have hM : ∀ z : Option (Int32 × PS), (if (nI w).toInt < 0 ∨ 5 < (nI w).toInt then (some ((-2 : Int32), M)) else if nI w = 0 then (some ((M.2 13 (40 * r + m)), M)) else if nI w = 1 then (some ((M.2 14 (40 * r + m)), M)) else if nI w = 2 then (some ((M.2 15 (40 * r + m)), M)) else if nI w = 3 then (some ((M.2 16 (40 * r + m)), M)) else if nI w = 4 then ((fX10_goThrough nF M (nI r)).bind fun r1 => ((fX10_jointAt nF r1 (r1.2 13 (40 * r + m))).bind fun r2 => (some (r2, r1)))) else ((fX10_joinMarks nF M (nI r)).bind fun r3 => (some ((r3.2 17 m), r3)))) = z → fX10_about nF M (nI r) (nI m) (nI w) = z := by
    intro z h
    rw [fX10_about, i3, Option.bind_some, if_neg h10, ix40, hcl2, hcl]
    simp only [if_neg g80, if_neg gm, if_neg (show ¬ (nI (40 * r + m) < 0 ∨ 80 ≤ 40 * r + m) from fun q => q.elim (nI_pos (by omega)) (by omega)), if_neg (show ¬ (nI m < 0 ∨ 40 ≤ m) from fun q => q.elim (nI_pos (by omega)) (by omega))]
    exact h
  have hF0 : ∀ (x : Int32) (v : Int32), ¬ v = 4 → fX3_fact nF S3 (19 + r) (nI m) v = some x → fX6_markFact nF S3 (1 + r) (nI m) v = some x := by
    intro x v h4 h
    rw [fX6_markFact, if_neg h4, show 1 + r + 18 = 19 + r by omega, h]
    rfl
  rcases (show w = 0 ∨ w = 1 ∨ w = 2 ∨ w = 3 ∨ w = 4 ∨ w = 5 by omega) with rfl | rfl | rfl | rfl | rfl | rfl
  · refine ⟨M.2 13 (40 * r + m), M, hF0 _ _ (by decide) ?_, hM _ rfl, keepM.rfl'⟩
    show (if nI m < 0 ∨ 40 ≤ (nI m).toNatClampNeg then none else some (S3.2 (19 + r + 2) (nI m).toNatClampNeg)) = _
    rw [if_neg gm, hcl, show 19 + r + 2 = 21 + r by omega, b1]
  · refine ⟨M.2 14 (40 * r + m), M, hF0 _ _ (by decide) ?_, hM _ rfl, keepM.rfl'⟩
    show (if nI m < 0 ∨ 40 ≤ (nI m).toNatClampNeg then none else some (S3.2 (19 + r + 4) (nI m).toNatClampNeg)) = _
    rw [if_neg gm, hcl, show 19 + r + 4 = 23 + r by omega, b2]
  · refine ⟨M.2 15 (40 * r + m), M, hF0 _ _ (by decide) ?_, hM _ rfl, keepM.rfl'⟩
    show (if nI m < 0 ∨ 40 ≤ (nI m).toNatClampNeg then none else some (S3.2 (19 + r + 6) (nI m).toNatClampNeg)) = _
    rw [if_neg gm, hcl, show 19 + r + 6 = 25 + r by omega, b3]
  · refine ⟨M.2 16 (40 * r + m), M, hF0 _ _ (by decide) ?_, hM _ rfl, keepM.rfl'⟩
    show (if nI m < 0 ∨ 40 ≤ (nI m).toNatClampNeg then none else some (S3.2 (19 + r + 8) (nI m).toNatClampNeg)) = _
    rw [if_neg gm, hcl, show 19 + r + 8 = 27 + r by omega, b4]
  · obtain ⟨M', m1, m2, m3⟩ := go_M nF hF hr hI.1
    have hw := way_nat hr hK3 hm
    refine ⟨ftAt M r (wayM M r m), M', ?_, hM _ ?_, m2.keep⟩
    · rw [fX6_markFact, if_pos (show nI 4 = 4 from rfl), if_neg gm, hcl, show 1 + r + 18 + 2 = 21 + r by omega, b1, hw.1, felt_C nF hF hr hI.1 hw.2 hf]
      rfl
    · show ((fX10_goThrough nF M (nI r)).bind fun r1 => ((fX10_jointAt nF r1 (r1.2 13 (40 * r + m))).bind fun r2 => (some (r2, r1)))) = _
      rw [m1, Option.bind_some, m2.2 13 (by decide), hw.1, felt_M nF hF hr hI.1 hw.2 m3]
      rfl
  · obtain ⟨S', M', G, s1, m1, s2, m2, s3, m3, g1, g2⟩ := groups_both nF hF hr hI
    have e : S3 = S' := Option.some.inj (hp.symm.trans s1)
    subst e
    refine ⟨M'.2 17 m, M', hF0 _ _ (by decide) ?_, hM _ ?_, m2.keep⟩
    · show (if nI m < 0 ∨ 40 ≤ (nI m).toNatClampNeg then none else some (S3.2 (19 + r + 10) (nI m).toNatClampNeg)) = _
      rw [if_neg gm, hcl, show 19 + r + 10 = 29 + r by omega, g2 m hm]
    · show ((fX10_joinMarks nF M (nI r)).bind fun r3 => (some ((r3.2 17 m), r3))) = _
      rw [m1]
      rfl
theorem nMk_same {M M' : PS} (h : keepM M M') (r : Nat) : nMk M' r = nMk M r := by unfold nMk; rw [h.2 12 (by decide)]
theorem dg_mark (nF : Nat) (hF : 1000 ≤ nF) {S2 S3 M0 : PS} {r m : Nat} (hr : r < 2) (hI : Inv S2 M0) (hp : fX3_putTogether nF S2 (19 + r) (S2.1 0 7) (S2.1 0 8) = some S3) (hf : FeltC S3 M0 r) (hK3 : Inv S3 M0) (hm : m < nMk M0 r) (k109 : PS → Nat → Int64 → Int32 → Option (Int64 × PS)) (k33 : PS → Int64 → Int32 → Option (Int64 × PS)) (k117 : PS → Int64 → Int32 → Int32 → Option (Int64 × PS)) : ∀ (d fl w : Nat) (h : Int64) (M : PS), w + d = 6 → d < fl → keepM M0 M → ∃ (H : Int64) (M' : PS), LX9_digestOfRun_124 nF k109 fl S3 (1 + r) h (nI m) (nI w) = k109 S3 (1 + r) H (nI (m + 1)) ∧ LX10_digest_131 nF k33 k117 fl M h (nI r) (nI m) (nI w) = k117 M' H (nI r) (nI (m + 1)) ∧ keepM M0 M' := by
  intro d
  induction d with
  | zero =>
    intro fl w h M e1 e2 hk
    obtain ⟨fl, rfl⟩ : ∃ m, fl = m + 1 := ⟨fl - 1, by omega⟩
    obtain rfl : w = 6 := by omega
    exact ⟨h, M, by rw [LX9_digestOfRun_124, if_pos (by decide), BX9_digestOfRun_154, nI_1], by rw [LX10_digest_131, if_pos (by decide), BX10_digest_161, nI_1], hk⟩
  | succ d ih =>
    intro fl w h M e1 e2 hk
    obtain ⟨fl, rfl⟩ : ∃ m, fl = m + 1 := ⟨fl - 1, by omega⟩
    obtain ⟨x, M1, a1, a2, a3⟩ := about_val nF hF (w := w) (m := m) hr (hI.keep keepC.rfl' hk) hp (FeltC_same hk hf) (hK3.keep keepC.rfl' hk).2.2.2.2.1 (by rw [nMk_same hk]; exact hm) (by omega)
    obtain ⟨H, M', b1, b2, b3⟩ := ih fl (w + 1) ((31 * h) + x.toInt64) M1 (by omega) (by omega) (hk.trans a3)
    refine ⟨H, M', ?_, ?_, b3⟩
    · rw [LX9_digestOfRun_124, if_neg (show ¬ (5 : Int32) < nI w from nI_nlt (b := w) (a := 5) (by omega) (by omega)), a1, Option.bind_some, nI_1]
      exact b1
    · rw [LX10_digest_131, if_neg (show ¬ (6 : Int32) ≤ nI w from nI_ge (b := 6) (by omega) (by omega)), a2, Option.bind_some, nI_1]
      exact b2
theorem dg_marks (nF : Nat) (hF : 1000 ≤ nF) {S2 S3 M0 : PS} {r : Nat} (hr : r < 2) (hI : Inv S2 M0) (hp : fX3_putTogether nF S2 (19 + r) (S2.1 0 7) (S2.1 0 8) = some S3) (hf : FeltC S3 M0 r) (hK3 : Inv S3 M0) (k33 : PS → Int64 → Int32 → Option (Int64 × PS)) : ∀ (d fl m : Nat) (h : Int64) (M : PS), m + d = nMk M0 r → d < fl → keepM M0 M → ∃ (H : Int64) (M' : PS), LX9_digestOfRun_109 nF fl S3 (1 + r) h (nI m) = some (H, S3) ∧ LX10_digest_117 nF k33 fl M h (nI r) (nI m) = k33 M' H (nI (r + 1)) ∧ keepM M0 M' := by
  obtain ⟨n1, n2, n3, n4⟩ := hK3.2.2.2.2.1.nat hr
  intro d
  induction d with
  | zero =>
    intro fl m h M e1 e2 hk
    obtain ⟨fl, rfl⟩ : ∃ m, fl = m + 1 := ⟨fl - 1, by omega⟩
    refine ⟨h, M, ?_, ?_, hk⟩
    · rw [LX9_digestOfRun_109, show 1 + r + 18 = 19 + r by omega, n3, if_pos (nI_le (by omega) (by omega))]
    · rw [LX10_digest_117, if_neg (nI_in (N := 2) (by omega) (by omega)), nI_clamp (n := r) (by omega), hk.2 12 (by decide), n2, if_pos (nI_le (by omega) (by omega)), BX10_digest_167, nI_1]
  | succ d ih =>
    intro fl m h M e1 e2 hk
    obtain ⟨fl, rfl⟩ : ∃ m, fl = m + 1 := ⟨fl - 1, by omega⟩
    obtain ⟨H1, M1, a1, a2, a3⟩ := dg_mark nF hF (m := m) hr hI hp hf hK3 (by omega) (LX9_digestOfRun_109 nF fl) k33 (LX10_digest_117 nF k33 fl) 6 nF 0 h M (by omega) (by omega) hk
    obtain ⟨H, M', b1, b2, b3⟩ := ih fl (m + 1) H1 M1 (by omega) (by omega) a3
    refine ⟨H, M', ?_, ?_, b3⟩
    · rw [LX9_digestOfRun_109, show 1 + r + 18 = 19 + r by omega, n3, if_neg (nI_ge (by omega) (by omega))]
      exact a1.trans b1
    · rw [LX10_digest_117, if_neg (nI_in (N := 2) (by omega) (by omega)), nI_clamp (n := r) (by omega), hk.2 12 (by decide), n2, if_neg (nI_ge (by omega) (by omega))]
      exact a2.trans b2
theorem dg_run (nF : Nat) (hF : 1000 ≤ nF) {S M : PS} {r : Nat} (hr : r < 2) (hI : Inv S M) (k33 : PS → Int64 → Int32 → Option (Int64 × PS)) (h : Int64) : ∃ (H : Int64) (S' M' : PS), fX9_digestOfRun nF S h (1 + r) = some (H, S') ∧ LX10_digest_41 nF k33 nF M h (nI r) 0 = k33 M' H (nI (r + 1)) ∧ keepC S S' ∧ keepM M M' := by
  obtain ⟨S1, s1, s2, s3⟩ := feel_C nF hF hr hI.1
  have k1 := s2.keep hr
  obtain ⟨H1, M1, a1, a2, a3, a4⟩ := dg_facts nF hF hr hI s3 k33 4 nF 0 h M (by omega) (by omega) keepM.rfl' (fun q => by omega)
  obtain ⟨H2, b1, b2⟩ := dg_lens nF s3 a4 k33 (jN M r) nF 0 H1 (by omega) (by have := jN_le M r; omega)
  have hI1 : Inv S1 M1 := hI.keep k1 a3
  obtain ⟨S2, c1, c2⟩ := fl_C nF hF hr hI1 (FeltC_same a3 s3)
  obtain ⟨M2, d1, d2⟩ := match_val nF hF hr hI1
  have hI2 : Inv S2 M2 := hI1.keep c2.keep d2
  obtain ⟨S3, M3, G, e1, _, e2, _⟩ := groups_both nF hF hr hI2
  have hI3 : Inv S3 M2 := hI2.keep (e2.keep hr) keepM.rfl'
  have f3 : FeltC S3 M2 r := by
    have := FeltC_same (a3.trans d2) s3
    unfold FeltC at this ⊢
    rw [e2.1 (1 + r) 9 (by omega), e2.1 (1 + r) 10 (by omega), e2.1 (1 + r) 11 (by omega), e2.2 (33 + r) (by omega) (by omega), e2.2 (35 + r) (by omega) (by omega), e2.2 (37 + r) (by omega) (by omega), c2.1, c2.2 (33 + r) (by omega), c2.2 (35 + r) (by omega), c2.2 (37 + r) (by omega)]
    exact this
  have n40 := (hI3.2.2.2.2.1.nat hr).1
  obtain ⟨H, M', g1, g2, g3⟩ := dg_marks nF hF hr hI2 e1 f3 hI3 k33 (nMk M2 r) nF 0 ((31 * H2) + (nI (cstM M1 r (nBk M1) (jN M1 r))).toInt64) M2 (by omega) (by omega) keepM.rfl'
  refine ⟨H, S3, M', ?_, ?_, (k1.trans c2.keep).trans (e2.keep hr), (a3.trans d2).trans g3⟩
  · rw [fX9_digestOfRun, s1, Option.bind_some]
    refine Eq.trans a1 (Eq.trans b1 ?_)
    rw [BX9_digestOfRun_73, c1, Option.bind_some]
    dsimp only
    rw [show 1 + r + 18 = 19 + r by omega, e1, Option.bind_some]
    exact g1
  · refine Eq.trans a2 (Eq.trans b2 ?_)
    rw [BX10_digest_101, d1, Option.bind_some]
    exact g2
theorem dg_counts (nF : Nat) {S M : PS} (hI : Inv S M) : ∀ (d fl w : Nat) (h : Int64), w + d = 6 → d < fl → ∃ H : Int64, LX9_digest_6 nF fl S h (nI w) = BX9_digest_30 nF S H ∧ LX10_digest_6 nF fl M h (nI w) = BX10_digest_31 nF M H := by
  intro d
  induction d with
  | zero =>
    intro fl w h e1 e2
    obtain ⟨fl, rfl⟩ : ∃ m, fl = m + 1 := ⟨fl - 1, by omega⟩
    obtain rfl : w = 6 := by omega
    exact ⟨h, by rw [LX9_digest_6, if_pos (by decide)], by rw [LX10_digest_6, if_pos (by decide)]⟩
  | succ d ih =>
    intro fl w h e1 e2
    obtain ⟨fl, rfl⟩ : ∃ m, fl = m + 1 := ⟨fl - 1, by omega⟩
    obtain ⟨x, S', M', ⟨c1, _⟩, ⟨c2, _⟩, _⟩ := sim_count_ok nF S M (nI w) hI
    obtain ⟨H, b1, b2⟩ := ih fl (w + 1) ((31 * h) + x.toInt64) (by omega) (by omega)
    refine ⟨H, ?_, ?_⟩
    · rw [LX9_digest_6, if_neg (show ¬ (5 : Int32) < nI w from nI_nlt (b := w) (a := 5) (by omega) (by omega)), c1, nI_1]
      exact b1
    · rw [LX10_digest_6, if_neg (show ¬ (6 : Int32) ≤ nI w from nI_ge (b := 6) (by omega) (by omega)), c2, Option.bind_some, nI_1]
      exact b2
theorem sim_digest_ok (nF : Nat) (hF : 1000 ≤ nF) : sim_digest nF Inv := by
  intro S M hI
  obtain ⟨H0, a1, a2⟩ := dg_counts nF hI 6 nF 0 17 (by omega) (by omega)
  obtain ⟨k, hk⟩ : ∃ k, nF = k + 3 := ⟨nF - 3, by omega⟩
  obtain ⟨H1, S1, M1, b1, b2, b3, b4⟩ := dg_run nF hF (r := 0) (by omega) hI (LX10_digest_33 nF (k + 2)) H0
  obtain ⟨H2, S2, M2, c1, c2, c3, c4⟩ := dg_run nF hF (r := 1) (by omega) (hI.keep b3 b4) (LX10_digest_33 nF (k + 1)) H1
  refine ⟨H2, S2, M2, ?_, ?_, hI.keep (b3.trans c3) (b4.trans c4)⟩
  · rw [fX9_digest]
    refine Eq.trans a1 ?_
    rw [BX9_digest_30, show fX9_digestOfRun nF S H0 1 = some (H1, S1) from b1, Option.bind_some]
    dsimp only
    rw [show fX9_digestOfRun nF S1 H1 2 = some (H2, S2) from c1]
    rfl
  · rw [fX10_digest]
    refine Eq.trans a2 ?_
    rw [BX10_digest_31, show LX10_digest_33 nF nF M H0 0 = LX10_digest_33 nF (k + 2 + 1) M H0 0 by rw [show k + 2 + 1 = nF by omega], LX10_digest_33, if_neg (by decide)]
    refine Eq.trans b2 ?_
    rw [LX10_digest_33, if_neg (show ¬ (2 : Int32) ≤ nI (0 + 1) by decide)]
    refine Eq.trans c2 ?_
    rw [LX10_digest_33, if_pos (show (2 : Int32) ≤ nI (1 + 1) by decide)]
