/-! pairing -/
theorem prt_cases (C P : Nat → Nat → Nat) (mi : Nat) : ∀ b f k, prtN C P mi b f k = -1 ∨ ∃ g, g < f ∧ prtN C P mi b f k = nI g
  | 0, f, k => Or.inl rfl
  | b + 1, f, k => by
    rw [prtN]
    have hl := lfN_le C P mi b f
    have ht := tbN_le C P mi b f
    by_cases e : k = b
    · rw [if_pos e]
      unfold tbN
      split
      · exact Or.inl rfl
      · rename_i g hg
        split
        · exact Or.inr ⟨g, by omega, rfl⟩
        · exact Or.inl rfl
    · rw [if_neg e]
      rcases prt_cases C P mi b (tbN C P mi b f).2 k with q | ⟨g, q1, q2⟩
      · exact Or.inl q
      · exact Or.inr ⟨g, by omega, q2⟩
theorem tb_top {C P : Nat → Nat → Nat} {mi b f g : Nat} (hg : g < 1000) (hf : f < 1000) (h : (tbN C P mi b f).1 = nI g) : (tbN C P mi b f).2 = g := by
  have hl := lfN_le C P mi b f
  unfold tbN at h ⊢
  split at h
  · exact absurd h.symm (nI_ne_m1 (by omega))
  · rename_i q hq
    split at h
    · rename_i c
      have : q = g := (nI_eq (by omega) (by omega)).mp h
      rw [if_pos c]
      exact this
    · exact absurd h.symm (nI_ne_m1 (by omega))
theorem prt_uniq {C P : Nat → Nat → Nat} {mi : Nat} : ∀ b f k k' g, f < 1000 → g < 1000 → k < b → k' < b → prtN C P mi b f k = nI g → prtN C P mi b f k' = nI g → k = k'
  | 0, f, k, k', g, _, _, h1, _, _, _ => absurd h1 (Nat.not_lt_zero _)
  | b + 1, f, k, k', g, hf, hg, h1, h2, h3, h4 => by
    have ht := tbN_le C P mi b f
    have key : ∀ x, ¬ x = b → (tbN C P mi b f).1 = nI g → prtN C P mi (b + 1) f x = nI g → False := by
      intro x hx e1 e2
      have e3 := tb_top hg hf e1
      rw [prtN, if_neg hx, e3] at e2
      rcases prt_cases C P mi b g x with q | ⟨y, q1, q2⟩
      · exact nI_ne_m1 (by omega) (e2.symm.trans q)
      · have := (nI_eq (by omega) (by omega)).mp (e2.symm.trans q2)
        omega
    by_cases e : k = b
    · by_cases e' : k' = b
      · rw [e, e']
      · rw [prtN, if_pos e] at h3
        exact (key k' e' h3 h4).elim
    · by_cases e' : k' = b
      · rw [prtN, if_pos e'] at h4
        exact (key k e h4 h3).elim
      · rw [prtN, if_neg e] at h3
        rw [prtN, if_neg e'] at h4
        exact prt_uniq b (tbN C P mi b f).2 k k' g (by omega) hg (by omega) (by omega) h3 h4
theorem par_cases (M : PS) (r k : Nat) : parM M r k = -1 ∨ ∃ f, f < jN M r ∧ parM M r k = nI f := prt_cases _ _ _ _ _ _
theorem par_uniq {M : PS} {r k k' f : Nat} (hf : f < 1000) (h1 : k < nBk M) (h2 : k' < nBk M) (h3 : parM M r k = nI f) (h4 : parM M r k' = nI f) : k = k' := prt_uniq _ _ _ _ f (by have := jN_le M r; omega) hf h1 h2 h3 h4
def alN (M : PS) : Nat := (M.1 0 27).toNatClampNeg
theorem IN.al {S M : PS} (h : IN S M) : alN M ≤ 100000 ∧ M.1 0 27 = nI (alN M) ∧ S.1 44 3 = nI (alN M) := by
  obtain ⟨_, _, _, _, _, h6, h7⟩ := h
  have e : M.1 0 27 = nI (alN M) := nI_of_btw h7
  exact ⟨by unfold alN; have := clamp_toInt h7.1; have := h7.2; omega, e, h6.trans e⟩
def prG (M : PS) (p0 p1 : Int32) (i k : Nat) : Nat := dst (dG M 0 p0 i) (dG M 1 p1 k) + 100 * (fX10_hours M (ckG M 0 p0 i) (ckG M 1 p1 k)).toNatClampNeg
theorem hours_nat (M : PS) {x y : Int32} (hx : btw x 0 11) (hy : btw y 0 11) : fX10_hours M x y = nI (fX10_hours M x y).toNatClampNeg ∧ (fX10_hours M x y).toNatClampNeg ≤ 6 := by
  have h : ∀ c, c < 12 → ∀ d, d < 12 → fX10_hours (fun _ _ => 0, fun _ _ => 0) (nI c) (nI d) = nI (fX10_hours (fun _ _ => 0, fun _ _ => 0) (nI c) (nI d)).toNatClampNeg ∧ (fX10_hours (fun _ _ => 0, fun _ _ => 0) (nI c) (nI d)).toNatClampNeg ≤ 6 := by decide +kernel
  have a := clamp_toInt hx.1
  have b := clamp_toInt hy.1
  have := hx.2
  have := hy.2
  rw [nI_of_btw hx, nI_of_btw hy]
  exact h _ (by omega) _ (by omega)
theorem dG_le {S M : PS} {r i : Nat} {p : Int32} (hr : r < 2) (hK : IK S M) (h : i < nG M r p) : dG M r p i ≤ 4000000 := by
  have := (way_nat hr hK (gmG_lt h)).2
  unfold dG
  omega
theorem ck_btw {S M : PS} {r i : Nat} {p : Int32} (hr : r < 2) (hK : IK S M) (h : i < nG M r p) : btw (ckG M r p i) 0 11 := ((hK.nat hr).2.2.2 _ (gmG_lt h)).2.2.2.2.2.1
theorem prG_le {S M : PS} {i k : Nat} {p0 p1 : Int32} (hK : IK S M) (h0 : i < nG M 0 p0) (h1 : k < nG M 1 p1) : prG M p0 p1 i k ≤ 4600000 := by
  have a := dG_le (by omega) hK h0
  have b := dG_le (by omega) hK h1
  have c := (hours_nat M (ck_btw (by omega) hK h0) (ck_btw (by omega) hK h1)).2
  unfold prG dst
  omega
theorem gat_M (nF : Nat) (hF : 1000 ≤ nF) {S M : PS} {j : Nat} (hI : Inv S M) (hj : j < nBk M) : ∃ M', fX10_gather nF M (nI j) = some M' ∧ keepM M M' ∧ dataM M' (nG M 0 (parM M 0 j)) (nG M 1 (parM M 1 j)) (alN M) (prG M (parM M 0 j) (parM M 1 j)) (gmG M 0 (parM M 0 j)) (gmG M 1 (parM M 1 j)) := by
  have hn := hI.2.2.2.1.nat
  have hK := hI.2.2.2.2.1
  obtain ⟨k, rfl⟩ : ∃ k, nF = k + 3 := ⟨nF - 3, by omega⟩
  have kA : keepM M (sta M 18 0 0) := ⟨fun _ _ => rfl, fun a q => sta_ne (by omega)⟩
  obtain ⟨M1, a1, a2, a3, a4, a5⟩ := mt_M (k + 3) hF (r := 0) (by omega) (hI.keep keepC.rfl' kA)
  have k1 : keepM M M1 := kA.trans a2.keep
  have hp0 : M1.2 11 j = parM M 0 j := by rw [a5 j (by rw [nBk_same kA]; exact hj), parM_same kA]
  obtain ⟨M2, b1, b2, b3, b4⟩ := gather_M (k + 3) hF (M0 := M) (S0 := S) (M := M1) (r := 0) (p := parM M 0 j) (v1 := nI j) (LX10_gather_2 (k + 3) (k + 2)) (by omega) hI.1 hK (FeltM_same kA a3) (k1.2 12 (by decide)) (k1.2 13 (by decide)) (by rw [a2.2 18 (by decide)]; exact sta_eq) (par_cases M 0 j)
  have k2 : keepM M M2 := k1.trans b2.keep
  have kB : keepM M2 (sta M2 18 1 0) := ⟨fun _ _ => rfl, fun a q => sta_ne (by omega)⟩
  have k2B := k2.trans kB
  obtain ⟨M3, c1, c2, c3, c4, c5⟩ := mt_M (k + 3) hF (r := 1) (by omega) (hI.keep keepC.rfl' k2B)
  have k3 : keepM M M3 := k2B.trans c2.keep
  have hp1 : M3.2 11 j = parM M 1 j := by rw [c5 j (by rw [nBk_same k2B]; exact hj), parM_same k2B]
  obtain ⟨M4, d1, d2, d3, d4⟩ := gather_M (k + 3) hF (M0 := M) (S0 := S) (M := M3) (r := 1) (p := parM M 1 j) (v1 := nI j) (LX10_gather_2 (k + 3) (k + 1)) (by omega) hI.1 hK (FeltM_same k2B c3) (k3.2 12 (by decide)) (k3.2 13 (by decide)) (by rw [c2.2 18 (by decide)]; exact sta_eq) (par_cases M 1 j)
  have k4 : keepM M M4 := k3.trans d2.keep
  refine ⟨M4, ?_, k4, ?_⟩
  · have e1 : fX10_gather (k + 3) M (nI j) = LX10_gather_2 (k + 3) (k + 2) M2 (nI j) (nI 1) := by
      rw [fX10_gather, LX10_gather_2, if_neg (by decide), if_neg (show ¬ ((0 : Int32) < 0 ∨ 2 ≤ (0 : Int32).toNatClampNeg) by decide), show (0 : Int32).toNatClampNeg = 0 from rfl]
      rw [show fX10_matches (k + 3) (sta M 18 0 0) 0 = some M1 from a1, Option.bind_some, if_neg (nI_in (N := 40) (by omega) (by omega)), nI_clamp (by omega), hp0]
      exact b1
    have e2 : LX10_gather_2 (k + 3) (k + 2) M2 (nI j) (nI 1) = LX10_gather_2 (k + 3) (k + 1) M4 (nI j) (nI 2) := by
      rw [LX10_gather_2, if_neg (show ¬ (2 : Int32) ≤ nI 1 by decide), if_neg (nI_in (N := 2) (by omega) (by omega)), nI_clamp (n := 1) (by omega), c1, Option.bind_some, if_neg (nI_in (N := 40) (by omega) (by omega)), nI_clamp (by omega), hp1]
      exact d1
    rw [e1, e2, LX10_gather_2, if_pos (show (2 : Int32) ≤ nI 2 by decide)]
  · have ha := hI.2.1.al
    have r18 : M4.2 18 0 = nI (nG M 0 (parM M 0 j)) := by
      rw [d2.2.2.1 0 (by omega), c2.2 18 (by decide), sta_ne2 (by omega)]
      exact b3
    have r19 : ∀ i, i < nG M 0 (parM M 0 j) → M4.2 19 i = nI (gmG M 0 (parM M 0 j) i) ∧ M4.2 20 i = nI (dG M 0 (parM M 0 j) i) := by
      intro i hi
      have hle := nG_le M 0 (parM M 0 j)
      have := b4 i hi
      rw [Nat.mul_zero, Nat.zero_add] at this
      have q := d2.2.2.2 i (by omega)
      rw [q.1, q.2, c2.2 19 (by decide), c2.2 20 (by decide), sta_ne (a := 19) (by decide), sta_ne (a := 20) (by decide)]
      exact this
    have n40 : ∀ r i p, r < 2 → i < nG M r p → gmG M r p i < 40 := fun r i p hr hi => by
      have := gmG_lt hi
      have := (hK.nat hr).1
      omega
    refine ⟨nG_le _ _ _, nG_le _ _ _, ha.1, r18, d3, by rw [k4.1 27 (by decide)]; exact ha.2.1, fun i hi => ⟨(r19 i hi).1, n40 0 i _ (by omega) hi⟩, fun i hi => ⟨?_, n40 1 i _ (by omega) hi⟩, fun i k' hi hk' => ⟨prG_le hK hi hk', ?_⟩⟩
    · exact (d4 i hi).1
    · have e20 : M4.2 20 (5 + k') = nI (dG M 1 (parM M 1 j) k') := (d4 k' hk').2
      have a1 := dG_le (r := 0) (by omega) hK hi
      have a2 := dG_le (r := 1) (by omega) hK hk'
      have hh := hours_nat M (ck_btw (r := 0) (by omega) hK hi) (ck_btw (r := 1) (by omega) hK hk')
      have c0 : M.2 14 (gmG M 0 (parM M 0 j) i) = ckG M 0 (parM M 0 j) i := by unfold ckG; rw [Nat.mul_zero, Nat.zero_add]
      have c1 : M.2 14 (40 + gmG M 1 (parM M 1 j) k') = ckG M 1 (parM M 1 j) k' := rfl
      rw [(r19 i hi).2, e20, apart_I M4 (by omega) (by omega), k4.2 14 (by decide), c0, c1, show fX10_hours M4 (ckG M 0 (parM M 0 j) i) (ckG M 1 (parM M 1 j) k') = fX10_hours M (ckG M 0 (parM M 0 j) i) (ckG M 1 (parM M 1 j) k') from rfl, hh.1, show (100 : Int32) = nI 100 from rfl, pk_mul, nI_add]
      rfl
theorem both_C (nF : Nat) (hF : 1000 ≤ nF) {S M : PS} (hI : Inv S M) : ∃ S', fX9_matchBothRuns nF S = some S' ∧ keepC S S' ∧ FeltC S' M 0 ∧ FeltC S' M 1 ∧ (∀ k, k < nBk M → S'.2 39 k = parM M 0 k) ∧ (∀ k, k < nBk M → S'.2 40 k = parM M 1 k) := by
  obtain ⟨S1, S2, a1, a2, a3, a4, a5⟩ := fp_C nF hF (r := 0) (by omega) hI
  have k2 := a3.keep (by omega)
  obtain ⟨S3, S4, b1, b2, b3, b4, b5⟩ := fp_C nF hF (r := 1) (by omega) (hI.keep k2 keepM.rfl')
  refine ⟨S4, ?_, k2.trans (b3.keep (by omega)), ?_, b4, fun k hk => ?_, fun k hk => b5 k hk⟩
  · rw [fX9_matchBothRuns, show fX6_feel nF S 1 = some S1 from a1, Option.bind_some, show fX0_pairUp nF S1 1 = some S2 from a2, Option.bind_some, show fX6_feel nF S2 2 = some S3 from b1, Option.bind_some, show fX0_pairUp nF S3 2 = some S4 from b2]
    rfl
  · unfold FeltC at a4 ⊢
    rw [b3.1 _ _ (by omega), b3.1 _ _ (by omega), b3.1 _ _ (by omega), b3.2 (33 + 0) (by omega), b3.2 (35 + 0) (by omega), b3.2 (37 + 0) (by omega)]
    exact a4
  · rw [b3.2 39 (by omega)]
    exact a5 k hk
theorem pl_C (nF : Nat) (hF : 1000 ≤ nF) {S M : PS} {p0 p1 : Int32} (hI : Inv S M) (f0 : FeltC S M 0) (f1 : FeltC S M 1) (h0 : p0 = -1 ∨ ∃ f, f < jN M 0 ∧ p0 = nI f) (h1 : p1 = -1 ∨ ∃ f, f < jN M 1 ∧ p1 = nI f) : ∃ S', fX4_leastCost nF S 1 p0 2 p1 = some (nI (bst (prG M p0 p1) (nG M 1 p1) (alN M) (nG M 0 p0) 0 0).1, S') ∧ keepC S S' ∧ dataC S' (nG M 0 p0) (nG M 1 p1) (alN M) (prG M p0 p1) ∧ tabP S' (nG M 0 p0) (nG M 1 p1) (alN M) (prG M p0 p1) 0 ∧ (∀ i, i < nG M 0 p0 → S'.2 48 i = nI (gmG M 0 p0 i) ∧ gmG M 0 p0 i < 40) ∧ (∀ k, k < nG M 1 p1 → S'.2 49 k = nI (gmG M 1 p1 k)) := by
  have hK := hI.2.2.2.2.1
  have ha := hI.2.1.al
  obtain ⟨S1, a1, a2, a3, a4⟩ := gather_C nF hF (S0 := S) (r := 0) (by omega) hI.1 f0 hK h0
  have kA := a2.keep (by omega)
  obtain ⟨S2, b1, b2, b3, b4⟩ := gather_C nF hF (S0 := S) (S := S1) (r := 1) (by omega) hI.1 (f1.ga (by omega) (by omega) a2) (hK.ga (by omega) a2) h1
  have kB := kA.trans (b2.keep (by omega))
  have s45 : S2.1 45 3 = nI (nG M 0 p0) := by rw [b2.1 45 3 (by omega)]; exact a3
  have row : ∀ i, i < nG M 0 p0 → S2.2 48 i = nI (gmG M 0 p0 i) ∧ S2.2 50 i = nI (dG M 0 p0 i) ∧ S2.2 52 i = ckG M 0 p0 i := fun i hi => by
    rw [b2.2 48 (by omega), b2.2 50 (by omega), b2.2 52 (by omega)]
    exact a4 i hi
  have hd : dataC S2 (nG M 0 p0) (nG M 1 p1) (alN M) (prG M p0 p1) := by
    refine ⟨nG_le _ _ _, nG_le _ _ _, ha.1, s45, b3, by rw [kB.1 44 3 (by decide)]; exact ha.2.2, fun i k hi hk => ⟨prG_le hK hi hk, ?_⟩⟩
    have e51 : S2.2 51 k = nI (dG M 1 p1 k) := (b4 k hk).2.1
    have e53 : S2.2 53 k = ckG M 1 p1 k := (b4 k hk).2.2
    have q1 := dG_le (r := 0) (by omega) hK hi
    have q2 := dG_le (r := 1) (by omega) hK hk
    have hh := hours_nat M (ck_btw (r := 0) (by omega) hK hi) (ck_btw (r := 1) (by omega) hK hk)
    rw [(row i hi).2.1, (row i hi).2.2, e51, e53, abs_I (by omega) (by omega), hours_btw S2 M (ck_btw (r := 0) (by omega) hK hi) (ck_btw (r := 1) (by omega) hK hk), hh.1, show (100 : Int32) = nI 100 from rfl, pk_mul, nI_add]
    rfl
  obtain ⟨S', c1, c2, c3⟩ := table_C nF hF hd
  have kC : keepC S2 S' := ⟨fun a b _ => by rw [c2.1], fun a q => c2.2 a (by omega)⟩
  refine ⟨S', ?_, kB.trans kC, hd.fr c2, c3, fun i hi => ⟨by rw [c2.2 48 (by decide)]; exact (row i hi).1, ?_⟩, fun k hk => by rw [c2.2 49 (by decide)]; exact (b4 k hk).1⟩
  · rw [fX4_leastCost, show fX2_gather nF S 45 1 p0 = some S1 from a1, Option.bind_some, show fX2_gather nF S1 46 2 p1 = some S2 from b1, Option.bind_some]
    exact c1
  · have := gmG_lt hi
    have := (hK.nat (r := 0) (by omega)).1
    omega
theorem sim_pairing_ok (nF : Nat) (hF : 10000 ≤ nF) : sim_pairing nF Inv := by
  intro S M a1 hI
  have hn := hI.2.2.2.1.nat
  rcases hasJoint_C hI a1 with ⟨i1, i2⟩ | ⟨j, hj, rfl, i3, i4⟩
  · exact ⟨-2, S, M, by rw [fX9_pairing, if_pos i2], by rw [fX10_pairing, if_pos i1], hI⟩
  obtain ⟨S1, s1, s2, s3, s4, s5, s6⟩ := both_C nF (by omega) hI
  have hI1 := hI.keep s2 keepM.rfl'
  obtain ⟨S', t1, t2, t3, t4, t5, t6⟩ := pl_C nF (by omega) hI1 s3 s4 (par_cases M 0 j) (par_cases M 1 j)
  obtain ⟨M1, m1, m2, m3⟩ := gat_M nF (by omega) hI hj
  obtain ⟨M', e1, e2, e3⟩ := enum_M nF hF m3
  have kE : keepM M1 M' := ⟨fun b _ => by rw [e2.1], fun a q => e2.2 a (by omega) (by omega)⟩
  refine ⟨nI (bst (prG M (parM M 0 j) (parM M 1 j)) (nG M 1 (parM M 1 j)) (alN M) (nG M 0 (parM M 0 j)) 0 0).1, S', M', ?_, ?_, hI.keep (s2.trans t2) (m2.trans kE)⟩
  · rw [fX9_pairing, if_neg i4, s1, Option.bind_some, if_neg (nI_in (N := 40) (by omega) (by omega)), nI_clamp (by omega), s5 j hj, s6 j hj, t1]
    rfl
  · rw [fX10_pairing, if_neg i3, fX10_pairs, m1, Option.bind_some, e1]
    rfl
