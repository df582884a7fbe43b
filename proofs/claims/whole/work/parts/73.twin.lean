/-! twin -/
theorem dig_le (pr : Nat → Nat → Nat) (n1 al : Nat) : ∀ j lv t q, q < j → (bst pr n1 al j lv t).2 q ≤ n1
  | 0, lv, t, q, h => absurd h (Nat.not_lt_zero _)
  | j + 1, lv, t, q, h => by
    rcases bst_dig pr n1 al j lv t with ⟨_, q2, _⟩ | ⟨k, q0, _, _, q2, _⟩
    · rw [q2]
      cases q with
      | zero => exact Nat.le_refl _
      | succ q => exact dig_le pr n1 al j (lv + 1) t q (by omega)
    · rw [q2]
      cases q with
      | zero => exact Nat.le_of_lt q0
      | succ q => exact dig_le pr n1 al j (lv + 1) _ q (by omega)
theorem oth_cases {g0 g1 : Nat → Nat} {n1 m : Nat} : ∀ (j i : Nat) (f : Nat → Nat), (∀ q, q < j → f q ≤ n1) → othN g0 g1 n1 m j i f = -1 ∨ ∃ k, k < n1 ∧ othN g0 g1 n1 m j i f = nI (g1 k)
  | 0, i, f, h => Or.inl rfl
  | j + 1, i, f, h => by
    rw [othN]
    by_cases e : g0 i = m
    · rw [if_pos e]
      by_cases e2 : f 0 = n1
      · rw [if_pos e2]; exact Or.inl rfl
      · rw [if_neg e2]
        have := h 0 (by omega)
        exact Or.inr ⟨f 0, by omega, rfl⟩
    · rw [if_neg e]
      exact oth_cases j (i + 1) _ (fun q hq => h (q + 1) (by omega))
theorem FeltM_same' {M0 M M' : PS} {r : Nat} (h : keepM M0 M) (hf : FeltM M' M0 r) : FeltM M' M r := by
  unfold FeltM at hf ⊢
  rw [wl_same h.same, tkN_same h.same, mdl_same h.same]
  exact hf
theorem jp_none (nF : Nat) {S : PS} {n : Nat} {p : Int32} (hn : n ≤ 40) (h2 : S.1 41 2 = nI n) (hp : p = -1 ∨ ∀ k, k < n → ¬ S.2 39 k = p) : ∀ (d fl k : Nat), k + d = n → d < fl → LX0_jointPairedWith_2 nF fl S 1 p (nI k) = some (-1) := by
  intro d
  induction d with
  | zero =>
    intro fl k e1 e2
    obtain ⟨fl, rfl⟩ : ∃ m, fl = m + 1 := ⟨fl - 1, by omega⟩
    rw [LX0_jointPairedWith_2, if_pos (by rw [h2]; exact nI_le (by omega) (by omega))]
  | succ d ih =>
    intro fl k e1 e2
    obtain ⟨fl, rfl⟩ : ∃ m, fl = m + 1 := ⟨fl - 1, by omega⟩
    rw [LX0_jointPairedWith_2, if_neg (by rw [h2]; exact nI_ge (by omega) (by omega))]
    by_cases e : p = -1
    · rw [if_pos e]
    · rcases hp with q | q
      · exact absurd q e
      · rw [if_neg e, if_neg (nI_in (N := 40) (by omega) (by omega)), nI_clamp (by omega), nI_1]
        show (if S.2 39 k = p then _ else _) = _
        rw [if_neg (q k (by omega))]
        exact ih fl (k + 1) (by omega) (by omega)
theorem jp_some (nF : Nat) {S : PS} {n k0 : Nat} {p : Int32} (hn : n ≤ 40) (h2 : S.1 41 2 = nI n) (hp : ¬ p = -1) (hk : k0 < n) (h3 : S.2 39 k0 = p) (hu : ∀ k, k < n → S.2 39 k = p → k = k0) : ∀ (d fl k : Nat), k + d = k0 → d < fl → LX0_jointPairedWith_2 nF fl S 1 p (nI k) = some (nI k0) := by
  intro d
  induction d with
  | zero =>
    intro fl k e1 e2
    obtain ⟨fl, rfl⟩ : ∃ m, fl = m + 1 := ⟨fl - 1, by omega⟩
    obtain rfl : k = k0 := by omega
    rw [LX0_jointPairedWith_2, if_neg (by rw [h2]; exact nI_ge (by omega) (by omega)), if_neg hp, if_neg (nI_in (N := 40) (by omega) (by omega)), nI_clamp (by omega)]
    exact if_pos h3
  | succ d ih =>
    intro fl k e1 e2
    obtain ⟨fl, rfl⟩ : ∃ m, fl = m + 1 := ⟨fl - 1, by omega⟩
    rw [LX0_jointPairedWith_2, if_neg (by rw [h2]; exact nI_ge (by omega) (by omega)), if_neg hp, if_neg (nI_in (N := 40) (by omega) (by omega)), nI_clamp (by omega), nI_1]
    show (if S.2 39 k = p then _ else _) = _
    rw [if_neg (fun q => by have := hu k (by omega) q; omega)]
    exact ih fl (k + 1) (by omega) (by omega)
theorem tw_none (nF : Nat) {M : PS} {n : Nat} {p v1 v3 : Int32} (hn : n ≤ 40) (h2 : M.1 0 12 = nI n) : ∀ (d fl k : Nat), k + d = n → d < fl → (p = -1 ∨ ∀ k', k ≤ k' → k' < n → ¬ M.2 11 k' = p) → LX10_twinOf_21 nF fl M v1 p v3 (nI k) = BX10_twinOf_59 nF M v1 v3 := by
  intro d
  induction d with
  | zero =>
    intro fl k e1 e2 hp
    obtain ⟨fl, rfl⟩ : ∃ m, fl = m + 1 := ⟨fl - 1, by omega⟩
    rw [LX10_twinOf_21, if_pos (by rw [h2]; exact nI_le (by omega) (by omega))]
  | succ d ih =>
    intro fl k e1 e2 hp
    obtain ⟨fl, rfl⟩ : ∃ m, fl = m + 1 := ⟨fl - 1, by omega⟩
    rw [LX10_twinOf_21, if_neg (by rw [h2]; exact nI_ge (by omega) (by omega)), nI_1]
    by_cases e : p = -1
    · rw [if_pos e]
      exact ih fl (k + 1) (by omega) (by omega) (Or.inl e)
    · rcases hp with q | q
      · exact absurd q e
      · rw [if_neg e, if_neg (nI_in (N := 40) (by omega) (by omega)), nI_clamp (by omega), if_neg (q k (Nat.le_refl _) (by omega))]
        exact ih fl (k + 1) (by omega) (by omega) (Or.inr (fun k' h1 h2 => q k' (by omega) h2))
theorem tw_some (nF : Nat) {M : PS} {n k0 : Nat} {p v1 v3 : Int32} (hn : n ≤ 40) (h2 : M.1 0 12 = nI n) (hp : ¬ p = -1) (hk : k0 < n) (h3 : M.2 11 k0 = p) (hu : ∀ k, k < n → M.2 11 k = p → k = k0) : ∀ (d fl k : Nat), k + d = k0 → d + 50 < fl → LX10_twinOf_21 nF fl M v1 p v3 (nI k) = BX10_twinOf_59 nF M v1 (nI k0) := by
  intro d
  induction d with
  | zero =>
    intro fl k e1 e2
    obtain ⟨fl, rfl⟩ : ∃ m, fl = m + 1 := ⟨fl - 1, by omega⟩
    obtain rfl : k = k0 := by omega
    rw [LX10_twinOf_21, if_neg (by rw [h2]; exact nI_ge (by omega) (by omega)), nI_1, if_neg hp, if_neg (nI_in (N := 40) (by omega) (by omega)), nI_clamp (by omega), if_pos h3]
    exact tw_none nF hn h2 (n - (k + 1)) fl (k + 1) (by omega) (by omega) (Or.inr (fun k' q1 q2 q3 => by have := hu k' q2 q3; omega))
  | succ d ih =>
    intro fl k e1 e2
    obtain ⟨fl, rfl⟩ : ∃ m, fl = m + 1 := ⟨fl - 1, by omega⟩
    rw [LX10_twinOf_21, if_neg (by rw [h2]; exact nI_ge (by omega) (by omega)), nI_1, if_neg hp, if_neg (nI_in (N := 40) (by omega) (by omega)), nI_clamp (by omega), if_neg (fun q => by have := hu k (by omega) q; omega)]
    exact ih fl (k + 1) (by omega) (by omega)
theorem twin_both (nF : Nat) (hF : 10000 ≤ nF) {S M : PS} {m : Nat} (hI : Inv S M) (hm : m < nMk M 0) : ∃ (x : Int32) (S' M' : PS), fX9_twinOf nF S (nI m) = some (x, S') ∧ fX10_twinOf nF M (nI m) = some (x, M') ∧ keepC S S' ∧ keepM M M' ∧ (x = -1 ∨ ∃ g, g < nMk M 1 ∧ x = nI g) := by
  have hF1 : 1000 ≤ nF := by omega
  obtain ⟨M1, m1, m2, m3, m4, m5⟩ := mt_M nF hF1 (r := 0) (by omega) hI
  have hK := hI.2.2.2.2.1
  have n40 := (hK.nat (r := 0) (by omega)).1
  have hw := way_nat (r := 0) (by omega) hK hm
  rw [Nat.mul_zero, Nat.zero_add] at hw
  have k1 := m2.keep
  have hI1 : Inv S M1 := hI.keep keepC.rfl' k1
  have hn := hI1.2.2.2.1.nat
  have hf1 : FeltM M1 M1 0 := FeltM_same' k1 m3
  have hwm : wayM M1 0 m = wayM M 0 m := by unfold wayM; rw [k1.2 13 (by decide)]
  have hjM : fX10_jointAt nF M1 (M1.2 13 m) = some (ftAt M1 0 (wayM M 0 m)) := by
    rw [k1.2 13 (by decide), hw.1]
    exact felt_M nF hF1 (r := 0) (by omega) hI1.1 hw.2 hf1
  have hM11 : ∀ k, k < nBk M1 → M1.2 11 k = parM M1 0 k := fun k hk => by
    rw [m5 k (by rw [← nBk_same k1]; exact hk), parM_same k1]
  have eM : fX10_twinOf nF M (nI m) = LX10_twinOf_21 nF nF M1 (nI m) (ftAt M1 0 (wayM M 0 m)) (-1) (nI 0) := by
    rw [fX10_twinOf, show fX10_matches nF M 0 = some M1 from m1, Option.bind_some, if_neg (nI_in (N := 80) (by omega) (by omega)), nI_clamp (by omega), hjM]
    rfl
  obtain ⟨S1, s1, s2, s3, s4, s5, s6⟩ := both_C nF hF1 hI1
  have hS21 : S1.2 21 m = nI (wayM M 0 m) := by
    rw [s2.2 21 (by decide)]
    have := ((hK.nat (r := 0) (by omega)).2.2.2 m hm).1
    rw [Nat.mul_zero, Nat.zero_add] at this
    exact this.trans hw.1
  have hjC : fX6_feltAt nF S1 1 (S1.2 21 m) = some (ftAt M1 0 (wayM M 0 m)) := by
    rw [hS21]
    exact felt_C nF hF1 (r := 0) (by omega) hI1.1 hw.2 s3
  have h41 : S1.1 41 2 = nI (nBk M1) := by
    rw [s2.1 41 2 (by decide)]
    exact hI1.2.2.2.1.1.trans hn.2.2.2.1
  have eC : ∀ z, LX0_jointPairedWith_2 nF nF S1 1 (ftAt M1 0 (wayM M 0 m)) (nI 0) = some z → fX9_twinOf nF S (nI m) = (if z = (-1 : Int32) then (some ((-1 : Int32), S1)) else (if z < 0 ∨ 40 ≤ z.toNatClampNeg then none else ((fX4_leastCost nF S1 1 (S1.2 39 z.toNatClampNeg) 2 (S1.2 40 z.toNatClampNeg)).bind fun r3 => ((fX4_otherOf nF r3.2 (nI m)).bind fun r4 => (some (r4, r3.2)))))) := by
    intro z hz
    rw [fX9_twinOf, s1, Option.bind_some, if_neg (nI_in (N := 40) (by omega) (by omega)), nI_clamp (by omega), hjC, Option.bind_some, fX0_jointPairedWith, show LX0_jointPairedWith_2 nF nF S1 1 (ftAt M1 0 (wayM M 0 m)) 0 = some z from hz, Option.bind_some]
  by_cases hex : ∃ k0, k0 < nBk M1 ∧ ¬ ftAt M1 0 (wayM M 0 m) = -1 ∧ parM M1 0 k0 = ftAt M1 0 (wayM M 0 m)
  · obtain ⟨k0, hk0, hp, hpar⟩ := hex
    have huni : ∀ k, k < nBk M1 → parM M1 0 k = ftAt M1 0 (wayM M 0 m) → k = k0 := by
      intro k hk hq
      rcases par_cases M1 0 k0 with e | ⟨f, f1, f2⟩
      · exact absurd (hpar.symm.trans e) hp
      · have := jN_le M1 0
        exact par_uniq (f := f) (by omega) hk hk0 (by rw [hq, ← hpar, f2]) f2
    have j1 := jp_some nF (S := S1) hn.1 h41 hp hk0 ((s5 k0 hk0).trans hpar) (fun k hk hq => huni k hk ((s5 k hk).symm.trans hq)) k0 nF 0 (by omega) (by omega)
    have j2 := tw_some nF (M := M1) (v1 := nI m) (v3 := -1) hn.1 hn.2.2.2.1 hp hk0 ((hM11 k0 hk0).trans hpar) (fun k hk hq => huni k hk ((hM11 k hk).symm.trans hq)) k0 nF 0 (by omega) (by omega)
    have hIS := hI1.keep s2 keepM.rfl'
    obtain ⟨S', t1, t2, t3, t4, t5, t6⟩ := pl_C nF hF1 hIS s3 s4 (par_cases M1 0 k0) (par_cases M1 1 k0)
    obtain ⟨M2, g1, g2, g3⟩ := gat_M nF hF1 hI1 hk0
    obtain ⟨M', e1, e2, e3⟩ := enum_M nF hF g3
    have kE : keepM M2 M' := ⟨fun b _ => by rw [e2.1], fun a q => e2.2 a (by omega) (by omega)⟩
    have oc := other_C nF hF1 (m := m) t3 t4 (by omega) t5 t6 (nG M1 0 (parM M1 0 k0)) nF 0 0 (by omega) (by have := nG_le M1 0 (parM M1 0 k0); omega) (Nat.two_pow_pos _)
    have hdl := dig_le (prG M1 (parM M1 0 k0) (parM M1 1 k0)) (nG M1 1 (parM M1 1 k0)) (alN M1) (nG M1 0 (parM M1 0 k0)) 0 0
    have om := twin_loop nF (m := m) (g3.fr e2) (by omega) (D := (bst (prG M1 (parM M1 0 k0) (parM M1 1 k0)) (nG M1 1 (parM M1 1 k0)) (alN M1) (nG M1 0 (parM M1 0 k0)) 0 0).2) (fun i hi => ⟨e3 i hi, hdl i hi⟩) (nG M1 0 (parM M1 0 k0)) nF 0 (by omega) (by have := nG_le M1 0 (parM M1 0 k0); omega)
    refine ⟨othN (gmG M1 0 (parM M1 0 k0)) (gmG M1 1 (parM M1 1 k0)) (nG M1 1 (parM M1 1 k0)) m (nG M1 0 (parM M1 0 k0)) 0 (bst (prG M1 (parM M1 0 k0) (parM M1 1 k0)) (nG M1 1 (parM M1 1 k0)) (alN M1) (nG M1 0 (parM M1 0 k0)) 0 0).2, S', M', ?_, ?_, s2.trans t2, k1.trans (g2.trans kE), ?_⟩
    · rw [eC _ j1, if_neg (nI_ne_m1 (by omega)), if_neg (nI_in (N := 40) (by omega) (by omega)), nI_clamp (by omega), s5 k0 hk0, s6 k0 hk0, t1, Option.bind_some, fX4_otherOf]
      rw [show LX4_otherOf_4 nF nF S' (nI m) 0 0 = _ from oc]
      rfl
    · rw [eM, j2, BX10_twinOf_59, if_neg (nI_ne_m1 (by omega)), fX10_pairs, g1, Option.bind_some, e1, Option.bind_some]
      refine Eq.trans om ?_
      rw [show (fun q => (bst (prG M1 (parM M1 0 k0) (parM M1 1 k0)) (nG M1 1 (parM M1 1 k0)) (alN M1) (nG M1 0 (parM M1 0 k0)) 0 0).2 (0 + q)) = (bst (prG M1 (parM M1 0 k0) (parM M1 1 k0)) (nG M1 1 (parM M1 1 k0)) (alN M1) (nG M1 0 (parM M1 0 k0)) 0 0).2 by funext q; rw [Nat.zero_add]]
    · rcases oth_cases (g0 := gmG M1 0 (parM M1 0 k0)) (g1 := gmG M1 1 (parM M1 1 k0)) (n1 := nG M1 1 (parM M1 1 k0)) (m := m) (nG M1 0 (parM M1 0 k0)) 0 _ (fun q hq => hdl q hq) with q | ⟨k, q1, q2⟩
      · exact Or.inl q
      · refine Or.inr ⟨_, ?_, q2⟩
        have := gmG_lt q1
        rw [show nMk M 1 = nMk M1 1 by unfold nMk; rw [k1.2 12 (by decide)]]
        exact this
  · have hno : ftAt M1 0 (wayM M 0 m) = -1 ∨ ∀ k, k < nBk M1 → ¬ parM M1 0 k = ftAt M1 0 (wayM M 0 m) := by
      by_cases e : ftAt M1 0 (wayM M 0 m) = -1
      · exact Or.inl e
      · exact Or.inr (fun k hk q => hex ⟨k, hk, e, q⟩)
    have j1 := jp_none nF (S := S1) hn.1 h41 (p := ftAt M1 0 (wayM M 0 m)) (hno.imp id (fun h k hk q => h k hk ((s5 k hk).symm.trans q))) (nBk M1) nF 0 (by omega) (by omega)
    have j2 := tw_none nF (M := M1) (v1 := nI m) (v3 := -1) (p := ftAt M1 0 (wayM M 0 m)) hn.1 hn.2.2.2.1 (nBk M1) nF 0 (by omega) (by omega) (hno.imp id (fun h k _ hk q => h k hk ((hM11 k hk).symm.trans q)))
    refine ⟨-1, S1, M1, ?_, ?_, s2, k1, Or.inl rfl⟩
    · rw [eC _ j1, if_pos rfl]
    · rw [eM, j2, BX10_twinOf_59, if_pos rfl]
theorem sim_twin_ok (nF : Nat) (hF : 10000 ≤ nF) : sim_twin nF Inv := by
  intro S M a1 hI
  rcases hasMark_C nF (r := 0) (by omega) hI a1 with ⟨i1, i2⟩ | ⟨m, hm, rfl, i3, i4⟩
  · exact ⟨-2, S, M, by rw [fX9_twin, if_pos i2], by rw [fX10_twin, show fX10_isMark nF M 0 a1 = some 0 from i1]; rfl, hI⟩
  · obtain ⟨x, S', M', h1, h2, h3, h4, h5⟩ := twin_both nF hF hI hm
    refine ⟨x, S', M', ?_, ?_, hI.keep h3 h4⟩
    · rw [fX9_twin, if_neg i4, h1]; rfl
    · rw [fX10_twin, show fX10_isMark nF M 0 (nI m) = some 1 from i3, Option.bind_some, if_neg (by decide), h2]; rfl
