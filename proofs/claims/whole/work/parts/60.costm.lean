/-! the reference's cost table and its way back -/
def bookM (M : PS) (n J mi ex : Nat) (bk ln : Nat → Nat) : Prop := n ≤ 40 ∧ J ≤ 60 ∧ mi ≤ 1000000 ∧ ex ≤ 1000000 ∧ M.1 0 12 = nI n ∧ M.1 0 14 = nI mi ∧ M.1 0 15 = nI ex ∧ M.1 0 9 = nI J ∧ (∀ i, i < n → M.2 9 i = nI (bk i) ∧ bk i ≤ 100000) ∧ (∀ j, j < J → M.2 8 j = nI (ln j) ∧ ln j ≤ 4500000)
theorem bookM.cg {M M' : PS} {n J mi ex : Nat} {bk ln : Nat → Nat} (h : bookM M n J mi ex bk ln) (h1 : M'.1 = M.1) (h2 : M'.2 9 = M.2 9) (h3 : M'.2 8 = M.2 8) : bookM M' n J mi ex bk ln := by
  unfold bookM at h ⊢
  rw [h1, h2, h3]
  exact h
def fr10 (S S' : PS) : Prop := S'.1 = S.1 ∧ ∀ a : Nat, a ≠ 10 → S'.2 a = S.2 a
theorem fr10.rfl' {S : PS} : fr10 S S := ⟨rfl, fun _ _ => rfl⟩
theorem fr10.trans {S S1 S2 : PS} (h : fr10 S S1) (h2 : fr10 S1 S2) : fr10 S S2 := ⟨h2.1.trans h.1, fun a q => (h2.2 a q).trans (h.2 a q)⟩
theorem fr10.sta {S : PS} {i : Nat} {v : Int32} : fr10 S (sta S 10 i v) := ⟨rfl, fun a q => sta_ne q⟩
theorem bookM.fr {M M' : PS} {n J mi ex : Nat} {bk ln : Nat → Nat} (h : bookM M n J mi ex bk ln) (hf : fr10 M M') : bookM M' n J mi ex bk ln := h.cg hf.1 (hf.2 9 (by decide)) (hf.2 8 (by decide))
theorem ix61 (i j : Nat) : (61 : Int32) * nI i + nI j = nI (61 * i + j) := by rw [show (61 : Int32) * nI i = nI (61 * i) from pk_mul 61 i, nI_add]
theorem minle_I {α : Type} {x y : Nat} (hx : x < 2 ^ 31) (hy : y < 2 ^ 31) (g : Int32 → α) : (if nI x ≤ nI y then g (nI x) else g (nI y)) = g (nI (min x y)) := by
  by_cases c : x ≤ y
  · rw [if_pos ((nI_leI hx hy).mpr c), Nat.min_eq_left c]
  · rw [if_neg (fun q => c ((nI_leI hx hy).mp q)), Nat.min_eq_right (by omega)]
theorem pairCost_M (nF : Nat) {M : PS} {n J mi ex i j : Nat} {bk ln : Nat → Nat} (h : bookM M n J mi ex bk ln) (hi : i < n) (hj : j < J) (hc : M.2 10 (61 * i + j) = nI (cst bk ln mi ex i j)) : fX10_pairCost nF M (nI (i + 1)) (nI (j + 1)) = some (nI (pcN bk ln mi ex i j)) := by
  obtain ⟨hn, hJ, hm, he, _, _, _, _, hbk, hln⟩ := h
  have i0 : ((61 : Int32) * nI i + nI (j + 1)) - 1 = nI (61 * i + j) := by rw [ix61, ← Nat.add_assoc, nI_pred]
  obtain ⟨b1, b2⟩ := hbk i hi
  obtain ⟨l1, l2⟩ := hln j hj
  rw [fX10_pairCost, nI_pred i, nI_pred j, i0, if_neg (nI_in (N := 2501) (by omega) (by omega)), if_neg (nI_in (N := 40) (by omega) (by omega)), if_neg (nI_in (N := 60) (by omega) (by omega)), nI_clamp (by omega), nI_clamp (by omega), nI_clamp (by omega), hc, b1, l1, apart_I M (by omega) (by omega), nI_add]
  rfl
theorem b115_0 (nF : Nat) (k7 : PS → Int32 → Option PS) (k17 : PS → Int32 → Int32 → Option PS) {M : PS} {i : Nat} {v : Int32} (hi : i ≤ 40) : BX10_matches_115 nF k7 k17 M (nI i) (nI 0) v = k17 (sta M 10 (61 * i + 0) v) (nI i) (nI 1) := by
  rw [BX10_matches_115, if_pos (show nI 0 ≤ 0 by decide), ix61, if_neg (nI_in (N := 2501) (by omega) (by omega)), nI_clamp (by omega), nI_1]
theorem b115_s (nF : Nat) (k7 : PS → Int32 → Option PS) (k17 : PS → Int32 → Int32 → Option PS) {M : PS} {n J mi ex i j v : Nat} {bk ln : Nat → Nat} (h : bookM M n J mi ex bk ln) (hi : i ≤ n) (hj : j < J) (hv : v ≤ 2000000000) (hc : M.2 10 (61 * i + j) = nI (cst bk ln mi ex i j)) : BX10_matches_115 nF k7 k17 M (nI i) (nI (j + 1)) (nI v) = k17 (sta M 10 (61 * i + (j + 1)) (nI (min v (cst bk ln mi ex i j + ex)))) (nI i) (nI (j + 2)) := by
  obtain ⟨hn, hJ, hm, he, _, _, h15, _, hbk, hln⟩ := h
  have c1 := cst_le (bk := bk) (ln := ln) hm he i j
  have i3 : nI (61 * i + (j + 1)) - 1 = nI (61 * i + j) := nI_pred (61 * i + j)
  rw [BX10_matches_115, if_neg (nI_nle (by omega) (by omega)), ix61, i3, if_neg (nI_in (N := 2501) (by omega) (by omega)), if_neg (nI_in (N := 2501) (by omega) (by omega)), if_neg (nI_in (N := 2501) (by omega) (by omega)), nI_clamp (by omega), nI_clamp (by omega), hc, h15, nI_add, nI_1]
  exact minle_I (by omega) (by omega) (fun z => k17 (sta M 10 (61 * i + (j + 1)) z) (nI i) (nI (j + 1 + 1)))
theorem b68_0 (nF : Nat) (k7 : PS → Int32 → Option PS) (k17 : PS → Int32 → Int32 → Option PS) {M : PS} {j v : Int32} : BX10_matches_68 nF k7 k17 M (nI 0) j v = BX10_matches_115 nF k7 k17 M (nI 0) j v := by
  rw [BX10_matches_68, if_pos (show nI 0 ≤ 0 by decide)]
theorem b68_s (nF : Nat) (k7 : PS → Int32 → Option PS) (k17 : PS → Int32 → Int32 → Option PS) {M : PS} {n J mi ex i j v : Nat} {bk ln : Nat → Nat} (h : bookM M n J mi ex bk ln) (hi : i < n) (hj : j ≤ J) (hv : v ≤ 2000000000) (hc : M.2 10 (61 * i + j) = nI (cst bk ln mi ex i j)) : BX10_matches_68 nF k7 k17 M (nI (i + 1)) (nI j) (nI v) = BX10_matches_115 nF k7 k17 M (nI (i + 1)) (nI j) (nI (min v (cst bk ln mi ex i j + mi))) := by
  obtain ⟨hn, hJ, hm, he, _, h14, _, _, hbk, hln⟩ := h
  have c1 := cst_le (bk := bk) (ln := ln) hm he i j
  rw [BX10_matches_68, if_neg (nI_nle (by omega) (by omega)), nI_pred i, ix61, if_neg (nI_in (N := 2501) (by omega) (by omega)), nI_clamp (by omega), hc, h14, nI_add]
  exact minle_I (by omega) (by omega) (fun z => BX10_matches_115 nF k7 k17 M (nI (i + 1)) (nI j) z)
theorem cell_M (nF : Nat) (k7 : PS → Int32 → Option PS) {M : PS} {n J mi ex : Nat} {bk ln : Nat → Nat} (h : bookM M n J mi ex bk ln) (fl i j : Nat) (hi : i ≤ n) (hj : j ≤ J) (hT : ∀ i', i' < i → ∀ j', j' ≤ J → M.2 10 (61 * i' + j') = nI (cst bk ln mi ex i' j')) (hL : ∀ j', j' < j → M.2 10 (61 * i + j') = nI (cst bk ln mi ex i j')) : LX10_matches_17 nF k7 (fl + 1) M (nI i) (nI j) = LX10_matches_17 nF k7 fl (sta M 10 (61 * i + j) (nI (cst bk ln mi ex i j))) (nI i) (nI (j + 1)) := by
  have hn := h.1
  have hJ := h.2.1
  have hm := h.2.2.1
  have he := h.2.2.2.1
  rw [LX10_matches_17, if_neg (by rw [h.2.2.2.2.2.2.2.1]; exact nI_nlt (by omega) (by omega))]
  cases i with
  | zero =>
    rw [if_pos (show nI 0 = 0 from rfl)]
    cases j with
    | zero =>
      rw [if_pos (show nI 0 = 0 from rfl), BX10_matches_39, if_pos (show nI 0 ≤ 0 by decide), b68_0, b115_0 nF k7 _ (by omega), cst_0, Nat.zero_mul]
      rfl
    | succ j =>
      have c1 := cst_le (bk := bk) (ln := ln) hm he 0 j
      rw [if_neg (nI_ne0 (by omega) (by omega)), BX10_matches_37, BX10_matches_39, if_pos (show nI 0 ≤ 0 by decide), b68_0, show (2000000000 : Int32) = nI 2000000000 from rfl, b115_s nF k7 _ h (by omega) (by omega) (by omega) (hL j (by omega)), cst_0, cst_0, Nat.add_mul, Nat.one_mul, Nat.min_eq_right (by rw [cst_0] at c1; omega)]
  | succ i =>
    rw [if_neg (nI_ne0 (by omega) (by omega)), BX10_matches_37, BX10_matches_39, if_neg (nI_nle (by omega) (by omega))]
    cases j with
    | zero =>
      have c1 := cst_le (bk := bk) (ln := ln) hm he i 0
      rw [if_pos (show nI 0 ≤ 0 by decide), show (2000000000 : Int32) = nI 2000000000 from rfl, b68_s nF k7 _ h (by omega) (by omega) (by omega) (hT i (by omega) 0 (by omega)), b115_0 nF k7 _ (by omega), cst_c, cst_c, Nat.add_mul, Nat.one_mul, Nat.min_eq_right (by rw [cst_c] at c1; omega)]
    | succ j =>
      have c1 := cst_le (bk := bk) (ln := ln) hm he i j
      have c2 := cst_le (bk := bk) (ln := ln) hm he i (j + 1)
      have c3 := cst_le (bk := bk) (ln := ln) hm he (i + 1) j
      have c4 := dst_le (bk i) (ln j)
      have c5 := (h.2.2.2.2.2.2.2.2.1 i (by omega)).2
      have c6 := (h.2.2.2.2.2.2.2.2.2 j (by omega)).2
      have c7 : pcN bk ln mi ex i j = cst bk ln mi ex i j + dst (bk i) (ln j) := rfl
      rw [if_neg (nI_nle (by omega) (by omega)), pairCost_M nF h (by omega) (by omega) (hT i (by omega) j (by omega)), Option.bind_some, Option.bind_some, show (2000000000 : Int32) = nI 2000000000 from rfl, if_neg (nI_ge (by omega) (by omega)), b68_s nF k7 _ h (by omega) (by omega) (by omega) (hT i (by omega) (j + 1) (by omega)), b115_s nF k7 _ h (by omega) (by omega) (by omega) (hL j (by omega)), cst_s, Nat.min_assoc, c7]
theorem row_M (nF : Nat) (k7 : PS → Int32 → Option PS) {n J mi ex i : Nat} {bk ln : Nat → Nat} (hi : i ≤ n) : ∀ (k fl j : Nat) (M : PS), j + k = J + 1 → k < fl → bookM M n J mi ex bk ln → (∀ i', i' < i → ∀ j', j' ≤ J → M.2 10 (61 * i' + j') = nI (cst bk ln mi ex i' j')) → (∀ j', j' < j → M.2 10 (61 * i + j') = nI (cst bk ln mi ex i j')) → ∃ M', LX10_matches_17 nF k7 fl M (nI i) (nI j) = k7 M' (nI (i + 1)) ∧ fr10 M M' ∧ (∀ i', i' < i + 1 → ∀ j', j' ≤ J → M'.2 10 (61 * i' + j') = nI (cst bk ln mi ex i' j')) := by
  intro k
  induction k with
  | zero =>
    intro fl j M h1 h2 hB hT hL
    obtain ⟨fl, rfl⟩ : ∃ m, fl = m + 1 := ⟨fl - 1, by omega⟩
    obtain rfl : j = J + 1 := by omega
    have hJ := hB.2.1
    refine ⟨M, ?_, fr10.rfl', fun i' h3 j' h4 => ?_⟩
    · rw [LX10_matches_17, if_pos (by rw [hB.2.2.2.2.2.2.2.1]; exact (nI_ltI (by omega) (by omega)).mpr (by omega)), BX10_matches_181, nI_1]
    · by_cases e : i' = i
      · subst e; exact hL j' (by omega)
      · exact hT i' (by omega) j' h4
  | succ k ih =>
    intro fl j M h1 h2 hB hT hL
    obtain ⟨fl, rfl⟩ : ∃ m, fl = m + 1 := ⟨fl - 1, by omega⟩
    have hJ := hB.2.1
    rw [cell_M nF k7 hB fl i j hi (by omega) hT hL]
    obtain ⟨M', a1, a2, a3⟩ := ih fl (j + 1) (sta M 10 (61 * i + j) (nI (cst bk ln mi ex i j))) (by omega) (by omega) (hB.fr fr10.sta) (fun i' hi' j' hj' => by rw [sta_ne2 (by omega)]; exact hT i' hi' j' hj') (fun j' hj' => by
      by_cases e : j' = j
      · subst e; exact sta_eq
      · rw [sta_ne2 (by omega)]; exact hL j' (by omega))
    exact ⟨M', a1, fr10.sta.trans a2, a3⟩
theorem tab_M (nF : Nat) (hF : 1000 ≤ nF) {n J mi ex : Nat} {bk ln : Nat → Nat} : ∀ (k fl i : Nat) (M : PS), i + k = n + 1 → k < fl → bookM M n J mi ex bk ln → (∀ i', i' < i → ∀ j', j' ≤ J → M.2 10 (61 * i' + j') = nI (cst bk ln mi ex i' j')) → ∃ M', LX10_matches_7 nF fl M (nI i) = BX10_matches_187 nF M' ∧ fr10 M M' ∧ (∀ i', i' ≤ n → ∀ j', j' ≤ J → M'.2 10 (61 * i' + j') = nI (cst bk ln mi ex i' j')) := by
  intro k
  induction k with
  | zero =>
    intro fl i M h1 h2 hB hT
    obtain ⟨fl, rfl⟩ : ∃ m, fl = m + 1 := ⟨fl - 1, by omega⟩
    obtain rfl : i = n + 1 := by omega
    have hn := hB.1
    exact ⟨M, by rw [LX10_matches_7, if_pos (by rw [hB.2.2.2.2.1]; exact (nI_ltI (by omega) (by omega)).mpr (by omega))], fr10.rfl', fun i' h3 j' h4 => hT i' (by omega) j' h4⟩
  | succ k ih =>
    intro fl i M h1 h2 hB hT
    obtain ⟨fl, rfl⟩ : ∃ m, fl = m + 1 := ⟨fl - 1, by omega⟩
    have hn := hB.1
    have hJ := hB.2.1
    obtain ⟨M1, a1, a2, a3⟩ := row_M nF (LX10_matches_7 nF fl) (i := i) (by omega) (J + 1) nF 0 M (by omega) (by omega) hB hT (fun j' hj' => absurd hj' (Nat.not_lt_zero _))
    obtain ⟨M', b1, b2, b3⟩ := ih fl (i + 1) M1 (by omega) (by omega) (hB.fr a2) a3
    refine ⟨M', ?_, a2.trans b2, b3⟩
    rw [LX10_matches_7, if_neg (by rw [hB.2.2.2.2.1]; exact nI_nlt (by omega) (by omega))]
    exact a1.trans b1
theorem clr_M (nF : Nat) {v2 v3 : Int32} : ∀ (k fl t : Nat) (M : PS), t + k = 40 → k < fl → (∀ i, i < t → M.2 11 i = -1) → ∃ M', LX10_matches_200 nF fl M v2 v3 (nI t) = LX10_matches_221 nF nF M' v2 v3 ∧ M'.1 = M.1 ∧ (∀ a, a ≠ 11 → M'.2 a = M.2 a) ∧ (∀ i, i < 40 → M'.2 11 i = -1) := by
  intro k
  induction k with
  | zero =>
    intro fl t M h1 h2 hT
    obtain ⟨fl, rfl⟩ : ∃ m, fl = m + 1 := ⟨fl - 1, by omega⟩
    obtain rfl : t = 40 := by omega
    exact ⟨M, by rw [LX10_matches_200, if_pos (by decide)], rfl, fun _ _ => rfl, hT⟩
  | succ k ih =>
    intro fl t M h1 h2 hT
    obtain ⟨fl, rfl⟩ : ∃ m, fl = m + 1 := ⟨fl - 1, by omega⟩
    rw [LX10_matches_200, if_neg (show ¬ (40 : Int32) ≤ nI t from nI_ge (b := 40) (by omega) (by omega)), if_neg (nI_in (N := 40) (by omega) (by omega)), nI_clamp (by omega), nI_1]
    obtain ⟨M', a1, a2, a3, a4⟩ := ih fl (t + 1) (sta M 11 t (-1)) (by omega) (by omega) (fun i hi => by
      by_cases e : i = t
      · subst e; exact sta_eq
      · rw [sta_ne2 e]; exact hT i (by omega))
    exact ⟨M', a1, a2, fun a ha => (a3 a ha).trans (sta_ne ha), a4⟩
theorem back_M (nF : Nat) {n J mi ex : Nat} {bk ln : Nat → Nat} : ∀ (k fl b f : Nat) (M : PS), b + f ≤ k → k < fl → b ≤ n → f ≤ J → bookM M n J mi ex bk ln → (∀ i, i ≤ n → ∀ j, j ≤ J → M.2 10 (61 * i + j) = nI (cst bk ln mi ex i j)) → (∀ i, i < b → M.2 11 i = -1) → ∃ M', LX10_matches_221 nF fl M (nI b) (nI f) = some M' ∧ M'.1 = M.1 ∧ (∀ a, a ≠ 11 → M'.2 a = M.2 a) ∧ (∀ i, M'.2 11 i = if i < b then prtN (cst bk ln mi ex) (pcN bk ln mi ex) mi b f i else M.2 11 i) := by
  intro k
  induction k with
  | zero =>
    intro fl b f M h1 h2 h3 h4 hB hT hC
    obtain ⟨fl, rfl⟩ : ∃ m, fl = m + 1 := ⟨fl - 1, by omega⟩
    obtain rfl : b = 0 := by omega
    obtain rfl : f = 0 := by omega
    exact ⟨M, by rw [LX10_matches_221, if_neg (by decide), if_pos (by decide)], rfl, fun _ _ => rfl, fun i => by rw [if_neg (Nat.not_lt_zero _)]⟩
  | succ k ih =>
    intro fl b f M h1 h2 h3 h4 hB hT hC
    obtain ⟨fl, rfl⟩ : ∃ m, fl = m + 1 := ⟨fl - 1, by omega⟩
    have hn := hB.1
    have hJ := hB.2.1
    have hm := hB.2.2.1
    have he := hB.2.2.2.1
    by_cases h00 : b = 0 ∧ f = 0
    · obtain ⟨rfl, rfl⟩ := h00
      exact ⟨M, by rw [LX10_matches_221, if_neg (by decide), if_pos (by decide)], rfl, fun _ _ => rfl, fun i => by rw [if_neg (Nat.not_lt_zero _)]⟩
    have e229 : LX10_matches_221 nF (fl + 1) M (nI b) (nI f) = BX10_matches_229 nF (LX10_matches_221 nF fl) M (nI b) (nI f) := by
      rw [LX10_matches_221]
      by_cases c : 0 < b
      · rw [if_pos (show (0 : Int32) < nI b from (nI_ltI (a := 0) (by omega) (by omega)).mpr c)]
      · rw [if_neg (show ¬ (0 : Int32) < nI b from fun q => c ((nI_ltI (a := 0) (by omega) (by omega)).mp q)), if_neg (nI_nle (by omega) (by omega))]
    rw [e229, BX10_matches_229, ix61, if_neg (nI_in (N := 2501) (by omega) (by omega)), nI_clamp (by omega), hT b h3 f h4]
    cases b with
    | zero =>
      obtain ⟨f, rfl⟩ : ∃ g, f = g + 1 := ⟨f - 1, by omega⟩
      rw [if_pos (show nI 0 ≤ 0 by decide), BX10_matches_277, if_pos (show nI 0 ≤ 0 by decide), pk_m1]
      obtain ⟨M', a1, a2, a3, a4⟩ := ih fl 0 f M (by omega) (by omega) (by omega) (by omega) hB hT hC
      exact ⟨M', a1, a2, a3, fun i => by rw [a4 i, if_neg (Nat.not_lt_zero _), if_neg (Nat.not_lt_zero _)]⟩
    | succ b =>
      rw [if_neg (nI_nle (by omega) (by omega))]
      have c1 := cst_le (bk := bk) (ln := ln) hm he b f
      have c2 := cst_le (bk := bk) (ln := ln) hm he (b + 1) f
      have b277 : ∀ v : Int32, BX10_matches_277 nF (LX10_matches_221 nF fl) M (nI (b + 1)) (nI f) v = if nI (cst bk ln mi ex b f + mi) = v then LX10_matches_221 nF fl M (nI b) (nI f) else LX10_matches_221 nF fl M (nI (b + 1)) (nI f + -1) := by
        intro v
        rw [BX10_matches_277, if_neg (nI_nle (by omega) (by omega)), nI_pred b, ix61, if_neg (nI_in (N := 2501) (by omega) (by omega)), nI_clamp (by omega), hT b (by omega) f h4, hB.2.2.2.2.2.1, nI_add, pk_m1]
      have up : tbN (cst bk ln mi ex) (pcN bk ln mi ex) mi b f = (-1, f) → ∃ M', LX10_matches_221 nF fl M (nI b) (nI f) = some M' ∧ M'.1 = M.1 ∧ (∀ a, a ≠ 11 → M'.2 a = M.2 a) ∧ (∀ i, M'.2 11 i = if i < b + 1 then prtN (cst bk ln mi ex) (pcN bk ln mi ex) mi (b + 1) f i else M.2 11 i) := by
        intro e
        obtain ⟨M', a1, a2, a3, a4⟩ := ih fl b f M (by omega) (by omega) (by omega) h4 hB hT (fun i hi => hC i (by omega))
        refine ⟨M', a1, a2, a3, fun i => ?_⟩
        rw [a4 i, prtN, e]
        by_cases c : i = b
        · subst c
          rw [if_neg (Nat.lt_irrefl _), if_pos (Nat.lt_succ_self _), if_pos rfl, hC i (Nat.lt_succ_self _)]
        · rw [if_neg c]
          by_cases d : i < b
          · rw [if_pos d, if_pos (by omega)]
          · rw [if_neg d, if_neg (by omega)]
      cases f with
      | zero =>
        rw [if_pos (show nI 0 ≤ 0 by decide), b277, if_pos (by rw [cst_c, cst_c, Nat.add_mul, Nat.one_mul])]
        exact up (by unfold tbN; rfl)
      | succ f =>
        have c3 := cst_le (bk := bk) (ln := ln) hm he b f
        have c4 := dst_le (bk b) (ln f)
        have c5 := (hB.2.2.2.2.2.2.2.2.1 b (by omega)).2
        have c6 := (hB.2.2.2.2.2.2.2.2.2 f (by omega)).2
        have c7 : pcN bk ln mi ex b f = cst bk ln mi ex b f + dst (bk b) (ln f) := rfl
        rw [if_neg (nI_nle (by omega) (by omega)), pairCost_M nF hB (by omega) (by omega) (hT b (by omega) f (by omega)), Option.bind_some, pk_m1, pk_m1, if_neg (nI_in (N := 40) (by omega) (by omega)), nI_clamp (by omega)]
        by_cases d1 : cst bk ln mi ex (b + 1) (f + 1) = pcN bk ln mi ex b f
        · rw [if_pos ((nI_eq (by omega) (by omega)).mpr d1.symm)]
          have e : tbN (cst bk ln mi ex) (pcN bk ln mi ex) mi b (f + 1) = (nI f, f) := by
            unfold tbN
            rw [show lfN (cst bk ln mi ex) (pcN bk ln mi ex) mi b (f + 1) = f + 1 by rw [lfN, if_pos (Or.inl d1)]]
            exact if_pos d1
          obtain ⟨M', a1, a2, a3, a4⟩ := ih fl b f (sta M 11 b (nI f)) (by omega) (by omega) (by omega) (by omega) (hB.cg rfl (sta_ne (by decide)) (sta_ne (by decide))) (fun i hi j hj => by rw [sta_ne (by decide)]; exact hT i hi j hj) (fun i hi => by rw [sta_ne2 (by omega)]; exact hC i (by omega))
          refine ⟨M', a1, a2, fun a ha => (a3 a ha).trans (sta_ne ha), fun i => ?_⟩
          rw [a4 i, prtN, e]
          by_cases c : i = b
          · subst c
            rw [if_neg (Nat.lt_irrefl _), if_pos (Nat.lt_succ_self _), if_pos rfl, sta_eq]
          · rw [if_neg c, sta_ne2 c]
            by_cases d : i < b
            · rw [if_pos d, if_pos (by omega)]
            · rw [if_neg d, if_neg (by omega)]
        · rw [if_neg (fun q => d1 ((nI_eq (by omega) (by omega)).mp q).symm), b277]
          by_cases d2 : cst bk ln mi ex (b + 1) (f + 1) = cst bk ln mi ex b (f + 1) + mi
          · rw [if_pos (by rw [d2])]
            refine up ?_
            unfold tbN
            rw [show lfN (cst bk ln mi ex) (pcN bk ln mi ex) mi b (f + 1) = f + 1 by rw [lfN, if_pos (Or.inr d2)]]
            exact if_neg d1
          · rw [if_neg (fun q => d2 ((nI_eq (by omega) (by omega)).mp q).symm), pk_m1]
            have el : lfN (cst bk ln mi ex) (pcN bk ln mi ex) mi b (f + 1) = lfN (cst bk ln mi ex) (pcN bk ln mi ex) mi b f := by rw [lfN, if_neg (fun q => q.elim d1 d2)]
            have et : tbN (cst bk ln mi ex) (pcN bk ln mi ex) mi b (f + 1) = tbN (cst bk ln mi ex) (pcN bk ln mi ex) mi b f := by unfold tbN; rw [el]
            obtain ⟨M', a1, a2, a3, a4⟩ := ih fl (b + 1) f M (by omega) (by omega) h3 (by omega) hB hT hC
            refine ⟨M', a1, a2, a3, fun i => ?_⟩
            rw [a4 i, prtN, prtN, et]
theorem match_M (nF : Nat) (hF : 1000 ≤ nF) {M : PS} {n J mi ex : Nat} {bk ln : Nat → Nat} (hB : bookM M n J mi ex bk ln) : ∃ M', LX10_matches_7 nF nF M 0 = some M' ∧ M'.1 = M.1 ∧ (∀ a, a ≠ 10 → a ≠ 11 → M'.2 a = M.2 a) ∧ (∀ i, i ≤ n → ∀ j, j ≤ J → M'.2 10 (61 * i + j) = nI (cst bk ln mi ex i j)) ∧ (∀ i, i < n → M'.2 11 i = prtN (cst bk ln mi ex) (pcN bk ln mi ex) mi n J i) := by
  have hn := hB.1
  have hJ := hB.2.1
  obtain ⟨M1, a1, a2, a3⟩ := tab_M nF hF (n + 1) nF 0 M (by omega) (by omega) hB (fun i hi => absurd hi (Nat.not_lt_zero _))
  have hB1 := hB.fr a2
  obtain ⟨M2, b1, b2, b3, b4⟩ := clr_M nF (v2 := nI n) (v3 := nI J) 40 nF 0 M1 (by omega) (by omega) (fun i hi => absurd hi (Nat.not_lt_zero _))
  have hB2 : bookM M2 n J mi ex bk ln := hB1.cg b2 (b3 9 (by decide)) (b3 8 (by decide))
  obtain ⟨M', c1, c2, c3, c4⟩ := back_M nF (n + J) nF n J M2 (Nat.le_refl _) (by omega) (Nat.le_refl _) (Nat.le_refl _) hB2 (fun i hi j hj => by rw [b3 10 (by decide)]; exact a3 i hi j hj) (fun i hi => b4 i (by omega))
  refine ⟨M', ?_, (c2.trans b2).trans a2.1, fun a h1 h2 => ((c3 a h2).trans (b3 a h2)).trans (a2.2 a h1), fun i hi j hj => by rw [c3 10 (by decide), b3 10 (by decide)]; exact a3 i hi j hj, fun i hi => by rw [c4 i, if_pos hi]⟩
  refine Eq.trans a1 ?_
  rw [BX10_matches_187, hB1.2.2.2.2.1, hB1.2.2.2.2.2.2.2.1]
  exact b1.trans c1
