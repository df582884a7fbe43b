/-! the least cost of book and felt joints, and the class' table -/
theorem felt_nat (m w : Nat → Int32) (hm : ∀ t, m t = -1 ∨ btw (m t) 0 30000) : ∀ t : Nat, ∃ s v f : Nat, s ≤ 30000 ∧ v ≤ 30000 * t ∧ f ≤ v ∧ stp m t = nI s ∧ wyN m t = nI v ∧ frm m w t = nI f ∧ (∀ j, j < jnN w t → ∃ b l : Nat, jbN m w t j = nI b ∧ jlN m w t j = nI l ∧ b + l ≤ v)
  | 0 => ⟨0, 0, 0, by omega, by omega, by omega, rfl, rfl, rfl, fun j hj => absurd hj (Nat.not_lt_zero _)⟩
  | t + 1 => by
    obtain ⟨s, v, f, h1, h2, h3, h4, h5, h6, h7⟩ := felt_nat m w hm t
    have hs : ∃ s', s' ≤ 30000 ∧ stp m (t + 1) = nI s' := by
      by_cases c : m t = -1
      · exact ⟨s, h1, by rw [stp, if_pos c, h4]⟩
      · rcases hm t with h | h
        · exact absurd h c
        · exact ⟨(m t).toNatClampNeg, by have := clamp_toInt h.1; have := h.2; omega, by rw [stp, if_neg c]; exact nI_of_btw h⟩
    obtain ⟨s', hs1, hs2⟩ := hs
    have hw : wyN m (t + 1) = nI (v + s') := by rw [wyN, h5, hs2, nI_add]
    have old : ∀ j, j < jnN w t → ∃ b l : Nat, jbN m w t j = nI b ∧ jlN m w t j = nI l ∧ b + l ≤ v + s' := fun j hj => by
      obtain ⟨b, l, q1, q2, q3⟩ := h7 j hj
      exact ⟨b, l, q1, q2, by omega⟩
    by_cases cw : w t = 0
    · refine ⟨s', v + s', f, hs1, by omega, by omega, hs2, hw, by rw [frm, if_pos cw, h6], fun j hj => ?_⟩
      rw [jnN, if_pos cw] at hj
      rw [jbN, jlN, if_pos cw, if_pos cw]
      exact old j hj
    · refine ⟨s', v + s', v + s', hs1, by omega, by omega, hs2, hw, by rw [frm, if_neg cw, hw], fun j hj => ?_⟩
      rw [jnN, if_neg cw] at hj
      rw [jbN, jlN, if_neg cw, if_neg cw]
      by_cases e : j = jnN w t
      · rw [if_pos e, if_pos e, h6, hw]
        exact ⟨f, v + s' - f, rfl, pk_sub (by omega), by omega⟩
      · rw [if_neg e, if_neg e]
        refine old j ?_
        by_cases c60 : 60 ≤ jnN w t
        · rw [if_pos c60] at hj; omega
        · rw [if_neg c60] at hj; omega
def dst (a b : Nat) : Nat := (a - b) + (b - a)
def cRow (prev ln : Nat → Nat) (b mi ex first : Nat) : Nat → Nat
  | 0 => first
  | j + 1 => min (prev j + dst b (ln j)) (min (prev (j + 1) + mi) (cRow prev ln b mi ex first j + ex))
def cst (bk ln : Nat → Nat) (mi ex : Nat) : Nat → Nat → Nat
  | 0 => fun j => j * ex
  | i + 1 => cRow (cst bk ln mi ex i) ln (bk i) mi ex ((i + 1) * mi)
theorem cst_s (bk ln : Nat → Nat) (mi ex i j : Nat) : cst bk ln mi ex (i + 1) (j + 1) = min (cst bk ln mi ex i j + dst (bk i) (ln j)) (min (cst bk ln mi ex i (j + 1) + mi) (cst bk ln mi ex (i + 1) j + ex)) := rfl
theorem cst_0 (bk ln : Nat → Nat) (mi ex j : Nat) : cst bk ln mi ex 0 j = j * ex := rfl
theorem cst_c (bk ln : Nat → Nat) (mi ex i : Nat) : cst bk ln mi ex i 0 = i * mi := by
  cases i with
  | zero => rw [cst_0, Nat.zero_mul, Nat.zero_mul]
  | succ i => rfl
theorem cst_le {bk ln : Nat → Nat} {mi ex : Nat} (hm : mi ≤ 1000000) (he : ex ≤ 1000000) : ∀ i j, cst bk ln mi ex i j ≤ 1000000 * i + 1000000 * j
  | 0, j => by
    have : j * ex ≤ j * 1000000 := Nat.mul_le_mul_left _ he
    rw [cst_0]
    omega
  | i + 1, 0 => by
    have : (i + 1) * mi ≤ (i + 1) * 1000000 := Nat.mul_le_mul_left _ hm
    rw [cst_c]
    omega
  | i + 1, j + 1 => by
    have := cst_le (bk := bk) (ln := ln) hm he i (j + 1)
    rw [cst_s]
    omega
theorem dst_le (a b : Nat) : dst a b ≤ a + b := by unfold dst; omega
theorem min_I {x y : Nat} (hx : x < 2 ^ 31) (hy : y < 2 ^ 31) : (if nI y < nI x then nI y else nI x) = nI (min x y) := by
  by_cases c : y < x
  · rw [if_pos ((nI_ltI hy hx).mpr c), Nat.min_eq_right (by omega)]
  · rw [if_neg (fun q => c ((nI_ltI hy hx).mp q)), Nat.min_eq_left (by omega)]
theorem abs_I {x y : Nat} (hx : x < 2 ^ 30) (hy : y < 2 ^ 30) : (if 0 ≤ nI x - nI y then nI x - nI y else 0 - (nI x - nI y)) = nI (dst x y) := by
  have e := pk_sub_toInt hx hy
  have h0 : (0 : Int32).toInt = 0 := rfl
  by_cases c : y ≤ x
  · rw [if_pos (by rw [Int32.le_iff_toInt_le, e]; omega), pk_sub c, show dst x y = x - y by unfold dst; omega]
  · rw [if_neg (by rw [Int32.le_iff_toInt_le, e]; omega)]
    apply Int32.toInt_inj.mp
    rw [sub_toInt (by omega) (by omega), e, nI_toInt (by unfold dst; omega)]
    unfold dst
    omega
theorem apart_I (M : PS) {x y : Nat} (hx : x < 2 ^ 30) (hy : y < 2 ^ 30) : fX10_apart M (nI x) (nI y) = nI (dst x y) := by
  unfold fX10_apart dst
  by_cases c : x ≤ y
  · rw [if_pos (nI_le c (by omega)), pk_sub c]
    congr 1
    omega
  · rw [if_neg (nI_ge (by omega) (by omega)), pk_sub (by omega)]
    congr 1
    omega
def fr43 (S S' : PS) : Prop := S'.1 = S.1 ∧ ∀ a : Nat, a ≠ 43 → S'.2 a = S.2 a
theorem fr43.rfl' {S : PS} : fr43 S S := ⟨rfl, fun _ _ => rfl⟩
theorem fr43.trans {S S1 S2 : PS} (h : fr43 S S1) (h2 : fr43 S1 S2) : fr43 S S2 := ⟨h2.1.trans h.1, fun a q => (h2.2 a q).trans (h.2 a q)⟩
theorem fr43.sta {S : PS} {i : Nat} {v : Int32} : fr43 S (sta S 43 i v) := ⟨rfl, fun a q => sta_ne q⟩
theorem fr43.keep {S S' : PS} (h : fr43 S S') : keepC S S' := ⟨fun a b _ => by rw [h.1], fun a q => h.2 a (by omega)⟩
/-- what the class' cost table is made of -/
def bookC (S : PS) (r n J mi ex : Nat) (bk ln : Nat → Nat) : Prop := n ≤ 40 ∧ J ≤ 60 ∧ mi ≤ 1000000 ∧ ex ≤ 1000000 ∧ S.1 41 2 = nI n ∧ S.1 41 3 = nI mi ∧ S.1 41 4 = nI ex ∧ S.1 (1 + r) 11 = nI J ∧ (∀ i, i < n → S.2 42 i = nI (bk i) ∧ bk i ≤ 100000) ∧ (∀ j, j < J → S.2 (37 + r) j = nI (ln j) ∧ ln j ≤ 4500000)
theorem bookC.fr {S S' : PS} {r n J mi ex : Nat} {bk ln : Nat → Nat} (hr : r < 2) (h : bookC S r n J mi ex bk ln) (hf : fr43 S S') : bookC S' r n J mi ex bk ln := by
  unfold bookC at h ⊢
  rw [hf.1, hf.2 42 (by decide), hf.2 (37 + r) (by omega)]
  exact h
theorem withPair_C (nF : Nat) {S : PS} {r n J mi ex b f : Nat} {bk ln : Nat → Nat} (hr : r < 2) (h : bookC S r n J mi ex bk ln) (hb : b < n) (hf : f < J) (hc : S.2 43 (61 * b + f) = nI (cst bk ln mi ex b f)) : fX0_withPair nF S (1 + r) (nI (b + 1)) (nI (f + 1)) = some (nI (cst bk ln mi ex b f + dst (bk b) (ln f))) := by
  obtain ⟨hn, hJ, hm, he, _, _, _, _, hbk, hln⟩ := h
  have i0 : (nI b * 61 + nI (f + 1)) - 1 = nI (61 * b + f) := by
    rw [show nI b * 61 = nI (b * 61) from pk_mul b 61, nI_add, ← Nat.add_assoc, nI_pred, Nat.mul_comm]
  obtain ⟨b1, b2⟩ := hbk b hb
  obtain ⟨l1, l2⟩ := hln f hf
  rw [fX0_withPair, nI_pred b, nI_pred f, i0, if_neg (nI_in (N := 2501) (by omega) (by omega)), if_neg (nI_in (N := 40) (by omega) (by omega)), if_neg (nI_in (N := 60) (by omega) (by omega)), nI_clamp (by omega), nI_clamp (by omega), nI_clamp (by omega), hc, b1, show 1 + r + 36 = 37 + r by omega, l1, abs_I (by omega) (by omega), nI_add]
theorem least_in (nF : Nat) {r n J mi ex b : Nat} {bk ln : Nat → Nat} (hr : r < 2) (hb : b < n) (k30 : PS → Nat → Int32 → Option (Int32 × PS)) : ∀ (k fl f : Nat) (S : PS), f + k = J → k < fl → bookC S r n J mi ex bk ln → (∀ i, i ≤ b → ∀ j, j ≤ J → S.2 43 (61 * i + j) = nI (cst bk ln mi ex i j)) → (∀ j, j ≤ f → S.2 43 (61 * (b + 1) + j) = nI (cst bk ln mi ex (b + 1) j)) → ∃ S', LX0_leastCost_58 nF k30 fl S (1 + r) (nI (b + 1)) (nI (61 * (b + 1))) (nI (f + 1)) = k30 S' (1 + r) (nI (b + 2)) ∧ fr43 S S' ∧ (∀ i, i ≤ b + 1 → ∀ j, j ≤ J → S'.2 43 (61 * i + j) = nI (cst bk ln mi ex i j)) := by
  intro k
  induction k with
  | zero =>
    intro fl f S h1 h2 hB hT hL
    obtain ⟨fl, rfl⟩ : ∃ m, fl = m + 1 := ⟨fl - 1, by omega⟩
    obtain rfl : f = J := by omega
    have hJ := hB.2.1
    refine ⟨S, ?_, fr43.rfl', fun i hi j hj => ?_⟩
    · rw [LX0_leastCost_58, if_pos (by rw [hB.2.2.2.2.2.2.2.1]; exact (nI_ltI (by omega) (by omega)).mpr (by omega)), BX0_leastCost_133, nI_1]
    · by_cases e : i = b + 1
      · subst e; exact hL j hj
      · exact hT i (by omega) j hj
  | succ k ih =>
    intro fl f S h1 h2 hB hT hL
    obtain ⟨fl, rfl⟩ : ∃ m, fl = m + 1 := ⟨fl - 1, by omega⟩
    have hJ := hB.2.1
    have hn := hB.1
    have hm := hB.2.2.1
    have he := hB.2.2.2.1
    have i1 : (nI (61 * (b + 1)) - 61) + nI (f + 1) = nI (61 * b + (f + 1)) := by
      rw [show (61 : Int32) = nI 61 from rfl, pk_sub (by omega), nI_add, show 61 * (b + 1) - 61 + (f + 1) = 61 * b + (f + 1) by omega]
    have i2 : nI (61 * (b + 1)) + nI (f + 1) = nI (61 * (b + 1) + (f + 1)) := nI_add _ _
    have i3 : nI (61 * (b + 1) + (f + 1)) - 1 = nI (61 * (b + 1) + f) := nI_pred (61 * (b + 1) + f)
    have c1 := cst_le (bk := bk) (ln := ln) hm he b (f + 1)
    have c2 := cst_le (bk := bk) (ln := ln) hm he (b + 1) f
    have c3 := cst_le (bk := bk) (ln := ln) hm he b f
    have c4 := dst_le (bk b) (ln f)
    have c5 := (hB.2.2.2.2.2.2.2.2.1 b hb).2
    have c6 := (hB.2.2.2.2.2.2.2.2.2 f (by omega)).2
    rw [LX0_leastCost_58, if_neg (by rw [hB.2.2.2.2.2.2.2.1]; exact nI_nlt (by omega) (by omega)), i1, i2, i3, if_neg (nI_in (N := 2501) (by omega) (by omega)), if_neg (nI_in (N := 2501) (by omega) (by omega)), withPair_C nF hr hB hb (by omega) (hT b (by omega) f (by omega)), Option.bind_some, if_neg (nI_in (N := 2501) (by omega) (by omega)), nI_clamp (by omega), nI_clamp (by omega), nI_clamp (by omega), hT b (by omega) (f + 1) (by omega), hL f (by omega), hB.2.2.2.2.2.1, hB.2.2.2.2.2.2.1, nI_add, nI_add, min_I (by omega) (by omega), min_I (by omega) (by omega), ← cst_s, nI_1]
    obtain ⟨S', a1, a2, a3⟩ := ih fl (f + 1) (sta S 43 (61 * (b + 1) + (f + 1)) (nI (cst bk ln mi ex (b + 1) (f + 1)))) (by omega) (by omega) (hB.fr hr fr43.sta) (fun i hi j hj => by rw [sta_ne2 (by omega)]; exact hT i hi j hj) (fun j hj => by
      by_cases e : j = f + 1
      · subst e; exact sta_eq
      · rw [sta_ne2 (by omega)]; exact hL j (by omega))
    exact ⟨S', a1, fr43.sta.trans a2, a3⟩
theorem least_out (nF : Nat) (hF : 1000 ≤ nF) {r n J mi ex : Nat} {bk ln : Nat → Nat} (hr : r < 2) : ∀ (k fl b : Nat) (S : PS), b + k = n → k < fl → bookC S r n J mi ex bk ln → (∀ i, i ≤ b → ∀ j, j ≤ J → S.2 43 (61 * i + j) = nI (cst bk ln mi ex i j)) → ∃ S', LX0_leastCost_30 nF fl S (1 + r) (nI (b + 1)) = some (nI (cst bk ln mi ex n J), S') ∧ fr43 S S' ∧ (∀ i, i ≤ n → ∀ j, j ≤ J → S'.2 43 (61 * i + j) = nI (cst bk ln mi ex i j)) := by
  intro k
  induction k with
  | zero =>
    intro fl b S h1 h2 hB hT
    obtain ⟨fl, rfl⟩ : ∃ m, fl = m + 1 := ⟨fl - 1, by omega⟩
    obtain rfl : b = n := by omega
    have hJ := hB.2.1
    have hn := hB.1
    have i0 : nI b * 61 + nI J = nI (61 * b + J) := by
      rw [show nI b * 61 = nI (b * 61) from pk_mul b 61, nI_add, Nat.mul_comm]
    refine ⟨S, ?_, fr43.rfl', hT⟩
    rw [LX0_leastCost_30, if_pos (by rw [hB.2.2.2.2.1]; exact (nI_ltI (by omega) (by omega)).mpr (by omega)), BX0_leastCost_139, hB.2.2.2.2.1, hB.2.2.2.2.2.2.2.1, i0, if_neg (nI_in (N := 2501) (by omega) (by omega)), nI_clamp (by omega), hT b (Nat.le_refl _) J (Nat.le_refl _)]
  | succ k ih =>
    intro fl b S h1 h2 hB hT
    obtain ⟨fl, rfl⟩ : ∃ m, fl = m + 1 := ⟨fl - 1, by omega⟩
    have hJ := hB.2.1
    have hn := hB.1
    have i0 : nI (b + 1) * 61 = nI (61 * (b + 1)) := by
      rw [show nI (b + 1) * 61 = nI ((b + 1) * 61) from pk_mul (b + 1) 61, Nat.mul_comm]
    have hB1 : bookC (sta S 43 (61 * (b + 1)) (nI ((b + 1) * mi))) r n J mi ex bk ln := hB.fr hr fr43.sta
    obtain ⟨S1, a1, a2, a3⟩ := least_in nF (b := b) hr (by omega) (LX0_leastCost_30 nF fl) J nF 0 (sta S 43 (61 * (b + 1)) (nI ((b + 1) * mi))) (by omega) (by omega) hB1 (fun i hi j hj => by rw [sta_ne2 (by omega)]; exact hT i hi j hj) (fun j hj => by
      obtain rfl : j = 0 := by omega
      rw [cst_c]
      exact sta_eq)
    obtain ⟨S', b1, b2, b3⟩ := ih fl (b + 1) S1 (by omega) (by omega) (hB1.fr hr a2) a3
    refine ⟨S', ?_, (fr43.sta.trans a2).trans b2, b3⟩
    rw [LX0_leastCost_30, if_neg (by rw [hB.2.2.2.2.1]; exact nI_nlt (by omega) (by omega)), i0, if_neg (nI_in (N := 2501) (by omega) (by omega)), nI_clamp (by omega), hB.2.2.2.2.2.1, pk_mul]
    exact a1.trans b1
theorem least_0 (nF : Nat) {r n J mi ex : Nat} {bk ln : Nat → Nat} (hr : r < 2) : ∀ (k fl f : Nat) (S : PS), f + k = J + 1 → k < fl → bookC S r n J mi ex bk ln → (∀ j, j < f → S.2 43 j = nI (cst bk ln mi ex 0 j)) → ∃ S', LX0_leastCost_2 nF fl S (1 + r) (nI f) = LX0_leastCost_30 nF nF S' (1 + r) 1 ∧ fr43 S S' ∧ (∀ j, j ≤ J → S'.2 43 j = nI (cst bk ln mi ex 0 j)) := by
  intro k
  induction k with
  | zero =>
    intro fl f S h1 h2 hB hT
    obtain ⟨fl, rfl⟩ : ∃ m, fl = m + 1 := ⟨fl - 1, by omega⟩
    obtain rfl : f = J + 1 := by omega
    have hJ := hB.2.1
    refine ⟨S, ?_, fr43.rfl', fun j hj => hT j (by omega)⟩
    rw [LX0_leastCost_2, if_pos (by rw [hB.2.2.2.2.2.2.2.1]; exact (nI_ltI (by omega) (by omega)).mpr (by omega)), BX0_leastCost_28]
  | succ k ih =>
    intro fl f S h1 h2 hB hT
    obtain ⟨fl, rfl⟩ : ∃ m, fl = m + 1 := ⟨fl - 1, by omega⟩
    have hJ := hB.2.1
    rw [LX0_leastCost_2, if_neg (by rw [hB.2.2.2.2.2.2.2.1]; exact nI_nlt (by omega) (by omega)), if_neg (nI_in (N := 2501) (by omega) (by omega)), nI_clamp (by omega), hB.2.2.2.2.2.2.1, pk_mul, nI_1]
    obtain ⟨S', a1, a2, a3⟩ := ih fl (f + 1) (sta S 43 f (nI (f * ex))) (by omega) (by omega) (hB.fr hr fr43.sta) (fun j hj => by
      by_cases e : j = f
      · subst e; rw [cst_0]; exact sta_eq
      · rw [sta_ne2 (by omega)]; exact hT j (by omega))
    exact ⟨S', a1, fr43.sta.trans a2, a3⟩
theorem least_C (nF : Nat) (hF : 1000 ≤ nF) {S : PS} {r n J mi ex : Nat} {bk ln : Nat → Nat} (hr : r < 2) (hB : bookC S r n J mi ex bk ln) : ∃ S', fX0_leastCost nF S (1 + r) = some (nI (cst bk ln mi ex n J), S') ∧ fr43 S S' ∧ (∀ i, i ≤ n → ∀ j, j ≤ J → S'.2 43 (61 * i + j) = nI (cst bk ln mi ex i j)) := by
  have hJ := hB.2.1
  have hn := hB.1
  obtain ⟨S1, a1, a2, a3⟩ := least_0 nF hr (J + 1) nF 0 S (by omega) (by omega) hB (fun j hj => absurd hj (Nat.not_lt_zero _))
  obtain ⟨S', b1, b2, b3⟩ := least_out nF hF hr n nF 0 S1 (by omega) (by omega) (hB.fr hr a2) (fun i hi j hj => by
    obtain rfl : i = 0 := by omega
    rw [Nat.mul_zero, Nat.zero_add]
    exact a3 j hj)
  exact ⟨S', a1.trans b1, a2.trans b2, b3⟩
