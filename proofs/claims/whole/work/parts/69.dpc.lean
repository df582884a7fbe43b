/-! the class' table of pairs -/
theorem or_eq : ∀ t, t < 32 → ∀ k, k < 5 → (nI t ||| ((1 : Int32) <<< (nI k &&& 31))) = nI (t ||| 2 ^ k) := by decide +kernel
theorem and_eq : ∀ t, t < 32 → ∀ k, k < 5 → ((nI t &&& ((1 : Int32) <<< (nI k &&& 31))) = 0 ↔ t / 2 ^ k % 2 = 0) := by decide +kernel
theorem or_lt : ∀ n, n < 6 → ∀ k, k < n → ∀ t, t < 2 ^ n → (t ||| 2 ^ k) < 2 ^ n := by decide +kernel
theorem shl_eq : ∀ n, n < 6 → (1 : Int32) <<< (nI n &&& 31) = nI (2 ^ n) := by decide +kernel
theorem pop_le : ∀ n, n < 6 → ∀ t, t < 2 ^ n → rmN t 8 ≤ n := by decide +kernel
theorem p2_le : ∀ n, n < 6 → 2 ^ n ≤ 32 := by decide
theorem sub1 (x : Int32) : x - 1 = x + -1 := Int32.sub_eq_add_neg x 1
def fr47 (S S' : PS) : Prop := S'.1 = S.1 ∧ ∀ a : Nat, a ≠ 47 → S'.2 a = S.2 a
theorem fr47.rfl' {S : PS} : fr47 S S := ⟨rfl, fun _ _ => rfl⟩
theorem fr47.trans {S S1 S2 : PS} (h : fr47 S S1) (h2 : fr47 S1 S2) : fr47 S S2 := ⟨h2.1.trans h.1, fun a q => (h2.2 a q).trans (h.2 a q)⟩
theorem fr47.sta {S : PS} {i : Nat} {v : Int32} : fr47 S (sta S 47 i v) := ⟨rfl, fun a q => sta_ne q⟩
def dataC (S : PS) (n0 n1 al : Nat) (pr : Nat → Nat → Nat) : Prop := n0 ≤ 5 ∧ n1 ≤ 5 ∧ al ≤ 100000 ∧ S.1 45 3 = nI n0 ∧ S.1 46 3 = nI n1 ∧ S.1 44 3 = nI al ∧ (∀ i k, i < n0 → k < n1 → pr i k ≤ 4600000 ∧ ((if 0 ≤ S.2 50 i - S.2 51 k then S.2 50 i - S.2 51 k else 0 - (S.2 50 i - S.2 51 k)) + 100 * fX9_hoursApart S (S.2 52 i) (S.2 53 k)) = nI (pr i k))
theorem dataC.fr {S S' : PS} {n0 n1 al : Nat} {pr : Nat → Nat → Nat} (h : dataC S n0 n1 al pr) (hf : fr47 S S') : dataC S' n0 n1 al pr := by
  unfold dataC at h ⊢
  rw [hf.1, hf.2 50 (by decide), hf.2 51 (by decide), hf.2 52 (by decide), hf.2 53 (by decide)]
  exact h
theorem bst_b {pr : Nat → Nat → Nat} {n1 al : Nat} (h1 : n1 ≤ 5) (h2 : al ≤ 100000) {j : Nat} (hj : j ≤ 5) (lv t : Nat) : (bst pr n1 al j lv t).1 ≤ 1000000 := by
  have a := bst_le pr n1 al j lv t
  have b : al * n1 ≤ 100000 * 5 := Nat.mul_le_mul h2 h1
  have c : al * j ≤ 100000 * 5 := Nat.mul_le_mul h2 hj
  omega
def tabP (S : PS) (n0 n1 al : Nat) (pr : Nat → Nat → Nat) (i : Nat) : Prop := ∀ lv j, lv + j = n0 → i ≤ lv → ∀ t, t < 2 ^ n1 → S.2 47 (32 * lv + t) = nI (bst pr n1 al j lv t).1
theorem wp_C (nF : Nat) {S : PS} {n0 n1 al i j k t : Nat} {pr : Nat → Nat → Nat} (h : dataC S n0 n1 al pr) (hi : i + (j + 1) = n0) (hk : k < n1) (ht : t < 2 ^ n1) (hT : tabP S n0 n1 al pr (i + 1)) : fX4_withPair nF S (nI i) (nI k) (nI t) = some (nI (pr i k + (bst pr n1 al j (i + 1) (t ||| 2 ^ k)).1)) := by
  obtain ⟨h0, h1, h2, h3, h4, h5, h6⟩ := h
  have hp := p2_le n1 (by omega)
  have hol := or_lt n1 (by omega) k hk t ht
  obtain ⟨p1, p2⟩ := h6 i k (by omega) hk
  have i0 : (nI i + 1) * 32 + (nI t ||| ((1 : Int32) <<< (nI k &&& 31))) = nI (32 * (i + 1) + (t ||| 2 ^ k)) := by
    rw [or_eq t (by omega) k (by omega), nI_1, show nI (i + 1) * 32 = nI ((i + 1) * 32) from pk_mul (i + 1) 32, nI_add, Nat.mul_comm]
  rw [fX4_withPair, if_neg (nI_in (N := 5) (by omega) (by omega)), if_neg (nI_in (N := 5) (by omega) (by omega)), i0, if_neg (nI_in (N := 192) (by omega) (by omega)), nI_clamp (by omega), nI_clamp (by omega), nI_clamp (by omega), hT (i + 1) j (by omega) (Nat.le_refl _) _ hol, p2, nI_add]
theorem lf_C (nF : Nat) {S : PS} {n0 n1 al i j t : Nat} {pr : Nat → Nat → Nat} (h : dataC S n0 n1 al pr) (hi : i + (j + 1) = n0) (ht : t < 2 ^ n1) (hT : tabP S n0 n1 al pr (i + 1)) : ∀ (d fl k : Nat), k + d = n1 → d < fl → LX4_leastFrom_22 nF fl S (nI i) (nI t) (nI (clN pr al (fun t' => bst pr n1 al j (i + 1) t') i t k)) (nI k) = some (nI (bst pr n1 al (j + 1) i t).1) := by
  have h1 := h.2.1
  have h2 := h.2.2.1
  have hn0 := h.1
  have hp := p2_le n1 (by omega)
  have hcl : ∀ k, clN pr al (fun t' => bst pr n1 al j (i + 1) t') i t k ≤ 1100000 := by
    intro k
    induction k with
    | zero =>
      have := bst_b (pr := pr) h1 h2 (show j ≤ 5 by omega) (i + 1) t
      show al + (bst pr n1 al j (i + 1) t).1 ≤ 1100000
      omega
    | succ k ih =>
      rw [clN]
      split
      · exact Nat.le_trans (Nat.min_le_left _ _) ih
      · exact ih
  intro d
  induction d with
  | zero =>
    intro fl k e1 e2
    obtain ⟨fl, rfl⟩ : ∃ m, fl = m + 1 := ⟨fl - 1, by omega⟩
    obtain rfl : k = n1 := by omega
    rw [LX4_leastFrom_22, if_pos (by rw [h.2.2.2.2.1]; exact nI_le (Nat.le_refl _) (by omega)), clN_eq]
  | succ d ih =>
    intro fl k e1 e2
    obtain ⟨fl, rfl⟩ : ∃ m, fl = m + 1 := ⟨fl - 1, by omega⟩
    have hk : k < n1 := by omega
    have e := ih fl (k + 1) (by omega) (by omega)
    rw [LX4_leastFrom_22, if_neg (by rw [h.2.2.2.2.1]; exact nI_ge (by omega) (by omega)), nI_1]
    rw [clN] at e
    by_cases c : t / 2 ^ k % 2 = 0
    · rw [if_pos c] at e
      rw [if_pos ((and_eq t (by omega) k (by omega)).mpr c), wp_C nF h hi hk ht hT, Option.bind_some, min_I (by have := hcl k; omega) ?_]
      · exact e
      · have := bst_b (pr := pr) h1 h2 (show j ≤ 5 by omega) (i + 1) (t ||| 2 ^ k)
        have := (h.2.2.2.2.2.2 i k (by omega) hk).1
        omega
    · rw [if_neg c] at e
      rw [if_neg (fun q => c ((and_eq t (by omega) k (by omega)).mp q))]
      exact e
theorem least_f (nF : Nat) (hF : 1000 ≤ nF) {S : PS} {n0 n1 al i j t : Nat} {pr : Nat → Nat → Nat} (h : dataC S n0 n1 al pr) (hi : i + (j + 1) = n0) (ht : t < 2 ^ n1) (hT : tabP S n0 n1 al pr (i + 1)) : fX4_leastFrom nF S (nI i) (nI t) = some (nI (bst pr n1 al (j + 1) i t).1) := by
  have hn0 := h.1
  have h1 := h.2.1
  have hp := p2_le n1 (by omega)
  have i0 : (nI i + 1) * 32 + nI t = nI (32 * (i + 1) + t) := by
    rw [nI_1, show nI (i + 1) * 32 = nI ((i + 1) * 32) from pk_mul (i + 1) 32, nI_add, Nat.mul_comm]
  have e := lf_C nF h hi ht hT n1 nF 0 (by omega) (by omega)
  rw [fX4_leastFrom, i0, if_neg (nI_in (N := 192) (by omega) (by omega)), nI_clamp (by omega), hT (i + 1) j (by omega) (Nat.le_refl _) t ht, h.2.2.2.2.2.1, nI_add]
  exact e
theorem row_C (nF : Nat) (hF : 1000 ≤ nF) {n0 n1 al i j : Nat} {pr : Nat → Nat → Nat} (hi : i + (j + 1) = n0) (k93 : PS → Int32 → Int32 → Option (Int32 × PS)) : ∀ (d fl t : Nat) (S : PS), t + d = 2 ^ n1 → d < fl → dataC S n0 n1 al pr → tabP S n0 n1 al pr (i + 1) → (∀ t', t' < t → S.2 47 (32 * i + t') = nI (bst pr n1 al (j + 1) i t').1) → ∃ S', LX4_leastCost_101 nF k93 fl S (nI (2 ^ n1)) (nI i) (nI t) = k93 S' (nI (2 ^ n1)) (nI i + -1) ∧ fr47 S S' ∧ tabP S' n0 n1 al pr i := by
  intro d
  induction d with
  | zero =>
    intro fl t S e1 e2 h hT hL
    obtain ⟨fl, rfl⟩ : ∃ m, fl = m + 1 := ⟨fl - 1, by omega⟩
    have hp := p2_le n1 (by have := h.2.1; omega)
    refine ⟨S, ?_, fr47.rfl', fun lv j' hl hle t' ht' => ?_⟩
    · rw [LX4_leastCost_101, if_pos (nI_le (by omega) (by omega)), BX4_leastCost_135]
    · by_cases q : lv = i
      · subst q
        obtain rfl : j' = j + 1 := by omega
        exact hL t' (by omega)
      · exact hT lv j' hl (by omega) t' ht'
  | succ d ih =>
    intro fl t S e1 e2 h hT hL
    obtain ⟨fl, rfl⟩ : ∃ m, fl = m + 1 := ⟨fl - 1, by omega⟩
    have hp := p2_le n1 (by have := h.2.1; omega)
    have hn0 := h.1
    have i0 : nI i * 32 + nI t = nI (32 * i + t) := by
      rw [show nI i * 32 = nI (i * 32) from pk_mul i 32, nI_add, Nat.mul_comm]
    rw [LX4_leastCost_101, if_neg (nI_ge (by omega) (by omega)), least_f nF hF h hi (by omega) hT, Option.bind_some, i0, if_neg (nI_in (N := 192) (by omega) (by omega)), nI_clamp (by omega), nI_1]
    obtain ⟨S', a1, a2, a3⟩ := ih fl (t + 1) (sta S 47 (32 * i + t) (nI (bst pr n1 al (j + 1) i t).1)) (by omega) (by omega) (h.fr fr47.sta) (fun lv j' hl hle t' ht' => by rw [sta_ne2 (by omega)]; exact hT lv j' hl hle t' ht') (fun t' ht' => by
      by_cases q : t' = t
      · subst q; exact sta_eq
      · rw [sta_ne2 (by omega)]; exact hL t' (by omega))
    exact ⟨S', a1, fr47.sta.trans a2, a3⟩
theorem tabs_C (nF : Nat) (hF : 1000 ≤ nF) {n0 n1 al : Nat} {pr : Nat → Nat → Nat} : ∀ (i fl : Nat) (S : PS), i < fl → i ≤ n0 → dataC S n0 n1 al pr → tabP S n0 n1 al pr i → ∃ S', LX4_leastCost_93 nF fl S (nI (2 ^ n1)) (nI i + -1) = some (nI (bst pr n1 al n0 0 0).1, S') ∧ fr47 S S' ∧ tabP S' n0 n1 al pr 0 := by
  intro i
  induction i with
  | zero =>
    intro fl S e1 e2 h hT
    obtain ⟨fl, rfl⟩ : ∃ m, fl = m + 1 := ⟨fl - 1, by omega⟩
    refine ⟨S, ?_, fr47.rfl', hT⟩
    have e : S.2 47 (32 * 0 + 0) = _ := hT 0 n0 (by omega) (Nat.le_refl _) 0 (Nat.two_pow_pos n1)
    rw [LX4_leastCost_93, if_pos (show nI 0 + -1 < 0 by decide), if_neg (show ¬ ((0 : Int32) < 0 ∨ 192 ≤ (0 : Int32).toNatClampNeg) by decide), ← e]
    rfl
  | succ i ih =>
    intro fl S e1 e2 h hT
    obtain ⟨fl, rfl⟩ : ∃ m, fl = m + 1 := ⟨fl - 1, by omega⟩
    have hn0 := h.1
    have hp := p2_le n1 (by have := h.2.1; omega)
    obtain ⟨j, hj⟩ : ∃ j, i + (j + 1) = n0 := ⟨n0 - i - 1, by omega⟩
    obtain ⟨S1, a1, a2, a3⟩ := row_C nF hF hj (LX4_leastCost_93 nF fl) (2 ^ n1) nF 0 S (by omega) (by omega) h hT (fun t' ht' => absurd ht' (Nat.not_lt_zero _))
    obtain ⟨S', b1, b2, b3⟩ := ih fl S1 (by omega) (by omega) (h.fr a2) a3
    refine ⟨S', ?_, a2.trans b2, b3⟩
    rw [LX4_leastCost_93, pk_m1, if_neg (nI_pos (by omega))]
    exact a1.trans b1
theorem base_C (nF : Nat) {n0 n1 al : Nat} {pr : Nat → Nat → Nat} : ∀ (d fl t : Nat) (S : PS), t + d = 2 ^ n1 → d < fl → dataC S n0 n1 al pr → (∀ t', t' < t → S.2 47 (32 * n0 + t') = nI (bst pr n1 al 0 n0 t').1) → ∃ S', LX4_leastCost_33 nF fl S (nI (2 ^ n1)) (nI t) = LX4_leastCost_93 nF nF S' (nI (2 ^ n1)) (nI n0 + -1) ∧ fr47 S S' ∧ tabP S' n0 n1 al pr n0 := by
  intro d
  induction d with
  | zero =>
    intro fl t S e1 e2 h hL
    obtain ⟨fl, rfl⟩ : ∃ m, fl = m + 1 := ⟨fl - 1, by omega⟩
    have hp := p2_le n1 (by have := h.2.1; omega)
    refine ⟨S, ?_, fr47.rfl', fun lv j' hl hle t' ht' => ?_⟩
    · rw [LX4_leastCost_33, if_pos (nI_le (by omega) (by omega)), BX4_leastCost_82, h.2.2.2.1, sub1]
    · obtain rfl : lv = n0 := by omega
      obtain rfl : j' = 0 := by omega
      exact hL t' (by omega)
  | succ d ih =>
    intro fl t S e1 e2 h hL
    obtain ⟨fl, rfl⟩ : ∃ m, fl = m + 1 := ⟨fl - 1, by omega⟩
    have hp := p2_le n1 (by have := h.2.1; omega)
    have hn0 := h.1
    have hn1 := h.2.1
    have hpop := pop_le n1 (by omega) t (by omega)
    have i0 : nI n0 * 32 + nI t = nI (32 * n0 + t) := by
      rw [show nI n0 * 32 = nI (n0 * 32) from pk_mul n0 32, nI_add, Nat.mul_comm]
    rw [LX4_leastCost_33, if_neg (nI_ge (by omega) (by omega)), h.2.2.2.1, i0, if_neg (nI_in (N := 192) (by omega) (by omega)), nI_clamp (by omega), h.2.2.2.2.1, h.2.2.2.2.2.1, bitCount_eq S t (by omega), all_eq t (by omega), pk_sub hpop, pk_mul, nI_1]
    obtain ⟨S', a1, a2, a3⟩ := ih fl (t + 1) (sta S 47 (32 * n0 + t) (nI (al * (n1 - rmN t 8)))) (by omega) (by omega) (h.fr fr47.sta) (fun t' ht' => by
      by_cases q : t' = t
      · subst q; exact sta_eq
      · rw [sta_ne2 (by omega)]; exact hL t' (by omega))
    exact ⟨S', a1, fr47.sta.trans a2, a3⟩
theorem table_C (nF : Nat) (hF : 1000 ≤ nF) {S : PS} {n0 n1 al : Nat} {pr : Nat → Nat → Nat} (h : dataC S n0 n1 al pr) : ∃ S', LX4_leastCost_33 nF nF S ((1 : Int32) <<< ((S.1 46 3) &&& 31)) 0 = some (nI (bst pr n1 al n0 0 0).1, S') ∧ fr47 S S' ∧ tabP S' n0 n1 al pr 0 := by
  have hn0 := h.1
  have hn1 := h.2.1
  have hp := p2_le n1 (by omega)
  obtain ⟨S1, a1, a2, a3⟩ := base_C nF (2 ^ n1) nF 0 S (by omega) (by omega) h (fun t' ht' => absurd ht' (Nat.not_lt_zero _))
  obtain ⟨S', b1, b2, b3⟩ := tabs_C nF hF n0 nF S1 (by omega) (Nat.le_refl _) (h.fr a2) a3
  refine ⟨S', ?_, a2.trans b2, b3⟩
  rw [h.2.2.2.2.1, shl_eq n1 (by omega)]
  exact a1.trans b1
theorem choice_C (nF : Nat) (hF : 1000 ≤ nF) {S : PS} {n0 n1 al i j t : Nat} {pr : Nat → Nat → Nat} (h : dataC S n0 n1 al pr) (hi : i + (j + 1) = n0) (ht : t < 2 ^ n1) (hT : tabP S n0 n1 al pr 0) : fX4_choiceAt nF S (nI i) (nI t) = some (if (bst pr n1 al (j + 1) i t).2 0 = n1 then -1 else nI ((bst pr n1 al (j + 1) i t).2 0)) := by
  have hn0 := h.1
  have hn1 := h.2.1
  have h2 := h.2.2.1
  have hp := p2_le n1 (by omega)
  have hT1 : tabP S n0 n1 al pr (i + 1) := fun lv j' hl hle t' ht' => hT lv j' hl (by omega) t' ht'
  have i0 : nI i * 32 + nI t = nI (32 * i + t) := by
    rw [show nI i * 32 = nI (i * 32) from pk_mul i 32, nI_add, Nat.mul_comm]
  have hv := bst_b (pr := pr) hn1 h2 (show j + 1 ≤ 5 by omega) i t
  have step : ∀ (fl k : Nat), k < n1 → LX4_choiceAt_2 nF (fl + 1) S (nI i) (nI t) (nI k) = if t / 2 ^ k % 2 = 0 ∧ pr i k + (bst pr n1 al j (i + 1) (t ||| 2 ^ k)).1 = (bst pr n1 al (j + 1) i t).1 then some (nI k) else LX4_choiceAt_2 nF fl S (nI i) (nI t) (nI (k + 1)) := by
    intro fl k hk
    have hb := bst_b (pr := pr) hn1 h2 (show j ≤ 5 by omega) (i + 1) (t ||| 2 ^ k)
    have hpk := (h.2.2.2.2.2.2 i k (by omega) hk).1
    rw [LX4_choiceAt_2, if_neg (by rw [h.2.2.2.2.1]; exact nI_ge (by omega) (by omega)), nI_1]
    by_cases c : t / 2 ^ k % 2 = 0
    · rw [if_pos ((and_eq t (by omega) k (by omega)).mpr c), wp_C nF h hi hk ht hT1, Option.bind_some, i0, if_neg (nI_in (N := 192) (by omega) (by omega)), nI_clamp (by omega), hT i (j + 1) hi (by omega) t ht]
      by_cases q : pr i k + (bst pr n1 al j (i + 1) (t ||| 2 ^ k)).1 = (bst pr n1 al (j + 1) i t).1
      · rw [if_pos ((nI_eq (by omega) (by omega)).mpr q), if_pos ⟨c, q⟩]
      · rw [if_neg (fun z => q ((nI_eq (by omega) (by omega)).mp z)), if_neg (fun z => q z.2)]
    · rw [if_neg (fun q => c ((and_eq t (by omega) k (by omega)).mp q)), if_neg (fun z => c z.1)]
  rcases bst_dig pr n1 al j i t with ⟨q1, q2, q3⟩ | ⟨kk, q0, qf, q1, q2, q3⟩
  · have hz : ∀ (d fl k : Nat), k + d = n1 → d < fl → LX4_choiceAt_2 nF fl S (nI i) (nI t) (nI k) = some (-1) := by
      intro d
      induction d with
      | zero =>
        intro fl k e1 e2
        obtain ⟨fl, rfl⟩ : ∃ m, fl = m + 1 := ⟨fl - 1, by omega⟩
        rw [LX4_choiceAt_2, if_pos (by rw [h.2.2.2.2.1]; exact nI_le (by omega) (by omega))]
      | succ d ih =>
        intro fl k e1 e2
        obtain ⟨fl, rfl⟩ : ∃ m, fl = m + 1 := ⟨fl - 1, by omega⟩
        rw [step fl k (by omega), if_neg (fun z => q3 k (by omega) z.1 z.2)]
        exact ih fl (k + 1) (by omega) (by omega)
    rw [q2, if_pos (show cns n1 (bst pr n1 al j (i + 1) t).2 0 = n1 from rfl)]
    exact hz n1 nF 0 (by omega) (by omega)
  · have hz : ∀ (d fl k : Nat), k + d = kk → d < fl → LX4_choiceAt_2 nF fl S (nI i) (nI t) (nI k) = some (nI kk) := by
      intro d
      induction d with
      | zero =>
        intro fl k e1 e2
        obtain ⟨fl, rfl⟩ : ∃ m, fl = m + 1 := ⟨fl - 1, by omega⟩
        obtain rfl : k = kk := by omega
        rw [step fl k (by omega), if_pos ⟨qf, q1.symm⟩]
      | succ d ih =>
        intro fl k e1 e2
        obtain ⟨fl, rfl⟩ : ∃ m, fl = m + 1 := ⟨fl - 1, by omega⟩
        rw [step fl k (by omega), if_neg (fun z => q3 k (by omega) z.1 z.2)]
        exact ih fl (k + 1) (by omega) (by omega)
    rw [q2, show cns kk (bst pr n1 al j (i + 1) (t ||| 2 ^ kk)).2 0 = kk from rfl, if_neg (by omega)]
    exact hz kk nF 0 (by omega) (by omega)
def othN (g0 g1 : Nat → Nat) (n1 m : Nat) : Nat → Nat → (Nat → Nat) → Int32
  | 0, _, _ => -1
  | j + 1, i, f => if g0 i = m then (if f 0 = n1 then -1 else nI (g1 (f 0))) else othN g0 g1 n1 m j (i + 1) (fun q => f (q + 1))
theorem other_C (nF : Nat) (hF : 1000 ≤ nF) {S : PS} {n0 n1 al m : Nat} {pr : Nat → Nat → Nat} {g0 g1 : Nat → Nat} (h : dataC S n0 n1 al pr) (hT : tabP S n0 n1 al pr 0) (hm : m < 40) (hg0 : ∀ i, i < n0 → S.2 48 i = nI (g0 i) ∧ g0 i < 40) (hg1 : ∀ k, k < n1 → S.2 49 k = nI (g1 k)) : ∀ (j fl i t : Nat), i + j = n0 → j < fl → t < 2 ^ n1 → LX4_otherOf_4 nF fl S (nI m) (nI t) (nI i) = some (othN g0 g1 n1 m j i (bst pr n1 al j i t).2) := by
  have hn0 := h.1
  have hn1 := h.2.1
  have hp := p2_le n1 (by omega)
  intro j
  induction j with
  | zero =>
    intro fl i t e1 e2 ht
    obtain ⟨fl, rfl⟩ : ∃ m, fl = m + 1 := ⟨fl - 1, by omega⟩
    rw [LX4_otherOf_4, if_pos (by rw [h.2.2.2.1]; exact nI_le (by omega) (by omega))]
    rfl
  | succ j ih =>
    intro fl i t e1 e2 ht
    obtain ⟨fl, rfl⟩ : ∃ m, fl = m + 1 := ⟨fl - 1, by omega⟩
    obtain ⟨u1, u2⟩ := hg0 i (by omega)
    rw [LX4_otherOf_4, if_neg (by rw [h.2.2.2.1]; exact nI_ge (by omega) (by omega)), choice_C nF hF h e1 ht hT, Option.bind_some, if_neg (nI_in (N := 5) (by omega) (by omega)), nI_clamp (by omega), u1, nI_1, othN]
    rcases bst_dig pr n1 al j i t with ⟨q1, q2, q3⟩ | ⟨kk, q0, qf, q1, q2, q3⟩
    · rw [q2, if_pos (show cns n1 (bst pr n1 al j (i + 1) t).2 0 = n1 from rfl), if_pos (show cns n1 (bst pr n1 al j (i + 1) t).2 0 = n1 from rfl), if_pos rfl]
      by_cases c : g0 i = m
      · rw [if_pos (by rw [c]), if_pos c]
        rfl
      · rw [if_neg (fun q => c ((nI_eq (by omega) (by omega)).mp q)), if_neg c]
        exact ih fl (i + 1) t (by omega) (by omega) ht
    · rw [q2, show cns kk (bst pr n1 al j (i + 1) (t ||| 2 ^ kk)).2 0 = kk from rfl, if_neg (show ¬ kk = n1 by omega), if_neg (show ¬ kk = n1 by omega), if_neg (nI_ne_m1 (by omega)), or_eq t (by omega) kk (by omega)]
      by_cases c : g0 i = m
      · rw [if_pos (by rw [c]), if_pos c, BX4_otherOf_36, if_neg (nI_ne_m1 (by omega)), if_neg (nI_in (N := 5) (by omega) (by omega)), nI_clamp (by omega), hg1 kk q0]
      · rw [if_neg (fun q => c ((nI_eq (by omega) (by omega)).mp q)), if_neg c]
        exact ih fl (i + 1) (t ||| 2 ^ kk) (by omega) (by omega) (or_lt n1 (by omega) kk q0 t ht)
