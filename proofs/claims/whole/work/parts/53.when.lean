/-! digs: when -/
def ahN (f : Nat → Int32) (w : Nat) : Nat → Nat
  | 0 => 0
  | v + 1 => ahN f w v + (if f v < f w ∨ (f v = f w ∧ v < w) then 1 else 0)
theorem ahN_le (f : Nat → Int32) (w : Nat) : ∀ v, ahN f w v ≤ v
  | 0 => Nat.le_refl _
  | v + 1 => by
    have := ahN_le f w v
    rw [ahN]
    split <;> omega
theorem ahN_lt (f : Nat → Int32) (w : Nat) : ∀ v, w < v → ahN f w v < v
  | 0, h => by omega
  | v + 1, h => by
    rw [ahN]
    by_cases e : v = w
    · subst e
      rw [if_neg (by rintro (q | ⟨_, q⟩); exact absurd q Int32.lt_irrefl; omega)]
      have := ahN_le f v v
      omega
    · have := ahN_lt f w v (by omega)
      split <;> omega
theorem ahC_loop (nF : Nat) {S : PS} {f : Nat → Int32} {n w : Nat} (hn : n ≤ 30) (hw : w < n) (h2 : S.1 55 2 = nI n) (hf : ∀ v, v < n → S.2 56 v = f v) : ∀ (k fl v : Nat), v + k = n → k < fl → LX1_worksAheadOf_4 nF fl S (nI w) (nI (ahN f w v)) (nI v) = some (nI (ahN f w n)) := by
  intro k
  induction k with
  | zero =>
    intro fl v h1 hfl
    obtain ⟨fl, rfl⟩ : ∃ m, fl = m + 1 := ⟨fl - 1, by omega⟩
    obtain rfl : v = n := by omega
    rw [LX1_worksAheadOf_4, if_pos (by rw [h2]; exact nI_le (Nat.le_refl _) (by omega))]
  | succ k ih =>
    intro fl v h1 hfl
    obtain ⟨fl, rfl⟩ : ∃ m, fl = m + 1 := ⟨fl - 1, by omega⟩
    have e := ih fl (v + 1) (by omega) (by omega)
    rw [LX1_worksAheadOf_4, if_neg (by rw [h2]; exact nI_ge (by omega) (by omega)), if_neg (nI_in (N := 30) (by omega) (by omega)), if_neg (nI_in (N := 30) (by omega) (by omega)), nI_clamp (by omega), nI_clamp (by omega), nI_1 v, nI_1 (ahN f w v), hf v (by omega), hf w (by omega)]
    rw [ahN] at e
    by_cases c1 : f v < f w
    · rw [if_pos (Or.inl c1)] at e
      rw [if_pos c1]
      exact e
    · rw [if_neg c1]
      by_cases c2 : f v = f w
      · rw [if_pos c2]
        by_cases c3 : v < w
        · rw [if_pos (Or.inr ⟨c2, c3⟩)] at e
          rw [if_neg (nI_ge c3 (by omega))]
          exact e
        · rw [if_neg (by rintro (q | ⟨_, q⟩); exact c1 q; exact c3 q)] at e
          rw [if_pos (nI_le (by omega) (by omega))]
          exact e
      · rw [if_neg (by rintro (q | ⟨q, _⟩); exact c1 q; exact c2 q)] at e
        rw [if_neg c2]
        exact e
theorem ahM_loop (nF : Nat) {M : PS} {n w : Nat} {s : Int32} (hn : n ≤ 30) (hw : w < n) (h2 : M.1 0 36 = nI n) : ∀ (k fl v : Nat), v + k = n → k < fl → LX10_when_35 nF fl M (nI w) s (nI (ahN (M.2 24) w v)) (nI v) = BX10_when_96 nF M s (nI (ahN (M.2 24) w n)) := by
  intro k
  induction k with
  | zero =>
    intro fl v h1 hfl
    obtain ⟨fl, rfl⟩ : ∃ m, fl = m + 1 := ⟨fl - 1, by omega⟩
    obtain rfl : v = n := by omega
    rw [LX10_when_35, if_pos (by rw [h2]; exact nI_le (Nat.le_refl _) (by omega))]
  | succ k ih =>
    intro fl v h1 hfl
    obtain ⟨fl, rfl⟩ : ∃ m, fl = m + 1 := ⟨fl - 1, by omega⟩
    have e := ih fl (v + 1) (by omega) (by omega)
    rw [LX10_when_35, if_neg (by rw [h2]; exact nI_ge (by omega) (by omega)), if_neg (nI_in (N := 30) (by omega) (by omega)), if_neg (nI_in (N := 30) (by omega) (by omega)), nI_clamp (by omega), nI_clamp (by omega), nI_1 v, nI_1 (ahN (M.2 24) w v), Int32.add_zero]
    rw [ahN] at e
    by_cases c1 : M.2 24 v < M.2 24 w
    · rw [if_pos (Or.inl c1)] at e
      rw [if_pos c1]
      exact e
    · rw [if_neg c1]
      by_cases c2 : M.2 24 v = M.2 24 w
      · rw [if_pos c2]
        by_cases c3 : v < w
        · rw [if_pos (Or.inr ⟨c2, c3⟩)] at e
          rw [if_neg (nI_ge c3 (by omega))]
          exact e
        · rw [if_neg (by rintro (q | ⟨_, q⟩); exact c1 q; exact c3 q)] at e
          rw [if_pos (nI_le (by omega) (by omega))]
          exact e
      · rw [if_neg (by rintro (q | ⟨q, _⟩); exact c1 q; exact c2 q)] at e
        rw [if_neg c2]
        exact e
theorem year_loop (nF : Nat) {S M : PS} {s K : Nat} (hs : s < 256) (hK1 : 1 ≤ K) (hK : K ≤ 30) (h4 : S.1 55 4 = nI K) : ∀ (k fl y a : Nat), y + k = 8 → k < fl → a < 1000 → a + K * rmN s y < K * rmN s 8 → ∃ x : Int32, LX1_yearOf_9 nF fl S (nI s) (nI a) (nI (y + 1)) = some x ∧ LX10_when_107 nF fl M (nI s) (nI y) (nI (a / K)) = some x := by
  intro k
  induction k with
  | zero =>
    intro fl y a h1 hfl ha h
    obtain rfl : y = 8 := by omega
    omega
  | succ k ih =>
    intro fl y a h1 hfl ha h
    obtain ⟨fl, rfl⟩ : ∃ m, fl = m + 1 := ⟨fl - 1, by omega⟩
    have hq : a / K ≤ a := Nat.div_le_self a K
    rw [LX1_yearOf_9, LX10_when_107, if_neg (show ¬ (8 : Int32) < nI (y + 1) from fun q => absurd ((nI_ltI (a := 8) (by omega) (by omega)).mp q) (by omega)), hasYear_eq hs (by omega), bit_eq s hs y (by omega), h4, nI_1, nI_1]
    rcases Nat.mod_two_eq_zero_or_one (s / 2 ^ y) with hb | hb
    · rw [hb, if_pos (show nI 0 = 0 from rfl), if_pos (show nI 0 = 0 from rfl), show nI (a / K) - nI 0 = nI (a / K) from Int32.sub_zero _]
      exact ih fl (y + 1) a (by omega) (by omega) ha (by rw [rmN, hb]; exact h)
    · rw [hb, if_neg (show ¬ nI 1 = 0 by decide), if_neg (show ¬ nI 1 = 0 by decide)]
      by_cases c : K ≤ a
      · have hd : (a - K) / K = a / K - 1 := by
          obtain ⟨z, rfl⟩ : ∃ z, a = z + K := ⟨a - K, by omega⟩
          rw [Nat.add_sub_cancel, Nat.add_div_right _ (by omega)]
          rfl
        have h1K : 1 ≤ a / K := (Nat.one_le_div_iff (by omega)).mpr c
        rw [if_pos (nI_le c (by omega)), if_neg (nI_nle (n := a / K) (by omega) (by omega)), pk_sub c, pk_sub h1K, ← hd]
        refine ih fl (y + 1) (a - K) (by omega) (by omega) (by omega) ?_
        rw [rmN, hb, Nat.mul_add, Nat.mul_one]
        omega
      · have h0 : a / K = 0 := Nat.div_eq_of_lt (by omega)
        rw [if_neg (nI_ge (by omega) (by omega)), h0, if_pos (show nI 0 ≤ 0 by decide)]
        exact ⟨nI (y + 1), rfl, rfl⟩
theorem okN_last (d r : Nat → Nat) : ∀ (k y : Nat), okN d r y (k + 1) ≠ 0 → d (y + k + 1) ≤ r (y + k + 1)
  | 0, y, h => by
    rw [okN] at h
    by_cases c : d (y + 1) ≤ r (y + 1)
    · exact c
    · rw [if_neg c] at h
      exact absurd rfl h
  | k + 1, y, h => by
    rw [okN] at h
    by_cases c : d (y + 1) ≤ r (y + 1)
    · rw [if_pos c] at h
      have := okN_last d r k (y + 1) h
      rw [show y + (k + 1) + 1 = y + 1 + k + 1 by omega]
      exact this
    · rw [if_neg c] at h
      exact absurd rfl h
theorem sim_when_ok (nF : Nat) (hF : 1000 ≤ nF) : sim_when nF Inv := by
  intro S M a1 hI
  obtain ⟨x, n, K, c, g, x1, x2, hn, hK1, hK, hc, hg, e1, e2, e3, e4, e5, e6, e7, e8, hf, hx⟩ := best_eq nF hF hI.2.2.2.2.2.1
  have hs1 : (nI n - 1).toInt = (n : Int) - 1 := pk_sub_toInt (a := n) (b := 1) (by omega) (by omega)
  by_cases c1 : fX10_in M a1 0 (M.1 0 36 - 1) = 0
  · refine ⟨-2, S, M, ⟨?_, rfl⟩, ⟨by rw [fX10_when, if_pos c1], rfl⟩, hI⟩
    rw [fX9_when]
    by_cases c2 : a1 < 0
    · rw [if_pos c2]
    · rw [if_neg c2, if_neg ?_]
      intro c3
      refine in_pos (M := M) (a := a1) (b := 0) (z := M.1 0 36 - 1) ?_ c1
      rw [e1, Int32.lt_iff_toInt_lt, nI_toInt (by omega)] at c3
      rw [Int32.lt_iff_toInt_lt] at c2
      have h0 : (0 : Int32).toInt = 0 := rfl
      rw [e2, hs1]
      exact ⟨by omega, by omega⟩
  have hb := in_btw c1
  rw [e2, hs1] at hb
  have h0 : (0 : Int32).toInt = 0 := rfl
  obtain ⟨w, hw, rfl⟩ : ∃ w : Nat, w < n ∧ a1 = nI w := ⟨_, by have := clamp_toInt (x := a1) (by omega); omega, nI_of_btw (b := (n : Int) - 1) ⟨by omega, hb.2⟩⟩
  have g1 : ¬ nI w < 0 := nI_pos (by omega)
  have g2 : nI w < S.1 55 2 := by rw [e1]; exact (nI_ltI (by omega) (by omega)).mpr hw
  rcases hx with rfl | ⟨b, b1, rfl, b3⟩
  · exact ⟨-4, S, M, ⟨by rw [fX9_when, if_neg g1, if_pos g2, x1]; rfl, rfl⟩, ⟨by rw [fX10_when, if_neg c1, x2]; rfl, rfl⟩, hI⟩
  have hne : ¬ nI b = -1 := by
    intro q
    have := congrArg Int32.toInt q
    rw [nI_toInt (by omega)] at this
    have h1 : (-1 : Int32).toInt = -1 := rfl
    omega
  have hlast : dueM (M.2 24) 8 n ≤ K * rmN b 8 := okN_last _ _ 7 0 b3
  rw [due_8 (fun w hw => (hf w hw).2)] at hlast
  have hah := ahN_lt (M.2 24) w n hw
  have hr : K * rmN b 8 ≤ 30 * 8 := Nat.mul_le_mul hK (rmN_le b 8)
  obtain ⟨x, y1, y2⟩ := year_loop nF (S := S) (M := M) (s := b) b1 hK1 hK e3 8 nF 0 (ahN (M.2 24) w n) rfl (by omega) (by omega) (by rw [show rmN b 0 = 0 from rfl]; omega)
  refine ⟨x, S, M, ⟨?_, rfl⟩, ⟨?_, rfl⟩, hI⟩
  · have e := ahC_loop nF hn hw e1 (fun v hv => (hf v hv).1) n nF 0 (by omega) (by omega)
    rw [fX9_when, if_neg g1, if_pos g2, x1, Option.bind_some, if_neg hne, fX1_yearOf, fX1_worksAheadOf]
    rw [show (LX1_worksAheadOf_4 nF nF S (nI w) 0 0) = some (nI (ahN (M.2 24) w n)) from e, Option.bind_some, show (LX1_yearOf_9 nF nF S (nI b) (nI (ahN (M.2 24) w n)) 1) = some x from y1]
    rfl
  · have e := ahM_loop nF (M := M) (s := nI b) hn hw e2 n nF 0 (by omega) (by omega)
    rw [fX10_when, if_neg c1, x2, Option.bind_some, if_neg hne]
    refine Eq.trans e ?_
    rw [BX10_when_96, e4, if_neg (nI_ne0 (by omega) (by omega)), pk_div (by omega) (by omega) (by omega)]
    exact y2
