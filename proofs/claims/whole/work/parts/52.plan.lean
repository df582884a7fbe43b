/-! digs: plan, years -/
def rmN (s : Nat) : Nat → Nat
  | 0 => 0
  | y + 1 => rmN s y + s / 2 ^ y % 2
def dueM (f : Nat → Int32) (y : Nat) : Nat → Nat
  | 0 => 0
  | n + 1 => dueM f y n + (if nI y < f n then 0 else 1)
def okN (d r : Nat → Nat) : Nat → Nat → Int32
  | _, 0 => 1
  | y, k + 1 => if d (y + 1) ≤ r (y + 1) then okN d r (y + 1) k else 0
theorem bit_eq : ∀ s : Nat, s < 256 → ∀ y : Nat, y < 8 → ((nI s >>> (nI y &&& 31)) &&& 1) = nI (s / 2 ^ y % 2) := by decide +kernel
theorem low_eq : ∀ s : Nat, s < 256 → ∀ y : Nat, y < 9 → bits8 (nI s &&& (((1 : Int32) <<< (nI y &&& 31)) - 1)) = nI (rmN s y) := by decide +kernel
theorem all_eq : ∀ s : Nat, s < 256 → bits8 (nI s) = nI (rmN s 8) := by decide +kernel
theorem rmN_le (s : Nat) : ∀ y, rmN s y ≤ y
  | 0 => Nat.le_refl _
  | y + 1 => by
    have := rmN_le s y
    rw [rmN]
    omega
theorem dueM_le (f : Nat → Int32) (y : Nat) : ∀ n, dueM f y n ≤ n
  | 0 => Nat.le_refl _
  | n + 1 => by
    have := dueM_le f y n
    rw [dueM]
    split <;> omega
theorem due_succ {f : Nat → Int32} {y : Nat} (hy : y < 8) : ∀ {n : Nat}, (∀ w, w < n → ∃ m : Nat, 1 ≤ m ∧ m ≤ 8 ∧ f w = nI m) → dueM f y n + cntY f (nI (y + 1)) n = dueM f (y + 1) n
  | 0, _ => rfl
  | n + 1, h => by
    have ih := due_succ hy (fun w hw => h w (Nat.lt_succ_of_lt hw))
    obtain ⟨m, m1, m2, m3⟩ := h n (Nat.lt_succ_self n)
    rw [dueM, dueM, cntY, ← ih, m3]
    have e1 : (nI y < nI m) ↔ y < m := nI_ltI (by omega) (by omega)
    have e2 : (nI (y + 1) < nI m) ↔ y + 1 < m := nI_ltI (by omega) (by omega)
    have e3 : (nI m = nI (y + 1)) ↔ m = y + 1 := nI_eq (by omega) (by omega)
    by_cases c1 : y < m
    · by_cases c2 : m = y + 1
      · rw [if_pos (e1.mpr c1), if_neg (fun q => absurd (e2.mp q) (by omega)), if_pos (e3.mpr c2)]; omega
      · rw [if_pos (e1.mpr c1), if_pos (e2.mpr (by omega)), if_neg (fun q => c2 (e3.mp q))]; omega
    · rw [if_neg (fun q => c1 (e1.mp q)), if_neg (fun q => absurd (e2.mp q) (by omega)), if_neg (fun q => absurd (e3.mp q) (by omega))]; omega
theorem due_0 {f : Nat → Int32} : ∀ {n : Nat}, (∀ w, w < n → ∃ m : Nat, 1 ≤ m ∧ m ≤ 8 ∧ f w = nI m) → dueM f 0 n = 0
  | 0, _ => rfl
  | n + 1, h => by
    obtain ⟨m, m1, m2, m3⟩ := h n (Nat.lt_succ_self n)
    rw [dueM, due_0 (fun w hw => h w (Nat.lt_succ_of_lt hw)), m3, if_pos ((nI_ltI (by omega) (by omega)).mpr (by omega))]
theorem due_8 {f : Nat → Int32} : ∀ {n : Nat}, (∀ w, w < n → ∃ m : Nat, 1 ≤ m ∧ m ≤ 8 ∧ f w = nI m) → dueM f 8 n = n
  | 0, _ => rfl
  | n + 1, h => by
    obtain ⟨m, m1, m2, m3⟩ := h n (Nat.lt_succ_self n)
    rw [dueM, due_8 (fun w hw => h w (Nat.lt_succ_of_lt hw)), m3, if_neg (fun q => absurd ((nI_ltI (by omega) (by omega)).mp q) (by omega))]
theorem hasYear_eq {S : PS} {s y : Nat} (hs : s < 256) (hy : y < 8) : fX1_hasYear S (nI s) (nI (y + 1)) = nI (s / 2 ^ y % 2) := by
  unfold fX1_hasYear
  rw [nI_pred, bit_eq s hs y hy]
  rcases Nat.mod_two_eq_zero_or_one (s / 2 ^ y) with h | h <;> rw [h] <;> rfl
theorem enough_loop (nF : Nat) {S : PS} {f : Nat → Int32} {n K s : Nat} (hs : s < 256) (hn : n ≤ 30) (hK : K ≤ 30) (h4 : S.1 55 4 = nI K) (h57 : ∀ y : Nat, y < 9 → S.2 57 y = nI (cntY f (nI y) n)) (hf : ∀ w, w < n → ∃ m : Nat, 1 ≤ m ∧ m ≤ 8 ∧ f w = nI m) : ∀ (k fl y : Nat), y + k = 8 → k < fl → LX1_isEnough_7 nF fl S (nI s) (nI (dueM f y n)) (nI (K * rmN s y)) (nI (y + 1)) = some (okN (fun y => dueM f y n) (fun y => K * rmN s y) y k) := by
  intro k
  induction k with
  | zero =>
    intro fl y h1 h2
    obtain ⟨fl, rfl⟩ : ∃ m, fl = m + 1 := ⟨fl - 1, by omega⟩
    rw [LX1_isEnough_7, if_pos (show (8 : Int32) < nI (y + 1) from (nI_ltI (a := 8) (by omega) (by omega)).mpr (by omega))]
    rfl
  | succ k ih =>
    intro fl y h1 h2
    obtain ⟨fl, rfl⟩ : ∃ m, fl = m + 1 := ⟨fl - 1, by omega⟩
    have hd := dueM_le f (y + 1) n
    have hr : K * rmN s (y + 1) ≤ 30 * 8 := Nat.mul_le_mul hK (Nat.le_trans (rmN_le s _) (by omega))
    have tail : ∀ t0 : Int32, nI (K * rmN s y) + t0 = nI (K * rmN s (y + 1)) → BX1_isEnough_43 nF (LX1_isEnough_7 nF fl) S (nI s) (nI (dueM f (y + 1) n)) (nI (y + 1)) t0 (nI (K * rmN s y)) = some (okN (fun y => dueM f y n) (fun y => K * rmN s y) y (k + 1)) := by
      intro t0 e
      rw [BX1_isEnough_43, e, nI_1, okN]
      by_cases c : dueM f (y + 1) n ≤ K * rmN s (y + 1)
      · rw [if_pos ((nI_leI (by omega) (by omega)).mpr c), if_pos c]
        exact ih fl (y + 1) (by omega) (by omega)
      · rw [if_neg (fun q => c ((nI_leI (by omega) (by omega)).mp q)), if_neg c]
    rw [LX1_isEnough_7, if_neg (show ¬ (8 : Int32) < nI (y + 1) from fun q => absurd ((nI_ltI (a := 8) (by omega) (by omega)).mp q) (by omega)), if_neg (nI_in (N := 9) (by omega) (by omega)), nI_clamp (by omega), h57 (y + 1) (by omega), nI_add, due_succ (by omega) hf, hasYear_eq hs (by omega), h4]
    rcases Nat.mod_two_eq_zero_or_one (s / 2 ^ y) with h | h
    · rw [h, if_pos (show nI 0 = 0 from rfl)]
      exact tail 0 (by rw [rmN, h]; exact Int32.add_zero _)
    · rw [h, if_neg (show ¬ nI 1 = 0 by decide)]
      exact tail (nI K) (by rw [rmN, h, nI_add, Nat.mul_add, Nat.mul_one])
theorem due_loop (nF : Nat) (k2 : PS → Int32 → Int32 → Option Int32) {M : PS} {n y : Nat} {v : Int32} (hn : n ≤ 30) (h36 : M.1 0 36 = nI n) : ∀ (k fl w : Nat), w + k = n → k < fl → LX10_willDo_13 nF k2 fl M v (nI y) (nI (dueM (M.2 24) y w)) (nI w) = BX10_willDo_47 nF k2 M v (nI y) (nI (dueM (M.2 24) y n)) := by
  intro k
  induction k with
  | zero =>
    intro fl w h1 h2
    obtain ⟨fl, rfl⟩ : ∃ m, fl = m + 1 := ⟨fl - 1, by omega⟩
    obtain rfl : w = n := by omega
    rw [LX10_willDo_13, if_pos (by rw [h36]; exact nI_le (Nat.le_refl _) (by omega))]
  | succ k ih =>
    intro fl w h1 h2
    obtain ⟨fl, rfl⟩ : ∃ m, fl = m + 1 := ⟨fl - 1, by omega⟩
    have e := ih fl (w + 1) (by omega) (by omega)
    rw [LX10_willDo_13, if_neg (by rw [h36]; exact nI_ge (by omega) (by omega)), if_neg (nI_in (N := 30) (by omega) (by omega)), nI_clamp (by omega), nI_1 w]
    by_cases c : nI y < M.2 24 w
    · rw [dueM, if_pos c] at e
      rw [if_pos c]
      rw [Int32.add_zero]
      exact e
    · rw [dueM, if_neg c] at e
      rw [if_neg c, nI_1]
      exact e
theorem will_loop (nF : Nat) (hF : 1000 ≤ nF) {M : PS} {n K s : Nat} (hs : s < 256) (hn : n ≤ 30) (hK : K ≤ 30) (h36 : M.1 0 36 = nI n) (h39 : M.1 0 39 = nI K) : ∀ (k fl y : Nat), y + k = 8 → k < fl → LX10_willDo_2 nF fl M (nI s) (nI (y + 1)) = some (okN (fun y => dueM (M.2 24) y n) (fun y => K * rmN s y) y k) := by
  intro k
  induction k with
  | zero =>
    intro fl y h1 h2
    obtain ⟨fl, rfl⟩ : ∃ m, fl = m + 1 := ⟨fl - 1, by omega⟩
    rw [LX10_willDo_2, if_pos (show (8 : Int32) < nI (y + 1) from (nI_ltI (a := 8) (by omega) (by omega)).mpr (by omega))]
    rfl
  | succ k ih =>
    intro fl y h1 h2
    obtain ⟨fl, rfl⟩ : ∃ m, fl = m + 1 := ⟨fl - 1, by omega⟩
    have hd := dueM_le (M.2 24) (y + 1) n
    have hr : K * rmN s (y + 1) ≤ 30 * 8 := Nat.mul_le_mul hK (Nat.le_trans (rmN_le s _) (by omega))
    have e := due_loop nF (LX10_willDo_2 nF fl) (y := y + 1) (v := nI s) hn h36 n nF 0 (by omega) (by omega)
    rw [LX10_willDo_2, if_neg (show ¬ (8 : Int32) < nI (y + 1) from fun q => absurd ((nI_ltI (a := 8) (by omega) (by omega)).mp q) (by omega))]
    refine Eq.trans e ?_
    rw [BX10_willDo_47, many_eq hF, low_eq s hs (y + 1) (by omega), Option.bind_some, h39, pk_mul, nI_1, okN]
    by_cases c : dueM (M.2 24) (y + 1) n ≤ K * rmN s (y + 1)
    · rw [if_pos ((nI_leI (by omega) (by omega)).mpr c), if_pos c]
      exact ih fl (y + 1) (by omega) (by omega)
    · rw [if_neg (fun q => c ((nI_leI (by omega) (by omega)).mp q)), if_neg c]
theorem sumC_nat {f : Nat → Int32} : ∀ {n : Nat}, (∀ w, w < n → btw (f w) 1 1000) → ∃ c : Nat, c ≤ 1000 * n ∧ sumC f n = nI c
  | 0, _ => ⟨0, Nat.le_refl _, rfl⟩
  | n + 1, h => by
    obtain ⟨c, c1, c2⟩ := sumC_nat (n := n) (fun w hw => h w (Nat.lt_succ_of_lt hw))
    have hb := h n (Nat.lt_succ_self n)
    refine ⟨c + (f n).toNatClampNeg, ?_, ?_⟩
    · have := clamp_toInt (x := f n) (by have := hb.1; omega)
      have := hb.2
      omega
    · rw [sumC, c2, ← nI_add, ← nI_of_btw (b := 1000) ⟨by have := hb.1; omega, hb.2⟩]
def okS (M : PS) (s n K : Nat) : Int32 := okN (fun y => dueM (M.2 24) y n) (fun y => K * rmN s y) 0 8
theorem best_loop (nF : Nat) (hF : 1000 ≤ nF) {S M : PS} {n K c g : Nat} (hn : n ≤ 30) (hK : K ≤ 30) (hc : c ≤ 30000) (hg : g ≤ 10000) (h3 : S.1 55 3 = nI c) (h5 : S.1 55 5 = nI g) (h40 : M.1 0 40 = nI g) (h36 : M.1 0 36 = nI n) (h39 : M.1 0 39 = nI K) (h4 : S.1 55 4 = nI K) (h57 : ∀ y : Nat, y < 9 → S.2 57 y = nI (cntY (M.2 24) (nI y) n)) (hf : ∀ w, w < n → ∃ m : Nat, 1 ≤ m ∧ m ≤ 8 ∧ M.2 24 w = nI m) : ∀ (k fl s : Nat) (v : Int32), s + k = 256 → k < fl → (v = -1 ∨ ∃ b : Nat, b < 256 ∧ v = nI b ∧ okS M b n K ≠ 0) → ∃ x : Int32, LX1_bestYears_4 nF fl S v (nI s) = some x ∧ LX10_planned_4 nF fl M v (nI s) = some x ∧ (x = -1 ∨ ∃ b : Nat, b < 256 ∧ x = nI b ∧ okS M b n K ≠ 0) := by
  have hE : ∀ s, s < 256 → fX1_isEnough nF S (nI s) = some (okS M s n K) := by
    intro s hs
    have e := enough_loop nF hs hn hK h4 h57 hf 8 nF 0 rfl (by omega)
    rw [due_0 hf] at e
    exact e
  have hWd : ∀ s, s < 256 → fX10_willDo nF M (nI s) = some (okS M s n K) := fun s hs => will_loop nF hF hs hn hK h36 h39 8 nF 0 rfl (by omega)
  have hCo : ∀ s, s < 256 → fX1_costOf S (nI s) = nI (c + g * rmN s 8) := by
    intro s hs
    rw [fX1_costOf, bitCount_eq S s hs, all_eq s hs, h3, h5, pk_mul, nI_add]
  have hb : ∀ s, g * rmN s 8 ≤ 10000 * 8 := fun s => Nat.mul_le_mul hg (rmN_le s 8)
  have hm : ∀ s, s < 256 → fX10_many nF M (nI s) = some (nI (rmN s 8)) := fun s hs => by rw [many_eq hF, all_eq s hs]
  intro k
  induction k with
  | zero =>
    intro fl s v h1 h2 hv
    obtain ⟨fl, rfl⟩ : ∃ m, fl = m + 1 := ⟨fl - 1, by omega⟩
    obtain rfl : s = 256 := by omega
    exact ⟨v, by rw [LX1_bestYears_4, if_pos (by decide)], by rw [LX10_planned_4, if_pos (by decide)], hv⟩
  | succ k ih =>
    intro fl s v h1 h2 hv
    obtain ⟨fl, rfl⟩ : ∃ m, fl = m + 1 := ⟨fl - 1, by omega⟩
    have hs : s < 256 := by omega
    rw [LX1_bestYears_4, LX10_planned_4, if_neg (show ¬ (255 : Int32) < nI s from fun q => absurd ((nI_ltI (a := 255) (by omega) (by omega)).mp q) (by omega)), if_neg (show ¬ (256 : Int32) ≤ nI s from fun q => absurd ((nI_leI (a := 256) (by omega) (by omega)).mp q) (by omega)), hE s hs, hWd s hs, Option.bind_some, Option.bind_some, nI_1]
    by_cases c0 : okS M s n K = 0
    · rw [if_pos c0, if_pos c0]
      exact ih fl (s + 1) v (by omega) (by omega) hv
    · rw [if_neg c0, if_neg c0]
      rcases hv with rfl | ⟨b, b1, rfl, b3⟩
      · rw [if_pos rfl, if_pos rfl]
        exact ih fl (s + 1) _ (by omega) (by omega) (Or.inr ⟨s, hs, rfl, c0⟩)
      · have hne : ¬ nI b = -1 := by
          intro q
          have := congrArg Int32.toInt q
          rw [nI_toInt (by omega)] at this
          have h1 : (-1 : Int32).toInt = -1 := rfl
          omega
        rw [if_neg hne, if_neg hne, hm s hs, hm b b1, Option.bind_some, Option.bind_some, hCo s hs, hCo b b1, h40, pk_mul, pk_mul]
        have hb1 := hb b
        have hb2 := hb s
        by_cases c1 : g * rmN b 8 ≤ g * rmN s 8
        · rw [if_pos ((nI_leI (by omega) (by omega)).mpr (by omega)), if_pos ((nI_leI (by omega) (by omega)).mpr c1)]
          exact ih fl (s + 1) _ (by omega) (by omega) (Or.inr ⟨b, b1, rfl, b3⟩)
        · rw [if_neg (fun q => c1 (by have := (nI_leI (by omega) (by omega)).mp q; omega)), if_neg (fun q => c1 ((nI_leI (by omega) (by omega)).mp q))]
          exact ih fl (s + 1) _ (by omega) (by omega) (Or.inr ⟨s, hs, rfl, c0⟩)
theorem best_eq (nF : Nat) (hF : 1000 ≤ nF) {S M : PS} (hW : IW S M) : ∃ (x : Int32) (n K c g : Nat), fX1_bestYears nF S = some x ∧ fX10_planned nF M = some x ∧ n ≤ 30 ∧ 1 ≤ K ∧ K ≤ 30 ∧ c ≤ 30000 ∧ g ≤ 10000 ∧ S.1 55 2 = nI n ∧ M.1 0 36 = nI n ∧ S.1 55 4 = nI K ∧ M.1 0 39 = nI K ∧ S.1 55 5 = nI g ∧ M.1 0 40 = nI g ∧ S.1 55 3 = nI c ∧ sumC (M.2 23) n = nI c ∧ (∀ w, w < n → S.2 56 w = M.2 24 w ∧ ∃ m : Nat, 1 ≤ m ∧ m ≤ 8 ∧ M.2 24 w = nI m) ∧ (x = -1 ∨ ∃ b : Nat, b < 256 ∧ x = nI b ∧ okS M b n K ≠ 0) := by
  obtain ⟨w1, w2, w3, w4, w5, w6, w7, w8, w9⟩ := hW
  obtain ⟨n, hn, hMn⟩ : ∃ n : Nat, n ≤ 30 ∧ M.1 0 36 = nI n := ⟨_, by have := clamp_toInt w2.1; have := w2.2; omega, nI_of_btw w2⟩
  have w7' : btw (M.1 0 39) 0 30 := ⟨by have := w7.1; omega, w7.2⟩
  obtain ⟨K, hK1, hK, hMK⟩ : ∃ n : Nat, 1 ≤ n ∧ n ≤ 30 ∧ M.1 0 39 = nI n := ⟨_, by have := clamp_toInt w7'.1; have := w7.1; omega, by have := clamp_toInt w7'.1; have := w7.2; omega, nI_of_btw w7'⟩
  obtain ⟨g, hg, hMg⟩ : ∃ n : Nat, n ≤ 10000 ∧ M.1 0 40 = nI n := ⟨_, by have := clamp_toInt w9.1; have := w9.2; omega, nI_of_btw w9⟩
  have hcl : (M.1 0 36).toNatClampNeg = n := by rw [hMn]; exact nI_clamp (by omega)
  have hti : (M.1 0 36).toInt = n := by rw [hMn]; exact nI_toInt (by omega)
  rw [hcl] at w4 w5
  obtain ⟨c, hc, hMc⟩ := sumC_nat (f := M.2 23) (n := n) (fun w hw => (w3 w (by omega)).2.2)
  have hf : ∀ w, w < n → S.2 56 w = M.2 24 w ∧ ∃ m : Nat, 1 ≤ m ∧ m ≤ 8 ∧ M.2 24 w = nI m := fun w hw => by
    obtain ⟨a, b, _⟩ := w3 w (by omega)
    have b' : btw (M.2 24 w) 0 8 := ⟨by have := b.1; omega, b.2⟩
    exact ⟨a, _, by have := clamp_toInt b'.1; have := b.1; omega, by have := clamp_toInt b'.1; have := b.2; omega, nI_of_btw b'⟩
  obtain ⟨x, x1, x2, x3⟩ := best_loop nF hF (S := S) (M := M) hn hK (c := c) (by omega) hg (w5.trans hMc) (w8.trans hMg) hMg hMn hMK (w6.trans hMK) w4 (fun w hw => (hf w hw).2) 256 nF 0 (-1) rfl (by omega) (Or.inl rfl)
  exact ⟨x, n, K, c, g, x1, x2, hn, hK1, hK, by omega, hg, w1.trans hMn, hMn, w6.trans hMK, hMK, w8.trans hMg, hMg, w5.trans hMc, hMc, hf, x3⟩
theorem sim_years_ok (nF : Nat) (hF : 1000 ≤ nF) : sim_years nF Inv := by
  intro S M hI
  obtain ⟨x, n, K, c, g, x1, x2, _⟩ := best_eq nF hF hI.2.2.2.2.2.1
  refine ⟨if x = -1 then -4 else x, S, M, ⟨?_, rfl⟩, ⟨?_, rfl⟩, hI⟩
  · rw [fX9_years, x1, Option.bind_some]
    split <;> rfl
  · rw [fX10_years, x2, Option.bind_some]
    split <;> rfl
theorem plan_loop (nF : Nat) {M : PS} {n : Nat} (hn : n ≤ 30) (h36 : M.1 0 36 = nI n) (v : Int32) : ∀ (k fl w : Nat), w + k = n → k < fl → LX10_plan_25 nF fl M (v + sumC (M.2 23) w) (nI w) = some (v + sumC (M.2 23) n) := by
  intro k
  induction k with
  | zero =>
    intro fl w h1 h2
    obtain ⟨fl, rfl⟩ : ∃ m, fl = m + 1 := ⟨fl - 1, by omega⟩
    obtain rfl : w = n := by omega
    rw [LX10_plan_25, if_pos (by rw [h36]; exact nI_le (Nat.le_refl _) (by omega))]
  | succ k ih =>
    intro fl w h1 h2
    obtain ⟨fl, rfl⟩ : ∃ m, fl = m + 1 := ⟨fl - 1, by omega⟩
    have e := ih fl (w + 1) (by omega) (by omega)
    rw [LX10_plan_25, if_neg (by rw [h36]; exact nI_ge (by omega) (by omega)), if_neg (nI_in (N := 30) (by omega) (by omega)), nI_clamp (by omega), nI_1 w, Int32.add_assoc]
    exact e
theorem sim_plan_ok (nF : Nat) (hF : 1000 ≤ nF) : sim_plan nF Inv := by
  intro S M hI
  obtain ⟨x, n, K, c, g, x1, x2, hn, hK1, hK, hc, hg, a1, a2, a3, a4, a5, a6, a7, a8, hf, hx⟩ := best_eq nF hF hI.2.2.2.2.2.1
  rcases hx with rfl | ⟨b, b1, rfl, b3⟩
  · exact ⟨-4, S, M, ⟨by rw [fX9_plan, x1]; rfl, rfl⟩, ⟨by rw [fX10_plan, x2]; rfl, rfl⟩, hI⟩
  have hne : ¬ nI b = -1 := by
    intro q
    have := congrArg Int32.toInt q
    rw [nI_toInt (by omega)] at this
    have h1 : (-1 : Int32).toInt = -1 := rfl
    omega
  refine ⟨nI c + nI g * nI (rmN b 8), S, M, ⟨?_, rfl⟩, ⟨?_, rfl⟩, hI⟩
  · rw [fX9_plan, x1, Option.bind_some, if_neg hne, fX1_costOf, bitCount_eq S b b1, all_eq b b1, a7, a5]
  · have e := plan_loop nF hn a2 (nI g * nI (rmN b 8)) n nF 0 (by omega) (by omega)
    rw [fX10_plan, x2, Option.bind_some, if_neg hne, many_eq hF, all_eq b b1, Option.bind_some, a6]
    rw [show sumC (M.2 23) 0 = 0 from rfl, Int32.add_zero] at e
    refine Eq.trans e ?_
    rw [a8, Int32.add_comm]
