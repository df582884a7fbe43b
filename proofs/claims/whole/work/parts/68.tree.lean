/-! pairs of marks: the first choice of the least cost, told as a tree -/
def upd2 (o c : Option (Nat × (Nat → Nat))) : Option (Nat × (Nat → Nat)) :=
  match c with
  | none => o
  | some (x, f) =>
    match o with
    | none => some (x, f)
    | some (y, g) => if x < y then some (x, f) else some (y, g)
theorem upd2_n (o : Option (Nat × (Nat → Nat))) : upd2 o none = o := rfl
theorem upd2_0 (c : Option (Nat × (Nat → Nat))) : upd2 none c = c := by
  cases c with
  | none => rfl
  | some p => rfl
theorem upd2_s (y : Nat) (g : Nat → Nat) (x : Nat) (f : Nat → Nat) : upd2 (some (y, g)) (some (x, f)) = if x < y then some (x, f) else some (y, g) := rfl
theorem upd2_assoc (a b c : Option (Nat × (Nat → Nat))) : upd2 (upd2 a b) c = upd2 a (upd2 b c) := by
  cases c with
  | none => rfl
  | some p =>
    cases b with
    | none => rw [upd2_n, upd2_0]
    | some q =>
      cases a with
      | none => rw [upd2_0, upd2_0]
      | some s =>
        obtain ⟨z, h⟩ := p
        obtain ⟨x, f⟩ := q
        obtain ⟨y, g⟩ := s
        rw [upd2_s, upd2_s]
        by_cases c1 : x < y
        · rw [if_pos c1, upd2_s]
          by_cases c2 : z < x
          · rw [if_pos c2, upd2_s, if_pos (by omega)]
          · rw [if_neg c2, upd2_s, if_pos c1]
        · rw [if_neg c1, upd2_s]
          by_cases c2 : z < x
          · rw [if_pos c2, upd2_s]
          · rw [if_neg c2, upd2_s, if_neg c1, if_neg (by omega)]
def cns (d : Nat) (f : Nat → Nat) : Nat → Nat
  | 0 => d
  | q + 1 => f q
def fbN (cand : Nat → Option (Nat × (Nat → Nat))) : Nat → Option (Nat × (Nat → Nat))
  | 0 => none
  | d + 1 => upd2 (fbN cand d) (cand d)
def candN (pr : Nat → Nat → Nat) (n1 al : Nat) (b : Nat → Nat × (Nat → Nat)) (lv t d : Nat) : Option (Nat × (Nat → Nat)) := if d = n1 then some (al + (b t).1, cns n1 (b t).2) else if t / 2 ^ d % 2 = 0 then some (pr lv d + (b (t ||| 2 ^ d)).1, cns d (b (t ||| 2 ^ d)).2) else none
def bst (pr : Nat → Nat → Nat) (n1 al : Nat) : Nat → Nat → Nat → Nat × (Nat → Nat)
  | 0, _, t => (al * (n1 - rmN t 8), fun _ => 0)
  | j + 1, lv, t => (fbN (candN pr n1 al (fun t' => bst pr n1 al j (lv + 1) t') lv t) (n1 + 1)).getD (0, fun _ => 0)
theorem fbN_char (cand : Nat → Option (Nat × (Nat → Nat))) : ∀ d : Nat, (fbN cand d = none ∧ ∀ k, k < d → cand k = none) ∨ (∃ (k y : Nat) (g : Nat → Nat), k < d ∧ cand k = some (y, g) ∧ fbN cand d = some (y, g) ∧ (∀ k', k' < d → ∀ y' g', cand k' = some (y', g') → y ≤ y') ∧ (∀ k', k' < k → ∀ y' g', cand k' = some (y', g') → y < y'))
  | 0 => Or.inl ⟨rfl, fun k hk => absurd hk (Nat.not_lt_zero _)⟩
  | d + 1 => by
    rw [fbN]
    cases hc : cand d with
    | none =>
      rw [upd2_n]
      rcases fbN_char cand d with ⟨a, b⟩ | ⟨k, y, g, a, b, c, e, f⟩
      · refine Or.inl ⟨a, fun k hk => ?_⟩
        by_cases q : k = d
        · rw [q]; exact hc
        · exact b k (by omega)
      · refine Or.inr ⟨k, y, g, by omega, b, c, fun k' hk' y' g' hq => ?_, f⟩
        by_cases q : k' = d
        · rw [q, hc] at hq
          exact absurd hq (by simp)
        · exact e k' (by omega) y' g' hq
    | some p =>
      obtain ⟨x, h⟩ := p
      rcases fbN_char cand d with ⟨a, b⟩ | ⟨k, y, g, a, b, c, e, f⟩
      · refine Or.inr ⟨d, x, h, by omega, hc, by rw [a]; rfl, fun k' hk' y' g' hq => ?_, fun k' hk' y' g' hq => ?_⟩
        · by_cases q : k' = d
          · rw [q, hc] at hq
            injection hq with hq
            injection hq with h1 h2
            omega
          · rw [b k' (by omega)] at hq
            exact absurd hq (by simp)
        · rw [b k' hk'] at hq
          exact absurd hq (by simp)
      · rw [c, upd2_s]
        by_cases q : x < y
        · rw [if_pos q]
          refine Or.inr ⟨d, x, h, by omega, hc, rfl, fun k' hk' y' g' hq => ?_, fun k' hk' y' g' hq => ?_⟩
          · by_cases q2 : k' = d
            · rw [q2, hc] at hq
              injection hq with hq
              injection hq with h1 h2
              omega
            · have := e k' (by omega) y' g' hq
              omega
          · have := e k' (by omega) y' g' hq
            omega
        · rw [if_neg q]
          refine Or.inr ⟨k, y, g, by omega, b, rfl, fun k' hk' y' g' hq => ?_, f⟩
          by_cases q2 : k' = d
          · rw [q2, hc] at hq
            injection hq with hq
            injection hq with h1 h2
            omega
          · exact e k' (by omega) y' g' hq
theorem candN_last (pr : Nat → Nat → Nat) (n1 al : Nat) (b : Nat → Nat × (Nat → Nat)) (lv t : Nat) : candN pr n1 al b lv t n1 = some (al + (b t).1, cns n1 (b t).2) := if_pos rfl
theorem candN_free {pr : Nat → Nat → Nat} {n1 al : Nat} {b : Nat → Nat × (Nat → Nat)} {lv t d : Nat} (h : d < n1) (h2 : t / 2 ^ d % 2 = 0) : candN pr n1 al b lv t d = some (pr lv d + (b (t ||| 2 ^ d)).1, cns d (b (t ||| 2 ^ d)).2) := by
  unfold candN
  rw [if_neg (by omega), if_pos h2]
theorem candN_taken {pr : Nat → Nat → Nat} {n1 al : Nat} {b : Nat → Nat × (Nat → Nat)} {lv t d : Nat} (h : d < n1) (h2 : ¬ t / 2 ^ d % 2 = 0) : candN pr n1 al b lv t d = none := by
  unfold candN
  rw [if_neg (by omega), if_neg h2]
/-- what the best choice at a level is -/
theorem bst_char (pr : Nat → Nat → Nat) (n1 al j lv t : Nat) : fbN (candN pr n1 al (fun t' => bst pr n1 al j (lv + 1) t') lv t) (n1 + 1) = some (bst pr n1 al (j + 1) lv t) ∧ ∃ k, k ≤ n1 ∧ candN pr n1 al (fun t' => bst pr n1 al j (lv + 1) t') lv t k = some (bst pr n1 al (j + 1) lv t) ∧ (∀ k', k' ≤ n1 → ∀ y' g', candN pr n1 al (fun t' => bst pr n1 al j (lv + 1) t') lv t k' = some (y', g') → (bst pr n1 al (j + 1) lv t).1 ≤ y') ∧ (∀ k', k' < k → ∀ y' g', candN pr n1 al (fun t' => bst pr n1 al j (lv + 1) t') lv t k' = some (y', g') → (bst pr n1 al (j + 1) lv t).1 < y') := by
  rcases fbN_char (candN pr n1 al (fun t' => bst pr n1 al j (lv + 1) t') lv t) (n1 + 1) with ⟨a, b⟩ | ⟨k, y, g, a, b, c, e, f⟩
  · have := b n1 (by omega)
    rw [candN_last] at this
    exact absurd this (by simp)
  · have h : bst pr n1 al (j + 1) lv t = (y, g) := by
      rw [bst, c]
      rfl
    rw [h]
    exact ⟨c, k, by omega, b, fun k' hk' => e k' (by omega), f⟩
theorem bst_dig (pr : Nat → Nat → Nat) (n1 al j lv t : Nat) : ((bst pr n1 al (j + 1) lv t).1 = al + (bst pr n1 al j (lv + 1) t).1 ∧ (bst pr n1 al (j + 1) lv t).2 = cns n1 (bst pr n1 al j (lv + 1) t).2 ∧ ∀ k, k < n1 → t / 2 ^ k % 2 = 0 → ¬ pr lv k + (bst pr n1 al j (lv + 1) (t ||| 2 ^ k)).1 = (bst pr n1 al (j + 1) lv t).1) ∨ (∃ k, k < n1 ∧ t / 2 ^ k % 2 = 0 ∧ (bst pr n1 al (j + 1) lv t).1 = pr lv k + (bst pr n1 al j (lv + 1) (t ||| 2 ^ k)).1 ∧ (bst pr n1 al (j + 1) lv t).2 = cns k (bst pr n1 al j (lv + 1) (t ||| 2 ^ k)).2 ∧ ∀ k', k' < k → t / 2 ^ k' % 2 = 0 → ¬ pr lv k' + (bst pr n1 al j (lv + 1) (t ||| 2 ^ k')).1 = (bst pr n1 al (j + 1) lv t).1) := by
  obtain ⟨_, k, h1, h2, h3, h4⟩ := bst_char pr n1 al j lv t
  by_cases e : k = n1
  · subst e
    rw [candN_last] at h2
    injection h2 with h2
    refine Or.inl ⟨by rw [← h2], by rw [← h2], fun k' hk' hf q => ?_⟩
    have := h4 k' hk' _ _ (candN_free hk' hf)
    omega
  · by_cases hf : t / 2 ^ k % 2 = 0
    · rw [candN_free (by omega) hf] at h2
      injection h2 with h2
      refine Or.inr ⟨k, by omega, hf, by rw [← h2], by rw [← h2], fun k' hk' hf' q => ?_⟩
      have := h4 k' hk' _ _ (candN_free (by omega) hf')
      omega
    · rw [candN_taken (by omega) hf] at h2
      exact absurd h2 (by simp)
def clN (pr : Nat → Nat → Nat) (al : Nat) (b : Nat → Nat × (Nat → Nat)) (lv t : Nat) : Nat → Nat
  | 0 => al + (b t).1
  | k + 1 => if t / 2 ^ k % 2 = 0 then min (clN pr al b lv t k) (pr lv k + (b (t ||| 2 ^ k)).1) else clN pr al b lv t k
theorem clN_eq (pr : Nat → Nat → Nat) (n1 al j lv t : Nat) : clN pr al (fun t' => bst pr n1 al j (lv + 1) t') lv t n1 = (bst pr n1 al (j + 1) lv t).1 := by
  obtain ⟨_, k, h1, h2, h3, h4⟩ := bst_char pr n1 al j lv t
  have hup : ∀ m, clN pr al (fun t' => bst pr n1 al j (lv + 1) t') lv t m ≤ al + (bst pr n1 al j (lv + 1) t).1 ∧ (∀ k', k' < m → t / 2 ^ k' % 2 = 0 → clN pr al (fun t' => bst pr n1 al j (lv + 1) t') lv t m ≤ pr lv k' + (bst pr n1 al j (lv + 1) (t ||| 2 ^ k')).1) := by
    intro m
    induction m with
    | zero => exact ⟨Nat.le_refl _, fun k' hk' => absurd hk' (Nat.not_lt_zero _)⟩
    | succ m ih =>
      rw [clN]
      by_cases c : t / 2 ^ m % 2 = 0
      · rw [if_pos c]
        refine ⟨by omega, fun k' hk' hf => ?_⟩
        by_cases q : k' = m
        · subst q; exact Nat.min_le_right _ _
        · have := ih.2 k' (by omega) hf
          omega
      · rw [if_neg c]
        refine ⟨ih.1, fun k' hk' hf => ?_⟩
        by_cases q : k' = m
        · subst q; exact absurd hf c
        · exact ih.2 k' (by omega) hf
  have hlow : ∀ m, m ≤ n1 → (bst pr n1 al (j + 1) lv t).1 ≤ clN pr al (fun t' => bst pr n1 al j (lv + 1) t') lv t m := by
    intro m
    induction m with
    | zero => intro _; exact h3 n1 (Nat.le_refl _) _ _ (candN_last pr n1 al _ lv t)
    | succ m ih =>
      intro hm
      have := ih (by omega)
      rw [clN]
      by_cases c : t / 2 ^ m % 2 = 0
      · rw [if_pos c]
        have h5 := h3 m (by omega) _ _ (candN_free (by omega) c)
        exact Nat.le_min.mpr ⟨this, h5⟩
      · rw [if_neg c]
        exact this
  have hl := hlow n1 (Nat.le_refl _)
  have hu := hup n1
  rcases bst_dig pr n1 al j lv t with ⟨q1, _, _⟩ | ⟨k2, q0, qf, q1, _, _⟩
  · have := hu.1
    omega
  · have := hu.2 k2 q0 qf
    omega
theorem bst_le (pr : Nat → Nat → Nat) (n1 al : Nat) : ∀ j lv t, (bst pr n1 al j lv t).1 ≤ al * n1 + al * j
  | 0, lv, t => by
    show al * (n1 - rmN t 8) ≤ _
    have : al * (n1 - rmN t 8) ≤ al * n1 := Nat.mul_le_mul_left _ (Nat.sub_le _ _)
    omega
  | j + 1, lv, t => by
    obtain ⟨_, k, h1, h2, h3, h4⟩ := bst_char pr n1 al j lv t
    have a := h3 n1 (Nat.le_refl _) _ _ (candN_last pr n1 al _ lv t)
    have b := bst_le pr n1 al j (lv + 1) t
    have c : al * (j + 1) = al * j + al := Nat.mul_succ _ _
    have d : al + (bst pr n1 al j (lv + 1) t).1 ≤ al * n1 + al * (j + 1) := by omega
    exact Nat.le_trans a d
