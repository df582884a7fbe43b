/-! readings: what a run's reels say at a tick -/
def rdg (M : PS) (q t : Nat) : Int32 := if M.2 1 q = 0 then -1 else if nI t < M.2 3 q then (if fX10_in M (M.2 4 (150 * q + t)) 0 30000 = 0 then -1 else M.2 4 (150 * q + t)) else -1
def mdl (M : PS) (r t : Nat) : Int32 := fX10_middle M (rdg M (4 * r) t) (rdg M (4 * r + 1) t) (rdg M (4 * r + 2) t)
def wl (M : PS) (r t : Nat) : Int32 := if M.2 1 (4 * r + 3) = 0 then 0 else if M.2 3 (4 * r + 3) ≤ nI t then 0 else if M.2 4 (150 * (4 * r + 3) + t) = 0 then 0 else 1
theorem item_C {S M : PS} {q t : Nat} (h : reelOK S M q) (ht : t < 150) : (fX5_hasItem S (3 + q) (nI t) = 0 ∧ (M.2 1 q = 0 ∨ (M.2 1 q = 1 ∧ ¬ nI t < M.2 3 q))) ∨ (fX5_hasItem S (3 + q) (nI t) = 1 ∧ M.2 1 q = 1 ∧ nI t < M.2 3 q ∧ S.2 (11 + q) t = M.2 4 (150 * q + t)) := by
  have h0 : ¬ nI t < 0 := nI_pos (by omega)
  rcases h with ⟨a, b, c⟩ | ⟨a, b, c, d, e, f⟩
  · refine Or.inl ⟨?_, Or.inl c⟩
    rw [fX5_hasItem, if_neg h0, b, if_pos (nI_pos' (by omega))]
  · by_cases g : nI t < M.2 3 q
    · refine Or.inr ⟨?_, a, g, f t (by rw [Int32.lt_iff_toInt_lt, nI_toInt (by omega)] at g; exact g)⟩
      rw [fX5_hasItem, if_neg h0, d, if_neg (Int32.not_le.mpr g)]
    · refine Or.inl ⟨?_, Or.inr ⟨a, g⟩⟩
      rw [fX5_hasItem, if_neg h0, d, if_pos (Int32.not_lt.mp g)]
theorem read_C (nF : Nat) {S M : PS} {q t : Nat} (h : reelOK S M q) (ht : t < 150) : fX5_readingAt nF S (3 + q) (nI t) = some (rdg M q t) := by
  rw [fX5_readingAt, rdg]
  rcases item_C h ht with ⟨a, b⟩ | ⟨a, b, c, d⟩
  · rw [if_pos a]
    rcases b with b | ⟨b, c⟩
    · rw [if_pos b]
    · rw [if_neg (by rw [b]; decide), if_neg c]
  · have hb : ¬ M.2 1 q = 0 := by rw [b]; decide
    rw [if_neg (by rw [a]; decide), if_neg hb, if_pos c, if_neg (nI_in (N := 150) (by omega) (by omega)), nI_clamp (by omega), show 3 + q + 8 = 11 + q by omega, d]
    by_cases e : fX10_in M (M.2 4 (150 * q + t)) 0 30000 = 0
    · rw [if_pos e, if_pos (inW.trans e)]
    · rw [if_neg e, if_neg (fun z => e (inW.symm.trans z))]
theorem weld_C (nF : Nat) {S M : PS} {r t : Nat} (h : reelOK S M (4 * r + 3)) (ht : t < 150) : fX5_hasWeldAt nF S (3 + (4 * r + 3)) (nI t) = some (wl M r t) := by
  rw [fX5_hasWeldAt, wl]
  rcases item_C h ht with ⟨a, b⟩ | ⟨a, b, c, d⟩
  · rw [if_pos a]
    rcases b with b | ⟨b, c⟩
    · rw [if_pos b]
    · rw [if_neg (by rw [b]; decide), if_pos (Int32.not_lt.mp c)]
  · have hb : ¬ M.2 1 (4 * r + 3) = 0 := by rw [b]; decide
    rw [if_neg (by rw [a]; decide), if_neg hb, if_neg (Int32.not_le.mpr c), if_neg (nI_in (N := 150) (by omega) (by omega)), nI_clamp (by omega), show 3 + (4 * r + 3) + 8 = 11 + (4 * r + 3) by omega, d]
    by_cases e : M.2 4 (150 * (4 * r + 3) + t) = 0
    · rw [if_pos e, if_pos e]
    · rw [if_neg e, if_neg e]
theorem read_M (nF : Nat) {M : PS} {q t : Nat} (hq : q < 8) (ht : t < 150) : fX10_reading nF M (nI q) (nI t) = some (rdg M q t) := by
  rw [fX10_reading, rdg, if_neg (gq hq), nI_clamp (by omega), ix150]
  by_cases a : M.2 1 q = 0
  · rw [if_pos a, if_pos a]
  · rw [if_neg a, if_neg a]
    by_cases b : nI t < M.2 3 q
    · rw [if_pos b, if_pos b, if_neg (nI_in (N := 1200) (by omega) (by omega)), nI_clamp (by omega)]
      by_cases e : fX10_in M (M.2 4 (150 * q + t)) 0 30000 = 0
      · rw [if_pos e, if_pos e]
      · rw [if_neg e, if_neg e]
    · rw [if_neg b, if_neg b]
theorem tri3 (a b : Int32) : (a < b ∧ a ≤ b ∧ ¬ b ≤ a ∧ ¬ b < a) ∨ a = b ∨ (b < a ∧ b ≤ a ∧ ¬ a ≤ b ∧ ¬ a < b) := by
  rcases Int.lt_trichotomy a.toInt b.toInt with h | h | h
  · exact Or.inl ⟨by rw [Int32.lt_iff_toInt_lt]; omega, by rw [Int32.le_iff_toInt_le]; omega, by rw [Int32.le_iff_toInt_le]; omega, by rw [Int32.lt_iff_toInt_lt]; omega⟩
  · exact Or.inr (Or.inl (Int32.toInt_inj.mp h))
  · exact Or.inr (Or.inr ⟨by rw [Int32.lt_iff_toInt_lt]; omega, by rw [Int32.le_iff_toInt_le]; omega, by rw [Int32.le_iff_toInt_le]; omega, by rw [Int32.lt_iff_toInt_lt]; omega⟩)
theorem cyc3 {a b c : Int32} (h1 : a < b) (h2 : b < c) (h3 : c < a) : False := by
  rw [Int32.lt_iff_toInt_lt] at h1 h2 h3
  omega
theorem mid_eq (M : PS) (r0 r1 r2 : Int32) : (if (if (if r2 < r1 then r2 else r1) < r0 then (if r2 < r1 then r2 else r1) else r0) = (-1 : Int32) then (some (if r0 < (if r1 < r2 then r2 else r1) then (if r1 < r2 then r2 else r1) else r0)) else (some ((((r0 + r1) + r2) - (if (if r2 < r1 then r2 else r1) < r0 then (if r2 < r1 then r2 else r1) else r0)) - (if r0 < (if r1 < r2 then r2 else r1) then (if r1 < r2 then r2 else r1) else r0)))) = some (fX10_middle M r0 r1 r2) := by
  unfold fX10_middle
  rcases tri3 r0 r1 with ⟨a1, a2, a3, a4⟩ | a0 | ⟨a1, a2, a3, a4⟩
  · rcases tri3 r1 r2 with ⟨b1, b2, b3, b4⟩ | b0 | ⟨b1, b2, b3, b4⟩
    · rcases tri3 r0 r2 with ⟨c1, c2, c3, c4⟩ | c0 | ⟨c1, c2, c3, c4⟩
      · simp only [a1, a2, a3, a4, b1, b2, b3, b4, c1, c2, c3, c4, if_true, if_false]; split <;> rfl
      · subst c0; exact absurd b1 a4
      · exact (cyc3 a1 b1 c1).elim
    · subst b0; simp only [a1, a2, a3, a4, if_true, if_false, Int32.lt_irrefl, Int32.le_refl]; split <;> rfl
    · rcases tri3 r0 r2 with ⟨c1, c2, c3, c4⟩ | c0 | ⟨c1, c2, c3, c4⟩
      · simp only [a1, a2, a3, a4, b1, b2, b3, b4, c1, c2, c3, c4, if_true, if_false]; split <;> rfl
      · subst c0; simp only [a1, a2, a3, a4, if_true, if_false, Int32.lt_irrefl, Int32.le_refl]; split <;> rfl
      · simp only [a1, a2, a3, a4, b1, b2, b3, b4, c1, c2, c3, c4, if_true, if_false]; split <;> rfl
  · subst a0
    rcases tri3 r0 r2 with ⟨b1, b2, b3, b4⟩ | b0 | ⟨b1, b2, b3, b4⟩
    · simp only [b1, b2, b3, b4, if_true, if_false, Int32.lt_irrefl, Int32.le_refl]; split <;> rfl
    · subst b0; simp only [if_true, if_false, Int32.lt_irrefl, Int32.le_refl]; split <;> rfl
    · simp only [b1, b2, b3, b4, if_true, if_false, Int32.lt_irrefl, Int32.le_refl]; split <;> rfl
  · rcases tri3 r1 r2 with ⟨b1, b2, b3, b4⟩ | b0 | ⟨b1, b2, b3, b4⟩
    · rcases tri3 r0 r2 with ⟨c1, c2, c3, c4⟩ | c0 | ⟨c1, c2, c3, c4⟩
      · simp only [a1, a2, a3, a4, b1, b2, b3, b4, c1, c2, c3, c4, if_true, if_false]; split <;> rfl
      · subst c0; simp only [a1, a2, a3, a4, if_true, if_false, Int32.lt_irrefl, Int32.le_refl]; split <;> rfl
      · simp only [a1, a2, a3, a4, b1, b2, b3, b4, c1, c2, c3, c4, if_true, if_false]; split <;> rfl
    · subst b0; simp only [a1, a2, a3, a4, if_true, if_false, Int32.lt_irrefl, Int32.le_refl]; split <;> rfl
    · rcases tri3 r0 r2 with ⟨c1, c2, c3, c4⟩ | c0 | ⟨c1, c2, c3, c4⟩
      · exact (cyc3 c1 b1 a1).elim
      · subst c0; exact absurd a1 b4
      · simp only [a1, a2, a3, a4, b1, b2, b3, b4, c1, c2, c3, c4, if_true, if_false]; split <;> rfl
theorem reads_C (nF : Nat) {S M : PS} {r t : Nat} (hr : r < 2) (h : IR S M) (ht : t < 150) : fX6_readingsTogether nF S (1 + r) (nI t) = some (mdl M r t) := by
  rw [fX6_readingsTogether, show 4 * (1 + r) - 1 = 3 + 4 * r by omega, show 4 * (1 + r) = 3 + (4 * r + 1) by omega, show 3 + (4 * r + 1) + 1 = 3 + (4 * r + 2) by omega, read_C nF (h (4 * r) (by omega)) ht, read_C nF (h (4 * r + 1) (by omega)) ht, read_C nF (h (4 * r + 2) (by omega)) ht]
  exact mid_eq M _ _ _
theorem rdg_cases (M : PS) (q t : Nat) : rdg M q t = -1 ∨ btw (rdg M q t) 0 30000 := by
  rw [rdg]
  split
  · exact Or.inl rfl
  · split
    · split
      · exact Or.inl rfl
      · rename_i h
        exact Or.inr (in_btw h)
    · exact Or.inl rfl
theorem mid_cases (M : PS) {a b c : Int32} (ha : a = -1 ∨ btw a 0 30000) (hb : b = -1 ∨ btw b 0 30000) (hc : c = -1 ∨ btw c 0 30000) : fX10_middle M a b c = -1 ∨ btw (fX10_middle M a b c) 0 30000 := by
  have h1 : (-1 : Int32).toInt = -1 := rfl
  have ea : -1 ≤ a.toInt ∧ a.toInt ≤ 30000 := by rcases ha with rfl | h; omega; exact ⟨by have := h.1; omega, h.2⟩
  have eb : -1 ≤ b.toInt ∧ b.toInt ≤ 30000 := by rcases hb with rfl | h; omega; exact ⟨by have := h.1; omega, h.2⟩
  have ec : -1 ≤ c.toInt ∧ c.toInt ≤ 30000 := by rcases hc with rfl | h; omega; exact ⟨by have := h.1; omega, h.2⟩
  have sum : (a + b + c).toInt = a.toInt + b.toInt + c.toInt := by
    have e1 : (a + b).toInt = a.toInt + b.toInt := add_toInt (by omega) (by omega)
    rw [add_toInt (by omega) (by omega), e1]
  have sub2 : ∀ u v : Int32, (-1 ≤ u.toInt ∧ u.toInt ≤ 30000) → (-1 ≤ v.toInt ∧ v.toInt ≤ 30000) → (a + b + c - u - v).toInt = a.toInt + b.toInt + c.toInt - u.toInt - v.toInt := by
    intro u v hu hv
    have e1 : (a + b + c - u).toInt = a.toInt + b.toInt + c.toInt - u.toInt := by rw [sub_toInt (by omega) (by omega), sum]
    rw [sub_toInt (by omega) (by omega), e1]
  have fin : ∀ x : Int32, (-1 ≤ x.toInt ∧ x.toInt ≤ 30000) → x = -1 ∨ btw x 0 30000 := by
    intro x hx
    by_cases e : x = -1
    · exact Or.inl e
    · have : x.toInt ≠ -1 := fun q => e (i32_of (-1) q rfl)
      exact Or.inr ⟨by omega, by omega⟩
  apply fin
  have sab := sub2 a b ea eb
  have sba := sub2 b a eb ea
  have sac := sub2 a c ea ec
  have sca := sub2 c a ec ea
  have sbc := sub2 b c eb ec
  have scb := sub2 c b ec eb
  have saa := sub2 a a ea ea
  have sbb := sub2 b b eb eb
  have scc := sub2 c c ec ec
  unfold fX10_middle
  simp only [Int32.le_iff_toInt_le]
  repeat' split
  all_goals omega
theorem mdl_cases (M : PS) (r t : Nat) : mdl M r t = -1 ∨ btw (mdl M r t) 0 30000 := mid_cases M (rdg_cases M _ t) (rdg_cases M _ t) (rdg_cases M _ t)
