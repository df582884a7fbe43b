/-! the reference joins marks -/
def jnFr (M M' : PS) : Prop := M'.1 = M.1 ∧ (∀ a : Nat, a ≠ 17 → M'.2 a = M.2 a)
theorem jnFr.rfl' {M : PS} : jnFr M M := ⟨rfl, fun _ _ => rfl⟩
theorem jnFr.trans {S S1 S2 : PS} (h : jnFr S S1) (h2 : jnFr S1 S2) : jnFr S S2 := ⟨h2.1.trans h.1, fun a p => (h2.2 a p).trans (h.2 a p)⟩
theorem jnFr.sta {M : PS} {i : Nat} {v : Int32} : jnFr M (sta M 17 i v) := ⟨rfl, fun a q => sta_ne q⟩
theorem nearV_same {M M' : PS} (h1 : M'.1 0 23 = M.1 0 23) (h2 : M'.1 0 24 = M.1 0 24) (h3 : M'.2 13 = M.2 13) (h4 : M'.2 14 = M.2 14) (h5 : M'.2 16 = M.2 16) (r : Nat) : nearV M' r = nearV M r := by
  funext a b
  unfold nearV
  rw [h1, h2, h3, h4, h5]
  rfl
theorem jnFr.near {M M' : PS} (h : jnFr M M') (r : Nat) : nearV M' r = nearV M r := nearV_same (by rw [h.1]) (by rw [h.1]) (h.2 13 (by decide)) (h.2 14 (by decide)) (h.2 16 (by decide)) r
def chk (nr : Nat → Nat → Int32) (gr : Nat → Int32) (n G a b : Nat) : Prop := ∀ a' b', a' < n → b' < n → (a' < a ∨ (a' = a ∧ b' < b)) → gr a' = nI G → ¬ nr a' b' = 0 → gr b' ≠ -1
theorem join_b (nF : Nat) {M0 : PS} {r n m0 G c0 a : Nat} {g0 : Nat → Int32} {v2 : Int32} (hr : r < 2) (hn : n ≤ 40) (hG : G < 2 ^ 31) (h12 : M0.2 12 r = nI n) (h26 : M0.1 0 26 = nI G) (ha : a < n) (k28 : PS → Int32 → Int32 → Option PS) (k60 : PS → Int32 → Int32 → Int32 → Option PS) (k69 : PS → Int32 → Int32 → Int32 → Int32 → Option PS) : ∀ (k fl b : Nat) (M : PS) (v3 : Int32), b + k = n → k < fl → jnFr M0 M → gP (nearV M0 r) g0 (M.2 17) n m0 G → (v3 = 0 ∨ v3 = 1) → (v3 = 0 → chk (nearV M0 r) (M.2 17) n G a b) → (cntY (M.2 17) (-1) n ≤ c0 ∧ (v3 = 1 → cntY (M.2 17) (-1) n < c0)) → ∃ (M' : PS) (v3' : Int32), LX10_joinMarks_83 nF k28 k60 k69 fl M (nI r) v2 v3 (nI a) (nI b) = k69 M' (nI r) v2 v3' (nI (a + 1)) ∧ jnFr M0 M' ∧ gP (nearV M0 r) g0 (M'.2 17) n m0 G ∧ (v3' = 0 ∨ v3' = 1) ∧ (v3' = 0 → chk (nearV M0 r) (M'.2 17) n G (a + 1) 0) ∧ (cntY (M'.2 17) (-1) n ≤ c0 ∧ (v3' = 1 → cntY (M'.2 17) (-1) n < c0)) := by
  intro k
  induction k with
  | zero =>
    intro fl b M v3 h1 h2 hf hg hv hc hk
    obtain ⟨fl, rfl⟩ : ∃ m, fl = m + 1 := ⟨fl - 1, by omega⟩
    obtain rfl : b = n := by omega
    refine ⟨M, v3, ?_, hf, hg, hv, fun q a' b' ha' hb' ho h3 h4 => ?_, hk⟩
    · rw [LX10_joinMarks_83, if_neg (nI_in (N := 2) (by omega) (by omega)), nI_clamp (n := r) (by omega), hf.2 12 (by decide), h12, if_pos (nI_le (Nat.le_refl _) (by omega)), BX10_joinMarks_159, nI_1]
    · exact hc q a' b' ha' hb' (by omega) h3 h4
  | succ k ih =>
    intro fl b M v3 h1 h2 hf hg hv hc hk
    obtain ⟨fl, rfl⟩ : ∃ m, fl = m + 1 := ⟨fl - 1, by omega⟩
    have hb : b < n := by omega
    rw [LX10_joinMarks_83, if_neg (nI_in (N := 2) (by omega) (by omega)), nI_clamp (n := r) (by omega), hf.2 12 (by decide), h12, if_neg (nI_ge (by omega) (by omega)), if_neg (nI_in (c := a) (N := 40) (by omega) (by omega)), nI_clamp (n := a) (by omega), hf.1, h26]
    by_cases c1 : M.2 17 a = nI G
    · rw [if_pos c1, if_neg (nI_in (c := b) (N := 40) (by omega) (by omega)), nI_clamp (n := b) (by omega), ix40, ix40, near_M nF M hr (by omega) (by omega), Option.bind_some, hf.near, nI_1]
      by_cases c2 : M.2 17 b = -1
      · rw [if_pos c2]
        by_cases c3 : nearV M0 r a b = 0
        · rw [if_pos c3]
          exact ih fl (b + 1) M v3 (by omega) (by omega) hf hg hv (fun q a' b' ha' hb' ho h3 h4 => by
            by_cases e : a' = a ∧ b' = b
            · obtain ⟨rfl, rfl⟩ := e; exact absurd c3 h4
            · exact hc q a' b' ha' hb' (by omega) h3 h4) hk
        · rw [if_neg c3]
          have g1 : (sta M 17 b (nI G)).2 17 b = nI G := sta_eq
          have g2 : ∀ c, c ≠ b → (sta M 17 b (nI G)).2 17 c = M.2 17 c := fun c q => sta_ne2 q
          have hcu := cnt_upd (n := n) hb c2 (by rw [g1]; exact nI_ne_m1 hG) g2
          exact ih fl (b + 1) (sta M 17 b (nI G)) 1 (by omega) (by omega) (hf.trans jnFr.sta) (gP_step hG hg ha hb c1 c2 c3 g1 g2) (Or.inr rfl) (fun q => absurd q (by decide)) ⟨by omega, fun _ => by omega⟩
      · rw [if_neg c2]
        exact ih fl (b + 1) M v3 (by omega) (by omega) hf hg hv (fun q a' b' ha' hb' ho h3 h4 => by
          by_cases e : a' = a ∧ b' = b
          · obtain ⟨rfl, rfl⟩ := e; exact c2
          · exact hc q a' b' ha' hb' (by omega) h3 h4) hk
    · rw [if_neg c1]
      refine ⟨M, v3, ?_, hf, hg, hv, fun q a' b' ha' hb' ho h3 h4 => ?_, hk⟩
      · rw [BX10_joinMarks_159, nI_1]
      · by_cases e : a' = a
        · subst e; exact absurd h3 c1
        · exact hc q a' b' ha' hb' (by omega) h3 h4
theorem join_a (nF : Nat) (hF : 1000 ≤ nF) {M0 : PS} {r n m0 G c0 : Nat} {g0 : Nat → Int32} {v2 : Int32} (hr : r < 2) (hn : n ≤ 40) (hG : G < 2 ^ 31) (h12 : M0.2 12 r = nI n) (h26 : M0.1 0 26 = nI G) (k28 : PS → Int32 → Int32 → Option PS) (k60 : PS → Int32 → Int32 → Int32 → Option PS) : ∀ (k fl a : Nat) (M : PS) (v3 : Int32), a + k = n → k < fl → jnFr M0 M → gP (nearV M0 r) g0 (M.2 17) n m0 G → (v3 = 0 ∨ v3 = 1) → (v3 = 0 → chk (nearV M0 r) (M.2 17) n G a 0) → (cntY (M.2 17) (-1) n ≤ c0 ∧ (v3 = 1 → cntY (M.2 17) (-1) n < c0)) → ∃ (M' : PS) (v3' : Int32), LX10_joinMarks_69 nF k28 k60 fl M (nI r) v2 v3 (nI a) = k60 M' (nI r) v2 v3' ∧ jnFr M0 M' ∧ gP (nearV M0 r) g0 (M'.2 17) n m0 G ∧ (v3' = 0 ∨ v3' = 1) ∧ (v3' = 0 → gE (nearV M0 r) (M'.2 17) n G) ∧ (cntY (M'.2 17) (-1) n ≤ c0 ∧ (v3' = 1 → cntY (M'.2 17) (-1) n < c0)) := by
  intro k
  induction k with
  | zero =>
    intro fl a M v3 h1 h2 hf hg hv hc hk
    obtain ⟨fl, rfl⟩ : ∃ m, fl = m + 1 := ⟨fl - 1, by omega⟩
    obtain rfl : a = n := by omega
    refine ⟨M, v3, ?_, hf, hg, hv, fun q a' b' ha' hb' h3 h4 => ?_, hk⟩
    · rw [LX10_joinMarks_69, if_neg (nI_in (N := 2) (by omega) (by omega)), nI_clamp (n := r) (by omega), hf.2 12 (by decide), h12, if_pos (nI_le (Nat.le_refl _) (by omega)), BX10_joinMarks_165]
    · exact hc q a' b' ha' hb' (by omega) h3 h4
  | succ k ih =>
    intro fl a M v3 h1 h2 hf hg hv hc hk
    obtain ⟨fl, rfl⟩ : ∃ m, fl = m + 1 := ⟨fl - 1, by omega⟩
    obtain ⟨M1, w1, a1, a2, a3, a4, a5, a6⟩ := join_b nF (v2 := v2) (c0 := c0) hr hn hG h12 h26 (a := a) (by omega) k28 k60 (LX10_joinMarks_69 nF k28 k60 fl) n nF 0 M v3 (by omega) (by omega) hf hg hv hc hk
    obtain ⟨M', v3', b1, b2, b3, b4, b5, b6⟩ := ih fl (a + 1) M1 w1 (by omega) (by omega) a2 a3 a4 a5 a6
    refine ⟨M', v3', ?_, b2, b3, b4, b5, b6⟩
    rw [LX10_joinMarks_69, if_neg (nI_in (N := 2) (by omega) (by omega)), nI_clamp (n := r) (by omega), hf.2 12 (by decide), h12, if_neg (nI_ge (by omega) (by omega))]
    exact a1.trans b1
theorem join_w (nF : Nat) (hF : 1000 ≤ nF) {M0 : PS} {r n m0 G : Nat} {g0 : Nat → Int32} {v2 : Int32} (hr : r < 2) (hn : n ≤ 40) (hG : G < 2 ^ 31) (h12 : M0.2 12 r = nI n) (h26 : M0.1 0 26 = nI G) (k28 : PS → Int32 → Int32 → Option PS) : ∀ (c fl : Nat) (M : PS), cntY (M.2 17) (-1) n ≤ c → c + 2 ≤ fl → jnFr M0 M → gP (nearV M0 r) g0 (M.2 17) n m0 G → ∃ M' : PS, LX10_joinMarks_60 nF k28 fl M (nI r) v2 1 = BX10_joinMarks_168 nF k28 M' (nI r) v2 ∧ jnFr M0 M' ∧ gP (nearV M0 r) g0 (M'.2 17) n m0 G ∧ gE (nearV M0 r) (M'.2 17) n G := by
  intro c
  induction c with
  | zero =>
    intro fl M h1 h2 hf hg
    obtain ⟨fl, rfl⟩ : ∃ m, fl = m + 2 := ⟨fl - 2, by omega⟩
    obtain ⟨M1, w1, a1, a2, a3, a4, a5, a6⟩ := join_a nF hF (v2 := v2) (c0 := 0) hr hn hG h12 h26 k28 (LX10_joinMarks_60 nF k28 (fl + 1)) n nF 0 M 0 (by omega) (by omega) hf hg (Or.inl rfl) (fun _ a' b' _ _ ho => by omega) ⟨h1, fun q => absurd q (by decide)⟩
    rcases a4 with rfl | rfl
    · refine ⟨M1, ?_, a2, a3, a5 rfl⟩
      rw [LX10_joinMarks_60, if_neg (by decide)]
      refine Eq.trans a1 ?_
      rw [LX10_joinMarks_60, if_pos rfl]
    · exact absurd (a6.2 rfl) (Nat.not_lt_zero _)
  | succ c ih =>
    intro fl M h1 h2 hf hg
    obtain ⟨fl, rfl⟩ : ∃ m, fl = m + 2 := ⟨fl - 2, by omega⟩
    obtain ⟨M1, w1, a1, a2, a3, a4, a5, a6⟩ := join_a nF hF (v2 := v2) (c0 := c + 1) hr hn hG h12 h26 k28 (LX10_joinMarks_60 nF k28 (fl + 1)) n nF 0 M 0 (by omega) (by omega) hf hg (Or.inl rfl) (fun _ a' b' _ _ ho => by omega) ⟨h1, fun q => absurd q (by decide)⟩
    rcases a4 with rfl | rfl
    · refine ⟨M1, ?_, a2, a3, a5 rfl⟩
      rw [LX10_joinMarks_60, if_neg (by decide)]
      refine Eq.trans a1 ?_
      rw [LX10_joinMarks_60, if_pos rfl]
    · obtain ⟨M', b1, b2, b3, b4⟩ := ih (fl + 1) M1 (by have := a6.2 rfl; omega) (by omega) a2 a3
      refine ⟨M', ?_, b2, b3, b4⟩
      rw [LX10_joinMarks_60, if_neg (by decide)]
      exact a1.trans b1
