/-! the class spreads a group -/
def sP (nr : Nat → Nat → Int32) (g0 gr wt : Nat → Int32) (n m0 G told : Nat) : Prop := gP nr g0 gr n m0 G ∧ (∀ i, i < told → ∃ a, a < n ∧ wt i = nI a ∧ gr a = nI G) ∧ (∀ a, a < n → gr a = nI G → ∃ i, i < told ∧ wt i = nI a) ∧ told + cntY gr (-1) n ≤ n ∧ 1 ≤ told
def sE (nr : Nat → Nat → Int32) (gr wt : Nat → Int32) (n next : Nat) : Prop := ∀ i, i < next → ∀ a, a < n → wt i = nI a → ∀ b, b < n → ¬ nr a b = 0 → gr b ≠ -1
def spFr (S S' : PS) (r : Nat) : Prop := S'.1 = S.1 ∧ (∀ a : Nat, a ≠ 29 + r → a ≠ 31 + r → S'.2 a = S.2 a)
theorem spFr.rfl' {S : PS} {r : Nat} : spFr S S r := ⟨rfl, fun _ _ _ => rfl⟩
theorem spFr.trans {S S1 S2 : PS} {r : Nat} (h : spFr S S1 r) (h2 : spFr S1 S2 r) : spFr S S2 r := ⟨h2.1.trans h.1, fun a p q => (h2.2 a p q).trans (h.2 a p q)⟩
theorem IK.spFr {S S' M : PS} {r : Nat} (hr : r < 2) (h : IK S M) (hf : spFr S S' r) : IK S' M := h.congr (fun q hq => ⟨by rw [hf.1], hf.2 _ (by omega) (by omega), hf.2 _ (by omega) (by omega), hf.2 _ (by omega) (by omega), hf.2 _ (by omega) (by omega)⟩) ⟨rfl, rfl, rfl, rfl, rfl⟩
theorem spread_in (nF : Nat) {M : PS} {r m0 G next : Nat} {g0 : Nat → Int32} (hr : r < 2) (hG : G < 2 ^ 31) (k23 : PS → Nat → Int32 → Int32 → Int32 → Int32 → Option PS) {x : Nat} (hx : x < nMk M r) : ∀ (k fl b told : Nat) (S : PS), b + k = nMk M r → k < fl → IK S M → S.1 (19 + r) 7 = nI G → next < told → S.2 (31 + r) next = nI x → sP (nearV M r) g0 (S.2 (29 + r)) (S.2 (31 + r)) (nMk M r) m0 G told → sE (nearV M r) (S.2 (29 + r)) (S.2 (31 + r)) (nMk M r) next → (∀ c, c < b → ¬ nearV M r x c = 0 → S.2 (29 + r) c ≠ -1) → ∃ (S' : PS) (told' : Nat), LX3_spread_42 nF k23 fl S (19 + r) (M.1 0 23) (M.1 0 24) (nI told) (nI next) (nI b) = k23 S' (19 + r) (M.1 0 23) (M.1 0 24) (nI told') (nI (next + 1)) ∧ spFr S S' r ∧ told ≤ told' ∧ sP (nearV M r) g0 (S'.2 (29 + r)) (S'.2 (31 + r)) (nMk M r) m0 G told' ∧ sE (nearV M r) (S'.2 (29 + r)) (S'.2 (31 + r)) (nMk M r) (next + 1) := by
  intro k
  induction k with
  | zero =>
    intro fl b told S h1 h2 hK h7 hnt hwx hs hE hc
    obtain ⟨fl, rfl⟩ : ∃ m, fl = m + 1 := ⟨fl - 1, by omega⟩
    obtain rfl : b = nMk M r := by omega
    obtain ⟨n1, n2, n3, n4⟩ := hK.nat hr
    refine ⟨S, told, ?_, spFr.rfl', Nat.le_refl _, hs, fun i hi a ha hw c hc' hn => ?_⟩
    · rw [LX3_spread_42, if_pos (by rw [n3]; exact nI_le (Nat.le_refl _) (by omega)), BX3_spread_116, nI_1]
    · by_cases e : i = next
      · subst e
        have : x = a := (nI_eq (by omega) (by omega)).mp (hwx.symm.trans hw)
        subst this
        exact hc c hc' hn
      · exact hE i (by omega) a ha hw c hc' hn
  | succ k ih =>
    intro fl b told S h1 h2 hK h7 hnt hwx hs hE hc
    obtain ⟨fl, rfl⟩ : ∃ m, fl = m + 1 := ⟨fl - 1, by omega⟩
    obtain ⟨n1, n2, n3, n4⟩ := hK.nat hr
    have hb : b < nMk M r := by omega
    rw [LX3_spread_42, if_neg (by rw [n3]; exact nI_ge (by omega) (by omega)), if_neg (nI_in (N := 40) (by omega) (by omega)), nI_clamp (by omega), nI_1, show 19 + r + 10 = 29 + r by omega, show 19 + r + 12 = 31 + r by omega]
    by_cases c1 : S.2 (29 + r) b = -1
    · have hcp := cnt_pos hb c1
      have htl : told < 40 := by have := hs.2.2.2.1; omega
      rw [if_pos c1, if_neg (show ¬ (40 : Int32) ≤ nI told from nI_ge (b := 40) htl (by omega)), if_neg (nI_in (N := 40) (by omega) (by omega)), nI_clamp (by omega), hwx, near_C nF hr hK hx hb, Option.bind_some]
      by_cases c2 : nearV M r x b = 0
      · rw [if_pos c2]
        exact ih fl (b + 1) told S (by omega) (by omega) hK h7 hnt hwx hs hE (fun c hc' hn => by
          by_cases e : c = b
          · subst e; exact absurd c2 hn
          · exact hc c (by omega) hn)
      · rw [if_neg c2, if_neg (nI_in (N := 40) (by omega) (by omega)), nI_clamp (by omega), h7, nI_1]
        have f1 : spFr S (sta (sta S (29 + r) b (nI G)) (31 + r) told (nI b)) r := ⟨rfl, fun a p q => by rw [sta_ne q, sta_ne p]⟩
        have g1 : (sta (sta S (29 + r) b (nI G)) (31 + r) told (nI b)).2 (29 + r) b = nI G := by rw [sta_ne (by omega), sta_eq]
        have g2 : ∀ c, c ≠ b → (sta (sta S (29 + r) b (nI G)) (31 + r) told (nI b)).2 (29 + r) c = S.2 (29 + r) c := fun c q => by rw [sta_ne (by omega), sta_ne2 q]
        have w1 : (sta (sta S (29 + r) b (nI G)) (31 + r) told (nI b)).2 (31 + r) told = nI b := sta_eq
        have w2 : ∀ i, i ≠ told → (sta (sta S (29 + r) b (nI G)) (31 + r) told (nI b)).2 (31 + r) i = S.2 (31 + r) i := fun i q => by rw [sta_ne2 q, sta_ne (by omega)]
        have gm : ∀ c, S.2 (29 + r) c ≠ -1 → (sta (sta S (29 + r) b (nI G)) (31 + r) told (nI b)).2 (29 + r) c ≠ -1 := fun c q => by
          by_cases e : c = b
          · subst e; rw [g1]; exact nI_ne_m1 hG
          · rw [g2 c e]; exact q
        have hxG : S.2 (29 + r) x = nI G := by
          obtain ⟨a, ha, hw, hq⟩ := hs.2.1 next hnt
          have : x = a := (nI_eq (by omega) (by omega)).mp (hwx.symm.trans hw)
          subst this
          exact hq
        have hcu := cnt_upd (n := nMk M r) hb c1 (by rw [g1]; exact nI_ne_m1 hG) g2
        obtain ⟨S', told', a1, a2, a3, a4, a5⟩ := ih fl (b + 1) (told + 1) (sta (sta S (29 + r) b (nI G)) (31 + r) told (nI b)) (by omega) (by omega) (hK.spFr hr f1) h7 (by omega) (by rw [w2 next (by omega)]; exact hwx) ⟨gP_step hG hs.1 hx hb hxG c1 c2 g1 g2, fun i hi => by
          by_cases e : i = told
          · subst e; exact ⟨b, hb, w1, g1⟩
          · obtain ⟨a, ha, hw, hq⟩ := hs.2.1 i (by omega)
            refine ⟨a, ha, by rw [w2 i e]; exact hw, ?_⟩
            by_cases e2 : a = b
            · subst e2; exact g1
            · rw [g2 a e2]; exact hq, fun a ha hq => by
          by_cases e : a = b
          · subst e; exact ⟨told, by omega, w1⟩
          · rw [g2 a e] at hq
            obtain ⟨i, hi, hw⟩ := hs.2.2.1 a ha hq
            exact ⟨i, by omega, by rw [w2 i (by omega)]; exact hw⟩, by have := hs.2.2.2.1; omega, by omega⟩ (fun i hi a ha hw c hc' hn => by
          rw [w2 i (by omega)] at hw
          exact gm c (hE i hi a ha hw c hc' hn)) (fun c hc' hn => by
          by_cases e : c = b
          · subst e; rw [g1]; exact nI_ne_m1 hG
          · exact gm c (hc c (by omega) hn))
        exact ⟨S', told', a1, f1.trans a2, by omega, a4, a5⟩
    · rw [if_neg c1]
      exact ih fl (b + 1) told S (by omega) (by omega) hK h7 hnt hwx hs hE (fun c hc' hn => by
        by_cases e : c = b
        · subst e; exact c1
        · exact hc c (by omega) hn)
theorem spread_out (nF : Nat) (hF : 1000 ≤ nF) {M : PS} {r m0 G : Nat} {g0 : Nat → Int32} (hr : r < 2) (hG : G < 2 ^ 31) : ∀ (k fl next told : Nat) (S : PS), next + k = nMk M r → k < fl → IK S M → S.1 (19 + r) 7 = nI G → next ≤ told → sP (nearV M r) g0 (S.2 (29 + r)) (S.2 (31 + r)) (nMk M r) m0 G told → sE (nearV M r) (S.2 (29 + r)) (S.2 (31 + r)) (nMk M r) next → ∃ S' : PS, LX3_spread_23 nF fl S (19 + r) (M.1 0 23) (M.1 0 24) (nI told) (nI next) = some S' ∧ spFr S S' r ∧ gP (nearV M r) g0 (S'.2 (29 + r)) (nMk M r) m0 G ∧ gE (nearV M r) (S'.2 (29 + r)) (nMk M r) G := by
  intro k
  induction k with
  | zero =>
    intro fl next told S h1 h2 hK h7 hnt hs hE
    obtain ⟨fl, rfl⟩ : ∃ m, fl = m + 1 := ⟨fl - 1, by omega⟩
    obtain ⟨n1, n2, n3, n4⟩ := hK.nat hr
    have ht := hs.2.2.2.1
    refine ⟨S, ?_, spFr.rfl', hs.1, fun a b ha hb hq hn => ?_⟩
    · rw [LX3_spread_23, if_pos (nI_le (by omega) (by omega))]
    · obtain ⟨i, hi, hw⟩ := hs.2.2.1 a ha hq
      exact hE i (by omega) a ha hw b hb hn
  | succ k ih =>
    intro fl next told S h1 h2 hK h7 hnt hs hE
    obtain ⟨fl, rfl⟩ : ∃ m, fl = m + 1 := ⟨fl - 1, by omega⟩
    obtain ⟨n1, n2, n3, n4⟩ := hK.nat hr
    have ht := hs.2.2.2.1
    by_cases c : told = next
    · refine ⟨S, ?_, spFr.rfl', hs.1, fun a b ha hb hq hn => ?_⟩
      · rw [LX3_spread_23, if_pos (nI_le (by omega) (by omega))]
      · obtain ⟨i, hi, hw⟩ := hs.2.2.1 a ha hq
        exact hE i (by omega) a ha hw b hb hn
    · obtain ⟨x, hx, hwx, hgx⟩ := hs.2.1 next (by omega)
      obtain ⟨S1, told', a1, a2, a3, a4, a5⟩ := spread_in nF (next := next) hr hG (LX3_spread_23 nF fl) hx (nMk M r) nF 0 told S (by omega) (by omega) hK h7 (by omega) hwx hs hE (fun c hc => absurd hc (Nat.not_lt_zero _))
      obtain ⟨S', b1, b2, b3, b4⟩ := ih fl (next + 1) told' S1 (by omega) (by omega) (hK.spFr hr a2) (by rw [a2.1]; exact h7) (by omega) a4 a5
      refine ⟨S', ?_, a2.trans b2, b3, b4⟩
      rw [LX3_spread_23, if_neg (nI_ge (by omega) (by omega)), if_neg (by rw [n3]; exact nI_ge (by omega) (by omega))]
      exact a1.trans b1
theorem spread_C (nF : Nat) (hF : 1000 ≤ nF) {S M : PS} {r m0 G : Nat} (hr : r < 2) (hG : G < 2 ^ 31) (hK : IK S M) (h7 : S.1 (19 + r) 7 = nI G) (hm : m0 < nMk M r) (h0 : S.2 (29 + r) m0 = -1) (hf : ∀ b, b < nMk M r → S.2 (29 + r) b ≠ nI G) : ∃ S' : PS, fX3_spread nF S (19 + r) (nI m0) (M.1 0 23) (M.1 0 24) = some S' ∧ spFr S S' r ∧ gP (nearV M r) (S.2 (29 + r)) (S'.2 (29 + r)) (nMk M r) m0 G ∧ gE (nearV M r) (S'.2 (29 + r)) (nMk M r) G := by
  obtain ⟨n1, n2, n3, n4⟩ := hK.nat hr
  have f1 : spFr S (sta (sta S (29 + r) m0 (nI G)) (31 + r) 0 (nI m0)) r := ⟨rfl, fun a p q => by rw [sta_ne q, sta_ne p]⟩
  have g1 : (sta (sta S (29 + r) m0 (nI G)) (31 + r) 0 (nI m0)).2 (29 + r) m0 = nI G := by rw [sta_ne (by omega), sta_eq]
  have g2 : ∀ c, c ≠ m0 → (sta (sta S (29 + r) m0 (nI G)) (31 + r) 0 (nI m0)).2 (29 + r) c = S.2 (29 + r) c := fun c q => by rw [sta_ne (by omega), sta_ne2 q]
  have w1 : (sta (sta S (29 + r) m0 (nI G)) (31 + r) 0 (nI m0)).2 (31 + r) 0 = nI m0 := sta_eq
  have hcu := cnt_upd (n := nMk M r) hm h0 (by rw [g1]; exact nI_ne_m1 hG) g2
  have hcl := cnt_le (f := S.2 (29 + r)) (y := -1) (nMk M r)
  obtain ⟨S', a1, a2, a3, a4⟩ := spread_out nF hF (g0 := S.2 (29 + r)) (m0 := m0) hr hG (nMk M r) nF 0 1 (sta (sta S (29 + r) m0 (nI G)) (31 + r) 0 (nI m0)) (by omega) (by omega) (hK.spFr hr f1) h7 (by omega) ⟨gP_init h0 g1 g2 hf, fun i hi => by
    obtain rfl : i = 0 := by omega
    exact ⟨m0, hm, w1, g1⟩, fun a ha hq => by
    by_cases e : a = m0
    · subst e; exact ⟨0, by omega, w1⟩
    · rw [g2 a e] at hq
      exact absurd hq (hf a ha), by omega, Nat.le_refl _⟩ (fun i hi => absurd hi (Nat.not_lt_zero _))
  refine ⟨S', ?_, f1.trans a2, a3, a4⟩
  rw [fX3_spread, if_neg (nI_in (N := 40) (by omega) (by omega)), if_neg (show ¬ ((0 : Int32) < 0 ∨ 40 ≤ (0 : Int32).toNatClampNeg) by decide), nI_clamp (by omega), show 19 + r + 10 = 29 + r by omega, show 19 + r + 12 = 31 + r by omega, h7]
  exact a1
