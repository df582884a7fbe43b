/-! groups: both make the same -/
def grC (S S' : PS) (r : Nat) : Prop := (∀ a b : Nat, ¬ (a = 19 + r ∧ b = 7) → S'.1 a b = S.1 a b) ∧ (∀ a : Nat, a ≠ 29 + r → a ≠ 31 + r → S'.2 a = S.2 a)
def grM (M M' : PS) : Prop := (∀ a b : Nat, ¬ (a = 0 ∧ b = 26) → M'.1 a b = M.1 a b) ∧ (∀ a : Nat, a ≠ 17 → M'.2 a = M.2 a)
theorem grC.rfl' {S : PS} {r : Nat} : grC S S r := ⟨fun _ _ _ => rfl, fun _ _ _ => rfl⟩
theorem grM.rfl' {S : PS} : grM S S := ⟨fun _ _ _ => rfl, fun _ _ => rfl⟩
theorem grC.trans {S S1 S2 : PS} {r : Nat} (h : grC S S1 r) (h2 : grC S1 S2 r) : grC S S2 r := ⟨fun a b p => (h2.1 a b p).trans (h.1 a b p), fun a p q => (h2.2 a p q).trans (h.2 a p q)⟩
theorem grM.trans {S S1 S2 : PS} (h : grM S S1) (h2 : grM S1 S2) : grM S S2 := ⟨fun a b p => (h2.1 a b p).trans (h.1 a b p), fun a p => (h2.2 a p).trans (h.2 a p)⟩
theorem grC.keep {S S' : PS} {r : Nat} (hr : r < 2) (h : grC S S' r) : keepC S S' := ⟨fun a b q => h.1 a b (by omega), fun a q => h.2 a (by omega) (by omega)⟩
theorem grM.keep {M M' : PS} (h : grM M M') : keepM M M' := ⟨fun b q => h.1 0 b (by omega), fun a q => h.2 a (by omega)⟩
theorem IK.gr {S S' M M' : PS} {r : Nat} (hr : r < 2) (h : IK S M) (hc : grC S S' r) (hm : grM M M') : IK S' M' := h.congr (fun q hq => ⟨hc.1 _ _ (by omega), hc.2 _ (by omega) (by omega), hc.2 _ (by omega) (by omega), hc.2 _ (by omega) (by omega), hc.2 _ (by omega) (by omega)⟩) ⟨hm.2 12 (by decide), hm.2 13 (by decide), hm.2 14 (by decide), hm.2 15 (by decide), hm.2 16 (by decide)⟩
theorem grM.near {M M' : PS} (h : grM M M') (r : Nat) : nearV M' r = nearV M r := nearV_same (h.1 0 23 (by decide)) (h.1 0 24 (by decide)) (h.2 13 (by decide)) (h.2 14 (by decide)) (h.2 16 (by decide)) r
theorem grM.nMk' {M M' : PS} (h : grM M M') (r : Nat) : nMk M' r = nMk M r := by unfold nMk; rw [h.2 12 (by decide)]
theorem both_out (nF : Nat) (hF : 1000 ≤ nF) {r n : Nat} {gp tn : Int32} (hr : r < 2) : ∀ (k fl m G : Nat) (S M : PS), m + k = n → k < fl → IK S M → nMk M r = n → M.1 0 23 = gp → M.1 0 24 = tn → S.1 (19 + r) 7 = nI G → M.1 0 26 = nI G → G ≤ m → (∀ b, b < n → S.2 (29 + r) b = M.2 17 b) → (∀ b, b < n → M.2 17 b = -1 ∨ ∃ g, g < G ∧ M.2 17 b = nI g) → (∀ b, b < m → b < n → M.2 17 b ≠ -1) → ∃ (S' M' : PS) (G' : Nat), LX3_putTogether_30 nF fl S (19 + r) gp tn (nI m) = some S' ∧ LX10_joinMarks_28 nF fl M (nI r) (nI m) = some M' ∧ grC S S' r ∧ grM M M' ∧ S'.1 (19 + r) 7 = nI G' ∧ M'.1 0 26 = nI G' ∧ G' ≤ n ∧ (∀ b, b < n → S'.2 (29 + r) b = M'.2 17 b) ∧ (∀ b, b < n → ∃ g, g < G' ∧ M'.2 17 b = nI g) := by
  intro k
  induction k with
  | zero =>
    intro fl m G S M h1 h2 hK hn hgp htn h7 h26 hG he hg hd
    obtain ⟨fl, rfl⟩ : ∃ m, fl = m + 1 := ⟨fl - 1, by omega⟩
    obtain ⟨n1, n2, n3, n4⟩ := hK.nat hr
    rw [hn] at n1 n2 n3
    obtain rfl : m = n := by omega
    refine ⟨S, M, G, ?_, ?_, grC.rfl', grM.rfl', h7, h26, hG, he, fun b hb => ?_⟩
    · rw [LX3_putTogether_30, if_pos (by rw [n3]; exact nI_le (Nat.le_refl _) (by omega))]
    · rw [LX10_joinMarks_28, if_neg (nI_in (N := 2) (by omega) (by omega)), nI_clamp (n := r) (by omega), n2, if_pos (nI_le (Nat.le_refl _) (by omega))]
    · rcases hg b hb with q | q
      · exact absurd q (hd b hb hb)
      · exact q
  | succ k ih =>
    intro fl m G S M h1 h2 hK hn hgp htn h7 h26 hG he hg hd
    obtain ⟨fl, rfl⟩ : ∃ m, fl = m + 1 := ⟨fl - 1, by omega⟩
    obtain ⟨n1, n2, n3, n4⟩ := hK.nat hr
    rw [hn] at n1 n2 n3
    have hm : m < n := by omega
    rw [LX3_putTogether_30, if_neg (by rw [n3]; exact nI_ge (by omega) (by omega)), if_neg (nI_in (c := m) (N := 40) (by omega) (by omega)), nI_clamp (n := m) (by omega), nI_1, show 19 + r + 10 = 29 + r by omega]
    rw [LX10_joinMarks_28, if_neg (nI_in (N := 2) (by omega) (by omega)), nI_clamp (n := r) (by omega), n2, if_neg (nI_ge (by omega) (by omega)), if_neg (nI_in (c := m) (N := 40) (by omega) (by omega)), nI_clamp (n := m) (by omega), nI_1, he m hm]
    by_cases c1 : M.2 17 m = -1
    · rw [if_pos c1, if_pos c1]
      have hfr : ∀ b, b < n → M.2 17 b ≠ nI G := fun b hb q => by
        rcases hg b hb with p | ⟨g, g1, g2⟩
        · exact nI_ne_m1 (G := G) (by omega) (q.symm.trans p)
        · have := (nI_eq (by omega) (by omega)).mp (g2.symm.trans q)
          omega
      obtain ⟨S1, s1, s2, s3, s4⟩ := spread_C nF hF (G := G) (m0 := m) hr (by omega) hK h7 (by rw [hn]; exact hm) (by rw [he m hm]; exact c1) (fun b hb => by rw [hn] at hb; rw [he b hb]; exact hfr b hb)
      rw [hn] at s3 s4
      have g1 : (sta M 17 m (nI G)).2 17 m = nI G := sta_eq
      have g2 : ∀ c, c ≠ m → (sta M 17 m (nI G)).2 17 c = M.2 17 c := fun c q => sta_ne2 q
      have hcl := cnt_le (f := (sta M 17 m (nI G)).2 17) (y := -1) n
      obtain ⟨M1, t1, t2, t3, t4⟩ := join_w nF hF (M0 := M) (g0 := M.2 17) (m0 := m) (v2 := nI m) hr n1 (show G < 2 ^ 31 by omega) n2 h26 (LX10_joinMarks_28 nF fl) n nF (sta M 17 m (nI G)) hcl (by omega) jnFr.sta (gP_init c1 g1 g2 hfr)
      have s3' : gP (nearV M r) (M.2 17) (S1.2 (29 + r)) n m G := by
        refine ⟨fun b hb => ?_, s3.2.1, fun X hX hcl2 => s3.2.2 X hX (fun a b ha hb hx h0 => hcl2 a b ha hb hx (by rw [← he b hb]; exact h0))⟩
        rw [← he b hb]
        exact s3.1 b hb
      have hun := gP_uniq (by omega) s3' s4 t3 t4
      have fC : grC S (sti S1 (19 + r) 7 (nI G + 1)) r := ⟨fun a b q => by rw [sti_ne (by omega), s2.1], fun a p q => (s2.2 a p q)⟩
      have fM : grM M (sti M1 0 26 (nI G + 1)) := ⟨fun a b q => by rw [sti_ne q, t2.1], fun a p => t2.2 a p⟩
      obtain ⟨S', M', G', a1, a2, a3, a4, a5, a6, a7, a8, a9⟩ := ih fl (m + 1) (G + 1) (sti S1 (19 + r) 7 (nI G + 1)) (sti M1 0 26 (nI G + 1)) (by omega) (by omega) (hK.gr hr fC fM) (by rw [fM.nMk']; exact hn) ((fM.1 0 23 (by decide)).trans hgp) ((fM.1 0 24 (by decide)).trans htn) (by rw [sti_eq, nI_1]) (by rw [sti_eq, nI_1]) (by omega) hun (fun b hb => by
        rcases t3.1 b hb with q | ⟨_, q⟩
        · rw [sti_2, q]
          rcases hg b hb with p | ⟨g, p1, p2⟩
          · exact Or.inl p
          · exact Or.inr ⟨g, by omega, p2⟩
        · exact Or.inr ⟨G, by omega, q⟩) (fun b hb hb2 => by
        rcases t3.1 b hb2 with q | ⟨_, q⟩
        · by_cases e : b = m
          · subst e
            rw [sti_2, t3.2.1]
            exact nI_ne_m1 (by omega)
          · rw [sti_2, q]
            exact hd b (by omega) hb2
        · rw [sti_2, q]
          exact nI_ne_m1 (by omega))
      refine ⟨S', M', G', ?_, ?_, fC.trans a3, fM.trans a4, a5, a6, a7, a8, a9⟩
      · rw [← hgp, ← htn, s1, Option.bind_some, s2.1, h7, hgp, htn]
        exact a1
      · rw [h26, t1, BX10_joinMarks_168, t2.1, h26, nI_1 m]
        exact a2
    · rw [if_neg c1, if_neg c1]
      exact ih fl (m + 1) G S M (by omega) (by omega) hK hn hgp htn h7 h26 (by omega) he hg (fun b hb hb2 => by
        by_cases e : b = m
        · subst e; exact c1
        · exact hd b (by omega) hb2)
theorem clrC (nF : Nat) {r n : Nat} {gp tn : Int32} (hn : n ≤ 40) : ∀ (k fl m : Nat) (S : PS), m + k = n → k < fl → S.1 (19 + r) 6 = nI n → (∀ b, b < m → S.2 (29 + r) b = -1) → ∃ S', LX3_putTogether_7 nF fl S (19 + r) gp tn (nI m) = LX3_putTogether_30 nF nF S' (19 + r) gp tn 0 ∧ S'.1 = S.1 ∧ (∀ a, a ≠ 29 + r → S'.2 a = S.2 a) ∧ (∀ b, b < n → S'.2 (29 + r) b = -1) := by
  intro k
  induction k with
  | zero =>
    intro fl m S h1 h2 h6 hc
    obtain ⟨fl, rfl⟩ : ∃ m, fl = m + 1 := ⟨fl - 1, by omega⟩
    obtain rfl : m = n := by omega
    exact ⟨S, by rw [LX3_putTogether_7, if_pos (by rw [h6]; exact nI_le (Nat.le_refl _) (by omega)), BX3_putTogether_28], rfl, fun _ _ => rfl, hc⟩
  | succ k ih =>
    intro fl m S h1 h2 h6 hc
    obtain ⟨fl, rfl⟩ : ∃ m, fl = m + 1 := ⟨fl - 1, by omega⟩
    obtain ⟨S', a1, a2, a3, a4⟩ := ih fl (m + 1) (sta S (29 + r) m (-1)) (by omega) (by omega) h6 (fun b hb => by
      by_cases e : b = m
      · subst e; exact sta_eq
      · rw [sta_ne2 e]; exact hc b (by omega))
    refine ⟨S', ?_, a2, fun a ha => (a3 a ha).trans (sta_ne ha), a4⟩
    rw [LX3_putTogether_7, if_neg (by rw [h6]; exact nI_ge (by omega) (by omega)), if_neg (nI_in (N := 40) (by omega) (by omega)), nI_clamp (by omega), nI_1, show 19 + r + 10 = 29 + r by omega]
    exact a1
theorem clrM (nF : Nat) {v : Int32} : ∀ (k fl m : Nat) (M : PS), m + k = 40 → k < fl → (∀ b, b < m → M.2 17 b = -1) → ∃ M', LX10_joinMarks_7 nF fl M v (nI m) = LX10_joinMarks_28 nF nF M' v 0 ∧ M'.1 = M.1 ∧ (∀ a, a ≠ 17 → M'.2 a = M.2 a) ∧ (∀ b, b < 40 → M'.2 17 b = -1) := by
  intro k
  induction k with
  | zero =>
    intro fl m M h1 h2 hc
    obtain ⟨fl, rfl⟩ : ∃ m, fl = m + 1 := ⟨fl - 1, by omega⟩
    obtain rfl : m = 40 := by omega
    exact ⟨M, by rw [LX10_joinMarks_7, if_pos (by decide), BX10_joinMarks_26], rfl, fun _ _ => rfl, hc⟩
  | succ k ih =>
    intro fl m M h1 h2 hc
    obtain ⟨fl, rfl⟩ : ∃ m, fl = m + 1 := ⟨fl - 1, by omega⟩
    obtain ⟨M', a1, a2, a3, a4⟩ := ih fl (m + 1) (sta M 17 m (-1)) (by omega) (by omega) (fun b hb => by
      by_cases e : b = m
      · subst e; exact sta_eq
      · rw [sta_ne2 e]; exact hc b (by omega))
    refine ⟨M', ?_, a2, fun a ha => (a3 a ha).trans (sta_ne ha), a4⟩
    rw [LX10_joinMarks_7, if_neg (show ¬ (40 : Int32) ≤ nI m from nI_ge (b := 40) (by omega) (by omega)), if_neg (nI_in (N := 40) (by omega) (by omega)), nI_clamp (by omega), nI_1]
    exact a1
theorem groups_both (nF : Nat) (hF : 1000 ≤ nF) {S M : PS} {r : Nat} (hr : r < 2) (hI : Inv S M) : ∃ (S' M' : PS) (G : Nat), fX3_putTogether nF S (19 + r) (S.1 0 7) (S.1 0 8) = some S' ∧ fX10_joinMarks nF M (nI r) = some M' ∧ grC S S' r ∧ grM M M' ∧ S'.1 (19 + r) 7 = nI G ∧ M'.1 0 26 = nI G ∧ G ≤ nMk M r ∧ (∀ b, b < nMk M r → S'.2 (29 + r) b = M'.2 17 b) := by
  obtain ⟨n1, n2, n3, n4⟩ := hI.2.2.2.2.1.nat hr
  obtain ⟨S1, s1, s2, s3, s4⟩ := clrC nF (r := r) (gp := M.1 0 23) (tn := M.1 0 24) n1 (nMk M r) nF 0 (sti S (19 + r) 7 0) (by omega) (by omega) ((sti_ne (by omega)).trans n3) (fun b hb => absurd hb (Nat.not_lt_zero _))
  obtain ⟨M1, m1, m2, m3, m4⟩ := clrM nF (v := nI r) 40 nF 0 (sti M 0 26 0) (by omega) (by omega) (fun b hb => absurd hb (Nat.not_lt_zero _))
  have fC : grC S S1 r := ⟨fun a b q => by rw [s2, sti_ne q], fun a p q => s3 a p⟩
  have fM : grM M M1 := ⟨fun a b q => by rw [m2, sti_ne q], fun a p => m3 a p⟩
  obtain ⟨S', M', G, a1, a2, a3, a4, a5, a6, a7, a8, a9⟩ := both_out nF hF (n := nMk M r) (gp := M.1 0 23) (tn := M.1 0 24) hr (nMk M r) nF 0 0 S1 M1 (by omega) (by omega) (hI.2.2.2.2.1.gr hr fC fM) (fM.nMk' r) (fM.1 0 23 (by decide)) (fM.1 0 24 (by decide)) (by rw [s2]; exact sti_eq) (by rw [m2]; exact sti_eq) (by omega) (fun b hb => by rw [s4 b hb, m4 b (by omega)]) (fun b hb => Or.inl (m4 b (by omega))) (fun b hb => absurd hb (Nat.not_lt_zero _))
  refine ⟨S', M', G, ?_, ?_, fC.trans a3, fM.trans a4, a5, a6, a7, a8⟩
  · rw [fX3_putTogether, hI.2.1.2.1, hI.2.1.2.2.2.1]
    exact s1.trans a1
  · rw [fX10_joinMarks]
    exact m1.trans a2
theorem sim_groups_ok (nF : Nat) (hF : 1000 ≤ nF) : sim_groups nF Inv := by
  intro S M a1 hI
  rcases runAt_nat S M a1 with ⟨q1, q2⟩ | ⟨r, hr, rfl, q2, q3⟩
  · exact ⟨-2, S, M, by rw [fX9_groups, q2], by rw [fX10_groups, if_pos q1], hI⟩
  obtain ⟨S', M', G, s1, m1, s2, m2, s3, m3, g1, g2⟩ := groups_both nF hF hr hI
  refine ⟨nI G, S', M', ?_, ?_, hI.keep (s2.keep hr) m2.keep⟩
  · rw [fX9_groups, q2]; dsimp only; rw [show 1 + r + 18 = 19 + r by omega, s1, Option.bind_some, s3]
  · rw [fX10_groups, if_neg q3, m1, Option.bind_some, m3]
