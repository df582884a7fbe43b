/-! the reference goes through a run -/
def sameR (M M' : PS) : Prop := M'.2 1 = M.2 1 ∧ M'.2 3 = M.2 3 ∧ M'.2 4 = M.2 4
theorem goFr.same {M M' : PS} (h : goFr M M') : sameR M M' := ⟨h.2 1 (by decide), h.2 3 (by decide), h.2 4 (by decide)⟩
theorem keepM.same {M M' : PS} (h : keepM M M') : sameR M M' := ⟨h.2 1 (by decide), h.2 3 (by decide), h.2 4 (by decide)⟩
theorem rdg_same {M M' : PS} (h : sameR M M') (q t : Nat) : rdg M' q t = rdg M q t := by
  unfold rdg
  rw [h.1, h.2.1, h.2.2]
  rfl
theorem mdl_same {M M' : PS} (h : sameR M M') (r : Nat) : mdl M' r = mdl M r := by
  funext t
  unfold mdl
  rw [rdg_same h, rdg_same h, rdg_same h]
  rfl
theorem wl_same {M M' : PS} (h : sameR M M') (r : Nat) : wl M' r = wl M r := by
  funext t
  unfold wl
  rw [h.1, h.2.1, h.2.2]
theorem tkN_same {M M' : PS} (h : sameR M M') (r : Nat) : tkN M' r = tkN M r := by
  unfold tkN szN
  rw [h.1, h.2.1]
theorem go_loop (nF : Nat) {M0 : PS} {r T : Nat} (hr : r < 2) (hT : T ≤ 150) : ∀ (k fl t : Nat) (M : PS), t + k = T → k < fl → sameR M0 M → M.1 0 6 = nI T → M.1 0 7 = bld (mdl M0 r) t → M.1 0 9 = nI (jnN (wl M0 r) t) → RowsAt (M.2 6) (M.2 7) (M.2 8) (mdl M0 r) (wl M0 r) t → ∃ M', LX10_goThrough_90 nF fl M (nI r) (nI (4 * r + 3)) (stp (mdl M0 r) t) (wyN (mdl M0 r) t) (frm (mdl M0 r) (wl M0 r) t) (nI t) = some M' ∧ goFr M M' ∧ FeltR (M'.1 0 6) (M'.1 0 7) (M'.1 0 9) (M'.2 6) (M'.2 7) (M'.2 8) (mdl M0 r) (wl M0 r) T := by
  intro k
  induction k with
  | zero =>
    intro fl t M h1 h2 hs h6 h7 h9 hro
    obtain ⟨fl, rfl⟩ : ∃ m, fl = m + 1 := ⟨fl - 1, by omega⟩
    obtain rfl : t = T := by omega
    exact ⟨M, by rw [LX10_goThrough_90, if_pos (by rw [h6]; exact nI_le (Nat.le_refl _) (by omega))], goFr.rfl', h6, h7, h9, hro⟩
  | succ k ih =>
    intro fl t M h1 h2 hs h6 h7 h9 hro
    obtain ⟨fl, rfl⟩ : ∃ m, fl = m + 1 := ⟨fl - 1, by omega⟩
    have ht : t < 150 := by omega
    have hjl := jn_le (wl M0 r) t
    have step : ∀ M1 : PS, goFr M M1 → M1.1 0 6 = nI T → M1.1 0 7 = bld (mdl M0 r) (t + 1) → M1.1 0 9 = nI (jnN (wl M0 r) t) → M1.2 = M.2 → ∃ M', BX10_goThrough_167 nF (LX10_goThrough_90 nF fl) M1 (nI r) (nI (4 * r + 3)) (wyN (mdl M0 r) t) (frm (mdl M0 r) (wl M0 r) t) (nI t) (stp (mdl M0 r) (t + 1)) = some M' ∧ goFr M M' ∧ FeltR (M'.1 0 6) (M'.1 0 7) (M'.1 0 9) (M'.2 6) (M'.2 7) (M'.2 8) (mdl M0 r) (wl M0 r) T := by
      intro M1 f1 g6 g7 g9 g2
      have ew : wyN (mdl M0 r) t + stp (mdl M0 r) (t + 1) = wyN (mdl M0 r) (t + 1) := rfl
      have h167 : BX10_goThrough_167 nF (LX10_goThrough_90 nF fl) M1 (nI r) (nI (4 * r + 3)) (wyN (mdl M0 r) t) (frm (mdl M0 r) (wl M0 r) t) (nI t) (stp (mdl M0 r) (t + 1)) = BX10_goThrough_224 nF (LX10_goThrough_90 nF fl) (sta M1 6 t (wyN (mdl M0 r) (t + 1))) (nI r) (nI (4 * r + 3)) (stp (mdl M0 r) (t + 1)) (wyN (mdl M0 r) (t + 1)) (frm (mdl M0 r) (wl M0 r) t) (nI t) (wl M0 r t) := by
        rw [BX10_goThrough_167, if_neg (nI_in (N := 150) (by omega) (by omega)), if_neg (gq (by omega)), nI_clamp (by omega), nI_clamp (by omega), ix150, if_neg (nI_in (N := 1200) (by omega) (by omega)), nI_clamp (by omega), ew, g2, hs.1, hs.2.1, hs.2.2, wl]
        by_cases a : M0.2 1 (4 * r + 3) = 0
        · rw [if_pos a, if_pos a]; rfl
        · rw [if_neg a, if_neg a]
          by_cases b : M0.2 3 (4 * r + 3) ≤ nI t
          · rw [if_pos b, if_pos b]; rfl
          · rw [if_neg b, if_neg b]
            by_cases c : M0.2 4 (150 * (4 * r + 3) + t) = 0
            · rw [if_pos c, if_pos c]; rfl
            · rw [if_neg c, if_neg c]
      rw [h167, BX10_goThrough_224, nI_1 t]
      have f2 : goFr M (sta M1 6 t (wyN (mdl M0 r) (t + 1))) := f1.trans (goFr.sta (Or.inl rfl))
      have s2 : sameR M0 (sta M1 6 t (wyN (mdl M0 r) (t + 1))) := ⟨f2.same.1.trans hs.1, f2.same.2.1.trans hs.2.1, f2.same.2.2.trans hs.2.2⟩
      have n1 : (sta M1 6 t (wyN (mdl M0 r) (t + 1))).2 6 t = wyN (mdl M0 r) (t + 1) := sta_eq
      have n2 : ∀ i, i ≠ t → (sta M1 6 t (wyN (mdl M0 r) (t + 1))).2 6 i = M.2 6 i := fun i hi => (sta_ne2 hi).trans (by rw [g2])
      have n3 : (sta M1 6 t (wyN (mdl M0 r) (t + 1))).2 7 = M.2 7 := (sta_ne (by omega)).trans (by rw [g2])
      have n4 : (sta M1 6 t (wyN (mdl M0 r) (t + 1))).2 8 = M.2 8 := (sta_ne (by omega)).trans (by rw [g2])
      have g9' : (sta M1 6 t (wyN (mdl M0 r) (t + 1))).1 0 9 = nI (jnN (wl M0 r) t) := g9
      by_cases cw : wl M0 r t = 0
      · have e60 : jnN (wl M0 r) (t + 1) = jnN (wl M0 r) t := by rw [jnN, if_pos cw]
        have ef : frm (mdl M0 r) (wl M0 r) (t + 1) = frm (mdl M0 r) (wl M0 r) t := by rw [frm, if_pos cw]
        rw [if_pos cw]
        obtain ⟨M', a1, a2, a3⟩ := ih fl (t + 1) _ (by omega) (by omega) s2 g6 g7 (by rw [e60]; exact g9) (rows_step0 hro n1 n2 n3 n4 (Or.inl cw))
        rw [ef] at a1
        exact ⟨M', a1, f2.trans a2, a3⟩
      · have ef : frm (mdl M0 r) (wl M0 r) (t + 1) = wyN (mdl M0 r) (t + 1) := by rw [frm, if_neg cw]
        rw [if_neg cw, g9']
        by_cases c60 : 60 ≤ jnN (wl M0 r) t
        · have e60 : jnN (wl M0 r) (t + 1) = jnN (wl M0 r) t := by rw [jnN, if_neg cw, if_pos c60]
          rw [if_pos (show (60 : Int32) ≤ nI (jnN (wl M0 r) t) from nI_le (a := 60) c60 (by omega))]
          obtain ⟨M', a1, a2, a3⟩ := ih fl (t + 1) _ (by omega) (by omega) s2 g6 g7 (by rw [e60]; exact g9) (rows_step0 hro n1 n2 n3 n4 (Or.inr c60))
          rw [ef] at a1
          exact ⟨M', a1, f2.trans a2, a3⟩
        · have e60 : jnN (wl M0 r) (t + 1) = jnN (wl M0 r) t + 1 := by rw [jnN, if_neg cw, if_neg c60]
          rw [if_neg (show ¬ (60 : Int32) ≤ nI (jnN (wl M0 r) t) from nI_ge (b := 60) (by omega) (by omega)), if_neg (nI_in (N := 60) (by omega) (by omega)), nI_clamp (by omega), nI_1]
          have f3 : goFr M (sti (sta (sta (sta M1 6 t (wyN (mdl M0 r) (t + 1))) 7 (jnN (wl M0 r) t) (frm (mdl M0 r) (wl M0 r) t)) 8 (jnN (wl M0 r) t) (wyN (mdl M0 r) (t + 1) - frm (mdl M0 r) (wl M0 r) t)) 0 9 (nI (jnN (wl M0 r) t + 1))) := ((f2.trans (goFr.sta (Or.inr (Or.inl rfl)))).trans (goFr.sta (Or.inr (Or.inr rfl)))).trans (goFr.sti (by omega))
          have hrow : RowsAt ((sti (sta (sta (sta M1 6 t (wyN (mdl M0 r) (t + 1))) 7 (jnN (wl M0 r) t) (frm (mdl M0 r) (wl M0 r) t)) 8 (jnN (wl M0 r) t) (wyN (mdl M0 r) (t + 1) - frm (mdl M0 r) (wl M0 r) t)) 0 9 (nI (jnN (wl M0 r) t + 1))).2 6) ((sti (sta (sta (sta M1 6 t (wyN (mdl M0 r) (t + 1))) 7 (jnN (wl M0 r) t) (frm (mdl M0 r) (wl M0 r) t)) 8 (jnN (wl M0 r) t) (wyN (mdl M0 r) (t + 1) - frm (mdl M0 r) (wl M0 r) t)) 0 9 (nI (jnN (wl M0 r) t + 1))).2 7) ((sti (sta (sta (sta M1 6 t (wyN (mdl M0 r) (t + 1))) 7 (jnN (wl M0 r) t) (frm (mdl M0 r) (wl M0 r) t)) 8 (jnN (wl M0 r) t) (wyN (mdl M0 r) (t + 1) - frm (mdl M0 r) (wl M0 r) t)) 0 9 (nI (jnN (wl M0 r) t + 1))).2 8) (mdl M0 r) (wl M0 r) (t + 1) := by
            refine rows_step1 hro ?_ ?_ cw c60 ?_ ?_ ?_ ?_
            · rw [sti_2, sta_ne (by omega), sta_ne (by omega), sta_eq]
            · intro i hi
              rw [sti_2, sta_ne (by omega), sta_ne (by omega)]; exact n2 i hi
            · rw [sti_2, sta_ne (by omega), sta_eq]
            · intro j hj
              rw [sti_2, sta_ne (by omega), sta_ne2 hj, n3]
            · rw [sti_2, sta_eq]
            · intro j hj
              rw [sti_2, sta_ne2 hj, sta_ne (by omega), n4]
          obtain ⟨M', a1, a2, a3⟩ := ih fl (t + 1) (sti (sta (sta (sta M1 6 t (wyN (mdl M0 r) (t + 1))) 7 (jnN (wl M0 r) t) (frm (mdl M0 r) (wl M0 r) t)) 8 (jnN (wl M0 r) t) (wyN (mdl M0 r) (t + 1) - frm (mdl M0 r) (wl M0 r) t)) 0 9 (nI (jnN (wl M0 r) t + 1))) (by omega) (by omega) ⟨f3.same.1.trans hs.1, f3.same.2.1.trans hs.2.1, f3.same.2.2.trans hs.2.2⟩ ((sti_ne (by omega)).trans g6) ((sti_ne (by omega)).trans g7) (by rw [e60]; exact sti_eq) hrow
          rw [ef] at a1
          exact ⟨M', a1, f3.trans a2, a3⟩
    have hm : fX10_middle M (rdg M (4 * r) t) (rdg M (4 * r + 1) t) (rdg M (4 * r + 2) t) = mdl M0 r t := by rw [rdg_same hs, rdg_same hs, rdg_same hs]; rfl
    rw [LX10_goThrough_90, if_neg (by rw [h6]; exact nI_ge (by omega) (by omega)), show (4 : Int32) * nI r = nI (4 * r) from pk_mul 4 r, nI_1 (4 * r), show nI (4 * r) + 2 = nI (4 * r + 2) from nI_add (4 * r) 2, read_M nF (by omega) ht, read_M nF (by omega) ht, read_M nF (by omega) ht, Option.bind_some, Option.bind_some, Option.bind_some, hm]
    by_cases c : mdl M0 r t = -1
    · rw [if_pos c, BX10_goThrough_151, if_pos c]
      have es : stp (mdl M0 r) (t + 1) = stp (mdl M0 r) t := by rw [stp, if_pos c]
      rw [← es]
      exact step _ (goFr.sti (by omega)) ((sti_ne (by omega)).trans h6) (by rw [sti_eq, bld, if_pos c, h7]) ((sti_ne (by omega)).trans h9) rfl
    · rw [if_neg c, BX10_goThrough_151, if_neg c]
      have es : stp (mdl M0 r) (t + 1) = mdl M0 r t := by rw [stp, if_neg c]
      rw [← es]
      exact step _ (goFr.sti (by omega)) ((sti_ne (by omega)).trans h6) (by rw [sti_eq, bld, if_neg c, h7, Int32.add_zero]) ((sti_ne (by omega)).trans h9) rfl
theorem gt_step (nF : Nat) {S M : PS} {q r a n : Nat} (hr : r < 2) (hq : q < 4 * r + 3) (ha : a ≤ 150) (h : reelOK S M q) {b : Int32} : LX10_goThrough_19 nF (n + 1) (sti M 0 6 (nI a)) (nI r) (nI q) = LX10_goThrough_19 nF n (sti M 0 6 (nI (max a (szN M q)))) (nI r) (nI (q + 1)) := by
  have hsz := (sz_C h).2
  have e1 : ∀ x y : Int32, sti (sti M 0 6 x) 0 6 y = sti M 0 6 y := by
    intro x y
    apply Prod.ext
    · funext i j
      by_cases c : i = 0 ∧ j = 6
      · obtain ⟨rfl, rfl⟩ := c
        rw [sti_eq, sti_eq]
      · rw [sti_ne c, sti_ne c, sti_ne c]
    · rfl
  rw [LX10_goThrough_19, show (4 : Int32) * nI r + 3 = nI (4 * r + 3) by rw [show (4 : Int32) * nI r = nI (4 * r) from pk_mul 4 r]; exact nI_add (4 * r) 3, if_neg (nI_ge hq (by omega)), if_neg (gq (by omega)), nI_clamp (by omega), nI_1, sti_eq, sti_2, e1, e1]
  rcases sz_M h with c | ⟨c1, c2⟩
  · rw [if_pos c, szN, if_pos c, Nat.max_eq_left (by omega)]
  · rw [if_neg c1, c2]
    by_cases d : szN M q ≤ a
    · rw [if_pos (nI_le d (by omega)), Nat.max_eq_left d]
    · rw [if_neg (nI_ge (by omega) (by omega)), Nat.max_eq_right (by omega)]
theorem go_M (nF : Nat) (hF : 1000 ≤ nF) {S M : PS} {r : Nat} (hr : r < 2) (h : IR S M) : ∃ M', fX10_goThrough nF M (nI r) = some M' ∧ goFr M M' ∧ FeltM M' M r := by
  have hT := tkN_le hr h
  have h1 := (sz_C (h (4 * r) (by omega))).2
  have h2 := (sz_C (h (4 * r + 1) (by omega))).2
  obtain ⟨k, rfl⟩ : ∃ k, nF = k + 4 := ⟨nF - 4, by omega⟩
  have f0 : goFr M (sti (sti (sti M 0 7 0) 0 9 0) 0 6 (nI (tkN M r))) := ((goFr.sti (by omega)).trans (goFr.sti (by omega))).trans (goFr.sti (by omega))
  obtain ⟨M', a1, a2, a3⟩ := go_loop (k + 4) hr hT (tkN M r) (k + 4) 0 (sti (sti (sti M 0 7 0) 0 9 0) 0 6 (nI (tkN M r))) (by omega) (by omega) f0.same sti_eq ((sti_ne (by omega)).trans ((sti_ne (by omega)).trans sti_eq)) ((sti_ne (by omega)).trans sti_eq) (rows_0 _ _ _ _ _)
  refine ⟨M', ?_, f0.trans a2, a3⟩
  have e0 : sti (sti (sti M 0 6 0) 0 7 0) 0 9 0 = sti (sti (sti M 0 7 0) 0 9 0) 0 6 (nI 0) := by
    apply Prod.ext
    · funext i j
      by_cases c : i = 0 ∧ j = 6
      · obtain ⟨rfl, rfl⟩ := c
        rfl
      · rw [sti_ne (j := 0) (i := 6) c]
        by_cases c7 : i = 0 ∧ j = 9
        · obtain ⟨rfl, rfl⟩ := c7
          rfl
        · rw [sti_ne c7, sti_ne c7]
          by_cases c9 : i = 0 ∧ j = 7
          · obtain ⟨rfl, rfl⟩ := c9
            rfl
          · rw [sti_ne c9, sti_ne c9, sti_ne c]
    · rfl
  have hs : ∀ q, q < 8 → reelOK S (sti (sti M 0 7 0) 0 9 0) q := fun q hq => h q hq
  rw [fX10_goThrough, e0, show (4 : Int32) * nI r = nI (4 * r) from pk_mul 4 r]
  rw [gt_step (k + 4) (n := k + 3) hr (by omega) (by omega) (hs (4 * r) (by omega)) (b := 0), Nat.zero_max, show szN (sti (sti M 0 7 0) 0 9 0) = szN M from rfl]
  rw [gt_step (k + 4) (n := k + 2) hr (by omega) h1 (hs (4 * r + 1) (by omega)) (b := 0), show szN (sti (sti M 0 7 0) 0 9 0) = szN M from rfl]
  rw [gt_step (k + 4) (n := k + 1) hr (by omega) (Nat.max_le.mpr ⟨h1, h2⟩) (hs (4 * r + 2) (by omega)) (b := 0)]
  rw [LX10_goThrough_19, show (4 : Int32) * nI r + 3 = nI (4 * r + 3) by rw [show (4 : Int32) * nI r = nI (4 * r) from pk_mul 4 r]; exact nI_add (4 * r) 3, if_pos (nI_le (by omega) (by omega)), BX10_goThrough_73, show (4 : Int32) * nI r + 3 = nI (4 * r + 3) by rw [show (4 : Int32) * nI r = nI (4 * r) from pk_mul 4 r]; exact nI_add (4 * r) 3]
  have et : max (max (szN M (4 * r)) (szN M (4 * r + 1))) (szN M (4 * r + 2)) = tkN M r := Nat.max_assoc _ _ _
  rw [show szN (sti (sti M 0 7 0) 0 9 0) = szN M from rfl, et]
  exact a1
