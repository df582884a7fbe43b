/-! what a run feels, told without a machine -/
def stp (m : Nat → Int32) : Nat → Int32
  | 0 => 0
  | t + 1 => if m t = -1 then stp m t else m t
def wyN (m : Nat → Int32) : Nat → Int32
  | 0 => 0
  | t + 1 => wyN m t + stp m (t + 1)
def bld (m : Nat → Int32) : Nat → Int32
  | 0 => 0
  | t + 1 => if m t = -1 then bld m t + 1 else bld m t
def jnN (w : Nat → Int32) : Nat → Nat
  | 0 => 0
  | t + 1 => if w t = 0 then jnN w t else if 60 ≤ jnN w t then jnN w t else jnN w t + 1
def frm (m w : Nat → Int32) : Nat → Int32
  | 0 => 0
  | t + 1 => if w t = 0 then frm m w t else wyN m (t + 1)
def jbN (m w : Nat → Int32) : Nat → Nat → Int32
  | 0, _ => 0
  | t + 1, j => if w t = 0 then jbN m w t j else if j = jnN w t then frm m w t else jbN m w t j
def jlN (m w : Nat → Int32) : Nat → Nat → Int32
  | 0, _ => 0
  | t + 1, j => if w t = 0 then jlN m w t j else if j = jnN w t then wyN m (t + 1) - frm m w t else jlN m w t j
theorem jn_le (w : Nat → Int32) : ∀ t, jnN w t ≤ 60
  | 0 => Nat.zero_le _
  | t + 1 => by
    have := jn_le w t
    rw [jnN]
    split
    · exact this
    · split <;> omega
def RowsAt (ways begs lens m w : Nat → Int32) (t : Nat) : Prop := (∀ i, i < t → ways i = wyN m (i + 1)) ∧ (∀ j, j < jnN w t → begs j = jbN m w t j ∧ lens j = jlN m w t j)
theorem rows_0 (ways begs lens m w : Nat → Int32) : RowsAt ways begs lens m w 0 := ⟨fun i hi => absurd hi (Nat.not_lt_zero _), fun j hj => absurd hj (Nat.not_lt_zero _)⟩
theorem rows_step0 {ways begs lens ways' begs' lens' m w : Nat → Int32} {t : Nat} (h : RowsAt ways begs lens m w t) (h1 : ways' t = wyN m (t + 1)) (h2 : ∀ i, i ≠ t → ways' i = ways i) (h3 : begs' = begs) (h4 : lens' = lens) (hw : w t = 0 ∨ 60 ≤ jnN w t) : RowsAt ways' begs' lens' m w (t + 1) := by
  subst h3 h4
  refine ⟨fun i hi => ?_, fun j hj => ?_⟩
  · by_cases e : i = t
    · subst e; exact h1
    · rw [h2 i e]; exact h.1 i (by omega)
  · rw [jnN] at hj
    rw [jbN, jlN]
    rcases hw with hw | hw
    · rw [if_pos hw] at hj
      rw [if_pos hw, if_pos hw]
      exact h.2 j hj
    · have hj' : j < jnN w t := by
        by_cases c : w t = 0
        · rw [if_pos c] at hj; exact hj
        · rw [if_neg c, if_pos hw] at hj; exact hj
      rw [if_neg (show ¬ j = jnN w t by omega), if_neg (show ¬ j = jnN w t by omega)]
      have := h.2 j hj'
      split <;> exact this
theorem rows_step1 {ways begs lens ways' begs' lens' m w : Nat → Int32} {t : Nat} (h : RowsAt ways begs lens m w t) (h1 : ways' t = wyN m (t + 1)) (h2 : ∀ i, i ≠ t → ways' i = ways i) (hw : ¬ w t = 0) (hj : ¬ 60 ≤ jnN w t) (h3 : begs' (jnN w t) = frm m w t) (h4 : ∀ j, j ≠ jnN w t → begs' j = begs j) (h5 : lens' (jnN w t) = wyN m (t + 1) - frm m w t) (h6 : ∀ j, j ≠ jnN w t → lens' j = lens j) : RowsAt ways' begs' lens' m w (t + 1) := by
  refine ⟨fun i hi => ?_, fun j hq => ?_⟩
  · by_cases e : i = t
    · subst e; exact h1
    · rw [h2 i e]; exact h.1 i (by omega)
  · rw [jnN, if_neg hw, if_neg hj] at hq
    rw [jbN, jlN, if_neg hw, if_neg hw]
    by_cases e : j = jnN w t
    · rw [if_pos e, if_pos e, e]; exact ⟨h3, h5⟩
    · rw [if_neg e, if_neg e, h4 j e, h6 j e]; exact h.2 j (by omega)
def FeltR (tk bl jn : Int32) (ways begs lens m w : Nat → Int32) (T : Nat) : Prop := tk = nI T ∧ bl = bld m T ∧ jn = nI (jnN w T) ∧ RowsAt ways begs lens m w T
def szN (M : PS) (q : Nat) : Nat := if M.2 1 q = 0 then 0 else (M.2 3 q).toNatClampNeg
def tkN (M : PS) (r : Nat) : Nat := max (szN M (4 * r)) (max (szN M (4 * r + 1)) (szN M (4 * r + 2)))
def FeltC (S M : PS) (r : Nat) : Prop := FeltR (S.1 (1 + r) 9) (S.1 (1 + r) 10) (S.1 (1 + r) 11) (S.2 (33 + r)) (S.2 (35 + r)) (S.2 (37 + r)) (mdl M r) (wl M r) (tkN M r)
def FeltM (M' M : PS) (r : Nat) : Prop := FeltR (M'.1 0 6) (M'.1 0 7) (M'.1 0 9) (M'.2 6) (M'.2 7) (M'.2 8) (mdl M r) (wl M r) (tkN M r)
def feelFr (S S' : PS) (r : Nat) : Prop := (∀ a b : Nat, ¬ (a = 1 + r ∧ (b = 9 ∨ b = 10 ∨ b = 11)) → S'.1 a b = S.1 a b) ∧ (∀ a : Nat, ¬ (a = 33 + r ∨ a = 35 + r ∨ a = 37 + r) → S'.2 a = S.2 a)
def goFr (M M' : PS) : Prop := (∀ a b : Nat, ¬ (a = 0 ∧ (b = 6 ∨ b = 7 ∨ b = 9)) → M'.1 a b = M.1 a b) ∧ (∀ a : Nat, ¬ (a = 6 ∨ a = 7 ∨ a = 8) → M'.2 a = M.2 a)
theorem feelFr.rfl' {S : PS} {r : Nat} : feelFr S S r := ⟨fun _ _ _ => rfl, fun _ _ => rfl⟩
theorem feelFr.trans {S S1 S2 : PS} {r : Nat} (h : feelFr S S1 r) (h2 : feelFr S1 S2 r) : feelFr S S2 r := ⟨fun a b q => (h2.1 a b q).trans (h.1 a b q), fun a q => (h2.2 a q).trans (h.2 a q)⟩
theorem goFr.rfl' {S : PS} : goFr S S := ⟨fun _ _ _ => rfl, fun _ _ => rfl⟩
theorem goFr.trans {S S1 S2 : PS} (h : goFr S S1) (h2 : goFr S1 S2) : goFr S S2 := ⟨fun a b q => (h2.1 a b q).trans (h.1 a b q), fun a q => (h2.2 a q).trans (h.2 a q)⟩
theorem feelFr.keep {S S' : PS} {r : Nat} (hr : r < 2) (h : feelFr S S' r) : keepC S S' := ⟨fun a b q => h.1 a b (by omega), fun a q => h.2 a (by omega)⟩
theorem goFr.keep {M M' : PS} (h : goFr M M') : keepM M M' := ⟨fun b q => h.1 0 b (by omega), fun a q => h.2 a (by omega)⟩
theorem feelFr.sti {S : PS} {r b : Nat} {v : Int32} (hb : b = 9 ∨ b = 10 ∨ b = 11) : feelFr S (sti S (1 + r) b v) r := ⟨fun a c q => sti_ne (by omega), fun _ _ => rfl⟩
theorem feelFr.sta {S : PS} {r a i : Nat} {v : Int32} (ha : a = 33 + r ∨ a = 35 + r ∨ a = 37 + r) : feelFr S (sta S a i v) r := ⟨fun _ _ _ => rfl, fun c q => sta_ne (by omega)⟩
theorem goFr.sti {S : PS} {b : Nat} {v : Int32} (hb : b = 6 ∨ b = 7 ∨ b = 9) : goFr S (sti S 0 b v) := ⟨fun a c q => sti_ne (by omega), fun _ _ => rfl⟩
theorem goFr.sta {S : PS} {a i : Nat} {v : Int32} (ha : a = 6 ∨ a = 7 ∨ a = 8) : goFr S (sta S a i v) := ⟨fun _ _ _ => rfl, fun c q => sta_ne (by omega)⟩
theorem IR.feel {S S' M : PS} {r : Nat} (hr : r < 2) (h : IR S M) (hf : feelFr S S' r) : IR S' M := h.congr (fun q hq => ⟨hf.1 _ _ (by omega), hf.1 _ _ (by omega), hf.2 _ (by omega)⟩) ⟨rfl, rfl, rfl, rfl⟩
theorem feel_loop (nF : Nat) {M : PS} {r T : Nat} (hr : r < 2) (hT : T ≤ 150) : ∀ (k fl t : Nat) (S : PS) (v3 : Int32), t + k = T → k < fl → IR S M → S.1 (1 + r) 9 = nI T → S.1 (1 + r) 10 = bld (mdl M r) t → S.1 (1 + r) 11 = nI (jnN (wl M r) t) → RowsAt (S.2 (33 + r)) (S.2 (35 + r)) (S.2 (37 + r)) (mdl M r) (wl M r) t → (jnN (wl M r) t < 60 → v3 = frm (mdl M r) (wl M r) t) → ∃ S', LX6_feel_50 nF fl S (1 + r) (stp (mdl M r) t) (wyN (mdl M r) t) v3 (nI t) = some S' ∧ feelFr S S' r ∧ FeltR (S'.1 (1 + r) 9) (S'.1 (1 + r) 10) (S'.1 (1 + r) 11) (S'.2 (33 + r)) (S'.2 (35 + r)) (S'.2 (37 + r)) (mdl M r) (wl M r) T := by
  intro k
  induction k with
  | zero =>
    intro fl t S v3 h1 h2 hIR h9 h10 h11 hro h3
    obtain ⟨fl, rfl⟩ : ∃ m, fl = m + 1 := ⟨fl - 1, by omega⟩
    obtain rfl : t = T := by omega
    exact ⟨S, by rw [LX6_feel_50, if_pos (by rw [h9]; exact nI_le (Nat.le_refl _) (by omega))], feelFr.rfl', h9, h10, h11, hro⟩
  | succ k ih =>
    intro fl t S v3 h1 h2 hIR h9 h10 h11 hro h3
    obtain ⟨fl, rfl⟩ : ∃ m, fl = m + 1 := ⟨fl - 1, by omega⟩
    have ht : t < 150 := by omega
    have hjl := jn_le (wl M r) t
    have step : ∀ S1 : PS, feelFr S S1 r → S1.1 (1 + r) 9 = nI T → S1.1 (1 + r) 10 = bld (mdl M r) (t + 1) → S1.1 (1 + r) 11 = nI (jnN (wl M r) t) → S1.2 = S.2 → ∃ S', BX6_feel_89 nF (LX6_feel_50 nF fl) S1 (1 + r) (stp (mdl M r) (t + 1)) (wyN (mdl M r) t) v3 (nI t) = some S' ∧ feelFr S S' r ∧ FeltR (S'.1 (1 + r) 9) (S'.1 (1 + r) 10) (S'.1 (1 + r) 11) (S'.2 (33 + r)) (S'.2 (35 + r)) (S'.2 (37 + r)) (mdl M r) (wl M r) T := by
      intro S1 f1 g9 g10 g11 g2
      have ew : wyN (mdl M r) t + stp (mdl M r) (t + 1) = wyN (mdl M r) (t + 1) := rfl
      rw [BX6_feel_89, if_neg (nI_in (N := 150) (by omega) (by omega)), nI_clamp (by omega), ew, nI_1 t, g11, show 1 + r + 32 = 33 + r by omega, show 1 + r + 34 = 35 + r by omega, show 1 + r + 36 = 37 + r by omega]
      have f2 : feelFr S (sta S1 (33 + r) t (wyN (mdl M r) (t + 1))) r := f1.trans (feelFr.sta (Or.inl rfl))
      have i2 := hIR.feel hr f2
      have n1 : (sta S1 (33 + r) t (wyN (mdl M r) (t + 1))).2 (33 + r) t = wyN (mdl M r) (t + 1) := sta_eq
      have n2 : ∀ i, i ≠ t → (sta S1 (33 + r) t (wyN (mdl M r) (t + 1))).2 (33 + r) i = S.2 (33 + r) i := fun i hi => (sta_ne2 hi).trans (by rw [g2])
      have n3 : (sta S1 (33 + r) t (wyN (mdl M r) (t + 1))).2 (35 + r) = S.2 (35 + r) := (sta_ne (by omega)).trans (by rw [g2])
      have n4 : (sta S1 (33 + r) t (wyN (mdl M r) (t + 1))).2 (37 + r) = S.2 (37 + r) := (sta_ne (by omega)).trans (by rw [g2])
      by_cases c60 : 60 ≤ jnN (wl M r) t
      · have e60 : jnN (wl M r) (t + 1) = jnN (wl M r) t := by
          by_cases c : wl M r t = 0
          · rw [jnN, if_pos c]
          · rw [jnN, if_neg c, if_pos c60]
        rw [if_pos (show (60 : Int32) ≤ nI (jnN (wl M r) t) from nI_le (a := 60) c60 (by omega))]
        obtain ⟨S', a1, a2, a3⟩ := ih fl (t + 1) _ v3 (by omega) (by omega) i2 g9 g10 (by rw [e60]; exact g11) (rows_step0 hro n1 n2 n3 n4 (Or.inr c60)) (by rw [e60]; intro q; omega)
        exact ⟨S', a1, f2.trans a2, a3⟩
      · rw [if_neg (show ¬ (60 : Int32) ≤ nI (jnN (wl M r) t) from nI_ge (b := 60) (by omega) (by omega)), show 4 * (1 + r) + 2 = 3 + (4 * r + 3) by omega, weld_C nF (i2 (4 * r + 3) (by omega)) ht, Option.bind_some]
        by_cases cw : wl M r t = 0
        · have e60 : jnN (wl M r) (t + 1) = jnN (wl M r) t := by rw [jnN, if_pos cw]
          rw [if_pos cw]
          obtain ⟨S', a1, a2, a3⟩ := ih fl (t + 1) _ v3 (by omega) (by omega) i2 g9 g10 (by rw [e60]; exact g11) (rows_step0 hro n1 n2 n3 n4 (Or.inl cw)) (by rw [e60, frm, if_pos cw]; exact h3)
          exact ⟨S', a1, f2.trans a2, a3⟩
        · have e60 : jnN (wl M r) (t + 1) = jnN (wl M r) t + 1 := by rw [jnN, if_neg cw, if_neg c60]
          have hv3 := h3 (by omega)
          rw [if_neg cw, if_neg (nI_in (N := 60) (by omega) (by omega)), nI_clamp (by omega), nI_1]
          have f3 : feelFr S (sti (sta (sta (sta S1 (33 + r) t (wyN (mdl M r) (t + 1))) (35 + r) (jnN (wl M r) t) v3) (37 + r) (jnN (wl M r) t) (wyN (mdl M r) (t + 1) - v3)) (1 + r) 11 (nI (jnN (wl M r) t + 1))) r := ((f2.trans (feelFr.sta (Or.inr (Or.inl rfl)))).trans (feelFr.sta (Or.inr (Or.inr rfl)))).trans (feelFr.sti (by omega))
          have hrow : RowsAt ((sti (sta (sta (sta S1 (33 + r) t (wyN (mdl M r) (t + 1))) (35 + r) (jnN (wl M r) t) v3) (37 + r) (jnN (wl M r) t) (wyN (mdl M r) (t + 1) - v3)) (1 + r) 11 (nI (jnN (wl M r) t + 1))).2 (33 + r)) ((sti (sta (sta (sta S1 (33 + r) t (wyN (mdl M r) (t + 1))) (35 + r) (jnN (wl M r) t) v3) (37 + r) (jnN (wl M r) t) (wyN (mdl M r) (t + 1) - v3)) (1 + r) 11 (nI (jnN (wl M r) t + 1))).2 (35 + r)) ((sti (sta (sta (sta S1 (33 + r) t (wyN (mdl M r) (t + 1))) (35 + r) (jnN (wl M r) t) v3) (37 + r) (jnN (wl M r) t) (wyN (mdl M r) (t + 1) - v3)) (1 + r) 11 (nI (jnN (wl M r) t + 1))).2 (37 + r)) (mdl M r) (wl M r) (t + 1) := by
            refine rows_step1 hro ?_ ?_ cw c60 ?_ ?_ ?_ ?_
            · rw [sti_2, sta_ne (by omega), sta_ne (by omega), sta_eq]
            · intro i hi
              rw [sti_2, sta_ne (by omega), sta_ne (by omega)]; exact n2 i hi
            · rw [sti_2, sta_ne (by omega), sta_eq, hv3]
            · intro j hj
              rw [sti_2, sta_ne (by omega), sta_ne2 hj, n3]
            · rw [sti_2, sta_eq, hv3]
            · intro j hj
              rw [sti_2, sta_ne2 hj, sta_ne (by omega), n4]
          obtain ⟨S', a1, a2, a3⟩ := ih fl (t + 1) (sti (sta (sta (sta S1 (33 + r) t (wyN (mdl M r) (t + 1))) (35 + r) (jnN (wl M r) t) v3) (37 + r) (jnN (wl M r) t) (wyN (mdl M r) (t + 1) - v3)) (1 + r) 11 (nI (jnN (wl M r) t + 1))) (wyN (mdl M r) (t + 1)) (by omega) (by omega) (hIR.feel hr f3) ((sti_ne (by omega)).trans g9) ((sti_ne (by omega)).trans g10) (by rw [e60]; exact sti_eq) hrow (by intro _; rw [frm, if_neg cw])
          exact ⟨S', a1, f3.trans a2, a3⟩
    rw [LX6_feel_50, if_neg (by rw [h9]; exact nI_ge (by omega) (by omega)), reads_C nF hr hIR ht, Option.bind_some]
    by_cases c : mdl M r t = -1
    · rw [if_pos c]
      have es : stp (mdl M r) (t + 1) = stp (mdl M r) t := by rw [stp, if_pos c]
      rw [← es]
      exact step _ (feelFr.sti (by omega)) ((sti_ne (by omega)).trans h9) (by rw [sti_eq, bld, if_pos c, h10]) ((sti_ne (by omega)).trans h11) rfl
    · rw [if_neg c]
      have es : stp (mdl M r) (t + 1) = mdl M r t := by rw [stp, if_neg c]
      rw [← es]
      exact step S feelFr.rfl' h9 (by rw [bld, if_neg c, h10]) h11 rfl
theorem sz_C {S M : PS} {q : Nat} (h : reelOK S M q) : S.1 (3 + q) 2 = nI (szN M q) ∧ szN M q ≤ 150 := by
  rcases h with ⟨a, b, c⟩ | ⟨a, b, c, d, e, f⟩
  · rw [szN, if_pos c]
    exact ⟨b, by omega⟩
  · rw [szN, if_neg (by rw [a]; decide), d]
    exact ⟨nI_of_btw e, by have := clamp_toInt e.1; have := e.2; omega⟩
theorem sz_M {S M : PS} {q : Nat} (h : reelOK S M q) : M.2 1 q = 0 ∨ (¬ M.2 1 q = 0 ∧ M.2 3 q = nI (szN M q)) := by
  rcases h with ⟨a, b, c⟩ | ⟨a, b, c, d, e, f⟩
  · exact Or.inl c
  · refine Or.inr ⟨by rw [a]; decide, ?_⟩
    rw [szN, if_neg (by rw [a]; decide)]
    exact nI_of_btw e
theorem max_I {a b : Nat} (ha : a < 1000) (hb : b < 1000) : (if nI a < nI b then nI b else nI a) = nI (max a b) := by
  by_cases c : a < b
  · rw [if_pos ((nI_ltI (by omega) (by omega)).mpr c), Nat.max_eq_right (by omega)]
  · rw [if_neg (fun q => c ((nI_ltI (by omega) (by omega)).mp q)), Nat.max_eq_left (by omega)]
theorem tkN_le {S M : PS} {r : Nat} (hr : r < 2) (h : IR S M) : tkN M r ≤ 150 := by
  have h1 := (sz_C (h (4 * r) (by omega))).2
  have h2 := (sz_C (h (4 * r + 1) (by omega))).2
  have h3 := (sz_C (h (4 * r + 2) (by omega))).2
  rw [tkN]
  omega
theorem feel_C (nF : Nat) (hF : 1000 ≤ nF) {S M : PS} {r : Nat} (hr : r < 2) (h : IR S M) : ∃ S', fX6_feel nF S (1 + r) = some S' ∧ feelFr S S' r ∧ FeltC S' M r := by
  have h1 := sz_C (h (4 * r) (by omega))
  have h2 := sz_C (h (4 * r + 1) (by omega))
  have h3 := sz_C (h (4 * r + 2) (by omega))
  have hT := tkN_le hr h
  have f0 : feelFr S (sti (sti (sti S (1 + r) 9 (nI (tkN M r))) (1 + r) 10 0) (1 + r) 11 0) r := ((feelFr.sti (by omega)).trans (feelFr.sti (by omega))).trans (feelFr.sti (by omega))
  obtain ⟨S', a1, a2, a3⟩ := feel_loop nF hr hT (tkN M r) nF 0 (sti (sti (sti S (1 + r) 9 (nI (tkN M r))) (1 + r) 10 0) (1 + r) 11 0) 0 (by omega) (by omega) (h.feel hr f0) ((sti_ne (by omega)).trans ((sti_ne (by omega)).trans sti_eq)) ((sti_ne (by omega)).trans sti_eq) sti_eq (rows_0 _ _ _ _ _) (fun _ => rfl)
  refine ⟨S', ?_, f0.trans a2, a3⟩
  rw [fX6_feel, show 4 * (1 + r) - 1 = 3 + 4 * r by omega, show 4 * (1 + r) = 3 + (4 * r + 1) by omega, show 3 + (4 * r + 1) + 1 = 3 + (4 * r + 2) by omega, h1.1, h2.1, h3.1, max_I (by omega) (by omega), max_I (by omega) (by omega)]
  exact a1
