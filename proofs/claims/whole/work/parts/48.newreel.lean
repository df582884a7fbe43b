/-! a new reel -/
theorem begin_loop (nF : Nat) : ∀ (n : Nat) (S : PS) (j t sz : Nat), S.1 j 2 = nI sz → sz ≤ 150 → t ≤ sz → sz - t < n → ∃ S', LX5_begin_18 nF n S j (nI t) = some S' ∧ S'.1 = S.1 ∧ (∀ a, a ≠ j + 8 → S'.2 a = S.2 a) ∧ (∀ i, S'.2 (j + 8) i = if t ≤ i ∧ i < sz then 0 else S.2 (j + 8) i) := by
  intro n
  induction n with
  | zero => intro S j t sz h1 h2 h3 h4; omega
  | succ n ih =>
    intro S j t sz h1 h2 h3 h4
    by_cases e : t = sz
    · subst e
      refine ⟨S, ?_, rfl, fun _ _ => rfl, fun i => ?_⟩
      · rw [LX5_begin_18, if_pos (by rw [h1]; exact nI_le (Nat.le_refl _) (by omega))]
      · rw [if_neg (by omega)]
    · obtain ⟨S', a1, a2, a3, a4⟩ := ih (sta S (j + 8) t 0) j (t + 1) sz h1 h2 (by omega) (by omega)
      refine ⟨S', ?_, a2, fun a ha => (a3 a ha).trans (sta_ne ha), fun i => ?_⟩
      · rw [LX5_begin_18, if_neg (by rw [h1]; exact nI_ge (by omega) (by omega)), if_neg (nI_in (N := 150) (by omega) (by omega)), nI_clamp (by omega), nI_1]
        exact a1
      · rw [a4 i]
        by_cases c : i = t
        · subst c
          rw [if_neg (by omega), sta_eq, if_pos (by omega)]
        · rw [sta_ne2 c]
          by_cases d : t + 1 ≤ i ∧ i < sz
          · rw [if_pos d, if_pos (by omega)]
          · rw [if_neg d, if_neg (by omega)]
theorem zero_loop (nF : Nat) : ∀ (n : Nat) (M : PS) (q t : Nat) (v : Int32), q < 8 → t ≤ 150 → 150 - t < n → ∃ M', LX10_reel_60 nF n M (nI q) v (nI t) = some (v, M') ∧ M'.1 = M.1 ∧ (∀ a, a ≠ 4 → M'.2 a = M.2 a) ∧ (∀ i, M'.2 4 i = if 150 * q + t ≤ i ∧ i < 150 * q + 150 then 0 else M.2 4 i) := by
  intro n
  induction n with
  | zero => intro M q t v h1 h2 h3; omega
  | succ n ih =>
    intro M q t v h1 h2 h3
    by_cases e : t = 150
    · subst e
      refine ⟨M, ?_, rfl, fun _ _ => rfl, fun i => ?_⟩
      · rw [LX10_reel_60, if_pos (by decide)]
      · rw [if_neg (by omega)]
    · obtain ⟨M', a1, a2, a3, a4⟩ := ih (sta M 4 (150 * q + t) 0) q (t + 1) v h1 (by omega) (by omega)
      refine ⟨M', ?_, a2, fun a ha => (a3 a ha).trans (sta_ne ha), fun i => ?_⟩
      · rw [LX10_reel_60, if_neg (show ¬ (150 : Int32) ≤ nI t from nI_ge (a := t) (b := 150) (by omega) (by omega)), ix150, if_neg (nI_in (N := 1200) (by omega) (by omega)), nI_clamp (by omega), nI_1]
        exact a1
      · rw [a4 i]
        by_cases c : i = 150 * q + t
        · subst c
          rw [if_neg (by omega), sta_eq, if_pos (by omega)]
        · rw [sta_ne2 c]
          by_cases d : 150 * q + (t + 1) ≤ i ∧ i < 150 * q + 150
          · rw [if_pos d, if_pos (by omega)]
          · rw [if_neg d, if_neg (by omega)]
theorem sim_reel_ok (nF : Nat) (hF : 1000 ≤ nF) : sim_reel nF Inv := by
  intro S M a1 a2 a3 hI
  have hI0 := hI
  obtain ⟨hR, hN, hT, hB, hK, hW, hV⟩ := hI
  rcases reelAt_cases nF S M a1 with ⟨q1, q2⟩ | ⟨q, hq, rfl, q2, q3⟩
  · exact ⟨-2, S, M, by rw [fX9_reel, q2]; rfl, by rw [fX10_reel, if_pos q1], hI0⟩
  have hcl : (nI q).toNatClampNeg = q := nI_clamp (by omega)
  by_cases c2 : fX10_in M a2 0 2 = 0
  · refine ⟨-2, S, M, ?_, by rw [fX10_reel, if_neg q3, if_pos c2], hI0⟩
    rw [fX9_reel, q2]
    show (if fX9_isForm S a2 = 0 then some ((-2 : Int32), S) else _) = _
    rw [if_pos (show fX9_isForm S a2 = 0 from c2)]
  have c2' : ¬ fX9_isForm S a2 = 0 := c2
  by_cases c3 : a3 ≤ 150
  · by_cases c4 : 0 ≤ a3
    · have hb : btw a3 0 150 := ⟨Int32.le_iff_toInt_le.mp c4, Int32.le_iff_toInt_le.mp c3⟩
      obtain ⟨n, hn, rfl⟩ : ∃ n : Nat, n ≤ 150 ∧ a3 = nI n := ⟨_, by have := clamp_toInt hb.1; have := hb.2; omega, nI_of_btw hb⟩
      obtain ⟨S', a1, a2', a3', a4⟩ := begin_loop nF nF (sti (sti S (3 + q) 1 a2) (3 + q) 2 (nI n)) (3 + q) 0 n sti_eq hn (by omega) (by omega)
      obtain ⟨M', b1, b2, b3, b4⟩ := zero_loop nF nF (sta (sta (sta M 1 q 1) 2 q a2) 3 q (nI n)) q 0 (nI n) hq (by omega) (by omega)
      refine ⟨nI n, S', M', ?_, ?_, ?_⟩
      · rw [fX9_reel, q2]
        show (if fX9_isForm S a2 = 0 then _ else (if nI n ≤ 150 then (if 0 ≤ nI n then ((fX5_begin nF S (3 + q) a2 (nI n)).bind fun r2 => some (nI n, r2)) else _) else _)) = _
        rw [if_neg c2', if_pos c3, if_pos c4, fX5_begin, if_neg (fun g => absurd c3 (Int32.not_le.mpr g)), show (0 : Int32) = nI 0 from rfl, a1]
        rfl
      · rw [fX10_reel, if_neg q3, if_neg c2, if_pos c3, if_pos c4, if_neg (gq hq), hcl]
        exact b1
      · have r1 : ∀ a b, S'.1 a b = (sti (sti S (3 + q) 1 a2) (3 + q) 2 (nI n)).1 a b := fun a b => by rw [a2']
        have hR' : IR S' M' := by
          intro r hr
          by_cases e : r = q
          · subst e
            refine Or.inr ⟨?_, ?_, ?_, ?_, ?_, fun i hi => ?_⟩
            · rw [b3 1 (by decide), sta_ne (by decide), sta_ne (by decide), sta_eq]
            · rw [r1, sti_ne (by omega), sti_eq, b3 2 (by decide), sta_ne (by decide), sta_eq]
            · rw [b3 2 (by decide), sta_ne (by decide), sta_eq]; exact in_btw c2
            · rw [r1, sti_eq, b3 3 (by decide), sta_eq]
            · rw [b3 3 (by decide), sta_eq]; exact hb
            · rw [b3 3 (by decide), sta_eq, nI_toInt (by omega)] at hi
              have h8 := a4 i
              rw [show 3 + r + 8 = 11 + r by omega] at h8
              rw [h8, b4, if_pos (by omega), if_pos (by omega)]
          · have := hR r hr
            unfold reelOK at this ⊢
            have hrow : S'.2 (11 + r) = S.2 (11 + r) := a3' (11 + r) (by omega)
            have hm : ∀ i : Nat, i < 150 → M'.2 4 (150 * r + i) = M.2 4 (150 * r + i) := fun i hi => by
              rw [b4, if_neg (by omega)]; rfl
            have m1 : M'.2 1 r = M.2 1 r := by rw [b3 1 (by decide), sta_ne (by decide), sta_ne (by decide), sta_ne2 e]
            have m2 : M'.2 2 r = M.2 2 r := by rw [b3 2 (by decide), sta_ne (by decide), sta_ne2 e, sta_ne (by decide)]
            have m3 : M'.2 3 r = M.2 3 r := by rw [b3 3 (by decide), sta_ne2 e, sta_ne (by decide), sta_ne (by decide)]
            have s1 : S'.1 (3 + r) 1 = S.1 (3 + r) 1 := by rw [r1, sti_ne (by omega), sti_ne (by omega)]
            have s2 : S'.1 (3 + r) 2 = S.1 (3 + r) 2 := by rw [r1, sti_ne (by omega), sti_ne (by omega)]
            rw [m1, m2, m3, s1, s2, hrow]
            rcases this with h | ⟨h1, h2, h3, h4, h5, h6⟩
            · exact Or.inl h
            · exact Or.inr ⟨h1, h2, h3, h4, h5, fun i hi => by rw [hm i (by have := h5.2; omega)]; exact h6 i hi⟩
        have r2 : ∀ a b, ¬ (3 ≤ a ∧ a < 11) → S'.1 a b = S.1 a b := fun a b h => by rw [r1, sti_ne (by omega), sti_ne (by omega)]
        have r3 : ∀ a, ¬ (11 ≤ a ∧ a < 19) → S'.2 a = S.2 a := fun a h => a3' a (by omega)
        have r4 : M'.1 = M.1 := b2
        have r5 : ∀ a, ¬ (1 ≤ a ∧ a ≤ 4) → M'.2 a = M.2 a := fun a h => by rw [b3 a (by omega), sta_ne (by omega), sta_ne (by omega), sta_ne (by omega)]
        refine ⟨hR', ?_, ?_, ?_, hK.congr (fun r hr => ⟨r2 _ _ (by omega), r3 _ (by omega), r3 _ (by omega), r3 _ (by omega), r3 _ (by omega)⟩) ⟨r5 _ (by decide), r5 _ (by decide), r5 _ (by decide), r5 _ (by decide), r5 _ (by decide)⟩, ?_, ?_⟩
        · unfold IN at hN ⊢
          rw [r2 0 9 (by decide), r2 0 7 (by decide), r2 0 8 (by decide), r2 44 3 (by decide), r4]
          exact hN
        · unfold IT at hT ⊢
          rw [r2 54 0 (by decide), r2 54 1 (by decide), r2 54 2 (by decide), r4]
          exact hT
        · unfold IB at hB ⊢
          rw [r2 41 2 (by decide), r2 41 3 (by decide), r2 41 4 (by decide), r3 42 (by decide), r4, r5 9 (by decide)]
          exact hB
        · unfold IW at hW ⊢
          rw [r2 55 2 (by decide), r2 55 3 (by decide), r2 55 4 (by decide), r2 55 5 (by decide), r3 56 (by decide), r3 57 (by decide), r4, r5 23 (by decide), r5 24 (by decide)]
          exact hW
        · unfold IV at hV ⊢
          rw [r2 58 0 (by decide), r2 58 1 (by decide), r4, r5 25 (by decide)]
          exact hV
    · refine ⟨-10 - 5, sti S 0 9 5, sti M 0 5 5, ?_, ?_, Inv_find hI0⟩
      · rw [fX9_reel, q2]
        show (if fX9_isForm S a2 = 0 then _ else (if a3 ≤ 150 then (if 0 ≤ a3 then _ else some ((-10 : Int32) - 5, sti S 0 9 5)) else _)) = _
        rw [if_neg c2', if_pos c3, if_neg c4]
      · rw [fX10_reel, if_neg q3, if_neg c2, if_pos c3, if_neg c4]
        rfl
  · refine ⟨-2, S, M, ?_, by rw [fX10_reel, if_neg q3, if_neg c2, if_neg c3], hI0⟩
    rw [fX9_reel, q2]
    show (if fX9_isForm S a2 = 0 then _ else (if a3 ≤ 150 then _ else some ((-2 : Int32), S))) = _
    rw [if_neg c2', if_neg c3]
