/-! copies -/
theorem copy1_loop (nF : Nat) : ∀ (n : Nat) (M : PS) (q i0 k t : Nat) (v3 v4 : Int32), q < 8 → i0 + k ≤ 150 → t ≤ k → k - t < n → ∃ M1, LX10_copy_120 nF n M (nI q) (nI i0) v3 v4 (nI k) (nI t) = BX10_copy_155 nF M1 v3 v4 (nI k) ∧ M1.1 = M.1 ∧ (∀ a, a ≠ 5 → M1.2 a = M.2 a) ∧ (∀ i, M1.2 5 i = if t ≤ i ∧ i < k then M.2 4 (150 * q + i0 + i) else M.2 5 i) := by
  intro n
  induction n with
  | zero => intro M q i0 k t v3 v4 h1 h2 h3 h4; omega
  | succ n ih =>
    intro M q i0 k t v3 v4 h1 h2 h3 h4
    by_cases e : t = k
    · subst e
      refine ⟨M, ?_, rfl, fun _ _ => rfl, fun i => ?_⟩
      · rw [LX10_copy_120, if_pos (nI_le (Nat.le_refl _) (by omega))]
      · rw [if_neg (by omega)]
    · obtain ⟨M1, a1, a2, a3, a4⟩ := ih (sta M 5 t (M.2 4 (150 * q + i0 + t))) q i0 k (t + 1) v3 v4 h1 h2 (by omega) (by omega)
      refine ⟨M1, ?_, a2, fun a ha => (a3 a ha).trans (sta_ne ha), fun i => ?_⟩
      · rw [LX10_copy_120, if_neg (nI_ge (by omega) (by omega)), ix150, nI_add, if_neg (nI_in (N := 1200) (by omega) (by omega)), if_neg (nI_in (N := 150) (by omega) (by omega)), nI_clamp (by omega), nI_clamp (by omega), nI_1]
        exact a1
      · rw [a4 i, sta_ne (show ¬ 4 = 5 by decide)]
        by_cases c : i = t
        · subst c
          rw [if_neg (by omega), sta_eq, if_pos (by omega)]
        · rw [sta_ne2 c]
          by_cases d : t + 1 ≤ i ∧ i < k
          · rw [if_pos d, if_pos (by omega)]
          · rw [if_neg d, if_neg (by omega)]
theorem copy2_loop (nF : Nat) : ∀ (n : Nat) (M : PS) (r j0 k t : Nat), r < 8 → j0 + k ≤ 150 → t ≤ k → k - t < n → ∃ M2, LX10_copy_158 nF n M (nI r) (nI j0) (nI k) (nI t) = some (1, M2) ∧ M2.1 = M.1 ∧ (∀ a, a ≠ 4 → M2.2 a = M.2 a) ∧ (∀ x, M2.2 4 x = if 150 * r + j0 + t ≤ x ∧ x < 150 * r + j0 + k then M.2 5 (x - (150 * r + j0)) else M.2 4 x) := by
  intro n
  induction n with
  | zero => intro M r j0 k t h1 h2 h3 h4; omega
  | succ n ih =>
    intro M r j0 k t h1 h2 h3 h4
    by_cases e : t = k
    · subst e
      refine ⟨M, ?_, rfl, fun _ _ => rfl, fun i => ?_⟩
      · rw [LX10_copy_158, if_pos (nI_le (Nat.le_refl _) (by omega))]
      · rw [if_neg (by omega)]
    · obtain ⟨M2, a1, a2, a3, a4⟩ := ih (sta M 4 (150 * r + j0 + t) (M.2 5 t)) r j0 k (t + 1) h1 h2 (by omega) (by omega)
      refine ⟨M2, ?_, a2, fun a ha => (a3 a ha).trans (sta_ne ha), fun x => ?_⟩
      · rw [LX10_copy_158, if_neg (nI_ge (by omega) (by omega)), if_neg (nI_in (N := 150) (by omega) (by omega)), ix150, nI_add, if_neg (nI_in (N := 1200) (by omega) (by omega)), nI_clamp (by omega), nI_clamp (by omega), nI_1]
        exact a1
      · rw [a4 x, sta_ne (show ¬ 5 = 4 by decide)]
        by_cases c : x = 150 * r + j0 + t
        · subst c
          rw [if_neg (by omega), sta_eq, if_pos (by omega), show 150 * r + j0 + t - (150 * r + j0) = t by omega]
        · rw [sta_ne2 c]
          by_cases d : 150 * r + j0 + (t + 1) ≤ x ∧ x < 150 * r + j0 + k
          · rw [if_pos d, if_pos (by omega)]
          · rw [if_neg d, if_neg (by omega)]
theorem hasItems_0 {S : PS} {j : Nat} {i k : Int32} (hs : btw (S.1 j 2) 0 150) : (fX5_hasItems S j i k = 0 ∧ ¬ (0 ≤ i.toInt ∧ 0 ≤ k.toInt ∧ i.toInt + k.toInt ≤ (S.1 j 2).toInt)) ∨ (¬ fX5_hasItems S j i k = 0 ∧ 0 ≤ i.toInt ∧ 0 ≤ k.toInt ∧ i.toInt + k.toInt ≤ (S.1 j 2).toInt) := by
  have e0 : (0 : Int32).toInt = 0 := rfl
  obtain ⟨hs1, hs2⟩ := hs
  unfold fX5_hasItems
  by_cases c1 : i < 0
  · rw [if_pos c1]; rw [Int32.lt_iff_toInt_lt] at c1; exact Or.inl ⟨rfl, by omega⟩
  rw [if_neg c1]
  rw [Int32.lt_iff_toInt_lt] at c1
  by_cases c2 : k < 0
  · rw [if_pos c2]; rw [Int32.lt_iff_toInt_lt] at c2; exact Or.inl ⟨rfl, by omega⟩
  rw [if_neg c2]
  rw [Int32.lt_iff_toInt_lt] at c2
  by_cases c3 : S.1 j 2 < k
  · rw [if_pos c3]; rw [Int32.lt_iff_toInt_lt] at c3; exact Or.inl ⟨rfl, by omega⟩
  rw [if_neg c3]
  rw [Int32.lt_iff_toInt_lt] at c3
  have hd : (S.1 j 2 - k).toInt = (S.1 j 2).toInt - k.toInt := sub_toInt (by omega) (by omega)
  by_cases c4 : S.1 j 2 - k < i
  · rw [if_pos c4]; rw [Int32.lt_iff_toInt_lt] at c4; exact Or.inl ⟨rfl, by omega⟩
  rw [if_neg c4]
  rw [Int32.lt_iff_toInt_lt] at c4
  exact Or.inr ⟨by decide, by omega, by omega, by omega⟩
theorem cmp_pos {i k s : Int32} : 0 < lg_cmp (i.toInt64 + k.toInt64) s.toInt64 ↔ s.toInt < i.toInt + k.toInt := by
  have h : (i.toInt64 + k.toInt64).toInt = i.toInt + k.toInt := by
    have a1 := Int32.toInt_lt i
    have a2 := Int32.le_toInt i
    have b1 := Int32.toInt_lt k
    have b2 := Int32.le_toInt k
    rw [Int64.toInt_add, Int32.toInt_toInt64, Int32.toInt_toInt64]
    exact Int.bmod_eq_of_le (by omega) (by omega)
  have hg : (i.toInt64 + k.toInt64 > s.toInt64) ↔ s.toInt < i.toInt + k.toInt := by rw [gt_iff_lt, Int64.lt_iff_toInt_lt, h, Int32.toInt_toInt64]
  unfold lg_cmp
  by_cases g : i.toInt64 + k.toInt64 > s.toInt64
  · rw [if_pos g]; exact ⟨fun _ => hg.mp g, fun _ => by decide⟩
  · rw [if_neg g]
    refine ⟨fun q => ?_, fun q => absurd (hg.mpr q) g⟩
    split at q
    · exact absurd q (by decide)
    · exact absurd q (by decide)
theorem sim_copy_ok (nF : Nat) (hF : 1000 ≤ nF) : sim_copy nF Inv := by
  intro S M a1 a2 a3 a4 a5 hI
  have hI0 := hI
  obtain ⟨hR, hN, hT, hB, hK, hW, hV⟩ := hI
  have e0 : (0 : Int32).toInt = 0 := rfl
  rcases reelAt_cases nF S M a1 with ⟨q1, q2⟩ | ⟨q, hq, rfl, q2, q3⟩
  · refine ⟨-2, S, M, ?_, by rw [fX10_copy, if_pos q1], hI0⟩
    rcases reelAt_cases nF S M a3 with ⟨p1, p2⟩ | ⟨r, hr, rfl, p2, p3⟩
    · rw [fX9_copy, q2, Option.bind_some, p2]; rfl
    · rw [fX9_copy, q2, Option.bind_some, p2]; rfl
  rcases reelAt_cases nF S M a3 with ⟨p1, p2⟩ | ⟨r, hr, rfl, p2, p3⟩
  · refine ⟨-2, S, M, ?_, by rw [fX10_copy, if_neg q3, if_pos p1], hI0⟩
    rw [fX9_copy, q2, Option.bind_some, p2]; rfl
  have hcq : (nI q).toNatClampNeg = q := nI_clamp (by omega)
  have hcr : (nI r).toNatClampNeg = r := nI_clamp (by omega)
  have hc : ∀ w : Option (Int32 × PS), (if (fX5_isLost S (3 + q)) = (0 : Int32) then (if (fX5_isLost S (3 + r)) = (0 : Int32) then (if (S.1 (3 + q) 1) = (S.1 (3 + r) 1) then (if (fX5_hasItems S (3 + q) a2 a5) = (0 : Int32) then (some ((-10 : Int32) - 2, sti S 0 9 2)) else (if (fX5_hasItems S (3 + r) a4 a5) = (0 : Int32) then (some ((-10 : Int32) - 2, sti S 0 9 2)) else (if a2 < 0 ∨ a4 < 0 ∨ a5 < 0 ∨ 150 < a2.toNatClampNeg + a5.toNatClampNeg ∨ 150 < a4.toNatClampNeg + a5.toNatClampNeg then none else (some ((1 : Int32), (str S (3 + r + 8) (va_cpy (S.2 (3 + q + 8)) (S.2 (3 + r + 8)) a2.toNatClampNeg a4.toNatClampNeg a5.toNatClampNeg))))))) else (some ((-10 : Int32) - 4, sti S 0 9 4))) else (some ((-10 : Int32) - 1, sti S 0 9 1))) else (some ((-10 : Int32) - 1, sti S 0 9 1))) = w → fX9_copy nF S (nI q) a2 (nI r) a4 a5 = w := by
    intro w hw
    rw [fX9_copy, q2, Option.bind_some, p2]
    exact hw
  rcases (isLost_0 (hR q hq)).symm with ⟨l1, l2⟩ | ⟨l1, l2⟩
  · refine ⟨-10 - 1, sti S 0 9 1, sti M 0 5 1, hc _ (by rw [if_neg l1]), ?_, Inv_find hI0⟩
    rw [fX10_copy, if_neg q3, if_neg p3, if_neg (gq hq), hcq, if_pos l2]; rfl
  rcases (isLost_0 (hR r hr)).symm with ⟨k1, k2⟩ | ⟨k1, k2⟩
  · refine ⟨-10 - 1, sti S 0 9 1, sti M 0 5 1, hc _ (by rw [if_pos l1, if_neg k1]), ?_, Inv_find hI0⟩
    rw [fX10_copy, if_neg q3, if_neg p3, if_neg (gq hq), hcq, if_neg l2, if_neg (gq hr), hcr, if_pos k2]; rfl
  rcases hR q hq with ⟨-, -, h⟩ | ⟨f1, f2, f3, f4, f5, f6⟩
  · exact absurd h l2
  rcases hR r hr with ⟨-, -, h⟩ | ⟨g1, g2, g3, g4, g5, g6⟩
  · exact absurd h k2
  have hm0 : ∀ w : Option (Int32 × PS), (if (M.2 2 q) = (M.2 2 r) then (if a2 < (0 : Int32) then (some ((-10 : Int32) - 2, sti M 0 5 2)) else (if a4 < (0 : Int32) then (some ((-10 : Int32) - 2, sti M 0 5 2)) else (if a5 < (0 : Int32) then (some ((-10 : Int32) - 2, sti M 0 5 2)) else (if (0 : Int32) < (lg_cmp (a2.toInt64 + a5.toInt64) (M.2 3 q).toInt64) then (some ((-10 : Int32) - 2, sti M 0 5 2)) else (if (lg_cmp (a4.toInt64 + a5.toInt64) (M.2 3 r).toInt64) ≤ (0 : Int32) then (LX10_copy_120 nF nF M (nI q) a2 (nI r) a4 a5 (0 : Int32)) else (some ((-10 : Int32) - 2, sti M 0 5 2))))))) else (some ((-10 : Int32) - 4, sti M 0 5 4))) = w → fX10_copy nF M (nI q) a2 (nI r) a4 a5 = w := by
    intro w hw
    rw [fX10_copy, if_neg q3, if_neg p3, if_neg (gq hq), hcq, if_neg l2, if_neg (gq hr), hcr, if_neg k2]
    exact hw
  rcases (Decidable.em (M.2 2 q = M.2 2 r)).symm with cf | cf
  · exact ⟨-10 - 4, sti S 0 9 4, sti M 0 5 4, hc _ (by rw [if_pos l1, if_pos k1, if_neg (fun g => cf (f2.symm.trans (g.trans g2)))]), hm0 _ (by rw [if_neg cf]), Inv_find hI0⟩
  have cf' : S.1 (3 + q) 1 = S.1 (3 + r) 1 := f2.trans (cf.trans g2.symm)
  have hbad : (fX5_hasItems S (3 + q) a2 a5 = 0 ∨ fX5_hasItems S (3 + r) a4 a5 = 0) → (∃ (x : Int32) (S' M' : PS), (fX9_copy nF S (nI q) a2 (nI r) a4 a5 = some (x, S')) ∧ (fX10_copy nF M (nI q) a2 (nI r) a4 a5 = some (x, M')) ∧ Inv S' M') := by
    intro hh
    refine ⟨-10 - 2, sti S 0 9 2, sti M 0 5 2, hc _ ?_, hm0 _ ?_, Inv_find hI0⟩
    · rw [if_pos l1, if_pos k1, if_pos cf']
      by_cases z : fX5_hasItems S (3 + q) a2 a5 = 0
      · rw [if_pos z]
      · rw [if_neg z, if_pos (hh.resolve_left z)]
    · rw [if_pos cf]
      by_cases d1 : a2 < 0
      · rw [if_pos d1]
      rw [if_neg d1]
      by_cases d2 : a4 < 0
      · rw [if_pos d2]
      rw [if_neg d2]
      by_cases d3 : a5 < 0
      · rw [if_pos d3]
      rw [if_neg d3]
      by_cases d4 : 0 < lg_cmp (a2.toInt64 + a5.toInt64) (M.2 3 q).toInt64
      · rw [if_pos d4]
      rw [if_neg d4, if_neg]
      rw [Int32.not_le]
      rw [cmp_pos] at d4 ⊢
      rw [Int32.lt_iff_toInt_lt] at d1 d2 d3
      rw [← f4] at d4
      rw [← g4]
      rcases hasItems_0 (S := S) (j := 3 + q) (i := a2) (k := a5) (by rw [f4]; exact f5) with ⟨y1, y2⟩ | ⟨y1, y2⟩
      · omega
      · rcases hasItems_0 (S := S) (j := 3 + r) (i := a4) (k := a5) (by rw [g4]; exact g5) with ⟨z1, z2⟩ | ⟨z1, z2⟩
        · omega
        · exact absurd hh (by rintro (h | h); exact y1 h; exact z1 h)
  rcases hasItems_0 (S := S) (j := 3 + q) (i := a2) (k := a5) (by rw [f4]; exact f5) with ⟨y1, y2⟩ | ⟨y1, y2, y3, y4⟩
  · exact hbad (Or.inl y1)
  rcases hasItems_0 (S := S) (j := 3 + r) (i := a4) (k := a5) (by rw [g4]; exact g5) with ⟨z1, z2⟩ | ⟨z1, z2, z3, z4⟩
  · exact hbad (Or.inr z1)
  rw [f4] at y4
  rw [g4] at z4
  obtain ⟨f51, f52⟩ := f5
  obtain ⟨g51, g52⟩ := g5
  obtain ⟨i0, hi0, rfl⟩ : ∃ n : Nat, n ≤ 150 ∧ a2 = nI n := ⟨_, by have := clamp_toInt y2; omega, nI_of_btw (b := 150) ⟨y2, by omega⟩⟩
  obtain ⟨j0, hj0, rfl⟩ : ∃ n : Nat, n ≤ 150 ∧ a4 = nI n := ⟨_, by have := clamp_toInt z2; omega, nI_of_btw (b := 150) ⟨z2, by omega⟩⟩
  obtain ⟨k, hk, rfl⟩ : ∃ n : Nat, n ≤ 150 ∧ a5 = nI n := ⟨_, by have := clamp_toInt y3; omega, nI_of_btw (b := 150) ⟨y3, by omega⟩⟩
  rw [nI_toInt (by omega), nI_toInt (by omega)] at y4 z4
  obtain ⟨M1, m1, m2, m3, m4⟩ := copy1_loop nF nF M q i0 k 0 (nI r) (nI j0) hq (by omega) (by omega) (by omega)
  obtain ⟨M2, n1, n2, n3, n4⟩ := copy2_loop nF nF M1 r j0 k 0 hr (by omega) (by omega) (by omega)
  have ci : (nI i0).toNatClampNeg = i0 := nI_clamp (by omega)
  have cj : (nI j0).toNatClampNeg = j0 := nI_clamp (by omega)
  have ck : (nI k).toNatClampNeg = k := nI_clamp (by omega)
  refine ⟨1, str S (11 + r) (va_cpy (S.2 (11 + q)) (S.2 (11 + r)) i0 j0 k), M2, hc _ ?_, hm0 _ ?_, ?_⟩
  · rw [if_pos l1, if_pos k1, if_pos cf', if_neg y1, if_neg z1, if_neg, ci, cj, ck, show 3 + q + 8 = 11 + q by omega, show 3 + r + 8 = 11 + r by omega]
    rintro (h | h | h | h | h)
    · exact nI_pos (by omega) h
    · exact nI_pos (by omega) h
    · exact nI_pos (by omega) h
    · rw [ci, ck] at h; omega
    · rw [cj, ck] at h; omega
  · rw [if_pos cf, if_neg (nI_pos (by omega)), if_neg (nI_pos (by omega)), if_neg (nI_pos (by omega)), if_neg (by rw [cmp_pos, nI_toInt (by omega), nI_toInt (by omega)]; omega), if_pos (by rw [← Int32.not_lt, cmp_pos, nI_toInt (by omega), nI_toInt (by omega)]; omega), show (0 : Int32) = nI 0 from rfl, m1, BX10_copy_155, show (0 : Int32) = nI 0 from rfl, n1]
  · have r3 : ∀ a, ¬ a = 11 + r → (str S (11 + r) (va_cpy (S.2 (11 + q)) (S.2 (11 + r)) i0 j0 k)).2 a = S.2 a := fun a h => if_neg h
    have r4 : M2.1 = M.1 := n2.trans m2
    have r5 : ∀ a, a ≠ 4 → a ≠ 5 → M2.2 a = M.2 a := fun a h h2 => (n3 a h).trans (m3 a h2)
    have hS1 : (str S (11 + r) (va_cpy (S.2 (11 + q)) (S.2 (11 + r)) i0 j0 k)).1 = S.1 := rfl
    refine ⟨fun w hw => ?_, ?_, ?_, ?_, hK.congr (fun u hu => ⟨rfl, r3 _ (by omega), r3 _ (by omega), r3 _ (by omega), r3 _ (by omega)⟩) ⟨r5 _ (by decide) (by decide), r5 _ (by decide) (by decide), r5 _ (by decide) (by decide), r5 _ (by decide) (by decide), r5 _ (by decide) (by decide)⟩, ?_, ?_⟩
    · rcases hR w hw with ⟨h1, h2, h3⟩ | ⟨h1, h2, h3, h4, h5, h6⟩
      · exact Or.inl ⟨h1, h2, by rw [r5 1 (by decide) (by decide)]; exact h3⟩
      · refine Or.inr ⟨by rw [r5 1 (by decide) (by decide)]; exact h1, by rw [r5 2 (by decide) (by decide)]; exact h2, by rw [r5 2 (by decide) (by decide)]; exact h3, by rw [r5 3 (by decide) (by decide)]; exact h4, by rw [r5 3 (by decide) (by decide)]; exact h5, fun i hi => ?_⟩
        rw [r5 3 (by decide) (by decide)] at hi
        have hi2 := h5.2
        rw [n4]
        by_cases e : w = r
        · subst e
          have hrow : (str S (11 + w) (va_cpy (S.2 (11 + q)) (S.2 (11 + w)) i0 j0 k)).2 (11 + w) = va_cpy (S.2 (11 + q)) (S.2 (11 + w)) i0 j0 k := if_pos rfl
          rw [hrow]
          by_cases d : j0 ≤ i ∧ i < j0 + k
          · rw [pk_cpy_in d.1 d.2, if_pos (by omega), m4, if_pos (by omega), f6 (i0 + (i - j0)) (by omega)]
            rw [show 150 * q + i0 + (150 * w + i - (150 * w + j0)) = 150 * q + (i0 + (i - j0)) by omega]
          · rw [pk_cpy_out (by omega), if_neg (by omega), m3 4 (by decide)]
            exact h6 i hi
        · rw [r3 _ (by omega), if_neg (by omega), m3 4 (by decide)]
          exact h6 i hi
    · unfold IN at hN ⊢
      rw [r4, hS1]
      exact hN
    · unfold IT at hT ⊢
      rw [r4, hS1]
      exact hT
    · unfold IB at hB ⊢
      rw [r4, hS1, r3 42 (by omega), r5 9 (by decide) (by decide)]
      exact hB
    · unfold IW at hW ⊢
      rw [r4, hS1, r3 56 (by omega), r3 57 (by omega), r5 23 (by decide) (by decide), r5 24 (by decide) (by decide)]
      exact hW
    · unfold IV at hV ⊢
      rw [r4, hS1, r5 25 (by decide) (by decide)]
      exact hV
