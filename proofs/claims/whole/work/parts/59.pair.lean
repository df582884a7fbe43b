/-! the class pairs up: from the end, a pair, then a joint left out -/
def lfN (C P : Nat → Nat → Nat) (mi b : Nat) : Nat → Nat
  | 0 => 0
  | f + 1 => if C (b + 1) (f + 1) = P b f ∨ C (b + 1) (f + 1) = C b (f + 1) + mi then f + 1 else lfN C P mi b f
def tbN (C P : Nat → Nat → Nat) (mi b f : Nat) : Int32 × Nat :=
  match lfN C P mi b f with
  | 0 => (-1, 0)
  | g + 1 => if C (b + 1) (g + 1) = P b g then (nI g, g) else (-1, g + 1)
def prtN (C P : Nat → Nat → Nat) (mi : Nat) : Nat → Nat → Nat → Int32
  | 0, _, _ => -1
  | b + 1, f, k => if k = b then (tbN C P mi b f).1 else prtN C P mi b (tbN C P mi b f).2 k
def pcN (bk ln : Nat → Nat) (mi ex b f : Nat) : Nat := cst bk ln mi ex b f + dst (bk b) (ln f)
theorem lfN_le (C P : Nat → Nat → Nat) (mi b : Nat) : ∀ f, lfN C P mi b f ≤ f
  | 0 => Nat.le_refl _
  | f + 1 => by
    have := lfN_le C P mi b f
    rw [lfN]
    split <;> omega
theorem tbN_le (C P : Nat → Nat → Nat) (mi b f : Nat) : (tbN C P mi b f).2 ≤ f := by
  have h := lfN_le C P mi b f
  unfold tbN
  split
  · exact Nat.zero_le _
  · rename_i g e
    split
    · show g ≤ f
      omega
    · show g + 1 ≤ f
      omega
theorem bookC.cg {S S' : PS} {r n J mi ex : Nat} {bk ln : Nat → Nat} (h : bookC S r n J mi ex bk ln) (h1 : S'.1 = S.1) (h2 : S'.2 42 = S.2 42) (h3 : S'.2 (37 + r) = S.2 (37 + r)) : bookC S' r n J mi ex bk ln := by
  unfold bookC at h ⊢
  rw [h1, h2, h3]
  exact h
theorem last_C (nF : Nat) {S : PS} {r n J mi ex b : Nat} {bk ln : Nat → Nat} (hr : r < 2) (hB : bookC S r n J mi ex bk ln) (hb : b < n) (hT : ∀ i, i ≤ n → ∀ j, j ≤ J → S.2 43 (61 * i + j) = nI (cst bk ln mi ex i j)) : ∀ f fl : Nat, f < fl → f ≤ J → LX0_lastFeltNotLeftOut_3 nF fl S (1 + r) (nI (b + 1)) (nI f) = some (nI (lfN (cst bk ln mi ex) (pcN bk ln mi ex) mi b f)) := by
  intro f
  induction f with
  | zero =>
    intro fl h1 h2
    obtain ⟨fl, rfl⟩ : ∃ m, fl = m + 1 := ⟨fl - 1, by omega⟩
    rw [LX0_lastFeltNotLeftOut_3, if_pos (show nI 0 ≤ 0 by decide)]
    rfl
  | succ f ih =>
    intro fl h1 h2
    obtain ⟨fl, rfl⟩ : ∃ m, fl = m + 1 := ⟨fl - 1, by omega⟩
    have hJ := hB.2.1
    have hn := hB.1
    have hm := hB.2.2.1
    have he := hB.2.2.2.1
    have i0 : nI (b + 1) * 61 + nI (f + 1) = nI (61 * (b + 1) + (f + 1)) := by
      rw [show nI (b + 1) * 61 = nI ((b + 1) * 61) from pk_mul (b + 1) 61, nI_add, Nat.mul_comm]
    have i1 : nI b * 61 + nI (f + 1) = nI (61 * b + (f + 1)) := by
      rw [show nI b * 61 = nI (b * 61) from pk_mul b 61, nI_add, Nat.mul_comm]
    have c1 := cst_le (bk := bk) (ln := ln) hm he b (f + 1)
    have c2 := cst_le (bk := bk) (ln := ln) hm he (b + 1) (f + 1)
    have c3 := cst_le (bk := bk) (ln := ln) hm he b f
    have c4 := dst_le (bk b) (ln f)
    have c5 := (hB.2.2.2.2.2.2.2.2.1 b hb).2
    have c6 := (hB.2.2.2.2.2.2.2.2.2 f (by omega)).2
    have c7 : cst bk ln mi ex b f + dst (bk b) (ln f) = pcN bk ln mi ex b f := rfl
    rw [LX0_lastFeltNotLeftOut_3, if_neg (nI_nle (by omega) (by omega)), i0, if_neg (nI_in (N := 2501) (by omega) (by omega)), withPair_C nF hr hB hb (by omega) (hT b (by omega) f (by omega)), Option.bind_some, c7, nI_clamp (by omega), hT (b + 1) (by omega) (f + 1) (by omega), nI_pred b, i1, if_neg (nI_in (N := 2501) (by omega) (by omega)), nI_clamp (by omega), hT b (by omega) (f + 1) (by omega), hB.2.2.2.2.2.1, nI_add, pk_m1, lfN]
    by_cases d1 : cst bk ln mi ex (b + 1) (f + 1) = pcN bk ln mi ex b f
    · rw [if_pos ((nI_eq (by omega) (by omega)).mpr d1), if_pos (Or.inl d1)]
    · rw [if_neg (fun q => d1 ((nI_eq (by omega) (by omega)).mp q))]
      by_cases d2 : cst bk ln mi ex (b + 1) (f + 1) = cst bk ln mi ex b (f + 1) + mi
      · rw [if_pos ((nI_eq (by omega) (by omega)).mpr d2), if_pos (Or.inr d2)]
      · rw [if_neg (fun q => d2 ((nI_eq (by omega) (by omega)).mp q)), if_neg (fun q => q.elim d1 d2)]
        exact ih fl (by omega) (by omega)
theorem pair_C (nF : Nat) (hF : 1000 ≤ nF) {r n J mi ex : Nat} {bk ln : Nat → Nat} (hr : r < 2) : ∀ (b fl f : Nat) (S : PS), b < fl → b ≤ n → f ≤ J → bookC S r n J mi ex bk ln → (∀ i, i ≤ n → ∀ j, j ≤ J → S.2 43 (61 * i + j) = nI (cst bk ln mi ex i j)) → ∃ S', LX0_pairUp_16 nF fl S (1 + r) (nI f) (nI b) = some S' ∧ S'.1 = S.1 ∧ (∀ a, a ≠ 39 + r → S'.2 a = S.2 a) ∧ (∀ k, S'.2 (39 + r) k = if k < b then prtN (cst bk ln mi ex) (pcN bk ln mi ex) mi b f k else S.2 (39 + r) k) := by
  intro b
  induction b with
  | zero =>
    intro fl f S h1 h2 h3 hB hT
    obtain ⟨fl, rfl⟩ : ∃ m, fl = m + 1 := ⟨fl - 1, by omega⟩
    exact ⟨S, by rw [LX0_pairUp_16, if_pos (show nI 0 ≤ 0 by decide)], rfl, fun _ _ => rfl, fun k => by rw [if_neg (Nat.not_lt_zero _)]⟩
  | succ b ih =>
    intro fl f S h1 h2 h3 hB hT
    obtain ⟨fl, rfl⟩ : ∃ m, fl = m + 1 := ⟨fl - 1, by omega⟩
    have hJ := hB.2.1
    have hn := hB.1
    have hm := hB.2.2.1
    have he := hB.2.2.2.1
    have hlf := lfN_le (cst bk ln mi ex) (pcN bk ln mi ex) mi b f
    have hl := last_C nF hr hB (b := b) (by omega) hT f nF (by omega) h3
    have go : ∀ (v : Int32) (g : Nat), tbN (cst bk ln mi ex) (pcN bk ln mi ex) mi b f = (v, g) → ∃ S', LX0_pairUp_16 nF fl (sta S (39 + r) b v) (1 + r) (nI g) (nI b) = some S' ∧ S'.1 = S.1 ∧ (∀ a, a ≠ 39 + r → S'.2 a = S.2 a) ∧ (∀ k, S'.2 (39 + r) k = if k < b + 1 then prtN (cst bk ln mi ex) (pcN bk ln mi ex) mi (b + 1) f k else S.2 (39 + r) k) := by
      intro v g e
      have hg := tbN_le (cst bk ln mi ex) (pcN bk ln mi ex) mi b f
      rw [e] at hg
      have hg : g ≤ f := hg
      obtain ⟨S', a1, a2, a3, a4⟩ := ih fl g (sta S (39 + r) b v) (by omega) (by omega) (by omega) (hB.cg rfl (sta_ne (by omega)) (sta_ne (by omega))) (fun i hi j hj => by rw [sta_ne (by omega)]; exact hT i hi j hj)
      refine ⟨S', a1, a2, fun a ha => (a3 a ha).trans (sta_ne ha), fun k => ?_⟩
      rw [a4 k]
      by_cases c : k = b
      · subst c
        rw [if_neg (Nat.lt_irrefl _), sta_eq, if_pos (Nat.lt_succ_self _), prtN, if_pos rfl, e]
      · rw [sta_ne2 c, prtN, if_neg c, e]
        by_cases d : k < b
        · rw [if_pos d, if_pos (by omega)]
        · rw [if_neg d, if_neg (by omega)]
    rw [LX0_pairUp_16, if_neg (nI_nle (by omega) (by omega)), fX0_lastFeltNotLeftOut, hl, Option.bind_some, nI_pred b, pk_m1 b, if_neg (nI_in (c := b) (N := 40) (by omega) (by omega)), nI_clamp (n := b) (by omega), show 1 + r + 38 = 39 + r by omega]
    cases hq : lfN (cst bk ln mi ex) (pcN bk ln mi ex) mi b f with
    | zero =>
      rw [if_pos (show nI 0 ≤ 0 by decide)]
      exact go (-1) 0 (by unfold tbN; rw [hq])
    | succ g =>
      have i0 : nI (b + 1) * 61 + nI (g + 1) = nI (61 * (b + 1) + (g + 1)) := by
        rw [show nI (b + 1) * 61 = nI ((b + 1) * 61) from pk_mul (b + 1) 61, nI_add, Nat.mul_comm]
      have c2 := cst_le (bk := bk) (ln := ln) hm he (b + 1) (g + 1)
      have c3 := cst_le (bk := bk) (ln := ln) hm he b g
      have c4 := dst_le (bk b) (ln g)
      have c5 := (hB.2.2.2.2.2.2.2.2.1 b (by omega)).2
      have c6 := (hB.2.2.2.2.2.2.2.2.2 g (by omega)).2
      have c7 : cst bk ln mi ex b g + dst (bk b) (ln g) = pcN bk ln mi ex b g := rfl
      rw [if_neg (nI_nle (by omega) (by omega)), i0, if_neg (nI_in (N := 2501) (by omega) (by omega)), withPair_C nF hr hB (by omega) (by omega) (hT b (by omega) g (by omega)), Option.bind_some, c7, nI_clamp (by omega), hT (b + 1) (by omega) (g + 1) (by omega), nI_pred g, pk_m1 g]
      by_cases d1 : cst bk ln mi ex (b + 1) (g + 1) = pcN bk ln mi ex b g
      · rw [if_pos ((nI_eq (by omega) (by omega)).mpr d1), if_neg (show ¬ (nI b < 0 ∨ 40 ≤ b) from fun q => q.elim (nI_pos (by omega)) (by omega))]
        exact go (nI g) g (by unfold tbN; rw [hq]; exact if_pos d1)
      · rw [if_neg (fun q => d1 ((nI_eq (by omega) (by omega)).mp q))]
        exact go (-1) (g + 1) (by unfold tbN; rw [hq]; exact if_neg d1)
theorem pairUp_C (nF : Nat) (hF : 1000 ≤ nF) {S : PS} {r n J mi ex : Nat} {bk ln : Nat → Nat} (hr : r < 2) (hB : bookC S r n J mi ex bk ln) : ∃ S', fX0_pairUp nF S (1 + r) = some S' ∧ S'.1 = S.1 ∧ (∀ a, a ≠ 43 → a ≠ 39 + r → S'.2 a = S.2 a) ∧ (∀ k, k < n → S'.2 (39 + r) k = prtN (cst bk ln mi ex) (pcN bk ln mi ex) mi n J k) := by
  have hn := hB.1
  obtain ⟨S1, a1, a2, a3⟩ := least_C nF hF hr hB
  have hB1 := hB.fr hr a2
  obtain ⟨S', b1, b2, b3, b4⟩ := pair_C nF hF hr n nF J S1 (by omega) (Nat.le_refl _) (Nat.le_refl _) hB1 a3
  refine ⟨S', ?_, b2.trans a2.1, fun a h1 h2 => (b3 a h2).trans (a2.2 a h1), fun k hk => ?_⟩
  · rw [fX0_pairUp, a1, Option.bind_some]
    show LX0_pairUp_16 nF nF S1 (1 + r) (S1.1 (1 + r) 11) (S1.1 41 2) = some S'
    rw [hB1.2.2.2.2.2.2.2.1, hB1.2.2.2.2.1]
    exact b1
  · rw [b4 k, if_pos hk]
