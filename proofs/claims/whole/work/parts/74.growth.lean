/-! growth -/
def lstN (A B C : Int32) : Nat → Int32
  | 0 => -1
  | n + 1 => if A < B + C * nI n then lstN A B C n else nI n
theorem last_years (nF : Nat) {S : PS} {v1 v2 : Int32} : ∀ (k fl : Nat), k < fl → k < 1000 → LX7_lastYear_3 nF fl S v1 v2 (nI k + -1) = some (lstN (S.1 54 2 * S.1 54 0) (v1 * S.1 54 0) v2 k) := by
  intro k
  induction k with
  | zero =>
    intro fl h1 h2
    obtain ⟨fl, rfl⟩ : ∃ m, fl = m + 1 := ⟨fl - 1, by omega⟩
    rw [LX7_lastYear_3, if_pos (show nI 0 + -1 < 0 by decide)]
    rfl
  | succ k ih =>
    intro fl h1 h2
    obtain ⟨fl, rfl⟩ : ∃ m, fl = m + 1 := ⟨fl - 1, by omega⟩
    rw [pk_m1, LX7_lastYear_3, if_neg (nI_pos (by omega)), lstN]
    by_cases c : S.1 54 2 * S.1 54 0 < v1 * S.1 54 0 + v2 * nI k
    · rw [if_pos c, if_pos c]
      exact ih fl (by omega) (by omega)
    · rw [if_neg c, if_neg c]
theorem last_M (nF : Nat) {M : PS} {v5 v7 : Int32} : ∀ (d fl n : Nat), n + d = 100 → d < fl → LX10_growth_127 nF fl M v5 v7 (lstN (M.1 0 35 * M.1 0 33) (fX10_highOf M v5 * M.1 0 33) v7 n) (nI n) = some (lstN (M.1 0 35 * M.1 0 33) (fX10_highOf M v5 * M.1 0 33) v7 100, M) := by
  intro d
  induction d with
  | zero =>
    intro fl n e1 e2
    obtain ⟨fl, rfl⟩ : ∃ m, fl = m + 1 := ⟨fl - 1, by omega⟩
    obtain rfl : n = 100 := by omega
    rw [LX10_growth_127, if_pos (by decide)]
  | succ d ih =>
    intro fl n e1 e2
    obtain ⟨fl, rfl⟩ : ∃ m, fl = m + 1 := ⟨fl - 1, by omega⟩
    have e := ih fl (n + 1) (by omega) (by omega)
    rw [LX10_growth_127, if_neg (show ¬ (100 : Int32) ≤ nI n from nI_ge (b := 100) (by omega) (by omega)), nI_1]
    rw [lstN] at e
    by_cases c : M.1 0 35 * M.1 0 33 < fX10_highOf M v5 * M.1 0 33 + v7 * nI n
    · rw [if_pos c] at e
      rw [if_pos c]
      exact e
    · rw [if_neg c] at e
      rw [if_neg c]
      exact e
theorem pos_eq (z : Int32) : (if (0 : Int32) < z then z else 0) = if (0 : Int32) ≤ z then z else 0 := by
  have h0 : (0 : Int32).toInt = 0 := rfl
  by_cases c : (0 : Int32) < z
  · rw [if_pos c, if_pos (by rw [Int32.lt_iff_toInt_lt] at c; rw [Int32.le_iff_toInt_le]; omega)]
  · rw [if_neg c]
    by_cases d : (0 : Int32) ≤ z
    · rw [if_pos d]
      rw [Int32.lt_iff_toInt_lt] at c
      rw [Int32.le_iff_toInt_le] at d
      exact (i32_of 0 (k := 0) (by omega) rfl).symm
    · rw [if_neg d]
theorem low_eq2 {S M : PS} {d t : Nat} (hd : d ≤ 100) (ht : t ≤ 50) (h1 : S.1 54 1 = nI t) (h2 : M.1 0 34 = nI t) : fX7_leastTruly S (nI d) = fX10_lowOf M (nI d) := by
  have e := pk_sub_toInt (a := d) (b := t) (by omega) (by omega)
  have h0 : (0 : Int32).toInt = 0 := rfl
  rw [fX7_leastTruly, fX10_lowOf, h1, h2, pos_eq]
  by_cases c : t ≤ d
  · rw [if_pos (nI_le c (by omega)), if_pos (by rw [Int32.le_iff_toInt_le, e]; omega)]
  · rw [if_neg (nI_ge (by omega) (by omega)), if_neg (by rw [Int32.le_iff_toInt_le, e]; omega)]
theorem high_eq2 {S M : PS} {d t : Nat} (hd : d ≤ 100) (ht : t ≤ 50) (h1 : S.1 54 1 = nI t) (h2 : M.1 0 34 = nI t) : fX7_mostTruly S (nI d) = fX10_highOf M (nI d) := by
  rw [fX7_mostTruly, fX10_highOf, h1, h2, nI_add]
  by_cases c : d + t < 100
  · rw [if_pos (show nI (d + t) < 100 from (nI_ltI (b := 100) (by omega) (by omega)).mpr c), if_pos (show nI (d + t) ≤ 100 from nI_le (b := 100) (by omega) (by omega))]
  · rw [if_neg (show ¬ nI (d + t) < 100 from fun q => c ((nI_ltI (b := 100) (by omega) (by omega)).mp q))]
    by_cases e : d + t = 100
    · rw [e]; rfl
    · rw [if_neg (show ¬ nI (d + t) ≤ 100 from nI_ge (a := 100) (by omega) (by omega))]
theorem sim_growth_ok (nF : Nat) (hF : 10000 ≤ nF) : sim_growth nF Inv := by
  intro S M a1 a2 hI
  rcases hasMark_C nF (r := 0) (by omega) hI a1 with ⟨i1, i2⟩ | ⟨m, hm, rfl, i3, i4⟩
  · exact ⟨-2, S, M, by rw [fX9_growth, if_pos i2], by rw [fX10_growth, show fX10_isMark nF M 0 a1 = some 0 from i1]; rfl, hI⟩
  by_cases c2 : fX10_in M a2 0 2 = 0
  · refine ⟨-2, S, M, ?_, ?_, hI⟩
    · rw [fX9_growth, if_neg i4, if_pos (inW.trans c2)]
    · rw [fX10_growth, show fX10_isMark nF M 0 (nI m) = some 1 from i3, Option.bind_some, if_neg (by decide), if_pos c2]
  have c2' := fun q => c2 ((inW (S := S)).symm.trans q)
  have hb := in_btw c2
  have hb' : ¬ (a2.toInt < 0 ∨ 2 < a2.toInt) := by have h0 : (0 : Int32).toInt = 0 := rfl; have h3 : (2 : Int32).toInt = 2 := rfl; omega
  obtain ⟨x, S', M', h1, h2, h3, h4, h5⟩ := twin_both nF hF hI hm
  have hI' := hI.keep h3 h4
  have k0 := hI'.2.2.2.2.1.nat (r := 0) (by omega)
  have k1 := hI'.2.2.2.2.1.nat (r := 1) (by omega)
  have e20 : S'.1 20 6 = nI (nMk M' 1) := k1.2.2.1
  have eN : ∀ r, nMk M' r = nMk M r := fun r => by unfold nMk; rw [h4.2 12 (by decide)]
  rcases h5 with rfl | ⟨g, hg, rfl⟩
  · refine ⟨-4, S', M', ?_, ?_, hI'⟩
    · rw [fX9_growth, if_neg i4, if_neg c2', h1, Option.bind_some]
      show (if fX3_hasMark S' 20 (-1) = 0 then _ else _) = _
      rw [if_pos (by rw [fX3_hasMark, if_pos (by decide)])]
    · rw [fX10_growth, show fX10_isMark nF M 0 (nI m) = some 1 from i3, Option.bind_some, if_neg (by decide), if_neg c2, h2, Option.bind_some]
      exact if_pos rfl
  have hg' : g < nMk M' 1 := by rw [eN]; exact hg
  have hm' : m < nMk M' 0 := by rw [eN]; exact hm
  obtain ⟨p1, p2, p3, p4, p5, p6, p7, p8⟩ := k0.2.2.2 m hm'
  obtain ⟨q1, q2, q3, q4, q5, q6, q7, q8⟩ := k1.2.2.2 g hg'
  rw [Nat.mul_zero, Nat.zero_add] at p3 p7
  obtain ⟨t1, t2, t3, t4, t5, t6⟩ := hI'.2.2.1
  obtain ⟨t, ht, hMt⟩ : ∃ t : Nat, t ≤ 50 ∧ M'.1 0 34 = nI t := ⟨_, by have := clamp_toInt t4.1; have := t4.2; omega, nI_of_btw t4⟩
  obtain ⟨d1, hd1, hMd1⟩ : ∃ t : Nat, t ≤ 100 ∧ M'.2 15 m = nI t := ⟨_, by have := clamp_toInt p7.1; have := p7.2; omega, nI_of_btw p7⟩
  have q7' : btw (M'.2 15 (40 + g)) 0 100 := q7
  obtain ⟨d2, hd2, hMd2⟩ : ∃ t : Nat, t ≤ 100 ∧ M'.2 15 (40 + g) = nI t := ⟨_, by have := clamp_toInt q7'.1; have := q7'.2; omega, nI_of_btw q7'⟩
  have hS25 : S'.2 25 m = nI d1 := p3.trans hMd1
  have hS26 : S'.2 26 g = nI d2 := q3.trans hMd2
  have l1 := low_eq2 (S := S') (M := M') hd1 ht (t3.trans hMt) hMt
  have l2 := low_eq2 (S := S') (M := M') hd2 ht (t3.trans hMt) hMt
  have u1 := high_eq2 (S := S') (M := M') hd1 ht (t3.trans hMt) hMt
  have u2 := high_eq2 (S := S') (M := M') hd2 ht (t3.trans hMt) hMt
  have j40 : (40 : Int32) + nI g = nI (40 + g) := nI_add 40 g
  have hC : ∀ z, fX7_fact nF S' (nI d1) (nI d2) a2 = some z → fX9_growth nF S (nI m) a2 = some (z, S') := by
    intro z hz
    rw [fX9_growth, if_neg i4, if_neg c2', h1, Option.bind_some]
    show (if fX3_hasMark S' 20 (nI g) = 0 then _ else (if nI m < 0 ∨ 40 ≤ (nI m).toNatClampNeg then none else (if nI g < 0 ∨ 40 ≤ (nI g).toNatClampNeg then none else ((fX7_fact nF S' (S'.2 25 (nI m).toNatClampNeg) (S'.2 26 (nI g).toNatClampNeg) a2).bind fun r4 => some (r4, S'))))) = _
    rw [if_neg (by rw [fX3_hasMark, e20, if_neg (nI_pos (by omega)), if_neg (nI_ge (by omega) (by omega))]; decide), if_neg (nI_in (N := 40) (by omega) (by omega)), if_neg (nI_in (N := 40) (by omega) (by omega)), nI_clamp (by omega), nI_clamp (by omega), hS25, hS26, hz]
    rfl
  have hM : ∀ z, BX10_growth_95 nF M' a2 (nI d2) (fX10_lowOf M' (nI d2) - fX10_highOf M' (nI d1)) (if (0 : Int32) ≤ fX10_highOf M' (nI d2) - fX10_lowOf M' (nI d1) then fX10_highOf M' (nI d2) - fX10_lowOf M' (nI d1) else 0) = some (z, M') → fX10_growth nF M (nI m) a2 = some (z, M') := by
    intro z hz
    rw [fX10_growth, show fX10_isMark nF M 0 (nI m) = some 1 from i3, Option.bind_some, if_neg (by decide), if_neg c2, h2, Option.bind_some]
    dsimp only
    rw [if_neg (nI_ne_m1 (by omega)), if_neg (nI_in (N := 80) (by omega) (by omega)), j40, if_neg (nI_in (N := 80) (by omega) (by omega)), nI_clamp (by omega), nI_clamp (by omega), hMd1, hMd2]
    by_cases c : (0 : Int32) ≤ fX10_highOf M' (nI d2) - fX10_lowOf M' (nI d1)
    · rw [if_pos c] at hz ⊢
      exact hz
    · rw [if_neg c] at hz ⊢
      exact hz
  rcases sw0_3 hb' with rfl | rfl | rfl
  · refine ⟨if (0 : Int32) ≤ fX10_lowOf M' (nI d2) - fX10_highOf M' (nI d1) then fX10_lowOf M' (nI d2) - fX10_highOf M' (nI d1) else 0, S', M', hC _ ?_, hM _ ?_, hI'⟩
    · rw [fX7_fact, if_pos rfl, l2, u1, pos_eq]
    · rw [BX10_growth_95, if_pos rfl]
      split <;> rfl
  · refine ⟨if (0 : Int32) ≤ fX10_highOf M' (nI d2) - fX10_lowOf M' (nI d1) then fX10_highOf M' (nI d2) - fX10_lowOf M' (nI d1) else 0, S', M', hC _ ?_, hM _ ?_, hI'⟩
    · rw [fX7_fact, if_neg (by decide), if_pos rfl, u2, l1, pos_eq]
    · rw [BX10_growth_95, if_neg (by decide), if_pos rfl]
  · refine ⟨lstN (M'.1 0 35 * M'.1 0 33) (fX10_highOf M' (nI d2) * M'.1 0 33) (if (0 : Int32) ≤ fX10_highOf M' (nI d2) - fX10_lowOf M' (nI d1) then fX10_highOf M' (nI d2) - fX10_lowOf M' (nI d1) else 0) 100, S', M', hC _ ?_, hM _ ?_, hI'⟩
    · rw [fX7_fact, if_neg (by decide), if_neg (by decide), u2, l1, pos_eq, fX7_lastYear]
      have e := last_years nF (S := S') (v1 := fX10_highOf M' (nI d2)) (v2 := if (0 : Int32) ≤ fX10_highOf M' (nI d2) - fX10_lowOf M' (nI d1) then fX10_highOf M' (nI d2) - fX10_lowOf M' (nI d1) else 0) 100 nF (by omega) (by omega)
      rw [show nI 100 + -1 = 99 from rfl, t1, t5] at e
      rw [e]
      rfl
    · rw [BX10_growth_95, if_neg (by decide), if_neg (by decide)]
      exact last_M nF 100 nF 0 (by omega) (by omega)
