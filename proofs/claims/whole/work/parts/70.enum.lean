/-! the reference tries all choices in order -/
def dataM (M : PS) (n0 n1 al : Nat) (pr : Nat → Nat → Nat) (g0 g1 : Nat → Nat) : Prop := n0 ≤ 5 ∧ n1 ≤ 5 ∧ al ≤ 100000 ∧ M.2 18 0 = nI n0 ∧ M.2 18 1 = nI n1 ∧ M.1 0 27 = nI al ∧ (∀ i, i < n0 → M.2 19 i = nI (g0 i) ∧ g0 i < 40) ∧ (∀ k, k < n1 → M.2 19 (5 + k) = nI (g1 k) ∧ g1 k < 40) ∧ (∀ i k, i < n0 → k < n1 → pr i k ≤ 4600000 ∧ (fX10_apart M (M.2 20 i) (M.2 20 (5 + k)) + 100 * fX10_hours M (M.2 14 (g0 i)) (M.2 14 (40 + g1 k))) = nI (pr i k))
def enFr (M M' : PS) : Prop := M'.1 = M.1 ∧ ∀ a : Nat, a ≠ 21 → a ≠ 22 → M'.2 a = M.2 a
theorem enFr.rfl' {S : PS} : enFr S S := ⟨rfl, fun _ _ _ => rfl⟩
theorem enFr.trans {S S1 S2 : PS} (h : enFr S S1) (h2 : enFr S1 S2) : enFr S S2 := ⟨h2.1.trans h.1, fun a p q => (h2.2 a p q).trans (h.2 a p q)⟩
theorem dataM.fr {M M' : PS} {n0 n1 al : Nat} {pr : Nat → Nat → Nat} {g0 g1 : Nat → Nat} (h : dataM M n0 n1 al pr g0 g1) (hf : enFr M M') : dataM M' n0 n1 al pr g0 g1 := by
  unfold dataM at h ⊢
  rw [hf.1, hf.2 18 (by decide) (by decide), hf.2 19 (by decide) (by decide), hf.2 20 (by decide) (by decide), hf.2 14 (by decide) (by decide)]
  exact h
def pfN (pr : Nat → Nat → Nat) (n1 al : Nat) (c : Nat → Nat) : Nat → Option (Nat × Nat)
  | 0 => some (0, 0)
  | i + 1 =>
    match pfN pr n1 al c i with
    | none => none
    | some (s, t) => if c i = n1 then some (s + al, t) else if t / 2 ^ c i % 2 = 0 then some (s + pr i (c i), t ||| 2 ^ c i) else none
theorem pf_none {pr : Nat → Nat → Nat} {n1 al : Nat} {c : Nat → Nat} {i : Nat} (h : pfN pr n1 al c i = none) : ∀ d, pfN pr n1 al c (i + d) = none
  | 0 => h
  | d + 1 => by
    have := pf_none h d
    rw [← Nat.add_assoc, pfN, this]
theorem pf_some {pr : Nat → Nat → Nat} {n1 al : Nat} {c : Nat → Nat} {i s t : Nat} (h : pfN pr n1 al c i = some (s, t)) : pfN pr n1 al c (i + 1) = if c i = n1 then some (s + al, t) else if t / 2 ^ c i % 2 = 0 then some (s + pr i (c i), t ||| 2 ^ c i) else none := by
  rw [pfN, h]
theorem pf_cong {pr : Nat → Nat → Nat} {n1 al : Nat} {c c' : Nat → Nat} : ∀ i, (∀ k, k < i → c k = c' k) → pfN pr n1 al c i = pfN pr n1 al c' i
  | 0, _ => rfl
  | i + 1, h => by
    rw [pfN, pfN, pf_cong i (fun k hk => h k (by omega)), h i (by omega)]
theorem pf_bnd {pr : Nat → Nat → Nat} {n0 n1 al : Nat} {c : Nat → Nat} (h1 : n1 ≤ 5) (h2 : al ≤ 100000) (hp : ∀ i k, i < n0 → k < n1 → pr i k ≤ 4600000) : ∀ i s t, i ≤ n0 → (∀ k, k < i → c k ≤ n1) → pfN pr n1 al c i = some (s, t) → t < 2 ^ n1 ∧ s ≤ 4600000 * i
  | 0, s, t, _, _, h => by
    rw [pfN] at h
    injection h with h
    injection h with ha hb
    subst ha hb
    exact ⟨Nat.two_pow_pos n1, by omega⟩
  | i + 1, s, t, hi, hc, h => by
    cases hq : pfN pr n1 al c i with
    | none => rw [pfN, hq] at h; exact absurd h (by simp)
    | some p =>
      obtain ⟨s', t'⟩ := p
      obtain ⟨b1, b2⟩ := pf_bnd h1 h2 hp i s' t' (by omega) (fun k hk => hc k (by omega)) hq
      rw [pf_some hq] at h
      by_cases e : c i = n1
      · rw [if_pos e] at h
        injection h with h
        injection h with ha hb
        subst ha hb
        exact ⟨b1, by omega⟩
      · rw [if_neg e] at h
        by_cases f : t' / 2 ^ c i % 2 = 0
        · rw [if_pos f] at h
          injection h with h
          injection h with ha hb
          subst ha hb
          have hk : c i < n1 := by have := hc i (by omega); omega
          have := hp i (c i) (by omega) hk
          exact ⟨or_lt n1 (by omega) (c i) hk t' b1, by omega⟩
        · rw [if_neg f] at h
          exact absurd h (by simp)
theorem sub_eq_add_I (x y : Int32) : x - y = x + -y := Int32.sub_eq_add_neg x y
theorem pop_or : ∀ t, t < 32 → ∀ k, k < 5 → t / 2 ^ k % 2 = 0 → rmN (t ||| 2 ^ k) 8 = rmN t 8 + 1 := by decide +kernel
def ccV (n1 al : Nat) : Option (Nat × Nat) → Int32
  | none => -1
  | some (s, t) => nI (s + al * (n1 - rmN t 8))
theorem cc_M (nF : Nat) {M : PS} {n0 n1 al : Nat} {pr : Nat → Nat → Nat} {g0 g1 c : Nat → Nat} (h : dataM M n0 n1 al pr g0 g1) (hc : ∀ i, i < n0 → M.2 21 i = nI (c i) ∧ c i ≤ n1) : ∀ (d fl i s t : Nat), i + d = n0 → d < fl → pfN pr n1 al c i = some (s, t) → LX10_choiceCost_16 nF fl M (nI t) (nI (al * (n1 - rmN t 8) + s)) (nI i) = some (ccV n1 al (pfN pr n1 al c n0)) := by
  obtain ⟨h0, h1, h2, h3, h4, h5, h6, h7, h8⟩ := h
  have hp2 := p2_le n1 (by omega)
  have z0 : (0 : Int32).toNatClampNeg = 0 := rfl
  have z1 : (1 : Int32).toNatClampNeg = 1 := rfl
  have k0 : ¬ ((0 : Int32) < 0 ∨ 2 ≤ 0) := by decide
  have k1 : ¬ ((1 : Int32) < 0 ∨ 2 ≤ 1) := by decide
  intro d
  induction d with
  | zero =>
    intro fl i s t e1 e2 hs
    obtain ⟨fl, rfl⟩ : ∃ m, fl = m + 1 := ⟨fl - 1, by omega⟩
    obtain rfl : i = n0 := by omega
    rw [LX10_choiceCost_16, z0, if_neg k0, h3, if_pos (nI_le (Nat.le_refl _) (by omega)), hs, ccV, Nat.add_comm]
  | succ d ih =>
    intro fl i s t e1 e2 hs
    obtain ⟨fl, rfl⟩ : ∃ m, fl = m + 1 := ⟨fl - 1, by omega⟩
    obtain ⟨c1, c2⟩ := hc i (by omega)
    obtain ⟨b1, b2⟩ := pf_bnd h1 h2 (fun i k hi hk => (h8 i k hi hk).1) i s t (by omega) (fun k hk => (hc k (by omega)).2) hs
    have hps := pf_some hs
    rw [LX10_choiceCost_16, z0, z1, if_neg k0, h3, if_neg (nI_ge (by omega) (by omega)), if_neg (nI_in (N := 5) (by omega) (by omega)), if_neg k1, nI_clamp (n := i) (by omega), c1, h4, nI_1, h5]
    by_cases e : c i = n1
    · rw [if_pos (by rw [e]), nI_add, Nat.add_assoc]
      rw [if_pos e] at hps
      exact ih fl (i + 1) (s + al) t (by omega) (by omega) hps
    · have hk : c i < n1 := by omega
      rw [if_neg (fun q => e ((nI_eq (by omega) (by omega)).mp q)), bit_eq t (by omega) (c i) (by omega)]
      rw [if_neg e] at hps
      by_cases f : t / 2 ^ c i % 2 = 0
      · rw [if_pos f] at hps
        obtain ⟨u1, u2⟩ := h6 i (by omega)
        obtain ⟨w1, w2⟩ := h7 (c i) hk
        obtain ⟨p1, p2⟩ := h8 i (c i) (by omega) hk
        have hpop := pop_or t (by omega) (c i) (by omega) f
        have hpl := pop_le n1 (by omega) (t ||| 2 ^ c i) (or_lt n1 (by omega) (c i) hk t b1)
        have j5 : (5 : Int32) + nI (c i) = nI (5 + c i) := nI_add 5 (c i)
        have j40 : (40 : Int32) + nI (g1 (c i)) = nI (40 + g1 (c i)) := nI_add 40 (g1 (c i))
        rw [if_neg (show ¬ nI (t / 2 ^ c i % 2) = 1 by rw [f]; decide), if_neg (show ¬ (nI i < 0 ∨ 10 ≤ i) from fun q => q.elim (nI_pos (by omega)) (by omega)), j5, if_neg (nI_in (N := 10) (by omega) (by omega)), u1, if_neg (nI_in (N := 80) (by omega) (by omega)), nI_clamp (n := 5 + c i) (by omega), w1, j40, if_neg (nI_in (N := 80) (by omega) (by omega)), nI_clamp (n := g0 i) (by omega), nI_clamp (n := 40 + g1 (c i)) (by omega), p2, or_eq t (by omega) (c i) (by omega)]
        have hm : al * (n1 - rmN t 8) = al * (n1 - rmN (t ||| 2 ^ c i) 8) + al := by
          rw [hpop, ← Nat.mul_succ]
          congr 1
          omega
        have hx : nI (al * (n1 - rmN t 8) + s) + (nI (pr i (c i)) - nI al) = nI (al * (n1 - rmN (t ||| 2 ^ c i) 8) + (s + pr i (c i))) := by
          rw [sub_eq_add_I, ← Int32.add_assoc, nI_add, ← sub_eq_add_I, hm, pk_sub (by omega)]
          congr 1
          omega
        rw [hx]
        exact ih fl (i + 1) (s + pr i (c i)) (t ||| 2 ^ c i) (by omega) (by omega) hps
      · rw [if_neg f] at hps
        have f1 : t / 2 ^ c i % 2 = 1 := by omega
        rw [if_pos (show nI (t / 2 ^ c i % 2) = 1 by rw [f1]; rfl)]
        have := pf_none hps d
        rw [show i + 1 + d = n0 by omega] at this
        rw [this]
        rfl
theorem choose_1 (nF : Nat) {n0 n1 lv d : Nat} (hn0 : n0 ≤ 5) (hn1 : n1 ≤ 5) (hd : d < n1) : ∀ (q fl : Nat) (M : PS), q < fl → lv + q < n0 → M.2 18 1 = nI n1 → M.2 21 lv = nI d → (∀ i, lv < i → i ≤ lv + q → M.2 21 i = nI n1) → ∃ M', LX10_choosesOn_9 nF fl M (nI (lv + q)) = some (1, M') ∧ M'.1 = M.1 ∧ (∀ a, a ≠ 21 → M'.2 a = M.2 a) ∧ (∀ i, M'.2 21 i = if i = lv then nI (d + 1) else if lv < i ∧ i ≤ lv + q then nI 0 else M.2 21 i) := by
  have z1 : (1 : Int32).toNatClampNeg = 1 := rfl
  have k1 : ¬ ((1 : Int32) < 0 ∨ 2 ≤ 1) := by decide
  intro q
  induction q with
  | zero =>
    intro fl M e1 e2 h18 hl ht
    obtain ⟨fl, rfl⟩ : ∃ m, fl = m + 1 := ⟨fl - 1, by omega⟩
    refine ⟨sta M 21 lv (nI (d + 1)), ?_, rfl, fun a ha => sta_ne ha, fun i => ?_⟩
    · show LX10_choosesOn_9 nF (fl + 1) M (nI lv) = _
      rw [LX10_choosesOn_9, if_neg (nI_pos (by omega)), if_neg (nI_in (N := 5) (by omega) (by omega)), z1, if_neg k1, nI_clamp (by omega), hl, h18, if_neg (fun z => absurd ((nI_eq (by omega) (by omega)).mp z) (by omega)), BX10_choosesOn_41, if_pos (nI_pos' (by omega)), if_neg (nI_in (N := 5) (by omega) (by omega)), nI_clamp (by omega), hl, nI_1]
    · by_cases c : i = lv
      · subst c; rw [if_pos rfl, sta_eq]
      · rw [if_neg c, if_neg (by omega), sta_ne2 c]
  | succ q ih =>
    intro fl M e1 e2 h18 hl ht
    obtain ⟨fl, rfl⟩ : ∃ m, fl = m + 1 := ⟨fl - 1, by omega⟩
    obtain ⟨M', a1, a2, a3, a4⟩ := ih fl (sta M 21 (lv + q + 1) 0) (by omega) (by omega) ((congrFun (sta_ne (by decide)) 1).trans h18) (by rw [sta_ne2 (by omega)]; exact hl) (fun i hi hi2 => by rw [sta_ne2 (by omega)]; exact ht i hi (by omega))
    refine ⟨M', ?_, a2, fun a ha => (a3 a ha).trans (sta_ne ha), fun i => ?_⟩
    · rw [← Nat.add_assoc, LX10_choosesOn_9, if_neg (nI_pos (by omega)), if_neg (nI_in (N := 5) (by omega) (by omega)), z1, if_neg k1, nI_clamp (by omega), ht (lv + q + 1) (by omega) (by omega), h18, if_pos rfl, pk_m1]
      exact a1
    · rw [a4 i]
      by_cases c : i = lv
      · rw [if_pos c, if_pos c]
      · rw [if_neg c, if_neg c]
        by_cases c2 : i = lv + q + 1
        · subst c2
          rw [if_neg (by omega), if_pos (by omega), sta_eq]
          rfl
        · rw [sta_ne2 c2]
          by_cases c3 : lv < i ∧ i ≤ lv + q
          · rw [if_pos c3, if_pos (by omega)]
          · rw [if_neg c3, if_neg (by omega)]
theorem choose_0 (nF : Nat) {n1 : Nat} (hn1 : n1 ≤ 5) : ∀ (q fl : Nat) (M : PS), q < fl → q ≤ 5 → M.2 18 1 = nI n1 → (∀ i, i < q → M.2 21 i = nI n1) → ∃ M', LX10_choosesOn_9 nF fl M (nI q + -1) = some (0, M') ∧ M'.1 = M.1 ∧ (∀ a, a ≠ 21 → M'.2 a = M.2 a) := by
  have z1 : (1 : Int32).toNatClampNeg = 1 := rfl
  have k1 : ¬ ((1 : Int32) < 0 ∨ 2 ≤ 1) := by decide
  intro q
  induction q with
  | zero =>
    intro fl M e1 e2 h18 ht
    obtain ⟨fl, rfl⟩ : ∃ m, fl = m + 1 := ⟨fl - 1, by omega⟩
    exact ⟨M, by rw [LX10_choosesOn_9, if_pos (show nI 0 + -1 < 0 by decide), BX10_choosesOn_41, if_neg (show ¬ (0 : Int32) ≤ nI 0 + -1 by decide)], rfl, fun _ _ => rfl⟩
  | succ q ih =>
    intro fl M e1 e2 h18 ht
    obtain ⟨fl, rfl⟩ : ∃ m, fl = m + 1 := ⟨fl - 1, by omega⟩
    obtain ⟨M', a1, a2, a3⟩ := ih fl (sta M 21 q 0) (by omega) (by omega) ((congrFun (sta_ne (by decide)) 1).trans h18) (fun i hi => by rw [sta_ne2 (by omega)]; exact ht i (by omega))
    refine ⟨M', ?_, a2, fun a ha => (a3 a ha).trans (sta_ne ha)⟩
    rw [pk_m1, LX10_choosesOn_9, if_neg (nI_pos (by omega)), if_neg (nI_in (N := 5) (by omega) (by omega)), z1, if_neg k1, nI_clamp (by omega), ht q (by omega), h18, if_pos rfl]
    exact a1
theorem copy_M (nF : Nat) (k29 : PS → Int32 → Int32 → Option (Int32 × PS)) {v2 : Int32} : ∀ (d fl i : Nat) (M : PS), i + d = 5 → d < fl → (∀ k, k < i → M.2 22 k = M.2 21 k) → ∃ M', LX10_pairs_62 nF k29 fl M v2 (nI i) = BX10_pairs_88 nF k29 M' v2 ∧ M'.1 = M.1 ∧ (∀ a, a ≠ 22 → M'.2 a = M.2 a) ∧ (∀ k, k < 5 → M'.2 22 k = M.2 21 k) := by
  intro d
  induction d with
  | zero =>
    intro fl i M e1 e2 hc
    obtain ⟨fl, rfl⟩ : ∃ m, fl = m + 1 := ⟨fl - 1, by omega⟩
    obtain rfl : i = 5 := by omega
    exact ⟨M, by rw [LX10_pairs_62, if_pos (by decide)], rfl, fun _ _ => rfl, hc⟩
  | succ d ih =>
    intro fl i M e1 e2 hc
    obtain ⟨fl, rfl⟩ : ∃ m, fl = m + 1 := ⟨fl - 1, by omega⟩
    obtain ⟨M', a1, a2, a3, a4⟩ := ih fl (i + 1) (sta M 22 i (M.2 21 i)) (by omega) (by omega) (fun k hk => by
      rw [sta_ne (a := 21) (by decide)]
      by_cases c : k = i
      · subst c; exact sta_eq
      · rw [sta_ne2 c]; exact hc k (by omega))
    refine ⟨M', ?_, a2, fun a ha => (a3 a ha).trans (sta_ne ha), fun k hk => (a4 k hk).trans (by rw [sta_ne (by decide)])⟩
    rw [LX10_pairs_62, if_neg (show ¬ (5 : Int32) ≤ nI i from nI_ge (b := 5) (by omega) (by omega)), if_neg (nI_in (N := 5) (by omega) (by omega)), nI_clamp (by omega), nI_1]
    exact a1
def preF (c : Nat → Nat) (lv : Nat) (f : Nat → Nat) : Nat → Nat := fun i => if i < lv then c i else f (i - lv)
def rep (n0 : Nat) (o : Option (Nat × (Nat → Nat))) (v2 : Int32) (row : Nat → Int32) : Prop :=
  match o with
  | none => v2 = -1
  | some (y, g) => v2 = nI y ∧ y ≤ 100000000 ∧ ∀ i, i < n0 → row i = nI (g i)
def blk (pr : Nat → Nat → Nat) (n1 al : Nat) (c : Nat → Nat) (lv j : Nat) : Option (Nat × (Nat → Nat)) :=
  match pfN pr n1 al c lv with
  | none => none
  | some (s, t) => some (s + (bst pr n1 al j lv t).1, preF c lv (bst pr n1 al j lv t).2)
theorem eval_M (nF : Nat) (hF : 1000 ≤ nF) {M : PS} {n0 n1 al f : Nat} {pr : Nat → Nat → Nat} {g0 g1 c : Nat → Nat} {v2 : Int32} {o : Option (Nat × (Nat → Nat))} (h : dataM M n0 n1 al pr g0 g1) (hc : ∀ i, i < n0 → M.2 21 i = nI (c i) ∧ c i ≤ n1) (hr : rep n0 o v2 (M.2 22)) : ∃ M' v2', LX10_pairs_29 nF (f + 1) M v2 1 = BX10_pairs_88 nF (LX10_pairs_29 nF f) M' v2' ∧ enFr M M' ∧ M'.2 21 = M.2 21 ∧ rep n0 (upd2 o (blk pr n1 al c n0 0)) v2' (M'.2 22) := by
  have z1 : (1 : Int32).toNatClampNeg = 1 := rfl
  have k1 : ¬ ((1 : Int32) < 0 ∨ 2 ≤ 1) := by decide
  have hcc : fX10_choiceCost nF M = some (ccV n1 al (pfN pr n1 al c n0)) := by
    have e := cc_M nF h hc n0 nF 0 0 0 (by omega) (by have := h.1; omega) rfl
    rw [fX10_choiceCost, z1, if_neg k1, h.2.2.2.2.1, h.2.2.2.2.2.1, pk_mul]
    exact e
  have h0 := h.1
  have h1 := h.2.1
  have h2 := h.2.2.1
  rw [LX10_pairs_29, if_neg (by decide), hcc, Option.bind_some]
  cases hq : pfN pr n1 al c n0 with
  | none =>
    rw [show blk pr n1 al c n0 0 = none by unfold blk; rw [hq]]
    rw [if_pos (show ccV n1 al none = -1 from rfl)]
    exact ⟨M, v2, rfl, enFr.rfl', rfl, hr⟩
  | some p =>
    obtain ⟨s, t⟩ := p
    obtain ⟨b1, b2⟩ := pf_bnd h1 h2 (fun i k hi hk => (h.2.2.2.2.2.2.2.2 i k hi hk).1) n0 s t (Nat.le_refl _) (fun k hk => (hc k hk).2) hq
    have hal : al * (n1 - rmN t 8) ≤ 100000 * 5 := Nat.mul_le_mul h2 (by omega)
    have hx : s + al * (n1 - rmN t 8) ≤ 100000000 := by omega
    have hcv : ccV n1 al (some (s, t)) = nI (s + al * (n1 - rmN t 8)) := rfl
    have hb0 : (bst pr n1 al 0 n0 t).1 = al * (n1 - rmN t 8) := rfl
    have cp := copy_M nF (LX10_pairs_29 nF f) (v2 := nI (s + al * (n1 - rmN t 8))) 5 nF 0 M (by omega) (by omega) (fun k hk => absurd hk (Nat.not_lt_zero _))
    obtain ⟨M', m1, m2, m3, m4⟩ := cp
    have hnew : rep n0 (some (s + (bst pr n1 al 0 n0 t).1, preF c n0 (bst pr n1 al 0 n0 t).2)) (nI (s + al * (n1 - rmN t 8))) (M'.2 22) := by
      refine ⟨by rw [hb0], by rw [hb0]; exact hx, fun i hi => ?_⟩
      rw [m4 i (by omega), (hc i hi).1]
      unfold preF
      rw [if_pos hi]
    have fr : enFr M M' := ⟨m2, fun a p q => m3 a q⟩
    rw [show blk pr n1 al c n0 0 = some (s + (bst pr n1 al 0 n0 t).1, preF c n0 (bst pr n1 al 0 n0 t).2) by unfold blk; rw [hq]]
    rw [hcv, if_neg (nI_ne_m1 (by omega))]
    cases o with
    | none =>
      have hv : v2 = -1 := hr
      rw [if_pos hv]
      exact ⟨M', _, m1, fr, m3 21 (by decide), hnew⟩
    | some w =>
      obtain ⟨y, g⟩ := w
      obtain ⟨r1, r2, r3⟩ := hr
      rw [r1, if_neg (nI_ne_m1 (by omega))]
      rw [upd2_s]
      by_cases q : y ≤ s + al * (n1 - rmN t 8)
      · rw [if_pos (nI_le q (by omega)), if_neg (by rw [hb0]; omega)]
        exact ⟨M, _, rfl, enFr.rfl', rfl, rfl, r2, r3⟩
      · rw [if_neg (nI_ge (by omega) (by omega)), if_pos (by rw [hb0]; omega)]
        exact ⟨M', _, m1, fr, m3 21 (by decide), hnew⟩
theorem upd2_map (s : Nat) (p : (Nat → Nat) → (Nat → Nat)) (a b : Option (Nat × (Nat → Nat))) : upd2 (a.map (fun x => (s + x.1, p x.2))) (b.map (fun x => (s + x.1, p x.2))) = (upd2 a b).map (fun x => (s + x.1, p x.2)) := by
  cases b with
  | none => rfl
  | some x =>
    cases a with
    | none => rfl
    | some y =>
      obtain ⟨x1, x2⟩ := x
      obtain ⟨y1, y2⟩ := y
      show upd2 (some (s + y1, p y2)) (some (s + x1, p x2)) = Option.map _ (upd2 (some (y1, y2)) (some (x1, x2)))
      rw [upd2_s, upd2_s]
      by_cases q : x1 < y1
      · rw [if_pos q, if_pos (by omega)]; rfl
      · rw [if_neg q, if_neg (by omega)]; rfl
def shN (pr : Nat → Nat → Nat) (n1 al : Nat) (c : Nat → Nat) (lv j : Nat) (sel : (Nat → Option (Nat × (Nat → Nat))) → Option (Nat × (Nat → Nat))) : Option (Nat × (Nat → Nat)) :=
  match pfN pr n1 al c lv with
  | none => none
  | some (s, t) => (sel (candN pr n1 al (fun t' => bst pr n1 al j (lv + 1) t') lv t)).map (fun x => (s + x.1, preF c lv x.2))
theorem preF_cns (c : Nat → Nat) (lv : Nat) (f : Nat → Nat) : preF c (lv + 1) f = preF c lv (cns (c lv) f) := by
  funext i
  unfold preF
  by_cases a : i < lv
  · rw [if_pos (by omega), if_pos a]
  · rw [if_neg a]
    by_cases b : i = lv
    · subst b
      rw [if_pos (by omega), Nat.sub_self]
      rfl
    · rw [if_neg (by omega)]
      obtain ⟨q, rfl⟩ : ∃ q, i = lv + 1 + q := ⟨i - lv - 1, by omega⟩
      rw [show lv + 1 + q - (lv + 1) = q by omega, show lv + 1 + q - lv = q + 1 by omega]
      rfl
theorem blk_cand {pr : Nat → Nat → Nat} {n1 al : Nat} {c : Nat → Nat} {lv j : Nat} (hd : c lv ≤ n1) : blk pr n1 al c (lv + 1) j = shN pr n1 al c lv j (fun cd => cd (c lv)) := by
  unfold blk shN
  cases hq : pfN pr n1 al c lv with
  | none =>
    have : pfN pr n1 al c (lv + 1) = none := pf_none hq 1
    rw [this]
  | some p =>
    obtain ⟨s, t⟩ := p
    rw [pf_some hq]
    by_cases e : c lv = n1
    · rw [if_pos e]
      show some (s + al + (bst pr n1 al j (lv + 1) t).1, preF c (lv + 1) (bst pr n1 al j (lv + 1) t).2) = Option.map (fun x => (s + x.1, preF c lv x.2)) (candN pr n1 al (fun t' => bst pr n1 al j (lv + 1) t') lv t (c lv))
      rw [preF_cns, e, candN_last, Nat.add_assoc]
      rfl
    · rw [if_neg e]
      by_cases f : t / 2 ^ c lv % 2 = 0
      · rw [if_pos f]
        show some (s + pr lv (c lv) + (bst pr n1 al j (lv + 1) (t ||| 2 ^ c lv)).1, preF c (lv + 1) (bst pr n1 al j (lv + 1) (t ||| 2 ^ c lv)).2) = Option.map (fun x => (s + x.1, preF c lv x.2)) (candN pr n1 al (fun t' => bst pr n1 al j (lv + 1) t') lv t (c lv))
        rw [preF_cns, candN_free (by omega) f, Nat.add_assoc]
        rfl
      · rw [if_neg f]
        show none = Option.map (fun x => (s + x.1, preF c lv x.2)) (candN pr n1 al (fun t' => bst pr n1 al j (lv + 1) t') lv t (c lv))
        rw [candN_taken (by omega) f]
        rfl
theorem shN_upd (pr : Nat → Nat → Nat) (n1 al : Nat) (c : Nat → Nat) (lv j d : Nat) : upd2 (shN pr n1 al c lv j (fun cd => fbN cd d)) (shN pr n1 al c lv j (fun cd => cd d)) = shN pr n1 al c lv j (fun cd => fbN cd (d + 1)) := by
  unfold shN
  cases hq : pfN pr n1 al c lv with
  | none => rfl
  | some p =>
    obtain ⟨s, t⟩ := p
    exact upd2_map s (preF c lv) _ _
theorem shN_cong {pr : Nat → Nat → Nat} {n1 al : Nat} {c c' : Nat → Nat} {lv j : Nat} {sel : (Nat → Option (Nat × (Nat → Nat))) → Option (Nat × (Nat → Nat))} (h : ∀ k, k < lv → c k = c' k) : shN pr n1 al c lv j sel = shN pr n1 al c' lv j sel := by
  unfold shN
  have e : preF c lv = preF c' lv := by
    funext f i
    unfold preF
    by_cases q : i < lv
    · rw [if_pos q, if_pos q, h i q]
    · rw [if_neg q, if_neg q]
  rw [pf_cong lv h, e]
theorem shN_all (pr : Nat → Nat → Nat) (n1 al : Nat) (c : Nat → Nat) (lv j : Nat) : shN pr n1 al c lv j (fun cd => fbN cd (n1 + 1)) = blk pr n1 al c lv (j + 1) := by
  unfold shN blk
  cases hq : pfN pr n1 al c lv with
  | none => rfl
  | some p =>
    obtain ⟨s, t⟩ := p
    show Option.map _ (fbN (candN pr n1 al (fun t' => bst pr n1 al j (lv + 1) t') lv t) (n1 + 1)) = _
    rw [(bst_char pr n1 al j lv t).1]
    rfl
theorem block_M (nF : Nat) (hF : 1000 ≤ nF) {n0 n1 al : Nat} {pr : Nat → Nat → Nat} {g0 g1 : Nat → Nat} : ∀ (j lv f : Nat) (c : Nat → Nat) (M : PS) (v2 : Int32) (o : Option (Nat × (Nat → Nat))), lv + j = n0 → dataM M n0 n1 al pr g0 g1 → (∀ i, i < n0 → M.2 21 i = nI (c i)) → (∀ i, i < lv → c i ≤ n1) → (∀ i, lv ≤ i → i < n0 → c i = 0) → rep n0 o v2 (M.2 22) → ∃ M' v2', LX10_pairs_29 nF (f + (n1 + 1) ^ j) M v2 1 = BX10_pairs_88 nF (LX10_pairs_29 nF f) M' v2' ∧ enFr M M' ∧ (∀ i, i < n0 → M'.2 21 i = nI (if i < lv then c i else n1)) ∧ rep n0 (upd2 o (blk pr n1 al c lv j)) v2' (M'.2 22) := by
  intro j
  induction j with
  | zero =>
    intro lv f c M v2 o e1 h hc hl hz hr
    obtain rfl : lv = n0 := by omega
    obtain ⟨M', v2', a1, a2, a3, a4⟩ := eval_M nF hF (f := f) h (fun i hi => ⟨hc i hi, hl i hi⟩) hr
    refine ⟨M', v2', a1, a2, fun i hi => ?_, a4⟩
    rw [a3, hc i hi, if_pos hi]
  | succ j ih =>
    intro lv f c M v2 o e1 h hc hl hz hr
    have h0 := h.1
    have h1 := h.2.1
    have z0 : (0 : Int32).toNatClampNeg = 0 := rfl
    have k0 : ¬ ((0 : Int32) < 0 ∨ 2 ≤ 0) := by decide
    have inner : ∀ d, d ≤ n1 → ∀ f, ∃ M' v2', LX10_pairs_29 nF (f + (d + 1) * (n1 + 1) ^ j) M v2 1 = BX10_pairs_88 nF (LX10_pairs_29 nF f) M' v2' ∧ enFr M M' ∧ (∀ i, i < n0 → M'.2 21 i = nI (if i < lv then c i else if i = lv then d else n1)) ∧ rep n0 (upd2 o (shN pr n1 al c lv j (fun cd => fbN cd (d + 1)))) v2' (M'.2 22) := by
      intro d
      induction d with
      | zero =>
        intro _ f
        have hcl : c lv = 0 := hz lv (Nat.le_refl _) (by omega)
        obtain ⟨M', v2', a1, a2, a3, a4⟩ := ih (lv + 1) f c M v2 o (by omega) h hc (fun i hi => by
          by_cases q : i = lv
          · rw [q, hcl]; omega
          · exact hl i (by omega)) (fun i hi hi2 => hz i (by omega) hi2) hr
        refine ⟨M', v2', by rw [Nat.zero_add, Nat.one_mul]; exact a1, a2, fun i hi => ?_, ?_⟩
        · rw [a3 i hi]
          by_cases q : i < lv
          · rw [if_pos (by omega), if_pos q]
          · rw [if_neg q]
            by_cases q2 : i = lv
            · rw [if_pos (by omega), if_pos q2, q2, hcl]
            · rw [if_neg (by omega), if_neg q2]
        · rw [blk_cand (by omega)] at a4
          rw [show shN pr n1 al c lv j (fun cd => fbN cd (0 + 1)) = shN pr n1 al c lv j (fun cd => cd (c lv)) by
            rw [← shN_upd, hcl]
            unfold shN
            cases hq : pfN pr n1 al c lv with
            | none => rfl
            | some p =>
              obtain ⟨s, t⟩ := p
              exact upd2_0 _]
          exact a4
      | succ d ihd =>
        intro hd f
        obtain ⟨M1, v1, a1, a2, a3, a4⟩ := ihd (by omega) (f + (n1 + 1) ^ j)
        have h1' := h.fr a2
        obtain ⟨M2, b1, b2, b3, b4⟩ := choose_1 nF (lv := lv) (d := d) h0 h1 (by omega) j nF M1 (by omega) (by omega) h1'.2.2.2.2.1 (by rw [a3 lv (by omega), if_neg (by omega), if_pos rfl]) (fun i hi hi2 => by rw [a3 i (by omega), if_neg (by omega), if_neg (by omega)])
        have f2 : enFr M1 M2 := ⟨b2, fun a p q => b3 a p⟩
        obtain ⟨M', v2', c1, c2, c3, c4⟩ := ih (lv + 1) f (fun i => if i < lv then c i else if i = lv then d + 1 else 0) M2 v1 _ (by omega) (h1'.fr f2) (fun i hi => by
          rw [b4 i]
          by_cases q : i < lv
          · rw [if_neg (by omega), if_neg (by omega), a3 i hi, if_pos q, if_pos q]
          · rw [if_neg q]
            by_cases q2 : i = lv
            · rw [if_pos q2, if_pos q2]
            · rw [if_neg q2, if_neg q2, if_pos (by omega)]) (fun i hi => by
          by_cases q : i < lv
          · rw [if_pos q]; exact hl i q
          · rw [if_neg q, if_pos (by omega)]; exact hd) (fun i hi hi2 => by rw [if_neg (by omega), if_neg (by omega)]) (by rw [b3 22 (by decide)]; exact a4)
        refine ⟨M', v2', ?_, (a2.trans f2).trans c2, fun i hi => ?_, ?_⟩
        · rw [show f + (d + 1 + 1) * (n1 + 1) ^ j = f + (n1 + 1) ^ j + (d + 1) * (n1 + 1) ^ j by rw [Nat.add_mul (d + 1) 1, Nat.one_mul]; omega]
          refine Eq.trans a1 ?_
          rw [BX10_pairs_88, fX10_choosesOn, z0, if_neg k0, h1'.2.2.2.1, sub1, show n0 = lv + j + 1 by omega, pk_m1, b1, Option.bind_some]
          exact c1
        · refine (c3 i hi).trans (congrArg nI ?_)
          by_cases q : i < lv
          · rw [if_pos (show i < lv + 1 by omega), if_pos q, if_pos q]
          · by_cases q2 : i = lv
            · rw [if_pos (show i < lv + 1 by omega), if_neg q, if_neg q, if_pos q2, if_pos q2]
            · rw [if_neg (show ¬ i < lv + 1 by omega), if_neg q, if_neg q2]
        · rw [blk_cand (by rw [if_neg (by omega), if_pos rfl]; exact hd), upd2_assoc, if_neg (Nat.lt_irrefl lv), if_pos rfl, shN_cong (c := fun i => if i < lv then c i else if i = lv then d + 1 else 0) (c' := c) (fun k hk => if_pos hk), shN_upd] at c4
          exact c4
    obtain ⟨M', v2', a1, a2, a3, a4⟩ := inner n1 (Nat.le_refl _) f
    refine ⟨M', v2', ?_, a2, fun i hi => ?_, ?_⟩
    · rw [Nat.pow_succ, Nat.mul_comm]
      exact a1
    · rw [a3 i hi]
      by_cases q : i < lv
      · rw [if_pos q, if_pos q]
      · rw [if_neg q, if_neg q]
        by_cases q2 : i = lv
        · rw [if_pos q2]
        · rw [if_neg q2]
    · rw [shN_all] at a4
      exact a4
theorem pow_le : ∀ a, a < 6 → ∀ b, b < 6 → (a + 1) ^ b ≤ 7776 := by decide
theorem zero_M (nF : Nat) : ∀ (d fl i : Nat) (M : PS), i + d = 5 → d < fl → (∀ k, k < i → M.2 21 k = nI 0) → ∃ M', LX10_pairs_7 nF fl M (nI i) = LX10_pairs_29 nF nF M' (-1) 1 ∧ M'.1 = M.1 ∧ (∀ a, a ≠ 21 → M'.2 a = M.2 a) ∧ (∀ k, k < 5 → M'.2 21 k = nI 0) := by
  intro d
  induction d with
  | zero =>
    intro fl i M e1 e2 hc
    obtain ⟨fl, rfl⟩ : ∃ m, fl = m + 1 := ⟨fl - 1, by omega⟩
    obtain rfl : i = 5 := by omega
    exact ⟨M, by rw [LX10_pairs_7, if_pos (by decide), BX10_pairs_25], rfl, fun _ _ => rfl, hc⟩
  | succ d ih =>
    intro fl i M e1 e2 hc
    obtain ⟨fl, rfl⟩ : ∃ m, fl = m + 1 := ⟨fl - 1, by omega⟩
    obtain ⟨M', a1, a2, a3, a4⟩ := ih fl (i + 1) (sta M 21 i 0) (by omega) (by omega) (fun k hk => by
      by_cases c : k = i
      · subst c; exact sta_eq
      · rw [sta_ne2 c]; exact hc k (by omega))
    refine ⟨M', ?_, a2, fun a ha => (a3 a ha).trans (sta_ne ha), a4⟩
    rw [LX10_pairs_7, if_neg (show ¬ (5 : Int32) ≤ nI i from nI_ge (b := 5) (by omega) (by omega)), if_neg (nI_in (N := 5) (by omega) (by omega)), nI_clamp (by omega), nI_1]
    exact a1
theorem enum_M (nF : Nat) (hF : 10000 ≤ nF) {M : PS} {n0 n1 al : Nat} {pr : Nat → Nat → Nat} {g0 g1 : Nat → Nat} (h : dataM M n0 n1 al pr g0 g1) : ∃ M', LX10_pairs_7 nF nF M 0 = some (nI (bst pr n1 al n0 0 0).1, M') ∧ enFr M M' ∧ (∀ i, i < n0 → M'.2 22 i = nI ((bst pr n1 al n0 0 0).2 i)) := by
  have z0 : (0 : Int32).toNatClampNeg = 0 := rfl
  have k0 : ¬ ((0 : Int32) < 0 ∨ 2 ≤ 0) := by decide
  have h0 := h.1
  have h1 := h.2.1
  obtain ⟨M1, a1, a2, a3, a4⟩ := zero_M nF 5 nF 0 M (by omega) (by omega) (fun k hk => absurd hk (Nat.not_lt_zero _))
  have f1 : enFr M M1 := ⟨a2, fun a p q => a3 a p⟩
  have hp := pow_le n1 (by omega) n0 (by omega)
  obtain ⟨f, hf⟩ : ∃ f, nF = f + 1 + (n1 + 1) ^ n0 := ⟨nF - 1 - (n1 + 1) ^ n0, by omega⟩
  obtain ⟨M2, v2, b1, b2, b3, b4⟩ := block_M nF (by omega) (g0 := g0) (g1 := g1) n0 0 (f + 1) (fun _ => 0) M1 (-1) none (by omega) (h.fr f1) (fun i hi => a4 i (by omega)) (fun i hi => absurd hi (Nat.not_lt_zero _)) (fun i _ _ => rfl) rfl
  have h2' := (h.fr f1).fr b2
  obtain ⟨M', c1, c2, c3⟩ := choose_0 nF h1 n0 nF M2 (by omega) h0 h2'.2.2.2.2.1 (fun i hi => by rw [b3 i hi, if_neg (Nat.not_lt_zero _)])
  rw [upd2_0] at b4
  have hb : blk pr n1 al (fun _ => 0) 0 n0 = some (0 + (bst pr n1 al n0 0 0).1, preF (fun _ => 0) 0 (bst pr n1 al n0 0 0).2) := rfl
  rw [hb] at b4
  obtain ⟨r1, r2, r3⟩ := b4
  refine ⟨M', ?_, (f1.trans b2).trans ⟨c2, fun a p q => c3 a p⟩, fun i hi => ?_⟩
  · refine Eq.trans a1 ?_
    rw [show LX10_pairs_29 nF nF M1 (-1) 1 = LX10_pairs_29 nF (f + 1 + (n1 + 1) ^ n0) M1 (-1) 1 by rw [← hf]]
    refine Eq.trans b1 ?_
    rw [BX10_pairs_88, fX10_choosesOn, z0, if_neg k0, h2'.2.2.2.1, sub1, c1, Option.bind_some]
    show LX10_pairs_29 nF (f + 1) M' v2 0 = _
    rw [LX10_pairs_29, if_pos rfl, r1, Nat.zero_add]
  · rw [c3 22 (by decide), r3 i hi]
    rfl
theorem twin_loop (nF : Nat) {M : PS} {n0 n1 al m : Nat} {pr : Nat → Nat → Nat} {g0 g1 D : Nat → Nat} (h : dataM M n0 n1 al pr g0 g1) (hm : m < 40) (hD : ∀ i, i < n0 → M.2 22 i = nI (D i) ∧ D i ≤ n1) : ∀ (j fl i : Nat), i + j = n0 → j < fl → LX10_twinOf_76 nF fl M (nI m) (nI i) = some (othN g0 g1 n1 m j i (fun q => D (i + q)), M) := by
  have z0 : (0 : Int32).toNatClampNeg = 0 := rfl
  have k0 : ¬ ((0 : Int32) < 0 ∨ 2 ≤ 0) := by decide
  have z1 : (1 : Int32).toNatClampNeg = 1 := rfl
  have k1 : ¬ ((1 : Int32) < 0 ∨ 2 ≤ 1) := by decide
  have h0 := h.1
  have h1 := h.2.1
  intro j
  induction j with
  | zero =>
    intro fl i e1 e2
    obtain ⟨fl, rfl⟩ : ∃ m, fl = m + 1 := ⟨fl - 1, by omega⟩
    rw [LX10_twinOf_76, z0, if_neg k0, h.2.2.2.1, if_pos (nI_le (by omega) (by omega))]
    rfl
  | succ j ih =>
    intro fl i e1 e2
    obtain ⟨fl, rfl⟩ : ∃ m, fl = m + 1 := ⟨fl - 1, by omega⟩
    obtain ⟨u1, u2⟩ := h.2.2.2.2.2.2.1 i (by omega)
    obtain ⟨w1, w2⟩ := hD i (by omega)
    rw [LX10_twinOf_76, z0, if_neg k0, h.2.2.2.1, if_neg (nI_ge (by omega) (by omega)), if_neg (nI_in (N := 10) (by omega) (by omega)), nI_clamp (by omega), u1, nI_1, othN]
    by_cases c : g0 i = m
    · rw [if_pos (by rw [c]), if_pos c, BX10_twinOf_98, if_neg (nI_in (N := 5) (by omega) (by omega)), z1, if_neg k1, nI_clamp (by omega), w1, h.2.2.2.2.1]
      show _ = some ((if D i = n1 then (-1 : Int32) else nI (g1 (D i))), M)
      by_cases e : D i = n1
      · rw [if_pos (by rw [e]), if_pos e]
      · have j5 : (5 : Int32) + nI (D i) = nI (5 + D i) := nI_add 5 (D i)
        rw [if_neg (fun q => e ((nI_eq (by omega) (by omega)).mp q)), if_neg e, j5, if_neg (nI_in (N := 10) (by omega) (by omega)), nI_clamp (by omega), (h.2.2.2.2.2.2.2.1 (D i) (by omega)).1]
    · rw [if_neg (fun q => c ((nI_eq (by omega) (by omega)).mp q)), if_neg c]
      have e := ih fl (i + 1) (by omega) (by omega)
      rw [show (fun q => D (i + 1 + q)) = (fun q => D (i + (q + 1))) by funext q; rw [Nat.add_assoc, Nat.add_comm 1 q]] at e
      exact e
