/-! marks that are near, and what a group is -/
def nearV (M : PS) (r a b : Nat) : Int32 := if M.1 0 23 < (if M.2 13 (40 * r + b) - M.2 13 (40 * r + a) - M.2 16 (40 * r + a) ≤ M.2 13 (40 * r + a) - M.2 13 (40 * r + b) - M.2 16 (40 * r + b) then M.2 13 (40 * r + a) - M.2 13 (40 * r + b) - M.2 16 (40 * r + b) else M.2 13 (40 * r + b) - M.2 13 (40 * r + a) - M.2 16 (40 * r + a)) then 0 else if M.1 0 24 < fX10_hours M (M.2 14 (40 * r + a)) (M.2 14 (40 * r + b)) then 0 else 1
theorem ix40 (r a : Nat) : (40 : Int32) * nI r + nI a = nI (40 * r + a) := by rw [show (40 : Int32) * nI r = nI (40 * r) from pk_mul 40 r, nI_add]
theorem near_M (nF : Nat) (M : PS) {r a b : Nat} (hr : r < 2) (ha : a < 40) (hb : b < 40) : fX10_areNear nF M (nI (40 * r + a)) (nI (40 * r + b)) = some (nearV M r a b) := by
  have ga := nI_in (c := 40 * r + a) (N := 80) (by omega) (by omega)
  have gb := nI_in (c := 40 * r + b) (N := 80) (by omega) (by omega)
  rw [fX10_areNear, if_neg gb, if_neg ga, BX10_areNear_55, BX10_areNear_55, if_neg ga, if_neg gb, nI_clamp (by omega), nI_clamp (by omega), nearV]
  by_cases c1 : M.2 13 (40 * r + b) - M.2 13 (40 * r + a) - M.2 16 (40 * r + a) ≤ M.2 13 (40 * r + a) - M.2 13 (40 * r + b) - M.2 16 (40 * r + b)
  · rw [if_pos c1, if_pos c1]
    split
    · rfl
    · split <;> rfl
  · rw [if_neg c1, if_neg c1]
    split
    · rfl
    · split <;> rfl
theorem hours_eq (S M : PS) : ∀ c, c < 12 → ∀ d, d < 12 → fX9_hoursApart S (nI c) (nI d) = fX10_hours M (nI c) (nI d) := by
  have h : ∀ c, c < 12 → ∀ d, d < 12 → fX9_hoursApart (fun _ _ => 0, fun _ _ => 0) (nI c) (nI d) = fX10_hours (fun _ _ => 0, fun _ _ => 0) (nI c) (nI d) := by decide +kernel
  exact h
theorem hours_btw (S M : PS) {x y : Int32} (hx : btw x 0 11) (hy : btw y 0 11) : fX9_hoursApart S x y = fX10_hours M x y := by
  have a := clamp_toInt hx.1
  have b := clamp_toInt hy.1
  have := hx.2
  have := hy.2
  rw [nI_of_btw hx, nI_of_btw hy]
  exact hours_eq S M _ (by omega) _ (by omega)
theorem sub_sub_I {x y z : Int32} (hx : btw x 0 4000000) (hy : btw y 0 4000000) (hz : btw z 0 10000) : x - (y + z) = x - y - z := by
  obtain ⟨x1, x2⟩ := hx
  obtain ⟨y1, y2⟩ := hy
  obtain ⟨z1, z2⟩ := hz
  have e1 : (y + z).toInt = y.toInt + z.toInt := add_toInt (by omega) (by omega)
  have e2 : (x - y).toInt = x.toInt - y.toInt := sub_toInt (by omega) (by omega)
  apply Int32.toInt_inj.mp
  rw [sub_toInt (by omega) (by omega), sub_toInt (by omega) (by omega), e1, e2]
  omega
def nMk (M : PS) (r : Nat) : Nat := (M.2 12 r).toNatClampNeg
theorem IK.nat {S M : PS} {r : Nat} (hr : r < 2) (h : IK S M) : nMk M r ≤ 40 ∧ M.2 12 r = nI (nMk M r) ∧ S.1 (19 + r) 6 = nI (nMk M r) ∧ (∀ i, i < nMk M r → markOK S M r i) := by
  obtain ⟨h1, h2, h3⟩ := h r hr
  have a := clamp_toInt h2.1
  have e : M.2 12 r = nI (nMk M r) := nI_of_btw h2
  exact ⟨by unfold nMk; have := h2.2; omega, e, h1.trans e, fun i hi => h3 i (by unfold nMk at hi; omega)⟩
theorem near_C (nF : Nat) {S M : PS} {r a b : Nat} (hr : r < 2) (h : IK S M) (ha : a < nMk M r) (hb : b < nMk M r) : fX3_areNear nF S (19 + r) (nI a) (nI b) (M.1 0 23) (M.1 0 24) = some (nearV M r a b) := by
  obtain ⟨n1, n2, n3, n4⟩ := h.nat hr
  obtain ⟨a1, a2, a3, a4, a5, a6, a7, a8⟩ := n4 a ha
  obtain ⟨b1, b2, b3, b4, b5, b6, b7, b8⟩ := n4 b hb
  have ga := nI_in (c := a) (N := 40) (by omega) (by omega)
  have gb := nI_in (c := b) (N := 40) (by omega) (by omega)
  rw [fX3_areNear, if_neg ga, fX3_endOf, fX3_endOf, if_neg gb, if_neg ga, nI_clamp (by omega), nI_clamp (by omega), show 19 + r + 2 = 21 + r by omega, show 19 + r + 8 = 27 + r by omega, show 19 + r + 4 = 23 + r by omega, a1, b1, a2, b2, a4, b4, Option.bind_some, Option.bind_some, if_neg (show ¬ (nI b < 0 ∨ 40 ≤ b) from fun q => q.elim (nI_pos (by omega)) (by omega)), sub_sub_I a5 b5 b8, sub_sub_I b5 a5 a8, hours_btw S M a6 b6, nearV]
  by_cases c1 : M.2 13 (40 * r + b) - M.2 13 (40 * r + a) - M.2 16 (40 * r + a) ≤ M.2 13 (40 * r + a) - M.2 13 (40 * r + b) - M.2 16 (40 * r + b)
  · rw [if_pos c1, if_neg (Int32.not_lt.mpr c1)]
    split
    · rfl
    · split <;> rfl
  · rw [if_neg c1, if_pos (Int32.not_le.mp c1)]
    split
    · rfl
    · split <;> rfl
def gP (nr : Nat → Nat → Int32) (g0 gr : Nat → Int32) (n m0 G : Nat) : Prop := (∀ b, b < n → gr b = g0 b ∨ (g0 b = -1 ∧ gr b = nI G)) ∧ gr m0 = nI G ∧ (∀ X : Nat → Prop, X m0 → (∀ a b, a < n → b < n → X a → g0 b = -1 → ¬ nr a b = 0 → X b) → ∀ b, b < n → gr b = nI G → X b)
def gE (nr : Nat → Nat → Int32) (gr : Nat → Int32) (n G : Nat) : Prop := ∀ a b, a < n → b < n → gr a = nI G → ¬ nr a b = 0 → gr b ≠ -1
theorem nI_ne_m1 {G : Nat} (h : G < 2 ^ 31) : ¬ nI G = -1 := by
  intro q
  have := congrArg Int32.toInt q
  rw [nI_toInt h] at this
  have h1 : (-1 : Int32).toInt = -1 := rfl
  omega
theorem gP_step {nr : Nat → Nat → Int32} {g0 gr gr' : Nat → Int32} {n m0 G a b : Nat} (hG : G < 2 ^ 31) (h : gP nr g0 gr n m0 G) (ha : a < n) (hb : b < n) (h1 : gr a = nI G) (h2 : gr b = -1) (h3 : ¬ nr a b = 0) (h4 : gr' b = nI G) (h5 : ∀ c, c ≠ b → gr' c = gr c) : gP nr g0 gr' n m0 G := by
  have h0 : g0 b = -1 := by
    rcases h.1 b hb with q | ⟨_, q⟩
    · rw [← q]; exact h2
    · exact absurd (q.symm.trans h2) (nI_ne_m1 hG)
  refine ⟨fun c hc => ?_, ?_, fun X hX hcl c hc hq => ?_⟩
  · by_cases e : c = b
    · subst e; exact Or.inr ⟨h0, h4⟩
    · rw [h5 c e]; exact h.1 c hc
  · by_cases e : m0 = b
    · subst e; exact h4
    · rw [h5 m0 e]; exact h.2.1
  · by_cases e : c = b
    · subst e
      exact hcl a c ha hb (h.2.2 X hX hcl a ha h1) h0 h3
    · rw [h5 c e] at hq
      exact h.2.2 X hX hcl c hc hq
theorem gP_init {nr : Nat → Nat → Int32} {g0 gr : Nat → Int32} {n m0 G : Nat} (h0 : g0 m0 = -1) (h1 : gr m0 = nI G) (h2 : ∀ c, c ≠ m0 → gr c = g0 c) (hf : ∀ b, b < n → g0 b ≠ nI G) : gP nr g0 gr n m0 G := by
  refine ⟨fun c hc => ?_, h1, fun X hX hcl c hc hq => ?_⟩
  · by_cases e : c = m0
    · subst e; exact Or.inr ⟨h0, h1⟩
    · exact Or.inl (h2 c e)
  · by_cases e : c = m0
    · subst e; exact hX
    · rw [h2 c e] at hq
      exact absurd hq (hf c hc)
theorem gP_uniq {nr : Nat → Nat → Int32} {g0 g1 g2 : Nat → Int32} {n m0 G : Nat} (hG : G < 2 ^ 31) (h1 : gP nr g0 g1 n m0 G) (e1 : gE nr g1 n G) (h2 : gP nr g0 g2 n m0 G) (e2 : gE nr g2 n G) : ∀ b, b < n → g1 b = g2 b := by
  have key : ∀ u v : Nat → Int32, gP nr g0 u n m0 G → gP nr g0 v n m0 G → gE nr v n G → ∀ b, b < n → u b = nI G → v b = nI G := by
    intro u v hu hv ev b hb hq
    refine hu.2.2 (fun c => v c = nI G) hv.2.1 (fun a c ha hc hx h0 hn => ?_) b hb hq
    have hne := ev a c ha hc hx hn
    rcases hv.1 c hc with q | ⟨_, q⟩
    · exact absurd (q.trans h0) hne
    · exact q
  intro b hb
  rcases h1.1 b hb with q | ⟨_, q⟩
  · rcases h2.1 b hb with p | ⟨_, p⟩
    · rw [q, p]
    · rw [key g2 g1 h2 h1 e1 b hb p, p]
  · rw [key g1 g2 h1 h2 e2 b hb q, q]
theorem cnt_upd {f f' : Nat → Int32} {y : Int32} {b : Nat} : ∀ {n : Nat}, b < n → f b = y → ¬ f' b = y → (∀ c, c ≠ b → f' c = f c) → cntY f' y n + 1 = cntY f y n
  | 0, h, _, _, _ => by omega
  | n + 1, h, h1, h2, h3 => by
    rw [cntY, cntY]
    by_cases e : b = n
    · subst e
      rw [if_pos h1, if_neg h2, cntY_congr (fun i hi => h3 i (by omega))]
    · have := cnt_upd (n := n) (by omega) h1 h2 h3
      rw [h3 n (fun q => e q.symm)]
      omega
theorem cnt_pos {f : Nat → Int32} {y : Int32} {b : Nat} : ∀ {n : Nat}, b < n → f b = y → 1 ≤ cntY f y n
  | 0, h, _ => by omega
  | n + 1, h, h1 => by
    rw [cntY]
    by_cases e : b = n
    · subst e
      rw [if_pos h1]
      omega
    · have := cnt_pos (n := n) (by omega) h1
      omega
theorem cnt_le {f : Nat → Int32} {y : Int32} : ∀ n : Nat, cntY f y n ≤ n
  | 0 => Nat.le_refl _
  | n + 1 => by
    have := cnt_le (f := f) (y := y) n
    rw [cntY]
    split <;> omega
