/-! the marks of a felt joint, gathered -/
def gcN (h : Nat → Int32) (p : Int32) : Nat → Nat
  | 0 => 0
  | m + 1 => if h m = p ∧ gcN h p m < 5 then gcN h p m + 1 else gcN h p m
def gmN (h : Nat → Int32) (p : Int32) : Nat → Nat → Nat
  | 0, _ => 0
  | m + 1, i => if h m = p ∧ gcN h p m < 5 ∧ i = gcN h p m then m else gmN h p m i
theorem gc_le (h : Nat → Int32) (p : Int32) : ∀ m, gcN h p m ≤ 5
  | 0 => by rw [gcN]; omega
  | m + 1 => by
    have := gc_le h p m
    rw [gcN]
    split <;> omega
theorem gc_yes {h : Nat → Int32} {p : Int32} {m : Nat} (h1 : h m = p) (h2 : gcN h p m < 5) : gcN h p (m + 1) = gcN h p m + 1 ∧ (∀ i, gmN h p (m + 1) i = if i = gcN h p m then m else gmN h p m i) := by
  refine ⟨by rw [gcN, if_pos ⟨h1, h2⟩], fun i => ?_⟩
  rw [gmN]
  by_cases e : i = gcN h p m
  · rw [if_pos ⟨h1, h2, e⟩, if_pos e]
  · rw [if_neg (fun q => e q.2.2), if_neg e]
theorem gc_no {h : Nat → Int32} {p : Int32} {m : Nat} (h1 : ¬ (h m = p ∧ gcN h p m < 5)) : gcN h p (m + 1) = gcN h p m ∧ (∀ i, gmN h p (m + 1) i = gmN h p m i) := by
  refine ⟨by rw [gcN, if_neg h1], fun i => ?_⟩
  rw [gmN, if_neg (fun q => h1 ⟨q.1, q.2.1⟩)]
theorem gc_stop {h : Nat → Int32} {p : Int32} {m : Nat} (h5 : gcN h p m = 5) : ∀ d, gcN h p (m + d) = 5 ∧ (∀ i, gmN h p (m + d) i = gmN h p m i)
  | 0 => ⟨h5, fun _ => rfl⟩
  | d + 1 => by
    obtain ⟨a, b⟩ := gc_stop h5 d
    obtain ⟨c, e⟩ := gc_no (h := h) (p := p) (m := m + d) (fun q => by omega)
    rw [← Nat.add_assoc]
    exact ⟨c.trans a, fun i => (e i).trans (b i)⟩
theorem gm_prop (h : Nat → Int32) (p : Int32) : ∀ m i, i < gcN h p m → gmN h p m i < m ∧ h (gmN h p m i) = p
  | 0, i, hi => absurd hi (Nat.not_lt_zero _)
  | m + 1, i, hi => by
    by_cases c : h m = p ∧ gcN h p m < 5
    · obtain ⟨a, b⟩ := gc_yes c.1 c.2
      rw [a] at hi
      rw [b i]
      by_cases e : i = gcN h p m
      · rw [if_pos e]; exact ⟨Nat.lt_succ_self _, c.1⟩
      · rw [if_neg e]
        have := gm_prop h p m i (by omega)
        exact ⟨by omega, this.2⟩
    · obtain ⟨a, b⟩ := gc_no c
      rw [a] at hi
      rw [b i]
      have := gm_prop h p m i hi
      exact ⟨by omega, this.2⟩
theorem ftL_in {js ln : Nat → Nat} {v : Nat} : ∀ (k j f : Nat), ftL js ln v k j = nI f → f < 1000 → j + k < 1000 → js f ≤ v
  | 0, j, f, h, hf, hj => by
    have : nI f = -1 := h.symm
    exact absurd this (nI_ne_m1 (by omega))
  | k + 1, j, f, h, hf, hj => by
    rw [ftL] at h
    by_cases c : js j ≤ v ∧ v < js j + ln j
    · rw [if_pos c] at h
      have : j = f := (nI_eq (by omega) (by omega)).mp h
      rw [← this]; exact c.1
    · rw [if_neg c] at h
      exact ftL_in k (j + 1) f h hf (by omega)
def hM (M : PS) (r m : Nat) : Int32 := ftAt M r (wayM M r m)
def nG (M : PS) (r : Nat) (p : Int32) : Nat := if p = -1 then 0 else gcN (hM M r) p (nMk M r)
def gmG (M : PS) (r : Nat) (p : Int32) (i : Nat) : Nat := gmN (hM M r) p (nMk M r) i
def dG (M : PS) (r : Nat) (p : Int32) (i : Nat) : Nat := wayM M r (gmG M r p i) - jsN M r p.toNatClampNeg
def ckG (M : PS) (r : Nat) (p : Int32) (i : Nat) : Int32 := M.2 14 (40 * r + gmG M r p i)
theorem nG_le (M : PS) (r : Nat) (p : Int32) : nG M r p ≤ 5 := by
  unfold nG
  split
  · omega
  · exact gc_le _ _ _
theorem gmG_lt {M : PS} {r : Nat} {p : Int32} {i : Nat} (h : i < nG M r p) : gmG M r p i < nMk M r := by
  unfold nG at h
  by_cases e : p = -1
  · rw [if_pos e] at h; omega
  · rw [if_neg e] at h
    exact (gm_prop _ _ _ _ h).1
def gaC (S S' : PS) (r : Nat) : Prop := (∀ a b : Nat, ¬ (a = 45 + r ∧ b = 3) → S'.1 a b = S.1 a b) ∧ (∀ a : Nat, ¬ (a = 48 + r ∨ a = 50 + r ∨ a = 52 + r) → S'.2 a = S.2 a)
theorem gaC.rfl' {S : PS} {r : Nat} : gaC S S r := ⟨fun _ _ _ => rfl, fun _ _ => rfl⟩
theorem gaC.trans {S S1 S2 : PS} {r : Nat} (h : gaC S S1 r) (h2 : gaC S1 S2 r) : gaC S S2 r := ⟨fun a b p => (h2.1 a b p).trans (h.1 a b p), fun a p => (h2.2 a p).trans (h.2 a p)⟩
theorem gaC.keep {S S' : PS} {r : Nat} (hr : r < 2) (h : gaC S S' r) : keepC S S' := ⟨fun a b q => h.1 a b (by omega), fun a q => h.2 a (by omega)⟩
theorem FeltC.ga {S S' M : PS} {r q : Nat} (hr : r < 2) (hq : q < 2) (h : FeltC S M r) (hf : gaC S S' q) : FeltC S' M r := by
  unfold FeltC at h ⊢
  rw [hf.1 _ _ (by omega), hf.1 _ _ (by omega), hf.1 _ _ (by omega), hf.2 (33 + r) (by omega), hf.2 (35 + r) (by omega), hf.2 (37 + r) (by omega)]
  exact h
theorem IK.ga {S S' M : PS} {r : Nat} (hr : r < 2) (h : IK S M) (hc : gaC S S' r) : IK S' M := h.congr (fun q hq => ⟨hc.1 _ _ (by omega), hc.2 _ (by omega), hc.2 _ (by omega), hc.2 _ (by omega), hc.2 _ (by omega)⟩) ⟨rfl, rfl, rfl, rfl, rfl⟩
def rowG (M : PS) (r : Nat) (p : Int32) (nums dist : Nat → Int32) (m : Nat) : Prop := ∀ i, i < gcN (hM M r) p m → nums i = nI (gmN (hM M r) p m i) ∧ dist i = nI (wayM M r (gmN (hM M r) p m i) - jsN M r p.toNatClampNeg)
theorem gatC_loop (nF : Nat) (hF : 1000 ≤ nF) {M S0 : PS} {r f : Nat} (hr : r < 2) (hR : IR S0 M) (hf : f < jN M r) : ∀ (d fl m : Nat) (S : PS), m + d = nMk M r → d < fl → FeltC S M r → IK S M → S.1 (45 + r) 3 = nI (gcN (hM M r) (nI f) m) → rowG M r (nI f) (S.2 (48 + r)) (S.2 (50 + r)) m → (∀ i, i < gcN (hM M r) (nI f) m → S.2 (52 + r) i = M.2 14 (40 * r + gmN (hM M r) (nI f) m i)) → ∃ S', LX2_gather_20 nF fl S (45 + r) (1 + r) (nI f) (nI m) = some S' ∧ gaC S S' r ∧ S'.1 (45 + r) 3 = nI (gcN (hM M r) (nI f) (nMk M r)) ∧ rowG M r (nI f) (S'.2 (48 + r)) (S'.2 (50 + r)) (nMk M r) ∧ (∀ i, i < gcN (hM M r) (nI f) (nMk M r) → S'.2 (52 + r) i = M.2 14 (40 * r + gmN (hM M r) (nI f) (nMk M r) i)) := by
  have hJ := jN_le M r
  intro d
  induction d with
  | zero =>
    intro fl m S e1 e2 hF1 hK h3 hro hck
    obtain ⟨fl, rfl⟩ : ∃ m, fl = m + 1 := ⟨fl - 1, by omega⟩
    obtain ⟨n1, n2, n3, n4⟩ := hK.nat hr
    obtain rfl : m = nMk M r := by omega
    refine ⟨S, ?_, gaC.rfl', h3, hro, hck⟩
    rw [LX2_gather_20, show 1 + r + 18 = 19 + r by omega, n3, if_pos (nI_le (Nat.le_refl _) (by omega))]
  | succ d ih =>
    intro fl m S e1 e2 hF1 hK h3 hro hck
    obtain ⟨fl, rfl⟩ : ∃ m, fl = m + 1 := ⟨fl - 1, by omega⟩
    obtain ⟨n1, n2, n3, n4⟩ := hK.nat hr
    have hm : m < nMk M r := by omega
    have hg5 := gc_le (hM M r) (nI f) m
    rw [LX2_gather_20, show 1 + r + 18 = 19 + r by omega, n3, if_neg (nI_ge (by omega) (by omega)), h3]
    by_cases c5 : gcN (hM M r) (nI f) m = 5
    · rw [if_pos (by rw [c5]; decide)]
      obtain ⟨s1, s2⟩ := gc_stop c5 (d + 1)
      rw [e1] at s1 s2
      refine ⟨S, rfl, gaC.rfl', by rw [h3, c5, s1], fun i hi => ?_, fun i hi => ?_⟩
      · rw [s2 i]; exact hro i (by omega)
      · rw [s2 i]; exact hck i (by omega)
    · have hw := way_nat hr hK hm
      obtain ⟨b1, b2, _⟩ := n4 m hm
      rw [if_neg (show ¬ (5 : Int32) ≤ nI (gcN (hM M r) (nI f) m) from nI_ge (b := 5) (by omega) (by omega)), if_neg (nI_in (N := 40) (by omega) (by omega)), nI_clamp (n := m) (by omega), show 19 + r + 2 = 21 + r by omega, b1, hw.1, felt_C nF hF hr hR hw.2 hF1, Option.bind_some, nI_1 m]
      by_cases c : ftAt M r (wayM M r m) = nI f
      · obtain ⟨y1, y2⟩ := gc_yes (h := hM M r) (p := nI f) (m := m) c (by omega)
        have hjs : jsN M r f ≤ wayM M r m := ftL_in (jN M r) 0 f c (by omega) (by omega)
        have hfb := felt_bnd hr hR f hf
        have e35 := (hF1.2.2.2.2 f hf).1.trans hfb.1
        rw [if_pos c, if_neg (nI_in (N := 5) (by omega) (by omega)), if_neg (nI_in (N := 60) (by omega) (by omega)), nI_clamp (n := gcN (hM M r) (nI f) m) (by omega), nI_clamp (n := f) (by omega), show 45 + r + 3 = 48 + r by omega, show 45 + r + 5 = 50 + r by omega, show 45 + r + 7 = 52 + r by omega, show 1 + r + 34 = 35 + r by omega, show 19 + r + 4 = 23 + r by omega, sta_ne (a := 21 + r) (by omega), sta_ne (a := 35 + r) (by omega), sta_ne (a := 23 + r) (by omega), sta_ne (a := 23 + r) (by omega), b1, b2, hw.1, e35, pk_sub hjs, nI_1]
        have fr : gaC S (sti (sta (sta (sta S (48 + r) (gcN (hM M r) (nI f) m) (nI m)) (50 + r) (gcN (hM M r) (nI f) m) (nI (wayM M r m - jsN M r f))) (52 + r) (gcN (hM M r) (nI f) m) (M.2 14 (40 * r + m))) (45 + r) 3 (nI (gcN (hM M r) (nI f) m + 1))) r := ⟨fun a b q => sti_ne (by omega), fun a q => by rw [sti_2, sta_ne (by omega), sta_ne (by omega), sta_ne (by omega)]⟩
        obtain ⟨S', a1, a2, a3, a4, a5⟩ := ih fl (m + 1) (sti (sta (sta (sta S (48 + r) (gcN (hM M r) (nI f) m) (nI m)) (50 + r) (gcN (hM M r) (nI f) m) (nI (wayM M r m - jsN M r f))) (52 + r) (gcN (hM M r) (nI f) m) (M.2 14 (40 * r + m))) (45 + r) 3 (nI (gcN (hM M r) (nI f) m + 1))) (by omega) (by omega) (hF1.ga hr hr fr) (hK.ga hr fr) (by rw [sti_eq, y1]) (fun i hi => by
          rw [y1] at hi
          rw [y2 i, sti_2, sta_ne (a := 48 + r) (by omega), sta_ne (a := 48 + r) (by omega), sta_ne (a := 50 + r) (by omega)]
          by_cases e : i = gcN (hM M r) (nI f) m
          · rw [if_pos e, e, sta_eq, sta_eq, nI_clamp (by omega)]
            exact ⟨rfl, rfl⟩
          · rw [if_neg e, sta_ne2 e, sta_ne2 e, sta_ne (a := 50 + r) (by omega)]
            exact hro i (by omega)) (fun i hi => by
          rw [y1] at hi
          rw [y2 i, sti_2]
          by_cases e : i = gcN (hM M r) (nI f) m
          · rw [if_pos e, e, sta_eq]
          · rw [if_neg e, sta_ne2 e, sta_ne (a := 52 + r) (by omega), sta_ne (a := 52 + r) (by omega)]
            exact hck i (by omega))
        exact ⟨S', a1, fr.trans a2, a3, a4, a5⟩
      · obtain ⟨y1, y2⟩ := gc_no (h := hM M r) (p := nI f) (m := m) (fun q => c q.1)
        rw [if_neg c]
        exact ih fl (m + 1) S (by omega) (by omega) hF1 hK (by rw [y1]; exact h3) (fun i hi => by rw [y1] at hi; rw [y2 i]; exact hro i hi) (fun i hi => by rw [y1] at hi; rw [y2 i]; exact hck i hi)
theorem gather_C (nF : Nat) (hF : 1000 ≤ nF) {M S S0 : PS} {r : Nat} {p : Int32} (hr : r < 2) (hR : IR S0 M) (hf : FeltC S M r) (hK : IK S M) (hp : p = -1 ∨ ∃ f, f < jN M r ∧ p = nI f) : ∃ S', fX2_gather nF S (45 + r) (1 + r) p = some S' ∧ gaC S S' r ∧ S'.1 (45 + r) 3 = nI (nG M r p) ∧ (∀ i, i < nG M r p → S'.2 (48 + r) i = nI (gmG M r p i) ∧ S'.2 (50 + r) i = nI (dG M r p i) ∧ S'.2 (52 + r) i = ckG M r p i) := by
  have f0 : gaC S (sti S (45 + r) 3 0) r := ⟨fun a b q => sti_ne q, fun _ _ => rfl⟩
  have hJ := jN_le M r
  rcases hp with rfl | ⟨f, h1, rfl⟩
  · refine ⟨sti S (45 + r) 3 0, ?_, f0, ?_, fun i hi => ?_⟩
    · rw [fX2_gather, if_pos (by decide)]
    · rw [sti_eq, nG, if_pos rfl]; rfl
    · rw [nG, if_pos rfl] at hi; omega
  · have hn : ¬ nI f = -1 := nI_ne_m1 (by omega)
    obtain ⟨n1, n2, n3, n4⟩ := hK.nat hr
    obtain ⟨S', a1, a2, a3, a4, a5⟩ := gatC_loop nF hF hr hR h1 (nMk M r) nF 0 (sti S (45 + r) 3 0) (by omega) (by omega) (hf.ga hr hr f0) (hK.ga hr f0) sti_eq (fun i hi => absurd hi (Nat.not_lt_zero _)) (fun i hi => absurd hi (Nat.not_lt_zero _))
    refine ⟨S', ?_, f0.trans a2, ?_, fun i hi => ?_⟩
    · rw [fX2_gather, if_neg (nI_pos (by omega)), sti_ne (by omega), hf.2.2.1, show jnN (wl M r) (tkN M r) = jN M r from rfl, if_pos ((nI_ltI (b := jN M r) (by omega) (by omega)).mpr h1)]
      exact a1
    · rw [a3, nG, if_neg hn]
    · rw [nG, if_neg hn] at hi
      exact ⟨(a4 i hi).1, (a4 i hi).2, a5 i hi⟩
def gaM (M M' : PS) (r : Nat) : Prop := M'.1 = M.1 ∧ (∀ a : Nat, ¬ (18 ≤ a ∧ a ≤ 20) → M'.2 a = M.2 a) ∧ (∀ q, q ≠ r → M'.2 18 q = M.2 18 q) ∧ (∀ x, ¬ (5 * r ≤ x ∧ x < 5 * r + 5) → M'.2 19 x = M.2 19 x ∧ M'.2 20 x = M.2 20 x)
theorem gaM.rfl' {S : PS} {r : Nat} : gaM S S r := ⟨rfl, fun _ _ => rfl, fun _ _ => rfl, fun _ _ => ⟨rfl, rfl⟩⟩
theorem gaM.trans {S S1 S2 : PS} {r : Nat} (h : gaM S S1 r) (h2 : gaM S1 S2 r) : gaM S S2 r := ⟨h2.1.trans h.1, fun a p => (h2.2.1 a p).trans (h.2.1 a p), fun q p => (h2.2.2.1 q p).trans (h.2.2.1 q p), fun x p => ⟨(h2.2.2.2 x p).1.trans (h.2.2.2 x p).1, (h2.2.2.2 x p).2.trans (h.2.2.2 x p).2⟩⟩
theorem gaM.keep {M M' : PS} {r : Nat} (h : gaM M M' r) : keepM M M' := ⟨fun b q => by rw [h.1], fun a q => h.2.1 a (by omega)⟩
theorem FeltM.ga {M M' M0 : PS} {r q : Nat} (h : FeltM M M0 r) (hf : gaM M M' q) : FeltM M' M0 r := by
  unfold FeltM at h ⊢
  rw [hf.1, hf.2.1 6 (by decide), hf.2.1 7 (by decide), hf.2.1 8 (by decide)]
  exact h
theorem ix5 (r a : Nat) : (5 : Int32) * nI r + nI a = nI (5 * r + a) := by rw [show (5 : Int32) * nI r = nI (5 * r) from pk_mul 5 r, nI_add]
theorem gatM_loop (nF : Nat) (hF : 1000 ≤ nF) {M0 S0 : PS} {r f : Nat} {v1 : Int32} (k2 : PS → Int32 → Int32 → Option PS) (hr : r < 2) (hR : IR S0 M0) (hK : IK S0 M0) (hf : f < jN M0 r) : ∀ (d fl m : Nat) (M : PS), m + d = nMk M0 r → d < fl → FeltM M M0 r → M.2 12 = M0.2 12 → M.2 13 = M0.2 13 → M.2 18 r = nI (gcN (hM M0 r) (nI f) m) → rowG M0 r (nI f) (fun i => M.2 19 (5 * r + i)) (fun i => M.2 20 (5 * r + i)) m → ∃ M', LX10_gather_29 nF k2 fl M v1 (nI r) (nI f) (nI m) = k2 M' v1 (nI (r + 1)) ∧ gaM M M' r ∧ M'.2 18 r = nI (gcN (hM M0 r) (nI f) (nMk M0 r)) ∧ rowG M0 r (nI f) (fun i => M'.2 19 (5 * r + i)) (fun i => M'.2 20 (5 * r + i)) (nMk M0 r) := by
  have hJ := jN_le M0 r
  obtain ⟨n1, n2, n3, n4⟩ := hK.nat hr
  intro d
  induction d with
  | zero =>
    intro fl m M e1 e2 hF1 h12 h13 h18 hro
    obtain ⟨fl, rfl⟩ : ∃ m, fl = m + 1 := ⟨fl - 1, by omega⟩
    obtain rfl : m = nMk M0 r := by omega
    refine ⟨M, ?_, gaM.rfl', h18, hro⟩
    rw [LX10_gather_29, if_neg (nI_in (N := 2) (by omega) (by omega)), nI_clamp (n := r) (by omega), h12, n2, if_pos (nI_le (Nat.le_refl _) (by omega)), BX10_gather_136, nI_1]
  | succ d ih =>
    intro fl m M e1 e2 hF1 h12 h13 h18 hro
    obtain ⟨fl, rfl⟩ : ∃ m, fl = m + 1 := ⟨fl - 1, by omega⟩
    have hm : m < nMk M0 r := by omega
    have hg5 := gc_le (hM M0 r) (nI f) m
    have hw := way_nat hr hK hm
    rw [LX10_gather_29, if_neg (nI_in (N := 2) (by omega) (by omega)), nI_clamp (n := r) (by omega), h12, n2, if_neg (nI_ge (by omega) (by omega)), if_neg (nI_ne_m1 (by omega)), ix40, if_neg (nI_in (N := 80) (by omega) (by omega)), nI_clamp (n := 40 * r + m) (by omega), h13, hw.1, felt_M nF hF hr hR hw.2 hF1, Option.bind_some, nI_1 m, h18]
    by_cases c : ftAt M0 r (wayM M0 r m) = nI f
    · rw [if_pos c]
      by_cases c5 : gcN (hM M0 r) (nI f) m = 5
      · rw [if_pos (by rw [c5]; decide)]
        obtain ⟨y1, y2⟩ := gc_no (h := hM M0 r) (p := nI f) (m := m) (fun q => by omega)
        exact ih fl (m + 1) M (by omega) (by omega) hF1 h12 h13 (by rw [y1]; exact h18) (fun i hi => by rw [y1] at hi; rw [y2 i]; exact hro i hi)
      · obtain ⟨y1, y2⟩ := gc_yes (h := hM M0 r) (p := nI f) (m := m) c (by omega)
        have hjs : jsN M0 r f ≤ wayM M0 r m := ftL_in (jN M0 r) 0 f c (by omega) (by omega)
        have hfb := felt_bnd hr hR f hf
        have e7 := (hF1.2.2.2.2 f hf).1.trans hfb.1
        rw [if_neg (show ¬ (5 : Int32) ≤ nI (gcN (hM M0 r) (nI f) m) from nI_ge (b := 5) (by omega) (by omega)), ix5, if_neg (nI_in (N := 10) (by omega) (by omega)), if_neg (nI_in (N := 60) (by omega) (by omega)), nI_clamp (n := 5 * r + gcN (hM M0 r) (nI f) m) (by omega), nI_clamp (n := f) (by omega), e7, pk_sub hjs, nI_1]
        have fr : gaM M (sta (sta (sta M 19 (5 * r + gcN (hM M0 r) (nI f) m) (nI m)) 20 (5 * r + gcN (hM M0 r) (nI f) m) (nI (wayM M0 r m - jsN M0 r f))) 18 r (nI (gcN (hM M0 r) (nI f) m + 1))) r := by
          refine ⟨rfl, fun a q => by rw [sta_ne (by omega), sta_ne (by omega), sta_ne (by omega)], fun q hq => by rw [sta_ne2 hq, sta_ne (by decide), sta_ne (by decide)], fun x hx => ⟨?_, ?_⟩⟩
          · rw [sta_ne (a := 19) (by decide), sta_ne (a := 19) (by decide), sta_ne2 (by omega)]
          · rw [sta_ne (a := 20) (by decide), sta_ne2 (by omega), sta_ne (a := 20) (by decide)]
        obtain ⟨M', a1, a2, a3, a4⟩ := ih fl (m + 1) (sta (sta (sta M 19 (5 * r + gcN (hM M0 r) (nI f) m) (nI m)) 20 (5 * r + gcN (hM M0 r) (nI f) m) (nI (wayM M0 r m - jsN M0 r f))) 18 r (nI (gcN (hM M0 r) (nI f) m + 1))) (by omega) (by omega) (hF1.ga fr) ((fr.2.1 12 (by decide)).trans h12) ((fr.2.1 13 (by decide)).trans h13) (by rw [sta_eq, y1]) (fun i hi => by
          rw [y1] at hi
          show (sta (sta (sta M 19 (5 * r + gcN (hM M0 r) (nI f) m) (nI m)) 20 (5 * r + gcN (hM M0 r) (nI f) m) (nI (wayM M0 r m - jsN M0 r f))) 18 r (nI (gcN (hM M0 r) (nI f) m + 1))).2 19 (5 * r + i) = _ ∧ (sta (sta (sta M 19 (5 * r + gcN (hM M0 r) (nI f) m) (nI m)) 20 (5 * r + gcN (hM M0 r) (nI f) m) (nI (wayM M0 r m - jsN M0 r f))) 18 r (nI (gcN (hM M0 r) (nI f) m + 1))).2 20 (5 * r + i) = _
          rw [y2 i, sta_ne (a := 19) (by decide), sta_ne (a := 19) (by decide), sta_ne (a := 20) (by decide)]
          by_cases e : i = gcN (hM M0 r) (nI f) m
          · rw [if_pos e, e, sta_eq, sta_eq, nI_clamp (by omega)]
            exact ⟨rfl, rfl⟩
          · rw [if_neg e, sta_ne2 (by omega), sta_ne2 (by omega), sta_ne (a := 20) (by decide)]
            exact hro i (by omega))
        exact ⟨M', a1, fr.trans a2, a3, a4⟩
    · obtain ⟨y1, y2⟩ := gc_no (h := hM M0 r) (p := nI f) (m := m) (fun q => c q.1)
      rw [if_neg c]
      exact ih fl (m + 1) M (by omega) (by omega) hF1 h12 h13 (by rw [y1]; exact h18) (fun i hi => by rw [y1] at hi; rw [y2 i]; exact hro i hi)
theorem gather_M (nF : Nat) (hF : 1000 ≤ nF) {M0 S0 M : PS} {r : Nat} {p v1 : Int32} (k2 : PS → Int32 → Int32 → Option PS) (hr : r < 2) (hR : IR S0 M0) (hK : IK S0 M0) (hf : FeltM M M0 r) (h12 : M.2 12 = M0.2 12) (h13 : M.2 13 = M0.2 13) (h18 : M.2 18 r = 0) (hp : p = -1 ∨ ∃ f, f < jN M0 r ∧ p = nI f) : ∃ M', LX10_gather_29 nF k2 nF M v1 (nI r) p 0 = k2 M' v1 (nI (r + 1)) ∧ gaM M M' r ∧ M'.2 18 r = nI (nG M0 r p) ∧ (∀ i, i < nG M0 r p → M'.2 19 (5 * r + i) = nI (gmG M0 r p i) ∧ M'.2 20 (5 * r + i) = nI (dG M0 r p i)) := by
  have hJ := jN_le M0 r
  obtain ⟨n1, n2, n3, n4⟩ := hK.nat hr
  rcases hp with rfl | ⟨f, h1, rfl⟩
  · refine ⟨M, ?_, gaM.rfl', ?_, fun i hi => ?_⟩
    · obtain ⟨k, rfl⟩ : ∃ k, nF = k + 1 := ⟨nF - 1, by omega⟩
      rw [LX10_gather_29, if_neg (nI_in (N := 2) (by omega) (by omega)), nI_clamp (n := r) (by omega), if_pos rfl, BX10_gather_136, nI_1]
      split <;> rfl
    · rw [h18, nG, if_pos rfl]; rfl
    · rw [nG, if_pos rfl] at hi; omega
  · have hn : ¬ nI f = -1 := nI_ne_m1 (by omega)
    obtain ⟨M', a1, a2, a3, a4⟩ := gatM_loop nF hF k2 (v1 := v1) hr hR hK h1 (nMk M0 r) nF 0 M (by omega) (by omega) hf h12 h13 h18 (fun i hi => absurd hi (Nat.not_lt_zero _))
    refine ⟨M', a1, a2, ?_, fun i hi => ?_⟩
    · rw [a3, nG, if_neg hn]
    · rw [nG, if_neg hn] at hi
      exact a4 i hi
