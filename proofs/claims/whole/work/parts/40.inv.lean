/-! the relation between the class' state S and the reference's state M -/
abbrev btw (x : Int32) (a b : Int) : Prop := a ≤ x.toInt ∧ x.toInt ≤ b
theorem sti_ne {S : PS} {j i : Nat} {v : Int32} {a b : Nat} (h : ¬ (a = j ∧ b = i)) : (sti S j i v).1 a b = S.1 a b := if_neg h
theorem sti_eq {S : PS} {j i : Nat} {v : Int32} : (sti S j i v).1 j i = v := if_pos ⟨rfl, rfl⟩
theorem sti_2 {S : PS} {j i : Nat} {v : Int32} : (sti S j i v).2 = S.2 := rfl
theorem sta_1 {S : PS} {j i : Nat} {v : Int32} : (sta S j i v).1 = S.1 := rfl
theorem sta_ne {S : PS} {j i : Nat} {v : Int32} {a : Nat} (h : ¬ a = j) : (sta S j i v).2 a = S.2 a := up2_ne h
theorem sta_eq {S : PS} {j i : Nat} {v : Int32} : (sta S j i v).2 j i = v := if_pos ⟨rfl, rfl⟩
theorem sta_ne2 {S : PS} {j i : Nat} {v : Int32} {a b : Nat} (h : ¬ b = i) : (sta S j i v).2 a b = S.2 a b := if_neg (fun q => h q.2)
theorem sta_r {S : PS} {j i : Nat} {v : Int32} {a b : Nat} : (sta S j i v).2 a b = if a = j ∧ b = i then v else S.2 a b := rfl
def reelOK (S M : PS) (q : Nat) : Prop := (S.1 (3 + q) 1 = -1 ∧ S.1 (3 + q) 2 = 0 ∧ M.2 1 q = 0) ∨ (M.2 1 q = 1 ∧ S.1 (3 + q) 1 = M.2 2 q ∧ btw (M.2 2 q) 0 2 ∧ S.1 (3 + q) 2 = M.2 3 q ∧ btw (M.2 3 q) 0 150 ∧ ∀ i : Nat, (i : Int) < (M.2 3 q).toInt → S.2 (11 + q) i = M.2 4 (150 * q + i))
def IR (S M : PS) : Prop := ∀ q, q < 8 → reelOK S M q
def IN (S M : PS) : Prop := S.1 0 9 = M.1 0 5 ∧ S.1 0 7 = M.1 0 23 ∧ btw (M.1 0 23) 0 100000 ∧ S.1 0 8 = M.1 0 24 ∧ btw (M.1 0 24) 0 6 ∧ S.1 44 3 = M.1 0 27 ∧ btw (M.1 0 27) 0 100000
def IT (S M : PS) : Prop := S.1 54 0 = M.1 0 33 ∧ btw (M.1 0 33) 1 50 ∧ S.1 54 1 = M.1 0 34 ∧ btw (M.1 0 34) 0 50 ∧ S.1 54 2 = M.1 0 35 ∧ btw (M.1 0 35) 0 100
def IB (S M : PS) : Prop := S.1 41 2 = M.1 0 12 ∧ btw (M.1 0 12) 0 40 ∧ (∀ j : Nat, (j : Int) < (M.1 0 12).toInt → S.2 42 j = M.2 9 j ∧ btw (M.2 9 j) 1 100000) ∧ S.1 41 3 = M.1 0 14 ∧ btw (M.1 0 14) 0 1000000 ∧ S.1 41 4 = M.1 0 15 ∧ btw (M.1 0 15) 0 1000000
def markOK (S M : PS) (r i : Nat) : Prop := S.2 (21 + r) i = M.2 13 (40 * r + i) ∧ S.2 (23 + r) i = M.2 14 (40 * r + i) ∧ S.2 (25 + r) i = M.2 15 (40 * r + i) ∧ S.2 (27 + r) i = M.2 16 (40 * r + i) ∧ btw (M.2 13 (40 * r + i)) 0 4000000 ∧ btw (M.2 14 (40 * r + i)) 0 11 ∧ btw (M.2 15 (40 * r + i)) 0 100 ∧ btw (M.2 16 (40 * r + i)) 0 10000
def IK (S M : PS) : Prop := ∀ r, r < 2 → S.1 (19 + r) 6 = M.2 12 r ∧ btw (M.2 12 r) 0 40 ∧ ∀ i : Nat, (i : Int) < (M.2 12 r).toInt → markOK S M r i
/-- how many of the first n of a row are y -/
def cntY (f : Nat → Int32) (y : Int32) : Nat → Nat
  | 0 => 0
  | n + 1 => cntY f y n + (if f n = y then 1 else 0)
def sumC (f : Nat → Int32) : Nat → Int32
  | 0 => 0
  | n + 1 => sumC f n + f n
def IW (S M : PS) : Prop := S.1 55 2 = M.1 0 36 ∧ btw (M.1 0 36) 0 30 ∧ (∀ w : Nat, (w : Int) < (M.1 0 36).toInt → S.2 56 w = M.2 24 w ∧ btw (M.2 24 w) 1 8 ∧ btw (M.2 23 w) 1 1000) ∧ (∀ y : Nat, y < 9 → S.2 57 y = nI (cntY (M.2 24) (nI y) (M.1 0 36).toNatClampNeg)) ∧ S.1 55 3 = sumC (M.2 23) (M.1 0 36).toNatClampNeg ∧ S.1 55 4 = M.1 0 39 ∧ btw (M.1 0 39) 1 30 ∧ S.1 55 5 = M.1 0 40 ∧ btw (M.1 0 40) 0 10000
def IV (S M : PS) : Prop := (∀ k, k < 4 → M.2 25 k = 0 ∨ M.2 25 k = 1) ∧ S.1 58 0 = ((M.2 25 0 + 2 * M.2 25 1) + 4 * M.2 25 2) + 8 * M.2 25 3 ∧ S.1 58 1 = M.1 0 42 ∧ (M.1 0 42 = 0 ∨ M.1 0 42 = 1)
def Inv (S M : PS) : Prop := IR S M ∧ IN S M ∧ IT S M ∧ IB S M ∧ IK S M ∧ IW S M ∧ IV S M
-- what a change elsewhere leaves as it was
theorem IR.congr {S S' M M' : PS} (h : IR S M) (h1 : ∀ q, q < 8 → S'.1 (3 + q) 1 = S.1 (3 + q) 1 ∧ S'.1 (3 + q) 2 = S.1 (3 + q) 2 ∧ S'.2 (11 + q) = S.2 (11 + q)) (h2 : M'.2 1 = M.2 1 ∧ M'.2 2 = M.2 2 ∧ M'.2 3 = M.2 3 ∧ M'.2 4 = M.2 4) : IR S' M' := by
  intro q hq
  obtain ⟨a, b, c⟩ := h1 q hq
  have := h q hq
  unfold reelOK at this ⊢
  rw [a, b, c, h2.1, h2.2.1, h2.2.2.1, h2.2.2.2]
  exact this
theorem IR.stiS {S M : PS} {j i : Nat} {v : Int32} (hj : ¬ (3 ≤ j ∧ j < 11)) (h : IR S M) : IR (sti S j i v) M := h.congr (fun q hq => ⟨sti_ne (by omega), sti_ne (by omega), rfl⟩) ⟨rfl, rfl, rfl, rfl⟩
theorem IR.staS {S M : PS} {j i : Nat} {v : Int32} (hj : ¬ (11 ≤ j ∧ j < 19)) (h : IR S M) : IR (sta S j i v) M := h.congr (fun q hq => ⟨rfl, rfl, sta_ne (by omega)⟩) ⟨rfl, rfl, rfl, rfl⟩
theorem IR.stiM {S M : PS} {j i : Nat} {v : Int32} (h : IR S M) : IR S (sti M j i v) := h.congr (fun q hq => ⟨rfl, rfl, rfl⟩) ⟨rfl, rfl, rfl, rfl⟩
theorem IR.staM {S M : PS} {j i : Nat} {v : Int32} (hj : ¬ (1 ≤ j ∧ j ≤ 4)) (h : IR S M) : IR S (sta M j i v) := h.congr (fun q hq => ⟨rfl, rfl, rfl⟩) ⟨sta_ne (by omega), sta_ne (by omega), sta_ne (by omega), sta_ne (by omega)⟩
theorem IN.stiS {S M : PS} {j i : Nat} {v : Int32} (hj : j ≠ 0 ∧ j ≠ 44) (h : IN S M) : IN (sti S j i v) M := by
  unfold IN at h ⊢
  rw [sti_ne (by omega), sti_ne (by omega), sti_ne (by omega), sti_ne (by omega)]
  exact h
theorem IN.staS {S M : PS} {j i : Nat} {v : Int32} (h : IN S M) : IN (sta S j i v) M := h
theorem IN.stiM {S M : PS} {j i : Nat} {v : Int32} (hj : j ≠ 0 ∨ (i ≠ 5 ∧ i ≠ 23 ∧ i ≠ 24 ∧ i ≠ 27)) (h : IN S M) : IN S (sti M j i v) := by
  unfold IN at h ⊢
  rw [sti_ne (S := M) (a := 0) (b := 5) (by omega), sti_ne (S := M) (a := 0) (b := 23) (by omega), sti_ne (S := M) (a := 0) (b := 24) (by omega), sti_ne (S := M) (a := 0) (b := 27) (by omega)]
  exact h
theorem IN.staM {S M : PS} {j i : Nat} {v : Int32} (h : IN S M) : IN S (sta M j i v) := h
theorem IT.stiS {S M : PS} {j i : Nat} {v : Int32} (hj : j ≠ 54) (h : IT S M) : IT (sti S j i v) M := by
  unfold IT at h ⊢
  rw [sti_ne (by omega), sti_ne (by omega), sti_ne (by omega)]
  exact h
theorem IT.staS {S M : PS} {j i : Nat} {v : Int32} (h : IT S M) : IT (sta S j i v) M := h
theorem IT.stiM {S M : PS} {j i : Nat} {v : Int32} (hj : j ≠ 0 ∨ (i ≠ 33 ∧ i ≠ 34 ∧ i ≠ 35)) (h : IT S M) : IT S (sti M j i v) := by
  unfold IT at h ⊢
  rw [sti_ne (S := M) (a := 0) (b := 33) (by omega), sti_ne (S := M) (a := 0) (b := 34) (by omega), sti_ne (S := M) (a := 0) (b := 35) (by omega)]
  exact h
theorem IT.staM {S M : PS} {j i : Nat} {v : Int32} (h : IT S M) : IT S (sta M j i v) := h
theorem IB.stiS {S M : PS} {j i : Nat} {v : Int32} (hj : j ≠ 41) (h : IB S M) : IB (sti S j i v) M := by
  unfold IB at h ⊢
  rw [sti_ne (by omega), sti_ne (by omega), sti_ne (by omega)]
  exact h
theorem IB.staS {S M : PS} {j i : Nat} {v : Int32} (hj : j ≠ 42) (h : IB S M) : IB (sta S j i v) M := by
  unfold IB at h ⊢
  rw [sta_ne (by omega)]
  exact h
theorem IB.stiM {S M : PS} {j i : Nat} {v : Int32} (hj : j ≠ 0 ∨ (i ≠ 12 ∧ i ≠ 14 ∧ i ≠ 15)) (h : IB S M) : IB S (sti M j i v) := by
  unfold IB at h ⊢
  rw [sti_ne (S := M) (a := 0) (b := 12) (by omega), sti_ne (S := M) (a := 0) (b := 14) (by omega), sti_ne (S := M) (a := 0) (b := 15) (by omega)]
  exact h
theorem IB.staM {S M : PS} {j i : Nat} {v : Int32} (hj : j ≠ 9) (h : IB S M) : IB S (sta M j i v) := by
  unfold IB at h ⊢
  rw [sta_ne (S := M) (by omega)]
  exact h
theorem IK.congr {S S' M M' : PS} (h : IK S M) (h1 : ∀ r, r < 2 → S'.1 (19 + r) 6 = S.1 (19 + r) 6 ∧ S'.2 (21 + r) = S.2 (21 + r) ∧ S'.2 (23 + r) = S.2 (23 + r) ∧ S'.2 (25 + r) = S.2 (25 + r) ∧ S'.2 (27 + r) = S.2 (27 + r)) (h2 : M'.2 12 = M.2 12 ∧ M'.2 13 = M.2 13 ∧ M'.2 14 = M.2 14 ∧ M'.2 15 = M.2 15 ∧ M'.2 16 = M.2 16) : IK S' M' := by
  intro r hr
  obtain ⟨a, b, c, d, e⟩ := h1 r hr
  have := h r hr
  unfold markOK at this ⊢
  rw [a, b, c, d, e, h2.1, h2.2.1, h2.2.2.1, h2.2.2.2.1, h2.2.2.2.2]
  exact this
theorem IK.stiS {S M : PS} {j i : Nat} {v : Int32} (hj : ¬ ((j = 19 ∨ j = 20) ∧ i = 6)) (h : IK S M) : IK (sti S j i v) M := h.congr (fun q hq => ⟨sti_ne (by omega), rfl, rfl, rfl, rfl⟩) ⟨rfl, rfl, rfl, rfl, rfl⟩
theorem IK.staS {S M : PS} {j i : Nat} {v : Int32} (hj : ¬ (21 ≤ j ∧ j < 29)) (h : IK S M) : IK (sta S j i v) M := h.congr (fun q hq => ⟨rfl, sta_ne (by omega), sta_ne (by omega), sta_ne (by omega), sta_ne (by omega)⟩) ⟨rfl, rfl, rfl, rfl, rfl⟩
theorem IK.stiM {S M : PS} {j i : Nat} {v : Int32} (h : IK S M) : IK S (sti M j i v) := h.congr (fun q hq => ⟨rfl, rfl, rfl, rfl, rfl⟩) ⟨rfl, rfl, rfl, rfl, rfl⟩
theorem IK.staM {S M : PS} {j i : Nat} {v : Int32} (hj : ¬ (12 ≤ j ∧ j ≤ 16)) (h : IK S M) : IK S (sta M j i v) := h.congr (fun q hq => ⟨rfl, rfl, rfl, rfl, rfl⟩) ⟨sta_ne (by omega), sta_ne (by omega), sta_ne (by omega), sta_ne (by omega), sta_ne (by omega)⟩
theorem IW.stiS {S M : PS} {j i : Nat} {v : Int32} (hj : j ≠ 55) (h : IW S M) : IW (sti S j i v) M := by
  unfold IW at h ⊢
  rw [sti_ne (by omega), sti_ne (by omega), sti_ne (by omega), sti_ne (by omega)]
  exact h
theorem IW.staS {S M : PS} {j i : Nat} {v : Int32} (hj : j ≠ 56 ∧ j ≠ 57) (h : IW S M) : IW (sta S j i v) M := by
  unfold IW at h ⊢
  rw [sta_ne (a := 56) (by omega), sta_ne (a := 57) (by omega)]
  exact h
theorem IW.stiM {S M : PS} {j i : Nat} {v : Int32} (hj : j ≠ 0 ∨ (i ≠ 36 ∧ i ≠ 39 ∧ i ≠ 40)) (h : IW S M) : IW S (sti M j i v) := by
  unfold IW at h ⊢
  rw [sti_ne (S := M) (a := 0) (b := 36) (by omega), sti_ne (S := M) (a := 0) (b := 39) (by omega), sti_ne (S := M) (a := 0) (b := 40) (by omega)]
  exact h
theorem IW.staM {S M : PS} {j i : Nat} {v : Int32} (hj : j ≠ 23 ∧ j ≠ 24) (h : IW S M) : IW S (sta M j i v) := by
  unfold IW at h ⊢
  rw [sta_ne (S := M) (a := 23) (by omega), sta_ne (S := M) (a := 24) (by omega)]
  exact h
theorem IV.stiS {S M : PS} {j i : Nat} {v : Int32} (hj : j ≠ 58) (h : IV S M) : IV (sti S j i v) M := by
  unfold IV at h ⊢
  rw [sti_ne (by omega), sti_ne (by omega)]
  exact h
theorem IV.staS {S M : PS} {j i : Nat} {v : Int32} (h : IV S M) : IV (sta S j i v) M := h
theorem IV.stiM {S M : PS} {j i : Nat} {v : Int32} (hj : j ≠ 0 ∨ i ≠ 42) (h : IV S M) : IV S (sti M j i v) := by
  unfold IV at h ⊢
  rw [sti_ne (S := M) (a := 0) (b := 42) (by omega)]
  exact h
theorem IV.staM {S M : PS} {j i : Nat} {v : Int32} (hj : j ≠ 25) (h : IV S M) : IV S (sta M j i v) := by
  unfold IV at h ⊢
  rw [sta_ne (S := M) (by omega)]
  exact h
theorem inv0 : Inv S0 M0 := by
  refine ⟨fun q hq => ?_, ?_, ?_, ?_, fun r hr => ?_, ?_, ?_⟩
  · rcases (show q = 0 ∨ q = 1 ∨ q = 2 ∨ q = 3 ∨ q = 4 ∨ q = 5 ∨ q = 6 ∨ q = 7 by omega) with rfl | rfl | rfl | rfl | rfl | rfl | rfl | rfl <;> exact Or.inl ⟨rfl, rfl, rfl⟩
  · exact ⟨rfl, rfl, by decide, rfl, by decide, rfl, by decide⟩
  · exact ⟨rfl, by decide, rfl, by decide, rfl, by decide⟩
  · exact ⟨rfl, by decide, fun j hj => absurd hj (by have : (M0.1 0 12).toInt = 0 := rfl; omega), rfl, by decide, rfl, by decide⟩
  · rcases (show r = 0 ∨ r = 1 by omega) with rfl | rfl <;> exact ⟨rfl, by decide, fun j hj => absurd hj (by have : (0 : Int32).toInt = 0 := rfl; have h2 : (M0.2 12 0).toInt = 0 := rfl; have h3 : (M0.2 12 1).toInt = 0 := rfl; omega)⟩
  · exact ⟨rfl, by decide, fun j hj => absurd hj (by have : (M0.1 0 36).toInt = 0 := rfl; omega), fun y _ => rfl, rfl, rfl, by decide, rfl, by decide⟩
  · refine ⟨fun k hk => ?_, rfl, rfl, Or.inl rfl⟩
    rcases (show k = 0 ∨ k = 1 ∨ k = 2 ∨ k = 3 by omega) with rfl | rfl | rfl | rfl
    · exact Or.inl rfl
    · exact Or.inl rfl
    · exact Or.inr rfl
    · exact Or.inl rfl
