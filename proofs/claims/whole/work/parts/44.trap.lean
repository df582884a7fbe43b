/-! the trap -/
theorem row_sta {M : PS} {j i : Nat} {v : Int32} : (sta M j i v).2 j = upd (M.2 j) i v := up2_row
abbrev bsum (f : Nat → Int32) : Int32 := ((f 0 + 2 * f 1) + 4 * f 2) + 8 * f 3
theorem IV_set {S M : PS} {k : Nat} {v : Int32} (hv : v = 0 ∨ v = 1) (h : IV S M) : IV (sti S 58 0 (bsum (upd (M.2 25) k v))) (sta M 25 k v) := by
  obtain ⟨h1, h2, h3, h4⟩ := h
  refine ⟨fun i hi => ?_, ?_, h3, h4⟩
  · rw [row_sta, upd]
    split
    · exact hv
    · exact h1 i hi
  · rw [row_sta]; rfl
theorem IV_p {S M : PS} {p : Int32} (hp : p = 0 ∨ p = 1) (h : IV S M) : IV (sti S 58 1 p) (sti M 0 42 p) := ⟨h.1, h.2.1, rfl, hp⟩
theorem Inv_trap {S M S' M' : PS} (hI : Inv S M) (hS : ∀ a b, a ≠ 58 → S'.1 a b = S.1 a b) (hS2 : S'.2 = S.2) (hM : ∀ b, b ≠ 42 → M'.1 0 b = M.1 0 b) (hM2 : ∀ a, a ≠ 25 → M'.2 a = M.2 a) (hV : IV S' M') : Inv S' M' := by
  obtain ⟨hR, hN, hT, hB, hK, hW, -⟩ := hI
  refine ⟨hR.congr (fun q hq => ⟨hS _ _ (by omega), hS _ _ (by omega), by rw [hS2]⟩) ⟨hM2 _ (by decide), hM2 _ (by decide), hM2 _ (by decide), hM2 _ (by decide)⟩, ?_, ?_, ?_, hK.congr (fun r hr => ⟨hS _ _ (by omega), by rw [hS2], by rw [hS2], by rw [hS2], by rw [hS2]⟩) ⟨hM2 _ (by decide), hM2 _ (by decide), hM2 _ (by decide), hM2 _ (by decide), hM2 _ (by decide)⟩, ?_, hV⟩
  · unfold IN at hN ⊢
    rw [hS 0 9 (by decide), hS 0 7 (by decide), hS 0 8 (by decide), hS 44 3 (by decide), hM 5 (by decide), hM 23 (by decide), hM 24 (by decide), hM 27 (by decide)]
    exact hN
  · unfold IT at hT ⊢
    rw [hS 54 0 (by decide), hS 54 1 (by decide), hS 54 2 (by decide), hM 33 (by decide), hM 34 (by decide), hM 35 (by decide)]
    exact hT
  · unfold IB at hB ⊢
    rw [hS 41 2 (by decide), hS 41 3 (by decide), hS 41 4 (by decide), hS2, hM 12 (by decide), hM 14 (by decide), hM 15 (by decide), hM2 9 (by decide)]
    exact hB
  · unfold IW at hW ⊢
    rw [hS 55 2 (by decide), hS 55 3 (by decide), hS 55 4 (by decide), hS 55 5 (by decide), hS2, hM 36 (by decide), hM 39 (by decide), hM 40 (by decide), hM2 23 (by decide), hM2 24 (by decide)]
    exact hW
theorem isOpen_0 {S M : PS} (h : IV S M) : fX8_isOpen S 0 = M.2 25 0 := by
  unfold fX8_isOpen
  rw [h.2.1]
  rcases h.1 0 (by decide) with h0 | h0 <;> rcases h.1 1 (by decide) with h1 | h1 <;> rcases h.1 2 (by decide) with h2 | h2 <;> rcases h.1 3 (by decide) with h3 | h3 <;> (rw [h0, h1, h2, h3]; rfl)
theorem shut_0 {S M : PS} (h : IV S M) : fX8_shut S 0 = sti S 58 0 (bsum (upd (M.2 25) 0 0)) := by
  have e : (S.1 58 0 &&& (((1 : Int32) <<< ((0 : Int32) &&& 31)) ^^^ (-1 : Int32))) = ((0 + 2 * M.2 25 1) + 4 * M.2 25 2) + 8 * M.2 25 3 := by
    rw [h.2.1]
    rcases h.1 0 (by decide) with h0 | h0 <;> rcases h.1 1 (by decide) with h1 | h1 <;> rcases h.1 2 (by decide) with h2 | h2 <;> rcases h.1 3 (by decide) with h3 | h3 <;> (rw [h0, h1, h2, h3]; rfl)
  rw [fX8_shut, e]
  rfl
theorem bop_0 {S M : PS} (h : IV S M) : (S.1 58 0 ||| ((1 : Int32) <<< ((0 : Int32) &&& 31))) = bsum (upd (M.2 25) 0 1) := by
  show _ = ((1 + 2 * M.2 25 1) + 4 * M.2 25 2) + 8 * M.2 25 3
  rw [h.2.1]
  rcases h.1 0 (by decide) with h0 | h0 <;> rcases h.1 1 (by decide) with h1 | h1 <;> rcases h.1 2 (by decide) with h2 | h2 <;> rcases h.1 3 (by decide) with h3 | h3 <;> (rw [h0, h1, h2, h3]; rfl)
theorem isOpen_1 {S M : PS} (h : IV S M) : fX8_isOpen S 1 = M.2 25 1 := by
  unfold fX8_isOpen
  rw [h.2.1]
  rcases h.1 0 (by decide) with h0 | h0 <;> rcases h.1 1 (by decide) with h1 | h1 <;> rcases h.1 2 (by decide) with h2 | h2 <;> rcases h.1 3 (by decide) with h3 | h3 <;> (rw [h0, h1, h2, h3]; rfl)
theorem shut_1 {S M : PS} (h : IV S M) : fX8_shut S 1 = sti S 58 0 (bsum (upd (M.2 25) 1 0)) := by
  have e : (S.1 58 0 &&& (((1 : Int32) <<< ((1 : Int32) &&& 31)) ^^^ (-1 : Int32))) = ((M.2 25 0 + 2 * 0) + 4 * M.2 25 2) + 8 * M.2 25 3 := by
    rw [h.2.1]
    rcases h.1 0 (by decide) with h0 | h0 <;> rcases h.1 1 (by decide) with h1 | h1 <;> rcases h.1 2 (by decide) with h2 | h2 <;> rcases h.1 3 (by decide) with h3 | h3 <;> (rw [h0, h1, h2, h3]; rfl)
  rw [fX8_shut, e]
  rfl
theorem bop_1 {S M : PS} (h : IV S M) : (S.1 58 0 ||| ((1 : Int32) <<< ((1 : Int32) &&& 31))) = bsum (upd (M.2 25) 1 1) := by
  show _ = ((M.2 25 0 + 2 * 1) + 4 * M.2 25 2) + 8 * M.2 25 3
  rw [h.2.1]
  rcases h.1 0 (by decide) with h0 | h0 <;> rcases h.1 1 (by decide) with h1 | h1 <;> rcases h.1 2 (by decide) with h2 | h2 <;> rcases h.1 3 (by decide) with h3 | h3 <;> (rw [h0, h1, h2, h3]; rfl)
theorem isOpen_2 {S M : PS} (h : IV S M) : fX8_isOpen S 2 = M.2 25 2 := by
  unfold fX8_isOpen
  rw [h.2.1]
  rcases h.1 0 (by decide) with h0 | h0 <;> rcases h.1 1 (by decide) with h1 | h1 <;> rcases h.1 2 (by decide) with h2 | h2 <;> rcases h.1 3 (by decide) with h3 | h3 <;> (rw [h0, h1, h2, h3]; rfl)
theorem shut_2 {S M : PS} (h : IV S M) : fX8_shut S 2 = sti S 58 0 (bsum (upd (M.2 25) 2 0)) := by
  have e : (S.1 58 0 &&& (((1 : Int32) <<< ((2 : Int32) &&& 31)) ^^^ (-1 : Int32))) = ((M.2 25 0 + 2 * M.2 25 1) + 4 * 0) + 8 * M.2 25 3 := by
    rw [h.2.1]
    rcases h.1 0 (by decide) with h0 | h0 <;> rcases h.1 1 (by decide) with h1 | h1 <;> rcases h.1 2 (by decide) with h2 | h2 <;> rcases h.1 3 (by decide) with h3 | h3 <;> (rw [h0, h1, h2, h3]; rfl)
  rw [fX8_shut, e]
  rfl
theorem bop_2 {S M : PS} (h : IV S M) : (S.1 58 0 ||| ((1 : Int32) <<< ((2 : Int32) &&& 31))) = bsum (upd (M.2 25) 2 1) := by
  show _ = ((M.2 25 0 + 2 * M.2 25 1) + 4 * 1) + 8 * M.2 25 3
  rw [h.2.1]
  rcases h.1 0 (by decide) with h0 | h0 <;> rcases h.1 1 (by decide) with h1 | h1 <;> rcases h.1 2 (by decide) with h2 | h2 <;> rcases h.1 3 (by decide) with h3 | h3 <;> (rw [h0, h1, h2, h3]; rfl)
theorem isOpen_3 {S M : PS} (h : IV S M) : fX8_isOpen S 3 = M.2 25 3 := by
  unfold fX8_isOpen
  rw [h.2.1]
  rcases h.1 0 (by decide) with h0 | h0 <;> rcases h.1 1 (by decide) with h1 | h1 <;> rcases h.1 2 (by decide) with h2 | h2 <;> rcases h.1 3 (by decide) with h3 | h3 <;> (rw [h0, h1, h2, h3]; rfl)
theorem shut_3 {S M : PS} (h : IV S M) : fX8_shut S 3 = sti S 58 0 (bsum (upd (M.2 25) 3 0)) := by
  have e : (S.1 58 0 &&& (((1 : Int32) <<< ((3 : Int32) &&& 31)) ^^^ (-1 : Int32))) = ((M.2 25 0 + 2 * M.2 25 1) + 4 * M.2 25 2) + 8 * 0 := by
    rw [h.2.1]
    rcases h.1 0 (by decide) with h0 | h0 <;> rcases h.1 1 (by decide) with h1 | h1 <;> rcases h.1 2 (by decide) with h2 | h2 <;> rcases h.1 3 (by decide) with h3 | h3 <;> (rw [h0, h1, h2, h3]; rfl)
  rw [fX8_shut, e]
  rfl
theorem bop_3 {S M : PS} (h : IV S M) : (S.1 58 0 ||| ((1 : Int32) <<< ((3 : Int32) &&& 31))) = bsum (upd (M.2 25) 3 1) := by
  show _ = ((M.2 25 0 + 2 * M.2 25 1) + 4 * M.2 25 2) + 8 * 1
  rw [h.2.1]
  rcases h.1 0 (by decide) with h0 | h0 <;> rcases h.1 1 (by decide) with h1 | h1 <;> rcases h.1 2 (by decide) with h2 | h2 <;> rcases h.1 3 (by decide) with h3 | h3 <;> (rw [h0, h1, h2, h3]; rfl)
theorem sim_trap_ok (nF : Nat) : sim_trap nF Inv := by
  intro S M a1 a2 ha hI
  have hI0 := hI
  obtain ⟨hR, hN, hT, hB, hK, hW, hV⟩ := hI
  by_cases c1 : fX10_in M a1 0 3 = 0
  · exact ⟨-2, S, M, by rw [fX9_trap, if_pos (inW.trans c1)], by rw [fX10_trap, if_pos c1], hI0⟩
  have hb : btw a1 0 3 := in_btw c1
  have hk : ¬ (a1.toInt < 0 ∨ 3 < a1.toInt) := by have := hb.1; have := hb.2; omega
  obtain h | h | h | h := sw0_4 hk
  · subst h
    by_cases c2 : M.2 25 0 = a2
    · refine ⟨0, S, M, ?_, ?_, hI0⟩
      · show (if fX8_isOpen S 0 = a2 then ((0 : Int32), S) else _) = _
        rw [if_pos ((isOpen_0 hV).trans c2)]
      · show (if M.2 25 0 = a2 then some ((0 : Int32), M) else _) = _
        rw [if_pos c2]
    have c2' : ¬ fX8_isOpen S 0 = a2 := fun q => c2 ((isOpen_0 hV).symm.trans q)
    rcases ha with ha | ha
    · subst ha
      refine ⟨1, sti S 58 0 (bsum (upd (M.2 25) 0 0)), sta M 25 0 0, ?_, ?_, Inv_trap hI0 (fun a b h => sti_ne (fun q => h q.1)) rfl (fun b h => rfl) (fun a h => sta_ne h) (IV_set (Or.inl rfl) hV)⟩
      · show (if fX8_isOpen S 0 = 0 then _ else ((1 : Int32), fX8_shut S 0)) = _
        rw [if_neg c2', shut_0 hV]
      · show (if M.2 25 0 = 0 then _ else some ((1 : Int32), sta M 25 0 0)) = _
        rw [if_neg c2]
    · subst ha
      have m9 : fX8_mayOpen S 0 = (if M.2 25 3 = 0 then (if M.2 25 2 = 0 then (1 : Int32) else 0) else 0) := by
        show (if fX8_isOpen S 3 = 0 then (if fX8_isOpen S 2 = 0 then (1 : Int32) else 0) else 0) = _
        rw [isOpen_3 hV, isOpen_2 hV]
      have m10 : fX10_mayOpen nF M 0 = some (if M.2 25 3 = 0 then (if M.2 25 2 = 0 then (1 : Int32) else 0) else 0) := by
        show (if M.2 25 3 = 0 then (if M.2 25 2 = 0 then some (1 : Int32) else some 0) else some 0) = _
        split
        · split <;> rfl
        · rfl
      generalize (if M.2 25 3 = 0 then (if M.2 25 2 = 0 then (1 : Int32) else 0) else 0) = z at m9 m10
      by_cases cz : z = 0
      · refine ⟨-4, S, M, ?_, ?_, hI0⟩
        · show (if fX8_isOpen S 0 = 1 then _ else (if fX8_mayOpen S 0 = 0 then ((-4 : Int32), S) else _)) = _
          rw [if_neg c2', m9, if_pos cz]
        · show (if M.2 25 0 = 1 then _ else ((fX10_mayOpen nF M 0).bind fun r1 => if r1 = (0 : Int32) then some ((-4 : Int32), M) else _)) = _
          rw [if_neg c2, m10, Option.bind_some, if_pos cz]
      · refine ⟨1, sti (sti S 58 0 (bsum (upd (M.2 25) 0 1))) 58 1 1, sti (sta M 25 0 1) 0 42 1, ?_, ?_, Inv_trap hI0 (fun a b h => (sti_ne (fun q => h q.1)).trans (sti_ne (fun q => h q.1))) rfl (fun b h => sti_ne (fun q => h q.2)) (fun a h => sta_ne h) (IV_p (by decide) (IV_set (Or.inr rfl) hV))⟩
        · show (if fX8_isOpen S 0 = 1 then _ else (if fX8_mayOpen S 0 = 0 then _ else ((1 : Int32), sti (sti S 58 0 (S.1 58 0 ||| ((1 : Int32) <<< ((0 : Int32) &&& 31)))) 58 1 1))) = _
          rw [if_neg c2', m9, if_neg cz, bop_0 hV]
        · show (if M.2 25 0 = 1 then _ else ((fX10_mayOpen nF M 0).bind fun r1 => if r1 = (0 : Int32) then _ else some ((1 : Int32), sti (sta M 25 0 1) 0 42 1))) = _
          rw [if_neg c2, m10, Option.bind_some, if_neg cz]
  · subst h
    by_cases c2 : M.2 25 1 = a2
    · refine ⟨0, S, M, ?_, ?_, hI0⟩
      · show (if fX8_isOpen S 1 = a2 then ((0 : Int32), S) else _) = _
        rw [if_pos ((isOpen_1 hV).trans c2)]
      · show (if M.2 25 1 = a2 then some ((0 : Int32), M) else _) = _
        rw [if_pos c2]
    have c2' : ¬ fX8_isOpen S 1 = a2 := fun q => c2 ((isOpen_1 hV).symm.trans q)
    rcases ha with ha | ha
    · subst ha
      refine ⟨1, sti S 58 0 (bsum (upd (M.2 25) 1 0)), sta M 25 1 0, ?_, ?_, Inv_trap hI0 (fun a b h => sti_ne (fun q => h q.1)) rfl (fun b h => rfl) (fun a h => sta_ne h) (IV_set (Or.inl rfl) hV)⟩
      · show (if fX8_isOpen S 1 = 0 then _ else ((1 : Int32), fX8_shut S 1)) = _
        rw [if_neg c2', shut_1 hV]
      · show (if M.2 25 1 = 0 then _ else some ((1 : Int32), sta M 25 1 0)) = _
        rw [if_neg c2]
    · subst ha
      have m9 : fX8_mayOpen S 1 = (if M.2 25 3 = 0 then (if M.2 25 2 = 0 then (1 : Int32) else 0) else 0) := by
        show (if fX8_isOpen S 3 = 0 then (if fX8_isOpen S 2 = 0 then (1 : Int32) else 0) else 0) = _
        rw [isOpen_3 hV, isOpen_2 hV]
      have m10 : fX10_mayOpen nF M 1 = some (if M.2 25 3 = 0 then (if M.2 25 2 = 0 then (1 : Int32) else 0) else 0) := by
        show (if M.2 25 3 = 0 then (if M.2 25 2 = 0 then some (1 : Int32) else some 0) else some 0) = _
        split
        · split <;> rfl
        · rfl
      generalize (if M.2 25 3 = 0 then (if M.2 25 2 = 0 then (1 : Int32) else 0) else 0) = z at m9 m10
      by_cases cz : z = 0
      · refine ⟨-4, S, M, ?_, ?_, hI0⟩
        · show (if fX8_isOpen S 1 = 1 then _ else (if fX8_mayOpen S 1 = 0 then ((-4 : Int32), S) else _)) = _
          rw [if_neg c2', m9, if_pos cz]
        · show (if M.2 25 1 = 1 then _ else ((fX10_mayOpen nF M 1).bind fun r1 => if r1 = (0 : Int32) then some ((-4 : Int32), M) else _)) = _
          rw [if_neg c2, m10, Option.bind_some, if_pos cz]
      · refine ⟨1, sti (sti S 58 0 (bsum (upd (M.2 25) 1 1))) 58 1 1, sti (sta M 25 1 1) 0 42 1, ?_, ?_, Inv_trap hI0 (fun a b h => (sti_ne (fun q => h q.1)).trans (sti_ne (fun q => h q.1))) rfl (fun b h => sti_ne (fun q => h q.2)) (fun a h => sta_ne h) (IV_p (by decide) (IV_set (Or.inr rfl) hV))⟩
        · show (if fX8_isOpen S 1 = 1 then _ else (if fX8_mayOpen S 1 = 0 then _ else ((1 : Int32), sti (sti S 58 0 (S.1 58 0 ||| ((1 : Int32) <<< ((1 : Int32) &&& 31)))) 58 1 1))) = _
          rw [if_neg c2', m9, if_neg cz, bop_1 hV]
        · show (if M.2 25 1 = 1 then _ else ((fX10_mayOpen nF M 1).bind fun r1 => if r1 = (0 : Int32) then _ else some ((1 : Int32), sti (sta M 25 1 1) 0 42 1))) = _
          rw [if_neg c2, m10, Option.bind_some, if_neg cz]
  · subst h
    by_cases c2 : M.2 25 2 = a2
    · refine ⟨0, S, M, ?_, ?_, hI0⟩
      · show (if fX8_isOpen S 2 = a2 then ((0 : Int32), S) else _) = _
        rw [if_pos ((isOpen_2 hV).trans c2)]
      · show (if M.2 25 2 = a2 then some ((0 : Int32), M) else _) = _
        rw [if_pos c2]
    have c2' : ¬ fX8_isOpen S 2 = a2 := fun q => c2 ((isOpen_2 hV).symm.trans q)
    rcases ha with ha | ha
    · subst ha
      refine ⟨1, sti S 58 0 (bsum (upd (M.2 25) 2 0)), sta M 25 2 0, ?_, ?_, Inv_trap hI0 (fun a b h => sti_ne (fun q => h q.1)) rfl (fun b h => rfl) (fun a h => sta_ne h) (IV_set (Or.inl rfl) hV)⟩
      · show (if fX8_isOpen S 2 = 0 then _ else ((1 : Int32), fX8_shut S 2)) = _
        rw [if_neg c2', shut_2 hV]
      · show (if M.2 25 2 = 0 then _ else some ((1 : Int32), sta M 25 2 0)) = _
        rw [if_neg c2]
    · subst ha
      have m9 : fX8_mayOpen S 2 = (if M.2 25 0 = 0 then (if M.2 25 1 = 0 then (1 : Int32) else 0) else 0) := by
        show (if fX8_isOpen S 0 = 0 then (if fX8_isOpen S 1 = 0 then (1 : Int32) else 0) else 0) = _
        rw [isOpen_0 hV, isOpen_1 hV]
      have m10 : fX10_mayOpen nF M 2 = some (if M.2 25 0 = 0 then (if M.2 25 1 = 0 then (1 : Int32) else 0) else 0) := by
        show (if M.2 25 0 = 0 then (if M.2 25 1 = 0 then some (1 : Int32) else some 0) else some 0) = _
        split
        · split <;> rfl
        · rfl
      generalize (if M.2 25 0 = 0 then (if M.2 25 1 = 0 then (1 : Int32) else 0) else 0) = z at m9 m10
      by_cases cz : z = 0
      · refine ⟨-4, S, M, ?_, ?_, hI0⟩
        · show (if fX8_isOpen S 2 = 1 then _ else (if fX8_mayOpen S 2 = 0 then ((-4 : Int32), S) else _)) = _
          rw [if_neg c2', m9, if_pos cz]
        · show (if M.2 25 2 = 1 then _ else ((fX10_mayOpen nF M 2).bind fun r1 => if r1 = (0 : Int32) then some ((-4 : Int32), M) else _)) = _
          rw [if_neg c2, m10, Option.bind_some, if_pos cz]
      · refine ⟨1, sti (sti S 58 0 (bsum (upd (M.2 25) 2 1))) 58 1 0, sti (sta M 25 2 1) 0 42 0, ?_, ?_, Inv_trap hI0 (fun a b h => (sti_ne (fun q => h q.1)).trans (sti_ne (fun q => h q.1))) rfl (fun b h => sti_ne (fun q => h q.2)) (fun a h => sta_ne h) (IV_p (by decide) (IV_set (Or.inr rfl) hV))⟩
        · show (if fX8_isOpen S 2 = 1 then _ else (if fX8_mayOpen S 2 = 0 then _ else ((1 : Int32), sti (sti S 58 0 (S.1 58 0 ||| ((1 : Int32) <<< ((2 : Int32) &&& 31)))) 58 1 0))) = _
          rw [if_neg c2', m9, if_neg cz, bop_2 hV]
        · show (if M.2 25 2 = 1 then _ else ((fX10_mayOpen nF M 2).bind fun r1 => if r1 = (0 : Int32) then _ else some ((1 : Int32), sti (sta M 25 2 1) 0 42 0))) = _
          rw [if_neg c2, m10, Option.bind_some, if_neg cz]
  · subst h
    by_cases c2 : M.2 25 3 = a2
    · refine ⟨0, S, M, ?_, ?_, hI0⟩
      · show (if fX8_isOpen S 3 = a2 then ((0 : Int32), S) else _) = _
        rw [if_pos ((isOpen_3 hV).trans c2)]
      · show (if M.2 25 3 = a2 then some ((0 : Int32), M) else _) = _
        rw [if_pos c2]
    have c2' : ¬ fX8_isOpen S 3 = a2 := fun q => c2 ((isOpen_3 hV).symm.trans q)
    rcases ha with ha | ha
    · subst ha
      refine ⟨1, sti S 58 0 (bsum (upd (M.2 25) 3 0)), sta M 25 3 0, ?_, ?_, Inv_trap hI0 (fun a b h => sti_ne (fun q => h q.1)) rfl (fun b h => rfl) (fun a h => sta_ne h) (IV_set (Or.inl rfl) hV)⟩
      · show (if fX8_isOpen S 3 = 0 then _ else ((1 : Int32), fX8_shut S 3)) = _
        rw [if_neg c2', shut_3 hV]
      · show (if M.2 25 3 = 0 then _ else some ((1 : Int32), sta M 25 3 0)) = _
        rw [if_neg c2]
    · subst ha
      have m9 : fX8_mayOpen S 3 = (if M.1 0 42 = 0 then (if M.2 25 2 = 0 then (0 : Int32) else 1) else 0) := by
        show (if S.1 58 1 = 0 then (if fX8_isOpen S 2 = 0 then (0 : Int32) else 1) else 0) = _
        rw [hV.2.2.1, isOpen_2 hV]
      have m10 : fX10_mayOpen nF M 3 = some (if M.1 0 42 = 0 then (if M.2 25 2 = 0 then (0 : Int32) else 1) else 0) := by
        show (if M.1 0 42 = 0 then (if M.2 25 2 = 0 then some (0 : Int32) else some 1) else some 0) = _
        split
        · split <;> rfl
        · rfl
      generalize (if M.1 0 42 = 0 then (if M.2 25 2 = 0 then (0 : Int32) else 1) else 0) = z at m9 m10
      by_cases cz : z = 0
      · refine ⟨-4, S, M, ?_, ?_, hI0⟩
        · show (if fX8_isOpen S 3 = 1 then _ else (if fX8_mayOpen S 3 = 0 then ((-4 : Int32), S) else _)) = _
          rw [if_neg c2', m9, if_pos cz]
        · show (if M.2 25 3 = 1 then _ else ((fX10_mayOpen nF M 3).bind fun r1 => if r1 = (0 : Int32) then some ((-4 : Int32), M) else _)) = _
          rw [if_neg c2, m10, Option.bind_some, if_pos cz]
      · refine ⟨1, sti S 58 0 (bsum (upd (M.2 25) 3 1)), sti (sta M 25 3 1) 0 42 (M.1 0 42), ?_, ?_, Inv_trap hI0 (fun a b h => sti_ne (fun q => h q.1)) rfl (fun b h => sti_ne (fun q => h q.2)) (fun a h => sta_ne h) ?_⟩
        · show (if fX8_isOpen S 3 = 1 then _ else (if fX8_mayOpen S 3 = 0 then _ else ((1 : Int32), sti S 58 0 (S.1 58 0 ||| ((1 : Int32) <<< ((3 : Int32) &&& 31)))))) = _
          rw [if_neg c2', m9, if_neg cz, bop_3 hV]
        · show (if M.2 25 3 = 1 then _ else ((fX10_mayOpen nF M 3).bind fun r1 => if r1 = (0 : Int32) then _ else (if ¬ (M.1 0 42 = 0 ∨ M.1 0 42 = 1) then none else some ((1 : Int32), sti (sta M 25 3 1) 0 42 (M.1 0 42))))) = _
          rw [if_neg c2, m10, Option.bind_some, if_neg cz, if_neg (fun q => q hV.2.2.2)]
        · have h1 := IV_set (k := 3) (Or.inr rfl) hV
          exact ⟨h1.1, h1.2.1, h1.2.2.1, h1.2.2.2⟩
