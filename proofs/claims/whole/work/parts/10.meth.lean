theorem nar_bi {x : Int32} (hf : x = 0 ∨ x = 1) : narrow .boolean (.int x) = .int x := by rcases hf with rfl | rfl <;> rfl
theorem fit_bi {x : Int32} (hf : x = 0 ∨ x = 1) : fits .boolean (.int x) = true := by rcases hf with rfl | rfl <;> rfl
def fX0_hasJoint (S : PS) (a1 : Int32) : Int32 := if a1 < (0 : Int32) then (0 : Int32) else (if (S.1 41 2) ≤ a1 then (0 : Int32) else (1 : Int32))
set_option maxHeartbeats 4000000 in
set_option maxRecDepth 100000 in
theorem c_X0_hasJoint {cy : ClassId × ClassId} {ad : Nat → Nat} {D : va_G} {l : Launch} (S : PS) (a1 : Int32)  : PMi cy GC ad D l yX0_hasJoint (wA yX0_hasJoint cX0_hasJoint 2 (some .boolean)) rmX0_hasJoint [vr 0 41, vi a1] S (fun x S' => x = (fX0_hasJoint S a1) ∧ S' = S) := by
  refine PM.of (lv := [(0, vr 0 41), (1, vi a1)]) GC_ok (by decide) (Nat.le_of_ble_eq_true rfl) rfl (by simp) ?_
  intro p e s m args below meth c A hM
  refine w_iln (q := 1) (n := 1) hM (dtab_at okX0_hasJoint 0 rfl) rfl rfl ?_
  refine w_if_lt (n := 16) (n2 := 4) hM (dtab_at okX0_hasJoint 1 rfl) (by decide) rfl (fun (h1 : a1 < (0 : Int32)) => ?_) (fun (h1 : ¬ a1 < (0 : Int32)) => ?_)
  · skip
    refine w_ic (n := 17) hM (0 : Int32) (dtab_at okX0_hasJoint 8 rfl) (by decide) rfl ?_
    exact r_z hM (by decide) (dtab_at okX0_hasJoint 9 rfl) ⟨by rw [fX0_hasJoint, if_pos h1], rfl⟩
  · skip
    refine w_iln (q := 1) (n := 5) hM (dtab_at okX0_hasJoint 2 rfl) rfl rfl ?_
    refine w_aln (q := 0) (n := 6) hM (dtab_at okX0_hasJoint 3 rfl) rfl rfl ?_
    refine w_geti (C := RX0) (T := TX0) (i := 2) (n := 9) hM rfl (by decide) ly_X0 lkF_X0_18 (dtab_at okX0_hasJoint 4 rfl) rfl ?_
    refine w_ic_ge (n := 16) (n2 := 12) hM (dtab_at okX0_hasJoint 5 rfl) (by decide) rfl (fun (h9 : (S.1 41 2) ≤ a1) => ?_) (fun (h9 : ¬ (S.1 41 2) ≤ a1) => ?_)
    · skip
      refine w_ic (n := 17) hM (0 : Int32) (dtab_at okX0_hasJoint 8 rfl) (by decide) rfl ?_
      exact r_z hM (by decide) (dtab_at okX0_hasJoint 9 rfl) ⟨by rw [fX0_hasJoint, if_neg h1, if_pos h9], rfl⟩
    · skip
      refine w_ic (n := 13) hM (1 : Int32) (dtab_at okX0_hasJoint 6 rfl) (by decide) rfl ?_
      refine w_goto (n := 17) hM (dtab_at okX0_hasJoint 7 rfl) (by decide) ?_
      exact r_z hM (by decide) (dtab_at okX0_hasJoint 9 rfl) ⟨by rw [fX0_hasJoint, if_neg h1, if_neg h9], rfl⟩
def fX0_add (nF : Nat) (S : PS) (a1 : Int32) : Option (Int32 × PS) := (if (S.1 41 2) < (40 : Int32) then (if (S.1 41 2) < 0 ∨ 40 ≤ (S.1 41 2).toNatClampNeg then none else (some ((((S.1 41 2) + (1 : Int32)) - (1 : Int32)), (sti (sta S 42 (S.1 41 2).toNatClampNeg a1) 41 2 ((S.1 41 2) + (1 : Int32)))))) else (some ((-3 : Int32), S)))
set_option maxHeartbeats 4000000 in
set_option maxRecDepth 100000 in
theorem c_X0_add {cy : ClassId × ClassId} {ad : Nat → Nat} {D : va_G} {l : Launch} (nF : Nat) (S : PS) (a1 : Int32) (r : Int32 × PS) (hf : fX0_add nF S a1 = some r) : PMi cy GC ad D l yX0_add (wA yX0_add cX0_add 2 (some .int)) rmX0_add [vr 0 41, vi a1] S (fun x S' => (x, S') = r) := by
  refine PM.of (lv := [(0, vr 0 41), (1, vi a1)]) GC_ok (by decide) (Nat.le_of_ble_eq_true rfl) rfl (by simp) ?_
  intro p e s m args below meth c A hM
  rw [fX0_add] at hf
  refine w_aln (q := 0) (n := 1) hM (dtab_at okX0_add 0 rfl) rfl rfl ?_
  refine w_geti (C := RX0) (T := TX0) (i := 2) (n := 4) hM rfl (by decide) ly_X0 lkF_X0_18 (dtab_at okX0_add 1 rfl) rfl ?_
  refine w_bi (n := 6) hM (40 : Int32) (dtab_at okX0_add 2 rfl) (by decide) rfl ?_
  refine w_ic_lt (n := 12) (n2 := 9) hM (dtab_at okX0_add 3 rfl) (by decide) rfl (fun (h6 : (S.1 41 2) < (40 : Int32)) => ?_) (fun (h6 : ¬ (S.1 41 2) < (40 : Int32)) => ?_)
  · skip
    rw [if_pos h6] at hf
    refine w_aln (q := 0) (n := 13) hM (dtab_at okX0_add 6 rfl) rfl rfl ?_
    refine w_getr (C := RX0) (T := TX0) (i := 0) (k2 := 140) (q := 42) (n := 16) hM rfl (by decide) (fun _ => rfl) ly_X0 lkF_X0_9 (dtab_at okX0_add 7 rfl) rfl ?_
    refine w_aln (q := 0) (n := 17) hM (dtab_at okX0_add 8 rfl) rfl rfl ?_
    refine w_geti (C := RX0) (T := TX0) (i := 2) (n := 20) hM rfl (by decide) ly_X0 lkF_X0_18 (dtab_at okX0_add 9 rfl) rfl ?_
    refine w_iln (q := 1) (n := 21) hM (dtab_at okX0_add 10 rfl) rfl rfl ?_
    by_cases hg21 : (S.1 41 2) < 0 ∨ 40 ≤ (S.1 41 2).toNatClampNeg
    · rw [if_pos hg21] at hf; cases hf
    rw [if_neg hg21] at hf
    refine w_ast (nn := 40) (n := 22) hM rfl hg21 (dtab_at okX0_add 11 rfl) rfl ?_
    refine w_aln (q := 0) (n := 23) hM (dtab_at okX0_add 12 rfl) rfl rfl ?_
    refine w_dup (n := 24) hM (dtab_at okX0_add 13 rfl) rfl rfl ?_
    refine w_geti (C := RX0) (T := TX0) (i := 2) (n := 27) hM rfl (by decide) ly_X0 lkF_X0_18 (dtab_at okX0_add 14 rfl) rfl ?_
    refine w_ic (n := 28) hM (1 : Int32) (dtab_at okX0_add 15 rfl) (by decide) rfl ?_
    refine w_iadd (n := 29) hM (dtab_at okX0_add 16 rfl) rfl ?_
    refine w_put (C := RX0) (T := TX0) (i := 2) (ty := .int) (n := 32) hM rfl (by decide) ly_X0 tyX0_ok nmX0 lkF_X0_18 rfl (by decide +kernel) rfl rfl (dtab_at okX0_add 17 rfl) rfl ?_
    refine w_aln (q := 0) (n := 33) hM (dtab_at okX0_add 18 rfl) rfl rfl ?_
    refine w_geti (C := RX0) (T := TX0) (i := 2) (n := 36) hM rfl (by decide) ly_X0 lkF_X0_18 (dtab_at okX0_add 19 rfl) rfl ?_
    refine w_ic (n := 37) hM (1 : Int32) (dtab_at okX0_add 20 rfl) (by decide) rfl ?_
    refine w_isub (n := 38) hM (dtab_at okX0_add 21 rfl) rfl ?_
    exact r_i hM (dtab_at okX0_add 22 rfl) (Option.some.inj hf)
  · skip
    rw [if_neg h6] at hf
    refine w_bi (n := 11) hM (-3 : Int32) (dtab_at okX0_add 4 rfl) (by decide) rfl ?_
    exact r_i hM (dtab_at okX0_add 5 rfl) (Option.some.inj hf)
def fX0_withPair (nF : Nat) (S : PS) (q1 : Nat) (a2 : Int32) (a3 : Int32) : Option (Int32) := (if ((((a2 - (1 : Int32)) * (61 : Int32)) + a3) - (1 : Int32)) < 0 ∨ 2501 ≤ ((((a2 - (1 : Int32)) * (61 : Int32)) + a3) - (1 : Int32)).toNatClampNeg then none else (if (a2 - (1 : Int32)) < 0 ∨ 40 ≤ (a2 - (1 : Int32)).toNatClampNeg then none else (if (a3 - (1 : Int32)) < 0 ∨ 60 ≤ (a3 - (1 : Int32)).toNatClampNeg then none else (some ((S.2 43 ((((a2 - (1 : Int32)) * (61 : Int32)) + a3) - (1 : Int32)).toNatClampNeg) + (if 0 ≤ ((S.2 42 (a2 - (1 : Int32)).toNatClampNeg) - (S.2 (q1 + 36) (a3 - (1 : Int32)).toNatClampNeg)) then ((S.2 42 (a2 - (1 : Int32)).toNatClampNeg) - (S.2 (q1 + 36) (a3 - (1 : Int32)).toNatClampNeg)) else 0 - ((S.2 42 (a2 - (1 : Int32)).toNatClampNeg) - (S.2 (q1 + 36) (a3 - (1 : Int32)).toNatClampNeg))))))))
set_option maxHeartbeats 4000000 in
set_option maxRecDepth 100000 in
theorem c_X0_withPair {cy : ClassId × ClassId} {ad : Nat → Nat} {D : va_G} {l : Launch} (nF : Nat) (S : PS) (q1 : Nat) (a2 : Int32) (a3 : Int32) (r : Int32) (hf : fX0_withPair nF S q1 a2 a3 = some r) : PMi cy GC ad D l yX0_withPair (wA yX0_withPair cX0_withPair 4 (some .int)) rmX0_withPair [vr 0 41, vr 6 q1, vi a2, vi a3] S (fun x S' => x = r ∧ S' = S) := by
  refine PM.of (lv := [(0, vr 0 41), (1, vr 6 q1), (2, vi a2), (3, vi a3)]) GC_ok (by decide) (Nat.le_of_ble_eq_true rfl) rfl (by simp) ?_
  intro p e s m args below meth c A hM
  rw [fX0_withPair] at hf
  obtain ⟨S0, hS⟩ : ∃ S0 : PS, S = S0 := ⟨S, rfl⟩
  rw [show (fun (x : Int32) (S' : PS) => x = r ∧ S' = S) = (fun x S' => x = r ∧ S' = S0) by rw [hS]]
  refine w_aln (q := 0) (n := 1) hM (dtab_at okX0_withPair 0 rfl) rfl rfl ?_
  refine w_getr (C := RX0) (T := TX0) (i := 1) (k2 := 2601) (q := 43) (n := 4) hM rfl (by decide) (fun _ => rfl) ly_X0 lkF_X0_15 (dtab_at okX0_withPair 1 rfl) rfl ?_
  refine w_iln (q := 2) (n := 5) hM (dtab_at okX0_withPair 2 rfl) rfl rfl ?_
  refine w_ic (n := 6) hM (1 : Int32) (dtab_at okX0_withPair 3 rfl) (by decide) rfl ?_
  refine w_isub (n := 7) hM (dtab_at okX0_withPair 4 rfl) rfl ?_
  refine w_bi (n := 9) hM (61 : Int32) (dtab_at okX0_withPair 5 rfl) (by decide) rfl ?_
  refine w_imul (n := 10) hM (dtab_at okX0_withPair 6 rfl) rfl ?_
  refine w_iln (q := 3) (n := 11) hM (dtab_at okX0_withPair 7 rfl) rfl rfl ?_
  refine w_iadd (n := 12) hM (dtab_at okX0_withPair 8 rfl) rfl ?_
  refine w_ic (n := 13) hM (1 : Int32) (dtab_at okX0_withPair 9 rfl) (by decide) rfl ?_
  refine w_isub (n := 14) hM (dtab_at okX0_withPair 10 rfl) rfl ?_
  by_cases hg14 : ((((a2 - (1 : Int32)) * (61 : Int32)) + a3) - (1 : Int32)) < 0 ∨ 2501 ≤ ((((a2 - (1 : Int32)) * (61 : Int32)) + a3) - (1 : Int32)).toNatClampNeg
  · rw [if_pos hg14] at hf; cases hf
  rw [if_neg hg14] at hf
  refine w_ald (nn := 2501) (n := 15) hM rfl hg14 (dtab_at okX0_withPair 11 rfl) rfl ?_
  refine w_aln (q := 0) (n := 16) hM (dtab_at okX0_withPair 12 rfl) rfl rfl ?_
  refine w_getr (C := RX0) (T := TX0) (i := 0) (k2 := 140) (q := 42) (n := 19) hM rfl (by decide) (fun _ => rfl) ly_X0 lkF_X0_9 (dtab_at okX0_withPair 13 rfl) rfl ?_
  refine w_iln (q := 2) (n := 20) hM (dtab_at okX0_withPair 14 rfl) rfl rfl ?_
  refine w_ic (n := 21) hM (1 : Int32) (dtab_at okX0_withPair 15 rfl) (by decide) rfl ?_
  refine w_isub (n := 22) hM (dtab_at okX0_withPair 16 rfl) rfl ?_
  by_cases hg22 : (a2 - (1 : Int32)) < 0 ∨ 40 ≤ (a2 - (1 : Int32)).toNatClampNeg
  · rw [if_pos hg22] at hf; cases hf
  rw [if_neg hg22] at hf
  refine w_ald (nn := 40) (n := 23) hM rfl hg22 (dtab_at okX0_withPair 17 rfl) rfl ?_
  refine w_aln (q := 1) (n := 24) hM (dtab_at okX0_withPair 18 rfl) rfl rfl ?_
  refine w_getr (C := RX6) (T := TX6) (i := 7) (k2 := 160) (q := (q1 + 36)) (n := 27) hM rfl (by decide) rfc_6_7 ly_X6 lkF_X0_43 (dtab_at okX0_withPair 19 rfl) rfl ?_
  refine w_iln (q := 3) (n := 28) hM (dtab_at okX0_withPair 20 rfl) rfl rfl ?_
  refine w_ic (n := 29) hM (1 : Int32) (dtab_at okX0_withPair 21 rfl) (by decide) rfl ?_
  refine w_isub (n := 30) hM (dtab_at okX0_withPair 22 rfl) rfl ?_
  by_cases hg30 : (a3 - (1 : Int32)) < 0 ∨ 60 ≤ (a3 - (1 : Int32)).toNatClampNeg
  · rw [if_pos hg30] at hf; cases hf
  rw [if_neg hg30] at hf
  refine w_ald (nn := 60) (n := 31) hM rfl hg30 (dtab_at okX0_withPair 23 rfl) rfl ?_
  refine w_isub (n := 32) hM (dtab_at okX0_withPair 24 rfl) rfl ?_
  refine w_abs (n := 35) hM ⟨lkM_X0_44, mS_J9_abs_0f7a4, iz_J9, mC_J9_abs_0f7a4⟩ (by decide) (Nat.le_of_ble_eq_true rfl) (dtab_at okX0_withPair 25 rfl) rfl ?_
  refine w_iadd (n := 36) hM (dtab_at okX0_withPair 26 rfl) rfl ?_
  exact r_i hM (dtab_at okX0_withPair 27 rfl) ⟨Option.some.inj hf, hS⟩
def BX0_leastCost_139 (nF : Nat) (S : PS) (v1 : Nat) : Option (Int32 × PS) := (if (((S.1 41 2) * (61 : Int32)) + (S.1 v1 11)) < 0 ∨ 2501 ≤ (((S.1 41 2) * (61 : Int32)) + (S.1 v1 11)).toNatClampNeg then none else (some ((S.2 43 (((S.1 41 2) * (61 : Int32)) + (S.1 v1 11)).toNatClampNeg), S)))
set_option maxHeartbeats 4000000 in
set_option maxRecDepth 100000 in
theorem wBX0_leastCost_139 {cy : ClassId × ClassId} {ad : Nat → Nat} {D : va_G} {p : Program} {l : Launch} {e : Env} {s : State} {m : MethodId} {args : Array Value} {below : List Frame} {meth : Method} {c : Code} {A : Nat → Prop} (hM : MX cy GC ad D p s m args meth c cX0_leastCost 6 RX0 (some .int) A) (nF : Nat) (r : Int32 × PS) (S : PS) (v1 : Nat) (hf : BX0_leastCost_139 nF S v1 = some r) : WW cy GC ad D p l e rmX0_leastCost s m args below meth c 6 A (poi (fun x S' => (x, S') = r)) 139 [(0, vr 0 41), (1, vr 6 v1)] [] S := by
  rw [BX0_leastCost_139] at hf
  refine w_aln (q := 0) (n := 140) hM (dtab_at okX0_leastCost 81 rfl) rfl rfl ?_
  refine w_getr (C := RX0) (T := TX0) (i := 1) (k2 := 2601) (q := 43) (n := 143) hM rfl (by decide) (fun _ => rfl) ly_X0 lkF_X0_15 (dtab_at okX0_leastCost 82 rfl) rfl ?_
  refine w_aln (q := 0) (n := 144) hM (dtab_at okX0_leastCost 83 rfl) rfl rfl ?_
  refine w_geti (C := RX0) (T := TX0) (i := 2) (n := 147) hM rfl (by decide) ly_X0 lkF_X0_18 (dtab_at okX0_leastCost 84 rfl) rfl ?_
  refine w_bi (n := 149) hM (61 : Int32) (dtab_at okX0_leastCost 85 rfl) (by decide) rfl ?_
  refine w_imul (n := 150) hM (dtab_at okX0_leastCost 86 rfl) rfl ?_
  refine w_aln (q := 1) (n := 151) hM (dtab_at okX0_leastCost 87 rfl) rfl rfl ?_
  refine w_geti (C := RX6) (T := TX6) (i := 11) (n := 154) hM rfl (by decide) ly_X6 lkF_X0_28 (dtab_at okX0_leastCost 88 rfl) rfl ?_
  refine w_iadd (n := 155) hM (dtab_at okX0_leastCost 89 rfl) rfl ?_
  by_cases hg155 : (((S.1 41 2) * (61 : Int32)) + (S.1 v1 11)) < 0 ∨ 2501 ≤ (((S.1 41 2) * (61 : Int32)) + (S.1 v1 11)).toNatClampNeg
  · rw [if_pos hg155] at hf; cases hf
  rw [if_neg hg155] at hf
  refine w_ald (nn := 2501) (n := 156) hM rfl hg155 (dtab_at okX0_leastCost 90 rfl) rfl ?_
  exact r_i hM (dtab_at okX0_leastCost 91 rfl) (Option.some.inj hf)
def BX0_leastCost_133 (nF : Nat) (k30 : PS → Nat → Int32 → Option (Int32 × PS)) (S : PS) (v1 : Nat) (v2 : Int32) : Option (Int32 × PS) := (k30 S v1 (v2 + (1 : Int32)))
set_option maxHeartbeats 4000000 in
set_option maxRecDepth 100000 in
theorem wBX0_leastCost_133 {cy : ClassId × ClassId} {ad : Nat → Nat} {D : va_G} {p : Program} {l : Launch} {e : Env} {s : State} {m : MethodId} {args : Array Value} {below : List Frame} {meth : Method} {c : Code} {A : Nat → Prop} (hM : MX cy GC ad D p s m args meth c cX0_leastCost 6 RX0 (some .int) A) (nF : Nat) (r : Int32 × PS) (k30 : PS → Nat → Int32 → Option (Int32 × PS)) (hk30 : ∀ (S : PS) (v1 : Nat) (v2 : Int32), k30 S v1 v2 = some r → WW cy GC ad D p l e rmX0_leastCost s m args below meth c 6 A (poi (fun x S' => (x, S') = r)) 30 [(0, vr 0 41), (1, vr 6 v1), (2, vi v2)] [] S) (S : PS) (v1 : Nat) (v2 : Int32) (hf : BX0_leastCost_133 nF k30 S v1 v2 = some r) : WW cy GC ad D p l e rmX0_leastCost s m args below meth c 6 A (poi (fun x S' => (x, S') = r)) 133 [(0, vr 0 41), (1, vr 6 v1), (2, vi v2)] [] S := by
  rw [BX0_leastCost_133] at hf
  refine w_iinc (q := 2) (n := 136) (v := (v2 + (1 : Int32))) (lv' := [(2, vi (v2 + (1 : Int32))), (0, vr 0 41), (1, vr 6 v1)]) hM (dtab_at okX0_leastCost 79 rfl) rfl rfl (by decide) rfl rfl ?_
  refine w_goto (n := 30) hM (dtab_at okX0_leastCost 80 rfl) (by decide) ?_
  refine WW.lvs [1, 2, 0] (lv2 := [(0, vr 0 41), (1, vr 6 v1), (2, vi (v2 + (1 : Int32)))]) rfl ?_
  exact hk30 S v1 (v2 + (1 : Int32)) hf
def LX0_leastCost_58 (nF : Nat) (k30 : PS → Nat → Int32 → Option (Int32 × PS)) : Nat → PS → Nat → Int32 → Int32 → Int32 → Option (Int32 × PS)
  | 0, _, _, _, _, _ => none
  | n + 1, S, v1, v2, v3, v4 => (if (S.1 v1 11) < v4 then (BX0_leastCost_133 nF k30 S v1 v2) else (if ((v3 - (61 : Int32)) + v4) < 0 ∨ 2501 ≤ ((v3 - (61 : Int32)) + v4).toNatClampNeg then none else (if ((v3 + v4) - (1 : Int32)) < 0 ∨ 2501 ≤ ((v3 + v4) - (1 : Int32)).toNatClampNeg then none else ((fX0_withPair nF S v1 v2 v4).bind fun r0 => (if (v3 + v4) < 0 ∨ 2501 ≤ (v3 + v4).toNatClampNeg then none else (LX0_leastCost_58 nF k30 n (sta S 43 (v3 + v4).toNatClampNeg (if (if ((S.2 43 ((v3 + v4) - (1 : Int32)).toNatClampNeg) + (S.1 41 4)) < ((S.2 43 ((v3 - (61 : Int32)) + v4).toNatClampNeg) + (S.1 41 3)) then ((S.2 43 ((v3 + v4) - (1 : Int32)).toNatClampNeg) + (S.1 41 4)) else ((S.2 43 ((v3 - (61 : Int32)) + v4).toNatClampNeg) + (S.1 41 3))) < r0 then (if ((S.2 43 ((v3 + v4) - (1 : Int32)).toNatClampNeg) + (S.1 41 4)) < ((S.2 43 ((v3 - (61 : Int32)) + v4).toNatClampNeg) + (S.1 41 3)) then ((S.2 43 ((v3 + v4) - (1 : Int32)).toNatClampNeg) + (S.1 41 4)) else ((S.2 43 ((v3 - (61 : Int32)) + v4).toNatClampNeg) + (S.1 41 3))) else r0)) v1 v2 v3 (v4 + (1 : Int32))))))))
set_option maxHeartbeats 4000000 in
set_option maxRecDepth 100000 in
theorem wLX0_leastCost_58 {cy : ClassId × ClassId} {ad : Nat → Nat} {D : va_G} {p : Program} {l : Launch} {e : Env} {s : State} {m : MethodId} {args : Array Value} {below : List Frame} {meth : Method} {c : Code} {A : Nat → Prop} (hM : MX cy GC ad D p s m args meth c cX0_leastCost 6 RX0 (some .int) A) (nF : Nat) (r : Int32 × PS) (k30 : PS → Nat → Int32 → Option (Int32 × PS)) (hk30 : ∀ (S : PS) (v1 : Nat) (v2 : Int32), k30 S v1 v2 = some r → WW cy GC ad D p l e rmX0_leastCost s m args below meth c 6 A (poi (fun x S' => (x, S') = r)) 30 [(0, vr 0 41), (1, vr 6 v1), (2, vi v2)] [] S) : ∀ (n : Nat) (S : PS) (v1 : Nat) (v2 : Int32) (v3 : Int32) (v4 : Int32), LX0_leastCost_58 nF k30 n S v1 v2 v3 v4 = some r → WW cy GC ad D p l e rmX0_leastCost s m args below meth c 6 A (poi (fun x S' => (x, S') = r)) 58 [(0, vr 0 41), (1, vr 6 v1), (2, vi v2), (3, vi v3), (4, vi v4)] [] S := by
  intro n
  induction n with
  | zero => intro S v1 v2 v3 v4 hf; rw [LX0_leastCost_58] at hf; cases hf
  | succ n ih =>
    intro S v1 v2 v3 v4 hf
    rw [LX0_leastCost_58] at hf
    refine w_il (q := 4) (n := 60) hM (dtab_at okX0_leastCost 36 rfl) rfl rfl ?_
    refine w_aln (q := 1) (n := 61) hM (dtab_at okX0_leastCost 37 rfl) rfl rfl ?_
    refine w_geti (C := RX6) (T := TX6) (i := 11) (n := 64) hM rfl (by decide) ly_X6 lkF_X0_28 (dtab_at okX0_leastCost 38 rfl) rfl ?_
    refine w_ic_gt (n := 133) (n2 := 67) hM (dtab_at okX0_leastCost 39 rfl) (by decide) rfl (fun (h64 : (S.1 v1 11) < v4) => ?_) (fun (h64 : ¬ (S.1 v1 11) < v4) => ?_)
    · skip
      rw [if_pos h64] at hf
      refine WW.lvs [0, 1, 2] (lv2 := [(0, vr 0 41), (1, vr 6 v1), (2, vi v2)]) rfl ?_
      exact wBX0_leastCost_133 hM nF r k30 hk30 S v1 v2 hf
    · skip
      rw [if_neg h64] at hf
      refine w_aln (q := 0) (n := 68) hM (dtab_at okX0_leastCost 40 rfl) rfl rfl ?_
      refine w_getr (C := RX0) (T := TX0) (i := 1) (k2 := 2601) (q := 43) (n := 71) hM rfl (by decide) (fun _ => rfl) ly_X0 lkF_X0_15 (dtab_at okX0_leastCost 41 rfl) rfl ?_
      refine w_iln (q := 3) (n := 72) hM (dtab_at okX0_leastCost 42 rfl) rfl rfl ?_
      refine w_bi (n := 74) hM (61 : Int32) (dtab_at okX0_leastCost 43 rfl) (by decide) rfl ?_
      refine w_isub (n := 75) hM (dtab_at okX0_leastCost 44 rfl) rfl ?_
      refine w_il (q := 4) (n := 77) hM (dtab_at okX0_leastCost 45 rfl) rfl rfl ?_
      refine w_iadd (n := 78) hM (dtab_at okX0_leastCost 46 rfl) rfl ?_
      by_cases hg78 : ((v3 - (61 : Int32)) + v4) < 0 ∨ 2501 ≤ ((v3 - (61 : Int32)) + v4).toNatClampNeg
      · rw [if_pos hg78] at hf; cases hf
      rw [if_neg hg78] at hf
      refine w_ald (nn := 2501) (n := 79) hM rfl hg78 (dtab_at okX0_leastCost 47 rfl) rfl ?_
      refine w_aln (q := 0) (n := 80) hM (dtab_at okX0_leastCost 48 rfl) rfl rfl ?_
      refine w_geti (C := RX0) (T := TX0) (i := 3) (n := 83) hM rfl (by decide) ly_X0 lkF_X0_22 (dtab_at okX0_leastCost 49 rfl) rfl ?_
      refine w_iadd (n := 84) hM (dtab_at okX0_leastCost 50 rfl) rfl ?_
      refine w_aln (q := 0) (n := 85) hM (dtab_at okX0_leastCost 51 rfl) rfl rfl ?_
      refine w_getr (C := RX0) (T := TX0) (i := 1) (k2 := 2601) (q := 43) (n := 88) hM rfl (by decide) (fun _ => rfl) ly_X0 lkF_X0_15 (dtab_at okX0_leastCost 52 rfl) rfl ?_
      refine w_iln (q := 3) (n := 89) hM (dtab_at okX0_leastCost 53 rfl) rfl rfl ?_
      refine w_il (q := 4) (n := 91) hM (dtab_at okX0_leastCost 54 rfl) rfl rfl ?_
      refine w_iadd (n := 92) hM (dtab_at okX0_leastCost 55 rfl) rfl ?_
      refine w_ic (n := 93) hM (1 : Int32) (dtab_at okX0_leastCost 56 rfl) (by decide) rfl ?_
      refine w_isub (n := 94) hM (dtab_at okX0_leastCost 57 rfl) rfl ?_
      by_cases hg94 : ((v3 + v4) - (1 : Int32)) < 0 ∨ 2501 ≤ ((v3 + v4) - (1 : Int32)).toNatClampNeg
      · rw [if_pos hg94] at hf; cases hf
      rw [if_neg hg94] at hf
      refine w_ald (nn := 2501) (n := 95) hM rfl hg94 (dtab_at okX0_leastCost 58 rfl) rfl ?_
      refine w_aln (q := 0) (n := 96) hM (dtab_at okX0_leastCost 59 rfl) rfl rfl ?_
      refine w_geti (C := RX0) (T := TX0) (i := 4) (n := 99) hM rfl (by decide) ly_X0 lkF_X0_25 (dtab_at okX0_leastCost 60 rfl) rfl ?_
      refine w_iadd (n := 100) hM (dtab_at okX0_leastCost 61 rfl) rfl ?_
      refine w_min (n := 103) hM ⟨lkM_X0_33, mS_J9_min_7cf53, iz_J9, mC_J9_min_7cf53⟩ (by decide) (Nat.le_of_ble_eq_true rfl) (dtab_at okX0_leastCost 62 rfl) rfl ?_
      refine w_is (n := 105) (lv' := [(5, vi (if ((S.2 43 ((v3 + v4) - (1 : Int32)).toNatClampNeg) + (S.1 41 4)) < ((S.2 43 ((v3 - (61 : Int32)) + v4).toNatClampNeg) + (S.1 41 3)) then ((S.2 43 ((v3 + v4) - (1 : Int32)).toNatClampNeg) + (S.1 41 4)) else ((S.2 43 ((v3 - (61 : Int32)) + v4).toNatClampNeg) + (S.1 41 3)))), (0, vr 0 41), (1, vr 6 v1), (2, vi v2), (3, vi v3), (4, vi v4)]) hM (dtab_at okX0_leastCost 63 rfl) (by decide) rfl rfl ?_
      refine w_aln (q := 1) (n := 106) hM (dtab_at okX0_leastCost 64 rfl) rfl rfl ?_
      refine w_getr (C := RX0) (T := TX0) (i := 1) (k2 := 2601) (q := 43) (n := 109) hM rfl (by decide) (fun _ => rfl) ly_X0 lkF_X0_15 (dtab_at okX0_leastCost 65 rfl) rfl ?_
      refine w_iln (q := 4) (n := 110) hM (dtab_at okX0_leastCost 66 rfl) rfl rfl ?_
      refine w_il (q := 5) (n := 112) hM (dtab_at okX0_leastCost 67 rfl) rfl rfl ?_
      refine w_iadd (n := 113) hM (dtab_at okX0_leastCost 68 rfl) rfl ?_
      refine w_aln (q := 1) (n := 114) hM (dtab_at okX0_leastCost 69 rfl) rfl rfl ?_
      refine w_aln (q := 2) (n := 115) hM (dtab_at okX0_leastCost 70 rfl) rfl rfl ?_
      refine w_iln (q := 3) (n := 116) hM (dtab_at okX0_leastCost 71 rfl) rfl rfl ?_
      refine w_il (q := 5) (n := 118) hM (dtab_at okX0_leastCost 72 rfl) rfl rfl ?_
      obtain ⟨r0, hr0, hf⟩ := Option.bind_eq_some_iff.mp hf
      refine w_callVi (n := 121) (As := [vr 6 v1, vi v2, vi v4]) (rest := [vi (v3 + v4), vr 2601 43]) (k := 0) (j := 41) (C := RX0) (T := TX0) (N := 5) hM (c_X0_withPair nF S v1 v2 v4 r0 hr0) lkM_X0_39 mv_X0_withPair (by decide) rfl (by decide) rfl (Nat.le_of_ble_eq_true rfl) rfl (dtab_at okX0_leastCost 73 rfl) rfl (fun x0 S0 hp0 => ?_)
      obtain ⟨hx_, hs_⟩ := hp0
      have hs_ := hs_.symm
      have hx_ := hx_.symm
      subst hs_
      subst hx_
      refine w_il (q := 0) (n := 123) hM (dtab_at okX0_leastCost 74 rfl) rfl rfl ?_
      refine w_min (n := 126) hM ⟨lkM_X0_33, mS_J9_min_7cf53, iz_J9, mC_J9_min_7cf53⟩ (by decide) (Nat.le_of_ble_eq_true rfl) (dtab_at okX0_leastCost 75 rfl) rfl ?_
      by_cases hg126 : (v3 + v4) < 0 ∨ 2501 ≤ (v3 + v4).toNatClampNeg
      · rw [if_pos hg126] at hf; cases hf
      rw [if_neg hg126] at hf
      refine w_ast (nn := 2501) (n := 127) hM rfl hg126 (dtab_at okX0_leastCost 76 rfl) rfl ?_
      refine w_iinc (q := 5) (n := 130) (v := (v4 + (1 : Int32))) (lv' := [(4, vi (v4 + (1 : Int32))), (5, vi (if ((S.2 43 ((v3 + v4) - (1 : Int32)).toNatClampNeg) + (S.1 41 4)) < ((S.2 43 ((v3 - (61 : Int32)) + v4).toNatClampNeg) + (S.1 41 3)) then ((S.2 43 ((v3 + v4) - (1 : Int32)).toNatClampNeg) + (S.1 41 4)) else ((S.2 43 ((v3 - (61 : Int32)) + v4).toNatClampNeg) + (S.1 41 3)))), (0, vr 0 41), (1, vr 6 v1), (2, vi v2), (3, vi v3)]) hM (dtab_at okX0_leastCost 77 rfl) rfl rfl (by decide) rfl rfl ?_
      refine w_goto (n := 58) hM (dtab_at okX0_leastCost 78 rfl) (by decide) ?_
      refine WW.lvs [2, 3, 4, 5, 0] (lv2 := [(0, vr 0 41), (1, vr 6 v1), (2, vi v2), (3, vi v3), (4, vi (v4 + (1 : Int32)))]) rfl ?_
      exact ih (sta S 43 (v3 + v4).toNatClampNeg (if (if ((S.2 43 ((v3 + v4) - (1 : Int32)).toNatClampNeg) + (S.1 41 4)) < ((S.2 43 ((v3 - (61 : Int32)) + v4).toNatClampNeg) + (S.1 41 3)) then ((S.2 43 ((v3 + v4) - (1 : Int32)).toNatClampNeg) + (S.1 41 4)) else ((S.2 43 ((v3 - (61 : Int32)) + v4).toNatClampNeg) + (S.1 41 3))) < r0 then (if ((S.2 43 ((v3 + v4) - (1 : Int32)).toNatClampNeg) + (S.1 41 4)) < ((S.2 43 ((v3 - (61 : Int32)) + v4).toNatClampNeg) + (S.1 41 3)) then ((S.2 43 ((v3 + v4) - (1 : Int32)).toNatClampNeg) + (S.1 41 4)) else ((S.2 43 ((v3 - (61 : Int32)) + v4).toNatClampNeg) + (S.1 41 3))) else r0)) v1 v2 v3 (v4 + (1 : Int32)) hf
def LX0_leastCost_30 (nF : Nat) : Nat → PS → Nat → Int32 → Option (Int32 × PS)
  | 0, _, _, _ => none
  | n + 1, S, v1, v2 => (if (S.1 41 2) < v2 then (BX0_leastCost_139 nF S v1) else (if (v2 * (61 : Int32)) < 0 ∨ 2501 ≤ (v2 * (61 : Int32)).toNatClampNeg then none else (LX0_leastCost_58 nF (LX0_leastCost_30 nF n) nF (sta S 43 (v2 * (61 : Int32)).toNatClampNeg (v2 * (S.1 41 3))) v1 v2 (v2 * (61 : Int32)) (1 : Int32))))
set_option maxHeartbeats 4000000 in
set_option maxRecDepth 100000 in
theorem wLX0_leastCost_30 {cy : ClassId × ClassId} {ad : Nat → Nat} {D : va_G} {p : Program} {l : Launch} {e : Env} {s : State} {m : MethodId} {args : Array Value} {below : List Frame} {meth : Method} {c : Code} {A : Nat → Prop} (hM : MX cy GC ad D p s m args meth c cX0_leastCost 6 RX0 (some .int) A) (nF : Nat) (r : Int32 × PS) : ∀ (n : Nat) (S : PS) (v1 : Nat) (v2 : Int32), LX0_leastCost_30 nF n S v1 v2 = some r → WW cy GC ad D p l e rmX0_leastCost s m args below meth c 6 A (poi (fun x S' => (x, S') = r)) 30 [(0, vr 0 41), (1, vr 6 v1), (2, vi v2)] [] S := by
  intro n
  induction n with
  | zero => intro S v1 v2 hf; rw [LX0_leastCost_30] at hf; cases hf
  | succ n ih =>
    intro S v1 v2 hf
    rw [LX0_leastCost_30] at hf
    refine w_iln (q := 2) (n := 31) hM (dtab_at okX0_leastCost 18 rfl) rfl rfl ?_
    refine w_aln (q := 0) (n := 32) hM (dtab_at okX0_leastCost 19 rfl) rfl rfl ?_
    refine w_geti (C := RX0) (T := TX0) (i := 2) (n := 35) hM rfl (by decide) ly_X0 lkF_X0_18 (dtab_at okX0_leastCost 20 rfl) rfl ?_
    refine w_ic_gt (n := 139) (n2 := 38) hM (dtab_at okX0_leastCost 21 rfl) (by decide) rfl (fun (h35 : (S.1 41 2) < v2) => ?_) (fun (h35 : ¬ (S.1 41 2) < v2) => ?_)
    · skip
      rw [if_pos h35] at hf
      refine WW.lvs [0, 1] (lv2 := [(0, vr 0 41), (1, vr 6 v1)]) rfl ?_
      exact wBX0_leastCost_139 hM nF r S v1 hf
    · skip
      rw [if_neg h35] at hf
      refine w_iln (q := 2) (n := 39) hM (dtab_at okX0_leastCost 22 rfl) rfl rfl ?_
      refine w_bi (n := 41) hM (61 : Int32) (dtab_at okX0_leastCost 23 rfl) (by decide) rfl ?_
      refine w_imul (n := 42) hM (dtab_at okX0_leastCost 24 rfl) rfl ?_
      refine w_isn (n := 43) (lv' := [(3, vi (v2 * (61 : Int32))), (0, vr 0 41), (1, vr 6 v1), (2, vi v2)]) hM (dtab_at okX0_leastCost 25 rfl) (by decide) rfl rfl ?_
      refine w_aln (q := 1) (n := 44) hM (dtab_at okX0_leastCost 26 rfl) rfl rfl ?_
      refine w_getr (C := RX0) (T := TX0) (i := 1) (k2 := 2601) (q := 43) (n := 47) hM rfl (by decide) (fun _ => rfl) ly_X0 lkF_X0_15 (dtab_at okX0_leastCost 27 rfl) rfl ?_
      refine w_iln (q := 0) (n := 48) hM (dtab_at okX0_leastCost 28 rfl) rfl rfl ?_
      refine w_iln (q := 3) (n := 49) hM (dtab_at okX0_leastCost 29 rfl) rfl rfl ?_
      refine w_aln (q := 1) (n := 50) hM (dtab_at okX0_leastCost 30 rfl) rfl rfl ?_
      refine w_geti (C := RX0) (T := TX0) (i := 3) (n := 53) hM rfl (by decide) ly_X0 lkF_X0_22 (dtab_at okX0_leastCost 31 rfl) rfl ?_
      refine w_imul (n := 54) hM (dtab_at okX0_leastCost 32 rfl) rfl ?_
      by_cases hg54 : (v2 * (61 : Int32)) < 0 ∨ 2501 ≤ (v2 * (61 : Int32)).toNatClampNeg
      · rw [if_pos hg54] at hf; cases hf
      rw [if_neg hg54] at hf
      refine w_ast (nn := 2501) (n := 55) hM rfl hg54 (dtab_at okX0_leastCost 33 rfl) rfl ?_
      refine w_ic (n := 56) hM (1 : Int32) (dtab_at okX0_leastCost 34 rfl) (by decide) rfl ?_
      refine w_is (n := 58) (lv' := [(4, vi (1 : Int32)), (3, vi (v2 * (61 : Int32))), (0, vr 0 41), (1, vr 6 v1), (2, vi v2)]) hM (dtab_at okX0_leastCost 35 rfl) (by decide) rfl rfl ?_
      refine WW.lvs [2, 3, 4, 1, 0] (lv2 := [(0, vr 0 41), (1, vr 6 v1), (2, vi v2), (3, vi (v2 * (61 : Int32))), (4, vi (1 : Int32))]) rfl ?_
      exact wLX0_leastCost_58 hM nF r (LX0_leastCost_30 nF n) ih nF (sta S 43 (v2 * (61 : Int32)).toNatClampNeg (v2 * (S.1 41 3))) v1 v2 (v2 * (61 : Int32)) (1 : Int32) hf
def BX0_leastCost_28 (nF : Nat) (S : PS) (v1 : Nat) : Option (Int32 × PS) := (LX0_leastCost_30 nF nF S v1 (1 : Int32))
set_option maxHeartbeats 4000000 in
set_option maxRecDepth 100000 in
theorem wBX0_leastCost_28 {cy : ClassId × ClassId} {ad : Nat → Nat} {D : va_G} {p : Program} {l : Launch} {e : Env} {s : State} {m : MethodId} {args : Array Value} {below : List Frame} {meth : Method} {c : Code} {A : Nat → Prop} (hM : MX cy GC ad D p s m args meth c cX0_leastCost 6 RX0 (some .int) A) (nF : Nat) (r : Int32 × PS) (S : PS) (v1 : Nat) (hf : BX0_leastCost_28 nF S v1 = some r) : WW cy GC ad D p l e rmX0_leastCost s m args below meth c 6 A (poi (fun x S' => (x, S') = r)) 28 [(0, vr 0 41), (1, vr 6 v1)] [] S := by
  rw [BX0_leastCost_28] at hf
  refine w_ic (n := 29) hM (1 : Int32) (dtab_at okX0_leastCost 16 rfl) (by decide) rfl ?_
  refine w_isn (n := 30) (lv' := [(2, vi (1 : Int32)), (0, vr 0 41), (1, vr 6 v1)]) hM (dtab_at okX0_leastCost 17 rfl) (by decide) rfl rfl ?_
  refine WW.lvs [1, 2, 0] (lv2 := [(0, vr 0 41), (1, vr 6 v1), (2, vi (1 : Int32))]) rfl ?_
  exact wLX0_leastCost_30 hM nF r nF S v1 (1 : Int32) hf
def LX0_leastCost_2 (nF : Nat) : Nat → PS → Nat → Int32 → Option (Int32 × PS)
  | 0, _, _, _ => none
  | n + 1, S, v1, v2 => (if (S.1 v1 11) < v2 then (BX0_leastCost_28 nF S v1) else (if v2 < 0 ∨ 2501 ≤ v2.toNatClampNeg then none else (LX0_leastCost_2 nF n (sta S 43 v2.toNatClampNeg (v2 * (S.1 41 4))) v1 (v2 + (1 : Int32)))))
set_option maxHeartbeats 4000000 in
set_option maxRecDepth 100000 in
theorem wLX0_leastCost_2 {cy : ClassId × ClassId} {ad : Nat → Nat} {D : va_G} {p : Program} {l : Launch} {e : Env} {s : State} {m : MethodId} {args : Array Value} {below : List Frame} {meth : Method} {c : Code} {A : Nat → Prop} (hM : MX cy GC ad D p s m args meth c cX0_leastCost 6 RX0 (some .int) A) (nF : Nat) (r : Int32 × PS) : ∀ (n : Nat) (S : PS) (v1 : Nat) (v2 : Int32), LX0_leastCost_2 nF n S v1 v2 = some r → WW cy GC ad D p l e rmX0_leastCost s m args below meth c 6 A (poi (fun x S' => (x, S') = r)) 2 [(0, vr 0 41), (1, vr 6 v1), (2, vi v2)] [] S := by
  intro n
  induction n with
  | zero => intro S v1 v2 hf; rw [LX0_leastCost_2] at hf; cases hf
  | succ n ih =>
    intro S v1 v2 hf
    rw [LX0_leastCost_2] at hf
    refine w_iln (q := 2) (n := 3) hM (dtab_at okX0_leastCost 2 rfl) rfl rfl ?_
    refine w_aln (q := 1) (n := 4) hM (dtab_at okX0_leastCost 3 rfl) rfl rfl ?_
    refine w_geti (C := RX6) (T := TX6) (i := 11) (n := 7) hM rfl (by decide) ly_X6 lkF_X0_28 (dtab_at okX0_leastCost 4 rfl) rfl ?_
    refine w_ic_gt (n := 28) (n2 := 10) hM (dtab_at okX0_leastCost 5 rfl) (by decide) rfl (fun (h7 : (S.1 v1 11) < v2) => ?_) (fun (h7 : ¬ (S.1 v1 11) < v2) => ?_)
    · skip
      rw [if_pos h7] at hf
      refine WW.lvs [0, 1] (lv2 := [(0, vr 0 41), (1, vr 6 v1)]) rfl ?_
      exact wBX0_leastCost_28 hM nF r S v1 hf
    · skip
      rw [if_neg h7] at hf
      refine w_aln (q := 0) (n := 11) hM (dtab_at okX0_leastCost 6 rfl) rfl rfl ?_
      refine w_getr (C := RX0) (T := TX0) (i := 1) (k2 := 2601) (q := 43) (n := 14) hM rfl (by decide) (fun _ => rfl) ly_X0 lkF_X0_15 (dtab_at okX0_leastCost 7 rfl) rfl ?_
      refine w_iln (q := 2) (n := 15) hM (dtab_at okX0_leastCost 8 rfl) rfl rfl ?_
      refine w_iln (q := 2) (n := 16) hM (dtab_at okX0_leastCost 9 rfl) rfl rfl ?_
      refine w_aln (q := 0) (n := 17) hM (dtab_at okX0_leastCost 10 rfl) rfl rfl ?_
      refine w_geti (C := RX0) (T := TX0) (i := 4) (n := 20) hM rfl (by decide) ly_X0 lkF_X0_25 (dtab_at okX0_leastCost 11 rfl) rfl ?_
      refine w_imul (n := 21) hM (dtab_at okX0_leastCost 12 rfl) rfl ?_
      by_cases hg21 : v2 < 0 ∨ 2501 ≤ v2.toNatClampNeg
      · rw [if_pos hg21] at hf; cases hf
      rw [if_neg hg21] at hf
      refine w_ast (nn := 2501) (n := 22) hM rfl hg21 (dtab_at okX0_leastCost 13 rfl) rfl ?_
      refine w_iinc (q := 2) (n := 25) (v := (v2 + (1 : Int32))) (lv' := [(2, vi (v2 + (1 : Int32))), (0, vr 0 41), (1, vr 6 v1)]) hM (dtab_at okX0_leastCost 14 rfl) rfl rfl (by decide) rfl rfl ?_
      refine w_goto (n := 2) hM (dtab_at okX0_leastCost 15 rfl) (by decide) ?_
      refine WW.lvs [1, 2, 0] (lv2 := [(0, vr 0 41), (1, vr 6 v1), (2, vi (v2 + (1 : Int32)))]) rfl ?_
      exact ih (sta S 43 v2.toNatClampNeg (v2 * (S.1 41 4))) v1 (v2 + (1 : Int32)) hf
def fX0_leastCost (nF : Nat) (S : PS) (q1 : Nat) : Option (Int32 × PS) := (LX0_leastCost_2 nF nF S q1 (0 : Int32))
set_option maxHeartbeats 4000000 in
set_option maxRecDepth 100000 in
theorem c_X0_leastCost {cy : ClassId × ClassId} {ad : Nat → Nat} {D : va_G} {l : Launch} (nF : Nat) (S : PS) (q1 : Nat) (r : Int32 × PS) (hf : fX0_leastCost nF S q1 = some r) : PMi cy GC ad D l yX0_leastCost (wA yX0_leastCost cX0_leastCost 6 (some .int)) rmX0_leastCost [vr 0 41, vr 6 q1] S (fun x S' => (x, S') = r) := by
  refine PM.of (lv := [(0, vr 0 41), (1, vr 6 q1)]) GC_ok (by decide) (Nat.le_of_ble_eq_true rfl) rfl (by simp) ?_
  intro p e s m args below meth c A hM
  rw [fX0_leastCost] at hf
  refine w_ic (n := 1) hM (0 : Int32) (dtab_at okX0_leastCost 0 rfl) (by decide) rfl ?_
  refine w_isn (n := 2) (lv' := [(2, vi (0 : Int32)), (0, vr 0 41), (1, vr 6 q1)]) hM (dtab_at okX0_leastCost 1 rfl) (by decide) rfl rfl ?_
  refine WW.lvs [1, 2, 0] (lv2 := [(0, vr 0 41), (1, vr 6 q1), (2, vi (0 : Int32))]) rfl ?_
  exact wLX0_leastCost_2 hM nF r nF S q1 (0 : Int32) hf
def LX0_lastFeltNotLeftOut_3 (nF : Nat) : Nat → PS → Nat → Int32 → Int32 → Option (Int32)
  | 0, _, _, _, _ => none
  | n + 1, S, v1, v2, v4 => (if v4 ≤ (0 : Int32) then (some (0 : Int32)) else (if ((v2 * (61 : Int32)) + v4) < 0 ∨ 2501 ≤ ((v2 * (61 : Int32)) + v4).toNatClampNeg then none else ((fX0_withPair nF S v1 v2 v4).bind fun r0 => (if (S.2 43 ((v2 * (61 : Int32)) + v4).toNatClampNeg) = r0 then (some v4) else (if (((v2 - (1 : Int32)) * (61 : Int32)) + v4) < 0 ∨ 2501 ≤ (((v2 - (1 : Int32)) * (61 : Int32)) + v4).toNatClampNeg then none else (if (S.2 43 ((v2 * (61 : Int32)) + v4).toNatClampNeg) = ((S.2 43 (((v2 - (1 : Int32)) * (61 : Int32)) + v4).toNatClampNeg) + (S.1 41 3)) then (some v4) else (LX0_lastFeltNotLeftOut_3 nF n S v1 v2 (v4 + (-1 : Int32)))))))))
set_option maxHeartbeats 4000000 in
set_option maxRecDepth 100000 in
theorem wLX0_lastFeltNotLeftOut_3 {cy : ClassId × ClassId} {ad : Nat → Nat} {D : va_G} {p : Program} {l : Launch} {e : Env} {s : State} {m : MethodId} {args : Array Value} {below : List Frame} {meth : Method} {c : Code} {A : Nat → Prop} (hM : MX cy GC ad D p s m args meth c cX0_lastFeltNotLeftOut 6 RX0 (some .int) A) (nF : Nat) (S0 : PS) (r : Int32) : ∀ (n : Nat) (S : PS) (v1 : Nat) (v2 : Int32) (v4 : Int32), S = S0 → LX0_lastFeltNotLeftOut_3 nF n S v1 v2 v4 = some r → WW cy GC ad D p l e rmX0_lastFeltNotLeftOut s m args below meth c 6 A (poi (fun x S' => x = r ∧ S' = S0)) 3 [(0, vr 0 41), (1, vr 6 v1), (2, vi v2), (4, vi v4)] [] S := by
  intro n
  induction n with
  | zero => intro S v1 v2 v4 hS hf; rw [LX0_lastFeltNotLeftOut_3] at hf; cases hf
  | succ n ih =>
    intro S v1 v2 v4 hS hf
    rw [LX0_lastFeltNotLeftOut_3] at hf
    refine w_il (q := 3) (n := 5) hM (dtab_at okX0_lastFeltNotLeftOut 2 rfl) rfl rfl ?_
    refine w_if_le (n := 68) (n2 := 8) hM (dtab_at okX0_lastFeltNotLeftOut 3 rfl) (by decide) rfl (fun (h5 : v4 ≤ (0 : Int32)) => ?_) (fun (h5 : ¬ v4 ≤ (0 : Int32)) => ?_)
    · skip
      rw [if_pos h5] at hf
      refine w_ic (n := 69) hM (0 : Int32) (dtab_at okX0_lastFeltNotLeftOut 39 rfl) (by decide) rfl ?_
      exact r_i hM (dtab_at okX0_lastFeltNotLeftOut 40 rfl) ⟨Option.some.inj hf, hS⟩
    · skip
      rw [if_neg h5] at hf
      refine w_aln (q := 0) (n := 9) hM (dtab_at okX0_lastFeltNotLeftOut 4 rfl) rfl rfl ?_
      refine w_getr (C := RX0) (T := TX0) (i := 1) (k2 := 2601) (q := 43) (n := 12) hM rfl (by decide) (fun _ => rfl) ly_X0 lkF_X0_15 (dtab_at okX0_lastFeltNotLeftOut 5 rfl) rfl ?_
      refine w_iln (q := 2) (n := 13) hM (dtab_at okX0_lastFeltNotLeftOut 6 rfl) rfl rfl ?_
      refine w_bi (n := 15) hM (61 : Int32) (dtab_at okX0_lastFeltNotLeftOut 7 rfl) (by decide) rfl ?_
      refine w_imul (n := 16) hM (dtab_at okX0_lastFeltNotLeftOut 8 rfl) rfl ?_
      refine w_il (q := 3) (n := 18) hM (dtab_at okX0_lastFeltNotLeftOut 9 rfl) rfl rfl ?_
      refine w_iadd (n := 19) hM (dtab_at okX0_lastFeltNotLeftOut 10 rfl) rfl ?_
      by_cases hg19 : ((v2 * (61 : Int32)) + v4) < 0 ∨ 2501 ≤ ((v2 * (61 : Int32)) + v4).toNatClampNeg
      · rw [if_pos hg19] at hf; cases hf
      rw [if_neg hg19] at hf
      refine w_ald (nn := 2501) (n := 20) hM rfl hg19 (dtab_at okX0_lastFeltNotLeftOut 11 rfl) rfl ?_
      refine w_is (n := 22) (lv' := [(5, vi (S.2 43 ((v2 * (61 : Int32)) + v4).toNatClampNeg)), (0, vr 0 41), (1, vr 6 v1), (2, vi v2), (4, vi v4)]) hM (dtab_at okX0_lastFeltNotLeftOut 12 rfl) (by decide) rfl rfl ?_
      refine w_il (q := 0) (n := 24) hM (dtab_at okX0_lastFeltNotLeftOut 13 rfl) rfl rfl ?_
      refine w_aln (q := 1) (n := 25) hM (dtab_at okX0_lastFeltNotLeftOut 14 rfl) rfl rfl ?_
      refine w_aln (q := 2) (n := 26) hM (dtab_at okX0_lastFeltNotLeftOut 15 rfl) rfl rfl ?_
      refine w_iln (q := 3) (n := 27) hM (dtab_at okX0_lastFeltNotLeftOut 16 rfl) rfl rfl ?_
      refine w_il (q := 4) (n := 29) hM (dtab_at okX0_lastFeltNotLeftOut 17 rfl) rfl rfl ?_
      obtain ⟨r0, hr0, hf⟩ := Option.bind_eq_some_iff.mp hf
      refine w_callVi (n := 32) (As := [vr 6 v1, vi v2, vi v4]) (rest := [vi (S.2 43 ((v2 * (61 : Int32)) + v4).toNatClampNeg)]) (k := 0) (j := 41) (C := RX0) (T := TX0) (N := 5) hM (c_X0_withPair nF S v1 v2 v4 r0 hr0) lkM_X0_39 mv_X0_withPair (by decide) rfl (by decide) rfl (Nat.le_of_ble_eq_true rfl) rfl (dtab_at okX0_lastFeltNotLeftOut 18 rfl) rfl (fun x0 S0 hp0 => ?_)
      obtain ⟨hx_, hs_⟩ := hp0
      have hs_ := hs_.symm
      have hx_ := hx_.symm
      subst hs_
      subst hx_
      refine w_ic_eq (n := 59) (n2 := 35) hM (dtab_at okX0_lastFeltNotLeftOut 19 rfl) (by decide) rfl (fun (h32 : (S.2 43 ((v2 * (61 : Int32)) + v4).toNatClampNeg) = r0) => ?_) (fun (h32 : ¬ (S.2 43 ((v2 * (61 : Int32)) + v4).toNatClampNeg) = r0) => ?_)
      · skip
        rw [if_pos h32] at hf
        refine w_il (q := 4) (n := 61) hM (dtab_at okX0_lastFeltNotLeftOut 35 rfl) rfl rfl ?_
        exact r_i hM (dtab_at okX0_lastFeltNotLeftOut 36 rfl) ⟨Option.some.inj hf, hS⟩
      · skip
        rw [if_neg h32] at hf
        refine w_il (q := 0) (n := 37) hM (dtab_at okX0_lastFeltNotLeftOut 20 rfl) rfl rfl ?_
        refine w_aln (q := 1) (n := 38) hM (dtab_at okX0_lastFeltNotLeftOut 21 rfl) rfl rfl ?_
        refine w_getr (C := RX0) (T := TX0) (i := 1) (k2 := 2601) (q := 43) (n := 41) hM rfl (by decide) (fun _ => rfl) ly_X0 lkF_X0_15 (dtab_at okX0_lastFeltNotLeftOut 22 rfl) rfl ?_
        refine w_iln (q := 3) (n := 42) hM (dtab_at okX0_lastFeltNotLeftOut 23 rfl) rfl rfl ?_
        refine w_ic (n := 43) hM (1 : Int32) (dtab_at okX0_lastFeltNotLeftOut 24 rfl) (by decide) rfl ?_
        refine w_isub (n := 44) hM (dtab_at okX0_lastFeltNotLeftOut 25 rfl) rfl ?_
        refine w_bi (n := 46) hM (61 : Int32) (dtab_at okX0_lastFeltNotLeftOut 26 rfl) (by decide) rfl ?_
        refine w_imul (n := 47) hM (dtab_at okX0_lastFeltNotLeftOut 27 rfl) rfl ?_
        refine w_il (q := 4) (n := 49) hM (dtab_at okX0_lastFeltNotLeftOut 28 rfl) rfl rfl ?_
        refine w_iadd (n := 50) hM (dtab_at okX0_lastFeltNotLeftOut 29 rfl) rfl ?_
        by_cases hg50 : (((v2 - (1 : Int32)) * (61 : Int32)) + v4) < 0 ∨ 2501 ≤ (((v2 - (1 : Int32)) * (61 : Int32)) + v4).toNatClampNeg
        · rw [if_pos hg50] at hf; cases hf
        rw [if_neg hg50] at hf
        refine w_ald (nn := 2501) (n := 51) hM rfl hg50 (dtab_at okX0_lastFeltNotLeftOut 30 rfl) rfl ?_
        refine w_aln (q := 1) (n := 52) hM (dtab_at okX0_lastFeltNotLeftOut 31 rfl) rfl rfl ?_
        refine w_geti (C := RX0) (T := TX0) (i := 3) (n := 55) hM rfl (by decide) ly_X0 lkF_X0_22 (dtab_at okX0_lastFeltNotLeftOut 32 rfl) rfl ?_
        refine w_iadd (n := 56) hM (dtab_at okX0_lastFeltNotLeftOut 33 rfl) rfl ?_
        refine w_ic_ne (n := 62) (n2 := 59) hM (dtab_at okX0_lastFeltNotLeftOut 34 rfl) (by decide) rfl (fun (h56 : ¬ (S.2 43 ((v2 * (61 : Int32)) + v4).toNatClampNeg) = ((S.2 43 (((v2 - (1 : Int32)) * (61 : Int32)) + v4).toNatClampNeg) + (S.1 41 3))) => ?_) (fun (h56 : (S.2 43 ((v2 * (61 : Int32)) + v4).toNatClampNeg) = ((S.2 43 (((v2 - (1 : Int32)) * (61 : Int32)) + v4).toNatClampNeg) + (S.1 41 3))) => ?_)
        · skip
          rw [if_neg h56] at hf
          refine w_iinc (q := 4) (n := 65) (v := (v4 + (-1 : Int32))) (lv' := [(4, vi (v4 + (-1 : Int32))), (5, vi (S.2 43 ((v2 * (61 : Int32)) + v4).toNatClampNeg)), (0, vr 0 41), (1, vr 6 v1), (2, vi v2)]) hM (dtab_at okX0_lastFeltNotLeftOut 37 rfl) rfl rfl (by decide) rfl rfl ?_
          refine w_goto (n := 3) hM (dtab_at okX0_lastFeltNotLeftOut 38 rfl) (by decide) ?_
          refine WW.lvs [2, 3, 4, 0] (lv2 := [(0, vr 0 41), (1, vr 6 v1), (2, vi v2), (4, vi (v4 + (-1 : Int32)))]) rfl ?_
          exact ih S v1 v2 (v4 + (-1 : Int32)) hS hf
        · skip
          rw [if_pos h56] at hf
          refine w_il (q := 4) (n := 61) hM (dtab_at okX0_lastFeltNotLeftOut 35 rfl) rfl rfl ?_
          exact r_i hM (dtab_at okX0_lastFeltNotLeftOut 36 rfl) ⟨Option.some.inj hf, hS⟩
def fX0_lastFeltNotLeftOut (nF : Nat) (S : PS) (q1 : Nat) (a2 : Int32) (a3 : Int32) : Option (Int32) := (LX0_lastFeltNotLeftOut_3 nF nF S q1 a2 a3)
set_option maxHeartbeats 4000000 in
set_option maxRecDepth 100000 in
theorem c_X0_lastFeltNotLeftOut {cy : ClassId × ClassId} {ad : Nat → Nat} {D : va_G} {l : Launch} (nF : Nat) (S : PS) (q1 : Nat) (a2 : Int32) (a3 : Int32) (r : Int32) (hf : fX0_lastFeltNotLeftOut nF S q1 a2 a3 = some r) : PMi cy GC ad D l yX0_lastFeltNotLeftOut (wA yX0_lastFeltNotLeftOut cX0_lastFeltNotLeftOut 6 (some .int)) rmX0_lastFeltNotLeftOut [vr 0 41, vr 6 q1, vi a2, vi a3] S (fun x S' => x = r ∧ S' = S) := by
  refine PM.of (lv := [(0, vr 0 41), (1, vr 6 q1), (2, vi a2), (3, vi a3)]) GC_ok (by decide) (Nat.le_of_ble_eq_true rfl) rfl (by simp) ?_
  intro p e s m args below meth c A hM
  rw [fX0_lastFeltNotLeftOut] at hf
  obtain ⟨S0, hS⟩ : ∃ S0 : PS, S = S0 := ⟨S, rfl⟩
  rw [show (fun (x : Int32) (S' : PS) => x = r ∧ S' = S) = (fun x S' => x = r ∧ S' = S0) by rw [hS]]
  refine w_iln (q := 3) (n := 1) hM (dtab_at okX0_lastFeltNotLeftOut 0 rfl) rfl rfl ?_
  refine w_is (n := 3) (lv' := [(4, vi a3), (0, vr 0 41), (1, vr 6 q1), (2, vi a2), (3, vi a3)]) hM (dtab_at okX0_lastFeltNotLeftOut 1 rfl) (by decide) rfl rfl ?_
  refine WW.lvs [1, 2, 3, 0] (lv2 := [(0, vr 0 41), (1, vr 6 q1), (2, vi a2), (4, vi a3)]) rfl ?_
  exact wLX0_lastFeltNotLeftOut_3 hM nF S0 r nF S q1 a2 a3 hS hf
def LX0_pairUp_16 (nF : Nat) : Nat → PS → Nat → Int32 → Int32 → Option (PS)
  | 0, _, _, _, _ => none
  | n + 1, S, v1, v2, v3 => (if v3 ≤ (0 : Int32) then (some S) else ((fX0_lastFeltNotLeftOut nF S v1 v3 v2).bind fun r0 => (if r0 ≤ (0 : Int32) then (if (v3 - (1 : Int32)) < 0 ∨ 40 ≤ (v3 - (1 : Int32)).toNatClampNeg then none else (LX0_pairUp_16 nF n (sta S (v1 + 38) (v3 - (1 : Int32)).toNatClampNeg (-1 : Int32)) v1 r0 (v3 + (-1 : Int32)))) else (if ((v3 * (61 : Int32)) + r0) < 0 ∨ 2501 ≤ ((v3 * (61 : Int32)) + r0).toNatClampNeg then none else ((fX0_withPair nF S v1 v3 r0).bind fun r1 => (if (S.2 43 ((v3 * (61 : Int32)) + r0).toNatClampNeg) = r1 then (if (v3 - (1 : Int32)) < 0 ∨ 40 ≤ (v3 - (1 : Int32)).toNatClampNeg then none else (LX0_pairUp_16 nF n (sta S (v1 + 38) (v3 - (1 : Int32)).toNatClampNeg (r0 - (1 : Int32))) v1 (r0 + (-1 : Int32)) (v3 + (-1 : Int32)))) else (if (v3 - (1 : Int32)) < 0 ∨ 40 ≤ (v3 - (1 : Int32)).toNatClampNeg then none else (LX0_pairUp_16 nF n (sta S (v1 + 38) (v3 - (1 : Int32)).toNatClampNeg (-1 : Int32)) v1 r0 (v3 + (-1 : Int32))))))))))
set_option maxHeartbeats 4000000 in
set_option maxRecDepth 100000 in
theorem wLX0_pairUp_16 {cy : ClassId × ClassId} {ad : Nat → Nat} {D : va_G} {p : Program} {l : Launch} {e : Env} {s : State} {m : MethodId} {args : Array Value} {below : List Frame} {meth : Method} {c : Code} {A : Nat → Prop} (hM : MX cy GC ad D p s m args meth c cX0_pairUp 4 RX0 none A) (nF : Nat) (r : PS) : ∀ (n : Nat) (S : PS) (v1 : Nat) (v2 : Int32) (v3 : Int32), LX0_pairUp_16 nF n S v1 v2 v3 = some r → WW cy GC ad D p l e rmX0_pairUp s m args below meth c 4 A (pov (fun S' => S' = r)) 16 [(0, vr 0 41), (1, vr 6 v1), (2, vi v2), (3, vi v3)] [] S := by
  intro n
  induction n with
  | zero => intro S v1 v2 v3 hf; rw [LX0_pairUp_16] at hf; cases hf
  | succ n ih =>
    intro S v1 v2 v3 hf
    rw [LX0_pairUp_16] at hf
    refine w_iln (q := 3) (n := 17) hM (dtab_at okX0_pairUp 10 rfl) rfl rfl ?_
    refine w_if_le (n := 85) (n2 := 20) hM (dtab_at okX0_pairUp 11 rfl) (by decide) rfl (fun (h17 : v3 ≤ (0 : Int32)) => ?_) (fun (h17 : ¬ v3 ≤ (0 : Int32)) => ?_)
    · skip
      rw [if_pos h17] at hf
      exact r_v hM (dtab_at okX0_pairUp 54 rfl) (Option.some.inj hf)
    · skip
      rw [if_neg h17] at hf
      refine w_aln (q := 0) (n := 21) hM (dtab_at okX0_pairUp 12 rfl) rfl rfl ?_
      refine w_aln (q := 1) (n := 22) hM (dtab_at okX0_pairUp 13 rfl) rfl rfl ?_
      refine w_iln (q := 3) (n := 23) hM (dtab_at okX0_pairUp 14 rfl) rfl rfl ?_
      refine w_iln (q := 2) (n := 24) hM (dtab_at okX0_pairUp 15 rfl) rfl rfl ?_
      obtain ⟨r0, hr0, hf⟩ := Option.bind_eq_some_iff.mp hf
      refine w_callVi (n := 27) (As := [vr 6 v1, vi v3, vi v2]) (rest := []) (k := 0) (j := 41) (C := RX0) (T := TX0) (N := 5) hM (c_X0_lastFeltNotLeftOut nF S v1 v3 v2 r0 hr0) lkM_X0_52 mv_X0_lastFeltNotLeftOut (by decide) rfl (by decide) rfl (Nat.le_of_ble_eq_true rfl) rfl (dtab_at okX0_pairUp 16 rfl) rfl (fun x0 S0 hp0 => ?_)
      obtain ⟨hx_, hs_⟩ := hp0
      have hs_ := hs_.symm
      have hx_ := hx_.symm
      subst hs_
      subst hx_
      refine w_isn (n := 28) (lv' := [(2, vi r0), (0, vr 0 41), (1, vr 6 v1), (3, vi v3)]) hM (dtab_at okX0_pairUp 17 rfl) (by decide) rfl rfl ?_
      refine w_iln (q := 0) (n := 29) hM (dtab_at okX0_pairUp 18 rfl) rfl rfl ?_
      refine w_if_le (n := 70) (n2 := 32) hM (dtab_at okX0_pairUp 19 rfl) (by decide) rfl (fun (h29 : r0 ≤ (0 : Int32)) => ?_) (fun (h29 : ¬ r0 ≤ (0 : Int32)) => ?_)
      · skip
        rw [if_pos h29] at hf
        refine w_aln (q := 2) (n := 71) hM (dtab_at okX0_pairUp 45 rfl) rfl rfl ?_
        refine w_getr (C := RX6) (T := TX6) (i := 8) (k2 := 140) (q := (v1 + 38)) (n := 74) hM rfl (by decide) rfc_6_8 ly_X6 lkF_X0_55 (dtab_at okX0_pairUp 46 rfl) rfl ?_
        refine w_iln (q := 3) (n := 75) hM (dtab_at okX0_pairUp 47 rfl) rfl rfl ?_
        refine w_ic (n := 76) hM (1 : Int32) (dtab_at okX0_pairUp 48 rfl) (by decide) rfl ?_
        refine w_isub (n := 77) hM (dtab_at okX0_pairUp 49 rfl) rfl ?_
        refine w_ic (n := 78) hM (-1 : Int32) (dtab_at okX0_pairUp 50 rfl) (by decide) rfl ?_
        by_cases hg78 : (v3 - (1 : Int32)) < 0 ∨ 40 ≤ (v3 - (1 : Int32)).toNatClampNeg
        · rw [if_pos hg78] at hf; cases hf
        rw [if_neg hg78] at hf
        refine w_ast (nn := 40) (n := 79) hM rfl hg78 (dtab_at okX0_pairUp 51 rfl) rfl ?_
        refine w_iinc (q := 3) (n := 82) (v := (v3 + (-1 : Int32))) (lv' := [(3, vi (v3 + (-1 : Int32))), (2, vi r0), (0, vr 0 41), (1, vr 6 v1)]) hM (dtab_at okX0_pairUp 52 rfl) rfl rfl (by decide) rfl rfl ?_
        refine w_goto (n := 16) hM (dtab_at okX0_pairUp 53 rfl) (by decide) ?_
        refine WW.lvs [2, 3, 1, 0] (lv2 := [(0, vr 0 41), (1, vr 6 v1), (2, vi r0), (3, vi (v3 + (-1 : Int32)))]) rfl ?_
        exact ih (sta S (v1 + 38) (v3 - (1 : Int32)).toNatClampNeg (-1 : Int32)) v1 r0 (v3 + (-1 : Int32)) hf
      · skip
        rw [if_neg h29] at hf
        refine w_aln (q := 1) (n := 33) hM (dtab_at okX0_pairUp 20 rfl) rfl rfl ?_
        refine w_getr (C := RX0) (T := TX0) (i := 1) (k2 := 2601) (q := 43) (n := 36) hM rfl (by decide) (fun _ => rfl) ly_X0 lkF_X0_15 (dtab_at okX0_pairUp 21 rfl) rfl ?_
        refine w_iln (q := 3) (n := 37) hM (dtab_at okX0_pairUp 22 rfl) rfl rfl ?_
        refine w_bi (n := 39) hM (61 : Int32) (dtab_at okX0_pairUp 23 rfl) (by decide) rfl ?_
        refine w_imul (n := 40) hM (dtab_at okX0_pairUp 24 rfl) rfl ?_
        refine w_iln (q := 0) (n := 41) hM (dtab_at okX0_pairUp 25 rfl) rfl rfl ?_
        refine w_iadd (n := 42) hM (dtab_at okX0_pairUp 26 rfl) rfl ?_
        by_cases hg42 : ((v3 * (61 : Int32)) + r0) < 0 ∨ 2501 ≤ ((v3 * (61 : Int32)) + r0).toNatClampNeg
        · rw [if_pos hg42] at hf; cases hf
        rw [if_neg hg42] at hf
        refine w_ald (nn := 2501) (n := 43) hM rfl hg42 (dtab_at okX0_pairUp 27 rfl) rfl ?_
        refine w_aln (q := 1) (n := 44) hM (dtab_at okX0_pairUp 28 rfl) rfl rfl ?_
        refine w_aln (q := 2) (n := 45) hM (dtab_at okX0_pairUp 29 rfl) rfl rfl ?_
        refine w_iln (q := 3) (n := 46) hM (dtab_at okX0_pairUp 30 rfl) rfl rfl ?_
        refine w_iln (q := 0) (n := 47) hM (dtab_at okX0_pairUp 31 rfl) rfl rfl ?_
        obtain ⟨r1, hr1, hf⟩ := Option.bind_eq_some_iff.mp hf
        refine w_callVi (n := 50) (As := [vr 6 v1, vi v3, vi r0]) (rest := [vi (S.2 43 ((v3 * (61 : Int32)) + r0).toNatClampNeg)]) (k := 0) (j := 41) (C := RX0) (T := TX0) (N := 5) hM (c_X0_withPair nF S v1 v3 r0 r1 hr1) lkM_X0_39 mv_X0_withPair (by decide) rfl (by decide) rfl (Nat.le_of_ble_eq_true rfl) rfl (dtab_at okX0_pairUp 32 rfl) rfl (fun x1 S1 hp1 => ?_)
        obtain ⟨hx_, hs_⟩ := hp1
        have hs_ := hs_.symm
        have hx_ := hx_.symm
        subst hs_
        subst hx_
        refine w_ic_ne (n := 70) (n2 := 53) hM (dtab_at okX0_pairUp 33 rfl) (by decide) rfl (fun (h50 : ¬ (S.2 43 ((v3 * (61 : Int32)) + r0).toNatClampNeg) = r1) => ?_) (fun (h50 : (S.2 43 ((v3 * (61 : Int32)) + r0).toNatClampNeg) = r1) => ?_)
        · skip
          rw [if_neg h50] at hf
          refine w_aln (q := 2) (n := 71) hM (dtab_at okX0_pairUp 45 rfl) rfl rfl ?_
          refine w_getr (C := RX6) (T := TX6) (i := 8) (k2 := 140) (q := (v1 + 38)) (n := 74) hM rfl (by decide) rfc_6_8 ly_X6 lkF_X0_55 (dtab_at okX0_pairUp 46 rfl) rfl ?_
          refine w_iln (q := 3) (n := 75) hM (dtab_at okX0_pairUp 47 rfl) rfl rfl ?_
          refine w_ic (n := 76) hM (1 : Int32) (dtab_at okX0_pairUp 48 rfl) (by decide) rfl ?_
          refine w_isub (n := 77) hM (dtab_at okX0_pairUp 49 rfl) rfl ?_
          refine w_ic (n := 78) hM (-1 : Int32) (dtab_at okX0_pairUp 50 rfl) (by decide) rfl ?_
          by_cases hg78 : (v3 - (1 : Int32)) < 0 ∨ 40 ≤ (v3 - (1 : Int32)).toNatClampNeg
          · rw [if_pos hg78] at hf; cases hf
          rw [if_neg hg78] at hf
          refine w_ast (nn := 40) (n := 79) hM rfl hg78 (dtab_at okX0_pairUp 51 rfl) rfl ?_
          refine w_iinc (q := 3) (n := 82) (v := (v3 + (-1 : Int32))) (lv' := [(3, vi (v3 + (-1 : Int32))), (2, vi r0), (0, vr 0 41), (1, vr 6 v1)]) hM (dtab_at okX0_pairUp 52 rfl) rfl rfl (by decide) rfl rfl ?_
          refine w_goto (n := 16) hM (dtab_at okX0_pairUp 53 rfl) (by decide) ?_
          refine WW.lvs [2, 3, 1, 0] (lv2 := [(0, vr 0 41), (1, vr 6 v1), (2, vi r0), (3, vi (v3 + (-1 : Int32)))]) rfl ?_
          exact ih (sta S (v1 + 38) (v3 - (1 : Int32)).toNatClampNeg (-1 : Int32)) v1 r0 (v3 + (-1 : Int32)) hf
        · skip
          rw [if_pos h50] at hf
          refine w_aln (q := 2) (n := 54) hM (dtab_at okX0_pairUp 34 rfl) rfl rfl ?_
          refine w_getr (C := RX6) (T := TX6) (i := 8) (k2 := 140) (q := (v1 + 38)) (n := 57) hM rfl (by decide) rfc_6_8 ly_X6 lkF_X0_55 (dtab_at okX0_pairUp 35 rfl) rfl ?_
          refine w_iln (q := 3) (n := 58) hM (dtab_at okX0_pairUp 36 rfl) rfl rfl ?_
          refine w_ic (n := 59) hM (1 : Int32) (dtab_at okX0_pairUp 37 rfl) (by decide) rfl ?_
          refine w_isub (n := 60) hM (dtab_at okX0_pairUp 38 rfl) rfl ?_
          refine w_iln (q := 0) (n := 61) hM (dtab_at okX0_pairUp 39 rfl) rfl rfl ?_
          refine w_ic (n := 62) hM (1 : Int32) (dtab_at okX0_pairUp 40 rfl) (by decide) rfl ?_
          refine w_isub (n := 63) hM (dtab_at okX0_pairUp 41 rfl) rfl ?_
          by_cases hg63 : (v3 - (1 : Int32)) < 0 ∨ 40 ≤ (v3 - (1 : Int32)).toNatClampNeg
          · rw [if_pos hg63] at hf; cases hf
          rw [if_neg hg63] at hf
          refine w_ast (nn := 40) (n := 64) hM rfl hg63 (dtab_at okX0_pairUp 42 rfl) rfl ?_
          refine w_iinc (q := 0) (n := 67) (v := (r0 + (-1 : Int32))) (lv' := [(2, vi (r0 + (-1 : Int32))), (0, vr 0 41), (1, vr 6 v1), (3, vi v3)]) hM (dtab_at okX0_pairUp 43 rfl) rfl rfl (by decide) rfl rfl ?_
          refine w_goto (n := 79) hM (dtab_at okX0_pairUp 44 rfl) (by decide) ?_
          refine w_iinc (q := 3) (n := 82) (v := (v3 + (-1 : Int32))) (lv' := [(3, vi (v3 + (-1 : Int32))), (2, vi (r0 + (-1 : Int32))), (0, vr 0 41), (1, vr 6 v1)]) hM (dtab_at okX0_pairUp 52 rfl) rfl rfl (by decide) rfl rfl ?_
          refine w_goto (n := 16) hM (dtab_at okX0_pairUp 53 rfl) (by decide) ?_
          refine WW.lvs [2, 3, 1, 0] (lv2 := [(0, vr 0 41), (1, vr 6 v1), (2, vi (r0 + (-1 : Int32))), (3, vi (v3 + (-1 : Int32)))]) rfl ?_
          exact ih (sta S (v1 + 38) (v3 - (1 : Int32)).toNatClampNeg (r0 - (1 : Int32))) v1 (r0 + (-1 : Int32)) (v3 + (-1 : Int32)) hf
def fX0_pairUp (nF : Nat) (S : PS) (q1 : Nat) : Option (PS) := ((fX0_leastCost nF S q1).bind fun r0 => (LX0_pairUp_16 nF nF r0.2 q1 (r0.2.1 q1 11) (r0.2.1 41 2)))
set_option maxHeartbeats 4000000 in
set_option maxRecDepth 100000 in
theorem c_X0_pairUp {cy : ClassId × ClassId} {ad : Nat → Nat} {D : va_G} {l : Launch} (nF : Nat) (S : PS) (q1 : Nat) (r : PS) (hf : fX0_pairUp nF S q1 = some r) : PMv cy GC ad D l yX0_pairUp (wA yX0_pairUp cX0_pairUp 4 none) rmX0_pairUp [vr 0 41, vr 6 q1] S (fun S' => S' = r) := by
  refine PM.of (lv := [(0, vr 0 41), (1, vr 6 q1)]) GC_ok (by decide) (Nat.le_of_ble_eq_true rfl) rfl (by simp) ?_
  intro p e s m args below meth c A hM
  rw [fX0_pairUp] at hf
  refine w_aln (q := 0) (n := 1) hM (dtab_at okX0_pairUp 0 rfl) rfl rfl ?_
  refine w_aln (q := 1) (n := 2) hM (dtab_at okX0_pairUp 1 rfl) rfl rfl ?_
  obtain ⟨r0, hr0, hf⟩ := Option.bind_eq_some_iff.mp hf
  refine w_callVi (n := 5) (As := [vr 6 q1]) (rest := []) (k := 0) (j := 41) (C := RX0) (T := TX0) (N := 5) hM (c_X0_leastCost nF S q1 r0 hr0) lkM_X0_48 mv_X0_leastCost (by decide) rfl (by decide) rfl (Nat.le_of_ble_eq_true rfl) rfl (dtab_at okX0_pairUp 2 rfl) rfl (fun x0 S0 hp0 => ?_)
  have hx_ := congrArg Prod.fst hp0
  have hs_ := congrArg Prod.snd hp0
  dsimp only at hx_ hs_
  subst hx_
  subst hs_
  refine w_pop (n := 6) hM (dtab_at okX0_pairUp 3 rfl) rfl rfl ?_
  refine w_aln (q := 1) (n := 7) hM (dtab_at okX0_pairUp 4 rfl) rfl rfl ?_
  refine w_geti (C := RX6) (T := TX6) (i := 11) (n := 10) hM rfl (by decide) ly_X6 lkF_X0_28 (dtab_at okX0_pairUp 5 rfl) rfl ?_
  refine w_isn (n := 11) (lv' := [(2, vi (r0.2.1 q1 11)), (0, vr 0 41), (1, vr 6 q1)]) hM (dtab_at okX0_pairUp 6 rfl) (by decide) rfl rfl ?_
  refine w_aln (q := 1) (n := 12) hM (dtab_at okX0_pairUp 7 rfl) rfl rfl ?_
  refine w_geti (C := RX0) (T := TX0) (i := 2) (n := 15) hM rfl (by decide) ly_X0 lkF_X0_18 (dtab_at okX0_pairUp 8 rfl) rfl ?_
  refine w_isn (n := 16) (lv' := [(3, vi (r0.2.1 41 2)), (2, vi (r0.2.1 q1 11)), (0, vr 0 41), (1, vr 6 q1)]) hM (dtab_at okX0_pairUp 9 rfl) (by decide) rfl rfl ?_
  refine WW.lvs [2, 3, 1, 0] (lv2 := [(0, vr 0 41), (1, vr 6 q1), (2, vi (r0.2.1 q1 11)), (3, vi (r0.2.1 41 2))]) rfl ?_
  exact wLX0_pairUp_16 hM nF r nF r0.2 q1 (r0.2.1 q1 11) (r0.2.1 41 2) hf
def LX0_jointPairedWith_2 (nF : Nat) : Nat → PS → Nat → Int32 → Int32 → Option (Int32)
  | 0, _, _, _, _ => none
  | n + 1, S, v1, v2, v3 => (if (S.1 41 2) ≤ v3 then (some (-1 : Int32)) else (if v2 = (-1 : Int32) then (some (-1 : Int32)) else (if v3 < 0 ∨ 40 ≤ v3.toNatClampNeg then none else (if (S.2 (v1 + 38) v3.toNatClampNeg) = v2 then (some v3) else (LX0_jointPairedWith_2 nF n S v1 v2 (v3 + (1 : Int32)))))))
set_option maxHeartbeats 4000000 in
set_option maxRecDepth 100000 in
theorem wLX0_jointPairedWith_2 {cy : ClassId × ClassId} {ad : Nat → Nat} {D : va_G} {p : Program} {l : Launch} {e : Env} {s : State} {m : MethodId} {args : Array Value} {below : List Frame} {meth : Method} {c : Code} {A : Nat → Prop} (hM : MX cy GC ad D p s m args meth c cX0_jointPairedWith 4 RX0 (some .int) A) (nF : Nat) (S0 : PS) (r : Int32) : ∀ (n : Nat) (S : PS) (v1 : Nat) (v2 : Int32) (v3 : Int32), S = S0 → LX0_jointPairedWith_2 nF n S v1 v2 v3 = some r → WW cy GC ad D p l e rmX0_jointPairedWith s m args below meth c 4 A (poi (fun x S' => x = r ∧ S' = S0)) 2 [(0, vr 0 41), (1, vr 6 v1), (2, vi v2), (3, vi v3)] [] S := by
  intro n
  induction n with
  | zero => intro S v1 v2 v3 hS hf; rw [LX0_jointPairedWith_2] at hf; cases hf
  | succ n ih =>
    intro S v1 v2 v3 hS hf
    rw [LX0_jointPairedWith_2] at hf
    refine w_iln (q := 3) (n := 3) hM (dtab_at okX0_jointPairedWith 2 rfl) rfl rfl ?_
    refine w_aln (q := 0) (n := 4) hM (dtab_at okX0_jointPairedWith 3 rfl) rfl rfl ?_
    refine w_geti (C := RX0) (T := TX0) (i := 2) (n := 7) hM rfl (by decide) ly_X0 lkF_X0_18 (dtab_at okX0_jointPairedWith 4 rfl) rfl ?_
    refine w_ic_ge (n := 33) (n2 := 10) hM (dtab_at okX0_jointPairedWith 5 rfl) (by decide) rfl (fun (h7 : (S.1 41 2) ≤ v3) => ?_) (fun (h7 : ¬ (S.1 41 2) ≤ v3) => ?_)
    · skip
      rw [if_pos h7] at hf
      refine w_ic (n := 34) hM (-1 : Int32) (dtab_at okX0_jointPairedWith 19 rfl) (by decide) rfl ?_
      exact r_i hM (dtab_at okX0_jointPairedWith 20 rfl) ⟨Option.some.inj hf, hS⟩
    · skip
      rw [if_neg h7] at hf
      refine w_iln (q := 2) (n := 11) hM (dtab_at okX0_jointPairedWith 6 rfl) rfl rfl ?_
      refine w_ic (n := 12) hM (-1 : Int32) (dtab_at okX0_jointPairedWith 7 rfl) (by decide) rfl ?_
      refine w_ic_eq (n := 33) (n2 := 15) hM (dtab_at okX0_jointPairedWith 8 rfl) (by decide) rfl (fun (h12 : v2 = (-1 : Int32)) => ?_) (fun (h12 : ¬ v2 = (-1 : Int32)) => ?_)
      · skip
        rw [if_pos h12] at hf
        refine w_ic (n := 34) hM (-1 : Int32) (dtab_at okX0_jointPairedWith 19 rfl) (by decide) rfl ?_
        exact r_i hM (dtab_at okX0_jointPairedWith 20 rfl) ⟨Option.some.inj hf, hS⟩
      · skip
        rw [if_neg h12] at hf
        refine w_aln (q := 1) (n := 16) hM (dtab_at okX0_jointPairedWith 9 rfl) rfl rfl ?_
        refine w_getr (C := RX6) (T := TX6) (i := 8) (k2 := 140) (q := (v1 + 38)) (n := 19) hM rfl (by decide) rfc_6_8 ly_X6 lkF_X0_55 (dtab_at okX0_jointPairedWith 10 rfl) rfl ?_
        refine w_iln (q := 3) (n := 20) hM (dtab_at okX0_jointPairedWith 11 rfl) rfl rfl ?_
        by_cases hg20 : v3 < 0 ∨ 40 ≤ v3.toNatClampNeg
        · rw [if_pos hg20] at hf; cases hf
        rw [if_neg hg20] at hf
        refine w_ald (nn := 40) (n := 21) hM rfl hg20 (dtab_at okX0_jointPairedWith 12 rfl) rfl ?_
        refine w_iln (q := 2) (n := 22) hM (dtab_at okX0_jointPairedWith 13 rfl) rfl rfl ?_
        refine w_ic_ne (n := 27) (n2 := 25) hM (dtab_at okX0_jointPairedWith 14 rfl) (by decide) rfl (fun (h22 : ¬ (S.2 (v1 + 38) v3.toNatClampNeg) = v2) => ?_) (fun (h22 : (S.2 (v1 + 38) v3.toNatClampNeg) = v2) => ?_)
        · skip
          rw [if_neg h22] at hf
          refine w_iinc (q := 3) (n := 30) (v := (v3 + (1 : Int32))) (lv' := [(3, vi (v3 + (1 : Int32))), (0, vr 0 41), (1, vr 6 v1), (2, vi v2)]) hM (dtab_at okX0_jointPairedWith 17 rfl) rfl rfl (by decide) rfl rfl ?_
          refine w_goto (n := 2) hM (dtab_at okX0_jointPairedWith 18 rfl) (by decide) ?_
          refine WW.lvs [1, 2, 3, 0] (lv2 := [(0, vr 0 41), (1, vr 6 v1), (2, vi v2), (3, vi (v3 + (1 : Int32)))]) rfl ?_
          exact ih S v1 v2 (v3 + (1 : Int32)) hS hf
        · skip
          rw [if_pos h22] at hf
          refine w_iln (q := 3) (n := 26) hM (dtab_at okX0_jointPairedWith 15 rfl) rfl rfl ?_
          exact r_i hM (dtab_at okX0_jointPairedWith 16 rfl) ⟨Option.some.inj hf, hS⟩
def fX0_jointPairedWith (nF : Nat) (S : PS) (q1 : Nat) (a2 : Int32) : Option (Int32) := (LX0_jointPairedWith_2 nF nF S q1 a2 (0 : Int32))
set_option maxHeartbeats 4000000 in
set_option maxRecDepth 100000 in
theorem c_X0_jointPairedWith {cy : ClassId × ClassId} {ad : Nat → Nat} {D : va_G} {l : Launch} (nF : Nat) (S : PS) (q1 : Nat) (a2 : Int32) (r : Int32) (hf : fX0_jointPairedWith nF S q1 a2 = some r) : PMi cy GC ad D l yX0_jointPairedWith (wA yX0_jointPairedWith cX0_jointPairedWith 4 (some .int)) rmX0_jointPairedWith [vr 0 41, vr 6 q1, vi a2] S (fun x S' => x = r ∧ S' = S) := by
  refine PM.of (lv := [(0, vr 0 41), (1, vr 6 q1), (2, vi a2)]) GC_ok (by decide) (Nat.le_of_ble_eq_true rfl) rfl (by simp) ?_
  intro p e s m args below meth c A hM
  rw [fX0_jointPairedWith] at hf
  obtain ⟨S0, hS⟩ : ∃ S0 : PS, S = S0 := ⟨S, rfl⟩
  rw [show (fun (x : Int32) (S' : PS) => x = r ∧ S' = S) = (fun x S' => x = r ∧ S' = S0) by rw [hS]]
  refine w_ic (n := 1) hM (0 : Int32) (dtab_at okX0_jointPairedWith 0 rfl) (by decide) rfl ?_
  refine w_isn (n := 2) (lv' := [(3, vi (0 : Int32)), (0, vr 0 41), (1, vr 6 q1), (2, vi a2)]) hM (dtab_at okX0_jointPairedWith 1 rfl) (by decide) rfl rfl ?_
  refine WW.lvs [1, 2, 3, 0] (lv2 := [(0, vr 0 41), (1, vr 6 q1), (2, vi a2), (3, vi (0 : Int32))]) rfl ?_
  exact wLX0_jointPairedWith_2 hM nF S0 r nF S q1 a2 (0 : Int32) hS hf
def fX1_add (nF : Nat) (S : PS) (a1 : Int32) (a2 : Int32) : Option (Int32 × PS) := (if (S.1 55 2) < (30 : Int32) then (if (S.1 55 2) < 0 ∨ 30 ≤ (S.1 55 2).toNatClampNeg then none else (if a2 < 0 ∨ 9 ≤ a2.toNatClampNeg then none else (some ((((S.1 55 2) + (1 : Int32)) - (1 : Int32)), (sti (sti (sta (sta S 56 (S.1 55 2).toNatClampNeg a2) 57 a2.toNatClampNeg ((S.2 57 a2.toNatClampNeg) + (1 : Int32))) 55 3 ((S.1 55 3) + a1)) 55 2 ((S.1 55 2) + (1 : Int32))))))) else (some ((-3 : Int32), S)))
set_option maxHeartbeats 4000000 in
set_option maxRecDepth 100000 in
theorem c_X1_add {cy : ClassId × ClassId} {ad : Nat → Nat} {D : va_G} {l : Launch} (nF : Nat) (S : PS) (a1 : Int32) (a2 : Int32) (r : Int32 × PS) (hf : fX1_add nF S a1 a2 = some r) : PMi cy GC ad D l yX1_add (wA yX1_add cX1_add 3 (some .int)) rmX1_add [vr 1 55, vi a1, vi a2] S (fun x S' => (x, S') = r) := by
  refine PM.of (lv := [(0, vr 1 55), (1, vi a1), (2, vi a2)]) GC_ok (by decide) (Nat.le_of_ble_eq_true rfl) rfl (by simp) ?_
  intro p e s m args below meth c A hM
  rw [fX1_add] at hf
  refine w_aln (q := 0) (n := 1) hM (dtab_at okX1_add 0 rfl) rfl rfl ?_
  refine w_geti (C := RX1) (T := TX1) (i := 2) (n := 4) hM rfl (by decide) ly_X1 lkF_X1_25 (dtab_at okX1_add 1 rfl) rfl ?_
  refine w_bi (n := 6) hM (30 : Int32) (dtab_at okX1_add 2 rfl) (by decide) rfl ?_
  refine w_ic_lt (n := 12) (n2 := 9) hM (dtab_at okX1_add 3 rfl) (by decide) rfl (fun (h6 : (S.1 55 2) < (30 : Int32)) => ?_) (fun (h6 : ¬ (S.1 55 2) < (30 : Int32)) => ?_)
  · skip
    rw [if_pos h6] at hf
    refine w_aln (q := 0) (n := 13) hM (dtab_at okX1_add 6 rfl) rfl rfl ?_
    refine w_getr (C := RX1) (T := TX1) (i := 0) (k2 := 130) (q := 56) (n := 16) hM rfl (by decide) (fun _ => rfl) ly_X1 lkF_X1_9 (dtab_at okX1_add 7 rfl) rfl ?_
    refine w_aln (q := 0) (n := 17) hM (dtab_at okX1_add 8 rfl) rfl rfl ?_
    refine w_geti (C := RX1) (T := TX1) (i := 2) (n := 20) hM rfl (by decide) ly_X1 lkF_X1_25 (dtab_at okX1_add 9 rfl) rfl ?_
    refine w_iln (q := 2) (n := 21) hM (dtab_at okX1_add 10 rfl) rfl rfl ?_
    by_cases hg21 : (S.1 55 2) < 0 ∨ 30 ≤ (S.1 55 2).toNatClampNeg
    · rw [if_pos hg21] at hf; cases hf
    rw [if_neg hg21] at hf
    refine w_ast (nn := 30) (n := 22) hM rfl hg21 (dtab_at okX1_add 11 rfl) rfl ?_
    refine w_aln (q := 0) (n := 23) hM (dtab_at okX1_add 12 rfl) rfl rfl ?_
    refine w_getr (C := RX1) (T := TX1) (i := 1) (k2 := 109) (q := 57) (n := 26) hM rfl (by decide) (fun _ => rfl) ly_X1 lkF_X1_15 (dtab_at okX1_add 13 rfl) rfl ?_
    refine w_iln (q := 2) (n := 27) hM (dtab_at okX1_add 14 rfl) rfl rfl ?_
    refine w_dup2 (n := 28) hM (dtab_at okX1_add 15 rfl) rfl rfl rfl ?_
    by_cases hg28 : a2 < 0 ∨ 9 ≤ a2.toNatClampNeg
    · rw [if_pos hg28] at hf; cases hf
    rw [if_neg hg28] at hf
    refine w_ald (nn := 9) (n := 29) hM rfl hg28 (dtab_at okX1_add 16 rfl) rfl ?_
    refine w_ic (n := 30) hM (1 : Int32) (dtab_at okX1_add 17 rfl) (by decide) rfl ?_
    refine w_iadd (n := 31) hM (dtab_at okX1_add 18 rfl) rfl ?_
    refine w_ast (nn := 9) (n := 32) hM rfl hg28 (dtab_at okX1_add 19 rfl) rfl ?_
    refine w_aln (q := 0) (n := 33) hM (dtab_at okX1_add 20 rfl) rfl rfl ?_
    refine w_dup (n := 34) hM (dtab_at okX1_add 21 rfl) rfl rfl ?_
    refine w_geti (C := RX1) (T := TX1) (i := 3) (n := 37) hM rfl (by decide) ly_X1 lkF_X1_28 (dtab_at okX1_add 22 rfl) rfl ?_
    refine w_iln (q := 1) (n := 38) hM (dtab_at okX1_add 23 rfl) rfl rfl ?_
    refine w_iadd (n := 39) hM (dtab_at okX1_add 24 rfl) rfl ?_
    refine w_put (C := RX1) (T := TX1) (i := 3) (ty := .int) (n := 42) hM rfl (by decide) ly_X1 tyX1_ok nmX1 lkF_X1_28 rfl (by decide +kernel) rfl rfl (dtab_at okX1_add 25 rfl) rfl ?_
    refine w_aln (q := 0) (n := 43) hM (dtab_at okX1_add 26 rfl) rfl rfl ?_
    refine w_dup (n := 44) hM (dtab_at okX1_add 27 rfl) rfl rfl ?_
    refine w_geti (C := RX1) (T := TX1) (i := 2) (n := 47) hM rfl (by decide) ly_X1 lkF_X1_25 (dtab_at okX1_add 28 rfl) rfl ?_
    refine w_ic (n := 48) hM (1 : Int32) (dtab_at okX1_add 29 rfl) (by decide) rfl ?_
    refine w_iadd (n := 49) hM (dtab_at okX1_add 30 rfl) rfl ?_
    refine w_put (C := RX1) (T := TX1) (i := 2) (ty := .int) (n := 52) hM rfl (by decide) ly_X1 tyX1_ok nmX1 lkF_X1_25 rfl (by decide +kernel) rfl rfl (dtab_at okX1_add 31 rfl) rfl ?_
    refine w_aln (q := 0) (n := 53) hM (dtab_at okX1_add 32 rfl) rfl rfl ?_
    refine w_geti (C := RX1) (T := TX1) (i := 2) (n := 56) hM rfl (by decide) ly_X1 lkF_X1_25 (dtab_at okX1_add 33 rfl) rfl ?_
    refine w_ic (n := 57) hM (1 : Int32) (dtab_at okX1_add 34 rfl) (by decide) rfl ?_
    refine w_isub (n := 58) hM (dtab_at okX1_add 35 rfl) rfl ?_
    exact r_i hM (dtab_at okX1_add 36 rfl) (Option.some.inj hf)
  · skip
    rw [if_neg h6] at hf
    refine w_bi (n := 11) hM (-3 : Int32) (dtab_at okX1_add 4 rfl) (by decide) rfl ?_
    exact r_i hM (dtab_at okX1_add 5 rfl) (Option.some.inj hf)
def fX1_hasYear (S : PS) (a1 : Int32) (a2 : Int32) : Int32 := if ((a1 >>> ((a2 - (1 : Int32)) &&& 31)) &&& (1 : Int32)) = (0 : Int32) then (0 : Int32) else (1 : Int32)
set_option maxHeartbeats 4000000 in
set_option maxRecDepth 100000 in
theorem c_X1_hasYear {cy : ClassId × ClassId} {ad : Nat → Nat} {D : va_G} {l : Launch} (S : PS) (a1 : Int32) (a2 : Int32)  : PMi cy GC ad D l yX1_hasYear (wA yX1_hasYear cX1_hasYear 3 (some .boolean)) rmX1_hasYear [vr 1 55, vi a1, vi a2] S (fun x S' => x = (fX1_hasYear S a1 a2) ∧ S' = S) := by
  refine PM.of (lv := [(0, vr 1 55), (1, vi a1), (2, vi a2)]) GC_ok (by decide) (Nat.le_of_ble_eq_true rfl) rfl (by simp) ?_
  intro p e s m args below meth c A hM
  refine w_iln (q := 1) (n := 1) hM (dtab_at okX1_hasYear 0 rfl) rfl rfl ?_
  refine w_iln (q := 2) (n := 2) hM (dtab_at okX1_hasYear 1 rfl) rfl rfl ?_
  refine w_ic (n := 3) hM (1 : Int32) (dtab_at okX1_hasYear 2 rfl) (by decide) rfl ?_
  refine w_isub (n := 4) hM (dtab_at okX1_hasYear 3 rfl) rfl ?_
  refine w_ishr (n := 5) hM (dtab_at okX1_hasYear 4 rfl) rfl ?_
  refine w_ic (n := 6) hM (1 : Int32) (dtab_at okX1_hasYear 5 rfl) (by decide) rfl ?_
  refine w_iand (n := 7) hM (dtab_at okX1_hasYear 6 rfl) rfl ?_
  refine w_if_eq (n := 14) (n2 := 10) hM (dtab_at okX1_hasYear 7 rfl) (by decide) rfl (fun (h7 : ((a1 >>> ((a2 - (1 : Int32)) &&& 31)) &&& (1 : Int32)) = (0 : Int32)) => ?_) (fun (h7 : ¬ ((a1 >>> ((a2 - (1 : Int32)) &&& 31)) &&& (1 : Int32)) = (0 : Int32)) => ?_)
  · skip
    refine w_ic (n := 15) hM (0 : Int32) (dtab_at okX1_hasYear 10 rfl) (by decide) rfl ?_
    exact r_z hM (by decide) (dtab_at okX1_hasYear 11 rfl) ⟨by rw [fX1_hasYear, if_pos h7], rfl⟩
  · skip
    refine w_ic (n := 11) hM (1 : Int32) (dtab_at okX1_hasYear 8 rfl) (by decide) rfl ?_
    refine w_goto (n := 15) hM (dtab_at okX1_hasYear 9 rfl) (by decide) ?_
    exact r_z hM (by decide) (dtab_at okX1_hasYear 11 rfl) ⟨by rw [fX1_hasYear, if_neg h7], rfl⟩
def BX1_isEnough_43 (nF : Nat) (k7 : PS → Int32 → Int32 → Int32 → Int32 → Option (Int32)) (S : PS) (v1 : Int32) (v2 : Int32) (v4 : Int32) (t0 : Int32) (t1 : Int32) : Option (Int32) := (if v2 ≤ (t1 + t0) then (k7 S v1 v2 (t1 + t0) (v4 + (1 : Int32))) else (some (0 : Int32)))
set_option maxHeartbeats 4000000 in
set_option maxRecDepth 100000 in
theorem wBX1_isEnough_43 {cy : ClassId × ClassId} {ad : Nat → Nat} {D : va_G} {p : Program} {l : Launch} {e : Env} {s : State} {m : MethodId} {args : Array Value} {below : List Frame} {meth : Method} {c : Code} {A : Nat → Prop} (hM : MX cy GC ad D p s m args meth c cX1_isEnough 5 RX1 (some .boolean) A) (nF : Nat) (S0 : PS) (r : Int32) (k7 : PS → Int32 → Int32 → Int32 → Int32 → Option (Int32)) (hk7 : ∀ (S : PS) (v1 : Int32) (v2 : Int32) (v3 : Int32) (v4 : Int32), S = S0 → k7 S v1 v2 v3 v4 = some r → WW cy GC ad D p l e rmX1_isEnough s m args below meth c 5 A (poi (fun x S' => x = r ∧ S' = S0)) 7 [(0, vr 1 55), (1, vi v1), (2, vi v2), (3, vi v3), (4, vi v4)] [] S) (S : PS) (v1 : Int32) (v2 : Int32) (v4 : Int32) (t0 : Int32) (t1 : Int32) (hS : S = S0) (hf : BX1_isEnough_43 nF k7 S v1 v2 v4 t0 t1 = some r) : WW cy GC ad D p l e rmX1_isEnough s m args below meth c 5 A (poi (fun x S' => x = r ∧ S' = S0)) 43 [(0, vr 1 55), (1, vi v1), (2, vi v2), (4, vi v4)] [vi t0, vi t1] S := by
  rw [BX1_isEnough_43] at hf
  refine w_iadd (n := 44) hM (dtab_at okX1_isEnough 26 rfl) rfl ?_
  refine w_isn (n := 45) (lv' := [(3, vi (t1 + t0)), (0, vr 1 55), (1, vi v1), (2, vi v2), (4, vi v4)]) hM (dtab_at okX1_isEnough 27 rfl) (by decide) rfl rfl ?_
  refine w_iln (q := 3) (n := 46) hM (dtab_at okX1_isEnough 28 rfl) rfl rfl ?_
  refine w_iln (q := 0) (n := 47) hM (dtab_at okX1_isEnough 29 rfl) rfl rfl ?_
  refine w_ic_le (n := 52) (n2 := 50) hM (dtab_at okX1_isEnough 30 rfl) (by decide) rfl (fun (h47 : v2 ≤ (t1 + t0)) => ?_) (fun (h47 : ¬ v2 ≤ (t1 + t0)) => ?_)
  · skip
    rw [if_pos h47] at hf
    refine w_iinc (q := 4) (n := 55) (v := (v4 + (1 : Int32))) (lv' := [(4, vi (v4 + (1 : Int32))), (3, vi (t1 + t0)), (0, vr 1 55), (1, vi v1), (2, vi v2)]) hM (dtab_at okX1_isEnough 33 rfl) rfl rfl (by decide) rfl rfl ?_
    refine w_goto (n := 7) hM (dtab_at okX1_isEnough 34 rfl) (by decide) ?_
    refine WW.lvs [2, 3, 4, 1, 0] (lv2 := [(0, vr 1 55), (1, vi v1), (2, vi v2), (3, vi (t1 + t0)), (4, vi (v4 + (1 : Int32)))]) rfl ?_
    exact hk7 S v1 v2 (t1 + t0) (v4 + (1 : Int32)) hS hf
  · skip
    rw [if_neg h47] at hf
    refine w_ic (n := 51) hM (0 : Int32) (dtab_at okX1_isEnough 31 rfl) (by decide) rfl ?_
    exact r_z hM (by decide) (dtab_at okX1_isEnough 32 rfl) ⟨Option.some.inj hf, hS⟩
def LX1_isEnough_7 (nF : Nat) : Nat → PS → Int32 → Int32 → Int32 → Int32 → Option (Int32)
  | 0, _, _, _, _, _ => none
  | n + 1, S, v1, v2, v3, v4 => (if (8 : Int32) < v4 then (some (1 : Int32)) else (if v4 < 0 ∨ 9 ≤ v4.toNatClampNeg then none else (if (fX1_hasYear S v1 v4) = (0 : Int32) then (BX1_isEnough_43 nF (LX1_isEnough_7 nF n) S v1 (v2 + (S.2 57 v4.toNatClampNeg)) v4 (0 : Int32) v3) else (BX1_isEnough_43 nF (LX1_isEnough_7 nF n) S v1 (v2 + (S.2 57 v4.toNatClampNeg)) v4 (S.1 55 4) v3))))
set_option maxHeartbeats 4000000 in
set_option maxRecDepth 100000 in
theorem wLX1_isEnough_7 {cy : ClassId × ClassId} {ad : Nat → Nat} {D : va_G} {p : Program} {l : Launch} {e : Env} {s : State} {m : MethodId} {args : Array Value} {below : List Frame} {meth : Method} {c : Code} {A : Nat → Prop} (hM : MX cy GC ad D p s m args meth c cX1_isEnough 5 RX1 (some .boolean) A) (nF : Nat) (S0 : PS) (r : Int32) : ∀ (n : Nat) (S : PS) (v1 : Int32) (v2 : Int32) (v3 : Int32) (v4 : Int32), S = S0 → LX1_isEnough_7 nF n S v1 v2 v3 v4 = some r → WW cy GC ad D p l e rmX1_isEnough s m args below meth c 5 A (poi (fun x S' => x = r ∧ S' = S0)) 7 [(0, vr 1 55), (1, vi v1), (2, vi v2), (3, vi v3), (4, vi v4)] [] S := by
  intro n
  induction n with
  | zero => intro S v1 v2 v3 v4 hS hf; rw [LX1_isEnough_7] at hf; cases hf
  | succ n ih =>
    intro S v1 v2 v3 v4 hS hf
    rw [LX1_isEnough_7] at hf
    refine w_il (q := 4) (n := 9) hM (dtab_at okX1_isEnough 6 rfl) rfl rfl ?_
    refine w_bi (n := 11) hM (8 : Int32) (dtab_at okX1_isEnough 7 rfl) (by decide) rfl ?_
    refine w_ic_gt (n := 58) (n2 := 14) hM (dtab_at okX1_isEnough 8 rfl) (by decide) rfl (fun (h11 : (8 : Int32) < v4) => ?_) (fun (h11 : ¬ (8 : Int32) < v4) => ?_)
    · skip
      rw [if_pos h11] at hf
      refine w_ic (n := 59) hM (1 : Int32) (dtab_at okX1_isEnough 35 rfl) (by decide) rfl ?_
      exact r_z hM (by decide) (dtab_at okX1_isEnough 36 rfl) ⟨Option.some.inj hf, hS⟩
    · skip
      rw [if_neg h11] at hf
      refine w_iln (q := 2) (n := 15) hM (dtab_at okX1_isEnough 9 rfl) rfl rfl ?_
      refine w_aln (q := 0) (n := 16) hM (dtab_at okX1_isEnough 10 rfl) rfl rfl ?_
      refine w_getr (C := RX1) (T := TX1) (i := 1) (k2 := 109) (q := 57) (n := 19) hM rfl (by decide) (fun _ => rfl) ly_X1 lkF_X1_15 (dtab_at okX1_isEnough 11 rfl) rfl ?_
      refine w_il (q := 4) (n := 21) hM (dtab_at okX1_isEnough 12 rfl) rfl rfl ?_
      by_cases hg21 : v4 < 0 ∨ 9 ≤ v4.toNatClampNeg
      · rw [if_pos hg21] at hf; cases hf
      rw [if_neg hg21] at hf
      refine w_ald (nn := 9) (n := 22) hM rfl hg21 (dtab_at okX1_isEnough 13 rfl) rfl ?_
      refine w_iadd (n := 23) hM (dtab_at okX1_isEnough 14 rfl) rfl ?_
      refine w_isn (n := 24) (lv' := [(2, vi (v2 + (S.2 57 v4.toNatClampNeg))), (0, vr 1 55), (1, vi v1), (3, vi v3), (4, vi v4)]) hM (dtab_at okX1_isEnough 15 rfl) (by decide) rfl rfl ?_
      refine w_iln (q := 3) (n := 25) hM (dtab_at okX1_isEnough 16 rfl) rfl rfl ?_
      refine w_aln (q := 1) (n := 26) hM (dtab_at okX1_isEnough 17 rfl) rfl rfl ?_
      refine w_iln (q := 2) (n := 27) hM (dtab_at okX1_isEnough 18 rfl) rfl rfl ?_
      refine w_il (q := 4) (n := 29) hM (dtab_at okX1_isEnough 19 rfl) rfl rfl ?_
      refine w_callVi (n := 32) (As := [vi v1, vi v4]) (rest := [vi v3]) (k := 1) (j := 55) (C := RX1) (T := TX1) (N := 6) hM (c_X1_hasYear S v1 v4) lkM_X1_39 mv_X1_hasYear (by decide) rfl (by decide) rfl (Nat.le_of_ble_eq_true rfl) rfl (dtab_at okX1_isEnough 20 rfl) rfl (fun x0 S0 hp0 => ?_)
      obtain ⟨hx_, hs_⟩ := hp0
      have hs_ := hs_.symm
      subst hs_
      subst hx_
      refine w_if_eq (n := 42) (n2 := 35) hM (dtab_at okX1_isEnough 21 rfl) (by decide) rfl (fun (h32 : (fX1_hasYear S v1 v4) = (0 : Int32)) => ?_) (fun (h32 : ¬ (fX1_hasYear S v1 v4) = (0 : Int32)) => ?_)
      · skip
        rw [if_pos h32] at hf
        refine w_ic (n := 43) hM (0 : Int32) (dtab_at okX1_isEnough 25 rfl) (by decide) rfl ?_
        refine WW.lvs [1, 2, 0, 4] (lv2 := [(0, vr 1 55), (1, vi v1), (2, vi (v2 + (S.2 57 v4.toNatClampNeg))), (4, vi v4)]) rfl ?_
        exact wBX1_isEnough_43 hM nF S0 r (LX1_isEnough_7 nF n) ih S v1 (v2 + (S.2 57 v4.toNatClampNeg)) v4 (0 : Int32) v3 hS hf
      · skip
        rw [if_neg h32] at hf
        refine w_aln (q := 1) (n := 36) hM (dtab_at okX1_isEnough 22 rfl) rfl rfl ?_
        refine w_geti (C := RX1) (T := TX1) (i := 4) (n := 39) hM rfl (by decide) ly_X1 lkF_X1_18 (dtab_at okX1_isEnough 23 rfl) rfl ?_
        refine w_goto (n := 43) hM (dtab_at okX1_isEnough 24 rfl) (by decide) ?_
        refine WW.lvs [1, 2, 0, 4] (lv2 := [(0, vr 1 55), (1, vi v1), (2, vi (v2 + (S.2 57 v4.toNatClampNeg))), (4, vi v4)]) rfl ?_
        exact wBX1_isEnough_43 hM nF S0 r (LX1_isEnough_7 nF n) ih S v1 (v2 + (S.2 57 v4.toNatClampNeg)) v4 (S.1 55 4) v3 hS hf
def fX1_isEnough (nF : Nat) (S : PS) (a1 : Int32) : Option (Int32) := (LX1_isEnough_7 nF nF S a1 (0 : Int32) (0 : Int32) (1 : Int32))
set_option maxHeartbeats 4000000 in
set_option maxRecDepth 100000 in
theorem c_X1_isEnough {cy : ClassId × ClassId} {ad : Nat → Nat} {D : va_G} {l : Launch} (nF : Nat) (S : PS) (a1 : Int32) (r : Int32) (hf : fX1_isEnough nF S a1 = some r) : PMi cy GC ad D l yX1_isEnough (wA yX1_isEnough cX1_isEnough 5 (some .boolean)) rmX1_isEnough [vr 1 55, vi a1] S (fun x S' => x = r ∧ S' = S) := by
  refine PM.of (lv := [(0, vr 1 55), (1, vi a1)]) GC_ok (by decide) (Nat.le_of_ble_eq_true rfl) rfl (by simp) ?_
  intro p e s m args below meth c A hM
  rw [fX1_isEnough] at hf
  obtain ⟨S0, hS⟩ : ∃ S0 : PS, S = S0 := ⟨S, rfl⟩
  rw [show (fun (x : Int32) (S' : PS) => x = r ∧ S' = S) = (fun x S' => x = r ∧ S' = S0) by rw [hS]]
  refine w_ic (n := 1) hM (0 : Int32) (dtab_at okX1_isEnough 0 rfl) (by decide) rfl ?_
  refine w_isn (n := 2) (lv' := [(2, vi (0 : Int32)), (0, vr 1 55), (1, vi a1)]) hM (dtab_at okX1_isEnough 1 rfl) (by decide) rfl rfl ?_
  refine w_ic (n := 3) hM (0 : Int32) (dtab_at okX1_isEnough 2 rfl) (by decide) rfl ?_
  refine w_isn (n := 4) (lv' := [(3, vi (0 : Int32)), (2, vi (0 : Int32)), (0, vr 1 55), (1, vi a1)]) hM (dtab_at okX1_isEnough 3 rfl) (by decide) rfl rfl ?_
  refine w_ic (n := 5) hM (1 : Int32) (dtab_at okX1_isEnough 4 rfl) (by decide) rfl ?_
  refine w_is (n := 7) (lv' := [(4, vi (1 : Int32)), (3, vi (0 : Int32)), (2, vi (0 : Int32)), (0, vr 1 55), (1, vi a1)]) hM (dtab_at okX1_isEnough 5 rfl) (by decide) rfl rfl ?_
  refine WW.lvs [3, 4, 2, 1, 0] (lv2 := [(0, vr 1 55), (1, vi a1), (2, vi (0 : Int32)), (3, vi (0 : Int32)), (4, vi (1 : Int32))]) rfl ?_
  exact wLX1_isEnough_7 hM nF S0 r nF S a1 (0 : Int32) (0 : Int32) (1 : Int32) hS hf
def fJ6_bitCount_0f7a4 (S : PS) (a1 : Int32) : Int32 := ((((((((a1 - ((a1.toUInt32 >>> ((1 : Int32).toUInt32 &&& Int32.toUInt32 31)).toInt32 &&& (1431655765 : Int32))) &&& (858993459 : Int32)) + (((a1 - ((a1.toUInt32 >>> ((1 : Int32).toUInt32 &&& Int32.toUInt32 31)).toInt32 &&& (1431655765 : Int32))).toUInt32 >>> ((2 : Int32).toUInt32 &&& Int32.toUInt32 31)).toInt32 &&& (858993459 : Int32))) + ((((a1 - ((a1.toUInt32 >>> ((1 : Int32).toUInt32 &&& Int32.toUInt32 31)).toInt32 &&& (1431655765 : Int32))) &&& (858993459 : Int32)) + (((a1 - ((a1.toUInt32 >>> ((1 : Int32).toUInt32 &&& Int32.toUInt32 31)).toInt32 &&& (1431655765 : Int32))).toUInt32 >>> ((2 : Int32).toUInt32 &&& Int32.toUInt32 31)).toInt32 &&& (858993459 : Int32))).toUInt32 >>> ((4 : Int32).toUInt32 &&& Int32.toUInt32 31)).toInt32) &&& (252645135 : Int32)) + ((((((a1 - ((a1.toUInt32 >>> ((1 : Int32).toUInt32 &&& Int32.toUInt32 31)).toInt32 &&& (1431655765 : Int32))) &&& (858993459 : Int32)) + (((a1 - ((a1.toUInt32 >>> ((1 : Int32).toUInt32 &&& Int32.toUInt32 31)).toInt32 &&& (1431655765 : Int32))).toUInt32 >>> ((2 : Int32).toUInt32 &&& Int32.toUInt32 31)).toInt32 &&& (858993459 : Int32))) + ((((a1 - ((a1.toUInt32 >>> ((1 : Int32).toUInt32 &&& Int32.toUInt32 31)).toInt32 &&& (1431655765 : Int32))) &&& (858993459 : Int32)) + (((a1 - ((a1.toUInt32 >>> ((1 : Int32).toUInt32 &&& Int32.toUInt32 31)).toInt32 &&& (1431655765 : Int32))).toUInt32 >>> ((2 : Int32).toUInt32 &&& Int32.toUInt32 31)).toInt32 &&& (858993459 : Int32))).toUInt32 >>> ((4 : Int32).toUInt32 &&& Int32.toUInt32 31)).toInt32) &&& (252645135 : Int32)).toUInt32 >>> ((8 : Int32).toUInt32 &&& Int32.toUInt32 31)).toInt32) + (((((((a1 - ((a1.toUInt32 >>> ((1 : Int32).toUInt32 &&& Int32.toUInt32 31)).toInt32 &&& (1431655765 : Int32))) &&& (858993459 : Int32)) + (((a1 - ((a1.toUInt32 >>> ((1 : Int32).toUInt32 &&& Int32.toUInt32 31)).toInt32 &&& (1431655765 : Int32))).toUInt32 >>> ((2 : Int32).toUInt32 &&& Int32.toUInt32 31)).toInt32 &&& (858993459 : Int32))) + ((((a1 - ((a1.toUInt32 >>> ((1 : Int32).toUInt32 &&& Int32.toUInt32 31)).toInt32 &&& (1431655765 : Int32))) &&& (858993459 : Int32)) + (((a1 - ((a1.toUInt32 >>> ((1 : Int32).toUInt32 &&& Int32.toUInt32 31)).toInt32 &&& (1431655765 : Int32))).toUInt32 >>> ((2 : Int32).toUInt32 &&& Int32.toUInt32 31)).toInt32 &&& (858993459 : Int32))).toUInt32 >>> ((4 : Int32).toUInt32 &&& Int32.toUInt32 31)).toInt32) &&& (252645135 : Int32)) + ((((((a1 - ((a1.toUInt32 >>> ((1 : Int32).toUInt32 &&& Int32.toUInt32 31)).toInt32 &&& (1431655765 : Int32))) &&& (858993459 : Int32)) + (((a1 - ((a1.toUInt32 >>> ((1 : Int32).toUInt32 &&& Int32.toUInt32 31)).toInt32 &&& (1431655765 : Int32))).toUInt32 >>> ((2 : Int32).toUInt32 &&& Int32.toUInt32 31)).toInt32 &&& (858993459 : Int32))) + ((((a1 - ((a1.toUInt32 >>> ((1 : Int32).toUInt32 &&& Int32.toUInt32 31)).toInt32 &&& (1431655765 : Int32))) &&& (858993459 : Int32)) + (((a1 - ((a1.toUInt32 >>> ((1 : Int32).toUInt32 &&& Int32.toUInt32 31)).toInt32 &&& (1431655765 : Int32))).toUInt32 >>> ((2 : Int32).toUInt32 &&& Int32.toUInt32 31)).toInt32 &&& (858993459 : Int32))).toUInt32 >>> ((4 : Int32).toUInt32 &&& Int32.toUInt32 31)).toInt32) &&& (252645135 : Int32)).toUInt32 >>> ((8 : Int32).toUInt32 &&& Int32.toUInt32 31)).toInt32).toUInt32 >>> ((16 : Int32).toUInt32 &&& Int32.toUInt32 31)).toInt32) &&& (63 : Int32))
set_option maxHeartbeats 4000000 in
set_option maxRecDepth 100000 in
theorem c_J6_bitCount_0f7a4 {cy : ClassId × ClassId} {ad : Nat → Nat} {D : va_G} {l : Launch} (S : PS) (a1 : Int32)  : PMi cy GC ad D l yJ6_bitCount_0f7a4 (wA yJ6_bitCount_0f7a4 cJ6_bitCount_0f7a4 1 (some .int)) rmJ6_bitCount_0f7a4 [vi a1] S (fun x S' => x = (fJ6_bitCount_0f7a4 S a1) ∧ S' = S) := by
  refine PM.of (lv := [(0, vi a1)]) GC_ok (by decide) (Nat.le_of_ble_eq_true rfl) rfl (by simp) ?_
  intro p e s m args below meth c A hM
  refine w_iln (q := 0) (n := 1) hM (dtab_at okJ6_bitCount_0f7a4 0 rfl) rfl rfl ?_
  refine w_iln (q := 0) (n := 2) hM (dtab_at okJ6_bitCount_0f7a4 1 rfl) rfl rfl ?_
  refine w_ic (n := 3) hM (1 : Int32) (dtab_at okJ6_bitCount_0f7a4 2 rfl) (by decide) rfl ?_
  refine w_iushr (n := 4) hM (dtab_at okJ6_bitCount_0f7a4 3 rfl) rfl ?_
  refine w_ldcw (n := 7) (v := (1431655765 : Int32)) hM (dtab_at okJ6_bitCount_0f7a4 4 rfl) lkC_J6_265 rfl ?_
  refine w_iand (n := 8) hM (dtab_at okJ6_bitCount_0f7a4 5 rfl) rfl ?_
  refine w_isub (n := 9) hM (dtab_at okJ6_bitCount_0f7a4 6 rfl) rfl ?_
  refine w_isn (n := 10) (lv' := [(0, vi (a1 - ((a1.toUInt32 >>> ((1 : Int32).toUInt32 &&& Int32.toUInt32 31)).toInt32 &&& (1431655765 : Int32))))]) hM (dtab_at okJ6_bitCount_0f7a4 7 rfl) (by decide) rfl rfl ?_
  refine w_iln (q := 0) (n := 11) hM (dtab_at okJ6_bitCount_0f7a4 8 rfl) rfl rfl ?_
  refine w_ldcw (n := 14) (v := (858993459 : Int32)) hM (dtab_at okJ6_bitCount_0f7a4 9 rfl) lkC_J6_266 rfl ?_
  refine w_iand (n := 15) hM (dtab_at okJ6_bitCount_0f7a4 10 rfl) rfl ?_
  refine w_iln (q := 0) (n := 16) hM (dtab_at okJ6_bitCount_0f7a4 11 rfl) rfl rfl ?_
  refine w_ic (n := 17) hM (2 : Int32) (dtab_at okJ6_bitCount_0f7a4 12 rfl) (by decide) rfl ?_
  refine w_iushr (n := 18) hM (dtab_at okJ6_bitCount_0f7a4 13 rfl) rfl ?_
  refine w_ldcw (n := 21) (v := (858993459 : Int32)) hM (dtab_at okJ6_bitCount_0f7a4 14 rfl) lkC_J6_266 rfl ?_
  refine w_iand (n := 22) hM (dtab_at okJ6_bitCount_0f7a4 15 rfl) rfl ?_
  refine w_iadd (n := 23) hM (dtab_at okJ6_bitCount_0f7a4 16 rfl) rfl ?_
  refine w_isn (n := 24) (lv' := [(0, vi (((a1 - ((a1.toUInt32 >>> ((1 : Int32).toUInt32 &&& Int32.toUInt32 31)).toInt32 &&& (1431655765 : Int32))) &&& (858993459 : Int32)) + (((a1 - ((a1.toUInt32 >>> ((1 : Int32).toUInt32 &&& Int32.toUInt32 31)).toInt32 &&& (1431655765 : Int32))).toUInt32 >>> ((2 : Int32).toUInt32 &&& Int32.toUInt32 31)).toInt32 &&& (858993459 : Int32))))]) hM (dtab_at okJ6_bitCount_0f7a4 17 rfl) (by decide) rfl rfl ?_
  refine w_iln (q := 0) (n := 25) hM (dtab_at okJ6_bitCount_0f7a4 18 rfl) rfl rfl ?_
  refine w_iln (q := 0) (n := 26) hM (dtab_at okJ6_bitCount_0f7a4 19 rfl) rfl rfl ?_
  refine w_ic (n := 27) hM (4 : Int32) (dtab_at okJ6_bitCount_0f7a4 20 rfl) (by decide) rfl ?_
  refine w_iushr (n := 28) hM (dtab_at okJ6_bitCount_0f7a4 21 rfl) rfl ?_
  refine w_iadd (n := 29) hM (dtab_at okJ6_bitCount_0f7a4 22 rfl) rfl ?_
  refine w_ldcw (n := 32) (v := (252645135 : Int32)) hM (dtab_at okJ6_bitCount_0f7a4 23 rfl) lkC_J6_267 rfl ?_
  refine w_iand (n := 33) hM (dtab_at okJ6_bitCount_0f7a4 24 rfl) rfl ?_
  refine w_isn (n := 34) (lv' := [(0, vi (((((a1 - ((a1.toUInt32 >>> ((1 : Int32).toUInt32 &&& Int32.toUInt32 31)).toInt32 &&& (1431655765 : Int32))) &&& (858993459 : Int32)) + (((a1 - ((a1.toUInt32 >>> ((1 : Int32).toUInt32 &&& Int32.toUInt32 31)).toInt32 &&& (1431655765 : Int32))).toUInt32 >>> ((2 : Int32).toUInt32 &&& Int32.toUInt32 31)).toInt32 &&& (858993459 : Int32))) + ((((a1 - ((a1.toUInt32 >>> ((1 : Int32).toUInt32 &&& Int32.toUInt32 31)).toInt32 &&& (1431655765 : Int32))) &&& (858993459 : Int32)) + (((a1 - ((a1.toUInt32 >>> ((1 : Int32).toUInt32 &&& Int32.toUInt32 31)).toInt32 &&& (1431655765 : Int32))).toUInt32 >>> ((2 : Int32).toUInt32 &&& Int32.toUInt32 31)).toInt32 &&& (858993459 : Int32))).toUInt32 >>> ((4 : Int32).toUInt32 &&& Int32.toUInt32 31)).toInt32) &&& (252645135 : Int32)))]) hM (dtab_at okJ6_bitCount_0f7a4 25 rfl) (by decide) rfl rfl ?_
  refine w_iln (q := 0) (n := 35) hM (dtab_at okJ6_bitCount_0f7a4 26 rfl) rfl rfl ?_
  refine w_iln (q := 0) (n := 36) hM (dtab_at okJ6_bitCount_0f7a4 27 rfl) rfl rfl ?_
  refine w_bi (n := 38) hM (8 : Int32) (dtab_at okJ6_bitCount_0f7a4 28 rfl) (by decide) rfl ?_
  refine w_iushr (n := 39) hM (dtab_at okJ6_bitCount_0f7a4 29 rfl) rfl ?_
  refine w_iadd (n := 40) hM (dtab_at okJ6_bitCount_0f7a4 30 rfl) rfl ?_
  refine w_isn (n := 41) (lv' := [(0, vi ((((((a1 - ((a1.toUInt32 >>> ((1 : Int32).toUInt32 &&& Int32.toUInt32 31)).toInt32 &&& (1431655765 : Int32))) &&& (858993459 : Int32)) + (((a1 - ((a1.toUInt32 >>> ((1 : Int32).toUInt32 &&& Int32.toUInt32 31)).toInt32 &&& (1431655765 : Int32))).toUInt32 >>> ((2 : Int32).toUInt32 &&& Int32.toUInt32 31)).toInt32 &&& (858993459 : Int32))) + ((((a1 - ((a1.toUInt32 >>> ((1 : Int32).toUInt32 &&& Int32.toUInt32 31)).toInt32 &&& (1431655765 : Int32))) &&& (858993459 : Int32)) + (((a1 - ((a1.toUInt32 >>> ((1 : Int32).toUInt32 &&& Int32.toUInt32 31)).toInt32 &&& (1431655765 : Int32))).toUInt32 >>> ((2 : Int32).toUInt32 &&& Int32.toUInt32 31)).toInt32 &&& (858993459 : Int32))).toUInt32 >>> ((4 : Int32).toUInt32 &&& Int32.toUInt32 31)).toInt32) &&& (252645135 : Int32)) + ((((((a1 - ((a1.toUInt32 >>> ((1 : Int32).toUInt32 &&& Int32.toUInt32 31)).toInt32 &&& (1431655765 : Int32))) &&& (858993459 : Int32)) + (((a1 - ((a1.toUInt32 >>> ((1 : Int32).toUInt32 &&& Int32.toUInt32 31)).toInt32 &&& (1431655765 : Int32))).toUInt32 >>> ((2 : Int32).toUInt32 &&& Int32.toUInt32 31)).toInt32 &&& (858993459 : Int32))) + ((((a1 - ((a1.toUInt32 >>> ((1 : Int32).toUInt32 &&& Int32.toUInt32 31)).toInt32 &&& (1431655765 : Int32))) &&& (858993459 : Int32)) + (((a1 - ((a1.toUInt32 >>> ((1 : Int32).toUInt32 &&& Int32.toUInt32 31)).toInt32 &&& (1431655765 : Int32))).toUInt32 >>> ((2 : Int32).toUInt32 &&& Int32.toUInt32 31)).toInt32 &&& (858993459 : Int32))).toUInt32 >>> ((4 : Int32).toUInt32 &&& Int32.toUInt32 31)).toInt32) &&& (252645135 : Int32)).toUInt32 >>> ((8 : Int32).toUInt32 &&& Int32.toUInt32 31)).toInt32))]) hM (dtab_at okJ6_bitCount_0f7a4 31 rfl) (by decide) rfl rfl ?_
  refine w_iln (q := 0) (n := 42) hM (dtab_at okJ6_bitCount_0f7a4 32 rfl) rfl rfl ?_
  refine w_iln (q := 0) (n := 43) hM (dtab_at okJ6_bitCount_0f7a4 33 rfl) rfl rfl ?_
  refine w_bi (n := 45) hM (16 : Int32) (dtab_at okJ6_bitCount_0f7a4 34 rfl) (by decide) rfl ?_
  refine w_iushr (n := 46) hM (dtab_at okJ6_bitCount_0f7a4 35 rfl) rfl ?_
  refine w_iadd (n := 47) hM (dtab_at okJ6_bitCount_0f7a4 36 rfl) rfl ?_
  refine w_isn (n := 48) (lv' := [(0, vi (((((((a1 - ((a1.toUInt32 >>> ((1 : Int32).toUInt32 &&& Int32.toUInt32 31)).toInt32 &&& (1431655765 : Int32))) &&& (858993459 : Int32)) + (((a1 - ((a1.toUInt32 >>> ((1 : Int32).toUInt32 &&& Int32.toUInt32 31)).toInt32 &&& (1431655765 : Int32))).toUInt32 >>> ((2 : Int32).toUInt32 &&& Int32.toUInt32 31)).toInt32 &&& (858993459 : Int32))) + ((((a1 - ((a1.toUInt32 >>> ((1 : Int32).toUInt32 &&& Int32.toUInt32 31)).toInt32 &&& (1431655765 : Int32))) &&& (858993459 : Int32)) + (((a1 - ((a1.toUInt32 >>> ((1 : Int32).toUInt32 &&& Int32.toUInt32 31)).toInt32 &&& (1431655765 : Int32))).toUInt32 >>> ((2 : Int32).toUInt32 &&& Int32.toUInt32 31)).toInt32 &&& (858993459 : Int32))).toUInt32 >>> ((4 : Int32).toUInt32 &&& Int32.toUInt32 31)).toInt32) &&& (252645135 : Int32)) + ((((((a1 - ((a1.toUInt32 >>> ((1 : Int32).toUInt32 &&& Int32.toUInt32 31)).toInt32 &&& (1431655765 : Int32))) &&& (858993459 : Int32)) + (((a1 - ((a1.toUInt32 >>> ((1 : Int32).toUInt32 &&& Int32.toUInt32 31)).toInt32 &&& (1431655765 : Int32))).toUInt32 >>> ((2 : Int32).toUInt32 &&& Int32.toUInt32 31)).toInt32 &&& (858993459 : Int32))) + ((((a1 - ((a1.toUInt32 >>> ((1 : Int32).toUInt32 &&& Int32.toUInt32 31)).toInt32 &&& (1431655765 : Int32))) &&& (858993459 : Int32)) + (((a1 - ((a1.toUInt32 >>> ((1 : Int32).toUInt32 &&& Int32.toUInt32 31)).toInt32 &&& (1431655765 : Int32))).toUInt32 >>> ((2 : Int32).toUInt32 &&& Int32.toUInt32 31)).toInt32 &&& (858993459 : Int32))).toUInt32 >>> ((4 : Int32).toUInt32 &&& Int32.toUInt32 31)).toInt32) &&& (252645135 : Int32)).toUInt32 >>> ((8 : Int32).toUInt32 &&& Int32.toUInt32 31)).toInt32) + (((((((a1 - ((a1.toUInt32 >>> ((1 : Int32).toUInt32 &&& Int32.toUInt32 31)).toInt32 &&& (1431655765 : Int32))) &&& (858993459 : Int32)) + (((a1 - ((a1.toUInt32 >>> ((1 : Int32).toUInt32 &&& Int32.toUInt32 31)).toInt32 &&& (1431655765 : Int32))).toUInt32 >>> ((2 : Int32).toUInt32 &&& Int32.toUInt32 31)).toInt32 &&& (858993459 : Int32))) + ((((a1 - ((a1.toUInt32 >>> ((1 : Int32).toUInt32 &&& Int32.toUInt32 31)).toInt32 &&& (1431655765 : Int32))) &&& (858993459 : Int32)) + (((a1 - ((a1.toUInt32 >>> ((1 : Int32).toUInt32 &&& Int32.toUInt32 31)).toInt32 &&& (1431655765 : Int32))).toUInt32 >>> ((2 : Int32).toUInt32 &&& Int32.toUInt32 31)).toInt32 &&& (858993459 : Int32))).toUInt32 >>> ((4 : Int32).toUInt32 &&& Int32.toUInt32 31)).toInt32) &&& (252645135 : Int32)) + ((((((a1 - ((a1.toUInt32 >>> ((1 : Int32).toUInt32 &&& Int32.toUInt32 31)).toInt32 &&& (1431655765 : Int32))) &&& (858993459 : Int32)) + (((a1 - ((a1.toUInt32 >>> ((1 : Int32).toUInt32 &&& Int32.toUInt32 31)).toInt32 &&& (1431655765 : Int32))).toUInt32 >>> ((2 : Int32).toUInt32 &&& Int32.toUInt32 31)).toInt32 &&& (858993459 : Int32))) + ((((a1 - ((a1.toUInt32 >>> ((1 : Int32).toUInt32 &&& Int32.toUInt32 31)).toInt32 &&& (1431655765 : Int32))) &&& (858993459 : Int32)) + (((a1 - ((a1.toUInt32 >>> ((1 : Int32).toUInt32 &&& Int32.toUInt32 31)).toInt32 &&& (1431655765 : Int32))).toUInt32 >>> ((2 : Int32).toUInt32 &&& Int32.toUInt32 31)).toInt32 &&& (858993459 : Int32))).toUInt32 >>> ((4 : Int32).toUInt32 &&& Int32.toUInt32 31)).toInt32) &&& (252645135 : Int32)).toUInt32 >>> ((8 : Int32).toUInt32 &&& Int32.toUInt32 31)).toInt32).toUInt32 >>> ((16 : Int32).toUInt32 &&& Int32.toUInt32 31)).toInt32))]) hM (dtab_at okJ6_bitCount_0f7a4 37 rfl) (by decide) rfl rfl ?_
  refine w_iln (q := 0) (n := 49) hM (dtab_at okJ6_bitCount_0f7a4 38 rfl) rfl rfl ?_
  refine w_bi (n := 51) hM (63 : Int32) (dtab_at okJ6_bitCount_0f7a4 39 rfl) (by decide) rfl ?_
  refine w_iand (n := 52) hM (dtab_at okJ6_bitCount_0f7a4 40 rfl) rfl ?_
  exact r_i hM (dtab_at okJ6_bitCount_0f7a4 41 rfl) ⟨by rw [fJ6_bitCount_0f7a4], rfl⟩
def fX1_costOf (S : PS) (a1 : Int32) : Int32 := ((S.1 55 3) + ((S.1 55 5) * (fJ6_bitCount_0f7a4 S a1)))
set_option maxHeartbeats 4000000 in
set_option maxRecDepth 100000 in
theorem c_X1_costOf {cy : ClassId × ClassId} {ad : Nat → Nat} {D : va_G} {l : Launch} (S : PS) (a1 : Int32)  : PMi cy GC ad D l yX1_costOf (wA yX1_costOf cX1_costOf 2 (some .int)) rmX1_costOf [vr 1 55, vi a1] S (fun x S' => x = (fX1_costOf S a1) ∧ S' = S) := by
  refine PM.of (lv := [(0, vr 1 55), (1, vi a1)]) GC_ok (by decide) (Nat.le_of_ble_eq_true rfl) rfl (by simp) ?_
  intro p e s m args below meth c A hM
  refine w_aln (q := 0) (n := 1) hM (dtab_at okX1_costOf 0 rfl) rfl rfl ?_
  refine w_geti (C := RX1) (T := TX1) (i := 3) (n := 4) hM rfl (by decide) ly_X1 lkF_X1_28 (dtab_at okX1_costOf 1 rfl) rfl ?_
  refine w_aln (q := 0) (n := 5) hM (dtab_at okX1_costOf 2 rfl) rfl rfl ?_
  refine w_geti (C := RX1) (T := TX1) (i := 5) (n := 8) hM rfl (by decide) ly_X1 lkF_X1_22 (dtab_at okX1_costOf 3 rfl) rfl ?_
  refine w_iln (q := 1) (n := 9) hM (dtab_at okX1_costOf 4 rfl) rfl rfl ?_
  refine w_callSi (n := 12) (As := [vi a1]) (rest := [vi (S.1 55 5), vi (S.1 55 3)]) hM (c_J6_bitCount_0f7a4 S a1) lkM_X1_43 ms_J6_bitCount_0f7a4 (by decide) rfl (Nat.le_of_ble_eq_true rfl) rfl (dtab_at okX1_costOf 5 rfl) rfl (fun x0 S0 hp0 => ?_)
  obtain ⟨hx_, hs_⟩ := hp0
  have hs_ := hs_.symm
  subst hs_
  subst hx_
  refine w_imul (n := 13) hM (dtab_at okX1_costOf 6 rfl) rfl ?_
  refine w_iadd (n := 14) hM (dtab_at okX1_costOf 7 rfl) rfl ?_
  exact r_i hM (dtab_at okX1_costOf 8 rfl) ⟨by rw [fX1_costOf], rfl⟩
def LX1_bestYears_4 (nF : Nat) : Nat → PS → Int32 → Int32 → Option (Int32)
  | 0, _, _, _ => none
  | n + 1, S, v1, v2 => (if (255 : Int32) < v2 then (some v1) else ((fX1_isEnough nF S v2).bind fun r0 => (if r0 = (0 : Int32) then (LX1_bestYears_4 nF n S v1 (v2 + (1 : Int32))) else (if v1 = (-1 : Int32) then (LX1_bestYears_4 nF n S v2 (v2 + (1 : Int32))) else (if (fX1_costOf S v1) ≤ (fX1_costOf S v2) then (LX1_bestYears_4 nF n S v1 (v2 + (1 : Int32))) else (LX1_bestYears_4 nF n S v2 (v2 + (1 : Int32))))))))
set_option maxHeartbeats 4000000 in
set_option maxRecDepth 100000 in
theorem wLX1_bestYears_4 {cy : ClassId × ClassId} {ad : Nat → Nat} {D : va_G} {p : Program} {l : Launch} {e : Env} {s : State} {m : MethodId} {args : Array Value} {below : List Frame} {meth : Method} {c : Code} {A : Nat → Prop} (hM : MX cy GC ad D p s m args meth c cX1_bestYears 3 RX1 (some .int) A) (nF : Nat) (S0 : PS) (r : Int32) : ∀ (n : Nat) (S : PS) (v1 : Int32) (v2 : Int32), S = S0 → LX1_bestYears_4 nF n S v1 v2 = some r → WW cy GC ad D p l e rmX1_bestYears s m args below meth c 3 A (poi (fun x S' => x = r ∧ S' = S0)) 4 [(0, vr 1 55), (1, vi v1), (2, vi v2)] [] S := by
  intro n
  induction n with
  | zero => intro S v1 v2 hS hf; rw [LX1_bestYears_4] at hf; cases hf
  | succ n ih =>
    intro S v1 v2 hS hf
    rw [LX1_bestYears_4] at hf
    refine w_iln (q := 2) (n := 5) hM (dtab_at okX1_bestYears 4 rfl) rfl rfl ?_
    refine w_si (n := 8) hM (255 : Int32) (dtab_at okX1_bestYears 5 rfl) (by decide) rfl ?_
    refine w_ic_gt (n := 45) (n2 := 11) hM (dtab_at okX1_bestYears 6 rfl) (by decide) rfl (fun (h8 : (255 : Int32) < v2) => ?_) (fun (h8 : ¬ (255 : Int32) < v2) => ?_)
    · skip
      rw [if_pos h8] at hf
      refine w_iln (q := 1) (n := 46) hM (dtab_at okX1_bestYears 25 rfl) rfl rfl ?_
      exact r_i hM (dtab_at okX1_bestYears 26 rfl) ⟨Option.some.inj hf, hS⟩
    · skip
      rw [if_neg h8] at hf
      refine w_aln (q := 0) (n := 12) hM (dtab_at okX1_bestYears 7 rfl) rfl rfl ?_
      refine w_iln (q := 2) (n := 13) hM (dtab_at okX1_bestYears 8 rfl) rfl rfl ?_
      obtain ⟨r0, hr0, hf⟩ := Option.bind_eq_some_iff.mp hf
      refine w_callVi (n := 16) (As := [vi v2]) (rest := []) (k := 1) (j := 55) (C := RX1) (T := TX1) (N := 6) hM (c_X1_isEnough nF S v2 r0 hr0) lkM_X1_31 mv_X1_isEnough (by decide) rfl (by decide) rfl (Nat.le_of_ble_eq_true rfl) rfl (dtab_at okX1_bestYears 9 rfl) rfl (fun x0 S0 hp0 => ?_)
      obtain ⟨hx_, hs_⟩ := hp0
      have hs_ := hs_.symm
      have hx_ := hx_.symm
      subst hs_
      subst hx_
      refine w_if_eq (n := 39) (n2 := 19) hM (dtab_at okX1_bestYears 10 rfl) (by decide) rfl (fun (h16 : r0 = (0 : Int32)) => ?_) (fun (h16 : ¬ r0 = (0 : Int32)) => ?_)
      · skip
        rw [if_pos h16] at hf
        refine w_iinc (q := 2) (n := 42) (v := (v2 + (1 : Int32))) (lv' := [(2, vi (v2 + (1 : Int32))), (0, vr 1 55), (1, vi v1)]) hM (dtab_at okX1_bestYears 23 rfl) rfl rfl (by decide) rfl rfl ?_
        refine w_goto (n := 4) hM (dtab_at okX1_bestYears 24 rfl) (by decide) ?_
        refine WW.lvs [1, 2, 0] (lv2 := [(0, vr 1 55), (1, vi v1), (2, vi (v2 + (1 : Int32)))]) rfl ?_
        exact ih S v1 (v2 + (1 : Int32)) hS hf
      · skip
        rw [if_neg h16] at hf
        refine w_iln (q := 1) (n := 20) hM (dtab_at okX1_bestYears 11 rfl) rfl rfl ?_
        refine w_ic (n := 21) hM (-1 : Int32) (dtab_at okX1_bestYears 12 rfl) (by decide) rfl ?_
        refine w_ic_eq (n := 37) (n2 := 24) hM (dtab_at okX1_bestYears 13 rfl) (by decide) rfl (fun (h21 : v1 = (-1 : Int32)) => ?_) (fun (h21 : ¬ v1 = (-1 : Int32)) => ?_)
        · skip
          rw [if_pos h21] at hf
          refine w_iln (q := 2) (n := 38) hM (dtab_at okX1_bestYears 21 rfl) rfl rfl ?_
          refine w_isn (n := 39) (lv' := [(1, vi v2), (0, vr 1 55), (2, vi v2)]) hM (dtab_at okX1_bestYears 22 rfl) (by decide) rfl rfl ?_
          refine w_iinc (q := 2) (n := 42) (v := (v2 + (1 : Int32))) (lv' := [(2, vi (v2 + (1 : Int32))), (1, vi v2), (0, vr 1 55)]) hM (dtab_at okX1_bestYears 23 rfl) rfl rfl (by decide) rfl rfl ?_
          refine w_goto (n := 4) hM (dtab_at okX1_bestYears 24 rfl) (by decide) ?_
          refine WW.lvs [2, 1, 0] (lv2 := [(0, vr 1 55), (1, vi v2), (2, vi (v2 + (1 : Int32)))]) rfl ?_
          exact ih S v2 (v2 + (1 : Int32)) hS hf
        · skip
          rw [if_neg h21] at hf
          refine w_aln (q := 0) (n := 25) hM (dtab_at okX1_bestYears 14 rfl) rfl rfl ?_
          refine w_iln (q := 2) (n := 26) hM (dtab_at okX1_bestYears 15 rfl) rfl rfl ?_
          refine w_callVi (n := 29) (As := [vi v2]) (rest := []) (k := 1) (j := 55) (C := RX1) (T := TX1) (N := 6) hM (c_X1_costOf S v2) lkM_X1_35 mv_X1_costOf (by decide) rfl (by decide) rfl (Nat.le_of_ble_eq_true rfl) rfl (dtab_at okX1_bestYears 16 rfl) rfl (fun x1 S1 hp1 => ?_)
          obtain ⟨hx_, hs_⟩ := hp1
          have hs_ := hs_.symm
          subst hs_
          subst hx_
          refine w_aln (q := 0) (n := 30) hM (dtab_at okX1_bestYears 17 rfl) rfl rfl ?_
          refine w_iln (q := 1) (n := 31) hM (dtab_at okX1_bestYears 18 rfl) rfl rfl ?_
          refine w_callVi (n := 34) (As := [vi v1]) (rest := [vi (fX1_costOf S v2)]) (k := 1) (j := 55) (C := RX1) (T := TX1) (N := 6) hM (c_X1_costOf S v1) lkM_X1_35 mv_X1_costOf (by decide) rfl (by decide) rfl (Nat.le_of_ble_eq_true rfl) rfl (dtab_at okX1_bestYears 19 rfl) rfl (fun x2 S2 hp2 => ?_)
          obtain ⟨hx_, hs_⟩ := hp2
          have hs_ := hs_.symm
          subst hs_
          subst hx_
          refine w_ic_ge (n := 39) (n2 := 37) hM (dtab_at okX1_bestYears 20 rfl) (by decide) rfl (fun (h34 : (fX1_costOf S v1) ≤ (fX1_costOf S v2)) => ?_) (fun (h34 : ¬ (fX1_costOf S v1) ≤ (fX1_costOf S v2)) => ?_)
          · skip
            rw [if_pos h34] at hf
            refine w_iinc (q := 2) (n := 42) (v := (v2 + (1 : Int32))) (lv' := [(2, vi (v2 + (1 : Int32))), (0, vr 1 55), (1, vi v1)]) hM (dtab_at okX1_bestYears 23 rfl) rfl rfl (by decide) rfl rfl ?_
            refine w_goto (n := 4) hM (dtab_at okX1_bestYears 24 rfl) (by decide) ?_
            refine WW.lvs [1, 2, 0] (lv2 := [(0, vr 1 55), (1, vi v1), (2, vi (v2 + (1 : Int32)))]) rfl ?_
            exact ih S v1 (v2 + (1 : Int32)) hS hf
          · skip
            rw [if_neg h34] at hf
            refine w_iln (q := 2) (n := 38) hM (dtab_at okX1_bestYears 21 rfl) rfl rfl ?_
            refine w_isn (n := 39) (lv' := [(1, vi v2), (0, vr 1 55), (2, vi v2)]) hM (dtab_at okX1_bestYears 22 rfl) (by decide) rfl rfl ?_
            refine w_iinc (q := 2) (n := 42) (v := (v2 + (1 : Int32))) (lv' := [(2, vi (v2 + (1 : Int32))), (1, vi v2), (0, vr 1 55)]) hM (dtab_at okX1_bestYears 23 rfl) rfl rfl (by decide) rfl rfl ?_
            refine w_goto (n := 4) hM (dtab_at okX1_bestYears 24 rfl) (by decide) ?_
            refine WW.lvs [2, 1, 0] (lv2 := [(0, vr 1 55), (1, vi v2), (2, vi (v2 + (1 : Int32)))]) rfl ?_
            exact ih S v2 (v2 + (1 : Int32)) hS hf
def fX1_bestYears (nF : Nat) (S : PS) : Option (Int32) := (LX1_bestYears_4 nF nF S (-1 : Int32) (0 : Int32))
set_option maxHeartbeats 4000000 in
set_option maxRecDepth 100000 in
theorem c_X1_bestYears {cy : ClassId × ClassId} {ad : Nat → Nat} {D : va_G} {l : Launch} (nF : Nat) (S : PS) (r : Int32) (hf : fX1_bestYears nF S = some r) : PMi cy GC ad D l yX1_bestYears (wA yX1_bestYears cX1_bestYears 3 (some .int)) rmX1_bestYears [vr 1 55] S (fun x S' => x = r ∧ S' = S) := by
  refine PM.of (lv := [(0, vr 1 55)]) GC_ok (by decide) (Nat.le_of_ble_eq_true rfl) rfl (by simp) ?_
  intro p e s m args below meth c A hM
  rw [fX1_bestYears] at hf
  obtain ⟨S0, hS⟩ : ∃ S0 : PS, S = S0 := ⟨S, rfl⟩
  rw [show (fun (x : Int32) (S' : PS) => x = r ∧ S' = S) = (fun x S' => x = r ∧ S' = S0) by rw [hS]]
  refine w_ic (n := 1) hM (-1 : Int32) (dtab_at okX1_bestYears 0 rfl) (by decide) rfl ?_
  refine w_isn (n := 2) (lv' := [(1, vi (-1 : Int32)), (0, vr 1 55)]) hM (dtab_at okX1_bestYears 1 rfl) (by decide) rfl rfl ?_
  refine w_ic (n := 3) hM (0 : Int32) (dtab_at okX1_bestYears 2 rfl) (by decide) rfl ?_
  refine w_isn (n := 4) (lv' := [(2, vi (0 : Int32)), (1, vi (-1 : Int32)), (0, vr 1 55)]) hM (dtab_at okX1_bestYears 3 rfl) (by decide) rfl rfl ?_
  refine WW.lvs [2, 1, 0] (lv2 := [(0, vr 1 55), (1, vi (-1 : Int32)), (2, vi (0 : Int32))]) rfl ?_
  exact wLX1_bestYears_4 hM nF S0 r nF S (-1 : Int32) (0 : Int32) hS hf
def LX1_worksAheadOf_4 (nF : Nat) : Nat → PS → Int32 → Int32 → Int32 → Option (Int32)
  | 0, _, _, _, _ => none
  | n + 1, S, v1, v2, v3 => (if (S.1 55 2) ≤ v3 then (some v2) else (if v3 < 0 ∨ 30 ≤ v3.toNatClampNeg then none else (if v1 < 0 ∨ 30 ≤ v1.toNatClampNeg then none else (if (S.2 56 v3.toNatClampNeg) < (S.2 56 v1.toNatClampNeg) then (LX1_worksAheadOf_4 nF n S v1 (v2 + (1 : Int32)) (v3 + (1 : Int32))) else (if (S.2 56 v3.toNatClampNeg) = (S.2 56 v1.toNatClampNeg) then (if v1 ≤ v3 then (LX1_worksAheadOf_4 nF n S v1 v2 (v3 + (1 : Int32))) else (LX1_worksAheadOf_4 nF n S v1 (v2 + (1 : Int32)) (v3 + (1 : Int32)))) else (LX1_worksAheadOf_4 nF n S v1 v2 (v3 + (1 : Int32))))))))
set_option maxHeartbeats 4000000 in
set_option maxRecDepth 100000 in
theorem wLX1_worksAheadOf_4 {cy : ClassId × ClassId} {ad : Nat → Nat} {D : va_G} {p : Program} {l : Launch} {e : Env} {s : State} {m : MethodId} {args : Array Value} {below : List Frame} {meth : Method} {c : Code} {A : Nat → Prop} (hM : MX cy GC ad D p s m args meth c cX1_worksAheadOf 4 RX1 (some .int) A) (nF : Nat) (S0 : PS) (r : Int32) : ∀ (n : Nat) (S : PS) (v1 : Int32) (v2 : Int32) (v3 : Int32), S = S0 → LX1_worksAheadOf_4 nF n S v1 v2 v3 = some r → WW cy GC ad D p l e rmX1_worksAheadOf s m args below meth c 4 A (poi (fun x S' => x = r ∧ S' = S0)) 4 [(0, vr 1 55), (1, vi v1), (2, vi v2), (3, vi v3)] [] S := by
  intro n
  induction n with
  | zero => intro S v1 v2 v3 hS hf; rw [LX1_worksAheadOf_4] at hf; cases hf
  | succ n ih =>
    intro S v1 v2 v3 hS hf
    rw [LX1_worksAheadOf_4] at hf
    refine w_iln (q := 3) (n := 5) hM (dtab_at okX1_worksAheadOf 4 rfl) rfl rfl ?_
    refine w_aln (q := 0) (n := 6) hM (dtab_at okX1_worksAheadOf 5 rfl) rfl rfl ?_
    refine w_geti (C := RX1) (T := TX1) (i := 2) (n := 9) hM rfl (by decide) ly_X1 lkF_X1_25 (dtab_at okX1_worksAheadOf 6 rfl) rfl ?_
    refine w_ic_ge (n := 56) (n2 := 12) hM (dtab_at okX1_worksAheadOf 7 rfl) (by decide) rfl (fun (h9 : (S.1 55 2) ≤ v3) => ?_) (fun (h9 : ¬ (S.1 55 2) ≤ v3) => ?_)
    · skip
      rw [if_pos h9] at hf
      refine w_iln (q := 2) (n := 57) hM (dtab_at okX1_worksAheadOf 32 rfl) rfl rfl ?_
      exact r_i hM (dtab_at okX1_worksAheadOf 33 rfl) ⟨Option.some.inj hf, hS⟩
    · skip
      rw [if_neg h9] at hf
      refine w_aln (q := 0) (n := 13) hM (dtab_at okX1_worksAheadOf 8 rfl) rfl rfl ?_
      refine w_getr (C := RX1) (T := TX1) (i := 0) (k2 := 130) (q := 56) (n := 16) hM rfl (by decide) (fun _ => rfl) ly_X1 lkF_X1_9 (dtab_at okX1_worksAheadOf 9 rfl) rfl ?_
      refine w_iln (q := 3) (n := 17) hM (dtab_at okX1_worksAheadOf 10 rfl) rfl rfl ?_
      by_cases hg17 : v3 < 0 ∨ 30 ≤ v3.toNatClampNeg
      · rw [if_pos hg17] at hf; cases hf
      rw [if_neg hg17] at hf
      refine w_ald (nn := 30) (n := 18) hM rfl hg17 (dtab_at okX1_worksAheadOf 11 rfl) rfl ?_
      refine w_aln (q := 0) (n := 19) hM (dtab_at okX1_worksAheadOf 12 rfl) rfl rfl ?_
      refine w_getr (C := RX1) (T := TX1) (i := 0) (k2 := 130) (q := 56) (n := 22) hM rfl (by decide) (fun _ => rfl) ly_X1 lkF_X1_9 (dtab_at okX1_worksAheadOf 13 rfl) rfl ?_
      refine w_iln (q := 1) (n := 23) hM (dtab_at okX1_worksAheadOf 14 rfl) rfl rfl ?_
      by_cases hg23 : v1 < 0 ∨ 30 ≤ v1.toNatClampNeg
      · rw [if_pos hg23] at hf; cases hf
      rw [if_neg hg23] at hf
      refine w_ald (nn := 30) (n := 24) hM rfl hg23 (dtab_at okX1_worksAheadOf 15 rfl) rfl ?_
      refine w_ic_lt (n := 47) (n2 := 27) hM (dtab_at okX1_worksAheadOf 16 rfl) (by decide) rfl (fun (h24 : (S.2 56 v3.toNatClampNeg) < (S.2 56 v1.toNatClampNeg)) => ?_) (fun (h24 : ¬ (S.2 56 v3.toNatClampNeg) < (S.2 56 v1.toNatClampNeg)) => ?_)
      · skip
        rw [if_pos h24] at hf
        refine w_iinc (q := 2) (n := 50) (v := (v2 + (1 : Int32))) (lv' := [(2, vi (v2 + (1 : Int32))), (0, vr 1 55), (1, vi v1), (3, vi v3)]) hM (dtab_at okX1_worksAheadOf 29 rfl) rfl rfl (by decide) rfl rfl ?_
        refine w_iinc (q := 3) (n := 53) (v := (v3 + (1 : Int32))) (lv' := [(3, vi (v3 + (1 : Int32))), (2, vi (v2 + (1 : Int32))), (0, vr 1 55), (1, vi v1)]) hM (dtab_at okX1_worksAheadOf 30 rfl) rfl rfl (by decide) rfl rfl ?_
        refine w_goto (n := 4) hM (dtab_at okX1_worksAheadOf 31 rfl) (by decide) ?_
        refine WW.lvs [2, 3, 1, 0] (lv2 := [(0, vr 1 55), (1, vi v1), (2, vi (v2 + (1 : Int32))), (3, vi (v3 + (1 : Int32)))]) rfl ?_
        exact ih S v1 (v2 + (1 : Int32)) (v3 + (1 : Int32)) hS hf
      · skip
        rw [if_neg h24] at hf
        refine w_aln (q := 0) (n := 28) hM (dtab_at okX1_worksAheadOf 17 rfl) rfl rfl ?_
        refine w_getr (C := RX1) (T := TX1) (i := 0) (k2 := 130) (q := 56) (n := 31) hM rfl (by decide) (fun _ => rfl) ly_X1 lkF_X1_9 (dtab_at okX1_worksAheadOf 18 rfl) rfl ?_
        refine w_iln (q := 3) (n := 32) hM (dtab_at okX1_worksAheadOf 19 rfl) rfl rfl ?_
        refine w_ald (nn := 30) (n := 33) hM rfl hg17 (dtab_at okX1_worksAheadOf 20 rfl) rfl ?_
        refine w_aln (q := 0) (n := 34) hM (dtab_at okX1_worksAheadOf 21 rfl) rfl rfl ?_
        refine w_getr (C := RX1) (T := TX1) (i := 0) (k2 := 130) (q := 56) (n := 37) hM rfl (by decide) (fun _ => rfl) ly_X1 lkF_X1_9 (dtab_at okX1_worksAheadOf 22 rfl) rfl ?_
        refine w_iln (q := 1) (n := 38) hM (dtab_at okX1_worksAheadOf 23 rfl) rfl rfl ?_
        refine w_ald (nn := 30) (n := 39) hM rfl hg23 (dtab_at okX1_worksAheadOf 24 rfl) rfl ?_
        refine w_ic_ne (n := 50) (n2 := 42) hM (dtab_at okX1_worksAheadOf 25 rfl) (by decide) rfl (fun (h39 : ¬ (S.2 56 v3.toNatClampNeg) = (S.2 56 v1.toNatClampNeg)) => ?_) (fun (h39 : (S.2 56 v3.toNatClampNeg) = (S.2 56 v1.toNatClampNeg)) => ?_)
        · skip
          rw [if_neg h39] at hf
          refine w_iinc (q := 3) (n := 53) (v := (v3 + (1 : Int32))) (lv' := [(3, vi (v3 + (1 : Int32))), (0, vr 1 55), (1, vi v1), (2, vi v2)]) hM (dtab_at okX1_worksAheadOf 30 rfl) rfl rfl (by decide) rfl rfl ?_
          refine w_goto (n := 4) hM (dtab_at okX1_worksAheadOf 31 rfl) (by decide) ?_
          refine WW.lvs [1, 2, 3, 0] (lv2 := [(0, vr 1 55), (1, vi v1), (2, vi v2), (3, vi (v3 + (1 : Int32)))]) rfl ?_
          exact ih S v1 v2 (v3 + (1 : Int32)) hS hf
        · skip
          rw [if_pos h39] at hf
          refine w_iln (q := 3) (n := 43) hM (dtab_at okX1_worksAheadOf 26 rfl) rfl rfl ?_
          refine w_iln (q := 1) (n := 44) hM (dtab_at okX1_worksAheadOf 27 rfl) rfl rfl ?_
          refine w_ic_ge (n := 50) (n2 := 47) hM (dtab_at okX1_worksAheadOf 28 rfl) (by decide) rfl (fun (h44 : v1 ≤ v3) => ?_) (fun (h44 : ¬ v1 ≤ v3) => ?_)
          · skip
            rw [if_pos h44] at hf
            refine w_iinc (q := 3) (n := 53) (v := (v3 + (1 : Int32))) (lv' := [(3, vi (v3 + (1 : Int32))), (0, vr 1 55), (1, vi v1), (2, vi v2)]) hM (dtab_at okX1_worksAheadOf 30 rfl) rfl rfl (by decide) rfl rfl ?_
            refine w_goto (n := 4) hM (dtab_at okX1_worksAheadOf 31 rfl) (by decide) ?_
            refine WW.lvs [1, 2, 3, 0] (lv2 := [(0, vr 1 55), (1, vi v1), (2, vi v2), (3, vi (v3 + (1 : Int32)))]) rfl ?_
            exact ih S v1 v2 (v3 + (1 : Int32)) hS hf
          · skip
            rw [if_neg h44] at hf
            refine w_iinc (q := 2) (n := 50) (v := (v2 + (1 : Int32))) (lv' := [(2, vi (v2 + (1 : Int32))), (0, vr 1 55), (1, vi v1), (3, vi v3)]) hM (dtab_at okX1_worksAheadOf 29 rfl) rfl rfl (by decide) rfl rfl ?_
            refine w_iinc (q := 3) (n := 53) (v := (v3 + (1 : Int32))) (lv' := [(3, vi (v3 + (1 : Int32))), (2, vi (v2 + (1 : Int32))), (0, vr 1 55), (1, vi v1)]) hM (dtab_at okX1_worksAheadOf 30 rfl) rfl rfl (by decide) rfl rfl ?_
            refine w_goto (n := 4) hM (dtab_at okX1_worksAheadOf 31 rfl) (by decide) ?_
            refine WW.lvs [2, 3, 1, 0] (lv2 := [(0, vr 1 55), (1, vi v1), (2, vi (v2 + (1 : Int32))), (3, vi (v3 + (1 : Int32)))]) rfl ?_
            exact ih S v1 (v2 + (1 : Int32)) (v3 + (1 : Int32)) hS hf
def fX1_worksAheadOf (nF : Nat) (S : PS) (a1 : Int32) : Option (Int32) := (LX1_worksAheadOf_4 nF nF S a1 (0 : Int32) (0 : Int32))
set_option maxHeartbeats 4000000 in
set_option maxRecDepth 100000 in
theorem c_X1_worksAheadOf {cy : ClassId × ClassId} {ad : Nat → Nat} {D : va_G} {l : Launch} (nF : Nat) (S : PS) (a1 : Int32) (r : Int32) (hf : fX1_worksAheadOf nF S a1 = some r) : PMi cy GC ad D l yX1_worksAheadOf (wA yX1_worksAheadOf cX1_worksAheadOf 4 (some .int)) rmX1_worksAheadOf [vr 1 55, vi a1] S (fun x S' => x = r ∧ S' = S) := by
  refine PM.of (lv := [(0, vr 1 55), (1, vi a1)]) GC_ok (by decide) (Nat.le_of_ble_eq_true rfl) rfl (by simp) ?_
  intro p e s m args below meth c A hM
  rw [fX1_worksAheadOf] at hf
  obtain ⟨S0, hS⟩ : ∃ S0 : PS, S = S0 := ⟨S, rfl⟩
  rw [show (fun (x : Int32) (S' : PS) => x = r ∧ S' = S) = (fun x S' => x = r ∧ S' = S0) by rw [hS]]
  refine w_ic (n := 1) hM (0 : Int32) (dtab_at okX1_worksAheadOf 0 rfl) (by decide) rfl ?_
  refine w_isn (n := 2) (lv' := [(2, vi (0 : Int32)), (0, vr 1 55), (1, vi a1)]) hM (dtab_at okX1_worksAheadOf 1 rfl) (by decide) rfl rfl ?_
  refine w_ic (n := 3) hM (0 : Int32) (dtab_at okX1_worksAheadOf 2 rfl) (by decide) rfl ?_
  refine w_isn (n := 4) (lv' := [(3, vi (0 : Int32)), (2, vi (0 : Int32)), (0, vr 1 55), (1, vi a1)]) hM (dtab_at okX1_worksAheadOf 3 rfl) (by decide) rfl rfl ?_
  refine WW.lvs [2, 3, 1, 0] (lv2 := [(0, vr 1 55), (1, vi a1), (2, vi (0 : Int32)), (3, vi (0 : Int32))]) rfl ?_
  exact wLX1_worksAheadOf_4 hM nF S0 r nF S a1 (0 : Int32) (0 : Int32) hS hf
def LX1_yearOf_9 (nF : Nat) : Nat → PS → Int32 → Int32 → Int32 → Option (Int32)
  | 0, _, _, _, _ => none
  | n + 1, S, v2, v3, v4 => (if (8 : Int32) < v4 then (some (-1 : Int32)) else (if (fX1_hasYear S v2 v4) = (0 : Int32) then (LX1_yearOf_9 nF n S v2 v3 (v4 + (1 : Int32))) else (if (S.1 55 4) ≤ v3 then (LX1_yearOf_9 nF n S v2 (v3 - (S.1 55 4)) (v4 + (1 : Int32))) else (some v4))))
set_option maxHeartbeats 4000000 in
set_option maxRecDepth 100000 in
theorem wLX1_yearOf_9 {cy : ClassId × ClassId} {ad : Nat → Nat} {D : va_G} {p : Program} {l : Launch} {e : Env} {s : State} {m : MethodId} {args : Array Value} {below : List Frame} {meth : Method} {c : Code} {A : Nat → Prop} (hM : MX cy GC ad D p s m args meth c cX1_yearOf 5 RX1 (some .int) A) (nF : Nat) (S0 : PS) (r : Int32) : ∀ (n : Nat) (S : PS) (v2 : Int32) (v3 : Int32) (v4 : Int32), S = S0 → LX1_yearOf_9 nF n S v2 v3 v4 = some r → WW cy GC ad D p l e rmX1_yearOf s m args below meth c 5 A (poi (fun x S' => x = r ∧ S' = S0)) 9 [(0, vr 1 55), (2, vi v2), (3, vi v3), (4, vi v4)] [] S := by
  intro n
  induction n with
  | zero => intro S v2 v3 v4 hS hf; rw [LX1_yearOf_9] at hf; cases hf
  | succ n ih =>
    intro S v2 v3 v4 hS hf
    rw [LX1_yearOf_9] at hf
    refine w_il (q := 3) (n := 11) hM (dtab_at okX1_yearOf 6 rfl) rfl rfl ?_
    refine w_bi (n := 13) hM (8 : Int32) (dtab_at okX1_yearOf 7 rfl) (by decide) rfl ?_
    refine w_ic_gt (n := 50) (n2 := 16) hM (dtab_at okX1_yearOf 8 rfl) (by decide) rfl (fun (h13 : (8 : Int32) < v4) => ?_) (fun (h13 : ¬ (8 : Int32) < v4) => ?_)
    · skip
      rw [if_pos h13] at hf
      refine w_ic (n := 51) hM (-1 : Int32) (dtab_at okX1_yearOf 27 rfl) (by decide) rfl ?_
      exact r_i hM (dtab_at okX1_yearOf 28 rfl) ⟨Option.some.inj hf, hS⟩
    · skip
      rw [if_neg h13] at hf
      refine w_aln (q := 0) (n := 17) hM (dtab_at okX1_yearOf 9 rfl) rfl rfl ?_
      refine w_iln (q := 1) (n := 18) hM (dtab_at okX1_yearOf 10 rfl) rfl rfl ?_
      refine w_il (q := 3) (n := 20) hM (dtab_at okX1_yearOf 11 rfl) rfl rfl ?_
      refine w_callVi (n := 23) (As := [vi v2, vi v4]) (rest := []) (k := 1) (j := 55) (C := RX1) (T := TX1) (N := 6) hM (c_X1_hasYear S v2 v4) lkM_X1_39 mv_X1_hasYear (by decide) rfl (by decide) rfl (Nat.le_of_ble_eq_true rfl) rfl (dtab_at okX1_yearOf 12 rfl) rfl (fun x0 S0 hp0 => ?_)
      obtain ⟨hx_, hs_⟩ := hp0
      have hs_ := hs_.symm
      subst hs_
      subst hx_
      refine w_if_eq (n := 44) (n2 := 26) hM (dtab_at okX1_yearOf 13 rfl) (by decide) rfl (fun (h23 : (fX1_hasYear S v2 v4) = (0 : Int32)) => ?_) (fun (h23 : ¬ (fX1_hasYear S v2 v4) = (0 : Int32)) => ?_)
      · skip
        rw [if_pos h23] at hf
        refine w_iinc (q := 3) (n := 47) (v := (v4 + (1 : Int32))) (lv' := [(4, vi (v4 + (1 : Int32))), (0, vr 1 55), (2, vi v2), (3, vi v3)]) hM (dtab_at okX1_yearOf 25 rfl) rfl rfl (by decide) rfl rfl ?_
        refine w_goto (n := 9) hM (dtab_at okX1_yearOf 26 rfl) (by decide) ?_
        refine WW.lvs [1, 2, 3, 0] (lv2 := [(0, vr 1 55), (2, vi v2), (3, vi v3), (4, vi (v4 + (1 : Int32)))]) rfl ?_
        exact ih S v2 v3 (v4 + (1 : Int32)) hS hf
      · skip
        rw [if_neg h23] at hf
        refine w_iln (q := 2) (n := 27) hM (dtab_at okX1_yearOf 14 rfl) rfl rfl ?_
        refine w_aln (q := 0) (n := 28) hM (dtab_at okX1_yearOf 15 rfl) rfl rfl ?_
        refine w_geti (C := RX1) (T := TX1) (i := 4) (n := 31) hM rfl (by decide) ly_X1 lkF_X1_18 (dtab_at okX1_yearOf 16 rfl) rfl ?_
        refine w_ic_ge (n := 37) (n2 := 34) hM (dtab_at okX1_yearOf 17 rfl) (by decide) rfl (fun (h31 : (S.1 55 4) ≤ v3) => ?_) (fun (h31 : ¬ (S.1 55 4) ≤ v3) => ?_)
        · skip
          rw [if_pos h31] at hf
          refine w_iln (q := 2) (n := 38) hM (dtab_at okX1_yearOf 20 rfl) rfl rfl ?_
          refine w_aln (q := 0) (n := 39) hM (dtab_at okX1_yearOf 21 rfl) rfl rfl ?_
          refine w_geti (C := RX1) (T := TX1) (i := 4) (n := 42) hM rfl (by decide) ly_X1 lkF_X1_18 (dtab_at okX1_yearOf 22 rfl) rfl ?_
          refine w_isub (n := 43) hM (dtab_at okX1_yearOf 23 rfl) rfl ?_
          refine w_isn (n := 44) (lv' := [(3, vi (v3 - (S.1 55 4))), (0, vr 1 55), (2, vi v2), (4, vi v4)]) hM (dtab_at okX1_yearOf 24 rfl) (by decide) rfl rfl ?_
          refine w_iinc (q := 3) (n := 47) (v := (v4 + (1 : Int32))) (lv' := [(4, vi (v4 + (1 : Int32))), (3, vi (v3 - (S.1 55 4))), (0, vr 1 55), (2, vi v2)]) hM (dtab_at okX1_yearOf 25 rfl) rfl rfl (by decide) rfl rfl ?_
          refine w_goto (n := 9) hM (dtab_at okX1_yearOf 26 rfl) (by decide) ?_
          refine WW.lvs [2, 3, 1, 0] (lv2 := [(0, vr 1 55), (2, vi v2), (3, vi (v3 - (S.1 55 4))), (4, vi (v4 + (1 : Int32)))]) rfl ?_
          exact ih S v2 (v3 - (S.1 55 4)) (v4 + (1 : Int32)) hS hf
        · skip
          rw [if_neg h31] at hf
          refine w_il (q := 3) (n := 36) hM (dtab_at okX1_yearOf 18 rfl) rfl rfl ?_
          exact r_i hM (dtab_at okX1_yearOf 19 rfl) ⟨Option.some.inj hf, hS⟩
def fX1_yearOf (nF : Nat) (S : PS) (a1 : Int32) (a2 : Int32) : Option (Int32) := ((fX1_worksAheadOf nF S a1).bind fun r0 => (LX1_yearOf_9 nF nF S a2 r0 (1 : Int32)))
set_option maxHeartbeats 4000000 in
set_option maxRecDepth 100000 in
theorem c_X1_yearOf {cy : ClassId × ClassId} {ad : Nat → Nat} {D : va_G} {l : Launch} (nF : Nat) (S : PS) (a1 : Int32) (a2 : Int32) (r : Int32) (hf : fX1_yearOf nF S a1 a2 = some r) : PMi cy GC ad D l yX1_yearOf (wA yX1_yearOf cX1_yearOf 5 (some .int)) rmX1_yearOf [vr 1 55, vi a1, vi a2] S (fun x S' => x = r ∧ S' = S) := by
  refine PM.of (lv := [(0, vr 1 55), (1, vi a1), (2, vi a2)]) GC_ok (by decide) (Nat.le_of_ble_eq_true rfl) rfl (by simp) ?_
  intro p e s m args below meth c A hM
  rw [fX1_yearOf] at hf
  obtain ⟨S0, hS⟩ : ∃ S0 : PS, S = S0 := ⟨S, rfl⟩
  rw [show (fun (x : Int32) (S' : PS) => x = r ∧ S' = S) = (fun x S' => x = r ∧ S' = S0) by rw [hS]]
  refine w_aln (q := 0) (n := 1) hM (dtab_at okX1_yearOf 0 rfl) rfl rfl ?_
  refine w_iln (q := 1) (n := 2) hM (dtab_at okX1_yearOf 1 rfl) rfl rfl ?_
  obtain ⟨r0, hr0, hf⟩ := Option.bind_eq_some_iff.mp hf
  refine w_callVi (n := 5) (As := [vi a1]) (rest := []) (k := 1) (j := 55) (C := RX1) (T := TX1) (N := 6) hM (c_X1_worksAheadOf nF S a1 r0 hr0) lkM_X1_48 mv_X1_worksAheadOf (by decide) rfl (by decide) rfl (Nat.le_of_ble_eq_true rfl) rfl (dtab_at okX1_yearOf 2 rfl) rfl (fun x0 S0 hp0 => ?_)
  obtain ⟨hx_, hs_⟩ := hp0
  have hs_ := hs_.symm
  have hx_ := hx_.symm
  subst hs_
  subst hx_
  refine w_isn (n := 6) (lv' := [(3, vi r0), (0, vr 1 55), (1, vi a1), (2, vi a2)]) hM (dtab_at okX1_yearOf 3 rfl) (by decide) rfl rfl ?_
  refine w_ic (n := 7) hM (1 : Int32) (dtab_at okX1_yearOf 4 rfl) (by decide) rfl ?_
  refine w_is (n := 9) (lv' := [(4, vi (1 : Int32)), (3, vi r0), (0, vr 1 55), (1, vi a1), (2, vi a2)]) hM (dtab_at okX1_yearOf 5 rfl) (by decide) rfl rfl ?_
  refine WW.lvs [2, 4, 1, 0] (lv2 := [(0, vr 1 55), (2, vi a2), (3, vi r0), (4, vi (1 : Int32))]) rfl ?_
  exact wLX1_yearOf_9 hM nF S0 r nF S a2 r0 (1 : Int32) hS hf
def LX6_feltAt_2 (nF : Nat) : Nat → PS → Nat → Int32 → Int32 → Option (Int32)
  | 0, _, _, _, _ => none
  | n + 1, S, v0, v1, v2 => (if (S.1 v0 11) ≤ v2 then (some (-1 : Int32)) else (if v2 < 0 ∨ 60 ≤ v2.toNatClampNeg then none else (if v1 < (S.2 (v0 + 34) v2.toNatClampNeg) then (LX6_feltAt_2 nF n S v0 v1 (v2 + (1 : Int32))) else (if ((S.2 (v0 + 34) v2.toNatClampNeg) + (S.2 (v0 + 36) v2.toNatClampNeg)) ≤ v1 then (LX6_feltAt_2 nF n S v0 v1 (v2 + (1 : Int32))) else (some v2)))))
set_option maxHeartbeats 4000000 in
set_option maxRecDepth 100000 in
theorem wLX6_feltAt_2 {cy : ClassId × ClassId} {ad : Nat → Nat} {D : va_G} {p : Program} {l : Launch} {e : Env} {s : State} {m : MethodId} {args : Array Value} {below : List Frame} {meth : Method} {c : Code} {A : Nat → Prop} (hM : MX cy GC ad D p s m args meth c cX6_feltAt 3 RX6 (some .int) A) (nF : Nat) (S0 : PS) (r : Int32) : ∀ (n : Nat) (S : PS) (v0 : Nat) (v1 : Int32) (v2 : Int32), S = S0 → LX6_feltAt_2 nF n S v0 v1 v2 = some r → WW cy GC ad D p l e rmX6_feltAt s m args below meth c 3 A (poi (fun x S' => x = r ∧ S' = S0)) 2 [(0, vr 6 v0), (1, vi v1), (2, vi v2)] [] S := by
  intro n
  induction n with
  | zero => intro S v0 v1 v2 hS hf; rw [LX6_feltAt_2] at hf; cases hf
  | succ n ih =>
    intro S v0 v1 v2 hS hf
    rw [LX6_feltAt_2] at hf
    refine w_iln (q := 2) (n := 3) hM (dtab_at okX6_feltAt 2 rfl) rfl rfl ?_
    refine w_aln (q := 0) (n := 4) hM (dtab_at okX6_feltAt 3 rfl) rfl rfl ?_
    refine w_geti (C := RX6) (T := TX6) (i := 11) (n := 7) hM rfl (by decide) ly_X6 lkF_X6_63 (dtab_at okX6_feltAt 4 rfl) rfl ?_
    refine w_ic_ge (n := 45) (n2 := 10) hM (dtab_at okX6_feltAt 5 rfl) (by decide) rfl (fun (h7 : (S.1 v0 11) ≤ v2) => ?_) (fun (h7 : ¬ (S.1 v0 11) ≤ v2) => ?_)
    · skip
      rw [if_pos h7] at hf
      refine w_ic (n := 46) hM (-1 : Int32) (dtab_at okX6_feltAt 27 rfl) (by decide) rfl ?_
      exact r_i hM (dtab_at okX6_feltAt 28 rfl) ⟨Option.some.inj hf, hS⟩
    · skip
      rw [if_neg h7] at hf
      refine w_iln (q := 1) (n := 11) hM (dtab_at okX6_feltAt 6 rfl) rfl rfl ?_
      refine w_aln (q := 0) (n := 12) hM (dtab_at okX6_feltAt 7 rfl) rfl rfl ?_
      refine w_getr (C := RX6) (T := TX6) (i := 6) (k2 := 160) (q := (v0 + 34)) (n := 15) hM rfl (by decide) rfc_6_6 ly_X6 lkF_X6_38 (dtab_at okX6_feltAt 8 rfl) rfl ?_
      refine w_iln (q := 2) (n := 16) hM (dtab_at okX6_feltAt 9 rfl) rfl rfl ?_
      by_cases hg16 : v2 < 0 ∨ 60 ≤ v2.toNatClampNeg
      · rw [if_pos hg16] at hf; cases hf
      rw [if_neg hg16] at hf
      refine w_ald (nn := 60) (n := 17) hM rfl hg16 (dtab_at okX6_feltAt 10 rfl) rfl ?_
      refine w_ic_lt (n := 39) (n2 := 20) hM (dtab_at okX6_feltAt 11 rfl) (by decide) rfl (fun (h17 : v1 < (S.2 (v0 + 34) v2.toNatClampNeg)) => ?_) (fun (h17 : ¬ v1 < (S.2 (v0 + 34) v2.toNatClampNeg)) => ?_)
      · skip
        rw [if_pos h17] at hf
        refine w_iinc (q := 2) (n := 42) (v := (v2 + (1 : Int32))) (lv' := [(2, vi (v2 + (1 : Int32))), (0, vr 6 v0), (1, vi v1)]) hM (dtab_at okX6_feltAt 25 rfl) rfl rfl (by decide) rfl rfl ?_
        refine w_goto (n := 2) hM (dtab_at okX6_feltAt 26 rfl) (by decide) ?_
        refine WW.lvs [1, 2, 0] (lv2 := [(0, vr 6 v0), (1, vi v1), (2, vi (v2 + (1 : Int32)))]) rfl ?_
        exact ih S v0 v1 (v2 + (1 : Int32)) hS hf
      · skip
        rw [if_neg h17] at hf
        refine w_iln (q := 1) (n := 21) hM (dtab_at okX6_feltAt 12 rfl) rfl rfl ?_
        refine w_aln (q := 0) (n := 22) hM (dtab_at okX6_feltAt 13 rfl) rfl rfl ?_
        refine w_getr (C := RX6) (T := TX6) (i := 6) (k2 := 160) (q := (v0 + 34)) (n := 25) hM rfl (by decide) rfc_6_6 ly_X6 lkF_X6_38 (dtab_at okX6_feltAt 14 rfl) rfl ?_
        refine w_iln (q := 2) (n := 26) hM (dtab_at okX6_feltAt 15 rfl) rfl rfl ?_
        refine w_ald (nn := 60) (n := 27) hM rfl hg16 (dtab_at okX6_feltAt 16 rfl) rfl ?_
        refine w_aln (q := 0) (n := 28) hM (dtab_at okX6_feltAt 17 rfl) rfl rfl ?_
        refine w_getr (C := RX6) (T := TX6) (i := 7) (k2 := 160) (q := (v0 + 36)) (n := 31) hM rfl (by decide) rfc_6_7 ly_X6 lkF_X6_41 (dtab_at okX6_feltAt 18 rfl) rfl ?_
        refine w_iln (q := 2) (n := 32) hM (dtab_at okX6_feltAt 19 rfl) rfl rfl ?_
        refine w_ald (nn := 60) (n := 33) hM rfl hg16 (dtab_at okX6_feltAt 20 rfl) rfl ?_
        refine w_iadd (n := 34) hM (dtab_at okX6_feltAt 21 rfl) rfl ?_
        refine w_ic_ge (n := 39) (n2 := 37) hM (dtab_at okX6_feltAt 22 rfl) (by decide) rfl (fun (h34 : ((S.2 (v0 + 34) v2.toNatClampNeg) + (S.2 (v0 + 36) v2.toNatClampNeg)) ≤ v1) => ?_) (fun (h34 : ¬ ((S.2 (v0 + 34) v2.toNatClampNeg) + (S.2 (v0 + 36) v2.toNatClampNeg)) ≤ v1) => ?_)
        · skip
          rw [if_pos h34] at hf
          refine w_iinc (q := 2) (n := 42) (v := (v2 + (1 : Int32))) (lv' := [(2, vi (v2 + (1 : Int32))), (0, vr 6 v0), (1, vi v1)]) hM (dtab_at okX6_feltAt 25 rfl) rfl rfl (by decide) rfl rfl ?_
          refine w_goto (n := 2) hM (dtab_at okX6_feltAt 26 rfl) (by decide) ?_
          refine WW.lvs [1, 2, 0] (lv2 := [(0, vr 6 v0), (1, vi v1), (2, vi (v2 + (1 : Int32)))]) rfl ?_
          exact ih S v0 v1 (v2 + (1 : Int32)) hS hf
        · skip
          rw [if_neg h34] at hf
          refine w_iln (q := 2) (n := 38) hM (dtab_at okX6_feltAt 23 rfl) rfl rfl ?_
          exact r_i hM (dtab_at okX6_feltAt 24 rfl) ⟨Option.some.inj hf, hS⟩
def fX6_feltAt (nF : Nat) (S : PS) (j : Nat) (a1 : Int32) : Option (Int32) := (LX6_feltAt_2 nF nF S j a1 (0 : Int32))
set_option maxHeartbeats 4000000 in
set_option maxRecDepth 100000 in
theorem c_X6_feltAt {cy : ClassId × ClassId} {ad : Nat → Nat} {D : va_G} {l : Launch} (nF : Nat) (S : PS) (j : Nat) (a1 : Int32) (r : Int32) (hf : fX6_feltAt nF S j a1 = some r) : PMi cy GC ad D l yX6_feltAt (wA yX6_feltAt cX6_feltAt 3 (some .int)) rmX6_feltAt [vr 6 j, vi a1] S (fun x S' => x = r ∧ S' = S) := by
  refine PM.of (lv := [(0, vr 6 j), (1, vi a1)]) GC_ok (by decide) (Nat.le_of_ble_eq_true rfl) rfl (by simp) ?_
  intro p e s m args below meth c A hM
  rw [fX6_feltAt] at hf
  obtain ⟨S0, hS⟩ : ∃ S0 : PS, S = S0 := ⟨S, rfl⟩
  rw [show (fun (x : Int32) (S' : PS) => x = r ∧ S' = S) = (fun x S' => x = r ∧ S' = S0) by rw [hS]]
  refine w_ic (n := 1) hM (0 : Int32) (dtab_at okX6_feltAt 0 rfl) (by decide) rfl ?_
  refine w_isn (n := 2) (lv' := [(2, vi (0 : Int32)), (0, vr 6 j), (1, vi a1)]) hM (dtab_at okX6_feltAt 1 rfl) (by decide) rfl rfl ?_
  refine WW.lvs [1, 2, 0] (lv2 := [(0, vr 6 j), (1, vi a1), (2, vi (0 : Int32))]) rfl ?_
  exact wLX6_feltAt_2 hM nF S0 r nF S j a1 (0 : Int32) hS hf
def LX2_gather_20 (nF : Nat) : Nat → PS → Nat → Nat → Int32 → Int32 → Option (PS)
  | 0, _, _, _, _, _ => none
  | n + 1, S, v0, v1, v2, v3 => (if (S.1 (v1 + 18) 6) ≤ v3 then (some S) else (if (5 : Int32) ≤ (S.1 v0 3) then (some S) else (if v3 < 0 ∨ 40 ≤ v3.toNatClampNeg then none else ((fX6_feltAt nF S v1 (S.2 ((v1 + 18) + 2) v3.toNatClampNeg)).bind fun r0 => (if r0 = v2 then (if (S.1 v0 3) < 0 ∨ 5 ≤ (S.1 v0 3).toNatClampNeg then none else (if v2 < 0 ∨ 60 ≤ v2.toNatClampNeg then none else (LX2_gather_20 nF n (sti (sta (sta (sta S (v0 + 3) (S.1 v0 3).toNatClampNeg v3) (v0 + 5) (S.1 v0 3).toNatClampNeg (((sta S (v0 + 3) (S.1 v0 3).toNatClampNeg v3).2 ((v1 + 18) + 2) v3.toNatClampNeg) - ((sta S (v0 + 3) (S.1 v0 3).toNatClampNeg v3).2 (v1 + 34) v2.toNatClampNeg))) (v0 + 7) (S.1 v0 3).toNatClampNeg ((sta (sta S (v0 + 3) (S.1 v0 3).toNatClampNeg v3) (v0 + 5) (S.1 v0 3).toNatClampNeg (((sta S (v0 + 3) (S.1 v0 3).toNatClampNeg v3).2 ((v1 + 18) + 2) v3.toNatClampNeg) - ((sta S (v0 + 3) (S.1 v0 3).toNatClampNeg v3).2 (v1 + 34) v2.toNatClampNeg))).2 ((v1 + 18) + 4) v3.toNatClampNeg)) v0 3 ((S.1 v0 3) + (1 : Int32))) v0 v1 v2 (v3 + (1 : Int32))))) else (LX2_gather_20 nF n S v0 v1 v2 (v3 + (1 : Int32))))))))
set_option maxHeartbeats 4000000 in
set_option maxRecDepth 100000 in
theorem wLX2_gather_20 {cy : ClassId × ClassId} {ad : Nat → Nat} {D : va_G} {p : Program} {l : Launch} {e : Env} {s : State} {m : MethodId} {args : Array Value} {below : List Frame} {meth : Method} {c : Code} {A : Nat → Prop} (hM : MX cy GC ad D p s m args meth c cX2_gather 4 RX2 none A) (nF : Nat) (r : PS) : ∀ (n : Nat) (S : PS) (v0 : Nat) (v1 : Nat) (v2 : Int32) (v3 : Int32), LX2_gather_20 nF n S v0 v1 v2 v3 = some r → WW cy GC ad D p l e rmX2_gather s m args below meth c 4 A (pov (fun S' => S' = r)) 20 [(0, vr 2 v0), (1, vr 6 v1), (2, vi v2), (3, vi v3)] [] S := by
  intro n
  induction n with
  | zero => intro S v0 v1 v2 v3 hf; rw [LX2_gather_20] at hf; cases hf
  | succ n ih =>
    intro S v0 v1 v2 v3 hf
    rw [LX2_gather_20] at hf
    refine w_iln (q := 3) (n := 21) hM (dtab_at okX2_gather 12 rfl) rfl rfl ?_
    refine w_aln (q := 1) (n := 22) hM (dtab_at okX2_gather 13 rfl) rfl rfl ?_
    refine w_getr (C := RX6) (T := TX6) (i := 4) (k2 := 3) (q := (v1 + 18)) (n := 25) hM rfl (by decide) rfc_6_4 ly_X6 lkF_X2_30 (dtab_at okX2_gather 14 rfl) rfl ?_
    refine w_geti (C := RX3) (T := TX3) (i := 6) (n := 28) hM rfl (by decide) ly_X3 lkF_X2_34 (dtab_at okX2_gather 15 rfl) rfl ?_
    refine w_ic_ge (n := 125) (n2 := 31) hM (dtab_at okX2_gather 16 rfl) (by decide) rfl (fun (h28 : (S.1 (v1 + 18) 6) ≤ v3) => ?_) (fun (h28 : ¬ (S.1 (v1 + 18) 6) ≤ v3) => ?_)
    · skip
      rw [if_pos h28] at hf
      exact r_v hM (dtab_at okX2_gather 69 rfl) (Option.some.inj hf)
    · skip
      rw [if_neg h28] at hf
      refine w_aln (q := 0) (n := 32) hM (dtab_at okX2_gather 17 rfl) rfl rfl ?_
      refine w_geti (C := RX2) (T := TX2) (i := 3) (n := 35) hM rfl (by decide) ly_X2 lkF_X2_21 (dtab_at okX2_gather 18 rfl) rfl ?_
      refine w_ic (n := 36) hM (5 : Int32) (dtab_at okX2_gather 19 rfl) (by decide) rfl ?_
      refine w_ic_ge (n := 125) (n2 := 39) hM (dtab_at okX2_gather 20 rfl) (by decide) rfl (fun (h36 : (5 : Int32) ≤ (S.1 v0 3)) => ?_) (fun (h36 : ¬ (5 : Int32) ≤ (S.1 v0 3)) => ?_)
      · skip
        rw [if_pos h36] at hf
        exact r_v hM (dtab_at okX2_gather 69 rfl) (Option.some.inj hf)
      · skip
        rw [if_neg h36] at hf
        refine w_aln (q := 1) (n := 40) hM (dtab_at okX2_gather 21 rfl) rfl rfl ?_
        refine w_aln (q := 1) (n := 41) hM (dtab_at okX2_gather 22 rfl) rfl rfl ?_
        refine w_getr (C := RX6) (T := TX6) (i := 4) (k2 := 3) (q := (v1 + 18)) (n := 44) hM rfl (by decide) rfc_6_4 ly_X6 lkF_X2_30 (dtab_at okX2_gather 23 rfl) rfl ?_
        refine w_getr (C := RX3) (T := TX3) (i := 0) (k2 := 140) (q := ((v1 + 18) + 2)) (n := 47) hM rfl (by decide) rfc_3_0 ly_X3 lkF_X2_37 (dtab_at okX2_gather 24 rfl) rfl ?_
        refine w_iln (q := 3) (n := 48) hM (dtab_at okX2_gather 25 rfl) rfl rfl ?_
        by_cases hg48 : v3 < 0 ∨ 40 ≤ v3.toNatClampNeg
        · rw [if_pos hg48] at hf; cases hf
        rw [if_neg hg48] at hf
        refine w_ald (nn := 40) (n := 49) hM rfl hg48 (dtab_at okX2_gather 26 rfl) rfl ?_
        obtain ⟨r0, hr0, hf⟩ := Option.bind_eq_some_iff.mp hf
        refine w_callVi (n := 52) (As := [vi (S.2 ((v1 + 18) + 2) v3.toNatClampNeg)]) (rest := []) (k := 6) (j := v1) (C := RX6) (T := TX6) (N := 12) hM (c_X6_feltAt nF S v1 (S.2 ((v1 + 18) + 2) v3.toNatClampNeg) r0 hr0) lkM_X2_40 mv_X6_feltAt (by decide) rfl (by decide) rfl (Nat.le_of_ble_eq_true rfl) rfl (dtab_at okX2_gather 27 rfl) rfl (fun x0 S0 hp0 => ?_)
        obtain ⟨hx_, hs_⟩ := hp0
        have hs_ := hs_.symm
        have hx_ := hx_.symm
        subst hs_
        subst hx_
        refine w_iln (q := 2) (n := 53) hM (dtab_at okX2_gather 28 rfl) rfl rfl ?_
        refine w_ic_ne (n := 119) (n2 := 56) hM (dtab_at okX2_gather 29 rfl) (by decide) rfl (fun (h53 : ¬ r0 = v2) => ?_) (fun (h53 : r0 = v2) => ?_)
        · skip
          rw [if_neg h53] at hf
          refine w_iinc (q := 3) (n := 122) (v := (v3 + (1 : Int32))) (lv' := [(3, vi (v3 + (1 : Int32))), (0, vr 2 v0), (1, vr 6 v1), (2, vi v2)]) hM (dtab_at okX2_gather 67 rfl) rfl rfl (by decide) rfl rfl ?_
          refine w_goto (n := 20) hM (dtab_at okX2_gather 68 rfl) (by decide) ?_
          refine WW.lvs [1, 2, 3, 0] (lv2 := [(0, vr 2 v0), (1, vr 6 v1), (2, vi v2), (3, vi (v3 + (1 : Int32)))]) rfl ?_
          exact ih S v0 v1 v2 (v3 + (1 : Int32)) hf
        · skip
          rw [if_pos h53] at hf
          refine w_aln (q := 0) (n := 57) hM (dtab_at okX2_gather 30 rfl) rfl rfl ?_
          refine w_getr (C := RX2) (T := TX2) (i := 0) (k2 := 105) (q := (v0 + 3)) (n := 60) hM rfl (by decide) rfc_2_0 ly_X2 lkF_X2_9 (dtab_at okX2_gather 31 rfl) rfl ?_
          refine w_aln (q := 0) (n := 61) hM (dtab_at okX2_gather 32 rfl) rfl rfl ?_
          refine w_geti (C := RX2) (T := TX2) (i := 3) (n := 64) hM rfl (by decide) ly_X2 lkF_X2_21 (dtab_at okX2_gather 33 rfl) rfl ?_
          refine w_iln (q := 3) (n := 65) hM (dtab_at okX2_gather 34 rfl) rfl rfl ?_
          by_cases hg65 : (S.1 v0 3) < 0 ∨ 5 ≤ (S.1 v0 3).toNatClampNeg
          · rw [if_pos hg65] at hf; cases hf
          rw [if_neg hg65] at hf
          refine w_ast (nn := 5) (n := 66) hM rfl hg65 (dtab_at okX2_gather 35 rfl) rfl ?_
          refine w_aln (q := 0) (n := 67) hM (dtab_at okX2_gather 36 rfl) rfl rfl ?_
          refine w_getr (C := RX2) (T := TX2) (i := 1) (k2 := 105) (q := (v0 + 5)) (n := 70) hM rfl (by decide) rfc_2_1 ly_X2 lkF_X2_15 (dtab_at okX2_gather 37 rfl) rfl ?_
          refine w_aln (q := 0) (n := 71) hM (dtab_at okX2_gather 38 rfl) rfl rfl ?_
          refine w_geti (C := RX2) (T := TX2) (i := 3) (n := 74) hM rfl (by decide) ly_X2 lkF_X2_21 (dtab_at okX2_gather 39 rfl) rfl ?_
          refine w_aln (q := 1) (n := 75) hM (dtab_at okX2_gather 40 rfl) rfl rfl ?_
          refine w_getr (C := RX6) (T := TX6) (i := 4) (k2 := 3) (q := (v1 + 18)) (n := 78) hM rfl (by decide) rfc_6_4 ly_X6 lkF_X2_30 (dtab_at okX2_gather 41 rfl) rfl ?_
          refine w_getr (C := RX3) (T := TX3) (i := 0) (k2 := 140) (q := ((v1 + 18) + 2)) (n := 81) hM rfl (by decide) rfc_3_0 ly_X3 lkF_X2_37 (dtab_at okX2_gather 42 rfl) rfl ?_
          refine w_iln (q := 3) (n := 82) hM (dtab_at okX2_gather 43 rfl) rfl rfl ?_
          refine w_ald (nn := 40) (n := 83) hM rfl hg48 (dtab_at okX2_gather 44 rfl) rfl ?_
          refine w_aln (q := 1) (n := 84) hM (dtab_at okX2_gather 45 rfl) rfl rfl ?_
          refine w_getr (C := RX6) (T := TX6) (i := 6) (k2 := 160) (q := (v1 + 34)) (n := 87) hM rfl (by decide) rfc_6_6 ly_X6 lkF_X2_44 (dtab_at okX2_gather 46 rfl) rfl ?_
          refine w_iln (q := 2) (n := 88) hM (dtab_at okX2_gather 47 rfl) rfl rfl ?_
          by_cases hg88 : v2 < 0 ∨ 60 ≤ v2.toNatClampNeg
          · rw [if_pos hg88] at hf; cases hf
          rw [if_neg hg88] at hf
          refine w_ald (nn := 60) (n := 89) hM rfl hg88 (dtab_at okX2_gather 48 rfl) rfl ?_
          refine w_isub (n := 90) hM (dtab_at okX2_gather 49 rfl) rfl ?_
          refine w_ast (nn := 5) (n := 91) hM rfl hg65 (dtab_at okX2_gather 50 rfl) rfl ?_
          refine w_aln (q := 0) (n := 92) hM (dtab_at okX2_gather 51 rfl) rfl rfl ?_
          refine w_getr (C := RX2) (T := TX2) (i := 2) (k2 := 105) (q := (v0 + 7)) (n := 95) hM rfl (by decide) rfc_2_2 ly_X2 lkF_X2_18 (dtab_at okX2_gather 52 rfl) rfl ?_
          refine w_aln (q := 0) (n := 96) hM (dtab_at okX2_gather 53 rfl) rfl rfl ?_
          refine w_geti (C := RX2) (T := TX2) (i := 3) (n := 99) hM rfl (by decide) ly_X2 lkF_X2_21 (dtab_at okX2_gather 54 rfl) rfl ?_
          refine w_aln (q := 1) (n := 100) hM (dtab_at okX2_gather 55 rfl) rfl rfl ?_
          refine w_getr (C := RX6) (T := TX6) (i := 4) (k2 := 3) (q := (v1 + 18)) (n := 103) hM rfl (by decide) rfc_6_4 ly_X6 lkF_X2_30 (dtab_at okX2_gather 56 rfl) rfl ?_
          refine w_getr (C := RX3) (T := TX3) (i := 1) (k2 := 140) (q := ((v1 + 18) + 4)) (n := 106) hM rfl (by decide) rfc_3_1 ly_X3 lkF_X2_47 (dtab_at okX2_gather 57 rfl) rfl ?_
          refine w_iln (q := 3) (n := 107) hM (dtab_at okX2_gather 58 rfl) rfl rfl ?_
          refine w_ald (nn := 40) (n := 108) hM rfl hg48 (dtab_at okX2_gather 59 rfl) rfl ?_
          refine w_ast (nn := 5) (n := 109) hM rfl hg65 (dtab_at okX2_gather 60 rfl) rfl ?_
          refine w_aln (q := 0) (n := 110) hM (dtab_at okX2_gather 61 rfl) rfl rfl ?_
          refine w_dup (n := 111) hM (dtab_at okX2_gather 62 rfl) rfl rfl ?_
          refine w_geti (C := RX2) (T := TX2) (i := 3) (n := 114) hM rfl (by decide) ly_X2 lkF_X2_21 (dtab_at okX2_gather 63 rfl) rfl ?_
          refine w_ic (n := 115) hM (1 : Int32) (dtab_at okX2_gather 64 rfl) (by decide) rfl ?_
          refine w_iadd (n := 116) hM (dtab_at okX2_gather 65 rfl) rfl ?_
          refine w_put (C := RX2) (T := TX2) (i := 3) (ty := .int) (n := 119) hM rfl (by decide) ly_X2 tyX2_ok nmX2 lkF_X2_21 rfl (by decide +kernel) rfl rfl (dtab_at okX2_gather 66 rfl) rfl ?_
          refine w_iinc (q := 3) (n := 122) (v := (v3 + (1 : Int32))) (lv' := [(3, vi (v3 + (1 : Int32))), (0, vr 2 v0), (1, vr 6 v1), (2, vi v2)]) hM (dtab_at okX2_gather 67 rfl) rfl rfl (by decide) rfl rfl ?_
          refine w_goto (n := 20) hM (dtab_at okX2_gather 68 rfl) (by decide) ?_
          refine WW.lvs [1, 2, 3, 0] (lv2 := [(0, vr 2 v0), (1, vr 6 v1), (2, vi v2), (3, vi (v3 + (1 : Int32)))]) rfl ?_
          exact ih (sti (sta (sta (sta S (v0 + 3) (S.1 v0 3).toNatClampNeg v3) (v0 + 5) (S.1 v0 3).toNatClampNeg (((sta S (v0 + 3) (S.1 v0 3).toNatClampNeg v3).2 ((v1 + 18) + 2) v3.toNatClampNeg) - ((sta S (v0 + 3) (S.1 v0 3).toNatClampNeg v3).2 (v1 + 34) v2.toNatClampNeg))) (v0 + 7) (S.1 v0 3).toNatClampNeg ((sta (sta S (v0 + 3) (S.1 v0 3).toNatClampNeg v3) (v0 + 5) (S.1 v0 3).toNatClampNeg (((sta S (v0 + 3) (S.1 v0 3).toNatClampNeg v3).2 ((v1 + 18) + 2) v3.toNatClampNeg) - ((sta S (v0 + 3) (S.1 v0 3).toNatClampNeg v3).2 (v1 + 34) v2.toNatClampNeg))).2 ((v1 + 18) + 4) v3.toNatClampNeg)) v0 3 ((S.1 v0 3) + (1 : Int32))) v0 v1 v2 (v3 + (1 : Int32)) hf
def fX2_gather (nF : Nat) (S : PS) (j : Nat) (q1 : Nat) (a2 : Int32) : Option (PS) := (if a2 < (0 : Int32) then (some (sti S j 3 (0 : Int32))) else (if a2 < ((sti S j 3 (0 : Int32)).1 q1 11) then (LX2_gather_20 nF nF (sti S j 3 (0 : Int32)) j q1 a2 (0 : Int32)) else (some (sti S j 3 (0 : Int32)))))
set_option maxHeartbeats 4000000 in
set_option maxRecDepth 100000 in
theorem c_X2_gather {cy : ClassId × ClassId} {ad : Nat → Nat} {D : va_G} {l : Launch} (nF : Nat) (S : PS) (j : Nat) (q1 : Nat) (a2 : Int32) (r : PS) (hf : fX2_gather nF S j q1 a2 = some r) : PMv cy GC ad D l yX2_gather (wA yX2_gather cX2_gather 4 none) rmX2_gather [vr 2 j, vr 6 q1, vi a2] S (fun S' => S' = r) := by
  refine PM.of (lv := [(0, vr 2 j), (1, vr 6 q1), (2, vi a2)]) GC_ok (by decide) (Nat.le_of_ble_eq_true rfl) rfl (by simp) ?_
  intro p e s m args below meth c A hM
  rw [fX2_gather] at hf
  refine w_aln (q := 0) (n := 1) hM (dtab_at okX2_gather 0 rfl) rfl rfl ?_
  refine w_ic (n := 2) hM (0 : Int32) (dtab_at okX2_gather 1 rfl) (by decide) rfl ?_
  refine w_put (C := RX2) (T := TX2) (i := 3) (ty := .int) (n := 5) hM rfl (by decide) ly_X2 tyX2_ok nmX2 lkF_X2_21 rfl (by decide +kernel) rfl rfl (dtab_at okX2_gather 2 rfl) rfl ?_
  refine w_iln (q := 2) (n := 6) hM (dtab_at okX2_gather 3 rfl) rfl rfl ?_
  refine w_if_lt (n := 17) (n2 := 9) hM (dtab_at okX2_gather 4 rfl) (by decide) rfl (fun (h6 : a2 < (0 : Int32)) => ?_) (fun (h6 : ¬ a2 < (0 : Int32)) => ?_)
  · skip
    rw [if_pos h6] at hf
    exact r_v hM (dtab_at okX2_gather 9 rfl) (Option.some.inj hf)
  · skip
    rw [if_neg h6] at hf
    refine w_iln (q := 2) (n := 10) hM (dtab_at okX2_gather 5 rfl) rfl rfl ?_
    refine w_aln (q := 1) (n := 11) hM (dtab_at okX2_gather 6 rfl) rfl rfl ?_
    refine w_geti (C := RX6) (T := TX6) (i := 11) (n := 14) hM rfl (by decide) ly_X6 lkF_X2_25 (dtab_at okX2_gather 7 rfl) rfl ?_
    refine w_ic_lt (n := 18) (n2 := 17) hM (dtab_at okX2_gather 8 rfl) (by decide) rfl (fun (h14 : a2 < ((sti S j 3 (0 : Int32)).1 q1 11)) => ?_) (fun (h14 : ¬ a2 < ((sti S j 3 (0 : Int32)).1 q1 11)) => ?_)
    · skip
      rw [if_pos h14] at hf
      refine w_ic (n := 19) hM (0 : Int32) (dtab_at okX2_gather 10 rfl) (by decide) rfl ?_
      refine w_isn (n := 20) (lv' := [(3, vi (0 : Int32)), (0, vr 2 j), (1, vr 6 q1), (2, vi a2)]) hM (dtab_at okX2_gather 11 rfl) (by decide) rfl rfl ?_
      refine WW.lvs [1, 2, 3, 0] (lv2 := [(0, vr 2 j), (1, vr 6 q1), (2, vi a2), (3, vi (0 : Int32))]) rfl ?_
      exact wLX2_gather_20 hM nF r nF (sti S j 3 (0 : Int32)) j q1 a2 (0 : Int32) hf
    · skip
      rw [if_neg h14] at hf
      exact r_v hM (dtab_at okX2_gather 9 rfl) (Option.some.inj hf)
def fX3_hasMark (S : PS) (j : Nat) (a1 : Int32) : Int32 := if a1 < (0 : Int32) then (0 : Int32) else (if (S.1 j 6) ≤ a1 then (0 : Int32) else (1 : Int32))
set_option maxHeartbeats 4000000 in
set_option maxRecDepth 100000 in
theorem c_X3_hasMark {cy : ClassId × ClassId} {ad : Nat → Nat} {D : va_G} {l : Launch} (S : PS) (j : Nat) (a1 : Int32)  : PMi cy GC ad D l yX3_hasMark (wA yX3_hasMark cX3_hasMark 2 (some .boolean)) rmX3_hasMark [vr 3 j, vi a1] S (fun x S' => x = (fX3_hasMark S j a1) ∧ S' = S) := by
  refine PM.of (lv := [(0, vr 3 j), (1, vi a1)]) GC_ok (by decide) (Nat.le_of_ble_eq_true rfl) rfl (by simp) ?_
  intro p e s m args below meth c A hM
  refine w_iln (q := 1) (n := 1) hM (dtab_at okX3_hasMark 0 rfl) rfl rfl ?_
  refine w_if_lt (n := 16) (n2 := 4) hM (dtab_at okX3_hasMark 1 rfl) (by decide) rfl (fun (h1 : a1 < (0 : Int32)) => ?_) (fun (h1 : ¬ a1 < (0 : Int32)) => ?_)
  · skip
    refine w_ic (n := 17) hM (0 : Int32) (dtab_at okX3_hasMark 8 rfl) (by decide) rfl ?_
    exact r_z hM (by decide) (dtab_at okX3_hasMark 9 rfl) ⟨by rw [fX3_hasMark, if_pos h1], rfl⟩
  · skip
    refine w_iln (q := 1) (n := 5) hM (dtab_at okX3_hasMark 2 rfl) rfl rfl ?_
    refine w_aln (q := 0) (n := 6) hM (dtab_at okX3_hasMark 3 rfl) rfl rfl ?_
    refine w_geti (C := RX3) (T := TX3) (i := 6) (n := 9) hM rfl (by decide) ly_X3 lkF_X3_30 (dtab_at okX3_hasMark 4 rfl) rfl ?_
    refine w_ic_ge (n := 16) (n2 := 12) hM (dtab_at okX3_hasMark 5 rfl) (by decide) rfl (fun (h9 : (S.1 j 6) ≤ a1) => ?_) (fun (h9 : ¬ (S.1 j 6) ≤ a1) => ?_)
    · skip
      refine w_ic (n := 17) hM (0 : Int32) (dtab_at okX3_hasMark 8 rfl) (by decide) rfl ?_
      exact r_z hM (by decide) (dtab_at okX3_hasMark 9 rfl) ⟨by rw [fX3_hasMark, if_neg h1, if_pos h9], rfl⟩
    · skip
      refine w_ic (n := 13) hM (1 : Int32) (dtab_at okX3_hasMark 6 rfl) (by decide) rfl ?_
      refine w_goto (n := 17) hM (dtab_at okX3_hasMark 7 rfl) (by decide) ?_
      exact r_z hM (by decide) (dtab_at okX3_hasMark 9 rfl) ⟨by rw [fX3_hasMark, if_neg h1, if_neg h9], rfl⟩
def fX3_add (nF : Nat) (S : PS) (j : Nat) (a1 : Int32) (a2 : Int32) (a3 : Int32) (a4 : Int32) : Option (Int32 × PS) := (if (S.1 j 6) < (40 : Int32) then (if (S.1 j 6) < 0 ∨ 40 ≤ (S.1 j 6).toNatClampNeg then none else (some ((((sti (sta (sta (sta (sta S (j + 2) (S.1 j 6).toNatClampNeg a1) (j + 4) (S.1 j 6).toNatClampNeg a2) (j + 6) (S.1 j 6).toNatClampNeg a3) (j + 8) (S.1 j 6).toNatClampNeg a4) j 6 ((S.1 j 6) + (1 : Int32))).1 j 6) - (1 : Int32)), (sti (sta (sta (sta (sta S (j + 2) (S.1 j 6).toNatClampNeg a1) (j + 4) (S.1 j 6).toNatClampNeg a2) (j + 6) (S.1 j 6).toNatClampNeg a3) (j + 8) (S.1 j 6).toNatClampNeg a4) j 6 ((S.1 j 6) + (1 : Int32)))))) else (some ((-3 : Int32), S)))
set_option maxHeartbeats 4000000 in
set_option maxRecDepth 100000 in
theorem c_X3_add {cy : ClassId × ClassId} {ad : Nat → Nat} {D : va_G} {l : Launch} (nF : Nat) (S : PS) (j : Nat) (a1 : Int32) (a2 : Int32) (a3 : Int32) (a4 : Int32) (r : Int32 × PS) (hf : fX3_add nF S j a1 a2 a3 a4 = some r) : PMi cy GC ad D l yX3_add (wA yX3_add cX3_add 5 (some .int)) rmX3_add [vr 3 j, vi a1, vi a2, vi a3, vi a4] S (fun x S' => (x, S') = r) := by
  refine PM.of (lv := [(0, vr 3 j), (1, vi a1), (2, vi a2), (3, vi a3), (4, vi a4)]) GC_ok (by decide) (Nat.le_of_ble_eq_true rfl) rfl (by simp) ?_
  intro p e s m args below meth c A hM
  rw [fX3_add] at hf
  refine w_aln (q := 0) (n := 1) hM (dtab_at okX3_add 0 rfl) rfl rfl ?_
  refine w_geti (C := RX3) (T := TX3) (i := 6) (n := 4) hM rfl (by decide) ly_X3 lkF_X3_30 (dtab_at okX3_add 1 rfl) rfl ?_
  refine w_bi (n := 6) hM (40 : Int32) (dtab_at okX3_add 2 rfl) (by decide) rfl ?_
  refine w_ic_lt (n := 12) (n2 := 9) hM (dtab_at okX3_add 3 rfl) (by decide) rfl (fun (h6 : (S.1 j 6) < (40 : Int32)) => ?_) (fun (h6 : ¬ (S.1 j 6) < (40 : Int32)) => ?_)
  · skip
    rw [if_pos h6] at hf
    refine w_aln (q := 0) (n := 13) hM (dtab_at okX3_add 6 rfl) rfl rfl ?_
    refine w_getr (C := RX3) (T := TX3) (i := 0) (k2 := 140) (q := (j + 2)) (n := 16) hM rfl (by decide) rfc_3_0 ly_X3 lkF_X3_9 (dtab_at okX3_add 7 rfl) rfl ?_
    refine w_aln (q := 0) (n := 17) hM (dtab_at okX3_add 8 rfl) rfl rfl ?_
    refine w_geti (C := RX3) (T := TX3) (i := 6) (n := 20) hM rfl (by decide) ly_X3 lkF_X3_30 (dtab_at okX3_add 9 rfl) rfl ?_
    refine w_iln (q := 1) (n := 21) hM (dtab_at okX3_add 10 rfl) rfl rfl ?_
    by_cases hg21 : (S.1 j 6) < 0 ∨ 40 ≤ (S.1 j 6).toNatClampNeg
    · rw [if_pos hg21] at hf; cases hf
    rw [if_neg hg21] at hf
    refine w_ast (nn := 40) (n := 22) hM rfl hg21 (dtab_at okX3_add 11 rfl) rfl ?_
    refine w_aln (q := 0) (n := 23) hM (dtab_at okX3_add 12 rfl) rfl rfl ?_
    refine w_getr (C := RX3) (T := TX3) (i := 1) (k2 := 140) (q := (j + 4)) (n := 26) hM rfl (by decide) rfc_3_1 ly_X3 lkF_X3_15 (dtab_at okX3_add 13 rfl) rfl ?_
    refine w_aln (q := 0) (n := 27) hM (dtab_at okX3_add 14 rfl) rfl rfl ?_
    refine w_geti (C := RX3) (T := TX3) (i := 6) (n := 30) hM rfl (by decide) ly_X3 lkF_X3_30 (dtab_at okX3_add 15 rfl) rfl ?_
    refine w_iln (q := 2) (n := 31) hM (dtab_at okX3_add 16 rfl) rfl rfl ?_
    refine w_ast (nn := 40) (n := 32) hM rfl hg21 (dtab_at okX3_add 17 rfl) rfl ?_
    refine w_aln (q := 0) (n := 33) hM (dtab_at okX3_add 18 rfl) rfl rfl ?_
    refine w_getr (C := RX3) (T := TX3) (i := 2) (k2 := 140) (q := (j + 6)) (n := 36) hM rfl (by decide) rfc_3_2 ly_X3 lkF_X3_18 (dtab_at okX3_add 19 rfl) rfl ?_
    refine w_aln (q := 0) (n := 37) hM (dtab_at okX3_add 20 rfl) rfl rfl ?_
    refine w_geti (C := RX3) (T := TX3) (i := 6) (n := 40) hM rfl (by decide) ly_X3 lkF_X3_30 (dtab_at okX3_add 21 rfl) rfl ?_
    refine w_iln (q := 3) (n := 41) hM (dtab_at okX3_add 22 rfl) rfl rfl ?_
    refine w_ast (nn := 40) (n := 42) hM rfl hg21 (dtab_at okX3_add 23 rfl) rfl ?_
    refine w_aln (q := 0) (n := 43) hM (dtab_at okX3_add 24 rfl) rfl rfl ?_
    refine w_getr (C := RX3) (T := TX3) (i := 3) (k2 := 140) (q := (j + 8)) (n := 46) hM rfl (by decide) rfc_3_3 ly_X3 lkF_X3_21 (dtab_at okX3_add 25 rfl) rfl ?_
    refine w_aln (q := 0) (n := 47) hM (dtab_at okX3_add 26 rfl) rfl rfl ?_
    refine w_geti (C := RX3) (T := TX3) (i := 6) (n := 50) hM rfl (by decide) ly_X3 lkF_X3_30 (dtab_at okX3_add 27 rfl) rfl ?_
    refine w_il (q := 4) (n := 52) hM (dtab_at okX3_add 28 rfl) rfl rfl ?_
    refine w_ast (nn := 40) (n := 53) hM rfl hg21 (dtab_at okX3_add 29 rfl) rfl ?_
    refine w_aln (q := 0) (n := 54) hM (dtab_at okX3_add 30 rfl) rfl rfl ?_
    refine w_dup (n := 55) hM (dtab_at okX3_add 31 rfl) rfl rfl ?_
    refine w_geti (C := RX3) (T := TX3) (i := 6) (n := 58) hM rfl (by decide) ly_X3 lkF_X3_30 (dtab_at okX3_add 32 rfl) rfl ?_
    refine w_ic (n := 59) hM (1 : Int32) (dtab_at okX3_add 33 rfl) (by decide) rfl ?_
    refine w_iadd (n := 60) hM (dtab_at okX3_add 34 rfl) rfl ?_
    refine w_put (C := RX3) (T := TX3) (i := 6) (ty := .int) (n := 63) hM rfl (by decide) ly_X3 tyX3_ok nmX3 lkF_X3_30 rfl (by decide +kernel) rfl rfl (dtab_at okX3_add 35 rfl) rfl ?_
    refine w_aln (q := 0) (n := 64) hM (dtab_at okX3_add 36 rfl) rfl rfl ?_
    refine w_geti (C := RX3) (T := TX3) (i := 6) (n := 67) hM rfl (by decide) ly_X3 lkF_X3_30 (dtab_at okX3_add 37 rfl) rfl ?_
    refine w_ic (n := 68) hM (1 : Int32) (dtab_at okX3_add 38 rfl) (by decide) rfl ?_
    refine w_isub (n := 69) hM (dtab_at okX3_add 39 rfl) rfl ?_
    exact r_i hM (dtab_at okX3_add 40 rfl) (Option.some.inj hf)
  · skip
    rw [if_neg h6] at hf
    refine w_bi (n := 11) hM (-3 : Int32) (dtab_at okX3_add 4 rfl) (by decide) rfl ?_
    exact r_i hM (dtab_at okX3_add 5 rfl) (Option.some.inj hf)
def fX3_fact (nF : Nat) (S : PS) (j : Nat) (a1 : Int32) (a2 : Int32) : Option (Int32) := (if a2.toInt < 0 ∨ 3 < a2.toInt then (if a1 < 0 ∨ 40 ≤ a1.toNatClampNeg then none else (some (S.2 (j + 10) a1.toNatClampNeg))) else if a2 = 0 then (if a1 < 0 ∨ 40 ≤ a1.toNatClampNeg then none else (some (S.2 (j + 2) a1.toNatClampNeg))) else if a2 = 1 then (if a1 < 0 ∨ 40 ≤ a1.toNatClampNeg then none else (some (S.2 (j + 4) a1.toNatClampNeg))) else if a2 = 2 then (if a1 < 0 ∨ 40 ≤ a1.toNatClampNeg then none else (some (S.2 (j + 6) a1.toNatClampNeg))) else (if a1 < 0 ∨ 40 ≤ a1.toNatClampNeg then none else (some (S.2 (j + 8) a1.toNatClampNeg))))
set_option maxHeartbeats 4000000 in
set_option maxRecDepth 100000 in
theorem c_X3_fact {cy : ClassId × ClassId} {ad : Nat → Nat} {D : va_G} {l : Launch} (nF : Nat) (S : PS) (j : Nat) (a1 : Int32) (a2 : Int32) (r : Int32) (hf : fX3_fact nF S j a1 a2 = some r) : PMi cy GC ad D l yX3_fact (wA yX3_fact cX3_fact 3 (some .int)) rmX3_fact [vr 3 j, vi a1, vi a2] S (fun x S' => x = r ∧ S' = S) := by
  refine PM.of (lv := [(0, vr 3 j), (1, vi a1), (2, vi a2)]) GC_ok (by decide) (Nat.le_of_ble_eq_true rfl) rfl (by simp) ?_
  intro p e s m args below meth c A hM
  rw [fX3_fact] at hf
  obtain ⟨S0, hS⟩ : ∃ S0 : PS, S = S0 := ⟨S, rfl⟩
  rw [show (fun (x : Int32) (S' : PS) => x = r ∧ S' = S) = (fun x S' => x = r ∧ S' = S0) by rw [hS]]
  refine w_iln (q := 2) (n := 1) hM (dtab_at okX3_fact 0 rfl) rfl rfl ?_
  by_cases hts1 : a2.toInt < 0 ∨ 3 < a2.toInt
  · refine w_tsOut (n := 60) hM (dtab_at okX3_fact 1 rfl) hts1 (by decide) ?_
    rw [if_pos hts1] at hf
    refine w_aln (q := 0) (n := 61) hM (dtab_at okX3_fact 22 rfl) rfl rfl ?_
    refine w_getr (C := RX3) (T := TX3) (i := 4) (k2 := 140) (q := (j + 10)) (n := 64) hM rfl (by decide) rfc_3_4 ly_X3 lkF_X3_24 (dtab_at okX3_fact 23 rfl) rfl ?_
    refine w_iln (q := 1) (n := 65) hM (dtab_at okX3_fact 24 rfl) rfl rfl ?_
    by_cases hg65 : a1 < 0 ∨ 40 ≤ a1.toNatClampNeg
    · rw [if_pos hg65] at hf; cases hf
    rw [if_neg hg65] at hf
    refine w_ald (nn := 40) (n := 66) hM rfl hg65 (dtab_at okX3_fact 25 rfl) rfl ?_
    exact r_i hM (dtab_at okX3_fact 26 rfl) ⟨Option.some.inj hf, hS⟩
  · have htn1 := hts1
    obtain hts1 | hts1 | hts1 | hts1 : a2 = 0 ∨ a2 = 1 ∨ a2 = 2 ∨ a2 = 3 := sw0_4 hts1
    · refine w_tsIn (n := 32) (off := 31) hM (dtab_at okX3_fact 1 rfl) (by rw [hts1]; decide) (by rw [hts1]; decide) (by rw [hts1]; rfl) (by decide) ?_
      rw [if_neg htn1, if_pos hts1] at hf
      refine w_aln (q := 0) (n := 33) hM (dtab_at okX3_fact 2 rfl) rfl rfl ?_
      refine w_getr (C := RX3) (T := TX3) (i := 0) (k2 := 140) (q := (j + 2)) (n := 36) hM rfl (by decide) rfc_3_0 ly_X3 lkF_X3_9 (dtab_at okX3_fact 3 rfl) rfl ?_
      refine w_iln (q := 1) (n := 37) hM (dtab_at okX3_fact 4 rfl) rfl rfl ?_
      by_cases hg37 : a1 < 0 ∨ 40 ≤ a1.toNatClampNeg
      · rw [if_pos hg37] at hf; cases hf
      rw [if_neg hg37] at hf
      refine w_ald (nn := 40) (n := 38) hM rfl hg37 (dtab_at okX3_fact 5 rfl) rfl ?_
      exact r_i hM (dtab_at okX3_fact 6 rfl) ⟨Option.some.inj hf, hS⟩
    · refine w_tsIn (n := 39) (off := 38) hM (dtab_at okX3_fact 1 rfl) (by rw [hts1]; decide) (by rw [hts1]; decide) (by rw [hts1]; rfl) (by decide) ?_
      rw [if_neg htn1, if_neg (show ¬ a2 = 0 by rw [hts1]; decide), if_pos hts1] at hf
      refine w_aln (q := 0) (n := 40) hM (dtab_at okX3_fact 7 rfl) rfl rfl ?_
      refine w_getr (C := RX3) (T := TX3) (i := 1) (k2 := 140) (q := (j + 4)) (n := 43) hM rfl (by decide) rfc_3_1 ly_X3 lkF_X3_15 (dtab_at okX3_fact 8 rfl) rfl ?_
      refine w_iln (q := 1) (n := 44) hM (dtab_at okX3_fact 9 rfl) rfl rfl ?_
      by_cases hg44 : a1 < 0 ∨ 40 ≤ a1.toNatClampNeg
      · rw [if_pos hg44] at hf; cases hf
      rw [if_neg hg44] at hf
      refine w_ald (nn := 40) (n := 45) hM rfl hg44 (dtab_at okX3_fact 10 rfl) rfl ?_
      exact r_i hM (dtab_at okX3_fact 11 rfl) ⟨Option.some.inj hf, hS⟩
    · refine w_tsIn (n := 46) (off := 45) hM (dtab_at okX3_fact 1 rfl) (by rw [hts1]; decide) (by rw [hts1]; decide) (by rw [hts1]; rfl) (by decide) ?_
      rw [if_neg htn1, if_neg (show ¬ a2 = 0 by rw [hts1]; decide), if_neg (show ¬ a2 = 1 by rw [hts1]; decide), if_pos hts1] at hf
      refine w_aln (q := 0) (n := 47) hM (dtab_at okX3_fact 12 rfl) rfl rfl ?_
      refine w_getr (C := RX3) (T := TX3) (i := 2) (k2 := 140) (q := (j + 6)) (n := 50) hM rfl (by decide) rfc_3_2 ly_X3 lkF_X3_18 (dtab_at okX3_fact 13 rfl) rfl ?_
      refine w_iln (q := 1) (n := 51) hM (dtab_at okX3_fact 14 rfl) rfl rfl ?_
      by_cases hg51 : a1 < 0 ∨ 40 ≤ a1.toNatClampNeg
      · rw [if_pos hg51] at hf; cases hf
      rw [if_neg hg51] at hf
      refine w_ald (nn := 40) (n := 52) hM rfl hg51 (dtab_at okX3_fact 15 rfl) rfl ?_
      exact r_i hM (dtab_at okX3_fact 16 rfl) ⟨Option.some.inj hf, hS⟩
    · refine w_tsIn (n := 53) (off := 52) hM (dtab_at okX3_fact 1 rfl) (by rw [hts1]; decide) (by rw [hts1]; decide) (by rw [hts1]; rfl) (by decide) ?_
      rw [if_neg htn1, if_neg (show ¬ a2 = 0 by rw [hts1]; decide), if_neg (show ¬ a2 = 1 by rw [hts1]; decide), if_neg (show ¬ a2 = 2 by rw [hts1]; decide)] at hf
      refine w_aln (q := 0) (n := 54) hM (dtab_at okX3_fact 17 rfl) rfl rfl ?_
      refine w_getr (C := RX3) (T := TX3) (i := 3) (k2 := 140) (q := (j + 8)) (n := 57) hM rfl (by decide) rfc_3_3 ly_X3 lkF_X3_21 (dtab_at okX3_fact 18 rfl) rfl ?_
      refine w_iln (q := 1) (n := 58) hM (dtab_at okX3_fact 19 rfl) rfl rfl ?_
      by_cases hg58 : a1 < 0 ∨ 40 ≤ a1.toNatClampNeg
      · rw [if_pos hg58] at hf; cases hf
      rw [if_neg hg58] at hf
      refine w_ald (nn := 40) (n := 59) hM rfl hg58 (dtab_at okX3_fact 20 rfl) rfl ?_
      exact r_i hM (dtab_at okX3_fact 21 rfl) ⟨Option.some.inj hf, hS⟩
def fX3_endOf (nF : Nat) (S : PS) (j : Nat) (a1 : Int32) : Option (Int32) := (if a1 < 0 ∨ 40 ≤ a1.toNatClampNeg then none else (some ((S.2 (j + 2) a1.toNatClampNeg) + (S.2 (j + 8) a1.toNatClampNeg))))
set_option maxHeartbeats 4000000 in
set_option maxRecDepth 100000 in
theorem c_X3_endOf {cy : ClassId × ClassId} {ad : Nat → Nat} {D : va_G} {l : Launch} (nF : Nat) (S : PS) (j : Nat) (a1 : Int32) (r : Int32) (hf : fX3_endOf nF S j a1 = some r) : PMi cy GC ad D l yX3_endOf (wA yX3_endOf cX3_endOf 2 (some .int)) rmX3_endOf [vr 3 j, vi a1] S (fun x S' => x = r ∧ S' = S) := by
  refine PM.of (lv := [(0, vr 3 j), (1, vi a1)]) GC_ok (by decide) (Nat.le_of_ble_eq_true rfl) rfl (by simp) ?_
  intro p e s m args below meth c A hM
  rw [fX3_endOf] at hf
  obtain ⟨S0, hS⟩ : ∃ S0 : PS, S = S0 := ⟨S, rfl⟩
  rw [show (fun (x : Int32) (S' : PS) => x = r ∧ S' = S) = (fun x S' => x = r ∧ S' = S0) by rw [hS]]
  refine w_aln (q := 0) (n := 1) hM (dtab_at okX3_endOf 0 rfl) rfl rfl ?_
  refine w_getr (C := RX3) (T := TX3) (i := 0) (k2 := 140) (q := (j + 2)) (n := 4) hM rfl (by decide) rfc_3_0 ly_X3 lkF_X3_9 (dtab_at okX3_endOf 1 rfl) rfl ?_
  refine w_iln (q := 1) (n := 5) hM (dtab_at okX3_endOf 2 rfl) rfl rfl ?_
  by_cases hg5 : a1 < 0 ∨ 40 ≤ a1.toNatClampNeg
  · rw [if_pos hg5] at hf; cases hf
  rw [if_neg hg5] at hf
  refine w_ald (nn := 40) (n := 6) hM rfl hg5 (dtab_at okX3_endOf 3 rfl) rfl ?_
  refine w_aln (q := 0) (n := 7) hM (dtab_at okX3_endOf 4 rfl) rfl rfl ?_
  refine w_getr (C := RX3) (T := TX3) (i := 3) (k2 := 140) (q := (j + 8)) (n := 10) hM rfl (by decide) rfc_3_3 ly_X3 lkF_X3_21 (dtab_at okX3_endOf 5 rfl) rfl ?_
  refine w_iln (q := 1) (n := 11) hM (dtab_at okX3_endOf 6 rfl) rfl rfl ?_
  refine w_ald (nn := 40) (n := 12) hM rfl hg5 (dtab_at okX3_endOf 7 rfl) rfl ?_
  refine w_iadd (n := 13) hM (dtab_at okX3_endOf 8 rfl) rfl ?_
  exact r_i hM (dtab_at okX3_endOf 9 rfl) ⟨Option.some.inj hf, hS⟩
def fX9_hoursApart (S : PS) (a1 : Int32) (a2 : Int32) : Int32 := if ((12 : Int32) - (if 0 ≤ (a1 - a2) then (a1 - a2) else 0 - (a1 - a2))) < (if 0 ≤ (a1 - a2) then (a1 - a2) else 0 - (a1 - a2)) then ((12 : Int32) - (if 0 ≤ (a1 - a2) then (a1 - a2) else 0 - (a1 - a2))) else (if 0 ≤ (a1 - a2) then (a1 - a2) else 0 - (a1 - a2))
set_option maxHeartbeats 4000000 in
set_option maxRecDepth 100000 in
theorem c_X9_hoursApart {cy : ClassId × ClassId} {ad : Nat → Nat} {D : va_G} {l : Launch} (S : PS) (a1 : Int32) (a2 : Int32)  : PMi cy GC ad D l yX9_hoursApart (wA yX9_hoursApart cX9_hoursApart 3 (some .int)) rmX9_hoursApart [vi a1, vi a2] S (fun x S' => x = (fX9_hoursApart S a1 a2) ∧ S' = S) := by
  refine PM.of (lv := [(0, vi a1), (1, vi a2)]) GC_ok (by decide) (Nat.le_of_ble_eq_true rfl) rfl (by simp) ?_
  intro p e s m args below meth c A hM
  refine w_iln (q := 0) (n := 1) hM (dtab_at okX9_hoursApart 0 rfl) rfl rfl ?_
  refine w_iln (q := 1) (n := 2) hM (dtab_at okX9_hoursApart 1 rfl) rfl rfl ?_
  refine w_isub (n := 3) hM (dtab_at okX9_hoursApart 2 rfl) rfl ?_
  refine w_abs (n := 6) hM ⟨lkM_X9_275, mS_J9_abs_0f7a4, iz_J9, mC_J9_abs_0f7a4⟩ (by decide) (Nat.le_of_ble_eq_true rfl) (dtab_at okX9_hoursApart 3 rfl) rfl ?_
  refine w_isn (n := 7) (lv' := [(2, vi (if 0 ≤ (a1 - a2) then (a1 - a2) else 0 - (a1 - a2))), (0, vi a1), (1, vi a2)]) hM (dtab_at okX9_hoursApart 4 rfl) (by decide) rfl rfl ?_
  refine w_iln (q := 0) (n := 8) hM (dtab_at okX9_hoursApart 5 rfl) rfl rfl ?_
  refine w_bi (n := 10) hM (12 : Int32) (dtab_at okX9_hoursApart 6 rfl) (by decide) rfl ?_
  refine w_iln (q := 0) (n := 11) hM (dtab_at okX9_hoursApart 7 rfl) rfl rfl ?_
  refine w_isub (n := 12) hM (dtab_at okX9_hoursApart 8 rfl) rfl ?_
  refine w_min (n := 15) hM ⟨lkM_X9_280, mS_J9_min_7cf53, iz_J9, mC_J9_min_7cf53⟩ (by decide) (Nat.le_of_ble_eq_true rfl) (dtab_at okX9_hoursApart 9 rfl) rfl ?_
  exact r_i hM (dtab_at okX9_hoursApart 10 rfl) ⟨by rw [fX9_hoursApart], rfl⟩
def fX3_areNear (nF : Nat) (S : PS) (j : Nat) (a1 : Int32) (a2 : Int32) (a3 : Int32) (a4 : Int32) : Option (Int32) := (if a1 < 0 ∨ 40 ≤ a1.toNatClampNeg then none else ((fX3_endOf nF S j a2).bind fun r0 => (if a2 < 0 ∨ 40 ≤ a2.toNatClampNeg then none else ((fX3_endOf nF S j a1).bind fun r1 => (if a3 < (if ((S.2 (j + 2) a1.toNatClampNeg) - r0) < ((S.2 (j + 2) a2.toNatClampNeg) - r1) then ((S.2 (j + 2) a2.toNatClampNeg) - r1) else ((S.2 (j + 2) a1.toNatClampNeg) - r0)) then (some (0 : Int32)) else (if a4 < (fX9_hoursApart S (S.2 (j + 4) a1.toNatClampNeg) (S.2 (j + 4) a2.toNatClampNeg)) then (some (0 : Int32)) else (some (1 : Int32))))))))
set_option maxHeartbeats 4000000 in
set_option maxRecDepth 100000 in
theorem c_X3_areNear {cy : ClassId × ClassId} {ad : Nat → Nat} {D : va_G} {l : Launch} (nF : Nat) (S : PS) (j : Nat) (a1 : Int32) (a2 : Int32) (a3 : Int32) (a4 : Int32) (r : Int32) (hf : fX3_areNear nF S j a1 a2 a3 a4 = some r) : PMi cy GC ad D l yX3_areNear (wA yX3_areNear cX3_areNear 6 (some .boolean)) rmX3_areNear [vr 3 j, vi a1, vi a2, vi a3, vi a4] S (fun x S' => x = r ∧ S' = S) := by
  refine PM.of (lv := [(0, vr 3 j), (1, vi a1), (2, vi a2), (3, vi a3), (4, vi a4)]) GC_ok (by decide) (Nat.le_of_ble_eq_true rfl) rfl (by simp) ?_
  intro p e s m args below meth c A hM
  rw [fX3_areNear] at hf
  obtain ⟨S0, hS⟩ : ∃ S0 : PS, S = S0 := ⟨S, rfl⟩
  rw [show (fun (x : Int32) (S' : PS) => x = r ∧ S' = S) = (fun x S' => x = r ∧ S' = S0) by rw [hS]]
  refine w_aln (q := 0) (n := 1) hM (dtab_at okX3_areNear 0 rfl) rfl rfl ?_
  refine w_getr (C := RX3) (T := TX3) (i := 0) (k2 := 140) (q := (j + 2)) (n := 4) hM rfl (by decide) rfc_3_0 ly_X3 lkF_X3_9 (dtab_at okX3_areNear 1 rfl) rfl ?_
  refine w_iln (q := 1) (n := 5) hM (dtab_at okX3_areNear 2 rfl) rfl rfl ?_
  by_cases hg5 : a1 < 0 ∨ 40 ≤ a1.toNatClampNeg
  · rw [if_pos hg5] at hf; cases hf
  rw [if_neg hg5] at hf
  refine w_ald (nn := 40) (n := 6) hM rfl hg5 (dtab_at okX3_areNear 3 rfl) rfl ?_
  refine w_aln (q := 0) (n := 7) hM (dtab_at okX3_areNear 4 rfl) rfl rfl ?_
  refine w_iln (q := 2) (n := 8) hM (dtab_at okX3_areNear 5 rfl) rfl rfl ?_
  obtain ⟨r0, hr0, hf⟩ := Option.bind_eq_some_iff.mp hf
  refine w_callVi (n := 11) (As := [vi a2]) (rest := [vi (S.2 (j + 2) a1.toNatClampNeg)]) (k := 3) (j := j) (C := RX3) (T := TX3) (N := 8) hM (c_X3_endOf nF S j a2 r0 hr0) lkM_X3_34 mv_X3_endOf (by decide) rfl (by decide) rfl (Nat.le_of_ble_eq_true rfl) rfl (dtab_at okX3_areNear 6 rfl) rfl (fun x0 S0 hp0 => ?_)
  obtain ⟨hx_, hs_⟩ := hp0
  have hs_ := hs_.symm
  have hx_ := hx_.symm
  subst hs_
  subst hx_
  refine w_isub (n := 12) hM (dtab_at okX3_areNear 7 rfl) rfl ?_
  refine w_aln (q := 0) (n := 13) hM (dtab_at okX3_areNear 8 rfl) rfl rfl ?_
  refine w_getr (C := RX3) (T := TX3) (i := 0) (k2 := 140) (q := (j + 2)) (n := 16) hM rfl (by decide) rfc_3_0 ly_X3 lkF_X3_9 (dtab_at okX3_areNear 9 rfl) rfl ?_
  refine w_iln (q := 2) (n := 17) hM (dtab_at okX3_areNear 10 rfl) rfl rfl ?_
  by_cases hg17 : a2 < 0 ∨ 40 ≤ a2.toNatClampNeg
  · rw [if_pos hg17] at hf; cases hf
  rw [if_neg hg17] at hf
  refine w_ald (nn := 40) (n := 18) hM rfl hg17 (dtab_at okX3_areNear 11 rfl) rfl ?_
  refine w_aln (q := 0) (n := 19) hM (dtab_at okX3_areNear 12 rfl) rfl rfl ?_
  refine w_iln (q := 1) (n := 20) hM (dtab_at okX3_areNear 13 rfl) rfl rfl ?_
  obtain ⟨r1, hr1, hf⟩ := Option.bind_eq_some_iff.mp hf
  refine w_callVi (n := 23) (As := [vi a1]) (rest := [vi (S.2 (j + 2) a2.toNatClampNeg), vi ((S.2 (j + 2) a1.toNatClampNeg) - r0)]) (k := 3) (j := j) (C := RX3) (T := TX3) (N := 8) hM (c_X3_endOf nF S j a1 r1 hr1) lkM_X3_34 mv_X3_endOf (by decide) rfl (by decide) rfl (Nat.le_of_ble_eq_true rfl) rfl (dtab_at okX3_areNear 14 rfl) rfl (fun x1 S1 hp1 => ?_)
  obtain ⟨hx_, hs_⟩ := hp1
  have hs_ := hs_.symm
  have hx_ := hx_.symm
  subst hs_
  subst hx_
  refine w_isub (n := 24) hM (dtab_at okX3_areNear 15 rfl) rfl ?_
  refine w_max (n := 27) hM ⟨lkM_X3_38, mS_J9_max_7cf53, iz_J9, mC_J9_max_7cf53⟩ (by decide) (Nat.le_of_ble_eq_true rfl) (dtab_at okX3_areNear 16 rfl) rfl ?_
  refine w_is (n := 29) (lv' := [(5, vi (if ((S.2 (j + 2) a1.toNatClampNeg) - r0) < ((S.2 (j + 2) a2.toNatClampNeg) - r1) then ((S.2 (j + 2) a2.toNatClampNeg) - r1) else ((S.2 (j + 2) a1.toNatClampNeg) - r0))), (0, vr 3 j), (1, vi a1), (2, vi a2), (3, vi a3), (4, vi a4)]) hM (dtab_at okX3_areNear 17 rfl) (by decide) rfl rfl ?_
  refine w_il (q := 0) (n := 31) hM (dtab_at okX3_areNear 18 rfl) rfl rfl ?_
  refine w_iln (q := 4) (n := 32) hM (dtab_at okX3_areNear 19 rfl) rfl rfl ?_
  refine w_ic_gt (n := 59) (n2 := 35) hM (dtab_at okX3_areNear 20 rfl) (by decide) rfl (fun (h32 : a3 < (if ((S.2 (j + 2) a1.toNatClampNeg) - r0) < ((S.2 (j + 2) a2.toNatClampNeg) - r1) then ((S.2 (j + 2) a2.toNatClampNeg) - r1) else ((S.2 (j + 2) a1.toNatClampNeg) - r0))) => ?_) (fun (h32 : ¬ a3 < (if ((S.2 (j + 2) a1.toNatClampNeg) - r0) < ((S.2 (j + 2) a2.toNatClampNeg) - r1) then ((S.2 (j + 2) a2.toNatClampNeg) - r1) else ((S.2 (j + 2) a1.toNatClampNeg) - r0))) => ?_)
  · skip
    rw [if_pos h32] at hf
    refine w_ic (n := 60) hM (0 : Int32) (dtab_at okX3_areNear 34 rfl) (by decide) rfl ?_
    exact r_z hM (by decide) (dtab_at okX3_areNear 35 rfl) ⟨Option.some.inj hf, hS⟩
  · skip
    rw [if_neg h32] at hf
    refine w_aln (q := 1) (n := 36) hM (dtab_at okX3_areNear 21 rfl) rfl rfl ?_
    refine w_getr (C := RX3) (T := TX3) (i := 1) (k2 := 140) (q := (j + 4)) (n := 39) hM rfl (by decide) rfc_3_1 ly_X3 lkF_X3_15 (dtab_at okX3_areNear 22 rfl) rfl ?_
    refine w_iln (q := 2) (n := 40) hM (dtab_at okX3_areNear 23 rfl) rfl rfl ?_
    refine w_ald (nn := 40) (n := 41) hM rfl hg5 (dtab_at okX3_areNear 24 rfl) rfl ?_
    refine w_aln (q := 1) (n := 42) hM (dtab_at okX3_areNear 25 rfl) rfl rfl ?_
    refine w_getr (C := RX3) (T := TX3) (i := 1) (k2 := 140) (q := (j + 4)) (n := 45) hM rfl (by decide) rfc_3_1 ly_X3 lkF_X3_15 (dtab_at okX3_areNear 26 rfl) rfl ?_
    refine w_iln (q := 3) (n := 46) hM (dtab_at okX3_areNear 27 rfl) rfl rfl ?_
    refine w_ald (nn := 40) (n := 47) hM rfl hg17 (dtab_at okX3_areNear 28 rfl) rfl ?_
    refine w_callSNi (n := 50) (As := [vi (S.2 (j + 4) a1.toNatClampNeg), vi (S.2 (j + 4) a2.toNatClampNeg)]) (rest := []) hM (c_X9_hoursApart S (S.2 (j + 4) a1.toNatClampNeg) (S.2 (j + 4) a2.toNatClampNeg)) (fun hf => hf.2.1) ms_X9_hoursApart (by decide) rfl (Nat.le_of_ble_eq_true rfl) rfl (dtab_at okX3_areNear 29 rfl) rfl (fun x2 S2 hp2 => ?_)
    obtain ⟨hx_, hs_⟩ := hp2
    have hs_ := hs_.symm
    subst hs_
    subst hx_
    refine w_il (q := 5) (n := 52) hM (dtab_at okX3_areNear 30 rfl) rfl rfl ?_
    refine w_ic_gt (n := 59) (n2 := 55) hM (dtab_at okX3_areNear 31 rfl) (by decide) rfl (fun (h52 : a4 < (fX9_hoursApart S (S.2 (j + 4) a1.toNatClampNeg) (S.2 (j + 4) a2.toNatClampNeg))) => ?_) (fun (h52 : ¬ a4 < (fX9_hoursApart S (S.2 (j + 4) a1.toNatClampNeg) (S.2 (j + 4) a2.toNatClampNeg))) => ?_)
    · skip
      rw [if_pos h52] at hf
      refine w_ic (n := 60) hM (0 : Int32) (dtab_at okX3_areNear 34 rfl) (by decide) rfl ?_
      exact r_z hM (by decide) (dtab_at okX3_areNear 35 rfl) ⟨Option.some.inj hf, hS⟩
    · skip
      rw [if_neg h52] at hf
      refine w_ic (n := 56) hM (1 : Int32) (dtab_at okX3_areNear 32 rfl) (by decide) rfl ?_
      refine w_goto (n := 60) hM (dtab_at okX3_areNear 33 rfl) (by decide) ?_
      exact r_z hM (by decide) (dtab_at okX3_areNear 35 rfl) ⟨Option.some.inj hf, hS⟩
def BX3_spread_116 (nF : Nat) (k23 : PS → Nat → Int32 → Int32 → Int32 → Int32 → Option (PS)) (S : PS) (v0 : Nat) (v2 : Int32) (v3 : Int32) (v4 : Int32) (v5 : Int32) : Option (PS) := (k23 S v0 v2 v3 v4 (v5 + (1 : Int32)))
set_option maxHeartbeats 4000000 in
set_option maxRecDepth 100000 in
theorem wBX3_spread_116 {cy : ClassId × ClassId} {ad : Nat → Nat} {D : va_G} {p : Program} {l : Launch} {e : Env} {s : State} {m : MethodId} {args : Array Value} {below : List Frame} {meth : Method} {c : Code} {A : Nat → Prop} (hM : MX cy GC ad D p s m args meth c cX3_spread 7 RX3 none A) (nF : Nat) (r : PS) (k23 : PS → Nat → Int32 → Int32 → Int32 → Int32 → Option (PS)) (hk23 : ∀ (S : PS) (v0 : Nat) (v2 : Int32) (v3 : Int32) (v4 : Int32) (v5 : Int32), k23 S v0 v2 v3 v4 v5 = some r → WW cy GC ad D p l e rmX3_spread s m args below meth c 7 A (pov (fun S' => S' = r)) 23 [(0, vr 3 v0), (2, vi v2), (3, vi v3), (4, vi v4), (5, vi v5)] [] S) (S : PS) (v0 : Nat) (v2 : Int32) (v3 : Int32) (v4 : Int32) (v5 : Int32) (hf : BX3_spread_116 nF k23 S v0 v2 v3 v4 v5 = some r) : WW cy GC ad D p l e rmX3_spread s m args below meth c 7 A (pov (fun S' => S' = r)) 116 [(0, vr 3 v0), (2, vi v2), (3, vi v3), (4, vi v4), (5, vi v5)] [] S := by
  rw [BX3_spread_116] at hf
  refine w_iinc (q := 4) (n := 119) (v := (v5 + (1 : Int32))) (lv' := [(5, vi (v5 + (1 : Int32))), (0, vr 3 v0), (2, vi v2), (3, vi v3), (4, vi v4)]) hM (dtab_at okX3_spread 61 rfl) rfl rfl (by decide) rfl rfl ?_
  refine w_goto (n := 23) hM (dtab_at okX3_spread 62 rfl) (by decide) ?_
  refine WW.lvs [1, 2, 3, 4, 0] (lv2 := [(0, vr 3 v0), (2, vi v2), (3, vi v3), (4, vi v4), (5, vi (v5 + (1 : Int32)))]) rfl ?_
  exact hk23 S v0 v2 v3 v4 (v5 + (1 : Int32)) hf
def LX3_spread_42 (nF : Nat) (k23 : PS → Nat → Int32 → Int32 → Int32 → Int32 → Option (PS)) : Nat → PS → Nat → Int32 → Int32 → Int32 → Int32 → Int32 → Option (PS)
  | 0, _, _, _, _, _, _, _ => none
  | n + 1, S, v0, v2, v3, v4, v5, v6 => (if (S.1 v0 6) ≤ v6 then (BX3_spread_116 nF k23 S v0 v2 v3 v4 v5) else (if v6 < 0 ∨ 40 ≤ v6.toNatClampNeg then none else (if (S.2 (v0 + 10) v6.toNatClampNeg) = (-1 : Int32) then (if (40 : Int32) ≤ v4 then (LX3_spread_42 nF k23 n S v0 v2 v3 v4 v5 (v6 + (1 : Int32))) else (if v5 < 0 ∨ 40 ≤ v5.toNatClampNeg then none else ((fX3_areNear nF S v0 (S.2 (v0 + 12) v5.toNatClampNeg) v6 v2 v3).bind fun r0 => (if r0 = (0 : Int32) then (LX3_spread_42 nF k23 n S v0 v2 v3 v4 v5 (v6 + (1 : Int32))) else (if v4 < 0 ∨ 40 ≤ v4.toNatClampNeg then none else (LX3_spread_42 nF k23 n (sta (sta S (v0 + 10) v6.toNatClampNeg (S.1 v0 7)) (v0 + 12) v4.toNatClampNeg v6) v0 v2 v3 (v4 + (1 : Int32)) v5 (v6 + (1 : Int32)))))))) else (LX3_spread_42 nF k23 n S v0 v2 v3 v4 v5 (v6 + (1 : Int32))))))
set_option maxHeartbeats 4000000 in
set_option maxRecDepth 100000 in
theorem wLX3_spread_42 {cy : ClassId × ClassId} {ad : Nat → Nat} {D : va_G} {p : Program} {l : Launch} {e : Env} {s : State} {m : MethodId} {args : Array Value} {below : List Frame} {meth : Method} {c : Code} {A : Nat → Prop} (hM : MX cy GC ad D p s m args meth c cX3_spread 7 RX3 none A) (nF : Nat) (r : PS) (k23 : PS → Nat → Int32 → Int32 → Int32 → Int32 → Option (PS)) (hk23 : ∀ (S : PS) (v0 : Nat) (v2 : Int32) (v3 : Int32) (v4 : Int32) (v5 : Int32), k23 S v0 v2 v3 v4 v5 = some r → WW cy GC ad D p l e rmX3_spread s m args below meth c 7 A (pov (fun S' => S' = r)) 23 [(0, vr 3 v0), (2, vi v2), (3, vi v3), (4, vi v4), (5, vi v5)] [] S) : ∀ (n : Nat) (S : PS) (v0 : Nat) (v2 : Int32) (v3 : Int32) (v4 : Int32) (v5 : Int32) (v6 : Int32), LX3_spread_42 nF k23 n S v0 v2 v3 v4 v5 v6 = some r → WW cy GC ad D p l e rmX3_spread s m args below meth c 7 A (pov (fun S' => S' = r)) 42 [(0, vr 3 v0), (2, vi v2), (3, vi v3), (4, vi v4), (5, vi v5), (6, vi v6)] [] S := by
  intro n
  induction n with
  | zero => intro S v0 v2 v3 v4 v5 v6 hf; rw [LX3_spread_42] at hf; cases hf
  | succ n ih =>
    intro S v0 v2 v3 v4 v5 v6 hf
    rw [LX3_spread_42] at hf
    refine w_il (q := 5) (n := 44) hM (dtab_at okX3_spread 24 rfl) rfl rfl ?_
    refine w_aln (q := 0) (n := 45) hM (dtab_at okX3_spread 25 rfl) rfl rfl ?_
    refine w_geti (C := RX3) (T := TX3) (i := 6) (n := 48) hM rfl (by decide) ly_X3 lkF_X3_30 (dtab_at okX3_spread 26 rfl) rfl ?_
    refine w_ic_ge (n := 116) (n2 := 51) hM (dtab_at okX3_spread 27 rfl) (by decide) rfl (fun (h48 : (S.1 v0 6) ≤ v6) => ?_) (fun (h48 : ¬ (S.1 v0 6) ≤ v6) => ?_)
    · skip
      rw [if_pos h48] at hf
      refine WW.lvs [0, 1, 2, 3, 4] (lv2 := [(0, vr 3 v0), (2, vi v2), (3, vi v3), (4, vi v4), (5, vi v5)]) rfl ?_
      exact wBX3_spread_116 hM nF r k23 hk23 S v0 v2 v3 v4 v5 hf
    · skip
      rw [if_neg h48] at hf
      refine w_aln (q := 0) (n := 52) hM (dtab_at okX3_spread 28 rfl) rfl rfl ?_
      refine w_getr (C := RX3) (T := TX3) (i := 4) (k2 := 140) (q := (v0 + 10)) (n := 55) hM rfl (by decide) rfc_3_4 ly_X3 lkF_X3_24 (dtab_at okX3_spread 29 rfl) rfl ?_
      refine w_il (q := 5) (n := 57) hM (dtab_at okX3_spread 30 rfl) rfl rfl ?_
      by_cases hg57 : v6 < 0 ∨ 40 ≤ v6.toNatClampNeg
      · rw [if_pos hg57] at hf; cases hf
      rw [if_neg hg57] at hf
      refine w_ald (nn := 40) (n := 58) hM rfl hg57 (dtab_at okX3_spread 31 rfl) rfl ?_
      refine w_ic (n := 59) hM (-1 : Int32) (dtab_at okX3_spread 32 rfl) (by decide) rfl ?_
      refine w_ic_ne (n := 110) (n2 := 62) hM (dtab_at okX3_spread 33 rfl) (by decide) rfl (fun (h59 : ¬ (S.2 (v0 + 10) v6.toNatClampNeg) = (-1 : Int32)) => ?_) (fun (h59 : (S.2 (v0 + 10) v6.toNatClampNeg) = (-1 : Int32)) => ?_)
      · skip
        rw [if_neg h59] at hf
        refine w_iinc (q := 5) (n := 113) (v := (v6 + (1 : Int32))) (lv' := [(6, vi (v6 + (1 : Int32))), (0, vr 3 v0), (2, vi v2), (3, vi v3), (4, vi v4), (5, vi v5)]) hM (dtab_at okX3_spread 59 rfl) rfl rfl (by decide) rfl rfl ?_
        refine w_goto (n := 42) hM (dtab_at okX3_spread 60 rfl) (by decide) ?_
        refine WW.lvs [1, 2, 3, 4, 5, 0] (lv2 := [(0, vr 3 v0), (2, vi v2), (3, vi v3), (4, vi v4), (5, vi v5), (6, vi (v6 + (1 : Int32)))]) rfl ?_
        exact ih S v0 v2 v3 v4 v5 (v6 + (1 : Int32)) hf
      · skip
        rw [if_pos h59] at hf
        refine w_il (q := 3) (n := 64) hM (dtab_at okX3_spread 34 rfl) rfl rfl ?_
        refine w_bi (n := 66) hM (40 : Int32) (dtab_at okX3_spread 35 rfl) (by decide) rfl ?_
        refine w_ic_ge (n := 110) (n2 := 69) hM (dtab_at okX3_spread 36 rfl) (by decide) rfl (fun (h66 : (40 : Int32) ≤ v4) => ?_) (fun (h66 : ¬ (40 : Int32) ≤ v4) => ?_)
        · skip
          rw [if_pos h66] at hf
          refine w_iinc (q := 5) (n := 113) (v := (v6 + (1 : Int32))) (lv' := [(6, vi (v6 + (1 : Int32))), (0, vr 3 v0), (2, vi v2), (3, vi v3), (4, vi v4), (5, vi v5)]) hM (dtab_at okX3_spread 59 rfl) rfl rfl (by decide) rfl rfl ?_
          refine w_goto (n := 42) hM (dtab_at okX3_spread 60 rfl) (by decide) ?_
          refine WW.lvs [1, 2, 3, 4, 5, 0] (lv2 := [(0, vr 3 v0), (2, vi v2), (3, vi v3), (4, vi v4), (5, vi v5), (6, vi (v6 + (1 : Int32)))]) rfl ?_
          exact ih S v0 v2 v3 v4 v5 (v6 + (1 : Int32)) hf
        · skip
          rw [if_neg h66] at hf
          refine w_aln (q := 0) (n := 70) hM (dtab_at okX3_spread 37 rfl) rfl rfl ?_
          refine w_aln (q := 0) (n := 71) hM (dtab_at okX3_spread 38 rfl) rfl rfl ?_
          refine w_getr (C := RX3) (T := TX3) (i := 5) (k2 := 140) (q := (v0 + 12)) (n := 74) hM rfl (by decide) rfc_3_5 ly_X3 lkF_X3_27 (dtab_at okX3_spread 39 rfl) rfl ?_
          refine w_il (q := 4) (n := 76) hM (dtab_at okX3_spread 40 rfl) rfl rfl ?_
          by_cases hg76 : v5 < 0 ∨ 40 ≤ v5.toNatClampNeg
          · rw [if_pos hg76] at hf; cases hf
          rw [if_neg hg76] at hf
          refine w_ald (nn := 40) (n := 77) hM rfl hg76 (dtab_at okX3_spread 41 rfl) rfl ?_
          refine w_il (q := 5) (n := 79) hM (dtab_at okX3_spread 42 rfl) rfl rfl ?_
          refine w_iln (q := 1) (n := 80) hM (dtab_at okX3_spread 43 rfl) rfl rfl ?_
          refine w_iln (q := 2) (n := 81) hM (dtab_at okX3_spread 44 rfl) rfl rfl ?_
          obtain ⟨r0, hr0, hf⟩ := Option.bind_eq_some_iff.mp hf
          refine w_callVi (n := 84) (As := [vi (S.2 (v0 + 12) v5.toNatClampNeg), vi v6, vi v2, vi v3]) (rest := []) (k := 3) (j := v0) (C := RX3) (T := TX3) (N := 8) hM (c_X3_areNear nF S v0 (S.2 (v0 + 12) v5.toNatClampNeg) v6 v2 v3 r0 hr0) lkM_X3_54 mv_X3_areNear (by decide) rfl (by decide) rfl (Nat.le_of_ble_eq_true rfl) rfl (dtab_at okX3_spread 45 rfl) rfl (fun x0 S0 hp0 => ?_)
          obtain ⟨hx_, hs_⟩ := hp0
          have hs_ := hs_.symm
          have hx_ := hx_.symm
          subst hs_
          subst hx_
          refine w_if_eq (n := 110) (n2 := 87) hM (dtab_at okX3_spread 46 rfl) (by decide) rfl (fun (h84 : r0 = (0 : Int32)) => ?_) (fun (h84 : ¬ r0 = (0 : Int32)) => ?_)
          · skip
            rw [if_pos h84] at hf
            refine w_iinc (q := 5) (n := 113) (v := (v6 + (1 : Int32))) (lv' := [(6, vi (v6 + (1 : Int32))), (0, vr 3 v0), (2, vi v2), (3, vi v3), (4, vi v4), (5, vi v5)]) hM (dtab_at okX3_spread 59 rfl) rfl rfl (by decide) rfl rfl ?_
            refine w_goto (n := 42) hM (dtab_at okX3_spread 60 rfl) (by decide) ?_
            refine WW.lvs [1, 2, 3, 4, 5, 0] (lv2 := [(0, vr 3 v0), (2, vi v2), (3, vi v3), (4, vi v4), (5, vi v5), (6, vi (v6 + (1 : Int32)))]) rfl ?_
            exact ih S v0 v2 v3 v4 v5 (v6 + (1 : Int32)) hf
          · skip
            rw [if_neg h84] at hf
            refine w_aln (q := 0) (n := 88) hM (dtab_at okX3_spread 47 rfl) rfl rfl ?_
            refine w_getr (C := RX3) (T := TX3) (i := 4) (k2 := 140) (q := (v0 + 10)) (n := 91) hM rfl (by decide) rfc_3_4 ly_X3 lkF_X3_24 (dtab_at okX3_spread 48 rfl) rfl ?_
            refine w_il (q := 5) (n := 93) hM (dtab_at okX3_spread 49 rfl) rfl rfl ?_
            refine w_aln (q := 0) (n := 94) hM (dtab_at okX3_spread 50 rfl) rfl rfl ?_
            refine w_geti (C := RX3) (T := TX3) (i := 7) (n := 97) hM rfl (by decide) ly_X3 lkF_X3_47 (dtab_at okX3_spread 51 rfl) rfl ?_
            refine w_ast (nn := 40) (n := 98) hM rfl hg57 (dtab_at okX3_spread 52 rfl) rfl ?_
            refine w_aln (q := 0) (n := 99) hM (dtab_at okX3_spread 53 rfl) rfl rfl ?_
            refine w_getr (C := RX3) (T := TX3) (i := 5) (k2 := 140) (q := (v0 + 12)) (n := 102) hM rfl (by decide) rfc_3_5 ly_X3 lkF_X3_27 (dtab_at okX3_spread 54 rfl) rfl ?_
            refine w_il (q := 3) (n := 104) hM (dtab_at okX3_spread 55 rfl) rfl rfl ?_
            refine w_il (q := 5) (n := 106) hM (dtab_at okX3_spread 56 rfl) rfl rfl ?_
            by_cases hg106 : v4 < 0 ∨ 40 ≤ v4.toNatClampNeg
            · rw [if_pos hg106] at hf; cases hf
            rw [if_neg hg106] at hf
            refine w_ast (nn := 40) (n := 107) hM rfl hg106 (dtab_at okX3_spread 57 rfl) rfl ?_
            refine w_iinc (q := 3) (n := 110) (v := (v4 + (1 : Int32))) (lv' := [(4, vi (v4 + (1 : Int32))), (0, vr 3 v0), (2, vi v2), (3, vi v3), (5, vi v5), (6, vi v6)]) hM (dtab_at okX3_spread 58 rfl) rfl rfl (by decide) rfl rfl ?_
            refine w_iinc (q := 5) (n := 113) (v := (v6 + (1 : Int32))) (lv' := [(6, vi (v6 + (1 : Int32))), (4, vi (v4 + (1 : Int32))), (0, vr 3 v0), (2, vi v2), (3, vi v3), (5, vi v5)]) hM (dtab_at okX3_spread 59 rfl) rfl rfl (by decide) rfl rfl ?_
            refine w_goto (n := 42) hM (dtab_at okX3_spread 60 rfl) (by decide) ?_
            refine WW.lvs [2, 3, 4, 1, 5, 0] (lv2 := [(0, vr 3 v0), (2, vi v2), (3, vi v3), (4, vi (v4 + (1 : Int32))), (5, vi v5), (6, vi (v6 + (1 : Int32)))]) rfl ?_
            exact ih (sta (sta S (v0 + 10) v6.toNatClampNeg (S.1 v0 7)) (v0 + 12) v4.toNatClampNeg v6) v0 v2 v3 (v4 + (1 : Int32)) v5 (v6 + (1 : Int32)) hf
def LX3_spread_23 (nF : Nat) : Nat → PS → Nat → Int32 → Int32 → Int32 → Int32 → Option (PS)
  | 0, _, _, _, _, _, _ => none
  | n + 1, S, v0, v2, v3, v4, v5 => (if v4 ≤ v5 then (some S) else (if (S.1 v0 6) ≤ v5 then (some S) else (LX3_spread_42 nF (LX3_spread_23 nF n) nF S v0 v2 v3 v4 v5 (0 : Int32))))
set_option maxHeartbeats 4000000 in
set_option maxRecDepth 100000 in
theorem wLX3_spread_23 {cy : ClassId × ClassId} {ad : Nat → Nat} {D : va_G} {p : Program} {l : Launch} {e : Env} {s : State} {m : MethodId} {args : Array Value} {below : List Frame} {meth : Method} {c : Code} {A : Nat → Prop} (hM : MX cy GC ad D p s m args meth c cX3_spread 7 RX3 none A) (nF : Nat) (r : PS) : ∀ (n : Nat) (S : PS) (v0 : Nat) (v2 : Int32) (v3 : Int32) (v4 : Int32) (v5 : Int32), LX3_spread_23 nF n S v0 v2 v3 v4 v5 = some r → WW cy GC ad D p l e rmX3_spread s m args below meth c 7 A (pov (fun S' => S' = r)) 23 [(0, vr 3 v0), (2, vi v2), (3, vi v3), (4, vi v4), (5, vi v5)] [] S := by
  intro n
  induction n with
  | zero => intro S v0 v2 v3 v4 v5 hf; rw [LX3_spread_23] at hf; cases hf
  | succ n ih =>
    intro S v0 v2 v3 v4 v5 hf
    rw [LX3_spread_23] at hf
    refine w_il (q := 4) (n := 25) hM (dtab_at okX3_spread 15 rfl) rfl rfl ?_
    refine w_il (q := 3) (n := 27) hM (dtab_at okX3_spread 16 rfl) rfl rfl ?_
    refine w_ic_ge (n := 122) (n2 := 30) hM (dtab_at okX3_spread 17 rfl) (by decide) rfl (fun (h27 : v4 ≤ v5) => ?_) (fun (h27 : ¬ v4 ≤ v5) => ?_)
    · skip
      rw [if_pos h27] at hf
      exact r_v hM (dtab_at okX3_spread 63 rfl) (Option.some.inj hf)
    · skip
      rw [if_neg h27] at hf
      refine w_il (q := 4) (n := 32) hM (dtab_at okX3_spread 18 rfl) rfl rfl ?_
      refine w_aln (q := 0) (n := 33) hM (dtab_at okX3_spread 19 rfl) rfl rfl ?_
      refine w_geti (C := RX3) (T := TX3) (i := 6) (n := 36) hM rfl (by decide) ly_X3 lkF_X3_30 (dtab_at okX3_spread 20 rfl) rfl ?_
      refine w_ic_ge (n := 122) (n2 := 39) hM (dtab_at okX3_spread 21 rfl) (by decide) rfl (fun (h36 : (S.1 v0 6) ≤ v5) => ?_) (fun (h36 : ¬ (S.1 v0 6) ≤ v5) => ?_)
      · skip
        rw [if_pos h36] at hf
        exact r_v hM (dtab_at okX3_spread 63 rfl) (Option.some.inj hf)
      · skip
        rw [if_neg h36] at hf
        refine w_ic (n := 40) hM (0 : Int32) (dtab_at okX3_spread 22 rfl) (by decide) rfl ?_
        refine w_is (n := 42) (lv' := [(6, vi (0 : Int32)), (0, vr 3 v0), (2, vi v2), (3, vi v3), (4, vi v4), (5, vi v5)]) hM (dtab_at okX3_spread 23 rfl) (by decide) rfl rfl ?_
        refine WW.lvs [1, 2, 3, 4, 5, 0] (lv2 := [(0, vr 3 v0), (2, vi v2), (3, vi v3), (4, vi v4), (5, vi v5), (6, vi (0 : Int32))]) rfl ?_
        exact wLX3_spread_42 hM nF r (LX3_spread_23 nF n) ih nF S v0 v2 v3 v4 v5 (0 : Int32) hf
def fX3_spread (nF : Nat) (S : PS) (j : Nat) (a1 : Int32) (a2 : Int32) (a3 : Int32) : Option (PS) := (if a1 < 0 ∨ 40 ≤ a1.toNatClampNeg then none else (if (0 : Int32) < 0 ∨ 40 ≤ (0 : Int32).toNatClampNeg then none else (LX3_spread_23 nF nF (sta (sta S (j + 10) a1.toNatClampNeg (S.1 j 7)) (j + 12) (0 : Int32).toNatClampNeg a1) j a2 a3 (1 : Int32) (0 : Int32))))
set_option maxHeartbeats 4000000 in
set_option maxRecDepth 100000 in
theorem c_X3_spread {cy : ClassId × ClassId} {ad : Nat → Nat} {D : va_G} {l : Launch} (nF : Nat) (S : PS) (j : Nat) (a1 : Int32) (a2 : Int32) (a3 : Int32) (r : PS) (hf : fX3_spread nF S j a1 a2 a3 = some r) : PMv cy GC ad D l yX3_spread (wA yX3_spread cX3_spread 7 none) rmX3_spread [vr 3 j, vi a1, vi a2, vi a3] S (fun S' => S' = r) := by
  refine PM.of (lv := [(0, vr 3 j), (1, vi a1), (2, vi a2), (3, vi a3)]) GC_ok (by decide) (Nat.le_of_ble_eq_true rfl) rfl (by simp) ?_
  intro p e s m args below meth c A hM
  rw [fX3_spread] at hf
  refine w_aln (q := 0) (n := 1) hM (dtab_at okX3_spread 0 rfl) rfl rfl ?_
  refine w_getr (C := RX3) (T := TX3) (i := 4) (k2 := 140) (q := (j + 10)) (n := 4) hM rfl (by decide) rfc_3_4 ly_X3 lkF_X3_24 (dtab_at okX3_spread 1 rfl) rfl ?_
  refine w_iln (q := 1) (n := 5) hM (dtab_at okX3_spread 2 rfl) rfl rfl ?_
  refine w_aln (q := 0) (n := 6) hM (dtab_at okX3_spread 3 rfl) rfl rfl ?_
  refine w_geti (C := RX3) (T := TX3) (i := 7) (n := 9) hM rfl (by decide) ly_X3 lkF_X3_47 (dtab_at okX3_spread 4 rfl) rfl ?_
  by_cases hg9 : a1 < 0 ∨ 40 ≤ a1.toNatClampNeg
  · rw [if_pos hg9] at hf; cases hf
  rw [if_neg hg9] at hf
  refine w_ast (nn := 40) (n := 10) hM rfl hg9 (dtab_at okX3_spread 5 rfl) rfl ?_
  refine w_aln (q := 0) (n := 11) hM (dtab_at okX3_spread 6 rfl) rfl rfl ?_
  refine w_getr (C := RX3) (T := TX3) (i := 5) (k2 := 140) (q := (j + 12)) (n := 14) hM rfl (by decide) rfc_3_5 ly_X3 lkF_X3_27 (dtab_at okX3_spread 7 rfl) rfl ?_
  refine w_ic (n := 15) hM (0 : Int32) (dtab_at okX3_spread 8 rfl) (by decide) rfl ?_
  refine w_iln (q := 1) (n := 16) hM (dtab_at okX3_spread 9 rfl) rfl rfl ?_
  by_cases hg16 : (0 : Int32) < 0 ∨ 40 ≤ (0 : Int32).toNatClampNeg
  · rw [if_pos hg16] at hf; cases hf
  rw [if_neg hg16] at hf
  refine w_ast (nn := 40) (n := 17) hM rfl hg16 (dtab_at okX3_spread 10 rfl) rfl ?_
  refine w_ic (n := 18) hM (1 : Int32) (dtab_at okX3_spread 11 rfl) (by decide) rfl ?_
  refine w_is (n := 20) (lv' := [(4, vi (1 : Int32)), (0, vr 3 j), (1, vi a1), (2, vi a2), (3, vi a3)]) hM (dtab_at okX3_spread 12 rfl) (by decide) rfl rfl ?_
  refine w_ic (n := 21) hM (0 : Int32) (dtab_at okX3_spread 13 rfl) (by decide) rfl ?_
  refine w_is (n := 23) (lv' := [(5, vi (0 : Int32)), (4, vi (1 : Int32)), (0, vr 3 j), (1, vi a1), (2, vi a2), (3, vi a3)]) hM (dtab_at okX3_spread 14 rfl) (by decide) rfl rfl ?_
  refine WW.lvs [2, 4, 5, 1, 0] (lv2 := [(0, vr 3 j), (2, vi a2), (3, vi a3), (4, vi (1 : Int32)), (5, vi (0 : Int32))]) rfl ?_
  exact wLX3_spread_23 hM nF r nF (sta (sta S (j + 10) a1.toNatClampNeg (S.1 j 7)) (j + 12) (0 : Int32).toNatClampNeg a1) j a2 a3 (1 : Int32) (0 : Int32) hf
def LX3_putTogether_30 (nF : Nat) : Nat → PS → Nat → Int32 → Int32 → Int32 → Option (PS)
  | 0, _, _, _, _, _ => none
  | n + 1, S, v0, v1, v2, v3 => (if (S.1 v0 6) ≤ v3 then (some S) else (if v3 < 0 ∨ 40 ≤ v3.toNatClampNeg then none else (if (S.2 (v0 + 10) v3.toNatClampNeg) = (-1 : Int32) then ((fX3_spread nF S v0 v3 v1 v2).bind fun r0 => (LX3_putTogether_30 nF n (sti r0 v0 7 ((r0.1 v0 7) + (1 : Int32))) v0 v1 v2 (v3 + (1 : Int32)))) else (LX3_putTogether_30 nF n S v0 v1 v2 (v3 + (1 : Int32))))))
set_option maxHeartbeats 4000000 in
set_option maxRecDepth 100000 in
theorem wLX3_putTogether_30 {cy : ClassId × ClassId} {ad : Nat → Nat} {D : va_G} {p : Program} {l : Launch} {e : Env} {s : State} {m : MethodId} {args : Array Value} {below : List Frame} {meth : Method} {c : Code} {A : Nat → Prop} (hM : MX cy GC ad D p s m args meth c cX3_putTogether 4 RX3 none A) (nF : Nat) (r : PS) : ∀ (n : Nat) (S : PS) (v0 : Nat) (v1 : Int32) (v2 : Int32) (v3 : Int32), LX3_putTogether_30 nF n S v0 v1 v2 v3 = some r → WW cy GC ad D p l e rmX3_putTogether s m args below meth c 4 A (pov (fun S' => S' = r)) 30 [(0, vr 3 v0), (1, vi v1), (2, vi v2), (3, vi v3)] [] S := by
  intro n
  induction n with
  | zero => intro S v0 v1 v2 v3 hf; rw [LX3_putTogether_30] at hf; cases hf
  | succ n ih =>
    intro S v0 v1 v2 v3 hf
    rw [LX3_putTogether_30] at hf
    refine w_iln (q := 3) (n := 31) hM (dtab_at okX3_putTogether 18 rfl) rfl rfl ?_
    refine w_aln (q := 0) (n := 32) hM (dtab_at okX3_putTogether 19 rfl) rfl rfl ?_
    refine w_geti (C := RX3) (T := TX3) (i := 6) (n := 35) hM rfl (by decide) ly_X3 lkF_X3_30 (dtab_at okX3_putTogether 20 rfl) rfl ?_
    refine w_ic_ge (n := 71) (n2 := 38) hM (dtab_at okX3_putTogether 21 rfl) (by decide) rfl (fun (h35 : (S.1 v0 6) ≤ v3) => ?_) (fun (h35 : ¬ (S.1 v0 6) ≤ v3) => ?_)
    · skip
      rw [if_pos h35] at hf
      exact r_v hM (dtab_at okX3_putTogether 41 rfl) (Option.some.inj hf)
    · skip
      rw [if_neg h35] at hf
      refine w_aln (q := 0) (n := 39) hM (dtab_at okX3_putTogether 22 rfl) rfl rfl ?_
      refine w_getr (C := RX3) (T := TX3) (i := 4) (k2 := 140) (q := (v0 + 10)) (n := 42) hM rfl (by decide) rfc_3_4 ly_X3 lkF_X3_24 (dtab_at okX3_putTogether 23 rfl) rfl ?_
      refine w_iln (q := 3) (n := 43) hM (dtab_at okX3_putTogether 24 rfl) rfl rfl ?_
      by_cases hg43 : v3 < 0 ∨ 40 ≤ v3.toNatClampNeg
      · rw [if_pos hg43] at hf; cases hf
      rw [if_neg hg43] at hf
      refine w_ald (nn := 40) (n := 44) hM rfl hg43 (dtab_at okX3_putTogether 25 rfl) rfl ?_
      refine w_ic (n := 45) hM (-1 : Int32) (dtab_at okX3_putTogether 26 rfl) (by decide) rfl ?_
      refine w_ic_ne (n := 65) (n2 := 48) hM (dtab_at okX3_putTogether 27 rfl) (by decide) rfl (fun (h45 : ¬ (S.2 (v0 + 10) v3.toNatClampNeg) = (-1 : Int32)) => ?_) (fun (h45 : (S.2 (v0 + 10) v3.toNatClampNeg) = (-1 : Int32)) => ?_)
      · skip
        rw [if_neg h45] at hf
        refine w_iinc (q := 3) (n := 68) (v := (v3 + (1 : Int32))) (lv' := [(3, vi (v3 + (1 : Int32))), (0, vr 3 v0), (1, vi v1), (2, vi v2)]) hM (dtab_at okX3_putTogether 39 rfl) rfl rfl (by decide) rfl rfl ?_
        refine w_goto (n := 30) hM (dtab_at okX3_putTogether 40 rfl) (by decide) ?_
        refine WW.lvs [1, 2, 3, 0] (lv2 := [(0, vr 3 v0), (1, vi v1), (2, vi v2), (3, vi (v3 + (1 : Int32)))]) rfl ?_
        exact ih S v0 v1 v2 (v3 + (1 : Int32)) hf
      · skip
        rw [if_pos h45] at hf
        refine w_aln (q := 0) (n := 49) hM (dtab_at okX3_putTogether 28 rfl) rfl rfl ?_
        refine w_iln (q := 3) (n := 50) hM (dtab_at okX3_putTogether 29 rfl) rfl rfl ?_
        refine w_iln (q := 1) (n := 51) hM (dtab_at okX3_putTogether 30 rfl) rfl rfl ?_
        refine w_iln (q := 2) (n := 52) hM (dtab_at okX3_putTogether 31 rfl) rfl rfl ?_
        obtain ⟨r0, hr0, hf⟩ := Option.bind_eq_some_iff.mp hf
        refine w_callVv (n := 55) (As := [vi v3, vi v1, vi v2]) (rest := []) (k := 3) (j := v0) (C := RX3) (T := TX3) (N := 8) hM (c_X3_spread nF S v0 v3 v1 v2 r0 hr0) lkM_X3_50 mv_X3_spread (by decide) rfl (by decide) rfl (Nat.le_of_ble_eq_true rfl) rfl (dtab_at okX3_putTogether 32 rfl) rfl (fun S0 hp0 => ?_)
        have hs_ := hp0.symm
        subst hs_
        refine w_aln (q := 0) (n := 56) hM (dtab_at okX3_putTogether 33 rfl) rfl rfl ?_
        refine w_dup (n := 57) hM (dtab_at okX3_putTogether 34 rfl) rfl rfl ?_
        refine w_geti (C := RX3) (T := TX3) (i := 7) (n := 60) hM rfl (by decide) ly_X3 lkF_X3_47 (dtab_at okX3_putTogether 35 rfl) rfl ?_
        refine w_ic (n := 61) hM (1 : Int32) (dtab_at okX3_putTogether 36 rfl) (by decide) rfl ?_
        refine w_iadd (n := 62) hM (dtab_at okX3_putTogether 37 rfl) rfl ?_
        refine w_put (C := RX3) (T := TX3) (i := 7) (ty := .int) (n := 65) hM rfl (by decide) ly_X3 tyX3_ok nmX3 lkF_X3_47 rfl (by decide +kernel) rfl rfl (dtab_at okX3_putTogether 38 rfl) rfl ?_
        refine w_iinc (q := 3) (n := 68) (v := (v3 + (1 : Int32))) (lv' := [(3, vi (v3 + (1 : Int32))), (0, vr 3 v0), (1, vi v1), (2, vi v2)]) hM (dtab_at okX3_putTogether 39 rfl) rfl rfl (by decide) rfl rfl ?_
        refine w_goto (n := 30) hM (dtab_at okX3_putTogether 40 rfl) (by decide) ?_
        refine WW.lvs [1, 2, 3, 0] (lv2 := [(0, vr 3 v0), (1, vi v1), (2, vi v2), (3, vi (v3 + (1 : Int32)))]) rfl ?_
        exact ih (sti r0 v0 7 ((r0.1 v0 7) + (1 : Int32))) v0 v1 v2 (v3 + (1 : Int32)) hf
def BX3_putTogether_28 (nF : Nat) (S : PS) (v0 : Nat) (v1 : Int32) (v2 : Int32) : Option (PS) := (LX3_putTogether_30 nF nF S v0 v1 v2 (0 : Int32))
set_option maxHeartbeats 4000000 in
set_option maxRecDepth 100000 in
theorem wBX3_putTogether_28 {cy : ClassId × ClassId} {ad : Nat → Nat} {D : va_G} {p : Program} {l : Launch} {e : Env} {s : State} {m : MethodId} {args : Array Value} {below : List Frame} {meth : Method} {c : Code} {A : Nat → Prop} (hM : MX cy GC ad D p s m args meth c cX3_putTogether 4 RX3 none A) (nF : Nat) (r : PS) (S : PS) (v0 : Nat) (v1 : Int32) (v2 : Int32) (hf : BX3_putTogether_28 nF S v0 v1 v2 = some r) : WW cy GC ad D p l e rmX3_putTogether s m args below meth c 4 A (pov (fun S' => S' = r)) 28 [(0, vr 3 v0), (1, vi v1), (2, vi v2)] [] S := by
  rw [BX3_putTogether_28] at hf
  refine w_ic (n := 29) hM (0 : Int32) (dtab_at okX3_putTogether 16 rfl) (by decide) rfl ?_
  refine w_isn (n := 30) (lv' := [(3, vi (0 : Int32)), (0, vr 3 v0), (1, vi v1), (2, vi v2)]) hM (dtab_at okX3_putTogether 17 rfl) (by decide) rfl rfl ?_
  refine WW.lvs [1, 2, 3, 0] (lv2 := [(0, vr 3 v0), (1, vi v1), (2, vi v2), (3, vi (0 : Int32))]) rfl ?_
  exact wLX3_putTogether_30 hM nF r nF S v0 v1 v2 (0 : Int32) hf
def LX3_putTogether_7 (nF : Nat) : Nat → PS → Nat → Int32 → Int32 → Int32 → Option (PS)
  | 0, _, _, _, _, _ => none
  | n + 1, S, v0, v1, v2, v3 => (if (S.1 v0 6) ≤ v3 then (BX3_putTogether_28 nF S v0 v1 v2) else (if v3 < 0 ∨ 40 ≤ v3.toNatClampNeg then none else (LX3_putTogether_7 nF n (sta S (v0 + 10) v3.toNatClampNeg (-1 : Int32)) v0 v1 v2 (v3 + (1 : Int32)))))
set_option maxHeartbeats 4000000 in
set_option maxRecDepth 100000 in
theorem wLX3_putTogether_7 {cy : ClassId × ClassId} {ad : Nat → Nat} {D : va_G} {p : Program} {l : Launch} {e : Env} {s : State} {m : MethodId} {args : Array Value} {below : List Frame} {meth : Method} {c : Code} {A : Nat → Prop} (hM : MX cy GC ad D p s m args meth c cX3_putTogether 4 RX3 none A) (nF : Nat) (r : PS) : ∀ (n : Nat) (S : PS) (v0 : Nat) (v1 : Int32) (v2 : Int32) (v3 : Int32), LX3_putTogether_7 nF n S v0 v1 v2 v3 = some r → WW cy GC ad D p l e rmX3_putTogether s m args below meth c 4 A (pov (fun S' => S' = r)) 7 [(0, vr 3 v0), (1, vi v1), (2, vi v2), (3, vi v3)] [] S := by
  intro n
  induction n with
  | zero => intro S v0 v1 v2 v3 hf; rw [LX3_putTogether_7] at hf; cases hf
  | succ n ih =>
    intro S v0 v1 v2 v3 hf
    rw [LX3_putTogether_7] at hf
    refine w_iln (q := 3) (n := 8) hM (dtab_at okX3_putTogether 5 rfl) rfl rfl ?_
    refine w_aln (q := 0) (n := 9) hM (dtab_at okX3_putTogether 6 rfl) rfl rfl ?_
    refine w_geti (C := RX3) (T := TX3) (i := 6) (n := 12) hM rfl (by decide) ly_X3 lkF_X3_30 (dtab_at okX3_putTogether 7 rfl) rfl ?_
    refine w_ic_ge (n := 28) (n2 := 15) hM (dtab_at okX3_putTogether 8 rfl) (by decide) rfl (fun (h12 : (S.1 v0 6) ≤ v3) => ?_) (fun (h12 : ¬ (S.1 v0 6) ≤ v3) => ?_)
    · skip
      rw [if_pos h12] at hf
      refine WW.lvs [0, 1, 2] (lv2 := [(0, vr 3 v0), (1, vi v1), (2, vi v2)]) rfl ?_
      exact wBX3_putTogether_28 hM nF r S v0 v1 v2 hf
    · skip
      rw [if_neg h12] at hf
      refine w_aln (q := 0) (n := 16) hM (dtab_at okX3_putTogether 9 rfl) rfl rfl ?_
      refine w_getr (C := RX3) (T := TX3) (i := 4) (k2 := 140) (q := (v0 + 10)) (n := 19) hM rfl (by decide) rfc_3_4 ly_X3 lkF_X3_24 (dtab_at okX3_putTogether 10 rfl) rfl ?_
      refine w_iln (q := 3) (n := 20) hM (dtab_at okX3_putTogether 11 rfl) rfl rfl ?_
      refine w_ic (n := 21) hM (-1 : Int32) (dtab_at okX3_putTogether 12 rfl) (by decide) rfl ?_
      by_cases hg21 : v3 < 0 ∨ 40 ≤ v3.toNatClampNeg
      · rw [if_pos hg21] at hf; cases hf
      rw [if_neg hg21] at hf
      refine w_ast (nn := 40) (n := 22) hM rfl hg21 (dtab_at okX3_putTogether 13 rfl) rfl ?_
      refine w_iinc (q := 3) (n := 25) (v := (v3 + (1 : Int32))) (lv' := [(3, vi (v3 + (1 : Int32))), (0, vr 3 v0), (1, vi v1), (2, vi v2)]) hM (dtab_at okX3_putTogether 14 rfl) rfl rfl (by decide) rfl rfl ?_
      refine w_goto (n := 7) hM (dtab_at okX3_putTogether 15 rfl) (by decide) ?_
      refine WW.lvs [1, 2, 3, 0] (lv2 := [(0, vr 3 v0), (1, vi v1), (2, vi v2), (3, vi (v3 + (1 : Int32)))]) rfl ?_
      exact ih (sta S (v0 + 10) v3.toNatClampNeg (-1 : Int32)) v0 v1 v2 (v3 + (1 : Int32)) hf
def fX3_putTogether (nF : Nat) (S : PS) (j : Nat) (a1 : Int32) (a2 : Int32) : Option (PS) := (LX3_putTogether_7 nF nF (sti S j 7 (0 : Int32)) j a1 a2 (0 : Int32))
set_option maxHeartbeats 4000000 in
set_option maxRecDepth 100000 in
theorem c_X3_putTogether {cy : ClassId × ClassId} {ad : Nat → Nat} {D : va_G} {l : Launch} (nF : Nat) (S : PS) (j : Nat) (a1 : Int32) (a2 : Int32) (r : PS) (hf : fX3_putTogether nF S j a1 a2 = some r) : PMv cy GC ad D l yX3_putTogether (wA yX3_putTogether cX3_putTogether 4 none) rmX3_putTogether [vr 3 j, vi a1, vi a2] S (fun S' => S' = r) := by
  refine PM.of (lv := [(0, vr 3 j), (1, vi a1), (2, vi a2)]) GC_ok (by decide) (Nat.le_of_ble_eq_true rfl) rfl (by simp) ?_
  intro p e s m args below meth c A hM
  rw [fX3_putTogether] at hf
  refine w_aln (q := 0) (n := 1) hM (dtab_at okX3_putTogether 0 rfl) rfl rfl ?_
  refine w_ic (n := 2) hM (0 : Int32) (dtab_at okX3_putTogether 1 rfl) (by decide) rfl ?_
  refine w_put (C := RX3) (T := TX3) (i := 7) (ty := .int) (n := 5) hM rfl (by decide) ly_X3 tyX3_ok nmX3 lkF_X3_47 rfl (by decide +kernel) rfl rfl (dtab_at okX3_putTogether 2 rfl) rfl ?_
  refine w_ic (n := 6) hM (0 : Int32) (dtab_at okX3_putTogether 3 rfl) (by decide) rfl ?_
  refine w_isn (n := 7) (lv' := [(3, vi (0 : Int32)), (0, vr 3 j), (1, vi a1), (2, vi a2)]) hM (dtab_at okX3_putTogether 4 rfl) (by decide) rfl rfl ?_
  refine WW.lvs [1, 2, 3, 0] (lv2 := [(0, vr 3 j), (1, vi a1), (2, vi a2), (3, vi (0 : Int32))]) rfl ?_
  exact wLX3_putTogether_7 hM nF r nF (sti S j 7 (0 : Int32)) j a1 a2 (0 : Int32) hf
def BX3_groupFact_114 (nF : Nat) (S : PS) (v2 : Int32) (v3 : Int32) (v4 : Int32) (v5 : Int32) (v6 : Int32) (v7 : Int32) : Option (Int32) := (if v2.toInt < 0 ∨ 3 < v2.toInt then (some v7) else if v2 = 0 then (some v3) else if v2 = 1 then (some v4) else if v2 = 2 then (some v5) else (some v6))
set_option maxHeartbeats 4000000 in
set_option maxRecDepth 100000 in
theorem wBX3_groupFact_114 {cy : ClassId × ClassId} {ad : Nat → Nat} {D : va_G} {p : Program} {l : Launch} {e : Env} {s : State} {m : MethodId} {args : Array Value} {below : List Frame} {meth : Method} {c : Code} {A : Nat → Prop} (hM : MX cy GC ad D p s m args meth c cX3_groupFact 9 RX3 (some .int) A) (nF : Nat) (S0 : PS) (r : Int32) (S : PS) (v2 : Int32) (v3 : Int32) (v4 : Int32) (v5 : Int32) (v6 : Int32) (v7 : Int32) (hS : S = S0) (hf : BX3_groupFact_114 nF S v2 v3 v4 v5 v6 v7 = some r) : WW cy GC ad D p l e rmX3_groupFact s m args below meth c 9 A (poi (fun x S' => x = r ∧ S' = S0)) 114 [(2, vi v2), (3, vi v3), (4, vi v4), (5, vi v5), (6, vi v6), (7, vi v7)] [] S := by
  rw [BX3_groupFact_114] at hf
  refine w_iln (q := 0) (n := 115) hM (dtab_at okX3_groupFact 58 rfl) rfl rfl ?_
  by_cases hts115 : v2.toInt < 0 ∨ 3 < v2.toInt
  · refine w_tsOut (n := 155) hM (dtab_at okX3_groupFact 59 rfl) hts115 (by decide) ?_
    rw [if_pos hts115] at hf
    refine w_il (q := 5) (n := 157) hM (dtab_at okX3_groupFact 68 rfl) rfl rfl ?_
    exact r_i hM (dtab_at okX3_groupFact 69 rfl) ⟨Option.some.inj hf, hS⟩
  · have htn115 := hts115
    obtain hts115 | hts115 | hts115 | hts115 : v2 = 0 ∨ v2 = 1 ∨ v2 = 2 ∨ v2 = 3 := sw0_4 hts115
    · refine w_tsIn (n := 144) (off := 29) hM (dtab_at okX3_groupFact 59 rfl) (by rw [hts115]; decide) (by rw [hts115]; decide) (by rw [hts115]; rfl) (by decide) ?_
      rw [if_neg htn115, if_pos hts115] at hf
      refine w_iln (q := 1) (n := 145) hM (dtab_at okX3_groupFact 60 rfl) rfl rfl ?_
      exact r_i hM (dtab_at okX3_groupFact 61 rfl) ⟨Option.some.inj hf, hS⟩
    · refine w_tsIn (n := 146) (off := 31) hM (dtab_at okX3_groupFact 59 rfl) (by rw [hts115]; decide) (by rw [hts115]; decide) (by rw [hts115]; rfl) (by decide) ?_
      rw [if_neg htn115, if_neg (show ¬ v2 = 0 by rw [hts115]; decide), if_pos hts115] at hf
      refine w_il (q := 2) (n := 148) hM (dtab_at okX3_groupFact 62 rfl) rfl rfl ?_
      exact r_i hM (dtab_at okX3_groupFact 63 rfl) ⟨Option.some.inj hf, hS⟩
    · refine w_tsIn (n := 149) (off := 34) hM (dtab_at okX3_groupFact 59 rfl) (by rw [hts115]; decide) (by rw [hts115]; decide) (by rw [hts115]; rfl) (by decide) ?_
      rw [if_neg htn115, if_neg (show ¬ v2 = 0 by rw [hts115]; decide), if_neg (show ¬ v2 = 1 by rw [hts115]; decide), if_pos hts115] at hf
      refine w_il (q := 3) (n := 151) hM (dtab_at okX3_groupFact 64 rfl) rfl rfl ?_
      exact r_i hM (dtab_at okX3_groupFact 65 rfl) ⟨Option.some.inj hf, hS⟩
    · refine w_tsIn (n := 152) (off := 37) hM (dtab_at okX3_groupFact 59 rfl) (by rw [hts115]; decide) (by rw [hts115]; decide) (by rw [hts115]; rfl) (by decide) ?_
      rw [if_neg htn115, if_neg (show ¬ v2 = 0 by rw [hts115]; decide), if_neg (show ¬ v2 = 1 by rw [hts115]; decide), if_neg (show ¬ v2 = 2 by rw [hts115]; decide)] at hf
      refine w_il (q := 4) (n := 154) hM (dtab_at okX3_groupFact 66 rfl) rfl rfl ?_
      exact r_i hM (dtab_at okX3_groupFact 67 rfl) ⟨Option.some.inj hf, hS⟩
def BX3_groupFact_76 (nF : Nat) (k17 : PS → Nat → Int32 → Int32 → Int32 → Int32 → Int32 → Int32 → Int32 → Int32 → Option (Int32)) (S : PS) (v0 : Nat) (v1 : Int32) (v2 : Int32) (v3 : Int32) (v4 : Int32) (v6 : Int32) (v7 : Int32) (v8 : Int32) (t0 : Int32) : Option (Int32) := ((fX3_endOf nF S v0 v8).bind fun r0 => (if v8 < 0 ∨ 40 ≤ v8.toNatClampNeg then none else (k17 S v0 v1 v2 v3 (v4 + (1 : Int32)) t0 (if v6 < r0 then r0 else v6) (if v7 < (S.2 (v0 + 6) v8.toNatClampNeg) then (S.2 (v0 + 6) v8.toNatClampNeg) else v7) (v8 + (1 : Int32)))))
set_option maxHeartbeats 4000000 in
set_option maxRecDepth 100000 in
theorem wBX3_groupFact_76 {cy : ClassId × ClassId} {ad : Nat → Nat} {D : va_G} {p : Program} {l : Launch} {e : Env} {s : State} {m : MethodId} {args : Array Value} {below : List Frame} {meth : Method} {c : Code} {A : Nat → Prop} (hM : MX cy GC ad D p s m args meth c cX3_groupFact 9 RX3 (some .int) A) (nF : Nat) (S0 : PS) (r : Int32) (k17 : PS → Nat → Int32 → Int32 → Int32 → Int32 → Int32 → Int32 → Int32 → Int32 → Option (Int32)) (hk17 : ∀ (S : PS) (v0 : Nat) (v1 : Int32) (v2 : Int32) (v3 : Int32) (v4 : Int32) (v5 : Int32) (v6 : Int32) (v7 : Int32) (v8 : Int32), S = S0 → k17 S v0 v1 v2 v3 v4 v5 v6 v7 v8 = some r → WW cy GC ad D p l e rmX3_groupFact s m args below meth c 9 A (poi (fun x S' => x = r ∧ S' = S0)) 17 [(0, vr 3 v0), (1, vi v1), (2, vi v2), (3, vi v3), (4, vi v4), (5, vi v5), (6, vi v6), (7, vi v7), (8, vi v8)] [] S) (S : PS) (v0 : Nat) (v1 : Int32) (v2 : Int32) (v3 : Int32) (v4 : Int32) (v6 : Int32) (v7 : Int32) (v8 : Int32) (t0 : Int32) (hS : S = S0) (hf : BX3_groupFact_76 nF k17 S v0 v1 v2 v3 v4 v6 v7 v8 t0 = some r) : WW cy GC ad D p l e rmX3_groupFact s m args below meth c 9 A (poi (fun x S' => x = r ∧ S' = S0)) 76 [(0, vr 3 v0), (1, vi v1), (2, vi v2), (3, vi v3), (4, vi v4), (6, vi v6), (7, vi v7), (8, vi v8)] [vi t0] S := by
  rw [BX3_groupFact_76] at hf
  refine w_is (n := 78) (lv' := [(5, vi t0), (0, vr 3 v0), (1, vi v1), (2, vi v2), (3, vi v3), (4, vi v4), (6, vi v6), (7, vi v7), (8, vi v8)]) hM (dtab_at okX3_groupFact 41 rfl) (by decide) rfl rfl ?_
  refine w_il (q := 6) (n := 80) hM (dtab_at okX3_groupFact 42 rfl) rfl rfl ?_
  refine w_aln (q := 1) (n := 81) hM (dtab_at okX3_groupFact 43 rfl) rfl rfl ?_
  refine w_il (q := 8) (n := 83) hM (dtab_at okX3_groupFact 44 rfl) rfl rfl ?_
  obtain ⟨r0, hr0, hf⟩ := Option.bind_eq_some_iff.mp hf
  refine w_callVi (n := 86) (As := [vi v8]) (rest := [vi v6]) (k := 3) (j := v0) (C := RX3) (T := TX3) (N := 8) hM (c_X3_endOf nF S v0 v8 r0 hr0) lkM_X3_34 mv_X3_endOf (by decide) rfl (by decide) rfl (Nat.le_of_ble_eq_true rfl) rfl (dtab_at okX3_groupFact 45 rfl) rfl (fun x0 S0 hp0 => ?_)
  obtain ⟨hx_, hs_⟩ := hp0
  have hs_ := hs_.symm
  have hx_ := hx_.symm
  subst hs_
  subst hx_
  refine w_max (n := 89) hM ⟨lkM_X3_38, mS_J9_max_7cf53, iz_J9, mC_J9_max_7cf53⟩ (by decide) (Nat.le_of_ble_eq_true rfl) (dtab_at okX3_groupFact 46 rfl) rfl ?_
  refine w_is (n := 91) (lv' := [(6, vi (if v6 < r0 then r0 else v6)), (5, vi t0), (0, vr 3 v0), (1, vi v1), (2, vi v2), (3, vi v3), (4, vi v4), (7, vi v7), (8, vi v8)]) hM (dtab_at okX3_groupFact 47 rfl) (by decide) rfl rfl ?_
  refine w_il (q := 7) (n := 93) hM (dtab_at okX3_groupFact 48 rfl) rfl rfl ?_
  refine w_aln (q := 2) (n := 94) hM (dtab_at okX3_groupFact 49 rfl) rfl rfl ?_
  refine w_getr (C := RX3) (T := TX3) (i := 2) (k2 := 140) (q := (v0 + 6)) (n := 97) hM rfl (by decide) rfc_3_2 ly_X3 lkF_X3_18 (dtab_at okX3_groupFact 50 rfl) rfl ?_
  refine w_il (q := 8) (n := 99) hM (dtab_at okX3_groupFact 51 rfl) rfl rfl ?_
  by_cases hg99 : v8 < 0 ∨ 40 ≤ v8.toNatClampNeg
  · rw [if_pos hg99] at hf; cases hf
  rw [if_neg hg99] at hf
  refine w_ald (nn := 40) (n := 100) hM rfl hg99 (dtab_at okX3_groupFact 52 rfl) rfl ?_
  refine w_max (n := 103) hM ⟨lkM_X3_38, mS_J9_max_7cf53, iz_J9, mC_J9_max_7cf53⟩ (by decide) (Nat.le_of_ble_eq_true rfl) (dtab_at okX3_groupFact 53 rfl) rfl ?_
  refine w_is (n := 105) (lv' := [(7, vi (if v7 < (S.2 (v0 + 6) v8.toNatClampNeg) then (S.2 (v0 + 6) v8.toNatClampNeg) else v7)), (6, vi (if v6 < r0 then r0 else v6)), (5, vi t0), (0, vr 3 v0), (1, vi v1), (2, vi v2), (3, vi v3), (4, vi v4), (8, vi v8)]) hM (dtab_at okX3_groupFact 54 rfl) (by decide) rfl rfl ?_
  refine w_iinc (q := 7) (n := 108) (v := (v4 + (1 : Int32))) (lv' := [(4, vi (v4 + (1 : Int32))), (7, vi (if v7 < (S.2 (v0 + 6) v8.toNatClampNeg) then (S.2 (v0 + 6) v8.toNatClampNeg) else v7)), (6, vi (if v6 < r0 then r0 else v6)), (5, vi t0), (0, vr 3 v0), (1, vi v1), (2, vi v2), (3, vi v3), (8, vi v8)]) hM (dtab_at okX3_groupFact 55 rfl) rfl rfl (by decide) rfl rfl ?_
  refine w_iinc (q := 8) (n := 111) (v := (v8 + (1 : Int32))) (lv' := [(8, vi (v8 + (1 : Int32))), (4, vi (v4 + (1 : Int32))), (7, vi (if v7 < (S.2 (v0 + 6) v8.toNatClampNeg) then (S.2 (v0 + 6) v8.toNatClampNeg) else v7)), (6, vi (if v6 < r0 then r0 else v6)), (5, vi t0), (0, vr 3 v0), (1, vi v1), (2, vi v2), (3, vi v3)]) hM (dtab_at okX3_groupFact 56 rfl) rfl rfl (by decide) rfl rfl ?_
  refine w_goto (n := 17) hM (dtab_at okX3_groupFact 57 rfl) (by decide) ?_
  refine WW.lvs [5, 6, 7, 8, 1, 4, 3, 2, 0] (lv2 := [(0, vr 3 v0), (1, vi v1), (2, vi v2), (3, vi v3), (4, vi (v4 + (1 : Int32))), (5, vi t0), (6, vi (if v6 < r0 then r0 else v6)), (7, vi (if v7 < (S.2 (v0 + 6) v8.toNatClampNeg) then (S.2 (v0 + 6) v8.toNatClampNeg) else v7)), (8, vi (v8 + (1 : Int32)))]) rfl ?_
  exact hk17 S v0 v1 v2 v3 (v4 + (1 : Int32)) t0 (if v6 < r0 then r0 else v6) (if v7 < (S.2 (v0 + 6) v8.toNatClampNeg) then (S.2 (v0 + 6) v8.toNatClampNeg) else v7) (v8 + (1 : Int32)) hS hf
def BX3_groupFact_48 (nF : Nat) (k17 : PS → Nat → Int32 → Int32 → Int32 → Int32 → Int32 → Int32 → Int32 → Int32 → Option (Int32)) (S : PS) (v0 : Nat) (v1 : Int32) (v2 : Int32) (v4 : Int32) (v5 : Int32) (v6 : Int32) (v7 : Int32) (v8 : Int32) (t0 : Int32) : Option (Int32) := (if v4 = (0 : Int32) then (if v8 < 0 ∨ 40 ≤ v8.toNatClampNeg then none else (BX3_groupFact_76 nF k17 S v0 v1 v2 t0 v4 v6 v7 v8 (S.2 (v0 + 2) v8.toNatClampNeg))) else (if v8 < 0 ∨ 40 ≤ v8.toNatClampNeg then none else (BX3_groupFact_76 nF k17 S v0 v1 v2 t0 v4 v6 v7 v8 (if (S.2 (v0 + 2) v8.toNatClampNeg) < v5 then (S.2 (v0 + 2) v8.toNatClampNeg) else v5))))
set_option maxHeartbeats 4000000 in
set_option maxRecDepth 100000 in
theorem wBX3_groupFact_48 {cy : ClassId × ClassId} {ad : Nat → Nat} {D : va_G} {p : Program} {l : Launch} {e : Env} {s : State} {m : MethodId} {args : Array Value} {below : List Frame} {meth : Method} {c : Code} {A : Nat → Prop} (hM : MX cy GC ad D p s m args meth c cX3_groupFact 9 RX3 (some .int) A) (nF : Nat) (S0 : PS) (r : Int32) (k17 : PS → Nat → Int32 → Int32 → Int32 → Int32 → Int32 → Int32 → Int32 → Int32 → Option (Int32)) (hk17 : ∀ (S : PS) (v0 : Nat) (v1 : Int32) (v2 : Int32) (v3 : Int32) (v4 : Int32) (v5 : Int32) (v6 : Int32) (v7 : Int32) (v8 : Int32), S = S0 → k17 S v0 v1 v2 v3 v4 v5 v6 v7 v8 = some r → WW cy GC ad D p l e rmX3_groupFact s m args below meth c 9 A (poi (fun x S' => x = r ∧ S' = S0)) 17 [(0, vr 3 v0), (1, vi v1), (2, vi v2), (3, vi v3), (4, vi v4), (5, vi v5), (6, vi v6), (7, vi v7), (8, vi v8)] [] S) (S : PS) (v0 : Nat) (v1 : Int32) (v2 : Int32) (v4 : Int32) (v5 : Int32) (v6 : Int32) (v7 : Int32) (v8 : Int32) (t0 : Int32) (hS : S = S0) (hf : BX3_groupFact_48 nF k17 S v0 v1 v2 v4 v5 v6 v7 v8 t0 = some r) : WW cy GC ad D p l e rmX3_groupFact s m args below meth c 9 A (poi (fun x S' => x = r ∧ S' = S0)) 48 [(0, vr 3 v0), (1, vi v1), (2, vi v2), (4, vi v4), (5, vi v5), (6, vi v6), (7, vi v7), (8, vi v8)] [vi t0] S := by
  rw [BX3_groupFact_48] at hf
  refine w_isn (n := 49) (lv' := [(3, vi t0), (0, vr 3 v0), (1, vi v1), (2, vi v2), (4, vi v4), (5, vi v5), (6, vi v6), (7, vi v7), (8, vi v8)]) hM (dtab_at okX3_groupFact 27 rfl) (by decide) rfl rfl ?_
  refine w_il (q := 4) (n := 51) hM (dtab_at okX3_groupFact 28 rfl) rfl rfl ?_
  refine w_if_ne (n := 64) (n2 := 54) hM (dtab_at okX3_groupFact 29 rfl) (by decide) rfl (fun (h51 : ¬ v4 = (0 : Int32)) => ?_) (fun (h51 : v4 = (0 : Int32)) => ?_)
  · skip
    rw [if_neg h51] at hf
    refine w_il (q := 5) (n := 66) hM (dtab_at okX3_groupFact 35 rfl) rfl rfl ?_
    refine w_aln (q := 1) (n := 67) hM (dtab_at okX3_groupFact 36 rfl) rfl rfl ?_
    refine w_getr (C := RX3) (T := TX3) (i := 0) (k2 := 140) (q := (v0 + 2)) (n := 70) hM rfl (by decide) rfc_3_0 ly_X3 lkF_X3_9 (dtab_at okX3_groupFact 37 rfl) rfl ?_
    refine w_il (q := 8) (n := 72) hM (dtab_at okX3_groupFact 38 rfl) rfl rfl ?_
    by_cases hg72 : v8 < 0 ∨ 40 ≤ v8.toNatClampNeg
    · rw [if_pos hg72] at hf; cases hf
    rw [if_neg hg72] at hf
    refine w_ald (nn := 40) (n := 73) hM rfl hg72 (dtab_at okX3_groupFact 39 rfl) rfl ?_
    refine w_min (n := 76) hM ⟨lkM_X3_58, mS_J9_min_7cf53, iz_J9, mC_J9_min_7cf53⟩ (by decide) (Nat.le_of_ble_eq_true rfl) (dtab_at okX3_groupFact 40 rfl) rfl ?_
    refine WW.lvs [1, 2, 3, 0, 4, 6, 7, 8] (lv2 := [(0, vr 3 v0), (1, vi v1), (2, vi v2), (3, vi t0), (4, vi v4), (6, vi v6), (7, vi v7), (8, vi v8)]) rfl ?_
    exact wBX3_groupFact_76 hM nF S0 r k17 hk17 S v0 v1 v2 t0 v4 v6 v7 v8 (if (S.2 (v0 + 2) v8.toNatClampNeg) < v5 then (S.2 (v0 + 2) v8.toNatClampNeg) else v5) hS hf
  · skip
    rw [if_pos h51] at hf
    refine w_aln (q := 1) (n := 55) hM (dtab_at okX3_groupFact 30 rfl) rfl rfl ?_
    refine w_getr (C := RX3) (T := TX3) (i := 0) (k2 := 140) (q := (v0 + 2)) (n := 58) hM rfl (by decide) rfc_3_0 ly_X3 lkF_X3_9 (dtab_at okX3_groupFact 31 rfl) rfl ?_
    refine w_il (q := 8) (n := 60) hM (dtab_at okX3_groupFact 32 rfl) rfl rfl ?_
    by_cases hg60 : v8 < 0 ∨ 40 ≤ v8.toNatClampNeg
    · rw [if_pos hg60] at hf; cases hf
    rw [if_neg hg60] at hf
    refine w_ald (nn := 40) (n := 61) hM rfl hg60 (dtab_at okX3_groupFact 33 rfl) rfl ?_
    refine w_goto (n := 76) hM (dtab_at okX3_groupFact 34 rfl) (by decide) ?_
    refine WW.lvs [1, 2, 3, 0, 4, 6, 7, 8] (lv2 := [(0, vr 3 v0), (1, vi v1), (2, vi v2), (3, vi t0), (4, vi v4), (6, vi v6), (7, vi v7), (8, vi v8)]) rfl ?_
    exact wBX3_groupFact_76 hM nF S0 r k17 hk17 S v0 v1 v2 t0 v4 v6 v7 v8 (S.2 (v0 + 2) v8.toNatClampNeg) hS hf
def LX3_groupFact_17 (nF : Nat) : Nat → PS → Nat → Int32 → Int32 → Int32 → Int32 → Int32 → Int32 → Int32 → Int32 → Option (Int32)
  | 0, _, _, _, _, _, _, _, _, _, _ => none
  | n + 1, S, v0, v1, v2, v3, v4, v5, v6, v7, v8 => (if (S.1 v0 6) ≤ v8 then (BX3_groupFact_114 nF S v2 v3 v4 v5 v6 v7) else (if v8 < 0 ∨ 40 ≤ v8.toNatClampNeg then none else (if (S.2 (v0 + 10) v8.toNatClampNeg) = v1 then (if v4 = (0 : Int32) then (BX3_groupFact_48 nF (LX3_groupFact_17 nF n) S v0 v1 v2 v4 v5 v6 v7 v8 v8) else (BX3_groupFact_48 nF (LX3_groupFact_17 nF n) S v0 v1 v2 v4 v5 v6 v7 v8 v3)) else (LX3_groupFact_17 nF n S v0 v1 v2 v3 v4 v5 v6 v7 (v8 + (1 : Int32))))))
set_option maxHeartbeats 4000000 in
set_option maxRecDepth 100000 in
theorem wLX3_groupFact_17 {cy : ClassId × ClassId} {ad : Nat → Nat} {D : va_G} {p : Program} {l : Launch} {e : Env} {s : State} {m : MethodId} {args : Array Value} {below : List Frame} {meth : Method} {c : Code} {A : Nat → Prop} (hM : MX cy GC ad D p s m args meth c cX3_groupFact 9 RX3 (some .int) A) (nF : Nat) (S0 : PS) (r : Int32) : ∀ (n : Nat) (S : PS) (v0 : Nat) (v1 : Int32) (v2 : Int32) (v3 : Int32) (v4 : Int32) (v5 : Int32) (v6 : Int32) (v7 : Int32) (v8 : Int32), S = S0 → LX3_groupFact_17 nF n S v0 v1 v2 v3 v4 v5 v6 v7 v8 = some r → WW cy GC ad D p l e rmX3_groupFact s m args below meth c 9 A (poi (fun x S' => x = r ∧ S' = S0)) 17 [(0, vr 3 v0), (1, vi v1), (2, vi v2), (3, vi v3), (4, vi v4), (5, vi v5), (6, vi v6), (7, vi v7), (8, vi v8)] [] S := by
  intro n
  induction n with
  | zero => intro S v0 v1 v2 v3 v4 v5 v6 v7 v8 hS hf; rw [LX3_groupFact_17] at hf; cases hf
  | succ n ih =>
    intro S v0 v1 v2 v3 v4 v5 v6 v7 v8 hS hf
    rw [LX3_groupFact_17] at hf
    refine w_il (q := 8) (n := 19) hM (dtab_at okX3_groupFact 12 rfl) rfl rfl ?_
    refine w_aln (q := 0) (n := 20) hM (dtab_at okX3_groupFact 13 rfl) rfl rfl ?_
    refine w_geti (C := RX3) (T := TX3) (i := 6) (n := 23) hM rfl (by decide) ly_X3 lkF_X3_30 (dtab_at okX3_groupFact 14 rfl) rfl ?_
    refine w_ic_ge (n := 114) (n2 := 26) hM (dtab_at okX3_groupFact 15 rfl) (by decide) rfl (fun (h23 : (S.1 v0 6) ≤ v8) => ?_) (fun (h23 : ¬ (S.1 v0 6) ≤ v8) => ?_)
    · skip
      rw [if_pos h23] at hf
      refine WW.lvs [2, 3, 4, 5, 6, 7] (lv2 := [(2, vi v2), (3, vi v3), (4, vi v4), (5, vi v5), (6, vi v6), (7, vi v7)]) rfl ?_
      exact wBX3_groupFact_114 hM nF S0 r S v2 v3 v4 v5 v6 v7 hS hf
    · skip
      rw [if_neg h23] at hf
      refine w_aln (q := 0) (n := 27) hM (dtab_at okX3_groupFact 16 rfl) rfl rfl ?_
      refine w_getr (C := RX3) (T := TX3) (i := 4) (k2 := 140) (q := (v0 + 10)) (n := 30) hM rfl (by decide) rfc_3_4 ly_X3 lkF_X3_24 (dtab_at okX3_groupFact 17 rfl) rfl ?_
      refine w_il (q := 8) (n := 32) hM (dtab_at okX3_groupFact 18 rfl) rfl rfl ?_
      by_cases hg32 : v8 < 0 ∨ 40 ≤ v8.toNatClampNeg
      · rw [if_pos hg32] at hf; cases hf
      rw [if_neg hg32] at hf
      refine w_ald (nn := 40) (n := 33) hM rfl hg32 (dtab_at okX3_groupFact 19 rfl) rfl ?_
      refine w_iln (q := 1) (n := 34) hM (dtab_at okX3_groupFact 20 rfl) rfl rfl ?_
      refine w_ic_ne (n := 108) (n2 := 37) hM (dtab_at okX3_groupFact 21 rfl) (by decide) rfl (fun (h34 : ¬ (S.2 (v0 + 10) v8.toNatClampNeg) = v1) => ?_) (fun (h34 : (S.2 (v0 + 10) v8.toNatClampNeg) = v1) => ?_)
      · skip
        rw [if_neg h34] at hf
        refine w_iinc (q := 8) (n := 111) (v := (v8 + (1 : Int32))) (lv' := [(8, vi (v8 + (1 : Int32))), (0, vr 3 v0), (1, vi v1), (2, vi v2), (3, vi v3), (4, vi v4), (5, vi v5), (6, vi v6), (7, vi v7)]) hM (dtab_at okX3_groupFact 56 rfl) rfl rfl (by decide) rfl rfl ?_
        refine w_goto (n := 17) hM (dtab_at okX3_groupFact 57 rfl) (by decide) ?_
        refine WW.lvs [1, 2, 3, 4, 5, 6, 7, 8, 0] (lv2 := [(0, vr 3 v0), (1, vi v1), (2, vi v2), (3, vi v3), (4, vi v4), (5, vi v5), (6, vi v6), (7, vi v7), (8, vi (v8 + (1 : Int32)))]) rfl ?_
        exact ih S v0 v1 v2 v3 v4 v5 v6 v7 (v8 + (1 : Int32)) hS hf
      · skip
        rw [if_pos h34] at hf
        refine w_il (q := 4) (n := 39) hM (dtab_at okX3_groupFact 22 rfl) rfl rfl ?_
        refine w_if_ne (n := 47) (n2 := 42) hM (dtab_at okX3_groupFact 23 rfl) (by decide) rfl (fun (h39 : ¬ v4 = (0 : Int32)) => ?_) (fun (h39 : v4 = (0 : Int32)) => ?_)
        · skip
          rw [if_neg h39] at hf
          refine w_iln (q := 3) (n := 48) hM (dtab_at okX3_groupFact 26 rfl) rfl rfl ?_
          refine WW.lvs [0, 1, 2, 4, 5, 6, 7, 8] (lv2 := [(0, vr 3 v0), (1, vi v1), (2, vi v2), (4, vi v4), (5, vi v5), (6, vi v6), (7, vi v7), (8, vi v8)]) rfl ?_
          exact wBX3_groupFact_48 hM nF S0 r (LX3_groupFact_17 nF n) ih S v0 v1 v2 v4 v5 v6 v7 v8 v3 hS hf
        · skip
          rw [if_pos h39] at hf
          refine w_il (q := 8) (n := 44) hM (dtab_at okX3_groupFact 24 rfl) rfl rfl ?_
          refine w_goto (n := 48) hM (dtab_at okX3_groupFact 25 rfl) (by decide) ?_
          refine WW.lvs [0, 1, 2, 4, 5, 6, 7, 8] (lv2 := [(0, vr 3 v0), (1, vi v1), (2, vi v2), (4, vi v4), (5, vi v5), (6, vi v6), (7, vi v7), (8, vi v8)]) rfl ?_
          exact wBX3_groupFact_48 hM nF S0 r (LX3_groupFact_17 nF n) ih S v0 v1 v2 v4 v5 v6 v7 v8 v8 hS hf
def fX3_groupFact (nF : Nat) (S : PS) (j : Nat) (a1 : Int32) (a2 : Int32) : Option (Int32) := (LX3_groupFact_17 nF nF S j a1 a2 (-1 : Int32) (0 : Int32) (0 : Int32) (0 : Int32) (0 : Int32) (0 : Int32))
set_option maxHeartbeats 4000000 in
set_option maxRecDepth 100000 in
theorem c_X3_groupFact {cy : ClassId × ClassId} {ad : Nat → Nat} {D : va_G} {l : Launch} (nF : Nat) (S : PS) (j : Nat) (a1 : Int32) (a2 : Int32) (r : Int32) (hf : fX3_groupFact nF S j a1 a2 = some r) : PMi cy GC ad D l yX3_groupFact (wA yX3_groupFact cX3_groupFact 9 (some .int)) rmX3_groupFact [vr 3 j, vi a1, vi a2] S (fun x S' => x = r ∧ S' = S) := by
  refine PM.of (lv := [(0, vr 3 j), (1, vi a1), (2, vi a2)]) GC_ok (by decide) (Nat.le_of_ble_eq_true rfl) rfl (by simp) ?_
  intro p e s m args below meth c A hM
  rw [fX3_groupFact] at hf
  obtain ⟨S0, hS⟩ : ∃ S0 : PS, S = S0 := ⟨S, rfl⟩
  rw [show (fun (x : Int32) (S' : PS) => x = r ∧ S' = S) = (fun x S' => x = r ∧ S' = S0) by rw [hS]]
  refine w_ic (n := 1) hM (-1 : Int32) (dtab_at okX3_groupFact 0 rfl) (by decide) rfl ?_
  refine w_isn (n := 2) (lv' := [(3, vi (-1 : Int32)), (0, vr 3 j), (1, vi a1), (2, vi a2)]) hM (dtab_at okX3_groupFact 1 rfl) (by decide) rfl rfl ?_
  refine w_ic (n := 3) hM (0 : Int32) (dtab_at okX3_groupFact 2 rfl) (by decide) rfl ?_
  refine w_is (n := 5) (lv' := [(4, vi (0 : Int32)), (3, vi (-1 : Int32)), (0, vr 3 j), (1, vi a1), (2, vi a2)]) hM (dtab_at okX3_groupFact 3 rfl) (by decide) rfl rfl ?_
  refine w_ic (n := 6) hM (0 : Int32) (dtab_at okX3_groupFact 4 rfl) (by decide) rfl ?_
  refine w_is (n := 8) (lv' := [(5, vi (0 : Int32)), (4, vi (0 : Int32)), (3, vi (-1 : Int32)), (0, vr 3 j), (1, vi a1), (2, vi a2)]) hM (dtab_at okX3_groupFact 5 rfl) (by decide) rfl rfl ?_
  refine w_ic (n := 9) hM (0 : Int32) (dtab_at okX3_groupFact 6 rfl) (by decide) rfl ?_
  refine w_is (n := 11) (lv' := [(6, vi (0 : Int32)), (5, vi (0 : Int32)), (4, vi (0 : Int32)), (3, vi (-1 : Int32)), (0, vr 3 j), (1, vi a1), (2, vi a2)]) hM (dtab_at okX3_groupFact 7 rfl) (by decide) rfl rfl ?_
  refine w_ic (n := 12) hM (0 : Int32) (dtab_at okX3_groupFact 8 rfl) (by decide) rfl ?_
  refine w_is (n := 14) (lv' := [(7, vi (0 : Int32)), (6, vi (0 : Int32)), (5, vi (0 : Int32)), (4, vi (0 : Int32)), (3, vi (-1 : Int32)), (0, vr 3 j), (1, vi a1), (2, vi a2)]) hM (dtab_at okX3_groupFact 9 rfl) (by decide) rfl rfl ?_
  refine w_ic (n := 15) hM (0 : Int32) (dtab_at okX3_groupFact 10 rfl) (by decide) rfl ?_
  refine w_is (n := 17) (lv' := [(8, vi (0 : Int32)), (7, vi (0 : Int32)), (6, vi (0 : Int32)), (5, vi (0 : Int32)), (4, vi (0 : Int32)), (3, vi (-1 : Int32)), (0, vr 3 j), (1, vi a1), (2, vi a2)]) hM (dtab_at okX3_groupFact 11 rfl) (by decide) rfl rfl ?_
  refine WW.lvs [6, 7, 8, 5, 4, 3, 2, 1, 0] (lv2 := [(0, vr 3 j), (1, vi a1), (2, vi a2), (3, vi (-1 : Int32)), (4, vi (0 : Int32)), (5, vi (0 : Int32)), (6, vi (0 : Int32)), (7, vi (0 : Int32)), (8, vi (0 : Int32))]) rfl ?_
  exact wLX3_groupFact_17 hM nF S0 r nF S j a1 a2 (-1 : Int32) (0 : Int32) (0 : Int32) (0 : Int32) (0 : Int32) (0 : Int32) hS hf
def fX4_withPair (nF : Nat) (S : PS) (a1 : Int32) (a2 : Int32) (a3 : Int32) : Option (Int32) := (if a1 < 0 ∨ 5 ≤ a1.toNatClampNeg then none else (if a2 < 0 ∨ 5 ≤ a2.toNatClampNeg then none else (if (((a1 + (1 : Int32)) * (32 : Int32)) + (a3 ||| ((1 : Int32) <<< (a2 &&& 31)))) < 0 ∨ 192 ≤ (((a1 + (1 : Int32)) * (32 : Int32)) + (a3 ||| ((1 : Int32) <<< (a2 &&& 31)))).toNatClampNeg then none else (some (((if 0 ≤ ((S.2 50 a1.toNatClampNeg) - (S.2 51 a2.toNatClampNeg)) then ((S.2 50 a1.toNatClampNeg) - (S.2 51 a2.toNatClampNeg)) else 0 - ((S.2 50 a1.toNatClampNeg) - (S.2 51 a2.toNatClampNeg))) + ((100 : Int32) * (fX9_hoursApart S (S.2 52 a1.toNatClampNeg) (S.2 53 a2.toNatClampNeg)))) + (S.2 47 (((a1 + (1 : Int32)) * (32 : Int32)) + (a3 ||| ((1 : Int32) <<< (a2 &&& 31)))).toNatClampNeg))))))
set_option maxHeartbeats 4000000 in
set_option maxRecDepth 100000 in
theorem c_X4_withPair {cy : ClassId × ClassId} {ad : Nat → Nat} {D : va_G} {l : Launch} (nF : Nat) (S : PS) (a1 : Int32) (a2 : Int32) (a3 : Int32) (r : Int32) (hf : fX4_withPair nF S a1 a2 a3 = some r) : PMi cy GC ad D l yX4_withPair (wA yX4_withPair cX4_withPair 5 (some .int)) rmX4_withPair [vr 4 44, vi a1, vi a2, vi a3] S (fun x S' => x = r ∧ S' = S) := by
  refine PM.of (lv := [(0, vr 4 44), (1, vi a1), (2, vi a2), (3, vi a3)]) GC_ok (by decide) (Nat.le_of_ble_eq_true rfl) rfl (by simp) ?_
  intro p e s m args below meth c A hM
  rw [fX4_withPair] at hf
  obtain ⟨S0, hS⟩ : ∃ S0 : PS, S = S0 := ⟨S, rfl⟩
  rw [show (fun (x : Int32) (S' : PS) => x = r ∧ S' = S) = (fun x S' => x = r ∧ S' = S0) by rw [hS]]
  refine w_aln (q := 0) (n := 1) hM (dtab_at okX4_withPair 0 rfl) rfl rfl ?_
  refine w_getr (C := RX4) (T := TX4) (i := 0) (k2 := 2) (q := 45) (n := 4) hM rfl (by decide) (fun _ => rfl) ly_X4 lkF_X4_12 (dtab_at okX4_withPair 1 rfl) rfl ?_
  refine w_getr (C := RX2) (T := TX2) (i := 1) (k2 := 105) (q := 50) (n := 7) hM rfl (by decide) (fun _ => rfl) ly_X2 lkF_X4_55 (dtab_at okX4_withPair 2 rfl) rfl ?_
  refine w_iln (q := 1) (n := 8) hM (dtab_at okX4_withPair 3 rfl) rfl rfl ?_
  by_cases hg8 : a1 < 0 ∨ 5 ≤ a1.toNatClampNeg
  · rw [if_pos hg8] at hf; cases hf
  rw [if_neg hg8] at hf
  refine w_ald (nn := 5) (n := 9) hM rfl hg8 (dtab_at okX4_withPair 4 rfl) rfl ?_
  refine w_aln (q := 0) (n := 10) hM (dtab_at okX4_withPair 5 rfl) rfl rfl ?_
  refine w_getr (C := RX4) (T := TX4) (i := 1) (k2 := 2) (q := 46) (n := 13) hM rfl (by decide) (fun _ => rfl) ly_X4 lkF_X4_18 (dtab_at okX4_withPair 6 rfl) rfl ?_
  refine w_getr (C := RX2) (T := TX2) (i := 1) (k2 := 105) (q := 51) (n := 16) hM rfl (by decide) (fun _ => rfl) ly_X2 lkF_X4_55 (dtab_at okX4_withPair 7 rfl) rfl ?_
  refine w_iln (q := 2) (n := 17) hM (dtab_at okX4_withPair 8 rfl) rfl rfl ?_
  by_cases hg17 : a2 < 0 ∨ 5 ≤ a2.toNatClampNeg
  · rw [if_pos hg17] at hf; cases hf
  rw [if_neg hg17] at hf
  refine w_ald (nn := 5) (n := 18) hM rfl hg17 (dtab_at okX4_withPair 9 rfl) rfl ?_
  refine w_isub (n := 19) hM (dtab_at okX4_withPair 10 rfl) rfl ?_
  refine w_abs (n := 22) hM ⟨lkM_X4_58, mS_J9_abs_0f7a4, iz_J9, mC_J9_abs_0f7a4⟩ (by decide) (Nat.le_of_ble_eq_true rfl) (dtab_at okX4_withPair 11 rfl) rfl ?_
  refine w_bi (n := 24) hM (100 : Int32) (dtab_at okX4_withPair 12 rfl) (by decide) rfl ?_
  refine w_aln (q := 0) (n := 25) hM (dtab_at okX4_withPair 13 rfl) rfl rfl ?_
  refine w_getr (C := RX4) (T := TX4) (i := 0) (k2 := 2) (q := 45) (n := 28) hM rfl (by decide) (fun _ => rfl) ly_X4 lkF_X4_12 (dtab_at okX4_withPair 14 rfl) rfl ?_
  refine w_getr (C := RX2) (T := TX2) (i := 2) (k2 := 105) (q := 52) (n := 31) hM rfl (by decide) (fun _ => rfl) ly_X2 lkF_X4_61 (dtab_at okX4_withPair 15 rfl) rfl ?_
  refine w_iln (q := 1) (n := 32) hM (dtab_at okX4_withPair 16 rfl) rfl rfl ?_
  refine w_ald (nn := 5) (n := 33) hM rfl hg8 (dtab_at okX4_withPair 17 rfl) rfl ?_
  refine w_aln (q := 0) (n := 34) hM (dtab_at okX4_withPair 18 rfl) rfl rfl ?_
  refine w_getr (C := RX4) (T := TX4) (i := 1) (k2 := 2) (q := 46) (n := 37) hM rfl (by decide) (fun _ => rfl) ly_X4 lkF_X4_18 (dtab_at okX4_withPair 19 rfl) rfl ?_
  refine w_getr (C := RX2) (T := TX2) (i := 2) (k2 := 105) (q := 53) (n := 40) hM rfl (by decide) (fun _ => rfl) ly_X2 lkF_X4_61 (dtab_at okX4_withPair 20 rfl) rfl ?_
  refine w_iln (q := 2) (n := 41) hM (dtab_at okX4_withPair 21 rfl) rfl rfl ?_
  refine w_ald (nn := 5) (n := 42) hM rfl hg17 (dtab_at okX4_withPair 22 rfl) rfl ?_
  refine w_callSNi (n := 45) (As := [vi (S.2 52 a1.toNatClampNeg), vi (S.2 53 a2.toNatClampNeg)]) (rest := [vi (100 : Int32), vi (if 0 ≤ ((S.2 50 a1.toNatClampNeg) - (S.2 51 a2.toNatClampNeg)) then ((S.2 50 a1.toNatClampNeg) - (S.2 51 a2.toNatClampNeg)) else 0 - ((S.2 50 a1.toNatClampNeg) - (S.2 51 a2.toNatClampNeg)))]) hM (c_X9_hoursApart S (S.2 52 a1.toNatClampNeg) (S.2 53 a2.toNatClampNeg)) (fun hf => hf.2.2) ms_X9_hoursApart (by decide) rfl (Nat.le_of_ble_eq_true rfl) rfl (dtab_at okX4_withPair 23 rfl) rfl (fun x0 S0 hp0 => ?_)
  obtain ⟨hx_, hs_⟩ := hp0
  have hs_ := hs_.symm
  subst hs_
  subst hx_
  refine w_imul (n := 46) hM (dtab_at okX4_withPair 24 rfl) rfl ?_
  refine w_iadd (n := 47) hM (dtab_at okX4_withPair 25 rfl) rfl ?_
  refine w_is (n := 49) (lv' := [(4, vi ((if 0 ≤ ((S.2 50 a1.toNatClampNeg) - (S.2 51 a2.toNatClampNeg)) then ((S.2 50 a1.toNatClampNeg) - (S.2 51 a2.toNatClampNeg)) else 0 - ((S.2 50 a1.toNatClampNeg) - (S.2 51 a2.toNatClampNeg))) + ((100 : Int32) * (fX9_hoursApart S (S.2 52 a1.toNatClampNeg) (S.2 53 a2.toNatClampNeg))))), (0, vr 4 44), (1, vi a1), (2, vi a2), (3, vi a3)]) hM (dtab_at okX4_withPair 26 rfl) (by decide) rfl rfl ?_
  refine w_il (q := 0) (n := 51) hM (dtab_at okX4_withPair 27 rfl) rfl rfl ?_
  refine w_aln (q := 1) (n := 52) hM (dtab_at okX4_withPair 28 rfl) rfl rfl ?_
  refine w_getr (C := RX4) (T := TX4) (i := 2) (k2 := 292) (q := 47) (n := 55) hM rfl (by decide) (fun _ => rfl) ly_X4 lkF_X4_21 (dtab_at okX4_withPair 29 rfl) rfl ?_
  refine w_iln (q := 2) (n := 56) hM (dtab_at okX4_withPair 30 rfl) rfl rfl ?_
  refine w_ic (n := 57) hM (1 : Int32) (dtab_at okX4_withPair 31 rfl) (by decide) rfl ?_
  refine w_iadd (n := 58) hM (dtab_at okX4_withPair 32 rfl) rfl ?_
  refine w_bi (n := 60) hM (32 : Int32) (dtab_at okX4_withPair 33 rfl) (by decide) rfl ?_
  refine w_imul (n := 61) hM (dtab_at okX4_withPair 34 rfl) rfl ?_
  refine w_iln (q := 4) (n := 62) hM (dtab_at okX4_withPair 35 rfl) rfl rfl ?_
  refine w_ic (n := 63) hM (1 : Int32) (dtab_at okX4_withPair 36 rfl) (by decide) rfl ?_
  refine w_iln (q := 3) (n := 64) hM (dtab_at okX4_withPair 37 rfl) rfl rfl ?_
  refine w_ishl (n := 65) hM (dtab_at okX4_withPair 38 rfl) rfl ?_
  refine w_ior (n := 66) hM (dtab_at okX4_withPair 39 rfl) rfl ?_
  refine w_iadd (n := 67) hM (dtab_at okX4_withPair 40 rfl) rfl ?_
  by_cases hg67 : (((a1 + (1 : Int32)) * (32 : Int32)) + (a3 ||| ((1 : Int32) <<< (a2 &&& 31)))) < 0 ∨ 192 ≤ (((a1 + (1 : Int32)) * (32 : Int32)) + (a3 ||| ((1 : Int32) <<< (a2 &&& 31)))).toNatClampNeg
  · rw [if_pos hg67] at hf; cases hf
  rw [if_neg hg67] at hf
  refine w_ald (nn := 192) (n := 68) hM rfl hg67 (dtab_at okX4_withPair 41 rfl) rfl ?_
  refine w_iadd (n := 69) hM (dtab_at okX4_withPair 42 rfl) rfl ?_
  exact r_i hM (dtab_at okX4_withPair 43 rfl) ⟨Option.some.inj hf, hS⟩
def LX4_leastFrom_22 (nF : Nat) : Nat → PS → Int32 → Int32 → Int32 → Int32 → Option (Int32)
  | 0, _, _, _, _, _ => none
  | n + 1, S, v1, v2, v3, v4 => (if (S.1 46 3) ≤ v4 then (some v3) else (if (v2 &&& ((1 : Int32) <<< (v4 &&& 31))) = (0 : Int32) then ((fX4_withPair nF S v1 v4 v2).bind fun r0 => (LX4_leastFrom_22 nF n S v1 v2 (if r0 < v3 then r0 else v3) (v4 + (1 : Int32)))) else (LX4_leastFrom_22 nF n S v1 v2 v3 (v4 + (1 : Int32)))))
set_option maxHeartbeats 4000000 in
set_option maxRecDepth 100000 in
theorem wLX4_leastFrom_22 {cy : ClassId × ClassId} {ad : Nat → Nat} {D : va_G} {p : Program} {l : Launch} {e : Env} {s : State} {m : MethodId} {args : Array Value} {below : List Frame} {meth : Method} {c : Code} {A : Nat → Prop} (hM : MX cy GC ad D p s m args meth c cX4_leastFrom 5 RX4 (some .int) A) (nF : Nat) (S0 : PS) (r : Int32) : ∀ (n : Nat) (S : PS) (v1 : Int32) (v2 : Int32) (v3 : Int32) (v4 : Int32), S = S0 → LX4_leastFrom_22 nF n S v1 v2 v3 v4 = some r → WW cy GC ad D p l e rmX4_leastFrom s m args below meth c 5 A (poi (fun x S' => x = r ∧ S' = S0)) 22 [(0, vr 4 44), (1, vi v1), (2, vi v2), (3, vi v3), (4, vi v4)] [] S := by
  intro n
  induction n with
  | zero => intro S v1 v2 v3 v4 hS hf; rw [LX4_leastFrom_22] at hf; cases hf
  | succ n ih =>
    intro S v1 v2 v3 v4 hS hf
    rw [LX4_leastFrom_22] at hf
    refine w_il (q := 4) (n := 24) hM (dtab_at okX4_leastFrom 16 rfl) rfl rfl ?_
    refine w_aln (q := 0) (n := 25) hM (dtab_at okX4_leastFrom 17 rfl) rfl rfl ?_
    refine w_getr (C := RX4) (T := TX4) (i := 1) (k2 := 2) (q := 46) (n := 28) hM rfl (by decide) (fun _ => rfl) ly_X4 lkF_X4_18 (dtab_at okX4_leastFrom 18 rfl) rfl ?_
    refine w_geti (C := RX2) (T := TX2) (i := 3) (n := 31) hM rfl (by decide) ly_X2 lkF_X4_33 (dtab_at okX4_leastFrom 19 rfl) rfl ?_
    refine w_ic_ge (n := 62) (n2 := 34) hM (dtab_at okX4_leastFrom 20 rfl) (by decide) rfl (fun (h31 : (S.1 46 3) ≤ v4) => ?_) (fun (h31 : ¬ (S.1 46 3) ≤ v4) => ?_)
    · skip
      rw [if_pos h31] at hf
      refine w_iln (q := 3) (n := 63) hM (dtab_at okX4_leastFrom 37 rfl) rfl rfl ?_
      exact r_i hM (dtab_at okX4_leastFrom 38 rfl) ⟨Option.some.inj hf, hS⟩
    · skip
      rw [if_neg h31] at hf
      refine w_iln (q := 2) (n := 35) hM (dtab_at okX4_leastFrom 21 rfl) rfl rfl ?_
      refine w_ic (n := 36) hM (1 : Int32) (dtab_at okX4_leastFrom 22 rfl) (by decide) rfl ?_
      refine w_il (q := 4) (n := 38) hM (dtab_at okX4_leastFrom 23 rfl) rfl rfl ?_
      refine w_ishl (n := 39) hM (dtab_at okX4_leastFrom 24 rfl) rfl ?_
      refine w_iand (n := 40) hM (dtab_at okX4_leastFrom 25 rfl) rfl ?_
      refine w_if_ne (n := 56) (n2 := 43) hM (dtab_at okX4_leastFrom 26 rfl) (by decide) rfl (fun (h40 : ¬ (v2 &&& ((1 : Int32) <<< (v4 &&& 31))) = (0 : Int32)) => ?_) (fun (h40 : (v2 &&& ((1 : Int32) <<< (v4 &&& 31))) = (0 : Int32)) => ?_)
      · skip
        rw [if_neg h40] at hf
        refine w_iinc (q := 4) (n := 59) (v := (v4 + (1 : Int32))) (lv' := [(4, vi (v4 + (1 : Int32))), (0, vr 4 44), (1, vi v1), (2, vi v2), (3, vi v3)]) hM (dtab_at okX4_leastFrom 35 rfl) rfl rfl (by decide) rfl rfl ?_
        refine w_goto (n := 22) hM (dtab_at okX4_leastFrom 36 rfl) (by decide) ?_
        refine WW.lvs [1, 2, 3, 4, 0] (lv2 := [(0, vr 4 44), (1, vi v1), (2, vi v2), (3, vi v3), (4, vi (v4 + (1 : Int32)))]) rfl ?_
        exact ih S v1 v2 v3 (v4 + (1 : Int32)) hS hf
      · skip
        rw [if_pos h40] at hf
        refine w_iln (q := 3) (n := 44) hM (dtab_at okX4_leastFrom 27 rfl) rfl rfl ?_
        refine w_aln (q := 0) (n := 45) hM (dtab_at okX4_leastFrom 28 rfl) rfl rfl ?_
        refine w_iln (q := 1) (n := 46) hM (dtab_at okX4_leastFrom 29 rfl) rfl rfl ?_
        refine w_il (q := 4) (n := 48) hM (dtab_at okX4_leastFrom 30 rfl) rfl rfl ?_
        refine w_iln (q := 2) (n := 49) hM (dtab_at okX4_leastFrom 31 rfl) rfl rfl ?_
        obtain ⟨r0, hr0, hf⟩ := Option.bind_eq_some_iff.mp hf
        refine w_callVi (n := 52) (As := [vi v1, vi v4, vi v2]) (rest := [vi v3]) (k := 4) (j := 44) (C := RX4) (T := TX4) (N := 4) hM (c_X4_withPair nF S v1 v4 v2 r0 hr0) lkM_X4_46 mv_X4_withPair (by decide) rfl (by decide) rfl (Nat.le_of_ble_eq_true rfl) rfl (dtab_at okX4_leastFrom 32 rfl) rfl (fun x0 S0 hp0 => ?_)
        obtain ⟨hx_, hs_⟩ := hp0
        have hs_ := hs_.symm
        have hx_ := hx_.symm
        subst hs_
        subst hx_
        refine w_min (n := 55) hM ⟨lkM_X4_50, mS_J9_min_7cf53, iz_J9, mC_J9_min_7cf53⟩ (by decide) (Nat.le_of_ble_eq_true rfl) (dtab_at okX4_leastFrom 33 rfl) rfl ?_
        refine w_isn (n := 56) (lv' := [(3, vi (if r0 < v3 then r0 else v3)), (0, vr 4 44), (1, vi v1), (2, vi v2), (4, vi v4)]) hM (dtab_at okX4_leastFrom 34 rfl) (by decide) rfl rfl ?_
        refine w_iinc (q := 4) (n := 59) (v := (v4 + (1 : Int32))) (lv' := [(4, vi (v4 + (1 : Int32))), (3, vi (if r0 < v3 then r0 else v3)), (0, vr 4 44), (1, vi v1), (2, vi v2)]) hM (dtab_at okX4_leastFrom 35 rfl) rfl rfl (by decide) rfl rfl ?_
        refine w_goto (n := 22) hM (dtab_at okX4_leastFrom 36 rfl) (by decide) ?_
        refine WW.lvs [2, 3, 4, 1, 0] (lv2 := [(0, vr 4 44), (1, vi v1), (2, vi v2), (3, vi (if r0 < v3 then r0 else v3)), (4, vi (v4 + (1 : Int32)))]) rfl ?_
        exact ih S v1 v2 (if r0 < v3 then r0 else v3) (v4 + (1 : Int32)) hS hf
def fX4_leastFrom (nF : Nat) (S : PS) (a1 : Int32) (a2 : Int32) : Option (Int32) := (if (((a1 + (1 : Int32)) * (32 : Int32)) + a2) < 0 ∨ 192 ≤ (((a1 + (1 : Int32)) * (32 : Int32)) + a2).toNatClampNeg then none else (LX4_leastFrom_22 nF nF S a1 a2 ((S.1 44 3) + (S.2 47 (((a1 + (1 : Int32)) * (32 : Int32)) + a2).toNatClampNeg)) (0 : Int32)))
set_option maxHeartbeats 4000000 in
set_option maxRecDepth 100000 in
theorem c_X4_leastFrom {cy : ClassId × ClassId} {ad : Nat → Nat} {D : va_G} {l : Launch} (nF : Nat) (S : PS) (a1 : Int32) (a2 : Int32) (r : Int32) (hf : fX4_leastFrom nF S a1 a2 = some r) : PMi cy GC ad D l yX4_leastFrom (wA yX4_leastFrom cX4_leastFrom 5 (some .int)) rmX4_leastFrom [vr 4 44, vi a1, vi a2] S (fun x S' => x = r ∧ S' = S) := by
  refine PM.of (lv := [(0, vr 4 44), (1, vi a1), (2, vi a2)]) GC_ok (by decide) (Nat.le_of_ble_eq_true rfl) rfl (by simp) ?_
  intro p e s m args below meth c A hM
  rw [fX4_leastFrom] at hf
  obtain ⟨S0, hS⟩ : ∃ S0 : PS, S = S0 := ⟨S, rfl⟩
  rw [show (fun (x : Int32) (S' : PS) => x = r ∧ S' = S) = (fun x S' => x = r ∧ S' = S0) by rw [hS]]
  refine w_aln (q := 0) (n := 1) hM (dtab_at okX4_leastFrom 0 rfl) rfl rfl ?_
  refine w_geti (C := RX4) (T := TX4) (i := 3) (n := 4) hM rfl (by decide) ly_X4 lkF_X4_25 (dtab_at okX4_leastFrom 1 rfl) rfl ?_
  refine w_aln (q := 0) (n := 5) hM (dtab_at okX4_leastFrom 2 rfl) rfl rfl ?_
  refine w_getr (C := RX4) (T := TX4) (i := 2) (k2 := 292) (q := 47) (n := 8) hM rfl (by decide) (fun _ => rfl) ly_X4 lkF_X4_21 (dtab_at okX4_leastFrom 3 rfl) rfl ?_
  refine w_iln (q := 1) (n := 9) hM (dtab_at okX4_leastFrom 4 rfl) rfl rfl ?_
  refine w_ic (n := 10) hM (1 : Int32) (dtab_at okX4_leastFrom 5 rfl) (by decide) rfl ?_
  refine w_iadd (n := 11) hM (dtab_at okX4_leastFrom 6 rfl) rfl ?_
  refine w_bi (n := 13) hM (32 : Int32) (dtab_at okX4_leastFrom 7 rfl) (by decide) rfl ?_
  refine w_imul (n := 14) hM (dtab_at okX4_leastFrom 8 rfl) rfl ?_
  refine w_iln (q := 2) (n := 15) hM (dtab_at okX4_leastFrom 9 rfl) rfl rfl ?_
  refine w_iadd (n := 16) hM (dtab_at okX4_leastFrom 10 rfl) rfl ?_
  by_cases hg16 : (((a1 + (1 : Int32)) * (32 : Int32)) + a2) < 0 ∨ 192 ≤ (((a1 + (1 : Int32)) * (32 : Int32)) + a2).toNatClampNeg
  · rw [if_pos hg16] at hf; cases hf
  rw [if_neg hg16] at hf
  refine w_ald (nn := 192) (n := 17) hM rfl hg16 (dtab_at okX4_leastFrom 11 rfl) rfl ?_
  refine w_iadd (n := 18) hM (dtab_at okX4_leastFrom 12 rfl) rfl ?_
  refine w_isn (n := 19) (lv' := [(3, vi ((S.1 44 3) + (S.2 47 (((a1 + (1 : Int32)) * (32 : Int32)) + a2).toNatClampNeg))), (0, vr 4 44), (1, vi a1), (2, vi a2)]) hM (dtab_at okX4_leastFrom 13 rfl) (by decide) rfl rfl ?_
  refine w_ic (n := 20) hM (0 : Int32) (dtab_at okX4_leastFrom 14 rfl) (by decide) rfl ?_
  refine w_is (n := 22) (lv' := [(4, vi (0 : Int32)), (3, vi ((S.1 44 3) + (S.2 47 (((a1 + (1 : Int32)) * (32 : Int32)) + a2).toNatClampNeg))), (0, vr 4 44), (1, vi a1), (2, vi a2)]) hM (dtab_at okX4_leastFrom 15 rfl) (by decide) rfl rfl ?_
  refine WW.lvs [2, 3, 4, 1, 0] (lv2 := [(0, vr 4 44), (1, vi a1), (2, vi a2), (3, vi ((S.1 44 3) + (S.2 47 (((a1 + (1 : Int32)) * (32 : Int32)) + a2).toNatClampNeg))), (4, vi (0 : Int32))]) rfl ?_
  exact wLX4_leastFrom_22 hM nF S0 r nF S a1 a2 ((S.1 44 3) + (S.2 47 (((a1 + (1 : Int32)) * (32 : Int32)) + a2).toNatClampNeg)) (0 : Int32) hS hf
def BX4_leastCost_135 (nF : Nat) (k93 : PS → Int32 → Int32 → Option (Int32 × PS)) (S : PS) (v5 : Int32) (v6 : Int32) : Option (Int32 × PS) := (k93 S v5 (v6 + (-1 : Int32)))
set_option maxHeartbeats 4000000 in
set_option maxRecDepth 100000 in
theorem wBX4_leastCost_135 {cy : ClassId × ClassId} {ad : Nat → Nat} {D : va_G} {p : Program} {l : Launch} {e : Env} {s : State} {m : MethodId} {args : Array Value} {below : List Frame} {meth : Method} {c : Code} {A : Nat → Prop} (hM : MX cy GC ad D p s m args meth c cX4_leastCost 8 RX4 (some .int) A) (nF : Nat) (r : Int32 × PS) (k93 : PS → Int32 → Int32 → Option (Int32 × PS)) (hk93 : ∀ (S : PS) (v5 : Int32) (v6 : Int32), k93 S v5 v6 = some r → WW cy GC ad D p l e rmX4_leastCost s m args below meth c 8 A (poi (fun x S' => (x, S') = r)) 93 [(0, vr 4 44), (5, vi v5), (6, vi v6)] [] S) (S : PS) (v5 : Int32) (v6 : Int32) (hf : BX4_leastCost_135 nF k93 S v5 v6 = some r) : WW cy GC ad D p l e rmX4_leastCost s m args below meth c 8 A (poi (fun x S' => (x, S') = r)) 135 [(0, vr 4 44), (5, vi v5), (6, vi v6)] [] S := by
  rw [BX4_leastCost_135] at hf
  refine w_iinc (q := 2) (n := 138) (v := (v6 + (-1 : Int32))) (lv' := [(6, vi (v6 + (-1 : Int32))), (0, vr 4 44), (5, vi v5)]) hM (dtab_at okX4_leastCost 69 rfl) rfl rfl (by decide) rfl rfl ?_
  refine w_goto (n := 93) hM (dtab_at okX4_leastCost 70 rfl) (by decide) ?_
  refine WW.lvs [1, 2, 0] (lv2 := [(0, vr 4 44), (5, vi v5), (6, vi (v6 + (-1 : Int32)))]) rfl ?_
  exact hk93 S v5 (v6 + (-1 : Int32)) hf
def LX4_leastCost_101 (nF : Nat) (k93 : PS → Int32 → Int32 → Option (Int32 × PS)) : Nat → PS → Int32 → Int32 → Int32 → Option (Int32 × PS)
  | 0, _, _, _, _ => none
  | n + 1, S, v5, v6, v7 => (if v5 ≤ v7 then (BX4_leastCost_135 nF k93 S v5 v6) else ((fX4_leastFrom nF S v6 v7).bind fun r0 => (if ((v6 * (32 : Int32)) + v7) < 0 ∨ 192 ≤ ((v6 * (32 : Int32)) + v7).toNatClampNeg then none else (LX4_leastCost_101 nF k93 n (sta S 47 ((v6 * (32 : Int32)) + v7).toNatClampNeg r0) v5 v6 (v7 + (1 : Int32))))))
set_option maxHeartbeats 4000000 in
set_option maxRecDepth 100000 in
theorem wLX4_leastCost_101 {cy : ClassId × ClassId} {ad : Nat → Nat} {D : va_G} {p : Program} {l : Launch} {e : Env} {s : State} {m : MethodId} {args : Array Value} {below : List Frame} {meth : Method} {c : Code} {A : Nat → Prop} (hM : MX cy GC ad D p s m args meth c cX4_leastCost 8 RX4 (some .int) A) (nF : Nat) (r : Int32 × PS) (k93 : PS → Int32 → Int32 → Option (Int32 × PS)) (hk93 : ∀ (S : PS) (v5 : Int32) (v6 : Int32), k93 S v5 v6 = some r → WW cy GC ad D p l e rmX4_leastCost s m args below meth c 8 A (poi (fun x S' => (x, S') = r)) 93 [(0, vr 4 44), (5, vi v5), (6, vi v6)] [] S) : ∀ (n : Nat) (S : PS) (v5 : Int32) (v6 : Int32) (v7 : Int32), LX4_leastCost_101 nF k93 n S v5 v6 v7 = some r → WW cy GC ad D p l e rmX4_leastCost s m args below meth c 8 A (poi (fun x S' => (x, S') = r)) 101 [(0, vr 4 44), (5, vi v5), (6, vi v6), (7, vi v7)] [] S := by
  intro n
  induction n with
  | zero => intro S v5 v6 v7 hf; rw [LX4_leastCost_101] at hf; cases hf
  | succ n ih =>
    intro S v5 v6 v7 hf
    rw [LX4_leastCost_101] at hf
    refine w_il (q := 3) (n := 103) hM (dtab_at okX4_leastCost 52 rfl) rfl rfl ?_
    refine w_il (q := 1) (n := 105) hM (dtab_at okX4_leastCost 53 rfl) rfl rfl ?_
    refine w_ic_ge (n := 135) (n2 := 108) hM (dtab_at okX4_leastCost 54 rfl) (by decide) rfl (fun (h105 : v5 ≤ v7) => ?_) (fun (h105 : ¬ v5 ≤ v7) => ?_)
    · skip
      rw [if_pos h105] at hf
      refine WW.lvs [0, 1, 2] (lv2 := [(0, vr 4 44), (5, vi v5), (6, vi v6)]) rfl ?_
      exact wBX4_leastCost_135 hM nF r k93 hk93 S v5 v6 hf
    · skip
      rw [if_neg h105] at hf
      refine w_aln (q := 0) (n := 109) hM (dtab_at okX4_leastCost 55 rfl) rfl rfl ?_
      refine w_getr (C := RX4) (T := TX4) (i := 2) (k2 := 292) (q := 47) (n := 112) hM rfl (by decide) (fun _ => rfl) ly_X4 lkF_X4_21 (dtab_at okX4_leastCost 56 rfl) rfl ?_
      refine w_il (q := 2) (n := 114) hM (dtab_at okX4_leastCost 57 rfl) rfl rfl ?_
      refine w_bi (n := 116) hM (32 : Int32) (dtab_at okX4_leastCost 58 rfl) (by decide) rfl ?_
      refine w_imul (n := 117) hM (dtab_at okX4_leastCost 59 rfl) rfl ?_
      refine w_il (q := 3) (n := 119) hM (dtab_at okX4_leastCost 60 rfl) rfl rfl ?_
      refine w_iadd (n := 120) hM (dtab_at okX4_leastCost 61 rfl) rfl ?_
      refine w_aln (q := 0) (n := 121) hM (dtab_at okX4_leastCost 62 rfl) rfl rfl ?_
      refine w_il (q := 2) (n := 123) hM (dtab_at okX4_leastCost 63 rfl) rfl rfl ?_
      refine w_il (q := 3) (n := 125) hM (dtab_at okX4_leastCost 64 rfl) rfl rfl ?_
      obtain ⟨r0, hr0, hf⟩ := Option.bind_eq_some_iff.mp hf
      refine w_callVi (n := 128) (As := [vi v6, vi v7]) (rest := [vi ((v6 * (32 : Int32)) + v7), vr 292 47]) (k := 4) (j := 44) (C := RX4) (T := TX4) (N := 4) hM (c_X4_leastFrom nF S v6 v7 r0 hr0) lkM_X4_42 mv_X4_leastFrom (by decide) rfl (by decide) rfl (Nat.le_of_ble_eq_true rfl) rfl (dtab_at okX4_leastCost 65 rfl) rfl (fun x0 S0 hp0 => ?_)
      obtain ⟨hx_, hs_⟩ := hp0
      have hs_ := hs_.symm
      have hx_ := hx_.symm
      subst hs_
      subst hx_
      by_cases hg128 : ((v6 * (32 : Int32)) + v7) < 0 ∨ 192 ≤ ((v6 * (32 : Int32)) + v7).toNatClampNeg
      · rw [if_pos hg128] at hf; cases hf
      rw [if_neg hg128] at hf
      refine w_ast (nn := 192) (n := 129) hM rfl hg128 (dtab_at okX4_leastCost 66 rfl) rfl ?_
      refine w_iinc (q := 3) (n := 132) (v := (v7 + (1 : Int32))) (lv' := [(7, vi (v7 + (1 : Int32))), (0, vr 4 44), (5, vi v5), (6, vi v6)]) hM (dtab_at okX4_leastCost 67 rfl) rfl rfl (by decide) rfl rfl ?_
      refine w_goto (n := 101) hM (dtab_at okX4_leastCost 68 rfl) (by decide) ?_
      refine WW.lvs [1, 2, 3, 0] (lv2 := [(0, vr 4 44), (5, vi v5), (6, vi v6), (7, vi (v7 + (1 : Int32)))]) rfl ?_
      exact ih (sta S 47 ((v6 * (32 : Int32)) + v7).toNatClampNeg r0) v5 v6 (v7 + (1 : Int32)) hf
def LX4_leastCost_93 (nF : Nat) : Nat → PS → Int32 → Int32 → Option (Int32 × PS)
  | 0, _, _, _ => none
  | n + 1, S, v5, v6 => (if v6 < (0 : Int32) then (if (0 : Int32) < 0 ∨ 192 ≤ (0 : Int32).toNatClampNeg then none else (some ((S.2 47 (0 : Int32).toNatClampNeg), S))) else (LX4_leastCost_101 nF (LX4_leastCost_93 nF n) nF S v5 v6 (0 : Int32)))
set_option maxHeartbeats 4000000 in
set_option maxRecDepth 100000 in
theorem wLX4_leastCost_93 {cy : ClassId × ClassId} {ad : Nat → Nat} {D : va_G} {p : Program} {l : Launch} {e : Env} {s : State} {m : MethodId} {args : Array Value} {below : List Frame} {meth : Method} {c : Code} {A : Nat → Prop} (hM : MX cy GC ad D p s m args meth c cX4_leastCost 8 RX4 (some .int) A) (nF : Nat) (r : Int32 × PS) : ∀ (n : Nat) (S : PS) (v5 : Int32) (v6 : Int32), LX4_leastCost_93 nF n S v5 v6 = some r → WW cy GC ad D p l e rmX4_leastCost s m args below meth c 8 A (poi (fun x S' => (x, S') = r)) 93 [(0, vr 4 44), (5, vi v5), (6, vi v6)] [] S := by
  intro n
  induction n with
  | zero => intro S v5 v6 hf; rw [LX4_leastCost_93] at hf; cases hf
  | succ n ih =>
    intro S v5 v6 hf
    rw [LX4_leastCost_93] at hf
    refine w_il (q := 2) (n := 95) hM (dtab_at okX4_leastCost 48 rfl) rfl rfl ?_
    refine w_if_lt (n := 141) (n2 := 98) hM (dtab_at okX4_leastCost 49 rfl) (by decide) rfl (fun (h95 : v6 < (0 : Int32)) => ?_) (fun (h95 : ¬ v6 < (0 : Int32)) => ?_)
    · skip
      rw [if_pos h95] at hf
      refine w_aln (q := 0) (n := 142) hM (dtab_at okX4_leastCost 71 rfl) rfl rfl ?_
      refine w_getr (C := RX4) (T := TX4) (i := 2) (k2 := 292) (q := 47) (n := 145) hM rfl (by decide) (fun _ => rfl) ly_X4 lkF_X4_21 (dtab_at okX4_leastCost 72 rfl) rfl ?_
      refine w_ic (n := 146) hM (0 : Int32) (dtab_at okX4_leastCost 73 rfl) (by decide) rfl ?_
      by_cases hg146 : (0 : Int32) < 0 ∨ 192 ≤ (0 : Int32).toNatClampNeg
      · rw [if_pos hg146] at hf; cases hf
      rw [if_neg hg146] at hf
      refine w_ald (nn := 192) (n := 147) hM rfl hg146 (dtab_at okX4_leastCost 74 rfl) rfl ?_
      exact r_i hM (dtab_at okX4_leastCost 75 rfl) (Option.some.inj hf)
    · skip
      rw [if_neg h95] at hf
      refine w_ic (n := 99) hM (0 : Int32) (dtab_at okX4_leastCost 50 rfl) (by decide) rfl ?_
      refine w_is (n := 101) (lv' := [(7, vi (0 : Int32)), (0, vr 4 44), (5, vi v5), (6, vi v6)]) hM (dtab_at okX4_leastCost 51 rfl) (by decide) rfl rfl ?_
      refine WW.lvs [1, 2, 3, 0] (lv2 := [(0, vr 4 44), (5, vi v5), (6, vi v6), (7, vi (0 : Int32))]) rfl ?_
      exact wLX4_leastCost_101 hM nF r (LX4_leastCost_93 nF n) ih nF S v5 v6 (0 : Int32) hf
def BX4_leastCost_82 (nF : Nat) (S : PS) (v5 : Int32) : Option (Int32 × PS) := (LX4_leastCost_93 nF nF S v5 ((S.1 45 3) - (1 : Int32)))
set_option maxHeartbeats 4000000 in
set_option maxRecDepth 100000 in
theorem wBX4_leastCost_82 {cy : ClassId × ClassId} {ad : Nat → Nat} {D : va_G} {p : Program} {l : Launch} {e : Env} {s : State} {m : MethodId} {args : Array Value} {below : List Frame} {meth : Method} {c : Code} {A : Nat → Prop} (hM : MX cy GC ad D p s m args meth c cX4_leastCost 8 RX4 (some .int) A) (nF : Nat) (r : Int32 × PS) (S : PS) (v5 : Int32) (hf : BX4_leastCost_82 nF S v5 = some r) : WW cy GC ad D p l e rmX4_leastCost s m args below meth c 8 A (poi (fun x S' => (x, S') = r)) 82 [(0, vr 4 44), (5, vi v5)] [] S := by
  rw [BX4_leastCost_82] at hf
  refine w_aln (q := 0) (n := 83) hM (dtab_at okX4_leastCost 42 rfl) rfl rfl ?_
  refine w_getr (C := RX4) (T := TX4) (i := 0) (k2 := 2) (q := 45) (n := 86) hM rfl (by decide) (fun _ => rfl) ly_X4 lkF_X4_12 (dtab_at okX4_leastCost 43 rfl) rfl ?_
  refine w_geti (C := RX2) (T := TX2) (i := 3) (n := 89) hM rfl (by decide) ly_X2 lkF_X4_33 (dtab_at okX4_leastCost 44 rfl) rfl ?_
  refine w_ic (n := 90) hM (1 : Int32) (dtab_at okX4_leastCost 45 rfl) (by decide) rfl ?_
  refine w_isub (n := 91) hM (dtab_at okX4_leastCost 46 rfl) rfl ?_
  refine w_is (n := 93) (lv' := [(6, vi ((S.1 45 3) - (1 : Int32))), (0, vr 4 44), (5, vi v5)]) hM (dtab_at okX4_leastCost 47 rfl) (by decide) rfl rfl ?_
  refine WW.lvs [1, 2, 0] (lv2 := [(0, vr 4 44), (5, vi v5), (6, vi ((S.1 45 3) - (1 : Int32)))]) rfl ?_
  exact wLX4_leastCost_93 hM nF r nF S v5 ((S.1 45 3) - (1 : Int32)) hf
def LX4_leastCost_33 (nF : Nat) : Nat → PS → Int32 → Int32 → Option (Int32 × PS)
  | 0, _, _, _ => none
  | n + 1, S, v5, v6 => (if v5 ≤ v6 then (BX4_leastCost_82 nF S v5) else (if (((S.1 45 3) * (32 : Int32)) + v6) < 0 ∨ 192 ≤ (((S.1 45 3) * (32 : Int32)) + v6).toNatClampNeg then none else (LX4_leastCost_33 nF n (sta S 47 (((S.1 45 3) * (32 : Int32)) + v6).toNatClampNeg ((S.1 44 3) * ((S.1 46 3) - (fJ6_bitCount_0f7a4 S v6)))) v5 (v6 + (1 : Int32)))))
set_option maxHeartbeats 4000000 in
set_option maxRecDepth 100000 in
theorem wLX4_leastCost_33 {cy : ClassId × ClassId} {ad : Nat → Nat} {D : va_G} {p : Program} {l : Launch} {e : Env} {s : State} {m : MethodId} {args : Array Value} {below : List Frame} {meth : Method} {c : Code} {A : Nat → Prop} (hM : MX cy GC ad D p s m args meth c cX4_leastCost 8 RX4 (some .int) A) (nF : Nat) (r : Int32 × PS) : ∀ (n : Nat) (S : PS) (v5 : Int32) (v6 : Int32), LX4_leastCost_33 nF n S v5 v6 = some r → WW cy GC ad D p l e rmX4_leastCost s m args below meth c 8 A (poi (fun x S' => (x, S') = r)) 33 [(0, vr 4 44), (5, vi v5), (6, vi v6)] [] S := by
  intro n
  induction n with
  | zero => intro S v5 v6 hf; rw [LX4_leastCost_33] at hf; cases hf
  | succ n ih =>
    intro S v5 v6 hf
    rw [LX4_leastCost_33] at hf
    refine w_il (q := 2) (n := 35) hM (dtab_at okX4_leastCost 18 rfl) rfl rfl ?_
    refine w_il (q := 1) (n := 37) hM (dtab_at okX4_leastCost 19 rfl) rfl rfl ?_
    refine w_ic_ge (n := 82) (n2 := 40) hM (dtab_at okX4_leastCost 20 rfl) (by decide) rfl (fun (h37 : v5 ≤ v6) => ?_) (fun (h37 : ¬ v5 ≤ v6) => ?_)
    · skip
      rw [if_pos h37] at hf
      refine WW.lvs [0, 1] (lv2 := [(0, vr 4 44), (5, vi v5)]) rfl ?_
      exact wBX4_leastCost_82 hM nF r S v5 hf
    · skip
      rw [if_neg h37] at hf
      refine w_aln (q := 0) (n := 41) hM (dtab_at okX4_leastCost 21 rfl) rfl rfl ?_
      refine w_getr (C := RX4) (T := TX4) (i := 2) (k2 := 292) (q := 47) (n := 44) hM rfl (by decide) (fun _ => rfl) ly_X4 lkF_X4_21 (dtab_at okX4_leastCost 22 rfl) rfl ?_
      refine w_aln (q := 0) (n := 45) hM (dtab_at okX4_leastCost 23 rfl) rfl rfl ?_
      refine w_getr (C := RX4) (T := TX4) (i := 0) (k2 := 2) (q := 45) (n := 48) hM rfl (by decide) (fun _ => rfl) ly_X4 lkF_X4_12 (dtab_at okX4_leastCost 24 rfl) rfl ?_
      refine w_geti (C := RX2) (T := TX2) (i := 3) (n := 51) hM rfl (by decide) ly_X2 lkF_X4_33 (dtab_at okX4_leastCost 25 rfl) rfl ?_
      refine w_bi (n := 53) hM (32 : Int32) (dtab_at okX4_leastCost 26 rfl) (by decide) rfl ?_
      refine w_imul (n := 54) hM (dtab_at okX4_leastCost 27 rfl) rfl ?_
      refine w_il (q := 2) (n := 56) hM (dtab_at okX4_leastCost 28 rfl) rfl rfl ?_
      refine w_iadd (n := 57) hM (dtab_at okX4_leastCost 29 rfl) rfl ?_
      refine w_aln (q := 0) (n := 58) hM (dtab_at okX4_leastCost 30 rfl) rfl rfl ?_
      refine w_geti (C := RX4) (T := TX4) (i := 3) (n := 61) hM rfl (by decide) ly_X4 lkF_X4_25 (dtab_at okX4_leastCost 31 rfl) rfl ?_
      refine w_aln (q := 0) (n := 62) hM (dtab_at okX4_leastCost 32 rfl) rfl rfl ?_
      refine w_getr (C := RX4) (T := TX4) (i := 1) (k2 := 2) (q := 46) (n := 65) hM rfl (by decide) (fun _ => rfl) ly_X4 lkF_X4_18 (dtab_at okX4_leastCost 33 rfl) rfl ?_
      refine w_geti (C := RX2) (T := TX2) (i := 3) (n := 68) hM rfl (by decide) ly_X2 lkF_X4_33 (dtab_at okX4_leastCost 34 rfl) rfl ?_
      refine w_il (q := 2) (n := 70) hM (dtab_at okX4_leastCost 35 rfl) rfl rfl ?_
      refine w_callSi (n := 73) (As := [vi v6]) (rest := [vi (S.1 46 3), vi (S.1 44 3), vi (((S.1 45 3) * (32 : Int32)) + v6), vr 292 47]) hM (c_J6_bitCount_0f7a4 S v6) lkM_X4_36 ms_J6_bitCount_0f7a4 (by decide) rfl (Nat.le_of_ble_eq_true rfl) rfl (dtab_at okX4_leastCost 36 rfl) rfl (fun x0 S0 hp0 => ?_)
      obtain ⟨hx_, hs_⟩ := hp0
      have hs_ := hs_.symm
      subst hs_
      subst hx_
      refine w_isub (n := 74) hM (dtab_at okX4_leastCost 37 rfl) rfl ?_
      refine w_imul (n := 75) hM (dtab_at okX4_leastCost 38 rfl) rfl ?_
      by_cases hg75 : (((S.1 45 3) * (32 : Int32)) + v6) < 0 ∨ 192 ≤ (((S.1 45 3) * (32 : Int32)) + v6).toNatClampNeg
      · rw [if_pos hg75] at hf; cases hf
      rw [if_neg hg75] at hf
      refine w_ast (nn := 192) (n := 76) hM rfl hg75 (dtab_at okX4_leastCost 39 rfl) rfl ?_
      refine w_iinc (q := 2) (n := 79) (v := (v6 + (1 : Int32))) (lv' := [(6, vi (v6 + (1 : Int32))), (0, vr 4 44), (5, vi v5)]) hM (dtab_at okX4_leastCost 40 rfl) rfl rfl (by decide) rfl rfl ?_
      refine w_goto (n := 33) hM (dtab_at okX4_leastCost 41 rfl) (by decide) ?_
      refine WW.lvs [1, 2, 0] (lv2 := [(0, vr 4 44), (5, vi v5), (6, vi (v6 + (1 : Int32)))]) rfl ?_
      exact ih (sta S 47 (((S.1 45 3) * (32 : Int32)) + v6).toNatClampNeg ((S.1 44 3) * ((S.1 46 3) - (fJ6_bitCount_0f7a4 S v6)))) v5 (v6 + (1 : Int32)) hf
def fX4_leastCost (nF : Nat) (S : PS) (q1 : Nat) (a2 : Int32) (q3 : Nat) (a4 : Int32) : Option (Int32 × PS) := ((fX2_gather nF S 45 q1 a2).bind fun r0 => ((fX2_gather nF r0 46 q3 a4).bind fun r1 => (LX4_leastCost_33 nF nF r1 ((1 : Int32) <<< ((r1.1 46 3) &&& 31)) (0 : Int32))))
set_option maxHeartbeats 4000000 in
set_option maxRecDepth 100000 in
theorem c_X4_leastCost {cy : ClassId × ClassId} {ad : Nat → Nat} {D : va_G} {l : Launch} (nF : Nat) (S : PS) (q1 : Nat) (a2 : Int32) (q3 : Nat) (a4 : Int32) (r : Int32 × PS) (hf : fX4_leastCost nF S q1 a2 q3 a4 = some r) : PMi cy GC ad D l yX4_leastCost (wA yX4_leastCost cX4_leastCost 8 (some .int)) rmX4_leastCost [vr 4 44, vr 6 q1, vi a2, vr 6 q3, vi a4] S (fun x S' => (x, S') = r) := by
  refine PM.of (lv := [(0, vr 4 44), (1, vr 6 q1), (2, vi a2), (3, vr 6 q3), (4, vi a4)]) GC_ok (by decide) (Nat.le_of_ble_eq_true rfl) rfl (by simp) ?_
  intro p e s m args below meth c A hM
  rw [fX4_leastCost] at hf
  refine w_aln (q := 0) (n := 1) hM (dtab_at okX4_leastCost 0 rfl) rfl rfl ?_
  refine w_getr (C := RX4) (T := TX4) (i := 0) (k2 := 2) (q := 45) (n := 4) hM rfl (by decide) (fun _ => rfl) ly_X4 lkF_X4_12 (dtab_at okX4_leastCost 1 rfl) rfl ?_
  refine w_aln (q := 1) (n := 5) hM (dtab_at okX4_leastCost 2 rfl) rfl rfl ?_
  refine w_iln (q := 2) (n := 6) hM (dtab_at okX4_leastCost 3 rfl) rfl rfl ?_
  obtain ⟨r0, hr0, hf⟩ := Option.bind_eq_some_iff.mp hf
  refine w_callVv (n := 9) (As := [vr 6 q1, vi a2]) (rest := []) (k := 2) (j := 45) (C := RX2) (T := TX2) (N := 4) hM (c_X2_gather nF S 45 q1 a2 r0 hr0) lkM_X4_29 mv_X2_gather (by decide) rfl (by decide) rfl (Nat.le_of_ble_eq_true rfl) rfl (dtab_at okX4_leastCost 4 rfl) rfl (fun S0 hp0 => ?_)
  have hs_ := hp0.symm
  subst hs_
  refine w_aln (q := 0) (n := 10) hM (dtab_at okX4_leastCost 5 rfl) rfl rfl ?_
  refine w_getr (C := RX4) (T := TX4) (i := 1) (k2 := 2) (q := 46) (n := 13) hM rfl (by decide) (fun _ => rfl) ly_X4 lkF_X4_18 (dtab_at okX4_leastCost 6 rfl) rfl ?_
  refine w_aln (q := 3) (n := 14) hM (dtab_at okX4_leastCost 7 rfl) rfl rfl ?_
  refine w_il (q := 4) (n := 16) hM (dtab_at okX4_leastCost 8 rfl) rfl rfl ?_
  obtain ⟨r1, hr1, hf⟩ := Option.bind_eq_some_iff.mp hf
  refine w_callVv (n := 19) (As := [vr 6 q3, vi a4]) (rest := []) (k := 2) (j := 46) (C := RX2) (T := TX2) (N := 4) hM (c_X2_gather nF r0 46 q3 a4 r1 hr1) lkM_X4_29 mv_X2_gather (by decide) rfl (by decide) rfl (Nat.le_of_ble_eq_true rfl) rfl (dtab_at okX4_leastCost 9 rfl) rfl (fun S1 hp1 => ?_)
  have hs_ := hp1.symm
  subst hs_
  refine w_ic (n := 20) hM (1 : Int32) (dtab_at okX4_leastCost 10 rfl) (by decide) rfl ?_
  refine w_aln (q := 0) (n := 21) hM (dtab_at okX4_leastCost 11 rfl) rfl rfl ?_
  refine w_getr (C := RX4) (T := TX4) (i := 1) (k2 := 2) (q := 46) (n := 24) hM rfl (by decide) (fun _ => rfl) ly_X4 lkF_X4_18 (dtab_at okX4_leastCost 12 rfl) rfl ?_
  refine w_geti (C := RX2) (T := TX2) (i := 3) (n := 27) hM rfl (by decide) ly_X2 lkF_X4_33 (dtab_at okX4_leastCost 13 rfl) rfl ?_
  refine w_ishl (n := 28) hM (dtab_at okX4_leastCost 14 rfl) rfl ?_
  refine w_is (n := 30) (lv' := [(5, vi ((1 : Int32) <<< ((r1.1 46 3) &&& 31))), (0, vr 4 44), (1, vr 6 q1), (2, vi a2), (3, vr 6 q3), (4, vi a4)]) hM (dtab_at okX4_leastCost 15 rfl) (by decide) rfl rfl ?_
  refine w_ic (n := 31) hM (0 : Int32) (dtab_at okX4_leastCost 16 rfl) (by decide) rfl ?_
  refine w_is (n := 33) (lv' := [(6, vi (0 : Int32)), (5, vi ((1 : Int32) <<< ((r1.1 46 3) &&& 31))), (0, vr 4 44), (1, vr 6 q1), (2, vi a2), (3, vr 6 q3), (4, vi a4)]) hM (dtab_at okX4_leastCost 17 rfl) (by decide) rfl rfl ?_
  refine WW.lvs [2, 1, 0] (lv2 := [(0, vr 4 44), (5, vi ((1 : Int32) <<< ((r1.1 46 3) &&& 31))), (6, vi (0 : Int32))]) rfl ?_
  exact wLX4_leastCost_33 hM nF r nF r1 ((1 : Int32) <<< ((r1.1 46 3) &&& 31)) (0 : Int32) hf
