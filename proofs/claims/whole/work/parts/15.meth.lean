def LX10_planned_4 (nF : Nat) : Nat → PS → Int32 → Int32 → Option (Int32)
  | 0, _, _, _ => none
  | n + 1, S, v1, v2 => (if (256 : Int32) ≤ v2 then (some v1) else ((fX10_willDo nF S v2).bind fun r0 => (if r0 = (0 : Int32) then (LX10_planned_4 nF n S v1 (v2 + (1 : Int32))) else (if v1 = (-1 : Int32) then (LX10_planned_4 nF n S v2 (v2 + (1 : Int32))) else ((fX10_many nF S v2).bind fun r1 => ((fX10_many nF S v1).bind fun r2 => (if ((S.1 0 40) * r2) ≤ ((S.1 0 40) * r1) then (LX10_planned_4 nF n S v1 (v2 + (1 : Int32))) else (LX10_planned_4 nF n S v2 (v2 + (1 : Int32))))))))))
set_option maxHeartbeats 4000000 in
set_option maxRecDepth 100000 in
theorem wLX10_planned_4 {cy : ClassId × ClassId} {ad : Nat → Nat} {D : va_G} {p : Program} {l : Launch} {e : Env} {s : State} {m : MethodId} {args : Array Value} {below : List Frame} {meth : Method} {c : Code} {A : Nat → Prop} (hM : MX cy GM ad D p s m args meth c cX10_planned 3 RX10 (some .int) A) (nF : Nat) (S0 : PS) (r : Int32) : ∀ (n : Nat) (S : PS) (v1 : Int32) (v2 : Int32), S = S0 → LX10_planned_4 nF n S v1 v2 = some r → WW cy GM ad D p l e rmX10_planned s m args below meth c 3 A (poi (fun x S' => x = r ∧ S' = S0)) 4 [(0, vr 10 0), (1, vi v1), (2, vi v2)] [] S := by
  intro n
  induction n with
  | zero => intro S v1 v2 hS hf; rw [LX10_planned_4] at hf; cases hf
  | succ n ih =>
    intro S v1 v2 hS hf
    rw [LX10_planned_4] at hf
    refine w_iln (q := 2) (n := 5) hM (dtab_at okX10_planned 4 rfl) rfl rfl ?_
    refine w_si (n := 8) hM (256 : Int32) (dtab_at okX10_planned 5 rfl) (by decide) rfl ?_
    refine w_ic_ge (n := 53) (n2 := 11) hM (dtab_at okX10_planned 6 rfl) (by decide) rfl (fun (h8 : (256 : Int32) ≤ v2) => ?_) (fun (h8 : ¬ (256 : Int32) ≤ v2) => ?_)
    · skip
      rw [if_pos h8] at hf
      refine w_iln (q := 1) (n := 54) hM (dtab_at okX10_planned 29 rfl) rfl rfl ?_
      exact r_i hM (dtab_at okX10_planned 30 rfl) ⟨Option.some.inj hf, hS⟩
    · skip
      rw [if_neg h8] at hf
      refine w_aln (q := 0) (n := 12) hM (dtab_at okX10_planned 7 rfl) rfl rfl ?_
      refine w_iln (q := 2) (n := 13) hM (dtab_at okX10_planned 8 rfl) rfl rfl ?_
      obtain ⟨r0, hr0, hf⟩ := Option.bind_eq_some_iff.mp hf
      refine w_callVi (n := 16) (As := [vi v2]) (rest := []) (k := 10) (j := 0) (C := RX10) (T := TX10) (N := 43) hM (c_X10_willDo nF S v2 r0 hr0) lkM_X10_224 mv_X10_willDo (by decide) rfl (by decide) rfl (Nat.le_of_ble_eq_true rfl) rfl (dtab_at okX10_planned 9 rfl) rfl (fun x0 S0 hp0 => ?_)
      obtain ⟨hx_, hs_⟩ := hp0
      have hs_ := hs_.symm
      have hx_ := hx_.symm
      subst hs_
      subst hx_
      refine w_if_eq (n := 47) (n2 := 19) hM (dtab_at okX10_planned 10 rfl) (by decide) rfl (fun (h16 : r0 = (0 : Int32)) => ?_) (fun (h16 : ¬ r0 = (0 : Int32)) => ?_)
      · skip
        rw [if_pos h16] at hf
        refine w_iinc (q := 2) (n := 50) (v := (v2 + (1 : Int32))) (lv' := [(2, vi (v2 + (1 : Int32))), (0, vr 10 0), (1, vi v1)]) hM (dtab_at okX10_planned 27 rfl) rfl rfl (by decide) rfl rfl ?_
        refine w_goto (n := 4) hM (dtab_at okX10_planned 28 rfl) (by decide) ?_
        refine WW.lvs [1, 2, 0] (lv2 := [(0, vr 10 0), (1, vi v1), (2, vi (v2 + (1 : Int32)))]) rfl ?_
        exact ih S v1 (v2 + (1 : Int32)) hS hf
      · skip
        rw [if_neg h16] at hf
        refine w_iln (q := 1) (n := 20) hM (dtab_at okX10_planned 11 rfl) rfl rfl ?_
        refine w_ic (n := 21) hM (-1 : Int32) (dtab_at okX10_planned 12 rfl) (by decide) rfl ?_
        refine w_ic_eq (n := 45) (n2 := 24) hM (dtab_at okX10_planned 13 rfl) (by decide) rfl (fun (h21 : v1 = (-1 : Int32)) => ?_) (fun (h21 : ¬ v1 = (-1 : Int32)) => ?_)
        · skip
          rw [if_pos h21] at hf
          refine w_iln (q := 2) (n := 46) hM (dtab_at okX10_planned 25 rfl) rfl rfl ?_
          refine w_isn (n := 47) (lv' := [(1, vi v2), (0, vr 10 0), (2, vi v2)]) hM (dtab_at okX10_planned 26 rfl) (by decide) rfl rfl ?_
          refine w_iinc (q := 2) (n := 50) (v := (v2 + (1 : Int32))) (lv' := [(2, vi (v2 + (1 : Int32))), (1, vi v2), (0, vr 10 0)]) hM (dtab_at okX10_planned 27 rfl) rfl rfl (by decide) rfl rfl ?_
          refine w_goto (n := 4) hM (dtab_at okX10_planned 28 rfl) (by decide) ?_
          refine WW.lvs [2, 1, 0] (lv2 := [(0, vr 10 0), (1, vi v2), (2, vi (v2 + (1 : Int32)))]) rfl ?_
          exact ih S v2 (v2 + (1 : Int32)) hS hf
        · skip
          rw [if_neg h21] at hf
          refine w_aln (q := 0) (n := 25) hM (dtab_at okX10_planned 14 rfl) rfl rfl ?_
          refine w_geti (C := RX10) (T := TX10) (i := 40) (n := 28) hM rfl (by decide) ly_X10 lkF_X10_111 (dtab_at okX10_planned 15 rfl) rfl ?_
          refine w_iln (q := 2) (n := 29) hM (dtab_at okX10_planned 16 rfl) rfl rfl ?_
          obtain ⟨r1, hr1, hf⟩ := Option.bind_eq_some_iff.mp hf
          refine w_callSi (n := 32) (As := [vi v2]) (rest := [vi (S.1 0 40)]) hM (c_X10_many nF S v2 r1 hr1) lkM_X10_221 ms_X10_many (by decide) rfl (Nat.le_of_ble_eq_true rfl) rfl (dtab_at okX10_planned 17 rfl) rfl (fun x1 S1 hp1 => ?_)
          obtain ⟨hx_, hs_⟩ := hp1
          have hs_ := hs_.symm
          have hx_ := hx_.symm
          subst hs_
          subst hx_
          refine w_imul (n := 33) hM (dtab_at okX10_planned 18 rfl) rfl ?_
          refine w_aln (q := 0) (n := 34) hM (dtab_at okX10_planned 19 rfl) rfl rfl ?_
          refine w_geti (C := RX10) (T := TX10) (i := 40) (n := 37) hM rfl (by decide) ly_X10 lkF_X10_111 (dtab_at okX10_planned 20 rfl) rfl ?_
          refine w_iln (q := 1) (n := 38) hM (dtab_at okX10_planned 21 rfl) rfl rfl ?_
          obtain ⟨r2, hr2, hf⟩ := Option.bind_eq_some_iff.mp hf
          refine w_callSi (n := 41) (As := [vi v1]) (rest := [vi (S.1 0 40), vi ((S.1 0 40) * r1)]) hM (c_X10_many nF S v1 r2 hr2) lkM_X10_221 ms_X10_many (by decide) rfl (Nat.le_of_ble_eq_true rfl) rfl (dtab_at okX10_planned 22 rfl) rfl (fun x2 S2 hp2 => ?_)
          obtain ⟨hx_, hs_⟩ := hp2
          have hs_ := hs_.symm
          have hx_ := hx_.symm
          subst hs_
          subst hx_
          refine w_imul (n := 42) hM (dtab_at okX10_planned 23 rfl) rfl ?_
          refine w_ic_ge (n := 47) (n2 := 45) hM (dtab_at okX10_planned 24 rfl) (by decide) rfl (fun (h42 : ((S.1 0 40) * r2) ≤ ((S.1 0 40) * r1)) => ?_) (fun (h42 : ¬ ((S.1 0 40) * r2) ≤ ((S.1 0 40) * r1)) => ?_)
          · skip
            rw [if_pos h42] at hf
            refine w_iinc (q := 2) (n := 50) (v := (v2 + (1 : Int32))) (lv' := [(2, vi (v2 + (1 : Int32))), (0, vr 10 0), (1, vi v1)]) hM (dtab_at okX10_planned 27 rfl) rfl rfl (by decide) rfl rfl ?_
            refine w_goto (n := 4) hM (dtab_at okX10_planned 28 rfl) (by decide) ?_
            refine WW.lvs [1, 2, 0] (lv2 := [(0, vr 10 0), (1, vi v1), (2, vi (v2 + (1 : Int32)))]) rfl ?_
            exact ih S v1 (v2 + (1 : Int32)) hS hf
          · skip
            rw [if_neg h42] at hf
            refine w_iln (q := 2) (n := 46) hM (dtab_at okX10_planned 25 rfl) rfl rfl ?_
            refine w_isn (n := 47) (lv' := [(1, vi v2), (0, vr 10 0), (2, vi v2)]) hM (dtab_at okX10_planned 26 rfl) (by decide) rfl rfl ?_
            refine w_iinc (q := 2) (n := 50) (v := (v2 + (1 : Int32))) (lv' := [(2, vi (v2 + (1 : Int32))), (1, vi v2), (0, vr 10 0)]) hM (dtab_at okX10_planned 27 rfl) rfl rfl (by decide) rfl rfl ?_
            refine w_goto (n := 4) hM (dtab_at okX10_planned 28 rfl) (by decide) ?_
            refine WW.lvs [2, 1, 0] (lv2 := [(0, vr 10 0), (1, vi v2), (2, vi (v2 + (1 : Int32)))]) rfl ?_
            exact ih S v2 (v2 + (1 : Int32)) hS hf
def fX10_planned (nF : Nat) (S : PS) : Option (Int32) := (LX10_planned_4 nF nF S (-1 : Int32) (0 : Int32))
set_option maxHeartbeats 4000000 in
set_option maxRecDepth 100000 in
theorem c_X10_planned {cy : ClassId × ClassId} {ad : Nat → Nat} {D : va_G} {l : Launch} (nF : Nat) (S : PS) (r : Int32) (hf : fX10_planned nF S = some r) : PMi cy GM ad D l yX10_planned (wA yX10_planned cX10_planned 3 (some .int)) rmX10_planned [vr 10 0] S (fun x S' => x = r ∧ S' = S) := by
  refine PM.of (lv := [(0, vr 10 0)]) GM_ok (by decide) (Nat.le_of_ble_eq_true rfl) rfl (by simp) ?_
  intro p e s m args below meth c A hM
  rw [fX10_planned] at hf
  obtain ⟨S0, hS⟩ : ∃ S0 : PS, S = S0 := ⟨S, rfl⟩
  rw [show (fun (x : Int32) (S' : PS) => x = r ∧ S' = S) = (fun x S' => x = r ∧ S' = S0) by rw [hS]]
  refine w_ic (n := 1) hM (-1 : Int32) (dtab_at okX10_planned 0 rfl) (by decide) rfl ?_
  refine w_isn (n := 2) (lv' := [(1, vi (-1 : Int32)), (0, vr 10 0)]) hM (dtab_at okX10_planned 1 rfl) (by decide) rfl rfl ?_
  refine w_ic (n := 3) hM (0 : Int32) (dtab_at okX10_planned 2 rfl) (by decide) rfl ?_
  refine w_isn (n := 4) (lv' := [(2, vi (0 : Int32)), (1, vi (-1 : Int32)), (0, vr 10 0)]) hM (dtab_at okX10_planned 3 rfl) (by decide) rfl rfl ?_
  refine WW.lvs [2, 1, 0] (lv2 := [(0, vr 10 0), (1, vi (-1 : Int32)), (2, vi (0 : Int32))]) rfl ?_
  exact wLX10_planned_4 hM nF S0 r nF S (-1 : Int32) (0 : Int32) hS hf
def LX10_plan_25 (nF : Nat) : Nat → PS → Int32 → Int32 → Option (Int32)
  | 0, _, _, _ => none
  | n + 1, S, v2, v3 => (if (S.1 0 36) ≤ v3 then (some v2) else (if v3 < 0 ∨ 30 ≤ v3.toNatClampNeg then none else (LX10_plan_25 nF n S (v2 + (S.2 23 v3.toNatClampNeg)) (v3 + (1 : Int32)))))
set_option maxHeartbeats 4000000 in
set_option maxRecDepth 100000 in
theorem wLX10_plan_25 {cy : ClassId × ClassId} {ad : Nat → Nat} {D : va_G} {p : Program} {l : Launch} {e : Env} {s : State} {m : MethodId} {args : Array Value} {below : List Frame} {meth : Method} {c : Code} {A : Nat → Prop} (hM : MX cy GM ad D p s m args meth c cX10_plan 4 RX10 (some .int) A) (nF : Nat) (S0 : PS) (r : Int32) : ∀ (n : Nat) (S : PS) (v2 : Int32) (v3 : Int32), S = S0 → LX10_plan_25 nF n S v2 v3 = some r → WW cy GM ad D p l e rmX10_plan s m args below meth c 4 A (poi (fun x S' => x = r ∧ S' = S0)) 25 [(0, vr 10 0), (2, vi v2), (3, vi v3)] [] S := by
  intro n
  induction n with
  | zero => intro S v2 v3 hS hf; rw [LX10_plan_25] at hf; cases hf
  | succ n ih =>
    intro S v2 v3 hS hf
    rw [LX10_plan_25] at hf
    refine w_iln (q := 2) (n := 26) hM (dtab_at okX10_plan 16 rfl) rfl rfl ?_
    refine w_aln (q := 0) (n := 27) hM (dtab_at okX10_plan 17 rfl) rfl rfl ?_
    refine w_geti (C := RX10) (T := TX10) (i := 36) (n := 30) hM rfl (by decide) ly_X10 lkF_X10_218 (dtab_at okX10_plan 18 rfl) rfl ?_
    refine w_ic_ge (n := 48) (n2 := 33) hM (dtab_at okX10_plan 19 rfl) (by decide) rfl (fun (h30 : (S.1 0 36) ≤ v3) => ?_) (fun (h30 : ¬ (S.1 0 36) ≤ v3) => ?_)
    · skip
      rw [if_pos h30] at hf
      refine w_iln (q := 1) (n := 49) hM (dtab_at okX10_plan 29 rfl) rfl rfl ?_
      exact r_i hM (dtab_at okX10_plan 30 rfl) ⟨Option.some.inj hf, hS⟩
    · skip
      rw [if_neg h30] at hf
      refine w_iln (q := 1) (n := 34) hM (dtab_at okX10_plan 20 rfl) rfl rfl ?_
      refine w_aln (q := 0) (n := 35) hM (dtab_at okX10_plan 21 rfl) rfl rfl ?_
      refine w_getr (C := RX10) (T := TX10) (i := 37) (k2 := 130) (q := 23) (n := 38) hM rfl (by decide) (fun _ => rfl) ly_X10 lkF_X10_102 (dtab_at okX10_plan 22 rfl) rfl ?_
      refine w_iln (q := 2) (n := 39) hM (dtab_at okX10_plan 23 rfl) rfl rfl ?_
      by_cases hg39 : v3 < 0 ∨ 30 ≤ v3.toNatClampNeg
      · rw [if_pos hg39] at hf; cases hf
      rw [if_neg hg39] at hf
      refine w_ald (nn := 30) (n := 40) hM rfl hg39 (dtab_at okX10_plan 24 rfl) rfl ?_
      refine w_iadd (n := 41) hM (dtab_at okX10_plan 25 rfl) rfl ?_
      refine w_isn (n := 42) (lv' := [(2, vi (v2 + (S.2 23 v3.toNatClampNeg))), (0, vr 10 0), (3, vi v3)]) hM (dtab_at okX10_plan 26 rfl) (by decide) rfl rfl ?_
      refine w_iinc (q := 2) (n := 45) (v := (v3 + (1 : Int32))) (lv' := [(3, vi (v3 + (1 : Int32))), (2, vi (v2 + (S.2 23 v3.toNatClampNeg))), (0, vr 10 0)]) hM (dtab_at okX10_plan 27 rfl) rfl rfl (by decide) rfl rfl ?_
      refine w_goto (n := 25) hM (dtab_at okX10_plan 28 rfl) (by decide) ?_
      refine WW.lvs [2, 1, 0] (lv2 := [(0, vr 10 0), (2, vi (v2 + (S.2 23 v3.toNatClampNeg))), (3, vi (v3 + (1 : Int32)))]) rfl ?_
      exact ih S (v2 + (S.2 23 v3.toNatClampNeg)) (v3 + (1 : Int32)) hS hf
def fX10_plan (nF : Nat) (S : PS) : Option (Int32) := ((fX10_planned nF S).bind fun r0 => (if r0 = (-1 : Int32) then (some (-4 : Int32)) else ((fX10_many nF S r0).bind fun r1 => (LX10_plan_25 nF nF S ((S.1 0 40) * r1) (0 : Int32)))))
set_option maxHeartbeats 4000000 in
set_option maxRecDepth 100000 in
theorem c_X10_plan {cy : ClassId × ClassId} {ad : Nat → Nat} {D : va_G} {l : Launch} (nF : Nat) (S : PS) (r : Int32) (hf : fX10_plan nF S = some r) : PMi cy GM ad D l yX10_plan (wA yX10_plan cX10_plan 4 (some .int)) rmX10_plan [vr 10 0] S (fun x S' => x = r ∧ S' = S) := by
  refine PM.of (lv := [(0, vr 10 0)]) GM_ok (by decide) (Nat.le_of_ble_eq_true rfl) rfl (by simp) ?_
  intro p e s m args below meth c A hM
  rw [fX10_plan] at hf
  obtain ⟨S0, hS⟩ : ∃ S0 : PS, S = S0 := ⟨S, rfl⟩
  rw [show (fun (x : Int32) (S' : PS) => x = r ∧ S' = S) = (fun x S' => x = r ∧ S' = S0) by rw [hS]]
  refine w_aln (q := 0) (n := 1) hM (dtab_at okX10_plan 0 rfl) rfl rfl ?_
  obtain ⟨r0, hr0, hf⟩ := Option.bind_eq_some_iff.mp hf
  refine w_callVi (n := 4) (As := []) (rest := []) (k := 10) (j := 0) (C := RX10) (T := TX10) (N := 43) hM (c_X10_planned nF S r0 hr0) lkM_X10_227 mv_X10_planned (by decide) rfl (by decide) rfl (Nat.le_of_ble_eq_true rfl) rfl (dtab_at okX10_plan 1 rfl) rfl (fun x0 S0 hp0 => ?_)
  obtain ⟨hx_, hs_⟩ := hp0
  have hs_ := hs_.symm
  have hx_ := hx_.symm
  subst hs_
  subst hx_
  refine w_isn (n := 5) (lv' := [(1, vi r0), (0, vr 10 0)]) hM (dtab_at okX10_plan 2 rfl) (by decide) rfl rfl ?_
  refine w_iln (q := 0) (n := 6) hM (dtab_at okX10_plan 3 rfl) rfl rfl ?_
  refine w_ic (n := 7) hM (-1 : Int32) (dtab_at okX10_plan 4 rfl) (by decide) rfl ?_
  refine w_ic_ne (n := 13) (n2 := 10) hM (dtab_at okX10_plan 5 rfl) (by decide) rfl (fun (h7 : ¬ r0 = (-1 : Int32)) => ?_) (fun (h7 : r0 = (-1 : Int32)) => ?_)
  · skip
    rw [if_neg h7] at hf
    refine w_aln (q := 1) (n := 14) hM (dtab_at okX10_plan 8 rfl) rfl rfl ?_
    refine w_geti (C := RX10) (T := TX10) (i := 40) (n := 17) hM rfl (by decide) ly_X10 lkF_X10_111 (dtab_at okX10_plan 9 rfl) rfl ?_
    refine w_iln (q := 0) (n := 18) hM (dtab_at okX10_plan 10 rfl) rfl rfl ?_
    obtain ⟨r1, hr1, hf⟩ := Option.bind_eq_some_iff.mp hf
    refine w_callSi (n := 21) (As := [vi r0]) (rest := [vi (S.1 0 40)]) hM (c_X10_many nF S r0 r1 hr1) lkM_X10_221 ms_X10_many (by decide) rfl (Nat.le_of_ble_eq_true rfl) rfl (dtab_at okX10_plan 11 rfl) rfl (fun x1 S1 hp1 => ?_)
    obtain ⟨hx_, hs_⟩ := hp1
    have hs_ := hs_.symm
    have hx_ := hx_.symm
    subst hs_
    subst hx_
    refine w_imul (n := 22) hM (dtab_at okX10_plan 12 rfl) rfl ?_
    refine w_isn (n := 23) (lv' := [(2, vi ((S.1 0 40) * r1)), (1, vi r0), (0, vr 10 0)]) hM (dtab_at okX10_plan 13 rfl) (by decide) rfl rfl ?_
    refine w_ic (n := 24) hM (0 : Int32) (dtab_at okX10_plan 14 rfl) (by decide) rfl ?_
    refine w_isn (n := 25) (lv' := [(3, vi (0 : Int32)), (2, vi ((S.1 0 40) * r1)), (1, vi r0), (0, vr 10 0)]) hM (dtab_at okX10_plan 15 rfl) (by decide) rfl rfl ?_
    refine WW.lvs [3, 1, 0] (lv2 := [(0, vr 10 0), (2, vi ((S.1 0 40) * r1)), (3, vi (0 : Int32))]) rfl ?_
    exact wLX10_plan_25 hM nF S0 r nF S ((S.1 0 40) * r1) (0 : Int32) hS hf
  · skip
    rw [if_pos h7] at hf
    refine w_bi (n := 12) hM (-4 : Int32) (dtab_at okX10_plan 6 rfl) (by decide) rfl ?_
    exact r_i hM (dtab_at okX10_plan 7 rfl) ⟨Option.some.inj hf, hS⟩
def fX10_years (nF : Nat) (S : PS) : Option (Int32) := ((fX10_planned nF S).bind fun r0 => (if r0 = (-1 : Int32) then (some (-4 : Int32)) else (some r0)))
set_option maxHeartbeats 4000000 in
set_option maxRecDepth 100000 in
theorem c_X10_years {cy : ClassId × ClassId} {ad : Nat → Nat} {D : va_G} {l : Launch} (nF : Nat) (S : PS) (r : Int32) (hf : fX10_years nF S = some r) : PMi cy GM ad D l yX10_years (wA yX10_years cX10_years 2 (some .int)) rmX10_years [vr 10 0] S (fun x S' => x = r ∧ S' = S) := by
  refine PM.of (lv := [(0, vr 10 0)]) GM_ok (by decide) (Nat.le_of_ble_eq_true rfl) rfl (by simp) ?_
  intro p e s m args below meth c A hM
  rw [fX10_years] at hf
  obtain ⟨S0, hS⟩ : ∃ S0 : PS, S = S0 := ⟨S, rfl⟩
  rw [show (fun (x : Int32) (S' : PS) => x = r ∧ S' = S) = (fun x S' => x = r ∧ S' = S0) by rw [hS]]
  refine w_aln (q := 0) (n := 1) hM (dtab_at okX10_years 0 rfl) rfl rfl ?_
  obtain ⟨r0, hr0, hf⟩ := Option.bind_eq_some_iff.mp hf
  refine w_callVi (n := 4) (As := []) (rest := []) (k := 10) (j := 0) (C := RX10) (T := TX10) (N := 43) hM (c_X10_planned nF S r0 hr0) lkM_X10_227 mv_X10_planned (by decide) rfl (by decide) rfl (Nat.le_of_ble_eq_true rfl) rfl (dtab_at okX10_years 1 rfl) rfl (fun x0 S0 hp0 => ?_)
  obtain ⟨hx_, hs_⟩ := hp0
  have hs_ := hs_.symm
  have hx_ := hx_.symm
  subst hs_
  subst hx_
  refine w_isn (n := 5) (lv' := [(1, vi r0), (0, vr 10 0)]) hM (dtab_at okX10_years 2 rfl) (by decide) rfl rfl ?_
  refine w_iln (q := 0) (n := 6) hM (dtab_at okX10_years 3 rfl) rfl rfl ?_
  refine w_ic (n := 7) hM (-1 : Int32) (dtab_at okX10_years 4 rfl) (by decide) rfl ?_
  refine w_ic_ne (n := 15) (n2 := 10) hM (dtab_at okX10_years 5 rfl) (by decide) rfl (fun (h7 : ¬ r0 = (-1 : Int32)) => ?_) (fun (h7 : r0 = (-1 : Int32)) => ?_)
  · skip
    rw [if_neg h7] at hf
    refine w_iln (q := 0) (n := 16) hM (dtab_at okX10_years 8 rfl) rfl rfl ?_
    exact r_i hM (dtab_at okX10_years 9 rfl) ⟨Option.some.inj hf, hS⟩
  · skip
    rw [if_pos h7] at hf
    refine w_bi (n := 12) hM (-4 : Int32) (dtab_at okX10_years 6 rfl) (by decide) rfl ?_
    refine w_goto (n := 16) hM (dtab_at okX10_years 7 rfl) (by decide) ?_
    exact r_i hM (dtab_at okX10_years 9 rfl) ⟨Option.some.inj hf, hS⟩
def LX10_when_107 (nF : Nat) : Nat → PS → Int32 → Int32 → Int32 → Option (Int32)
  | 0, _, _, _, _ => none
  | n + 1, S, v2, v4, v5 => (if ((v2 >>> (v4 &&& 31)) &&& (1 : Int32)) = (0 : Int32) then (LX10_when_107 nF n S v2 (v4 + (1 : Int32)) (v5 - ((v2 >>> (v4 &&& 31)) &&& (1 : Int32)))) else (if v5 ≤ (0 : Int32) then (some (v4 + (1 : Int32))) else (LX10_when_107 nF n S v2 (v4 + (1 : Int32)) (v5 - ((v2 >>> (v4 &&& 31)) &&& (1 : Int32))))))
set_option maxHeartbeats 4000000 in
set_option maxRecDepth 100000 in
theorem wLX10_when_107 {cy : ClassId × ClassId} {ad : Nat → Nat} {D : va_G} {p : Program} {l : Launch} {e : Env} {s : State} {m : MethodId} {args : Array Value} {below : List Frame} {meth : Method} {c : Code} {A : Nat → Prop} (hM : MX cy GM ad D p s m args meth c cX10_when 6 RX10 (some .int) A) (nF : Nat) (S0 : PS) (r : Int32) : ∀ (n : Nat) (S : PS) (v2 : Int32) (v4 : Int32) (v5 : Int32), S = S0 → LX10_when_107 nF n S v2 v4 v5 = some r → WW cy GM ad D p l e rmX10_when s m args below meth c 6 A (poi (fun x S' => x = r ∧ S' = S0)) 107 [(2, vi v2), (4, vi v4), (5, vi v5)] [] S := by
  intro n
  induction n with
  | zero => intro S v2 v4 v5 hS hf; rw [LX10_when_107] at hf; cases hf
  | succ n ih =>
    intro S v2 v4 v5 hS hf
    rw [LX10_when_107] at hf
    refine w_iln (q := 0) (n := 108) hM (dtab_at okX10_when 62 rfl) rfl rfl ?_
    refine w_il (q := 1) (n := 110) hM (dtab_at okX10_when 63 rfl) rfl rfl ?_
    refine w_ishr (n := 111) hM (dtab_at okX10_when 64 rfl) rfl ?_
    refine w_ic (n := 112) hM (1 : Int32) (dtab_at okX10_when 65 rfl) (by decide) rfl ?_
    refine w_iand (n := 113) hM (dtab_at okX10_when 66 rfl) rfl ?_
    refine w_if_eq (n := 121) (n2 := 116) hM (dtab_at okX10_when 67 rfl) (by decide) rfl (fun (h113 : ((v2 >>> (v4 &&& 31)) &&& (1 : Int32)) = (0 : Int32)) => ?_) (fun (h113 : ¬ ((v2 >>> (v4 &&& 31)) &&& (1 : Int32)) = (0 : Int32)) => ?_)
    · skip
      rw [if_pos h113] at hf
      refine w_il (q := 2) (n := 123) hM (dtab_at okX10_when 70 rfl) rfl rfl ?_
      refine w_iln (q := 0) (n := 124) hM (dtab_at okX10_when 71 rfl) rfl rfl ?_
      refine w_il (q := 1) (n := 126) hM (dtab_at okX10_when 72 rfl) rfl rfl ?_
      refine w_ishr (n := 127) hM (dtab_at okX10_when 73 rfl) rfl ?_
      refine w_ic (n := 128) hM (1 : Int32) (dtab_at okX10_when 74 rfl) (by decide) rfl ?_
      refine w_iand (n := 129) hM (dtab_at okX10_when 75 rfl) rfl ?_
      refine w_isub (n := 130) hM (dtab_at okX10_when 76 rfl) rfl ?_
      refine w_is (n := 132) (lv' := [(5, vi (v5 - ((v2 >>> (v4 &&& 31)) &&& (1 : Int32)))), (2, vi v2), (4, vi v4)]) hM (dtab_at okX10_when 77 rfl) (by decide) rfl rfl ?_
      refine w_iinc (q := 2) (n := 135) (v := (v4 + (1 : Int32))) (lv' := [(4, vi (v4 + (1 : Int32))), (5, vi (v5 - ((v2 >>> (v4 &&& 31)) &&& (1 : Int32)))), (2, vi v2)]) hM (dtab_at okX10_when 78 rfl) rfl rfl (by decide) rfl rfl ?_
      refine w_goto (n := 107) hM (dtab_at okX10_when 79 rfl) (by decide) ?_
      refine WW.lvs [2, 0, 1] (lv2 := [(2, vi v2), (4, vi (v4 + (1 : Int32))), (5, vi (v5 - ((v2 >>> (v4 &&& 31)) &&& (1 : Int32))))]) rfl ?_
      exact ih S v2 (v4 + (1 : Int32)) (v5 - ((v2 >>> (v4 &&& 31)) &&& (1 : Int32))) hS hf
    · skip
      rw [if_neg h113] at hf
      refine w_il (q := 2) (n := 118) hM (dtab_at okX10_when 68 rfl) rfl rfl ?_
      refine w_if_le (n := 138) (n2 := 121) hM (dtab_at okX10_when 69 rfl) (by decide) rfl (fun (h118 : v5 ≤ (0 : Int32)) => ?_) (fun (h118 : ¬ v5 ≤ (0 : Int32)) => ?_)
      · skip
        rw [if_pos h118] at hf
        refine w_il (q := 1) (n := 140) hM (dtab_at okX10_when 80 rfl) rfl rfl ?_
        refine w_ic (n := 141) hM (1 : Int32) (dtab_at okX10_when 81 rfl) (by decide) rfl ?_
        refine w_iadd (n := 142) hM (dtab_at okX10_when 82 rfl) rfl ?_
        exact r_i hM (dtab_at okX10_when 83 rfl) ⟨Option.some.inj hf, hS⟩
      · skip
        rw [if_neg h118] at hf
        refine w_il (q := 2) (n := 123) hM (dtab_at okX10_when 70 rfl) rfl rfl ?_
        refine w_iln (q := 0) (n := 124) hM (dtab_at okX10_when 71 rfl) rfl rfl ?_
        refine w_il (q := 1) (n := 126) hM (dtab_at okX10_when 72 rfl) rfl rfl ?_
        refine w_ishr (n := 127) hM (dtab_at okX10_when 73 rfl) rfl ?_
        refine w_ic (n := 128) hM (1 : Int32) (dtab_at okX10_when 74 rfl) (by decide) rfl ?_
        refine w_iand (n := 129) hM (dtab_at okX10_when 75 rfl) rfl ?_
        refine w_isub (n := 130) hM (dtab_at okX10_when 76 rfl) rfl ?_
        refine w_is (n := 132) (lv' := [(5, vi (v5 - ((v2 >>> (v4 &&& 31)) &&& (1 : Int32)))), (2, vi v2), (4, vi v4)]) hM (dtab_at okX10_when 77 rfl) (by decide) rfl rfl ?_
        refine w_iinc (q := 2) (n := 135) (v := (v4 + (1 : Int32))) (lv' := [(4, vi (v4 + (1 : Int32))), (5, vi (v5 - ((v2 >>> (v4 &&& 31)) &&& (1 : Int32)))), (2, vi v2)]) hM (dtab_at okX10_when 78 rfl) rfl rfl (by decide) rfl rfl ?_
        refine w_goto (n := 107) hM (dtab_at okX10_when 79 rfl) (by decide) ?_
        refine WW.lvs [2, 0, 1] (lv2 := [(2, vi v2), (4, vi (v4 + (1 : Int32))), (5, vi (v5 - ((v2 >>> (v4 &&& 31)) &&& (1 : Int32))))]) rfl ?_
        exact ih S v2 (v4 + (1 : Int32)) (v5 - ((v2 >>> (v4 &&& 31)) &&& (1 : Int32))) hS hf
def BX10_when_96 (nF : Nat) (S : PS) (v2 : Int32) (v3 : Int32) : Option (Int32) := (if (S.1 0 39) = 0 then none else (LX10_when_107 nF nF S v2 (0 : Int32) (v3 / (S.1 0 39))))
set_option maxHeartbeats 4000000 in
set_option maxRecDepth 100000 in
theorem wBX10_when_96 {cy : ClassId × ClassId} {ad : Nat → Nat} {D : va_G} {p : Program} {l : Launch} {e : Env} {s : State} {m : MethodId} {args : Array Value} {below : List Frame} {meth : Method} {c : Code} {A : Nat → Prop} (hM : MX cy GM ad D p s m args meth c cX10_when 6 RX10 (some .int) A) (nF : Nat) (S0 : PS) (r : Int32) (S : PS) (v2 : Int32) (v3 : Int32) (hS : S = S0) (hf : BX10_when_96 nF S v2 v3 = some r) : WW cy GM ad D p l e rmX10_when s m args below meth c 6 A (poi (fun x S' => x = r ∧ S' = S0)) 96 [(0, vr 10 0), (2, vi v2), (3, vi v3)] [] S := by
  rw [BX10_when_96] at hf
  refine w_ic (n := 97) hM (0 : Int32) (dtab_at okX10_when 55 rfl) (by decide) rfl ?_
  refine w_is (n := 99) (lv' := [(4, vi (0 : Int32)), (0, vr 10 0), (2, vi v2), (3, vi v3)]) hM (dtab_at okX10_when 56 rfl) (by decide) rfl rfl ?_
  refine w_iln (q := 3) (n := 100) hM (dtab_at okX10_when 57 rfl) rfl rfl ?_
  refine w_aln (q := 1) (n := 101) hM (dtab_at okX10_when 58 rfl) rfl rfl ?_
  refine w_geti (C := RX10) (T := TX10) (i := 39) (n := 104) hM rfl (by decide) ly_X10 lkF_X10_108 (dtab_at okX10_when 59 rfl) rfl ?_
  by_cases hg104 : (S.1 0 39) = 0
  · rw [if_pos hg104] at hf; cases hf
  rw [if_neg hg104] at hf
  refine w_idiv (n := 105) hM (dtab_at okX10_when 60 rfl) hg104 rfl ?_
  refine w_is (n := 107) (lv' := [(5, vi (v3 / (S.1 0 39))), (4, vi (0 : Int32)), (0, vr 10 0), (2, vi v2), (3, vi v3)]) hM (dtab_at okX10_when 61 rfl) (by decide) rfl rfl ?_
  refine WW.lvs [3, 1, 0] (lv2 := [(2, vi v2), (4, vi (0 : Int32)), (5, vi (v3 / (S.1 0 39)))]) rfl ?_
  exact wLX10_when_107 hM nF S0 r nF S v2 (0 : Int32) (v3 / (S.1 0 39)) hS hf
def LX10_when_35 (nF : Nat) : Nat → PS → Int32 → Int32 → Int32 → Int32 → Option (Int32)
  | 0, _, _, _, _, _ => none
  | n + 1, S, v1, v2, v3, v4 => (if (S.1 0 36) ≤ v4 then (BX10_when_96 nF S v2 v3) else (if v4 < 0 ∨ 30 ≤ v4.toNatClampNeg then none else (if v1 < 0 ∨ 30 ≤ v1.toNatClampNeg then none else (if (S.2 24 v4.toNatClampNeg) < (S.2 24 v1.toNatClampNeg) then (LX10_when_35 nF n S v1 v2 (v3 + (1 : Int32)) (v4 + (1 : Int32))) else (if (S.2 24 v4.toNatClampNeg) = (S.2 24 v1.toNatClampNeg) then (if v1 ≤ v4 then (LX10_when_35 nF n S v1 v2 (v3 + (0 : Int32)) (v4 + (1 : Int32))) else (LX10_when_35 nF n S v1 v2 (v3 + (1 : Int32)) (v4 + (1 : Int32)))) else (LX10_when_35 nF n S v1 v2 (v3 + (0 : Int32)) (v4 + (1 : Int32))))))))
set_option maxHeartbeats 4000000 in
set_option maxRecDepth 100000 in
theorem wLX10_when_35 {cy : ClassId × ClassId} {ad : Nat → Nat} {D : va_G} {p : Program} {l : Launch} {e : Env} {s : State} {m : MethodId} {args : Array Value} {below : List Frame} {meth : Method} {c : Code} {A : Nat → Prop} (hM : MX cy GM ad D p s m args meth c cX10_when 6 RX10 (some .int) A) (nF : Nat) (S0 : PS) (r : Int32) : ∀ (n : Nat) (S : PS) (v1 : Int32) (v2 : Int32) (v3 : Int32) (v4 : Int32), S = S0 → LX10_when_35 nF n S v1 v2 v3 v4 = some r → WW cy GM ad D p l e rmX10_when s m args below meth c 6 A (poi (fun x S' => x = r ∧ S' = S0)) 35 [(0, vr 10 0), (1, vi v1), (2, vi v2), (3, vi v3), (4, vi v4)] [] S := by
  intro n
  induction n with
  | zero => intro S v1 v2 v3 v4 hS hf; rw [LX10_when_35] at hf; cases hf
  | succ n ih =>
    intro S v1 v2 v3 v4 hS hf
    rw [LX10_when_35] at hf
    refine w_il (q := 4) (n := 37) hM (dtab_at okX10_when 22 rfl) rfl rfl ?_
    refine w_aln (q := 0) (n := 38) hM (dtab_at okX10_when 23 rfl) rfl rfl ?_
    refine w_geti (C := RX10) (T := TX10) (i := 36) (n := 41) hM rfl (by decide) ly_X10 lkF_X10_218 (dtab_at okX10_when 24 rfl) rfl ?_
    refine w_ic_ge (n := 96) (n2 := 44) hM (dtab_at okX10_when 25 rfl) (by decide) rfl (fun (h41 : (S.1 0 36) ≤ v4) => ?_) (fun (h41 : ¬ (S.1 0 36) ≤ v4) => ?_)
    · skip
      rw [if_pos h41] at hf
      refine WW.lvs [0, 2, 3] (lv2 := [(0, vr 10 0), (2, vi v2), (3, vi v3)]) rfl ?_
      exact wBX10_when_96 hM nF S0 r S v2 v3 hS hf
    · skip
      rw [if_neg h41] at hf
      refine w_iln (q := 3) (n := 45) hM (dtab_at okX10_when 26 rfl) rfl rfl ?_
      refine w_aln (q := 0) (n := 46) hM (dtab_at okX10_when 27 rfl) rfl rfl ?_
      refine w_getr (C := RX10) (T := TX10) (i := 38) (k2 := 130) (q := 24) (n := 49) hM rfl (by decide) (fun _ => rfl) ly_X10 lkF_X10_105 (dtab_at okX10_when 28 rfl) rfl ?_
      refine w_il (q := 4) (n := 51) hM (dtab_at okX10_when 29 rfl) rfl rfl ?_
      by_cases hg51 : v4 < 0 ∨ 30 ≤ v4.toNatClampNeg
      · rw [if_pos hg51] at hf; cases hf
      rw [if_neg hg51] at hf
      refine w_ald (nn := 30) (n := 52) hM rfl hg51 (dtab_at okX10_when 30 rfl) rfl ?_
      refine w_aln (q := 0) (n := 53) hM (dtab_at okX10_when 31 rfl) rfl rfl ?_
      refine w_getr (C := RX10) (T := TX10) (i := 38) (k2 := 130) (q := 24) (n := 56) hM rfl (by decide) (fun _ => rfl) ly_X10 lkF_X10_105 (dtab_at okX10_when 32 rfl) rfl ?_
      refine w_iln (q := 1) (n := 57) hM (dtab_at okX10_when 33 rfl) rfl rfl ?_
      by_cases hg57 : v1 < 0 ∨ 30 ≤ v1.toNatClampNeg
      · rw [if_pos hg57] at hf; cases hf
      rw [if_neg hg57] at hf
      refine w_ald (nn := 30) (n := 58) hM rfl hg57 (dtab_at okX10_when 34 rfl) rfl ?_
      refine w_ic_lt (n := 83) (n2 := 61) hM (dtab_at okX10_when 35 rfl) (by decide) rfl (fun (h58 : (S.2 24 v4.toNatClampNeg) < (S.2 24 v1.toNatClampNeg)) => ?_) (fun (h58 : ¬ (S.2 24 v4.toNatClampNeg) < (S.2 24 v1.toNatClampNeg)) => ?_)
      · skip
        rw [if_pos h58] at hf
        refine w_ic (n := 84) hM (1 : Int32) (dtab_at okX10_when 48 rfl) (by decide) rfl ?_
        refine w_goto (n := 88) hM (dtab_at okX10_when 49 rfl) (by decide) ?_
        refine w_iadd (n := 89) hM (dtab_at okX10_when 51 rfl) rfl ?_
        refine w_isn (n := 90) (lv' := [(3, vi (v3 + (1 : Int32))), (0, vr 10 0), (1, vi v1), (2, vi v2), (4, vi v4)]) hM (dtab_at okX10_when 52 rfl) (by decide) rfl rfl ?_
        refine w_iinc (q := 4) (n := 93) (v := (v4 + (1 : Int32))) (lv' := [(4, vi (v4 + (1 : Int32))), (3, vi (v3 + (1 : Int32))), (0, vr 10 0), (1, vi v1), (2, vi v2)]) hM (dtab_at okX10_when 53 rfl) rfl rfl (by decide) rfl rfl ?_
        refine w_goto (n := 35) hM (dtab_at okX10_when 54 rfl) (by decide) ?_
        refine WW.lvs [2, 3, 4, 1, 0] (lv2 := [(0, vr 10 0), (1, vi v1), (2, vi v2), (3, vi (v3 + (1 : Int32))), (4, vi (v4 + (1 : Int32)))]) rfl ?_
        exact ih S v1 v2 (v3 + (1 : Int32)) (v4 + (1 : Int32)) hS hf
      · skip
        rw [if_neg h58] at hf
        refine w_aln (q := 0) (n := 62) hM (dtab_at okX10_when 36 rfl) rfl rfl ?_
        refine w_getr (C := RX10) (T := TX10) (i := 38) (k2 := 130) (q := 24) (n := 65) hM rfl (by decide) (fun _ => rfl) ly_X10 lkF_X10_105 (dtab_at okX10_when 37 rfl) rfl ?_
        refine w_il (q := 4) (n := 67) hM (dtab_at okX10_when 38 rfl) rfl rfl ?_
        refine w_ald (nn := 30) (n := 68) hM rfl hg51 (dtab_at okX10_when 39 rfl) rfl ?_
        refine w_aln (q := 0) (n := 69) hM (dtab_at okX10_when 40 rfl) rfl rfl ?_
        refine w_getr (C := RX10) (T := TX10) (i := 38) (k2 := 130) (q := 24) (n := 72) hM rfl (by decide) (fun _ => rfl) ly_X10 lkF_X10_105 (dtab_at okX10_when 41 rfl) rfl ?_
        refine w_iln (q := 1) (n := 73) hM (dtab_at okX10_when 42 rfl) rfl rfl ?_
        refine w_ald (nn := 30) (n := 74) hM rfl hg57 (dtab_at okX10_when 43 rfl) rfl ?_
        refine w_ic_ne (n := 87) (n2 := 77) hM (dtab_at okX10_when 44 rfl) (by decide) rfl (fun (h74 : ¬ (S.2 24 v4.toNatClampNeg) = (S.2 24 v1.toNatClampNeg)) => ?_) (fun (h74 : (S.2 24 v4.toNatClampNeg) = (S.2 24 v1.toNatClampNeg)) => ?_)
        · skip
          rw [if_neg h74] at hf
          refine w_ic (n := 88) hM (0 : Int32) (dtab_at okX10_when 50 rfl) (by decide) rfl ?_
          refine w_iadd (n := 89) hM (dtab_at okX10_when 51 rfl) rfl ?_
          refine w_isn (n := 90) (lv' := [(3, vi (v3 + (0 : Int32))), (0, vr 10 0), (1, vi v1), (2, vi v2), (4, vi v4)]) hM (dtab_at okX10_when 52 rfl) (by decide) rfl rfl ?_
          refine w_iinc (q := 4) (n := 93) (v := (v4 + (1 : Int32))) (lv' := [(4, vi (v4 + (1 : Int32))), (3, vi (v3 + (0 : Int32))), (0, vr 10 0), (1, vi v1), (2, vi v2)]) hM (dtab_at okX10_when 53 rfl) rfl rfl (by decide) rfl rfl ?_
          refine w_goto (n := 35) hM (dtab_at okX10_when 54 rfl) (by decide) ?_
          refine WW.lvs [2, 3, 4, 1, 0] (lv2 := [(0, vr 10 0), (1, vi v1), (2, vi v2), (3, vi (v3 + (0 : Int32))), (4, vi (v4 + (1 : Int32)))]) rfl ?_
          exact ih S v1 v2 (v3 + (0 : Int32)) (v4 + (1 : Int32)) hS hf
        · skip
          rw [if_pos h74] at hf
          refine w_il (q := 4) (n := 79) hM (dtab_at okX10_when 45 rfl) rfl rfl ?_
          refine w_iln (q := 1) (n := 80) hM (dtab_at okX10_when 46 rfl) rfl rfl ?_
          refine w_ic_ge (n := 87) (n2 := 83) hM (dtab_at okX10_when 47 rfl) (by decide) rfl (fun (h80 : v1 ≤ v4) => ?_) (fun (h80 : ¬ v1 ≤ v4) => ?_)
          · skip
            rw [if_pos h80] at hf
            refine w_ic (n := 88) hM (0 : Int32) (dtab_at okX10_when 50 rfl) (by decide) rfl ?_
            refine w_iadd (n := 89) hM (dtab_at okX10_when 51 rfl) rfl ?_
            refine w_isn (n := 90) (lv' := [(3, vi (v3 + (0 : Int32))), (0, vr 10 0), (1, vi v1), (2, vi v2), (4, vi v4)]) hM (dtab_at okX10_when 52 rfl) (by decide) rfl rfl ?_
            refine w_iinc (q := 4) (n := 93) (v := (v4 + (1 : Int32))) (lv' := [(4, vi (v4 + (1 : Int32))), (3, vi (v3 + (0 : Int32))), (0, vr 10 0), (1, vi v1), (2, vi v2)]) hM (dtab_at okX10_when 53 rfl) rfl rfl (by decide) rfl rfl ?_
            refine w_goto (n := 35) hM (dtab_at okX10_when 54 rfl) (by decide) ?_
            refine WW.lvs [2, 3, 4, 1, 0] (lv2 := [(0, vr 10 0), (1, vi v1), (2, vi v2), (3, vi (v3 + (0 : Int32))), (4, vi (v4 + (1 : Int32)))]) rfl ?_
            exact ih S v1 v2 (v3 + (0 : Int32)) (v4 + (1 : Int32)) hS hf
          · skip
            rw [if_neg h80] at hf
            refine w_ic (n := 84) hM (1 : Int32) (dtab_at okX10_when 48 rfl) (by decide) rfl ?_
            refine w_goto (n := 88) hM (dtab_at okX10_when 49 rfl) (by decide) ?_
            refine w_iadd (n := 89) hM (dtab_at okX10_when 51 rfl) rfl ?_
            refine w_isn (n := 90) (lv' := [(3, vi (v3 + (1 : Int32))), (0, vr 10 0), (1, vi v1), (2, vi v2), (4, vi v4)]) hM (dtab_at okX10_when 52 rfl) (by decide) rfl rfl ?_
            refine w_iinc (q := 4) (n := 93) (v := (v4 + (1 : Int32))) (lv' := [(4, vi (v4 + (1 : Int32))), (3, vi (v3 + (1 : Int32))), (0, vr 10 0), (1, vi v1), (2, vi v2)]) hM (dtab_at okX10_when 53 rfl) rfl rfl (by decide) rfl rfl ?_
            refine w_goto (n := 35) hM (dtab_at okX10_when 54 rfl) (by decide) ?_
            refine WW.lvs [2, 3, 4, 1, 0] (lv2 := [(0, vr 10 0), (1, vi v1), (2, vi v2), (3, vi (v3 + (1 : Int32))), (4, vi (v4 + (1 : Int32)))]) rfl ?_
            exact ih S v1 v2 (v3 + (1 : Int32)) (v4 + (1 : Int32)) hS hf
def fX10_when (nF : Nat) (S : PS) (a1 : Int32) : Option (Int32) := (if (fX10_in S a1 (0 : Int32) ((S.1 0 36) - (1 : Int32))) = (0 : Int32) then (some (-2 : Int32)) else ((fX10_planned nF S).bind fun r1 => (if r1 = (-1 : Int32) then (some (-4 : Int32)) else (LX10_when_35 nF nF S a1 r1 (0 : Int32) (0 : Int32)))))
set_option maxHeartbeats 4000000 in
set_option maxRecDepth 100000 in
theorem c_X10_when {cy : ClassId × ClassId} {ad : Nat → Nat} {D : va_G} {l : Launch} (nF : Nat) (S : PS) (a1 : Int32) (r : Int32) (hf : fX10_when nF S a1 = some r) : PMi cy GM ad D l yX10_when (wA yX10_when cX10_when 6 (some .int)) rmX10_when [vr 10 0, vi a1] S (fun x S' => x = r ∧ S' = S) := by
  refine PM.of (lv := [(0, vr 10 0), (1, vi a1)]) GM_ok (by decide) (Nat.le_of_ble_eq_true rfl) rfl (by simp) ?_
  intro p e s m args below meth c A hM
  rw [fX10_when] at hf
  obtain ⟨S0, hS⟩ : ∃ S0 : PS, S = S0 := ⟨S, rfl⟩
  rw [show (fun (x : Int32) (S' : PS) => x = r ∧ S' = S) = (fun x S' => x = r ∧ S' = S0) by rw [hS]]
  refine w_iln (q := 1) (n := 1) hM (dtab_at okX10_when 0 rfl) rfl rfl ?_
  refine w_ic (n := 2) hM (0 : Int32) (dtab_at okX10_when 1 rfl) (by decide) rfl ?_
  refine w_aln (q := 0) (n := 3) hM (dtab_at okX10_when 2 rfl) rfl rfl ?_
  refine w_geti (C := RX10) (T := TX10) (i := 36) (n := 6) hM rfl (by decide) ly_X10 lkF_X10_218 (dtab_at okX10_when 3 rfl) rfl ?_
  refine w_ic (n := 7) hM (1 : Int32) (dtab_at okX10_when 4 rfl) (by decide) rfl ?_
  refine w_isub (n := 8) hM (dtab_at okX10_when 5 rfl) rfl ?_
  refine w_callSi (n := 11) (As := [vi a1, vi (0 : Int32), vi ((S.1 0 36) - (1 : Int32))]) (rest := []) hM (c_X10_in S a1 (0 : Int32) ((S.1 0 36) - (1 : Int32))) lkM_X10_120 ms_X10_in (by decide) rfl (Nat.le_of_ble_eq_true rfl) rfl (dtab_at okX10_when 6 rfl) rfl (fun x0 S0 hp0 => ?_)
  obtain ⟨hx_, hs_⟩ := hp0
  have hs_ := hs_.symm
  subst hs_
  subst hx_
  refine w_if_ne (n := 17) (n2 := 14) hM (dtab_at okX10_when 7 rfl) (by decide) rfl (fun (h11 : ¬ (fX10_in S a1 (0 : Int32) ((S.1 0 36) - (1 : Int32))) = (0 : Int32)) => ?_) (fun (h11 : (fX10_in S a1 (0 : Int32) ((S.1 0 36) - (1 : Int32))) = (0 : Int32)) => ?_)
  · skip
    rw [if_neg h11] at hf
    refine w_aln (q := 0) (n := 18) hM (dtab_at okX10_when 10 rfl) rfl rfl ?_
    obtain ⟨r1, hr1, hf⟩ := Option.bind_eq_some_iff.mp hf
    refine w_callVi (n := 21) (As := []) (rest := []) (k := 10) (j := 0) (C := RX10) (T := TX10) (N := 43) hM (c_X10_planned nF S r1 hr1) lkM_X10_227 mv_X10_planned (by decide) rfl (by decide) rfl (Nat.le_of_ble_eq_true rfl) rfl (dtab_at okX10_when 11 rfl) rfl (fun x1 S1 hp1 => ?_)
    obtain ⟨hx_, hs_⟩ := hp1
    have hs_ := hs_.symm
    have hx_ := hx_.symm
    subst hs_
    subst hx_
    refine w_isn (n := 22) (lv' := [(2, vi r1), (0, vr 10 0), (1, vi a1)]) hM (dtab_at okX10_when 12 rfl) (by decide) rfl rfl ?_
    refine w_iln (q := 0) (n := 23) hM (dtab_at okX10_when 13 rfl) rfl rfl ?_
    refine w_ic (n := 24) hM (-1 : Int32) (dtab_at okX10_when 14 rfl) (by decide) rfl ?_
    refine w_ic_ne (n := 30) (n2 := 27) hM (dtab_at okX10_when 15 rfl) (by decide) rfl (fun (h24 : ¬ r1 = (-1 : Int32)) => ?_) (fun (h24 : r1 = (-1 : Int32)) => ?_)
    · skip
      rw [if_neg h24] at hf
      refine w_ic (n := 31) hM (0 : Int32) (dtab_at okX10_when 18 rfl) (by decide) rfl ?_
      refine w_isn (n := 32) (lv' := [(3, vi (0 : Int32)), (2, vi r1), (0, vr 10 0), (1, vi a1)]) hM (dtab_at okX10_when 19 rfl) (by decide) rfl rfl ?_
      refine w_ic (n := 33) hM (0 : Int32) (dtab_at okX10_when 20 rfl) (by decide) rfl ?_
      refine w_is (n := 35) (lv' := [(4, vi (0 : Int32)), (3, vi (0 : Int32)), (2, vi r1), (0, vr 10 0), (1, vi a1)]) hM (dtab_at okX10_when 21 rfl) (by decide) rfl rfl ?_
      refine WW.lvs [3, 4, 2, 1, 0] (lv2 := [(0, vr 10 0), (1, vi a1), (2, vi r1), (3, vi (0 : Int32)), (4, vi (0 : Int32))]) rfl ?_
      exact wLX10_when_35 hM nF S0 r nF S a1 r1 (0 : Int32) (0 : Int32) hS hf
    · skip
      rw [if_pos h24] at hf
      refine w_bi (n := 29) hM (-4 : Int32) (dtab_at okX10_when 16 rfl) (by decide) rfl ?_
      exact r_i hM (dtab_at okX10_when 17 rfl) ⟨Option.some.inj hf, hS⟩
  · skip
    rw [if_pos h11] at hf
    refine w_bi (n := 16) hM (-2 : Int32) (dtab_at okX10_when 8 rfl) (by decide) rfl ?_
    exact r_i hM (dtab_at okX10_when 9 rfl) ⟨Option.some.inj hf, hS⟩
def BX10_mayOpen_28 (nF : Nat) (S : PS) : Option (Int32) := (if (3 : Int32) < 0 ∨ 4 ≤ (3 : Int32).toNatClampNeg then none else (if (S.2 25 (3 : Int32).toNatClampNeg) = (0 : Int32) then (if (2 : Int32) < 0 ∨ 4 ≤ (2 : Int32).toNatClampNeg then none else (if (S.2 25 (2 : Int32).toNatClampNeg) = (0 : Int32) then (some (1 : Int32)) else (some (0 : Int32)))) else (some (0 : Int32))))
set_option maxHeartbeats 4000000 in
set_option maxRecDepth 100000 in
theorem wBX10_mayOpen_28 {cy : ClassId × ClassId} {ad : Nat → Nat} {D : va_G} {p : Program} {l : Launch} {e : Env} {s : State} {m : MethodId} {args : Array Value} {below : List Frame} {meth : Method} {c : Code} {A : Nat → Prop} (hM : MX cy GM ad D p s m args meth c cX10_mayOpen 2 RX10 (some .boolean) A) (nF : Nat) (S0 : PS) (r : Int32) (S : PS) (hS : S = S0) (hf : BX10_mayOpen_28 nF S = some r) : WW cy GM ad D p l e rmX10_mayOpen s m args below meth c 2 A (poi (fun x S' => x = r ∧ S' = S0)) 28 [(0, vr 10 0)] [] S := by
  rw [BX10_mayOpen_28] at hf
  refine w_aln (q := 0) (n := 29) hM (dtab_at okX10_mayOpen 2 rfl) rfl rfl ?_
  refine w_getr (C := RX10) (T := TX10) (i := 41) (k2 := 24) (q := 25) (n := 32) hM rfl (by decide) (fun _ => rfl) ly_X10 lkF_X10_114 (dtab_at okX10_mayOpen 3 rfl) rfl ?_
  refine w_ic (n := 33) hM (3 : Int32) (dtab_at okX10_mayOpen 4 rfl) (by decide) rfl ?_
  by_cases hg33 : (3 : Int32) < 0 ∨ 4 ≤ (3 : Int32).toNatClampNeg
  · rw [if_pos hg33] at hf; cases hf
  rw [if_neg hg33] at hf
  refine w_zld (nn := 4) (n := 34) hM rfl (by decide) hg33 (dtab_at okX10_mayOpen 5 rfl) rfl ?_
  refine w_if_ne (n := 50) (n2 := 37) hM (dtab_at okX10_mayOpen 6 rfl) (by decide) rfl (fun (h34 : ¬ (S.2 25 (3 : Int32).toNatClampNeg) = (0 : Int32)) => ?_) (fun (h34 : (S.2 25 (3 : Int32).toNatClampNeg) = (0 : Int32)) => ?_)
  · skip
    rw [if_neg h34] at hf
    refine w_ic (n := 51) hM (0 : Int32) (dtab_at okX10_mayOpen 14 rfl) (by decide) rfl ?_
    exact r_z hM (by decide) (dtab_at okX10_mayOpen 15 rfl) ⟨Option.some.inj hf, hS⟩
  · skip
    rw [if_pos h34] at hf
    refine w_aln (q := 0) (n := 38) hM (dtab_at okX10_mayOpen 7 rfl) rfl rfl ?_
    refine w_getr (C := RX10) (T := TX10) (i := 41) (k2 := 24) (q := 25) (n := 41) hM rfl (by decide) (fun _ => rfl) ly_X10 lkF_X10_114 (dtab_at okX10_mayOpen 8 rfl) rfl ?_
    refine w_ic (n := 42) hM (2 : Int32) (dtab_at okX10_mayOpen 9 rfl) (by decide) rfl ?_
    by_cases hg42 : (2 : Int32) < 0 ∨ 4 ≤ (2 : Int32).toNatClampNeg
    · rw [if_pos hg42] at hf; cases hf
    rw [if_neg hg42] at hf
    refine w_zld (nn := 4) (n := 43) hM rfl (by decide) hg42 (dtab_at okX10_mayOpen 10 rfl) rfl ?_
    refine w_if_ne (n := 50) (n2 := 46) hM (dtab_at okX10_mayOpen 11 rfl) (by decide) rfl (fun (h43 : ¬ (S.2 25 (2 : Int32).toNatClampNeg) = (0 : Int32)) => ?_) (fun (h43 : (S.2 25 (2 : Int32).toNatClampNeg) = (0 : Int32)) => ?_)
    · skip
      rw [if_neg h43] at hf
      refine w_ic (n := 51) hM (0 : Int32) (dtab_at okX10_mayOpen 14 rfl) (by decide) rfl ?_
      exact r_z hM (by decide) (dtab_at okX10_mayOpen 15 rfl) ⟨Option.some.inj hf, hS⟩
    · skip
      rw [if_pos h43] at hf
      refine w_ic (n := 47) hM (1 : Int32) (dtab_at okX10_mayOpen 12 rfl) (by decide) rfl ?_
      refine w_goto (n := 51) hM (dtab_at okX10_mayOpen 13 rfl) (by decide) ?_
      exact r_z hM (by decide) (dtab_at okX10_mayOpen 15 rfl) ⟨Option.some.inj hf, hS⟩
def fX10_mayOpen (nF : Nat) (S : PS) (a1 : Int32) : Option (Int32) := (if a1.toInt < 0 ∨ 2 < a1.toInt then (if (S.1 0 42) = (0 : Int32) then (if (2 : Int32) < 0 ∨ 4 ≤ (2 : Int32).toNatClampNeg then none else (if (S.2 25 (2 : Int32).toNatClampNeg) = (0 : Int32) then (some (0 : Int32)) else (some (1 : Int32)))) else (some (0 : Int32))) else if a1 = 0 then (BX10_mayOpen_28 nF S) else if a1 = 1 then (BX10_mayOpen_28 nF S) else (if (0 : Int32) < 0 ∨ 4 ≤ (0 : Int32).toNatClampNeg then none else (if (S.2 25 (0 : Int32).toNatClampNeg) = (0 : Int32) then (if (1 : Int32) < 0 ∨ 4 ≤ (1 : Int32).toNatClampNeg then none else (if (S.2 25 (1 : Int32).toNatClampNeg) = (0 : Int32) then (some (1 : Int32)) else (some (0 : Int32)))) else (some (0 : Int32)))))
set_option maxHeartbeats 4000000 in
set_option maxRecDepth 100000 in
theorem c_X10_mayOpen {cy : ClassId × ClassId} {ad : Nat → Nat} {D : va_G} {l : Launch} (nF : Nat) (S : PS) (a1 : Int32) (r : Int32) (hf : fX10_mayOpen nF S a1 = some r) : PMi cy GM ad D l yX10_mayOpen (wA yX10_mayOpen cX10_mayOpen 2 (some .boolean)) rmX10_mayOpen [vr 10 0, vi a1] S (fun x S' => x = r ∧ S' = S) := by
  refine PM.of (lv := [(0, vr 10 0), (1, vi a1)]) GM_ok (by decide) (Nat.le_of_ble_eq_true rfl) rfl (by simp) ?_
  intro p e s m args below meth c A hM
  rw [fX10_mayOpen] at hf
  obtain ⟨S0, hS⟩ : ∃ S0 : PS, S = S0 := ⟨S, rfl⟩
  rw [show (fun (x : Int32) (S' : PS) => x = r ∧ S' = S) = (fun x S' => x = r ∧ S' = S0) by rw [hS]]
  refine w_iln (q := 1) (n := 1) hM (dtab_at okX10_mayOpen 0 rfl) rfl rfl ?_
  by_cases hts1 : a1.toInt < 0 ∨ 2 < a1.toInt
  · refine w_tsOut (n := 76) hM (dtab_at okX10_mayOpen 1 rfl) hts1 (by decide) ?_
    rw [if_pos hts1] at hf
    refine w_aln (q := 0) (n := 77) hM (dtab_at okX10_mayOpen 30 rfl) rfl rfl ?_
    refine w_geti (C := RX10) (T := TX10) (i := 42) (n := 80) hM rfl (by decide) ly_X10 lkF_X10_230 (dtab_at okX10_mayOpen 31 rfl) rfl ?_
    refine w_if_ne (n := 96) (n2 := 83) hM (dtab_at okX10_mayOpen 32 rfl) (by decide) rfl (fun (h80 : ¬ (S.1 0 42) = (0 : Int32)) => ?_) (fun (h80 : (S.1 0 42) = (0 : Int32)) => ?_)
    · skip
      rw [if_neg h80] at hf
      refine w_ic (n := 97) hM (0 : Int32) (dtab_at okX10_mayOpen 40 rfl) (by decide) rfl ?_
      exact r_z hM (by decide) (dtab_at okX10_mayOpen 41 rfl) ⟨Option.some.inj hf, hS⟩
    · skip
      rw [if_pos h80] at hf
      refine w_aln (q := 0) (n := 84) hM (dtab_at okX10_mayOpen 33 rfl) rfl rfl ?_
      refine w_getr (C := RX10) (T := TX10) (i := 41) (k2 := 24) (q := 25) (n := 87) hM rfl (by decide) (fun _ => rfl) ly_X10 lkF_X10_114 (dtab_at okX10_mayOpen 34 rfl) rfl ?_
      refine w_ic (n := 88) hM (2 : Int32) (dtab_at okX10_mayOpen 35 rfl) (by decide) rfl ?_
      by_cases hg88 : (2 : Int32) < 0 ∨ 4 ≤ (2 : Int32).toNatClampNeg
      · rw [if_pos hg88] at hf; cases hf
      rw [if_neg hg88] at hf
      refine w_zld (nn := 4) (n := 89) hM rfl (by decide) hg88 (dtab_at okX10_mayOpen 36 rfl) rfl ?_
      refine w_if_eq (n := 96) (n2 := 92) hM (dtab_at okX10_mayOpen 37 rfl) (by decide) rfl (fun (h89 : (S.2 25 (2 : Int32).toNatClampNeg) = (0 : Int32)) => ?_) (fun (h89 : ¬ (S.2 25 (2 : Int32).toNatClampNeg) = (0 : Int32)) => ?_)
      · skip
        rw [if_pos h89] at hf
        refine w_ic (n := 97) hM (0 : Int32) (dtab_at okX10_mayOpen 40 rfl) (by decide) rfl ?_
        exact r_z hM (by decide) (dtab_at okX10_mayOpen 41 rfl) ⟨Option.some.inj hf, hS⟩
      · skip
        rw [if_neg h89] at hf
        refine w_ic (n := 93) hM (1 : Int32) (dtab_at okX10_mayOpen 38 rfl) (by decide) rfl ?_
        refine w_goto (n := 97) hM (dtab_at okX10_mayOpen 39 rfl) (by decide) ?_
        exact r_z hM (by decide) (dtab_at okX10_mayOpen 41 rfl) ⟨Option.some.inj hf, hS⟩
  · have htn1 := hts1
    obtain hts1 | hts1 | hts1 : a1 = 0 ∨ a1 = 1 ∨ a1 = 2 := sw0_3 hts1
    · refine w_tsIn (n := 28) (off := 27) hM (dtab_at okX10_mayOpen 1 rfl) (by rw [hts1]; decide) (by rw [hts1]; decide) (by rw [hts1]; rfl) (by decide) ?_
      rw [if_neg htn1, if_pos hts1] at hf
      refine WW.lvs [0] (lv2 := [(0, vr 10 0)]) rfl ?_
      exact wBX10_mayOpen_28 hM nF S0 r S hS hf
    · refine w_tsIn (n := 28) (off := 27) hM (dtab_at okX10_mayOpen 1 rfl) (by rw [hts1]; decide) (by rw [hts1]; decide) (by rw [hts1]; rfl) (by decide) ?_
      rw [if_neg htn1, if_neg (show ¬ a1 = 0 by rw [hts1]; decide), if_pos hts1] at hf
      refine WW.lvs [0] (lv2 := [(0, vr 10 0)]) rfl ?_
      exact wBX10_mayOpen_28 hM nF S0 r S hS hf
    · refine w_tsIn (n := 52) (off := 51) hM (dtab_at okX10_mayOpen 1 rfl) (by rw [hts1]; decide) (by rw [hts1]; decide) (by rw [hts1]; rfl) (by decide) ?_
      rw [if_neg htn1, if_neg (show ¬ a1 = 0 by rw [hts1]; decide), if_neg (show ¬ a1 = 1 by rw [hts1]; decide)] at hf
      refine w_aln (q := 0) (n := 53) hM (dtab_at okX10_mayOpen 16 rfl) rfl rfl ?_
      refine w_getr (C := RX10) (T := TX10) (i := 41) (k2 := 24) (q := 25) (n := 56) hM rfl (by decide) (fun _ => rfl) ly_X10 lkF_X10_114 (dtab_at okX10_mayOpen 17 rfl) rfl ?_
      refine w_ic (n := 57) hM (0 : Int32) (dtab_at okX10_mayOpen 18 rfl) (by decide) rfl ?_
      by_cases hg57 : (0 : Int32) < 0 ∨ 4 ≤ (0 : Int32).toNatClampNeg
      · rw [if_pos hg57] at hf; cases hf
      rw [if_neg hg57] at hf
      refine w_zld (nn := 4) (n := 58) hM rfl (by decide) hg57 (dtab_at okX10_mayOpen 19 rfl) rfl ?_
      refine w_if_ne (n := 74) (n2 := 61) hM (dtab_at okX10_mayOpen 20 rfl) (by decide) rfl (fun (h58 : ¬ (S.2 25 (0 : Int32).toNatClampNeg) = (0 : Int32)) => ?_) (fun (h58 : (S.2 25 (0 : Int32).toNatClampNeg) = (0 : Int32)) => ?_)
      · skip
        rw [if_neg h58] at hf
        refine w_ic (n := 75) hM (0 : Int32) (dtab_at okX10_mayOpen 28 rfl) (by decide) rfl ?_
        exact r_z hM (by decide) (dtab_at okX10_mayOpen 29 rfl) ⟨Option.some.inj hf, hS⟩
      · skip
        rw [if_pos h58] at hf
        refine w_aln (q := 0) (n := 62) hM (dtab_at okX10_mayOpen 21 rfl) rfl rfl ?_
        refine w_getr (C := RX10) (T := TX10) (i := 41) (k2 := 24) (q := 25) (n := 65) hM rfl (by decide) (fun _ => rfl) ly_X10 lkF_X10_114 (dtab_at okX10_mayOpen 22 rfl) rfl ?_
        refine w_ic (n := 66) hM (1 : Int32) (dtab_at okX10_mayOpen 23 rfl) (by decide) rfl ?_
        by_cases hg66 : (1 : Int32) < 0 ∨ 4 ≤ (1 : Int32).toNatClampNeg
        · rw [if_pos hg66] at hf; cases hf
        rw [if_neg hg66] at hf
        refine w_zld (nn := 4) (n := 67) hM rfl (by decide) hg66 (dtab_at okX10_mayOpen 24 rfl) rfl ?_
        refine w_if_ne (n := 74) (n2 := 70) hM (dtab_at okX10_mayOpen 25 rfl) (by decide) rfl (fun (h67 : ¬ (S.2 25 (1 : Int32).toNatClampNeg) = (0 : Int32)) => ?_) (fun (h67 : (S.2 25 (1 : Int32).toNatClampNeg) = (0 : Int32)) => ?_)
        · skip
          rw [if_neg h67] at hf
          refine w_ic (n := 75) hM (0 : Int32) (dtab_at okX10_mayOpen 28 rfl) (by decide) rfl ?_
          exact r_z hM (by decide) (dtab_at okX10_mayOpen 29 rfl) ⟨Option.some.inj hf, hS⟩
        · skip
          rw [if_pos h67] at hf
          refine w_ic (n := 71) hM (1 : Int32) (dtab_at okX10_mayOpen 26 rfl) (by decide) rfl ?_
          refine w_goto (n := 75) hM (dtab_at okX10_mayOpen 27 rfl) (by decide) ?_
          exact r_z hM (by decide) (dtab_at okX10_mayOpen 29 rfl) ⟨Option.some.inj hf, hS⟩
def BX10_trap_39 (nF : Nat) (S : PS) (v1 : Int32) (v2 : Int32) : Option (Int32 × PS) := (if v1 < 0 ∨ 4 ≤ v1.toNatClampNeg then none else (if v2 = (0 : Int32) then (some ((1 : Int32), (sta S 25 v1.toNatClampNeg (vp_nar .boolean v2)))) else (if v1 = (2 : Int32) then (some ((1 : Int32), (sti (sta S 25 v1.toNatClampNeg (vp_nar .boolean v2)) 0 42 (0 : Int32)))) else (if v1 = (3 : Int32) then (if ¬ ((S.1 0 42) = 0 ∨ (S.1 0 42) = 1) then none else (some ((1 : Int32), (sti (sta S 25 v1.toNatClampNeg (vp_nar .boolean v2)) 0 42 (S.1 0 42))))) else (some ((1 : Int32), (sti (sta S 25 v1.toNatClampNeg (vp_nar .boolean v2)) 0 42 (1 : Int32))))))))
set_option maxHeartbeats 4000000 in
set_option maxRecDepth 100000 in
theorem wBX10_trap_39 {cy : ClassId × ClassId} {ad : Nat → Nat} {D : va_G} {p : Program} {l : Launch} {e : Env} {s : State} {m : MethodId} {args : Array Value} {below : List Frame} {meth : Method} {c : Code} {A : Nat → Prop} (hM : MX cy GM ad D p s m args meth c cX10_trap 3 RX10 (some .int) A) (nF : Nat) (r : Int32 × PS) (S : PS) (v1 : Int32) (v2 : Int32) (hf : BX10_trap_39 nF S v1 v2 = some r) : WW cy GM ad D p l e rmX10_trap s m args below meth c 3 A (poi (fun x S' => (x, S') = r)) 39 [(0, vr 10 0), (1, vi v1), (2, vi v2)] [] S := by
  rw [BX10_trap_39] at hf
  refine w_aln (q := 0) (n := 40) hM (dtab_at okX10_trap 23 rfl) rfl rfl ?_
  refine w_getr (C := RX10) (T := TX10) (i := 41) (k2 := 24) (q := 25) (n := 43) hM rfl (by decide) (fun _ => rfl) ly_X10 lkF_X10_114 (dtab_at okX10_trap 24 rfl) rfl ?_
  refine w_iln (q := 1) (n := 44) hM (dtab_at okX10_trap 25 rfl) rfl rfl ?_
  refine w_iln (q := 2) (n := 45) hM (dtab_at okX10_trap 26 rfl) rfl rfl ?_
  by_cases hg45 : v1 < 0 ∨ 4 ≤ v1.toNatClampNeg
  · rw [if_pos hg45] at hf; cases hf
  rw [if_neg hg45] at hf
  refine w_zst (nn := 4) (n := 46) hM rfl (by decide) hg45 (dtab_at okX10_trap 27 rfl) rfl ?_
  refine w_iln (q := 2) (n := 47) hM (dtab_at okX10_trap 28 rfl) rfl rfl ?_
  refine w_if_eq (n := 76) (n2 := 50) hM (dtab_at okX10_trap 29 rfl) (by decide) rfl (fun (h47 : v2 = (0 : Int32)) => ?_) (fun (h47 : ¬ v2 = (0 : Int32)) => ?_)
  · skip
    rw [if_pos h47] at hf
    refine w_ic (n := 77) hM (1 : Int32) (dtab_at okX10_trap 44 rfl) (by decide) rfl ?_
    exact r_i hM (dtab_at okX10_trap 45 rfl) (Option.some.inj hf)
  · skip
    rw [if_neg h47] at hf
    refine w_aln (q := 0) (n := 51) hM (dtab_at okX10_trap 30 rfl) rfl rfl ?_
    refine w_iln (q := 1) (n := 52) hM (dtab_at okX10_trap 31 rfl) rfl rfl ?_
    refine w_ic (n := 53) hM (2 : Int32) (dtab_at okX10_trap 32 rfl) (by decide) rfl ?_
    refine w_ic_ne (n := 60) (n2 := 56) hM (dtab_at okX10_trap 33 rfl) (by decide) rfl (fun (h53 : ¬ v1 = (2 : Int32)) => ?_) (fun (h53 : v1 = (2 : Int32)) => ?_)
    · skip
      rw [if_neg h53] at hf
      refine w_iln (q := 1) (n := 61) hM (dtab_at okX10_trap 36 rfl) rfl rfl ?_
      refine w_ic (n := 62) hM (3 : Int32) (dtab_at okX10_trap 37 rfl) (by decide) rfl ?_
      refine w_ic_ne (n := 72) (n2 := 65) hM (dtab_at okX10_trap 38 rfl) (by decide) rfl (fun (h62 : ¬ v1 = (3 : Int32)) => ?_) (fun (h62 : v1 = (3 : Int32)) => ?_)
      · skip
        rw [if_neg h62] at hf
        refine w_ic (n := 73) hM (1 : Int32) (dtab_at okX10_trap 42 rfl) (by decide) rfl ?_
        refine w_put (C := RX10) (T := TX10) (i := 42) (ty := .boolean) (n := 76) hM rfl (by decide) ly_X10 tyX10_ok nmX10 lkF_X10_230 rfl (by decide +kernel) (by decide) rfl (dtab_at okX10_trap 43 rfl) rfl ?_
        refine w_ic (n := 77) hM (1 : Int32) (dtab_at okX10_trap 44 rfl) (by decide) rfl ?_
        exact r_i hM (dtab_at okX10_trap 45 rfl) (Option.some.inj hf)
      · skip
        rw [if_pos h62] at hf
        refine w_aln (q := 0) (n := 66) hM (dtab_at okX10_trap 39 rfl) rfl rfl ?_
        refine w_geti (C := RX10) (T := TX10) (i := 42) (n := 69) hM rfl (by decide) ly_X10 lkF_X10_230 (dtab_at okX10_trap 40 rfl) rfl ?_
        refine w_goto (n := 73) hM (dtab_at okX10_trap 41 rfl) (by decide) ?_
        by_cases hg73 : ¬ ((S.1 0 42) = 0 ∨ (S.1 0 42) = 1)
        · rw [if_pos hg73] at hf; cases hf
        rw [if_neg hg73] at hf
        refine w_put (C := RX10) (T := TX10) (i := 42) (ty := .boolean) (n := 76) hM rfl (by decide) ly_X10 tyX10_ok nmX10 lkF_X10_230 rfl (by decide +kernel) (nar_bi (Decidable.not_not.mp hg73)) (fit_bi (Decidable.not_not.mp hg73)) (dtab_at okX10_trap 43 rfl) rfl ?_
        refine w_ic (n := 77) hM (1 : Int32) (dtab_at okX10_trap 44 rfl) (by decide) rfl ?_
        exact r_i hM (dtab_at okX10_trap 45 rfl) (Option.some.inj hf)
    · skip
      rw [if_pos h53] at hf
      refine w_ic (n := 57) hM (0 : Int32) (dtab_at okX10_trap 34 rfl) (by decide) rfl ?_
      refine w_goto (n := 73) hM (dtab_at okX10_trap 35 rfl) (by decide) ?_
      refine w_put (C := RX10) (T := TX10) (i := 42) (ty := .boolean) (n := 76) hM rfl (by decide) ly_X10 tyX10_ok nmX10 lkF_X10_230 rfl (by decide +kernel) (by decide) rfl (dtab_at okX10_trap 43 rfl) rfl ?_
      refine w_ic (n := 77) hM (1 : Int32) (dtab_at okX10_trap 44 rfl) (by decide) rfl ?_
      exact r_i hM (dtab_at okX10_trap 45 rfl) (Option.some.inj hf)
def fX10_trap (nF : Nat) (S : PS) (a1 : Int32) (a2 : Int32) : Option (Int32 × PS) := (if (fX10_in S a1 (0 : Int32) (3 : Int32)) = (0 : Int32) then (some ((-2 : Int32), S)) else (if a1 < 0 ∨ 4 ≤ a1.toNatClampNeg then none else (if (S.2 25 a1.toNatClampNeg) = a2 then (some ((0 : Int32), S)) else (if a2 = (0 : Int32) then (BX10_trap_39 nF S a1 a2) else ((fX10_mayOpen nF S a1).bind fun r1 => (if r1 = (0 : Int32) then (some ((-4 : Int32), S)) else (BX10_trap_39 nF S a1 a2)))))))
set_option maxHeartbeats 4000000 in
set_option maxRecDepth 100000 in
theorem c_X10_trap {cy : ClassId × ClassId} {ad : Nat → Nat} {D : va_G} {l : Launch} (nF : Nat) (S : PS) (a1 : Int32) (a2 : Int32) (r : Int32 × PS) (hf : fX10_trap nF S a1 a2 = some r) : PMi cy GM ad D l yX10_trap (wA yX10_trap cX10_trap 3 (some .int)) rmX10_trap [vr 10 0, vi a1, vi a2] S (fun x S' => (x, S') = r) := by
  refine PM.of (lv := [(0, vr 10 0), (1, vi a1), (2, vi a2)]) GM_ok (by decide) (Nat.le_of_ble_eq_true rfl) rfl (by simp) ?_
  intro p e s m args below meth c A hM
  rw [fX10_trap] at hf
  refine w_iln (q := 1) (n := 1) hM (dtab_at okX10_trap 0 rfl) rfl rfl ?_
  refine w_ic (n := 2) hM (0 : Int32) (dtab_at okX10_trap 1 rfl) (by decide) rfl ?_
  refine w_ic (n := 3) hM (3 : Int32) (dtab_at okX10_trap 2 rfl) (by decide) rfl ?_
  refine w_callSi (n := 6) (As := [vi a1, vi (0 : Int32), vi (3 : Int32)]) (rest := []) hM (c_X10_in S a1 (0 : Int32) (3 : Int32)) lkM_X10_120 ms_X10_in (by decide) rfl (Nat.le_of_ble_eq_true rfl) rfl (dtab_at okX10_trap 3 rfl) rfl (fun x0 S0 hp0 => ?_)
  obtain ⟨hx_, hs_⟩ := hp0
  have hs_ := hs_.symm
  subst hs_
  subst hx_
  refine w_if_ne (n := 12) (n2 := 9) hM (dtab_at okX10_trap 4 rfl) (by decide) rfl (fun (h6 : ¬ (fX10_in S a1 (0 : Int32) (3 : Int32)) = (0 : Int32)) => ?_) (fun (h6 : (fX10_in S a1 (0 : Int32) (3 : Int32)) = (0 : Int32)) => ?_)
  · skip
    rw [if_neg h6] at hf
    refine w_aln (q := 0) (n := 13) hM (dtab_at okX10_trap 7 rfl) rfl rfl ?_
    refine w_getr (C := RX10) (T := TX10) (i := 41) (k2 := 24) (q := 25) (n := 16) hM rfl (by decide) (fun _ => rfl) ly_X10 lkF_X10_114 (dtab_at okX10_trap 8 rfl) rfl ?_
    refine w_iln (q := 1) (n := 17) hM (dtab_at okX10_trap 9 rfl) rfl rfl ?_
    by_cases hg17 : a1 < 0 ∨ 4 ≤ a1.toNatClampNeg
    · rw [if_pos hg17] at hf; cases hf
    rw [if_neg hg17] at hf
    refine w_zld (nn := 4) (n := 18) hM rfl (by decide) hg17 (dtab_at okX10_trap 10 rfl) rfl ?_
    refine w_iln (q := 2) (n := 19) hM (dtab_at okX10_trap 11 rfl) rfl rfl ?_
    refine w_ic_ne (n := 24) (n2 := 22) hM (dtab_at okX10_trap 12 rfl) (by decide) rfl (fun (h19 : ¬ (S.2 25 a1.toNatClampNeg) = a2) => ?_) (fun (h19 : (S.2 25 a1.toNatClampNeg) = a2) => ?_)
    · skip
      rw [if_neg h19] at hf
      refine w_iln (q := 2) (n := 25) hM (dtab_at okX10_trap 15 rfl) rfl rfl ?_
      refine w_if_eq (n := 39) (n2 := 28) hM (dtab_at okX10_trap 16 rfl) (by decide) rfl (fun (h25 : a2 = (0 : Int32)) => ?_) (fun (h25 : ¬ a2 = (0 : Int32)) => ?_)
      · skip
        rw [if_pos h25] at hf
        exact wBX10_trap_39 hM nF r S a1 a2 hf
      · skip
        rw [if_neg h25] at hf
        refine w_aln (q := 0) (n := 29) hM (dtab_at okX10_trap 17 rfl) rfl rfl ?_
        refine w_iln (q := 1) (n := 30) hM (dtab_at okX10_trap 18 rfl) rfl rfl ?_
        obtain ⟨r1, hr1, hf⟩ := Option.bind_eq_some_iff.mp hf
        refine w_callVi (n := 33) (As := [vi a1]) (rest := []) (k := 10) (j := 0) (C := RX10) (T := TX10) (N := 43) hM (c_X10_mayOpen nF S a1 r1 hr1) lkM_X10_234 mv_X10_mayOpen (by decide) rfl (by decide) rfl (Nat.le_of_ble_eq_true rfl) rfl (dtab_at okX10_trap 19 rfl) rfl (fun x1 S1 hp1 => ?_)
        obtain ⟨hx_, hs_⟩ := hp1
        have hs_ := hs_.symm
        have hx_ := hx_.symm
        subst hs_
        subst hx_
        refine w_if_ne (n := 39) (n2 := 36) hM (dtab_at okX10_trap 20 rfl) (by decide) rfl (fun (h33 : ¬ r1 = (0 : Int32)) => ?_) (fun (h33 : r1 = (0 : Int32)) => ?_)
        · skip
          rw [if_neg h33] at hf
          exact wBX10_trap_39 hM nF r S a1 a2 hf
        · skip
          rw [if_pos h33] at hf
          refine w_bi (n := 38) hM (-4 : Int32) (dtab_at okX10_trap 21 rfl) (by decide) rfl ?_
          exact r_i hM (dtab_at okX10_trap 22 rfl) (Option.some.inj hf)
    · skip
      rw [if_pos h19] at hf
      refine w_ic (n := 23) hM (0 : Int32) (dtab_at okX10_trap 13 rfl) (by decide) rfl ?_
      exact r_i hM (dtab_at okX10_trap 14 rfl) (Option.some.inj hf)
  · skip
    rw [if_pos h6] at hf
    refine w_bi (n := 11) hM (-2 : Int32) (dtab_at okX10_trap 5 rfl) (by decide) rfl ?_
    exact r_i hM (dtab_at okX10_trap 6 rfl) (Option.some.inj hf)
def BX10_count_106 (nF : Nat) (S : PS) (t0 : Int32) (t1 : Int32) : Option (Int32) := (if (3 : Int32) < 0 ∨ 4 ≤ (3 : Int32).toNatClampNeg then none else (if (S.2 25 (3 : Int32).toNatClampNeg) = (0 : Int32) then (some ((t1 + t0) + (0 : Int32))) else (some ((t1 + t0) + (8 : Int32)))))
set_option maxHeartbeats 4000000 in
set_option maxRecDepth 100000 in
theorem wBX10_count_106 {cy : ClassId × ClassId} {ad : Nat → Nat} {D : va_G} {p : Program} {l : Launch} {e : Env} {s : State} {m : MethodId} {args : Array Value} {below : List Frame} {meth : Method} {c : Code} {A : Nat → Prop} (hM : MX cy GM ad D p s m args meth c cX10_count 2 RX10 (some .int) A) (nF : Nat) (S0 : PS) (r : Int32) (S : PS) (t0 : Int32) (t1 : Int32) (hS : S = S0) (hf : BX10_count_106 nF S t0 t1 = some r) : WW cy GM ad D p l e rmX10_count s m args below meth c 2 A (poi (fun x S' => x = r ∧ S' = S0)) 106 [(0, vr 10 0)] [vi t0, vi t1] S := by
  rw [BX10_count_106] at hf
  refine w_iadd (n := 107) hM (dtab_at okX10_count 40 rfl) rfl ?_
  refine w_aln (q := 0) (n := 108) hM (dtab_at okX10_count 41 rfl) rfl rfl ?_
  refine w_getr (C := RX10) (T := TX10) (i := 41) (k2 := 24) (q := 25) (n := 111) hM rfl (by decide) (fun _ => rfl) ly_X10 lkF_X10_114 (dtab_at okX10_count 42 rfl) rfl ?_
  refine w_ic (n := 112) hM (3 : Int32) (dtab_at okX10_count 43 rfl) (by decide) rfl ?_
  by_cases hg112 : (3 : Int32) < 0 ∨ 4 ≤ (3 : Int32).toNatClampNeg
  · rw [if_pos hg112] at hf; cases hf
  rw [if_neg hg112] at hf
  refine w_zld (nn := 4) (n := 113) hM rfl (by decide) hg112 (dtab_at okX10_count 44 rfl) rfl ?_
  refine w_if_eq (n := 121) (n2 := 116) hM (dtab_at okX10_count 45 rfl) (by decide) rfl (fun (h113 : (S.2 25 (3 : Int32).toNatClampNeg) = (0 : Int32)) => ?_) (fun (h113 : ¬ (S.2 25 (3 : Int32).toNatClampNeg) = (0 : Int32)) => ?_)
  · skip
    rw [if_pos h113] at hf
    refine w_ic (n := 122) hM (0 : Int32) (dtab_at okX10_count 48 rfl) (by decide) rfl ?_
    refine w_iadd (n := 123) hM (dtab_at okX10_count 49 rfl) rfl ?_
    exact r_i hM (dtab_at okX10_count 50 rfl) ⟨Option.some.inj hf, hS⟩
  · skip
    rw [if_neg h113] at hf
    refine w_bi (n := 118) hM (8 : Int32) (dtab_at okX10_count 46 rfl) (by decide) rfl ?_
    refine w_goto (n := 122) hM (dtab_at okX10_count 47 rfl) (by decide) ?_
    refine w_iadd (n := 123) hM (dtab_at okX10_count 49 rfl) rfl ?_
    exact r_i hM (dtab_at okX10_count 50 rfl) ⟨Option.some.inj hf, hS⟩
def BX10_count_91 (nF : Nat) (S : PS) (t0 : Int32) (t1 : Int32) : Option (Int32) := (if (2 : Int32) < 0 ∨ 4 ≤ (2 : Int32).toNatClampNeg then none else (if (S.2 25 (2 : Int32).toNatClampNeg) = (0 : Int32) then (BX10_count_106 nF S (0 : Int32) (t1 + t0)) else (BX10_count_106 nF S (4 : Int32) (t1 + t0))))
set_option maxHeartbeats 4000000 in
set_option maxRecDepth 100000 in
theorem wBX10_count_91 {cy : ClassId × ClassId} {ad : Nat → Nat} {D : va_G} {p : Program} {l : Launch} {e : Env} {s : State} {m : MethodId} {args : Array Value} {below : List Frame} {meth : Method} {c : Code} {A : Nat → Prop} (hM : MX cy GM ad D p s m args meth c cX10_count 2 RX10 (some .int) A) (nF : Nat) (S0 : PS) (r : Int32) (S : PS) (t0 : Int32) (t1 : Int32) (hS : S = S0) (hf : BX10_count_91 nF S t0 t1 = some r) : WW cy GM ad D p l e rmX10_count s m args below meth c 2 A (poi (fun x S' => x = r ∧ S' = S0)) 91 [(0, vr 10 0)] [vi t0, vi t1] S := by
  rw [BX10_count_91] at hf
  refine w_iadd (n := 92) hM (dtab_at okX10_count 31 rfl) rfl ?_
  refine w_aln (q := 0) (n := 93) hM (dtab_at okX10_count 32 rfl) rfl rfl ?_
  refine w_getr (C := RX10) (T := TX10) (i := 41) (k2 := 24) (q := 25) (n := 96) hM rfl (by decide) (fun _ => rfl) ly_X10 lkF_X10_114 (dtab_at okX10_count 33 rfl) rfl ?_
  refine w_ic (n := 97) hM (2 : Int32) (dtab_at okX10_count 34 rfl) (by decide) rfl ?_
  by_cases hg97 : (2 : Int32) < 0 ∨ 4 ≤ (2 : Int32).toNatClampNeg
  · rw [if_pos hg97] at hf; cases hf
  rw [if_neg hg97] at hf
  refine w_zld (nn := 4) (n := 98) hM rfl (by decide) hg97 (dtab_at okX10_count 35 rfl) rfl ?_
  refine w_if_eq (n := 105) (n2 := 101) hM (dtab_at okX10_count 36 rfl) (by decide) rfl (fun (h98 : (S.2 25 (2 : Int32).toNatClampNeg) = (0 : Int32)) => ?_) (fun (h98 : ¬ (S.2 25 (2 : Int32).toNatClampNeg) = (0 : Int32)) => ?_)
  · skip
    rw [if_pos h98] at hf
    refine w_ic (n := 106) hM (0 : Int32) (dtab_at okX10_count 39 rfl) (by decide) rfl ?_
    exact wBX10_count_106 hM nF S0 r S (0 : Int32) (t1 + t0) hS hf
  · skip
    rw [if_neg h98] at hf
    refine w_ic (n := 102) hM (4 : Int32) (dtab_at okX10_count 37 rfl) (by decide) rfl ?_
    refine w_goto (n := 106) hM (dtab_at okX10_count 38 rfl) (by decide) ?_
    exact wBX10_count_106 hM nF S0 r S (4 : Int32) (t1 + t0) hS hf
def BX10_count_77 (nF : Nat) (S : PS) (t0 : Int32) : Option (Int32) := (if (1 : Int32) < 0 ∨ 4 ≤ (1 : Int32).toNatClampNeg then none else (if (S.2 25 (1 : Int32).toNatClampNeg) = (0 : Int32) then (BX10_count_91 nF S (0 : Int32) t0) else (BX10_count_91 nF S (2 : Int32) t0)))
set_option maxHeartbeats 4000000 in
set_option maxRecDepth 100000 in
theorem wBX10_count_77 {cy : ClassId × ClassId} {ad : Nat → Nat} {D : va_G} {p : Program} {l : Launch} {e : Env} {s : State} {m : MethodId} {args : Array Value} {below : List Frame} {meth : Method} {c : Code} {A : Nat → Prop} (hM : MX cy GM ad D p s m args meth c cX10_count 2 RX10 (some .int) A) (nF : Nat) (S0 : PS) (r : Int32) (S : PS) (t0 : Int32) (hS : S = S0) (hf : BX10_count_77 nF S t0 = some r) : WW cy GM ad D p l e rmX10_count s m args below meth c 2 A (poi (fun x S' => x = r ∧ S' = S0)) 77 [(0, vr 10 0)] [vi t0] S := by
  rw [BX10_count_77] at hf
  refine w_aln (q := 0) (n := 78) hM (dtab_at okX10_count 23 rfl) rfl rfl ?_
  refine w_getr (C := RX10) (T := TX10) (i := 41) (k2 := 24) (q := 25) (n := 81) hM rfl (by decide) (fun _ => rfl) ly_X10 lkF_X10_114 (dtab_at okX10_count 24 rfl) rfl ?_
  refine w_ic (n := 82) hM (1 : Int32) (dtab_at okX10_count 25 rfl) (by decide) rfl ?_
  by_cases hg82 : (1 : Int32) < 0 ∨ 4 ≤ (1 : Int32).toNatClampNeg
  · rw [if_pos hg82] at hf; cases hf
  rw [if_neg hg82] at hf
  refine w_zld (nn := 4) (n := 83) hM rfl (by decide) hg82 (dtab_at okX10_count 26 rfl) rfl ?_
  refine w_if_eq (n := 90) (n2 := 86) hM (dtab_at okX10_count 27 rfl) (by decide) rfl (fun (h83 : (S.2 25 (1 : Int32).toNatClampNeg) = (0 : Int32)) => ?_) (fun (h83 : ¬ (S.2 25 (1 : Int32).toNatClampNeg) = (0 : Int32)) => ?_)
  · skip
    rw [if_pos h83] at hf
    refine w_ic (n := 91) hM (0 : Int32) (dtab_at okX10_count 30 rfl) (by decide) rfl ?_
    exact wBX10_count_91 hM nF S0 r S (0 : Int32) t0 hS hf
  · skip
    rw [if_neg h83] at hf
    refine w_ic (n := 87) hM (2 : Int32) (dtab_at okX10_count 28 rfl) (by decide) rfl ?_
    refine w_goto (n := 91) hM (dtab_at okX10_count 29 rfl) (by decide) ?_
    exact wBX10_count_91 hM nF S0 r S (2 : Int32) t0 hS hf
def fX10_count (nF : Nat) (S : PS) (a1 : Int32) : Option (Int32) := (if a1.toInt < 0 ∨ 6 < a1.toInt then (some (-2 : Int32)) else if a1 = 0 then (some (S.1 0 12)) else if a1 = 1 then (if (a1 - (1 : Int32)) < 0 ∨ 2 ≤ (a1 - (1 : Int32)).toNatClampNeg then none else (some (S.2 12 (a1 - (1 : Int32)).toNatClampNeg))) else if a1 = 2 then (if (a1 - (1 : Int32)) < 0 ∨ 2 ≤ (a1 - (1 : Int32)).toNatClampNeg then none else (some (S.2 12 (a1 - (1 : Int32)).toNatClampNeg))) else if a1 = 3 then (some (S.1 0 36)) else if a1 = 4 then (if (0 : Int32) < 0 ∨ 4 ≤ (0 : Int32).toNatClampNeg then none else (if (S.2 25 (0 : Int32).toNatClampNeg) = (0 : Int32) then (BX10_count_77 nF S (0 : Int32)) else (BX10_count_77 nF S (1 : Int32)))) else if a1 = 5 then (if (S.1 0 42) = (0 : Int32) then (some (0 : Int32)) else (some (1 : Int32))) else (some (S.1 0 5)))
set_option maxHeartbeats 4000000 in
set_option maxRecDepth 100000 in
theorem c_X10_count {cy : ClassId × ClassId} {ad : Nat → Nat} {D : va_G} {l : Launch} (nF : Nat) (S : PS) (a1 : Int32) (r : Int32) (hf : fX10_count nF S a1 = some r) : PMi cy GM ad D l yX10_count (wA yX10_count cX10_count 2 (some .int)) rmX10_count [vr 10 0, vi a1] S (fun x S' => x = r ∧ S' = S) := by
  refine PM.of (lv := [(0, vr 10 0), (1, vi a1)]) GM_ok (by decide) (Nat.le_of_ble_eq_true rfl) rfl (by simp) ?_
  intro p e s m args below meth c A hM
  rw [fX10_count] at hf
  obtain ⟨S0, hS⟩ : ∃ S0 : PS, S = S0 := ⟨S, rfl⟩
  rw [show (fun (x : Int32) (S' : PS) => x = r ∧ S' = S) = (fun x S' => x = r ∧ S' = S0) by rw [hS]]
  refine w_iln (q := 1) (n := 1) hM (dtab_at okX10_count 0 rfl) rfl rfl ?_
  by_cases hts1 : a1.toInt < 0 ∨ 6 < a1.toInt
  · refine w_tsOut (n := 142) hM (dtab_at okX10_count 1 rfl) hts1 (by decide) ?_
    rw [if_pos hts1] at hf
    refine w_bi (n := 144) hM (-2 : Int32) (dtab_at okX10_count 61 rfl) (by decide) rfl ?_
    exact r_i hM (dtab_at okX10_count 62 rfl) ⟨Option.some.inj hf, hS⟩
  · have htn1 := hts1
    obtain hts1 | hts1 | hts1 | hts1 | hts1 | hts1 | hts1 : a1 = 0 ∨ a1 = 1 ∨ a1 = 2 ∨ a1 = 3 ∨ a1 = 4 ∨ a1 = 5 ∨ a1 = 6 := sw0_7 hts1
    · refine w_tsIn (n := 44) (off := 43) hM (dtab_at okX10_count 1 rfl) (by rw [hts1]; decide) (by rw [hts1]; decide) (by rw [hts1]; rfl) (by decide) ?_
      rw [if_neg htn1, if_pos hts1] at hf
      refine w_aln (q := 0) (n := 45) hM (dtab_at okX10_count 2 rfl) rfl rfl ?_
      refine w_geti (C := RX10) (T := TX10) (i := 12) (n := 48) hM rfl (by decide) ly_X10 lkF_X10_161 (dtab_at okX10_count 3 rfl) rfl ?_
      exact r_i hM (dtab_at okX10_count 4 rfl) ⟨Option.some.inj hf, hS⟩
    · refine w_tsIn (n := 49) (off := 48) hM (dtab_at okX10_count 1 rfl) (by rw [hts1]; decide) (by rw [hts1]; decide) (by rw [hts1]; rfl) (by decide) ?_
      rw [if_neg htn1, if_neg (show ¬ a1 = 0 by rw [hts1]; decide), if_pos hts1] at hf
      refine w_aln (q := 0) (n := 50) hM (dtab_at okX10_count 5 rfl) rfl rfl ?_
      refine w_getr (C := RX10) (T := TX10) (i := 18) (k2 := 102) (q := 12) (n := 53) hM rfl (by decide) (fun _ => rfl) ly_X10 lkF_X10_51 (dtab_at okX10_count 6 rfl) rfl ?_
      refine w_iln (q := 1) (n := 54) hM (dtab_at okX10_count 7 rfl) rfl rfl ?_
      refine w_ic (n := 55) hM (1 : Int32) (dtab_at okX10_count 8 rfl) (by decide) rfl ?_
      refine w_isub (n := 56) hM (dtab_at okX10_count 9 rfl) rfl ?_
      by_cases hg56 : (a1 - (1 : Int32)) < 0 ∨ 2 ≤ (a1 - (1 : Int32)).toNatClampNeg
      · rw [if_pos hg56] at hf; cases hf
      rw [if_neg hg56] at hf
      refine w_ald (nn := 2) (n := 57) hM rfl hg56 (dtab_at okX10_count 10 rfl) rfl ?_
      exact r_i hM (dtab_at okX10_count 11 rfl) ⟨Option.some.inj hf, hS⟩
    · refine w_tsIn (n := 49) (off := 48) hM (dtab_at okX10_count 1 rfl) (by rw [hts1]; decide) (by rw [hts1]; decide) (by rw [hts1]; rfl) (by decide) ?_
      rw [if_neg htn1, if_neg (show ¬ a1 = 0 by rw [hts1]; decide), if_neg (show ¬ a1 = 1 by rw [hts1]; decide), if_pos hts1] at hf
      refine w_aln (q := 0) (n := 50) hM (dtab_at okX10_count 5 rfl) rfl rfl ?_
      refine w_getr (C := RX10) (T := TX10) (i := 18) (k2 := 102) (q := 12) (n := 53) hM rfl (by decide) (fun _ => rfl) ly_X10 lkF_X10_51 (dtab_at okX10_count 6 rfl) rfl ?_
      refine w_iln (q := 1) (n := 54) hM (dtab_at okX10_count 7 rfl) rfl rfl ?_
      refine w_ic (n := 55) hM (1 : Int32) (dtab_at okX10_count 8 rfl) (by decide) rfl ?_
      refine w_isub (n := 56) hM (dtab_at okX10_count 9 rfl) rfl ?_
      by_cases hg56 : (a1 - (1 : Int32)) < 0 ∨ 2 ≤ (a1 - (1 : Int32)).toNatClampNeg
      · rw [if_pos hg56] at hf; cases hf
      rw [if_neg hg56] at hf
      refine w_ald (nn := 2) (n := 57) hM rfl hg56 (dtab_at okX10_count 10 rfl) rfl ?_
      exact r_i hM (dtab_at okX10_count 11 rfl) ⟨Option.some.inj hf, hS⟩
    · refine w_tsIn (n := 58) (off := 57) hM (dtab_at okX10_count 1 rfl) (by rw [hts1]; decide) (by rw [hts1]; decide) (by rw [hts1]; rfl) (by decide) ?_
      rw [if_neg htn1, if_neg (show ¬ a1 = 0 by rw [hts1]; decide), if_neg (show ¬ a1 = 1 by rw [hts1]; decide), if_neg (show ¬ a1 = 2 by rw [hts1]; decide), if_pos hts1] at hf
      refine w_aln (q := 0) (n := 59) hM (dtab_at okX10_count 12 rfl) rfl rfl ?_
      refine w_geti (C := RX10) (T := TX10) (i := 36) (n := 62) hM rfl (by decide) ly_X10 lkF_X10_218 (dtab_at okX10_count 13 rfl) rfl ?_
      exact r_i hM (dtab_at okX10_count 14 rfl) ⟨Option.some.inj hf, hS⟩
    · refine w_tsIn (n := 63) (off := 62) hM (dtab_at okX10_count 1 rfl) (by rw [hts1]; decide) (by rw [hts1]; decide) (by rw [hts1]; rfl) (by decide) ?_
      rw [if_neg htn1, if_neg (show ¬ a1 = 0 by rw [hts1]; decide), if_neg (show ¬ a1 = 1 by rw [hts1]; decide), if_neg (show ¬ a1 = 2 by rw [hts1]; decide), if_neg (show ¬ a1 = 3 by rw [hts1]; decide), if_pos hts1] at hf
      refine w_aln (q := 0) (n := 64) hM (dtab_at okX10_count 15 rfl) rfl rfl ?_
      refine w_getr (C := RX10) (T := TX10) (i := 41) (k2 := 24) (q := 25) (n := 67) hM rfl (by decide) (fun _ => rfl) ly_X10 lkF_X10_114 (dtab_at okX10_count 16 rfl) rfl ?_
      refine w_ic (n := 68) hM (0 : Int32) (dtab_at okX10_count 17 rfl) (by decide) rfl ?_
      by_cases hg68 : (0 : Int32) < 0 ∨ 4 ≤ (0 : Int32).toNatClampNeg
      · rw [if_pos hg68] at hf; cases hf
      rw [if_neg hg68] at hf
      refine w_zld (nn := 4) (n := 69) hM rfl (by decide) hg68 (dtab_at okX10_count 18 rfl) rfl ?_
      refine w_if_eq (n := 76) (n2 := 72) hM (dtab_at okX10_count 19 rfl) (by decide) rfl (fun (h69 : (S.2 25 (0 : Int32).toNatClampNeg) = (0 : Int32)) => ?_) (fun (h69 : ¬ (S.2 25 (0 : Int32).toNatClampNeg) = (0 : Int32)) => ?_)
      · skip
        rw [if_pos h69] at hf
        refine w_ic (n := 77) hM (0 : Int32) (dtab_at okX10_count 22 rfl) (by decide) rfl ?_
        refine WW.lvs [0] (lv2 := [(0, vr 10 0)]) rfl ?_
        exact wBX10_count_77 hM nF S0 r S (0 : Int32) hS hf
      · skip
        rw [if_neg h69] at hf
        refine w_ic (n := 73) hM (1 : Int32) (dtab_at okX10_count 20 rfl) (by decide) rfl ?_
        refine w_goto (n := 77) hM (dtab_at okX10_count 21 rfl) (by decide) ?_
        refine WW.lvs [0] (lv2 := [(0, vr 10 0)]) rfl ?_
        exact wBX10_count_77 hM nF S0 r S (1 : Int32) hS hf
    · refine w_tsIn (n := 124) (off := 123) hM (dtab_at okX10_count 1 rfl) (by rw [hts1]; decide) (by rw [hts1]; decide) (by rw [hts1]; rfl) (by decide) ?_
      rw [if_neg htn1, if_neg (show ¬ a1 = 0 by rw [hts1]; decide), if_neg (show ¬ a1 = 1 by rw [hts1]; decide), if_neg (show ¬ a1 = 2 by rw [hts1]; decide), if_neg (show ¬ a1 = 3 by rw [hts1]; decide), if_neg (show ¬ a1 = 4 by rw [hts1]; decide), if_pos hts1] at hf
      refine w_aln (q := 0) (n := 125) hM (dtab_at okX10_count 51 rfl) rfl rfl ?_
      refine w_geti (C := RX10) (T := TX10) (i := 42) (n := 128) hM rfl (by decide) ly_X10 lkF_X10_230 (dtab_at okX10_count 52 rfl) rfl ?_
      refine w_if_eq (n := 135) (n2 := 131) hM (dtab_at okX10_count 53 rfl) (by decide) rfl (fun (h128 : (S.1 0 42) = (0 : Int32)) => ?_) (fun (h128 : ¬ (S.1 0 42) = (0 : Int32)) => ?_)
      · skip
        rw [if_pos h128] at hf
        refine w_ic (n := 136) hM (0 : Int32) (dtab_at okX10_count 56 rfl) (by decide) rfl ?_
        exact r_i hM (dtab_at okX10_count 57 rfl) ⟨Option.some.inj hf, hS⟩
      · skip
        rw [if_neg h128] at hf
        refine w_ic (n := 132) hM (1 : Int32) (dtab_at okX10_count 54 rfl) (by decide) rfl ?_
        refine w_goto (n := 136) hM (dtab_at okX10_count 55 rfl) (by decide) ?_
        exact r_i hM (dtab_at okX10_count 57 rfl) ⟨Option.some.inj hf, hS⟩
    · refine w_tsIn (n := 137) (off := 136) hM (dtab_at okX10_count 1 rfl) (by rw [hts1]; decide) (by rw [hts1]; decide) (by rw [hts1]; rfl) (by decide) ?_
      rw [if_neg htn1, if_neg (show ¬ a1 = 0 by rw [hts1]; decide), if_neg (show ¬ a1 = 1 by rw [hts1]; decide), if_neg (show ¬ a1 = 2 by rw [hts1]; decide), if_neg (show ¬ a1 = 3 by rw [hts1]; decide), if_neg (show ¬ a1 = 4 by rw [hts1]; decide), if_neg (show ¬ a1 = 5 by rw [hts1]; decide)] at hf
      refine w_aln (q := 0) (n := 138) hM (dtab_at okX10_count 58 rfl) rfl rfl ?_
      refine w_geti (C := RX10) (T := TX10) (i := 5) (n := 141) hM rfl (by decide) ly_X10 lkF_X10_117 (dtab_at okX10_count 59 rfl) rfl ?_
      exact r_i hM (dtab_at okX10_count 60 rfl) ⟨Option.some.inj hf, hS⟩
def BX10_digest_167 (nF : Nat) (k33 : PS → Int64 → Int32 → Option (Int64 × PS)) (S : PS) (v1 : Int64) (v3 : Int32) : Option (Int64 × PS) := (k33 S v1 (v3 + (1 : Int32)))
set_option maxHeartbeats 4000000 in
set_option maxRecDepth 100000 in
theorem wBX10_digest_167 {cy : ClassId × ClassId} {ad : Nat → Nat} {D : va_G} {p : Program} {l : Launch} {e : Env} {s : State} {m : MethodId} {args : Array Value} {below : List Frame} {meth : Method} {c : Code} {A : Nat → Prop} (hM : MX cy GM ad D p s m args meth c cX10_digest 6 RX10 (some .long) A) (nF : Nat) (r : Int64 × PS) (k33 : PS → Int64 → Int32 → Option (Int64 × PS)) (hk33 : ∀ (S : PS) (v1 : Int64) (v3 : Int32), k33 S v1 v3 = some r → WW cy GM ad D p l e rmX10_digest s m args below meth c 6 A (pol (fun x S' => (x, S') = r)) 33 [(0, vr 10 0), (1, vl v1), (3, vi v3)] [] S) (S : PS) (v1 : Int64) (v3 : Int32) (hf : BX10_digest_167 nF k33 S v1 v3 = some r) : WW cy GM ad D p l e rmX10_digest s m args below meth c 6 A (pol (fun x S' => (x, S') = r)) 167 [(0, vr 10 0), (1, vl v1), (3, vi v3)] [] S := by
  rw [BX10_digest_167] at hf
  refine w_iinc (q := 2) (n := 170) (v := (v3 + (1 : Int32))) (lv' := [(3, vi (v3 + (1 : Int32))), (0, vr 10 0), (1, vl v1)]) hM (dtab_at okX10_digest 95 rfl) rfl rfl (by decide) rfl rfl ?_
  refine w_goto (n := 33) hM (dtab_at okX10_digest 96 rfl) (by decide) ?_
  refine WW.lvs [1, 2, 0] (lv2 := [(0, vr 10 0), (1, vl v1), (3, vi (v3 + (1 : Int32)))]) rfl ?_
  exact hk33 S v1 (v3 + (1 : Int32)) hf
def BX10_digest_161 (nF : Nat) (k33 : PS → Int64 → Int32 → Option (Int64 × PS)) (k117 : PS → Int64 → Int32 → Int32 → Option (Int64 × PS)) (S : PS) (v1 : Int64) (v3 : Int32) (v4 : Int32) : Option (Int64 × PS) := (k117 S v1 v3 (v4 + (1 : Int32)))
set_option maxHeartbeats 4000000 in
set_option maxRecDepth 100000 in
theorem wBX10_digest_161 {cy : ClassId × ClassId} {ad : Nat → Nat} {D : va_G} {p : Program} {l : Launch} {e : Env} {s : State} {m : MethodId} {args : Array Value} {below : List Frame} {meth : Method} {c : Code} {A : Nat → Prop} (hM : MX cy GM ad D p s m args meth c cX10_digest 6 RX10 (some .long) A) (nF : Nat) (r : Int64 × PS) (k33 : PS → Int64 → Int32 → Option (Int64 × PS)) (k117 : PS → Int64 → Int32 → Int32 → Option (Int64 × PS)) (hk33 : ∀ (S : PS) (v1 : Int64) (v3 : Int32), k33 S v1 v3 = some r → WW cy GM ad D p l e rmX10_digest s m args below meth c 6 A (pol (fun x S' => (x, S') = r)) 33 [(0, vr 10 0), (1, vl v1), (3, vi v3)] [] S) (hk117 : ∀ (S : PS) (v1 : Int64) (v3 : Int32) (v4 : Int32), k117 S v1 v3 v4 = some r → WW cy GM ad D p l e rmX10_digest s m args below meth c 6 A (pol (fun x S' => (x, S') = r)) 117 [(0, vr 10 0), (1, vl v1), (3, vi v3), (4, vi v4)] [] S) (S : PS) (v1 : Int64) (v3 : Int32) (v4 : Int32) (hf : BX10_digest_161 nF k33 k117 S v1 v3 v4 = some r) : WW cy GM ad D p l e rmX10_digest s m args below meth c 6 A (pol (fun x S' => (x, S') = r)) 161 [(0, vr 10 0), (1, vl v1), (3, vi v3), (4, vi v4)] [] S := by
  rw [BX10_digest_161] at hf
  refine w_iinc (q := 3) (n := 164) (v := (v4 + (1 : Int32))) (lv' := [(4, vi (v4 + (1 : Int32))), (0, vr 10 0), (1, vl v1), (3, vi v3)]) hM (dtab_at okX10_digest 93 rfl) rfl rfl (by decide) rfl rfl ?_
  refine w_goto (n := 117) hM (dtab_at okX10_digest 94 rfl) (by decide) ?_
  refine WW.lvs [1, 2, 3, 0] (lv2 := [(0, vr 10 0), (1, vl v1), (3, vi v3), (4, vi (v4 + (1 : Int32)))]) rfl ?_
  exact hk117 S v1 v3 (v4 + (1 : Int32)) hf
def LX10_digest_131 (nF : Nat) (k33 : PS → Int64 → Int32 → Option (Int64 × PS)) (k117 : PS → Int64 → Int32 → Int32 → Option (Int64 × PS)) : Nat → PS → Int64 → Int32 → Int32 → Int32 → Option (Int64 × PS)
  | 0, _, _, _, _, _ => none
  | n + 1, S, v1, v3, v4, v5 => (if (6 : Int32) ≤ v5 then (BX10_digest_161 nF k33 k117 S v1 v3 v4) else ((fX10_about nF S v3 v4 v5).bind fun r0 => (LX10_digest_131 nF k33 k117 n r0.2 ((31 * v1) + r0.1.toInt64) v3 v4 (v5 + (1 : Int32)))))
set_option maxHeartbeats 4000000 in
set_option maxRecDepth 100000 in
theorem wLX10_digest_131 {cy : ClassId × ClassId} {ad : Nat → Nat} {D : va_G} {p : Program} {l : Launch} {e : Env} {s : State} {m : MethodId} {args : Array Value} {below : List Frame} {meth : Method} {c : Code} {A : Nat → Prop} (hM : MX cy GM ad D p s m args meth c cX10_digest 6 RX10 (some .long) A) (nF : Nat) (r : Int64 × PS) (k33 : PS → Int64 → Int32 → Option (Int64 × PS)) (k117 : PS → Int64 → Int32 → Int32 → Option (Int64 × PS)) (hk33 : ∀ (S : PS) (v1 : Int64) (v3 : Int32), k33 S v1 v3 = some r → WW cy GM ad D p l e rmX10_digest s m args below meth c 6 A (pol (fun x S' => (x, S') = r)) 33 [(0, vr 10 0), (1, vl v1), (3, vi v3)] [] S) (hk117 : ∀ (S : PS) (v1 : Int64) (v3 : Int32) (v4 : Int32), k117 S v1 v3 v4 = some r → WW cy GM ad D p l e rmX10_digest s m args below meth c 6 A (pol (fun x S' => (x, S') = r)) 117 [(0, vr 10 0), (1, vl v1), (3, vi v3), (4, vi v4)] [] S) : ∀ (n : Nat) (S : PS) (v1 : Int64) (v3 : Int32) (v4 : Int32) (v5 : Int32), LX10_digest_131 nF k33 k117 n S v1 v3 v4 v5 = some r → WW cy GM ad D p l e rmX10_digest s m args below meth c 6 A (pol (fun x S' => (x, S') = r)) 131 [(0, vr 10 0), (1, vl v1), (3, vi v3), (4, vi v4), (5, vi v5)] [] S := by
  intro n
  induction n with
  | zero => intro S v1 v3 v4 v5 hf; rw [LX10_digest_131] at hf; cases hf
  | succ n ih =>
    intro S v1 v3 v4 v5 hf
    rw [LX10_digest_131] at hf
    refine w_il (q := 4) (n := 133) hM (dtab_at okX10_digest 77 rfl) rfl rfl ?_
    refine w_bi (n := 135) hM (6 : Int32) (dtab_at okX10_digest 78 rfl) (by decide) rfl ?_
    refine w_ic_ge (n := 161) (n2 := 138) hM (dtab_at okX10_digest 79 rfl) (by decide) rfl (fun (h135 : (6 : Int32) ≤ v5) => ?_) (fun (h135 : ¬ (6 : Int32) ≤ v5) => ?_)
    · skip
      rw [if_pos h135] at hf
      refine WW.lvs [0, 1, 2, 3] (lv2 := [(0, vr 10 0), (1, vl v1), (3, vi v3), (4, vi v4)]) rfl ?_
      exact wBX10_digest_161 hM nF r k33 k117 hk33 hk117 S v1 v3 v4 hf
    · skip
      rw [if_neg h135] at hf
      refine w_ldc2 (n := 141) (v := 31) hM (dtab_at okX10_digest 80 rfl) lkD_X10_239 rfl ?_
      refine w_lln (q := 1) (n := 142) hM (dtab_at okX10_digest 81 rfl) rfl rfl ?_
      refine w_lmul (n := 143) hM (dtab_at okX10_digest 82 rfl) rfl ?_
      refine w_aln (q := 0) (n := 144) hM (dtab_at okX10_digest 83 rfl) rfl rfl ?_
      refine w_iln (q := 2) (n := 145) hM (dtab_at okX10_digest 84 rfl) rfl rfl ?_
      refine w_il (q := 3) (n := 147) hM (dtab_at okX10_digest 85 rfl) rfl rfl ?_
      refine w_il (q := 4) (n := 149) hM (dtab_at okX10_digest 86 rfl) rfl rfl ?_
      obtain ⟨r0, hr0, hf⟩ := Option.bind_eq_some_iff.mp hf
      refine w_callVi (n := 152) (As := [vi v3, vi v4, vi v5]) (rest := [vl (31 * v1)]) (k := 10) (j := 0) (C := RX10) (T := TX10) (N := 43) hM (c_X10_about nF S v3 v4 v5 r0 hr0) lkM_X10_250 mv_X10_about (by decide) rfl (by decide) rfl (Nat.le_of_ble_eq_true rfl) rfl (dtab_at okX10_digest 87 rfl) rfl (fun x0 S0 hp0 => ?_)
      have hx_ := congrArg Prod.fst hp0
      have hs_ := congrArg Prod.snd hp0
      dsimp only at hx_ hs_
      subst hx_
      subst hs_
      refine w_i2l (n := 153) hM (dtab_at okX10_digest 88 rfl) rfl ?_
      refine w_ladd (n := 154) hM (dtab_at okX10_digest 89 rfl) rfl ?_
      refine w_lsn (n := 155) (lv' := [(1, vl ((31 * v1) + r0.1.toInt64)), (0, vr 10 0), (3, vi v3), (4, vi v4), (5, vi v5)]) hM (dtab_at okX10_digest 90 rfl) (by decide) rfl rfl ?_
      refine w_iinc (q := 4) (n := 158) (v := (v5 + (1 : Int32))) (lv' := [(5, vi (v5 + (1 : Int32))), (1, vl ((31 * v1) + r0.1.toInt64)), (0, vr 10 0), (3, vi v3), (4, vi v4)]) hM (dtab_at okX10_digest 91 rfl) rfl rfl (by decide) rfl rfl ?_
      refine w_goto (n := 131) hM (dtab_at okX10_digest 92 rfl) (by decide) ?_
      refine WW.lvs [2, 1, 3, 4, 0] (lv2 := [(0, vr 10 0), (1, vl ((31 * v1) + r0.1.toInt64)), (3, vi v3), (4, vi v4), (5, vi (v5 + (1 : Int32)))]) rfl ?_
      exact ih r0.2 ((31 * v1) + r0.1.toInt64) v3 v4 (v5 + (1 : Int32)) hf
def LX10_digest_117 (nF : Nat) (k33 : PS → Int64 → Int32 → Option (Int64 × PS)) : Nat → PS → Int64 → Int32 → Int32 → Option (Int64 × PS)
  | 0, _, _, _, _ => none
  | n + 1, S, v1, v3, v4 => (if v3 < 0 ∨ 2 ≤ v3.toNatClampNeg then none else (if (S.2 12 v3.toNatClampNeg) ≤ v4 then (BX10_digest_167 nF k33 S v1 v3) else (LX10_digest_131 nF k33 (LX10_digest_117 nF k33 n) nF S v1 v3 v4 (0 : Int32))))
set_option maxHeartbeats 4000000 in
set_option maxRecDepth 100000 in
theorem wLX10_digest_117 {cy : ClassId × ClassId} {ad : Nat → Nat} {D : va_G} {p : Program} {l : Launch} {e : Env} {s : State} {m : MethodId} {args : Array Value} {below : List Frame} {meth : Method} {c : Code} {A : Nat → Prop} (hM : MX cy GM ad D p s m args meth c cX10_digest 6 RX10 (some .long) A) (nF : Nat) (r : Int64 × PS) (k33 : PS → Int64 → Int32 → Option (Int64 × PS)) (hk33 : ∀ (S : PS) (v1 : Int64) (v3 : Int32), k33 S v1 v3 = some r → WW cy GM ad D p l e rmX10_digest s m args below meth c 6 A (pol (fun x S' => (x, S') = r)) 33 [(0, vr 10 0), (1, vl v1), (3, vi v3)] [] S) : ∀ (n : Nat) (S : PS) (v1 : Int64) (v3 : Int32) (v4 : Int32), LX10_digest_117 nF k33 n S v1 v3 v4 = some r → WW cy GM ad D p l e rmX10_digest s m args below meth c 6 A (pol (fun x S' => (x, S') = r)) 117 [(0, vr 10 0), (1, vl v1), (3, vi v3), (4, vi v4)] [] S := by
  intro n
  induction n with
  | zero => intro S v1 v3 v4 hf; rw [LX10_digest_117] at hf; cases hf
  | succ n ih =>
    intro S v1 v3 v4 hf
    rw [LX10_digest_117] at hf
    refine w_il (q := 3) (n := 119) hM (dtab_at okX10_digest 69 rfl) rfl rfl ?_
    refine w_aln (q := 0) (n := 120) hM (dtab_at okX10_digest 70 rfl) rfl rfl ?_
    refine w_getr (C := RX10) (T := TX10) (i := 18) (k2 := 102) (q := 12) (n := 123) hM rfl (by decide) (fun _ => rfl) ly_X10 lkF_X10_51 (dtab_at okX10_digest 71 rfl) rfl ?_
    refine w_iln (q := 2) (n := 124) hM (dtab_at okX10_digest 72 rfl) rfl rfl ?_
    by_cases hg124 : v3 < 0 ∨ 2 ≤ v3.toNatClampNeg
    · rw [if_pos hg124] at hf; cases hf
    rw [if_neg hg124] at hf
    refine w_ald (nn := 2) (n := 125) hM rfl hg124 (dtab_at okX10_digest 73 rfl) rfl ?_
    refine w_ic_ge (n := 167) (n2 := 128) hM (dtab_at okX10_digest 74 rfl) (by decide) rfl (fun (h125 : (S.2 12 v3.toNatClampNeg) ≤ v4) => ?_) (fun (h125 : ¬ (S.2 12 v3.toNatClampNeg) ≤ v4) => ?_)
    · skip
      rw [if_pos h125] at hf
      refine WW.lvs [0, 1, 2] (lv2 := [(0, vr 10 0), (1, vl v1), (3, vi v3)]) rfl ?_
      exact wBX10_digest_167 hM nF r k33 hk33 S v1 v3 hf
    · skip
      rw [if_neg h125] at hf
      refine w_ic (n := 129) hM (0 : Int32) (dtab_at okX10_digest 75 rfl) (by decide) rfl ?_
      refine w_is (n := 131) (lv' := [(5, vi (0 : Int32)), (0, vr 10 0), (1, vl v1), (3, vi v3), (4, vi v4)]) hM (dtab_at okX10_digest 76 rfl) (by decide) rfl rfl ?_
      refine WW.lvs [1, 2, 3, 4, 0] (lv2 := [(0, vr 10 0), (1, vl v1), (3, vi v3), (4, vi v4), (5, vi (0 : Int32))]) rfl ?_
      exact wLX10_digest_131 hM nF r k33 (LX10_digest_117 nF k33 n) hk33 ih nF S v1 v3 v4 (0 : Int32) hf
def BX10_digest_101 (nF : Nat) (k33 : PS → Int64 → Int32 → Option (Int64 × PS)) (S : PS) (v1 : Int64) (v3 : Int32) : Option (Int64 × PS) := ((fX10_match nF S v3).bind fun r0 => (LX10_digest_117 nF k33 nF r0.2 ((31 * v1) + r0.1.toInt64) v3 (0 : Int32)))
set_option maxHeartbeats 4000000 in
set_option maxRecDepth 100000 in
theorem wBX10_digest_101 {cy : ClassId × ClassId} {ad : Nat → Nat} {D : va_G} {p : Program} {l : Launch} {e : Env} {s : State} {m : MethodId} {args : Array Value} {below : List Frame} {meth : Method} {c : Code} {A : Nat → Prop} (hM : MX cy GM ad D p s m args meth c cX10_digest 6 RX10 (some .long) A) (nF : Nat) (r : Int64 × PS) (k33 : PS → Int64 → Int32 → Option (Int64 × PS)) (hk33 : ∀ (S : PS) (v1 : Int64) (v3 : Int32), k33 S v1 v3 = some r → WW cy GM ad D p l e rmX10_digest s m args below meth c 6 A (pol (fun x S' => (x, S') = r)) 33 [(0, vr 10 0), (1, vl v1), (3, vi v3)] [] S) (S : PS) (v1 : Int64) (v3 : Int32) (hf : BX10_digest_101 nF k33 S v1 v3 = some r) : WW cy GM ad D p l e rmX10_digest s m args below meth c 6 A (pol (fun x S' => (x, S') = r)) 101 [(0, vr 10 0), (1, vl v1), (3, vi v3)] [] S := by
  rw [BX10_digest_101] at hf
  refine w_ldc2 (n := 104) (v := 31) hM (dtab_at okX10_digest 58 rfl) lkD_X10_239 rfl ?_
  refine w_lln (q := 1) (n := 105) hM (dtab_at okX10_digest 59 rfl) rfl rfl ?_
  refine w_lmul (n := 106) hM (dtab_at okX10_digest 60 rfl) rfl ?_
  refine w_aln (q := 0) (n := 107) hM (dtab_at okX10_digest 61 rfl) rfl rfl ?_
  refine w_iln (q := 2) (n := 108) hM (dtab_at okX10_digest 62 rfl) rfl rfl ?_
  obtain ⟨r0, hr0, hf⟩ := Option.bind_eq_some_iff.mp hf
  refine w_callVi (n := 111) (As := [vi v3]) (rest := [vl (31 * v1)]) (k := 10) (j := 0) (C := RX10) (T := TX10) (N := 43) hM (c_X10_match nF S v3 r0 hr0) lkM_X10_247 mv_X10_match (by decide) rfl (by decide) rfl (Nat.le_of_ble_eq_true rfl) rfl (dtab_at okX10_digest 63 rfl) rfl (fun x0 S0 hp0 => ?_)
  have hx_ := congrArg Prod.fst hp0
  have hs_ := congrArg Prod.snd hp0
  dsimp only at hx_ hs_
  subst hx_
  subst hs_
  refine w_i2l (n := 112) hM (dtab_at okX10_digest 64 rfl) rfl ?_
  refine w_ladd (n := 113) hM (dtab_at okX10_digest 65 rfl) rfl ?_
  refine w_lsn (n := 114) (lv' := [(1, vl ((31 * v1) + r0.1.toInt64)), (0, vr 10 0), (3, vi v3)]) hM (dtab_at okX10_digest 66 rfl) (by decide) rfl rfl ?_
  refine w_ic (n := 115) hM (0 : Int32) (dtab_at okX10_digest 67 rfl) (by decide) rfl ?_
  refine w_is (n := 117) (lv' := [(4, vi (0 : Int32)), (1, vl ((31 * v1) + r0.1.toInt64)), (0, vr 10 0), (3, vi v3)]) hM (dtab_at okX10_digest 68 rfl) (by decide) rfl rfl ?_
  refine WW.lvs [2, 1, 3, 0] (lv2 := [(0, vr 10 0), (1, vl ((31 * v1) + r0.1.toInt64)), (3, vi v3), (4, vi (0 : Int32))]) rfl ?_
  exact wLX10_digest_117 hM nF r k33 hk33 nF r0.2 ((31 * v1) + r0.1.toInt64) v3 (0 : Int32) hf
def LX10_digest_71 (nF : Nat) (k33 : PS → Int64 → Int32 → Option (Int64 × PS)) : Nat → PS → Int64 → Int32 → Int32 → Option (Int64 × PS)
  | 0, _, _, _, _ => none
  | n + 1, S, v1, v3, v4 => (if (S.1 0 9) ≤ v4 then (BX10_digest_101 nF k33 S v1 v3) else (if v4 < 0 ∨ 60 ≤ v4.toNatClampNeg then none else (LX10_digest_71 nF k33 n S ((31 * v1) + (S.2 8 v4.toNatClampNeg).toInt64) v3 (v4 + (1 : Int32)))))
set_option maxHeartbeats 4000000 in
set_option maxRecDepth 100000 in
theorem wLX10_digest_71 {cy : ClassId × ClassId} {ad : Nat → Nat} {D : va_G} {p : Program} {l : Launch} {e : Env} {s : State} {m : MethodId} {args : Array Value} {below : List Frame} {meth : Method} {c : Code} {A : Nat → Prop} (hM : MX cy GM ad D p s m args meth c cX10_digest 6 RX10 (some .long) A) (nF : Nat) (r : Int64 × PS) (k33 : PS → Int64 → Int32 → Option (Int64 × PS)) (hk33 : ∀ (S : PS) (v1 : Int64) (v3 : Int32), k33 S v1 v3 = some r → WW cy GM ad D p l e rmX10_digest s m args below meth c 6 A (pol (fun x S' => (x, S') = r)) 33 [(0, vr 10 0), (1, vl v1), (3, vi v3)] [] S) : ∀ (n : Nat) (S : PS) (v1 : Int64) (v3 : Int32) (v4 : Int32), LX10_digest_71 nF k33 n S v1 v3 v4 = some r → WW cy GM ad D p l e rmX10_digest s m args below meth c 6 A (pol (fun x S' => (x, S') = r)) 71 [(0, vr 10 0), (1, vl v1), (3, vi v3), (4, vi v4)] [] S := by
  intro n
  induction n with
  | zero => intro S v1 v3 v4 hf; rw [LX10_digest_71] at hf; cases hf
  | succ n ih =>
    intro S v1 v3 v4 hf
    rw [LX10_digest_71] at hf
    refine w_il (q := 3) (n := 73) hM (dtab_at okX10_digest 42 rfl) rfl rfl ?_
    refine w_aln (q := 0) (n := 74) hM (dtab_at okX10_digest 43 rfl) rfl rfl ?_
    refine w_geti (C := RX10) (T := TX10) (i := 9) (n := 77) hM rfl (by decide) ly_X10 lkF_X10_143 (dtab_at okX10_digest 44 rfl) rfl ?_
    refine w_ic_ge (n := 101) (n2 := 80) hM (dtab_at okX10_digest 45 rfl) (by decide) rfl (fun (h77 : (S.1 0 9) ≤ v4) => ?_) (fun (h77 : ¬ (S.1 0 9) ≤ v4) => ?_)
    · skip
      rw [if_pos h77] at hf
      refine WW.lvs [0, 1, 2] (lv2 := [(0, vr 10 0), (1, vl v1), (3, vi v3)]) rfl ?_
      exact wBX10_digest_101 hM nF r k33 hk33 S v1 v3 hf
    · skip
      rw [if_neg h77] at hf
      refine w_ldc2 (n := 83) (v := 31) hM (dtab_at okX10_digest 46 rfl) lkD_X10_239 rfl ?_
      refine w_lln (q := 1) (n := 84) hM (dtab_at okX10_digest 47 rfl) rfl rfl ?_
      refine w_lmul (n := 85) hM (dtab_at okX10_digest 48 rfl) rfl ?_
      refine w_aln (q := 0) (n := 86) hM (dtab_at okX10_digest 49 rfl) rfl rfl ?_
      refine w_getr (C := RX10) (T := TX10) (i := 11) (k2 := 160) (q := 8) (n := 89) hM rfl (by decide) (fun _ => rfl) ly_X10 lkF_X10_32 (dtab_at okX10_digest 50 rfl) rfl ?_
      refine w_il (q := 3) (n := 91) hM (dtab_at okX10_digest 51 rfl) rfl rfl ?_
      by_cases hg91 : v4 < 0 ∨ 60 ≤ v4.toNatClampNeg
      · rw [if_pos hg91] at hf; cases hf
      rw [if_neg hg91] at hf
      refine w_ald (nn := 60) (n := 92) hM rfl hg91 (dtab_at okX10_digest 52 rfl) rfl ?_
      refine w_i2l (n := 93) hM (dtab_at okX10_digest 53 rfl) rfl ?_
      refine w_ladd (n := 94) hM (dtab_at okX10_digest 54 rfl) rfl ?_
      refine w_lsn (n := 95) (lv' := [(1, vl ((31 * v1) + (S.2 8 v4.toNatClampNeg).toInt64)), (0, vr 10 0), (3, vi v3), (4, vi v4)]) hM (dtab_at okX10_digest 55 rfl) (by decide) rfl rfl ?_
      refine w_iinc (q := 3) (n := 98) (v := (v4 + (1 : Int32))) (lv' := [(4, vi (v4 + (1 : Int32))), (1, vl ((31 * v1) + (S.2 8 v4.toNatClampNeg).toInt64)), (0, vr 10 0), (3, vi v3)]) hM (dtab_at okX10_digest 56 rfl) rfl rfl (by decide) rfl rfl ?_
      refine w_goto (n := 71) hM (dtab_at okX10_digest 57 rfl) (by decide) ?_
      refine WW.lvs [2, 1, 3, 0] (lv2 := [(0, vr 10 0), (1, vl ((31 * v1) + (S.2 8 v4.toNatClampNeg).toInt64)), (3, vi v3), (4, vi (v4 + (1 : Int32)))]) rfl ?_
      exact ih S ((31 * v1) + (S.2 8 v4.toNatClampNeg).toInt64) v3 (v4 + (1 : Int32)) hf
def BX10_digest_68 (nF : Nat) (k33 : PS → Int64 → Int32 → Option (Int64 × PS)) (S : PS) (v1 : Int64) (v3 : Int32) : Option (Int64 × PS) := (LX10_digest_71 nF k33 nF S v1 v3 (0 : Int32))
set_option maxHeartbeats 4000000 in
set_option maxRecDepth 100000 in
theorem wBX10_digest_68 {cy : ClassId × ClassId} {ad : Nat → Nat} {D : va_G} {p : Program} {l : Launch} {e : Env} {s : State} {m : MethodId} {args : Array Value} {below : List Frame} {meth : Method} {c : Code} {A : Nat → Prop} (hM : MX cy GM ad D p s m args meth c cX10_digest 6 RX10 (some .long) A) (nF : Nat) (r : Int64 × PS) (k33 : PS → Int64 → Int32 → Option (Int64 × PS)) (hk33 : ∀ (S : PS) (v1 : Int64) (v3 : Int32), k33 S v1 v3 = some r → WW cy GM ad D p l e rmX10_digest s m args below meth c 6 A (pol (fun x S' => (x, S') = r)) 33 [(0, vr 10 0), (1, vl v1), (3, vi v3)] [] S) (S : PS) (v1 : Int64) (v3 : Int32) (hf : BX10_digest_68 nF k33 S v1 v3 = some r) : WW cy GM ad D p l e rmX10_digest s m args below meth c 6 A (pol (fun x S' => (x, S') = r)) 68 [(0, vr 10 0), (1, vl v1), (3, vi v3)] [] S := by
  rw [BX10_digest_68] at hf
  refine w_ic (n := 69) hM (0 : Int32) (dtab_at okX10_digest 40 rfl) (by decide) rfl ?_
  refine w_is (n := 71) (lv' := [(4, vi (0 : Int32)), (0, vr 10 0), (1, vl v1), (3, vi v3)]) hM (dtab_at okX10_digest 41 rfl) (by decide) rfl rfl ?_
  refine WW.lvs [1, 2, 3, 0] (lv2 := [(0, vr 10 0), (1, vl v1), (3, vi v3), (4, vi (0 : Int32))]) rfl ?_
  exact wLX10_digest_71 hM nF r k33 hk33 nF S v1 v3 (0 : Int32) hf
def LX10_digest_41 (nF : Nat) (k33 : PS → Int64 → Int32 → Option (Int64 × PS)) : Nat → PS → Int64 → Int32 → Int32 → Option (Int64 × PS)
  | 0, _, _, _, _ => none
  | n + 1, S, v1, v3, v4 => (if (4 : Int32) ≤ v4 then (BX10_digest_68 nF k33 S v1 v3) else ((fX10_run nF S v3 v4).bind fun r0 => (LX10_digest_41 nF k33 n r0.2 ((31 * v1) + r0.1.toInt64) v3 (v4 + (1 : Int32)))))
set_option maxHeartbeats 4000000 in
set_option maxRecDepth 100000 in
theorem wLX10_digest_41 {cy : ClassId × ClassId} {ad : Nat → Nat} {D : va_G} {p : Program} {l : Launch} {e : Env} {s : State} {m : MethodId} {args : Array Value} {below : List Frame} {meth : Method} {c : Code} {A : Nat → Prop} (hM : MX cy GM ad D p s m args meth c cX10_digest 6 RX10 (some .long) A) (nF : Nat) (r : Int64 × PS) (k33 : PS → Int64 → Int32 → Option (Int64 × PS)) (hk33 : ∀ (S : PS) (v1 : Int64) (v3 : Int32), k33 S v1 v3 = some r → WW cy GM ad D p l e rmX10_digest s m args below meth c 6 A (pol (fun x S' => (x, S') = r)) 33 [(0, vr 10 0), (1, vl v1), (3, vi v3)] [] S) : ∀ (n : Nat) (S : PS) (v1 : Int64) (v3 : Int32) (v4 : Int32), LX10_digest_41 nF k33 n S v1 v3 v4 = some r → WW cy GM ad D p l e rmX10_digest s m args below meth c 6 A (pol (fun x S' => (x, S') = r)) 41 [(0, vr 10 0), (1, vl v1), (3, vi v3), (4, vi v4)] [] S := by
  intro n
  induction n with
  | zero => intro S v1 v3 v4 hf; rw [LX10_digest_41] at hf; cases hf
  | succ n ih =>
    intro S v1 v3 v4 hf
    rw [LX10_digest_41] at hf
    refine w_il (q := 3) (n := 43) hM (dtab_at okX10_digest 25 rfl) rfl rfl ?_
    refine w_ic (n := 44) hM (4 : Int32) (dtab_at okX10_digest 26 rfl) (by decide) rfl ?_
    refine w_ic_ge (n := 68) (n2 := 47) hM (dtab_at okX10_digest 27 rfl) (by decide) rfl (fun (h44 : (4 : Int32) ≤ v4) => ?_) (fun (h44 : ¬ (4 : Int32) ≤ v4) => ?_)
    · skip
      rw [if_pos h44] at hf
      refine WW.lvs [0, 1, 2] (lv2 := [(0, vr 10 0), (1, vl v1), (3, vi v3)]) rfl ?_
      exact wBX10_digest_68 hM nF r k33 hk33 S v1 v3 hf
    · skip
      rw [if_neg h44] at hf
      refine w_ldc2 (n := 50) (v := 31) hM (dtab_at okX10_digest 28 rfl) lkD_X10_239 rfl ?_
      refine w_lln (q := 1) (n := 51) hM (dtab_at okX10_digest 29 rfl) rfl rfl ?_
      refine w_lmul (n := 52) hM (dtab_at okX10_digest 30 rfl) rfl ?_
      refine w_aln (q := 0) (n := 53) hM (dtab_at okX10_digest 31 rfl) rfl rfl ?_
      refine w_iln (q := 2) (n := 54) hM (dtab_at okX10_digest 32 rfl) rfl rfl ?_
      refine w_il (q := 3) (n := 56) hM (dtab_at okX10_digest 33 rfl) rfl rfl ?_
      obtain ⟨r0, hr0, hf⟩ := Option.bind_eq_some_iff.mp hf
      refine w_callVi (n := 59) (As := [vi v3, vi v4]) (rest := [vl (31 * v1)]) (k := 10) (j := 0) (C := RX10) (T := TX10) (N := 43) hM (c_X10_run nF S v3 v4 r0 hr0) lkM_X10_244 mv_X10_run (by decide) rfl (by decide) rfl (Nat.le_of_ble_eq_true rfl) rfl (dtab_at okX10_digest 34 rfl) rfl (fun x0 S0 hp0 => ?_)
      have hx_ := congrArg Prod.fst hp0
      have hs_ := congrArg Prod.snd hp0
      dsimp only at hx_ hs_
      subst hx_
      subst hs_
      refine w_i2l (n := 60) hM (dtab_at okX10_digest 35 rfl) rfl ?_
      refine w_ladd (n := 61) hM (dtab_at okX10_digest 36 rfl) rfl ?_
      refine w_lsn (n := 62) (lv' := [(1, vl ((31 * v1) + r0.1.toInt64)), (0, vr 10 0), (3, vi v3), (4, vi v4)]) hM (dtab_at okX10_digest 37 rfl) (by decide) rfl rfl ?_
      refine w_iinc (q := 3) (n := 65) (v := (v4 + (1 : Int32))) (lv' := [(4, vi (v4 + (1 : Int32))), (1, vl ((31 * v1) + r0.1.toInt64)), (0, vr 10 0), (3, vi v3)]) hM (dtab_at okX10_digest 38 rfl) rfl rfl (by decide) rfl rfl ?_
      refine w_goto (n := 41) hM (dtab_at okX10_digest 39 rfl) (by decide) ?_
      refine WW.lvs [2, 1, 3, 0] (lv2 := [(0, vr 10 0), (1, vl ((31 * v1) + r0.1.toInt64)), (3, vi v3), (4, vi (v4 + (1 : Int32)))]) rfl ?_
      exact ih r0.2 ((31 * v1) + r0.1.toInt64) v3 (v4 + (1 : Int32)) hf
def LX10_digest_33 (nF : Nat) : Nat → PS → Int64 → Int32 → Option (Int64 × PS)
  | 0, _, _, _ => none
  | n + 1, S, v1, v3 => (if (2 : Int32) ≤ v3 then (some (v1, S)) else (LX10_digest_41 nF (LX10_digest_33 nF n) nF S v1 v3 (0 : Int32)))
set_option maxHeartbeats 4000000 in
set_option maxRecDepth 100000 in
theorem wLX10_digest_33 {cy : ClassId × ClassId} {ad : Nat → Nat} {D : va_G} {p : Program} {l : Launch} {e : Env} {s : State} {m : MethodId} {args : Array Value} {below : List Frame} {meth : Method} {c : Code} {A : Nat → Prop} (hM : MX cy GM ad D p s m args meth c cX10_digest 6 RX10 (some .long) A) (nF : Nat) (r : Int64 × PS) : ∀ (n : Nat) (S : PS) (v1 : Int64) (v3 : Int32), LX10_digest_33 nF n S v1 v3 = some r → WW cy GM ad D p l e rmX10_digest s m args below meth c 6 A (pol (fun x S' => (x, S') = r)) 33 [(0, vr 10 0), (1, vl v1), (3, vi v3)] [] S := by
  intro n
  induction n with
  | zero => intro S v1 v3 hf; rw [LX10_digest_33] at hf; cases hf
  | succ n ih =>
    intro S v1 v3 hf
    rw [LX10_digest_33] at hf
    refine w_iln (q := 2) (n := 34) hM (dtab_at okX10_digest 20 rfl) rfl rfl ?_
    refine w_ic (n := 35) hM (2 : Int32) (dtab_at okX10_digest 21 rfl) (by decide) rfl ?_
    refine w_ic_ge (n := 173) (n2 := 38) hM (dtab_at okX10_digest 22 rfl) (by decide) rfl (fun (h35 : (2 : Int32) ≤ v3) => ?_) (fun (h35 : ¬ (2 : Int32) ≤ v3) => ?_)
    · skip
      rw [if_pos h35] at hf
      refine w_lln (q := 1) (n := 174) hM (dtab_at okX10_digest 97 rfl) rfl rfl ?_
      exact r_l hM (dtab_at okX10_digest 98 rfl) (Option.some.inj hf)
    · skip
      rw [if_neg h35] at hf
      refine w_ic (n := 39) hM (0 : Int32) (dtab_at okX10_digest 23 rfl) (by decide) rfl ?_
      refine w_is (n := 41) (lv' := [(4, vi (0 : Int32)), (0, vr 10 0), (1, vl v1), (3, vi v3)]) hM (dtab_at okX10_digest 24 rfl) (by decide) rfl rfl ?_
      refine WW.lvs [1, 2, 3, 0] (lv2 := [(0, vr 10 0), (1, vl v1), (3, vi v3), (4, vi (0 : Int32))]) rfl ?_
      exact wLX10_digest_41 hM nF r (LX10_digest_33 nF n) ih nF S v1 v3 (0 : Int32) hf
def BX10_digest_31 (nF : Nat) (S : PS) (v1 : Int64) : Option (Int64 × PS) := (LX10_digest_33 nF nF S v1 (0 : Int32))
set_option maxHeartbeats 4000000 in
set_option maxRecDepth 100000 in
theorem wBX10_digest_31 {cy : ClassId × ClassId} {ad : Nat → Nat} {D : va_G} {p : Program} {l : Launch} {e : Env} {s : State} {m : MethodId} {args : Array Value} {below : List Frame} {meth : Method} {c : Code} {A : Nat → Prop} (hM : MX cy GM ad D p s m args meth c cX10_digest 6 RX10 (some .long) A) (nF : Nat) (r : Int64 × PS) (S : PS) (v1 : Int64) (hf : BX10_digest_31 nF S v1 = some r) : WW cy GM ad D p l e rmX10_digest s m args below meth c 6 A (pol (fun x S' => (x, S') = r)) 31 [(0, vr 10 0), (1, vl v1)] [] S := by
  rw [BX10_digest_31] at hf
  refine w_ic (n := 32) hM (0 : Int32) (dtab_at okX10_digest 18 rfl) (by decide) rfl ?_
  refine w_isn (n := 33) (lv' := [(3, vi (0 : Int32)), (0, vr 10 0), (1, vl v1)]) hM (dtab_at okX10_digest 19 rfl) (by decide) rfl rfl ?_
  refine WW.lvs [1, 2, 0] (lv2 := [(0, vr 10 0), (1, vl v1), (3, vi (0 : Int32))]) rfl ?_
  exact wLX10_digest_33 hM nF r nF S v1 (0 : Int32) hf
def LX10_digest_6 (nF : Nat) : Nat → PS → Int64 → Int32 → Option (Int64 × PS)
  | 0, _, _, _ => none
  | n + 1, S, v1, v3 => (if (6 : Int32) ≤ v3 then (BX10_digest_31 nF S v1) else ((fX10_count nF S v3).bind fun r0 => (LX10_digest_6 nF n S ((31 * v1) + r0.toInt64) (v3 + (1 : Int32)))))
set_option maxHeartbeats 4000000 in
set_option maxRecDepth 100000 in
theorem wLX10_digest_6 {cy : ClassId × ClassId} {ad : Nat → Nat} {D : va_G} {p : Program} {l : Launch} {e : Env} {s : State} {m : MethodId} {args : Array Value} {below : List Frame} {meth : Method} {c : Code} {A : Nat → Prop} (hM : MX cy GM ad D p s m args meth c cX10_digest 6 RX10 (some .long) A) (nF : Nat) (r : Int64 × PS) : ∀ (n : Nat) (S : PS) (v1 : Int64) (v3 : Int32), LX10_digest_6 nF n S v1 v3 = some r → WW cy GM ad D p l e rmX10_digest s m args below meth c 6 A (pol (fun x S' => (x, S') = r)) 6 [(0, vr 10 0), (1, vl v1), (3, vi v3)] [] S := by
  intro n
  induction n with
  | zero => intro S v1 v3 hf; rw [LX10_digest_6] at hf; cases hf
  | succ n ih =>
    intro S v1 v3 hf
    rw [LX10_digest_6] at hf
    refine w_iln (q := 2) (n := 7) hM (dtab_at okX10_digest 4 rfl) rfl rfl ?_
    refine w_bi (n := 9) hM (6 : Int32) (dtab_at okX10_digest 5 rfl) (by decide) rfl ?_
    refine w_ic_ge (n := 31) (n2 := 12) hM (dtab_at okX10_digest 6 rfl) (by decide) rfl (fun (h9 : (6 : Int32) ≤ v3) => ?_) (fun (h9 : ¬ (6 : Int32) ≤ v3) => ?_)
    · skip
      rw [if_pos h9] at hf
      refine WW.lvs [0, 1] (lv2 := [(0, vr 10 0), (1, vl v1)]) rfl ?_
      exact wBX10_digest_31 hM nF r S v1 hf
    · skip
      rw [if_neg h9] at hf
      refine w_ldc2 (n := 15) (v := 31) hM (dtab_at okX10_digest 7 rfl) lkD_X10_239 rfl ?_
      refine w_lln (q := 1) (n := 16) hM (dtab_at okX10_digest 8 rfl) rfl rfl ?_
      refine w_lmul (n := 17) hM (dtab_at okX10_digest 9 rfl) rfl ?_
      refine w_aln (q := 0) (n := 18) hM (dtab_at okX10_digest 10 rfl) rfl rfl ?_
      refine w_iln (q := 2) (n := 19) hM (dtab_at okX10_digest 11 rfl) rfl rfl ?_
      obtain ⟨r0, hr0, hf⟩ := Option.bind_eq_some_iff.mp hf
      refine w_callVi (n := 22) (As := [vi v3]) (rest := [vl (31 * v1)]) (k := 10) (j := 0) (C := RX10) (T := TX10) (N := 43) hM (c_X10_count nF S v3 r0 hr0) lkM_X10_241 mv_X10_count (by decide) rfl (by decide) rfl (Nat.le_of_ble_eq_true rfl) rfl (dtab_at okX10_digest 12 rfl) rfl (fun x0 S0 hp0 => ?_)
      obtain ⟨hx_, hs_⟩ := hp0
      have hs_ := hs_.symm
      have hx_ := hx_.symm
      subst hs_
      subst hx_
      refine w_i2l (n := 23) hM (dtab_at okX10_digest 13 rfl) rfl ?_
      refine w_ladd (n := 24) hM (dtab_at okX10_digest 14 rfl) rfl ?_
      refine w_lsn (n := 25) (lv' := [(1, vl ((31 * v1) + r0.toInt64)), (0, vr 10 0), (3, vi v3)]) hM (dtab_at okX10_digest 15 rfl) (by decide) rfl rfl ?_
      refine w_iinc (q := 2) (n := 28) (v := (v3 + (1 : Int32))) (lv' := [(3, vi (v3 + (1 : Int32))), (1, vl ((31 * v1) + r0.toInt64)), (0, vr 10 0)]) hM (dtab_at okX10_digest 16 rfl) rfl rfl (by decide) rfl rfl ?_
      refine w_goto (n := 6) hM (dtab_at okX10_digest 17 rfl) (by decide) ?_
      refine WW.lvs [2, 1, 0] (lv2 := [(0, vr 10 0), (1, vl ((31 * v1) + r0.toInt64)), (3, vi (v3 + (1 : Int32)))]) rfl ?_
      exact ih S ((31 * v1) + r0.toInt64) (v3 + (1 : Int32)) hf
def fX10_digest (nF : Nat) (S : PS) : Option (Int64 × PS) := (LX10_digest_6 nF nF S 17 (0 : Int32))
set_option maxHeartbeats 4000000 in
set_option maxRecDepth 100000 in
theorem c_X10_digest {cy : ClassId × ClassId} {ad : Nat → Nat} {D : va_G} {l : Launch} (nF : Nat) (S : PS) (r : Int64 × PS) (hf : fX10_digest nF S = some r) : PMl cy GM ad D l yX10_digest (wA yX10_digest cX10_digest 6 (some .long)) rmX10_digest [vr 10 0] S (fun x S' => (x, S') = r) := by
  refine PM.of (lv := [(0, vr 10 0)]) GM_ok (by decide) (Nat.le_of_ble_eq_true rfl) rfl (by simp) ?_
  intro p e s m args below meth c A hM
  rw [fX10_digest] at hf
  refine w_ldc2 (n := 3) (v := 17) hM (dtab_at okX10_digest 0 rfl) lkD_X10_237 rfl ?_
  refine w_lsn (n := 4) (lv' := [(1, vl 17), (0, vr 10 0)]) hM (dtab_at okX10_digest 1 rfl) (by decide) rfl rfl ?_
  refine w_ic (n := 5) hM (0 : Int32) (dtab_at okX10_digest 2 rfl) (by decide) rfl ?_
  refine w_isn (n := 6) (lv' := [(3, vi (0 : Int32)), (1, vl 17), (0, vr 10 0)]) hM (dtab_at okX10_digest 3 rfl) (by decide) rfl rfl ?_
  refine WW.lvs [2, 1, 0] (lv2 := [(0, vr 10 0), (1, vl 17), (3, vi (0 : Int32))]) rfl ?_
  exact wLX10_digest_6 hM nF r nF S 17 (0 : Int32) hf
