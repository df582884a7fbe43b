def LX4_choiceAt_2 (nF : Nat) : Nat → PS → Int32 → Int32 → Int32 → Option (Int32)
  | 0, _, _, _, _ => none
  | n + 1, S, v1, v2, v3 => (if (S.1 46 3) ≤ v3 then (some (-1 : Int32)) else (if (v2 &&& ((1 : Int32) <<< (v3 &&& 31))) = (0 : Int32) then ((fX4_withPair nF S v1 v3 v2).bind fun r0 => (if ((v1 * (32 : Int32)) + v2) < 0 ∨ 192 ≤ ((v1 * (32 : Int32)) + v2).toNatClampNeg then none else (if r0 = (S.2 47 ((v1 * (32 : Int32)) + v2).toNatClampNeg) then (some v3) else (LX4_choiceAt_2 nF n S v1 v2 (v3 + (1 : Int32)))))) else (LX4_choiceAt_2 nF n S v1 v2 (v3 + (1 : Int32)))))
set_option maxHeartbeats 4000000 in
set_option maxRecDepth 100000 in
theorem wLX4_choiceAt_2 {cy : ClassId × ClassId} {ad : Nat → Nat} {D : va_G} {p : Program} {l : Launch} {e : Env} {s : State} {m : MethodId} {args : Array Value} {below : List Frame} {meth : Method} {c : Code} {A : Nat → Prop} (hM : MX cy GC ad D p s m args meth c cX4_choiceAt 4 RX4 (some .int) A) (nF : Nat) (S0 : PS) (r : Int32) : ∀ (n : Nat) (S : PS) (v1 : Int32) (v2 : Int32) (v3 : Int32), S = S0 → LX4_choiceAt_2 nF n S v1 v2 v3 = some r → WW cy GC ad D p l e rmX4_choiceAt s m args below meth c 4 A (poi (fun x S' => x = r ∧ S' = S0)) 2 [(0, vr 4 44), (1, vi v1), (2, vi v2), (3, vi v3)] [] S := by
  intro n
  induction n with
  | zero => intro S v1 v2 v3 hS hf; rw [LX4_choiceAt_2] at hf; cases hf
  | succ n ih =>
    intro S v1 v2 v3 hS hf
    rw [LX4_choiceAt_2] at hf
    refine w_iln (q := 3) (n := 3) hM (dtab_at okX4_choiceAt 2 rfl) rfl rfl ?_
    refine w_aln (q := 0) (n := 4) hM (dtab_at okX4_choiceAt 3 rfl) rfl rfl ?_
    refine w_getr (C := RX4) (T := TX4) (i := 1) (k2 := 2) (q := 46) (n := 7) hM rfl (by decide) (fun _ => rfl) ly_X4 lkF_X4_18 (dtab_at okX4_choiceAt 4 rfl) rfl ?_
    refine w_geti (C := RX2) (T := TX2) (i := 3) (n := 10) hM rfl (by decide) ly_X2 lkF_X4_33 (dtab_at okX4_choiceAt 5 rfl) rfl ?_
    refine w_ic_ge (n := 50) (n2 := 13) hM (dtab_at okX4_choiceAt 6 rfl) (by decide) rfl (fun (h10 : (S.1 46 3) ≤ v3) => ?_) (fun (h10 : ¬ (S.1 46 3) ≤ v3) => ?_)
    · skip
      rw [if_pos h10] at hf
      refine w_ic (n := 51) hM (-1 : Int32) (dtab_at okX4_choiceAt 31 rfl) (by decide) rfl ?_
      exact r_i hM (dtab_at okX4_choiceAt 32 rfl) ⟨Option.some.inj hf, hS⟩
    · skip
      rw [if_neg h10] at hf
      refine w_iln (q := 2) (n := 14) hM (dtab_at okX4_choiceAt 7 rfl) rfl rfl ?_
      refine w_ic (n := 15) hM (1 : Int32) (dtab_at okX4_choiceAt 8 rfl) (by decide) rfl ?_
      refine w_iln (q := 3) (n := 16) hM (dtab_at okX4_choiceAt 9 rfl) rfl rfl ?_
      refine w_ishl (n := 17) hM (dtab_at okX4_choiceAt 10 rfl) rfl ?_
      refine w_iand (n := 18) hM (dtab_at okX4_choiceAt 11 rfl) rfl ?_
      refine w_if_ne (n := 44) (n2 := 21) hM (dtab_at okX4_choiceAt 12 rfl) (by decide) rfl (fun (h18 : ¬ (v2 &&& ((1 : Int32) <<< (v3 &&& 31))) = (0 : Int32)) => ?_) (fun (h18 : (v2 &&& ((1 : Int32) <<< (v3 &&& 31))) = (0 : Int32)) => ?_)
      · skip
        rw [if_neg h18] at hf
        refine w_iinc (q := 3) (n := 47) (v := (v3 + (1 : Int32))) (lv' := [(3, vi (v3 + (1 : Int32))), (0, vr 4 44), (1, vi v1), (2, vi v2)]) hM (dtab_at okX4_choiceAt 29 rfl) rfl rfl (by decide) rfl rfl ?_
        refine w_goto (n := 2) hM (dtab_at okX4_choiceAt 30 rfl) (by decide) ?_
        refine WW.lvs [1, 2, 3, 0] (lv2 := [(0, vr 4 44), (1, vi v1), (2, vi v2), (3, vi (v3 + (1 : Int32)))]) rfl ?_
        exact ih S v1 v2 (v3 + (1 : Int32)) hS hf
      · skip
        rw [if_pos h18] at hf
        refine w_aln (q := 0) (n := 22) hM (dtab_at okX4_choiceAt 13 rfl) rfl rfl ?_
        refine w_iln (q := 1) (n := 23) hM (dtab_at okX4_choiceAt 14 rfl) rfl rfl ?_
        refine w_iln (q := 3) (n := 24) hM (dtab_at okX4_choiceAt 15 rfl) rfl rfl ?_
        refine w_iln (q := 2) (n := 25) hM (dtab_at okX4_choiceAt 16 rfl) rfl rfl ?_
        obtain ⟨r0, hr0, hf⟩ := Option.bind_eq_some_iff.mp hf
        refine w_callVi (n := 28) (As := [vi v1, vi v3, vi v2]) (rest := []) (k := 4) (j := 44) (C := RX4) (T := TX4) (N := 4) hM (c_X4_withPair nF S v1 v3 v2 r0 hr0) lkM_X4_46 mv_X4_withPair (by decide) rfl (by decide) rfl (Nat.le_of_ble_eq_true rfl) rfl (dtab_at okX4_choiceAt 17 rfl) rfl (fun x0 S0 hp0 => ?_)
        obtain ⟨hx_, hs_⟩ := hp0
        have hs_ := hs_.symm
        have hx_ := hx_.symm
        subst hs_
        subst hx_
        refine w_aln (q := 0) (n := 29) hM (dtab_at okX4_choiceAt 18 rfl) rfl rfl ?_
        refine w_getr (C := RX4) (T := TX4) (i := 2) (k2 := 292) (q := 47) (n := 32) hM rfl (by decide) (fun _ => rfl) ly_X4 lkF_X4_21 (dtab_at okX4_choiceAt 19 rfl) rfl ?_
        refine w_iln (q := 1) (n := 33) hM (dtab_at okX4_choiceAt 20 rfl) rfl rfl ?_
        refine w_bi (n := 35) hM (32 : Int32) (dtab_at okX4_choiceAt 21 rfl) (by decide) rfl ?_
        refine w_imul (n := 36) hM (dtab_at okX4_choiceAt 22 rfl) rfl ?_
        refine w_iln (q := 2) (n := 37) hM (dtab_at okX4_choiceAt 23 rfl) rfl rfl ?_
        refine w_iadd (n := 38) hM (dtab_at okX4_choiceAt 24 rfl) rfl ?_
        by_cases hg38 : ((v1 * (32 : Int32)) + v2) < 0 ∨ 192 ≤ ((v1 * (32 : Int32)) + v2).toNatClampNeg
        · rw [if_pos hg38] at hf; cases hf
        rw [if_neg hg38] at hf
        refine w_ald (nn := 192) (n := 39) hM rfl hg38 (dtab_at okX4_choiceAt 25 rfl) rfl ?_
        refine w_ic_ne (n := 44) (n2 := 42) hM (dtab_at okX4_choiceAt 26 rfl) (by decide) rfl (fun (h39 : ¬ r0 = (S.2 47 ((v1 * (32 : Int32)) + v2).toNatClampNeg)) => ?_) (fun (h39 : r0 = (S.2 47 ((v1 * (32 : Int32)) + v2).toNatClampNeg)) => ?_)
        · skip
          rw [if_neg h39] at hf
          refine w_iinc (q := 3) (n := 47) (v := (v3 + (1 : Int32))) (lv' := [(3, vi (v3 + (1 : Int32))), (0, vr 4 44), (1, vi v1), (2, vi v2)]) hM (dtab_at okX4_choiceAt 29 rfl) rfl rfl (by decide) rfl rfl ?_
          refine w_goto (n := 2) hM (dtab_at okX4_choiceAt 30 rfl) (by decide) ?_
          refine WW.lvs [1, 2, 3, 0] (lv2 := [(0, vr 4 44), (1, vi v1), (2, vi v2), (3, vi (v3 + (1 : Int32)))]) rfl ?_
          exact ih S v1 v2 (v3 + (1 : Int32)) hS hf
        · skip
          rw [if_pos h39] at hf
          refine w_iln (q := 3) (n := 43) hM (dtab_at okX4_choiceAt 27 rfl) rfl rfl ?_
          exact r_i hM (dtab_at okX4_choiceAt 28 rfl) ⟨Option.some.inj hf, hS⟩
def fX4_choiceAt (nF : Nat) (S : PS) (a1 : Int32) (a2 : Int32) : Option (Int32) := (LX4_choiceAt_2 nF nF S a1 a2 (0 : Int32))
set_option maxHeartbeats 4000000 in
set_option maxRecDepth 100000 in
theorem c_X4_choiceAt {cy : ClassId × ClassId} {ad : Nat → Nat} {D : va_G} {l : Launch} (nF : Nat) (S : PS) (a1 : Int32) (a2 : Int32) (r : Int32) (hf : fX4_choiceAt nF S a1 a2 = some r) : PMi cy GC ad D l yX4_choiceAt (wA yX4_choiceAt cX4_choiceAt 4 (some .int)) rmX4_choiceAt [vr 4 44, vi a1, vi a2] S (fun x S' => x = r ∧ S' = S) := by
  refine PM.of (lv := [(0, vr 4 44), (1, vi a1), (2, vi a2)]) GC_ok (by decide) (Nat.le_of_ble_eq_true rfl) rfl (by simp) ?_
  intro p e s m args below meth c A hM
  rw [fX4_choiceAt] at hf
  obtain ⟨S0, hS⟩ : ∃ S0 : PS, S = S0 := ⟨S, rfl⟩
  rw [show (fun (x : Int32) (S' : PS) => x = r ∧ S' = S) = (fun x S' => x = r ∧ S' = S0) by rw [hS]]
  refine w_ic (n := 1) hM (0 : Int32) (dtab_at okX4_choiceAt 0 rfl) (by decide) rfl ?_
  refine w_isn (n := 2) (lv' := [(3, vi (0 : Int32)), (0, vr 4 44), (1, vi a1), (2, vi a2)]) hM (dtab_at okX4_choiceAt 1 rfl) (by decide) rfl rfl ?_
  refine WW.lvs [1, 2, 3, 0] (lv2 := [(0, vr 4 44), (1, vi a1), (2, vi a2), (3, vi (0 : Int32))]) rfl ?_
  exact wLX4_choiceAt_2 hM nF S0 r nF S a1 a2 (0 : Int32) hS hf
def BX4_otherOf_36 (nF : Nat) (S : PS) (v4 : Int32) : Option (Int32) := (if v4 = (-1 : Int32) then (some (-1 : Int32)) else (if v4 < 0 ∨ 5 ≤ v4.toNatClampNeg then none else (some (S.2 49 v4.toNatClampNeg))))
set_option maxHeartbeats 4000000 in
set_option maxRecDepth 100000 in
theorem wBX4_otherOf_36 {cy : ClassId × ClassId} {ad : Nat → Nat} {D : va_G} {p : Program} {l : Launch} {e : Env} {s : State} {m : MethodId} {args : Array Value} {below : List Frame} {meth : Method} {c : Code} {A : Nat → Prop} (hM : MX cy GC ad D p s m args meth c cX4_otherOf 5 RX4 (some .int) A) (nF : Nat) (S0 : PS) (r : Int32) (S : PS) (v4 : Int32) (hS : S = S0) (hf : BX4_otherOf_36 nF S v4 = some r) : WW cy GC ad D p l e rmX4_otherOf s m args below meth c 5 A (poi (fun x S' => x = r ∧ S' = S0)) 36 [(0, vr 4 44), (4, vi v4)] [] S := by
  rw [BX4_otherOf_36] at hf
  refine w_il (q := 1) (n := 38) hM (dtab_at okX4_otherOf 21 rfl) rfl rfl ?_
  refine w_ic (n := 39) hM (-1 : Int32) (dtab_at okX4_otherOf 22 rfl) (by decide) rfl ?_
  refine w_ic_ne (n := 46) (n2 := 42) hM (dtab_at okX4_otherOf 23 rfl) (by decide) rfl (fun (h39 : ¬ v4 = (-1 : Int32)) => ?_) (fun (h39 : v4 = (-1 : Int32)) => ?_)
  · skip
    rw [if_neg h39] at hf
    refine w_aln (q := 0) (n := 47) hM (dtab_at okX4_otherOf 26 rfl) rfl rfl ?_
    refine w_getr (C := RX4) (T := TX4) (i := 1) (k2 := 2) (q := 46) (n := 50) hM rfl (by decide) (fun _ => rfl) ly_X4 lkF_X4_18 (dtab_at okX4_otherOf 27 rfl) rfl ?_
    refine w_getr (C := RX2) (T := TX2) (i := 0) (k2 := 105) (q := 49) (n := 53) hM rfl (by decide) (fun _ => rfl) ly_X2 lkF_X4_70 (dtab_at okX4_otherOf 28 rfl) rfl ?_
    refine w_il (q := 1) (n := 55) hM (dtab_at okX4_otherOf 29 rfl) rfl rfl ?_
    by_cases hg55 : v4 < 0 ∨ 5 ≤ v4.toNatClampNeg
    · rw [if_pos hg55] at hf; cases hf
    rw [if_neg hg55] at hf
    refine w_ald (nn := 5) (n := 56) hM rfl hg55 (dtab_at okX4_otherOf 30 rfl) rfl ?_
    exact r_i hM (dtab_at okX4_otherOf 31 rfl) ⟨Option.some.inj hf, hS⟩
  · skip
    rw [if_pos h39] at hf
    refine w_ic (n := 43) hM (-1 : Int32) (dtab_at okX4_otherOf 24 rfl) (by decide) rfl ?_
    refine w_goto (n := 56) hM (dtab_at okX4_otherOf 25 rfl) (by decide) ?_
    exact r_i hM (dtab_at okX4_otherOf 31 rfl) ⟨Option.some.inj hf, hS⟩
def LX4_otherOf_4 (nF : Nat) : Nat → PS → Int32 → Int32 → Int32 → Option (Int32)
  | 0, _, _, _, _ => none
  | n + 1, S, v1, v2, v3 => (if (S.1 45 3) ≤ v3 then (some (-1 : Int32)) else ((fX4_choiceAt nF S v3 v2).bind fun r0 => (if v3 < 0 ∨ 5 ≤ v3.toNatClampNeg then none else (if (S.2 48 v3.toNatClampNeg) = v1 then (BX4_otherOf_36 nF S r0) else (if r0 = (-1 : Int32) then (LX4_otherOf_4 nF n S v1 v2 (v3 + (1 : Int32))) else (LX4_otherOf_4 nF n S v1 (v2 ||| ((1 : Int32) <<< (r0 &&& 31))) (v3 + (1 : Int32))))))))
set_option maxHeartbeats 4000000 in
set_option maxRecDepth 100000 in
theorem wLX4_otherOf_4 {cy : ClassId × ClassId} {ad : Nat → Nat} {D : va_G} {p : Program} {l : Launch} {e : Env} {s : State} {m : MethodId} {args : Array Value} {below : List Frame} {meth : Method} {c : Code} {A : Nat → Prop} (hM : MX cy GC ad D p s m args meth c cX4_otherOf 5 RX4 (some .int) A) (nF : Nat) (S0 : PS) (r : Int32) : ∀ (n : Nat) (S : PS) (v1 : Int32) (v2 : Int32) (v3 : Int32), S = S0 → LX4_otherOf_4 nF n S v1 v2 v3 = some r → WW cy GC ad D p l e rmX4_otherOf s m args below meth c 5 A (poi (fun x S' => x = r ∧ S' = S0)) 4 [(0, vr 4 44), (1, vi v1), (2, vi v2), (3, vi v3)] [] S := by
  intro n
  induction n with
  | zero => intro S v1 v2 v3 hS hf; rw [LX4_otherOf_4] at hf; cases hf
  | succ n ih =>
    intro S v1 v2 v3 hS hf
    rw [LX4_otherOf_4] at hf
    refine w_iln (q := 3) (n := 5) hM (dtab_at okX4_otherOf 4 rfl) rfl rfl ?_
    refine w_aln (q := 0) (n := 6) hM (dtab_at okX4_otherOf 5 rfl) rfl rfl ?_
    refine w_getr (C := RX4) (T := TX4) (i := 0) (k2 := 2) (q := 45) (n := 9) hM rfl (by decide) (fun _ => rfl) ly_X4 lkF_X4_12 (dtab_at okX4_otherOf 6 rfl) rfl ?_
    refine w_geti (C := RX2) (T := TX2) (i := 3) (n := 12) hM rfl (by decide) ly_X2 lkF_X4_33 (dtab_at okX4_otherOf 7 rfl) rfl ?_
    refine w_ic_ge (n := 80) (n2 := 15) hM (dtab_at okX4_otherOf 8 rfl) (by decide) rfl (fun (h12 : (S.1 45 3) ≤ v3) => ?_) (fun (h12 : ¬ (S.1 45 3) ≤ v3) => ?_)
    · skip
      rw [if_pos h12] at hf
      refine w_ic (n := 81) hM (-1 : Int32) (dtab_at okX4_otherOf 45 rfl) (by decide) rfl ?_
      exact r_i hM (dtab_at okX4_otherOf 46 rfl) ⟨Option.some.inj hf, hS⟩
    · skip
      rw [if_neg h12] at hf
      refine w_aln (q := 0) (n := 16) hM (dtab_at okX4_otherOf 9 rfl) rfl rfl ?_
      refine w_iln (q := 3) (n := 17) hM (dtab_at okX4_otherOf 10 rfl) rfl rfl ?_
      refine w_iln (q := 2) (n := 18) hM (dtab_at okX4_otherOf 11 rfl) rfl rfl ?_
      obtain ⟨r0, hr0, hf⟩ := Option.bind_eq_some_iff.mp hf
      refine w_callVi (n := 21) (As := [vi v3, vi v2]) (rest := []) (k := 4) (j := 44) (C := RX4) (T := TX4) (N := 4) hM (c_X4_choiceAt nF S v3 v2 r0 hr0) lkM_X4_67 mv_X4_choiceAt (by decide) rfl (by decide) rfl (Nat.le_of_ble_eq_true rfl) rfl (dtab_at okX4_otherOf 12 rfl) rfl (fun x0 S0 hp0 => ?_)
      obtain ⟨hx_, hs_⟩ := hp0
      have hs_ := hs_.symm
      have hx_ := hx_.symm
      subst hs_
      subst hx_
      refine w_is (n := 23) (lv' := [(4, vi r0), (0, vr 4 44), (1, vi v1), (2, vi v2), (3, vi v3)]) hM (dtab_at okX4_otherOf 13 rfl) (by decide) rfl rfl ?_
      refine w_aln (q := 1) (n := 24) hM (dtab_at okX4_otherOf 14 rfl) rfl rfl ?_
      refine w_getr (C := RX4) (T := TX4) (i := 0) (k2 := 2) (q := 45) (n := 27) hM rfl (by decide) (fun _ => rfl) ly_X4 lkF_X4_12 (dtab_at okX4_otherOf 15 rfl) rfl ?_
      refine w_getr (C := RX2) (T := TX2) (i := 0) (k2 := 105) (q := 48) (n := 30) hM rfl (by decide) (fun _ => rfl) ly_X2 lkF_X4_70 (dtab_at okX4_otherOf 16 rfl) rfl ?_
      refine w_iln (q := 4) (n := 31) hM (dtab_at okX4_otherOf 17 rfl) rfl rfl ?_
      by_cases hg31 : v3 < 0 ∨ 5 ≤ v3.toNatClampNeg
      · rw [if_pos hg31] at hf; cases hf
      rw [if_neg hg31] at hf
      refine w_ald (nn := 5) (n := 32) hM rfl hg31 (dtab_at okX4_otherOf 18 rfl) rfl ?_
      refine w_iln (q := 2) (n := 33) hM (dtab_at okX4_otherOf 19 rfl) rfl rfl ?_
      refine w_ic_ne (n := 57) (n2 := 36) hM (dtab_at okX4_otherOf 20 rfl) (by decide) rfl (fun (h33 : ¬ (S.2 48 v3.toNatClampNeg) = v1) => ?_) (fun (h33 : (S.2 48 v3.toNatClampNeg) = v1) => ?_)
      · skip
        rw [if_neg h33] at hf
        refine w_il (q := 0) (n := 59) hM (dtab_at okX4_otherOf 32 rfl) rfl rfl ?_
        refine w_ic (n := 60) hM (-1 : Int32) (dtab_at okX4_otherOf 33 rfl) (by decide) rfl ?_
        refine w_ic_ne (n := 67) (n2 := 63) hM (dtab_at okX4_otherOf 34 rfl) (by decide) rfl (fun (h60 : ¬ r0 = (-1 : Int32)) => ?_) (fun (h60 : r0 = (-1 : Int32)) => ?_)
        · skip
          rw [if_neg h60] at hf
          refine w_iln (q := 3) (n := 68) hM (dtab_at okX4_otherOf 37 rfl) rfl rfl ?_
          refine w_ic (n := 69) hM (1 : Int32) (dtab_at okX4_otherOf 38 rfl) (by decide) rfl ?_
          refine w_il (q := 0) (n := 71) hM (dtab_at okX4_otherOf 39 rfl) rfl rfl ?_
          refine w_ishl (n := 72) hM (dtab_at okX4_otherOf 40 rfl) rfl ?_
          refine w_ior (n := 73) hM (dtab_at okX4_otherOf 41 rfl) rfl ?_
          refine w_isn (n := 74) (lv' := [(2, vi (v2 ||| ((1 : Int32) <<< (r0 &&& 31)))), (4, vi r0), (0, vr 4 44), (1, vi v1), (3, vi v3)]) hM (dtab_at okX4_otherOf 42 rfl) (by decide) rfl rfl ?_
          refine w_iinc (q := 4) (n := 77) (v := (v3 + (1 : Int32))) (lv' := [(3, vi (v3 + (1 : Int32))), (2, vi (v2 ||| ((1 : Int32) <<< (r0 &&& 31)))), (4, vi r0), (0, vr 4 44), (1, vi v1)]) hM (dtab_at okX4_otherOf 43 rfl) rfl rfl (by decide) rfl rfl ?_
          refine w_goto (n := 4) hM (dtab_at okX4_otherOf 44 rfl) (by decide) ?_
          refine WW.lvs [3, 4, 1, 0] (lv2 := [(0, vr 4 44), (1, vi v1), (2, vi (v2 ||| ((1 : Int32) <<< (r0 &&& 31)))), (3, vi (v3 + (1 : Int32)))]) rfl ?_
          exact ih S v1 (v2 ||| ((1 : Int32) <<< (r0 &&& 31))) (v3 + (1 : Int32)) hS hf
        · skip
          rw [if_pos h60] at hf
          refine w_iln (q := 3) (n := 64) hM (dtab_at okX4_otherOf 35 rfl) rfl rfl ?_
          refine w_goto (n := 73) hM (dtab_at okX4_otherOf 36 rfl) (by decide) ?_
          refine w_isn (n := 74) (lv' := [(2, vi v2), (4, vi r0), (0, vr 4 44), (1, vi v1), (3, vi v3)]) hM (dtab_at okX4_otherOf 42 rfl) (by decide) rfl rfl ?_
          refine w_iinc (q := 4) (n := 77) (v := (v3 + (1 : Int32))) (lv' := [(3, vi (v3 + (1 : Int32))), (2, vi v2), (4, vi r0), (0, vr 4 44), (1, vi v1)]) hM (dtab_at okX4_otherOf 43 rfl) rfl rfl (by decide) rfl rfl ?_
          refine w_goto (n := 4) hM (dtab_at okX4_otherOf 44 rfl) (by decide) ?_
          refine WW.lvs [3, 4, 1, 0] (lv2 := [(0, vr 4 44), (1, vi v1), (2, vi v2), (3, vi (v3 + (1 : Int32)))]) rfl ?_
          exact ih S v1 v2 (v3 + (1 : Int32)) hS hf
      · skip
        rw [if_pos h33] at hf
        refine WW.lvs [1, 0] (lv2 := [(0, vr 4 44), (4, vi r0)]) rfl ?_
        exact wBX4_otherOf_36 hM nF S0 r S r0 hS hf
def fX4_otherOf (nF : Nat) (S : PS) (a1 : Int32) : Option (Int32) := (LX4_otherOf_4 nF nF S a1 (0 : Int32) (0 : Int32))
set_option maxHeartbeats 4000000 in
set_option maxRecDepth 100000 in
theorem c_X4_otherOf {cy : ClassId × ClassId} {ad : Nat → Nat} {D : va_G} {l : Launch} (nF : Nat) (S : PS) (a1 : Int32) (r : Int32) (hf : fX4_otherOf nF S a1 = some r) : PMi cy GC ad D l yX4_otherOf (wA yX4_otherOf cX4_otherOf 5 (some .int)) rmX4_otherOf [vr 4 44, vi a1] S (fun x S' => x = r ∧ S' = S) := by
  refine PM.of (lv := [(0, vr 4 44), (1, vi a1)]) GC_ok (by decide) (Nat.le_of_ble_eq_true rfl) rfl (by simp) ?_
  intro p e s m args below meth c A hM
  rw [fX4_otherOf] at hf
  obtain ⟨S0, hS⟩ : ∃ S0 : PS, S = S0 := ⟨S, rfl⟩
  rw [show (fun (x : Int32) (S' : PS) => x = r ∧ S' = S) = (fun x S' => x = r ∧ S' = S0) by rw [hS]]
  refine w_ic (n := 1) hM (0 : Int32) (dtab_at okX4_otherOf 0 rfl) (by decide) rfl ?_
  refine w_isn (n := 2) (lv' := [(2, vi (0 : Int32)), (0, vr 4 44), (1, vi a1)]) hM (dtab_at okX4_otherOf 1 rfl) (by decide) rfl rfl ?_
  refine w_ic (n := 3) hM (0 : Int32) (dtab_at okX4_otherOf 2 rfl) (by decide) rfl ?_
  refine w_isn (n := 4) (lv' := [(3, vi (0 : Int32)), (2, vi (0 : Int32)), (0, vr 4 44), (1, vi a1)]) hM (dtab_at okX4_otherOf 3 rfl) (by decide) rfl rfl ?_
  refine WW.lvs [2, 3, 1, 0] (lv2 := [(0, vr 4 44), (1, vi a1), (2, vi (0 : Int32)), (3, vi (0 : Int32))]) rfl ?_
  exact wLX4_otherOf_4 hM nF S0 r nF S a1 (0 : Int32) (0 : Int32) hS hf
def fX5_isLost (S : PS) (j : Nat) : Int32 := if (S.1 j 1) = (-1 : Int32) then (1 : Int32) else (0 : Int32)
set_option maxHeartbeats 4000000 in
set_option maxRecDepth 100000 in
theorem c_X5_isLost {cy : ClassId × ClassId} {ad : Nat → Nat} {D : va_G} {l : Launch} (S : PS) (j : Nat)  : PMi cy GC ad D l yX5_isLost (wA yX5_isLost cX5_isLost 1 (some .boolean)) rmX5_isLost [vr 5 j] S (fun x S' => x = (fX5_isLost S j) ∧ S' = S) := by
  refine PM.of (lv := [(0, vr 5 j)]) GC_ok (by decide) (Nat.le_of_ble_eq_true rfl) rfl (by simp) ?_
  intro p e s m args below meth c A hM
  refine w_aln (q := 0) (n := 1) hM (dtab_at okX5_isLost 0 rfl) rfl rfl ?_
  refine w_geti (C := RX5) (T := TX5) (i := 1) (n := 4) hM rfl (by decide) ly_X5 lkF_X5_15 (dtab_at okX5_isLost 1 rfl) rfl ?_
  refine w_ic (n := 5) hM (-1 : Int32) (dtab_at okX5_isLost 2 rfl) (by decide) rfl ?_
  refine w_ic_ne (n := 12) (n2 := 8) hM (dtab_at okX5_isLost 3 rfl) (by decide) rfl (fun (h5 : ¬ (S.1 j 1) = (-1 : Int32)) => ?_) (fun (h5 : (S.1 j 1) = (-1 : Int32)) => ?_)
  · skip
    refine w_ic (n := 13) hM (0 : Int32) (dtab_at okX5_isLost 6 rfl) (by decide) rfl ?_
    exact r_z hM (by decide) (dtab_at okX5_isLost 7 rfl) ⟨by rw [fX5_isLost, if_neg h5], rfl⟩
  · skip
    refine w_ic (n := 9) hM (1 : Int32) (dtab_at okX5_isLost 4 rfl) (by decide) rfl ?_
    refine w_goto (n := 13) hM (dtab_at okX5_isLost 5 rfl) (by decide) ?_
    exact r_z hM (by decide) (dtab_at okX5_isLost 7 rfl) ⟨by rw [fX5_isLost, if_pos h5], rfl⟩
def LX5_begin_18 (nF : Nat) : Nat → PS → Nat → Int32 → Option (PS)
  | 0, _, _, _ => none
  | n + 1, S, v0, v3 => (if (S.1 v0 2) ≤ v3 then (some S) else (if v3 < 0 ∨ 150 ≤ v3.toNatClampNeg then none else (LX5_begin_18 nF n (sta S (v0 + 8) v3.toNatClampNeg (0 : Int32)) v0 (v3 + (1 : Int32)))))
set_option maxHeartbeats 4000000 in
set_option maxRecDepth 100000 in
theorem wLX5_begin_18 {cy : ClassId × ClassId} {ad : Nat → Nat} {D : va_G} {p : Program} {l : Launch} {e : Env} {s : State} {m : MethodId} {args : Array Value} {below : List Frame} {meth : Method} {c : Code} {A : Nat → Prop} (hM : MX cy GC ad D p s m args meth c cX5_begin 4 RX5 none A) (nF : Nat) (r : PS) : ∀ (n : Nat) (S : PS) (v0 : Nat) (v3 : Int32), LX5_begin_18 nF n S v0 v3 = some r → WW cy GC ad D p l e rmX5_begin s m args below meth c 4 A (pov (fun S' => S' = r)) 18 [(0, vr 5 v0), (3, vi v3)] [] S := by
  intro n
  induction n with
  | zero => intro S v0 v3 hf; rw [LX5_begin_18] at hf; cases hf
  | succ n ih =>
    intro S v0 v3 hf
    rw [LX5_begin_18] at hf
    refine w_iln (q := 1) (n := 19) hM (dtab_at okX5_begin 10 rfl) rfl rfl ?_
    refine w_aln (q := 0) (n := 20) hM (dtab_at okX5_begin 11 rfl) rfl rfl ?_
    refine w_geti (C := RX5) (T := TX5) (i := 2) (n := 23) hM rfl (by decide) ly_X5 lkF_X5_19 (dtab_at okX5_begin 12 rfl) rfl ?_
    refine w_ic_ge (n := 39) (n2 := 26) hM (dtab_at okX5_begin 13 rfl) (by decide) rfl (fun (h23 : (S.1 v0 2) ≤ v3) => ?_) (fun (h23 : ¬ (S.1 v0 2) ≤ v3) => ?_)
    · skip
      rw [if_pos h23] at hf
      exact r_v hM (dtab_at okX5_begin 21 rfl) (Option.some.inj hf)
    · skip
      rw [if_neg h23] at hf
      refine w_aln (q := 0) (n := 27) hM (dtab_at okX5_begin 14 rfl) rfl rfl ?_
      refine w_getr (C := RX5) (T := TX5) (i := 0) (k2 := 250) (q := (v0 + 8)) (n := 30) hM rfl (by decide) rfc_5_0 ly_X5 lkF_X5_9 (dtab_at okX5_begin 15 rfl) rfl ?_
      refine w_iln (q := 1) (n := 31) hM (dtab_at okX5_begin 16 rfl) rfl rfl ?_
      refine w_ic (n := 32) hM (0 : Int32) (dtab_at okX5_begin 17 rfl) (by decide) rfl ?_
      by_cases hg32 : v3 < 0 ∨ 150 ≤ v3.toNatClampNeg
      · rw [if_pos hg32] at hf; cases hf
      rw [if_neg hg32] at hf
      refine w_ast (nn := 150) (n := 33) hM rfl hg32 (dtab_at okX5_begin 18 rfl) rfl ?_
      refine w_iinc (q := 1) (n := 36) (v := (v3 + (1 : Int32))) (lv' := [(3, vi (v3 + (1 : Int32))), (0, vr 5 v0)]) hM (dtab_at okX5_begin 19 rfl) rfl rfl (by decide) rfl rfl ?_
      refine w_goto (n := 18) hM (dtab_at okX5_begin 20 rfl) (by decide) ?_
      refine WW.lvs [1, 0] (lv2 := [(0, vr 5 v0), (3, vi (v3 + (1 : Int32)))]) rfl ?_
      exact ih (sta S (v0 + 8) v3.toNatClampNeg (0 : Int32)) v0 (v3 + (1 : Int32)) hf
def fX5_begin (nF : Nat) (S : PS) (j : Nat) (a1 : Int32) (a2 : Int32) : Option (PS) := (LX5_begin_18 nF nF (sti (sti S j 1 a1) j 2 (if (150 : Int32) < a2 then (150 : Int32) else a2)) j (0 : Int32))
set_option maxHeartbeats 4000000 in
set_option maxRecDepth 100000 in
theorem c_X5_begin {cy : ClassId × ClassId} {ad : Nat → Nat} {D : va_G} {l : Launch} (nF : Nat) (S : PS) (j : Nat) (a1 : Int32) (a2 : Int32) (r : PS) (hf : fX5_begin nF S j a1 a2 = some r) : PMv cy GC ad D l yX5_begin (wA yX5_begin cX5_begin 4 none) rmX5_begin [vr 5 j, vi a1, vi a2] S (fun S' => S' = r) := by
  refine PM.of (lv := [(0, vr 5 j), (1, vi a1), (2, vi a2)]) GC_ok (by decide) (Nat.le_of_ble_eq_true rfl) rfl (by simp) ?_
  intro p e s m args below meth c A hM
  rw [fX5_begin] at hf
  refine w_aln (q := 0) (n := 1) hM (dtab_at okX5_begin 0 rfl) rfl rfl ?_
  refine w_iln (q := 1) (n := 2) hM (dtab_at okX5_begin 1 rfl) rfl rfl ?_
  refine w_put (C := RX5) (T := TX5) (i := 1) (ty := .int) (n := 5) hM rfl (by decide) ly_X5 tyX5_ok nmX5 lkF_X5_15 rfl (by decide +kernel) rfl rfl (dtab_at okX5_begin 2 rfl) rfl ?_
  refine w_aln (q := 0) (n := 6) hM (dtab_at okX5_begin 3 rfl) rfl rfl ?_
  refine w_iln (q := 2) (n := 7) hM (dtab_at okX5_begin 4 rfl) rfl rfl ?_
  refine w_si (n := 10) hM (150 : Int32) (dtab_at okX5_begin 5 rfl) (by decide) rfl ?_
  refine w_min (n := 13) hM ⟨lkM_X5_22, mS_J9_min_7cf53, iz_J9, mC_J9_min_7cf53⟩ (by decide) (Nat.le_of_ble_eq_true rfl) (dtab_at okX5_begin 6 rfl) rfl ?_
  refine w_put (C := RX5) (T := TX5) (i := 2) (ty := .int) (n := 16) hM rfl (by decide) ly_X5 tyX5_ok nmX5 lkF_X5_19 rfl (by decide +kernel) rfl rfl (dtab_at okX5_begin 7 rfl) rfl ?_
  refine w_ic (n := 17) hM (0 : Int32) (dtab_at okX5_begin 8 rfl) (by decide) rfl ?_
  refine w_isn (n := 18) (lv' := [(3, vi (0 : Int32)), (0, vr 5 j), (1, vi a1), (2, vi a2)]) hM (dtab_at okX5_begin 9 rfl) (by decide) rfl rfl ?_
  refine WW.lvs [1, 0] (lv2 := [(0, vr 5 j), (3, vi (0 : Int32))]) rfl ?_
  exact wLX5_begin_18 hM nF r nF (sti (sti S j 1 a1) j 2 (if (150 : Int32) < a2 then (150 : Int32) else a2)) j (0 : Int32) hf
def fX5_drop (S : PS) (j : Nat) : PS := (sti (sti S j 1 (-1 : Int32)) j 2 (0 : Int32))
set_option maxHeartbeats 4000000 in
set_option maxRecDepth 100000 in
theorem c_X5_drop {cy : ClassId × ClassId} {ad : Nat → Nat} {D : va_G} {l : Launch} (S : PS) (j : Nat)  : PMv cy GC ad D l yX5_drop (wA yX5_drop cX5_drop 1 none) rmX5_drop [vr 5 j] S (fun S' => S' = (fX5_drop S j)) := by
  refine PM.of (lv := [(0, vr 5 j)]) GC_ok (by decide) (Nat.le_of_ble_eq_true rfl) rfl (by simp) ?_
  intro p e s m args below meth c A hM
  refine w_aln (q := 0) (n := 1) hM (dtab_at okX5_drop 0 rfl) rfl rfl ?_
  refine w_ic (n := 2) hM (-1 : Int32) (dtab_at okX5_drop 1 rfl) (by decide) rfl ?_
  refine w_put (C := RX5) (T := TX5) (i := 1) (ty := .int) (n := 5) hM rfl (by decide) ly_X5 tyX5_ok nmX5 lkF_X5_15 rfl (by decide +kernel) rfl rfl (dtab_at okX5_drop 2 rfl) rfl ?_
  refine w_aln (q := 0) (n := 6) hM (dtab_at okX5_drop 3 rfl) rfl rfl ?_
  refine w_ic (n := 7) hM (0 : Int32) (dtab_at okX5_drop 4 rfl) (by decide) rfl ?_
  refine w_put (C := RX5) (T := TX5) (i := 2) (ty := .int) (n := 10) hM rfl (by decide) ly_X5 tyX5_ok nmX5 lkF_X5_19 rfl (by decide +kernel) rfl rfl (dtab_at okX5_drop 5 rfl) rfl ?_
  exact r_v hM (dtab_at okX5_drop 6 rfl) (by rw [fX5_drop])
def fX5_hasItem (S : PS) (j : Nat) (a1 : Int32) : Int32 := if a1 < (0 : Int32) then (0 : Int32) else (if (S.1 j 2) ≤ a1 then (0 : Int32) else (1 : Int32))
set_option maxHeartbeats 4000000 in
set_option maxRecDepth 100000 in
theorem c_X5_hasItem {cy : ClassId × ClassId} {ad : Nat → Nat} {D : va_G} {l : Launch} (S : PS) (j : Nat) (a1 : Int32)  : PMi cy GC ad D l yX5_hasItem (wA yX5_hasItem cX5_hasItem 2 (some .boolean)) rmX5_hasItem [vr 5 j, vi a1] S (fun x S' => x = (fX5_hasItem S j a1) ∧ S' = S) := by
  refine PM.of (lv := [(0, vr 5 j), (1, vi a1)]) GC_ok (by decide) (Nat.le_of_ble_eq_true rfl) rfl (by simp) ?_
  intro p e s m args below meth c A hM
  refine w_iln (q := 1) (n := 1) hM (dtab_at okX5_hasItem 0 rfl) rfl rfl ?_
  refine w_if_lt (n := 16) (n2 := 4) hM (dtab_at okX5_hasItem 1 rfl) (by decide) rfl (fun (h1 : a1 < (0 : Int32)) => ?_) (fun (h1 : ¬ a1 < (0 : Int32)) => ?_)
  · skip
    refine w_ic (n := 17) hM (0 : Int32) (dtab_at okX5_hasItem 8 rfl) (by decide) rfl ?_
    exact r_z hM (by decide) (dtab_at okX5_hasItem 9 rfl) ⟨by rw [fX5_hasItem, if_pos h1], rfl⟩
  · skip
    refine w_iln (q := 1) (n := 5) hM (dtab_at okX5_hasItem 2 rfl) rfl rfl ?_
    refine w_aln (q := 0) (n := 6) hM (dtab_at okX5_hasItem 3 rfl) rfl rfl ?_
    refine w_geti (C := RX5) (T := TX5) (i := 2) (n := 9) hM rfl (by decide) ly_X5 lkF_X5_19 (dtab_at okX5_hasItem 4 rfl) rfl ?_
    refine w_ic_ge (n := 16) (n2 := 12) hM (dtab_at okX5_hasItem 5 rfl) (by decide) rfl (fun (h9 : (S.1 j 2) ≤ a1) => ?_) (fun (h9 : ¬ (S.1 j 2) ≤ a1) => ?_)
    · skip
      refine w_ic (n := 17) hM (0 : Int32) (dtab_at okX5_hasItem 8 rfl) (by decide) rfl ?_
      exact r_z hM (by decide) (dtab_at okX5_hasItem 9 rfl) ⟨by rw [fX5_hasItem, if_neg h1, if_pos h9], rfl⟩
    · skip
      refine w_ic (n := 13) hM (1 : Int32) (dtab_at okX5_hasItem 6 rfl) (by decide) rfl ?_
      refine w_goto (n := 17) hM (dtab_at okX5_hasItem 7 rfl) (by decide) ?_
      exact r_z hM (by decide) (dtab_at okX5_hasItem 9 rfl) ⟨by rw [fX5_hasItem, if_neg h1, if_neg h9], rfl⟩
def fX5_hasItems (S : PS) (j : Nat) (a1 : Int32) (a2 : Int32) : Int32 := if a1 < (0 : Int32) then (0 : Int32) else (if a2 < (0 : Int32) then (0 : Int32) else (if (S.1 j 2) < a2 then (0 : Int32) else (if ((S.1 j 2) - a2) < a1 then (0 : Int32) else (1 : Int32))))
set_option maxHeartbeats 4000000 in
set_option maxRecDepth 100000 in
theorem c_X5_hasItems {cy : ClassId × ClassId} {ad : Nat → Nat} {D : va_G} {l : Launch} (S : PS) (j : Nat) (a1 : Int32) (a2 : Int32)  : PMi cy GC ad D l yX5_hasItems (wA yX5_hasItems cX5_hasItems 3 (some .boolean)) rmX5_hasItems [vr 5 j, vi a1, vi a2] S (fun x S' => x = (fX5_hasItems S j a1 a2) ∧ S' = S) := by
  refine PM.of (lv := [(0, vr 5 j), (1, vi a1), (2, vi a2)]) GC_ok (by decide) (Nat.le_of_ble_eq_true rfl) rfl (by simp) ?_
  intro p e s m args below meth c A hM
  refine w_iln (q := 1) (n := 1) hM (dtab_at okX5_hasItems 0 rfl) rfl rfl ?_
  refine w_if_lt (n := 30) (n2 := 4) hM (dtab_at okX5_hasItems 1 rfl) (by decide) rfl (fun (h1 : a1 < (0 : Int32)) => ?_) (fun (h1 : ¬ a1 < (0 : Int32)) => ?_)
  · skip
    refine w_ic (n := 31) hM (0 : Int32) (dtab_at okX5_hasItems 16 rfl) (by decide) rfl ?_
    exact r_z hM (by decide) (dtab_at okX5_hasItems 17 rfl) ⟨by rw [fX5_hasItems, if_pos h1], rfl⟩
  · skip
    refine w_iln (q := 2) (n := 5) hM (dtab_at okX5_hasItems 2 rfl) rfl rfl ?_
    refine w_if_lt (n := 30) (n2 := 8) hM (dtab_at okX5_hasItems 3 rfl) (by decide) rfl (fun (h5 : a2 < (0 : Int32)) => ?_) (fun (h5 : ¬ a2 < (0 : Int32)) => ?_)
    · skip
      refine w_ic (n := 31) hM (0 : Int32) (dtab_at okX5_hasItems 16 rfl) (by decide) rfl ?_
      exact r_z hM (by decide) (dtab_at okX5_hasItems 17 rfl) ⟨by rw [fX5_hasItems, if_neg h1, if_pos h5], rfl⟩
    · skip
      refine w_iln (q := 2) (n := 9) hM (dtab_at okX5_hasItems 4 rfl) rfl rfl ?_
      refine w_aln (q := 0) (n := 10) hM (dtab_at okX5_hasItems 5 rfl) rfl rfl ?_
      refine w_geti (C := RX5) (T := TX5) (i := 2) (n := 13) hM rfl (by decide) ly_X5 lkF_X5_19 (dtab_at okX5_hasItems 6 rfl) rfl ?_
      refine w_ic_gt (n := 30) (n2 := 16) hM (dtab_at okX5_hasItems 7 rfl) (by decide) rfl (fun (h13 : (S.1 j 2) < a2) => ?_) (fun (h13 : ¬ (S.1 j 2) < a2) => ?_)
      · skip
        refine w_ic (n := 31) hM (0 : Int32) (dtab_at okX5_hasItems 16 rfl) (by decide) rfl ?_
        exact r_z hM (by decide) (dtab_at okX5_hasItems 17 rfl) ⟨by rw [fX5_hasItems, if_neg h1, if_neg h5, if_pos h13], rfl⟩
      · skip
        refine w_iln (q := 1) (n := 17) hM (dtab_at okX5_hasItems 8 rfl) rfl rfl ?_
        refine w_aln (q := 0) (n := 18) hM (dtab_at okX5_hasItems 9 rfl) rfl rfl ?_
        refine w_geti (C := RX5) (T := TX5) (i := 2) (n := 21) hM rfl (by decide) ly_X5 lkF_X5_19 (dtab_at okX5_hasItems 10 rfl) rfl ?_
        refine w_iln (q := 2) (n := 22) hM (dtab_at okX5_hasItems 11 rfl) rfl rfl ?_
        refine w_isub (n := 23) hM (dtab_at okX5_hasItems 12 rfl) rfl ?_
        refine w_ic_gt (n := 30) (n2 := 26) hM (dtab_at okX5_hasItems 13 rfl) (by decide) rfl (fun (h23 : ((S.1 j 2) - a2) < a1) => ?_) (fun (h23 : ¬ ((S.1 j 2) - a2) < a1) => ?_)
        · skip
          refine w_ic (n := 31) hM (0 : Int32) (dtab_at okX5_hasItems 16 rfl) (by decide) rfl ?_
          exact r_z hM (by decide) (dtab_at okX5_hasItems 17 rfl) ⟨by rw [fX5_hasItems, if_neg h1, if_neg h5, if_neg h13, if_pos h23], rfl⟩
        · skip
          refine w_ic (n := 27) hM (1 : Int32) (dtab_at okX5_hasItems 14 rfl) (by decide) rfl ?_
          refine w_goto (n := 31) hM (dtab_at okX5_hasItems 15 rfl) (by decide) ?_
          exact r_z hM (by decide) (dtab_at okX5_hasItems 17 rfl) ⟨by rw [fX5_hasItems, if_neg h1, if_neg h5, if_neg h13, if_neg h23], rfl⟩
def fX5_faultOf (S : PS) (j : Nat) (a1 : Int32) (a2 : Int32) : Int32 := if (fX5_isLost S j) = (0 : Int32) then (if (S.1 j 1) = a1 then (if (fX5_hasItem S j a2) = (0 : Int32) then (2 : Int32) else (0 : Int32)) else (3 : Int32)) else (1 : Int32)
set_option maxHeartbeats 4000000 in
set_option maxRecDepth 100000 in
theorem c_X5_faultOf {cy : ClassId × ClassId} {ad : Nat → Nat} {D : va_G} {l : Launch} (S : PS) (j : Nat) (a1 : Int32) (a2 : Int32)  : PMi cy GC ad D l yX5_faultOf (wA yX5_faultOf cX5_faultOf 3 (some .int)) rmX5_faultOf [vr 5 j, vi a1, vi a2] S (fun x S' => x = (fX5_faultOf S j a1 a2) ∧ S' = S) := by
  refine PM.of (lv := [(0, vr 5 j), (1, vi a1), (2, vi a2)]) GC_ok (by decide) (Nat.le_of_ble_eq_true rfl) rfl (by simp) ?_
  intro p e s m args below meth c A hM
  refine w_aln (q := 0) (n := 1) hM (dtab_at okX5_faultOf 0 rfl) rfl rfl ?_
  refine w_callVi (n := 4) (As := []) (rest := []) (k := 5) (j := j) (C := RX5) (T := TX5) (N := 3) hM (c_X5_isLost S j) lkM_X5_28 mv_X5_isLost (by decide) rfl (by decide) rfl (Nat.le_of_ble_eq_true rfl) rfl (dtab_at okX5_faultOf 1 rfl) rfl (fun x0 S0 hp0 => ?_)
  obtain ⟨hx_, hs_⟩ := hp0
  have hs_ := hs_.symm
  subst hs_
  subst hx_
  refine w_if_eq (n := 9) (n2 := 7) hM (dtab_at okX5_faultOf 2 rfl) (by decide) rfl (fun (h4 : (fX5_isLost S j) = (0 : Int32)) => ?_) (fun (h4 : ¬ (fX5_isLost S j) = (0 : Int32)) => ?_)
  · skip
    refine w_aln (q := 0) (n := 10) hM (dtab_at okX5_faultOf 5 rfl) rfl rfl ?_
    refine w_geti (C := RX5) (T := TX5) (i := 1) (n := 13) hM rfl (by decide) ly_X5 lkF_X5_15 (dtab_at okX5_faultOf 6 rfl) rfl ?_
    refine w_iln (q := 1) (n := 14) hM (dtab_at okX5_faultOf 7 rfl) rfl rfl ?_
    refine w_ic_eq (n := 19) (n2 := 17) hM (dtab_at okX5_faultOf 8 rfl) (by decide) rfl (fun (h14 : (S.1 j 1) = a1) => ?_) (fun (h14 : ¬ (S.1 j 1) = a1) => ?_)
    · skip
      refine w_aln (q := 0) (n := 20) hM (dtab_at okX5_faultOf 11 rfl) rfl rfl ?_
      refine w_iln (q := 2) (n := 21) hM (dtab_at okX5_faultOf 12 rfl) rfl rfl ?_
      refine w_callVi (n := 24) (As := [vi a2]) (rest := []) (k := 5) (j := j) (C := RX5) (T := TX5) (N := 3) hM (c_X5_hasItem S j a2) lkM_X5_32 mv_X5_hasItem (by decide) rfl (by decide) rfl (Nat.le_of_ble_eq_true rfl) rfl (dtab_at okX5_faultOf 13 rfl) rfl (fun x1 S1 hp1 => ?_)
      obtain ⟨hx_, hs_⟩ := hp1
      have hs_ := hs_.symm
      subst hs_
      subst hx_
      refine w_if_eq (n := 31) (n2 := 27) hM (dtab_at okX5_faultOf 14 rfl) (by decide) rfl (fun (h24 : (fX5_hasItem S j a2) = (0 : Int32)) => ?_) (fun (h24 : ¬ (fX5_hasItem S j a2) = (0 : Int32)) => ?_)
      · skip
        refine w_ic (n := 32) hM (2 : Int32) (dtab_at okX5_faultOf 17 rfl) (by decide) rfl ?_
        exact r_i hM (dtab_at okX5_faultOf 18 rfl) ⟨by rw [fX5_faultOf, if_pos h4, if_pos h14, if_pos h24], rfl⟩
      · skip
        refine w_ic (n := 28) hM (0 : Int32) (dtab_at okX5_faultOf 15 rfl) (by decide) rfl ?_
        refine w_goto (n := 32) hM (dtab_at okX5_faultOf 16 rfl) (by decide) ?_
        exact r_i hM (dtab_at okX5_faultOf 18 rfl) ⟨by rw [fX5_faultOf, if_pos h4, if_pos h14, if_neg h24], rfl⟩
    · skip
      refine w_ic (n := 18) hM (3 : Int32) (dtab_at okX5_faultOf 9 rfl) (by decide) rfl ?_
      exact r_i hM (dtab_at okX5_faultOf 10 rfl) ⟨by rw [fX5_faultOf, if_pos h4, if_neg h14], rfl⟩
  · skip
    refine w_ic (n := 8) hM (1 : Int32) (dtab_at okX5_faultOf 3 rfl) (by decide) rfl ?_
    exact r_i hM (dtab_at okX5_faultOf 4 rfl) ⟨by rw [fX5_faultOf, if_neg h4], rfl⟩
def fX5_store (nF : Nat) (S : PS) (j : Nat) (a1 : Int32) (a2 : Int32) : Option (PS) := (if (fX5_hasItem S j a1) = (0 : Int32) then (some S) else (if (S.1 j 1) = (0 : Int32) then (if a1 < 0 ∨ 150 ≤ a1.toNatClampNeg then none else (some (sta S (j + 8) a1.toNatClampNeg a2.toInt8.toInt32))) else (if (S.1 j 1) = (1 : Int32) then (if a1 < 0 ∨ 150 ≤ a1.toNatClampNeg then none else (some (sta S (j + 8) a1.toNatClampNeg a2.toInt16.toInt32))) else (if a1 < 0 ∨ 150 ≤ a1.toNatClampNeg then none else (some (sta S (j + 8) a1.toNatClampNeg a2))))))
set_option maxHeartbeats 4000000 in
set_option maxRecDepth 100000 in
theorem c_X5_store {cy : ClassId × ClassId} {ad : Nat → Nat} {D : va_G} {l : Launch} (nF : Nat) (S : PS) (j : Nat) (a1 : Int32) (a2 : Int32) (r : PS) (hf : fX5_store nF S j a1 a2 = some r) : PMv cy GC ad D l yX5_store (wA yX5_store cX5_store 3 none) rmX5_store [vr 5 j, vi a1, vi a2] S (fun S' => S' = r) := by
  refine PM.of (lv := [(0, vr 5 j), (1, vi a1), (2, vi a2)]) GC_ok (by decide) (Nat.le_of_ble_eq_true rfl) rfl (by simp) ?_
  intro p e s m args below meth c A hM
  rw [fX5_store] at hf
  refine w_aln (q := 0) (n := 1) hM (dtab_at okX5_store 0 rfl) rfl rfl ?_
  refine w_iln (q := 1) (n := 2) hM (dtab_at okX5_store 1 rfl) rfl rfl ?_
  refine w_callVi (n := 5) (As := [vi a1]) (rest := []) (k := 5) (j := j) (C := RX5) (T := TX5) (N := 3) hM (c_X5_hasItem S j a1) lkM_X5_32 mv_X5_hasItem (by decide) rfl (by decide) rfl (Nat.le_of_ble_eq_true rfl) rfl (dtab_at okX5_store 2 rfl) rfl (fun x0 S0 hp0 => ?_)
  obtain ⟨hx_, hs_⟩ := hp0
  have hs_ := hs_.symm
  subst hs_
  subst hx_
  refine w_if_ne (n := 9) (n2 := 8) hM (dtab_at okX5_store 3 rfl) (by decide) rfl (fun (h5 : ¬ (fX5_hasItem S j a1) = (0 : Int32)) => ?_) (fun (h5 : (fX5_hasItem S j a1) = (0 : Int32)) => ?_)
  · skip
    rw [if_neg h5] at hf
    refine w_aln (q := 0) (n := 10) hM (dtab_at okX5_store 5 rfl) rfl rfl ?_
    refine w_geti (C := RX5) (T := TX5) (i := 1) (n := 13) hM rfl (by decide) ly_X5 lkF_X5_15 (dtab_at okX5_store 6 rfl) rfl ?_
    refine w_if_ne (n := 27) (n2 := 16) hM (dtab_at okX5_store 7 rfl) (by decide) rfl (fun (h13 : ¬ (S.1 j 1) = (0 : Int32)) => ?_) (fun (h13 : (S.1 j 1) = (0 : Int32)) => ?_)
    · skip
      rw [if_neg h13] at hf
      refine w_aln (q := 0) (n := 28) hM (dtab_at okX5_store 15 rfl) rfl rfl ?_
      refine w_geti (C := RX5) (T := TX5) (i := 1) (n := 31) hM rfl (by decide) ly_X5 lkF_X5_15 (dtab_at okX5_store 16 rfl) rfl ?_
      refine w_ic (n := 32) hM (1 : Int32) (dtab_at okX5_store 17 rfl) (by decide) rfl ?_
      refine w_ic_ne (n := 46) (n2 := 35) hM (dtab_at okX5_store 18 rfl) (by decide) rfl (fun (h32 : ¬ (S.1 j 1) = (1 : Int32)) => ?_) (fun (h32 : (S.1 j 1) = (1 : Int32)) => ?_)
      · skip
        rw [if_neg h32] at hf
        refine w_aln (q := 0) (n := 47) hM (dtab_at okX5_store 26 rfl) rfl rfl ?_
        refine w_getr (C := RX5) (T := TX5) (i := 0) (k2 := 250) (q := (j + 8)) (n := 50) hM rfl (by decide) rfc_5_0 ly_X5 lkF_X5_9 (dtab_at okX5_store 27 rfl) rfl ?_
        refine w_iln (q := 1) (n := 51) hM (dtab_at okX5_store 28 rfl) rfl rfl ?_
        refine w_iln (q := 2) (n := 52) hM (dtab_at okX5_store 29 rfl) rfl rfl ?_
        by_cases hg52 : a1 < 0 ∨ 150 ≤ a1.toNatClampNeg
        · rw [if_pos hg52] at hf; cases hf
        rw [if_neg hg52] at hf
        refine w_ast (nn := 150) (n := 53) hM rfl hg52 (dtab_at okX5_store 30 rfl) rfl ?_
        exact r_v hM (dtab_at okX5_store 31 rfl) (Option.some.inj hf)
      · skip
        rw [if_pos h32] at hf
        refine w_aln (q := 0) (n := 36) hM (dtab_at okX5_store 19 rfl) rfl rfl ?_
        refine w_getr (C := RX5) (T := TX5) (i := 0) (k2 := 250) (q := (j + 8)) (n := 39) hM rfl (by decide) rfc_5_0 ly_X5 lkF_X5_9 (dtab_at okX5_store 20 rfl) rfl ?_
        refine w_iln (q := 1) (n := 40) hM (dtab_at okX5_store 21 rfl) rfl rfl ?_
        refine w_iln (q := 2) (n := 41) hM (dtab_at okX5_store 22 rfl) rfl rfl ?_
        refine w_i2s (n := 42) hM (dtab_at okX5_store 23 rfl) rfl ?_
        by_cases hg42 : a1 < 0 ∨ 150 ≤ a1.toNatClampNeg
        · rw [if_pos hg42] at hf; cases hf
        rw [if_neg hg42] at hf
        refine w_ast (nn := 150) (n := 43) hM rfl hg42 (dtab_at okX5_store 24 rfl) rfl ?_
        refine w_goto (n := 53) hM (dtab_at okX5_store 25 rfl) (by decide) ?_
        exact r_v hM (dtab_at okX5_store 31 rfl) (Option.some.inj hf)
    · skip
      rw [if_pos h13] at hf
      refine w_aln (q := 0) (n := 17) hM (dtab_at okX5_store 8 rfl) rfl rfl ?_
      refine w_getr (C := RX5) (T := TX5) (i := 0) (k2 := 250) (q := (j + 8)) (n := 20) hM rfl (by decide) rfc_5_0 ly_X5 lkF_X5_9 (dtab_at okX5_store 9 rfl) rfl ?_
      refine w_iln (q := 1) (n := 21) hM (dtab_at okX5_store 10 rfl) rfl rfl ?_
      refine w_iln (q := 2) (n := 22) hM (dtab_at okX5_store 11 rfl) rfl rfl ?_
      refine w_i2b (n := 23) hM (dtab_at okX5_store 12 rfl) rfl ?_
      by_cases hg23 : a1 < 0 ∨ 150 ≤ a1.toNatClampNeg
      · rw [if_pos hg23] at hf; cases hf
      rw [if_neg hg23] at hf
      refine w_ast (nn := 150) (n := 24) hM rfl hg23 (dtab_at okX5_store 13 rfl) rfl ?_
      refine w_goto (n := 53) hM (dtab_at okX5_store 14 rfl) (by decide) ?_
      exact r_v hM (dtab_at okX5_store 31 rfl) (Option.some.inj hf)
  · skip
    rw [if_pos h5] at hf
    exact r_v hM (dtab_at okX5_store 4 rfl) (Option.some.inj hf)
def fX9_isWithin (S : PS) (a1 : Int32) (a2 : Int32) (a3 : Int32) : Int32 := if a1 < a2 then (0 : Int32) else (if a3 < a1 then (0 : Int32) else (1 : Int32))
set_option maxHeartbeats 4000000 in
set_option maxRecDepth 100000 in
theorem c_X9_isWithin {cy : ClassId × ClassId} {ad : Nat → Nat} {D : va_G} {l : Launch} (S : PS) (a1 : Int32) (a2 : Int32) (a3 : Int32)  : PMi cy GC ad D l yX9_isWithin (wA yX9_isWithin cX9_isWithin 3 (some .boolean)) rmX9_isWithin [vi a1, vi a2, vi a3] S (fun x S' => x = (fX9_isWithin S a1 a2 a3) ∧ S' = S) := by
  refine PM.of (lv := [(0, vi a1), (1, vi a2), (2, vi a3)]) GC_ok (by decide) (Nat.le_of_ble_eq_true rfl) rfl (by simp) ?_
  intro p e s m args below meth c A hM
  refine w_iln (q := 0) (n := 1) hM (dtab_at okX9_isWithin 0 rfl) rfl rfl ?_
  refine w_iln (q := 1) (n := 2) hM (dtab_at okX9_isWithin 1 rfl) rfl rfl ?_
  refine w_ic_lt (n := 14) (n2 := 5) hM (dtab_at okX9_isWithin 2 rfl) (by decide) rfl (fun (h2 : a1 < a2) => ?_) (fun (h2 : ¬ a1 < a2) => ?_)
  · skip
    refine w_ic (n := 15) hM (0 : Int32) (dtab_at okX9_isWithin 8 rfl) (by decide) rfl ?_
    exact r_z hM (by decide) (dtab_at okX9_isWithin 9 rfl) ⟨by rw [fX9_isWithin, if_pos h2], rfl⟩
  · skip
    refine w_iln (q := 0) (n := 6) hM (dtab_at okX9_isWithin 3 rfl) rfl rfl ?_
    refine w_iln (q := 2) (n := 7) hM (dtab_at okX9_isWithin 4 rfl) rfl rfl ?_
    refine w_ic_gt (n := 14) (n2 := 10) hM (dtab_at okX9_isWithin 5 rfl) (by decide) rfl (fun (h7 : a3 < a1) => ?_) (fun (h7 : ¬ a3 < a1) => ?_)
    · skip
      refine w_ic (n := 15) hM (0 : Int32) (dtab_at okX9_isWithin 8 rfl) (by decide) rfl ?_
      exact r_z hM (by decide) (dtab_at okX9_isWithin 9 rfl) ⟨by rw [fX9_isWithin, if_neg h2, if_pos h7], rfl⟩
    · skip
      refine w_ic (n := 11) hM (1 : Int32) (dtab_at okX9_isWithin 6 rfl) (by decide) rfl ?_
      refine w_goto (n := 15) hM (dtab_at okX9_isWithin 7 rfl) (by decide) ?_
      exact r_z hM (by decide) (dtab_at okX9_isWithin 9 rfl) ⟨by rw [fX9_isWithin, if_neg h2, if_neg h7], rfl⟩
theorem fX9_isWithin_01 (S : PS) (a b z : Int32) : fX9_isWithin S a b z = 0 ∨ fX9_isWithin S a b z = 1 := by
  unfold fX9_isWithin
  split
  · exact Or.inl rfl
  · split
    · exact Or.inl rfl
    · exact Or.inr rfl
def fX5_readingAt (nF : Nat) (S : PS) (j : Nat) (a1 : Int32) : Option (Int32) := (if (fX5_hasItem S j a1) = (0 : Int32) then (some (-1 : Int32)) else (if a1 < 0 ∨ 150 ≤ a1.toNatClampNeg then none else (if (fX9_isWithin S (S.2 (j + 8) a1.toNatClampNeg) (0 : Int32) (30000 : Int32)) = (0 : Int32) then (some (-1 : Int32)) else (some (S.2 (j + 8) a1.toNatClampNeg)))))
set_option maxHeartbeats 4000000 in
set_option maxRecDepth 100000 in
theorem c_X5_readingAt {cy : ClassId × ClassId} {ad : Nat → Nat} {D : va_G} {l : Launch} (nF : Nat) (S : PS) (j : Nat) (a1 : Int32) (r : Int32) (hf : fX5_readingAt nF S j a1 = some r) : PMi cy GC ad D l yX5_readingAt (wA yX5_readingAt cX5_readingAt 2 (some .int)) rmX5_readingAt [vr 5 j, vi a1] S (fun x S' => x = r ∧ S' = S) := by
  refine PM.of (lv := [(0, vr 5 j), (1, vi a1)]) GC_ok (by decide) (Nat.le_of_ble_eq_true rfl) rfl (by simp) ?_
  intro p e s m args below meth c A hM
  rw [fX5_readingAt] at hf
  obtain ⟨S0, hS⟩ : ∃ S0 : PS, S = S0 := ⟨S, rfl⟩
  rw [show (fun (x : Int32) (S' : PS) => x = r ∧ S' = S) = (fun x S' => x = r ∧ S' = S0) by rw [hS]]
  refine w_aln (q := 0) (n := 1) hM (dtab_at okX5_readingAt 0 rfl) rfl rfl ?_
  refine w_iln (q := 1) (n := 2) hM (dtab_at okX5_readingAt 1 rfl) rfl rfl ?_
  refine w_callVi (n := 5) (As := [vi a1]) (rest := []) (k := 5) (j := j) (C := RX5) (T := TX5) (N := 3) hM (c_X5_hasItem S j a1) lkM_X5_32 mv_X5_hasItem (by decide) rfl (by decide) rfl (Nat.le_of_ble_eq_true rfl) rfl (dtab_at okX5_readingAt 2 rfl) rfl (fun x0 S0 hp0 => ?_)
  obtain ⟨hx_, hs_⟩ := hp0
  have hs_ := hs_.symm
  subst hs_
  subst hx_
  refine w_if_eq (n := 24) (n2 := 8) hM (dtab_at okX5_readingAt 3 rfl) (by decide) rfl (fun (h5 : (fX5_hasItem S j a1) = (0 : Int32)) => ?_) (fun (h5 : ¬ (fX5_hasItem S j a1) = (0 : Int32)) => ?_)
  · skip
    rw [if_pos h5] at hf
    refine w_ic (n := 25) hM (-1 : Int32) (dtab_at okX5_readingAt 12 rfl) (by decide) rfl ?_
    exact r_i hM (dtab_at okX5_readingAt 13 rfl) ⟨Option.some.inj hf, hS⟩
  · skip
    rw [if_neg h5] at hf
    refine w_aln (q := 0) (n := 9) hM (dtab_at okX5_readingAt 4 rfl) rfl rfl ?_
    refine w_getr (C := RX5) (T := TX5) (i := 0) (k2 := 250) (q := (j + 8)) (n := 12) hM rfl (by decide) rfc_5_0 ly_X5 lkF_X5_9 (dtab_at okX5_readingAt 5 rfl) rfl ?_
    refine w_iln (q := 1) (n := 13) hM (dtab_at okX5_readingAt 6 rfl) rfl rfl ?_
    by_cases hg13 : a1 < 0 ∨ 150 ≤ a1.toNatClampNeg
    · rw [if_pos hg13] at hf; cases hf
    rw [if_neg hg13] at hf
    refine w_ald (nn := 150) (n := 14) hM rfl hg13 (dtab_at okX5_readingAt 7 rfl) rfl ?_
    refine w_ic (n := 15) hM (0 : Int32) (dtab_at okX5_readingAt 8 rfl) (by decide) rfl ?_
    refine w_si (n := 18) hM (30000 : Int32) (dtab_at okX5_readingAt 9 rfl) (by decide) rfl ?_
    refine w_callSNi (n := 21) (As := [vi (S.2 (j + 8) a1.toNatClampNeg), vi (0 : Int32), vi (30000 : Int32)]) (rest := []) hM (c_X9_isWithin S (S.2 (j + 8) a1.toNatClampNeg) (0 : Int32) (30000 : Int32)) (fun hf => hf.1) ms_X9_isWithin (by decide) rfl (Nat.le_of_ble_eq_true rfl) rfl (dtab_at okX5_readingAt 10 rfl) rfl (fun x1 S1 hp1 => ?_)
    obtain ⟨hx_, hs_⟩ := hp1
    have hs_ := hs_.symm
    subst hs_
    subst hx_
    refine w_if_ne (n := 26) (n2 := 24) hM (dtab_at okX5_readingAt 11 rfl) (by decide) rfl (fun (h21 : ¬ (fX9_isWithin S (S.2 (j + 8) a1.toNatClampNeg) (0 : Int32) (30000 : Int32)) = (0 : Int32)) => ?_) (fun (h21 : (fX9_isWithin S (S.2 (j + 8) a1.toNatClampNeg) (0 : Int32) (30000 : Int32)) = (0 : Int32)) => ?_)
    · skip
      rw [if_neg h21] at hf
      refine w_aln (q := 0) (n := 27) hM (dtab_at okX5_readingAt 14 rfl) rfl rfl ?_
      refine w_getr (C := RX5) (T := TX5) (i := 0) (k2 := 250) (q := (j + 8)) (n := 30) hM rfl (by decide) rfc_5_0 ly_X5 lkF_X5_9 (dtab_at okX5_readingAt 15 rfl) rfl ?_
      refine w_iln (q := 1) (n := 31) hM (dtab_at okX5_readingAt 16 rfl) rfl rfl ?_
      refine w_ald (nn := 150) (n := 32) hM rfl hg13 (dtab_at okX5_readingAt 17 rfl) rfl ?_
      exact r_i hM (dtab_at okX5_readingAt 18 rfl) ⟨Option.some.inj hf, hS⟩
    · skip
      rw [if_pos h21] at hf
      refine w_ic (n := 25) hM (-1 : Int32) (dtab_at okX5_readingAt 12 rfl) (by decide) rfl ?_
      exact r_i hM (dtab_at okX5_readingAt 13 rfl) ⟨Option.some.inj hf, hS⟩
def fX5_hasWeldAt (nF : Nat) (S : PS) (j : Nat) (a1 : Int32) : Option (Int32) := (if (fX5_hasItem S j a1) = (0 : Int32) then (some (0 : Int32)) else (if a1 < 0 ∨ 150 ≤ a1.toNatClampNeg then none else (if (S.2 (j + 8) a1.toNatClampNeg) = (0 : Int32) then (some (0 : Int32)) else (some (1 : Int32)))))
set_option maxHeartbeats 4000000 in
set_option maxRecDepth 100000 in
theorem c_X5_hasWeldAt {cy : ClassId × ClassId} {ad : Nat → Nat} {D : va_G} {l : Launch} (nF : Nat) (S : PS) (j : Nat) (a1 : Int32) (r : Int32) (hf : fX5_hasWeldAt nF S j a1 = some r) : PMi cy GC ad D l yX5_hasWeldAt (wA yX5_hasWeldAt cX5_hasWeldAt 2 (some .boolean)) rmX5_hasWeldAt [vr 5 j, vi a1] S (fun x S' => x = r ∧ S' = S) := by
  refine PM.of (lv := [(0, vr 5 j), (1, vi a1)]) GC_ok (by decide) (Nat.le_of_ble_eq_true rfl) rfl (by simp) ?_
  intro p e s m args below meth c A hM
  rw [fX5_hasWeldAt] at hf
  obtain ⟨S0, hS⟩ : ∃ S0 : PS, S = S0 := ⟨S, rfl⟩
  rw [show (fun (x : Int32) (S' : PS) => x = r ∧ S' = S) = (fun x S' => x = r ∧ S' = S0) by rw [hS]]
  refine w_aln (q := 0) (n := 1) hM (dtab_at okX5_hasWeldAt 0 rfl) rfl rfl ?_
  refine w_iln (q := 1) (n := 2) hM (dtab_at okX5_hasWeldAt 1 rfl) rfl rfl ?_
  refine w_callVi (n := 5) (As := [vi a1]) (rest := []) (k := 5) (j := j) (C := RX5) (T := TX5) (N := 3) hM (c_X5_hasItem S j a1) lkM_X5_32 mv_X5_hasItem (by decide) rfl (by decide) rfl (Nat.le_of_ble_eq_true rfl) rfl (dtab_at okX5_hasWeldAt 2 rfl) rfl (fun x0 S0 hp0 => ?_)
  obtain ⟨hx_, hs_⟩ := hp0
  have hs_ := hs_.symm
  subst hs_
  subst hx_
  refine w_if_eq (n := 21) (n2 := 8) hM (dtab_at okX5_hasWeldAt 3 rfl) (by decide) rfl (fun (h5 : (fX5_hasItem S j a1) = (0 : Int32)) => ?_) (fun (h5 : ¬ (fX5_hasItem S j a1) = (0 : Int32)) => ?_)
  · skip
    rw [if_pos h5] at hf
    refine w_ic (n := 22) hM (0 : Int32) (dtab_at okX5_hasWeldAt 11 rfl) (by decide) rfl ?_
    exact r_z hM (by decide) (dtab_at okX5_hasWeldAt 12 rfl) ⟨Option.some.inj hf, hS⟩
  · skip
    rw [if_neg h5] at hf
    refine w_aln (q := 0) (n := 9) hM (dtab_at okX5_hasWeldAt 4 rfl) rfl rfl ?_
    refine w_getr (C := RX5) (T := TX5) (i := 0) (k2 := 250) (q := (j + 8)) (n := 12) hM rfl (by decide) rfc_5_0 ly_X5 lkF_X5_9 (dtab_at okX5_hasWeldAt 5 rfl) rfl ?_
    refine w_iln (q := 1) (n := 13) hM (dtab_at okX5_hasWeldAt 6 rfl) rfl rfl ?_
    by_cases hg13 : a1 < 0 ∨ 150 ≤ a1.toNatClampNeg
    · rw [if_pos hg13] at hf; cases hf
    rw [if_neg hg13] at hf
    refine w_ald (nn := 150) (n := 14) hM rfl hg13 (dtab_at okX5_hasWeldAt 7 rfl) rfl ?_
    refine w_if_eq (n := 21) (n2 := 17) hM (dtab_at okX5_hasWeldAt 8 rfl) (by decide) rfl (fun (h14 : (S.2 (j + 8) a1.toNatClampNeg) = (0 : Int32)) => ?_) (fun (h14 : ¬ (S.2 (j + 8) a1.toNatClampNeg) = (0 : Int32)) => ?_)
    · skip
      rw [if_pos h14] at hf
      refine w_ic (n := 22) hM (0 : Int32) (dtab_at okX5_hasWeldAt 11 rfl) (by decide) rfl ?_
      exact r_z hM (by decide) (dtab_at okX5_hasWeldAt 12 rfl) ⟨Option.some.inj hf, hS⟩
    · skip
      rw [if_neg h14] at hf
      refine w_ic (n := 18) hM (1 : Int32) (dtab_at okX5_hasWeldAt 9 rfl) (by decide) rfl ?_
      refine w_goto (n := 22) hM (dtab_at okX5_hasWeldAt 10 rfl) (by decide) ?_
      exact r_z hM (by decide) (dtab_at okX5_hasWeldAt 12 rfl) ⟨Option.some.inj hf, hS⟩
def fX6_reelAt (S : PS) (j : Nat) (a1 : Int32) : Option (Nat × Nat) := if a1.toInt < 0 ∨ 3 < a1.toInt then none else if a1 = 0 then some (5, (4 * j - 1)) else if a1 = 1 then some (5, (4 * j)) else if a1 = 2 then some (5, (4 * j + 1)) else some (5, (4 * j + 2))
set_option maxHeartbeats 4000000 in
set_option maxRecDepth 100000 in
theorem c_X6_reelAt {cy : ClassId × ClassId} {ad : Nat → Nat} {D : va_G} {l : Launch} (S : PS) (j : Nat) (a1 : Int32)  : PMr cy GC ad D l yX6_reelAt (wA yX6_reelAt cX6_reelAt 2 (some (.object "PigLine$Reel"))) rmX6_reelAt [vr 6 j, vi a1] S (fun x S' => x = (fX6_reelAt S j a1) ∧ S' = S) := by
  refine PM.of (lv := [(0, vr 6 j), (1, vi a1)]) GC_ok (by decide) (Nat.le_of_ble_eq_true rfl) rfl (by simp) ?_
  intro p e s m args below meth c A hM
  refine w_iln (q := 1) (n := 1) hM (dtab_at okX6_reelAt 0 rfl) rfl rfl ?_
  by_cases hts1 : a1.toInt < 0 ∨ 3 < a1.toInt
  · refine w_tsOut (n := 52) hM (dtab_at okX6_reelAt 1 rfl) hts1 (by decide) ?_
    refine w_null (n := 53) hM (dtab_at okX6_reelAt 14 rfl) rfl ?_
    exact r_a hM (dtab_at okX6_reelAt 15 rfl) ⟨by rw [fX6_reelAt, if_pos hts1], rfl⟩
  · have htn1 := hts1
    obtain hts1 | hts1 | hts1 | hts1 : a1 = 0 ∨ a1 = 1 ∨ a1 = 2 ∨ a1 = 3 := sw0_4 hts1
    · refine w_tsIn (n := 32) (off := 31) hM (dtab_at okX6_reelAt 1 rfl) (by rw [hts1]; decide) (by rw [hts1]; decide) (by rw [hts1]; rfl) (by decide) ?_
      refine w_aln (q := 0) (n := 33) hM (dtab_at okX6_reelAt 2 rfl) rfl rfl ?_
      refine w_getr (C := RX6) (T := TX6) (i := 0) (k2 := 5) (q := (4 * j - 1)) (n := 36) hM rfl (by decide) rfc_6_0 ly_X6 lkF_X6_12 (dtab_at okX6_reelAt 3 rfl) rfl ?_
      exact r_a hM (dtab_at okX6_reelAt 4 rfl) ⟨by rw [fX6_reelAt, if_neg htn1, if_pos hts1], rfl⟩
    · refine w_tsIn (n := 37) (off := 36) hM (dtab_at okX6_reelAt 1 rfl) (by rw [hts1]; decide) (by rw [hts1]; decide) (by rw [hts1]; rfl) (by decide) ?_
      refine w_aln (q := 0) (n := 38) hM (dtab_at okX6_reelAt 5 rfl) rfl rfl ?_
      refine w_getr (C := RX6) (T := TX6) (i := 1) (k2 := 5) (q := (4 * j)) (n := 41) hM rfl (by decide) rfc_6_1 ly_X6 lkF_X6_18 (dtab_at okX6_reelAt 6 rfl) rfl ?_
      exact r_a hM (dtab_at okX6_reelAt 7 rfl) ⟨by rw [fX6_reelAt, if_neg htn1, if_neg (show ¬ a1 = 0 by rw [hts1]; decide), if_pos hts1], rfl⟩
    · refine w_tsIn (n := 42) (off := 41) hM (dtab_at okX6_reelAt 1 rfl) (by rw [hts1]; decide) (by rw [hts1]; decide) (by rw [hts1]; rfl) (by decide) ?_
      refine w_aln (q := 0) (n := 43) hM (dtab_at okX6_reelAt 8 rfl) rfl rfl ?_
      refine w_getr (C := RX6) (T := TX6) (i := 2) (k2 := 5) (q := (4 * j + 1)) (n := 46) hM rfl (by decide) rfc_6_2 ly_X6 lkF_X6_21 (dtab_at okX6_reelAt 9 rfl) rfl ?_
      exact r_a hM (dtab_at okX6_reelAt 10 rfl) ⟨by rw [fX6_reelAt, if_neg htn1, if_neg (show ¬ a1 = 0 by rw [hts1]; decide), if_neg (show ¬ a1 = 1 by rw [hts1]; decide), if_pos hts1], rfl⟩
    · refine w_tsIn (n := 47) (off := 46) hM (dtab_at okX6_reelAt 1 rfl) (by rw [hts1]; decide) (by rw [hts1]; decide) (by rw [hts1]; rfl) (by decide) ?_
      refine w_aln (q := 0) (n := 48) hM (dtab_at okX6_reelAt 11 rfl) rfl rfl ?_
      refine w_getr (C := RX6) (T := TX6) (i := 3) (k2 := 5) (q := (4 * j + 2)) (n := 51) hM rfl (by decide) rfc_6_3 ly_X6 lkF_X6_24 (dtab_at okX6_reelAt 12 rfl) rfl ?_
      exact r_a hM (dtab_at okX6_reelAt 13 rfl) ⟨by rw [fX6_reelAt, if_neg htn1, if_neg (show ¬ a1 = 0 by rw [hts1]; decide), if_neg (show ¬ a1 = 1 by rw [hts1]; decide), if_neg (show ¬ a1 = 2 by rw [hts1]; decide)], rfl⟩
theorem fX6_reelAt_kind {S : PS} {i : Nat} {a : Int32} {k j : Nat} (hf : fX6_reelAt S i a = some (k, j)) : k = 5 := by
  unfold fX6_reelAt at hf
  split at hf
  · cases hf
  · split at hf
    · cases hf; rfl
    · split at hf
      · cases hf; rfl
      · split at hf
        · cases hf; rfl
        · cases hf; rfl
def fX6_readingsTogether (nF : Nat) (S : PS) (j : Nat) (a1 : Int32) : Option (Int32) := ((fX5_readingAt nF S (4 * j - 1) a1).bind fun r0 => ((fX5_readingAt nF S (4 * j) a1).bind fun r1 => ((fX5_readingAt nF S (4 * j + 1) a1).bind fun r2 => (if (if (if r2 < r1 then r2 else r1) < r0 then (if r2 < r1 then r2 else r1) else r0) = (-1 : Int32) then (some (if r0 < (if r1 < r2 then r2 else r1) then (if r1 < r2 then r2 else r1) else r0)) else (some ((((r0 + r1) + r2) - (if (if r2 < r1 then r2 else r1) < r0 then (if r2 < r1 then r2 else r1) else r0)) - (if r0 < (if r1 < r2 then r2 else r1) then (if r1 < r2 then r2 else r1) else r0)))))))
set_option maxHeartbeats 4000000 in
set_option maxRecDepth 100000 in
theorem c_X6_readingsTogether {cy : ClassId × ClassId} {ad : Nat → Nat} {D : va_G} {l : Launch} (nF : Nat) (S : PS) (j : Nat) (a1 : Int32) (r : Int32) (hf : fX6_readingsTogether nF S j a1 = some r) : PMi cy GC ad D l yX6_readingsTogether (wA yX6_readingsTogether cX6_readingsTogether 7 (some .int)) rmX6_readingsTogether [vr 6 j, vi a1] S (fun x S' => x = r ∧ S' = S) := by
  refine PM.of (lv := [(0, vr 6 j), (1, vi a1)]) GC_ok (by decide) (Nat.le_of_ble_eq_true rfl) rfl (by simp) ?_
  intro p e s m args below meth c A hM
  rw [fX6_readingsTogether] at hf
  obtain ⟨S0, hS⟩ : ∃ S0 : PS, S = S0 := ⟨S, rfl⟩
  rw [show (fun (x : Int32) (S' : PS) => x = r ∧ S' = S) = (fun x S' => x = r ∧ S' = S0) by rw [hS]]
  refine w_aln (q := 0) (n := 1) hM (dtab_at okX6_readingsTogether 0 rfl) rfl rfl ?_
  refine w_getr (C := RX6) (T := TX6) (i := 0) (k2 := 5) (q := (4 * j - 1)) (n := 4) hM rfl (by decide) rfc_6_0 ly_X6 lkF_X6_12 (dtab_at okX6_readingsTogether 1 rfl) rfl ?_
  refine w_iln (q := 1) (n := 5) hM (dtab_at okX6_readingsTogether 2 rfl) rfl rfl ?_
  obtain ⟨r0, hr0, hf⟩ := Option.bind_eq_some_iff.mp hf
  refine w_callVi (n := 8) (As := [vi a1]) (rest := []) (k := 5) (j := (4 * j - 1)) (C := RX5) (T := TX5) (N := 3) hM (c_X5_readingAt nF S (4 * j - 1) a1 r0 hr0) lkM_X6_74 mv_X5_readingAt (by decide) rfl (by decide) rfl (Nat.le_of_ble_eq_true rfl) rfl (dtab_at okX6_readingsTogether 3 rfl) rfl (fun x0 S0 hp0 => ?_)
  obtain ⟨hx_, hs_⟩ := hp0
  have hs_ := hs_.symm
  have hx_ := hx_.symm
  subst hs_
  subst hx_
  refine w_isn (n := 9) (lv' := [(2, vi r0), (0, vr 6 j), (1, vi a1)]) hM (dtab_at okX6_readingsTogether 4 rfl) (by decide) rfl rfl ?_
  refine w_aln (q := 1) (n := 10) hM (dtab_at okX6_readingsTogether 5 rfl) rfl rfl ?_
  refine w_getr (C := RX6) (T := TX6) (i := 1) (k2 := 5) (q := (4 * j)) (n := 13) hM rfl (by decide) rfc_6_1 ly_X6 lkF_X6_18 (dtab_at okX6_readingsTogether 6 rfl) rfl ?_
  refine w_iln (q := 2) (n := 14) hM (dtab_at okX6_readingsTogether 7 rfl) rfl rfl ?_
  obtain ⟨r1, hr1, hf⟩ := Option.bind_eq_some_iff.mp hf
  refine w_callVi (n := 17) (As := [vi a1]) (rest := []) (k := 5) (j := (4 * j)) (C := RX5) (T := TX5) (N := 3) hM (c_X5_readingAt nF S (4 * j) a1 r1 hr1) lkM_X6_74 mv_X5_readingAt (by decide) rfl (by decide) rfl (Nat.le_of_ble_eq_true rfl) rfl (dtab_at okX6_readingsTogether 8 rfl) rfl (fun x1 S1 hp1 => ?_)
  obtain ⟨hx_, hs_⟩ := hp1
  have hs_ := hs_.symm
  have hx_ := hx_.symm
  subst hs_
  subst hx_
  refine w_isn (n := 18) (lv' := [(3, vi r1), (2, vi r0), (0, vr 6 j), (1, vi a1)]) hM (dtab_at okX6_readingsTogether 9 rfl) (by decide) rfl rfl ?_
  refine w_aln (q := 2) (n := 19) hM (dtab_at okX6_readingsTogether 10 rfl) rfl rfl ?_
  refine w_getr (C := RX6) (T := TX6) (i := 2) (k2 := 5) (q := (4 * j + 1)) (n := 22) hM rfl (by decide) rfc_6_2 ly_X6 lkF_X6_21 (dtab_at okX6_readingsTogether 11 rfl) rfl ?_
  refine w_iln (q := 3) (n := 23) hM (dtab_at okX6_readingsTogether 12 rfl) rfl rfl ?_
  obtain ⟨r2, hr2, hf⟩ := Option.bind_eq_some_iff.mp hf
  refine w_callVi (n := 26) (As := [vi a1]) (rest := []) (k := 5) (j := (4 * j + 1)) (C := RX5) (T := TX5) (N := 3) hM (c_X5_readingAt nF S (4 * j + 1) a1 r2 hr2) lkM_X6_74 mv_X5_readingAt (by decide) rfl (by decide) rfl (Nat.le_of_ble_eq_true rfl) rfl (dtab_at okX6_readingsTogether 13 rfl) rfl (fun x2 S2 hp2 => ?_)
  obtain ⟨hx_, hs_⟩ := hp2
  have hs_ := hs_.symm
  have hx_ := hx_.symm
  subst hs_
  subst hx_
  refine w_is (n := 28) (lv' := [(4, vi r2), (3, vi r1), (2, vi r0), (0, vr 6 j), (1, vi a1)]) hM (dtab_at okX6_readingsTogether 14 rfl) (by decide) rfl rfl ?_
  refine w_iln (q := 2) (n := 29) hM (dtab_at okX6_readingsTogether 15 rfl) rfl rfl ?_
  refine w_iln (q := 1) (n := 30) hM (dtab_at okX6_readingsTogether 16 rfl) rfl rfl ?_
  refine w_il (q := 0) (n := 32) hM (dtab_at okX6_readingsTogether 17 rfl) rfl rfl ?_
  refine w_min (n := 35) hM ⟨lkM_X6_77, mS_J9_min_7cf53, iz_J9, mC_J9_min_7cf53⟩ (by decide) (Nat.le_of_ble_eq_true rfl) (dtab_at okX6_readingsTogether 18 rfl) rfl ?_
  refine w_min (n := 38) hM ⟨lkM_X6_77, mS_J9_min_7cf53, iz_J9, mC_J9_min_7cf53⟩ (by decide) (Nat.le_of_ble_eq_true rfl) (dtab_at okX6_readingsTogether 19 rfl) rfl ?_
  refine w_is (n := 40) (lv' := [(5, vi (if (if r2 < r1 then r2 else r1) < r0 then (if r2 < r1 then r2 else r1) else r0)), (4, vi r2), (3, vi r1), (2, vi r0), (0, vr 6 j), (1, vi a1)]) hM (dtab_at okX6_readingsTogether 20 rfl) (by decide) rfl rfl ?_
  refine w_iln (q := 3) (n := 41) hM (dtab_at okX6_readingsTogether 21 rfl) rfl rfl ?_
  refine w_iln (q := 2) (n := 42) hM (dtab_at okX6_readingsTogether 22 rfl) rfl rfl ?_
  refine w_il (q := 1) (n := 44) hM (dtab_at okX6_readingsTogether 23 rfl) rfl rfl ?_
  refine w_max (n := 47) hM ⟨lkM_X6_51, mS_J9_max_7cf53, iz_J9, mC_J9_max_7cf53⟩ (by decide) (Nat.le_of_ble_eq_true rfl) (dtab_at okX6_readingsTogether 24 rfl) rfl ?_
  refine w_max (n := 50) hM ⟨lkM_X6_51, mS_J9_max_7cf53, iz_J9, mC_J9_max_7cf53⟩ (by decide) (Nat.le_of_ble_eq_true rfl) (dtab_at okX6_readingsTogether 25 rfl) rfl ?_
  refine w_is (n := 52) (lv' := [(6, vi (if r0 < (if r1 < r2 then r2 else r1) then (if r1 < r2 then r2 else r1) else r0)), (5, vi (if (if r2 < r1 then r2 else r1) < r0 then (if r2 < r1 then r2 else r1) else r0)), (4, vi r2), (3, vi r1), (2, vi r0), (0, vr 6 j), (1, vi a1)]) hM (dtab_at okX6_readingsTogether 26 rfl) (by decide) rfl rfl ?_
  refine w_il (q := 1) (n := 54) hM (dtab_at okX6_readingsTogether 27 rfl) rfl rfl ?_
  refine w_ic (n := 55) hM (-1 : Int32) (dtab_at okX6_readingsTogether 28 rfl) (by decide) rfl ?_
  refine w_ic_ne (n := 63) (n2 := 58) hM (dtab_at okX6_readingsTogether 29 rfl) (by decide) rfl (fun (h55 : ¬ (if (if r2 < r1 then r2 else r1) < r0 then (if r2 < r1 then r2 else r1) else r0) = (-1 : Int32)) => ?_) (fun (h55 : (if (if r2 < r1 then r2 else r1) < r0 then (if r2 < r1 then r2 else r1) else r0) = (-1 : Int32)) => ?_)
  · skip
    rw [if_neg h55] at hf
    refine w_iln (q := 4) (n := 64) hM (dtab_at okX6_readingsTogether 32 rfl) rfl rfl ?_
    refine w_iln (q := 3) (n := 65) hM (dtab_at okX6_readingsTogether 33 rfl) rfl rfl ?_
    refine w_iadd (n := 66) hM (dtab_at okX6_readingsTogether 34 rfl) rfl ?_
    refine w_il (q := 2) (n := 68) hM (dtab_at okX6_readingsTogether 35 rfl) rfl rfl ?_
    refine w_iadd (n := 69) hM (dtab_at okX6_readingsTogether 36 rfl) rfl ?_
    refine w_il (q := 1) (n := 71) hM (dtab_at okX6_readingsTogether 37 rfl) rfl rfl ?_
    refine w_isub (n := 72) hM (dtab_at okX6_readingsTogether 38 rfl) rfl ?_
    refine w_il (q := 0) (n := 74) hM (dtab_at okX6_readingsTogether 39 rfl) rfl rfl ?_
    refine w_isub (n := 75) hM (dtab_at okX6_readingsTogether 40 rfl) rfl ?_
    exact r_i hM (dtab_at okX6_readingsTogether 41 rfl) ⟨Option.some.inj hf, hS⟩
  · skip
    rw [if_pos h55] at hf
    refine w_il (q := 0) (n := 60) hM (dtab_at okX6_readingsTogether 30 rfl) rfl rfl ?_
    refine w_goto (n := 75) hM (dtab_at okX6_readingsTogether 31 rfl) (by decide) ?_
    exact r_i hM (dtab_at okX6_readingsTogether 41 rfl) ⟨Option.some.inj hf, hS⟩
def BX6_feel_89 (nF : Nat) (k50 : PS → Nat → Int32 → Int32 → Int32 → Int32 → Option (PS)) (S : PS) (v0 : Nat) (v1 : Int32) (v2 : Int32) (v3 : Int32) (v4 : Int32) : Option (PS) := (if v4 < 0 ∨ 150 ≤ v4.toNatClampNeg then none else (if (60 : Int32) ≤ (S.1 v0 11) then (k50 (sta S (v0 + 32) v4.toNatClampNeg (v2 + v1)) v0 v1 (v2 + v1) v3 (v4 + (1 : Int32))) else ((fX5_hasWeldAt nF (sta S (v0 + 32) v4.toNatClampNeg (v2 + v1)) (4 * v0 + 2) v4).bind fun r0 => (if r0 = (0 : Int32) then (k50 (sta S (v0 + 32) v4.toNatClampNeg (v2 + v1)) v0 v1 (v2 + v1) v3 (v4 + (1 : Int32))) else (if (S.1 v0 11) < 0 ∨ 60 ≤ (S.1 v0 11).toNatClampNeg then none else (k50 (sti (sta (sta (sta S (v0 + 32) v4.toNatClampNeg (v2 + v1)) (v0 + 34) (S.1 v0 11).toNatClampNeg v3) (v0 + 36) (S.1 v0 11).toNatClampNeg ((v2 + v1) - v3)) v0 11 ((S.1 v0 11) + (1 : Int32))) v0 v1 (v2 + v1) (v2 + v1) (v4 + (1 : Int32))))))))
set_option maxHeartbeats 4000000 in
set_option maxRecDepth 100000 in
theorem wBX6_feel_89 {cy : ClassId × ClassId} {ad : Nat → Nat} {D : va_G} {p : Program} {l : Launch} {e : Env} {s : State} {m : MethodId} {args : Array Value} {below : List Frame} {meth : Method} {c : Code} {A : Nat → Prop} (hM : MX cy GC ad D p s m args meth c cX6_feel 6 RX6 none A) (nF : Nat) (r : PS) (k50 : PS → Nat → Int32 → Int32 → Int32 → Int32 → Option (PS)) (hk50 : ∀ (S : PS) (v0 : Nat) (v1 : Int32) (v2 : Int32) (v3 : Int32) (v4 : Int32), k50 S v0 v1 v2 v3 v4 = some r → WW cy GC ad D p l e rmX6_feel s m args below meth c 6 A (pov (fun S' => S' = r)) 50 [(0, vr 6 v0), (1, vi v1), (2, vi v2), (3, vi v3), (4, vi v4)] [] S) (S : PS) (v0 : Nat) (v1 : Int32) (v2 : Int32) (v3 : Int32) (v4 : Int32) (hf : BX6_feel_89 nF k50 S v0 v1 v2 v3 v4 = some r) : WW cy GC ad D p l e rmX6_feel s m args below meth c 6 A (pov (fun S' => S' = r)) 89 [(0, vr 6 v0), (1, vi v1), (2, vi v2), (3, vi v3), (4, vi v4)] [] S := by
  rw [BX6_feel_89] at hf
  refine w_iln (q := 2) (n := 90) hM (dtab_at okX6_feel 47 rfl) rfl rfl ?_
  refine w_iln (q := 1) (n := 91) hM (dtab_at okX6_feel 48 rfl) rfl rfl ?_
  refine w_iadd (n := 92) hM (dtab_at okX6_feel 49 rfl) rfl ?_
  refine w_isn (n := 93) (lv' := [(2, vi (v2 + v1)), (0, vr 6 v0), (1, vi v1), (3, vi v3), (4, vi v4)]) hM (dtab_at okX6_feel 50 rfl) (by decide) rfl rfl ?_
  refine w_aln (q := 1) (n := 94) hM (dtab_at okX6_feel 51 rfl) rfl rfl ?_
  refine w_getr (C := RX6) (T := TX6) (i := 5) (k2 := 250) (q := (v0 + 32)) (n := 97) hM rfl (by decide) rfc_6_5 ly_X6 lkF_X6_34 (dtab_at okX6_feel 52 rfl) rfl ?_
  refine w_il (q := 4) (n := 99) hM (dtab_at okX6_feel 53 rfl) rfl rfl ?_
  refine w_iln (q := 0) (n := 100) hM (dtab_at okX6_feel 54 rfl) rfl rfl ?_
  by_cases hg100 : v4 < 0 ∨ 150 ≤ v4.toNatClampNeg
  · rw [if_pos hg100] at hf; cases hf
  rw [if_neg hg100] at hf
  refine w_ast (nn := 150) (n := 101) hM rfl hg100 (dtab_at okX6_feel 55 rfl) rfl ?_
  refine w_aln (q := 1) (n := 102) hM (dtab_at okX6_feel 56 rfl) rfl rfl ?_
  refine w_geti (C := RX6) (T := TX6) (i := 11) (n := 105) hM rfl (by decide) ly_X6 lkF_X6_63 (dtab_at okX6_feel 57 rfl) rfl ?_
  refine w_bi (n := 107) hM (60 : Int32) (dtab_at okX6_feel 58 rfl) (by decide) rfl ?_
  refine w_ic_ge (n := 156) (n2 := 110) hM (dtab_at okX6_feel 59 rfl) (by decide) rfl (fun (h107 : (60 : Int32) ≤ (S.1 v0 11)) => ?_) (fun (h107 : ¬ (60 : Int32) ≤ (S.1 v0 11)) => ?_)
  · skip
    rw [if_pos h107] at hf
    refine w_iinc (q := 4) (n := 159) (v := (v4 + (1 : Int32))) (lv' := [(4, vi (v4 + (1 : Int32))), (2, vi (v2 + v1)), (0, vr 6 v0), (1, vi v1), (3, vi v3)]) hM (dtab_at okX6_feel 87 rfl) rfl rfl (by decide) rfl rfl ?_
    refine w_goto (n := 50) hM (dtab_at okX6_feel 88 rfl) (by decide) ?_
    refine WW.lvs [2, 3, 1, 4, 0] (lv2 := [(0, vr 6 v0), (1, vi v1), (2, vi (v2 + v1)), (3, vi v3), (4, vi (v4 + (1 : Int32)))]) rfl ?_
    exact hk50 (sta S (v0 + 32) v4.toNatClampNeg (v2 + v1)) v0 v1 (v2 + v1) v3 (v4 + (1 : Int32)) hf
  · skip
    rw [if_neg h107] at hf
    refine w_aln (q := 1) (n := 111) hM (dtab_at okX6_feel 60 rfl) rfl rfl ?_
    refine w_getr (C := RX6) (T := TX6) (i := 3) (k2 := 5) (q := (4 * v0 + 2)) (n := 114) hM rfl (by decide) rfc_6_3 ly_X6 lkF_X6_24 (dtab_at okX6_feel 61 rfl) rfl ?_
    refine w_il (q := 4) (n := 116) hM (dtab_at okX6_feel 62 rfl) rfl rfl ?_
    obtain ⟨r0, hr0, hf⟩ := Option.bind_eq_some_iff.mp hf
    refine w_callVi (n := 119) (As := [vi v4]) (rest := []) (k := 5) (j := (4 * v0 + 2)) (C := RX5) (T := TX5) (N := 3) hM (c_X5_hasWeldAt nF (sta S (v0 + 32) v4.toNatClampNeg (v2 + v1)) (4 * v0 + 2) v4 r0 hr0) lkM_X6_70 mv_X5_hasWeldAt (by decide) rfl (by decide) rfl (Nat.le_of_ble_eq_true rfl) rfl (dtab_at okX6_feel 63 rfl) rfl (fun x0 S0 hp0 => ?_)
    obtain ⟨hx_, hs_⟩ := hp0
    have hs_ := hs_.symm
    have hx_ := hx_.symm
    subst hs_
    subst hx_
    refine w_if_eq (n := 156) (n2 := 122) hM (dtab_at okX6_feel 64 rfl) (by decide) rfl (fun (h119 : r0 = (0 : Int32)) => ?_) (fun (h119 : ¬ r0 = (0 : Int32)) => ?_)
    · skip
      rw [if_pos h119] at hf
      refine w_iinc (q := 4) (n := 159) (v := (v4 + (1 : Int32))) (lv' := [(4, vi (v4 + (1 : Int32))), (2, vi (v2 + v1)), (0, vr 6 v0), (1, vi v1), (3, vi v3)]) hM (dtab_at okX6_feel 87 rfl) rfl rfl (by decide) rfl rfl ?_
      refine w_goto (n := 50) hM (dtab_at okX6_feel 88 rfl) (by decide) ?_
      refine WW.lvs [2, 3, 1, 4, 0] (lv2 := [(0, vr 6 v0), (1, vi v1), (2, vi (v2 + v1)), (3, vi v3), (4, vi (v4 + (1 : Int32)))]) rfl ?_
      exact hk50 (sta S (v0 + 32) v4.toNatClampNeg (v2 + v1)) v0 v1 (v2 + v1) v3 (v4 + (1 : Int32)) hf
    · skip
      rw [if_neg h119] at hf
      refine w_aln (q := 1) (n := 123) hM (dtab_at okX6_feel 65 rfl) rfl rfl ?_
      refine w_getr (C := RX6) (T := TX6) (i := 6) (k2 := 160) (q := (v0 + 34)) (n := 126) hM rfl (by decide) rfc_6_6 ly_X6 lkF_X6_38 (dtab_at okX6_feel 66 rfl) rfl ?_
      refine w_aln (q := 1) (n := 127) hM (dtab_at okX6_feel 67 rfl) rfl rfl ?_
      refine w_geti (C := RX6) (T := TX6) (i := 11) (n := 130) hM rfl (by decide) ly_X6 lkF_X6_63 (dtab_at okX6_feel 68 rfl) rfl ?_
      refine w_iln (q := 3) (n := 131) hM (dtab_at okX6_feel 69 rfl) rfl rfl ?_
      by_cases hg131 : (S.1 v0 11) < 0 ∨ 60 ≤ (S.1 v0 11).toNatClampNeg
      · rw [if_pos hg131] at hf; cases hf
      rw [if_neg hg131] at hf
      refine w_ast (nn := 60) (n := 132) hM rfl hg131 (dtab_at okX6_feel 70 rfl) rfl ?_
      refine w_aln (q := 1) (n := 133) hM (dtab_at okX6_feel 71 rfl) rfl rfl ?_
      refine w_getr (C := RX6) (T := TX6) (i := 7) (k2 := 160) (q := (v0 + 36)) (n := 136) hM rfl (by decide) rfc_6_7 ly_X6 lkF_X6_41 (dtab_at okX6_feel 72 rfl) rfl ?_
      refine w_aln (q := 1) (n := 137) hM (dtab_at okX6_feel 73 rfl) rfl rfl ?_
      refine w_geti (C := RX6) (T := TX6) (i := 11) (n := 140) hM rfl (by decide) ly_X6 lkF_X6_63 (dtab_at okX6_feel 74 rfl) rfl ?_
      refine w_iln (q := 0) (n := 141) hM (dtab_at okX6_feel 75 rfl) rfl rfl ?_
      refine w_iln (q := 3) (n := 142) hM (dtab_at okX6_feel 76 rfl) rfl rfl ?_
      refine w_isub (n := 143) hM (dtab_at okX6_feel 77 rfl) rfl ?_
      refine w_ast (nn := 60) (n := 144) hM rfl hg131 (dtab_at okX6_feel 78 rfl) rfl ?_
      refine w_aln (q := 1) (n := 145) hM (dtab_at okX6_feel 79 rfl) rfl rfl ?_
      refine w_dup (n := 146) hM (dtab_at okX6_feel 80 rfl) rfl rfl ?_
      refine w_geti (C := RX6) (T := TX6) (i := 11) (n := 149) hM rfl (by decide) ly_X6 lkF_X6_63 (dtab_at okX6_feel 81 rfl) rfl ?_
      refine w_ic (n := 150) hM (1 : Int32) (dtab_at okX6_feel 82 rfl) (by decide) rfl ?_
      refine w_iadd (n := 151) hM (dtab_at okX6_feel 83 rfl) rfl ?_
      refine w_put (C := RX6) (T := TX6) (i := 11) (ty := .int) (n := 154) hM rfl (by decide) ly_X6 tyX6_ok nmX6 lkF_X6_63 rfl (by decide +kernel) rfl rfl (dtab_at okX6_feel 84 rfl) rfl ?_
      refine w_iln (q := 0) (n := 155) hM (dtab_at okX6_feel 85 rfl) rfl rfl ?_
      refine w_isn (n := 156) (lv' := [(3, vi (v2 + v1)), (2, vi (v2 + v1)), (0, vr 6 v0), (1, vi v1), (4, vi v4)]) hM (dtab_at okX6_feel 86 rfl) (by decide) rfl rfl ?_
      refine w_iinc (q := 4) (n := 159) (v := (v4 + (1 : Int32))) (lv' := [(4, vi (v4 + (1 : Int32))), (3, vi (v2 + v1)), (2, vi (v2 + v1)), (0, vr 6 v0), (1, vi v1)]) hM (dtab_at okX6_feel 87 rfl) rfl rfl (by decide) rfl rfl ?_
      refine w_goto (n := 50) hM (dtab_at okX6_feel 88 rfl) (by decide) ?_
      refine WW.lvs [3, 4, 2, 1, 0] (lv2 := [(0, vr 6 v0), (1, vi v1), (2, vi (v2 + v1)), (3, vi (v2 + v1)), (4, vi (v4 + (1 : Int32)))]) rfl ?_
      exact hk50 (sti (sta (sta (sta S (v0 + 32) v4.toNatClampNeg (v2 + v1)) (v0 + 34) (S.1 v0 11).toNatClampNeg v3) (v0 + 36) (S.1 v0 11).toNatClampNeg ((v2 + v1) - v3)) v0 11 ((S.1 v0 11) + (1 : Int32))) v0 v1 (v2 + v1) (v2 + v1) (v4 + (1 : Int32)) hf
def LX6_feel_50 (nF : Nat) : Nat → PS → Nat → Int32 → Int32 → Int32 → Int32 → Option (PS)
  | 0, _, _, _, _, _, _ => none
  | n + 1, S, v0, v1, v2, v3, v4 => (if (S.1 v0 9) ≤ v4 then (some S) else ((fX6_readingsTogether nF S v0 v4).bind fun r0 => (if r0 = (-1 : Int32) then (BX6_feel_89 nF (LX6_feel_50 nF n) (sti S v0 10 ((S.1 v0 10) + (1 : Int32))) v0 v1 v2 v3 v4) else (BX6_feel_89 nF (LX6_feel_50 nF n) S v0 r0 v2 v3 v4))))
set_option maxHeartbeats 4000000 in
set_option maxRecDepth 100000 in
theorem wLX6_feel_50 {cy : ClassId × ClassId} {ad : Nat → Nat} {D : va_G} {p : Program} {l : Launch} {e : Env} {s : State} {m : MethodId} {args : Array Value} {below : List Frame} {meth : Method} {c : Code} {A : Nat → Prop} (hM : MX cy GC ad D p s m args meth c cX6_feel 6 RX6 none A) (nF : Nat) (r : PS) : ∀ (n : Nat) (S : PS) (v0 : Nat) (v1 : Int32) (v2 : Int32) (v3 : Int32) (v4 : Int32), LX6_feel_50 nF n S v0 v1 v2 v3 v4 = some r → WW cy GC ad D p l e rmX6_feel s m args below meth c 6 A (pov (fun S' => S' = r)) 50 [(0, vr 6 v0), (1, vi v1), (2, vi v2), (3, vi v3), (4, vi v4)] [] S := by
  intro n
  induction n with
  | zero => intro S v0 v1 v2 v3 v4 hf; rw [LX6_feel_50] at hf; cases hf
  | succ n ih =>
    intro S v0 v1 v2 v3 v4 hf
    rw [LX6_feel_50] at hf
    refine w_il (q := 4) (n := 52) hM (dtab_at okX6_feel 27 rfl) rfl rfl ?_
    refine w_aln (q := 0) (n := 53) hM (dtab_at okX6_feel 28 rfl) rfl rfl ?_
    refine w_geti (C := RX6) (T := TX6) (i := 9) (n := 56) hM rfl (by decide) ly_X6 lkF_X6_57 (dtab_at okX6_feel 29 rfl) rfl ?_
    refine w_ic_ge (n := 162) (n2 := 59) hM (dtab_at okX6_feel 30 rfl) (by decide) rfl (fun (h56 : (S.1 v0 9) ≤ v4) => ?_) (fun (h56 : ¬ (S.1 v0 9) ≤ v4) => ?_)
    · skip
      rw [if_pos h56] at hf
      exact r_v hM (dtab_at okX6_feel 89 rfl) (Option.some.inj hf)
    · skip
      rw [if_neg h56] at hf
      refine w_aln (q := 0) (n := 60) hM (dtab_at okX6_feel 31 rfl) rfl rfl ?_
      refine w_il (q := 4) (n := 62) hM (dtab_at okX6_feel 32 rfl) rfl rfl ?_
      obtain ⟨r0, hr0, hf⟩ := Option.bind_eq_some_iff.mp hf
      refine w_callVi (n := 65) (As := [vi v4]) (rest := []) (k := 6) (j := v0) (C := RX6) (T := TX6) (N := 12) hM (c_X6_readingsTogether nF S v0 v4 r0 hr0) lkM_X6_66 mv_X6_readingsTogether (by decide) rfl (by decide) rfl (Nat.le_of_ble_eq_true rfl) rfl (dtab_at okX6_feel 33 rfl) rfl (fun x0 S0 hp0 => ?_)
      obtain ⟨hx_, hs_⟩ := hp0
      have hs_ := hs_.symm
      have hx_ := hx_.symm
      subst hs_
      subst hx_
      refine w_is (n := 67) (lv' := [(5, vi r0), (0, vr 6 v0), (1, vi v1), (2, vi v2), (3, vi v3), (4, vi v4)]) hM (dtab_at okX6_feel 34 rfl) (by decide) rfl rfl ?_
      refine w_il (q := 0) (n := 69) hM (dtab_at okX6_feel 35 rfl) rfl rfl ?_
      refine w_ic (n := 70) hM (-1 : Int32) (dtab_at okX6_feel 36 rfl) (by decide) rfl ?_
      refine w_ic_ne (n := 86) (n2 := 73) hM (dtab_at okX6_feel 37 rfl) (by decide) rfl (fun (h70 : ¬ r0 = (-1 : Int32)) => ?_) (fun (h70 : r0 = (-1 : Int32)) => ?_)
      · skip
        rw [if_neg h70] at hf
        refine w_il (q := 0) (n := 88) hM (dtab_at okX6_feel 45 rfl) rfl rfl ?_
        refine w_isn (n := 89) (lv' := [(1, vi r0), (5, vi r0), (0, vr 6 v0), (2, vi v2), (3, vi v3), (4, vi v4)]) hM (dtab_at okX6_feel 46 rfl) (by decide) rfl rfl ?_
        refine WW.lvs [2, 0, 3, 4, 5] (lv2 := [(0, vr 6 v0), (1, vi r0), (2, vi v2), (3, vi v3), (4, vi v4)]) rfl ?_
        exact wBX6_feel_89 hM nF r (LX6_feel_50 nF n) ih S v0 r0 v2 v3 v4 hf
      · skip
        rw [if_pos h70] at hf
        refine w_aln (q := 1) (n := 74) hM (dtab_at okX6_feel 38 rfl) rfl rfl ?_
        refine w_dup (n := 75) hM (dtab_at okX6_feel 39 rfl) rfl rfl ?_
        refine w_geti (C := RX6) (T := TX6) (i := 10) (n := 78) hM rfl (by decide) ly_X6 lkF_X6_60 (dtab_at okX6_feel 40 rfl) rfl ?_
        refine w_ic (n := 79) hM (1 : Int32) (dtab_at okX6_feel 41 rfl) (by decide) rfl ?_
        refine w_iadd (n := 80) hM (dtab_at okX6_feel 42 rfl) rfl ?_
        refine w_put (C := RX6) (T := TX6) (i := 10) (ty := .int) (n := 83) hM rfl (by decide) ly_X6 tyX6_ok nmX6 lkF_X6_60 rfl (by decide +kernel) rfl rfl (dtab_at okX6_feel 43 rfl) rfl ?_
        refine w_goto (n := 89) hM (dtab_at okX6_feel 44 rfl) (by decide) ?_
        refine WW.lvs [1, 2, 3, 4, 5] (lv2 := [(0, vr 6 v0), (1, vi v1), (2, vi v2), (3, vi v3), (4, vi v4)]) rfl ?_
        exact wBX6_feel_89 hM nF r (LX6_feel_50 nF n) ih (sti S v0 10 ((S.1 v0 10) + (1 : Int32))) v0 v1 v2 v3 v4 hf
def fX6_feel (nF : Nat) (S : PS) (j : Nat) : Option (PS) := (LX6_feel_50 nF nF (sti (sti (sti S j 9 (if (S.1 (4 * j - 1) 2) < (if (S.1 (4 * j) 2) < (S.1 (4 * j + 1) 2) then (S.1 (4 * j + 1) 2) else (S.1 (4 * j) 2)) then (if (S.1 (4 * j) 2) < (S.1 (4 * j + 1) 2) then (S.1 (4 * j + 1) 2) else (S.1 (4 * j) 2)) else (S.1 (4 * j - 1) 2))) j 10 (0 : Int32)) j 11 (0 : Int32)) j (0 : Int32) (0 : Int32) (0 : Int32) (0 : Int32))
set_option maxHeartbeats 4000000 in
set_option maxRecDepth 100000 in
theorem c_X6_feel {cy : ClassId × ClassId} {ad : Nat → Nat} {D : va_G} {l : Launch} (nF : Nat) (S : PS) (j : Nat) (r : PS) (hf : fX6_feel nF S j = some r) : PMv cy GC ad D l yX6_feel (wA yX6_feel cX6_feel 6 none) rmX6_feel [vr 6 j] S (fun S' => S' = r) := by
  refine PM.of (lv := [(0, vr 6 j)]) GC_ok (by decide) (Nat.le_of_ble_eq_true rfl) rfl (by simp) ?_
  intro p e s m args below meth c A hM
  rw [fX6_feel] at hf
  refine w_aln (q := 0) (n := 1) hM (dtab_at okX6_feel 0 rfl) rfl rfl ?_
  refine w_aln (q := 0) (n := 2) hM (dtab_at okX6_feel 1 rfl) rfl rfl ?_
  refine w_getr (C := RX6) (T := TX6) (i := 0) (k2 := 5) (q := (4 * j - 1)) (n := 5) hM rfl (by decide) rfc_6_0 ly_X6 lkF_X6_12 (dtab_at okX6_feel 2 rfl) rfl ?_
  refine w_geti (C := RX5) (T := TX5) (i := 2) (n := 8) hM rfl (by decide) ly_X5 lkF_X6_47 (dtab_at okX6_feel 3 rfl) rfl ?_
  refine w_aln (q := 0) (n := 9) hM (dtab_at okX6_feel 4 rfl) rfl rfl ?_
  refine w_getr (C := RX6) (T := TX6) (i := 1) (k2 := 5) (q := (4 * j)) (n := 12) hM rfl (by decide) rfc_6_1 ly_X6 lkF_X6_18 (dtab_at okX6_feel 5 rfl) rfl ?_
  refine w_geti (C := RX5) (T := TX5) (i := 2) (n := 15) hM rfl (by decide) ly_X5 lkF_X6_47 (dtab_at okX6_feel 6 rfl) rfl ?_
  refine w_aln (q := 0) (n := 16) hM (dtab_at okX6_feel 7 rfl) rfl rfl ?_
  refine w_getr (C := RX6) (T := TX6) (i := 2) (k2 := 5) (q := (4 * j + 1)) (n := 19) hM rfl (by decide) rfc_6_2 ly_X6 lkF_X6_21 (dtab_at okX6_feel 8 rfl) rfl ?_
  refine w_geti (C := RX5) (T := TX5) (i := 2) (n := 22) hM rfl (by decide) ly_X5 lkF_X6_47 (dtab_at okX6_feel 9 rfl) rfl ?_
  refine w_max (n := 25) hM ⟨lkM_X6_51, mS_J9_max_7cf53, iz_J9, mC_J9_max_7cf53⟩ (by decide) (Nat.le_of_ble_eq_true rfl) (dtab_at okX6_feel 10 rfl) rfl ?_
  refine w_max (n := 28) hM ⟨lkM_X6_51, mS_J9_max_7cf53, iz_J9, mC_J9_max_7cf53⟩ (by decide) (Nat.le_of_ble_eq_true rfl) (dtab_at okX6_feel 11 rfl) rfl ?_
  refine w_put (C := RX6) (T := TX6) (i := 9) (ty := .int) (n := 31) hM rfl (by decide) ly_X6 tyX6_ok nmX6 lkF_X6_57 rfl (by decide +kernel) rfl rfl (dtab_at okX6_feel 12 rfl) rfl ?_
  refine w_aln (q := 0) (n := 32) hM (dtab_at okX6_feel 13 rfl) rfl rfl ?_
  refine w_ic (n := 33) hM (0 : Int32) (dtab_at okX6_feel 14 rfl) (by decide) rfl ?_
  refine w_put (C := RX6) (T := TX6) (i := 10) (ty := .int) (n := 36) hM rfl (by decide) ly_X6 tyX6_ok nmX6 lkF_X6_60 rfl (by decide +kernel) rfl rfl (dtab_at okX6_feel 15 rfl) rfl ?_
  refine w_aln (q := 0) (n := 37) hM (dtab_at okX6_feel 16 rfl) rfl rfl ?_
  refine w_ic (n := 38) hM (0 : Int32) (dtab_at okX6_feel 17 rfl) (by decide) rfl ?_
  refine w_put (C := RX6) (T := TX6) (i := 11) (ty := .int) (n := 41) hM rfl (by decide) ly_X6 tyX6_ok nmX6 lkF_X6_63 rfl (by decide +kernel) rfl rfl (dtab_at okX6_feel 18 rfl) rfl ?_
  refine w_ic (n := 42) hM (0 : Int32) (dtab_at okX6_feel 19 rfl) (by decide) rfl ?_
  refine w_isn (n := 43) (lv' := [(1, vi (0 : Int32)), (0, vr 6 j)]) hM (dtab_at okX6_feel 20 rfl) (by decide) rfl rfl ?_
  refine w_ic (n := 44) hM (0 : Int32) (dtab_at okX6_feel 21 rfl) (by decide) rfl ?_
  refine w_isn (n := 45) (lv' := [(2, vi (0 : Int32)), (1, vi (0 : Int32)), (0, vr 6 j)]) hM (dtab_at okX6_feel 22 rfl) (by decide) rfl rfl ?_
  refine w_ic (n := 46) hM (0 : Int32) (dtab_at okX6_feel 23 rfl) (by decide) rfl ?_
  refine w_isn (n := 47) (lv' := [(3, vi (0 : Int32)), (2, vi (0 : Int32)), (1, vi (0 : Int32)), (0, vr 6 j)]) hM (dtab_at okX6_feel 24 rfl) (by decide) rfl rfl ?_
  refine w_ic (n := 48) hM (0 : Int32) (dtab_at okX6_feel 25 rfl) (by decide) rfl ?_
  refine w_is (n := 50) (lv' := [(4, vi (0 : Int32)), (3, vi (0 : Int32)), (2, vi (0 : Int32)), (1, vi (0 : Int32)), (0, vr 6 j)]) hM (dtab_at okX6_feel 26 rfl) (by decide) rfl rfl ?_
  refine WW.lvs [4, 3, 2, 1, 0] (lv2 := [(0, vr 6 j), (1, vi (0 : Int32)), (2, vi (0 : Int32)), (3, vi (0 : Int32)), (4, vi (0 : Int32))]) rfl ?_
  exact wLX6_feel_50 hM nF r nF (sti (sti (sti S j 9 (if (S.1 (4 * j - 1) 2) < (if (S.1 (4 * j) 2) < (S.1 (4 * j + 1) 2) then (S.1 (4 * j + 1) 2) else (S.1 (4 * j) 2)) then (if (S.1 (4 * j) 2) < (S.1 (4 * j + 1) 2) then (S.1 (4 * j + 1) 2) else (S.1 (4 * j) 2)) else (S.1 (4 * j - 1) 2))) j 10 (0 : Int32)) j 11 (0 : Int32)) j (0 : Int32) (0 : Int32) (0 : Int32) (0 : Int32) hf
def fX6_fact (nF : Nat) (S : PS) (j : Nat) (a1 : Int32) : Option (Int32) := (if a1.toInt < 0 ∨ 2 < a1.toInt then (some (S.1 j 11)) else if a1 = 0 then (some (S.1 j 9)) else if a1 = 1 then (some (S.1 j 10)) else (if (S.1 j 9) ≤ (0 : Int32) then (some (0 : Int32)) else (if ((S.1 j 9) - (1 : Int32)) < 0 ∨ 150 ≤ ((S.1 j 9) - (1 : Int32)).toNatClampNeg then none else (some (S.2 (j + 32) ((S.1 j 9) - (1 : Int32)).toNatClampNeg)))))
set_option maxHeartbeats 4000000 in
set_option maxRecDepth 100000 in
theorem c_X6_fact {cy : ClassId × ClassId} {ad : Nat → Nat} {D : va_G} {l : Launch} (nF : Nat) (S : PS) (j : Nat) (a1 : Int32) (r : Int32) (hf : fX6_fact nF S j a1 = some r) : PMi cy GC ad D l yX6_fact (wA yX6_fact cX6_fact 2 (some .int)) rmX6_fact [vr 6 j, vi a1] S (fun x S' => x = r ∧ S' = S) := by
  refine PM.of (lv := [(0, vr 6 j), (1, vi a1)]) GC_ok (by decide) (Nat.le_of_ble_eq_true rfl) rfl (by simp) ?_
  intro p e s m args below meth c A hM
  rw [fX6_fact] at hf
  obtain ⟨S0, hS⟩ : ∃ S0 : PS, S = S0 := ⟨S, rfl⟩
  rw [show (fun (x : Int32) (S' : PS) => x = r ∧ S' = S) = (fun x S' => x = r ∧ S' = S0) by rw [hS]]
  refine w_iln (q := 1) (n := 1) hM (dtab_at okX6_fact 0 rfl) rfl rfl ?_
  by_cases hts1 : a1.toInt < 0 ∨ 2 < a1.toInt
  · refine w_tsOut (n := 61) hM (dtab_at okX6_fact 1 rfl) hts1 (by decide) ?_
    rw [if_pos hts1] at hf
    refine w_aln (q := 0) (n := 62) hM (dtab_at okX6_fact 21 rfl) rfl rfl ?_
    refine w_geti (C := RX6) (T := TX6) (i := 11) (n := 65) hM rfl (by decide) ly_X6 lkF_X6_63 (dtab_at okX6_fact 22 rfl) rfl ?_
    exact r_i hM (dtab_at okX6_fact 23 rfl) ⟨Option.some.inj hf, hS⟩
  · have htn1 := hts1
    obtain hts1 | hts1 | hts1 : a1 = 0 ∨ a1 = 1 ∨ a1 = 2 := sw0_3 hts1
    · refine w_tsIn (n := 28) (off := 27) hM (dtab_at okX6_fact 1 rfl) (by rw [hts1]; decide) (by rw [hts1]; decide) (by rw [hts1]; rfl) (by decide) ?_
      rw [if_neg htn1, if_pos hts1] at hf
      refine w_aln (q := 0) (n := 29) hM (dtab_at okX6_fact 2 rfl) rfl rfl ?_
      refine w_geti (C := RX6) (T := TX6) (i := 9) (n := 32) hM rfl (by decide) ly_X6 lkF_X6_57 (dtab_at okX6_fact 3 rfl) rfl ?_
      exact r_i hM (dtab_at okX6_fact 4 rfl) ⟨Option.some.inj hf, hS⟩
    · refine w_tsIn (n := 33) (off := 32) hM (dtab_at okX6_fact 1 rfl) (by rw [hts1]; decide) (by rw [hts1]; decide) (by rw [hts1]; rfl) (by decide) ?_
      rw [if_neg htn1, if_neg (show ¬ a1 = 0 by rw [hts1]; decide), if_pos hts1] at hf
      refine w_aln (q := 0) (n := 34) hM (dtab_at okX6_fact 5 rfl) rfl rfl ?_
      refine w_geti (C := RX6) (T := TX6) (i := 10) (n := 37) hM rfl (by decide) ly_X6 lkF_X6_60 (dtab_at okX6_fact 6 rfl) rfl ?_
      exact r_i hM (dtab_at okX6_fact 7 rfl) ⟨Option.some.inj hf, hS⟩
    · refine w_tsIn (n := 38) (off := 37) hM (dtab_at okX6_fact 1 rfl) (by rw [hts1]; decide) (by rw [hts1]; decide) (by rw [hts1]; rfl) (by decide) ?_
      rw [if_neg htn1, if_neg (show ¬ a1 = 0 by rw [hts1]; decide), if_neg (show ¬ a1 = 1 by rw [hts1]; decide)] at hf
      refine w_aln (q := 0) (n := 39) hM (dtab_at okX6_fact 8 rfl) rfl rfl ?_
      refine w_geti (C := RX6) (T := TX6) (i := 9) (n := 42) hM rfl (by decide) ly_X6 lkF_X6_57 (dtab_at okX6_fact 9 rfl) rfl ?_
      refine w_if_le (n := 59) (n2 := 45) hM (dtab_at okX6_fact 10 rfl) (by decide) rfl (fun (h42 : (S.1 j 9) ≤ (0 : Int32)) => ?_) (fun (h42 : ¬ (S.1 j 9) ≤ (0 : Int32)) => ?_)
      · skip
        rw [if_pos h42] at hf
        refine w_ic (n := 60) hM (0 : Int32) (dtab_at okX6_fact 19 rfl) (by decide) rfl ?_
        exact r_i hM (dtab_at okX6_fact 20 rfl) ⟨Option.some.inj hf, hS⟩
      · skip
        rw [if_neg h42] at hf
        refine w_aln (q := 0) (n := 46) hM (dtab_at okX6_fact 11 rfl) rfl rfl ?_
        refine w_getr (C := RX6) (T := TX6) (i := 5) (k2 := 250) (q := (j + 32)) (n := 49) hM rfl (by decide) rfc_6_5 ly_X6 lkF_X6_34 (dtab_at okX6_fact 12 rfl) rfl ?_
        refine w_aln (q := 0) (n := 50) hM (dtab_at okX6_fact 13 rfl) rfl rfl ?_
        refine w_geti (C := RX6) (T := TX6) (i := 9) (n := 53) hM rfl (by decide) ly_X6 lkF_X6_57 (dtab_at okX6_fact 14 rfl) rfl ?_
        refine w_ic (n := 54) hM (1 : Int32) (dtab_at okX6_fact 15 rfl) (by decide) rfl ?_
        refine w_isub (n := 55) hM (dtab_at okX6_fact 16 rfl) rfl ?_
        by_cases hg55 : ((S.1 j 9) - (1 : Int32)) < 0 ∨ 150 ≤ ((S.1 j 9) - (1 : Int32)).toNatClampNeg
        · rw [if_pos hg55] at hf; cases hf
        rw [if_neg hg55] at hf
        refine w_ald (nn := 150) (n := 56) hM rfl hg55 (dtab_at okX6_fact 17 rfl) rfl ?_
        refine w_goto (n := 60) hM (dtab_at okX6_fact 18 rfl) (by decide) ?_
        exact r_i hM (dtab_at okX6_fact 20 rfl) ⟨Option.some.inj hf, hS⟩
def fX6_markFact (nF : Nat) (S : PS) (j : Nat) (a1 : Int32) (a2 : Int32) : Option (Int32) := (if a2 = (4 : Int32) then (if a1 < 0 ∨ 40 ≤ a1.toNatClampNeg then none else ((fX6_feltAt nF S j (S.2 ((j + 18) + 2) a1.toNatClampNeg)).bind fun r1 => (some r1))) else ((fX3_fact nF S (j + 18) a1 a2).bind fun r0 => (some r0)))
set_option maxHeartbeats 4000000 in
set_option maxRecDepth 100000 in
theorem c_X6_markFact {cy : ClassId × ClassId} {ad : Nat → Nat} {D : va_G} {l : Launch} (nF : Nat) (S : PS) (j : Nat) (a1 : Int32) (a2 : Int32) (r : Int32) (hf : fX6_markFact nF S j a1 a2 = some r) : PMi cy GC ad D l yX6_markFact (wA yX6_markFact cX6_markFact 3 (some .int)) rmX6_markFact [vr 6 j, vi a1, vi a2] S (fun x S' => x = r ∧ S' = S) := by
  refine PM.of (lv := [(0, vr 6 j), (1, vi a1), (2, vi a2)]) GC_ok (by decide) (Nat.le_of_ble_eq_true rfl) rfl (by simp) ?_
  intro p e s m args below meth c A hM
  rw [fX6_markFact] at hf
  obtain ⟨S0, hS⟩ : ∃ S0 : PS, S = S0 := ⟨S, rfl⟩
  rw [show (fun (x : Int32) (S' : PS) => x = r ∧ S' = S) = (fun x S' => x = r ∧ S' = S0) by rw [hS]]
  refine w_iln (q := 2) (n := 1) hM (dtab_at okX6_markFact 0 rfl) rfl rfl ?_
  refine w_ic (n := 2) hM (4 : Int32) (dtab_at okX6_markFact 1 rfl) (by decide) rfl ?_
  refine w_ic_ne (n := 21) (n2 := 5) hM (dtab_at okX6_markFact 2 rfl) (by decide) rfl (fun (h2 : ¬ a2 = (4 : Int32)) => ?_) (fun (h2 : a2 = (4 : Int32)) => ?_)
  · skip
    rw [if_neg h2] at hf
    refine w_aln (q := 0) (n := 22) hM (dtab_at okX6_markFact 11 rfl) rfl rfl ?_
    refine w_getr (C := RX6) (T := TX6) (i := 4) (k2 := 3) (q := (j + 18)) (n := 25) hM rfl (by decide) rfc_6_4 ly_X6 lkF_X6_30 (dtab_at okX6_markFact 12 rfl) rfl ?_
    refine w_iln (q := 1) (n := 26) hM (dtab_at okX6_markFact 13 rfl) rfl rfl ?_
    refine w_iln (q := 2) (n := 27) hM (dtab_at okX6_markFact 14 rfl) rfl rfl ?_
    obtain ⟨r0, hr0, hf⟩ := Option.bind_eq_some_iff.mp hf
    refine w_callVi (n := 30) (As := [vi a1, vi a2]) (rest := []) (k := 3) (j := (j + 18)) (C := RX3) (T := TX3) (N := 8) hM (c_X3_fact nF S (j + 18) a1 a2 r0 hr0) lkM_X6_84 mv_X3_fact (by decide) rfl (by decide) rfl (Nat.le_of_ble_eq_true rfl) rfl (dtab_at okX6_markFact 15 rfl) rfl (fun x0 S0 hp0 => ?_)
    obtain ⟨hx_, hs_⟩ := hp0
    have hs_ := hs_.symm
    have hx_ := hx_.symm
    subst hs_
    subst hx_
    exact r_i hM (dtab_at okX6_markFact 16 rfl) ⟨Option.some.inj hf, hS⟩
  · skip
    rw [if_pos h2] at hf
    refine w_aln (q := 0) (n := 6) hM (dtab_at okX6_markFact 3 rfl) rfl rfl ?_
    refine w_aln (q := 0) (n := 7) hM (dtab_at okX6_markFact 4 rfl) rfl rfl ?_
    refine w_getr (C := RX6) (T := TX6) (i := 4) (k2 := 3) (q := (j + 18)) (n := 10) hM rfl (by decide) rfc_6_4 ly_X6 lkF_X6_30 (dtab_at okX6_markFact 5 rfl) rfl ?_
    refine w_getr (C := RX3) (T := TX3) (i := 0) (k2 := 140) (q := ((j + 18) + 2)) (n := 13) hM rfl (by decide) rfc_3_0 ly_X3 lkF_X6_80 (dtab_at okX6_markFact 6 rfl) rfl ?_
    refine w_iln (q := 1) (n := 14) hM (dtab_at okX6_markFact 7 rfl) rfl rfl ?_
    by_cases hg14 : a1 < 0 ∨ 40 ≤ a1.toNatClampNeg
    · rw [if_pos hg14] at hf; cases hf
    rw [if_neg hg14] at hf
    refine w_ald (nn := 40) (n := 15) hM rfl hg14 (dtab_at okX6_markFact 8 rfl) rfl ?_
    obtain ⟨r1, hr1, hf⟩ := Option.bind_eq_some_iff.mp hf
    refine w_callVi (n := 18) (As := [vi (S.2 ((j + 18) + 2) a1.toNatClampNeg)]) (rest := []) (k := 6) (j := j) (C := RX6) (T := TX6) (N := 12) hM (c_X6_feltAt nF S j (S.2 ((j + 18) + 2) a1.toNatClampNeg) r1 hr1) lkM_X6_81 mv_X6_feltAt (by decide) rfl (by decide) rfl (Nat.le_of_ble_eq_true rfl) rfl (dtab_at okX6_markFact 9 rfl) rfl (fun x1 S1 hp1 => ?_)
    obtain ⟨hx_, hs_⟩ := hp1
    have hs_ := hs_.symm
    have hx_ := hx_.symm
    subst hs_
    subst hx_
    refine w_goto (n := 30) hM (dtab_at okX6_markFact 10 rfl) (by decide) ?_
    exact r_i hM (dtab_at okX6_markFact 16 rfl) ⟨Option.some.inj hf, hS⟩
def fX7_leastTruly (S : PS) (a1 : Int32) : Int32 := if (0 : Int32) < (a1 - (S.1 54 1)) then (a1 - (S.1 54 1)) else (0 : Int32)
set_option maxHeartbeats 4000000 in
set_option maxRecDepth 100000 in
theorem c_X7_leastTruly {cy : ClassId × ClassId} {ad : Nat → Nat} {D : va_G} {l : Launch} (S : PS) (a1 : Int32)  : PMi cy GC ad D l yX7_leastTruly (wA yX7_leastTruly cX7_leastTruly 2 (some .int)) rmX7_leastTruly [vr 7 54, vi a1] S (fun x S' => x = (fX7_leastTruly S a1) ∧ S' = S) := by
  refine PM.of (lv := [(0, vr 7 54), (1, vi a1)]) GC_ok (by decide) (Nat.le_of_ble_eq_true rfl) rfl (by simp) ?_
  intro p e s m args below meth c A hM
  refine w_ic (n := 1) hM (0 : Int32) (dtab_at okX7_leastTruly 0 rfl) (by decide) rfl ?_
  refine w_iln (q := 1) (n := 2) hM (dtab_at okX7_leastTruly 1 rfl) rfl rfl ?_
  refine w_aln (q := 0) (n := 3) hM (dtab_at okX7_leastTruly 2 rfl) rfl rfl ?_
  refine w_geti (C := RX7) (T := TX7) (i := 1) (n := 6) hM rfl (by decide) ly_X7 lkF_X7_15 (dtab_at okX7_leastTruly 3 rfl) rfl ?_
  refine w_isub (n := 7) hM (dtab_at okX7_leastTruly 4 rfl) rfl ?_
  refine w_max (n := 10) hM ⟨lkM_X7_21, mS_J9_max_7cf53, iz_J9, mC_J9_max_7cf53⟩ (by decide) (Nat.le_of_ble_eq_true rfl) (dtab_at okX7_leastTruly 5 rfl) rfl ?_
  exact r_i hM (dtab_at okX7_leastTruly 6 rfl) ⟨by rw [fX7_leastTruly], rfl⟩
def fX7_mostTruly (S : PS) (a1 : Int32) : Int32 := if (a1 + (S.1 54 1)) < (100 : Int32) then (a1 + (S.1 54 1)) else (100 : Int32)
set_option maxHeartbeats 4000000 in
set_option maxRecDepth 100000 in
theorem c_X7_mostTruly {cy : ClassId × ClassId} {ad : Nat → Nat} {D : va_G} {l : Launch} (S : PS) (a1 : Int32)  : PMi cy GC ad D l yX7_mostTruly (wA yX7_mostTruly cX7_mostTruly 2 (some .int)) rmX7_mostTruly [vr 7 54, vi a1] S (fun x S' => x = (fX7_mostTruly S a1) ∧ S' = S) := by
  refine PM.of (lv := [(0, vr 7 54), (1, vi a1)]) GC_ok (by decide) (Nat.le_of_ble_eq_true rfl) rfl (by simp) ?_
  intro p e s m args below meth c A hM
  refine w_bi (n := 2) hM (100 : Int32) (dtab_at okX7_mostTruly 0 rfl) (by decide) rfl ?_
  refine w_iln (q := 1) (n := 3) hM (dtab_at okX7_mostTruly 1 rfl) rfl rfl ?_
  refine w_aln (q := 0) (n := 4) hM (dtab_at okX7_mostTruly 2 rfl) rfl rfl ?_
  refine w_geti (C := RX7) (T := TX7) (i := 1) (n := 7) hM rfl (by decide) ly_X7 lkF_X7_15 (dtab_at okX7_mostTruly 3 rfl) rfl ?_
  refine w_iadd (n := 8) hM (dtab_at okX7_mostTruly 4 rfl) rfl ?_
  refine w_min (n := 11) hM ⟨lkM_X7_27, mS_J9_min_7cf53, iz_J9, mC_J9_min_7cf53⟩ (by decide) (Nat.le_of_ble_eq_true rfl) (dtab_at okX7_mostTruly 5 rfl) rfl ?_
  exact r_i hM (dtab_at okX7_mostTruly 6 rfl) ⟨by rw [fX7_mostTruly], rfl⟩
def LX7_lastYear_3 (nF : Nat) : Nat → PS → Int32 → Int32 → Int32 → Option (Int32)
  | 0, _, _, _, _ => none
  | n + 1, S, v1, v2, v3 => (if v3 < (0 : Int32) then (some (-1 : Int32)) else (if ((S.1 54 2) * (S.1 54 0)) < ((v1 * (S.1 54 0)) + (v2 * v3)) then (LX7_lastYear_3 nF n S v1 v2 (v3 + (-1 : Int32))) else (some v3)))
set_option maxHeartbeats 4000000 in
set_option maxRecDepth 100000 in
theorem wLX7_lastYear_3 {cy : ClassId × ClassId} {ad : Nat → Nat} {D : va_G} {p : Program} {l : Launch} {e : Env} {s : State} {m : MethodId} {args : Array Value} {below : List Frame} {meth : Method} {c : Code} {A : Nat → Prop} (hM : MX cy GC ad D p s m args meth c cX7_lastYear 4 RX7 (some .int) A) (nF : Nat) (S0 : PS) (r : Int32) : ∀ (n : Nat) (S : PS) (v1 : Int32) (v2 : Int32) (v3 : Int32), S = S0 → LX7_lastYear_3 nF n S v1 v2 v3 = some r → WW cy GC ad D p l e rmX7_lastYear s m args below meth c 4 A (poi (fun x S' => x = r ∧ S' = S0)) 3 [(0, vr 7 54), (1, vi v1), (2, vi v2), (3, vi v3)] [] S := by
  intro n
  induction n with
  | zero => intro S v1 v2 v3 hS hf; rw [LX7_lastYear_3] at hf; cases hf
  | succ n ih =>
    intro S v1 v2 v3 hS hf
    rw [LX7_lastYear_3] at hf
    refine w_iln (q := 3) (n := 4) hM (dtab_at okX7_lastYear 2 rfl) rfl rfl ?_
    refine w_if_lt (n := 37) (n2 := 7) hM (dtab_at okX7_lastYear 3 rfl) (by decide) rfl (fun (h4 : v3 < (0 : Int32)) => ?_) (fun (h4 : ¬ v3 < (0 : Int32)) => ?_)
    · skip
      rw [if_pos h4] at hf
      refine w_ic (n := 38) hM (-1 : Int32) (dtab_at okX7_lastYear 22 rfl) (by decide) rfl ?_
      exact r_i hM (dtab_at okX7_lastYear 23 rfl) ⟨Option.some.inj hf, hS⟩
    · skip
      rw [if_neg h4] at hf
      refine w_iln (q := 1) (n := 8) hM (dtab_at okX7_lastYear 4 rfl) rfl rfl ?_
      refine w_aln (q := 0) (n := 9) hM (dtab_at okX7_lastYear 5 rfl) rfl rfl ?_
      refine w_geti (C := RX7) (T := TX7) (i := 0) (n := 12) hM rfl (by decide) ly_X7 lkF_X7_9 (dtab_at okX7_lastYear 6 rfl) rfl ?_
      refine w_imul (n := 13) hM (dtab_at okX7_lastYear 7 rfl) rfl ?_
      refine w_iln (q := 2) (n := 14) hM (dtab_at okX7_lastYear 8 rfl) rfl rfl ?_
      refine w_iln (q := 3) (n := 15) hM (dtab_at okX7_lastYear 9 rfl) rfl rfl ?_
      refine w_imul (n := 16) hM (dtab_at okX7_lastYear 10 rfl) rfl ?_
      refine w_iadd (n := 17) hM (dtab_at okX7_lastYear 11 rfl) rfl ?_
      refine w_aln (q := 0) (n := 18) hM (dtab_at okX7_lastYear 12 rfl) rfl rfl ?_
      refine w_geti (C := RX7) (T := TX7) (i := 2) (n := 21) hM rfl (by decide) ly_X7 lkF_X7_18 (dtab_at okX7_lastYear 13 rfl) rfl ?_
      refine w_aln (q := 0) (n := 22) hM (dtab_at okX7_lastYear 14 rfl) rfl rfl ?_
      refine w_geti (C := RX7) (T := TX7) (i := 0) (n := 25) hM rfl (by decide) ly_X7 lkF_X7_9 (dtab_at okX7_lastYear 15 rfl) rfl ?_
      refine w_imul (n := 26) hM (dtab_at okX7_lastYear 16 rfl) rfl ?_
      refine w_ic_gt (n := 31) (n2 := 29) hM (dtab_at okX7_lastYear 17 rfl) (by decide) rfl (fun (h26 : ((S.1 54 2) * (S.1 54 0)) < ((v1 * (S.1 54 0)) + (v2 * v3))) => ?_) (fun (h26 : ¬ ((S.1 54 2) * (S.1 54 0)) < ((v1 * (S.1 54 0)) + (v2 * v3))) => ?_)
      · skip
        rw [if_pos h26] at hf
        refine w_iinc (q := 3) (n := 34) (v := (v3 + (-1 : Int32))) (lv' := [(3, vi (v3 + (-1 : Int32))), (0, vr 7 54), (1, vi v1), (2, vi v2)]) hM (dtab_at okX7_lastYear 20 rfl) rfl rfl (by decide) rfl rfl ?_
        refine w_goto (n := 3) hM (dtab_at okX7_lastYear 21 rfl) (by decide) ?_
        refine WW.lvs [1, 2, 3, 0] (lv2 := [(0, vr 7 54), (1, vi v1), (2, vi v2), (3, vi (v3 + (-1 : Int32)))]) rfl ?_
        exact ih S v1 v2 (v3 + (-1 : Int32)) hS hf
      · skip
        rw [if_neg h26] at hf
        refine w_iln (q := 3) (n := 30) hM (dtab_at okX7_lastYear 18 rfl) rfl rfl ?_
        exact r_i hM (dtab_at okX7_lastYear 19 rfl) ⟨Option.some.inj hf, hS⟩
def fX7_lastYear (nF : Nat) (S : PS) (a1 : Int32) (a2 : Int32) : Option (Int32) := (LX7_lastYear_3 nF nF S a1 a2 (99 : Int32))
set_option maxHeartbeats 4000000 in
set_option maxRecDepth 100000 in
theorem c_X7_lastYear {cy : ClassId × ClassId} {ad : Nat → Nat} {D : va_G} {l : Launch} (nF : Nat) (S : PS) (a1 : Int32) (a2 : Int32) (r : Int32) (hf : fX7_lastYear nF S a1 a2 = some r) : PMi cy GC ad D l yX7_lastYear (wA yX7_lastYear cX7_lastYear 4 (some .int)) rmX7_lastYear [vr 7 54, vi a1, vi a2] S (fun x S' => x = r ∧ S' = S) := by
  refine PM.of (lv := [(0, vr 7 54), (1, vi a1), (2, vi a2)]) GC_ok (by decide) (Nat.le_of_ble_eq_true rfl) rfl (by simp) ?_
  intro p e s m args below meth c A hM
  rw [fX7_lastYear] at hf
  obtain ⟨S0, hS⟩ : ∃ S0 : PS, S = S0 := ⟨S, rfl⟩
  rw [show (fun (x : Int32) (S' : PS) => x = r ∧ S' = S) = (fun x S' => x = r ∧ S' = S0) by rw [hS]]
  refine w_bi (n := 2) hM (99 : Int32) (dtab_at okX7_lastYear 0 rfl) (by decide) rfl ?_
  refine w_isn (n := 3) (lv' := [(3, vi (99 : Int32)), (0, vr 7 54), (1, vi a1), (2, vi a2)]) hM (dtab_at okX7_lastYear 1 rfl) (by decide) rfl rfl ?_
  refine WW.lvs [1, 2, 3, 0] (lv2 := [(0, vr 7 54), (1, vi a1), (2, vi a2), (3, vi (99 : Int32))]) rfl ?_
  exact wLX7_lastYear_3 hM nF S0 r nF S a1 a2 (99 : Int32) hS hf
def fX7_fact (nF : Nat) (S : PS) (a1 : Int32) (a2 : Int32) (a3 : Int32) : Option (Int32) := (if a3 = 0 then (some (if (0 : Int32) < ((fX7_leastTruly S a2) - (fX7_mostTruly S a1)) then ((fX7_leastTruly S a2) - (fX7_mostTruly S a1)) else (0 : Int32))) else (if a3 = 1 then (some (if (0 : Int32) < ((fX7_mostTruly S a2) - (fX7_leastTruly S a1)) then ((fX7_mostTruly S a2) - (fX7_leastTruly S a1)) else (0 : Int32))) else ((fX7_lastYear nF S (fX7_mostTruly S a2) (if (0 : Int32) < ((fX7_mostTruly S a2) - (fX7_leastTruly S a1)) then ((fX7_mostTruly S a2) - (fX7_leastTruly S a1)) else (0 : Int32))).bind fun r5 => (some r5))))
set_option maxHeartbeats 4000000 in
set_option maxRecDepth 100000 in
theorem c_X7_fact {cy : ClassId × ClassId} {ad : Nat → Nat} {D : va_G} {l : Launch} (nF : Nat) (S : PS) (a1 : Int32) (a2 : Int32) (a3 : Int32) (r : Int32) (hf : fX7_fact nF S a1 a2 a3 = some r) : PMi cy GC ad D l yX7_fact (wA yX7_fact cX7_fact 5 (some .int)) rmX7_fact [vr 7 54, vi a1, vi a2, vi a3] S (fun x S' => x = r ∧ S' = S) := by
  refine PM.of (lv := [(0, vr 7 54), (1, vi a1), (2, vi a2), (3, vi a3)]) GC_ok (by decide) (Nat.le_of_ble_eq_true rfl) rfl (by simp) ?_
  intro p e s m args below meth c A hM
  rw [fX7_fact] at hf
  obtain ⟨S0, hS⟩ : ∃ S0 : PS, S = S0 := ⟨S, rfl⟩
  rw [show (fun (x : Int32) (S' : PS) => x = r ∧ S' = S) = (fun x S' => x = r ∧ S' = S0) by rw [hS]]
  refine w_ic (n := 1) hM (0 : Int32) (dtab_at okX7_fact 0 rfl) (by decide) rfl ?_
  refine w_aln (q := 0) (n := 2) hM (dtab_at okX7_fact 1 rfl) rfl rfl ?_
  refine w_iln (q := 2) (n := 3) hM (dtab_at okX7_fact 2 rfl) rfl rfl ?_
  refine w_callVi (n := 6) (As := [vi a2]) (rest := [vi (0 : Int32)]) (k := 7) (j := 54) (C := RX7) (T := TX7) (N := 3) hM (c_X7_mostTruly S a2) lkM_X7_30 mv_X7_mostTruly (by decide) rfl (by decide) rfl (Nat.le_of_ble_eq_true rfl) rfl (dtab_at okX7_fact 3 rfl) rfl (fun x0 S0 hp0 => ?_)
  obtain ⟨hx_, hs_⟩ := hp0
  have hs_ := hs_.symm
  subst hs_
  subst hx_
  refine w_aln (q := 0) (n := 7) hM (dtab_at okX7_fact 4 rfl) rfl rfl ?_
  refine w_iln (q := 1) (n := 8) hM (dtab_at okX7_fact 5 rfl) rfl rfl ?_
  refine w_callVi (n := 11) (As := [vi a1]) (rest := [vi (fX7_mostTruly S a2), vi (0 : Int32)]) (k := 7) (j := 54) (C := RX7) (T := TX7) (N := 3) hM (c_X7_leastTruly S a1) lkM_X7_34 mv_X7_leastTruly (by decide) rfl (by decide) rfl (Nat.le_of_ble_eq_true rfl) rfl (dtab_at okX7_fact 6 rfl) rfl (fun x1 S1 hp1 => ?_)
  obtain ⟨hx_, hs_⟩ := hp1
  have hs_ := hs_.symm
  subst hs_
  subst hx_
  refine w_isub (n := 12) hM (dtab_at okX7_fact 7 rfl) rfl ?_
  refine w_max (n := 15) hM ⟨lkM_X7_21, mS_J9_max_7cf53, iz_J9, mC_J9_max_7cf53⟩ (by decide) (Nat.le_of_ble_eq_true rfl) (dtab_at okX7_fact 8 rfl) rfl ?_
  refine w_is (n := 17) (lv' := [(4, vi (if (0 : Int32) < ((fX7_mostTruly S a2) - (fX7_leastTruly S a1)) then ((fX7_mostTruly S a2) - (fX7_leastTruly S a1)) else (0 : Int32))), (0, vr 7 54), (1, vi a1), (2, vi a2), (3, vi a3)]) hM (dtab_at okX7_fact 9 rfl) (by decide) rfl rfl ?_
  refine w_iln (q := 4) (n := 18) hM (dtab_at okX7_fact 10 rfl) rfl rfl ?_
  by_cases hl18_0 : a3 = 0
  · skip
    rw [if_pos hl18_0] at hf
    refine w_look (n := 44) (off := 26) hM (dtab_at okX7_fact 11 rfl) rfl (by rw [hl18_0]; decide) (by decide) ?_
    refine w_ic (n := 45) hM (0 : Int32) (dtab_at okX7_fact 12 rfl) (by decide) rfl ?_
    refine w_aln (q := 1) (n := 46) hM (dtab_at okX7_fact 13 rfl) rfl rfl ?_
    refine w_iln (q := 3) (n := 47) hM (dtab_at okX7_fact 14 rfl) rfl rfl ?_
    refine w_callVi (n := 50) (As := [vi a2]) (rest := [vi (0 : Int32)]) (k := 7) (j := 54) (C := RX7) (T := TX7) (N := 3) hM (c_X7_leastTruly S a2) lkM_X7_34 mv_X7_leastTruly (by decide) rfl (by decide) rfl (Nat.le_of_ble_eq_true rfl) rfl (dtab_at okX7_fact 15 rfl) rfl (fun x2 S2 hp2 => ?_)
    obtain ⟨hx_, hs_⟩ := hp2
    have hs_ := hs_.symm
    subst hs_
    subst hx_
    refine w_aln (q := 1) (n := 51) hM (dtab_at okX7_fact 16 rfl) rfl rfl ?_
    refine w_iln (q := 2) (n := 52) hM (dtab_at okX7_fact 17 rfl) rfl rfl ?_
    refine w_callVi (n := 55) (As := [vi a1]) (rest := [vi (fX7_leastTruly S a2), vi (0 : Int32)]) (k := 7) (j := 54) (C := RX7) (T := TX7) (N := 3) hM (c_X7_mostTruly S a1) lkM_X7_30 mv_X7_mostTruly (by decide) rfl (by decide) rfl (Nat.le_of_ble_eq_true rfl) rfl (dtab_at okX7_fact 18 rfl) rfl (fun x3 S3 hp3 => ?_)
    obtain ⟨hx_, hs_⟩ := hp3
    have hs_ := hs_.symm
    subst hs_
    subst hx_
    refine w_isub (n := 56) hM (dtab_at okX7_fact 19 rfl) rfl ?_
    refine w_max (n := 59) hM ⟨lkM_X7_21, mS_J9_max_7cf53, iz_J9, mC_J9_max_7cf53⟩ (by decide) (Nat.le_of_ble_eq_true rfl) (dtab_at okX7_fact 20 rfl) rfl ?_
    exact r_i hM (dtab_at okX7_fact 21 rfl) ⟨Option.some.inj hf, hS⟩
  rw [if_neg hl18_0] at hf
  by_cases hl18_1 : a3 = 1
  · skip
    rw [if_pos hl18_1] at hf
    refine w_look (n := 60) (off := 42) hM (dtab_at okX7_fact 11 rfl) rfl (by rw [hl18_1]; decide) (by decide) ?_
    refine w_il (q := 0) (n := 62) hM (dtab_at okX7_fact 22 rfl) rfl rfl ?_
    exact r_i hM (dtab_at okX7_fact 23 rfl) ⟨Option.some.inj hf, hS⟩
  rw [if_neg hl18_1] at hf
  refine w_look (n := 63) (off := 45) hM (dtab_at okX7_fact 11 rfl) rfl (by rw [Op.lookupswitch.offset_cons, if_neg (fun q => hl18_0 (i32_of 0 q.symm rfl)), Op.lookupswitch.offset_cons, if_neg (fun q => hl18_1 (i32_of 1 q.symm rfl))]; rfl) (by decide) ?_
  refine w_aln (q := 1) (n := 64) hM (dtab_at okX7_fact 24 rfl) rfl rfl ?_
  refine w_aln (q := 1) (n := 65) hM (dtab_at okX7_fact 25 rfl) rfl rfl ?_
  refine w_iln (q := 3) (n := 66) hM (dtab_at okX7_fact 26 rfl) rfl rfl ?_
  refine w_callVi (n := 69) (As := [vi a2]) (rest := [vr 7 54]) (k := 7) (j := 54) (C := RX7) (T := TX7) (N := 3) hM (c_X7_mostTruly S a2) lkM_X7_30 mv_X7_mostTruly (by decide) rfl (by decide) rfl (Nat.le_of_ble_eq_true rfl) rfl (dtab_at okX7_fact 27 rfl) rfl (fun x4 S4 hp4 => ?_)
  obtain ⟨hx_, hs_⟩ := hp4
  have hs_ := hs_.symm
  subst hs_
  subst hx_
  refine w_il (q := 0) (n := 71) hM (dtab_at okX7_fact 28 rfl) rfl rfl ?_
  obtain ⟨r5, hr5, hf⟩ := Option.bind_eq_some_iff.mp hf
  refine w_callVi (n := 74) (As := [vi (fX7_mostTruly S a2), vi (if (0 : Int32) < ((fX7_mostTruly S a2) - (fX7_leastTruly S a1)) then ((fX7_mostTruly S a2) - (fX7_leastTruly S a1)) else (0 : Int32))]) (rest := []) (k := 7) (j := 54) (C := RX7) (T := TX7) (N := 3) hM (c_X7_lastYear nF S (fX7_mostTruly S a2) (if (0 : Int32) < ((fX7_mostTruly S a2) - (fX7_leastTruly S a1)) then ((fX7_mostTruly S a2) - (fX7_leastTruly S a1)) else (0 : Int32)) r5 hr5) lkM_X7_37 mv_X7_lastYear (by decide) rfl (by decide) rfl (Nat.le_of_ble_eq_true rfl) rfl (dtab_at okX7_fact 29 rfl) rfl (fun x5 S5 hp5 => ?_)
  obtain ⟨hx_, hs_⟩ := hp5
  have hs_ := hs_.symm
  have hx_ := hx_.symm
  subst hs_
  subst hx_
  exact r_i hM (dtab_at okX7_fact 30 rfl) ⟨Option.some.inj hf, hS⟩
def fX8_isOpen (S : PS) (a1 : Int32) : Int32 := if (((S.1 58 0) >>> (a1 &&& 31)) &&& (1 : Int32)) = (0 : Int32) then (0 : Int32) else (1 : Int32)
set_option maxHeartbeats 4000000 in
set_option maxRecDepth 100000 in
theorem c_X8_isOpen {cy : ClassId × ClassId} {ad : Nat → Nat} {D : va_G} {l : Launch} (S : PS) (a1 : Int32)  : PMi cy GC ad D l yX8_isOpen (wA yX8_isOpen cX8_isOpen 2 (some .boolean)) rmX8_isOpen [vr 8 58, vi a1] S (fun x S' => x = (fX8_isOpen S a1) ∧ S' = S) := by
  refine PM.of (lv := [(0, vr 8 58), (1, vi a1)]) GC_ok (by decide) (Nat.le_of_ble_eq_true rfl) rfl (by simp) ?_
  intro p e s m args below meth c A hM
  refine w_aln (q := 0) (n := 1) hM (dtab_at okX8_isOpen 0 rfl) rfl rfl ?_
  refine w_geti (C := RX8) (T := TX8) (i := 0) (n := 4) hM rfl (by decide) ly_X8 lkF_X8_9 (dtab_at okX8_isOpen 1 rfl) rfl ?_
  refine w_iln (q := 1) (n := 5) hM (dtab_at okX8_isOpen 2 rfl) rfl rfl ?_
  refine w_ishr (n := 6) hM (dtab_at okX8_isOpen 3 rfl) rfl ?_
  refine w_ic (n := 7) hM (1 : Int32) (dtab_at okX8_isOpen 4 rfl) (by decide) rfl ?_
  refine w_iand (n := 8) hM (dtab_at okX8_isOpen 5 rfl) rfl ?_
  refine w_if_eq (n := 15) (n2 := 11) hM (dtab_at okX8_isOpen 6 rfl) (by decide) rfl (fun (h8 : (((S.1 58 0) >>> (a1 &&& 31)) &&& (1 : Int32)) = (0 : Int32)) => ?_) (fun (h8 : ¬ (((S.1 58 0) >>> (a1 &&& 31)) &&& (1 : Int32)) = (0 : Int32)) => ?_)
  · skip
    refine w_ic (n := 16) hM (0 : Int32) (dtab_at okX8_isOpen 9 rfl) (by decide) rfl ?_
    exact r_z hM (by decide) (dtab_at okX8_isOpen 10 rfl) ⟨by rw [fX8_isOpen, if_pos h8], rfl⟩
  · skip
    refine w_ic (n := 12) hM (1 : Int32) (dtab_at okX8_isOpen 7 rfl) (by decide) rfl ?_
    refine w_goto (n := 16) hM (dtab_at okX8_isOpen 8 rfl) (by decide) ?_
    exact r_z hM (by decide) (dtab_at okX8_isOpen 10 rfl) ⟨by rw [fX8_isOpen, if_neg h8], rfl⟩
def fX8_mayOpen (S : PS) (a1 : Int32) : Int32 := if a1.toInt < 0 ∨ 3 < a1.toInt then (0 : Int32) else if a1 = 0 then (if (fX8_isOpen S (3 : Int32)) = (0 : Int32) then (if (fX8_isOpen S (2 : Int32)) = (0 : Int32) then (1 : Int32) else (0 : Int32)) else (0 : Int32)) else if a1 = 1 then (if (fX8_isOpen S (3 : Int32)) = (0 : Int32) then (if (fX8_isOpen S (2 : Int32)) = (0 : Int32) then (1 : Int32) else (0 : Int32)) else (0 : Int32)) else if a1 = 2 then (if (fX8_isOpen S (0 : Int32)) = (0 : Int32) then (if (fX8_isOpen S (1 : Int32)) = (0 : Int32) then (1 : Int32) else (0 : Int32)) else (0 : Int32)) else (if (S.1 58 1) = (0 : Int32) then (if (fX8_isOpen S (2 : Int32)) = (0 : Int32) then (0 : Int32) else (1 : Int32)) else (0 : Int32))
set_option maxHeartbeats 4000000 in
set_option maxRecDepth 100000 in
theorem c_X8_mayOpen {cy : ClassId × ClassId} {ad : Nat → Nat} {D : va_G} {l : Launch} (S : PS) (a1 : Int32)  : PMi cy GC ad D l yX8_mayOpen (wA yX8_mayOpen cX8_mayOpen 2 (some .boolean)) rmX8_mayOpen [vr 8 58, vi a1] S (fun x S' => x = (fX8_mayOpen S a1) ∧ S' = S) := by
  refine PM.of (lv := [(0, vr 8 58), (1, vi a1)]) GC_ok (by decide) (Nat.le_of_ble_eq_true rfl) rfl (by simp) ?_
  intro p e s m args below meth c A hM
  refine w_iln (q := 1) (n := 1) hM (dtab_at okX8_mayOpen 0 rfl) rfl rfl ?_
  by_cases hts1 : a1.toInt < 0 ∨ 3 < a1.toInt
  · refine w_tsOut (n := 97) hM (dtab_at okX8_mayOpen 1 rfl) hts1 (by decide) ?_
    refine w_ic (n := 98) hM (0 : Int32) (dtab_at okX8_mayOpen 37 rfl) (by decide) rfl ?_
    exact r_z hM (by decide) (dtab_at okX8_mayOpen 38 rfl) ⟨by rw [fX8_mayOpen, if_pos hts1], rfl⟩
  · have htn1 := hts1
    obtain hts1 | hts1 | hts1 | hts1 : a1 = 0 ∨ a1 = 1 ∨ a1 = 2 ∨ a1 = 3 := sw0_4 hts1
    · refine w_tsIn (n := 32) (off := 31) hM (dtab_at okX8_mayOpen 1 rfl) (by rw [hts1]; decide) (by rw [hts1]; decide) (by rw [hts1]; rfl) (by decide) ?_
      refine w_aln (q := 0) (n := 33) hM (dtab_at okX8_mayOpen 2 rfl) rfl rfl ?_
      refine w_ic (n := 34) hM (3 : Int32) (dtab_at okX8_mayOpen 3 rfl) (by decide) rfl ?_
      refine w_callVi (n := 37) (As := [vi (3 : Int32)]) (rest := []) (k := 8) (j := 58) (C := RX8) (T := TX8) (N := 2) hM (c_X8_isOpen S (3 : Int32)) lkM_X8_19 mv_X8_isOpen (by decide) rfl (by decide) rfl (Nat.le_of_ble_eq_true rfl) rfl (dtab_at okX8_mayOpen 4 rfl) rfl (fun x0 S0 hp0 => ?_)
      obtain ⟨hx_, hs_⟩ := hp0
      have hs_ := hs_.symm
      subst hs_
      subst hx_
      refine w_if_ne (n := 52) (n2 := 40) hM (dtab_at okX8_mayOpen 5 rfl) (by decide) rfl (fun (h37 : ¬ (fX8_isOpen S (3 : Int32)) = (0 : Int32)) => ?_) (fun (h37 : (fX8_isOpen S (3 : Int32)) = (0 : Int32)) => ?_)
      · skip
        refine w_ic (n := 53) hM (0 : Int32) (dtab_at okX8_mayOpen 12 rfl) (by decide) rfl ?_
        exact r_z hM (by decide) (dtab_at okX8_mayOpen 13 rfl) ⟨by rw [fX8_mayOpen, if_neg htn1, if_pos hts1, if_neg h37], rfl⟩
      · skip
        refine w_aln (q := 0) (n := 41) hM (dtab_at okX8_mayOpen 6 rfl) rfl rfl ?_
        refine w_ic (n := 42) hM (2 : Int32) (dtab_at okX8_mayOpen 7 rfl) (by decide) rfl ?_
        refine w_callVi (n := 45) (As := [vi (2 : Int32)]) (rest := []) (k := 8) (j := 58) (C := RX8) (T := TX8) (N := 2) hM (c_X8_isOpen S (2 : Int32)) lkM_X8_19 mv_X8_isOpen (by decide) rfl (by decide) rfl (Nat.le_of_ble_eq_true rfl) rfl (dtab_at okX8_mayOpen 8 rfl) rfl (fun x1 S1 hp1 => ?_)
        obtain ⟨hx_, hs_⟩ := hp1
        have hs_ := hs_.symm
        subst hs_
        subst hx_
        refine w_if_ne (n := 52) (n2 := 48) hM (dtab_at okX8_mayOpen 9 rfl) (by decide) rfl (fun (h45 : ¬ (fX8_isOpen S (2 : Int32)) = (0 : Int32)) => ?_) (fun (h45 : (fX8_isOpen S (2 : Int32)) = (0 : Int32)) => ?_)
        · skip
          refine w_ic (n := 53) hM (0 : Int32) (dtab_at okX8_mayOpen 12 rfl) (by decide) rfl ?_
          exact r_z hM (by decide) (dtab_at okX8_mayOpen 13 rfl) ⟨by rw [fX8_mayOpen, if_neg htn1, if_pos hts1, if_pos h37, if_neg h45], rfl⟩
        · skip
          refine w_ic (n := 49) hM (1 : Int32) (dtab_at okX8_mayOpen 10 rfl) (by decide) rfl ?_
          refine w_goto (n := 53) hM (dtab_at okX8_mayOpen 11 rfl) (by decide) ?_
          exact r_z hM (by decide) (dtab_at okX8_mayOpen 13 rfl) ⟨by rw [fX8_mayOpen, if_neg htn1, if_pos hts1, if_pos h37, if_pos h45], rfl⟩
    · refine w_tsIn (n := 32) (off := 31) hM (dtab_at okX8_mayOpen 1 rfl) (by rw [hts1]; decide) (by rw [hts1]; decide) (by rw [hts1]; rfl) (by decide) ?_
      refine w_aln (q := 0) (n := 33) hM (dtab_at okX8_mayOpen 2 rfl) rfl rfl ?_
      refine w_ic (n := 34) hM (3 : Int32) (dtab_at okX8_mayOpen 3 rfl) (by decide) rfl ?_
      refine w_callVi (n := 37) (As := [vi (3 : Int32)]) (rest := []) (k := 8) (j := 58) (C := RX8) (T := TX8) (N := 2) hM (c_X8_isOpen S (3 : Int32)) lkM_X8_19 mv_X8_isOpen (by decide) rfl (by decide) rfl (Nat.le_of_ble_eq_true rfl) rfl (dtab_at okX8_mayOpen 4 rfl) rfl (fun x2 S2 hp2 => ?_)
      obtain ⟨hx_, hs_⟩ := hp2
      have hs_ := hs_.symm
      subst hs_
      subst hx_
      refine w_if_ne (n := 52) (n2 := 40) hM (dtab_at okX8_mayOpen 5 rfl) (by decide) rfl (fun (h37 : ¬ (fX8_isOpen S (3 : Int32)) = (0 : Int32)) => ?_) (fun (h37 : (fX8_isOpen S (3 : Int32)) = (0 : Int32)) => ?_)
      · skip
        refine w_ic (n := 53) hM (0 : Int32) (dtab_at okX8_mayOpen 12 rfl) (by decide) rfl ?_
        exact r_z hM (by decide) (dtab_at okX8_mayOpen 13 rfl) ⟨by rw [fX8_mayOpen, if_neg htn1, if_neg (show ¬ a1 = 0 by rw [hts1]; decide), if_pos hts1, if_neg h37], rfl⟩
      · skip
        refine w_aln (q := 0) (n := 41) hM (dtab_at okX8_mayOpen 6 rfl) rfl rfl ?_
        refine w_ic (n := 42) hM (2 : Int32) (dtab_at okX8_mayOpen 7 rfl) (by decide) rfl ?_
        refine w_callVi (n := 45) (As := [vi (2 : Int32)]) (rest := []) (k := 8) (j := 58) (C := RX8) (T := TX8) (N := 2) hM (c_X8_isOpen S (2 : Int32)) lkM_X8_19 mv_X8_isOpen (by decide) rfl (by decide) rfl (Nat.le_of_ble_eq_true rfl) rfl (dtab_at okX8_mayOpen 8 rfl) rfl (fun x3 S3 hp3 => ?_)
        obtain ⟨hx_, hs_⟩ := hp3
        have hs_ := hs_.symm
        subst hs_
        subst hx_
        refine w_if_ne (n := 52) (n2 := 48) hM (dtab_at okX8_mayOpen 9 rfl) (by decide) rfl (fun (h45 : ¬ (fX8_isOpen S (2 : Int32)) = (0 : Int32)) => ?_) (fun (h45 : (fX8_isOpen S (2 : Int32)) = (0 : Int32)) => ?_)
        · skip
          refine w_ic (n := 53) hM (0 : Int32) (dtab_at okX8_mayOpen 12 rfl) (by decide) rfl ?_
          exact r_z hM (by decide) (dtab_at okX8_mayOpen 13 rfl) ⟨by rw [fX8_mayOpen, if_neg htn1, if_neg (show ¬ a1 = 0 by rw [hts1]; decide), if_pos hts1, if_pos h37, if_neg h45], rfl⟩
        · skip
          refine w_ic (n := 49) hM (1 : Int32) (dtab_at okX8_mayOpen 10 rfl) (by decide) rfl ?_
          refine w_goto (n := 53) hM (dtab_at okX8_mayOpen 11 rfl) (by decide) ?_
          exact r_z hM (by decide) (dtab_at okX8_mayOpen 13 rfl) ⟨by rw [fX8_mayOpen, if_neg htn1, if_neg (show ¬ a1 = 0 by rw [hts1]; decide), if_pos hts1, if_pos h37, if_pos h45], rfl⟩
    · refine w_tsIn (n := 54) (off := 53) hM (dtab_at okX8_mayOpen 1 rfl) (by rw [hts1]; decide) (by rw [hts1]; decide) (by rw [hts1]; rfl) (by decide) ?_
      refine w_aln (q := 0) (n := 55) hM (dtab_at okX8_mayOpen 14 rfl) rfl rfl ?_
      refine w_ic (n := 56) hM (0 : Int32) (dtab_at okX8_mayOpen 15 rfl) (by decide) rfl ?_
      refine w_callVi (n := 59) (As := [vi (0 : Int32)]) (rest := []) (k := 8) (j := 58) (C := RX8) (T := TX8) (N := 2) hM (c_X8_isOpen S (0 : Int32)) lkM_X8_19 mv_X8_isOpen (by decide) rfl (by decide) rfl (Nat.le_of_ble_eq_true rfl) rfl (dtab_at okX8_mayOpen 16 rfl) rfl (fun x4 S4 hp4 => ?_)
      obtain ⟨hx_, hs_⟩ := hp4
      have hs_ := hs_.symm
      subst hs_
      subst hx_
      refine w_if_ne (n := 74) (n2 := 62) hM (dtab_at okX8_mayOpen 17 rfl) (by decide) rfl (fun (h59 : ¬ (fX8_isOpen S (0 : Int32)) = (0 : Int32)) => ?_) (fun (h59 : (fX8_isOpen S (0 : Int32)) = (0 : Int32)) => ?_)
      · skip
        refine w_ic (n := 75) hM (0 : Int32) (dtab_at okX8_mayOpen 24 rfl) (by decide) rfl ?_
        exact r_z hM (by decide) (dtab_at okX8_mayOpen 25 rfl) ⟨by rw [fX8_mayOpen, if_neg htn1, if_neg (show ¬ a1 = 0 by rw [hts1]; decide), if_neg (show ¬ a1 = 1 by rw [hts1]; decide), if_pos hts1, if_neg h59], rfl⟩
      · skip
        refine w_aln (q := 0) (n := 63) hM (dtab_at okX8_mayOpen 18 rfl) rfl rfl ?_
        refine w_ic (n := 64) hM (1 : Int32) (dtab_at okX8_mayOpen 19 rfl) (by decide) rfl ?_
        refine w_callVi (n := 67) (As := [vi (1 : Int32)]) (rest := []) (k := 8) (j := 58) (C := RX8) (T := TX8) (N := 2) hM (c_X8_isOpen S (1 : Int32)) lkM_X8_19 mv_X8_isOpen (by decide) rfl (by decide) rfl (Nat.le_of_ble_eq_true rfl) rfl (dtab_at okX8_mayOpen 20 rfl) rfl (fun x5 S5 hp5 => ?_)
        obtain ⟨hx_, hs_⟩ := hp5
        have hs_ := hs_.symm
        subst hs_
        subst hx_
        refine w_if_ne (n := 74) (n2 := 70) hM (dtab_at okX8_mayOpen 21 rfl) (by decide) rfl (fun (h67 : ¬ (fX8_isOpen S (1 : Int32)) = (0 : Int32)) => ?_) (fun (h67 : (fX8_isOpen S (1 : Int32)) = (0 : Int32)) => ?_)
        · skip
          refine w_ic (n := 75) hM (0 : Int32) (dtab_at okX8_mayOpen 24 rfl) (by decide) rfl ?_
          exact r_z hM (by decide) (dtab_at okX8_mayOpen 25 rfl) ⟨by rw [fX8_mayOpen, if_neg htn1, if_neg (show ¬ a1 = 0 by rw [hts1]; decide), if_neg (show ¬ a1 = 1 by rw [hts1]; decide), if_pos hts1, if_pos h59, if_neg h67], rfl⟩
        · skip
          refine w_ic (n := 71) hM (1 : Int32) (dtab_at okX8_mayOpen 22 rfl) (by decide) rfl ?_
          refine w_goto (n := 75) hM (dtab_at okX8_mayOpen 23 rfl) (by decide) ?_
          exact r_z hM (by decide) (dtab_at okX8_mayOpen 25 rfl) ⟨by rw [fX8_mayOpen, if_neg htn1, if_neg (show ¬ a1 = 0 by rw [hts1]; decide), if_neg (show ¬ a1 = 1 by rw [hts1]; decide), if_pos hts1, if_pos h59, if_pos h67], rfl⟩
    · refine w_tsIn (n := 76) (off := 75) hM (dtab_at okX8_mayOpen 1 rfl) (by rw [hts1]; decide) (by rw [hts1]; decide) (by rw [hts1]; rfl) (by decide) ?_
      refine w_aln (q := 0) (n := 77) hM (dtab_at okX8_mayOpen 26 rfl) rfl rfl ?_
      refine w_geti (C := RX8) (T := TX8) (i := 1) (n := 80) hM rfl (by decide) ly_X8 lkF_X8_15 (dtab_at okX8_mayOpen 27 rfl) rfl ?_
      refine w_if_ne (n := 95) (n2 := 83) hM (dtab_at okX8_mayOpen 28 rfl) (by decide) rfl (fun (h80 : ¬ (S.1 58 1) = (0 : Int32)) => ?_) (fun (h80 : (S.1 58 1) = (0 : Int32)) => ?_)
      · skip
        refine w_ic (n := 96) hM (0 : Int32) (dtab_at okX8_mayOpen 35 rfl) (by decide) rfl ?_
        exact r_z hM (by decide) (dtab_at okX8_mayOpen 36 rfl) ⟨by rw [fX8_mayOpen, if_neg htn1, if_neg (show ¬ a1 = 0 by rw [hts1]; decide), if_neg (show ¬ a1 = 1 by rw [hts1]; decide), if_neg (show ¬ a1 = 2 by rw [hts1]; decide), if_neg h80], rfl⟩
      · skip
        refine w_aln (q := 0) (n := 84) hM (dtab_at okX8_mayOpen 29 rfl) rfl rfl ?_
        refine w_ic (n := 85) hM (2 : Int32) (dtab_at okX8_mayOpen 30 rfl) (by decide) rfl ?_
        refine w_callVi (n := 88) (As := [vi (2 : Int32)]) (rest := []) (k := 8) (j := 58) (C := RX8) (T := TX8) (N := 2) hM (c_X8_isOpen S (2 : Int32)) lkM_X8_19 mv_X8_isOpen (by decide) rfl (by decide) rfl (Nat.le_of_ble_eq_true rfl) rfl (dtab_at okX8_mayOpen 31 rfl) rfl (fun x6 S6 hp6 => ?_)
        obtain ⟨hx_, hs_⟩ := hp6
        have hs_ := hs_.symm
        subst hs_
        subst hx_
        refine w_if_eq (n := 95) (n2 := 91) hM (dtab_at okX8_mayOpen 32 rfl) (by decide) rfl (fun (h88 : (fX8_isOpen S (2 : Int32)) = (0 : Int32)) => ?_) (fun (h88 : ¬ (fX8_isOpen S (2 : Int32)) = (0 : Int32)) => ?_)
        · skip
          refine w_ic (n := 96) hM (0 : Int32) (dtab_at okX8_mayOpen 35 rfl) (by decide) rfl ?_
          exact r_z hM (by decide) (dtab_at okX8_mayOpen 36 rfl) ⟨by rw [fX8_mayOpen, if_neg htn1, if_neg (show ¬ a1 = 0 by rw [hts1]; decide), if_neg (show ¬ a1 = 1 by rw [hts1]; decide), if_neg (show ¬ a1 = 2 by rw [hts1]; decide), if_pos h80, if_pos h88], rfl⟩
        · skip
          refine w_ic (n := 92) hM (1 : Int32) (dtab_at okX8_mayOpen 33 rfl) (by decide) rfl ?_
          refine w_goto (n := 96) hM (dtab_at okX8_mayOpen 34 rfl) (by decide) ?_
          exact r_z hM (by decide) (dtab_at okX8_mayOpen 36 rfl) ⟨by rw [fX8_mayOpen, if_neg htn1, if_neg (show ¬ a1 = 0 by rw [hts1]; decide), if_neg (show ¬ a1 = 1 by rw [hts1]; decide), if_neg (show ¬ a1 = 2 by rw [hts1]; decide), if_pos h80, if_neg h88], rfl⟩
def fX8_open (S : PS) (a1 : Int32) : PS := if a1 = (0 : Int32) then (sti (sti S 58 0 ((S.1 58 0) ||| ((1 : Int32) <<< (a1 &&& 31)))) 58 1 (1 : Int32)) else (if a1 = (1 : Int32) then (sti (sti S 58 0 ((S.1 58 0) ||| ((1 : Int32) <<< (a1 &&& 31)))) 58 1 (1 : Int32)) else (if a1 = (2 : Int32) then (sti (sti S 58 0 ((S.1 58 0) ||| ((1 : Int32) <<< (a1 &&& 31)))) 58 1 (0 : Int32)) else (sti S 58 0 ((S.1 58 0) ||| ((1 : Int32) <<< (a1 &&& 31))))))
set_option maxHeartbeats 4000000 in
set_option maxRecDepth 100000 in
theorem c_X8_open {cy : ClassId × ClassId} {ad : Nat → Nat} {D : va_G} {l : Launch} (S : PS) (a1 : Int32)  : PMv cy GC ad D l yX8_open (wA yX8_open cX8_open 2 none) rmX8_open [vr 8 58, vi a1] S (fun S' => S' = (fX8_open S a1)) := by
  refine PM.of (lv := [(0, vr 8 58), (1, vi a1)]) GC_ok (by decide) (Nat.le_of_ble_eq_true rfl) rfl (by simp) ?_
  intro p e s m args below meth c A hM
  refine w_aln (q := 0) (n := 1) hM (dtab_at okX8_open 0 rfl) rfl rfl ?_
  refine w_dup (n := 2) hM (dtab_at okX8_open 1 rfl) rfl rfl ?_
  refine w_geti (C := RX8) (T := TX8) (i := 0) (n := 5) hM rfl (by decide) ly_X8 lkF_X8_9 (dtab_at okX8_open 2 rfl) rfl ?_
  refine w_ic (n := 6) hM (1 : Int32) (dtab_at okX8_open 3 rfl) (by decide) rfl ?_
  refine w_iln (q := 1) (n := 7) hM (dtab_at okX8_open 4 rfl) rfl rfl ?_
  refine w_ishl (n := 8) hM (dtab_at okX8_open 5 rfl) rfl ?_
  refine w_ior (n := 9) hM (dtab_at okX8_open 6 rfl) rfl ?_
  refine w_put (C := RX8) (T := TX8) (i := 0) (ty := .int) (n := 12) hM rfl (by decide) ly_X8 tyX8_ok nmX8 lkF_X8_9 rfl (by decide +kernel) rfl rfl (dtab_at okX8_open 7 rfl) rfl ?_
  refine w_iln (q := 1) (n := 13) hM (dtab_at okX8_open 8 rfl) rfl rfl ?_
  refine w_if_eq (n := 21) (n2 := 16) hM (dtab_at okX8_open 9 rfl) (by decide) rfl (fun (h13 : a1 = (0 : Int32)) => ?_) (fun (h13 : ¬ a1 = (0 : Int32)) => ?_)
  · skip
    refine w_aln (q := 0) (n := 22) hM (dtab_at okX8_open 13 rfl) rfl rfl ?_
    refine w_ic (n := 23) hM (1 : Int32) (dtab_at okX8_open 14 rfl) (by decide) rfl ?_
    refine w_put (C := RX8) (T := TX8) (i := 1) (ty := .boolean) (n := 26) hM rfl (by decide) ly_X8 tyX8_ok nmX8 lkF_X8_15 rfl (by decide +kernel) (by decide) rfl (dtab_at okX8_open 15 rfl) rfl ?_
    refine w_goto (n := 39) hM (dtab_at okX8_open 16 rfl) (by decide) ?_
    exact r_v hM (dtab_at okX8_open 23 rfl) (by rw [fX8_open, if_pos h13])
  · skip
    refine w_iln (q := 1) (n := 17) hM (dtab_at okX8_open 10 rfl) rfl rfl ?_
    refine w_ic (n := 18) hM (1 : Int32) (dtab_at okX8_open 11 rfl) (by decide) rfl ?_
    refine w_ic_ne (n := 29) (n2 := 21) hM (dtab_at okX8_open 12 rfl) (by decide) rfl (fun (h18 : ¬ a1 = (1 : Int32)) => ?_) (fun (h18 : a1 = (1 : Int32)) => ?_)
    · skip
      refine w_iln (q := 1) (n := 30) hM (dtab_at okX8_open 17 rfl) rfl rfl ?_
      refine w_ic (n := 31) hM (2 : Int32) (dtab_at okX8_open 18 rfl) (by decide) rfl ?_
      refine w_ic_ne (n := 39) (n2 := 34) hM (dtab_at okX8_open 19 rfl) (by decide) rfl (fun (h31 : ¬ a1 = (2 : Int32)) => ?_) (fun (h31 : a1 = (2 : Int32)) => ?_)
      · skip
        exact r_v hM (dtab_at okX8_open 23 rfl) (by rw [fX8_open, if_neg h13, if_neg h18, if_neg h31])
      · skip
        refine w_aln (q := 0) (n := 35) hM (dtab_at okX8_open 20 rfl) rfl rfl ?_
        refine w_ic (n := 36) hM (0 : Int32) (dtab_at okX8_open 21 rfl) (by decide) rfl ?_
        refine w_put (C := RX8) (T := TX8) (i := 1) (ty := .boolean) (n := 39) hM rfl (by decide) ly_X8 tyX8_ok nmX8 lkF_X8_15 rfl (by decide +kernel) (by decide) rfl (dtab_at okX8_open 22 rfl) rfl ?_
        exact r_v hM (dtab_at okX8_open 23 rfl) (by rw [fX8_open, if_neg h13, if_neg h18, if_pos h31])
    · skip
      refine w_aln (q := 0) (n := 22) hM (dtab_at okX8_open 13 rfl) rfl rfl ?_
      refine w_ic (n := 23) hM (1 : Int32) (dtab_at okX8_open 14 rfl) (by decide) rfl ?_
      refine w_put (C := RX8) (T := TX8) (i := 1) (ty := .boolean) (n := 26) hM rfl (by decide) ly_X8 tyX8_ok nmX8 lkF_X8_15 rfl (by decide +kernel) (by decide) rfl (dtab_at okX8_open 15 rfl) rfl ?_
      refine w_goto (n := 39) hM (dtab_at okX8_open 16 rfl) (by decide) ?_
      exact r_v hM (dtab_at okX8_open 23 rfl) (by rw [fX8_open, if_neg h13, if_pos h18])
def fX8_shut (S : PS) (a1 : Int32) : PS := (sti S 58 0 ((S.1 58 0) &&& (((1 : Int32) <<< (a1 &&& 31)) ^^^ (-1 : Int32))))
set_option maxHeartbeats 4000000 in
set_option maxRecDepth 100000 in
theorem c_X8_shut {cy : ClassId × ClassId} {ad : Nat → Nat} {D : va_G} {l : Launch} (S : PS) (a1 : Int32)  : PMv cy GC ad D l yX8_shut (wA yX8_shut cX8_shut 2 none) rmX8_shut [vr 8 58, vi a1] S (fun S' => S' = (fX8_shut S a1)) := by
  refine PM.of (lv := [(0, vr 8 58), (1, vi a1)]) GC_ok (by decide) (Nat.le_of_ble_eq_true rfl) rfl (by simp) ?_
  intro p e s m args below meth c A hM
  refine w_aln (q := 0) (n := 1) hM (dtab_at okX8_shut 0 rfl) rfl rfl ?_
  refine w_dup (n := 2) hM (dtab_at okX8_shut 1 rfl) rfl rfl ?_
  refine w_geti (C := RX8) (T := TX8) (i := 0) (n := 5) hM rfl (by decide) ly_X8 lkF_X8_9 (dtab_at okX8_shut 2 rfl) rfl ?_
  refine w_ic (n := 6) hM (1 : Int32) (dtab_at okX8_shut 3 rfl) (by decide) rfl ?_
  refine w_iln (q := 1) (n := 7) hM (dtab_at okX8_shut 4 rfl) rfl rfl ?_
  refine w_ishl (n := 8) hM (dtab_at okX8_shut 5 rfl) rfl ?_
  refine w_ic (n := 9) hM (-1 : Int32) (dtab_at okX8_shut 6 rfl) (by decide) rfl ?_
  refine w_ixor (n := 10) hM (dtab_at okX8_shut 7 rfl) rfl ?_
  refine w_iand (n := 11) hM (dtab_at okX8_shut 8 rfl) rfl ?_
  refine w_put (C := RX8) (T := TX8) (i := 0) (ty := .int) (n := 14) hM rfl (by decide) ly_X8 tyX8_ok nmX8 lkF_X8_9 rfl (by decide +kernel) rfl rfl (dtab_at okX8_shut 9 rfl) rfl ?_
  exact r_v hM (dtab_at okX8_shut 10 rfl) (by rw [fX8_shut])
def fX9_runAt (S : PS) (a1 : Int32) : Option (Nat × Nat) := if a1 = (0 : Int32) then some (6, 1) else (if a1 = (1 : Int32) then some (6, 2) else none)
set_option maxHeartbeats 4000000 in
set_option maxRecDepth 100000 in
theorem c_X9_runAt {cy : ClassId × ClassId} {ad : Nat → Nat} {D : va_G} {l : Launch} (S : PS) (a1 : Int32)  : PMr cy GC ad D l yX9_runAt (wA yX9_runAt cX9_runAt 2 (some (.object "PigLine$Run"))) rmX9_runAt [vr 9 0, vi a1] S (fun x S' => x = (fX9_runAt S a1) ∧ S' = S) := by
  refine PM.of (lv := [(0, vr 9 0), (1, vi a1)]) GC_ok (by decide) (Nat.le_of_ble_eq_true rfl) rfl (by simp) ?_
  intro p e s m args below meth c A hM
  refine w_iln (q := 1) (n := 1) hM (dtab_at okX9_runAt 0 rfl) rfl rfl ?_
  refine w_if_ne (n := 9) (n2 := 4) hM (dtab_at okX9_runAt 1 rfl) (by decide) rfl (fun (h1 : ¬ a1 = (0 : Int32)) => ?_) (fun (h1 : a1 = (0 : Int32)) => ?_)
  · skip
    refine w_iln (q := 1) (n := 10) hM (dtab_at okX9_runAt 5 rfl) rfl rfl ?_
    refine w_ic (n := 11) hM (1 : Int32) (dtab_at okX9_runAt 6 rfl) (by decide) rfl ?_
    refine w_ic_ne (n := 21) (n2 := 14) hM (dtab_at okX9_runAt 7 rfl) (by decide) rfl (fun (h11 : ¬ a1 = (1 : Int32)) => ?_) (fun (h11 : a1 = (1 : Int32)) => ?_)
    · skip
      refine w_null (n := 22) hM (dtab_at okX9_runAt 11 rfl) rfl ?_
      exact r_a hM (dtab_at okX9_runAt 12 rfl) ⟨by rw [fX9_runAt, if_neg h1, if_neg h11], rfl⟩
    · skip
      refine w_aln (q := 0) (n := 15) hM (dtab_at okX9_runAt 8 rfl) rfl rfl ?_
      refine w_getr (C := RX9) (T := TX9) (i := 1) (k2 := 6) (q := 2) (n := 18) hM rfl (by decide) (fun _ => rfl) ly_X9 lkF_X9_16 (dtab_at okX9_runAt 9 rfl) rfl ?_
      refine w_goto (n := 22) hM (dtab_at okX9_runAt 10 rfl) (by decide) ?_
      exact r_a hM (dtab_at okX9_runAt 12 rfl) ⟨by rw [fX9_runAt, if_neg h1, if_pos h11], rfl⟩
  · skip
    refine w_aln (q := 0) (n := 5) hM (dtab_at okX9_runAt 2 rfl) rfl rfl ?_
    refine w_getr (C := RX9) (T := TX9) (i := 0) (k2 := 6) (q := 1) (n := 8) hM rfl (by decide) (fun _ => rfl) ly_X9 lkF_X9_10 (dtab_at okX9_runAt 3 rfl) rfl ?_
    exact r_a hM (dtab_at okX9_runAt 4 rfl) ⟨by rw [fX9_runAt, if_pos h1], rfl⟩
theorem fX9_runAt_kind {S : PS} {a : Int32} {k j : Nat} (hf : fX9_runAt S a = some (k, j)) : k = 6 := by
  unfold fX9_runAt at hf
  split at hf
  · cases hf; rfl
  · split at hf
    · cases hf; rfl
    · cases hf
def fX9_reelAt (nF : Nat) (S : PS) (a1 : Int32) : Option (Option (Nat × Nat)) := (if (0 : Int32) ≤ a1 then (match (fX9_runAt S (a1 / (4 : Int32))) with | none => (some none) | some (_, j0) => (match (fX6_reelAt S j0 (a1 - a1 / (4 : Int32) * (4 : Int32))) with | none => (some none) | some (_, j1) => (some (some (5, j1))))) else (some none))
set_option maxHeartbeats 4000000 in
set_option maxRecDepth 100000 in
theorem c_X9_reelAt {cy : ClassId × ClassId} {ad : Nat → Nat} {D : va_G} {l : Launch} (nF : Nat) (S : PS) (a1 : Int32) (r : Option (Nat × Nat)) (hf : fX9_reelAt nF S a1 = some r) : PMr cy GC ad D l yX9_reelAt (wA yX9_reelAt cX9_reelAt 3 (some (.object "PigLine$Reel"))) rmX9_reelAt [vr 9 0, vi a1] S (fun x S' => x = r ∧ S' = S) := by
  refine PM.of (lv := [(0, vr 9 0), (1, vi a1)]) GC_ok (by decide) (Nat.le_of_ble_eq_true rfl) rfl (by simp) ?_
  intro p e s m args below meth c A hM
  rw [fX9_reelAt] at hf
  obtain ⟨S0, hS⟩ : ∃ S0 : PS, S = S0 := ⟨S, rfl⟩
  rw [show (fun (x : Option (Nat × Nat)) (S' : PS) => x = r ∧ S' = S) = (fun x S' => x = r ∧ S' = S0) by rw [hS]]
  refine w_iln (q := 1) (n := 1) hM (dtab_at okX9_reelAt 0 rfl) rfl rfl ?_
  refine w_if_ge (n := 6) (n2 := 4) hM (dtab_at okX9_reelAt 1 rfl) (by decide) rfl (fun (h1 : (0 : Int32) ≤ a1) => ?_) (fun (h1 : ¬ (0 : Int32) ≤ a1) => ?_)
  · skip
    rw [if_pos h1] at hf
    refine w_aln (q := 0) (n := 7) hM (dtab_at okX9_reelAt 4 rfl) rfl rfl ?_
    refine w_iln (q := 1) (n := 8) hM (dtab_at okX9_reelAt 5 rfl) rfl rfl ?_
    refine w_ic (n := 9) hM (4 : Int32) (dtab_at okX9_reelAt 6 rfl) (by decide) rfl ?_
    refine w_idiv (n := 10) hM (dtab_at okX9_reelAt 7 rfl) (by decide) rfl ?_
    refine w_callVr (n := 13) (As := [vi (a1 / (4 : Int32))]) (rest := []) (k := 9) (j := 0) (C := RX9) (T := TX9) (N := 10) hM (c_X9_runAt S (a1 / (4 : Int32))) lkM_X9_117 mv_X9_runAt (by decide) rfl (by decide) rfl (Nat.le_of_ble_eq_true rfl) rfl (dtab_at okX9_reelAt 8 rfl) rfl (fun x0 S0 hp0 => ?_)
    obtain ⟨hx_, hs_⟩ := hp0
    have hs_ := hs_.symm
    subst hs_
    subst hx_
    rcases hq0 : (fX9_runAt S (a1 / (4 : Int32))) with _ | ⟨q0, j0⟩
    · skip
      rw [hq0] at hf
      dsimp only at hf
      refine w_asn (n := 14) (lv' := [(2, vn), (0, vr 9 0), (1, vi a1)]) hM (dtab_at okX9_reelAt 9 rfl) (by decide) rfl rfl ?_
      refine w_aln (q := 0) (n := 15) hM (dtab_at okX9_reelAt 10 rfl) rfl rfl ?_
      refine w_ifnonnullN (n := 18) hM (dtab_at okX9_reelAt 11 rfl) rfl ?_
      refine w_null (n := 19) hM (dtab_at okX9_reelAt 12 rfl) rfl ?_
      refine w_goto (n := 29) hM (dtab_at okX9_reelAt 13 rfl) (by decide) ?_
      exact r_a hM (dtab_at okX9_reelAt 19 rfl) ⟨Option.some.inj hf, hS⟩
    · skip
      obtain rfl := fX9_runAt_kind hq0
      rw [hq0] at hf
      dsimp only at hf
      refine w_asn (n := 14) (lv' := [(2, vr 6 j0), (0, vr 9 0), (1, vi a1)]) hM (dtab_at okX9_reelAt 9 rfl) (by decide) rfl rfl ?_
      refine w_aln (q := 0) (n := 15) hM (dtab_at okX9_reelAt 10 rfl) rfl rfl ?_
      refine w_ifnonnullR (n := 22) hM (dtab_at okX9_reelAt 11 rfl) (by decide) ?_
      refine w_aln (q := 0) (n := 23) hM (dtab_at okX9_reelAt 14 rfl) rfl rfl ?_
      refine w_iln (q := 2) (n := 24) hM (dtab_at okX9_reelAt 15 rfl) rfl rfl ?_
      refine w_ic (n := 25) hM (4 : Int32) (dtab_at okX9_reelAt 16 rfl) (by decide) rfl ?_
      refine w_irem (n := 26) hM (dtab_at okX9_reelAt 17 rfl) (by decide) rfl ?_
      refine w_callVr (n := 29) (As := [vi (a1 - a1 / (4 : Int32) * (4 : Int32))]) (rest := []) (k := 6) (j := j0) (C := RX6) (T := TX6) (N := 12) hM (c_X6_reelAt S j0 (a1 - a1 / (4 : Int32) * (4 : Int32))) lkM_X9_283 mv_X6_reelAt (by decide) rfl (by decide) rfl (Nat.le_of_ble_eq_true rfl) rfl (dtab_at okX9_reelAt 18 rfl) rfl (fun x1 S1 hp1 => ?_)
      obtain ⟨hx_, hs_⟩ := hp1
      have hs_ := hs_.symm
      subst hs_
      subst hx_
      rcases hq1 : (fX6_reelAt S j0 (a1 - a1 / (4 : Int32) * (4 : Int32))) with _ | ⟨q1, j1⟩
      · skip
        rw [hq1] at hf
        dsimp only at hf
        exact r_a hM (dtab_at okX9_reelAt 19 rfl) ⟨Option.some.inj hf, hS⟩
      · skip
        obtain rfl := fX6_reelAt_kind hq1
        rw [hq1] at hf
        dsimp only at hf
        exact r_a hM (dtab_at okX9_reelAt 19 rfl) ⟨Option.some.inj hf, hS⟩
  · skip
    rw [if_neg h1] at hf
    refine w_null (n := 5) hM (dtab_at okX9_reelAt 2 rfl) rfl ?_
    exact r_a hM (dtab_at okX9_reelAt 3 rfl) ⟨Option.some.inj hf, hS⟩
theorem fX9_reelAt_kind {nF : Nat} {S : PS} {a : Int32} {k j : Nat} (hf : fX9_reelAt nF S a = some (some (k, j))) : k = 5 := by
  unfold fX9_reelAt at hf
  split at hf
  · split at hf
    · cases hf
    · split at hf
      · cases hf
      · cases hf; rfl
  · cases hf
def fX9_isForm (S : PS) (a1 : Int32) : Int32 := (fX9_isWithin S a1 (0 : Int32) (2 : Int32))
set_option maxHeartbeats 4000000 in
set_option maxRecDepth 100000 in
theorem c_X9_isForm {cy : ClassId × ClassId} {ad : Nat → Nat} {D : va_G} {l : Launch} (S : PS) (a1 : Int32)  : PMi cy GC ad D l yX9_isForm (wA yX9_isForm cX9_isForm 1 (some .boolean)) rmX9_isForm [vi a1] S (fun x S' => x = (fX9_isForm S a1) ∧ S' = S) := by
  refine PM.of (lv := [(0, vi a1)]) GC_ok (by decide) (Nat.le_of_ble_eq_true rfl) rfl (by simp) ?_
  intro p e s m args below meth c A hM
  refine w_iln (q := 0) (n := 1) hM (dtab_at okX9_isForm 0 rfl) rfl rfl ?_
  refine w_ic (n := 2) hM (0 : Int32) (dtab_at okX9_isForm 1 rfl) (by decide) rfl ?_
  refine w_ic (n := 3) hM (2 : Int32) (dtab_at okX9_isForm 2 rfl) (by decide) rfl ?_
  refine w_callSi (n := 6) (As := [vi a1, vi (0 : Int32), vi (2 : Int32)]) (rest := []) hM (c_X9_isWithin S a1 (0 : Int32) (2 : Int32)) lkM_X9_121 ms_X9_isWithin (by decide) rfl (Nat.le_of_ble_eq_true rfl) rfl (dtab_at okX9_isForm 3 rfl) rfl (fun x0 S0 hp0 => ?_)
  obtain ⟨hx_, hs_⟩ := hp0
  have hs_ := hs_.symm
  subst hs_
  subst hx_
  exact r_z hM (nar_bi (fX9_isWithin_01 _ _ _ _)) (dtab_at okX9_isForm 4 rfl) ⟨by rw [fX9_isForm], rfl⟩
def fX9_found (S : PS) (a1 : Int32) : Int32 × PS := (((-10 : Int32) - a1), (sti S 0 9 a1))
set_option maxHeartbeats 4000000 in
set_option maxRecDepth 100000 in
theorem c_X9_found {cy : ClassId × ClassId} {ad : Nat → Nat} {D : va_G} {l : Launch} (S : PS) (a1 : Int32)  : PMi cy GC ad D l yX9_found (wA yX9_found cX9_found 2 (some .int)) rmX9_found [vr 9 0, vi a1] S (fun x S' => (x, S') = (fX9_found S a1)) := by
  refine PM.of (lv := [(0, vr 9 0), (1, vi a1)]) GC_ok (by decide) (Nat.le_of_ble_eq_true rfl) rfl (by simp) ?_
  intro p e s m args below meth c A hM
  refine w_aln (q := 0) (n := 1) hM (dtab_at okX9_found 0 rfl) rfl rfl ?_
  refine w_iln (q := 1) (n := 2) hM (dtab_at okX9_found 1 rfl) rfl rfl ?_
  refine w_put (C := RX9) (T := TX9) (i := 9) (ty := .int) (n := 5) hM rfl (by decide) ly_X9 tyX9_ok nmX9 lkF_X9_61 rfl (by decide +kernel) rfl rfl (dtab_at okX9_found 2 rfl) rfl ?_
  refine w_bi (n := 7) hM (-10 : Int32) (dtab_at okX9_found 3 rfl) (by decide) rfl ?_
  refine w_iln (q := 1) (n := 8) hM (dtab_at okX9_found 4 rfl) rfl rfl ?_
  refine w_isub (n := 9) hM (dtab_at okX9_found 5 rfl) rfl ?_
  exact r_i hM (dtab_at okX9_found 6 rfl) (by rw [fX9_found])
def fX9_reel (nF : Nat) (S : PS) (a1 : Int32) (a2 : Int32) (a3 : Int32) : Option (Int32 × PS) := ((fX9_reelAt nF S a1).bind fun r0 => (match r0 with | none => (some ((-2 : Int32), S)) | some (_, j0) => (if (fX9_isForm S a2) = (0 : Int32) then (some ((-2 : Int32), S)) else (if a3 ≤ (150 : Int32) then (if (0 : Int32) ≤ a3 then ((fX5_begin nF S j0 a2 a3).bind fun r2 => (some (a3, r2))) else (some ((fX9_found S (5 : Int32)).1, (fX9_found S (5 : Int32)).2))) else (some ((-2 : Int32), S))))))
set_option maxHeartbeats 4000000 in
set_option maxRecDepth 100000 in
theorem c_X9_reel {cy : ClassId × ClassId} {ad : Nat → Nat} {D : va_G} {l : Launch} (nF : Nat) (S : PS) (a1 : Int32) (a2 : Int32) (a3 : Int32) (r : Int32 × PS) (hf : fX9_reel nF S a1 a2 a3 = some r) : PMi cy GC ad D l yX9_reel (wA yX9_reel cX9_reel 5 (some .int)) rmX9_reel [vr 9 0, vi a1, vi a2, vi a3] S (fun x S' => (x, S') = r) := by
  refine PM.of (lv := [(0, vr 9 0), (1, vi a1), (2, vi a2), (3, vi a3)]) GC_ok (by decide) (Nat.le_of_ble_eq_true rfl) rfl (by simp) ?_
  intro p e s m args below meth c A hM
  rw [fX9_reel] at hf
  refine w_aln (q := 0) (n := 1) hM (dtab_at okX9_reel 0 rfl) rfl rfl ?_
  refine w_iln (q := 1) (n := 2) hM (dtab_at okX9_reel 1 rfl) rfl rfl ?_
  obtain ⟨r0, hr0, hf⟩ := Option.bind_eq_some_iff.mp hf
  refine w_callVr (n := 5) (As := [vi a1]) (rest := []) (k := 9) (j := 0) (C := RX9) (T := TX9) (N := 10) hM (c_X9_reelAt nF S a1 r0 hr0) lkM_X9_64 mv_X9_reelAt (by decide) rfl (by decide) rfl (Nat.le_of_ble_eq_true rfl) rfl (dtab_at okX9_reel 2 rfl) rfl (fun x0 S0 hp0 => ?_)
  obtain ⟨hx_, hs_⟩ := hp0
  have hs_ := hs_.symm
  subst hs_
  have hx_ := hx_.symm
  subst hx_
  rcases r0 with _ | ⟨q0, j0⟩
  · skip
    dsimp only at hf
    refine w_as (n := 7) (lv' := [(4, vn), (0, vr 9 0), (1, vi a1), (2, vi a2), (3, vi a3)]) hM (dtab_at okX9_reel 3 rfl) (by decide) rfl rfl ?_
    refine w_al (q := 0) (n := 9) hM (dtab_at okX9_reel 4 rfl) rfl rfl ?_
    refine w_ifnullN (n := 26) hM (dtab_at okX9_reel 5 rfl) (by decide) ?_
    refine w_bi (n := 28) hM (-2 : Int32) (dtab_at okX9_reel 12 rfl) (by decide) rfl ?_
    exact r_i hM (dtab_at okX9_reel 13 rfl) (Option.some.inj hf)
  · skip
    obtain rfl := fX9_reelAt_kind hr0
    dsimp only at hf
    refine w_as (n := 7) (lv' := [(4, vr 5 j0), (0, vr 9 0), (1, vi a1), (2, vi a2), (3, vi a3)]) hM (dtab_at okX9_reel 3 rfl) (by decide) rfl rfl ?_
    refine w_al (q := 0) (n := 9) hM (dtab_at okX9_reel 4 rfl) rfl rfl ?_
    refine w_ifnullR (n := 12) hM (dtab_at okX9_reel 5 rfl) rfl ?_
    refine w_iln (q := 3) (n := 13) hM (dtab_at okX9_reel 6 rfl) rfl rfl ?_
    refine w_callSi (n := 16) (As := [vi a2]) (rest := []) hM (c_X9_isForm S a2) lkM_X9_68 ms_X9_isForm (by decide) rfl (Nat.le_of_ble_eq_true rfl) rfl (dtab_at okX9_reel 7 rfl) rfl (fun x1 S1 hp1 => ?_)
    obtain ⟨hx_, hs_⟩ := hp1
    have hs_ := hs_.symm
    subst hs_
    subst hx_
    refine w_if_eq (n := 26) (n2 := 19) hM (dtab_at okX9_reel 8 rfl) (by decide) rfl (fun (h16 : (fX9_isForm S a2) = (0 : Int32)) => ?_) (fun (h16 : ¬ (fX9_isForm S a2) = (0 : Int32)) => ?_)
    · skip
      rw [if_pos h16] at hf
      refine w_bi (n := 28) hM (-2 : Int32) (dtab_at okX9_reel 12 rfl) (by decide) rfl ?_
      exact r_i hM (dtab_at okX9_reel 13 rfl) (Option.some.inj hf)
    · skip
      rw [if_neg h16] at hf
      refine w_iln (q := 4) (n := 20) hM (dtab_at okX9_reel 9 rfl) rfl rfl ?_
      refine w_si (n := 23) hM (150 : Int32) (dtab_at okX9_reel 10 rfl) (by decide) rfl ?_
      refine w_ic_le (n := 29) (n2 := 26) hM (dtab_at okX9_reel 11 rfl) (by decide) rfl (fun (h23 : a3 ≤ (150 : Int32)) => ?_) (fun (h23 : ¬ a3 ≤ (150 : Int32)) => ?_)
      · skip
        rw [if_pos h23] at hf
        refine w_iln (q := 4) (n := 30) hM (dtab_at okX9_reel 14 rfl) rfl rfl ?_
        refine w_if_ge (n := 39) (n2 := 33) hM (dtab_at okX9_reel 15 rfl) (by decide) rfl (fun (h30 : (0 : Int32) ≤ a3) => ?_) (fun (h30 : ¬ (0 : Int32) ≤ a3) => ?_)
        · skip
          rw [if_pos h30] at hf
          refine w_al (q := 0) (n := 41) hM (dtab_at okX9_reel 20 rfl) rfl rfl ?_
          refine w_iln (q := 3) (n := 42) hM (dtab_at okX9_reel 21 rfl) rfl rfl ?_
          refine w_iln (q := 4) (n := 43) hM (dtab_at okX9_reel 22 rfl) rfl rfl ?_
          obtain ⟨r2, hr2, hf⟩ := Option.bind_eq_some_iff.mp hf
          refine w_callVv (n := 46) (As := [vi a2, vi a3]) (rest := []) (k := 5) (j := j0) (C := RX5) (T := TX5) (N := 3) hM (c_X5_begin nF S j0 a2 a3 r2 hr2) lkM_X9_76 mv_X5_begin (by decide) rfl (by decide) rfl (Nat.le_of_ble_eq_true rfl) rfl (dtab_at okX9_reel 23 rfl) rfl (fun S2 hp2 => ?_)
          have hs_ := hp2.symm
          subst hs_
          refine w_iln (q := 4) (n := 47) hM (dtab_at okX9_reel 24 rfl) rfl rfl ?_
          exact r_i hM (dtab_at okX9_reel 25 rfl) (Option.some.inj hf)
        · skip
          rw [if_neg h30] at hf
          refine w_aln (q := 1) (n := 34) hM (dtab_at okX9_reel 16 rfl) rfl rfl ?_
          refine w_ic (n := 35) hM (5 : Int32) (dtab_at okX9_reel 17 rfl) (by decide) rfl ?_
          refine w_callVi (n := 38) (As := [vi (5 : Int32)]) (rest := []) (k := 9) (j := 0) (C := RX9) (T := TX9) (N := 10) hM (c_X9_found S (5 : Int32)) lkM_X9_72 mv_X9_found (by decide) rfl (by decide) rfl (Nat.le_of_ble_eq_true rfl) rfl (dtab_at okX9_reel 18 rfl) rfl (fun x3 S3 hp3 => ?_)
          have hx_ := congrArg Prod.fst hp3
          have hs_ := congrArg Prod.snd hp3
          dsimp only at hx_ hs_
          subst hx_
          subst hs_
          exact r_i hM (dtab_at okX9_reel 19 rfl) (Option.some.inj hf)
      · skip
        rw [if_neg h23] at hf
        refine w_bi (n := 28) hM (-2 : Int32) (dtab_at okX9_reel 12 rfl) (by decide) rfl ?_
        exact r_i hM (dtab_at okX9_reel 13 rfl) (Option.some.inj hf)
def fX9_lose (nF : Nat) (S : PS) (a1 : Int32) : Option (Int32 × PS) := ((fX9_reelAt nF S a1).bind fun r0 => (match r0 with | none => (some ((-2 : Int32), S)) | some (_, j0) => (if (fX5_isLost S j0) = (0 : Int32) then (some ((S.1 j0 2), (fX5_drop S j0))) else (some ((fX9_found S (1 : Int32)).1, (fX9_found S (1 : Int32)).2)))))
set_option maxHeartbeats 4000000 in
set_option maxRecDepth 100000 in
theorem c_X9_lose {cy : ClassId × ClassId} {ad : Nat → Nat} {D : va_G} {l : Launch} (nF : Nat) (S : PS) (a1 : Int32) (r : Int32 × PS) (hf : fX9_lose nF S a1 = some r) : PMi cy GC ad D l yX9_lose (wA yX9_lose cX9_lose 4 (some .int)) rmX9_lose [vr 9 0, vi a1] S (fun x S' => (x, S') = r) := by
  refine PM.of (lv := [(0, vr 9 0), (1, vi a1)]) GC_ok (by decide) (Nat.le_of_ble_eq_true rfl) rfl (by simp) ?_
  intro p e s m args below meth c A hM
  rw [fX9_lose] at hf
  refine w_aln (q := 0) (n := 1) hM (dtab_at okX9_lose 0 rfl) rfl rfl ?_
  refine w_iln (q := 1) (n := 2) hM (dtab_at okX9_lose 1 rfl) rfl rfl ?_
  obtain ⟨r0, hr0, hf⟩ := Option.bind_eq_some_iff.mp hf
  refine w_callVr (n := 5) (As := [vi a1]) (rest := []) (k := 9) (j := 0) (C := RX9) (T := TX9) (N := 10) hM (c_X9_reelAt nF S a1 r0 hr0) lkM_X9_64 mv_X9_reelAt (by decide) rfl (by decide) rfl (Nat.le_of_ble_eq_true rfl) rfl (dtab_at okX9_lose 2 rfl) rfl (fun x0 S0 hp0 => ?_)
  obtain ⟨hx_, hs_⟩ := hp0
  have hs_ := hs_.symm
  subst hs_
  have hx_ := hx_.symm
  subst hx_
  rcases r0 with _ | ⟨q0, j0⟩
  · skip
    dsimp only at hf
    refine w_asn (n := 6) (lv' := [(2, vn), (0, vr 9 0), (1, vi a1)]) hM (dtab_at okX9_lose 3 rfl) (by decide) rfl rfl ?_
    refine w_aln (q := 0) (n := 7) hM (dtab_at okX9_lose 4 rfl) rfl rfl ?_
    refine w_ifnonnullN (n := 10) hM (dtab_at okX9_lose 5 rfl) rfl ?_
    refine w_bi (n := 12) hM (-2 : Int32) (dtab_at okX9_lose 6 rfl) (by decide) rfl ?_
    exact r_i hM (dtab_at okX9_lose 7 rfl) (Option.some.inj hf)
  · skip
    obtain rfl := fX9_reelAt_kind hr0
    dsimp only at hf
    refine w_asn (n := 6) (lv' := [(2, vr 5 j0), (0, vr 9 0), (1, vi a1)]) hM (dtab_at okX9_lose 3 rfl) (by decide) rfl rfl ?_
    refine w_aln (q := 0) (n := 7) hM (dtab_at okX9_lose 4 rfl) rfl rfl ?_
    refine w_ifnonnullR (n := 13) hM (dtab_at okX9_lose 5 rfl) (by decide) ?_
    refine w_aln (q := 0) (n := 14) hM (dtab_at okX9_lose 8 rfl) rfl rfl ?_
    refine w_callVi (n := 17) (As := []) (rest := []) (k := 5) (j := j0) (C := RX5) (T := TX5) (N := 3) hM (c_X5_isLost S j0) lkM_X9_82 mv_X5_isLost (by decide) rfl (by decide) rfl (Nat.le_of_ble_eq_true rfl) rfl (dtab_at okX9_lose 9 rfl) rfl (fun x1 S1 hp1 => ?_)
    obtain ⟨hx_, hs_⟩ := hp1
    have hs_ := hs_.symm
    subst hs_
    subst hx_
    refine w_if_eq (n := 26) (n2 := 20) hM (dtab_at okX9_lose 10 rfl) (by decide) rfl (fun (h17 : (fX5_isLost S j0) = (0 : Int32)) => ?_) (fun (h17 : ¬ (fX5_isLost S j0) = (0 : Int32)) => ?_)
    · skip
      rw [if_pos h17] at hf
      refine w_aln (q := 0) (n := 27) hM (dtab_at okX9_lose 15 rfl) rfl rfl ?_
      refine w_geti (C := RX5) (T := TX5) (i := 2) (n := 30) hM rfl (by decide) ly_X5 lkF_X9_86 (dtab_at okX9_lose 16 rfl) rfl ?_
      refine w_isn (n := 31) (lv' := [(3, vi (S.1 j0 2)), (2, vr 5 j0), (0, vr 9 0), (1, vi a1)]) hM (dtab_at okX9_lose 17 rfl) (by decide) rfl rfl ?_
      refine w_aln (q := 1) (n := 32) hM (dtab_at okX9_lose 18 rfl) rfl rfl ?_
      refine w_callVv (n := 35) (As := []) (rest := []) (k := 5) (j := j0) (C := RX5) (T := TX5) (N := 3) hM (c_X5_drop S j0) lkM_X9_89 mv_X5_drop (by decide) rfl (by decide) rfl (Nat.le_of_ble_eq_true rfl) rfl (dtab_at okX9_lose 19 rfl) rfl (fun S2 hp2 => ?_)
      subst hp2
      refine w_iln (q := 0) (n := 36) hM (dtab_at okX9_lose 20 rfl) rfl rfl ?_
      exact r_i hM (dtab_at okX9_lose 21 rfl) (Option.some.inj hf)
    · skip
      rw [if_neg h17] at hf
      refine w_aln (q := 1) (n := 21) hM (dtab_at okX9_lose 11 rfl) rfl rfl ?_
      refine w_ic (n := 22) hM (1 : Int32) (dtab_at okX9_lose 12 rfl) (by decide) rfl ?_
      refine w_callVi (n := 25) (As := [vi (1 : Int32)]) (rest := []) (k := 9) (j := 0) (C := RX9) (T := TX9) (N := 10) hM (c_X9_found S (1 : Int32)) lkM_X9_72 mv_X9_found (by decide) rfl (by decide) rfl (Nat.le_of_ble_eq_true rfl) rfl (dtab_at okX9_lose 13 rfl) rfl (fun x3 S3 hp3 => ?_)
      have hx_ := congrArg Prod.fst hp3
      have hs_ := congrArg Prod.snd hp3
      dsimp only at hx_ hs_
      subst hx_
      subst hs_
      exact r_i hM (dtab_at okX9_lose 14 rfl) (Option.some.inj hf)
def fX9_put (nF : Nat) (S : PS) (a1 : Int32) (a2 : Int32) (a3 : Int32) (a4 : Int32) : Option (Int32 × PS) := ((fX9_reelAt nF S a1).bind fun r0 => (match r0 with | none => (some ((-2 : Int32), S)) | some (_, j0) => (if (fX9_isForm S a2) = (0 : Int32) then (some ((-2 : Int32), S)) else (if (fX5_faultOf S j0 a2 a3) = (0 : Int32) then ((fX5_store nF S j0 a3 a4).bind fun r3 => (some ((1 : Int32), r3))) else (some ((fX9_found S (fX5_faultOf S j0 a2 a3)).1, (fX9_found S (fX5_faultOf S j0 a2 a3)).2))))))
set_option maxHeartbeats 4000000 in
set_option maxRecDepth 100000 in
theorem c_X9_put {cy : ClassId × ClassId} {ad : Nat → Nat} {D : va_G} {l : Launch} (nF : Nat) (S : PS) (a1 : Int32) (a2 : Int32) (a3 : Int32) (a4 : Int32) (r : Int32 × PS) (hf : fX9_put nF S a1 a2 a3 a4 = some r) : PMi cy GC ad D l yX9_put (wA yX9_put cX9_put 7 (some .int)) rmX9_put [vr 9 0, vi a1, vi a2, vi a3, vi a4] S (fun x S' => (x, S') = r) := by
  refine PM.of (lv := [(0, vr 9 0), (1, vi a1), (2, vi a2), (3, vi a3), (4, vi a4)]) GC_ok (by decide) (Nat.le_of_ble_eq_true rfl) rfl (by simp) ?_
  intro p e s m args below meth c A hM
  rw [fX9_put] at hf
  refine w_aln (q := 0) (n := 1) hM (dtab_at okX9_put 0 rfl) rfl rfl ?_
  refine w_iln (q := 1) (n := 2) hM (dtab_at okX9_put 1 rfl) rfl rfl ?_
  obtain ⟨r0, hr0, hf⟩ := Option.bind_eq_some_iff.mp hf
  refine w_callVr (n := 5) (As := [vi a1]) (rest := []) (k := 9) (j := 0) (C := RX9) (T := TX9) (N := 10) hM (c_X9_reelAt nF S a1 r0 hr0) lkM_X9_64 mv_X9_reelAt (by decide) rfl (by decide) rfl (Nat.le_of_ble_eq_true rfl) rfl (dtab_at okX9_put 2 rfl) rfl (fun x0 S0 hp0 => ?_)
  obtain ⟨hx_, hs_⟩ := hp0
  have hs_ := hs_.symm
  subst hs_
  have hx_ := hx_.symm
  subst hx_
  rcases r0 with _ | ⟨q0, j0⟩
  · skip
    dsimp only at hf
    refine w_as (n := 7) (lv' := [(5, vn), (0, vr 9 0), (1, vi a1), (2, vi a2), (3, vi a3), (4, vi a4)]) hM (dtab_at okX9_put 3 rfl) (by decide) rfl rfl ?_
    refine w_al (q := 0) (n := 9) hM (dtab_at okX9_put 4 rfl) rfl rfl ?_
    refine w_ifnullN (n := 19) hM (dtab_at okX9_put 5 rfl) (by decide) ?_
    refine w_bi (n := 21) hM (-2 : Int32) (dtab_at okX9_put 9 rfl) (by decide) rfl ?_
    exact r_i hM (dtab_at okX9_put 10 rfl) (Option.some.inj hf)
  · skip
    obtain rfl := fX9_reelAt_kind hr0
    dsimp only at hf
    refine w_as (n := 7) (lv' := [(5, vr 5 j0), (0, vr 9 0), (1, vi a1), (2, vi a2), (3, vi a3), (4, vi a4)]) hM (dtab_at okX9_put 3 rfl) (by decide) rfl rfl ?_
    refine w_al (q := 0) (n := 9) hM (dtab_at okX9_put 4 rfl) rfl rfl ?_
    refine w_ifnullR (n := 12) hM (dtab_at okX9_put 5 rfl) rfl ?_
    refine w_iln (q := 3) (n := 13) hM (dtab_at okX9_put 6 rfl) rfl rfl ?_
    refine w_callSi (n := 16) (As := [vi a2]) (rest := []) hM (c_X9_isForm S a2) lkM_X9_68 ms_X9_isForm (by decide) rfl (Nat.le_of_ble_eq_true rfl) rfl (dtab_at okX9_put 7 rfl) rfl (fun x1 S1 hp1 => ?_)
    obtain ⟨hx_, hs_⟩ := hp1
    have hs_ := hs_.symm
    subst hs_
    subst hx_
    refine w_if_ne (n := 22) (n2 := 19) hM (dtab_at okX9_put 8 rfl) (by decide) rfl (fun (h16 : ¬ (fX9_isForm S a2) = (0 : Int32)) => ?_) (fun (h16 : (fX9_isForm S a2) = (0 : Int32)) => ?_)
    · skip
      rw [if_neg h16] at hf
      refine w_al (q := 0) (n := 24) hM (dtab_at okX9_put 11 rfl) rfl rfl ?_
      refine w_iln (q := 3) (n := 25) hM (dtab_at okX9_put 12 rfl) rfl rfl ?_
      refine w_iln (q := 4) (n := 26) hM (dtab_at okX9_put 13 rfl) rfl rfl ?_
      refine w_callVi (n := 29) (As := [vi a2, vi a3]) (rest := []) (k := 5) (j := j0) (C := RX5) (T := TX5) (N := 3) hM (c_X5_faultOf S j0 a2 a3) lkM_X9_92 mv_X5_faultOf (by decide) rfl (by decide) rfl (Nat.le_of_ble_eq_true rfl) rfl (dtab_at okX9_put 14 rfl) rfl (fun x2 S2 hp2 => ?_)
      obtain ⟨hx_, hs_⟩ := hp2
      have hs_ := hs_.symm
      subst hs_
      subst hx_
      refine w_is (n := 31) (lv' := [(6, vi (fX5_faultOf S j0 a2 a3)), (5, vr 5 j0), (0, vr 9 0), (1, vi a1), (2, vi a2), (3, vi a3), (4, vi a4)]) hM (dtab_at okX9_put 15 rfl) (by decide) rfl rfl ?_
      refine w_il (q := 0) (n := 33) hM (dtab_at okX9_put 16 rfl) rfl rfl ?_
      refine w_if_eq (n := 43) (n2 := 36) hM (dtab_at okX9_put 17 rfl) (by decide) rfl (fun (h33 : (fX5_faultOf S j0 a2 a3) = (0 : Int32)) => ?_) (fun (h33 : ¬ (fX5_faultOf S j0 a2 a3) = (0 : Int32)) => ?_)
      · skip
        rw [if_pos h33] at hf
        refine w_al (q := 1) (n := 45) hM (dtab_at okX9_put 22 rfl) rfl rfl ?_
        refine w_iln (q := 5) (n := 46) hM (dtab_at okX9_put 23 rfl) rfl rfl ?_
        refine w_il (q := 6) (n := 48) hM (dtab_at okX9_put 24 rfl) rfl rfl ?_
        obtain ⟨r3, hr3, hf⟩ := Option.bind_eq_some_iff.mp hf
        refine w_callVv (n := 51) (As := [vi a3, vi a4]) (rest := []) (k := 5) (j := j0) (C := RX5) (T := TX5) (N := 3) hM (c_X5_store nF S j0 a3 a4 r3 hr3) lkM_X9_96 mv_X5_store (by decide) rfl (by decide) rfl (Nat.le_of_ble_eq_true rfl) rfl (dtab_at okX9_put 25 rfl) rfl (fun S3 hp3 => ?_)
        have hs_ := hp3.symm
        subst hs_
        refine w_ic (n := 52) hM (1 : Int32) (dtab_at okX9_put 26 rfl) (by decide) rfl ?_
        exact r_i hM (dtab_at okX9_put 27 rfl) (Option.some.inj hf)
      · skip
        rw [if_neg h33] at hf
        refine w_aln (q := 2) (n := 37) hM (dtab_at okX9_put 18 rfl) rfl rfl ?_
        refine w_il (q := 0) (n := 39) hM (dtab_at okX9_put 19 rfl) rfl rfl ?_
        refine w_callVi (n := 42) (As := [vi (fX5_faultOf S j0 a2 a3)]) (rest := []) (k := 9) (j := 0) (C := RX9) (T := TX9) (N := 10) hM (c_X9_found S (fX5_faultOf S j0 a2 a3)) lkM_X9_72 mv_X9_found (by decide) rfl (by decide) rfl (Nat.le_of_ble_eq_true rfl) rfl (dtab_at okX9_put 20 rfl) rfl (fun x4 S4 hp4 => ?_)
        have hx_ := congrArg Prod.fst hp4
        have hs_ := congrArg Prod.snd hp4
        dsimp only at hx_ hs_
        subst hx_
        subst hs_
        exact r_i hM (dtab_at okX9_put 21 rfl) (Option.some.inj hf)
    · skip
      rw [if_pos h16] at hf
      refine w_bi (n := 21) hM (-2 : Int32) (dtab_at okX9_put 9 rfl) (by decide) rfl ?_
      exact r_i hM (dtab_at okX9_put 10 rfl) (Option.some.inj hf)
def fX9_get (nF : Nat) (S : PS) (a1 : Int32) (a2 : Int32) (a3 : Int32) : Option (Int32 × PS) := ((fX9_reelAt nF S a1).bind fun r0 => (match r0 with | none => (some ((-2147483648 : Int32), S)) | some (_, j0) => (if (fX9_isForm S a2) = (0 : Int32) then (some ((-2147483648 : Int32), S)) else (if (fX5_faultOf S j0 a2 a3) = (0 : Int32) then (if a3 < 0 ∨ 150 ≤ a3.toNatClampNeg then none else (some ((S.2 (j0 + 8) a3.toNatClampNeg), S))) else (some ((-2147483648 : Int32), (fX9_found S (fX5_faultOf S j0 a2 a3)).2))))))
set_option maxHeartbeats 4000000 in
set_option maxRecDepth 100000 in
theorem c_X9_get {cy : ClassId × ClassId} {ad : Nat → Nat} {D : va_G} {l : Launch} (nF : Nat) (S : PS) (a1 : Int32) (a2 : Int32) (a3 : Int32) (r : Int32 × PS) (hf : fX9_get nF S a1 a2 a3 = some r) : PMi cy GC ad D l yX9_get (wA yX9_get cX9_get 6 (some .int)) rmX9_get [vr 9 0, vi a1, vi a2, vi a3] S (fun x S' => (x, S') = r) := by
  refine PM.of (lv := [(0, vr 9 0), (1, vi a1), (2, vi a2), (3, vi a3)]) GC_ok (by decide) (Nat.le_of_ble_eq_true rfl) rfl (by simp) ?_
  intro p e s m args below meth c A hM
  rw [fX9_get] at hf
  refine w_aln (q := 0) (n := 1) hM (dtab_at okX9_get 0 rfl) rfl rfl ?_
  refine w_iln (q := 1) (n := 2) hM (dtab_at okX9_get 1 rfl) rfl rfl ?_
  obtain ⟨r0, hr0, hf⟩ := Option.bind_eq_some_iff.mp hf
  refine w_callVr (n := 5) (As := [vi a1]) (rest := []) (k := 9) (j := 0) (C := RX9) (T := TX9) (N := 10) hM (c_X9_reelAt nF S a1 r0 hr0) lkM_X9_64 mv_X9_reelAt (by decide) rfl (by decide) rfl (Nat.le_of_ble_eq_true rfl) rfl (dtab_at okX9_get 2 rfl) rfl (fun x0 S0 hp0 => ?_)
  obtain ⟨hx_, hs_⟩ := hp0
  have hs_ := hs_.symm
  subst hs_
  have hx_ := hx_.symm
  subst hx_
  rcases r0 with _ | ⟨q0, j0⟩
  · skip
    dsimp only at hf
    refine w_as (n := 7) (lv' := [(4, vn), (0, vr 9 0), (1, vi a1), (2, vi a2), (3, vi a3)]) hM (dtab_at okX9_get 3 rfl) (by decide) rfl rfl ?_
    refine w_al (q := 0) (n := 9) hM (dtab_at okX9_get 4 rfl) rfl rfl ?_
    refine w_ifnullN (n := 19) hM (dtab_at okX9_get 5 rfl) (by decide) ?_
    refine w_ldc (n := 21) (v := (-2147483648 : Int32)) hM (dtab_at okX9_get 9 rfl) lkC_X9_99 rfl ?_
    exact r_i hM (dtab_at okX9_get 10 rfl) (Option.some.inj hf)
  · skip
    obtain rfl := fX9_reelAt_kind hr0
    dsimp only at hf
    refine w_as (n := 7) (lv' := [(4, vr 5 j0), (0, vr 9 0), (1, vi a1), (2, vi a2), (3, vi a3)]) hM (dtab_at okX9_get 3 rfl) (by decide) rfl rfl ?_
    refine w_al (q := 0) (n := 9) hM (dtab_at okX9_get 4 rfl) rfl rfl ?_
    refine w_ifnullR (n := 12) hM (dtab_at okX9_get 5 rfl) rfl ?_
    refine w_iln (q := 3) (n := 13) hM (dtab_at okX9_get 6 rfl) rfl rfl ?_
    refine w_callSi (n := 16) (As := [vi a2]) (rest := []) hM (c_X9_isForm S a2) lkM_X9_68 ms_X9_isForm (by decide) rfl (Nat.le_of_ble_eq_true rfl) rfl (dtab_at okX9_get 7 rfl) rfl (fun x1 S1 hp1 => ?_)
    obtain ⟨hx_, hs_⟩ := hp1
    have hs_ := hs_.symm
    subst hs_
    subst hx_
    refine w_if_ne (n := 22) (n2 := 19) hM (dtab_at okX9_get 8 rfl) (by decide) rfl (fun (h16 : ¬ (fX9_isForm S a2) = (0 : Int32)) => ?_) (fun (h16 : (fX9_isForm S a2) = (0 : Int32)) => ?_)
    · skip
      rw [if_neg h16] at hf
      refine w_al (q := 0) (n := 24) hM (dtab_at okX9_get 11 rfl) rfl rfl ?_
      refine w_iln (q := 3) (n := 25) hM (dtab_at okX9_get 12 rfl) rfl rfl ?_
      refine w_iln (q := 4) (n := 26) hM (dtab_at okX9_get 13 rfl) rfl rfl ?_
      refine w_callVi (n := 29) (As := [vi a2, vi a3]) (rest := []) (k := 5) (j := j0) (C := RX5) (T := TX5) (N := 3) hM (c_X5_faultOf S j0 a2 a3) lkM_X9_92 mv_X5_faultOf (by decide) rfl (by decide) rfl (Nat.le_of_ble_eq_true rfl) rfl (dtab_at okX9_get 14 rfl) rfl (fun x2 S2 hp2 => ?_)
      obtain ⟨hx_, hs_⟩ := hp2
      have hs_ := hs_.symm
      subst hs_
      subst hx_
      refine w_is (n := 31) (lv' := [(5, vi (fX5_faultOf S j0 a2 a3)), (4, vr 5 j0), (0, vr 9 0), (1, vi a1), (2, vi a2), (3, vi a3)]) hM (dtab_at okX9_get 15 rfl) (by decide) rfl rfl ?_
      refine w_il (q := 0) (n := 33) hM (dtab_at okX9_get 16 rfl) rfl rfl ?_
      refine w_if_eq (n := 46) (n2 := 36) hM (dtab_at okX9_get 17 rfl) (by decide) rfl (fun (h33 : (fX5_faultOf S j0 a2 a3) = (0 : Int32)) => ?_) (fun (h33 : ¬ (fX5_faultOf S j0 a2 a3) = (0 : Int32)) => ?_)
      · skip
        rw [if_pos h33] at hf
        refine w_al (q := 1) (n := 48) hM (dtab_at okX9_get 24 rfl) rfl rfl ?_
        refine w_getr (C := RX5) (T := TX5) (i := 0) (k2 := 250) (q := (j0 + 8)) (n := 51) hM rfl (by decide) rfc_5_0 ly_X5 lkF_X9_100 (dtab_at okX9_get 25 rfl) rfl ?_
        refine w_iln (q := 5) (n := 52) hM (dtab_at okX9_get 26 rfl) rfl rfl ?_
        by_cases hg52 : a3 < 0 ∨ 150 ≤ a3.toNatClampNeg
        · rw [if_pos hg52] at hf; cases hf
        rw [if_neg hg52] at hf
        refine w_ald (nn := 150) (n := 53) hM rfl hg52 (dtab_at okX9_get 27 rfl) rfl ?_
        exact r_i hM (dtab_at okX9_get 28 rfl) (Option.some.inj hf)
      · skip
        rw [if_neg h33] at hf
        refine w_aln (q := 2) (n := 37) hM (dtab_at okX9_get 18 rfl) rfl rfl ?_
        refine w_il (q := 0) (n := 39) hM (dtab_at okX9_get 19 rfl) rfl rfl ?_
        refine w_callVi (n := 42) (As := [vi (fX5_faultOf S j0 a2 a3)]) (rest := []) (k := 9) (j := 0) (C := RX9) (T := TX9) (N := 10) hM (c_X9_found S (fX5_faultOf S j0 a2 a3)) lkM_X9_72 mv_X9_found (by decide) rfl (by decide) rfl (Nat.le_of_ble_eq_true rfl) rfl (dtab_at okX9_get 20 rfl) rfl (fun x3 S3 hp3 => ?_)
        have hx_ := congrArg Prod.fst hp3
        have hs_ := congrArg Prod.snd hp3
        dsimp only at hx_ hs_
        subst hx_
        subst hs_
        refine w_pop (n := 43) hM (dtab_at okX9_get 21 rfl) rfl rfl ?_
        refine w_ldc (n := 45) (v := (-2147483648 : Int32)) hM (dtab_at okX9_get 22 rfl) lkC_X9_99 rfl ?_
        exact r_i hM (dtab_at okX9_get 23 rfl) (Option.some.inj hf)
    · skip
      rw [if_pos h16] at hf
      refine w_ldc (n := 21) (v := (-2147483648 : Int32)) hM (dtab_at okX9_get 9 rfl) lkC_X9_99 rfl ?_
      exact r_i hM (dtab_at okX9_get 10 rfl) (Option.some.inj hf)
def fX9_copy (nF : Nat) (S : PS) (a1 : Int32) (a2 : Int32) (a3 : Int32) (a4 : Int32) (a5 : Int32) : Option (Int32 × PS) := ((fX9_reelAt nF S a1).bind fun r0 => (match r0 with | none => ((fX9_reelAt nF S a3).bind fun r1 => (match r1 with | none => (some ((-2 : Int32), S)) | some (_, j1) => (some ((-2 : Int32), S)))) | some (_, j0) => ((fX9_reelAt nF S a3).bind fun r2 => (match r2 with | none => (some ((-2 : Int32), S)) | some (_, j2) => (if (fX5_isLost S j0) = (0 : Int32) then (if (fX5_isLost S j2) = (0 : Int32) then (if (S.1 j0 1) = (S.1 j2 1) then (if (fX5_hasItems S j0 a2 a5) = (0 : Int32) then (some ((fX9_found S (2 : Int32)).1, (fX9_found S (2 : Int32)).2)) else (if (fX5_hasItems S j2 a4 a5) = (0 : Int32) then (some ((fX9_found S (2 : Int32)).1, (fX9_found S (2 : Int32)).2)) else (if a2 < 0 ∨ a4 < 0 ∨ a5 < 0 ∨ 150 < a2.toNatClampNeg + a5.toNatClampNeg ∨ 150 < a4.toNatClampNeg + a5.toNatClampNeg then none else (some ((1 : Int32), (str S (j2 + 8) (va_cpy (S.2 (j0 + 8)) (S.2 (j2 + 8)) a2.toNatClampNeg a4.toNatClampNeg a5.toNatClampNeg))))))) else (some ((fX9_found S (4 : Int32)).1, (fX9_found S (4 : Int32)).2))) else (some ((fX9_found S (1 : Int32)).1, (fX9_found S (1 : Int32)).2))) else (some ((fX9_found S (1 : Int32)).1, (fX9_found S (1 : Int32)).2)))))))
set_option maxHeartbeats 4000000 in
set_option maxRecDepth 100000 in
theorem c_X9_copy {cy : ClassId × ClassId} {ad : Nat → Nat} {D : va_G} {l : Launch} (nF : Nat) (S : PS) (a1 : Int32) (a2 : Int32) (a3 : Int32) (a4 : Int32) (a5 : Int32) (r : Int32 × PS) (hf : fX9_copy nF S a1 a2 a3 a4 a5 = some r) : PMi cy GC ad D l yX9_copy (wA yX9_copy cX9_copy 8 (some .int)) rmX9_copy [vr 9 0, vi a1, vi a2, vi a3, vi a4, vi a5] S (fun x S' => (x, S') = r) := by
  refine PM.of (lv := [(0, vr 9 0), (1, vi a1), (2, vi a2), (3, vi a3), (4, vi a4), (5, vi a5)]) GC_ok (by decide) (Nat.le_of_ble_eq_true rfl) rfl (by simp) ?_
  intro p e s m args below meth c A hM
  rw [fX9_copy] at hf
  refine w_aln (q := 0) (n := 1) hM (dtab_at okX9_copy 0 rfl) rfl rfl ?_
  refine w_iln (q := 1) (n := 2) hM (dtab_at okX9_copy 1 rfl) rfl rfl ?_
  obtain ⟨r0, hr0, hf⟩ := Option.bind_eq_some_iff.mp hf
  refine w_callVr (n := 5) (As := [vi a1]) (rest := []) (k := 9) (j := 0) (C := RX9) (T := TX9) (N := 10) hM (c_X9_reelAt nF S a1 r0 hr0) lkM_X9_64 mv_X9_reelAt (by decide) rfl (by decide) rfl (Nat.le_of_ble_eq_true rfl) rfl (dtab_at okX9_copy 2 rfl) rfl (fun x0 S0 hp0 => ?_)
  obtain ⟨hx_, hs_⟩ := hp0
  have hs_ := hs_.symm
  subst hs_
  have hx_ := hx_.symm
  subst hx_
  rcases r0 with _ | ⟨q0, j0⟩
  · skip
    dsimp only at hf
    refine w_as (n := 7) (lv' := [(6, vn), (0, vr 9 0), (1, vi a1), (2, vi a2), (3, vi a3), (4, vi a4), (5, vi a5)]) hM (dtab_at okX9_copy 3 rfl) (by decide) rfl rfl ?_
    refine w_aln (q := 1) (n := 8) hM (dtab_at okX9_copy 4 rfl) rfl rfl ?_
    refine w_iln (q := 4) (n := 9) hM (dtab_at okX9_copy 5 rfl) rfl rfl ?_
    obtain ⟨r1, hr1, hf⟩ := Option.bind_eq_some_iff.mp hf
    refine w_callVr (n := 12) (As := [vi a3]) (rest := []) (k := 9) (j := 0) (C := RX9) (T := TX9) (N := 10) hM (c_X9_reelAt nF S a3 r1 hr1) lkM_X9_64 mv_X9_reelAt (by decide) rfl (by decide) rfl (Nat.le_of_ble_eq_true rfl) rfl (dtab_at okX9_copy 6 rfl) rfl (fun x1 S1 hp1 => ?_)
    obtain ⟨hx_, hs_⟩ := hp1
    have hs_ := hs_.symm
    subst hs_
    have hx_ := hx_.symm
    subst hx_
    rcases r1 with _ | ⟨q1, j1⟩
    · skip
      dsimp only at hf
      refine w_as (n := 14) (lv' := [(7, vn), (6, vn), (0, vr 9 0), (1, vi a1), (2, vi a2), (3, vi a3), (4, vi a4), (5, vi a5)]) hM (dtab_at okX9_copy 7 rfl) (by decide) rfl rfl ?_
      refine w_al (q := 1) (n := 16) hM (dtab_at okX9_copy 8 rfl) rfl rfl ?_
      refine w_ifnullN (n := 24) hM (dtab_at okX9_copy 9 rfl) (by decide) ?_
      refine w_bi (n := 26) hM (-2 : Int32) (dtab_at okX9_copy 12 rfl) (by decide) rfl ?_
      exact r_i hM (dtab_at okX9_copy 13 rfl) (Option.some.inj hf)
    · skip
      obtain rfl := fX9_reelAt_kind hr1
      dsimp only at hf
      refine w_as (n := 14) (lv' := [(7, vr 5 j1), (6, vn), (0, vr 9 0), (1, vi a1), (2, vi a2), (3, vi a3), (4, vi a4), (5, vi a5)]) hM (dtab_at okX9_copy 7 rfl) (by decide) rfl rfl ?_
      refine w_al (q := 1) (n := 16) hM (dtab_at okX9_copy 8 rfl) rfl rfl ?_
      refine w_ifnullN (n := 24) hM (dtab_at okX9_copy 9 rfl) (by decide) ?_
      refine w_bi (n := 26) hM (-2 : Int32) (dtab_at okX9_copy 12 rfl) (by decide) rfl ?_
      exact r_i hM (dtab_at okX9_copy 13 rfl) (Option.some.inj hf)
  · skip
    obtain rfl := fX9_reelAt_kind hr0
    dsimp only at hf
    refine w_as (n := 7) (lv' := [(6, vr 5 j0), (0, vr 9 0), (1, vi a1), (2, vi a2), (3, vi a3), (4, vi a4), (5, vi a5)]) hM (dtab_at okX9_copy 3 rfl) (by decide) rfl rfl ?_
    refine w_aln (q := 1) (n := 8) hM (dtab_at okX9_copy 4 rfl) rfl rfl ?_
    refine w_iln (q := 4) (n := 9) hM (dtab_at okX9_copy 5 rfl) rfl rfl ?_
    obtain ⟨r2, hr2, hf⟩ := Option.bind_eq_some_iff.mp hf
    refine w_callVr (n := 12) (As := [vi a3]) (rest := []) (k := 9) (j := 0) (C := RX9) (T := TX9) (N := 10) hM (c_X9_reelAt nF S a3 r2 hr2) lkM_X9_64 mv_X9_reelAt (by decide) rfl (by decide) rfl (Nat.le_of_ble_eq_true rfl) rfl (dtab_at okX9_copy 6 rfl) rfl (fun x2 S2 hp2 => ?_)
    obtain ⟨hx_, hs_⟩ := hp2
    have hs_ := hs_.symm
    subst hs_
    have hx_ := hx_.symm
    subst hx_
    rcases r2 with _ | ⟨q2, j2⟩
    · skip
      dsimp only at hf
      refine w_as (n := 14) (lv' := [(7, vn), (6, vr 5 j0), (0, vr 9 0), (1, vi a1), (2, vi a2), (3, vi a3), (4, vi a4), (5, vi a5)]) hM (dtab_at okX9_copy 7 rfl) (by decide) rfl rfl ?_
      refine w_al (q := 1) (n := 16) hM (dtab_at okX9_copy 8 rfl) rfl rfl ?_
      refine w_ifnullR (n := 19) hM (dtab_at okX9_copy 9 rfl) rfl ?_
      refine w_al (q := 0) (n := 21) hM (dtab_at okX9_copy 10 rfl) rfl rfl ?_
      refine w_ifnonnullN (n := 24) hM (dtab_at okX9_copy 11 rfl) rfl ?_
      refine w_bi (n := 26) hM (-2 : Int32) (dtab_at okX9_copy 12 rfl) (by decide) rfl ?_
      exact r_i hM (dtab_at okX9_copy 13 rfl) (Option.some.inj hf)
    · skip
      obtain rfl := fX9_reelAt_kind hr2
      dsimp only at hf
      refine w_as (n := 14) (lv' := [(7, vr 5 j2), (6, vr 5 j0), (0, vr 9 0), (1, vi a1), (2, vi a2), (3, vi a3), (4, vi a4), (5, vi a5)]) hM (dtab_at okX9_copy 7 rfl) (by decide) rfl rfl ?_
      refine w_al (q := 1) (n := 16) hM (dtab_at okX9_copy 8 rfl) rfl rfl ?_
      refine w_ifnullR (n := 19) hM (dtab_at okX9_copy 9 rfl) rfl ?_
      refine w_al (q := 0) (n := 21) hM (dtab_at okX9_copy 10 rfl) rfl rfl ?_
      refine w_ifnonnullR (n := 27) hM (dtab_at okX9_copy 11 rfl) (by decide) ?_
      refine w_al (q := 1) (n := 29) hM (dtab_at okX9_copy 14 rfl) rfl rfl ?_
      refine w_callVi (n := 32) (As := []) (rest := []) (k := 5) (j := j0) (C := RX5) (T := TX5) (N := 3) hM (c_X5_isLost S j0) lkM_X9_82 mv_X5_isLost (by decide) rfl (by decide) rfl (Nat.le_of_ble_eq_true rfl) rfl (dtab_at okX9_copy 15 rfl) rfl (fun x3 S3 hp3 => ?_)
      obtain ⟨hx_, hs_⟩ := hp3
      have hs_ := hs_.symm
      subst hs_
      subst hx_
      refine w_if_ne (n := 43) (n2 := 35) hM (dtab_at okX9_copy 16 rfl) (by decide) rfl (fun (h32 : ¬ (fX5_isLost S j0) = (0 : Int32)) => ?_) (fun (h32 : (fX5_isLost S j0) = (0 : Int32)) => ?_)
      · skip
        rw [if_neg h32] at hf
        refine w_aln (q := 2) (n := 44) hM (dtab_at okX9_copy 20 rfl) rfl rfl ?_
        refine w_ic (n := 45) hM (1 : Int32) (dtab_at okX9_copy 21 rfl) (by decide) rfl ?_
        refine w_callVi (n := 48) (As := [vi (1 : Int32)]) (rest := []) (k := 9) (j := 0) (C := RX9) (T := TX9) (N := 10) hM (c_X9_found S (1 : Int32)) lkM_X9_72 mv_X9_found (by decide) rfl (by decide) rfl (Nat.le_of_ble_eq_true rfl) rfl (dtab_at okX9_copy 22 rfl) rfl (fun x4 S4 hp4 => ?_)
        have hx_ := congrArg Prod.fst hp4
        have hs_ := congrArg Prod.snd hp4
        dsimp only at hx_ hs_
        subst hx_
        subst hs_
        exact r_i hM (dtab_at okX9_copy 23 rfl) (Option.some.inj hf)
      · skip
        rw [if_pos h32] at hf
        refine w_al (q := 0) (n := 37) hM (dtab_at okX9_copy 17 rfl) rfl rfl ?_
        refine w_callVi (n := 40) (As := []) (rest := []) (k := 5) (j := j2) (C := RX5) (T := TX5) (N := 3) hM (c_X5_isLost S j2) lkM_X9_82 mv_X5_isLost (by decide) rfl (by decide) rfl (Nat.le_of_ble_eq_true rfl) rfl (dtab_at okX9_copy 18 rfl) rfl (fun x5 S5 hp5 => ?_)
        obtain ⟨hx_, hs_⟩ := hp5
        have hs_ := hs_.symm
        subst hs_
        subst hx_
        refine w_if_eq (n := 49) (n2 := 43) hM (dtab_at okX9_copy 19 rfl) (by decide) rfl (fun (h40 : (fX5_isLost S j2) = (0 : Int32)) => ?_) (fun (h40 : ¬ (fX5_isLost S j2) = (0 : Int32)) => ?_)
        · skip
          rw [if_pos h40] at hf
          refine w_al (q := 1) (n := 51) hM (dtab_at okX9_copy 24 rfl) rfl rfl ?_
          refine w_geti (C := RX5) (T := TX5) (i := 1) (n := 54) hM rfl (by decide) ly_X5 lkF_X9_104 (dtab_at okX9_copy 25 rfl) rfl ?_
          refine w_al (q := 0) (n := 56) hM (dtab_at okX9_copy 26 rfl) rfl rfl ?_
          refine w_geti (C := RX5) (T := TX5) (i := 1) (n := 59) hM rfl (by decide) ly_X5 lkF_X9_104 (dtab_at okX9_copy 27 rfl) rfl ?_
          refine w_ic_eq (n := 68) (n2 := 62) hM (dtab_at okX9_copy 28 rfl) (by decide) rfl (fun (h59 : (S.1 j0 1) = (S.1 j2 1)) => ?_) (fun (h59 : ¬ (S.1 j0 1) = (S.1 j2 1)) => ?_)
          · skip
            rw [if_pos h59] at hf
            refine w_al (q := 1) (n := 70) hM (dtab_at okX9_copy 33 rfl) rfl rfl ?_
            refine w_iln (q := 4) (n := 71) hM (dtab_at okX9_copy 34 rfl) rfl rfl ?_
            refine w_il (q := 7) (n := 73) hM (dtab_at okX9_copy 35 rfl) rfl rfl ?_
            refine w_callVi (n := 76) (As := [vi a2, vi a5]) (rest := []) (k := 5) (j := j0) (C := RX5) (T := TX5) (N := 3) hM (c_X5_hasItems S j0 a2 a5) lkM_X9_107 mv_X5_hasItems (by decide) rfl (by decide) rfl (Nat.le_of_ble_eq_true rfl) rfl (dtab_at okX9_copy 36 rfl) rfl (fun x6 S6 hp6 => ?_)
            obtain ⟨hx_, hs_⟩ := hp6
            have hs_ := hs_.symm
            subst hs_
            subst hx_
            refine w_if_eq (n := 91) (n2 := 79) hM (dtab_at okX9_copy 37 rfl) (by decide) rfl (fun (h76 : (fX5_hasItems S j0 a2 a5) = (0 : Int32)) => ?_) (fun (h76 : ¬ (fX5_hasItems S j0 a2 a5) = (0 : Int32)) => ?_)
            · skip
              rw [if_pos h76] at hf
              refine w_aln (q := 2) (n := 92) hM (dtab_at okX9_copy 43 rfl) rfl rfl ?_
              refine w_ic (n := 93) hM (2 : Int32) (dtab_at okX9_copy 44 rfl) (by decide) rfl ?_
              refine w_callVi (n := 96) (As := [vi (2 : Int32)]) (rest := []) (k := 9) (j := 0) (C := RX9) (T := TX9) (N := 10) hM (c_X9_found S (2 : Int32)) lkM_X9_72 mv_X9_found (by decide) rfl (by decide) rfl (Nat.le_of_ble_eq_true rfl) rfl (dtab_at okX9_copy 45 rfl) rfl (fun x7 S7 hp7 => ?_)
              have hx_ := congrArg Prod.fst hp7
              have hs_ := congrArg Prod.snd hp7
              dsimp only at hx_ hs_
              subst hx_
              subst hs_
              exact r_i hM (dtab_at okX9_copy 46 rfl) (Option.some.inj hf)
            · skip
              rw [if_neg h76] at hf
              refine w_al (q := 0) (n := 81) hM (dtab_at okX9_copy 38 rfl) rfl rfl ?_
              refine w_il (q := 6) (n := 83) hM (dtab_at okX9_copy 39 rfl) rfl rfl ?_
              refine w_il (q := 7) (n := 85) hM (dtab_at okX9_copy 40 rfl) rfl rfl ?_
              refine w_callVi (n := 88) (As := [vi a4, vi a5]) (rest := []) (k := 5) (j := j2) (C := RX5) (T := TX5) (N := 3) hM (c_X5_hasItems S j2 a4 a5) lkM_X9_107 mv_X5_hasItems (by decide) rfl (by decide) rfl (Nat.le_of_ble_eq_true rfl) rfl (dtab_at okX9_copy 41 rfl) rfl (fun x8 S8 hp8 => ?_)
              obtain ⟨hx_, hs_⟩ := hp8
              have hs_ := hs_.symm
              subst hs_
              subst hx_
              refine w_if_ne (n := 97) (n2 := 91) hM (dtab_at okX9_copy 42 rfl) (by decide) rfl (fun (h88 : ¬ (fX5_hasItems S j2 a4 a5) = (0 : Int32)) => ?_) (fun (h88 : (fX5_hasItems S j2 a4 a5) = (0 : Int32)) => ?_)
              · skip
                rw [if_neg h88] at hf
                refine w_al (q := 1) (n := 99) hM (dtab_at okX9_copy 47 rfl) rfl rfl ?_
                refine w_getr (C := RX5) (T := TX5) (i := 0) (k2 := 250) (q := (j0 + 8)) (n := 102) hM rfl (by decide) rfc_5_0 ly_X5 lkF_X9_100 (dtab_at okX9_copy 48 rfl) rfl ?_
                refine w_iln (q := 4) (n := 103) hM (dtab_at okX9_copy 49 rfl) rfl rfl ?_
                refine w_al (q := 0) (n := 105) hM (dtab_at okX9_copy 50 rfl) rfl rfl ?_
                refine w_getr (C := RX5) (T := TX5) (i := 0) (k2 := 250) (q := (j2 + 8)) (n := 108) hM rfl (by decide) rfc_5_0 ly_X5 lkF_X9_100 (dtab_at okX9_copy 51 rfl) rfl ?_
                refine w_il (q := 6) (n := 110) hM (dtab_at okX9_copy 52 rfl) rfl rfl ?_
                refine w_il (q := 7) (n := 112) hM (dtab_at okX9_copy 53 rfl) rfl rfl ?_
                by_cases hg112 : a2 < 0 ∨ a4 < 0 ∨ a5 < 0 ∨ 150 < a2.toNatClampNeg + a5.toNatClampNeg ∨ 150 < a4.toNatClampNeg + a5.toNatClampNeg
                · rw [if_pos hg112] at hf; cases hf
                rw [if_neg hg112] at hf
                refine w_copy (n := 115) (n0 := 150) (n1 := 150) hM ⟨lkM_X9_111, mN_N_arraycopy, mS_N_arraycopy, iz_J10⟩ rfl rfl hg112 (by decide) (Nat.le_of_ble_eq_true rfl) (dtab_at okX9_copy 54 rfl) rfl ?_
                refine w_ic (n := 116) hM (1 : Int32) (dtab_at okX9_copy 55 rfl) (by decide) rfl ?_
                exact r_i hM (dtab_at okX9_copy 56 rfl) (Option.some.inj hf)
              · skip
                rw [if_pos h88] at hf
                refine w_aln (q := 2) (n := 92) hM (dtab_at okX9_copy 43 rfl) rfl rfl ?_
                refine w_ic (n := 93) hM (2 : Int32) (dtab_at okX9_copy 44 rfl) (by decide) rfl ?_
                refine w_callVi (n := 96) (As := [vi (2 : Int32)]) (rest := []) (k := 9) (j := 0) (C := RX9) (T := TX9) (N := 10) hM (c_X9_found S (2 : Int32)) lkM_X9_72 mv_X9_found (by decide) rfl (by decide) rfl (Nat.le_of_ble_eq_true rfl) rfl (dtab_at okX9_copy 45 rfl) rfl (fun x9 S9 hp9 => ?_)
                have hx_ := congrArg Prod.fst hp9
                have hs_ := congrArg Prod.snd hp9
                dsimp only at hx_ hs_
                subst hx_
                subst hs_
                exact r_i hM (dtab_at okX9_copy 46 rfl) (Option.some.inj hf)
          · skip
            rw [if_neg h59] at hf
            refine w_aln (q := 2) (n := 63) hM (dtab_at okX9_copy 29 rfl) rfl rfl ?_
            refine w_ic (n := 64) hM (4 : Int32) (dtab_at okX9_copy 30 rfl) (by decide) rfl ?_
            refine w_callVi (n := 67) (As := [vi (4 : Int32)]) (rest := []) (k := 9) (j := 0) (C := RX9) (T := TX9) (N := 10) hM (c_X9_found S (4 : Int32)) lkM_X9_72 mv_X9_found (by decide) rfl (by decide) rfl (Nat.le_of_ble_eq_true rfl) rfl (dtab_at okX9_copy 31 rfl) rfl (fun x10 S10 hp10 => ?_)
            have hx_ := congrArg Prod.fst hp10
            have hs_ := congrArg Prod.snd hp10
            dsimp only at hx_ hs_
            subst hx_
            subst hs_
            exact r_i hM (dtab_at okX9_copy 32 rfl) (Option.some.inj hf)
        · skip
          rw [if_neg h40] at hf
          refine w_aln (q := 2) (n := 44) hM (dtab_at okX9_copy 20 rfl) rfl rfl ?_
          refine w_ic (n := 45) hM (1 : Int32) (dtab_at okX9_copy 21 rfl) (by decide) rfl ?_
          refine w_callVi (n := 48) (As := [vi (1 : Int32)]) (rest := []) (k := 9) (j := 0) (C := RX9) (T := TX9) (N := 10) hM (c_X9_found S (1 : Int32)) lkM_X9_72 mv_X9_found (by decide) rfl (by decide) rfl (Nat.le_of_ble_eq_true rfl) rfl (dtab_at okX9_copy 22 rfl) rfl (fun x11 S11 hp11 => ?_)
          have hx_ := congrArg Prod.fst hp11
          have hs_ := congrArg Prod.snd hp11
          dsimp only at hx_ hs_
          subst hx_
          subst hs_
          exact r_i hM (dtab_at okX9_copy 23 rfl) (Option.some.inj hf)
def fX9_run (nF : Nat) (S : PS) (a1 : Int32) (a2 : Int32) : Option (Int32 × PS) := (match (fX9_runAt S a1) with | none => (some ((-2 : Int32), S)) | some (_, j0) => (if (fX9_isWithin S a2 (0 : Int32) (3 : Int32)) = (0 : Int32) then (some ((-2 : Int32), S)) else ((fX6_feel nF S j0).bind fun r2 => ((fX6_fact nF r2 j0 a2).bind fun r3 => (some (r3, r2))))))
set_option maxHeartbeats 4000000 in
set_option maxRecDepth 100000 in
theorem c_X9_run {cy : ClassId × ClassId} {ad : Nat → Nat} {D : va_G} {l : Launch} (nF : Nat) (S : PS) (a1 : Int32) (a2 : Int32) (r : Int32 × PS) (hf : fX9_run nF S a1 a2 = some r) : PMi cy GC ad D l yX9_run (wA yX9_run cX9_run 4 (some .int)) rmX9_run [vr 9 0, vi a1, vi a2] S (fun x S' => (x, S') = r) := by
  refine PM.of (lv := [(0, vr 9 0), (1, vi a1), (2, vi a2)]) GC_ok (by decide) (Nat.le_of_ble_eq_true rfl) rfl (by simp) ?_
  intro p e s m args below meth c A hM
  rw [fX9_run] at hf
  refine w_aln (q := 0) (n := 1) hM (dtab_at okX9_run 0 rfl) rfl rfl ?_
  refine w_iln (q := 1) (n := 2) hM (dtab_at okX9_run 1 rfl) rfl rfl ?_
  refine w_callVr (n := 5) (As := [vi a1]) (rest := []) (k := 9) (j := 0) (C := RX9) (T := TX9) (N := 10) hM (c_X9_runAt S a1) lkM_X9_117 mv_X9_runAt (by decide) rfl (by decide) rfl (Nat.le_of_ble_eq_true rfl) rfl (dtab_at okX9_run 2 rfl) rfl (fun x0 S0 hp0 => ?_)
  obtain ⟨hx_, hs_⟩ := hp0
  have hs_ := hs_.symm
  subst hs_
  subst hx_
  rcases hq0 : (fX9_runAt S a1) with _ | ⟨q0, j0⟩
  · skip
    rw [hq0] at hf
    dsimp only at hf
    refine w_asn (n := 6) (lv' := [(3, vn), (0, vr 9 0), (1, vi a1), (2, vi a2)]) hM (dtab_at okX9_run 3 rfl) (by decide) rfl rfl ?_
    refine w_aln (q := 0) (n := 7) hM (dtab_at okX9_run 4 rfl) rfl rfl ?_
    refine w_ifnullN (n := 19) hM (dtab_at okX9_run 5 rfl) (by decide) ?_
    refine w_bi (n := 21) hM (-2 : Int32) (dtab_at okX9_run 11 rfl) (by decide) rfl ?_
    exact r_i hM (dtab_at okX9_run 12 rfl) (Option.some.inj hf)
  · skip
    obtain rfl := fX9_runAt_kind hq0
    rw [hq0] at hf
    dsimp only at hf
    refine w_asn (n := 6) (lv' := [(3, vr 6 j0), (0, vr 9 0), (1, vi a1), (2, vi a2)]) hM (dtab_at okX9_run 3 rfl) (by decide) rfl rfl ?_
    refine w_aln (q := 0) (n := 7) hM (dtab_at okX9_run 4 rfl) rfl rfl ?_
    refine w_ifnullR (n := 10) hM (dtab_at okX9_run 5 rfl) rfl ?_
    refine w_iln (q := 3) (n := 11) hM (dtab_at okX9_run 6 rfl) rfl rfl ?_
    refine w_ic (n := 12) hM (0 : Int32) (dtab_at okX9_run 7 rfl) (by decide) rfl ?_
    refine w_ic (n := 13) hM (3 : Int32) (dtab_at okX9_run 8 rfl) (by decide) rfl ?_
    refine w_callSi (n := 16) (As := [vi a2, vi (0 : Int32), vi (3 : Int32)]) (rest := []) hM (c_X9_isWithin S a2 (0 : Int32) (3 : Int32)) lkM_X9_121 ms_X9_isWithin (by decide) rfl (Nat.le_of_ble_eq_true rfl) rfl (dtab_at okX9_run 9 rfl) rfl (fun x1 S1 hp1 => ?_)
    obtain ⟨hx_, hs_⟩ := hp1
    have hs_ := hs_.symm
    subst hs_
    subst hx_
    refine w_if_ne (n := 22) (n2 := 19) hM (dtab_at okX9_run 10 rfl) (by decide) rfl (fun (h16 : ¬ (fX9_isWithin S a2 (0 : Int32) (3 : Int32)) = (0 : Int32)) => ?_) (fun (h16 : (fX9_isWithin S a2 (0 : Int32) (3 : Int32)) = (0 : Int32)) => ?_)
    · skip
      rw [if_neg h16] at hf
      refine w_aln (q := 0) (n := 23) hM (dtab_at okX9_run 13 rfl) rfl rfl ?_
      obtain ⟨r2, hr2, hf⟩ := Option.bind_eq_some_iff.mp hf
      refine w_callVv (n := 26) (As := []) (rest := []) (k := 6) (j := j0) (C := RX6) (T := TX6) (N := 12) hM (c_X6_feel nF S j0 r2 hr2) lkM_X9_125 mv_X6_feel (by decide) rfl (by decide) rfl (Nat.le_of_ble_eq_true rfl) rfl (dtab_at okX9_run 14 rfl) rfl (fun S2 hp2 => ?_)
      have hs_ := hp2.symm
      subst hs_
      refine w_aln (q := 0) (n := 27) hM (dtab_at okX9_run 15 rfl) rfl rfl ?_
      refine w_iln (q := 3) (n := 28) hM (dtab_at okX9_run 16 rfl) rfl rfl ?_
      obtain ⟨r3, hr3, hf⟩ := Option.bind_eq_some_iff.mp hf
      refine w_callVi (n := 31) (As := [vi a2]) (rest := []) (k := 6) (j := j0) (C := RX6) (T := TX6) (N := 12) hM (c_X6_fact nF r2 j0 a2 r3 hr3) lkM_X9_128 mv_X6_fact (by decide) rfl (by decide) rfl (Nat.le_of_ble_eq_true rfl) rfl (dtab_at okX9_run 17 rfl) rfl (fun x3 S3 hp3 => ?_)
      obtain ⟨hx_, hs_⟩ := hp3
      have hs_ := hs_.symm
      have hx_ := hx_.symm
      subst hs_
      subst hx_
      exact r_i hM (dtab_at okX9_run 18 rfl) (Option.some.inj hf)
    · skip
      rw [if_pos h16] at hf
      refine w_bi (n := 21) hM (-2 : Int32) (dtab_at okX9_run 11 rfl) (by decide) rfl ?_
      exact r_i hM (dtab_at okX9_run 12 rfl) (Option.some.inj hf)
def fX9_way (nF : Nat) (S : PS) (a1 : Int32) (a2 : Int32) : Option (Int32 × PS) := (match (fX9_runAt S a1) with | none => (some ((-2 : Int32), S)) | some (_, j0) => ((fX6_feel nF S j0).bind fun r1 => (if a2 < (0 : Int32) then (some ((-2 : Int32), r1)) else (if a2 < (r1.1 j0 9) then (if a2 < 0 ∨ 150 ≤ a2.toNatClampNeg then none else (some ((r1.2 (j0 + 32) a2.toNatClampNeg), r1))) else (some ((-2 : Int32), r1))))))
set_option maxHeartbeats 4000000 in
set_option maxRecDepth 100000 in
theorem c_X9_way {cy : ClassId × ClassId} {ad : Nat → Nat} {D : va_G} {l : Launch} (nF : Nat) (S : PS) (a1 : Int32) (a2 : Int32) (r : Int32 × PS) (hf : fX9_way nF S a1 a2 = some r) : PMi cy GC ad D l yX9_way (wA yX9_way cX9_way 4 (some .int)) rmX9_way [vr 9 0, vi a1, vi a2] S (fun x S' => (x, S') = r) := by
  refine PM.of (lv := [(0, vr 9 0), (1, vi a1), (2, vi a2)]) GC_ok (by decide) (Nat.le_of_ble_eq_true rfl) rfl (by simp) ?_
  intro p e s m args below meth c A hM
  rw [fX9_way] at hf
  refine w_aln (q := 0) (n := 1) hM (dtab_at okX9_way 0 rfl) rfl rfl ?_
  refine w_iln (q := 1) (n := 2) hM (dtab_at okX9_way 1 rfl) rfl rfl ?_
  refine w_callVr (n := 5) (As := [vi a1]) (rest := []) (k := 9) (j := 0) (C := RX9) (T := TX9) (N := 10) hM (c_X9_runAt S a1) lkM_X9_117 mv_X9_runAt (by decide) rfl (by decide) rfl (Nat.le_of_ble_eq_true rfl) rfl (dtab_at okX9_way 2 rfl) rfl (fun x0 S0 hp0 => ?_)
  obtain ⟨hx_, hs_⟩ := hp0
  have hs_ := hs_.symm
  subst hs_
  subst hx_
  rcases hq0 : (fX9_runAt S a1) with _ | ⟨q0, j0⟩
  · skip
    rw [hq0] at hf
    dsimp only at hf
    refine w_asn (n := 6) (lv' := [(3, vn), (0, vr 9 0), (1, vi a1), (2, vi a2)]) hM (dtab_at okX9_way 3 rfl) (by decide) rfl rfl ?_
    refine w_aln (q := 0) (n := 7) hM (dtab_at okX9_way 4 rfl) rfl rfl ?_
    refine w_ifnonnullN (n := 10) hM (dtab_at okX9_way 5 rfl) rfl ?_
    refine w_bi (n := 12) hM (-2 : Int32) (dtab_at okX9_way 6 rfl) (by decide) rfl ?_
    exact r_i hM (dtab_at okX9_way 7 rfl) (Option.some.inj hf)
  · skip
    obtain rfl := fX9_runAt_kind hq0
    rw [hq0] at hf
    dsimp only at hf
    refine w_asn (n := 6) (lv' := [(3, vr 6 j0), (0, vr 9 0), (1, vi a1), (2, vi a2)]) hM (dtab_at okX9_way 3 rfl) (by decide) rfl rfl ?_
    refine w_aln (q := 0) (n := 7) hM (dtab_at okX9_way 4 rfl) rfl rfl ?_
    refine w_ifnonnullR (n := 13) hM (dtab_at okX9_way 5 rfl) (by decide) ?_
    refine w_aln (q := 0) (n := 14) hM (dtab_at okX9_way 8 rfl) rfl rfl ?_
    obtain ⟨r1, hr1, hf⟩ := Option.bind_eq_some_iff.mp hf
    refine w_callVv (n := 17) (As := []) (rest := []) (k := 6) (j := j0) (C := RX6) (T := TX6) (N := 12) hM (c_X6_feel nF S j0 r1 hr1) lkM_X9_125 mv_X6_feel (by decide) rfl (by decide) rfl (Nat.le_of_ble_eq_true rfl) rfl (dtab_at okX9_way 9 rfl) rfl (fun S1 hp1 => ?_)
    have hs_ := hp1.symm
    subst hs_
    refine w_iln (q := 3) (n := 18) hM (dtab_at okX9_way 10 rfl) rfl rfl ?_
    refine w_if_lt (n := 29) (n2 := 21) hM (dtab_at okX9_way 11 rfl) (by decide) rfl (fun (h18 : a2 < (0 : Int32)) => ?_) (fun (h18 : ¬ a2 < (0 : Int32)) => ?_)
    · skip
      rw [if_pos h18] at hf
      refine w_bi (n := 31) hM (-2 : Int32) (dtab_at okX9_way 16 rfl) (by decide) rfl ?_
      exact r_i hM (dtab_at okX9_way 17 rfl) (Option.some.inj hf)
    · skip
      rw [if_neg h18] at hf
      refine w_iln (q := 3) (n := 22) hM (dtab_at okX9_way 12 rfl) rfl rfl ?_
      refine w_aln (q := 0) (n := 23) hM (dtab_at okX9_way 13 rfl) rfl rfl ?_
      refine w_geti (C := RX6) (T := TX6) (i := 9) (n := 26) hM rfl (by decide) ly_X6 lkF_X9_131 (dtab_at okX9_way 14 rfl) rfl ?_
      refine w_ic_lt (n := 32) (n2 := 29) hM (dtab_at okX9_way 15 rfl) (by decide) rfl (fun (h26 : a2 < (r1.1 j0 9)) => ?_) (fun (h26 : ¬ a2 < (r1.1 j0 9)) => ?_)
      · skip
        rw [if_pos h26] at hf
        refine w_aln (q := 0) (n := 33) hM (dtab_at okX9_way 18 rfl) rfl rfl ?_
        refine w_getr (C := RX6) (T := TX6) (i := 5) (k2 := 250) (q := (j0 + 32)) (n := 36) hM rfl (by decide) rfc_6_5 ly_X6 lkF_X9_134 (dtab_at okX9_way 19 rfl) rfl ?_
        refine w_iln (q := 3) (n := 37) hM (dtab_at okX9_way 20 rfl) rfl rfl ?_
        by_cases hg37 : a2 < 0 ∨ 150 ≤ a2.toNatClampNeg
        · rw [if_pos hg37] at hf; cases hf
        rw [if_neg hg37] at hf
        refine w_ald (nn := 150) (n := 38) hM rfl hg37 (dtab_at okX9_way 21 rfl) rfl ?_
        exact r_i hM (dtab_at okX9_way 22 rfl) (Option.some.inj hf)
      · skip
        rw [if_neg h26] at hf
        refine w_bi (n := 31) hM (-2 : Int32) (dtab_at okX9_way 16 rfl) (by decide) rfl ?_
        exact r_i hM (dtab_at okX9_way 17 rfl) (Option.some.inj hf)
def fX9_felt (nF : Nat) (S : PS) (a1 : Int32) (a2 : Int32) (a3 : Int32) : Option (Int32 × PS) := (match (fX9_runAt S a1) with | none => (some ((-2 : Int32), S)) | some (_, j0) => (if (fX9_isWithin S a3 (0 : Int32) (1 : Int32)) = (0 : Int32) then (some ((-2 : Int32), S)) else ((fX6_feel nF S j0).bind fun r2 => (if a2 < (0 : Int32) then (some ((-2 : Int32), r2)) else (if a2 < (r2.1 j0 11) then (if a3 = (0 : Int32) then (if a2 < 0 ∨ 60 ≤ a2.toNatClampNeg then none else (some ((r2.2 (j0 + 34) a2.toNatClampNeg), r2))) else (if a2 < 0 ∨ 60 ≤ a2.toNatClampNeg then none else (some ((r2.2 (j0 + 36) a2.toNatClampNeg), r2)))) else (some ((-2 : Int32), r2)))))))
set_option maxHeartbeats 4000000 in
set_option maxRecDepth 100000 in
theorem c_X9_felt {cy : ClassId × ClassId} {ad : Nat → Nat} {D : va_G} {l : Launch} (nF : Nat) (S : PS) (a1 : Int32) (a2 : Int32) (a3 : Int32) (r : Int32 × PS) (hf : fX9_felt nF S a1 a2 a3 = some r) : PMi cy GC ad D l yX9_felt (wA yX9_felt cX9_felt 5 (some .int)) rmX9_felt [vr 9 0, vi a1, vi a2, vi a3] S (fun x S' => (x, S') = r) := by
  refine PM.of (lv := [(0, vr 9 0), (1, vi a1), (2, vi a2), (3, vi a3)]) GC_ok (by decide) (Nat.le_of_ble_eq_true rfl) rfl (by simp) ?_
  intro p e s m args below meth c A hM
  rw [fX9_felt] at hf
  refine w_aln (q := 0) (n := 1) hM (dtab_at okX9_felt 0 rfl) rfl rfl ?_
  refine w_iln (q := 1) (n := 2) hM (dtab_at okX9_felt 1 rfl) rfl rfl ?_
  refine w_callVr (n := 5) (As := [vi a1]) (rest := []) (k := 9) (j := 0) (C := RX9) (T := TX9) (N := 10) hM (c_X9_runAt S a1) lkM_X9_117 mv_X9_runAt (by decide) rfl (by decide) rfl (Nat.le_of_ble_eq_true rfl) rfl (dtab_at okX9_felt 2 rfl) rfl (fun x0 S0 hp0 => ?_)
  obtain ⟨hx_, hs_⟩ := hp0
  have hs_ := hs_.symm
  subst hs_
  subst hx_
  rcases hq0 : (fX9_runAt S a1) with _ | ⟨q0, j0⟩
  · skip
    rw [hq0] at hf
    dsimp only at hf
    refine w_as (n := 7) (lv' := [(4, vn), (0, vr 9 0), (1, vi a1), (2, vi a2), (3, vi a3)]) hM (dtab_at okX9_felt 3 rfl) (by decide) rfl rfl ?_
    refine w_al (q := 0) (n := 9) hM (dtab_at okX9_felt 4 rfl) rfl rfl ?_
    refine w_ifnullN (n := 21) hM (dtab_at okX9_felt 5 rfl) (by decide) ?_
    refine w_bi (n := 23) hM (-2 : Int32) (dtab_at okX9_felt 11 rfl) (by decide) rfl ?_
    exact r_i hM (dtab_at okX9_felt 12 rfl) (Option.some.inj hf)
  · skip
    obtain rfl := fX9_runAt_kind hq0
    rw [hq0] at hf
    dsimp only at hf
    refine w_as (n := 7) (lv' := [(4, vr 6 j0), (0, vr 9 0), (1, vi a1), (2, vi a2), (3, vi a3)]) hM (dtab_at okX9_felt 3 rfl) (by decide) rfl rfl ?_
    refine w_al (q := 0) (n := 9) hM (dtab_at okX9_felt 4 rfl) rfl rfl ?_
    refine w_ifnullR (n := 12) hM (dtab_at okX9_felt 5 rfl) rfl ?_
    refine w_iln (q := 4) (n := 13) hM (dtab_at okX9_felt 6 rfl) rfl rfl ?_
    refine w_ic (n := 14) hM (0 : Int32) (dtab_at okX9_felt 7 rfl) (by decide) rfl ?_
    refine w_ic (n := 15) hM (1 : Int32) (dtab_at okX9_felt 8 rfl) (by decide) rfl ?_
    refine w_callSi (n := 18) (As := [vi a3, vi (0 : Int32), vi (1 : Int32)]) (rest := []) hM (c_X9_isWithin S a3 (0 : Int32) (1 : Int32)) lkM_X9_121 ms_X9_isWithin (by decide) rfl (Nat.le_of_ble_eq_true rfl) rfl (dtab_at okX9_felt 9 rfl) rfl (fun x1 S1 hp1 => ?_)
    obtain ⟨hx_, hs_⟩ := hp1
    have hs_ := hs_.symm
    subst hs_
    subst hx_
    refine w_if_ne (n := 24) (n2 := 21) hM (dtab_at okX9_felt 10 rfl) (by decide) rfl (fun (h18 : ¬ (fX9_isWithin S a3 (0 : Int32) (1 : Int32)) = (0 : Int32)) => ?_) (fun (h18 : (fX9_isWithin S a3 (0 : Int32) (1 : Int32)) = (0 : Int32)) => ?_)
    · skip
      rw [if_neg h18] at hf
      refine w_al (q := 0) (n := 26) hM (dtab_at okX9_felt 13 rfl) rfl rfl ?_
      obtain ⟨r2, hr2, hf⟩ := Option.bind_eq_some_iff.mp hf
      refine w_callVv (n := 29) (As := []) (rest := []) (k := 6) (j := j0) (C := RX6) (T := TX6) (N := 12) hM (c_X6_feel nF S j0 r2 hr2) lkM_X9_125 mv_X6_feel (by decide) rfl (by decide) rfl (Nat.le_of_ble_eq_true rfl) rfl (dtab_at okX9_felt 14 rfl) rfl (fun S2 hp2 => ?_)
      have hs_ := hp2.symm
      subst hs_
      refine w_iln (q := 3) (n := 30) hM (dtab_at okX9_felt 15 rfl) rfl rfl ?_
      refine w_if_lt (n := 42) (n2 := 33) hM (dtab_at okX9_felt 16 rfl) (by decide) rfl (fun (h30 : a2 < (0 : Int32)) => ?_) (fun (h30 : ¬ a2 < (0 : Int32)) => ?_)
      · skip
        rw [if_pos h30] at hf
        refine w_bi (n := 44) hM (-2 : Int32) (dtab_at okX9_felt 21 rfl) (by decide) rfl ?_
        exact r_i hM (dtab_at okX9_felt 22 rfl) (Option.some.inj hf)
      · skip
        rw [if_neg h30] at hf
        refine w_iln (q := 3) (n := 34) hM (dtab_at okX9_felt 17 rfl) rfl rfl ?_
        refine w_al (q := 0) (n := 36) hM (dtab_at okX9_felt 18 rfl) rfl rfl ?_
        refine w_geti (C := RX6) (T := TX6) (i := 11) (n := 39) hM rfl (by decide) ly_X6 lkF_X9_137 (dtab_at okX9_felt 19 rfl) rfl ?_
        refine w_ic_lt (n := 45) (n2 := 42) hM (dtab_at okX9_felt 20 rfl) (by decide) rfl (fun (h39 : a2 < (r2.1 j0 11)) => ?_) (fun (h39 : ¬ a2 < (r2.1 j0 11)) => ?_)
        · skip
          rw [if_pos h39] at hf
          refine w_iln (q := 4) (n := 46) hM (dtab_at okX9_felt 23 rfl) rfl rfl ?_
          refine w_if_ne (n := 59) (n2 := 49) hM (dtab_at okX9_felt 24 rfl) (by decide) rfl (fun (h46 : ¬ a3 = (0 : Int32)) => ?_) (fun (h46 : a3 = (0 : Int32)) => ?_)
          · skip
            rw [if_neg h46] at hf
            refine w_al (q := 0) (n := 61) hM (dtab_at okX9_felt 30 rfl) rfl rfl ?_
            refine w_getr (C := RX6) (T := TX6) (i := 7) (k2 := 160) (q := (j0 + 36)) (n := 64) hM rfl (by decide) rfc_6_7 ly_X6 lkF_X9_143 (dtab_at okX9_felt 31 rfl) rfl ?_
            refine w_iln (q := 3) (n := 65) hM (dtab_at okX9_felt 32 rfl) rfl rfl ?_
            by_cases hg65 : a2 < 0 ∨ 60 ≤ a2.toNatClampNeg
            · rw [if_pos hg65] at hf; cases hf
            rw [if_neg hg65] at hf
            refine w_ald (nn := 60) (n := 66) hM rfl hg65 (dtab_at okX9_felt 33 rfl) rfl ?_
            exact r_i hM (dtab_at okX9_felt 34 rfl) (Option.some.inj hf)
          · skip
            rw [if_pos h46] at hf
            refine w_al (q := 0) (n := 51) hM (dtab_at okX9_felt 25 rfl) rfl rfl ?_
            refine w_getr (C := RX6) (T := TX6) (i := 6) (k2 := 160) (q := (j0 + 34)) (n := 54) hM rfl (by decide) rfc_6_6 ly_X6 lkF_X9_140 (dtab_at okX9_felt 26 rfl) rfl ?_
            refine w_iln (q := 3) (n := 55) hM (dtab_at okX9_felt 27 rfl) rfl rfl ?_
            by_cases hg55 : a2 < 0 ∨ 60 ≤ a2.toNatClampNeg
            · rw [if_pos hg55] at hf; cases hf
            rw [if_neg hg55] at hf
            refine w_ald (nn := 60) (n := 56) hM rfl hg55 (dtab_at okX9_felt 28 rfl) rfl ?_
            refine w_goto (n := 66) hM (dtab_at okX9_felt 29 rfl) (by decide) ?_
            exact r_i hM (dtab_at okX9_felt 34 rfl) (Option.some.inj hf)
        · skip
          rw [if_neg h39] at hf
          refine w_bi (n := 44) hM (-2 : Int32) (dtab_at okX9_felt 21 rfl) (by decide) rfl ?_
          exact r_i hM (dtab_at okX9_felt 22 rfl) (Option.some.inj hf)
    · skip
      rw [if_pos h18] at hf
      refine w_bi (n := 23) hM (-2 : Int32) (dtab_at okX9_felt 11 rfl) (by decide) rfl ?_
      exact r_i hM (dtab_at okX9_felt 12 rfl) (Option.some.inj hf)
def fX9_joint (nF : Nat) (S : PS) (a1 : Int32) : Option (Int32 × PS) := (if (fX9_isWithin S a1 (1 : Int32) (100000 : Int32)) = (0 : Int32) then (some ((-2 : Int32), S)) else ((fX0_add nF S a1).bind fun r1 => (some (r1.1, r1.2))))
set_option maxHeartbeats 4000000 in
set_option maxRecDepth 100000 in
theorem c_X9_joint {cy : ClassId × ClassId} {ad : Nat → Nat} {D : va_G} {l : Launch} (nF : Nat) (S : PS) (a1 : Int32) (r : Int32 × PS) (hf : fX9_joint nF S a1 = some r) : PMi cy GC ad D l yX9_joint (wA yX9_joint cX9_joint 2 (some .int)) rmX9_joint [vr 9 0, vi a1] S (fun x S' => (x, S') = r) := by
  refine PM.of (lv := [(0, vr 9 0), (1, vi a1)]) GC_ok (by decide) (Nat.le_of_ble_eq_true rfl) rfl (by simp) ?_
  intro p e s m args below meth c A hM
  rw [fX9_joint] at hf
  refine w_iln (q := 1) (n := 1) hM (dtab_at okX9_joint 0 rfl) rfl rfl ?_
  refine w_ic (n := 2) hM (1 : Int32) (dtab_at okX9_joint 1 rfl) (by decide) rfl ?_
  refine w_ldc (n := 4) (v := (100000 : Int32)) hM (dtab_at okX9_joint 2 rfl) lkC_X9_146 rfl ?_
  refine w_callSi (n := 7) (As := [vi a1, vi (1 : Int32), vi (100000 : Int32)]) (rest := []) hM (c_X9_isWithin S a1 (1 : Int32) (100000 : Int32)) lkM_X9_121 ms_X9_isWithin (by decide) rfl (Nat.le_of_ble_eq_true rfl) rfl (dtab_at okX9_joint 3 rfl) rfl (fun x0 S0 hp0 => ?_)
  obtain ⟨hx_, hs_⟩ := hp0
  have hs_ := hs_.symm
  subst hs_
  subst hx_
  refine w_if_ne (n := 13) (n2 := 10) hM (dtab_at okX9_joint 4 rfl) (by decide) rfl (fun (h7 : ¬ (fX9_isWithin S a1 (1 : Int32) (100000 : Int32)) = (0 : Int32)) => ?_) (fun (h7 : (fX9_isWithin S a1 (1 : Int32) (100000 : Int32)) = (0 : Int32)) => ?_)
  · skip
    rw [if_neg h7] at hf
    refine w_aln (q := 0) (n := 14) hM (dtab_at okX9_joint 7 rfl) rfl rfl ?_
    refine w_getr (C := RX9) (T := TX9) (i := 2) (k2 := 0) (q := 41) (n := 17) hM rfl (by decide) (fun _ => rfl) ly_X9 lkF_X9_22 (dtab_at okX9_joint 8 rfl) rfl ?_
    refine w_iln (q := 1) (n := 18) hM (dtab_at okX9_joint 9 rfl) rfl rfl ?_
    obtain ⟨r1, hr1, hf⟩ := Option.bind_eq_some_iff.mp hf
    refine w_callVi (n := 21) (As := [vi a1]) (rest := []) (k := 0) (j := 41) (C := RX0) (T := TX0) (N := 5) hM (c_X0_add nF S a1 r1 hr1) lkM_X9_147 mv_X0_add (by decide) rfl (by decide) rfl (Nat.le_of_ble_eq_true rfl) rfl (dtab_at okX9_joint 10 rfl) rfl (fun x1 S1 hp1 => ?_)
    have hx_ := congrArg Prod.fst hp1
    have hs_ := congrArg Prod.snd hp1
    dsimp only at hx_ hs_
    subst hx_
    subst hs_
    exact r_i hM (dtab_at okX9_joint 11 rfl) (Option.some.inj hf)
  · skip
    rw [if_pos h7] at hf
    refine w_bi (n := 12) hM (-2 : Int32) (dtab_at okX9_joint 5 rfl) (by decide) rfl ?_
    exact r_i hM (dtab_at okX9_joint 6 rfl) (Option.some.inj hf)
def fX9_wipe (S : PS)  : Int32 × PS := ((S.1 41 2), (sti S 41 2 (0 : Int32)))
set_option maxHeartbeats 4000000 in
set_option maxRecDepth 100000 in
theorem c_X9_wipe {cy : ClassId × ClassId} {ad : Nat → Nat} {D : va_G} {l : Launch} (S : PS)   : PMi cy GC ad D l yX9_wipe (wA yX9_wipe cX9_wipe 2 (some .int)) rmX9_wipe [vr 9 0] S (fun x S' => (x, S') = (fX9_wipe S)) := by
  refine PM.of (lv := [(0, vr 9 0)]) GC_ok (by decide) (Nat.le_of_ble_eq_true rfl) rfl (by simp) ?_
  intro p e s m args below meth c A hM
  refine w_aln (q := 0) (n := 1) hM (dtab_at okX9_wipe 0 rfl) rfl rfl ?_
  refine w_getr (C := RX9) (T := TX9) (i := 2) (k2 := 0) (q := 41) (n := 4) hM rfl (by decide) (fun _ => rfl) ly_X9 lkF_X9_22 (dtab_at okX9_wipe 1 rfl) rfl ?_
  refine w_geti (C := RX0) (T := TX0) (i := 2) (n := 7) hM rfl (by decide) ly_X0 lkF_X9_150 (dtab_at okX9_wipe 2 rfl) rfl ?_
  refine w_isn (n := 8) (lv' := [(1, vi (S.1 41 2)), (0, vr 9 0)]) hM (dtab_at okX9_wipe 3 rfl) (by decide) rfl rfl ?_
  refine w_aln (q := 1) (n := 9) hM (dtab_at okX9_wipe 4 rfl) rfl rfl ?_
  refine w_getr (C := RX9) (T := TX9) (i := 2) (k2 := 0) (q := 41) (n := 12) hM rfl (by decide) (fun _ => rfl) ly_X9 lkF_X9_22 (dtab_at okX9_wipe 5 rfl) rfl ?_
  refine w_ic (n := 13) hM (0 : Int32) (dtab_at okX9_wipe 6 rfl) (by decide) rfl ?_
  refine w_put (C := RX0) (T := TX0) (i := 2) (ty := .int) (n := 16) hM rfl (by decide) ly_X0 tyX0_ok nmX0 lkF_X9_150 rfl (by decide +kernel) rfl rfl (dtab_at okX9_wipe 7 rfl) rfl ?_
  refine w_iln (q := 0) (n := 17) hM (dtab_at okX9_wipe 8 rfl) rfl rfl ?_
  exact r_i hM (dtab_at okX9_wipe 9 rfl) (by rw [fX9_wipe])
def fX9_costs (S : PS) (a1 : Int32) (a2 : Int32) : Int32 × PS := if (fX9_isWithin S a1 (0 : Int32) (1000000 : Int32)) = (0 : Int32) then ((-2 : Int32), S) else (if (fX9_isWithin S a2 (0 : Int32) (1000000 : Int32)) = (0 : Int32) then ((-2 : Int32), S) else ((1 : Int32), (sti (sti S 41 3 a1) 41 4 a2)))
set_option maxHeartbeats 4000000 in
set_option maxRecDepth 100000 in
theorem c_X9_costs {cy : ClassId × ClassId} {ad : Nat → Nat} {D : va_G} {l : Launch} (S : PS) (a1 : Int32) (a2 : Int32)  : PMi cy GC ad D l yX9_costs (wA yX9_costs cX9_costs 3 (some .int)) rmX9_costs [vr 9 0, vi a1, vi a2] S (fun x S' => (x, S') = (fX9_costs S a1 a2)) := by
  refine PM.of (lv := [(0, vr 9 0), (1, vi a1), (2, vi a2)]) GC_ok (by decide) (Nat.le_of_ble_eq_true rfl) rfl (by simp) ?_
  intro p e s m args below meth c A hM
  refine w_iln (q := 1) (n := 1) hM (dtab_at okX9_costs 0 rfl) rfl rfl ?_
  refine w_ic (n := 2) hM (0 : Int32) (dtab_at okX9_costs 1 rfl) (by decide) rfl ?_
  refine w_ldc (n := 4) (v := (1000000 : Int32)) hM (dtab_at okX9_costs 2 rfl) lkC_X9_151 rfl ?_
  refine w_callSi (n := 7) (As := [vi a1, vi (0 : Int32), vi (1000000 : Int32)]) (rest := []) hM (c_X9_isWithin S a1 (0 : Int32) (1000000 : Int32)) lkM_X9_121 ms_X9_isWithin (by decide) rfl (Nat.le_of_ble_eq_true rfl) rfl (dtab_at okX9_costs 3 rfl) rfl (fun x0 S0 hp0 => ?_)
  obtain ⟨hx_, hs_⟩ := hp0
  have hs_ := hs_.symm
  subst hs_
  subst hx_
  refine w_if_eq (n := 20) (n2 := 10) hM (dtab_at okX9_costs 4 rfl) (by decide) rfl (fun (h7 : (fX9_isWithin S a1 (0 : Int32) (1000000 : Int32)) = (0 : Int32)) => ?_) (fun (h7 : ¬ (fX9_isWithin S a1 (0 : Int32) (1000000 : Int32)) = (0 : Int32)) => ?_)
  · skip
    refine w_bi (n := 22) hM (-2 : Int32) (dtab_at okX9_costs 10 rfl) (by decide) rfl ?_
    exact r_i hM (dtab_at okX9_costs 11 rfl) (by rw [fX9_costs, if_pos h7])
  · skip
    refine w_iln (q := 2) (n := 11) hM (dtab_at okX9_costs 5 rfl) rfl rfl ?_
    refine w_ic (n := 12) hM (0 : Int32) (dtab_at okX9_costs 6 rfl) (by decide) rfl ?_
    refine w_ldc (n := 14) (v := (1000000 : Int32)) hM (dtab_at okX9_costs 7 rfl) lkC_X9_151 rfl ?_
    refine w_callSi (n := 17) (As := [vi a2, vi (0 : Int32), vi (1000000 : Int32)]) (rest := []) hM (c_X9_isWithin S a2 (0 : Int32) (1000000 : Int32)) lkM_X9_121 ms_X9_isWithin (by decide) rfl (Nat.le_of_ble_eq_true rfl) rfl (dtab_at okX9_costs 8 rfl) rfl (fun x1 S1 hp1 => ?_)
    obtain ⟨hx_, hs_⟩ := hp1
    have hs_ := hs_.symm
    subst hs_
    subst hx_
    refine w_if_ne (n := 23) (n2 := 20) hM (dtab_at okX9_costs 9 rfl) (by decide) rfl (fun (h17 : ¬ (fX9_isWithin S a2 (0 : Int32) (1000000 : Int32)) = (0 : Int32)) => ?_) (fun (h17 : (fX9_isWithin S a2 (0 : Int32) (1000000 : Int32)) = (0 : Int32)) => ?_)
    · skip
      refine w_aln (q := 0) (n := 24) hM (dtab_at okX9_costs 12 rfl) rfl rfl ?_
      refine w_getr (C := RX9) (T := TX9) (i := 2) (k2 := 0) (q := 41) (n := 27) hM rfl (by decide) (fun _ => rfl) ly_X9 lkF_X9_22 (dtab_at okX9_costs 13 rfl) rfl ?_
      refine w_iln (q := 1) (n := 28) hM (dtab_at okX9_costs 14 rfl) rfl rfl ?_
      refine w_put (C := RX0) (T := TX0) (i := 3) (ty := .int) (n := 31) hM rfl (by decide) ly_X0 tyX0_ok nmX0 lkF_X9_152 rfl (by decide +kernel) rfl rfl (dtab_at okX9_costs 15 rfl) rfl ?_
      refine w_aln (q := 0) (n := 32) hM (dtab_at okX9_costs 16 rfl) rfl rfl ?_
      refine w_getr (C := RX9) (T := TX9) (i := 2) (k2 := 0) (q := 41) (n := 35) hM rfl (by decide) (fun _ => rfl) ly_X9 lkF_X9_22 (dtab_at okX9_costs 17 rfl) rfl ?_
      refine w_iln (q := 2) (n := 36) hM (dtab_at okX9_costs 18 rfl) rfl rfl ?_
      refine w_put (C := RX0) (T := TX0) (i := 4) (ty := .int) (n := 39) hM rfl (by decide) ly_X0 tyX0_ok nmX0 lkF_X9_155 rfl (by decide +kernel) rfl rfl (dtab_at okX9_costs 19 rfl) rfl ?_
      refine w_ic (n := 40) hM (1 : Int32) (dtab_at okX9_costs 20 rfl) (by decide) rfl ?_
      exact r_i hM (dtab_at okX9_costs 21 rfl) (by rw [fX9_costs, if_neg h7, if_neg h17])
    · skip
      refine w_bi (n := 22) hM (-2 : Int32) (dtab_at okX9_costs 10 rfl) (by decide) rfl ?_
      exact r_i hM (dtab_at okX9_costs 11 rfl) (by rw [fX9_costs, if_neg h7, if_pos h17])
def fX9_match (nF : Nat) (S : PS) (a1 : Int32) : Option (Int32 × PS) := (match (fX9_runAt S a1) with | none => (some ((-2 : Int32), S)) | some (_, j0) => ((fX6_feel nF S j0).bind fun r1 => ((fX0_leastCost nF r1 j0).bind fun r2 => (some (r2.1, r2.2)))))
set_option maxHeartbeats 4000000 in
set_option maxRecDepth 100000 in
theorem c_X9_match {cy : ClassId × ClassId} {ad : Nat → Nat} {D : va_G} {l : Launch} (nF : Nat) (S : PS) (a1 : Int32) (r : Int32 × PS) (hf : fX9_match nF S a1 = some r) : PMi cy GC ad D l yX9_match (wA yX9_match cX9_match 3 (some .int)) rmX9_match [vr 9 0, vi a1] S (fun x S' => (x, S') = r) := by
  refine PM.of (lv := [(0, vr 9 0), (1, vi a1)]) GC_ok (by decide) (Nat.le_of_ble_eq_true rfl) rfl (by simp) ?_
  intro p e s m args below meth c A hM
  rw [fX9_match] at hf
  refine w_aln (q := 0) (n := 1) hM (dtab_at okX9_match 0 rfl) rfl rfl ?_
  refine w_iln (q := 1) (n := 2) hM (dtab_at okX9_match 1 rfl) rfl rfl ?_
  refine w_callVr (n := 5) (As := [vi a1]) (rest := []) (k := 9) (j := 0) (C := RX9) (T := TX9) (N := 10) hM (c_X9_runAt S a1) lkM_X9_117 mv_X9_runAt (by decide) rfl (by decide) rfl (Nat.le_of_ble_eq_true rfl) rfl (dtab_at okX9_match 2 rfl) rfl (fun x0 S0 hp0 => ?_)
  obtain ⟨hx_, hs_⟩ := hp0
  have hs_ := hs_.symm
  subst hs_
  subst hx_
  rcases hq0 : (fX9_runAt S a1) with _ | ⟨q0, j0⟩
  · skip
    rw [hq0] at hf
    dsimp only at hf
    refine w_asn (n := 6) (lv' := [(2, vn), (0, vr 9 0), (1, vi a1)]) hM (dtab_at okX9_match 3 rfl) (by decide) rfl rfl ?_
    refine w_aln (q := 0) (n := 7) hM (dtab_at okX9_match 4 rfl) rfl rfl ?_
    refine w_ifnonnullN (n := 10) hM (dtab_at okX9_match 5 rfl) rfl ?_
    refine w_bi (n := 12) hM (-2 : Int32) (dtab_at okX9_match 6 rfl) (by decide) rfl ?_
    exact r_i hM (dtab_at okX9_match 7 rfl) (Option.some.inj hf)
  · skip
    obtain rfl := fX9_runAt_kind hq0
    rw [hq0] at hf
    dsimp only at hf
    refine w_asn (n := 6) (lv' := [(2, vr 6 j0), (0, vr 9 0), (1, vi a1)]) hM (dtab_at okX9_match 3 rfl) (by decide) rfl rfl ?_
    refine w_aln (q := 0) (n := 7) hM (dtab_at okX9_match 4 rfl) rfl rfl ?_
    refine w_ifnonnullR (n := 13) hM (dtab_at okX9_match 5 rfl) (by decide) ?_
    refine w_aln (q := 0) (n := 14) hM (dtab_at okX9_match 8 rfl) rfl rfl ?_
    obtain ⟨r1, hr1, hf⟩ := Option.bind_eq_some_iff.mp hf
    refine w_callVv (n := 17) (As := []) (rest := []) (k := 6) (j := j0) (C := RX6) (T := TX6) (N := 12) hM (c_X6_feel nF S j0 r1 hr1) lkM_X9_125 mv_X6_feel (by decide) rfl (by decide) rfl (Nat.le_of_ble_eq_true rfl) rfl (dtab_at okX9_match 9 rfl) rfl (fun S1 hp1 => ?_)
    have hs_ := hp1.symm
    subst hs_
    refine w_aln (q := 1) (n := 18) hM (dtab_at okX9_match 10 rfl) rfl rfl ?_
    refine w_getr (C := RX9) (T := TX9) (i := 2) (k2 := 0) (q := 41) (n := 21) hM rfl (by decide) (fun _ => rfl) ly_X9 lkF_X9_22 (dtab_at okX9_match 11 rfl) rfl ?_
    refine w_aln (q := 0) (n := 22) hM (dtab_at okX9_match 12 rfl) rfl rfl ?_
    obtain ⟨r2, hr2, hf⟩ := Option.bind_eq_some_iff.mp hf
    refine w_callVi (n := 25) (As := [vr 6 j0]) (rest := []) (k := 0) (j := 41) (C := RX0) (T := TX0) (N := 5) hM (c_X0_leastCost nF r1 j0 r2 hr2) lkM_X9_158 mv_X0_leastCost (by decide) rfl (by decide) rfl (Nat.le_of_ble_eq_true rfl) rfl (dtab_at okX9_match 13 rfl) rfl (fun x2 S2 hp2 => ?_)
    have hx_ := congrArg Prod.fst hp2
    have hs_ := congrArg Prod.snd hp2
    dsimp only at hx_ hs_
    subst hx_
    subst hs_
    exact r_i hM (dtab_at okX9_match 14 rfl) (Option.some.inj hf)
