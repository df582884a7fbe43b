def BX10_joinMarks_168 (nF : Nat) (k28 : PS → Int32 → Int32 → Option (PS)) (S : PS) (v1 : Int32) (v2 : Int32) : Option (PS) := (k28 (sti S 0 26 ((S.1 0 26) + (1 : Int32))) v1 (v2 + (1 : Int32)))
set_option maxHeartbeats 4000000 in
set_option maxRecDepth 100000 in
theorem wBX10_joinMarks_168 {cy : ClassId × ClassId} {ad : Nat → Nat} {D : va_G} {p : Program} {l : Launch} {e : Env} {s : State} {m : MethodId} {args : Array Value} {below : List Frame} {meth : Method} {c : Code} {A : Nat → Prop} (hM : MX cy GM ad D p s m args meth c cX10_joinMarks 6 RX10 none A) (nF : Nat) (r : PS) (k28 : PS → Int32 → Int32 → Option (PS)) (hk28 : ∀ (S : PS) (v1 : Int32) (v2 : Int32), k28 S v1 v2 = some r → WW cy GM ad D p l e rmX10_joinMarks s m args below meth c 6 A (pov (fun S' => S' = r)) 28 [(0, vr 10 0), (1, vi v1), (2, vi v2)] [] S) (S : PS) (v1 : Int32) (v2 : Int32) (hf : BX10_joinMarks_168 nF k28 S v1 v2 = some r) : WW cy GM ad D p l e rmX10_joinMarks s m args below meth c 6 A (pov (fun S' => S' = r)) 168 [(0, vr 10 0), (1, vi v1), (2, vi v2)] [] S := by
  rw [BX10_joinMarks_168] at hf
  refine w_aln (q := 0) (n := 169) hM (dtab_at okX10_joinMarks 96 rfl) rfl rfl ?_
  refine w_dup (n := 170) hM (dtab_at okX10_joinMarks 97 rfl) rfl rfl ?_
  refine w_geti (C := RX10) (T := TX10) (i := 26) (n := 173) hM rfl (by decide) ly_X10 lkF_X10_179 (dtab_at okX10_joinMarks 98 rfl) rfl ?_
  refine w_ic (n := 174) hM (1 : Int32) (dtab_at okX10_joinMarks 99 rfl) (by decide) rfl ?_
  refine w_iadd (n := 175) hM (dtab_at okX10_joinMarks 100 rfl) rfl ?_
  refine w_put (C := RX10) (T := TX10) (i := 26) (ty := .int) (n := 178) hM rfl (by decide) ly_X10 tyX10_ok nmX10 lkF_X10_179 rfl (by decide +kernel) rfl rfl (dtab_at okX10_joinMarks 101 rfl) rfl ?_
  refine w_iinc (q := 2) (n := 181) (v := (v2 + (1 : Int32))) (lv' := [(2, vi (v2 + (1 : Int32))), (0, vr 10 0), (1, vi v1)]) hM (dtab_at okX10_joinMarks 102 rfl) rfl rfl (by decide) rfl rfl ?_
  refine w_goto (n := 28) hM (dtab_at okX10_joinMarks 103 rfl) (by decide) ?_
  refine WW.lvs [1, 2, 0] (lv2 := [(0, vr 10 0), (1, vi v1), (2, vi (v2 + (1 : Int32)))]) rfl ?_
  exact hk28 (sti S 0 26 ((S.1 0 26) + (1 : Int32))) v1 (v2 + (1 : Int32)) hf
def BX10_joinMarks_165 (nF : Nat) (k28 : PS → Int32 → Int32 → Option (PS)) (k60 : PS → Int32 → Int32 → Int32 → Option (PS)) (S : PS) (v1 : Int32) (v2 : Int32) (v3 : Int32) : Option (PS) := (k60 S v1 v2 v3)
set_option maxHeartbeats 4000000 in
set_option maxRecDepth 100000 in
theorem wBX10_joinMarks_165 {cy : ClassId × ClassId} {ad : Nat → Nat} {D : va_G} {p : Program} {l : Launch} {e : Env} {s : State} {m : MethodId} {args : Array Value} {below : List Frame} {meth : Method} {c : Code} {A : Nat → Prop} (hM : MX cy GM ad D p s m args meth c cX10_joinMarks 6 RX10 none A) (nF : Nat) (r : PS) (k28 : PS → Int32 → Int32 → Option (PS)) (k60 : PS → Int32 → Int32 → Int32 → Option (PS)) (hk28 : ∀ (S : PS) (v1 : Int32) (v2 : Int32), k28 S v1 v2 = some r → WW cy GM ad D p l e rmX10_joinMarks s m args below meth c 6 A (pov (fun S' => S' = r)) 28 [(0, vr 10 0), (1, vi v1), (2, vi v2)] [] S) (hk60 : ∀ (S : PS) (v1 : Int32) (v2 : Int32) (v3 : Int32), k60 S v1 v2 v3 = some r → WW cy GM ad D p l e rmX10_joinMarks s m args below meth c 6 A (pov (fun S' => S' = r)) 60 [(0, vr 10 0), (1, vi v1), (2, vi v2), (3, vi v3)] [] S) (S : PS) (v1 : Int32) (v2 : Int32) (v3 : Int32) (hf : BX10_joinMarks_165 nF k28 k60 S v1 v2 v3 = some r) : WW cy GM ad D p l e rmX10_joinMarks s m args below meth c 6 A (pov (fun S' => S' = r)) 165 [(0, vr 10 0), (1, vi v1), (2, vi v2), (3, vi v3)] [] S := by
  rw [BX10_joinMarks_165] at hf
  refine w_goto (n := 60) hM (dtab_at okX10_joinMarks 95 rfl) (by decide) ?_
  exact hk60 S v1 v2 v3 hf
def BX10_joinMarks_159 (nF : Nat) (k28 : PS → Int32 → Int32 → Option (PS)) (k60 : PS → Int32 → Int32 → Int32 → Option (PS)) (k69 : PS → Int32 → Int32 → Int32 → Int32 → Option (PS)) (S : PS) (v1 : Int32) (v2 : Int32) (v3 : Int32) (v4 : Int32) : Option (PS) := (k69 S v1 v2 v3 (v4 + (1 : Int32)))
set_option maxHeartbeats 4000000 in
set_option maxRecDepth 100000 in
theorem wBX10_joinMarks_159 {cy : ClassId × ClassId} {ad : Nat → Nat} {D : va_G} {p : Program} {l : Launch} {e : Env} {s : State} {m : MethodId} {args : Array Value} {below : List Frame} {meth : Method} {c : Code} {A : Nat → Prop} (hM : MX cy GM ad D p s m args meth c cX10_joinMarks 6 RX10 none A) (nF : Nat) (r : PS) (k28 : PS → Int32 → Int32 → Option (PS)) (k60 : PS → Int32 → Int32 → Int32 → Option (PS)) (k69 : PS → Int32 → Int32 → Int32 → Int32 → Option (PS)) (hk28 : ∀ (S : PS) (v1 : Int32) (v2 : Int32), k28 S v1 v2 = some r → WW cy GM ad D p l e rmX10_joinMarks s m args below meth c 6 A (pov (fun S' => S' = r)) 28 [(0, vr 10 0), (1, vi v1), (2, vi v2)] [] S) (hk60 : ∀ (S : PS) (v1 : Int32) (v2 : Int32) (v3 : Int32), k60 S v1 v2 v3 = some r → WW cy GM ad D p l e rmX10_joinMarks s m args below meth c 6 A (pov (fun S' => S' = r)) 60 [(0, vr 10 0), (1, vi v1), (2, vi v2), (3, vi v3)] [] S) (hk69 : ∀ (S : PS) (v1 : Int32) (v2 : Int32) (v3 : Int32) (v4 : Int32), k69 S v1 v2 v3 v4 = some r → WW cy GM ad D p l e rmX10_joinMarks s m args below meth c 6 A (pov (fun S' => S' = r)) 69 [(0, vr 10 0), (1, vi v1), (2, vi v2), (3, vi v3), (4, vi v4)] [] S) (S : PS) (v1 : Int32) (v2 : Int32) (v3 : Int32) (v4 : Int32) (hf : BX10_joinMarks_159 nF k28 k60 k69 S v1 v2 v3 v4 = some r) : WW cy GM ad D p l e rmX10_joinMarks s m args below meth c 6 A (pov (fun S' => S' = r)) 159 [(0, vr 10 0), (1, vi v1), (2, vi v2), (3, vi v3), (4, vi v4)] [] S := by
  rw [BX10_joinMarks_159] at hf
  refine w_iinc (q := 4) (n := 162) (v := (v4 + (1 : Int32))) (lv' := [(4, vi (v4 + (1 : Int32))), (0, vr 10 0), (1, vi v1), (2, vi v2), (3, vi v3)]) hM (dtab_at okX10_joinMarks 93 rfl) rfl rfl (by decide) rfl rfl ?_
  refine w_goto (n := 69) hM (dtab_at okX10_joinMarks 94 rfl) (by decide) ?_
  refine WW.lvs [1, 2, 3, 4, 0] (lv2 := [(0, vr 10 0), (1, vi v1), (2, vi v2), (3, vi v3), (4, vi (v4 + (1 : Int32)))]) rfl ?_
  exact hk69 S v1 v2 v3 (v4 + (1 : Int32)) hf
def LX10_joinMarks_83 (nF : Nat) (k28 : PS → Int32 → Int32 → Option (PS)) (k60 : PS → Int32 → Int32 → Int32 → Option (PS)) (k69 : PS → Int32 → Int32 → Int32 → Int32 → Option (PS)) : Nat → PS → Int32 → Int32 → Int32 → Int32 → Int32 → Option (PS)
  | 0, _, _, _, _, _, _ => none
  | n + 1, S, v1, v2, v3, v4, v5 => (if v1 < 0 ∨ 2 ≤ v1.toNatClampNeg then none else (if (S.2 12 v1.toNatClampNeg) ≤ v5 then (BX10_joinMarks_159 nF k28 k60 k69 S v1 v2 v3 v4) else (if v4 < 0 ∨ 40 ≤ v4.toNatClampNeg then none else (if (S.2 17 v4.toNatClampNeg) = (S.1 0 26) then (if v5 < 0 ∨ 40 ≤ v5.toNatClampNeg then none else (if (S.2 17 v5.toNatClampNeg) = (-1 : Int32) then ((fX10_areNear nF S (((40 : Int32) * v1) + v4) (((40 : Int32) * v1) + v5)).bind fun r0 => (if r0 = (0 : Int32) then (LX10_joinMarks_83 nF k28 k60 k69 n S v1 v2 v3 v4 (v5 + (1 : Int32))) else (LX10_joinMarks_83 nF k28 k60 k69 n (sta S 17 v5.toNatClampNeg (S.1 0 26)) v1 v2 (1 : Int32) v4 (v5 + (1 : Int32))))) else (LX10_joinMarks_83 nF k28 k60 k69 n S v1 v2 v3 v4 (v5 + (1 : Int32))))) else (BX10_joinMarks_159 nF k28 k60 k69 S v1 v2 v3 v4)))))
set_option maxHeartbeats 4000000 in
set_option maxRecDepth 100000 in
theorem wLX10_joinMarks_83 {cy : ClassId × ClassId} {ad : Nat → Nat} {D : va_G} {p : Program} {l : Launch} {e : Env} {s : State} {m : MethodId} {args : Array Value} {below : List Frame} {meth : Method} {c : Code} {A : Nat → Prop} (hM : MX cy GM ad D p s m args meth c cX10_joinMarks 6 RX10 none A) (nF : Nat) (r : PS) (k28 : PS → Int32 → Int32 → Option (PS)) (k60 : PS → Int32 → Int32 → Int32 → Option (PS)) (k69 : PS → Int32 → Int32 → Int32 → Int32 → Option (PS)) (hk28 : ∀ (S : PS) (v1 : Int32) (v2 : Int32), k28 S v1 v2 = some r → WW cy GM ad D p l e rmX10_joinMarks s m args below meth c 6 A (pov (fun S' => S' = r)) 28 [(0, vr 10 0), (1, vi v1), (2, vi v2)] [] S) (hk60 : ∀ (S : PS) (v1 : Int32) (v2 : Int32) (v3 : Int32), k60 S v1 v2 v3 = some r → WW cy GM ad D p l e rmX10_joinMarks s m args below meth c 6 A (pov (fun S' => S' = r)) 60 [(0, vr 10 0), (1, vi v1), (2, vi v2), (3, vi v3)] [] S) (hk69 : ∀ (S : PS) (v1 : Int32) (v2 : Int32) (v3 : Int32) (v4 : Int32), k69 S v1 v2 v3 v4 = some r → WW cy GM ad D p l e rmX10_joinMarks s m args below meth c 6 A (pov (fun S' => S' = r)) 69 [(0, vr 10 0), (1, vi v1), (2, vi v2), (3, vi v3), (4, vi v4)] [] S) : ∀ (n : Nat) (S : PS) (v1 : Int32) (v2 : Int32) (v3 : Int32) (v4 : Int32) (v5 : Int32), LX10_joinMarks_83 nF k28 k60 k69 n S v1 v2 v3 v4 v5 = some r → WW cy GM ad D p l e rmX10_joinMarks s m args below meth c 6 A (pov (fun S' => S' = r)) 83 [(0, vr 10 0), (1, vi v1), (2, vi v2), (3, vi v3), (4, vi v4), (5, vi v5)] [] S := by
  intro n
  induction n with
  | zero => intro S v1 v2 v3 v4 v5 hf; rw [LX10_joinMarks_83] at hf; cases hf
  | succ n ih =>
    intro S v1 v2 v3 v4 v5 hf
    rw [LX10_joinMarks_83] at hf
    refine w_il (q := 5) (n := 85) hM (dtab_at okX10_joinMarks 51 rfl) rfl rfl ?_
    refine w_aln (q := 0) (n := 86) hM (dtab_at okX10_joinMarks 52 rfl) rfl rfl ?_
    refine w_getr (C := RX10) (T := TX10) (i := 18) (k2 := 102) (q := 12) (n := 89) hM rfl (by decide) (fun _ => rfl) ly_X10 lkF_X10_51 (dtab_at okX10_joinMarks 53 rfl) rfl ?_
    refine w_iln (q := 1) (n := 90) hM (dtab_at okX10_joinMarks 54 rfl) rfl rfl ?_
    by_cases hg90 : v1 < 0 ∨ 2 ≤ v1.toNatClampNeg
    · rw [if_pos hg90] at hf; cases hf
    rw [if_neg hg90] at hf
    refine w_ald (nn := 2) (n := 91) hM rfl hg90 (dtab_at okX10_joinMarks 55 rfl) rfl ?_
    refine w_ic_ge (n := 159) (n2 := 94) hM (dtab_at okX10_joinMarks 56 rfl) (by decide) rfl (fun (h91 : (S.2 12 v1.toNatClampNeg) ≤ v5) => ?_) (fun (h91 : ¬ (S.2 12 v1.toNatClampNeg) ≤ v5) => ?_)
    · skip
      rw [if_pos h91] at hf
      refine WW.lvs [0, 1, 2, 3, 4] (lv2 := [(0, vr 10 0), (1, vi v1), (2, vi v2), (3, vi v3), (4, vi v4)]) rfl ?_
      exact wBX10_joinMarks_159 hM nF r k28 k60 k69 hk28 hk60 hk69 S v1 v2 v3 v4 hf
    · skip
      rw [if_neg h91] at hf
      refine w_aln (q := 0) (n := 95) hM (dtab_at okX10_joinMarks 57 rfl) rfl rfl ?_
      refine w_getr (C := RX10) (T := TX10) (i := 25) (k2 := 140) (q := 17) (n := 98) hM rfl (by decide) (fun _ => rfl) ly_X10 lkF_X10_72 (dtab_at okX10_joinMarks 58 rfl) rfl ?_
      refine w_il (q := 4) (n := 100) hM (dtab_at okX10_joinMarks 59 rfl) rfl rfl ?_
      by_cases hg100 : v4 < 0 ∨ 40 ≤ v4.toNatClampNeg
      · rw [if_pos hg100] at hf; cases hf
      rw [if_neg hg100] at hf
      refine w_ald (nn := 40) (n := 101) hM rfl hg100 (dtab_at okX10_joinMarks 60 rfl) rfl ?_
      refine w_aln (q := 0) (n := 102) hM (dtab_at okX10_joinMarks 61 rfl) rfl rfl ?_
      refine w_geti (C := RX10) (T := TX10) (i := 26) (n := 105) hM rfl (by decide) ly_X10 lkF_X10_179 (dtab_at okX10_joinMarks 62 rfl) rfl ?_
      refine w_ic_ne (n := 159) (n2 := 108) hM (dtab_at okX10_joinMarks 63 rfl) (by decide) rfl (fun (h105 : ¬ (S.2 17 v4.toNatClampNeg) = (S.1 0 26)) => ?_) (fun (h105 : (S.2 17 v4.toNatClampNeg) = (S.1 0 26)) => ?_)
      · skip
        rw [if_neg h105] at hf
        refine WW.lvs [0, 1, 2, 3, 4] (lv2 := [(0, vr 10 0), (1, vi v1), (2, vi v2), (3, vi v3), (4, vi v4)]) rfl ?_
        exact wBX10_joinMarks_159 hM nF r k28 k60 k69 hk28 hk60 hk69 S v1 v2 v3 v4 hf
      · skip
        rw [if_pos h105] at hf
        refine w_aln (q := 0) (n := 109) hM (dtab_at okX10_joinMarks 64 rfl) rfl rfl ?_
        refine w_getr (C := RX10) (T := TX10) (i := 25) (k2 := 140) (q := 17) (n := 112) hM rfl (by decide) (fun _ => rfl) ly_X10 lkF_X10_72 (dtab_at okX10_joinMarks 65 rfl) rfl ?_
        refine w_il (q := 5) (n := 114) hM (dtab_at okX10_joinMarks 66 rfl) rfl rfl ?_
        by_cases hg114 : v5 < 0 ∨ 40 ≤ v5.toNatClampNeg
        · rw [if_pos hg114] at hf; cases hf
        rw [if_neg hg114] at hf
        refine w_ald (nn := 40) (n := 115) hM rfl hg114 (dtab_at okX10_joinMarks 67 rfl) rfl ?_
        refine w_ic (n := 116) hM (-1 : Int32) (dtab_at okX10_joinMarks 68 rfl) (by decide) rfl ?_
        refine w_ic_ne (n := 153) (n2 := 119) hM (dtab_at okX10_joinMarks 69 rfl) (by decide) rfl (fun (h116 : ¬ (S.2 17 v5.toNatClampNeg) = (-1 : Int32)) => ?_) (fun (h116 : (S.2 17 v5.toNatClampNeg) = (-1 : Int32)) => ?_)
        · skip
          rw [if_neg h116] at hf
          refine w_iinc (q := 5) (n := 156) (v := (v5 + (1 : Int32))) (lv' := [(5, vi (v5 + (1 : Int32))), (0, vr 10 0), (1, vi v1), (2, vi v2), (3, vi v3), (4, vi v4)]) hM (dtab_at okX10_joinMarks 91 rfl) rfl rfl (by decide) rfl rfl ?_
          refine w_goto (n := 83) hM (dtab_at okX10_joinMarks 92 rfl) (by decide) ?_
          refine WW.lvs [1, 2, 3, 4, 5, 0] (lv2 := [(0, vr 10 0), (1, vi v1), (2, vi v2), (3, vi v3), (4, vi v4), (5, vi (v5 + (1 : Int32)))]) rfl ?_
          exact ih S v1 v2 v3 v4 (v5 + (1 : Int32)) hf
        · skip
          rw [if_pos h116] at hf
          refine w_aln (q := 0) (n := 120) hM (dtab_at okX10_joinMarks 70 rfl) rfl rfl ?_
          refine w_bi (n := 122) hM (40 : Int32) (dtab_at okX10_joinMarks 71 rfl) (by decide) rfl ?_
          refine w_iln (q := 1) (n := 123) hM (dtab_at okX10_joinMarks 72 rfl) rfl rfl ?_
          refine w_imul (n := 124) hM (dtab_at okX10_joinMarks 73 rfl) rfl ?_
          refine w_il (q := 4) (n := 126) hM (dtab_at okX10_joinMarks 74 rfl) rfl rfl ?_
          refine w_iadd (n := 127) hM (dtab_at okX10_joinMarks 75 rfl) rfl ?_
          refine w_bi (n := 129) hM (40 : Int32) (dtab_at okX10_joinMarks 76 rfl) (by decide) rfl ?_
          refine w_iln (q := 1) (n := 130) hM (dtab_at okX10_joinMarks 77 rfl) rfl rfl ?_
          refine w_imul (n := 131) hM (dtab_at okX10_joinMarks 78 rfl) rfl ?_
          refine w_il (q := 5) (n := 133) hM (dtab_at okX10_joinMarks 79 rfl) rfl rfl ?_
          refine w_iadd (n := 134) hM (dtab_at okX10_joinMarks 80 rfl) rfl ?_
          obtain ⟨r0, hr0, hf⟩ := Option.bind_eq_some_iff.mp hf
          refine w_callVi (n := 137) (As := [vi (((40 : Int32) * v1) + v4), vi (((40 : Int32) * v1) + v5)]) (rest := []) (k := 10) (j := 0) (C := RX10) (T := TX10) (N := 43) hM (c_X10_areNear nF S (((40 : Int32) * v1) + v4) (((40 : Int32) * v1) + v5) r0 hr0) lkM_X10_182 mv_X10_areNear (by decide) rfl (by decide) rfl (Nat.le_of_ble_eq_true rfl) rfl (dtab_at okX10_joinMarks 81 rfl) rfl (fun x0 S0 hp0 => ?_)
          obtain ⟨hx_, hs_⟩ := hp0
          have hs_ := hs_.symm
          have hx_ := hx_.symm
          subst hs_
          subst hx_
          refine w_if_eq (n := 153) (n2 := 140) hM (dtab_at okX10_joinMarks 82 rfl) (by decide) rfl (fun (h137 : r0 = (0 : Int32)) => ?_) (fun (h137 : ¬ r0 = (0 : Int32)) => ?_)
          · skip
            rw [if_pos h137] at hf
            refine w_iinc (q := 5) (n := 156) (v := (v5 + (1 : Int32))) (lv' := [(5, vi (v5 + (1 : Int32))), (0, vr 10 0), (1, vi v1), (2, vi v2), (3, vi v3), (4, vi v4)]) hM (dtab_at okX10_joinMarks 91 rfl) rfl rfl (by decide) rfl rfl ?_
            refine w_goto (n := 83) hM (dtab_at okX10_joinMarks 92 rfl) (by decide) ?_
            refine WW.lvs [1, 2, 3, 4, 5, 0] (lv2 := [(0, vr 10 0), (1, vi v1), (2, vi v2), (3, vi v3), (4, vi v4), (5, vi (v5 + (1 : Int32)))]) rfl ?_
            exact ih S v1 v2 v3 v4 (v5 + (1 : Int32)) hf
          · skip
            rw [if_neg h137] at hf
            refine w_aln (q := 0) (n := 141) hM (dtab_at okX10_joinMarks 83 rfl) rfl rfl ?_
            refine w_getr (C := RX10) (T := TX10) (i := 25) (k2 := 140) (q := 17) (n := 144) hM rfl (by decide) (fun _ => rfl) ly_X10 lkF_X10_72 (dtab_at okX10_joinMarks 84 rfl) rfl ?_
            refine w_il (q := 5) (n := 146) hM (dtab_at okX10_joinMarks 85 rfl) rfl rfl ?_
            refine w_aln (q := 0) (n := 147) hM (dtab_at okX10_joinMarks 86 rfl) rfl rfl ?_
            refine w_geti (C := RX10) (T := TX10) (i := 26) (n := 150) hM rfl (by decide) ly_X10 lkF_X10_179 (dtab_at okX10_joinMarks 87 rfl) rfl ?_
            refine w_ast (nn := 40) (n := 151) hM rfl hg114 (dtab_at okX10_joinMarks 88 rfl) rfl ?_
            refine w_ic (n := 152) hM (1 : Int32) (dtab_at okX10_joinMarks 89 rfl) (by decide) rfl ?_
            refine w_isn (n := 153) (lv' := [(3, vi (1 : Int32)), (0, vr 10 0), (1, vi v1), (2, vi v2), (4, vi v4), (5, vi v5)]) hM (dtab_at okX10_joinMarks 90 rfl) (by decide) rfl rfl ?_
            refine w_iinc (q := 5) (n := 156) (v := (v5 + (1 : Int32))) (lv' := [(5, vi (v5 + (1 : Int32))), (3, vi (1 : Int32)), (0, vr 10 0), (1, vi v1), (2, vi v2), (4, vi v4)]) hM (dtab_at okX10_joinMarks 91 rfl) rfl rfl (by decide) rfl rfl ?_
            refine w_goto (n := 83) hM (dtab_at okX10_joinMarks 92 rfl) (by decide) ?_
            refine WW.lvs [2, 3, 4, 1, 5, 0] (lv2 := [(0, vr 10 0), (1, vi v1), (2, vi v2), (3, vi (1 : Int32)), (4, vi v4), (5, vi (v5 + (1 : Int32)))]) rfl ?_
            exact ih (sta S 17 v5.toNatClampNeg (S.1 0 26)) v1 v2 (1 : Int32) v4 (v5 + (1 : Int32)) hf
def LX10_joinMarks_69 (nF : Nat) (k28 : PS → Int32 → Int32 → Option (PS)) (k60 : PS → Int32 → Int32 → Int32 → Option (PS)) : Nat → PS → Int32 → Int32 → Int32 → Int32 → Option (PS)
  | 0, _, _, _, _, _ => none
  | n + 1, S, v1, v2, v3, v4 => (if v1 < 0 ∨ 2 ≤ v1.toNatClampNeg then none else (if (S.2 12 v1.toNatClampNeg) ≤ v4 then (BX10_joinMarks_165 nF k28 k60 S v1 v2 v3) else (LX10_joinMarks_83 nF k28 k60 (LX10_joinMarks_69 nF k28 k60 n) nF S v1 v2 v3 v4 (0 : Int32))))
set_option maxHeartbeats 4000000 in
set_option maxRecDepth 100000 in
theorem wLX10_joinMarks_69 {cy : ClassId × ClassId} {ad : Nat → Nat} {D : va_G} {p : Program} {l : Launch} {e : Env} {s : State} {m : MethodId} {args : Array Value} {below : List Frame} {meth : Method} {c : Code} {A : Nat → Prop} (hM : MX cy GM ad D p s m args meth c cX10_joinMarks 6 RX10 none A) (nF : Nat) (r : PS) (k28 : PS → Int32 → Int32 → Option (PS)) (k60 : PS → Int32 → Int32 → Int32 → Option (PS)) (hk28 : ∀ (S : PS) (v1 : Int32) (v2 : Int32), k28 S v1 v2 = some r → WW cy GM ad D p l e rmX10_joinMarks s m args below meth c 6 A (pov (fun S' => S' = r)) 28 [(0, vr 10 0), (1, vi v1), (2, vi v2)] [] S) (hk60 : ∀ (S : PS) (v1 : Int32) (v2 : Int32) (v3 : Int32), k60 S v1 v2 v3 = some r → WW cy GM ad D p l e rmX10_joinMarks s m args below meth c 6 A (pov (fun S' => S' = r)) 60 [(0, vr 10 0), (1, vi v1), (2, vi v2), (3, vi v3)] [] S) : ∀ (n : Nat) (S : PS) (v1 : Int32) (v2 : Int32) (v3 : Int32) (v4 : Int32), LX10_joinMarks_69 nF k28 k60 n S v1 v2 v3 v4 = some r → WW cy GM ad D p l e rmX10_joinMarks s m args below meth c 6 A (pov (fun S' => S' = r)) 69 [(0, vr 10 0), (1, vi v1), (2, vi v2), (3, vi v3), (4, vi v4)] [] S := by
  intro n
  induction n with
  | zero => intro S v1 v2 v3 v4 hf; rw [LX10_joinMarks_69] at hf; cases hf
  | succ n ih =>
    intro S v1 v2 v3 v4 hf
    rw [LX10_joinMarks_69] at hf
    refine w_il (q := 4) (n := 71) hM (dtab_at okX10_joinMarks 43 rfl) rfl rfl ?_
    refine w_aln (q := 0) (n := 72) hM (dtab_at okX10_joinMarks 44 rfl) rfl rfl ?_
    refine w_getr (C := RX10) (T := TX10) (i := 18) (k2 := 102) (q := 12) (n := 75) hM rfl (by decide) (fun _ => rfl) ly_X10 lkF_X10_51 (dtab_at okX10_joinMarks 45 rfl) rfl ?_
    refine w_iln (q := 1) (n := 76) hM (dtab_at okX10_joinMarks 46 rfl) rfl rfl ?_
    by_cases hg76 : v1 < 0 ∨ 2 ≤ v1.toNatClampNeg
    · rw [if_pos hg76] at hf; cases hf
    rw [if_neg hg76] at hf
    refine w_ald (nn := 2) (n := 77) hM rfl hg76 (dtab_at okX10_joinMarks 47 rfl) rfl ?_
    refine w_ic_ge (n := 165) (n2 := 80) hM (dtab_at okX10_joinMarks 48 rfl) (by decide) rfl (fun (h77 : (S.2 12 v1.toNatClampNeg) ≤ v4) => ?_) (fun (h77 : ¬ (S.2 12 v1.toNatClampNeg) ≤ v4) => ?_)
    · skip
      rw [if_pos h77] at hf
      refine WW.lvs [0, 1, 2, 3] (lv2 := [(0, vr 10 0), (1, vi v1), (2, vi v2), (3, vi v3)]) rfl ?_
      exact wBX10_joinMarks_165 hM nF r k28 k60 hk28 hk60 S v1 v2 v3 hf
    · skip
      rw [if_neg h77] at hf
      refine w_ic (n := 81) hM (0 : Int32) (dtab_at okX10_joinMarks 49 rfl) (by decide) rfl ?_
      refine w_is (n := 83) (lv' := [(5, vi (0 : Int32)), (0, vr 10 0), (1, vi v1), (2, vi v2), (3, vi v3), (4, vi v4)]) hM (dtab_at okX10_joinMarks 50 rfl) (by decide) rfl rfl ?_
      refine WW.lvs [1, 2, 3, 4, 5, 0] (lv2 := [(0, vr 10 0), (1, vi v1), (2, vi v2), (3, vi v3), (4, vi v4), (5, vi (0 : Int32))]) rfl ?_
      exact wLX10_joinMarks_83 hM nF r k28 k60 (LX10_joinMarks_69 nF k28 k60 n) hk28 hk60 ih nF S v1 v2 v3 v4 (0 : Int32) hf
def LX10_joinMarks_60 (nF : Nat) (k28 : PS → Int32 → Int32 → Option (PS)) : Nat → PS → Int32 → Int32 → Int32 → Option (PS)
  | 0, _, _, _, _ => none
  | n + 1, S, v1, v2, v3 => (if v3 = (0 : Int32) then (BX10_joinMarks_168 nF k28 S v1 v2) else (LX10_joinMarks_69 nF k28 (LX10_joinMarks_60 nF k28 n) nF S v1 v2 (0 : Int32) (0 : Int32)))
set_option maxHeartbeats 4000000 in
set_option maxRecDepth 100000 in
theorem wLX10_joinMarks_60 {cy : ClassId × ClassId} {ad : Nat → Nat} {D : va_G} {p : Program} {l : Launch} {e : Env} {s : State} {m : MethodId} {args : Array Value} {below : List Frame} {meth : Method} {c : Code} {A : Nat → Prop} (hM : MX cy GM ad D p s m args meth c cX10_joinMarks 6 RX10 none A) (nF : Nat) (r : PS) (k28 : PS → Int32 → Int32 → Option (PS)) (hk28 : ∀ (S : PS) (v1 : Int32) (v2 : Int32), k28 S v1 v2 = some r → WW cy GM ad D p l e rmX10_joinMarks s m args below meth c 6 A (pov (fun S' => S' = r)) 28 [(0, vr 10 0), (1, vi v1), (2, vi v2)] [] S) : ∀ (n : Nat) (S : PS) (v1 : Int32) (v2 : Int32) (v3 : Int32), LX10_joinMarks_60 nF k28 n S v1 v2 v3 = some r → WW cy GM ad D p l e rmX10_joinMarks s m args below meth c 6 A (pov (fun S' => S' = r)) 60 [(0, vr 10 0), (1, vi v1), (2, vi v2), (3, vi v3)] [] S := by
  intro n
  induction n with
  | zero => intro S v1 v2 v3 hf; rw [LX10_joinMarks_60] at hf; cases hf
  | succ n ih =>
    intro S v1 v2 v3 hf
    rw [LX10_joinMarks_60] at hf
    refine w_iln (q := 3) (n := 61) hM (dtab_at okX10_joinMarks 37 rfl) rfl rfl ?_
    refine w_if_eq (n := 168) (n2 := 64) hM (dtab_at okX10_joinMarks 38 rfl) (by decide) rfl (fun (h61 : v3 = (0 : Int32)) => ?_) (fun (h61 : ¬ v3 = (0 : Int32)) => ?_)
    · skip
      rw [if_pos h61] at hf
      refine WW.lvs [0, 1, 2] (lv2 := [(0, vr 10 0), (1, vi v1), (2, vi v2)]) rfl ?_
      exact wBX10_joinMarks_168 hM nF r k28 hk28 S v1 v2 hf
    · skip
      rw [if_neg h61] at hf
      refine w_ic (n := 65) hM (0 : Int32) (dtab_at okX10_joinMarks 39 rfl) (by decide) rfl ?_
      refine w_isn (n := 66) (lv' := [(3, vi (0 : Int32)), (0, vr 10 0), (1, vi v1), (2, vi v2)]) hM (dtab_at okX10_joinMarks 40 rfl) (by decide) rfl rfl ?_
      refine w_ic (n := 67) hM (0 : Int32) (dtab_at okX10_joinMarks 41 rfl) (by decide) rfl ?_
      refine w_is (n := 69) (lv' := [(4, vi (0 : Int32)), (3, vi (0 : Int32)), (0, vr 10 0), (1, vi v1), (2, vi v2)]) hM (dtab_at okX10_joinMarks 42 rfl) (by decide) rfl rfl ?_
      refine WW.lvs [2, 3, 4, 1, 0] (lv2 := [(0, vr 10 0), (1, vi v1), (2, vi v2), (3, vi (0 : Int32)), (4, vi (0 : Int32))]) rfl ?_
      exact wLX10_joinMarks_69 hM nF r k28 (LX10_joinMarks_60 nF k28 n) hk28 ih nF S v1 v2 (0 : Int32) (0 : Int32) hf
def LX10_joinMarks_28 (nF : Nat) : Nat → PS → Int32 → Int32 → Option (PS)
  | 0, _, _, _ => none
  | n + 1, S, v1, v2 => (if v1 < 0 ∨ 2 ≤ v1.toNatClampNeg then none else (if (S.2 12 v1.toNatClampNeg) ≤ v2 then (some S) else (if v2 < 0 ∨ 40 ≤ v2.toNatClampNeg then none else (if (S.2 17 v2.toNatClampNeg) = (-1 : Int32) then (LX10_joinMarks_60 nF (LX10_joinMarks_28 nF n) nF (sta S 17 v2.toNatClampNeg (S.1 0 26)) v1 v2 (1 : Int32)) else (LX10_joinMarks_28 nF n S v1 (v2 + (1 : Int32)))))))
set_option maxHeartbeats 4000000 in
set_option maxRecDepth 100000 in
theorem wLX10_joinMarks_28 {cy : ClassId × ClassId} {ad : Nat → Nat} {D : va_G} {p : Program} {l : Launch} {e : Env} {s : State} {m : MethodId} {args : Array Value} {below : List Frame} {meth : Method} {c : Code} {A : Nat → Prop} (hM : MX cy GM ad D p s m args meth c cX10_joinMarks 6 RX10 none A) (nF : Nat) (r : PS) : ∀ (n : Nat) (S : PS) (v1 : Int32) (v2 : Int32), LX10_joinMarks_28 nF n S v1 v2 = some r → WW cy GM ad D p l e rmX10_joinMarks s m args below meth c 6 A (pov (fun S' => S' = r)) 28 [(0, vr 10 0), (1, vi v1), (2, vi v2)] [] S := by
  intro n
  induction n with
  | zero => intro S v1 v2 hf; rw [LX10_joinMarks_28] at hf; cases hf
  | succ n ih =>
    intro S v1 v2 hf
    rw [LX10_joinMarks_28] at hf
    refine w_iln (q := 2) (n := 29) hM (dtab_at okX10_joinMarks 17 rfl) rfl rfl ?_
    refine w_aln (q := 0) (n := 30) hM (dtab_at okX10_joinMarks 18 rfl) rfl rfl ?_
    refine w_getr (C := RX10) (T := TX10) (i := 18) (k2 := 102) (q := 12) (n := 33) hM rfl (by decide) (fun _ => rfl) ly_X10 lkF_X10_51 (dtab_at okX10_joinMarks 19 rfl) rfl ?_
    refine w_iln (q := 1) (n := 34) hM (dtab_at okX10_joinMarks 20 rfl) rfl rfl ?_
    by_cases hg34 : v1 < 0 ∨ 2 ≤ v1.toNatClampNeg
    · rw [if_pos hg34] at hf; cases hf
    rw [if_neg hg34] at hf
    refine w_ald (nn := 2) (n := 35) hM rfl hg34 (dtab_at okX10_joinMarks 21 rfl) rfl ?_
    refine w_ic_ge (n := 184) (n2 := 38) hM (dtab_at okX10_joinMarks 22 rfl) (by decide) rfl (fun (h35 : (S.2 12 v1.toNatClampNeg) ≤ v2) => ?_) (fun (h35 : ¬ (S.2 12 v1.toNatClampNeg) ≤ v2) => ?_)
    · skip
      rw [if_pos h35] at hf
      exact r_v hM (dtab_at okX10_joinMarks 104 rfl) (Option.some.inj hf)
    · skip
      rw [if_neg h35] at hf
      refine w_aln (q := 0) (n := 39) hM (dtab_at okX10_joinMarks 23 rfl) rfl rfl ?_
      refine w_getr (C := RX10) (T := TX10) (i := 25) (k2 := 140) (q := 17) (n := 42) hM rfl (by decide) (fun _ => rfl) ly_X10 lkF_X10_72 (dtab_at okX10_joinMarks 24 rfl) rfl ?_
      refine w_iln (q := 2) (n := 43) hM (dtab_at okX10_joinMarks 25 rfl) rfl rfl ?_
      by_cases hg43 : v2 < 0 ∨ 40 ≤ v2.toNatClampNeg
      · rw [if_pos hg43] at hf; cases hf
      rw [if_neg hg43] at hf
      refine w_ald (nn := 40) (n := 44) hM rfl hg43 (dtab_at okX10_joinMarks 26 rfl) rfl ?_
      refine w_ic (n := 45) hM (-1 : Int32) (dtab_at okX10_joinMarks 27 rfl) (by decide) rfl ?_
      refine w_ic_ne (n := 178) (n2 := 48) hM (dtab_at okX10_joinMarks 28 rfl) (by decide) rfl (fun (h45 : ¬ (S.2 17 v2.toNatClampNeg) = (-1 : Int32)) => ?_) (fun (h45 : (S.2 17 v2.toNatClampNeg) = (-1 : Int32)) => ?_)
      · skip
        rw [if_neg h45] at hf
        refine w_iinc (q := 2) (n := 181) (v := (v2 + (1 : Int32))) (lv' := [(2, vi (v2 + (1 : Int32))), (0, vr 10 0), (1, vi v1)]) hM (dtab_at okX10_joinMarks 102 rfl) rfl rfl (by decide) rfl rfl ?_
        refine w_goto (n := 28) hM (dtab_at okX10_joinMarks 103 rfl) (by decide) ?_
        refine WW.lvs [1, 2, 0] (lv2 := [(0, vr 10 0), (1, vi v1), (2, vi (v2 + (1 : Int32)))]) rfl ?_
        exact ih S v1 (v2 + (1 : Int32)) hf
      · skip
        rw [if_pos h45] at hf
        refine w_aln (q := 0) (n := 49) hM (dtab_at okX10_joinMarks 29 rfl) rfl rfl ?_
        refine w_getr (C := RX10) (T := TX10) (i := 25) (k2 := 140) (q := 17) (n := 52) hM rfl (by decide) (fun _ => rfl) ly_X10 lkF_X10_72 (dtab_at okX10_joinMarks 30 rfl) rfl ?_
        refine w_iln (q := 2) (n := 53) hM (dtab_at okX10_joinMarks 31 rfl) rfl rfl ?_
        refine w_aln (q := 0) (n := 54) hM (dtab_at okX10_joinMarks 32 rfl) rfl rfl ?_
        refine w_geti (C := RX10) (T := TX10) (i := 26) (n := 57) hM rfl (by decide) ly_X10 lkF_X10_179 (dtab_at okX10_joinMarks 33 rfl) rfl ?_
        refine w_ast (nn := 40) (n := 58) hM rfl hg43 (dtab_at okX10_joinMarks 34 rfl) rfl ?_
        refine w_ic (n := 59) hM (1 : Int32) (dtab_at okX10_joinMarks 35 rfl) (by decide) rfl ?_
        refine w_isn (n := 60) (lv' := [(3, vi (1 : Int32)), (0, vr 10 0), (1, vi v1), (2, vi v2)]) hM (dtab_at okX10_joinMarks 36 rfl) (by decide) rfl rfl ?_
        refine WW.lvs [1, 2, 3, 0] (lv2 := [(0, vr 10 0), (1, vi v1), (2, vi v2), (3, vi (1 : Int32))]) rfl ?_
        exact wLX10_joinMarks_60 hM nF r (LX10_joinMarks_28 nF n) ih nF (sta S 17 v2.toNatClampNeg (S.1 0 26)) v1 v2 (1 : Int32) hf
def BX10_joinMarks_26 (nF : Nat) (S : PS) (v1 : Int32) : Option (PS) := (LX10_joinMarks_28 nF nF S v1 (0 : Int32))
set_option maxHeartbeats 4000000 in
set_option maxRecDepth 100000 in
theorem wBX10_joinMarks_26 {cy : ClassId × ClassId} {ad : Nat → Nat} {D : va_G} {p : Program} {l : Launch} {e : Env} {s : State} {m : MethodId} {args : Array Value} {below : List Frame} {meth : Method} {c : Code} {A : Nat → Prop} (hM : MX cy GM ad D p s m args meth c cX10_joinMarks 6 RX10 none A) (nF : Nat) (r : PS) (S : PS) (v1 : Int32) (hf : BX10_joinMarks_26 nF S v1 = some r) : WW cy GM ad D p l e rmX10_joinMarks s m args below meth c 6 A (pov (fun S' => S' = r)) 26 [(0, vr 10 0), (1, vi v1)] [] S := by
  rw [BX10_joinMarks_26] at hf
  refine w_ic (n := 27) hM (0 : Int32) (dtab_at okX10_joinMarks 15 rfl) (by decide) rfl ?_
  refine w_isn (n := 28) (lv' := [(2, vi (0 : Int32)), (0, vr 10 0), (1, vi v1)]) hM (dtab_at okX10_joinMarks 16 rfl) (by decide) rfl rfl ?_
  refine WW.lvs [1, 2, 0] (lv2 := [(0, vr 10 0), (1, vi v1), (2, vi (0 : Int32))]) rfl ?_
  exact wLX10_joinMarks_28 hM nF r nF S v1 (0 : Int32) hf
def LX10_joinMarks_7 (nF : Nat) : Nat → PS → Int32 → Int32 → Option (PS)
  | 0, _, _, _ => none
  | n + 1, S, v1, v2 => (if (40 : Int32) ≤ v2 then (BX10_joinMarks_26 nF S v1) else (if v2 < 0 ∨ 40 ≤ v2.toNatClampNeg then none else (LX10_joinMarks_7 nF n (sta S 17 v2.toNatClampNeg (-1 : Int32)) v1 (v2 + (1 : Int32)))))
set_option maxHeartbeats 4000000 in
set_option maxRecDepth 100000 in
theorem wLX10_joinMarks_7 {cy : ClassId × ClassId} {ad : Nat → Nat} {D : va_G} {p : Program} {l : Launch} {e : Env} {s : State} {m : MethodId} {args : Array Value} {below : List Frame} {meth : Method} {c : Code} {A : Nat → Prop} (hM : MX cy GM ad D p s m args meth c cX10_joinMarks 6 RX10 none A) (nF : Nat) (r : PS) : ∀ (n : Nat) (S : PS) (v1 : Int32) (v2 : Int32), LX10_joinMarks_7 nF n S v1 v2 = some r → WW cy GM ad D p l e rmX10_joinMarks s m args below meth c 6 A (pov (fun S' => S' = r)) 7 [(0, vr 10 0), (1, vi v1), (2, vi v2)] [] S := by
  intro n
  induction n with
  | zero => intro S v1 v2 hf; rw [LX10_joinMarks_7] at hf; cases hf
  | succ n ih =>
    intro S v1 v2 hf
    rw [LX10_joinMarks_7] at hf
    refine w_iln (q := 2) (n := 8) hM (dtab_at okX10_joinMarks 5 rfl) rfl rfl ?_
    refine w_bi (n := 10) hM (40 : Int32) (dtab_at okX10_joinMarks 6 rfl) (by decide) rfl ?_
    refine w_ic_ge (n := 26) (n2 := 13) hM (dtab_at okX10_joinMarks 7 rfl) (by decide) rfl (fun (h10 : (40 : Int32) ≤ v2) => ?_) (fun (h10 : ¬ (40 : Int32) ≤ v2) => ?_)
    · skip
      rw [if_pos h10] at hf
      refine WW.lvs [0, 1] (lv2 := [(0, vr 10 0), (1, vi v1)]) rfl ?_
      exact wBX10_joinMarks_26 hM nF r S v1 hf
    · skip
      rw [if_neg h10] at hf
      refine w_aln (q := 0) (n := 14) hM (dtab_at okX10_joinMarks 8 rfl) rfl rfl ?_
      refine w_getr (C := RX10) (T := TX10) (i := 25) (k2 := 140) (q := 17) (n := 17) hM rfl (by decide) (fun _ => rfl) ly_X10 lkF_X10_72 (dtab_at okX10_joinMarks 9 rfl) rfl ?_
      refine w_iln (q := 2) (n := 18) hM (dtab_at okX10_joinMarks 10 rfl) rfl rfl ?_
      refine w_ic (n := 19) hM (-1 : Int32) (dtab_at okX10_joinMarks 11 rfl) (by decide) rfl ?_
      by_cases hg19 : v2 < 0 ∨ 40 ≤ v2.toNatClampNeg
      · rw [if_pos hg19] at hf; cases hf
      rw [if_neg hg19] at hf
      refine w_ast (nn := 40) (n := 20) hM rfl hg19 (dtab_at okX10_joinMarks 12 rfl) rfl ?_
      refine w_iinc (q := 2) (n := 23) (v := (v2 + (1 : Int32))) (lv' := [(2, vi (v2 + (1 : Int32))), (0, vr 10 0), (1, vi v1)]) hM (dtab_at okX10_joinMarks 13 rfl) rfl rfl (by decide) rfl rfl ?_
      refine w_goto (n := 7) hM (dtab_at okX10_joinMarks 14 rfl) (by decide) ?_
      refine WW.lvs [1, 2, 0] (lv2 := [(0, vr 10 0), (1, vi v1), (2, vi (v2 + (1 : Int32)))]) rfl ?_
      exact ih (sta S 17 v2.toNatClampNeg (-1 : Int32)) v1 (v2 + (1 : Int32)) hf
def fX10_joinMarks (nF : Nat) (S : PS) (a1 : Int32) : Option (PS) := (LX10_joinMarks_7 nF nF (sti S 0 26 (0 : Int32)) a1 (0 : Int32))
set_option maxHeartbeats 4000000 in
set_option maxRecDepth 100000 in
theorem c_X10_joinMarks {cy : ClassId × ClassId} {ad : Nat → Nat} {D : va_G} {l : Launch} (nF : Nat) (S : PS) (a1 : Int32) (r : PS) (hf : fX10_joinMarks nF S a1 = some r) : PMv cy GM ad D l yX10_joinMarks (wA yX10_joinMarks cX10_joinMarks 6 none) rmX10_joinMarks [vr 10 0, vi a1] S (fun S' => S' = r) := by
  refine PM.of (lv := [(0, vr 10 0), (1, vi a1)]) GM_ok (by decide) (Nat.le_of_ble_eq_true rfl) rfl (by simp) ?_
  intro p e s m args below meth c A hM
  rw [fX10_joinMarks] at hf
  refine w_aln (q := 0) (n := 1) hM (dtab_at okX10_joinMarks 0 rfl) rfl rfl ?_
  refine w_ic (n := 2) hM (0 : Int32) (dtab_at okX10_joinMarks 1 rfl) (by decide) rfl ?_
  refine w_put (C := RX10) (T := TX10) (i := 26) (ty := .int) (n := 5) hM rfl (by decide) ly_X10 tyX10_ok nmX10 lkF_X10_179 rfl (by decide +kernel) rfl rfl (dtab_at okX10_joinMarks 2 rfl) rfl ?_
  refine w_ic (n := 6) hM (0 : Int32) (dtab_at okX10_joinMarks 3 rfl) (by decide) rfl ?_
  refine w_isn (n := 7) (lv' := [(2, vi (0 : Int32)), (0, vr 10 0), (1, vi a1)]) hM (dtab_at okX10_joinMarks 4 rfl) (by decide) rfl rfl ?_
  refine WW.lvs [1, 2, 0] (lv2 := [(0, vr 10 0), (1, vi a1), (2, vi (0 : Int32))]) rfl ?_
  exact wLX10_joinMarks_7 hM nF r nF (sti S 0 26 (0 : Int32)) a1 (0 : Int32) hf
def fX10_about (nF : Nat) (S : PS) (a1 : Int32) (a2 : Int32) (a3 : Int32) : Option (Int32 × PS) := ((fX10_isMark nF S a1 a2).bind fun r0 => (if r0 = (0 : Int32) then (some ((-2 : Int32), S)) else (if a3.toInt < 0 ∨ 5 < a3.toInt then (some ((-2 : Int32), S)) else if a3 = 0 then (if (((40 : Int32) * a1) + a2) < 0 ∨ 80 ≤ (((40 : Int32) * a1) + a2).toNatClampNeg then none else (some ((S.2 13 (((40 : Int32) * a1) + a2).toNatClampNeg), S))) else if a3 = 1 then (if (((40 : Int32) * a1) + a2) < 0 ∨ 80 ≤ (((40 : Int32) * a1) + a2).toNatClampNeg then none else (some ((S.2 14 (((40 : Int32) * a1) + a2).toNatClampNeg), S))) else if a3 = 2 then (if (((40 : Int32) * a1) + a2) < 0 ∨ 80 ≤ (((40 : Int32) * a1) + a2).toNatClampNeg then none else (some ((S.2 15 (((40 : Int32) * a1) + a2).toNatClampNeg), S))) else if a3 = 3 then (if (((40 : Int32) * a1) + a2) < 0 ∨ 80 ≤ (((40 : Int32) * a1) + a2).toNatClampNeg then none else (some ((S.2 16 (((40 : Int32) * a1) + a2).toNatClampNeg), S))) else if a3 = 4 then ((fX10_goThrough nF S a1).bind fun r1 => (if (((40 : Int32) * a1) + a2) < 0 ∨ 80 ≤ (((40 : Int32) * a1) + a2).toNatClampNeg then none else ((fX10_jointAt nF r1 (r1.2 13 (((40 : Int32) * a1) + a2).toNatClampNeg)).bind fun r2 => (some (r2, r1))))) else ((fX10_joinMarks nF S a1).bind fun r3 => (if a2 < 0 ∨ 40 ≤ a2.toNatClampNeg then none else (some ((r3.2 17 a2.toNatClampNeg), r3)))))))
set_option maxHeartbeats 4000000 in
set_option maxRecDepth 100000 in
theorem c_X10_about {cy : ClassId × ClassId} {ad : Nat → Nat} {D : va_G} {l : Launch} (nF : Nat) (S : PS) (a1 : Int32) (a2 : Int32) (a3 : Int32) (r : Int32 × PS) (hf : fX10_about nF S a1 a2 a3 = some r) : PMi cy GM ad D l yX10_about (wA yX10_about cX10_about 5 (some .int)) rmX10_about [vr 10 0, vi a1, vi a2, vi a3] S (fun x S' => (x, S') = r) := by
  refine PM.of (lv := [(0, vr 10 0), (1, vi a1), (2, vi a2), (3, vi a3)]) GM_ok (by decide) (Nat.le_of_ble_eq_true rfl) rfl (by simp) ?_
  intro p e s m args below meth c A hM
  rw [fX10_about] at hf
  refine w_aln (q := 0) (n := 1) hM (dtab_at okX10_about 0 rfl) rfl rfl ?_
  refine w_iln (q := 1) (n := 2) hM (dtab_at okX10_about 1 rfl) rfl rfl ?_
  refine w_iln (q := 2) (n := 3) hM (dtab_at okX10_about 2 rfl) rfl rfl ?_
  obtain ⟨r0, hr0, hf⟩ := Option.bind_eq_some_iff.mp hf
  refine w_callVi (n := 6) (As := [vi a1, vi a2]) (rest := []) (k := 10) (j := 0) (C := RX10) (T := TX10) (N := 43) hM (c_X10_isMark nF S a1 a2 r0 hr0) lkM_X10_186 mv_X10_isMark (by decide) rfl (by decide) rfl (Nat.le_of_ble_eq_true rfl) rfl (dtab_at okX10_about 3 rfl) rfl (fun x0 S0 hp0 => ?_)
  obtain ⟨hx_, hs_⟩ := hp0
  have hs_ := hs_.symm
  have hx_ := hx_.symm
  subst hs_
  subst hx_
  refine w_if_ne (n := 12) (n2 := 9) hM (dtab_at okX10_about 4 rfl) (by decide) rfl (fun (h6 : ¬ r0 = (0 : Int32)) => ?_) (fun (h6 : r0 = (0 : Int32)) => ?_)
  · skip
    rw [if_neg h6] at hf
    refine w_bi (n := 14) hM (40 : Int32) (dtab_at okX10_about 7 rfl) (by decide) rfl ?_
    refine w_iln (q := 1) (n := 15) hM (dtab_at okX10_about 8 rfl) rfl rfl ?_
    refine w_imul (n := 16) hM (dtab_at okX10_about 9 rfl) rfl ?_
    refine w_iln (q := 2) (n := 17) hM (dtab_at okX10_about 10 rfl) rfl rfl ?_
    refine w_iadd (n := 18) hM (dtab_at okX10_about 11 rfl) rfl ?_
    refine w_is (n := 20) (lv' := [(4, vi (((40 : Int32) * a1) + a2)), (0, vr 10 0), (1, vi a1), (2, vi a2), (3, vi a3)]) hM (dtab_at okX10_about 12 rfl) (by decide) rfl rfl ?_
    refine w_iln (q := 4) (n := 21) hM (dtab_at okX10_about 13 rfl) rfl rfl ?_
    by_cases hts21 : a3.toInt < 0 ∨ 5 < a3.toInt
    · refine w_tsOut (n := 121) hM (dtab_at okX10_about 14 rfl) hts21 (by decide) ?_
      rw [if_pos hts21] at hf
      refine w_bi (n := 123) hM (-2 : Int32) (dtab_at okX10_about 53 rfl) (by decide) rfl ?_
      exact r_i hM (dtab_at okX10_about 54 rfl) (Option.some.inj hf)
    · have htn21 := hts21
      obtain hts21 | hts21 | hts21 | hts21 | hts21 | hts21 : a3 = 0 ∨ a3 = 1 ∨ a3 = 2 ∨ a3 = 3 ∨ a3 = 4 ∨ a3 = 5 := sw0_6 hts21
      · refine w_tsIn (n := 60) (off := 39) hM (dtab_at okX10_about 14 rfl) (by rw [hts21]; decide) (by rw [hts21]; decide) (by rw [hts21]; rfl) (by decide) ?_
        rw [if_neg htn21, if_pos hts21] at hf
        refine w_aln (q := 1) (n := 61) hM (dtab_at okX10_about 15 rfl) rfl rfl ?_
        refine w_getr (C := RX10) (T := TX10) (i := 19) (k2 := 180) (q := 13) (n := 64) hM rfl (by decide) (fun _ => rfl) ly_X10 lkF_X10_54 (dtab_at okX10_about 16 rfl) rfl ?_
        refine w_il (q := 0) (n := 66) hM (dtab_at okX10_about 17 rfl) rfl rfl ?_
        by_cases hg66 : (((40 : Int32) * a1) + a2) < 0 ∨ 80 ≤ (((40 : Int32) * a1) + a2).toNatClampNeg
        · rw [if_pos hg66] at hf; cases hf
        rw [if_neg hg66] at hf
        refine w_ald (nn := 80) (n := 67) hM rfl hg66 (dtab_at okX10_about 18 rfl) rfl ?_
        exact r_i hM (dtab_at okX10_about 19 rfl) (Option.some.inj hf)
      · refine w_tsIn (n := 68) (off := 47) hM (dtab_at okX10_about 14 rfl) (by rw [hts21]; decide) (by rw [hts21]; decide) (by rw [hts21]; rfl) (by decide) ?_
        rw [if_neg htn21, if_neg (show ¬ a3 = 0 by rw [hts21]; decide), if_pos hts21] at hf
        refine w_aln (q := 1) (n := 69) hM (dtab_at okX10_about 20 rfl) rfl rfl ?_
        refine w_getr (C := RX10) (T := TX10) (i := 20) (k2 := 180) (q := 14) (n := 72) hM rfl (by decide) (fun _ => rfl) ly_X10 lkF_X10_57 (dtab_at okX10_about 21 rfl) rfl ?_
        refine w_il (q := 0) (n := 74) hM (dtab_at okX10_about 22 rfl) rfl rfl ?_
        by_cases hg74 : (((40 : Int32) * a1) + a2) < 0 ∨ 80 ≤ (((40 : Int32) * a1) + a2).toNatClampNeg
        · rw [if_pos hg74] at hf; cases hf
        rw [if_neg hg74] at hf
        refine w_ald (nn := 80) (n := 75) hM rfl hg74 (dtab_at okX10_about 23 rfl) rfl ?_
        exact r_i hM (dtab_at okX10_about 24 rfl) (Option.some.inj hf)
      · refine w_tsIn (n := 76) (off := 55) hM (dtab_at okX10_about 14 rfl) (by rw [hts21]; decide) (by rw [hts21]; decide) (by rw [hts21]; rfl) (by decide) ?_
        rw [if_neg htn21, if_neg (show ¬ a3 = 0 by rw [hts21]; decide), if_neg (show ¬ a3 = 1 by rw [hts21]; decide), if_pos hts21] at hf
        refine w_aln (q := 1) (n := 77) hM (dtab_at okX10_about 25 rfl) rfl rfl ?_
        refine w_getr (C := RX10) (T := TX10) (i := 21) (k2 := 180) (q := 15) (n := 80) hM rfl (by decide) (fun _ => rfl) ly_X10 lkF_X10_60 (dtab_at okX10_about 26 rfl) rfl ?_
        refine w_il (q := 0) (n := 82) hM (dtab_at okX10_about 27 rfl) rfl rfl ?_
        by_cases hg82 : (((40 : Int32) * a1) + a2) < 0 ∨ 80 ≤ (((40 : Int32) * a1) + a2).toNatClampNeg
        · rw [if_pos hg82] at hf; cases hf
        rw [if_neg hg82] at hf
        refine w_ald (nn := 80) (n := 83) hM rfl hg82 (dtab_at okX10_about 28 rfl) rfl ?_
        exact r_i hM (dtab_at okX10_about 29 rfl) (Option.some.inj hf)
      · refine w_tsIn (n := 84) (off := 63) hM (dtab_at okX10_about 14 rfl) (by rw [hts21]; decide) (by rw [hts21]; decide) (by rw [hts21]; rfl) (by decide) ?_
        rw [if_neg htn21, if_neg (show ¬ a3 = 0 by rw [hts21]; decide), if_neg (show ¬ a3 = 1 by rw [hts21]; decide), if_neg (show ¬ a3 = 2 by rw [hts21]; decide), if_pos hts21] at hf
        refine w_aln (q := 1) (n := 85) hM (dtab_at okX10_about 30 rfl) rfl rfl ?_
        refine w_getr (C := RX10) (T := TX10) (i := 22) (k2 := 180) (q := 16) (n := 88) hM rfl (by decide) (fun _ => rfl) ly_X10 lkF_X10_63 (dtab_at okX10_about 31 rfl) rfl ?_
        refine w_il (q := 0) (n := 90) hM (dtab_at okX10_about 32 rfl) rfl rfl ?_
        by_cases hg90 : (((40 : Int32) * a1) + a2) < 0 ∨ 80 ≤ (((40 : Int32) * a1) + a2).toNatClampNeg
        · rw [if_pos hg90] at hf; cases hf
        rw [if_neg hg90] at hf
        refine w_ald (nn := 80) (n := 91) hM rfl hg90 (dtab_at okX10_about 33 rfl) rfl ?_
        exact r_i hM (dtab_at okX10_about 34 rfl) (Option.some.inj hf)
      · refine w_tsIn (n := 92) (off := 71) hM (dtab_at okX10_about 14 rfl) (by rw [hts21]; decide) (by rw [hts21]; decide) (by rw [hts21]; rfl) (by decide) ?_
        rw [if_neg htn21, if_neg (show ¬ a3 = 0 by rw [hts21]; decide), if_neg (show ¬ a3 = 1 by rw [hts21]; decide), if_neg (show ¬ a3 = 2 by rw [hts21]; decide), if_neg (show ¬ a3 = 3 by rw [hts21]; decide), if_pos hts21] at hf
        refine w_aln (q := 1) (n := 93) hM (dtab_at okX10_about 35 rfl) rfl rfl ?_
        refine w_iln (q := 2) (n := 94) hM (dtab_at okX10_about 36 rfl) rfl rfl ?_
        obtain ⟨r1, hr1, hf⟩ := Option.bind_eq_some_iff.mp hf
        refine w_callVv (n := 97) (As := [vi a1]) (rest := []) (k := 10) (j := 0) (C := RX10) (T := TX10) (N := 43) hM (c_X10_goThrough nF S a1 r1 hr1) lkM_X10_156 mv_X10_goThrough (by decide) rfl (by decide) rfl (Nat.le_of_ble_eq_true rfl) rfl (dtab_at okX10_about 37 rfl) rfl (fun S1 hp1 => ?_)
        have hs_ := hp1.symm
        subst hs_
        refine w_aln (q := 1) (n := 98) hM (dtab_at okX10_about 38 rfl) rfl rfl ?_
        refine w_aln (q := 1) (n := 99) hM (dtab_at okX10_about 39 rfl) rfl rfl ?_
        refine w_getr (C := RX10) (T := TX10) (i := 19) (k2 := 180) (q := 13) (n := 102) hM rfl (by decide) (fun _ => rfl) ly_X10 lkF_X10_54 (dtab_at okX10_about 40 rfl) rfl ?_
        refine w_il (q := 0) (n := 104) hM (dtab_at okX10_about 41 rfl) rfl rfl ?_
        by_cases hg104 : (((40 : Int32) * a1) + a2) < 0 ∨ 80 ≤ (((40 : Int32) * a1) + a2).toNatClampNeg
        · rw [if_pos hg104] at hf; cases hf
        rw [if_neg hg104] at hf
        refine w_ald (nn := 80) (n := 105) hM rfl hg104 (dtab_at okX10_about 42 rfl) rfl ?_
        obtain ⟨r2, hr2, hf⟩ := Option.bind_eq_some_iff.mp hf
        refine w_callVi (n := 108) (As := [vi (r1.2 13 (((40 : Int32) * a1) + a2).toNatClampNeg)]) (rest := []) (k := 10) (j := 0) (C := RX10) (T := TX10) (N := 43) hM (c_X10_jointAt nF r1 (r1.2 13 (((40 : Int32) * a1) + a2).toNatClampNeg) r2 hr2) lkM_X10_189 mv_X10_jointAt (by decide) rfl (by decide) rfl (Nat.le_of_ble_eq_true rfl) rfl (dtab_at okX10_about 43 rfl) rfl (fun x2 S2 hp2 => ?_)
        obtain ⟨hx_, hs_⟩ := hp2
        have hs_ := hs_.symm
        have hx_ := hx_.symm
        subst hs_
        subst hx_
        exact r_i hM (dtab_at okX10_about 44 rfl) (Option.some.inj hf)
      · refine w_tsIn (n := 109) (off := 88) hM (dtab_at okX10_about 14 rfl) (by rw [hts21]; decide) (by rw [hts21]; decide) (by rw [hts21]; rfl) (by decide) ?_
        rw [if_neg htn21, if_neg (show ¬ a3 = 0 by rw [hts21]; decide), if_neg (show ¬ a3 = 1 by rw [hts21]; decide), if_neg (show ¬ a3 = 2 by rw [hts21]; decide), if_neg (show ¬ a3 = 3 by rw [hts21]; decide), if_neg (show ¬ a3 = 4 by rw [hts21]; decide)] at hf
        refine w_aln (q := 1) (n := 110) hM (dtab_at okX10_about 45 rfl) rfl rfl ?_
        refine w_iln (q := 2) (n := 111) hM (dtab_at okX10_about 46 rfl) rfl rfl ?_
        obtain ⟨r3, hr3, hf⟩ := Option.bind_eq_some_iff.mp hf
        refine w_callVv (n := 114) (As := [vi a1]) (rest := []) (k := 10) (j := 0) (C := RX10) (T := TX10) (N := 43) hM (c_X10_joinMarks nF S a1 r3 hr3) lkM_X10_192 mv_X10_joinMarks (by decide) rfl (by decide) rfl (Nat.le_of_ble_eq_true rfl) rfl (dtab_at okX10_about 47 rfl) rfl (fun S3 hp3 => ?_)
        have hs_ := hp3.symm
        subst hs_
        refine w_aln (q := 1) (n := 115) hM (dtab_at okX10_about 48 rfl) rfl rfl ?_
        refine w_getr (C := RX10) (T := TX10) (i := 25) (k2 := 140) (q := 17) (n := 118) hM rfl (by decide) (fun _ => rfl) ly_X10 lkF_X10_72 (dtab_at okX10_about 49 rfl) rfl ?_
        refine w_iln (q := 3) (n := 119) hM (dtab_at okX10_about 50 rfl) rfl rfl ?_
        by_cases hg119 : a2 < 0 ∨ 40 ≤ a2.toNatClampNeg
        · rw [if_pos hg119] at hf; cases hf
        rw [if_neg hg119] at hf
        refine w_ald (nn := 40) (n := 120) hM rfl hg119 (dtab_at okX10_about 51 rfl) rfl ?_
        exact r_i hM (dtab_at okX10_about 52 rfl) (Option.some.inj hf)
  · skip
    rw [if_pos h6] at hf
    refine w_bi (n := 11) hM (-2 : Int32) (dtab_at okX10_about 5 rfl) (by decide) rfl ?_
    exact r_i hM (dtab_at okX10_about 6 rfl) (Option.some.inj hf)
def fX10_near (S : PS) (a1 : Int32) (a2 : Int32) : Int32 × PS := if (fX10_in S a1 (0 : Int32) (100000 : Int32)) = (0 : Int32) then ((-2 : Int32), S) else (if (fX10_in S a2 (0 : Int32) (6 : Int32)) = (0 : Int32) then ((-2 : Int32), S) else ((1 : Int32), (sti (sti S 0 23 a1) 0 24 a2)))
set_option maxHeartbeats 4000000 in
set_option maxRecDepth 100000 in
theorem c_X10_near {cy : ClassId × ClassId} {ad : Nat → Nat} {D : va_G} {l : Launch} (S : PS) (a1 : Int32) (a2 : Int32)  : PMi cy GM ad D l yX10_near (wA yX10_near cX10_near 3 (some .int)) rmX10_near [vr 10 0, vi a1, vi a2] S (fun x S' => (x, S') = (fX10_near S a1 a2)) := by
  refine PM.of (lv := [(0, vr 10 0), (1, vi a1), (2, vi a2)]) GM_ok (by decide) (Nat.le_of_ble_eq_true rfl) rfl (by simp) ?_
  intro p e s m args below meth c A hM
  refine w_iln (q := 1) (n := 1) hM (dtab_at okX10_near 0 rfl) rfl rfl ?_
  refine w_ic (n := 2) hM (0 : Int32) (dtab_at okX10_near 1 rfl) (by decide) rfl ?_
  refine w_ldc (n := 4) (v := (100000 : Int32)) hM (dtab_at okX10_near 2 rfl) lkC_X10_160 rfl ?_
  refine w_callSi (n := 7) (As := [vi a1, vi (0 : Int32), vi (100000 : Int32)]) (rest := []) hM (c_X10_in S a1 (0 : Int32) (100000 : Int32)) lkM_X10_120 ms_X10_in (by decide) rfl (Nat.le_of_ble_eq_true rfl) rfl (dtab_at okX10_near 3 rfl) rfl (fun x0 S0 hp0 => ?_)
  obtain ⟨hx_, hs_⟩ := hp0
  have hs_ := hs_.symm
  subst hs_
  subst hx_
  refine w_if_eq (n := 20) (n2 := 10) hM (dtab_at okX10_near 4 rfl) (by decide) rfl (fun (h7 : (fX10_in S a1 (0 : Int32) (100000 : Int32)) = (0 : Int32)) => ?_) (fun (h7 : ¬ (fX10_in S a1 (0 : Int32) (100000 : Int32)) = (0 : Int32)) => ?_)
  · skip
    refine w_bi (n := 22) hM (-2 : Int32) (dtab_at okX10_near 10 rfl) (by decide) rfl ?_
    exact r_i hM (dtab_at okX10_near 11 rfl) (by rw [fX10_near, if_pos h7])
  · skip
    refine w_iln (q := 2) (n := 11) hM (dtab_at okX10_near 5 rfl) rfl rfl ?_
    refine w_ic (n := 12) hM (0 : Int32) (dtab_at okX10_near 6 rfl) (by decide) rfl ?_
    refine w_bi (n := 14) hM (6 : Int32) (dtab_at okX10_near 7 rfl) (by decide) rfl ?_
    refine w_callSi (n := 17) (As := [vi a2, vi (0 : Int32), vi (6 : Int32)]) (rest := []) hM (c_X10_in S a2 (0 : Int32) (6 : Int32)) lkM_X10_120 ms_X10_in (by decide) rfl (Nat.le_of_ble_eq_true rfl) rfl (dtab_at okX10_near 8 rfl) rfl (fun x1 S1 hp1 => ?_)
    obtain ⟨hx_, hs_⟩ := hp1
    have hs_ := hs_.symm
    subst hs_
    subst hx_
    refine w_if_ne (n := 23) (n2 := 20) hM (dtab_at okX10_near 9 rfl) (by decide) rfl (fun (h17 : ¬ (fX10_in S a2 (0 : Int32) (6 : Int32)) = (0 : Int32)) => ?_) (fun (h17 : (fX10_in S a2 (0 : Int32) (6 : Int32)) = (0 : Int32)) => ?_)
    · skip
      refine w_aln (q := 0) (n := 24) hM (dtab_at okX10_near 12 rfl) rfl rfl ?_
      refine w_iln (q := 1) (n := 25) hM (dtab_at okX10_near 13 rfl) rfl rfl ?_
      refine w_put (C := RX10) (T := TX10) (i := 23) (ty := .int) (n := 28) hM rfl (by decide) ly_X10 tyX10_ok nmX10 lkF_X10_66 rfl (by decide +kernel) rfl rfl (dtab_at okX10_near 14 rfl) rfl ?_
      refine w_aln (q := 0) (n := 29) hM (dtab_at okX10_near 15 rfl) rfl rfl ?_
      refine w_iln (q := 2) (n := 30) hM (dtab_at okX10_near 16 rfl) rfl rfl ?_
      refine w_put (C := RX10) (T := TX10) (i := 24) (ty := .int) (n := 33) hM rfl (by decide) ly_X10 tyX10_ok nmX10 lkF_X10_69 rfl (by decide +kernel) rfl rfl (dtab_at okX10_near 17 rfl) rfl ?_
      refine w_ic (n := 34) hM (1 : Int32) (dtab_at okX10_near 18 rfl) (by decide) rfl ?_
      exact r_i hM (dtab_at okX10_near 19 rfl) (by rw [fX10_near, if_neg h7, if_neg h17])
    · skip
      refine w_bi (n := 22) hM (-2 : Int32) (dtab_at okX10_near 10 rfl) (by decide) rfl ?_
      exact r_i hM (dtab_at okX10_near 11 rfl) (by rw [fX10_near, if_neg h7, if_pos h17])
def fX10_groups (nF : Nat) (S : PS) (a1 : Int32) : Option (Int32 × PS) := (if (fX10_isRun S a1) = (0 : Int32) then (some ((-2 : Int32), S)) else ((fX10_joinMarks nF S a1).bind fun r1 => (some ((r1.1 0 26), r1))))
set_option maxHeartbeats 4000000 in
set_option maxRecDepth 100000 in
theorem c_X10_groups {cy : ClassId × ClassId} {ad : Nat → Nat} {D : va_G} {l : Launch} (nF : Nat) (S : PS) (a1 : Int32) (r : Int32 × PS) (hf : fX10_groups nF S a1 = some r) : PMi cy GM ad D l yX10_groups (wA yX10_groups cX10_groups 2 (some .int)) rmX10_groups [vr 10 0, vi a1] S (fun x S' => (x, S') = r) := by
  refine PM.of (lv := [(0, vr 10 0), (1, vi a1)]) GM_ok (by decide) (Nat.le_of_ble_eq_true rfl) rfl (by simp) ?_
  intro p e s m args below meth c A hM
  rw [fX10_groups] at hf
  refine w_iln (q := 1) (n := 1) hM (dtab_at okX10_groups 0 rfl) rfl rfl ?_
  refine w_callSi (n := 4) (As := [vi a1]) (rest := []) hM (c_X10_isRun S a1) lkM_X10_153 ms_X10_isRun (by decide) rfl (Nat.le_of_ble_eq_true rfl) rfl (dtab_at okX10_groups 1 rfl) rfl (fun x0 S0 hp0 => ?_)
  obtain ⟨hx_, hs_⟩ := hp0
  have hs_ := hs_.symm
  subst hs_
  subst hx_
  refine w_if_ne (n := 10) (n2 := 7) hM (dtab_at okX10_groups 2 rfl) (by decide) rfl (fun (h4 : ¬ (fX10_isRun S a1) = (0 : Int32)) => ?_) (fun (h4 : (fX10_isRun S a1) = (0 : Int32)) => ?_)
  · skip
    rw [if_neg h4] at hf
    refine w_aln (q := 0) (n := 11) hM (dtab_at okX10_groups 5 rfl) rfl rfl ?_
    refine w_iln (q := 1) (n := 12) hM (dtab_at okX10_groups 6 rfl) rfl rfl ?_
    obtain ⟨r1, hr1, hf⟩ := Option.bind_eq_some_iff.mp hf
    refine w_callVv (n := 15) (As := [vi a1]) (rest := []) (k := 10) (j := 0) (C := RX10) (T := TX10) (N := 43) hM (c_X10_joinMarks nF S a1 r1 hr1) lkM_X10_192 mv_X10_joinMarks (by decide) rfl (by decide) rfl (Nat.le_of_ble_eq_true rfl) rfl (dtab_at okX10_groups 7 rfl) rfl (fun S1 hp1 => ?_)
    have hs_ := hp1.symm
    subst hs_
    refine w_aln (q := 0) (n := 16) hM (dtab_at okX10_groups 8 rfl) rfl rfl ?_
    refine w_geti (C := RX10) (T := TX10) (i := 26) (n := 19) hM rfl (by decide) ly_X10 lkF_X10_179 (dtab_at okX10_groups 9 rfl) rfl ?_
    exact r_i hM (dtab_at okX10_groups 10 rfl) (Option.some.inj hf)
  · skip
    rw [if_pos h4] at hf
    refine w_bi (n := 9) hM (-2 : Int32) (dtab_at okX10_groups 3 rfl) (by decide) rfl ?_
    exact r_i hM (dtab_at okX10_groups 4 rfl) (Option.some.inj hf)
def BX10_group_208 (nF : Nat) (S : PS) (v3 : Int32) (v4 : Int32) (v5 : Int32) (v6 : Int32) (v7 : Int32) (v8 : Int32) : Option (Int32 × PS) := (if v3 = (0 : Int32) then (some (v4, S)) else (if v3 = (1 : Int32) then (some (v5, S)) else (if v3 = (2 : Int32) then (some (v6, S)) else (if v3 = (3 : Int32) then (some (v7, S)) else (some (v8, S))))))
set_option maxHeartbeats 4000000 in
set_option maxRecDepth 100000 in
theorem wBX10_group_208 {cy : ClassId × ClassId} {ad : Nat → Nat} {D : va_G} {p : Program} {l : Launch} {e : Env} {s : State} {m : MethodId} {args : Array Value} {below : List Frame} {meth : Method} {c : Code} {A : Nat → Prop} (hM : MX cy GM ad D p s m args meth c cX10_group 12 RX10 (some .int) A) (nF : Nat) (r : Int32 × PS) (S : PS) (v3 : Int32) (v4 : Int32) (v5 : Int32) (v6 : Int32) (v7 : Int32) (v8 : Int32) (hf : BX10_group_208 nF S v3 v4 v5 v6 v7 v8 = some r) : WW cy GM ad D p l e rmX10_group s m args below meth c 12 A (poi (fun x S' => (x, S') = r)) 208 [(3, vi v3), (4, vi v4), (5, vi v5), (6, vi v6), (7, vi v7), (8, vi v8)] [] S := by
  rw [BX10_group_208] at hf
  refine w_iln (q := 0) (n := 209) hM (dtab_at okX10_group 109 rfl) rfl rfl ?_
  refine w_if_ne (n := 217) (n2 := 212) hM (dtab_at okX10_group 110 rfl) (by decide) rfl (fun (h209 : ¬ v3 = (0 : Int32)) => ?_) (fun (h209 : v3 = (0 : Int32)) => ?_)
  · skip
    rw [if_neg h209] at hf
    refine w_iln (q := 0) (n := 218) hM (dtab_at okX10_group 113 rfl) rfl rfl ?_
    refine w_ic (n := 219) hM (1 : Int32) (dtab_at okX10_group 114 rfl) (by decide) rfl ?_
    refine w_ic_ne (n := 227) (n2 := 222) hM (dtab_at okX10_group 115 rfl) (by decide) rfl (fun (h219 : ¬ v3 = (1 : Int32)) => ?_) (fun (h219 : v3 = (1 : Int32)) => ?_)
    · skip
      rw [if_neg h219] at hf
      refine w_iln (q := 0) (n := 228) hM (dtab_at okX10_group 118 rfl) rfl rfl ?_
      refine w_ic (n := 229) hM (2 : Int32) (dtab_at okX10_group 119 rfl) (by decide) rfl ?_
      refine w_ic_ne (n := 237) (n2 := 232) hM (dtab_at okX10_group 120 rfl) (by decide) rfl (fun (h229 : ¬ v3 = (2 : Int32)) => ?_) (fun (h229 : v3 = (2 : Int32)) => ?_)
      · skip
        rw [if_neg h229] at hf
        refine w_iln (q := 0) (n := 238) hM (dtab_at okX10_group 123 rfl) rfl rfl ?_
        refine w_ic (n := 239) hM (3 : Int32) (dtab_at okX10_group 124 rfl) (by decide) rfl ?_
        refine w_ic_ne (n := 247) (n2 := 242) hM (dtab_at okX10_group 125 rfl) (by decide) rfl (fun (h239 : ¬ v3 = (3 : Int32)) => ?_) (fun (h239 : v3 = (3 : Int32)) => ?_)
        · skip
          rw [if_neg h239] at hf
          refine w_il (q := 5) (n := 249) hM (dtab_at okX10_group 128 rfl) rfl rfl ?_
          exact r_i hM (dtab_at okX10_group 129 rfl) (Option.some.inj hf)
        · skip
          rw [if_pos h239] at hf
          refine w_il (q := 4) (n := 244) hM (dtab_at okX10_group 126 rfl) rfl rfl ?_
          refine w_goto (n := 249) hM (dtab_at okX10_group 127 rfl) (by decide) ?_
          exact r_i hM (dtab_at okX10_group 129 rfl) (Option.some.inj hf)
      · skip
        rw [if_pos h229] at hf
        refine w_il (q := 3) (n := 234) hM (dtab_at okX10_group 121 rfl) rfl rfl ?_
        refine w_goto (n := 249) hM (dtab_at okX10_group 122 rfl) (by decide) ?_
        exact r_i hM (dtab_at okX10_group 129 rfl) (Option.some.inj hf)
    · skip
      rw [if_pos h219] at hf
      refine w_il (q := 2) (n := 224) hM (dtab_at okX10_group 116 rfl) rfl rfl ?_
      refine w_goto (n := 249) hM (dtab_at okX10_group 117 rfl) (by decide) ?_
      exact r_i hM (dtab_at okX10_group 129 rfl) (Option.some.inj hf)
  · skip
    rw [if_pos h209] at hf
    refine w_il (q := 1) (n := 214) hM (dtab_at okX10_group 111 rfl) rfl rfl ?_
    refine w_goto (n := 249) hM (dtab_at okX10_group 112 rfl) (by decide) ?_
    exact r_i hM (dtab_at okX10_group 129 rfl) (Option.some.inj hf)
def BX10_group_183 (nF : Nat) (k59 : PS → Int32 → Int32 → Int32 → Int32 → Int32 → Int32 → Int32 → Int32 → Int32 → Option (Int32 × PS)) (S : PS) (v1 : Int32) (v2 : Int32) (v3 : Int32) (v4 : Int32) (v5 : Int32) (v6 : Int32) (v7 : Int32) (v9 : Int32) (t0 : Int32) : Option (Int32 × PS) := (if v5 = (0 : Int32) then (k59 S v1 v2 v3 v9 (v5 + (1 : Int32)) v6 v7 t0 (v9 + (1 : Int32))) else (k59 S v1 v2 v3 v4 (v5 + (1 : Int32)) v6 v7 t0 (v9 + (1 : Int32))))
set_option maxHeartbeats 4000000 in
set_option maxRecDepth 100000 in
theorem wBX10_group_183 {cy : ClassId × ClassId} {ad : Nat → Nat} {D : va_G} {p : Program} {l : Launch} {e : Env} {s : State} {m : MethodId} {args : Array Value} {below : List Frame} {meth : Method} {c : Code} {A : Nat → Prop} (hM : MX cy GM ad D p s m args meth c cX10_group 12 RX10 (some .int) A) (nF : Nat) (r : Int32 × PS) (k59 : PS → Int32 → Int32 → Int32 → Int32 → Int32 → Int32 → Int32 → Int32 → Int32 → Option (Int32 × PS)) (hk59 : ∀ (S : PS) (v1 : Int32) (v2 : Int32) (v3 : Int32) (v4 : Int32) (v5 : Int32) (v6 : Int32) (v7 : Int32) (v8 : Int32) (v9 : Int32), k59 S v1 v2 v3 v4 v5 v6 v7 v8 v9 = some r → WW cy GM ad D p l e rmX10_group s m args below meth c 12 A (poi (fun x S' => (x, S') = r)) 59 [(0, vr 10 0), (1, vi v1), (2, vi v2), (3, vi v3), (4, vi v4), (5, vi v5), (6, vi v6), (7, vi v7), (8, vi v8), (9, vi v9)] [] S) (S : PS) (v1 : Int32) (v2 : Int32) (v3 : Int32) (v4 : Int32) (v5 : Int32) (v6 : Int32) (v7 : Int32) (v9 : Int32) (t0 : Int32) (hf : BX10_group_183 nF k59 S v1 v2 v3 v4 v5 v6 v7 v9 t0 = some r) : WW cy GM ad D p l e rmX10_group s m args below meth c 12 A (poi (fun x S' => (x, S') = r)) 183 [(0, vr 10 0), (1, vi v1), (2, vi v2), (3, vi v3), (4, vi v4), (5, vi v5), (6, vi v6), (7, vi v7), (9, vi v9)] [vi t0] S := by
  rw [BX10_group_183] at hf
  refine w_is (n := 185) (lv' := [(8, vi t0), (0, vr 10 0), (1, vi v1), (2, vi v2), (3, vi v3), (4, vi v4), (5, vi v5), (6, vi v6), (7, vi v7), (9, vi v9)]) hM (dtab_at okX10_group 99 rfl) (by decide) rfl rfl ?_
  refine w_il (q := 6) (n := 187) hM (dtab_at okX10_group 100 rfl) rfl rfl ?_
  refine w_if_ne (n := 195) (n2 := 190) hM (dtab_at okX10_group 101 rfl) (by decide) rfl (fun (h187 : ¬ v5 = (0 : Int32)) => ?_) (fun (h187 : v5 = (0 : Int32)) => ?_)
  · skip
    rw [if_neg h187] at hf
    refine w_il (q := 5) (n := 197) hM (dtab_at okX10_group 104 rfl) rfl rfl ?_
    refine w_is (n := 199) (lv' := [(4, vi v4), (8, vi t0), (0, vr 10 0), (1, vi v1), (2, vi v2), (3, vi v3), (5, vi v5), (6, vi v6), (7, vi v7), (9, vi v9)]) hM (dtab_at okX10_group 105 rfl) (by decide) rfl rfl ?_
    refine w_iinc (q := 6) (n := 202) (v := (v5 + (1 : Int32))) (lv' := [(5, vi (v5 + (1 : Int32))), (4, vi v4), (8, vi t0), (0, vr 10 0), (1, vi v1), (2, vi v2), (3, vi v3), (6, vi v6), (7, vi v7), (9, vi v9)]) hM (dtab_at okX10_group 106 rfl) rfl rfl (by decide) rfl rfl ?_
    refine w_iinc (q := 9) (n := 205) (v := (v9 + (1 : Int32))) (lv' := [(9, vi (v9 + (1 : Int32))), (5, vi (v5 + (1 : Int32))), (4, vi v4), (8, vi t0), (0, vr 10 0), (1, vi v1), (2, vi v2), (3, vi v3), (6, vi v6), (7, vi v7)]) hM (dtab_at okX10_group 107 rfl) rfl rfl (by decide) rfl rfl ?_
    refine w_goto (n := 59) hM (dtab_at okX10_group 108 rfl) (by decide) ?_
    refine WW.lvs [4, 5, 6, 7, 2, 1, 8, 9, 3, 0] (lv2 := [(0, vr 10 0), (1, vi v1), (2, vi v2), (3, vi v3), (4, vi v4), (5, vi (v5 + (1 : Int32))), (6, vi v6), (7, vi v7), (8, vi t0), (9, vi (v9 + (1 : Int32)))]) rfl ?_
    exact hk59 S v1 v2 v3 v4 (v5 + (1 : Int32)) v6 v7 t0 (v9 + (1 : Int32)) hf
  · skip
    rw [if_pos h187] at hf
    refine w_il (q := 9) (n := 192) hM (dtab_at okX10_group 102 rfl) rfl rfl ?_
    refine w_goto (n := 197) hM (dtab_at okX10_group 103 rfl) (by decide) ?_
    refine w_is (n := 199) (lv' := [(4, vi v9), (8, vi t0), (0, vr 10 0), (1, vi v1), (2, vi v2), (3, vi v3), (5, vi v5), (6, vi v6), (7, vi v7), (9, vi v9)]) hM (dtab_at okX10_group 105 rfl) (by decide) rfl rfl ?_
    refine w_iinc (q := 6) (n := 202) (v := (v5 + (1 : Int32))) (lv' := [(5, vi (v5 + (1 : Int32))), (4, vi v9), (8, vi t0), (0, vr 10 0), (1, vi v1), (2, vi v2), (3, vi v3), (6, vi v6), (7, vi v7), (9, vi v9)]) hM (dtab_at okX10_group 106 rfl) rfl rfl (by decide) rfl rfl ?_
    refine w_iinc (q := 9) (n := 205) (v := (v9 + (1 : Int32))) (lv' := [(9, vi (v9 + (1 : Int32))), (5, vi (v5 + (1 : Int32))), (4, vi v9), (8, vi t0), (0, vr 10 0), (1, vi v1), (2, vi v2), (3, vi v3), (6, vi v6), (7, vi v7)]) hM (dtab_at okX10_group 107 rfl) rfl rfl (by decide) rfl rfl ?_
    refine w_goto (n := 59) hM (dtab_at okX10_group 108 rfl) (by decide) ?_
    refine WW.lvs [4, 5, 6, 7, 2, 1, 8, 9, 3, 0] (lv2 := [(0, vr 10 0), (1, vi v1), (2, vi v2), (3, vi v3), (4, vi v9), (5, vi (v5 + (1 : Int32))), (6, vi v6), (7, vi v7), (8, vi t0), (9, vi (v9 + (1 : Int32)))]) rfl ?_
    exact hk59 S v1 v2 v3 v9 (v5 + (1 : Int32)) v6 v7 t0 (v9 + (1 : Int32)) hf
def BX10_group_157 (nF : Nat) (k59 : PS → Int32 → Int32 → Int32 → Int32 → Int32 → Int32 → Int32 → Int32 → Int32 → Option (Int32 × PS)) (S : PS) (v1 : Int32) (v2 : Int32) (v3 : Int32) (v4 : Int32) (v5 : Int32) (v6 : Int32) (v8 : Int32) (v9 : Int32) (v10 : Int32) (t0 : Int32) : Option (Int32 × PS) := (if v10 < 0 ∨ 80 ≤ v10.toNatClampNeg then none else (if (S.2 15 v10.toNatClampNeg) ≤ v8 then (BX10_group_183 nF k59 S v1 v2 v3 v4 v5 v6 t0 v9 v8) else (BX10_group_183 nF k59 S v1 v2 v3 v4 v5 v6 t0 v9 (S.2 15 v10.toNatClampNeg))))
set_option maxHeartbeats 4000000 in
set_option maxRecDepth 100000 in
theorem wBX10_group_157 {cy : ClassId × ClassId} {ad : Nat → Nat} {D : va_G} {p : Program} {l : Launch} {e : Env} {s : State} {m : MethodId} {args : Array Value} {below : List Frame} {meth : Method} {c : Code} {A : Nat → Prop} (hM : MX cy GM ad D p s m args meth c cX10_group 12 RX10 (some .int) A) (nF : Nat) (r : Int32 × PS) (k59 : PS → Int32 → Int32 → Int32 → Int32 → Int32 → Int32 → Int32 → Int32 → Int32 → Option (Int32 × PS)) (hk59 : ∀ (S : PS) (v1 : Int32) (v2 : Int32) (v3 : Int32) (v4 : Int32) (v5 : Int32) (v6 : Int32) (v7 : Int32) (v8 : Int32) (v9 : Int32), k59 S v1 v2 v3 v4 v5 v6 v7 v8 v9 = some r → WW cy GM ad D p l e rmX10_group s m args below meth c 12 A (poi (fun x S' => (x, S') = r)) 59 [(0, vr 10 0), (1, vi v1), (2, vi v2), (3, vi v3), (4, vi v4), (5, vi v5), (6, vi v6), (7, vi v7), (8, vi v8), (9, vi v9)] [] S) (S : PS) (v1 : Int32) (v2 : Int32) (v3 : Int32) (v4 : Int32) (v5 : Int32) (v6 : Int32) (v8 : Int32) (v9 : Int32) (v10 : Int32) (t0 : Int32) (hf : BX10_group_157 nF k59 S v1 v2 v3 v4 v5 v6 v8 v9 v10 t0 = some r) : WW cy GM ad D p l e rmX10_group s m args below meth c 12 A (poi (fun x S' => (x, S') = r)) 157 [(0, vr 10 0), (1, vi v1), (2, vi v2), (3, vi v3), (4, vi v4), (5, vi v5), (6, vi v6), (8, vi v8), (9, vi v9), (10, vi v10)] [vi t0] S := by
  rw [BX10_group_157] at hf
  refine w_is (n := 159) (lv' := [(7, vi t0), (0, vr 10 0), (1, vi v1), (2, vi v2), (3, vi v3), (4, vi v4), (5, vi v5), (6, vi v6), (8, vi v8), (9, vi v9), (10, vi v10)]) hM (dtab_at okX10_group 86 rfl) (by decide) rfl rfl ?_
  refine w_aln (q := 1) (n := 160) hM (dtab_at okX10_group 87 rfl) rfl rfl ?_
  refine w_getr (C := RX10) (T := TX10) (i := 21) (k2 := 180) (q := 15) (n := 163) hM rfl (by decide) (fun _ => rfl) ly_X10 lkF_X10_60 (dtab_at okX10_group 88 rfl) rfl ?_
  refine w_il (q := 10) (n := 165) hM (dtab_at okX10_group 89 rfl) rfl rfl ?_
  by_cases hg165 : v10 < 0 ∨ 80 ≤ v10.toNatClampNeg
  · rw [if_pos hg165] at hf; cases hf
  rw [if_neg hg165] at hf
  refine w_ald (nn := 80) (n := 166) hM rfl hg165 (dtab_at okX10_group 90 rfl) rfl ?_
  refine w_il (q := 8) (n := 168) hM (dtab_at okX10_group 91 rfl) rfl rfl ?_
  refine w_ic_le (n := 181) (n2 := 171) hM (dtab_at okX10_group 92 rfl) (by decide) rfl (fun (h168 : (S.2 15 v10.toNatClampNeg) ≤ v8) => ?_) (fun (h168 : ¬ (S.2 15 v10.toNatClampNeg) ≤ v8) => ?_)
  · skip
    rw [if_pos h168] at hf
    refine w_il (q := 8) (n := 183) hM (dtab_at okX10_group 98 rfl) rfl rfl ?_
    refine WW.lvs [1, 2, 3, 4, 5, 6, 7, 0, 9] (lv2 := [(0, vr 10 0), (1, vi v1), (2, vi v2), (3, vi v3), (4, vi v4), (5, vi v5), (6, vi v6), (7, vi t0), (9, vi v9)]) rfl ?_
    exact wBX10_group_183 hM nF r k59 hk59 S v1 v2 v3 v4 v5 v6 t0 v9 v8 hf
  · skip
    rw [if_neg h168] at hf
    refine w_aln (q := 1) (n := 172) hM (dtab_at okX10_group 93 rfl) rfl rfl ?_
    refine w_getr (C := RX10) (T := TX10) (i := 21) (k2 := 180) (q := 15) (n := 175) hM rfl (by decide) (fun _ => rfl) ly_X10 lkF_X10_60 (dtab_at okX10_group 94 rfl) rfl ?_
    refine w_il (q := 10) (n := 177) hM (dtab_at okX10_group 95 rfl) rfl rfl ?_
    refine w_ald (nn := 80) (n := 178) hM rfl hg165 (dtab_at okX10_group 96 rfl) rfl ?_
    refine w_goto (n := 183) hM (dtab_at okX10_group 97 rfl) (by decide) ?_
    refine WW.lvs [1, 2, 3, 4, 5, 6, 7, 0, 9] (lv2 := [(0, vr 10 0), (1, vi v1), (2, vi v2), (3, vi v3), (4, vi v4), (5, vi v5), (6, vi v6), (7, vi t0), (9, vi v9)]) rfl ?_
    exact wBX10_group_183 hM nF r k59 hk59 S v1 v2 v3 v4 v5 v6 t0 v9 (S.2 15 v10.toNatClampNeg) hf
def BX10_group_150 (nF : Nat) (k59 : PS → Int32 → Int32 → Int32 → Int32 → Int32 → Int32 → Int32 → Int32 → Int32 → Option (Int32 × PS)) (S : PS) (v1 : Int32) (v2 : Int32) (v3 : Int32) (v4 : Int32) (v5 : Int32) (v6 : Int32) (v8 : Int32) (v9 : Int32) (v10 : Int32) (v11 : Int32) : Option (Int32 × PS) := (BX10_group_157 nF k59 S v1 v2 v3 v4 v5 v6 v8 v9 v10 v11)
set_option maxHeartbeats 4000000 in
set_option maxRecDepth 100000 in
theorem wBX10_group_150 {cy : ClassId × ClassId} {ad : Nat → Nat} {D : va_G} {p : Program} {l : Launch} {e : Env} {s : State} {m : MethodId} {args : Array Value} {below : List Frame} {meth : Method} {c : Code} {A : Nat → Prop} (hM : MX cy GM ad D p s m args meth c cX10_group 12 RX10 (some .int) A) (nF : Nat) (r : Int32 × PS) (k59 : PS → Int32 → Int32 → Int32 → Int32 → Int32 → Int32 → Int32 → Int32 → Int32 → Option (Int32 × PS)) (hk59 : ∀ (S : PS) (v1 : Int32) (v2 : Int32) (v3 : Int32) (v4 : Int32) (v5 : Int32) (v6 : Int32) (v7 : Int32) (v8 : Int32) (v9 : Int32), k59 S v1 v2 v3 v4 v5 v6 v7 v8 v9 = some r → WW cy GM ad D p l e rmX10_group s m args below meth c 12 A (poi (fun x S' => (x, S') = r)) 59 [(0, vr 10 0), (1, vi v1), (2, vi v2), (3, vi v3), (4, vi v4), (5, vi v5), (6, vi v6), (7, vi v7), (8, vi v8), (9, vi v9)] [] S) (S : PS) (v1 : Int32) (v2 : Int32) (v3 : Int32) (v4 : Int32) (v5 : Int32) (v6 : Int32) (v8 : Int32) (v9 : Int32) (v10 : Int32) (v11 : Int32) (hf : BX10_group_150 nF k59 S v1 v2 v3 v4 v5 v6 v8 v9 v10 v11 = some r) : WW cy GM ad D p l e rmX10_group s m args below meth c 12 A (poi (fun x S' => (x, S') = r)) 150 [(0, vr 10 0), (1, vi v1), (2, vi v2), (3, vi v3), (4, vi v4), (5, vi v5), (6, vi v6), (8, vi v8), (9, vi v9), (10, vi v10), (11, vi v11)] [] S := by
  rw [BX10_group_150] at hf
  refine w_il (q := 10) (n := 152) hM (dtab_at okX10_group 83 rfl) rfl rfl ?_
  refine w_goto (n := 157) hM (dtab_at okX10_group 84 rfl) (by decide) ?_
  refine WW.lvs [0, 1, 2, 3, 4, 5, 6, 7, 8, 9] (lv2 := [(0, vr 10 0), (1, vi v1), (2, vi v2), (3, vi v3), (4, vi v4), (5, vi v5), (6, vi v6), (8, vi v8), (9, vi v9), (10, vi v10)]) rfl ?_
  exact wBX10_group_157 hM nF r k59 hk59 S v1 v2 v3 v4 v5 v6 v8 v9 v10 v11 hf
def BX10_group_136 (nF : Nat) (k59 : PS → Int32 → Int32 → Int32 → Int32 → Int32 → Int32 → Int32 → Int32 → Int32 → Option (Int32 × PS)) (S : PS) (v1 : Int32) (v2 : Int32) (v3 : Int32) (v4 : Int32) (v5 : Int32) (v7 : Int32) (v8 : Int32) (v9 : Int32) (v10 : Int32) (v11 : Int32) (t0 : Int32) : Option (Int32 × PS) := (if v5 = (0 : Int32) then (BX10_group_150 nF k59 S v1 v2 v3 v4 v5 t0 v8 v9 v10 v11) else (if v11 ≤ v7 then (BX10_group_157 nF k59 S v1 v2 v3 v4 v5 t0 v8 v9 v10 v7) else (BX10_group_150 nF k59 S v1 v2 v3 v4 v5 t0 v8 v9 v10 v11)))
set_option maxHeartbeats 4000000 in
set_option maxRecDepth 100000 in
theorem wBX10_group_136 {cy : ClassId × ClassId} {ad : Nat → Nat} {D : va_G} {p : Program} {l : Launch} {e : Env} {s : State} {m : MethodId} {args : Array Value} {below : List Frame} {meth : Method} {c : Code} {A : Nat → Prop} (hM : MX cy GM ad D p s m args meth c cX10_group 12 RX10 (some .int) A) (nF : Nat) (r : Int32 × PS) (k59 : PS → Int32 → Int32 → Int32 → Int32 → Int32 → Int32 → Int32 → Int32 → Int32 → Option (Int32 × PS)) (hk59 : ∀ (S : PS) (v1 : Int32) (v2 : Int32) (v3 : Int32) (v4 : Int32) (v5 : Int32) (v6 : Int32) (v7 : Int32) (v8 : Int32) (v9 : Int32), k59 S v1 v2 v3 v4 v5 v6 v7 v8 v9 = some r → WW cy GM ad D p l e rmX10_group s m args below meth c 12 A (poi (fun x S' => (x, S') = r)) 59 [(0, vr 10 0), (1, vi v1), (2, vi v2), (3, vi v3), (4, vi v4), (5, vi v5), (6, vi v6), (7, vi v7), (8, vi v8), (9, vi v9)] [] S) (S : PS) (v1 : Int32) (v2 : Int32) (v3 : Int32) (v4 : Int32) (v5 : Int32) (v7 : Int32) (v8 : Int32) (v9 : Int32) (v10 : Int32) (v11 : Int32) (t0 : Int32) (hf : BX10_group_136 nF k59 S v1 v2 v3 v4 v5 v7 v8 v9 v10 v11 t0 = some r) : WW cy GM ad D p l e rmX10_group s m args below meth c 12 A (poi (fun x S' => (x, S') = r)) 136 [(0, vr 10 0), (1, vi v1), (2, vi v2), (3, vi v3), (4, vi v4), (5, vi v5), (7, vi v7), (8, vi v8), (9, vi v9), (10, vi v10), (11, vi v11)] [vi t0] S := by
  rw [BX10_group_136] at hf
  refine w_is (n := 138) (lv' := [(6, vi t0), (0, vr 10 0), (1, vi v1), (2, vi v2), (3, vi v3), (4, vi v4), (5, vi v5), (7, vi v7), (8, vi v8), (9, vi v9), (10, vi v10), (11, vi v11)]) hM (dtab_at okX10_group 77 rfl) (by decide) rfl rfl ?_
  refine w_il (q := 6) (n := 140) hM (dtab_at okX10_group 78 rfl) rfl rfl ?_
  refine w_if_eq (n := 150) (n2 := 143) hM (dtab_at okX10_group 79 rfl) (by decide) rfl (fun (h140 : v5 = (0 : Int32)) => ?_) (fun (h140 : ¬ v5 = (0 : Int32)) => ?_)
  · skip
    rw [if_pos h140] at hf
    refine WW.lvs [1, 2, 3, 4, 5, 6, 0, 8, 9, 10, 11] (lv2 := [(0, vr 10 0), (1, vi v1), (2, vi v2), (3, vi v3), (4, vi v4), (5, vi v5), (6, vi t0), (8, vi v8), (9, vi v9), (10, vi v10), (11, vi v11)]) rfl ?_
    exact wBX10_group_150 hM nF r k59 hk59 S v1 v2 v3 v4 v5 t0 v8 v9 v10 v11 hf
  · skip
    rw [if_neg h140] at hf
    refine w_il (q := 11) (n := 145) hM (dtab_at okX10_group 80 rfl) rfl rfl ?_
    refine w_il (q := 7) (n := 147) hM (dtab_at okX10_group 81 rfl) rfl rfl ?_
    refine w_ic_le (n := 155) (n2 := 150) hM (dtab_at okX10_group 82 rfl) (by decide) rfl (fun (h147 : v11 ≤ v7) => ?_) (fun (h147 : ¬ v11 ≤ v7) => ?_)
    · skip
      rw [if_pos h147] at hf
      refine w_il (q := 7) (n := 157) hM (dtab_at okX10_group 85 rfl) rfl rfl ?_
      refine WW.lvs [1, 2, 3, 4, 5, 6, 0, 8, 9, 10] (lv2 := [(0, vr 10 0), (1, vi v1), (2, vi v2), (3, vi v3), (4, vi v4), (5, vi v5), (6, vi t0), (8, vi v8), (9, vi v9), (10, vi v10)]) rfl ?_
      exact wBX10_group_157 hM nF r k59 hk59 S v1 v2 v3 v4 v5 t0 v8 v9 v10 v7 hf
    · skip
      rw [if_neg h147] at hf
      refine WW.lvs [1, 2, 3, 4, 5, 6, 0, 8, 9, 10, 11] (lv2 := [(0, vr 10 0), (1, vi v1), (2, vi v2), (3, vi v3), (4, vi v4), (5, vi v5), (6, vi t0), (8, vi v8), (9, vi v9), (10, vi v10), (11, vi v11)]) rfl ?_
      exact wBX10_group_150 hM nF r k59 hk59 S v1 v2 v3 v4 v5 t0 v8 v9 v10 v11 hf
def BX10_group_124 (nF : Nat) (k59 : PS → Int32 → Int32 → Int32 → Int32 → Int32 → Int32 → Int32 → Int32 → Int32 → Option (Int32 × PS)) (S : PS) (v1 : Int32) (v2 : Int32) (v3 : Int32) (v4 : Int32) (v5 : Int32) (v7 : Int32) (v8 : Int32) (v9 : Int32) (v10 : Int32) (v11 : Int32) : Option (Int32 × PS) := (if v10 < 0 ∨ 80 ≤ v10.toNatClampNeg then none else (BX10_group_136 nF k59 S v1 v2 v3 v4 v5 v7 v8 v9 v10 v11 (S.2 13 v10.toNatClampNeg)))
set_option maxHeartbeats 4000000 in
set_option maxRecDepth 100000 in
theorem wBX10_group_124 {cy : ClassId × ClassId} {ad : Nat → Nat} {D : va_G} {p : Program} {l : Launch} {e : Env} {s : State} {m : MethodId} {args : Array Value} {below : List Frame} {meth : Method} {c : Code} {A : Nat → Prop} (hM : MX cy GM ad D p s m args meth c cX10_group 12 RX10 (some .int) A) (nF : Nat) (r : Int32 × PS) (k59 : PS → Int32 → Int32 → Int32 → Int32 → Int32 → Int32 → Int32 → Int32 → Int32 → Option (Int32 × PS)) (hk59 : ∀ (S : PS) (v1 : Int32) (v2 : Int32) (v3 : Int32) (v4 : Int32) (v5 : Int32) (v6 : Int32) (v7 : Int32) (v8 : Int32) (v9 : Int32), k59 S v1 v2 v3 v4 v5 v6 v7 v8 v9 = some r → WW cy GM ad D p l e rmX10_group s m args below meth c 12 A (poi (fun x S' => (x, S') = r)) 59 [(0, vr 10 0), (1, vi v1), (2, vi v2), (3, vi v3), (4, vi v4), (5, vi v5), (6, vi v6), (7, vi v7), (8, vi v8), (9, vi v9)] [] S) (S : PS) (v1 : Int32) (v2 : Int32) (v3 : Int32) (v4 : Int32) (v5 : Int32) (v7 : Int32) (v8 : Int32) (v9 : Int32) (v10 : Int32) (v11 : Int32) (hf : BX10_group_124 nF k59 S v1 v2 v3 v4 v5 v7 v8 v9 v10 v11 = some r) : WW cy GM ad D p l e rmX10_group s m args below meth c 12 A (poi (fun x S' => (x, S') = r)) 124 [(0, vr 10 0), (1, vi v1), (2, vi v2), (3, vi v3), (4, vi v4), (5, vi v5), (7, vi v7), (8, vi v8), (9, vi v9), (10, vi v10), (11, vi v11)] [] S := by
  rw [BX10_group_124] at hf
  refine w_aln (q := 0) (n := 125) hM (dtab_at okX10_group 71 rfl) rfl rfl ?_
  refine w_getr (C := RX10) (T := TX10) (i := 19) (k2 := 180) (q := 13) (n := 128) hM rfl (by decide) (fun _ => rfl) ly_X10 lkF_X10_54 (dtab_at okX10_group 72 rfl) rfl ?_
  refine w_il (q := 9) (n := 130) hM (dtab_at okX10_group 73 rfl) rfl rfl ?_
  by_cases hg130 : v10 < 0 ∨ 80 ≤ v10.toNatClampNeg
  · rw [if_pos hg130] at hf; cases hf
  rw [if_neg hg130] at hf
  refine w_ald (nn := 80) (n := 131) hM rfl hg130 (dtab_at okX10_group 74 rfl) rfl ?_
  refine w_goto (n := 136) hM (dtab_at okX10_group 75 rfl) (by decide) ?_
  exact wBX10_group_136 hM nF r k59 hk59 S v1 v2 v3 v4 v5 v7 v8 v9 v10 v11 (S.2 13 v10.toNatClampNeg) hf
def LX10_group_59 (nF : Nat) : Nat → PS → Int32 → Int32 → Int32 → Int32 → Int32 → Int32 → Int32 → Int32 → Int32 → Option (Int32 × PS)
  | 0, _, _, _, _, _, _, _, _, _, _ => none
  | n + 1, S, v1, v2, v3, v4, v5, v6, v7, v8, v9 => (if v1 < 0 ∨ 2 ≤ v1.toNatClampNeg then none else (if (S.2 12 v1.toNatClampNeg) ≤ v9 then (BX10_group_208 nF S v3 v4 v5 v6 v7 v8) else (if v9 < 0 ∨ 40 ≤ v9.toNatClampNeg then none else (if (S.2 17 v9.toNatClampNeg) = v2 then (if (((40 : Int32) * v1) + v9) < 0 ∨ 80 ≤ (((40 : Int32) * v1) + v9).toNatClampNeg then none else (if v5 = (0 : Int32) then (BX10_group_124 nF (LX10_group_59 nF n) S v1 v2 v3 v4 v5 v7 v8 v9 (((40 : Int32) * v1) + v9) ((S.2 13 (((40 : Int32) * v1) + v9).toNatClampNeg) + (S.2 16 (((40 : Int32) * v1) + v9).toNatClampNeg))) else (if v6 ≤ (S.2 13 (((40 : Int32) * v1) + v9).toNatClampNeg) then (BX10_group_136 nF (LX10_group_59 nF n) S v1 v2 v3 v4 v5 v7 v8 v9 (((40 : Int32) * v1) + v9) ((S.2 13 (((40 : Int32) * v1) + v9).toNatClampNeg) + (S.2 16 (((40 : Int32) * v1) + v9).toNatClampNeg)) v6) else (BX10_group_124 nF (LX10_group_59 nF n) S v1 v2 v3 v4 v5 v7 v8 v9 (((40 : Int32) * v1) + v9) ((S.2 13 (((40 : Int32) * v1) + v9).toNatClampNeg) + (S.2 16 (((40 : Int32) * v1) + v9).toNatClampNeg)))))) else (LX10_group_59 nF n S v1 v2 v3 v4 v5 v6 v7 v8 (v9 + (1 : Int32)))))))
set_option maxHeartbeats 4000000 in
set_option maxRecDepth 100000 in
theorem wLX10_group_59 {cy : ClassId × ClassId} {ad : Nat → Nat} {D : va_G} {p : Program} {l : Launch} {e : Env} {s : State} {m : MethodId} {args : Array Value} {below : List Frame} {meth : Method} {c : Code} {A : Nat → Prop} (hM : MX cy GM ad D p s m args meth c cX10_group 12 RX10 (some .int) A) (nF : Nat) (r : Int32 × PS) : ∀ (n : Nat) (S : PS) (v1 : Int32) (v2 : Int32) (v3 : Int32) (v4 : Int32) (v5 : Int32) (v6 : Int32) (v7 : Int32) (v8 : Int32) (v9 : Int32), LX10_group_59 nF n S v1 v2 v3 v4 v5 v6 v7 v8 v9 = some r → WW cy GM ad D p l e rmX10_group s m args below meth c 12 A (poi (fun x S' => (x, S') = r)) 59 [(0, vr 10 0), (1, vi v1), (2, vi v2), (3, vi v3), (4, vi v4), (5, vi v5), (6, vi v6), (7, vi v7), (8, vi v8), (9, vi v9)] [] S := by
  intro n
  induction n with
  | zero => intro S v1 v2 v3 v4 v5 v6 v7 v8 v9 hf; rw [LX10_group_59] at hf; cases hf
  | succ n ih =>
    intro S v1 v2 v3 v4 v5 v6 v7 v8 v9 hf
    rw [LX10_group_59] at hf
    refine w_il (q := 9) (n := 61) hM (dtab_at okX10_group 35 rfl) rfl rfl ?_
    refine w_aln (q := 0) (n := 62) hM (dtab_at okX10_group 36 rfl) rfl rfl ?_
    refine w_getr (C := RX10) (T := TX10) (i := 18) (k2 := 102) (q := 12) (n := 65) hM rfl (by decide) (fun _ => rfl) ly_X10 lkF_X10_51 (dtab_at okX10_group 37 rfl) rfl ?_
    refine w_iln (q := 1) (n := 66) hM (dtab_at okX10_group 38 rfl) rfl rfl ?_
    by_cases hg66 : v1 < 0 ∨ 2 ≤ v1.toNatClampNeg
    · rw [if_pos hg66] at hf; cases hf
    rw [if_neg hg66] at hf
    refine w_ald (nn := 2) (n := 67) hM rfl hg66 (dtab_at okX10_group 39 rfl) rfl ?_
    refine w_ic_ge (n := 208) (n2 := 70) hM (dtab_at okX10_group 40 rfl) (by decide) rfl (fun (h67 : (S.2 12 v1.toNatClampNeg) ≤ v9) => ?_) (fun (h67 : ¬ (S.2 12 v1.toNatClampNeg) ≤ v9) => ?_)
    · skip
      rw [if_pos h67] at hf
      refine WW.lvs [3, 4, 5, 6, 7, 8] (lv2 := [(3, vi v3), (4, vi v4), (5, vi v5), (6, vi v6), (7, vi v7), (8, vi v8)]) rfl ?_
      exact wBX10_group_208 hM nF r S v3 v4 v5 v6 v7 v8 hf
    · skip
      rw [if_neg h67] at hf
      refine w_aln (q := 0) (n := 71) hM (dtab_at okX10_group 41 rfl) rfl rfl ?_
      refine w_getr (C := RX10) (T := TX10) (i := 25) (k2 := 140) (q := 17) (n := 74) hM rfl (by decide) (fun _ => rfl) ly_X10 lkF_X10_72 (dtab_at okX10_group 42 rfl) rfl ?_
      refine w_il (q := 9) (n := 76) hM (dtab_at okX10_group 43 rfl) rfl rfl ?_
      by_cases hg76 : v9 < 0 ∨ 40 ≤ v9.toNatClampNeg
      · rw [if_pos hg76] at hf; cases hf
      rw [if_neg hg76] at hf
      refine w_ald (nn := 40) (n := 77) hM rfl hg76 (dtab_at okX10_group 44 rfl) rfl ?_
      refine w_iln (q := 2) (n := 78) hM (dtab_at okX10_group 45 rfl) rfl rfl ?_
      refine w_ic_ne (n := 202) (n2 := 81) hM (dtab_at okX10_group 46 rfl) (by decide) rfl (fun (h78 : ¬ (S.2 17 v9.toNatClampNeg) = v2) => ?_) (fun (h78 : (S.2 17 v9.toNatClampNeg) = v2) => ?_)
      · skip
        rw [if_neg h78] at hf
        refine w_iinc (q := 9) (n := 205) (v := (v9 + (1 : Int32))) (lv' := [(9, vi (v9 + (1 : Int32))), (0, vr 10 0), (1, vi v1), (2, vi v2), (3, vi v3), (4, vi v4), (5, vi v5), (6, vi v6), (7, vi v7), (8, vi v8)]) hM (dtab_at okX10_group 107 rfl) rfl rfl (by decide) rfl rfl ?_
        refine w_goto (n := 59) hM (dtab_at okX10_group 108 rfl) (by decide) ?_
        refine WW.lvs [1, 2, 3, 4, 5, 6, 7, 8, 9, 0] (lv2 := [(0, vr 10 0), (1, vi v1), (2, vi v2), (3, vi v3), (4, vi v4), (5, vi v5), (6, vi v6), (7, vi v7), (8, vi v8), (9, vi (v9 + (1 : Int32)))]) rfl ?_
        exact ih S v1 v2 v3 v4 v5 v6 v7 v8 (v9 + (1 : Int32)) hf
      · skip
        rw [if_pos h78] at hf
        refine w_bi (n := 83) hM (40 : Int32) (dtab_at okX10_group 47 rfl) (by decide) rfl ?_
        refine w_iln (q := 1) (n := 84) hM (dtab_at okX10_group 48 rfl) rfl rfl ?_
        refine w_imul (n := 85) hM (dtab_at okX10_group 49 rfl) rfl ?_
        refine w_il (q := 9) (n := 87) hM (dtab_at okX10_group 50 rfl) rfl rfl ?_
        refine w_iadd (n := 88) hM (dtab_at okX10_group 51 rfl) rfl ?_
        refine w_is (n := 90) (lv' := [(10, vi (((40 : Int32) * v1) + v9)), (0, vr 10 0), (1, vi v1), (2, vi v2), (3, vi v3), (4, vi v4), (5, vi v5), (6, vi v6), (7, vi v7), (8, vi v8), (9, vi v9)]) hM (dtab_at okX10_group 52 rfl) (by decide) rfl rfl ?_
        refine w_aln (q := 1) (n := 91) hM (dtab_at okX10_group 53 rfl) rfl rfl ?_
        refine w_getr (C := RX10) (T := TX10) (i := 19) (k2 := 180) (q := 13) (n := 94) hM rfl (by decide) (fun _ => rfl) ly_X10 lkF_X10_54 (dtab_at okX10_group 54 rfl) rfl ?_
        refine w_il (q := 0) (n := 96) hM (dtab_at okX10_group 55 rfl) rfl rfl ?_
        by_cases hg96 : (((40 : Int32) * v1) + v9) < 0 ∨ 80 ≤ (((40 : Int32) * v1) + v9).toNatClampNeg
        · rw [if_pos hg96] at hf; cases hf
        rw [if_neg hg96] at hf
        refine w_ald (nn := 80) (n := 97) hM rfl hg96 (dtab_at okX10_group 56 rfl) rfl ?_
        refine w_aln (q := 1) (n := 98) hM (dtab_at okX10_group 57 rfl) rfl rfl ?_
        refine w_getr (C := RX10) (T := TX10) (i := 22) (k2 := 180) (q := 16) (n := 101) hM rfl (by decide) (fun _ => rfl) ly_X10 lkF_X10_63 (dtab_at okX10_group 58 rfl) rfl ?_
        refine w_il (q := 0) (n := 103) hM (dtab_at okX10_group 59 rfl) rfl rfl ?_
        refine w_ald (nn := 80) (n := 104) hM rfl hg96 (dtab_at okX10_group 60 rfl) rfl ?_
        refine w_iadd (n := 105) hM (dtab_at okX10_group 61 rfl) rfl ?_
        refine w_is (n := 107) (lv' := [(11, vi ((S.2 13 (((40 : Int32) * v1) + v9).toNatClampNeg) + (S.2 16 (((40 : Int32) * v1) + v9).toNatClampNeg))), (10, vi (((40 : Int32) * v1) + v9)), (0, vr 10 0), (1, vi v1), (2, vi v2), (3, vi v3), (4, vi v4), (5, vi v5), (6, vi v6), (7, vi v7), (8, vi v8), (9, vi v9)]) hM (dtab_at okX10_group 62 rfl) (by decide) rfl rfl ?_
        refine w_il (q := 7) (n := 109) hM (dtab_at okX10_group 63 rfl) rfl rfl ?_
        refine w_if_eq (n := 124) (n2 := 112) hM (dtab_at okX10_group 64 rfl) (by decide) rfl (fun (h109 : v5 = (0 : Int32)) => ?_) (fun (h109 : ¬ v5 = (0 : Int32)) => ?_)
        · skip
          rw [if_pos h109] at hf
          refine WW.lvs [2, 3, 4, 5, 6, 7, 9, 10, 11, 1, 0] (lv2 := [(0, vr 10 0), (1, vi v1), (2, vi v2), (3, vi v3), (4, vi v4), (5, vi v5), (7, vi v7), (8, vi v8), (9, vi v9), (10, vi (((40 : Int32) * v1) + v9)), (11, vi ((S.2 13 (((40 : Int32) * v1) + v9).toNatClampNeg) + (S.2 16 (((40 : Int32) * v1) + v9).toNatClampNeg)))]) rfl ?_
          exact wBX10_group_124 hM nF r (LX10_group_59 nF n) ih S v1 v2 v3 v4 v5 v7 v8 v9 (((40 : Int32) * v1) + v9) ((S.2 13 (((40 : Int32) * v1) + v9).toNatClampNeg) + (S.2 16 (((40 : Int32) * v1) + v9).toNatClampNeg)) hf
        · skip
          rw [if_neg h109] at hf
          refine w_aln (q := 2) (n := 113) hM (dtab_at okX10_group 65 rfl) rfl rfl ?_
          refine w_getr (C := RX10) (T := TX10) (i := 19) (k2 := 180) (q := 13) (n := 116) hM rfl (by decide) (fun _ => rfl) ly_X10 lkF_X10_54 (dtab_at okX10_group 66 rfl) rfl ?_
          refine w_il (q := 1) (n := 118) hM (dtab_at okX10_group 67 rfl) rfl rfl ?_
          refine w_ald (nn := 80) (n := 119) hM rfl hg96 (dtab_at okX10_group 68 rfl) rfl ?_
          refine w_il (q := 8) (n := 121) hM (dtab_at okX10_group 69 rfl) rfl rfl ?_
          refine w_ic_ge (n := 134) (n2 := 124) hM (dtab_at okX10_group 70 rfl) (by decide) rfl (fun (h121 : v6 ≤ (S.2 13 (((40 : Int32) * v1) + v9).toNatClampNeg)) => ?_) (fun (h121 : ¬ v6 ≤ (S.2 13 (((40 : Int32) * v1) + v9).toNatClampNeg)) => ?_)
          · skip
            rw [if_pos h121] at hf
            refine w_il (q := 8) (n := 136) hM (dtab_at okX10_group 76 rfl) rfl rfl ?_
            refine WW.lvs [2, 3, 4, 5, 6, 7, 9, 10, 11, 1, 0] (lv2 := [(0, vr 10 0), (1, vi v1), (2, vi v2), (3, vi v3), (4, vi v4), (5, vi v5), (7, vi v7), (8, vi v8), (9, vi v9), (10, vi (((40 : Int32) * v1) + v9)), (11, vi ((S.2 13 (((40 : Int32) * v1) + v9).toNatClampNeg) + (S.2 16 (((40 : Int32) * v1) + v9).toNatClampNeg)))]) rfl ?_
            exact wBX10_group_136 hM nF r (LX10_group_59 nF n) ih S v1 v2 v3 v4 v5 v7 v8 v9 (((40 : Int32) * v1) + v9) ((S.2 13 (((40 : Int32) * v1) + v9).toNatClampNeg) + (S.2 16 (((40 : Int32) * v1) + v9).toNatClampNeg)) v6 hf
          · skip
            rw [if_neg h121] at hf
            refine WW.lvs [2, 3, 4, 5, 6, 7, 9, 10, 11, 1, 0] (lv2 := [(0, vr 10 0), (1, vi v1), (2, vi v2), (3, vi v3), (4, vi v4), (5, vi v5), (7, vi v7), (8, vi v8), (9, vi v9), (10, vi (((40 : Int32) * v1) + v9)), (11, vi ((S.2 13 (((40 : Int32) * v1) + v9).toNatClampNeg) + (S.2 16 (((40 : Int32) * v1) + v9).toNatClampNeg)))]) rfl ?_
            exact wBX10_group_124 hM nF r (LX10_group_59 nF n) ih S v1 v2 v3 v4 v5 v7 v8 v9 (((40 : Int32) * v1) + v9) ((S.2 13 (((40 : Int32) * v1) + v9).toNatClampNeg) + (S.2 16 (((40 : Int32) * v1) + v9).toNatClampNeg)) hf
def fX10_group (nF : Nat) (S : PS) (a1 : Int32) (a2 : Int32) (a3 : Int32) : Option (Int32 × PS) := (if (fX10_isRun S a1) = (0 : Int32) then (some ((-2 : Int32), S)) else (if (fX10_in S a3 (0 : Int32) (4 : Int32)) = (0 : Int32) then (some ((-2 : Int32), S)) else ((fX10_joinMarks nF S a1).bind fun r2 => (if (fX10_in r2 a2 (0 : Int32) ((r2.1 0 26) - (1 : Int32))) = (0 : Int32) then (some ((-2 : Int32), r2)) else (LX10_group_59 nF nF r2 a1 a2 a3 (-1 : Int32) (0 : Int32) (0 : Int32) (0 : Int32) (0 : Int32) (0 : Int32))))))
set_option maxHeartbeats 4000000 in
set_option maxRecDepth 100000 in
theorem c_X10_group {cy : ClassId × ClassId} {ad : Nat → Nat} {D : va_G} {l : Launch} (nF : Nat) (S : PS) (a1 : Int32) (a2 : Int32) (a3 : Int32) (r : Int32 × PS) (hf : fX10_group nF S a1 a2 a3 = some r) : PMi cy GM ad D l yX10_group (wA yX10_group cX10_group 12 (some .int)) rmX10_group [vr 10 0, vi a1, vi a2, vi a3] S (fun x S' => (x, S') = r) := by
  refine PM.of (lv := [(0, vr 10 0), (1, vi a1), (2, vi a2), (3, vi a3)]) GM_ok (by decide) (Nat.le_of_ble_eq_true rfl) rfl (by simp) ?_
  intro p e s m args below meth c A hM
  rw [fX10_group] at hf
  refine w_iln (q := 1) (n := 1) hM (dtab_at okX10_group 0 rfl) rfl rfl ?_
  refine w_callSi (n := 4) (As := [vi a1]) (rest := []) hM (c_X10_isRun S a1) lkM_X10_153 ms_X10_isRun (by decide) rfl (Nat.le_of_ble_eq_true rfl) rfl (dtab_at okX10_group 1 rfl) rfl (fun x0 S0 hp0 => ?_)
  obtain ⟨hx_, hs_⟩ := hp0
  have hs_ := hs_.symm
  subst hs_
  subst hx_
  refine w_if_eq (n := 16) (n2 := 7) hM (dtab_at okX10_group 2 rfl) (by decide) rfl (fun (h4 : (fX10_isRun S a1) = (0 : Int32)) => ?_) (fun (h4 : ¬ (fX10_isRun S a1) = (0 : Int32)) => ?_)
  · skip
    rw [if_pos h4] at hf
    refine w_bi (n := 18) hM (-2 : Int32) (dtab_at okX10_group 8 rfl) (by decide) rfl ?_
    exact r_i hM (dtab_at okX10_group 9 rfl) (Option.some.inj hf)
  · skip
    rw [if_neg h4] at hf
    refine w_iln (q := 3) (n := 8) hM (dtab_at okX10_group 3 rfl) rfl rfl ?_
    refine w_ic (n := 9) hM (0 : Int32) (dtab_at okX10_group 4 rfl) (by decide) rfl ?_
    refine w_ic (n := 10) hM (4 : Int32) (dtab_at okX10_group 5 rfl) (by decide) rfl ?_
    refine w_callSi (n := 13) (As := [vi a3, vi (0 : Int32), vi (4 : Int32)]) (rest := []) hM (c_X10_in S a3 (0 : Int32) (4 : Int32)) lkM_X10_120 ms_X10_in (by decide) rfl (Nat.le_of_ble_eq_true rfl) rfl (dtab_at okX10_group 6 rfl) rfl (fun x1 S1 hp1 => ?_)
    obtain ⟨hx_, hs_⟩ := hp1
    have hs_ := hs_.symm
    subst hs_
    subst hx_
    refine w_if_ne (n := 19) (n2 := 16) hM (dtab_at okX10_group 7 rfl) (by decide) rfl (fun (h13 : ¬ (fX10_in S a3 (0 : Int32) (4 : Int32)) = (0 : Int32)) => ?_) (fun (h13 : (fX10_in S a3 (0 : Int32) (4 : Int32)) = (0 : Int32)) => ?_)
    · skip
      rw [if_neg h13] at hf
      refine w_aln (q := 0) (n := 20) hM (dtab_at okX10_group 10 rfl) rfl rfl ?_
      refine w_iln (q := 1) (n := 21) hM (dtab_at okX10_group 11 rfl) rfl rfl ?_
      obtain ⟨r2, hr2, hf⟩ := Option.bind_eq_some_iff.mp hf
      refine w_callVv (n := 24) (As := [vi a1]) (rest := []) (k := 10) (j := 0) (C := RX10) (T := TX10) (N := 43) hM (c_X10_joinMarks nF S a1 r2 hr2) lkM_X10_192 mv_X10_joinMarks (by decide) rfl (by decide) rfl (Nat.le_of_ble_eq_true rfl) rfl (dtab_at okX10_group 12 rfl) rfl (fun S2 hp2 => ?_)
      have hs_ := hp2.symm
      subst hs_
      refine w_iln (q := 2) (n := 25) hM (dtab_at okX10_group 13 rfl) rfl rfl ?_
      refine w_ic (n := 26) hM (0 : Int32) (dtab_at okX10_group 14 rfl) (by decide) rfl ?_
      refine w_aln (q := 0) (n := 27) hM (dtab_at okX10_group 15 rfl) rfl rfl ?_
      refine w_geti (C := RX10) (T := TX10) (i := 26) (n := 30) hM rfl (by decide) ly_X10 lkF_X10_179 (dtab_at okX10_group 16 rfl) rfl ?_
      refine w_ic (n := 31) hM (1 : Int32) (dtab_at okX10_group 17 rfl) (by decide) rfl ?_
      refine w_isub (n := 32) hM (dtab_at okX10_group 18 rfl) rfl ?_
      refine w_callSi (n := 35) (As := [vi a2, vi (0 : Int32), vi ((r2.1 0 26) - (1 : Int32))]) (rest := []) hM (c_X10_in r2 a2 (0 : Int32) ((r2.1 0 26) - (1 : Int32))) lkM_X10_120 ms_X10_in (by decide) rfl (Nat.le_of_ble_eq_true rfl) rfl (dtab_at okX10_group 19 rfl) rfl (fun x3 S3 hp3 => ?_)
      obtain ⟨hx_, hs_⟩ := hp3
      have hs_ := hs_.symm
      subst hs_
      subst hx_
      refine w_if_ne (n := 41) (n2 := 38) hM (dtab_at okX10_group 20 rfl) (by decide) rfl (fun (h35 : ¬ (fX10_in r2 a2 (0 : Int32) ((r2.1 0 26) - (1 : Int32))) = (0 : Int32)) => ?_) (fun (h35 : (fX10_in r2 a2 (0 : Int32) ((r2.1 0 26) - (1 : Int32))) = (0 : Int32)) => ?_)
      · skip
        rw [if_neg h35] at hf
        refine w_ic (n := 42) hM (-1 : Int32) (dtab_at okX10_group 23 rfl) (by decide) rfl ?_
        refine w_is (n := 44) (lv' := [(4, vi (-1 : Int32)), (0, vr 10 0), (1, vi a1), (2, vi a2), (3, vi a3)]) hM (dtab_at okX10_group 24 rfl) (by decide) rfl rfl ?_
        refine w_ic (n := 45) hM (0 : Int32) (dtab_at okX10_group 25 rfl) (by decide) rfl ?_
        refine w_is (n := 47) (lv' := [(5, vi (0 : Int32)), (4, vi (-1 : Int32)), (0, vr 10 0), (1, vi a1), (2, vi a2), (3, vi a3)]) hM (dtab_at okX10_group 26 rfl) (by decide) rfl rfl ?_
        refine w_ic (n := 48) hM (0 : Int32) (dtab_at okX10_group 27 rfl) (by decide) rfl ?_
        refine w_is (n := 50) (lv' := [(6, vi (0 : Int32)), (5, vi (0 : Int32)), (4, vi (-1 : Int32)), (0, vr 10 0), (1, vi a1), (2, vi a2), (3, vi a3)]) hM (dtab_at okX10_group 28 rfl) (by decide) rfl rfl ?_
        refine w_ic (n := 51) hM (0 : Int32) (dtab_at okX10_group 29 rfl) (by decide) rfl ?_
        refine w_is (n := 53) (lv' := [(7, vi (0 : Int32)), (6, vi (0 : Int32)), (5, vi (0 : Int32)), (4, vi (-1 : Int32)), (0, vr 10 0), (1, vi a1), (2, vi a2), (3, vi a3)]) hM (dtab_at okX10_group 30 rfl) (by decide) rfl rfl ?_
        refine w_ic (n := 54) hM (0 : Int32) (dtab_at okX10_group 31 rfl) (by decide) rfl ?_
        refine w_is (n := 56) (lv' := [(8, vi (0 : Int32)), (7, vi (0 : Int32)), (6, vi (0 : Int32)), (5, vi (0 : Int32)), (4, vi (-1 : Int32)), (0, vr 10 0), (1, vi a1), (2, vi a2), (3, vi a3)]) hM (dtab_at okX10_group 32 rfl) (by decide) rfl rfl ?_
        refine w_ic (n := 57) hM (0 : Int32) (dtab_at okX10_group 33 rfl) (by decide) rfl ?_
        refine w_is (n := 59) (lv' := [(9, vi (0 : Int32)), (8, vi (0 : Int32)), (7, vi (0 : Int32)), (6, vi (0 : Int32)), (5, vi (0 : Int32)), (4, vi (-1 : Int32)), (0, vr 10 0), (1, vi a1), (2, vi a2), (3, vi a3)]) hM (dtab_at okX10_group 34 rfl) (by decide) rfl rfl ?_
        refine WW.lvs [6, 7, 8, 9, 5, 4, 3, 2, 1, 0] (lv2 := [(0, vr 10 0), (1, vi a1), (2, vi a2), (3, vi a3), (4, vi (-1 : Int32)), (5, vi (0 : Int32)), (6, vi (0 : Int32)), (7, vi (0 : Int32)), (8, vi (0 : Int32)), (9, vi (0 : Int32))]) rfl ?_
        exact wLX10_group_59 hM nF r nF r2 a1 a2 a3 (-1 : Int32) (0 : Int32) (0 : Int32) (0 : Int32) (0 : Int32) (0 : Int32) hf
      · skip
        rw [if_pos h35] at hf
        refine w_bi (n := 40) hM (-2 : Int32) (dtab_at okX10_group 21 rfl) (by decide) rfl ?_
        exact r_i hM (dtab_at okX10_group 22 rfl) (Option.some.inj hf)
    · skip
      rw [if_pos h13] at hf
      refine w_bi (n := 18) hM (-2 : Int32) (dtab_at okX10_group 8 rfl) (by decide) rfl ?_
      exact r_i hM (dtab_at okX10_group 9 rfl) (Option.some.inj hf)
def fX10_alone (S : PS) (a1 : Int32) : Int32 × PS := if (fX10_in S a1 (0 : Int32) (100000 : Int32)) = (0 : Int32) then ((-2 : Int32), S) else ((S.1 0 27), (sti S 0 27 a1))
set_option maxHeartbeats 4000000 in
set_option maxRecDepth 100000 in
theorem c_X10_alone {cy : ClassId × ClassId} {ad : Nat → Nat} {D : va_G} {l : Launch} (S : PS) (a1 : Int32)  : PMi cy GM ad D l yX10_alone (wA yX10_alone cX10_alone 3 (some .int)) rmX10_alone [vr 10 0, vi a1] S (fun x S' => (x, S') = (fX10_alone S a1)) := by
  refine PM.of (lv := [(0, vr 10 0), (1, vi a1)]) GM_ok (by decide) (Nat.le_of_ble_eq_true rfl) rfl (by simp) ?_
  intro p e s m args below meth c A hM
  refine w_iln (q := 1) (n := 1) hM (dtab_at okX10_alone 0 rfl) rfl rfl ?_
  refine w_ic (n := 2) hM (0 : Int32) (dtab_at okX10_alone 1 rfl) (by decide) rfl ?_
  refine w_ldc (n := 4) (v := (100000 : Int32)) hM (dtab_at okX10_alone 2 rfl) lkC_X10_160 rfl ?_
  refine w_callSi (n := 7) (As := [vi a1, vi (0 : Int32), vi (100000 : Int32)]) (rest := []) hM (c_X10_in S a1 (0 : Int32) (100000 : Int32)) lkM_X10_120 ms_X10_in (by decide) rfl (Nat.le_of_ble_eq_true rfl) rfl (dtab_at okX10_alone 3 rfl) rfl (fun x0 S0 hp0 => ?_)
  obtain ⟨hx_, hs_⟩ := hp0
  have hs_ := hs_.symm
  subst hs_
  subst hx_
  refine w_if_ne (n := 13) (n2 := 10) hM (dtab_at okX10_alone 4 rfl) (by decide) rfl (fun (h7 : ¬ (fX10_in S a1 (0 : Int32) (100000 : Int32)) = (0 : Int32)) => ?_) (fun (h7 : (fX10_in S a1 (0 : Int32) (100000 : Int32)) = (0 : Int32)) => ?_)
  · skip
    refine w_aln (q := 0) (n := 14) hM (dtab_at okX10_alone 7 rfl) rfl rfl ?_
    refine w_geti (C := RX10) (T := TX10) (i := 27) (n := 17) hM rfl (by decide) ly_X10 lkF_X10_75 (dtab_at okX10_alone 8 rfl) rfl ?_
    refine w_isn (n := 18) (lv' := [(2, vi (S.1 0 27)), (0, vr 10 0), (1, vi a1)]) hM (dtab_at okX10_alone 9 rfl) (by decide) rfl rfl ?_
    refine w_aln (q := 1) (n := 19) hM (dtab_at okX10_alone 10 rfl) rfl rfl ?_
    refine w_iln (q := 2) (n := 20) hM (dtab_at okX10_alone 11 rfl) rfl rfl ?_
    refine w_put (C := RX10) (T := TX10) (i := 27) (ty := .int) (n := 23) hM rfl (by decide) ly_X10 tyX10_ok nmX10 lkF_X10_75 rfl (by decide +kernel) rfl rfl (dtab_at okX10_alone 12 rfl) rfl ?_
    refine w_iln (q := 0) (n := 24) hM (dtab_at okX10_alone 13 rfl) rfl rfl ?_
    exact r_i hM (dtab_at okX10_alone 14 rfl) (by rw [fX10_alone, if_neg h7])
  · skip
    refine w_bi (n := 12) hM (-2 : Int32) (dtab_at okX10_alone 5 rfl) (by decide) rfl ?_
    exact r_i hM (dtab_at okX10_alone 6 rfl) (by rw [fX10_alone, if_pos h7])
def BX10_gather_136 (nF : Nat) (k2 : PS → Int32 → Int32 → Option (PS)) (S : PS) (v1 : Int32) (v2 : Int32) : Option (PS) := (k2 S v1 (v2 + (1 : Int32)))
set_option maxHeartbeats 4000000 in
set_option maxRecDepth 100000 in
theorem wBX10_gather_136 {cy : ClassId × ClassId} {ad : Nat → Nat} {D : va_G} {p : Program} {l : Launch} {e : Env} {s : State} {m : MethodId} {args : Array Value} {below : List Frame} {meth : Method} {c : Code} {A : Nat → Prop} (hM : MX cy GM ad D p s m args meth c cX10_gather 6 RX10 none A) (nF : Nat) (r : PS) (k2 : PS → Int32 → Int32 → Option (PS)) (hk2 : ∀ (S : PS) (v1 : Int32) (v2 : Int32), k2 S v1 v2 = some r → WW cy GM ad D p l e rmX10_gather s m args below meth c 6 A (pov (fun S' => S' = r)) 2 [(0, vr 10 0), (1, vi v1), (2, vi v2)] [] S) (S : PS) (v1 : Int32) (v2 : Int32) (hf : BX10_gather_136 nF k2 S v1 v2 = some r) : WW cy GM ad D p l e rmX10_gather s m args below meth c 6 A (pov (fun S' => S' = r)) 136 [(0, vr 10 0), (1, vi v1), (2, vi v2)] [] S := by
  rw [BX10_gather_136] at hf
  refine w_iinc (q := 2) (n := 139) (v := (v2 + (1 : Int32))) (lv' := [(2, vi (v2 + (1 : Int32))), (0, vr 10 0), (1, vi v1)]) hM (dtab_at okX10_gather 88 rfl) rfl rfl (by decide) rfl rfl ?_
  refine w_goto (n := 2) hM (dtab_at okX10_gather 89 rfl) (by decide) ?_
  refine WW.lvs [1, 2, 0] (lv2 := [(0, vr 10 0), (1, vi v1), (2, vi (v2 + (1 : Int32)))]) rfl ?_
  exact hk2 S v1 (v2 + (1 : Int32)) hf
def LX10_gather_29 (nF : Nat) (k2 : PS → Int32 → Int32 → Option (PS)) : Nat → PS → Int32 → Int32 → Int32 → Int32 → Option (PS)
  | 0, _, _, _, _, _ => none
  | n + 1, S, v1, v2, v3, v4 => (if v2 < 0 ∨ 2 ≤ v2.toNatClampNeg then none else (if (S.2 12 v2.toNatClampNeg) ≤ v4 then (BX10_gather_136 nF k2 S v1 v2) else (if v3 = (-1 : Int32) then (BX10_gather_136 nF k2 S v1 v2) else (if (((40 : Int32) * v2) + v4) < 0 ∨ 80 ≤ (((40 : Int32) * v2) + v4).toNatClampNeg then none else ((fX10_jointAt nF S (S.2 13 (((40 : Int32) * v2) + v4).toNatClampNeg)).bind fun r0 => (if r0 = v3 then (if (5 : Int32) ≤ (S.2 18 v2.toNatClampNeg) then (LX10_gather_29 nF k2 n S v1 v2 v3 (v4 + (1 : Int32))) else (if (((5 : Int32) * v2) + (S.2 18 v2.toNatClampNeg)) < 0 ∨ 10 ≤ (((5 : Int32) * v2) + (S.2 18 v2.toNatClampNeg)).toNatClampNeg then none else (if v3 < 0 ∨ 60 ≤ v3.toNatClampNeg then none else (LX10_gather_29 nF k2 n (sta (sta (sta S 19 (((5 : Int32) * v2) + (S.2 18 v2.toNatClampNeg)).toNatClampNeg v4) 20 (((5 : Int32) * v2) + (S.2 18 v2.toNatClampNeg)).toNatClampNeg ((S.2 13 (((40 : Int32) * v2) + v4).toNatClampNeg) - (S.2 7 v3.toNatClampNeg))) 18 v2.toNatClampNeg ((S.2 18 v2.toNatClampNeg) + (1 : Int32))) v1 v2 v3 (v4 + (1 : Int32)))))) else (LX10_gather_29 nF k2 n S v1 v2 v3 (v4 + (1 : Int32)))))))))
set_option maxHeartbeats 4000000 in
set_option maxRecDepth 100000 in
theorem wLX10_gather_29 {cy : ClassId × ClassId} {ad : Nat → Nat} {D : va_G} {p : Program} {l : Launch} {e : Env} {s : State} {m : MethodId} {args : Array Value} {below : List Frame} {meth : Method} {c : Code} {A : Nat → Prop} (hM : MX cy GM ad D p s m args meth c cX10_gather 6 RX10 none A) (nF : Nat) (r : PS) (k2 : PS → Int32 → Int32 → Option (PS)) (hk2 : ∀ (S : PS) (v1 : Int32) (v2 : Int32), k2 S v1 v2 = some r → WW cy GM ad D p l e rmX10_gather s m args below meth c 6 A (pov (fun S' => S' = r)) 2 [(0, vr 10 0), (1, vi v1), (2, vi v2)] [] S) : ∀ (n : Nat) (S : PS) (v1 : Int32) (v2 : Int32) (v3 : Int32) (v4 : Int32), LX10_gather_29 nF k2 n S v1 v2 v3 v4 = some r → WW cy GM ad D p l e rmX10_gather s m args below meth c 6 A (pov (fun S' => S' = r)) 29 [(0, vr 10 0), (1, vi v1), (2, vi v2), (3, vi v3), (4, vi v4)] [] S := by
  intro n
  induction n with
  | zero => intro S v1 v2 v3 v4 hf; rw [LX10_gather_29] at hf; cases hf
  | succ n ih =>
    intro S v1 v2 v3 v4 hf
    rw [LX10_gather_29] at hf
    refine w_il (q := 4) (n := 31) hM (dtab_at okX10_gather 20 rfl) rfl rfl ?_
    refine w_aln (q := 0) (n := 32) hM (dtab_at okX10_gather 21 rfl) rfl rfl ?_
    refine w_getr (C := RX10) (T := TX10) (i := 18) (k2 := 102) (q := 12) (n := 35) hM rfl (by decide) (fun _ => rfl) ly_X10 lkF_X10_51 (dtab_at okX10_gather 22 rfl) rfl ?_
    refine w_iln (q := 2) (n := 36) hM (dtab_at okX10_gather 23 rfl) rfl rfl ?_
    by_cases hg36 : v2 < 0 ∨ 2 ≤ v2.toNatClampNeg
    · rw [if_pos hg36] at hf; cases hf
    rw [if_neg hg36] at hf
    refine w_ald (nn := 2) (n := 37) hM rfl hg36 (dtab_at okX10_gather 24 rfl) rfl ?_
    refine w_ic_ge (n := 136) (n2 := 40) hM (dtab_at okX10_gather 25 rfl) (by decide) rfl (fun (h37 : (S.2 12 v2.toNatClampNeg) ≤ v4) => ?_) (fun (h37 : ¬ (S.2 12 v2.toNatClampNeg) ≤ v4) => ?_)
    · skip
      rw [if_pos h37] at hf
      refine WW.lvs [0, 1, 2] (lv2 := [(0, vr 10 0), (1, vi v1), (2, vi v2)]) rfl ?_
      exact wBX10_gather_136 hM nF r k2 hk2 S v1 v2 hf
    · skip
      rw [if_neg h37] at hf
      refine w_iln (q := 3) (n := 41) hM (dtab_at okX10_gather 26 rfl) rfl rfl ?_
      refine w_ic (n := 42) hM (-1 : Int32) (dtab_at okX10_gather 27 rfl) (by decide) rfl ?_
      refine w_ic_eq (n := 136) (n2 := 45) hM (dtab_at okX10_gather 28 rfl) (by decide) rfl (fun (h42 : v3 = (-1 : Int32)) => ?_) (fun (h42 : ¬ v3 = (-1 : Int32)) => ?_)
      · skip
        rw [if_pos h42] at hf
        refine WW.lvs [0, 1, 2] (lv2 := [(0, vr 10 0), (1, vi v1), (2, vi v2)]) rfl ?_
        exact wBX10_gather_136 hM nF r k2 hk2 S v1 v2 hf
      · skip
        rw [if_neg h42] at hf
        refine w_aln (q := 0) (n := 46) hM (dtab_at okX10_gather 29 rfl) rfl rfl ?_
        refine w_getr (C := RX10) (T := TX10) (i := 19) (k2 := 180) (q := 13) (n := 49) hM rfl (by decide) (fun _ => rfl) ly_X10 lkF_X10_54 (dtab_at okX10_gather 30 rfl) rfl ?_
        refine w_bi (n := 51) hM (40 : Int32) (dtab_at okX10_gather 31 rfl) (by decide) rfl ?_
        refine w_iln (q := 2) (n := 52) hM (dtab_at okX10_gather 32 rfl) rfl rfl ?_
        refine w_imul (n := 53) hM (dtab_at okX10_gather 33 rfl) rfl ?_
        refine w_il (q := 4) (n := 55) hM (dtab_at okX10_gather 34 rfl) rfl rfl ?_
        refine w_iadd (n := 56) hM (dtab_at okX10_gather 35 rfl) rfl ?_
        by_cases hg56 : (((40 : Int32) * v2) + v4) < 0 ∨ 80 ≤ (((40 : Int32) * v2) + v4).toNatClampNeg
        · rw [if_pos hg56] at hf; cases hf
        rw [if_neg hg56] at hf
        refine w_ald (nn := 80) (n := 57) hM rfl hg56 (dtab_at okX10_gather 36 rfl) rfl ?_
        refine w_is (n := 59) (lv' := [(5, vi (S.2 13 (((40 : Int32) * v2) + v4).toNatClampNeg)), (0, vr 10 0), (1, vi v1), (2, vi v2), (3, vi v3), (4, vi v4)]) hM (dtab_at okX10_gather 37 rfl) (by decide) rfl rfl ?_
        refine w_aln (q := 1) (n := 60) hM (dtab_at okX10_gather 38 rfl) rfl rfl ?_
        refine w_il (q := 0) (n := 62) hM (dtab_at okX10_gather 39 rfl) rfl rfl ?_
        obtain ⟨r0, hr0, hf⟩ := Option.bind_eq_some_iff.mp hf
        refine w_callVi (n := 65) (As := [vi (S.2 13 (((40 : Int32) * v2) + v4).toNatClampNeg)]) (rest := []) (k := 10) (j := 0) (C := RX10) (T := TX10) (N := 43) hM (c_X10_jointAt nF S (S.2 13 (((40 : Int32) * v2) + v4).toNatClampNeg) r0 hr0) lkM_X10_189 mv_X10_jointAt (by decide) rfl (by decide) rfl (Nat.le_of_ble_eq_true rfl) rfl (dtab_at okX10_gather 40 rfl) rfl (fun x0 S0 hp0 => ?_)
        obtain ⟨hx_, hs_⟩ := hp0
        have hs_ := hs_.symm
        have hx_ := hx_.symm
        subst hs_
        subst hx_
        refine w_iln (q := 4) (n := 66) hM (dtab_at okX10_gather 41 rfl) rfl rfl ?_
        refine w_ic_ne (n := 130) (n2 := 69) hM (dtab_at okX10_gather 42 rfl) (by decide) rfl (fun (h66 : ¬ r0 = v3) => ?_) (fun (h66 : r0 = v3) => ?_)
        · skip
          rw [if_neg h66] at hf
          refine w_iinc (q := 5) (n := 133) (v := (v4 + (1 : Int32))) (lv' := [(4, vi (v4 + (1 : Int32))), (5, vi (S.2 13 (((40 : Int32) * v2) + v4).toNatClampNeg)), (0, vr 10 0), (1, vi v1), (2, vi v2), (3, vi v3)]) hM (dtab_at okX10_gather 86 rfl) rfl rfl (by decide) rfl rfl ?_
          refine w_goto (n := 29) hM (dtab_at okX10_gather 87 rfl) (by decide) ?_
          refine WW.lvs [2, 3, 4, 5, 0] (lv2 := [(0, vr 10 0), (1, vi v1), (2, vi v2), (3, vi v3), (4, vi (v4 + (1 : Int32)))]) rfl ?_
          exact ih S v1 v2 v3 (v4 + (1 : Int32)) hf
        · skip
          rw [if_pos h66] at hf
          refine w_aln (q := 1) (n := 70) hM (dtab_at okX10_gather 43 rfl) rfl rfl ?_
          refine w_getr (C := RX10) (T := TX10) (i := 28) (k2 := 102) (q := 18) (n := 73) hM rfl (by decide) (fun _ => rfl) ly_X10 lkF_X10_78 (dtab_at okX10_gather 44 rfl) rfl ?_
          refine w_iln (q := 3) (n := 74) hM (dtab_at okX10_gather 45 rfl) rfl rfl ?_
          refine w_ald (nn := 2) (n := 75) hM rfl hg36 (dtab_at okX10_gather 46 rfl) rfl ?_
          refine w_ic (n := 76) hM (5 : Int32) (dtab_at okX10_gather 47 rfl) (by decide) rfl ?_
          refine w_ic_ge (n := 130) (n2 := 79) hM (dtab_at okX10_gather 48 rfl) (by decide) rfl (fun (h76 : (5 : Int32) ≤ (S.2 18 v2.toNatClampNeg)) => ?_) (fun (h76 : ¬ (5 : Int32) ≤ (S.2 18 v2.toNatClampNeg)) => ?_)
          · skip
            rw [if_pos h76] at hf
            refine w_iinc (q := 5) (n := 133) (v := (v4 + (1 : Int32))) (lv' := [(4, vi (v4 + (1 : Int32))), (5, vi (S.2 13 (((40 : Int32) * v2) + v4).toNatClampNeg)), (0, vr 10 0), (1, vi v1), (2, vi v2), (3, vi v3)]) hM (dtab_at okX10_gather 86 rfl) rfl rfl (by decide) rfl rfl ?_
            refine w_goto (n := 29) hM (dtab_at okX10_gather 87 rfl) (by decide) ?_
            refine WW.lvs [2, 3, 4, 5, 0] (lv2 := [(0, vr 10 0), (1, vi v1), (2, vi v2), (3, vi v3), (4, vi (v4 + (1 : Int32)))]) rfl ?_
            exact ih S v1 v2 v3 (v4 + (1 : Int32)) hf
          · skip
            rw [if_neg h76] at hf
            refine w_aln (q := 1) (n := 80) hM (dtab_at okX10_gather 49 rfl) rfl rfl ?_
            refine w_getr (C := RX10) (T := TX10) (i := 29) (k2 := 110) (q := 19) (n := 83) hM rfl (by decide) (fun _ => rfl) ly_X10 lkF_X10_81 (dtab_at okX10_gather 50 rfl) rfl ?_
            refine w_ic (n := 84) hM (5 : Int32) (dtab_at okX10_gather 51 rfl) (by decide) rfl ?_
            refine w_iln (q := 3) (n := 85) hM (dtab_at okX10_gather 52 rfl) rfl rfl ?_
            refine w_imul (n := 86) hM (dtab_at okX10_gather 53 rfl) rfl ?_
            refine w_aln (q := 1) (n := 87) hM (dtab_at okX10_gather 54 rfl) rfl rfl ?_
            refine w_getr (C := RX10) (T := TX10) (i := 28) (k2 := 102) (q := 18) (n := 90) hM rfl (by decide) (fun _ => rfl) ly_X10 lkF_X10_78 (dtab_at okX10_gather 55 rfl) rfl ?_
            refine w_iln (q := 3) (n := 91) hM (dtab_at okX10_gather 56 rfl) rfl rfl ?_
            refine w_ald (nn := 2) (n := 92) hM rfl hg36 (dtab_at okX10_gather 57 rfl) rfl ?_
            refine w_iadd (n := 93) hM (dtab_at okX10_gather 58 rfl) rfl ?_
            refine w_il (q := 5) (n := 95) hM (dtab_at okX10_gather 59 rfl) rfl rfl ?_
            by_cases hg95 : (((5 : Int32) * v2) + (S.2 18 v2.toNatClampNeg)) < 0 ∨ 10 ≤ (((5 : Int32) * v2) + (S.2 18 v2.toNatClampNeg)).toNatClampNeg
            · rw [if_pos hg95] at hf; cases hf
            rw [if_neg hg95] at hf
            refine w_ast (nn := 10) (n := 96) hM rfl hg95 (dtab_at okX10_gather 60 rfl) rfl ?_
            refine w_aln (q := 1) (n := 97) hM (dtab_at okX10_gather 61 rfl) rfl rfl ?_
            refine w_getr (C := RX10) (T := TX10) (i := 30) (k2 := 110) (q := 20) (n := 100) hM rfl (by decide) (fun _ => rfl) ly_X10 lkF_X10_84 (dtab_at okX10_gather 62 rfl) rfl ?_
            refine w_ic (n := 101) hM (5 : Int32) (dtab_at okX10_gather 63 rfl) (by decide) rfl ?_
            refine w_iln (q := 3) (n := 102) hM (dtab_at okX10_gather 64 rfl) rfl rfl ?_
            refine w_imul (n := 103) hM (dtab_at okX10_gather 65 rfl) rfl ?_
            refine w_aln (q := 1) (n := 104) hM (dtab_at okX10_gather 66 rfl) rfl rfl ?_
            refine w_getr (C := RX10) (T := TX10) (i := 28) (k2 := 102) (q := 18) (n := 107) hM rfl (by decide) (fun _ => rfl) ly_X10 lkF_X10_78 (dtab_at okX10_gather 67 rfl) rfl ?_
            refine w_iln (q := 3) (n := 108) hM (dtab_at okX10_gather 68 rfl) rfl rfl ?_
            refine w_ald (nn := 2) (n := 109) hM rfl hg36 (dtab_at okX10_gather 69 rfl) rfl ?_
            refine w_iadd (n := 110) hM (dtab_at okX10_gather 70 rfl) rfl ?_
            refine w_il (q := 0) (n := 112) hM (dtab_at okX10_gather 71 rfl) rfl rfl ?_
            refine w_aln (q := 1) (n := 113) hM (dtab_at okX10_gather 72 rfl) rfl rfl ?_
            refine w_getr (C := RX10) (T := TX10) (i := 10) (k2 := 160) (q := 7) (n := 116) hM rfl (by decide) (fun _ => rfl) ly_X10 lkF_X10_29 (dtab_at okX10_gather 73 rfl) rfl ?_
            refine w_iln (q := 4) (n := 117) hM (dtab_at okX10_gather 74 rfl) rfl rfl ?_
            by_cases hg117 : v3 < 0 ∨ 60 ≤ v3.toNatClampNeg
            · rw [if_pos hg117] at hf; cases hf
            rw [if_neg hg117] at hf
            refine w_ald (nn := 60) (n := 118) hM rfl hg117 (dtab_at okX10_gather 75 rfl) rfl ?_
            refine w_isub (n := 119) hM (dtab_at okX10_gather 76 rfl) rfl ?_
            refine w_ast (nn := 10) (n := 120) hM rfl hg95 (dtab_at okX10_gather 77 rfl) rfl ?_
            refine w_aln (q := 1) (n := 121) hM (dtab_at okX10_gather 78 rfl) rfl rfl ?_
            refine w_getr (C := RX10) (T := TX10) (i := 28) (k2 := 102) (q := 18) (n := 124) hM rfl (by decide) (fun _ => rfl) ly_X10 lkF_X10_78 (dtab_at okX10_gather 79 rfl) rfl ?_
            refine w_iln (q := 3) (n := 125) hM (dtab_at okX10_gather 80 rfl) rfl rfl ?_
            refine w_dup2 (n := 126) hM (dtab_at okX10_gather 81 rfl) rfl rfl rfl ?_
            refine w_ald (nn := 2) (n := 127) hM rfl hg36 (dtab_at okX10_gather 82 rfl) rfl ?_
            refine w_ic (n := 128) hM (1 : Int32) (dtab_at okX10_gather 83 rfl) (by decide) rfl ?_
            refine w_iadd (n := 129) hM (dtab_at okX10_gather 84 rfl) rfl ?_
            refine w_ast (nn := 2) (n := 130) hM rfl hg36 (dtab_at okX10_gather 85 rfl) rfl ?_
            refine w_iinc (q := 5) (n := 133) (v := (v4 + (1 : Int32))) (lv' := [(4, vi (v4 + (1 : Int32))), (5, vi (S.2 13 (((40 : Int32) * v2) + v4).toNatClampNeg)), (0, vr 10 0), (1, vi v1), (2, vi v2), (3, vi v3)]) hM (dtab_at okX10_gather 86 rfl) rfl rfl (by decide) rfl rfl ?_
            refine w_goto (n := 29) hM (dtab_at okX10_gather 87 rfl) (by decide) ?_
            refine WW.lvs [2, 3, 4, 5, 0] (lv2 := [(0, vr 10 0), (1, vi v1), (2, vi v2), (3, vi v3), (4, vi (v4 + (1 : Int32)))]) rfl ?_
            exact ih (sta (sta (sta S 19 (((5 : Int32) * v2) + (S.2 18 v2.toNatClampNeg)).toNatClampNeg v4) 20 (((5 : Int32) * v2) + (S.2 18 v2.toNatClampNeg)).toNatClampNeg ((S.2 13 (((40 : Int32) * v2) + v4).toNatClampNeg) - (S.2 7 v3.toNatClampNeg))) 18 v2.toNatClampNeg ((S.2 18 v2.toNatClampNeg) + (1 : Int32))) v1 v2 v3 (v4 + (1 : Int32)) hf
def LX10_gather_2 (nF : Nat) : Nat → PS → Int32 → Int32 → Option (PS)
  | 0, _, _, _ => none
  | n + 1, S, v1, v2 => (if (2 : Int32) ≤ v2 then (some S) else (if v2 < 0 ∨ 2 ≤ v2.toNatClampNeg then none else ((fX10_matches nF (sta S 18 v2.toNatClampNeg (0 : Int32)) v2).bind fun r0 => (if v1 < 0 ∨ 40 ≤ v1.toNatClampNeg then none else (LX10_gather_29 nF (LX10_gather_2 nF n) nF r0 v1 v2 (r0.2 11 v1.toNatClampNeg) (0 : Int32))))))
set_option maxHeartbeats 4000000 in
set_option maxRecDepth 100000 in
theorem wLX10_gather_2 {cy : ClassId × ClassId} {ad : Nat → Nat} {D : va_G} {p : Program} {l : Launch} {e : Env} {s : State} {m : MethodId} {args : Array Value} {below : List Frame} {meth : Method} {c : Code} {A : Nat → Prop} (hM : MX cy GM ad D p s m args meth c cX10_gather 6 RX10 none A) (nF : Nat) (r : PS) : ∀ (n : Nat) (S : PS) (v1 : Int32) (v2 : Int32), LX10_gather_2 nF n S v1 v2 = some r → WW cy GM ad D p l e rmX10_gather s m args below meth c 6 A (pov (fun S' => S' = r)) 2 [(0, vr 10 0), (1, vi v1), (2, vi v2)] [] S := by
  intro n
  induction n with
  | zero => intro S v1 v2 hf; rw [LX10_gather_2] at hf; cases hf
  | succ n ih =>
    intro S v1 v2 hf
    rw [LX10_gather_2] at hf
    refine w_iln (q := 2) (n := 3) hM (dtab_at okX10_gather 2 rfl) rfl rfl ?_
    refine w_ic (n := 4) hM (2 : Int32) (dtab_at okX10_gather 3 rfl) (by decide) rfl ?_
    refine w_ic_ge (n := 142) (n2 := 7) hM (dtab_at okX10_gather 4 rfl) (by decide) rfl (fun (h4 : (2 : Int32) ≤ v2) => ?_) (fun (h4 : ¬ (2 : Int32) ≤ v2) => ?_)
    · skip
      rw [if_pos h4] at hf
      exact r_v hM (dtab_at okX10_gather 90 rfl) (Option.some.inj hf)
    · skip
      rw [if_neg h4] at hf
      refine w_aln (q := 0) (n := 8) hM (dtab_at okX10_gather 5 rfl) rfl rfl ?_
      refine w_getr (C := RX10) (T := TX10) (i := 28) (k2 := 102) (q := 18) (n := 11) hM rfl (by decide) (fun _ => rfl) ly_X10 lkF_X10_78 (dtab_at okX10_gather 6 rfl) rfl ?_
      refine w_iln (q := 2) (n := 12) hM (dtab_at okX10_gather 7 rfl) rfl rfl ?_
      refine w_ic (n := 13) hM (0 : Int32) (dtab_at okX10_gather 8 rfl) (by decide) rfl ?_
      by_cases hg13 : v2 < 0 ∨ 2 ≤ v2.toNatClampNeg
      · rw [if_pos hg13] at hf; cases hf
      rw [if_neg hg13] at hf
      refine w_ast (nn := 2) (n := 14) hM rfl hg13 (dtab_at okX10_gather 9 rfl) rfl ?_
      refine w_aln (q := 0) (n := 15) hM (dtab_at okX10_gather 10 rfl) rfl rfl ?_
      refine w_iln (q := 2) (n := 16) hM (dtab_at okX10_gather 11 rfl) rfl rfl ?_
      obtain ⟨r0, hr0, hf⟩ := Option.bind_eq_some_iff.mp hf
      refine w_callVv (n := 19) (As := [vi v2]) (rest := []) (k := 10) (j := 0) (C := RX10) (T := TX10) (N := 43) hM (c_X10_matches nF (sta S 18 v2.toNatClampNeg (0 : Int32)) v2 r0 hr0) lkM_X10_172 mv_X10_matches (by decide) rfl (by decide) rfl (Nat.le_of_ble_eq_true rfl) rfl (dtab_at okX10_gather 12 rfl) rfl (fun S0 hp0 => ?_)
      have hs_ := hp0.symm
      subst hs_
      refine w_aln (q := 0) (n := 20) hM (dtab_at okX10_gather 13 rfl) rfl rfl ?_
      refine w_getr (C := RX10) (T := TX10) (i := 17) (k2 := 140) (q := 11) (n := 23) hM rfl (by decide) (fun _ => rfl) ly_X10 lkF_X10_48 (dtab_at okX10_gather 14 rfl) rfl ?_
      refine w_iln (q := 1) (n := 24) hM (dtab_at okX10_gather 15 rfl) rfl rfl ?_
      by_cases hg24 : v1 < 0 ∨ 40 ≤ v1.toNatClampNeg
      · rw [if_pos hg24] at hf; cases hf
      rw [if_neg hg24] at hf
      refine w_ald (nn := 40) (n := 25) hM rfl hg24 (dtab_at okX10_gather 16 rfl) rfl ?_
      refine w_isn (n := 26) (lv' := [(3, vi (r0.2 11 v1.toNatClampNeg)), (0, vr 10 0), (1, vi v1), (2, vi v2)]) hM (dtab_at okX10_gather 17 rfl) (by decide) rfl rfl ?_
      refine w_ic (n := 27) hM (0 : Int32) (dtab_at okX10_gather 18 rfl) (by decide) rfl ?_
      refine w_is (n := 29) (lv' := [(4, vi (0 : Int32)), (3, vi (r0.2 11 v1.toNatClampNeg)), (0, vr 10 0), (1, vi v1), (2, vi v2)]) hM (dtab_at okX10_gather 19 rfl) (by decide) rfl rfl ?_
      refine WW.lvs [2, 3, 4, 1, 0] (lv2 := [(0, vr 10 0), (1, vi v1), (2, vi v2), (3, vi (r0.2 11 v1.toNatClampNeg)), (4, vi (0 : Int32))]) rfl ?_
      exact wLX10_gather_29 hM nF r (LX10_gather_2 nF n) ih nF r0 v1 v2 (r0.2 11 v1.toNatClampNeg) (0 : Int32) hf
def fX10_gather (nF : Nat) (S : PS) (a1 : Int32) : Option (PS) := (LX10_gather_2 nF nF S a1 (0 : Int32))
set_option maxHeartbeats 4000000 in
set_option maxRecDepth 100000 in
theorem c_X10_gather {cy : ClassId × ClassId} {ad : Nat → Nat} {D : va_G} {l : Launch} (nF : Nat) (S : PS) (a1 : Int32) (r : PS) (hf : fX10_gather nF S a1 = some r) : PMv cy GM ad D l yX10_gather (wA yX10_gather cX10_gather 6 none) rmX10_gather [vr 10 0, vi a1] S (fun S' => S' = r) := by
  refine PM.of (lv := [(0, vr 10 0), (1, vi a1)]) GM_ok (by decide) (Nat.le_of_ble_eq_true rfl) rfl (by simp) ?_
  intro p e s m args below meth c A hM
  rw [fX10_gather] at hf
  refine w_ic (n := 1) hM (0 : Int32) (dtab_at okX10_gather 0 rfl) (by decide) rfl ?_
  refine w_isn (n := 2) (lv' := [(2, vi (0 : Int32)), (0, vr 10 0), (1, vi a1)]) hM (dtab_at okX10_gather 1 rfl) (by decide) rfl rfl ?_
  refine WW.lvs [1, 2, 0] (lv2 := [(0, vr 10 0), (1, vi a1), (2, vi (0 : Int32))]) rfl ?_
  exact wLX10_gather_2 hM nF r nF S a1 (0 : Int32) hf
def LX10_choiceCost_16 (nF : Nat) : Nat → PS → Int32 → Int32 → Int32 → Option (Int32)
  | 0, _, _, _, _ => none
  | n + 1, S, v1, v2, v3 => (if (0 : Int32) < 0 ∨ 2 ≤ (0 : Int32).toNatClampNeg then none else (if (S.2 18 (0 : Int32).toNatClampNeg) ≤ v3 then (some v2) else (if v3 < 0 ∨ 5 ≤ v3.toNatClampNeg then none else (if (1 : Int32) < 0 ∨ 2 ≤ (1 : Int32).toNatClampNeg then none else (if (S.2 21 v3.toNatClampNeg) = (S.2 18 (1 : Int32).toNatClampNeg) then (LX10_choiceCost_16 nF n S v1 (v2 + (S.1 0 27)) (v3 + (1 : Int32))) else (if ((v1 >>> ((S.2 21 v3.toNatClampNeg) &&& 31)) &&& (1 : Int32)) = (1 : Int32) then (some (-1 : Int32)) else (if v3 < 0 ∨ 10 ≤ v3.toNatClampNeg then none else (if ((5 : Int32) + (S.2 21 v3.toNatClampNeg)) < 0 ∨ 10 ≤ ((5 : Int32) + (S.2 21 v3.toNatClampNeg)).toNatClampNeg then none else (if (S.2 19 v3.toNatClampNeg) < 0 ∨ 80 ≤ (S.2 19 v3.toNatClampNeg).toNatClampNeg then none else (if ((40 : Int32) + (S.2 19 ((5 : Int32) + (S.2 21 v3.toNatClampNeg)).toNatClampNeg)) < 0 ∨ 80 ≤ ((40 : Int32) + (S.2 19 ((5 : Int32) + (S.2 21 v3.toNatClampNeg)).toNatClampNeg)).toNatClampNeg then none else (LX10_choiceCost_16 nF n S (v1 ||| ((1 : Int32) <<< ((S.2 21 v3.toNatClampNeg) &&& 31))) (v2 + (((fX10_apart S (S.2 20 v3.toNatClampNeg) (S.2 20 ((5 : Int32) + (S.2 21 v3.toNatClampNeg)).toNatClampNeg)) + ((100 : Int32) * (fX10_hours S (S.2 14 (S.2 19 v3.toNatClampNeg).toNatClampNeg) (S.2 14 ((40 : Int32) + (S.2 19 ((5 : Int32) + (S.2 21 v3.toNatClampNeg)).toNatClampNeg)).toNatClampNeg)))) - (S.1 0 27))) (v3 + (1 : Int32)))))))))))))
set_option maxHeartbeats 4000000 in
set_option maxRecDepth 100000 in
theorem wLX10_choiceCost_16 {cy : ClassId × ClassId} {ad : Nat → Nat} {D : va_G} {p : Program} {l : Launch} {e : Env} {s : State} {m : MethodId} {args : Array Value} {below : List Frame} {meth : Method} {c : Code} {A : Nat → Prop} (hM : MX cy GM ad D p s m args meth c cX10_choiceCost 5 RX10 (some .int) A) (nF : Nat) (S0 : PS) (r : Int32) : ∀ (n : Nat) (S : PS) (v1 : Int32) (v2 : Int32) (v3 : Int32), S = S0 → LX10_choiceCost_16 nF n S v1 v2 v3 = some r → WW cy GM ad D p l e rmX10_choiceCost s m args below meth c 5 A (poi (fun x S' => x = r ∧ S' = S0)) 16 [(0, vr 10 0), (1, vi v1), (2, vi v2), (3, vi v3)] [] S := by
  intro n
  induction n with
  | zero => intro S v1 v2 v3 hS hf; rw [LX10_choiceCost_16] at hf; cases hf
  | succ n ih =>
    intro S v1 v2 v3 hS hf
    rw [LX10_choiceCost_16] at hf
    refine w_iln (q := 3) (n := 17) hM (dtab_at okX10_choiceCost 12 rfl) rfl rfl ?_
    refine w_aln (q := 0) (n := 18) hM (dtab_at okX10_choiceCost 13 rfl) rfl rfl ?_
    refine w_getr (C := RX10) (T := TX10) (i := 28) (k2 := 102) (q := 18) (n := 21) hM rfl (by decide) (fun _ => rfl) ly_X10 lkF_X10_78 (dtab_at okX10_choiceCost 14 rfl) rfl ?_
    refine w_ic (n := 22) hM (0 : Int32) (dtab_at okX10_choiceCost 15 rfl) (by decide) rfl ?_
    by_cases hg22 : (0 : Int32) < 0 ∨ 2 ≤ (0 : Int32).toNatClampNeg
    · rw [if_pos hg22] at hf; cases hf
    rw [if_neg hg22] at hf
    refine w_ald (nn := 2) (n := 23) hM rfl hg22 (dtab_at okX10_choiceCost 16 rfl) rfl ?_
    refine w_ic_ge (n := 141) (n2 := 26) hM (dtab_at okX10_choiceCost 17 rfl) (by decide) rfl (fun (h23 : (S.2 18 (0 : Int32).toNatClampNeg) ≤ v3) => ?_) (fun (h23 : ¬ (S.2 18 (0 : Int32).toNatClampNeg) ≤ v3) => ?_)
    · skip
      rw [if_pos h23] at hf
      refine w_iln (q := 2) (n := 142) hM (dtab_at okX10_choiceCost 91 rfl) rfl rfl ?_
      exact r_i hM (dtab_at okX10_choiceCost 92 rfl) ⟨Option.some.inj hf, hS⟩
    · skip
      rw [if_neg h23] at hf
      refine w_aln (q := 0) (n := 27) hM (dtab_at okX10_choiceCost 18 rfl) rfl rfl ?_
      refine w_getr (C := RX10) (T := TX10) (i := 31) (k2 := 105) (q := 21) (n := 30) hM rfl (by decide) (fun _ => rfl) ly_X10 lkF_X10_87 (dtab_at okX10_choiceCost 19 rfl) rfl ?_
      refine w_iln (q := 3) (n := 31) hM (dtab_at okX10_choiceCost 20 rfl) rfl rfl ?_
      by_cases hg31 : v3 < 0 ∨ 5 ≤ v3.toNatClampNeg
      · rw [if_pos hg31] at hf; cases hf
      rw [if_neg hg31] at hf
      refine w_ald (nn := 5) (n := 32) hM rfl hg31 (dtab_at okX10_choiceCost 21 rfl) rfl ?_
      refine w_is (n := 34) (lv' := [(4, vi (S.2 21 v3.toNatClampNeg)), (0, vr 10 0), (1, vi v1), (2, vi v2), (3, vi v3)]) hM (dtab_at okX10_choiceCost 22 rfl) (by decide) rfl rfl ?_
      refine w_il (q := 0) (n := 36) hM (dtab_at okX10_choiceCost 23 rfl) rfl rfl ?_
      refine w_aln (q := 1) (n := 37) hM (dtab_at okX10_choiceCost 24 rfl) rfl rfl ?_
      refine w_getr (C := RX10) (T := TX10) (i := 28) (k2 := 102) (q := 18) (n := 40) hM rfl (by decide) (fun _ => rfl) ly_X10 lkF_X10_78 (dtab_at okX10_choiceCost 25 rfl) rfl ?_
      refine w_ic (n := 41) hM (1 : Int32) (dtab_at okX10_choiceCost 26 rfl) (by decide) rfl ?_
      by_cases hg41 : (1 : Int32) < 0 ∨ 2 ≤ (1 : Int32).toNatClampNeg
      · rw [if_pos hg41] at hf; cases hf
      rw [if_neg hg41] at hf
      refine w_ald (nn := 2) (n := 42) hM rfl hg41 (dtab_at okX10_choiceCost 27 rfl) rfl ?_
      refine w_ic_ne (n := 55) (n2 := 45) hM (dtab_at okX10_choiceCost 28 rfl) (by decide) rfl (fun (h42 : ¬ (S.2 21 v3.toNatClampNeg) = (S.2 18 (1 : Int32).toNatClampNeg)) => ?_) (fun (h42 : (S.2 21 v3.toNatClampNeg) = (S.2 18 (1 : Int32).toNatClampNeg)) => ?_)
      · skip
        rw [if_neg h42] at hf
        refine w_iln (q := 2) (n := 56) hM (dtab_at okX10_choiceCost 35 rfl) rfl rfl ?_
        refine w_il (q := 0) (n := 58) hM (dtab_at okX10_choiceCost 36 rfl) rfl rfl ?_
        refine w_ishr (n := 59) hM (dtab_at okX10_choiceCost 37 rfl) rfl ?_
        refine w_ic (n := 60) hM (1 : Int32) (dtab_at okX10_choiceCost 38 rfl) (by decide) rfl ?_
        refine w_iand (n := 61) hM (dtab_at okX10_choiceCost 39 rfl) rfl ?_
        refine w_ic (n := 62) hM (1 : Int32) (dtab_at okX10_choiceCost 40 rfl) (by decide) rfl ?_
        refine w_ic_ne (n := 67) (n2 := 65) hM (dtab_at okX10_choiceCost 41 rfl) (by decide) rfl (fun (h62 : ¬ ((v1 >>> ((S.2 21 v3.toNatClampNeg) &&& 31)) &&& (1 : Int32)) = (1 : Int32)) => ?_) (fun (h62 : ((v1 >>> ((S.2 21 v3.toNatClampNeg) &&& 31)) &&& (1 : Int32)) = (1 : Int32)) => ?_)
        · skip
          rw [if_neg h62] at hf
          refine w_iln (q := 2) (n := 68) hM (dtab_at okX10_choiceCost 44 rfl) rfl rfl ?_
          refine w_ic (n := 69) hM (1 : Int32) (dtab_at okX10_choiceCost 45 rfl) (by decide) rfl ?_
          refine w_il (q := 0) (n := 71) hM (dtab_at okX10_choiceCost 46 rfl) rfl rfl ?_
          refine w_ishl (n := 72) hM (dtab_at okX10_choiceCost 47 rfl) rfl ?_
          refine w_ior (n := 73) hM (dtab_at okX10_choiceCost 48 rfl) rfl ?_
          refine w_isn (n := 74) (lv' := [(1, vi (v1 ||| ((1 : Int32) <<< ((S.2 21 v3.toNatClampNeg) &&& 31)))), (4, vi (S.2 21 v3.toNatClampNeg)), (0, vr 10 0), (2, vi v2), (3, vi v3)]) hM (dtab_at okX10_choiceCost 49 rfl) (by decide) rfl rfl ?_
          refine w_iln (q := 3) (n := 75) hM (dtab_at okX10_choiceCost 50 rfl) rfl rfl ?_
          refine w_aln (q := 2) (n := 76) hM (dtab_at okX10_choiceCost 51 rfl) rfl rfl ?_
          refine w_getr (C := RX10) (T := TX10) (i := 30) (k2 := 110) (q := 20) (n := 79) hM rfl (by decide) (fun _ => rfl) ly_X10 lkF_X10_84 (dtab_at okX10_choiceCost 52 rfl) rfl ?_
          refine w_iln (q := 4) (n := 80) hM (dtab_at okX10_choiceCost 53 rfl) rfl rfl ?_
          by_cases hg80 : v3 < 0 ∨ 10 ≤ v3.toNatClampNeg
          · rw [if_pos hg80] at hf; cases hf
          rw [if_neg hg80] at hf
          refine w_ald (nn := 10) (n := 81) hM rfl hg80 (dtab_at okX10_choiceCost 54 rfl) rfl ?_
          refine w_aln (q := 2) (n := 82) hM (dtab_at okX10_choiceCost 55 rfl) rfl rfl ?_
          refine w_getr (C := RX10) (T := TX10) (i := 30) (k2 := 110) (q := 20) (n := 85) hM rfl (by decide) (fun _ => rfl) ly_X10 lkF_X10_84 (dtab_at okX10_choiceCost 56 rfl) rfl ?_
          refine w_ic (n := 86) hM (5 : Int32) (dtab_at okX10_choiceCost 57 rfl) (by decide) rfl ?_
          refine w_il (q := 1) (n := 88) hM (dtab_at okX10_choiceCost 58 rfl) rfl rfl ?_
          refine w_iadd (n := 89) hM (dtab_at okX10_choiceCost 59 rfl) rfl ?_
          by_cases hg89 : ((5 : Int32) + (S.2 21 v3.toNatClampNeg)) < 0 ∨ 10 ≤ ((5 : Int32) + (S.2 21 v3.toNatClampNeg)).toNatClampNeg
          · rw [if_pos hg89] at hf; cases hf
          rw [if_neg hg89] at hf
          refine w_ald (nn := 10) (n := 90) hM rfl hg89 (dtab_at okX10_choiceCost 60 rfl) rfl ?_
          refine w_callSi (n := 93) (As := [vi (S.2 20 v3.toNatClampNeg), vi (S.2 20 ((5 : Int32) + (S.2 21 v3.toNatClampNeg)).toNatClampNeg)]) (rest := [vi v2]) hM (c_X10_apart S (S.2 20 v3.toNatClampNeg) (S.2 20 ((5 : Int32) + (S.2 21 v3.toNatClampNeg)).toNatClampNeg)) lkM_X10_165 ms_X10_apart (by decide) rfl (Nat.le_of_ble_eq_true rfl) rfl (dtab_at okX10_choiceCost 61 rfl) rfl (fun x0 S0 hp0 => ?_)
          obtain ⟨hx_, hs_⟩ := hp0
          have hs_ := hs_.symm
          subst hs_
          subst hx_
          refine w_bi (n := 95) hM (100 : Int32) (dtab_at okX10_choiceCost 62 rfl) (by decide) rfl ?_
          refine w_aln (q := 2) (n := 96) hM (dtab_at okX10_choiceCost 63 rfl) rfl rfl ?_
          refine w_getr (C := RX10) (T := TX10) (i := 20) (k2 := 180) (q := 14) (n := 99) hM rfl (by decide) (fun _ => rfl) ly_X10 lkF_X10_57 (dtab_at okX10_choiceCost 64 rfl) rfl ?_
          refine w_aln (q := 2) (n := 100) hM (dtab_at okX10_choiceCost 65 rfl) rfl rfl ?_
          refine w_getr (C := RX10) (T := TX10) (i := 29) (k2 := 110) (q := 19) (n := 103) hM rfl (by decide) (fun _ => rfl) ly_X10 lkF_X10_81 (dtab_at okX10_choiceCost 66 rfl) rfl ?_
          refine w_iln (q := 4) (n := 104) hM (dtab_at okX10_choiceCost 67 rfl) rfl rfl ?_
          refine w_ald (nn := 10) (n := 105) hM rfl hg80 (dtab_at okX10_choiceCost 68 rfl) rfl ?_
          by_cases hg105 : (S.2 19 v3.toNatClampNeg) < 0 ∨ 80 ≤ (S.2 19 v3.toNatClampNeg).toNatClampNeg
          · rw [if_pos hg105] at hf; cases hf
          rw [if_neg hg105] at hf
          refine w_ald (nn := 80) (n := 106) hM rfl hg105 (dtab_at okX10_choiceCost 69 rfl) rfl ?_
          refine w_aln (q := 2) (n := 107) hM (dtab_at okX10_choiceCost 70 rfl) rfl rfl ?_
          refine w_getr (C := RX10) (T := TX10) (i := 20) (k2 := 180) (q := 14) (n := 110) hM rfl (by decide) (fun _ => rfl) ly_X10 lkF_X10_57 (dtab_at okX10_choiceCost 71 rfl) rfl ?_
          refine w_bi (n := 112) hM (40 : Int32) (dtab_at okX10_choiceCost 72 rfl) (by decide) rfl ?_
          refine w_aln (q := 2) (n := 113) hM (dtab_at okX10_choiceCost 73 rfl) rfl rfl ?_
          refine w_getr (C := RX10) (T := TX10) (i := 29) (k2 := 110) (q := 19) (n := 116) hM rfl (by decide) (fun _ => rfl) ly_X10 lkF_X10_81 (dtab_at okX10_choiceCost 74 rfl) rfl ?_
          refine w_ic (n := 117) hM (5 : Int32) (dtab_at okX10_choiceCost 75 rfl) (by decide) rfl ?_
          refine w_il (q := 1) (n := 119) hM (dtab_at okX10_choiceCost 76 rfl) rfl rfl ?_
          refine w_iadd (n := 120) hM (dtab_at okX10_choiceCost 77 rfl) rfl ?_
          refine w_ald (nn := 10) (n := 121) hM rfl hg89 (dtab_at okX10_choiceCost 78 rfl) rfl ?_
          refine w_iadd (n := 122) hM (dtab_at okX10_choiceCost 79 rfl) rfl ?_
          by_cases hg122 : ((40 : Int32) + (S.2 19 ((5 : Int32) + (S.2 21 v3.toNatClampNeg)).toNatClampNeg)) < 0 ∨ 80 ≤ ((40 : Int32) + (S.2 19 ((5 : Int32) + (S.2 21 v3.toNatClampNeg)).toNatClampNeg)).toNatClampNeg
          · rw [if_pos hg122] at hf; cases hf
          rw [if_neg hg122] at hf
          refine w_ald (nn := 80) (n := 123) hM rfl hg122 (dtab_at okX10_choiceCost 80 rfl) rfl ?_
          refine w_callSi (n := 126) (As := [vi (S.2 14 (S.2 19 v3.toNatClampNeg).toNatClampNeg), vi (S.2 14 ((40 : Int32) + (S.2 19 ((5 : Int32) + (S.2 21 v3.toNatClampNeg)).toNatClampNeg)).toNatClampNeg)]) (rest := [vi (100 : Int32), vi (fX10_apart S (S.2 20 v3.toNatClampNeg) (S.2 20 ((5 : Int32) + (S.2 21 v3.toNatClampNeg)).toNatClampNeg)), vi v2]) hM (c_X10_hours S (S.2 14 (S.2 19 v3.toNatClampNeg).toNatClampNeg) (S.2 14 ((40 : Int32) + (S.2 19 ((5 : Int32) + (S.2 21 v3.toNatClampNeg)).toNatClampNeg)).toNatClampNeg)) lkM_X10_176 ms_X10_hours (by decide) rfl (Nat.le_of_ble_eq_true rfl) rfl (dtab_at okX10_choiceCost 81 rfl) rfl (fun x1 S1 hp1 => ?_)
          obtain ⟨hx_, hs_⟩ := hp1
          have hs_ := hs_.symm
          subst hs_
          subst hx_
          refine w_imul (n := 127) hM (dtab_at okX10_choiceCost 82 rfl) rfl ?_
          refine w_iadd (n := 128) hM (dtab_at okX10_choiceCost 83 rfl) rfl ?_
          refine w_aln (q := 2) (n := 129) hM (dtab_at okX10_choiceCost 84 rfl) rfl rfl ?_
          refine w_geti (C := RX10) (T := TX10) (i := 27) (n := 132) hM rfl (by decide) ly_X10 lkF_X10_75 (dtab_at okX10_choiceCost 85 rfl) rfl ?_
          refine w_isub (n := 133) hM (dtab_at okX10_choiceCost 86 rfl) rfl ?_
          refine w_iadd (n := 134) hM (dtab_at okX10_choiceCost 87 rfl) rfl ?_
          refine w_isn (n := 135) (lv' := [(2, vi (v2 + (((fX10_apart S (S.2 20 v3.toNatClampNeg) (S.2 20 ((5 : Int32) + (S.2 21 v3.toNatClampNeg)).toNatClampNeg)) + ((100 : Int32) * (fX10_hours S (S.2 14 (S.2 19 v3.toNatClampNeg).toNatClampNeg) (S.2 14 ((40 : Int32) + (S.2 19 ((5 : Int32) + (S.2 21 v3.toNatClampNeg)).toNatClampNeg)).toNatClampNeg)))) - (S.1 0 27)))), (1, vi (v1 ||| ((1 : Int32) <<< ((S.2 21 v3.toNatClampNeg) &&& 31)))), (4, vi (S.2 21 v3.toNatClampNeg)), (0, vr 10 0), (3, vi v3)]) hM (dtab_at okX10_choiceCost 88 rfl) (by decide) rfl rfl ?_
          refine w_iinc (q := 4) (n := 138) (v := (v3 + (1 : Int32))) (lv' := [(3, vi (v3 + (1 : Int32))), (2, vi (v2 + (((fX10_apart S (S.2 20 v3.toNatClampNeg) (S.2 20 ((5 : Int32) + (S.2 21 v3.toNatClampNeg)).toNatClampNeg)) + ((100 : Int32) * (fX10_hours S (S.2 14 (S.2 19 v3.toNatClampNeg).toNatClampNeg) (S.2 14 ((40 : Int32) + (S.2 19 ((5 : Int32) + (S.2 21 v3.toNatClampNeg)).toNatClampNeg)).toNatClampNeg)))) - (S.1 0 27)))), (1, vi (v1 ||| ((1 : Int32) <<< ((S.2 21 v3.toNatClampNeg) &&& 31)))), (4, vi (S.2 21 v3.toNatClampNeg)), (0, vr 10 0)]) hM (dtab_at okX10_choiceCost 89 rfl) rfl rfl (by decide) rfl rfl ?_
          refine w_goto (n := 16) hM (dtab_at okX10_choiceCost 90 rfl) (by decide) ?_
          refine WW.lvs [4, 2, 1, 0] (lv2 := [(0, vr 10 0), (1, vi (v1 ||| ((1 : Int32) <<< ((S.2 21 v3.toNatClampNeg) &&& 31)))), (2, vi (v2 + (((fX10_apart S (S.2 20 v3.toNatClampNeg) (S.2 20 ((5 : Int32) + (S.2 21 v3.toNatClampNeg)).toNatClampNeg)) + ((100 : Int32) * (fX10_hours S (S.2 14 (S.2 19 v3.toNatClampNeg).toNatClampNeg) (S.2 14 ((40 : Int32) + (S.2 19 ((5 : Int32) + (S.2 21 v3.toNatClampNeg)).toNatClampNeg)).toNatClampNeg)))) - (S.1 0 27)))), (3, vi (v3 + (1 : Int32)))]) rfl ?_
          exact ih S (v1 ||| ((1 : Int32) <<< ((S.2 21 v3.toNatClampNeg) &&& 31))) (v2 + (((fX10_apart S (S.2 20 v3.toNatClampNeg) (S.2 20 ((5 : Int32) + (S.2 21 v3.toNatClampNeg)).toNatClampNeg)) + ((100 : Int32) * (fX10_hours S (S.2 14 (S.2 19 v3.toNatClampNeg).toNatClampNeg) (S.2 14 ((40 : Int32) + (S.2 19 ((5 : Int32) + (S.2 21 v3.toNatClampNeg)).toNatClampNeg)).toNatClampNeg)))) - (S.1 0 27))) (v3 + (1 : Int32)) hS hf
        · skip
          rw [if_pos h62] at hf
          refine w_ic (n := 66) hM (-1 : Int32) (dtab_at okX10_choiceCost 42 rfl) (by decide) rfl ?_
          exact r_i hM (dtab_at okX10_choiceCost 43 rfl) ⟨Option.some.inj hf, hS⟩
      · skip
        rw [if_pos h42] at hf
        refine w_iln (q := 3) (n := 46) hM (dtab_at okX10_choiceCost 29 rfl) rfl rfl ?_
        refine w_aln (q := 1) (n := 47) hM (dtab_at okX10_choiceCost 30 rfl) rfl rfl ?_
        refine w_geti (C := RX10) (T := TX10) (i := 27) (n := 50) hM rfl (by decide) ly_X10 lkF_X10_75 (dtab_at okX10_choiceCost 31 rfl) rfl ?_
        refine w_iadd (n := 51) hM (dtab_at okX10_choiceCost 32 rfl) rfl ?_
        refine w_isn (n := 52) (lv' := [(2, vi (v2 + (S.1 0 27))), (4, vi (S.2 21 v3.toNatClampNeg)), (0, vr 10 0), (1, vi v1), (3, vi v3)]) hM (dtab_at okX10_choiceCost 33 rfl) (by decide) rfl rfl ?_
        refine w_goto (n := 135) hM (dtab_at okX10_choiceCost 34 rfl) (by decide) ?_
        refine w_iinc (q := 4) (n := 138) (v := (v3 + (1 : Int32))) (lv' := [(3, vi (v3 + (1 : Int32))), (2, vi (v2 + (S.1 0 27))), (4, vi (S.2 21 v3.toNatClampNeg)), (0, vr 10 0), (1, vi v1)]) hM (dtab_at okX10_choiceCost 89 rfl) rfl rfl (by decide) rfl rfl ?_
        refine w_goto (n := 16) hM (dtab_at okX10_choiceCost 90 rfl) (by decide) ?_
        refine WW.lvs [3, 4, 1, 0] (lv2 := [(0, vr 10 0), (1, vi v1), (2, vi (v2 + (S.1 0 27))), (3, vi (v3 + (1 : Int32)))]) rfl ?_
        exact ih S v1 (v2 + (S.1 0 27)) (v3 + (1 : Int32)) hS hf
def fX10_choiceCost (nF : Nat) (S : PS) : Option (Int32) := (if (1 : Int32) < 0 ∨ 2 ≤ (1 : Int32).toNatClampNeg then none else (LX10_choiceCost_16 nF nF S (0 : Int32) ((S.1 0 27) * (S.2 18 (1 : Int32).toNatClampNeg)) (0 : Int32)))
set_option maxHeartbeats 4000000 in
set_option maxRecDepth 100000 in
theorem c_X10_choiceCost {cy : ClassId × ClassId} {ad : Nat → Nat} {D : va_G} {l : Launch} (nF : Nat) (S : PS) (r : Int32) (hf : fX10_choiceCost nF S = some r) : PMi cy GM ad D l yX10_choiceCost (wA yX10_choiceCost cX10_choiceCost 5 (some .int)) rmX10_choiceCost [vr 10 0] S (fun x S' => x = r ∧ S' = S) := by
  refine PM.of (lv := [(0, vr 10 0)]) GM_ok (by decide) (Nat.le_of_ble_eq_true rfl) rfl (by simp) ?_
  intro p e s m args below meth c A hM
  rw [fX10_choiceCost] at hf
  obtain ⟨S0, hS⟩ : ∃ S0 : PS, S = S0 := ⟨S, rfl⟩
  rw [show (fun (x : Int32) (S' : PS) => x = r ∧ S' = S) = (fun x S' => x = r ∧ S' = S0) by rw [hS]]
  refine w_ic (n := 1) hM (0 : Int32) (dtab_at okX10_choiceCost 0 rfl) (by decide) rfl ?_
  refine w_isn (n := 2) (lv' := [(1, vi (0 : Int32)), (0, vr 10 0)]) hM (dtab_at okX10_choiceCost 1 rfl) (by decide) rfl rfl ?_
  refine w_aln (q := 1) (n := 3) hM (dtab_at okX10_choiceCost 2 rfl) rfl rfl ?_
  refine w_geti (C := RX10) (T := TX10) (i := 27) (n := 6) hM rfl (by decide) ly_X10 lkF_X10_75 (dtab_at okX10_choiceCost 3 rfl) rfl ?_
  refine w_aln (q := 1) (n := 7) hM (dtab_at okX10_choiceCost 4 rfl) rfl rfl ?_
  refine w_getr (C := RX10) (T := TX10) (i := 28) (k2 := 102) (q := 18) (n := 10) hM rfl (by decide) (fun _ => rfl) ly_X10 lkF_X10_78 (dtab_at okX10_choiceCost 5 rfl) rfl ?_
  refine w_ic (n := 11) hM (1 : Int32) (dtab_at okX10_choiceCost 6 rfl) (by decide) rfl ?_
  by_cases hg11 : (1 : Int32) < 0 ∨ 2 ≤ (1 : Int32).toNatClampNeg
  · rw [if_pos hg11] at hf; cases hf
  rw [if_neg hg11] at hf
  refine w_ald (nn := 2) (n := 12) hM rfl hg11 (dtab_at okX10_choiceCost 7 rfl) rfl ?_
  refine w_imul (n := 13) hM (dtab_at okX10_choiceCost 8 rfl) rfl ?_
  refine w_isn (n := 14) (lv' := [(2, vi ((S.1 0 27) * (S.2 18 (1 : Int32).toNatClampNeg))), (1, vi (0 : Int32)), (0, vr 10 0)]) hM (dtab_at okX10_choiceCost 9 rfl) (by decide) rfl rfl ?_
  refine w_ic (n := 15) hM (0 : Int32) (dtab_at okX10_choiceCost 10 rfl) (by decide) rfl ?_
  refine w_isn (n := 16) (lv' := [(3, vi (0 : Int32)), (2, vi ((S.1 0 27) * (S.2 18 (1 : Int32).toNatClampNeg))), (1, vi (0 : Int32)), (0, vr 10 0)]) hM (dtab_at okX10_choiceCost 11 rfl) (by decide) rfl rfl ?_
  refine WW.lvs [3, 2, 1, 0] (lv2 := [(0, vr 10 0), (1, vi (0 : Int32)), (2, vi ((S.1 0 27) * (S.2 18 (1 : Int32).toNatClampNeg))), (3, vi (0 : Int32))]) rfl ?_
  exact wLX10_choiceCost_16 hM nF S0 r nF S (0 : Int32) ((S.1 0 27) * (S.2 18 (1 : Int32).toNatClampNeg)) (0 : Int32) hS hf
def BX10_choosesOn_41 (nF : Nat) (S : PS) (v1 : Int32) : Option (Int32 × PS) := (if (0 : Int32) ≤ v1 then (if v1 < 0 ∨ 5 ≤ v1.toNatClampNeg then none else (some ((1 : Int32), (sta S 21 v1.toNatClampNeg ((S.2 21 v1.toNatClampNeg) + (1 : Int32)))))) else (some ((0 : Int32), S)))
set_option maxHeartbeats 4000000 in
set_option maxRecDepth 100000 in
theorem wBX10_choosesOn_41 {cy : ClassId × ClassId} {ad : Nat → Nat} {D : va_G} {p : Program} {l : Launch} {e : Env} {s : State} {m : MethodId} {args : Array Value} {below : List Frame} {meth : Method} {c : Code} {A : Nat → Prop} (hM : MX cy GM ad D p s m args meth c cX10_choosesOn 2 RX10 (some .boolean) A) (nF : Nat) (r : Int32 × PS) (S : PS) (v1 : Int32) (hf : BX10_choosesOn_41 nF S v1 = some r) : WW cy GM ad D p l e rmX10_choosesOn s m args below meth c 2 A (poi (fun x S' => (x, S') = r)) 41 [(0, vr 10 0), (1, vi v1)] [] S := by
  rw [BX10_choosesOn_41] at hf
  refine w_iln (q := 1) (n := 42) hM (dtab_at okX10_choosesOn 25 rfl) rfl rfl ?_
  refine w_if_ge (n := 47) (n2 := 45) hM (dtab_at okX10_choosesOn 26 rfl) (by decide) rfl (fun (h42 : (0 : Int32) ≤ v1) => ?_) (fun (h42 : ¬ (0 : Int32) ≤ v1) => ?_)
  · skip
    rw [if_pos h42] at hf
    refine w_aln (q := 0) (n := 48) hM (dtab_at okX10_choosesOn 29 rfl) rfl rfl ?_
    refine w_getr (C := RX10) (T := TX10) (i := 31) (k2 := 105) (q := 21) (n := 51) hM rfl (by decide) (fun _ => rfl) ly_X10 lkF_X10_87 (dtab_at okX10_choosesOn 30 rfl) rfl ?_
    refine w_iln (q := 1) (n := 52) hM (dtab_at okX10_choosesOn 31 rfl) rfl rfl ?_
    refine w_dup2 (n := 53) hM (dtab_at okX10_choosesOn 32 rfl) rfl rfl rfl ?_
    by_cases hg53 : v1 < 0 ∨ 5 ≤ v1.toNatClampNeg
    · rw [if_pos hg53] at hf; cases hf
    rw [if_neg hg53] at hf
    refine w_ald (nn := 5) (n := 54) hM rfl hg53 (dtab_at okX10_choosesOn 33 rfl) rfl ?_
    refine w_ic (n := 55) hM (1 : Int32) (dtab_at okX10_choosesOn 34 rfl) (by decide) rfl ?_
    refine w_iadd (n := 56) hM (dtab_at okX10_choosesOn 35 rfl) rfl ?_
    refine w_ast (nn := 5) (n := 57) hM rfl hg53 (dtab_at okX10_choosesOn 36 rfl) rfl ?_
    refine w_ic (n := 58) hM (1 : Int32) (dtab_at okX10_choosesOn 37 rfl) (by decide) rfl ?_
    exact r_z hM (by decide) (dtab_at okX10_choosesOn 38 rfl) (Option.some.inj hf)
  · skip
    rw [if_neg h42] at hf
    refine w_ic (n := 46) hM (0 : Int32) (dtab_at okX10_choosesOn 27 rfl) (by decide) rfl ?_
    exact r_z hM (by decide) (dtab_at okX10_choosesOn 28 rfl) (Option.some.inj hf)
def LX10_choosesOn_9 (nF : Nat) : Nat → PS → Int32 → Option (Int32 × PS)
  | 0, _, _ => none
  | n + 1, S, v1 => (if v1 < (0 : Int32) then (BX10_choosesOn_41 nF S v1) else (if v1 < 0 ∨ 5 ≤ v1.toNatClampNeg then none else (if (1 : Int32) < 0 ∨ 2 ≤ (1 : Int32).toNatClampNeg then none else (if (S.2 21 v1.toNatClampNeg) = (S.2 18 (1 : Int32).toNatClampNeg) then (LX10_choosesOn_9 nF n (sta S 21 v1.toNatClampNeg (0 : Int32)) (v1 + (-1 : Int32))) else (BX10_choosesOn_41 nF S v1)))))
set_option maxHeartbeats 4000000 in
set_option maxRecDepth 100000 in
theorem wLX10_choosesOn_9 {cy : ClassId × ClassId} {ad : Nat → Nat} {D : va_G} {p : Program} {l : Launch} {e : Env} {s : State} {m : MethodId} {args : Array Value} {below : List Frame} {meth : Method} {c : Code} {A : Nat → Prop} (hM : MX cy GM ad D p s m args meth c cX10_choosesOn 2 RX10 (some .boolean) A) (nF : Nat) (r : Int32 × PS) : ∀ (n : Nat) (S : PS) (v1 : Int32), LX10_choosesOn_9 nF n S v1 = some r → WW cy GM ad D p l e rmX10_choosesOn s m args below meth c 2 A (poi (fun x S' => (x, S') = r)) 9 [(0, vr 10 0), (1, vi v1)] [] S := by
  intro n
  induction n with
  | zero => intro S v1 hf; rw [LX10_choosesOn_9] at hf; cases hf
  | succ n ih =>
    intro S v1 hf
    rw [LX10_choosesOn_9] at hf
    refine w_iln (q := 1) (n := 10) hM (dtab_at okX10_choosesOn 7 rfl) rfl rfl ?_
    refine w_if_lt (n := 41) (n2 := 13) hM (dtab_at okX10_choosesOn 8 rfl) (by decide) rfl (fun (h10 : v1 < (0 : Int32)) => ?_) (fun (h10 : ¬ v1 < (0 : Int32)) => ?_)
    · skip
      rw [if_pos h10] at hf
      exact wBX10_choosesOn_41 hM nF r S v1 hf
    · skip
      rw [if_neg h10] at hf
      refine w_aln (q := 0) (n := 14) hM (dtab_at okX10_choosesOn 9 rfl) rfl rfl ?_
      refine w_getr (C := RX10) (T := TX10) (i := 31) (k2 := 105) (q := 21) (n := 17) hM rfl (by decide) (fun _ => rfl) ly_X10 lkF_X10_87 (dtab_at okX10_choosesOn 10 rfl) rfl ?_
      refine w_iln (q := 1) (n := 18) hM (dtab_at okX10_choosesOn 11 rfl) rfl rfl ?_
      by_cases hg18 : v1 < 0 ∨ 5 ≤ v1.toNatClampNeg
      · rw [if_pos hg18] at hf; cases hf
      rw [if_neg hg18] at hf
      refine w_ald (nn := 5) (n := 19) hM rfl hg18 (dtab_at okX10_choosesOn 12 rfl) rfl ?_
      refine w_aln (q := 0) (n := 20) hM (dtab_at okX10_choosesOn 13 rfl) rfl rfl ?_
      refine w_getr (C := RX10) (T := TX10) (i := 28) (k2 := 102) (q := 18) (n := 23) hM rfl (by decide) (fun _ => rfl) ly_X10 lkF_X10_78 (dtab_at okX10_choosesOn 14 rfl) rfl ?_
      refine w_ic (n := 24) hM (1 : Int32) (dtab_at okX10_choosesOn 15 rfl) (by decide) rfl ?_
      by_cases hg24 : (1 : Int32) < 0 ∨ 2 ≤ (1 : Int32).toNatClampNeg
      · rw [if_pos hg24] at hf; cases hf
      rw [if_neg hg24] at hf
      refine w_ald (nn := 2) (n := 25) hM rfl hg24 (dtab_at okX10_choosesOn 16 rfl) rfl ?_
      refine w_ic_ne (n := 41) (n2 := 28) hM (dtab_at okX10_choosesOn 17 rfl) (by decide) rfl (fun (h25 : ¬ (S.2 21 v1.toNatClampNeg) = (S.2 18 (1 : Int32).toNatClampNeg)) => ?_) (fun (h25 : (S.2 21 v1.toNatClampNeg) = (S.2 18 (1 : Int32).toNatClampNeg)) => ?_)
      · skip
        rw [if_neg h25] at hf
        exact wBX10_choosesOn_41 hM nF r S v1 hf
      · skip
        rw [if_pos h25] at hf
        refine w_aln (q := 0) (n := 29) hM (dtab_at okX10_choosesOn 18 rfl) rfl rfl ?_
        refine w_getr (C := RX10) (T := TX10) (i := 31) (k2 := 105) (q := 21) (n := 32) hM rfl (by decide) (fun _ => rfl) ly_X10 lkF_X10_87 (dtab_at okX10_choosesOn 19 rfl) rfl ?_
        refine w_iln (q := 1) (n := 33) hM (dtab_at okX10_choosesOn 20 rfl) rfl rfl ?_
        refine w_ic (n := 34) hM (0 : Int32) (dtab_at okX10_choosesOn 21 rfl) (by decide) rfl ?_
        refine w_ast (nn := 5) (n := 35) hM rfl hg18 (dtab_at okX10_choosesOn 22 rfl) rfl ?_
        refine w_iinc (q := 1) (n := 38) (v := (v1 + (-1 : Int32))) (lv' := [(1, vi (v1 + (-1 : Int32))), (0, vr 10 0)]) hM (dtab_at okX10_choosesOn 23 rfl) rfl rfl (by decide) rfl rfl ?_
        refine w_goto (n := 9) hM (dtab_at okX10_choosesOn 24 rfl) (by decide) ?_
        refine WW.lvs [1, 0] (lv2 := [(0, vr 10 0), (1, vi (v1 + (-1 : Int32)))]) rfl ?_
        exact ih (sta S 21 v1.toNatClampNeg (0 : Int32)) (v1 + (-1 : Int32)) hf
def fX10_choosesOn (nF : Nat) (S : PS) : Option (Int32 × PS) := (if (0 : Int32) < 0 ∨ 2 ≤ (0 : Int32).toNatClampNeg then none else (LX10_choosesOn_9 nF nF S ((S.2 18 (0 : Int32).toNatClampNeg) - (1 : Int32))))
set_option maxHeartbeats 4000000 in
set_option maxRecDepth 100000 in
theorem c_X10_choosesOn {cy : ClassId × ClassId} {ad : Nat → Nat} {D : va_G} {l : Launch} (nF : Nat) (S : PS) (r : Int32 × PS) (hf : fX10_choosesOn nF S = some r) : PMi cy GM ad D l yX10_choosesOn (wA yX10_choosesOn cX10_choosesOn 2 (some .boolean)) rmX10_choosesOn [vr 10 0] S (fun x S' => (x, S') = r) := by
  refine PM.of (lv := [(0, vr 10 0)]) GM_ok (by decide) (Nat.le_of_ble_eq_true rfl) rfl (by simp) ?_
  intro p e s m args below meth c A hM
  rw [fX10_choosesOn] at hf
  refine w_aln (q := 0) (n := 1) hM (dtab_at okX10_choosesOn 0 rfl) rfl rfl ?_
  refine w_getr (C := RX10) (T := TX10) (i := 28) (k2 := 102) (q := 18) (n := 4) hM rfl (by decide) (fun _ => rfl) ly_X10 lkF_X10_78 (dtab_at okX10_choosesOn 1 rfl) rfl ?_
  refine w_ic (n := 5) hM (0 : Int32) (dtab_at okX10_choosesOn 2 rfl) (by decide) rfl ?_
  by_cases hg5 : (0 : Int32) < 0 ∨ 2 ≤ (0 : Int32).toNatClampNeg
  · rw [if_pos hg5] at hf; cases hf
  rw [if_neg hg5] at hf
  refine w_ald (nn := 2) (n := 6) hM rfl hg5 (dtab_at okX10_choosesOn 3 rfl) rfl ?_
  refine w_ic (n := 7) hM (1 : Int32) (dtab_at okX10_choosesOn 4 rfl) (by decide) rfl ?_
  refine w_isub (n := 8) hM (dtab_at okX10_choosesOn 5 rfl) rfl ?_
  refine w_isn (n := 9) (lv' := [(1, vi ((S.2 18 (0 : Int32).toNatClampNeg) - (1 : Int32))), (0, vr 10 0)]) hM (dtab_at okX10_choosesOn 6 rfl) (by decide) rfl rfl ?_
  refine WW.lvs [1, 0] (lv2 := [(0, vr 10 0), (1, vi ((S.2 18 (0 : Int32).toNatClampNeg) - (1 : Int32)))]) rfl ?_
  exact wLX10_choosesOn_9 hM nF r nF S ((S.2 18 (0 : Int32).toNatClampNeg) - (1 : Int32)) hf
def BX10_pairs_88 (nF : Nat) (k29 : PS → Int32 → Int32 → Option (Int32 × PS)) (S : PS) (v2 : Int32) : Option (Int32 × PS) := ((fX10_choosesOn nF S).bind fun r0 => (k29 r0.2 v2 r0.1))
set_option maxHeartbeats 4000000 in
set_option maxRecDepth 100000 in
theorem wBX10_pairs_88 {cy : ClassId × ClassId} {ad : Nat → Nat} {D : va_G} {p : Program} {l : Launch} {e : Env} {s : State} {m : MethodId} {args : Array Value} {below : List Frame} {meth : Method} {c : Code} {A : Nat → Prop} (hM : MX cy GM ad D p s m args meth c cX10_pairs 6 RX10 (some .int) A) (nF : Nat) (r : Int32 × PS) (k29 : PS → Int32 → Int32 → Option (Int32 × PS)) (hk29 : ∀ (S : PS) (v2 : Int32) (v3 : Int32), k29 S v2 v3 = some r → WW cy GM ad D p l e rmX10_pairs s m args below meth c 6 A (poi (fun x S' => (x, S') = r)) 29 [(0, vr 10 0), (2, vi v2), (3, vi v3)] [] S) (S : PS) (v2 : Int32) (hf : BX10_pairs_88 nF k29 S v2 = some r) : WW cy GM ad D p l e rmX10_pairs s m args below meth c 6 A (poi (fun x S' => (x, S') = r)) 88 [(0, vr 10 0), (2, vi v2)] [] S := by
  rw [BX10_pairs_88] at hf
  refine w_aln (q := 0) (n := 89) hM (dtab_at okX10_pairs 50 rfl) rfl rfl ?_
  obtain ⟨r0, hr0, hf⟩ := Option.bind_eq_some_iff.mp hf
  refine w_callVi (n := 92) (As := []) (rest := []) (k := 10) (j := 0) (C := RX10) (T := TX10) (N := 43) hM (c_X10_choosesOn nF S r0 hr0) lkM_X10_202 mv_X10_choosesOn (by decide) rfl (by decide) rfl (Nat.le_of_ble_eq_true rfl) rfl (dtab_at okX10_pairs 51 rfl) rfl (fun x0 S0 hp0 => ?_)
  have hx_ := congrArg Prod.fst hp0
  have hs_ := congrArg Prod.snd hp0
  dsimp only at hx_ hs_
  subst hx_
  subst hs_
  refine w_isn (n := 93) (lv' := [(3, vi r0.1), (0, vr 10 0), (2, vi v2)]) hM (dtab_at okX10_pairs 52 rfl) (by decide) rfl rfl ?_
  refine w_goto (n := 29) hM (dtab_at okX10_pairs 53 rfl) (by decide) ?_
  refine WW.lvs [1, 2, 0] (lv2 := [(0, vr 10 0), (2, vi v2), (3, vi r0.1)]) rfl ?_
  exact hk29 r0.2 v2 r0.1 hf
def LX10_pairs_62 (nF : Nat) (k29 : PS → Int32 → Int32 → Option (Int32 × PS)) : Nat → PS → Int32 → Int32 → Option (Int32 × PS)
  | 0, _, _, _ => none
  | n + 1, S, v2, v5 => (if (5 : Int32) ≤ v5 then (BX10_pairs_88 nF k29 S v2) else (if v5 < 0 ∨ 5 ≤ v5.toNatClampNeg then none else (LX10_pairs_62 nF k29 n (sta S 22 v5.toNatClampNeg (S.2 21 v5.toNatClampNeg)) v2 (v5 + (1 : Int32)))))
set_option maxHeartbeats 4000000 in
set_option maxRecDepth 100000 in
theorem wLX10_pairs_62 {cy : ClassId × ClassId} {ad : Nat → Nat} {D : va_G} {p : Program} {l : Launch} {e : Env} {s : State} {m : MethodId} {args : Array Value} {below : List Frame} {meth : Method} {c : Code} {A : Nat → Prop} (hM : MX cy GM ad D p s m args meth c cX10_pairs 6 RX10 (some .int) A) (nF : Nat) (r : Int32 × PS) (k29 : PS → Int32 → Int32 → Option (Int32 × PS)) (hk29 : ∀ (S : PS) (v2 : Int32) (v3 : Int32), k29 S v2 v3 = some r → WW cy GM ad D p l e rmX10_pairs s m args below meth c 6 A (poi (fun x S' => (x, S') = r)) 29 [(0, vr 10 0), (2, vi v2), (3, vi v3)] [] S) : ∀ (n : Nat) (S : PS) (v2 : Int32) (v5 : Int32), LX10_pairs_62 nF k29 n S v2 v5 = some r → WW cy GM ad D p l e rmX10_pairs s m args below meth c 6 A (poi (fun x S' => (x, S') = r)) 62 [(0, vr 10 0), (2, vi v2), (5, vi v5)] [] S := by
  intro n
  induction n with
  | zero => intro S v2 v5 hf; rw [LX10_pairs_62] at hf; cases hf
  | succ n ih =>
    intro S v2 v5 hf
    rw [LX10_pairs_62] at hf
    refine w_il (q := 2) (n := 64) hM (dtab_at okX10_pairs 37 rfl) rfl rfl ?_
    refine w_ic (n := 65) hM (5 : Int32) (dtab_at okX10_pairs 38 rfl) (by decide) rfl ?_
    refine w_ic_ge (n := 88) (n2 := 68) hM (dtab_at okX10_pairs 39 rfl) (by decide) rfl (fun (h65 : (5 : Int32) ≤ v5) => ?_) (fun (h65 : ¬ (5 : Int32) ≤ v5) => ?_)
    · skip
      rw [if_pos h65] at hf
      refine WW.lvs [0, 1] (lv2 := [(0, vr 10 0), (2, vi v2)]) rfl ?_
      exact wBX10_pairs_88 hM nF r k29 hk29 S v2 hf
    · skip
      rw [if_neg h65] at hf
      refine w_aln (q := 0) (n := 69) hM (dtab_at okX10_pairs 40 rfl) rfl rfl ?_
      refine w_getr (C := RX10) (T := TX10) (i := 32) (k2 := 105) (q := 22) (n := 72) hM rfl (by decide) (fun _ => rfl) ly_X10 lkF_X10_90 (dtab_at okX10_pairs 41 rfl) rfl ?_
      refine w_il (q := 2) (n := 74) hM (dtab_at okX10_pairs 42 rfl) rfl rfl ?_
      refine w_aln (q := 0) (n := 75) hM (dtab_at okX10_pairs 43 rfl) rfl rfl ?_
      refine w_getr (C := RX10) (T := TX10) (i := 31) (k2 := 105) (q := 21) (n := 78) hM rfl (by decide) (fun _ => rfl) ly_X10 lkF_X10_87 (dtab_at okX10_pairs 44 rfl) rfl ?_
      refine w_il (q := 2) (n := 80) hM (dtab_at okX10_pairs 45 rfl) rfl rfl ?_
      by_cases hg80 : v5 < 0 ∨ 5 ≤ v5.toNatClampNeg
      · rw [if_pos hg80] at hf; cases hf
      rw [if_neg hg80] at hf
      refine w_ald (nn := 5) (n := 81) hM rfl hg80 (dtab_at okX10_pairs 46 rfl) rfl ?_
      refine w_ast (nn := 5) (n := 82) hM rfl hg80 (dtab_at okX10_pairs 47 rfl) rfl ?_
      refine w_iinc (q := 2) (n := 85) (v := (v5 + (1 : Int32))) (lv' := [(5, vi (v5 + (1 : Int32))), (0, vr 10 0), (2, vi v2)]) hM (dtab_at okX10_pairs 48 rfl) rfl rfl (by decide) rfl rfl ?_
      refine w_goto (n := 62) hM (dtab_at okX10_pairs 49 rfl) (by decide) ?_
      refine WW.lvs [1, 2, 0] (lv2 := [(0, vr 10 0), (2, vi v2), (5, vi (v5 + (1 : Int32)))]) rfl ?_
      exact ih (sta S 22 v5.toNatClampNeg (S.2 21 v5.toNatClampNeg)) v2 (v5 + (1 : Int32)) hf
def LX10_pairs_29 (nF : Nat) : Nat → PS → Int32 → Int32 → Option (Int32 × PS)
  | 0, _, _, _ => none
  | n + 1, S, v2, v3 => (if v3 = (0 : Int32) then (some (v2, S)) else ((fX10_choiceCost nF S).bind fun r0 => (if r0 = (-1 : Int32) then (BX10_pairs_88 nF (LX10_pairs_29 nF n) S v2) else (if v2 = (-1 : Int32) then (LX10_pairs_62 nF (LX10_pairs_29 nF n) nF S r0 (0 : Int32)) else (if v2 ≤ r0 then (BX10_pairs_88 nF (LX10_pairs_29 nF n) S v2) else (LX10_pairs_62 nF (LX10_pairs_29 nF n) nF S r0 (0 : Int32)))))))
set_option maxHeartbeats 4000000 in
set_option maxRecDepth 100000 in
theorem wLX10_pairs_29 {cy : ClassId × ClassId} {ad : Nat → Nat} {D : va_G} {p : Program} {l : Launch} {e : Env} {s : State} {m : MethodId} {args : Array Value} {below : List Frame} {meth : Method} {c : Code} {A : Nat → Prop} (hM : MX cy GM ad D p s m args meth c cX10_pairs 6 RX10 (some .int) A) (nF : Nat) (r : Int32 × PS) : ∀ (n : Nat) (S : PS) (v2 : Int32) (v3 : Int32), LX10_pairs_29 nF n S v2 v3 = some r → WW cy GM ad D p l e rmX10_pairs s m args below meth c 6 A (poi (fun x S' => (x, S') = r)) 29 [(0, vr 10 0), (2, vi v2), (3, vi v3)] [] S := by
  intro n
  induction n with
  | zero => intro S v2 v3 hf; rw [LX10_pairs_29] at hf; cases hf
  | succ n ih =>
    intro S v2 v3 hf
    rw [LX10_pairs_29] at hf
    refine w_iln (q := 2) (n := 30) hM (dtab_at okX10_pairs 19 rfl) rfl rfl ?_
    refine w_if_eq (n := 96) (n2 := 33) hM (dtab_at okX10_pairs 20 rfl) (by decide) rfl (fun (h30 : v3 = (0 : Int32)) => ?_) (fun (h30 : ¬ v3 = (0 : Int32)) => ?_)
    · skip
      rw [if_pos h30] at hf
      refine w_iln (q := 1) (n := 97) hM (dtab_at okX10_pairs 54 rfl) rfl rfl ?_
      exact r_i hM (dtab_at okX10_pairs 55 rfl) (Option.some.inj hf)
    · skip
      rw [if_neg h30] at hf
      refine w_aln (q := 0) (n := 34) hM (dtab_at okX10_pairs 21 rfl) rfl rfl ?_
      obtain ⟨r0, hr0, hf⟩ := Option.bind_eq_some_iff.mp hf
      refine w_callVi (n := 37) (As := []) (rest := []) (k := 10) (j := 0) (C := RX10) (T := TX10) (N := 43) hM (c_X10_choiceCost nF S r0 hr0) lkM_X10_198 mv_X10_choiceCost (by decide) rfl (by decide) rfl (Nat.le_of_ble_eq_true rfl) rfl (dtab_at okX10_pairs 22 rfl) rfl (fun x0 S0 hp0 => ?_)
      obtain ⟨hx_, hs_⟩ := hp0
      have hs_ := hs_.symm
      have hx_ := hx_.symm
      subst hs_
      subst hx_
      refine w_is (n := 39) (lv' := [(4, vi r0), (0, vr 10 0), (2, vi v2), (3, vi v3)]) hM (dtab_at okX10_pairs 23 rfl) (by decide) rfl rfl ?_
      refine w_il (q := 0) (n := 41) hM (dtab_at okX10_pairs 24 rfl) rfl rfl ?_
      refine w_ic (n := 42) hM (-1 : Int32) (dtab_at okX10_pairs 25 rfl) (by decide) rfl ?_
      refine w_ic_eq (n := 88) (n2 := 45) hM (dtab_at okX10_pairs 26 rfl) (by decide) rfl (fun (h42 : r0 = (-1 : Int32)) => ?_) (fun (h42 : ¬ r0 = (-1 : Int32)) => ?_)
      · skip
        rw [if_pos h42] at hf
        refine WW.lvs [1, 2] (lv2 := [(0, vr 10 0), (2, vi v2)]) rfl ?_
        exact wBX10_pairs_88 hM nF r (LX10_pairs_29 nF n) ih S v2 hf
      · skip
        rw [if_neg h42] at hf
        refine w_iln (q := 2) (n := 46) hM (dtab_at okX10_pairs 27 rfl) rfl rfl ?_
        refine w_ic (n := 47) hM (-1 : Int32) (dtab_at okX10_pairs 28 rfl) (by decide) rfl ?_
        refine w_ic_eq (n := 56) (n2 := 50) hM (dtab_at okX10_pairs 29 rfl) (by decide) rfl (fun (h47 : v2 = (-1 : Int32)) => ?_) (fun (h47 : ¬ v2 = (-1 : Int32)) => ?_)
        · skip
          rw [if_pos h47] at hf
          refine w_il (q := 0) (n := 58) hM (dtab_at okX10_pairs 33 rfl) rfl rfl ?_
          refine w_isn (n := 59) (lv' := [(2, vi r0), (4, vi r0), (0, vr 10 0), (3, vi v3)]) hM (dtab_at okX10_pairs 34 rfl) (by decide) rfl rfl ?_
          refine w_ic (n := 60) hM (0 : Int32) (dtab_at okX10_pairs 35 rfl) (by decide) rfl ?_
          refine w_is (n := 62) (lv' := [(5, vi (0 : Int32)), (2, vi r0), (4, vi r0), (0, vr 10 0), (3, vi v3)]) hM (dtab_at okX10_pairs 36 rfl) (by decide) rfl rfl ?_
          refine WW.lvs [3, 1, 0] (lv2 := [(0, vr 10 0), (2, vi r0), (5, vi (0 : Int32))]) rfl ?_
          exact wLX10_pairs_62 hM nF r (LX10_pairs_29 nF n) ih nF S r0 (0 : Int32) hf
        · skip
          rw [if_neg h47] at hf
          refine w_il (q := 0) (n := 52) hM (dtab_at okX10_pairs 30 rfl) rfl rfl ?_
          refine w_iln (q := 2) (n := 53) hM (dtab_at okX10_pairs 31 rfl) rfl rfl ?_
          refine w_ic_ge (n := 88) (n2 := 56) hM (dtab_at okX10_pairs 32 rfl) (by decide) rfl (fun (h53 : v2 ≤ r0) => ?_) (fun (h53 : ¬ v2 ≤ r0) => ?_)
          · skip
            rw [if_pos h53] at hf
            refine WW.lvs [1, 2] (lv2 := [(0, vr 10 0), (2, vi v2)]) rfl ?_
            exact wBX10_pairs_88 hM nF r (LX10_pairs_29 nF n) ih S v2 hf
          · skip
            rw [if_neg h53] at hf
            refine w_il (q := 0) (n := 58) hM (dtab_at okX10_pairs 33 rfl) rfl rfl ?_
            refine w_isn (n := 59) (lv' := [(2, vi r0), (4, vi r0), (0, vr 10 0), (3, vi v3)]) hM (dtab_at okX10_pairs 34 rfl) (by decide) rfl rfl ?_
            refine w_ic (n := 60) hM (0 : Int32) (dtab_at okX10_pairs 35 rfl) (by decide) rfl ?_
            refine w_is (n := 62) (lv' := [(5, vi (0 : Int32)), (2, vi r0), (4, vi r0), (0, vr 10 0), (3, vi v3)]) hM (dtab_at okX10_pairs 36 rfl) (by decide) rfl rfl ?_
            refine WW.lvs [3, 1, 0] (lv2 := [(0, vr 10 0), (2, vi r0), (5, vi (0 : Int32))]) rfl ?_
            exact wLX10_pairs_62 hM nF r (LX10_pairs_29 nF n) ih nF S r0 (0 : Int32) hf
def BX10_pairs_25 (nF : Nat) (S : PS) : Option (Int32 × PS) := (LX10_pairs_29 nF nF S (-1 : Int32) (1 : Int32))
set_option maxHeartbeats 4000000 in
set_option maxRecDepth 100000 in
theorem wBX10_pairs_25 {cy : ClassId × ClassId} {ad : Nat → Nat} {D : va_G} {p : Program} {l : Launch} {e : Env} {s : State} {m : MethodId} {args : Array Value} {below : List Frame} {meth : Method} {c : Code} {A : Nat → Prop} (hM : MX cy GM ad D p s m args meth c cX10_pairs 6 RX10 (some .int) A) (nF : Nat) (r : Int32 × PS) (S : PS) (hf : BX10_pairs_25 nF S = some r) : WW cy GM ad D p l e rmX10_pairs s m args below meth c 6 A (poi (fun x S' => (x, S') = r)) 25 [(0, vr 10 0)] [] S := by
  rw [BX10_pairs_25] at hf
  refine w_ic (n := 26) hM (-1 : Int32) (dtab_at okX10_pairs 15 rfl) (by decide) rfl ?_
  refine w_isn (n := 27) (lv' := [(2, vi (-1 : Int32)), (0, vr 10 0)]) hM (dtab_at okX10_pairs 16 rfl) (by decide) rfl rfl ?_
  refine w_ic (n := 28) hM (1 : Int32) (dtab_at okX10_pairs 17 rfl) (by decide) rfl ?_
  refine w_isn (n := 29) (lv' := [(3, vi (1 : Int32)), (2, vi (-1 : Int32)), (0, vr 10 0)]) hM (dtab_at okX10_pairs 18 rfl) (by decide) rfl rfl ?_
  refine WW.lvs [2, 1, 0] (lv2 := [(0, vr 10 0), (2, vi (-1 : Int32)), (3, vi (1 : Int32))]) rfl ?_
  exact wLX10_pairs_29 hM nF r nF S (-1 : Int32) (1 : Int32) hf
def LX10_pairs_7 (nF : Nat) : Nat → PS → Int32 → Option (Int32 × PS)
  | 0, _, _ => none
  | n + 1, S, v2 => (if (5 : Int32) ≤ v2 then (BX10_pairs_25 nF S) else (if v2 < 0 ∨ 5 ≤ v2.toNatClampNeg then none else (LX10_pairs_7 nF n (sta S 21 v2.toNatClampNeg (0 : Int32)) (v2 + (1 : Int32)))))
set_option maxHeartbeats 4000000 in
set_option maxRecDepth 100000 in
theorem wLX10_pairs_7 {cy : ClassId × ClassId} {ad : Nat → Nat} {D : va_G} {p : Program} {l : Launch} {e : Env} {s : State} {m : MethodId} {args : Array Value} {below : List Frame} {meth : Method} {c : Code} {A : Nat → Prop} (hM : MX cy GM ad D p s m args meth c cX10_pairs 6 RX10 (some .int) A) (nF : Nat) (r : Int32 × PS) : ∀ (n : Nat) (S : PS) (v2 : Int32), LX10_pairs_7 nF n S v2 = some r → WW cy GM ad D p l e rmX10_pairs s m args below meth c 6 A (poi (fun x S' => (x, S') = r)) 7 [(0, vr 10 0), (2, vi v2)] [] S := by
  intro n
  induction n with
  | zero => intro S v2 hf; rw [LX10_pairs_7] at hf; cases hf
  | succ n ih =>
    intro S v2 hf
    rw [LX10_pairs_7] at hf
    refine w_iln (q := 1) (n := 8) hM (dtab_at okX10_pairs 5 rfl) rfl rfl ?_
    refine w_ic (n := 9) hM (5 : Int32) (dtab_at okX10_pairs 6 rfl) (by decide) rfl ?_
    refine w_ic_ge (n := 25) (n2 := 12) hM (dtab_at okX10_pairs 7 rfl) (by decide) rfl (fun (h9 : (5 : Int32) ≤ v2) => ?_) (fun (h9 : ¬ (5 : Int32) ≤ v2) => ?_)
    · skip
      rw [if_pos h9] at hf
      refine WW.lvs [0] (lv2 := [(0, vr 10 0)]) rfl ?_
      exact wBX10_pairs_25 hM nF r S hf
    · skip
      rw [if_neg h9] at hf
      refine w_aln (q := 0) (n := 13) hM (dtab_at okX10_pairs 8 rfl) rfl rfl ?_
      refine w_getr (C := RX10) (T := TX10) (i := 31) (k2 := 105) (q := 21) (n := 16) hM rfl (by decide) (fun _ => rfl) ly_X10 lkF_X10_87 (dtab_at okX10_pairs 9 rfl) rfl ?_
      refine w_iln (q := 1) (n := 17) hM (dtab_at okX10_pairs 10 rfl) rfl rfl ?_
      refine w_ic (n := 18) hM (0 : Int32) (dtab_at okX10_pairs 11 rfl) (by decide) rfl ?_
      by_cases hg18 : v2 < 0 ∨ 5 ≤ v2.toNatClampNeg
      · rw [if_pos hg18] at hf; cases hf
      rw [if_neg hg18] at hf
      refine w_ast (nn := 5) (n := 19) hM rfl hg18 (dtab_at okX10_pairs 12 rfl) rfl ?_
      refine w_iinc (q := 1) (n := 22) (v := (v2 + (1 : Int32))) (lv' := [(2, vi (v2 + (1 : Int32))), (0, vr 10 0)]) hM (dtab_at okX10_pairs 13 rfl) rfl rfl (by decide) rfl rfl ?_
      refine w_goto (n := 7) hM (dtab_at okX10_pairs 14 rfl) (by decide) ?_
      refine WW.lvs [1, 0] (lv2 := [(0, vr 10 0), (2, vi (v2 + (1 : Int32)))]) rfl ?_
      exact ih (sta S 21 v2.toNatClampNeg (0 : Int32)) (v2 + (1 : Int32)) hf
def fX10_pairs (nF : Nat) (S : PS) (a1 : Int32) : Option (Int32 × PS) := ((fX10_gather nF S a1).bind fun r0 => (LX10_pairs_7 nF nF r0 (0 : Int32)))
set_option maxHeartbeats 4000000 in
set_option maxRecDepth 100000 in
theorem c_X10_pairs {cy : ClassId × ClassId} {ad : Nat → Nat} {D : va_G} {l : Launch} (nF : Nat) (S : PS) (a1 : Int32) (r : Int32 × PS) (hf : fX10_pairs nF S a1 = some r) : PMi cy GM ad D l yX10_pairs (wA yX10_pairs cX10_pairs 6 (some .int)) rmX10_pairs [vr 10 0, vi a1] S (fun x S' => (x, S') = r) := by
  refine PM.of (lv := [(0, vr 10 0), (1, vi a1)]) GM_ok (by decide) (Nat.le_of_ble_eq_true rfl) rfl (by simp) ?_
  intro p e s m args below meth c A hM
  rw [fX10_pairs] at hf
  refine w_aln (q := 0) (n := 1) hM (dtab_at okX10_pairs 0 rfl) rfl rfl ?_
  refine w_iln (q := 1) (n := 2) hM (dtab_at okX10_pairs 1 rfl) rfl rfl ?_
  obtain ⟨r0, hr0, hf⟩ := Option.bind_eq_some_iff.mp hf
  refine w_callVv (n := 5) (As := [vi a1]) (rest := []) (k := 10) (j := 0) (C := RX10) (T := TX10) (N := 43) hM (c_X10_gather nF S a1 r0 hr0) lkM_X10_195 mv_X10_gather (by decide) rfl (by decide) rfl (Nat.le_of_ble_eq_true rfl) rfl (dtab_at okX10_pairs 2 rfl) rfl (fun S0 hp0 => ?_)
  have hs_ := hp0.symm
  subst hs_
  refine w_ic (n := 6) hM (0 : Int32) (dtab_at okX10_pairs 3 rfl) (by decide) rfl ?_
  refine w_isn (n := 7) (lv' := [(2, vi (0 : Int32)), (0, vr 10 0), (1, vi a1)]) hM (dtab_at okX10_pairs 4 rfl) (by decide) rfl rfl ?_
  refine WW.lvs [1, 0] (lv2 := [(0, vr 10 0), (2, vi (0 : Int32))]) rfl ?_
  exact wLX10_pairs_7 hM nF r nF r0 (0 : Int32) hf
def fX10_pairing (nF : Nat) (S : PS) (a1 : Int32) : Option (Int32 × PS) := (if (fX10_in S a1 (0 : Int32) ((S.1 0 12) - (1 : Int32))) = (0 : Int32) then (some ((-2 : Int32), S)) else ((fX10_pairs nF S a1).bind fun r1 => (some (r1.1, r1.2))))
set_option maxHeartbeats 4000000 in
set_option maxRecDepth 100000 in
theorem c_X10_pairing {cy : ClassId × ClassId} {ad : Nat → Nat} {D : va_G} {l : Launch} (nF : Nat) (S : PS) (a1 : Int32) (r : Int32 × PS) (hf : fX10_pairing nF S a1 = some r) : PMi cy GM ad D l yX10_pairing (wA yX10_pairing cX10_pairing 2 (some .int)) rmX10_pairing [vr 10 0, vi a1] S (fun x S' => (x, S') = r) := by
  refine PM.of (lv := [(0, vr 10 0), (1, vi a1)]) GM_ok (by decide) (Nat.le_of_ble_eq_true rfl) rfl (by simp) ?_
  intro p e s m args below meth c A hM
  rw [fX10_pairing] at hf
  refine w_iln (q := 1) (n := 1) hM (dtab_at okX10_pairing 0 rfl) rfl rfl ?_
  refine w_ic (n := 2) hM (0 : Int32) (dtab_at okX10_pairing 1 rfl) (by decide) rfl ?_
  refine w_aln (q := 0) (n := 3) hM (dtab_at okX10_pairing 2 rfl) rfl rfl ?_
  refine w_geti (C := RX10) (T := TX10) (i := 12) (n := 6) hM rfl (by decide) ly_X10 lkF_X10_161 (dtab_at okX10_pairing 3 rfl) rfl ?_
  refine w_ic (n := 7) hM (1 : Int32) (dtab_at okX10_pairing 4 rfl) (by decide) rfl ?_
  refine w_isub (n := 8) hM (dtab_at okX10_pairing 5 rfl) rfl ?_
  refine w_callSi (n := 11) (As := [vi a1, vi (0 : Int32), vi ((S.1 0 12) - (1 : Int32))]) (rest := []) hM (c_X10_in S a1 (0 : Int32) ((S.1 0 12) - (1 : Int32))) lkM_X10_120 ms_X10_in (by decide) rfl (Nat.le_of_ble_eq_true rfl) rfl (dtab_at okX10_pairing 6 rfl) rfl (fun x0 S0 hp0 => ?_)
  obtain ⟨hx_, hs_⟩ := hp0
  have hs_ := hs_.symm
  subst hs_
  subst hx_
  refine w_if_eq (n := 22) (n2 := 14) hM (dtab_at okX10_pairing 7 rfl) (by decide) rfl (fun (h11 : (fX10_in S a1 (0 : Int32) ((S.1 0 12) - (1 : Int32))) = (0 : Int32)) => ?_) (fun (h11 : ¬ (fX10_in S a1 (0 : Int32) ((S.1 0 12) - (1 : Int32))) = (0 : Int32)) => ?_)
  · skip
    rw [if_pos h11] at hf
    refine w_bi (n := 24) hM (-2 : Int32) (dtab_at okX10_pairing 12 rfl) (by decide) rfl ?_
    exact r_i hM (dtab_at okX10_pairing 13 rfl) (Option.some.inj hf)
  · skip
    rw [if_neg h11] at hf
    refine w_aln (q := 0) (n := 15) hM (dtab_at okX10_pairing 8 rfl) rfl rfl ?_
    refine w_iln (q := 1) (n := 16) hM (dtab_at okX10_pairing 9 rfl) rfl rfl ?_
    obtain ⟨r1, hr1, hf⟩ := Option.bind_eq_some_iff.mp hf
    refine w_callVi (n := 19) (As := [vi a1]) (rest := []) (k := 10) (j := 0) (C := RX10) (T := TX10) (N := 43) hM (c_X10_pairs nF S a1 r1 hr1) lkM_X10_206 mv_X10_pairs (by decide) rfl (by decide) rfl (Nat.le_of_ble_eq_true rfl) rfl (dtab_at okX10_pairing 10 rfl) rfl (fun x1 S1 hp1 => ?_)
    have hx_ := congrArg Prod.fst hp1
    have hs_ := congrArg Prod.snd hp1
    dsimp only at hx_ hs_
    subst hx_
    subst hs_
    refine w_goto (n := 24) hM (dtab_at okX10_pairing 11 rfl) (by decide) ?_
    exact r_i hM (dtab_at okX10_pairing 13 rfl) (Option.some.inj hf)
def BX10_twinOf_98 (nF : Nat) (S : PS) (v5 : Int32) : Option (Int32 × PS) := (if v5 < 0 ∨ 5 ≤ v5.toNatClampNeg then none else (if (1 : Int32) < 0 ∨ 2 ≤ (1 : Int32).toNatClampNeg then none else (if (S.2 22 v5.toNatClampNeg) = (S.2 18 (1 : Int32).toNatClampNeg) then (some ((-1 : Int32), S)) else (if ((5 : Int32) + (S.2 22 v5.toNatClampNeg)) < 0 ∨ 10 ≤ ((5 : Int32) + (S.2 22 v5.toNatClampNeg)).toNatClampNeg then none else (some ((S.2 19 ((5 : Int32) + (S.2 22 v5.toNatClampNeg)).toNatClampNeg), S))))))
set_option maxHeartbeats 4000000 in
set_option maxRecDepth 100000 in
theorem wBX10_twinOf_98 {cy : ClassId × ClassId} {ad : Nat → Nat} {D : va_G} {p : Program} {l : Launch} {e : Env} {s : State} {m : MethodId} {args : Array Value} {below : List Frame} {meth : Method} {c : Code} {A : Nat → Prop} (hM : MX cy GM ad D p s m args meth c cX10_twinOf 6 RX10 (some .int) A) (nF : Nat) (r : Int32 × PS) (S : PS) (v5 : Int32) (hf : BX10_twinOf_98 nF S v5 = some r) : WW cy GM ad D p l e rmX10_twinOf s m args below meth c 6 A (poi (fun x S' => (x, S') = r)) 98 [(0, vr 10 0), (5, vi v5)] [] S := by
  rw [BX10_twinOf_98] at hf
  refine w_aln (q := 0) (n := 99) hM (dtab_at okX10_twinOf 56 rfl) rfl rfl ?_
  refine w_getr (C := RX10) (T := TX10) (i := 32) (k2 := 105) (q := 22) (n := 102) hM rfl (by decide) (fun _ => rfl) ly_X10 lkF_X10_90 (dtab_at okX10_twinOf 57 rfl) rfl ?_
  refine w_il (q := 1) (n := 104) hM (dtab_at okX10_twinOf 58 rfl) rfl rfl ?_
  by_cases hg104 : v5 < 0 ∨ 5 ≤ v5.toNatClampNeg
  · rw [if_pos hg104] at hf; cases hf
  rw [if_neg hg104] at hf
  refine w_ald (nn := 5) (n := 105) hM rfl hg104 (dtab_at okX10_twinOf 59 rfl) rfl ?_
  refine w_aln (q := 0) (n := 106) hM (dtab_at okX10_twinOf 60 rfl) rfl rfl ?_
  refine w_getr (C := RX10) (T := TX10) (i := 28) (k2 := 102) (q := 18) (n := 109) hM rfl (by decide) (fun _ => rfl) ly_X10 lkF_X10_78 (dtab_at okX10_twinOf 61 rfl) rfl ?_
  refine w_ic (n := 110) hM (1 : Int32) (dtab_at okX10_twinOf 62 rfl) (by decide) rfl ?_
  by_cases hg110 : (1 : Int32) < 0 ∨ 2 ≤ (1 : Int32).toNatClampNeg
  · rw [if_pos hg110] at hf; cases hf
  rw [if_neg hg110] at hf
  refine w_ald (nn := 2) (n := 111) hM rfl hg110 (dtab_at okX10_twinOf 63 rfl) rfl ?_
  refine w_ic_ne (n := 118) (n2 := 114) hM (dtab_at okX10_twinOf 64 rfl) (by decide) rfl (fun (h111 : ¬ (S.2 22 v5.toNatClampNeg) = (S.2 18 (1 : Int32).toNatClampNeg)) => ?_) (fun (h111 : (S.2 22 v5.toNatClampNeg) = (S.2 18 (1 : Int32).toNatClampNeg)) => ?_)
  · skip
    rw [if_neg h111] at hf
    refine w_aln (q := 0) (n := 119) hM (dtab_at okX10_twinOf 67 rfl) rfl rfl ?_
    refine w_getr (C := RX10) (T := TX10) (i := 29) (k2 := 110) (q := 19) (n := 122) hM rfl (by decide) (fun _ => rfl) ly_X10 lkF_X10_81 (dtab_at okX10_twinOf 68 rfl) rfl ?_
    refine w_ic (n := 123) hM (5 : Int32) (dtab_at okX10_twinOf 69 rfl) (by decide) rfl ?_
    refine w_aln (q := 0) (n := 124) hM (dtab_at okX10_twinOf 70 rfl) rfl rfl ?_
    refine w_getr (C := RX10) (T := TX10) (i := 32) (k2 := 105) (q := 22) (n := 127) hM rfl (by decide) (fun _ => rfl) ly_X10 lkF_X10_90 (dtab_at okX10_twinOf 71 rfl) rfl ?_
    refine w_il (q := 1) (n := 129) hM (dtab_at okX10_twinOf 72 rfl) rfl rfl ?_
    refine w_ald (nn := 5) (n := 130) hM rfl hg104 (dtab_at okX10_twinOf 73 rfl) rfl ?_
    refine w_iadd (n := 131) hM (dtab_at okX10_twinOf 74 rfl) rfl ?_
    by_cases hg131 : ((5 : Int32) + (S.2 22 v5.toNatClampNeg)) < 0 ∨ 10 ≤ ((5 : Int32) + (S.2 22 v5.toNatClampNeg)).toNatClampNeg
    · rw [if_pos hg131] at hf; cases hf
    rw [if_neg hg131] at hf
    refine w_ald (nn := 10) (n := 132) hM rfl hg131 (dtab_at okX10_twinOf 75 rfl) rfl ?_
    exact r_i hM (dtab_at okX10_twinOf 76 rfl) (Option.some.inj hf)
  · skip
    rw [if_pos h111] at hf
    refine w_ic (n := 115) hM (-1 : Int32) (dtab_at okX10_twinOf 65 rfl) (by decide) rfl ?_
    refine w_goto (n := 132) hM (dtab_at okX10_twinOf 66 rfl) (by decide) ?_
    exact r_i hM (dtab_at okX10_twinOf 76 rfl) (Option.some.inj hf)
def LX10_twinOf_76 (nF : Nat) : Nat → PS → Int32 → Int32 → Option (Int32 × PS)
  | 0, _, _, _ => none
  | n + 1, S, v1, v5 => (if (0 : Int32) < 0 ∨ 2 ≤ (0 : Int32).toNatClampNeg then none else (if (S.2 18 (0 : Int32).toNatClampNeg) ≤ v5 then (some ((-1 : Int32), S)) else (if v5 < 0 ∨ 10 ≤ v5.toNatClampNeg then none else (if (S.2 19 v5.toNatClampNeg) = v1 then (BX10_twinOf_98 nF S v5) else (LX10_twinOf_76 nF n S v1 (v5 + (1 : Int32)))))))
set_option maxHeartbeats 4000000 in
set_option maxRecDepth 100000 in
theorem wLX10_twinOf_76 {cy : ClassId × ClassId} {ad : Nat → Nat} {D : va_G} {p : Program} {l : Launch} {e : Env} {s : State} {m : MethodId} {args : Array Value} {below : List Frame} {meth : Method} {c : Code} {A : Nat → Prop} (hM : MX cy GM ad D p s m args meth c cX10_twinOf 6 RX10 (some .int) A) (nF : Nat) (r : Int32 × PS) : ∀ (n : Nat) (S : PS) (v1 : Int32) (v5 : Int32), LX10_twinOf_76 nF n S v1 v5 = some r → WW cy GM ad D p l e rmX10_twinOf s m args below meth c 6 A (poi (fun x S' => (x, S') = r)) 76 [(0, vr 10 0), (1, vi v1), (5, vi v5)] [] S := by
  intro n
  induction n with
  | zero => intro S v1 v5 hf; rw [LX10_twinOf_76] at hf; cases hf
  | succ n ih =>
    intro S v1 v5 hf
    rw [LX10_twinOf_76] at hf
    refine w_il (q := 2) (n := 78) hM (dtab_at okX10_twinOf 44 rfl) rfl rfl ?_
    refine w_aln (q := 0) (n := 79) hM (dtab_at okX10_twinOf 45 rfl) rfl rfl ?_
    refine w_getr (C := RX10) (T := TX10) (i := 28) (k2 := 102) (q := 18) (n := 82) hM rfl (by decide) (fun _ => rfl) ly_X10 lkF_X10_78 (dtab_at okX10_twinOf 46 rfl) rfl ?_
    refine w_ic (n := 83) hM (0 : Int32) (dtab_at okX10_twinOf 47 rfl) (by decide) rfl ?_
    by_cases hg83 : (0 : Int32) < 0 ∨ 2 ≤ (0 : Int32).toNatClampNeg
    · rw [if_pos hg83] at hf; cases hf
    rw [if_neg hg83] at hf
    refine w_ald (nn := 2) (n := 84) hM rfl hg83 (dtab_at okX10_twinOf 48 rfl) rfl ?_
    refine w_ic_ge (n := 139) (n2 := 87) hM (dtab_at okX10_twinOf 49 rfl) (by decide) rfl (fun (h84 : (S.2 18 (0 : Int32).toNatClampNeg) ≤ v5) => ?_) (fun (h84 : ¬ (S.2 18 (0 : Int32).toNatClampNeg) ≤ v5) => ?_)
    · skip
      rw [if_pos h84] at hf
      refine w_ic (n := 140) hM (-1 : Int32) (dtab_at okX10_twinOf 79 rfl) (by decide) rfl ?_
      exact r_i hM (dtab_at okX10_twinOf 80 rfl) (Option.some.inj hf)
    · skip
      rw [if_neg h84] at hf
      refine w_aln (q := 0) (n := 88) hM (dtab_at okX10_twinOf 50 rfl) rfl rfl ?_
      refine w_getr (C := RX10) (T := TX10) (i := 29) (k2 := 110) (q := 19) (n := 91) hM rfl (by decide) (fun _ => rfl) ly_X10 lkF_X10_81 (dtab_at okX10_twinOf 51 rfl) rfl ?_
      refine w_il (q := 2) (n := 93) hM (dtab_at okX10_twinOf 52 rfl) rfl rfl ?_
      by_cases hg93 : v5 < 0 ∨ 10 ≤ v5.toNatClampNeg
      · rw [if_pos hg93] at hf; cases hf
      rw [if_neg hg93] at hf
      refine w_ald (nn := 10) (n := 94) hM rfl hg93 (dtab_at okX10_twinOf 53 rfl) rfl ?_
      refine w_iln (q := 1) (n := 95) hM (dtab_at okX10_twinOf 54 rfl) rfl rfl ?_
      refine w_ic_ne (n := 133) (n2 := 98) hM (dtab_at okX10_twinOf 55 rfl) (by decide) rfl (fun (h95 : ¬ (S.2 19 v5.toNatClampNeg) = v1) => ?_) (fun (h95 : (S.2 19 v5.toNatClampNeg) = v1) => ?_)
      · skip
        rw [if_neg h95] at hf
        refine w_iinc (q := 2) (n := 136) (v := (v5 + (1 : Int32))) (lv' := [(5, vi (v5 + (1 : Int32))), (0, vr 10 0), (1, vi v1)]) hM (dtab_at okX10_twinOf 77 rfl) rfl rfl (by decide) rfl rfl ?_
        refine w_goto (n := 76) hM (dtab_at okX10_twinOf 78 rfl) (by decide) ?_
        refine WW.lvs [1, 2, 0] (lv2 := [(0, vr 10 0), (1, vi v1), (5, vi (v5 + (1 : Int32)))]) rfl ?_
        exact ih S v1 (v5 + (1 : Int32)) hf
      · skip
        rw [if_pos h95] at hf
        refine WW.lvs [0, 2] (lv2 := [(0, vr 10 0), (5, vi v5)]) rfl ?_
        exact wBX10_twinOf_98 hM nF r S v5 hf
def BX10_twinOf_59 (nF : Nat) (S : PS) (v1 : Int32) (v3 : Int32) : Option (Int32 × PS) := (if v3 = (-1 : Int32) then (some ((-1 : Int32), S)) else ((fX10_pairs nF S v3).bind fun r0 => (LX10_twinOf_76 nF nF r0.2 v1 (0 : Int32))))
set_option maxHeartbeats 4000000 in
set_option maxRecDepth 100000 in
theorem wBX10_twinOf_59 {cy : ClassId × ClassId} {ad : Nat → Nat} {D : va_G} {p : Program} {l : Launch} {e : Env} {s : State} {m : MethodId} {args : Array Value} {below : List Frame} {meth : Method} {c : Code} {A : Nat → Prop} (hM : MX cy GM ad D p s m args meth c cX10_twinOf 6 RX10 (some .int) A) (nF : Nat) (r : Int32 × PS) (S : PS) (v1 : Int32) (v3 : Int32) (hf : BX10_twinOf_59 nF S v1 v3 = some r) : WW cy GM ad D p l e rmX10_twinOf s m args below meth c 6 A (poi (fun x S' => (x, S') = r)) 59 [(0, vr 10 0), (1, vi v1), (3, vi v3)] [] S := by
  rw [BX10_twinOf_59] at hf
  refine w_iln (q := 2) (n := 60) hM (dtab_at okX10_twinOf 33 rfl) rfl rfl ?_
  refine w_ic (n := 61) hM (-1 : Int32) (dtab_at okX10_twinOf 34 rfl) (by decide) rfl ?_
  refine w_ic_ne (n := 66) (n2 := 64) hM (dtab_at okX10_twinOf 35 rfl) (by decide) rfl (fun (h61 : ¬ v3 = (-1 : Int32)) => ?_) (fun (h61 : v3 = (-1 : Int32)) => ?_)
  · skip
    rw [if_neg h61] at hf
    refine w_aln (q := 0) (n := 67) hM (dtab_at okX10_twinOf 38 rfl) rfl rfl ?_
    refine w_iln (q := 2) (n := 68) hM (dtab_at okX10_twinOf 39 rfl) rfl rfl ?_
    obtain ⟨r0, hr0, hf⟩ := Option.bind_eq_some_iff.mp hf
    refine w_callVi (n := 71) (As := [vi v3]) (rest := []) (k := 10) (j := 0) (C := RX10) (T := TX10) (N := 43) hM (c_X10_pairs nF S v3 r0 hr0) lkM_X10_206 mv_X10_pairs (by decide) rfl (by decide) rfl (Nat.le_of_ble_eq_true rfl) rfl (dtab_at okX10_twinOf 40 rfl) rfl (fun x0 S0 hp0 => ?_)
    have hx_ := congrArg Prod.fst hp0
    have hs_ := congrArg Prod.snd hp0
    dsimp only at hx_ hs_
    subst hx_
    subst hs_
    refine w_is (n := 73) (lv' := [(4, vi r0.1), (0, vr 10 0), (1, vi v1), (3, vi v3)]) hM (dtab_at okX10_twinOf 41 rfl) (by decide) rfl rfl ?_
    refine w_ic (n := 74) hM (0 : Int32) (dtab_at okX10_twinOf 42 rfl) (by decide) rfl ?_
    refine w_is (n := 76) (lv' := [(5, vi (0 : Int32)), (4, vi r0.1), (0, vr 10 0), (1, vi v1), (3, vi v3)]) hM (dtab_at okX10_twinOf 43 rfl) (by decide) rfl rfl ?_
    refine WW.lvs [2, 3, 0] (lv2 := [(0, vr 10 0), (1, vi v1), (5, vi (0 : Int32))]) rfl ?_
    exact wLX10_twinOf_76 hM nF r nF r0.2 v1 (0 : Int32) hf
  · skip
    rw [if_pos h61] at hf
    refine w_ic (n := 65) hM (-1 : Int32) (dtab_at okX10_twinOf 36 rfl) (by decide) rfl ?_
    exact r_i hM (dtab_at okX10_twinOf 37 rfl) (Option.some.inj hf)
def LX10_twinOf_21 (nF : Nat) : Nat → PS → Int32 → Int32 → Int32 → Int32 → Option (Int32 × PS)
  | 0, _, _, _, _, _ => none
  | n + 1, S, v1, v2, v3, v4 => (if (S.1 0 12) ≤ v4 then (BX10_twinOf_59 nF S v1 v3) else (if v2 = (-1 : Int32) then (LX10_twinOf_21 nF n S v1 v2 v3 (v4 + (1 : Int32))) else (if v4 < 0 ∨ 40 ≤ v4.toNatClampNeg then none else (if (S.2 11 v4.toNatClampNeg) = v2 then (LX10_twinOf_21 nF n S v1 v2 v4 (v4 + (1 : Int32))) else (LX10_twinOf_21 nF n S v1 v2 v3 (v4 + (1 : Int32)))))))
set_option maxHeartbeats 4000000 in
set_option maxRecDepth 100000 in
theorem wLX10_twinOf_21 {cy : ClassId × ClassId} {ad : Nat → Nat} {D : va_G} {p : Program} {l : Launch} {e : Env} {s : State} {m : MethodId} {args : Array Value} {below : List Frame} {meth : Method} {c : Code} {A : Nat → Prop} (hM : MX cy GM ad D p s m args meth c cX10_twinOf 6 RX10 (some .int) A) (nF : Nat) (r : Int32 × PS) : ∀ (n : Nat) (S : PS) (v1 : Int32) (v2 : Int32) (v3 : Int32) (v4 : Int32), LX10_twinOf_21 nF n S v1 v2 v3 v4 = some r → WW cy GM ad D p l e rmX10_twinOf s m args below meth c 6 A (poi (fun x S' => (x, S') = r)) 21 [(0, vr 10 0), (1, vi v1), (2, vi v2), (3, vi v3), (4, vi v4)] [] S := by
  intro n
  induction n with
  | zero => intro S v1 v2 v3 v4 hf; rw [LX10_twinOf_21] at hf; cases hf
  | succ n ih =>
    intro S v1 v2 v3 v4 hf
    rw [LX10_twinOf_21] at hf
    refine w_il (q := 4) (n := 23) hM (dtab_at okX10_twinOf 14 rfl) rfl rfl ?_
    refine w_aln (q := 0) (n := 24) hM (dtab_at okX10_twinOf 15 rfl) rfl rfl ?_
    refine w_geti (C := RX10) (T := TX10) (i := 12) (n := 27) hM rfl (by decide) ly_X10 lkF_X10_161 (dtab_at okX10_twinOf 16 rfl) rfl ?_
    refine w_ic_ge (n := 59) (n2 := 30) hM (dtab_at okX10_twinOf 17 rfl) (by decide) rfl (fun (h27 : (S.1 0 12) ≤ v4) => ?_) (fun (h27 : ¬ (S.1 0 12) ≤ v4) => ?_)
    · skip
      rw [if_pos h27] at hf
      refine WW.lvs [0, 1, 3] (lv2 := [(0, vr 10 0), (1, vi v1), (3, vi v3)]) rfl ?_
      exact wBX10_twinOf_59 hM nF r S v1 v3 hf
    · skip
      rw [if_neg h27] at hf
      refine w_iln (q := 2) (n := 31) hM (dtab_at okX10_twinOf 18 rfl) rfl rfl ?_
      refine w_ic (n := 32) hM (-1 : Int32) (dtab_at okX10_twinOf 19 rfl) (by decide) rfl ?_
      refine w_ic_eq (n := 51) (n2 := 35) hM (dtab_at okX10_twinOf 20 rfl) (by decide) rfl (fun (h32 : v2 = (-1 : Int32)) => ?_) (fun (h32 : ¬ v2 = (-1 : Int32)) => ?_)
      · skip
        rw [if_pos h32] at hf
        refine w_iln (q := 3) (n := 52) hM (dtab_at okX10_twinOf 29 rfl) rfl rfl ?_
        refine w_isn (n := 53) (lv' := [(3, vi v3), (0, vr 10 0), (1, vi v1), (2, vi v2), (4, vi v4)]) hM (dtab_at okX10_twinOf 30 rfl) (by decide) rfl rfl ?_
        refine w_iinc (q := 4) (n := 56) (v := (v4 + (1 : Int32))) (lv' := [(4, vi (v4 + (1 : Int32))), (3, vi v3), (0, vr 10 0), (1, vi v1), (2, vi v2)]) hM (dtab_at okX10_twinOf 31 rfl) rfl rfl (by decide) rfl rfl ?_
        refine w_goto (n := 21) hM (dtab_at okX10_twinOf 32 rfl) (by decide) ?_
        refine WW.lvs [2, 3, 4, 1, 0] (lv2 := [(0, vr 10 0), (1, vi v1), (2, vi v2), (3, vi v3), (4, vi (v4 + (1 : Int32)))]) rfl ?_
        exact ih S v1 v2 v3 (v4 + (1 : Int32)) hf
      · skip
        rw [if_neg h32] at hf
        refine w_aln (q := 0) (n := 36) hM (dtab_at okX10_twinOf 21 rfl) rfl rfl ?_
        refine w_getr (C := RX10) (T := TX10) (i := 17) (k2 := 140) (q := 11) (n := 39) hM rfl (by decide) (fun _ => rfl) ly_X10 lkF_X10_48 (dtab_at okX10_twinOf 22 rfl) rfl ?_
        refine w_il (q := 4) (n := 41) hM (dtab_at okX10_twinOf 23 rfl) rfl rfl ?_
        by_cases hg41 : v4 < 0 ∨ 40 ≤ v4.toNatClampNeg
        · rw [if_pos hg41] at hf; cases hf
        rw [if_neg hg41] at hf
        refine w_ald (nn := 40) (n := 42) hM rfl hg41 (dtab_at okX10_twinOf 24 rfl) rfl ?_
        refine w_iln (q := 2) (n := 43) hM (dtab_at okX10_twinOf 25 rfl) rfl rfl ?_
        refine w_ic_ne (n := 51) (n2 := 46) hM (dtab_at okX10_twinOf 26 rfl) (by decide) rfl (fun (h43 : ¬ (S.2 11 v4.toNatClampNeg) = v2) => ?_) (fun (h43 : (S.2 11 v4.toNatClampNeg) = v2) => ?_)
        · skip
          rw [if_neg h43] at hf
          refine w_iln (q := 3) (n := 52) hM (dtab_at okX10_twinOf 29 rfl) rfl rfl ?_
          refine w_isn (n := 53) (lv' := [(3, vi v3), (0, vr 10 0), (1, vi v1), (2, vi v2), (4, vi v4)]) hM (dtab_at okX10_twinOf 30 rfl) (by decide) rfl rfl ?_
          refine w_iinc (q := 4) (n := 56) (v := (v4 + (1 : Int32))) (lv' := [(4, vi (v4 + (1 : Int32))), (3, vi v3), (0, vr 10 0), (1, vi v1), (2, vi v2)]) hM (dtab_at okX10_twinOf 31 rfl) rfl rfl (by decide) rfl rfl ?_
          refine w_goto (n := 21) hM (dtab_at okX10_twinOf 32 rfl) (by decide) ?_
          refine WW.lvs [2, 3, 4, 1, 0] (lv2 := [(0, vr 10 0), (1, vi v1), (2, vi v2), (3, vi v3), (4, vi (v4 + (1 : Int32)))]) rfl ?_
          exact ih S v1 v2 v3 (v4 + (1 : Int32)) hf
        · skip
          rw [if_pos h43] at hf
          refine w_il (q := 4) (n := 48) hM (dtab_at okX10_twinOf 27 rfl) rfl rfl ?_
          refine w_goto (n := 52) hM (dtab_at okX10_twinOf 28 rfl) (by decide) ?_
          refine w_isn (n := 53) (lv' := [(3, vi v4), (0, vr 10 0), (1, vi v1), (2, vi v2), (4, vi v4)]) hM (dtab_at okX10_twinOf 30 rfl) (by decide) rfl rfl ?_
          refine w_iinc (q := 4) (n := 56) (v := (v4 + (1 : Int32))) (lv' := [(4, vi (v4 + (1 : Int32))), (3, vi v4), (0, vr 10 0), (1, vi v1), (2, vi v2)]) hM (dtab_at okX10_twinOf 31 rfl) rfl rfl (by decide) rfl rfl ?_
          refine w_goto (n := 21) hM (dtab_at okX10_twinOf 32 rfl) (by decide) ?_
          refine WW.lvs [2, 3, 4, 1, 0] (lv2 := [(0, vr 10 0), (1, vi v1), (2, vi v2), (3, vi v4), (4, vi (v4 + (1 : Int32)))]) rfl ?_
          exact ih S v1 v2 v4 (v4 + (1 : Int32)) hf
def fX10_twinOf (nF : Nat) (S : PS) (a1 : Int32) : Option (Int32 × PS) := ((fX10_matches nF S (0 : Int32)).bind fun r0 => (if a1 < 0 ∨ 80 ≤ a1.toNatClampNeg then none else ((fX10_jointAt nF r0 (r0.2 13 a1.toNatClampNeg)).bind fun r1 => (LX10_twinOf_21 nF nF r0 a1 r1 (-1 : Int32) (0 : Int32)))))
set_option maxHeartbeats 4000000 in
set_option maxRecDepth 100000 in
theorem c_X10_twinOf {cy : ClassId × ClassId} {ad : Nat → Nat} {D : va_G} {l : Launch} (nF : Nat) (S : PS) (a1 : Int32) (r : Int32 × PS) (hf : fX10_twinOf nF S a1 = some r) : PMi cy GM ad D l yX10_twinOf (wA yX10_twinOf cX10_twinOf 6 (some .int)) rmX10_twinOf [vr 10 0, vi a1] S (fun x S' => (x, S') = r) := by
  refine PM.of (lv := [(0, vr 10 0), (1, vi a1)]) GM_ok (by decide) (Nat.le_of_ble_eq_true rfl) rfl (by simp) ?_
  intro p e s m args below meth c A hM
  rw [fX10_twinOf] at hf
  refine w_aln (q := 0) (n := 1) hM (dtab_at okX10_twinOf 0 rfl) rfl rfl ?_
  refine w_ic (n := 2) hM (0 : Int32) (dtab_at okX10_twinOf 1 rfl) (by decide) rfl ?_
  obtain ⟨r0, hr0, hf⟩ := Option.bind_eq_some_iff.mp hf
  refine w_callVv (n := 5) (As := [vi (0 : Int32)]) (rest := []) (k := 10) (j := 0) (C := RX10) (T := TX10) (N := 43) hM (c_X10_matches nF S (0 : Int32) r0 hr0) lkM_X10_172 mv_X10_matches (by decide) rfl (by decide) rfl (Nat.le_of_ble_eq_true rfl) rfl (dtab_at okX10_twinOf 2 rfl) rfl (fun S0 hp0 => ?_)
  have hs_ := hp0.symm
  subst hs_
  refine w_aln (q := 0) (n := 6) hM (dtab_at okX10_twinOf 3 rfl) rfl rfl ?_
  refine w_aln (q := 0) (n := 7) hM (dtab_at okX10_twinOf 4 rfl) rfl rfl ?_
  refine w_getr (C := RX10) (T := TX10) (i := 19) (k2 := 180) (q := 13) (n := 10) hM rfl (by decide) (fun _ => rfl) ly_X10 lkF_X10_54 (dtab_at okX10_twinOf 5 rfl) rfl ?_
  refine w_iln (q := 1) (n := 11) hM (dtab_at okX10_twinOf 6 rfl) rfl rfl ?_
  by_cases hg11 : a1 < 0 ∨ 80 ≤ a1.toNatClampNeg
  · rw [if_pos hg11] at hf; cases hf
  rw [if_neg hg11] at hf
  refine w_ald (nn := 80) (n := 12) hM rfl hg11 (dtab_at okX10_twinOf 7 rfl) rfl ?_
  obtain ⟨r1, hr1, hf⟩ := Option.bind_eq_some_iff.mp hf
  refine w_callVi (n := 15) (As := [vi (r0.2 13 a1.toNatClampNeg)]) (rest := []) (k := 10) (j := 0) (C := RX10) (T := TX10) (N := 43) hM (c_X10_jointAt nF r0 (r0.2 13 a1.toNatClampNeg) r1 hr1) lkM_X10_189 mv_X10_jointAt (by decide) rfl (by decide) rfl (Nat.le_of_ble_eq_true rfl) rfl (dtab_at okX10_twinOf 8 rfl) rfl (fun x1 S1 hp1 => ?_)
  obtain ⟨hx_, hs_⟩ := hp1
  have hs_ := hs_.symm
  have hx_ := hx_.symm
  subst hs_
  subst hx_
  refine w_isn (n := 16) (lv' := [(2, vi r1), (0, vr 10 0), (1, vi a1)]) hM (dtab_at okX10_twinOf 9 rfl) (by decide) rfl rfl ?_
  refine w_ic (n := 17) hM (-1 : Int32) (dtab_at okX10_twinOf 10 rfl) (by decide) rfl ?_
  refine w_isn (n := 18) (lv' := [(3, vi (-1 : Int32)), (2, vi r1), (0, vr 10 0), (1, vi a1)]) hM (dtab_at okX10_twinOf 11 rfl) (by decide) rfl rfl ?_
  refine w_ic (n := 19) hM (0 : Int32) (dtab_at okX10_twinOf 12 rfl) (by decide) rfl ?_
  refine w_is (n := 21) (lv' := [(4, vi (0 : Int32)), (3, vi (-1 : Int32)), (2, vi r1), (0, vr 10 0), (1, vi a1)]) hM (dtab_at okX10_twinOf 13 rfl) (by decide) rfl rfl ?_
  refine WW.lvs [3, 4, 2, 1, 0] (lv2 := [(0, vr 10 0), (1, vi a1), (2, vi r1), (3, vi (-1 : Int32)), (4, vi (0 : Int32))]) rfl ?_
  exact wLX10_twinOf_21 hM nF r nF r0 a1 r1 (-1 : Int32) (0 : Int32) hf
def fX10_twin (nF : Nat) (S : PS) (a1 : Int32) : Option (Int32 × PS) := ((fX10_isMark nF S (0 : Int32) a1).bind fun r0 => (if r0 = (0 : Int32) then (some ((-2 : Int32), S)) else ((fX10_twinOf nF S a1).bind fun r1 => (some (r1.1, r1.2)))))
set_option maxHeartbeats 4000000 in
set_option maxRecDepth 100000 in
theorem c_X10_twin {cy : ClassId × ClassId} {ad : Nat → Nat} {D : va_G} {l : Launch} (nF : Nat) (S : PS) (a1 : Int32) (r : Int32 × PS) (hf : fX10_twin nF S a1 = some r) : PMi cy GM ad D l yX10_twin (wA yX10_twin cX10_twin 2 (some .int)) rmX10_twin [vr 10 0, vi a1] S (fun x S' => (x, S') = r) := by
  refine PM.of (lv := [(0, vr 10 0), (1, vi a1)]) GM_ok (by decide) (Nat.le_of_ble_eq_true rfl) rfl (by simp) ?_
  intro p e s m args below meth c A hM
  rw [fX10_twin] at hf
  refine w_aln (q := 0) (n := 1) hM (dtab_at okX10_twin 0 rfl) rfl rfl ?_
  refine w_ic (n := 2) hM (0 : Int32) (dtab_at okX10_twin 1 rfl) (by decide) rfl ?_
  refine w_iln (q := 1) (n := 3) hM (dtab_at okX10_twin 2 rfl) rfl rfl ?_
  obtain ⟨r0, hr0, hf⟩ := Option.bind_eq_some_iff.mp hf
  refine w_callVi (n := 6) (As := [vi (0 : Int32), vi a1]) (rest := []) (k := 10) (j := 0) (C := RX10) (T := TX10) (N := 43) hM (c_X10_isMark nF S (0 : Int32) a1 r0 hr0) lkM_X10_186 mv_X10_isMark (by decide) rfl (by decide) rfl (Nat.le_of_ble_eq_true rfl) rfl (dtab_at okX10_twin 3 rfl) rfl (fun x0 S0 hp0 => ?_)
  obtain ⟨hx_, hs_⟩ := hp0
  have hs_ := hs_.symm
  have hx_ := hx_.symm
  subst hs_
  subst hx_
  refine w_if_eq (n := 17) (n2 := 9) hM (dtab_at okX10_twin 4 rfl) (by decide) rfl (fun (h6 : r0 = (0 : Int32)) => ?_) (fun (h6 : ¬ r0 = (0 : Int32)) => ?_)
  · skip
    rw [if_pos h6] at hf
    refine w_bi (n := 19) hM (-2 : Int32) (dtab_at okX10_twin 9 rfl) (by decide) rfl ?_
    exact r_i hM (dtab_at okX10_twin 10 rfl) (Option.some.inj hf)
  · skip
    rw [if_neg h6] at hf
    refine w_aln (q := 0) (n := 10) hM (dtab_at okX10_twin 5 rfl) rfl rfl ?_
    refine w_iln (q := 1) (n := 11) hM (dtab_at okX10_twin 6 rfl) rfl rfl ?_
    obtain ⟨r1, hr1, hf⟩ := Option.bind_eq_some_iff.mp hf
    refine w_callVi (n := 14) (As := [vi a1]) (rest := []) (k := 10) (j := 0) (C := RX10) (T := TX10) (N := 43) hM (c_X10_twinOf nF S a1 r1 hr1) lkM_X10_209 mv_X10_twinOf (by decide) rfl (by decide) rfl (Nat.le_of_ble_eq_true rfl) rfl (dtab_at okX10_twin 7 rfl) rfl (fun x1 S1 hp1 => ?_)
    have hx_ := congrArg Prod.fst hp1
    have hs_ := congrArg Prod.snd hp1
    dsimp only at hx_ hs_
    subst hx_
    subst hs_
    refine w_goto (n := 19) hM (dtab_at okX10_twin 8 rfl) (by decide) ?_
    exact r_i hM (dtab_at okX10_twin 10 rfl) (Option.some.inj hf)
def fX10_tool (S : PS) (a1 : Int32) (a2 : Int32) (a3 : Int32) : Int32 × PS := if (fX10_in S a1 (1 : Int32) (50 : Int32)) = (0 : Int32) then ((-2 : Int32), S) else (if (fX10_in S a2 (0 : Int32) (50 : Int32)) = (0 : Int32) then ((-2 : Int32), S) else (if (fX10_in S a3 (0 : Int32) (100 : Int32)) = (0 : Int32) then ((-2 : Int32), S) else ((1 : Int32), (sti (sti (sti S 0 33 a1) 0 34 a2) 0 35 a3))))
set_option maxHeartbeats 4000000 in
set_option maxRecDepth 100000 in
theorem c_X10_tool {cy : ClassId × ClassId} {ad : Nat → Nat} {D : va_G} {l : Launch} (S : PS) (a1 : Int32) (a2 : Int32) (a3 : Int32)  : PMi cy GM ad D l yX10_tool (wA yX10_tool cX10_tool 4 (some .int)) rmX10_tool [vr 10 0, vi a1, vi a2, vi a3] S (fun x S' => (x, S') = (fX10_tool S a1 a2 a3)) := by
  refine PM.of (lv := [(0, vr 10 0), (1, vi a1), (2, vi a2), (3, vi a3)]) GM_ok (by decide) (Nat.le_of_ble_eq_true rfl) rfl (by simp) ?_
  intro p e s m args below meth c A hM
  refine w_iln (q := 1) (n := 1) hM (dtab_at okX10_tool 0 rfl) rfl rfl ?_
  refine w_ic (n := 2) hM (1 : Int32) (dtab_at okX10_tool 1 rfl) (by decide) rfl ?_
  refine w_bi (n := 4) hM (50 : Int32) (dtab_at okX10_tool 2 rfl) (by decide) rfl ?_
  refine w_callSi (n := 7) (As := [vi a1, vi (1 : Int32), vi (50 : Int32)]) (rest := []) hM (c_X10_in S a1 (1 : Int32) (50 : Int32)) lkM_X10_120 ms_X10_in (by decide) rfl (Nat.le_of_ble_eq_true rfl) rfl (dtab_at okX10_tool 3 rfl) rfl (fun x0 S0 hp0 => ?_)
  obtain ⟨hx_, hs_⟩ := hp0
  have hs_ := hs_.symm
  subst hs_
  subst hx_
  refine w_if_eq (n := 30) (n2 := 10) hM (dtab_at okX10_tool 4 rfl) (by decide) rfl (fun (h7 : (fX10_in S a1 (1 : Int32) (50 : Int32)) = (0 : Int32)) => ?_) (fun (h7 : ¬ (fX10_in S a1 (1 : Int32) (50 : Int32)) = (0 : Int32)) => ?_)
  · skip
    refine w_bi (n := 32) hM (-2 : Int32) (dtab_at okX10_tool 15 rfl) (by decide) rfl ?_
    exact r_i hM (dtab_at okX10_tool 16 rfl) (by rw [fX10_tool, if_pos h7])
  · skip
    refine w_iln (q := 2) (n := 11) hM (dtab_at okX10_tool 5 rfl) rfl rfl ?_
    refine w_ic (n := 12) hM (0 : Int32) (dtab_at okX10_tool 6 rfl) (by decide) rfl ?_
    refine w_bi (n := 14) hM (50 : Int32) (dtab_at okX10_tool 7 rfl) (by decide) rfl ?_
    refine w_callSi (n := 17) (As := [vi a2, vi (0 : Int32), vi (50 : Int32)]) (rest := []) hM (c_X10_in S a2 (0 : Int32) (50 : Int32)) lkM_X10_120 ms_X10_in (by decide) rfl (Nat.le_of_ble_eq_true rfl) rfl (dtab_at okX10_tool 8 rfl) rfl (fun x1 S1 hp1 => ?_)
    obtain ⟨hx_, hs_⟩ := hp1
    have hs_ := hs_.symm
    subst hs_
    subst hx_
    refine w_if_eq (n := 30) (n2 := 20) hM (dtab_at okX10_tool 9 rfl) (by decide) rfl (fun (h17 : (fX10_in S a2 (0 : Int32) (50 : Int32)) = (0 : Int32)) => ?_) (fun (h17 : ¬ (fX10_in S a2 (0 : Int32) (50 : Int32)) = (0 : Int32)) => ?_)
    · skip
      refine w_bi (n := 32) hM (-2 : Int32) (dtab_at okX10_tool 15 rfl) (by decide) rfl ?_
      exact r_i hM (dtab_at okX10_tool 16 rfl) (by rw [fX10_tool, if_neg h7, if_pos h17])
    · skip
      refine w_iln (q := 3) (n := 21) hM (dtab_at okX10_tool 10 rfl) rfl rfl ?_
      refine w_ic (n := 22) hM (0 : Int32) (dtab_at okX10_tool 11 rfl) (by decide) rfl ?_
      refine w_bi (n := 24) hM (100 : Int32) (dtab_at okX10_tool 12 rfl) (by decide) rfl ?_
      refine w_callSi (n := 27) (As := [vi a3, vi (0 : Int32), vi (100 : Int32)]) (rest := []) hM (c_X10_in S a3 (0 : Int32) (100 : Int32)) lkM_X10_120 ms_X10_in (by decide) rfl (Nat.le_of_ble_eq_true rfl) rfl (dtab_at okX10_tool 13 rfl) rfl (fun x2 S2 hp2 => ?_)
      obtain ⟨hx_, hs_⟩ := hp2
      have hs_ := hs_.symm
      subst hs_
      subst hx_
      refine w_if_ne (n := 33) (n2 := 30) hM (dtab_at okX10_tool 14 rfl) (by decide) rfl (fun (h27 : ¬ (fX10_in S a3 (0 : Int32) (100 : Int32)) = (0 : Int32)) => ?_) (fun (h27 : (fX10_in S a3 (0 : Int32) (100 : Int32)) = (0 : Int32)) => ?_)
      · skip
        refine w_aln (q := 0) (n := 34) hM (dtab_at okX10_tool 17 rfl) rfl rfl ?_
        refine w_iln (q := 1) (n := 35) hM (dtab_at okX10_tool 18 rfl) rfl rfl ?_
        refine w_put (C := RX10) (T := TX10) (i := 33) (ty := .int) (n := 38) hM rfl (by decide) ly_X10 tyX10_ok nmX10 lkF_X10_93 rfl (by decide +kernel) rfl rfl (dtab_at okX10_tool 19 rfl) rfl ?_
        refine w_aln (q := 0) (n := 39) hM (dtab_at okX10_tool 20 rfl) rfl rfl ?_
        refine w_iln (q := 2) (n := 40) hM (dtab_at okX10_tool 21 rfl) rfl rfl ?_
        refine w_put (C := RX10) (T := TX10) (i := 34) (ty := .int) (n := 43) hM rfl (by decide) ly_X10 tyX10_ok nmX10 lkF_X10_96 rfl (by decide +kernel) rfl rfl (dtab_at okX10_tool 22 rfl) rfl ?_
        refine w_aln (q := 0) (n := 44) hM (dtab_at okX10_tool 23 rfl) rfl rfl ?_
        refine w_iln (q := 3) (n := 45) hM (dtab_at okX10_tool 24 rfl) rfl rfl ?_
        refine w_put (C := RX10) (T := TX10) (i := 35) (ty := .int) (n := 48) hM rfl (by decide) ly_X10 tyX10_ok nmX10 lkF_X10_99 rfl (by decide +kernel) rfl rfl (dtab_at okX10_tool 25 rfl) rfl ?_
        refine w_ic (n := 49) hM (1 : Int32) (dtab_at okX10_tool 26 rfl) (by decide) rfl ?_
        exact r_i hM (dtab_at okX10_tool 27 rfl) (by rw [fX10_tool, if_neg h7, if_neg h17, if_neg h27])
      · skip
        refine w_bi (n := 32) hM (-2 : Int32) (dtab_at okX10_tool 15 rfl) (by decide) rfl ?_
        exact r_i hM (dtab_at okX10_tool 16 rfl) (by rw [fX10_tool, if_neg h7, if_neg h17, if_pos h27])
def fX10_lowOf (S : PS) (a1 : Int32) : Int32 := if (S.1 0 34) ≤ a1 then (a1 - (S.1 0 34)) else (0 : Int32)
set_option maxHeartbeats 4000000 in
set_option maxRecDepth 100000 in
theorem c_X10_lowOf {cy : ClassId × ClassId} {ad : Nat → Nat} {D : va_G} {l : Launch} (S : PS) (a1 : Int32)  : PMi cy GM ad D l yX10_lowOf (wA yX10_lowOf cX10_lowOf 2 (some .int)) rmX10_lowOf [vr 10 0, vi a1] S (fun x S' => x = (fX10_lowOf S a1) ∧ S' = S) := by
  refine PM.of (lv := [(0, vr 10 0), (1, vi a1)]) GM_ok (by decide) (Nat.le_of_ble_eq_true rfl) rfl (by simp) ?_
  intro p e s m args below meth c A hM
  refine w_iln (q := 1) (n := 1) hM (dtab_at okX10_lowOf 0 rfl) rfl rfl ?_
  refine w_aln (q := 0) (n := 2) hM (dtab_at okX10_lowOf 1 rfl) rfl rfl ?_
  refine w_geti (C := RX10) (T := TX10) (i := 34) (n := 5) hM rfl (by decide) ly_X10 lkF_X10_96 (dtab_at okX10_lowOf 2 rfl) rfl ?_
  refine w_ic_ge (n := 12) (n2 := 8) hM (dtab_at okX10_lowOf 3 rfl) (by decide) rfl (fun (h5 : (S.1 0 34) ≤ a1) => ?_) (fun (h5 : ¬ (S.1 0 34) ≤ a1) => ?_)
  · skip
    refine w_iln (q := 1) (n := 13) hM (dtab_at okX10_lowOf 6 rfl) rfl rfl ?_
    refine w_aln (q := 0) (n := 14) hM (dtab_at okX10_lowOf 7 rfl) rfl rfl ?_
    refine w_geti (C := RX10) (T := TX10) (i := 34) (n := 17) hM rfl (by decide) ly_X10 lkF_X10_96 (dtab_at okX10_lowOf 8 rfl) rfl ?_
    refine w_isub (n := 18) hM (dtab_at okX10_lowOf 9 rfl) rfl ?_
    exact r_i hM (dtab_at okX10_lowOf 10 rfl) ⟨by rw [fX10_lowOf, if_pos h5], rfl⟩
  · skip
    refine w_ic (n := 9) hM (0 : Int32) (dtab_at okX10_lowOf 4 rfl) (by decide) rfl ?_
    refine w_goto (n := 18) hM (dtab_at okX10_lowOf 5 rfl) (by decide) ?_
    exact r_i hM (dtab_at okX10_lowOf 10 rfl) ⟨by rw [fX10_lowOf, if_neg h5], rfl⟩
def fX10_highOf (S : PS) (a1 : Int32) : Int32 := if (a1 + (S.1 0 34)) ≤ (100 : Int32) then (a1 + (S.1 0 34)) else (100 : Int32)
set_option maxHeartbeats 4000000 in
set_option maxRecDepth 100000 in
theorem c_X10_highOf {cy : ClassId × ClassId} {ad : Nat → Nat} {D : va_G} {l : Launch} (S : PS) (a1 : Int32)  : PMi cy GM ad D l yX10_highOf (wA yX10_highOf cX10_highOf 2 (some .int)) rmX10_highOf [vr 10 0, vi a1] S (fun x S' => x = (fX10_highOf S a1) ∧ S' = S) := by
  refine PM.of (lv := [(0, vr 10 0), (1, vi a1)]) GM_ok (by decide) (Nat.le_of_ble_eq_true rfl) rfl (by simp) ?_
  intro p e s m args below meth c A hM
  refine w_iln (q := 1) (n := 1) hM (dtab_at okX10_highOf 0 rfl) rfl rfl ?_
  refine w_aln (q := 0) (n := 2) hM (dtab_at okX10_highOf 1 rfl) rfl rfl ?_
  refine w_geti (C := RX10) (T := TX10) (i := 34) (n := 5) hM rfl (by decide) ly_X10 lkF_X10_96 (dtab_at okX10_highOf 2 rfl) rfl ?_
  refine w_iadd (n := 6) hM (dtab_at okX10_highOf 3 rfl) rfl ?_
  refine w_bi (n := 8) hM (100 : Int32) (dtab_at okX10_highOf 4 rfl) (by decide) rfl ?_
  refine w_ic_le (n := 16) (n2 := 11) hM (dtab_at okX10_highOf 5 rfl) (by decide) rfl (fun (h8 : (a1 + (S.1 0 34)) ≤ (100 : Int32)) => ?_) (fun (h8 : ¬ (a1 + (S.1 0 34)) ≤ (100 : Int32)) => ?_)
  · skip
    refine w_iln (q := 1) (n := 17) hM (dtab_at okX10_highOf 8 rfl) rfl rfl ?_
    refine w_aln (q := 0) (n := 18) hM (dtab_at okX10_highOf 9 rfl) rfl rfl ?_
    refine w_geti (C := RX10) (T := TX10) (i := 34) (n := 21) hM rfl (by decide) ly_X10 lkF_X10_96 (dtab_at okX10_highOf 10 rfl) rfl ?_
    refine w_iadd (n := 22) hM (dtab_at okX10_highOf 11 rfl) rfl ?_
    exact r_i hM (dtab_at okX10_highOf 12 rfl) ⟨by rw [fX10_highOf, if_pos h8], rfl⟩
  · skip
    refine w_bi (n := 13) hM (100 : Int32) (dtab_at okX10_highOf 6 rfl) (by decide) rfl ?_
    refine w_goto (n := 22) hM (dtab_at okX10_highOf 7 rfl) (by decide) ?_
    exact r_i hM (dtab_at okX10_highOf 12 rfl) ⟨by rw [fX10_highOf, if_neg h8], rfl⟩
def LX10_growth_127 (nF : Nat) : Nat → PS → Int32 → Int32 → Int32 → Int32 → Option (Int32 × PS)
  | 0, _, _, _, _, _ => none
  | n + 1, S, v5, v7, v8, v9 => (if (100 : Int32) ≤ v9 then (some (v8, S)) else (if ((S.1 0 35) * (S.1 0 33)) < (((fX10_highOf S v5) * (S.1 0 33)) + (v7 * v9)) then (LX10_growth_127 nF n S v5 v7 v8 (v9 + (1 : Int32))) else (LX10_growth_127 nF n S v5 v7 v9 (v9 + (1 : Int32)))))
set_option maxHeartbeats 4000000 in
set_option maxRecDepth 100000 in
theorem wLX10_growth_127 {cy : ClassId × ClassId} {ad : Nat → Nat} {D : va_G} {p : Program} {l : Launch} {e : Env} {s : State} {m : MethodId} {args : Array Value} {below : List Frame} {meth : Method} {c : Code} {A : Nat → Prop} (hM : MX cy GM ad D p s m args meth c cX10_growth 10 RX10 (some .int) A) (nF : Nat) (r : Int32 × PS) : ∀ (n : Nat) (S : PS) (v5 : Int32) (v7 : Int32) (v8 : Int32) (v9 : Int32), LX10_growth_127 nF n S v5 v7 v8 v9 = some r → WW cy GM ad D p l e rmX10_growth s m args below meth c 10 A (poi (fun x S' => (x, S') = r)) 127 [(0, vr 10 0), (5, vi v5), (7, vi v7), (8, vi v8), (9, vi v9)] [] S := by
  intro n
  induction n with
  | zero => intro S v5 v7 v8 v9 hf; rw [LX10_growth_127] at hf; cases hf
  | succ n ih =>
    intro S v5 v7 v8 v9 hf
    rw [LX10_growth_127] at hf
    refine w_il (q := 4) (n := 129) hM (dtab_at okX10_growth 72 rfl) rfl rfl ?_
    refine w_bi (n := 131) hM (100 : Int32) (dtab_at okX10_growth 73 rfl) (by decide) rfl ?_
    refine w_ic_ge (n := 178) (n2 := 134) hM (dtab_at okX10_growth 74 rfl) (by decide) rfl (fun (h131 : (100 : Int32) ≤ v9) => ?_) (fun (h131 : ¬ (100 : Int32) ≤ v9) => ?_)
    · skip
      rw [if_pos h131] at hf
      refine w_il (q := 3) (n := 180) hM (dtab_at okX10_growth 97 rfl) rfl rfl ?_
      exact r_i hM (dtab_at okX10_growth 98 rfl) (Option.some.inj hf)
    · skip
      rw [if_neg h131] at hf
      refine w_aln (q := 0) (n := 135) hM (dtab_at okX10_growth 75 rfl) rfl rfl ?_
      refine w_il (q := 1) (n := 137) hM (dtab_at okX10_growth 76 rfl) rfl rfl ?_
      refine w_callVi (n := 140) (As := [vi v5]) (rest := []) (k := 10) (j := 0) (C := RX10) (T := TX10) (N := 43) hM (c_X10_highOf S v5) lkM_X10_215 mv_X10_highOf (by decide) rfl (by decide) rfl (Nat.le_of_ble_eq_true rfl) rfl (dtab_at okX10_growth 77 rfl) rfl (fun x0 S0 hp0 => ?_)
      obtain ⟨hx_, hs_⟩ := hp0
      have hs_ := hs_.symm
      subst hs_
      subst hx_
      refine w_aln (q := 0) (n := 141) hM (dtab_at okX10_growth 78 rfl) rfl rfl ?_
      refine w_geti (C := RX10) (T := TX10) (i := 33) (n := 144) hM rfl (by decide) ly_X10 lkF_X10_93 (dtab_at okX10_growth 79 rfl) rfl ?_
      refine w_imul (n := 145) hM (dtab_at okX10_growth 80 rfl) rfl ?_
      refine w_il (q := 2) (n := 147) hM (dtab_at okX10_growth 81 rfl) rfl rfl ?_
      refine w_il (q := 4) (n := 149) hM (dtab_at okX10_growth 82 rfl) rfl rfl ?_
      refine w_imul (n := 150) hM (dtab_at okX10_growth 83 rfl) rfl ?_
      refine w_iadd (n := 151) hM (dtab_at okX10_growth 84 rfl) rfl ?_
      refine w_aln (q := 0) (n := 152) hM (dtab_at okX10_growth 85 rfl) rfl rfl ?_
      refine w_geti (C := RX10) (T := TX10) (i := 35) (n := 155) hM rfl (by decide) ly_X10 lkF_X10_99 (dtab_at okX10_growth 86 rfl) rfl ?_
      refine w_aln (q := 0) (n := 156) hM (dtab_at okX10_growth 87 rfl) rfl rfl ?_
      refine w_geti (C := RX10) (T := TX10) (i := 33) (n := 159) hM rfl (by decide) ly_X10 lkF_X10_93 (dtab_at okX10_growth 88 rfl) rfl ?_
      refine w_imul (n := 160) hM (dtab_at okX10_growth 89 rfl) rfl ?_
      refine w_ic_gt (n := 168) (n2 := 163) hM (dtab_at okX10_growth 90 rfl) (by decide) rfl (fun (h160 : ((S.1 0 35) * (S.1 0 33)) < (((fX10_highOf S v5) * (S.1 0 33)) + (v7 * v9))) => ?_) (fun (h160 : ¬ ((S.1 0 35) * (S.1 0 33)) < (((fX10_highOf S v5) * (S.1 0 33)) + (v7 * v9))) => ?_)
      · skip
        rw [if_pos h160] at hf
        refine w_il (q := 3) (n := 170) hM (dtab_at okX10_growth 93 rfl) rfl rfl ?_
        refine w_is (n := 172) (lv' := [(8, vi v8), (0, vr 10 0), (5, vi v5), (7, vi v7), (9, vi v9)]) hM (dtab_at okX10_growth 94 rfl) (by decide) rfl rfl ?_
        refine w_iinc (q := 4) (n := 175) (v := (v9 + (1 : Int32))) (lv' := [(9, vi (v9 + (1 : Int32))), (8, vi v8), (0, vr 10 0), (5, vi v5), (7, vi v7)]) hM (dtab_at okX10_growth 95 rfl) rfl rfl (by decide) rfl rfl ?_
        refine w_goto (n := 127) hM (dtab_at okX10_growth 96 rfl) (by decide) ?_
        refine WW.lvs [2, 3, 4, 1, 0] (lv2 := [(0, vr 10 0), (5, vi v5), (7, vi v7), (8, vi v8), (9, vi (v9 + (1 : Int32)))]) rfl ?_
        exact ih S v5 v7 v8 (v9 + (1 : Int32)) hf
      · skip
        rw [if_neg h160] at hf
        refine w_il (q := 4) (n := 165) hM (dtab_at okX10_growth 91 rfl) rfl rfl ?_
        refine w_goto (n := 170) hM (dtab_at okX10_growth 92 rfl) (by decide) ?_
        refine w_is (n := 172) (lv' := [(8, vi v9), (0, vr 10 0), (5, vi v5), (7, vi v7), (9, vi v9)]) hM (dtab_at okX10_growth 94 rfl) (by decide) rfl rfl ?_
        refine w_iinc (q := 4) (n := 175) (v := (v9 + (1 : Int32))) (lv' := [(9, vi (v9 + (1 : Int32))), (8, vi v9), (0, vr 10 0), (5, vi v5), (7, vi v7)]) hM (dtab_at okX10_growth 95 rfl) rfl rfl (by decide) rfl rfl ?_
        refine w_goto (n := 127) hM (dtab_at okX10_growth 96 rfl) (by decide) ?_
        refine WW.lvs [2, 3, 4, 1, 0] (lv2 := [(0, vr 10 0), (5, vi v5), (7, vi v7), (8, vi v9), (9, vi (v9 + (1 : Int32)))]) rfl ?_
        exact ih S v5 v7 v9 (v9 + (1 : Int32)) hf
def BX10_growth_95 (nF : Nat) (S : PS) (v2 : Int32) (v5 : Int32) (v6 : Int32) (t0 : Int32) : Option (Int32 × PS) := (if v2 = (0 : Int32) then (if (0 : Int32) ≤ v6 then (some (v6, S)) else (some ((0 : Int32), S))) else (if v2 = (1 : Int32) then (some (t0, S)) else (LX10_growth_127 nF nF S v5 t0 (-1 : Int32) (0 : Int32))))
set_option maxHeartbeats 4000000 in
set_option maxRecDepth 100000 in
theorem wBX10_growth_95 {cy : ClassId × ClassId} {ad : Nat → Nat} {D : va_G} {p : Program} {l : Launch} {e : Env} {s : State} {m : MethodId} {args : Array Value} {below : List Frame} {meth : Method} {c : Code} {A : Nat → Prop} (hM : MX cy GM ad D p s m args meth c cX10_growth 10 RX10 (some .int) A) (nF : Nat) (r : Int32 × PS) (S : PS) (v2 : Int32) (v5 : Int32) (v6 : Int32) (t0 : Int32) (hf : BX10_growth_95 nF S v2 v5 v6 t0 = some r) : WW cy GM ad D p l e rmX10_growth s m args below meth c 10 A (poi (fun x S' => (x, S') = r)) 95 [(0, vr 10 0), (2, vi v2), (5, vi v5), (6, vi v6)] [vi t0] S := by
  rw [BX10_growth_95] at hf
  refine w_is (n := 97) (lv' := [(7, vi t0), (0, vr 10 0), (2, vi v2), (5, vi v5), (6, vi v6)]) hM (dtab_at okX10_growth 54 rfl) (by decide) rfl rfl ?_
  refine w_iln (q := 2) (n := 98) hM (dtab_at okX10_growth 55 rfl) rfl rfl ?_
  refine w_if_ne (n := 113) (n2 := 101) hM (dtab_at okX10_growth 56 rfl) (by decide) rfl (fun (h98 : ¬ v2 = (0 : Int32)) => ?_) (fun (h98 : v2 = (0 : Int32)) => ?_)
  · skip
    rw [if_neg h98] at hf
    refine w_iln (q := 2) (n := 114) hM (dtab_at okX10_growth 63 rfl) rfl rfl ?_
    refine w_ic (n := 115) hM (1 : Int32) (dtab_at okX10_growth 64 rfl) (by decide) rfl ?_
    refine w_ic_ne (n := 121) (n2 := 118) hM (dtab_at okX10_growth 65 rfl) (by decide) rfl (fun (h115 : ¬ v2 = (1 : Int32)) => ?_) (fun (h115 : v2 = (1 : Int32)) => ?_)
    · skip
      rw [if_neg h115] at hf
      refine w_ic (n := 122) hM (-1 : Int32) (dtab_at okX10_growth 68 rfl) (by decide) rfl ?_
      refine w_is (n := 124) (lv' := [(8, vi (-1 : Int32)), (7, vi t0), (0, vr 10 0), (2, vi v2), (5, vi v5), (6, vi v6)]) hM (dtab_at okX10_growth 69 rfl) (by decide) rfl rfl ?_
      refine w_ic (n := 125) hM (0 : Int32) (dtab_at okX10_growth 70 rfl) (by decide) rfl ?_
      refine w_is (n := 127) (lv' := [(9, vi (0 : Int32)), (8, vi (-1 : Int32)), (7, vi t0), (0, vr 10 0), (2, vi v2), (5, vi v5), (6, vi v6)]) hM (dtab_at okX10_growth 71 rfl) (by decide) rfl rfl ?_
      refine WW.lvs [3, 5, 2, 1, 0] (lv2 := [(0, vr 10 0), (5, vi v5), (7, vi t0), (8, vi (-1 : Int32)), (9, vi (0 : Int32))]) rfl ?_
      exact wLX10_growth_127 hM nF r nF S v5 t0 (-1 : Int32) (0 : Int32) hf
    · skip
      rw [if_pos h115] at hf
      refine w_il (q := 0) (n := 120) hM (dtab_at okX10_growth 66 rfl) rfl rfl ?_
      exact r_i hM (dtab_at okX10_growth 67 rfl) (Option.some.inj hf)
  · skip
    rw [if_pos h98] at hf
    refine w_il (q := 4) (n := 103) hM (dtab_at okX10_growth 57 rfl) rfl rfl ?_
    refine w_if_ge (n := 110) (n2 := 106) hM (dtab_at okX10_growth 58 rfl) (by decide) rfl (fun (h103 : (0 : Int32) ≤ v6) => ?_) (fun (h103 : ¬ (0 : Int32) ≤ v6) => ?_)
    · skip
      rw [if_pos h103] at hf
      refine w_il (q := 4) (n := 112) hM (dtab_at okX10_growth 61 rfl) rfl rfl ?_
      exact r_i hM (dtab_at okX10_growth 62 rfl) (Option.some.inj hf)
    · skip
      rw [if_neg h103] at hf
      refine w_ic (n := 107) hM (0 : Int32) (dtab_at okX10_growth 59 rfl) (by decide) rfl ?_
      refine w_goto (n := 112) hM (dtab_at okX10_growth 60 rfl) (by decide) ?_
      exact r_i hM (dtab_at okX10_growth 62 rfl) (Option.some.inj hf)
def fX10_growth (nF : Nat) (S : PS) (a1 : Int32) (a2 : Int32) : Option (Int32 × PS) := ((fX10_isMark nF S (0 : Int32) a1).bind fun r0 => (if r0 = (0 : Int32) then (some ((-2 : Int32), S)) else (if (fX10_in S a2 (0 : Int32) (2 : Int32)) = (0 : Int32) then (some ((-2 : Int32), S)) else ((fX10_twinOf nF S a1).bind fun r2 => (if r2.1 = (-1 : Int32) then (some ((-4 : Int32), r2.2)) else (if a1 < 0 ∨ 80 ≤ a1.toNatClampNeg then none else (if ((40 : Int32) + r2.1) < 0 ∨ 80 ≤ ((40 : Int32) + r2.1).toNatClampNeg then none else (if (0 : Int32) ≤ ((fX10_highOf r2.2 (r2.2.2 15 ((40 : Int32) + r2.1).toNatClampNeg)) - (fX10_lowOf r2.2 (r2.2.2 15 a1.toNatClampNeg))) then (BX10_growth_95 nF r2.2 a2 (r2.2.2 15 ((40 : Int32) + r2.1).toNatClampNeg) ((fX10_lowOf r2.2 (r2.2.2 15 ((40 : Int32) + r2.1).toNatClampNeg)) - (fX10_highOf r2.2 (r2.2.2 15 a1.toNatClampNeg))) ((fX10_highOf r2.2 (r2.2.2 15 ((40 : Int32) + r2.1).toNatClampNeg)) - (fX10_lowOf r2.2 (r2.2.2 15 a1.toNatClampNeg)))) else (BX10_growth_95 nF r2.2 a2 (r2.2.2 15 ((40 : Int32) + r2.1).toNatClampNeg) ((fX10_lowOf r2.2 (r2.2.2 15 ((40 : Int32) + r2.1).toNatClampNeg)) - (fX10_highOf r2.2 (r2.2.2 15 a1.toNatClampNeg))) (0 : Int32))))))))))
set_option maxHeartbeats 4000000 in
set_option maxRecDepth 100000 in
theorem c_X10_growth {cy : ClassId × ClassId} {ad : Nat → Nat} {D : va_G} {l : Launch} (nF : Nat) (S : PS) (a1 : Int32) (a2 : Int32) (r : Int32 × PS) (hf : fX10_growth nF S a1 a2 = some r) : PMi cy GM ad D l yX10_growth (wA yX10_growth cX10_growth 10 (some .int)) rmX10_growth [vr 10 0, vi a1, vi a2] S (fun x S' => (x, S') = r) := by
  refine PM.of (lv := [(0, vr 10 0), (1, vi a1), (2, vi a2)]) GM_ok (by decide) (Nat.le_of_ble_eq_true rfl) rfl (by simp) ?_
  intro p e s m args below meth c A hM
  rw [fX10_growth] at hf
  refine w_aln (q := 0) (n := 1) hM (dtab_at okX10_growth 0 rfl) rfl rfl ?_
  refine w_ic (n := 2) hM (0 : Int32) (dtab_at okX10_growth 1 rfl) (by decide) rfl ?_
  refine w_iln (q := 1) (n := 3) hM (dtab_at okX10_growth 2 rfl) rfl rfl ?_
  obtain ⟨r0, hr0, hf⟩ := Option.bind_eq_some_iff.mp hf
  refine w_callVi (n := 6) (As := [vi (0 : Int32), vi a1]) (rest := []) (k := 10) (j := 0) (C := RX10) (T := TX10) (N := 43) hM (c_X10_isMark nF S (0 : Int32) a1 r0 hr0) lkM_X10_186 mv_X10_isMark (by decide) rfl (by decide) rfl (Nat.le_of_ble_eq_true rfl) rfl (dtab_at okX10_growth 3 rfl) rfl (fun x0 S0 hp0 => ?_)
  obtain ⟨hx_, hs_⟩ := hp0
  have hs_ := hs_.symm
  have hx_ := hx_.symm
  subst hs_
  subst hx_
  refine w_if_eq (n := 18) (n2 := 9) hM (dtab_at okX10_growth 4 rfl) (by decide) rfl (fun (h6 : r0 = (0 : Int32)) => ?_) (fun (h6 : ¬ r0 = (0 : Int32)) => ?_)
  · skip
    rw [if_pos h6] at hf
    refine w_bi (n := 20) hM (-2 : Int32) (dtab_at okX10_growth 10 rfl) (by decide) rfl ?_
    exact r_i hM (dtab_at okX10_growth 11 rfl) (Option.some.inj hf)
  · skip
    rw [if_neg h6] at hf
    refine w_iln (q := 2) (n := 10) hM (dtab_at okX10_growth 5 rfl) rfl rfl ?_
    refine w_ic (n := 11) hM (0 : Int32) (dtab_at okX10_growth 6 rfl) (by decide) rfl ?_
    refine w_ic (n := 12) hM (2 : Int32) (dtab_at okX10_growth 7 rfl) (by decide) rfl ?_
    refine w_callSi (n := 15) (As := [vi a2, vi (0 : Int32), vi (2 : Int32)]) (rest := []) hM (c_X10_in S a2 (0 : Int32) (2 : Int32)) lkM_X10_120 ms_X10_in (by decide) rfl (Nat.le_of_ble_eq_true rfl) rfl (dtab_at okX10_growth 8 rfl) rfl (fun x1 S1 hp1 => ?_)
    obtain ⟨hx_, hs_⟩ := hp1
    have hs_ := hs_.symm
    subst hs_
    subst hx_
    refine w_if_ne (n := 21) (n2 := 18) hM (dtab_at okX10_growth 9 rfl) (by decide) rfl (fun (h15 : ¬ (fX10_in S a2 (0 : Int32) (2 : Int32)) = (0 : Int32)) => ?_) (fun (h15 : (fX10_in S a2 (0 : Int32) (2 : Int32)) = (0 : Int32)) => ?_)
    · skip
      rw [if_neg h15] at hf
      refine w_aln (q := 0) (n := 22) hM (dtab_at okX10_growth 12 rfl) rfl rfl ?_
      refine w_iln (q := 1) (n := 23) hM (dtab_at okX10_growth 13 rfl) rfl rfl ?_
      obtain ⟨r2, hr2, hf⟩ := Option.bind_eq_some_iff.mp hf
      refine w_callVi (n := 26) (As := [vi a1]) (rest := []) (k := 10) (j := 0) (C := RX10) (T := TX10) (N := 43) hM (c_X10_twinOf nF S a1 r2 hr2) lkM_X10_209 mv_X10_twinOf (by decide) rfl (by decide) rfl (Nat.le_of_ble_eq_true rfl) rfl (dtab_at okX10_growth 14 rfl) rfl (fun x2 S2 hp2 => ?_)
      have hx_ := congrArg Prod.fst hp2
      have hs_ := congrArg Prod.snd hp2
      dsimp only at hx_ hs_
      subst hx_
      subst hs_
      refine w_isn (n := 27) (lv' := [(3, vi r2.1), (0, vr 10 0), (1, vi a1), (2, vi a2)]) hM (dtab_at okX10_growth 15 rfl) (by decide) rfl rfl ?_
      refine w_iln (q := 0) (n := 28) hM (dtab_at okX10_growth 16 rfl) rfl rfl ?_
      refine w_ic (n := 29) hM (-1 : Int32) (dtab_at okX10_growth 17 rfl) (by decide) rfl ?_
      refine w_ic_ne (n := 35) (n2 := 32) hM (dtab_at okX10_growth 18 rfl) (by decide) rfl (fun (h29 : ¬ r2.1 = (-1 : Int32)) => ?_) (fun (h29 : r2.1 = (-1 : Int32)) => ?_)
      · skip
        rw [if_neg h29] at hf
        refine w_aln (q := 1) (n := 36) hM (dtab_at okX10_growth 21 rfl) rfl rfl ?_
        refine w_getr (C := RX10) (T := TX10) (i := 21) (k2 := 180) (q := 15) (n := 39) hM rfl (by decide) (fun _ => rfl) ly_X10 lkF_X10_60 (dtab_at okX10_growth 22 rfl) rfl ?_
        refine w_iln (q := 2) (n := 40) hM (dtab_at okX10_growth 23 rfl) rfl rfl ?_
        by_cases hg40 : a1 < 0 ∨ 80 ≤ a1.toNatClampNeg
        · rw [if_pos hg40] at hf; cases hf
        rw [if_neg hg40] at hf
        refine w_ald (nn := 80) (n := 41) hM rfl hg40 (dtab_at okX10_growth 24 rfl) rfl ?_
        refine w_is (n := 43) (lv' := [(4, vi (r2.2.2 15 a1.toNatClampNeg)), (3, vi r2.1), (0, vr 10 0), (1, vi a1), (2, vi a2)]) hM (dtab_at okX10_growth 25 rfl) (by decide) rfl rfl ?_
        refine w_aln (q := 2) (n := 44) hM (dtab_at okX10_growth 26 rfl) rfl rfl ?_
        refine w_getr (C := RX10) (T := TX10) (i := 21) (k2 := 180) (q := 15) (n := 47) hM rfl (by decide) (fun _ => rfl) ly_X10 lkF_X10_60 (dtab_at okX10_growth 27 rfl) rfl ?_
        refine w_bi (n := 49) hM (40 : Int32) (dtab_at okX10_growth 28 rfl) (by decide) rfl ?_
        refine w_iln (q := 1) (n := 50) hM (dtab_at okX10_growth 29 rfl) rfl rfl ?_
        refine w_iadd (n := 51) hM (dtab_at okX10_growth 30 rfl) rfl ?_
        by_cases hg51 : ((40 : Int32) + r2.1) < 0 ∨ 80 ≤ ((40 : Int32) + r2.1).toNatClampNeg
        · rw [if_pos hg51] at hf; cases hf
        rw [if_neg hg51] at hf
        refine w_ald (nn := 80) (n := 52) hM rfl hg51 (dtab_at okX10_growth 31 rfl) rfl ?_
        refine w_is (n := 54) (lv' := [(5, vi (r2.2.2 15 ((40 : Int32) + r2.1).toNatClampNeg)), (4, vi (r2.2.2 15 a1.toNatClampNeg)), (3, vi r2.1), (0, vr 10 0), (1, vi a1), (2, vi a2)]) hM (dtab_at okX10_growth 32 rfl) (by decide) rfl rfl ?_
        refine w_aln (q := 3) (n := 55) hM (dtab_at okX10_growth 33 rfl) rfl rfl ?_
        refine w_il (q := 0) (n := 57) hM (dtab_at okX10_growth 34 rfl) rfl rfl ?_
        refine w_callVi (n := 60) (As := [vi (r2.2.2 15 ((40 : Int32) + r2.1).toNatClampNeg)]) (rest := []) (k := 10) (j := 0) (C := RX10) (T := TX10) (N := 43) hM (c_X10_lowOf r2.2 (r2.2.2 15 ((40 : Int32) + r2.1).toNatClampNeg)) lkM_X10_212 mv_X10_lowOf (by decide) rfl (by decide) rfl (Nat.le_of_ble_eq_true rfl) rfl (dtab_at okX10_growth 35 rfl) rfl (fun x3 S3 hp3 => ?_)
        obtain ⟨hx_, hs_⟩ := hp3
        have hs_ := hs_.symm
        subst hs_
        subst hx_
        refine w_aln (q := 3) (n := 61) hM (dtab_at okX10_growth 36 rfl) rfl rfl ?_
        refine w_il (q := 1) (n := 63) hM (dtab_at okX10_growth 37 rfl) rfl rfl ?_
        refine w_callVi (n := 66) (As := [vi (r2.2.2 15 a1.toNatClampNeg)]) (rest := [vi (fX10_lowOf r2.2 (r2.2.2 15 ((40 : Int32) + r2.1).toNatClampNeg))]) (k := 10) (j := 0) (C := RX10) (T := TX10) (N := 43) hM (c_X10_highOf r2.2 (r2.2.2 15 a1.toNatClampNeg)) lkM_X10_215 mv_X10_highOf (by decide) rfl (by decide) rfl (Nat.le_of_ble_eq_true rfl) rfl (dtab_at okX10_growth 38 rfl) rfl (fun x4 S4 hp4 => ?_)
        obtain ⟨hx_, hs_⟩ := hp4
        have hs_ := hs_.symm
        subst hs_
        subst hx_
        refine w_isub (n := 67) hM (dtab_at okX10_growth 39 rfl) rfl ?_
        refine w_is (n := 69) (lv' := [(6, vi ((fX10_lowOf r2.2 (r2.2.2 15 ((40 : Int32) + r2.1).toNatClampNeg)) - (fX10_highOf r2.2 (r2.2.2 15 a1.toNatClampNeg)))), (5, vi (r2.2.2 15 ((40 : Int32) + r2.1).toNatClampNeg)), (4, vi (r2.2.2 15 a1.toNatClampNeg)), (3, vi r2.1), (0, vr 10 0), (1, vi a1), (2, vi a2)]) hM (dtab_at okX10_growth 40 rfl) (by decide) rfl rfl ?_
        refine w_aln (q := 4) (n := 70) hM (dtab_at okX10_growth 41 rfl) rfl rfl ?_
        refine w_il (q := 1) (n := 72) hM (dtab_at okX10_growth 42 rfl) rfl rfl ?_
        refine w_callVi (n := 75) (As := [vi (r2.2.2 15 ((40 : Int32) + r2.1).toNatClampNeg)]) (rest := []) (k := 10) (j := 0) (C := RX10) (T := TX10) (N := 43) hM (c_X10_highOf r2.2 (r2.2.2 15 ((40 : Int32) + r2.1).toNatClampNeg)) lkM_X10_215 mv_X10_highOf (by decide) rfl (by decide) rfl (Nat.le_of_ble_eq_true rfl) rfl (dtab_at okX10_growth 43 rfl) rfl (fun x5 S5 hp5 => ?_)
        obtain ⟨hx_, hs_⟩ := hp5
        have hs_ := hs_.symm
        subst hs_
        subst hx_
        refine w_aln (q := 4) (n := 76) hM (dtab_at okX10_growth 44 rfl) rfl rfl ?_
        refine w_il (q := 2) (n := 78) hM (dtab_at okX10_growth 45 rfl) rfl rfl ?_
        refine w_callVi (n := 81) (As := [vi (r2.2.2 15 a1.toNatClampNeg)]) (rest := [vi (fX10_highOf r2.2 (r2.2.2 15 ((40 : Int32) + r2.1).toNatClampNeg))]) (k := 10) (j := 0) (C := RX10) (T := TX10) (N := 43) hM (c_X10_lowOf r2.2 (r2.2.2 15 a1.toNatClampNeg)) lkM_X10_212 mv_X10_lowOf (by decide) rfl (by decide) rfl (Nat.le_of_ble_eq_true rfl) rfl (dtab_at okX10_growth 46 rfl) rfl (fun x6 S6 hp6 => ?_)
        obtain ⟨hx_, hs_⟩ := hp6
        have hs_ := hs_.symm
        subst hs_
        subst hx_
        refine w_isub (n := 82) hM (dtab_at okX10_growth 47 rfl) rfl ?_
        refine w_is (n := 84) (lv' := [(7, vi ((fX10_highOf r2.2 (r2.2.2 15 ((40 : Int32) + r2.1).toNatClampNeg)) - (fX10_lowOf r2.2 (r2.2.2 15 a1.toNatClampNeg)))), (6, vi ((fX10_lowOf r2.2 (r2.2.2 15 ((40 : Int32) + r2.1).toNatClampNeg)) - (fX10_highOf r2.2 (r2.2.2 15 a1.toNatClampNeg)))), (5, vi (r2.2.2 15 ((40 : Int32) + r2.1).toNatClampNeg)), (4, vi (r2.2.2 15 a1.toNatClampNeg)), (3, vi r2.1), (0, vr 10 0), (1, vi a1), (2, vi a2)]) hM (dtab_at okX10_growth 48 rfl) (by decide) rfl rfl ?_
        refine w_il (q := 0) (n := 86) hM (dtab_at okX10_growth 49 rfl) rfl rfl ?_
        refine w_if_ge (n := 93) (n2 := 89) hM (dtab_at okX10_growth 50 rfl) (by decide) rfl (fun (h86 : (0 : Int32) ≤ ((fX10_highOf r2.2 (r2.2.2 15 ((40 : Int32) + r2.1).toNatClampNeg)) - (fX10_lowOf r2.2 (r2.2.2 15 a1.toNatClampNeg)))) => ?_) (fun (h86 : ¬ (0 : Int32) ≤ ((fX10_highOf r2.2 (r2.2.2 15 ((40 : Int32) + r2.1).toNatClampNeg)) - (fX10_lowOf r2.2 (r2.2.2 15 a1.toNatClampNeg)))) => ?_)
        · skip
          rw [if_pos h86] at hf
          refine w_il (q := 0) (n := 95) hM (dtab_at okX10_growth 53 rfl) rfl rfl ?_
          refine WW.lvs [5, 7, 2, 1] (lv2 := [(0, vr 10 0), (2, vi a2), (5, vi (r2.2.2 15 ((40 : Int32) + r2.1).toNatClampNeg)), (6, vi ((fX10_lowOf r2.2 (r2.2.2 15 ((40 : Int32) + r2.1).toNatClampNeg)) - (fX10_highOf r2.2 (r2.2.2 15 a1.toNatClampNeg))))]) rfl ?_
          exact wBX10_growth_95 hM nF r r2.2 a2 (r2.2.2 15 ((40 : Int32) + r2.1).toNatClampNeg) ((fX10_lowOf r2.2 (r2.2.2 15 ((40 : Int32) + r2.1).toNatClampNeg)) - (fX10_highOf r2.2 (r2.2.2 15 a1.toNatClampNeg))) ((fX10_highOf r2.2 (r2.2.2 15 ((40 : Int32) + r2.1).toNatClampNeg)) - (fX10_lowOf r2.2 (r2.2.2 15 a1.toNatClampNeg))) hf
        · skip
          rw [if_neg h86] at hf
          refine w_ic (n := 90) hM (0 : Int32) (dtab_at okX10_growth 51 rfl) (by decide) rfl ?_
          refine w_goto (n := 95) hM (dtab_at okX10_growth 52 rfl) (by decide) ?_
          refine WW.lvs [5, 7, 2, 1] (lv2 := [(0, vr 10 0), (2, vi a2), (5, vi (r2.2.2 15 ((40 : Int32) + r2.1).toNatClampNeg)), (6, vi ((fX10_lowOf r2.2 (r2.2.2 15 ((40 : Int32) + r2.1).toNatClampNeg)) - (fX10_highOf r2.2 (r2.2.2 15 a1.toNatClampNeg))))]) rfl ?_
          exact wBX10_growth_95 hM nF r r2.2 a2 (r2.2.2 15 ((40 : Int32) + r2.1).toNatClampNeg) ((fX10_lowOf r2.2 (r2.2.2 15 ((40 : Int32) + r2.1).toNatClampNeg)) - (fX10_highOf r2.2 (r2.2.2 15 a1.toNatClampNeg))) (0 : Int32) hf
      · skip
        rw [if_pos h29] at hf
        refine w_bi (n := 34) hM (-4 : Int32) (dtab_at okX10_growth 19 rfl) (by decide) rfl ?_
        exact r_i hM (dtab_at okX10_growth 20 rfl) (Option.some.inj hf)
    · skip
      rw [if_pos h15] at hf
      refine w_bi (n := 20) hM (-2 : Int32) (dtab_at okX10_growth 10 rfl) (by decide) rfl ?_
      exact r_i hM (dtab_at okX10_growth 11 rfl) (Option.some.inj hf)
def fX10_work (nF : Nat) (S : PS) (a1 : Int32) (a2 : Int32) : Option (Int32 × PS) := (if (fX10_in S a1 (1 : Int32) (1000 : Int32)) = (0 : Int32) then (some ((-2 : Int32), S)) else (if (fX10_in S a2 (1 : Int32) (8 : Int32)) = (0 : Int32) then (some ((-2 : Int32), S)) else (if (S.1 0 36) = (30 : Int32) then (some ((-3 : Int32), S)) else (if (S.1 0 36) < 0 ∨ 30 ≤ (S.1 0 36).toNatClampNeg then none else (some ((((S.1 0 36) + (1 : Int32)) - (1 : Int32)), (sti (sta (sta S 23 (S.1 0 36).toNatClampNeg a1) 24 (S.1 0 36).toNatClampNeg a2) 0 36 ((S.1 0 36) + (1 : Int32)))))))))
set_option maxHeartbeats 4000000 in
set_option maxRecDepth 100000 in
theorem c_X10_work {cy : ClassId × ClassId} {ad : Nat → Nat} {D : va_G} {l : Launch} (nF : Nat) (S : PS) (a1 : Int32) (a2 : Int32) (r : Int32 × PS) (hf : fX10_work nF S a1 a2 = some r) : PMi cy GM ad D l yX10_work (wA yX10_work cX10_work 3 (some .int)) rmX10_work [vr 10 0, vi a1, vi a2] S (fun x S' => (x, S') = r) := by
  refine PM.of (lv := [(0, vr 10 0), (1, vi a1), (2, vi a2)]) GM_ok (by decide) (Nat.le_of_ble_eq_true rfl) rfl (by simp) ?_
  intro p e s m args below meth c A hM
  rw [fX10_work] at hf
  refine w_iln (q := 1) (n := 1) hM (dtab_at okX10_work 0 rfl) rfl rfl ?_
  refine w_ic (n := 2) hM (1 : Int32) (dtab_at okX10_work 1 rfl) (by decide) rfl ?_
  refine w_si (n := 5) hM (1000 : Int32) (dtab_at okX10_work 2 rfl) (by decide) rfl ?_
  refine w_callSi (n := 8) (As := [vi a1, vi (1 : Int32), vi (1000 : Int32)]) (rest := []) hM (c_X10_in S a1 (1 : Int32) (1000 : Int32)) lkM_X10_120 ms_X10_in (by decide) rfl (Nat.le_of_ble_eq_true rfl) rfl (dtab_at okX10_work 3 rfl) rfl (fun x0 S0 hp0 => ?_)
  obtain ⟨hx_, hs_⟩ := hp0
  have hs_ := hs_.symm
  subst hs_
  subst hx_
  refine w_if_eq (n := 21) (n2 := 11) hM (dtab_at okX10_work 4 rfl) (by decide) rfl (fun (h8 : (fX10_in S a1 (1 : Int32) (1000 : Int32)) = (0 : Int32)) => ?_) (fun (h8 : ¬ (fX10_in S a1 (1 : Int32) (1000 : Int32)) = (0 : Int32)) => ?_)
  · skip
    rw [if_pos h8] at hf
    refine w_bi (n := 23) hM (-2 : Int32) (dtab_at okX10_work 10 rfl) (by decide) rfl ?_
    exact r_i hM (dtab_at okX10_work 11 rfl) (Option.some.inj hf)
  · skip
    rw [if_neg h8] at hf
    refine w_iln (q := 2) (n := 12) hM (dtab_at okX10_work 5 rfl) rfl rfl ?_
    refine w_ic (n := 13) hM (1 : Int32) (dtab_at okX10_work 6 rfl) (by decide) rfl ?_
    refine w_bi (n := 15) hM (8 : Int32) (dtab_at okX10_work 7 rfl) (by decide) rfl ?_
    refine w_callSi (n := 18) (As := [vi a2, vi (1 : Int32), vi (8 : Int32)]) (rest := []) hM (c_X10_in S a2 (1 : Int32) (8 : Int32)) lkM_X10_120 ms_X10_in (by decide) rfl (Nat.le_of_ble_eq_true rfl) rfl (dtab_at okX10_work 8 rfl) rfl (fun x1 S1 hp1 => ?_)
    obtain ⟨hx_, hs_⟩ := hp1
    have hs_ := hs_.symm
    subst hs_
    subst hx_
    refine w_if_ne (n := 24) (n2 := 21) hM (dtab_at okX10_work 9 rfl) (by decide) rfl (fun (h18 : ¬ (fX10_in S a2 (1 : Int32) (8 : Int32)) = (0 : Int32)) => ?_) (fun (h18 : (fX10_in S a2 (1 : Int32) (8 : Int32)) = (0 : Int32)) => ?_)
    · skip
      rw [if_neg h18] at hf
      refine w_aln (q := 0) (n := 25) hM (dtab_at okX10_work 12 rfl) rfl rfl ?_
      refine w_geti (C := RX10) (T := TX10) (i := 36) (n := 28) hM rfl (by decide) ly_X10 lkF_X10_218 (dtab_at okX10_work 13 rfl) rfl ?_
      refine w_bi (n := 30) hM (30 : Int32) (dtab_at okX10_work 14 rfl) (by decide) rfl ?_
      refine w_ic_ne (n := 36) (n2 := 33) hM (dtab_at okX10_work 15 rfl) (by decide) rfl (fun (h30 : ¬ (S.1 0 36) = (30 : Int32)) => ?_) (fun (h30 : (S.1 0 36) = (30 : Int32)) => ?_)
      · skip
        rw [if_neg h30] at hf
        refine w_aln (q := 0) (n := 37) hM (dtab_at okX10_work 18 rfl) rfl rfl ?_
        refine w_getr (C := RX10) (T := TX10) (i := 37) (k2 := 130) (q := 23) (n := 40) hM rfl (by decide) (fun _ => rfl) ly_X10 lkF_X10_102 (dtab_at okX10_work 19 rfl) rfl ?_
        refine w_aln (q := 0) (n := 41) hM (dtab_at okX10_work 20 rfl) rfl rfl ?_
        refine w_geti (C := RX10) (T := TX10) (i := 36) (n := 44) hM rfl (by decide) ly_X10 lkF_X10_218 (dtab_at okX10_work 21 rfl) rfl ?_
        refine w_iln (q := 1) (n := 45) hM (dtab_at okX10_work 22 rfl) rfl rfl ?_
        by_cases hg45 : (S.1 0 36) < 0 ∨ 30 ≤ (S.1 0 36).toNatClampNeg
        · rw [if_pos hg45] at hf; cases hf
        rw [if_neg hg45] at hf
        refine w_ast (nn := 30) (n := 46) hM rfl hg45 (dtab_at okX10_work 23 rfl) rfl ?_
        refine w_aln (q := 0) (n := 47) hM (dtab_at okX10_work 24 rfl) rfl rfl ?_
        refine w_getr (C := RX10) (T := TX10) (i := 38) (k2 := 130) (q := 24) (n := 50) hM rfl (by decide) (fun _ => rfl) ly_X10 lkF_X10_105 (dtab_at okX10_work 25 rfl) rfl ?_
        refine w_aln (q := 0) (n := 51) hM (dtab_at okX10_work 26 rfl) rfl rfl ?_
        refine w_geti (C := RX10) (T := TX10) (i := 36) (n := 54) hM rfl (by decide) ly_X10 lkF_X10_218 (dtab_at okX10_work 27 rfl) rfl ?_
        refine w_iln (q := 2) (n := 55) hM (dtab_at okX10_work 28 rfl) rfl rfl ?_
        refine w_ast (nn := 30) (n := 56) hM rfl hg45 (dtab_at okX10_work 29 rfl) rfl ?_
        refine w_aln (q := 0) (n := 57) hM (dtab_at okX10_work 30 rfl) rfl rfl ?_
        refine w_dup (n := 58) hM (dtab_at okX10_work 31 rfl) rfl rfl ?_
        refine w_geti (C := RX10) (T := TX10) (i := 36) (n := 61) hM rfl (by decide) ly_X10 lkF_X10_218 (dtab_at okX10_work 32 rfl) rfl ?_
        refine w_ic (n := 62) hM (1 : Int32) (dtab_at okX10_work 33 rfl) (by decide) rfl ?_
        refine w_iadd (n := 63) hM (dtab_at okX10_work 34 rfl) rfl ?_
        refine w_put (C := RX10) (T := TX10) (i := 36) (ty := .int) (n := 66) hM rfl (by decide) ly_X10 tyX10_ok nmX10 lkF_X10_218 rfl (by decide +kernel) rfl rfl (dtab_at okX10_work 35 rfl) rfl ?_
        refine w_aln (q := 0) (n := 67) hM (dtab_at okX10_work 36 rfl) rfl rfl ?_
        refine w_geti (C := RX10) (T := TX10) (i := 36) (n := 70) hM rfl (by decide) ly_X10 lkF_X10_218 (dtab_at okX10_work 37 rfl) rfl ?_
        refine w_ic (n := 71) hM (1 : Int32) (dtab_at okX10_work 38 rfl) (by decide) rfl ?_
        refine w_isub (n := 72) hM (dtab_at okX10_work 39 rfl) rfl ?_
        exact r_i hM (dtab_at okX10_work 40 rfl) (Option.some.inj hf)
      · skip
        rw [if_pos h30] at hf
        refine w_bi (n := 35) hM (-3 : Int32) (dtab_at okX10_work 16 rfl) (by decide) rfl ?_
        exact r_i hM (dtab_at okX10_work 17 rfl) (Option.some.inj hf)
    · skip
      rw [if_pos h18] at hf
      refine w_bi (n := 23) hM (-2 : Int32) (dtab_at okX10_work 10 rfl) (by decide) rfl ?_
      exact r_i hM (dtab_at okX10_work 11 rfl) (Option.some.inj hf)
def fX10_yearly (S : PS) (a1 : Int32) (a2 : Int32) : Int32 × PS := if (fX10_in S a1 (1 : Int32) (30 : Int32)) = (0 : Int32) then ((-2 : Int32), S) else (if (fX10_in S a2 (0 : Int32) (10000 : Int32)) = (0 : Int32) then ((-2 : Int32), S) else ((1 : Int32), (sti (sti S 0 39 a1) 0 40 a2)))
set_option maxHeartbeats 4000000 in
set_option maxRecDepth 100000 in
theorem c_X10_yearly {cy : ClassId × ClassId} {ad : Nat → Nat} {D : va_G} {l : Launch} (S : PS) (a1 : Int32) (a2 : Int32)  : PMi cy GM ad D l yX10_yearly (wA yX10_yearly cX10_yearly 3 (some .int)) rmX10_yearly [vr 10 0, vi a1, vi a2] S (fun x S' => (x, S') = (fX10_yearly S a1 a2)) := by
  refine PM.of (lv := [(0, vr 10 0), (1, vi a1), (2, vi a2)]) GM_ok (by decide) (Nat.le_of_ble_eq_true rfl) rfl (by simp) ?_
  intro p e s m args below meth c A hM
  refine w_iln (q := 1) (n := 1) hM (dtab_at okX10_yearly 0 rfl) rfl rfl ?_
  refine w_ic (n := 2) hM (1 : Int32) (dtab_at okX10_yearly 1 rfl) (by decide) rfl ?_
  refine w_bi (n := 4) hM (30 : Int32) (dtab_at okX10_yearly 2 rfl) (by decide) rfl ?_
  refine w_callSi (n := 7) (As := [vi a1, vi (1 : Int32), vi (30 : Int32)]) (rest := []) hM (c_X10_in S a1 (1 : Int32) (30 : Int32)) lkM_X10_120 ms_X10_in (by decide) rfl (Nat.le_of_ble_eq_true rfl) rfl (dtab_at okX10_yearly 3 rfl) rfl (fun x0 S0 hp0 => ?_)
  obtain ⟨hx_, hs_⟩ := hp0
  have hs_ := hs_.symm
  subst hs_
  subst hx_
  refine w_if_eq (n := 21) (n2 := 10) hM (dtab_at okX10_yearly 4 rfl) (by decide) rfl (fun (h7 : (fX10_in S a1 (1 : Int32) (30 : Int32)) = (0 : Int32)) => ?_) (fun (h7 : ¬ (fX10_in S a1 (1 : Int32) (30 : Int32)) = (0 : Int32)) => ?_)
  · skip
    refine w_bi (n := 23) hM (-2 : Int32) (dtab_at okX10_yearly 10 rfl) (by decide) rfl ?_
    exact r_i hM (dtab_at okX10_yearly 11 rfl) (by rw [fX10_yearly, if_pos h7])
  · skip
    refine w_iln (q := 2) (n := 11) hM (dtab_at okX10_yearly 5 rfl) rfl rfl ?_
    refine w_ic (n := 12) hM (0 : Int32) (dtab_at okX10_yearly 6 rfl) (by decide) rfl ?_
    refine w_si (n := 15) hM (10000 : Int32) (dtab_at okX10_yearly 7 rfl) (by decide) rfl ?_
    refine w_callSi (n := 18) (As := [vi a2, vi (0 : Int32), vi (10000 : Int32)]) (rest := []) hM (c_X10_in S a2 (0 : Int32) (10000 : Int32)) lkM_X10_120 ms_X10_in (by decide) rfl (Nat.le_of_ble_eq_true rfl) rfl (dtab_at okX10_yearly 8 rfl) rfl (fun x1 S1 hp1 => ?_)
    obtain ⟨hx_, hs_⟩ := hp1
    have hs_ := hs_.symm
    subst hs_
    subst hx_
    refine w_if_ne (n := 24) (n2 := 21) hM (dtab_at okX10_yearly 9 rfl) (by decide) rfl (fun (h18 : ¬ (fX10_in S a2 (0 : Int32) (10000 : Int32)) = (0 : Int32)) => ?_) (fun (h18 : (fX10_in S a2 (0 : Int32) (10000 : Int32)) = (0 : Int32)) => ?_)
    · skip
      refine w_aln (q := 0) (n := 25) hM (dtab_at okX10_yearly 12 rfl) rfl rfl ?_
      refine w_iln (q := 1) (n := 26) hM (dtab_at okX10_yearly 13 rfl) rfl rfl ?_
      refine w_put (C := RX10) (T := TX10) (i := 39) (ty := .int) (n := 29) hM rfl (by decide) ly_X10 tyX10_ok nmX10 lkF_X10_108 rfl (by decide +kernel) rfl rfl (dtab_at okX10_yearly 14 rfl) rfl ?_
      refine w_aln (q := 0) (n := 30) hM (dtab_at okX10_yearly 15 rfl) rfl rfl ?_
      refine w_iln (q := 2) (n := 31) hM (dtab_at okX10_yearly 16 rfl) rfl rfl ?_
      refine w_put (C := RX10) (T := TX10) (i := 40) (ty := .int) (n := 34) hM rfl (by decide) ly_X10 tyX10_ok nmX10 lkF_X10_111 rfl (by decide +kernel) rfl rfl (dtab_at okX10_yearly 17 rfl) rfl ?_
      refine w_ic (n := 35) hM (1 : Int32) (dtab_at okX10_yearly 18 rfl) (by decide) rfl ?_
      exact r_i hM (dtab_at okX10_yearly 19 rfl) (by rw [fX10_yearly, if_neg h7, if_neg h18])
    · skip
      refine w_bi (n := 23) hM (-2 : Int32) (dtab_at okX10_yearly 10 rfl) (by decide) rfl ?_
      exact r_i hM (dtab_at okX10_yearly 11 rfl) (by rw [fX10_yearly, if_neg h7, if_pos h18])
def LX10_many_4 (nF : Nat) : Nat → PS → Int32 → Int32 → Int32 → Option (Int32)
  | 0, _, _, _, _ => none
  | n + 1, S, v0, v1, v2 => (if (8 : Int32) ≤ v2 then (some v1) else (LX10_many_4 nF n S v0 (v1 + ((v0 >>> (v2 &&& 31)) &&& (1 : Int32))) (v2 + (1 : Int32))))
set_option maxHeartbeats 4000000 in
set_option maxRecDepth 100000 in
theorem wLX10_many_4 {cy : ClassId × ClassId} {ad : Nat → Nat} {D : va_G} {p : Program} {l : Launch} {e : Env} {s : State} {m : MethodId} {args : Array Value} {below : List Frame} {meth : Method} {c : Code} {A : Nat → Prop} (hM : MX cy GM ad D p s m args meth c cX10_many 3 RX10 (some .int) A) (nF : Nat) (S0 : PS) (r : Int32) : ∀ (n : Nat) (S : PS) (v0 : Int32) (v1 : Int32) (v2 : Int32), S = S0 → LX10_many_4 nF n S v0 v1 v2 = some r → WW cy GM ad D p l e rmX10_many s m args below meth c 3 A (poi (fun x S' => x = r ∧ S' = S0)) 4 [(0, vi v0), (1, vi v1), (2, vi v2)] [] S := by
  intro n
  induction n with
  | zero => intro S v0 v1 v2 hS hf; rw [LX10_many_4] at hf; cases hf
  | succ n ih =>
    intro S v0 v1 v2 hS hf
    rw [LX10_many_4] at hf
    refine w_iln (q := 2) (n := 5) hM (dtab_at okX10_many 4 rfl) rfl rfl ?_
    refine w_bi (n := 7) hM (8 : Int32) (dtab_at okX10_many 5 rfl) (by decide) rfl ?_
    refine w_ic_ge (n := 24) (n2 := 10) hM (dtab_at okX10_many 6 rfl) (by decide) rfl (fun (h7 : (8 : Int32) ≤ v2) => ?_) (fun (h7 : ¬ (8 : Int32) ≤ v2) => ?_)
    · skip
      rw [if_pos h7] at hf
      refine w_iln (q := 1) (n := 25) hM (dtab_at okX10_many 17 rfl) rfl rfl ?_
      exact r_i hM (dtab_at okX10_many 18 rfl) ⟨Option.some.inj hf, hS⟩
    · skip
      rw [if_neg h7] at hf
      refine w_iln (q := 1) (n := 11) hM (dtab_at okX10_many 7 rfl) rfl rfl ?_
      refine w_iln (q := 0) (n := 12) hM (dtab_at okX10_many 8 rfl) rfl rfl ?_
      refine w_iln (q := 2) (n := 13) hM (dtab_at okX10_many 9 rfl) rfl rfl ?_
      refine w_ishr (n := 14) hM (dtab_at okX10_many 10 rfl) rfl ?_
      refine w_ic (n := 15) hM (1 : Int32) (dtab_at okX10_many 11 rfl) (by decide) rfl ?_
      refine w_iand (n := 16) hM (dtab_at okX10_many 12 rfl) rfl ?_
      refine w_iadd (n := 17) hM (dtab_at okX10_many 13 rfl) rfl ?_
      refine w_isn (n := 18) (lv' := [(1, vi (v1 + ((v0 >>> (v2 &&& 31)) &&& (1 : Int32)))), (0, vi v0), (2, vi v2)]) hM (dtab_at okX10_many 14 rfl) (by decide) rfl rfl ?_
      refine w_iinc (q := 2) (n := 21) (v := (v2 + (1 : Int32))) (lv' := [(2, vi (v2 + (1 : Int32))), (1, vi (v1 + ((v0 >>> (v2 &&& 31)) &&& (1 : Int32)))), (0, vi v0)]) hM (dtab_at okX10_many 15 rfl) rfl rfl (by decide) rfl rfl ?_
      refine w_goto (n := 4) hM (dtab_at okX10_many 16 rfl) (by decide) ?_
      refine WW.lvs [2, 1, 0] (lv2 := [(0, vi v0), (1, vi (v1 + ((v0 >>> (v2 &&& 31)) &&& (1 : Int32)))), (2, vi (v2 + (1 : Int32)))]) rfl ?_
      exact ih S v0 (v1 + ((v0 >>> (v2 &&& 31)) &&& (1 : Int32))) (v2 + (1 : Int32)) hS hf
def fX10_many (nF : Nat) (S : PS) (a1 : Int32) : Option (Int32) := (LX10_many_4 nF nF S a1 (0 : Int32) (0 : Int32))
set_option maxHeartbeats 4000000 in
set_option maxRecDepth 100000 in
theorem c_X10_many {cy : ClassId × ClassId} {ad : Nat → Nat} {D : va_G} {l : Launch} (nF : Nat) (S : PS) (a1 : Int32) (r : Int32) (hf : fX10_many nF S a1 = some r) : PMi cy GM ad D l yX10_many (wA yX10_many cX10_many 3 (some .int)) rmX10_many [vi a1] S (fun x S' => x = r ∧ S' = S) := by
  refine PM.of (lv := [(0, vi a1)]) GM_ok (by decide) (Nat.le_of_ble_eq_true rfl) rfl (by simp) ?_
  intro p e s m args below meth c A hM
  rw [fX10_many] at hf
  obtain ⟨S0, hS⟩ : ∃ S0 : PS, S = S0 := ⟨S, rfl⟩
  rw [show (fun (x : Int32) (S' : PS) => x = r ∧ S' = S) = (fun x S' => x = r ∧ S' = S0) by rw [hS]]
  refine w_ic (n := 1) hM (0 : Int32) (dtab_at okX10_many 0 rfl) (by decide) rfl ?_
  refine w_isn (n := 2) (lv' := [(1, vi (0 : Int32)), (0, vi a1)]) hM (dtab_at okX10_many 1 rfl) (by decide) rfl rfl ?_
  refine w_ic (n := 3) hM (0 : Int32) (dtab_at okX10_many 2 rfl) (by decide) rfl ?_
  refine w_isn (n := 4) (lv' := [(2, vi (0 : Int32)), (1, vi (0 : Int32)), (0, vi a1)]) hM (dtab_at okX10_many 3 rfl) (by decide) rfl rfl ?_
  refine WW.lvs [2, 1, 0] (lv2 := [(0, vi a1), (1, vi (0 : Int32)), (2, vi (0 : Int32))]) rfl ?_
  exact wLX10_many_4 hM nF S0 r nF S a1 (0 : Int32) (0 : Int32) hS hf
def BX10_willDo_47 (nF : Nat) (k2 : PS → Int32 → Int32 → Option (Int32)) (S : PS) (v1 : Int32) (v2 : Int32) (v3 : Int32) : Option (Int32) := ((fX10_many nF S (v1 &&& (((1 : Int32) <<< (v2 &&& 31)) - (1 : Int32)))).bind fun r0 => (if v3 ≤ ((S.1 0 39) * r0) then (k2 S v1 (v2 + (1 : Int32))) else (some (0 : Int32))))
set_option maxHeartbeats 4000000 in
set_option maxRecDepth 100000 in
theorem wBX10_willDo_47 {cy : ClassId × ClassId} {ad : Nat → Nat} {D : va_G} {p : Program} {l : Launch} {e : Env} {s : State} {m : MethodId} {args : Array Value} {below : List Frame} {meth : Method} {c : Code} {A : Nat → Prop} (hM : MX cy GM ad D p s m args meth c cX10_willDo 5 RX10 (some .boolean) A) (nF : Nat) (S0 : PS) (r : Int32) (k2 : PS → Int32 → Int32 → Option (Int32)) (hk2 : ∀ (S : PS) (v1 : Int32) (v2 : Int32), S = S0 → k2 S v1 v2 = some r → WW cy GM ad D p l e rmX10_willDo s m args below meth c 5 A (poi (fun x S' => x = r ∧ S' = S0)) 2 [(0, vr 10 0), (1, vi v1), (2, vi v2)] [] S) (S : PS) (v1 : Int32) (v2 : Int32) (v3 : Int32) (hS : S = S0) (hf : BX10_willDo_47 nF k2 S v1 v2 v3 = some r) : WW cy GM ad D p l e rmX10_willDo s m args below meth c 5 A (poi (fun x S' => x = r ∧ S' = S0)) 47 [(0, vr 10 0), (1, vi v1), (2, vi v2), (3, vi v3)] [] S := by
  rw [BX10_willDo_47] at hf
  refine w_iln (q := 3) (n := 48) hM (dtab_at okX10_willDo 27 rfl) rfl rfl ?_
  refine w_aln (q := 0) (n := 49) hM (dtab_at okX10_willDo 28 rfl) rfl rfl ?_
  refine w_geti (C := RX10) (T := TX10) (i := 39) (n := 52) hM rfl (by decide) ly_X10 lkF_X10_108 (dtab_at okX10_willDo 29 rfl) rfl ?_
  refine w_iln (q := 1) (n := 53) hM (dtab_at okX10_willDo 30 rfl) rfl rfl ?_
  refine w_ic (n := 54) hM (1 : Int32) (dtab_at okX10_willDo 31 rfl) (by decide) rfl ?_
  refine w_iln (q := 2) (n := 55) hM (dtab_at okX10_willDo 32 rfl) rfl rfl ?_
  refine w_ishl (n := 56) hM (dtab_at okX10_willDo 33 rfl) rfl ?_
  refine w_ic (n := 57) hM (1 : Int32) (dtab_at okX10_willDo 34 rfl) (by decide) rfl ?_
  refine w_isub (n := 58) hM (dtab_at okX10_willDo 35 rfl) rfl ?_
  refine w_iand (n := 59) hM (dtab_at okX10_willDo 36 rfl) rfl ?_
  obtain ⟨r0, hr0, hf⟩ := Option.bind_eq_some_iff.mp hf
  refine w_callSi (n := 62) (As := [vi (v1 &&& (((1 : Int32) <<< (v2 &&& 31)) - (1 : Int32)))]) (rest := [vi (S.1 0 39), vi v3]) hM (c_X10_many nF S (v1 &&& (((1 : Int32) <<< (v2 &&& 31)) - (1 : Int32))) r0 hr0) lkM_X10_221 ms_X10_many (by decide) rfl (Nat.le_of_ble_eq_true rfl) rfl (dtab_at okX10_willDo 37 rfl) rfl (fun x0 S0 hp0 => ?_)
  obtain ⟨hx_, hs_⟩ := hp0
  have hs_ := hs_.symm
  have hx_ := hx_.symm
  subst hs_
  subst hx_
  refine w_imul (n := 63) hM (dtab_at okX10_willDo 38 rfl) rfl ?_
  refine w_ic_le (n := 68) (n2 := 66) hM (dtab_at okX10_willDo 39 rfl) (by decide) rfl (fun (h63 : v3 ≤ ((S.1 0 39) * r0)) => ?_) (fun (h63 : ¬ v3 ≤ ((S.1 0 39) * r0)) => ?_)
  · skip
    rw [if_pos h63] at hf
    refine w_iinc (q := 2) (n := 71) (v := (v2 + (1 : Int32))) (lv' := [(2, vi (v2 + (1 : Int32))), (0, vr 10 0), (1, vi v1), (3, vi v3)]) hM (dtab_at okX10_willDo 42 rfl) rfl rfl (by decide) rfl rfl ?_
    refine w_goto (n := 2) hM (dtab_at okX10_willDo 43 rfl) (by decide) ?_
    refine WW.lvs [1, 2, 0] (lv2 := [(0, vr 10 0), (1, vi v1), (2, vi (v2 + (1 : Int32)))]) rfl ?_
    exact hk2 S v1 (v2 + (1 : Int32)) hS hf
  · skip
    rw [if_neg h63] at hf
    refine w_ic (n := 67) hM (0 : Int32) (dtab_at okX10_willDo 40 rfl) (by decide) rfl ?_
    exact r_z hM (by decide) (dtab_at okX10_willDo 41 rfl) ⟨Option.some.inj hf, hS⟩
def LX10_willDo_13 (nF : Nat) (k2 : PS → Int32 → Int32 → Option (Int32)) : Nat → PS → Int32 → Int32 → Int32 → Int32 → Option (Int32)
  | 0, _, _, _, _, _ => none
  | n + 1, S, v1, v2, v3, v4 => (if (S.1 0 36) ≤ v4 then (BX10_willDo_47 nF k2 S v1 v2 v3) else (if v4 < 0 ∨ 30 ≤ v4.toNatClampNeg then none else (if v2 < (S.2 24 v4.toNatClampNeg) then (LX10_willDo_13 nF k2 n S v1 v2 (v3 + (0 : Int32)) (v4 + (1 : Int32))) else (LX10_willDo_13 nF k2 n S v1 v2 (v3 + (1 : Int32)) (v4 + (1 : Int32))))))
set_option maxHeartbeats 4000000 in
set_option maxRecDepth 100000 in
theorem wLX10_willDo_13 {cy : ClassId × ClassId} {ad : Nat → Nat} {D : va_G} {p : Program} {l : Launch} {e : Env} {s : State} {m : MethodId} {args : Array Value} {below : List Frame} {meth : Method} {c : Code} {A : Nat → Prop} (hM : MX cy GM ad D p s m args meth c cX10_willDo 5 RX10 (some .boolean) A) (nF : Nat) (S0 : PS) (r : Int32) (k2 : PS → Int32 → Int32 → Option (Int32)) (hk2 : ∀ (S : PS) (v1 : Int32) (v2 : Int32), S = S0 → k2 S v1 v2 = some r → WW cy GM ad D p l e rmX10_willDo s m args below meth c 5 A (poi (fun x S' => x = r ∧ S' = S0)) 2 [(0, vr 10 0), (1, vi v1), (2, vi v2)] [] S) : ∀ (n : Nat) (S : PS) (v1 : Int32) (v2 : Int32) (v3 : Int32) (v4 : Int32), S = S0 → LX10_willDo_13 nF k2 n S v1 v2 v3 v4 = some r → WW cy GM ad D p l e rmX10_willDo s m args below meth c 5 A (poi (fun x S' => x = r ∧ S' = S0)) 13 [(0, vr 10 0), (1, vi v1), (2, vi v2), (3, vi v3), (4, vi v4)] [] S := by
  intro n
  induction n with
  | zero => intro S v1 v2 v3 v4 hS hf; rw [LX10_willDo_13] at hf; cases hf
  | succ n ih =>
    intro S v1 v2 v3 v4 hS hf
    rw [LX10_willDo_13] at hf
    refine w_il (q := 4) (n := 15) hM (dtab_at okX10_willDo 9 rfl) rfl rfl ?_
    refine w_aln (q := 0) (n := 16) hM (dtab_at okX10_willDo 10 rfl) rfl rfl ?_
    refine w_geti (C := RX10) (T := TX10) (i := 36) (n := 19) hM rfl (by decide) ly_X10 lkF_X10_218 (dtab_at okX10_willDo 11 rfl) rfl ?_
    refine w_ic_ge (n := 47) (n2 := 22) hM (dtab_at okX10_willDo 12 rfl) (by decide) rfl (fun (h19 : (S.1 0 36) ≤ v4) => ?_) (fun (h19 : ¬ (S.1 0 36) ≤ v4) => ?_)
    · skip
      rw [if_pos h19] at hf
      refine WW.lvs [0, 1, 2, 3] (lv2 := [(0, vr 10 0), (1, vi v1), (2, vi v2), (3, vi v3)]) rfl ?_
      exact wBX10_willDo_47 hM nF S0 r k2 hk2 S v1 v2 v3 hS hf
    · skip
      rw [if_neg h19] at hf
      refine w_iln (q := 3) (n := 23) hM (dtab_at okX10_willDo 13 rfl) rfl rfl ?_
      refine w_aln (q := 0) (n := 24) hM (dtab_at okX10_willDo 14 rfl) rfl rfl ?_
      refine w_getr (C := RX10) (T := TX10) (i := 38) (k2 := 130) (q := 24) (n := 27) hM rfl (by decide) (fun _ => rfl) ly_X10 lkF_X10_105 (dtab_at okX10_willDo 15 rfl) rfl ?_
      refine w_il (q := 4) (n := 29) hM (dtab_at okX10_willDo 16 rfl) rfl rfl ?_
      by_cases hg29 : v4 < 0 ∨ 30 ≤ v4.toNatClampNeg
      · rw [if_pos hg29] at hf; cases hf
      rw [if_neg hg29] at hf
      refine w_ald (nn := 30) (n := 30) hM rfl hg29 (dtab_at okX10_willDo 17 rfl) rfl ?_
      refine w_iln (q := 2) (n := 31) hM (dtab_at okX10_willDo 18 rfl) rfl rfl ?_
      refine w_ic_gt (n := 38) (n2 := 34) hM (dtab_at okX10_willDo 19 rfl) (by decide) rfl (fun (h31 : v2 < (S.2 24 v4.toNatClampNeg)) => ?_) (fun (h31 : ¬ v2 < (S.2 24 v4.toNatClampNeg)) => ?_)
      · skip
        rw [if_pos h31] at hf
        refine w_ic (n := 39) hM (0 : Int32) (dtab_at okX10_willDo 22 rfl) (by decide) rfl ?_
        refine w_iadd (n := 40) hM (dtab_at okX10_willDo 23 rfl) rfl ?_
        refine w_isn (n := 41) (lv' := [(3, vi (v3 + (0 : Int32))), (0, vr 10 0), (1, vi v1), (2, vi v2), (4, vi v4)]) hM (dtab_at okX10_willDo 24 rfl) (by decide) rfl rfl ?_
        refine w_iinc (q := 4) (n := 44) (v := (v4 + (1 : Int32))) (lv' := [(4, vi (v4 + (1 : Int32))), (3, vi (v3 + (0 : Int32))), (0, vr 10 0), (1, vi v1), (2, vi v2)]) hM (dtab_at okX10_willDo 25 rfl) rfl rfl (by decide) rfl rfl ?_
        refine w_goto (n := 13) hM (dtab_at okX10_willDo 26 rfl) (by decide) ?_
        refine WW.lvs [2, 3, 4, 1, 0] (lv2 := [(0, vr 10 0), (1, vi v1), (2, vi v2), (3, vi (v3 + (0 : Int32))), (4, vi (v4 + (1 : Int32)))]) rfl ?_
        exact ih S v1 v2 (v3 + (0 : Int32)) (v4 + (1 : Int32)) hS hf
      · skip
        rw [if_neg h31] at hf
        refine w_ic (n := 35) hM (1 : Int32) (dtab_at okX10_willDo 20 rfl) (by decide) rfl ?_
        refine w_goto (n := 39) hM (dtab_at okX10_willDo 21 rfl) (by decide) ?_
        refine w_iadd (n := 40) hM (dtab_at okX10_willDo 23 rfl) rfl ?_
        refine w_isn (n := 41) (lv' := [(3, vi (v3 + (1 : Int32))), (0, vr 10 0), (1, vi v1), (2, vi v2), (4, vi v4)]) hM (dtab_at okX10_willDo 24 rfl) (by decide) rfl rfl ?_
        refine w_iinc (q := 4) (n := 44) (v := (v4 + (1 : Int32))) (lv' := [(4, vi (v4 + (1 : Int32))), (3, vi (v3 + (1 : Int32))), (0, vr 10 0), (1, vi v1), (2, vi v2)]) hM (dtab_at okX10_willDo 25 rfl) rfl rfl (by decide) rfl rfl ?_
        refine w_goto (n := 13) hM (dtab_at okX10_willDo 26 rfl) (by decide) ?_
        refine WW.lvs [2, 3, 4, 1, 0] (lv2 := [(0, vr 10 0), (1, vi v1), (2, vi v2), (3, vi (v3 + (1 : Int32))), (4, vi (v4 + (1 : Int32)))]) rfl ?_
        exact ih S v1 v2 (v3 + (1 : Int32)) (v4 + (1 : Int32)) hS hf
def LX10_willDo_2 (nF : Nat) : Nat → PS → Int32 → Int32 → Option (Int32)
  | 0, _, _, _ => none
  | n + 1, S, v1, v2 => (if (8 : Int32) < v2 then (some (1 : Int32)) else (LX10_willDo_13 nF (LX10_willDo_2 nF n) nF S v1 v2 (0 : Int32) (0 : Int32)))
set_option maxHeartbeats 4000000 in
set_option maxRecDepth 100000 in
theorem wLX10_willDo_2 {cy : ClassId × ClassId} {ad : Nat → Nat} {D : va_G} {p : Program} {l : Launch} {e : Env} {s : State} {m : MethodId} {args : Array Value} {below : List Frame} {meth : Method} {c : Code} {A : Nat → Prop} (hM : MX cy GM ad D p s m args meth c cX10_willDo 5 RX10 (some .boolean) A) (nF : Nat) (S0 : PS) (r : Int32) : ∀ (n : Nat) (S : PS) (v1 : Int32) (v2 : Int32), S = S0 → LX10_willDo_2 nF n S v1 v2 = some r → WW cy GM ad D p l e rmX10_willDo s m args below meth c 5 A (poi (fun x S' => x = r ∧ S' = S0)) 2 [(0, vr 10 0), (1, vi v1), (2, vi v2)] [] S := by
  intro n
  induction n with
  | zero => intro S v1 v2 hS hf; rw [LX10_willDo_2] at hf; cases hf
  | succ n ih =>
    intro S v1 v2 hS hf
    rw [LX10_willDo_2] at hf
    refine w_iln (q := 2) (n := 3) hM (dtab_at okX10_willDo 2 rfl) rfl rfl ?_
    refine w_bi (n := 5) hM (8 : Int32) (dtab_at okX10_willDo 3 rfl) (by decide) rfl ?_
    refine w_ic_gt (n := 74) (n2 := 8) hM (dtab_at okX10_willDo 4 rfl) (by decide) rfl (fun (h5 : (8 : Int32) < v2) => ?_) (fun (h5 : ¬ (8 : Int32) < v2) => ?_)
    · skip
      rw [if_pos h5] at hf
      refine w_ic (n := 75) hM (1 : Int32) (dtab_at okX10_willDo 44 rfl) (by decide) rfl ?_
      exact r_z hM (by decide) (dtab_at okX10_willDo 45 rfl) ⟨Option.some.inj hf, hS⟩
    · skip
      rw [if_neg h5] at hf
      refine w_ic (n := 9) hM (0 : Int32) (dtab_at okX10_willDo 5 rfl) (by decide) rfl ?_
      refine w_isn (n := 10) (lv' := [(3, vi (0 : Int32)), (0, vr 10 0), (1, vi v1), (2, vi v2)]) hM (dtab_at okX10_willDo 6 rfl) (by decide) rfl rfl ?_
      refine w_ic (n := 11) hM (0 : Int32) (dtab_at okX10_willDo 7 rfl) (by decide) rfl ?_
      refine w_is (n := 13) (lv' := [(4, vi (0 : Int32)), (3, vi (0 : Int32)), (0, vr 10 0), (1, vi v1), (2, vi v2)]) hM (dtab_at okX10_willDo 8 rfl) (by decide) rfl rfl ?_
      refine WW.lvs [2, 3, 4, 1, 0] (lv2 := [(0, vr 10 0), (1, vi v1), (2, vi v2), (3, vi (0 : Int32)), (4, vi (0 : Int32))]) rfl ?_
      exact wLX10_willDo_13 hM nF S0 r (LX10_willDo_2 nF n) ih nF S v1 v2 (0 : Int32) (0 : Int32) hS hf
def fX10_willDo (nF : Nat) (S : PS) (a1 : Int32) : Option (Int32) := (LX10_willDo_2 nF nF S a1 (1 : Int32))
set_option maxHeartbeats 4000000 in
set_option maxRecDepth 100000 in
theorem c_X10_willDo {cy : ClassId × ClassId} {ad : Nat → Nat} {D : va_G} {l : Launch} (nF : Nat) (S : PS) (a1 : Int32) (r : Int32) (hf : fX10_willDo nF S a1 = some r) : PMi cy GM ad D l yX10_willDo (wA yX10_willDo cX10_willDo 5 (some .boolean)) rmX10_willDo [vr 10 0, vi a1] S (fun x S' => x = r ∧ S' = S) := by
  refine PM.of (lv := [(0, vr 10 0), (1, vi a1)]) GM_ok (by decide) (Nat.le_of_ble_eq_true rfl) rfl (by simp) ?_
  intro p e s m args below meth c A hM
  rw [fX10_willDo] at hf
  obtain ⟨S0, hS⟩ : ∃ S0 : PS, S = S0 := ⟨S, rfl⟩
  rw [show (fun (x : Int32) (S' : PS) => x = r ∧ S' = S) = (fun x S' => x = r ∧ S' = S0) by rw [hS]]
  refine w_ic (n := 1) hM (1 : Int32) (dtab_at okX10_willDo 0 rfl) (by decide) rfl ?_
  refine w_isn (n := 2) (lv' := [(2, vi (1 : Int32)), (0, vr 10 0), (1, vi a1)]) hM (dtab_at okX10_willDo 1 rfl) (by decide) rfl rfl ?_
  refine WW.lvs [1, 2, 0] (lv2 := [(0, vr 10 0), (1, vi a1), (2, vi (1 : Int32))]) rfl ?_
  exact wLX10_willDo_2 hM nF S0 r nF S a1 (1 : Int32) hS hf
