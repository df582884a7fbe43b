def fX9_paired (nF : Nat) (S : PS) (a1 : Int32) (a2 : Int32) : Option (Int32 × PS) := (match (fX9_runAt S a1) with | none => (some ((-2 : Int32), S)) | some (_, j0) => (if (fX0_hasJoint S a2) = (0 : Int32) then (some ((-2 : Int32), S)) else ((fX6_feel nF S j0).bind fun r2 => ((fX0_pairUp nF r2 j0).bind fun r3 => (if a2 < 0 ∨ 40 ≤ a2.toNatClampNeg then none else (some ((r3.2 (j0 + 38) a2.toNatClampNeg), r3)))))))
set_option maxHeartbeats 4000000 in
set_option maxRecDepth 100000 in
theorem c_X9_paired {cy : ClassId × ClassId} {ad : Nat → Nat} {D : va_G} {l : Launch} (nF : Nat) (S : PS) (a1 : Int32) (a2 : Int32) (r : Int32 × PS) (hf : fX9_paired nF S a1 a2 = some r) : PMi cy GC ad D l yX9_paired (wA yX9_paired cX9_paired 4 (some .int)) rmX9_paired [vr 9 0, vi a1, vi a2] S (fun x S' => (x, S') = r) := by
  refine PM.of (lv := [(0, vr 9 0), (1, vi a1), (2, vi a2)]) GC_ok (by decide) (Nat.le_of_ble_eq_true rfl) rfl (by simp) ?_
  intro p e s m args below meth c A hM
  rw [fX9_paired] at hf
  refine w_aln (q := 0) (n := 1) hM (dtab_at okX9_paired 0 rfl) rfl rfl ?_
  refine w_iln (q := 1) (n := 2) hM (dtab_at okX9_paired 1 rfl) rfl rfl ?_
  refine w_callVr (n := 5) (As := [vi a1]) (rest := []) (k := 9) (j := 0) (C := RX9) (T := TX9) (N := 10) hM (c_X9_runAt S a1) lkM_X9_117 mv_X9_runAt (by decide) rfl (by decide) rfl (Nat.le_of_ble_eq_true rfl) rfl (dtab_at okX9_paired 2 rfl) rfl (fun x0 S0 hp0 => ?_)
  obtain ⟨hx_, hs_⟩ := hp0
  have hs_ := hs_.symm
  subst hs_
  subst hx_
  rcases hq0 : (fX9_runAt S a1) with _ | ⟨q0, j0⟩
  · skip
    rw [hq0] at hf
    dsimp only at hf
    refine w_asn (n := 6) (lv' := [(3, vn), (0, vr 9 0), (1, vi a1), (2, vi a2)]) hM (dtab_at okX9_paired 3 rfl) (by decide) rfl rfl ?_
    refine w_aln (q := 0) (n := 7) hM (dtab_at okX9_paired 4 rfl) rfl rfl ?_
    refine w_ifnullN (n := 21) hM (dtab_at okX9_paired 5 rfl) (by decide) ?_
    refine w_bi (n := 23) hM (-2 : Int32) (dtab_at okX9_paired 11 rfl) (by decide) rfl ?_
    exact r_i hM (dtab_at okX9_paired 12 rfl) (Option.some.inj hf)
  · skip
    obtain rfl := fX9_runAt_kind hq0
    rw [hq0] at hf
    dsimp only at hf
    refine w_asn (n := 6) (lv' := [(3, vr 6 j0), (0, vr 9 0), (1, vi a1), (2, vi a2)]) hM (dtab_at okX9_paired 3 rfl) (by decide) rfl rfl ?_
    refine w_aln (q := 0) (n := 7) hM (dtab_at okX9_paired 4 rfl) rfl rfl ?_
    refine w_ifnullR (n := 10) hM (dtab_at okX9_paired 5 rfl) rfl ?_
    refine w_aln (q := 1) (n := 11) hM (dtab_at okX9_paired 6 rfl) rfl rfl ?_
    refine w_getr (C := RX9) (T := TX9) (i := 2) (k2 := 0) (q := 41) (n := 14) hM rfl (by decide) (fun _ => rfl) ly_X9 lkF_X9_22 (dtab_at okX9_paired 7 rfl) rfl ?_
    refine w_iln (q := 3) (n := 15) hM (dtab_at okX9_paired 8 rfl) rfl rfl ?_
    refine w_callVi (n := 18) (As := [vi a2]) (rest := []) (k := 0) (j := 41) (C := RX0) (T := TX0) (N := 5) hM (c_X0_hasJoint S a2) lkM_X9_162 mv_X0_hasJoint (by decide) rfl (by decide) rfl (Nat.le_of_ble_eq_true rfl) rfl (dtab_at okX9_paired 9 rfl) rfl (fun x1 S1 hp1 => ?_)
    obtain ⟨hx_, hs_⟩ := hp1
    have hs_ := hs_.symm
    subst hs_
    subst hx_
    refine w_if_ne (n := 24) (n2 := 21) hM (dtab_at okX9_paired 10 rfl) (by decide) rfl (fun (h18 : ¬ (fX0_hasJoint S a2) = (0 : Int32)) => ?_) (fun (h18 : (fX0_hasJoint S a2) = (0 : Int32)) => ?_)
    · skip
      rw [if_neg h18] at hf
      refine w_aln (q := 0) (n := 25) hM (dtab_at okX9_paired 13 rfl) rfl rfl ?_
      obtain ⟨r2, hr2, hf⟩ := Option.bind_eq_some_iff.mp hf
      refine w_callVv (n := 28) (As := []) (rest := []) (k := 6) (j := j0) (C := RX6) (T := TX6) (N := 12) hM (c_X6_feel nF S j0 r2 hr2) lkM_X9_125 mv_X6_feel (by decide) rfl (by decide) rfl (Nat.le_of_ble_eq_true rfl) rfl (dtab_at okX9_paired 14 rfl) rfl (fun S2 hp2 => ?_)
      have hs_ := hp2.symm
      subst hs_
      refine w_aln (q := 1) (n := 29) hM (dtab_at okX9_paired 15 rfl) rfl rfl ?_
      refine w_getr (C := RX9) (T := TX9) (i := 2) (k2 := 0) (q := 41) (n := 32) hM rfl (by decide) (fun _ => rfl) ly_X9 lkF_X9_22 (dtab_at okX9_paired 16 rfl) rfl ?_
      refine w_aln (q := 0) (n := 33) hM (dtab_at okX9_paired 17 rfl) rfl rfl ?_
      obtain ⟨r3, hr3, hf⟩ := Option.bind_eq_some_iff.mp hf
      refine w_callVv (n := 36) (As := [vr 6 j0]) (rest := []) (k := 0) (j := 41) (C := RX0) (T := TX0) (N := 5) hM (c_X0_pairUp nF r2 j0 r3 hr3) lkM_X9_165 mv_X0_pairUp (by decide) rfl (by decide) rfl (Nat.le_of_ble_eq_true rfl) rfl (dtab_at okX9_paired 18 rfl) rfl (fun S3 hp3 => ?_)
      have hs_ := hp3.symm
      subst hs_
      refine w_aln (q := 0) (n := 37) hM (dtab_at okX9_paired 19 rfl) rfl rfl ?_
      refine w_getr (C := RX6) (T := TX6) (i := 8) (k2 := 140) (q := (j0 + 38)) (n := 40) hM rfl (by decide) rfc_6_8 ly_X6 lkF_X9_169 (dtab_at okX9_paired 20 rfl) rfl ?_
      refine w_iln (q := 3) (n := 41) hM (dtab_at okX9_paired 21 rfl) rfl rfl ?_
      by_cases hg41 : a2 < 0 ∨ 40 ≤ a2.toNatClampNeg
      · rw [if_pos hg41] at hf; cases hf
      rw [if_neg hg41] at hf
      refine w_ald (nn := 40) (n := 42) hM rfl hg41 (dtab_at okX9_paired 22 rfl) rfl ?_
      exact r_i hM (dtab_at okX9_paired 23 rfl) (Option.some.inj hf)
    · skip
      rw [if_pos h18] at hf
      refine w_bi (n := 23) hM (-2 : Int32) (dtab_at okX9_paired 11 rfl) (by decide) rfl ?_
      exact r_i hM (dtab_at okX9_paired 12 rfl) (Option.some.inj hf)
def fX9_mark (nF : Nat) (S : PS) (a1 : Int32) (a2 : Int32) (a3 : Int32) (a4 : Int32) (a5 : Int32) : Option (Int32 × PS) := (match (fX9_runAt S a1) with | none => (some ((-2 : Int32), S)) | some (_, j0) => (if (fX9_isWithin S a2 (0 : Int32) (4000000 : Int32)) = (0 : Int32) then (some ((-2 : Int32), S)) else (if (fX9_isWithin S a3 (0 : Int32) (11 : Int32)) = (0 : Int32) then (some ((-2 : Int32), S)) else (if (fX9_isWithin S a4 (0 : Int32) (100 : Int32)) = (0 : Int32) then (some ((-2 : Int32), S)) else (if (fX9_isWithin S a5 (0 : Int32) (10000 : Int32)) = (0 : Int32) then (some ((-2 : Int32), S)) else ((fX3_add nF S (j0 + 18) a2 a3 a4 a5).bind fun r5 => (some (r5.1, r5.2))))))))
set_option maxHeartbeats 4000000 in
set_option maxRecDepth 100000 in
theorem c_X9_mark {cy : ClassId × ClassId} {ad : Nat → Nat} {D : va_G} {l : Launch} (nF : Nat) (S : PS) (a1 : Int32) (a2 : Int32) (a3 : Int32) (a4 : Int32) (a5 : Int32) (r : Int32 × PS) (hf : fX9_mark nF S a1 a2 a3 a4 a5 = some r) : PMi cy GC ad D l yX9_mark (wA yX9_mark cX9_mark 7 (some .int)) rmX9_mark [vr 9 0, vi a1, vi a2, vi a3, vi a4, vi a5] S (fun x S' => (x, S') = r) := by
  refine PM.of (lv := [(0, vr 9 0), (1, vi a1), (2, vi a2), (3, vi a3), (4, vi a4), (5, vi a5)]) GC_ok (by decide) (Nat.le_of_ble_eq_true rfl) rfl (by simp) ?_
  intro p e s m args below meth c A hM
  rw [fX9_mark] at hf
  refine w_aln (q := 0) (n := 1) hM (dtab_at okX9_mark 0 rfl) rfl rfl ?_
  refine w_iln (q := 1) (n := 2) hM (dtab_at okX9_mark 1 rfl) rfl rfl ?_
  refine w_callVr (n := 5) (As := [vi a1]) (rest := []) (k := 9) (j := 0) (C := RX9) (T := TX9) (N := 10) hM (c_X9_runAt S a1) lkM_X9_117 mv_X9_runAt (by decide) rfl (by decide) rfl (Nat.le_of_ble_eq_true rfl) rfl (dtab_at okX9_mark 2 rfl) rfl (fun x0 S0 hp0 => ?_)
  obtain ⟨hx_, hs_⟩ := hp0
  have hs_ := hs_.symm
  subst hs_
  subst hx_
  rcases hq0 : (fX9_runAt S a1) with _ | ⟨q0, j0⟩
  · skip
    rw [hq0] at hf
    dsimp only at hf
    refine w_as (n := 7) (lv' := [(6, vn), (0, vr 9 0), (1, vi a1), (2, vi a2), (3, vi a3), (4, vi a4), (5, vi a5)]) hM (dtab_at okX9_mark 3 rfl) (by decide) rfl rfl ?_
    refine w_al (q := 0) (n := 9) hM (dtab_at okX9_mark 4 rfl) rfl rfl ?_
    refine w_ifnullN (n := 55) hM (dtab_at okX9_mark 5 rfl) (by decide) ?_
    refine w_bi (n := 57) hM (-2 : Int32) (dtab_at okX9_mark 26 rfl) (by decide) rfl ?_
    exact r_i hM (dtab_at okX9_mark 27 rfl) (Option.some.inj hf)
  · skip
    obtain rfl := fX9_runAt_kind hq0
    rw [hq0] at hf
    dsimp only at hf
    refine w_as (n := 7) (lv' := [(6, vr 6 j0), (0, vr 9 0), (1, vi a1), (2, vi a2), (3, vi a3), (4, vi a4), (5, vi a5)]) hM (dtab_at okX9_mark 3 rfl) (by decide) rfl rfl ?_
    refine w_al (q := 0) (n := 9) hM (dtab_at okX9_mark 4 rfl) rfl rfl ?_
    refine w_ifnullR (n := 12) hM (dtab_at okX9_mark 5 rfl) rfl ?_
    refine w_iln (q := 3) (n := 13) hM (dtab_at okX9_mark 6 rfl) rfl rfl ?_
    refine w_ic (n := 14) hM (0 : Int32) (dtab_at okX9_mark 7 rfl) (by decide) rfl ?_
    refine w_ldc (n := 16) (v := (4000000 : Int32)) hM (dtab_at okX9_mark 8 rfl) lkC_X9_172 rfl ?_
    refine w_callSi (n := 19) (As := [vi a2, vi (0 : Int32), vi (4000000 : Int32)]) (rest := []) hM (c_X9_isWithin S a2 (0 : Int32) (4000000 : Int32)) lkM_X9_121 ms_X9_isWithin (by decide) rfl (Nat.le_of_ble_eq_true rfl) rfl (dtab_at okX9_mark 9 rfl) rfl (fun x1 S1 hp1 => ?_)
    obtain ⟨hx_, hs_⟩ := hp1
    have hs_ := hs_.symm
    subst hs_
    subst hx_
    refine w_if_eq (n := 55) (n2 := 22) hM (dtab_at okX9_mark 10 rfl) (by decide) rfl (fun (h19 : (fX9_isWithin S a2 (0 : Int32) (4000000 : Int32)) = (0 : Int32)) => ?_) (fun (h19 : ¬ (fX9_isWithin S a2 (0 : Int32) (4000000 : Int32)) = (0 : Int32)) => ?_)
    · skip
      rw [if_pos h19] at hf
      refine w_bi (n := 57) hM (-2 : Int32) (dtab_at okX9_mark 26 rfl) (by decide) rfl ?_
      exact r_i hM (dtab_at okX9_mark 27 rfl) (Option.some.inj hf)
    · skip
      rw [if_neg h19] at hf
      refine w_iln (q := 4) (n := 23) hM (dtab_at okX9_mark 11 rfl) rfl rfl ?_
      refine w_ic (n := 24) hM (0 : Int32) (dtab_at okX9_mark 12 rfl) (by decide) rfl ?_
      refine w_bi (n := 26) hM (11 : Int32) (dtab_at okX9_mark 13 rfl) (by decide) rfl ?_
      refine w_callSi (n := 29) (As := [vi a3, vi (0 : Int32), vi (11 : Int32)]) (rest := []) hM (c_X9_isWithin S a3 (0 : Int32) (11 : Int32)) lkM_X9_121 ms_X9_isWithin (by decide) rfl (Nat.le_of_ble_eq_true rfl) rfl (dtab_at okX9_mark 14 rfl) rfl (fun x2 S2 hp2 => ?_)
      obtain ⟨hx_, hs_⟩ := hp2
      have hs_ := hs_.symm
      subst hs_
      subst hx_
      refine w_if_eq (n := 55) (n2 := 32) hM (dtab_at okX9_mark 15 rfl) (by decide) rfl (fun (h29 : (fX9_isWithin S a3 (0 : Int32) (11 : Int32)) = (0 : Int32)) => ?_) (fun (h29 : ¬ (fX9_isWithin S a3 (0 : Int32) (11 : Int32)) = (0 : Int32)) => ?_)
      · skip
        rw [if_pos h29] at hf
        refine w_bi (n := 57) hM (-2 : Int32) (dtab_at okX9_mark 26 rfl) (by decide) rfl ?_
        exact r_i hM (dtab_at okX9_mark 27 rfl) (Option.some.inj hf)
      · skip
        rw [if_neg h29] at hf
        refine w_il (q := 5) (n := 34) hM (dtab_at okX9_mark 16 rfl) rfl rfl ?_
        refine w_ic (n := 35) hM (0 : Int32) (dtab_at okX9_mark 17 rfl) (by decide) rfl ?_
        refine w_bi (n := 37) hM (100 : Int32) (dtab_at okX9_mark 18 rfl) (by decide) rfl ?_
        refine w_callSi (n := 40) (As := [vi a4, vi (0 : Int32), vi (100 : Int32)]) (rest := []) hM (c_X9_isWithin S a4 (0 : Int32) (100 : Int32)) lkM_X9_121 ms_X9_isWithin (by decide) rfl (Nat.le_of_ble_eq_true rfl) rfl (dtab_at okX9_mark 19 rfl) rfl (fun x3 S3 hp3 => ?_)
        obtain ⟨hx_, hs_⟩ := hp3
        have hs_ := hs_.symm
        subst hs_
        subst hx_
        refine w_if_eq (n := 55) (n2 := 43) hM (dtab_at okX9_mark 20 rfl) (by decide) rfl (fun (h40 : (fX9_isWithin S a4 (0 : Int32) (100 : Int32)) = (0 : Int32)) => ?_) (fun (h40 : ¬ (fX9_isWithin S a4 (0 : Int32) (100 : Int32)) = (0 : Int32)) => ?_)
        · skip
          rw [if_pos h40] at hf
          refine w_bi (n := 57) hM (-2 : Int32) (dtab_at okX9_mark 26 rfl) (by decide) rfl ?_
          exact r_i hM (dtab_at okX9_mark 27 rfl) (Option.some.inj hf)
        · skip
          rw [if_neg h40] at hf
          refine w_il (q := 6) (n := 45) hM (dtab_at okX9_mark 21 rfl) rfl rfl ?_
          refine w_ic (n := 46) hM (0 : Int32) (dtab_at okX9_mark 22 rfl) (by decide) rfl ?_
          refine w_si (n := 49) hM (10000 : Int32) (dtab_at okX9_mark 23 rfl) (by decide) rfl ?_
          refine w_callSi (n := 52) (As := [vi a5, vi (0 : Int32), vi (10000 : Int32)]) (rest := []) hM (c_X9_isWithin S a5 (0 : Int32) (10000 : Int32)) lkM_X9_121 ms_X9_isWithin (by decide) rfl (Nat.le_of_ble_eq_true rfl) rfl (dtab_at okX9_mark 24 rfl) rfl (fun x4 S4 hp4 => ?_)
          obtain ⟨hx_, hs_⟩ := hp4
          have hs_ := hs_.symm
          subst hs_
          subst hx_
          refine w_if_ne (n := 58) (n2 := 55) hM (dtab_at okX9_mark 25 rfl) (by decide) rfl (fun (h52 : ¬ (fX9_isWithin S a5 (0 : Int32) (10000 : Int32)) = (0 : Int32)) => ?_) (fun (h52 : (fX9_isWithin S a5 (0 : Int32) (10000 : Int32)) = (0 : Int32)) => ?_)
          · skip
            rw [if_neg h52] at hf
            refine w_al (q := 0) (n := 60) hM (dtab_at okX9_mark 28 rfl) rfl rfl ?_
            refine w_getr (C := RX6) (T := TX6) (i := 4) (k2 := 3) (q := (j0 + 18)) (n := 63) hM rfl (by decide) rfc_6_4 ly_X6 lkF_X9_173 (dtab_at okX9_mark 29 rfl) rfl ?_
            refine w_iln (q := 3) (n := 64) hM (dtab_at okX9_mark 30 rfl) rfl rfl ?_
            refine w_iln (q := 4) (n := 65) hM (dtab_at okX9_mark 31 rfl) rfl rfl ?_
            refine w_il (q := 5) (n := 67) hM (dtab_at okX9_mark 32 rfl) rfl rfl ?_
            refine w_il (q := 6) (n := 69) hM (dtab_at okX9_mark 33 rfl) rfl rfl ?_
            obtain ⟨r5, hr5, hf⟩ := Option.bind_eq_some_iff.mp hf
            refine w_callVi (n := 72) (As := [vi a2, vi a3, vi a4, vi a5]) (rest := []) (k := 3) (j := (j0 + 18)) (C := RX3) (T := TX3) (N := 8) hM (c_X3_add nF S (j0 + 18) a2 a3 a4 a5 r5 hr5) lkM_X9_177 mv_X3_add (by decide) rfl (by decide) rfl (Nat.le_of_ble_eq_true rfl) rfl (dtab_at okX9_mark 34 rfl) rfl (fun x5 S5 hp5 => ?_)
            have hx_ := congrArg Prod.fst hp5
            have hs_ := congrArg Prod.snd hp5
            dsimp only at hx_ hs_
            subst hx_
            subst hs_
            exact r_i hM (dtab_at okX9_mark 35 rfl) (Option.some.inj hf)
          · skip
            rw [if_pos h52] at hf
            refine w_bi (n := 57) hM (-2 : Int32) (dtab_at okX9_mark 26 rfl) (by decide) rfl ?_
            exact r_i hM (dtab_at okX9_mark 27 rfl) (Option.some.inj hf)
def fX9_clear (nF : Nat) (S : PS) (a1 : Int32) : Option (Int32 × PS) := (match (fX9_runAt S a1) with | none => (some ((-2 : Int32), S)) | some (_, j0) => (some ((S.1 (j0 + 18) 6), (sti S (j0 + 18) 6 (0 : Int32)))))
set_option maxHeartbeats 4000000 in
set_option maxRecDepth 100000 in
theorem c_X9_clear {cy : ClassId × ClassId} {ad : Nat → Nat} {D : va_G} {l : Launch} (nF : Nat) (S : PS) (a1 : Int32) (r : Int32 × PS) (hf : fX9_clear nF S a1 = some r) : PMi cy GC ad D l yX9_clear (wA yX9_clear cX9_clear 4 (some .int)) rmX9_clear [vr 9 0, vi a1] S (fun x S' => (x, S') = r) := by
  refine PM.of (lv := [(0, vr 9 0), (1, vi a1)]) GC_ok (by decide) (Nat.le_of_ble_eq_true rfl) rfl (by simp) ?_
  intro p e s m args below meth c A hM
  rw [fX9_clear] at hf
  refine w_aln (q := 0) (n := 1) hM (dtab_at okX9_clear 0 rfl) rfl rfl ?_
  refine w_iln (q := 1) (n := 2) hM (dtab_at okX9_clear 1 rfl) rfl rfl ?_
  refine w_callVr (n := 5) (As := [vi a1]) (rest := []) (k := 9) (j := 0) (C := RX9) (T := TX9) (N := 10) hM (c_X9_runAt S a1) lkM_X9_117 mv_X9_runAt (by decide) rfl (by decide) rfl (Nat.le_of_ble_eq_true rfl) rfl (dtab_at okX9_clear 2 rfl) rfl (fun x0 S0 hp0 => ?_)
  obtain ⟨hx_, hs_⟩ := hp0
  have hs_ := hs_.symm
  subst hs_
  subst hx_
  rcases hq0 : (fX9_runAt S a1) with _ | ⟨q0, j0⟩
  · skip
    rw [hq0] at hf
    dsimp only at hf
    refine w_asn (n := 6) (lv' := [(2, vn), (0, vr 9 0), (1, vi a1)]) hM (dtab_at okX9_clear 3 rfl) (by decide) rfl rfl ?_
    refine w_aln (q := 0) (n := 7) hM (dtab_at okX9_clear 4 rfl) rfl rfl ?_
    refine w_ifnonnullN (n := 10) hM (dtab_at okX9_clear 5 rfl) rfl ?_
    refine w_bi (n := 12) hM (-2 : Int32) (dtab_at okX9_clear 6 rfl) (by decide) rfl ?_
    exact r_i hM (dtab_at okX9_clear 7 rfl) (Option.some.inj hf)
  · skip
    obtain rfl := fX9_runAt_kind hq0
    rw [hq0] at hf
    dsimp only at hf
    refine w_asn (n := 6) (lv' := [(2, vr 6 j0), (0, vr 9 0), (1, vi a1)]) hM (dtab_at okX9_clear 3 rfl) (by decide) rfl rfl ?_
    refine w_aln (q := 0) (n := 7) hM (dtab_at okX9_clear 4 rfl) rfl rfl ?_
    refine w_ifnonnullR (n := 13) hM (dtab_at okX9_clear 5 rfl) (by decide) ?_
    refine w_aln (q := 0) (n := 14) hM (dtab_at okX9_clear 8 rfl) rfl rfl ?_
    refine w_getr (C := RX6) (T := TX6) (i := 4) (k2 := 3) (q := (j0 + 18)) (n := 17) hM rfl (by decide) rfc_6_4 ly_X6 lkF_X9_173 (dtab_at okX9_clear 9 rfl) rfl ?_
    refine w_geti (C := RX3) (T := TX3) (i := 6) (n := 20) hM rfl (by decide) ly_X3 lkF_X9_182 (dtab_at okX9_clear 10 rfl) rfl ?_
    refine w_isn (n := 21) (lv' := [(3, vi (S.1 (j0 + 18) 6)), (2, vr 6 j0), (0, vr 9 0), (1, vi a1)]) hM (dtab_at okX9_clear 11 rfl) (by decide) rfl rfl ?_
    refine w_aln (q := 1) (n := 22) hM (dtab_at okX9_clear 12 rfl) rfl rfl ?_
    refine w_getr (C := RX6) (T := TX6) (i := 4) (k2 := 3) (q := (j0 + 18)) (n := 25) hM rfl (by decide) rfc_6_4 ly_X6 lkF_X9_173 (dtab_at okX9_clear 13 rfl) rfl ?_
    refine w_ic (n := 26) hM (0 : Int32) (dtab_at okX9_clear 14 rfl) (by decide) rfl ?_
    refine w_put (C := RX3) (T := TX3) (i := 6) (ty := .int) (n := 29) hM rfl (by decide) ly_X3 tyX3_ok nmX3 lkF_X9_182 rfl (by decide +kernel) rfl rfl (dtab_at okX9_clear 15 rfl) rfl ?_
    refine w_iln (q := 0) (n := 30) hM (dtab_at okX9_clear 16 rfl) rfl rfl ?_
    exact r_i hM (dtab_at okX9_clear 17 rfl) (Option.some.inj hf)
def BX9_about_46 (nF : Nat) (S : PS) (v2 : Int32) (v3 : Int32) (v4 : Nat) : Option (Int32 × PS) := (if v3 = (5 : Int32) then ((fX3_putTogether nF S (v4 + 18) (S.1 0 7) (S.1 0 8)).bind fun r1 => ((fX6_markFact nF r1 v4 v2 v3).bind fun r2 => (some (r2, r1)))) else ((fX6_markFact nF S v4 v2 v3).bind fun r0 => (some (r0, S))))
set_option maxHeartbeats 4000000 in
set_option maxRecDepth 100000 in
theorem wBX9_about_46 {cy : ClassId × ClassId} {ad : Nat → Nat} {D : va_G} {p : Program} {l : Launch} {e : Env} {s : State} {m : MethodId} {args : Array Value} {below : List Frame} {meth : Method} {c : Code} {A : Nat → Prop} (hM : MX cy GC ad D p s m args meth c cX9_about 5 RX9 (some .int) A) (nF : Nat) (r : Int32 × PS) (S : PS) (v2 : Int32) (v3 : Int32) (v4 : Nat) (hf : BX9_about_46 nF S v2 v3 v4 = some r) : WW cy GC ad D p l e rmX9_about s m args below meth c 5 A (poi (fun x S' => (x, S') = r)) 46 [(0, vr 9 0), (2, vi v2), (3, vi v3), (4, vr 6 v4)] [] S := by
  rw [BX9_about_46] at hf
  refine w_iln (q := 2) (n := 47) hM (dtab_at okX9_about 23 rfl) rfl rfl ?_
  refine w_ic (n := 48) hM (5 : Int32) (dtab_at okX9_about 24 rfl) (by decide) rfl ?_
  refine w_ic_ne (n := 67) (n2 := 51) hM (dtab_at okX9_about 25 rfl) (by decide) rfl (fun (h48 : ¬ v3 = (5 : Int32)) => ?_) (fun (h48 : v3 = (5 : Int32)) => ?_)
  · skip
    rw [if_neg h48] at hf
    refine w_al (q := 3) (n := 69) hM (dtab_at okX9_about 33 rfl) rfl rfl ?_
    refine w_iln (q := 1) (n := 70) hM (dtab_at okX9_about 34 rfl) rfl rfl ?_
    refine w_iln (q := 2) (n := 71) hM (dtab_at okX9_about 35 rfl) rfl rfl ?_
    obtain ⟨r0, hr0, hf⟩ := Option.bind_eq_some_iff.mp hf
    refine w_callVi (n := 74) (As := [vi v2, vi v3]) (rest := []) (k := 6) (j := v4) (C := RX6) (T := TX6) (N := 12) hM (c_X6_markFact nF S v4 v2 v3 r0 hr0) lkM_X9_189 mv_X6_markFact (by decide) rfl (by decide) rfl (Nat.le_of_ble_eq_true rfl) rfl (dtab_at okX9_about 36 rfl) rfl (fun x0 S0 hp0 => ?_)
    obtain ⟨hx_, hs_⟩ := hp0
    have hs_ := hs_.symm
    have hx_ := hx_.symm
    subst hs_
    subst hx_
    exact r_i hM (dtab_at okX9_about 37 rfl) (Option.some.inj hf)
  · skip
    rw [if_pos h48] at hf
    refine w_al (q := 3) (n := 53) hM (dtab_at okX9_about 26 rfl) rfl rfl ?_
    refine w_getr (C := RX6) (T := TX6) (i := 4) (k2 := 3) (q := (v4 + 18)) (n := 56) hM rfl (by decide) rfc_6_4 ly_X6 lkF_X9_173 (dtab_at okX9_about 27 rfl) rfl ?_
    refine w_aln (q := 0) (n := 57) hM (dtab_at okX9_about 28 rfl) rfl rfl ?_
    refine w_geti (C := RX9) (T := TX9) (i := 7) (n := 60) hM rfl (by decide) ly_X9 lkF_X9_54 (dtab_at okX9_about 29 rfl) rfl ?_
    refine w_aln (q := 0) (n := 61) hM (dtab_at okX9_about 30 rfl) rfl rfl ?_
    refine w_geti (C := RX9) (T := TX9) (i := 8) (n := 64) hM rfl (by decide) ly_X9 lkF_X9_58 (dtab_at okX9_about 31 rfl) rfl ?_
    obtain ⟨r1, hr1, hf⟩ := Option.bind_eq_some_iff.mp hf
    refine w_callVv (n := 67) (As := [vi (S.1 0 7), vi (S.1 0 8)]) (rest := []) (k := 3) (j := (v4 + 18)) (C := RX3) (T := TX3) (N := 8) hM (c_X3_putTogether nF S (v4 + 18) (S.1 0 7) (S.1 0 8) r1 hr1) lkM_X9_186 mv_X3_putTogether (by decide) rfl (by decide) rfl (Nat.le_of_ble_eq_true rfl) rfl (dtab_at okX9_about 32 rfl) rfl (fun S1 hp1 => ?_)
    have hs_ := hp1.symm
    subst hs_
    refine w_al (q := 3) (n := 69) hM (dtab_at okX9_about 33 rfl) rfl rfl ?_
    refine w_iln (q := 1) (n := 70) hM (dtab_at okX9_about 34 rfl) rfl rfl ?_
    refine w_iln (q := 2) (n := 71) hM (dtab_at okX9_about 35 rfl) rfl rfl ?_
    obtain ⟨r2, hr2, hf⟩ := Option.bind_eq_some_iff.mp hf
    refine w_callVi (n := 74) (As := [vi v2, vi v3]) (rest := []) (k := 6) (j := v4) (C := RX6) (T := TX6) (N := 12) hM (c_X6_markFact nF r1 v4 v2 v3 r2 hr2) lkM_X9_189 mv_X6_markFact (by decide) rfl (by decide) rfl (Nat.le_of_ble_eq_true rfl) rfl (dtab_at okX9_about 36 rfl) rfl (fun x2 S2 hp2 => ?_)
    obtain ⟨hx_, hs_⟩ := hp2
    have hs_ := hs_.symm
    have hx_ := hx_.symm
    subst hs_
    subst hx_
    exact r_i hM (dtab_at okX9_about 37 rfl) (Option.some.inj hf)
def fX9_about (nF : Nat) (S : PS) (a1 : Int32) (a2 : Int32) (a3 : Int32) : Option (Int32 × PS) := (match (fX9_runAt S a1) with | none => (some ((-2 : Int32), S)) | some (_, j0) => (if (fX3_hasMark S (j0 + 18) a2) = (0 : Int32) then (some ((-2 : Int32), S)) else (if (fX9_isWithin S a3 (0 : Int32) (5 : Int32)) = (0 : Int32) then (some ((-2 : Int32), S)) else (if a3 = (4 : Int32) then ((fX6_feel nF S j0).bind fun r3 => (BX9_about_46 nF r3 a2 a3 j0)) else (BX9_about_46 nF S a2 a3 j0)))))
set_option maxHeartbeats 4000000 in
set_option maxRecDepth 100000 in
theorem c_X9_about {cy : ClassId × ClassId} {ad : Nat → Nat} {D : va_G} {l : Launch} (nF : Nat) (S : PS) (a1 : Int32) (a2 : Int32) (a3 : Int32) (r : Int32 × PS) (hf : fX9_about nF S a1 a2 a3 = some r) : PMi cy GC ad D l yX9_about (wA yX9_about cX9_about 5 (some .int)) rmX9_about [vr 9 0, vi a1, vi a2, vi a3] S (fun x S' => (x, S') = r) := by
  refine PM.of (lv := [(0, vr 9 0), (1, vi a1), (2, vi a2), (3, vi a3)]) GC_ok (by decide) (Nat.le_of_ble_eq_true rfl) rfl (by simp) ?_
  intro p e s m args below meth c A hM
  rw [fX9_about] at hf
  refine w_aln (q := 0) (n := 1) hM (dtab_at okX9_about 0 rfl) rfl rfl ?_
  refine w_iln (q := 1) (n := 2) hM (dtab_at okX9_about 1 rfl) rfl rfl ?_
  refine w_callVr (n := 5) (As := [vi a1]) (rest := []) (k := 9) (j := 0) (C := RX9) (T := TX9) (N := 10) hM (c_X9_runAt S a1) lkM_X9_117 mv_X9_runAt (by decide) rfl (by decide) rfl (Nat.le_of_ble_eq_true rfl) rfl (dtab_at okX9_about 2 rfl) rfl (fun x0 S0 hp0 => ?_)
  obtain ⟨hx_, hs_⟩ := hp0
  have hs_ := hs_.symm
  subst hs_
  subst hx_
  rcases hq0 : (fX9_runAt S a1) with _ | ⟨q0, j0⟩
  · skip
    rw [hq0] at hf
    dsimp only at hf
    refine w_as (n := 7) (lv' := [(4, vn), (0, vr 9 0), (1, vi a1), (2, vi a2), (3, vi a3)]) hM (dtab_at okX9_about 3 rfl) (by decide) rfl rfl ?_
    refine w_al (q := 0) (n := 9) hM (dtab_at okX9_about 4 rfl) rfl rfl ?_
    refine w_ifnullN (n := 33) hM (dtab_at okX9_about 5 rfl) (by decide) ?_
    refine w_bi (n := 35) hM (-2 : Int32) (dtab_at okX9_about 16 rfl) (by decide) rfl ?_
    exact r_i hM (dtab_at okX9_about 17 rfl) (Option.some.inj hf)
  · skip
    obtain rfl := fX9_runAt_kind hq0
    rw [hq0] at hf
    dsimp only at hf
    refine w_as (n := 7) (lv' := [(4, vr 6 j0), (0, vr 9 0), (1, vi a1), (2, vi a2), (3, vi a3)]) hM (dtab_at okX9_about 3 rfl) (by decide) rfl rfl ?_
    refine w_al (q := 0) (n := 9) hM (dtab_at okX9_about 4 rfl) rfl rfl ?_
    refine w_ifnullR (n := 12) hM (dtab_at okX9_about 5 rfl) rfl ?_
    refine w_al (q := 0) (n := 14) hM (dtab_at okX9_about 6 rfl) rfl rfl ?_
    refine w_getr (C := RX6) (T := TX6) (i := 4) (k2 := 3) (q := (j0 + 18)) (n := 17) hM rfl (by decide) rfc_6_4 ly_X6 lkF_X9_173 (dtab_at okX9_about 7 rfl) rfl ?_
    refine w_iln (q := 3) (n := 18) hM (dtab_at okX9_about 8 rfl) rfl rfl ?_
    refine w_callVi (n := 21) (As := [vi a2]) (rest := []) (k := 3) (j := (j0 + 18)) (C := RX3) (T := TX3) (N := 8) hM (c_X3_hasMark S (j0 + 18) a2) lkM_X9_183 mv_X3_hasMark (by decide) rfl (by decide) rfl (Nat.le_of_ble_eq_true rfl) rfl (dtab_at okX9_about 9 rfl) rfl (fun x1 S1 hp1 => ?_)
    obtain ⟨hx_, hs_⟩ := hp1
    have hs_ := hs_.symm
    subst hs_
    subst hx_
    refine w_if_eq (n := 33) (n2 := 24) hM (dtab_at okX9_about 10 rfl) (by decide) rfl (fun (h21 : (fX3_hasMark S (j0 + 18) a2) = (0 : Int32)) => ?_) (fun (h21 : ¬ (fX3_hasMark S (j0 + 18) a2) = (0 : Int32)) => ?_)
    · skip
      rw [if_pos h21] at hf
      refine w_bi (n := 35) hM (-2 : Int32) (dtab_at okX9_about 16 rfl) (by decide) rfl ?_
      exact r_i hM (dtab_at okX9_about 17 rfl) (Option.some.inj hf)
    · skip
      rw [if_neg h21] at hf
      refine w_iln (q := 4) (n := 25) hM (dtab_at okX9_about 11 rfl) rfl rfl ?_
      refine w_ic (n := 26) hM (0 : Int32) (dtab_at okX9_about 12 rfl) (by decide) rfl ?_
      refine w_ic (n := 27) hM (5 : Int32) (dtab_at okX9_about 13 rfl) (by decide) rfl ?_
      refine w_callSi (n := 30) (As := [vi a3, vi (0 : Int32), vi (5 : Int32)]) (rest := []) hM (c_X9_isWithin S a3 (0 : Int32) (5 : Int32)) lkM_X9_121 ms_X9_isWithin (by decide) rfl (Nat.le_of_ble_eq_true rfl) rfl (dtab_at okX9_about 14 rfl) rfl (fun x2 S2 hp2 => ?_)
      obtain ⟨hx_, hs_⟩ := hp2
      have hs_ := hs_.symm
      subst hs_
      subst hx_
      refine w_if_ne (n := 36) (n2 := 33) hM (dtab_at okX9_about 15 rfl) (by decide) rfl (fun (h30 : ¬ (fX9_isWithin S a3 (0 : Int32) (5 : Int32)) = (0 : Int32)) => ?_) (fun (h30 : (fX9_isWithin S a3 (0 : Int32) (5 : Int32)) = (0 : Int32)) => ?_)
      · skip
        rw [if_neg h30] at hf
        refine w_iln (q := 4) (n := 37) hM (dtab_at okX9_about 18 rfl) rfl rfl ?_
        refine w_ic (n := 38) hM (4 : Int32) (dtab_at okX9_about 19 rfl) (by decide) rfl ?_
        refine w_ic_ne (n := 46) (n2 := 41) hM (dtab_at okX9_about 20 rfl) (by decide) rfl (fun (h38 : ¬ a3 = (4 : Int32)) => ?_) (fun (h38 : a3 = (4 : Int32)) => ?_)
        · skip
          rw [if_neg h38] at hf
          refine WW.lvs [1, 3, 4, 0] (lv2 := [(0, vr 9 0), (2, vi a2), (3, vi a3), (4, vr 6 j0)]) rfl ?_
          exact wBX9_about_46 hM nF r S a2 a3 j0 hf
        · skip
          rw [if_pos h38] at hf
          refine w_al (q := 0) (n := 43) hM (dtab_at okX9_about 21 rfl) rfl rfl ?_
          obtain ⟨r3, hr3, hf⟩ := Option.bind_eq_some_iff.mp hf
          refine w_callVv (n := 46) (As := []) (rest := []) (k := 6) (j := j0) (C := RX6) (T := TX6) (N := 12) hM (c_X6_feel nF S j0 r3 hr3) lkM_X9_125 mv_X6_feel (by decide) rfl (by decide) rfl (Nat.le_of_ble_eq_true rfl) rfl (dtab_at okX9_about 22 rfl) rfl (fun S3 hp3 => ?_)
          have hs_ := hp3.symm
          subst hs_
          refine WW.lvs [1, 3, 4, 0] (lv2 := [(0, vr 9 0), (2, vi a2), (3, vi a3), (4, vr 6 j0)]) rfl ?_
          exact wBX9_about_46 hM nF r r3 a2 a3 j0 hf
      · skip
        rw [if_pos h30] at hf
        refine w_bi (n := 35) hM (-2 : Int32) (dtab_at okX9_about 16 rfl) (by decide) rfl ?_
        exact r_i hM (dtab_at okX9_about 17 rfl) (Option.some.inj hf)
def fX9_near (S : PS) (a1 : Int32) (a2 : Int32) : Int32 × PS := if (fX9_isWithin S a1 (0 : Int32) (100000 : Int32)) = (0 : Int32) then ((-2 : Int32), S) else (if (fX9_isWithin S a2 (0 : Int32) (6 : Int32)) = (0 : Int32) then ((-2 : Int32), S) else ((1 : Int32), (sti (sti S 0 7 a1) 0 8 a2)))
set_option maxHeartbeats 4000000 in
set_option maxRecDepth 100000 in
theorem c_X9_near {cy : ClassId × ClassId} {ad : Nat → Nat} {D : va_G} {l : Launch} (S : PS) (a1 : Int32) (a2 : Int32)  : PMi cy GC ad D l yX9_near (wA yX9_near cX9_near 3 (some .int)) rmX9_near [vr 9 0, vi a1, vi a2] S (fun x S' => (x, S') = (fX9_near S a1 a2)) := by
  refine PM.of (lv := [(0, vr 9 0), (1, vi a1), (2, vi a2)]) GC_ok (by decide) (Nat.le_of_ble_eq_true rfl) rfl (by simp) ?_
  intro p e s m args below meth c A hM
  refine w_iln (q := 1) (n := 1) hM (dtab_at okX9_near 0 rfl) rfl rfl ?_
  refine w_ic (n := 2) hM (0 : Int32) (dtab_at okX9_near 1 rfl) (by decide) rfl ?_
  refine w_ldc (n := 4) (v := (100000 : Int32)) hM (dtab_at okX9_near 2 rfl) lkC_X9_146 rfl ?_
  refine w_callSi (n := 7) (As := [vi a1, vi (0 : Int32), vi (100000 : Int32)]) (rest := []) hM (c_X9_isWithin S a1 (0 : Int32) (100000 : Int32)) lkM_X9_121 ms_X9_isWithin (by decide) rfl (Nat.le_of_ble_eq_true rfl) rfl (dtab_at okX9_near 3 rfl) rfl (fun x0 S0 hp0 => ?_)
  obtain ⟨hx_, hs_⟩ := hp0
  have hs_ := hs_.symm
  subst hs_
  subst hx_
  refine w_if_eq (n := 20) (n2 := 10) hM (dtab_at okX9_near 4 rfl) (by decide) rfl (fun (h7 : (fX9_isWithin S a1 (0 : Int32) (100000 : Int32)) = (0 : Int32)) => ?_) (fun (h7 : ¬ (fX9_isWithin S a1 (0 : Int32) (100000 : Int32)) = (0 : Int32)) => ?_)
  · skip
    refine w_bi (n := 22) hM (-2 : Int32) (dtab_at okX9_near 10 rfl) (by decide) rfl ?_
    exact r_i hM (dtab_at okX9_near 11 rfl) (by rw [fX9_near, if_pos h7])
  · skip
    refine w_iln (q := 2) (n := 11) hM (dtab_at okX9_near 5 rfl) rfl rfl ?_
    refine w_ic (n := 12) hM (0 : Int32) (dtab_at okX9_near 6 rfl) (by decide) rfl ?_
    refine w_bi (n := 14) hM (6 : Int32) (dtab_at okX9_near 7 rfl) (by decide) rfl ?_
    refine w_callSi (n := 17) (As := [vi a2, vi (0 : Int32), vi (6 : Int32)]) (rest := []) hM (c_X9_isWithin S a2 (0 : Int32) (6 : Int32)) lkM_X9_121 ms_X9_isWithin (by decide) rfl (Nat.le_of_ble_eq_true rfl) rfl (dtab_at okX9_near 8 rfl) rfl (fun x1 S1 hp1 => ?_)
    obtain ⟨hx_, hs_⟩ := hp1
    have hs_ := hs_.symm
    subst hs_
    subst hx_
    refine w_if_ne (n := 23) (n2 := 20) hM (dtab_at okX9_near 9 rfl) (by decide) rfl (fun (h17 : ¬ (fX9_isWithin S a2 (0 : Int32) (6 : Int32)) = (0 : Int32)) => ?_) (fun (h17 : (fX9_isWithin S a2 (0 : Int32) (6 : Int32)) = (0 : Int32)) => ?_)
    · skip
      refine w_aln (q := 0) (n := 24) hM (dtab_at okX9_near 12 rfl) rfl rfl ?_
      refine w_iln (q := 1) (n := 25) hM (dtab_at okX9_near 13 rfl) rfl rfl ?_
      refine w_put (C := RX9) (T := TX9) (i := 7) (ty := .int) (n := 28) hM rfl (by decide) ly_X9 tyX9_ok nmX9 lkF_X9_54 rfl (by decide +kernel) rfl rfl (dtab_at okX9_near 14 rfl) rfl ?_
      refine w_aln (q := 0) (n := 29) hM (dtab_at okX9_near 15 rfl) rfl rfl ?_
      refine w_iln (q := 2) (n := 30) hM (dtab_at okX9_near 16 rfl) rfl rfl ?_
      refine w_put (C := RX9) (T := TX9) (i := 8) (ty := .int) (n := 33) hM rfl (by decide) ly_X9 tyX9_ok nmX9 lkF_X9_58 rfl (by decide +kernel) rfl rfl (dtab_at okX9_near 17 rfl) rfl ?_
      refine w_ic (n := 34) hM (1 : Int32) (dtab_at okX9_near 18 rfl) (by decide) rfl ?_
      exact r_i hM (dtab_at okX9_near 19 rfl) (by rw [fX9_near, if_neg h7, if_neg h17])
    · skip
      refine w_bi (n := 22) hM (-2 : Int32) (dtab_at okX9_near 10 rfl) (by decide) rfl ?_
      exact r_i hM (dtab_at okX9_near 11 rfl) (by rw [fX9_near, if_neg h7, if_pos h17])
def fX9_groups (nF : Nat) (S : PS) (a1 : Int32) : Option (Int32 × PS) := (match (fX9_runAt S a1) with | none => (some ((-2 : Int32), S)) | some (_, j0) => ((fX3_putTogether nF S (j0 + 18) (S.1 0 7) (S.1 0 8)).bind fun r1 => (some ((r1.1 (j0 + 18) 7), r1))))
set_option maxHeartbeats 4000000 in
set_option maxRecDepth 100000 in
theorem c_X9_groups {cy : ClassId × ClassId} {ad : Nat → Nat} {D : va_G} {l : Launch} (nF : Nat) (S : PS) (a1 : Int32) (r : Int32 × PS) (hf : fX9_groups nF S a1 = some r) : PMi cy GC ad D l yX9_groups (wA yX9_groups cX9_groups 3 (some .int)) rmX9_groups [vr 9 0, vi a1] S (fun x S' => (x, S') = r) := by
  refine PM.of (lv := [(0, vr 9 0), (1, vi a1)]) GC_ok (by decide) (Nat.le_of_ble_eq_true rfl) rfl (by simp) ?_
  intro p e s m args below meth c A hM
  rw [fX9_groups] at hf
  refine w_aln (q := 0) (n := 1) hM (dtab_at okX9_groups 0 rfl) rfl rfl ?_
  refine w_iln (q := 1) (n := 2) hM (dtab_at okX9_groups 1 rfl) rfl rfl ?_
  refine w_callVr (n := 5) (As := [vi a1]) (rest := []) (k := 9) (j := 0) (C := RX9) (T := TX9) (N := 10) hM (c_X9_runAt S a1) lkM_X9_117 mv_X9_runAt (by decide) rfl (by decide) rfl (Nat.le_of_ble_eq_true rfl) rfl (dtab_at okX9_groups 2 rfl) rfl (fun x0 S0 hp0 => ?_)
  obtain ⟨hx_, hs_⟩ := hp0
  have hs_ := hs_.symm
  subst hs_
  subst hx_
  rcases hq0 : (fX9_runAt S a1) with _ | ⟨q0, j0⟩
  · skip
    rw [hq0] at hf
    dsimp only at hf
    refine w_asn (n := 6) (lv' := [(2, vn), (0, vr 9 0), (1, vi a1)]) hM (dtab_at okX9_groups 3 rfl) (by decide) rfl rfl ?_
    refine w_aln (q := 0) (n := 7) hM (dtab_at okX9_groups 4 rfl) rfl rfl ?_
    refine w_ifnonnullN (n := 10) hM (dtab_at okX9_groups 5 rfl) rfl ?_
    refine w_bi (n := 12) hM (-2 : Int32) (dtab_at okX9_groups 6 rfl) (by decide) rfl ?_
    exact r_i hM (dtab_at okX9_groups 7 rfl) (Option.some.inj hf)
  · skip
    obtain rfl := fX9_runAt_kind hq0
    rw [hq0] at hf
    dsimp only at hf
    refine w_asn (n := 6) (lv' := [(2, vr 6 j0), (0, vr 9 0), (1, vi a1)]) hM (dtab_at okX9_groups 3 rfl) (by decide) rfl rfl ?_
    refine w_aln (q := 0) (n := 7) hM (dtab_at okX9_groups 4 rfl) rfl rfl ?_
    refine w_ifnonnullR (n := 13) hM (dtab_at okX9_groups 5 rfl) (by decide) ?_
    refine w_aln (q := 0) (n := 14) hM (dtab_at okX9_groups 8 rfl) rfl rfl ?_
    refine w_getr (C := RX6) (T := TX6) (i := 4) (k2 := 3) (q := (j0 + 18)) (n := 17) hM rfl (by decide) rfc_6_4 ly_X6 lkF_X9_173 (dtab_at okX9_groups 9 rfl) rfl ?_
    refine w_aln (q := 1) (n := 18) hM (dtab_at okX9_groups 10 rfl) rfl rfl ?_
    refine w_geti (C := RX9) (T := TX9) (i := 7) (n := 21) hM rfl (by decide) ly_X9 lkF_X9_54 (dtab_at okX9_groups 11 rfl) rfl ?_
    refine w_aln (q := 1) (n := 22) hM (dtab_at okX9_groups 12 rfl) rfl rfl ?_
    refine w_geti (C := RX9) (T := TX9) (i := 8) (n := 25) hM rfl (by decide) ly_X9 lkF_X9_58 (dtab_at okX9_groups 13 rfl) rfl ?_
    obtain ⟨r1, hr1, hf⟩ := Option.bind_eq_some_iff.mp hf
    refine w_callVv (n := 28) (As := [vi (S.1 0 7), vi (S.1 0 8)]) (rest := []) (k := 3) (j := (j0 + 18)) (C := RX3) (T := TX3) (N := 8) hM (c_X3_putTogether nF S (j0 + 18) (S.1 0 7) (S.1 0 8) r1 hr1) lkM_X9_186 mv_X3_putTogether (by decide) rfl (by decide) rfl (Nat.le_of_ble_eq_true rfl) rfl (dtab_at okX9_groups 14 rfl) rfl (fun S1 hp1 => ?_)
    have hs_ := hp1.symm
    subst hs_
    refine w_aln (q := 0) (n := 29) hM (dtab_at okX9_groups 15 rfl) rfl rfl ?_
    refine w_getr (C := RX6) (T := TX6) (i := 4) (k2 := 3) (q := (j0 + 18)) (n := 32) hM rfl (by decide) rfc_6_4 ly_X6 lkF_X9_173 (dtab_at okX9_groups 16 rfl) rfl ?_
    refine w_geti (C := RX3) (T := TX3) (i := 7) (n := 35) hM rfl (by decide) ly_X3 lkF_X9_192 (dtab_at okX9_groups 17 rfl) rfl ?_
    exact r_i hM (dtab_at okX9_groups 18 rfl) (Option.some.inj hf)
def fX9_group (nF : Nat) (S : PS) (a1 : Int32) (a2 : Int32) (a3 : Int32) : Option (Int32 × PS) := (match (fX9_runAt S a1) with | none => (some ((-2 : Int32), S)) | some (_, j0) => (if (fX9_isWithin S a3 (0 : Int32) (4 : Int32)) = (0 : Int32) then (some ((-2 : Int32), S)) else ((fX3_putTogether nF S (j0 + 18) (S.1 0 7) (S.1 0 8)).bind fun r2 => (if a2 < (0 : Int32) then (some ((-2 : Int32), r2)) else (if a2 < (r2.1 (j0 + 18) 7) then ((fX3_groupFact nF r2 (j0 + 18) a2 a3).bind fun r3 => (some (r3, r2))) else (some ((-2 : Int32), r2)))))))
set_option maxHeartbeats 4000000 in
set_option maxRecDepth 100000 in
theorem c_X9_group {cy : ClassId × ClassId} {ad : Nat → Nat} {D : va_G} {l : Launch} (nF : Nat) (S : PS) (a1 : Int32) (a2 : Int32) (a3 : Int32) (r : Int32 × PS) (hf : fX9_group nF S a1 a2 a3 = some r) : PMi cy GC ad D l yX9_group (wA yX9_group cX9_group 5 (some .int)) rmX9_group [vr 9 0, vi a1, vi a2, vi a3] S (fun x S' => (x, S') = r) := by
  refine PM.of (lv := [(0, vr 9 0), (1, vi a1), (2, vi a2), (3, vi a3)]) GC_ok (by decide) (Nat.le_of_ble_eq_true rfl) rfl (by simp) ?_
  intro p e s m args below meth c A hM
  rw [fX9_group] at hf
  refine w_aln (q := 0) (n := 1) hM (dtab_at okX9_group 0 rfl) rfl rfl ?_
  refine w_iln (q := 1) (n := 2) hM (dtab_at okX9_group 1 rfl) rfl rfl ?_
  refine w_callVr (n := 5) (As := [vi a1]) (rest := []) (k := 9) (j := 0) (C := RX9) (T := TX9) (N := 10) hM (c_X9_runAt S a1) lkM_X9_117 mv_X9_runAt (by decide) rfl (by decide) rfl (Nat.le_of_ble_eq_true rfl) rfl (dtab_at okX9_group 2 rfl) rfl (fun x0 S0 hp0 => ?_)
  obtain ⟨hx_, hs_⟩ := hp0
  have hs_ := hs_.symm
  subst hs_
  subst hx_
  rcases hq0 : (fX9_runAt S a1) with _ | ⟨q0, j0⟩
  · skip
    rw [hq0] at hf
    dsimp only at hf
    refine w_as (n := 7) (lv' := [(4, vn), (0, vr 9 0), (1, vi a1), (2, vi a2), (3, vi a3)]) hM (dtab_at okX9_group 3 rfl) (by decide) rfl rfl ?_
    refine w_al (q := 0) (n := 9) hM (dtab_at okX9_group 4 rfl) rfl rfl ?_
    refine w_ifnullN (n := 21) hM (dtab_at okX9_group 5 rfl) (by decide) ?_
    refine w_bi (n := 23) hM (-2 : Int32) (dtab_at okX9_group 11 rfl) (by decide) rfl ?_
    exact r_i hM (dtab_at okX9_group 12 rfl) (Option.some.inj hf)
  · skip
    obtain rfl := fX9_runAt_kind hq0
    rw [hq0] at hf
    dsimp only at hf
    refine w_as (n := 7) (lv' := [(4, vr 6 j0), (0, vr 9 0), (1, vi a1), (2, vi a2), (3, vi a3)]) hM (dtab_at okX9_group 3 rfl) (by decide) rfl rfl ?_
    refine w_al (q := 0) (n := 9) hM (dtab_at okX9_group 4 rfl) rfl rfl ?_
    refine w_ifnullR (n := 12) hM (dtab_at okX9_group 5 rfl) rfl ?_
    refine w_iln (q := 4) (n := 13) hM (dtab_at okX9_group 6 rfl) rfl rfl ?_
    refine w_ic (n := 14) hM (0 : Int32) (dtab_at okX9_group 7 rfl) (by decide) rfl ?_
    refine w_ic (n := 15) hM (4 : Int32) (dtab_at okX9_group 8 rfl) (by decide) rfl ?_
    refine w_callSi (n := 18) (As := [vi a3, vi (0 : Int32), vi (4 : Int32)]) (rest := []) hM (c_X9_isWithin S a3 (0 : Int32) (4 : Int32)) lkM_X9_121 ms_X9_isWithin (by decide) rfl (Nat.le_of_ble_eq_true rfl) rfl (dtab_at okX9_group 9 rfl) rfl (fun x1 S1 hp1 => ?_)
    obtain ⟨hx_, hs_⟩ := hp1
    have hs_ := hs_.symm
    subst hs_
    subst hx_
    refine w_if_ne (n := 24) (n2 := 21) hM (dtab_at okX9_group 10 rfl) (by decide) rfl (fun (h18 : ¬ (fX9_isWithin S a3 (0 : Int32) (4 : Int32)) = (0 : Int32)) => ?_) (fun (h18 : (fX9_isWithin S a3 (0 : Int32) (4 : Int32)) = (0 : Int32)) => ?_)
    · skip
      rw [if_neg h18] at hf
      refine w_al (q := 0) (n := 26) hM (dtab_at okX9_group 13 rfl) rfl rfl ?_
      refine w_getr (C := RX6) (T := TX6) (i := 4) (k2 := 3) (q := (j0 + 18)) (n := 29) hM rfl (by decide) rfc_6_4 ly_X6 lkF_X9_173 (dtab_at okX9_group 14 rfl) rfl ?_
      refine w_aln (q := 1) (n := 30) hM (dtab_at okX9_group 15 rfl) rfl rfl ?_
      refine w_geti (C := RX9) (T := TX9) (i := 7) (n := 33) hM rfl (by decide) ly_X9 lkF_X9_54 (dtab_at okX9_group 16 rfl) rfl ?_
      refine w_aln (q := 1) (n := 34) hM (dtab_at okX9_group 17 rfl) rfl rfl ?_
      refine w_geti (C := RX9) (T := TX9) (i := 8) (n := 37) hM rfl (by decide) ly_X9 lkF_X9_58 (dtab_at okX9_group 18 rfl) rfl ?_
      obtain ⟨r2, hr2, hf⟩ := Option.bind_eq_some_iff.mp hf
      refine w_callVv (n := 40) (As := [vi (S.1 0 7), vi (S.1 0 8)]) (rest := []) (k := 3) (j := (j0 + 18)) (C := RX3) (T := TX3) (N := 8) hM (c_X3_putTogether nF S (j0 + 18) (S.1 0 7) (S.1 0 8) r2 hr2) lkM_X9_186 mv_X3_putTogether (by decide) rfl (by decide) rfl (Nat.le_of_ble_eq_true rfl) rfl (dtab_at okX9_group 19 rfl) rfl (fun S2 hp2 => ?_)
      have hs_ := hp2.symm
      subst hs_
      refine w_iln (q := 3) (n := 41) hM (dtab_at okX9_group 20 rfl) rfl rfl ?_
      refine w_if_lt (n := 56) (n2 := 44) hM (dtab_at okX9_group 21 rfl) (by decide) rfl (fun (h41 : a2 < (0 : Int32)) => ?_) (fun (h41 : ¬ a2 < (0 : Int32)) => ?_)
      · skip
        rw [if_pos h41] at hf
        refine w_bi (n := 58) hM (-2 : Int32) (dtab_at okX9_group 27 rfl) (by decide) rfl ?_
        exact r_i hM (dtab_at okX9_group 28 rfl) (Option.some.inj hf)
      · skip
        rw [if_neg h41] at hf
        refine w_iln (q := 3) (n := 45) hM (dtab_at okX9_group 22 rfl) rfl rfl ?_
        refine w_al (q := 0) (n := 47) hM (dtab_at okX9_group 23 rfl) rfl rfl ?_
        refine w_getr (C := RX6) (T := TX6) (i := 4) (k2 := 3) (q := (j0 + 18)) (n := 50) hM rfl (by decide) rfc_6_4 ly_X6 lkF_X9_173 (dtab_at okX9_group 24 rfl) rfl ?_
        refine w_geti (C := RX3) (T := TX3) (i := 7) (n := 53) hM rfl (by decide) ly_X3 lkF_X9_192 (dtab_at okX9_group 25 rfl) rfl ?_
        refine w_ic_lt (n := 59) (n2 := 56) hM (dtab_at okX9_group 26 rfl) (by decide) rfl (fun (h53 : a2 < (r2.1 (j0 + 18) 7)) => ?_) (fun (h53 : ¬ a2 < (r2.1 (j0 + 18) 7)) => ?_)
        · skip
          rw [if_pos h53] at hf
          refine w_al (q := 0) (n := 61) hM (dtab_at okX9_group 29 rfl) rfl rfl ?_
          refine w_getr (C := RX6) (T := TX6) (i := 4) (k2 := 3) (q := (j0 + 18)) (n := 64) hM rfl (by decide) rfc_6_4 ly_X6 lkF_X9_173 (dtab_at okX9_group 30 rfl) rfl ?_
          refine w_iln (q := 3) (n := 65) hM (dtab_at okX9_group 31 rfl) rfl rfl ?_
          refine w_iln (q := 4) (n := 66) hM (dtab_at okX9_group 32 rfl) rfl rfl ?_
          obtain ⟨r3, hr3, hf⟩ := Option.bind_eq_some_iff.mp hf
          refine w_callVi (n := 69) (As := [vi a2, vi a3]) (rest := []) (k := 3) (j := (j0 + 18)) (C := RX3) (T := TX3) (N := 8) hM (c_X3_groupFact nF r2 (j0 + 18) a2 a3 r3 hr3) lkM_X9_195 mv_X3_groupFact (by decide) rfl (by decide) rfl (Nat.le_of_ble_eq_true rfl) rfl (dtab_at okX9_group 33 rfl) rfl (fun x3 S3 hp3 => ?_)
          obtain ⟨hx_, hs_⟩ := hp3
          have hs_ := hs_.symm
          have hx_ := hx_.symm
          subst hs_
          subst hx_
          exact r_i hM (dtab_at okX9_group 34 rfl) (Option.some.inj hf)
        · skip
          rw [if_neg h53] at hf
          refine w_bi (n := 58) hM (-2 : Int32) (dtab_at okX9_group 27 rfl) (by decide) rfl ?_
          exact r_i hM (dtab_at okX9_group 28 rfl) (Option.some.inj hf)
    · skip
      rw [if_pos h18] at hf
      refine w_bi (n := 23) hM (-2 : Int32) (dtab_at okX9_group 11 rfl) (by decide) rfl ?_
      exact r_i hM (dtab_at okX9_group 12 rfl) (Option.some.inj hf)
def fX9_alone (S : PS) (a1 : Int32) : Int32 × PS := if (fX9_isWithin S a1 (0 : Int32) (100000 : Int32)) = (0 : Int32) then ((-2 : Int32), S) else ((S.1 44 3), (sti S 44 3 a1))
set_option maxHeartbeats 4000000 in
set_option maxRecDepth 100000 in
theorem c_X9_alone {cy : ClassId × ClassId} {ad : Nat → Nat} {D : va_G} {l : Launch} (S : PS) (a1 : Int32)  : PMi cy GC ad D l yX9_alone (wA yX9_alone cX9_alone 3 (some .int)) rmX9_alone [vr 9 0, vi a1] S (fun x S' => (x, S') = (fX9_alone S a1)) := by
  refine PM.of (lv := [(0, vr 9 0), (1, vi a1)]) GC_ok (by decide) (Nat.le_of_ble_eq_true rfl) rfl (by simp) ?_
  intro p e s m args below meth c A hM
  refine w_iln (q := 1) (n := 1) hM (dtab_at okX9_alone 0 rfl) rfl rfl ?_
  refine w_ic (n := 2) hM (0 : Int32) (dtab_at okX9_alone 1 rfl) (by decide) rfl ?_
  refine w_ldc (n := 4) (v := (100000 : Int32)) hM (dtab_at okX9_alone 2 rfl) lkC_X9_146 rfl ?_
  refine w_callSi (n := 7) (As := [vi a1, vi (0 : Int32), vi (100000 : Int32)]) (rest := []) hM (c_X9_isWithin S a1 (0 : Int32) (100000 : Int32)) lkM_X9_121 ms_X9_isWithin (by decide) rfl (Nat.le_of_ble_eq_true rfl) rfl (dtab_at okX9_alone 3 rfl) rfl (fun x0 S0 hp0 => ?_)
  obtain ⟨hx_, hs_⟩ := hp0
  have hs_ := hs_.symm
  subst hs_
  subst hx_
  refine w_if_ne (n := 13) (n2 := 10) hM (dtab_at okX9_alone 4 rfl) (by decide) rfl (fun (h7 : ¬ (fX9_isWithin S a1 (0 : Int32) (100000 : Int32)) = (0 : Int32)) => ?_) (fun (h7 : (fX9_isWithin S a1 (0 : Int32) (100000 : Int32)) = (0 : Int32)) => ?_)
  · skip
    refine w_aln (q := 0) (n := 14) hM (dtab_at okX9_alone 7 rfl) rfl rfl ?_
    refine w_getr (C := RX9) (T := TX9) (i := 3) (k2 := 4) (q := 44) (n := 17) hM rfl (by decide) (fun _ => rfl) ly_X9 lkF_X9_29 (dtab_at okX9_alone 8 rfl) rfl ?_
    refine w_geti (C := RX4) (T := TX4) (i := 3) (n := 20) hM rfl (by decide) ly_X4 lkF_X9_198 (dtab_at okX9_alone 9 rfl) rfl ?_
    refine w_isn (n := 21) (lv' := [(2, vi (S.1 44 3)), (0, vr 9 0), (1, vi a1)]) hM (dtab_at okX9_alone 10 rfl) (by decide) rfl rfl ?_
    refine w_aln (q := 1) (n := 22) hM (dtab_at okX9_alone 11 rfl) rfl rfl ?_
    refine w_getr (C := RX9) (T := TX9) (i := 3) (k2 := 4) (q := 44) (n := 25) hM rfl (by decide) (fun _ => rfl) ly_X9 lkF_X9_29 (dtab_at okX9_alone 12 rfl) rfl ?_
    refine w_iln (q := 2) (n := 26) hM (dtab_at okX9_alone 13 rfl) rfl rfl ?_
    refine w_put (C := RX4) (T := TX4) (i := 3) (ty := .int) (n := 29) hM rfl (by decide) ly_X4 tyX4_ok nmX4 lkF_X9_198 rfl (by decide +kernel) rfl rfl (dtab_at okX9_alone 14 rfl) rfl ?_
    refine w_iln (q := 0) (n := 30) hM (dtab_at okX9_alone 15 rfl) rfl rfl ?_
    exact r_i hM (dtab_at okX9_alone 16 rfl) (by rw [fX9_alone, if_neg h7])
  · skip
    refine w_bi (n := 12) hM (-2 : Int32) (dtab_at okX9_alone 5 rfl) (by decide) rfl ?_
    exact r_i hM (dtab_at okX9_alone 6 rfl) (by rw [fX9_alone, if_pos h7])
def fX9_matchBothRuns (nF : Nat) (S : PS) : Option (PS) := ((fX6_feel nF S 1).bind fun r0 => ((fX0_pairUp nF r0 1).bind fun r1 => ((fX6_feel nF r1 2).bind fun r2 => ((fX0_pairUp nF r2 2).bind fun r3 => (some r3)))))
set_option maxHeartbeats 4000000 in
set_option maxRecDepth 100000 in
theorem c_X9_matchBothRuns {cy : ClassId × ClassId} {ad : Nat → Nat} {D : va_G} {l : Launch} (nF : Nat) (S : PS) (r : PS) (hf : fX9_matchBothRuns nF S = some r) : PMv cy GC ad D l yX9_matchBothRuns (wA yX9_matchBothRuns cX9_matchBothRuns 1 none) rmX9_matchBothRuns [vr 9 0] S (fun S' => S' = r) := by
  refine PM.of (lv := [(0, vr 9 0)]) GC_ok (by decide) (Nat.le_of_ble_eq_true rfl) rfl (by simp) ?_
  intro p e s m args below meth c A hM
  rw [fX9_matchBothRuns] at hf
  refine w_aln (q := 0) (n := 1) hM (dtab_at okX9_matchBothRuns 0 rfl) rfl rfl ?_
  refine w_getr (C := RX9) (T := TX9) (i := 0) (k2 := 6) (q := 1) (n := 4) hM rfl (by decide) (fun _ => rfl) ly_X9 lkF_X9_10 (dtab_at okX9_matchBothRuns 1 rfl) rfl ?_
  obtain ⟨r0, hr0, hf⟩ := Option.bind_eq_some_iff.mp hf
  refine w_callVv (n := 7) (As := []) (rest := []) (k := 6) (j := 1) (C := RX6) (T := TX6) (N := 12) hM (c_X6_feel nF S 1 r0 hr0) lkM_X9_125 mv_X6_feel (by decide) rfl (by decide) rfl (Nat.le_of_ble_eq_true rfl) rfl (dtab_at okX9_matchBothRuns 2 rfl) rfl (fun S0 hp0 => ?_)
  have hs_ := hp0.symm
  subst hs_
  refine w_aln (q := 0) (n := 8) hM (dtab_at okX9_matchBothRuns 3 rfl) rfl rfl ?_
  refine w_getr (C := RX9) (T := TX9) (i := 2) (k2 := 0) (q := 41) (n := 11) hM rfl (by decide) (fun _ => rfl) ly_X9 lkF_X9_22 (dtab_at okX9_matchBothRuns 4 rfl) rfl ?_
  refine w_aln (q := 0) (n := 12) hM (dtab_at okX9_matchBothRuns 5 rfl) rfl rfl ?_
  refine w_getr (C := RX9) (T := TX9) (i := 0) (k2 := 6) (q := 1) (n := 15) hM rfl (by decide) (fun _ => rfl) ly_X9 lkF_X9_10 (dtab_at okX9_matchBothRuns 6 rfl) rfl ?_
  obtain ⟨r1, hr1, hf⟩ := Option.bind_eq_some_iff.mp hf
  refine w_callVv (n := 18) (As := [vr 6 1]) (rest := []) (k := 0) (j := 41) (C := RX0) (T := TX0) (N := 5) hM (c_X0_pairUp nF r0 1 r1 hr1) lkM_X9_165 mv_X0_pairUp (by decide) rfl (by decide) rfl (Nat.le_of_ble_eq_true rfl) rfl (dtab_at okX9_matchBothRuns 7 rfl) rfl (fun S1 hp1 => ?_)
  have hs_ := hp1.symm
  subst hs_
  refine w_aln (q := 0) (n := 19) hM (dtab_at okX9_matchBothRuns 8 rfl) rfl rfl ?_
  refine w_getr (C := RX9) (T := TX9) (i := 1) (k2 := 6) (q := 2) (n := 22) hM rfl (by decide) (fun _ => rfl) ly_X9 lkF_X9_16 (dtab_at okX9_matchBothRuns 9 rfl) rfl ?_
  obtain ⟨r2, hr2, hf⟩ := Option.bind_eq_some_iff.mp hf
  refine w_callVv (n := 25) (As := []) (rest := []) (k := 6) (j := 2) (C := RX6) (T := TX6) (N := 12) hM (c_X6_feel nF r1 2 r2 hr2) lkM_X9_125 mv_X6_feel (by decide) rfl (by decide) rfl (Nat.le_of_ble_eq_true rfl) rfl (dtab_at okX9_matchBothRuns 10 rfl) rfl (fun S2 hp2 => ?_)
  have hs_ := hp2.symm
  subst hs_
  refine w_aln (q := 0) (n := 26) hM (dtab_at okX9_matchBothRuns 11 rfl) rfl rfl ?_
  refine w_getr (C := RX9) (T := TX9) (i := 2) (k2 := 0) (q := 41) (n := 29) hM rfl (by decide) (fun _ => rfl) ly_X9 lkF_X9_22 (dtab_at okX9_matchBothRuns 12 rfl) rfl ?_
  refine w_aln (q := 0) (n := 30) hM (dtab_at okX9_matchBothRuns 13 rfl) rfl rfl ?_
  refine w_getr (C := RX9) (T := TX9) (i := 1) (k2 := 6) (q := 2) (n := 33) hM rfl (by decide) (fun _ => rfl) ly_X9 lkF_X9_16 (dtab_at okX9_matchBothRuns 14 rfl) rfl ?_
  obtain ⟨r3, hr3, hf⟩ := Option.bind_eq_some_iff.mp hf
  refine w_callVv (n := 36) (As := [vr 6 2]) (rest := []) (k := 0) (j := 41) (C := RX0) (T := TX0) (N := 5) hM (c_X0_pairUp nF r2 2 r3 hr3) lkM_X9_165 mv_X0_pairUp (by decide) rfl (by decide) rfl (Nat.le_of_ble_eq_true rfl) rfl (dtab_at okX9_matchBothRuns 15 rfl) rfl (fun S3 hp3 => ?_)
  have hs_ := hp3.symm
  subst hs_
  exact r_v hM (dtab_at okX9_matchBothRuns 16 rfl) (Option.some.inj hf)
def fX9_pairing (nF : Nat) (S : PS) (a1 : Int32) : Option (Int32 × PS) := (if (fX0_hasJoint S a1) = (0 : Int32) then (some ((-2 : Int32), S)) else ((fX9_matchBothRuns nF S).bind fun r1 => (if a1 < 0 ∨ 40 ≤ a1.toNatClampNeg then none else ((fX4_leastCost nF r1 1 (r1.2 39 a1.toNatClampNeg) 2 (r1.2 40 a1.toNatClampNeg)).bind fun r2 => (some (r2.1, r2.2))))))
set_option maxHeartbeats 4000000 in
set_option maxRecDepth 100000 in
theorem c_X9_pairing {cy : ClassId × ClassId} {ad : Nat → Nat} {D : va_G} {l : Launch} (nF : Nat) (S : PS) (a1 : Int32) (r : Int32 × PS) (hf : fX9_pairing nF S a1 = some r) : PMi cy GC ad D l yX9_pairing (wA yX9_pairing cX9_pairing 2 (some .int)) rmX9_pairing [vr 9 0, vi a1] S (fun x S' => (x, S') = r) := by
  refine PM.of (lv := [(0, vr 9 0), (1, vi a1)]) GC_ok (by decide) (Nat.le_of_ble_eq_true rfl) rfl (by simp) ?_
  intro p e s m args below meth c A hM
  rw [fX9_pairing] at hf
  refine w_aln (q := 0) (n := 1) hM (dtab_at okX9_pairing 0 rfl) rfl rfl ?_
  refine w_getr (C := RX9) (T := TX9) (i := 2) (k2 := 0) (q := 41) (n := 4) hM rfl (by decide) (fun _ => rfl) ly_X9 lkF_X9_22 (dtab_at okX9_pairing 1 rfl) rfl ?_
  refine w_iln (q := 1) (n := 5) hM (dtab_at okX9_pairing 2 rfl) rfl rfl ?_
  refine w_callVi (n := 8) (As := [vi a1]) (rest := []) (k := 0) (j := 41) (C := RX0) (T := TX0) (N := 5) hM (c_X0_hasJoint S a1) lkM_X9_162 mv_X0_hasJoint (by decide) rfl (by decide) rfl (Nat.le_of_ble_eq_true rfl) rfl (dtab_at okX9_pairing 3 rfl) rfl (fun x0 S0 hp0 => ?_)
  obtain ⟨hx_, hs_⟩ := hp0
  have hs_ := hs_.symm
  subst hs_
  subst hx_
  refine w_if_ne (n := 14) (n2 := 11) hM (dtab_at okX9_pairing 4 rfl) (by decide) rfl (fun (h8 : ¬ (fX0_hasJoint S a1) = (0 : Int32)) => ?_) (fun (h8 : (fX0_hasJoint S a1) = (0 : Int32)) => ?_)
  · skip
    rw [if_neg h8] at hf
    refine w_aln (q := 0) (n := 15) hM (dtab_at okX9_pairing 7 rfl) rfl rfl ?_
    obtain ⟨r1, hr1, hf⟩ := Option.bind_eq_some_iff.mp hf
    refine w_callVv (n := 18) (As := []) (rest := []) (k := 9) (j := 0) (C := RX9) (T := TX9) (N := 10) hM (c_X9_matchBothRuns nF S r1 hr1) lkM_X9_201 mv_X9_matchBothRuns (by decide) rfl (by decide) rfl (Nat.le_of_ble_eq_true rfl) rfl (dtab_at okX9_pairing 8 rfl) rfl (fun S1 hp1 => ?_)
    have hs_ := hp1.symm
    subst hs_
    refine w_aln (q := 0) (n := 19) hM (dtab_at okX9_pairing 9 rfl) rfl rfl ?_
    refine w_getr (C := RX9) (T := TX9) (i := 3) (k2 := 4) (q := 44) (n := 22) hM rfl (by decide) (fun _ => rfl) ly_X9 lkF_X9_29 (dtab_at okX9_pairing 10 rfl) rfl ?_
    refine w_aln (q := 0) (n := 23) hM (dtab_at okX9_pairing 11 rfl) rfl rfl ?_
    refine w_getr (C := RX9) (T := TX9) (i := 0) (k2 := 6) (q := 1) (n := 26) hM rfl (by decide) (fun _ => rfl) ly_X9 lkF_X9_10 (dtab_at okX9_pairing 12 rfl) rfl ?_
    refine w_aln (q := 0) (n := 27) hM (dtab_at okX9_pairing 13 rfl) rfl rfl ?_
    refine w_getr (C := RX9) (T := TX9) (i := 0) (k2 := 6) (q := 1) (n := 30) hM rfl (by decide) (fun _ => rfl) ly_X9 lkF_X9_10 (dtab_at okX9_pairing 14 rfl) rfl ?_
    refine w_getr (C := RX6) (T := TX6) (i := 8) (k2 := 140) (q := 39) (n := 33) hM rfl (by decide) (fun _ => rfl) ly_X6 lkF_X9_169 (dtab_at okX9_pairing 15 rfl) rfl ?_
    refine w_iln (q := 1) (n := 34) hM (dtab_at okX9_pairing 16 rfl) rfl rfl ?_
    by_cases hg34 : a1 < 0 ∨ 40 ≤ a1.toNatClampNeg
    · rw [if_pos hg34] at hf; cases hf
    rw [if_neg hg34] at hf
    refine w_ald (nn := 40) (n := 35) hM rfl hg34 (dtab_at okX9_pairing 17 rfl) rfl ?_
    refine w_aln (q := 0) (n := 36) hM (dtab_at okX9_pairing 18 rfl) rfl rfl ?_
    refine w_getr (C := RX9) (T := TX9) (i := 1) (k2 := 6) (q := 2) (n := 39) hM rfl (by decide) (fun _ => rfl) ly_X9 lkF_X9_16 (dtab_at okX9_pairing 19 rfl) rfl ?_
    refine w_aln (q := 0) (n := 40) hM (dtab_at okX9_pairing 20 rfl) rfl rfl ?_
    refine w_getr (C := RX9) (T := TX9) (i := 1) (k2 := 6) (q := 2) (n := 43) hM rfl (by decide) (fun _ => rfl) ly_X9 lkF_X9_16 (dtab_at okX9_pairing 21 rfl) rfl ?_
    refine w_getr (C := RX6) (T := TX6) (i := 8) (k2 := 140) (q := 40) (n := 46) hM rfl (by decide) (fun _ => rfl) ly_X6 lkF_X9_169 (dtab_at okX9_pairing 22 rfl) rfl ?_
    refine w_iln (q := 1) (n := 47) hM (dtab_at okX9_pairing 23 rfl) rfl rfl ?_
    refine w_ald (nn := 40) (n := 48) hM rfl hg34 (dtab_at okX9_pairing 24 rfl) rfl ?_
    obtain ⟨r2, hr2, hf⟩ := Option.bind_eq_some_iff.mp hf
    refine w_callVi (n := 51) (As := [vr 6 1, vi (r1.2 39 a1.toNatClampNeg), vr 6 2, vi (r1.2 40 a1.toNatClampNeg)]) (rest := []) (k := 4) (j := 44) (C := RX4) (T := TX4) (N := 4) hM (c_X4_leastCost nF r1 1 (r1.2 39 a1.toNatClampNeg) 2 (r1.2 40 a1.toNatClampNeg) r2 hr2) lkM_X9_204 mv_X4_leastCost (by decide) rfl (by decide) rfl (Nat.le_of_ble_eq_true rfl) rfl (dtab_at okX9_pairing 25 rfl) rfl (fun x2 S2 hp2 => ?_)
    have hx_ := congrArg Prod.fst hp2
    have hs_ := congrArg Prod.snd hp2
    dsimp only at hx_ hs_
    subst hx_
    subst hs_
    exact r_i hM (dtab_at okX9_pairing 26 rfl) (Option.some.inj hf)
  · skip
    rw [if_pos h8] at hf
    refine w_bi (n := 13) hM (-2 : Int32) (dtab_at okX9_pairing 5 rfl) (by decide) rfl ?_
    exact r_i hM (dtab_at okX9_pairing 6 rfl) (Option.some.inj hf)
def fX9_twinOf (nF : Nat) (S : PS) (a1 : Int32) : Option (Int32 × PS) := ((fX9_matchBothRuns nF S).bind fun r0 => (if a1 < 0 ∨ 40 ≤ a1.toNatClampNeg then none else ((fX6_feltAt nF r0 1 (r0.2 21 a1.toNatClampNeg)).bind fun r1 => ((fX0_jointPairedWith nF r0 1 r1).bind fun r2 => (if r2 = (-1 : Int32) then (some ((-1 : Int32), r0)) else (if r2 < 0 ∨ 40 ≤ r2.toNatClampNeg then none else ((fX4_leastCost nF r0 1 (r0.2 39 r2.toNatClampNeg) 2 (r0.2 40 r2.toNatClampNeg)).bind fun r3 => ((fX4_otherOf nF r3.2 a1).bind fun r4 => (some (r4, r3.2))))))))))
set_option maxHeartbeats 4000000 in
set_option maxRecDepth 100000 in
theorem c_X9_twinOf {cy : ClassId × ClassId} {ad : Nat → Nat} {D : va_G} {l : Launch} (nF : Nat) (S : PS) (a1 : Int32) (r : Int32 × PS) (hf : fX9_twinOf nF S a1 = some r) : PMi cy GC ad D l yX9_twinOf (wA yX9_twinOf cX9_twinOf 3 (some .int)) rmX9_twinOf [vr 9 0, vi a1] S (fun x S' => (x, S') = r) := by
  refine PM.of (lv := [(0, vr 9 0), (1, vi a1)]) GC_ok (by decide) (Nat.le_of_ble_eq_true rfl) rfl (by simp) ?_
  intro p e s m args below meth c A hM
  rw [fX9_twinOf] at hf
  refine w_aln (q := 0) (n := 1) hM (dtab_at okX9_twinOf 0 rfl) rfl rfl ?_
  obtain ⟨r0, hr0, hf⟩ := Option.bind_eq_some_iff.mp hf
  refine w_callVv (n := 4) (As := []) (rest := []) (k := 9) (j := 0) (C := RX9) (T := TX9) (N := 10) hM (c_X9_matchBothRuns nF S r0 hr0) lkM_X9_201 mv_X9_matchBothRuns (by decide) rfl (by decide) rfl (Nat.le_of_ble_eq_true rfl) rfl (dtab_at okX9_twinOf 1 rfl) rfl (fun S0 hp0 => ?_)
  have hs_ := hp0.symm
  subst hs_
  refine w_aln (q := 0) (n := 5) hM (dtab_at okX9_twinOf 2 rfl) rfl rfl ?_
  refine w_getr (C := RX9) (T := TX9) (i := 2) (k2 := 0) (q := 41) (n := 8) hM rfl (by decide) (fun _ => rfl) ly_X9 lkF_X9_22 (dtab_at okX9_twinOf 3 rfl) rfl ?_
  refine w_aln (q := 0) (n := 9) hM (dtab_at okX9_twinOf 4 rfl) rfl rfl ?_
  refine w_getr (C := RX9) (T := TX9) (i := 0) (k2 := 6) (q := 1) (n := 12) hM rfl (by decide) (fun _ => rfl) ly_X9 lkF_X9_10 (dtab_at okX9_twinOf 5 rfl) rfl ?_
  refine w_aln (q := 0) (n := 13) hM (dtab_at okX9_twinOf 6 rfl) rfl rfl ?_
  refine w_getr (C := RX9) (T := TX9) (i := 0) (k2 := 6) (q := 1) (n := 16) hM rfl (by decide) (fun _ => rfl) ly_X9 lkF_X9_10 (dtab_at okX9_twinOf 7 rfl) rfl ?_
  refine w_aln (q := 0) (n := 17) hM (dtab_at okX9_twinOf 8 rfl) rfl rfl ?_
  refine w_getr (C := RX9) (T := TX9) (i := 0) (k2 := 6) (q := 1) (n := 20) hM rfl (by decide) (fun _ => rfl) ly_X9 lkF_X9_10 (dtab_at okX9_twinOf 9 rfl) rfl ?_
  refine w_getr (C := RX6) (T := TX6) (i := 4) (k2 := 3) (q := 19) (n := 23) hM rfl (by decide) (fun _ => rfl) ly_X6 lkF_X9_173 (dtab_at okX9_twinOf 10 rfl) rfl ?_
  refine w_getr (C := RX3) (T := TX3) (i := 0) (k2 := 140) (q := 21) (n := 26) hM rfl (by decide) (fun _ => rfl) ly_X3 lkF_X9_284 (dtab_at okX9_twinOf 11 rfl) rfl ?_
  refine w_iln (q := 1) (n := 27) hM (dtab_at okX9_twinOf 12 rfl) rfl rfl ?_
  by_cases hg27 : a1 < 0 ∨ 40 ≤ a1.toNatClampNeg
  · rw [if_pos hg27] at hf; cases hf
  rw [if_neg hg27] at hf
  refine w_ald (nn := 40) (n := 28) hM rfl hg27 (dtab_at okX9_twinOf 13 rfl) rfl ?_
  obtain ⟨r1, hr1, hf⟩ := Option.bind_eq_some_iff.mp hf
  refine w_callVi (n := 31) (As := [vi (r0.2 21 a1.toNatClampNeg)]) (rest := [vr 6 1, vr 0 41]) (k := 6) (j := 1) (C := RX6) (T := TX6) (N := 12) hM (c_X6_feltAt nF r0 1 (r0.2 21 a1.toNatClampNeg) r1 hr1) lkM_X9_285 mv_X6_feltAt (by decide) rfl (by decide) rfl (Nat.le_of_ble_eq_true rfl) rfl (dtab_at okX9_twinOf 14 rfl) rfl (fun x1 S1 hp1 => ?_)
  obtain ⟨hx_, hs_⟩ := hp1
  have hs_ := hs_.symm
  have hx_ := hx_.symm
  subst hs_
  subst hx_
  obtain ⟨r2, hr2, hf⟩ := Option.bind_eq_some_iff.mp hf
  refine w_callVi (n := 34) (As := [vr 6 1, vi r1]) (rest := []) (k := 0) (j := 41) (C := RX0) (T := TX0) (N := 5) hM (c_X0_jointPairedWith nF r0 1 r1 r2 hr2) lkM_X9_288 mv_X0_jointPairedWith (by decide) rfl (by decide) rfl (Nat.le_of_ble_eq_true rfl) rfl (dtab_at okX9_twinOf 15 rfl) rfl (fun x2 S2 hp2 => ?_)
  obtain ⟨hx_, hs_⟩ := hp2
  have hs_ := hs_.symm
  have hx_ := hx_.symm
  subst hs_
  subst hx_
  refine w_isn (n := 35) (lv' := [(2, vi r2), (0, vr 9 0), (1, vi a1)]) hM (dtab_at okX9_twinOf 16 rfl) (by decide) rfl rfl ?_
  refine w_iln (q := 0) (n := 36) hM (dtab_at okX9_twinOf 17 rfl) rfl rfl ?_
  refine w_ic (n := 37) hM (-1 : Int32) (dtab_at okX9_twinOf 18 rfl) (by decide) rfl ?_
  refine w_ic_ne (n := 42) (n2 := 40) hM (dtab_at okX9_twinOf 19 rfl) (by decide) rfl (fun (h37 : ¬ r2 = (-1 : Int32)) => ?_) (fun (h37 : r2 = (-1 : Int32)) => ?_)
  · skip
    rw [if_neg h37] at hf
    refine w_aln (q := 1) (n := 43) hM (dtab_at okX9_twinOf 22 rfl) rfl rfl ?_
    refine w_getr (C := RX9) (T := TX9) (i := 3) (k2 := 4) (q := 44) (n := 46) hM rfl (by decide) (fun _ => rfl) ly_X9 lkF_X9_29 (dtab_at okX9_twinOf 23 rfl) rfl ?_
    refine w_aln (q := 1) (n := 47) hM (dtab_at okX9_twinOf 24 rfl) rfl rfl ?_
    refine w_getr (C := RX9) (T := TX9) (i := 0) (k2 := 6) (q := 1) (n := 50) hM rfl (by decide) (fun _ => rfl) ly_X9 lkF_X9_10 (dtab_at okX9_twinOf 25 rfl) rfl ?_
    refine w_aln (q := 1) (n := 51) hM (dtab_at okX9_twinOf 26 rfl) rfl rfl ?_
    refine w_getr (C := RX9) (T := TX9) (i := 0) (k2 := 6) (q := 1) (n := 54) hM rfl (by decide) (fun _ => rfl) ly_X9 lkF_X9_10 (dtab_at okX9_twinOf 27 rfl) rfl ?_
    refine w_getr (C := RX6) (T := TX6) (i := 8) (k2 := 140) (q := 39) (n := 57) hM rfl (by decide) (fun _ => rfl) ly_X6 lkF_X9_169 (dtab_at okX9_twinOf 28 rfl) rfl ?_
    refine w_iln (q := 0) (n := 58) hM (dtab_at okX9_twinOf 29 rfl) rfl rfl ?_
    by_cases hg58 : r2 < 0 ∨ 40 ≤ r2.toNatClampNeg
    · rw [if_pos hg58] at hf; cases hf
    rw [if_neg hg58] at hf
    refine w_ald (nn := 40) (n := 59) hM rfl hg58 (dtab_at okX9_twinOf 30 rfl) rfl ?_
    refine w_aln (q := 1) (n := 60) hM (dtab_at okX9_twinOf 31 rfl) rfl rfl ?_
    refine w_getr (C := RX9) (T := TX9) (i := 1) (k2 := 6) (q := 2) (n := 63) hM rfl (by decide) (fun _ => rfl) ly_X9 lkF_X9_16 (dtab_at okX9_twinOf 32 rfl) rfl ?_
    refine w_aln (q := 1) (n := 64) hM (dtab_at okX9_twinOf 33 rfl) rfl rfl ?_
    refine w_getr (C := RX9) (T := TX9) (i := 1) (k2 := 6) (q := 2) (n := 67) hM rfl (by decide) (fun _ => rfl) ly_X9 lkF_X9_16 (dtab_at okX9_twinOf 34 rfl) rfl ?_
    refine w_getr (C := RX6) (T := TX6) (i := 8) (k2 := 140) (q := 40) (n := 70) hM rfl (by decide) (fun _ => rfl) ly_X6 lkF_X9_169 (dtab_at okX9_twinOf 35 rfl) rfl ?_
    refine w_iln (q := 0) (n := 71) hM (dtab_at okX9_twinOf 36 rfl) rfl rfl ?_
    refine w_ald (nn := 40) (n := 72) hM rfl hg58 (dtab_at okX9_twinOf 37 rfl) rfl ?_
    obtain ⟨r3, hr3, hf⟩ := Option.bind_eq_some_iff.mp hf
    refine w_callVi (n := 75) (As := [vr 6 1, vi (r0.2 39 r2.toNatClampNeg), vr 6 2, vi (r0.2 40 r2.toNatClampNeg)]) (rest := []) (k := 4) (j := 44) (C := RX4) (T := TX4) (N := 4) hM (c_X4_leastCost nF r0 1 (r0.2 39 r2.toNatClampNeg) 2 (r0.2 40 r2.toNatClampNeg) r3 hr3) lkM_X9_204 mv_X4_leastCost (by decide) rfl (by decide) rfl (Nat.le_of_ble_eq_true rfl) rfl (dtab_at okX9_twinOf 38 rfl) rfl (fun x3 S3 hp3 => ?_)
    have hx_ := congrArg Prod.fst hp3
    have hs_ := congrArg Prod.snd hp3
    dsimp only at hx_ hs_
    subst hx_
    subst hs_
    refine w_pop (n := 76) hM (dtab_at okX9_twinOf 39 rfl) rfl rfl ?_
    refine w_aln (q := 1) (n := 77) hM (dtab_at okX9_twinOf 40 rfl) rfl rfl ?_
    refine w_getr (C := RX9) (T := TX9) (i := 3) (k2 := 4) (q := 44) (n := 80) hM rfl (by decide) (fun _ => rfl) ly_X9 lkF_X9_29 (dtab_at okX9_twinOf 41 rfl) rfl ?_
    refine w_iln (q := 2) (n := 81) hM (dtab_at okX9_twinOf 42 rfl) rfl rfl ?_
    obtain ⟨r4, hr4, hf⟩ := Option.bind_eq_some_iff.mp hf
    refine w_callVi (n := 84) (As := [vi a1]) (rest := []) (k := 4) (j := 44) (C := RX4) (T := TX4) (N := 4) hM (c_X4_otherOf nF r3.2 a1 r4 hr4) lkM_X9_292 mv_X4_otherOf (by decide) rfl (by decide) rfl (Nat.le_of_ble_eq_true rfl) rfl (dtab_at okX9_twinOf 43 rfl) rfl (fun x4 S4 hp4 => ?_)
    obtain ⟨hx_, hs_⟩ := hp4
    have hs_ := hs_.symm
    have hx_ := hx_.symm
    subst hs_
    subst hx_
    exact r_i hM (dtab_at okX9_twinOf 44 rfl) (Option.some.inj hf)
  · skip
    rw [if_pos h37] at hf
    refine w_ic (n := 41) hM (-1 : Int32) (dtab_at okX9_twinOf 20 rfl) (by decide) rfl ?_
    exact r_i hM (dtab_at okX9_twinOf 21 rfl) (Option.some.inj hf)
def fX9_twin (nF : Nat) (S : PS) (a1 : Int32) : Option (Int32 × PS) := (if (fX3_hasMark S 19 a1) = (0 : Int32) then (some ((-2 : Int32), S)) else ((fX9_twinOf nF S a1).bind fun r1 => (some (r1.1, r1.2))))
set_option maxHeartbeats 4000000 in
set_option maxRecDepth 100000 in
theorem c_X9_twin {cy : ClassId × ClassId} {ad : Nat → Nat} {D : va_G} {l : Launch} (nF : Nat) (S : PS) (a1 : Int32) (r : Int32 × PS) (hf : fX9_twin nF S a1 = some r) : PMi cy GC ad D l yX9_twin (wA yX9_twin cX9_twin 2 (some .int)) rmX9_twin [vr 9 0, vi a1] S (fun x S' => (x, S') = r) := by
  refine PM.of (lv := [(0, vr 9 0), (1, vi a1)]) GC_ok (by decide) (Nat.le_of_ble_eq_true rfl) rfl (by simp) ?_
  intro p e s m args below meth c A hM
  rw [fX9_twin] at hf
  refine w_aln (q := 0) (n := 1) hM (dtab_at okX9_twin 0 rfl) rfl rfl ?_
  refine w_getr (C := RX9) (T := TX9) (i := 0) (k2 := 6) (q := 1) (n := 4) hM rfl (by decide) (fun _ => rfl) ly_X9 lkF_X9_10 (dtab_at okX9_twin 1 rfl) rfl ?_
  refine w_getr (C := RX6) (T := TX6) (i := 4) (k2 := 3) (q := 19) (n := 7) hM rfl (by decide) (fun _ => rfl) ly_X6 lkF_X9_173 (dtab_at okX9_twin 2 rfl) rfl ?_
  refine w_iln (q := 1) (n := 8) hM (dtab_at okX9_twin 3 rfl) rfl rfl ?_
  refine w_callVi (n := 11) (As := [vi a1]) (rest := []) (k := 3) (j := 19) (C := RX3) (T := TX3) (N := 8) hM (c_X3_hasMark S 19 a1) lkM_X9_183 mv_X3_hasMark (by decide) rfl (by decide) rfl (Nat.le_of_ble_eq_true rfl) rfl (dtab_at okX9_twin 4 rfl) rfl (fun x0 S0 hp0 => ?_)
  obtain ⟨hx_, hs_⟩ := hp0
  have hs_ := hs_.symm
  subst hs_
  subst hx_
  refine w_if_ne (n := 17) (n2 := 14) hM (dtab_at okX9_twin 5 rfl) (by decide) rfl (fun (h11 : ¬ (fX3_hasMark S 19 a1) = (0 : Int32)) => ?_) (fun (h11 : (fX3_hasMark S 19 a1) = (0 : Int32)) => ?_)
  · skip
    rw [if_neg h11] at hf
    refine w_aln (q := 0) (n := 18) hM (dtab_at okX9_twin 8 rfl) rfl rfl ?_
    refine w_iln (q := 1) (n := 19) hM (dtab_at okX9_twin 9 rfl) rfl rfl ?_
    obtain ⟨r1, hr1, hf⟩ := Option.bind_eq_some_iff.mp hf
    refine w_callVi (n := 22) (As := [vi a1]) (rest := []) (k := 9) (j := 0) (C := RX9) (T := TX9) (N := 10) hM (c_X9_twinOf nF S a1 r1 hr1) lkM_X9_207 mv_X9_twinOf (by decide) rfl (by decide) rfl (Nat.le_of_ble_eq_true rfl) rfl (dtab_at okX9_twin 10 rfl) rfl (fun x1 S1 hp1 => ?_)
    have hx_ := congrArg Prod.fst hp1
    have hs_ := congrArg Prod.snd hp1
    dsimp only at hx_ hs_
    subst hx_
    subst hs_
    exact r_i hM (dtab_at okX9_twin 11 rfl) (Option.some.inj hf)
  · skip
    rw [if_pos h11] at hf
    refine w_bi (n := 16) hM (-2 : Int32) (dtab_at okX9_twin 6 rfl) (by decide) rfl ?_
    exact r_i hM (dtab_at okX9_twin 7 rfl) (Option.some.inj hf)
def fX9_tool (S : PS) (a1 : Int32) (a2 : Int32) (a3 : Int32) : Int32 × PS := if (fX9_isWithin S a1 (1 : Int32) (50 : Int32)) = (0 : Int32) then ((-2 : Int32), S) else (if (fX9_isWithin S a2 (0 : Int32) (50 : Int32)) = (0 : Int32) then ((-2 : Int32), S) else (if (fX9_isWithin S a3 (0 : Int32) (100 : Int32)) = (0 : Int32) then ((-2 : Int32), S) else ((1 : Int32), (sti (sti (sti S 54 0 a1) 54 1 a2) 54 2 a3))))
set_option maxHeartbeats 4000000 in
set_option maxRecDepth 100000 in
theorem c_X9_tool {cy : ClassId × ClassId} {ad : Nat → Nat} {D : va_G} {l : Launch} (S : PS) (a1 : Int32) (a2 : Int32) (a3 : Int32)  : PMi cy GC ad D l yX9_tool (wA yX9_tool cX9_tool 4 (some .int)) rmX9_tool [vr 9 0, vi a1, vi a2, vi a3] S (fun x S' => (x, S') = (fX9_tool S a1 a2 a3)) := by
  refine PM.of (lv := [(0, vr 9 0), (1, vi a1), (2, vi a2), (3, vi a3)]) GC_ok (by decide) (Nat.le_of_ble_eq_true rfl) rfl (by simp) ?_
  intro p e s m args below meth c A hM
  refine w_iln (q := 1) (n := 1) hM (dtab_at okX9_tool 0 rfl) rfl rfl ?_
  refine w_ic (n := 2) hM (1 : Int32) (dtab_at okX9_tool 1 rfl) (by decide) rfl ?_
  refine w_bi (n := 4) hM (50 : Int32) (dtab_at okX9_tool 2 rfl) (by decide) rfl ?_
  refine w_callSi (n := 7) (As := [vi a1, vi (1 : Int32), vi (50 : Int32)]) (rest := []) hM (c_X9_isWithin S a1 (1 : Int32) (50 : Int32)) lkM_X9_121 ms_X9_isWithin (by decide) rfl (Nat.le_of_ble_eq_true rfl) rfl (dtab_at okX9_tool 3 rfl) rfl (fun x0 S0 hp0 => ?_)
  obtain ⟨hx_, hs_⟩ := hp0
  have hs_ := hs_.symm
  subst hs_
  subst hx_
  refine w_if_eq (n := 30) (n2 := 10) hM (dtab_at okX9_tool 4 rfl) (by decide) rfl (fun (h7 : (fX9_isWithin S a1 (1 : Int32) (50 : Int32)) = (0 : Int32)) => ?_) (fun (h7 : ¬ (fX9_isWithin S a1 (1 : Int32) (50 : Int32)) = (0 : Int32)) => ?_)
  · skip
    refine w_bi (n := 32) hM (-2 : Int32) (dtab_at okX9_tool 15 rfl) (by decide) rfl ?_
    exact r_i hM (dtab_at okX9_tool 16 rfl) (by rw [fX9_tool, if_pos h7])
  · skip
    refine w_iln (q := 2) (n := 11) hM (dtab_at okX9_tool 5 rfl) rfl rfl ?_
    refine w_ic (n := 12) hM (0 : Int32) (dtab_at okX9_tool 6 rfl) (by decide) rfl ?_
    refine w_bi (n := 14) hM (50 : Int32) (dtab_at okX9_tool 7 rfl) (by decide) rfl ?_
    refine w_callSi (n := 17) (As := [vi a2, vi (0 : Int32), vi (50 : Int32)]) (rest := []) hM (c_X9_isWithin S a2 (0 : Int32) (50 : Int32)) lkM_X9_121 ms_X9_isWithin (by decide) rfl (Nat.le_of_ble_eq_true rfl) rfl (dtab_at okX9_tool 8 rfl) rfl (fun x1 S1 hp1 => ?_)
    obtain ⟨hx_, hs_⟩ := hp1
    have hs_ := hs_.symm
    subst hs_
    subst hx_
    refine w_if_eq (n := 30) (n2 := 20) hM (dtab_at okX9_tool 9 rfl) (by decide) rfl (fun (h17 : (fX9_isWithin S a2 (0 : Int32) (50 : Int32)) = (0 : Int32)) => ?_) (fun (h17 : ¬ (fX9_isWithin S a2 (0 : Int32) (50 : Int32)) = (0 : Int32)) => ?_)
    · skip
      refine w_bi (n := 32) hM (-2 : Int32) (dtab_at okX9_tool 15 rfl) (by decide) rfl ?_
      exact r_i hM (dtab_at okX9_tool 16 rfl) (by rw [fX9_tool, if_neg h7, if_pos h17])
    · skip
      refine w_iln (q := 3) (n := 21) hM (dtab_at okX9_tool 10 rfl) rfl rfl ?_
      refine w_ic (n := 22) hM (0 : Int32) (dtab_at okX9_tool 11 rfl) (by decide) rfl ?_
      refine w_bi (n := 24) hM (100 : Int32) (dtab_at okX9_tool 12 rfl) (by decide) rfl ?_
      refine w_callSi (n := 27) (As := [vi a3, vi (0 : Int32), vi (100 : Int32)]) (rest := []) hM (c_X9_isWithin S a3 (0 : Int32) (100 : Int32)) lkM_X9_121 ms_X9_isWithin (by decide) rfl (Nat.le_of_ble_eq_true rfl) rfl (dtab_at okX9_tool 13 rfl) rfl (fun x2 S2 hp2 => ?_)
      obtain ⟨hx_, hs_⟩ := hp2
      have hs_ := hs_.symm
      subst hs_
      subst hx_
      refine w_if_ne (n := 33) (n2 := 30) hM (dtab_at okX9_tool 14 rfl) (by decide) rfl (fun (h27 : ¬ (fX9_isWithin S a3 (0 : Int32) (100 : Int32)) = (0 : Int32)) => ?_) (fun (h27 : (fX9_isWithin S a3 (0 : Int32) (100 : Int32)) = (0 : Int32)) => ?_)
      · skip
        refine w_aln (q := 0) (n := 34) hM (dtab_at okX9_tool 17 rfl) rfl rfl ?_
        refine w_getr (C := RX9) (T := TX9) (i := 4) (k2 := 7) (q := 54) (n := 37) hM rfl (by decide) (fun _ => rfl) ly_X9 lkF_X9_36 (dtab_at okX9_tool 18 rfl) rfl ?_
        refine w_iln (q := 1) (n := 38) hM (dtab_at okX9_tool 19 rfl) rfl rfl ?_
        refine w_put (C := RX7) (T := TX7) (i := 0) (ty := .int) (n := 41) hM rfl (by decide) ly_X7 tyX7_ok nmX7 lkF_X9_210 rfl (by decide +kernel) rfl rfl (dtab_at okX9_tool 20 rfl) rfl ?_
        refine w_aln (q := 0) (n := 42) hM (dtab_at okX9_tool 21 rfl) rfl rfl ?_
        refine w_getr (C := RX9) (T := TX9) (i := 4) (k2 := 7) (q := 54) (n := 45) hM rfl (by decide) (fun _ => rfl) ly_X9 lkF_X9_36 (dtab_at okX9_tool 22 rfl) rfl ?_
        refine w_iln (q := 2) (n := 46) hM (dtab_at okX9_tool 23 rfl) rfl rfl ?_
        refine w_put (C := RX7) (T := TX7) (i := 1) (ty := .int) (n := 49) hM rfl (by decide) ly_X7 tyX7_ok nmX7 lkF_X9_213 rfl (by decide +kernel) rfl rfl (dtab_at okX9_tool 24 rfl) rfl ?_
        refine w_aln (q := 0) (n := 50) hM (dtab_at okX9_tool 25 rfl) rfl rfl ?_
        refine w_getr (C := RX9) (T := TX9) (i := 4) (k2 := 7) (q := 54) (n := 53) hM rfl (by decide) (fun _ => rfl) ly_X9 lkF_X9_36 (dtab_at okX9_tool 26 rfl) rfl ?_
        refine w_iln (q := 3) (n := 54) hM (dtab_at okX9_tool 27 rfl) rfl rfl ?_
        refine w_put (C := RX7) (T := TX7) (i := 2) (ty := .int) (n := 57) hM rfl (by decide) ly_X7 tyX7_ok nmX7 lkF_X9_216 rfl (by decide +kernel) rfl rfl (dtab_at okX9_tool 28 rfl) rfl ?_
        refine w_ic (n := 58) hM (1 : Int32) (dtab_at okX9_tool 29 rfl) (by decide) rfl ?_
        exact r_i hM (dtab_at okX9_tool 30 rfl) (by rw [fX9_tool, if_neg h7, if_neg h17, if_neg h27])
      · skip
        refine w_bi (n := 32) hM (-2 : Int32) (dtab_at okX9_tool 15 rfl) (by decide) rfl ?_
        exact r_i hM (dtab_at okX9_tool 16 rfl) (by rw [fX9_tool, if_neg h7, if_neg h17, if_pos h27])
def fX9_growth (nF : Nat) (S : PS) (a1 : Int32) (a2 : Int32) : Option (Int32 × PS) := (if (fX3_hasMark S 19 a1) = (0 : Int32) then (some ((-2 : Int32), S)) else (if (fX9_isWithin S a2 (0 : Int32) (2 : Int32)) = (0 : Int32) then (some ((-2 : Int32), S)) else ((fX9_twinOf nF S a1).bind fun r2 => (if (fX3_hasMark r2.2 20 r2.1) = (0 : Int32) then (some ((-4 : Int32), r2.2)) else (if a1 < 0 ∨ 40 ≤ a1.toNatClampNeg then none else (if r2.1 < 0 ∨ 40 ≤ r2.1.toNatClampNeg then none else ((fX7_fact nF r2.2 (r2.2.2 25 a1.toNatClampNeg) (r2.2.2 26 r2.1.toNatClampNeg) a2).bind fun r4 => (some (r4, r2.2)))))))))
set_option maxHeartbeats 4000000 in
set_option maxRecDepth 100000 in
theorem c_X9_growth {cy : ClassId × ClassId} {ad : Nat → Nat} {D : va_G} {l : Launch} (nF : Nat) (S : PS) (a1 : Int32) (a2 : Int32) (r : Int32 × PS) (hf : fX9_growth nF S a1 a2 = some r) : PMi cy GC ad D l yX9_growth (wA yX9_growth cX9_growth 4 (some .int)) rmX9_growth [vr 9 0, vi a1, vi a2] S (fun x S' => (x, S') = r) := by
  refine PM.of (lv := [(0, vr 9 0), (1, vi a1), (2, vi a2)]) GC_ok (by decide) (Nat.le_of_ble_eq_true rfl) rfl (by simp) ?_
  intro p e s m args below meth c A hM
  rw [fX9_growth] at hf
  refine w_aln (q := 0) (n := 1) hM (dtab_at okX9_growth 0 rfl) rfl rfl ?_
  refine w_getr (C := RX9) (T := TX9) (i := 0) (k2 := 6) (q := 1) (n := 4) hM rfl (by decide) (fun _ => rfl) ly_X9 lkF_X9_10 (dtab_at okX9_growth 1 rfl) rfl ?_
  refine w_getr (C := RX6) (T := TX6) (i := 4) (k2 := 3) (q := 19) (n := 7) hM rfl (by decide) (fun _ => rfl) ly_X6 lkF_X9_173 (dtab_at okX9_growth 2 rfl) rfl ?_
  refine w_iln (q := 1) (n := 8) hM (dtab_at okX9_growth 3 rfl) rfl rfl ?_
  refine w_callVi (n := 11) (As := [vi a1]) (rest := []) (k := 3) (j := 19) (C := RX3) (T := TX3) (N := 8) hM (c_X3_hasMark S 19 a1) lkM_X9_183 mv_X3_hasMark (by decide) rfl (by decide) rfl (Nat.le_of_ble_eq_true rfl) rfl (dtab_at okX9_growth 4 rfl) rfl (fun x0 S0 hp0 => ?_)
  obtain ⟨hx_, hs_⟩ := hp0
  have hs_ := hs_.symm
  subst hs_
  subst hx_
  refine w_if_eq (n := 23) (n2 := 14) hM (dtab_at okX9_growth 5 rfl) (by decide) rfl (fun (h11 : (fX3_hasMark S 19 a1) = (0 : Int32)) => ?_) (fun (h11 : ¬ (fX3_hasMark S 19 a1) = (0 : Int32)) => ?_)
  · skip
    rw [if_pos h11] at hf
    refine w_bi (n := 25) hM (-2 : Int32) (dtab_at okX9_growth 11 rfl) (by decide) rfl ?_
    exact r_i hM (dtab_at okX9_growth 12 rfl) (Option.some.inj hf)
  · skip
    rw [if_neg h11] at hf
    refine w_iln (q := 2) (n := 15) hM (dtab_at okX9_growth 6 rfl) rfl rfl ?_
    refine w_ic (n := 16) hM (0 : Int32) (dtab_at okX9_growth 7 rfl) (by decide) rfl ?_
    refine w_ic (n := 17) hM (2 : Int32) (dtab_at okX9_growth 8 rfl) (by decide) rfl ?_
    refine w_callSi (n := 20) (As := [vi a2, vi (0 : Int32), vi (2 : Int32)]) (rest := []) hM (c_X9_isWithin S a2 (0 : Int32) (2 : Int32)) lkM_X9_121 ms_X9_isWithin (by decide) rfl (Nat.le_of_ble_eq_true rfl) rfl (dtab_at okX9_growth 9 rfl) rfl (fun x1 S1 hp1 => ?_)
    obtain ⟨hx_, hs_⟩ := hp1
    have hs_ := hs_.symm
    subst hs_
    subst hx_
    refine w_if_ne (n := 26) (n2 := 23) hM (dtab_at okX9_growth 10 rfl) (by decide) rfl (fun (h20 : ¬ (fX9_isWithin S a2 (0 : Int32) (2 : Int32)) = (0 : Int32)) => ?_) (fun (h20 : (fX9_isWithin S a2 (0 : Int32) (2 : Int32)) = (0 : Int32)) => ?_)
    · skip
      rw [if_neg h20] at hf
      refine w_aln (q := 0) (n := 27) hM (dtab_at okX9_growth 13 rfl) rfl rfl ?_
      refine w_iln (q := 1) (n := 28) hM (dtab_at okX9_growth 14 rfl) rfl rfl ?_
      obtain ⟨r2, hr2, hf⟩ := Option.bind_eq_some_iff.mp hf
      refine w_callVi (n := 31) (As := [vi a1]) (rest := []) (k := 9) (j := 0) (C := RX9) (T := TX9) (N := 10) hM (c_X9_twinOf nF S a1 r2 hr2) lkM_X9_207 mv_X9_twinOf (by decide) rfl (by decide) rfl (Nat.le_of_ble_eq_true rfl) rfl (dtab_at okX9_growth 15 rfl) rfl (fun x2 S2 hp2 => ?_)
      have hx_ := congrArg Prod.fst hp2
      have hs_ := congrArg Prod.snd hp2
      dsimp only at hx_ hs_
      subst hx_
      subst hs_
      refine w_isn (n := 32) (lv' := [(3, vi r2.1), (0, vr 9 0), (1, vi a1), (2, vi a2)]) hM (dtab_at okX9_growth 16 rfl) (by decide) rfl rfl ?_
      refine w_aln (q := 1) (n := 33) hM (dtab_at okX9_growth 17 rfl) rfl rfl ?_
      refine w_getr (C := RX9) (T := TX9) (i := 1) (k2 := 6) (q := 2) (n := 36) hM rfl (by decide) (fun _ => rfl) ly_X9 lkF_X9_16 (dtab_at okX9_growth 18 rfl) rfl ?_
      refine w_getr (C := RX6) (T := TX6) (i := 4) (k2 := 3) (q := 20) (n := 39) hM rfl (by decide) (fun _ => rfl) ly_X6 lkF_X9_173 (dtab_at okX9_growth 19 rfl) rfl ?_
      refine w_iln (q := 0) (n := 40) hM (dtab_at okX9_growth 20 rfl) rfl rfl ?_
      refine w_callVi (n := 43) (As := [vi r2.1]) (rest := []) (k := 3) (j := 20) (C := RX3) (T := TX3) (N := 8) hM (c_X3_hasMark r2.2 20 r2.1) lkM_X9_183 mv_X3_hasMark (by decide) rfl (by decide) rfl (Nat.le_of_ble_eq_true rfl) rfl (dtab_at okX9_growth 21 rfl) rfl (fun x3 S3 hp3 => ?_)
      obtain ⟨hx_, hs_⟩ := hp3
      have hs_ := hs_.symm
      subst hs_
      subst hx_
      refine w_if_ne (n := 49) (n2 := 46) hM (dtab_at okX9_growth 22 rfl) (by decide) rfl (fun (h43 : ¬ (fX3_hasMark r2.2 20 r2.1) = (0 : Int32)) => ?_) (fun (h43 : (fX3_hasMark r2.2 20 r2.1) = (0 : Int32)) => ?_)
      · skip
        rw [if_neg h43] at hf
        refine w_aln (q := 1) (n := 50) hM (dtab_at okX9_growth 25 rfl) rfl rfl ?_
        refine w_getr (C := RX9) (T := TX9) (i := 4) (k2 := 7) (q := 54) (n := 53) hM rfl (by decide) (fun _ => rfl) ly_X9 lkF_X9_36 (dtab_at okX9_growth 26 rfl) rfl ?_
        refine w_aln (q := 1) (n := 54) hM (dtab_at okX9_growth 27 rfl) rfl rfl ?_
        refine w_getr (C := RX9) (T := TX9) (i := 0) (k2 := 6) (q := 1) (n := 57) hM rfl (by decide) (fun _ => rfl) ly_X9 lkF_X9_10 (dtab_at okX9_growth 28 rfl) rfl ?_
        refine w_getr (C := RX6) (T := TX6) (i := 4) (k2 := 3) (q := 19) (n := 60) hM rfl (by decide) (fun _ => rfl) ly_X6 lkF_X9_173 (dtab_at okX9_growth 29 rfl) rfl ?_
        refine w_getr (C := RX3) (T := TX3) (i := 2) (k2 := 140) (q := 25) (n := 63) hM rfl (by decide) (fun _ => rfl) ly_X3 lkF_X9_219 (dtab_at okX9_growth 30 rfl) rfl ?_
        refine w_iln (q := 2) (n := 64) hM (dtab_at okX9_growth 31 rfl) rfl rfl ?_
        by_cases hg64 : a1 < 0 ∨ 40 ≤ a1.toNatClampNeg
        · rw [if_pos hg64] at hf; cases hf
        rw [if_neg hg64] at hf
        refine w_ald (nn := 40) (n := 65) hM rfl hg64 (dtab_at okX9_growth 32 rfl) rfl ?_
        refine w_aln (q := 1) (n := 66) hM (dtab_at okX9_growth 33 rfl) rfl rfl ?_
        refine w_getr (C := RX9) (T := TX9) (i := 1) (k2 := 6) (q := 2) (n := 69) hM rfl (by decide) (fun _ => rfl) ly_X9 lkF_X9_16 (dtab_at okX9_growth 34 rfl) rfl ?_
        refine w_getr (C := RX6) (T := TX6) (i := 4) (k2 := 3) (q := 20) (n := 72) hM rfl (by decide) (fun _ => rfl) ly_X6 lkF_X9_173 (dtab_at okX9_growth 35 rfl) rfl ?_
        refine w_getr (C := RX3) (T := TX3) (i := 2) (k2 := 140) (q := 26) (n := 75) hM rfl (by decide) (fun _ => rfl) ly_X3 lkF_X9_219 (dtab_at okX9_growth 36 rfl) rfl ?_
        refine w_iln (q := 0) (n := 76) hM (dtab_at okX9_growth 37 rfl) rfl rfl ?_
        by_cases hg76 : r2.1 < 0 ∨ 40 ≤ r2.1.toNatClampNeg
        · rw [if_pos hg76] at hf; cases hf
        rw [if_neg hg76] at hf
        refine w_ald (nn := 40) (n := 77) hM rfl hg76 (dtab_at okX9_growth 38 rfl) rfl ?_
        refine w_iln (q := 3) (n := 78) hM (dtab_at okX9_growth 39 rfl) rfl rfl ?_
        obtain ⟨r4, hr4, hf⟩ := Option.bind_eq_some_iff.mp hf
        refine w_callVi (n := 81) (As := [vi (r2.2.2 25 a1.toNatClampNeg), vi (r2.2.2 26 r2.1.toNatClampNeg), vi a2]) (rest := []) (k := 7) (j := 54) (C := RX7) (T := TX7) (N := 3) hM (c_X7_fact nF r2.2 (r2.2.2 25 a1.toNatClampNeg) (r2.2.2 26 r2.1.toNatClampNeg) a2 r4 hr4) lkM_X9_222 mv_X7_fact (by decide) rfl (by decide) rfl (Nat.le_of_ble_eq_true rfl) rfl (dtab_at okX9_growth 40 rfl) rfl (fun x4 S4 hp4 => ?_)
        obtain ⟨hx_, hs_⟩ := hp4
        have hs_ := hs_.symm
        have hx_ := hx_.symm
        subst hs_
        subst hx_
        exact r_i hM (dtab_at okX9_growth 41 rfl) (Option.some.inj hf)
      · skip
        rw [if_pos h43] at hf
        refine w_bi (n := 48) hM (-4 : Int32) (dtab_at okX9_growth 23 rfl) (by decide) rfl ?_
        exact r_i hM (dtab_at okX9_growth 24 rfl) (Option.some.inj hf)
    · skip
      rw [if_pos h20] at hf
      refine w_bi (n := 25) hM (-2 : Int32) (dtab_at okX9_growth 11 rfl) (by decide) rfl ?_
      exact r_i hM (dtab_at okX9_growth 12 rfl) (Option.some.inj hf)
def fX9_work (nF : Nat) (S : PS) (a1 : Int32) (a2 : Int32) : Option (Int32 × PS) := (if (fX9_isWithin S a1 (1 : Int32) (1000 : Int32)) = (0 : Int32) then (some ((-2 : Int32), S)) else (if (fX9_isWithin S a2 (1 : Int32) (8 : Int32)) = (0 : Int32) then (some ((-2 : Int32), S)) else ((fX1_add nF S a1 a2).bind fun r2 => (some (r2.1, r2.2)))))
set_option maxHeartbeats 4000000 in
set_option maxRecDepth 100000 in
theorem c_X9_work {cy : ClassId × ClassId} {ad : Nat → Nat} {D : va_G} {l : Launch} (nF : Nat) (S : PS) (a1 : Int32) (a2 : Int32) (r : Int32 × PS) (hf : fX9_work nF S a1 a2 = some r) : PMi cy GC ad D l yX9_work (wA yX9_work cX9_work 3 (some .int)) rmX9_work [vr 9 0, vi a1, vi a2] S (fun x S' => (x, S') = r) := by
  refine PM.of (lv := [(0, vr 9 0), (1, vi a1), (2, vi a2)]) GC_ok (by decide) (Nat.le_of_ble_eq_true rfl) rfl (by simp) ?_
  intro p e s m args below meth c A hM
  rw [fX9_work] at hf
  refine w_iln (q := 1) (n := 1) hM (dtab_at okX9_work 0 rfl) rfl rfl ?_
  refine w_ic (n := 2) hM (1 : Int32) (dtab_at okX9_work 1 rfl) (by decide) rfl ?_
  refine w_si (n := 5) hM (1000 : Int32) (dtab_at okX9_work 2 rfl) (by decide) rfl ?_
  refine w_callSi (n := 8) (As := [vi a1, vi (1 : Int32), vi (1000 : Int32)]) (rest := []) hM (c_X9_isWithin S a1 (1 : Int32) (1000 : Int32)) lkM_X9_121 ms_X9_isWithin (by decide) rfl (Nat.le_of_ble_eq_true rfl) rfl (dtab_at okX9_work 3 rfl) rfl (fun x0 S0 hp0 => ?_)
  obtain ⟨hx_, hs_⟩ := hp0
  have hs_ := hs_.symm
  subst hs_
  subst hx_
  refine w_if_eq (n := 21) (n2 := 11) hM (dtab_at okX9_work 4 rfl) (by decide) rfl (fun (h8 : (fX9_isWithin S a1 (1 : Int32) (1000 : Int32)) = (0 : Int32)) => ?_) (fun (h8 : ¬ (fX9_isWithin S a1 (1 : Int32) (1000 : Int32)) = (0 : Int32)) => ?_)
  · skip
    rw [if_pos h8] at hf
    refine w_bi (n := 23) hM (-2 : Int32) (dtab_at okX9_work 10 rfl) (by decide) rfl ?_
    exact r_i hM (dtab_at okX9_work 11 rfl) (Option.some.inj hf)
  · skip
    rw [if_neg h8] at hf
    refine w_iln (q := 2) (n := 12) hM (dtab_at okX9_work 5 rfl) rfl rfl ?_
    refine w_ic (n := 13) hM (1 : Int32) (dtab_at okX9_work 6 rfl) (by decide) rfl ?_
    refine w_bi (n := 15) hM (8 : Int32) (dtab_at okX9_work 7 rfl) (by decide) rfl ?_
    refine w_callSi (n := 18) (As := [vi a2, vi (1 : Int32), vi (8 : Int32)]) (rest := []) hM (c_X9_isWithin S a2 (1 : Int32) (8 : Int32)) lkM_X9_121 ms_X9_isWithin (by decide) rfl (Nat.le_of_ble_eq_true rfl) rfl (dtab_at okX9_work 8 rfl) rfl (fun x1 S1 hp1 => ?_)
    obtain ⟨hx_, hs_⟩ := hp1
    have hs_ := hs_.symm
    subst hs_
    subst hx_
    refine w_if_ne (n := 24) (n2 := 21) hM (dtab_at okX9_work 9 rfl) (by decide) rfl (fun (h18 : ¬ (fX9_isWithin S a2 (1 : Int32) (8 : Int32)) = (0 : Int32)) => ?_) (fun (h18 : (fX9_isWithin S a2 (1 : Int32) (8 : Int32)) = (0 : Int32)) => ?_)
    · skip
      rw [if_neg h18] at hf
      refine w_aln (q := 0) (n := 25) hM (dtab_at okX9_work 12 rfl) rfl rfl ?_
      refine w_getr (C := RX9) (T := TX9) (i := 5) (k2 := 1) (q := 55) (n := 28) hM rfl (by decide) (fun _ => rfl) ly_X9 lkF_X9_43 (dtab_at okX9_work 13 rfl) rfl ?_
      refine w_iln (q := 1) (n := 29) hM (dtab_at okX9_work 14 rfl) rfl rfl ?_
      refine w_iln (q := 2) (n := 30) hM (dtab_at okX9_work 15 rfl) rfl rfl ?_
      obtain ⟨r2, hr2, hf⟩ := Option.bind_eq_some_iff.mp hf
      refine w_callVi (n := 33) (As := [vi a1, vi a2]) (rest := []) (k := 1) (j := 55) (C := RX1) (T := TX1) (N := 6) hM (c_X1_add nF S a1 a2 r2 hr2) lkM_X9_225 mv_X1_add (by decide) rfl (by decide) rfl (Nat.le_of_ble_eq_true rfl) rfl (dtab_at okX9_work 16 rfl) rfl (fun x2 S2 hp2 => ?_)
      have hx_ := congrArg Prod.fst hp2
      have hs_ := congrArg Prod.snd hp2
      dsimp only at hx_ hs_
      subst hx_
      subst hs_
      exact r_i hM (dtab_at okX9_work 17 rfl) (Option.some.inj hf)
    · skip
      rw [if_pos h18] at hf
      refine w_bi (n := 23) hM (-2 : Int32) (dtab_at okX9_work 10 rfl) (by decide) rfl ?_
      exact r_i hM (dtab_at okX9_work 11 rfl) (Option.some.inj hf)
def fX9_yearly (S : PS) (a1 : Int32) (a2 : Int32) : Int32 × PS := if (fX9_isWithin S a1 (1 : Int32) (30 : Int32)) = (0 : Int32) then ((-2 : Int32), S) else (if (fX9_isWithin S a2 (0 : Int32) (10000 : Int32)) = (0 : Int32) then ((-2 : Int32), S) else ((1 : Int32), (sti (sti S 55 4 a1) 55 5 a2)))
set_option maxHeartbeats 4000000 in
set_option maxRecDepth 100000 in
theorem c_X9_yearly {cy : ClassId × ClassId} {ad : Nat → Nat} {D : va_G} {l : Launch} (S : PS) (a1 : Int32) (a2 : Int32)  : PMi cy GC ad D l yX9_yearly (wA yX9_yearly cX9_yearly 3 (some .int)) rmX9_yearly [vr 9 0, vi a1, vi a2] S (fun x S' => (x, S') = (fX9_yearly S a1 a2)) := by
  refine PM.of (lv := [(0, vr 9 0), (1, vi a1), (2, vi a2)]) GC_ok (by decide) (Nat.le_of_ble_eq_true rfl) rfl (by simp) ?_
  intro p e s m args below meth c A hM
  refine w_iln (q := 1) (n := 1) hM (dtab_at okX9_yearly 0 rfl) rfl rfl ?_
  refine w_ic (n := 2) hM (1 : Int32) (dtab_at okX9_yearly 1 rfl) (by decide) rfl ?_
  refine w_bi (n := 4) hM (30 : Int32) (dtab_at okX9_yearly 2 rfl) (by decide) rfl ?_
  refine w_callSi (n := 7) (As := [vi a1, vi (1 : Int32), vi (30 : Int32)]) (rest := []) hM (c_X9_isWithin S a1 (1 : Int32) (30 : Int32)) lkM_X9_121 ms_X9_isWithin (by decide) rfl (Nat.le_of_ble_eq_true rfl) rfl (dtab_at okX9_yearly 3 rfl) rfl (fun x0 S0 hp0 => ?_)
  obtain ⟨hx_, hs_⟩ := hp0
  have hs_ := hs_.symm
  subst hs_
  subst hx_
  refine w_if_eq (n := 21) (n2 := 10) hM (dtab_at okX9_yearly 4 rfl) (by decide) rfl (fun (h7 : (fX9_isWithin S a1 (1 : Int32) (30 : Int32)) = (0 : Int32)) => ?_) (fun (h7 : ¬ (fX9_isWithin S a1 (1 : Int32) (30 : Int32)) = (0 : Int32)) => ?_)
  · skip
    refine w_bi (n := 23) hM (-2 : Int32) (dtab_at okX9_yearly 10 rfl) (by decide) rfl ?_
    exact r_i hM (dtab_at okX9_yearly 11 rfl) (by rw [fX9_yearly, if_pos h7])
  · skip
    refine w_iln (q := 2) (n := 11) hM (dtab_at okX9_yearly 5 rfl) rfl rfl ?_
    refine w_ic (n := 12) hM (0 : Int32) (dtab_at okX9_yearly 6 rfl) (by decide) rfl ?_
    refine w_si (n := 15) hM (10000 : Int32) (dtab_at okX9_yearly 7 rfl) (by decide) rfl ?_
    refine w_callSi (n := 18) (As := [vi a2, vi (0 : Int32), vi (10000 : Int32)]) (rest := []) hM (c_X9_isWithin S a2 (0 : Int32) (10000 : Int32)) lkM_X9_121 ms_X9_isWithin (by decide) rfl (Nat.le_of_ble_eq_true rfl) rfl (dtab_at okX9_yearly 8 rfl) rfl (fun x1 S1 hp1 => ?_)
    obtain ⟨hx_, hs_⟩ := hp1
    have hs_ := hs_.symm
    subst hs_
    subst hx_
    refine w_if_ne (n := 24) (n2 := 21) hM (dtab_at okX9_yearly 9 rfl) (by decide) rfl (fun (h18 : ¬ (fX9_isWithin S a2 (0 : Int32) (10000 : Int32)) = (0 : Int32)) => ?_) (fun (h18 : (fX9_isWithin S a2 (0 : Int32) (10000 : Int32)) = (0 : Int32)) => ?_)
    · skip
      refine w_aln (q := 0) (n := 25) hM (dtab_at okX9_yearly 12 rfl) rfl rfl ?_
      refine w_getr (C := RX9) (T := TX9) (i := 5) (k2 := 1) (q := 55) (n := 28) hM rfl (by decide) (fun _ => rfl) ly_X9 lkF_X9_43 (dtab_at okX9_yearly 13 rfl) rfl ?_
      refine w_iln (q := 1) (n := 29) hM (dtab_at okX9_yearly 14 rfl) rfl rfl ?_
      refine w_put (C := RX1) (T := TX1) (i := 4) (ty := .int) (n := 32) hM rfl (by decide) ly_X1 tyX1_ok nmX1 lkF_X9_227 rfl (by decide +kernel) rfl rfl (dtab_at okX9_yearly 15 rfl) rfl ?_
      refine w_aln (q := 0) (n := 33) hM (dtab_at okX9_yearly 16 rfl) rfl rfl ?_
      refine w_getr (C := RX9) (T := TX9) (i := 5) (k2 := 1) (q := 55) (n := 36) hM rfl (by decide) (fun _ => rfl) ly_X9 lkF_X9_43 (dtab_at okX9_yearly 17 rfl) rfl ?_
      refine w_iln (q := 2) (n := 37) hM (dtab_at okX9_yearly 18 rfl) rfl rfl ?_
      refine w_put (C := RX1) (T := TX1) (i := 5) (ty := .int) (n := 40) hM rfl (by decide) ly_X1 tyX1_ok nmX1 lkF_X9_230 rfl (by decide +kernel) rfl rfl (dtab_at okX9_yearly 19 rfl) rfl ?_
      refine w_ic (n := 41) hM (1 : Int32) (dtab_at okX9_yearly 20 rfl) (by decide) rfl ?_
      exact r_i hM (dtab_at okX9_yearly 21 rfl) (by rw [fX9_yearly, if_neg h7, if_neg h18])
    · skip
      refine w_bi (n := 23) hM (-2 : Int32) (dtab_at okX9_yearly 10 rfl) (by decide) rfl ?_
      exact r_i hM (dtab_at okX9_yearly 11 rfl) (by rw [fX9_yearly, if_neg h7, if_pos h18])
def fX9_plan (nF : Nat) (S : PS) : Option (Int32) := ((fX1_bestYears nF S).bind fun r0 => (if r0 = (-1 : Int32) then (some (-4 : Int32)) else (some (fX1_costOf S r0))))
set_option maxHeartbeats 4000000 in
set_option maxRecDepth 100000 in
theorem c_X9_plan {cy : ClassId × ClassId} {ad : Nat → Nat} {D : va_G} {l : Launch} (nF : Nat) (S : PS) (r : Int32) (hf : fX9_plan nF S = some r) : PMi cy GC ad D l yX9_plan (wA yX9_plan cX9_plan 2 (some .int)) rmX9_plan [vr 9 0] S (fun x S' => x = r ∧ S' = S) := by
  refine PM.of (lv := [(0, vr 9 0)]) GC_ok (by decide) (Nat.le_of_ble_eq_true rfl) rfl (by simp) ?_
  intro p e s m args below meth c A hM
  rw [fX9_plan] at hf
  obtain ⟨S0, hS⟩ : ∃ S0 : PS, S = S0 := ⟨S, rfl⟩
  rw [show (fun (x : Int32) (S' : PS) => x = r ∧ S' = S) = (fun x S' => x = r ∧ S' = S0) by rw [hS]]
  refine w_aln (q := 0) (n := 1) hM (dtab_at okX9_plan 0 rfl) rfl rfl ?_
  refine w_getr (C := RX9) (T := TX9) (i := 5) (k2 := 1) (q := 55) (n := 4) hM rfl (by decide) (fun _ => rfl) ly_X9 lkF_X9_43 (dtab_at okX9_plan 1 rfl) rfl ?_
  obtain ⟨r0, hr0, hf⟩ := Option.bind_eq_some_iff.mp hf
  refine w_callVi (n := 7) (As := []) (rest := []) (k := 1) (j := 55) (C := RX1) (T := TX1) (N := 6) hM (c_X1_bestYears nF S r0 hr0) lkM_X9_233 mv_X1_bestYears (by decide) rfl (by decide) rfl (Nat.le_of_ble_eq_true rfl) rfl (dtab_at okX9_plan 2 rfl) rfl (fun x0 S0 hp0 => ?_)
  obtain ⟨hx_, hs_⟩ := hp0
  have hs_ := hs_.symm
  have hx_ := hx_.symm
  subst hs_
  subst hx_
  refine w_isn (n := 8) (lv' := [(1, vi r0), (0, vr 9 0)]) hM (dtab_at okX9_plan 3 rfl) (by decide) rfl rfl ?_
  refine w_iln (q := 0) (n := 9) hM (dtab_at okX9_plan 4 rfl) rfl rfl ?_
  refine w_ic (n := 10) hM (-1 : Int32) (dtab_at okX9_plan 5 rfl) (by decide) rfl ?_
  refine w_ic_ne (n := 18) (n2 := 13) hM (dtab_at okX9_plan 6 rfl) (by decide) rfl (fun (h10 : ¬ r0 = (-1 : Int32)) => ?_) (fun (h10 : r0 = (-1 : Int32)) => ?_)
  · skip
    rw [if_neg h10] at hf
    refine w_aln (q := 1) (n := 19) hM (dtab_at okX9_plan 9 rfl) rfl rfl ?_
    refine w_getr (C := RX9) (T := TX9) (i := 5) (k2 := 1) (q := 55) (n := 22) hM rfl (by decide) (fun _ => rfl) ly_X9 lkF_X9_43 (dtab_at okX9_plan 10 rfl) rfl ?_
    refine w_iln (q := 0) (n := 23) hM (dtab_at okX9_plan 11 rfl) rfl rfl ?_
    refine w_callVi (n := 26) (As := [vi r0]) (rest := []) (k := 1) (j := 55) (C := RX1) (T := TX1) (N := 6) hM (c_X1_costOf S r0) lkM_X9_237 mv_X1_costOf (by decide) rfl (by decide) rfl (Nat.le_of_ble_eq_true rfl) rfl (dtab_at okX9_plan 12 rfl) rfl (fun x1 S1 hp1 => ?_)
    obtain ⟨hx_, hs_⟩ := hp1
    have hs_ := hs_.symm
    subst hs_
    subst hx_
    exact r_i hM (dtab_at okX9_plan 13 rfl) ⟨Option.some.inj hf, hS⟩
  · skip
    rw [if_pos h10] at hf
    refine w_bi (n := 15) hM (-4 : Int32) (dtab_at okX9_plan 7 rfl) (by decide) rfl ?_
    refine w_goto (n := 26) hM (dtab_at okX9_plan 8 rfl) (by decide) ?_
    exact r_i hM (dtab_at okX9_plan 13 rfl) ⟨Option.some.inj hf, hS⟩
def fX9_years (nF : Nat) (S : PS) : Option (Int32) := ((fX1_bestYears nF S).bind fun r0 => (if r0 = (-1 : Int32) then (some (-4 : Int32)) else (some r0)))
set_option maxHeartbeats 4000000 in
set_option maxRecDepth 100000 in
theorem c_X9_years {cy : ClassId × ClassId} {ad : Nat → Nat} {D : va_G} {l : Launch} (nF : Nat) (S : PS) (r : Int32) (hf : fX9_years nF S = some r) : PMi cy GC ad D l yX9_years (wA yX9_years cX9_years 2 (some .int)) rmX9_years [vr 9 0] S (fun x S' => x = r ∧ S' = S) := by
  refine PM.of (lv := [(0, vr 9 0)]) GC_ok (by decide) (Nat.le_of_ble_eq_true rfl) rfl (by simp) ?_
  intro p e s m args below meth c A hM
  rw [fX9_years] at hf
  obtain ⟨S0, hS⟩ : ∃ S0 : PS, S = S0 := ⟨S, rfl⟩
  rw [show (fun (x : Int32) (S' : PS) => x = r ∧ S' = S) = (fun x S' => x = r ∧ S' = S0) by rw [hS]]
  refine w_aln (q := 0) (n := 1) hM (dtab_at okX9_years 0 rfl) rfl rfl ?_
  refine w_getr (C := RX9) (T := TX9) (i := 5) (k2 := 1) (q := 55) (n := 4) hM rfl (by decide) (fun _ => rfl) ly_X9 lkF_X9_43 (dtab_at okX9_years 1 rfl) rfl ?_
  obtain ⟨r0, hr0, hf⟩ := Option.bind_eq_some_iff.mp hf
  refine w_callVi (n := 7) (As := []) (rest := []) (k := 1) (j := 55) (C := RX1) (T := TX1) (N := 6) hM (c_X1_bestYears nF S r0 hr0) lkM_X9_233 mv_X1_bestYears (by decide) rfl (by decide) rfl (Nat.le_of_ble_eq_true rfl) rfl (dtab_at okX9_years 2 rfl) rfl (fun x0 S0 hp0 => ?_)
  obtain ⟨hx_, hs_⟩ := hp0
  have hs_ := hs_.symm
  have hx_ := hx_.symm
  subst hs_
  subst hx_
  refine w_isn (n := 8) (lv' := [(1, vi r0), (0, vr 9 0)]) hM (dtab_at okX9_years 3 rfl) (by decide) rfl rfl ?_
  refine w_iln (q := 0) (n := 9) hM (dtab_at okX9_years 4 rfl) rfl rfl ?_
  refine w_ic (n := 10) hM (-1 : Int32) (dtab_at okX9_years 5 rfl) (by decide) rfl ?_
  refine w_ic_ne (n := 18) (n2 := 13) hM (dtab_at okX9_years 6 rfl) (by decide) rfl (fun (h10 : ¬ r0 = (-1 : Int32)) => ?_) (fun (h10 : r0 = (-1 : Int32)) => ?_)
  · skip
    rw [if_neg h10] at hf
    refine w_iln (q := 0) (n := 19) hM (dtab_at okX9_years 9 rfl) rfl rfl ?_
    exact r_i hM (dtab_at okX9_years 10 rfl) ⟨Option.some.inj hf, hS⟩
  · skip
    rw [if_pos h10] at hf
    refine w_bi (n := 15) hM (-4 : Int32) (dtab_at okX9_years 7 rfl) (by decide) rfl ?_
    refine w_goto (n := 19) hM (dtab_at okX9_years 8 rfl) (by decide) ?_
    exact r_i hM (dtab_at okX9_years 10 rfl) ⟨Option.some.inj hf, hS⟩
def fX9_when (nF : Nat) (S : PS) (a1 : Int32) : Option (Int32) := (if a1 < (0 : Int32) then (some (-2 : Int32)) else (if a1 < (S.1 55 2) then ((fX1_bestYears nF S).bind fun r0 => (if r0 = (-1 : Int32) then (some (-4 : Int32)) else ((fX1_yearOf nF S a1 r0).bind fun r1 => (some r1)))) else (some (-2 : Int32))))
set_option maxHeartbeats 4000000 in
set_option maxRecDepth 100000 in
theorem c_X9_when {cy : ClassId × ClassId} {ad : Nat → Nat} {D : va_G} {l : Launch} (nF : Nat) (S : PS) (a1 : Int32) (r : Int32) (hf : fX9_when nF S a1 = some r) : PMi cy GC ad D l yX9_when (wA yX9_when cX9_when 3 (some .int)) rmX9_when [vr 9 0, vi a1] S (fun x S' => x = r ∧ S' = S) := by
  refine PM.of (lv := [(0, vr 9 0), (1, vi a1)]) GC_ok (by decide) (Nat.le_of_ble_eq_true rfl) rfl (by simp) ?_
  intro p e s m args below meth c A hM
  rw [fX9_when] at hf
  obtain ⟨S0, hS⟩ : ∃ S0 : PS, S = S0 := ⟨S, rfl⟩
  rw [show (fun (x : Int32) (S' : PS) => x = r ∧ S' = S) = (fun x S' => x = r ∧ S' = S0) by rw [hS]]
  refine w_iln (q := 1) (n := 1) hM (dtab_at okX9_when 0 rfl) rfl rfl ?_
  refine w_if_lt (n := 15) (n2 := 4) hM (dtab_at okX9_when 1 rfl) (by decide) rfl (fun (h1 : a1 < (0 : Int32)) => ?_) (fun (h1 : ¬ a1 < (0 : Int32)) => ?_)
  · skip
    rw [if_pos h1] at hf
    refine w_bi (n := 17) hM (-2 : Int32) (dtab_at okX9_when 7 rfl) (by decide) rfl ?_
    exact r_i hM (dtab_at okX9_when 8 rfl) ⟨Option.some.inj hf, hS⟩
  · skip
    rw [if_neg h1] at hf
    refine w_iln (q := 1) (n := 5) hM (dtab_at okX9_when 2 rfl) rfl rfl ?_
    refine w_aln (q := 0) (n := 6) hM (dtab_at okX9_when 3 rfl) rfl rfl ?_
    refine w_getr (C := RX9) (T := TX9) (i := 5) (k2 := 1) (q := 55) (n := 9) hM rfl (by decide) (fun _ => rfl) ly_X9 lkF_X9_43 (dtab_at okX9_when 4 rfl) rfl ?_
    refine w_geti (C := RX1) (T := TX1) (i := 2) (n := 12) hM rfl (by decide) ly_X1 lkF_X9_240 (dtab_at okX9_when 5 rfl) rfl ?_
    refine w_ic_lt (n := 18) (n2 := 15) hM (dtab_at okX9_when 6 rfl) (by decide) rfl (fun (h12 : a1 < (S.1 55 2)) => ?_) (fun (h12 : ¬ a1 < (S.1 55 2)) => ?_)
    · skip
      rw [if_pos h12] at hf
      refine w_aln (q := 0) (n := 19) hM (dtab_at okX9_when 9 rfl) rfl rfl ?_
      refine w_getr (C := RX9) (T := TX9) (i := 5) (k2 := 1) (q := 55) (n := 22) hM rfl (by decide) (fun _ => rfl) ly_X9 lkF_X9_43 (dtab_at okX9_when 10 rfl) rfl ?_
      obtain ⟨r0, hr0, hf⟩ := Option.bind_eq_some_iff.mp hf
      refine w_callVi (n := 25) (As := []) (rest := []) (k := 1) (j := 55) (C := RX1) (T := TX1) (N := 6) hM (c_X1_bestYears nF S r0 hr0) lkM_X9_233 mv_X1_bestYears (by decide) rfl (by decide) rfl (Nat.le_of_ble_eq_true rfl) rfl (dtab_at okX9_when 11 rfl) rfl (fun x0 S0 hp0 => ?_)
      obtain ⟨hx_, hs_⟩ := hp0
      have hs_ := hs_.symm
      have hx_ := hx_.symm
      subst hs_
      subst hx_
      refine w_isn (n := 26) (lv' := [(2, vi r0), (0, vr 9 0), (1, vi a1)]) hM (dtab_at okX9_when 12 rfl) (by decide) rfl rfl ?_
      refine w_iln (q := 0) (n := 27) hM (dtab_at okX9_when 13 rfl) rfl rfl ?_
      refine w_ic (n := 28) hM (-1 : Int32) (dtab_at okX9_when 14 rfl) (by decide) rfl ?_
      refine w_ic_ne (n := 36) (n2 := 31) hM (dtab_at okX9_when 15 rfl) (by decide) rfl (fun (h28 : ¬ r0 = (-1 : Int32)) => ?_) (fun (h28 : r0 = (-1 : Int32)) => ?_)
      · skip
        rw [if_neg h28] at hf
        refine w_aln (q := 1) (n := 37) hM (dtab_at okX9_when 18 rfl) rfl rfl ?_
        refine w_getr (C := RX9) (T := TX9) (i := 5) (k2 := 1) (q := 55) (n := 40) hM rfl (by decide) (fun _ => rfl) ly_X9 lkF_X9_43 (dtab_at okX9_when 19 rfl) rfl ?_
        refine w_iln (q := 2) (n := 41) hM (dtab_at okX9_when 20 rfl) rfl rfl ?_
        refine w_iln (q := 0) (n := 42) hM (dtab_at okX9_when 21 rfl) rfl rfl ?_
        obtain ⟨r1, hr1, hf⟩ := Option.bind_eq_some_iff.mp hf
        refine w_callVi (n := 45) (As := [vi a1, vi r0]) (rest := []) (k := 1) (j := 55) (C := RX1) (T := TX1) (N := 6) hM (c_X1_yearOf nF S a1 r0 r1 hr1) lkM_X9_241 mv_X1_yearOf (by decide) rfl (by decide) rfl (Nat.le_of_ble_eq_true rfl) rfl (dtab_at okX9_when 22 rfl) rfl (fun x1 S1 hp1 => ?_)
        obtain ⟨hx_, hs_⟩ := hp1
        have hs_ := hs_.symm
        have hx_ := hx_.symm
        subst hs_
        subst hx_
        exact r_i hM (dtab_at okX9_when 23 rfl) ⟨Option.some.inj hf, hS⟩
      · skip
        rw [if_pos h28] at hf
        refine w_bi (n := 33) hM (-4 : Int32) (dtab_at okX9_when 16 rfl) (by decide) rfl ?_
        refine w_goto (n := 45) hM (dtab_at okX9_when 17 rfl) (by decide) ?_
        exact r_i hM (dtab_at okX9_when 23 rfl) ⟨Option.some.inj hf, hS⟩
    · skip
      rw [if_neg h12] at hf
      refine w_bi (n := 17) hM (-2 : Int32) (dtab_at okX9_when 7 rfl) (by decide) rfl ?_
      exact r_i hM (dtab_at okX9_when 8 rfl) ⟨Option.some.inj hf, hS⟩
def fX9_trap (S : PS) (a1 : Int32) (a2 : Int32) : Int32 × PS := if (fX9_isWithin S a1 (0 : Int32) (3 : Int32)) = (0 : Int32) then ((-2 : Int32), S) else (if (fX8_isOpen S a1) = a2 then ((0 : Int32), S) else (if a2 = (0 : Int32) then ((1 : Int32), (fX8_shut S a1)) else (if (fX8_mayOpen S a1) = (0 : Int32) then ((-4 : Int32), S) else ((1 : Int32), (fX8_open S a1)))))
set_option maxHeartbeats 4000000 in
set_option maxRecDepth 100000 in
theorem c_X9_trap {cy : ClassId × ClassId} {ad : Nat → Nat} {D : va_G} {l : Launch} (S : PS) (a1 : Int32) (a2 : Int32)  : PMi cy GC ad D l yX9_trap (wA yX9_trap cX9_trap 3 (some .int)) rmX9_trap [vr 9 0, vi a1, vi a2] S (fun x S' => (x, S') = (fX9_trap S a1 a2)) := by
  refine PM.of (lv := [(0, vr 9 0), (1, vi a1), (2, vi a2)]) GC_ok (by decide) (Nat.le_of_ble_eq_true rfl) rfl (by simp) ?_
  intro p e s m args below meth c A hM
  refine w_iln (q := 1) (n := 1) hM (dtab_at okX9_trap 0 rfl) rfl rfl ?_
  refine w_ic (n := 2) hM (0 : Int32) (dtab_at okX9_trap 1 rfl) (by decide) rfl ?_
  refine w_ic (n := 3) hM (3 : Int32) (dtab_at okX9_trap 2 rfl) (by decide) rfl ?_
  refine w_callSi (n := 6) (As := [vi a1, vi (0 : Int32), vi (3 : Int32)]) (rest := []) hM (c_X9_isWithin S a1 (0 : Int32) (3 : Int32)) lkM_X9_121 ms_X9_isWithin (by decide) rfl (Nat.le_of_ble_eq_true rfl) rfl (dtab_at okX9_trap 3 rfl) rfl (fun x0 S0 hp0 => ?_)
  obtain ⟨hx_, hs_⟩ := hp0
  have hs_ := hs_.symm
  subst hs_
  subst hx_
  refine w_if_ne (n := 12) (n2 := 9) hM (dtab_at okX9_trap 4 rfl) (by decide) rfl (fun (h6 : ¬ (fX9_isWithin S a1 (0 : Int32) (3 : Int32)) = (0 : Int32)) => ?_) (fun (h6 : (fX9_isWithin S a1 (0 : Int32) (3 : Int32)) = (0 : Int32)) => ?_)
  · skip
    refine w_aln (q := 0) (n := 13) hM (dtab_at okX9_trap 7 rfl) rfl rfl ?_
    refine w_getr (C := RX9) (T := TX9) (i := 6) (k2 := 8) (q := 58) (n := 16) hM rfl (by decide) (fun _ => rfl) ly_X9 lkF_X9_50 (dtab_at okX9_trap 8 rfl) rfl ?_
    refine w_iln (q := 1) (n := 17) hM (dtab_at okX9_trap 9 rfl) rfl rfl ?_
    refine w_callVi (n := 20) (As := [vi a1]) (rest := []) (k := 8) (j := 58) (C := RX8) (T := TX8) (N := 2) hM (c_X8_isOpen S a1) lkM_X9_244 mv_X8_isOpen (by decide) rfl (by decide) rfl (Nat.le_of_ble_eq_true rfl) rfl (dtab_at okX9_trap 10 rfl) rfl (fun x1 S1 hp1 => ?_)
    obtain ⟨hx_, hs_⟩ := hp1
    have hs_ := hs_.symm
    subst hs_
    subst hx_
    refine w_iln (q := 2) (n := 21) hM (dtab_at okX9_trap 11 rfl) rfl rfl ?_
    refine w_ic_ne (n := 26) (n2 := 24) hM (dtab_at okX9_trap 12 rfl) (by decide) rfl (fun (h21 : ¬ (fX8_isOpen S a1) = a2) => ?_) (fun (h21 : (fX8_isOpen S a1) = a2) => ?_)
    · skip
      refine w_iln (q := 2) (n := 27) hM (dtab_at okX9_trap 15 rfl) rfl rfl ?_
      refine w_if_ne (n := 40) (n2 := 30) hM (dtab_at okX9_trap 16 rfl) (by decide) rfl (fun (h27 : ¬ a2 = (0 : Int32)) => ?_) (fun (h27 : a2 = (0 : Int32)) => ?_)
      · skip
        refine w_aln (q := 0) (n := 41) hM (dtab_at okX9_trap 23 rfl) rfl rfl ?_
        refine w_getr (C := RX9) (T := TX9) (i := 6) (k2 := 8) (q := 58) (n := 44) hM rfl (by decide) (fun _ => rfl) ly_X9 lkF_X9_50 (dtab_at okX9_trap 24 rfl) rfl ?_
        refine w_iln (q := 1) (n := 45) hM (dtab_at okX9_trap 25 rfl) rfl rfl ?_
        refine w_callVi (n := 48) (As := [vi a1]) (rest := []) (k := 8) (j := 58) (C := RX8) (T := TX8) (N := 2) hM (c_X8_mayOpen S a1) lkM_X9_251 mv_X8_mayOpen (by decide) rfl (by decide) rfl (Nat.le_of_ble_eq_true rfl) rfl (dtab_at okX9_trap 26 rfl) rfl (fun x2 S2 hp2 => ?_)
        obtain ⟨hx_, hs_⟩ := hp2
        have hs_ := hs_.symm
        subst hs_
        subst hx_
        refine w_if_ne (n := 54) (n2 := 51) hM (dtab_at okX9_trap 27 rfl) (by decide) rfl (fun (h48 : ¬ (fX8_mayOpen S a1) = (0 : Int32)) => ?_) (fun (h48 : (fX8_mayOpen S a1) = (0 : Int32)) => ?_)
        · skip
          refine w_aln (q := 0) (n := 55) hM (dtab_at okX9_trap 30 rfl) rfl rfl ?_
          refine w_getr (C := RX9) (T := TX9) (i := 6) (k2 := 8) (q := 58) (n := 58) hM rfl (by decide) (fun _ => rfl) ly_X9 lkF_X9_50 (dtab_at okX9_trap 31 rfl) rfl ?_
          refine w_iln (q := 1) (n := 59) hM (dtab_at okX9_trap 32 rfl) rfl rfl ?_
          refine w_callVv (n := 62) (As := [vi a1]) (rest := []) (k := 8) (j := 58) (C := RX8) (T := TX8) (N := 2) hM (c_X8_open S a1) lkM_X9_254 mv_X8_open (by decide) rfl (by decide) rfl (Nat.le_of_ble_eq_true rfl) rfl (dtab_at okX9_trap 33 rfl) rfl (fun S3 hp3 => ?_)
          subst hp3
          refine w_ic (n := 63) hM (1 : Int32) (dtab_at okX9_trap 34 rfl) (by decide) rfl ?_
          exact r_i hM (dtab_at okX9_trap 35 rfl) (by rw [fX9_trap, if_neg h6, if_neg h21, if_neg h27, if_neg h48])
        · skip
          refine w_bi (n := 53) hM (-4 : Int32) (dtab_at okX9_trap 28 rfl) (by decide) rfl ?_
          exact r_i hM (dtab_at okX9_trap 29 rfl) (by rw [fX9_trap, if_neg h6, if_neg h21, if_neg h27, if_pos h48])
      · skip
        refine w_aln (q := 0) (n := 31) hM (dtab_at okX9_trap 17 rfl) rfl rfl ?_
        refine w_getr (C := RX9) (T := TX9) (i := 6) (k2 := 8) (q := 58) (n := 34) hM rfl (by decide) (fun _ => rfl) ly_X9 lkF_X9_50 (dtab_at okX9_trap 18 rfl) rfl ?_
        refine w_iln (q := 1) (n := 35) hM (dtab_at okX9_trap 19 rfl) rfl rfl ?_
        refine w_callVv (n := 38) (As := [vi a1]) (rest := []) (k := 8) (j := 58) (C := RX8) (T := TX8) (N := 2) hM (c_X8_shut S a1) lkM_X9_247 mv_X8_shut (by decide) rfl (by decide) rfl (Nat.le_of_ble_eq_true rfl) rfl (dtab_at okX9_trap 20 rfl) rfl (fun S4 hp4 => ?_)
        subst hp4
        refine w_ic (n := 39) hM (1 : Int32) (dtab_at okX9_trap 21 rfl) (by decide) rfl ?_
        exact r_i hM (dtab_at okX9_trap 22 rfl) (by rw [fX9_trap, if_neg h6, if_neg h21, if_pos h27])
    · skip
      refine w_ic (n := 25) hM (0 : Int32) (dtab_at okX9_trap 13 rfl) (by decide) rfl ?_
      exact r_i hM (dtab_at okX9_trap 14 rfl) (by rw [fX9_trap, if_neg h6, if_pos h21])
  · skip
    refine w_bi (n := 11) hM (-2 : Int32) (dtab_at okX9_trap 5 rfl) (by decide) rfl ?_
    exact r_i hM (dtab_at okX9_trap 6 rfl) (by rw [fX9_trap, if_pos h6])
def fX9_count (S : PS) (a1 : Int32) : Int32 := if a1.toInt < 0 ∨ 6 < a1.toInt then (-2 : Int32) else if a1 = 0 then (S.1 41 2) else if a1 = 1 then (S.1 19 6) else if a1 = 2 then (S.1 20 6) else if a1 = 3 then (S.1 55 2) else if a1 = 4 then (S.1 58 0) else if a1 = 5 then (if (S.1 58 1) = (0 : Int32) then (0 : Int32) else (1 : Int32)) else (S.1 0 9)
set_option maxHeartbeats 4000000 in
set_option maxRecDepth 100000 in
theorem c_X9_count {cy : ClassId × ClassId} {ad : Nat → Nat} {D : va_G} {l : Launch} (S : PS) (a1 : Int32)  : PMi cy GC ad D l yX9_count (wA yX9_count cX9_count 2 (some .int)) rmX9_count [vr 9 0, vi a1] S (fun x S' => x = (fX9_count S a1) ∧ S' = S) := by
  refine PM.of (lv := [(0, vr 9 0), (1, vi a1)]) GC_ok (by decide) (Nat.le_of_ble_eq_true rfl) rfl (by simp) ?_
  intro p e s m args below meth c A hM
  refine w_iln (q := 1) (n := 1) hM (dtab_at okX9_count 0 rfl) rfl rfl ?_
  by_cases hts1 : a1.toInt < 0 ∨ 6 < a1.toInt
  · refine w_tsOut (n := 111) hM (dtab_at okX9_count 1 rfl) hts1 (by decide) ?_
    refine w_bi (n := 113) hM (-2 : Int32) (dtab_at okX9_count 35 rfl) (by decide) rfl ?_
    exact r_i hM (dtab_at okX9_count 36 rfl) ⟨by rw [fX9_count, if_pos hts1], rfl⟩
  · have htn1 := hts1
    obtain hts1 | hts1 | hts1 | hts1 | hts1 | hts1 | hts1 : a1 = 0 ∨ a1 = 1 ∨ a1 = 2 ∨ a1 = 3 ∨ a1 = 4 ∨ a1 = 5 ∨ a1 = 6 := sw0_7 hts1
    · refine w_tsIn (n := 44) (off := 43) hM (dtab_at okX9_count 1 rfl) (by rw [hts1]; decide) (by rw [hts1]; decide) (by rw [hts1]; rfl) (by decide) ?_
      refine w_aln (q := 0) (n := 45) hM (dtab_at okX9_count 2 rfl) rfl rfl ?_
      refine w_getr (C := RX9) (T := TX9) (i := 2) (k2 := 0) (q := 41) (n := 48) hM rfl (by decide) (fun _ => rfl) ly_X9 lkF_X9_22 (dtab_at okX9_count 3 rfl) rfl ?_
      refine w_geti (C := RX0) (T := TX0) (i := 2) (n := 51) hM rfl (by decide) ly_X0 lkF_X9_150 (dtab_at okX9_count 4 rfl) rfl ?_
      exact r_i hM (dtab_at okX9_count 5 rfl) ⟨by rw [fX9_count, if_neg htn1, if_pos hts1], rfl⟩
    · refine w_tsIn (n := 52) (off := 51) hM (dtab_at okX9_count 1 rfl) (by rw [hts1]; decide) (by rw [hts1]; decide) (by rw [hts1]; rfl) (by decide) ?_
      refine w_aln (q := 0) (n := 53) hM (dtab_at okX9_count 6 rfl) rfl rfl ?_
      refine w_getr (C := RX9) (T := TX9) (i := 0) (k2 := 6) (q := 1) (n := 56) hM rfl (by decide) (fun _ => rfl) ly_X9 lkF_X9_10 (dtab_at okX9_count 7 rfl) rfl ?_
      refine w_getr (C := RX6) (T := TX6) (i := 4) (k2 := 3) (q := 19) (n := 59) hM rfl (by decide) (fun _ => rfl) ly_X6 lkF_X9_173 (dtab_at okX9_count 8 rfl) rfl ?_
      refine w_geti (C := RX3) (T := TX3) (i := 6) (n := 62) hM rfl (by decide) ly_X3 lkF_X9_182 (dtab_at okX9_count 9 rfl) rfl ?_
      exact r_i hM (dtab_at okX9_count 10 rfl) ⟨by rw [fX9_count, if_neg htn1, if_neg (show ¬ a1 = 0 by rw [hts1]; decide), if_pos hts1], rfl⟩
    · refine w_tsIn (n := 63) (off := 62) hM (dtab_at okX9_count 1 rfl) (by rw [hts1]; decide) (by rw [hts1]; decide) (by rw [hts1]; rfl) (by decide) ?_
      refine w_aln (q := 0) (n := 64) hM (dtab_at okX9_count 11 rfl) rfl rfl ?_
      refine w_getr (C := RX9) (T := TX9) (i := 1) (k2 := 6) (q := 2) (n := 67) hM rfl (by decide) (fun _ => rfl) ly_X9 lkF_X9_16 (dtab_at okX9_count 12 rfl) rfl ?_
      refine w_getr (C := RX6) (T := TX6) (i := 4) (k2 := 3) (q := 20) (n := 70) hM rfl (by decide) (fun _ => rfl) ly_X6 lkF_X9_173 (dtab_at okX9_count 13 rfl) rfl ?_
      refine w_geti (C := RX3) (T := TX3) (i := 6) (n := 73) hM rfl (by decide) ly_X3 lkF_X9_182 (dtab_at okX9_count 14 rfl) rfl ?_
      exact r_i hM (dtab_at okX9_count 15 rfl) ⟨by rw [fX9_count, if_neg htn1, if_neg (show ¬ a1 = 0 by rw [hts1]; decide), if_neg (show ¬ a1 = 1 by rw [hts1]; decide), if_pos hts1], rfl⟩
    · refine w_tsIn (n := 74) (off := 73) hM (dtab_at okX9_count 1 rfl) (by rw [hts1]; decide) (by rw [hts1]; decide) (by rw [hts1]; rfl) (by decide) ?_
      refine w_aln (q := 0) (n := 75) hM (dtab_at okX9_count 16 rfl) rfl rfl ?_
      refine w_getr (C := RX9) (T := TX9) (i := 5) (k2 := 1) (q := 55) (n := 78) hM rfl (by decide) (fun _ => rfl) ly_X9 lkF_X9_43 (dtab_at okX9_count 17 rfl) rfl ?_
      refine w_geti (C := RX1) (T := TX1) (i := 2) (n := 81) hM rfl (by decide) ly_X1 lkF_X9_240 (dtab_at okX9_count 18 rfl) rfl ?_
      exact r_i hM (dtab_at okX9_count 19 rfl) ⟨by rw [fX9_count, if_neg htn1, if_neg (show ¬ a1 = 0 by rw [hts1]; decide), if_neg (show ¬ a1 = 1 by rw [hts1]; decide), if_neg (show ¬ a1 = 2 by rw [hts1]; decide), if_pos hts1], rfl⟩
    · refine w_tsIn (n := 82) (off := 81) hM (dtab_at okX9_count 1 rfl) (by rw [hts1]; decide) (by rw [hts1]; decide) (by rw [hts1]; rfl) (by decide) ?_
      refine w_aln (q := 0) (n := 83) hM (dtab_at okX9_count 20 rfl) rfl rfl ?_
      refine w_getr (C := RX9) (T := TX9) (i := 6) (k2 := 8) (q := 58) (n := 86) hM rfl (by decide) (fun _ => rfl) ly_X9 lkF_X9_50 (dtab_at okX9_count 21 rfl) rfl ?_
      refine w_geti (C := RX8) (T := TX8) (i := 0) (n := 89) hM rfl (by decide) ly_X8 lkF_X9_257 (dtab_at okX9_count 22 rfl) rfl ?_
      exact r_i hM (dtab_at okX9_count 23 rfl) ⟨by rw [fX9_count, if_neg htn1, if_neg (show ¬ a1 = 0 by rw [hts1]; decide), if_neg (show ¬ a1 = 1 by rw [hts1]; decide), if_neg (show ¬ a1 = 2 by rw [hts1]; decide), if_neg (show ¬ a1 = 3 by rw [hts1]; decide), if_pos hts1], rfl⟩
    · refine w_tsIn (n := 90) (off := 89) hM (dtab_at okX9_count 1 rfl) (by rw [hts1]; decide) (by rw [hts1]; decide) (by rw [hts1]; rfl) (by decide) ?_
      refine w_aln (q := 0) (n := 91) hM (dtab_at okX9_count 24 rfl) rfl rfl ?_
      refine w_getr (C := RX9) (T := TX9) (i := 6) (k2 := 8) (q := 58) (n := 94) hM rfl (by decide) (fun _ => rfl) ly_X9 lkF_X9_50 (dtab_at okX9_count 25 rfl) rfl ?_
      refine w_geti (C := RX8) (T := TX8) (i := 1) (n := 97) hM rfl (by decide) ly_X8 lkF_X9_260 (dtab_at okX9_count 26 rfl) rfl ?_
      refine w_if_eq (n := 104) (n2 := 100) hM (dtab_at okX9_count 27 rfl) (by decide) rfl (fun (h97 : (S.1 58 1) = (0 : Int32)) => ?_) (fun (h97 : ¬ (S.1 58 1) = (0 : Int32)) => ?_)
      · skip
        refine w_ic (n := 105) hM (0 : Int32) (dtab_at okX9_count 30 rfl) (by decide) rfl ?_
        exact r_i hM (dtab_at okX9_count 31 rfl) ⟨by rw [fX9_count, if_neg htn1, if_neg (show ¬ a1 = 0 by rw [hts1]; decide), if_neg (show ¬ a1 = 1 by rw [hts1]; decide), if_neg (show ¬ a1 = 2 by rw [hts1]; decide), if_neg (show ¬ a1 = 3 by rw [hts1]; decide), if_neg (show ¬ a1 = 4 by rw [hts1]; decide), if_pos hts1, if_pos h97], rfl⟩
      · skip
        refine w_ic (n := 101) hM (1 : Int32) (dtab_at okX9_count 28 rfl) (by decide) rfl ?_
        refine w_goto (n := 105) hM (dtab_at okX9_count 29 rfl) (by decide) ?_
        exact r_i hM (dtab_at okX9_count 31 rfl) ⟨by rw [fX9_count, if_neg htn1, if_neg (show ¬ a1 = 0 by rw [hts1]; decide), if_neg (show ¬ a1 = 1 by rw [hts1]; decide), if_neg (show ¬ a1 = 2 by rw [hts1]; decide), if_neg (show ¬ a1 = 3 by rw [hts1]; decide), if_neg (show ¬ a1 = 4 by rw [hts1]; decide), if_pos hts1, if_neg h97], rfl⟩
    · refine w_tsIn (n := 106) (off := 105) hM (dtab_at okX9_count 1 rfl) (by rw [hts1]; decide) (by rw [hts1]; decide) (by rw [hts1]; rfl) (by decide) ?_
      refine w_aln (q := 0) (n := 107) hM (dtab_at okX9_count 32 rfl) rfl rfl ?_
      refine w_geti (C := RX9) (T := TX9) (i := 9) (n := 110) hM rfl (by decide) ly_X9 lkF_X9_61 (dtab_at okX9_count 33 rfl) rfl ?_
      exact r_i hM (dtab_at okX9_count 34 rfl) ⟨by rw [fX9_count, if_neg htn1, if_neg (show ¬ a1 = 0 by rw [hts1]; decide), if_neg (show ¬ a1 = 1 by rw [hts1]; decide), if_neg (show ¬ a1 = 2 by rw [hts1]; decide), if_neg (show ¬ a1 = 3 by rw [hts1]; decide), if_neg (show ¬ a1 = 4 by rw [hts1]; decide), if_neg (show ¬ a1 = 5 by rw [hts1]; decide)], rfl⟩
def BX9_digestOfRun_154 (nF : Nat) (k109 : PS → Nat → Int64 → Int32 → Option (Int64 × PS)) (S : PS) (v3 : Nat) (v4 : Int64) (v6 : Int32) : Option (Int64 × PS) := (k109 S v3 v4 (v6 + (1 : Int32)))
set_option maxHeartbeats 4000000 in
set_option maxRecDepth 100000 in
theorem wBX9_digestOfRun_154 {cy : ClassId × ClassId} {ad : Nat → Nat} {D : va_G} {p : Program} {l : Launch} {e : Env} {s : State} {m : MethodId} {args : Array Value} {below : List Frame} {meth : Method} {c : Code} {A : Nat → Prop} (hM : MX cy GC ad D p s m args meth c cX9_digestOfRun 8 RX9 (some .long) A) (nF : Nat) (r : Int64 × PS) (k109 : PS → Nat → Int64 → Int32 → Option (Int64 × PS)) (hk109 : ∀ (S : PS) (v3 : Nat) (v4 : Int64) (v6 : Int32), k109 S v3 v4 v6 = some r → WW cy GC ad D p l e rmX9_digestOfRun s m args below meth c 8 A (pol (fun x S' => (x, S') = r)) 109 [(3, vr 6 v3), (4, vl v4), (6, vi v6)] [] S) (S : PS) (v3 : Nat) (v4 : Int64) (v6 : Int32) (hf : BX9_digestOfRun_154 nF k109 S v3 v4 v6 = some r) : WW cy GC ad D p l e rmX9_digestOfRun s m args below meth c 8 A (pol (fun x S' => (x, S') = r)) 154 [(3, vr 6 v3), (4, vl v4), (6, vi v6)] [] S := by
  rw [BX9_digestOfRun_154] at hf
  refine w_iinc (q := 2) (n := 157) (v := (v6 + (1 : Int32))) (lv' := [(6, vi (v6 + (1 : Int32))), (3, vr 6 v3), (4, vl v4)]) hM (dtab_at okX9_digestOfRun 79 rfl) rfl rfl (by decide) rfl rfl ?_
  refine w_goto (n := 109) hM (dtab_at okX9_digestOfRun 80 rfl) (by decide) ?_
  refine WW.lvs [1, 2, 0] (lv2 := [(3, vr 6 v3), (4, vl v4), (6, vi (v6 + (1 : Int32)))]) rfl ?_
  exact hk109 S v3 v4 (v6 + (1 : Int32)) hf
def LX9_digestOfRun_124 (nF : Nat) (k109 : PS → Nat → Int64 → Int32 → Option (Int64 × PS)) : Nat → PS → Nat → Int64 → Int32 → Int32 → Option (Int64 × PS)
  | 0, _, _, _, _, _ => none
  | n + 1, S, v3, v4, v6, v7 => (if (5 : Int32) < v7 then (BX9_digestOfRun_154 nF k109 S v3 v4 v6) else ((fX6_markFact nF S v3 v6 v7).bind fun r0 => (LX9_digestOfRun_124 nF k109 n S v3 ((31 * v4) + r0.toInt64) v6 (v7 + (1 : Int32)))))
set_option maxHeartbeats 4000000 in
set_option maxRecDepth 100000 in
theorem wLX9_digestOfRun_124 {cy : ClassId × ClassId} {ad : Nat → Nat} {D : va_G} {p : Program} {l : Launch} {e : Env} {s : State} {m : MethodId} {args : Array Value} {below : List Frame} {meth : Method} {c : Code} {A : Nat → Prop} (hM : MX cy GC ad D p s m args meth c cX9_digestOfRun 8 RX9 (some .long) A) (nF : Nat) (r : Int64 × PS) (k109 : PS → Nat → Int64 → Int32 → Option (Int64 × PS)) (hk109 : ∀ (S : PS) (v3 : Nat) (v4 : Int64) (v6 : Int32), k109 S v3 v4 v6 = some r → WW cy GC ad D p l e rmX9_digestOfRun s m args below meth c 8 A (pol (fun x S' => (x, S') = r)) 109 [(3, vr 6 v3), (4, vl v4), (6, vi v6)] [] S) : ∀ (n : Nat) (S : PS) (v3 : Nat) (v4 : Int64) (v6 : Int32) (v7 : Int32), LX9_digestOfRun_124 nF k109 n S v3 v4 v6 v7 = some r → WW cy GC ad D p l e rmX9_digestOfRun s m args below meth c 8 A (pol (fun x S' => (x, S') = r)) 124 [(3, vr 6 v3), (4, vl v4), (6, vi v6), (7, vi v7)] [] S := by
  intro n
  induction n with
  | zero => intro S v3 v4 v6 v7 hf; rw [LX9_digestOfRun_124] at hf; cases hf
  | succ n ih =>
    intro S v3 v4 v6 v7 hf
    rw [LX9_digestOfRun_124] at hf
    refine w_il (q := 3) (n := 126) hM (dtab_at okX9_digestOfRun 64 rfl) rfl rfl ?_
    refine w_ic (n := 127) hM (5 : Int32) (dtab_at okX9_digestOfRun 65 rfl) (by decide) rfl ?_
    refine w_ic_gt (n := 154) (n2 := 130) hM (dtab_at okX9_digestOfRun 66 rfl) (by decide) rfl (fun (h127 : (5 : Int32) < v7) => ?_) (fun (h127 : ¬ (5 : Int32) < v7) => ?_)
    · skip
      rw [if_pos h127] at hf
      refine WW.lvs [0, 1, 2] (lv2 := [(3, vr 6 v3), (4, vl v4), (6, vi v6)]) rfl ?_
      exact wBX9_digestOfRun_154 hM nF r k109 hk109 S v3 v4 v6 hf
    · skip
      rw [if_neg h127] at hf
      refine w_ldc2 (n := 133) (v := 31) hM (dtab_at okX9_digestOfRun 67 rfl) lkD_X9_266 rfl ?_
      refine w_ll (q := 1) (n := 135) hM (dtab_at okX9_digestOfRun 68 rfl) rfl rfl ?_
      refine w_lmul (n := 136) hM (dtab_at okX9_digestOfRun 69 rfl) rfl ?_
      refine w_aln (q := 0) (n := 137) hM (dtab_at okX9_digestOfRun 70 rfl) rfl rfl ?_
      refine w_il (q := 2) (n := 139) hM (dtab_at okX9_digestOfRun 71 rfl) rfl rfl ?_
      refine w_il (q := 3) (n := 141) hM (dtab_at okX9_digestOfRun 72 rfl) rfl rfl ?_
      obtain ⟨r0, hr0, hf⟩ := Option.bind_eq_some_iff.mp hf
      refine w_callVi (n := 144) (As := [vi v6, vi v7]) (rest := [vl (31 * v4)]) (k := 6) (j := v3) (C := RX6) (T := TX6) (N := 12) hM (c_X6_markFact nF S v3 v6 v7 r0 hr0) lkM_X9_189 mv_X6_markFact (by decide) rfl (by decide) rfl (Nat.le_of_ble_eq_true rfl) rfl (dtab_at okX9_digestOfRun 73 rfl) rfl (fun x0 S0 hp0 => ?_)
      obtain ⟨hx_, hs_⟩ := hp0
      have hs_ := hs_.symm
      have hx_ := hx_.symm
      subst hs_
      subst hx_
      refine w_i2l (n := 145) hM (dtab_at okX9_digestOfRun 74 rfl) rfl ?_
      refine w_ladd (n := 146) hM (dtab_at okX9_digestOfRun 75 rfl) rfl ?_
      refine w_ls (n := 148) (lv' := [(4, vl ((31 * v4) + r0.toInt64)), (3, vr 6 v3), (6, vi v6), (7, vi v7)]) hM (dtab_at okX9_digestOfRun 76 rfl) (by decide) rfl rfl ?_
      refine w_iinc (q := 3) (n := 151) (v := (v7 + (1 : Int32))) (lv' := [(7, vi (v7 + (1 : Int32))), (4, vl ((31 * v4) + r0.toInt64)), (3, vr 6 v3), (6, vi v6)]) hM (dtab_at okX9_digestOfRun 77 rfl) rfl rfl (by decide) rfl rfl ?_
      refine w_goto (n := 124) hM (dtab_at okX9_digestOfRun 78 rfl) (by decide) ?_
      refine WW.lvs [2, 1, 3, 0] (lv2 := [(3, vr 6 v3), (4, vl ((31 * v4) + r0.toInt64)), (6, vi v6), (7, vi (v7 + (1 : Int32)))]) rfl ?_
      exact ih S v3 ((31 * v4) + r0.toInt64) v6 (v7 + (1 : Int32)) hf
def LX9_digestOfRun_109 (nF : Nat) : Nat → PS → Nat → Int64 → Int32 → Option (Int64 × PS)
  | 0, _, _, _, _ => none
  | n + 1, S, v3, v4, v6 => (if (S.1 (v3 + 18) 6) ≤ v6 then (some (v4, S)) else (LX9_digestOfRun_124 nF (LX9_digestOfRun_109 nF n) nF S v3 v4 v6 (0 : Int32)))
set_option maxHeartbeats 4000000 in
set_option maxRecDepth 100000 in
theorem wLX9_digestOfRun_109 {cy : ClassId × ClassId} {ad : Nat → Nat} {D : va_G} {p : Program} {l : Launch} {e : Env} {s : State} {m : MethodId} {args : Array Value} {below : List Frame} {meth : Method} {c : Code} {A : Nat → Prop} (hM : MX cy GC ad D p s m args meth c cX9_digestOfRun 8 RX9 (some .long) A) (nF : Nat) (r : Int64 × PS) : ∀ (n : Nat) (S : PS) (v3 : Nat) (v4 : Int64) (v6 : Int32), LX9_digestOfRun_109 nF n S v3 v4 v6 = some r → WW cy GC ad D p l e rmX9_digestOfRun s m args below meth c 8 A (pol (fun x S' => (x, S') = r)) 109 [(3, vr 6 v3), (4, vl v4), (6, vi v6)] [] S := by
  intro n
  induction n with
  | zero => intro S v3 v4 v6 hf; rw [LX9_digestOfRun_109] at hf; cases hf
  | succ n ih =>
    intro S v3 v4 v6 hf
    rw [LX9_digestOfRun_109] at hf
    refine w_il (q := 2) (n := 111) hM (dtab_at okX9_digestOfRun 57 rfl) rfl rfl ?_
    refine w_aln (q := 0) (n := 112) hM (dtab_at okX9_digestOfRun 58 rfl) rfl rfl ?_
    refine w_getr (C := RX6) (T := TX6) (i := 4) (k2 := 3) (q := (v3 + 18)) (n := 115) hM rfl (by decide) rfc_6_4 ly_X6 lkF_X9_173 (dtab_at okX9_digestOfRun 59 rfl) rfl ?_
    refine w_geti (C := RX3) (T := TX3) (i := 6) (n := 118) hM rfl (by decide) ly_X3 lkF_X9_182 (dtab_at okX9_digestOfRun 60 rfl) rfl ?_
    refine w_ic_ge (n := 160) (n2 := 121) hM (dtab_at okX9_digestOfRun 61 rfl) (by decide) rfl (fun (h118 : (S.1 (v3 + 18) 6) ≤ v6) => ?_) (fun (h118 : ¬ (S.1 (v3 + 18) 6) ≤ v6) => ?_)
    · skip
      rw [if_pos h118] at hf
      refine w_ll (q := 1) (n := 162) hM (dtab_at okX9_digestOfRun 81 rfl) rfl rfl ?_
      exact r_l hM (dtab_at okX9_digestOfRun 82 rfl) (Option.some.inj hf)
    · skip
      rw [if_neg h118] at hf
      refine w_ic (n := 122) hM (0 : Int32) (dtab_at okX9_digestOfRun 62 rfl) (by decide) rfl ?_
      refine w_is (n := 124) (lv' := [(7, vi (0 : Int32)), (3, vr 6 v3), (4, vl v4), (6, vi v6)]) hM (dtab_at okX9_digestOfRun 63 rfl) (by decide) rfl rfl ?_
      refine WW.lvs [1, 2, 3, 0] (lv2 := [(3, vr 6 v3), (4, vl v4), (6, vi v6), (7, vi (0 : Int32))]) rfl ?_
      exact wLX9_digestOfRun_124 hM nF r (LX9_digestOfRun_109 nF n) ih nF S v3 v4 v6 (0 : Int32) hf
def BX9_digestOfRun_73 (nF : Nat) (S : PS) (v3 : Nat) (v4 : Int64) : Option (Int64 × PS) := ((fX0_leastCost nF S v3).bind fun r0 => ((fX3_putTogether nF r0.2 (v3 + 18) (r0.2.1 0 7) (r0.2.1 0 8)).bind fun r1 => (LX9_digestOfRun_109 nF nF r1 v3 ((31 * v4) + r0.1.toInt64) (0 : Int32))))
set_option maxHeartbeats 4000000 in
set_option maxRecDepth 100000 in
theorem wBX9_digestOfRun_73 {cy : ClassId × ClassId} {ad : Nat → Nat} {D : va_G} {p : Program} {l : Launch} {e : Env} {s : State} {m : MethodId} {args : Array Value} {below : List Frame} {meth : Method} {c : Code} {A : Nat → Prop} (hM : MX cy GC ad D p s m args meth c cX9_digestOfRun 8 RX9 (some .long) A) (nF : Nat) (r : Int64 × PS) (S : PS) (v3 : Nat) (v4 : Int64) (hf : BX9_digestOfRun_73 nF S v3 v4 = some r) : WW cy GC ad D p l e rmX9_digestOfRun s m args below meth c 8 A (pol (fun x S' => (x, S') = r)) 73 [(0, vr 9 0), (3, vr 6 v3), (4, vl v4)] [] S := by
  rw [BX9_digestOfRun_73] at hf
  refine w_ldc2 (n := 76) (v := 31) hM (dtab_at okX9_digestOfRun 38 rfl) lkD_X9_266 rfl ?_
  refine w_ll (q := 2) (n := 78) hM (dtab_at okX9_digestOfRun 39 rfl) rfl rfl ?_
  refine w_lmul (n := 79) hM (dtab_at okX9_digestOfRun 40 rfl) rfl ?_
  refine w_aln (q := 0) (n := 80) hM (dtab_at okX9_digestOfRun 41 rfl) rfl rfl ?_
  refine w_getr (C := RX9) (T := TX9) (i := 2) (k2 := 0) (q := 41) (n := 83) hM rfl (by decide) (fun _ => rfl) ly_X9 lkF_X9_22 (dtab_at okX9_digestOfRun 42 rfl) rfl ?_
  refine w_aln (q := 1) (n := 84) hM (dtab_at okX9_digestOfRun 43 rfl) rfl rfl ?_
  obtain ⟨r0, hr0, hf⟩ := Option.bind_eq_some_iff.mp hf
  refine w_callVi (n := 87) (As := [vr 6 v3]) (rest := [vl (31 * v4)]) (k := 0) (j := 41) (C := RX0) (T := TX0) (N := 5) hM (c_X0_leastCost nF S v3 r0 hr0) lkM_X9_158 mv_X0_leastCost (by decide) rfl (by decide) rfl (Nat.le_of_ble_eq_true rfl) rfl (dtab_at okX9_digestOfRun 44 rfl) rfl (fun x0 S0 hp0 => ?_)
  have hx_ := congrArg Prod.fst hp0
  have hs_ := congrArg Prod.snd hp0
  dsimp only at hx_ hs_
  subst hx_
  subst hs_
  refine w_i2l (n := 88) hM (dtab_at okX9_digestOfRun 45 rfl) rfl ?_
  refine w_ladd (n := 89) hM (dtab_at okX9_digestOfRun 46 rfl) rfl ?_
  refine w_ls (n := 91) (lv' := [(4, vl ((31 * v4) + r0.1.toInt64)), (0, vr 9 0), (3, vr 6 v3)]) hM (dtab_at okX9_digestOfRun 47 rfl) (by decide) rfl rfl ?_
  refine w_aln (q := 2) (n := 92) hM (dtab_at okX9_digestOfRun 48 rfl) rfl rfl ?_
  refine w_getr (C := RX6) (T := TX6) (i := 4) (k2 := 3) (q := (v3 + 18)) (n := 95) hM rfl (by decide) rfc_6_4 ly_X6 lkF_X9_173 (dtab_at okX9_digestOfRun 49 rfl) rfl ?_
  refine w_aln (q := 1) (n := 96) hM (dtab_at okX9_digestOfRun 50 rfl) rfl rfl ?_
  refine w_geti (C := RX9) (T := TX9) (i := 7) (n := 99) hM rfl (by decide) ly_X9 lkF_X9_54 (dtab_at okX9_digestOfRun 51 rfl) rfl ?_
  refine w_aln (q := 1) (n := 100) hM (dtab_at okX9_digestOfRun 52 rfl) rfl rfl ?_
  refine w_geti (C := RX9) (T := TX9) (i := 8) (n := 103) hM rfl (by decide) ly_X9 lkF_X9_58 (dtab_at okX9_digestOfRun 53 rfl) rfl ?_
  obtain ⟨r1, hr1, hf⟩ := Option.bind_eq_some_iff.mp hf
  refine w_callVv (n := 106) (As := [vi (r0.2.1 0 7), vi (r0.2.1 0 8)]) (rest := []) (k := 3) (j := (v3 + 18)) (C := RX3) (T := TX3) (N := 8) hM (c_X3_putTogether nF r0.2 (v3 + 18) (r0.2.1 0 7) (r0.2.1 0 8) r1 hr1) lkM_X9_186 mv_X3_putTogether (by decide) rfl (by decide) rfl (Nat.le_of_ble_eq_true rfl) rfl (dtab_at okX9_digestOfRun 54 rfl) rfl (fun S1 hp1 => ?_)
  have hs_ := hp1.symm
  subst hs_
  refine w_ic (n := 107) hM (0 : Int32) (dtab_at okX9_digestOfRun 55 rfl) (by decide) rfl ?_
  refine w_is (n := 109) (lv' := [(6, vi (0 : Int32)), (4, vl ((31 * v4) + r0.1.toInt64)), (0, vr 9 0), (3, vr 6 v3)]) hM (dtab_at okX9_digestOfRun 56 rfl) (by decide) rfl rfl ?_
  refine WW.lvs [3, 1, 0] (lv2 := [(3, vr 6 v3), (4, vl ((31 * v4) + r0.1.toInt64)), (6, vi (0 : Int32))]) rfl ?_
  exact wLX9_digestOfRun_109 hM nF r nF r1 v3 ((31 * v4) + r0.1.toInt64) (0 : Int32) hf
def LX9_digestOfRun_41 (nF : Nat) : Nat → PS → Nat → Int64 → Int32 → Option (Int64 × PS)
  | 0, _, _, _, _ => none
  | n + 1, S, v3, v4, v6 => (if (S.1 v3 11) ≤ v6 then (BX9_digestOfRun_73 nF S v3 v4) else (if v6 < 0 ∨ 60 ≤ v6.toNatClampNeg then none else (LX9_digestOfRun_41 nF n S v3 ((31 * v4) + (S.2 (v3 + 36) v6.toNatClampNeg).toInt64) (v6 + (1 : Int32)))))
set_option maxHeartbeats 4000000 in
set_option maxRecDepth 100000 in
theorem wLX9_digestOfRun_41 {cy : ClassId × ClassId} {ad : Nat → Nat} {D : va_G} {p : Program} {l : Launch} {e : Env} {s : State} {m : MethodId} {args : Array Value} {below : List Frame} {meth : Method} {c : Code} {A : Nat → Prop} (hM : MX cy GC ad D p s m args meth c cX9_digestOfRun 8 RX9 (some .long) A) (nF : Nat) (r : Int64 × PS) : ∀ (n : Nat) (S : PS) (v3 : Nat) (v4 : Int64) (v6 : Int32), LX9_digestOfRun_41 nF n S v3 v4 v6 = some r → WW cy GC ad D p l e rmX9_digestOfRun s m args below meth c 8 A (pol (fun x S' => (x, S') = r)) 41 [(0, vr 9 0), (3, vr 6 v3), (4, vl v4), (6, vi v6)] [] S := by
  intro n
  induction n with
  | zero => intro S v3 v4 v6 hf; rw [LX9_digestOfRun_41] at hf; cases hf
  | succ n ih =>
    intro S v3 v4 v6 hf
    rw [LX9_digestOfRun_41] at hf
    refine w_il (q := 3) (n := 43) hM (dtab_at okX9_digestOfRun 22 rfl) rfl rfl ?_
    refine w_aln (q := 1) (n := 44) hM (dtab_at okX9_digestOfRun 23 rfl) rfl rfl ?_
    refine w_geti (C := RX6) (T := TX6) (i := 11) (n := 47) hM rfl (by decide) ly_X6 lkF_X9_137 (dtab_at okX9_digestOfRun 24 rfl) rfl ?_
    refine w_ic_ge (n := 73) (n2 := 50) hM (dtab_at okX9_digestOfRun 25 rfl) (by decide) rfl (fun (h47 : (S.1 v3 11) ≤ v6) => ?_) (fun (h47 : ¬ (S.1 v3 11) ≤ v6) => ?_)
    · skip
      rw [if_pos h47] at hf
      refine WW.lvs [0, 1, 2] (lv2 := [(0, vr 9 0), (3, vr 6 v3), (4, vl v4)]) rfl ?_
      exact wBX9_digestOfRun_73 hM nF r S v3 v4 hf
    · skip
      rw [if_neg h47] at hf
      refine w_ldc2 (n := 53) (v := 31) hM (dtab_at okX9_digestOfRun 26 rfl) lkD_X9_266 rfl ?_
      refine w_ll (q := 2) (n := 55) hM (dtab_at okX9_digestOfRun 27 rfl) rfl rfl ?_
      refine w_lmul (n := 56) hM (dtab_at okX9_digestOfRun 28 rfl) rfl ?_
      refine w_aln (q := 1) (n := 57) hM (dtab_at okX9_digestOfRun 29 rfl) rfl rfl ?_
      refine w_getr (C := RX6) (T := TX6) (i := 7) (k2 := 160) (q := (v3 + 36)) (n := 60) hM rfl (by decide) rfc_6_7 ly_X6 lkF_X9_143 (dtab_at okX9_digestOfRun 30 rfl) rfl ?_
      refine w_il (q := 3) (n := 62) hM (dtab_at okX9_digestOfRun 31 rfl) rfl rfl ?_
      by_cases hg62 : v6 < 0 ∨ 60 ≤ v6.toNatClampNeg
      · rw [if_pos hg62] at hf; cases hf
      rw [if_neg hg62] at hf
      refine w_ald (nn := 60) (n := 63) hM rfl hg62 (dtab_at okX9_digestOfRun 32 rfl) rfl ?_
      refine w_i2l (n := 64) hM (dtab_at okX9_digestOfRun 33 rfl) rfl ?_
      refine w_ladd (n := 65) hM (dtab_at okX9_digestOfRun 34 rfl) rfl ?_
      refine w_ls (n := 67) (lv' := [(4, vl ((31 * v4) + (S.2 (v3 + 36) v6.toNatClampNeg).toInt64)), (0, vr 9 0), (3, vr 6 v3), (6, vi v6)]) hM (dtab_at okX9_digestOfRun 35 rfl) (by decide) rfl rfl ?_
      refine w_iinc (q := 3) (n := 70) (v := (v6 + (1 : Int32))) (lv' := [(6, vi (v6 + (1 : Int32))), (4, vl ((31 * v4) + (S.2 (v3 + 36) v6.toNatClampNeg).toInt64)), (0, vr 9 0), (3, vr 6 v3)]) hM (dtab_at okX9_digestOfRun 36 rfl) rfl rfl (by decide) rfl rfl ?_
      refine w_goto (n := 41) hM (dtab_at okX9_digestOfRun 37 rfl) (by decide) ?_
      refine WW.lvs [2, 3, 1, 0] (lv2 := [(0, vr 9 0), (3, vr 6 v3), (4, vl ((31 * v4) + (S.2 (v3 + 36) v6.toNatClampNeg).toInt64)), (6, vi (v6 + (1 : Int32)))]) rfl ?_
      exact ih S v3 ((31 * v4) + (S.2 (v3 + 36) v6.toNatClampNeg).toInt64) (v6 + (1 : Int32)) hf
def BX9_digestOfRun_38 (nF : Nat) (S : PS) (v3 : Nat) (v4 : Int64) : Option (Int64 × PS) := (LX9_digestOfRun_41 nF nF S v3 v4 (0 : Int32))
set_option maxHeartbeats 4000000 in
set_option maxRecDepth 100000 in
theorem wBX9_digestOfRun_38 {cy : ClassId × ClassId} {ad : Nat → Nat} {D : va_G} {p : Program} {l : Launch} {e : Env} {s : State} {m : MethodId} {args : Array Value} {below : List Frame} {meth : Method} {c : Code} {A : Nat → Prop} (hM : MX cy GC ad D p s m args meth c cX9_digestOfRun 8 RX9 (some .long) A) (nF : Nat) (r : Int64 × PS) (S : PS) (v3 : Nat) (v4 : Int64) (hf : BX9_digestOfRun_38 nF S v3 v4 = some r) : WW cy GC ad D p l e rmX9_digestOfRun s m args below meth c 8 A (pol (fun x S' => (x, S') = r)) 38 [(0, vr 9 0), (3, vr 6 v3), (4, vl v4)] [] S := by
  rw [BX9_digestOfRun_38] at hf
  refine w_ic (n := 39) hM (0 : Int32) (dtab_at okX9_digestOfRun 20 rfl) (by decide) rfl ?_
  refine w_is (n := 41) (lv' := [(6, vi (0 : Int32)), (0, vr 9 0), (3, vr 6 v3), (4, vl v4)]) hM (dtab_at okX9_digestOfRun 21 rfl) (by decide) rfl rfl ?_
  refine WW.lvs [1, 2, 3, 0] (lv2 := [(0, vr 9 0), (3, vr 6 v3), (4, vl v4), (6, vi (0 : Int32))]) rfl ?_
  exact wLX9_digestOfRun_41 hM nF r nF S v3 v4 (0 : Int32) hf
def LX9_digestOfRun_10 (nF : Nat) : Nat → PS → Nat → Int64 → Int32 → Option (Int64 × PS)
  | 0, _, _, _, _ => none
  | n + 1, S, v3, v4, v6 => (if (3 : Int32) < v6 then (BX9_digestOfRun_38 nF S v3 v4) else ((fX6_fact nF S v3 v6).bind fun r0 => (LX9_digestOfRun_10 nF n S v3 ((31 * v4) + r0.toInt64) (v6 + (1 : Int32)))))
set_option maxHeartbeats 4000000 in
set_option maxRecDepth 100000 in
theorem wLX9_digestOfRun_10 {cy : ClassId × ClassId} {ad : Nat → Nat} {D : va_G} {p : Program} {l : Launch} {e : Env} {s : State} {m : MethodId} {args : Array Value} {below : List Frame} {meth : Method} {c : Code} {A : Nat → Prop} (hM : MX cy GC ad D p s m args meth c cX9_digestOfRun 8 RX9 (some .long) A) (nF : Nat) (r : Int64 × PS) : ∀ (n : Nat) (S : PS) (v3 : Nat) (v4 : Int64) (v6 : Int32), LX9_digestOfRun_10 nF n S v3 v4 v6 = some r → WW cy GC ad D p l e rmX9_digestOfRun s m args below meth c 8 A (pol (fun x S' => (x, S') = r)) 10 [(0, vr 9 0), (3, vr 6 v3), (4, vl v4), (6, vi v6)] [] S := by
  intro n
  induction n with
  | zero => intro S v3 v4 v6 hf; rw [LX9_digestOfRun_10] at hf; cases hf
  | succ n ih =>
    intro S v3 v4 v6 hf
    rw [LX9_digestOfRun_10] at hf
    refine w_il (q := 3) (n := 12) hM (dtab_at okX9_digestOfRun 6 rfl) rfl rfl ?_
    refine w_ic (n := 13) hM (3 : Int32) (dtab_at okX9_digestOfRun 7 rfl) (by decide) rfl ?_
    refine w_ic_gt (n := 38) (n2 := 16) hM (dtab_at okX9_digestOfRun 8 rfl) (by decide) rfl (fun (h13 : (3 : Int32) < v6) => ?_) (fun (h13 : ¬ (3 : Int32) < v6) => ?_)
    · skip
      rw [if_pos h13] at hf
      refine WW.lvs [0, 1, 2] (lv2 := [(0, vr 9 0), (3, vr 6 v3), (4, vl v4)]) rfl ?_
      exact wBX9_digestOfRun_38 hM nF r S v3 v4 hf
    · skip
      rw [if_neg h13] at hf
      refine w_ldc2 (n := 19) (v := 31) hM (dtab_at okX9_digestOfRun 9 rfl) lkD_X9_266 rfl ?_
      refine w_ll (q := 2) (n := 21) hM (dtab_at okX9_digestOfRun 10 rfl) rfl rfl ?_
      refine w_lmul (n := 22) hM (dtab_at okX9_digestOfRun 11 rfl) rfl ?_
      refine w_aln (q := 1) (n := 23) hM (dtab_at okX9_digestOfRun 12 rfl) rfl rfl ?_
      refine w_il (q := 3) (n := 25) hM (dtab_at okX9_digestOfRun 13 rfl) rfl rfl ?_
      obtain ⟨r0, hr0, hf⟩ := Option.bind_eq_some_iff.mp hf
      refine w_callVi (n := 28) (As := [vi v6]) (rest := [vl (31 * v4)]) (k := 6) (j := v3) (C := RX6) (T := TX6) (N := 12) hM (c_X6_fact nF S v3 v6 r0 hr0) lkM_X9_128 mv_X6_fact (by decide) rfl (by decide) rfl (Nat.le_of_ble_eq_true rfl) rfl (dtab_at okX9_digestOfRun 14 rfl) rfl (fun x0 S0 hp0 => ?_)
      obtain ⟨hx_, hs_⟩ := hp0
      have hs_ := hs_.symm
      have hx_ := hx_.symm
      subst hs_
      subst hx_
      refine w_i2l (n := 29) hM (dtab_at okX9_digestOfRun 15 rfl) rfl ?_
      refine w_ladd (n := 30) hM (dtab_at okX9_digestOfRun 16 rfl) rfl ?_
      refine w_ls (n := 32) (lv' := [(4, vl ((31 * v4) + r0.toInt64)), (0, vr 9 0), (3, vr 6 v3), (6, vi v6)]) hM (dtab_at okX9_digestOfRun 17 rfl) (by decide) rfl rfl ?_
      refine w_iinc (q := 3) (n := 35) (v := (v6 + (1 : Int32))) (lv' := [(6, vi (v6 + (1 : Int32))), (4, vl ((31 * v4) + r0.toInt64)), (0, vr 9 0), (3, vr 6 v3)]) hM (dtab_at okX9_digestOfRun 18 rfl) rfl rfl (by decide) rfl rfl ?_
      refine w_goto (n := 10) hM (dtab_at okX9_digestOfRun 19 rfl) (by decide) ?_
      refine WW.lvs [2, 3, 1, 0] (lv2 := [(0, vr 9 0), (3, vr 6 v3), (4, vl ((31 * v4) + r0.toInt64)), (6, vi (v6 + (1 : Int32)))]) rfl ?_
      exact ih S v3 ((31 * v4) + r0.toInt64) (v6 + (1 : Int32)) hf
def fX9_digestOfRun (nF : Nat) (S : PS) (a1 : Int64) (q2 : Nat) : Option (Int64 × PS) := ((fX6_feel nF S q2).bind fun r0 => (LX9_digestOfRun_10 nF nF r0 q2 a1 (0 : Int32)))
set_option maxHeartbeats 4000000 in
set_option maxRecDepth 100000 in
theorem c_X9_digestOfRun {cy : ClassId × ClassId} {ad : Nat → Nat} {D : va_G} {l : Launch} (nF : Nat) (S : PS) (a1 : Int64) (q2 : Nat) (r : Int64 × PS) (hf : fX9_digestOfRun nF S a1 q2 = some r) : PMl cy GC ad D l yX9_digestOfRun (wA yX9_digestOfRun cX9_digestOfRun 8 (some .long)) rmX9_digestOfRun [vr 9 0, vl a1, vr 6 q2] S (fun x S' => (x, S') = r) := by
  refine PM.of (lv := [(0, vr 9 0), (1, vl a1), (3, vr 6 q2)]) GC_ok (by decide) (Nat.le_of_ble_eq_true rfl) rfl (by simp) ?_
  intro p e s m args below meth c A hM
  rw [fX9_digestOfRun] at hf
  refine w_lln (q := 1) (n := 1) hM (dtab_at okX9_digestOfRun 0 rfl) rfl rfl ?_
  refine w_ls (n := 3) (lv' := [(4, vl a1), (0, vr 9 0), (1, vl a1), (3, vr 6 q2)]) hM (dtab_at okX9_digestOfRun 1 rfl) (by decide) rfl rfl ?_
  refine w_aln (q := 3) (n := 4) hM (dtab_at okX9_digestOfRun 2 rfl) rfl rfl ?_
  obtain ⟨r0, hr0, hf⟩ := Option.bind_eq_some_iff.mp hf
  refine w_callVv (n := 7) (As := []) (rest := []) (k := 6) (j := q2) (C := RX6) (T := TX6) (N := 12) hM (c_X6_feel nF S q2 r0 hr0) lkM_X9_125 mv_X6_feel (by decide) rfl (by decide) rfl (Nat.le_of_ble_eq_true rfl) rfl (dtab_at okX9_digestOfRun 3 rfl) rfl (fun S0 hp0 => ?_)
  have hs_ := hp0.symm
  subst hs_
  refine w_ic (n := 8) hM (0 : Int32) (dtab_at okX9_digestOfRun 4 rfl) (by decide) rfl ?_
  refine w_is (n := 10) (lv' := [(6, vi (0 : Int32)), (4, vl a1), (0, vr 9 0), (1, vl a1), (3, vr 6 q2)]) hM (dtab_at okX9_digestOfRun 5 rfl) (by decide) rfl rfl ?_
  refine WW.lvs [2, 4, 1, 0] (lv2 := [(0, vr 9 0), (3, vr 6 q2), (4, vl a1), (6, vi (0 : Int32))]) rfl ?_
  exact wLX9_digestOfRun_10 hM nF r nF r0 q2 a1 (0 : Int32) hf
def BX9_digest_30 (nF : Nat) (S : PS) (v1 : Int64) : Option (Int64 × PS) := ((fX9_digestOfRun nF S v1 1).bind fun r0 => ((fX9_digestOfRun nF r0.2 r0.1 2).bind fun r1 => (some (r1.1, r1.2))))
set_option maxHeartbeats 4000000 in
set_option maxRecDepth 100000 in
theorem wBX9_digest_30 {cy : ClassId × ClassId} {ad : Nat → Nat} {D : va_G} {p : Program} {l : Launch} {e : Env} {s : State} {m : MethodId} {args : Array Value} {below : List Frame} {meth : Method} {c : Code} {A : Nat → Prop} (hM : MX cy GC ad D p s m args meth c cX9_digest 4 RX9 (some .long) A) (nF : Nat) (r : Int64 × PS) (S : PS) (v1 : Int64) (hf : BX9_digest_30 nF S v1 = some r) : WW cy GC ad D p l e rmX9_digest s m args below meth c 4 A (pol (fun x S' => (x, S') = r)) 30 [(0, vr 9 0), (1, vl v1)] [] S := by
  rw [BX9_digest_30] at hf
  refine w_aln (q := 0) (n := 31) hM (dtab_at okX9_digest 18 rfl) rfl rfl ?_
  refine w_lln (q := 1) (n := 32) hM (dtab_at okX9_digest 19 rfl) rfl rfl ?_
  refine w_aln (q := 0) (n := 33) hM (dtab_at okX9_digest 20 rfl) rfl rfl ?_
  refine w_getr (C := RX9) (T := TX9) (i := 0) (k2 := 6) (q := 1) (n := 36) hM rfl (by decide) (fun _ => rfl) ly_X9 lkF_X9_10 (dtab_at okX9_digest 21 rfl) rfl ?_
  obtain ⟨r0, hr0, hf⟩ := Option.bind_eq_some_iff.mp hf
  refine w_callVl (n := 39) (As := [vl v1, vr 6 1]) (rest := []) (k := 9) (j := 0) (C := RX9) (T := TX9) (N := 10) hM (c_X9_digestOfRun nF S v1 1 r0 hr0) lkM_X9_271 mv_X9_digestOfRun (by decide) rfl (by decide) rfl (Nat.le_of_ble_eq_true rfl) rfl (dtab_at okX9_digest 22 rfl) rfl (fun x0 S0 hp0 => ?_)
  have hx_ := congrArg Prod.fst hp0
  have hs_ := congrArg Prod.snd hp0
  dsimp only at hx_ hs_
  subst hx_
  subst hs_
  refine w_lsn (n := 40) (lv' := [(1, vl r0.1), (0, vr 9 0)]) hM (dtab_at okX9_digest 23 rfl) (by decide) rfl rfl ?_
  refine w_aln (q := 1) (n := 41) hM (dtab_at okX9_digest 24 rfl) rfl rfl ?_
  refine w_lln (q := 0) (n := 42) hM (dtab_at okX9_digest 25 rfl) rfl rfl ?_
  refine w_aln (q := 1) (n := 43) hM (dtab_at okX9_digest 26 rfl) rfl rfl ?_
  refine w_getr (C := RX9) (T := TX9) (i := 1) (k2 := 6) (q := 2) (n := 46) hM rfl (by decide) (fun _ => rfl) ly_X9 lkF_X9_16 (dtab_at okX9_digest 27 rfl) rfl ?_
  obtain ⟨r1, hr1, hf⟩ := Option.bind_eq_some_iff.mp hf
  refine w_callVl (n := 49) (As := [vl r0.1, vr 6 2]) (rest := []) (k := 9) (j := 0) (C := RX9) (T := TX9) (N := 10) hM (c_X9_digestOfRun nF r0.2 r0.1 2 r1 hr1) lkM_X9_271 mv_X9_digestOfRun (by decide) rfl (by decide) rfl (Nat.le_of_ble_eq_true rfl) rfl (dtab_at okX9_digest 28 rfl) rfl (fun x1 S1 hp1 => ?_)
  have hx_ := congrArg Prod.fst hp1
  have hs_ := congrArg Prod.snd hp1
  dsimp only at hx_ hs_
  subst hx_
  subst hs_
  exact r_l hM (dtab_at okX9_digest 29 rfl) (Option.some.inj hf)
def LX9_digest_6 (nF : Nat) : Nat → PS → Int64 → Int32 → Option (Int64 × PS)
  | 0, _, _, _ => none
  | n + 1, S, v1, v3 => (if (5 : Int32) < v3 then (BX9_digest_30 nF S v1) else (LX9_digest_6 nF n S ((31 * v1) + (fX9_count S v3).toInt64) (v3 + (1 : Int32))))
set_option maxHeartbeats 4000000 in
set_option maxRecDepth 100000 in
theorem wLX9_digest_6 {cy : ClassId × ClassId} {ad : Nat → Nat} {D : va_G} {p : Program} {l : Launch} {e : Env} {s : State} {m : MethodId} {args : Array Value} {below : List Frame} {meth : Method} {c : Code} {A : Nat → Prop} (hM : MX cy GC ad D p s m args meth c cX9_digest 4 RX9 (some .long) A) (nF : Nat) (r : Int64 × PS) : ∀ (n : Nat) (S : PS) (v1 : Int64) (v3 : Int32), LX9_digest_6 nF n S v1 v3 = some r → WW cy GC ad D p l e rmX9_digest s m args below meth c 4 A (pol (fun x S' => (x, S') = r)) 6 [(0, vr 9 0), (1, vl v1), (3, vi v3)] [] S := by
  intro n
  induction n with
  | zero => intro S v1 v3 hf; rw [LX9_digest_6] at hf; cases hf
  | succ n ih =>
    intro S v1 v3 hf
    rw [LX9_digest_6] at hf
    refine w_iln (q := 2) (n := 7) hM (dtab_at okX9_digest 4 rfl) rfl rfl ?_
    refine w_ic (n := 8) hM (5 : Int32) (dtab_at okX9_digest 5 rfl) (by decide) rfl ?_
    refine w_ic_gt (n := 30) (n2 := 11) hM (dtab_at okX9_digest 6 rfl) (by decide) rfl (fun (h8 : (5 : Int32) < v3) => ?_) (fun (h8 : ¬ (5 : Int32) < v3) => ?_)
    · skip
      rw [if_pos h8] at hf
      refine WW.lvs [0, 1] (lv2 := [(0, vr 9 0), (1, vl v1)]) rfl ?_
      exact wBX9_digest_30 hM nF r S v1 hf
    · skip
      rw [if_neg h8] at hf
      refine w_ldc2 (n := 14) (v := 31) hM (dtab_at okX9_digest 7 rfl) lkD_X9_266 rfl ?_
      refine w_lln (q := 1) (n := 15) hM (dtab_at okX9_digest 8 rfl) rfl rfl ?_
      refine w_lmul (n := 16) hM (dtab_at okX9_digest 9 rfl) rfl ?_
      refine w_aln (q := 0) (n := 17) hM (dtab_at okX9_digest 10 rfl) rfl rfl ?_
      refine w_iln (q := 2) (n := 18) hM (dtab_at okX9_digest 11 rfl) rfl rfl ?_
      refine w_callVi (n := 21) (As := [vi v3]) (rest := [vl (31 * v1)]) (k := 9) (j := 0) (C := RX9) (T := TX9) (N := 10) hM (c_X9_count S v3) lkM_X9_268 mv_X9_count (by decide) rfl (by decide) rfl (Nat.le_of_ble_eq_true rfl) rfl (dtab_at okX9_digest 12 rfl) rfl (fun x0 S0 hp0 => ?_)
      obtain ⟨hx_, hs_⟩ := hp0
      have hs_ := hs_.symm
      subst hs_
      subst hx_
      refine w_i2l (n := 22) hM (dtab_at okX9_digest 13 rfl) rfl ?_
      refine w_ladd (n := 23) hM (dtab_at okX9_digest 14 rfl) rfl ?_
      refine w_lsn (n := 24) (lv' := [(1, vl ((31 * v1) + (fX9_count S v3).toInt64)), (0, vr 9 0), (3, vi v3)]) hM (dtab_at okX9_digest 15 rfl) (by decide) rfl rfl ?_
      refine w_iinc (q := 2) (n := 27) (v := (v3 + (1 : Int32))) (lv' := [(3, vi (v3 + (1 : Int32))), (1, vl ((31 * v1) + (fX9_count S v3).toInt64)), (0, vr 9 0)]) hM (dtab_at okX9_digest 16 rfl) rfl rfl (by decide) rfl rfl ?_
      refine w_goto (n := 6) hM (dtab_at okX9_digest 17 rfl) (by decide) ?_
      refine WW.lvs [2, 1, 0] (lv2 := [(0, vr 9 0), (1, vl ((31 * v1) + (fX9_count S v3).toInt64)), (3, vi (v3 + (1 : Int32)))]) rfl ?_
      exact ih S ((31 * v1) + (fX9_count S v3).toInt64) (v3 + (1 : Int32)) hf
def fX9_digest (nF : Nat) (S : PS) : Option (Int64 × PS) := (LX9_digest_6 nF nF S 17 (0 : Int32))
set_option maxHeartbeats 4000000 in
set_option maxRecDepth 100000 in
theorem c_X9_digest {cy : ClassId × ClassId} {ad : Nat → Nat} {D : va_G} {l : Launch} (nF : Nat) (S : PS) (r : Int64 × PS) (hf : fX9_digest nF S = some r) : PMl cy GC ad D l yX9_digest (wA yX9_digest cX9_digest 4 (some .long)) rmX9_digest [vr 9 0] S (fun x S' => (x, S') = r) := by
  refine PM.of (lv := [(0, vr 9 0)]) GC_ok (by decide) (Nat.le_of_ble_eq_true rfl) rfl (by simp) ?_
  intro p e s m args below meth c A hM
  rw [fX9_digest] at hf
  refine w_ldc2 (n := 3) (v := 17) hM (dtab_at okX9_digest 0 rfl) lkD_X9_264 rfl ?_
  refine w_lsn (n := 4) (lv' := [(1, vl 17), (0, vr 9 0)]) hM (dtab_at okX9_digest 1 rfl) (by decide) rfl rfl ?_
  refine w_ic (n := 5) hM (0 : Int32) (dtab_at okX9_digest 2 rfl) (by decide) rfl ?_
  refine w_isn (n := 6) (lv' := [(3, vi (0 : Int32)), (1, vl 17), (0, vr 9 0)]) hM (dtab_at okX9_digest 3 rfl) (by decide) rfl rfl ?_
  refine WW.lvs [2, 1, 0] (lv2 := [(0, vr 9 0), (1, vl 17), (3, vi (0 : Int32))]) rfl ?_
  exact wLX9_digest_6 hM nF r nF S 17 (0 : Int32) hf
def fX10_in (S : PS) (a1 : Int32) (a2 : Int32) (a3 : Int32) : Int32 := if a1 < a2 then (0 : Int32) else (if a3 < a1 then (0 : Int32) else (1 : Int32))
set_option maxHeartbeats 4000000 in
set_option maxRecDepth 100000 in
theorem c_X10_in {cy : ClassId × ClassId} {ad : Nat → Nat} {D : va_G} {l : Launch} (S : PS) (a1 : Int32) (a2 : Int32) (a3 : Int32)  : PMi cy GM ad D l yX10_in (wA yX10_in cX10_in 3 (some .boolean)) rmX10_in [vi a1, vi a2, vi a3] S (fun x S' => x = (fX10_in S a1 a2 a3) ∧ S' = S) := by
  refine PM.of (lv := [(0, vi a1), (1, vi a2), (2, vi a3)]) GM_ok (by decide) (Nat.le_of_ble_eq_true rfl) rfl (by simp) ?_
  intro p e s m args below meth c A hM
  refine w_iln (q := 0) (n := 1) hM (dtab_at okX10_in 0 rfl) rfl rfl ?_
  refine w_iln (q := 1) (n := 2) hM (dtab_at okX10_in 1 rfl) rfl rfl ?_
  refine w_ic_lt (n := 14) (n2 := 5) hM (dtab_at okX10_in 2 rfl) (by decide) rfl (fun (h2 : a1 < a2) => ?_) (fun (h2 : ¬ a1 < a2) => ?_)
  · skip
    refine w_ic (n := 15) hM (0 : Int32) (dtab_at okX10_in 8 rfl) (by decide) rfl ?_
    exact r_z hM (by decide) (dtab_at okX10_in 9 rfl) ⟨by rw [fX10_in, if_pos h2], rfl⟩
  · skip
    refine w_iln (q := 0) (n := 6) hM (dtab_at okX10_in 3 rfl) rfl rfl ?_
    refine w_iln (q := 2) (n := 7) hM (dtab_at okX10_in 4 rfl) rfl rfl ?_
    refine w_ic_gt (n := 14) (n2 := 10) hM (dtab_at okX10_in 5 rfl) (by decide) rfl (fun (h7 : a3 < a1) => ?_) (fun (h7 : ¬ a3 < a1) => ?_)
    · skip
      refine w_ic (n := 15) hM (0 : Int32) (dtab_at okX10_in 8 rfl) (by decide) rfl ?_
      exact r_z hM (by decide) (dtab_at okX10_in 9 rfl) ⟨by rw [fX10_in, if_neg h2, if_pos h7], rfl⟩
    · skip
      refine w_ic (n := 11) hM (1 : Int32) (dtab_at okX10_in 6 rfl) (by decide) rfl ?_
      refine w_goto (n := 15) hM (dtab_at okX10_in 7 rfl) (by decide) ?_
      exact r_z hM (by decide) (dtab_at okX10_in 9 rfl) ⟨by rw [fX10_in, if_neg h2, if_neg h7], rfl⟩
theorem fX10_in_01 (S : PS) (a b z : Int32) : fX10_in S a b z = 0 ∨ fX10_in S a b z = 1 := by
  unfold fX10_in
  split
  · exact Or.inl rfl
  · split
    · exact Or.inl rfl
    · exact Or.inr rfl
def fX10_meets (S : PS) (a1 : Int32) : Int32 × PS := (((-10 : Int32) - a1), (sti S 0 5 a1))
set_option maxHeartbeats 4000000 in
set_option maxRecDepth 100000 in
theorem c_X10_meets {cy : ClassId × ClassId} {ad : Nat → Nat} {D : va_G} {l : Launch} (S : PS) (a1 : Int32)  : PMi cy GM ad D l yX10_meets (wA yX10_meets cX10_meets 2 (some .int)) rmX10_meets [vr 10 0, vi a1] S (fun x S' => (x, S') = (fX10_meets S a1)) := by
  refine PM.of (lv := [(0, vr 10 0), (1, vi a1)]) GM_ok (by decide) (Nat.le_of_ble_eq_true rfl) rfl (by simp) ?_
  intro p e s m args below meth c A hM
  refine w_aln (q := 0) (n := 1) hM (dtab_at okX10_meets 0 rfl) rfl rfl ?_
  refine w_iln (q := 1) (n := 2) hM (dtab_at okX10_meets 1 rfl) rfl rfl ?_
  refine w_put (C := RX10) (T := TX10) (i := 5) (ty := .int) (n := 5) hM rfl (by decide) ly_X10 tyX10_ok nmX10 lkF_X10_117 rfl (by decide +kernel) rfl rfl (dtab_at okX10_meets 2 rfl) rfl ?_
  refine w_bi (n := 7) hM (-10 : Int32) (dtab_at okX10_meets 3 rfl) (by decide) rfl ?_
  refine w_iln (q := 1) (n := 8) hM (dtab_at okX10_meets 4 rfl) rfl rfl ?_
  refine w_isub (n := 9) hM (dtab_at okX10_meets 5 rfl) rfl ?_
  exact r_i hM (dtab_at okX10_meets 6 rfl) (by rw [fX10_meets])
def fX10_isReel (S : PS) (a1 : Int32) : Int32 := (fX10_in S a1 (0 : Int32) (7 : Int32))
set_option maxHeartbeats 4000000 in
set_option maxRecDepth 100000 in
theorem c_X10_isReel {cy : ClassId × ClassId} {ad : Nat → Nat} {D : va_G} {l : Launch} (S : PS) (a1 : Int32)  : PMi cy GM ad D l yX10_isReel (wA yX10_isReel cX10_isReel 1 (some .boolean)) rmX10_isReel [vi a1] S (fun x S' => x = (fX10_isReel S a1) ∧ S' = S) := by
  refine PM.of (lv := [(0, vi a1)]) GM_ok (by decide) (Nat.le_of_ble_eq_true rfl) rfl (by simp) ?_
  intro p e s m args below meth c A hM
  refine w_iln (q := 0) (n := 1) hM (dtab_at okX10_isReel 0 rfl) rfl rfl ?_
  refine w_ic (n := 2) hM (0 : Int32) (dtab_at okX10_isReel 1 rfl) (by decide) rfl ?_
  refine w_bi (n := 4) hM (7 : Int32) (dtab_at okX10_isReel 2 rfl) (by decide) rfl ?_
  refine w_callSi (n := 7) (As := [vi a1, vi (0 : Int32), vi (7 : Int32)]) (rest := []) hM (c_X10_in S a1 (0 : Int32) (7 : Int32)) lkM_X10_120 ms_X10_in (by decide) rfl (Nat.le_of_ble_eq_true rfl) rfl (dtab_at okX10_isReel 3 rfl) rfl (fun x0 S0 hp0 => ?_)
  obtain ⟨hx_, hs_⟩ := hp0
  have hs_ := hs_.symm
  subst hs_
  subst hx_
  exact r_z hM (nar_bi (fX10_in_01 _ _ _ _)) (dtab_at okX10_isReel 4 rfl) ⟨by rw [fX10_isReel], rfl⟩
def LX10_reel_60 (nF : Nat) : Nat → PS → Int32 → Int32 → Int32 → Option (Int32 × PS)
  | 0, _, _, _, _ => none
  | n + 1, S, v1, v3, v4 => (if (150 : Int32) ≤ v4 then (some (v3, S)) else (if (((150 : Int32) * v1) + v4) < 0 ∨ 1200 ≤ (((150 : Int32) * v1) + v4).toNatClampNeg then none else (LX10_reel_60 nF n (sta S 4 (((150 : Int32) * v1) + v4).toNatClampNeg (0 : Int32)) v1 v3 (v4 + (1 : Int32)))))
set_option maxHeartbeats 4000000 in
set_option maxRecDepth 100000 in
theorem wLX10_reel_60 {cy : ClassId × ClassId} {ad : Nat → Nat} {D : va_G} {p : Program} {l : Launch} {e : Env} {s : State} {m : MethodId} {args : Array Value} {below : List Frame} {meth : Method} {c : Code} {A : Nat → Prop} (hM : MX cy GM ad D p s m args meth c cX10_reel 5 RX10 (some .int) A) (nF : Nat) (r : Int32 × PS) : ∀ (n : Nat) (S : PS) (v1 : Int32) (v3 : Int32) (v4 : Int32), LX10_reel_60 nF n S v1 v3 v4 = some r → WW cy GM ad D p l e rmX10_reel s m args below meth c 5 A (poi (fun x S' => (x, S') = r)) 60 [(0, vr 10 0), (1, vi v1), (3, vi v3), (4, vi v4)] [] S := by
  intro n
  induction n with
  | zero => intro S v1 v3 v4 hf; rw [LX10_reel_60] at hf; cases hf
  | succ n ih =>
    intro S v1 v3 v4 hf
    rw [LX10_reel_60] at hf
    refine w_il (q := 3) (n := 62) hM (dtab_at okX10_reel 36 rfl) rfl rfl ?_
    refine w_si (n := 65) hM (150 : Int32) (dtab_at okX10_reel 37 rfl) (by decide) rfl ?_
    refine w_ic_ge (n := 88) (n2 := 68) hM (dtab_at okX10_reel 38 rfl) (by decide) rfl (fun (h65 : (150 : Int32) ≤ v4) => ?_) (fun (h65 : ¬ (150 : Int32) ≤ v4) => ?_)
    · skip
      rw [if_pos h65] at hf
      refine w_iln (q := 2) (n := 89) hM (dtab_at okX10_reel 50 rfl) rfl rfl ?_
      exact r_i hM (dtab_at okX10_reel 51 rfl) (Option.some.inj hf)
    · skip
      rw [if_neg h65] at hf
      refine w_aln (q := 0) (n := 69) hM (dtab_at okX10_reel 39 rfl) rfl rfl ?_
      refine w_getr (C := RX10) (T := TX10) (i := 3) (k2 := 1300) (q := 4) (n := 72) hM rfl (by decide) (fun _ => rfl) ly_X10 lkF_X10_20 (dtab_at okX10_reel 40 rfl) rfl ?_
      refine w_si (n := 75) hM (150 : Int32) (dtab_at okX10_reel 41 rfl) (by decide) rfl ?_
      refine w_iln (q := 1) (n := 76) hM (dtab_at okX10_reel 42 rfl) rfl rfl ?_
      refine w_imul (n := 77) hM (dtab_at okX10_reel 43 rfl) rfl ?_
      refine w_il (q := 3) (n := 79) hM (dtab_at okX10_reel 44 rfl) rfl rfl ?_
      refine w_iadd (n := 80) hM (dtab_at okX10_reel 45 rfl) rfl ?_
      refine w_ic (n := 81) hM (0 : Int32) (dtab_at okX10_reel 46 rfl) (by decide) rfl ?_
      by_cases hg81 : (((150 : Int32) * v1) + v4) < 0 ∨ 1200 ≤ (((150 : Int32) * v1) + v4).toNatClampNeg
      · rw [if_pos hg81] at hf; cases hf
      rw [if_neg hg81] at hf
      refine w_ast (nn := 1200) (n := 82) hM rfl hg81 (dtab_at okX10_reel 47 rfl) rfl ?_
      refine w_iinc (q := 3) (n := 85) (v := (v4 + (1 : Int32))) (lv' := [(4, vi (v4 + (1 : Int32))), (0, vr 10 0), (1, vi v1), (3, vi v3)]) hM (dtab_at okX10_reel 48 rfl) rfl rfl (by decide) rfl rfl ?_
      refine w_goto (n := 60) hM (dtab_at okX10_reel 49 rfl) (by decide) ?_
      refine WW.lvs [1, 2, 3, 0] (lv2 := [(0, vr 10 0), (1, vi v1), (3, vi v3), (4, vi (v4 + (1 : Int32)))]) rfl ?_
      exact ih (sta S 4 (((150 : Int32) * v1) + v4).toNatClampNeg (0 : Int32)) v1 v3 (v4 + (1 : Int32)) hf
def fX10_reel (nF : Nat) (S : PS) (a1 : Int32) (a2 : Int32) (a3 : Int32) : Option (Int32 × PS) := (if (fX10_isReel S a1) = (0 : Int32) then (some ((-2 : Int32), S)) else (if (fX10_in S a2 (0 : Int32) (2 : Int32)) = (0 : Int32) then (some ((-2 : Int32), S)) else (if a3 ≤ (150 : Int32) then (if (0 : Int32) ≤ a3 then (if a1 < 0 ∨ 8 ≤ a1.toNatClampNeg then none else (LX10_reel_60 nF nF (sta (sta (sta S 1 a1.toNatClampNeg (vp_nar .boolean (1 : Int32))) 2 a1.toNatClampNeg a2) 3 a1.toNatClampNeg a3) a1 a3 (0 : Int32))) else (some ((fX10_meets S (5 : Int32)).1, (fX10_meets S (5 : Int32)).2))) else (some ((-2 : Int32), S)))))
set_option maxHeartbeats 4000000 in
set_option maxRecDepth 100000 in
theorem c_X10_reel {cy : ClassId × ClassId} {ad : Nat → Nat} {D : va_G} {l : Launch} (nF : Nat) (S : PS) (a1 : Int32) (a2 : Int32) (a3 : Int32) (r : Int32 × PS) (hf : fX10_reel nF S a1 a2 a3 = some r) : PMi cy GM ad D l yX10_reel (wA yX10_reel cX10_reel 5 (some .int)) rmX10_reel [vr 10 0, vi a1, vi a2, vi a3] S (fun x S' => (x, S') = r) := by
  refine PM.of (lv := [(0, vr 10 0), (1, vi a1), (2, vi a2), (3, vi a3)]) GM_ok (by decide) (Nat.le_of_ble_eq_true rfl) rfl (by simp) ?_
  intro p e s m args below meth c A hM
  rw [fX10_reel] at hf
  refine w_iln (q := 1) (n := 1) hM (dtab_at okX10_reel 0 rfl) rfl rfl ?_
  refine w_callSi (n := 4) (As := [vi a1]) (rest := []) hM (c_X10_isReel S a1) lkM_X10_124 ms_X10_isReel (by decide) rfl (Nat.le_of_ble_eq_true rfl) rfl (dtab_at okX10_reel 1 rfl) rfl (fun x0 S0 hp0 => ?_)
  obtain ⟨hx_, hs_⟩ := hp0
  have hs_ := hs_.symm
  subst hs_
  subst hx_
  refine w_if_eq (n := 23) (n2 := 7) hM (dtab_at okX10_reel 2 rfl) (by decide) rfl (fun (h4 : (fX10_isReel S a1) = (0 : Int32)) => ?_) (fun (h4 : ¬ (fX10_isReel S a1) = (0 : Int32)) => ?_)
  · skip
    rw [if_pos h4] at hf
    refine w_bi (n := 25) hM (-2 : Int32) (dtab_at okX10_reel 11 rfl) (by decide) rfl ?_
    exact r_i hM (dtab_at okX10_reel 12 rfl) (Option.some.inj hf)
  · skip
    rw [if_neg h4] at hf
    refine w_iln (q := 2) (n := 8) hM (dtab_at okX10_reel 3 rfl) rfl rfl ?_
    refine w_ic (n := 9) hM (0 : Int32) (dtab_at okX10_reel 4 rfl) (by decide) rfl ?_
    refine w_ic (n := 10) hM (2 : Int32) (dtab_at okX10_reel 5 rfl) (by decide) rfl ?_
    refine w_callSi (n := 13) (As := [vi a2, vi (0 : Int32), vi (2 : Int32)]) (rest := []) hM (c_X10_in S a2 (0 : Int32) (2 : Int32)) lkM_X10_120 ms_X10_in (by decide) rfl (Nat.le_of_ble_eq_true rfl) rfl (dtab_at okX10_reel 6 rfl) rfl (fun x1 S1 hp1 => ?_)
    obtain ⟨hx_, hs_⟩ := hp1
    have hs_ := hs_.symm
    subst hs_
    subst hx_
    refine w_if_eq (n := 23) (n2 := 16) hM (dtab_at okX10_reel 7 rfl) (by decide) rfl (fun (h13 : (fX10_in S a2 (0 : Int32) (2 : Int32)) = (0 : Int32)) => ?_) (fun (h13 : ¬ (fX10_in S a2 (0 : Int32) (2 : Int32)) = (0 : Int32)) => ?_)
    · skip
      rw [if_pos h13] at hf
      refine w_bi (n := 25) hM (-2 : Int32) (dtab_at okX10_reel 11 rfl) (by decide) rfl ?_
      exact r_i hM (dtab_at okX10_reel 12 rfl) (Option.some.inj hf)
    · skip
      rw [if_neg h13] at hf
      refine w_iln (q := 3) (n := 17) hM (dtab_at okX10_reel 8 rfl) rfl rfl ?_
      refine w_si (n := 20) hM (150 : Int32) (dtab_at okX10_reel 9 rfl) (by decide) rfl ?_
      refine w_ic_le (n := 26) (n2 := 23) hM (dtab_at okX10_reel 10 rfl) (by decide) rfl (fun (h20 : a3 ≤ (150 : Int32)) => ?_) (fun (h20 : ¬ a3 ≤ (150 : Int32)) => ?_)
      · skip
        rw [if_pos h20] at hf
        refine w_iln (q := 3) (n := 27) hM (dtab_at okX10_reel 13 rfl) rfl rfl ?_
        refine w_if_ge (n := 36) (n2 := 30) hM (dtab_at okX10_reel 14 rfl) (by decide) rfl (fun (h27 : (0 : Int32) ≤ a3) => ?_) (fun (h27 : ¬ (0 : Int32) ≤ a3) => ?_)
        · skip
          rw [if_pos h27] at hf
          refine w_aln (q := 0) (n := 37) hM (dtab_at okX10_reel 19 rfl) rfl rfl ?_
          refine w_getr (C := RX10) (T := TX10) (i := 0) (k2 := 28) (q := 1) (n := 40) hM rfl (by decide) (fun _ => rfl) ly_X10 lkF_X10_7 (dtab_at okX10_reel 20 rfl) rfl ?_
          refine w_iln (q := 1) (n := 41) hM (dtab_at okX10_reel 21 rfl) rfl rfl ?_
          refine w_ic (n := 42) hM (1 : Int32) (dtab_at okX10_reel 22 rfl) (by decide) rfl ?_
          by_cases hg42 : a1 < 0 ∨ 8 ≤ a1.toNatClampNeg
          · rw [if_pos hg42] at hf; cases hf
          rw [if_neg hg42] at hf
          refine w_zst (nn := 8) (n := 43) hM rfl (by decide) hg42 (dtab_at okX10_reel 23 rfl) rfl ?_
          refine w_aln (q := 0) (n := 44) hM (dtab_at okX10_reel 24 rfl) rfl rfl ?_
          refine w_getr (C := RX10) (T := TX10) (i := 1) (k2 := 108) (q := 2) (n := 47) hM rfl (by decide) (fun _ => rfl) ly_X10 lkF_X10_13 (dtab_at okX10_reel 25 rfl) rfl ?_
          refine w_iln (q := 1) (n := 48) hM (dtab_at okX10_reel 26 rfl) rfl rfl ?_
          refine w_iln (q := 2) (n := 49) hM (dtab_at okX10_reel 27 rfl) rfl rfl ?_
          refine w_ast (nn := 8) (n := 50) hM rfl hg42 (dtab_at okX10_reel 28 rfl) rfl ?_
          refine w_aln (q := 0) (n := 51) hM (dtab_at okX10_reel 29 rfl) rfl rfl ?_
          refine w_getr (C := RX10) (T := TX10) (i := 2) (k2 := 108) (q := 3) (n := 54) hM rfl (by decide) (fun _ => rfl) ly_X10 lkF_X10_17 (dtab_at okX10_reel 30 rfl) rfl ?_
          refine w_iln (q := 1) (n := 55) hM (dtab_at okX10_reel 31 rfl) rfl rfl ?_
          refine w_iln (q := 3) (n := 56) hM (dtab_at okX10_reel 32 rfl) rfl rfl ?_
          refine w_ast (nn := 8) (n := 57) hM rfl hg42 (dtab_at okX10_reel 33 rfl) rfl ?_
          refine w_ic (n := 58) hM (0 : Int32) (dtab_at okX10_reel 34 rfl) (by decide) rfl ?_
          refine w_is (n := 60) (lv' := [(4, vi (0 : Int32)), (0, vr 10 0), (1, vi a1), (2, vi a2), (3, vi a3)]) hM (dtab_at okX10_reel 35 rfl) (by decide) rfl rfl ?_
          refine WW.lvs [1, 2, 4, 0] (lv2 := [(0, vr 10 0), (1, vi a1), (3, vi a3), (4, vi (0 : Int32))]) rfl ?_
          exact wLX10_reel_60 hM nF r nF (sta (sta (sta S 1 a1.toNatClampNeg (vp_nar .boolean (1 : Int32))) 2 a1.toNatClampNeg a2) 3 a1.toNatClampNeg a3) a1 a3 (0 : Int32) hf
        · skip
          rw [if_neg h27] at hf
          refine w_aln (q := 0) (n := 31) hM (dtab_at okX10_reel 15 rfl) rfl rfl ?_
          refine w_ic (n := 32) hM (5 : Int32) (dtab_at okX10_reel 16 rfl) (by decide) rfl ?_
          refine w_callVi (n := 35) (As := [vi (5 : Int32)]) (rest := []) (k := 10) (j := 0) (C := RX10) (T := TX10) (N := 43) hM (c_X10_meets S (5 : Int32)) lkM_X10_128 mv_X10_meets (by decide) rfl (by decide) rfl (Nat.le_of_ble_eq_true rfl) rfl (dtab_at okX10_reel 17 rfl) rfl (fun x2 S2 hp2 => ?_)
          have hx_ := congrArg Prod.fst hp2
          have hs_ := congrArg Prod.snd hp2
          dsimp only at hx_ hs_
          subst hx_
          subst hs_
          exact r_i hM (dtab_at okX10_reel 18 rfl) (Option.some.inj hf)
      · skip
        rw [if_neg h20] at hf
        refine w_bi (n := 25) hM (-2 : Int32) (dtab_at okX10_reel 11 rfl) (by decide) rfl ?_
        exact r_i hM (dtab_at okX10_reel 12 rfl) (Option.some.inj hf)
def fX10_lose (nF : Nat) (S : PS) (a1 : Int32) : Option (Int32 × PS) := (if (fX10_isReel S a1) = (0 : Int32) then (some ((-2 : Int32), S)) else (if a1 < 0 ∨ 8 ≤ a1.toNatClampNeg then none else (if (S.2 1 a1.toNatClampNeg) = (0 : Int32) then (some ((fX10_meets S (1 : Int32)).1, (fX10_meets S (1 : Int32)).2)) else (some ((S.2 3 a1.toNatClampNeg), (sta S 1 a1.toNatClampNeg (vp_nar .boolean (0 : Int32))))))))
set_option maxHeartbeats 4000000 in
set_option maxRecDepth 100000 in
theorem c_X10_lose {cy : ClassId × ClassId} {ad : Nat → Nat} {D : va_G} {l : Launch} (nF : Nat) (S : PS) (a1 : Int32) (r : Int32 × PS) (hf : fX10_lose nF S a1 = some r) : PMi cy GM ad D l yX10_lose (wA yX10_lose cX10_lose 2 (some .int)) rmX10_lose [vr 10 0, vi a1] S (fun x S' => (x, S') = r) := by
  refine PM.of (lv := [(0, vr 10 0), (1, vi a1)]) GM_ok (by decide) (Nat.le_of_ble_eq_true rfl) rfl (by simp) ?_
  intro p e s m args below meth c A hM
  rw [fX10_lose] at hf
  refine w_iln (q := 1) (n := 1) hM (dtab_at okX10_lose 0 rfl) rfl rfl ?_
  refine w_callSi (n := 4) (As := [vi a1]) (rest := []) hM (c_X10_isReel S a1) lkM_X10_124 ms_X10_isReel (by decide) rfl (Nat.le_of_ble_eq_true rfl) rfl (dtab_at okX10_lose 1 rfl) rfl (fun x0 S0 hp0 => ?_)
  obtain ⟨hx_, hs_⟩ := hp0
  have hs_ := hs_.symm
  subst hs_
  subst hx_
  refine w_if_ne (n := 10) (n2 := 7) hM (dtab_at okX10_lose 2 rfl) (by decide) rfl (fun (h4 : ¬ (fX10_isReel S a1) = (0 : Int32)) => ?_) (fun (h4 : (fX10_isReel S a1) = (0 : Int32)) => ?_)
  · skip
    rw [if_neg h4] at hf
    refine w_aln (q := 0) (n := 11) hM (dtab_at okX10_lose 5 rfl) rfl rfl ?_
    refine w_getr (C := RX10) (T := TX10) (i := 0) (k2 := 28) (q := 1) (n := 14) hM rfl (by decide) (fun _ => rfl) ly_X10 lkF_X10_7 (dtab_at okX10_lose 6 rfl) rfl ?_
    refine w_iln (q := 1) (n := 15) hM (dtab_at okX10_lose 7 rfl) rfl rfl ?_
    by_cases hg15 : a1 < 0 ∨ 8 ≤ a1.toNatClampNeg
    · rw [if_pos hg15] at hf; cases hf
    rw [if_neg hg15] at hf
    refine w_zld (nn := 8) (n := 16) hM rfl (by decide) hg15 (dtab_at okX10_lose 8 rfl) rfl ?_
    refine w_if_ne (n := 25) (n2 := 19) hM (dtab_at okX10_lose 9 rfl) (by decide) rfl (fun (h16 : ¬ (S.2 1 a1.toNatClampNeg) = (0 : Int32)) => ?_) (fun (h16 : (S.2 1 a1.toNatClampNeg) = (0 : Int32)) => ?_)
    · skip
      rw [if_neg h16] at hf
      refine w_aln (q := 0) (n := 26) hM (dtab_at okX10_lose 14 rfl) rfl rfl ?_
      refine w_getr (C := RX10) (T := TX10) (i := 0) (k2 := 28) (q := 1) (n := 29) hM rfl (by decide) (fun _ => rfl) ly_X10 lkF_X10_7 (dtab_at okX10_lose 15 rfl) rfl ?_
      refine w_iln (q := 1) (n := 30) hM (dtab_at okX10_lose 16 rfl) rfl rfl ?_
      refine w_ic (n := 31) hM (0 : Int32) (dtab_at okX10_lose 17 rfl) (by decide) rfl ?_
      refine w_zst (nn := 8) (n := 32) hM rfl (by decide) hg15 (dtab_at okX10_lose 18 rfl) rfl ?_
      refine w_aln (q := 0) (n := 33) hM (dtab_at okX10_lose 19 rfl) rfl rfl ?_
      refine w_getr (C := RX10) (T := TX10) (i := 2) (k2 := 108) (q := 3) (n := 36) hM rfl (by decide) (fun _ => rfl) ly_X10 lkF_X10_17 (dtab_at okX10_lose 20 rfl) rfl ?_
      refine w_iln (q := 1) (n := 37) hM (dtab_at okX10_lose 21 rfl) rfl rfl ?_
      refine w_ald (nn := 8) (n := 38) hM rfl hg15 (dtab_at okX10_lose 22 rfl) rfl ?_
      exact r_i hM (dtab_at okX10_lose 23 rfl) (Option.some.inj hf)
    · skip
      rw [if_pos h16] at hf
      refine w_aln (q := 0) (n := 20) hM (dtab_at okX10_lose 10 rfl) rfl rfl ?_
      refine w_ic (n := 21) hM (1 : Int32) (dtab_at okX10_lose 11 rfl) (by decide) rfl ?_
      refine w_callVi (n := 24) (As := [vi (1 : Int32)]) (rest := []) (k := 10) (j := 0) (C := RX10) (T := TX10) (N := 43) hM (c_X10_meets S (1 : Int32)) lkM_X10_128 mv_X10_meets (by decide) rfl (by decide) rfl (Nat.le_of_ble_eq_true rfl) rfl (dtab_at okX10_lose 12 rfl) rfl (fun x1 S1 hp1 => ?_)
      have hx_ := congrArg Prod.fst hp1
      have hs_ := congrArg Prod.snd hp1
      dsimp only at hx_ hs_
      subst hx_
      subst hs_
      exact r_i hM (dtab_at okX10_lose 13 rfl) (Option.some.inj hf)
  · skip
    rw [if_pos h4] at hf
    refine w_bi (n := 9) hM (-2 : Int32) (dtab_at okX10_lose 3 rfl) (by decide) rfl ?_
    exact r_i hM (dtab_at okX10_lose 4 rfl) (Option.some.inj hf)
def fX10_lacks (nF : Nat) (S : PS) (a1 : Int32) (a2 : Int32) (a3 : Int32) : Option (Int32) := (if a1 < 0 ∨ 8 ≤ a1.toNatClampNeg then none else (if (S.2 1 a1.toNatClampNeg) = (0 : Int32) then (some (1 : Int32)) else (if (S.2 2 a1.toNatClampNeg) = a2 then (if (fX10_in S a3 (0 : Int32) ((S.2 3 a1.toNatClampNeg) - (1 : Int32))) = (0 : Int32) then (some (2 : Int32)) else (some (0 : Int32))) else (some (3 : Int32)))))
set_option maxHeartbeats 4000000 in
set_option maxRecDepth 100000 in
theorem c_X10_lacks {cy : ClassId × ClassId} {ad : Nat → Nat} {D : va_G} {l : Launch} (nF : Nat) (S : PS) (a1 : Int32) (a2 : Int32) (a3 : Int32) (r : Int32) (hf : fX10_lacks nF S a1 a2 a3 = some r) : PMi cy GM ad D l yX10_lacks (wA yX10_lacks cX10_lacks 4 (some .int)) rmX10_lacks [vr 10 0, vi a1, vi a2, vi a3] S (fun x S' => x = r ∧ S' = S) := by
  refine PM.of (lv := [(0, vr 10 0), (1, vi a1), (2, vi a2), (3, vi a3)]) GM_ok (by decide) (Nat.le_of_ble_eq_true rfl) rfl (by simp) ?_
  intro p e s m args below meth c A hM
  rw [fX10_lacks] at hf
  obtain ⟨S0, hS⟩ : ∃ S0 : PS, S = S0 := ⟨S, rfl⟩
  rw [show (fun (x : Int32) (S' : PS) => x = r ∧ S' = S) = (fun x S' => x = r ∧ S' = S0) by rw [hS]]
  refine w_aln (q := 0) (n := 1) hM (dtab_at okX10_lacks 0 rfl) rfl rfl ?_
  refine w_getr (C := RX10) (T := TX10) (i := 0) (k2 := 28) (q := 1) (n := 4) hM rfl (by decide) (fun _ => rfl) ly_X10 lkF_X10_7 (dtab_at okX10_lacks 1 rfl) rfl ?_
  refine w_iln (q := 1) (n := 5) hM (dtab_at okX10_lacks 2 rfl) rfl rfl ?_
  by_cases hg5 : a1 < 0 ∨ 8 ≤ a1.toNatClampNeg
  · rw [if_pos hg5] at hf; cases hf
  rw [if_neg hg5] at hf
  refine w_zld (nn := 8) (n := 6) hM rfl (by decide) hg5 (dtab_at okX10_lacks 3 rfl) rfl ?_
  refine w_if_ne (n := 13) (n2 := 9) hM (dtab_at okX10_lacks 4 rfl) (by decide) rfl (fun (h6 : ¬ (S.2 1 a1.toNatClampNeg) = (0 : Int32)) => ?_) (fun (h6 : (S.2 1 a1.toNatClampNeg) = (0 : Int32)) => ?_)
  · skip
    rw [if_neg h6] at hf
    refine w_aln (q := 0) (n := 14) hM (dtab_at okX10_lacks 7 rfl) rfl rfl ?_
    refine w_getr (C := RX10) (T := TX10) (i := 1) (k2 := 108) (q := 2) (n := 17) hM rfl (by decide) (fun _ => rfl) ly_X10 lkF_X10_13 (dtab_at okX10_lacks 8 rfl) rfl ?_
    refine w_iln (q := 1) (n := 18) hM (dtab_at okX10_lacks 9 rfl) rfl rfl ?_
    refine w_ald (nn := 8) (n := 19) hM rfl hg5 (dtab_at okX10_lacks 10 rfl) rfl ?_
    refine w_iln (q := 2) (n := 20) hM (dtab_at okX10_lacks 11 rfl) rfl rfl ?_
    refine w_ic_eq (n := 27) (n2 := 23) hM (dtab_at okX10_lacks 12 rfl) (by decide) rfl (fun (h20 : (S.2 2 a1.toNatClampNeg) = a2) => ?_) (fun (h20 : ¬ (S.2 2 a1.toNatClampNeg) = a2) => ?_)
    · skip
      rw [if_pos h20] at hf
      refine w_iln (q := 3) (n := 28) hM (dtab_at okX10_lacks 15 rfl) rfl rfl ?_
      refine w_ic (n := 29) hM (0 : Int32) (dtab_at okX10_lacks 16 rfl) (by decide) rfl ?_
      refine w_aln (q := 0) (n := 30) hM (dtab_at okX10_lacks 17 rfl) rfl rfl ?_
      refine w_getr (C := RX10) (T := TX10) (i := 2) (k2 := 108) (q := 3) (n := 33) hM rfl (by decide) (fun _ => rfl) ly_X10 lkF_X10_17 (dtab_at okX10_lacks 18 rfl) rfl ?_
      refine w_iln (q := 1) (n := 34) hM (dtab_at okX10_lacks 19 rfl) rfl rfl ?_
      refine w_ald (nn := 8) (n := 35) hM rfl hg5 (dtab_at okX10_lacks 20 rfl) rfl ?_
      refine w_ic (n := 36) hM (1 : Int32) (dtab_at okX10_lacks 21 rfl) (by decide) rfl ?_
      refine w_isub (n := 37) hM (dtab_at okX10_lacks 22 rfl) rfl ?_
      refine w_callSi (n := 40) (As := [vi a3, vi (0 : Int32), vi ((S.2 3 a1.toNatClampNeg) - (1 : Int32))]) (rest := []) hM (c_X10_in S a3 (0 : Int32) ((S.2 3 a1.toNatClampNeg) - (1 : Int32))) lkM_X10_120 ms_X10_in (by decide) rfl (Nat.le_of_ble_eq_true rfl) rfl (dtab_at okX10_lacks 23 rfl) rfl (fun x0 S0 hp0 => ?_)
      obtain ⟨hx_, hs_⟩ := hp0
      have hs_ := hs_.symm
      subst hs_
      subst hx_
      refine w_if_eq (n := 47) (n2 := 43) hM (dtab_at okX10_lacks 24 rfl) (by decide) rfl (fun (h40 : (fX10_in S a3 (0 : Int32) ((S.2 3 a1.toNatClampNeg) - (1 : Int32))) = (0 : Int32)) => ?_) (fun (h40 : ¬ (fX10_in S a3 (0 : Int32) ((S.2 3 a1.toNatClampNeg) - (1 : Int32))) = (0 : Int32)) => ?_)
      · skip
        rw [if_pos h40] at hf
        refine w_ic (n := 48) hM (2 : Int32) (dtab_at okX10_lacks 27 rfl) (by decide) rfl ?_
        exact r_i hM (dtab_at okX10_lacks 28 rfl) ⟨Option.some.inj hf, hS⟩
      · skip
        rw [if_neg h40] at hf
        refine w_ic (n := 44) hM (0 : Int32) (dtab_at okX10_lacks 25 rfl) (by decide) rfl ?_
        refine w_goto (n := 48) hM (dtab_at okX10_lacks 26 rfl) (by decide) ?_
        exact r_i hM (dtab_at okX10_lacks 28 rfl) ⟨Option.some.inj hf, hS⟩
    · skip
      rw [if_neg h20] at hf
      refine w_ic (n := 24) hM (3 : Int32) (dtab_at okX10_lacks 13 rfl) (by decide) rfl ?_
      refine w_goto (n := 48) hM (dtab_at okX10_lacks 14 rfl) (by decide) ?_
      exact r_i hM (dtab_at okX10_lacks 28 rfl) ⟨Option.some.inj hf, hS⟩
  · skip
    rw [if_pos h6] at hf
    refine w_ic (n := 10) hM (1 : Int32) (dtab_at okX10_lacks 5 rfl) (by decide) rfl ?_
    refine w_goto (n := 48) hM (dtab_at okX10_lacks 6 rfl) (by decide) ?_
    exact r_i hM (dtab_at okX10_lacks 28 rfl) ⟨Option.some.inj hf, hS⟩
def fX10_put (nF : Nat) (S : PS) (a1 : Int32) (a2 : Int32) (a3 : Int32) (a4 : Int32) : Option (Int32 × PS) := (if (fX10_isReel S a1) = (0 : Int32) then (some ((-2 : Int32), S)) else (if (fX10_in S a2 (0 : Int32) (2 : Int32)) = (0 : Int32) then (some ((-2 : Int32), S)) else ((fX10_lacks nF S a1 a2 a3).bind fun r2 => (if r2 ≤ (0 : Int32) then (if a2 = (0 : Int32) then (if (((150 : Int32) * a1) + a3) < 0 ∨ 1200 ≤ (((150 : Int32) * a1) + a3).toNatClampNeg then none else (some ((1 : Int32), (sta S 4 (((150 : Int32) * a1) + a3).toNatClampNeg a4.toInt8.toInt32)))) else (if a2 = (1 : Int32) then (if (((150 : Int32) * a1) + a3) < 0 ∨ 1200 ≤ (((150 : Int32) * a1) + a3).toNatClampNeg then none else (some ((1 : Int32), (sta S 4 (((150 : Int32) * a1) + a3).toNatClampNeg a4.toInt16.toInt32)))) else (if (((150 : Int32) * a1) + a3) < 0 ∨ 1200 ≤ (((150 : Int32) * a1) + a3).toNatClampNeg then none else (some ((1 : Int32), (sta S 4 (((150 : Int32) * a1) + a3).toNatClampNeg a4)))))) else (some ((fX10_meets S r2).1, (fX10_meets S r2).2))))))
set_option maxHeartbeats 4000000 in
set_option maxRecDepth 100000 in
theorem c_X10_put {cy : ClassId × ClassId} {ad : Nat → Nat} {D : va_G} {l : Launch} (nF : Nat) (S : PS) (a1 : Int32) (a2 : Int32) (a3 : Int32) (a4 : Int32) (r : Int32 × PS) (hf : fX10_put nF S a1 a2 a3 a4 = some r) : PMi cy GM ad D l yX10_put (wA yX10_put cX10_put 6 (some .int)) rmX10_put [vr 10 0, vi a1, vi a2, vi a3, vi a4] S (fun x S' => (x, S') = r) := by
  refine PM.of (lv := [(0, vr 10 0), (1, vi a1), (2, vi a2), (3, vi a3), (4, vi a4)]) GM_ok (by decide) (Nat.le_of_ble_eq_true rfl) rfl (by simp) ?_
  intro p e s m args below meth c A hM
  rw [fX10_put] at hf
  refine w_iln (q := 1) (n := 1) hM (dtab_at okX10_put 0 rfl) rfl rfl ?_
  refine w_callSi (n := 4) (As := [vi a1]) (rest := []) hM (c_X10_isReel S a1) lkM_X10_124 ms_X10_isReel (by decide) rfl (Nat.le_of_ble_eq_true rfl) rfl (dtab_at okX10_put 1 rfl) rfl (fun x0 S0 hp0 => ?_)
  obtain ⟨hx_, hs_⟩ := hp0
  have hs_ := hs_.symm
  subst hs_
  subst hx_
  refine w_if_eq (n := 16) (n2 := 7) hM (dtab_at okX10_put 2 rfl) (by decide) rfl (fun (h4 : (fX10_isReel S a1) = (0 : Int32)) => ?_) (fun (h4 : ¬ (fX10_isReel S a1) = (0 : Int32)) => ?_)
  · skip
    rw [if_pos h4] at hf
    refine w_bi (n := 18) hM (-2 : Int32) (dtab_at okX10_put 8 rfl) (by decide) rfl ?_
    exact r_i hM (dtab_at okX10_put 9 rfl) (Option.some.inj hf)
  · skip
    rw [if_neg h4] at hf
    refine w_iln (q := 2) (n := 8) hM (dtab_at okX10_put 3 rfl) rfl rfl ?_
    refine w_ic (n := 9) hM (0 : Int32) (dtab_at okX10_put 4 rfl) (by decide) rfl ?_
    refine w_ic (n := 10) hM (2 : Int32) (dtab_at okX10_put 5 rfl) (by decide) rfl ?_
    refine w_callSi (n := 13) (As := [vi a2, vi (0 : Int32), vi (2 : Int32)]) (rest := []) hM (c_X10_in S a2 (0 : Int32) (2 : Int32)) lkM_X10_120 ms_X10_in (by decide) rfl (Nat.le_of_ble_eq_true rfl) rfl (dtab_at okX10_put 6 rfl) rfl (fun x1 S1 hp1 => ?_)
    obtain ⟨hx_, hs_⟩ := hp1
    have hs_ := hs_.symm
    subst hs_
    subst hx_
    refine w_if_ne (n := 19) (n2 := 16) hM (dtab_at okX10_put 7 rfl) (by decide) rfl (fun (h13 : ¬ (fX10_in S a2 (0 : Int32) (2 : Int32)) = (0 : Int32)) => ?_) (fun (h13 : (fX10_in S a2 (0 : Int32) (2 : Int32)) = (0 : Int32)) => ?_)
    · skip
      rw [if_neg h13] at hf
      refine w_aln (q := 0) (n := 20) hM (dtab_at okX10_put 10 rfl) rfl rfl ?_
      refine w_iln (q := 1) (n := 21) hM (dtab_at okX10_put 11 rfl) rfl rfl ?_
      refine w_iln (q := 2) (n := 22) hM (dtab_at okX10_put 12 rfl) rfl rfl ?_
      refine w_iln (q := 3) (n := 23) hM (dtab_at okX10_put 13 rfl) rfl rfl ?_
      obtain ⟨r2, hr2, hf⟩ := Option.bind_eq_some_iff.mp hf
      refine w_callVi (n := 26) (As := [vi a1, vi a2, vi a3]) (rest := []) (k := 10) (j := 0) (C := RX10) (T := TX10) (N := 43) hM (c_X10_lacks nF S a1 a2 a3 r2 hr2) lkM_X10_132 mv_X10_lacks (by decide) rfl (by decide) rfl (Nat.le_of_ble_eq_true rfl) rfl (dtab_at okX10_put 14 rfl) rfl (fun x2 S2 hp2 => ?_)
      obtain ⟨hx_, hs_⟩ := hp2
      have hs_ := hs_.symm
      have hx_ := hx_.symm
      subst hs_
      subst hx_
      refine w_is (n := 28) (lv' := [(5, vi r2), (0, vr 10 0), (1, vi a1), (2, vi a2), (3, vi a3), (4, vi a4)]) hM (dtab_at okX10_put 15 rfl) (by decide) rfl rfl ?_
      refine w_il (q := 0) (n := 30) hM (dtab_at okX10_put 16 rfl) rfl rfl ?_
      refine w_if_le (n := 40) (n2 := 33) hM (dtab_at okX10_put 17 rfl) (by decide) rfl (fun (h30 : r2 ≤ (0 : Int32)) => ?_) (fun (h30 : ¬ r2 ≤ (0 : Int32)) => ?_)
      · skip
        rw [if_pos h30] at hf
        refine w_aln (q := 1) (n := 41) hM (dtab_at okX10_put 22 rfl) rfl rfl ?_
        refine w_getr (C := RX10) (T := TX10) (i := 3) (k2 := 1300) (q := 4) (n := 44) hM rfl (by decide) (fun _ => rfl) ly_X10 lkF_X10_20 (dtab_at okX10_put 23 rfl) rfl ?_
        refine w_si (n := 47) hM (150 : Int32) (dtab_at okX10_put 24 rfl) (by decide) rfl ?_
        refine w_iln (q := 2) (n := 48) hM (dtab_at okX10_put 25 rfl) rfl rfl ?_
        refine w_imul (n := 49) hM (dtab_at okX10_put 26 rfl) rfl ?_
        refine w_iln (q := 4) (n := 50) hM (dtab_at okX10_put 27 rfl) rfl rfl ?_
        refine w_iadd (n := 51) hM (dtab_at okX10_put 28 rfl) rfl ?_
        refine w_iln (q := 3) (n := 52) hM (dtab_at okX10_put 29 rfl) rfl rfl ?_
        refine w_if_ne (n := 61) (n2 := 55) hM (dtab_at okX10_put 30 rfl) (by decide) rfl (fun (h52 : ¬ a2 = (0 : Int32)) => ?_) (fun (h52 : a2 = (0 : Int32)) => ?_)
        · skip
          rw [if_neg h52] at hf
          refine w_iln (q := 3) (n := 62) hM (dtab_at okX10_put 34 rfl) rfl rfl ?_
          refine w_ic (n := 63) hM (1 : Int32) (dtab_at okX10_put 35 rfl) (by decide) rfl ?_
          refine w_ic_ne (n := 72) (n2 := 66) hM (dtab_at okX10_put 36 rfl) (by decide) rfl (fun (h63 : ¬ a2 = (1 : Int32)) => ?_) (fun (h63 : a2 = (1 : Int32)) => ?_)
          · skip
            rw [if_neg h63] at hf
            refine w_il (q := 5) (n := 74) hM (dtab_at okX10_put 40 rfl) rfl rfl ?_
            by_cases hg74 : (((150 : Int32) * a1) + a3) < 0 ∨ 1200 ≤ (((150 : Int32) * a1) + a3).toNatClampNeg
            · rw [if_pos hg74] at hf; cases hf
            rw [if_neg hg74] at hf
            refine w_ast (nn := 1200) (n := 75) hM rfl hg74 (dtab_at okX10_put 41 rfl) rfl ?_
            refine w_ic (n := 76) hM (1 : Int32) (dtab_at okX10_put 42 rfl) (by decide) rfl ?_
            exact r_i hM (dtab_at okX10_put 43 rfl) (Option.some.inj hf)
          · skip
            rw [if_pos h63] at hf
            refine w_il (q := 5) (n := 68) hM (dtab_at okX10_put 37 rfl) rfl rfl ?_
            refine w_i2s (n := 69) hM (dtab_at okX10_put 38 rfl) rfl ?_
            refine w_goto (n := 74) hM (dtab_at okX10_put 39 rfl) (by decide) ?_
            by_cases hg74 : (((150 : Int32) * a1) + a3) < 0 ∨ 1200 ≤ (((150 : Int32) * a1) + a3).toNatClampNeg
            · rw [if_pos hg74] at hf; cases hf
            rw [if_neg hg74] at hf
            refine w_ast (nn := 1200) (n := 75) hM rfl hg74 (dtab_at okX10_put 41 rfl) rfl ?_
            refine w_ic (n := 76) hM (1 : Int32) (dtab_at okX10_put 42 rfl) (by decide) rfl ?_
            exact r_i hM (dtab_at okX10_put 43 rfl) (Option.some.inj hf)
        · skip
          rw [if_pos h52] at hf
          refine w_il (q := 5) (n := 57) hM (dtab_at okX10_put 31 rfl) rfl rfl ?_
          refine w_i2b (n := 58) hM (dtab_at okX10_put 32 rfl) rfl ?_
          refine w_goto (n := 74) hM (dtab_at okX10_put 33 rfl) (by decide) ?_
          by_cases hg74 : (((150 : Int32) * a1) + a3) < 0 ∨ 1200 ≤ (((150 : Int32) * a1) + a3).toNatClampNeg
          · rw [if_pos hg74] at hf; cases hf
          rw [if_neg hg74] at hf
          refine w_ast (nn := 1200) (n := 75) hM rfl hg74 (dtab_at okX10_put 41 rfl) rfl ?_
          refine w_ic (n := 76) hM (1 : Int32) (dtab_at okX10_put 42 rfl) (by decide) rfl ?_
          exact r_i hM (dtab_at okX10_put 43 rfl) (Option.some.inj hf)
      · skip
        rw [if_neg h30] at hf
        refine w_aln (q := 1) (n := 34) hM (dtab_at okX10_put 18 rfl) rfl rfl ?_
        refine w_il (q := 0) (n := 36) hM (dtab_at okX10_put 19 rfl) rfl rfl ?_
        refine w_callVi (n := 39) (As := [vi r2]) (rest := []) (k := 10) (j := 0) (C := RX10) (T := TX10) (N := 43) hM (c_X10_meets S r2) lkM_X10_128 mv_X10_meets (by decide) rfl (by decide) rfl (Nat.le_of_ble_eq_true rfl) rfl (dtab_at okX10_put 20 rfl) rfl (fun x3 S3 hp3 => ?_)
        have hx_ := congrArg Prod.fst hp3
        have hs_ := congrArg Prod.snd hp3
        dsimp only at hx_ hs_
        subst hx_
        subst hs_
        exact r_i hM (dtab_at okX10_put 21 rfl) (Option.some.inj hf)
    · skip
      rw [if_pos h13] at hf
      refine w_bi (n := 18) hM (-2 : Int32) (dtab_at okX10_put 8 rfl) (by decide) rfl ?_
      exact r_i hM (dtab_at okX10_put 9 rfl) (Option.some.inj hf)
def fX10_get (nF : Nat) (S : PS) (a1 : Int32) (a2 : Int32) (a3 : Int32) : Option (Int32 × PS) := (if (fX10_isReel S a1) = (0 : Int32) then (some ((-2147483648 : Int32), S)) else (if (fX10_in S a2 (0 : Int32) (2 : Int32)) = (0 : Int32) then (some ((-2147483648 : Int32), S)) else ((fX10_lacks nF S a1 a2 a3).bind fun r2 => (if r2 ≤ (0 : Int32) then (if (((150 : Int32) * a1) + a3) < 0 ∨ 1200 ≤ (((150 : Int32) * a1) + a3).toNatClampNeg then none else (some ((S.2 4 (((150 : Int32) * a1) + a3).toNatClampNeg), S))) else (some ((-2147483648 : Int32), (sti S 0 5 r2)))))))
set_option maxHeartbeats 4000000 in
set_option maxRecDepth 100000 in
theorem c_X10_get {cy : ClassId × ClassId} {ad : Nat → Nat} {D : va_G} {l : Launch} (nF : Nat) (S : PS) (a1 : Int32) (a2 : Int32) (a3 : Int32) (r : Int32 × PS) (hf : fX10_get nF S a1 a2 a3 = some r) : PMi cy GM ad D l yX10_get (wA yX10_get cX10_get 5 (some .int)) rmX10_get [vr 10 0, vi a1, vi a2, vi a3] S (fun x S' => (x, S') = r) := by
  refine PM.of (lv := [(0, vr 10 0), (1, vi a1), (2, vi a2), (3, vi a3)]) GM_ok (by decide) (Nat.le_of_ble_eq_true rfl) rfl (by simp) ?_
  intro p e s m args below meth c A hM
  rw [fX10_get] at hf
  refine w_iln (q := 1) (n := 1) hM (dtab_at okX10_get 0 rfl) rfl rfl ?_
  refine w_callSi (n := 4) (As := [vi a1]) (rest := []) hM (c_X10_isReel S a1) lkM_X10_124 ms_X10_isReel (by decide) rfl (Nat.le_of_ble_eq_true rfl) rfl (dtab_at okX10_get 1 rfl) rfl (fun x0 S0 hp0 => ?_)
  obtain ⟨hx_, hs_⟩ := hp0
  have hs_ := hs_.symm
  subst hs_
  subst hx_
  refine w_if_eq (n := 16) (n2 := 7) hM (dtab_at okX10_get 2 rfl) (by decide) rfl (fun (h4 : (fX10_isReel S a1) = (0 : Int32)) => ?_) (fun (h4 : ¬ (fX10_isReel S a1) = (0 : Int32)) => ?_)
  · skip
    rw [if_pos h4] at hf
    refine w_ldc (n := 18) (v := (-2147483648 : Int32)) hM (dtab_at okX10_get 8 rfl) lkC_X10_136 rfl ?_
    exact r_i hM (dtab_at okX10_get 9 rfl) (Option.some.inj hf)
  · skip
    rw [if_neg h4] at hf
    refine w_iln (q := 2) (n := 8) hM (dtab_at okX10_get 3 rfl) rfl rfl ?_
    refine w_ic (n := 9) hM (0 : Int32) (dtab_at okX10_get 4 rfl) (by decide) rfl ?_
    refine w_ic (n := 10) hM (2 : Int32) (dtab_at okX10_get 5 rfl) (by decide) rfl ?_
    refine w_callSi (n := 13) (As := [vi a2, vi (0 : Int32), vi (2 : Int32)]) (rest := []) hM (c_X10_in S a2 (0 : Int32) (2 : Int32)) lkM_X10_120 ms_X10_in (by decide) rfl (Nat.le_of_ble_eq_true rfl) rfl (dtab_at okX10_get 6 rfl) rfl (fun x1 S1 hp1 => ?_)
    obtain ⟨hx_, hs_⟩ := hp1
    have hs_ := hs_.symm
    subst hs_
    subst hx_
    refine w_if_ne (n := 19) (n2 := 16) hM (dtab_at okX10_get 7 rfl) (by decide) rfl (fun (h13 : ¬ (fX10_in S a2 (0 : Int32) (2 : Int32)) = (0 : Int32)) => ?_) (fun (h13 : (fX10_in S a2 (0 : Int32) (2 : Int32)) = (0 : Int32)) => ?_)
    · skip
      rw [if_neg h13] at hf
      refine w_aln (q := 0) (n := 20) hM (dtab_at okX10_get 10 rfl) rfl rfl ?_
      refine w_iln (q := 1) (n := 21) hM (dtab_at okX10_get 11 rfl) rfl rfl ?_
      refine w_iln (q := 2) (n := 22) hM (dtab_at okX10_get 12 rfl) rfl rfl ?_
      refine w_iln (q := 3) (n := 23) hM (dtab_at okX10_get 13 rfl) rfl rfl ?_
      obtain ⟨r2, hr2, hf⟩ := Option.bind_eq_some_iff.mp hf
      refine w_callVi (n := 26) (As := [vi a1, vi a2, vi a3]) (rest := []) (k := 10) (j := 0) (C := RX10) (T := TX10) (N := 43) hM (c_X10_lacks nF S a1 a2 a3 r2 hr2) lkM_X10_132 mv_X10_lacks (by decide) rfl (by decide) rfl (Nat.le_of_ble_eq_true rfl) rfl (dtab_at okX10_get 14 rfl) rfl (fun x2 S2 hp2 => ?_)
      obtain ⟨hx_, hs_⟩ := hp2
      have hs_ := hs_.symm
      have hx_ := hx_.symm
      subst hs_
      subst hx_
      refine w_is (n := 28) (lv' := [(4, vi r2), (0, vr 10 0), (1, vi a1), (2, vi a2), (3, vi a3)]) hM (dtab_at okX10_get 15 rfl) (by decide) rfl rfl ?_
      refine w_il (q := 0) (n := 30) hM (dtab_at okX10_get 16 rfl) rfl rfl ?_
      refine w_if_le (n := 42) (n2 := 33) hM (dtab_at okX10_get 17 rfl) (by decide) rfl (fun (h30 : r2 ≤ (0 : Int32)) => ?_) (fun (h30 : ¬ r2 ≤ (0 : Int32)) => ?_)
      · skip
        rw [if_pos h30] at hf
        refine w_aln (q := 1) (n := 43) hM (dtab_at okX10_get 23 rfl) rfl rfl ?_
        refine w_getr (C := RX10) (T := TX10) (i := 3) (k2 := 1300) (q := 4) (n := 46) hM rfl (by decide) (fun _ => rfl) ly_X10 lkF_X10_20 (dtab_at okX10_get 24 rfl) rfl ?_
        refine w_si (n := 49) hM (150 : Int32) (dtab_at okX10_get 25 rfl) (by decide) rfl ?_
        refine w_iln (q := 2) (n := 50) hM (dtab_at okX10_get 26 rfl) rfl rfl ?_
        refine w_imul (n := 51) hM (dtab_at okX10_get 27 rfl) rfl ?_
        refine w_iln (q := 4) (n := 52) hM (dtab_at okX10_get 28 rfl) rfl rfl ?_
        refine w_iadd (n := 53) hM (dtab_at okX10_get 29 rfl) rfl ?_
        by_cases hg53 : (((150 : Int32) * a1) + a3) < 0 ∨ 1200 ≤ (((150 : Int32) * a1) + a3).toNatClampNeg
        · rw [if_pos hg53] at hf; cases hf
        rw [if_neg hg53] at hf
        refine w_ald (nn := 1200) (n := 54) hM rfl hg53 (dtab_at okX10_get 30 rfl) rfl ?_
        exact r_i hM (dtab_at okX10_get 31 rfl) (Option.some.inj hf)
      · skip
        rw [if_neg h30] at hf
        refine w_aln (q := 1) (n := 34) hM (dtab_at okX10_get 18 rfl) rfl rfl ?_
        refine w_il (q := 0) (n := 36) hM (dtab_at okX10_get 19 rfl) rfl rfl ?_
        refine w_put (C := RX10) (T := TX10) (i := 5) (ty := .int) (n := 39) hM rfl (by decide) ly_X10 tyX10_ok nmX10 lkF_X10_117 rfl (by decide +kernel) rfl rfl (dtab_at okX10_get 20 rfl) rfl ?_
        refine w_ldc (n := 41) (v := (-2147483648 : Int32)) hM (dtab_at okX10_get 21 rfl) lkC_X10_136 rfl ?_
        exact r_i hM (dtab_at okX10_get 22 rfl) (Option.some.inj hf)
    · skip
      rw [if_pos h13] at hf
      refine w_ldc (n := 18) (v := (-2147483648 : Int32)) hM (dtab_at okX10_get 8 rfl) lkC_X10_136 rfl ?_
      exact r_i hM (dtab_at okX10_get 9 rfl) (Option.some.inj hf)
def LX10_copy_158 (nF : Nat) : Nat → PS → Int32 → Int32 → Int32 → Int32 → Option (Int32 × PS)
  | 0, _, _, _, _, _ => none
  | n + 1, S, v3, v4, v5, v6 => (if v5 ≤ v6 then (some ((1 : Int32), S)) else (if v6 < 0 ∨ 150 ≤ v6.toNatClampNeg then none else (if ((((150 : Int32) * v3) + v4) + v6) < 0 ∨ 1200 ≤ ((((150 : Int32) * v3) + v4) + v6).toNatClampNeg then none else (LX10_copy_158 nF n (sta S 4 ((((150 : Int32) * v3) + v4) + v6).toNatClampNeg (S.2 5 v6.toNatClampNeg)) v3 v4 v5 (v6 + (1 : Int32))))))
set_option maxHeartbeats 4000000 in
set_option maxRecDepth 100000 in
theorem wLX10_copy_158 {cy : ClassId × ClassId} {ad : Nat → Nat} {D : va_G} {p : Program} {l : Launch} {e : Env} {s : State} {m : MethodId} {args : Array Value} {below : List Frame} {meth : Method} {c : Code} {A : Nat → Prop} (hM : MX cy GM ad D p s m args meth c cX10_copy 7 RX10 (some .int) A) (nF : Nat) (r : Int32 × PS) : ∀ (n : Nat) (S : PS) (v3 : Int32) (v4 : Int32) (v5 : Int32) (v6 : Int32), LX10_copy_158 nF n S v3 v4 v5 v6 = some r → WW cy GM ad D p l e rmX10_copy s m args below meth c 7 A (poi (fun x S' => (x, S') = r)) 158 [(0, vr 10 0), (3, vi v3), (4, vi v4), (5, vi v5), (6, vi v6)] [] S := by
  intro n
  induction n with
  | zero => intro S v3 v4 v5 v6 hf; rw [LX10_copy_158] at hf; cases hf
  | succ n ih =>
    intro S v3 v4 v5 v6 hf
    rw [LX10_copy_158] at hf
    refine w_il (q := 4) (n := 160) hM (dtab_at okX10_copy 92 rfl) rfl rfl ?_
    refine w_il (q := 3) (n := 162) hM (dtab_at okX10_copy 93 rfl) rfl rfl ?_
    refine w_ic_ge (n := 194) (n2 := 165) hM (dtab_at okX10_copy 94 rfl) (by decide) rfl (fun (h162 : v5 ≤ v6) => ?_) (fun (h162 : ¬ v5 ≤ v6) => ?_)
    · skip
      rw [if_pos h162] at hf
      refine w_ic (n := 195) hM (1 : Int32) (dtab_at okX10_copy 111 rfl) (by decide) rfl ?_
      exact r_i hM (dtab_at okX10_copy 112 rfl) (Option.some.inj hf)
    · skip
      rw [if_neg h162] at hf
      refine w_aln (q := 0) (n := 166) hM (dtab_at okX10_copy 95 rfl) rfl rfl ?_
      refine w_getr (C := RX10) (T := TX10) (i := 3) (k2 := 1300) (q := 4) (n := 169) hM rfl (by decide) (fun _ => rfl) ly_X10 lkF_X10_20 (dtab_at okX10_copy 96 rfl) rfl ?_
      refine w_si (n := 172) hM (150 : Int32) (dtab_at okX10_copy 97 rfl) (by decide) rfl ?_
      refine w_iln (q := 1) (n := 173) hM (dtab_at okX10_copy 98 rfl) rfl rfl ?_
      refine w_imul (n := 174) hM (dtab_at okX10_copy 99 rfl) rfl ?_
      refine w_il (q := 2) (n := 176) hM (dtab_at okX10_copy 100 rfl) rfl rfl ?_
      refine w_iadd (n := 177) hM (dtab_at okX10_copy 101 rfl) rfl ?_
      refine w_il (q := 4) (n := 179) hM (dtab_at okX10_copy 102 rfl) rfl rfl ?_
      refine w_iadd (n := 180) hM (dtab_at okX10_copy 103 rfl) rfl ?_
      refine w_aln (q := 0) (n := 181) hM (dtab_at okX10_copy 104 rfl) rfl rfl ?_
      refine w_getr (C := RX10) (T := TX10) (i := 4) (k2 := 250) (q := 5) (n := 184) hM rfl (by decide) (fun _ => rfl) ly_X10 lkF_X10_23 (dtab_at okX10_copy 105 rfl) rfl ?_
      refine w_il (q := 4) (n := 186) hM (dtab_at okX10_copy 106 rfl) rfl rfl ?_
      by_cases hg186 : v6 < 0 ∨ 150 ≤ v6.toNatClampNeg
      · rw [if_pos hg186] at hf; cases hf
      rw [if_neg hg186] at hf
      refine w_ald (nn := 150) (n := 187) hM rfl hg186 (dtab_at okX10_copy 107 rfl) rfl ?_
      by_cases hg187 : ((((150 : Int32) * v3) + v4) + v6) < 0 ∨ 1200 ≤ ((((150 : Int32) * v3) + v4) + v6).toNatClampNeg
      · rw [if_pos hg187] at hf; cases hf
      rw [if_neg hg187] at hf
      refine w_ast (nn := 1200) (n := 188) hM rfl hg187 (dtab_at okX10_copy 108 rfl) rfl ?_
      refine w_iinc (q := 4) (n := 191) (v := (v6 + (1 : Int32))) (lv' := [(6, vi (v6 + (1 : Int32))), (0, vr 10 0), (3, vi v3), (4, vi v4), (5, vi v5)]) hM (dtab_at okX10_copy 109 rfl) rfl rfl (by decide) rfl rfl ?_
      refine w_goto (n := 158) hM (dtab_at okX10_copy 110 rfl) (by decide) ?_
      refine WW.lvs [1, 2, 3, 4, 0] (lv2 := [(0, vr 10 0), (3, vi v3), (4, vi v4), (5, vi v5), (6, vi (v6 + (1 : Int32)))]) rfl ?_
      exact ih (sta S 4 ((((150 : Int32) * v3) + v4) + v6).toNatClampNeg (S.2 5 v6.toNatClampNeg)) v3 v4 v5 (v6 + (1 : Int32)) hf
def BX10_copy_155 (nF : Nat) (S : PS) (v3 : Int32) (v4 : Int32) (v5 : Int32) : Option (Int32 × PS) := (LX10_copy_158 nF nF S v3 v4 v5 (0 : Int32))
set_option maxHeartbeats 4000000 in
set_option maxRecDepth 100000 in
theorem wBX10_copy_155 {cy : ClassId × ClassId} {ad : Nat → Nat} {D : va_G} {p : Program} {l : Launch} {e : Env} {s : State} {m : MethodId} {args : Array Value} {below : List Frame} {meth : Method} {c : Code} {A : Nat → Prop} (hM : MX cy GM ad D p s m args meth c cX10_copy 7 RX10 (some .int) A) (nF : Nat) (r : Int32 × PS) (S : PS) (v3 : Int32) (v4 : Int32) (v5 : Int32) (hf : BX10_copy_155 nF S v3 v4 v5 = some r) : WW cy GM ad D p l e rmX10_copy s m args below meth c 7 A (poi (fun x S' => (x, S') = r)) 155 [(0, vr 10 0), (3, vi v3), (4, vi v4), (5, vi v5)] [] S := by
  rw [BX10_copy_155] at hf
  refine w_ic (n := 156) hM (0 : Int32) (dtab_at okX10_copy 90 rfl) (by decide) rfl ?_
  refine w_is (n := 158) (lv' := [(6, vi (0 : Int32)), (0, vr 10 0), (3, vi v3), (4, vi v4), (5, vi v5)]) hM (dtab_at okX10_copy 91 rfl) (by decide) rfl rfl ?_
  refine WW.lvs [1, 2, 3, 4, 0] (lv2 := [(0, vr 10 0), (3, vi v3), (4, vi v4), (5, vi v5), (6, vi (0 : Int32))]) rfl ?_
  exact wLX10_copy_158 hM nF r nF S v3 v4 v5 (0 : Int32) hf
def LX10_copy_120 (nF : Nat) : Nat → PS → Int32 → Int32 → Int32 → Int32 → Int32 → Int32 → Option (Int32 × PS)
  | 0, _, _, _, _, _, _, _ => none
  | n + 1, S, v1, v2, v3, v4, v5, v6 => (if v5 ≤ v6 then (BX10_copy_155 nF S v3 v4 v5) else (if ((((150 : Int32) * v1) + v2) + v6) < 0 ∨ 1200 ≤ ((((150 : Int32) * v1) + v2) + v6).toNatClampNeg then none else (if v6 < 0 ∨ 150 ≤ v6.toNatClampNeg then none else (LX10_copy_120 nF n (sta S 5 v6.toNatClampNeg (S.2 4 ((((150 : Int32) * v1) + v2) + v6).toNatClampNeg)) v1 v2 v3 v4 v5 (v6 + (1 : Int32))))))
set_option maxHeartbeats 4000000 in
set_option maxRecDepth 100000 in
theorem wLX10_copy_120 {cy : ClassId × ClassId} {ad : Nat → Nat} {D : va_G} {p : Program} {l : Launch} {e : Env} {s : State} {m : MethodId} {args : Array Value} {below : List Frame} {meth : Method} {c : Code} {A : Nat → Prop} (hM : MX cy GM ad D p s m args meth c cX10_copy 7 RX10 (some .int) A) (nF : Nat) (r : Int32 × PS) : ∀ (n : Nat) (S : PS) (v1 : Int32) (v2 : Int32) (v3 : Int32) (v4 : Int32) (v5 : Int32) (v6 : Int32), LX10_copy_120 nF n S v1 v2 v3 v4 v5 v6 = some r → WW cy GM ad D p l e rmX10_copy s m args below meth c 7 A (poi (fun x S' => (x, S') = r)) 120 [(0, vr 10 0), (1, vi v1), (2, vi v2), (3, vi v3), (4, vi v4), (5, vi v5), (6, vi v6)] [] S := by
  intro n
  induction n with
  | zero => intro S v1 v2 v3 v4 v5 v6 hf; rw [LX10_copy_120] at hf; cases hf
  | succ n ih =>
    intro S v1 v2 v3 v4 v5 v6 hf
    rw [LX10_copy_120] at hf
    refine w_il (q := 6) (n := 122) hM (dtab_at okX10_copy 71 rfl) rfl rfl ?_
    refine w_il (q := 5) (n := 124) hM (dtab_at okX10_copy 72 rfl) rfl rfl ?_
    refine w_ic_ge (n := 155) (n2 := 127) hM (dtab_at okX10_copy 73 rfl) (by decide) rfl (fun (h124 : v5 ≤ v6) => ?_) (fun (h124 : ¬ v5 ≤ v6) => ?_)
    · skip
      rw [if_pos h124] at hf
      refine WW.lvs [0, 3, 4, 5] (lv2 := [(0, vr 10 0), (3, vi v3), (4, vi v4), (5, vi v5)]) rfl ?_
      exact wBX10_copy_155 hM nF r S v3 v4 v5 hf
    · skip
      rw [if_neg h124] at hf
      refine w_aln (q := 0) (n := 128) hM (dtab_at okX10_copy 74 rfl) rfl rfl ?_
      refine w_getr (C := RX10) (T := TX10) (i := 4) (k2 := 250) (q := 5) (n := 131) hM rfl (by decide) (fun _ => rfl) ly_X10 lkF_X10_23 (dtab_at okX10_copy 75 rfl) rfl ?_
      refine w_il (q := 6) (n := 133) hM (dtab_at okX10_copy 76 rfl) rfl rfl ?_
      refine w_aln (q := 0) (n := 134) hM (dtab_at okX10_copy 77 rfl) rfl rfl ?_
      refine w_getr (C := RX10) (T := TX10) (i := 3) (k2 := 1300) (q := 4) (n := 137) hM rfl (by decide) (fun _ => rfl) ly_X10 lkF_X10_20 (dtab_at okX10_copy 78 rfl) rfl ?_
      refine w_si (n := 140) hM (150 : Int32) (dtab_at okX10_copy 79 rfl) (by decide) rfl ?_
      refine w_iln (q := 1) (n := 141) hM (dtab_at okX10_copy 80 rfl) rfl rfl ?_
      refine w_imul (n := 142) hM (dtab_at okX10_copy 81 rfl) rfl ?_
      refine w_iln (q := 2) (n := 143) hM (dtab_at okX10_copy 82 rfl) rfl rfl ?_
      refine w_iadd (n := 144) hM (dtab_at okX10_copy 83 rfl) rfl ?_
      refine w_il (q := 6) (n := 146) hM (dtab_at okX10_copy 84 rfl) rfl rfl ?_
      refine w_iadd (n := 147) hM (dtab_at okX10_copy 85 rfl) rfl ?_
      by_cases hg147 : ((((150 : Int32) * v1) + v2) + v6) < 0 ∨ 1200 ≤ ((((150 : Int32) * v1) + v2) + v6).toNatClampNeg
      · rw [if_pos hg147] at hf; cases hf
      rw [if_neg hg147] at hf
      refine w_ald (nn := 1200) (n := 148) hM rfl hg147 (dtab_at okX10_copy 86 rfl) rfl ?_
      by_cases hg148 : v6 < 0 ∨ 150 ≤ v6.toNatClampNeg
      · rw [if_pos hg148] at hf; cases hf
      rw [if_neg hg148] at hf
      refine w_ast (nn := 150) (n := 149) hM rfl hg148 (dtab_at okX10_copy 87 rfl) rfl ?_
      refine w_iinc (q := 6) (n := 152) (v := (v6 + (1 : Int32))) (lv' := [(6, vi (v6 + (1 : Int32))), (0, vr 10 0), (1, vi v1), (2, vi v2), (3, vi v3), (4, vi v4), (5, vi v5)]) hM (dtab_at okX10_copy 88 rfl) rfl rfl (by decide) rfl rfl ?_
      refine w_goto (n := 120) hM (dtab_at okX10_copy 89 rfl) (by decide) ?_
      refine WW.lvs [1, 2, 3, 4, 5, 6, 0] (lv2 := [(0, vr 10 0), (1, vi v1), (2, vi v2), (3, vi v3), (4, vi v4), (5, vi v5), (6, vi (v6 + (1 : Int32)))]) rfl ?_
      exact ih (sta S 5 v6.toNatClampNeg (S.2 4 ((((150 : Int32) * v1) + v2) + v6).toNatClampNeg)) v1 v2 v3 v4 v5 (v6 + (1 : Int32)) hf
def fX10_copy (nF : Nat) (S : PS) (a1 : Int32) (a2 : Int32) (a3 : Int32) (a4 : Int32) (a5 : Int32) : Option (Int32 × PS) := (if (fX10_isReel S a1) = (0 : Int32) then (some ((-2 : Int32), S)) else (if (fX10_isReel S a3) = (0 : Int32) then (some ((-2 : Int32), S)) else (if a1 < 0 ∨ 8 ≤ a1.toNatClampNeg then none else (if (S.2 1 a1.toNatClampNeg) = (0 : Int32) then (some ((fX10_meets S (1 : Int32)).1, (fX10_meets S (1 : Int32)).2)) else (if a3 < 0 ∨ 8 ≤ a3.toNatClampNeg then none else (if (S.2 1 a3.toNatClampNeg) = (0 : Int32) then (some ((fX10_meets S (1 : Int32)).1, (fX10_meets S (1 : Int32)).2)) else (if (S.2 2 a1.toNatClampNeg) = (S.2 2 a3.toNatClampNeg) then (if a2 < (0 : Int32) then (some ((fX10_meets S (2 : Int32)).1, (fX10_meets S (2 : Int32)).2)) else (if a4 < (0 : Int32) then (some ((fX10_meets S (2 : Int32)).1, (fX10_meets S (2 : Int32)).2)) else (if a5 < (0 : Int32) then (some ((fX10_meets S (2 : Int32)).1, (fX10_meets S (2 : Int32)).2)) else (if (0 : Int32) < (lg_cmp (a2.toInt64 + a5.toInt64) (S.2 3 a1.toNatClampNeg).toInt64) then (some ((fX10_meets S (2 : Int32)).1, (fX10_meets S (2 : Int32)).2)) else (if (lg_cmp (a4.toInt64 + a5.toInt64) (S.2 3 a3.toNatClampNeg).toInt64) ≤ (0 : Int32) then (LX10_copy_120 nF nF S a1 a2 a3 a4 a5 (0 : Int32)) else (some ((fX10_meets S (2 : Int32)).1, (fX10_meets S (2 : Int32)).2))))))) else (some ((fX10_meets S (4 : Int32)).1, (fX10_meets S (4 : Int32)).2)))))))))
set_option maxHeartbeats 4000000 in
set_option maxRecDepth 100000 in
theorem c_X10_copy {cy : ClassId × ClassId} {ad : Nat → Nat} {D : va_G} {l : Launch} (nF : Nat) (S : PS) (a1 : Int32) (a2 : Int32) (a3 : Int32) (a4 : Int32) (a5 : Int32) (r : Int32 × PS) (hf : fX10_copy nF S a1 a2 a3 a4 a5 = some r) : PMi cy GM ad D l yX10_copy (wA yX10_copy cX10_copy 7 (some .int)) rmX10_copy [vr 10 0, vi a1, vi a2, vi a3, vi a4, vi a5] S (fun x S' => (x, S') = r) := by
  refine PM.of (lv := [(0, vr 10 0), (1, vi a1), (2, vi a2), (3, vi a3), (4, vi a4), (5, vi a5)]) GM_ok (by decide) (Nat.le_of_ble_eq_true rfl) rfl (by simp) ?_
  intro p e s m args below meth c A hM
  rw [fX10_copy] at hf
  refine w_iln (q := 1) (n := 1) hM (dtab_at okX10_copy 0 rfl) rfl rfl ?_
  refine w_callSi (n := 4) (As := [vi a1]) (rest := []) hM (c_X10_isReel S a1) lkM_X10_124 ms_X10_isReel (by decide) rfl (Nat.le_of_ble_eq_true rfl) rfl (dtab_at okX10_copy 1 rfl) rfl (fun x0 S0 hp0 => ?_)
  obtain ⟨hx_, hs_⟩ := hp0
  have hs_ := hs_.symm
  subst hs_
  subst hx_
  refine w_if_eq (n := 14) (n2 := 7) hM (dtab_at okX10_copy 2 rfl) (by decide) rfl (fun (h4 : (fX10_isReel S a1) = (0 : Int32)) => ?_) (fun (h4 : ¬ (fX10_isReel S a1) = (0 : Int32)) => ?_)
  · skip
    rw [if_pos h4] at hf
    refine w_bi (n := 16) hM (-2 : Int32) (dtab_at okX10_copy 6 rfl) (by decide) rfl ?_
    exact r_i hM (dtab_at okX10_copy 7 rfl) (Option.some.inj hf)
  · skip
    rw [if_neg h4] at hf
    refine w_iln (q := 3) (n := 8) hM (dtab_at okX10_copy 3 rfl) rfl rfl ?_
    refine w_callSi (n := 11) (As := [vi a3]) (rest := []) hM (c_X10_isReel S a3) lkM_X10_124 ms_X10_isReel (by decide) rfl (Nat.le_of_ble_eq_true rfl) rfl (dtab_at okX10_copy 4 rfl) rfl (fun x1 S1 hp1 => ?_)
    obtain ⟨hx_, hs_⟩ := hp1
    have hs_ := hs_.symm
    subst hs_
    subst hx_
    refine w_if_ne (n := 17) (n2 := 14) hM (dtab_at okX10_copy 5 rfl) (by decide) rfl (fun (h11 : ¬ (fX10_isReel S a3) = (0 : Int32)) => ?_) (fun (h11 : (fX10_isReel S a3) = (0 : Int32)) => ?_)
    · skip
      rw [if_neg h11] at hf
      refine w_aln (q := 0) (n := 18) hM (dtab_at okX10_copy 8 rfl) rfl rfl ?_
      refine w_getr (C := RX10) (T := TX10) (i := 0) (k2 := 28) (q := 1) (n := 21) hM rfl (by decide) (fun _ => rfl) ly_X10 lkF_X10_7 (dtab_at okX10_copy 9 rfl) rfl ?_
      refine w_iln (q := 1) (n := 22) hM (dtab_at okX10_copy 10 rfl) rfl rfl ?_
      by_cases hg22 : a1 < 0 ∨ 8 ≤ a1.toNatClampNeg
      · rw [if_pos hg22] at hf; cases hf
      rw [if_neg hg22] at hf
      refine w_zld (nn := 8) (n := 23) hM rfl (by decide) hg22 (dtab_at okX10_copy 11 rfl) rfl ?_
      refine w_if_eq (n := 35) (n2 := 26) hM (dtab_at okX10_copy 12 rfl) (by decide) rfl (fun (h23 : (S.2 1 a1.toNatClampNeg) = (0 : Int32)) => ?_) (fun (h23 : ¬ (S.2 1 a1.toNatClampNeg) = (0 : Int32)) => ?_)
      · skip
        rw [if_pos h23] at hf
        refine w_aln (q := 0) (n := 36) hM (dtab_at okX10_copy 18 rfl) rfl rfl ?_
        refine w_ic (n := 37) hM (1 : Int32) (dtab_at okX10_copy 19 rfl) (by decide) rfl ?_
        refine w_callVi (n := 40) (As := [vi (1 : Int32)]) (rest := []) (k := 10) (j := 0) (C := RX10) (T := TX10) (N := 43) hM (c_X10_meets S (1 : Int32)) lkM_X10_128 mv_X10_meets (by decide) rfl (by decide) rfl (Nat.le_of_ble_eq_true rfl) rfl (dtab_at okX10_copy 20 rfl) rfl (fun x2 S2 hp2 => ?_)
        have hx_ := congrArg Prod.fst hp2
        have hs_ := congrArg Prod.snd hp2
        dsimp only at hx_ hs_
        subst hx_
        subst hs_
        exact r_i hM (dtab_at okX10_copy 21 rfl) (Option.some.inj hf)
      · skip
        rw [if_neg h23] at hf
        refine w_aln (q := 0) (n := 27) hM (dtab_at okX10_copy 13 rfl) rfl rfl ?_
        refine w_getr (C := RX10) (T := TX10) (i := 0) (k2 := 28) (q := 1) (n := 30) hM rfl (by decide) (fun _ => rfl) ly_X10 lkF_X10_7 (dtab_at okX10_copy 14 rfl) rfl ?_
        refine w_iln (q := 3) (n := 31) hM (dtab_at okX10_copy 15 rfl) rfl rfl ?_
        by_cases hg31 : a3 < 0 ∨ 8 ≤ a3.toNatClampNeg
        · rw [if_pos hg31] at hf; cases hf
        rw [if_neg hg31] at hf
        refine w_zld (nn := 8) (n := 32) hM rfl (by decide) hg31 (dtab_at okX10_copy 16 rfl) rfl ?_
        refine w_if_ne (n := 41) (n2 := 35) hM (dtab_at okX10_copy 17 rfl) (by decide) rfl (fun (h32 : ¬ (S.2 1 a3.toNatClampNeg) = (0 : Int32)) => ?_) (fun (h32 : (S.2 1 a3.toNatClampNeg) = (0 : Int32)) => ?_)
        · skip
          rw [if_neg h32] at hf
          refine w_aln (q := 0) (n := 42) hM (dtab_at okX10_copy 22 rfl) rfl rfl ?_
          refine w_getr (C := RX10) (T := TX10) (i := 1) (k2 := 108) (q := 2) (n := 45) hM rfl (by decide) (fun _ => rfl) ly_X10 lkF_X10_13 (dtab_at okX10_copy 23 rfl) rfl ?_
          refine w_iln (q := 1) (n := 46) hM (dtab_at okX10_copy 24 rfl) rfl rfl ?_
          refine w_ald (nn := 8) (n := 47) hM rfl hg22 (dtab_at okX10_copy 25 rfl) rfl ?_
          refine w_aln (q := 0) (n := 48) hM (dtab_at okX10_copy 26 rfl) rfl rfl ?_
          refine w_getr (C := RX10) (T := TX10) (i := 1) (k2 := 108) (q := 2) (n := 51) hM rfl (by decide) (fun _ => rfl) ly_X10 lkF_X10_13 (dtab_at okX10_copy 27 rfl) rfl ?_
          refine w_iln (q := 3) (n := 52) hM (dtab_at okX10_copy 28 rfl) rfl rfl ?_
          refine w_ald (nn := 8) (n := 53) hM rfl hg31 (dtab_at okX10_copy 29 rfl) rfl ?_
          refine w_ic_eq (n := 62) (n2 := 56) hM (dtab_at okX10_copy 30 rfl) (by decide) rfl (fun (h53 : (S.2 2 a1.toNatClampNeg) = (S.2 2 a3.toNatClampNeg)) => ?_) (fun (h53 : ¬ (S.2 2 a1.toNatClampNeg) = (S.2 2 a3.toNatClampNeg)) => ?_)
          · skip
            rw [if_pos h53] at hf
            refine w_iln (q := 2) (n := 63) hM (dtab_at okX10_copy 35 rfl) rfl rfl ?_
            refine w_if_lt (n := 111) (n2 := 66) hM (dtab_at okX10_copy 36 rfl) (by decide) rfl (fun (h63 : a2 < (0 : Int32)) => ?_) (fun (h63 : ¬ a2 < (0 : Int32)) => ?_)
            · skip
              rw [if_pos h63] at hf
              refine w_aln (q := 0) (n := 112) hM (dtab_at okX10_copy 65 rfl) rfl rfl ?_
              refine w_ic (n := 113) hM (2 : Int32) (dtab_at okX10_copy 66 rfl) (by decide) rfl ?_
              refine w_callVi (n := 116) (As := [vi (2 : Int32)]) (rest := []) (k := 10) (j := 0) (C := RX10) (T := TX10) (N := 43) hM (c_X10_meets S (2 : Int32)) lkM_X10_128 mv_X10_meets (by decide) rfl (by decide) rfl (Nat.le_of_ble_eq_true rfl) rfl (dtab_at okX10_copy 67 rfl) rfl (fun x3 S3 hp3 => ?_)
              have hx_ := congrArg Prod.fst hp3
              have hs_ := congrArg Prod.snd hp3
              dsimp only at hx_ hs_
              subst hx_
              subst hs_
              exact r_i hM (dtab_at okX10_copy 68 rfl) (Option.some.inj hf)
            · skip
              rw [if_neg h63] at hf
              refine w_il (q := 4) (n := 68) hM (dtab_at okX10_copy 37 rfl) rfl rfl ?_
              refine w_if_lt (n := 111) (n2 := 71) hM (dtab_at okX10_copy 38 rfl) (by decide) rfl (fun (h68 : a4 < (0 : Int32)) => ?_) (fun (h68 : ¬ a4 < (0 : Int32)) => ?_)
              · skip
                rw [if_pos h68] at hf
                refine w_aln (q := 0) (n := 112) hM (dtab_at okX10_copy 65 rfl) rfl rfl ?_
                refine w_ic (n := 113) hM (2 : Int32) (dtab_at okX10_copy 66 rfl) (by decide) rfl ?_
                refine w_callVi (n := 116) (As := [vi (2 : Int32)]) (rest := []) (k := 10) (j := 0) (C := RX10) (T := TX10) (N := 43) hM (c_X10_meets S (2 : Int32)) lkM_X10_128 mv_X10_meets (by decide) rfl (by decide) rfl (Nat.le_of_ble_eq_true rfl) rfl (dtab_at okX10_copy 67 rfl) rfl (fun x4 S4 hp4 => ?_)
                have hx_ := congrArg Prod.fst hp4
                have hs_ := congrArg Prod.snd hp4
                dsimp only at hx_ hs_
                subst hx_
                subst hs_
                exact r_i hM (dtab_at okX10_copy 68 rfl) (Option.some.inj hf)
              · skip
                rw [if_neg h68] at hf
                refine w_il (q := 5) (n := 73) hM (dtab_at okX10_copy 39 rfl) rfl rfl ?_
                refine w_if_lt (n := 111) (n2 := 76) hM (dtab_at okX10_copy 40 rfl) (by decide) rfl (fun (h73 : a5 < (0 : Int32)) => ?_) (fun (h73 : ¬ a5 < (0 : Int32)) => ?_)
                · skip
                  rw [if_pos h73] at hf
                  refine w_aln (q := 0) (n := 112) hM (dtab_at okX10_copy 65 rfl) rfl rfl ?_
                  refine w_ic (n := 113) hM (2 : Int32) (dtab_at okX10_copy 66 rfl) (by decide) rfl ?_
                  refine w_callVi (n := 116) (As := [vi (2 : Int32)]) (rest := []) (k := 10) (j := 0) (C := RX10) (T := TX10) (N := 43) hM (c_X10_meets S (2 : Int32)) lkM_X10_128 mv_X10_meets (by decide) rfl (by decide) rfl (Nat.le_of_ble_eq_true rfl) rfl (dtab_at okX10_copy 67 rfl) rfl (fun x5 S5 hp5 => ?_)
                  have hx_ := congrArg Prod.fst hp5
                  have hs_ := congrArg Prod.snd hp5
                  dsimp only at hx_ hs_
                  subst hx_
                  subst hs_
                  exact r_i hM (dtab_at okX10_copy 68 rfl) (Option.some.inj hf)
                · skip
                  rw [if_neg h73] at hf
                  refine w_iln (q := 2) (n := 77) hM (dtab_at okX10_copy 41 rfl) rfl rfl ?_
                  refine w_i2l (n := 78) hM (dtab_at okX10_copy 42 rfl) rfl ?_
                  refine w_il (q := 5) (n := 80) hM (dtab_at okX10_copy 43 rfl) rfl rfl ?_
                  refine w_i2l (n := 81) hM (dtab_at okX10_copy 44 rfl) rfl ?_
                  refine w_ladd (n := 82) hM (dtab_at okX10_copy 45 rfl) rfl ?_
                  refine w_aln (q := 0) (n := 83) hM (dtab_at okX10_copy 46 rfl) rfl rfl ?_
                  refine w_getr (C := RX10) (T := TX10) (i := 2) (k2 := 108) (q := 3) (n := 86) hM rfl (by decide) (fun _ => rfl) ly_X10 lkF_X10_17 (dtab_at okX10_copy 47 rfl) rfl ?_
                  refine w_iln (q := 1) (n := 87) hM (dtab_at okX10_copy 48 rfl) rfl rfl ?_
                  refine w_ald (nn := 8) (n := 88) hM rfl hg22 (dtab_at okX10_copy 49 rfl) rfl ?_
                  refine w_i2l (n := 89) hM (dtab_at okX10_copy 50 rfl) rfl ?_
                  refine w_lcmp (n := 90) hM (dtab_at okX10_copy 51 rfl) rfl ?_
                  refine w_if_gt (n := 111) (n2 := 93) hM (dtab_at okX10_copy 52 rfl) (by decide) rfl (fun (h90 : (0 : Int32) < (lg_cmp (a2.toInt64 + a5.toInt64) (S.2 3 a1.toNatClampNeg).toInt64)) => ?_) (fun (h90 : ¬ (0 : Int32) < (lg_cmp (a2.toInt64 + a5.toInt64) (S.2 3 a1.toNatClampNeg).toInt64)) => ?_)
                  · skip
                    rw [if_pos h90] at hf
                    refine w_aln (q := 0) (n := 112) hM (dtab_at okX10_copy 65 rfl) rfl rfl ?_
                    refine w_ic (n := 113) hM (2 : Int32) (dtab_at okX10_copy 66 rfl) (by decide) rfl ?_
                    refine w_callVi (n := 116) (As := [vi (2 : Int32)]) (rest := []) (k := 10) (j := 0) (C := RX10) (T := TX10) (N := 43) hM (c_X10_meets S (2 : Int32)) lkM_X10_128 mv_X10_meets (by decide) rfl (by decide) rfl (Nat.le_of_ble_eq_true rfl) rfl (dtab_at okX10_copy 67 rfl) rfl (fun x6 S6 hp6 => ?_)
                    have hx_ := congrArg Prod.fst hp6
                    have hs_ := congrArg Prod.snd hp6
                    dsimp only at hx_ hs_
                    subst hx_
                    subst hs_
                    exact r_i hM (dtab_at okX10_copy 68 rfl) (Option.some.inj hf)
                  · skip
                    rw [if_neg h90] at hf
                    refine w_il (q := 4) (n := 95) hM (dtab_at okX10_copy 53 rfl) rfl rfl ?_
                    refine w_i2l (n := 96) hM (dtab_at okX10_copy 54 rfl) rfl ?_
                    refine w_il (q := 5) (n := 98) hM (dtab_at okX10_copy 55 rfl) rfl rfl ?_
                    refine w_i2l (n := 99) hM (dtab_at okX10_copy 56 rfl) rfl ?_
                    refine w_ladd (n := 100) hM (dtab_at okX10_copy 57 rfl) rfl ?_
                    refine w_aln (q := 0) (n := 101) hM (dtab_at okX10_copy 58 rfl) rfl rfl ?_
                    refine w_getr (C := RX10) (T := TX10) (i := 2) (k2 := 108) (q := 3) (n := 104) hM rfl (by decide) (fun _ => rfl) ly_X10 lkF_X10_17 (dtab_at okX10_copy 59 rfl) rfl ?_
                    refine w_iln (q := 3) (n := 105) hM (dtab_at okX10_copy 60 rfl) rfl rfl ?_
                    refine w_ald (nn := 8) (n := 106) hM rfl hg31 (dtab_at okX10_copy 61 rfl) rfl ?_
                    refine w_i2l (n := 107) hM (dtab_at okX10_copy 62 rfl) rfl ?_
                    refine w_lcmp (n := 108) hM (dtab_at okX10_copy 63 rfl) rfl ?_
                    refine w_if_le (n := 117) (n2 := 111) hM (dtab_at okX10_copy 64 rfl) (by decide) rfl (fun (h108 : (lg_cmp (a4.toInt64 + a5.toInt64) (S.2 3 a3.toNatClampNeg).toInt64) ≤ (0 : Int32)) => ?_) (fun (h108 : ¬ (lg_cmp (a4.toInt64 + a5.toInt64) (S.2 3 a3.toNatClampNeg).toInt64) ≤ (0 : Int32)) => ?_)
                    · skip
                      rw [if_pos h108] at hf
                      refine w_ic (n := 118) hM (0 : Int32) (dtab_at okX10_copy 69 rfl) (by decide) rfl ?_
                      refine w_is (n := 120) (lv' := [(6, vi (0 : Int32)), (0, vr 10 0), (1, vi a1), (2, vi a2), (3, vi a3), (4, vi a4), (5, vi a5)]) hM (dtab_at okX10_copy 70 rfl) (by decide) rfl rfl ?_
                      refine WW.lvs [1, 2, 3, 4, 5, 6, 0] (lv2 := [(0, vr 10 0), (1, vi a1), (2, vi a2), (3, vi a3), (4, vi a4), (5, vi a5), (6, vi (0 : Int32))]) rfl ?_
                      exact wLX10_copy_120 hM nF r nF S a1 a2 a3 a4 a5 (0 : Int32) hf
                    · skip
                      rw [if_neg h108] at hf
                      refine w_aln (q := 0) (n := 112) hM (dtab_at okX10_copy 65 rfl) rfl rfl ?_
                      refine w_ic (n := 113) hM (2 : Int32) (dtab_at okX10_copy 66 rfl) (by decide) rfl ?_
                      refine w_callVi (n := 116) (As := [vi (2 : Int32)]) (rest := []) (k := 10) (j := 0) (C := RX10) (T := TX10) (N := 43) hM (c_X10_meets S (2 : Int32)) lkM_X10_128 mv_X10_meets (by decide) rfl (by decide) rfl (Nat.le_of_ble_eq_true rfl) rfl (dtab_at okX10_copy 67 rfl) rfl (fun x7 S7 hp7 => ?_)
                      have hx_ := congrArg Prod.fst hp7
                      have hs_ := congrArg Prod.snd hp7
                      dsimp only at hx_ hs_
                      subst hx_
                      subst hs_
                      exact r_i hM (dtab_at okX10_copy 68 rfl) (Option.some.inj hf)
          · skip
            rw [if_neg h53] at hf
            refine w_aln (q := 0) (n := 57) hM (dtab_at okX10_copy 31 rfl) rfl rfl ?_
            refine w_ic (n := 58) hM (4 : Int32) (dtab_at okX10_copy 32 rfl) (by decide) rfl ?_
            refine w_callVi (n := 61) (As := [vi (4 : Int32)]) (rest := []) (k := 10) (j := 0) (C := RX10) (T := TX10) (N := 43) hM (c_X10_meets S (4 : Int32)) lkM_X10_128 mv_X10_meets (by decide) rfl (by decide) rfl (Nat.le_of_ble_eq_true rfl) rfl (dtab_at okX10_copy 33 rfl) rfl (fun x8 S8 hp8 => ?_)
            have hx_ := congrArg Prod.fst hp8
            have hs_ := congrArg Prod.snd hp8
            dsimp only at hx_ hs_
            subst hx_
            subst hs_
            exact r_i hM (dtab_at okX10_copy 34 rfl) (Option.some.inj hf)
        · skip
          rw [if_pos h32] at hf
          refine w_aln (q := 0) (n := 36) hM (dtab_at okX10_copy 18 rfl) rfl rfl ?_
          refine w_ic (n := 37) hM (1 : Int32) (dtab_at okX10_copy 19 rfl) (by decide) rfl ?_
          refine w_callVi (n := 40) (As := [vi (1 : Int32)]) (rest := []) (k := 10) (j := 0) (C := RX10) (T := TX10) (N := 43) hM (c_X10_meets S (1 : Int32)) lkM_X10_128 mv_X10_meets (by decide) rfl (by decide) rfl (Nat.le_of_ble_eq_true rfl) rfl (dtab_at okX10_copy 20 rfl) rfl (fun x9 S9 hp9 => ?_)
          have hx_ := congrArg Prod.fst hp9
          have hs_ := congrArg Prod.snd hp9
          dsimp only at hx_ hs_
          subst hx_
          subst hs_
          exact r_i hM (dtab_at okX10_copy 21 rfl) (Option.some.inj hf)
    · skip
      rw [if_pos h11] at hf
      refine w_bi (n := 16) hM (-2 : Int32) (dtab_at okX10_copy 6 rfl) (by decide) rfl ?_
      exact r_i hM (dtab_at okX10_copy 7 rfl) (Option.some.inj hf)
