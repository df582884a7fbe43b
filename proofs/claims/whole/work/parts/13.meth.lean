def fX10_isRun (S : PS) (a1 : Int32) : Int32 := (fX10_in S a1 (0 : Int32) (1 : Int32))
set_option maxHeartbeats 4000000 in
set_option maxRecDepth 100000 in
theorem c_X10_isRun {cy : ClassId × ClassId} {ad : Nat → Nat} {D : va_G} {l : Launch} (S : PS) (a1 : Int32)  : PMi cy GM ad D l yX10_isRun (wA yX10_isRun cX10_isRun 1 (some .boolean)) rmX10_isRun [vi a1] S (fun x S' => x = (fX10_isRun S a1) ∧ S' = S) := by
  refine PM.of (lv := [(0, vi a1)]) GM_ok (by decide) (Nat.le_of_ble_eq_true rfl) rfl (by simp) ?_
  intro p e s m args below meth c A hM
  refine w_iln (q := 0) (n := 1) hM (dtab_at okX10_isRun 0 rfl) rfl rfl ?_
  refine w_ic (n := 2) hM (0 : Int32) (dtab_at okX10_isRun 1 rfl) (by decide) rfl ?_
  refine w_ic (n := 3) hM (1 : Int32) (dtab_at okX10_isRun 2 rfl) (by decide) rfl ?_
  refine w_callSi (n := 6) (As := [vi a1, vi (0 : Int32), vi (1 : Int32)]) (rest := []) hM (c_X10_in S a1 (0 : Int32) (1 : Int32)) lkM_X10_120 ms_X10_in (by decide) rfl (Nat.le_of_ble_eq_true rfl) rfl (dtab_at okX10_isRun 3 rfl) rfl (fun x0 S0 hp0 => ?_)
  obtain ⟨hx_, hs_⟩ := hp0
  have hs_ := hs_.symm
  subst hs_
  subst hx_
  exact r_z hM (nar_bi (fX10_in_01 _ _ _ _)) (dtab_at okX10_isRun 4 rfl) ⟨by rw [fX10_isRun], rfl⟩
def fX10_reading (nF : Nat) (S : PS) (a1 : Int32) (a2 : Int32) : Option (Int32) := (if a1 < 0 ∨ 8 ≤ a1.toNatClampNeg then none else (if (S.2 1 a1.toNatClampNeg) = (0 : Int32) then (some (-1 : Int32)) else (if a2 < (S.2 3 a1.toNatClampNeg) then (if (((150 : Int32) * a1) + a2) < 0 ∨ 1200 ≤ (((150 : Int32) * a1) + a2).toNatClampNeg then none else (if (fX10_in S (S.2 4 (((150 : Int32) * a1) + a2).toNatClampNeg) (0 : Int32) (30000 : Int32)) = (0 : Int32) then (some (-1 : Int32)) else (some (S.2 4 (((150 : Int32) * a1) + a2).toNatClampNeg)))) else (some (-1 : Int32)))))
set_option maxHeartbeats 4000000 in
set_option maxRecDepth 100000 in
theorem c_X10_reading {cy : ClassId × ClassId} {ad : Nat → Nat} {D : va_G} {l : Launch} (nF : Nat) (S : PS) (a1 : Int32) (a2 : Int32) (r : Int32) (hf : fX10_reading nF S a1 a2 = some r) : PMi cy GM ad D l yX10_reading (wA yX10_reading cX10_reading 4 (some .int)) rmX10_reading [vr 10 0, vi a1, vi a2] S (fun x S' => x = r ∧ S' = S) := by
  refine PM.of (lv := [(0, vr 10 0), (1, vi a1), (2, vi a2)]) GM_ok (by decide) (Nat.le_of_ble_eq_true rfl) rfl (by simp) ?_
  intro p e s m args below meth c A hM
  rw [fX10_reading] at hf
  obtain ⟨S0, hS⟩ : ∃ S0 : PS, S = S0 := ⟨S, rfl⟩
  rw [show (fun (x : Int32) (S' : PS) => x = r ∧ S' = S) = (fun x S' => x = r ∧ S' = S0) by rw [hS]]
  refine w_aln (q := 0) (n := 1) hM (dtab_at okX10_reading 0 rfl) rfl rfl ?_
  refine w_getr (C := RX10) (T := TX10) (i := 0) (k2 := 28) (q := 1) (n := 4) hM rfl (by decide) (fun _ => rfl) ly_X10 lkF_X10_7 (dtab_at okX10_reading 1 rfl) rfl ?_
  refine w_iln (q := 1) (n := 5) hM (dtab_at okX10_reading 2 rfl) rfl rfl ?_
  by_cases hg5 : a1 < 0 ∨ 8 ≤ a1.toNatClampNeg
  · rw [if_pos hg5] at hf; cases hf
  rw [if_neg hg5] at hf
  refine w_zld (nn := 8) (n := 6) hM rfl (by decide) hg5 (dtab_at okX10_reading 3 rfl) rfl ?_
  refine w_if_eq (n := 19) (n2 := 9) hM (dtab_at okX10_reading 4 rfl) (by decide) rfl (fun (h6 : (S.2 1 a1.toNatClampNeg) = (0 : Int32)) => ?_) (fun (h6 : ¬ (S.2 1 a1.toNatClampNeg) = (0 : Int32)) => ?_)
  · skip
    rw [if_pos h6] at hf
    refine w_ic (n := 20) hM (-1 : Int32) (dtab_at okX10_reading 11 rfl) (by decide) rfl ?_
    exact r_i hM (dtab_at okX10_reading 12 rfl) ⟨Option.some.inj hf, hS⟩
  · skip
    rw [if_neg h6] at hf
    refine w_iln (q := 2) (n := 10) hM (dtab_at okX10_reading 5 rfl) rfl rfl ?_
    refine w_aln (q := 0) (n := 11) hM (dtab_at okX10_reading 6 rfl) rfl rfl ?_
    refine w_getr (C := RX10) (T := TX10) (i := 2) (k2 := 108) (q := 3) (n := 14) hM rfl (by decide) (fun _ => rfl) ly_X10 lkF_X10_17 (dtab_at okX10_reading 7 rfl) rfl ?_
    refine w_iln (q := 1) (n := 15) hM (dtab_at okX10_reading 8 rfl) rfl rfl ?_
    refine w_ald (nn := 8) (n := 16) hM rfl hg5 (dtab_at okX10_reading 9 rfl) rfl ?_
    refine w_ic_lt (n := 21) (n2 := 19) hM (dtab_at okX10_reading 10 rfl) (by decide) rfl (fun (h16 : a2 < (S.2 3 a1.toNatClampNeg)) => ?_) (fun (h16 : ¬ a2 < (S.2 3 a1.toNatClampNeg)) => ?_)
    · skip
      rw [if_pos h16] at hf
      refine w_aln (q := 0) (n := 22) hM (dtab_at okX10_reading 13 rfl) rfl rfl ?_
      refine w_getr (C := RX10) (T := TX10) (i := 3) (k2 := 1300) (q := 4) (n := 25) hM rfl (by decide) (fun _ => rfl) ly_X10 lkF_X10_20 (dtab_at okX10_reading 14 rfl) rfl ?_
      refine w_si (n := 28) hM (150 : Int32) (dtab_at okX10_reading 15 rfl) (by decide) rfl ?_
      refine w_iln (q := 1) (n := 29) hM (dtab_at okX10_reading 16 rfl) rfl rfl ?_
      refine w_imul (n := 30) hM (dtab_at okX10_reading 17 rfl) rfl ?_
      refine w_iln (q := 2) (n := 31) hM (dtab_at okX10_reading 18 rfl) rfl rfl ?_
      refine w_iadd (n := 32) hM (dtab_at okX10_reading 19 rfl) rfl ?_
      by_cases hg32 : (((150 : Int32) * a1) + a2) < 0 ∨ 1200 ≤ (((150 : Int32) * a1) + a2).toNatClampNeg
      · rw [if_pos hg32] at hf; cases hf
      rw [if_neg hg32] at hf
      refine w_ald (nn := 1200) (n := 33) hM rfl hg32 (dtab_at okX10_reading 20 rfl) rfl ?_
      refine w_isn (n := 34) (lv' := [(3, vi (S.2 4 (((150 : Int32) * a1) + a2).toNatClampNeg)), (0, vr 10 0), (1, vi a1), (2, vi a2)]) hM (dtab_at okX10_reading 21 rfl) (by decide) rfl rfl ?_
      refine w_iln (q := 0) (n := 35) hM (dtab_at okX10_reading 22 rfl) rfl rfl ?_
      refine w_ic (n := 36) hM (0 : Int32) (dtab_at okX10_reading 23 rfl) (by decide) rfl ?_
      refine w_si (n := 39) hM (30000 : Int32) (dtab_at okX10_reading 24 rfl) (by decide) rfl ?_
      refine w_callSi (n := 42) (As := [vi (S.2 4 (((150 : Int32) * a1) + a2).toNatClampNeg), vi (0 : Int32), vi (30000 : Int32)]) (rest := []) hM (c_X10_in S (S.2 4 (((150 : Int32) * a1) + a2).toNatClampNeg) (0 : Int32) (30000 : Int32)) lkM_X10_120 ms_X10_in (by decide) rfl (Nat.le_of_ble_eq_true rfl) rfl (dtab_at okX10_reading 25 rfl) rfl (fun x0 S0 hp0 => ?_)
      obtain ⟨hx_, hs_⟩ := hp0
      have hs_ := hs_.symm
      subst hs_
      subst hx_
      refine w_if_eq (n := 49) (n2 := 45) hM (dtab_at okX10_reading 26 rfl) (by decide) rfl (fun (h42 : (fX10_in S (S.2 4 (((150 : Int32) * a1) + a2).toNatClampNeg) (0 : Int32) (30000 : Int32)) = (0 : Int32)) => ?_) (fun (h42 : ¬ (fX10_in S (S.2 4 (((150 : Int32) * a1) + a2).toNatClampNeg) (0 : Int32) (30000 : Int32)) = (0 : Int32)) => ?_)
      · skip
        rw [if_pos h42] at hf
        refine w_ic (n := 50) hM (-1 : Int32) (dtab_at okX10_reading 29 rfl) (by decide) rfl ?_
        exact r_i hM (dtab_at okX10_reading 30 rfl) ⟨Option.some.inj hf, hS⟩
      · skip
        rw [if_neg h42] at hf
        refine w_iln (q := 0) (n := 46) hM (dtab_at okX10_reading 27 rfl) rfl rfl ?_
        refine w_goto (n := 50) hM (dtab_at okX10_reading 28 rfl) (by decide) ?_
        exact r_i hM (dtab_at okX10_reading 30 rfl) ⟨Option.some.inj hf, hS⟩
    · skip
      rw [if_neg h16] at hf
      refine w_ic (n := 20) hM (-1 : Int32) (dtab_at okX10_reading 11 rfl) (by decide) rfl ?_
      exact r_i hM (dtab_at okX10_reading 12 rfl) ⟨Option.some.inj hf, hS⟩
def fX10_middle (S : PS) (a1 : Int32) (a2 : Int32) (a3 : Int32) : Int32 := if a2 ≤ a1 then (if a2 ≤ a3 then (if a1 ≤ a2 then (if a3 ≤ a2 then (if a2 = (-1 : Int32) then a2 else ((((a1 + a2) + a3) - a2) - a2)) else (if a2 = (-1 : Int32) then a3 else ((((a1 + a2) + a3) - a2) - a3))) else (if a3 ≤ a1 then (if a2 = (-1 : Int32) then a1 else ((((a1 + a2) + a3) - a2) - a1)) else (if a2 = (-1 : Int32) then a3 else ((((a1 + a2) + a3) - a2) - a3)))) else (if a1 ≤ a2 then (if a3 ≤ a2 then (if a3 = (-1 : Int32) then a2 else ((((a1 + a2) + a3) - a3) - a2)) else (if a3 = (-1 : Int32) then a3 else ((((a1 + a2) + a3) - a3) - a3))) else (if a3 ≤ a1 then (if a3 = (-1 : Int32) then a1 else ((((a1 + a2) + a3) - a3) - a1)) else (if a3 = (-1 : Int32) then a3 else ((((a1 + a2) + a3) - a3) - a3))))) else (if a1 ≤ a3 then (if a1 ≤ a2 then (if a3 ≤ a2 then (if a1 = (-1 : Int32) then a2 else ((((a1 + a2) + a3) - a1) - a2)) else (if a1 = (-1 : Int32) then a3 else ((((a1 + a2) + a3) - a1) - a3))) else (if a3 ≤ a1 then (if a1 = (-1 : Int32) then a1 else ((((a1 + a2) + a3) - a1) - a1)) else (if a1 = (-1 : Int32) then a3 else ((((a1 + a2) + a3) - a1) - a3)))) else (if a1 ≤ a2 then (if a3 ≤ a2 then (if a3 = (-1 : Int32) then a2 else ((((a1 + a2) + a3) - a3) - a2)) else (if a3 = (-1 : Int32) then a3 else ((((a1 + a2) + a3) - a3) - a3))) else (if a3 ≤ a1 then (if a3 = (-1 : Int32) then a1 else ((((a1 + a2) + a3) - a3) - a1)) else (if a3 = (-1 : Int32) then a3 else ((((a1 + a2) + a3) - a3) - a3)))))
set_option maxHeartbeats 4000000 in
set_option maxRecDepth 100000 in
theorem c_X10_middle {cy : ClassId × ClassId} {ad : Nat → Nat} {D : va_G} {l : Launch} (S : PS) (a1 : Int32) (a2 : Int32) (a3 : Int32)  : PMi cy GM ad D l yX10_middle (wA yX10_middle cX10_middle 5 (some .int)) rmX10_middle [vi a1, vi a2, vi a3] S (fun x S' => x = (fX10_middle S a1 a2 a3) ∧ S' = S) := by
  refine PM.of (lv := [(0, vi a1), (1, vi a2), (2, vi a3)]) GM_ok (by decide) (Nat.le_of_ble_eq_true rfl) rfl (by simp) ?_
  intro p e s m args below meth c A hM
  refine w_iln (q := 0) (n := 1) hM (dtab_at okX10_middle 0 rfl) rfl rfl ?_
  refine w_iln (q := 1) (n := 2) hM (dtab_at okX10_middle 1 rfl) rfl rfl ?_
  refine w_ic_ge (n := 9) (n2 := 5) hM (dtab_at okX10_middle 2 rfl) (by decide) rfl (fun (h2 : a2 ≤ a1) => ?_) (fun (h2 : ¬ a2 ≤ a1) => ?_)
  · skip
    refine w_iln (q := 1) (n := 10) hM (dtab_at okX10_middle 5 rfl) rfl rfl ?_
    refine w_isn (n := 11) (lv' := [(3, vi a2), (0, vi a1), (1, vi a2), (2, vi a3)]) hM (dtab_at okX10_middle 6 rfl) (by decide) rfl rfl ?_
    refine w_iln (q := 3) (n := 12) hM (dtab_at okX10_middle 7 rfl) rfl rfl ?_
    refine w_iln (q := 0) (n := 13) hM (dtab_at okX10_middle 8 rfl) rfl rfl ?_
    refine w_ic_ge (n := 20) (n2 := 16) hM (dtab_at okX10_middle 9 rfl) (by decide) rfl (fun (h13 : a2 ≤ a3) => ?_) (fun (h13 : ¬ a2 ≤ a3) => ?_)
    · skip
      refine w_iln (q := 0) (n := 21) hM (dtab_at okX10_middle 12 rfl) rfl rfl ?_
      refine w_isn (n := 22) (lv' := [(3, vi a2), (0, vi a1), (1, vi a2), (2, vi a3)]) hM (dtab_at okX10_middle 13 rfl) (by decide) rfl rfl ?_
      refine w_iln (q := 1) (n := 23) hM (dtab_at okX10_middle 14 rfl) rfl rfl ?_
      refine w_iln (q := 2) (n := 24) hM (dtab_at okX10_middle 15 rfl) rfl rfl ?_
      refine w_ic_le (n := 31) (n2 := 27) hM (dtab_at okX10_middle 16 rfl) (by decide) rfl (fun (h24 : a1 ≤ a2) => ?_) (fun (h24 : ¬ a1 ≤ a2) => ?_)
      · skip
        refine w_iln (q := 2) (n := 32) hM (dtab_at okX10_middle 19 rfl) rfl rfl ?_
        refine w_is (n := 34) (lv' := [(4, vi a2), (3, vi a2), (0, vi a1), (1, vi a2), (2, vi a3)]) hM (dtab_at okX10_middle 20 rfl) (by decide) rfl rfl ?_
        refine w_iln (q := 4) (n := 35) hM (dtab_at okX10_middle 21 rfl) rfl rfl ?_
        refine w_il (q := 0) (n := 37) hM (dtab_at okX10_middle 22 rfl) rfl rfl ?_
        refine w_ic_le (n := 44) (n2 := 40) hM (dtab_at okX10_middle 23 rfl) (by decide) rfl (fun (h37 : a3 ≤ a2) => ?_) (fun (h37 : ¬ a3 ≤ a2) => ?_)
        · skip
          refine w_il (q := 0) (n := 46) hM (dtab_at okX10_middle 26 rfl) rfl rfl ?_
          refine w_is (n := 48) (lv' := [(4, vi a2), (3, vi a2), (0, vi a1), (1, vi a2), (2, vi a3)]) hM (dtab_at okX10_middle 27 rfl) (by decide) rfl rfl ?_
          refine w_iln (q := 1) (n := 49) hM (dtab_at okX10_middle 28 rfl) rfl rfl ?_
          refine w_ic (n := 50) hM (-1 : Int32) (dtab_at okX10_middle 29 rfl) (by decide) rfl ?_
          refine w_ic_ne (n := 58) (n2 := 53) hM (dtab_at okX10_middle 30 rfl) (by decide) rfl (fun (h50 : ¬ a2 = (-1 : Int32)) => ?_) (fun (h50 : a2 = (-1 : Int32)) => ?_)
          · skip
            refine w_iln (q := 2) (n := 59) hM (dtab_at okX10_middle 33 rfl) rfl rfl ?_
            refine w_iln (q := 3) (n := 60) hM (dtab_at okX10_middle 34 rfl) rfl rfl ?_
            refine w_iadd (n := 61) hM (dtab_at okX10_middle 35 rfl) rfl ?_
            refine w_iln (q := 4) (n := 62) hM (dtab_at okX10_middle 36 rfl) rfl rfl ?_
            refine w_iadd (n := 63) hM (dtab_at okX10_middle 37 rfl) rfl ?_
            refine w_iln (q := 1) (n := 64) hM (dtab_at okX10_middle 38 rfl) rfl rfl ?_
            refine w_isub (n := 65) hM (dtab_at okX10_middle 39 rfl) rfl ?_
            refine w_il (q := 0) (n := 67) hM (dtab_at okX10_middle 40 rfl) rfl rfl ?_
            refine w_isub (n := 68) hM (dtab_at okX10_middle 41 rfl) rfl ?_
            exact r_i hM (dtab_at okX10_middle 42 rfl) ⟨by rw [fX10_middle, if_pos h2, if_pos h13, if_pos h24, if_pos h37, if_neg h50], rfl⟩
          · skip
            refine w_il (q := 0) (n := 55) hM (dtab_at okX10_middle 31 rfl) rfl rfl ?_
            refine w_goto (n := 68) hM (dtab_at okX10_middle 32 rfl) (by decide) ?_
            exact r_i hM (dtab_at okX10_middle 42 rfl) ⟨by rw [fX10_middle, if_pos h2, if_pos h13, if_pos h24, if_pos h37, if_pos h50], rfl⟩
        · skip
          refine w_iln (q := 4) (n := 41) hM (dtab_at okX10_middle 24 rfl) rfl rfl ?_
          refine w_goto (n := 46) hM (dtab_at okX10_middle 25 rfl) (by decide) ?_
          refine w_is (n := 48) (lv' := [(4, vi a3), (3, vi a2), (0, vi a1), (1, vi a2), (2, vi a3)]) hM (dtab_at okX10_middle 27 rfl) (by decide) rfl rfl ?_
          refine w_iln (q := 1) (n := 49) hM (dtab_at okX10_middle 28 rfl) rfl rfl ?_
          refine w_ic (n := 50) hM (-1 : Int32) (dtab_at okX10_middle 29 rfl) (by decide) rfl ?_
          refine w_ic_ne (n := 58) (n2 := 53) hM (dtab_at okX10_middle 30 rfl) (by decide) rfl (fun (h50 : ¬ a2 = (-1 : Int32)) => ?_) (fun (h50 : a2 = (-1 : Int32)) => ?_)
          · skip
            refine w_iln (q := 2) (n := 59) hM (dtab_at okX10_middle 33 rfl) rfl rfl ?_
            refine w_iln (q := 3) (n := 60) hM (dtab_at okX10_middle 34 rfl) rfl rfl ?_
            refine w_iadd (n := 61) hM (dtab_at okX10_middle 35 rfl) rfl ?_
            refine w_iln (q := 4) (n := 62) hM (dtab_at okX10_middle 36 rfl) rfl rfl ?_
            refine w_iadd (n := 63) hM (dtab_at okX10_middle 37 rfl) rfl ?_
            refine w_iln (q := 1) (n := 64) hM (dtab_at okX10_middle 38 rfl) rfl rfl ?_
            refine w_isub (n := 65) hM (dtab_at okX10_middle 39 rfl) rfl ?_
            refine w_il (q := 0) (n := 67) hM (dtab_at okX10_middle 40 rfl) rfl rfl ?_
            refine w_isub (n := 68) hM (dtab_at okX10_middle 41 rfl) rfl ?_
            exact r_i hM (dtab_at okX10_middle 42 rfl) ⟨by rw [fX10_middle, if_pos h2, if_pos h13, if_pos h24, if_neg h37, if_neg h50], rfl⟩
          · skip
            refine w_il (q := 0) (n := 55) hM (dtab_at okX10_middle 31 rfl) rfl rfl ?_
            refine w_goto (n := 68) hM (dtab_at okX10_middle 32 rfl) (by decide) ?_
            exact r_i hM (dtab_at okX10_middle 42 rfl) ⟨by rw [fX10_middle, if_pos h2, if_pos h13, if_pos h24, if_neg h37, if_pos h50], rfl⟩
      · skip
        refine w_iln (q := 1) (n := 28) hM (dtab_at okX10_middle 17 rfl) rfl rfl ?_
        refine w_goto (n := 32) hM (dtab_at okX10_middle 18 rfl) (by decide) ?_
        refine w_is (n := 34) (lv' := [(4, vi a1), (3, vi a2), (0, vi a1), (1, vi a2), (2, vi a3)]) hM (dtab_at okX10_middle 20 rfl) (by decide) rfl rfl ?_
        refine w_iln (q := 4) (n := 35) hM (dtab_at okX10_middle 21 rfl) rfl rfl ?_
        refine w_il (q := 0) (n := 37) hM (dtab_at okX10_middle 22 rfl) rfl rfl ?_
        refine w_ic_le (n := 44) (n2 := 40) hM (dtab_at okX10_middle 23 rfl) (by decide) rfl (fun (h37 : a3 ≤ a1) => ?_) (fun (h37 : ¬ a3 ≤ a1) => ?_)
        · skip
          refine w_il (q := 0) (n := 46) hM (dtab_at okX10_middle 26 rfl) rfl rfl ?_
          refine w_is (n := 48) (lv' := [(4, vi a1), (3, vi a2), (0, vi a1), (1, vi a2), (2, vi a3)]) hM (dtab_at okX10_middle 27 rfl) (by decide) rfl rfl ?_
          refine w_iln (q := 1) (n := 49) hM (dtab_at okX10_middle 28 rfl) rfl rfl ?_
          refine w_ic (n := 50) hM (-1 : Int32) (dtab_at okX10_middle 29 rfl) (by decide) rfl ?_
          refine w_ic_ne (n := 58) (n2 := 53) hM (dtab_at okX10_middle 30 rfl) (by decide) rfl (fun (h50 : ¬ a2 = (-1 : Int32)) => ?_) (fun (h50 : a2 = (-1 : Int32)) => ?_)
          · skip
            refine w_iln (q := 2) (n := 59) hM (dtab_at okX10_middle 33 rfl) rfl rfl ?_
            refine w_iln (q := 3) (n := 60) hM (dtab_at okX10_middle 34 rfl) rfl rfl ?_
            refine w_iadd (n := 61) hM (dtab_at okX10_middle 35 rfl) rfl ?_
            refine w_iln (q := 4) (n := 62) hM (dtab_at okX10_middle 36 rfl) rfl rfl ?_
            refine w_iadd (n := 63) hM (dtab_at okX10_middle 37 rfl) rfl ?_
            refine w_iln (q := 1) (n := 64) hM (dtab_at okX10_middle 38 rfl) rfl rfl ?_
            refine w_isub (n := 65) hM (dtab_at okX10_middle 39 rfl) rfl ?_
            refine w_il (q := 0) (n := 67) hM (dtab_at okX10_middle 40 rfl) rfl rfl ?_
            refine w_isub (n := 68) hM (dtab_at okX10_middle 41 rfl) rfl ?_
            exact r_i hM (dtab_at okX10_middle 42 rfl) ⟨by rw [fX10_middle, if_pos h2, if_pos h13, if_neg h24, if_pos h37, if_neg h50], rfl⟩
          · skip
            refine w_il (q := 0) (n := 55) hM (dtab_at okX10_middle 31 rfl) rfl rfl ?_
            refine w_goto (n := 68) hM (dtab_at okX10_middle 32 rfl) (by decide) ?_
            exact r_i hM (dtab_at okX10_middle 42 rfl) ⟨by rw [fX10_middle, if_pos h2, if_pos h13, if_neg h24, if_pos h37, if_pos h50], rfl⟩
        · skip
          refine w_iln (q := 4) (n := 41) hM (dtab_at okX10_middle 24 rfl) rfl rfl ?_
          refine w_goto (n := 46) hM (dtab_at okX10_middle 25 rfl) (by decide) ?_
          refine w_is (n := 48) (lv' := [(4, vi a3), (3, vi a2), (0, vi a1), (1, vi a2), (2, vi a3)]) hM (dtab_at okX10_middle 27 rfl) (by decide) rfl rfl ?_
          refine w_iln (q := 1) (n := 49) hM (dtab_at okX10_middle 28 rfl) rfl rfl ?_
          refine w_ic (n := 50) hM (-1 : Int32) (dtab_at okX10_middle 29 rfl) (by decide) rfl ?_
          refine w_ic_ne (n := 58) (n2 := 53) hM (dtab_at okX10_middle 30 rfl) (by decide) rfl (fun (h50 : ¬ a2 = (-1 : Int32)) => ?_) (fun (h50 : a2 = (-1 : Int32)) => ?_)
          · skip
            refine w_iln (q := 2) (n := 59) hM (dtab_at okX10_middle 33 rfl) rfl rfl ?_
            refine w_iln (q := 3) (n := 60) hM (dtab_at okX10_middle 34 rfl) rfl rfl ?_
            refine w_iadd (n := 61) hM (dtab_at okX10_middle 35 rfl) rfl ?_
            refine w_iln (q := 4) (n := 62) hM (dtab_at okX10_middle 36 rfl) rfl rfl ?_
            refine w_iadd (n := 63) hM (dtab_at okX10_middle 37 rfl) rfl ?_
            refine w_iln (q := 1) (n := 64) hM (dtab_at okX10_middle 38 rfl) rfl rfl ?_
            refine w_isub (n := 65) hM (dtab_at okX10_middle 39 rfl) rfl ?_
            refine w_il (q := 0) (n := 67) hM (dtab_at okX10_middle 40 rfl) rfl rfl ?_
            refine w_isub (n := 68) hM (dtab_at okX10_middle 41 rfl) rfl ?_
            exact r_i hM (dtab_at okX10_middle 42 rfl) ⟨by rw [fX10_middle, if_pos h2, if_pos h13, if_neg h24, if_neg h37, if_neg h50], rfl⟩
          · skip
            refine w_il (q := 0) (n := 55) hM (dtab_at okX10_middle 31 rfl) rfl rfl ?_
            refine w_goto (n := 68) hM (dtab_at okX10_middle 32 rfl) (by decide) ?_
            exact r_i hM (dtab_at okX10_middle 42 rfl) ⟨by rw [fX10_middle, if_pos h2, if_pos h13, if_neg h24, if_neg h37, if_pos h50], rfl⟩
    · skip
      refine w_iln (q := 3) (n := 17) hM (dtab_at okX10_middle 10 rfl) rfl rfl ?_
      refine w_goto (n := 21) hM (dtab_at okX10_middle 11 rfl) (by decide) ?_
      refine w_isn (n := 22) (lv' := [(3, vi a3), (0, vi a1), (1, vi a2), (2, vi a3)]) hM (dtab_at okX10_middle 13 rfl) (by decide) rfl rfl ?_
      refine w_iln (q := 1) (n := 23) hM (dtab_at okX10_middle 14 rfl) rfl rfl ?_
      refine w_iln (q := 2) (n := 24) hM (dtab_at okX10_middle 15 rfl) rfl rfl ?_
      refine w_ic_le (n := 31) (n2 := 27) hM (dtab_at okX10_middle 16 rfl) (by decide) rfl (fun (h24 : a1 ≤ a2) => ?_) (fun (h24 : ¬ a1 ≤ a2) => ?_)
      · skip
        refine w_iln (q := 2) (n := 32) hM (dtab_at okX10_middle 19 rfl) rfl rfl ?_
        refine w_is (n := 34) (lv' := [(4, vi a2), (3, vi a3), (0, vi a1), (1, vi a2), (2, vi a3)]) hM (dtab_at okX10_middle 20 rfl) (by decide) rfl rfl ?_
        refine w_iln (q := 4) (n := 35) hM (dtab_at okX10_middle 21 rfl) rfl rfl ?_
        refine w_il (q := 0) (n := 37) hM (dtab_at okX10_middle 22 rfl) rfl rfl ?_
        refine w_ic_le (n := 44) (n2 := 40) hM (dtab_at okX10_middle 23 rfl) (by decide) rfl (fun (h37 : a3 ≤ a2) => ?_) (fun (h37 : ¬ a3 ≤ a2) => ?_)
        · skip
          refine w_il (q := 0) (n := 46) hM (dtab_at okX10_middle 26 rfl) rfl rfl ?_
          refine w_is (n := 48) (lv' := [(4, vi a2), (3, vi a3), (0, vi a1), (1, vi a2), (2, vi a3)]) hM (dtab_at okX10_middle 27 rfl) (by decide) rfl rfl ?_
          refine w_iln (q := 1) (n := 49) hM (dtab_at okX10_middle 28 rfl) rfl rfl ?_
          refine w_ic (n := 50) hM (-1 : Int32) (dtab_at okX10_middle 29 rfl) (by decide) rfl ?_
          refine w_ic_ne (n := 58) (n2 := 53) hM (dtab_at okX10_middle 30 rfl) (by decide) rfl (fun (h50 : ¬ a3 = (-1 : Int32)) => ?_) (fun (h50 : a3 = (-1 : Int32)) => ?_)
          · skip
            refine w_iln (q := 2) (n := 59) hM (dtab_at okX10_middle 33 rfl) rfl rfl ?_
            refine w_iln (q := 3) (n := 60) hM (dtab_at okX10_middle 34 rfl) rfl rfl ?_
            refine w_iadd (n := 61) hM (dtab_at okX10_middle 35 rfl) rfl ?_
            refine w_iln (q := 4) (n := 62) hM (dtab_at okX10_middle 36 rfl) rfl rfl ?_
            refine w_iadd (n := 63) hM (dtab_at okX10_middle 37 rfl) rfl ?_
            refine w_iln (q := 1) (n := 64) hM (dtab_at okX10_middle 38 rfl) rfl rfl ?_
            refine w_isub (n := 65) hM (dtab_at okX10_middle 39 rfl) rfl ?_
            refine w_il (q := 0) (n := 67) hM (dtab_at okX10_middle 40 rfl) rfl rfl ?_
            refine w_isub (n := 68) hM (dtab_at okX10_middle 41 rfl) rfl ?_
            exact r_i hM (dtab_at okX10_middle 42 rfl) ⟨by rw [fX10_middle, if_pos h2, if_neg h13, if_pos h24, if_pos h37, if_neg h50], rfl⟩
          · skip
            refine w_il (q := 0) (n := 55) hM (dtab_at okX10_middle 31 rfl) rfl rfl ?_
            refine w_goto (n := 68) hM (dtab_at okX10_middle 32 rfl) (by decide) ?_
            exact r_i hM (dtab_at okX10_middle 42 rfl) ⟨by rw [fX10_middle, if_pos h2, if_neg h13, if_pos h24, if_pos h37, if_pos h50], rfl⟩
        · skip
          refine w_iln (q := 4) (n := 41) hM (dtab_at okX10_middle 24 rfl) rfl rfl ?_
          refine w_goto (n := 46) hM (dtab_at okX10_middle 25 rfl) (by decide) ?_
          refine w_is (n := 48) (lv' := [(4, vi a3), (3, vi a3), (0, vi a1), (1, vi a2), (2, vi a3)]) hM (dtab_at okX10_middle 27 rfl) (by decide) rfl rfl ?_
          refine w_iln (q := 1) (n := 49) hM (dtab_at okX10_middle 28 rfl) rfl rfl ?_
          refine w_ic (n := 50) hM (-1 : Int32) (dtab_at okX10_middle 29 rfl) (by decide) rfl ?_
          refine w_ic_ne (n := 58) (n2 := 53) hM (dtab_at okX10_middle 30 rfl) (by decide) rfl (fun (h50 : ¬ a3 = (-1 : Int32)) => ?_) (fun (h50 : a3 = (-1 : Int32)) => ?_)
          · skip
            refine w_iln (q := 2) (n := 59) hM (dtab_at okX10_middle 33 rfl) rfl rfl ?_
            refine w_iln (q := 3) (n := 60) hM (dtab_at okX10_middle 34 rfl) rfl rfl ?_
            refine w_iadd (n := 61) hM (dtab_at okX10_middle 35 rfl) rfl ?_
            refine w_iln (q := 4) (n := 62) hM (dtab_at okX10_middle 36 rfl) rfl rfl ?_
            refine w_iadd (n := 63) hM (dtab_at okX10_middle 37 rfl) rfl ?_
            refine w_iln (q := 1) (n := 64) hM (dtab_at okX10_middle 38 rfl) rfl rfl ?_
            refine w_isub (n := 65) hM (dtab_at okX10_middle 39 rfl) rfl ?_
            refine w_il (q := 0) (n := 67) hM (dtab_at okX10_middle 40 rfl) rfl rfl ?_
            refine w_isub (n := 68) hM (dtab_at okX10_middle 41 rfl) rfl ?_
            exact r_i hM (dtab_at okX10_middle 42 rfl) ⟨by rw [fX10_middle, if_pos h2, if_neg h13, if_pos h24, if_neg h37, if_neg h50], rfl⟩
          · skip
            refine w_il (q := 0) (n := 55) hM (dtab_at okX10_middle 31 rfl) rfl rfl ?_
            refine w_goto (n := 68) hM (dtab_at okX10_middle 32 rfl) (by decide) ?_
            exact r_i hM (dtab_at okX10_middle 42 rfl) ⟨by rw [fX10_middle, if_pos h2, if_neg h13, if_pos h24, if_neg h37, if_pos h50], rfl⟩
      · skip
        refine w_iln (q := 1) (n := 28) hM (dtab_at okX10_middle 17 rfl) rfl rfl ?_
        refine w_goto (n := 32) hM (dtab_at okX10_middle 18 rfl) (by decide) ?_
        refine w_is (n := 34) (lv' := [(4, vi a1), (3, vi a3), (0, vi a1), (1, vi a2), (2, vi a3)]) hM (dtab_at okX10_middle 20 rfl) (by decide) rfl rfl ?_
        refine w_iln (q := 4) (n := 35) hM (dtab_at okX10_middle 21 rfl) rfl rfl ?_
        refine w_il (q := 0) (n := 37) hM (dtab_at okX10_middle 22 rfl) rfl rfl ?_
        refine w_ic_le (n := 44) (n2 := 40) hM (dtab_at okX10_middle 23 rfl) (by decide) rfl (fun (h37 : a3 ≤ a1) => ?_) (fun (h37 : ¬ a3 ≤ a1) => ?_)
        · skip
          refine w_il (q := 0) (n := 46) hM (dtab_at okX10_middle 26 rfl) rfl rfl ?_
          refine w_is (n := 48) (lv' := [(4, vi a1), (3, vi a3), (0, vi a1), (1, vi a2), (2, vi a3)]) hM (dtab_at okX10_middle 27 rfl) (by decide) rfl rfl ?_
          refine w_iln (q := 1) (n := 49) hM (dtab_at okX10_middle 28 rfl) rfl rfl ?_
          refine w_ic (n := 50) hM (-1 : Int32) (dtab_at okX10_middle 29 rfl) (by decide) rfl ?_
          refine w_ic_ne (n := 58) (n2 := 53) hM (dtab_at okX10_middle 30 rfl) (by decide) rfl (fun (h50 : ¬ a3 = (-1 : Int32)) => ?_) (fun (h50 : a3 = (-1 : Int32)) => ?_)
          · skip
            refine w_iln (q := 2) (n := 59) hM (dtab_at okX10_middle 33 rfl) rfl rfl ?_
            refine w_iln (q := 3) (n := 60) hM (dtab_at okX10_middle 34 rfl) rfl rfl ?_
            refine w_iadd (n := 61) hM (dtab_at okX10_middle 35 rfl) rfl ?_
            refine w_iln (q := 4) (n := 62) hM (dtab_at okX10_middle 36 rfl) rfl rfl ?_
            refine w_iadd (n := 63) hM (dtab_at okX10_middle 37 rfl) rfl ?_
            refine w_iln (q := 1) (n := 64) hM (dtab_at okX10_middle 38 rfl) rfl rfl ?_
            refine w_isub (n := 65) hM (dtab_at okX10_middle 39 rfl) rfl ?_
            refine w_il (q := 0) (n := 67) hM (dtab_at okX10_middle 40 rfl) rfl rfl ?_
            refine w_isub (n := 68) hM (dtab_at okX10_middle 41 rfl) rfl ?_
            exact r_i hM (dtab_at okX10_middle 42 rfl) ⟨by rw [fX10_middle, if_pos h2, if_neg h13, if_neg h24, if_pos h37, if_neg h50], rfl⟩
          · skip
            refine w_il (q := 0) (n := 55) hM (dtab_at okX10_middle 31 rfl) rfl rfl ?_
            refine w_goto (n := 68) hM (dtab_at okX10_middle 32 rfl) (by decide) ?_
            exact r_i hM (dtab_at okX10_middle 42 rfl) ⟨by rw [fX10_middle, if_pos h2, if_neg h13, if_neg h24, if_pos h37, if_pos h50], rfl⟩
        · skip
          refine w_iln (q := 4) (n := 41) hM (dtab_at okX10_middle 24 rfl) rfl rfl ?_
          refine w_goto (n := 46) hM (dtab_at okX10_middle 25 rfl) (by decide) ?_
          refine w_is (n := 48) (lv' := [(4, vi a3), (3, vi a3), (0, vi a1), (1, vi a2), (2, vi a3)]) hM (dtab_at okX10_middle 27 rfl) (by decide) rfl rfl ?_
          refine w_iln (q := 1) (n := 49) hM (dtab_at okX10_middle 28 rfl) rfl rfl ?_
          refine w_ic (n := 50) hM (-1 : Int32) (dtab_at okX10_middle 29 rfl) (by decide) rfl ?_
          refine w_ic_ne (n := 58) (n2 := 53) hM (dtab_at okX10_middle 30 rfl) (by decide) rfl (fun (h50 : ¬ a3 = (-1 : Int32)) => ?_) (fun (h50 : a3 = (-1 : Int32)) => ?_)
          · skip
            refine w_iln (q := 2) (n := 59) hM (dtab_at okX10_middle 33 rfl) rfl rfl ?_
            refine w_iln (q := 3) (n := 60) hM (dtab_at okX10_middle 34 rfl) rfl rfl ?_
            refine w_iadd (n := 61) hM (dtab_at okX10_middle 35 rfl) rfl ?_
            refine w_iln (q := 4) (n := 62) hM (dtab_at okX10_middle 36 rfl) rfl rfl ?_
            refine w_iadd (n := 63) hM (dtab_at okX10_middle 37 rfl) rfl ?_
            refine w_iln (q := 1) (n := 64) hM (dtab_at okX10_middle 38 rfl) rfl rfl ?_
            refine w_isub (n := 65) hM (dtab_at okX10_middle 39 rfl) rfl ?_
            refine w_il (q := 0) (n := 67) hM (dtab_at okX10_middle 40 rfl) rfl rfl ?_
            refine w_isub (n := 68) hM (dtab_at okX10_middle 41 rfl) rfl ?_
            exact r_i hM (dtab_at okX10_middle 42 rfl) ⟨by rw [fX10_middle, if_pos h2, if_neg h13, if_neg h24, if_neg h37, if_neg h50], rfl⟩
          · skip
            refine w_il (q := 0) (n := 55) hM (dtab_at okX10_middle 31 rfl) rfl rfl ?_
            refine w_goto (n := 68) hM (dtab_at okX10_middle 32 rfl) (by decide) ?_
            exact r_i hM (dtab_at okX10_middle 42 rfl) ⟨by rw [fX10_middle, if_pos h2, if_neg h13, if_neg h24, if_neg h37, if_pos h50], rfl⟩
  · skip
    refine w_iln (q := 0) (n := 6) hM (dtab_at okX10_middle 3 rfl) rfl rfl ?_
    refine w_goto (n := 10) hM (dtab_at okX10_middle 4 rfl) (by decide) ?_
    refine w_isn (n := 11) (lv' := [(3, vi a1), (0, vi a1), (1, vi a2), (2, vi a3)]) hM (dtab_at okX10_middle 6 rfl) (by decide) rfl rfl ?_
    refine w_iln (q := 3) (n := 12) hM (dtab_at okX10_middle 7 rfl) rfl rfl ?_
    refine w_iln (q := 0) (n := 13) hM (dtab_at okX10_middle 8 rfl) rfl rfl ?_
    refine w_ic_ge (n := 20) (n2 := 16) hM (dtab_at okX10_middle 9 rfl) (by decide) rfl (fun (h13 : a1 ≤ a3) => ?_) (fun (h13 : ¬ a1 ≤ a3) => ?_)
    · skip
      refine w_iln (q := 0) (n := 21) hM (dtab_at okX10_middle 12 rfl) rfl rfl ?_
      refine w_isn (n := 22) (lv' := [(3, vi a1), (0, vi a1), (1, vi a2), (2, vi a3)]) hM (dtab_at okX10_middle 13 rfl) (by decide) rfl rfl ?_
      refine w_iln (q := 1) (n := 23) hM (dtab_at okX10_middle 14 rfl) rfl rfl ?_
      refine w_iln (q := 2) (n := 24) hM (dtab_at okX10_middle 15 rfl) rfl rfl ?_
      refine w_ic_le (n := 31) (n2 := 27) hM (dtab_at okX10_middle 16 rfl) (by decide) rfl (fun (h24 : a1 ≤ a2) => ?_) (fun (h24 : ¬ a1 ≤ a2) => ?_)
      · skip
        refine w_iln (q := 2) (n := 32) hM (dtab_at okX10_middle 19 rfl) rfl rfl ?_
        refine w_is (n := 34) (lv' := [(4, vi a2), (3, vi a1), (0, vi a1), (1, vi a2), (2, vi a3)]) hM (dtab_at okX10_middle 20 rfl) (by decide) rfl rfl ?_
        refine w_iln (q := 4) (n := 35) hM (dtab_at okX10_middle 21 rfl) rfl rfl ?_
        refine w_il (q := 0) (n := 37) hM (dtab_at okX10_middle 22 rfl) rfl rfl ?_
        refine w_ic_le (n := 44) (n2 := 40) hM (dtab_at okX10_middle 23 rfl) (by decide) rfl (fun (h37 : a3 ≤ a2) => ?_) (fun (h37 : ¬ a3 ≤ a2) => ?_)
        · skip
          refine w_il (q := 0) (n := 46) hM (dtab_at okX10_middle 26 rfl) rfl rfl ?_
          refine w_is (n := 48) (lv' := [(4, vi a2), (3, vi a1), (0, vi a1), (1, vi a2), (2, vi a3)]) hM (dtab_at okX10_middle 27 rfl) (by decide) rfl rfl ?_
          refine w_iln (q := 1) (n := 49) hM (dtab_at okX10_middle 28 rfl) rfl rfl ?_
          refine w_ic (n := 50) hM (-1 : Int32) (dtab_at okX10_middle 29 rfl) (by decide) rfl ?_
          refine w_ic_ne (n := 58) (n2 := 53) hM (dtab_at okX10_middle 30 rfl) (by decide) rfl (fun (h50 : ¬ a1 = (-1 : Int32)) => ?_) (fun (h50 : a1 = (-1 : Int32)) => ?_)
          · skip
            refine w_iln (q := 2) (n := 59) hM (dtab_at okX10_middle 33 rfl) rfl rfl ?_
            refine w_iln (q := 3) (n := 60) hM (dtab_at okX10_middle 34 rfl) rfl rfl ?_
            refine w_iadd (n := 61) hM (dtab_at okX10_middle 35 rfl) rfl ?_
            refine w_iln (q := 4) (n := 62) hM (dtab_at okX10_middle 36 rfl) rfl rfl ?_
            refine w_iadd (n := 63) hM (dtab_at okX10_middle 37 rfl) rfl ?_
            refine w_iln (q := 1) (n := 64) hM (dtab_at okX10_middle 38 rfl) rfl rfl ?_
            refine w_isub (n := 65) hM (dtab_at okX10_middle 39 rfl) rfl ?_
            refine w_il (q := 0) (n := 67) hM (dtab_at okX10_middle 40 rfl) rfl rfl ?_
            refine w_isub (n := 68) hM (dtab_at okX10_middle 41 rfl) rfl ?_
            exact r_i hM (dtab_at okX10_middle 42 rfl) ⟨by rw [fX10_middle, if_neg h2, if_pos h13, if_pos h24, if_pos h37, if_neg h50], rfl⟩
          · skip
            refine w_il (q := 0) (n := 55) hM (dtab_at okX10_middle 31 rfl) rfl rfl ?_
            refine w_goto (n := 68) hM (dtab_at okX10_middle 32 rfl) (by decide) ?_
            exact r_i hM (dtab_at okX10_middle 42 rfl) ⟨by rw [fX10_middle, if_neg h2, if_pos h13, if_pos h24, if_pos h37, if_pos h50], rfl⟩
        · skip
          refine w_iln (q := 4) (n := 41) hM (dtab_at okX10_middle 24 rfl) rfl rfl ?_
          refine w_goto (n := 46) hM (dtab_at okX10_middle 25 rfl) (by decide) ?_
          refine w_is (n := 48) (lv' := [(4, vi a3), (3, vi a1), (0, vi a1), (1, vi a2), (2, vi a3)]) hM (dtab_at okX10_middle 27 rfl) (by decide) rfl rfl ?_
          refine w_iln (q := 1) (n := 49) hM (dtab_at okX10_middle 28 rfl) rfl rfl ?_
          refine w_ic (n := 50) hM (-1 : Int32) (dtab_at okX10_middle 29 rfl) (by decide) rfl ?_
          refine w_ic_ne (n := 58) (n2 := 53) hM (dtab_at okX10_middle 30 rfl) (by decide) rfl (fun (h50 : ¬ a1 = (-1 : Int32)) => ?_) (fun (h50 : a1 = (-1 : Int32)) => ?_)
          · skip
            refine w_iln (q := 2) (n := 59) hM (dtab_at okX10_middle 33 rfl) rfl rfl ?_
            refine w_iln (q := 3) (n := 60) hM (dtab_at okX10_middle 34 rfl) rfl rfl ?_
            refine w_iadd (n := 61) hM (dtab_at okX10_middle 35 rfl) rfl ?_
            refine w_iln (q := 4) (n := 62) hM (dtab_at okX10_middle 36 rfl) rfl rfl ?_
            refine w_iadd (n := 63) hM (dtab_at okX10_middle 37 rfl) rfl ?_
            refine w_iln (q := 1) (n := 64) hM (dtab_at okX10_middle 38 rfl) rfl rfl ?_
            refine w_isub (n := 65) hM (dtab_at okX10_middle 39 rfl) rfl ?_
            refine w_il (q := 0) (n := 67) hM (dtab_at okX10_middle 40 rfl) rfl rfl ?_
            refine w_isub (n := 68) hM (dtab_at okX10_middle 41 rfl) rfl ?_
            exact r_i hM (dtab_at okX10_middle 42 rfl) ⟨by rw [fX10_middle, if_neg h2, if_pos h13, if_pos h24, if_neg h37, if_neg h50], rfl⟩
          · skip
            refine w_il (q := 0) (n := 55) hM (dtab_at okX10_middle 31 rfl) rfl rfl ?_
            refine w_goto (n := 68) hM (dtab_at okX10_middle 32 rfl) (by decide) ?_
            exact r_i hM (dtab_at okX10_middle 42 rfl) ⟨by rw [fX10_middle, if_neg h2, if_pos h13, if_pos h24, if_neg h37, if_pos h50], rfl⟩
      · skip
        refine w_iln (q := 1) (n := 28) hM (dtab_at okX10_middle 17 rfl) rfl rfl ?_
        refine w_goto (n := 32) hM (dtab_at okX10_middle 18 rfl) (by decide) ?_
        refine w_is (n := 34) (lv' := [(4, vi a1), (3, vi a1), (0, vi a1), (1, vi a2), (2, vi a3)]) hM (dtab_at okX10_middle 20 rfl) (by decide) rfl rfl ?_
        refine w_iln (q := 4) (n := 35) hM (dtab_at okX10_middle 21 rfl) rfl rfl ?_
        refine w_il (q := 0) (n := 37) hM (dtab_at okX10_middle 22 rfl) rfl rfl ?_
        refine w_ic_le (n := 44) (n2 := 40) hM (dtab_at okX10_middle 23 rfl) (by decide) rfl (fun (h37 : a3 ≤ a1) => ?_) (fun (h37 : ¬ a3 ≤ a1) => ?_)
        · skip
          refine w_il (q := 0) (n := 46) hM (dtab_at okX10_middle 26 rfl) rfl rfl ?_
          refine w_is (n := 48) (lv' := [(4, vi a1), (3, vi a1), (0, vi a1), (1, vi a2), (2, vi a3)]) hM (dtab_at okX10_middle 27 rfl) (by decide) rfl rfl ?_
          refine w_iln (q := 1) (n := 49) hM (dtab_at okX10_middle 28 rfl) rfl rfl ?_
          refine w_ic (n := 50) hM (-1 : Int32) (dtab_at okX10_middle 29 rfl) (by decide) rfl ?_
          refine w_ic_ne (n := 58) (n2 := 53) hM (dtab_at okX10_middle 30 rfl) (by decide) rfl (fun (h50 : ¬ a1 = (-1 : Int32)) => ?_) (fun (h50 : a1 = (-1 : Int32)) => ?_)
          · skip
            refine w_iln (q := 2) (n := 59) hM (dtab_at okX10_middle 33 rfl) rfl rfl ?_
            refine w_iln (q := 3) (n := 60) hM (dtab_at okX10_middle 34 rfl) rfl rfl ?_
            refine w_iadd (n := 61) hM (dtab_at okX10_middle 35 rfl) rfl ?_
            refine w_iln (q := 4) (n := 62) hM (dtab_at okX10_middle 36 rfl) rfl rfl ?_
            refine w_iadd (n := 63) hM (dtab_at okX10_middle 37 rfl) rfl ?_
            refine w_iln (q := 1) (n := 64) hM (dtab_at okX10_middle 38 rfl) rfl rfl ?_
            refine w_isub (n := 65) hM (dtab_at okX10_middle 39 rfl) rfl ?_
            refine w_il (q := 0) (n := 67) hM (dtab_at okX10_middle 40 rfl) rfl rfl ?_
            refine w_isub (n := 68) hM (dtab_at okX10_middle 41 rfl) rfl ?_
            exact r_i hM (dtab_at okX10_middle 42 rfl) ⟨by rw [fX10_middle, if_neg h2, if_pos h13, if_neg h24, if_pos h37, if_neg h50], rfl⟩
          · skip
            refine w_il (q := 0) (n := 55) hM (dtab_at okX10_middle 31 rfl) rfl rfl ?_
            refine w_goto (n := 68) hM (dtab_at okX10_middle 32 rfl) (by decide) ?_
            exact r_i hM (dtab_at okX10_middle 42 rfl) ⟨by rw [fX10_middle, if_neg h2, if_pos h13, if_neg h24, if_pos h37, if_pos h50], rfl⟩
        · skip
          refine w_iln (q := 4) (n := 41) hM (dtab_at okX10_middle 24 rfl) rfl rfl ?_
          refine w_goto (n := 46) hM (dtab_at okX10_middle 25 rfl) (by decide) ?_
          refine w_is (n := 48) (lv' := [(4, vi a3), (3, vi a1), (0, vi a1), (1, vi a2), (2, vi a3)]) hM (dtab_at okX10_middle 27 rfl) (by decide) rfl rfl ?_
          refine w_iln (q := 1) (n := 49) hM (dtab_at okX10_middle 28 rfl) rfl rfl ?_
          refine w_ic (n := 50) hM (-1 : Int32) (dtab_at okX10_middle 29 rfl) (by decide) rfl ?_
          refine w_ic_ne (n := 58) (n2 := 53) hM (dtab_at okX10_middle 30 rfl) (by decide) rfl (fun (h50 : ¬ a1 = (-1 : Int32)) => ?_) (fun (h50 : a1 = (-1 : Int32)) => ?_)
          · skip
            refine w_iln (q := 2) (n := 59) hM (dtab_at okX10_middle 33 rfl) rfl rfl ?_
            refine w_iln (q := 3) (n := 60) hM (dtab_at okX10_middle 34 rfl) rfl rfl ?_
            refine w_iadd (n := 61) hM (dtab_at okX10_middle 35 rfl) rfl ?_
            refine w_iln (q := 4) (n := 62) hM (dtab_at okX10_middle 36 rfl) rfl rfl ?_
            refine w_iadd (n := 63) hM (dtab_at okX10_middle 37 rfl) rfl ?_
            refine w_iln (q := 1) (n := 64) hM (dtab_at okX10_middle 38 rfl) rfl rfl ?_
            refine w_isub (n := 65) hM (dtab_at okX10_middle 39 rfl) rfl ?_
            refine w_il (q := 0) (n := 67) hM (dtab_at okX10_middle 40 rfl) rfl rfl ?_
            refine w_isub (n := 68) hM (dtab_at okX10_middle 41 rfl) rfl ?_
            exact r_i hM (dtab_at okX10_middle 42 rfl) ⟨by rw [fX10_middle, if_neg h2, if_pos h13, if_neg h24, if_neg h37, if_neg h50], rfl⟩
          · skip
            refine w_il (q := 0) (n := 55) hM (dtab_at okX10_middle 31 rfl) rfl rfl ?_
            refine w_goto (n := 68) hM (dtab_at okX10_middle 32 rfl) (by decide) ?_
            exact r_i hM (dtab_at okX10_middle 42 rfl) ⟨by rw [fX10_middle, if_neg h2, if_pos h13, if_neg h24, if_neg h37, if_pos h50], rfl⟩
    · skip
      refine w_iln (q := 3) (n := 17) hM (dtab_at okX10_middle 10 rfl) rfl rfl ?_
      refine w_goto (n := 21) hM (dtab_at okX10_middle 11 rfl) (by decide) ?_
      refine w_isn (n := 22) (lv' := [(3, vi a3), (0, vi a1), (1, vi a2), (2, vi a3)]) hM (dtab_at okX10_middle 13 rfl) (by decide) rfl rfl ?_
      refine w_iln (q := 1) (n := 23) hM (dtab_at okX10_middle 14 rfl) rfl rfl ?_
      refine w_iln (q := 2) (n := 24) hM (dtab_at okX10_middle 15 rfl) rfl rfl ?_
      refine w_ic_le (n := 31) (n2 := 27) hM (dtab_at okX10_middle 16 rfl) (by decide) rfl (fun (h24 : a1 ≤ a2) => ?_) (fun (h24 : ¬ a1 ≤ a2) => ?_)
      · skip
        refine w_iln (q := 2) (n := 32) hM (dtab_at okX10_middle 19 rfl) rfl rfl ?_
        refine w_is (n := 34) (lv' := [(4, vi a2), (3, vi a3), (0, vi a1), (1, vi a2), (2, vi a3)]) hM (dtab_at okX10_middle 20 rfl) (by decide) rfl rfl ?_
        refine w_iln (q := 4) (n := 35) hM (dtab_at okX10_middle 21 rfl) rfl rfl ?_
        refine w_il (q := 0) (n := 37) hM (dtab_at okX10_middle 22 rfl) rfl rfl ?_
        refine w_ic_le (n := 44) (n2 := 40) hM (dtab_at okX10_middle 23 rfl) (by decide) rfl (fun (h37 : a3 ≤ a2) => ?_) (fun (h37 : ¬ a3 ≤ a2) => ?_)
        · skip
          refine w_il (q := 0) (n := 46) hM (dtab_at okX10_middle 26 rfl) rfl rfl ?_
          refine w_is (n := 48) (lv' := [(4, vi a2), (3, vi a3), (0, vi a1), (1, vi a2), (2, vi a3)]) hM (dtab_at okX10_middle 27 rfl) (by decide) rfl rfl ?_
          refine w_iln (q := 1) (n := 49) hM (dtab_at okX10_middle 28 rfl) rfl rfl ?_
          refine w_ic (n := 50) hM (-1 : Int32) (dtab_at okX10_middle 29 rfl) (by decide) rfl ?_
          refine w_ic_ne (n := 58) (n2 := 53) hM (dtab_at okX10_middle 30 rfl) (by decide) rfl (fun (h50 : ¬ a3 = (-1 : Int32)) => ?_) (fun (h50 : a3 = (-1 : Int32)) => ?_)
          · skip
            refine w_iln (q := 2) (n := 59) hM (dtab_at okX10_middle 33 rfl) rfl rfl ?_
            refine w_iln (q := 3) (n := 60) hM (dtab_at okX10_middle 34 rfl) rfl rfl ?_
            refine w_iadd (n := 61) hM (dtab_at okX10_middle 35 rfl) rfl ?_
            refine w_iln (q := 4) (n := 62) hM (dtab_at okX10_middle 36 rfl) rfl rfl ?_
            refine w_iadd (n := 63) hM (dtab_at okX10_middle 37 rfl) rfl ?_
            refine w_iln (q := 1) (n := 64) hM (dtab_at okX10_middle 38 rfl) rfl rfl ?_
            refine w_isub (n := 65) hM (dtab_at okX10_middle 39 rfl) rfl ?_
            refine w_il (q := 0) (n := 67) hM (dtab_at okX10_middle 40 rfl) rfl rfl ?_
            refine w_isub (n := 68) hM (dtab_at okX10_middle 41 rfl) rfl ?_
            exact r_i hM (dtab_at okX10_middle 42 rfl) ⟨by rw [fX10_middle, if_neg h2, if_neg h13, if_pos h24, if_pos h37, if_neg h50], rfl⟩
          · skip
            refine w_il (q := 0) (n := 55) hM (dtab_at okX10_middle 31 rfl) rfl rfl ?_
            refine w_goto (n := 68) hM (dtab_at okX10_middle 32 rfl) (by decide) ?_
            exact r_i hM (dtab_at okX10_middle 42 rfl) ⟨by rw [fX10_middle, if_neg h2, if_neg h13, if_pos h24, if_pos h37, if_pos h50], rfl⟩
        · skip
          refine w_iln (q := 4) (n := 41) hM (dtab_at okX10_middle 24 rfl) rfl rfl ?_
          refine w_goto (n := 46) hM (dtab_at okX10_middle 25 rfl) (by decide) ?_
          refine w_is (n := 48) (lv' := [(4, vi a3), (3, vi a3), (0, vi a1), (1, vi a2), (2, vi a3)]) hM (dtab_at okX10_middle 27 rfl) (by decide) rfl rfl ?_
          refine w_iln (q := 1) (n := 49) hM (dtab_at okX10_middle 28 rfl) rfl rfl ?_
          refine w_ic (n := 50) hM (-1 : Int32) (dtab_at okX10_middle 29 rfl) (by decide) rfl ?_
          refine w_ic_ne (n := 58) (n2 := 53) hM (dtab_at okX10_middle 30 rfl) (by decide) rfl (fun (h50 : ¬ a3 = (-1 : Int32)) => ?_) (fun (h50 : a3 = (-1 : Int32)) => ?_)
          · skip
            refine w_iln (q := 2) (n := 59) hM (dtab_at okX10_middle 33 rfl) rfl rfl ?_
            refine w_iln (q := 3) (n := 60) hM (dtab_at okX10_middle 34 rfl) rfl rfl ?_
            refine w_iadd (n := 61) hM (dtab_at okX10_middle 35 rfl) rfl ?_
            refine w_iln (q := 4) (n := 62) hM (dtab_at okX10_middle 36 rfl) rfl rfl ?_
            refine w_iadd (n := 63) hM (dtab_at okX10_middle 37 rfl) rfl ?_
            refine w_iln (q := 1) (n := 64) hM (dtab_at okX10_middle 38 rfl) rfl rfl ?_
            refine w_isub (n := 65) hM (dtab_at okX10_middle 39 rfl) rfl ?_
            refine w_il (q := 0) (n := 67) hM (dtab_at okX10_middle 40 rfl) rfl rfl ?_
            refine w_isub (n := 68) hM (dtab_at okX10_middle 41 rfl) rfl ?_
            exact r_i hM (dtab_at okX10_middle 42 rfl) ⟨by rw [fX10_middle, if_neg h2, if_neg h13, if_pos h24, if_neg h37, if_neg h50], rfl⟩
          · skip
            refine w_il (q := 0) (n := 55) hM (dtab_at okX10_middle 31 rfl) rfl rfl ?_
            refine w_goto (n := 68) hM (dtab_at okX10_middle 32 rfl) (by decide) ?_
            exact r_i hM (dtab_at okX10_middle 42 rfl) ⟨by rw [fX10_middle, if_neg h2, if_neg h13, if_pos h24, if_neg h37, if_pos h50], rfl⟩
      · skip
        refine w_iln (q := 1) (n := 28) hM (dtab_at okX10_middle 17 rfl) rfl rfl ?_
        refine w_goto (n := 32) hM (dtab_at okX10_middle 18 rfl) (by decide) ?_
        refine w_is (n := 34) (lv' := [(4, vi a1), (3, vi a3), (0, vi a1), (1, vi a2), (2, vi a3)]) hM (dtab_at okX10_middle 20 rfl) (by decide) rfl rfl ?_
        refine w_iln (q := 4) (n := 35) hM (dtab_at okX10_middle 21 rfl) rfl rfl ?_
        refine w_il (q := 0) (n := 37) hM (dtab_at okX10_middle 22 rfl) rfl rfl ?_
        refine w_ic_le (n := 44) (n2 := 40) hM (dtab_at okX10_middle 23 rfl) (by decide) rfl (fun (h37 : a3 ≤ a1) => ?_) (fun (h37 : ¬ a3 ≤ a1) => ?_)
        · skip
          refine w_il (q := 0) (n := 46) hM (dtab_at okX10_middle 26 rfl) rfl rfl ?_
          refine w_is (n := 48) (lv' := [(4, vi a1), (3, vi a3), (0, vi a1), (1, vi a2), (2, vi a3)]) hM (dtab_at okX10_middle 27 rfl) (by decide) rfl rfl ?_
          refine w_iln (q := 1) (n := 49) hM (dtab_at okX10_middle 28 rfl) rfl rfl ?_
          refine w_ic (n := 50) hM (-1 : Int32) (dtab_at okX10_middle 29 rfl) (by decide) rfl ?_
          refine w_ic_ne (n := 58) (n2 := 53) hM (dtab_at okX10_middle 30 rfl) (by decide) rfl (fun (h50 : ¬ a3 = (-1 : Int32)) => ?_) (fun (h50 : a3 = (-1 : Int32)) => ?_)
          · skip
            refine w_iln (q := 2) (n := 59) hM (dtab_at okX10_middle 33 rfl) rfl rfl ?_
            refine w_iln (q := 3) (n := 60) hM (dtab_at okX10_middle 34 rfl) rfl rfl ?_
            refine w_iadd (n := 61) hM (dtab_at okX10_middle 35 rfl) rfl ?_
            refine w_iln (q := 4) (n := 62) hM (dtab_at okX10_middle 36 rfl) rfl rfl ?_
            refine w_iadd (n := 63) hM (dtab_at okX10_middle 37 rfl) rfl ?_
            refine w_iln (q := 1) (n := 64) hM (dtab_at okX10_middle 38 rfl) rfl rfl ?_
            refine w_isub (n := 65) hM (dtab_at okX10_middle 39 rfl) rfl ?_
            refine w_il (q := 0) (n := 67) hM (dtab_at okX10_middle 40 rfl) rfl rfl ?_
            refine w_isub (n := 68) hM (dtab_at okX10_middle 41 rfl) rfl ?_
            exact r_i hM (dtab_at okX10_middle 42 rfl) ⟨by rw [fX10_middle, if_neg h2, if_neg h13, if_neg h24, if_pos h37, if_neg h50], rfl⟩
          · skip
            refine w_il (q := 0) (n := 55) hM (dtab_at okX10_middle 31 rfl) rfl rfl ?_
            refine w_goto (n := 68) hM (dtab_at okX10_middle 32 rfl) (by decide) ?_
            exact r_i hM (dtab_at okX10_middle 42 rfl) ⟨by rw [fX10_middle, if_neg h2, if_neg h13, if_neg h24, if_pos h37, if_pos h50], rfl⟩
        · skip
          refine w_iln (q := 4) (n := 41) hM (dtab_at okX10_middle 24 rfl) rfl rfl ?_
          refine w_goto (n := 46) hM (dtab_at okX10_middle 25 rfl) (by decide) ?_
          refine w_is (n := 48) (lv' := [(4, vi a3), (3, vi a3), (0, vi a1), (1, vi a2), (2, vi a3)]) hM (dtab_at okX10_middle 27 rfl) (by decide) rfl rfl ?_
          refine w_iln (q := 1) (n := 49) hM (dtab_at okX10_middle 28 rfl) rfl rfl ?_
          refine w_ic (n := 50) hM (-1 : Int32) (dtab_at okX10_middle 29 rfl) (by decide) rfl ?_
          refine w_ic_ne (n := 58) (n2 := 53) hM (dtab_at okX10_middle 30 rfl) (by decide) rfl (fun (h50 : ¬ a3 = (-1 : Int32)) => ?_) (fun (h50 : a3 = (-1 : Int32)) => ?_)
          · skip
            refine w_iln (q := 2) (n := 59) hM (dtab_at okX10_middle 33 rfl) rfl rfl ?_
            refine w_iln (q := 3) (n := 60) hM (dtab_at okX10_middle 34 rfl) rfl rfl ?_
            refine w_iadd (n := 61) hM (dtab_at okX10_middle 35 rfl) rfl ?_
            refine w_iln (q := 4) (n := 62) hM (dtab_at okX10_middle 36 rfl) rfl rfl ?_
            refine w_iadd (n := 63) hM (dtab_at okX10_middle 37 rfl) rfl ?_
            refine w_iln (q := 1) (n := 64) hM (dtab_at okX10_middle 38 rfl) rfl rfl ?_
            refine w_isub (n := 65) hM (dtab_at okX10_middle 39 rfl) rfl ?_
            refine w_il (q := 0) (n := 67) hM (dtab_at okX10_middle 40 rfl) rfl rfl ?_
            refine w_isub (n := 68) hM (dtab_at okX10_middle 41 rfl) rfl ?_
            exact r_i hM (dtab_at okX10_middle 42 rfl) ⟨by rw [fX10_middle, if_neg h2, if_neg h13, if_neg h24, if_neg h37, if_neg h50], rfl⟩
          · skip
            refine w_il (q := 0) (n := 55) hM (dtab_at okX10_middle 31 rfl) rfl rfl ?_
            refine w_goto (n := 68) hM (dtab_at okX10_middle 32 rfl) (by decide) ?_
            exact r_i hM (dtab_at okX10_middle 42 rfl) ⟨by rw [fX10_middle, if_neg h2, if_neg h13, if_neg h24, if_neg h37, if_pos h50], rfl⟩
def BX10_goThrough_224 (nF : Nat) (k90 : PS → Int32 → Int32 → Int32 → Int32 → Int32 → Int32 → Option (PS)) (S : PS) (v1 : Int32) (v2 : Int32) (v3 : Int32) (v4 : Int32) (v5 : Int32) (v6 : Int32) (t0 : Int32) : Option (PS) := (if t0 = (0 : Int32) then (k90 S v1 v2 v3 v4 v5 (v6 + (1 : Int32))) else (if (60 : Int32) ≤ (S.1 0 9) then (k90 S v1 v2 v3 v4 v4 (v6 + (1 : Int32))) else (if (S.1 0 9) < 0 ∨ 60 ≤ (S.1 0 9).toNatClampNeg then none else (k90 (sti (sta (sta S 7 (S.1 0 9).toNatClampNeg v5) 8 (S.1 0 9).toNatClampNeg (v4 - v5)) 0 9 ((S.1 0 9) + (1 : Int32))) v1 v2 v3 v4 v4 (v6 + (1 : Int32))))))
set_option maxHeartbeats 4000000 in
set_option maxRecDepth 100000 in
theorem wBX10_goThrough_224 {cy : ClassId × ClassId} {ad : Nat → Nat} {D : va_G} {p : Program} {l : Launch} {e : Env} {s : State} {m : MethodId} {args : Array Value} {below : List Frame} {meth : Method} {c : Code} {A : Nat → Prop} (hM : MX cy GM ad D p s m args meth c cX10_goThrough 9 RX10 none A) (nF : Nat) (r : PS) (k90 : PS → Int32 → Int32 → Int32 → Int32 → Int32 → Int32 → Option (PS)) (hk90 : ∀ (S : PS) (v1 : Int32) (v2 : Int32) (v3 : Int32) (v4 : Int32) (v5 : Int32) (v6 : Int32), k90 S v1 v2 v3 v4 v5 v6 = some r → WW cy GM ad D p l e rmX10_goThrough s m args below meth c 9 A (pov (fun S' => S' = r)) 90 [(0, vr 10 0), (1, vi v1), (2, vi v2), (3, vi v3), (4, vi v4), (5, vi v5), (6, vi v6)] [] S) (S : PS) (v1 : Int32) (v2 : Int32) (v3 : Int32) (v4 : Int32) (v5 : Int32) (v6 : Int32) (t0 : Int32) (hf : BX10_goThrough_224 nF k90 S v1 v2 v3 v4 v5 v6 t0 = some r) : WW cy GM ad D p l e rmX10_goThrough s m args below meth c 9 A (pov (fun S' => S' = r)) 224 [(0, vr 10 0), (1, vi v1), (2, vi v2), (3, vi v3), (4, vi v4), (5, vi v5), (6, vi v6)] [vi t0] S := by
  rw [BX10_goThrough_224] at hf
  refine w_is (n := 226) (lv' := [(8, vi t0), (0, vr 10 0), (1, vi v1), (2, vi v2), (3, vi v3), (4, vi v4), (5, vi v5), (6, vi v6)]) hM (dtab_at okX10_goThrough 135 rfl) (by decide) rfl rfl ?_
  refine w_il (q := 0) (n := 228) hM (dtab_at okX10_goThrough 136 rfl) rfl rfl ?_
  refine w_if_eq (n := 279) (n2 := 231) hM (dtab_at okX10_goThrough 137 rfl) (by decide) rfl (fun (h228 : t0 = (0 : Int32)) => ?_) (fun (h228 : ¬ t0 = (0 : Int32)) => ?_)
  · skip
    rw [if_pos h228] at hf
    refine w_iinc (q := 7) (n := 282) (v := (v6 + (1 : Int32))) (lv' := [(6, vi (v6 + (1 : Int32))), (8, vi t0), (0, vr 10 0), (1, vi v1), (2, vi v2), (3, vi v3), (4, vi v4), (5, vi v5)]) hM (dtab_at okX10_goThrough 164 rfl) rfl rfl (by decide) rfl rfl ?_
    refine w_goto (n := 90) hM (dtab_at okX10_goThrough 165 rfl) (by decide) ?_
    refine WW.lvs [2, 3, 4, 5, 6, 7, 0] (lv2 := [(0, vr 10 0), (1, vi v1), (2, vi v2), (3, vi v3), (4, vi v4), (5, vi v5), (6, vi (v6 + (1 : Int32)))]) rfl ?_
    exact hk90 S v1 v2 v3 v4 v5 (v6 + (1 : Int32)) hf
  · skip
    rw [if_neg h228] at hf
    refine w_aln (q := 1) (n := 232) hM (dtab_at okX10_goThrough 138 rfl) rfl rfl ?_
    refine w_geti (C := RX10) (T := TX10) (i := 9) (n := 235) hM rfl (by decide) ly_X10 lkF_X10_143 (dtab_at okX10_goThrough 139 rfl) rfl ?_
    refine w_bi (n := 237) hM (60 : Int32) (dtab_at okX10_goThrough 140 rfl) (by decide) rfl ?_
    refine w_ic_ge (n := 275) (n2 := 240) hM (dtab_at okX10_goThrough 141 rfl) (by decide) rfl (fun (h237 : (60 : Int32) ≤ (S.1 0 9)) => ?_) (fun (h237 : ¬ (60 : Int32) ≤ (S.1 0 9)) => ?_)
    · skip
      rw [if_pos h237] at hf
      refine w_il (q := 5) (n := 277) hM (dtab_at okX10_goThrough 162 rfl) rfl rfl ?_
      refine w_is (n := 279) (lv' := [(5, vi v4), (8, vi t0), (0, vr 10 0), (1, vi v1), (2, vi v2), (3, vi v3), (4, vi v4), (6, vi v6)]) hM (dtab_at okX10_goThrough 163 rfl) (by decide) rfl rfl ?_
      refine w_iinc (q := 7) (n := 282) (v := (v6 + (1 : Int32))) (lv' := [(6, vi (v6 + (1 : Int32))), (5, vi v4), (8, vi t0), (0, vr 10 0), (1, vi v1), (2, vi v2), (3, vi v3), (4, vi v4)]) hM (dtab_at okX10_goThrough 164 rfl) rfl rfl (by decide) rfl rfl ?_
      refine w_goto (n := 90) hM (dtab_at okX10_goThrough 165 rfl) (by decide) ?_
      refine WW.lvs [3, 4, 5, 6, 7, 1, 0] (lv2 := [(0, vr 10 0), (1, vi v1), (2, vi v2), (3, vi v3), (4, vi v4), (5, vi v4), (6, vi (v6 + (1 : Int32)))]) rfl ?_
      exact hk90 S v1 v2 v3 v4 v4 (v6 + (1 : Int32)) hf
    · skip
      rw [if_neg h237] at hf
      refine w_aln (q := 1) (n := 241) hM (dtab_at okX10_goThrough 142 rfl) rfl rfl ?_
      refine w_getr (C := RX10) (T := TX10) (i := 10) (k2 := 160) (q := 7) (n := 244) hM rfl (by decide) (fun _ => rfl) ly_X10 lkF_X10_29 (dtab_at okX10_goThrough 143 rfl) rfl ?_
      refine w_aln (q := 1) (n := 245) hM (dtab_at okX10_goThrough 144 rfl) rfl rfl ?_
      refine w_geti (C := RX10) (T := TX10) (i := 9) (n := 248) hM rfl (by decide) ly_X10 lkF_X10_143 (dtab_at okX10_goThrough 145 rfl) rfl ?_
      refine w_il (q := 6) (n := 250) hM (dtab_at okX10_goThrough 146 rfl) rfl rfl ?_
      by_cases hg250 : (S.1 0 9) < 0 ∨ 60 ≤ (S.1 0 9).toNatClampNeg
      · rw [if_pos hg250] at hf; cases hf
      rw [if_neg hg250] at hf
      refine w_ast (nn := 60) (n := 251) hM rfl hg250 (dtab_at okX10_goThrough 147 rfl) rfl ?_
      refine w_aln (q := 1) (n := 252) hM (dtab_at okX10_goThrough 148 rfl) rfl rfl ?_
      refine w_getr (C := RX10) (T := TX10) (i := 11) (k2 := 160) (q := 8) (n := 255) hM rfl (by decide) (fun _ => rfl) ly_X10 lkF_X10_32 (dtab_at okX10_goThrough 149 rfl) rfl ?_
      refine w_aln (q := 1) (n := 256) hM (dtab_at okX10_goThrough 150 rfl) rfl rfl ?_
      refine w_geti (C := RX10) (T := TX10) (i := 9) (n := 259) hM rfl (by decide) ly_X10 lkF_X10_143 (dtab_at okX10_goThrough 151 rfl) rfl ?_
      refine w_il (q := 5) (n := 261) hM (dtab_at okX10_goThrough 152 rfl) rfl rfl ?_
      refine w_il (q := 6) (n := 263) hM (dtab_at okX10_goThrough 153 rfl) rfl rfl ?_
      refine w_isub (n := 264) hM (dtab_at okX10_goThrough 154 rfl) rfl ?_
      refine w_ast (nn := 60) (n := 265) hM rfl hg250 (dtab_at okX10_goThrough 155 rfl) rfl ?_
      refine w_aln (q := 1) (n := 266) hM (dtab_at okX10_goThrough 156 rfl) rfl rfl ?_
      refine w_dup (n := 267) hM (dtab_at okX10_goThrough 157 rfl) rfl rfl ?_
      refine w_geti (C := RX10) (T := TX10) (i := 9) (n := 270) hM rfl (by decide) ly_X10 lkF_X10_143 (dtab_at okX10_goThrough 158 rfl) rfl ?_
      refine w_ic (n := 271) hM (1 : Int32) (dtab_at okX10_goThrough 159 rfl) (by decide) rfl ?_
      refine w_iadd (n := 272) hM (dtab_at okX10_goThrough 160 rfl) rfl ?_
      refine w_put (C := RX10) (T := TX10) (i := 9) (ty := .int) (n := 275) hM rfl (by decide) ly_X10 tyX10_ok nmX10 lkF_X10_143 rfl (by decide +kernel) rfl rfl (dtab_at okX10_goThrough 161 rfl) rfl ?_
      refine w_il (q := 5) (n := 277) hM (dtab_at okX10_goThrough 162 rfl) rfl rfl ?_
      refine w_is (n := 279) (lv' := [(5, vi v4), (8, vi t0), (0, vr 10 0), (1, vi v1), (2, vi v2), (3, vi v3), (4, vi v4), (6, vi v6)]) hM (dtab_at okX10_goThrough 163 rfl) (by decide) rfl rfl ?_
      refine w_iinc (q := 7) (n := 282) (v := (v6 + (1 : Int32))) (lv' := [(6, vi (v6 + (1 : Int32))), (5, vi v4), (8, vi t0), (0, vr 10 0), (1, vi v1), (2, vi v2), (3, vi v3), (4, vi v4)]) hM (dtab_at okX10_goThrough 164 rfl) rfl rfl (by decide) rfl rfl ?_
      refine w_goto (n := 90) hM (dtab_at okX10_goThrough 165 rfl) (by decide) ?_
      refine WW.lvs [3, 4, 5, 6, 7, 1, 0] (lv2 := [(0, vr 10 0), (1, vi v1), (2, vi v2), (3, vi v3), (4, vi v4), (5, vi v4), (6, vi (v6 + (1 : Int32)))]) rfl ?_
      exact hk90 (sti (sta (sta S 7 (S.1 0 9).toNatClampNeg v5) 8 (S.1 0 9).toNatClampNeg (v4 - v5)) 0 9 ((S.1 0 9) + (1 : Int32))) v1 v2 v3 v4 v4 (v6 + (1 : Int32)) hf
def BX10_goThrough_223 (nF : Nat) (k90 : PS → Int32 → Int32 → Int32 → Int32 → Int32 → Int32 → Option (PS)) (S : PS) (v1 : Int32) (v2 : Int32) (v3 : Int32) (v4 : Int32) (v5 : Int32) (v6 : Int32) : Option (PS) := (BX10_goThrough_224 nF k90 S v1 v2 v3 v4 v5 v6 (0 : Int32))
set_option maxHeartbeats 4000000 in
set_option maxRecDepth 100000 in
theorem wBX10_goThrough_223 {cy : ClassId × ClassId} {ad : Nat → Nat} {D : va_G} {p : Program} {l : Launch} {e : Env} {s : State} {m : MethodId} {args : Array Value} {below : List Frame} {meth : Method} {c : Code} {A : Nat → Prop} (hM : MX cy GM ad D p s m args meth c cX10_goThrough 9 RX10 none A) (nF : Nat) (r : PS) (k90 : PS → Int32 → Int32 → Int32 → Int32 → Int32 → Int32 → Option (PS)) (hk90 : ∀ (S : PS) (v1 : Int32) (v2 : Int32) (v3 : Int32) (v4 : Int32) (v5 : Int32) (v6 : Int32), k90 S v1 v2 v3 v4 v5 v6 = some r → WW cy GM ad D p l e rmX10_goThrough s m args below meth c 9 A (pov (fun S' => S' = r)) 90 [(0, vr 10 0), (1, vi v1), (2, vi v2), (3, vi v3), (4, vi v4), (5, vi v5), (6, vi v6)] [] S) (S : PS) (v1 : Int32) (v2 : Int32) (v3 : Int32) (v4 : Int32) (v5 : Int32) (v6 : Int32) (hf : BX10_goThrough_223 nF k90 S v1 v2 v3 v4 v5 v6 = some r) : WW cy GM ad D p l e rmX10_goThrough s m args below meth c 9 A (pov (fun S' => S' = r)) 223 [(0, vr 10 0), (1, vi v1), (2, vi v2), (3, vi v3), (4, vi v4), (5, vi v5), (6, vi v6)] [] S := by
  rw [BX10_goThrough_223] at hf
  refine w_ic (n := 224) hM (0 : Int32) (dtab_at okX10_goThrough 134 rfl) (by decide) rfl ?_
  exact wBX10_goThrough_224 hM nF r k90 hk90 S v1 v2 v3 v4 v5 v6 (0 : Int32) hf
def BX10_goThrough_167 (nF : Nat) (k90 : PS → Int32 → Int32 → Int32 → Int32 → Int32 → Int32 → Option (PS)) (S : PS) (v1 : Int32) (v2 : Int32) (v4 : Int32) (v5 : Int32) (v6 : Int32) (t0 : Int32) : Option (PS) := (if v6 < 0 ∨ 150 ≤ v6.toNatClampNeg then none else (if v2 < 0 ∨ 8 ≤ v2.toNatClampNeg then none else (if (S.2 1 v2.toNatClampNeg) = (0 : Int32) then (BX10_goThrough_223 nF k90 (sta S 6 v6.toNatClampNeg (v4 + t0)) v1 v2 t0 (v4 + t0) v5 v6) else (if (S.2 3 v2.toNatClampNeg) ≤ v6 then (BX10_goThrough_223 nF k90 (sta S 6 v6.toNatClampNeg (v4 + t0)) v1 v2 t0 (v4 + t0) v5 v6) else (if (((150 : Int32) * v2) + v6) < 0 ∨ 1200 ≤ (((150 : Int32) * v2) + v6).toNatClampNeg then none else (if (S.2 4 (((150 : Int32) * v2) + v6).toNatClampNeg) = (0 : Int32) then (BX10_goThrough_223 nF k90 (sta S 6 v6.toNatClampNeg (v4 + t0)) v1 v2 t0 (v4 + t0) v5 v6) else (BX10_goThrough_224 nF k90 (sta S 6 v6.toNatClampNeg (v4 + t0)) v1 v2 t0 (v4 + t0) v5 v6 (1 : Int32))))))))
set_option maxHeartbeats 4000000 in
set_option maxRecDepth 100000 in
theorem wBX10_goThrough_167 {cy : ClassId × ClassId} {ad : Nat → Nat} {D : va_G} {p : Program} {l : Launch} {e : Env} {s : State} {m : MethodId} {args : Array Value} {below : List Frame} {meth : Method} {c : Code} {A : Nat → Prop} (hM : MX cy GM ad D p s m args meth c cX10_goThrough 9 RX10 none A) (nF : Nat) (r : PS) (k90 : PS → Int32 → Int32 → Int32 → Int32 → Int32 → Int32 → Option (PS)) (hk90 : ∀ (S : PS) (v1 : Int32) (v2 : Int32) (v3 : Int32) (v4 : Int32) (v5 : Int32) (v6 : Int32), k90 S v1 v2 v3 v4 v5 v6 = some r → WW cy GM ad D p l e rmX10_goThrough s m args below meth c 9 A (pov (fun S' => S' = r)) 90 [(0, vr 10 0), (1, vi v1), (2, vi v2), (3, vi v3), (4, vi v4), (5, vi v5), (6, vi v6)] [] S) (S : PS) (v1 : Int32) (v2 : Int32) (v4 : Int32) (v5 : Int32) (v6 : Int32) (t0 : Int32) (hf : BX10_goThrough_167 nF k90 S v1 v2 v4 v5 v6 t0 = some r) : WW cy GM ad D p l e rmX10_goThrough s m args below meth c 9 A (pov (fun S' => S' = r)) 167 [(0, vr 10 0), (1, vi v1), (2, vi v2), (4, vi v4), (5, vi v5), (6, vi v6)] [vi t0] S := by
  rw [BX10_goThrough_167] at hf
  refine w_isn (n := 168) (lv' := [(3, vi t0), (0, vr 10 0), (1, vi v1), (2, vi v2), (4, vi v4), (5, vi v5), (6, vi v6)]) hM (dtab_at okX10_goThrough 102 rfl) (by decide) rfl rfl ?_
  refine w_il (q := 4) (n := 170) hM (dtab_at okX10_goThrough 103 rfl) rfl rfl ?_
  refine w_iln (q := 0) (n := 171) hM (dtab_at okX10_goThrough 104 rfl) rfl rfl ?_
  refine w_iadd (n := 172) hM (dtab_at okX10_goThrough 105 rfl) rfl ?_
  refine w_is (n := 174) (lv' := [(4, vi (v4 + t0)), (3, vi t0), (0, vr 10 0), (1, vi v1), (2, vi v2), (5, vi v5), (6, vi v6)]) hM (dtab_at okX10_goThrough 106 rfl) (by decide) rfl rfl ?_
  refine w_aln (q := 2) (n := 175) hM (dtab_at okX10_goThrough 107 rfl) rfl rfl ?_
  refine w_getr (C := RX10) (T := TX10) (i := 8) (k2 := 250) (q := 6) (n := 178) hM rfl (by decide) (fun _ => rfl) ly_X10 lkF_X10_26 (dtab_at okX10_goThrough 108 rfl) rfl ?_
  refine w_il (q := 6) (n := 180) hM (dtab_at okX10_goThrough 109 rfl) rfl rfl ?_
  refine w_il (q := 0) (n := 182) hM (dtab_at okX10_goThrough 110 rfl) rfl rfl ?_
  by_cases hg182 : v6 < 0 ∨ 150 ≤ v6.toNatClampNeg
  · rw [if_pos hg182] at hf; cases hf
  rw [if_neg hg182] at hf
  refine w_ast (nn := 150) (n := 183) hM rfl hg182 (dtab_at okX10_goThrough 111 rfl) rfl ?_
  refine w_aln (q := 2) (n := 184) hM (dtab_at okX10_goThrough 112 rfl) rfl rfl ?_
  refine w_getr (C := RX10) (T := TX10) (i := 0) (k2 := 28) (q := 1) (n := 187) hM rfl (by decide) (fun _ => rfl) ly_X10 lkF_X10_7 (dtab_at okX10_goThrough 113 rfl) rfl ?_
  refine w_iln (q := 4) (n := 188) hM (dtab_at okX10_goThrough 114 rfl) rfl rfl ?_
  by_cases hg188 : v2 < 0 ∨ 8 ≤ v2.toNatClampNeg
  · rw [if_pos hg188] at hf; cases hf
  rw [if_neg hg188] at hf
  refine w_zld (nn := 8) (n := 189) hM rfl (by decide) hg188 (dtab_at okX10_goThrough 115 rfl) rfl ?_
  refine w_if_eq (n := 223) (n2 := 192) hM (dtab_at okX10_goThrough 116 rfl) (by decide) rfl (fun (h189 : (S.2 1 v2.toNatClampNeg) = (0 : Int32)) => ?_) (fun (h189 : ¬ (S.2 1 v2.toNatClampNeg) = (0 : Int32)) => ?_)
  · skip
    rw [if_pos h189] at hf
    refine WW.lvs [2, 3, 4, 1, 0, 5, 6] (lv2 := [(0, vr 10 0), (1, vi v1), (2, vi v2), (3, vi t0), (4, vi (v4 + t0)), (5, vi v5), (6, vi v6)]) rfl ?_
    exact wBX10_goThrough_223 hM nF r k90 hk90 (sta S 6 v6.toNatClampNeg (v4 + t0)) v1 v2 t0 (v4 + t0) v5 v6 hf
  · skip
    rw [if_neg h189] at hf
    refine w_il (q := 6) (n := 194) hM (dtab_at okX10_goThrough 117 rfl) rfl rfl ?_
    refine w_aln (q := 2) (n := 195) hM (dtab_at okX10_goThrough 118 rfl) rfl rfl ?_
    refine w_getr (C := RX10) (T := TX10) (i := 2) (k2 := 108) (q := 3) (n := 198) hM rfl (by decide) (fun _ => rfl) ly_X10 lkF_X10_17 (dtab_at okX10_goThrough 119 rfl) rfl ?_
    refine w_iln (q := 4) (n := 199) hM (dtab_at okX10_goThrough 120 rfl) rfl rfl ?_
    refine w_ald (nn := 8) (n := 200) hM rfl hg188 (dtab_at okX10_goThrough 121 rfl) rfl ?_
    refine w_ic_ge (n := 223) (n2 := 203) hM (dtab_at okX10_goThrough 122 rfl) (by decide) rfl (fun (h200 : (S.2 3 v2.toNatClampNeg) ≤ v6) => ?_) (fun (h200 : ¬ (S.2 3 v2.toNatClampNeg) ≤ v6) => ?_)
    · skip
      rw [if_pos h200] at hf
      refine WW.lvs [2, 3, 4, 1, 0, 5, 6] (lv2 := [(0, vr 10 0), (1, vi v1), (2, vi v2), (3, vi t0), (4, vi (v4 + t0)), (5, vi v5), (6, vi v6)]) rfl ?_
      exact wBX10_goThrough_223 hM nF r k90 hk90 (sta S 6 v6.toNatClampNeg (v4 + t0)) v1 v2 t0 (v4 + t0) v5 v6 hf
    · skip
      rw [if_neg h200] at hf
      refine w_aln (q := 2) (n := 204) hM (dtab_at okX10_goThrough 123 rfl) rfl rfl ?_
      refine w_getr (C := RX10) (T := TX10) (i := 3) (k2 := 1300) (q := 4) (n := 207) hM rfl (by decide) (fun _ => rfl) ly_X10 lkF_X10_20 (dtab_at okX10_goThrough 124 rfl) rfl ?_
      refine w_si (n := 210) hM (150 : Int32) (dtab_at okX10_goThrough 125 rfl) (by decide) rfl ?_
      refine w_iln (q := 4) (n := 211) hM (dtab_at okX10_goThrough 126 rfl) rfl rfl ?_
      refine w_imul (n := 212) hM (dtab_at okX10_goThrough 127 rfl) rfl ?_
      refine w_il (q := 6) (n := 214) hM (dtab_at okX10_goThrough 128 rfl) rfl rfl ?_
      refine w_iadd (n := 215) hM (dtab_at okX10_goThrough 129 rfl) rfl ?_
      by_cases hg215 : (((150 : Int32) * v2) + v6) < 0 ∨ 1200 ≤ (((150 : Int32) * v2) + v6).toNatClampNeg
      · rw [if_pos hg215] at hf; cases hf
      rw [if_neg hg215] at hf
      refine w_ald (nn := 1200) (n := 216) hM rfl hg215 (dtab_at okX10_goThrough 130 rfl) rfl ?_
      refine w_if_eq (n := 223) (n2 := 219) hM (dtab_at okX10_goThrough 131 rfl) (by decide) rfl (fun (h216 : (S.2 4 (((150 : Int32) * v2) + v6).toNatClampNeg) = (0 : Int32)) => ?_) (fun (h216 : ¬ (S.2 4 (((150 : Int32) * v2) + v6).toNatClampNeg) = (0 : Int32)) => ?_)
      · skip
        rw [if_pos h216] at hf
        refine WW.lvs [2, 3, 4, 1, 0, 5, 6] (lv2 := [(0, vr 10 0), (1, vi v1), (2, vi v2), (3, vi t0), (4, vi (v4 + t0)), (5, vi v5), (6, vi v6)]) rfl ?_
        exact wBX10_goThrough_223 hM nF r k90 hk90 (sta S 6 v6.toNatClampNeg (v4 + t0)) v1 v2 t0 (v4 + t0) v5 v6 hf
      · skip
        rw [if_neg h216] at hf
        refine w_ic (n := 220) hM (1 : Int32) (dtab_at okX10_goThrough 132 rfl) (by decide) rfl ?_
        refine w_goto (n := 224) hM (dtab_at okX10_goThrough 133 rfl) (by decide) ?_
        refine WW.lvs [2, 3, 4, 1, 0, 5, 6] (lv2 := [(0, vr 10 0), (1, vi v1), (2, vi v2), (3, vi t0), (4, vi (v4 + t0)), (5, vi v5), (6, vi v6)]) rfl ?_
        exact wBX10_goThrough_224 hM nF r k90 hk90 (sta S 6 v6.toNatClampNeg (v4 + t0)) v1 v2 t0 (v4 + t0) v5 v6 (1 : Int32) hf
def BX10_goThrough_151 (nF : Nat) (k90 : PS → Int32 → Int32 → Int32 → Int32 → Int32 → Int32 → Option (PS)) (S : PS) (v1 : Int32) (v2 : Int32) (v3 : Int32) (v4 : Int32) (v5 : Int32) (v6 : Int32) (v7 : Int32) (t0 : Int32) (t1 : Int32) : Option (PS) := (if v7 = (-1 : Int32) then (BX10_goThrough_167 nF k90 (sti S 0 7 (t1 + t0)) v1 v2 v4 v5 v6 v3) else (BX10_goThrough_167 nF k90 (sti S 0 7 (t1 + t0)) v1 v2 v4 v5 v6 v7))
set_option maxHeartbeats 4000000 in
set_option maxRecDepth 100000 in
theorem wBX10_goThrough_151 {cy : ClassId × ClassId} {ad : Nat → Nat} {D : va_G} {p : Program} {l : Launch} {e : Env} {s : State} {m : MethodId} {args : Array Value} {below : List Frame} {meth : Method} {c : Code} {A : Nat → Prop} (hM : MX cy GM ad D p s m args meth c cX10_goThrough 9 RX10 none A) (nF : Nat) (r : PS) (k90 : PS → Int32 → Int32 → Int32 → Int32 → Int32 → Int32 → Option (PS)) (hk90 : ∀ (S : PS) (v1 : Int32) (v2 : Int32) (v3 : Int32) (v4 : Int32) (v5 : Int32) (v6 : Int32), k90 S v1 v2 v3 v4 v5 v6 = some r → WW cy GM ad D p l e rmX10_goThrough s m args below meth c 9 A (pov (fun S' => S' = r)) 90 [(0, vr 10 0), (1, vi v1), (2, vi v2), (3, vi v3), (4, vi v4), (5, vi v5), (6, vi v6)] [] S) (S : PS) (v1 : Int32) (v2 : Int32) (v3 : Int32) (v4 : Int32) (v5 : Int32) (v6 : Int32) (v7 : Int32) (t0 : Int32) (t1 : Int32) (hf : BX10_goThrough_151 nF k90 S v1 v2 v3 v4 v5 v6 v7 t0 t1 = some r) : WW cy GM ad D p l e rmX10_goThrough s m args below meth c 9 A (pov (fun S' => S' = r)) 151 [(0, vr 10 0), (1, vi v1), (2, vi v2), (3, vi v3), (4, vi v4), (5, vi v5), (6, vi v6), (7, vi v7)] [vi t0, vi t1, vr 10 0] S := by
  rw [BX10_goThrough_151] at hf
  refine w_iadd (n := 152) hM (dtab_at okX10_goThrough 94 rfl) rfl ?_
  refine w_put (C := RX10) (T := TX10) (i := 7) (ty := .int) (n := 155) hM rfl (by decide) ly_X10 tyX10_ok nmX10 lkF_X10_140 rfl (by decide +kernel) rfl rfl (dtab_at okX10_goThrough 95 rfl) rfl ?_
  refine w_il (q := 7) (n := 157) hM (dtab_at okX10_goThrough 96 rfl) rfl rfl ?_
  refine w_ic (n := 158) hM (-1 : Int32) (dtab_at okX10_goThrough 97 rfl) (by decide) rfl ?_
  refine w_ic_ne (n := 165) (n2 := 161) hM (dtab_at okX10_goThrough 98 rfl) (by decide) rfl (fun (h158 : ¬ v7 = (-1 : Int32)) => ?_) (fun (h158 : v7 = (-1 : Int32)) => ?_)
  · skip
    rw [if_neg h158] at hf
    refine w_il (q := 7) (n := 167) hM (dtab_at okX10_goThrough 101 rfl) rfl rfl ?_
    refine WW.lvs [0, 1, 2, 4, 5, 6] (lv2 := [(0, vr 10 0), (1, vi v1), (2, vi v2), (4, vi v4), (5, vi v5), (6, vi v6)]) rfl ?_
    exact wBX10_goThrough_167 hM nF r k90 hk90 (sti S 0 7 (t1 + t0)) v1 v2 v4 v5 v6 v7 hf
  · skip
    rw [if_pos h158] at hf
    refine w_iln (q := 3) (n := 162) hM (dtab_at okX10_goThrough 99 rfl) rfl rfl ?_
    refine w_goto (n := 167) hM (dtab_at okX10_goThrough 100 rfl) (by decide) ?_
    refine WW.lvs [0, 1, 2, 4, 5, 6] (lv2 := [(0, vr 10 0), (1, vi v1), (2, vi v2), (4, vi v4), (5, vi v5), (6, vi v6)]) rfl ?_
    exact wBX10_goThrough_167 hM nF r k90 hk90 (sti S 0 7 (t1 + t0)) v1 v2 v4 v5 v6 v3 hf
def LX10_goThrough_90 (nF : Nat) : Nat → PS → Int32 → Int32 → Int32 → Int32 → Int32 → Int32 → Option (PS)
  | 0, _, _, _, _, _, _, _ => none
  | n + 1, S, v1, v2, v3, v4, v5, v6 => (if (S.1 0 6) ≤ v6 then (some S) else ((fX10_reading nF S ((4 : Int32) * v1) v6).bind fun r0 => ((fX10_reading nF S (((4 : Int32) * v1) + (1 : Int32)) v6).bind fun r1 => ((fX10_reading nF S (((4 : Int32) * v1) + (2 : Int32)) v6).bind fun r2 => (if (fX10_middle S r0 r1 r2) = (-1 : Int32) then (BX10_goThrough_151 nF (LX10_goThrough_90 nF n) S v1 v2 v3 v4 v5 v6 (fX10_middle S r0 r1 r2) (1 : Int32) (S.1 0 7)) else (BX10_goThrough_151 nF (LX10_goThrough_90 nF n) S v1 v2 v3 v4 v5 v6 (fX10_middle S r0 r1 r2) (0 : Int32) (S.1 0 7)))))))
set_option maxHeartbeats 4000000 in
set_option maxRecDepth 100000 in
theorem wLX10_goThrough_90 {cy : ClassId × ClassId} {ad : Nat → Nat} {D : va_G} {p : Program} {l : Launch} {e : Env} {s : State} {m : MethodId} {args : Array Value} {below : List Frame} {meth : Method} {c : Code} {A : Nat → Prop} (hM : MX cy GM ad D p s m args meth c cX10_goThrough 9 RX10 none A) (nF : Nat) (r : PS) : ∀ (n : Nat) (S : PS) (v1 : Int32) (v2 : Int32) (v3 : Int32) (v4 : Int32) (v5 : Int32) (v6 : Int32), LX10_goThrough_90 nF n S v1 v2 v3 v4 v5 v6 = some r → WW cy GM ad D p l e rmX10_goThrough s m args below meth c 9 A (pov (fun S' => S' = r)) 90 [(0, vr 10 0), (1, vi v1), (2, vi v2), (3, vi v3), (4, vi v4), (5, vi v5), (6, vi v6)] [] S := by
  intro n
  induction n with
  | zero => intro S v1 v2 v3 v4 v5 v6 hf; rw [LX10_goThrough_90] at hf; cases hf
  | succ n ih =>
    intro S v1 v2 v3 v4 v5 v6 hf
    rw [LX10_goThrough_90] at hf
    refine w_il (q := 6) (n := 92) hM (dtab_at okX10_goThrough 57 rfl) rfl rfl ?_
    refine w_aln (q := 0) (n := 93) hM (dtab_at okX10_goThrough 58 rfl) rfl rfl ?_
    refine w_geti (C := RX10) (T := TX10) (i := 6) (n := 96) hM rfl (by decide) ly_X10 lkF_X10_137 (dtab_at okX10_goThrough 59 rfl) rfl ?_
    refine w_ic_ge (n := 285) (n2 := 99) hM (dtab_at okX10_goThrough 60 rfl) (by decide) rfl (fun (h96 : (S.1 0 6) ≤ v6) => ?_) (fun (h96 : ¬ (S.1 0 6) ≤ v6) => ?_)
    · skip
      rw [if_pos h96] at hf
      exact r_v hM (dtab_at okX10_goThrough 166 rfl) (Option.some.inj hf)
    · skip
      rw [if_neg h96] at hf
      refine w_aln (q := 0) (n := 100) hM (dtab_at okX10_goThrough 61 rfl) rfl rfl ?_
      refine w_ic (n := 101) hM (4 : Int32) (dtab_at okX10_goThrough 62 rfl) (by decide) rfl ?_
      refine w_iln (q := 1) (n := 102) hM (dtab_at okX10_goThrough 63 rfl) rfl rfl ?_
      refine w_imul (n := 103) hM (dtab_at okX10_goThrough 64 rfl) rfl ?_
      refine w_il (q := 6) (n := 105) hM (dtab_at okX10_goThrough 65 rfl) rfl rfl ?_
      obtain ⟨r0, hr0, hf⟩ := Option.bind_eq_some_iff.mp hf
      refine w_callVi (n := 108) (As := [vi ((4 : Int32) * v1), vi v6]) (rest := []) (k := 10) (j := 0) (C := RX10) (T := TX10) (N := 43) hM (c_X10_reading nF S ((4 : Int32) * v1) v6 r0 hr0) lkM_X10_146 mv_X10_reading (by decide) rfl (by decide) rfl (Nat.le_of_ble_eq_true rfl) rfl (dtab_at okX10_goThrough 66 rfl) rfl (fun x0 S0 hp0 => ?_)
      obtain ⟨hx_, hs_⟩ := hp0
      have hs_ := hs_.symm
      have hx_ := hx_.symm
      subst hs_
      subst hx_
      refine w_aln (q := 0) (n := 109) hM (dtab_at okX10_goThrough 67 rfl) rfl rfl ?_
      refine w_ic (n := 110) hM (4 : Int32) (dtab_at okX10_goThrough 68 rfl) (by decide) rfl ?_
      refine w_iln (q := 1) (n := 111) hM (dtab_at okX10_goThrough 69 rfl) rfl rfl ?_
      refine w_imul (n := 112) hM (dtab_at okX10_goThrough 70 rfl) rfl ?_
      refine w_ic (n := 113) hM (1 : Int32) (dtab_at okX10_goThrough 71 rfl) (by decide) rfl ?_
      refine w_iadd (n := 114) hM (dtab_at okX10_goThrough 72 rfl) rfl ?_
      refine w_il (q := 6) (n := 116) hM (dtab_at okX10_goThrough 73 rfl) rfl rfl ?_
      obtain ⟨r1, hr1, hf⟩ := Option.bind_eq_some_iff.mp hf
      refine w_callVi (n := 119) (As := [vi (((4 : Int32) * v1) + (1 : Int32)), vi v6]) (rest := [vi r0]) (k := 10) (j := 0) (C := RX10) (T := TX10) (N := 43) hM (c_X10_reading nF S (((4 : Int32) * v1) + (1 : Int32)) v6 r1 hr1) lkM_X10_146 mv_X10_reading (by decide) rfl (by decide) rfl (Nat.le_of_ble_eq_true rfl) rfl (dtab_at okX10_goThrough 74 rfl) rfl (fun x1 S1 hp1 => ?_)
      obtain ⟨hx_, hs_⟩ := hp1
      have hs_ := hs_.symm
      have hx_ := hx_.symm
      subst hs_
      subst hx_
      refine w_aln (q := 0) (n := 120) hM (dtab_at okX10_goThrough 75 rfl) rfl rfl ?_
      refine w_ic (n := 121) hM (4 : Int32) (dtab_at okX10_goThrough 76 rfl) (by decide) rfl ?_
      refine w_iln (q := 1) (n := 122) hM (dtab_at okX10_goThrough 77 rfl) rfl rfl ?_
      refine w_imul (n := 123) hM (dtab_at okX10_goThrough 78 rfl) rfl ?_
      refine w_ic (n := 124) hM (2 : Int32) (dtab_at okX10_goThrough 79 rfl) (by decide) rfl ?_
      refine w_iadd (n := 125) hM (dtab_at okX10_goThrough 80 rfl) rfl ?_
      refine w_il (q := 6) (n := 127) hM (dtab_at okX10_goThrough 81 rfl) rfl rfl ?_
      obtain ⟨r2, hr2, hf⟩ := Option.bind_eq_some_iff.mp hf
      refine w_callVi (n := 130) (As := [vi (((4 : Int32) * v1) + (2 : Int32)), vi v6]) (rest := [vi r1, vi r0]) (k := 10) (j := 0) (C := RX10) (T := TX10) (N := 43) hM (c_X10_reading nF S (((4 : Int32) * v1) + (2 : Int32)) v6 r2 hr2) lkM_X10_146 mv_X10_reading (by decide) rfl (by decide) rfl (Nat.le_of_ble_eq_true rfl) rfl (dtab_at okX10_goThrough 82 rfl) rfl (fun x2 S2 hp2 => ?_)
      obtain ⟨hx_, hs_⟩ := hp2
      have hs_ := hs_.symm
      have hx_ := hx_.symm
      subst hs_
      subst hx_
      refine w_callSi (n := 133) (As := [vi r0, vi r1, vi r2]) (rest := []) hM (c_X10_middle S r0 r1 r2) lkM_X10_150 ms_X10_middle (by decide) rfl (Nat.le_of_ble_eq_true rfl) rfl (dtab_at okX10_goThrough 83 rfl) rfl (fun x3 S3 hp3 => ?_)
      obtain ⟨hx_, hs_⟩ := hp3
      have hs_ := hs_.symm
      subst hs_
      subst hx_
      refine w_is (n := 135) (lv' := [(7, vi (fX10_middle S r0 r1 r2)), (0, vr 10 0), (1, vi v1), (2, vi v2), (3, vi v3), (4, vi v4), (5, vi v5), (6, vi v6)]) hM (dtab_at okX10_goThrough 84 rfl) (by decide) rfl rfl ?_
      refine w_aln (q := 1) (n := 136) hM (dtab_at okX10_goThrough 85 rfl) rfl rfl ?_
      refine w_dup (n := 137) hM (dtab_at okX10_goThrough 86 rfl) rfl rfl ?_
      refine w_geti (C := RX10) (T := TX10) (i := 7) (n := 140) hM rfl (by decide) ly_X10 lkF_X10_140 (dtab_at okX10_goThrough 87 rfl) rfl ?_
      refine w_il (q := 0) (n := 142) hM (dtab_at okX10_goThrough 88 rfl) rfl rfl ?_
      refine w_ic (n := 143) hM (-1 : Int32) (dtab_at okX10_goThrough 89 rfl) (by decide) rfl ?_
      refine w_ic_ne (n := 150) (n2 := 146) hM (dtab_at okX10_goThrough 90 rfl) (by decide) rfl (fun (h143 : ¬ (fX10_middle S r0 r1 r2) = (-1 : Int32)) => ?_) (fun (h143 : (fX10_middle S r0 r1 r2) = (-1 : Int32)) => ?_)
      · skip
        rw [if_neg h143] at hf
        refine w_ic (n := 151) hM (0 : Int32) (dtab_at okX10_goThrough 93 rfl) (by decide) rfl ?_
        refine WW.lvs [1, 2, 3, 4, 5, 6, 7, 0] (lv2 := [(0, vr 10 0), (1, vi v1), (2, vi v2), (3, vi v3), (4, vi v4), (5, vi v5), (6, vi v6), (7, vi (fX10_middle S r0 r1 r2))]) rfl ?_
        exact wBX10_goThrough_151 hM nF r (LX10_goThrough_90 nF n) ih S v1 v2 v3 v4 v5 v6 (fX10_middle S r0 r1 r2) (0 : Int32) (S.1 0 7) hf
      · skip
        rw [if_pos h143] at hf
        refine w_ic (n := 147) hM (1 : Int32) (dtab_at okX10_goThrough 91 rfl) (by decide) rfl ?_
        refine w_goto (n := 151) hM (dtab_at okX10_goThrough 92 rfl) (by decide) ?_
        refine WW.lvs [1, 2, 3, 4, 5, 6, 7, 0] (lv2 := [(0, vr 10 0), (1, vi v1), (2, vi v2), (3, vi v3), (4, vi v4), (5, vi v5), (6, vi v6), (7, vi (fX10_middle S r0 r1 r2))]) rfl ?_
        exact wBX10_goThrough_151 hM nF r (LX10_goThrough_90 nF n) ih S v1 v2 v3 v4 v5 v6 (fX10_middle S r0 r1 r2) (1 : Int32) (S.1 0 7) hf
def BX10_goThrough_73 (nF : Nat) (S : PS) (v1 : Int32) : Option (PS) := (LX10_goThrough_90 nF nF S v1 (((4 : Int32) * v1) + (3 : Int32)) (0 : Int32) (0 : Int32) (0 : Int32) (0 : Int32))
set_option maxHeartbeats 4000000 in
set_option maxRecDepth 100000 in
theorem wBX10_goThrough_73 {cy : ClassId × ClassId} {ad : Nat → Nat} {D : va_G} {p : Program} {l : Launch} {e : Env} {s : State} {m : MethodId} {args : Array Value} {below : List Frame} {meth : Method} {c : Code} {A : Nat → Prop} (hM : MX cy GM ad D p s m args meth c cX10_goThrough 9 RX10 none A) (nF : Nat) (r : PS) (S : PS) (v1 : Int32) (hf : BX10_goThrough_73 nF S v1 = some r) : WW cy GM ad D p l e rmX10_goThrough s m args below meth c 9 A (pov (fun S' => S' = r)) 73 [(0, vr 10 0), (1, vi v1)] [] S := by
  rw [BX10_goThrough_73] at hf
  refine w_ic (n := 74) hM (4 : Int32) (dtab_at okX10_goThrough 43 rfl) (by decide) rfl ?_
  refine w_iln (q := 1) (n := 75) hM (dtab_at okX10_goThrough 44 rfl) rfl rfl ?_
  refine w_imul (n := 76) hM (dtab_at okX10_goThrough 45 rfl) rfl ?_
  refine w_ic (n := 77) hM (3 : Int32) (dtab_at okX10_goThrough 46 rfl) (by decide) rfl ?_
  refine w_iadd (n := 78) hM (dtab_at okX10_goThrough 47 rfl) rfl ?_
  refine w_isn (n := 79) (lv' := [(2, vi (((4 : Int32) * v1) + (3 : Int32))), (0, vr 10 0), (1, vi v1)]) hM (dtab_at okX10_goThrough 48 rfl) (by decide) rfl rfl ?_
  refine w_ic (n := 80) hM (0 : Int32) (dtab_at okX10_goThrough 49 rfl) (by decide) rfl ?_
  refine w_isn (n := 81) (lv' := [(3, vi (0 : Int32)), (2, vi (((4 : Int32) * v1) + (3 : Int32))), (0, vr 10 0), (1, vi v1)]) hM (dtab_at okX10_goThrough 50 rfl) (by decide) rfl rfl ?_
  refine w_ic (n := 82) hM (0 : Int32) (dtab_at okX10_goThrough 51 rfl) (by decide) rfl ?_
  refine w_is (n := 84) (lv' := [(4, vi (0 : Int32)), (3, vi (0 : Int32)), (2, vi (((4 : Int32) * v1) + (3 : Int32))), (0, vr 10 0), (1, vi v1)]) hM (dtab_at okX10_goThrough 52 rfl) (by decide) rfl rfl ?_
  refine w_ic (n := 85) hM (0 : Int32) (dtab_at okX10_goThrough 53 rfl) (by decide) rfl ?_
  refine w_is (n := 87) (lv' := [(5, vi (0 : Int32)), (4, vi (0 : Int32)), (3, vi (0 : Int32)), (2, vi (((4 : Int32) * v1) + (3 : Int32))), (0, vr 10 0), (1, vi v1)]) hM (dtab_at okX10_goThrough 54 rfl) (by decide) rfl rfl ?_
  refine w_ic (n := 88) hM (0 : Int32) (dtab_at okX10_goThrough 55 rfl) (by decide) rfl ?_
  refine w_is (n := 90) (lv' := [(6, vi (0 : Int32)), (5, vi (0 : Int32)), (4, vi (0 : Int32)), (3, vi (0 : Int32)), (2, vi (((4 : Int32) * v1) + (3 : Int32))), (0, vr 10 0), (1, vi v1)]) hM (dtab_at okX10_goThrough 56 rfl) (by decide) rfl rfl ?_
  refine WW.lvs [5, 6, 4, 3, 2, 1, 0] (lv2 := [(0, vr 10 0), (1, vi v1), (2, vi (((4 : Int32) * v1) + (3 : Int32))), (3, vi (0 : Int32)), (4, vi (0 : Int32)), (5, vi (0 : Int32)), (6, vi (0 : Int32))]) rfl ?_
  exact wLX10_goThrough_90 hM nF r nF S v1 (((4 : Int32) * v1) + (3 : Int32)) (0 : Int32) (0 : Int32) (0 : Int32) (0 : Int32) hf
def LX10_goThrough_19 (nF : Nat) : Nat → PS → Int32 → Int32 → Option (PS)
  | 0, _, _, _ => none
  | n + 1, S, v1, v2 => (if (((4 : Int32) * v1) + (3 : Int32)) ≤ v2 then (BX10_goThrough_73 nF S v1) else (if v2 < 0 ∨ 8 ≤ v2.toNatClampNeg then none else (if (S.2 1 v2.toNatClampNeg) = (0 : Int32) then (LX10_goThrough_19 nF n (sti S 0 6 (S.1 0 6)) v1 (v2 + (1 : Int32))) else (if (S.2 3 v2.toNatClampNeg) ≤ (S.1 0 6) then (LX10_goThrough_19 nF n (sti S 0 6 (S.1 0 6)) v1 (v2 + (1 : Int32))) else (LX10_goThrough_19 nF n (sti S 0 6 (S.2 3 v2.toNatClampNeg)) v1 (v2 + (1 : Int32)))))))
set_option maxHeartbeats 4000000 in
set_option maxRecDepth 100000 in
theorem wLX10_goThrough_19 {cy : ClassId × ClassId} {ad : Nat → Nat} {D : va_G} {p : Program} {l : Launch} {e : Env} {s : State} {m : MethodId} {args : Array Value} {below : List Frame} {meth : Method} {c : Code} {A : Nat → Prop} (hM : MX cy GM ad D p s m args meth c cX10_goThrough 9 RX10 none A) (nF : Nat) (r : PS) : ∀ (n : Nat) (S : PS) (v1 : Int32) (v2 : Int32), LX10_goThrough_19 nF n S v1 v2 = some r → WW cy GM ad D p l e rmX10_goThrough s m args below meth c 9 A (pov (fun S' => S' = r)) 19 [(0, vr 10 0), (1, vi v1), (2, vi v2)] [] S := by
  intro n
  induction n with
  | zero => intro S v1 v2 hf; rw [LX10_goThrough_19] at hf; cases hf
  | succ n ih =>
    intro S v1 v2 hf
    rw [LX10_goThrough_19] at hf
    refine w_iln (q := 2) (n := 20) hM (dtab_at okX10_goThrough 13 rfl) rfl rfl ?_
    refine w_ic (n := 21) hM (4 : Int32) (dtab_at okX10_goThrough 14 rfl) (by decide) rfl ?_
    refine w_iln (q := 1) (n := 22) hM (dtab_at okX10_goThrough 15 rfl) rfl rfl ?_
    refine w_imul (n := 23) hM (dtab_at okX10_goThrough 16 rfl) rfl ?_
    refine w_ic (n := 24) hM (3 : Int32) (dtab_at okX10_goThrough 17 rfl) (by decide) rfl ?_
    refine w_iadd (n := 25) hM (dtab_at okX10_goThrough 18 rfl) rfl ?_
    refine w_ic_ge (n := 73) (n2 := 28) hM (dtab_at okX10_goThrough 19 rfl) (by decide) rfl (fun (h25 : (((4 : Int32) * v1) + (3 : Int32)) ≤ v2) => ?_) (fun (h25 : ¬ (((4 : Int32) * v1) + (3 : Int32)) ≤ v2) => ?_)
    · skip
      rw [if_pos h25] at hf
      refine WW.lvs [0, 1] (lv2 := [(0, vr 10 0), (1, vi v1)]) rfl ?_
      exact wBX10_goThrough_73 hM nF r S v1 hf
    · skip
      rw [if_neg h25] at hf
      refine w_aln (q := 0) (n := 29) hM (dtab_at okX10_goThrough 20 rfl) rfl rfl ?_
      refine w_aln (q := 0) (n := 30) hM (dtab_at okX10_goThrough 21 rfl) rfl rfl ?_
      refine w_getr (C := RX10) (T := TX10) (i := 0) (k2 := 28) (q := 1) (n := 33) hM rfl (by decide) (fun _ => rfl) ly_X10 lkF_X10_7 (dtab_at okX10_goThrough 22 rfl) rfl ?_
      refine w_iln (q := 2) (n := 34) hM (dtab_at okX10_goThrough 23 rfl) rfl rfl ?_
      by_cases hg34 : v2 < 0 ∨ 8 ≤ v2.toNatClampNeg
      · rw [if_pos hg34] at hf; cases hf
      rw [if_neg hg34] at hf
      refine w_zld (nn := 8) (n := 35) hM rfl (by decide) hg34 (dtab_at okX10_goThrough 24 rfl) rfl ?_
      refine w_if_eq (n := 60) (n2 := 38) hM (dtab_at okX10_goThrough 25 rfl) (by decide) rfl (fun (h35 : (S.2 1 v2.toNatClampNeg) = (0 : Int32)) => ?_) (fun (h35 : ¬ (S.2 1 v2.toNatClampNeg) = (0 : Int32)) => ?_)
      · skip
        rw [if_pos h35] at hf
        refine w_aln (q := 0) (n := 61) hM (dtab_at okX10_goThrough 38 rfl) rfl rfl ?_
        refine w_geti (C := RX10) (T := TX10) (i := 6) (n := 64) hM rfl (by decide) ly_X10 lkF_X10_137 (dtab_at okX10_goThrough 39 rfl) rfl ?_
        refine w_put (C := RX10) (T := TX10) (i := 6) (ty := .int) (n := 67) hM rfl (by decide) ly_X10 tyX10_ok nmX10 lkF_X10_137 rfl (by decide +kernel) rfl rfl (dtab_at okX10_goThrough 40 rfl) rfl ?_
        refine w_iinc (q := 2) (n := 70) (v := (v2 + (1 : Int32))) (lv' := [(2, vi (v2 + (1 : Int32))), (0, vr 10 0), (1, vi v1)]) hM (dtab_at okX10_goThrough 41 rfl) rfl rfl (by decide) rfl rfl ?_
        refine w_goto (n := 19) hM (dtab_at okX10_goThrough 42 rfl) (by decide) ?_
        refine WW.lvs [1, 2, 0] (lv2 := [(0, vr 10 0), (1, vi v1), (2, vi (v2 + (1 : Int32)))]) rfl ?_
        exact ih (sti S 0 6 (S.1 0 6)) v1 (v2 + (1 : Int32)) hf
      · skip
        rw [if_neg h35] at hf
        refine w_aln (q := 0) (n := 39) hM (dtab_at okX10_goThrough 26 rfl) rfl rfl ?_
        refine w_getr (C := RX10) (T := TX10) (i := 2) (k2 := 108) (q := 3) (n := 42) hM rfl (by decide) (fun _ => rfl) ly_X10 lkF_X10_17 (dtab_at okX10_goThrough 27 rfl) rfl ?_
        refine w_iln (q := 2) (n := 43) hM (dtab_at okX10_goThrough 28 rfl) rfl rfl ?_
        refine w_ald (nn := 8) (n := 44) hM rfl hg34 (dtab_at okX10_goThrough 29 rfl) rfl ?_
        refine w_aln (q := 0) (n := 45) hM (dtab_at okX10_goThrough 30 rfl) rfl rfl ?_
        refine w_geti (C := RX10) (T := TX10) (i := 6) (n := 48) hM rfl (by decide) ly_X10 lkF_X10_137 (dtab_at okX10_goThrough 31 rfl) rfl ?_
        refine w_ic_le (n := 60) (n2 := 51) hM (dtab_at okX10_goThrough 32 rfl) (by decide) rfl (fun (h48 : (S.2 3 v2.toNatClampNeg) ≤ (S.1 0 6)) => ?_) (fun (h48 : ¬ (S.2 3 v2.toNatClampNeg) ≤ (S.1 0 6)) => ?_)
        · skip
          rw [if_pos h48] at hf
          refine w_aln (q := 0) (n := 61) hM (dtab_at okX10_goThrough 38 rfl) rfl rfl ?_
          refine w_geti (C := RX10) (T := TX10) (i := 6) (n := 64) hM rfl (by decide) ly_X10 lkF_X10_137 (dtab_at okX10_goThrough 39 rfl) rfl ?_
          refine w_put (C := RX10) (T := TX10) (i := 6) (ty := .int) (n := 67) hM rfl (by decide) ly_X10 tyX10_ok nmX10 lkF_X10_137 rfl (by decide +kernel) rfl rfl (dtab_at okX10_goThrough 40 rfl) rfl ?_
          refine w_iinc (q := 2) (n := 70) (v := (v2 + (1 : Int32))) (lv' := [(2, vi (v2 + (1 : Int32))), (0, vr 10 0), (1, vi v1)]) hM (dtab_at okX10_goThrough 41 rfl) rfl rfl (by decide) rfl rfl ?_
          refine w_goto (n := 19) hM (dtab_at okX10_goThrough 42 rfl) (by decide) ?_
          refine WW.lvs [1, 2, 0] (lv2 := [(0, vr 10 0), (1, vi v1), (2, vi (v2 + (1 : Int32)))]) rfl ?_
          exact ih (sti S 0 6 (S.1 0 6)) v1 (v2 + (1 : Int32)) hf
        · skip
          rw [if_neg h48] at hf
          refine w_aln (q := 0) (n := 52) hM (dtab_at okX10_goThrough 33 rfl) rfl rfl ?_
          refine w_getr (C := RX10) (T := TX10) (i := 2) (k2 := 108) (q := 3) (n := 55) hM rfl (by decide) (fun _ => rfl) ly_X10 lkF_X10_17 (dtab_at okX10_goThrough 34 rfl) rfl ?_
          refine w_iln (q := 2) (n := 56) hM (dtab_at okX10_goThrough 35 rfl) rfl rfl ?_
          refine w_ald (nn := 8) (n := 57) hM rfl hg34 (dtab_at okX10_goThrough 36 rfl) rfl ?_
          refine w_goto (n := 64) hM (dtab_at okX10_goThrough 37 rfl) (by decide) ?_
          refine w_put (C := RX10) (T := TX10) (i := 6) (ty := .int) (n := 67) hM rfl (by decide) ly_X10 tyX10_ok nmX10 lkF_X10_137 rfl (by decide +kernel) rfl rfl (dtab_at okX10_goThrough 40 rfl) rfl ?_
          refine w_iinc (q := 2) (n := 70) (v := (v2 + (1 : Int32))) (lv' := [(2, vi (v2 + (1 : Int32))), (0, vr 10 0), (1, vi v1)]) hM (dtab_at okX10_goThrough 41 rfl) rfl rfl (by decide) rfl rfl ?_
          refine w_goto (n := 19) hM (dtab_at okX10_goThrough 42 rfl) (by decide) ?_
          refine WW.lvs [1, 2, 0] (lv2 := [(0, vr 10 0), (1, vi v1), (2, vi (v2 + (1 : Int32)))]) rfl ?_
          exact ih (sti S 0 6 (S.2 3 v2.toNatClampNeg)) v1 (v2 + (1 : Int32)) hf
def fX10_goThrough (nF : Nat) (S : PS) (a1 : Int32) : Option (PS) := (LX10_goThrough_19 nF nF (sti (sti (sti S 0 6 (0 : Int32)) 0 7 (0 : Int32)) 0 9 (0 : Int32)) a1 ((4 : Int32) * a1))
set_option maxHeartbeats 4000000 in
set_option maxRecDepth 100000 in
theorem c_X10_goThrough {cy : ClassId × ClassId} {ad : Nat → Nat} {D : va_G} {l : Launch} (nF : Nat) (S : PS) (a1 : Int32) (r : PS) (hf : fX10_goThrough nF S a1 = some r) : PMv cy GM ad D l yX10_goThrough (wA yX10_goThrough cX10_goThrough 9 none) rmX10_goThrough [vr 10 0, vi a1] S (fun S' => S' = r) := by
  refine PM.of (lv := [(0, vr 10 0), (1, vi a1)]) GM_ok (by decide) (Nat.le_of_ble_eq_true rfl) rfl (by simp) ?_
  intro p e s m args below meth c A hM
  rw [fX10_goThrough] at hf
  refine w_aln (q := 0) (n := 1) hM (dtab_at okX10_goThrough 0 rfl) rfl rfl ?_
  refine w_ic (n := 2) hM (0 : Int32) (dtab_at okX10_goThrough 1 rfl) (by decide) rfl ?_
  refine w_put (C := RX10) (T := TX10) (i := 6) (ty := .int) (n := 5) hM rfl (by decide) ly_X10 tyX10_ok nmX10 lkF_X10_137 rfl (by decide +kernel) rfl rfl (dtab_at okX10_goThrough 2 rfl) rfl ?_
  refine w_aln (q := 0) (n := 6) hM (dtab_at okX10_goThrough 3 rfl) rfl rfl ?_
  refine w_ic (n := 7) hM (0 : Int32) (dtab_at okX10_goThrough 4 rfl) (by decide) rfl ?_
  refine w_put (C := RX10) (T := TX10) (i := 7) (ty := .int) (n := 10) hM rfl (by decide) ly_X10 tyX10_ok nmX10 lkF_X10_140 rfl (by decide +kernel) rfl rfl (dtab_at okX10_goThrough 5 rfl) rfl ?_
  refine w_aln (q := 0) (n := 11) hM (dtab_at okX10_goThrough 6 rfl) rfl rfl ?_
  refine w_ic (n := 12) hM (0 : Int32) (dtab_at okX10_goThrough 7 rfl) (by decide) rfl ?_
  refine w_put (C := RX10) (T := TX10) (i := 9) (ty := .int) (n := 15) hM rfl (by decide) ly_X10 tyX10_ok nmX10 lkF_X10_143 rfl (by decide +kernel) rfl rfl (dtab_at okX10_goThrough 8 rfl) rfl ?_
  refine w_ic (n := 16) hM (4 : Int32) (dtab_at okX10_goThrough 9 rfl) (by decide) rfl ?_
  refine w_iln (q := 1) (n := 17) hM (dtab_at okX10_goThrough 10 rfl) rfl rfl ?_
  refine w_imul (n := 18) hM (dtab_at okX10_goThrough 11 rfl) rfl ?_
  refine w_isn (n := 19) (lv' := [(2, vi ((4 : Int32) * a1)), (0, vr 10 0), (1, vi a1)]) hM (dtab_at okX10_goThrough 12 rfl) (by decide) rfl rfl ?_
  refine WW.lvs [1, 2, 0] (lv2 := [(0, vr 10 0), (1, vi a1), (2, vi ((4 : Int32) * a1))]) rfl ?_
  exact wLX10_goThrough_19 hM nF r nF (sti (sti (sti S 0 6 (0 : Int32)) 0 7 (0 : Int32)) 0 9 (0 : Int32)) a1 ((4 : Int32) * a1) hf
def fX10_run (nF : Nat) (S : PS) (a1 : Int32) (a2 : Int32) : Option (Int32 × PS) := (if (fX10_isRun S a1) = (0 : Int32) then (some ((-2 : Int32), S)) else ((fX10_goThrough nF S a1).bind fun r1 => (if a2.toInt < 0 ∨ 3 < a2.toInt then (some ((-2 : Int32), r1)) else if a2 = 0 then (some ((r1.1 0 6), r1)) else if a2 = 1 then (some ((r1.1 0 7), r1)) else if a2 = 2 then (if (r1.1 0 6) = (0 : Int32) then (some ((0 : Int32), r1)) else (if ((r1.1 0 6) - (1 : Int32)) < 0 ∨ 150 ≤ ((r1.1 0 6) - (1 : Int32)).toNatClampNeg then none else (some ((r1.2 6 ((r1.1 0 6) - (1 : Int32)).toNatClampNeg), r1)))) else (some ((r1.1 0 9), r1)))))
set_option maxHeartbeats 4000000 in
set_option maxRecDepth 100000 in
theorem c_X10_run {cy : ClassId × ClassId} {ad : Nat → Nat} {D : va_G} {l : Launch} (nF : Nat) (S : PS) (a1 : Int32) (a2 : Int32) (r : Int32 × PS) (hf : fX10_run nF S a1 a2 = some r) : PMi cy GM ad D l yX10_run (wA yX10_run cX10_run 3 (some .int)) rmX10_run [vr 10 0, vi a1, vi a2] S (fun x S' => (x, S') = r) := by
  refine PM.of (lv := [(0, vr 10 0), (1, vi a1), (2, vi a2)]) GM_ok (by decide) (Nat.le_of_ble_eq_true rfl) rfl (by simp) ?_
  intro p e s m args below meth c A hM
  rw [fX10_run] at hf
  refine w_iln (q := 1) (n := 1) hM (dtab_at okX10_run 0 rfl) rfl rfl ?_
  refine w_callSi (n := 4) (As := [vi a1]) (rest := []) hM (c_X10_isRun S a1) lkM_X10_153 ms_X10_isRun (by decide) rfl (Nat.le_of_ble_eq_true rfl) rfl (dtab_at okX10_run 1 rfl) rfl (fun x0 S0 hp0 => ?_)
  obtain ⟨hx_, hs_⟩ := hp0
  have hs_ := hs_.symm
  subst hs_
  subst hx_
  refine w_if_ne (n := 10) (n2 := 7) hM (dtab_at okX10_run 2 rfl) (by decide) rfl (fun (h4 : ¬ (fX10_isRun S a1) = (0 : Int32)) => ?_) (fun (h4 : (fX10_isRun S a1) = (0 : Int32)) => ?_)
  · skip
    rw [if_neg h4] at hf
    refine w_aln (q := 0) (n := 11) hM (dtab_at okX10_run 5 rfl) rfl rfl ?_
    refine w_iln (q := 1) (n := 12) hM (dtab_at okX10_run 6 rfl) rfl rfl ?_
    obtain ⟨r1, hr1, hf⟩ := Option.bind_eq_some_iff.mp hf
    refine w_callVv (n := 15) (As := [vi a1]) (rest := []) (k := 10) (j := 0) (C := RX10) (T := TX10) (N := 43) hM (c_X10_goThrough nF S a1 r1 hr1) lkM_X10_156 mv_X10_goThrough (by decide) rfl (by decide) rfl (Nat.le_of_ble_eq_true rfl) rfl (dtab_at okX10_run 7 rfl) rfl (fun S1 hp1 => ?_)
    have hs_ := hp1.symm
    subst hs_
    refine w_iln (q := 2) (n := 16) hM (dtab_at okX10_run 8 rfl) rfl rfl ?_
    by_cases hts16 : a2.toInt < 0 ∨ 3 < a2.toInt
    · refine w_tsOut (n := 86) hM (dtab_at okX10_run 9 rfl) hts16 (by decide) ?_
      rw [if_pos hts16] at hf
      refine w_bi (n := 88) hM (-2 : Int32) (dtab_at okX10_run 32 rfl) (by decide) rfl ?_
      exact r_i hM (dtab_at okX10_run 33 rfl) (Option.some.inj hf)
    · have htn16 := hts16
      obtain hts16 | hts16 | hts16 | hts16 : a2 = 0 ∨ a2 = 1 ∨ a2 = 2 ∨ a2 = 3 := sw0_4 hts16
      · refine w_tsIn (n := 48) (off := 32) hM (dtab_at okX10_run 9 rfl) (by rw [hts16]; decide) (by rw [hts16]; decide) (by rw [hts16]; rfl) (by decide) ?_
        rw [if_neg htn16, if_pos hts16] at hf
        refine w_aln (q := 0) (n := 49) hM (dtab_at okX10_run 10 rfl) rfl rfl ?_
        refine w_geti (C := RX10) (T := TX10) (i := 6) (n := 52) hM rfl (by decide) ly_X10 lkF_X10_137 (dtab_at okX10_run 11 rfl) rfl ?_
        exact r_i hM (dtab_at okX10_run 12 rfl) (Option.some.inj hf)
      · refine w_tsIn (n := 53) (off := 37) hM (dtab_at okX10_run 9 rfl) (by rw [hts16]; decide) (by rw [hts16]; decide) (by rw [hts16]; rfl) (by decide) ?_
        rw [if_neg htn16, if_neg (show ¬ a2 = 0 by rw [hts16]; decide), if_pos hts16] at hf
        refine w_aln (q := 0) (n := 54) hM (dtab_at okX10_run 13 rfl) rfl rfl ?_
        refine w_geti (C := RX10) (T := TX10) (i := 7) (n := 57) hM rfl (by decide) ly_X10 lkF_X10_140 (dtab_at okX10_run 14 rfl) rfl ?_
        exact r_i hM (dtab_at okX10_run 15 rfl) (Option.some.inj hf)
      · refine w_tsIn (n := 58) (off := 42) hM (dtab_at okX10_run 9 rfl) (by rw [hts16]; decide) (by rw [hts16]; decide) (by rw [hts16]; rfl) (by decide) ?_
        rw [if_neg htn16, if_neg (show ¬ a2 = 0 by rw [hts16]; decide), if_neg (show ¬ a2 = 1 by rw [hts16]; decide), if_pos hts16] at hf
        refine w_aln (q := 0) (n := 59) hM (dtab_at okX10_run 16 rfl) rfl rfl ?_
        refine w_geti (C := RX10) (T := TX10) (i := 6) (n := 62) hM rfl (by decide) ly_X10 lkF_X10_137 (dtab_at okX10_run 17 rfl) rfl ?_
        refine w_if_ne (n := 69) (n2 := 65) hM (dtab_at okX10_run 18 rfl) (by decide) rfl (fun (h62 : ¬ (r1.1 0 6) = (0 : Int32)) => ?_) (fun (h62 : (r1.1 0 6) = (0 : Int32)) => ?_)
        · skip
          rw [if_neg h62] at hf
          refine w_aln (q := 0) (n := 70) hM (dtab_at okX10_run 21 rfl) rfl rfl ?_
          refine w_getr (C := RX10) (T := TX10) (i := 8) (k2 := 250) (q := 6) (n := 73) hM rfl (by decide) (fun _ => rfl) ly_X10 lkF_X10_26 (dtab_at okX10_run 22 rfl) rfl ?_
          refine w_aln (q := 0) (n := 74) hM (dtab_at okX10_run 23 rfl) rfl rfl ?_
          refine w_geti (C := RX10) (T := TX10) (i := 6) (n := 77) hM rfl (by decide) ly_X10 lkF_X10_137 (dtab_at okX10_run 24 rfl) rfl ?_
          refine w_ic (n := 78) hM (1 : Int32) (dtab_at okX10_run 25 rfl) (by decide) rfl ?_
          refine w_isub (n := 79) hM (dtab_at okX10_run 26 rfl) rfl ?_
          by_cases hg79 : ((r1.1 0 6) - (1 : Int32)) < 0 ∨ 150 ≤ ((r1.1 0 6) - (1 : Int32)).toNatClampNeg
          · rw [if_pos hg79] at hf; cases hf
          rw [if_neg hg79] at hf
          refine w_ald (nn := 150) (n := 80) hM rfl hg79 (dtab_at okX10_run 27 rfl) rfl ?_
          exact r_i hM (dtab_at okX10_run 28 rfl) (Option.some.inj hf)
        · skip
          rw [if_pos h62] at hf
          refine w_ic (n := 66) hM (0 : Int32) (dtab_at okX10_run 19 rfl) (by decide) rfl ?_
          refine w_goto (n := 80) hM (dtab_at okX10_run 20 rfl) (by decide) ?_
          exact r_i hM (dtab_at okX10_run 28 rfl) (Option.some.inj hf)
      · refine w_tsIn (n := 81) (off := 65) hM (dtab_at okX10_run 9 rfl) (by rw [hts16]; decide) (by rw [hts16]; decide) (by rw [hts16]; rfl) (by decide) ?_
        rw [if_neg htn16, if_neg (show ¬ a2 = 0 by rw [hts16]; decide), if_neg (show ¬ a2 = 1 by rw [hts16]; decide), if_neg (show ¬ a2 = 2 by rw [hts16]; decide)] at hf
        refine w_aln (q := 0) (n := 82) hM (dtab_at okX10_run 29 rfl) rfl rfl ?_
        refine w_geti (C := RX10) (T := TX10) (i := 9) (n := 85) hM rfl (by decide) ly_X10 lkF_X10_143 (dtab_at okX10_run 30 rfl) rfl ?_
        exact r_i hM (dtab_at okX10_run 31 rfl) (Option.some.inj hf)
  · skip
    rw [if_pos h4] at hf
    refine w_bi (n := 9) hM (-2 : Int32) (dtab_at okX10_run 3 rfl) (by decide) rfl ?_
    exact r_i hM (dtab_at okX10_run 4 rfl) (Option.some.inj hf)
def fX10_way (nF : Nat) (S : PS) (a1 : Int32) (a2 : Int32) : Option (Int32 × PS) := (if (fX10_isRun S a1) = (0 : Int32) then (some ((-2 : Int32), S)) else ((fX10_goThrough nF S a1).bind fun r1 => (if (fX10_in r1 a2 (0 : Int32) ((r1.1 0 6) - (1 : Int32))) = (0 : Int32) then (some ((-2 : Int32), r1)) else (if a2 < 0 ∨ 150 ≤ a2.toNatClampNeg then none else (some ((r1.2 6 a2.toNatClampNeg), r1))))))
set_option maxHeartbeats 4000000 in
set_option maxRecDepth 100000 in
theorem c_X10_way {cy : ClassId × ClassId} {ad : Nat → Nat} {D : va_G} {l : Launch} (nF : Nat) (S : PS) (a1 : Int32) (a2 : Int32) (r : Int32 × PS) (hf : fX10_way nF S a1 a2 = some r) : PMi cy GM ad D l yX10_way (wA yX10_way cX10_way 3 (some .int)) rmX10_way [vr 10 0, vi a1, vi a2] S (fun x S' => (x, S') = r) := by
  refine PM.of (lv := [(0, vr 10 0), (1, vi a1), (2, vi a2)]) GM_ok (by decide) (Nat.le_of_ble_eq_true rfl) rfl (by simp) ?_
  intro p e s m args below meth c A hM
  rw [fX10_way] at hf
  refine w_iln (q := 1) (n := 1) hM (dtab_at okX10_way 0 rfl) rfl rfl ?_
  refine w_callSi (n := 4) (As := [vi a1]) (rest := []) hM (c_X10_isRun S a1) lkM_X10_153 ms_X10_isRun (by decide) rfl (Nat.le_of_ble_eq_true rfl) rfl (dtab_at okX10_way 1 rfl) rfl (fun x0 S0 hp0 => ?_)
  obtain ⟨hx_, hs_⟩ := hp0
  have hs_ := hs_.symm
  subst hs_
  subst hx_
  refine w_if_ne (n := 10) (n2 := 7) hM (dtab_at okX10_way 2 rfl) (by decide) rfl (fun (h4 : ¬ (fX10_isRun S a1) = (0 : Int32)) => ?_) (fun (h4 : (fX10_isRun S a1) = (0 : Int32)) => ?_)
  · skip
    rw [if_neg h4] at hf
    refine w_aln (q := 0) (n := 11) hM (dtab_at okX10_way 5 rfl) rfl rfl ?_
    refine w_iln (q := 1) (n := 12) hM (dtab_at okX10_way 6 rfl) rfl rfl ?_
    obtain ⟨r1, hr1, hf⟩ := Option.bind_eq_some_iff.mp hf
    refine w_callVv (n := 15) (As := [vi a1]) (rest := []) (k := 10) (j := 0) (C := RX10) (T := TX10) (N := 43) hM (c_X10_goThrough nF S a1 r1 hr1) lkM_X10_156 mv_X10_goThrough (by decide) rfl (by decide) rfl (Nat.le_of_ble_eq_true rfl) rfl (dtab_at okX10_way 7 rfl) rfl (fun S1 hp1 => ?_)
    have hs_ := hp1.symm
    subst hs_
    refine w_iln (q := 2) (n := 16) hM (dtab_at okX10_way 8 rfl) rfl rfl ?_
    refine w_ic (n := 17) hM (0 : Int32) (dtab_at okX10_way 9 rfl) (by decide) rfl ?_
    refine w_aln (q := 0) (n := 18) hM (dtab_at okX10_way 10 rfl) rfl rfl ?_
    refine w_geti (C := RX10) (T := TX10) (i := 6) (n := 21) hM rfl (by decide) ly_X10 lkF_X10_137 (dtab_at okX10_way 11 rfl) rfl ?_
    refine w_ic (n := 22) hM (1 : Int32) (dtab_at okX10_way 12 rfl) (by decide) rfl ?_
    refine w_isub (n := 23) hM (dtab_at okX10_way 13 rfl) rfl ?_
    refine w_callSi (n := 26) (As := [vi a2, vi (0 : Int32), vi ((r1.1 0 6) - (1 : Int32))]) (rest := []) hM (c_X10_in r1 a2 (0 : Int32) ((r1.1 0 6) - (1 : Int32))) lkM_X10_120 ms_X10_in (by decide) rfl (Nat.le_of_ble_eq_true rfl) rfl (dtab_at okX10_way 14 rfl) rfl (fun x2 S2 hp2 => ?_)
    obtain ⟨hx_, hs_⟩ := hp2
    have hs_ := hs_.symm
    subst hs_
    subst hx_
    refine w_if_eq (n := 38) (n2 := 29) hM (dtab_at okX10_way 15 rfl) (by decide) rfl (fun (h26 : (fX10_in r1 a2 (0 : Int32) ((r1.1 0 6) - (1 : Int32))) = (0 : Int32)) => ?_) (fun (h26 : ¬ (fX10_in r1 a2 (0 : Int32) ((r1.1 0 6) - (1 : Int32))) = (0 : Int32)) => ?_)
    · skip
      rw [if_pos h26] at hf
      refine w_bi (n := 40) hM (-2 : Int32) (dtab_at okX10_way 21 rfl) (by decide) rfl ?_
      exact r_i hM (dtab_at okX10_way 22 rfl) (Option.some.inj hf)
    · skip
      rw [if_neg h26] at hf
      refine w_aln (q := 0) (n := 30) hM (dtab_at okX10_way 16 rfl) rfl rfl ?_
      refine w_getr (C := RX10) (T := TX10) (i := 8) (k2 := 250) (q := 6) (n := 33) hM rfl (by decide) (fun _ => rfl) ly_X10 lkF_X10_26 (dtab_at okX10_way 17 rfl) rfl ?_
      refine w_iln (q := 2) (n := 34) hM (dtab_at okX10_way 18 rfl) rfl rfl ?_
      by_cases hg34 : a2 < 0 ∨ 150 ≤ a2.toNatClampNeg
      · rw [if_pos hg34] at hf; cases hf
      rw [if_neg hg34] at hf
      refine w_ald (nn := 150) (n := 35) hM rfl hg34 (dtab_at okX10_way 19 rfl) rfl ?_
      refine w_goto (n := 40) hM (dtab_at okX10_way 20 rfl) (by decide) ?_
      exact r_i hM (dtab_at okX10_way 22 rfl) (Option.some.inj hf)
  · skip
    rw [if_pos h4] at hf
    refine w_bi (n := 9) hM (-2 : Int32) (dtab_at okX10_way 3 rfl) (by decide) rfl ?_
    exact r_i hM (dtab_at okX10_way 4 rfl) (Option.some.inj hf)
def fX10_felt (nF : Nat) (S : PS) (a1 : Int32) (a2 : Int32) (a3 : Int32) : Option (Int32 × PS) := (if (fX10_isRun S a1) = (0 : Int32) then (some ((-2 : Int32), S)) else (if (fX10_in S a3 (0 : Int32) (1 : Int32)) = (0 : Int32) then (some ((-2 : Int32), S)) else ((fX10_goThrough nF S a1).bind fun r2 => (if (fX10_in r2 a2 (0 : Int32) ((r2.1 0 9) - (1 : Int32))) = (0 : Int32) then (some ((-2 : Int32), r2)) else (if a3 = (0 : Int32) then (if a2 < 0 ∨ 60 ≤ a2.toNatClampNeg then none else (some ((r2.2 7 a2.toNatClampNeg), r2))) else (if a2 < 0 ∨ 60 ≤ a2.toNatClampNeg then none else (some ((r2.2 8 a2.toNatClampNeg), r2))))))))
set_option maxHeartbeats 4000000 in
set_option maxRecDepth 100000 in
theorem c_X10_felt {cy : ClassId × ClassId} {ad : Nat → Nat} {D : va_G} {l : Launch} (nF : Nat) (S : PS) (a1 : Int32) (a2 : Int32) (a3 : Int32) (r : Int32 × PS) (hf : fX10_felt nF S a1 a2 a3 = some r) : PMi cy GM ad D l yX10_felt (wA yX10_felt cX10_felt 4 (some .int)) rmX10_felt [vr 10 0, vi a1, vi a2, vi a3] S (fun x S' => (x, S') = r) := by
  refine PM.of (lv := [(0, vr 10 0), (1, vi a1), (2, vi a2), (3, vi a3)]) GM_ok (by decide) (Nat.le_of_ble_eq_true rfl) rfl (by simp) ?_
  intro p e s m args below meth c A hM
  rw [fX10_felt] at hf
  refine w_iln (q := 1) (n := 1) hM (dtab_at okX10_felt 0 rfl) rfl rfl ?_
  refine w_callSi (n := 4) (As := [vi a1]) (rest := []) hM (c_X10_isRun S a1) lkM_X10_153 ms_X10_isRun (by decide) rfl (Nat.le_of_ble_eq_true rfl) rfl (dtab_at okX10_felt 1 rfl) rfl (fun x0 S0 hp0 => ?_)
  obtain ⟨hx_, hs_⟩ := hp0
  have hs_ := hs_.symm
  subst hs_
  subst hx_
  refine w_if_eq (n := 16) (n2 := 7) hM (dtab_at okX10_felt 2 rfl) (by decide) rfl (fun (h4 : (fX10_isRun S a1) = (0 : Int32)) => ?_) (fun (h4 : ¬ (fX10_isRun S a1) = (0 : Int32)) => ?_)
  · skip
    rw [if_pos h4] at hf
    refine w_bi (n := 18) hM (-2 : Int32) (dtab_at okX10_felt 8 rfl) (by decide) rfl ?_
    exact r_i hM (dtab_at okX10_felt 9 rfl) (Option.some.inj hf)
  · skip
    rw [if_neg h4] at hf
    refine w_iln (q := 3) (n := 8) hM (dtab_at okX10_felt 3 rfl) rfl rfl ?_
    refine w_ic (n := 9) hM (0 : Int32) (dtab_at okX10_felt 4 rfl) (by decide) rfl ?_
    refine w_ic (n := 10) hM (1 : Int32) (dtab_at okX10_felt 5 rfl) (by decide) rfl ?_
    refine w_callSi (n := 13) (As := [vi a3, vi (0 : Int32), vi (1 : Int32)]) (rest := []) hM (c_X10_in S a3 (0 : Int32) (1 : Int32)) lkM_X10_120 ms_X10_in (by decide) rfl (Nat.le_of_ble_eq_true rfl) rfl (dtab_at okX10_felt 6 rfl) rfl (fun x1 S1 hp1 => ?_)
    obtain ⟨hx_, hs_⟩ := hp1
    have hs_ := hs_.symm
    subst hs_
    subst hx_
    refine w_if_ne (n := 19) (n2 := 16) hM (dtab_at okX10_felt 7 rfl) (by decide) rfl (fun (h13 : ¬ (fX10_in S a3 (0 : Int32) (1 : Int32)) = (0 : Int32)) => ?_) (fun (h13 : (fX10_in S a3 (0 : Int32) (1 : Int32)) = (0 : Int32)) => ?_)
    · skip
      rw [if_neg h13] at hf
      refine w_aln (q := 0) (n := 20) hM (dtab_at okX10_felt 10 rfl) rfl rfl ?_
      refine w_iln (q := 1) (n := 21) hM (dtab_at okX10_felt 11 rfl) rfl rfl ?_
      obtain ⟨r2, hr2, hf⟩ := Option.bind_eq_some_iff.mp hf
      refine w_callVv (n := 24) (As := [vi a1]) (rest := []) (k := 10) (j := 0) (C := RX10) (T := TX10) (N := 43) hM (c_X10_goThrough nF S a1 r2 hr2) lkM_X10_156 mv_X10_goThrough (by decide) rfl (by decide) rfl (Nat.le_of_ble_eq_true rfl) rfl (dtab_at okX10_felt 12 rfl) rfl (fun S2 hp2 => ?_)
      have hs_ := hp2.symm
      subst hs_
      refine w_iln (q := 2) (n := 25) hM (dtab_at okX10_felt 13 rfl) rfl rfl ?_
      refine w_ic (n := 26) hM (0 : Int32) (dtab_at okX10_felt 14 rfl) (by decide) rfl ?_
      refine w_aln (q := 0) (n := 27) hM (dtab_at okX10_felt 15 rfl) rfl rfl ?_
      refine w_geti (C := RX10) (T := TX10) (i := 9) (n := 30) hM rfl (by decide) ly_X10 lkF_X10_143 (dtab_at okX10_felt 16 rfl) rfl ?_
      refine w_ic (n := 31) hM (1 : Int32) (dtab_at okX10_felt 17 rfl) (by decide) rfl ?_
      refine w_isub (n := 32) hM (dtab_at okX10_felt 18 rfl) rfl ?_
      refine w_callSi (n := 35) (As := [vi a2, vi (0 : Int32), vi ((r2.1 0 9) - (1 : Int32))]) (rest := []) hM (c_X10_in r2 a2 (0 : Int32) ((r2.1 0 9) - (1 : Int32))) lkM_X10_120 ms_X10_in (by decide) rfl (Nat.le_of_ble_eq_true rfl) rfl (dtab_at okX10_felt 19 rfl) rfl (fun x3 S3 hp3 => ?_)
      obtain ⟨hx_, hs_⟩ := hp3
      have hs_ := hs_.symm
      subst hs_
      subst hx_
      refine w_if_eq (n := 60) (n2 := 38) hM (dtab_at okX10_felt 20 rfl) (by decide) rfl (fun (h35 : (fX10_in r2 a2 (0 : Int32) ((r2.1 0 9) - (1 : Int32))) = (0 : Int32)) => ?_) (fun (h35 : ¬ (fX10_in r2 a2 (0 : Int32) ((r2.1 0 9) - (1 : Int32))) = (0 : Int32)) => ?_)
      · skip
        rw [if_pos h35] at hf
        refine w_bi (n := 62) hM (-2 : Int32) (dtab_at okX10_felt 33 rfl) (by decide) rfl ?_
        exact r_i hM (dtab_at okX10_felt 34 rfl) (Option.some.inj hf)
      · skip
        rw [if_neg h35] at hf
        refine w_iln (q := 3) (n := 39) hM (dtab_at okX10_felt 21 rfl) rfl rfl ?_
        refine w_if_ne (n := 51) (n2 := 42) hM (dtab_at okX10_felt 22 rfl) (by decide) rfl (fun (h39 : ¬ a3 = (0 : Int32)) => ?_) (fun (h39 : a3 = (0 : Int32)) => ?_)
        · skip
          rw [if_neg h39] at hf
          refine w_aln (q := 0) (n := 52) hM (dtab_at okX10_felt 28 rfl) rfl rfl ?_
          refine w_getr (C := RX10) (T := TX10) (i := 11) (k2 := 160) (q := 8) (n := 55) hM rfl (by decide) (fun _ => rfl) ly_X10 lkF_X10_32 (dtab_at okX10_felt 29 rfl) rfl ?_
          refine w_iln (q := 2) (n := 56) hM (dtab_at okX10_felt 30 rfl) rfl rfl ?_
          by_cases hg56 : a2 < 0 ∨ 60 ≤ a2.toNatClampNeg
          · rw [if_pos hg56] at hf; cases hf
          rw [if_neg hg56] at hf
          refine w_ald (nn := 60) (n := 57) hM rfl hg56 (dtab_at okX10_felt 31 rfl) rfl ?_
          refine w_goto (n := 62) hM (dtab_at okX10_felt 32 rfl) (by decide) ?_
          exact r_i hM (dtab_at okX10_felt 34 rfl) (Option.some.inj hf)
        · skip
          rw [if_pos h39] at hf
          refine w_aln (q := 0) (n := 43) hM (dtab_at okX10_felt 23 rfl) rfl rfl ?_
          refine w_getr (C := RX10) (T := TX10) (i := 10) (k2 := 160) (q := 7) (n := 46) hM rfl (by decide) (fun _ => rfl) ly_X10 lkF_X10_29 (dtab_at okX10_felt 24 rfl) rfl ?_
          refine w_iln (q := 2) (n := 47) hM (dtab_at okX10_felt 25 rfl) rfl rfl ?_
          by_cases hg47 : a2 < 0 ∨ 60 ≤ a2.toNatClampNeg
          · rw [if_pos hg47] at hf; cases hf
          rw [if_neg hg47] at hf
          refine w_ald (nn := 60) (n := 48) hM rfl hg47 (dtab_at okX10_felt 26 rfl) rfl ?_
          refine w_goto (n := 62) hM (dtab_at okX10_felt 27 rfl) (by decide) ?_
          exact r_i hM (dtab_at okX10_felt 34 rfl) (Option.some.inj hf)
    · skip
      rw [if_pos h13] at hf
      refine w_bi (n := 18) hM (-2 : Int32) (dtab_at okX10_felt 8 rfl) (by decide) rfl ?_
      exact r_i hM (dtab_at okX10_felt 9 rfl) (Option.some.inj hf)
def fX10_joint (nF : Nat) (S : PS) (a1 : Int32) : Option (Int32 × PS) := (if (fX10_in S a1 (1 : Int32) (100000 : Int32)) = (0 : Int32) then (some ((-2 : Int32), S)) else (if (S.1 0 12) = (40 : Int32) then (some ((-3 : Int32), S)) else (if (S.1 0 12) < 0 ∨ 40 ≤ (S.1 0 12).toNatClampNeg then none else (some ((((S.1 0 12) + (1 : Int32)) - (1 : Int32)), (sti (sta S 9 (S.1 0 12).toNatClampNeg a1) 0 12 ((S.1 0 12) + (1 : Int32))))))))
set_option maxHeartbeats 4000000 in
set_option maxRecDepth 100000 in
theorem c_X10_joint {cy : ClassId × ClassId} {ad : Nat → Nat} {D : va_G} {l : Launch} (nF : Nat) (S : PS) (a1 : Int32) (r : Int32 × PS) (hf : fX10_joint nF S a1 = some r) : PMi cy GM ad D l yX10_joint (wA yX10_joint cX10_joint 2 (some .int)) rmX10_joint [vr 10 0, vi a1] S (fun x S' => (x, S') = r) := by
  refine PM.of (lv := [(0, vr 10 0), (1, vi a1)]) GM_ok (by decide) (Nat.le_of_ble_eq_true rfl) rfl (by simp) ?_
  intro p e s m args below meth c A hM
  rw [fX10_joint] at hf
  refine w_iln (q := 1) (n := 1) hM (dtab_at okX10_joint 0 rfl) rfl rfl ?_
  refine w_ic (n := 2) hM (1 : Int32) (dtab_at okX10_joint 1 rfl) (by decide) rfl ?_
  refine w_ldc (n := 4) (v := (100000 : Int32)) hM (dtab_at okX10_joint 2 rfl) lkC_X10_160 rfl ?_
  refine w_callSi (n := 7) (As := [vi a1, vi (1 : Int32), vi (100000 : Int32)]) (rest := []) hM (c_X10_in S a1 (1 : Int32) (100000 : Int32)) lkM_X10_120 ms_X10_in (by decide) rfl (Nat.le_of_ble_eq_true rfl) rfl (dtab_at okX10_joint 3 rfl) rfl (fun x0 S0 hp0 => ?_)
  obtain ⟨hx_, hs_⟩ := hp0
  have hs_ := hs_.symm
  subst hs_
  subst hx_
  refine w_if_ne (n := 13) (n2 := 10) hM (dtab_at okX10_joint 4 rfl) (by decide) rfl (fun (h7 : ¬ (fX10_in S a1 (1 : Int32) (100000 : Int32)) = (0 : Int32)) => ?_) (fun (h7 : (fX10_in S a1 (1 : Int32) (100000 : Int32)) = (0 : Int32)) => ?_)
  · skip
    rw [if_neg h7] at hf
    refine w_aln (q := 0) (n := 14) hM (dtab_at okX10_joint 7 rfl) rfl rfl ?_
    refine w_geti (C := RX10) (T := TX10) (i := 12) (n := 17) hM rfl (by decide) ly_X10 lkF_X10_161 (dtab_at okX10_joint 8 rfl) rfl ?_
    refine w_bi (n := 19) hM (40 : Int32) (dtab_at okX10_joint 9 rfl) (by decide) rfl ?_
    refine w_ic_ne (n := 25) (n2 := 22) hM (dtab_at okX10_joint 10 rfl) (by decide) rfl (fun (h19 : ¬ (S.1 0 12) = (40 : Int32)) => ?_) (fun (h19 : (S.1 0 12) = (40 : Int32)) => ?_)
    · skip
      rw [if_neg h19] at hf
      refine w_aln (q := 0) (n := 26) hM (dtab_at okX10_joint 13 rfl) rfl rfl ?_
      refine w_getr (C := RX10) (T := TX10) (i := 13) (k2 := 140) (q := 9) (n := 29) hM rfl (by decide) (fun _ => rfl) ly_X10 lkF_X10_35 (dtab_at okX10_joint 14 rfl) rfl ?_
      refine w_aln (q := 0) (n := 30) hM (dtab_at okX10_joint 15 rfl) rfl rfl ?_
      refine w_geti (C := RX10) (T := TX10) (i := 12) (n := 33) hM rfl (by decide) ly_X10 lkF_X10_161 (dtab_at okX10_joint 16 rfl) rfl ?_
      refine w_iln (q := 1) (n := 34) hM (dtab_at okX10_joint 17 rfl) rfl rfl ?_
      by_cases hg34 : (S.1 0 12) < 0 ∨ 40 ≤ (S.1 0 12).toNatClampNeg
      · rw [if_pos hg34] at hf; cases hf
      rw [if_neg hg34] at hf
      refine w_ast (nn := 40) (n := 35) hM rfl hg34 (dtab_at okX10_joint 18 rfl) rfl ?_
      refine w_aln (q := 0) (n := 36) hM (dtab_at okX10_joint 19 rfl) rfl rfl ?_
      refine w_dup (n := 37) hM (dtab_at okX10_joint 20 rfl) rfl rfl ?_
      refine w_geti (C := RX10) (T := TX10) (i := 12) (n := 40) hM rfl (by decide) ly_X10 lkF_X10_161 (dtab_at okX10_joint 21 rfl) rfl ?_
      refine w_ic (n := 41) hM (1 : Int32) (dtab_at okX10_joint 22 rfl) (by decide) rfl ?_
      refine w_iadd (n := 42) hM (dtab_at okX10_joint 23 rfl) rfl ?_
      refine w_put (C := RX10) (T := TX10) (i := 12) (ty := .int) (n := 45) hM rfl (by decide) ly_X10 tyX10_ok nmX10 lkF_X10_161 rfl (by decide +kernel) rfl rfl (dtab_at okX10_joint 24 rfl) rfl ?_
      refine w_aln (q := 0) (n := 46) hM (dtab_at okX10_joint 25 rfl) rfl rfl ?_
      refine w_geti (C := RX10) (T := TX10) (i := 12) (n := 49) hM rfl (by decide) ly_X10 lkF_X10_161 (dtab_at okX10_joint 26 rfl) rfl ?_
      refine w_ic (n := 50) hM (1 : Int32) (dtab_at okX10_joint 27 rfl) (by decide) rfl ?_
      refine w_isub (n := 51) hM (dtab_at okX10_joint 28 rfl) rfl ?_
      exact r_i hM (dtab_at okX10_joint 29 rfl) (Option.some.inj hf)
    · skip
      rw [if_pos h19] at hf
      refine w_bi (n := 24) hM (-3 : Int32) (dtab_at okX10_joint 11 rfl) (by decide) rfl ?_
      exact r_i hM (dtab_at okX10_joint 12 rfl) (Option.some.inj hf)
  · skip
    rw [if_pos h7] at hf
    refine w_bi (n := 12) hM (-2 : Int32) (dtab_at okX10_joint 5 rfl) (by decide) rfl ?_
    exact r_i hM (dtab_at okX10_joint 6 rfl) (Option.some.inj hf)
def fX10_wipe (S : PS)  : Int32 × PS := ((S.1 0 12), (sti S 0 12 (0 : Int32)))
set_option maxHeartbeats 4000000 in
set_option maxRecDepth 100000 in
theorem c_X10_wipe {cy : ClassId × ClassId} {ad : Nat → Nat} {D : va_G} {l : Launch} (S : PS)   : PMi cy GM ad D l yX10_wipe (wA yX10_wipe cX10_wipe 2 (some .int)) rmX10_wipe [vr 10 0] S (fun x S' => (x, S') = (fX10_wipe S)) := by
  refine PM.of (lv := [(0, vr 10 0)]) GM_ok (by decide) (Nat.le_of_ble_eq_true rfl) rfl (by simp) ?_
  intro p e s m args below meth c A hM
  refine w_aln (q := 0) (n := 1) hM (dtab_at okX10_wipe 0 rfl) rfl rfl ?_
  refine w_geti (C := RX10) (T := TX10) (i := 12) (n := 4) hM rfl (by decide) ly_X10 lkF_X10_161 (dtab_at okX10_wipe 1 rfl) rfl ?_
  refine w_isn (n := 5) (lv' := [(1, vi (S.1 0 12)), (0, vr 10 0)]) hM (dtab_at okX10_wipe 2 rfl) (by decide) rfl rfl ?_
  refine w_aln (q := 1) (n := 6) hM (dtab_at okX10_wipe 3 rfl) rfl rfl ?_
  refine w_ic (n := 7) hM (0 : Int32) (dtab_at okX10_wipe 4 rfl) (by decide) rfl ?_
  refine w_put (C := RX10) (T := TX10) (i := 12) (ty := .int) (n := 10) hM rfl (by decide) ly_X10 tyX10_ok nmX10 lkF_X10_161 rfl (by decide +kernel) rfl rfl (dtab_at okX10_wipe 5 rfl) rfl ?_
  refine w_iln (q := 0) (n := 11) hM (dtab_at okX10_wipe 6 rfl) rfl rfl ?_
  exact r_i hM (dtab_at okX10_wipe 7 rfl) (by rw [fX10_wipe])
def fX10_costs (S : PS) (a1 : Int32) (a2 : Int32) : Int32 × PS := if (fX10_in S a1 (0 : Int32) (1000000 : Int32)) = (0 : Int32) then ((-2 : Int32), S) else (if (fX10_in S a2 (0 : Int32) (1000000 : Int32)) = (0 : Int32) then ((-2 : Int32), S) else ((1 : Int32), (sti (sti S 0 14 a1) 0 15 a2)))
set_option maxHeartbeats 4000000 in
set_option maxRecDepth 100000 in
theorem c_X10_costs {cy : ClassId × ClassId} {ad : Nat → Nat} {D : va_G} {l : Launch} (S : PS) (a1 : Int32) (a2 : Int32)  : PMi cy GM ad D l yX10_costs (wA yX10_costs cX10_costs 3 (some .int)) rmX10_costs [vr 10 0, vi a1, vi a2] S (fun x S' => (x, S') = (fX10_costs S a1 a2)) := by
  refine PM.of (lv := [(0, vr 10 0), (1, vi a1), (2, vi a2)]) GM_ok (by decide) (Nat.le_of_ble_eq_true rfl) rfl (by simp) ?_
  intro p e s m args below meth c A hM
  refine w_iln (q := 1) (n := 1) hM (dtab_at okX10_costs 0 rfl) rfl rfl ?_
  refine w_ic (n := 2) hM (0 : Int32) (dtab_at okX10_costs 1 rfl) (by decide) rfl ?_
  refine w_ldc (n := 4) (v := (1000000 : Int32)) hM (dtab_at okX10_costs 2 rfl) lkC_X10_164 rfl ?_
  refine w_callSi (n := 7) (As := [vi a1, vi (0 : Int32), vi (1000000 : Int32)]) (rest := []) hM (c_X10_in S a1 (0 : Int32) (1000000 : Int32)) lkM_X10_120 ms_X10_in (by decide) rfl (Nat.le_of_ble_eq_true rfl) rfl (dtab_at okX10_costs 3 rfl) rfl (fun x0 S0 hp0 => ?_)
  obtain ⟨hx_, hs_⟩ := hp0
  have hs_ := hs_.symm
  subst hs_
  subst hx_
  refine w_if_eq (n := 20) (n2 := 10) hM (dtab_at okX10_costs 4 rfl) (by decide) rfl (fun (h7 : (fX10_in S a1 (0 : Int32) (1000000 : Int32)) = (0 : Int32)) => ?_) (fun (h7 : ¬ (fX10_in S a1 (0 : Int32) (1000000 : Int32)) = (0 : Int32)) => ?_)
  · skip
    refine w_bi (n := 22) hM (-2 : Int32) (dtab_at okX10_costs 10 rfl) (by decide) rfl ?_
    exact r_i hM (dtab_at okX10_costs 11 rfl) (by rw [fX10_costs, if_pos h7])
  · skip
    refine w_iln (q := 2) (n := 11) hM (dtab_at okX10_costs 5 rfl) rfl rfl ?_
    refine w_ic (n := 12) hM (0 : Int32) (dtab_at okX10_costs 6 rfl) (by decide) rfl ?_
    refine w_ldc (n := 14) (v := (1000000 : Int32)) hM (dtab_at okX10_costs 7 rfl) lkC_X10_164 rfl ?_
    refine w_callSi (n := 17) (As := [vi a2, vi (0 : Int32), vi (1000000 : Int32)]) (rest := []) hM (c_X10_in S a2 (0 : Int32) (1000000 : Int32)) lkM_X10_120 ms_X10_in (by decide) rfl (Nat.le_of_ble_eq_true rfl) rfl (dtab_at okX10_costs 8 rfl) rfl (fun x1 S1 hp1 => ?_)
    obtain ⟨hx_, hs_⟩ := hp1
    have hs_ := hs_.symm
    subst hs_
    subst hx_
    refine w_if_ne (n := 23) (n2 := 20) hM (dtab_at okX10_costs 9 rfl) (by decide) rfl (fun (h17 : ¬ (fX10_in S a2 (0 : Int32) (1000000 : Int32)) = (0 : Int32)) => ?_) (fun (h17 : (fX10_in S a2 (0 : Int32) (1000000 : Int32)) = (0 : Int32)) => ?_)
    · skip
      refine w_aln (q := 0) (n := 24) hM (dtab_at okX10_costs 12 rfl) rfl rfl ?_
      refine w_iln (q := 1) (n := 25) hM (dtab_at okX10_costs 13 rfl) rfl rfl ?_
      refine w_put (C := RX10) (T := TX10) (i := 14) (ty := .int) (n := 28) hM rfl (by decide) ly_X10 tyX10_ok nmX10 lkF_X10_38 rfl (by decide +kernel) rfl rfl (dtab_at okX10_costs 14 rfl) rfl ?_
      refine w_aln (q := 0) (n := 29) hM (dtab_at okX10_costs 15 rfl) rfl rfl ?_
      refine w_iln (q := 2) (n := 30) hM (dtab_at okX10_costs 16 rfl) rfl rfl ?_
      refine w_put (C := RX10) (T := TX10) (i := 15) (ty := .int) (n := 33) hM rfl (by decide) ly_X10 tyX10_ok nmX10 lkF_X10_42 rfl (by decide +kernel) rfl rfl (dtab_at okX10_costs 17 rfl) rfl ?_
      refine w_ic (n := 34) hM (1 : Int32) (dtab_at okX10_costs 18 rfl) (by decide) rfl ?_
      exact r_i hM (dtab_at okX10_costs 19 rfl) (by rw [fX10_costs, if_neg h7, if_neg h17])
    · skip
      refine w_bi (n := 22) hM (-2 : Int32) (dtab_at okX10_costs 10 rfl) (by decide) rfl ?_
      exact r_i hM (dtab_at okX10_costs 11 rfl) (by rw [fX10_costs, if_neg h7, if_pos h17])
def fX10_apart (S : PS) (a1 : Int32) (a2 : Int32) : Int32 := if a1 ≤ a2 then (a2 - a1) else (a1 - a2)
set_option maxHeartbeats 4000000 in
set_option maxRecDepth 100000 in
theorem c_X10_apart {cy : ClassId × ClassId} {ad : Nat → Nat} {D : va_G} {l : Launch} (S : PS) (a1 : Int32) (a2 : Int32)  : PMi cy GM ad D l yX10_apart (wA yX10_apart cX10_apart 2 (some .int)) rmX10_apart [vi a1, vi a2] S (fun x S' => x = (fX10_apart S a1 a2) ∧ S' = S) := by
  refine PM.of (lv := [(0, vi a1), (1, vi a2)]) GM_ok (by decide) (Nat.le_of_ble_eq_true rfl) rfl (by simp) ?_
  intro p e s m args below meth c A hM
  refine w_iln (q := 0) (n := 1) hM (dtab_at okX10_apart 0 rfl) rfl rfl ?_
  refine w_iln (q := 1) (n := 2) hM (dtab_at okX10_apart 1 rfl) rfl rfl ?_
  refine w_ic_le (n := 11) (n2 := 5) hM (dtab_at okX10_apart 2 rfl) (by decide) rfl (fun (h2 : a1 ≤ a2) => ?_) (fun (h2 : ¬ a1 ≤ a2) => ?_)
  · skip
    refine w_iln (q := 1) (n := 12) hM (dtab_at okX10_apart 7 rfl) rfl rfl ?_
    refine w_iln (q := 0) (n := 13) hM (dtab_at okX10_apart 8 rfl) rfl rfl ?_
    refine w_isub (n := 14) hM (dtab_at okX10_apart 9 rfl) rfl ?_
    exact r_i hM (dtab_at okX10_apart 10 rfl) ⟨by rw [fX10_apart, if_pos h2], rfl⟩
  · skip
    refine w_iln (q := 0) (n := 6) hM (dtab_at okX10_apart 3 rfl) rfl rfl ?_
    refine w_iln (q := 1) (n := 7) hM (dtab_at okX10_apart 4 rfl) rfl rfl ?_
    refine w_isub (n := 8) hM (dtab_at okX10_apart 5 rfl) rfl ?_
    refine w_goto (n := 14) hM (dtab_at okX10_apart 6 rfl) (by decide) ?_
    exact r_i hM (dtab_at okX10_apart 10 rfl) ⟨by rw [fX10_apart, if_neg h2], rfl⟩
def fX10_pairCost (nF : Nat) (S : PS) (a1 : Int32) (a2 : Int32) : Option (Int32) := (if ((((61 : Int32) * (a1 - (1 : Int32))) + a2) - (1 : Int32)) < 0 ∨ 2501 ≤ ((((61 : Int32) * (a1 - (1 : Int32))) + a2) - (1 : Int32)).toNatClampNeg then none else (if (a1 - (1 : Int32)) < 0 ∨ 40 ≤ (a1 - (1 : Int32)).toNatClampNeg then none else (if (a2 - (1 : Int32)) < 0 ∨ 60 ≤ (a2 - (1 : Int32)).toNatClampNeg then none else (some ((S.2 10 ((((61 : Int32) * (a1 - (1 : Int32))) + a2) - (1 : Int32)).toNatClampNeg) + (fX10_apart S (S.2 9 (a1 - (1 : Int32)).toNatClampNeg) (S.2 8 (a2 - (1 : Int32)).toNatClampNeg)))))))
set_option maxHeartbeats 4000000 in
set_option maxRecDepth 100000 in
theorem c_X10_pairCost {cy : ClassId × ClassId} {ad : Nat → Nat} {D : va_G} {l : Launch} (nF : Nat) (S : PS) (a1 : Int32) (a2 : Int32) (r : Int32) (hf : fX10_pairCost nF S a1 a2 = some r) : PMi cy GM ad D l yX10_pairCost (wA yX10_pairCost cX10_pairCost 3 (some .int)) rmX10_pairCost [vr 10 0, vi a1, vi a2] S (fun x S' => x = r ∧ S' = S) := by
  refine PM.of (lv := [(0, vr 10 0), (1, vi a1), (2, vi a2)]) GM_ok (by decide) (Nat.le_of_ble_eq_true rfl) rfl (by simp) ?_
  intro p e s m args below meth c A hM
  rw [fX10_pairCost] at hf
  obtain ⟨S0, hS⟩ : ∃ S0 : PS, S = S0 := ⟨S, rfl⟩
  rw [show (fun (x : Int32) (S' : PS) => x = r ∧ S' = S) = (fun x S' => x = r ∧ S' = S0) by rw [hS]]
  refine w_aln (q := 0) (n := 1) hM (dtab_at okX10_pairCost 0 rfl) rfl rfl ?_
  refine w_getr (C := RX10) (T := TX10) (i := 16) (k2 := 2601) (q := 10) (n := 4) hM rfl (by decide) (fun _ => rfl) ly_X10 lkF_X10_45 (dtab_at okX10_pairCost 1 rfl) rfl ?_
  refine w_bi (n := 6) hM (61 : Int32) (dtab_at okX10_pairCost 2 rfl) (by decide) rfl ?_
  refine w_iln (q := 1) (n := 7) hM (dtab_at okX10_pairCost 3 rfl) rfl rfl ?_
  refine w_ic (n := 8) hM (1 : Int32) (dtab_at okX10_pairCost 4 rfl) (by decide) rfl ?_
  refine w_isub (n := 9) hM (dtab_at okX10_pairCost 5 rfl) rfl ?_
  refine w_imul (n := 10) hM (dtab_at okX10_pairCost 6 rfl) rfl ?_
  refine w_iln (q := 2) (n := 11) hM (dtab_at okX10_pairCost 7 rfl) rfl rfl ?_
  refine w_iadd (n := 12) hM (dtab_at okX10_pairCost 8 rfl) rfl ?_
  refine w_ic (n := 13) hM (1 : Int32) (dtab_at okX10_pairCost 9 rfl) (by decide) rfl ?_
  refine w_isub (n := 14) hM (dtab_at okX10_pairCost 10 rfl) rfl ?_
  by_cases hg14 : ((((61 : Int32) * (a1 - (1 : Int32))) + a2) - (1 : Int32)) < 0 ∨ 2501 ≤ ((((61 : Int32) * (a1 - (1 : Int32))) + a2) - (1 : Int32)).toNatClampNeg
  · rw [if_pos hg14] at hf; cases hf
  rw [if_neg hg14] at hf
  refine w_ald (nn := 2501) (n := 15) hM rfl hg14 (dtab_at okX10_pairCost 11 rfl) rfl ?_
  refine w_aln (q := 0) (n := 16) hM (dtab_at okX10_pairCost 12 rfl) rfl rfl ?_
  refine w_getr (C := RX10) (T := TX10) (i := 13) (k2 := 140) (q := 9) (n := 19) hM rfl (by decide) (fun _ => rfl) ly_X10 lkF_X10_35 (dtab_at okX10_pairCost 13 rfl) rfl ?_
  refine w_iln (q := 1) (n := 20) hM (dtab_at okX10_pairCost 14 rfl) rfl rfl ?_
  refine w_ic (n := 21) hM (1 : Int32) (dtab_at okX10_pairCost 15 rfl) (by decide) rfl ?_
  refine w_isub (n := 22) hM (dtab_at okX10_pairCost 16 rfl) rfl ?_
  by_cases hg22 : (a1 - (1 : Int32)) < 0 ∨ 40 ≤ (a1 - (1 : Int32)).toNatClampNeg
  · rw [if_pos hg22] at hf; cases hf
  rw [if_neg hg22] at hf
  refine w_ald (nn := 40) (n := 23) hM rfl hg22 (dtab_at okX10_pairCost 17 rfl) rfl ?_
  refine w_aln (q := 0) (n := 24) hM (dtab_at okX10_pairCost 18 rfl) rfl rfl ?_
  refine w_getr (C := RX10) (T := TX10) (i := 11) (k2 := 160) (q := 8) (n := 27) hM rfl (by decide) (fun _ => rfl) ly_X10 lkF_X10_32 (dtab_at okX10_pairCost 19 rfl) rfl ?_
  refine w_iln (q := 2) (n := 28) hM (dtab_at okX10_pairCost 20 rfl) rfl rfl ?_
  refine w_ic (n := 29) hM (1 : Int32) (dtab_at okX10_pairCost 21 rfl) (by decide) rfl ?_
  refine w_isub (n := 30) hM (dtab_at okX10_pairCost 22 rfl) rfl ?_
  by_cases hg30 : (a2 - (1 : Int32)) < 0 ∨ 60 ≤ (a2 - (1 : Int32)).toNatClampNeg
  · rw [if_pos hg30] at hf; cases hf
  rw [if_neg hg30] at hf
  refine w_ald (nn := 60) (n := 31) hM rfl hg30 (dtab_at okX10_pairCost 23 rfl) rfl ?_
  refine w_callSi (n := 34) (As := [vi (S.2 9 (a1 - (1 : Int32)).toNatClampNeg), vi (S.2 8 (a2 - (1 : Int32)).toNatClampNeg)]) (rest := [vi (S.2 10 ((((61 : Int32) * (a1 - (1 : Int32))) + a2) - (1 : Int32)).toNatClampNeg)]) hM (c_X10_apart S (S.2 9 (a1 - (1 : Int32)).toNatClampNeg) (S.2 8 (a2 - (1 : Int32)).toNatClampNeg)) lkM_X10_165 ms_X10_apart (by decide) rfl (Nat.le_of_ble_eq_true rfl) rfl (dtab_at okX10_pairCost 24 rfl) rfl (fun x0 S0 hp0 => ?_)
  obtain ⟨hx_, hs_⟩ := hp0
  have hs_ := hs_.symm
  subst hs_
  subst hx_
  refine w_iadd (n := 35) hM (dtab_at okX10_pairCost 25 rfl) rfl ?_
  exact r_i hM (dtab_at okX10_pairCost 26 rfl) ⟨Option.some.inj hf, hS⟩
def BX10_matches_277 (nF : Nat) (k221 : PS → Int32 → Int32 → Option (PS)) (S : PS) (v2 : Int32) (v3 : Int32) (v4 : Int32) : Option (PS) := (if v2 ≤ (0 : Int32) then (k221 S v2 (v3 + (-1 : Int32))) else (if (((61 : Int32) * (v2 - (1 : Int32))) + v3) < 0 ∨ 2501 ≤ (((61 : Int32) * (v2 - (1 : Int32))) + v3).toNatClampNeg then none else (if ((S.2 10 (((61 : Int32) * (v2 - (1 : Int32))) + v3).toNatClampNeg) + (S.1 0 14)) = v4 then (k221 S (v2 + (-1 : Int32)) v3) else (k221 S v2 (v3 + (-1 : Int32))))))
set_option maxHeartbeats 4000000 in
set_option maxRecDepth 100000 in
theorem wBX10_matches_277 {cy : ClassId × ClassId} {ad : Nat → Nat} {D : va_G} {p : Program} {l : Launch} {e : Env} {s : State} {m : MethodId} {args : Array Value} {below : List Frame} {meth : Method} {c : Code} {A : Nat → Prop} (hM : MX cy GM ad D p s m args meth c cX10_matches 5 RX10 none A) (nF : Nat) (r : PS) (k221 : PS → Int32 → Int32 → Option (PS)) (hk221 : ∀ (S : PS) (v2 : Int32) (v3 : Int32), k221 S v2 v3 = some r → WW cy GM ad D p l e rmX10_matches s m args below meth c 5 A (pov (fun S' => S' = r)) 221 [(0, vr 10 0), (2, vi v2), (3, vi v3)] [] S) (S : PS) (v2 : Int32) (v3 : Int32) (v4 : Int32) (hf : BX10_matches_277 nF k221 S v2 v3 v4 = some r) : WW cy GM ad D p l e rmX10_matches s m args below meth c 5 A (pov (fun S' => S' = r)) 277 [(0, vr 10 0), (2, vi v2), (3, vi v3), (4, vi v4)] [] S := by
  rw [BX10_matches_277] at hf
  refine w_iln (q := 1) (n := 278) hM (dtab_at okX10_matches 162 rfl) rfl rfl ?_
  refine w_if_le (n := 310) (n2 := 281) hM (dtab_at okX10_matches 163 rfl) (by decide) rfl (fun (h278 : v2 ≤ (0 : Int32)) => ?_) (fun (h278 : ¬ v2 ≤ (0 : Int32)) => ?_)
  · skip
    rw [if_pos h278] at hf
    refine w_iinc (q := 2) (n := 313) (v := (v3 + (-1 : Int32))) (lv' := [(3, vi (v3 + (-1 : Int32))), (0, vr 10 0), (2, vi v2), (4, vi v4)]) hM (dtab_at okX10_matches 181 rfl) rfl rfl (by decide) rfl rfl ?_
    refine w_goto (n := 221) hM (dtab_at okX10_matches 182 rfl) (by decide) ?_
    refine WW.lvs [1, 2, 0] (lv2 := [(0, vr 10 0), (2, vi v2), (3, vi (v3 + (-1 : Int32)))]) rfl ?_
    exact hk221 S v2 (v3 + (-1 : Int32)) hf
  · skip
    rw [if_neg h278] at hf
    refine w_aln (q := 0) (n := 282) hM (dtab_at okX10_matches 164 rfl) rfl rfl ?_
    refine w_getr (C := RX10) (T := TX10) (i := 16) (k2 := 2601) (q := 10) (n := 285) hM rfl (by decide) (fun _ => rfl) ly_X10 lkF_X10_45 (dtab_at okX10_matches 165 rfl) rfl ?_
    refine w_bi (n := 287) hM (61 : Int32) (dtab_at okX10_matches 166 rfl) (by decide) rfl ?_
    refine w_iln (q := 1) (n := 288) hM (dtab_at okX10_matches 167 rfl) rfl rfl ?_
    refine w_ic (n := 289) hM (1 : Int32) (dtab_at okX10_matches 168 rfl) (by decide) rfl ?_
    refine w_isub (n := 290) hM (dtab_at okX10_matches 169 rfl) rfl ?_
    refine w_imul (n := 291) hM (dtab_at okX10_matches 170 rfl) rfl ?_
    refine w_iln (q := 2) (n := 292) hM (dtab_at okX10_matches 171 rfl) rfl rfl ?_
    refine w_iadd (n := 293) hM (dtab_at okX10_matches 172 rfl) rfl ?_
    by_cases hg293 : (((61 : Int32) * (v2 - (1 : Int32))) + v3) < 0 ∨ 2501 ≤ (((61 : Int32) * (v2 - (1 : Int32))) + v3).toNatClampNeg
    · rw [if_pos hg293] at hf; cases hf
    rw [if_neg hg293] at hf
    refine w_ald (nn := 2501) (n := 294) hM rfl hg293 (dtab_at okX10_matches 173 rfl) rfl ?_
    refine w_aln (q := 0) (n := 295) hM (dtab_at okX10_matches 174 rfl) rfl rfl ?_
    refine w_geti (C := RX10) (T := TX10) (i := 14) (n := 298) hM rfl (by decide) ly_X10 lkF_X10_38 (dtab_at okX10_matches 175 rfl) rfl ?_
    refine w_iadd (n := 299) hM (dtab_at okX10_matches 176 rfl) rfl ?_
    refine w_il (q := 3) (n := 301) hM (dtab_at okX10_matches 177 rfl) rfl rfl ?_
    refine w_ic_ne (n := 310) (n2 := 304) hM (dtab_at okX10_matches 178 rfl) (by decide) rfl (fun (h301 : ¬ ((S.2 10 (((61 : Int32) * (v2 - (1 : Int32))) + v3).toNatClampNeg) + (S.1 0 14)) = v4) => ?_) (fun (h301 : ((S.2 10 (((61 : Int32) * (v2 - (1 : Int32))) + v3).toNatClampNeg) + (S.1 0 14)) = v4) => ?_)
    · skip
      rw [if_neg h301] at hf
      refine w_iinc (q := 2) (n := 313) (v := (v3 + (-1 : Int32))) (lv' := [(3, vi (v3 + (-1 : Int32))), (0, vr 10 0), (2, vi v2), (4, vi v4)]) hM (dtab_at okX10_matches 181 rfl) rfl rfl (by decide) rfl rfl ?_
      refine w_goto (n := 221) hM (dtab_at okX10_matches 182 rfl) (by decide) ?_
      refine WW.lvs [1, 2, 0] (lv2 := [(0, vr 10 0), (2, vi v2), (3, vi (v3 + (-1 : Int32)))]) rfl ?_
      exact hk221 S v2 (v3 + (-1 : Int32)) hf
    · skip
      rw [if_pos h301] at hf
      refine w_iinc (q := 1) (n := 307) (v := (v2 + (-1 : Int32))) (lv' := [(2, vi (v2 + (-1 : Int32))), (0, vr 10 0), (3, vi v3), (4, vi v4)]) hM (dtab_at okX10_matches 179 rfl) rfl rfl (by decide) rfl rfl ?_
      refine w_goto (n := 313) hM (dtab_at okX10_matches 180 rfl) (by decide) ?_
      refine w_goto (n := 221) hM (dtab_at okX10_matches 182 rfl) (by decide) ?_
      refine WW.lvs [1, 0, 2] (lv2 := [(0, vr 10 0), (2, vi (v2 + (-1 : Int32))), (3, vi v3)]) rfl ?_
      exact hk221 S (v2 + (-1 : Int32)) v3 hf
def BX10_matches_229 (nF : Nat) (k221 : PS → Int32 → Int32 → Option (PS)) (S : PS) (v2 : Int32) (v3 : Int32) : Option (PS) := (if (((61 : Int32) * v2) + v3) < 0 ∨ 2501 ≤ (((61 : Int32) * v2) + v3).toNatClampNeg then none else (if v2 ≤ (0 : Int32) then (BX10_matches_277 nF k221 S v2 v3 (S.2 10 (((61 : Int32) * v2) + v3).toNatClampNeg)) else (if v3 ≤ (0 : Int32) then (BX10_matches_277 nF k221 S v2 v3 (S.2 10 (((61 : Int32) * v2) + v3).toNatClampNeg)) else ((fX10_pairCost nF S v2 v3).bind fun r0 => (if r0 = (S.2 10 (((61 : Int32) * v2) + v3).toNatClampNeg) then (if (v2 + (-1 : Int32)) < 0 ∨ 40 ≤ (v2 + (-1 : Int32)).toNatClampNeg then none else (k221 (sta S 11 (v2 + (-1 : Int32)).toNatClampNeg (v3 + (-1 : Int32))) (v2 + (-1 : Int32)) (v3 + (-1 : Int32)))) else (BX10_matches_277 nF k221 S v2 v3 (S.2 10 (((61 : Int32) * v2) + v3).toNatClampNeg)))))))
set_option maxHeartbeats 4000000 in
set_option maxRecDepth 100000 in
theorem wBX10_matches_229 {cy : ClassId × ClassId} {ad : Nat → Nat} {D : va_G} {p : Program} {l : Launch} {e : Env} {s : State} {m : MethodId} {args : Array Value} {below : List Frame} {meth : Method} {c : Code} {A : Nat → Prop} (hM : MX cy GM ad D p s m args meth c cX10_matches 5 RX10 none A) (nF : Nat) (r : PS) (k221 : PS → Int32 → Int32 → Option (PS)) (hk221 : ∀ (S : PS) (v2 : Int32) (v3 : Int32), k221 S v2 v3 = some r → WW cy GM ad D p l e rmX10_matches s m args below meth c 5 A (pov (fun S' => S' = r)) 221 [(0, vr 10 0), (2, vi v2), (3, vi v3)] [] S) (S : PS) (v2 : Int32) (v3 : Int32) (hf : BX10_matches_229 nF k221 S v2 v3 = some r) : WW cy GM ad D p l e rmX10_matches s m args below meth c 5 A (pov (fun S' => S' = r)) 229 [(0, vr 10 0), (2, vi v2), (3, vi v3)] [] S := by
  rw [BX10_matches_229] at hf
  refine w_aln (q := 0) (n := 230) hM (dtab_at okX10_matches 135 rfl) rfl rfl ?_
  refine w_getr (C := RX10) (T := TX10) (i := 16) (k2 := 2601) (q := 10) (n := 233) hM rfl (by decide) (fun _ => rfl) ly_X10 lkF_X10_45 (dtab_at okX10_matches 136 rfl) rfl ?_
  refine w_bi (n := 235) hM (61 : Int32) (dtab_at okX10_matches 137 rfl) (by decide) rfl ?_
  refine w_iln (q := 1) (n := 236) hM (dtab_at okX10_matches 138 rfl) rfl rfl ?_
  refine w_imul (n := 237) hM (dtab_at okX10_matches 139 rfl) rfl ?_
  refine w_iln (q := 2) (n := 238) hM (dtab_at okX10_matches 140 rfl) rfl rfl ?_
  refine w_iadd (n := 239) hM (dtab_at okX10_matches 141 rfl) rfl ?_
  by_cases hg239 : (((61 : Int32) * v2) + v3) < 0 ∨ 2501 ≤ (((61 : Int32) * v2) + v3).toNatClampNeg
  · rw [if_pos hg239] at hf; cases hf
  rw [if_neg hg239] at hf
  refine w_ald (nn := 2501) (n := 240) hM rfl hg239 (dtab_at okX10_matches 142 rfl) rfl ?_
  refine w_is (n := 242) (lv' := [(4, vi (S.2 10 (((61 : Int32) * v2) + v3).toNatClampNeg)), (0, vr 10 0), (2, vi v2), (3, vi v3)]) hM (dtab_at okX10_matches 143 rfl) (by decide) rfl rfl ?_
  refine w_iln (q := 2) (n := 243) hM (dtab_at okX10_matches 144 rfl) rfl rfl ?_
  refine w_if_le (n := 277) (n2 := 246) hM (dtab_at okX10_matches 145 rfl) (by decide) rfl (fun (h243 : v2 ≤ (0 : Int32)) => ?_) (fun (h243 : ¬ v2 ≤ (0 : Int32)) => ?_)
  · skip
    rw [if_pos h243] at hf
    refine WW.lvs [1, 2, 3, 0] (lv2 := [(0, vr 10 0), (2, vi v2), (3, vi v3), (4, vi (S.2 10 (((61 : Int32) * v2) + v3).toNatClampNeg))]) rfl ?_
    exact wBX10_matches_277 hM nF r k221 hk221 S v2 v3 (S.2 10 (((61 : Int32) * v2) + v3).toNatClampNeg) hf
  · skip
    rw [if_neg h243] at hf
    refine w_iln (q := 3) (n := 247) hM (dtab_at okX10_matches 146 rfl) rfl rfl ?_
    refine w_if_le (n := 277) (n2 := 250) hM (dtab_at okX10_matches 147 rfl) (by decide) rfl (fun (h247 : v3 ≤ (0 : Int32)) => ?_) (fun (h247 : ¬ v3 ≤ (0 : Int32)) => ?_)
    · skip
      rw [if_pos h247] at hf
      refine WW.lvs [1, 2, 3, 0] (lv2 := [(0, vr 10 0), (2, vi v2), (3, vi v3), (4, vi (S.2 10 (((61 : Int32) * v2) + v3).toNatClampNeg))]) rfl ?_
      exact wBX10_matches_277 hM nF r k221 hk221 S v2 v3 (S.2 10 (((61 : Int32) * v2) + v3).toNatClampNeg) hf
    · skip
      rw [if_neg h247] at hf
      refine w_aln (q := 1) (n := 251) hM (dtab_at okX10_matches 148 rfl) rfl rfl ?_
      refine w_iln (q := 2) (n := 252) hM (dtab_at okX10_matches 149 rfl) rfl rfl ?_
      refine w_iln (q := 3) (n := 253) hM (dtab_at okX10_matches 150 rfl) rfl rfl ?_
      obtain ⟨r0, hr0, hf⟩ := Option.bind_eq_some_iff.mp hf
      refine w_callVi (n := 256) (As := [vi v2, vi v3]) (rest := []) (k := 10) (j := 0) (C := RX10) (T := TX10) (N := 43) hM (c_X10_pairCost nF S v2 v3 r0 hr0) lkM_X10_169 mv_X10_pairCost (by decide) rfl (by decide) rfl (Nat.le_of_ble_eq_true rfl) rfl (dtab_at okX10_matches 151 rfl) rfl (fun x0 S0 hp0 => ?_)
      obtain ⟨hx_, hs_⟩ := hp0
      have hs_ := hs_.symm
      have hx_ := hx_.symm
      subst hs_
      subst hx_
      refine w_il (q := 0) (n := 258) hM (dtab_at okX10_matches 152 rfl) rfl rfl ?_
      refine w_ic_ne (n := 277) (n2 := 261) hM (dtab_at okX10_matches 153 rfl) (by decide) rfl (fun (h258 : ¬ r0 = (S.2 10 (((61 : Int32) * v2) + v3).toNatClampNeg)) => ?_) (fun (h258 : r0 = (S.2 10 (((61 : Int32) * v2) + v3).toNatClampNeg)) => ?_)
      · skip
        rw [if_neg h258] at hf
        refine WW.lvs [1, 2, 3, 0] (lv2 := [(0, vr 10 0), (2, vi v2), (3, vi v3), (4, vi (S.2 10 (((61 : Int32) * v2) + v3).toNatClampNeg))]) rfl ?_
        exact wBX10_matches_277 hM nF r k221 hk221 S v2 v3 (S.2 10 (((61 : Int32) * v2) + v3).toNatClampNeg) hf
      · skip
        rw [if_pos h258] at hf
        refine w_iinc (q := 2) (n := 264) (v := (v2 + (-1 : Int32))) (lv' := [(2, vi (v2 + (-1 : Int32))), (4, vi (S.2 10 (((61 : Int32) * v2) + v3).toNatClampNeg)), (0, vr 10 0), (3, vi v3)]) hM (dtab_at okX10_matches 154 rfl) rfl rfl (by decide) rfl rfl ?_
        refine w_iinc (q := 3) (n := 267) (v := (v3 + (-1 : Int32))) (lv' := [(3, vi (v3 + (-1 : Int32))), (2, vi (v2 + (-1 : Int32))), (4, vi (S.2 10 (((61 : Int32) * v2) + v3).toNatClampNeg)), (0, vr 10 0)]) hM (dtab_at okX10_matches 155 rfl) rfl rfl (by decide) rfl rfl ?_
        refine w_aln (q := 3) (n := 268) hM (dtab_at okX10_matches 156 rfl) rfl rfl ?_
        refine w_getr (C := RX10) (T := TX10) (i := 17) (k2 := 140) (q := 11) (n := 271) hM rfl (by decide) (fun _ => rfl) ly_X10 lkF_X10_48 (dtab_at okX10_matches 157 rfl) rfl ?_
        refine w_iln (q := 1) (n := 272) hM (dtab_at okX10_matches 158 rfl) rfl rfl ?_
        refine w_iln (q := 0) (n := 273) hM (dtab_at okX10_matches 159 rfl) rfl rfl ?_
        by_cases hg273 : (v2 + (-1 : Int32)) < 0 ∨ 40 ≤ (v2 + (-1 : Int32)).toNatClampNeg
        · rw [if_pos hg273] at hf; cases hf
        rw [if_neg hg273] at hf
        refine w_ast (nn := 40) (n := 274) hM rfl hg273 (dtab_at okX10_matches 160 rfl) rfl ?_
        refine w_goto (n := 313) hM (dtab_at okX10_matches 161 rfl) (by decide) ?_
        refine w_goto (n := 221) hM (dtab_at okX10_matches 182 rfl) (by decide) ?_
        refine WW.lvs [3, 1, 0] (lv2 := [(0, vr 10 0), (2, vi (v2 + (-1 : Int32))), (3, vi (v3 + (-1 : Int32)))]) rfl ?_
        exact hk221 (sta S 11 (v2 + (-1 : Int32)).toNatClampNeg (v3 + (-1 : Int32))) (v2 + (-1 : Int32)) (v3 + (-1 : Int32)) hf
def LX10_matches_221 (nF : Nat) : Nat → PS → Int32 → Int32 → Option (PS)
  | 0, _, _, _ => none
  | n + 1, S, v2, v3 => (if (0 : Int32) < v2 then (BX10_matches_229 nF (LX10_matches_221 nF n) S v2 v3) else (if v3 ≤ (0 : Int32) then (some S) else (BX10_matches_229 nF (LX10_matches_221 nF n) S v2 v3)))
set_option maxHeartbeats 4000000 in
set_option maxRecDepth 100000 in
theorem wLX10_matches_221 {cy : ClassId × ClassId} {ad : Nat → Nat} {D : va_G} {p : Program} {l : Launch} {e : Env} {s : State} {m : MethodId} {args : Array Value} {below : List Frame} {meth : Method} {c : Code} {A : Nat → Prop} (hM : MX cy GM ad D p s m args meth c cX10_matches 5 RX10 none A) (nF : Nat) (r : PS) : ∀ (n : Nat) (S : PS) (v2 : Int32) (v3 : Int32), LX10_matches_221 nF n S v2 v3 = some r → WW cy GM ad D p l e rmX10_matches s m args below meth c 5 A (pov (fun S' => S' = r)) 221 [(0, vr 10 0), (2, vi v2), (3, vi v3)] [] S := by
  intro n
  induction n with
  | zero => intro S v2 v3 hf; rw [LX10_matches_221] at hf; cases hf
  | succ n ih =>
    intro S v2 v3 hf
    rw [LX10_matches_221] at hf
    refine w_iln (q := 1) (n := 222) hM (dtab_at okX10_matches 131 rfl) rfl rfl ?_
    refine w_if_gt (n := 229) (n2 := 225) hM (dtab_at okX10_matches 132 rfl) (by decide) rfl (fun (h222 : (0 : Int32) < v2) => ?_) (fun (h222 : ¬ (0 : Int32) < v2) => ?_)
    · skip
      rw [if_pos h222] at hf
      exact wBX10_matches_229 hM nF r (LX10_matches_221 nF n) ih S v2 v3 hf
    · skip
      rw [if_neg h222] at hf
      refine w_iln (q := 2) (n := 226) hM (dtab_at okX10_matches 133 rfl) rfl rfl ?_
      refine w_if_le (n := 316) (n2 := 229) hM (dtab_at okX10_matches 134 rfl) (by decide) rfl (fun (h226 : v3 ≤ (0 : Int32)) => ?_) (fun (h226 : ¬ v3 ≤ (0 : Int32)) => ?_)
      · skip
        rw [if_pos h226] at hf
        exact r_v hM (dtab_at okX10_matches 183 rfl) (Option.some.inj hf)
      · skip
        rw [if_neg h226] at hf
        exact wBX10_matches_229 hM nF r (LX10_matches_221 nF n) ih S v2 v3 hf
def LX10_matches_200 (nF : Nat) : Nat → PS → Int32 → Int32 → Int32 → Option (PS)
  | 0, _, _, _, _ => none
  | n + 1, S, v2, v3, v4 => (if (40 : Int32) ≤ v4 then (LX10_matches_221 nF nF S v2 v3) else (if v4 < 0 ∨ 40 ≤ v4.toNatClampNeg then none else (LX10_matches_200 nF n (sta S 11 v4.toNatClampNeg (-1 : Int32)) v2 v3 (v4 + (1 : Int32)))))
set_option maxHeartbeats 4000000 in
set_option maxRecDepth 100000 in
theorem wLX10_matches_200 {cy : ClassId × ClassId} {ad : Nat → Nat} {D : va_G} {p : Program} {l : Launch} {e : Env} {s : State} {m : MethodId} {args : Array Value} {below : List Frame} {meth : Method} {c : Code} {A : Nat → Prop} (hM : MX cy GM ad D p s m args meth c cX10_matches 5 RX10 none A) (nF : Nat) (r : PS) : ∀ (n : Nat) (S : PS) (v2 : Int32) (v3 : Int32) (v4 : Int32), LX10_matches_200 nF n S v2 v3 v4 = some r → WW cy GM ad D p l e rmX10_matches s m args below meth c 5 A (pov (fun S' => S' = r)) 200 [(0, vr 10 0), (2, vi v2), (3, vi v3), (4, vi v4)] [] S := by
  intro n
  induction n with
  | zero => intro S v2 v3 v4 hf; rw [LX10_matches_200] at hf; cases hf
  | succ n ih =>
    intro S v2 v3 v4 hf
    rw [LX10_matches_200] at hf
    refine w_il (q := 3) (n := 202) hM (dtab_at okX10_matches 121 rfl) rfl rfl ?_
    refine w_bi (n := 204) hM (40 : Int32) (dtab_at okX10_matches 122 rfl) (by decide) rfl ?_
    refine w_ic_ge (n := 221) (n2 := 207) hM (dtab_at okX10_matches 123 rfl) (by decide) rfl (fun (h204 : (40 : Int32) ≤ v4) => ?_) (fun (h204 : ¬ (40 : Int32) ≤ v4) => ?_)
    · skip
      rw [if_pos h204] at hf
      refine WW.lvs [0, 1, 2] (lv2 := [(0, vr 10 0), (2, vi v2), (3, vi v3)]) rfl ?_
      exact wLX10_matches_221 hM nF r nF S v2 v3 hf
    · skip
      rw [if_neg h204] at hf
      refine w_aln (q := 0) (n := 208) hM (dtab_at okX10_matches 124 rfl) rfl rfl ?_
      refine w_getr (C := RX10) (T := TX10) (i := 17) (k2 := 140) (q := 11) (n := 211) hM rfl (by decide) (fun _ => rfl) ly_X10 lkF_X10_48 (dtab_at okX10_matches 125 rfl) rfl ?_
      refine w_il (q := 3) (n := 213) hM (dtab_at okX10_matches 126 rfl) rfl rfl ?_
      refine w_ic (n := 214) hM (-1 : Int32) (dtab_at okX10_matches 127 rfl) (by decide) rfl ?_
      by_cases hg214 : v4 < 0 ∨ 40 ≤ v4.toNatClampNeg
      · rw [if_pos hg214] at hf; cases hf
      rw [if_neg hg214] at hf
      refine w_ast (nn := 40) (n := 215) hM rfl hg214 (dtab_at okX10_matches 128 rfl) rfl ?_
      refine w_iinc (q := 3) (n := 218) (v := (v4 + (1 : Int32))) (lv' := [(4, vi (v4 + (1 : Int32))), (0, vr 10 0), (2, vi v2), (3, vi v3)]) hM (dtab_at okX10_matches 129 rfl) rfl rfl (by decide) rfl rfl ?_
      refine w_goto (n := 200) hM (dtab_at okX10_matches 130 rfl) (by decide) ?_
      refine WW.lvs [1, 2, 3, 0] (lv2 := [(0, vr 10 0), (2, vi v2), (3, vi v3), (4, vi (v4 + (1 : Int32)))]) rfl ?_
      exact ih (sta S 11 v4.toNatClampNeg (-1 : Int32)) v2 v3 (v4 + (1 : Int32)) hf
def BX10_matches_187 (nF : Nat) (S : PS) : Option (PS) := (LX10_matches_200 nF nF S (S.1 0 12) (S.1 0 9) (0 : Int32))
set_option maxHeartbeats 4000000 in
set_option maxRecDepth 100000 in
theorem wBX10_matches_187 {cy : ClassId × ClassId} {ad : Nat → Nat} {D : va_G} {p : Program} {l : Launch} {e : Env} {s : State} {m : MethodId} {args : Array Value} {below : List Frame} {meth : Method} {c : Code} {A : Nat → Prop} (hM : MX cy GM ad D p s m args meth c cX10_matches 5 RX10 none A) (nF : Nat) (r : PS) (S : PS) (hf : BX10_matches_187 nF S = some r) : WW cy GM ad D p l e rmX10_matches s m args below meth c 5 A (pov (fun S' => S' = r)) 187 [(0, vr 10 0)] [] S := by
  rw [BX10_matches_187] at hf
  refine w_aln (q := 0) (n := 188) hM (dtab_at okX10_matches 113 rfl) rfl rfl ?_
  refine w_geti (C := RX10) (T := TX10) (i := 12) (n := 191) hM rfl (by decide) ly_X10 lkF_X10_161 (dtab_at okX10_matches 114 rfl) rfl ?_
  refine w_isn (n := 192) (lv' := [(2, vi (S.1 0 12)), (0, vr 10 0)]) hM (dtab_at okX10_matches 115 rfl) (by decide) rfl rfl ?_
  refine w_aln (q := 1) (n := 193) hM (dtab_at okX10_matches 116 rfl) rfl rfl ?_
  refine w_geti (C := RX10) (T := TX10) (i := 9) (n := 196) hM rfl (by decide) ly_X10 lkF_X10_143 (dtab_at okX10_matches 117 rfl) rfl ?_
  refine w_isn (n := 197) (lv' := [(3, vi (S.1 0 9)), (2, vi (S.1 0 12)), (0, vr 10 0)]) hM (dtab_at okX10_matches 118 rfl) (by decide) rfl rfl ?_
  refine w_ic (n := 198) hM (0 : Int32) (dtab_at okX10_matches 119 rfl) (by decide) rfl ?_
  refine w_is (n := 200) (lv' := [(4, vi (0 : Int32)), (3, vi (S.1 0 9)), (2, vi (S.1 0 12)), (0, vr 10 0)]) hM (dtab_at okX10_matches 120 rfl) (by decide) rfl rfl ?_
  refine WW.lvs [3, 2, 1, 0] (lv2 := [(0, vr 10 0), (2, vi (S.1 0 12)), (3, vi (S.1 0 9)), (4, vi (0 : Int32))]) rfl ?_
  exact wLX10_matches_200 hM nF r nF S (S.1 0 12) (S.1 0 9) (0 : Int32) hf
def BX10_matches_181 (nF : Nat) (k7 : PS → Int32 → Option (PS)) (S : PS) (v2 : Int32) : Option (PS) := (k7 S (v2 + (1 : Int32)))
set_option maxHeartbeats 4000000 in
set_option maxRecDepth 100000 in
theorem wBX10_matches_181 {cy : ClassId × ClassId} {ad : Nat → Nat} {D : va_G} {p : Program} {l : Launch} {e : Env} {s : State} {m : MethodId} {args : Array Value} {below : List Frame} {meth : Method} {c : Code} {A : Nat → Prop} (hM : MX cy GM ad D p s m args meth c cX10_matches 5 RX10 none A) (nF : Nat) (r : PS) (k7 : PS → Int32 → Option (PS)) (hk7 : ∀ (S : PS) (v2 : Int32), k7 S v2 = some r → WW cy GM ad D p l e rmX10_matches s m args below meth c 5 A (pov (fun S' => S' = r)) 7 [(0, vr 10 0), (2, vi v2)] [] S) (S : PS) (v2 : Int32) (hf : BX10_matches_181 nF k7 S v2 = some r) : WW cy GM ad D p l e rmX10_matches s m args below meth c 5 A (pov (fun S' => S' = r)) 181 [(0, vr 10 0), (2, vi v2)] [] S := by
  rw [BX10_matches_181] at hf
  refine w_iinc (q := 1) (n := 184) (v := (v2 + (1 : Int32))) (lv' := [(2, vi (v2 + (1 : Int32))), (0, vr 10 0)]) hM (dtab_at okX10_matches 111 rfl) rfl rfl (by decide) rfl rfl ?_
  refine w_goto (n := 7) hM (dtab_at okX10_matches 112 rfl) (by decide) ?_
  refine WW.lvs [1, 0] (lv2 := [(0, vr 10 0), (2, vi (v2 + (1 : Int32)))]) rfl ?_
  exact hk7 S (v2 + (1 : Int32)) hf
def BX10_matches_115 (nF : Nat) (k7 : PS → Int32 → Option (PS)) (k17 : PS → Int32 → Int32 → Option (PS)) (S : PS) (v2 : Int32) (v3 : Int32) (v4 : Int32) : Option (PS) := (if v3 ≤ (0 : Int32) then (if (((61 : Int32) * v2) + v3) < 0 ∨ 2501 ≤ (((61 : Int32) * v2) + v3).toNatClampNeg then none else (k17 (sta S 10 (((61 : Int32) * v2) + v3).toNatClampNeg v4) v2 (v3 + (1 : Int32)))) else (if ((((61 : Int32) * v2) + v3) - (1 : Int32)) < 0 ∨ 2501 ≤ ((((61 : Int32) * v2) + v3) - (1 : Int32)).toNatClampNeg then none else (if v4 ≤ ((S.2 10 ((((61 : Int32) * v2) + v3) - (1 : Int32)).toNatClampNeg) + (S.1 0 15)) then (if (((61 : Int32) * v2) + v3) < 0 ∨ 2501 ≤ (((61 : Int32) * v2) + v3).toNatClampNeg then none else (k17 (sta S 10 (((61 : Int32) * v2) + v3).toNatClampNeg v4) v2 (v3 + (1 : Int32)))) else (if (((61 : Int32) * v2) + v3) < 0 ∨ 2501 ≤ (((61 : Int32) * v2) + v3).toNatClampNeg then none else (k17 (sta S 10 (((61 : Int32) * v2) + v3).toNatClampNeg ((S.2 10 ((((61 : Int32) * v2) + v3) - (1 : Int32)).toNatClampNeg) + (S.1 0 15))) v2 (v3 + (1 : Int32)))))))
set_option maxHeartbeats 4000000 in
set_option maxRecDepth 100000 in
theorem wBX10_matches_115 {cy : ClassId × ClassId} {ad : Nat → Nat} {D : va_G} {p : Program} {l : Launch} {e : Env} {s : State} {m : MethodId} {args : Array Value} {below : List Frame} {meth : Method} {c : Code} {A : Nat → Prop} (hM : MX cy GM ad D p s m args meth c cX10_matches 5 RX10 none A) (nF : Nat) (r : PS) (k7 : PS → Int32 → Option (PS)) (k17 : PS → Int32 → Int32 → Option (PS)) (hk7 : ∀ (S : PS) (v2 : Int32), k7 S v2 = some r → WW cy GM ad D p l e rmX10_matches s m args below meth c 5 A (pov (fun S' => S' = r)) 7 [(0, vr 10 0), (2, vi v2)] [] S) (hk17 : ∀ (S : PS) (v2 : Int32) (v3 : Int32), k17 S v2 v3 = some r → WW cy GM ad D p l e rmX10_matches s m args below meth c 5 A (pov (fun S' => S' = r)) 17 [(0, vr 10 0), (2, vi v2), (3, vi v3)] [] S) (S : PS) (v2 : Int32) (v3 : Int32) (v4 : Int32) (hf : BX10_matches_115 nF k7 k17 S v2 v3 v4 = some r) : WW cy GM ad D p l e rmX10_matches s m args below meth c 5 A (pov (fun S' => S' = r)) 115 [(0, vr 10 0), (2, vi v2), (3, vi v3), (4, vi v4)] [] S := by
  rw [BX10_matches_115] at hf
  refine w_iln (q := 2) (n := 116) hM (dtab_at okX10_matches 69 rfl) rfl rfl ?_
  refine w_if_le (n := 162) (n2 := 119) hM (dtab_at okX10_matches 70 rfl) (by decide) rfl (fun (h116 : v3 ≤ (0 : Int32)) => ?_) (fun (h116 : ¬ v3 ≤ (0 : Int32)) => ?_)
  · skip
    rw [if_pos h116] at hf
    refine w_aln (q := 0) (n := 163) hM (dtab_at okX10_matches 100 rfl) rfl rfl ?_
    refine w_getr (C := RX10) (T := TX10) (i := 16) (k2 := 2601) (q := 10) (n := 166) hM rfl (by decide) (fun _ => rfl) ly_X10 lkF_X10_45 (dtab_at okX10_matches 101 rfl) rfl ?_
    refine w_bi (n := 168) hM (61 : Int32) (dtab_at okX10_matches 102 rfl) (by decide) rfl ?_
    refine w_iln (q := 1) (n := 169) hM (dtab_at okX10_matches 103 rfl) rfl rfl ?_
    refine w_imul (n := 170) hM (dtab_at okX10_matches 104 rfl) rfl ?_
    refine w_iln (q := 2) (n := 171) hM (dtab_at okX10_matches 105 rfl) rfl rfl ?_
    refine w_iadd (n := 172) hM (dtab_at okX10_matches 106 rfl) rfl ?_
    refine w_il (q := 3) (n := 174) hM (dtab_at okX10_matches 107 rfl) rfl rfl ?_
    by_cases hg174 : (((61 : Int32) * v2) + v3) < 0 ∨ 2501 ≤ (((61 : Int32) * v2) + v3).toNatClampNeg
    · rw [if_pos hg174] at hf; cases hf
    rw [if_neg hg174] at hf
    refine w_ast (nn := 2501) (n := 175) hM rfl hg174 (dtab_at okX10_matches 108 rfl) rfl ?_
    refine w_iinc (q := 2) (n := 178) (v := (v3 + (1 : Int32))) (lv' := [(3, vi (v3 + (1 : Int32))), (0, vr 10 0), (2, vi v2), (4, vi v4)]) hM (dtab_at okX10_matches 109 rfl) rfl rfl (by decide) rfl rfl ?_
    refine w_goto (n := 17) hM (dtab_at okX10_matches 110 rfl) (by decide) ?_
    refine WW.lvs [1, 2, 0] (lv2 := [(0, vr 10 0), (2, vi v2), (3, vi (v3 + (1 : Int32)))]) rfl ?_
    exact hk17 (sta S 10 (((61 : Int32) * v2) + v3).toNatClampNeg v4) v2 (v3 + (1 : Int32)) hf
  · skip
    rw [if_neg h116] at hf
    refine w_aln (q := 0) (n := 120) hM (dtab_at okX10_matches 71 rfl) rfl rfl ?_
    refine w_getr (C := RX10) (T := TX10) (i := 16) (k2 := 2601) (q := 10) (n := 123) hM rfl (by decide) (fun _ => rfl) ly_X10 lkF_X10_45 (dtab_at okX10_matches 72 rfl) rfl ?_
    refine w_bi (n := 125) hM (61 : Int32) (dtab_at okX10_matches 73 rfl) (by decide) rfl ?_
    refine w_iln (q := 1) (n := 126) hM (dtab_at okX10_matches 74 rfl) rfl rfl ?_
    refine w_imul (n := 127) hM (dtab_at okX10_matches 75 rfl) rfl ?_
    refine w_iln (q := 2) (n := 128) hM (dtab_at okX10_matches 76 rfl) rfl rfl ?_
    refine w_iadd (n := 129) hM (dtab_at okX10_matches 77 rfl) rfl ?_
    refine w_ic (n := 130) hM (1 : Int32) (dtab_at okX10_matches 78 rfl) (by decide) rfl ?_
    refine w_isub (n := 131) hM (dtab_at okX10_matches 79 rfl) rfl ?_
    by_cases hg131 : ((((61 : Int32) * v2) + v3) - (1 : Int32)) < 0 ∨ 2501 ≤ ((((61 : Int32) * v2) + v3) - (1 : Int32)).toNatClampNeg
    · rw [if_pos hg131] at hf; cases hf
    rw [if_neg hg131] at hf
    refine w_ald (nn := 2501) (n := 132) hM rfl hg131 (dtab_at okX10_matches 80 rfl) rfl ?_
    refine w_aln (q := 0) (n := 133) hM (dtab_at okX10_matches 81 rfl) rfl rfl ?_
    refine w_geti (C := RX10) (T := TX10) (i := 15) (n := 136) hM rfl (by decide) ly_X10 lkF_X10_42 (dtab_at okX10_matches 82 rfl) rfl ?_
    refine w_iadd (n := 137) hM (dtab_at okX10_matches 83 rfl) rfl ?_
    refine w_il (q := 3) (n := 139) hM (dtab_at okX10_matches 84 rfl) rfl rfl ?_
    refine w_ic_ge (n := 162) (n2 := 142) hM (dtab_at okX10_matches 85 rfl) (by decide) rfl (fun (h139 : v4 ≤ ((S.2 10 ((((61 : Int32) * v2) + v3) - (1 : Int32)).toNatClampNeg) + (S.1 0 15))) => ?_) (fun (h139 : ¬ v4 ≤ ((S.2 10 ((((61 : Int32) * v2) + v3) - (1 : Int32)).toNatClampNeg) + (S.1 0 15))) => ?_)
    · skip
      rw [if_pos h139] at hf
      refine w_aln (q := 0) (n := 163) hM (dtab_at okX10_matches 100 rfl) rfl rfl ?_
      refine w_getr (C := RX10) (T := TX10) (i := 16) (k2 := 2601) (q := 10) (n := 166) hM rfl (by decide) (fun _ => rfl) ly_X10 lkF_X10_45 (dtab_at okX10_matches 101 rfl) rfl ?_
      refine w_bi (n := 168) hM (61 : Int32) (dtab_at okX10_matches 102 rfl) (by decide) rfl ?_
      refine w_iln (q := 1) (n := 169) hM (dtab_at okX10_matches 103 rfl) rfl rfl ?_
      refine w_imul (n := 170) hM (dtab_at okX10_matches 104 rfl) rfl ?_
      refine w_iln (q := 2) (n := 171) hM (dtab_at okX10_matches 105 rfl) rfl rfl ?_
      refine w_iadd (n := 172) hM (dtab_at okX10_matches 106 rfl) rfl ?_
      refine w_il (q := 3) (n := 174) hM (dtab_at okX10_matches 107 rfl) rfl rfl ?_
      by_cases hg174 : (((61 : Int32) * v2) + v3) < 0 ∨ 2501 ≤ (((61 : Int32) * v2) + v3).toNatClampNeg
      · rw [if_pos hg174] at hf; cases hf
      rw [if_neg hg174] at hf
      refine w_ast (nn := 2501) (n := 175) hM rfl hg174 (dtab_at okX10_matches 108 rfl) rfl ?_
      refine w_iinc (q := 2) (n := 178) (v := (v3 + (1 : Int32))) (lv' := [(3, vi (v3 + (1 : Int32))), (0, vr 10 0), (2, vi v2), (4, vi v4)]) hM (dtab_at okX10_matches 109 rfl) rfl rfl (by decide) rfl rfl ?_
      refine w_goto (n := 17) hM (dtab_at okX10_matches 110 rfl) (by decide) ?_
      refine WW.lvs [1, 2, 0] (lv2 := [(0, vr 10 0), (2, vi v2), (3, vi (v3 + (1 : Int32)))]) rfl ?_
      exact hk17 (sta S 10 (((61 : Int32) * v2) + v3).toNatClampNeg v4) v2 (v3 + (1 : Int32)) hf
    · skip
      rw [if_neg h139] at hf
      refine w_aln (q := 0) (n := 143) hM (dtab_at okX10_matches 86 rfl) rfl rfl ?_
      refine w_getr (C := RX10) (T := TX10) (i := 16) (k2 := 2601) (q := 10) (n := 146) hM rfl (by decide) (fun _ => rfl) ly_X10 lkF_X10_45 (dtab_at okX10_matches 87 rfl) rfl ?_
      refine w_bi (n := 148) hM (61 : Int32) (dtab_at okX10_matches 88 rfl) (by decide) rfl ?_
      refine w_iln (q := 1) (n := 149) hM (dtab_at okX10_matches 89 rfl) rfl rfl ?_
      refine w_imul (n := 150) hM (dtab_at okX10_matches 90 rfl) rfl ?_
      refine w_iln (q := 2) (n := 151) hM (dtab_at okX10_matches 91 rfl) rfl rfl ?_
      refine w_iadd (n := 152) hM (dtab_at okX10_matches 92 rfl) rfl ?_
      refine w_ic (n := 153) hM (1 : Int32) (dtab_at okX10_matches 93 rfl) (by decide) rfl ?_
      refine w_isub (n := 154) hM (dtab_at okX10_matches 94 rfl) rfl ?_
      refine w_ald (nn := 2501) (n := 155) hM rfl hg131 (dtab_at okX10_matches 95 rfl) rfl ?_
      refine w_aln (q := 0) (n := 156) hM (dtab_at okX10_matches 96 rfl) rfl rfl ?_
      refine w_geti (C := RX10) (T := TX10) (i := 15) (n := 159) hM rfl (by decide) ly_X10 lkF_X10_42 (dtab_at okX10_matches 97 rfl) rfl ?_
      refine w_iadd (n := 160) hM (dtab_at okX10_matches 98 rfl) rfl ?_
      refine w_is (n := 162) (lv' := [(4, vi ((S.2 10 ((((61 : Int32) * v2) + v3) - (1 : Int32)).toNatClampNeg) + (S.1 0 15))), (0, vr 10 0), (2, vi v2), (3, vi v3)]) hM (dtab_at okX10_matches 99 rfl) (by decide) rfl rfl ?_
      refine w_aln (q := 1) (n := 163) hM (dtab_at okX10_matches 100 rfl) rfl rfl ?_
      refine w_getr (C := RX10) (T := TX10) (i := 16) (k2 := 2601) (q := 10) (n := 166) hM rfl (by decide) (fun _ => rfl) ly_X10 lkF_X10_45 (dtab_at okX10_matches 101 rfl) rfl ?_
      refine w_bi (n := 168) hM (61 : Int32) (dtab_at okX10_matches 102 rfl) (by decide) rfl ?_
      refine w_iln (q := 2) (n := 169) hM (dtab_at okX10_matches 103 rfl) rfl rfl ?_
      refine w_imul (n := 170) hM (dtab_at okX10_matches 104 rfl) rfl ?_
      refine w_iln (q := 3) (n := 171) hM (dtab_at okX10_matches 105 rfl) rfl rfl ?_
      refine w_iadd (n := 172) hM (dtab_at okX10_matches 106 rfl) rfl ?_
      refine w_il (q := 0) (n := 174) hM (dtab_at okX10_matches 107 rfl) rfl rfl ?_
      by_cases hg174 : (((61 : Int32) * v2) + v3) < 0 ∨ 2501 ≤ (((61 : Int32) * v2) + v3).toNatClampNeg
      · rw [if_pos hg174] at hf; cases hf
      rw [if_neg hg174] at hf
      refine w_ast (nn := 2501) (n := 175) hM rfl hg174 (dtab_at okX10_matches 108 rfl) rfl ?_
      refine w_iinc (q := 3) (n := 178) (v := (v3 + (1 : Int32))) (lv' := [(3, vi (v3 + (1 : Int32))), (4, vi ((S.2 10 ((((61 : Int32) * v2) + v3) - (1 : Int32)).toNatClampNeg) + (S.1 0 15))), (0, vr 10 0), (2, vi v2)]) hM (dtab_at okX10_matches 109 rfl) rfl rfl (by decide) rfl rfl ?_
      refine w_goto (n := 17) hM (dtab_at okX10_matches 110 rfl) (by decide) ?_
      refine WW.lvs [2, 3, 0] (lv2 := [(0, vr 10 0), (2, vi v2), (3, vi (v3 + (1 : Int32)))]) rfl ?_
      exact hk17 (sta S 10 (((61 : Int32) * v2) + v3).toNatClampNeg ((S.2 10 ((((61 : Int32) * v2) + v3) - (1 : Int32)).toNatClampNeg) + (S.1 0 15))) v2 (v3 + (1 : Int32)) hf
def BX10_matches_68 (nF : Nat) (k7 : PS → Int32 → Option (PS)) (k17 : PS → Int32 → Int32 → Option (PS)) (S : PS) (v2 : Int32) (v3 : Int32) (v4 : Int32) : Option (PS) := (if v2 ≤ (0 : Int32) then (BX10_matches_115 nF k7 k17 S v2 v3 v4) else (if (((61 : Int32) * (v2 - (1 : Int32))) + v3) < 0 ∨ 2501 ≤ (((61 : Int32) * (v2 - (1 : Int32))) + v3).toNatClampNeg then none else (if v4 ≤ ((S.2 10 (((61 : Int32) * (v2 - (1 : Int32))) + v3).toNatClampNeg) + (S.1 0 14)) then (BX10_matches_115 nF k7 k17 S v2 v3 v4) else (BX10_matches_115 nF k7 k17 S v2 v3 ((S.2 10 (((61 : Int32) * (v2 - (1 : Int32))) + v3).toNatClampNeg) + (S.1 0 14))))))
set_option maxHeartbeats 4000000 in
set_option maxRecDepth 100000 in
theorem wBX10_matches_68 {cy : ClassId × ClassId} {ad : Nat → Nat} {D : va_G} {p : Program} {l : Launch} {e : Env} {s : State} {m : MethodId} {args : Array Value} {below : List Frame} {meth : Method} {c : Code} {A : Nat → Prop} (hM : MX cy GM ad D p s m args meth c cX10_matches 5 RX10 none A) (nF : Nat) (r : PS) (k7 : PS → Int32 → Option (PS)) (k17 : PS → Int32 → Int32 → Option (PS)) (hk7 : ∀ (S : PS) (v2 : Int32), k7 S v2 = some r → WW cy GM ad D p l e rmX10_matches s m args below meth c 5 A (pov (fun S' => S' = r)) 7 [(0, vr 10 0), (2, vi v2)] [] S) (hk17 : ∀ (S : PS) (v2 : Int32) (v3 : Int32), k17 S v2 v3 = some r → WW cy GM ad D p l e rmX10_matches s m args below meth c 5 A (pov (fun S' => S' = r)) 17 [(0, vr 10 0), (2, vi v2), (3, vi v3)] [] S) (S : PS) (v2 : Int32) (v3 : Int32) (v4 : Int32) (hf : BX10_matches_68 nF k7 k17 S v2 v3 v4 = some r) : WW cy GM ad D p l e rmX10_matches s m args below meth c 5 A (pov (fun S' => S' = r)) 68 [(0, vr 10 0), (2, vi v2), (3, vi v3), (4, vi v4)] [] S := by
  rw [BX10_matches_68] at hf
  refine w_iln (q := 1) (n := 69) hM (dtab_at okX10_matches 38 rfl) rfl rfl ?_
  refine w_if_le (n := 115) (n2 := 72) hM (dtab_at okX10_matches 39 rfl) (by decide) rfl (fun (h69 : v2 ≤ (0 : Int32)) => ?_) (fun (h69 : ¬ v2 ≤ (0 : Int32)) => ?_)
  · skip
    rw [if_pos h69] at hf
    exact wBX10_matches_115 hM nF r k7 k17 hk7 hk17 S v2 v3 v4 hf
  · skip
    rw [if_neg h69] at hf
    refine w_aln (q := 0) (n := 73) hM (dtab_at okX10_matches 40 rfl) rfl rfl ?_
    refine w_getr (C := RX10) (T := TX10) (i := 16) (k2 := 2601) (q := 10) (n := 76) hM rfl (by decide) (fun _ => rfl) ly_X10 lkF_X10_45 (dtab_at okX10_matches 41 rfl) rfl ?_
    refine w_bi (n := 78) hM (61 : Int32) (dtab_at okX10_matches 42 rfl) (by decide) rfl ?_
    refine w_iln (q := 1) (n := 79) hM (dtab_at okX10_matches 43 rfl) rfl rfl ?_
    refine w_ic (n := 80) hM (1 : Int32) (dtab_at okX10_matches 44 rfl) (by decide) rfl ?_
    refine w_isub (n := 81) hM (dtab_at okX10_matches 45 rfl) rfl ?_
    refine w_imul (n := 82) hM (dtab_at okX10_matches 46 rfl) rfl ?_
    refine w_iln (q := 2) (n := 83) hM (dtab_at okX10_matches 47 rfl) rfl rfl ?_
    refine w_iadd (n := 84) hM (dtab_at okX10_matches 48 rfl) rfl ?_
    by_cases hg84 : (((61 : Int32) * (v2 - (1 : Int32))) + v3) < 0 ∨ 2501 ≤ (((61 : Int32) * (v2 - (1 : Int32))) + v3).toNatClampNeg
    · rw [if_pos hg84] at hf; cases hf
    rw [if_neg hg84] at hf
    refine w_ald (nn := 2501) (n := 85) hM rfl hg84 (dtab_at okX10_matches 49 rfl) rfl ?_
    refine w_aln (q := 0) (n := 86) hM (dtab_at okX10_matches 50 rfl) rfl rfl ?_
    refine w_geti (C := RX10) (T := TX10) (i := 14) (n := 89) hM rfl (by decide) ly_X10 lkF_X10_38 (dtab_at okX10_matches 51 rfl) rfl ?_
    refine w_iadd (n := 90) hM (dtab_at okX10_matches 52 rfl) rfl ?_
    refine w_il (q := 3) (n := 92) hM (dtab_at okX10_matches 53 rfl) rfl rfl ?_
    refine w_ic_ge (n := 115) (n2 := 95) hM (dtab_at okX10_matches 54 rfl) (by decide) rfl (fun (h92 : v4 ≤ ((S.2 10 (((61 : Int32) * (v2 - (1 : Int32))) + v3).toNatClampNeg) + (S.1 0 14))) => ?_) (fun (h92 : ¬ v4 ≤ ((S.2 10 (((61 : Int32) * (v2 - (1 : Int32))) + v3).toNatClampNeg) + (S.1 0 14))) => ?_)
    · skip
      rw [if_pos h92] at hf
      exact wBX10_matches_115 hM nF r k7 k17 hk7 hk17 S v2 v3 v4 hf
    · skip
      rw [if_neg h92] at hf
      refine w_aln (q := 0) (n := 96) hM (dtab_at okX10_matches 55 rfl) rfl rfl ?_
      refine w_getr (C := RX10) (T := TX10) (i := 16) (k2 := 2601) (q := 10) (n := 99) hM rfl (by decide) (fun _ => rfl) ly_X10 lkF_X10_45 (dtab_at okX10_matches 56 rfl) rfl ?_
      refine w_bi (n := 101) hM (61 : Int32) (dtab_at okX10_matches 57 rfl) (by decide) rfl ?_
      refine w_iln (q := 1) (n := 102) hM (dtab_at okX10_matches 58 rfl) rfl rfl ?_
      refine w_ic (n := 103) hM (1 : Int32) (dtab_at okX10_matches 59 rfl) (by decide) rfl ?_
      refine w_isub (n := 104) hM (dtab_at okX10_matches 60 rfl) rfl ?_
      refine w_imul (n := 105) hM (dtab_at okX10_matches 61 rfl) rfl ?_
      refine w_iln (q := 2) (n := 106) hM (dtab_at okX10_matches 62 rfl) rfl rfl ?_
      refine w_iadd (n := 107) hM (dtab_at okX10_matches 63 rfl) rfl ?_
      refine w_ald (nn := 2501) (n := 108) hM rfl hg84 (dtab_at okX10_matches 64 rfl) rfl ?_
      refine w_aln (q := 0) (n := 109) hM (dtab_at okX10_matches 65 rfl) rfl rfl ?_
      refine w_geti (C := RX10) (T := TX10) (i := 14) (n := 112) hM rfl (by decide) ly_X10 lkF_X10_38 (dtab_at okX10_matches 66 rfl) rfl ?_
      refine w_iadd (n := 113) hM (dtab_at okX10_matches 67 rfl) rfl ?_
      refine w_is (n := 115) (lv' := [(4, vi ((S.2 10 (((61 : Int32) * (v2 - (1 : Int32))) + v3).toNatClampNeg) + (S.1 0 14))), (0, vr 10 0), (2, vi v2), (3, vi v3)]) hM (dtab_at okX10_matches 68 rfl) (by decide) rfl rfl ?_
      refine WW.lvs [1, 2, 3, 0] (lv2 := [(0, vr 10 0), (2, vi v2), (3, vi v3), (4, vi ((S.2 10 (((61 : Int32) * (v2 - (1 : Int32))) + v3).toNatClampNeg) + (S.1 0 14)))]) rfl ?_
      exact wBX10_matches_115 hM nF r k7 k17 hk7 hk17 S v2 v3 ((S.2 10 (((61 : Int32) * (v2 - (1 : Int32))) + v3).toNatClampNeg) + (S.1 0 14)) hf
def BX10_matches_39 (nF : Nat) (k7 : PS → Int32 → Option (PS)) (k17 : PS → Int32 → Int32 → Option (PS)) (S : PS) (v2 : Int32) (v3 : Int32) (t0 : Int32) : Option (PS) := (if v2 ≤ (0 : Int32) then (BX10_matches_68 nF k7 k17 S v2 v3 t0) else (if v3 ≤ (0 : Int32) then (BX10_matches_68 nF k7 k17 S v2 v3 t0) else ((fX10_pairCost nF S v2 v3).bind fun r0 => (if t0 ≤ r0 then (BX10_matches_68 nF k7 k17 S v2 v3 t0) else ((fX10_pairCost nF S v2 v3).bind fun r1 => (BX10_matches_68 nF k7 k17 S v2 v3 r1))))))
set_option maxHeartbeats 4000000 in
set_option maxRecDepth 100000 in
theorem wBX10_matches_39 {cy : ClassId × ClassId} {ad : Nat → Nat} {D : va_G} {p : Program} {l : Launch} {e : Env} {s : State} {m : MethodId} {args : Array Value} {below : List Frame} {meth : Method} {c : Code} {A : Nat → Prop} (hM : MX cy GM ad D p s m args meth c cX10_matches 5 RX10 none A) (nF : Nat) (r : PS) (k7 : PS → Int32 → Option (PS)) (k17 : PS → Int32 → Int32 → Option (PS)) (hk7 : ∀ (S : PS) (v2 : Int32), k7 S v2 = some r → WW cy GM ad D p l e rmX10_matches s m args below meth c 5 A (pov (fun S' => S' = r)) 7 [(0, vr 10 0), (2, vi v2)] [] S) (hk17 : ∀ (S : PS) (v2 : Int32) (v3 : Int32), k17 S v2 v3 = some r → WW cy GM ad D p l e rmX10_matches s m args below meth c 5 A (pov (fun S' => S' = r)) 17 [(0, vr 10 0), (2, vi v2), (3, vi v3)] [] S) (S : PS) (v2 : Int32) (v3 : Int32) (t0 : Int32) (hf : BX10_matches_39 nF k7 k17 S v2 v3 t0 = some r) : WW cy GM ad D p l e rmX10_matches s m args below meth c 5 A (pov (fun S' => S' = r)) 39 [(0, vr 10 0), (2, vi v2), (3, vi v3)] [vi t0] S := by
  rw [BX10_matches_39] at hf
  refine w_is (n := 41) (lv' := [(4, vi t0), (0, vr 10 0), (2, vi v2), (3, vi v3)]) hM (dtab_at okX10_matches 22 rfl) (by decide) rfl rfl ?_
  refine w_iln (q := 2) (n := 42) hM (dtab_at okX10_matches 23 rfl) rfl rfl ?_
  refine w_if_le (n := 68) (n2 := 45) hM (dtab_at okX10_matches 24 rfl) (by decide) rfl (fun (h42 : v2 ≤ (0 : Int32)) => ?_) (fun (h42 : ¬ v2 ≤ (0 : Int32)) => ?_)
  · skip
    rw [if_pos h42] at hf
    refine WW.lvs [1, 2, 3, 0] (lv2 := [(0, vr 10 0), (2, vi v2), (3, vi v3), (4, vi t0)]) rfl ?_
    exact wBX10_matches_68 hM nF r k7 k17 hk7 hk17 S v2 v3 t0 hf
  · skip
    rw [if_neg h42] at hf
    refine w_iln (q := 3) (n := 46) hM (dtab_at okX10_matches 25 rfl) rfl rfl ?_
    refine w_if_le (n := 68) (n2 := 49) hM (dtab_at okX10_matches 26 rfl) (by decide) rfl (fun (h46 : v3 ≤ (0 : Int32)) => ?_) (fun (h46 : ¬ v3 ≤ (0 : Int32)) => ?_)
    · skip
      rw [if_pos h46] at hf
      refine WW.lvs [1, 2, 3, 0] (lv2 := [(0, vr 10 0), (2, vi v2), (3, vi v3), (4, vi t0)]) rfl ?_
      exact wBX10_matches_68 hM nF r k7 k17 hk7 hk17 S v2 v3 t0 hf
    · skip
      rw [if_neg h46] at hf
      refine w_aln (q := 1) (n := 50) hM (dtab_at okX10_matches 27 rfl) rfl rfl ?_
      refine w_iln (q := 2) (n := 51) hM (dtab_at okX10_matches 28 rfl) rfl rfl ?_
      refine w_iln (q := 3) (n := 52) hM (dtab_at okX10_matches 29 rfl) rfl rfl ?_
      obtain ⟨r0, hr0, hf⟩ := Option.bind_eq_some_iff.mp hf
      refine w_callVi (n := 55) (As := [vi v2, vi v3]) (rest := []) (k := 10) (j := 0) (C := RX10) (T := TX10) (N := 43) hM (c_X10_pairCost nF S v2 v3 r0 hr0) lkM_X10_169 mv_X10_pairCost (by decide) rfl (by decide) rfl (Nat.le_of_ble_eq_true rfl) rfl (dtab_at okX10_matches 30 rfl) rfl (fun x0 S0 hp0 => ?_)
      obtain ⟨hx_, hs_⟩ := hp0
      have hs_ := hs_.symm
      have hx_ := hx_.symm
      subst hs_
      subst hx_
      refine w_il (q := 0) (n := 57) hM (dtab_at okX10_matches 31 rfl) rfl rfl ?_
      refine w_ic_ge (n := 68) (n2 := 60) hM (dtab_at okX10_matches 32 rfl) (by decide) rfl (fun (h57 : t0 ≤ r0) => ?_) (fun (h57 : ¬ t0 ≤ r0) => ?_)
      · skip
        rw [if_pos h57] at hf
        refine WW.lvs [1, 2, 3, 0] (lv2 := [(0, vr 10 0), (2, vi v2), (3, vi v3), (4, vi t0)]) rfl ?_
        exact wBX10_matches_68 hM nF r k7 k17 hk7 hk17 S v2 v3 t0 hf
      · skip
        rw [if_neg h57] at hf
        refine w_aln (q := 1) (n := 61) hM (dtab_at okX10_matches 33 rfl) rfl rfl ?_
        refine w_iln (q := 2) (n := 62) hM (dtab_at okX10_matches 34 rfl) rfl rfl ?_
        refine w_iln (q := 3) (n := 63) hM (dtab_at okX10_matches 35 rfl) rfl rfl ?_
        obtain ⟨r1, hr1, hf⟩ := Option.bind_eq_some_iff.mp hf
        refine w_callVi (n := 66) (As := [vi v2, vi v3]) (rest := []) (k := 10) (j := 0) (C := RX10) (T := TX10) (N := 43) hM (c_X10_pairCost nF S v2 v3 r1 hr1) lkM_X10_169 mv_X10_pairCost (by decide) rfl (by decide) rfl (Nat.le_of_ble_eq_true rfl) rfl (dtab_at okX10_matches 36 rfl) rfl (fun x1 S1 hp1 => ?_)
        obtain ⟨hx_, hs_⟩ := hp1
        have hs_ := hs_.symm
        have hx_ := hx_.symm
        subst hs_
        subst hx_
        refine w_is (n := 68) (lv' := [(4, vi r1), (0, vr 10 0), (2, vi v2), (3, vi v3)]) hM (dtab_at okX10_matches 37 rfl) (by decide) rfl rfl ?_
        refine WW.lvs [1, 2, 3, 0] (lv2 := [(0, vr 10 0), (2, vi v2), (3, vi v3), (4, vi r1)]) rfl ?_
        exact wBX10_matches_68 hM nF r k7 k17 hk7 hk17 S v2 v3 r1 hf
def BX10_matches_37 (nF : Nat) (k7 : PS → Int32 → Option (PS)) (k17 : PS → Int32 → Int32 → Option (PS)) (S : PS) (v2 : Int32) (v3 : Int32) : Option (PS) := (BX10_matches_39 nF k7 k17 S v2 v3 (2000000000 : Int32))
set_option maxHeartbeats 4000000 in
set_option maxRecDepth 100000 in
theorem wBX10_matches_37 {cy : ClassId × ClassId} {ad : Nat → Nat} {D : va_G} {p : Program} {l : Launch} {e : Env} {s : State} {m : MethodId} {args : Array Value} {below : List Frame} {meth : Method} {c : Code} {A : Nat → Prop} (hM : MX cy GM ad D p s m args meth c cX10_matches 5 RX10 none A) (nF : Nat) (r : PS) (k7 : PS → Int32 → Option (PS)) (k17 : PS → Int32 → Int32 → Option (PS)) (hk7 : ∀ (S : PS) (v2 : Int32), k7 S v2 = some r → WW cy GM ad D p l e rmX10_matches s m args below meth c 5 A (pov (fun S' => S' = r)) 7 [(0, vr 10 0), (2, vi v2)] [] S) (hk17 : ∀ (S : PS) (v2 : Int32) (v3 : Int32), k17 S v2 v3 = some r → WW cy GM ad D p l e rmX10_matches s m args below meth c 5 A (pov (fun S' => S' = r)) 17 [(0, vr 10 0), (2, vi v2), (3, vi v3)] [] S) (S : PS) (v2 : Int32) (v3 : Int32) (hf : BX10_matches_37 nF k7 k17 S v2 v3 = some r) : WW cy GM ad D p l e rmX10_matches s m args below meth c 5 A (pov (fun S' => S' = r)) 37 [(0, vr 10 0), (2, vi v2), (3, vi v3)] [] S := by
  rw [BX10_matches_37] at hf
  refine w_ldc (n := 39) (v := (2000000000 : Int32)) hM (dtab_at okX10_matches 21 rfl) lkC_X10_168 rfl ?_
  exact wBX10_matches_39 hM nF r k7 k17 hk7 hk17 S v2 v3 (2000000000 : Int32) hf
def LX10_matches_17 (nF : Nat) (k7 : PS → Int32 → Option (PS)) : Nat → PS → Int32 → Int32 → Option (PS)
  | 0, _, _, _ => none
  | n + 1, S, v2, v3 => (if (S.1 0 9) < v3 then (BX10_matches_181 nF k7 S v2) else (if v2 = (0 : Int32) then (if v3 = (0 : Int32) then (BX10_matches_39 nF k7 (LX10_matches_17 nF k7 n) S v2 v3 (0 : Int32)) else (BX10_matches_37 nF k7 (LX10_matches_17 nF k7 n) S v2 v3)) else (BX10_matches_37 nF k7 (LX10_matches_17 nF k7 n) S v2 v3)))
set_option maxHeartbeats 4000000 in
set_option maxRecDepth 100000 in
theorem wLX10_matches_17 {cy : ClassId × ClassId} {ad : Nat → Nat} {D : va_G} {p : Program} {l : Launch} {e : Env} {s : State} {m : MethodId} {args : Array Value} {below : List Frame} {meth : Method} {c : Code} {A : Nat → Prop} (hM : MX cy GM ad D p s m args meth c cX10_matches 5 RX10 none A) (nF : Nat) (r : PS) (k7 : PS → Int32 → Option (PS)) (hk7 : ∀ (S : PS) (v2 : Int32), k7 S v2 = some r → WW cy GM ad D p l e rmX10_matches s m args below meth c 5 A (pov (fun S' => S' = r)) 7 [(0, vr 10 0), (2, vi v2)] [] S) : ∀ (n : Nat) (S : PS) (v2 : Int32) (v3 : Int32), LX10_matches_17 nF k7 n S v2 v3 = some r → WW cy GM ad D p l e rmX10_matches s m args below meth c 5 A (pov (fun S' => S' = r)) 17 [(0, vr 10 0), (2, vi v2), (3, vi v3)] [] S := by
  intro n
  induction n with
  | zero => intro S v2 v3 hf; rw [LX10_matches_17] at hf; cases hf
  | succ n ih =>
    intro S v2 v3 hf
    rw [LX10_matches_17] at hf
    refine w_iln (q := 2) (n := 18) hM (dtab_at okX10_matches 11 rfl) rfl rfl ?_
    refine w_aln (q := 0) (n := 19) hM (dtab_at okX10_matches 12 rfl) rfl rfl ?_
    refine w_geti (C := RX10) (T := TX10) (i := 9) (n := 22) hM rfl (by decide) ly_X10 lkF_X10_143 (dtab_at okX10_matches 13 rfl) rfl ?_
    refine w_ic_gt (n := 181) (n2 := 25) hM (dtab_at okX10_matches 14 rfl) (by decide) rfl (fun (h22 : (S.1 0 9) < v3) => ?_) (fun (h22 : ¬ (S.1 0 9) < v3) => ?_)
    · skip
      rw [if_pos h22] at hf
      refine WW.lvs [0, 1] (lv2 := [(0, vr 10 0), (2, vi v2)]) rfl ?_
      exact wBX10_matches_181 hM nF r k7 hk7 S v2 hf
    · skip
      rw [if_neg h22] at hf
      refine w_iln (q := 1) (n := 26) hM (dtab_at okX10_matches 15 rfl) rfl rfl ?_
      refine w_if_ne (n := 37) (n2 := 29) hM (dtab_at okX10_matches 16 rfl) (by decide) rfl (fun (h26 : ¬ v2 = (0 : Int32)) => ?_) (fun (h26 : v2 = (0 : Int32)) => ?_)
      · skip
        rw [if_neg h26] at hf
        exact wBX10_matches_37 hM nF r k7 (LX10_matches_17 nF k7 n) hk7 ih S v2 v3 hf
      · skip
        rw [if_pos h26] at hf
        refine w_iln (q := 2) (n := 30) hM (dtab_at okX10_matches 17 rfl) rfl rfl ?_
        refine w_if_ne (n := 37) (n2 := 33) hM (dtab_at okX10_matches 18 rfl) (by decide) rfl (fun (h30 : ¬ v3 = (0 : Int32)) => ?_) (fun (h30 : v3 = (0 : Int32)) => ?_)
        · skip
          rw [if_neg h30] at hf
          exact wBX10_matches_37 hM nF r k7 (LX10_matches_17 nF k7 n) hk7 ih S v2 v3 hf
        · skip
          rw [if_pos h30] at hf
          refine w_ic (n := 34) hM (0 : Int32) (dtab_at okX10_matches 19 rfl) (by decide) rfl ?_
          refine w_goto (n := 39) hM (dtab_at okX10_matches 20 rfl) (by decide) ?_
          exact wBX10_matches_39 hM nF r k7 (LX10_matches_17 nF k7 n) hk7 ih S v2 v3 (0 : Int32) hf
def LX10_matches_7 (nF : Nat) : Nat → PS → Int32 → Option (PS)
  | 0, _, _ => none
  | n + 1, S, v2 => (if (S.1 0 12) < v2 then (BX10_matches_187 nF S) else (LX10_matches_17 nF (LX10_matches_7 nF n) nF S v2 (0 : Int32)))
set_option maxHeartbeats 4000000 in
set_option maxRecDepth 100000 in
theorem wLX10_matches_7 {cy : ClassId × ClassId} {ad : Nat → Nat} {D : va_G} {p : Program} {l : Launch} {e : Env} {s : State} {m : MethodId} {args : Array Value} {below : List Frame} {meth : Method} {c : Code} {A : Nat → Prop} (hM : MX cy GM ad D p s m args meth c cX10_matches 5 RX10 none A) (nF : Nat) (r : PS) : ∀ (n : Nat) (S : PS) (v2 : Int32), LX10_matches_7 nF n S v2 = some r → WW cy GM ad D p l e rmX10_matches s m args below meth c 5 A (pov (fun S' => S' = r)) 7 [(0, vr 10 0), (2, vi v2)] [] S := by
  intro n
  induction n with
  | zero => intro S v2 hf; rw [LX10_matches_7] at hf; cases hf
  | succ n ih =>
    intro S v2 hf
    rw [LX10_matches_7] at hf
    refine w_iln (q := 1) (n := 8) hM (dtab_at okX10_matches 5 rfl) rfl rfl ?_
    refine w_aln (q := 0) (n := 9) hM (dtab_at okX10_matches 6 rfl) rfl rfl ?_
    refine w_geti (C := RX10) (T := TX10) (i := 12) (n := 12) hM rfl (by decide) ly_X10 lkF_X10_161 (dtab_at okX10_matches 7 rfl) rfl ?_
    refine w_ic_gt (n := 187) (n2 := 15) hM (dtab_at okX10_matches 8 rfl) (by decide) rfl (fun (h12 : (S.1 0 12) < v2) => ?_) (fun (h12 : ¬ (S.1 0 12) < v2) => ?_)
    · skip
      rw [if_pos h12] at hf
      refine WW.lvs [0] (lv2 := [(0, vr 10 0)]) rfl ?_
      exact wBX10_matches_187 hM nF r S hf
    · skip
      rw [if_neg h12] at hf
      refine w_ic (n := 16) hM (0 : Int32) (dtab_at okX10_matches 9 rfl) (by decide) rfl ?_
      refine w_isn (n := 17) (lv' := [(3, vi (0 : Int32)), (0, vr 10 0), (2, vi v2)]) hM (dtab_at okX10_matches 10 rfl) (by decide) rfl rfl ?_
      refine WW.lvs [1, 2, 0] (lv2 := [(0, vr 10 0), (2, vi v2), (3, vi (0 : Int32))]) rfl ?_
      exact wLX10_matches_17 hM nF r (LX10_matches_7 nF n) ih nF S v2 (0 : Int32) hf
def fX10_matches (nF : Nat) (S : PS) (a1 : Int32) : Option (PS) := ((fX10_goThrough nF S a1).bind fun r0 => (LX10_matches_7 nF nF r0 (0 : Int32)))
set_option maxHeartbeats 4000000 in
set_option maxRecDepth 100000 in
theorem c_X10_matches {cy : ClassId × ClassId} {ad : Nat → Nat} {D : va_G} {l : Launch} (nF : Nat) (S : PS) (a1 : Int32) (r : PS) (hf : fX10_matches nF S a1 = some r) : PMv cy GM ad D l yX10_matches (wA yX10_matches cX10_matches 5 none) rmX10_matches [vr 10 0, vi a1] S (fun S' => S' = r) := by
  refine PM.of (lv := [(0, vr 10 0), (1, vi a1)]) GM_ok (by decide) (Nat.le_of_ble_eq_true rfl) rfl (by simp) ?_
  intro p e s m args below meth c A hM
  rw [fX10_matches] at hf
  refine w_aln (q := 0) (n := 1) hM (dtab_at okX10_matches 0 rfl) rfl rfl ?_
  refine w_iln (q := 1) (n := 2) hM (dtab_at okX10_matches 1 rfl) rfl rfl ?_
  obtain ⟨r0, hr0, hf⟩ := Option.bind_eq_some_iff.mp hf
  refine w_callVv (n := 5) (As := [vi a1]) (rest := []) (k := 10) (j := 0) (C := RX10) (T := TX10) (N := 43) hM (c_X10_goThrough nF S a1 r0 hr0) lkM_X10_156 mv_X10_goThrough (by decide) rfl (by decide) rfl (Nat.le_of_ble_eq_true rfl) rfl (dtab_at okX10_matches 2 rfl) rfl (fun S0 hp0 => ?_)
  have hs_ := hp0.symm
  subst hs_
  refine w_ic (n := 6) hM (0 : Int32) (dtab_at okX10_matches 3 rfl) (by decide) rfl ?_
  refine w_isn (n := 7) (lv' := [(2, vi (0 : Int32)), (0, vr 10 0), (1, vi a1)]) hM (dtab_at okX10_matches 4 rfl) (by decide) rfl rfl ?_
  refine WW.lvs [1, 0] (lv2 := [(0, vr 10 0), (2, vi (0 : Int32))]) rfl ?_
  exact wLX10_matches_7 hM nF r nF r0 (0 : Int32) hf
def fX10_match (nF : Nat) (S : PS) (a1 : Int32) : Option (Int32 × PS) := (if (fX10_isRun S a1) = (0 : Int32) then (some ((-2 : Int32), S)) else ((fX10_matches nF S a1).bind fun r1 => (if (((61 : Int32) * (r1.1 0 12)) + (r1.1 0 9)) < 0 ∨ 2501 ≤ (((61 : Int32) * (r1.1 0 12)) + (r1.1 0 9)).toNatClampNeg then none else (some ((r1.2 10 (((61 : Int32) * (r1.1 0 12)) + (r1.1 0 9)).toNatClampNeg), r1)))))
set_option maxHeartbeats 4000000 in
set_option maxRecDepth 100000 in
theorem c_X10_match {cy : ClassId × ClassId} {ad : Nat → Nat} {D : va_G} {l : Launch} (nF : Nat) (S : PS) (a1 : Int32) (r : Int32 × PS) (hf : fX10_match nF S a1 = some r) : PMi cy GM ad D l yX10_match (wA yX10_match cX10_match 2 (some .int)) rmX10_match [vr 10 0, vi a1] S (fun x S' => (x, S') = r) := by
  refine PM.of (lv := [(0, vr 10 0), (1, vi a1)]) GM_ok (by decide) (Nat.le_of_ble_eq_true rfl) rfl (by simp) ?_
  intro p e s m args below meth c A hM
  rw [fX10_match] at hf
  refine w_iln (q := 1) (n := 1) hM (dtab_at okX10_match 0 rfl) rfl rfl ?_
  refine w_callSi (n := 4) (As := [vi a1]) (rest := []) hM (c_X10_isRun S a1) lkM_X10_153 ms_X10_isRun (by decide) rfl (Nat.le_of_ble_eq_true rfl) rfl (dtab_at okX10_match 1 rfl) rfl (fun x0 S0 hp0 => ?_)
  obtain ⟨hx_, hs_⟩ := hp0
  have hs_ := hs_.symm
  subst hs_
  subst hx_
  refine w_if_ne (n := 10) (n2 := 7) hM (dtab_at okX10_match 2 rfl) (by decide) rfl (fun (h4 : ¬ (fX10_isRun S a1) = (0 : Int32)) => ?_) (fun (h4 : (fX10_isRun S a1) = (0 : Int32)) => ?_)
  · skip
    rw [if_neg h4] at hf
    refine w_aln (q := 0) (n := 11) hM (dtab_at okX10_match 5 rfl) rfl rfl ?_
    refine w_iln (q := 1) (n := 12) hM (dtab_at okX10_match 6 rfl) rfl rfl ?_
    obtain ⟨r1, hr1, hf⟩ := Option.bind_eq_some_iff.mp hf
    refine w_callVv (n := 15) (As := [vi a1]) (rest := []) (k := 10) (j := 0) (C := RX10) (T := TX10) (N := 43) hM (c_X10_matches nF S a1 r1 hr1) lkM_X10_172 mv_X10_matches (by decide) rfl (by decide) rfl (Nat.le_of_ble_eq_true rfl) rfl (dtab_at okX10_match 7 rfl) rfl (fun S1 hp1 => ?_)
    have hs_ := hp1.symm
    subst hs_
    refine w_aln (q := 0) (n := 16) hM (dtab_at okX10_match 8 rfl) rfl rfl ?_
    refine w_getr (C := RX10) (T := TX10) (i := 16) (k2 := 2601) (q := 10) (n := 19) hM rfl (by decide) (fun _ => rfl) ly_X10 lkF_X10_45 (dtab_at okX10_match 9 rfl) rfl ?_
    refine w_bi (n := 21) hM (61 : Int32) (dtab_at okX10_match 10 rfl) (by decide) rfl ?_
    refine w_aln (q := 0) (n := 22) hM (dtab_at okX10_match 11 rfl) rfl rfl ?_
    refine w_geti (C := RX10) (T := TX10) (i := 12) (n := 25) hM rfl (by decide) ly_X10 lkF_X10_161 (dtab_at okX10_match 12 rfl) rfl ?_
    refine w_imul (n := 26) hM (dtab_at okX10_match 13 rfl) rfl ?_
    refine w_aln (q := 0) (n := 27) hM (dtab_at okX10_match 14 rfl) rfl rfl ?_
    refine w_geti (C := RX10) (T := TX10) (i := 9) (n := 30) hM rfl (by decide) ly_X10 lkF_X10_143 (dtab_at okX10_match 15 rfl) rfl ?_
    refine w_iadd (n := 31) hM (dtab_at okX10_match 16 rfl) rfl ?_
    by_cases hg31 : (((61 : Int32) * (r1.1 0 12)) + (r1.1 0 9)) < 0 ∨ 2501 ≤ (((61 : Int32) * (r1.1 0 12)) + (r1.1 0 9)).toNatClampNeg
    · rw [if_pos hg31] at hf; cases hf
    rw [if_neg hg31] at hf
    refine w_ald (nn := 2501) (n := 32) hM rfl hg31 (dtab_at okX10_match 17 rfl) rfl ?_
    exact r_i hM (dtab_at okX10_match 18 rfl) (Option.some.inj hf)
  · skip
    rw [if_pos h4] at hf
    refine w_bi (n := 9) hM (-2 : Int32) (dtab_at okX10_match 3 rfl) (by decide) rfl ?_
    exact r_i hM (dtab_at okX10_match 4 rfl) (Option.some.inj hf)
def fX10_paired (nF : Nat) (S : PS) (a1 : Int32) (a2 : Int32) : Option (Int32 × PS) := (if (fX10_isRun S a1) = (0 : Int32) then (some ((-2 : Int32), S)) else (if (fX10_in S a2 (0 : Int32) ((S.1 0 12) - (1 : Int32))) = (0 : Int32) then (some ((-2 : Int32), S)) else ((fX10_matches nF S a1).bind fun r2 => (if a2 < 0 ∨ 40 ≤ a2.toNatClampNeg then none else (some ((r2.2 11 a2.toNatClampNeg), r2))))))
set_option maxHeartbeats 4000000 in
set_option maxRecDepth 100000 in
theorem c_X10_paired {cy : ClassId × ClassId} {ad : Nat → Nat} {D : va_G} {l : Launch} (nF : Nat) (S : PS) (a1 : Int32) (a2 : Int32) (r : Int32 × PS) (hf : fX10_paired nF S a1 a2 = some r) : PMi cy GM ad D l yX10_paired (wA yX10_paired cX10_paired 3 (some .int)) rmX10_paired [vr 10 0, vi a1, vi a2] S (fun x S' => (x, S') = r) := by
  refine PM.of (lv := [(0, vr 10 0), (1, vi a1), (2, vi a2)]) GM_ok (by decide) (Nat.le_of_ble_eq_true rfl) rfl (by simp) ?_
  intro p e s m args below meth c A hM
  rw [fX10_paired] at hf
  refine w_iln (q := 1) (n := 1) hM (dtab_at okX10_paired 0 rfl) rfl rfl ?_
  refine w_callSi (n := 4) (As := [vi a1]) (rest := []) hM (c_X10_isRun S a1) lkM_X10_153 ms_X10_isRun (by decide) rfl (Nat.le_of_ble_eq_true rfl) rfl (dtab_at okX10_paired 1 rfl) rfl (fun x0 S0 hp0 => ?_)
  obtain ⟨hx_, hs_⟩ := hp0
  have hs_ := hs_.symm
  subst hs_
  subst hx_
  refine w_if_eq (n := 21) (n2 := 7) hM (dtab_at okX10_paired 2 rfl) (by decide) rfl (fun (h4 : (fX10_isRun S a1) = (0 : Int32)) => ?_) (fun (h4 : ¬ (fX10_isRun S a1) = (0 : Int32)) => ?_)
  · skip
    rw [if_pos h4] at hf
    refine w_bi (n := 23) hM (-2 : Int32) (dtab_at okX10_paired 11 rfl) (by decide) rfl ?_
    exact r_i hM (dtab_at okX10_paired 12 rfl) (Option.some.inj hf)
  · skip
    rw [if_neg h4] at hf
    refine w_iln (q := 2) (n := 8) hM (dtab_at okX10_paired 3 rfl) rfl rfl ?_
    refine w_ic (n := 9) hM (0 : Int32) (dtab_at okX10_paired 4 rfl) (by decide) rfl ?_
    refine w_aln (q := 0) (n := 10) hM (dtab_at okX10_paired 5 rfl) rfl rfl ?_
    refine w_geti (C := RX10) (T := TX10) (i := 12) (n := 13) hM rfl (by decide) ly_X10 lkF_X10_161 (dtab_at okX10_paired 6 rfl) rfl ?_
    refine w_ic (n := 14) hM (1 : Int32) (dtab_at okX10_paired 7 rfl) (by decide) rfl ?_
    refine w_isub (n := 15) hM (dtab_at okX10_paired 8 rfl) rfl ?_
    refine w_callSi (n := 18) (As := [vi a2, vi (0 : Int32), vi ((S.1 0 12) - (1 : Int32))]) (rest := []) hM (c_X10_in S a2 (0 : Int32) ((S.1 0 12) - (1 : Int32))) lkM_X10_120 ms_X10_in (by decide) rfl (Nat.le_of_ble_eq_true rfl) rfl (dtab_at okX10_paired 9 rfl) rfl (fun x1 S1 hp1 => ?_)
    obtain ⟨hx_, hs_⟩ := hp1
    have hs_ := hs_.symm
    subst hs_
    subst hx_
    refine w_if_ne (n := 24) (n2 := 21) hM (dtab_at okX10_paired 10 rfl) (by decide) rfl (fun (h18 : ¬ (fX10_in S a2 (0 : Int32) ((S.1 0 12) - (1 : Int32))) = (0 : Int32)) => ?_) (fun (h18 : (fX10_in S a2 (0 : Int32) ((S.1 0 12) - (1 : Int32))) = (0 : Int32)) => ?_)
    · skip
      rw [if_neg h18] at hf
      refine w_aln (q := 0) (n := 25) hM (dtab_at okX10_paired 13 rfl) rfl rfl ?_
      refine w_iln (q := 1) (n := 26) hM (dtab_at okX10_paired 14 rfl) rfl rfl ?_
      obtain ⟨r2, hr2, hf⟩ := Option.bind_eq_some_iff.mp hf
      refine w_callVv (n := 29) (As := [vi a1]) (rest := []) (k := 10) (j := 0) (C := RX10) (T := TX10) (N := 43) hM (c_X10_matches nF S a1 r2 hr2) lkM_X10_172 mv_X10_matches (by decide) rfl (by decide) rfl (Nat.le_of_ble_eq_true rfl) rfl (dtab_at okX10_paired 15 rfl) rfl (fun S2 hp2 => ?_)
      have hs_ := hp2.symm
      subst hs_
      refine w_aln (q := 0) (n := 30) hM (dtab_at okX10_paired 16 rfl) rfl rfl ?_
      refine w_getr (C := RX10) (T := TX10) (i := 17) (k2 := 140) (q := 11) (n := 33) hM rfl (by decide) (fun _ => rfl) ly_X10 lkF_X10_48 (dtab_at okX10_paired 17 rfl) rfl ?_
      refine w_iln (q := 2) (n := 34) hM (dtab_at okX10_paired 18 rfl) rfl rfl ?_
      by_cases hg34 : a2 < 0 ∨ 40 ≤ a2.toNatClampNeg
      · rw [if_pos hg34] at hf; cases hf
      rw [if_neg hg34] at hf
      refine w_ald (nn := 40) (n := 35) hM rfl hg34 (dtab_at okX10_paired 19 rfl) rfl ?_
      exact r_i hM (dtab_at okX10_paired 20 rfl) (Option.some.inj hf)
    · skip
      rw [if_pos h18] at hf
      refine w_bi (n := 23) hM (-2 : Int32) (dtab_at okX10_paired 11 rfl) (by decide) rfl ?_
      exact r_i hM (dtab_at okX10_paired 12 rfl) (Option.some.inj hf)
def fX10_isMark (nF : Nat) (S : PS) (a1 : Int32) (a2 : Int32) : Option (Int32) := (if (fX10_isRun S a1) = (0 : Int32) then (some (0 : Int32)) else (if a1 < 0 ∨ 2 ≤ a1.toNatClampNeg then none else (if (fX10_in S a2 (0 : Int32) ((S.2 12 a1.toNatClampNeg) - (1 : Int32))) = (0 : Int32) then (some (0 : Int32)) else (some (1 : Int32)))))
set_option maxHeartbeats 4000000 in
set_option maxRecDepth 100000 in
theorem c_X10_isMark {cy : ClassId × ClassId} {ad : Nat → Nat} {D : va_G} {l : Launch} (nF : Nat) (S : PS) (a1 : Int32) (a2 : Int32) (r : Int32) (hf : fX10_isMark nF S a1 a2 = some r) : PMi cy GM ad D l yX10_isMark (wA yX10_isMark cX10_isMark 3 (some .boolean)) rmX10_isMark [vr 10 0, vi a1, vi a2] S (fun x S' => x = r ∧ S' = S) := by
  refine PM.of (lv := [(0, vr 10 0), (1, vi a1), (2, vi a2)]) GM_ok (by decide) (Nat.le_of_ble_eq_true rfl) rfl (by simp) ?_
  intro p e s m args below meth c A hM
  rw [fX10_isMark] at hf
  obtain ⟨S0, hS⟩ : ∃ S0 : PS, S = S0 := ⟨S, rfl⟩
  rw [show (fun (x : Int32) (S' : PS) => x = r ∧ S' = S) = (fun x S' => x = r ∧ S' = S0) by rw [hS]]
  refine w_iln (q := 1) (n := 1) hM (dtab_at okX10_isMark 0 rfl) rfl rfl ?_
  refine w_callSi (n := 4) (As := [vi a1]) (rest := []) hM (c_X10_isRun S a1) lkM_X10_153 ms_X10_isRun (by decide) rfl (Nat.le_of_ble_eq_true rfl) rfl (dtab_at okX10_isMark 1 rfl) rfl (fun x0 S0 hp0 => ?_)
  obtain ⟨hx_, hs_⟩ := hp0
  have hs_ := hs_.symm
  subst hs_
  subst hx_
  refine w_if_eq (n := 27) (n2 := 7) hM (dtab_at okX10_isMark 2 rfl) (by decide) rfl (fun (h4 : (fX10_isRun S a1) = (0 : Int32)) => ?_) (fun (h4 : ¬ (fX10_isRun S a1) = (0 : Int32)) => ?_)
  · skip
    rw [if_pos h4] at hf
    refine w_ic (n := 28) hM (0 : Int32) (dtab_at okX10_isMark 15 rfl) (by decide) rfl ?_
    exact r_z hM (by decide) (dtab_at okX10_isMark 16 rfl) ⟨Option.some.inj hf, hS⟩
  · skip
    rw [if_neg h4] at hf
    refine w_iln (q := 2) (n := 8) hM (dtab_at okX10_isMark 3 rfl) rfl rfl ?_
    refine w_ic (n := 9) hM (0 : Int32) (dtab_at okX10_isMark 4 rfl) (by decide) rfl ?_
    refine w_aln (q := 0) (n := 10) hM (dtab_at okX10_isMark 5 rfl) rfl rfl ?_
    refine w_getr (C := RX10) (T := TX10) (i := 18) (k2 := 102) (q := 12) (n := 13) hM rfl (by decide) (fun _ => rfl) ly_X10 lkF_X10_51 (dtab_at okX10_isMark 6 rfl) rfl ?_
    refine w_iln (q := 1) (n := 14) hM (dtab_at okX10_isMark 7 rfl) rfl rfl ?_
    by_cases hg14 : a1 < 0 ∨ 2 ≤ a1.toNatClampNeg
    · rw [if_pos hg14] at hf; cases hf
    rw [if_neg hg14] at hf
    refine w_ald (nn := 2) (n := 15) hM rfl hg14 (dtab_at okX10_isMark 8 rfl) rfl ?_
    refine w_ic (n := 16) hM (1 : Int32) (dtab_at okX10_isMark 9 rfl) (by decide) rfl ?_
    refine w_isub (n := 17) hM (dtab_at okX10_isMark 10 rfl) rfl ?_
    refine w_callSi (n := 20) (As := [vi a2, vi (0 : Int32), vi ((S.2 12 a1.toNatClampNeg) - (1 : Int32))]) (rest := []) hM (c_X10_in S a2 (0 : Int32) ((S.2 12 a1.toNatClampNeg) - (1 : Int32))) lkM_X10_120 ms_X10_in (by decide) rfl (Nat.le_of_ble_eq_true rfl) rfl (dtab_at okX10_isMark 11 rfl) rfl (fun x1 S1 hp1 => ?_)
    obtain ⟨hx_, hs_⟩ := hp1
    have hs_ := hs_.symm
    subst hs_
    subst hx_
    refine w_if_eq (n := 27) (n2 := 23) hM (dtab_at okX10_isMark 12 rfl) (by decide) rfl (fun (h20 : (fX10_in S a2 (0 : Int32) ((S.2 12 a1.toNatClampNeg) - (1 : Int32))) = (0 : Int32)) => ?_) (fun (h20 : ¬ (fX10_in S a2 (0 : Int32) ((S.2 12 a1.toNatClampNeg) - (1 : Int32))) = (0 : Int32)) => ?_)
    · skip
      rw [if_pos h20] at hf
      refine w_ic (n := 28) hM (0 : Int32) (dtab_at okX10_isMark 15 rfl) (by decide) rfl ?_
      exact r_z hM (by decide) (dtab_at okX10_isMark 16 rfl) ⟨Option.some.inj hf, hS⟩
    · skip
      rw [if_neg h20] at hf
      refine w_ic (n := 24) hM (1 : Int32) (dtab_at okX10_isMark 13 rfl) (by decide) rfl ?_
      refine w_goto (n := 28) hM (dtab_at okX10_isMark 14 rfl) (by decide) ?_
      exact r_z hM (by decide) (dtab_at okX10_isMark 16 rfl) ⟨Option.some.inj hf, hS⟩
def fX10_mark (nF : Nat) (S : PS) (a1 : Int32) (a2 : Int32) (a3 : Int32) (a4 : Int32) (a5 : Int32) : Option (Int32 × PS) := (if (fX10_isRun S a1) = (0 : Int32) then (some ((-2 : Int32), S)) else (if (fX10_in S a2 (0 : Int32) (4000000 : Int32)) = (0 : Int32) then (some ((-2 : Int32), S)) else (if (fX10_in S a3 (0 : Int32) (11 : Int32)) = (0 : Int32) then (some ((-2 : Int32), S)) else (if (fX10_in S a4 (0 : Int32) (100 : Int32)) = (0 : Int32) then (some ((-2 : Int32), S)) else (if (fX10_in S a5 (0 : Int32) (10000 : Int32)) = (0 : Int32) then (some ((-2 : Int32), S)) else (if a1 < 0 ∨ 2 ≤ a1.toNatClampNeg then none else (if (S.2 12 a1.toNatClampNeg) = (40 : Int32) then (some ((-3 : Int32), S)) else (if (((40 : Int32) * a1) + (S.2 12 a1.toNatClampNeg)) < 0 ∨ 80 ≤ (((40 : Int32) * a1) + (S.2 12 a1.toNatClampNeg)).toNatClampNeg then none else (some ((((sta (sta (sta (sta (sta S 13 (((40 : Int32) * a1) + (S.2 12 a1.toNatClampNeg)).toNatClampNeg a2) 14 (((40 : Int32) * a1) + (S.2 12 a1.toNatClampNeg)).toNatClampNeg a3) 15 (((40 : Int32) * a1) + (S.2 12 a1.toNatClampNeg)).toNatClampNeg a4) 16 (((40 : Int32) * a1) + (S.2 12 a1.toNatClampNeg)).toNatClampNeg a5) 12 a1.toNatClampNeg ((S.2 12 a1.toNatClampNeg) + (1 : Int32))).2 12 a1.toNatClampNeg) - (1 : Int32)), (sta (sta (sta (sta (sta S 13 (((40 : Int32) * a1) + (S.2 12 a1.toNatClampNeg)).toNatClampNeg a2) 14 (((40 : Int32) * a1) + (S.2 12 a1.toNatClampNeg)).toNatClampNeg a3) 15 (((40 : Int32) * a1) + (S.2 12 a1.toNatClampNeg)).toNatClampNeg a4) 16 (((40 : Int32) * a1) + (S.2 12 a1.toNatClampNeg)).toNatClampNeg a5) 12 a1.toNatClampNeg ((S.2 12 a1.toNatClampNeg) + (1 : Int32)))))))))))))
set_option maxHeartbeats 4000000 in
set_option maxRecDepth 100000 in
theorem c_X10_mark {cy : ClassId × ClassId} {ad : Nat → Nat} {D : va_G} {l : Launch} (nF : Nat) (S : PS) (a1 : Int32) (a2 : Int32) (a3 : Int32) (a4 : Int32) (a5 : Int32) (r : Int32 × PS) (hf : fX10_mark nF S a1 a2 a3 a4 a5 = some r) : PMi cy GM ad D l yX10_mark (wA yX10_mark cX10_mark 7 (some .int)) rmX10_mark [vr 10 0, vi a1, vi a2, vi a3, vi a4, vi a5] S (fun x S' => (x, S') = r) := by
  refine PM.of (lv := [(0, vr 10 0), (1, vi a1), (2, vi a2), (3, vi a3), (4, vi a4), (5, vi a5)]) GM_ok (by decide) (Nat.le_of_ble_eq_true rfl) rfl (by simp) ?_
  intro p e s m args below meth c A hM
  rw [fX10_mark] at hf
  refine w_iln (q := 1) (n := 1) hM (dtab_at okX10_mark 0 rfl) rfl rfl ?_
  refine w_callSi (n := 4) (As := [vi a1]) (rest := []) hM (c_X10_isRun S a1) lkM_X10_153 ms_X10_isRun (by decide) rfl (Nat.le_of_ble_eq_true rfl) rfl (dtab_at okX10_mark 1 rfl) rfl (fun x0 S0 hp0 => ?_)
  obtain ⟨hx_, hs_⟩ := hp0
  have hs_ := hs_.symm
  subst hs_
  subst hx_
  refine w_if_eq (n := 50) (n2 := 7) hM (dtab_at okX10_mark 2 rfl) (by decide) rfl (fun (h4 : (fX10_isRun S a1) = (0 : Int32)) => ?_) (fun (h4 : ¬ (fX10_isRun S a1) = (0 : Int32)) => ?_)
  · skip
    rw [if_pos h4] at hf
    refine w_bi (n := 52) hM (-2 : Int32) (dtab_at okX10_mark 23 rfl) (by decide) rfl ?_
    exact r_i hM (dtab_at okX10_mark 24 rfl) (Option.some.inj hf)
  · skip
    rw [if_neg h4] at hf
    refine w_iln (q := 2) (n := 8) hM (dtab_at okX10_mark 3 rfl) rfl rfl ?_
    refine w_ic (n := 9) hM (0 : Int32) (dtab_at okX10_mark 4 rfl) (by decide) rfl ?_
    refine w_ldc (n := 11) (v := (4000000 : Int32)) hM (dtab_at okX10_mark 5 rfl) lkC_X10_175 rfl ?_
    refine w_callSi (n := 14) (As := [vi a2, vi (0 : Int32), vi (4000000 : Int32)]) (rest := []) hM (c_X10_in S a2 (0 : Int32) (4000000 : Int32)) lkM_X10_120 ms_X10_in (by decide) rfl (Nat.le_of_ble_eq_true rfl) rfl (dtab_at okX10_mark 6 rfl) rfl (fun x1 S1 hp1 => ?_)
    obtain ⟨hx_, hs_⟩ := hp1
    have hs_ := hs_.symm
    subst hs_
    subst hx_
    refine w_if_eq (n := 50) (n2 := 17) hM (dtab_at okX10_mark 7 rfl) (by decide) rfl (fun (h14 : (fX10_in S a2 (0 : Int32) (4000000 : Int32)) = (0 : Int32)) => ?_) (fun (h14 : ¬ (fX10_in S a2 (0 : Int32) (4000000 : Int32)) = (0 : Int32)) => ?_)
    · skip
      rw [if_pos h14] at hf
      refine w_bi (n := 52) hM (-2 : Int32) (dtab_at okX10_mark 23 rfl) (by decide) rfl ?_
      exact r_i hM (dtab_at okX10_mark 24 rfl) (Option.some.inj hf)
    · skip
      rw [if_neg h14] at hf
      refine w_iln (q := 3) (n := 18) hM (dtab_at okX10_mark 8 rfl) rfl rfl ?_
      refine w_ic (n := 19) hM (0 : Int32) (dtab_at okX10_mark 9 rfl) (by decide) rfl ?_
      refine w_bi (n := 21) hM (11 : Int32) (dtab_at okX10_mark 10 rfl) (by decide) rfl ?_
      refine w_callSi (n := 24) (As := [vi a3, vi (0 : Int32), vi (11 : Int32)]) (rest := []) hM (c_X10_in S a3 (0 : Int32) (11 : Int32)) lkM_X10_120 ms_X10_in (by decide) rfl (Nat.le_of_ble_eq_true rfl) rfl (dtab_at okX10_mark 11 rfl) rfl (fun x2 S2 hp2 => ?_)
      obtain ⟨hx_, hs_⟩ := hp2
      have hs_ := hs_.symm
      subst hs_
      subst hx_
      refine w_if_eq (n := 50) (n2 := 27) hM (dtab_at okX10_mark 12 rfl) (by decide) rfl (fun (h24 : (fX10_in S a3 (0 : Int32) (11 : Int32)) = (0 : Int32)) => ?_) (fun (h24 : ¬ (fX10_in S a3 (0 : Int32) (11 : Int32)) = (0 : Int32)) => ?_)
      · skip
        rw [if_pos h24] at hf
        refine w_bi (n := 52) hM (-2 : Int32) (dtab_at okX10_mark 23 rfl) (by decide) rfl ?_
        exact r_i hM (dtab_at okX10_mark 24 rfl) (Option.some.inj hf)
      · skip
        rw [if_neg h24] at hf
        refine w_il (q := 4) (n := 29) hM (dtab_at okX10_mark 13 rfl) rfl rfl ?_
        refine w_ic (n := 30) hM (0 : Int32) (dtab_at okX10_mark 14 rfl) (by decide) rfl ?_
        refine w_bi (n := 32) hM (100 : Int32) (dtab_at okX10_mark 15 rfl) (by decide) rfl ?_
        refine w_callSi (n := 35) (As := [vi a4, vi (0 : Int32), vi (100 : Int32)]) (rest := []) hM (c_X10_in S a4 (0 : Int32) (100 : Int32)) lkM_X10_120 ms_X10_in (by decide) rfl (Nat.le_of_ble_eq_true rfl) rfl (dtab_at okX10_mark 16 rfl) rfl (fun x3 S3 hp3 => ?_)
        obtain ⟨hx_, hs_⟩ := hp3
        have hs_ := hs_.symm
        subst hs_
        subst hx_
        refine w_if_eq (n := 50) (n2 := 38) hM (dtab_at okX10_mark 17 rfl) (by decide) rfl (fun (h35 : (fX10_in S a4 (0 : Int32) (100 : Int32)) = (0 : Int32)) => ?_) (fun (h35 : ¬ (fX10_in S a4 (0 : Int32) (100 : Int32)) = (0 : Int32)) => ?_)
        · skip
          rw [if_pos h35] at hf
          refine w_bi (n := 52) hM (-2 : Int32) (dtab_at okX10_mark 23 rfl) (by decide) rfl ?_
          exact r_i hM (dtab_at okX10_mark 24 rfl) (Option.some.inj hf)
        · skip
          rw [if_neg h35] at hf
          refine w_il (q := 5) (n := 40) hM (dtab_at okX10_mark 18 rfl) rfl rfl ?_
          refine w_ic (n := 41) hM (0 : Int32) (dtab_at okX10_mark 19 rfl) (by decide) rfl ?_
          refine w_si (n := 44) hM (10000 : Int32) (dtab_at okX10_mark 20 rfl) (by decide) rfl ?_
          refine w_callSi (n := 47) (As := [vi a5, vi (0 : Int32), vi (10000 : Int32)]) (rest := []) hM (c_X10_in S a5 (0 : Int32) (10000 : Int32)) lkM_X10_120 ms_X10_in (by decide) rfl (Nat.le_of_ble_eq_true rfl) rfl (dtab_at okX10_mark 21 rfl) rfl (fun x4 S4 hp4 => ?_)
          obtain ⟨hx_, hs_⟩ := hp4
          have hs_ := hs_.symm
          subst hs_
          subst hx_
          refine w_if_ne (n := 53) (n2 := 50) hM (dtab_at okX10_mark 22 rfl) (by decide) rfl (fun (h47 : ¬ (fX10_in S a5 (0 : Int32) (10000 : Int32)) = (0 : Int32)) => ?_) (fun (h47 : (fX10_in S a5 (0 : Int32) (10000 : Int32)) = (0 : Int32)) => ?_)
          · skip
            rw [if_neg h47] at hf
            refine w_aln (q := 0) (n := 54) hM (dtab_at okX10_mark 25 rfl) rfl rfl ?_
            refine w_getr (C := RX10) (T := TX10) (i := 18) (k2 := 102) (q := 12) (n := 57) hM rfl (by decide) (fun _ => rfl) ly_X10 lkF_X10_51 (dtab_at okX10_mark 26 rfl) rfl ?_
            refine w_iln (q := 1) (n := 58) hM (dtab_at okX10_mark 27 rfl) rfl rfl ?_
            by_cases hg58 : a1 < 0 ∨ 2 ≤ a1.toNatClampNeg
            · rw [if_pos hg58] at hf; cases hf
            rw [if_neg hg58] at hf
            refine w_ald (nn := 2) (n := 59) hM rfl hg58 (dtab_at okX10_mark 28 rfl) rfl ?_
            refine w_bi (n := 61) hM (40 : Int32) (dtab_at okX10_mark 29 rfl) (by decide) rfl ?_
            refine w_ic_ne (n := 67) (n2 := 64) hM (dtab_at okX10_mark 30 rfl) (by decide) rfl (fun (h61 : ¬ (S.2 12 a1.toNatClampNeg) = (40 : Int32)) => ?_) (fun (h61 : (S.2 12 a1.toNatClampNeg) = (40 : Int32)) => ?_)
            · skip
              rw [if_neg h61] at hf
              refine w_bi (n := 69) hM (40 : Int32) (dtab_at okX10_mark 33 rfl) (by decide) rfl ?_
              refine w_iln (q := 1) (n := 70) hM (dtab_at okX10_mark 34 rfl) rfl rfl ?_
              refine w_imul (n := 71) hM (dtab_at okX10_mark 35 rfl) rfl ?_
              refine w_aln (q := 0) (n := 72) hM (dtab_at okX10_mark 36 rfl) rfl rfl ?_
              refine w_getr (C := RX10) (T := TX10) (i := 18) (k2 := 102) (q := 12) (n := 75) hM rfl (by decide) (fun _ => rfl) ly_X10 lkF_X10_51 (dtab_at okX10_mark 37 rfl) rfl ?_
              refine w_iln (q := 1) (n := 76) hM (dtab_at okX10_mark 38 rfl) rfl rfl ?_
              refine w_ald (nn := 2) (n := 77) hM rfl hg58 (dtab_at okX10_mark 39 rfl) rfl ?_
              refine w_iadd (n := 78) hM (dtab_at okX10_mark 40 rfl) rfl ?_
              refine w_is (n := 80) (lv' := [(6, vi (((40 : Int32) * a1) + (S.2 12 a1.toNatClampNeg))), (0, vr 10 0), (1, vi a1), (2, vi a2), (3, vi a3), (4, vi a4), (5, vi a5)]) hM (dtab_at okX10_mark 41 rfl) (by decide) rfl rfl ?_
              refine w_aln (q := 1) (n := 81) hM (dtab_at okX10_mark 42 rfl) rfl rfl ?_
              refine w_getr (C := RX10) (T := TX10) (i := 19) (k2 := 180) (q := 13) (n := 84) hM rfl (by decide) (fun _ => rfl) ly_X10 lkF_X10_54 (dtab_at okX10_mark 43 rfl) rfl ?_
              refine w_il (q := 0) (n := 86) hM (dtab_at okX10_mark 44 rfl) rfl rfl ?_
              refine w_iln (q := 3) (n := 87) hM (dtab_at okX10_mark 45 rfl) rfl rfl ?_
              by_cases hg87 : (((40 : Int32) * a1) + (S.2 12 a1.toNatClampNeg)) < 0 ∨ 80 ≤ (((40 : Int32) * a1) + (S.2 12 a1.toNatClampNeg)).toNatClampNeg
              · rw [if_pos hg87] at hf; cases hf
              rw [if_neg hg87] at hf
              refine w_ast (nn := 80) (n := 88) hM rfl hg87 (dtab_at okX10_mark 46 rfl) rfl ?_
              refine w_aln (q := 1) (n := 89) hM (dtab_at okX10_mark 47 rfl) rfl rfl ?_
              refine w_getr (C := RX10) (T := TX10) (i := 20) (k2 := 180) (q := 14) (n := 92) hM rfl (by decide) (fun _ => rfl) ly_X10 lkF_X10_57 (dtab_at okX10_mark 48 rfl) rfl ?_
              refine w_il (q := 0) (n := 94) hM (dtab_at okX10_mark 49 rfl) rfl rfl ?_
              refine w_iln (q := 4) (n := 95) hM (dtab_at okX10_mark 50 rfl) rfl rfl ?_
              refine w_ast (nn := 80) (n := 96) hM rfl hg87 (dtab_at okX10_mark 51 rfl) rfl ?_
              refine w_aln (q := 1) (n := 97) hM (dtab_at okX10_mark 52 rfl) rfl rfl ?_
              refine w_getr (C := RX10) (T := TX10) (i := 21) (k2 := 180) (q := 15) (n := 100) hM rfl (by decide) (fun _ => rfl) ly_X10 lkF_X10_60 (dtab_at okX10_mark 53 rfl) rfl ?_
              refine w_il (q := 0) (n := 102) hM (dtab_at okX10_mark 54 rfl) rfl rfl ?_
              refine w_il (q := 5) (n := 104) hM (dtab_at okX10_mark 55 rfl) rfl rfl ?_
              refine w_ast (nn := 80) (n := 105) hM rfl hg87 (dtab_at okX10_mark 56 rfl) rfl ?_
              refine w_aln (q := 1) (n := 106) hM (dtab_at okX10_mark 57 rfl) rfl rfl ?_
              refine w_getr (C := RX10) (T := TX10) (i := 22) (k2 := 180) (q := 16) (n := 109) hM rfl (by decide) (fun _ => rfl) ly_X10 lkF_X10_63 (dtab_at okX10_mark 58 rfl) rfl ?_
              refine w_il (q := 0) (n := 111) hM (dtab_at okX10_mark 59 rfl) rfl rfl ?_
              refine w_il (q := 6) (n := 113) hM (dtab_at okX10_mark 60 rfl) rfl rfl ?_
              refine w_ast (nn := 80) (n := 114) hM rfl hg87 (dtab_at okX10_mark 61 rfl) rfl ?_
              refine w_aln (q := 1) (n := 115) hM (dtab_at okX10_mark 62 rfl) rfl rfl ?_
              refine w_getr (C := RX10) (T := TX10) (i := 18) (k2 := 102) (q := 12) (n := 118) hM rfl (by decide) (fun _ => rfl) ly_X10 lkF_X10_51 (dtab_at okX10_mark 63 rfl) rfl ?_
              refine w_iln (q := 2) (n := 119) hM (dtab_at okX10_mark 64 rfl) rfl rfl ?_
              refine w_dup2 (n := 120) hM (dtab_at okX10_mark 65 rfl) rfl rfl rfl ?_
              refine w_ald (nn := 2) (n := 121) hM rfl hg58 (dtab_at okX10_mark 66 rfl) rfl ?_
              refine w_ic (n := 122) hM (1 : Int32) (dtab_at okX10_mark 67 rfl) (by decide) rfl ?_
              refine w_iadd (n := 123) hM (dtab_at okX10_mark 68 rfl) rfl ?_
              refine w_ast (nn := 2) (n := 124) hM rfl hg58 (dtab_at okX10_mark 69 rfl) rfl ?_
              refine w_aln (q := 1) (n := 125) hM (dtab_at okX10_mark 70 rfl) rfl rfl ?_
              refine w_getr (C := RX10) (T := TX10) (i := 18) (k2 := 102) (q := 12) (n := 128) hM rfl (by decide) (fun _ => rfl) ly_X10 lkF_X10_51 (dtab_at okX10_mark 71 rfl) rfl ?_
              refine w_iln (q := 2) (n := 129) hM (dtab_at okX10_mark 72 rfl) rfl rfl ?_
              refine w_ald (nn := 2) (n := 130) hM rfl hg58 (dtab_at okX10_mark 73 rfl) rfl ?_
              refine w_ic (n := 131) hM (1 : Int32) (dtab_at okX10_mark 74 rfl) (by decide) rfl ?_
              refine w_isub (n := 132) hM (dtab_at okX10_mark 75 rfl) rfl ?_
              exact r_i hM (dtab_at okX10_mark 76 rfl) (Option.some.inj hf)
            · skip
              rw [if_pos h61] at hf
              refine w_bi (n := 66) hM (-3 : Int32) (dtab_at okX10_mark 31 rfl) (by decide) rfl ?_
              exact r_i hM (dtab_at okX10_mark 32 rfl) (Option.some.inj hf)
          · skip
            rw [if_pos h47] at hf
            refine w_bi (n := 52) hM (-2 : Int32) (dtab_at okX10_mark 23 rfl) (by decide) rfl ?_
            exact r_i hM (dtab_at okX10_mark 24 rfl) (Option.some.inj hf)
def fX10_clear (nF : Nat) (S : PS) (a1 : Int32) : Option (Int32 × PS) := (if (fX10_isRun S a1) = (0 : Int32) then (some ((-2 : Int32), S)) else (if a1 < 0 ∨ 2 ≤ a1.toNatClampNeg then none else (some ((S.2 12 a1.toNatClampNeg), (sta S 12 a1.toNatClampNeg (0 : Int32))))))
set_option maxHeartbeats 4000000 in
set_option maxRecDepth 100000 in
theorem c_X10_clear {cy : ClassId × ClassId} {ad : Nat → Nat} {D : va_G} {l : Launch} (nF : Nat) (S : PS) (a1 : Int32) (r : Int32 × PS) (hf : fX10_clear nF S a1 = some r) : PMi cy GM ad D l yX10_clear (wA yX10_clear cX10_clear 3 (some .int)) rmX10_clear [vr 10 0, vi a1] S (fun x S' => (x, S') = r) := by
  refine PM.of (lv := [(0, vr 10 0), (1, vi a1)]) GM_ok (by decide) (Nat.le_of_ble_eq_true rfl) rfl (by simp) ?_
  intro p e s m args below meth c A hM
  rw [fX10_clear] at hf
  refine w_iln (q := 1) (n := 1) hM (dtab_at okX10_clear 0 rfl) rfl rfl ?_
  refine w_callSi (n := 4) (As := [vi a1]) (rest := []) hM (c_X10_isRun S a1) lkM_X10_153 ms_X10_isRun (by decide) rfl (Nat.le_of_ble_eq_true rfl) rfl (dtab_at okX10_clear 1 rfl) rfl (fun x0 S0 hp0 => ?_)
  obtain ⟨hx_, hs_⟩ := hp0
  have hs_ := hs_.symm
  subst hs_
  subst hx_
  refine w_if_ne (n := 10) (n2 := 7) hM (dtab_at okX10_clear 2 rfl) (by decide) rfl (fun (h4 : ¬ (fX10_isRun S a1) = (0 : Int32)) => ?_) (fun (h4 : (fX10_isRun S a1) = (0 : Int32)) => ?_)
  · skip
    rw [if_neg h4] at hf
    refine w_aln (q := 0) (n := 11) hM (dtab_at okX10_clear 5 rfl) rfl rfl ?_
    refine w_getr (C := RX10) (T := TX10) (i := 18) (k2 := 102) (q := 12) (n := 14) hM rfl (by decide) (fun _ => rfl) ly_X10 lkF_X10_51 (dtab_at okX10_clear 6 rfl) rfl ?_
    refine w_iln (q := 1) (n := 15) hM (dtab_at okX10_clear 7 rfl) rfl rfl ?_
    by_cases hg15 : a1 < 0 ∨ 2 ≤ a1.toNatClampNeg
    · rw [if_pos hg15] at hf; cases hf
    rw [if_neg hg15] at hf
    refine w_ald (nn := 2) (n := 16) hM rfl hg15 (dtab_at okX10_clear 8 rfl) rfl ?_
    refine w_isn (n := 17) (lv' := [(2, vi (S.2 12 a1.toNatClampNeg)), (0, vr 10 0), (1, vi a1)]) hM (dtab_at okX10_clear 9 rfl) (by decide) rfl rfl ?_
    refine w_aln (q := 1) (n := 18) hM (dtab_at okX10_clear 10 rfl) rfl rfl ?_
    refine w_getr (C := RX10) (T := TX10) (i := 18) (k2 := 102) (q := 12) (n := 21) hM rfl (by decide) (fun _ => rfl) ly_X10 lkF_X10_51 (dtab_at okX10_clear 11 rfl) rfl ?_
    refine w_iln (q := 2) (n := 22) hM (dtab_at okX10_clear 12 rfl) rfl rfl ?_
    refine w_ic (n := 23) hM (0 : Int32) (dtab_at okX10_clear 13 rfl) (by decide) rfl ?_
    refine w_ast (nn := 2) (n := 24) hM rfl hg15 (dtab_at okX10_clear 14 rfl) rfl ?_
    refine w_iln (q := 0) (n := 25) hM (dtab_at okX10_clear 15 rfl) rfl rfl ?_
    exact r_i hM (dtab_at okX10_clear 16 rfl) (Option.some.inj hf)
  · skip
    rw [if_pos h4] at hf
    refine w_bi (n := 9) hM (-2 : Int32) (dtab_at okX10_clear 3 rfl) (by decide) rfl ?_
    exact r_i hM (dtab_at okX10_clear 4 rfl) (Option.some.inj hf)
def LX10_jointAt_2 (nF : Nat) : Nat → PS → Int32 → Int32 → Option (Int32)
  | 0, _, _, _ => none
  | n + 1, S, v1, v2 => (if (S.1 0 9) ≤ v2 then (some (-1 : Int32)) else (if v2 < 0 ∨ 60 ≤ v2.toNatClampNeg then none else (if (fX10_in S v1 (S.2 7 v2.toNatClampNeg) (((S.2 7 v2.toNatClampNeg) + (S.2 8 v2.toNatClampNeg)) - (1 : Int32))) = (0 : Int32) then (LX10_jointAt_2 nF n S v1 (v2 + (1 : Int32))) else (some v2))))
set_option maxHeartbeats 4000000 in
set_option maxRecDepth 100000 in
theorem wLX10_jointAt_2 {cy : ClassId × ClassId} {ad : Nat → Nat} {D : va_G} {p : Program} {l : Launch} {e : Env} {s : State} {m : MethodId} {args : Array Value} {below : List Frame} {meth : Method} {c : Code} {A : Nat → Prop} (hM : MX cy GM ad D p s m args meth c cX10_jointAt 3 RX10 (some .int) A) (nF : Nat) (S0 : PS) (r : Int32) : ∀ (n : Nat) (S : PS) (v1 : Int32) (v2 : Int32), S = S0 → LX10_jointAt_2 nF n S v1 v2 = some r → WW cy GM ad D p l e rmX10_jointAt s m args below meth c 3 A (poi (fun x S' => x = r ∧ S' = S0)) 2 [(0, vr 10 0), (1, vi v1), (2, vi v2)] [] S := by
  intro n
  induction n with
  | zero => intro S v1 v2 hS hf; rw [LX10_jointAt_2] at hf; cases hf
  | succ n ih =>
    intro S v1 v2 hS hf
    rw [LX10_jointAt_2] at hf
    refine w_iln (q := 2) (n := 3) hM (dtab_at okX10_jointAt 2 rfl) rfl rfl ?_
    refine w_aln (q := 0) (n := 4) hM (dtab_at okX10_jointAt 3 rfl) rfl rfl ?_
    refine w_geti (C := RX10) (T := TX10) (i := 9) (n := 7) hM rfl (by decide) ly_X10 lkF_X10_143 (dtab_at okX10_jointAt 4 rfl) rfl ?_
    refine w_ic_ge (n := 46) (n2 := 10) hM (dtab_at okX10_jointAt 5 rfl) (by decide) rfl (fun (h7 : (S.1 0 9) ≤ v2) => ?_) (fun (h7 : ¬ (S.1 0 9) ≤ v2) => ?_)
    · skip
      rw [if_pos h7] at hf
      refine w_ic (n := 47) hM (-1 : Int32) (dtab_at okX10_jointAt 28 rfl) (by decide) rfl ?_
      exact r_i hM (dtab_at okX10_jointAt 29 rfl) ⟨Option.some.inj hf, hS⟩
    · skip
      rw [if_neg h7] at hf
      refine w_iln (q := 1) (n := 11) hM (dtab_at okX10_jointAt 6 rfl) rfl rfl ?_
      refine w_aln (q := 0) (n := 12) hM (dtab_at okX10_jointAt 7 rfl) rfl rfl ?_
      refine w_getr (C := RX10) (T := TX10) (i := 10) (k2 := 160) (q := 7) (n := 15) hM rfl (by decide) (fun _ => rfl) ly_X10 lkF_X10_29 (dtab_at okX10_jointAt 8 rfl) rfl ?_
      refine w_iln (q := 2) (n := 16) hM (dtab_at okX10_jointAt 9 rfl) rfl rfl ?_
      by_cases hg16 : v2 < 0 ∨ 60 ≤ v2.toNatClampNeg
      · rw [if_pos hg16] at hf; cases hf
      rw [if_neg hg16] at hf
      refine w_ald (nn := 60) (n := 17) hM rfl hg16 (dtab_at okX10_jointAt 10 rfl) rfl ?_
      refine w_aln (q := 0) (n := 18) hM (dtab_at okX10_jointAt 11 rfl) rfl rfl ?_
      refine w_getr (C := RX10) (T := TX10) (i := 10) (k2 := 160) (q := 7) (n := 21) hM rfl (by decide) (fun _ => rfl) ly_X10 lkF_X10_29 (dtab_at okX10_jointAt 12 rfl) rfl ?_
      refine w_iln (q := 2) (n := 22) hM (dtab_at okX10_jointAt 13 rfl) rfl rfl ?_
      refine w_ald (nn := 60) (n := 23) hM rfl hg16 (dtab_at okX10_jointAt 14 rfl) rfl ?_
      refine w_aln (q := 0) (n := 24) hM (dtab_at okX10_jointAt 15 rfl) rfl rfl ?_
      refine w_getr (C := RX10) (T := TX10) (i := 11) (k2 := 160) (q := 8) (n := 27) hM rfl (by decide) (fun _ => rfl) ly_X10 lkF_X10_32 (dtab_at okX10_jointAt 16 rfl) rfl ?_
      refine w_iln (q := 2) (n := 28) hM (dtab_at okX10_jointAt 17 rfl) rfl rfl ?_
      refine w_ald (nn := 60) (n := 29) hM rfl hg16 (dtab_at okX10_jointAt 18 rfl) rfl ?_
      refine w_iadd (n := 30) hM (dtab_at okX10_jointAt 19 rfl) rfl ?_
      refine w_ic (n := 31) hM (1 : Int32) (dtab_at okX10_jointAt 20 rfl) (by decide) rfl ?_
      refine w_isub (n := 32) hM (dtab_at okX10_jointAt 21 rfl) rfl ?_
      refine w_callSi (n := 35) (As := [vi v1, vi (S.2 7 v2.toNatClampNeg), vi (((S.2 7 v2.toNatClampNeg) + (S.2 8 v2.toNatClampNeg)) - (1 : Int32))]) (rest := []) hM (c_X10_in S v1 (S.2 7 v2.toNatClampNeg) (((S.2 7 v2.toNatClampNeg) + (S.2 8 v2.toNatClampNeg)) - (1 : Int32))) lkM_X10_120 ms_X10_in (by decide) rfl (Nat.le_of_ble_eq_true rfl) rfl (dtab_at okX10_jointAt 22 rfl) rfl (fun x0 S0 hp0 => ?_)
      obtain ⟨hx_, hs_⟩ := hp0
      have hs_ := hs_.symm
      subst hs_
      subst hx_
      refine w_if_eq (n := 40) (n2 := 38) hM (dtab_at okX10_jointAt 23 rfl) (by decide) rfl (fun (h35 : (fX10_in S v1 (S.2 7 v2.toNatClampNeg) (((S.2 7 v2.toNatClampNeg) + (S.2 8 v2.toNatClampNeg)) - (1 : Int32))) = (0 : Int32)) => ?_) (fun (h35 : ¬ (fX10_in S v1 (S.2 7 v2.toNatClampNeg) (((S.2 7 v2.toNatClampNeg) + (S.2 8 v2.toNatClampNeg)) - (1 : Int32))) = (0 : Int32)) => ?_)
      · skip
        rw [if_pos h35] at hf
        refine w_iinc (q := 2) (n := 43) (v := (v2 + (1 : Int32))) (lv' := [(2, vi (v2 + (1 : Int32))), (0, vr 10 0), (1, vi v1)]) hM (dtab_at okX10_jointAt 26 rfl) rfl rfl (by decide) rfl rfl ?_
        refine w_goto (n := 2) hM (dtab_at okX10_jointAt 27 rfl) (by decide) ?_
        refine WW.lvs [1, 2, 0] (lv2 := [(0, vr 10 0), (1, vi v1), (2, vi (v2 + (1 : Int32)))]) rfl ?_
        exact ih S v1 (v2 + (1 : Int32)) hS hf
      · skip
        rw [if_neg h35] at hf
        refine w_iln (q := 2) (n := 39) hM (dtab_at okX10_jointAt 24 rfl) rfl rfl ?_
        exact r_i hM (dtab_at okX10_jointAt 25 rfl) ⟨Option.some.inj hf, hS⟩
def fX10_jointAt (nF : Nat) (S : PS) (a1 : Int32) : Option (Int32) := (LX10_jointAt_2 nF nF S a1 (0 : Int32))
set_option maxHeartbeats 4000000 in
set_option maxRecDepth 100000 in
theorem c_X10_jointAt {cy : ClassId × ClassId} {ad : Nat → Nat} {D : va_G} {l : Launch} (nF : Nat) (S : PS) (a1 : Int32) (r : Int32) (hf : fX10_jointAt nF S a1 = some r) : PMi cy GM ad D l yX10_jointAt (wA yX10_jointAt cX10_jointAt 3 (some .int)) rmX10_jointAt [vr 10 0, vi a1] S (fun x S' => x = r ∧ S' = S) := by
  refine PM.of (lv := [(0, vr 10 0), (1, vi a1)]) GM_ok (by decide) (Nat.le_of_ble_eq_true rfl) rfl (by simp) ?_
  intro p e s m args below meth c A hM
  rw [fX10_jointAt] at hf
  obtain ⟨S0, hS⟩ : ∃ S0 : PS, S = S0 := ⟨S, rfl⟩
  rw [show (fun (x : Int32) (S' : PS) => x = r ∧ S' = S) = (fun x S' => x = r ∧ S' = S0) by rw [hS]]
  refine w_ic (n := 1) hM (0 : Int32) (dtab_at okX10_jointAt 0 rfl) (by decide) rfl ?_
  refine w_isn (n := 2) (lv' := [(2, vi (0 : Int32)), (0, vr 10 0), (1, vi a1)]) hM (dtab_at okX10_jointAt 1 rfl) (by decide) rfl rfl ?_
  refine WW.lvs [1, 2, 0] (lv2 := [(0, vr 10 0), (1, vi a1), (2, vi (0 : Int32))]) rfl ?_
  exact wLX10_jointAt_2 hM nF S0 r nF S a1 (0 : Int32) hS hf
def fX10_hours (S : PS) (a1 : Int32) (a2 : Int32) : Int32 := if (fX10_apart S a1 a2) ≤ (6 : Int32) then (fX10_apart S a1 a2) else ((12 : Int32) - (fX10_apart S a1 a2))
set_option maxHeartbeats 4000000 in
set_option maxRecDepth 100000 in
theorem c_X10_hours {cy : ClassId × ClassId} {ad : Nat → Nat} {D : va_G} {l : Launch} (S : PS) (a1 : Int32) (a2 : Int32)  : PMi cy GM ad D l yX10_hours (wA yX10_hours cX10_hours 3 (some .int)) rmX10_hours [vi a1, vi a2] S (fun x S' => x = (fX10_hours S a1 a2) ∧ S' = S) := by
  refine PM.of (lv := [(0, vi a1), (1, vi a2)]) GM_ok (by decide) (Nat.le_of_ble_eq_true rfl) rfl (by simp) ?_
  intro p e s m args below meth c A hM
  refine w_iln (q := 0) (n := 1) hM (dtab_at okX10_hours 0 rfl) rfl rfl ?_
  refine w_iln (q := 1) (n := 2) hM (dtab_at okX10_hours 1 rfl) rfl rfl ?_
  refine w_callSi (n := 5) (As := [vi a1, vi a2]) (rest := []) hM (c_X10_apart S a1 a2) lkM_X10_165 ms_X10_apart (by decide) rfl (Nat.le_of_ble_eq_true rfl) rfl (dtab_at okX10_hours 2 rfl) rfl (fun x0 S0 hp0 => ?_)
  obtain ⟨hx_, hs_⟩ := hp0
  have hs_ := hs_.symm
  subst hs_
  subst hx_
  refine w_isn (n := 6) (lv' := [(2, vi (fX10_apart S a1 a2)), (0, vi a1), (1, vi a2)]) hM (dtab_at okX10_hours 3 rfl) (by decide) rfl rfl ?_
  refine w_iln (q := 0) (n := 7) hM (dtab_at okX10_hours 4 rfl) rfl rfl ?_
  refine w_bi (n := 9) hM (6 : Int32) (dtab_at okX10_hours 5 rfl) (by decide) rfl ?_
  refine w_ic_le (n := 19) (n2 := 12) hM (dtab_at okX10_hours 6 rfl) (by decide) rfl (fun (h9 : (fX10_apart S a1 a2) ≤ (6 : Int32)) => ?_) (fun (h9 : ¬ (fX10_apart S a1 a2) ≤ (6 : Int32)) => ?_)
  · skip
    refine w_iln (q := 0) (n := 20) hM (dtab_at okX10_hours 11 rfl) rfl rfl ?_
    exact r_i hM (dtab_at okX10_hours 12 rfl) ⟨by rw [fX10_hours, if_pos h9], rfl⟩
  · skip
    refine w_bi (n := 14) hM (12 : Int32) (dtab_at okX10_hours 7 rfl) (by decide) rfl ?_
    refine w_iln (q := 0) (n := 15) hM (dtab_at okX10_hours 8 rfl) rfl rfl ?_
    refine w_isub (n := 16) hM (dtab_at okX10_hours 9 rfl) rfl ?_
    refine w_goto (n := 20) hM (dtab_at okX10_hours 10 rfl) (by decide) ?_
    exact r_i hM (dtab_at okX10_hours 12 rfl) ⟨by rw [fX10_hours, if_neg h9], rfl⟩
def BX10_areNear_55 (nF : Nat) (S : PS) (v1 : Int32) (v2 : Int32) (t0 : Int32) : Option (Int32) := (if (S.1 0 23) < t0 then (some (0 : Int32)) else (if v1 < 0 ∨ 80 ≤ v1.toNatClampNeg then none else (if v2 < 0 ∨ 80 ≤ v2.toNatClampNeg then none else (if (S.1 0 24) < (fX10_hours S (S.2 14 v1.toNatClampNeg) (S.2 14 v2.toNatClampNeg)) then (some (0 : Int32)) else (some (1 : Int32))))))
set_option maxHeartbeats 4000000 in
set_option maxRecDepth 100000 in
theorem wBX10_areNear_55 {cy : ClassId × ClassId} {ad : Nat → Nat} {D : va_G} {p : Program} {l : Launch} {e : Env} {s : State} {m : MethodId} {args : Array Value} {below : List Frame} {meth : Method} {c : Code} {A : Nat → Prop} (hM : MX cy GM ad D p s m args meth c cX10_areNear 6 RX10 (some .boolean) A) (nF : Nat) (S0 : PS) (r : Int32) (S : PS) (v1 : Int32) (v2 : Int32) (t0 : Int32) (hS : S = S0) (hf : BX10_areNear_55 nF S v1 v2 t0 = some r) : WW cy GM ad D p l e rmX10_areNear s m args below meth c 6 A (poi (fun x S' => x = r ∧ S' = S0)) 55 [(0, vr 10 0), (1, vi v1), (2, vi v2)] [vi t0] S := by
  rw [BX10_areNear_55] at hf
  refine w_is (n := 57) (lv' := [(5, vi t0), (0, vr 10 0), (1, vi v1), (2, vi v2)]) hM (dtab_at okX10_areNear 36 rfl) (by decide) rfl rfl ?_
  refine w_il (q := 0) (n := 59) hM (dtab_at okX10_areNear 37 rfl) rfl rfl ?_
  refine w_aln (q := 1) (n := 60) hM (dtab_at okX10_areNear 38 rfl) rfl rfl ?_
  refine w_geti (C := RX10) (T := TX10) (i := 23) (n := 63) hM rfl (by decide) ly_X10 lkF_X10_66 (dtab_at okX10_areNear 39 rfl) rfl ?_
  refine w_ic_gt (n := 92) (n2 := 66) hM (dtab_at okX10_areNear 40 rfl) (by decide) rfl (fun (h63 : (S.1 0 23) < t0) => ?_) (fun (h63 : ¬ (S.1 0 23) < t0) => ?_)
  · skip
    rw [if_pos h63] at hf
    refine w_ic (n := 93) hM (0 : Int32) (dtab_at okX10_areNear 55 rfl) (by decide) rfl ?_
    exact r_z hM (by decide) (dtab_at okX10_areNear 56 rfl) ⟨Option.some.inj hf, hS⟩
  · skip
    rw [if_neg h63] at hf
    refine w_aln (q := 1) (n := 67) hM (dtab_at okX10_areNear 41 rfl) rfl rfl ?_
    refine w_getr (C := RX10) (T := TX10) (i := 20) (k2 := 180) (q := 14) (n := 70) hM rfl (by decide) (fun _ => rfl) ly_X10 lkF_X10_57 (dtab_at okX10_areNear 42 rfl) rfl ?_
    refine w_iln (q := 2) (n := 71) hM (dtab_at okX10_areNear 43 rfl) rfl rfl ?_
    by_cases hg71 : v1 < 0 ∨ 80 ≤ v1.toNatClampNeg
    · rw [if_pos hg71] at hf; cases hf
    rw [if_neg hg71] at hf
    refine w_ald (nn := 80) (n := 72) hM rfl hg71 (dtab_at okX10_areNear 44 rfl) rfl ?_
    refine w_aln (q := 1) (n := 73) hM (dtab_at okX10_areNear 45 rfl) rfl rfl ?_
    refine w_getr (C := RX10) (T := TX10) (i := 20) (k2 := 180) (q := 14) (n := 76) hM rfl (by decide) (fun _ => rfl) ly_X10 lkF_X10_57 (dtab_at okX10_areNear 46 rfl) rfl ?_
    refine w_iln (q := 3) (n := 77) hM (dtab_at okX10_areNear 47 rfl) rfl rfl ?_
    by_cases hg77 : v2 < 0 ∨ 80 ≤ v2.toNatClampNeg
    · rw [if_pos hg77] at hf; cases hf
    rw [if_neg hg77] at hf
    refine w_ald (nn := 80) (n := 78) hM rfl hg77 (dtab_at okX10_areNear 48 rfl) rfl ?_
    refine w_callSi (n := 81) (As := [vi (S.2 14 v1.toNatClampNeg), vi (S.2 14 v2.toNatClampNeg)]) (rest := []) hM (c_X10_hours S (S.2 14 v1.toNatClampNeg) (S.2 14 v2.toNatClampNeg)) lkM_X10_176 ms_X10_hours (by decide) rfl (Nat.le_of_ble_eq_true rfl) rfl (dtab_at okX10_areNear 49 rfl) rfl (fun x0 S0 hp0 => ?_)
    obtain ⟨hx_, hs_⟩ := hp0
    have hs_ := hs_.symm
    subst hs_
    subst hx_
    refine w_aln (q := 1) (n := 82) hM (dtab_at okX10_areNear 50 rfl) rfl rfl ?_
    refine w_geti (C := RX10) (T := TX10) (i := 24) (n := 85) hM rfl (by decide) ly_X10 lkF_X10_69 (dtab_at okX10_areNear 51 rfl) rfl ?_
    refine w_ic_gt (n := 92) (n2 := 88) hM (dtab_at okX10_areNear 52 rfl) (by decide) rfl (fun (h85 : (S.1 0 24) < (fX10_hours S (S.2 14 v1.toNatClampNeg) (S.2 14 v2.toNatClampNeg))) => ?_) (fun (h85 : ¬ (S.1 0 24) < (fX10_hours S (S.2 14 v1.toNatClampNeg) (S.2 14 v2.toNatClampNeg))) => ?_)
    · skip
      rw [if_pos h85] at hf
      refine w_ic (n := 93) hM (0 : Int32) (dtab_at okX10_areNear 55 rfl) (by decide) rfl ?_
      exact r_z hM (by decide) (dtab_at okX10_areNear 56 rfl) ⟨Option.some.inj hf, hS⟩
    · skip
      rw [if_neg h85] at hf
      refine w_ic (n := 89) hM (1 : Int32) (dtab_at okX10_areNear 53 rfl) (by decide) rfl ?_
      refine w_goto (n := 93) hM (dtab_at okX10_areNear 54 rfl) (by decide) ?_
      exact r_z hM (by decide) (dtab_at okX10_areNear 56 rfl) ⟨Option.some.inj hf, hS⟩
def fX10_areNear (nF : Nat) (S : PS) (a1 : Int32) (a2 : Int32) : Option (Int32) := (if a2 < 0 ∨ 80 ≤ a2.toNatClampNeg then none else (if a1 < 0 ∨ 80 ≤ a1.toNatClampNeg then none else (if (((S.2 13 a2.toNatClampNeg) - (S.2 13 a1.toNatClampNeg)) - (S.2 16 a1.toNatClampNeg)) ≤ (((S.2 13 a1.toNatClampNeg) - (S.2 13 a2.toNatClampNeg)) - (S.2 16 a2.toNatClampNeg)) then (BX10_areNear_55 nF S a1 a2 (((S.2 13 a1.toNatClampNeg) - (S.2 13 a2.toNatClampNeg)) - (S.2 16 a2.toNatClampNeg))) else (BX10_areNear_55 nF S a1 a2 (((S.2 13 a2.toNatClampNeg) - (S.2 13 a1.toNatClampNeg)) - (S.2 16 a1.toNatClampNeg))))))
set_option maxHeartbeats 4000000 in
set_option maxRecDepth 100000 in
theorem c_X10_areNear {cy : ClassId × ClassId} {ad : Nat → Nat} {D : va_G} {l : Launch} (nF : Nat) (S : PS) (a1 : Int32) (a2 : Int32) (r : Int32) (hf : fX10_areNear nF S a1 a2 = some r) : PMi cy GM ad D l yX10_areNear (wA yX10_areNear cX10_areNear 6 (some .boolean)) rmX10_areNear [vr 10 0, vi a1, vi a2] S (fun x S' => x = r ∧ S' = S) := by
  refine PM.of (lv := [(0, vr 10 0), (1, vi a1), (2, vi a2)]) GM_ok (by decide) (Nat.le_of_ble_eq_true rfl) rfl (by simp) ?_
  intro p e s m args below meth c A hM
  rw [fX10_areNear] at hf
  obtain ⟨S0, hS⟩ : ∃ S0 : PS, S = S0 := ⟨S, rfl⟩
  rw [show (fun (x : Int32) (S' : PS) => x = r ∧ S' = S) = (fun x S' => x = r ∧ S' = S0) by rw [hS]]
  refine w_aln (q := 0) (n := 1) hM (dtab_at okX10_areNear 0 rfl) rfl rfl ?_
  refine w_getr (C := RX10) (T := TX10) (i := 19) (k2 := 180) (q := 13) (n := 4) hM rfl (by decide) (fun _ => rfl) ly_X10 lkF_X10_54 (dtab_at okX10_areNear 1 rfl) rfl ?_
  refine w_iln (q := 2) (n := 5) hM (dtab_at okX10_areNear 2 rfl) rfl rfl ?_
  by_cases hg5 : a2 < 0 ∨ 80 ≤ a2.toNatClampNeg
  · rw [if_pos hg5] at hf; cases hf
  rw [if_neg hg5] at hf
  refine w_ald (nn := 80) (n := 6) hM rfl hg5 (dtab_at okX10_areNear 3 rfl) rfl ?_
  refine w_aln (q := 0) (n := 7) hM (dtab_at okX10_areNear 4 rfl) rfl rfl ?_
  refine w_getr (C := RX10) (T := TX10) (i := 19) (k2 := 180) (q := 13) (n := 10) hM rfl (by decide) (fun _ => rfl) ly_X10 lkF_X10_54 (dtab_at okX10_areNear 5 rfl) rfl ?_
  refine w_iln (q := 1) (n := 11) hM (dtab_at okX10_areNear 6 rfl) rfl rfl ?_
  by_cases hg11 : a1 < 0 ∨ 80 ≤ a1.toNatClampNeg
  · rw [if_pos hg11] at hf; cases hf
  rw [if_neg hg11] at hf
  refine w_ald (nn := 80) (n := 12) hM rfl hg11 (dtab_at okX10_areNear 7 rfl) rfl ?_
  refine w_isub (n := 13) hM (dtab_at okX10_areNear 8 rfl) rfl ?_
  refine w_aln (q := 0) (n := 14) hM (dtab_at okX10_areNear 9 rfl) rfl rfl ?_
  refine w_getr (C := RX10) (T := TX10) (i := 22) (k2 := 180) (q := 16) (n := 17) hM rfl (by decide) (fun _ => rfl) ly_X10 lkF_X10_63 (dtab_at okX10_areNear 10 rfl) rfl ?_
  refine w_iln (q := 1) (n := 18) hM (dtab_at okX10_areNear 11 rfl) rfl rfl ?_
  refine w_ald (nn := 80) (n := 19) hM rfl hg11 (dtab_at okX10_areNear 12 rfl) rfl ?_
  refine w_isub (n := 20) hM (dtab_at okX10_areNear 13 rfl) rfl ?_
  refine w_isn (n := 21) (lv' := [(3, vi (((S.2 13 a2.toNatClampNeg) - (S.2 13 a1.toNatClampNeg)) - (S.2 16 a1.toNatClampNeg))), (0, vr 10 0), (1, vi a1), (2, vi a2)]) hM (dtab_at okX10_areNear 14 rfl) (by decide) rfl rfl ?_
  refine w_aln (q := 1) (n := 22) hM (dtab_at okX10_areNear 15 rfl) rfl rfl ?_
  refine w_getr (C := RX10) (T := TX10) (i := 19) (k2 := 180) (q := 13) (n := 25) hM rfl (by decide) (fun _ => rfl) ly_X10 lkF_X10_54 (dtab_at okX10_areNear 16 rfl) rfl ?_
  refine w_iln (q := 2) (n := 26) hM (dtab_at okX10_areNear 17 rfl) rfl rfl ?_
  refine w_ald (nn := 80) (n := 27) hM rfl hg11 (dtab_at okX10_areNear 18 rfl) rfl ?_
  refine w_aln (q := 1) (n := 28) hM (dtab_at okX10_areNear 19 rfl) rfl rfl ?_
  refine w_getr (C := RX10) (T := TX10) (i := 19) (k2 := 180) (q := 13) (n := 31) hM rfl (by decide) (fun _ => rfl) ly_X10 lkF_X10_54 (dtab_at okX10_areNear 20 rfl) rfl ?_
  refine w_iln (q := 3) (n := 32) hM (dtab_at okX10_areNear 21 rfl) rfl rfl ?_
  refine w_ald (nn := 80) (n := 33) hM rfl hg5 (dtab_at okX10_areNear 22 rfl) rfl ?_
  refine w_isub (n := 34) hM (dtab_at okX10_areNear 23 rfl) rfl ?_
  refine w_aln (q := 1) (n := 35) hM (dtab_at okX10_areNear 24 rfl) rfl rfl ?_
  refine w_getr (C := RX10) (T := TX10) (i := 22) (k2 := 180) (q := 16) (n := 38) hM rfl (by decide) (fun _ => rfl) ly_X10 lkF_X10_63 (dtab_at okX10_areNear 25 rfl) rfl ?_
  refine w_iln (q := 3) (n := 39) hM (dtab_at okX10_areNear 26 rfl) rfl rfl ?_
  refine w_ald (nn := 80) (n := 40) hM rfl hg5 (dtab_at okX10_areNear 27 rfl) rfl ?_
  refine w_isub (n := 41) hM (dtab_at okX10_areNear 28 rfl) rfl ?_
  refine w_is (n := 43) (lv' := [(4, vi (((S.2 13 a1.toNatClampNeg) - (S.2 13 a2.toNatClampNeg)) - (S.2 16 a2.toNatClampNeg))), (3, vi (((S.2 13 a2.toNatClampNeg) - (S.2 13 a1.toNatClampNeg)) - (S.2 16 a1.toNatClampNeg))), (0, vr 10 0), (1, vi a1), (2, vi a2)]) hM (dtab_at okX10_areNear 29 rfl) (by decide) rfl rfl ?_
  refine w_iln (q := 1) (n := 44) hM (dtab_at okX10_areNear 30 rfl) rfl rfl ?_
  refine w_il (q := 0) (n := 46) hM (dtab_at okX10_areNear 31 rfl) rfl rfl ?_
  refine w_ic_le (n := 53) (n2 := 49) hM (dtab_at okX10_areNear 32 rfl) (by decide) rfl (fun (h46 : (((S.2 13 a2.toNatClampNeg) - (S.2 13 a1.toNatClampNeg)) - (S.2 16 a1.toNatClampNeg)) ≤ (((S.2 13 a1.toNatClampNeg) - (S.2 13 a2.toNatClampNeg)) - (S.2 16 a2.toNatClampNeg))) => ?_) (fun (h46 : ¬ (((S.2 13 a2.toNatClampNeg) - (S.2 13 a1.toNatClampNeg)) - (S.2 16 a1.toNatClampNeg)) ≤ (((S.2 13 a1.toNatClampNeg) - (S.2 13 a2.toNatClampNeg)) - (S.2 16 a2.toNatClampNeg))) => ?_)
  · skip
    rw [if_pos h46] at hf
    refine w_il (q := 0) (n := 55) hM (dtab_at okX10_areNear 35 rfl) rfl rfl ?_
    refine WW.lvs [2, 3, 4] (lv2 := [(0, vr 10 0), (1, vi a1), (2, vi a2)]) rfl ?_
    exact wBX10_areNear_55 hM nF S0 r S a1 a2 (((S.2 13 a1.toNatClampNeg) - (S.2 13 a2.toNatClampNeg)) - (S.2 16 a2.toNatClampNeg)) hS hf
  · skip
    rw [if_neg h46] at hf
    refine w_iln (q := 1) (n := 50) hM (dtab_at okX10_areNear 33 rfl) rfl rfl ?_
    refine w_goto (n := 55) hM (dtab_at okX10_areNear 34 rfl) (by decide) ?_
    refine WW.lvs [2, 3, 4] (lv2 := [(0, vr 10 0), (1, vi a1), (2, vi a2)]) rfl ?_
    exact wBX10_areNear_55 hM nF S0 r S a1 a2 (((S.2 13 a2.toNatClampNeg) - (S.2 13 a1.toNatClampNeg)) - (S.2 16 a1.toNatClampNeg)) hS hf
