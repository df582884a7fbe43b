def fX9_isWithin (S : PS) (a : Int32) (b : Int32) (z : Int32) : Int32 := if a < b then 0 else (if z < a then 0 else 1)
set_option maxHeartbeats 4000000 in
set_option maxRecDepth 100000 in
theorem c_X9_isWithin {cy : ClassId × ClassId} {ad : Nat → Nat} {D : va_G} {l : Launch} (S : PS) (a : Int32) (b : Int32) (z : Int32)  : PMi cy GC ad D l yX9_isWithin (wA yX9_isWithin cX9_isWithin 3 (some .boolean)) rmX9_isWithin [vi a, vi b, vi z] S (fun x S' => x = (fX9_isWithin S a b z) ∧ S' = S) := by
  refine PM.of (lv := [(0, vi a), (1, vi b), (2, vi z)]) GC_ok (by decide) (Nat.le_of_ble_eq_true rfl) rfl (by simp) ?_
  intro p e s m args below meth c A hM
  refine w_iln (q := 0) (n := 1) hM (dtab_at okX9_isWithin 0 rfl) rfl rfl ?_
  refine w_iln (q := 1) (n := 2) hM (dtab_at okX9_isWithin 1 rfl) rfl rfl ?_
  refine w_ic_lt (n := 14) (n2 := 5) hM (dtab_at okX9_isWithin 2 rfl) (by decide) rfl (fun h2 => ?_) (fun h2 => ?_)
  · skip
    refine w_ic (n := 15) hM 0 (dtab_at okX9_isWithin 8 rfl) (by decide) rfl ?_
    exact r_z hM (by decide) (dtab_at okX9_isWithin 9 rfl) ⟨by rw [fX9_isWithin, if_pos h2], rfl⟩
  · skip
    refine w_iln (q := 0) (n := 6) hM (dtab_at okX9_isWithin 3 rfl) rfl rfl ?_
    refine w_iln (q := 2) (n := 7) hM (dtab_at okX9_isWithin 4 rfl) rfl rfl ?_
    refine w_ic_gt (n := 14) (n2 := 10) hM (dtab_at okX9_isWithin 5 rfl) (by decide) rfl (fun h7 => ?_) (fun h7 => ?_)
    · skip
      refine w_ic (n := 15) hM 0 (dtab_at okX9_isWithin 8 rfl) (by decide) rfl ?_
      exact r_z hM (by decide) (dtab_at okX9_isWithin 9 rfl) ⟨by rw [fX9_isWithin, if_neg h2, if_pos h7], rfl⟩
    · skip
      refine w_ic (n := 11) hM 1 (dtab_at okX9_isWithin 6 rfl) (by decide) rfl ?_
      refine w_goto (n := 15) hM (dtab_at okX9_isWithin 7 rfl) (by decide) ?_
      exact r_z hM (by decide) (dtab_at okX9_isWithin 9 rfl) ⟨by rw [fX9_isWithin, if_neg h2, if_neg h7], rfl⟩
def fX5_isLost (S : PS) (j : Nat) : Int32 := if (S.1 j 1) = (-1) then 1 else 0
set_option maxHeartbeats 4000000 in
set_option maxRecDepth 100000 in
theorem c_X5_isLost {cy : ClassId × ClassId} {ad : Nat → Nat} {D : va_G} {l : Launch} (S : PS) (j : Nat)  : PMi cy GC ad D l yX5_isLost (wA yX5_isLost cX5_isLost 1 (some .boolean)) rmX5_isLost [vr 5 j] S (fun x S' => x = (fX5_isLost S j) ∧ S' = S) := by
  refine PM.of (lv := [(0, vr 5 j)]) GC_ok (by decide) (Nat.le_of_ble_eq_true rfl) rfl (by simp) ?_
  intro p e s m args below meth c A hM
  refine w_aln (q := 0) (n := 1) hM (dtab_at okX5_isLost 0 rfl) rfl rfl ?_
  refine w_geti (C := RX5) (T := TX5) (i := 1) (n := 4) hM rfl (by decide) ly_X5 lkF_X5_15 (dtab_at okX5_isLost 1 rfl) rfl ?_
  refine w_ic (n := 5) hM (-1) (dtab_at okX5_isLost 2 rfl) (by decide) rfl ?_
  refine w_ic_ne (n := 12) (n2 := 8) hM (dtab_at okX5_isLost 3 rfl) (by decide) rfl (fun h5 => ?_) (fun h5 => ?_)
  · skip
    refine w_ic (n := 13) hM 0 (dtab_at okX5_isLost 6 rfl) (by decide) rfl ?_
    exact r_z hM (by decide) (dtab_at okX5_isLost 7 rfl) ⟨by rw [fX5_isLost, if_neg h5], rfl⟩
  · skip
    refine w_ic (n := 9) hM 1 (dtab_at okX5_isLost 4 rfl) (by decide) rfl ?_
    refine w_goto (n := 13) hM (dtab_at okX5_isLost 5 rfl) (by decide) ?_
    exact r_z hM (by decide) (dtab_at okX5_isLost 7 rfl) ⟨by rw [fX5_isLost, if_pos h5], rfl⟩
def fX5_drop (S : PS) (j : Nat) : PS := (sti (sti S j 1 (-1)) j 2 0)
set_option maxHeartbeats 4000000 in
set_option maxRecDepth 100000 in
theorem c_X5_drop {cy : ClassId × ClassId} {ad : Nat → Nat} {D : va_G} {l : Launch} (S : PS) (j : Nat)  : PMv cy GC ad D l yX5_drop (wA yX5_drop cX5_drop 1 none) rmX5_drop [vr 5 j] S (fun S' => S' = (fX5_drop S j)) := by
  refine PM.of (lv := [(0, vr 5 j)]) GC_ok (by decide) (Nat.le_of_ble_eq_true rfl) rfl (by simp) ?_
  intro p e s m args below meth c A hM
  refine w_aln (q := 0) (n := 1) hM (dtab_at okX5_drop 0 rfl) rfl rfl ?_
  refine w_ic (n := 2) hM (-1) (dtab_at okX5_drop 1 rfl) (by decide) rfl ?_
  refine w_put (C := RX5) (T := TX5) (i := 1) (ty := .int) (n := 5) hM rfl (by decide) ly_X5 tyX5_ok nmX5 lkF_X5_15 rfl (by decide +kernel) rfl rfl (dtab_at okX5_drop 2 rfl) rfl ?_
  refine w_aln (q := 0) (n := 6) hM (dtab_at okX5_drop 3 rfl) rfl rfl ?_
  refine w_ic (n := 7) hM 0 (dtab_at okX5_drop 4 rfl) (by decide) rfl ?_
  refine w_put (C := RX5) (T := TX5) (i := 2) (ty := .int) (n := 10) hM rfl (by decide) ly_X5 tyX5_ok nmX5 lkF_X5_19 rfl (by decide +kernel) rfl rfl (dtab_at okX5_drop 5 rfl) rfl ?_
  exact r_v hM (dtab_at okX5_drop 6 rfl) (by rw [fX5_drop])
def fX5_hasItem (S : PS) (j : Nat) (i : Int32) : Int32 := if i < 0 then 0 else (if (S.1 j 2) ≤ i then 0 else 1)
set_option maxHeartbeats 4000000 in
set_option maxRecDepth 100000 in
theorem c_X5_hasItem {cy : ClassId × ClassId} {ad : Nat → Nat} {D : va_G} {l : Launch} (S : PS) (j : Nat) (i : Int32)  : PMi cy GC ad D l yX5_hasItem (wA yX5_hasItem cX5_hasItem 2 (some .boolean)) rmX5_hasItem [vr 5 j, vi i] S (fun x S' => x = (fX5_hasItem S j i) ∧ S' = S) := by
  refine PM.of (lv := [(0, vr 5 j), (1, vi i)]) GC_ok (by decide) (Nat.le_of_ble_eq_true rfl) rfl (by simp) ?_
  intro p e s m args below meth c A hM
  refine w_iln (q := 1) (n := 1) hM (dtab_at okX5_hasItem 0 rfl) rfl rfl ?_
  refine w_if_lt (n := 16) (n2 := 4) hM (dtab_at okX5_hasItem 1 rfl) (by decide) rfl (fun h1 => ?_) (fun h1 => ?_)
  · skip
    refine w_ic (n := 17) hM 0 (dtab_at okX5_hasItem 8 rfl) (by decide) rfl ?_
    exact r_z hM (by decide) (dtab_at okX5_hasItem 9 rfl) ⟨by rw [fX5_hasItem, if_pos h1], rfl⟩
  · skip
    refine w_iln (q := 1) (n := 5) hM (dtab_at okX5_hasItem 2 rfl) rfl rfl ?_
    refine w_aln (q := 0) (n := 6) hM (dtab_at okX5_hasItem 3 rfl) rfl rfl ?_
    refine w_geti (C := RX5) (T := TX5) (i := 2) (n := 9) hM rfl (by decide) ly_X5 lkF_X5_19 (dtab_at okX5_hasItem 4 rfl) rfl ?_
    refine w_ic_ge (n := 16) (n2 := 12) hM (dtab_at okX5_hasItem 5 rfl) (by decide) rfl (fun h9 => ?_) (fun h9 => ?_)
    · skip
      refine w_ic (n := 17) hM 0 (dtab_at okX5_hasItem 8 rfl) (by decide) rfl ?_
      exact r_z hM (by decide) (dtab_at okX5_hasItem 9 rfl) ⟨by rw [fX5_hasItem, if_neg h1, if_pos h9], rfl⟩
    · skip
      refine w_ic (n := 13) hM 1 (dtab_at okX5_hasItem 6 rfl) (by decide) rfl ?_
      refine w_goto (n := 17) hM (dtab_at okX5_hasItem 7 rfl) (by decide) ?_
      exact r_z hM (by decide) (dtab_at okX5_hasItem 9 rfl) ⟨by rw [fX5_hasItem, if_neg h1, if_neg h9], rfl⟩
def fX5_hasItems (S : PS) (j : Nat) (i : Int32) (k : Int32) : Int32 := if i < 0 then 0 else (if k < 0 then 0 else (if (S.1 j 2) < k then 0 else (if ((S.1 j 2) - k) < i then 0 else 1)))
set_option maxHeartbeats 4000000 in
set_option maxRecDepth 100000 in
theorem c_X5_hasItems {cy : ClassId × ClassId} {ad : Nat → Nat} {D : va_G} {l : Launch} (S : PS) (j : Nat) (i : Int32) (k : Int32)  : PMi cy GC ad D l yX5_hasItems (wA yX5_hasItems cX5_hasItems 3 (some .boolean)) rmX5_hasItems [vr 5 j, vi i, vi k] S (fun x S' => x = (fX5_hasItems S j i k) ∧ S' = S) := by
  refine PM.of (lv := [(0, vr 5 j), (1, vi i), (2, vi k)]) GC_ok (by decide) (Nat.le_of_ble_eq_true rfl) rfl (by simp) ?_
  intro p e s m args below meth c A hM
  refine w_iln (q := 1) (n := 1) hM (dtab_at okX5_hasItems 0 rfl) rfl rfl ?_
  refine w_if_lt (n := 30) (n2 := 4) hM (dtab_at okX5_hasItems 1 rfl) (by decide) rfl (fun h1 => ?_) (fun h1 => ?_)
  · skip
    refine w_ic (n := 31) hM 0 (dtab_at okX5_hasItems 16 rfl) (by decide) rfl ?_
    exact r_z hM (by decide) (dtab_at okX5_hasItems 17 rfl) ⟨by rw [fX5_hasItems, if_pos h1], rfl⟩
  · skip
    refine w_iln (q := 2) (n := 5) hM (dtab_at okX5_hasItems 2 rfl) rfl rfl ?_
    refine w_if_lt (n := 30) (n2 := 8) hM (dtab_at okX5_hasItems 3 rfl) (by decide) rfl (fun h5 => ?_) (fun h5 => ?_)
    · skip
      refine w_ic (n := 31) hM 0 (dtab_at okX5_hasItems 16 rfl) (by decide) rfl ?_
      exact r_z hM (by decide) (dtab_at okX5_hasItems 17 rfl) ⟨by rw [fX5_hasItems, if_neg h1, if_pos h5], rfl⟩
    · skip
      refine w_iln (q := 2) (n := 9) hM (dtab_at okX5_hasItems 4 rfl) rfl rfl ?_
      refine w_aln (q := 0) (n := 10) hM (dtab_at okX5_hasItems 5 rfl) rfl rfl ?_
      refine w_geti (C := RX5) (T := TX5) (i := 2) (n := 13) hM rfl (by decide) ly_X5 lkF_X5_19 (dtab_at okX5_hasItems 6 rfl) rfl ?_
      refine w_ic_gt (n := 30) (n2 := 16) hM (dtab_at okX5_hasItems 7 rfl) (by decide) rfl (fun h13 => ?_) (fun h13 => ?_)
      · skip
        refine w_ic (n := 31) hM 0 (dtab_at okX5_hasItems 16 rfl) (by decide) rfl ?_
        exact r_z hM (by decide) (dtab_at okX5_hasItems 17 rfl) ⟨by rw [fX5_hasItems, if_neg h1, if_neg h5, if_pos h13], rfl⟩
      · skip
        refine w_iln (q := 1) (n := 17) hM (dtab_at okX5_hasItems 8 rfl) rfl rfl ?_
        refine w_aln (q := 0) (n := 18) hM (dtab_at okX5_hasItems 9 rfl) rfl rfl ?_
        refine w_geti (C := RX5) (T := TX5) (i := 2) (n := 21) hM rfl (by decide) ly_X5 lkF_X5_19 (dtab_at okX5_hasItems 10 rfl) rfl ?_
        refine w_iln (q := 2) (n := 22) hM (dtab_at okX5_hasItems 11 rfl) rfl rfl ?_
        refine w_isub (n := 23) hM (dtab_at okX5_hasItems 12 rfl) rfl ?_
        refine w_ic_gt (n := 30) (n2 := 26) hM (dtab_at okX5_hasItems 13 rfl) (by decide) rfl (fun h23 => ?_) (fun h23 => ?_)
        · skip
          refine w_ic (n := 31) hM 0 (dtab_at okX5_hasItems 16 rfl) (by decide) rfl ?_
          exact r_z hM (by decide) (dtab_at okX5_hasItems 17 rfl) ⟨by rw [fX5_hasItems, if_neg h1, if_neg h5, if_neg h13, if_pos h23], rfl⟩
        · skip
          refine w_ic (n := 27) hM 1 (dtab_at okX5_hasItems 14 rfl) (by decide) rfl ?_
          refine w_goto (n := 31) hM (dtab_at okX5_hasItems 15 rfl) (by decide) ?_
          exact r_z hM (by decide) (dtab_at okX5_hasItems 17 rfl) ⟨by rw [fX5_hasItems, if_neg h1, if_neg h5, if_neg h13, if_neg h23], rfl⟩
def fX5_faultOf (S : PS) (j : Nat) (f : Int32) (i : Int32) : Int32 := if (fX5_isLost S j) = 0 then (if (S.1 j 1) = f then (if (fX5_hasItem S j i) = 0 then 2 else 0) else 3) else 1
set_option maxHeartbeats 4000000 in
set_option maxRecDepth 100000 in
theorem c_X5_faultOf {cy : ClassId × ClassId} {ad : Nat → Nat} {D : va_G} {l : Launch} (S : PS) (j : Nat) (f : Int32) (i : Int32)  : PMi cy GC ad D l yX5_faultOf (wA yX5_faultOf cX5_faultOf 3 (some .int)) rmX5_faultOf [vr 5 j, vi f, vi i] S (fun x S' => x = (fX5_faultOf S j f i) ∧ S' = S) := by
  refine PM.of (lv := [(0, vr 5 j), (1, vi f), (2, vi i)]) GC_ok (by decide) (Nat.le_of_ble_eq_true rfl) rfl (by simp) ?_
  intro p e s m args below meth c A hM
  refine w_aln (q := 0) (n := 1) hM (dtab_at okX5_faultOf 0 rfl) rfl rfl ?_
  refine w_callVi (n := 4) (As := []) (rest := []) (k := 5) (j := j) (C := RX5) (T := TX5) (N := 3) hM (c_X5_isLost S j) lkM_X5_28 mv_X5_isLost (by decide) rfl (by decide) rfl (Nat.le_of_ble_eq_true rfl) rfl (dtab_at okX5_faultOf 1 rfl) rfl (fun x0 S0 hp0 => ?_)
  obtain ⟨rfl, rfl⟩ := hp0
  refine w_if_eq (n := 9) (n2 := 7) hM (dtab_at okX5_faultOf 2 rfl) (by decide) rfl (fun h4 => ?_) (fun h4 => ?_)
  · skip
    refine w_aln (q := 0) (n := 10) hM (dtab_at okX5_faultOf 5 rfl) rfl rfl ?_
    refine w_geti (C := RX5) (T := TX5) (i := 1) (n := 13) hM rfl (by decide) ly_X5 lkF_X5_15 (dtab_at okX5_faultOf 6 rfl) rfl ?_
    refine w_iln (q := 1) (n := 14) hM (dtab_at okX5_faultOf 7 rfl) rfl rfl ?_
    refine w_ic_eq (n := 19) (n2 := 17) hM (dtab_at okX5_faultOf 8 rfl) (by decide) rfl (fun h14 => ?_) (fun h14 => ?_)
    · skip
      refine w_aln (q := 0) (n := 20) hM (dtab_at okX5_faultOf 11 rfl) rfl rfl ?_
      refine w_iln (q := 2) (n := 21) hM (dtab_at okX5_faultOf 12 rfl) rfl rfl ?_
      refine w_callVi (n := 24) (As := [vi i]) (rest := []) (k := 5) (j := j) (C := RX5) (T := TX5) (N := 3) hM (c_X5_hasItem S j i) lkM_X5_32 mv_X5_hasItem (by decide) rfl (by decide) rfl (Nat.le_of_ble_eq_true rfl) rfl (dtab_at okX5_faultOf 13 rfl) rfl (fun x1 S1 hp1 => ?_)
      obtain ⟨rfl, rfl⟩ := hp1
      refine w_if_eq (n := 31) (n2 := 27) hM (dtab_at okX5_faultOf 14 rfl) (by decide) rfl (fun h24 => ?_) (fun h24 => ?_)
      · skip
        refine w_ic (n := 32) hM 2 (dtab_at okX5_faultOf 17 rfl) (by decide) rfl ?_
        exact r_i hM (dtab_at okX5_faultOf 18 rfl) ⟨by rw [fX5_faultOf, if_pos h4, if_pos h14, if_pos h24], rfl⟩
      · skip
        refine w_ic (n := 28) hM 0 (dtab_at okX5_faultOf 15 rfl) (by decide) rfl ?_
        refine w_goto (n := 32) hM (dtab_at okX5_faultOf 16 rfl) (by decide) ?_
        exact r_i hM (dtab_at okX5_faultOf 18 rfl) ⟨by rw [fX5_faultOf, if_pos h4, if_pos h14, if_neg h24], rfl⟩
    · skip
      refine w_ic (n := 18) hM 3 (dtab_at okX5_faultOf 9 rfl) (by decide) rfl ?_
      exact r_i hM (dtab_at okX5_faultOf 10 rfl) ⟨by rw [fX5_faultOf, if_pos h4, if_neg h14], rfl⟩
  · skip
    refine w_ic (n := 8) hM 1 (dtab_at okX5_faultOf 3 rfl) (by decide) rfl ?_
    exact r_i hM (dtab_at okX5_faultOf 4 rfl) ⟨by rw [fX5_faultOf, if_neg h4], rfl⟩
