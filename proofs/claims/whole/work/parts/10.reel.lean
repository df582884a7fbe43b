theorem nar_bi {x : Int32} (h : x = 0 ∨ x = 1) : narrow .boolean (.int x) = .int x := by rcases h with rfl | rfl <;> rfl
/-- an index below a count that is not above the row's length -/
theorem vin_lt {i n : Int32} {N : Nat} (h0 : ¬ i < 0) (h1 : i < n) (h2 : n.toInt ≤ N) : vp_in i N := vp_in_iff.mpr ⟨by
  have := mt Int32.lt_iff_toInt_lt.mpr h0
  have e : (0 : Int32).toInt = 0 := rfl
  omega, by
  have := Int32.lt_iff_toInt_lt.mp h1
  omega⟩
theorem vin_nle {i n : Int32} {N : Nat} (h0 : ¬ i < 0) (h1 : ¬ n ≤ i) (h2 : n.toInt ≤ N) : vp_in i N := vin_lt h0 (Int32.not_le.mp h1) h2
def fX9_isWithin (S : PS) (a : Int32) (b : Int32) (z : Int32) : Int32 := if a < b then 0 else (if z < a then 0 else 1)
set_option maxHeartbeats 4000000 in
set_option maxRecDepth 100000 in
theorem c_X9_isWithin {cy : ClassId × ClassId} {ad : Nat → Nat} {D : va_G} {l : Launch} (S : PS) (a : Int32) (b : Int32) (z : Int32)  : PMi cy GC ad D l yX9_isWithin (wA yX9_isWithin cX9_isWithin 3 (some .boolean)) rmX9_isWithin [vi a, vi b, vi z] S (fun x S' => x = (fX9_isWithin S a b z) ∧ S' = S) := by
  refine PM.of (lv := [(0, vi a), (1, vi b), (2, vi z)]) GC_ok (by decide) (Nat.le_of_ble_eq_true rfl) rfl (by simp) ?_
  intro p e s m args below meth c A hM
  refine w_iln (q := 0) (n := 1) hM (dtab_at okX9_isWithin 0 rfl) rfl rfl ?_
  refine w_iln (q := 1) (n := 2) hM (dtab_at okX9_isWithin 1 rfl) rfl rfl ?_
  refine w_ic_lt (n := 14) (n2 := 5) hM (dtab_at okX9_isWithin 2 rfl) (by decide) rfl (fun h2 => ?_) (fun h2 => ?_)
  · skip
    refine w_ic (n := 15) hM 0 (dtab_at okX9_isWithin 8 rfl) (by decide) rfl ?_
    exact r_z hM (by decide) (dtab_at okX9_isWithin 9 rfl) ⟨by rw [fX9_isWithin, if_pos h2], rfl⟩
  · skip
    refine w_iln (q := 0) (n := 6) hM (dtab_at okX9_isWithin 3 rfl) rfl rfl ?_
    refine w_iln (q := 2) (n := 7) hM (dtab_at okX9_isWithin 4 rfl) rfl rfl ?_
    refine w_ic_gt (n := 14) (n2 := 10) hM (dtab_at okX9_isWithin 5 rfl) (by decide) rfl (fun h7 => ?_) (fun h7 => ?_)
    · skip
      refine w_ic (n := 15) hM 0 (dtab_at okX9_isWithin 8 rfl) (by decide) rfl ?_
      exact r_z hM (by decide) (dtab_at okX9_isWithin 9 rfl) ⟨by rw [fX9_isWithin, if_neg h2, if_pos h7], rfl⟩
    · skip
      refine w_ic (n := 11) hM 1 (dtab_at okX9_isWithin 6 rfl) (by decide) rfl ?_
      refine w_goto (n := 15) hM (dtab_at okX9_isWithin 7 rfl) (by decide) ?_
      exact r_z hM (by decide) (dtab_at okX9_isWithin 9 rfl) ⟨by rw [fX9_isWithin, if_neg h2, if_neg h7], rfl⟩
theorem fX9_isWithin_01 (S : PS) (a b z : Int32) : fX9_isWithin S a b z = 0 ∨ fX9_isWithin S a b z = 1 := by
  unfold fX9_isWithin
  split
  · exact Or.inl rfl
  · split
    · exact Or.inl rfl
    · exact Or.inr rfl
def fX9_isForm (S : PS) (a : Int32) : Int32 := (fX9_isWithin S a 0 2)
set_option maxHeartbeats 4000000 in
set_option maxRecDepth 100000 in
theorem c_X9_isForm {cy : ClassId × ClassId} {ad : Nat → Nat} {D : va_G} {l : Launch} (S : PS) (a : Int32)  : PMi cy GC ad D l yX9_isForm (wA yX9_isForm cX9_isForm 1 (some .boolean)) rmX9_isForm [vi a] S (fun x S' => x = (fX9_isForm S a) ∧ S' = S) := by
  refine PM.of (lv := [(0, vi a)]) GC_ok (by decide) (Nat.le_of_ble_eq_true rfl) rfl (by simp) ?_
  intro p e s m args below meth c A hM
  refine w_iln (q := 0) (n := 1) hM (dtab_at okX9_isForm 0 rfl) rfl rfl ?_
  refine w_ic (n := 2) hM 0 (dtab_at okX9_isForm 1 rfl) (by decide) rfl ?_
  refine w_ic (n := 3) hM 2 (dtab_at okX9_isForm 2 rfl) (by decide) rfl ?_
  refine w_callSi (n := 6) (As := [vi a, vi 0, vi 2]) (rest := []) hM (c_X9_isWithin S a 0 2) lkM_X9_121 ms_X9_isWithin (by decide) rfl (Nat.le_of_ble_eq_true rfl) rfl (dtab_at okX9_isForm 3 rfl) rfl (fun x0 S0 hp0 => ?_)
  obtain ⟨hx_, hs_⟩ := hp0
  have hs_ := hs_.symm
  subst hs_
  subst hx_
  exact r_z hM (nar_bi (fX9_isWithin_01 _ _ _ _)) (dtab_at okX9_isForm 4 rfl) ⟨by rw [fX9_isForm], rfl⟩
def fX9_hoursApart (S : PS) (a : Int32) (b : Int32) : Int32 := if (12 - (if 0 ≤ (a - b) then (a - b) else 0 - (a - b))) < (if 0 ≤ (a - b) then (a - b) else 0 - (a - b)) then (12 - (if 0 ≤ (a - b) then (a - b) else 0 - (a - b))) else (if 0 ≤ (a - b) then (a - b) else 0 - (a - b))
set_option maxHeartbeats 4000000 in
set_option maxRecDepth 100000 in
theorem c_X9_hoursApart {cy : ClassId × ClassId} {ad : Nat → Nat} {D : va_G} {l : Launch} (S : PS) (a : Int32) (b : Int32)  : PMi cy GC ad D l yX9_hoursApart (wA yX9_hoursApart cX9_hoursApart 3 (some .int)) rmX9_hoursApart [vi a, vi b] S (fun x S' => x = (fX9_hoursApart S a b) ∧ S' = S) := by
  refine PM.of (lv := [(0, vi a), (1, vi b)]) GC_ok (by decide) (Nat.le_of_ble_eq_true rfl) rfl (by simp) ?_
  intro p e s m args below meth c A hM
  refine w_iln (q := 0) (n := 1) hM (dtab_at okX9_hoursApart 0 rfl) rfl rfl ?_
  refine w_iln (q := 1) (n := 2) hM (dtab_at okX9_hoursApart 1 rfl) rfl rfl ?_
  refine w_isub (n := 3) hM (dtab_at okX9_hoursApart 2 rfl) rfl ?_
  refine w_abs (n := 6) hM ⟨lkM_X9_275, mS_J9_abs_0f7a4, iz_J9, mC_J9_abs_0f7a4⟩ (by decide) (Nat.le_of_ble_eq_true rfl) (dtab_at okX9_hoursApart 3 rfl) rfl ?_
  refine w_isn (n := 7) (lv' := [(2, vi (if 0 ≤ (a - b) then (a - b) else 0 - (a - b))), (0, vi a), (1, vi b)]) hM (dtab_at okX9_hoursApart 4 rfl) (by decide) rfl rfl ?_
  refine w_iln (q := 0) (n := 8) hM (dtab_at okX9_hoursApart 5 rfl) rfl rfl ?_
  refine w_bi (n := 10) hM 12 (dtab_at okX9_hoursApart 6 rfl) (by decide) rfl ?_
  refine w_iln (q := 0) (n := 11) hM (dtab_at okX9_hoursApart 7 rfl) rfl rfl ?_
  refine w_isub (n := 12) hM (dtab_at okX9_hoursApart 8 rfl) rfl ?_
  refine w_min (n := 15) hM ⟨lkM_X9_280, mS_J9_min_7cf53, iz_J9, mC_J9_min_7cf53⟩ (by decide) (Nat.le_of_ble_eq_true rfl) (dtab_at okX9_hoursApart 9 rfl) rfl ?_
  exact r_i hM (dtab_at okX9_hoursApart 10 rfl) ⟨by rw [fX9_hoursApart], rfl⟩
def fX9_found (S : PS) (a : Int32) : Int32 × PS := (((-10) - a), (sti S 0 9 a))
set_option maxHeartbeats 4000000 in
set_option maxRecDepth 100000 in
theorem c_X9_found {cy : ClassId × ClassId} {ad : Nat → Nat} {D : va_G} {l : Launch} (S : PS) (a : Int32)  : PMi cy GC ad D l yX9_found (wA yX9_found cX9_found 2 (some .int)) rmX9_found [vr 9 0, vi a] S (fun x S' => (x, S') = (fX9_found S a)) := by
  refine PM.of (lv := [(0, vr 9 0), (1, vi a)]) GC_ok (by decide) (Nat.le_of_ble_eq_true rfl) rfl (by simp) ?_
  intro p e s m args below meth c A hM
  refine w_aln (q := 0) (n := 1) hM (dtab_at okX9_found 0 rfl) rfl rfl ?_
  refine w_iln (q := 1) (n := 2) hM (dtab_at okX9_found 1 rfl) rfl rfl ?_
  refine w_put (C := RX9) (T := TX9) (i := 9) (ty := .int) (n := 5) hM rfl (by decide) ly_X9 tyX9_ok nmX9 lkF_X9_61 rfl (by decide +kernel) rfl rfl (dtab_at okX9_found 2 rfl) rfl ?_
  refine w_bi (n := 7) hM (-10) (dtab_at okX9_found 3 rfl) (by decide) rfl ?_
  refine w_iln (q := 1) (n := 8) hM (dtab_at okX9_found 4 rfl) rfl rfl ?_
  refine w_isub (n := 9) hM (dtab_at okX9_found 5 rfl) rfl ?_
  exact r_i hM (dtab_at okX9_found 6 rfl) (by rw [fX9_found])
def fX9_runAt (S : PS) (a : Int32) : Option (Nat × Nat) := if a = 0 then some (6, 1) else (if a = 1 then some (6, 2) else none)
set_option maxHeartbeats 4000000 in
set_option maxRecDepth 100000 in
theorem c_X9_runAt {cy : ClassId × ClassId} {ad : Nat → Nat} {D : va_G} {l : Launch} (S : PS) (a : Int32)  : PMr cy GC ad D l yX9_runAt (wA yX9_runAt cX9_runAt 2 (some (.object "PigLine$Run"))) rmX9_runAt [vr 9 0, vi a] S (fun x S' => x = (fX9_runAt S a) ∧ S' = S) := by
  refine PM.of (lv := [(0, vr 9 0), (1, vi a)]) GC_ok (by decide) (Nat.le_of_ble_eq_true rfl) rfl (by simp) ?_
  intro p e s m args below meth c A hM
  refine w_iln (q := 1) (n := 1) hM (dtab_at okX9_runAt 0 rfl) rfl rfl ?_
  refine w_if_ne (n := 9) (n2 := 4) hM (dtab_at okX9_runAt 1 rfl) (by decide) rfl (fun h1 => ?_) (fun h1 => ?_)
  · skip
    refine w_iln (q := 1) (n := 10) hM (dtab_at okX9_runAt 5 rfl) rfl rfl ?_
    refine w_ic (n := 11) hM 1 (dtab_at okX9_runAt 6 rfl) (by decide) rfl ?_
    refine w_ic_ne (n := 21) (n2 := 14) hM (dtab_at okX9_runAt 7 rfl) (by decide) rfl (fun h11 => ?_) (fun h11 => ?_)
    · skip
      refine w_null (n := 22) hM (dtab_at okX9_runAt 11 rfl) rfl ?_
      exact r_a hM (dtab_at okX9_runAt 12 rfl) ⟨by rw [fX9_runAt, if_neg h1, if_neg h11], rfl⟩
    · skip
      refine w_aln (q := 0) (n := 15) hM (dtab_at okX9_runAt 8 rfl) rfl rfl ?_
      refine w_getr (C := RX9) (T := TX9) (i := 1) (k2 := 6) (q := 2) (n := 18) hM rfl (by decide) (fun _ => rfl) ly_X9 lkF_X9_16 (dtab_at okX9_runAt 9 rfl) rfl ?_
      refine w_goto (n := 22) hM (dtab_at okX9_runAt 10 rfl) (by decide) ?_
      exact r_a hM (dtab_at okX9_runAt 12 rfl) ⟨by rw [fX9_runAt, if_neg h1, if_pos h11], rfl⟩
  · skip
    refine w_aln (q := 0) (n := 5) hM (dtab_at okX9_runAt 2 rfl) rfl rfl ?_
    refine w_getr (C := RX9) (T := TX9) (i := 0) (k2 := 6) (q := 1) (n := 8) hM rfl (by decide) (fun _ => rfl) ly_X9 lkF_X9_10 (dtab_at okX9_runAt 3 rfl) rfl ?_
    exact r_a hM (dtab_at okX9_runAt 4 rfl) ⟨by rw [fX9_runAt, if_pos h1], rfl⟩
def fX5_isLost (S : PS) (j : Nat) : Int32 := if (S.1 j 1) = (-1) then 1 else 0
set_option maxHeartbeats 4000000 in
set_option maxRecDepth 100000 in
theorem c_X5_isLost {cy : ClassId × ClassId} {ad : Nat → Nat} {D : va_G} {l : Launch} (S : PS) (j : Nat)  : PMi cy GC ad D l yX5_isLost (wA yX5_isLost cX5_isLost 1 (some .boolean)) rmX5_isLost [vr 5 j] S (fun x S' => x = (fX5_isLost S j) ∧ S' = S) := by
  refine PM.of (lv := [(0, vr 5 j)]) GC_ok (by decide) (Nat.le_of_ble_eq_true rfl) rfl (by simp) ?_
  intro p e s m args below meth c A hM
  refine w_aln (q := 0) (n := 1) hM (dtab_at okX5_isLost 0 rfl) rfl rfl ?_
  refine w_geti (C := RX5) (T := TX5) (i := 1) (n := 4) hM rfl (by decide) ly_X5 lkF_X5_15 (dtab_at okX5_isLost 1 rfl) rfl ?_
  refine w_ic (n := 5) hM (-1) (dtab_at okX5_isLost 2 rfl) (by decide) rfl ?_
  refine w_ic_ne (n := 12) (n2 := 8) hM (dtab_at okX5_isLost 3 rfl) (by decide) rfl (fun h5 => ?_) (fun h5 => ?_)
  · skip
    refine w_ic (n := 13) hM 0 (dtab_at okX5_isLost 6 rfl) (by decide) rfl ?_
    exact r_z hM (by decide) (dtab_at okX5_isLost 7 rfl) ⟨by rw [fX5_isLost, if_neg h5], rfl⟩
  · skip
    refine w_ic (n := 9) hM 1 (dtab_at okX5_isLost 4 rfl) (by decide) rfl ?_
    refine w_goto (n := 13) hM (dtab_at okX5_isLost 5 rfl) (by decide) ?_
    exact r_z hM (by decide) (dtab_at okX5_isLost 7 rfl) ⟨by rw [fX5_isLost, if_pos h5], rfl⟩
def fX5_drop (S : PS) (j : Nat) : PS := (sti (sti S j 1 (-1)) j 2 0)
set_option maxHeartbeats 4000000 in
set_option maxRecDepth 100000 in
theorem c_X5_drop {cy : ClassId × ClassId} {ad : Nat → Nat} {D : va_G} {l : Launch} (S : PS) (j : Nat)  : PMv cy GC ad D l yX5_drop (wA yX5_drop cX5_drop 1 none) rmX5_drop [vr 5 j] S (fun S' => S' = (fX5_drop S j)) := by
  refine PM.of (lv := [(0, vr 5 j)]) GC_ok (by decide) (Nat.le_of_ble_eq_true rfl) rfl (by simp) ?_
  intro p e s m args below meth c A hM
  refine w_aln (q := 0) (n := 1) hM (dtab_at okX5_drop 0 rfl) rfl rfl ?_
  refine w_ic (n := 2) hM (-1) (dtab_at okX5_drop 1 rfl) (by decide) rfl ?_
  refine w_put (C := RX5) (T := TX5) (i := 1) (ty := .int) (n := 5) hM rfl (by decide) ly_X5 tyX5_ok nmX5 lkF_X5_15 rfl (by decide +kernel) rfl rfl (dtab_at okX5_drop 2 rfl) rfl ?_
  refine w_aln (q := 0) (n := 6) hM (dtab_at okX5_drop 3 rfl) rfl rfl ?_
  refine w_ic (n := 7) hM 0 (dtab_at okX5_drop 4 rfl) (by decide) rfl ?_
  refine w_put (C := RX5) (T := TX5) (i := 2) (ty := .int) (n := 10) hM rfl (by decide) ly_X5 tyX5_ok nmX5 lkF_X5_19 rfl (by decide +kernel) rfl rfl (dtab_at okX5_drop 5 rfl) rfl ?_
  exact r_v hM (dtab_at okX5_drop 6 rfl) (by rw [fX5_drop])
def fX5_hasItem (S : PS) (j : Nat) (i : Int32) : Int32 := if i < 0 then 0 else (if (S.1 j 2) ≤ i then 0 else 1)
set_option maxHeartbeats 4000000 in
set_option maxRecDepth 100000 in
theorem c_X5_hasItem {cy : ClassId × ClassId} {ad : Nat → Nat} {D : va_G} {l : Launch} (S : PS) (j : Nat) (i : Int32)  : PMi cy GC ad D l yX5_hasItem (wA yX5_hasItem cX5_hasItem 2 (some .boolean)) rmX5_hasItem [vr 5 j, vi i] S (fun x S' => x = (fX5_hasItem S j i) ∧ S' = S) := by
  refine PM.of (lv := [(0, vr 5 j), (1, vi i)]) GC_ok (by decide) (Nat.le_of_ble_eq_true rfl) rfl (by simp) ?_
  intro p e s m args below meth c A hM
  refine w_iln (q := 1) (n := 1) hM (dtab_at okX5_hasItem 0 rfl) rfl rfl ?_
  refine w_if_lt (n := 16) (n2 := 4) hM (dtab_at okX5_hasItem 1 rfl) (by decide) rfl (fun h1 => ?_) (fun h1 => ?_)
  · skip
    refine w_ic (n := 17) hM 0 (dtab_at okX5_hasItem 8 rfl) (by decide) rfl ?_
    exact r_z hM (by decide) (dtab_at okX5_hasItem 9 rfl) ⟨by rw [fX5_hasItem, if_pos h1], rfl⟩
  · skip
    refine w_iln (q := 1) (n := 5) hM (dtab_at okX5_hasItem 2 rfl) rfl rfl ?_
    refine w_aln (q := 0) (n := 6) hM (dtab_at okX5_hasItem 3 rfl) rfl rfl ?_
    refine w_geti (C := RX5) (T := TX5) (i := 2) (n := 9) hM rfl (by decide) ly_X5 lkF_X5_19 (dtab_at okX5_hasItem 4 rfl) rfl ?_
    refine w_ic_ge (n := 16) (n2 := 12) hM (dtab_at okX5_hasItem 5 rfl) (by decide) rfl (fun h9 => ?_) (fun h9 => ?_)
    · skip
      refine w_ic (n := 17) hM 0 (dtab_at okX5_hasItem 8 rfl) (by decide) rfl ?_
      exact r_z hM (by decide) (dtab_at okX5_hasItem 9 rfl) ⟨by rw [fX5_hasItem, if_neg h1, if_pos h9], rfl⟩
    · skip
      refine w_ic (n := 13) hM 1 (dtab_at okX5_hasItem 6 rfl) (by decide) rfl ?_
      refine w_goto (n := 17) hM (dtab_at okX5_hasItem 7 rfl) (by decide) ?_
      exact r_z hM (by decide) (dtab_at okX5_hasItem 9 rfl) ⟨by rw [fX5_hasItem, if_neg h1, if_neg h9], rfl⟩
def fX5_hasItems (S : PS) (j : Nat) (i : Int32) (k : Int32) : Int32 := if i < 0 then 0 else (if k < 0 then 0 else (if (S.1 j 2) < k then 0 else (if ((S.1 j 2) - k) < i then 0 else 1)))
set_option maxHeartbeats 4000000 in
set_option maxRecDepth 100000 in
theorem c_X5_hasItems {cy : ClassId × ClassId} {ad : Nat → Nat} {D : va_G} {l : Launch} (S : PS) (j : Nat) (i : Int32) (k : Int32)  : PMi cy GC ad D l yX5_hasItems (wA yX5_hasItems cX5_hasItems 3 (some .boolean)) rmX5_hasItems [vr 5 j, vi i, vi k] S (fun x S' => x = (fX5_hasItems S j i k) ∧ S' = S) := by
  refine PM.of (lv := [(0, vr 5 j), (1, vi i), (2, vi k)]) GC_ok (by decide) (Nat.le_of_ble_eq_true rfl) rfl (by simp) ?_
  intro p e s m args below meth c A hM
  refine w_iln (q := 1) (n := 1) hM (dtab_at okX5_hasItems 0 rfl) rfl rfl ?_
  refine w_if_lt (n := 30) (n2 := 4) hM (dtab_at okX5_hasItems 1 rfl) (by decide) rfl (fun h1 => ?_) (fun h1 => ?_)
  · skip
    refine w_ic (n := 31) hM 0 (dtab_at okX5_hasItems 16 rfl) (by decide) rfl ?_
    exact r_z hM (by decide) (dtab_at okX5_hasItems 17 rfl) ⟨by rw [fX5_hasItems, if_pos h1], rfl⟩
  · skip
    refine w_iln (q := 2) (n := 5) hM (dtab_at okX5_hasItems 2 rfl) rfl rfl ?_
    refine w_if_lt (n := 30) (n2 := 8) hM (dtab_at okX5_hasItems 3 rfl) (by decide) rfl (fun h5 => ?_) (fun h5 => ?_)
    · skip
      refine w_ic (n := 31) hM 0 (dtab_at okX5_hasItems 16 rfl) (by decide) rfl ?_
      exact r_z hM (by decide) (dtab_at okX5_hasItems 17 rfl) ⟨by rw [fX5_hasItems, if_neg h1, if_pos h5], rfl⟩
    · skip
      refine w_iln (q := 2) (n := 9) hM (dtab_at okX5_hasItems 4 rfl) rfl rfl ?_
      refine w_aln (q := 0) (n := 10) hM (dtab_at okX5_hasItems 5 rfl) rfl rfl ?_
      refine w_geti (C := RX5) (T := TX5) (i := 2) (n := 13) hM rfl (by decide) ly_X5 lkF_X5_19 (dtab_at okX5_hasItems 6 rfl) rfl ?_
      refine w_ic_gt (n := 30) (n2 := 16) hM (dtab_at okX5_hasItems 7 rfl) (by decide) rfl (fun h13 => ?_) (fun h13 => ?_)
      · skip
        refine w_ic (n := 31) hM 0 (dtab_at okX5_hasItems 16 rfl) (by decide) rfl ?_
        exact r_z hM (by decide) (dtab_at okX5_hasItems 17 rfl) ⟨by rw [fX5_hasItems, if_neg h1, if_neg h5, if_pos h13], rfl⟩
      · skip
        refine w_iln (q := 1) (n := 17) hM (dtab_at okX5_hasItems 8 rfl) rfl rfl ?_
        refine w_aln (q := 0) (n := 18) hM (dtab_at okX5_hasItems 9 rfl) rfl rfl ?_
        refine w_geti (C := RX5) (T := TX5) (i := 2) (n := 21) hM rfl (by decide) ly_X5 lkF_X5_19 (dtab_at okX5_hasItems 10 rfl) rfl ?_
        refine w_iln (q := 2) (n := 22) hM (dtab_at okX5_hasItems 11 rfl) rfl rfl ?_
        refine w_isub (n := 23) hM (dtab_at okX5_hasItems 12 rfl) rfl ?_
        refine w_ic_gt (n := 30) (n2 := 26) hM (dtab_at okX5_hasItems 13 rfl) (by decide) rfl (fun h23 => ?_) (fun h23 => ?_)
        · skip
          refine w_ic (n := 31) hM 0 (dtab_at okX5_hasItems 16 rfl) (by decide) rfl ?_
          exact r_z hM (by decide) (dtab_at okX5_hasItems 17 rfl) ⟨by rw [fX5_hasItems, if_neg h1, if_neg h5, if_neg h13, if_pos h23], rfl⟩
        · skip
          refine w_ic (n := 27) hM 1 (dtab_at okX5_hasItems 14 rfl) (by decide) rfl ?_
          refine w_goto (n := 31) hM (dtab_at okX5_hasItems 15 rfl) (by decide) ?_
          exact r_z hM (by decide) (dtab_at okX5_hasItems 17 rfl) ⟨by rw [fX5_hasItems, if_neg h1, if_neg h5, if_neg h13, if_neg h23], rfl⟩
def fX5_faultOf (S : PS) (j : Nat) (f : Int32) (i : Int32) : Int32 := if (fX5_isLost S j) = 0 then (if (S.1 j 1) = f then (if (fX5_hasItem S j i) = 0 then 2 else 0) else 3) else 1
set_option maxHeartbeats 4000000 in
set_option maxRecDepth 100000 in
theorem c_X5_faultOf {cy : ClassId × ClassId} {ad : Nat → Nat} {D : va_G} {l : Launch} (S : PS) (j : Nat) (f : Int32) (i : Int32)  : PMi cy GC ad D l yX5_faultOf (wA yX5_faultOf cX5_faultOf 3 (some .int)) rmX5_faultOf [vr 5 j, vi f, vi i] S (fun x S' => x = (fX5_faultOf S j f i) ∧ S' = S) := by
  refine PM.of (lv := [(0, vr 5 j), (1, vi f), (2, vi i)]) GC_ok (by decide) (Nat.le_of_ble_eq_true rfl) rfl (by simp) ?_
  intro p e s m args below meth c A hM
  refine w_aln (q := 0) (n := 1) hM (dtab_at okX5_faultOf 0 rfl) rfl rfl ?_
  refine w_callVi (n := 4) (As := []) (rest := []) (k := 5) (j := j) (C := RX5) (T := TX5) (N := 3) hM (c_X5_isLost S j) lkM_X5_28 mv_X5_isLost (by decide) rfl (by decide) rfl (Nat.le_of_ble_eq_true rfl) rfl (dtab_at okX5_faultOf 1 rfl) rfl (fun x0 S0 hp0 => ?_)
  obtain ⟨hx_, hs_⟩ := hp0
  have hs_ := hs_.symm
  subst hs_
  subst hx_
  refine w_if_eq (n := 9) (n2 := 7) hM (dtab_at okX5_faultOf 2 rfl) (by decide) rfl (fun h4 => ?_) (fun h4 => ?_)
  · skip
    refine w_aln (q := 0) (n := 10) hM (dtab_at okX5_faultOf 5 rfl) rfl rfl ?_
    refine w_geti (C := RX5) (T := TX5) (i := 1) (n := 13) hM rfl (by decide) ly_X5 lkF_X5_15 (dtab_at okX5_faultOf 6 rfl) rfl ?_
    refine w_iln (q := 1) (n := 14) hM (dtab_at okX5_faultOf 7 rfl) rfl rfl ?_
    refine w_ic_eq (n := 19) (n2 := 17) hM (dtab_at okX5_faultOf 8 rfl) (by decide) rfl (fun h14 => ?_) (fun h14 => ?_)
    · skip
      refine w_aln (q := 0) (n := 20) hM (dtab_at okX5_faultOf 11 rfl) rfl rfl ?_
      refine w_iln (q := 2) (n := 21) hM (dtab_at okX5_faultOf 12 rfl) rfl rfl ?_
      refine w_callVi (n := 24) (As := [vi i]) (rest := []) (k := 5) (j := j) (C := RX5) (T := TX5) (N := 3) hM (c_X5_hasItem S j i) lkM_X5_32 mv_X5_hasItem (by decide) rfl (by decide) rfl (Nat.le_of_ble_eq_true rfl) rfl (dtab_at okX5_faultOf 13 rfl) rfl (fun x1 S1 hp1 => ?_)
      obtain ⟨hx_, hs_⟩ := hp1
      have hs_ := hs_.symm
      subst hs_
      subst hx_
      refine w_if_eq (n := 31) (n2 := 27) hM (dtab_at okX5_faultOf 14 rfl) (by decide) rfl (fun h24 => ?_) (fun h24 => ?_)
      · skip
        refine w_ic (n := 32) hM 2 (dtab_at okX5_faultOf 17 rfl) (by decide) rfl ?_
        exact r_i hM (dtab_at okX5_faultOf 18 rfl) ⟨by rw [fX5_faultOf, if_pos h4, if_pos h14, if_pos h24], rfl⟩
      · skip
        refine w_ic (n := 28) hM 0 (dtab_at okX5_faultOf 15 rfl) (by decide) rfl ?_
        refine w_goto (n := 32) hM (dtab_at okX5_faultOf 16 rfl) (by decide) ?_
        exact r_i hM (dtab_at okX5_faultOf 18 rfl) ⟨by rw [fX5_faultOf, if_pos h4, if_pos h14, if_neg h24], rfl⟩
    · skip
      refine w_ic (n := 18) hM 3 (dtab_at okX5_faultOf 9 rfl) (by decide) rfl ?_
      exact r_i hM (dtab_at okX5_faultOf 10 rfl) ⟨by rw [fX5_faultOf, if_pos h4, if_neg h14], rfl⟩
  · skip
    refine w_ic (n := 8) hM 1 (dtab_at okX5_faultOf 3 rfl) (by decide) rfl ?_
    exact r_i hM (dtab_at okX5_faultOf 4 rfl) ⟨by rw [fX5_faultOf, if_neg h4], rfl⟩
/-- the counter of a reel is at most its row's length -/
def SZ (S : PS) (j : Nat) : Prop := (S.1 j 2).toInt ≤ 150
theorem hasItem_vin {S : PS} {j : Nat} {i : Int32} (h : ¬ fX5_hasItem S j i = 0) (hs : SZ S j) : vp_in i 150 := by
  unfold fX5_hasItem at h
  split at h
  · exact absurd rfl h
  · rename_i h0
    split at h
    · exact absurd rfl h
    · rename_i h1
      exact vin_nle h0 h1 hs
def fX5_store (S : PS) (j : Nat) (i : Int32) (v : Int32) : PS := if (fX5_hasItem S j i) = 0 then S else (if (S.1 j 1) = 0 then (sta S (j + 8) i.toNatClampNeg v.toInt8.toInt32) else (if (S.1 j 1) = 1 then (sta S (j + 8) i.toNatClampNeg v.toInt16.toInt32) else (sta S (j + 8) i.toNatClampNeg v)))
set_option maxHeartbeats 4000000 in
set_option maxRecDepth 100000 in
theorem c_X5_store {cy : ClassId × ClassId} {ad : Nat → Nat} {D : va_G} {l : Launch} (S : PS) (j : Nat) (i : Int32) (v : Int32) (hs : SZ S j) : PMv cy GC ad D l yX5_store (wA yX5_store cX5_store 3 none) rmX5_store [vr 5 j, vi i, vi v] S (fun S' => S' = (fX5_store S j i v)) := by
  refine PM.of (lv := [(0, vr 5 j), (1, vi i), (2, vi v)]) GC_ok (by decide) (Nat.le_of_ble_eq_true rfl) rfl (by simp) ?_
  intro p e s m args below meth c A hM
  refine w_aln (q := 0) (n := 1) hM (dtab_at okX5_store 0 rfl) rfl rfl ?_
  refine w_iln (q := 1) (n := 2) hM (dtab_at okX5_store 1 rfl) rfl rfl ?_
  refine w_callVi (n := 5) (As := [vi i]) (rest := []) (k := 5) (j := j) (C := RX5) (T := TX5) (N := 3) hM (c_X5_hasItem S j i) lkM_X5_32 mv_X5_hasItem (by decide) rfl (by decide) rfl (Nat.le_of_ble_eq_true rfl) rfl (dtab_at okX5_store 2 rfl) rfl (fun x0 S0 hp0 => ?_)
  obtain ⟨hx_, hs_⟩ := hp0
  have hs_ := hs_.symm
  subst hs_
  subst hx_
  refine w_if_ne (n := 9) (n2 := 8) hM (dtab_at okX5_store 3 rfl) (by decide) rfl (fun h5 => ?_) (fun h5 => ?_)
  · skip
    refine w_aln (q := 0) (n := 10) hM (dtab_at okX5_store 5 rfl) rfl rfl ?_
    refine w_geti (C := RX5) (T := TX5) (i := 1) (n := 13) hM rfl (by decide) ly_X5 lkF_X5_15 (dtab_at okX5_store 6 rfl) rfl ?_
    refine w_if_ne (n := 27) (n2 := 16) hM (dtab_at okX5_store 7 rfl) (by decide) rfl (fun h13 => ?_) (fun h13 => ?_)
    · skip
      refine w_aln (q := 0) (n := 28) hM (dtab_at okX5_store 15 rfl) rfl rfl ?_
      refine w_geti (C := RX5) (T := TX5) (i := 1) (n := 31) hM rfl (by decide) ly_X5 lkF_X5_15 (dtab_at okX5_store 16 rfl) rfl ?_
      refine w_ic (n := 32) hM 1 (dtab_at okX5_store 17 rfl) (by decide) rfl ?_
      refine w_ic_ne (n := 46) (n2 := 35) hM (dtab_at okX5_store 18 rfl) (by decide) rfl (fun h32 => ?_) (fun h32 => ?_)
      · skip
        refine w_aln (q := 0) (n := 47) hM (dtab_at okX5_store 26 rfl) rfl rfl ?_
        refine w_getr (C := RX5) (T := TX5) (i := 0) (k2 := 250) (q := (j + 8)) (n := 50) hM rfl (by decide) rfc_5_0 ly_X5 lkF_X5_9 (dtab_at okX5_store 27 rfl) rfl ?_
        refine w_iln (q := 1) (n := 51) hM (dtab_at okX5_store 28 rfl) rfl rfl ?_
        refine w_iln (q := 2) (n := 52) hM (dtab_at okX5_store 29 rfl) rfl rfl ?_
        refine w_ast (nn := 150) (n := 53) hM rfl (hasItem_vin h5 hs) (dtab_at okX5_store 30 rfl) rfl ?_
        exact r_v hM (dtab_at okX5_store 31 rfl) (by rw [fX5_store, if_neg h5, if_neg h13, if_neg h32])
      · skip
        refine w_aln (q := 0) (n := 36) hM (dtab_at okX5_store 19 rfl) rfl rfl ?_
        refine w_getr (C := RX5) (T := TX5) (i := 0) (k2 := 250) (q := (j + 8)) (n := 39) hM rfl (by decide) rfc_5_0 ly_X5 lkF_X5_9 (dtab_at okX5_store 20 rfl) rfl ?_
        refine w_iln (q := 1) (n := 40) hM (dtab_at okX5_store 21 rfl) rfl rfl ?_
        refine w_iln (q := 2) (n := 41) hM (dtab_at okX5_store 22 rfl) rfl rfl ?_
        refine w_i2s (n := 42) hM (dtab_at okX5_store 23 rfl) rfl ?_
        refine w_ast (nn := 150) (n := 43) hM rfl (hasItem_vin h5 hs) (dtab_at okX5_store 24 rfl) rfl ?_
        refine w_goto (n := 53) hM (dtab_at okX5_store 25 rfl) (by decide) ?_
        exact r_v hM (dtab_at okX5_store 31 rfl) (by rw [fX5_store, if_neg h5, if_neg h13, if_pos h32])
    · skip
      refine w_aln (q := 0) (n := 17) hM (dtab_at okX5_store 8 rfl) rfl rfl ?_
      refine w_getr (C := RX5) (T := TX5) (i := 0) (k2 := 250) (q := (j + 8)) (n := 20) hM rfl (by decide) rfc_5_0 ly_X5 lkF_X5_9 (dtab_at okX5_store 9 rfl) rfl ?_
      refine w_iln (q := 1) (n := 21) hM (dtab_at okX5_store 10 rfl) rfl rfl ?_
      refine w_iln (q := 2) (n := 22) hM (dtab_at okX5_store 11 rfl) rfl rfl ?_
      refine w_i2b (n := 23) hM (dtab_at okX5_store 12 rfl) rfl ?_
      refine w_ast (nn := 150) (n := 24) hM rfl (hasItem_vin h5 hs) (dtab_at okX5_store 13 rfl) rfl ?_
      refine w_goto (n := 53) hM (dtab_at okX5_store 14 rfl) (by decide) ?_
      exact r_v hM (dtab_at okX5_store 31 rfl) (by rw [fX5_store, if_neg h5, if_pos h13])
  · skip
    exact r_v hM (dtab_at okX5_store 4 rfl) (by rw [fX5_store, if_pos h5])
def fX5_readingAt (S : PS) (j : Nat) (i : Int32) : Int32 := if (fX5_hasItem S j i) = 0 then (-1) else (if (fX9_isWithin S (S.2 (j + 8) i.toNatClampNeg) 0 30000) = 0 then (-1) else (S.2 (j + 8) i.toNatClampNeg))
set_option maxHeartbeats 4000000 in
set_option maxRecDepth 100000 in
theorem c_X5_readingAt {cy : ClassId × ClassId} {ad : Nat → Nat} {D : va_G} {l : Launch} (S : PS) (j : Nat) (i : Int32) (hs : SZ S j) : PMi cy GC ad D l yX5_readingAt (wA yX5_readingAt cX5_readingAt 2 (some .int)) rmX5_readingAt [vr 5 j, vi i] S (fun x S' => x = (fX5_readingAt S j i) ∧ S' = S) := by
  refine PM.of (lv := [(0, vr 5 j), (1, vi i)]) GC_ok (by decide) (Nat.le_of_ble_eq_true rfl) rfl (by simp) ?_
  intro p e s m args below meth c A hM
  refine w_aln (q := 0) (n := 1) hM (dtab_at okX5_readingAt 0 rfl) rfl rfl ?_
  refine w_iln (q := 1) (n := 2) hM (dtab_at okX5_readingAt 1 rfl) rfl rfl ?_
  refine w_callVi (n := 5) (As := [vi i]) (rest := []) (k := 5) (j := j) (C := RX5) (T := TX5) (N := 3) hM (c_X5_hasItem S j i) lkM_X5_32 mv_X5_hasItem (by decide) rfl (by decide) rfl (Nat.le_of_ble_eq_true rfl) rfl (dtab_at okX5_readingAt 2 rfl) rfl (fun x0 S0 hp0 => ?_)
  obtain ⟨hx_, hs_⟩ := hp0
  have hs_ := hs_.symm
  subst hs_
  subst hx_
  refine w_if_eq (n := 24) (n2 := 8) hM (dtab_at okX5_readingAt 3 rfl) (by decide) rfl (fun h5 => ?_) (fun h5 => ?_)
  · skip
    refine w_ic (n := 25) hM (-1) (dtab_at okX5_readingAt 12 rfl) (by decide) rfl ?_
    exact r_i hM (dtab_at okX5_readingAt 13 rfl) ⟨by rw [fX5_readingAt, if_pos h5], rfl⟩
  · skip
    refine w_aln (q := 0) (n := 9) hM (dtab_at okX5_readingAt 4 rfl) rfl rfl ?_
    refine w_getr (C := RX5) (T := TX5) (i := 0) (k2 := 250) (q := (j + 8)) (n := 12) hM rfl (by decide) rfc_5_0 ly_X5 lkF_X5_9 (dtab_at okX5_readingAt 5 rfl) rfl ?_
    refine w_iln (q := 1) (n := 13) hM (dtab_at okX5_readingAt 6 rfl) rfl rfl ?_
    refine w_ald (nn := 150) (n := 14) hM rfl (hasItem_vin h5 hs) (dtab_at okX5_readingAt 7 rfl) rfl ?_
    refine w_ic (n := 15) hM 0 (dtab_at okX5_readingAt 8 rfl) (by decide) rfl ?_
    refine w_si (n := 18) hM 30000 (dtab_at okX5_readingAt 9 rfl) (by decide) rfl ?_
    refine w_callSNi (n := 21) (As := [vi (S.2 (j + 8) i.toNatClampNeg), vi 0, vi 30000]) (rest := []) hM (c_X9_isWithin S (S.2 (j + 8) i.toNatClampNeg) 0 30000) (fun h => h.1) ms_X9_isWithin (by decide) rfl (Nat.le_of_ble_eq_true rfl) rfl (dtab_at okX5_readingAt 10 rfl) rfl (fun x1 S1 hp1 => ?_)
    obtain ⟨hx_, hs_⟩ := hp1
    have hs_ := hs_.symm
    subst hs_
    subst hx_
    refine w_if_ne (n := 26) (n2 := 24) hM (dtab_at okX5_readingAt 11 rfl) (by decide) rfl (fun h21 => ?_) (fun h21 => ?_)
    · skip
      refine w_aln (q := 0) (n := 27) hM (dtab_at okX5_readingAt 14 rfl) rfl rfl ?_
      refine w_getr (C := RX5) (T := TX5) (i := 0) (k2 := 250) (q := (j + 8)) (n := 30) hM rfl (by decide) rfc_5_0 ly_X5 lkF_X5_9 (dtab_at okX5_readingAt 15 rfl) rfl ?_
      refine w_iln (q := 1) (n := 31) hM (dtab_at okX5_readingAt 16 rfl) rfl rfl ?_
      refine w_ald (nn := 150) (n := 32) hM rfl (hasItem_vin h5 hs) (dtab_at okX5_readingAt 17 rfl) rfl ?_
      exact r_i hM (dtab_at okX5_readingAt 18 rfl) ⟨by rw [fX5_readingAt, if_neg h5, if_neg h21], rfl⟩
    · skip
      refine w_ic (n := 25) hM (-1) (dtab_at okX5_readingAt 12 rfl) (by decide) rfl ?_
      exact r_i hM (dtab_at okX5_readingAt 13 rfl) ⟨by rw [fX5_readingAt, if_neg h5, if_pos h21], rfl⟩
def fX5_hasWeldAt (S : PS) (j : Nat) (i : Int32) : Int32 := if (fX5_hasItem S j i) = 0 then 0 else (if (S.2 (j + 8) i.toNatClampNeg) = 0 then 0 else 1)
set_option maxHeartbeats 4000000 in
set_option maxRecDepth 100000 in
theorem c_X5_hasWeldAt {cy : ClassId × ClassId} {ad : Nat → Nat} {D : va_G} {l : Launch} (S : PS) (j : Nat) (i : Int32) (hs : SZ S j) : PMi cy GC ad D l yX5_hasWeldAt (wA yX5_hasWeldAt cX5_hasWeldAt 2 (some .boolean)) rmX5_hasWeldAt [vr 5 j, vi i] S (fun x S' => x = (fX5_hasWeldAt S j i) ∧ S' = S) := by
  refine PM.of (lv := [(0, vr 5 j), (1, vi i)]) GC_ok (by decide) (Nat.le_of_ble_eq_true rfl) rfl (by simp) ?_
  intro p e s m args below meth c A hM
  refine w_aln (q := 0) (n := 1) hM (dtab_at okX5_hasWeldAt 0 rfl) rfl rfl ?_
  refine w_iln (q := 1) (n := 2) hM (dtab_at okX5_hasWeldAt 1 rfl) rfl rfl ?_
  refine w_callVi (n := 5) (As := [vi i]) (rest := []) (k := 5) (j := j) (C := RX5) (T := TX5) (N := 3) hM (c_X5_hasItem S j i) lkM_X5_32 mv_X5_hasItem (by decide) rfl (by decide) rfl (Nat.le_of_ble_eq_true rfl) rfl (dtab_at okX5_hasWeldAt 2 rfl) rfl (fun x0 S0 hp0 => ?_)
  obtain ⟨hx_, hs_⟩ := hp0
  have hs_ := hs_.symm
  subst hs_
  subst hx_
  refine w_if_eq (n := 21) (n2 := 8) hM (dtab_at okX5_hasWeldAt 3 rfl) (by decide) rfl (fun h5 => ?_) (fun h5 => ?_)
  · skip
    refine w_ic (n := 22) hM 0 (dtab_at okX5_hasWeldAt 11 rfl) (by decide) rfl ?_
    exact r_z hM (by decide) (dtab_at okX5_hasWeldAt 12 rfl) ⟨by rw [fX5_hasWeldAt, if_pos h5], rfl⟩
  · skip
    refine w_aln (q := 0) (n := 9) hM (dtab_at okX5_hasWeldAt 4 rfl) rfl rfl ?_
    refine w_getr (C := RX5) (T := TX5) (i := 0) (k2 := 250) (q := (j + 8)) (n := 12) hM rfl (by decide) rfc_5_0 ly_X5 lkF_X5_9 (dtab_at okX5_hasWeldAt 5 rfl) rfl ?_
    refine w_iln (q := 1) (n := 13) hM (dtab_at okX5_hasWeldAt 6 rfl) rfl rfl ?_
    refine w_ald (nn := 150) (n := 14) hM rfl (hasItem_vin h5 hs) (dtab_at okX5_hasWeldAt 7 rfl) rfl ?_
    refine w_if_eq (n := 21) (n2 := 17) hM (dtab_at okX5_hasWeldAt 8 rfl) (by decide) rfl (fun h14 => ?_) (fun h14 => ?_)
    · skip
      refine w_ic (n := 22) hM 0 (dtab_at okX5_hasWeldAt 11 rfl) (by decide) rfl ?_
      exact r_z hM (by decide) (dtab_at okX5_hasWeldAt 12 rfl) ⟨by rw [fX5_hasWeldAt, if_neg h5, if_pos h14], rfl⟩
    · skip
      refine w_ic (n := 18) hM 1 (dtab_at okX5_hasWeldAt 9 rfl) (by decide) rfl ?_
      refine w_goto (n := 22) hM (dtab_at okX5_hasWeldAt 10 rfl) (by decide) ?_
      exact r_z hM (by decide) (dtab_at okX5_hasWeldAt 12 rfl) ⟨by rw [fX5_hasWeldAt, if_neg h5, if_neg h14], rfl⟩
def fX6_reelAt (S : PS) (j : Nat) (i : Int32) : Option (Nat × Nat) := if i.toInt < 0 ∨ 3 < i.toInt then none else if i = 0 then some (5, (4 * j - 1)) else if i = 1 then some (5, (4 * j)) else if i = 2 then some (5, (4 * j + 1)) else some (5, (4 * j + 2))
set_option maxHeartbeats 4000000 in
set_option maxRecDepth 100000 in
theorem c_X6_reelAt {cy : ClassId × ClassId} {ad : Nat → Nat} {D : va_G} {l : Launch} (S : PS) (j : Nat) (i : Int32)  : PMr cy GC ad D l yX6_reelAt (wA yX6_reelAt cX6_reelAt 2 (some (.object "PigLine$Reel"))) rmX6_reelAt [vr 6 j, vi i] S (fun x S' => x = (fX6_reelAt S j i) ∧ S' = S) := by
  refine PM.of (lv := [(0, vr 6 j), (1, vi i)]) GC_ok (by decide) (Nat.le_of_ble_eq_true rfl) rfl (by simp) ?_
  intro p e s m args below meth c A hM
  refine w_iln (q := 1) (n := 1) hM (dtab_at okX6_reelAt 0 rfl) rfl rfl ?_
  by_cases hts1 : i.toInt < 0 ∨ 3 < i.toInt
  · refine w_tsOut (n := 52) hM (dtab_at okX6_reelAt 1 rfl) hts1 (by decide) ?_
    refine w_null (n := 53) hM (dtab_at okX6_reelAt 14 rfl) rfl ?_
    exact r_a hM (dtab_at okX6_reelAt 15 rfl) ⟨by rw [fX6_reelAt, if_pos hts1], rfl⟩
  · have htn1 := hts1
    obtain hts1 | hts1 | hts1 | hts1 : i = 0 ∨ i = 1 ∨ i = 2 ∨ i = 3 := sw0_4 hts1
    · refine w_tsIn (n := 32) (off := 31) hM (dtab_at okX6_reelAt 1 rfl) (by rw [hts1]; decide) (by rw [hts1]; decide) (by rw [hts1]; rfl) (by decide) ?_
      refine w_aln (q := 0) (n := 33) hM (dtab_at okX6_reelAt 2 rfl) rfl rfl ?_
      refine w_getr (C := RX6) (T := TX6) (i := 0) (k2 := 5) (q := (4 * j - 1)) (n := 36) hM rfl (by decide) rfc_6_0 ly_X6 lkF_X6_12 (dtab_at okX6_reelAt 3 rfl) rfl ?_
      exact r_a hM (dtab_at okX6_reelAt 4 rfl) ⟨by rw [fX6_reelAt, if_neg htn1, if_pos hts1], rfl⟩
    · refine w_tsIn (n := 37) (off := 36) hM (dtab_at okX6_reelAt 1 rfl) (by rw [hts1]; decide) (by rw [hts1]; decide) (by rw [hts1]; rfl) (by decide) ?_
      refine w_aln (q := 0) (n := 38) hM (dtab_at okX6_reelAt 5 rfl) rfl rfl ?_
      refine w_getr (C := RX6) (T := TX6) (i := 1) (k2 := 5) (q := (4 * j)) (n := 41) hM rfl (by decide) rfc_6_1 ly_X6 lkF_X6_18 (dtab_at okX6_reelAt 6 rfl) rfl ?_
      exact r_a hM (dtab_at okX6_reelAt 7 rfl) ⟨by rw [fX6_reelAt, if_neg htn1, if_neg (show ¬ i = 0 by rw [hts1]; decide), if_pos hts1], rfl⟩
    · refine w_tsIn (n := 42) (off := 41) hM (dtab_at okX6_reelAt 1 rfl) (by rw [hts1]; decide) (by rw [hts1]; decide) (by rw [hts1]; rfl) (by decide) ?_
      refine w_aln (q := 0) (n := 43) hM (dtab_at okX6_reelAt 8 rfl) rfl rfl ?_
      refine w_getr (C := RX6) (T := TX6) (i := 2) (k2 := 5) (q := (4 * j + 1)) (n := 46) hM rfl (by decide) rfc_6_2 ly_X6 lkF_X6_21 (dtab_at okX6_reelAt 9 rfl) rfl ?_
      exact r_a hM (dtab_at okX6_reelAt 10 rfl) ⟨by rw [fX6_reelAt, if_neg htn1, if_neg (show ¬ i = 0 by rw [hts1]; decide), if_neg (show ¬ i = 1 by rw [hts1]; decide), if_pos hts1], rfl⟩
    · refine w_tsIn (n := 47) (off := 46) hM (dtab_at okX6_reelAt 1 rfl) (by rw [hts1]; decide) (by rw [hts1]; decide) (by rw [hts1]; rfl) (by decide) ?_
      refine w_aln (q := 0) (n := 48) hM (dtab_at okX6_reelAt 11 rfl) rfl rfl ?_
      refine w_getr (C := RX6) (T := TX6) (i := 3) (k2 := 5) (q := (4 * j + 2)) (n := 51) hM rfl (by decide) rfc_6_3 ly_X6 lkF_X6_24 (dtab_at okX6_reelAt 12 rfl) rfl ?_
      exact r_a hM (dtab_at okX6_reelAt 13 rfl) ⟨by rw [fX6_reelAt, if_neg htn1, if_neg (show ¬ i = 0 by rw [hts1]; decide), if_neg (show ¬ i = 1 by rw [hts1]; decide), if_neg (show ¬ i = 2 by rw [hts1]; decide)], rfl⟩
def fX3_hasMark (S : PS) (j : Nat) (i : Int32) : Int32 := if i < 0 then 0 else (if (S.1 j 6) ≤ i then 0 else 1)
set_option maxHeartbeats 4000000 in
set_option maxRecDepth 100000 in
theorem c_X3_hasMark {cy : ClassId × ClassId} {ad : Nat → Nat} {D : va_G} {l : Launch} (S : PS) (j : Nat) (i : Int32)  : PMi cy GC ad D l yX3_hasMark (wA yX3_hasMark cX3_hasMark 2 (some .boolean)) rmX3_hasMark [vr 3 j, vi i] S (fun x S' => x = (fX3_hasMark S j i) ∧ S' = S) := by
  refine PM.of (lv := [(0, vr 3 j), (1, vi i)]) GC_ok (by decide) (Nat.le_of_ble_eq_true rfl) rfl (by simp) ?_
  intro p e s m args below meth c A hM
  refine w_iln (q := 1) (n := 1) hM (dtab_at okX3_hasMark 0 rfl) rfl rfl ?_
  refine w_if_lt (n := 16) (n2 := 4) hM (dtab_at okX3_hasMark 1 rfl) (by decide) rfl (fun h1 => ?_) (fun h1 => ?_)
  · skip
    refine w_ic (n := 17) hM 0 (dtab_at okX3_hasMark 8 rfl) (by decide) rfl ?_
    exact r_z hM (by decide) (dtab_at okX3_hasMark 9 rfl) ⟨by rw [fX3_hasMark, if_pos h1], rfl⟩
  · skip
    refine w_iln (q := 1) (n := 5) hM (dtab_at okX3_hasMark 2 rfl) rfl rfl ?_
    refine w_aln (q := 0) (n := 6) hM (dtab_at okX3_hasMark 3 rfl) rfl rfl ?_
    refine w_geti (C := RX3) (T := TX3) (i := 6) (n := 9) hM rfl (by decide) ly_X3 lkF_X3_30 (dtab_at okX3_hasMark 4 rfl) rfl ?_
    refine w_ic_ge (n := 16) (n2 := 12) hM (dtab_at okX3_hasMark 5 rfl) (by decide) rfl (fun h9 => ?_) (fun h9 => ?_)
    · skip
      refine w_ic (n := 17) hM 0 (dtab_at okX3_hasMark 8 rfl) (by decide) rfl ?_
      exact r_z hM (by decide) (dtab_at okX3_hasMark 9 rfl) ⟨by rw [fX3_hasMark, if_neg h1, if_pos h9], rfl⟩
    · skip
      refine w_ic (n := 13) hM 1 (dtab_at okX3_hasMark 6 rfl) (by decide) rfl ?_
      refine w_goto (n := 17) hM (dtab_at okX3_hasMark 7 rfl) (by decide) ?_
      exact r_z hM (by decide) (dtab_at okX3_hasMark 9 rfl) ⟨by rw [fX3_hasMark, if_neg h1, if_neg h9], rfl⟩
def fX3_endOf (S : PS) (j : Nat) (i : Int32) : Int32 := ((S.2 (j + 2) i.toNatClampNeg) + (S.2 (j + 8) i.toNatClampNeg))
set_option maxHeartbeats 4000000 in
set_option maxRecDepth 100000 in
theorem c_X3_endOf {cy : ClassId × ClassId} {ad : Nat → Nat} {D : va_G} {l : Launch} (S : PS) (j : Nat) (i : Int32) (hi : vp_in i 40) : PMi cy GC ad D l yX3_endOf (wA yX3_endOf cX3_endOf 2 (some .int)) rmX3_endOf [vr 3 j, vi i] S (fun x S' => x = (fX3_endOf S j i) ∧ S' = S) := by
  refine PM.of (lv := [(0, vr 3 j), (1, vi i)]) GC_ok (by decide) (Nat.le_of_ble_eq_true rfl) rfl (by simp) ?_
  intro p e s m args below meth c A hM
  refine w_aln (q := 0) (n := 1) hM (dtab_at okX3_endOf 0 rfl) rfl rfl ?_
  refine w_getr (C := RX3) (T := TX3) (i := 0) (k2 := 140) (q := (j + 2)) (n := 4) hM rfl (by decide) rfc_3_0 ly_X3 lkF_X3_9 (dtab_at okX3_endOf 1 rfl) rfl ?_
  refine w_iln (q := 1) (n := 5) hM (dtab_at okX3_endOf 2 rfl) rfl rfl ?_
  refine w_ald (nn := 40) (n := 6) hM rfl hi (dtab_at okX3_endOf 3 rfl) rfl ?_
  refine w_aln (q := 0) (n := 7) hM (dtab_at okX3_endOf 4 rfl) rfl rfl ?_
  refine w_getr (C := RX3) (T := TX3) (i := 3) (k2 := 140) (q := (j + 8)) (n := 10) hM rfl (by decide) rfc_3_3 ly_X3 lkF_X3_21 (dtab_at okX3_endOf 5 rfl) rfl ?_
  refine w_iln (q := 1) (n := 11) hM (dtab_at okX3_endOf 6 rfl) rfl rfl ?_
  refine w_ald (nn := 40) (n := 12) hM rfl hi (dtab_at okX3_endOf 7 rfl) rfl ?_
  refine w_iadd (n := 13) hM (dtab_at okX3_endOf 8 rfl) rfl ?_
  exact r_i hM (dtab_at okX3_endOf 9 rfl) ⟨by rw [fX3_endOf], rfl⟩
def fX3_fact (S : PS) (j : Nat) (i : Int32) (w : Int32) : Int32 := if w.toInt < 0 ∨ 3 < w.toInt then (S.2 (j + 10) i.toNatClampNeg) else if w = 0 then (S.2 (j + 2) i.toNatClampNeg) else if w = 1 then (S.2 (j + 4) i.toNatClampNeg) else if w = 2 then (S.2 (j + 6) i.toNatClampNeg) else (S.2 (j + 8) i.toNatClampNeg)
set_option maxHeartbeats 4000000 in
set_option maxRecDepth 100000 in
theorem c_X3_fact {cy : ClassId × ClassId} {ad : Nat → Nat} {D : va_G} {l : Launch} (S : PS) (j : Nat) (i : Int32) (w : Int32) (hi : vp_in i 40) : PMi cy GC ad D l yX3_fact (wA yX3_fact cX3_fact 3 (some .int)) rmX3_fact [vr 3 j, vi i, vi w] S (fun x S' => x = (fX3_fact S j i w) ∧ S' = S) := by
  refine PM.of (lv := [(0, vr 3 j), (1, vi i), (2, vi w)]) GC_ok (by decide) (Nat.le_of_ble_eq_true rfl) rfl (by simp) ?_
  intro p e s m args below meth c A hM
  refine w_iln (q := 2) (n := 1) hM (dtab_at okX3_fact 0 rfl) rfl rfl ?_
  by_cases hts1 : w.toInt < 0 ∨ 3 < w.toInt
  · refine w_tsOut (n := 60) hM (dtab_at okX3_fact 1 rfl) hts1 (by decide) ?_
    refine w_aln (q := 0) (n := 61) hM (dtab_at okX3_fact 22 rfl) rfl rfl ?_
    refine w_getr (C := RX3) (T := TX3) (i := 4) (k2 := 140) (q := (j + 10)) (n := 64) hM rfl (by decide) rfc_3_4 ly_X3 lkF_X3_24 (dtab_at okX3_fact 23 rfl) rfl ?_
    refine w_iln (q := 1) (n := 65) hM (dtab_at okX3_fact 24 rfl) rfl rfl ?_
    refine w_ald (nn := 40) (n := 66) hM rfl hi (dtab_at okX3_fact 25 rfl) rfl ?_
    exact r_i hM (dtab_at okX3_fact 26 rfl) ⟨by rw [fX3_fact, if_pos hts1], rfl⟩
  · have htn1 := hts1
    obtain hts1 | hts1 | hts1 | hts1 : w = 0 ∨ w = 1 ∨ w = 2 ∨ w = 3 := sw0_4 hts1
    · refine w_tsIn (n := 32) (off := 31) hM (dtab_at okX3_fact 1 rfl) (by rw [hts1]; decide) (by rw [hts1]; decide) (by rw [hts1]; rfl) (by decide) ?_
      refine w_aln (q := 0) (n := 33) hM (dtab_at okX3_fact 2 rfl) rfl rfl ?_
      refine w_getr (C := RX3) (T := TX3) (i := 0) (k2 := 140) (q := (j + 2)) (n := 36) hM rfl (by decide) rfc_3_0 ly_X3 lkF_X3_9 (dtab_at okX3_fact 3 rfl) rfl ?_
      refine w_iln (q := 1) (n := 37) hM (dtab_at okX3_fact 4 rfl) rfl rfl ?_
      refine w_ald (nn := 40) (n := 38) hM rfl hi (dtab_at okX3_fact 5 rfl) rfl ?_
      exact r_i hM (dtab_at okX3_fact 6 rfl) ⟨by rw [fX3_fact, if_neg htn1, if_pos hts1], rfl⟩
    · refine w_tsIn (n := 39) (off := 38) hM (dtab_at okX3_fact 1 rfl) (by rw [hts1]; decide) (by rw [hts1]; decide) (by rw [hts1]; rfl) (by decide) ?_
      refine w_aln (q := 0) (n := 40) hM (dtab_at okX3_fact 7 rfl) rfl rfl ?_
      refine w_getr (C := RX3) (T := TX3) (i := 1) (k2 := 140) (q := (j + 4)) (n := 43) hM rfl (by decide) rfc_3_1 ly_X3 lkF_X3_15 (dtab_at okX3_fact 8 rfl) rfl ?_
      refine w_iln (q := 1) (n := 44) hM (dtab_at okX3_fact 9 rfl) rfl rfl ?_
      refine w_ald (nn := 40) (n := 45) hM rfl hi (dtab_at okX3_fact 10 rfl) rfl ?_
      exact r_i hM (dtab_at okX3_fact 11 rfl) ⟨by rw [fX3_fact, if_neg htn1, if_neg (show ¬ w = 0 by rw [hts1]; decide), if_pos hts1], rfl⟩
    · refine w_tsIn (n := 46) (off := 45) hM (dtab_at okX3_fact 1 rfl) (by rw [hts1]; decide) (by rw [hts1]; decide) (by rw [hts1]; rfl) (by decide) ?_
      refine w_aln (q := 0) (n := 47) hM (dtab_at okX3_fact 12 rfl) rfl rfl ?_
      refine w_getr (C := RX3) (T := TX3) (i := 2) (k2 := 140) (q := (j + 6)) (n := 50) hM rfl (by decide) rfc_3_2 ly_X3 lkF_X3_18 (dtab_at okX3_fact 13 rfl) rfl ?_
      refine w_iln (q := 1) (n := 51) hM (dtab_at okX3_fact 14 rfl) rfl rfl ?_
      refine w_ald (nn := 40) (n := 52) hM rfl hi (dtab_at okX3_fact 15 rfl) rfl ?_
      exact r_i hM (dtab_at okX3_fact 16 rfl) ⟨by rw [fX3_fact, if_neg htn1, if_neg (show ¬ w = 0 by rw [hts1]; decide), if_neg (show ¬ w = 1 by rw [hts1]; decide), if_pos hts1], rfl⟩
    · refine w_tsIn (n := 53) (off := 52) hM (dtab_at okX3_fact 1 rfl) (by rw [hts1]; decide) (by rw [hts1]; decide) (by rw [hts1]; rfl) (by decide) ?_
      refine w_aln (q := 0) (n := 54) hM (dtab_at okX3_fact 17 rfl) rfl rfl ?_
      refine w_getr (C := RX3) (T := TX3) (i := 3) (k2 := 140) (q := (j + 8)) (n := 57) hM rfl (by decide) rfc_3_3 ly_X3 lkF_X3_21 (dtab_at okX3_fact 18 rfl) rfl ?_
      refine w_iln (q := 1) (n := 58) hM (dtab_at okX3_fact 19 rfl) rfl rfl ?_
      refine w_ald (nn := 40) (n := 59) hM rfl hi (dtab_at okX3_fact 20 rfl) rfl ?_
      exact r_i hM (dtab_at okX3_fact 21 rfl) ⟨by rw [fX3_fact, if_neg htn1, if_neg (show ¬ w = 0 by rw [hts1]; decide), if_neg (show ¬ w = 1 by rw [hts1]; decide), if_neg (show ¬ w = 2 by rw [hts1]; decide)], rfl⟩
