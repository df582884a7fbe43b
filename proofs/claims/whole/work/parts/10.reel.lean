theorem nar_bi {x : Int32} (h : x = 0 ∨ x = 1) : narrow .boolean (.int x) = .int x := by rcases h with rfl | rfl <;> rfl
theorem fit_bi {x : Int32} (h : x = 0 ∨ x = 1) : fits .boolean (.int x) = true := by rcases h with rfl | rfl <;> rfl
def fX9_isWithin (S : PS) (a : Int32) (b : Int32) (z : Int32) : Int32 := if a < b then 0 else (if z < a then 0 else 1)
set_option maxHeartbeats 4000000 in
set_option maxRecDepth 100000 in
theorem c_X9_isWithin {cy : ClassId × ClassId} {ad : Nat → Nat} {D : va_G} {l : Launch} (S : PS) (a : Int32) (b : Int32) (z : Int32)  : PMi cy GC ad D l yX9_isWithin (wA yX9_isWithin cX9_isWithin 3 (some .boolean)) rmX9_isWithin [vi a, vi b, vi z] S (fun x S' => x = (fX9_isWithin S a b z) ∧ S' = S) := by
  refine PM.of (lv := [(0, vi a), (1, vi b), (2, vi z)]) GC_ok (by decide) (Nat.le_of_ble_eq_true rfl) rfl (by simp) ?_
  intro p e s m args below meth c A hM
  refine w_iln (q := 0) (n := 1) hM (dtab_at okX9_isWithin 0 rfl) rfl rfl ?_
  refine w_iln (q := 1) (n := 2) hM (dtab_at okX9_isWithin 1 rfl) rfl rfl ?_
  refine w_ic_lt (n := 14) (n2 := 5) hM (dtab_at okX9_isWithin 2 rfl) (by decide) rfl (fun h2 => ?_) (fun h2 => ?_)
  · skip
    refine w_ic (n := 15) hM 0 (dtab_at okX9_isWithin 8 rfl) (by decide) rfl ?_
    exact r_z hM (by decide) (dtab_at okX9_isWithin 9 rfl) ⟨by rw [fX9_isWithin, if_pos h2], rfl⟩
  · skip
    refine w_iln (q := 0) (n := 6) hM (dtab_at okX9_isWithin 3 rfl) rfl rfl ?_
    refine w_iln (q := 2) (n := 7) hM (dtab_at okX9_isWithin 4 rfl) rfl rfl ?_
    refine w_ic_gt (n := 14) (n2 := 10) hM (dtab_at okX9_isWithin 5 rfl) (by decide) rfl (fun h7 => ?_) (fun h7 => ?_)
    · skip
      refine w_ic (n := 15) hM 0 (dtab_at okX9_isWithin 8 rfl) (by decide) rfl ?_
      exact r_z hM (by decide) (dtab_at okX9_isWithin 9 rfl) ⟨by rw [fX9_isWithin, if_neg h2, if_pos h7], rfl⟩
    · skip
      refine w_ic (n := 11) hM 1 (dtab_at okX9_isWithin 6 rfl) (by decide) rfl ?_
      refine w_goto (n := 15) hM (dtab_at okX9_isWithin 7 rfl) (by decide) ?_
      exact r_z hM (by decide) (dtab_at okX9_isWithin 9 rfl) ⟨by rw [fX9_isWithin, if_neg h2, if_neg h7], rfl⟩
theorem fX9_isWithin_01 (S : PS) (a b z : Int32) : fX9_isWithin S a b z = 0 ∨ fX9_isWithin S a b z = 1 := by
  unfold fX9_isWithin
  split
  · exact Or.inl rfl
  · split
    · exact Or.inl rfl
    · exact Or.inr rfl
def fX9_isForm (S : PS) (a : Int32) : Int32 := (fX9_isWithin S a 0 2)
set_option maxHeartbeats 4000000 in
set_option maxRecDepth 100000 in
theorem c_X9_isForm {cy : ClassId × ClassId} {ad : Nat → Nat} {D : va_G} {l : Launch} (S : PS) (a : Int32)  : PMi cy GC ad D l yX9_isForm (wA yX9_isForm cX9_isForm 1 (some .boolean)) rmX9_isForm [vi a] S (fun x S' => x = (fX9_isForm S a) ∧ S' = S) := by
  refine PM.of (lv := [(0, vi a)]) GC_ok (by decide) (Nat.le_of_ble_eq_true rfl) rfl (by simp) ?_
  intro p e s m args below meth c A hM
  refine w_iln (q := 0) (n := 1) hM (dtab_at okX9_isForm 0 rfl) rfl rfl ?_
  refine w_ic (n := 2) hM 0 (dtab_at okX9_isForm 1 rfl) (by decide) rfl ?_
  refine w_ic (n := 3) hM 2 (dtab_at okX9_isForm 2 rfl) (by decide) rfl ?_
  refine w_callSi (n := 6) (As := [vi a, vi 0, vi 2]) (rest := []) hM (c_X9_isWithin S a 0 2) lkM_X9_121 ms_X9_isWithin (by decide) rfl (Nat.le_of_ble_eq_true rfl) rfl (dtab_at okX9_isForm 3 rfl) rfl (fun x0 S0 hp0 => ?_)
  obtain ⟨hx_, hs_⟩ := hp0
  have hs_ := hs_.symm
  subst hs_
  subst hx_
  exact r_z hM (nar_bi (fX9_isWithin_01 _ _ _ _)) (dtab_at okX9_isForm 4 rfl) ⟨by rw [fX9_isForm], rfl⟩
def fX9_hoursApart (S : PS) (a : Int32) (b : Int32) : Int32 := if (12 - (if 0 ≤ (a - b) then (a - b) else 0 - (a - b))) < (if 0 ≤ (a - b) then (a - b) else 0 - (a - b)) then (12 - (if 0 ≤ (a - b) then (a - b) else 0 - (a - b))) else (if 0 ≤ (a - b) then (a - b) else 0 - (a - b))
set_option maxHeartbeats 4000000 in
set_option maxRecDepth 100000 in
theorem c_X9_hoursApart {cy : ClassId × ClassId} {ad : Nat → Nat} {D : va_G} {l : Launch} (S : PS) (a : Int32) (b : Int32)  : PMi cy GC ad D l yX9_hoursApart (wA yX9_hoursApart cX9_hoursApart 3 (some .int)) rmX9_hoursApart [vi a, vi b] S (fun x S' => x = (fX9_hoursApart S a b) ∧ S' = S) := by
  refine PM.of (lv := [(0, vi a), (1, vi b)]) GC_ok (by decide) (Nat.le_of_ble_eq_true rfl) rfl (by simp) ?_
  intro p e s m args below meth c A hM
  refine w_iln (q := 0) (n := 1) hM (dtab_at okX9_hoursApart 0 rfl) rfl rfl ?_
  refine w_iln (q := 1) (n := 2) hM (dtab_at okX9_hoursApart 1 rfl) rfl rfl ?_
  refine w_isub (n := 3) hM (dtab_at okX9_hoursApart 2 rfl) rfl ?_
  refine w_abs (n := 6) hM ⟨lkM_X9_275, mS_J9_abs_0f7a4, iz_J9, mC_J9_abs_0f7a4⟩ (by decide) (Nat.le_of_ble_eq_true rfl) (dtab_at okX9_hoursApart 3 rfl) rfl ?_
  refine w_isn (n := 7) (lv' := [(2, vi (if 0 ≤ (a - b) then (a - b) else 0 - (a - b))), (0, vi a), (1, vi b)]) hM (dtab_at okX9_hoursApart 4 rfl) (by decide) rfl rfl ?_
  refine w_iln (q := 0) (n := 8) hM (dtab_at okX9_hoursApart 5 rfl) rfl rfl ?_
  refine w_bi (n := 10) hM 12 (dtab_at okX9_hoursApart 6 rfl) (by decide) rfl ?_
  refine w_iln (q := 0) (n := 11) hM (dtab_at okX9_hoursApart 7 rfl) rfl rfl ?_
  refine w_isub (n := 12) hM (dtab_at okX9_hoursApart 8 rfl) rfl ?_
  refine w_min (n := 15) hM ⟨lkM_X9_280, mS_J9_min_7cf53, iz_J9, mC_J9_min_7cf53⟩ (by decide) (Nat.le_of_ble_eq_true rfl) (dtab_at okX9_hoursApart 9 rfl) rfl ?_
  exact r_i hM (dtab_at okX9_hoursApart 10 rfl) ⟨by rw [fX9_hoursApart], rfl⟩
def fX9_found (S : PS) (a : Int32) : Int32 × PS := (((-10) - a), (sti S 0 9 a))
set_option maxHeartbeats 4000000 in
set_option maxRecDepth 100000 in
theorem c_X9_found {cy : ClassId × ClassId} {ad : Nat → Nat} {D : va_G} {l : Launch} (S : PS) (a : Int32)  : PMi cy GC ad D l yX9_found (wA yX9_found cX9_found 2 (some .int)) rmX9_found [vr 9 0, vi a] S (fun x S' => (x, S') = (fX9_found S a)) := by
  refine PM.of (lv := [(0, vr 9 0), (1, vi a)]) GC_ok (by decide) (Nat.le_of_ble_eq_true rfl) rfl (by simp) ?_
  intro p e s m args below meth c A hM
  refine w_aln (q := 0) (n := 1) hM (dtab_at okX9_found 0 rfl) rfl rfl ?_
  refine w_iln (q := 1) (n := 2) hM (dtab_at okX9_found 1 rfl) rfl rfl ?_
  refine w_put (C := RX9) (T := TX9) (i := 9) (ty := .int) (n := 5) hM rfl (by decide) ly_X9 tyX9_ok nmX9 lkF_X9_61 rfl (by decide +kernel) rfl rfl (dtab_at okX9_found 2 rfl) rfl ?_
  refine w_bi (n := 7) hM (-10) (dtab_at okX9_found 3 rfl) (by decide) rfl ?_
  refine w_iln (q := 1) (n := 8) hM (dtab_at okX9_found 4 rfl) rfl rfl ?_
  refine w_isub (n := 9) hM (dtab_at okX9_found 5 rfl) rfl ?_
  exact r_i hM (dtab_at okX9_found 6 rfl) (by rw [fX9_found])
def fX9_runAt (S : PS) (a : Int32) : Option (Nat × Nat) := if a = 0 then some (6, 1) else (if a = 1 then some (6, 2) else none)
set_option maxHeartbeats 4000000 in
set_option maxRecDepth 100000 in
theorem c_X9_runAt {cy : ClassId × ClassId} {ad : Nat → Nat} {D : va_G} {l : Launch} (S : PS) (a : Int32)  : PMr cy GC ad D l yX9_runAt (wA yX9_runAt cX9_runAt 2 (some (.object "PigLine$Run"))) rmX9_runAt [vr 9 0, vi a] S (fun x S' => x = (fX9_runAt S a) ∧ S' = S) := by
  refine PM.of (lv := [(0, vr 9 0), (1, vi a)]) GC_ok (by decide) (Nat.le_of_ble_eq_true rfl) rfl (by simp) ?_
  intro p e s m args below meth c A hM
  refine w_iln (q := 1) (n := 1) hM (dtab_at okX9_runAt 0 rfl) rfl rfl ?_
  refine w_if_ne (n := 9) (n2 := 4) hM (dtab_at okX9_runAt 1 rfl) (by decide) rfl (fun h1 => ?_) (fun h1 => ?_)
  · skip
    refine w_iln (q := 1) (n := 10) hM (dtab_at okX9_runAt 5 rfl) rfl rfl ?_
    refine w_ic (n := 11) hM 1 (dtab_at okX9_runAt 6 rfl) (by decide) rfl ?_
    refine w_ic_ne (n := 21) (n2 := 14) hM (dtab_at okX9_runAt 7 rfl) (by decide) rfl (fun h11 => ?_) (fun h11 => ?_)
    · skip
      refine w_null (n := 22) hM (dtab_at okX9_runAt 11 rfl) rfl ?_
      exact r_a hM (dtab_at okX9_runAt 12 rfl) ⟨by rw [fX9_runAt, if_neg h1, if_neg h11], rfl⟩
    · skip
      refine w_aln (q := 0) (n := 15) hM (dtab_at okX9_runAt 8 rfl) rfl rfl ?_
      refine w_getr (C := RX9) (T := TX9) (i := 1) (k2 := 6) (q := 2) (n := 18) hM rfl (by decide) (fun _ => rfl) ly_X9 lkF_X9_16 (dtab_at okX9_runAt 9 rfl) rfl ?_
      refine w_goto (n := 22) hM (dtab_at okX9_runAt 10 rfl) (by decide) ?_
      exact r_a hM (dtab_at okX9_runAt 12 rfl) ⟨by rw [fX9_runAt, if_neg h1, if_pos h11], rfl⟩
  · skip
    refine w_aln (q := 0) (n := 5) hM (dtab_at okX9_runAt 2 rfl) rfl rfl ?_
    refine w_getr (C := RX9) (T := TX9) (i := 0) (k2 := 6) (q := 1) (n := 8) hM rfl (by decide) (fun _ => rfl) ly_X9 lkF_X9_10 (dtab_at okX9_runAt 3 rfl) rfl ?_
    exact r_a hM (dtab_at okX9_runAt 4 rfl) ⟨by rw [fX9_runAt, if_pos h1], rfl⟩
def fX5_isLost (S : PS) (j : Nat) : Int32 := if (S.1 j 1) = (-1) then 1 else 0
set_option maxHeartbeats 4000000 in
set_option maxRecDepth 100000 in
theorem c_X5_isLost {cy : ClassId × ClassId} {ad : Nat → Nat} {D : va_G} {l : Launch} (S : PS) (j : Nat)  : PMi cy GC ad D l yX5_isLost (wA yX5_isLost cX5_isLost 1 (some .boolean)) rmX5_isLost [vr 5 j] S (fun x S' => x = (fX5_isLost S j) ∧ S' = S) := by
  refine PM.of (lv := [(0, vr 5 j)]) GC_ok (by decide) (Nat.le_of_ble_eq_true rfl) rfl (by simp) ?_
  intro p e s m args below meth c A hM
  refine w_aln (q := 0) (n := 1) hM (dtab_at okX5_isLost 0 rfl) rfl rfl ?_
  refine w_geti (C := RX5) (T := TX5) (i := 1) (n := 4) hM rfl (by decide) ly_X5 lkF_X5_15 (dtab_at okX5_isLost 1 rfl) rfl ?_
  refine w_ic (n := 5) hM (-1) (dtab_at okX5_isLost 2 rfl) (by decide) rfl ?_
  refine w_ic_ne (n := 12) (n2 := 8) hM (dtab_at okX5_isLost 3 rfl) (by decide) rfl (fun h5 => ?_) (fun h5 => ?_)
  · skip
    refine w_ic (n := 13) hM 0 (dtab_at okX5_isLost 6 rfl) (by decide) rfl ?_
    exact r_z hM (by decide) (dtab_at okX5_isLost 7 rfl) ⟨by rw [fX5_isLost, if_neg h5], rfl⟩
  · skip
    refine w_ic (n := 9) hM 1 (dtab_at okX5_isLost 4 rfl) (by decide) rfl ?_
    refine w_goto (n := 13) hM (dtab_at okX5_isLost 5 rfl) (by decide) ?_
    exact r_z hM (by decide) (dtab_at okX5_isLost 7 rfl) ⟨by rw [fX5_isLost, if_pos h5], rfl⟩
def fX5_drop (S : PS) (j : Nat) : PS := (sti (sti S j 1 (-1)) j 2 0)
set_option maxHeartbeats 4000000 in
set_option maxRecDepth 100000 in
theorem c_X5_drop {cy : ClassId × ClassId} {ad : Nat → Nat} {D : va_G} {l : Launch} (S : PS) (j : Nat)  : PMv cy GC ad D l yX5_drop (wA yX5_drop cX5_drop 1 none) rmX5_drop [vr 5 j] S (fun S' => S' = (fX5_drop S j)) := by
  refine PM.of (lv := [(0, vr 5 j)]) GC_ok (by decide) (Nat.le_of_ble_eq_true rfl) rfl (by simp) ?_
  intro p e s m args below meth c A hM
  refine w_aln (q := 0) (n := 1) hM (dtab_at okX5_drop 0 rfl) rfl rfl ?_
  refine w_ic (n := 2) hM (-1) (dtab_at okX5_drop 1 rfl) (by decide) rfl ?_
  refine w_put (C := RX5) (T := TX5) (i := 1) (ty := .int) (n := 5) hM rfl (by decide) ly_X5 tyX5_ok nmX5 lkF_X5_15 rfl (by decide +kernel) rfl rfl (dtab_at okX5_drop 2 rfl) rfl ?_
  refine w_aln (q := 0) (n := 6) hM (dtab_at okX5_drop 3 rfl) rfl rfl ?_
  refine w_ic (n := 7) hM 0 (dtab_at okX5_drop 4 rfl) (by decide) rfl ?_
  refine w_put (C := RX5) (T := TX5) (i := 2) (ty := .int) (n := 10) hM rfl (by decide) ly_X5 tyX5_ok nmX5 lkF_X5_19 rfl (by decide +kernel) rfl rfl (dtab_at okX5_drop 5 rfl) rfl ?_
  exact r_v hM (dtab_at okX5_drop 6 rfl) (by rw [fX5_drop])
def fX5_hasItem (S : PS) (j : Nat) (i : Int32) : Int32 := if i < 0 then 0 else (if (S.1 j 2) ≤ i then 0 else 1)
set_option maxHeartbeats 4000000 in
set_option maxRecDepth 100000 in
theorem c_X5_hasItem {cy : ClassId × ClassId} {ad : Nat → Nat} {D : va_G} {l : Launch} (S : PS) (j : Nat) (i : Int32)  : PMi cy GC ad D l yX5_hasItem (wA yX5_hasItem cX5_hasItem 2 (some .boolean)) rmX5_hasItem [vr 5 j, vi i] S (fun x S' => x = (fX5_hasItem S j i) ∧ S' = S) := by
  refine PM.of (lv := [(0, vr 5 j), (1, vi i)]) GC_ok (by decide) (Nat.le_of_ble_eq_true rfl) rfl (by simp) ?_
  intro p e s m args below meth c A hM
  refine w_iln (q := 1) (n := 1) hM (dtab_at okX5_hasItem 0 rfl) rfl rfl ?_
  refine w_if_lt (n := 16) (n2 := 4) hM (dtab_at okX5_hasItem 1 rfl) (by decide) rfl (fun h1 => ?_) (fun h1 => ?_)
  · skip
    refine w_ic (n := 17) hM 0 (dtab_at okX5_hasItem 8 rfl) (by decide) rfl ?_
    exact r_z hM (by decide) (dtab_at okX5_hasItem 9 rfl) ⟨by rw [fX5_hasItem, if_pos h1], rfl⟩
  · skip
    refine w_iln (q := 1) (n := 5) hM (dtab_at okX5_hasItem 2 rfl) rfl rfl ?_
    refine w_aln (q := 0) (n := 6) hM (dtab_at okX5_hasItem 3 rfl) rfl rfl ?_
    refine w_geti (C := RX5) (T := TX5) (i := 2) (n := 9) hM rfl (by decide) ly_X5 lkF_X5_19 (dtab_at okX5_hasItem 4 rfl) rfl ?_
    refine w_ic_ge (n := 16) (n2 := 12) hM (dtab_at okX5_hasItem 5 rfl) (by decide) rfl (fun h9 => ?_) (fun h9 => ?_)
    · skip
      refine w_ic (n := 17) hM 0 (dtab_at okX5_hasItem 8 rfl) (by decide) rfl ?_
      exact r_z hM (by decide) (dtab_at okX5_hasItem 9 rfl) ⟨by rw [fX5_hasItem, if_neg h1, if_pos h9], rfl⟩
    · skip
      refine w_ic (n := 13) hM 1 (dtab_at okX5_hasItem 6 rfl) (by decide) rfl ?_
      refine w_goto (n := 17) hM (dtab_at okX5_hasItem 7 rfl) (by decide) ?_
      exact r_z hM (by decide) (dtab_at okX5_hasItem 9 rfl) ⟨by rw [fX5_hasItem, if_neg h1, if_neg h9], rfl⟩
def fX5_hasItems (S : PS) (j : Nat) (i : Int32) (k : Int32) : Int32 := if i < 0 then 0 else (if k < 0 then 0 else (if (S.1 j 2) < k then 0 else (if ((S.1 j 2) - k) < i then 0 else 1)))
set_option maxHeartbeats 4000000 in
set_option maxRecDepth 100000 in
theorem c_X5_hasItems {cy : ClassId × ClassId} {ad : Nat → Nat} {D : va_G} {l : Launch} (S : PS) (j : Nat) (i : Int32) (k : Int32)  : PMi cy GC ad D l yX5_hasItems (wA yX5_hasItems cX5_hasItems 3 (some .boolean)) rmX5_hasItems [vr 5 j, vi i, vi k] S (fun x S' => x = (fX5_hasItems S j i k) ∧ S' = S) := by
  refine PM.of (lv := [(0, vr 5 j), (1, vi i), (2, vi k)]) GC_ok (by decide) (Nat.le_of_ble_eq_true rfl) rfl (by simp) ?_
  intro p e s m args below meth c A hM
  refine w_iln (q := 1) (n := 1) hM (dtab_at okX5_hasItems 0 rfl) rfl rfl ?_
  refine w_if_lt (n := 30) (n2 := 4) hM (dtab_at okX5_hasItems 1 rfl) (by decide) rfl (fun h1 => ?_) (fun h1 => ?_)
  · skip
    refine w_ic (n := 31) hM 0 (dtab_at okX5_hasItems 16 rfl) (by decide) rfl ?_
    exact r_z hM (by decide) (dtab_at okX5_hasItems 17 rfl) ⟨by rw [fX5_hasItems, if_pos h1], rfl⟩
  · skip
    refine w_iln (q := 2) (n := 5) hM (dtab_at okX5_hasItems 2 rfl) rfl rfl ?_
    refine w_if_lt (n := 30) (n2 := 8) hM (dtab_at okX5_hasItems 3 rfl) (by decide) rfl (fun h5 => ?_) (fun h5 => ?_)
    · skip
      refine w_ic (n := 31) hM 0 (dtab_at okX5_hasItems 16 rfl) (by decide) rfl ?_
      exact r_z hM (by decide) (dtab_at okX5_hasItems 17 rfl) ⟨by rw [fX5_hasItems, if_neg h1, if_pos h5], rfl⟩
    · skip
      refine w_iln (q := 2) (n := 9) hM (dtab_at okX5_hasItems 4 rfl) rfl rfl ?_
      refine w_aln (q := 0) (n := 10) hM (dtab_at okX5_hasItems 5 rfl) rfl rfl ?_
      refine w_geti (C := RX5) (T := TX5) (i := 2) (n := 13) hM rfl (by decide) ly_X5 lkF_X5_19 (dtab_at okX5_hasItems 6 rfl) rfl ?_
      refine w_ic_gt (n := 30) (n2 := 16) hM (dtab_at okX5_hasItems 7 rfl) (by decide) rfl (fun h13 => ?_) (fun h13 => ?_)
      · skip
        refine w_ic (n := 31) hM 0 (dtab_at okX5_hasItems 16 rfl) (by decide) rfl ?_
        exact r_z hM (by decide) (dtab_at okX5_hasItems 17 rfl) ⟨by rw [fX5_hasItems, if_neg h1, if_neg h5, if_pos h13], rfl⟩
      · skip
        refine w_iln (q := 1) (n := 17) hM (dtab_at okX5_hasItems 8 rfl) rfl rfl ?_
        refine w_aln (q := 0) (n := 18) hM (dtab_at okX5_hasItems 9 rfl) rfl rfl ?_
        refine w_geti (C := RX5) (T := TX5) (i := 2) (n := 21) hM rfl (by decide) ly_X5 lkF_X5_19 (dtab_at okX5_hasItems 10 rfl) rfl ?_
        refine w_iln (q := 2) (n := 22) hM (dtab_at okX5_hasItems 11 rfl) rfl rfl ?_
        refine w_isub (n := 23) hM (dtab_at okX5_hasItems 12 rfl) rfl ?_
        refine w_ic_gt (n := 30) (n2 := 26) hM (dtab_at okX5_hasItems 13 rfl) (by decide) rfl (fun h23 => ?_) (fun h23 => ?_)
        · skip
          refine w_ic (n := 31) hM 0 (dtab_at okX5_hasItems 16 rfl) (by decide) rfl ?_
          exact r_z hM (by decide) (dtab_at okX5_hasItems 17 rfl) ⟨by rw [fX5_hasItems, if_neg h1, if_neg h5, if_neg h13, if_pos h23], rfl⟩
        · skip
          refine w_ic (n := 27) hM 1 (dtab_at okX5_hasItems 14 rfl) (by decide) rfl ?_
          refine w_goto (n := 31) hM (dtab_at okX5_hasItems 15 rfl) (by decide) ?_
          exact r_z hM (by decide) (dtab_at okX5_hasItems 17 rfl) ⟨by rw [fX5_hasItems, if_neg h1, if_neg h5, if_neg h13, if_neg h23], rfl⟩
def fX5_faultOf (S : PS) (j : Nat) (f : Int32) (i : Int32) : Int32 := if (fX5_isLost S j) = 0 then (if (S.1 j 1) = f then (if (fX5_hasItem S j i) = 0 then 2 else 0) else 3) else 1
set_option maxHeartbeats 4000000 in
set_option maxRecDepth 100000 in
theorem c_X5_faultOf {cy : ClassId × ClassId} {ad : Nat → Nat} {D : va_G} {l : Launch} (S : PS) (j : Nat) (f : Int32) (i : Int32)  : PMi cy GC ad D l yX5_faultOf (wA yX5_faultOf cX5_faultOf 3 (some .int)) rmX5_faultOf [vr 5 j, vi f, vi i] S (fun x S' => x = (fX5_faultOf S j f i) ∧ S' = S) := by
  refine PM.of (lv := [(0, vr 5 j), (1, vi f), (2, vi i)]) GC_ok (by decide) (Nat.le_of_ble_eq_true rfl) rfl (by simp) ?_
  intro p e s m args below meth c A hM
  refine w_aln (q := 0) (n := 1) hM (dtab_at okX5_faultOf 0 rfl) rfl rfl ?_
  refine w_callVi (n := 4) (As := []) (rest := []) (k := 5) (j := j) (C := RX5) (T := TX5) (N := 3) hM (c_X5_isLost S j) lkM_X5_28 mv_X5_isLost (by decide) rfl (by decide) rfl (Nat.le_of_ble_eq_true rfl) rfl (dtab_at okX5_faultOf 1 rfl) rfl (fun x0 S0 hp0 => ?_)
  obtain ⟨hx_, hs_⟩ := hp0
  have hs_ := hs_.symm
  subst hs_
  subst hx_
  refine w_if_eq (n := 9) (n2 := 7) hM (dtab_at okX5_faultOf 2 rfl) (by decide) rfl (fun h4 => ?_) (fun h4 => ?_)
  · skip
    refine w_aln (q := 0) (n := 10) hM (dtab_at okX5_faultOf 5 rfl) rfl rfl ?_
    refine w_geti (C := RX5) (T := TX5) (i := 1) (n := 13) hM rfl (by decide) ly_X5 lkF_X5_15 (dtab_at okX5_faultOf 6 rfl) rfl ?_
    refine w_iln (q := 1) (n := 14) hM (dtab_at okX5_faultOf 7 rfl) rfl rfl ?_
    refine w_ic_eq (n := 19) (n2 := 17) hM (dtab_at okX5_faultOf 8 rfl) (by decide) rfl (fun h14 => ?_) (fun h14 => ?_)
    · skip
      refine w_aln (q := 0) (n := 20) hM (dtab_at okX5_faultOf 11 rfl) rfl rfl ?_
      refine w_iln (q := 2) (n := 21) hM (dtab_at okX5_faultOf 12 rfl) rfl rfl ?_
      refine w_callVi (n := 24) (As := [vi i]) (rest := []) (k := 5) (j := j) (C := RX5) (T := TX5) (N := 3) hM (c_X5_hasItem S j i) lkM_X5_32 mv_X5_hasItem (by decide) rfl (by decide) rfl (Nat.le_of_ble_eq_true rfl) rfl (dtab_at okX5_faultOf 13 rfl) rfl (fun x1 S1 hp1 => ?_)
      obtain ⟨hx_, hs_⟩ := hp1
      have hs_ := hs_.symm
      subst hs_
      subst hx_
      refine w_if_eq (n := 31) (n2 := 27) hM (dtab_at okX5_faultOf 14 rfl) (by decide) rfl (fun h24 => ?_) (fun h24 => ?_)
      · skip
        refine w_ic (n := 32) hM 2 (dtab_at okX5_faultOf 17 rfl) (by decide) rfl ?_
        exact r_i hM (dtab_at okX5_faultOf 18 rfl) ⟨by rw [fX5_faultOf, if_pos h4, if_pos h14, if_pos h24], rfl⟩
      · skip
        refine w_ic (n := 28) hM 0 (dtab_at okX5_faultOf 15 rfl) (by decide) rfl ?_
        refine w_goto (n := 32) hM (dtab_at okX5_faultOf 16 rfl) (by decide) ?_
        exact r_i hM (dtab_at okX5_faultOf 18 rfl) ⟨by rw [fX5_faultOf, if_pos h4, if_pos h14, if_neg h24], rfl⟩
    · skip
      refine w_ic (n := 18) hM 3 (dtab_at okX5_faultOf 9 rfl) (by decide) rfl ?_
      exact r_i hM (dtab_at okX5_faultOf 10 rfl) ⟨by rw [fX5_faultOf, if_pos h4, if_neg h14], rfl⟩
  · skip
    refine w_ic (n := 8) hM 1 (dtab_at okX5_faultOf 3 rfl) (by decide) rfl ?_
    exact r_i hM (dtab_at okX5_faultOf 4 rfl) ⟨by rw [fX5_faultOf, if_neg h4], rfl⟩
def LX5_begin_18 (N : Nat) : Nat → PS → Nat → Int32 → Option (PS)
  | 0, _, _, _ => none
  | n + 1, S, v0, v3 => (if (S.1 v0 2) ≤ v3 then (some S) else (if v3 < 0 ∨ 150 ≤ v3.toNatClampNeg then none else (LX5_begin_18 N n (sta S (v0 + 8) v3.toNatClampNeg 0) v0 (v3 + 1))))
set_option maxHeartbeats 4000000 in
set_option maxRecDepth 100000 in
theorem wLX5_begin_18 {cy : ClassId × ClassId} {ad : Nat → Nat} {D : va_G} {p : Program} {l : Launch} {e : Env} {s : State} {m : MethodId} {args : Array Value} {below : List Frame} {meth : Method} {c : Code} {A : Nat → Prop} (hM : MX cy GC ad D p s m args meth c cX5_begin 4 RX5 none A) (N : Nat) (r : PS) : ∀ (n : Nat) (S : PS) (v0 : Nat) (v3 : Int32), LX5_begin_18 N n S v0 v3 = some r → WW cy GC ad D p l e rmX5_begin s m args below meth c 4 A (pov (fun S' => S' = r)) 18 [(0, vr 5 v0), (3, vi v3)] [] S := by
  intro n
  induction n with
  | zero => intro S v0 v3 h; rw [LX5_begin_18] at h; cases h
  | succ n ih =>
    intro S v0 v3 h
    rw [LX5_begin_18] at h
    refine w_iln (q := 1) (n := 19) hM (dtab_at okX5_begin 10 rfl) rfl rfl ?_
    refine w_aln (q := 0) (n := 20) hM (dtab_at okX5_begin 11 rfl) rfl rfl ?_
    refine w_geti (C := RX5) (T := TX5) (i := 2) (n := 23) hM rfl (by decide) ly_X5 lkF_X5_19 (dtab_at okX5_begin 12 rfl) rfl ?_
    refine w_ic_ge (n := 39) (n2 := 26) hM (dtab_at okX5_begin 13 rfl) (by decide) rfl (fun h23 => ?_) (fun h23 => ?_)
    · skip
      rw [if_pos h23] at h
      exact r_v hM (dtab_at okX5_begin 21 rfl) (Option.some.inj h)
    · skip
      rw [if_neg h23] at h
      refine w_aln (q := 0) (n := 27) hM (dtab_at okX5_begin 14 rfl) rfl rfl ?_
      refine w_getr (C := RX5) (T := TX5) (i := 0) (k2 := 250) (q := (v0 + 8)) (n := 30) hM rfl (by decide) rfc_5_0 ly_X5 lkF_X5_9 (dtab_at okX5_begin 15 rfl) rfl ?_
      refine w_iln (q := 1) (n := 31) hM (dtab_at okX5_begin 16 rfl) rfl rfl ?_
      refine w_ic (n := 32) hM 0 (dtab_at okX5_begin 17 rfl) (by decide) rfl ?_
      by_cases hg32 : v3 < 0 ∨ 150 ≤ v3.toNatClampNeg
      · rw [if_pos hg32] at h; cases h
      rw [if_neg hg32] at h
      refine w_ast (nn := 150) (n := 33) hM rfl hg32 (dtab_at okX5_begin 18 rfl) rfl ?_
      refine w_iinc (q := 1) (n := 36) (v := (v3 + 1)) (lv' := [(3, vi (v3 + 1)), (0, vr 5 v0)]) hM (dtab_at okX5_begin 19 rfl) rfl rfl (by decide) rfl rfl ?_
      refine w_goto (n := 18) hM (dtab_at okX5_begin 20 rfl) (by decide) ?_
      refine WW.lvs [1, 0] (lv2 := [(0, vr 5 v0), (3, vi (v3 + 1))]) rfl ?_
      exact ih (sta S (v0 + 8) v3.toNatClampNeg 0) v0 (v3 + 1) h
def fX5_begin (N : Nat) (S : PS) (j : Nat) (f : Int32) (k : Int32) : Option (PS) := (LX5_begin_18 N N (sti (sti S j 1 f) j 2 (if 150 < k then 150 else k)) j 0)
set_option maxHeartbeats 4000000 in
set_option maxRecDepth 100000 in
theorem c_X5_begin {cy : ClassId × ClassId} {ad : Nat → Nat} {D : va_G} {l : Launch} (N : Nat) (S : PS) (j : Nat) (f : Int32) (k : Int32) (r : PS) (h : fX5_begin N S j f k = some r) : PMv cy GC ad D l yX5_begin (wA yX5_begin cX5_begin 4 none) rmX5_begin [vr 5 j, vi f, vi k] S (fun S' => S' = r) := by
  refine PM.of (lv := [(0, vr 5 j), (1, vi f), (2, vi k)]) GC_ok (by decide) (Nat.le_of_ble_eq_true rfl) rfl (by simp) ?_
  intro p e s m args below meth c A hM
  rw [fX5_begin] at h
  refine w_aln (q := 0) (n := 1) hM (dtab_at okX5_begin 0 rfl) rfl rfl ?_
  refine w_iln (q := 1) (n := 2) hM (dtab_at okX5_begin 1 rfl) rfl rfl ?_
  refine w_put (C := RX5) (T := TX5) (i := 1) (ty := .int) (n := 5) hM rfl (by decide) ly_X5 tyX5_ok nmX5 lkF_X5_15 rfl (by decide +kernel) rfl rfl (dtab_at okX5_begin 2 rfl) rfl ?_
  refine w_aln (q := 0) (n := 6) hM (dtab_at okX5_begin 3 rfl) rfl rfl ?_
  refine w_iln (q := 2) (n := 7) hM (dtab_at okX5_begin 4 rfl) rfl rfl ?_
  refine w_si (n := 10) hM 150 (dtab_at okX5_begin 5 rfl) (by decide) rfl ?_
  refine w_min (n := 13) hM ⟨lkM_X5_22, mS_J9_min_7cf53, iz_J9, mC_J9_min_7cf53⟩ (by decide) (Nat.le_of_ble_eq_true rfl) (dtab_at okX5_begin 6 rfl) rfl ?_
  refine w_put (C := RX5) (T := TX5) (i := 2) (ty := .int) (n := 16) hM rfl (by decide) ly_X5 tyX5_ok nmX5 lkF_X5_19 rfl (by decide +kernel) rfl rfl (dtab_at okX5_begin 7 rfl) rfl ?_
  refine w_ic (n := 17) hM 0 (dtab_at okX5_begin 8 rfl) (by decide) rfl ?_
  refine w_isn (n := 18) (lv' := [(3, vi 0), (0, vr 5 j), (1, vi f), (2, vi k)]) hM (dtab_at okX5_begin 9 rfl) (by decide) rfl rfl ?_
  refine WW.lvs [1, 0] (lv2 := [(0, vr 5 j), (3, vi 0)]) rfl ?_
  exact wLX5_begin_18 hM N r N (sti (sti S j 1 f) j 2 (if 150 < k then 150 else k)) j 0 h
def fX5_store (N : Nat) (S : PS) (j : Nat) (i : Int32) (v : Int32) : Option (PS) := (if (fX5_hasItem S j i) = 0 then (some S) else (if (S.1 j 1) = 0 then (if i < 0 ∨ 150 ≤ i.toNatClampNeg then none else (some (sta S (j + 8) i.toNatClampNeg v.toInt8.toInt32))) else (if (S.1 j 1) = 1 then (if i < 0 ∨ 150 ≤ i.toNatClampNeg then none else (some (sta S (j + 8) i.toNatClampNeg v.toInt16.toInt32))) else (if i < 0 ∨ 150 ≤ i.toNatClampNeg then none else (some (sta S (j + 8) i.toNatClampNeg v))))))
set_option maxHeartbeats 4000000 in
set_option maxRecDepth 100000 in
theorem c_X5_store {cy : ClassId × ClassId} {ad : Nat → Nat} {D : va_G} {l : Launch} (N : Nat) (S : PS) (j : Nat) (i : Int32) (v : Int32) (r : PS) (h : fX5_store N S j i v = some r) : PMv cy GC ad D l yX5_store (wA yX5_store cX5_store 3 none) rmX5_store [vr 5 j, vi i, vi v] S (fun S' => S' = r) := by
  refine PM.of (lv := [(0, vr 5 j), (1, vi i), (2, vi v)]) GC_ok (by decide) (Nat.le_of_ble_eq_true rfl) rfl (by simp) ?_
  intro p e s m args below meth c A hM
  rw [fX5_store] at h
  refine w_aln (q := 0) (n := 1) hM (dtab_at okX5_store 0 rfl) rfl rfl ?_
  refine w_iln (q := 1) (n := 2) hM (dtab_at okX5_store 1 rfl) rfl rfl ?_
  refine w_callVi (n := 5) (As := [vi i]) (rest := []) (k := 5) (j := j) (C := RX5) (T := TX5) (N := 3) hM (c_X5_hasItem S j i) lkM_X5_32 mv_X5_hasItem (by decide) rfl (by decide) rfl (Nat.le_of_ble_eq_true rfl) rfl (dtab_at okX5_store 2 rfl) rfl (fun x0 S0 hp0 => ?_)
  obtain ⟨hx_, hs_⟩ := hp0
  have hs_ := hs_.symm
  subst hs_
  subst hx_
  refine w_if_ne (n := 9) (n2 := 8) hM (dtab_at okX5_store 3 rfl) (by decide) rfl (fun h5 => ?_) (fun h5 => ?_)
  · skip
    rw [if_neg h5] at h
    refine w_aln (q := 0) (n := 10) hM (dtab_at okX5_store 5 rfl) rfl rfl ?_
    refine w_geti (C := RX5) (T := TX5) (i := 1) (n := 13) hM rfl (by decide) ly_X5 lkF_X5_15 (dtab_at okX5_store 6 rfl) rfl ?_
    refine w_if_ne (n := 27) (n2 := 16) hM (dtab_at okX5_store 7 rfl) (by decide) rfl (fun h13 => ?_) (fun h13 => ?_)
    · skip
      rw [if_neg h13] at h
      refine w_aln (q := 0) (n := 28) hM (dtab_at okX5_store 15 rfl) rfl rfl ?_
      refine w_geti (C := RX5) (T := TX5) (i := 1) (n := 31) hM rfl (by decide) ly_X5 lkF_X5_15 (dtab_at okX5_store 16 rfl) rfl ?_
      refine w_ic (n := 32) hM 1 (dtab_at okX5_store 17 rfl) (by decide) rfl ?_
      refine w_ic_ne (n := 46) (n2 := 35) hM (dtab_at okX5_store 18 rfl) (by decide) rfl (fun h32 => ?_) (fun h32 => ?_)
      · skip
        rw [if_neg h32] at h
        refine w_aln (q := 0) (n := 47) hM (dtab_at okX5_store 26 rfl) rfl rfl ?_
        refine w_getr (C := RX5) (T := TX5) (i := 0) (k2 := 250) (q := (j + 8)) (n := 50) hM rfl (by decide) rfc_5_0 ly_X5 lkF_X5_9 (dtab_at okX5_store 27 rfl) rfl ?_
        refine w_iln (q := 1) (n := 51) hM (dtab_at okX5_store 28 rfl) rfl rfl ?_
        refine w_iln (q := 2) (n := 52) hM (dtab_at okX5_store 29 rfl) rfl rfl ?_
        by_cases hg52 : i < 0 ∨ 150 ≤ i.toNatClampNeg
        · rw [if_pos hg52] at h; cases h
        rw [if_neg hg52] at h
        refine w_ast (nn := 150) (n := 53) hM rfl hg52 (dtab_at okX5_store 30 rfl) rfl ?_
        exact r_v hM (dtab_at okX5_store 31 rfl) (Option.some.inj h)
      · skip
        rw [if_pos h32] at h
        refine w_aln (q := 0) (n := 36) hM (dtab_at okX5_store 19 rfl) rfl rfl ?_
        refine w_getr (C := RX5) (T := TX5) (i := 0) (k2 := 250) (q := (j + 8)) (n := 39) hM rfl (by decide) rfc_5_0 ly_X5 lkF_X5_9 (dtab_at okX5_store 20 rfl) rfl ?_
        refine w_iln (q := 1) (n := 40) hM (dtab_at okX5_store 21 rfl) rfl rfl ?_
        refine w_iln (q := 2) (n := 41) hM (dtab_at okX5_store 22 rfl) rfl rfl ?_
        refine w_i2s (n := 42) hM (dtab_at okX5_store 23 rfl) rfl ?_
        by_cases hg42 : i < 0 ∨ 150 ≤ i.toNatClampNeg
        · rw [if_pos hg42] at h; cases h
        rw [if_neg hg42] at h
        refine w_ast (nn := 150) (n := 43) hM rfl hg42 (dtab_at okX5_store 24 rfl) rfl ?_
        refine w_goto (n := 53) hM (dtab_at okX5_store 25 rfl) (by decide) ?_
        exact r_v hM (dtab_at okX5_store 31 rfl) (Option.some.inj h)
    · skip
      rw [if_pos h13] at h
      refine w_aln (q := 0) (n := 17) hM (dtab_at okX5_store 8 rfl) rfl rfl ?_
      refine w_getr (C := RX5) (T := TX5) (i := 0) (k2 := 250) (q := (j + 8)) (n := 20) hM rfl (by decide) rfc_5_0 ly_X5 lkF_X5_9 (dtab_at okX5_store 9 rfl) rfl ?_
      refine w_iln (q := 1) (n := 21) hM (dtab_at okX5_store 10 rfl) rfl rfl ?_
      refine w_iln (q := 2) (n := 22) hM (dtab_at okX5_store 11 rfl) rfl rfl ?_
      refine w_i2b (n := 23) hM (dtab_at okX5_store 12 rfl) rfl ?_
      by_cases hg23 : i < 0 ∨ 150 ≤ i.toNatClampNeg
      · rw [if_pos hg23] at h; cases h
      rw [if_neg hg23] at h
      refine w_ast (nn := 150) (n := 24) hM rfl hg23 (dtab_at okX5_store 13 rfl) rfl ?_
      refine w_goto (n := 53) hM (dtab_at okX5_store 14 rfl) (by decide) ?_
      exact r_v hM (dtab_at okX5_store 31 rfl) (Option.some.inj h)
  · skip
    rw [if_pos h5] at h
    exact r_v hM (dtab_at okX5_store 4 rfl) (Option.some.inj h)
def fX5_readingAt (N : Nat) (S : PS) (j : Nat) (i : Int32) : Option (Int32) := (if (fX5_hasItem S j i) = 0 then (some (-1)) else (if i < 0 ∨ 150 ≤ i.toNatClampNeg then none else (if (fX9_isWithin S (S.2 (j + 8) i.toNatClampNeg) 0 30000) = 0 then (some (-1)) else (if i < 0 ∨ 150 ≤ i.toNatClampNeg then none else (some (S.2 (j + 8) i.toNatClampNeg))))))
set_option maxHeartbeats 4000000 in
set_option maxRecDepth 100000 in
theorem c_X5_readingAt {cy : ClassId × ClassId} {ad : Nat → Nat} {D : va_G} {l : Launch} (N : Nat) (S : PS) (j : Nat) (i : Int32) (r : Int32) (h : fX5_readingAt N S j i = some r) : PMi cy GC ad D l yX5_readingAt (wA yX5_readingAt cX5_readingAt 2 (some .int)) rmX5_readingAt [vr 5 j, vi i] S (fun x S' => x = r ∧ S' = S) := by
  refine PM.of (lv := [(0, vr 5 j), (1, vi i)]) GC_ok (by decide) (Nat.le_of_ble_eq_true rfl) rfl (by simp) ?_
  intro p e s m args below meth c A hM
  rw [fX5_readingAt] at h
  obtain ⟨S0, hS⟩ : ∃ S0 : PS, S = S0 := ⟨S, rfl⟩
  rw [show (fun (x : Int32) (S' : PS) => x = r ∧ S' = S) = (fun x S' => x = r ∧ S' = S0) by rw [hS]]
  refine w_aln (q := 0) (n := 1) hM (dtab_at okX5_readingAt 0 rfl) rfl rfl ?_
  refine w_iln (q := 1) (n := 2) hM (dtab_at okX5_readingAt 1 rfl) rfl rfl ?_
  refine w_callVi (n := 5) (As := [vi i]) (rest := []) (k := 5) (j := j) (C := RX5) (T := TX5) (N := 3) hM (c_X5_hasItem S j i) lkM_X5_32 mv_X5_hasItem (by decide) rfl (by decide) rfl (Nat.le_of_ble_eq_true rfl) rfl (dtab_at okX5_readingAt 2 rfl) rfl (fun x0 S0 hp0 => ?_)
  obtain ⟨hx_, hs_⟩ := hp0
  have hs_ := hs_.symm
  subst hs_
  subst hx_
  refine w_if_eq (n := 24) (n2 := 8) hM (dtab_at okX5_readingAt 3 rfl) (by decide) rfl (fun h5 => ?_) (fun h5 => ?_)
  · skip
    rw [if_pos h5] at h
    refine w_ic (n := 25) hM (-1) (dtab_at okX5_readingAt 12 rfl) (by decide) rfl ?_
    exact r_i hM (dtab_at okX5_readingAt 13 rfl) ⟨Option.some.inj h, hS⟩
  · skip
    rw [if_neg h5] at h
    refine w_aln (q := 0) (n := 9) hM (dtab_at okX5_readingAt 4 rfl) rfl rfl ?_
    refine w_getr (C := RX5) (T := TX5) (i := 0) (k2 := 250) (q := (j + 8)) (n := 12) hM rfl (by decide) rfc_5_0 ly_X5 lkF_X5_9 (dtab_at okX5_readingAt 5 rfl) rfl ?_
    refine w_iln (q := 1) (n := 13) hM (dtab_at okX5_readingAt 6 rfl) rfl rfl ?_
    by_cases hg13 : i < 0 ∨ 150 ≤ i.toNatClampNeg
    · rw [if_pos hg13] at h; cases h
    rw [if_neg hg13] at h
    refine w_ald (nn := 150) (n := 14) hM rfl hg13 (dtab_at okX5_readingAt 7 rfl) rfl ?_
    refine w_ic (n := 15) hM 0 (dtab_at okX5_readingAt 8 rfl) (by decide) rfl ?_
    refine w_si (n := 18) hM 30000 (dtab_at okX5_readingAt 9 rfl) (by decide) rfl ?_
    refine w_callSNi (n := 21) (As := [vi (S.2 (j + 8) i.toNatClampNeg), vi 0, vi 30000]) (rest := []) hM (c_X9_isWithin S (S.2 (j + 8) i.toNatClampNeg) 0 30000) (fun h => h.1) ms_X9_isWithin (by decide) rfl (Nat.le_of_ble_eq_true rfl) rfl (dtab_at okX5_readingAt 10 rfl) rfl (fun x1 S1 hp1 => ?_)
    obtain ⟨hx_, hs_⟩ := hp1
    have hs_ := hs_.symm
    subst hs_
    subst hx_
    refine w_if_ne (n := 26) (n2 := 24) hM (dtab_at okX5_readingAt 11 rfl) (by decide) rfl (fun h21 => ?_) (fun h21 => ?_)
    · skip
      rw [if_neg h21] at h
      refine w_aln (q := 0) (n := 27) hM (dtab_at okX5_readingAt 14 rfl) rfl rfl ?_
      refine w_getr (C := RX5) (T := TX5) (i := 0) (k2 := 250) (q := (j + 8)) (n := 30) hM rfl (by decide) rfc_5_0 ly_X5 lkF_X5_9 (dtab_at okX5_readingAt 15 rfl) rfl ?_
      refine w_iln (q := 1) (n := 31) hM (dtab_at okX5_readingAt 16 rfl) rfl rfl ?_
      by_cases hg31 : i < 0 ∨ 150 ≤ i.toNatClampNeg
      · rw [if_pos hg31] at h; cases h
      rw [if_neg hg31] at h
      refine w_ald (nn := 150) (n := 32) hM rfl hg31 (dtab_at okX5_readingAt 17 rfl) rfl ?_
      exact r_i hM (dtab_at okX5_readingAt 18 rfl) ⟨Option.some.inj h, hS⟩
    · skip
      rw [if_pos h21] at h
      refine w_ic (n := 25) hM (-1) (dtab_at okX5_readingAt 12 rfl) (by decide) rfl ?_
      exact r_i hM (dtab_at okX5_readingAt 13 rfl) ⟨Option.some.inj h, hS⟩
def fX5_hasWeldAt (N : Nat) (S : PS) (j : Nat) (i : Int32) : Option (Int32) := (if (fX5_hasItem S j i) = 0 then (some 0) else (if i < 0 ∨ 150 ≤ i.toNatClampNeg then none else (if (S.2 (j + 8) i.toNatClampNeg) = 0 then (some 0) else (some 1))))
set_option maxHeartbeats 4000000 in
set_option maxRecDepth 100000 in
theorem c_X5_hasWeldAt {cy : ClassId × ClassId} {ad : Nat → Nat} {D : va_G} {l : Launch} (N : Nat) (S : PS) (j : Nat) (i : Int32) (r : Int32) (h : fX5_hasWeldAt N S j i = some r) : PMi cy GC ad D l yX5_hasWeldAt (wA yX5_hasWeldAt cX5_hasWeldAt 2 (some .boolean)) rmX5_hasWeldAt [vr 5 j, vi i] S (fun x S' => x = r ∧ S' = S) := by
  refine PM.of (lv := [(0, vr 5 j), (1, vi i)]) GC_ok (by decide) (Nat.le_of_ble_eq_true rfl) rfl (by simp) ?_
  intro p e s m args below meth c A hM
  rw [fX5_hasWeldAt] at h
  obtain ⟨S0, hS⟩ : ∃ S0 : PS, S = S0 := ⟨S, rfl⟩
  rw [show (fun (x : Int32) (S' : PS) => x = r ∧ S' = S) = (fun x S' => x = r ∧ S' = S0) by rw [hS]]
  refine w_aln (q := 0) (n := 1) hM (dtab_at okX5_hasWeldAt 0 rfl) rfl rfl ?_
  refine w_iln (q := 1) (n := 2) hM (dtab_at okX5_hasWeldAt 1 rfl) rfl rfl ?_
  refine w_callVi (n := 5) (As := [vi i]) (rest := []) (k := 5) (j := j) (C := RX5) (T := TX5) (N := 3) hM (c_X5_hasItem S j i) lkM_X5_32 mv_X5_hasItem (by decide) rfl (by decide) rfl (Nat.le_of_ble_eq_true rfl) rfl (dtab_at okX5_hasWeldAt 2 rfl) rfl (fun x0 S0 hp0 => ?_)
  obtain ⟨hx_, hs_⟩ := hp0
  have hs_ := hs_.symm
  subst hs_
  subst hx_
  refine w_if_eq (n := 21) (n2 := 8) hM (dtab_at okX5_hasWeldAt 3 rfl) (by decide) rfl (fun h5 => ?_) (fun h5 => ?_)
  · skip
    rw [if_pos h5] at h
    refine w_ic (n := 22) hM 0 (dtab_at okX5_hasWeldAt 11 rfl) (by decide) rfl ?_
    exact r_z hM (by decide) (dtab_at okX5_hasWeldAt 12 rfl) ⟨Option.some.inj h, hS⟩
  · skip
    rw [if_neg h5] at h
    refine w_aln (q := 0) (n := 9) hM (dtab_at okX5_hasWeldAt 4 rfl) rfl rfl ?_
    refine w_getr (C := RX5) (T := TX5) (i := 0) (k2 := 250) (q := (j + 8)) (n := 12) hM rfl (by decide) rfc_5_0 ly_X5 lkF_X5_9 (dtab_at okX5_hasWeldAt 5 rfl) rfl ?_
    refine w_iln (q := 1) (n := 13) hM (dtab_at okX5_hasWeldAt 6 rfl) rfl rfl ?_
    by_cases hg13 : i < 0 ∨ 150 ≤ i.toNatClampNeg
    · rw [if_pos hg13] at h; cases h
    rw [if_neg hg13] at h
    refine w_ald (nn := 150) (n := 14) hM rfl hg13 (dtab_at okX5_hasWeldAt 7 rfl) rfl ?_
    refine w_if_eq (n := 21) (n2 := 17) hM (dtab_at okX5_hasWeldAt 8 rfl) (by decide) rfl (fun h14 => ?_) (fun h14 => ?_)
    · skip
      rw [if_pos h14] at h
      refine w_ic (n := 22) hM 0 (dtab_at okX5_hasWeldAt 11 rfl) (by decide) rfl ?_
      exact r_z hM (by decide) (dtab_at okX5_hasWeldAt 12 rfl) ⟨Option.some.inj h, hS⟩
    · skip
      rw [if_neg h14] at h
      refine w_ic (n := 18) hM 1 (dtab_at okX5_hasWeldAt 9 rfl) (by decide) rfl ?_
      refine w_goto (n := 22) hM (dtab_at okX5_hasWeldAt 10 rfl) (by decide) ?_
      exact r_z hM (by decide) (dtab_at okX5_hasWeldAt 12 rfl) ⟨Option.some.inj h, hS⟩
def fX6_reelAt (S : PS) (j : Nat) (i : Int32) : Option (Nat × Nat) := if i.toInt < 0 ∨ 3 < i.toInt then none else if i = 0 then some (5, (4 * j - 1)) else if i = 1 then some (5, (4 * j)) else if i = 2 then some (5, (4 * j + 1)) else some (5, (4 * j + 2))
set_option maxHeartbeats 4000000 in
set_option maxRecDepth 100000 in
theorem c_X6_reelAt {cy : ClassId × ClassId} {ad : Nat → Nat} {D : va_G} {l : Launch} (S : PS) (j : Nat) (i : Int32)  : PMr cy GC ad D l yX6_reelAt (wA yX6_reelAt cX6_reelAt 2 (some (.object "PigLine$Reel"))) rmX6_reelAt [vr 6 j, vi i] S (fun x S' => x = (fX6_reelAt S j i) ∧ S' = S) := by
  refine PM.of (lv := [(0, vr 6 j), (1, vi i)]) GC_ok (by decide) (Nat.le_of_ble_eq_true rfl) rfl (by simp) ?_
  intro p e s m args below meth c A hM
  refine w_iln (q := 1) (n := 1) hM (dtab_at okX6_reelAt 0 rfl) rfl rfl ?_
  by_cases hts1 : i.toInt < 0 ∨ 3 < i.toInt
  · refine w_tsOut (n := 52) hM (dtab_at okX6_reelAt 1 rfl) hts1 (by decide) ?_
    refine w_null (n := 53) hM (dtab_at okX6_reelAt 14 rfl) rfl ?_
    exact r_a hM (dtab_at okX6_reelAt 15 rfl) ⟨by rw [fX6_reelAt, if_pos hts1], rfl⟩
  · have htn1 := hts1
    obtain hts1 | hts1 | hts1 | hts1 : i = 0 ∨ i = 1 ∨ i = 2 ∨ i = 3 := sw0_4 hts1
    · refine w_tsIn (n := 32) (off := 31) hM (dtab_at okX6_reelAt 1 rfl) (by rw [hts1]; decide) (by rw [hts1]; decide) (by rw [hts1]; rfl) (by decide) ?_
      refine w_aln (q := 0) (n := 33) hM (dtab_at okX6_reelAt 2 rfl) rfl rfl ?_
      refine w_getr (C := RX6) (T := TX6) (i := 0) (k2 := 5) (q := (4 * j - 1)) (n := 36) hM rfl (by decide) rfc_6_0 ly_X6 lkF_X6_12 (dtab_at okX6_reelAt 3 rfl) rfl ?_
      exact r_a hM (dtab_at okX6_reelAt 4 rfl) ⟨by rw [fX6_reelAt, if_neg htn1, if_pos hts1], rfl⟩
    · refine w_tsIn (n := 37) (off := 36) hM (dtab_at okX6_reelAt 1 rfl) (by rw [hts1]; decide) (by rw [hts1]; decide) (by rw [hts1]; rfl) (by decide) ?_
      refine w_aln (q := 0) (n := 38) hM (dtab_at okX6_reelAt 5 rfl) rfl rfl ?_
      refine w_getr (C := RX6) (T := TX6) (i := 1) (k2 := 5) (q := (4 * j)) (n := 41) hM rfl (by decide) rfc_6_1 ly_X6 lkF_X6_18 (dtab_at okX6_reelAt 6 rfl) rfl ?_
      exact r_a hM (dtab_at okX6_reelAt 7 rfl) ⟨by rw [fX6_reelAt, if_neg htn1, if_neg (show ¬ i = 0 by rw [hts1]; decide), if_pos hts1], rfl⟩
    · refine w_tsIn (n := 42) (off := 41) hM (dtab_at okX6_reelAt 1 rfl) (by rw [hts1]; decide) (by rw [hts1]; decide) (by rw [hts1]; rfl) (by decide) ?_
      refine w_aln (q := 0) (n := 43) hM (dtab_at okX6_reelAt 8 rfl) rfl rfl ?_
      refine w_getr (C := RX6) (T := TX6) (i := 2) (k2 := 5) (q := (4 * j + 1)) (n := 46) hM rfl (by decide) rfc_6_2 ly_X6 lkF_X6_21 (dtab_at okX6_reelAt 9 rfl) rfl ?_
      exact r_a hM (dtab_at okX6_reelAt 10 rfl) ⟨by rw [fX6_reelAt, if_neg htn1, if_neg (show ¬ i = 0 by rw [hts1]; decide), if_neg (show ¬ i = 1 by rw [hts1]; decide), if_pos hts1], rfl⟩
    · refine w_tsIn (n := 47) (off := 46) hM (dtab_at okX6_reelAt 1 rfl) (by rw [hts1]; decide) (by rw [hts1]; decide) (by rw [hts1]; rfl) (by decide) ?_
      refine w_aln (q := 0) (n := 48) hM (dtab_at okX6_reelAt 11 rfl) rfl rfl ?_
      refine w_getr (C := RX6) (T := TX6) (i := 3) (k2 := 5) (q := (4 * j + 2)) (n := 51) hM rfl (by decide) rfc_6_3 ly_X6 lkF_X6_24 (dtab_at okX6_reelAt 12 rfl) rfl ?_
      exact r_a hM (dtab_at okX6_reelAt 13 rfl) ⟨by rw [fX6_reelAt, if_neg htn1, if_neg (show ¬ i = 0 by rw [hts1]; decide), if_neg (show ¬ i = 1 by rw [hts1]; decide), if_neg (show ¬ i = 2 by rw [hts1]; decide)], rfl⟩
def fX3_hasMark (S : PS) (j : Nat) (i : Int32) : Int32 := if i < 0 then 0 else (if (S.1 j 6) ≤ i then 0 else 1)
set_option maxHeartbeats 4000000 in
set_option maxRecDepth 100000 in
theorem c_X3_hasMark {cy : ClassId × ClassId} {ad : Nat → Nat} {D : va_G} {l : Launch} (S : PS) (j : Nat) (i : Int32)  : PMi cy GC ad D l yX3_hasMark (wA yX3_hasMark cX3_hasMark 2 (some .boolean)) rmX3_hasMark [vr 3 j, vi i] S (fun x S' => x = (fX3_hasMark S j i) ∧ S' = S) := by
  refine PM.of (lv := [(0, vr 3 j), (1, vi i)]) GC_ok (by decide) (Nat.le_of_ble_eq_true rfl) rfl (by simp) ?_
  intro p e s m args below meth c A hM
  refine w_iln (q := 1) (n := 1) hM (dtab_at okX3_hasMark 0 rfl) rfl rfl ?_
  refine w_if_lt (n := 16) (n2 := 4) hM (dtab_at okX3_hasMark 1 rfl) (by decide) rfl (fun h1 => ?_) (fun h1 => ?_)
  · skip
    refine w_ic (n := 17) hM 0 (dtab_at okX3_hasMark 8 rfl) (by decide) rfl ?_
    exact r_z hM (by decide) (dtab_at okX3_hasMark 9 rfl) ⟨by rw [fX3_hasMark, if_pos h1], rfl⟩
  · skip
    refine w_iln (q := 1) (n := 5) hM (dtab_at okX3_hasMark 2 rfl) rfl rfl ?_
    refine w_aln (q := 0) (n := 6) hM (dtab_at okX3_hasMark 3 rfl) rfl rfl ?_
    refine w_geti (C := RX3) (T := TX3) (i := 6) (n := 9) hM rfl (by decide) ly_X3 lkF_X3_30 (dtab_at okX3_hasMark 4 rfl) rfl ?_
    refine w_ic_ge (n := 16) (n2 := 12) hM (dtab_at okX3_hasMark 5 rfl) (by decide) rfl (fun h9 => ?_) (fun h9 => ?_)
    · skip
      refine w_ic (n := 17) hM 0 (dtab_at okX3_hasMark 8 rfl) (by decide) rfl ?_
      exact r_z hM (by decide) (dtab_at okX3_hasMark 9 rfl) ⟨by rw [fX3_hasMark, if_neg h1, if_pos h9], rfl⟩
    · skip
      refine w_ic (n := 13) hM 1 (dtab_at okX3_hasMark 6 rfl) (by decide) rfl ?_
      refine w_goto (n := 17) hM (dtab_at okX3_hasMark 7 rfl) (by decide) ?_
      exact r_z hM (by decide) (dtab_at okX3_hasMark 9 rfl) ⟨by rw [fX3_hasMark, if_neg h1, if_neg h9], rfl⟩
def fX3_endOf (N : Nat) (S : PS) (j : Nat) (i : Int32) : Option (Int32) := (if i < 0 ∨ 40 ≤ i.toNatClampNeg then none else (if i < 0 ∨ 40 ≤ i.toNatClampNeg then none else (some ((S.2 (j + 2) i.toNatClampNeg) + (S.2 (j + 8) i.toNatClampNeg)))))
set_option maxHeartbeats 4000000 in
set_option maxRecDepth 100000 in
theorem c_X3_endOf {cy : ClassId × ClassId} {ad : Nat → Nat} {D : va_G} {l : Launch} (N : Nat) (S : PS) (j : Nat) (i : Int32) (r : Int32) (h : fX3_endOf N S j i = some r) : PMi cy GC ad D l yX3_endOf (wA yX3_endOf cX3_endOf 2 (some .int)) rmX3_endOf [vr 3 j, vi i] S (fun x S' => x = r ∧ S' = S) := by
  refine PM.of (lv := [(0, vr 3 j), (1, vi i)]) GC_ok (by decide) (Nat.le_of_ble_eq_true rfl) rfl (by simp) ?_
  intro p e s m args below meth c A hM
  rw [fX3_endOf] at h
  obtain ⟨S0, hS⟩ : ∃ S0 : PS, S = S0 := ⟨S, rfl⟩
  rw [show (fun (x : Int32) (S' : PS) => x = r ∧ S' = S) = (fun x S' => x = r ∧ S' = S0) by rw [hS]]
  refine w_aln (q := 0) (n := 1) hM (dtab_at okX3_endOf 0 rfl) rfl rfl ?_
  refine w_getr (C := RX3) (T := TX3) (i := 0) (k2 := 140) (q := (j + 2)) (n := 4) hM rfl (by decide) rfc_3_0 ly_X3 lkF_X3_9 (dtab_at okX3_endOf 1 rfl) rfl ?_
  refine w_iln (q := 1) (n := 5) hM (dtab_at okX3_endOf 2 rfl) rfl rfl ?_
  by_cases hg5 : i < 0 ∨ 40 ≤ i.toNatClampNeg
  · rw [if_pos hg5] at h; cases h
  rw [if_neg hg5] at h
  refine w_ald (nn := 40) (n := 6) hM rfl hg5 (dtab_at okX3_endOf 3 rfl) rfl ?_
  refine w_aln (q := 0) (n := 7) hM (dtab_at okX3_endOf 4 rfl) rfl rfl ?_
  refine w_getr (C := RX3) (T := TX3) (i := 3) (k2 := 140) (q := (j + 8)) (n := 10) hM rfl (by decide) rfc_3_3 ly_X3 lkF_X3_21 (dtab_at okX3_endOf 5 rfl) rfl ?_
  refine w_iln (q := 1) (n := 11) hM (dtab_at okX3_endOf 6 rfl) rfl rfl ?_
  by_cases hg11 : i < 0 ∨ 40 ≤ i.toNatClampNeg
  · rw [if_pos hg11] at h; cases h
  rw [if_neg hg11] at h
  refine w_ald (nn := 40) (n := 12) hM rfl hg11 (dtab_at okX3_endOf 7 rfl) rfl ?_
  refine w_iadd (n := 13) hM (dtab_at okX3_endOf 8 rfl) rfl ?_
  exact r_i hM (dtab_at okX3_endOf 9 rfl) ⟨Option.some.inj h, hS⟩
def fX3_fact (N : Nat) (S : PS) (j : Nat) (i : Int32) (w : Int32) : Option (Int32) := (if w.toInt < 0 ∨ 3 < w.toInt then (if i < 0 ∨ 40 ≤ i.toNatClampNeg then none else (some (S.2 (j + 10) i.toNatClampNeg))) else if w = 0 then (if i < 0 ∨ 40 ≤ i.toNatClampNeg then none else (some (S.2 (j + 2) i.toNatClampNeg))) else if w = 1 then (if i < 0 ∨ 40 ≤ i.toNatClampNeg then none else (some (S.2 (j + 4) i.toNatClampNeg))) else if w = 2 then (if i < 0 ∨ 40 ≤ i.toNatClampNeg then none else (some (S.2 (j + 6) i.toNatClampNeg))) else (if i < 0 ∨ 40 ≤ i.toNatClampNeg then none else (some (S.2 (j + 8) i.toNatClampNeg))))
set_option maxHeartbeats 4000000 in
set_option maxRecDepth 100000 in
theorem c_X3_fact {cy : ClassId × ClassId} {ad : Nat → Nat} {D : va_G} {l : Launch} (N : Nat) (S : PS) (j : Nat) (i : Int32) (w : Int32) (r : Int32) (h : fX3_fact N S j i w = some r) : PMi cy GC ad D l yX3_fact (wA yX3_fact cX3_fact 3 (some .int)) rmX3_fact [vr 3 j, vi i, vi w] S (fun x S' => x = r ∧ S' = S) := by
  refine PM.of (lv := [(0, vr 3 j), (1, vi i), (2, vi w)]) GC_ok (by decide) (Nat.le_of_ble_eq_true rfl) rfl (by simp) ?_
  intro p e s m args below meth c A hM
  rw [fX3_fact] at h
  obtain ⟨S0, hS⟩ : ∃ S0 : PS, S = S0 := ⟨S, rfl⟩
  rw [show (fun (x : Int32) (S' : PS) => x = r ∧ S' = S) = (fun x S' => x = r ∧ S' = S0) by rw [hS]]
  refine w_iln (q := 2) (n := 1) hM (dtab_at okX3_fact 0 rfl) rfl rfl ?_
  by_cases hts1 : w.toInt < 0 ∨ 3 < w.toInt
  · refine w_tsOut (n := 60) hM (dtab_at okX3_fact 1 rfl) hts1 (by decide) ?_
    rw [if_pos hts1] at h
    refine w_aln (q := 0) (n := 61) hM (dtab_at okX3_fact 22 rfl) rfl rfl ?_
    refine w_getr (C := RX3) (T := TX3) (i := 4) (k2 := 140) (q := (j + 10)) (n := 64) hM rfl (by decide) rfc_3_4 ly_X3 lkF_X3_24 (dtab_at okX3_fact 23 rfl) rfl ?_
    refine w_iln (q := 1) (n := 65) hM (dtab_at okX3_fact 24 rfl) rfl rfl ?_
    by_cases hg65 : i < 0 ∨ 40 ≤ i.toNatClampNeg
    · rw [if_pos hg65] at h; cases h
    rw [if_neg hg65] at h
    refine w_ald (nn := 40) (n := 66) hM rfl hg65 (dtab_at okX3_fact 25 rfl) rfl ?_
    exact r_i hM (dtab_at okX3_fact 26 rfl) ⟨Option.some.inj h, hS⟩
  · have htn1 := hts1
    obtain hts1 | hts1 | hts1 | hts1 : w = 0 ∨ w = 1 ∨ w = 2 ∨ w = 3 := sw0_4 hts1
    · refine w_tsIn (n := 32) (off := 31) hM (dtab_at okX3_fact 1 rfl) (by rw [hts1]; decide) (by rw [hts1]; decide) (by rw [hts1]; rfl) (by decide) ?_
      rw [if_neg htn1, if_pos hts1] at h
      refine w_aln (q := 0) (n := 33) hM (dtab_at okX3_fact 2 rfl) rfl rfl ?_
      refine w_getr (C := RX3) (T := TX3) (i := 0) (k2 := 140) (q := (j + 2)) (n := 36) hM rfl (by decide) rfc_3_0 ly_X3 lkF_X3_9 (dtab_at okX3_fact 3 rfl) rfl ?_
      refine w_iln (q := 1) (n := 37) hM (dtab_at okX3_fact 4 rfl) rfl rfl ?_
      by_cases hg37 : i < 0 ∨ 40 ≤ i.toNatClampNeg
      · rw [if_pos hg37] at h; cases h
      rw [if_neg hg37] at h
      refine w_ald (nn := 40) (n := 38) hM rfl hg37 (dtab_at okX3_fact 5 rfl) rfl ?_
      exact r_i hM (dtab_at okX3_fact 6 rfl) ⟨Option.some.inj h, hS⟩
    · refine w_tsIn (n := 39) (off := 38) hM (dtab_at okX3_fact 1 rfl) (by rw [hts1]; decide) (by rw [hts1]; decide) (by rw [hts1]; rfl) (by decide) ?_
      rw [if_neg htn1, if_neg (show ¬ w = 0 by rw [hts1]; decide), if_pos hts1] at h
      refine w_aln (q := 0) (n := 40) hM (dtab_at okX3_fact 7 rfl) rfl rfl ?_
      refine w_getr (C := RX3) (T := TX3) (i := 1) (k2 := 140) (q := (j + 4)) (n := 43) hM rfl (by decide) rfc_3_1 ly_X3 lkF_X3_15 (dtab_at okX3_fact 8 rfl) rfl ?_
      refine w_iln (q := 1) (n := 44) hM (dtab_at okX3_fact 9 rfl) rfl rfl ?_
      by_cases hg44 : i < 0 ∨ 40 ≤ i.toNatClampNeg
      · rw [if_pos hg44] at h; cases h
      rw [if_neg hg44] at h
      refine w_ald (nn := 40) (n := 45) hM rfl hg44 (dtab_at okX3_fact 10 rfl) rfl ?_
      exact r_i hM (dtab_at okX3_fact 11 rfl) ⟨Option.some.inj h, hS⟩
    · refine w_tsIn (n := 46) (off := 45) hM (dtab_at okX3_fact 1 rfl) (by rw [hts1]; decide) (by rw [hts1]; decide) (by rw [hts1]; rfl) (by decide) ?_
      rw [if_neg htn1, if_neg (show ¬ w = 0 by rw [hts1]; decide), if_neg (show ¬ w = 1 by rw [hts1]; decide), if_pos hts1] at h
      refine w_aln (q := 0) (n := 47) hM (dtab_at okX3_fact 12 rfl) rfl rfl ?_
      refine w_getr (C := RX3) (T := TX3) (i := 2) (k2 := 140) (q := (j + 6)) (n := 50) hM rfl (by decide) rfc_3_2 ly_X3 lkF_X3_18 (dtab_at okX3_fact 13 rfl) rfl ?_
      refine w_iln (q := 1) (n := 51) hM (dtab_at okX3_fact 14 rfl) rfl rfl ?_
      by_cases hg51 : i < 0 ∨ 40 ≤ i.toNatClampNeg
      · rw [if_pos hg51] at h; cases h
      rw [if_neg hg51] at h
      refine w_ald (nn := 40) (n := 52) hM rfl hg51 (dtab_at okX3_fact 15 rfl) rfl ?_
      exact r_i hM (dtab_at okX3_fact 16 rfl) ⟨Option.some.inj h, hS⟩
    · refine w_tsIn (n := 53) (off := 52) hM (dtab_at okX3_fact 1 rfl) (by rw [hts1]; decide) (by rw [hts1]; decide) (by rw [hts1]; rfl) (by decide) ?_
      rw [if_neg htn1, if_neg (show ¬ w = 0 by rw [hts1]; decide), if_neg (show ¬ w = 1 by rw [hts1]; decide), if_neg (show ¬ w = 2 by rw [hts1]; decide)] at h
      refine w_aln (q := 0) (n := 54) hM (dtab_at okX3_fact 17 rfl) rfl rfl ?_
      refine w_getr (C := RX3) (T := TX3) (i := 3) (k2 := 140) (q := (j + 8)) (n := 57) hM rfl (by decide) rfc_3_3 ly_X3 lkF_X3_21 (dtab_at okX3_fact 18 rfl) rfl ?_
      refine w_iln (q := 1) (n := 58) hM (dtab_at okX3_fact 19 rfl) rfl rfl ?_
      by_cases hg58 : i < 0 ∨ 40 ≤ i.toNatClampNeg
      · rw [if_pos hg58] at h; cases h
      rw [if_neg hg58] at h
      refine w_ald (nn := 40) (n := 59) hM rfl hg58 (dtab_at okX3_fact 20 rfl) rfl ?_
      exact r_i hM (dtab_at okX3_fact 21 rfl) ⟨Option.some.inj h, hS⟩
def fX6_readingsTogether (N : Nat) (S : PS) (j : Nat) (i : Int32) : Option (Int32) := ((fX5_readingAt N S (4 * j - 1) i).bind fun r0 => ((fX5_readingAt N S (4 * j) i).bind fun r1 => ((fX5_readingAt N S (4 * j + 1) i).bind fun r2 => (if (if (if r2 < r1 then r2 else r1) < r0 then (if r2 < r1 then r2 else r1) else r0) = (-1) then (some (if r0 < (if r1 < r2 then r2 else r1) then (if r1 < r2 then r2 else r1) else r0)) else (some ((((r0 + r1) + r2) - (if (if r2 < r1 then r2 else r1) < r0 then (if r2 < r1 then r2 else r1) else r0)) - (if r0 < (if r1 < r2 then r2 else r1) then (if r1 < r2 then r2 else r1) else r0)))))))
set_option maxHeartbeats 4000000 in
set_option maxRecDepth 100000 in
theorem c_X6_readingsTogether {cy : ClassId × ClassId} {ad : Nat → Nat} {D : va_G} {l : Launch} (N : Nat) (S : PS) (j : Nat) (i : Int32) (r : Int32) (h : fX6_readingsTogether N S j i = some r) : PMi cy GC ad D l yX6_readingsTogether (wA yX6_readingsTogether cX6_readingsTogether 7 (some .int)) rmX6_readingsTogether [vr 6 j, vi i] S (fun x S' => x = r ∧ S' = S) := by
  refine PM.of (lv := [(0, vr 6 j), (1, vi i)]) GC_ok (by decide) (Nat.le_of_ble_eq_true rfl) rfl (by simp) ?_
  intro p e s m args below meth c A hM
  rw [fX6_readingsTogether] at h
  obtain ⟨S0, hS⟩ : ∃ S0 : PS, S = S0 := ⟨S, rfl⟩
  rw [show (fun (x : Int32) (S' : PS) => x = r ∧ S' = S) = (fun x S' => x = r ∧ S' = S0) by rw [hS]]
  refine w_aln (q := 0) (n := 1) hM (dtab_at okX6_readingsTogether 0 rfl) rfl rfl ?_
  refine w_getr (C := RX6) (T := TX6) (i := 0) (k2 := 5) (q := (4 * j - 1)) (n := 4) hM rfl (by decide) rfc_6_0 ly_X6 lkF_X6_12 (dtab_at okX6_readingsTogether 1 rfl) rfl ?_
  refine w_iln (q := 1) (n := 5) hM (dtab_at okX6_readingsTogether 2 rfl) rfl rfl ?_
  obtain ⟨r0, hr0, h⟩ := Option.bind_eq_some_iff.mp h
  refine w_callVi (n := 8) (As := [vi i]) (rest := []) (k := 5) (j := (4 * j - 1)) (C := RX5) (T := TX5) (N := 3) hM (c_X5_readingAt N S (4 * j - 1) i r0 hr0) lkM_X6_74 mv_X5_readingAt (by decide) rfl (by decide) rfl (Nat.le_of_ble_eq_true rfl) rfl (dtab_at okX6_readingsTogether 3 rfl) rfl (fun x0 S0 hp0 => ?_)
  obtain ⟨hx_, hs_⟩ := hp0
  have hs_ := hs_.symm
  have hx_ := hx_.symm
  subst hs_
  subst hx_
  refine w_isn (n := 9) (lv' := [(2, vi r0), (0, vr 6 j), (1, vi i)]) hM (dtab_at okX6_readingsTogether 4 rfl) (by decide) rfl rfl ?_
  refine w_aln (q := 1) (n := 10) hM (dtab_at okX6_readingsTogether 5 rfl) rfl rfl ?_
  refine w_getr (C := RX6) (T := TX6) (i := 1) (k2 := 5) (q := (4 * j)) (n := 13) hM rfl (by decide) rfc_6_1 ly_X6 lkF_X6_18 (dtab_at okX6_readingsTogether 6 rfl) rfl ?_
  refine w_iln (q := 2) (n := 14) hM (dtab_at okX6_readingsTogether 7 rfl) rfl rfl ?_
  obtain ⟨r1, hr1, h⟩ := Option.bind_eq_some_iff.mp h
  refine w_callVi (n := 17) (As := [vi i]) (rest := []) (k := 5) (j := (4 * j)) (C := RX5) (T := TX5) (N := 3) hM (c_X5_readingAt N S (4 * j) i r1 hr1) lkM_X6_74 mv_X5_readingAt (by decide) rfl (by decide) rfl (Nat.le_of_ble_eq_true rfl) rfl (dtab_at okX6_readingsTogether 8 rfl) rfl (fun x1 S1 hp1 => ?_)
  obtain ⟨hx_, hs_⟩ := hp1
  have hs_ := hs_.symm
  have hx_ := hx_.symm
  subst hs_
  subst hx_
  refine w_isn (n := 18) (lv' := [(3, vi r1), (2, vi r0), (0, vr 6 j), (1, vi i)]) hM (dtab_at okX6_readingsTogether 9 rfl) (by decide) rfl rfl ?_
  refine w_aln (q := 2) (n := 19) hM (dtab_at okX6_readingsTogether 10 rfl) rfl rfl ?_
  refine w_getr (C := RX6) (T := TX6) (i := 2) (k2 := 5) (q := (4 * j + 1)) (n := 22) hM rfl (by decide) rfc_6_2 ly_X6 lkF_X6_21 (dtab_at okX6_readingsTogether 11 rfl) rfl ?_
  refine w_iln (q := 3) (n := 23) hM (dtab_at okX6_readingsTogether 12 rfl) rfl rfl ?_
  obtain ⟨r2, hr2, h⟩ := Option.bind_eq_some_iff.mp h
  refine w_callVi (n := 26) (As := [vi i]) (rest := []) (k := 5) (j := (4 * j + 1)) (C := RX5) (T := TX5) (N := 3) hM (c_X5_readingAt N S (4 * j + 1) i r2 hr2) lkM_X6_74 mv_X5_readingAt (by decide) rfl (by decide) rfl (Nat.le_of_ble_eq_true rfl) rfl (dtab_at okX6_readingsTogether 13 rfl) rfl (fun x2 S2 hp2 => ?_)
  obtain ⟨hx_, hs_⟩ := hp2
  have hs_ := hs_.symm
  have hx_ := hx_.symm
  subst hs_
  subst hx_
  refine w_is (n := 28) (lv' := [(4, vi r2), (3, vi r1), (2, vi r0), (0, vr 6 j), (1, vi i)]) hM (dtab_at okX6_readingsTogether 14 rfl) (by decide) rfl rfl ?_
  refine w_iln (q := 2) (n := 29) hM (dtab_at okX6_readingsTogether 15 rfl) rfl rfl ?_
  refine w_iln (q := 1) (n := 30) hM (dtab_at okX6_readingsTogether 16 rfl) rfl rfl ?_
  refine w_il (q := 0) (n := 32) hM (dtab_at okX6_readingsTogether 17 rfl) rfl rfl ?_
  refine w_min (n := 35) hM ⟨lkM_X6_77, mS_J9_min_7cf53, iz_J9, mC_J9_min_7cf53⟩ (by decide) (Nat.le_of_ble_eq_true rfl) (dtab_at okX6_readingsTogether 18 rfl) rfl ?_
  refine w_min (n := 38) hM ⟨lkM_X6_77, mS_J9_min_7cf53, iz_J9, mC_J9_min_7cf53⟩ (by decide) (Nat.le_of_ble_eq_true rfl) (dtab_at okX6_readingsTogether 19 rfl) rfl ?_
  refine w_is (n := 40) (lv' := [(5, vi (if (if r2 < r1 then r2 else r1) < r0 then (if r2 < r1 then r2 else r1) else r0)), (4, vi r2), (3, vi r1), (2, vi r0), (0, vr 6 j), (1, vi i)]) hM (dtab_at okX6_readingsTogether 20 rfl) (by decide) rfl rfl ?_
  refine w_iln (q := 3) (n := 41) hM (dtab_at okX6_readingsTogether 21 rfl) rfl rfl ?_
  refine w_iln (q := 2) (n := 42) hM (dtab_at okX6_readingsTogether 22 rfl) rfl rfl ?_
  refine w_il (q := 1) (n := 44) hM (dtab_at okX6_readingsTogether 23 rfl) rfl rfl ?_
  refine w_max (n := 47) hM ⟨lkM_X6_51, mS_J9_max_7cf53, iz_J9, mC_J9_max_7cf53⟩ (by decide) (Nat.le_of_ble_eq_true rfl) (dtab_at okX6_readingsTogether 24 rfl) rfl ?_
  refine w_max (n := 50) hM ⟨lkM_X6_51, mS_J9_max_7cf53, iz_J9, mC_J9_max_7cf53⟩ (by decide) (Nat.le_of_ble_eq_true rfl) (dtab_at okX6_readingsTogether 25 rfl) rfl ?_
  refine w_is (n := 52) (lv' := [(6, vi (if r0 < (if r1 < r2 then r2 else r1) then (if r1 < r2 then r2 else r1) else r0)), (5, vi (if (if r2 < r1 then r2 else r1) < r0 then (if r2 < r1 then r2 else r1) else r0)), (4, vi r2), (3, vi r1), (2, vi r0), (0, vr 6 j), (1, vi i)]) hM (dtab_at okX6_readingsTogether 26 rfl) (by decide) rfl rfl ?_
  refine w_il (q := 1) (n := 54) hM (dtab_at okX6_readingsTogether 27 rfl) rfl rfl ?_
  refine w_ic (n := 55) hM (-1) (dtab_at okX6_readingsTogether 28 rfl) (by decide) rfl ?_
  refine w_ic_ne (n := 63) (n2 := 58) hM (dtab_at okX6_readingsTogether 29 rfl) (by decide) rfl (fun h55 => ?_) (fun h55 => ?_)
  · skip
    rw [if_neg h55] at h
    refine w_iln (q := 4) (n := 64) hM (dtab_at okX6_readingsTogether 32 rfl) rfl rfl ?_
    refine w_iln (q := 3) (n := 65) hM (dtab_at okX6_readingsTogether 33 rfl) rfl rfl ?_
    refine w_iadd (n := 66) hM (dtab_at okX6_readingsTogether 34 rfl) rfl ?_
    refine w_il (q := 2) (n := 68) hM (dtab_at okX6_readingsTogether 35 rfl) rfl rfl ?_
    refine w_iadd (n := 69) hM (dtab_at okX6_readingsTogether 36 rfl) rfl ?_
    refine w_il (q := 1) (n := 71) hM (dtab_at okX6_readingsTogether 37 rfl) rfl rfl ?_
    refine w_isub (n := 72) hM (dtab_at okX6_readingsTogether 38 rfl) rfl ?_
    refine w_il (q := 0) (n := 74) hM (dtab_at okX6_readingsTogether 39 rfl) rfl rfl ?_
    refine w_isub (n := 75) hM (dtab_at okX6_readingsTogether 40 rfl) rfl ?_
    exact r_i hM (dtab_at okX6_readingsTogether 41 rfl) ⟨Option.some.inj h, hS⟩
  · skip
    rw [if_pos h55] at h
    refine w_il (q := 0) (n := 60) hM (dtab_at okX6_readingsTogether 30 rfl) rfl rfl ?_
    refine w_goto (n := 75) hM (dtab_at okX6_readingsTogether 31 rfl) (by decide) ?_
    exact r_i hM (dtab_at okX6_readingsTogether 41 rfl) ⟨Option.some.inj h, hS⟩
def fX6_fact (N : Nat) (S : PS) (j : Nat) (i : Int32) : Option (Int32) := (if i.toInt < 0 ∨ 2 < i.toInt then (some (S.1 j 11)) else if i = 0 then (some (S.1 j 9)) else if i = 1 then (some (S.1 j 10)) else (if (S.1 j 9) ≤ 0 then (some 0) else (if ((S.1 j 9) - 1) < 0 ∨ 150 ≤ ((S.1 j 9) - 1).toNatClampNeg then none else (some (S.2 (j + 32) ((S.1 j 9) - 1).toNatClampNeg)))))
set_option maxHeartbeats 4000000 in
set_option maxRecDepth 100000 in
theorem c_X6_fact {cy : ClassId × ClassId} {ad : Nat → Nat} {D : va_G} {l : Launch} (N : Nat) (S : PS) (j : Nat) (i : Int32) (r : Int32) (h : fX6_fact N S j i = some r) : PMi cy GC ad D l yX6_fact (wA yX6_fact cX6_fact 2 (some .int)) rmX6_fact [vr 6 j, vi i] S (fun x S' => x = r ∧ S' = S) := by
  refine PM.of (lv := [(0, vr 6 j), (1, vi i)]) GC_ok (by decide) (Nat.le_of_ble_eq_true rfl) rfl (by simp) ?_
  intro p e s m args below meth c A hM
  rw [fX6_fact] at h
  obtain ⟨S0, hS⟩ : ∃ S0 : PS, S = S0 := ⟨S, rfl⟩
  rw [show (fun (x : Int32) (S' : PS) => x = r ∧ S' = S) = (fun x S' => x = r ∧ S' = S0) by rw [hS]]
  refine w_iln (q := 1) (n := 1) hM (dtab_at okX6_fact 0 rfl) rfl rfl ?_
  by_cases hts1 : i.toInt < 0 ∨ 2 < i.toInt
  · refine w_tsOut (n := 61) hM (dtab_at okX6_fact 1 rfl) hts1 (by decide) ?_
    rw [if_pos hts1] at h
    refine w_aln (q := 0) (n := 62) hM (dtab_at okX6_fact 21 rfl) rfl rfl ?_
    refine w_geti (C := RX6) (T := TX6) (i := 11) (n := 65) hM rfl (by decide) ly_X6 lkF_X6_63 (dtab_at okX6_fact 22 rfl) rfl ?_
    exact r_i hM (dtab_at okX6_fact 23 rfl) ⟨Option.some.inj h, hS⟩
  · have htn1 := hts1
    obtain hts1 | hts1 | hts1 : i = 0 ∨ i = 1 ∨ i = 2 := sw0_3 hts1
    · refine w_tsIn (n := 28) (off := 27) hM (dtab_at okX6_fact 1 rfl) (by rw [hts1]; decide) (by rw [hts1]; decide) (by rw [hts1]; rfl) (by decide) ?_
      rw [if_neg htn1, if_pos hts1] at h
      refine w_aln (q := 0) (n := 29) hM (dtab_at okX6_fact 2 rfl) rfl rfl ?_
      refine w_geti (C := RX6) (T := TX6) (i := 9) (n := 32) hM rfl (by decide) ly_X6 lkF_X6_57 (dtab_at okX6_fact 3 rfl) rfl ?_
      exact r_i hM (dtab_at okX6_fact 4 rfl) ⟨Option.some.inj h, hS⟩
    · refine w_tsIn (n := 33) (off := 32) hM (dtab_at okX6_fact 1 rfl) (by rw [hts1]; decide) (by rw [hts1]; decide) (by rw [hts1]; rfl) (by decide) ?_
      rw [if_neg htn1, if_neg (show ¬ i = 0 by rw [hts1]; decide), if_pos hts1] at h
      refine w_aln (q := 0) (n := 34) hM (dtab_at okX6_fact 5 rfl) rfl rfl ?_
      refine w_geti (C := RX6) (T := TX6) (i := 10) (n := 37) hM rfl (by decide) ly_X6 lkF_X6_60 (dtab_at okX6_fact 6 rfl) rfl ?_
      exact r_i hM (dtab_at okX6_fact 7 rfl) ⟨Option.some.inj h, hS⟩
    · refine w_tsIn (n := 38) (off := 37) hM (dtab_at okX6_fact 1 rfl) (by rw [hts1]; decide) (by rw [hts1]; decide) (by rw [hts1]; rfl) (by decide) ?_
      rw [if_neg htn1, if_neg (show ¬ i = 0 by rw [hts1]; decide), if_neg (show ¬ i = 1 by rw [hts1]; decide)] at h
      refine w_aln (q := 0) (n := 39) hM (dtab_at okX6_fact 8 rfl) rfl rfl ?_
      refine w_geti (C := RX6) (T := TX6) (i := 9) (n := 42) hM rfl (by decide) ly_X6 lkF_X6_57 (dtab_at okX6_fact 9 rfl) rfl ?_
      refine w_if_le (n := 59) (n2 := 45) hM (dtab_at okX6_fact 10 rfl) (by decide) rfl (fun h42 => ?_) (fun h42 => ?_)
      · skip
        rw [if_pos h42] at h
        refine w_ic (n := 60) hM 0 (dtab_at okX6_fact 19 rfl) (by decide) rfl ?_
        exact r_i hM (dtab_at okX6_fact 20 rfl) ⟨Option.some.inj h, hS⟩
      · skip
        rw [if_neg h42] at h
        refine w_aln (q := 0) (n := 46) hM (dtab_at okX6_fact 11 rfl) rfl rfl ?_
        refine w_getr (C := RX6) (T := TX6) (i := 5) (k2 := 250) (q := (j + 32)) (n := 49) hM rfl (by decide) rfc_6_5 ly_X6 lkF_X6_34 (dtab_at okX6_fact 12 rfl) rfl ?_
        refine w_aln (q := 0) (n := 50) hM (dtab_at okX6_fact 13 rfl) rfl rfl ?_
        refine w_geti (C := RX6) (T := TX6) (i := 9) (n := 53) hM rfl (by decide) ly_X6 lkF_X6_57 (dtab_at okX6_fact 14 rfl) rfl ?_
        refine w_ic (n := 54) hM 1 (dtab_at okX6_fact 15 rfl) (by decide) rfl ?_
        refine w_isub (n := 55) hM (dtab_at okX6_fact 16 rfl) rfl ?_
        by_cases hg55 : ((S.1 j 9) - 1) < 0 ∨ 150 ≤ ((S.1 j 9) - 1).toNatClampNeg
        · rw [if_pos hg55] at h; cases h
        rw [if_neg hg55] at h
        refine w_ald (nn := 150) (n := 56) hM rfl hg55 (dtab_at okX6_fact 17 rfl) rfl ?_
        refine w_goto (n := 60) hM (dtab_at okX6_fact 18 rfl) (by decide) ?_
        exact r_i hM (dtab_at okX6_fact 20 rfl) ⟨Option.some.inj h, hS⟩
def LX6_feltAt_2 (N : Nat) : Nat → PS → Nat → Int32 → Int32 → Option (Int32)
  | 0, _, _, _, _ => none
  | n + 1, S, v0, v1, v2 => (if (S.1 v0 11) ≤ v2 then (some (-1)) else (if v2 < 0 ∨ 60 ≤ v2.toNatClampNeg then none else (if v1 < (S.2 (v0 + 34) v2.toNatClampNeg) then (LX6_feltAt_2 N n S v0 v1 (v2 + 1)) else (if v2 < 0 ∨ 60 ≤ v2.toNatClampNeg then none else (if v2 < 0 ∨ 60 ≤ v2.toNatClampNeg then none else (if ((S.2 (v0 + 34) v2.toNatClampNeg) + (S.2 (v0 + 36) v2.toNatClampNeg)) ≤ v1 then (LX6_feltAt_2 N n S v0 v1 (v2 + 1)) else (some v2)))))))
set_option maxHeartbeats 4000000 in
set_option maxRecDepth 100000 in
theorem wLX6_feltAt_2 {cy : ClassId × ClassId} {ad : Nat → Nat} {D : va_G} {p : Program} {l : Launch} {e : Env} {s : State} {m : MethodId} {args : Array Value} {below : List Frame} {meth : Method} {c : Code} {A : Nat → Prop} (hM : MX cy GC ad D p s m args meth c cX6_feltAt 3 RX6 (some .int) A) (N : Nat) (S0 : PS) (r : Int32) : ∀ (n : Nat) (S : PS) (v0 : Nat) (v1 : Int32) (v2 : Int32), S = S0 → LX6_feltAt_2 N n S v0 v1 v2 = some r → WW cy GC ad D p l e rmX6_feltAt s m args below meth c 3 A (poi (fun x S' => x = r ∧ S' = S0)) 2 [(0, vr 6 v0), (1, vi v1), (2, vi v2)] [] S := by
  intro n
  induction n with
  | zero => intro S v0 v1 v2 hS h; rw [LX6_feltAt_2] at h; cases h
  | succ n ih =>
    intro S v0 v1 v2 hS h
    rw [LX6_feltAt_2] at h
    refine w_iln (q := 2) (n := 3) hM (dtab_at okX6_feltAt 2 rfl) rfl rfl ?_
    refine w_aln (q := 0) (n := 4) hM (dtab_at okX6_feltAt 3 rfl) rfl rfl ?_
    refine w_geti (C := RX6) (T := TX6) (i := 11) (n := 7) hM rfl (by decide) ly_X6 lkF_X6_63 (dtab_at okX6_feltAt 4 rfl) rfl ?_
    refine w_ic_ge (n := 45) (n2 := 10) hM (dtab_at okX6_feltAt 5 rfl) (by decide) rfl (fun h7 => ?_) (fun h7 => ?_)
    · skip
      rw [if_pos h7] at h
      refine w_ic (n := 46) hM (-1) (dtab_at okX6_feltAt 27 rfl) (by decide) rfl ?_
      exact r_i hM (dtab_at okX6_feltAt 28 rfl) ⟨Option.some.inj h, hS⟩
    · skip
      rw [if_neg h7] at h
      refine w_iln (q := 1) (n := 11) hM (dtab_at okX6_feltAt 6 rfl) rfl rfl ?_
      refine w_aln (q := 0) (n := 12) hM (dtab_at okX6_feltAt 7 rfl) rfl rfl ?_
      refine w_getr (C := RX6) (T := TX6) (i := 6) (k2 := 160) (q := (v0 + 34)) (n := 15) hM rfl (by decide) rfc_6_6 ly_X6 lkF_X6_38 (dtab_at okX6_feltAt 8 rfl) rfl ?_
      refine w_iln (q := 2) (n := 16) hM (dtab_at okX6_feltAt 9 rfl) rfl rfl ?_
      by_cases hg16 : v2 < 0 ∨ 60 ≤ v2.toNatClampNeg
      · rw [if_pos hg16] at h; cases h
      rw [if_neg hg16] at h
      refine w_ald (nn := 60) (n := 17) hM rfl hg16 (dtab_at okX6_feltAt 10 rfl) rfl ?_
      refine w_ic_lt (n := 39) (n2 := 20) hM (dtab_at okX6_feltAt 11 rfl) (by decide) rfl (fun h17 => ?_) (fun h17 => ?_)
      · skip
        rw [if_pos h17] at h
        refine w_iinc (q := 2) (n := 42) (v := (v2 + 1)) (lv' := [(2, vi (v2 + 1)), (0, vr 6 v0), (1, vi v1)]) hM (dtab_at okX6_feltAt 25 rfl) rfl rfl (by decide) rfl rfl ?_
        refine w_goto (n := 2) hM (dtab_at okX6_feltAt 26 rfl) (by decide) ?_
        refine WW.lvs [1, 2, 0] (lv2 := [(0, vr 6 v0), (1, vi v1), (2, vi (v2 + 1))]) rfl ?_
        exact ih S v0 v1 (v2 + 1) hS h
      · skip
        rw [if_neg h17] at h
        refine w_iln (q := 1) (n := 21) hM (dtab_at okX6_feltAt 12 rfl) rfl rfl ?_
        refine w_aln (q := 0) (n := 22) hM (dtab_at okX6_feltAt 13 rfl) rfl rfl ?_
        refine w_getr (C := RX6) (T := TX6) (i := 6) (k2 := 160) (q := (v0 + 34)) (n := 25) hM rfl (by decide) rfc_6_6 ly_X6 lkF_X6_38 (dtab_at okX6_feltAt 14 rfl) rfl ?_
        refine w_iln (q := 2) (n := 26) hM (dtab_at okX6_feltAt 15 rfl) rfl rfl ?_
        by_cases hg26 : v2 < 0 ∨ 60 ≤ v2.toNatClampNeg
        · rw [if_pos hg26] at h; cases h
        rw [if_neg hg26] at h
        refine w_ald (nn := 60) (n := 27) hM rfl hg26 (dtab_at okX6_feltAt 16 rfl) rfl ?_
        refine w_aln (q := 0) (n := 28) hM (dtab_at okX6_feltAt 17 rfl) rfl rfl ?_
        refine w_getr (C := RX6) (T := TX6) (i := 7) (k2 := 160) (q := (v0 + 36)) (n := 31) hM rfl (by decide) rfc_6_7 ly_X6 lkF_X6_41 (dtab_at okX6_feltAt 18 rfl) rfl ?_
        refine w_iln (q := 2) (n := 32) hM (dtab_at okX6_feltAt 19 rfl) rfl rfl ?_
        by_cases hg32 : v2 < 0 ∨ 60 ≤ v2.toNatClampNeg
        · rw [if_pos hg32] at h; cases h
        rw [if_neg hg32] at h
        refine w_ald (nn := 60) (n := 33) hM rfl hg32 (dtab_at okX6_feltAt 20 rfl) rfl ?_
        refine w_iadd (n := 34) hM (dtab_at okX6_feltAt 21 rfl) rfl ?_
        refine w_ic_ge (n := 39) (n2 := 37) hM (dtab_at okX6_feltAt 22 rfl) (by decide) rfl (fun h34 => ?_) (fun h34 => ?_)
        · skip
          rw [if_pos h34] at h
          refine w_iinc (q := 2) (n := 42) (v := (v2 + 1)) (lv' := [(2, vi (v2 + 1)), (0, vr 6 v0), (1, vi v1)]) hM (dtab_at okX6_feltAt 25 rfl) rfl rfl (by decide) rfl rfl ?_
          refine w_goto (n := 2) hM (dtab_at okX6_feltAt 26 rfl) (by decide) ?_
          refine WW.lvs [1, 2, 0] (lv2 := [(0, vr 6 v0), (1, vi v1), (2, vi (v2 + 1))]) rfl ?_
          exact ih S v0 v1 (v2 + 1) hS h
        · skip
          rw [if_neg h34] at h
          refine w_iln (q := 2) (n := 38) hM (dtab_at okX6_feltAt 23 rfl) rfl rfl ?_
          exact r_i hM (dtab_at okX6_feltAt 24 rfl) ⟨Option.some.inj h, hS⟩
def fX6_feltAt (N : Nat) (S : PS) (j : Nat) (i : Int32) : Option (Int32) := (LX6_feltAt_2 N N S j i 0)
set_option maxHeartbeats 4000000 in
set_option maxRecDepth 100000 in
theorem c_X6_feltAt {cy : ClassId × ClassId} {ad : Nat → Nat} {D : va_G} {l : Launch} (N : Nat) (S : PS) (j : Nat) (i : Int32) (r : Int32) (h : fX6_feltAt N S j i = some r) : PMi cy GC ad D l yX6_feltAt (wA yX6_feltAt cX6_feltAt 3 (some .int)) rmX6_feltAt [vr 6 j, vi i] S (fun x S' => x = r ∧ S' = S) := by
  refine PM.of (lv := [(0, vr 6 j), (1, vi i)]) GC_ok (by decide) (Nat.le_of_ble_eq_true rfl) rfl (by simp) ?_
  intro p e s m args below meth c A hM
  rw [fX6_feltAt] at h
  obtain ⟨S0, hS⟩ : ∃ S0 : PS, S = S0 := ⟨S, rfl⟩
  rw [show (fun (x : Int32) (S' : PS) => x = r ∧ S' = S) = (fun x S' => x = r ∧ S' = S0) by rw [hS]]
  refine w_ic (n := 1) hM 0 (dtab_at okX6_feltAt 0 rfl) (by decide) rfl ?_
  refine w_isn (n := 2) (lv' := [(2, vi 0), (0, vr 6 j), (1, vi i)]) hM (dtab_at okX6_feltAt 1 rfl) (by decide) rfl rfl ?_
  refine WW.lvs [1, 2, 0] (lv2 := [(0, vr 6 j), (1, vi i), (2, vi 0)]) rfl ?_
  exact wLX6_feltAt_2 hM N S0 r N S j i 0 hS h
def BX6_feel_89 (N : Nat) (k50 : PS → Nat → Int32 → Int32 → Int32 → Int32 → Option (PS)) (S : PS) (v0 : Nat) (v1 : Int32) (v2 : Int32) (v3 : Int32) (v4 : Int32) : Option (PS) := (if v4 < 0 ∨ 150 ≤ v4.toNatClampNeg then none else (if 60 ≤ ((sta S (v0 + 32) v4.toNatClampNeg (v2 + v1)).1 v0 11) then (k50 (sta S (v0 + 32) v4.toNatClampNeg (v2 + v1)) v0 v1 (v2 + v1) v3 (v4 + 1)) else ((fX5_hasWeldAt N (sta S (v0 + 32) v4.toNatClampNeg (v2 + v1)) (4 * v0 + 2) v4).bind fun r0 => (if r0 = 0 then (k50 (sta S (v0 + 32) v4.toNatClampNeg (v2 + v1)) v0 v1 (v2 + v1) v3 (v4 + 1)) else (if ((sta S (v0 + 32) v4.toNatClampNeg (v2 + v1)).1 v0 11) < 0 ∨ 60 ≤ ((sta S (v0 + 32) v4.toNatClampNeg (v2 + v1)).1 v0 11).toNatClampNeg then none else (if ((sta (sta S (v0 + 32) v4.toNatClampNeg (v2 + v1)) (v0 + 34) ((sta S (v0 + 32) v4.toNatClampNeg (v2 + v1)).1 v0 11).toNatClampNeg v3).1 v0 11) < 0 ∨ 60 ≤ ((sta (sta S (v0 + 32) v4.toNatClampNeg (v2 + v1)) (v0 + 34) ((sta S (v0 + 32) v4.toNatClampNeg (v2 + v1)).1 v0 11).toNatClampNeg v3).1 v0 11).toNatClampNeg then none else (k50 (sti (sta (sta (sta S (v0 + 32) v4.toNatClampNeg (v2 + v1)) (v0 + 34) ((sta S (v0 + 32) v4.toNatClampNeg (v2 + v1)).1 v0 11).toNatClampNeg v3) (v0 + 36) ((sta (sta S (v0 + 32) v4.toNatClampNeg (v2 + v1)) (v0 + 34) ((sta S (v0 + 32) v4.toNatClampNeg (v2 + v1)).1 v0 11).toNatClampNeg v3).1 v0 11).toNatClampNeg ((v2 + v1) - v3)) v0 11 (((sta (sta (sta S (v0 + 32) v4.toNatClampNeg (v2 + v1)) (v0 + 34) ((sta S (v0 + 32) v4.toNatClampNeg (v2 + v1)).1 v0 11).toNatClampNeg v3) (v0 + 36) ((sta (sta S (v0 + 32) v4.toNatClampNeg (v2 + v1)) (v0 + 34) ((sta S (v0 + 32) v4.toNatClampNeg (v2 + v1)).1 v0 11).toNatClampNeg v3).1 v0 11).toNatClampNeg ((v2 + v1) - v3)).1 v0 11) + 1)) v0 v1 (v2 + v1) (v2 + v1) (v4 + 1))))))))
set_option maxHeartbeats 4000000 in
set_option maxRecDepth 100000 in
theorem wBX6_feel_89 {cy : ClassId × ClassId} {ad : Nat → Nat} {D : va_G} {p : Program} {l : Launch} {e : Env} {s : State} {m : MethodId} {args : Array Value} {below : List Frame} {meth : Method} {c : Code} {A : Nat → Prop} (hM : MX cy GC ad D p s m args meth c cX6_feel 6 RX6 none A) (N : Nat) (r : PS) (k50 : PS → Nat → Int32 → Int32 → Int32 → Int32 → Option (PS)) (hk50 : ∀ (S : PS) (v0 : Nat) (v1 : Int32) (v2 : Int32) (v3 : Int32) (v4 : Int32), k50 S v0 v1 v2 v3 v4 = some r → WW cy GC ad D p l e rmX6_feel s m args below meth c 6 A (pov (fun S' => S' = r)) 50 [(0, vr 6 v0), (1, vi v1), (2, vi v2), (3, vi v3), (4, vi v4)] [] S) (S : PS) (v0 : Nat) (v1 : Int32) (v2 : Int32) (v3 : Int32) (v4 : Int32) (h : BX6_feel_89 N k50 S v0 v1 v2 v3 v4 = some r) : WW cy GC ad D p l e rmX6_feel s m args below meth c 6 A (pov (fun S' => S' = r)) 89 [(0, vr 6 v0), (1, vi v1), (2, vi v2), (3, vi v3), (4, vi v4)] [] S := by
  rw [BX6_feel_89] at h
  refine w_iln (q := 2) (n := 90) hM (dtab_at okX6_feel 47 rfl) rfl rfl ?_
  refine w_iln (q := 1) (n := 91) hM (dtab_at okX6_feel 48 rfl) rfl rfl ?_
  refine w_iadd (n := 92) hM (dtab_at okX6_feel 49 rfl) rfl ?_
  refine w_isn (n := 93) (lv' := [(2, vi (v2 + v1)), (0, vr 6 v0), (1, vi v1), (3, vi v3), (4, vi v4)]) hM (dtab_at okX6_feel 50 rfl) (by decide) rfl rfl ?_
  refine w_aln (q := 1) (n := 94) hM (dtab_at okX6_feel 51 rfl) rfl rfl ?_
  refine w_getr (C := RX6) (T := TX6) (i := 5) (k2 := 250) (q := (v0 + 32)) (n := 97) hM rfl (by decide) rfc_6_5 ly_X6 lkF_X6_34 (dtab_at okX6_feel 52 rfl) rfl ?_
  refine w_il (q := 4) (n := 99) hM (dtab_at okX6_feel 53 rfl) rfl rfl ?_
  refine w_iln (q := 0) (n := 100) hM (dtab_at okX6_feel 54 rfl) rfl rfl ?_
  by_cases hg100 : v4 < 0 ∨ 150 ≤ v4.toNatClampNeg
  · rw [if_pos hg100] at h; cases h
  rw [if_neg hg100] at h
  refine w_ast (nn := 150) (n := 101) hM rfl hg100 (dtab_at okX6_feel 55 rfl) rfl ?_
  refine w_aln (q := 1) (n := 102) hM (dtab_at okX6_feel 56 rfl) rfl rfl ?_
  refine w_geti (C := RX6) (T := TX6) (i := 11) (n := 105) hM rfl (by decide) ly_X6 lkF_X6_63 (dtab_at okX6_feel 57 rfl) rfl ?_
  refine w_bi (n := 107) hM 60 (dtab_at okX6_feel 58 rfl) (by decide) rfl ?_
  refine w_ic_ge (n := 156) (n2 := 110) hM (dtab_at okX6_feel 59 rfl) (by decide) rfl (fun h107 => ?_) (fun h107 => ?_)
  · skip
    rw [if_pos h107] at h
    refine w_iinc (q := 4) (n := 159) (v := (v4 + 1)) (lv' := [(4, vi (v4 + 1)), (2, vi (v2 + v1)), (0, vr 6 v0), (1, vi v1), (3, vi v3)]) hM (dtab_at okX6_feel 87 rfl) rfl rfl (by decide) rfl rfl ?_
    refine w_goto (n := 50) hM (dtab_at okX6_feel 88 rfl) (by decide) ?_
    refine WW.lvs [2, 3, 1, 4, 0] (lv2 := [(0, vr 6 v0), (1, vi v1), (2, vi (v2 + v1)), (3, vi v3), (4, vi (v4 + 1))]) rfl ?_
    exact hk50 (sta S (v0 + 32) v4.toNatClampNeg (v2 + v1)) v0 v1 (v2 + v1) v3 (v4 + 1) h
  · skip
    rw [if_neg h107] at h
    refine w_aln (q := 1) (n := 111) hM (dtab_at okX6_feel 60 rfl) rfl rfl ?_
    refine w_getr (C := RX6) (T := TX6) (i := 3) (k2 := 5) (q := (4 * v0 + 2)) (n := 114) hM rfl (by decide) rfc_6_3 ly_X6 lkF_X6_24 (dtab_at okX6_feel 61 rfl) rfl ?_
    refine w_il (q := 4) (n := 116) hM (dtab_at okX6_feel 62 rfl) rfl rfl ?_
    obtain ⟨r0, hr0, h⟩ := Option.bind_eq_some_iff.mp h
    refine w_callVi (n := 119) (As := [vi v4]) (rest := []) (k := 5) (j := (4 * v0 + 2)) (C := RX5) (T := TX5) (N := 3) hM (c_X5_hasWeldAt N (sta S (v0 + 32) v4.toNatClampNeg (v2 + v1)) (4 * v0 + 2) v4 r0 hr0) lkM_X6_70 mv_X5_hasWeldAt (by decide) rfl (by decide) rfl (Nat.le_of_ble_eq_true rfl) rfl (dtab_at okX6_feel 63 rfl) rfl (fun x0 S0 hp0 => ?_)
    obtain ⟨hx_, hs_⟩ := hp0
    have hs_ := hs_.symm
    have hx_ := hx_.symm
    subst hs_
    subst hx_
    refine w_if_eq (n := 156) (n2 := 122) hM (dtab_at okX6_feel 64 rfl) (by decide) rfl (fun h119 => ?_) (fun h119 => ?_)
    · skip
      rw [if_pos h119] at h
      refine w_iinc (q := 4) (n := 159) (v := (v4 + 1)) (lv' := [(4, vi (v4 + 1)), (2, vi (v2 + v1)), (0, vr 6 v0), (1, vi v1), (3, vi v3)]) hM (dtab_at okX6_feel 87 rfl) rfl rfl (by decide) rfl rfl ?_
      refine w_goto (n := 50) hM (dtab_at okX6_feel 88 rfl) (by decide) ?_
      refine WW.lvs [2, 3, 1, 4, 0] (lv2 := [(0, vr 6 v0), (1, vi v1), (2, vi (v2 + v1)), (3, vi v3), (4, vi (v4 + 1))]) rfl ?_
      exact hk50 (sta S (v0 + 32) v4.toNatClampNeg (v2 + v1)) v0 v1 (v2 + v1) v3 (v4 + 1) h
    · skip
      rw [if_neg h119] at h
      refine w_aln (q := 1) (n := 123) hM (dtab_at okX6_feel 65 rfl) rfl rfl ?_
      refine w_getr (C := RX6) (T := TX6) (i := 6) (k2 := 160) (q := (v0 + 34)) (n := 126) hM rfl (by decide) rfc_6_6 ly_X6 lkF_X6_38 (dtab_at okX6_feel 66 rfl) rfl ?_
      refine w_aln (q := 1) (n := 127) hM (dtab_at okX6_feel 67 rfl) rfl rfl ?_
      refine w_geti (C := RX6) (T := TX6) (i := 11) (n := 130) hM rfl (by decide) ly_X6 lkF_X6_63 (dtab_at okX6_feel 68 rfl) rfl ?_
      refine w_iln (q := 3) (n := 131) hM (dtab_at okX6_feel 69 rfl) rfl rfl ?_
      by_cases hg131 : ((sta S (v0 + 32) v4.toNatClampNeg (v2 + v1)).1 v0 11) < 0 ∨ 60 ≤ ((sta S (v0 + 32) v4.toNatClampNeg (v2 + v1)).1 v0 11).toNatClampNeg
      · rw [if_pos hg131] at h; cases h
      rw [if_neg hg131] at h
      refine w_ast (nn := 60) (n := 132) hM rfl hg131 (dtab_at okX6_feel 70 rfl) rfl ?_
      refine w_aln (q := 1) (n := 133) hM (dtab_at okX6_feel 71 rfl) rfl rfl ?_
      refine w_getr (C := RX6) (T := TX6) (i := 7) (k2 := 160) (q := (v0 + 36)) (n := 136) hM rfl (by decide) rfc_6_7 ly_X6 lkF_X6_41 (dtab_at okX6_feel 72 rfl) rfl ?_
      refine w_aln (q := 1) (n := 137) hM (dtab_at okX6_feel 73 rfl) rfl rfl ?_
      refine w_geti (C := RX6) (T := TX6) (i := 11) (n := 140) hM rfl (by decide) ly_X6 lkF_X6_63 (dtab_at okX6_feel 74 rfl) rfl ?_
      refine w_iln (q := 0) (n := 141) hM (dtab_at okX6_feel 75 rfl) rfl rfl ?_
      refine w_iln (q := 3) (n := 142) hM (dtab_at okX6_feel 76 rfl) rfl rfl ?_
      refine w_isub (n := 143) hM (dtab_at okX6_feel 77 rfl) rfl ?_
      by_cases hg143 : ((sta (sta S (v0 + 32) v4.toNatClampNeg (v2 + v1)) (v0 + 34) ((sta S (v0 + 32) v4.toNatClampNeg (v2 + v1)).1 v0 11).toNatClampNeg v3).1 v0 11) < 0 ∨ 60 ≤ ((sta (sta S (v0 + 32) v4.toNatClampNeg (v2 + v1)) (v0 + 34) ((sta S (v0 + 32) v4.toNatClampNeg (v2 + v1)).1 v0 11).toNatClampNeg v3).1 v0 11).toNatClampNeg
      · rw [if_pos hg143] at h; cases h
      rw [if_neg hg143] at h
      refine w_ast (nn := 60) (n := 144) hM rfl hg143 (dtab_at okX6_feel 78 rfl) rfl ?_
      refine w_aln (q := 1) (n := 145) hM (dtab_at okX6_feel 79 rfl) rfl rfl ?_
      refine w_dup (n := 146) hM (dtab_at okX6_feel 80 rfl) rfl rfl ?_
      refine w_geti (C := RX6) (T := TX6) (i := 11) (n := 149) hM rfl (by decide) ly_X6 lkF_X6_63 (dtab_at okX6_feel 81 rfl) rfl ?_
      refine w_ic (n := 150) hM 1 (dtab_at okX6_feel 82 rfl) (by decide) rfl ?_
      refine w_iadd (n := 151) hM (dtab_at okX6_feel 83 rfl) rfl ?_
      refine w_put (C := RX6) (T := TX6) (i := 11) (ty := .int) (n := 154) hM rfl (by decide) ly_X6 tyX6_ok nmX6 lkF_X6_63 rfl (by decide +kernel) rfl rfl (dtab_at okX6_feel 84 rfl) rfl ?_
      refine w_iln (q := 0) (n := 155) hM (dtab_at okX6_feel 85 rfl) rfl rfl ?_
      refine w_isn (n := 156) (lv' := [(3, vi (v2 + v1)), (2, vi (v2 + v1)), (0, vr 6 v0), (1, vi v1), (4, vi v4)]) hM (dtab_at okX6_feel 86 rfl) (by decide) rfl rfl ?_
      refine w_iinc (q := 4) (n := 159) (v := (v4 + 1)) (lv' := [(4, vi (v4 + 1)), (3, vi (v2 + v1)), (2, vi (v2 + v1)), (0, vr 6 v0), (1, vi v1)]) hM (dtab_at okX6_feel 87 rfl) rfl rfl (by decide) rfl rfl ?_
      refine w_goto (n := 50) hM (dtab_at okX6_feel 88 rfl) (by decide) ?_
      refine WW.lvs [3, 4, 2, 1, 0] (lv2 := [(0, vr 6 v0), (1, vi v1), (2, vi (v2 + v1)), (3, vi (v2 + v1)), (4, vi (v4 + 1))]) rfl ?_
      exact hk50 (sti (sta (sta (sta S (v0 + 32) v4.toNatClampNeg (v2 + v1)) (v0 + 34) ((sta S (v0 + 32) v4.toNatClampNeg (v2 + v1)).1 v0 11).toNatClampNeg v3) (v0 + 36) ((sta (sta S (v0 + 32) v4.toNatClampNeg (v2 + v1)) (v0 + 34) ((sta S (v0 + 32) v4.toNatClampNeg (v2 + v1)).1 v0 11).toNatClampNeg v3).1 v0 11).toNatClampNeg ((v2 + v1) - v3)) v0 11 (((sta (sta (sta S (v0 + 32) v4.toNatClampNeg (v2 + v1)) (v0 + 34) ((sta S (v0 + 32) v4.toNatClampNeg (v2 + v1)).1 v0 11).toNatClampNeg v3) (v0 + 36) ((sta (sta S (v0 + 32) v4.toNatClampNeg (v2 + v1)) (v0 + 34) ((sta S (v0 + 32) v4.toNatClampNeg (v2 + v1)).1 v0 11).toNatClampNeg v3).1 v0 11).toNatClampNeg ((v2 + v1) - v3)).1 v0 11) + 1)) v0 v1 (v2 + v1) (v2 + v1) (v4 + 1) h
def LX6_feel_50 (N : Nat) : Nat → PS → Nat → Int32 → Int32 → Int32 → Int32 → Option (PS)
  | 0, _, _, _, _, _, _ => none
  | n + 1, S, v0, v1, v2, v3, v4 => (if (S.1 v0 9) ≤ v4 then (some S) else ((fX6_readingsTogether N S v0 v4).bind fun r0 => (if r0 = (-1) then (BX6_feel_89 N (LX6_feel_50 N n) (sti S v0 10 ((S.1 v0 10) + 1)) v0 v1 v2 v3 v4) else (BX6_feel_89 N (LX6_feel_50 N n) S v0 r0 v2 v3 v4))))
set_option maxHeartbeats 4000000 in
set_option maxRecDepth 100000 in
theorem wLX6_feel_50 {cy : ClassId × ClassId} {ad : Nat → Nat} {D : va_G} {p : Program} {l : Launch} {e : Env} {s : State} {m : MethodId} {args : Array Value} {below : List Frame} {meth : Method} {c : Code} {A : Nat → Prop} (hM : MX cy GC ad D p s m args meth c cX6_feel 6 RX6 none A) (N : Nat) (r : PS) : ∀ (n : Nat) (S : PS) (v0 : Nat) (v1 : Int32) (v2 : Int32) (v3 : Int32) (v4 : Int32), LX6_feel_50 N n S v0 v1 v2 v3 v4 = some r → WW cy GC ad D p l e rmX6_feel s m args below meth c 6 A (pov (fun S' => S' = r)) 50 [(0, vr 6 v0), (1, vi v1), (2, vi v2), (3, vi v3), (4, vi v4)] [] S := by
  intro n
  induction n with
  | zero => intro S v0 v1 v2 v3 v4 h; rw [LX6_feel_50] at h; cases h
  | succ n ih =>
    intro S v0 v1 v2 v3 v4 h
    rw [LX6_feel_50] at h
    refine w_il (q := 4) (n := 52) hM (dtab_at okX6_feel 27 rfl) rfl rfl ?_
    refine w_aln (q := 0) (n := 53) hM (dtab_at okX6_feel 28 rfl) rfl rfl ?_
    refine w_geti (C := RX6) (T := TX6) (i := 9) (n := 56) hM rfl (by decide) ly_X6 lkF_X6_57 (dtab_at okX6_feel 29 rfl) rfl ?_
    refine w_ic_ge (n := 162) (n2 := 59) hM (dtab_at okX6_feel 30 rfl) (by decide) rfl (fun h56 => ?_) (fun h56 => ?_)
    · skip
      rw [if_pos h56] at h
      exact r_v hM (dtab_at okX6_feel 89 rfl) (Option.some.inj h)
    · skip
      rw [if_neg h56] at h
      refine w_aln (q := 0) (n := 60) hM (dtab_at okX6_feel 31 rfl) rfl rfl ?_
      refine w_il (q := 4) (n := 62) hM (dtab_at okX6_feel 32 rfl) rfl rfl ?_
      obtain ⟨r0, hr0, h⟩ := Option.bind_eq_some_iff.mp h
      refine w_callVi (n := 65) (As := [vi v4]) (rest := []) (k := 6) (j := v0) (C := RX6) (T := TX6) (N := 12) hM (c_X6_readingsTogether N S v0 v4 r0 hr0) lkM_X6_66 mv_X6_readingsTogether (by decide) rfl (by decide) rfl (Nat.le_of_ble_eq_true rfl) rfl (dtab_at okX6_feel 33 rfl) rfl (fun x0 S0 hp0 => ?_)
      obtain ⟨hx_, hs_⟩ := hp0
      have hs_ := hs_.symm
      have hx_ := hx_.symm
      subst hs_
      subst hx_
      refine w_is (n := 67) (lv' := [(5, vi r0), (0, vr 6 v0), (1, vi v1), (2, vi v2), (3, vi v3), (4, vi v4)]) hM (dtab_at okX6_feel 34 rfl) (by decide) rfl rfl ?_
      refine w_il (q := 0) (n := 69) hM (dtab_at okX6_feel 35 rfl) rfl rfl ?_
      refine w_ic (n := 70) hM (-1) (dtab_at okX6_feel 36 rfl) (by decide) rfl ?_
      refine w_ic_ne (n := 86) (n2 := 73) hM (dtab_at okX6_feel 37 rfl) (by decide) rfl (fun h70 => ?_) (fun h70 => ?_)
      · skip
        rw [if_neg h70] at h
        refine w_il (q := 0) (n := 88) hM (dtab_at okX6_feel 45 rfl) rfl rfl ?_
        refine w_isn (n := 89) (lv' := [(1, vi r0), (5, vi r0), (0, vr 6 v0), (2, vi v2), (3, vi v3), (4, vi v4)]) hM (dtab_at okX6_feel 46 rfl) (by decide) rfl rfl ?_
        refine WW.lvs [2, 0, 3, 4, 5] (lv2 := [(0, vr 6 v0), (1, vi r0), (2, vi v2), (3, vi v3), (4, vi v4)]) rfl ?_
        exact wBX6_feel_89 hM N r (LX6_feel_50 N n) ih S v0 r0 v2 v3 v4 h
      · skip
        rw [if_pos h70] at h
        refine w_aln (q := 1) (n := 74) hM (dtab_at okX6_feel 38 rfl) rfl rfl ?_
        refine w_dup (n := 75) hM (dtab_at okX6_feel 39 rfl) rfl rfl ?_
        refine w_geti (C := RX6) (T := TX6) (i := 10) (n := 78) hM rfl (by decide) ly_X6 lkF_X6_60 (dtab_at okX6_feel 40 rfl) rfl ?_
        refine w_ic (n := 79) hM 1 (dtab_at okX6_feel 41 rfl) (by decide) rfl ?_
        refine w_iadd (n := 80) hM (dtab_at okX6_feel 42 rfl) rfl ?_
        refine w_put (C := RX6) (T := TX6) (i := 10) (ty := .int) (n := 83) hM rfl (by decide) ly_X6 tyX6_ok nmX6 lkF_X6_60 rfl (by decide +kernel) rfl rfl (dtab_at okX6_feel 43 rfl) rfl ?_
        refine w_goto (n := 89) hM (dtab_at okX6_feel 44 rfl) (by decide) ?_
        refine WW.lvs [1, 2, 3, 4, 5] (lv2 := [(0, vr 6 v0), (1, vi v1), (2, vi v2), (3, vi v3), (4, vi v4)]) rfl ?_
        exact wBX6_feel_89 hM N r (LX6_feel_50 N n) ih (sti S v0 10 ((S.1 v0 10) + 1)) v0 v1 v2 v3 v4 h
def fX6_feel (N : Nat) (S : PS) (j : Nat) : Option (PS) := (LX6_feel_50 N N (sti (sti (sti S j 9 (if (S.1 (4 * j - 1) 2) < (if (S.1 (4 * j) 2) < (S.1 (4 * j + 1) 2) then (S.1 (4 * j + 1) 2) else (S.1 (4 * j) 2)) then (if (S.1 (4 * j) 2) < (S.1 (4 * j + 1) 2) then (S.1 (4 * j + 1) 2) else (S.1 (4 * j) 2)) else (S.1 (4 * j - 1) 2))) j 10 0) j 11 0) j 0 0 0 0)
set_option maxHeartbeats 4000000 in
set_option maxRecDepth 100000 in
theorem c_X6_feel {cy : ClassId × ClassId} {ad : Nat → Nat} {D : va_G} {l : Launch} (N : Nat) (S : PS) (j : Nat) (r : PS) (h : fX6_feel N S j = some r) : PMv cy GC ad D l yX6_feel (wA yX6_feel cX6_feel 6 none) rmX6_feel [vr 6 j] S (fun S' => S' = r) := by
  refine PM.of (lv := [(0, vr 6 j)]) GC_ok (by decide) (Nat.le_of_ble_eq_true rfl) rfl (by simp) ?_
  intro p e s m args below meth c A hM
  rw [fX6_feel] at h
  refine w_aln (q := 0) (n := 1) hM (dtab_at okX6_feel 0 rfl) rfl rfl ?_
  refine w_aln (q := 0) (n := 2) hM (dtab_at okX6_feel 1 rfl) rfl rfl ?_
  refine w_getr (C := RX6) (T := TX6) (i := 0) (k2 := 5) (q := (4 * j - 1)) (n := 5) hM rfl (by decide) rfc_6_0 ly_X6 lkF_X6_12 (dtab_at okX6_feel 2 rfl) rfl ?_
  refine w_geti (C := RX5) (T := TX5) (i := 2) (n := 8) hM rfl (by decide) ly_X5 lkF_X6_47 (dtab_at okX6_feel 3 rfl) rfl ?_
  refine w_aln (q := 0) (n := 9) hM (dtab_at okX6_feel 4 rfl) rfl rfl ?_
  refine w_getr (C := RX6) (T := TX6) (i := 1) (k2 := 5) (q := (4 * j)) (n := 12) hM rfl (by decide) rfc_6_1 ly_X6 lkF_X6_18 (dtab_at okX6_feel 5 rfl) rfl ?_
  refine w_geti (C := RX5) (T := TX5) (i := 2) (n := 15) hM rfl (by decide) ly_X5 lkF_X6_47 (dtab_at okX6_feel 6 rfl) rfl ?_
  refine w_aln (q := 0) (n := 16) hM (dtab_at okX6_feel 7 rfl) rfl rfl ?_
  refine w_getr (C := RX6) (T := TX6) (i := 2) (k2 := 5) (q := (4 * j + 1)) (n := 19) hM rfl (by decide) rfc_6_2 ly_X6 lkF_X6_21 (dtab_at okX6_feel 8 rfl) rfl ?_
  refine w_geti (C := RX5) (T := TX5) (i := 2) (n := 22) hM rfl (by decide) ly_X5 lkF_X6_47 (dtab_at okX6_feel 9 rfl) rfl ?_
  refine w_max (n := 25) hM ⟨lkM_X6_51, mS_J9_max_7cf53, iz_J9, mC_J9_max_7cf53⟩ (by decide) (Nat.le_of_ble_eq_true rfl) (dtab_at okX6_feel 10 rfl) rfl ?_
  refine w_max (n := 28) hM ⟨lkM_X6_51, mS_J9_max_7cf53, iz_J9, mC_J9_max_7cf53⟩ (by decide) (Nat.le_of_ble_eq_true rfl) (dtab_at okX6_feel 11 rfl) rfl ?_
  refine w_put (C := RX6) (T := TX6) (i := 9) (ty := .int) (n := 31) hM rfl (by decide) ly_X6 tyX6_ok nmX6 lkF_X6_57 rfl (by decide +kernel) rfl rfl (dtab_at okX6_feel 12 rfl) rfl ?_
  refine w_aln (q := 0) (n := 32) hM (dtab_at okX6_feel 13 rfl) rfl rfl ?_
  refine w_ic (n := 33) hM 0 (dtab_at okX6_feel 14 rfl) (by decide) rfl ?_
  refine w_put (C := RX6) (T := TX6) (i := 10) (ty := .int) (n := 36) hM rfl (by decide) ly_X6 tyX6_ok nmX6 lkF_X6_60 rfl (by decide +kernel) rfl rfl (dtab_at okX6_feel 15 rfl) rfl ?_
  refine w_aln (q := 0) (n := 37) hM (dtab_at okX6_feel 16 rfl) rfl rfl ?_
  refine w_ic (n := 38) hM 0 (dtab_at okX6_feel 17 rfl) (by decide) rfl ?_
  refine w_put (C := RX6) (T := TX6) (i := 11) (ty := .int) (n := 41) hM rfl (by decide) ly_X6 tyX6_ok nmX6 lkF_X6_63 rfl (by decide +kernel) rfl rfl (dtab_at okX6_feel 18 rfl) rfl ?_
  refine w_ic (n := 42) hM 0 (dtab_at okX6_feel 19 rfl) (by decide) rfl ?_
  refine w_isn (n := 43) (lv' := [(1, vi 0), (0, vr 6 j)]) hM (dtab_at okX6_feel 20 rfl) (by decide) rfl rfl ?_
  refine w_ic (n := 44) hM 0 (dtab_at okX6_feel 21 rfl) (by decide) rfl ?_
  refine w_isn (n := 45) (lv' := [(2, vi 0), (1, vi 0), (0, vr 6 j)]) hM (dtab_at okX6_feel 22 rfl) (by decide) rfl rfl ?_
  refine w_ic (n := 46) hM 0 (dtab_at okX6_feel 23 rfl) (by decide) rfl ?_
  refine w_isn (n := 47) (lv' := [(3, vi 0), (2, vi 0), (1, vi 0), (0, vr 6 j)]) hM (dtab_at okX6_feel 24 rfl) (by decide) rfl rfl ?_
  refine w_ic (n := 48) hM 0 (dtab_at okX6_feel 25 rfl) (by decide) rfl ?_
  refine w_is (n := 50) (lv' := [(4, vi 0), (3, vi 0), (2, vi 0), (1, vi 0), (0, vr 6 j)]) hM (dtab_at okX6_feel 26 rfl) (by decide) rfl rfl ?_
  refine WW.lvs [4, 3, 2, 1, 0] (lv2 := [(0, vr 6 j), (1, vi 0), (2, vi 0), (3, vi 0), (4, vi 0)]) rfl ?_
  exact wLX6_feel_50 hM N r N (sti (sti (sti S j 9 (if (S.1 (4 * j - 1) 2) < (if (S.1 (4 * j) 2) < (S.1 (4 * j + 1) 2) then (S.1 (4 * j + 1) 2) else (S.1 (4 * j) 2)) then (if (S.1 (4 * j) 2) < (S.1 (4 * j + 1) 2) then (S.1 (4 * j + 1) 2) else (S.1 (4 * j) 2)) else (S.1 (4 * j - 1) 2))) j 10 0) j 11 0) j 0 0 0 0 h
