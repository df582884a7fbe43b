def S0 : PS := (fun j k => match j, k with
  | 0, 7 => (50)
  | 0, 8 => (1)
  | 3, 1 => (-1)
  | 4, 1 => (-1)
  | 5, 1 => (-1)
  | 6, 1 => (-1)
  | 7, 1 => (-1)
  | 8, 1 => (-1)
  | 9, 1 => (-1)
  | 10, 1 => (-1)
  | 41, 3 => (100)
  | 41, 4 => (100)
  | 44, 3 => (400)
  | 54, 0 => (5)
  | 54, 1 => (5)
  | 54, 2 => (80)
  | 55, 4 => (4)
  | 55, 5 => (500)
  | 58, 0 => (4)
  | _, _ => 0, fun _ _ => 0)
def M0 : PS := (fun j k => match j, k with
  | 0, 14 => (100)
  | 0, 15 => (100)
  | 0, 23 => (50)
  | 0, 24 => (1)
  | 0, 27 => (400)
  | 0, 33 => (5)
  | 0, 34 => (5)
  | 0, 35 => (80)
  | 0, 39 => (4)
  | 0, 40 => (500)
  | _, _ => 0, fun j => if j = 25 then upd (fun _ => 0) 2 (vp_nar .boolean (1)) else fun _ => 0)
def prC : List Nat := [0, 1, 21, 2, 4, 6, 8, 22, 24, 26, 28, 3, 5, 7, 9, 23, 25, 27, 29, 10, 30, 11, 31, 12, 32, 13, 33, 14, 34, 15, 35, 16, 36, 17, 37, 18, 38, 19, 39, 20, 40, 41, 42, 43, 44, 45, 49, 53, 46, 50, 47, 51, 48, 52, 54, 55, 56, 57, 58]
def prM : List Nat := [0, 1, 2, 3, 4, 5, 6, 7, 8, 9, 10, 11, 12, 13, 14, 15, 16, 17, 18, 19, 20, 21, 22, 23, 24, 25]
set_option maxRecDepth 100000 in
set_option maxHeartbeats 4000000 in
theorem prC_ok (cy : ClassId × ClassId) (u : Nat → Nat) : prC.map (fun i => (wc9 cy u)[i]?) = (pool cy GC (fun j => u (prC.getD j 0)) S0).map some := by rfl
set_option maxRecDepth 100000 in
set_option maxHeartbeats 4000000 in
theorem prM_ok (cy : ClassId × ClassId) (u : Nat → Nat) : prM.map (fun i => (wc10 cy u)[i]?) = (pool cy GM (fun j => u (prM.getD j 0)) M0).map some := by rfl

theorem at_pick {D : va_G} {ws ws' : va_W} {H : Heap} (h : va_P D vwCl ws H) (is : List Nat) (hs : is.map (fun i => ws[i]?) = ws'.map some) : va_P D vwCl ws' H := by
  intro k q hk
  have h1 : (ws'.map some)[k]? = some (some q) := by rw [List.getElem?_map, hk]; rfl
  rw [← hs, List.getElem?_map] at h1
  cases hi : is[k]? with
  | none => rw [hi] at h1; cases h1
  | some i => rw [hi] at h1; exact h i q (Option.some.inj h1)
theorem pick_mem {ws ws' : va_W} (is : List Nat) (hs : is.map (fun i => ws[i]?) = ws'.map some) {k : Nat} {q : Nat × va_E} (hk : ws'[k]? = some q) : ∃ i : Nat, is[k]? = some i ∧ ws[i]? = some q := by
  have h1 : (ws'.map some)[k]? = some (some q) := by rw [List.getElem?_map, hk]; rfl
  rw [← hs, List.getElem?_map] at h1
  cases hi : is[k]? with
  | none => rw [hi] at h1; cases h1
  | some i => rw [hi] at h1; exact ⟨i, rfl, Option.some.inj h1⟩
/-- two parts, each picked out by places -/
theorem pick2_D {A : Nat → Prop} {w1 w2 v1 v2 : va_W} (h : va_D A (w1 ++ w2)) (i1 i2 : List Nat) (n1 : va_nd i1 = true) (n2 : va_nd i2 = true) (h1 : i1.map (fun i => w1[i]?) = v1.map some) (h2 : i2.map (fun i => w2[i]?) = v2.map some) : va_D A (v1 ++ v2) := by
  refine va_D.app ((va_D_l h).sub i1 n1 h1) ((va_D_r h).sub i2 n2 h2) ?_
  intro i j p q hp hq
  obtain ⟨a, -, ha⟩ := pick_mem i1 h1 hp
  obtain ⟨b, -, hb⟩ := pick_mem i2 h2 hq
  exact va_D_x h ha hb
theorem pool2_D {cy : ClassId × ClassId} {G G2 : GG} {ad ad2 : Nat → Nat} {S S2 M M2 : PS} {A : Nat → Prop} (h : va_D A (pool cy G ad S ++ pool cy G2 ad2 M)) : va_D A (pool cy G ad S2 ++ pool cy G2 ad2 M2) := by
  refine va_D.app (pool_D (va_D_l h)) (pool_D (va_D_r h)) ?_
  have key : ∀ {G : GG} {ad : Nat → Nat} {S S2 : PS} (i : Nat) (p : Nat × va_E), (pool cy G ad S2)[i]? = some p → ∃ q, (pool cy G ad S)[i]? = some q ∧ q.1 = p.1 := by
    intro G ad S S2 i p hp
    have hi : i < G.1 := by
      rcases Nat.lt_or_ge i G.1 with h | h
      · exact h
      · rw [List.getElem?_eq_none (by rw [pool_len]; exact h)] at hp; cases hp
    rw [pool_at hi] at hp
    cases hp
    exact ⟨_, pool_at hi, rfl⟩
  intro i j p q hp hq
  obtain ⟨p', hp', e1⟩ := key (S := S) i p hp
  obtain ⟨q', hq', e2⟩ := key (S := M) j q hq
  rw [← e1, ← e2]
  exact va_D_x h hp' hq'
theorem lk_call {cy : ClassId × ClassId} {D : va_G} {p : Program} {l : Launch} {e : Env} {s : State} {m : MethodId} {args : Array Value} {below : List Frame} {meth : Method} {c : Code} {A : Nat → Prop} {Q : State → Prop} {pc ci idx q mc2 ms2 k n : Nat} {y : MethodName} {bytes : ByteArray} {rm2 : Room} {fs st : List Value} {post2 : (Nat → Nat) → va_W} {wr : va_W} {H : Heap} {locs : List Loc} {ls : Array Slot} (hx : p.tables.exec = Jvm.exec) (hb : c.code = code) (hml : c.maxLocals = 4) (hown : s.vm.findClass RL = some m.cls) (hts : ∀ w ∈ LG, w.before args s = true) (hK : va_K D vwCl (ptys cy) s) (hA : ∀ q : Nat, s.heap.size ≤ q → A q) (hM : KM cy D l y bytes rm2 ci fs mc2 ms2 post2) (hw : Cond.methodLink RL idx y ∈ LG ∧ Cond.instanceMethod y ∈ LG ∧ Cond.initialized y.cls ∈ LG ∧ Cond.code y bytes 1 none ∈ LG) (hy : y.name = "<init>" ∧ y.cls ≠ "java/lang/invoke/MethodHandle" ∧ y.cls ≠ "java/lang/invoke/VarHandle" ∧ (parseMethodDescriptor y.desc).map (fun d => d.parameters.length) = some 0) (hr : rm2.cells = mc2 ∧ rm2.slots = ms2 ∧ rm2.frames + 1 ≤ room_1.frames ∧ 8 + (1 + 11) + rm2.locals ≤ room_1.locals) (hcs : k + mc2 ≤ room_1.cells ∧ n + ms2 ≤ room_1.slots) (hroom : (st.map fun v => v.category).sum ≤ 8) (hd : decode code pc = .ok (.invokespecial idx, 3)) (hP : va_P D vwCl (wr ++ [(q, .inr (ci, fs))]) H) (hD : va_D A (wr ++ [(q, .inr (ci, fs))])) (hS : va_S A s.heap H locs) (hsz : ls.size = 4)
    (kk : ∀ u : Nat → Nat, u 0 = q → ∀ (H1 : Heap) (locs1 : List Loc), va_P D vwCl (wr ++ post2 u) H1 → va_D A (wr ++ post2 u) → va_S A s.heap H1 locs1 → W p l e room_1 s m args below meth c H1 locs1 (k + mc2) (n + ms2) Q (F0 m (pc + 3) ls st)) : W p l e room_1 s m args below meth c H locs k n Q (F0 m pc ls (.ref q :: st)) := by
  have hlast : (wr ++ [(q, .inr (ci, fs))])[wr.length]? = some (q, (.inr (ci, fs) : va_E)) := by simp
  have hPc : va_P D vwCl [(q, .inr (ci, fs))] H := fun i x hx => by
    have hi : i < 1 := (List.getElem?_eq_some_iff.mp hx).1
    have : i = 0 := by omega
    subst this
    cases hx
    exact hP wr.length _ hlast
  have hDc : va_D (fun _ => True) [(q, (.inr (ci, fs) : va_E))] := ⟨fun i j a b ha hb _ => by
    have h1 : i < 1 := (List.getElem?_eq_some_iff.mp ha).1
    have h2 : j < 1 := (List.getElem?_eq_some_iff.mp hb).1
    omega, fun _ _ _ => trivial⟩
  have hF : ∀ z, va_A [(q, (.inr (ci, fs) : va_E))] H.size z → A z := by
    intro z hz
    rcases hz with ⟨i, e, hi⟩ | hz
    · have h1 : i < 1 := (List.getElem?_eq_some_iff.mp hi).1
      have : i = 0 := by omega
      subst this
      cases hi
      exact hD.2 wr.length _ hlast
    · exact hA z (Nat.le_trans hS.1 hz)
  have cw : CallB room_1 s args RL idx y bytes 1 none (wA y bytes 1 none) rm2 mc2 ms2 0 ∧ y.name = "<init>" ∧ (Cond.instanceMethod y).before args s = true := cwI 0 hts (LG_good (LG_wA hw.2.2.2)) rfl hr.1 hr.2.1 (hts _ hw.2.2.1) (hts _ hw.1) (hts _ hw.2.1) hy.1 hy.2 hr.2.2
  have hrun := va_runI (nL := 4) (As := []) (rest := st) (b := q) (g := F0 m pc ls (.ref q :: st)) (H := H) (locs := locs) (cells := k) (slots := n) (R := room_1) (e := e) (below := below) (meth := meth) (Ts := LG) (own := RL) ⟨hx, hb, hml, hown, hts⟩ (hM q H.size) cw ⟨fun a U g mk z => by obtain ⟨z0, z1, zP, zK, zD⟩ := z; exact ⟨z0, z1, zP, va_K.moved (u := U) (U := U.calling g mk a) (Vm.Alike.refl U.vm) zK, zD⟩, fun U hU hW => ⟨rfl, by rw [hU], by rw [hU]; exact hPc, va_K.moved hW.alike hK, hDc⟩⟩ rfl rfl hsz rfl (lv_room hroom) hd hcs
  intro T hT X
  obtain ⟨v, st₀, t, T', L, g0, X', hL, e1, e2, ⟨⟨u, hv, hu, hP1, hD1⟩, hz, hk⟩, sts⟩ := hrun T hT X
  cases hv
  rw [g0] at hz hk
  rw [← e1] at hP1 hz hk
  obtain ⟨hP2, hD2⟩ := join_last hP hD hk hP1 hD1 hF
  obtain ⟨t2, a1, b1⟩ := kk u hu T'.heap (locs ++ L) hP2 hD2 ⟨Nat.le_trans hS.1 hz, fun z h1 h2 => by rw [hk z (Nat.lt_of_lt_of_le h1 hS.1) (fun zz => h2 (hF z zz))]; exact hS.2.1 z h1 h2, fun z hz => by
      rcases List.mem_append.mp hz with h | h
      · exact hS.2.2 z h
      · exact hF _ (hL z h)⟩ T' rfl X'
  exact ⟨t2, sts t2 a1, b1⟩
theorem nest_RX5 : Cond.methodLinkNest RX5 36 yX9_isWithin RX9 ∈ lw_tbl := List.mem_append_right _ (List.mem_append_right _ (List.mem_append_left _ (List.mem_of_getElem? (i := 157) rfl)))
theorem nest_RX3 : Cond.methodLinkNest RX3 44 yX9_hoursApart RX9 ∈ lw_tbl := List.mem_append_right _ (List.mem_append_right _ (List.mem_append_right _ (List.mem_append_left _ (List.mem_of_getElem? (i := 24) rfl))))
theorem nest_RX4 : Cond.methodLinkNest RX4 64 yX9_hoursApart RX9 ∈ lw_tbl := List.mem_append_right _ (List.mem_append_right _ (List.mem_append_right _ (List.mem_append_left _ (List.mem_of_getElem? (i := 94) rfl))))
set_option maxHeartbeats 4000000 in
set_option maxRecDepth 100000 in
theorem start_of (nF : Nat) (Inv : PS → PS → Prop) (hs0 : sim_reel nF Inv) (hs1 : sim_lose nF Inv) (hs2 : sim_put nF Inv) (hs3 : sim_get nF Inv) (hs4 : sim_copy nF Inv) (hs5 : sim_run nF Inv) (hs6 : sim_way nF Inv) (hs7 : sim_felt nF Inv) (hs8 : sim_joint nF Inv) (hs9 : sim_wipe nF Inv) (hs10 : sim_costs nF Inv) (hs11 : sim_match nF Inv) (hs12 : sim_paired nF Inv) (hs13 : sim_mark nF Inv) (hs14 : sim_clear nF Inv) (hs15 : sim_about nF Inv) (hs16 : sim_near nF Inv) (hs17 : sim_groups nF Inv) (hs18 : sim_group nF Inv) (hs19 : sim_alone nF Inv) (hs20 : sim_pairing nF Inv) (hs21 : sim_twin nF Inv) (hs22 : sim_tool nF Inv) (hs23 : sim_growth nF Inv) (hs24 : sim_work nF Inv) (hs25 : sim_yearly nF Inv) (hs26 : sim_plan nF Inv) (hs27 : sim_years nF Inv) (hs28 : sim_when nF Inv) (hs29 : sim_trap nF Inv) (hs30 : sim_count nF Inv) (hs31 : sim_digest nF Inv) (hI : Inv S0 M0) {p : Program} {e : Env} {s : State} {m : MethodId} {below : List Frame} {meth : Method} {c : Code} (l : Launch) {b L : Nat} {xs : Nat → Int32} (hL : L ≤ 3072) (C0 : lw_At p s m meth c b L xs) : W p l e room_1 s m #[Value.ref b] below meth c s.heap [] 0 0 (lw_Z below #[Value.ref b] s) (entryFrame m ([Value.ref b] : List Value).toArray 4) := by
  obtain ⟨hx, hb, hr, hml, hown, hts0, hX, hbl, hlocks, hgv⟩ := id C0
  have hts : ∀ w ∈ LG, w.before #[Value.ref b] s = true := fun w h => hts0 w (LG_tbl h)
  have hA : ∀ q : Nat, s.heap.size ≤ q → (fun q : Nat => s.heap.size ≤ q) q := fun _ h => h
  obtain ⟨c0, iS0, hKn0⟩ := u_known (C := RX0) (T := TX0) (N := 5) (n := 5) hts ly_X0 (hts _ inst_X0)
  obtain ⟨c1, iS1, hKn1⟩ := u_known (C := RX1) (T := TX1) (N := 6) (n := 6) hts ly_X1 (hts _ inst_X1)
  obtain ⟨c2, iS2, hKn2⟩ := u_known (C := RX2) (T := TX2) (N := 4) (n := 4) hts ly_X2 (hts _ inst_X2)
  obtain ⟨c3, iS3, hKn3⟩ := u_known (C := RX3) (T := TX3) (N := 8) (n := 8) hts ly_X3 (hts _ inst_X3)
  obtain ⟨c4, iS4, hKn4⟩ := u_known (C := RX4) (T := TX4) (N := 4) (n := 4) hts ly_X4 (hts _ inst_X4)
  obtain ⟨c5, iS5, hKn5⟩ := u_known (C := RX5) (T := TX5) (N := 3) (n := 3) hts ly_X5 (hts _ inst_X5)
  obtain ⟨c6, iS6, hKn6⟩ := u_known (C := RX6) (T := TX6) (N := 12) (n := 12) hts ly_X6 (hts _ inst_X6)
  obtain ⟨c7, iS7, hKn7⟩ := u_known (C := RX7) (T := TX7) (N := 3) (n := 3) hts ly_X7 (hts _ inst_X7)
  obtain ⟨c8, iS8, hKn8⟩ := u_known (C := RX8) (T := TX8) (N := 2) (n := 2) hts ly_X8 (hts _ inst_X8)
  obtain ⟨c9, iS9, hKn9⟩ := u_known (C := RX9) (T := TX9) (N := 10) (n := 10) hts ly_X9 (hts _ inst_X9)
  obtain ⟨c10, iS10, hKn10⟩ := u_known (C := RX10) (T := TX10) (N := 43) (n := 43) hts ly_X10 (hts _ inst_X10)
  obtain ⟨dC, dI, hKc⟩ : ∃ (dC : Nat → ClassId) (dI : Nat → Nat → Nat), ∀ (k : Nat) (q : vw_C), vwCl[k]? = some q → u_Kn s q.1 q.2.1 q.2.2 (dC k) (dI k) := by
    refine ⟨fun k => match k with
      | 0 => c0
      | 1 => c1
      | 2 => c2
      | 3 => c3
      | 4 => c4
      | 5 => c5
      | 6 => c6
      | 7 => c7
      | 8 => c8
      | 9 => c9
      | _ => c10, fun k => match k with
      | 0 => iS0
      | 1 => iS1
      | 2 => iS2
      | 3 => iS3
      | 4 => iS4
      | 5 => iS5
      | 6 => iS6
      | 7 => iS7
      | 8 => iS8
      | 9 => iS9
      | _ => iS10, ?_⟩
    intro k q hq
    match k, hq with
    | 0, hq => cases hq; exact hKn0
    | 1, hq => cases hq; exact hKn1
    | 2, hq => cases hq; exact hKn2
    | 3, hq => cases hq; exact hKn3
    | 4, hq => cases hq; exact hKn4
    | 5, hq => cases hq; exact hKn5
    | 6, hq => cases hq; exact hKn6
    | 7, hq => cases hq; exact hKn7
    | 8, hq => cases hq; exact hKn8
    | 9, hq => cases hq; exact hKn9
    | 10, hq => cases hq; exact hKn10
    | k + 11, hq => simp [vwCl] at hq
  obtain ⟨cI, kI, compI, hfI, hkI, hkdI⟩ := Cond.arrayClass_spec (hts _ ac_I)
  obtain ⟨cZ, kZ, compZ, hfZ, hkZ, hkdZ⟩ := Cond.arrayClass_spec (hts _ ac_Z)
  have hK : va_K (dC, dI) vwCl (ptys (cI, cZ)) s := by
    refine ⟨hKc, fun k q hq => ?_⟩
    match k, hq with
    | 0, hq => cases hq; exact ⟨fun n z => ⟨fun k h => (by cases h), kI, hkI, compI, hkdI⟩, hfI⟩
    | 1, hq => cases hq; exact ⟨fun n z => ⟨fun k h => (by cases h), kZ, hkZ, compZ, hkdZ⟩, hfZ⟩
    | k + 2, hq => simp [ptys] at hq
  have hN : NF s := ⟨va_Nw.of rfl (hts0 _ nest_RX5), va_Nw.of rfl (hts0 _ nest_RX3), va_Nw.of rfl (hts0 _ nest_RX4)⟩
  have hS : va_S (fun q : Nat => s.heap.size ≤ q) s.heap s.heap [] := va_S.rf
  have hP : va_P (dC, dI) vwCl [] s.heap := fun k q h => by simp at h
  have hD : va_D (fun q : Nat => s.heap.size ≤ q) [] := ⟨fun i j p q h => by simp at h, fun k q h => by simp at h⟩
  have hl := lv_entry ([.ref b]) (n := 4) (Nat.le_of_ble_eq_true rfl)
  rw [lg_entry_eq]
  generalize (lg_sl ([.ref b]) ++ List.replicate (4 - (lg_sl ([.ref b])).length) Slot.unset).toArray = ls at hl ⊢
  have hl : lv_has ls 4 [(0, .ref b)] := hl
  refine va_new (ci := 9) (fs := [.null, .null, .null, .null, .null, .null, .null, .int 0, .int 0, .int 0]) (C := RX9) (T := TX9) (N := 10) (own := RL) hx hb hts ly_X9 tyX9 tyX9_ok hown (hts _ lkK_L_7) (hts _ inst_X9) (hts _ iz_X9) hK hP hD hS hA rfl (by decide) (by decide) (by decide) (dtab_at okL_law_p0 0 rfl) (fun q0 H hP hD hS => ?_)
  refine lv_dup hx hb (dtab_at okL_law_p0 1 rfl) rfl ?_
  refine lk_call (wr := []) (q := q0) hx hb hml hown hts hK hA (c_X9_init (cy := (cI, cZ)) (D := (dC, dI)) (l := l)) ⟨lkM_L_9, mI_X9_init, iz_X9, mC_X9_init⟩ (by decide +kernel) (by decide) (by decide) (Nat.le_of_ble_eq_true rfl) (dtab_at okL_law_p0 2 rfl) hP hD hS hl.1 (fun u hu H2 locs2 hP2 hD2 hS2 => ?_)
  subst hu
  refine lv_astore_n (lv' := [(1, .ref (u 0)), (0, .ref b)]) hx hb (dtab_at okL_law_p0 3 rfl) rfl hl (by decide) rfl (fun ls hl => ?_)
  refine va_new (ci := 10) (fs := [.null, .null, .null, .null, .null, .int 0, .int 0, .int 0, .null, .int 0, .null, .null, .int 0, .null, .int 0, .int 0, .null, .null, .null, .null, .null, .null, .null, .int 0, .int 0, .null, .int 0, .int 0, .null, .null, .null, .null, .null, .int 0, .int 0, .int 0, .int 0, .null, .null, .int 0, .int 0, .null, .int 0]) (C := RX10) (T := TX10) (N := 43) (own := RL) hx hb hts ly_X10 tyX10 tyX10_ok hown (hts _ lkK_L_10) (hts _ inst_X10) (hts _ iz_X10) hK hP2 hD2 hS2 hA rfl (by decide) (by decide) (by decide) (dtab_at okL_law_p0 4 rfl) (fun q1 H3 hP3 hD3 hS3 => ?_)
  refine lv_dup hx hb (dtab_at okL_law_p0 5 rfl) rfl ?_
  refine lk_call (wr := [] ++ wc9 (cI, cZ) u) (q := q1) hx hb hml hown hts hK hA (c_X10_init (cy := (cI, cZ)) (D := (dC, dI)) (l := l)) ⟨lkM_L_12, mI_X10_init, iz_X10, mC_X10_init⟩ (by decide +kernel) (by decide) (by decide) (Nat.le_of_ble_eq_true rfl) (dtab_at okL_law_p0 6 rfl) hP3 hD3 hS3 hl.1 (fun u2 hu2 H4 locs4 hP4 hD4 hS4 => ?_)
  subst hu2
  refine lv_astore_n (lv' := [(2, .ref (u2 0)), (1, .ref (u 0)), (0, .ref b)]) hx hb (dtab_at okL_law_p0 7 rfl) rfl hl (by decide) rfl (fun ls hl => ?_)
  refine lv_iconst (v := 0) hx hb (dtab_at okL_law_p0 8 rfl) (by decide) ?_
  refine lv_istore_n (lv' := [(3, .int 0), (2, .ref (u2 0)), (1, .ref (u 0)), (0, .ref b)]) hx hb (dtab_at okL_law_p0 9 rfl) rfl hl (by decide) rfl (fun ls hl => ?_)
  rw [List.nil_append] at hP4 hD4
  have hPp : va_P (dC, dI) vwCl (pool (cI, cZ) GC (fun j => u (prC.getD j 0)) S0 ++ pool (cI, cZ) GM (fun j => u2 (prM.getD j 0)) M0) H4 := (at_pick (va_P_l hP4) prC (prC_ok (cI, cZ) u)).app (at_pick (va_P_r hP4) prM (prM_ok (cI, cZ) u2))
  have hDp := pick2_D hD4 prC prM (by decide) (by decide) (prC_ok (cI, cZ) u) (prM_ok (cI, cZ) u2)
  have hLX : LX (cI, cZ) (dC, dI) (fun j => u (prC.getD j 0)) (fun j => u2 (prM.getD j 0)) p s m meth c b L xs := ⟨hx, hb, hr, hml, hown, hts, hX, hbl, hlocks, hK, fun S M => pool2_D hDp, hN⟩
  exact law_loop nF Inv hs0 hs1 hs2 hs3 hs4 hs5 hs6 hs7 hs8 hs9 hs10 hs11 hs12 hs13 hs14 hs15 hs16 hs17 hs18 hs19 hs20 hs21 hs22 hs23 hs24 hs25 hs26 hs27 hs28 hs29 hs30 hs31 hL hLX 3200 0 0 S0 M0 (by omega) (by omega) rfl hI H4 locs4 ls hPp hS4 (lv_sub hl [0, 3, 2, 1] rfl)
