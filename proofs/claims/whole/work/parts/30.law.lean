/-! THE CLAIM OUT OF ONE WALK OF THE LAW'S BODY. Your part is whole_start (and what it stands on); all else here is the same for every law, but numbers. -/
def R_law : String := "PigLineLaw"
def lw_P (b : Addr) (xs : List Int32) (args : Array Value) (s : State) : Prop := args = #[.ref b] ∧ s.IntsAt b xs ∧ xs.length ≤ 3072 ∧ (Jvm.Cond.and given_1 narrow_1).before args s = true
def lw_Q (_ : Array Value) (s : State) (o : Outcome) (t : State) : Prop := o = .returned (some (.int 1)) ∧ Framed s o t [] 85 9930
def lw_Z (below : List Frame) (a : Array Value) (s : State) : State → Prop := fun t => ∃ o, t.status = .running ∧ Ended t below o ∧ lw_Q a s o t
/-- the law's own end, with 1 on the stack, nothing written that was there before, its room as the claim has it -/
theorem lw_ret {p : Program} {l : Launch} {e : Env} {s : State} {m : MethodId} {below : List Frame} {meth : Method} {c : Code} {b : Nat} (hx : p.tables.exec = Jvm.exec) (hb : c.code = code) (hr : meth.sig.returnType = ret) (hlocks : meth.locks = false) {pc : Nat} {H : Heap} {ls : Array Slot} (hdg : decode code pc = .ok (.ireturn, 1)) : W p l e room_1 s m #[Value.ref b] below meth c H [] 85 9930 (lw_Z below #[Value.ref b] s) (F0 m pc ls [.int 1]) := by
  intro T hT X
  obtain ⟨fs, hret, hrun, hended, hW, hframe⟩ := X.leave (v := some (.int 1)) (hlocks := hlocks) (fun h => by rw [hr] at h; cases h)
  have hmeth' : T.vm.method? m = some meth := X.method'
  refine ⟨T.setFrames fs, ?_, .returned (some (.int 1)), hrun, hended, rfl, ⟨_, rfl⟩, hW, hframe⟩
  jvm_step X.here [X.here.top, hx, hb, hdg, hmeth', hr, ret, narrow_b1]
  (try refine ⟨rfl, ?_⟩); (try refine ⟨rfl, ?_⟩)
  first | (intro acts; rw [hret _ acts rfl rfl rfl]) | rw [hret _ _ rfl rfl rfl]
  exact Steps.refl _
/-- what holds at the law's entry: the machine, the code, the tables' words (any of lw_tbl by 'hts w (by decide +kernel)'), the script of L ints xs at the cell b, what the Statement gives of the start (any of its parts by flat_of_before) -/
def lw_At (p : Program) (s : State) (m : MethodId) (meth : Method) (c : Code) (b L : Nat) (xs : Nat → Int32) : Prop :=
  p.tables.exec = Jvm.exec ∧ c.code = code ∧ meth.sig.returnType = ret ∧ c.maxLocals = 4 ∧ s.vm.findClass R_law = some m.cls ∧ (∀ w ∈ lw_tbl, w.before #[Value.ref b] s = true) ∧ va_X b L xs s s.heap ∧ b < s.heap.size ∧ meth.locks = false ∧ (Jvm.Cond.and given_1 narrow_1).before #[Value.ref b] s = true

def sim_reel (nF : Nat) (Inv : PS → PS → Prop) : Prop := ∀ (S M : PS) (a1 : Int32) (a2 : Int32) (a3 : Int32), Inv S M → ∃ (x : Int32) (S' M' : PS), (fX9_reel nF S a1 a2 a3 = some (x, S')) ∧ (fX10_reel nF M a1 a2 a3 = some (x, M')) ∧ Inv S' M'
def sim_lose (nF : Nat) (Inv : PS → PS → Prop) : Prop := ∀ (S M : PS) (a1 : Int32), Inv S M → ∃ (x : Int32) (S' M' : PS), (fX9_lose nF S a1 = some (x, S')) ∧ (fX10_lose nF M a1 = some (x, M')) ∧ Inv S' M'
def sim_put (nF : Nat) (Inv : PS → PS → Prop) : Prop := ∀ (S M : PS) (a1 : Int32) (a2 : Int32) (a3 : Int32) (a4 : Int32), Inv S M → ∃ (x : Int32) (S' M' : PS), (fX9_put nF S a1 a2 a3 a4 = some (x, S')) ∧ (fX10_put nF M a1 a2 a3 a4 = some (x, M')) ∧ Inv S' M'
def sim_get (nF : Nat) (Inv : PS → PS → Prop) : Prop := ∀ (S M : PS) (a1 : Int32) (a2 : Int32) (a3 : Int32), Inv S M → ∃ (x : Int32) (S' M' : PS), (fX9_get nF S a1 a2 a3 = some (x, S')) ∧ (fX10_get nF M a1 a2 a3 = some (x, M')) ∧ Inv S' M'
def sim_copy (nF : Nat) (Inv : PS → PS → Prop) : Prop := ∀ (S M : PS) (a1 : Int32) (a2 : Int32) (a3 : Int32) (a4 : Int32) (a5 : Int32), Inv S M → ∃ (x : Int32) (S' M' : PS), (fX9_copy nF S a1 a2 a3 a4 a5 = some (x, S')) ∧ (fX10_copy nF M a1 a2 a3 a4 a5 = some (x, M')) ∧ Inv S' M'
def sim_run (nF : Nat) (Inv : PS → PS → Prop) : Prop := ∀ (S M : PS) (a1 : Int32) (a2 : Int32), Inv S M → ∃ (x : Int32) (S' M' : PS), (fX9_run nF S a1 a2 = some (x, S')) ∧ (fX10_run nF M a1 a2 = some (x, M')) ∧ Inv S' M'
def sim_way (nF : Nat) (Inv : PS → PS → Prop) : Prop := ∀ (S M : PS) (a1 : Int32) (a2 : Int32), Inv S M → ∃ (x : Int32) (S' M' : PS), (fX9_way nF S a1 a2 = some (x, S')) ∧ (fX10_way nF M a1 a2 = some (x, M')) ∧ Inv S' M'
def sim_felt (nF : Nat) (Inv : PS → PS → Prop) : Prop := ∀ (S M : PS) (a1 : Int32) (a2 : Int32) (a3 : Int32), Inv S M → ∃ (x : Int32) (S' M' : PS), (fX9_felt nF S a1 a2 a3 = some (x, S')) ∧ (fX10_felt nF M a1 a2 a3 = some (x, M')) ∧ Inv S' M'
def sim_joint (nF : Nat) (Inv : PS → PS → Prop) : Prop := ∀ (S M : PS) (a1 : Int32), Inv S M → ∃ (x : Int32) (S' M' : PS), (fX9_joint nF S a1 = some (x, S')) ∧ (fX10_joint nF M a1 = some (x, M')) ∧ Inv S' M'
def sim_wipe (nF : Nat) (Inv : PS → PS → Prop) : Prop := ∀ (S M : PS), Inv S M → ∃ (x : Int32) (S' M' : PS), (fX9_wipe S = (x, S')) ∧ (fX10_wipe M = (x, M')) ∧ Inv S' M'
def sim_costs (nF : Nat) (Inv : PS → PS → Prop) : Prop := ∀ (S M : PS) (a1 : Int32) (a2 : Int32), Inv S M → ∃ (x : Int32) (S' M' : PS), (fX9_costs S a1 a2 = (x, S')) ∧ (fX10_costs M a1 a2 = (x, M')) ∧ Inv S' M'
def sim_match (nF : Nat) (Inv : PS → PS → Prop) : Prop := ∀ (S M : PS) (a1 : Int32), Inv S M → ∃ (x : Int32) (S' M' : PS), (fX9_match nF S a1 = some (x, S')) ∧ (fX10_match nF M a1 = some (x, M')) ∧ Inv S' M'
def sim_paired (nF : Nat) (Inv : PS → PS → Prop) : Prop := ∀ (S M : PS) (a1 : Int32) (a2 : Int32), Inv S M → ∃ (x : Int32) (S' M' : PS), (fX9_paired nF S a1 a2 = some (x, S')) ∧ (fX10_paired nF M a1 a2 = some (x, M')) ∧ Inv S' M'
def sim_mark (nF : Nat) (Inv : PS → PS → Prop) : Prop := ∀ (S M : PS) (a1 : Int32) (a2 : Int32) (a3 : Int32) (a4 : Int32) (a5 : Int32), Inv S M → ∃ (x : Int32) (S' M' : PS), (fX9_mark nF S a1 a2 a3 a4 a5 = some (x, S')) ∧ (fX10_mark nF M a1 a2 a3 a4 a5 = some (x, M')) ∧ Inv S' M'
def sim_clear (nF : Nat) (Inv : PS → PS → Prop) : Prop := ∀ (S M : PS) (a1 : Int32), Inv S M → ∃ (x : Int32) (S' M' : PS), (fX9_clear nF S a1 = some (x, S')) ∧ (fX10_clear nF M a1 = some (x, M')) ∧ Inv S' M'
def sim_about (nF : Nat) (Inv : PS → PS → Prop) : Prop := ∀ (S M : PS) (a1 : Int32) (a2 : Int32) (a3 : Int32), Inv S M → ∃ (x : Int32) (S' M' : PS), (fX9_about nF S a1 a2 a3 = some (x, S')) ∧ (fX10_about nF M a1 a2 a3 = some (x, M')) ∧ Inv S' M'
def sim_near (nF : Nat) (Inv : PS → PS → Prop) : Prop := ∀ (S M : PS) (a1 : Int32) (a2 : Int32), Inv S M → ∃ (x : Int32) (S' M' : PS), (fX9_near S a1 a2 = (x, S')) ∧ (fX10_near M a1 a2 = (x, M')) ∧ Inv S' M'
def sim_groups (nF : Nat) (Inv : PS → PS → Prop) : Prop := ∀ (S M : PS) (a1 : Int32), Inv S M → ∃ (x : Int32) (S' M' : PS), (fX9_groups nF S a1 = some (x, S')) ∧ (fX10_groups nF M a1 = some (x, M')) ∧ Inv S' M'
def sim_group (nF : Nat) (Inv : PS → PS → Prop) : Prop := ∀ (S M : PS) (a1 : Int32) (a2 : Int32) (a3 : Int32), Inv S M → ∃ (x : Int32) (S' M' : PS), (fX9_group nF S a1 a2 a3 = some (x, S')) ∧ (fX10_group nF M a1 a2 a3 = some (x, M')) ∧ Inv S' M'
def sim_alone (nF : Nat) (Inv : PS → PS → Prop) : Prop := ∀ (S M : PS) (a1 : Int32), Inv S M → ∃ (x : Int32) (S' M' : PS), (fX9_alone S a1 = (x, S')) ∧ (fX10_alone M a1 = (x, M')) ∧ Inv S' M'
def sim_pairing (nF : Nat) (Inv : PS → PS → Prop) : Prop := ∀ (S M : PS) (a1 : Int32), Inv S M → ∃ (x : Int32) (S' M' : PS), (fX9_pairing nF S a1 = some (x, S')) ∧ (fX10_pairing nF M a1 = some (x, M')) ∧ Inv S' M'
def sim_twin (nF : Nat) (Inv : PS → PS → Prop) : Prop := ∀ (S M : PS) (a1 : Int32), Inv S M → ∃ (x : Int32) (S' M' : PS), (fX9_twin nF S a1 = some (x, S')) ∧ (fX10_twin nF M a1 = some (x, M')) ∧ Inv S' M'
def sim_tool (nF : Nat) (Inv : PS → PS → Prop) : Prop := ∀ (S M : PS) (a1 : Int32) (a2 : Int32) (a3 : Int32), Inv S M → ∃ (x : Int32) (S' M' : PS), (fX9_tool S a1 a2 a3 = (x, S')) ∧ (fX10_tool M a1 a2 a3 = (x, M')) ∧ Inv S' M'
def sim_growth (nF : Nat) (Inv : PS → PS → Prop) : Prop := ∀ (S M : PS) (a1 : Int32) (a2 : Int32), Inv S M → ∃ (x : Int32) (S' M' : PS), (fX9_growth nF S a1 a2 = some (x, S')) ∧ (fX10_growth nF M a1 a2 = some (x, M')) ∧ Inv S' M'
def sim_work (nF : Nat) (Inv : PS → PS → Prop) : Prop := ∀ (S M : PS) (a1 : Int32) (a2 : Int32), Inv S M → ∃ (x : Int32) (S' M' : PS), (fX9_work nF S a1 a2 = some (x, S')) ∧ (fX10_work nF M a1 a2 = some (x, M')) ∧ Inv S' M'
def sim_yearly (nF : Nat) (Inv : PS → PS → Prop) : Prop := ∀ (S M : PS) (a1 : Int32) (a2 : Int32), Inv S M → ∃ (x : Int32) (S' M' : PS), (fX9_yearly S a1 a2 = (x, S')) ∧ (fX10_yearly M a1 a2 = (x, M')) ∧ Inv S' M'
def sim_plan (nF : Nat) (Inv : PS → PS → Prop) : Prop := ∀ (S M : PS), Inv S M → ∃ (x : Int32) (S' M' : PS), (fX9_plan nF S = some x ∧ S' = S) ∧ (fX10_plan nF M = some x ∧ M' = M) ∧ Inv S' M'
def sim_years (nF : Nat) (Inv : PS → PS → Prop) : Prop := ∀ (S M : PS), Inv S M → ∃ (x : Int32) (S' M' : PS), (fX9_years nF S = some x ∧ S' = S) ∧ (fX10_years nF M = some x ∧ M' = M) ∧ Inv S' M'
def sim_when (nF : Nat) (Inv : PS → PS → Prop) : Prop := ∀ (S M : PS) (a1 : Int32), Inv S M → ∃ (x : Int32) (S' M' : PS), (fX9_when nF S a1 = some x ∧ S' = S) ∧ (fX10_when nF M a1 = some x ∧ M' = M) ∧ Inv S' M'
def sim_trap (nF : Nat) (Inv : PS → PS → Prop) : Prop := ∀ (S M : PS) (a1 : Int32) (a2 : Int32), (a2 = 0 ∨ a2 = 1) → Inv S M → ∃ (x : Int32) (S' M' : PS), (fX9_trap S a1 a2 = (x, S')) ∧ (fX10_trap nF M a1 a2 = some (x, M')) ∧ Inv S' M'
def sim_count (nF : Nat) (Inv : PS → PS → Prop) : Prop := ∀ (S M : PS) (a1 : Int32), Inv S M → ∃ (x : Int32) (S' M' : PS), (fX9_count S a1 = x ∧ S' = S) ∧ (fX10_count nF M a1 = some x ∧ M' = M) ∧ Inv S' M'
def sim_digest (nF : Nat) (Inv : PS → PS → Prop) : Prop := ∀ (S M : PS), Inv S M → ∃ (x : Int64) (S' M' : PS), (fX9_digest nF S = some (x, S')) ∧ (fX10_digest nF M = some (x, M')) ∧ Inv S' M'

theorem lg_cmp_self (x : Int64) : lg_cmp x x = 0 := by
  unfold lg_cmp
  rw [if_neg (by rw [gt_iff_lt, Int64.lt_iff_toInt_lt]; omega), if_pos rfl]
/-- the addresses of the law's three references: the class' object, the reference's, the script -/
def adL (adC adM : Nat → Nat) (b : Nat) (j : Nat) : Nat := match j with
  | 0 => adC 0
  | 1 => adM 0
  | _ => b
def WL (cy : ClassId × ClassId) (D : va_G) (adC adM : Nat → Nat) (p : Program) (l : Launch) (e : Env) (s : State) (m : MethodId) (below : List Frame) (meth : Method) (c : Code) (b : Nat) (pc : Nat) (lv : List (Nat × AV)) (st : List AV) (S M : PS) : Prop :=
  ∀ (H : Heap) (locs : List Loc) (ls : Array Slot), va_P D vwCl (pool cy GC adC S ++ pool cy GM adM M) H → va_S (fun q : Nat => s.heap.size ≤ q) s.heap H locs → lv_has ls 4 (lv.map (cq (adL adC adM b))) → W p l e room_1 s m #[Value.ref b] below meth c H locs 85 9930 (lw_Z below #[Value.ref b] s) (F0 m pc ls (st.map (cv (adL adC adM b))))
def LX (cy : ClassId × ClassId) (D : va_G) (adC adM : Nat → Nat) (p : Program) (s : State) (m : MethodId) (meth : Method) (c : Code) (b L : Nat) (xs : Nat → Int32) : Prop :=
  p.tables.exec = Jvm.exec ∧ c.code = code ∧ meth.sig.returnType = ret ∧ c.maxLocals = 4 ∧ s.vm.findClass RL = some m.cls ∧ (∀ w ∈ LG, w.before #[Value.ref b] s = true) ∧ va_X b L xs s s.heap ∧ b < s.heap.size ∧ meth.locks = false ∧ va_K D vwCl (ptys cy) s ∧ (∀ S M, va_D (fun q : Nat => s.heap.size ≤ q) (pool cy GC adC S ++ pool cy GM adM M)) ∧ NF s
theorem va_P_l {D : va_G} {w1 w2 : va_W} {H : Heap} (h : va_P D vwCl (w1 ++ w2) H) : va_P D vwCl w1 H := fun k q hk => h k q (by
  have : k < w1.length := (List.getElem?_eq_some_iff.mp hk).1
  rw [List.getElem?_append_left this]; exact hk)
theorem va_P_r {D : va_G} {w1 w2 : va_W} {H : Heap} (h : va_P D vwCl (w1 ++ w2) H) : va_P D vwCl w2 H := fun k q hk => h (w1.length + k) q (by
  rw [List.getElem?_append_right (by omega)]
  simpa using hk)
theorem va_D_l {A : Nat → Prop} {w1 w2 : va_W} (h : va_D A (w1 ++ w2)) : va_D A w1 := by
  have hl : ∀ (k : Nat) (q : Nat × va_E), w1[k]? = some q → (w1 ++ w2)[k]? = some q := fun k q hk => by
    have : k < w1.length := (List.getElem?_eq_some_iff.mp hk).1
    rw [List.getElem?_append_left this]; exact hk
  exact ⟨fun i j p q hp hq => h.1 i j p q (hl i p hp) (hl j q hq), fun k q hk => h.2 k q (hl k q hk)⟩
theorem va_D_r {A : Nat → Prop} {w1 w2 : va_W} (h : va_D A (w1 ++ w2)) : va_D A w2 := by
  have hl : ∀ (k : Nat) (q : Nat × va_E), w2[k]? = some q → (w1 ++ w2)[w1.length + k]? = some q := fun k q hk => by
    rw [List.getElem?_append_right (by omega)]
    simpa using hk
  exact ⟨fun i j p q hp hq he => by have := h.1 _ _ p q (hl i p hp) (hl j q hq) he; omega, fun k q hk => h.2 _ q (hl k q hk)⟩
theorem va_D_x {A : Nat → Prop} {w1 w2 : va_W} (h : va_D A (w1 ++ w2)) {i j : Nat} {p q : Nat × va_E} (hp : w1[i]? = some p) (hq : w2[j]? = some q) : p.1 ≠ q.1 := by
  intro he
  have h1 : i < w1.length := (List.getElem?_eq_some_iff.mp hp).1
  have := h.1 i (w1.length + j) p q (by rw [List.getElem?_append_left h1]; exact hp) (by rw [List.getElem?_append_right (by omega)]; simpa using hq) he
  omega
theorem keep_r {D : va_G} {A : Nat → Prop} {w1 w2 : va_W} {H H1 : Heap} (hP : va_P D vwCl (w1 ++ w2) H) (hD : va_D A (w1 ++ w2)) (hk : ∀ q : Nat, q < H.size → ¬ va_A w1 H.size q → H1[q]? = H[q]?) : va_P D vwCl w2 H1 := by
  refine (va_P_r hP).kept (fun k q h => hk q.1 (va_P_r hP k q h).lt (fun ha => ?_))
  rcases ha with ⟨i, e, hi⟩ | ha
  · exact va_D_x hD hi h rfl
  · have := (va_P_r hP k q h).lt
    omega
theorem keep_l {D : va_G} {A : Nat → Prop} {w1 w2 : va_W} {H H1 : Heap} (hP : va_P D vwCl (w1 ++ w2) H) (hD : va_D A (w1 ++ w2)) (hk : ∀ q : Nat, q < H.size → ¬ va_A w2 H.size q → H1[q]? = H[q]?) : va_P D vwCl w1 H1 := by
  refine (va_P_l hP).kept (fun k q h => hk q.1 (va_P_l hP k q h).lt (fun ha => ?_))
  rcases ha with ⟨i, e, hi⟩ | ha
  · exact va_D_x hD h hi rfl
  · have := (va_P_l hP k q h).lt
    omega
section LW
variable {cy : ClassId × ClassId} {D : va_G} {adC adM : Nat → Nat} {p : Program} {l : Launch} {e : Env} {s : State} {m : MethodId} {below : List Frame} {meth : Method} {c : Code} {b L : Nat} {xs : Nat → Int32} {pc : Nat} {lv : List (Nat × AV)} {st : List AV} {S M : PS}
theorem l_iln {k : Fin 4} {q n : Nat} {x : Int32} (hX : LX cy D adC adM p s m meth c b L xs) (hd : decode code pc = .ok (.iload_n k, 1)) (hl : lv[q]? = some ((k : Nat), vi x)) (hn : pc + 1 = n) (kk : WL cy D adC adM p l e s m below meth c b n lv (vi x :: st) S M) : WL cy D adC adM p l e s m below meth c b pc lv st S M := by
  subst hn
  intro H locs ls hP hS hl0
  exact lv_iload_n hX.1 hX.2.1 hd rfl (lvat hl0 hl) (kk H locs ls hP hS hl0)
theorem l_aln {k : Fin 4} {q n : Nat} {x : Nat × Nat} (hX : LX cy D adC adM p s m meth c b L xs) (hd : decode code pc = .ok (.aload_n k, 1)) (hl : lv[q]? = some ((k : Nat), .inr (some x))) (hn : pc + 1 = n) (kk : WL cy D adC adM p l e s m below meth c b n lv (.inr (some x) :: st) S M) : WL cy D adC adM p l e s m below meth c b pc lv st S M := by
  subst hn
  intro H locs ls hP hS hl0
  exact lv_aload_n hX.1 hX.2.1 hd rfl (lvat hl0 hl) (kk H locs ls hP hS hl0)
theorem l_ic {d : Int} {n : Nat} (hX : LX cy D adC adM p s m meth c b L xs) (v : Int32) (hd : decode code pc = .ok (.iconst d, 1)) (hv : Int32.ofInt d = v) (hn : pc + 1 = n) (kk : WL cy D adC adM p l e s m below meth c b n lv (vi v :: st) S M) : WL cy D adC adM p l e s m below meth c b pc lv st S M := by
  subst hn
  intro H locs ls hP hS hl0
  exact lv_iconst hX.1 hX.2.1 hd hv (kk H locs ls hP hS hl0)
theorem l_bi {d : Int} {n : Nat} (hX : LX cy D adC adM p s m meth c b L xs) (v : Int32) (hd : decode code pc = .ok (.bipush d, 2)) (hv : (Int8.ofInt d).toInt32 = v) (hn : pc + 2 = n) (kk : WL cy D adC adM p l e s m below meth c b n lv (vi v :: st) S M) : WL cy D adC adM p l e s m below meth c b pc lv st S M := by
  subst hn
  intro H locs ls hP hS hl0
  exact lv_bipush hX.1 hX.2.1 hd hv (kk H locs ls hP hS hl0)
theorem l_iadd {n : Nat} {x y : Int32} (hX : LX cy D adC adM p s m meth c b L xs) (hd : decode code pc = .ok (.iadd, 1)) (hn : pc + 1 = n) (kk : WL cy D adC adM p l e s m below meth c b n lv (vi (x + y) :: st) S M) : WL cy D adC adM p l e s m below meth c b pc lv (vi y :: vi x :: st) S M := by
  subst hn
  intro H locs ls hP hS hl0
  exact lv_iadd hX.1 hX.2.1 hd (kk H locs ls hP hS hl0)
theorem l_isub {n : Nat} {x y : Int32} (hX : LX cy D adC adM p s m meth c b L xs) (hd : decode code pc = .ok (.isub, 1)) (hn : pc + 1 = n) (kk : WL cy D adC adM p l e s m below meth c b n lv (vi (x - y) :: st) S M) : WL cy D adC adM p l e s m below meth c b pc lv (vi y :: vi x :: st) S M := by
  subst hn
  intro H locs ls hP hS hl0
  exact lv_isub hX.1 hX.2.1 hd (kk H locs ls hP hS hl0)
theorem l_iand {n : Nat} {x y : Int32} (hX : LX cy D adC adM p s m meth c b L xs) (hd : decode code pc = .ok (.iand, 1)) (hn : pc + 1 = n) (kk : WL cy D adC adM p l e s m below meth c b n lv (vi (x &&& y) :: st) S M) : WL cy D adC adM p l e s m below meth c b pc lv (vi y :: vi x :: st) S M := by
  subst hn
  intro H locs ls hP hS hl0
  exact lv_iand hX.1 hX.2.1 hd (kk H locs ls hP hS hl0)
theorem l_lcmp {n : Nat} {x y : Int64} (hX : LX cy D adC adM p s m meth c b L xs) (hd : decode code pc = .ok (.lcmp, 1)) (hn : pc + 1 = n) (kk : WL cy D adC adM p l e s m below meth c b n lv (vi (lg_cmp x y) :: st) S M) : WL cy D adC adM p l e s m below meth c b pc lv (vl y :: vl x :: st) S M := by
  subst hn
  intro H locs ls hP hS hl0
  exact W.lcmp hX.1 hX.2.1 hd (kk H locs ls hP hS hl0)
theorem l_goto {off : Int} {n : Nat} (hX : LX cy D adC adM p s m meth c b L xs) (hd : decode code pc = .ok (.goto off, 3)) (hn : (pc : Int) + off = (n : Int)) (kk : WL cy D adC adM p l e s m below meth c b n lv st S M) : WL cy D adC adM p l e s m below meth c b pc lv st S M := by
  intro H locs ls hP hS hl0
  exact lv_goto hX.1 hX.2.1 hd hn (kk H locs ls hP hS hl0)
theorem l_iinc {i q n : Nat} {d : Int} {x v : Int32} {lv' : List (Nat × AV)} (hX : LX cy D adC adM p s m meth c b L xs) (hd : decode code pc = .ok (.iinc i d, 3)) (hq : lv[q]? = some (i, vi x)) (hv : x + Int32.ofInt d = v) (hi : i < 4) (hl : ls1 lv i (vi v) = lv') (hn : pc + 3 = n) (kk : WL cy D adC adM p l e s m below meth c b n lv' st S M) : WL cy D adC adM p l e s m below meth c b pc lv st S M := by
  subst hn; subst hl
  intro H locs ls hP hS hl0
  exact lv_iinc hX.1 hX.2.1 hd hl0 (k := q) (x := x) (by rw [List.getElem?_map, hq]; rfl) hv hi (ls1_eq (ad := adL adC adM b) i (vi v)) (fun ls' hl' => kk H locs ls' hP hS hl')
theorem l_gt {off : Int} {n n2 : Nat} {x y : Int32} (hX : LX cy D adC adM p s m meth c b L xs) (hd : decode code pc = .ok (.if_icmp .gt off, 3)) (ht : (pc : Int) + off = (n : Int)) (hn : pc + 3 = n2) (kt : y < x → WL cy D adC adM p l e s m below meth c b n lv st S M) (kf : ¬ y < x → WL cy D adC adM p l e s m below meth c b n2 lv st S M) : WL cy D adC adM p l e s m below meth c b pc lv (vi y :: vi x :: st) S M := by
  subst hn
  intro H locs ls hP hS hl0
  exact lv_icmp_gt hX.1 hX.2.1 hd ht (fun hc => kt hc H locs ls hP hS hl0) (fun hc => kf hc H locs ls hP hS hl0)
theorem l_eqT {off : Int} {n : Nat} {x : Int32} (hX : LX cy D adC adM p s m meth c b L xs) (hd : decode code pc = .ok (.if_icmp .eq off, 3)) (ht : (pc : Int) + off = (n : Int)) (kt : WL cy D adC adM p l e s m below meth c b n lv st S M) : WL cy D adC adM p l e s m below meth c b pc lv (vi x :: vi x :: st) S M := by
  intro H locs ls hP hS hl0
  exact lv_icmp_eq hX.1 hX.2.1 hd ht (fun _ => kt H locs ls hP hS hl0) (fun hc => absurd rfl hc)
theorem l_if_eq {off : Int} {n n2 : Nat} {x : Int32} (hX : LX cy D adC adM p s m meth c b L xs) (hd : decode code pc = .ok (.ifCond .eq off, 3)) (ht : (pc : Int) + off = (n : Int)) (hn : pc + 3 = n2) (kt : x = 0 → WL cy D adC adM p l e s m below meth c b n lv st S M) (kf : ¬ x = 0 → WL cy D adC adM p l e s m below meth c b n2 lv st S M) : WL cy D adC adM p l e s m below meth c b pc lv (vi x :: st) S M := by
  subst hn
  intro H locs ls hP hS hl0
  exact lv_if_eq hX.1 hX.2.1 hd ht (fun hc => kt hc H locs ls hP hS hl0) (fun hc => kf hc H locs ls hP hS hl0)
theorem l_len {k n : Nat} (hX : LX cy D adC adM p s m meth c b L xs) (hd : decode code pc = .ok (.arraylength, 1)) (hn : pc + 1 = n) (kk : WL cy D adC adM p l e s m below meth c b n lv (vi (Int32.ofNat L) :: st) S M) : WL cy D adC adM p l e s m below meth c b pc lv (vr k 2 :: st) S M := by
  subst hn
  intro H locs ls hP hS hl0
  exact va_slen hX.1 hX.2.1 hX.2.2.2.2.2.2.1 hX.2.2.2.2.2.2.2.1 (Nat.not_le.mpr hX.2.2.2.2.2.2.2.1) hS hd (kk H locs ls hP hS hl0)
theorem l_sld {k n : Nat} {i : Int32} (hX : LX cy D adC adM p s m meth c b L xs) (hin : vp_in i L) (hd : decode code pc = .ok (.iaload, 1)) (hn : pc + 1 = n) (kk : WL cy D adC adM p l e s m below meth c b n lv (vi (xs i.toNatClampNeg) :: st) S M) : WL cy D adC adM p l e s m below meth c b pc lv (vi i :: vr k 2 :: st) S M := by
  subst hn
  intro H locs ls hP hS hl0
  exact va_sld hX.1 hX.2.1 hX.2.2.2.2.2.2.1 hX.2.2.2.2.2.2.2.1 (Nat.not_le.mpr hX.2.2.2.2.2.2.2.1) hS hin hd (kk H locs ls hP hS hl0)
theorem l_tsIn {dflt lo hi : Int} {offs : Array Int} {len : Nat} {x : Int32} {off : Int} {n : Nat} (hX : LX cy D adC adM p s m meth c b L xs) (hd : decode code pc = .ok (.tableswitch dflt lo hi offs, len)) (h3 : ¬ x.toInt < lo) (h4 : ¬ hi < x.toInt) (ho : offs[(x.toInt - lo).toNat]? = some off) (ht : (pc : Int) + off = (n : Int)) (kk : WL cy D adC adM p l e s m below meth c b n lv st S M) : WL cy D adC adM p l e s m below meth c b pc lv (vi x :: st) S M := by
  intro H locs ls hP hS hl0
  exact lv_tableIn hX.1 hX.2.1 hd h3 h4 ho ht (kk H locs ls hP hS hl0)
theorem l_tsOut {dflt lo hi : Int} {offs : Array Int} {len : Nat} {x : Int32} {n : Nat} (hX : LX cy D adC adM p s m meth c b L xs) (hd : decode code pc = .ok (.tableswitch dflt lo hi offs, len)) (h : x.toInt < lo ∨ hi < x.toInt) (ht : (pc : Int) + dflt = (n : Int)) (kk : WL cy D adC adM p l e s m below meth c b n lv st S M) : WL cy D adC adM p l e s m below meth c b pc lv (vi x :: st) S M := by
  intro H locs ls hP hS hl0
  exact lv_tableOut hX.1 hX.2.1 hd h ht (kk H locs ls hP hS hl0)
theorem l_ret (hX : LX cy D adC adM p s m meth c b L xs) (hd : decode code pc = .ok (.ireturn, 1)) : WL cy D adC adM p l e s m below meth c b pc lv [vi 1] S M := by
  intro H locs ls hP hS hl0
  refine va_forget hS.2.2 ?_
  exact lw_ret hX.1 hX.2.1 hX.2.2.1 hX.2.2.2.2.2.2.2.2.1 hd
theorem adL0 (is : List Int32) (ad ad2 : Nat → Nat) : (is.map vi).map (cv ad) = (is.map vi).map (cv ad2) := by
  simp only [List.map_map]
  apply List.map_congr_left
  intro x _
  rfl
theorem l_back1 {post1 : Option AV → PS → Prop} {rest : List AV} {n : Nat} {aa : Array Value} {H : Heap} {locs : List Loc} {ls : Array Slot} {st0 : List Value} (hX : LX cy D adC adM p s m meth c b L xs) (hP : va_P D vwCl (pool cy GC adC S ++ pool cy GM adM M) H) (hS : va_S (fun q : Nat => s.heap.size ≤ q) s.heap H locs) (hl0 : lv_has ls 4 (lv.map (cq (adL adC adM b))))
    (hr : va_Run p l e room_1 s m #[Value.ref b] below meth c H locs 85 9930 0 0 (F0 m pc ls st0) (rest.map (cv (adL adC adM b))) (pq cy GC adC D post1 (va_A (pool cy GC adC S) H.size) aa) (va_A (pool cy GC adC S) H.size)) (hn : pc + 3 = n)
    (kk : ∀ v S', (∀ x, v = some x → ∀ ad ad2 : Nat → Nat, cv ad x = cv ad2 x) → post1 v S' → WL cy D adC adM p l e s m below meth c b n lv (v.toList ++ rest) S' M) (hpi : ∀ v S', post1 v S' → ∀ x, v = some x → ∀ ad ad2 : Nat → Nat, cv ad x = cv ad2 x) : W p l e room_1 s m #[Value.ref b] below meth c H locs 85 9930 (lw_Z below #[Value.ref b] s) (F0 m pc ls st0) := by
  subst hn
  have hA1 : ∀ q, va_A (pool cy GC adC S) H.size q → s.heap.size ≤ q := by
    intro q hq
    rcases hq with ⟨k, e, hk⟩ | hq
    · exact (va_D_l (hX.2.2.2.2.2.2.2.2.2.2.1 S M)).2 k _ hk
    · exact Nat.le_trans hS.1 hq
  intro T hT X
  obtain ⟨v, st₀, t, T', Lo, h0, X', hL, e1, e2, ⟨⟨v', S', hv, hp, hvw, hP1⟩, hz, hk⟩, sts⟩ := hr T hT X
  have hv2 : v = v'.map (cv adC) := by cases hv; rfl
  subst hv2
  rw [h0] at hz hk
  rw [← e1] at hP1 hz hk
  have hi := hpi v' S' hp
  obtain ⟨t2, a1, b1⟩ := kk v' S' hi hp T'.heap (locs ++ Lo) ls (hP1.app (keep_r hP (hX.2.2.2.2.2.2.2.2.2.2.1 S M) hk))
    ⟨Nat.le_trans hS.1 hz, fun q h3 h4 => by rw [hk q (Nat.lt_of_lt_of_le h3 hS.1) (fun z => h4 (hA1 q z))]; exact hS.2.1 q h3 h4, fun q hq => by
      rcases List.mem_append.mp hq with h | h
      · exact hS.2.2 q h
      · exact hA1 _ (hL q h)⟩ hl0 T' rfl X'
  refine ⟨t2, sts t2 ?_, b1⟩
  have e : (v'.toList ++ rest).map (cv (adL adC adM b)) = (v'.map (cv adC)).toList ++ rest.map (cv (adL adC adM b)) := by
    rcases v' with _ | x
    · simp
    · simp [hi x rfl adC (adL adC adM b)]
  rw [e] at a1
  exact a1
theorem l_back2 {post1 : Option AV → PS → Prop} {rest : List AV} {n : Nat} {aa : Array Value} {H : Heap} {locs : List Loc} {ls : Array Slot} {st0 : List Value} (hX : LX cy D adC adM p s m meth c b L xs) (hP : va_P D vwCl (pool cy GC adC S ++ pool cy GM adM M) H) (hS : va_S (fun q : Nat => s.heap.size ≤ q) s.heap H locs) (hl0 : lv_has ls 4 (lv.map (cq (adL adC adM b))))
    (hr : va_Run p l e room_1 s m #[Value.ref b] below meth c H locs 85 9930 0 0 (F0 m pc ls st0) (rest.map (cv (adL adC adM b))) (pq cy GM adM D post1 (va_A (pool cy GM adM M) H.size) aa) (va_A (pool cy GM adM M) H.size)) (hn : pc + 3 = n)
    (kk : ∀ v M', (∀ x, v = some x → ∀ ad ad2 : Nat → Nat, cv ad x = cv ad2 x) → post1 v M' → WL cy D adC adM p l e s m below meth c b n lv (v.toList ++ rest) S M') (hpi : ∀ v S', post1 v S' → ∀ x, v = some x → ∀ ad ad2 : Nat → Nat, cv ad x = cv ad2 x) : W p l e room_1 s m #[Value.ref b] below meth c H locs 85 9930 (lw_Z below #[Value.ref b] s) (F0 m pc ls st0) := by
  subst hn
  have hA1 : ∀ q, va_A (pool cy GM adM M) H.size q → s.heap.size ≤ q := by
    intro q hq
    rcases hq with ⟨k, e, hk⟩ | hq
    · exact (va_D_r (hX.2.2.2.2.2.2.2.2.2.2.1 S M)).2 k _ hk
    · exact Nat.le_trans hS.1 hq
  intro T hT X
  obtain ⟨v, st₀, t, T', Lo, h0, X', hL, e1, e2, ⟨⟨v', M', hv, hp, hvw, hP1⟩, hz, hk⟩, sts⟩ := hr T hT X
  have hv2 : v = v'.map (cv adM) := by cases hv; rfl
  subst hv2
  rw [h0] at hz hk
  rw [← e1] at hP1 hz hk
  have hi := hpi v' M' hp
  obtain ⟨t2, a1, b1⟩ := kk v' M' hi hp T'.heap (locs ++ Lo) ls ((keep_l hP (hX.2.2.2.2.2.2.2.2.2.2.1 S M) hk).app hP1)
    ⟨Nat.le_trans hS.1 hz, fun q h3 h4 => by rw [hk q (Nat.lt_of_lt_of_le h3 hS.1) (fun z => h4 (hA1 q z))]; exact hS.2.1 q h3 h4, fun q hq => by
      rcases List.mem_append.mp hq with h | h
      · exact hS.2.2 q h
      · exact hA1 _ (hL q h)⟩ hl0 T' rfl X'
  refine ⟨t2, sts t2 ?_, b1⟩
  have e : (v'.toList ++ rest).map (cv (adL adC adM b)) = (v'.map (cv adM)).toList ++ rest.map (cv (adL adC adM b)) := by
    rcases v' with _ | x
    · simp
    · simp [hi x rfl adM (adL adC adM b)]
  rw [e] at a1
  exact a1
theorem l_callCi {y : MethodName} {rm2 : Room} {is : List Int32} {rest : List AV} {q1 : Int32 → PS → Prop} {n idx maxL2 na : Nat} {bytes : ByteArray} {ret2 : Option FieldType} (hX : LX cy D adC adM p s m meth c b L xs) (hC : PM cy GC adC D l y (wA y bytes maxL2 ret2) rm2 (vr 9 0 :: is.map vi) S (poi q1)) (hlm : Cond.methodLink RL idx y ∈ LG) (hmv : mV y RX9 bytes maxL2 ret2 na) (hrm : rm2.cells = 0 ∧ rm2.slots = 0 ∧ rm2.frames + 1 ≤ room_1.frames ∧ 8 + (maxL2 + 11) + rm2.locals ≤ room_1.locals) (hna : is.length = na) (hroom : (rest.map acat).sum ≤ 8) (hst : st = (is.map vi).reverse ++ vr 0 0 :: rest) (hd : decode code pc = .ok (.invokevirtual idx, 3)) (hn : pc + 3 = n) (kk : ∀ x S', q1 x S' → WL cy D adC adM p l e s m below meth c b n lv (vi x :: rest) S' M) : WL cy D adC adM p l e s m below meth c b pc lv st S M := by
  subst hst
  intro H locs ls hP hS hl0
  have hPc := va_P_l hP
  have hDc : va_D (fun _ => True) (pool cy GC adC S) := (va_D_l (hX.2.2.2.2.2.2.2.2.2.2.1 S M)).weaken (fun _ _ _ _ => trivial)
  have hwk : ∀ v ∈ vr 9 0 :: is.map vi, wk GC v := by
    intro v hv
    rcases List.mem_cons.mp hv with h | h
    · subst h; exact ⟨rfl, by decide⟩
    · obtain ⟨x, -, rfl⟩ := List.mem_map.mp h
      trivial
  refine l_back1 hX hP hS hl0 (aa := (Value.ref (adC 0) :: (is.map vi).map (cv adC)).toArray) (va_runV (nL := 4) (As := (is.map vi).map (cv adC)) (rest := rest.map (cv (adL adC adM b))) (b := adC 0) (Ts := LG) (own := RL) ⟨hX.1, hX.2.1, hX.2.2.2.1, hX.2.2.2.2.1, hX.2.2.2.2.2.1⟩ (hC hwk H.size) (cwV' hX.2.2.2.2.2.1 hlm hmv hrm) ⟨fbl, va_recv (fs := (List.range (nfk 9)).map (pval GC adC S 0)) hX.2.2.2.2.2.2.2.2.2.1 hPc (ci := 9) (q0 := 0) rfl ?_, fun U hU hW => ⟨rfl, by rw [hU], by rw [hU]; exact hPc, va_K.moved hW.alike hX.2.2.2.2.2.2.2.2.2.1, hDc, NF.warm hW hX.2.2.2.2.2.2.2.2.2.2.2⟩⟩ rfl (by rw [List.length_map, List.length_map]; exact hna) hl0.1 ?_ (lv_room (by rw [acat_eq]; exact hroom)) hd ⟨Nat.le_refl _, Nat.le_refl _⟩) hn (fun v S' hvi hp => ?_) ?_
  · rw [pool_at (by decide)]; rfl
  · show ((is.map vi).reverse ++ vr 0 0 :: rest).map (cv (adL adC adM b)) = ((is.map vi).map (cv adC)).reverse ++ Value.ref (adC 0) :: rest.map (cv (adL adC adM b))
    rw [adL0 is adC (adL adC adM b)]
    simp [cv, adL]
  · obtain ⟨x, hx, hq⟩ := hp
    subst hx
    exact kk x S' hq
  · intro v S' hp x hx ad ad2
    obtain ⟨x2, hx2, -⟩ := hp
    rw [hx2] at hx
    cases hx
    rfl
theorem l_callMi {y : MethodName} {rm2 : Room} {is : List Int32} {rest : List AV} {q1 : Int32 → PS → Prop} {n idx maxL2 na : Nat} {bytes : ByteArray} {ret2 : Option FieldType} (hX : LX cy D adC adM p s m meth c b L xs) (hC : PM cy GM adM D l y (wA y bytes maxL2 ret2) rm2 (vr 10 0 :: is.map vi) M (poi q1)) (hlm : Cond.methodLink RL idx y ∈ LG) (hmv : mV y RX10 bytes maxL2 ret2 na) (hrm : rm2.cells = 0 ∧ rm2.slots = 0 ∧ rm2.frames + 1 ≤ room_1.frames ∧ 8 + (maxL2 + 11) + rm2.locals ≤ room_1.locals) (hna : is.length = na) (hroom : (rest.map acat).sum ≤ 8) (hst : st = (is.map vi).reverse ++ vr 0 1 :: rest) (hd : decode code pc = .ok (.invokevirtual idx, 3)) (hn : pc + 3 = n) (kk : ∀ x S', q1 x S' → WL cy D adC adM p l e s m below meth c b n lv (vi x :: rest) S S') : WL cy D adC adM p l e s m below meth c b pc lv st S M := by
  subst hst
  intro H locs ls hP hS hl0
  have hPc := va_P_r hP
  have hDc : va_D (fun _ => True) (pool cy GM adM M) := (va_D_r (hX.2.2.2.2.2.2.2.2.2.2.1 S M)).weaken (fun _ _ _ _ => trivial)
  have hwk : ∀ v ∈ vr 10 0 :: is.map vi, wk GM v := by
    intro v hv
    rcases List.mem_cons.mp hv with h | h
    · subst h; exact ⟨rfl, by decide⟩
    · obtain ⟨x, -, rfl⟩ := List.mem_map.mp h
      trivial
  refine l_back2 hX hP hS hl0 (aa := (Value.ref (adM 0) :: (is.map vi).map (cv adM)).toArray) (va_runV (nL := 4) (As := (is.map vi).map (cv adM)) (rest := rest.map (cv (adL adC adM b))) (b := adM 0) (Ts := LG) (own := RL) ⟨hX.1, hX.2.1, hX.2.2.2.1, hX.2.2.2.2.1, hX.2.2.2.2.2.1⟩ (hC hwk H.size) (cwV' hX.2.2.2.2.2.1 hlm hmv hrm) ⟨fbl, va_recv (fs := (List.range (nfk 10)).map (pval GM adM M 0)) hX.2.2.2.2.2.2.2.2.2.1 hPc (ci := 10) (q0 := 0) rfl ?_, fun U hU hW => ⟨rfl, by rw [hU], by rw [hU]; exact hPc, va_K.moved hW.alike hX.2.2.2.2.2.2.2.2.2.1, hDc, NF.warm hW hX.2.2.2.2.2.2.2.2.2.2.2⟩⟩ rfl (by rw [List.length_map, List.length_map]; exact hna) hl0.1 ?_ (lv_room (by rw [acat_eq]; exact hroom)) hd ⟨Nat.le_refl _, Nat.le_refl _⟩) hn (fun v S' hvi hp => ?_) ?_
  · rw [pool_at (by decide)]; rfl
  · show ((is.map vi).reverse ++ vr 0 1 :: rest).map (cv (adL adC adM b)) = ((is.map vi).map (cv adM)).reverse ++ Value.ref (adM 0) :: rest.map (cv (adL adC adM b))
    rw [adL0 is adM (adL adC adM b)]
    simp [cv, adL]
  · obtain ⟨x, hx, hq⟩ := hp
    subst hx
    exact kk x S' hq
  · intro v S' hp x hx ad ad2
    obtain ⟨x2, hx2, -⟩ := hp
    rw [hx2] at hx
    cases hx
    rfl
theorem l_callCl {y : MethodName} {rm2 : Room} {is : List Int32} {rest : List AV} {q1 : Int64 → PS → Prop} {n idx maxL2 na : Nat} {bytes : ByteArray} {ret2 : Option FieldType} (hX : LX cy D adC adM p s m meth c b L xs) (hC : PM cy GC adC D l y (wA y bytes maxL2 ret2) rm2 (vr 9 0 :: is.map vi) S (pol q1)) (hlm : Cond.methodLink RL idx y ∈ LG) (hmv : mV y RX9 bytes maxL2 ret2 na) (hrm : rm2.cells = 0 ∧ rm2.slots = 0 ∧ rm2.frames + 1 ≤ room_1.frames ∧ 8 + (maxL2 + 11) + rm2.locals ≤ room_1.locals) (hna : is.length = na) (hroom : (rest.map acat).sum ≤ 8) (hst : st = (is.map vi).reverse ++ vr 0 0 :: rest) (hd : decode code pc = .ok (.invokevirtual idx, 3)) (hn : pc + 3 = n) (kk : ∀ x S', q1 x S' → WL cy D adC adM p l e s m below meth c b n lv (vl x :: rest) S' M) : WL cy D adC adM p l e s m below meth c b pc lv st S M := by
  subst hst
  intro H locs ls hP hS hl0
  have hPc := va_P_l hP
  have hDc : va_D (fun _ => True) (pool cy GC adC S) := (va_D_l (hX.2.2.2.2.2.2.2.2.2.2.1 S M)).weaken (fun _ _ _ _ => trivial)
  have hwk : ∀ v ∈ vr 9 0 :: is.map vi, wk GC v := by
    intro v hv
    rcases List.mem_cons.mp hv with h | h
    · subst h; exact ⟨rfl, by decide⟩
    · obtain ⟨x, -, rfl⟩ := List.mem_map.mp h
      trivial
  refine l_back1 hX hP hS hl0 (aa := (Value.ref (adC 0) :: (is.map vi).map (cv adC)).toArray) (va_runV (nL := 4) (As := (is.map vi).map (cv adC)) (rest := rest.map (cv (adL adC adM b))) (b := adC 0) (Ts := LG) (own := RL) ⟨hX.1, hX.2.1, hX.2.2.2.1, hX.2.2.2.2.1, hX.2.2.2.2.2.1⟩ (hC hwk H.size) (cwV' hX.2.2.2.2.2.1 hlm hmv hrm) ⟨fbl, va_recv (fs := (List.range (nfk 9)).map (pval GC adC S 0)) hX.2.2.2.2.2.2.2.2.2.1 hPc (ci := 9) (q0 := 0) rfl ?_, fun U hU hW => ⟨rfl, by rw [hU], by rw [hU]; exact hPc, va_K.moved hW.alike hX.2.2.2.2.2.2.2.2.2.1, hDc, NF.warm hW hX.2.2.2.2.2.2.2.2.2.2.2⟩⟩ rfl (by rw [List.length_map, List.length_map]; exact hna) hl0.1 ?_ (lv_room (by rw [acat_eq]; exact hroom)) hd ⟨Nat.le_refl _, Nat.le_refl _⟩) hn (fun v S' hvi hp => ?_) ?_
  · rw [pool_at (by decide)]; rfl
  · show ((is.map vi).reverse ++ vr 0 0 :: rest).map (cv (adL adC adM b)) = ((is.map vi).map (cv adC)).reverse ++ Value.ref (adC 0) :: rest.map (cv (adL adC adM b))
    rw [adL0 is adC (adL adC adM b)]
    simp [cv, adL]
  · obtain ⟨x, hx, hq⟩ := hp
    subst hx
    exact kk x S' hq
  · intro v S' hp x hx ad ad2
    obtain ⟨x2, hx2, -⟩ := hp
    rw [hx2] at hx
    cases hx
    rfl
theorem l_callMl {y : MethodName} {rm2 : Room} {is : List Int32} {rest : List AV} {q1 : Int64 → PS → Prop} {n idx maxL2 na : Nat} {bytes : ByteArray} {ret2 : Option FieldType} (hX : LX cy D adC adM p s m meth c b L xs) (hC : PM cy GM adM D l y (wA y bytes maxL2 ret2) rm2 (vr 10 0 :: is.map vi) M (pol q1)) (hlm : Cond.methodLink RL idx y ∈ LG) (hmv : mV y RX10 bytes maxL2 ret2 na) (hrm : rm2.cells = 0 ∧ rm2.slots = 0 ∧ rm2.frames + 1 ≤ room_1.frames ∧ 8 + (maxL2 + 11) + rm2.locals ≤ room_1.locals) (hna : is.length = na) (hroom : (rest.map acat).sum ≤ 8) (hst : st = (is.map vi).reverse ++ vr 0 1 :: rest) (hd : decode code pc = .ok (.invokevirtual idx, 3)) (hn : pc + 3 = n) (kk : ∀ x S', q1 x S' → WL cy D adC adM p l e s m below meth c b n lv (vl x :: rest) S S') : WL cy D adC adM p l e s m below meth c b pc lv st S M := by
  subst hst
  intro H locs ls hP hS hl0
  have hPc := va_P_r hP
  have hDc : va_D (fun _ => True) (pool cy GM adM M) := (va_D_r (hX.2.2.2.2.2.2.2.2.2.2.1 S M)).weaken (fun _ _ _ _ => trivial)
  have hwk : ∀ v ∈ vr 10 0 :: is.map vi, wk GM v := by
    intro v hv
    rcases List.mem_cons.mp hv with h | h
    · subst h; exact ⟨rfl, by decide⟩
    · obtain ⟨x, -, rfl⟩ := List.mem_map.mp h
      trivial
  refine l_back2 hX hP hS hl0 (aa := (Value.ref (adM 0) :: (is.map vi).map (cv adM)).toArray) (va_runV (nL := 4) (As := (is.map vi).map (cv adM)) (rest := rest.map (cv (adL adC adM b))) (b := adM 0) (Ts := LG) (own := RL) ⟨hX.1, hX.2.1, hX.2.2.2.1, hX.2.2.2.2.1, hX.2.2.2.2.2.1⟩ (hC hwk H.size) (cwV' hX.2.2.2.2.2.1 hlm hmv hrm) ⟨fbl, va_recv (fs := (List.range (nfk 10)).map (pval GM adM M 0)) hX.2.2.2.2.2.2.2.2.2.1 hPc (ci := 10) (q0 := 0) rfl ?_, fun U hU hW => ⟨rfl, by rw [hU], by rw [hU]; exact hPc, va_K.moved hW.alike hX.2.2.2.2.2.2.2.2.2.1, hDc, NF.warm hW hX.2.2.2.2.2.2.2.2.2.2.2⟩⟩ rfl (by rw [List.length_map, List.length_map]; exact hna) hl0.1 ?_ (lv_room (by rw [acat_eq]; exact hroom)) hd ⟨Nat.le_refl _, Nat.le_refl _⟩) hn (fun v S' hvi hp => ?_) ?_
  · rw [pool_at (by decide)]; rfl
  · show ((is.map vi).reverse ++ vr 0 1 :: rest).map (cv (adL adC adM b)) = ((is.map vi).map (cv adM)).reverse ++ Value.ref (adM 0) :: rest.map (cv (adL adC adM b))
    rw [adL0 is adM (adL adC adM b)]
    simp [cv, adL]
  · obtain ⟨x, hx, hq⟩ := hp
    subst hx
    exact kk x S' hq
  · intro v S' hp x hx ad ad2
    obtain ⟨x2, hx2, -⟩ := hp
    rw [hx2] at hx
    cases hx
    rfl
theorem law_idx {L t : Nat} {x3 : Int32} (hL : L ≤ 3072) (h1 : t ≤ 3080) (h3 : x3 = nI t) (h24 : ¬ Int32.ofNat L - 6 < x3) : t + 6 ≤ L ∧ vp_in x3 L ∧ vp_in (x3 + (1 : Int32)) L ∧ vp_in (x3 + (2 : Int32)) L ∧ vp_in (x3 + (3 : Int32)) L ∧ vp_in (x3 + (4 : Int32)) L ∧ vp_in (x3 + (5 : Int32)) L := by
  have hle : t + 6 ≤ L := by
    have e1 : (Int32.ofNat L - 6).toInt = (L : Int) - 6 := pk_sub_toInt (a := L) (b := 6) (by omega) (by omega)
    have e2 : x3.toInt = (t : Int) := by rw [h3]; exact nI_toInt (by omega)
    have := mt Int32.lt_iff_toInt_lt.mpr h24
    omega
  subst h3
  refine ⟨hle, vp_in_nI (by omega) (by omega), ?_, ?_, ?_, ?_, ?_⟩
  · rw [show nI t + (1 : Int32) = nI (t + 1) from nI_add t 1]; exact vp_in_nI (by omega) (by omega)
  · rw [show nI t + (2 : Int32) = nI (t + 2) from nI_add t 2]; exact vp_in_nI (by omega) (by omega)
  · rw [show nI t + (3 : Int32) = nI (t + 3) from nI_add t 3]; exact vp_in_nI (by omega) (by omega)
  · rw [show nI t + (4 : Int32) = nI (t + 4) from nI_add t 4]; exact vp_in_nI (by omega) (by omega)
  · rw [show nI t + (5 : Int32) = nI (t + 5) from nI_add t 5]; exact vp_in_nI (by omega) (by omega)
set_option maxHeartbeats 4000000 in
set_option maxRecDepth 100000 in
theorem law_loop (nF : Nat) (Inv : PS → PS → Prop) (hs0 : sim_reel nF Inv) (hs1 : sim_lose nF Inv) (hs2 : sim_put nF Inv) (hs3 : sim_get nF Inv) (hs4 : sim_copy nF Inv) (hs5 : sim_run nF Inv) (hs6 : sim_way nF Inv) (hs7 : sim_felt nF Inv) (hs8 : sim_joint nF Inv) (hs9 : sim_wipe nF Inv) (hs10 : sim_costs nF Inv) (hs11 : sim_match nF Inv) (hs12 : sim_paired nF Inv) (hs13 : sim_mark nF Inv) (hs14 : sim_clear nF Inv) (hs15 : sim_about nF Inv) (hs16 : sim_near nF Inv) (hs17 : sim_groups nF Inv) (hs18 : sim_group nF Inv) (hs19 : sim_alone nF Inv) (hs20 : sim_pairing nF Inv) (hs21 : sim_twin nF Inv) (hs22 : sim_tool nF Inv) (hs23 : sim_growth nF Inv) (hs24 : sim_work nF Inv) (hs25 : sim_yearly nF Inv) (hs26 : sim_plan nF Inv) (hs27 : sim_years nF Inv) (hs28 : sim_when nF Inv) (hs29 : sim_trap nF Inv) (hs30 : sim_count nF Inv) (hs31 : sim_digest nF Inv) (hL : L ≤ 3072) (hX : LX cy D adC adM p s m meth c b L xs) : ∀ (k t : Nat) (x3 : Int32) (S M : PS), t ≤ 3080 → 3100 - t < k → x3 = nI t → Inv S M → WL cy D adC adM p l e s m below meth c b 18 [(3, vi x3), (0, vr 0 2), (1, vr 0 0), (2, vr 0 1)] [] S M := by
  intro k
  induction k with
  | zero => intro t x3 S M h1 h2 h3 hInv; omega
  | succ k ih =>
    intro t x3 S M h1 h2 h3 hInv
    refine l_iln (q := 0) (n := 19) hX (dtab_at okL_law_p0 10 rfl) rfl rfl ?_
    refine l_aln (q := 1) (n := 20) hX (dtab_at okL_law_p0 11 rfl) rfl rfl ?_
    refine l_len (n := 21) hX (dtab_at okL_law_p0 12 rfl) rfl ?_
    refine l_bi (n := 23) hX (6 : Int32) (dtab_at okL_law_p0 13 rfl) (by decide) rfl ?_
    refine l_isub (n := 24) hX (dtab_at okL_law_p0 14 rfl) rfl ?_
    refine l_gt (n := 1215) (n2 := 27) hX (dtab_at okL_law_p0 15 rfl) (by decide) rfl (fun h24 => ?_) (fun h24 => ?_)
    · refine l_ic (n := 1216) hX (1 : Int32) (dtab_at okL_law_p7 17 rfl) (by decide) rfl ?_
      exact l_ret hX (dtab_at okL_law_p7 18 rfl)
    · have hidx := law_idx hL h1 h3 h24
      have hv0 := hidx.2.1
      have hv1 := hidx.2.2.1
      have hv2 := hidx.2.2.2.1
      have hv3 := hidx.2.2.2.2.1
      have hv4 := hidx.2.2.2.2.2.1
      have hv5 := hidx.2.2.2.2.2.2
      have K : ∀ (S M : PS), Inv S M → WL cy D adC adM p l e s m below meth c b 1209 [(3, vi x3), (0, vr 0 2), (1, vr 0 0), (2, vr 0 1)] [] S M := by
        intro S M hInv
        refine l_iinc (q := 0) (n := 1212) (v := (x3 + (6 : Int32))) (lv' := [(3, vi (x3 + (6 : Int32))), (0, vr 0 2), (1, vr 0 0), (2, vr 0 1)]) hX (dtab_at okL_law_p7 15 rfl) rfl rfl (by decide) rfl rfl ?_
        refine l_goto (n := 18) hX (dtab_at okL_law_p7 16 rfl) (by decide) ?_
        exact ih (t + 6) (x3 + 6) S M (by omega) (by omega) (by rw [h3]; exact nI_add t 6) hInv
      refine l_aln (q := 1) (n := 28) hX (dtab_at okL_law_p0 16 rfl) rfl rfl ?_
      refine l_iln (q := 0) (n := 29) hX (dtab_at okL_law_p0 17 rfl) rfl rfl ?_
      refine l_sld (n := 30) hX hv0 (dtab_at okL_law_p0 18 rfl) rfl ?_
      refine l_bi (n := 32) hX (31 : Int32) (dtab_at okL_law_p0 19 rfl) (by decide) rfl ?_
      refine l_iand (n := 33) hX (dtab_at okL_law_p0 20 rfl) rfl ?_
      generalize (xs x3.toNatClampNeg &&& (31 : Int32)) = z
      by_cases hts : z.toInt < 0 ∨ 31 < z.toInt
      · refine l_tsOut (n := 1209) hX (dtab_at okL_law_p0 21 rfl) hts (by decide) ?_
        exact K S M hInv
      · obtain hts | hts | hts | hts | hts | hts | hts | hts | hts | hts | hts | hts | hts | hts | hts | hts | hts | hts | hts | hts | hts | hts | hts | hts | hts | hts | hts | hts | hts | hts | hts | hts : z = 0 ∨ z = 1 ∨ z = 2 ∨ z = 3 ∨ z = 4 ∨ z = 5 ∨ z = 6 ∨ z = 7 ∨ z = 8 ∨ z = 9 ∨ z = 10 ∨ z = 11 ∨ z = 12 ∨ z = 13 ∨ z = 14 ∨ z = 15 ∨ z = 16 ∨ z = 17 ∨ z = 18 ∨ z = 19 ∨ z = 20 ∨ z = 21 ∨ z = 22 ∨ z = 23 ∨ z = 24 ∨ z = 25 ∨ z = 26 ∨ z = 27 ∨ z = 28 ∨ z = 29 ∨ z = 30 ∨ z = 31 := sw0_32 hts
        · refine l_tsIn (n := 176) (off := 143) hX (dtab_at okL_law_p0 21 rfl) (by rw [hts]; decide) (by rw [hts]; decide) (by rw [hts]; rfl) (by decide) ?_
          refine l_aln (q := 2) (n := 177) hX (dtab_at okL_law_p0 22 rfl) rfl rfl ?_
          refine l_aln (q := 1) (n := 178) hX (dtab_at okL_law_p0 23 rfl) rfl rfl ?_
          refine l_iln (q := 0) (n := 179) hX (dtab_at okL_law_p0 24 rfl) rfl rfl ?_
          refine l_ic (n := 180) hX (1 : Int32) (dtab_at okL_law_p0 25 rfl) (by decide) rfl ?_
          refine l_iadd (n := 181) hX (dtab_at okL_law_p0 26 rfl) rfl ?_
          refine l_sld (n := 182) hX hv1 (dtab_at okL_law_p0 27 rfl) rfl ?_
          refine l_aln (q := 1) (n := 183) hX (dtab_at okL_law_p0 28 rfl) rfl rfl ?_
          refine l_iln (q := 0) (n := 184) hX (dtab_at okL_law_p0 29 rfl) rfl rfl ?_
          refine l_ic (n := 185) hX (2 : Int32) (dtab_at okL_law_p0 30 rfl) (by decide) rfl ?_
          refine l_iadd (n := 186) hX (dtab_at okL_law_p0 31 rfl) rfl ?_
          refine l_sld (n := 187) hX hv2 (dtab_at okL_law_p0 32 rfl) rfl ?_
          refine l_aln (q := 1) (n := 188) hX (dtab_at okL_law_p0 33 rfl) rfl rfl ?_
          refine l_iln (q := 0) (n := 189) hX (dtab_at okL_law_p0 34 rfl) rfl rfl ?_
          refine l_ic (n := 190) hX (3 : Int32) (dtab_at okL_law_p0 35 rfl) (by decide) rfl ?_
          refine l_iadd (n := 191) hX (dtab_at okL_law_p0 36 rfl) rfl ?_
          refine l_sld (n := 192) hX hv3 (dtab_at okL_law_p0 37 rfl) rfl ?_
          obtain ⟨xv, S1, M1, hc, hm, hI⟩ := hs0 S M (xs (x3 + (1 : Int32)).toNatClampNeg) (xs (x3 + (2 : Int32)).toNatClampNeg) (xs (x3 + (3 : Int32)).toNatClampNeg) hInv
          refine l_callCi (n := 195) (is := [(xs (x3 + (1 : Int32)).toNatClampNeg), (xs (x3 + (2 : Int32)).toNatClampNeg), (xs (x3 + (3 : Int32)).toNatClampNeg)]) (rest := []) hX (c_X9_reel nF S (xs (x3 + (1 : Int32)).toNatClampNeg) (xs (x3 + (2 : Int32)).toNatClampNeg) (xs (x3 + (3 : Int32)).toNatClampNeg) (xv, S1) hc) lkM_L_13 mv_X9_reel (by decide) rfl (Nat.le_of_ble_eq_true rfl) rfl (dtab_at okL_law_p0 38 rfl) rfl (fun x_ S_ hp_ => ?_)
          obtain ⟨hx_, hy_⟩ := Prod.mk.inj hp_
          have hx_ := hx_.symm
          have hy_ := hy_.symm
          subst hx_
          subst hy_
          refine l_aln (q := 3) (n := 196) hX (dtab_at okL_law_p0 39 rfl) rfl rfl ?_
          refine l_aln (q := 1) (n := 197) hX (dtab_at okL_law_p0 40 rfl) rfl rfl ?_
          refine l_iln (q := 0) (n := 198) hX (dtab_at okL_law_p0 41 rfl) rfl rfl ?_
          refine l_ic (n := 199) hX (1 : Int32) (dtab_at okL_law_p0 42 rfl) (by decide) rfl ?_
          refine l_iadd (n := 200) hX (dtab_at okL_law_p0 43 rfl) rfl ?_
          refine l_sld (n := 201) hX hv1 (dtab_at okL_law_p0 44 rfl) rfl ?_
          refine l_aln (q := 1) (n := 202) hX (dtab_at okL_law_p0 45 rfl) rfl rfl ?_
          refine l_iln (q := 0) (n := 203) hX (dtab_at okL_law_p0 46 rfl) rfl rfl ?_
          refine l_ic (n := 204) hX (2 : Int32) (dtab_at okL_law_p0 47 rfl) (by decide) rfl ?_
          refine l_iadd (n := 205) hX (dtab_at okL_law_p0 48 rfl) rfl ?_
          refine l_sld (n := 206) hX hv2 (dtab_at okL_law_p0 49 rfl) rfl ?_
          refine l_aln (q := 1) (n := 207) hX (dtab_at okL_law_p0 50 rfl) rfl rfl ?_
          refine l_iln (q := 0) (n := 208) hX (dtab_at okL_law_p0 51 rfl) rfl rfl ?_
          refine l_ic (n := 209) hX (3 : Int32) (dtab_at okL_law_p0 52 rfl) (by decide) rfl ?_
          refine l_iadd (n := 210) hX (dtab_at okL_law_p0 53 rfl) rfl ?_
          refine l_sld (n := 211) hX hv3 (dtab_at okL_law_p0 54 rfl) rfl ?_
          refine l_callMi (n := 214) (is := [(xs (x3 + (1 : Int32)).toNatClampNeg), (xs (x3 + (2 : Int32)).toNatClampNeg), (xs (x3 + (3 : Int32)).toNatClampNeg)]) (rest := [vi xv]) hX (c_X10_reel nF M (xs (x3 + (1 : Int32)).toNatClampNeg) (xs (x3 + (2 : Int32)).toNatClampNeg) (xs (x3 + (3 : Int32)).toNatClampNeg) (xv, M1) hm) lkM_L_17 mv_X10_reel (by decide) rfl (Nat.le_of_ble_eq_true rfl) rfl (dtab_at okL_law_p0 55 rfl) rfl (fun x_ S_ hp_ => ?_)
          obtain ⟨hx_, hy_⟩ := Prod.mk.inj hp_
          have hx_ := hx_.symm
          have hy_ := hy_.symm
          subst hx_
          subst hy_
          refine l_eqT (n := 1209) hX (dtab_at okL_law_p0 56 rfl) (by decide) ?_
          exact K _ _ hI
        · refine l_tsIn (n := 219) (off := 186) hX (dtab_at okL_law_p0 21 rfl) (by rw [hts]; decide) (by rw [hts]; decide) (by rw [hts]; rfl) (by decide) ?_
          refine l_aln (q := 2) (n := 220) hX (dtab_at okL_law_p0 59 rfl) rfl rfl ?_
          refine l_aln (q := 1) (n := 221) hX (dtab_at okL_law_p0 60 rfl) rfl rfl ?_
          refine l_iln (q := 0) (n := 222) hX (dtab_at okL_law_p0 61 rfl) rfl rfl ?_
          refine l_ic (n := 223) hX (1 : Int32) (dtab_at okL_law_p0 62 rfl) (by decide) rfl ?_
          refine l_iadd (n := 224) hX (dtab_at okL_law_p0 63 rfl) rfl ?_
          refine l_sld (n := 225) hX hv1 (dtab_at okL_law_p0 64 rfl) rfl ?_
          obtain ⟨xv, S1, M1, hc, hm, hI⟩ := hs1 S M (xs (x3 + (1 : Int32)).toNatClampNeg) hInv
          refine l_callCi (n := 228) (is := [(xs (x3 + (1 : Int32)).toNatClampNeg)]) (rest := []) hX (c_X9_lose nF S (xs (x3 + (1 : Int32)).toNatClampNeg) (xv, S1) hc) lkM_L_18 mv_X9_lose (by decide) rfl (Nat.le_of_ble_eq_true rfl) rfl (dtab_at okL_law_p0 65 rfl) rfl (fun x_ S_ hp_ => ?_)
          obtain ⟨hx_, hy_⟩ := Prod.mk.inj hp_
          have hx_ := hx_.symm
          have hy_ := hy_.symm
          subst hx_
          subst hy_
          refine l_aln (q := 3) (n := 229) hX (dtab_at okL_law_p0 66 rfl) rfl rfl ?_
          refine l_aln (q := 1) (n := 230) hX (dtab_at okL_law_p0 67 rfl) rfl rfl ?_
          refine l_iln (q := 0) (n := 231) hX (dtab_at okL_law_p0 68 rfl) rfl rfl ?_
          refine l_ic (n := 232) hX (1 : Int32) (dtab_at okL_law_p0 69 rfl) (by decide) rfl ?_
          refine l_iadd (n := 233) hX (dtab_at okL_law_p0 70 rfl) rfl ?_
          refine l_sld (n := 234) hX hv1 (dtab_at okL_law_p0 71 rfl) rfl ?_
          refine l_callMi (n := 237) (is := [(xs (x3 + (1 : Int32)).toNatClampNeg)]) (rest := [vi xv]) hX (c_X10_lose nF M (xs (x3 + (1 : Int32)).toNatClampNeg) (xv, M1) hm) lkM_L_22 mv_X10_lose (by decide) rfl (Nat.le_of_ble_eq_true rfl) rfl (dtab_at okL_law_p0 72 rfl) rfl (fun x_ S_ hp_ => ?_)
          obtain ⟨hx_, hy_⟩ := Prod.mk.inj hp_
          have hx_ := hx_.symm
          have hy_ := hy_.symm
          subst hx_
          subst hy_
          refine l_eqT (n := 1209) hX (dtab_at okL_law_p0 73 rfl) (by decide) ?_
          exact K _ _ hI
        · refine l_tsIn (n := 242) (off := 209) hX (dtab_at okL_law_p0 21 rfl) (by rw [hts]; decide) (by rw [hts]; decide) (by rw [hts]; rfl) (by decide) ?_
          refine l_aln (q := 2) (n := 243) hX (dtab_at okL_law_p0 76 rfl) rfl rfl ?_
          refine l_aln (q := 1) (n := 244) hX (dtab_at okL_law_p0 77 rfl) rfl rfl ?_
          refine l_iln (q := 0) (n := 245) hX (dtab_at okL_law_p0 78 rfl) rfl rfl ?_
          refine l_ic (n := 246) hX (1 : Int32) (dtab_at okL_law_p0 79 rfl) (by decide) rfl ?_
          refine l_iadd (n := 247) hX (dtab_at okL_law_p0 80 rfl) rfl ?_
          refine l_sld (n := 248) hX hv1 (dtab_at okL_law_p0 81 rfl) rfl ?_
          refine l_aln (q := 1) (n := 249) hX (dtab_at okL_law_p0 82 rfl) rfl rfl ?_
          refine l_iln (q := 0) (n := 250) hX (dtab_at okL_law_p0 83 rfl) rfl rfl ?_
          refine l_ic (n := 251) hX (2 : Int32) (dtab_at okL_law_p0 84 rfl) (by decide) rfl ?_
          refine l_iadd (n := 252) hX (dtab_at okL_law_p0 85 rfl) rfl ?_
          refine l_sld (n := 253) hX hv2 (dtab_at okL_law_p0 86 rfl) rfl ?_
          refine l_aln (q := 1) (n := 254) hX (dtab_at okL_law_p0 87 rfl) rfl rfl ?_
          refine l_iln (q := 0) (n := 255) hX (dtab_at okL_law_p0 88 rfl) rfl rfl ?_
          refine l_ic (n := 256) hX (3 : Int32) (dtab_at okL_law_p0 89 rfl) (by decide) rfl ?_
          refine l_iadd (n := 257) hX (dtab_at okL_law_p0 90 rfl) rfl ?_
          refine l_sld (n := 258) hX hv3 (dtab_at okL_law_p0 91 rfl) rfl ?_
          refine l_aln (q := 1) (n := 259) hX (dtab_at okL_law_p0 92 rfl) rfl rfl ?_
          refine l_iln (q := 0) (n := 260) hX (dtab_at okL_law_p0 93 rfl) rfl rfl ?_
          refine l_ic (n := 261) hX (4 : Int32) (dtab_at okL_law_p0 94 rfl) (by decide) rfl ?_
          refine l_iadd (n := 262) hX (dtab_at okL_law_p0 95 rfl) rfl ?_
          refine l_sld (n := 263) hX hv4 (dtab_at okL_law_p0 96 rfl) rfl ?_
          obtain ⟨xv, S1, M1, hc, hm, hI⟩ := hs2 S M (xs (x3 + (1 : Int32)).toNatClampNeg) (xs (x3 + (2 : Int32)).toNatClampNeg) (xs (x3 + (3 : Int32)).toNatClampNeg) (xs (x3 + (4 : Int32)).toNatClampNeg) hInv
          refine l_callCi (n := 266) (is := [(xs (x3 + (1 : Int32)).toNatClampNeg), (xs (x3 + (2 : Int32)).toNatClampNeg), (xs (x3 + (3 : Int32)).toNatClampNeg), (xs (x3 + (4 : Int32)).toNatClampNeg)]) (rest := []) hX (c_X9_put nF S (xs (x3 + (1 : Int32)).toNatClampNeg) (xs (x3 + (2 : Int32)).toNatClampNeg) (xs (x3 + (3 : Int32)).toNatClampNeg) (xs (x3 + (4 : Int32)).toNatClampNeg) (xv, S1) hc) lkM_L_23 mv_X9_put (by decide) rfl (Nat.le_of_ble_eq_true rfl) rfl (dtab_at okL_law_p0 97 rfl) rfl (fun x_ S_ hp_ => ?_)
          obtain ⟨hx_, hy_⟩ := Prod.mk.inj hp_
          have hx_ := hx_.symm
          have hy_ := hy_.symm
          subst hx_
          subst hy_
          refine l_aln (q := 3) (n := 267) hX (dtab_at okL_law_p0 98 rfl) rfl rfl ?_
          refine l_aln (q := 1) (n := 268) hX (dtab_at okL_law_p0 99 rfl) rfl rfl ?_
          refine l_iln (q := 0) (n := 269) hX (dtab_at okL_law_p0 100 rfl) rfl rfl ?_
          refine l_ic (n := 270) hX (1 : Int32) (dtab_at okL_law_p0 101 rfl) (by decide) rfl ?_
          refine l_iadd (n := 271) hX (dtab_at okL_law_p0 102 rfl) rfl ?_
          refine l_sld (n := 272) hX hv1 (dtab_at okL_law_p0 103 rfl) rfl ?_
          refine l_aln (q := 1) (n := 273) hX (dtab_at okL_law_p0 104 rfl) rfl rfl ?_
          refine l_iln (q := 0) (n := 274) hX (dtab_at okL_law_p0 105 rfl) rfl rfl ?_
          refine l_ic (n := 275) hX (2 : Int32) (dtab_at okL_law_p0 106 rfl) (by decide) rfl ?_
          refine l_iadd (n := 276) hX (dtab_at okL_law_p0 107 rfl) rfl ?_
          refine l_sld (n := 277) hX hv2 (dtab_at okL_law_p0 108 rfl) rfl ?_
          refine l_aln (q := 1) (n := 278) hX (dtab_at okL_law_p0 109 rfl) rfl rfl ?_
          refine l_iln (q := 0) (n := 279) hX (dtab_at okL_law_p0 110 rfl) rfl rfl ?_
          refine l_ic (n := 280) hX (3 : Int32) (dtab_at okL_law_p0 111 rfl) (by decide) rfl ?_
          refine l_iadd (n := 281) hX (dtab_at okL_law_p0 112 rfl) rfl ?_
          refine l_sld (n := 282) hX hv3 (dtab_at okL_law_p0 113 rfl) rfl ?_
          refine l_aln (q := 1) (n := 283) hX (dtab_at okL_law_p0 114 rfl) rfl rfl ?_
          refine l_iln (q := 0) (n := 284) hX (dtab_at okL_law_p0 115 rfl) rfl rfl ?_
          refine l_ic (n := 285) hX (4 : Int32) (dtab_at okL_law_p0 116 rfl) (by decide) rfl ?_
          refine l_iadd (n := 286) hX (dtab_at okL_law_p0 117 rfl) rfl ?_
          refine l_sld (n := 287) hX hv4 (dtab_at okL_law_p0 118 rfl) rfl ?_
          refine l_callMi (n := 290) (is := [(xs (x3 + (1 : Int32)).toNatClampNeg), (xs (x3 + (2 : Int32)).toNatClampNeg), (xs (x3 + (3 : Int32)).toNatClampNeg), (xs (x3 + (4 : Int32)).toNatClampNeg)]) (rest := [vi xv]) hX (c_X10_put nF M (xs (x3 + (1 : Int32)).toNatClampNeg) (xs (x3 + (2 : Int32)).toNatClampNeg) (xs (x3 + (3 : Int32)).toNatClampNeg) (xs (x3 + (4 : Int32)).toNatClampNeg) (xv, M1) hm) lkM_L_27 mv_X10_put (by decide) rfl (Nat.le_of_ble_eq_true rfl) rfl (dtab_at okL_law_p0 119 rfl) rfl (fun x_ S_ hp_ => ?_)
          obtain ⟨hx_, hy_⟩ := Prod.mk.inj hp_
          have hx_ := hx_.symm
          have hy_ := hy_.symm
          subst hx_
          subst hy_
          refine l_eqT (n := 1209) hX (dtab_at okL_law_p1 0 rfl) (by decide) ?_
          exact K _ _ hI
        · refine l_tsIn (n := 295) (off := 262) hX (dtab_at okL_law_p0 21 rfl) (by rw [hts]; decide) (by rw [hts]; decide) (by rw [hts]; rfl) (by decide) ?_
          refine l_aln (q := 2) (n := 296) hX (dtab_at okL_law_p1 3 rfl) rfl rfl ?_
          refine l_aln (q := 1) (n := 297) hX (dtab_at okL_law_p1 4 rfl) rfl rfl ?_
          refine l_iln (q := 0) (n := 298) hX (dtab_at okL_law_p1 5 rfl) rfl rfl ?_
          refine l_ic (n := 299) hX (1 : Int32) (dtab_at okL_law_p1 6 rfl) (by decide) rfl ?_
          refine l_iadd (n := 300) hX (dtab_at okL_law_p1 7 rfl) rfl ?_
          refine l_sld (n := 301) hX hv1 (dtab_at okL_law_p1 8 rfl) rfl ?_
          refine l_aln (q := 1) (n := 302) hX (dtab_at okL_law_p1 9 rfl) rfl rfl ?_
          refine l_iln (q := 0) (n := 303) hX (dtab_at okL_law_p1 10 rfl) rfl rfl ?_
          refine l_ic (n := 304) hX (2 : Int32) (dtab_at okL_law_p1 11 rfl) (by decide) rfl ?_
          refine l_iadd (n := 305) hX (dtab_at okL_law_p1 12 rfl) rfl ?_
          refine l_sld (n := 306) hX hv2 (dtab_at okL_law_p1 13 rfl) rfl ?_
          refine l_aln (q := 1) (n := 307) hX (dtab_at okL_law_p1 14 rfl) rfl rfl ?_
          refine l_iln (q := 0) (n := 308) hX (dtab_at okL_law_p1 15 rfl) rfl rfl ?_
          refine l_ic (n := 309) hX (3 : Int32) (dtab_at okL_law_p1 16 rfl) (by decide) rfl ?_
          refine l_iadd (n := 310) hX (dtab_at okL_law_p1 17 rfl) rfl ?_
          refine l_sld (n := 311) hX hv3 (dtab_at okL_law_p1 18 rfl) rfl ?_
          obtain ⟨xv, S1, M1, hc, hm, hI⟩ := hs3 S M (xs (x3 + (1 : Int32)).toNatClampNeg) (xs (x3 + (2 : Int32)).toNatClampNeg) (xs (x3 + (3 : Int32)).toNatClampNeg) hInv
          refine l_callCi (n := 314) (is := [(xs (x3 + (1 : Int32)).toNatClampNeg), (xs (x3 + (2 : Int32)).toNatClampNeg), (xs (x3 + (3 : Int32)).toNatClampNeg)]) (rest := []) hX (c_X9_get nF S (xs (x3 + (1 : Int32)).toNatClampNeg) (xs (x3 + (2 : Int32)).toNatClampNeg) (xs (x3 + (3 : Int32)).toNatClampNeg) (xv, S1) hc) lkM_L_28 mv_X9_get (by decide) rfl (Nat.le_of_ble_eq_true rfl) rfl (dtab_at okL_law_p1 19 rfl) rfl (fun x_ S_ hp_ => ?_)
          obtain ⟨hx_, hy_⟩ := Prod.mk.inj hp_
          have hx_ := hx_.symm
          have hy_ := hy_.symm
          subst hx_
          subst hy_
          refine l_aln (q := 3) (n := 315) hX (dtab_at okL_law_p1 20 rfl) rfl rfl ?_
          refine l_aln (q := 1) (n := 316) hX (dtab_at okL_law_p1 21 rfl) rfl rfl ?_
          refine l_iln (q := 0) (n := 317) hX (dtab_at okL_law_p1 22 rfl) rfl rfl ?_
          refine l_ic (n := 318) hX (1 : Int32) (dtab_at okL_law_p1 23 rfl) (by decide) rfl ?_
          refine l_iadd (n := 319) hX (dtab_at okL_law_p1 24 rfl) rfl ?_
          refine l_sld (n := 320) hX hv1 (dtab_at okL_law_p1 25 rfl) rfl ?_
          refine l_aln (q := 1) (n := 321) hX (dtab_at okL_law_p1 26 rfl) rfl rfl ?_
          refine l_iln (q := 0) (n := 322) hX (dtab_at okL_law_p1 27 rfl) rfl rfl ?_
          refine l_ic (n := 323) hX (2 : Int32) (dtab_at okL_law_p1 28 rfl) (by decide) rfl ?_
          refine l_iadd (n := 324) hX (dtab_at okL_law_p1 29 rfl) rfl ?_
          refine l_sld (n := 325) hX hv2 (dtab_at okL_law_p1 30 rfl) rfl ?_
          refine l_aln (q := 1) (n := 326) hX (dtab_at okL_law_p1 31 rfl) rfl rfl ?_
          refine l_iln (q := 0) (n := 327) hX (dtab_at okL_law_p1 32 rfl) rfl rfl ?_
          refine l_ic (n := 328) hX (3 : Int32) (dtab_at okL_law_p1 33 rfl) (by decide) rfl ?_
          refine l_iadd (n := 329) hX (dtab_at okL_law_p1 34 rfl) rfl ?_
          refine l_sld (n := 330) hX hv3 (dtab_at okL_law_p1 35 rfl) rfl ?_
          refine l_callMi (n := 333) (is := [(xs (x3 + (1 : Int32)).toNatClampNeg), (xs (x3 + (2 : Int32)).toNatClampNeg), (xs (x3 + (3 : Int32)).toNatClampNeg)]) (rest := [vi xv]) hX (c_X10_get nF M (xs (x3 + (1 : Int32)).toNatClampNeg) (xs (x3 + (2 : Int32)).toNatClampNeg) (xs (x3 + (3 : Int32)).toNatClampNeg) (xv, M1) hm) lkM_L_31 mv_X10_get (by decide) rfl (Nat.le_of_ble_eq_true rfl) rfl (dtab_at okL_law_p1 36 rfl) rfl (fun x_ S_ hp_ => ?_)
          obtain ⟨hx_, hy_⟩ := Prod.mk.inj hp_
          have hx_ := hx_.symm
          have hy_ := hy_.symm
          subst hx_
          subst hy_
          refine l_eqT (n := 1209) hX (dtab_at okL_law_p1 37 rfl) (by decide) ?_
          exact K _ _ hI
        · refine l_tsIn (n := 338) (off := 305) hX (dtab_at okL_law_p0 21 rfl) (by rw [hts]; decide) (by rw [hts]; decide) (by rw [hts]; rfl) (by decide) ?_
          refine l_aln (q := 2) (n := 339) hX (dtab_at okL_law_p1 40 rfl) rfl rfl ?_
          refine l_aln (q := 1) (n := 340) hX (dtab_at okL_law_p1 41 rfl) rfl rfl ?_
          refine l_iln (q := 0) (n := 341) hX (dtab_at okL_law_p1 42 rfl) rfl rfl ?_
          refine l_ic (n := 342) hX (1 : Int32) (dtab_at okL_law_p1 43 rfl) (by decide) rfl ?_
          refine l_iadd (n := 343) hX (dtab_at okL_law_p1 44 rfl) rfl ?_
          refine l_sld (n := 344) hX hv1 (dtab_at okL_law_p1 45 rfl) rfl ?_
          refine l_aln (q := 1) (n := 345) hX (dtab_at okL_law_p1 46 rfl) rfl rfl ?_
          refine l_iln (q := 0) (n := 346) hX (dtab_at okL_law_p1 47 rfl) rfl rfl ?_
          refine l_ic (n := 347) hX (2 : Int32) (dtab_at okL_law_p1 48 rfl) (by decide) rfl ?_
          refine l_iadd (n := 348) hX (dtab_at okL_law_p1 49 rfl) rfl ?_
          refine l_sld (n := 349) hX hv2 (dtab_at okL_law_p1 50 rfl) rfl ?_
          refine l_aln (q := 1) (n := 350) hX (dtab_at okL_law_p1 51 rfl) rfl rfl ?_
          refine l_iln (q := 0) (n := 351) hX (dtab_at okL_law_p1 52 rfl) rfl rfl ?_
          refine l_ic (n := 352) hX (3 : Int32) (dtab_at okL_law_p1 53 rfl) (by decide) rfl ?_
          refine l_iadd (n := 353) hX (dtab_at okL_law_p1 54 rfl) rfl ?_
          refine l_sld (n := 354) hX hv3 (dtab_at okL_law_p1 55 rfl) rfl ?_
          refine l_aln (q := 1) (n := 355) hX (dtab_at okL_law_p1 56 rfl) rfl rfl ?_
          refine l_iln (q := 0) (n := 356) hX (dtab_at okL_law_p1 57 rfl) rfl rfl ?_
          refine l_ic (n := 357) hX (4 : Int32) (dtab_at okL_law_p1 58 rfl) (by decide) rfl ?_
          refine l_iadd (n := 358) hX (dtab_at okL_law_p1 59 rfl) rfl ?_
          refine l_sld (n := 359) hX hv4 (dtab_at okL_law_p1 60 rfl) rfl ?_
          refine l_aln (q := 1) (n := 360) hX (dtab_at okL_law_p1 61 rfl) rfl rfl ?_
          refine l_iln (q := 0) (n := 361) hX (dtab_at okL_law_p1 62 rfl) rfl rfl ?_
          refine l_ic (n := 362) hX (5 : Int32) (dtab_at okL_law_p1 63 rfl) (by decide) rfl ?_
          refine l_iadd (n := 363) hX (dtab_at okL_law_p1 64 rfl) rfl ?_
          refine l_sld (n := 364) hX hv5 (dtab_at okL_law_p1 65 rfl) rfl ?_
          obtain ⟨xv, S1, M1, hc, hm, hI⟩ := hs4 S M (xs (x3 + (1 : Int32)).toNatClampNeg) (xs (x3 + (2 : Int32)).toNatClampNeg) (xs (x3 + (3 : Int32)).toNatClampNeg) (xs (x3 + (4 : Int32)).toNatClampNeg) (xs (x3 + (5 : Int32)).toNatClampNeg) hInv
          refine l_callCi (n := 367) (is := [(xs (x3 + (1 : Int32)).toNatClampNeg), (xs (x3 + (2 : Int32)).toNatClampNeg), (xs (x3 + (3 : Int32)).toNatClampNeg), (xs (x3 + (4 : Int32)).toNatClampNeg), (xs (x3 + (5 : Int32)).toNatClampNeg)]) (rest := []) hX (c_X9_copy nF S (xs (x3 + (1 : Int32)).toNatClampNeg) (xs (x3 + (2 : Int32)).toNatClampNeg) (xs (x3 + (3 : Int32)).toNatClampNeg) (xs (x3 + (4 : Int32)).toNatClampNeg) (xs (x3 + (5 : Int32)).toNatClampNeg) (xv, S1) hc) lkM_L_32 mv_X9_copy (by decide) rfl (Nat.le_of_ble_eq_true rfl) rfl (dtab_at okL_law_p1 66 rfl) rfl (fun x_ S_ hp_ => ?_)
          obtain ⟨hx_, hy_⟩ := Prod.mk.inj hp_
          have hx_ := hx_.symm
          have hy_ := hy_.symm
          subst hx_
          subst hy_
          refine l_aln (q := 3) (n := 368) hX (dtab_at okL_law_p1 67 rfl) rfl rfl ?_
          refine l_aln (q := 1) (n := 369) hX (dtab_at okL_law_p1 68 rfl) rfl rfl ?_
          refine l_iln (q := 0) (n := 370) hX (dtab_at okL_law_p1 69 rfl) rfl rfl ?_
          refine l_ic (n := 371) hX (1 : Int32) (dtab_at okL_law_p1 70 rfl) (by decide) rfl ?_
          refine l_iadd (n := 372) hX (dtab_at okL_law_p1 71 rfl) rfl ?_
          refine l_sld (n := 373) hX hv1 (dtab_at okL_law_p1 72 rfl) rfl ?_
          refine l_aln (q := 1) (n := 374) hX (dtab_at okL_law_p1 73 rfl) rfl rfl ?_
          refine l_iln (q := 0) (n := 375) hX (dtab_at okL_law_p1 74 rfl) rfl rfl ?_
          refine l_ic (n := 376) hX (2 : Int32) (dtab_at okL_law_p1 75 rfl) (by decide) rfl ?_
          refine l_iadd (n := 377) hX (dtab_at okL_law_p1 76 rfl) rfl ?_
          refine l_sld (n := 378) hX hv2 (dtab_at okL_law_p1 77 rfl) rfl ?_
          refine l_aln (q := 1) (n := 379) hX (dtab_at okL_law_p1 78 rfl) rfl rfl ?_
          refine l_iln (q := 0) (n := 380) hX (dtab_at okL_law_p1 79 rfl) rfl rfl ?_
          refine l_ic (n := 381) hX (3 : Int32) (dtab_at okL_law_p1 80 rfl) (by decide) rfl ?_
          refine l_iadd (n := 382) hX (dtab_at okL_law_p1 81 rfl) rfl ?_
          refine l_sld (n := 383) hX hv3 (dtab_at okL_law_p1 82 rfl) rfl ?_
          refine l_aln (q := 1) (n := 384) hX (dtab_at okL_law_p1 83 rfl) rfl rfl ?_
          refine l_iln (q := 0) (n := 385) hX (dtab_at okL_law_p1 84 rfl) rfl rfl ?_
          refine l_ic (n := 386) hX (4 : Int32) (dtab_at okL_law_p1 85 rfl) (by decide) rfl ?_
          refine l_iadd (n := 387) hX (dtab_at okL_law_p1 86 rfl) rfl ?_
          refine l_sld (n := 388) hX hv4 (dtab_at okL_law_p1 87 rfl) rfl ?_
          refine l_aln (q := 1) (n := 389) hX (dtab_at okL_law_p1 88 rfl) rfl rfl ?_
          refine l_iln (q := 0) (n := 390) hX (dtab_at okL_law_p1 89 rfl) rfl rfl ?_
          refine l_ic (n := 391) hX (5 : Int32) (dtab_at okL_law_p1 90 rfl) (by decide) rfl ?_
          refine l_iadd (n := 392) hX (dtab_at okL_law_p1 91 rfl) rfl ?_
          refine l_sld (n := 393) hX hv5 (dtab_at okL_law_p1 92 rfl) rfl ?_
          refine l_callMi (n := 396) (is := [(xs (x3 + (1 : Int32)).toNatClampNeg), (xs (x3 + (2 : Int32)).toNatClampNeg), (xs (x3 + (3 : Int32)).toNatClampNeg), (xs (x3 + (4 : Int32)).toNatClampNeg), (xs (x3 + (5 : Int32)).toNatClampNeg)]) (rest := [vi xv]) hX (c_X10_copy nF M (xs (x3 + (1 : Int32)).toNatClampNeg) (xs (x3 + (2 : Int32)).toNatClampNeg) (xs (x3 + (3 : Int32)).toNatClampNeg) (xs (x3 + (4 : Int32)).toNatClampNeg) (xs (x3 + (5 : Int32)).toNatClampNeg) (xv, M1) hm) lkM_L_36 mv_X10_copy (by decide) rfl (Nat.le_of_ble_eq_true rfl) rfl (dtab_at okL_law_p1 93 rfl) rfl (fun x_ S_ hp_ => ?_)
          obtain ⟨hx_, hy_⟩ := Prod.mk.inj hp_
          have hx_ := hx_.symm
          have hy_ := hy_.symm
          subst hx_
          subst hy_
          refine l_eqT (n := 1209) hX (dtab_at okL_law_p1 94 rfl) (by decide) ?_
          exact K _ _ hI
        · refine l_tsIn (n := 401) (off := 368) hX (dtab_at okL_law_p0 21 rfl) (by rw [hts]; decide) (by rw [hts]; decide) (by rw [hts]; rfl) (by decide) ?_
          refine l_aln (q := 2) (n := 402) hX (dtab_at okL_law_p1 97 rfl) rfl rfl ?_
          refine l_aln (q := 1) (n := 403) hX (dtab_at okL_law_p1 98 rfl) rfl rfl ?_
          refine l_iln (q := 0) (n := 404) hX (dtab_at okL_law_p1 99 rfl) rfl rfl ?_
          refine l_ic (n := 405) hX (1 : Int32) (dtab_at okL_law_p1 100 rfl) (by decide) rfl ?_
          refine l_iadd (n := 406) hX (dtab_at okL_law_p1 101 rfl) rfl ?_
          refine l_sld (n := 407) hX hv1 (dtab_at okL_law_p1 102 rfl) rfl ?_
          refine l_aln (q := 1) (n := 408) hX (dtab_at okL_law_p1 103 rfl) rfl rfl ?_
          refine l_iln (q := 0) (n := 409) hX (dtab_at okL_law_p1 104 rfl) rfl rfl ?_
          refine l_ic (n := 410) hX (2 : Int32) (dtab_at okL_law_p1 105 rfl) (by decide) rfl ?_
          refine l_iadd (n := 411) hX (dtab_at okL_law_p1 106 rfl) rfl ?_
          refine l_sld (n := 412) hX hv2 (dtab_at okL_law_p1 107 rfl) rfl ?_
          obtain ⟨xv, S1, M1, hc, hm, hI⟩ := hs5 S M (xs (x3 + (1 : Int32)).toNatClampNeg) (xs (x3 + (2 : Int32)).toNatClampNeg) hInv
          refine l_callCi (n := 415) (is := [(xs (x3 + (1 : Int32)).toNatClampNeg), (xs (x3 + (2 : Int32)).toNatClampNeg)]) (rest := []) hX (c_X9_run nF S (xs (x3 + (1 : Int32)).toNatClampNeg) (xs (x3 + (2 : Int32)).toNatClampNeg) (xv, S1) hc) lkM_L_37 mv_X9_run (by decide) rfl (Nat.le_of_ble_eq_true rfl) rfl (dtab_at okL_law_p1 108 rfl) rfl (fun x_ S_ hp_ => ?_)
          obtain ⟨hx_, hy_⟩ := Prod.mk.inj hp_
          have hx_ := hx_.symm
          have hy_ := hy_.symm
          subst hx_
          subst hy_
          refine l_aln (q := 3) (n := 416) hX (dtab_at okL_law_p1 109 rfl) rfl rfl ?_
          refine l_aln (q := 1) (n := 417) hX (dtab_at okL_law_p1 110 rfl) rfl rfl ?_
          refine l_iln (q := 0) (n := 418) hX (dtab_at okL_law_p1 111 rfl) rfl rfl ?_
          refine l_ic (n := 419) hX (1 : Int32) (dtab_at okL_law_p1 112 rfl) (by decide) rfl ?_
          refine l_iadd (n := 420) hX (dtab_at okL_law_p1 113 rfl) rfl ?_
          refine l_sld (n := 421) hX hv1 (dtab_at okL_law_p1 114 rfl) rfl ?_
          refine l_aln (q := 1) (n := 422) hX (dtab_at okL_law_p1 115 rfl) rfl rfl ?_
          refine l_iln (q := 0) (n := 423) hX (dtab_at okL_law_p1 116 rfl) rfl rfl ?_
          refine l_ic (n := 424) hX (2 : Int32) (dtab_at okL_law_p1 117 rfl) (by decide) rfl ?_
          refine l_iadd (n := 425) hX (dtab_at okL_law_p1 118 rfl) rfl ?_
          refine l_sld (n := 426) hX hv2 (dtab_at okL_law_p1 119 rfl) rfl ?_
          refine l_callMi (n := 429) (is := [(xs (x3 + (1 : Int32)).toNatClampNeg), (xs (x3 + (2 : Int32)).toNatClampNeg)]) (rest := [vi xv]) hX (c_X10_run nF M (xs (x3 + (1 : Int32)).toNatClampNeg) (xs (x3 + (2 : Int32)).toNatClampNeg) (xv, M1) hm) lkM_L_41 mv_X10_run (by decide) rfl (Nat.le_of_ble_eq_true rfl) rfl (dtab_at okL_law_p2 0 rfl) rfl (fun x_ S_ hp_ => ?_)
          obtain ⟨hx_, hy_⟩ := Prod.mk.inj hp_
          have hx_ := hx_.symm
          have hy_ := hy_.symm
          subst hx_
          subst hy_
          refine l_eqT (n := 1209) hX (dtab_at okL_law_p2 1 rfl) (by decide) ?_
          exact K _ _ hI
        · refine l_tsIn (n := 434) (off := 401) hX (dtab_at okL_law_p0 21 rfl) (by rw [hts]; decide) (by rw [hts]; decide) (by rw [hts]; rfl) (by decide) ?_
          refine l_aln (q := 2) (n := 435) hX (dtab_at okL_law_p2 4 rfl) rfl rfl ?_
          refine l_aln (q := 1) (n := 436) hX (dtab_at okL_law_p2 5 rfl) rfl rfl ?_
          refine l_iln (q := 0) (n := 437) hX (dtab_at okL_law_p2 6 rfl) rfl rfl ?_
          refine l_ic (n := 438) hX (1 : Int32) (dtab_at okL_law_p2 7 rfl) (by decide) rfl ?_
          refine l_iadd (n := 439) hX (dtab_at okL_law_p2 8 rfl) rfl ?_
          refine l_sld (n := 440) hX hv1 (dtab_at okL_law_p2 9 rfl) rfl ?_
          refine l_aln (q := 1) (n := 441) hX (dtab_at okL_law_p2 10 rfl) rfl rfl ?_
          refine l_iln (q := 0) (n := 442) hX (dtab_at okL_law_p2 11 rfl) rfl rfl ?_
          refine l_ic (n := 443) hX (2 : Int32) (dtab_at okL_law_p2 12 rfl) (by decide) rfl ?_
          refine l_iadd (n := 444) hX (dtab_at okL_law_p2 13 rfl) rfl ?_
          refine l_sld (n := 445) hX hv2 (dtab_at okL_law_p2 14 rfl) rfl ?_
          obtain ⟨xv, S1, M1, hc, hm, hI⟩ := hs6 S M (xs (x3 + (1 : Int32)).toNatClampNeg) (xs (x3 + (2 : Int32)).toNatClampNeg) hInv
          refine l_callCi (n := 448) (is := [(xs (x3 + (1 : Int32)).toNatClampNeg), (xs (x3 + (2 : Int32)).toNatClampNeg)]) (rest := []) hX (c_X9_way nF S (xs (x3 + (1 : Int32)).toNatClampNeg) (xs (x3 + (2 : Int32)).toNatClampNeg) (xv, S1) hc) lkM_L_42 mv_X9_way (by decide) rfl (Nat.le_of_ble_eq_true rfl) rfl (dtab_at okL_law_p2 15 rfl) rfl (fun x_ S_ hp_ => ?_)
          obtain ⟨hx_, hy_⟩ := Prod.mk.inj hp_
          have hx_ := hx_.symm
          have hy_ := hy_.symm
          subst hx_
          subst hy_
          refine l_aln (q := 3) (n := 449) hX (dtab_at okL_law_p2 16 rfl) rfl rfl ?_
          refine l_aln (q := 1) (n := 450) hX (dtab_at okL_law_p2 17 rfl) rfl rfl ?_
          refine l_iln (q := 0) (n := 451) hX (dtab_at okL_law_p2 18 rfl) rfl rfl ?_
          refine l_ic (n := 452) hX (1 : Int32) (dtab_at okL_law_p2 19 rfl) (by decide) rfl ?_
          refine l_iadd (n := 453) hX (dtab_at okL_law_p2 20 rfl) rfl ?_
          refine l_sld (n := 454) hX hv1 (dtab_at okL_law_p2 21 rfl) rfl ?_
          refine l_aln (q := 1) (n := 455) hX (dtab_at okL_law_p2 22 rfl) rfl rfl ?_
          refine l_iln (q := 0) (n := 456) hX (dtab_at okL_law_p2 23 rfl) rfl rfl ?_
          refine l_ic (n := 457) hX (2 : Int32) (dtab_at okL_law_p2 24 rfl) (by decide) rfl ?_
          refine l_iadd (n := 458) hX (dtab_at okL_law_p2 25 rfl) rfl ?_
          refine l_sld (n := 459) hX hv2 (dtab_at okL_law_p2 26 rfl) rfl ?_
          refine l_callMi (n := 462) (is := [(xs (x3 + (1 : Int32)).toNatClampNeg), (xs (x3 + (2 : Int32)).toNatClampNeg)]) (rest := [vi xv]) hX (c_X10_way nF M (xs (x3 + (1 : Int32)).toNatClampNeg) (xs (x3 + (2 : Int32)).toNatClampNeg) (xv, M1) hm) lkM_L_45 mv_X10_way (by decide) rfl (Nat.le_of_ble_eq_true rfl) rfl (dtab_at okL_law_p2 27 rfl) rfl (fun x_ S_ hp_ => ?_)
          obtain ⟨hx_, hy_⟩ := Prod.mk.inj hp_
          have hx_ := hx_.symm
          have hy_ := hy_.symm
          subst hx_
          subst hy_
          refine l_eqT (n := 1209) hX (dtab_at okL_law_p2 28 rfl) (by decide) ?_
          exact K _ _ hI
        · refine l_tsIn (n := 467) (off := 434) hX (dtab_at okL_law_p0 21 rfl) (by rw [hts]; decide) (by rw [hts]; decide) (by rw [hts]; rfl) (by decide) ?_
          refine l_aln (q := 2) (n := 468) hX (dtab_at okL_law_p2 31 rfl) rfl rfl ?_
          refine l_aln (q := 1) (n := 469) hX (dtab_at okL_law_p2 32 rfl) rfl rfl ?_
          refine l_iln (q := 0) (n := 470) hX (dtab_at okL_law_p2 33 rfl) rfl rfl ?_
          refine l_ic (n := 471) hX (1 : Int32) (dtab_at okL_law_p2 34 rfl) (by decide) rfl ?_
          refine l_iadd (n := 472) hX (dtab_at okL_law_p2 35 rfl) rfl ?_
          refine l_sld (n := 473) hX hv1 (dtab_at okL_law_p2 36 rfl) rfl ?_
          refine l_aln (q := 1) (n := 474) hX (dtab_at okL_law_p2 37 rfl) rfl rfl ?_
          refine l_iln (q := 0) (n := 475) hX (dtab_at okL_law_p2 38 rfl) rfl rfl ?_
          refine l_ic (n := 476) hX (2 : Int32) (dtab_at okL_law_p2 39 rfl) (by decide) rfl ?_
          refine l_iadd (n := 477) hX (dtab_at okL_law_p2 40 rfl) rfl ?_
          refine l_sld (n := 478) hX hv2 (dtab_at okL_law_p2 41 rfl) rfl ?_
          refine l_aln (q := 1) (n := 479) hX (dtab_at okL_law_p2 42 rfl) rfl rfl ?_
          refine l_iln (q := 0) (n := 480) hX (dtab_at okL_law_p2 43 rfl) rfl rfl ?_
          refine l_ic (n := 481) hX (3 : Int32) (dtab_at okL_law_p2 44 rfl) (by decide) rfl ?_
          refine l_iadd (n := 482) hX (dtab_at okL_law_p2 45 rfl) rfl ?_
          refine l_sld (n := 483) hX hv3 (dtab_at okL_law_p2 46 rfl) rfl ?_
          obtain ⟨xv, S1, M1, hc, hm, hI⟩ := hs7 S M (xs (x3 + (1 : Int32)).toNatClampNeg) (xs (x3 + (2 : Int32)).toNatClampNeg) (xs (x3 + (3 : Int32)).toNatClampNeg) hInv
          refine l_callCi (n := 486) (is := [(xs (x3 + (1 : Int32)).toNatClampNeg), (xs (x3 + (2 : Int32)).toNatClampNeg), (xs (x3 + (3 : Int32)).toNatClampNeg)]) (rest := []) hX (c_X9_felt nF S (xs (x3 + (1 : Int32)).toNatClampNeg) (xs (x3 + (2 : Int32)).toNatClampNeg) (xs (x3 + (3 : Int32)).toNatClampNeg) (xv, S1) hc) lkM_L_46 mv_X9_felt (by decide) rfl (Nat.le_of_ble_eq_true rfl) rfl (dtab_at okL_law_p2 47 rfl) rfl (fun x_ S_ hp_ => ?_)
          obtain ⟨hx_, hy_⟩ := Prod.mk.inj hp_
          have hx_ := hx_.symm
          have hy_ := hy_.symm
          subst hx_
          subst hy_
          refine l_aln (q := 3) (n := 487) hX (dtab_at okL_law_p2 48 rfl) rfl rfl ?_
          refine l_aln (q := 1) (n := 488) hX (dtab_at okL_law_p2 49 rfl) rfl rfl ?_
          refine l_iln (q := 0) (n := 489) hX (dtab_at okL_law_p2 50 rfl) rfl rfl ?_
          refine l_ic (n := 490) hX (1 : Int32) (dtab_at okL_law_p2 51 rfl) (by decide) rfl ?_
          refine l_iadd (n := 491) hX (dtab_at okL_law_p2 52 rfl) rfl ?_
          refine l_sld (n := 492) hX hv1 (dtab_at okL_law_p2 53 rfl) rfl ?_
          refine l_aln (q := 1) (n := 493) hX (dtab_at okL_law_p2 54 rfl) rfl rfl ?_
          refine l_iln (q := 0) (n := 494) hX (dtab_at okL_law_p2 55 rfl) rfl rfl ?_
          refine l_ic (n := 495) hX (2 : Int32) (dtab_at okL_law_p2 56 rfl) (by decide) rfl ?_
          refine l_iadd (n := 496) hX (dtab_at okL_law_p2 57 rfl) rfl ?_
          refine l_sld (n := 497) hX hv2 (dtab_at okL_law_p2 58 rfl) rfl ?_
          refine l_aln (q := 1) (n := 498) hX (dtab_at okL_law_p2 59 rfl) rfl rfl ?_
          refine l_iln (q := 0) (n := 499) hX (dtab_at okL_law_p2 60 rfl) rfl rfl ?_
          refine l_ic (n := 500) hX (3 : Int32) (dtab_at okL_law_p2 61 rfl) (by decide) rfl ?_
          refine l_iadd (n := 501) hX (dtab_at okL_law_p2 62 rfl) rfl ?_
          refine l_sld (n := 502) hX hv3 (dtab_at okL_law_p2 63 rfl) rfl ?_
          refine l_callMi (n := 505) (is := [(xs (x3 + (1 : Int32)).toNatClampNeg), (xs (x3 + (2 : Int32)).toNatClampNeg), (xs (x3 + (3 : Int32)).toNatClampNeg)]) (rest := [vi xv]) hX (c_X10_felt nF M (xs (x3 + (1 : Int32)).toNatClampNeg) (xs (x3 + (2 : Int32)).toNatClampNeg) (xs (x3 + (3 : Int32)).toNatClampNeg) (xv, M1) hm) lkM_L_49 mv_X10_felt (by decide) rfl (Nat.le_of_ble_eq_true rfl) rfl (dtab_at okL_law_p2 64 rfl) rfl (fun x_ S_ hp_ => ?_)
          obtain ⟨hx_, hy_⟩ := Prod.mk.inj hp_
          have hx_ := hx_.symm
          have hy_ := hy_.symm
          subst hx_
          subst hy_
          refine l_eqT (n := 1209) hX (dtab_at okL_law_p2 65 rfl) (by decide) ?_
          exact K _ _ hI
        · refine l_tsIn (n := 510) (off := 477) hX (dtab_at okL_law_p0 21 rfl) (by rw [hts]; decide) (by rw [hts]; decide) (by rw [hts]; rfl) (by decide) ?_
          refine l_aln (q := 2) (n := 511) hX (dtab_at okL_law_p2 68 rfl) rfl rfl ?_
          refine l_aln (q := 1) (n := 512) hX (dtab_at okL_law_p2 69 rfl) rfl rfl ?_
          refine l_iln (q := 0) (n := 513) hX (dtab_at okL_law_p2 70 rfl) rfl rfl ?_
          refine l_ic (n := 514) hX (1 : Int32) (dtab_at okL_law_p2 71 rfl) (by decide) rfl ?_
          refine l_iadd (n := 515) hX (dtab_at okL_law_p2 72 rfl) rfl ?_
          refine l_sld (n := 516) hX hv1 (dtab_at okL_law_p2 73 rfl) rfl ?_
          obtain ⟨xv, S1, M1, hc, hm, hI⟩ := hs8 S M (xs (x3 + (1 : Int32)).toNatClampNeg) hInv
          refine l_callCi (n := 519) (is := [(xs (x3 + (1 : Int32)).toNatClampNeg)]) (rest := []) hX (c_X9_joint nF S (xs (x3 + (1 : Int32)).toNatClampNeg) (xv, S1) hc) lkM_L_50 mv_X9_joint (by decide) rfl (Nat.le_of_ble_eq_true rfl) rfl (dtab_at okL_law_p2 74 rfl) rfl (fun x_ S_ hp_ => ?_)
          obtain ⟨hx_, hy_⟩ := Prod.mk.inj hp_
          have hx_ := hx_.symm
          have hy_ := hy_.symm
          subst hx_
          subst hy_
          refine l_aln (q := 3) (n := 520) hX (dtab_at okL_law_p2 75 rfl) rfl rfl ?_
          refine l_aln (q := 1) (n := 521) hX (dtab_at okL_law_p2 76 rfl) rfl rfl ?_
          refine l_iln (q := 0) (n := 522) hX (dtab_at okL_law_p2 77 rfl) rfl rfl ?_
          refine l_ic (n := 523) hX (1 : Int32) (dtab_at okL_law_p2 78 rfl) (by decide) rfl ?_
          refine l_iadd (n := 524) hX (dtab_at okL_law_p2 79 rfl) rfl ?_
          refine l_sld (n := 525) hX hv1 (dtab_at okL_law_p2 80 rfl) rfl ?_
          refine l_callMi (n := 528) (is := [(xs (x3 + (1 : Int32)).toNatClampNeg)]) (rest := [vi xv]) hX (c_X10_joint nF M (xs (x3 + (1 : Int32)).toNatClampNeg) (xv, M1) hm) lkM_L_53 mv_X10_joint (by decide) rfl (Nat.le_of_ble_eq_true rfl) rfl (dtab_at okL_law_p2 81 rfl) rfl (fun x_ S_ hp_ => ?_)
          obtain ⟨hx_, hy_⟩ := Prod.mk.inj hp_
          have hx_ := hx_.symm
          have hy_ := hy_.symm
          subst hx_
          subst hy_
          refine l_eqT (n := 1209) hX (dtab_at okL_law_p2 82 rfl) (by decide) ?_
          exact K _ _ hI
        · refine l_tsIn (n := 533) (off := 500) hX (dtab_at okL_law_p0 21 rfl) (by rw [hts]; decide) (by rw [hts]; decide) (by rw [hts]; rfl) (by decide) ?_
          refine l_aln (q := 2) (n := 534) hX (dtab_at okL_law_p2 85 rfl) rfl rfl ?_
          obtain ⟨xv, S1, M1, hc, hm, hI⟩ := hs9 S M hInv
          refine l_callCi (n := 537) (is := []) (rest := []) hX (c_X9_wipe S) lkM_L_54 mv_X9_wipe (by decide) rfl (Nat.le_of_ble_eq_true rfl) rfl (dtab_at okL_law_p2 86 rfl) rfl (fun x_ S_ hp_ => ?_)
          obtain ⟨hx_, hy_⟩ := Prod.mk.inj (hp_.trans hc)
          have hx_ := hx_.symm
          have hy_ := hy_.symm
          subst hx_
          subst hy_
          refine l_aln (q := 3) (n := 538) hX (dtab_at okL_law_p2 87 rfl) rfl rfl ?_
          refine l_callMi (n := 541) (is := []) (rest := [vi xv]) hX (c_X10_wipe M) lkM_L_58 mv_X10_wipe (by decide) rfl (Nat.le_of_ble_eq_true rfl) rfl (dtab_at okL_law_p2 88 rfl) rfl (fun x_ S_ hp_ => ?_)
          obtain ⟨hx_, hy_⟩ := Prod.mk.inj (hp_.trans hm)
          have hx_ := hx_.symm
          have hy_ := hy_.symm
          subst hx_
          subst hy_
          refine l_eqT (n := 1209) hX (dtab_at okL_law_p2 89 rfl) (by decide) ?_
          exact K _ _ hI
        · refine l_tsIn (n := 546) (off := 513) hX (dtab_at okL_law_p0 21 rfl) (by rw [hts]; decide) (by rw [hts]; decide) (by rw [hts]; rfl) (by decide) ?_
          refine l_aln (q := 2) (n := 547) hX (dtab_at okL_law_p2 92 rfl) rfl rfl ?_
          refine l_aln (q := 1) (n := 548) hX (dtab_at okL_law_p2 93 rfl) rfl rfl ?_
          refine l_iln (q := 0) (n := 549) hX (dtab_at okL_law_p2 94 rfl) rfl rfl ?_
          refine l_ic (n := 550) hX (1 : Int32) (dtab_at okL_law_p2 95 rfl) (by decide) rfl ?_
          refine l_iadd (n := 551) hX (dtab_at okL_law_p2 96 rfl) rfl ?_
          refine l_sld (n := 552) hX hv1 (dtab_at okL_law_p2 97 rfl) rfl ?_
          refine l_aln (q := 1) (n := 553) hX (dtab_at okL_law_p2 98 rfl) rfl rfl ?_
          refine l_iln (q := 0) (n := 554) hX (dtab_at okL_law_p2 99 rfl) rfl rfl ?_
          refine l_ic (n := 555) hX (2 : Int32) (dtab_at okL_law_p2 100 rfl) (by decide) rfl ?_
          refine l_iadd (n := 556) hX (dtab_at okL_law_p2 101 rfl) rfl ?_
          refine l_sld (n := 557) hX hv2 (dtab_at okL_law_p2 102 rfl) rfl ?_
          obtain ⟨xv, S1, M1, hc, hm, hI⟩ := hs10 S M (xs (x3 + (1 : Int32)).toNatClampNeg) (xs (x3 + (2 : Int32)).toNatClampNeg) hInv
          refine l_callCi (n := 560) (is := [(xs (x3 + (1 : Int32)).toNatClampNeg), (xs (x3 + (2 : Int32)).toNatClampNeg)]) (rest := []) hX (c_X9_costs S (xs (x3 + (1 : Int32)).toNatClampNeg) (xs (x3 + (2 : Int32)).toNatClampNeg)) lkM_L_59 mv_X9_costs (by decide) rfl (Nat.le_of_ble_eq_true rfl) rfl (dtab_at okL_law_p2 103 rfl) rfl (fun x_ S_ hp_ => ?_)
          obtain ⟨hx_, hy_⟩ := Prod.mk.inj (hp_.trans hc)
          have hx_ := hx_.symm
          have hy_ := hy_.symm
          subst hx_
          subst hy_
          refine l_aln (q := 3) (n := 561) hX (dtab_at okL_law_p2 104 rfl) rfl rfl ?_
          refine l_aln (q := 1) (n := 562) hX (dtab_at okL_law_p2 105 rfl) rfl rfl ?_
          refine l_iln (q := 0) (n := 563) hX (dtab_at okL_law_p2 106 rfl) rfl rfl ?_
          refine l_ic (n := 564) hX (1 : Int32) (dtab_at okL_law_p2 107 rfl) (by decide) rfl ?_
          refine l_iadd (n := 565) hX (dtab_at okL_law_p2 108 rfl) rfl ?_
          refine l_sld (n := 566) hX hv1 (dtab_at okL_law_p2 109 rfl) rfl ?_
          refine l_aln (q := 1) (n := 567) hX (dtab_at okL_law_p2 110 rfl) rfl rfl ?_
          refine l_iln (q := 0) (n := 568) hX (dtab_at okL_law_p2 111 rfl) rfl rfl ?_
          refine l_ic (n := 569) hX (2 : Int32) (dtab_at okL_law_p2 112 rfl) (by decide) rfl ?_
          refine l_iadd (n := 570) hX (dtab_at okL_law_p2 113 rfl) rfl ?_
          refine l_sld (n := 571) hX hv2 (dtab_at okL_law_p2 114 rfl) rfl ?_
          refine l_callMi (n := 574) (is := [(xs (x3 + (1 : Int32)).toNatClampNeg), (xs (x3 + (2 : Int32)).toNatClampNeg)]) (rest := [vi xv]) hX (c_X10_costs M (xs (x3 + (1 : Int32)).toNatClampNeg) (xs (x3 + (2 : Int32)).toNatClampNeg)) lkM_L_62 mv_X10_costs (by decide) rfl (Nat.le_of_ble_eq_true rfl) rfl (dtab_at okL_law_p2 115 rfl) rfl (fun x_ S_ hp_ => ?_)
          obtain ⟨hx_, hy_⟩ := Prod.mk.inj (hp_.trans hm)
          have hx_ := hx_.symm
          have hy_ := hy_.symm
          subst hx_
          subst hy_
          refine l_eqT (n := 1209) hX (dtab_at okL_law_p2 116 rfl) (by decide) ?_
          exact K _ _ hI
        · refine l_tsIn (n := 579) (off := 546) hX (dtab_at okL_law_p0 21 rfl) (by rw [hts]; decide) (by rw [hts]; decide) (by rw [hts]; rfl) (by decide) ?_
          refine l_aln (q := 2) (n := 580) hX (dtab_at okL_law_p2 119 rfl) rfl rfl ?_
          refine l_aln (q := 1) (n := 581) hX (dtab_at okL_law_p3 0 rfl) rfl rfl ?_
          refine l_iln (q := 0) (n := 582) hX (dtab_at okL_law_p3 1 rfl) rfl rfl ?_
          refine l_ic (n := 583) hX (1 : Int32) (dtab_at okL_law_p3 2 rfl) (by decide) rfl ?_
          refine l_iadd (n := 584) hX (dtab_at okL_law_p3 3 rfl) rfl ?_
          refine l_sld (n := 585) hX hv1 (dtab_at okL_law_p3 4 rfl) rfl ?_
          obtain ⟨xv, S1, M1, hc, hm, hI⟩ := hs11 S M (xs (x3 + (1 : Int32)).toNatClampNeg) hInv
          refine l_callCi (n := 588) (is := [(xs (x3 + (1 : Int32)).toNatClampNeg)]) (rest := []) hX (c_X9_match nF S (xs (x3 + (1 : Int32)).toNatClampNeg) (xv, S1) hc) lkM_L_63 mv_X9_match (by decide) rfl (Nat.le_of_ble_eq_true rfl) rfl (dtab_at okL_law_p3 5 rfl) rfl (fun x_ S_ hp_ => ?_)
          obtain ⟨hx_, hy_⟩ := Prod.mk.inj hp_
          have hx_ := hx_.symm
          have hy_ := hy_.symm
          subst hx_
          subst hy_
          refine l_aln (q := 3) (n := 589) hX (dtab_at okL_law_p3 6 rfl) rfl rfl ?_
          refine l_aln (q := 1) (n := 590) hX (dtab_at okL_law_p3 7 rfl) rfl rfl ?_
          refine l_iln (q := 0) (n := 591) hX (dtab_at okL_law_p3 8 rfl) rfl rfl ?_
          refine l_ic (n := 592) hX (1 : Int32) (dtab_at okL_law_p3 9 rfl) (by decide) rfl ?_
          refine l_iadd (n := 593) hX (dtab_at okL_law_p3 10 rfl) rfl ?_
          refine l_sld (n := 594) hX hv1 (dtab_at okL_law_p3 11 rfl) rfl ?_
          refine l_callMi (n := 597) (is := [(xs (x3 + (1 : Int32)).toNatClampNeg)]) (rest := [vi xv]) hX (c_X10_match nF M (xs (x3 + (1 : Int32)).toNatClampNeg) (xv, M1) hm) lkM_L_66 mv_X10_match (by decide) rfl (Nat.le_of_ble_eq_true rfl) rfl (dtab_at okL_law_p3 12 rfl) rfl (fun x_ S_ hp_ => ?_)
          obtain ⟨hx_, hy_⟩ := Prod.mk.inj hp_
          have hx_ := hx_.symm
          have hy_ := hy_.symm
          subst hx_
          subst hy_
          refine l_eqT (n := 1209) hX (dtab_at okL_law_p3 13 rfl) (by decide) ?_
          exact K _ _ hI
        · refine l_tsIn (n := 602) (off := 569) hX (dtab_at okL_law_p0 21 rfl) (by rw [hts]; decide) (by rw [hts]; decide) (by rw [hts]; rfl) (by decide) ?_
          refine l_aln (q := 2) (n := 603) hX (dtab_at okL_law_p3 16 rfl) rfl rfl ?_
          refine l_aln (q := 1) (n := 604) hX (dtab_at okL_law_p3 17 rfl) rfl rfl ?_
          refine l_iln (q := 0) (n := 605) hX (dtab_at okL_law_p3 18 rfl) rfl rfl ?_
          refine l_ic (n := 606) hX (1 : Int32) (dtab_at okL_law_p3 19 rfl) (by decide) rfl ?_
          refine l_iadd (n := 607) hX (dtab_at okL_law_p3 20 rfl) rfl ?_
          refine l_sld (n := 608) hX hv1 (dtab_at okL_law_p3 21 rfl) rfl ?_
          refine l_aln (q := 1) (n := 609) hX (dtab_at okL_law_p3 22 rfl) rfl rfl ?_
          refine l_iln (q := 0) (n := 610) hX (dtab_at okL_law_p3 23 rfl) rfl rfl ?_
          refine l_ic (n := 611) hX (2 : Int32) (dtab_at okL_law_p3 24 rfl) (by decide) rfl ?_
          refine l_iadd (n := 612) hX (dtab_at okL_law_p3 25 rfl) rfl ?_
          refine l_sld (n := 613) hX hv2 (dtab_at okL_law_p3 26 rfl) rfl ?_
          obtain ⟨xv, S1, M1, hc, hm, hI⟩ := hs12 S M (xs (x3 + (1 : Int32)).toNatClampNeg) (xs (x3 + (2 : Int32)).toNatClampNeg) hInv
          refine l_callCi (n := 616) (is := [(xs (x3 + (1 : Int32)).toNatClampNeg), (xs (x3 + (2 : Int32)).toNatClampNeg)]) (rest := []) hX (c_X9_paired nF S (xs (x3 + (1 : Int32)).toNatClampNeg) (xs (x3 + (2 : Int32)).toNatClampNeg) (xv, S1) hc) lkM_L_67 mv_X9_paired (by decide) rfl (Nat.le_of_ble_eq_true rfl) rfl (dtab_at okL_law_p3 27 rfl) rfl (fun x_ S_ hp_ => ?_)
          obtain ⟨hx_, hy_⟩ := Prod.mk.inj hp_
          have hx_ := hx_.symm
          have hy_ := hy_.symm
          subst hx_
          subst hy_
          refine l_aln (q := 3) (n := 617) hX (dtab_at okL_law_p3 28 rfl) rfl rfl ?_
          refine l_aln (q := 1) (n := 618) hX (dtab_at okL_law_p3 29 rfl) rfl rfl ?_
          refine l_iln (q := 0) (n := 619) hX (dtab_at okL_law_p3 30 rfl) rfl rfl ?_
          refine l_ic (n := 620) hX (1 : Int32) (dtab_at okL_law_p3 31 rfl) (by decide) rfl ?_
          refine l_iadd (n := 621) hX (dtab_at okL_law_p3 32 rfl) rfl ?_
          refine l_sld (n := 622) hX hv1 (dtab_at okL_law_p3 33 rfl) rfl ?_
          refine l_aln (q := 1) (n := 623) hX (dtab_at okL_law_p3 34 rfl) rfl rfl ?_
          refine l_iln (q := 0) (n := 624) hX (dtab_at okL_law_p3 35 rfl) rfl rfl ?_
          refine l_ic (n := 625) hX (2 : Int32) (dtab_at okL_law_p3 36 rfl) (by decide) rfl ?_
          refine l_iadd (n := 626) hX (dtab_at okL_law_p3 37 rfl) rfl ?_
          refine l_sld (n := 627) hX hv2 (dtab_at okL_law_p3 38 rfl) rfl ?_
          refine l_callMi (n := 630) (is := [(xs (x3 + (1 : Int32)).toNatClampNeg), (xs (x3 + (2 : Int32)).toNatClampNeg)]) (rest := [vi xv]) hX (c_X10_paired nF M (xs (x3 + (1 : Int32)).toNatClampNeg) (xs (x3 + (2 : Int32)).toNatClampNeg) (xv, M1) hm) lkM_L_70 mv_X10_paired (by decide) rfl (Nat.le_of_ble_eq_true rfl) rfl (dtab_at okL_law_p3 39 rfl) rfl (fun x_ S_ hp_ => ?_)
          obtain ⟨hx_, hy_⟩ := Prod.mk.inj hp_
          have hx_ := hx_.symm
          have hy_ := hy_.symm
          subst hx_
          subst hy_
          refine l_eqT (n := 1209) hX (dtab_at okL_law_p3 40 rfl) (by decide) ?_
          exact K _ _ hI
        · refine l_tsIn (n := 635) (off := 602) hX (dtab_at okL_law_p0 21 rfl) (by rw [hts]; decide) (by rw [hts]; decide) (by rw [hts]; rfl) (by decide) ?_
          refine l_aln (q := 2) (n := 636) hX (dtab_at okL_law_p3 43 rfl) rfl rfl ?_
          refine l_aln (q := 1) (n := 637) hX (dtab_at okL_law_p3 44 rfl) rfl rfl ?_
          refine l_iln (q := 0) (n := 638) hX (dtab_at okL_law_p3 45 rfl) rfl rfl ?_
          refine l_ic (n := 639) hX (1 : Int32) (dtab_at okL_law_p3 46 rfl) (by decide) rfl ?_
          refine l_iadd (n := 640) hX (dtab_at okL_law_p3 47 rfl) rfl ?_
          refine l_sld (n := 641) hX hv1 (dtab_at okL_law_p3 48 rfl) rfl ?_
          refine l_aln (q := 1) (n := 642) hX (dtab_at okL_law_p3 49 rfl) rfl rfl ?_
          refine l_iln (q := 0) (n := 643) hX (dtab_at okL_law_p3 50 rfl) rfl rfl ?_
          refine l_ic (n := 644) hX (2 : Int32) (dtab_at okL_law_p3 51 rfl) (by decide) rfl ?_
          refine l_iadd (n := 645) hX (dtab_at okL_law_p3 52 rfl) rfl ?_
          refine l_sld (n := 646) hX hv2 (dtab_at okL_law_p3 53 rfl) rfl ?_
          refine l_aln (q := 1) (n := 647) hX (dtab_at okL_law_p3 54 rfl) rfl rfl ?_
          refine l_iln (q := 0) (n := 648) hX (dtab_at okL_law_p3 55 rfl) rfl rfl ?_
          refine l_ic (n := 649) hX (3 : Int32) (dtab_at okL_law_p3 56 rfl) (by decide) rfl ?_
          refine l_iadd (n := 650) hX (dtab_at okL_law_p3 57 rfl) rfl ?_
          refine l_sld (n := 651) hX hv3 (dtab_at okL_law_p3 58 rfl) rfl ?_
          refine l_aln (q := 1) (n := 652) hX (dtab_at okL_law_p3 59 rfl) rfl rfl ?_
          refine l_iln (q := 0) (n := 653) hX (dtab_at okL_law_p3 60 rfl) rfl rfl ?_
          refine l_ic (n := 654) hX (4 : Int32) (dtab_at okL_law_p3 61 rfl) (by decide) rfl ?_
          refine l_iadd (n := 655) hX (dtab_at okL_law_p3 62 rfl) rfl ?_
          refine l_sld (n := 656) hX hv4 (dtab_at okL_law_p3 63 rfl) rfl ?_
          refine l_aln (q := 1) (n := 657) hX (dtab_at okL_law_p3 64 rfl) rfl rfl ?_
          refine l_iln (q := 0) (n := 658) hX (dtab_at okL_law_p3 65 rfl) rfl rfl ?_
          refine l_ic (n := 659) hX (5 : Int32) (dtab_at okL_law_p3 66 rfl) (by decide) rfl ?_
          refine l_iadd (n := 660) hX (dtab_at okL_law_p3 67 rfl) rfl ?_
          refine l_sld (n := 661) hX hv5 (dtab_at okL_law_p3 68 rfl) rfl ?_
          obtain ⟨xv, S1, M1, hc, hm, hI⟩ := hs13 S M (xs (x3 + (1 : Int32)).toNatClampNeg) (xs (x3 + (2 : Int32)).toNatClampNeg) (xs (x3 + (3 : Int32)).toNatClampNeg) (xs (x3 + (4 : Int32)).toNatClampNeg) (xs (x3 + (5 : Int32)).toNatClampNeg) hInv
          refine l_callCi (n := 664) (is := [(xs (x3 + (1 : Int32)).toNatClampNeg), (xs (x3 + (2 : Int32)).toNatClampNeg), (xs (x3 + (3 : Int32)).toNatClampNeg), (xs (x3 + (4 : Int32)).toNatClampNeg), (xs (x3 + (5 : Int32)).toNatClampNeg)]) (rest := []) hX (c_X9_mark nF S (xs (x3 + (1 : Int32)).toNatClampNeg) (xs (x3 + (2 : Int32)).toNatClampNeg) (xs (x3 + (3 : Int32)).toNatClampNeg) (xs (x3 + (4 : Int32)).toNatClampNeg) (xs (x3 + (5 : Int32)).toNatClampNeg) (xv, S1) hc) lkM_L_71 mv_X9_mark (by decide) rfl (Nat.le_of_ble_eq_true rfl) rfl (dtab_at okL_law_p3 69 rfl) rfl (fun x_ S_ hp_ => ?_)
          obtain ⟨hx_, hy_⟩ := Prod.mk.inj hp_
          have hx_ := hx_.symm
          have hy_ := hy_.symm
          subst hx_
          subst hy_
          refine l_aln (q := 3) (n := 665) hX (dtab_at okL_law_p3 70 rfl) rfl rfl ?_
          refine l_aln (q := 1) (n := 666) hX (dtab_at okL_law_p3 71 rfl) rfl rfl ?_
          refine l_iln (q := 0) (n := 667) hX (dtab_at okL_law_p3 72 rfl) rfl rfl ?_
          refine l_ic (n := 668) hX (1 : Int32) (dtab_at okL_law_p3 73 rfl) (by decide) rfl ?_
          refine l_iadd (n := 669) hX (dtab_at okL_law_p3 74 rfl) rfl ?_
          refine l_sld (n := 670) hX hv1 (dtab_at okL_law_p3 75 rfl) rfl ?_
          refine l_aln (q := 1) (n := 671) hX (dtab_at okL_law_p3 76 rfl) rfl rfl ?_
          refine l_iln (q := 0) (n := 672) hX (dtab_at okL_law_p3 77 rfl) rfl rfl ?_
          refine l_ic (n := 673) hX (2 : Int32) (dtab_at okL_law_p3 78 rfl) (by decide) rfl ?_
          refine l_iadd (n := 674) hX (dtab_at okL_law_p3 79 rfl) rfl ?_
          refine l_sld (n := 675) hX hv2 (dtab_at okL_law_p3 80 rfl) rfl ?_
          refine l_aln (q := 1) (n := 676) hX (dtab_at okL_law_p3 81 rfl) rfl rfl ?_
          refine l_iln (q := 0) (n := 677) hX (dtab_at okL_law_p3 82 rfl) rfl rfl ?_
          refine l_ic (n := 678) hX (3 : Int32) (dtab_at okL_law_p3 83 rfl) (by decide) rfl ?_
          refine l_iadd (n := 679) hX (dtab_at okL_law_p3 84 rfl) rfl ?_
          refine l_sld (n := 680) hX hv3 (dtab_at okL_law_p3 85 rfl) rfl ?_
          refine l_aln (q := 1) (n := 681) hX (dtab_at okL_law_p3 86 rfl) rfl rfl ?_
          refine l_iln (q := 0) (n := 682) hX (dtab_at okL_law_p3 87 rfl) rfl rfl ?_
          refine l_ic (n := 683) hX (4 : Int32) (dtab_at okL_law_p3 88 rfl) (by decide) rfl ?_
          refine l_iadd (n := 684) hX (dtab_at okL_law_p3 89 rfl) rfl ?_
          refine l_sld (n := 685) hX hv4 (dtab_at okL_law_p3 90 rfl) rfl ?_
          refine l_aln (q := 1) (n := 686) hX (dtab_at okL_law_p3 91 rfl) rfl rfl ?_
          refine l_iln (q := 0) (n := 687) hX (dtab_at okL_law_p3 92 rfl) rfl rfl ?_
          refine l_ic (n := 688) hX (5 : Int32) (dtab_at okL_law_p3 93 rfl) (by decide) rfl ?_
          refine l_iadd (n := 689) hX (dtab_at okL_law_p3 94 rfl) rfl ?_
          refine l_sld (n := 690) hX hv5 (dtab_at okL_law_p3 95 rfl) rfl ?_
          refine l_callMi (n := 693) (is := [(xs (x3 + (1 : Int32)).toNatClampNeg), (xs (x3 + (2 : Int32)).toNatClampNeg), (xs (x3 + (3 : Int32)).toNatClampNeg), (xs (x3 + (4 : Int32)).toNatClampNeg), (xs (x3 + (5 : Int32)).toNatClampNeg)]) (rest := [vi xv]) hX (c_X10_mark nF M (xs (x3 + (1 : Int32)).toNatClampNeg) (xs (x3 + (2 : Int32)).toNatClampNeg) (xs (x3 + (3 : Int32)).toNatClampNeg) (xs (x3 + (4 : Int32)).toNatClampNeg) (xs (x3 + (5 : Int32)).toNatClampNeg) (xv, M1) hm) lkM_L_74 mv_X10_mark (by decide) rfl (Nat.le_of_ble_eq_true rfl) rfl (dtab_at okL_law_p3 96 rfl) rfl (fun x_ S_ hp_ => ?_)
          obtain ⟨hx_, hy_⟩ := Prod.mk.inj hp_
          have hx_ := hx_.symm
          have hy_ := hy_.symm
          subst hx_
          subst hy_
          refine l_eqT (n := 1209) hX (dtab_at okL_law_p3 97 rfl) (by decide) ?_
          exact K _ _ hI
        · refine l_tsIn (n := 698) (off := 665) hX (dtab_at okL_law_p0 21 rfl) (by rw [hts]; decide) (by rw [hts]; decide) (by rw [hts]; rfl) (by decide) ?_
          refine l_aln (q := 2) (n := 699) hX (dtab_at okL_law_p3 100 rfl) rfl rfl ?_
          refine l_aln (q := 1) (n := 700) hX (dtab_at okL_law_p3 101 rfl) rfl rfl ?_
          refine l_iln (q := 0) (n := 701) hX (dtab_at okL_law_p3 102 rfl) rfl rfl ?_
          refine l_ic (n := 702) hX (1 : Int32) (dtab_at okL_law_p3 103 rfl) (by decide) rfl ?_
          refine l_iadd (n := 703) hX (dtab_at okL_law_p3 104 rfl) rfl ?_
          refine l_sld (n := 704) hX hv1 (dtab_at okL_law_p3 105 rfl) rfl ?_
          obtain ⟨xv, S1, M1, hc, hm, hI⟩ := hs14 S M (xs (x3 + (1 : Int32)).toNatClampNeg) hInv
          refine l_callCi (n := 707) (is := [(xs (x3 + (1 : Int32)).toNatClampNeg)]) (rest := []) hX (c_X9_clear nF S (xs (x3 + (1 : Int32)).toNatClampNeg) (xv, S1) hc) lkM_L_75 mv_X9_clear (by decide) rfl (Nat.le_of_ble_eq_true rfl) rfl (dtab_at okL_law_p3 106 rfl) rfl (fun x_ S_ hp_ => ?_)
          obtain ⟨hx_, hy_⟩ := Prod.mk.inj hp_
          have hx_ := hx_.symm
          have hy_ := hy_.symm
          subst hx_
          subst hy_
          refine l_aln (q := 3) (n := 708) hX (dtab_at okL_law_p3 107 rfl) rfl rfl ?_
          refine l_aln (q := 1) (n := 709) hX (dtab_at okL_law_p3 108 rfl) rfl rfl ?_
          refine l_iln (q := 0) (n := 710) hX (dtab_at okL_law_p3 109 rfl) rfl rfl ?_
          refine l_ic (n := 711) hX (1 : Int32) (dtab_at okL_law_p3 110 rfl) (by decide) rfl ?_
          refine l_iadd (n := 712) hX (dtab_at okL_law_p3 111 rfl) rfl ?_
          refine l_sld (n := 713) hX hv1 (dtab_at okL_law_p3 112 rfl) rfl ?_
          refine l_callMi (n := 716) (is := [(xs (x3 + (1 : Int32)).toNatClampNeg)]) (rest := [vi xv]) hX (c_X10_clear nF M (xs (x3 + (1 : Int32)).toNatClampNeg) (xv, M1) hm) lkM_L_78 mv_X10_clear (by decide) rfl (Nat.le_of_ble_eq_true rfl) rfl (dtab_at okL_law_p3 113 rfl) rfl (fun x_ S_ hp_ => ?_)
          obtain ⟨hx_, hy_⟩ := Prod.mk.inj hp_
          have hx_ := hx_.symm
          have hy_ := hy_.symm
          subst hx_
          subst hy_
          refine l_eqT (n := 1209) hX (dtab_at okL_law_p3 114 rfl) (by decide) ?_
          exact K _ _ hI
        · refine l_tsIn (n := 721) (off := 688) hX (dtab_at okL_law_p0 21 rfl) (by rw [hts]; decide) (by rw [hts]; decide) (by rw [hts]; rfl) (by decide) ?_
          refine l_aln (q := 2) (n := 722) hX (dtab_at okL_law_p3 117 rfl) rfl rfl ?_
          refine l_aln (q := 1) (n := 723) hX (dtab_at okL_law_p3 118 rfl) rfl rfl ?_
          refine l_iln (q := 0) (n := 724) hX (dtab_at okL_law_p3 119 rfl) rfl rfl ?_
          refine l_ic (n := 725) hX (1 : Int32) (dtab_at okL_law_p4 0 rfl) (by decide) rfl ?_
          refine l_iadd (n := 726) hX (dtab_at okL_law_p4 1 rfl) rfl ?_
          refine l_sld (n := 727) hX hv1 (dtab_at okL_law_p4 2 rfl) rfl ?_
          refine l_aln (q := 1) (n := 728) hX (dtab_at okL_law_p4 3 rfl) rfl rfl ?_
          refine l_iln (q := 0) (n := 729) hX (dtab_at okL_law_p4 4 rfl) rfl rfl ?_
          refine l_ic (n := 730) hX (2 : Int32) (dtab_at okL_law_p4 5 rfl) (by decide) rfl ?_
          refine l_iadd (n := 731) hX (dtab_at okL_law_p4 6 rfl) rfl ?_
          refine l_sld (n := 732) hX hv2 (dtab_at okL_law_p4 7 rfl) rfl ?_
          refine l_aln (q := 1) (n := 733) hX (dtab_at okL_law_p4 8 rfl) rfl rfl ?_
          refine l_iln (q := 0) (n := 734) hX (dtab_at okL_law_p4 9 rfl) rfl rfl ?_
          refine l_ic (n := 735) hX (3 : Int32) (dtab_at okL_law_p4 10 rfl) (by decide) rfl ?_
          refine l_iadd (n := 736) hX (dtab_at okL_law_p4 11 rfl) rfl ?_
          refine l_sld (n := 737) hX hv3 (dtab_at okL_law_p4 12 rfl) rfl ?_
          obtain ⟨xv, S1, M1, hc, hm, hI⟩ := hs15 S M (xs (x3 + (1 : Int32)).toNatClampNeg) (xs (x3 + (2 : Int32)).toNatClampNeg) (xs (x3 + (3 : Int32)).toNatClampNeg) hInv
          refine l_callCi (n := 740) (is := [(xs (x3 + (1 : Int32)).toNatClampNeg), (xs (x3 + (2 : Int32)).toNatClampNeg), (xs (x3 + (3 : Int32)).toNatClampNeg)]) (rest := []) hX (c_X9_about nF S (xs (x3 + (1 : Int32)).toNatClampNeg) (xs (x3 + (2 : Int32)).toNatClampNeg) (xs (x3 + (3 : Int32)).toNatClampNeg) (xv, S1) hc) lkM_L_79 mv_X9_about (by decide) rfl (Nat.le_of_ble_eq_true rfl) rfl (dtab_at okL_law_p4 13 rfl) rfl (fun x_ S_ hp_ => ?_)
          obtain ⟨hx_, hy_⟩ := Prod.mk.inj hp_
          have hx_ := hx_.symm
          have hy_ := hy_.symm
          subst hx_
          subst hy_
          refine l_aln (q := 3) (n := 741) hX (dtab_at okL_law_p4 14 rfl) rfl rfl ?_
          refine l_aln (q := 1) (n := 742) hX (dtab_at okL_law_p4 15 rfl) rfl rfl ?_
          refine l_iln (q := 0) (n := 743) hX (dtab_at okL_law_p4 16 rfl) rfl rfl ?_
          refine l_ic (n := 744) hX (1 : Int32) (dtab_at okL_law_p4 17 rfl) (by decide) rfl ?_
          refine l_iadd (n := 745) hX (dtab_at okL_law_p4 18 rfl) rfl ?_
          refine l_sld (n := 746) hX hv1 (dtab_at okL_law_p4 19 rfl) rfl ?_
          refine l_aln (q := 1) (n := 747) hX (dtab_at okL_law_p4 20 rfl) rfl rfl ?_
          refine l_iln (q := 0) (n := 748) hX (dtab_at okL_law_p4 21 rfl) rfl rfl ?_
          refine l_ic (n := 749) hX (2 : Int32) (dtab_at okL_law_p4 22 rfl) (by decide) rfl ?_
          refine l_iadd (n := 750) hX (dtab_at okL_law_p4 23 rfl) rfl ?_
          refine l_sld (n := 751) hX hv2 (dtab_at okL_law_p4 24 rfl) rfl ?_
          refine l_aln (q := 1) (n := 752) hX (dtab_at okL_law_p4 25 rfl) rfl rfl ?_
          refine l_iln (q := 0) (n := 753) hX (dtab_at okL_law_p4 26 rfl) rfl rfl ?_
          refine l_ic (n := 754) hX (3 : Int32) (dtab_at okL_law_p4 27 rfl) (by decide) rfl ?_
          refine l_iadd (n := 755) hX (dtab_at okL_law_p4 28 rfl) rfl ?_
          refine l_sld (n := 756) hX hv3 (dtab_at okL_law_p4 29 rfl) rfl ?_
          refine l_callMi (n := 759) (is := [(xs (x3 + (1 : Int32)).toNatClampNeg), (xs (x3 + (2 : Int32)).toNatClampNeg), (xs (x3 + (3 : Int32)).toNatClampNeg)]) (rest := [vi xv]) hX (c_X10_about nF M (xs (x3 + (1 : Int32)).toNatClampNeg) (xs (x3 + (2 : Int32)).toNatClampNeg) (xs (x3 + (3 : Int32)).toNatClampNeg) (xv, M1) hm) lkM_L_82 mv_X10_about (by decide) rfl (Nat.le_of_ble_eq_true rfl) rfl (dtab_at okL_law_p4 30 rfl) rfl (fun x_ S_ hp_ => ?_)
          obtain ⟨hx_, hy_⟩ := Prod.mk.inj hp_
          have hx_ := hx_.symm
          have hy_ := hy_.symm
          subst hx_
          subst hy_
          refine l_eqT (n := 1209) hX (dtab_at okL_law_p4 31 rfl) (by decide) ?_
          exact K _ _ hI
        · refine l_tsIn (n := 764) (off := 731) hX (dtab_at okL_law_p0 21 rfl) (by rw [hts]; decide) (by rw [hts]; decide) (by rw [hts]; rfl) (by decide) ?_
          refine l_aln (q := 2) (n := 765) hX (dtab_at okL_law_p4 34 rfl) rfl rfl ?_
          refine l_aln (q := 1) (n := 766) hX (dtab_at okL_law_p4 35 rfl) rfl rfl ?_
          refine l_iln (q := 0) (n := 767) hX (dtab_at okL_law_p4 36 rfl) rfl rfl ?_
          refine l_ic (n := 768) hX (1 : Int32) (dtab_at okL_law_p4 37 rfl) (by decide) rfl ?_
          refine l_iadd (n := 769) hX (dtab_at okL_law_p4 38 rfl) rfl ?_
          refine l_sld (n := 770) hX hv1 (dtab_at okL_law_p4 39 rfl) rfl ?_
          refine l_aln (q := 1) (n := 771) hX (dtab_at okL_law_p4 40 rfl) rfl rfl ?_
          refine l_iln (q := 0) (n := 772) hX (dtab_at okL_law_p4 41 rfl) rfl rfl ?_
          refine l_ic (n := 773) hX (2 : Int32) (dtab_at okL_law_p4 42 rfl) (by decide) rfl ?_
          refine l_iadd (n := 774) hX (dtab_at okL_law_p4 43 rfl) rfl ?_
          refine l_sld (n := 775) hX hv2 (dtab_at okL_law_p4 44 rfl) rfl ?_
          obtain ⟨xv, S1, M1, hc, hm, hI⟩ := hs16 S M (xs (x3 + (1 : Int32)).toNatClampNeg) (xs (x3 + (2 : Int32)).toNatClampNeg) hInv
          refine l_callCi (n := 778) (is := [(xs (x3 + (1 : Int32)).toNatClampNeg), (xs (x3 + (2 : Int32)).toNatClampNeg)]) (rest := []) hX (c_X9_near S (xs (x3 + (1 : Int32)).toNatClampNeg) (xs (x3 + (2 : Int32)).toNatClampNeg)) lkM_L_83 mv_X9_near (by decide) rfl (Nat.le_of_ble_eq_true rfl) rfl (dtab_at okL_law_p4 45 rfl) rfl (fun x_ S_ hp_ => ?_)
          obtain ⟨hx_, hy_⟩ := Prod.mk.inj (hp_.trans hc)
          have hx_ := hx_.symm
          have hy_ := hy_.symm
          subst hx_
          subst hy_
          refine l_aln (q := 3) (n := 779) hX (dtab_at okL_law_p4 46 rfl) rfl rfl ?_
          refine l_aln (q := 1) (n := 780) hX (dtab_at okL_law_p4 47 rfl) rfl rfl ?_
          refine l_iln (q := 0) (n := 781) hX (dtab_at okL_law_p4 48 rfl) rfl rfl ?_
          refine l_ic (n := 782) hX (1 : Int32) (dtab_at okL_law_p4 49 rfl) (by decide) rfl ?_
          refine l_iadd (n := 783) hX (dtab_at okL_law_p4 50 rfl) rfl ?_
          refine l_sld (n := 784) hX hv1 (dtab_at okL_law_p4 51 rfl) rfl ?_
          refine l_aln (q := 1) (n := 785) hX (dtab_at okL_law_p4 52 rfl) rfl rfl ?_
          refine l_iln (q := 0) (n := 786) hX (dtab_at okL_law_p4 53 rfl) rfl rfl ?_
          refine l_ic (n := 787) hX (2 : Int32) (dtab_at okL_law_p4 54 rfl) (by decide) rfl ?_
          refine l_iadd (n := 788) hX (dtab_at okL_law_p4 55 rfl) rfl ?_
          refine l_sld (n := 789) hX hv2 (dtab_at okL_law_p4 56 rfl) rfl ?_
          refine l_callMi (n := 792) (is := [(xs (x3 + (1 : Int32)).toNatClampNeg), (xs (x3 + (2 : Int32)).toNatClampNeg)]) (rest := [vi xv]) hX (c_X10_near M (xs (x3 + (1 : Int32)).toNatClampNeg) (xs (x3 + (2 : Int32)).toNatClampNeg)) lkM_L_86 mv_X10_near (by decide) rfl (Nat.le_of_ble_eq_true rfl) rfl (dtab_at okL_law_p4 57 rfl) rfl (fun x_ S_ hp_ => ?_)
          obtain ⟨hx_, hy_⟩ := Prod.mk.inj (hp_.trans hm)
          have hx_ := hx_.symm
          have hy_ := hy_.symm
          subst hx_
          subst hy_
          refine l_eqT (n := 1209) hX (dtab_at okL_law_p4 58 rfl) (by decide) ?_
          exact K _ _ hI
        · refine l_tsIn (n := 797) (off := 764) hX (dtab_at okL_law_p0 21 rfl) (by rw [hts]; decide) (by rw [hts]; decide) (by rw [hts]; rfl) (by decide) ?_
          refine l_aln (q := 2) (n := 798) hX (dtab_at okL_law_p4 61 rfl) rfl rfl ?_
          refine l_aln (q := 1) (n := 799) hX (dtab_at okL_law_p4 62 rfl) rfl rfl ?_
          refine l_iln (q := 0) (n := 800) hX (dtab_at okL_law_p4 63 rfl) rfl rfl ?_
          refine l_ic (n := 801) hX (1 : Int32) (dtab_at okL_law_p4 64 rfl) (by decide) rfl ?_
          refine l_iadd (n := 802) hX (dtab_at okL_law_p4 65 rfl) rfl ?_
          refine l_sld (n := 803) hX hv1 (dtab_at okL_law_p4 66 rfl) rfl ?_
          obtain ⟨xv, S1, M1, hc, hm, hI⟩ := hs17 S M (xs (x3 + (1 : Int32)).toNatClampNeg) hInv
          refine l_callCi (n := 806) (is := [(xs (x3 + (1 : Int32)).toNatClampNeg)]) (rest := []) hX (c_X9_groups nF S (xs (x3 + (1 : Int32)).toNatClampNeg) (xv, S1) hc) lkM_L_87 mv_X9_groups (by decide) rfl (Nat.le_of_ble_eq_true rfl) rfl (dtab_at okL_law_p4 67 rfl) rfl (fun x_ S_ hp_ => ?_)
          obtain ⟨hx_, hy_⟩ := Prod.mk.inj hp_
          have hx_ := hx_.symm
          have hy_ := hy_.symm
          subst hx_
          subst hy_
          refine l_aln (q := 3) (n := 807) hX (dtab_at okL_law_p4 68 rfl) rfl rfl ?_
          refine l_aln (q := 1) (n := 808) hX (dtab_at okL_law_p4 69 rfl) rfl rfl ?_
          refine l_iln (q := 0) (n := 809) hX (dtab_at okL_law_p4 70 rfl) rfl rfl ?_
          refine l_ic (n := 810) hX (1 : Int32) (dtab_at okL_law_p4 71 rfl) (by decide) rfl ?_
          refine l_iadd (n := 811) hX (dtab_at okL_law_p4 72 rfl) rfl ?_
          refine l_sld (n := 812) hX hv1 (dtab_at okL_law_p4 73 rfl) rfl ?_
          refine l_callMi (n := 815) (is := [(xs (x3 + (1 : Int32)).toNatClampNeg)]) (rest := [vi xv]) hX (c_X10_groups nF M (xs (x3 + (1 : Int32)).toNatClampNeg) (xv, M1) hm) lkM_L_90 mv_X10_groups (by decide) rfl (Nat.le_of_ble_eq_true rfl) rfl (dtab_at okL_law_p4 74 rfl) rfl (fun x_ S_ hp_ => ?_)
          obtain ⟨hx_, hy_⟩ := Prod.mk.inj hp_
          have hx_ := hx_.symm
          have hy_ := hy_.symm
          subst hx_
          subst hy_
          refine l_eqT (n := 1209) hX (dtab_at okL_law_p4 75 rfl) (by decide) ?_
          exact K _ _ hI
        · refine l_tsIn (n := 820) (off := 787) hX (dtab_at okL_law_p0 21 rfl) (by rw [hts]; decide) (by rw [hts]; decide) (by rw [hts]; rfl) (by decide) ?_
          refine l_aln (q := 2) (n := 821) hX (dtab_at okL_law_p4 78 rfl) rfl rfl ?_
          refine l_aln (q := 1) (n := 822) hX (dtab_at okL_law_p4 79 rfl) rfl rfl ?_
          refine l_iln (q := 0) (n := 823) hX (dtab_at okL_law_p4 80 rfl) rfl rfl ?_
          refine l_ic (n := 824) hX (1 : Int32) (dtab_at okL_law_p4 81 rfl) (by decide) rfl ?_
          refine l_iadd (n := 825) hX (dtab_at okL_law_p4 82 rfl) rfl ?_
          refine l_sld (n := 826) hX hv1 (dtab_at okL_law_p4 83 rfl) rfl ?_
          refine l_aln (q := 1) (n := 827) hX (dtab_at okL_law_p4 84 rfl) rfl rfl ?_
          refine l_iln (q := 0) (n := 828) hX (dtab_at okL_law_p4 85 rfl) rfl rfl ?_
          refine l_ic (n := 829) hX (2 : Int32) (dtab_at okL_law_p4 86 rfl) (by decide) rfl ?_
          refine l_iadd (n := 830) hX (dtab_at okL_law_p4 87 rfl) rfl ?_
          refine l_sld (n := 831) hX hv2 (dtab_at okL_law_p4 88 rfl) rfl ?_
          refine l_aln (q := 1) (n := 832) hX (dtab_at okL_law_p4 89 rfl) rfl rfl ?_
          refine l_iln (q := 0) (n := 833) hX (dtab_at okL_law_p4 90 rfl) rfl rfl ?_
          refine l_ic (n := 834) hX (3 : Int32) (dtab_at okL_law_p4 91 rfl) (by decide) rfl ?_
          refine l_iadd (n := 835) hX (dtab_at okL_law_p4 92 rfl) rfl ?_
          refine l_sld (n := 836) hX hv3 (dtab_at okL_law_p4 93 rfl) rfl ?_
          obtain ⟨xv, S1, M1, hc, hm, hI⟩ := hs18 S M (xs (x3 + (1 : Int32)).toNatClampNeg) (xs (x3 + (2 : Int32)).toNatClampNeg) (xs (x3 + (3 : Int32)).toNatClampNeg) hInv
          refine l_callCi (n := 839) (is := [(xs (x3 + (1 : Int32)).toNatClampNeg), (xs (x3 + (2 : Int32)).toNatClampNeg), (xs (x3 + (3 : Int32)).toNatClampNeg)]) (rest := []) hX (c_X9_group nF S (xs (x3 + (1 : Int32)).toNatClampNeg) (xs (x3 + (2 : Int32)).toNatClampNeg) (xs (x3 + (3 : Int32)).toNatClampNeg) (xv, S1) hc) lkM_L_91 mv_X9_group (by decide) rfl (Nat.le_of_ble_eq_true rfl) rfl (dtab_at okL_law_p4 94 rfl) rfl (fun x_ S_ hp_ => ?_)
          obtain ⟨hx_, hy_⟩ := Prod.mk.inj hp_
          have hx_ := hx_.symm
          have hy_ := hy_.symm
          subst hx_
          subst hy_
          refine l_aln (q := 3) (n := 840) hX (dtab_at okL_law_p4 95 rfl) rfl rfl ?_
          refine l_aln (q := 1) (n := 841) hX (dtab_at okL_law_p4 96 rfl) rfl rfl ?_
          refine l_iln (q := 0) (n := 842) hX (dtab_at okL_law_p4 97 rfl) rfl rfl ?_
          refine l_ic (n := 843) hX (1 : Int32) (dtab_at okL_law_p4 98 rfl) (by decide) rfl ?_
          refine l_iadd (n := 844) hX (dtab_at okL_law_p4 99 rfl) rfl ?_
          refine l_sld (n := 845) hX hv1 (dtab_at okL_law_p4 100 rfl) rfl ?_
          refine l_aln (q := 1) (n := 846) hX (dtab_at okL_law_p4 101 rfl) rfl rfl ?_
          refine l_iln (q := 0) (n := 847) hX (dtab_at okL_law_p4 102 rfl) rfl rfl ?_
          refine l_ic (n := 848) hX (2 : Int32) (dtab_at okL_law_p4 103 rfl) (by decide) rfl ?_
          refine l_iadd (n := 849) hX (dtab_at okL_law_p4 104 rfl) rfl ?_
          refine l_sld (n := 850) hX hv2 (dtab_at okL_law_p4 105 rfl) rfl ?_
          refine l_aln (q := 1) (n := 851) hX (dtab_at okL_law_p4 106 rfl) rfl rfl ?_
          refine l_iln (q := 0) (n := 852) hX (dtab_at okL_law_p4 107 rfl) rfl rfl ?_
          refine l_ic (n := 853) hX (3 : Int32) (dtab_at okL_law_p4 108 rfl) (by decide) rfl ?_
          refine l_iadd (n := 854) hX (dtab_at okL_law_p4 109 rfl) rfl ?_
          refine l_sld (n := 855) hX hv3 (dtab_at okL_law_p4 110 rfl) rfl ?_
          refine l_callMi (n := 858) (is := [(xs (x3 + (1 : Int32)).toNatClampNeg), (xs (x3 + (2 : Int32)).toNatClampNeg), (xs (x3 + (3 : Int32)).toNatClampNeg)]) (rest := [vi xv]) hX (c_X10_group nF M (xs (x3 + (1 : Int32)).toNatClampNeg) (xs (x3 + (2 : Int32)).toNatClampNeg) (xs (x3 + (3 : Int32)).toNatClampNeg) (xv, M1) hm) lkM_L_94 mv_X10_group (by decide) rfl (Nat.le_of_ble_eq_true rfl) rfl (dtab_at okL_law_p4 111 rfl) rfl (fun x_ S_ hp_ => ?_)
          obtain ⟨hx_, hy_⟩ := Prod.mk.inj hp_
          have hx_ := hx_.symm
          have hy_ := hy_.symm
          subst hx_
          subst hy_
          refine l_eqT (n := 1209) hX (dtab_at okL_law_p4 112 rfl) (by decide) ?_
          exact K _ _ hI
        · refine l_tsIn (n := 863) (off := 830) hX (dtab_at okL_law_p0 21 rfl) (by rw [hts]; decide) (by rw [hts]; decide) (by rw [hts]; rfl) (by decide) ?_
          refine l_aln (q := 2) (n := 864) hX (dtab_at okL_law_p4 115 rfl) rfl rfl ?_
          refine l_aln (q := 1) (n := 865) hX (dtab_at okL_law_p4 116 rfl) rfl rfl ?_
          refine l_iln (q := 0) (n := 866) hX (dtab_at okL_law_p4 117 rfl) rfl rfl ?_
          refine l_ic (n := 867) hX (1 : Int32) (dtab_at okL_law_p4 118 rfl) (by decide) rfl ?_
          refine l_iadd (n := 868) hX (dtab_at okL_law_p4 119 rfl) rfl ?_
          refine l_sld (n := 869) hX hv1 (dtab_at okL_law_p5 0 rfl) rfl ?_
          obtain ⟨xv, S1, M1, hc, hm, hI⟩ := hs19 S M (xs (x3 + (1 : Int32)).toNatClampNeg) hInv
          refine l_callCi (n := 872) (is := [(xs (x3 + (1 : Int32)).toNatClampNeg)]) (rest := []) hX (c_X9_alone S (xs (x3 + (1 : Int32)).toNatClampNeg)) lkM_L_95 mv_X9_alone (by decide) rfl (Nat.le_of_ble_eq_true rfl) rfl (dtab_at okL_law_p5 1 rfl) rfl (fun x_ S_ hp_ => ?_)
          obtain ⟨hx_, hy_⟩ := Prod.mk.inj (hp_.trans hc)
          have hx_ := hx_.symm
          have hy_ := hy_.symm
          subst hx_
          subst hy_
          refine l_aln (q := 3) (n := 873) hX (dtab_at okL_law_p5 2 rfl) rfl rfl ?_
          refine l_aln (q := 1) (n := 874) hX (dtab_at okL_law_p5 3 rfl) rfl rfl ?_
          refine l_iln (q := 0) (n := 875) hX (dtab_at okL_law_p5 4 rfl) rfl rfl ?_
          refine l_ic (n := 876) hX (1 : Int32) (dtab_at okL_law_p5 5 rfl) (by decide) rfl ?_
          refine l_iadd (n := 877) hX (dtab_at okL_law_p5 6 rfl) rfl ?_
          refine l_sld (n := 878) hX hv1 (dtab_at okL_law_p5 7 rfl) rfl ?_
          refine l_callMi (n := 881) (is := [(xs (x3 + (1 : Int32)).toNatClampNeg)]) (rest := [vi xv]) hX (c_X10_alone M (xs (x3 + (1 : Int32)).toNatClampNeg)) lkM_L_98 mv_X10_alone (by decide) rfl (Nat.le_of_ble_eq_true rfl) rfl (dtab_at okL_law_p5 8 rfl) rfl (fun x_ S_ hp_ => ?_)
          obtain ⟨hx_, hy_⟩ := Prod.mk.inj (hp_.trans hm)
          have hx_ := hx_.symm
          have hy_ := hy_.symm
          subst hx_
          subst hy_
          refine l_eqT (n := 1209) hX (dtab_at okL_law_p5 9 rfl) (by decide) ?_
          exact K _ _ hI
        · refine l_tsIn (n := 886) (off := 853) hX (dtab_at okL_law_p0 21 rfl) (by rw [hts]; decide) (by rw [hts]; decide) (by rw [hts]; rfl) (by decide) ?_
          refine l_aln (q := 2) (n := 887) hX (dtab_at okL_law_p5 12 rfl) rfl rfl ?_
          refine l_aln (q := 1) (n := 888) hX (dtab_at okL_law_p5 13 rfl) rfl rfl ?_
          refine l_iln (q := 0) (n := 889) hX (dtab_at okL_law_p5 14 rfl) rfl rfl ?_
          refine l_ic (n := 890) hX (1 : Int32) (dtab_at okL_law_p5 15 rfl) (by decide) rfl ?_
          refine l_iadd (n := 891) hX (dtab_at okL_law_p5 16 rfl) rfl ?_
          refine l_sld (n := 892) hX hv1 (dtab_at okL_law_p5 17 rfl) rfl ?_
          obtain ⟨xv, S1, M1, hc, hm, hI⟩ := hs20 S M (xs (x3 + (1 : Int32)).toNatClampNeg) hInv
          refine l_callCi (n := 895) (is := [(xs (x3 + (1 : Int32)).toNatClampNeg)]) (rest := []) hX (c_X9_pairing nF S (xs (x3 + (1 : Int32)).toNatClampNeg) (xv, S1) hc) lkM_L_99 mv_X9_pairing (by decide) rfl (Nat.le_of_ble_eq_true rfl) rfl (dtab_at okL_law_p5 18 rfl) rfl (fun x_ S_ hp_ => ?_)
          obtain ⟨hx_, hy_⟩ := Prod.mk.inj hp_
          have hx_ := hx_.symm
          have hy_ := hy_.symm
          subst hx_
          subst hy_
          refine l_aln (q := 3) (n := 896) hX (dtab_at okL_law_p5 19 rfl) rfl rfl ?_
          refine l_aln (q := 1) (n := 897) hX (dtab_at okL_law_p5 20 rfl) rfl rfl ?_
          refine l_iln (q := 0) (n := 898) hX (dtab_at okL_law_p5 21 rfl) rfl rfl ?_
          refine l_ic (n := 899) hX (1 : Int32) (dtab_at okL_law_p5 22 rfl) (by decide) rfl ?_
          refine l_iadd (n := 900) hX (dtab_at okL_law_p5 23 rfl) rfl ?_
          refine l_sld (n := 901) hX hv1 (dtab_at okL_law_p5 24 rfl) rfl ?_
          refine l_callMi (n := 904) (is := [(xs (x3 + (1 : Int32)).toNatClampNeg)]) (rest := [vi xv]) hX (c_X10_pairing nF M (xs (x3 + (1 : Int32)).toNatClampNeg) (xv, M1) hm) lkM_L_102 mv_X10_pairing (by decide) rfl (Nat.le_of_ble_eq_true rfl) rfl (dtab_at okL_law_p5 25 rfl) rfl (fun x_ S_ hp_ => ?_)
          obtain ⟨hx_, hy_⟩ := Prod.mk.inj hp_
          have hx_ := hx_.symm
          have hy_ := hy_.symm
          subst hx_
          subst hy_
          refine l_eqT (n := 1209) hX (dtab_at okL_law_p5 26 rfl) (by decide) ?_
          exact K _ _ hI
        · refine l_tsIn (n := 909) (off := 876) hX (dtab_at okL_law_p0 21 rfl) (by rw [hts]; decide) (by rw [hts]; decide) (by rw [hts]; rfl) (by decide) ?_
          refine l_aln (q := 2) (n := 910) hX (dtab_at okL_law_p5 29 rfl) rfl rfl ?_
          refine l_aln (q := 1) (n := 911) hX (dtab_at okL_law_p5 30 rfl) rfl rfl ?_
          refine l_iln (q := 0) (n := 912) hX (dtab_at okL_law_p5 31 rfl) rfl rfl ?_
          refine l_ic (n := 913) hX (1 : Int32) (dtab_at okL_law_p5 32 rfl) (by decide) rfl ?_
          refine l_iadd (n := 914) hX (dtab_at okL_law_p5 33 rfl) rfl ?_
          refine l_sld (n := 915) hX hv1 (dtab_at okL_law_p5 34 rfl) rfl ?_
          obtain ⟨xv, S1, M1, hc, hm, hI⟩ := hs21 S M (xs (x3 + (1 : Int32)).toNatClampNeg) hInv
          refine l_callCi (n := 918) (is := [(xs (x3 + (1 : Int32)).toNatClampNeg)]) (rest := []) hX (c_X9_twin nF S (xs (x3 + (1 : Int32)).toNatClampNeg) (xv, S1) hc) lkM_L_103 mv_X9_twin (by decide) rfl (Nat.le_of_ble_eq_true rfl) rfl (dtab_at okL_law_p5 35 rfl) rfl (fun x_ S_ hp_ => ?_)
          obtain ⟨hx_, hy_⟩ := Prod.mk.inj hp_
          have hx_ := hx_.symm
          have hy_ := hy_.symm
          subst hx_
          subst hy_
          refine l_aln (q := 3) (n := 919) hX (dtab_at okL_law_p5 36 rfl) rfl rfl ?_
          refine l_aln (q := 1) (n := 920) hX (dtab_at okL_law_p5 37 rfl) rfl rfl ?_
          refine l_iln (q := 0) (n := 921) hX (dtab_at okL_law_p5 38 rfl) rfl rfl ?_
          refine l_ic (n := 922) hX (1 : Int32) (dtab_at okL_law_p5 39 rfl) (by decide) rfl ?_
          refine l_iadd (n := 923) hX (dtab_at okL_law_p5 40 rfl) rfl ?_
          refine l_sld (n := 924) hX hv1 (dtab_at okL_law_p5 41 rfl) rfl ?_
          refine l_callMi (n := 927) (is := [(xs (x3 + (1 : Int32)).toNatClampNeg)]) (rest := [vi xv]) hX (c_X10_twin nF M (xs (x3 + (1 : Int32)).toNatClampNeg) (xv, M1) hm) lkM_L_106 mv_X10_twin (by decide) rfl (Nat.le_of_ble_eq_true rfl) rfl (dtab_at okL_law_p5 42 rfl) rfl (fun x_ S_ hp_ => ?_)
          obtain ⟨hx_, hy_⟩ := Prod.mk.inj hp_
          have hx_ := hx_.symm
          have hy_ := hy_.symm
          subst hx_
          subst hy_
          refine l_eqT (n := 1209) hX (dtab_at okL_law_p5 43 rfl) (by decide) ?_
          exact K _ _ hI
        · refine l_tsIn (n := 932) (off := 899) hX (dtab_at okL_law_p0 21 rfl) (by rw [hts]; decide) (by rw [hts]; decide) (by rw [hts]; rfl) (by decide) ?_
          refine l_aln (q := 2) (n := 933) hX (dtab_at okL_law_p5 46 rfl) rfl rfl ?_
          refine l_aln (q := 1) (n := 934) hX (dtab_at okL_law_p5 47 rfl) rfl rfl ?_
          refine l_iln (q := 0) (n := 935) hX (dtab_at okL_law_p5 48 rfl) rfl rfl ?_
          refine l_ic (n := 936) hX (1 : Int32) (dtab_at okL_law_p5 49 rfl) (by decide) rfl ?_
          refine l_iadd (n := 937) hX (dtab_at okL_law_p5 50 rfl) rfl ?_
          refine l_sld (n := 938) hX hv1 (dtab_at okL_law_p5 51 rfl) rfl ?_
          refine l_aln (q := 1) (n := 939) hX (dtab_at okL_law_p5 52 rfl) rfl rfl ?_
          refine l_iln (q := 0) (n := 940) hX (dtab_at okL_law_p5 53 rfl) rfl rfl ?_
          refine l_ic (n := 941) hX (2 : Int32) (dtab_at okL_law_p5 54 rfl) (by decide) rfl ?_
          refine l_iadd (n := 942) hX (dtab_at okL_law_p5 55 rfl) rfl ?_
          refine l_sld (n := 943) hX hv2 (dtab_at okL_law_p5 56 rfl) rfl ?_
          refine l_aln (q := 1) (n := 944) hX (dtab_at okL_law_p5 57 rfl) rfl rfl ?_
          refine l_iln (q := 0) (n := 945) hX (dtab_at okL_law_p5 58 rfl) rfl rfl ?_
          refine l_ic (n := 946) hX (3 : Int32) (dtab_at okL_law_p5 59 rfl) (by decide) rfl ?_
          refine l_iadd (n := 947) hX (dtab_at okL_law_p5 60 rfl) rfl ?_
          refine l_sld (n := 948) hX hv3 (dtab_at okL_law_p5 61 rfl) rfl ?_
          obtain ⟨xv, S1, M1, hc, hm, hI⟩ := hs22 S M (xs (x3 + (1 : Int32)).toNatClampNeg) (xs (x3 + (2 : Int32)).toNatClampNeg) (xs (x3 + (3 : Int32)).toNatClampNeg) hInv
          refine l_callCi (n := 951) (is := [(xs (x3 + (1 : Int32)).toNatClampNeg), (xs (x3 + (2 : Int32)).toNatClampNeg), (xs (x3 + (3 : Int32)).toNatClampNeg)]) (rest := []) hX (c_X9_tool S (xs (x3 + (1 : Int32)).toNatClampNeg) (xs (x3 + (2 : Int32)).toNatClampNeg) (xs (x3 + (3 : Int32)).toNatClampNeg)) lkM_L_107 mv_X9_tool (by decide) rfl (Nat.le_of_ble_eq_true rfl) rfl (dtab_at okL_law_p5 62 rfl) rfl (fun x_ S_ hp_ => ?_)
          obtain ⟨hx_, hy_⟩ := Prod.mk.inj (hp_.trans hc)
          have hx_ := hx_.symm
          have hy_ := hy_.symm
          subst hx_
          subst hy_
          refine l_aln (q := 3) (n := 952) hX (dtab_at okL_law_p5 63 rfl) rfl rfl ?_
          refine l_aln (q := 1) (n := 953) hX (dtab_at okL_law_p5 64 rfl) rfl rfl ?_
          refine l_iln (q := 0) (n := 954) hX (dtab_at okL_law_p5 65 rfl) rfl rfl ?_
          refine l_ic (n := 955) hX (1 : Int32) (dtab_at okL_law_p5 66 rfl) (by decide) rfl ?_
          refine l_iadd (n := 956) hX (dtab_at okL_law_p5 67 rfl) rfl ?_
          refine l_sld (n := 957) hX hv1 (dtab_at okL_law_p5 68 rfl) rfl ?_
          refine l_aln (q := 1) (n := 958) hX (dtab_at okL_law_p5 69 rfl) rfl rfl ?_
          refine l_iln (q := 0) (n := 959) hX (dtab_at okL_law_p5 70 rfl) rfl rfl ?_
          refine l_ic (n := 960) hX (2 : Int32) (dtab_at okL_law_p5 71 rfl) (by decide) rfl ?_
          refine l_iadd (n := 961) hX (dtab_at okL_law_p5 72 rfl) rfl ?_
          refine l_sld (n := 962) hX hv2 (dtab_at okL_law_p5 73 rfl) rfl ?_
          refine l_aln (q := 1) (n := 963) hX (dtab_at okL_law_p5 74 rfl) rfl rfl ?_
          refine l_iln (q := 0) (n := 964) hX (dtab_at okL_law_p5 75 rfl) rfl rfl ?_
          refine l_ic (n := 965) hX (3 : Int32) (dtab_at okL_law_p5 76 rfl) (by decide) rfl ?_
          refine l_iadd (n := 966) hX (dtab_at okL_law_p5 77 rfl) rfl ?_
          refine l_sld (n := 967) hX hv3 (dtab_at okL_law_p5 78 rfl) rfl ?_
          refine l_callMi (n := 970) (is := [(xs (x3 + (1 : Int32)).toNatClampNeg), (xs (x3 + (2 : Int32)).toNatClampNeg), (xs (x3 + (3 : Int32)).toNatClampNeg)]) (rest := [vi xv]) hX (c_X10_tool M (xs (x3 + (1 : Int32)).toNatClampNeg) (xs (x3 + (2 : Int32)).toNatClampNeg) (xs (x3 + (3 : Int32)).toNatClampNeg)) lkM_L_110 mv_X10_tool (by decide) rfl (Nat.le_of_ble_eq_true rfl) rfl (dtab_at okL_law_p5 79 rfl) rfl (fun x_ S_ hp_ => ?_)
          obtain ⟨hx_, hy_⟩ := Prod.mk.inj (hp_.trans hm)
          have hx_ := hx_.symm
          have hy_ := hy_.symm
          subst hx_
          subst hy_
          refine l_eqT (n := 1209) hX (dtab_at okL_law_p5 80 rfl) (by decide) ?_
          exact K _ _ hI
        · refine l_tsIn (n := 975) (off := 942) hX (dtab_at okL_law_p0 21 rfl) (by rw [hts]; decide) (by rw [hts]; decide) (by rw [hts]; rfl) (by decide) ?_
          refine l_aln (q := 2) (n := 976) hX (dtab_at okL_law_p5 83 rfl) rfl rfl ?_
          refine l_aln (q := 1) (n := 977) hX (dtab_at okL_law_p5 84 rfl) rfl rfl ?_
          refine l_iln (q := 0) (n := 978) hX (dtab_at okL_law_p5 85 rfl) rfl rfl ?_
          refine l_ic (n := 979) hX (1 : Int32) (dtab_at okL_law_p5 86 rfl) (by decide) rfl ?_
          refine l_iadd (n := 980) hX (dtab_at okL_law_p5 87 rfl) rfl ?_
          refine l_sld (n := 981) hX hv1 (dtab_at okL_law_p5 88 rfl) rfl ?_
          refine l_aln (q := 1) (n := 982) hX (dtab_at okL_law_p5 89 rfl) rfl rfl ?_
          refine l_iln (q := 0) (n := 983) hX (dtab_at okL_law_p5 90 rfl) rfl rfl ?_
          refine l_ic (n := 984) hX (2 : Int32) (dtab_at okL_law_p5 91 rfl) (by decide) rfl ?_
          refine l_iadd (n := 985) hX (dtab_at okL_law_p5 92 rfl) rfl ?_
          refine l_sld (n := 986) hX hv2 (dtab_at okL_law_p5 93 rfl) rfl ?_
          obtain ⟨xv, S1, M1, hc, hm, hI⟩ := hs23 S M (xs (x3 + (1 : Int32)).toNatClampNeg) (xs (x3 + (2 : Int32)).toNatClampNeg) hInv
          refine l_callCi (n := 989) (is := [(xs (x3 + (1 : Int32)).toNatClampNeg), (xs (x3 + (2 : Int32)).toNatClampNeg)]) (rest := []) hX (c_X9_growth nF S (xs (x3 + (1 : Int32)).toNatClampNeg) (xs (x3 + (2 : Int32)).toNatClampNeg) (xv, S1) hc) lkM_L_111 mv_X9_growth (by decide) rfl (Nat.le_of_ble_eq_true rfl) rfl (dtab_at okL_law_p5 94 rfl) rfl (fun x_ S_ hp_ => ?_)
          obtain ⟨hx_, hy_⟩ := Prod.mk.inj hp_
          have hx_ := hx_.symm
          have hy_ := hy_.symm
          subst hx_
          subst hy_
          refine l_aln (q := 3) (n := 990) hX (dtab_at okL_law_p5 95 rfl) rfl rfl ?_
          refine l_aln (q := 1) (n := 991) hX (dtab_at okL_law_p5 96 rfl) rfl rfl ?_
          refine l_iln (q := 0) (n := 992) hX (dtab_at okL_law_p5 97 rfl) rfl rfl ?_
          refine l_ic (n := 993) hX (1 : Int32) (dtab_at okL_law_p5 98 rfl) (by decide) rfl ?_
          refine l_iadd (n := 994) hX (dtab_at okL_law_p5 99 rfl) rfl ?_
          refine l_sld (n := 995) hX hv1 (dtab_at okL_law_p5 100 rfl) rfl ?_
          refine l_aln (q := 1) (n := 996) hX (dtab_at okL_law_p5 101 rfl) rfl rfl ?_
          refine l_iln (q := 0) (n := 997) hX (dtab_at okL_law_p5 102 rfl) rfl rfl ?_
          refine l_ic (n := 998) hX (2 : Int32) (dtab_at okL_law_p5 103 rfl) (by decide) rfl ?_
          refine l_iadd (n := 999) hX (dtab_at okL_law_p5 104 rfl) rfl ?_
          refine l_sld (n := 1000) hX hv2 (dtab_at okL_law_p5 105 rfl) rfl ?_
          refine l_callMi (n := 1003) (is := [(xs (x3 + (1 : Int32)).toNatClampNeg), (xs (x3 + (2 : Int32)).toNatClampNeg)]) (rest := [vi xv]) hX (c_X10_growth nF M (xs (x3 + (1 : Int32)).toNatClampNeg) (xs (x3 + (2 : Int32)).toNatClampNeg) (xv, M1) hm) lkM_L_114 mv_X10_growth (by decide) rfl (Nat.le_of_ble_eq_true rfl) rfl (dtab_at okL_law_p5 106 rfl) rfl (fun x_ S_ hp_ => ?_)
          obtain ⟨hx_, hy_⟩ := Prod.mk.inj hp_
          have hx_ := hx_.symm
          have hy_ := hy_.symm
          subst hx_
          subst hy_
          refine l_eqT (n := 1209) hX (dtab_at okL_law_p5 107 rfl) (by decide) ?_
          exact K _ _ hI
        · refine l_tsIn (n := 1008) (off := 975) hX (dtab_at okL_law_p0 21 rfl) (by rw [hts]; decide) (by rw [hts]; decide) (by rw [hts]; rfl) (by decide) ?_
          refine l_aln (q := 2) (n := 1009) hX (dtab_at okL_law_p5 110 rfl) rfl rfl ?_
          refine l_aln (q := 1) (n := 1010) hX (dtab_at okL_law_p5 111 rfl) rfl rfl ?_
          refine l_iln (q := 0) (n := 1011) hX (dtab_at okL_law_p5 112 rfl) rfl rfl ?_
          refine l_ic (n := 1012) hX (1 : Int32) (dtab_at okL_law_p5 113 rfl) (by decide) rfl ?_
          refine l_iadd (n := 1013) hX (dtab_at okL_law_p5 114 rfl) rfl ?_
          refine l_sld (n := 1014) hX hv1 (dtab_at okL_law_p5 115 rfl) rfl ?_
          refine l_aln (q := 1) (n := 1015) hX (dtab_at okL_law_p5 116 rfl) rfl rfl ?_
          refine l_iln (q := 0) (n := 1016) hX (dtab_at okL_law_p5 117 rfl) rfl rfl ?_
          refine l_ic (n := 1017) hX (2 : Int32) (dtab_at okL_law_p5 118 rfl) (by decide) rfl ?_
          refine l_iadd (n := 1018) hX (dtab_at okL_law_p5 119 rfl) rfl ?_
          refine l_sld (n := 1019) hX hv2 (dtab_at okL_law_p6 0 rfl) rfl ?_
          obtain ⟨xv, S1, M1, hc, hm, hI⟩ := hs24 S M (xs (x3 + (1 : Int32)).toNatClampNeg) (xs (x3 + (2 : Int32)).toNatClampNeg) hInv
          refine l_callCi (n := 1022) (is := [(xs (x3 + (1 : Int32)).toNatClampNeg), (xs (x3 + (2 : Int32)).toNatClampNeg)]) (rest := []) hX (c_X9_work nF S (xs (x3 + (1 : Int32)).toNatClampNeg) (xs (x3 + (2 : Int32)).toNatClampNeg) (xv, S1) hc) lkM_L_115 mv_X9_work (by decide) rfl (Nat.le_of_ble_eq_true rfl) rfl (dtab_at okL_law_p6 1 rfl) rfl (fun x_ S_ hp_ => ?_)
          obtain ⟨hx_, hy_⟩ := Prod.mk.inj hp_
          have hx_ := hx_.symm
          have hy_ := hy_.symm
          subst hx_
          subst hy_
          refine l_aln (q := 3) (n := 1023) hX (dtab_at okL_law_p6 2 rfl) rfl rfl ?_
          refine l_aln (q := 1) (n := 1024) hX (dtab_at okL_law_p6 3 rfl) rfl rfl ?_
          refine l_iln (q := 0) (n := 1025) hX (dtab_at okL_law_p6 4 rfl) rfl rfl ?_
          refine l_ic (n := 1026) hX (1 : Int32) (dtab_at okL_law_p6 5 rfl) (by decide) rfl ?_
          refine l_iadd (n := 1027) hX (dtab_at okL_law_p6 6 rfl) rfl ?_
          refine l_sld (n := 1028) hX hv1 (dtab_at okL_law_p6 7 rfl) rfl ?_
          refine l_aln (q := 1) (n := 1029) hX (dtab_at okL_law_p6 8 rfl) rfl rfl ?_
          refine l_iln (q := 0) (n := 1030) hX (dtab_at okL_law_p6 9 rfl) rfl rfl ?_
          refine l_ic (n := 1031) hX (2 : Int32) (dtab_at okL_law_p6 10 rfl) (by decide) rfl ?_
          refine l_iadd (n := 1032) hX (dtab_at okL_law_p6 11 rfl) rfl ?_
          refine l_sld (n := 1033) hX hv2 (dtab_at okL_law_p6 12 rfl) rfl ?_
          refine l_callMi (n := 1036) (is := [(xs (x3 + (1 : Int32)).toNatClampNeg), (xs (x3 + (2 : Int32)).toNatClampNeg)]) (rest := [vi xv]) hX (c_X10_work nF M (xs (x3 + (1 : Int32)).toNatClampNeg) (xs (x3 + (2 : Int32)).toNatClampNeg) (xv, M1) hm) lkM_L_118 mv_X10_work (by decide) rfl (Nat.le_of_ble_eq_true rfl) rfl (dtab_at okL_law_p6 13 rfl) rfl (fun x_ S_ hp_ => ?_)
          obtain ⟨hx_, hy_⟩ := Prod.mk.inj hp_
          have hx_ := hx_.symm
          have hy_ := hy_.symm
          subst hx_
          subst hy_
          refine l_eqT (n := 1209) hX (dtab_at okL_law_p6 14 rfl) (by decide) ?_
          exact K _ _ hI
        · refine l_tsIn (n := 1041) (off := 1008) hX (dtab_at okL_law_p0 21 rfl) (by rw [hts]; decide) (by rw [hts]; decide) (by rw [hts]; rfl) (by decide) ?_
          refine l_aln (q := 2) (n := 1042) hX (dtab_at okL_law_p6 17 rfl) rfl rfl ?_
          refine l_aln (q := 1) (n := 1043) hX (dtab_at okL_law_p6 18 rfl) rfl rfl ?_
          refine l_iln (q := 0) (n := 1044) hX (dtab_at okL_law_p6 19 rfl) rfl rfl ?_
          refine l_ic (n := 1045) hX (1 : Int32) (dtab_at okL_law_p6 20 rfl) (by decide) rfl ?_
          refine l_iadd (n := 1046) hX (dtab_at okL_law_p6 21 rfl) rfl ?_
          refine l_sld (n := 1047) hX hv1 (dtab_at okL_law_p6 22 rfl) rfl ?_
          refine l_aln (q := 1) (n := 1048) hX (dtab_at okL_law_p6 23 rfl) rfl rfl ?_
          refine l_iln (q := 0) (n := 1049) hX (dtab_at okL_law_p6 24 rfl) rfl rfl ?_
          refine l_ic (n := 1050) hX (2 : Int32) (dtab_at okL_law_p6 25 rfl) (by decide) rfl ?_
          refine l_iadd (n := 1051) hX (dtab_at okL_law_p6 26 rfl) rfl ?_
          refine l_sld (n := 1052) hX hv2 (dtab_at okL_law_p6 27 rfl) rfl ?_
          obtain ⟨xv, S1, M1, hc, hm, hI⟩ := hs25 S M (xs (x3 + (1 : Int32)).toNatClampNeg) (xs (x3 + (2 : Int32)).toNatClampNeg) hInv
          refine l_callCi (n := 1055) (is := [(xs (x3 + (1 : Int32)).toNatClampNeg), (xs (x3 + (2 : Int32)).toNatClampNeg)]) (rest := []) hX (c_X9_yearly S (xs (x3 + (1 : Int32)).toNatClampNeg) (xs (x3 + (2 : Int32)).toNatClampNeg)) lkM_L_119 mv_X9_yearly (by decide) rfl (Nat.le_of_ble_eq_true rfl) rfl (dtab_at okL_law_p6 28 rfl) rfl (fun x_ S_ hp_ => ?_)
          obtain ⟨hx_, hy_⟩ := Prod.mk.inj (hp_.trans hc)
          have hx_ := hx_.symm
          have hy_ := hy_.symm
          subst hx_
          subst hy_
          refine l_aln (q := 3) (n := 1056) hX (dtab_at okL_law_p6 29 rfl) rfl rfl ?_
          refine l_aln (q := 1) (n := 1057) hX (dtab_at okL_law_p6 30 rfl) rfl rfl ?_
          refine l_iln (q := 0) (n := 1058) hX (dtab_at okL_law_p6 31 rfl) rfl rfl ?_
          refine l_ic (n := 1059) hX (1 : Int32) (dtab_at okL_law_p6 32 rfl) (by decide) rfl ?_
          refine l_iadd (n := 1060) hX (dtab_at okL_law_p6 33 rfl) rfl ?_
          refine l_sld (n := 1061) hX hv1 (dtab_at okL_law_p6 34 rfl) rfl ?_
          refine l_aln (q := 1) (n := 1062) hX (dtab_at okL_law_p6 35 rfl) rfl rfl ?_
          refine l_iln (q := 0) (n := 1063) hX (dtab_at okL_law_p6 36 rfl) rfl rfl ?_
          refine l_ic (n := 1064) hX (2 : Int32) (dtab_at okL_law_p6 37 rfl) (by decide) rfl ?_
          refine l_iadd (n := 1065) hX (dtab_at okL_law_p6 38 rfl) rfl ?_
          refine l_sld (n := 1066) hX hv2 (dtab_at okL_law_p6 39 rfl) rfl ?_
          refine l_callMi (n := 1069) (is := [(xs (x3 + (1 : Int32)).toNatClampNeg), (xs (x3 + (2 : Int32)).toNatClampNeg)]) (rest := [vi xv]) hX (c_X10_yearly M (xs (x3 + (1 : Int32)).toNatClampNeg) (xs (x3 + (2 : Int32)).toNatClampNeg)) lkM_L_122 mv_X10_yearly (by decide) rfl (Nat.le_of_ble_eq_true rfl) rfl (dtab_at okL_law_p6 40 rfl) rfl (fun x_ S_ hp_ => ?_)
          obtain ⟨hx_, hy_⟩ := Prod.mk.inj (hp_.trans hm)
          have hx_ := hx_.symm
          have hy_ := hy_.symm
          subst hx_
          subst hy_
          refine l_eqT (n := 1209) hX (dtab_at okL_law_p6 41 rfl) (by decide) ?_
          exact K _ _ hI
        · refine l_tsIn (n := 1074) (off := 1041) hX (dtab_at okL_law_p0 21 rfl) (by rw [hts]; decide) (by rw [hts]; decide) (by rw [hts]; rfl) (by decide) ?_
          refine l_aln (q := 2) (n := 1075) hX (dtab_at okL_law_p6 44 rfl) rfl rfl ?_
          obtain ⟨xv, S1, M1, hc, hm, hI⟩ := hs26 S M hInv
          refine l_callCi (n := 1078) (is := []) (rest := []) hX (c_X9_plan nF S xv hc.1) lkM_L_123 mv_X9_plan (by decide) rfl (Nat.le_of_ble_eq_true rfl) rfl (dtab_at okL_law_p6 45 rfl) rfl (fun x_ S_ hp_ => ?_)
          obtain ⟨hx_, hy_⟩ := hp_
          have hx_ := hx_.symm
          subst hx_
          have hy_ : S_ = S1 := hy_.trans hc.2.symm
          have hy_ := hy_.symm
          subst hy_
          refine l_aln (q := 3) (n := 1079) hX (dtab_at okL_law_p6 46 rfl) rfl rfl ?_
          refine l_callMi (n := 1082) (is := []) (rest := [vi xv]) hX (c_X10_plan nF M xv hm.1) lkM_L_126 mv_X10_plan (by decide) rfl (Nat.le_of_ble_eq_true rfl) rfl (dtab_at okL_law_p6 47 rfl) rfl (fun x_ S_ hp_ => ?_)
          obtain ⟨hx_, hy_⟩ := hp_
          have hx_ := hx_.symm
          subst hx_
          have hy_ : S_ = M1 := hy_.trans hm.2.symm
          have hy_ := hy_.symm
          subst hy_
          refine l_eqT (n := 1209) hX (dtab_at okL_law_p6 48 rfl) (by decide) ?_
          exact K _ _ hI
        · refine l_tsIn (n := 1087) (off := 1054) hX (dtab_at okL_law_p0 21 rfl) (by rw [hts]; decide) (by rw [hts]; decide) (by rw [hts]; rfl) (by decide) ?_
          refine l_aln (q := 2) (n := 1088) hX (dtab_at okL_law_p6 51 rfl) rfl rfl ?_
          obtain ⟨xv, S1, M1, hc, hm, hI⟩ := hs27 S M hInv
          refine l_callCi (n := 1091) (is := []) (rest := []) hX (c_X9_years nF S xv hc.1) lkM_L_127 mv_X9_years (by decide) rfl (Nat.le_of_ble_eq_true rfl) rfl (dtab_at okL_law_p6 52 rfl) rfl (fun x_ S_ hp_ => ?_)
          obtain ⟨hx_, hy_⟩ := hp_
          have hx_ := hx_.symm
          subst hx_
          have hy_ : S_ = S1 := hy_.trans hc.2.symm
          have hy_ := hy_.symm
          subst hy_
          refine l_aln (q := 3) (n := 1092) hX (dtab_at okL_law_p6 53 rfl) rfl rfl ?_
          refine l_callMi (n := 1095) (is := []) (rest := [vi xv]) hX (c_X10_years nF M xv hm.1) lkM_L_130 mv_X10_years (by decide) rfl (Nat.le_of_ble_eq_true rfl) rfl (dtab_at okL_law_p6 54 rfl) rfl (fun x_ S_ hp_ => ?_)
          obtain ⟨hx_, hy_⟩ := hp_
          have hx_ := hx_.symm
          subst hx_
          have hy_ : S_ = M1 := hy_.trans hm.2.symm
          have hy_ := hy_.symm
          subst hy_
          refine l_eqT (n := 1209) hX (dtab_at okL_law_p6 55 rfl) (by decide) ?_
          exact K _ _ hI
        · refine l_tsIn (n := 1100) (off := 1067) hX (dtab_at okL_law_p0 21 rfl) (by rw [hts]; decide) (by rw [hts]; decide) (by rw [hts]; rfl) (by decide) ?_
          refine l_aln (q := 2) (n := 1101) hX (dtab_at okL_law_p6 58 rfl) rfl rfl ?_
          refine l_aln (q := 1) (n := 1102) hX (dtab_at okL_law_p6 59 rfl) rfl rfl ?_
          refine l_iln (q := 0) (n := 1103) hX (dtab_at okL_law_p6 60 rfl) rfl rfl ?_
          refine l_ic (n := 1104) hX (1 : Int32) (dtab_at okL_law_p6 61 rfl) (by decide) rfl ?_
          refine l_iadd (n := 1105) hX (dtab_at okL_law_p6 62 rfl) rfl ?_
          refine l_sld (n := 1106) hX hv1 (dtab_at okL_law_p6 63 rfl) rfl ?_
          obtain ⟨xv, S1, M1, hc, hm, hI⟩ := hs28 S M (xs (x3 + (1 : Int32)).toNatClampNeg) hInv
          refine l_callCi (n := 1109) (is := [(xs (x3 + (1 : Int32)).toNatClampNeg)]) (rest := []) hX (c_X9_when nF S (xs (x3 + (1 : Int32)).toNatClampNeg) xv hc.1) lkM_L_131 mv_X9_when (by decide) rfl (Nat.le_of_ble_eq_true rfl) rfl (dtab_at okL_law_p6 64 rfl) rfl (fun x_ S_ hp_ => ?_)
          obtain ⟨hx_, hy_⟩ := hp_
          have hx_ := hx_.symm
          subst hx_
          have hy_ : S_ = S1 := hy_.trans hc.2.symm
          have hy_ := hy_.symm
          subst hy_
          refine l_aln (q := 3) (n := 1110) hX (dtab_at okL_law_p6 65 rfl) rfl rfl ?_
          refine l_aln (q := 1) (n := 1111) hX (dtab_at okL_law_p6 66 rfl) rfl rfl ?_
          refine l_iln (q := 0) (n := 1112) hX (dtab_at okL_law_p6 67 rfl) rfl rfl ?_
          refine l_ic (n := 1113) hX (1 : Int32) (dtab_at okL_law_p6 68 rfl) (by decide) rfl ?_
          refine l_iadd (n := 1114) hX (dtab_at okL_law_p6 69 rfl) rfl ?_
          refine l_sld (n := 1115) hX hv1 (dtab_at okL_law_p6 70 rfl) rfl ?_
          refine l_callMi (n := 1118) (is := [(xs (x3 + (1 : Int32)).toNatClampNeg)]) (rest := [vi xv]) hX (c_X10_when nF M (xs (x3 + (1 : Int32)).toNatClampNeg) xv hm.1) lkM_L_134 mv_X10_when (by decide) rfl (Nat.le_of_ble_eq_true rfl) rfl (dtab_at okL_law_p6 71 rfl) rfl (fun x_ S_ hp_ => ?_)
          obtain ⟨hx_, hy_⟩ := hp_
          have hx_ := hx_.symm
          subst hx_
          have hy_ : S_ = M1 := hy_.trans hm.2.symm
          have hy_ := hy_.symm
          subst hy_
          refine l_eqT (n := 1209) hX (dtab_at okL_law_p6 72 rfl) (by decide) ?_
          exact K _ _ hI
        · refine l_tsIn (n := 1123) (off := 1090) hX (dtab_at okL_law_p0 21 rfl) (by rw [hts]; decide) (by rw [hts]; decide) (by rw [hts]; rfl) (by decide) ?_
          refine l_aln (q := 2) (n := 1124) hX (dtab_at okL_law_p6 75 rfl) rfl rfl ?_
          refine l_aln (q := 1) (n := 1125) hX (dtab_at okL_law_p6 76 rfl) rfl rfl ?_
          refine l_iln (q := 0) (n := 1126) hX (dtab_at okL_law_p6 77 rfl) rfl rfl ?_
          refine l_ic (n := 1127) hX (1 : Int32) (dtab_at okL_law_p6 78 rfl) (by decide) rfl ?_
          refine l_iadd (n := 1128) hX (dtab_at okL_law_p6 79 rfl) rfl ?_
          refine l_sld (n := 1129) hX hv1 (dtab_at okL_law_p6 80 rfl) rfl ?_
          refine l_aln (q := 1) (n := 1130) hX (dtab_at okL_law_p6 81 rfl) rfl rfl ?_
          refine l_iln (q := 0) (n := 1131) hX (dtab_at okL_law_p6 82 rfl) rfl rfl ?_
          refine l_ic (n := 1132) hX (2 : Int32) (dtab_at okL_law_p6 83 rfl) (by decide) rfl ?_
          refine l_iadd (n := 1133) hX (dtab_at okL_law_p6 84 rfl) rfl ?_
          refine l_sld (n := 1134) hX hv2 (dtab_at okL_law_p6 85 rfl) rfl ?_
          refine l_if_eq (n := 1141) (n2 := 1137) hX (dtab_at okL_law_p6 86 rfl) (by decide) rfl (fun hz1134 => ?_) (fun hz1134 => ?_)
          · skip
            have hzz := hz1134
            refine l_ic (n := 1142) hX (0 : Int32) (dtab_at okL_law_p6 89 rfl) (by decide) rfl ?_
            obtain ⟨xv, S1, M1, hc, hm, hI⟩ := hs29 S M (xs (x3 + (1 : Int32)).toNatClampNeg) (0 : Int32) (Or.inl rfl) hInv
            refine l_callCi (n := 1145) (is := [(xs (x3 + (1 : Int32)).toNatClampNeg), (0 : Int32)]) (rest := []) hX (c_X9_trap S (xs (x3 + (1 : Int32)).toNatClampNeg) (0 : Int32)) lkM_L_135 mv_X9_trap (by decide) rfl (Nat.le_of_ble_eq_true rfl) rfl (dtab_at okL_law_p6 90 rfl) rfl (fun x_ S_ hp_ => ?_)
            obtain ⟨hx_, hy_⟩ := Prod.mk.inj (hp_.trans hc)
            have hx_ := hx_.symm
            have hy_ := hy_.symm
            subst hx_
            subst hy_
            refine l_aln (q := 3) (n := 1146) hX (dtab_at okL_law_p6 91 rfl) rfl rfl ?_
            refine l_aln (q := 1) (n := 1147) hX (dtab_at okL_law_p6 92 rfl) rfl rfl ?_
            refine l_iln (q := 0) (n := 1148) hX (dtab_at okL_law_p6 93 rfl) rfl rfl ?_
            refine l_ic (n := 1149) hX (1 : Int32) (dtab_at okL_law_p6 94 rfl) (by decide) rfl ?_
            refine l_iadd (n := 1150) hX (dtab_at okL_law_p6 95 rfl) rfl ?_
            refine l_sld (n := 1151) hX hv1 (dtab_at okL_law_p6 96 rfl) rfl ?_
            refine l_aln (q := 1) (n := 1152) hX (dtab_at okL_law_p6 97 rfl) rfl rfl ?_
            refine l_iln (q := 0) (n := 1153) hX (dtab_at okL_law_p6 98 rfl) rfl rfl ?_
            refine l_ic (n := 1154) hX (2 : Int32) (dtab_at okL_law_p6 99 rfl) (by decide) rfl ?_
            refine l_iadd (n := 1155) hX (dtab_at okL_law_p6 100 rfl) rfl ?_
            refine l_sld (n := 1156) hX hv2 (dtab_at okL_law_p6 101 rfl) rfl ?_
            refine l_if_eq (n := 1163) (n2 := 1159) hX (dtab_at okL_law_p6 102 rfl) (by decide) rfl (fun hz1156 => ?_) (fun hz1156 => ?_)
            · skip
              refine l_ic (n := 1164) hX (0 : Int32) (dtab_at okL_law_p6 105 rfl) (by decide) rfl ?_
              refine l_callMi (n := 1167) (is := [(xs (x3 + (1 : Int32)).toNatClampNeg), (0 : Int32)]) (rest := [vi xv]) hX (c_X10_trap nF M (xs (x3 + (1 : Int32)).toNatClampNeg) (0 : Int32) (xv, M1) hm) lkM_L_139 mv_X10_trap (by decide) rfl (Nat.le_of_ble_eq_true rfl) rfl (dtab_at okL_law_p6 106 rfl) rfl (fun x_ S_ hp_ => ?_)
              obtain ⟨hx_, hy_⟩ := Prod.mk.inj hp_
              have hx_ := hx_.symm
              have hy_ := hy_.symm
              subst hx_
              subst hy_
              refine l_eqT (n := 1209) hX (dtab_at okL_law_p6 107 rfl) (by decide) ?_
              exact K _ _ hI
            · skip
              exact absurd hzz hz1156
          · skip
            have hzz := hz1134
            refine l_ic (n := 1138) hX (1 : Int32) (dtab_at okL_law_p6 87 rfl) (by decide) rfl ?_
            refine l_goto (n := 1142) hX (dtab_at okL_law_p6 88 rfl) (by decide) ?_
            obtain ⟨xv, S1, M1, hc, hm, hI⟩ := hs29 S M (xs (x3 + (1 : Int32)).toNatClampNeg) (1 : Int32) (Or.inr rfl) hInv
            refine l_callCi (n := 1145) (is := [(xs (x3 + (1 : Int32)).toNatClampNeg), (1 : Int32)]) (rest := []) hX (c_X9_trap S (xs (x3 + (1 : Int32)).toNatClampNeg) (1 : Int32)) lkM_L_135 mv_X9_trap (by decide) rfl (Nat.le_of_ble_eq_true rfl) rfl (dtab_at okL_law_p6 90 rfl) rfl (fun x_ S_ hp_ => ?_)
            obtain ⟨hx_, hy_⟩ := Prod.mk.inj (hp_.trans hc)
            have hx_ := hx_.symm
            have hy_ := hy_.symm
            subst hx_
            subst hy_
            refine l_aln (q := 3) (n := 1146) hX (dtab_at okL_law_p6 91 rfl) rfl rfl ?_
            refine l_aln (q := 1) (n := 1147) hX (dtab_at okL_law_p6 92 rfl) rfl rfl ?_
            refine l_iln (q := 0) (n := 1148) hX (dtab_at okL_law_p6 93 rfl) rfl rfl ?_
            refine l_ic (n := 1149) hX (1 : Int32) (dtab_at okL_law_p6 94 rfl) (by decide) rfl ?_
            refine l_iadd (n := 1150) hX (dtab_at okL_law_p6 95 rfl) rfl ?_
            refine l_sld (n := 1151) hX hv1 (dtab_at okL_law_p6 96 rfl) rfl ?_
            refine l_aln (q := 1) (n := 1152) hX (dtab_at okL_law_p6 97 rfl) rfl rfl ?_
            refine l_iln (q := 0) (n := 1153) hX (dtab_at okL_law_p6 98 rfl) rfl rfl ?_
            refine l_ic (n := 1154) hX (2 : Int32) (dtab_at okL_law_p6 99 rfl) (by decide) rfl ?_
            refine l_iadd (n := 1155) hX (dtab_at okL_law_p6 100 rfl) rfl ?_
            refine l_sld (n := 1156) hX hv2 (dtab_at okL_law_p6 101 rfl) rfl ?_
            refine l_if_eq (n := 1163) (n2 := 1159) hX (dtab_at okL_law_p6 102 rfl) (by decide) rfl (fun hz1156 => ?_) (fun hz1156 => ?_)
            · skip
              exact absurd hz1156 hzz
            · skip
              refine l_ic (n := 1160) hX (1 : Int32) (dtab_at okL_law_p6 103 rfl) (by decide) rfl ?_
              refine l_goto (n := 1164) hX (dtab_at okL_law_p6 104 rfl) (by decide) ?_
              refine l_callMi (n := 1167) (is := [(xs (x3 + (1 : Int32)).toNatClampNeg), (1 : Int32)]) (rest := [vi xv]) hX (c_X10_trap nF M (xs (x3 + (1 : Int32)).toNatClampNeg) (1 : Int32) (xv, M1) hm) lkM_L_139 mv_X10_trap (by decide) rfl (Nat.le_of_ble_eq_true rfl) rfl (dtab_at okL_law_p6 106 rfl) rfl (fun x_ S_ hp_ => ?_)
              obtain ⟨hx_, hy_⟩ := Prod.mk.inj hp_
              have hx_ := hx_.symm
              have hy_ := hy_.symm
              subst hx_
              subst hy_
              refine l_eqT (n := 1209) hX (dtab_at okL_law_p6 107 rfl) (by decide) ?_
              exact K _ _ hI
        · refine l_tsIn (n := 1172) (off := 1139) hX (dtab_at okL_law_p0 21 rfl) (by rw [hts]; decide) (by rw [hts]; decide) (by rw [hts]; rfl) (by decide) ?_
          refine l_aln (q := 2) (n := 1173) hX (dtab_at okL_law_p6 110 rfl) rfl rfl ?_
          refine l_aln (q := 1) (n := 1174) hX (dtab_at okL_law_p6 111 rfl) rfl rfl ?_
          refine l_iln (q := 0) (n := 1175) hX (dtab_at okL_law_p6 112 rfl) rfl rfl ?_
          refine l_ic (n := 1176) hX (1 : Int32) (dtab_at okL_law_p6 113 rfl) (by decide) rfl ?_
          refine l_iadd (n := 1177) hX (dtab_at okL_law_p6 114 rfl) rfl ?_
          refine l_sld (n := 1178) hX hv1 (dtab_at okL_law_p6 115 rfl) rfl ?_
          obtain ⟨xv, S1, M1, hc, hm, hI⟩ := hs30 S M (xs (x3 + (1 : Int32)).toNatClampNeg) hInv
          refine l_callCi (n := 1181) (is := [(xs (x3 + (1 : Int32)).toNatClampNeg)]) (rest := []) hX (c_X9_count S (xs (x3 + (1 : Int32)).toNatClampNeg)) lkM_L_140 mv_X9_count (by decide) rfl (Nat.le_of_ble_eq_true rfl) rfl (dtab_at okL_law_p6 116 rfl) rfl (fun x_ S_ hp_ => ?_)
          obtain ⟨hx_, hy_⟩ := hp_
          have hx_ : x_ = xv := hx_.trans hc.1
          have hx_ := hx_.symm
          subst hx_
          have hy_ : S_ = S1 := hy_.trans hc.2.symm
          have hy_ := hy_.symm
          subst hy_
          refine l_aln (q := 3) (n := 1182) hX (dtab_at okL_law_p6 117 rfl) rfl rfl ?_
          refine l_aln (q := 1) (n := 1183) hX (dtab_at okL_law_p6 118 rfl) rfl rfl ?_
          refine l_iln (q := 0) (n := 1184) hX (dtab_at okL_law_p6 119 rfl) rfl rfl ?_
          refine l_ic (n := 1185) hX (1 : Int32) (dtab_at okL_law_p7 0 rfl) (by decide) rfl ?_
          refine l_iadd (n := 1186) hX (dtab_at okL_law_p7 1 rfl) rfl ?_
          refine l_sld (n := 1187) hX hv1 (dtab_at okL_law_p7 2 rfl) rfl ?_
          refine l_callMi (n := 1190) (is := [(xs (x3 + (1 : Int32)).toNatClampNeg)]) (rest := [vi xv]) hX (c_X10_count nF M (xs (x3 + (1 : Int32)).toNatClampNeg) xv hm.1) lkM_L_143 mv_X10_count (by decide) rfl (Nat.le_of_ble_eq_true rfl) rfl (dtab_at okL_law_p7 3 rfl) rfl (fun x_ S_ hp_ => ?_)
          obtain ⟨hx_, hy_⟩ := hp_
          have hx_ := hx_.symm
          subst hx_
          have hy_ : S_ = M1 := hy_.trans hm.2.symm
          have hy_ := hy_.symm
          subst hy_
          refine l_eqT (n := 1209) hX (dtab_at okL_law_p7 4 rfl) (by decide) ?_
          exact K _ _ hI
        · refine l_tsIn (n := 1195) (off := 1162) hX (dtab_at okL_law_p0 21 rfl) (by rw [hts]; decide) (by rw [hts]; decide) (by rw [hts]; rfl) (by decide) ?_
          refine l_aln (q := 2) (n := 1196) hX (dtab_at okL_law_p7 7 rfl) rfl rfl ?_
          obtain ⟨xv, S1, M1, hc, hm, hI⟩ := hs31 S M hInv
          refine l_callCl (n := 1199) (is := []) (rest := []) hX (c_X9_digest nF S (xv, S1) hc) lkM_L_144 mv_X9_digest (by decide) rfl (Nat.le_of_ble_eq_true rfl) rfl (dtab_at okL_law_p7 8 rfl) rfl (fun x_ S_ hp_ => ?_)
          obtain ⟨hx_, hy_⟩ := Prod.mk.inj hp_
          have hx_ := hx_.symm
          have hy_ := hy_.symm
          subst hx_
          subst hy_
          refine l_aln (q := 3) (n := 1200) hX (dtab_at okL_law_p7 9 rfl) rfl rfl ?_
          refine l_callMl (n := 1203) (is := []) (rest := [vl xv]) hX (c_X10_digest nF M (xv, M1) hm) lkM_L_148 mv_X10_digest (by decide) rfl (Nat.le_of_ble_eq_true rfl) rfl (dtab_at okL_law_p7 10 rfl) rfl (fun x_ S_ hp_ => ?_)
          obtain ⟨hx_, hy_⟩ := Prod.mk.inj hp_
          have hx_ := hx_.symm
          have hy_ := hy_.symm
          subst hx_
          subst hy_
          refine l_lcmp (n := 1204) hX (dtab_at okL_law_p7 11 rfl) rfl ?_
          refine l_if_eq (n := 1209) (n2 := 1207) hX (dtab_at okL_law_p7 12 rfl) (by decide) rfl (fun hz1204 => ?_) (fun hz1204 => ?_)
          · skip
            exact K _ _ hI
          · exact absurd (lg_cmp_self _) hz1204
end LW
