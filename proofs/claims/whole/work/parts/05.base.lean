
/-! the static pool: ids instead of addresses; a state is int fields by id and place, rows by id and index -/
abbrev PS : Type := (Nat → Nat → Int32) × (Nat → Nat → Int32)
/-- number of cells, kind of an id (a class below 20; 20 and n: a row of n booleans; 100 and n: a row of n ints), target of a reference field -/
abbrev GG : Type := Nat × (Nat → Nat) × (Nat → Nat → Nat)
abbrev AV : Type := (Int32 ⊕ Int64) ⊕ Option (Nat × Nat)
abbrev vi (x : Int32) : AV := .inl (.inl x)
abbrev vl (x : Int64) : AV := .inl (.inr x)
abbrev vr (k j : Nat) : AV := .inr (some (k, j))
abbrev vn : AV := .inr none
def cv (ad : Nat → Nat) (v : AV) : Value := match v with
  | .inl (.inl x) => .int x
  | .inl (.inr x) => .long x
  | .inr none => .null
  | .inr (some q) => .ref (ad q.2)
def cq (ad : Nat → Nat) (q : Nat × AV) : Nat × Value := (q.1, cv ad q.2)
def rk (k i : Nat) : Option Nat := match k, i with
  | 0, 0 => some 140
  | 0, 1 => some 2601
  | 1, 0 => some 130
  | 1, 1 => some 109
  | 2, 0 => some 105
  | 2, 1 => some 105
  | 2, 2 => some 105
  | 3, 0 => some 140
  | 3, 1 => some 140
  | 3, 2 => some 140
  | 3, 3 => some 140
  | 3, 4 => some 140
  | 3, 5 => some 140
  | 4, 0 => some 2
  | 4, 1 => some 2
  | 4, 2 => some 292
  | 5, 0 => some 250
  | 6, 0 => some 5
  | 6, 1 => some 5
  | 6, 2 => some 5
  | 6, 3 => some 5
  | 6, 4 => some 3
  | 6, 5 => some 250
  | 6, 6 => some 160
  | 6, 7 => some 160
  | 6, 8 => some 140
  | 9, 0 => some 6
  | 9, 1 => some 6
  | 9, 2 => some 0
  | 9, 3 => some 4
  | 9, 4 => some 7
  | 9, 5 => some 1
  | 9, 6 => some 8
  | 10, 0 => some 28
  | 10, 1 => some 108
  | 10, 2 => some 108
  | 10, 3 => some 1300
  | 10, 4 => some 250
  | 10, 8 => some 250
  | 10, 10 => some 160
  | 10, 11 => some 160
  | 10, 13 => some 140
  | 10, 16 => some 2601
  | 10, 17 => some 140
  | 10, 18 => some 102
  | 10, 19 => some 180
  | 10, 20 => some 180
  | 10, 21 => some 180
  | 10, 22 => some 180
  | 10, 25 => some 140
  | 10, 28 => some 102
  | 10, 29 => some 110
  | 10, 30 => some 110
  | 10, 31 => some 105
  | 10, 32 => some 105
  | 10, 37 => some 130
  | 10, 38 => some 130
  | 10, 41 => some 24
  | _, _ => none
def nfk (k : Nat) : Nat := match k with
  | 0 => 5
  | 1 => 6
  | 2 => 4
  | 3 => 8
  | 4 => 4
  | 5 => 3
  | 6 => 12
  | 7 => 3
  | 8 => 2
  | 9 => 10
  | 10 => 43
  | _ => 0
def pval (G : GG) (ad : Nat → Nat) (S : PS) (j i : Nat) : Value := match rk (G.2.1 j) i with
  | some _ => .ref (ad (G.2.2 j i))
  | none => .int (S.1 j i)
def pcell (cy : ClassId × ClassId) (G : GG) (ad : Nat → Nat) (S : PS) (j : Nat) : va_E :=
  if 100 ≤ G.2.1 j then .inl (cy.1, G.2.1 j - 100, .inl (S.2 j)) else if 20 ≤ G.2.1 j then .inl (cy.2, G.2.1 j - 20, .inl (S.2 j)) else .inr (G.2.1 j, (List.range (nfk (G.2.1 j))).map (pval G ad S j))
def pool (cy : ClassId × ClassId) (G : GG) (ad : Nat → Nat) (S : PS) : va_W := (List.range G.1).map (fun j => (ad j, pcell cy G ad S j))
def up2 (f : Nat → Nat → Int32) (j i : Nat) (v : Int32) : Nat → Nat → Int32 := fun a b => if a = j ∧ b = i then v else f a b
def sti (S : PS) (j i : Nat) (v : Int32) : PS := (up2 S.1 j i v, S.2)
def sta (S : PS) (j i : Nat) (v : Int32) : PS := (S.1, up2 S.2 j i v)
def str (S : PS) (j : Nat) (f : Nat → Int32) : PS := (S.1, fun a => if a = j then f else S.2 a)
def wk (G : GG) (v : AV) : Prop := match v with
  | .inr (some q) => G.2.1 q.2 = q.1 ∧ q.2 < G.1
  | _ => True
/-- the graph keeps to the fields' kinds -/
def GOK (G : GG) : Prop := ∀ j, j < G.1 → ∀ i k, rk (G.2.1 j) i = some k → G.2.1 (G.2.2 j i) = k ∧ G.2.2 j i < G.1
theorem pool_at {cy : ClassId × ClassId} {G : GG} {ad : Nat → Nat} {S : PS} {j : Nat} (hj : j < G.1) : (pool cy G ad S)[j]? = some (ad j, pcell cy G ad S j) := by
  simp [pool, hj]
theorem pool_len {cy : ClassId × ClassId} {G : GG} {ad : Nat → Nat} {S : PS} : (pool cy G ad S).length = G.1 := by simp [pool]
theorem pool_set {cy : ClassId × ClassId} {G : GG} {ad : Nat → Nat} {S S2 : PS} {j : Nat} {e : va_E} (he : e = pcell cy G ad S2 j) (ho : ∀ i, i ≠ j → pcell cy G ad S2 i = pcell cy G ad S i) : (pool cy G ad S).set j (ad j, e) = pool cy G ad S2 := by
  apply List.ext_getElem?
  intro i
  rw [List.getElem?_set]
  by_cases hi : i < G.1
  · rw [pool_at hi, pool_at hi]
    by_cases hij : j = i
    · subst hij
      simp [pool_len, hi, he]
    · rw [if_neg hij, ho i (fun h => hij h.symm)]
  · have h1 : (pool cy G ad S)[i]? = none := List.getElem?_eq_none (by rw [pool_len]; omega)
    have h2 : (pool cy G ad S2)[i]? = none := List.getElem?_eq_none (by rw [pool_len]; omega)
    rw [h1, h2, pool_len]
    by_cases hij : j = i
    · subst hij
      simp [hi]
    · rw [if_neg hij]
theorem up2_ne {f : Nat → Nat → Int32} {j i : Nat} {v : Int32} {a : Nat} (h : a ≠ j) : up2 f j i v a = f a := by funext b; simp [up2, h]
theorem up2_row {f : Nat → Nat → Int32} {j i : Nat} {v : Int32} : up2 f j i v j = upd (f j) i v := by funext b; simp [up2, upd]
theorem pool_sti {cy : ClassId × ClassId} {G : GG} {ad : Nat → Nat} {S : PS} {j k i : Nat} {v : Int32} (hk : G.2.1 j = k) (h1 : ¬ 100 ≤ k) (h2 : ¬ 20 ≤ k) (hr : rk k i = none) : (pool cy G ad S).set j (ad j, .inr (k, ((List.range (nfk k)).map (pval G ad S j)).set i (.int v))) = pool cy G ad (sti S j i v) := by
  subst hk
  apply pool_set
  · simp only [pcell, if_neg h1, if_neg h2]
    congr 2
    apply List.ext_getElem?
    intro a
    rw [List.getElem?_set]
    by_cases ha : a < nfk (G.2.1 j)
    · by_cases hia : i = a
      · subst hia
        simp [ha, pval, hr, sti, up2]
      · have : ¬ a = i := fun h => hia h.symm
        simp [ha, hia, pval, sti, up2, this]
    · simp [ha]
      omega
  · intro a ha
    have hp : pval G ad (sti S j i v) a = pval G ad S a := by
      funext b
      simp only [pval, sti, up2_ne ha]
    simp only [pcell, hp]
    rfl
theorem pool_str {cy : ClassId × ClassId} {G : GG} {ad : Nat → Nat} {S : PS} {j n : Nat} {f : Nat → Int32} (hk : G.2.1 j = 100 + n) : (pool cy G ad S).set j (ad j, .inl (cy.1, n, .inl f)) = pool cy G ad (str S j f) := by
  apply pool_set
  · simp [pcell, hk, str]
  · intro a ha
    simp only [pcell, str, if_neg ha]
    rfl
theorem pool_strz {cy : ClassId × ClassId} {G : GG} {ad : Nat → Nat} {S : PS} {j n : Nat} {f : Nat → Int32} (hk : G.2.1 j = 20 + n) (hn : n < 80) : (pool cy G ad S).set j (ad j, .inl (cy.2, n, .inl f)) = pool cy G ad (str S j f) := by
  have h1 : ¬ 100 ≤ 20 + n := by omega
  apply pool_set
  · simp only [pcell, hk, str, if_neg h1]
    simp
  · intro a ha
    simp only [pcell, str, if_neg ha]
    rfl
theorem str_upd {S : PS} {j i : Nat} {v : Int32} : str S j (upd (S.2 j) i v) = sta S j i v := by
  refine Prod.ext rfl ?_
  funext a b
  by_cases h : a = j
  · subst h; simp [str, sta, up2, upd]
  · simp [str, sta, up2, h]
theorem pool_D {cy : ClassId × ClassId} {G : GG} {ad : Nat → Nat} {S S2 : PS} {A : Nat → Prop} (h : va_D A (pool cy G ad S)) : va_D A (pool cy G ad S2) := by
  have key : ∀ (i : Nat) (p : Nat × va_E), (pool cy G ad S2)[i]? = some p → ∃ q, (pool cy G ad S)[i]? = some q ∧ q.1 = p.1 := by
    intro i p hp
    have hi : i < G.1 := by
      rcases Nat.lt_or_ge i G.1 with h | h
      · exact h
      · rw [List.getElem?_eq_none (by rw [pool_len]; exact h)] at hp; cases hp
    rw [pool_at hi] at hp
    cases hp
    exact ⟨_, pool_at hi, rfl⟩
  refine ⟨fun i j p q hp hq hpq => ?_, fun k q hq => ?_⟩
  · obtain ⟨p', hp', e1⟩ := key i p hp
    obtain ⟨q', hq', e2⟩ := key j q hq
    exact h.1 i j p' q' hp' hq' (by rw [e1, e2, hpq])
  · obtain ⟨q', hq', e1⟩ := key k q hq
    rw [← e1]
    exact h.2 k q' hq'
theorem pool_A {cy : ClassId × ClassId} {G : GG} {ad : Nat → Nat} {S S2 : PS} {sz : Nat} {q : Nat} (h : va_A (pool cy G ad S) sz q) : va_A (pool cy G ad S2) sz q := by
  rcases h with ⟨k, e, hk⟩ | h
  · have hi : k < G.1 := by
      rcases Nat.lt_or_ge k G.1 with h | h
      · exact h
      · rw [List.getElem?_eq_none (by rw [pool_len]; exact h)] at hk; cases hk
    rw [pool_at hi] at hk
    cases hk
    exact Or.inl ⟨k, _, pool_at hi⟩
  · exact Or.inr h
/-- links into a nest mate, that are no words -/
def NF (U : State) : Prop := va_Nw (.methodLinkNest RX5 36 yX9_isWithin RX9) U ∧ va_Nw (.methodLinkNest RX3 44 yX9_hoursApart RX9) U ∧ va_Nw (.methodLinkNest RX4 64 yX9_hoursApart RX9) U
theorem NF.warm {s U : State} (hW : s.WarmedH U.vm) (h : NF s) : NF U := ⟨va_Nw.warmM hW h.1, va_Nw.warmM hW h.2.1, va_Nw.warmM hW h.2.2⟩
theorem NF.same {s U : State} (hW : s.vm = U.vm) (h : NF s) : NF U := ⟨va_Nw.same rfl hW h.1, va_Nw.same rfl hW h.2.1, va_Nw.same rfl hW h.2.2⟩
abbrev ptys (cy : ClassId × ClassId) : List (ClassId × FieldType) := [(cy.1, .int), (cy.2, .boolean)]
/-- what holds all through a walk -/
def MX (cy : ClassId × ClassId) (G : GG) (ad : Nat → Nat) (D : va_G) (p : Program) (s : State) (m : MethodId) (args : Array Value) (meth : Method) (c : Code) (cc : ByteArray) (nL : Nat) (own : String) (ret : Option FieldType) (A : Nat → Prop) : Prop :=
  p.tables.exec = Jvm.exec ∧ c.code = cc ∧ c.maxLocals = nL ∧ s.vm.findClass own = some m.cls ∧ (∀ w ∈ LG, w.before args s = true) ∧ va_K D vwCl (ptys cy) s ∧ (∀ S, va_D A (pool cy G ad S)) ∧ (∀ q : Nat, s.heap.size ≤ q → A q) ∧ meth.sig.returnType = ret ∧ meth.locks = false ∧ NF s ∧ GOK G
def mV (y : MethodName) (C : String) (bytes : ByteArray) (maxL : Nat) (ret : Option FieldType) (na : Nat) : Prop := Cond.instanceMethod y ∈ LG ∧ Cond.selects C y y ∈ LG ∧ Cond.initialized C ∈ LG ∧ Cond.code y bytes maxL ret ∈ LG ∧ (y.cls = C ∧ y.cls ≠ "java/lang/invoke/MethodHandle" ∧ y.cls ≠ "java/lang/invoke/VarHandle" ∧ (parseMethodDescriptor y.desc).map (fun d => d.parameters.length) = some na)
def mS (y : MethodName) (bytes : ByteArray) (maxL : Nat) (ret : Option FieldType) (na : Nat) : Prop := Cond.static y ∈ LG ∧ Cond.initialized y.cls ∈ LG ∧ Cond.code y bytes maxL ret ∈ LG ∧ (y.cls ≠ "java/lang/invoke/MethodHandle" ∧ y.cls ≠ "java/lang/invoke/VarHandle" ∧ (parseMethodDescriptor y.desc).map (fun d => d.parameters.length) = some na)
theorem LG_app {a b : List Cond} (ha : ∀ w ∈ a, w ∈ LG) (hb : ∀ w ∈ b, w ∈ LG) : ∀ w ∈ a ++ b, w ∈ LG := fun w h => (List.mem_append.mp h).elim (ha w) (hb w)
theorem LG_wA {y : MethodName} {cc : ByteArray} {maxL : Nat} {ret : Option FieldType} (h : Cond.code y cc maxL ret ∈ LG) : ∀ w ∈ wA y cc maxL ret, w ∈ LG := fun w hw => (List.mem_cons.mp hw).elim (fun e => e ▸ h) id
theorem cwV' {R : Room} {s : State} {args : Array Value} {own C : String} {idx maxL na : Nat} {y : MethodName} {bytes : ByteArray} {ret : Option FieldType} {rm : Room} (ht : ∀ w ∈ LG, w.before args s = true) (hl : Cond.methodLink own idx y ∈ LG) (hm : mV y C bytes maxL ret na) (hr : rm.cells = 0 ∧ rm.slots = 0 ∧ rm.frames + 1 ≤ R.frames ∧ 8 + (maxL + 11) + rm.locals ≤ R.locals) : CallW R s args own C idx y bytes maxL ret (wA y bytes maxL ret) rm 0 0 na :=
  cwV na ht (LG_good (LG_app (by
    intro w hw
    simp only [List.mem_cons, List.not_mem_nil, or_false] at hw
    rcases hw with rfl | rfl | rfl | rfl
    · exact hl
    · exact hm.1
    · exact hm.2.1
    · exact hm.2.2.1) (LG_wA hm.2.2.2.1))) rfl hr.1 hr.2.1 hm.2.2.2.2 hr.2.2
theorem cwS' {R : Room} {s : State} {args : Array Value} {own : String} {idx maxL na : Nat} {y : MethodName} {bytes : ByteArray} {ret : Option FieldType} {rm : Room} (ht : ∀ w ∈ LG, w.before args s = true) (hl : Cond.methodLink own idx y ∈ LG) (hm : mS y bytes maxL ret na) (hr : rm.cells = 0 ∧ rm.slots = 0 ∧ rm.frames + 1 ≤ R.frames ∧ 8 + (maxL + 11) + rm.locals ≤ R.locals) : CallB R s args own idx y bytes maxL ret (wA y bytes maxL ret) rm 0 0 na ∧ (Cond.static y).before args s = true :=
  va_cwS na ht (LG_good (LG_app (by
    intro w hw
    simp only [List.mem_cons, List.not_mem_nil, or_false] at hw
    rcases hw with rfl | rfl | rfl
    · exact hl
    · exact hm.1
    · exact hm.2.1) (LG_wA hm.2.2.1))) rfl hr.1 hr.2.1 hm.2.2.2 hr.2.2
theorem cwN' {R : Room} {s : State} {args : Array Value} {own host : String} {idx maxL na : Nat} {y : MethodName} {bytes : ByteArray} {ret : Option FieldType} {rm : Room} (ht : ∀ w ∈ LG, w.before args s = true) (hl : va_Nw (.methodLinkNest own idx y host) s) (hm : mS y bytes maxL ret na) (hr : rm.cells = 0 ∧ rm.slots = 0 ∧ rm.frames + 1 ≤ R.frames ∧ 8 + (maxL + 11) + rm.locals ≤ R.locals) : va_CN R s args own idx y host bytes maxL ret (wA y bytes maxL ret) rm 0 0 na ∧ (Cond.static y).before args s = true ∧ True :=
  ⟨va_cnB na ht (LG_good (LG_wA hm.2.2.1)) rfl hr.1 hr.2.1 hl (ht _ hm.2.1) hm.2.2.2 hr.2.2, ht _ hm.1, trivial⟩
def pq (cy : ClassId × ClassId) (G : GG) (ad : Nat → Nat) (D : va_G) (post : Option AV → PS → Prop) (A : Nat → Prop) : Array Value → State → Outcome → State → Prop := fun _ st oc t => (∃ v S, oc = .returned (v.map (cv ad)) ∧ post v S ∧ (∀ x, v = some x → wk G x) ∧ va_P D vwCl (pool cy G ad S) t.heap) ∧ va_F A st t
def RQ (cy : ClassId × ClassId) (G : GG) (ad : Nat → Nat) (D : va_G) (s : State) (args : Array Value) (below : List Frame) (A : Nat → Prop) (post : Option AV → PS → Prop) : State → Prop := MQ below (pq cy G ad D post A) args s 0 0 A
def WW (cy : ClassId × ClassId) (G : GG) (ad : Nat → Nat) (D : va_G) (p : Program) (l : Launch) (e : Env) (R : Room) (s : State) (m : MethodId) (args : Array Value) (below : List Frame) (meth : Method) (c : Code) (nL : Nat) (A : Nat → Prop) (post : Option AV → PS → Prop) (pc : Nat) (lv : List (Nat × AV)) (st : List AV) (S : PS) : Prop :=
  (∀ q ∈ lv, wk G q.2) → (∀ v ∈ st, wk G v) → ∀ (H : Heap) (locs : List Loc) (ls : Array Slot), va_P D vwCl (pool cy G ad S) H → va_S A s.heap H locs → lv_has ls nL (lv.map (cq ad)) → W p l e R s m args below meth c H locs 0 0 (RQ cy G ad D s args below A post) (F0 m pc ls (st.map (cv ad)))
def PM (cy : ClassId × ClassId) (G : GG) (ad : Nat → Nat) (D : va_G) (l : Launch) (y : MethodName) (ws : List Cond) (rm : Room) (As : List AV) (S : PS) (post : Option AV → PS → Prop) : Prop :=
  (∀ v ∈ As, wk G v) → ∀ sz : Nat, Met l y ws rm (va_Pc (As.map (cv ad)) (fun U => U.heap.size = sz ∧ va_P D vwCl (pool cy G ad S) U.heap ∧ va_K D vwCl (ptys cy) U ∧ va_D (fun _ => True) (pool cy G ad S) ∧ NF U)) (pq cy G ad D post (va_A (pool cy G ad S) sz)) 0 0 (va_A (pool cy G ad S) sz)
def poi (q : Int32 → PS → Prop) : Option AV → PS → Prop := fun v S => ∃ x, v = some (vi x) ∧ q x S
def pol (q : Int64 → PS → Prop) : Option AV → PS → Prop := fun v S => ∃ x, v = some (vl x) ∧ q x S
def pov (q : PS → Prop) : Option AV → PS → Prop := fun v S => v = none ∧ q S
def por (q : Option (Nat × Nat) → PS → Prop) : Option AV → PS → Prop := fun v S => ∃ x, v = some (.inr x) ∧ q x S
abbrev PMi (cy : ClassId × ClassId) (G : GG) (ad : Nat → Nat) (D : va_G) (l : Launch) (y : MethodName) (ws : List Cond) (rm : Room) (As : List AV) (S : PS) (post : Int32 → PS → Prop) : Prop := PM cy G ad D l y ws rm As S (poi post)
abbrev PMl (cy : ClassId × ClassId) (G : GG) (ad : Nat → Nat) (D : va_G) (l : Launch) (y : MethodName) (ws : List Cond) (rm : Room) (As : List AV) (S : PS) (post : Int64 → PS → Prop) : Prop := PM cy G ad D l y ws rm As S (pol post)
abbrev PMv (cy : ClassId × ClassId) (G : GG) (ad : Nat → Nat) (D : va_G) (l : Launch) (y : MethodName) (ws : List Cond) (rm : Room) (As : List AV) (S : PS) (post : PS → Prop) : Prop := PM cy G ad D l y ws rm As S (pov post)
abbrev PMr (cy : ClassId × ClassId) (G : GG) (ad : Nat → Nat) (D : va_G) (l : Launch) (y : MethodName) (ws : List Cond) (rm : Room) (As : List AV) (S : PS) (post : Option (Nat × Nat) → PS → Prop) : Prop := PM cy G ad D l y ws rm As S (por post)
theorem PM.of {cy : ClassId × ClassId} {G : GG} {ad : Nat → Nat} {D : va_G} {l : Launch} {y : MethodName} {rm : Room} {As : List AV} {S : PS} {post : Option AV → PS → Prop} {cc : ByteArray} {maxL : Nat} {ret : Option FieldType} {lv : List (Nat × AV)} (hG : GOK G)
    (hy : plainName y.cls = true) (hlen : (lg_sl (As.map (cv ad))).length ≤ maxL) (hlv : lv_args 0 (As.map (cv ad)) = lv.map (cq ad)) (hlw : ∀ q ∈ lv, q.2 ∈ As)
    (body : ∀ p e s m args below meth c A, MX cy G ad D p s m args meth c cc maxL y.cls ret A → WW cy G ad D p l e rm s m args below meth c maxL A post 0 lv [] S) : PM cy G ad D l y (wA y cc maxL ret) rm As S post := by
  intro hwk sz
  refine Met.ofW (cc := cc) (maxL := maxL) (ret := ret) hy rfl ?_
  intro p e s m args below meth c s₁ B hml hv
  obtain ⟨rfl, hsz, hP, hK, hD0, hN⟩ := hv
  have hts0 := atoms_spec (ws := wA y cc maxL ret) B.pre
  have hts : ∀ w ∈ LG, w.before ((As.map (cv ad)).toArray) s = true := fun w h => hts0 w (List.mem_cons_of_mem _ h)
  have hown : s.vm.findClass y.cls = some m.cls := findClass_of_methodNamed B.named
  subst hsz
  have hl := lv_entry (As.map (cv ad)) (n := maxL) hlen
  rw [lg_entry_eq]
  generalize (lg_sl (As.map (cv ad)) ++ List.replicate (maxL - (lg_sl (As.map (cv ad))).length) Slot.unset).toArray = ls at hl ⊢
  rw [hlv] at hl
  have hD := hD0.self (sz := s.heap.size)
  exact body p e s m _ below meth c (va_A (pool cy G ad S) s.heap.size) ⟨B.exec, B.bytes, hml, hown, hts, hK, fun S2 => pool_D hD, fun q h => Or.inr h, B.returns, B.notSynchronized, hN, hG⟩ (fun q hq => hwk _ (hlw q hq)) (fun v hv => by cases hv) s.heap [] ls hP va_S.rf hl
section BW
variable {cy : ClassId × ClassId} {G : GG} {ad : Nat → Nat} {D : va_G} {p : Program} {l : Launch} {e : Env} {R : Room} {s : State} {m : MethodId} {args : Array Value} {below : List Frame} {meth : Method} {c : Code} {cc : ByteArray} {nL : Nat} {own : String} {ret : Option FieldType} {A : Nat → Prop} {post : Option AV → PS → Prop} {pc : Nat} {lv : List (Nat × AV)} {st : List AV} {S : PS}
def acat (v : AV) : Nat := match v with
  | .inl (.inr _) => 2
  | _ => 1
theorem acat_eq (st : List AV) : ((st.map (cv ad)).map fun v => v.category) = st.map acat := by
  rw [List.map_map]
  apply List.map_congr_left
  intro v _
  rcases v with (x | x) | (_ | q) <;> rfl
theorem lvat {ls : Array Slot} {q i : Nat} {v : AV} (h : lv_has ls nL (lv.map (cq ad))) (hl : lv[q]? = some (i, v)) : ls[i]? = some (.val (cv ad v)) := lv_at h q (v := cv ad v) (i := i) (by rw [List.getElem?_map, hl]; rfl)
theorem lvwk {q i : Nat} {v : AV} (h : ∀ q ∈ lv, wk G q.2) (hl : lv[q]? = some (i, v)) : wk G v := h (i, v) (List.mem_of_getElem? hl)
theorem wkc {v : AV} {st : List AV} (h1 : wk G v) (h2 : ∀ v ∈ st, wk G v) : ∀ w ∈ v :: st, wk G w := fun w hw => (List.mem_cons.mp hw).elim (fun e => e ▸ h1) (h2 w)
theorem wkt {v : AV} {st : List AV} (h : ∀ w ∈ v :: st, wk G w) : ∀ w ∈ st, wk G w := fun w hw => h w (List.mem_cons_of_mem _ hw)
theorem wkh {v : AV} {st : List AV} (h : ∀ w ∈ v :: st, wk G w) : wk G v := h v List.mem_cons_self
theorem la_n {H : Heap} {locs : List Loc} {ls : Array Slot} {rest : List Value} {Q : State → Prop} (hexec : p.tables.exec = Jvm.exec) (hb : c.code = cc) {k : Fin 4} {i : Nat} {x : Option (Nat × Nat)} (hdg : decode cc pc = .ok (.aload_n k, 1)) (hi : (k : Nat) = i) (hl : ls[i]? = some (.val (cv ad (.inr x))))
    (k : W p l e R s m args below meth c H locs 0 0 Q (F0 m (pc + 1) ls (cv ad (.inr x) :: rest))) : W p l e R s m args below meth c H locs 0 0 Q (F0 m pc ls (rest)) := by
  rcases x with _ | q
  · subst hi
    intro T hT X
    obtain ⟨t, a, b⟩ := k T hT X
    refine ⟨t, ?_, b⟩
    dsimp only [cv] at hl a
    jvm_step X.here [X.here.top, hexec, hb, hdg, hl, Value.isRef]
    exact a
  · exact lv_aload_n hexec hb hdg hi hl k
theorem la_g {H : Heap} {locs : List Loc} {ls : Array Slot} {rest : List Value} {Q : State → Prop} (hexec : p.tables.exec = Jvm.exec) (hb : c.code = cc) {i : Nat} {x : Option (Nat × Nat)} (hdg : decode cc pc = .ok (.aload i, 2)) (hl : ls[i]? = some (.val (cv ad (.inr x))))
    (k : W p l e R s m args below meth c H locs 0 0 Q (F0 m (pc + 2) ls (cv ad (.inr x) :: rest))) : W p l e R s m args below meth c H locs 0 0 Q (F0 m pc ls (rest)) := by
  rcases x with _ | q
  · intro T hT X
    obtain ⟨t, a, b⟩ := k T hT X
    refine ⟨t, ?_, b⟩
    dsimp only [cv] at hl a
    jvm_step X.here [X.here.top, hexec, hb, hdg, hl, Value.isRef]
    exact a
  · exact lv_aload hexec hb hdg hl k
theorem sa_n {H : Heap} {locs : List Loc} {ls : Array Slot} {rest : List Value} {Q : State → Prop} (hexec : p.tables.exec = Jvm.exec) (hb : c.code = cc) {k : Fin 4} {i nL : Nat} {x : Option (Nat × Nat)} {lv lv' : List (Nat × Value)} (hdg : decode cc pc = .ok (.astore_n k, 1)) (hi : (k : Nat) = i) (h : lv_has ls nL lv) (hn : i < nL) (hl : (i, cv ad (.inr x)) :: lv.filter (fun q => !(q.1 == i) && !(q.1 + 1 == i && q.2.category == 2)) = lv')
    (kk : ∀ ls' : Array Slot, lv_has ls' nL lv' → W p l e R s m args below meth c H locs 0 0 Q (F0 m (pc + 1) ls' rest)) : W p l e R s m args below meth c H locs 0 0 Q (F0 m pc ls (cv ad (.inr x) :: rest)) := by
  rcases x with _ | q
  · subst hi
    obtain ⟨ls', e', h'⟩ := lv_store1 (v := .null) h hn rfl
    intro T hT X
    obtain ⟨t, a, b⟩ := kk ls' (hl ▸ h') T hT X
    refine ⟨t, ?_, b⟩
    dsimp only [cv]
    jvm_step X.here [X.here.top, ↓top_set X.here.top, hexec, hb, hdg, e', Value.isRef]
    exact a
  · exact lv_astore_n hexec hb hdg hi h hn hl kk
theorem sa_g {H : Heap} {locs : List Loc} {ls : Array Slot} {rest : List Value} {Q : State → Prop} (hexec : p.tables.exec = Jvm.exec) (hb : c.code = cc) {i nL : Nat} {x : Option (Nat × Nat)} {lv lv' : List (Nat × Value)} (hdg : decode cc pc = .ok (.astore i, 2)) (h : lv_has ls nL lv) (hn : i < nL) (hl : (i, cv ad (.inr x)) :: lv.filter (fun q => !(q.1 == i) && !(q.1 + 1 == i && q.2.category == 2)) = lv')
    (kk : ∀ ls' : Array Slot, lv_has ls' nL lv' → W p l e R s m args below meth c H locs 0 0 Q (F0 m (pc + 2) ls' rest)) : W p l e R s m args below meth c H locs 0 0 Q (F0 m pc ls (cv ad (.inr x) :: rest)) := by
  rcases x with _ | q
  · obtain ⟨ls', e', h'⟩ := lv_store1 (v := .null) h hn rfl
    intro T hT X
    obtain ⟨t, a, b⟩ := kk ls' (hl ▸ h') T hT X
    refine ⟨t, ?_, b⟩
    dsimp only [cv]
    jvm_step X.here [X.here.top, ↓top_set X.here.top, hexec, hb, hdg, e', Value.isRef]
    exact a
  · exact lv_astore hexec hb hdg h hn hl kk
def isl (v : AV) : Bool := match v with
  | .inl (.inr _) => true
  | _ => false
theorem isl_cat (v : AV) : ((cv ad v).category == 2) = isl v := by
  rcases v with (x | x) | (_ | q) <;> rfl
def ls1 (lv : List (Nat × AV)) (i : Nat) (v : AV) : List (Nat × AV) := (i, v) :: lv.filter (fun q => !(q.1 == i) && !(q.1 + 1 == i && isl q.2))
def ls2 (lv : List (Nat × AV)) (i : Nat) (v : AV) : List (Nat × AV) := (i, v) :: lv.filter (fun q => !(q.1 == i) && (!(q.1 == i + 1) && !(q.1 + 1 == i && isl q.2)))
theorem ls1_eq (i : Nat) (v : AV) : (i, cv ad v) :: (lv.map (cq ad)).filter (fun q => !(q.1 == i) && !(q.1 + 1 == i && q.2.category == 2)) = (ls1 lv i v).map (cq ad) := by
  simp only [ls1, List.map_cons, List.filter_map]
  congr 1
  congr 1
  apply List.filter_congr
  intro q _
  simp only [Function.comp, cq, isl_cat]
theorem ls2_eq (i : Nat) (v : AV) : (i, cv ad v) :: (lv.map (cq ad)).filter (fun q => !(q.1 == i) && (!(q.1 == i + 1) && !(q.1 + 1 == i && q.2.category == 2))) = (ls2 lv i v).map (cq ad) := by
  simp only [ls2, List.map_cons, List.filter_map]
  congr 1
  congr 1
  apply List.filter_congr
  intro q _
  simp only [Function.comp, cq, isl_cat]
theorem ls1_wk {i : Nat} {v : AV} (h : ∀ q ∈ lv, wk G q.2) (hv : wk G v) : ∀ q ∈ ls1 lv i v, wk G q.2 := by
  intro q hq
  rcases List.mem_cons.mp hq with e | e
  · subst e; exact hv
  · exact h q (List.mem_filter.mp e).1
theorem ls2_wk {i : Nat} {v : AV} (h : ∀ q ∈ lv, wk G q.2) (hv : wk G v) : ∀ q ∈ ls2 lv i v, wk G q.2 := by
  intro q hq
  rcases List.mem_cons.mp hq with e | e
  · subst e; exact hv
  · exact h q (List.mem_filter.mp e).1
theorem WW.eq {pc2 : Nat} {lv2 : List (Nat × AV)} {st2 : List AV} {S2 : PS} (k : WW cy G ad D p l e R s m args below meth c nL A post pc2 lv2 st2 S2) (h1 : pc2 = pc := by rfl) (h2 : lv2 = lv := by rfl) (h3 : st2 = st := by rfl) (h4 : S2 = S := by rfl) : WW cy G ad D p l e R s m args below meth c nL A post pc lv st S := by subst h1; subst h2; subst h3; subst h4; exact k
/-- fewer locals, in another order -/
theorem WW.lvs {lv2 : List (Nat × AV)} (ks : List Nat) (hl : ks.filterMap (fun k => lv[k]?) = lv2) (k : WW cy G ad D p l e R s m args below meth c nL A post pc lv2 st S) : WW cy G ad D p l e R s m args below meth c nL A post pc lv st S := by
  intro h1 h2 H locs ls hP hS hl0
  have hsub : ∀ q ∈ lv2, q ∈ lv := by
    intro q hq
    rw [← hl] at hq
    obtain ⟨i, -, hi⟩ := List.mem_filterMap.mp hq
    exact List.mem_of_getElem? hi
  exact k (fun q hq => h1 q (hsub q hq)) h2 H locs ls hP hS ⟨hl0.1, hl0.2.1, fun q hq => by
    obtain ⟨r, hr, e⟩ := List.mem_map.mp hq
    exact hl0.2.2 q (List.mem_map.mpr ⟨r, hsub r hr, e⟩)⟩

theorem w_iln {k : Fin 4} {q n : Nat} {x : Int32} (hM : MX cy G ad D p s m args meth c cc nL own ret A) (hd : decode cc pc = .ok (.iload_n k, 1)) (hl : lv[q]? = some ((k : Nat), vi x)) (hn : pc + 1 = n) (kk : WW cy G ad D p l e R s m args below meth c nL A post n lv (vi x :: st) S) : WW cy G ad D p l e R s m args below meth c nL A post pc lv st S := by
  subst hn
  intro h1 h2 H locs ls hP hS hl0
  exact lv_iload_n hM.1 hM.2.1 hd rfl (lvat hl0 hl) (kk h1 (wkc (lvwk h1 hl) h2) H locs ls hP hS hl0)
theorem w_il {i : Nat} {q n : Nat} {x : Int32} (hM : MX cy G ad D p s m args meth c cc nL own ret A) (hd : decode cc pc = .ok (.iload i, 2)) (hl : lv[q]? = some (i, vi x)) (hn : pc + 2 = n) (kk : WW cy G ad D p l e R s m args below meth c nL A post n lv (vi x :: st) S) : WW cy G ad D p l e R s m args below meth c nL A post pc lv st S := by
  subst hn
  intro h1 h2 H locs ls hP hS hl0
  exact lv_iload hM.1 hM.2.1 hd (lvat hl0 hl) (kk h1 (wkc (lvwk h1 hl) h2) H locs ls hP hS hl0)
theorem w_lln {k : Fin 4} {q n : Nat} {x : Int64} (hM : MX cy G ad D p s m args meth c cc nL own ret A) (hd : decode cc pc = .ok (.lload_n k, 1)) (hl : lv[q]? = some ((k : Nat), vl x)) (hn : pc + 1 = n) (kk : WW cy G ad D p l e R s m args below meth c nL A post n lv (vl x :: st) S) : WW cy G ad D p l e R s m args below meth c nL A post pc lv st S := by
  subst hn
  intro h1 h2 H locs ls hP hS hl0
  exact lv_lload_n hM.1 hM.2.1 hd rfl (lvat hl0 hl) (kk h1 (wkc (lvwk h1 hl) h2) H locs ls hP hS hl0)
theorem w_ll {i : Nat} {q n : Nat} {x : Int64} (hM : MX cy G ad D p s m args meth c cc nL own ret A) (hd : decode cc pc = .ok (.lload i, 2)) (hl : lv[q]? = some (i, vl x)) (hn : pc + 2 = n) (kk : WW cy G ad D p l e R s m args below meth c nL A post n lv (vl x :: st) S) : WW cy G ad D p l e R s m args below meth c nL A post pc lv st S := by
  subst hn
  intro h1 h2 H locs ls hP hS hl0
  exact lv_lload hM.1 hM.2.1 hd (lvat hl0 hl) (kk h1 (wkc (lvwk h1 hl) h2) H locs ls hP hS hl0)
theorem w_aln {k : Fin 4} {q n : Nat} {x : Option (Nat × Nat)} (hM : MX cy G ad D p s m args meth c cc nL own ret A) (hd : decode cc pc = .ok (.aload_n k, 1)) (hl : lv[q]? = some ((k : Nat), (.inr x))) (hn : pc + 1 = n) (kk : WW cy G ad D p l e R s m args below meth c nL A post n lv ((.inr x) :: st) S) : WW cy G ad D p l e R s m args below meth c nL A post pc lv st S := by
  subst hn
  intro h1 h2 H locs ls hP hS hl0
  exact la_n hM.1 hM.2.1 hd rfl (lvat hl0 hl) (kk h1 (wkc (lvwk h1 hl) h2) H locs ls hP hS hl0)
theorem w_al {i : Nat} {q n : Nat} {x : Option (Nat × Nat)} (hM : MX cy G ad D p s m args meth c cc nL own ret A) (hd : decode cc pc = .ok (.aload i, 2)) (hl : lv[q]? = some (i, (.inr x))) (hn : pc + 2 = n) (kk : WW cy G ad D p l e R s m args below meth c nL A post n lv ((.inr x) :: st) S) : WW cy G ad D p l e R s m args below meth c nL A post pc lv st S := by
  subst hn
  intro h1 h2 H locs ls hP hS hl0
  exact la_g hM.1 hM.2.1 hd (lvat hl0 hl) (kk h1 (wkc (lvwk h1 hl) h2) H locs ls hP hS hl0)
theorem w_isn {k : Fin 4} {n : Nat} {x : Int32} {lv' : List (Nat × AV)} (hM : MX cy G ad D p s m args meth c cc nL own ret A) (hd : decode cc pc = .ok (.istore_n k, 1)) (hi : (k : Nat) < nL) (hl : ls1 lv (k : Nat) (vi x) = lv') (hn : pc + 1 = n) (kk : WW cy G ad D p l e R s m args below meth c nL A post n lv' st S) : WW cy G ad D p l e R s m args below meth c nL A post pc lv ((vi x) :: st) S := by
  subst hn; subst hl
  intro h1 h2 H locs ls hP hS hl0
  exact lv_istore_n hM.1 hM.2.1 hd rfl hl0 hi (ls1_eq (ad := ad) (k : Nat) (vi x)) (fun ls' hl' => kk (ls1_wk h1 (wkh h2)) (wkt h2) H locs ls' hP hS hl')
theorem w_is {i : Nat} {n : Nat} {x : Int32} {lv' : List (Nat × AV)} (hM : MX cy G ad D p s m args meth c cc nL own ret A) (hd : decode cc pc = .ok (.istore i, 2)) (hi : i < nL) (hl : ls1 lv i (vi x) = lv') (hn : pc + 2 = n) (kk : WW cy G ad D p l e R s m args below meth c nL A post n lv' st S) : WW cy G ad D p l e R s m args below meth c nL A post pc lv ((vi x) :: st) S := by
  subst hn; subst hl
  intro h1 h2 H locs ls hP hS hl0
  exact lv_istore hM.1 hM.2.1 hd hl0 hi (ls1_eq (ad := ad) i (vi x)) (fun ls' hl' => kk (ls1_wk h1 (wkh h2)) (wkt h2) H locs ls' hP hS hl')
theorem w_asn {k : Fin 4} {n : Nat} {x : Option (Nat × Nat)} {lv' : List (Nat × AV)} (hM : MX cy G ad D p s m args meth c cc nL own ret A) (hd : decode cc pc = .ok (.astore_n k, 1)) (hi : (k : Nat) < nL) (hl : ls1 lv (k : Nat) (.inr x) = lv') (hn : pc + 1 = n) (kk : WW cy G ad D p l e R s m args below meth c nL A post n lv' st S) : WW cy G ad D p l e R s m args below meth c nL A post pc lv ((.inr x) :: st) S := by
  subst hn; subst hl
  intro h1 h2 H locs ls hP hS hl0
  exact sa_n hM.1 hM.2.1 hd rfl hl0 hi (ls1_eq (ad := ad) (k : Nat) (.inr x)) (fun ls' hl' => kk (ls1_wk h1 (wkh h2)) (wkt h2) H locs ls' hP hS hl')
theorem w_as {i : Nat} {n : Nat} {x : Option (Nat × Nat)} {lv' : List (Nat × AV)} (hM : MX cy G ad D p s m args meth c cc nL own ret A) (hd : decode cc pc = .ok (.astore i, 2)) (hi : i < nL) (hl : ls1 lv i (.inr x) = lv') (hn : pc + 2 = n) (kk : WW cy G ad D p l e R s m args below meth c nL A post n lv' st S) : WW cy G ad D p l e R s m args below meth c nL A post pc lv ((.inr x) :: st) S := by
  subst hn; subst hl
  intro h1 h2 H locs ls hP hS hl0
  exact sa_g hM.1 hM.2.1 hd hl0 hi (ls1_eq (ad := ad) i (.inr x)) (fun ls' hl' => kk (ls1_wk h1 (wkh h2)) (wkt h2) H locs ls' hP hS hl')
theorem w_lsn {k : Fin 4} {n : Nat} {x : Int64} {lv' : List (Nat × AV)} (hM : MX cy G ad D p s m args meth c cc nL own ret A) (hd : decode cc pc = .ok (.lstore_n k, 1)) (hi : (k : Nat) + 1 < nL) (hl : ls2 lv (k : Nat) (vl x) = lv') (hn : pc + 1 = n) (kk : WW cy G ad D p l e R s m args below meth c nL A post n lv' st S) : WW cy G ad D p l e R s m args below meth c nL A post pc lv ((vl x) :: st) S := by
  subst hn; subst hl
  intro h1 h2 H locs ls hP hS hl0
  exact lv_lstore_n hM.1 hM.2.1 hd rfl hl0 hi (ls2_eq (ad := ad) (k : Nat) (vl x)) (fun ls' hl' => kk (ls2_wk h1 (wkh h2)) (wkt h2) H locs ls' hP hS hl')
theorem w_ls {i : Nat} {n : Nat} {x : Int64} {lv' : List (Nat × AV)} (hM : MX cy G ad D p s m args meth c cc nL own ret A) (hd : decode cc pc = .ok (.lstore i, 2)) (hi : i + 1 < nL) (hl : ls2 lv i (vl x) = lv') (hn : pc + 2 = n) (kk : WW cy G ad D p l e R s m args below meth c nL A post n lv' st S) : WW cy G ad D p l e R s m args below meth c nL A post pc lv ((vl x) :: st) S := by
  subst hn; subst hl
  intro h1 h2 H locs ls hP hS hl0
  exact lv_lstore hM.1 hM.2.1 hd hl0 hi (ls2_eq (ad := ad) i (vl x)) (fun ls' hl' => kk (ls2_wk h1 (wkh h2)) (wkt h2) H locs ls' hP hS hl')
theorem w_iinc {i q n : Nat} {d : Int} {x v : Int32} {lv' : List (Nat × AV)} (hM : MX cy G ad D p s m args meth c cc nL own ret A) (hd : decode cc pc = .ok (.iinc i d, 3)) (hq : lv[q]? = some (i, vi x)) (hv : x + Int32.ofInt d = v) (hi : i < nL) (hl : ls1 lv i (vi v) = lv') (hn : pc + 3 = n) (kk : WW cy G ad D p l e R s m args below meth c nL A post n lv' st S) : WW cy G ad D p l e R s m args below meth c nL A post pc lv st S := by
  subst hn; subst hl
  intro h1 h2 H locs ls hP hS hl0
  exact lv_iinc hM.1 hM.2.1 hd hl0 (k := q) (x := x) (by rw [List.getElem?_map, hq]; rfl) hv hi (ls1_eq (ad := ad) i (vi v)) (fun ls' hl' => kk (ls1_wk h1 trivial) h2 H locs ls' hP hS hl')
theorem w_ic {d : Int} {n : Nat} (hM : MX cy G ad D p s m args meth c cc nL own ret A) (v : Int32) (hd : decode cc pc = .ok (.iconst d, 1)) (hv : Int32.ofInt d = v) (hn : pc + 1 = n) (kk : WW cy G ad D p l e R s m args below meth c nL A post n lv (vi v :: st) S) : WW cy G ad D p l e R s m args below meth c nL A post pc lv st S := by
  subst hn
  intro h1 h2 H locs ls hP hS hl0
  exact lv_iconst hM.1 hM.2.1 hd hv (kk h1 (wkc trivial h2) H locs ls hP hS hl0)
theorem w_bi {d : Int} {n : Nat} (hM : MX cy G ad D p s m args meth c cc nL own ret A) (v : Int32) (hd : decode cc pc = .ok (.bipush d, 2)) (hv : (Int8.ofInt d).toInt32 = v) (hn : pc + 2 = n) (kk : WW cy G ad D p l e R s m args below meth c nL A post n lv (vi v :: st) S) : WW cy G ad D p l e R s m args below meth c nL A post pc lv st S := by
  subst hn
  intro h1 h2 H locs ls hP hS hl0
  exact lv_bipush hM.1 hM.2.1 hd hv (kk h1 (wkc trivial h2) H locs ls hP hS hl0)
theorem w_si {d : Int} {n : Nat} (hM : MX cy G ad D p s m args meth c cc nL own ret A) (v : Int32) (hd : decode cc pc = .ok (.sipush d, 3)) (hv : (Int16.ofInt d).toInt32 = v) (hn : pc + 3 = n) (kk : WW cy G ad D p l e R s m args below meth c nL A post n lv (vi v :: st) S) : WW cy G ad D p l e R s m args below meth c nL A post pc lv st S := by
  subst hn
  intro h1 h2 H locs ls hP hS hl0
  exact lv_sipush hM.1 hM.2.1 hd hv (kk h1 (wkc trivial h2) H locs ls hP hS hl0)
theorem w_ldc {idx n : Nat} {v : Int32} (hM : MX cy G ad D p s m args meth c cc nL own ret A) (hd : decode cc pc = .ok (.ldc idx, 2)) (hc : Cond.constant own idx v ∈ LG) (hn : pc + 2 = n) (kk : WW cy G ad D p l e R s m args below meth c nL A post n lv (vi v :: st) S) : WW cy G ad D p l e R s m args below meth c nL A post pc lv st S := by
  subst hn
  intro h1 h2 H locs ls hP hS hl0
  exact lv_ldc hM.1 hM.2.1 hM.2.2.2.1 (hM.2.2.2.2.1 _ hc) hd (kk h1 (wkc trivial h2) H locs ls hP hS hl0)
theorem w_ldcw {idx n : Nat} {v : Int32} (hM : MX cy G ad D p s m args meth c cc nL own ret A) (hd : decode cc pc = .ok (.ldc_w idx, 3)) (hc : Cond.constant own idx v ∈ LG) (hn : pc + 3 = n) (kk : WW cy G ad D p l e R s m args below meth c nL A post n lv (vi v :: st) S) : WW cy G ad D p l e R s m args below meth c nL A post pc lv st S := by
  subst hn
  intro h1 h2 H locs ls hP hS hl0
  exact lv_ldcw hM.1 hM.2.1 hM.2.2.2.1 (hM.2.2.2.2.1 _ hc) hd (kk h1 (wkc trivial h2) H locs ls hP hS hl0)
theorem w_ldc2 {idx n : Nat} {v : Int64} (hM : MX cy G ad D p s m args meth c cc nL own ret A) (hd : decode cc pc = .ok (.ldc2_w idx, 3)) (hc : Cond.constantLong own idx v ∈ LG) (hn : pc + 3 = n) (kk : WW cy G ad D p l e R s m args below meth c nL A post n lv (vl v :: st) S) : WW cy G ad D p l e R s m args below meth c nL A post pc lv st S := by
  subst hn
  intro h1 h2 H locs ls hP hS hl0
  exact lv_ldc2 hM.1 hM.2.1 hM.2.2.2.1 (hM.2.2.2.2.1 _ hc) hd (kk h1 (wkc trivial h2) H locs ls hP hS hl0)
theorem w_null {n : Nat} (hM : MX cy G ad D p s m args meth c cc nL own ret A) (hd : decode cc pc = .ok (.aconst_null, 1)) (hn : pc + 1 = n) (kk : WW cy G ad D p l e R s m args below meth c nL A post n lv (vn :: st) S) : WW cy G ad D p l e R s m args below meth c nL A post pc lv st S := by
  subst hn
  intro h1 h2 H locs ls hP hS hl0
  exact lv_null hM.1 hM.2.1 hd (kk h1 (wkc trivial h2) H locs ls hP hS hl0)
theorem w_iadd {n : Nat} {x y : Int32} (hM : MX cy G ad D p s m args meth c cc nL own ret A) (hd : decode cc pc = .ok (.iadd, 1)) (hn : pc + 1 = n) (kk : WW cy G ad D p l e R s m args below meth c nL A post n lv (vi (x + y) :: st) S) : WW cy G ad D p l e R s m args below meth c nL A post pc lv (vi y :: vi x :: st) S := by
  subst hn
  intro h1 h2 H locs ls hP hS hl0
  exact lv_iadd hM.1 hM.2.1 hd (kk h1 (wkc trivial (wkt (wkt h2))) H locs ls hP hS hl0)
theorem w_isub {n : Nat} {x y : Int32} (hM : MX cy G ad D p s m args meth c cc nL own ret A) (hd : decode cc pc = .ok (.isub, 1)) (hn : pc + 1 = n) (kk : WW cy G ad D p l e R s m args below meth c nL A post n lv (vi (x - y) :: st) S) : WW cy G ad D p l e R s m args below meth c nL A post pc lv (vi y :: vi x :: st) S := by
  subst hn
  intro h1 h2 H locs ls hP hS hl0
  exact lv_isub hM.1 hM.2.1 hd (kk h1 (wkc trivial (wkt (wkt h2))) H locs ls hP hS hl0)
theorem w_imul {n : Nat} {x y : Int32} (hM : MX cy G ad D p s m args meth c cc nL own ret A) (hd : decode cc pc = .ok (.imul, 1)) (hn : pc + 1 = n) (kk : WW cy G ad D p l e R s m args below meth c nL A post n lv (vi (x * y) :: st) S) : WW cy G ad D p l e R s m args below meth c nL A post pc lv (vi y :: vi x :: st) S := by
  subst hn
  intro h1 h2 H locs ls hP hS hl0
  exact lv_imul hM.1 hM.2.1 hd (kk h1 (wkc trivial (wkt (wkt h2))) H locs ls hP hS hl0)
theorem w_iand {n : Nat} {x y : Int32} (hM : MX cy G ad D p s m args meth c cc nL own ret A) (hd : decode cc pc = .ok (.iand, 1)) (hn : pc + 1 = n) (kk : WW cy G ad D p l e R s m args below meth c nL A post n lv (vi (x &&& y) :: st) S) : WW cy G ad D p l e R s m args below meth c nL A post pc lv (vi y :: vi x :: st) S := by
  subst hn
  intro h1 h2 H locs ls hP hS hl0
  exact lv_iand hM.1 hM.2.1 hd (kk h1 (wkc trivial (wkt (wkt h2))) H locs ls hP hS hl0)
theorem w_ior {n : Nat} {x y : Int32} (hM : MX cy G ad D p s m args meth c cc nL own ret A) (hd : decode cc pc = .ok (.ior, 1)) (hn : pc + 1 = n) (kk : WW cy G ad D p l e R s m args below meth c nL A post n lv (vi (x ||| y) :: st) S) : WW cy G ad D p l e R s m args below meth c nL A post pc lv (vi y :: vi x :: st) S := by
  subst hn
  intro h1 h2 H locs ls hP hS hl0
  exact lv_ior hM.1 hM.2.1 hd (kk h1 (wkc trivial (wkt (wkt h2))) H locs ls hP hS hl0)
theorem w_ixor {n : Nat} {x y : Int32} (hM : MX cy G ad D p s m args meth c cc nL own ret A) (hd : decode cc pc = .ok (.ixor, 1)) (hn : pc + 1 = n) (kk : WW cy G ad D p l e R s m args below meth c nL A post n lv (vi (x ^^^ y) :: st) S) : WW cy G ad D p l e R s m args below meth c nL A post pc lv (vi y :: vi x :: st) S := by
  subst hn
  intro h1 h2 H locs ls hP hS hl0
  exact lv_ixor hM.1 hM.2.1 hd (kk h1 (wkc trivial (wkt (wkt h2))) H locs ls hP hS hl0)
theorem w_ishl {n : Nat} {x y : Int32} (hM : MX cy G ad D p s m args meth c cc nL own ret A) (hd : decode cc pc = .ok (.ishl, 1)) (hn : pc + 1 = n) (kk : WW cy G ad D p l e R s m args below meth c nL A post n lv (vi (x <<< (y &&& 31)) :: st) S) : WW cy G ad D p l e R s m args below meth c nL A post pc lv (vi y :: vi x :: st) S := by
  subst hn
  intro h1 h2 H locs ls hP hS hl0
  exact lv_ishl hM.1 hM.2.1 hd (kk h1 (wkc trivial (wkt (wkt h2))) H locs ls hP hS hl0)
theorem w_ishr {n : Nat} {x y : Int32} (hM : MX cy G ad D p s m args meth c cc nL own ret A) (hd : decode cc pc = .ok (.ishr, 1)) (hn : pc + 1 = n) (kk : WW cy G ad D p l e R s m args below meth c nL A post n lv (vi (x >>> (y &&& 31)) :: st) S) : WW cy G ad D p l e R s m args below meth c nL A post pc lv (vi y :: vi x :: st) S := by
  subst hn
  intro h1 h2 H locs ls hP hS hl0
  exact lv_ishr hM.1 hM.2.1 hd (kk h1 (wkc trivial (wkt (wkt h2))) H locs ls hP hS hl0)
theorem w_iushr {n : Nat} {x y : Int32} (hM : MX cy G ad D p s m args meth c cc nL own ret A) (hd : decode cc pc = .ok (.iushr, 1)) (hn : pc + 1 = n) (kk : WW cy G ad D p l e R s m args below meth c nL A post n lv (vi ((x.toUInt32 >>> (y.toUInt32 &&& Int32.toUInt32 31)).toInt32) :: st) S) : WW cy G ad D p l e R s m args below meth c nL A post pc lv (vi y :: vi x :: st) S := by
  subst hn
  intro h1 h2 H locs ls hP hS hl0
  exact lv_iushr hM.1 hM.2.1 hd rfl (kk h1 (wkc trivial (wkt (wkt h2))) H locs ls hP hS hl0)
theorem w_idiv {n : Nat} {x y : Int32} (hM : MX cy G ad D p s m args meth c cc nL own ret A) (hd : decode cc pc = .ok (.idiv, 1)) (hne : ¬ y = 0) (hn : pc + 1 = n) (kk : WW cy G ad D p l e R s m args below meth c nL A post n lv (vi (x / y) :: st) S) : WW cy G ad D p l e R s m args below meth c nL A post pc lv (vi y :: vi x :: st) S := by
  subst hn
  intro h1 h2 H locs ls hP hS hl0
  exact lv_idiv hM.1 hM.2.1 hd hne (kk h1 (wkc trivial (wkt (wkt h2))) H locs ls hP hS hl0)
theorem w_irem {n : Nat} {x y : Int32} (hM : MX cy G ad D p s m args meth c cc nL own ret A) (hd : decode cc pc = .ok (.irem, 1)) (hne : ¬ y = 0) (hn : pc + 1 = n) (kk : WW cy G ad D p l e R s m args below meth c nL A post n lv (vi (x - x / y * y) :: st) S) : WW cy G ad D p l e R s m args below meth c nL A post pc lv (vi y :: vi x :: st) S := by
  subst hn
  intro h1 h2 H locs ls hP hS hl0
  exact lv_irem hM.1 hM.2.1 hd hne (kk h1 (wkc trivial (wkt (wkt h2))) H locs ls hP hS hl0)
theorem w_ladd {n : Nat} {x y : Int64} (hM : MX cy G ad D p s m args meth c cc nL own ret A) (hd : decode cc pc = .ok (.ladd, 1)) (hn : pc + 1 = n) (kk : WW cy G ad D p l e R s m args below meth c nL A post n lv (vl (x + y) :: st) S) : WW cy G ad D p l e R s m args below meth c nL A post pc lv (vl y :: vl x :: st) S := by
  subst hn
  intro h1 h2 H locs ls hP hS hl0
  exact lv_ladd hM.1 hM.2.1 hd (kk h1 (wkc trivial (wkt (wkt h2))) H locs ls hP hS hl0)
theorem w_lmul {n : Nat} {x y : Int64} (hM : MX cy G ad D p s m args meth c cc nL own ret A) (hd : decode cc pc = .ok (.lmul, 1)) (hn : pc + 1 = n) (kk : WW cy G ad D p l e R s m args below meth c nL A post n lv (vl (x * y) :: st) S) : WW cy G ad D p l e R s m args below meth c nL A post pc lv (vl y :: vl x :: st) S := by
  subst hn
  intro h1 h2 H locs ls hP hS hl0
  exact lv_lmul hM.1 hM.2.1 hd (kk h1 (wkc trivial (wkt (wkt h2))) H locs ls hP hS hl0)
theorem w_lcmp {n : Nat} {x y : Int64} (hM : MX cy G ad D p s m args meth c cc nL own ret A) (hd : decode cc pc = .ok (.lcmp, 1)) (hn : pc + 1 = n) (kk : WW cy G ad D p l e R s m args below meth c nL A post n lv (vi (lg_cmp x y) :: st) S) : WW cy G ad D p l e R s m args below meth c nL A post pc lv (vl y :: vl x :: st) S := by
  subst hn
  intro h1 h2 H locs ls hP hS hl0
  exact W.lcmp hM.1 hM.2.1 hd (kk h1 (wkc trivial (wkt (wkt h2))) H locs ls hP hS hl0)
theorem w_i2l {n : Nat} {x : Int32} (hM : MX cy G ad D p s m args meth c cc nL own ret A) (hd : decode cc pc = .ok (.i2l, 1)) (hn : pc + 1 = n) (kk : WW cy G ad D p l e R s m args below meth c nL A post n lv (vl (x.toInt64) :: st) S) : WW cy G ad D p l e R s m args below meth c nL A post pc lv (vi x :: st) S := by
  subst hn
  intro h1 h2 H locs ls hP hS hl0
  exact lv_i2l hM.1 hM.2.1 hd rfl (kk h1 (wkc trivial (wkt h2)) H locs ls hP hS hl0)
theorem w_i2b {n : Nat} {x : Int32} (hM : MX cy G ad D p s m args meth c cc nL own ret A) (hd : decode cc pc = .ok (.i2b, 1)) (hn : pc + 1 = n) (kk : WW cy G ad D p l e R s m args below meth c nL A post n lv (vi (x.toInt8.toInt32) :: st) S) : WW cy G ad D p l e R s m args below meth c nL A post pc lv (vi x :: st) S := by
  subst hn
  intro h1 h2 H locs ls hP hS hl0
  exact lv_i2b hM.1 hM.2.1 hd rfl (kk h1 (wkc trivial (wkt h2)) H locs ls hP hS hl0)
theorem w_i2s {n : Nat} {x : Int32} (hM : MX cy G ad D p s m args meth c cc nL own ret A) (hd : decode cc pc = .ok (.i2s, 1)) (hn : pc + 1 = n) (kk : WW cy G ad D p l e R s m args below meth c nL A post n lv (vi (x.toInt16.toInt32) :: st) S) : WW cy G ad D p l e R s m args below meth c nL A post pc lv (vi x :: st) S := by
  subst hn
  intro h1 h2 H locs ls hP hS hl0
  exact lv_i2s hM.1 hM.2.1 hd rfl (kk h1 (wkc trivial (wkt h2)) H locs ls hP hS hl0)
theorem w_dup {n : Nat} {x : AV} (hM : MX cy G ad D p s m args meth c cc nL own ret A) (hd : decode cc pc = .ok (.dup, 1)) (hc : isl x = false) (hn : pc + 1 = n) (kk : WW cy G ad D p l e R s m args below meth c nL A post n lv (x :: x :: st) S) : WW cy G ad D p l e R s m args below meth c nL A post pc lv (x :: st) S := by
  subst hn
  intro h1 h2 H locs ls hP hS hl0
  exact lv_dup hM.1 hM.2.1 hd (by rcases x with (x | x) | (_ | q) <;> first | rfl | cases hc) (kk h1 (wkc (wkh h2) h2) H locs ls hP hS hl0)
theorem w_dup2 {n : Nat} {x y : AV} (hM : MX cy G ad D p s m args meth c cc nL own ret A) (hd : decode cc pc = .ok (.dup2, 1)) (hc : isl x = false) (hc2 : isl y = false) (hn : pc + 1 = n) (kk : WW cy G ad D p l e R s m args below meth c nL A post n lv (x :: y :: x :: y :: st) S) : WW cy G ad D p l e R s m args below meth c nL A post pc lv (x :: y :: st) S := by
  subst hn
  intro h1 h2 H locs ls hP hS hl0
  exact lv_dup2_11 hM.1 hM.2.1 hd (by rcases x with (x | x) | (_ | q) <;> first | rfl | cases hc) (by rcases y with (x | x) | (_ | q) <;> first | rfl | cases hc2) (kk h1 (wkc (wkh h2) (wkc (wkh (wkt h2)) h2)) H locs ls hP hS hl0)
theorem w_pop {n : Nat} {x : AV} (hM : MX cy G ad D p s m args meth c cc nL own ret A) (hd : decode cc pc = .ok (.pop, 1)) (hc : isl x = false) (hn : pc + 1 = n) (kk : WW cy G ad D p l e R s m args below meth c nL A post n lv st S) : WW cy G ad D p l e R s m args below meth c nL A post pc lv (x :: st) S := by
  subst hn
  intro h1 h2 H locs ls hP hS hl0
  exact lv_pop hM.1 hM.2.1 hd (by rcases x with (x | x) | (_ | q) <;> first | rfl | cases hc) (kk h1 (wkt h2) H locs ls hP hS hl0)
theorem w_goto {off : Int} {n : Nat} (hM : MX cy G ad D p s m args meth c cc nL own ret A) (hd : decode cc pc = .ok (.goto off, 3)) (hn : (pc : Int) + off = (n : Int)) (kk : WW cy G ad D p l e R s m args below meth c nL A post n lv st S) : WW cy G ad D p l e R s m args below meth c nL A post pc lv st S := by
  intro h1 h2 H locs ls hP hS hl0
  exact lv_goto hM.1 hM.2.1 hd hn (kk h1 h2 H locs ls hP hS hl0)
theorem w_ifnull {off : Int} {n n2 : Nat} {x : Option (Nat × Nat)} (hM : MX cy G ad D p s m args meth c cc nL own ret A) (hd : decode cc pc = .ok (.ifnull off, 3)) (ht : (pc : Int) + off = (n : Int)) (hn : pc + 3 = n2) (kt : x = none → WW cy G ad D p l e R s m args below meth c nL A post n lv st S) (kf : ∀ q, x = some q → WW cy G ad D p l e R s m args below meth c nL A post n2 lv st S) : WW cy G ad D p l e R s m args below meth c nL A post pc lv (.inr x :: st) S := by
  subst hn
  intro h1 h2 H locs ls hP hS hl0
  rcases x with _ | q
  · exact lv_ifnullN hM.1 hM.2.1 hd ht (kt rfl h1 (wkt h2) H locs ls hP hS hl0)
  · exact lv_ifnull hM.1 hM.2.1 hd (kf q rfl h1 (wkt h2) H locs ls hP hS hl0)
theorem w_ifnonnull {off : Int} {n n2 : Nat} {x : Option (Nat × Nat)} (hM : MX cy G ad D p s m args meth c cc nL own ret A) (hd : decode cc pc = .ok (.ifnonnull off, 3)) (ht : (pc : Int) + off = (n : Int)) (hn : pc + 3 = n2) (kt : ∀ q, x = some q → WW cy G ad D p l e R s m args below meth c nL A post n lv st S) (kf : x = none → WW cy G ad D p l e R s m args below meth c nL A post n2 lv st S) : WW cy G ad D p l e R s m args below meth c nL A post pc lv (.inr x :: st) S := by
  subst hn
  intro h1 h2 H locs ls hP hS hl0
  rcases x with _ | q
  · exact lv_ifnonnullN hM.1 hM.2.1 hd (kf rfl h1 (wkt h2) H locs ls hP hS hl0)
  · exact lv_ifnonnull hM.1 hM.2.1 hd ht (kt q rfl h1 (wkt h2) H locs ls hP hS hl0)
theorem w_ifnullN {off : Int} {n : Nat} (hM : MX cy G ad D p s m args meth c cc nL own ret A) (hd : decode cc pc = .ok (.ifnull off, 3)) (ht : (pc : Int) + off = (n : Int)) (kk : WW cy G ad D p l e R s m args below meth c nL A post n lv st S) : WW cy G ad D p l e R s m args below meth c nL A post pc lv (vn :: st) S := by
  intro h1 h2 H locs ls hP hS hl0
  exact lv_ifnullN hM.1 hM.2.1 hd ht (kk h1 (wkt h2) H locs ls hP hS hl0)
theorem w_ifnullR {off : Int} {k j n : Nat} (hM : MX cy G ad D p s m args meth c cc nL own ret A) (hd : decode cc pc = .ok (.ifnull off, 3)) (hn : pc + 3 = n) (kk : WW cy G ad D p l e R s m args below meth c nL A post n lv st S) : WW cy G ad D p l e R s m args below meth c nL A post pc lv (vr k j :: st) S := by
  subst hn
  intro h1 h2 H locs ls hP hS hl0
  exact lv_ifnull hM.1 hM.2.1 hd (kk h1 (wkt h2) H locs ls hP hS hl0)
theorem w_ifnonnullN {off : Int} {n : Nat} (hM : MX cy G ad D p s m args meth c cc nL own ret A) (hd : decode cc pc = .ok (.ifnonnull off, 3)) (hn : pc + 3 = n) (kk : WW cy G ad D p l e R s m args below meth c nL A post n lv st S) : WW cy G ad D p l e R s m args below meth c nL A post pc lv (vn :: st) S := by
  subst hn
  intro h1 h2 H locs ls hP hS hl0
  exact lv_ifnonnullN hM.1 hM.2.1 hd (kk h1 (wkt h2) H locs ls hP hS hl0)
theorem w_ifnonnullR {off : Int} {k j n : Nat} (hM : MX cy G ad D p s m args meth c cc nL own ret A) (hd : decode cc pc = .ok (.ifnonnull off, 3)) (ht : (pc : Int) + off = (n : Int)) (kk : WW cy G ad D p l e R s m args below meth c nL A post n lv st S) : WW cy G ad D p l e R s m args below meth c nL A post pc lv (vr k j :: st) S := by
  intro h1 h2 H locs ls hP hS hl0
  exact lv_ifnonnull hM.1 hM.2.1 hd ht (kk h1 (wkt h2) H locs ls hP hS hl0)
theorem w_if_eq {off : Int} {n n2 : Nat} {x : Int32} (hM : MX cy G ad D p s m args meth c cc nL own ret A) (hd : decode cc pc = .ok (.ifCond .eq off, 3)) (ht : (pc : Int) + off = (n : Int)) (hn : pc + 3 = n2) (kt : x = 0 → WW cy G ad D p l e R s m args below meth c nL A post n lv st S) (kf : ¬ (x = 0) → WW cy G ad D p l e R s m args below meth c nL A post n2 lv st S) : WW cy G ad D p l e R s m args below meth c nL A post pc lv (vi x :: st) S := by
  subst hn
  intro h1 h2 H locs ls hP hS hl0
  exact lv_if_eq hM.1 hM.2.1 hd ht (fun hc => kt hc h1 (wkt h2) H locs ls hP hS hl0) (fun hc => kf hc h1 (wkt h2) H locs ls hP hS hl0)
theorem w_ic_eq {off : Int} {n n2 : Nat} {x y : Int32} (hM : MX cy G ad D p s m args meth c cc nL own ret A) (hd : decode cc pc = .ok (.if_icmp .eq off, 3)) (ht : (pc : Int) + off = (n : Int)) (hn : pc + 3 = n2) (kt : x = y → WW cy G ad D p l e R s m args below meth c nL A post n lv st S) (kf : ¬ (x = y) → WW cy G ad D p l e R s m args below meth c nL A post n2 lv st S) : WW cy G ad D p l e R s m args below meth c nL A post pc lv (vi y :: vi x :: st) S := by
  subst hn
  intro h1 h2 H locs ls hP hS hl0
  exact lv_icmp_eq hM.1 hM.2.1 hd ht (fun hc => kt hc h1 (wkt (wkt h2)) H locs ls hP hS hl0) (fun hc => kf hc h1 (wkt (wkt h2)) H locs ls hP hS hl0)
theorem w_if_ne {off : Int} {n n2 : Nat} {x : Int32} (hM : MX cy G ad D p s m args meth c cc nL own ret A) (hd : decode cc pc = .ok (.ifCond .ne off, 3)) (ht : (pc : Int) + off = (n : Int)) (hn : pc + 3 = n2) (kt : ¬ x = 0 → WW cy G ad D p l e R s m args below meth c nL A post n lv st S) (kf : x = 0 → WW cy G ad D p l e R s m args below meth c nL A post n2 lv st S) : WW cy G ad D p l e R s m args below meth c nL A post pc lv (vi x :: st) S := by
  subst hn
  intro h1 h2 H locs ls hP hS hl0
  exact lv_if_ne hM.1 hM.2.1 hd ht (fun hc => kt hc h1 (wkt h2) H locs ls hP hS hl0) (fun hc => kf hc h1 (wkt h2) H locs ls hP hS hl0)
theorem w_ic_ne {off : Int} {n n2 : Nat} {x y : Int32} (hM : MX cy G ad D p s m args meth c cc nL own ret A) (hd : decode cc pc = .ok (.if_icmp .ne off, 3)) (ht : (pc : Int) + off = (n : Int)) (hn : pc + 3 = n2) (kt : ¬ x = y → WW cy G ad D p l e R s m args below meth c nL A post n lv st S) (kf : x = y → WW cy G ad D p l e R s m args below meth c nL A post n2 lv st S) : WW cy G ad D p l e R s m args below meth c nL A post pc lv (vi y :: vi x :: st) S := by
  subst hn
  intro h1 h2 H locs ls hP hS hl0
  exact lv_icmp_ne hM.1 hM.2.1 hd ht (fun hc => kt hc h1 (wkt (wkt h2)) H locs ls hP hS hl0) (fun hc => kf hc h1 (wkt (wkt h2)) H locs ls hP hS hl0)
theorem w_if_lt {off : Int} {n n2 : Nat} {x : Int32} (hM : MX cy G ad D p s m args meth c cc nL own ret A) (hd : decode cc pc = .ok (.ifCond .lt off, 3)) (ht : (pc : Int) + off = (n : Int)) (hn : pc + 3 = n2) (kt : x < 0 → WW cy G ad D p l e R s m args below meth c nL A post n lv st S) (kf : ¬ (x < 0) → WW cy G ad D p l e R s m args below meth c nL A post n2 lv st S) : WW cy G ad D p l e R s m args below meth c nL A post pc lv (vi x :: st) S := by
  subst hn
  intro h1 h2 H locs ls hP hS hl0
  exact lv_if_lt hM.1 hM.2.1 hd ht (fun hc => kt hc h1 (wkt h2) H locs ls hP hS hl0) (fun hc => kf hc h1 (wkt h2) H locs ls hP hS hl0)
theorem w_ic_lt {off : Int} {n n2 : Nat} {x y : Int32} (hM : MX cy G ad D p s m args meth c cc nL own ret A) (hd : decode cc pc = .ok (.if_icmp .lt off, 3)) (ht : (pc : Int) + off = (n : Int)) (hn : pc + 3 = n2) (kt : x < y → WW cy G ad D p l e R s m args below meth c nL A post n lv st S) (kf : ¬ (x < y) → WW cy G ad D p l e R s m args below meth c nL A post n2 lv st S) : WW cy G ad D p l e R s m args below meth c nL A post pc lv (vi y :: vi x :: st) S := by
  subst hn
  intro h1 h2 H locs ls hP hS hl0
  exact lv_icmp_lt hM.1 hM.2.1 hd ht (fun hc => kt hc h1 (wkt (wkt h2)) H locs ls hP hS hl0) (fun hc => kf hc h1 (wkt (wkt h2)) H locs ls hP hS hl0)
theorem w_if_ge {off : Int} {n n2 : Nat} {x : Int32} (hM : MX cy G ad D p s m args meth c cc nL own ret A) (hd : decode cc pc = .ok (.ifCond .ge off, 3)) (ht : (pc : Int) + off = (n : Int)) (hn : pc + 3 = n2) (kt : 0 ≤ x → WW cy G ad D p l e R s m args below meth c nL A post n lv st S) (kf : ¬ (0 ≤ x) → WW cy G ad D p l e R s m args below meth c nL A post n2 lv st S) : WW cy G ad D p l e R s m args below meth c nL A post pc lv (vi x :: st) S := by
  subst hn
  intro h1 h2 H locs ls hP hS hl0
  exact lv_if_ge hM.1 hM.2.1 hd ht (fun hc => kt hc h1 (wkt h2) H locs ls hP hS hl0) (fun hc => kf hc h1 (wkt h2) H locs ls hP hS hl0)
theorem w_ic_ge {off : Int} {n n2 : Nat} {x y : Int32} (hM : MX cy G ad D p s m args meth c cc nL own ret A) (hd : decode cc pc = .ok (.if_icmp .ge off, 3)) (ht : (pc : Int) + off = (n : Int)) (hn : pc + 3 = n2) (kt : y ≤ x → WW cy G ad D p l e R s m args below meth c nL A post n lv st S) (kf : ¬ (y ≤ x) → WW cy G ad D p l e R s m args below meth c nL A post n2 lv st S) : WW cy G ad D p l e R s m args below meth c nL A post pc lv (vi y :: vi x :: st) S := by
  subst hn
  intro h1 h2 H locs ls hP hS hl0
  exact lv_icmp_ge hM.1 hM.2.1 hd ht (fun hc => kt hc h1 (wkt (wkt h2)) H locs ls hP hS hl0) (fun hc => kf hc h1 (wkt (wkt h2)) H locs ls hP hS hl0)
theorem w_if_gt {off : Int} {n n2 : Nat} {x : Int32} (hM : MX cy G ad D p s m args meth c cc nL own ret A) (hd : decode cc pc = .ok (.ifCond .gt off, 3)) (ht : (pc : Int) + off = (n : Int)) (hn : pc + 3 = n2) (kt : 0 < x → WW cy G ad D p l e R s m args below meth c nL A post n lv st S) (kf : ¬ (0 < x) → WW cy G ad D p l e R s m args below meth c nL A post n2 lv st S) : WW cy G ad D p l e R s m args below meth c nL A post pc lv (vi x :: st) S := by
  subst hn
  intro h1 h2 H locs ls hP hS hl0
  exact lv_if_gt hM.1 hM.2.1 hd ht (fun hc => kt hc h1 (wkt h2) H locs ls hP hS hl0) (fun hc => kf hc h1 (wkt h2) H locs ls hP hS hl0)
theorem w_ic_gt {off : Int} {n n2 : Nat} {x y : Int32} (hM : MX cy G ad D p s m args meth c cc nL own ret A) (hd : decode cc pc = .ok (.if_icmp .gt off, 3)) (ht : (pc : Int) + off = (n : Int)) (hn : pc + 3 = n2) (kt : y < x → WW cy G ad D p l e R s m args below meth c nL A post n lv st S) (kf : ¬ (y < x) → WW cy G ad D p l e R s m args below meth c nL A post n2 lv st S) : WW cy G ad D p l e R s m args below meth c nL A post pc lv (vi y :: vi x :: st) S := by
  subst hn
  intro h1 h2 H locs ls hP hS hl0
  exact lv_icmp_gt hM.1 hM.2.1 hd ht (fun hc => kt hc h1 (wkt (wkt h2)) H locs ls hP hS hl0) (fun hc => kf hc h1 (wkt (wkt h2)) H locs ls hP hS hl0)
theorem w_if_le {off : Int} {n n2 : Nat} {x : Int32} (hM : MX cy G ad D p s m args meth c cc nL own ret A) (hd : decode cc pc = .ok (.ifCond .le off, 3)) (ht : (pc : Int) + off = (n : Int)) (hn : pc + 3 = n2) (kt : x ≤ 0 → WW cy G ad D p l e R s m args below meth c nL A post n lv st S) (kf : ¬ (x ≤ 0) → WW cy G ad D p l e R s m args below meth c nL A post n2 lv st S) : WW cy G ad D p l e R s m args below meth c nL A post pc lv (vi x :: st) S := by
  subst hn
  intro h1 h2 H locs ls hP hS hl0
  exact lv_if_le hM.1 hM.2.1 hd ht (fun hc => kt hc h1 (wkt h2) H locs ls hP hS hl0) (fun hc => kf hc h1 (wkt h2) H locs ls hP hS hl0)
theorem w_ic_le {off : Int} {n n2 : Nat} {x y : Int32} (hM : MX cy G ad D p s m args meth c cc nL own ret A) (hd : decode cc pc = .ok (.if_icmp .le off, 3)) (ht : (pc : Int) + off = (n : Int)) (hn : pc + 3 = n2) (kt : x ≤ y → WW cy G ad D p l e R s m args below meth c nL A post n lv st S) (kf : ¬ (x ≤ y) → WW cy G ad D p l e R s m args below meth c nL A post n2 lv st S) : WW cy G ad D p l e R s m args below meth c nL A post pc lv (vi y :: vi x :: st) S := by
  subst hn
  intro h1 h2 H locs ls hP hS hl0
  exact lv_icmp_le hM.1 hM.2.1 hd ht (fun hc => kt hc h1 (wkt (wkt h2)) H locs ls hP hS hl0) (fun hc => kf hc h1 (wkt (wkt h2)) H locs ls hP hS hl0)
theorem w_tsIn {dflt lo hi : Int} {offs : Array Int} {len : Nat} {x : Int32} {off : Int} {n : Nat} (hM : MX cy G ad D p s m args meth c cc nL own ret A) (hd : decode cc pc = .ok (.tableswitch dflt lo hi offs, len)) (h3 : ¬ x.toInt < lo) (h4 : ¬ hi < x.toInt) (ho : offs[(x.toInt - lo).toNat]? = some off) (ht : (pc : Int) + off = (n : Int)) (kk : WW cy G ad D p l e R s m args below meth c nL A post n lv st S) : WW cy G ad D p l e R s m args below meth c nL A post pc lv (vi x :: st) S := by
  intro h1 h2 H locs ls hP hS hl0
  exact lv_tableIn hM.1 hM.2.1 hd h3 h4 ho ht (kk h1 (wkt h2) H locs ls hP hS hl0)
theorem w_tsOut {dflt lo hi : Int} {offs : Array Int} {len : Nat} {x : Int32} {n : Nat} (hM : MX cy G ad D p s m args meth c cc nL own ret A) (hd : decode cc pc = .ok (.tableswitch dflt lo hi offs, len)) (h : x.toInt < lo ∨ hi < x.toInt) (ht : (pc : Int) + dflt = (n : Int)) (kk : WW cy G ad D p l e R s m args below meth c nL A post n lv st S) : WW cy G ad D p l e R s m args below meth c nL A post pc lv (vi x :: st) S := by
  intro h1 h2 H locs ls hP hS hl0
  exact lv_tableOut hM.1 hM.2.1 hd h ht (kk h1 (wkt h2) H locs ls hP hS hl0)
theorem w_look {dflt : Int} {ps : Array (Int × Int)} {len : Nat} {x : Int32} {off : Int} {n : Nat} (hM : MX cy G ad D p s m args meth c cc nL own ret A) (hd : decode cc pc = .ok (.lookupswitch dflt ps, len)) (hp : (ps.toList.zip (ps.toList.drop 1)).all (fun (a, next) => a.1 < next.1) = true) (ho : Op.lookupswitch.offset ps.toList dflt x.toInt = off) (ht : (pc : Int) + off = (n : Int)) (kk : WW cy G ad D p l e R s m args below meth c nL A post n lv st S) : WW cy G ad D p l e R s m args below meth c nL A post pc lv (vi x :: st) S := by
  intro h1 h2 H locs ls hP hS hl0
  exact lv_lookup hM.1 hM.2.1 hd hp ho ht (kk h1 (wkt h2) H locs ls hP hS hl0)
theorem w_geti {k j i idx n : Nat} {C : String} {T : u_T} {N : Nat} (hM : MX cy G ad D p s m args meth c cc nL own ret A) (hc : vwCl[k]? = some (C, T, N)) (hkk : ¬ 100 ≤ k ∧ ¬ 20 ≤ k ∧ rk k i = none ∧ i < nfk k ∧ nfk k = N) (hin : ∀ w ∈ u_ws C T N, w ∈ LG) (hlk : Cond.fieldLink own idx (T i).1 (T i).2.1 (T i).2.2.1 ∈ LG) (hd : decode cc pc = .ok (.getfield idx, 3)) (hn : pc + 3 = n) (kk : WW cy G ad D p l e R s m args below meth c nL A post n lv (vi (S.1 j i) :: st) S) : WW cy G ad D p l e R s m args below meth c nL A post pc lv (vr k j :: st) S := by
  subst hn
  intro h1 h2 H locs ls hP hS hl0
  obtain ⟨e1, e2⟩ := wkh h2
  dsimp only at e1 e2
  refine va_get (D := D) (ci := k) (v := .int (S.1 j i)) (C := C) (T := T) (N := N) (a := ad j) (fs := (List.range (nfk k)).map (pval G ad S j)) hM.1 hM.2.1 hM.2.2.2.2.1 hin hM.2.2.2.1 hM.2.2.2.2.2.1 hP j ?_ hc i (by omega) (hM.2.2.2.2.1 _ hlk) (fun _ h => h) ?_ hd (kk h1 (wkc trivial (wkt h2)) H locs ls hP hS hl0)
  · rw [pool_at e2, pcell, e1, if_neg hkk.1, if_neg hkk.2.1]
  · simp [hkk.2.2.2.1, pval, e1, hkk.2.2.1]
theorem w_getr {k k2 j i idx n q : Nat} {C : String} {T : u_T} {N : Nat} (hM : MX cy G ad D p s m args meth c cc nL own ret A) (hc : vwCl[k]? = some (C, T, N)) (hkk : ¬ 100 ≤ k ∧ ¬ 20 ≤ k ∧ rk k i = some k2 ∧ i < nfk k ∧ nfk k = N) (hq : G.2.1 j = k → G.2.2 j i = q) (hin : ∀ w ∈ u_ws C T N, w ∈ LG) (hlk : Cond.fieldLink own idx (T i).1 (T i).2.1 (T i).2.2.1 ∈ LG) (hd : decode cc pc = .ok (.getfield idx, 3)) (hn : pc + 3 = n) (kk : WW cy G ad D p l e R s m args below meth c nL A post n lv (vr k2 q :: st) S) : WW cy G ad D p l e R s m args below meth c nL A post pc lv (vr k j :: st) S := by
  subst hn
  intro h1 h2 H locs ls hP hS hl0
  obtain ⟨e1, e2⟩ := wkh h2
  dsimp only at e1 e2
  have hq := hq e1
  subst hq
  have hw : wk G (vr k2 (G.2.2 j i)) := hM.2.2.2.2.2.2.2.2.2.2.2 j e2 i k2 (by rw [e1]; exact hkk.2.2.1)
  refine va_get (D := D) (ci := k) (v := .ref (ad (G.2.2 j i))) (C := C) (T := T) (N := N) (a := ad j) (fs := (List.range (nfk k)).map (pval G ad S j)) hM.1 hM.2.1 hM.2.2.2.2.1 hin hM.2.2.2.1 hM.2.2.2.2.2.1 hP j ?_ hc i (by omega) (hM.2.2.2.2.1 _ hlk) (fun _ h => h) ?_ hd (kk h1 (wkc hw (wkt h2)) H locs ls hP hS hl0)
  · rw [pool_at e2, pcell, e1, if_neg hkk.1, if_neg hkk.2.1]
  · simp [hkk.2.2.2.1, pval, e1, hkk.2.2.1]
theorem w_put {k j i idx n : Nat} {C : String} {T : u_T} {N : Nat} {ty0 : Nat → FieldType} {ty : FieldType} {x : Int32} (hM : MX cy G ad D p s m args meth c cc nL own ret A) (hc : vwCl[k]? = some (C, T, N)) (hkk : ¬ 100 ≤ k ∧ ¬ 20 ≤ k ∧ rk k i = none ∧ i < nfk k ∧ nfk k = N) (hin : ∀ w ∈ u_ws C T N, w ∈ LG) (hty : ∀ k, k < N → parseFieldDescriptor (T k).2.2.1 = some (ty0 k)) (hnm : ∀ a, a < N → ∀ b, b < N → a ≠ b → (T a).2.1 ≠ (T b).2.1) (hlk : Cond.fieldLink own idx (T i).1 (T i).2.1 (T i).2.2.1 ∈ LG) (hfin : (T i).2.2.2 = false) (hd0 : parseFieldDescriptor (T i).2.2.1 = some ty) (hnar : narrow ty (.int x) = .int x) (hfit : fits ty (.int x) = true) (hd : decode cc pc = .ok (.putfield idx, 3)) (hn : pc + 3 = n) (kk : WW cy G ad D p l e R s m args below meth c nL A post n lv st (sti S j i x)) : WW cy G ad D p l e R s m args below meth c nL A post pc lv (vi x :: vr k j :: st) S := by
  subst hn
  intro h1 h2 H locs ls hP hS hl0
  obtain ⟨e1, e2⟩ := wkh (wkt h2)
  dsimp only at e1 e2
  refine va_put (D := D) (ci := k) (v := .int x) (ty := ty) (C := C) (T := T) (N := N) (a := ad j) (fs := (List.range (nfk k)).map (pval G ad S j)) hM.1 hM.2.1 hM.2.2.2.2.1 hin ty0 hty hnm hM.2.2.2.1 hM.2.2.2.2.2.1 hP (hM.2.2.2.2.2.2.1 S) hS j ?_ hc i (by omega) (hM.2.2.2.2.1 _ hlk) (fun _ h => h) hfin hd0 hnar hfit (by simp [hkk.2.2.2.1]) hd (fun H1 locs1 hP1 hD1 hS1 => ?_)
  · rw [pool_at e2, pcell, e1, if_neg hkk.1, if_neg hkk.2.1]
  · rw [pool_sti e1 hkk.1 hkk.2.1 hkk.2.2.1] at hP1
    exact kk h1 (wkt (wkt h2)) H1 locs1 ls hP1 hS1 hl0
theorem w_ald {j n k nn : Nat} {i : Int32} (hM : MX cy G ad D p s m args meth c cc nL own ret A) (hlen : k = 100 + nn) (hin : vp_in i nn) (hd : decode cc pc = .ok (.iaload, 1)) (hn : pc + 1 = n) (kk : WW cy G ad D p l e R s m args below meth c nL A post n lv (vi (S.2 j i.toNatClampNeg) :: st) S) : WW cy G ad D p l e R s m args below meth c nL A post pc lv (vi i :: vr k j :: st) S := by
  subst hn
  intro h1 h2 H locs ls hP hS hl0
  obtain ⟨e1, e2⟩ := wkh (wkt h2)
  dsimp only at e1 e2
  refine va_iald (D := D) (a := ad j) hM.1 hM.2.1 hM.2.2.2.2.2.1 hP j 0 (cA := cy.1) (n := nn) (f := S.2 j) ?_ rfl hin hd (kk h1 (wkc trivial (wkt (wkt h2))) H locs ls hP hS hl0)
  rw [pool_at e2, pcell, e1, hlen, if_pos (by omega), Nat.add_sub_cancel_left]
theorem w_ast {j n k nn : Nat} {i x : Int32} (hM : MX cy G ad D p s m args meth c cc nL own ret A) (hlen : k = 100 + nn) (hin : vp_in i nn) (hd : decode cc pc = .ok (.iastore, 1)) (hn : pc + 1 = n) (kk : WW cy G ad D p l e R s m args below meth c nL A post n lv st (sta S j i.toNatClampNeg x)) : WW cy G ad D p l e R s m args below meth c nL A post pc lv (vi x :: vi i :: vr k j :: st) S := by
  subst hn
  intro h1 h2 H locs ls hP hS hl0
  obtain ⟨e1, e2⟩ := wkh (wkt (wkt h2))
  dsimp only at e1 e2
  refine va_iast (D := D) (a := ad j) hM.1 hM.2.1 hM.2.2.2.2.2.1 hP (hM.2.2.2.2.2.2.1 S) hS j 0 (cA := cy.1) (n := nn) (f := S.2 j) ?_ rfl hin hd (fun H1 locs1 hP1 hD1 hS1 => ?_)
  · rw [pool_at e2, pcell, e1, hlen, if_pos (by omega), Nat.add_sub_cancel_left]
  · rw [pool_str (e1.trans hlen), str_upd] at hP1
    exact kk h1 (wkt (wkt (wkt h2))) H1 locs1 ls hP1 hS1 hl0
theorem w_zld {j n k nn : Nat} {i : Int32} (hM : MX cy G ad D p s m args meth c cc nL own ret A) (hlen : k = 20 + nn) (hlt : nn < 80) (hin : vp_in i nn) (hd : decode cc pc = .ok (.baload, 1)) (hn : pc + 1 = n) (kk : WW cy G ad D p l e R s m args below meth c nL A post n lv (vi (S.2 j i.toNatClampNeg) :: st) S) : WW cy G ad D p l e R s m args below meth c nL A post pc lv (vi i :: vr k j :: st) S := by
  subst hn
  intro h1 h2 H locs ls hP hS hl0
  obtain ⟨e1, e2⟩ := wkh (wkt h2)
  dsimp only at e1 e2
  refine va_zald (D := D) (a := ad j) hM.1 hM.2.1 hM.2.2.2.2.2.1 hP j 1 (cA := cy.2) (n := nn) (f := S.2 j) ?_ rfl hin hd (kk h1 (wkc trivial (wkt (wkt h2))) H locs ls hP hS hl0)
  rw [pool_at e2, pcell, e1, hlen, if_neg (by omega), if_pos (by omega), Nat.add_sub_cancel_left]
theorem w_zst {j n k nn : Nat} {i x : Int32} (hM : MX cy G ad D p s m args meth c cc nL own ret A) (hlen : k = 20 + nn) (hlt : nn < 80) (hin : vp_in i nn) (hd : decode cc pc = .ok (.bastore, 1)) (hn : pc + 1 = n) (kk : WW cy G ad D p l e R s m args below meth c nL A post n lv st (sta S j i.toNatClampNeg (vp_nar .boolean x))) : WW cy G ad D p l e R s m args below meth c nL A post pc lv (vi x :: vi i :: vr k j :: st) S := by
  subst hn
  intro h1 h2 H locs ls hP hS hl0
  obtain ⟨e1, e2⟩ := wkh (wkt (wkt h2))
  dsimp only at e1 e2
  refine va_zast (D := D) (a := ad j) hM.1 hM.2.1 hM.2.2.2.2.2.1 hP (hM.2.2.2.2.2.2.1 S) hS j 1 (cA := cy.2) (n := nn) (f := S.2 j) ?_ rfl hin hd (fun H1 locs1 hP1 hD1 hS1 => ?_)
  · rw [pool_at e2, pcell, e1, hlen, if_neg (by omega), if_pos (by omega), Nat.add_sub_cancel_left]
  · rw [pool_strz (e1.trans hlen) hlt, str_upd] at hP1
    exact kk h1 (wkt (wkt (wkt h2))) H1 locs1 ls hP1 hS1 hl0
theorem w_iret {x : Int32} (hM : MX cy G ad D p s m args meth c cc nL own (some .int) A) (hd : decode cc pc = .ok (.ireturn, 1)) (hp : post (some (vi x)) S) : WW cy G ad D p l e R s m args below meth c nL A post pc lv [vi x] S := by
  intro h1 h2 H locs ls hP hS hl0
  exact W.iret (v := x) hM.1 hM.2.1 hM.2.2.2.2.2.2.2.2.1 (fun t ht hW => ⟨⟨some (vi x), S, rfl, hp, fun y hy => by cases hy; trivial, by rw [ht]; exact hP⟩, hS.F ht⟩) hS.2.2 hd hM.2.2.2.2.2.2.2.2.2.1
theorem w_zret {x : Int32} (hM : MX cy G ad D p s m args meth c cc nL own (some .boolean) A) (hnar : narrow .boolean (.int x) = .int x) (hd : decode cc pc = .ok (.ireturn, 1)) (hp : post (some (vi x)) S) : WW cy G ad D p l e R s m args below meth c nL A post pc lv [vi x] S := by
  intro h1 h2 H locs ls hP hS hl0
  exact W.zret (v := x) hM.1 hM.2.1 hM.2.2.2.2.2.2.2.2.1 hnar (fun t ht hW => ⟨⟨some (vi x), S, rfl, hp, fun y hy => by cases hy; trivial, by rw [ht]; exact hP⟩, hS.F ht⟩) hS.2.2 hd hM.2.2.2.2.2.2.2.2.2.1
theorem w_lret {x : Int64} (hM : MX cy G ad D p s m args meth c cc nL own (some .long) A) (hd : decode cc pc = .ok (.lreturn, 1)) (hp : post (some (vl x)) S) : WW cy G ad D p l e R s m args below meth c nL A post pc lv [vl x] S := by
  intro h1 h2 H locs ls hP hS hl0
  exact W.lret (v := x) hM.1 hM.2.1 hM.2.2.2.2.2.2.2.2.1 (fun t ht hW => ⟨⟨some (vl x), S, rfl, hp, fun y hy => by cases hy; trivial, by rw [ht]; exact hP⟩, hS.F ht⟩) hS.2.2 hd hM.2.2.2.2.2.2.2.2.2.1
theorem w_vret (hM : MX cy G ad D p s m args meth c cc nL own none A) (hd : decode cc pc = .ok (.return_, 1)) (hp : post none S) : WW cy G ad D p l e R s m args below meth c nL A post pc lv [] S := by
  intro h1 h2 H locs ls hP hS hl0
  exact W.vret hM.1 hM.2.1 hM.2.2.2.2.2.2.2.2.1 (fun t ht hW => ⟨⟨none, S, rfl, hp, fun y hy => (by cases hy), by rw [ht]; exact hP⟩, hS.F ht⟩) hS.2.2 hd hM.2.2.2.2.2.2.2.2.2.1
theorem w_aret {x : Option (Nat × Nat)} {C : String} (hM : MX cy G ad D p s m args meth c cc nL own (some (.object C)) A) (hd : decode cc pc = .ok (.areturn, 1)) (hp : post (some (.inr x)) S) : WW cy G ad D p l e R s m args below meth c nL A post pc lv [.inr x] S := by
  intro h1 h2 H locs ls hP hS hl0
  exact W.aret (v := cv ad (.inr x)) hM.1 hM.2.1 hM.2.2.2.2.2.2.2.2.1 (Or.inl ⟨_, rfl⟩) (by rcases x with _ | q; exact Or.inl rfl; exact Or.inr ⟨_, rfl⟩) (fun t ht hW => ⟨⟨some (.inr x), S, rfl, hp, fun y hy => by cases hy; exact wkh h2, by rw [ht]; exact hP⟩, hS.F ht⟩) hS.2.2 hd hM.2.2.2.2.2.2.2.2.2.1
theorem w_max {idx n : Nat} {x y : Int32} (hM : MX cy G ad D p s m args meth c cc nL own ret A) (hws : Cond.methodLink own idx Lib.Math.max.name ∈ LG ∧ Cond.static Lib.Math.max.name ∈ LG ∧ Cond.initialized "java/lang/Math" ∈ LG ∧ Cond.code Lib.Math.max.name Lib.Math.max.code 2 (some .int) ∈ LG) (hf : 1 ≤ R.frames ∧ 21 ≤ R.locals) (hroom : (st.map acat).sum ≤ 8) (hd : decode cc pc = .ok (.invokestatic idx, 3)) (hn : pc + 3 = n) (kk : WW cy G ad D p l e R s m args below meth c nL A post n lv (vi (if x < y then y else x) :: st) S) : WW cy G ad D p l e R s m args below meth c nL A post pc lv (vi y :: vi x :: st) S := by
  subst hn
  intro h1 h2 H locs ls hP hS hl0
  exact va_mmax hM.1 hM.2.1 (hM.2.2.1.trans hl0.1.symm) hM.2.2.2.1 (hM.2.2.2.2.1 _ hws.1) (hM.2.2.2.2.1 _ hws.2.1) (hM.2.2.2.2.1 _ hws.2.2.1) (hM.2.2.2.2.1 _ hws.2.2.2) hf.1 (by rw [acat_eq]; omega) (Nat.zero_le _) (Nat.zero_le _) hd (kk h1 (wkc trivial (wkt (wkt h2))) H locs ls hP hS hl0)
theorem w_min {idx n : Nat} {x y : Int32} (hM : MX cy G ad D p s m args meth c cc nL own ret A) (hws : Cond.methodLink own idx Lib.Math.min.name ∈ LG ∧ Cond.static Lib.Math.min.name ∈ LG ∧ Cond.initialized "java/lang/Math" ∈ LG ∧ Cond.code Lib.Math.min.name Lib.Math.min.code 2 (some .int) ∈ LG) (hf : 1 ≤ R.frames ∧ 21 ≤ R.locals) (hroom : (st.map acat).sum ≤ 8) (hd : decode cc pc = .ok (.invokestatic idx, 3)) (hn : pc + 3 = n) (kk : WW cy G ad D p l e R s m args below meth c nL A post n lv (vi (if y < x then y else x) :: st) S) : WW cy G ad D p l e R s m args below meth c nL A post pc lv (vi y :: vi x :: st) S := by
  subst hn
  intro h1 h2 H locs ls hP hS hl0
  exact va_mmin hM.1 hM.2.1 (hM.2.2.1.trans hl0.1.symm) hM.2.2.2.1 (hM.2.2.2.2.1 _ hws.1) (hM.2.2.2.2.1 _ hws.2.1) (hM.2.2.2.2.1 _ hws.2.2.1) (hM.2.2.2.2.1 _ hws.2.2.2) hf.1 (by rw [acat_eq]; omega) (Nat.zero_le _) (Nat.zero_le _) hd (kk h1 (wkc trivial (wkt (wkt h2))) H locs ls hP hS hl0)
theorem w_abs {idx n : Nat} {x : Int32} (hM : MX cy G ad D p s m args meth c cc nL own ret A) (hws : Cond.methodLink own idx Lib.Math.abs.name ∈ LG ∧ Cond.static Lib.Math.abs.name ∈ LG ∧ Cond.initialized "java/lang/Math" ∈ LG ∧ Cond.code Lib.Math.abs.name Lib.Math.abs.code 1 (some .int) ∈ LG) (hf : 1 ≤ R.frames ∧ 21 ≤ R.locals) (hroom : (st.map acat).sum ≤ 8) (hd : decode cc pc = .ok (.invokestatic idx, 3)) (hn : pc + 3 = n) (kk : WW cy G ad D p l e R s m args below meth c nL A post n lv (vi (if 0 ≤ x then x else 0 - x) :: st) S) : WW cy G ad D p l e R s m args below meth c nL A post pc lv (vi x :: st) S := by
  subst hn
  intro h1 h2 H locs ls hP hS hl0
  exact va_mabs hM.1 hM.2.1 (hM.2.2.1.trans hl0.1.symm) hM.2.2.2.1 (hM.2.2.2.2.1 _ hws.1) (hM.2.2.2.2.1 _ hws.2.1) (hM.2.2.2.2.1 _ hws.2.2.1) (hM.2.2.2.2.1 _ hws.2.2.2) hf.1 (by rw [acat_eq]; omega) (Nat.zero_le _) (Nat.zero_le _) hd (kk h1 (wkc trivial (wkt h2)) H locs ls hP hS hl0)
theorem w_copy {idx n k0 k1 j0 j1 n0 n1 : Nat} {sp dp len : Int32} (hM : MX cy G ad D p s m args meth c cc nL own ret A) (hws : Cond.methodLink own idx arraycopyName ∈ LG ∧ Cond.native arraycopyName ∈ LG ∧ Cond.static arraycopyName ∈ LG ∧ Cond.initialized "java/lang/System" ∈ LG) (h0 : k0 = 100 + n0) (h1 : k1 = 100 + n1) (hc : ¬ (sp < 0 ∨ dp < 0 ∨ len < 0 ∨ n0 < sp.toNatClampNeg + len.toNatClampNeg ∨ n1 < dp.toNatClampNeg + len.toNatClampNeg)) (hf : 1 ≤ R.frames ∧ 8 + (nativeFrameWords "java/lang/System" "arraycopy" 5 + 11) ≤ R.locals) (hroom : (st.map acat).sum ≤ 8) (hd : decode cc pc = .ok (.invokestatic idx, 3)) (hn : pc + 3 = n) (kk : WW cy G ad D p l e R s m args below meth c nL A post n lv st (str S j1 (va_cpy (S.2 j0) (S.2 j1) sp.toNatClampNeg dp.toNatClampNeg len.toNatClampNeg))) : WW cy G ad D p l e R s m args below meth c nL A post pc lv (vi len :: vi dp :: vr k1 j1 :: vi sp :: vr k0 j0 :: st) S := by
  subst hn
  intro h1' h2 H locs ls hP hS hl0
  obtain ⟨e1, e2⟩ := wkh (wkt (wkt h2))
  obtain ⟨e3, e4⟩ := wkh (wkt (wkt (wkt (wkt h2))))
  dsimp only at e1 e2 e3 e4
  have hc1 : ¬ sp < 0 := fun q => hc (Or.inl q)
  have hc2 : ¬ dp < 0 := fun q => hc (Or.inr (Or.inl q))
  have hc3 : ¬ len < 0 := fun q => hc (Or.inr (Or.inr (Or.inl q)))
  have hc4 : ¬ n0 < sp.toNatClampNeg + len.toNatClampNeg := fun q => hc (Or.inr (Or.inr (Or.inr (Or.inl q))))
  have hc5 : ¬ n1 < dp.toNatClampNeg + len.toNatClampNeg := fun q => hc (Or.inr (Or.inr (Or.inr (Or.inr q))))
  refine va_copyi (D := D) (a := ad j1) (a0 := ad j0) (ty := .int) (c0 := cy.1) (c1 := cy.1) (n0 := n0) (n1 := n1) (f := S.2 j0) (g := S.2 j1) hM.1 hM.2.1 (hM.2.2.1.trans hl0.1.symm) hM.2.2.2.1 (hM.2.2.2.2.1 _ hws.1) (hM.2.2.2.2.1 _ hws.2.1) (hM.2.2.2.2.1 _ hws.2.2.1) (hM.2.2.2.2.1 _ hws.2.2.2) hM.2.2.2.2.2.1 hP (hM.2.2.2.2.2.2.1 S) hS j0 j1 0 0 ?_ ?_ rfl rfl rfl hc1 hc2 hc3 (by omega) (by omega) (fun _ _ => rfl) hf.1 (by rw [acat_eq]; omega) hd (fun H1 locs1 hP1 hD1 hS1 => ?_)
  · rw [pool_at e4, pcell, e3, h0, if_pos (by omega), Nat.add_sub_cancel_left]
  · rw [pool_at e2, pcell, e1, h1, if_pos (by omega), Nat.add_sub_cancel_left]
  · rw [pool_str (e1.trans h1)] at hP1
    exact kk h1' (wkt (wkt (wkt (wkt (wkt h2))))) H1 locs1 ls hP1 hS1 hl0
theorem fbl {As : List AV} {sz : Nat} : FrameBlind (va_Pc (As.map (cv ad)) (fun U => U.heap.size = sz ∧ va_P D vwCl (pool cy G ad S) U.heap ∧ va_K D vwCl (ptys cy) U ∧ va_D (fun _ => True) (pool cy G ad S) ∧ NF U)) := by
  intro a U g mk q
  obtain ⟨q0, q1, qP, qK, qD, qN⟩ := q
  exact ⟨q0, q1, qP, va_K.moved (u := U) (U := U.calling g mk a) (Vm.Alike.refl U.vm) qK, qD, NF.same (s := U) (U := U.calling g mk a) rfl qN⟩
/-- the end of a call: what came back -/
theorem w_back {rest : List AV} {post1 : Option AV → PS → Prop} {n : Nat} {aa : Array Value} {H : Heap} {locs : List Loc} {ls : Array Slot} {st0 : List Value} (hM : MX cy G ad D p s m args meth c cc nL own ret A) (hS : va_S A s.heap H locs) (h1 : ∀ q ∈ lv, wk G q.2) (h2 : ∀ v ∈ rest, wk G v) (hl0 : lv_has ls nL (lv.map (cq ad)))
    (hr : va_Run p l e R s m args below meth c H locs 0 0 0 0 (F0 m pc ls st0) (rest.map (cv ad)) (pq cy G ad D post1 (va_A (pool cy G ad S) H.size) aa) (va_A (pool cy G ad S) H.size)) (hn : pc + 3 = n)
    (kk : ∀ v S', post1 v S' → WW cy G ad D p l e R s m args below meth c nL A post n lv (v.toList ++ rest) S') : W p l e R s m args below meth c H locs 0 0 (RQ cy G ad D s args below A post) (F0 m pc ls st0) := by
  subst hn
  have hA1 : ∀ q, va_A (pool cy G ad S) H.size q → A q := by
    intro q hq
    rcases hq with ⟨k, e, hk⟩ | hq
    · exact (hM.2.2.2.2.2.2.1 S).2 k _ hk
    · exact hM.2.2.2.2.2.2.2.1 q (Nat.le_trans hS.1 hq)
  intro T hT X
  obtain ⟨v, st₀, t, T', L, h0, X', hL, e1, e2, ⟨⟨v', S', hv, hp, hvw, hP1⟩, hz, hk⟩, sts⟩ := hr T hT X
  have hv2 : v = v'.map (cv ad) := by cases hv; rfl
  subst hv2
  rw [h0] at hz hk
  obtain ⟨t2, a1, b1⟩ := kk v' S' hp h1 (by
      intro w hw
      rcases List.mem_append.mp hw with h | h
      · rcases v' with _ | x
        · simp at h
        · simp at h; subst h; exact hvw _ rfl
      · exact h2 w h) T'.heap (locs ++ L) ls (by rw [e1]; exact hP1)
    ⟨Nat.le_trans hS.1 (by rw [e1]; exact hz), fun q h3 h4 => by rw [e1, hk q (Nat.lt_of_lt_of_le h3 hS.1) (fun z => h4 (hA1 q z))]; exact hS.2.1 q h3 h4, fun q hq => by
      rcases List.mem_append.mp hq with h | h
      · exact hS.2.2 q h
      · exact hA1 _ (hL q h)⟩ hl0 T' rfl X'
  refine ⟨t2, sts t2 ?_, b1⟩
  have e : (v'.toList ++ rest).map (cv ad) = (v'.map (cv ad)).toList ++ rest.map (cv ad) := by
    rcases v' with _ | x <;> simp
  rw [e] at a1
  exact a1
theorem w_callV {y : MethodName} {rm2 : Room} {As rest : List AV} {post1 : Option AV → PS → Prop} {n k j idx maxL2 na : Nat} {C : String} {T : u_T} {N : Nat} {bytes : ByteArray} {ret2 : Option FieldType} (hM : MX cy G ad D p s m args meth c cc nL own ret A) (hC : PM cy G ad D l y (wA y bytes maxL2 ret2) rm2 (vr k j :: As) S post1)
    (hlm : Cond.methodLink own idx y ∈ LG) (hmv : mV y C bytes maxL2 ret2 na) (hrm : rm2.cells = 0 ∧ rm2.slots = 0 ∧ rm2.frames + 1 ≤ R.frames ∧ 8 + (maxL2 + 11) + rm2.locals ≤ R.locals) (hc : vwCl[k]? = some (C, T, N)) (hk : ¬ 100 ≤ k ∧ ¬ 20 ≤ k) (hna : As.length = na) (hroom : (rest.map acat).sum ≤ 8) (hst : st = As.reverse ++ vr k j :: rest) (hd : decode cc pc = .ok (.invokevirtual idx, 3)) (hn : pc + 3 = n)
    (kk : ∀ v S', post1 v S' → WW cy G ad D p l e R s m args below meth c nL A post n lv (v.toList ++ rest) S') : WW cy G ad D p l e R s m args below meth c nL A post pc lv st S := by
  subst hst
  intro h1 h2 H locs ls hP hS hl0
  have h2r : ∀ v ∈ rest, wk G v := fun v hv => h2 v (List.mem_append_right _ (List.mem_cons_of_mem _ hv))
  have h2a : ∀ v ∈ vr k j :: As, wk G v := fun v hv => by
    rcases List.mem_cons.mp hv with h | h
    · rw [h]; exact h2 _ (List.mem_append_right _ List.mem_cons_self)
    · exact h2 v (List.mem_append_left _ (List.mem_reverse.mpr h))
  obtain ⟨e1, e2⟩ := h2a _ List.mem_cons_self
  dsimp only at e1 e2
  have hD0 : va_D (fun _ => True) (pool cy G ad S) := (hM.2.2.2.2.2.2.1 S).weaken (fun _ _ _ _ => trivial)
  refine w_back (S := S) hM hS h1 h2r hl0 (aa := (Value.ref (ad j) :: As.map (cv ad)).toArray) (va_runV (nL := nL) (As := As.map (cv ad)) (rest := rest.map (cv ad)) (b := ad j) (Ts := LG) (own := own) ⟨hM.1, hM.2.1, hM.2.2.1, hM.2.2.2.1, hM.2.2.2.2.1⟩ (hC h2a H.size) (cwV' hM.2.2.2.2.1 hlm hmv hrm) ⟨fbl, va_recv (fs := (List.range (nfk k)).map (pval G ad S j)) hM.2.2.2.2.2.1 hP (ci := k) (q0 := j) hc ?_, fun U hU hW => ⟨rfl, by rw [hU], by rw [hU]; exact hP, va_K.moved hW.alike hM.2.2.2.2.2.1, hD0, NF.warm hW hM.2.2.2.2.2.2.2.2.2.2.1⟩⟩ rfl (by rw [List.length_map]; exact hna) hl0.1 (by simp [cv]) (lv_room (by rw [acat_eq]; exact hroom)) hd ⟨Nat.zero_le _, Nat.zero_le _⟩) hn kk
  rw [pool_at e2, pcell, e1, if_neg hk.1, if_neg hk.2]
theorem w_callS {y : MethodName} {rm2 : Room} {As rest : List AV} {post1 : Option AV → PS → Prop} {n idx maxL2 na : Nat} {bytes : ByteArray} {ret2 : Option FieldType} (hM : MX cy G ad D p s m args meth c cc nL own ret A) (hC : PM cy G ad D l y (wA y bytes maxL2 ret2) rm2 As S post1)
    (hlm : Cond.methodLink own idx y ∈ LG) (hmv : mS y bytes maxL2 ret2 na) (hrm : rm2.cells = 0 ∧ rm2.slots = 0 ∧ rm2.frames + 1 ≤ R.frames ∧ 8 + (maxL2 + 11) + rm2.locals ≤ R.locals) (hna : As.length = na) (hroom : (rest.map acat).sum ≤ 8) (hst : st = As.reverse ++ rest) (hd : decode cc pc = .ok (.invokestatic idx, 3)) (hn : pc + 3 = n)
    (kk : ∀ v S', post1 v S' → WW cy G ad D p l e R s m args below meth c nL A post n lv (v.toList ++ rest) S') : WW cy G ad D p l e R s m args below meth c nL A post pc lv st S := by
  subst hst
  intro h1 h2 H locs ls hP hS hl0
  have h2r : ∀ v ∈ rest, wk G v := fun v hv => h2 v (List.mem_append_right _ hv)
  have h2a : ∀ v ∈ As, wk G v := fun v hv => h2 v (List.mem_append_left _ (List.mem_reverse.mpr hv))
  have hD0 : va_D (fun _ => True) (pool cy G ad S) := (hM.2.2.2.2.2.2.1 S).weaken (fun _ _ _ _ => trivial)
  exact w_back (S := S) hM hS h1 h2r hl0 (aa := (As.map (cv ad)).toArray) (va_runS (nL := nL) (As := As.map (cv ad)) (rest := rest.map (cv ad)) (Ts := LG) (own := own) ⟨hM.1, hM.2.1, hM.2.2.1, hM.2.2.2.1, hM.2.2.2.2.1⟩ (hC h2a H.size) (cwS' hM.2.2.2.2.1 hlm hmv hrm) ⟨fbl, fun U hU hW => ⟨rfl, by rw [hU], by rw [hU]; exact hP, va_K.moved hW.alike hM.2.2.2.2.2.1, hD0, NF.warm hW hM.2.2.2.2.2.2.2.2.2.2.1⟩⟩ rfl (by rw [List.length_map]; exact hna) hl0.1 (by simp) (lv_room (by rw [acat_eq]; exact hroom)) hd ⟨Nat.zero_le _, Nat.zero_le _⟩) hn kk
theorem w_callSN {y : MethodName} {rm2 : Room} {As rest : List AV} {post1 : Option AV → PS → Prop} {n idx maxL2 na : Nat} {host : String} {bytes : ByteArray} {ret2 : Option FieldType} (hM : MX cy G ad D p s m args meth c cc nL own ret A) (hC : PM cy G ad D l y (wA y bytes maxL2 ret2) rm2 As S post1)
    (hlm : NF s → va_Nw (.methodLinkNest own idx y host) s) (hmv : mS y bytes maxL2 ret2 na) (hrm : rm2.cells = 0 ∧ rm2.slots = 0 ∧ rm2.frames + 1 ≤ R.frames ∧ 8 + (maxL2 + 11) + rm2.locals ≤ R.locals) (hna : As.length = na) (hroom : (rest.map acat).sum ≤ 8) (hst : st = As.reverse ++ rest) (hd : decode cc pc = .ok (.invokestatic idx, 3)) (hn : pc + 3 = n)
    (kk : ∀ v S', post1 v S' → WW cy G ad D p l e R s m args below meth c nL A post n lv (v.toList ++ rest) S') : WW cy G ad D p l e R s m args below meth c nL A post pc lv st S := by
  subst hst
  intro h1 h2 H locs ls hP hS hl0
  have h2r : ∀ v ∈ rest, wk G v := fun v hv => h2 v (List.mem_append_right _ hv)
  have h2a : ∀ v ∈ As, wk G v := fun v hv => h2 v (List.mem_append_left _ (List.mem_reverse.mpr hv))
  have hD0 : va_D (fun _ => True) (pool cy G ad S) := (hM.2.2.2.2.2.2.1 S).weaken (fun _ _ _ _ => trivial)
  exact w_back (S := S) hM hS h1 h2r hl0 (aa := (As.map (cv ad)).toArray) (va_runSN (nL := nL) (As := As.map (cv ad)) (rest := rest.map (cv ad)) (Ts := LG) (own := own) ⟨hM.1, hM.2.1, hM.2.2.1, hM.2.2.2.1, hM.2.2.2.2.1⟩ (hC h2a H.size) (cwN' hM.2.2.2.2.1 (hlm hM.2.2.2.2.2.2.2.2.2.2.1) hmv hrm) ⟨fbl, fun U hU hW => ⟨rfl, by rw [hU], by rw [hU]; exact hP, va_K.moved hW.alike hM.2.2.2.2.2.1, hD0, NF.warm hW hM.2.2.2.2.2.2.2.2.2.2.1⟩⟩ rfl (by rw [List.length_map]; exact hna) hl0.1 (by simp) (lv_room (by rw [acat_eq]; exact hroom)) hd ⟨Nat.zero_le _, Nat.zero_le _⟩) hn kk
theorem w_callVi {y : MethodName} {rm2 : Room} {As rest : List AV} {q1 : Int32 → PS → Prop} {n idx maxL2 na : Nat} {k j : Nat} {C : String} {T : u_T} {N : Nat} {bytes : ByteArray} {ret2 : Option FieldType} (hM : MX cy G ad D p s m args meth c cc nL own ret A) (hC : PM cy G ad D l y (wA y bytes maxL2 ret2) rm2 (vr k j :: As) S (poi q1)) (hlm : Cond.methodLink own idx y ∈ LG) (hmv : mV y C bytes maxL2 ret2 na) (hrm : rm2.cells = 0 ∧ rm2.slots = 0 ∧ rm2.frames + 1 ≤ R.frames ∧ 8 + (maxL2 + 11) + rm2.locals ≤ R.locals) (hc : vwCl[k]? = some (C, T, N)) (hk : ¬ 100 ≤ k ∧ ¬ 20 ≤ k) (hna : As.length = na) (hroom : (rest.map acat).sum ≤ 8) (hst : st = As.reverse ++ vr k j :: rest) (hd : decode cc pc = .ok (.invokevirtual idx, 3)) (hn : pc + 3 = n) (kk : ∀ x S', q1 x S' → WW cy G ad D p l e R s m args below meth c nL A post n lv (vi x :: rest) S') : WW cy G ad D p l e R s m args below meth c nL A post pc lv st S :=
  w_callV hM hC hlm hmv hrm hc hk hna hroom hst hd hn (fun v S' hp => by
    obtain ⟨x, hx, hq⟩ := hp
    subst hx
    exact kk x S' hq)
theorem w_callSi {y : MethodName} {rm2 : Room} {As rest : List AV} {q1 : Int32 → PS → Prop} {n idx maxL2 na : Nat} {bytes : ByteArray} {ret2 : Option FieldType} (hM : MX cy G ad D p s m args meth c cc nL own ret A) (hC : PM cy G ad D l y (wA y bytes maxL2 ret2) rm2 (As) S (poi q1)) (hlm : Cond.methodLink own idx y ∈ LG) (hmv : mS y bytes maxL2 ret2 na) (hrm : rm2.cells = 0 ∧ rm2.slots = 0 ∧ rm2.frames + 1 ≤ R.frames ∧ 8 + (maxL2 + 11) + rm2.locals ≤ R.locals) (hna : As.length = na) (hroom : (rest.map acat).sum ≤ 8) (hst : st = As.reverse ++ rest) (hd : decode cc pc = .ok (.invokestatic idx, 3)) (hn : pc + 3 = n) (kk : ∀ x S', q1 x S' → WW cy G ad D p l e R s m args below meth c nL A post n lv (vi x :: rest) S') : WW cy G ad D p l e R s m args below meth c nL A post pc lv st S :=
  w_callS hM hC hlm hmv hrm hna hroom hst hd hn (fun v S' hp => by
    obtain ⟨x, hx, hq⟩ := hp
    subst hx
    exact kk x S' hq)
theorem w_callSNi {y : MethodName} {rm2 : Room} {As rest : List AV} {q1 : Int32 → PS → Prop} {n idx maxL2 na : Nat} {host : String} {bytes : ByteArray} {ret2 : Option FieldType} (hM : MX cy G ad D p s m args meth c cc nL own ret A) (hC : PM cy G ad D l y (wA y bytes maxL2 ret2) rm2 (As) S (poi q1)) (hlm : NF s → va_Nw (.methodLinkNest own idx y host) s) (hmv : mS y bytes maxL2 ret2 na) (hrm : rm2.cells = 0 ∧ rm2.slots = 0 ∧ rm2.frames + 1 ≤ R.frames ∧ 8 + (maxL2 + 11) + rm2.locals ≤ R.locals) (hna : As.length = na) (hroom : (rest.map acat).sum ≤ 8) (hst : st = As.reverse ++ rest) (hd : decode cc pc = .ok (.invokestatic idx, 3)) (hn : pc + 3 = n) (kk : ∀ x S', q1 x S' → WW cy G ad D p l e R s m args below meth c nL A post n lv (vi x :: rest) S') : WW cy G ad D p l e R s m args below meth c nL A post pc lv st S :=
  w_callSN hM hC hlm hmv hrm hna hroom hst hd hn (fun v S' hp => by
    obtain ⟨x, hx, hq⟩ := hp
    subst hx
    exact kk x S' hq)
theorem w_callVl {y : MethodName} {rm2 : Room} {As rest : List AV} {q1 : Int64 → PS → Prop} {n idx maxL2 na : Nat} {k j : Nat} {C : String} {T : u_T} {N : Nat} {bytes : ByteArray} {ret2 : Option FieldType} (hM : MX cy G ad D p s m args meth c cc nL own ret A) (hC : PM cy G ad D l y (wA y bytes maxL2 ret2) rm2 (vr k j :: As) S (pol q1)) (hlm : Cond.methodLink own idx y ∈ LG) (hmv : mV y C bytes maxL2 ret2 na) (hrm : rm2.cells = 0 ∧ rm2.slots = 0 ∧ rm2.frames + 1 ≤ R.frames ∧ 8 + (maxL2 + 11) + rm2.locals ≤ R.locals) (hc : vwCl[k]? = some (C, T, N)) (hk : ¬ 100 ≤ k ∧ ¬ 20 ≤ k) (hna : As.length = na) (hroom : (rest.map acat).sum ≤ 8) (hst : st = As.reverse ++ vr k j :: rest) (hd : decode cc pc = .ok (.invokevirtual idx, 3)) (hn : pc + 3 = n) (kk : ∀ x S', q1 x S' → WW cy G ad D p l e R s m args below meth c nL A post n lv (vl x :: rest) S') : WW cy G ad D p l e R s m args below meth c nL A post pc lv st S :=
  w_callV hM hC hlm hmv hrm hc hk hna hroom hst hd hn (fun v S' hp => by
    obtain ⟨x, hx, hq⟩ := hp
    subst hx
    exact kk x S' hq)
theorem w_callSl {y : MethodName} {rm2 : Room} {As rest : List AV} {q1 : Int64 → PS → Prop} {n idx maxL2 na : Nat} {bytes : ByteArray} {ret2 : Option FieldType} (hM : MX cy G ad D p s m args meth c cc nL own ret A) (hC : PM cy G ad D l y (wA y bytes maxL2 ret2) rm2 (As) S (pol q1)) (hlm : Cond.methodLink own idx y ∈ LG) (hmv : mS y bytes maxL2 ret2 na) (hrm : rm2.cells = 0 ∧ rm2.slots = 0 ∧ rm2.frames + 1 ≤ R.frames ∧ 8 + (maxL2 + 11) + rm2.locals ≤ R.locals) (hna : As.length = na) (hroom : (rest.map acat).sum ≤ 8) (hst : st = As.reverse ++ rest) (hd : decode cc pc = .ok (.invokestatic idx, 3)) (hn : pc + 3 = n) (kk : ∀ x S', q1 x S' → WW cy G ad D p l e R s m args below meth c nL A post n lv (vl x :: rest) S') : WW cy G ad D p l e R s m args below meth c nL A post pc lv st S :=
  w_callS hM hC hlm hmv hrm hna hroom hst hd hn (fun v S' hp => by
    obtain ⟨x, hx, hq⟩ := hp
    subst hx
    exact kk x S' hq)
theorem w_callSNl {y : MethodName} {rm2 : Room} {As rest : List AV} {q1 : Int64 → PS → Prop} {n idx maxL2 na : Nat} {host : String} {bytes : ByteArray} {ret2 : Option FieldType} (hM : MX cy G ad D p s m args meth c cc nL own ret A) (hC : PM cy G ad D l y (wA y bytes maxL2 ret2) rm2 (As) S (pol q1)) (hlm : NF s → va_Nw (.methodLinkNest own idx y host) s) (hmv : mS y bytes maxL2 ret2 na) (hrm : rm2.cells = 0 ∧ rm2.slots = 0 ∧ rm2.frames + 1 ≤ R.frames ∧ 8 + (maxL2 + 11) + rm2.locals ≤ R.locals) (hna : As.length = na) (hroom : (rest.map acat).sum ≤ 8) (hst : st = As.reverse ++ rest) (hd : decode cc pc = .ok (.invokestatic idx, 3)) (hn : pc + 3 = n) (kk : ∀ x S', q1 x S' → WW cy G ad D p l e R s m args below meth c nL A post n lv (vl x :: rest) S') : WW cy G ad D p l e R s m args below meth c nL A post pc lv st S :=
  w_callSN hM hC hlm hmv hrm hna hroom hst hd hn (fun v S' hp => by
    obtain ⟨x, hx, hq⟩ := hp
    subst hx
    exact kk x S' hq)
theorem w_callVr {y : MethodName} {rm2 : Room} {As rest : List AV} {q1 : Option (Nat × Nat) → PS → Prop} {n idx maxL2 na : Nat} {k j : Nat} {C : String} {T : u_T} {N : Nat} {bytes : ByteArray} {ret2 : Option FieldType} (hM : MX cy G ad D p s m args meth c cc nL own ret A) (hC : PM cy G ad D l y (wA y bytes maxL2 ret2) rm2 (vr k j :: As) S (por q1)) (hlm : Cond.methodLink own idx y ∈ LG) (hmv : mV y C bytes maxL2 ret2 na) (hrm : rm2.cells = 0 ∧ rm2.slots = 0 ∧ rm2.frames + 1 ≤ R.frames ∧ 8 + (maxL2 + 11) + rm2.locals ≤ R.locals) (hc : vwCl[k]? = some (C, T, N)) (hk : ¬ 100 ≤ k ∧ ¬ 20 ≤ k) (hna : As.length = na) (hroom : (rest.map acat).sum ≤ 8) (hst : st = As.reverse ++ vr k j :: rest) (hd : decode cc pc = .ok (.invokevirtual idx, 3)) (hn : pc + 3 = n) (kk : ∀ x S', q1 x S' → WW cy G ad D p l e R s m args below meth c nL A post n lv ((.inr x) :: rest) S') : WW cy G ad D p l e R s m args below meth c nL A post pc lv st S :=
  w_callV hM hC hlm hmv hrm hc hk hna hroom hst hd hn (fun v S' hp => by
    obtain ⟨x, hx, hq⟩ := hp
    subst hx
    exact kk x S' hq)
theorem w_callSr {y : MethodName} {rm2 : Room} {As rest : List AV} {q1 : Option (Nat × Nat) → PS → Prop} {n idx maxL2 na : Nat} {bytes : ByteArray} {ret2 : Option FieldType} (hM : MX cy G ad D p s m args meth c cc nL own ret A) (hC : PM cy G ad D l y (wA y bytes maxL2 ret2) rm2 (As) S (por q1)) (hlm : Cond.methodLink own idx y ∈ LG) (hmv : mS y bytes maxL2 ret2 na) (hrm : rm2.cells = 0 ∧ rm2.slots = 0 ∧ rm2.frames + 1 ≤ R.frames ∧ 8 + (maxL2 + 11) + rm2.locals ≤ R.locals) (hna : As.length = na) (hroom : (rest.map acat).sum ≤ 8) (hst : st = As.reverse ++ rest) (hd : decode cc pc = .ok (.invokestatic idx, 3)) (hn : pc + 3 = n) (kk : ∀ x S', q1 x S' → WW cy G ad D p l e R s m args below meth c nL A post n lv ((.inr x) :: rest) S') : WW cy G ad D p l e R s m args below meth c nL A post pc lv st S :=
  w_callS hM hC hlm hmv hrm hna hroom hst hd hn (fun v S' hp => by
    obtain ⟨x, hx, hq⟩ := hp
    subst hx
    exact kk x S' hq)
theorem w_callSNr {y : MethodName} {rm2 : Room} {As rest : List AV} {q1 : Option (Nat × Nat) → PS → Prop} {n idx maxL2 na : Nat} {host : String} {bytes : ByteArray} {ret2 : Option FieldType} (hM : MX cy G ad D p s m args meth c cc nL own ret A) (hC : PM cy G ad D l y (wA y bytes maxL2 ret2) rm2 (As) S (por q1)) (hlm : NF s → va_Nw (.methodLinkNest own idx y host) s) (hmv : mS y bytes maxL2 ret2 na) (hrm : rm2.cells = 0 ∧ rm2.slots = 0 ∧ rm2.frames + 1 ≤ R.frames ∧ 8 + (maxL2 + 11) + rm2.locals ≤ R.locals) (hna : As.length = na) (hroom : (rest.map acat).sum ≤ 8) (hst : st = As.reverse ++ rest) (hd : decode cc pc = .ok (.invokestatic idx, 3)) (hn : pc + 3 = n) (kk : ∀ x S', q1 x S' → WW cy G ad D p l e R s m args below meth c nL A post n lv ((.inr x) :: rest) S') : WW cy G ad D p l e R s m args below meth c nL A post pc lv st S :=
  w_callSN hM hC hlm hmv hrm hna hroom hst hd hn (fun v S' hp => by
    obtain ⟨x, hx, hq⟩ := hp
    subst hx
    exact kk x S' hq)
theorem w_callVv {y : MethodName} {rm2 : Room} {As rest : List AV} {q1 : PS → Prop} {n idx maxL2 na : Nat} {k j : Nat} {C : String} {T : u_T} {N : Nat} {bytes : ByteArray} {ret2 : Option FieldType} (hM : MX cy G ad D p s m args meth c cc nL own ret A) (hC : PM cy G ad D l y (wA y bytes maxL2 ret2) rm2 (vr k j :: As) S (pov q1)) (hlm : Cond.methodLink own idx y ∈ LG) (hmv : mV y C bytes maxL2 ret2 na) (hrm : rm2.cells = 0 ∧ rm2.slots = 0 ∧ rm2.frames + 1 ≤ R.frames ∧ 8 + (maxL2 + 11) + rm2.locals ≤ R.locals) (hc : vwCl[k]? = some (C, T, N)) (hk : ¬ 100 ≤ k ∧ ¬ 20 ≤ k) (hna : As.length = na) (hroom : (rest.map acat).sum ≤ 8) (hst : st = As.reverse ++ vr k j :: rest) (hd : decode cc pc = .ok (.invokevirtual idx, 3)) (hn : pc + 3 = n) (kk : ∀ S', q1 S' → WW cy G ad D p l e R s m args below meth c nL A post n lv rest S') : WW cy G ad D p l e R s m args below meth c nL A post pc lv st S :=
  w_callV hM hC hlm hmv hrm hc hk hna hroom hst hd hn (fun v S' hp => by
    obtain ⟨hx, hq⟩ := hp
    subst hx
    exact kk S' hq)
theorem w_callSv {y : MethodName} {rm2 : Room} {As rest : List AV} {q1 : PS → Prop} {n idx maxL2 na : Nat} {bytes : ByteArray} {ret2 : Option FieldType} (hM : MX cy G ad D p s m args meth c cc nL own ret A) (hC : PM cy G ad D l y (wA y bytes maxL2 ret2) rm2 (As) S (pov q1)) (hlm : Cond.methodLink own idx y ∈ LG) (hmv : mS y bytes maxL2 ret2 na) (hrm : rm2.cells = 0 ∧ rm2.slots = 0 ∧ rm2.frames + 1 ≤ R.frames ∧ 8 + (maxL2 + 11) + rm2.locals ≤ R.locals) (hna : As.length = na) (hroom : (rest.map acat).sum ≤ 8) (hst : st = As.reverse ++ rest) (hd : decode cc pc = .ok (.invokestatic idx, 3)) (hn : pc + 3 = n) (kk : ∀ S', q1 S' → WW cy G ad D p l e R s m args below meth c nL A post n lv rest S') : WW cy G ad D p l e R s m args below meth c nL A post pc lv st S :=
  w_callS hM hC hlm hmv hrm hna hroom hst hd hn (fun v S' hp => by
    obtain ⟨hx, hq⟩ := hp
    subst hx
    exact kk S' hq)
theorem r_i {x : Int32} {q : Int32 → PS → Prop} (hM : MX cy G ad D p s m args meth c cc nL own (some .int) A) (hd : decode cc pc = .ok (.ireturn, 1)) (hp : q x S) : WW cy G ad D p l e R s m args below meth c nL A (poi q) pc lv [vi x] S := w_iret hM hd ⟨x, rfl, hp⟩
theorem r_z {x : Int32} {q : Int32 → PS → Prop} (hM : MX cy G ad D p s m args meth c cc nL own (some .boolean) A) (hnar : narrow .boolean (.int x) = .int x) (hd : decode cc pc = .ok (.ireturn, 1)) (hp : q x S) : WW cy G ad D p l e R s m args below meth c nL A (poi q) pc lv [vi x] S := w_zret hM hnar hd ⟨x, rfl, hp⟩
theorem r_l {x : Int64} {q : Int64 → PS → Prop} (hM : MX cy G ad D p s m args meth c cc nL own (some .long) A) (hd : decode cc pc = .ok (.lreturn, 1)) (hp : q x S) : WW cy G ad D p l e R s m args below meth c nL A (pol q) pc lv [vl x] S := w_lret hM hd ⟨x, rfl, hp⟩
theorem r_v {q : PS → Prop} (hM : MX cy G ad D p s m args meth c cc nL own none A) (hd : decode cc pc = .ok (.return_, 1)) (hp : q S) : WW cy G ad D p l e R s m args below meth c nL A (pov q) pc lv [] S := w_vret hM hd ⟨rfl, hp⟩
theorem r_a {x : Option (Nat × Nat)} {C : String} {q : Option (Nat × Nat) → PS → Prop} (hM : MX cy G ad D p s m args meth c cc nL own (some (.object C)) A) (hd : decode cc pc = .ok (.areturn, 1)) (hp : q x S) : WW cy G ad D p l e R s m args below meth c nL A (por q) pc lv [.inr x] S := w_aret hM hd ⟨x, rfl, hp⟩
end BW
