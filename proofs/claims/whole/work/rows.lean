section
-- ===== PART A: goes FIRST, ahead of the names: the tables' words, and 'selects' of the private methods out of them =====
/-- a private method of a class that the tables say can be made, by its rows of tables_1 -/
def lw_okq (q : MethodName × Nat) : Prop := (q.1.cls ≠ "java/lang/invoke/MethodHandle" ∧ q.1.cls ≠ "java/lang/invoke/VarHandle") ∧ Cond.instantiable q.1.cls q.2 ∈ tables_1 ∧ Cond.privateMethod q.1 ∈ tables_1 ∧ Cond.instanceMethod q.1 ∈ tables_1
theorem lw_p0 : lw_okq (⟨"PigLine", "reelAt", "(I)LPigLine$Reel;"⟩, 10) := ⟨⟨by decide +kernel, by decide +kernel⟩, List.mem_of_getElem? (i := 16) (by decide +kernel), List.mem_of_getElem? (i := 305) (by decide +kernel), List.mem_of_getElem? (i := 306) (by decide +kernel)⟩
theorem lw_p1 : lw_okq (⟨"PigLine", "runAt", "(I)LPigLine$Run;"⟩, 10) := ⟨⟨by decide +kernel, by decide +kernel⟩, List.mem_of_getElem? (i := 16) (by decide +kernel), List.mem_of_getElem? (i := 309) (by decide +kernel), List.mem_of_getElem? (i := 310) (by decide +kernel)⟩
theorem lw_p2 : lw_okq (⟨"PigLine", "found", "(I)I"⟩, 10) := ⟨⟨by decide +kernel, by decide +kernel⟩, List.mem_of_getElem? (i := 16) (by decide +kernel), List.mem_of_getElem? (i := 323) (by decide +kernel), List.mem_of_getElem? (i := 324) (by decide +kernel)⟩
theorem lw_p3 : lw_okq (⟨"PigLine$Run", "readingsTogether", "(I)I"⟩, 12) := ⟨⟨by decide +kernel, by decide +kernel⟩, List.mem_of_getElem? (i := 24) (by decide +kernel), List.mem_of_getElem? (i := 390) (by decide +kernel), List.mem_of_getElem? (i := 391) (by decide +kernel)⟩
theorem lw_p4 : lw_okq (⟨"PigLine$Book", "withPair", "(LPigLine$Run;II)I"⟩, 5) := ⟨⟨by decide +kernel, by decide +kernel⟩, List.mem_of_getElem? (i := 140) (by decide +kernel), List.mem_of_getElem? (i := 443) (by decide +kernel), List.mem_of_getElem? (i := 444) (by decide +kernel)⟩
theorem lw_p5 : lw_okq (⟨"PigLine$Book", "lastFeltNotLeftOut", "(LPigLine$Run;II)I"⟩, 5) := ⟨⟨by decide +kernel, by decide +kernel⟩, List.mem_of_getElem? (i := 140) (by decide +kernel), List.mem_of_getElem? (i := 463) (by decide +kernel), List.mem_of_getElem? (i := 464) (by decide +kernel)⟩
theorem lw_p6 : lw_okq (⟨"PigLine$Marks", "spread", "(III)V"⟩, 8) := ⟨⟨by decide +kernel, by decide +kernel⟩, List.mem_of_getElem? (i := 51) (by decide +kernel), List.mem_of_getElem? (i := 492) (by decide +kernel), List.mem_of_getElem? (i := 493) (by decide +kernel)⟩
theorem lw_p7 : lw_okq (⟨"PigLine$Marks", "areNear", "(IIII)Z"⟩, 8) := ⟨⟨by decide +kernel, by decide +kernel⟩, List.mem_of_getElem? (i := 51) (by decide +kernel), List.mem_of_getElem? (i := 496) (by decide +kernel), List.mem_of_getElem? (i := 497) (by decide +kernel)⟩
theorem lw_p8 : lw_okq (⟨"PigLine$Marks", "endOf", "(I)I"⟩, 8) := ⟨⟨by decide +kernel, by decide +kernel⟩, List.mem_of_getElem? (i := 51) (by decide +kernel), List.mem_of_getElem? (i := 500) (by decide +kernel), List.mem_of_getElem? (i := 501) (by decide +kernel)⟩
theorem lw_p9 : lw_okq (⟨"PigLine", "matchBothRuns", "()V"⟩, 10) := ⟨⟨by decide +kernel, by decide +kernel⟩, List.mem_of_getElem? (i := 16) (by decide +kernel), List.mem_of_getElem? (i := 547) (by decide +kernel), List.mem_of_getElem? (i := 548) (by decide +kernel)⟩
theorem lw_p10 : lw_okq (⟨"PigLine$Pairs", "leastFrom", "(II)I"⟩, 4) := ⟨⟨by decide +kernel, by decide +kernel⟩, List.mem_of_getElem? (i := 165) (by decide +kernel), List.mem_of_getElem? (i := 566) (by decide +kernel), List.mem_of_getElem? (i := 567) (by decide +kernel)⟩
theorem lw_p11 : lw_okq (⟨"PigLine$Pairs", "withPair", "(III)I"⟩, 4) := ⟨⟨by decide +kernel, by decide +kernel⟩, List.mem_of_getElem? (i := 165) (by decide +kernel), List.mem_of_getElem? (i := 570) (by decide +kernel), List.mem_of_getElem? (i := 571) (by decide +kernel)⟩
theorem lw_p12 : lw_okq (⟨"PigLine", "twinOf", "(I)I"⟩, 10) := ⟨⟨by decide +kernel, by decide +kernel⟩, List.mem_of_getElem? (i := 16) (by decide +kernel), List.mem_of_getElem? (i := 581) (by decide +kernel), List.mem_of_getElem? (i := 582) (by decide +kernel)⟩
theorem lw_p13 : lw_okq (⟨"PigLine$Pairs", "choiceAt", "(II)I"⟩, 4) := ⟨⟨by decide +kernel, by decide +kernel⟩, List.mem_of_getElem? (i := 165) (by decide +kernel), List.mem_of_getElem? (i := 594) (by decide +kernel), List.mem_of_getElem? (i := 595) (by decide +kernel)⟩
theorem lw_p14 : lw_okq (⟨"PigLine$Spans", "mostTruly", "(I)I"⟩, 3) := ⟨⟨by decide +kernel, by decide +kernel⟩, List.mem_of_getElem? (i := 208) (by decide +kernel), List.mem_of_getElem? (i := 610) (by decide +kernel), List.mem_of_getElem? (i := 611) (by decide +kernel)⟩
theorem lw_p15 : lw_okq (⟨"PigLine$Spans", "leastTruly", "(I)I"⟩, 3) := ⟨⟨by decide +kernel, by decide +kernel⟩, List.mem_of_getElem? (i := 208) (by decide +kernel), List.mem_of_getElem? (i := 615) (by decide +kernel), List.mem_of_getElem? (i := 616) (by decide +kernel)⟩
def lw_privs_1 : List (MethodName × Nat) := [(⟨"PigLine", "reelAt", "(I)LPigLine$Reel;"⟩, 10), (⟨"PigLine", "runAt", "(I)LPigLine$Run;"⟩, 10), (⟨"PigLine", "found", "(I)I"⟩, 10), (⟨"PigLine$Run", "readingsTogether", "(I)I"⟩, 12), (⟨"PigLine$Book", "withPair", "(LPigLine$Run;II)I"⟩, 5), (⟨"PigLine$Book", "lastFeltNotLeftOut", "(LPigLine$Run;II)I"⟩, 5), (⟨"PigLine$Marks", "spread", "(III)V"⟩, 8), (⟨"PigLine$Marks", "areNear", "(IIII)Z"⟩, 8), (⟨"PigLine$Marks", "endOf", "(I)I"⟩, 8), (⟨"PigLine", "matchBothRuns", "()V"⟩, 10), (⟨"PigLine$Pairs", "leastFrom", "(II)I"⟩, 4), (⟨"PigLine$Pairs", "withPair", "(III)I"⟩, 4), (⟨"PigLine", "twinOf", "(I)I"⟩, 10), (⟨"PigLine$Pairs", "choiceAt", "(II)I"⟩, 4), (⟨"PigLine$Spans", "mostTruly", "(I)I"⟩, 3), (⟨"PigLine$Spans", "leastTruly", "(I)I"⟩, 3)]
theorem lw_r1 : ∀ q ∈ lw_privs_1, lw_okq q := List.forall_mem_cons.mpr ⟨lw_p0, List.forall_mem_cons.mpr ⟨lw_p1, List.forall_mem_cons.mpr ⟨lw_p2, List.forall_mem_cons.mpr ⟨lw_p3, List.forall_mem_cons.mpr ⟨lw_p4, List.forall_mem_cons.mpr ⟨lw_p5, List.forall_mem_cons.mpr ⟨lw_p6, List.forall_mem_cons.mpr ⟨lw_p7, List.forall_mem_cons.mpr ⟨lw_p8, List.forall_mem_cons.mpr ⟨lw_p9, List.forall_mem_cons.mpr ⟨lw_p10, List.forall_mem_cons.mpr ⟨lw_p11, List.forall_mem_cons.mpr ⟨lw_p12, List.forall_mem_cons.mpr ⟨lw_p13, List.forall_mem_cons.mpr ⟨lw_p14, List.forall_mem_cons.mpr ⟨lw_p15, fun _ h => absurd h List.not_mem_nil⟩⟩⟩⟩⟩⟩⟩⟩⟩⟩⟩⟩⟩⟩⟩⟩
theorem lw_p16 : lw_okq (⟨"PigLine$Spans", "lastYear", "(II)I"⟩, 3) := ⟨⟨by decide +kernel, by decide +kernel⟩, List.mem_of_getElem? (i := 208) (by decide +kernel), List.mem_of_getElem? (i := 620) (by decide +kernel), List.mem_of_getElem? (i := 621) (by decide +kernel)⟩
theorem lw_p17 : lw_okq (⟨"PigLine$Digs", "isEnough", "(I)Z"⟩, 6) := ⟨⟨by decide +kernel, by decide +kernel⟩, List.mem_of_getElem? (i := 227) (by decide +kernel), List.mem_of_getElem? (i := 644) (by decide +kernel), List.mem_of_getElem? (i := 645) (by decide +kernel)⟩
theorem lw_p18 : lw_okq (⟨"PigLine$Digs", "hasYear", "(II)Z"⟩, 6) := ⟨⟨by decide +kernel, by decide +kernel⟩, List.mem_of_getElem? (i := 227) (by decide +kernel), List.mem_of_getElem? (i := 648) (by decide +kernel), List.mem_of_getElem? (i := 649) (by decide +kernel)⟩
theorem lw_p19 : lw_okq (⟨"PigLine$Digs", "worksAheadOf", "(I)I"⟩, 6) := ⟨⟨by decide +kernel, by decide +kernel⟩, List.mem_of_getElem? (i := 227) (by decide +kernel), List.mem_of_getElem? (i := 670) (by decide +kernel), List.mem_of_getElem? (i := 671) (by decide +kernel)⟩
theorem lw_p20 : lw_okq (⟨"PigLine", "digestOfRun", "(JLPigLine$Run;)J"⟩, 10) := ⟨⟨by decide +kernel, by decide +kernel⟩, List.mem_of_getElem? (i := 16) (by decide +kernel), List.mem_of_getElem? (i := 706) (by decide +kernel), List.mem_of_getElem? (i := 707) (by decide +kernel)⟩
theorem lw_p21 : lw_okq (⟨"PigLineModel", "meets", "(I)I"⟩, 43) := ⟨⟨by decide +kernel, by decide +kernel⟩, List.mem_of_getElem? (i := 710) (by decide +kernel), List.mem_of_getElem? (i := 857) (by decide +kernel), List.mem_of_getElem? (i := 858) (by decide +kernel)⟩
theorem lw_p22 : lw_okq (⟨"PigLineModel", "lacks", "(III)I"⟩, 43) := ⟨⟨by decide +kernel, by decide +kernel⟩, List.mem_of_getElem? (i := 710) (by decide +kernel), List.mem_of_getElem? (i := 869) (by decide +kernel), List.mem_of_getElem? (i := 870) (by decide +kernel)⟩
theorem lw_p23 : lw_okq (⟨"PigLineModel", "goThrough", "(I)V"⟩, 43) := ⟨⟨by decide +kernel, by decide +kernel⟩, List.mem_of_getElem? (i := 710) (by decide +kernel), List.mem_of_getElem? (i := 889) (by decide +kernel), List.mem_of_getElem? (i := 890) (by decide +kernel)⟩
theorem lw_p24 : lw_okq (⟨"PigLineModel", "reading", "(II)I"⟩, 43) := ⟨⟨by decide +kernel, by decide +kernel⟩, List.mem_of_getElem? (i := 710) (by decide +kernel), List.mem_of_getElem? (i := 893) (by decide +kernel), List.mem_of_getElem? (i := 894) (by decide +kernel)⟩
theorem lw_p25 : lw_okq (⟨"PigLineModel", "matches", "(I)V"⟩, 43) := ⟨⟨by decide +kernel, by decide +kernel⟩, List.mem_of_getElem? (i := 710) (by decide +kernel), List.mem_of_getElem? (i := 926) (by decide +kernel), List.mem_of_getElem? (i := 927) (by decide +kernel)⟩
theorem lw_p26 : lw_okq (⟨"PigLineModel", "pairCost", "(II)I"⟩, 43) := ⟨⟨by decide +kernel, by decide +kernel⟩, List.mem_of_getElem? (i := 710) (by decide +kernel), List.mem_of_getElem? (i := 931) (by decide +kernel), List.mem_of_getElem? (i := 932) (by decide +kernel)⟩
theorem lw_p27 : lw_okq (⟨"PigLineModel", "isMark", "(II)Z"⟩, 43) := ⟨⟨by decide +kernel, by decide +kernel⟩, List.mem_of_getElem? (i := 710) (by decide +kernel), List.mem_of_getElem? (i := 955) (by decide +kernel), List.mem_of_getElem? (i := 956) (by decide +kernel)⟩
theorem lw_p28 : lw_okq (⟨"PigLineModel", "jointAt", "(I)I"⟩, 43) := ⟨⟨by decide +kernel, by decide +kernel⟩, List.mem_of_getElem? (i := 710) (by decide +kernel), List.mem_of_getElem? (i := 959) (by decide +kernel), List.mem_of_getElem? (i := 960) (by decide +kernel)⟩
theorem lw_p29 : lw_okq (⟨"PigLineModel", "joinMarks", "(I)V"⟩, 43) := ⟨⟨by decide +kernel, by decide +kernel⟩, List.mem_of_getElem? (i := 710) (by decide +kernel), List.mem_of_getElem? (i := 963) (by decide +kernel), List.mem_of_getElem? (i := 964) (by decide +kernel)⟩
theorem lw_p30 : lw_okq (⟨"PigLineModel", "areNear", "(II)Z"⟩, 43) := ⟨⟨by decide +kernel, by decide +kernel⟩, List.mem_of_getElem? (i := 710) (by decide +kernel), List.mem_of_getElem? (i := 967) (by decide +kernel), List.mem_of_getElem? (i := 968) (by decide +kernel)⟩
theorem lw_p31 : lw_okq (⟨"PigLineModel", "pairs", "(I)I"⟩, 43) := ⟨⟨by decide +kernel, by decide +kernel⟩, List.mem_of_getElem? (i := 710) (by decide +kernel), List.mem_of_getElem? (i := 994) (by decide +kernel), List.mem_of_getElem? (i := 995) (by decide +kernel)⟩
def lw_privs_2 : List (MethodName × Nat) := [(⟨"PigLine$Spans", "lastYear", "(II)I"⟩, 3), (⟨"PigLine$Digs", "isEnough", "(I)Z"⟩, 6), (⟨"PigLine$Digs", "hasYear", "(II)Z"⟩, 6), (⟨"PigLine$Digs", "worksAheadOf", "(I)I"⟩, 6), (⟨"PigLine", "digestOfRun", "(JLPigLine$Run;)J"⟩, 10), (⟨"PigLineModel", "meets", "(I)I"⟩, 43), (⟨"PigLineModel", "lacks", "(III)I"⟩, 43), (⟨"PigLineModel", "goThrough", "(I)V"⟩, 43), (⟨"PigLineModel", "reading", "(II)I"⟩, 43), (⟨"PigLineModel", "matches", "(I)V"⟩, 43), (⟨"PigLineModel", "pairCost", "(II)I"⟩, 43), (⟨"PigLineModel", "isMark", "(II)Z"⟩, 43), (⟨"PigLineModel", "jointAt", "(I)I"⟩, 43), (⟨"PigLineModel", "joinMarks", "(I)V"⟩, 43), (⟨"PigLineModel", "areNear", "(II)Z"⟩, 43), (⟨"PigLineModel", "pairs", "(I)I"⟩, 43)]
theorem lw_r2 : ∀ q ∈ lw_privs_2, lw_okq q := List.forall_mem_cons.mpr ⟨lw_p16, List.forall_mem_cons.mpr ⟨lw_p17, List.forall_mem_cons.mpr ⟨lw_p18, List.forall_mem_cons.mpr ⟨lw_p19, List.forall_mem_cons.mpr ⟨lw_p20, List.forall_mem_cons.mpr ⟨lw_p21, List.forall_mem_cons.mpr ⟨lw_p22, List.forall_mem_cons.mpr ⟨lw_p23, List.forall_mem_cons.mpr ⟨lw_p24, List.forall_mem_cons.mpr ⟨lw_p25, List.forall_mem_cons.mpr ⟨lw_p26, List.forall_mem_cons.mpr ⟨lw_p27, List.forall_mem_cons.mpr ⟨lw_p28, List.forall_mem_cons.mpr ⟨lw_p29, List.forall_mem_cons.mpr ⟨lw_p30, List.forall_mem_cons.mpr ⟨lw_p31, fun _ h => absurd h List.not_mem_nil⟩⟩⟩⟩⟩⟩⟩⟩⟩⟩⟩⟩⟩⟩⟩⟩
theorem lw_p32 : lw_okq (⟨"PigLineModel", "gather", "(I)V"⟩, 43) := ⟨⟨by decide +kernel, by decide +kernel⟩, List.mem_of_getElem? (i := 710) (by decide +kernel), List.mem_of_getElem? (i := 998) (by decide +kernel), List.mem_of_getElem? (i := 999) (by decide +kernel)⟩
theorem lw_p33 : lw_okq (⟨"PigLineModel", "choiceCost", "()I"⟩, 43) := ⟨⟨by decide +kernel, by decide +kernel⟩, List.mem_of_getElem? (i := 710) (by decide +kernel), List.mem_of_getElem? (i := 1002) (by decide +kernel), List.mem_of_getElem? (i := 1003) (by decide +kernel)⟩
theorem lw_p34 : lw_okq (⟨"PigLineModel", "choosesOn", "()Z"⟩, 43) := ⟨⟨by decide +kernel, by decide +kernel⟩, List.mem_of_getElem? (i := 710) (by decide +kernel), List.mem_of_getElem? (i := 1006) (by decide +kernel), List.mem_of_getElem? (i := 1007) (by decide +kernel)⟩
theorem lw_p35 : lw_okq (⟨"PigLineModel", "twinOf", "(I)I"⟩, 43) := ⟨⟨by decide +kernel, by decide +kernel⟩, List.mem_of_getElem? (i := 710) (by decide +kernel), List.mem_of_getElem? (i := 1014) (by decide +kernel), List.mem_of_getElem? (i := 1015) (by decide +kernel)⟩
theorem lw_p36 : lw_okq (⟨"PigLineModel", "lowOf", "(I)I"⟩, 43) := ⟨⟨by decide +kernel, by decide +kernel⟩, List.mem_of_getElem? (i := 710) (by decide +kernel), List.mem_of_getElem? (i := 1026) (by decide +kernel), List.mem_of_getElem? (i := 1027) (by decide +kernel)⟩
theorem lw_p37 : lw_okq (⟨"PigLineModel", "highOf", "(I)I"⟩, 43) := ⟨⟨by decide +kernel, by decide +kernel⟩, List.mem_of_getElem? (i := 710) (by decide +kernel), List.mem_of_getElem? (i := 1030) (by decide +kernel), List.mem_of_getElem? (i := 1031) (by decide +kernel)⟩
theorem lw_p38 : lw_okq (⟨"PigLineModel", "planned", "()I"⟩, 43) := ⟨⟨by decide +kernel, by decide +kernel⟩, List.mem_of_getElem? (i := 710) (by decide +kernel), List.mem_of_getElem? (i := 1046) (by decide +kernel), List.mem_of_getElem? (i := 1047) (by decide +kernel)⟩
theorem lw_p39 : lw_okq (⟨"PigLineModel", "willDo", "(I)Z"⟩, 43) := ⟨⟨by decide +kernel, by decide +kernel⟩, List.mem_of_getElem? (i := 710) (by decide +kernel), List.mem_of_getElem? (i := 1050) (by decide +kernel), List.mem_of_getElem? (i := 1051) (by decide +kernel)⟩
theorem lw_p40 : lw_okq (⟨"PigLineModel", "mayOpen", "(I)Z"⟩, 43) := ⟨⟨by decide +kernel, by decide +kernel⟩, List.mem_of_getElem? (i := 710) (by decide +kernel), List.mem_of_getElem? (i := 1069) (by decide +kernel), List.mem_of_getElem? (i := 1070) (by decide +kernel)⟩
def lw_privs_3 : List (MethodName × Nat) := [(⟨"PigLineModel", "gather", "(I)V"⟩, 43), (⟨"PigLineModel", "choiceCost", "()I"⟩, 43), (⟨"PigLineModel", "choosesOn", "()Z"⟩, 43), (⟨"PigLineModel", "twinOf", "(I)I"⟩, 43), (⟨"PigLineModel", "lowOf", "(I)I"⟩, 43), (⟨"PigLineModel", "highOf", "(I)I"⟩, 43), (⟨"PigLineModel", "planned", "()I"⟩, 43), (⟨"PigLineModel", "willDo", "(I)Z"⟩, 43), (⟨"PigLineModel", "mayOpen", "(I)Z"⟩, 43)]
theorem lw_r3 : ∀ q ∈ lw_privs_3, lw_okq q := List.forall_mem_cons.mpr ⟨lw_p32, List.forall_mem_cons.mpr ⟨lw_p33, List.forall_mem_cons.mpr ⟨lw_p34, List.forall_mem_cons.mpr ⟨lw_p35, List.forall_mem_cons.mpr ⟨lw_p36, List.forall_mem_cons.mpr ⟨lw_p37, List.forall_mem_cons.mpr ⟨lw_p38, List.forall_mem_cons.mpr ⟨lw_p39, List.forall_mem_cons.mpr ⟨lw_p40, fun _ h => absurd h List.not_mem_nil⟩⟩⟩⟩⟩⟩⟩⟩⟩
def lw_privs : List (MethodName × Nat) := lw_privs_1 ++ (lw_privs_2 ++ (lw_privs_3))
def lw_tbl : List Cond := k2_sels lw_privs ++ tables_1
theorem lw_privs_ok : ∀ q ∈ lw_privs, lw_okq q := by
  show ∀ q ∈ lw_privs_1 ++ (lw_privs_2 ++ (lw_privs_3)), lw_okq q
  exact List.forall_mem_append.mpr ⟨lw_r1, List.forall_mem_append.mpr ⟨lw_r2, lw_r3⟩⟩
end
section

def RX0 : String := "PigLine$Book"
def TX0 : u_T := fun k => match k with
  | 0 => ("PigLine$Book", "lengths", "[I", true)
  | 1 => ("PigLine$Book", "least", "[I", true)
  | 2 => ("PigLine$Book", "size", "I", false)
  | 3 => ("PigLine$Book", "missed", "I", false)
  | _ => ("PigLine$Book", "extra", "I", false)
def tyX0 : Nat → FieldType := fun k => match k with
  | 0 => .array .int
  | 1 => .array .int
  | 2 => .int
  | 3 => .int
  | _ => .int
abbrev wsX00 : List Cond := u_ws RX0 TX0 5
theorem nmX0 : ∀ a, a < 5 → ∀ b, b < 5 → a ≠ b → (TX0 a).2.1 ≠ (TX0 b).2.1 := by decide +kernel
theorem tyX0_ok : ∀ k, k < 5 → parseFieldDescriptor (TX0 k).2.2.1 = some (tyX0 k) := by decide +kernel
abbrev cX0_init : ByteArray := prog_2_method_1_code
def yX0_init : MethodName := ⟨RX0, "<init>", "()V"⟩
abbrev cX0_hasJoint : ByteArray := prog_2_method_2_code
def yX0_hasJoint : MethodName := ⟨RX0, "hasJoint", "(I)Z"⟩
abbrev cX0_add : ByteArray := prog_2_method_3_code
def yX0_add : MethodName := ⟨RX0, "add", "(I)I"⟩
abbrev cX0_leastCost : ByteArray := prog_2_method_4_code
def yX0_leastCost : MethodName := ⟨RX0, "leastCost", "(LPigLine$Run;)I"⟩
abbrev cX0_withPair : ByteArray := prog_2_method_5_code
def yX0_withPair : MethodName := ⟨RX0, "withPair", "(LPigLine$Run;II)I"⟩
abbrev cX0_pairUp : ByteArray := prog_2_method_6_code
def yX0_pairUp : MethodName := ⟨RX0, "pairUp", "(LPigLine$Run;)V"⟩
abbrev cX0_lastFeltNotLeftOut : ByteArray := prog_2_method_7_code
def yX0_lastFeltNotLeftOut : MethodName := ⟨RX0, "lastFeltNotLeftOut", "(LPigLine$Run;II)I"⟩
abbrev cX0_jointPairedWith : ByteArray := prog_2_method_8_code
def yX0_jointPairedWith : MethodName := ⟨RX0, "jointPairedWith", "(LPigLine$Run;I)I"⟩
def RX1 : String := "PigLine$Digs"
def TX1 : u_T := fun k => match k with
  | 0 => ("PigLine$Digs", "lastYears", "[I", true)
  | 1 => ("PigLine$Digs", "dueIn", "[I", true)
  | 2 => ("PigLine$Digs", "size", "I", false)
  | 3 => ("PigLine$Digs", "costOfWorks", "I", false)
  | 4 => ("PigLine$Digs", "perYear", "I", false)
  | _ => ("PigLine$Digs", "setting", "I", false)
def tyX1 : Nat → FieldType := fun k => match k with
  | 0 => .array .int
  | 1 => .array .int
  | 2 => .int
  | 3 => .int
  | 4 => .int
  | _ => .int
abbrev wsX10 : List Cond := u_ws RX1 TX1 6
theorem nmX1 : ∀ a, a < 6 → ∀ b, b < 6 → a ≠ b → (TX1 a).2.1 ≠ (TX1 b).2.1 := by decide +kernel
theorem tyX1_ok : ∀ k, k < 6 → parseFieldDescriptor (TX1 k).2.2.1 = some (tyX1 k) := by decide +kernel
abbrev cX1_init : ByteArray := prog_3_method_1_code
def yX1_init : MethodName := ⟨RX1, "<init>", "()V"⟩
abbrev cX1_add : ByteArray := prog_3_method_2_code
def yX1_add : MethodName := ⟨RX1, "add", "(II)I"⟩
abbrev cX1_bestYears : ByteArray := prog_3_method_3_code
def yX1_bestYears : MethodName := ⟨RX1, "bestYears", "()I"⟩
abbrev cX1_isEnough : ByteArray := prog_3_method_4_code
def yX1_isEnough : MethodName := ⟨RX1, "isEnough", "(I)Z"⟩
abbrev cX1_hasYear : ByteArray := prog_3_method_5_code
def yX1_hasYear : MethodName := ⟨RX1, "hasYear", "(II)Z"⟩
abbrev cX1_costOf : ByteArray := prog_3_method_6_code
def yX1_costOf : MethodName := ⟨RX1, "costOf", "(I)I"⟩
abbrev cX1_yearOf : ByteArray := prog_3_method_7_code
def yX1_yearOf : MethodName := ⟨RX1, "yearOf", "(II)I"⟩
abbrev cX1_worksAheadOf : ByteArray := prog_3_method_8_code
def yX1_worksAheadOf : MethodName := ⟨RX1, "worksAheadOf", "(I)I"⟩
def RX2 : String := "PigLine$Lot"
def TX2 : u_T := fun k => match k with
  | 0 => ("PigLine$Lot", "numbers", "[I", true)
  | 1 => ("PigLine$Lot", "distances", "[I", true)
  | 2 => ("PigLine$Lot", "clocks", "[I", true)
  | _ => ("PigLine$Lot", "size", "I", false)
def tyX2 : Nat → FieldType := fun k => match k with
  | 0 => .array .int
  | 1 => .array .int
  | 2 => .array .int
  | _ => .int
abbrev wsX20 : List Cond := u_ws RX2 TX2 4
theorem nmX2 : ∀ a, a < 4 → ∀ b, b < 4 → a ≠ b → (TX2 a).2.1 ≠ (TX2 b).2.1 := by decide +kernel
theorem tyX2_ok : ∀ k, k < 4 → parseFieldDescriptor (TX2 k).2.2.1 = some (tyX2 k) := by decide +kernel
abbrev cX2_init : ByteArray := prog_4_method_1_code
def yX2_init : MethodName := ⟨RX2, "<init>", "()V"⟩
abbrev cX2_gather : ByteArray := prog_4_method_2_code
def yX2_gather : MethodName := ⟨RX2, "gather", "(LPigLine$Run;I)V"⟩
def RX3 : String := "PigLine$Marks"
def TX3 : u_T := fun k => match k with
  | 0 => ("PigLine$Marks", "ways", "[I", true)
  | 1 => ("PigLine$Marks", "clocks", "[I", true)
  | 2 => ("PigLine$Marks", "depths", "[I", true)
  | 3 => ("PigLine$Marks", "lengths", "[I", true)
  | 4 => ("PigLine$Marks", "groupOf", "[I", true)
  | 5 => ("PigLine$Marks", "waiting", "[I", true)
  | 6 => ("PigLine$Marks", "size", "I", false)
  | _ => ("PigLine$Marks", "groupCount", "I", false)
def tyX3 : Nat → FieldType := fun k => match k with
  | 0 => .array .int
  | 1 => .array .int
  | 2 => .array .int
  | 3 => .array .int
  | 4 => .array .int
  | 5 => .array .int
  | 6 => .int
  | _ => .int
abbrev wsX30 : List Cond := u_ws RX3 TX3 8
theorem nmX3 : ∀ a, a < 8 → ∀ b, b < 8 → a ≠ b → (TX3 a).2.1 ≠ (TX3 b).2.1 := by decide +kernel
theorem tyX3_ok : ∀ k, k < 8 → parseFieldDescriptor (TX3 k).2.2.1 = some (tyX3 k) := by decide +kernel
abbrev cX3_init : ByteArray := prog_5_method_1_code
def yX3_init : MethodName := ⟨RX3, "<init>", "()V"⟩
abbrev cX3_hasMark : ByteArray := prog_5_method_2_code
def yX3_hasMark : MethodName := ⟨RX3, "hasMark", "(I)Z"⟩
abbrev cX3_add : ByteArray := prog_5_method_3_code
def yX3_add : MethodName := ⟨RX3, "add", "(IIII)I"⟩
abbrev cX3_fact : ByteArray := prog_5_method_4_code
def yX3_fact : MethodName := ⟨RX3, "fact", "(II)I"⟩
abbrev cX3_endOf : ByteArray := prog_5_method_5_code
def yX3_endOf : MethodName := ⟨RX3, "endOf", "(I)I"⟩
abbrev cX3_areNear : ByteArray := prog_5_method_6_code
def yX3_areNear : MethodName := ⟨RX3, "areNear", "(IIII)Z"⟩
abbrev cX3_putTogether : ByteArray := prog_5_method_7_code
def yX3_putTogether : MethodName := ⟨RX3, "putTogether", "(II)V"⟩
abbrev cX3_spread : ByteArray := prog_5_method_8_code
def yX3_spread : MethodName := ⟨RX3, "spread", "(III)V"⟩
abbrev cX3_groupFact : ByteArray := prog_5_method_9_code
def yX3_groupFact : MethodName := ⟨RX3, "groupFact", "(II)I"⟩
def RX4 : String := "PigLine$Pairs"
def TX4 : u_T := fun k => match k with
  | 0 => ("PigLine$Pairs", "firsts", "LPigLine$Lot;", true)
  | 1 => ("PigLine$Pairs", "seconds", "LPigLine$Lot;", true)
  | 2 => ("PigLine$Pairs", "least", "[I", true)
  | _ => ("PigLine$Pairs", "alone", "I", false)
def tyX4 : Nat → FieldType := fun k => match k with
  | 0 => .object "PigLine$Lot"
  | 1 => .object "PigLine$Lot"
  | 2 => .array .int
  | _ => .int
abbrev wsX40 : List Cond := u_ws RX4 TX4 4
theorem nmX4 : ∀ a, a < 4 → ∀ b, b < 4 → a ≠ b → (TX4 a).2.1 ≠ (TX4 b).2.1 := by decide +kernel
theorem tyX4_ok : ∀ k, k < 4 → parseFieldDescriptor (TX4 k).2.2.1 = some (tyX4 k) := by decide +kernel
abbrev cX4_init : ByteArray := prog_6_method_1_code
def yX4_init : MethodName := ⟨RX4, "<init>", "()V"⟩
abbrev cX4_leastCost : ByteArray := prog_6_method_2_code
def yX4_leastCost : MethodName := ⟨RX4, "leastCost", "(LPigLine$Run;ILPigLine$Run;I)I"⟩
abbrev cX4_leastFrom : ByteArray := prog_6_method_3_code
def yX4_leastFrom : MethodName := ⟨RX4, "leastFrom", "(II)I"⟩
abbrev cX4_withPair : ByteArray := prog_6_method_4_code
def yX4_withPair : MethodName := ⟨RX4, "withPair", "(III)I"⟩
abbrev cX4_otherOf : ByteArray := prog_6_method_5_code
def yX4_otherOf : MethodName := ⟨RX4, "otherOf", "(I)I"⟩
abbrev cX4_choiceAt : ByteArray := prog_6_method_6_code
def yX4_choiceAt : MethodName := ⟨RX4, "choiceAt", "(II)I"⟩
def RX5 : String := "PigLine$Reel"
def TX5 : u_T := fun k => match k with
  | 0 => ("PigLine$Reel", "items", "[I", true)
  | 1 => ("PigLine$Reel", "form", "I", false)
  | _ => ("PigLine$Reel", "size", "I", false)
def tyX5 : Nat → FieldType := fun k => match k with
  | 0 => .array .int
  | 1 => .int
  | _ => .int
abbrev wsX50 : List Cond := u_ws RX5 TX5 3
theorem nmX5 : ∀ a, a < 3 → ∀ b, b < 3 → a ≠ b → (TX5 a).2.1 ≠ (TX5 b).2.1 := by decide +kernel
theorem tyX5_ok : ∀ k, k < 3 → parseFieldDescriptor (TX5 k).2.2.1 = some (tyX5 k) := by decide +kernel
abbrev cX5_init : ByteArray := prog_7_method_1_code
def yX5_init : MethodName := ⟨RX5, "<init>", "()V"⟩
abbrev cX5_isLost : ByteArray := prog_7_method_2_code
def yX5_isLost : MethodName := ⟨RX5, "isLost", "()Z"⟩
abbrev cX5_begin : ByteArray := prog_7_method_3_code
def yX5_begin : MethodName := ⟨RX5, "begin", "(II)V"⟩
abbrev cX5_drop : ByteArray := prog_7_method_4_code
def yX5_drop : MethodName := ⟨RX5, "drop", "()V"⟩
abbrev cX5_hasItem : ByteArray := prog_7_method_5_code
def yX5_hasItem : MethodName := ⟨RX5, "hasItem", "(I)Z"⟩
abbrev cX5_hasItems : ByteArray := prog_7_method_6_code
def yX5_hasItems : MethodName := ⟨RX5, "hasItems", "(II)Z"⟩
abbrev cX5_faultOf : ByteArray := prog_7_method_7_code
def yX5_faultOf : MethodName := ⟨RX5, "faultOf", "(II)I"⟩
abbrev cX5_store : ByteArray := prog_7_method_8_code
def yX5_store : MethodName := ⟨RX5, "store", "(II)V"⟩
abbrev cX5_readingAt : ByteArray := prog_7_method_9_code
def yX5_readingAt : MethodName := ⟨RX5, "readingAt", "(I)I"⟩
abbrev cX5_hasWeldAt : ByteArray := prog_7_method_10_code
def yX5_hasWeldAt : MethodName := ⟨RX5, "hasWeldAt", "(I)Z"⟩
def RX6 : String := "PigLine$Run"
def TX6 : u_T := fun k => match k with
  | 0 => ("PigLine$Run", "wheelA", "LPigLine$Reel;", true)
  | 1 => ("PigLine$Run", "wheelB", "LPigLine$Reel;", true)
  | 2 => ("PigLine$Run", "wheelC", "LPigLine$Reel;", true)
  | 3 => ("PigLine$Run", "feelers", "LPigLine$Reel;", true)
  | 4 => ("PigLine$Run", "marks", "LPigLine$Marks;", true)
  | 5 => ("PigLine$Run", "ways", "[I", true)
  | 6 => ("PigLine$Run", "starts", "[I", true)
  | 7 => ("PigLine$Run", "lengths", "[I", true)
  | 8 => ("PigLine$Run", "partners", "[I", true)
  | 9 => ("PigLine$Run", "ticks", "I", false)
  | 10 => ("PigLine$Run", "blindTicks", "I", false)
  | _ => ("PigLine$Run", "feltCount", "I", false)
def tyX6 : Nat → FieldType := fun k => match k with
  | 0 => .object "PigLine$Reel"
  | 1 => .object "PigLine$Reel"
  | 2 => .object "PigLine$Reel"
  | 3 => .object "PigLine$Reel"
  | 4 => .object "PigLine$Marks"
  | 5 => .array .int
  | 6 => .array .int
  | 7 => .array .int
  | 8 => .array .int
  | 9 => .int
  | 10 => .int
  | _ => .int
abbrev wsX60 : List Cond := u_ws RX6 TX6 12
theorem nmX6 : ∀ a, a < 12 → ∀ b, b < 12 → a ≠ b → (TX6 a).2.1 ≠ (TX6 b).2.1 := by decide +kernel
theorem tyX6_ok : ∀ k, k < 12 → parseFieldDescriptor (TX6 k).2.2.1 = some (tyX6 k) := by decide +kernel
abbrev cX6_init : ByteArray := prog_8_method_1_code
def yX6_init : MethodName := ⟨RX6, "<init>", "()V"⟩
abbrev cX6_reelAt : ByteArray := prog_8_method_2_code
def yX6_reelAt : MethodName := ⟨RX6, "reelAt", "(I)LPigLine$Reel;"⟩
abbrev cX6_feel : ByteArray := prog_8_method_3_code
def yX6_feel : MethodName := ⟨RX6, "feel", "()V"⟩
abbrev cX6_readingsTogether : ByteArray := prog_8_method_4_code
def yX6_readingsTogether : MethodName := ⟨RX6, "readingsTogether", "(I)I"⟩
abbrev cX6_fact : ByteArray := prog_8_method_5_code
def yX6_fact : MethodName := ⟨RX6, "fact", "(I)I"⟩
abbrev cX6_feltAt : ByteArray := prog_8_method_6_code
def yX6_feltAt : MethodName := ⟨RX6, "feltAt", "(I)I"⟩
abbrev cX6_markFact : ByteArray := prog_8_method_7_code
def yX6_markFact : MethodName := ⟨RX6, "markFact", "(II)I"⟩
def RX7 : String := "PigLine$Spans"
def TX7 : u_T := fun k => match k with
  | 0 => ("PigLine$Spans", "years", "I", false)
  | 1 => ("PigLine$Spans", "tool", "I", false)
  | _ => ("PigLine$Spans", "limit", "I", false)
def tyX7 : Nat → FieldType := fun k => match k with
  | 0 => .int
  | 1 => .int
  | _ => .int
abbrev wsX70 : List Cond := u_ws RX7 TX7 3
theorem nmX7 : ∀ a, a < 3 → ∀ b, b < 3 → a ≠ b → (TX7 a).2.1 ≠ (TX7 b).2.1 := by decide +kernel
theorem tyX7_ok : ∀ k, k < 3 → parseFieldDescriptor (TX7 k).2.2.1 = some (tyX7 k) := by decide +kernel
abbrev cX7_init : ByteArray := prog_9_method_1_code
def yX7_init : MethodName := ⟨RX7, "<init>", "()V"⟩
abbrev cX7_leastTruly : ByteArray := prog_9_method_2_code
def yX7_leastTruly : MethodName := ⟨RX7, "leastTruly", "(I)I"⟩
abbrev cX7_mostTruly : ByteArray := prog_9_method_3_code
def yX7_mostTruly : MethodName := ⟨RX7, "mostTruly", "(I)I"⟩
abbrev cX7_fact : ByteArray := prog_9_method_4_code
def yX7_fact : MethodName := ⟨RX7, "fact", "(III)I"⟩
abbrev cX7_lastYear : ByteArray := prog_9_method_5_code
def yX7_lastYear : MethodName := ⟨RX7, "lastYear", "(II)I"⟩
def RX8 : String := "PigLine$Valves"
def TX8 : u_T := fun k => match k with
  | 0 => ("PigLine$Valves", "openBits", "I", false)
  | _ => ("PigLine$Valves", "pressed", "Z", false)
def tyX8 : Nat → FieldType := fun k => match k with
  | 0 => .int
  | _ => .boolean
abbrev wsX80 : List Cond := u_ws RX8 TX8 2
theorem nmX8 : ∀ a, a < 2 → ∀ b, b < 2 → a ≠ b → (TX8 a).2.1 ≠ (TX8 b).2.1 := by decide +kernel
theorem tyX8_ok : ∀ k, k < 2 → parseFieldDescriptor (TX8 k).2.2.1 = some (tyX8 k) := by decide +kernel
abbrev cX8_init : ByteArray := prog_10_method_1_code
def yX8_init : MethodName := ⟨RX8, "<init>", "()V"⟩
abbrev cX8_isOpen : ByteArray := prog_10_method_2_code
def yX8_isOpen : MethodName := ⟨RX8, "isOpen", "(I)Z"⟩
abbrev cX8_mayOpen : ByteArray := prog_10_method_3_code
def yX8_mayOpen : MethodName := ⟨RX8, "mayOpen", "(I)Z"⟩
abbrev cX8_open : ByteArray := prog_10_method_4_code
def yX8_open : MethodName := ⟨RX8, "open", "(I)V"⟩
abbrev cX8_shut : ByteArray := prog_10_method_5_code
def yX8_shut : MethodName := ⟨RX8, "shut", "(I)V"⟩
def RX9 : String := "PigLine"
def TX9 : u_T := fun k => match k with
  | 0 => ("PigLine", "firstRun", "LPigLine$Run;", true)
  | 1 => ("PigLine", "secondRun", "LPigLine$Run;", true)
  | 2 => ("PigLine", "book", "LPigLine$Book;", true)
  | 3 => ("PigLine", "pairs", "LPigLine$Pairs;", true)
  | 4 => ("PigLine", "spans", "LPigLine$Spans;", true)
  | 5 => ("PigLine", "digs", "LPigLine$Digs;", true)
  | 6 => ("PigLine", "valves", "LPigLine$Valves;", true)
  | 7 => ("PigLine", "gap", "I", false)
  | 8 => ("PigLine", "turn", "I", false)
  | _ => ("PigLine", "latestFinding", "I", false)
def tyX9 : Nat → FieldType := fun k => match k with
  | 0 => .object "PigLine$Run"
  | 1 => .object "PigLine$Run"
  | 2 => .object "PigLine$Book"
  | 3 => .object "PigLine$Pairs"
  | 4 => .object "PigLine$Spans"
  | 5 => .object "PigLine$Digs"
  | 6 => .object "PigLine$Valves"
  | 7 => .int
  | 8 => .int
  | _ => .int
abbrev wsX90 : List Cond := u_ws RX9 TX9 10
theorem nmX9 : ∀ a, a < 10 → ∀ b, b < 10 → a ≠ b → (TX9 a).2.1 ≠ (TX9 b).2.1 := by decide +kernel
theorem tyX9_ok : ∀ k, k < 10 → parseFieldDescriptor (TX9 k).2.2.1 = some (tyX9 k) := by decide +kernel
abbrev cX9_init : ByteArray := prog_1_method_1_code
def yX9_init : MethodName := ⟨RX9, "<init>", "()V"⟩
abbrev cX9_reel : ByteArray := prog_1_method_2_code
def yX9_reel : MethodName := ⟨RX9, "reel", "(III)I"⟩
abbrev cX9_lose : ByteArray := prog_1_method_3_code
def yX9_lose : MethodName := ⟨RX9, "lose", "(I)I"⟩
abbrev cX9_put : ByteArray := prog_1_method_4_code
def yX9_put : MethodName := ⟨RX9, "put", "(IIII)I"⟩
abbrev cX9_get : ByteArray := prog_1_method_5_code
def yX9_get : MethodName := ⟨RX9, "get", "(III)I"⟩
abbrev cX9_copy : ByteArray := prog_1_method_6_code
def yX9_copy : MethodName := ⟨RX9, "copy", "(IIIII)I"⟩
abbrev cX9_run : ByteArray := prog_1_method_7_code
def yX9_run : MethodName := ⟨RX9, "run", "(II)I"⟩
abbrev cX9_way : ByteArray := prog_1_method_8_code
def yX9_way : MethodName := ⟨RX9, "way", "(II)I"⟩
abbrev cX9_felt : ByteArray := prog_1_method_9_code
def yX9_felt : MethodName := ⟨RX9, "felt", "(III)I"⟩
abbrev cX9_joint : ByteArray := prog_1_method_10_code
def yX9_joint : MethodName := ⟨RX9, "joint", "(I)I"⟩
abbrev cX9_wipe : ByteArray := prog_1_method_11_code
def yX9_wipe : MethodName := ⟨RX9, "wipe", "()I"⟩
abbrev cX9_costs : ByteArray := prog_1_method_12_code
def yX9_costs : MethodName := ⟨RX9, "costs", "(II)I"⟩
abbrev cX9_match : ByteArray := prog_1_method_13_code
def yX9_match : MethodName := ⟨RX9, "match", "(I)I"⟩
abbrev cX9_paired : ByteArray := prog_1_method_14_code
def yX9_paired : MethodName := ⟨RX9, "paired", "(II)I"⟩
abbrev cX9_mark : ByteArray := prog_1_method_15_code
def yX9_mark : MethodName := ⟨RX9, "mark", "(IIIII)I"⟩
abbrev cX9_clear : ByteArray := prog_1_method_16_code
def yX9_clear : MethodName := ⟨RX9, "clear", "(I)I"⟩
abbrev cX9_about : ByteArray := prog_1_method_17_code
def yX9_about : MethodName := ⟨RX9, "about", "(III)I"⟩
abbrev cX9_near : ByteArray := prog_1_method_18_code
def yX9_near : MethodName := ⟨RX9, "near", "(II)I"⟩
abbrev cX9_groups : ByteArray := prog_1_method_19_code
def yX9_groups : MethodName := ⟨RX9, "groups", "(I)I"⟩
abbrev cX9_group : ByteArray := prog_1_method_20_code
def yX9_group : MethodName := ⟨RX9, "group", "(III)I"⟩
abbrev cX9_alone : ByteArray := prog_1_method_21_code
def yX9_alone : MethodName := ⟨RX9, "alone", "(I)I"⟩
abbrev cX9_pairing : ByteArray := prog_1_method_22_code
def yX9_pairing : MethodName := ⟨RX9, "pairing", "(I)I"⟩
abbrev cX9_twin : ByteArray := prog_1_method_23_code
def yX9_twin : MethodName := ⟨RX9, "twin", "(I)I"⟩
abbrev cX9_tool : ByteArray := prog_1_method_24_code
def yX9_tool : MethodName := ⟨RX9, "tool", "(III)I"⟩
abbrev cX9_growth : ByteArray := prog_1_method_25_code
def yX9_growth : MethodName := ⟨RX9, "growth", "(II)I"⟩
abbrev cX9_work : ByteArray := prog_1_method_26_code
def yX9_work : MethodName := ⟨RX9, "work", "(II)I"⟩
abbrev cX9_yearly : ByteArray := prog_1_method_27_code
def yX9_yearly : MethodName := ⟨RX9, "yearly", "(II)I"⟩
abbrev cX9_plan : ByteArray := prog_1_method_28_code
def yX9_plan : MethodName := ⟨RX9, "plan", "()I"⟩
abbrev cX9_years : ByteArray := prog_1_method_29_code
def yX9_years : MethodName := ⟨RX9, "years", "()I"⟩
abbrev cX9_when : ByteArray := prog_1_method_30_code
def yX9_when : MethodName := ⟨RX9, "when", "(I)I"⟩
abbrev cX9_trap : ByteArray := prog_1_method_31_code
def yX9_trap : MethodName := ⟨RX9, "trap", "(IZ)I"⟩
abbrev cX9_count : ByteArray := prog_1_method_32_code
def yX9_count : MethodName := ⟨RX9, "count", "(I)I"⟩
abbrev cX9_digest : ByteArray := prog_1_method_33_code
def yX9_digest : MethodName := ⟨RX9, "digest", "()J"⟩
abbrev cX9_isWithin : ByteArray := prog_1_method_34_code
def yX9_isWithin : MethodName := ⟨RX9, "isWithin", "(III)Z"⟩
abbrev cX9_isForm : ByteArray := prog_1_method_35_code
def yX9_isForm : MethodName := ⟨RX9, "isForm", "(I)Z"⟩
abbrev cX9_hoursApart : ByteArray := prog_1_method_36_code
def yX9_hoursApart : MethodName := ⟨RX9, "hoursApart", "(II)I"⟩
abbrev cX9_found : ByteArray := prog_1_method_37_code
def yX9_found : MethodName := ⟨RX9, "found", "(I)I"⟩
abbrev cX9_runAt : ByteArray := prog_1_method_38_code
def yX9_runAt : MethodName := ⟨RX9, "runAt", "(I)LPigLine$Run;"⟩
abbrev cX9_reelAt : ByteArray := prog_1_method_39_code
def yX9_reelAt : MethodName := ⟨RX9, "reelAt", "(I)LPigLine$Reel;"⟩
abbrev cX9_matchBothRuns : ByteArray := prog_1_method_40_code
def yX9_matchBothRuns : MethodName := ⟨RX9, "matchBothRuns", "()V"⟩
abbrev cX9_twinOf : ByteArray := prog_1_method_41_code
def yX9_twinOf : MethodName := ⟨RX9, "twinOf", "(I)I"⟩
abbrev cX9_digestOfRun : ByteArray := prog_1_method_42_code
def yX9_digestOfRun : MethodName := ⟨RX9, "digestOfRun", "(JLPigLine$Run;)J"⟩
def RX10 : String := "PigLineModel"
def TX10 : u_T := fun k => match k with
  | 0 => ("PigLineModel", "isThere", "[Z", true)
  | 1 => ("PigLineModel", "forms", "[I", true)
  | 2 => ("PigLineModel", "sizes", "[I", true)
  | 3 => ("PigLineModel", "items", "[I", true)
  | 4 => ("PigLineModel", "moved", "[I", true)
  | 5 => ("PigLineModel", "finding", "I", false)
  | 6 => ("PigLineModel", "ticks", "I", false)
  | 7 => ("PigLineModel", "blinds", "I", false)
  | 8 => ("PigLineModel", "ways", "[I", true)
  | 9 => ("PigLineModel", "joints", "I", false)
  | 10 => ("PigLineModel", "begins", "[I", true)
  | 11 => ("PigLineModel", "lengths", "[I", true)
  | 12 => ("PigLineModel", "booked", "I", false)
  | 13 => ("PigLineModel", "book", "[I", true)
  | 14 => ("PigLineModel", "missed", "I", false)
  | 15 => ("PigLineModel", "extra", "I", false)
  | 16 => ("PigLineModel", "costs", "[I", true)
  | 17 => ("PigLineModel", "pairOf", "[I", true)
  | 18 => ("PigLineModel", "marks", "[I", true)
  | 19 => ("PigLineModel", "markWay", "[I", true)
  | 20 => ("PigLineModel", "markClock", "[I", true)
  | 21 => ("PigLineModel", "markDepth", "[I", true)
  | 22 => ("PigLineModel", "markLength", "[I", true)
  | 23 => ("PigLineModel", "gap", "I", false)
  | 24 => ("PigLineModel", "turn", "I", false)
  | 25 => ("PigLineModel", "groupOf", "[I", true)
  | 26 => ("PigLineModel", "groups", "I", false)
  | 27 => ("PigLineModel", "alone", "I", false)
  | 28 => ("PigLineModel", "inMany", "[I", true)
  | 29 => ("PigLineModel", "inMark", "[I", true)
  | 30 => ("PigLineModel", "inWay", "[I", true)
  | 31 => ("PigLineModel", "chosen", "[I", true)
  | 32 => ("PigLineModel", "bestChosen", "[I", true)
  | 33 => ("PigLineModel", "years", "I", false)
  | 34 => ("PigLineModel", "tool", "I", false)
  | 35 => ("PigLineModel", "limit", "I", false)
  | 36 => ("PigLineModel", "works", "I", false)
  | 37 => ("PigLineModel", "workCost", "[I", true)
  | 38 => ("PigLineModel", "workYear", "[I", true)
  | 39 => ("PigLineModel", "inYear", "I", false)
  | 40 => ("PigLineModel", "setting", "I", false)
  | 41 => ("PigLineModel", "isOpen", "[Z", true)
  | _ => ("PigLineModel", "isPressed", "Z", false)
def tyX10 : Nat → FieldType := fun k => match k with
  | 0 => .array .boolean
  | 1 => .array .int
  | 2 => .array .int
  | 3 => .array .int
  | 4 => .array .int
  | 5 => .int
  | 6 => .int
  | 7 => .int
  | 8 => .array .int
  | 9 => .int
  | 10 => .array .int
  | 11 => .array .int
  | 12 => .int
  | 13 => .array .int
  | 14 => .int
  | 15 => .int
  | 16 => .array .int
  | 17 => .array .int
  | 18 => .array .int
  | 19 => .array .int
  | 20 => .array .int
  | 21 => .array .int
  | 22 => .array .int
  | 23 => .int
  | 24 => .int
  | 25 => .array .int
  | 26 => .int
  | 27 => .int
  | 28 => .array .int
  | 29 => .array .int
  | 30 => .array .int
  | 31 => .array .int
  | 32 => .array .int
  | 33 => .int
  | 34 => .int
  | 35 => .int
  | 36 => .int
  | 37 => .array .int
  | 38 => .array .int
  | 39 => .int
  | 40 => .int
  | 41 => .array .boolean
  | _ => .boolean
abbrev wsX100 : List Cond := u_ws RX10 TX10 43
theorem nmX10 : ∀ a, a < 43 → ∀ b, b < 43 → a ≠ b → (TX10 a).2.1 ≠ (TX10 b).2.1 := by decide +kernel
theorem tyX10_ok : ∀ k, k < 43 → parseFieldDescriptor (TX10 k).2.2.1 = some (tyX10 k) := by decide +kernel
abbrev cX10_init : ByteArray := prog_12_method_1_code
def yX10_init : MethodName := ⟨RX10, "<init>", "()V"⟩
abbrev cX10_in : ByteArray := prog_12_method_3_code
def yX10_in : MethodName := ⟨RX10, "in", "(III)Z"⟩
abbrev cX10_meets : ByteArray := prog_12_method_4_code
def yX10_meets : MethodName := ⟨RX10, "meets", "(I)I"⟩
abbrev cX10_isReel : ByteArray := prog_12_method_5_code
def yX10_isReel : MethodName := ⟨RX10, "isReel", "(I)Z"⟩
abbrev cX10_reel : ByteArray := prog_12_method_6_code
def yX10_reel : MethodName := ⟨RX10, "reel", "(III)I"⟩
abbrev cX10_lose : ByteArray := prog_12_method_7_code
def yX10_lose : MethodName := ⟨RX10, "lose", "(I)I"⟩
abbrev cX10_lacks : ByteArray := prog_12_method_8_code
def yX10_lacks : MethodName := ⟨RX10, "lacks", "(III)I"⟩
abbrev cX10_put : ByteArray := prog_12_method_9_code
def yX10_put : MethodName := ⟨RX10, "put", "(IIII)I"⟩
abbrev cX10_get : ByteArray := prog_12_method_10_code
def yX10_get : MethodName := ⟨RX10, "get", "(III)I"⟩
abbrev cX10_copy : ByteArray := prog_12_method_11_code
def yX10_copy : MethodName := ⟨RX10, "copy", "(IIIII)I"⟩
abbrev cX10_isRun : ByteArray := prog_12_method_12_code
def yX10_isRun : MethodName := ⟨RX10, "isRun", "(I)Z"⟩
abbrev cX10_reading : ByteArray := prog_12_method_13_code
def yX10_reading : MethodName := ⟨RX10, "reading", "(II)I"⟩
abbrev cX10_middle : ByteArray := prog_12_method_14_code
def yX10_middle : MethodName := ⟨RX10, "middle", "(III)I"⟩
abbrev cX10_goThrough : ByteArray := prog_12_method_15_code
def yX10_goThrough : MethodName := ⟨RX10, "goThrough", "(I)V"⟩
abbrev cX10_run : ByteArray := prog_12_method_16_code
def yX10_run : MethodName := ⟨RX10, "run", "(II)I"⟩
abbrev cX10_way : ByteArray := prog_12_method_17_code
def yX10_way : MethodName := ⟨RX10, "way", "(II)I"⟩
abbrev cX10_felt : ByteArray := prog_12_method_18_code
def yX10_felt : MethodName := ⟨RX10, "felt", "(III)I"⟩
abbrev cX10_joint : ByteArray := prog_12_method_19_code
def yX10_joint : MethodName := ⟨RX10, "joint", "(I)I"⟩
abbrev cX10_wipe : ByteArray := prog_12_method_20_code
def yX10_wipe : MethodName := ⟨RX10, "wipe", "()I"⟩
abbrev cX10_costs : ByteArray := prog_12_method_21_code
def yX10_costs : MethodName := ⟨RX10, "costs", "(II)I"⟩
abbrev cX10_apart : ByteArray := prog_12_method_22_code
def yX10_apart : MethodName := ⟨RX10, "apart", "(II)I"⟩
abbrev cX10_pairCost : ByteArray := prog_12_method_23_code
def yX10_pairCost : MethodName := ⟨RX10, "pairCost", "(II)I"⟩
abbrev cX10_matches : ByteArray := prog_12_method_24_code
def yX10_matches : MethodName := ⟨RX10, "matches", "(I)V"⟩
abbrev cX10_match : ByteArray := prog_12_method_25_code
def yX10_match : MethodName := ⟨RX10, "match", "(I)I"⟩
abbrev cX10_paired : ByteArray := prog_12_method_26_code
def yX10_paired : MethodName := ⟨RX10, "paired", "(II)I"⟩
abbrev cX10_isMark : ByteArray := prog_12_method_27_code
def yX10_isMark : MethodName := ⟨RX10, "isMark", "(II)Z"⟩
abbrev cX10_mark : ByteArray := prog_12_method_28_code
def yX10_mark : MethodName := ⟨RX10, "mark", "(IIIII)I"⟩
abbrev cX10_clear : ByteArray := prog_12_method_29_code
def yX10_clear : MethodName := ⟨RX10, "clear", "(I)I"⟩
abbrev cX10_jointAt : ByteArray := prog_12_method_30_code
def yX10_jointAt : MethodName := ⟨RX10, "jointAt", "(I)I"⟩
abbrev cX10_hours : ByteArray := prog_12_method_31_code
def yX10_hours : MethodName := ⟨RX10, "hours", "(II)I"⟩
abbrev cX10_areNear : ByteArray := prog_12_method_32_code
def yX10_areNear : MethodName := ⟨RX10, "areNear", "(II)Z"⟩
abbrev cX10_joinMarks : ByteArray := prog_12_method_33_code
def yX10_joinMarks : MethodName := ⟨RX10, "joinMarks", "(I)V"⟩
abbrev cX10_about : ByteArray := prog_12_method_34_code
def yX10_about : MethodName := ⟨RX10, "about", "(III)I"⟩
abbrev cX10_near : ByteArray := prog_12_method_35_code
def yX10_near : MethodName := ⟨RX10, "near", "(II)I"⟩
abbrev cX10_groups : ByteArray := prog_12_method_36_code
def yX10_groups : MethodName := ⟨RX10, "groups", "(I)I"⟩
abbrev cX10_group : ByteArray := prog_12_method_37_code
def yX10_group : MethodName := ⟨RX10, "group", "(III)I"⟩
abbrev cX10_alone : ByteArray := prog_12_method_38_code
def yX10_alone : MethodName := ⟨RX10, "alone", "(I)I"⟩
abbrev cX10_gather : ByteArray := prog_12_method_39_code
def yX10_gather : MethodName := ⟨RX10, "gather", "(I)V"⟩
abbrev cX10_choiceCost : ByteArray := prog_12_method_40_code
def yX10_choiceCost : MethodName := ⟨RX10, "choiceCost", "()I"⟩
abbrev cX10_choosesOn : ByteArray := prog_12_method_41_code
def yX10_choosesOn : MethodName := ⟨RX10, "choosesOn", "()Z"⟩
abbrev cX10_pairs : ByteArray := prog_12_method_42_code
def yX10_pairs : MethodName := ⟨RX10, "pairs", "(I)I"⟩
abbrev cX10_pairing : ByteArray := prog_12_method_43_code
def yX10_pairing : MethodName := ⟨RX10, "pairing", "(I)I"⟩
abbrev cX10_twinOf : ByteArray := prog_12_method_44_code
def yX10_twinOf : MethodName := ⟨RX10, "twinOf", "(I)I"⟩
abbrev cX10_twin : ByteArray := prog_12_method_45_code
def yX10_twin : MethodName := ⟨RX10, "twin", "(I)I"⟩
abbrev cX10_tool : ByteArray := prog_12_method_46_code
def yX10_tool : MethodName := ⟨RX10, "tool", "(III)I"⟩
abbrev cX10_lowOf : ByteArray := prog_12_method_47_code
def yX10_lowOf : MethodName := ⟨RX10, "lowOf", "(I)I"⟩
abbrev cX10_highOf : ByteArray := prog_12_method_48_code
def yX10_highOf : MethodName := ⟨RX10, "highOf", "(I)I"⟩
abbrev cX10_growth : ByteArray := prog_12_method_49_code
def yX10_growth : MethodName := ⟨RX10, "growth", "(II)I"⟩
abbrev cX10_work : ByteArray := prog_12_method_50_code
def yX10_work : MethodName := ⟨RX10, "work", "(II)I"⟩
abbrev cX10_yearly : ByteArray := prog_12_method_51_code
def yX10_yearly : MethodName := ⟨RX10, "yearly", "(II)I"⟩
abbrev cX10_many : ByteArray := prog_12_method_52_code
def yX10_many : MethodName := ⟨RX10, "many", "(I)I"⟩
abbrev cX10_willDo : ByteArray := prog_12_method_53_code
def yX10_willDo : MethodName := ⟨RX10, "willDo", "(I)Z"⟩
abbrev cX10_planned : ByteArray := prog_12_method_54_code
def yX10_planned : MethodName := ⟨RX10, "planned", "()I"⟩
abbrev cX10_plan : ByteArray := prog_12_method_55_code
def yX10_plan : MethodName := ⟨RX10, "plan", "()I"⟩
abbrev cX10_years : ByteArray := prog_12_method_56_code
def yX10_years : MethodName := ⟨RX10, "years", "()I"⟩
abbrev cX10_when : ByteArray := prog_12_method_57_code
def yX10_when : MethodName := ⟨RX10, "when", "(I)I"⟩
abbrev cX10_mayOpen : ByteArray := prog_12_method_58_code
def yX10_mayOpen : MethodName := ⟨RX10, "mayOpen", "(I)Z"⟩
abbrev cX10_trap : ByteArray := prog_12_method_59_code
def yX10_trap : MethodName := ⟨RX10, "trap", "(IZ)I"⟩
abbrev cX10_count : ByteArray := prog_12_method_60_code
def yX10_count : MethodName := ⟨RX10, "count", "(I)I"⟩
abbrev cX10_digest : ByteArray := prog_12_method_61_code
def yX10_digest : MethodName := ⟨RX10, "digest", "()J"⟩
def RJ6 : String := "java/lang/Integer"
def TJ6 : u_T := fun k => match k with
  | _ => ("", "", "", false)
def tyJ6 : Nat → FieldType := fun k => match k with
  | _ => .int
abbrev wsJ60 : List Cond := u_ws RJ6 TJ6 0
theorem nmJ6 : ∀ a, a < 0 → ∀ b, b < 0 → a ≠ b → (TJ6 a).2.1 ≠ (TJ6 b).2.1 := by decide +kernel
theorem tyJ6_ok : ∀ k, k < 0 → parseFieldDescriptor (TJ6 k).2.2.1 = some (tyJ6 k) := by decide +kernel
abbrev cJ6_bitCount_0f7a4 : ByteArray := prog_13_method_49_code
def yJ6_bitCount_0f7a4 : MethodName := ⟨RJ6, "bitCount", "(I)I"⟩
def RJ9 : String := "java/lang/Math"
def TJ9 : u_T := fun k => match k with
  | _ => ("", "", "", false)
def tyJ9 : Nat → FieldType := fun k => match k with
  | _ => .int
abbrev wsJ90 : List Cond := u_ws RJ9 TJ9 0
theorem nmJ9 : ∀ a, a < 0 → ∀ b, b < 0 → a ≠ b → (TJ9 a).2.1 ≠ (TJ9 b).2.1 := by decide +kernel
theorem tyJ9_ok : ∀ k, k < 0 → parseFieldDescriptor (TJ9 k).2.2.1 = some (tyJ9 k) := by decide +kernel
abbrev cJ9_abs_0f7a4 : ByteArray := prog_14_method_59_code
def yJ9_abs_0f7a4 : MethodName := ⟨RJ9, "abs", "(I)I"⟩
abbrev cJ9_max_7cf53 : ByteArray := prog_14_method_65_code
def yJ9_max_7cf53 : MethodName := ⟨RJ9, "max", "(II)I"⟩
abbrev cJ9_min_7cf53 : ByteArray := prog_14_method_69_code
def yJ9_min_7cf53 : MethodName := ⟨RJ9, "min", "(II)I"⟩
def RJ10 : String := "java/lang/System"
def TJ10 : u_T := fun k => match k with
  | _ => ("", "", "", false)
def tyJ10 : Nat → FieldType := fun k => match k with
  | _ => .int
abbrev wsJ100 : List Cond := u_ws RJ10 TJ10 0
theorem nmJ10 : ∀ a, a < 0 → ∀ b, b < 0 → a ≠ b → (TJ10 a).2.1 ≠ (TJ10 b).2.1 := by decide +kernel
theorem tyJ10_ok : ∀ k, k < 0 → parseFieldDescriptor (TJ10 k).2.2.1 = some (tyJ10 k) := by decide +kernel
def RL : String := "PigLineLaw"
abbrev cL_law : ByteArray := code
def yL_law : MethodName := ⟨RL, "law", "([I)Z"⟩
abbrev vwCl : List vw_C := [(RX0, TX0, 5), (RX1, TX1, 6), (RX2, TX2, 4), (RX3, TX3, 8), (RX4, TX4, 4), (RX5, TX5, 3), (RX6, TX6, 12), (RX7, TX7, 3), (RX8, TX8, 2), (RX9, TX9, 10), (RX10, TX10, 43)]
/-- the tables' words that a call carries on -/
def LG : List Cond := lw_tbl.filter goodWord
theorem LG_tbl {w : Cond} (h : w ∈ LG) : w ∈ lw_tbl := (List.mem_filter.mp h).1
theorem mg0 {w : Cond} (h : w ∈ lw_tbl) (hg : goodWord w = true) : w ∈ LG := List.mem_filter.mpr ⟨h, hg⟩
theorem mgt {w : Cond} (h : w ∈ tables_1) (hg : goodWord w = true) : w ∈ LG := mg0 (List.mem_append_right _ h) hg
theorem mg1 {w : Cond} (i : Nat) (h : tables_1_1[i]? = some w) (hg : goodWord w = true) : w ∈ LG := mgt (List.mem_append_left _ (List.mem_of_getElem? h)) hg
theorem mg2 {w : Cond} (i : Nat) (h : tables_1_2[i]? = some w) (hg : goodWord w = true) : w ∈ LG := mgt (List.mem_append_right _ (List.mem_append_left _ (List.mem_of_getElem? h))) hg
theorem mg3 {w : Cond} (i : Nat) (h : tables_1_3[i]? = some w) (hg : goodWord w = true) : w ∈ LG := mgt (List.mem_append_right _ (List.mem_append_right _ (List.mem_append_left _ (List.mem_of_getElem? h)))) hg
theorem mg4 {w : Cond} (i : Nat) (h : tables_1_4[i]? = some w) (hg : goodWord w = true) : w ∈ LG := mgt (List.mem_append_right _ (List.mem_append_right _ (List.mem_append_right _ (List.mem_append_left _ (List.mem_of_getElem? h))))) hg
theorem mg5 {w : Cond} (i : Nat) (h : tables_1_5[i]? = some w) (hg : goodWord w = true) : w ∈ LG := mgt (List.mem_append_right _ (List.mem_append_right _ (List.mem_append_right _ (List.mem_append_right _ (List.mem_of_getElem? h))))) hg
theorem mps {w : Cond} {ys : List (MethodName × Nat)} (hy : ∀ q ∈ ys, q ∈ lw_privs) (i : Nat) (h : (k2_sels ys)[i]? = some w) (hg : goodWord w = true) : w ∈ LG := by
  refine mg0 (List.mem_append_left _ ?_) hg
  obtain ⟨q, hq, e⟩ := List.mem_map.mp (List.mem_of_getElem? h)
  exact List.mem_map.mpr ⟨q, hy q hq, e⟩
theorem mp1 {w : Cond} (i : Nat) (h : (k2_sels lw_privs_1)[i]? = some w) (hg : goodWord w = true) : w ∈ LG := mps (fun q hq => List.mem_append_left _ hq) i h hg
theorem mp2 {w : Cond} (i : Nat) (h : (k2_sels lw_privs_2)[i]? = some w) (hg : goodWord w = true) : w ∈ LG := mps (fun q hq => List.mem_append_right _ (List.mem_append_left _ hq)) i h hg
theorem mp3 {w : Cond} (i : Nat) (h : (k2_sels lw_privs_3)[i]? = some w) (hg : goodWord w = true) : w ∈ LG := mps (fun q hq => List.mem_append_right _ (List.mem_append_right _ hq)) i h hg
theorem LG_good {ws : List Cond} (h : ∀ w ∈ ws, w ∈ LG) : GoodIn LG ws := fun w hw => ⟨h w hw, good_of_word (List.mem_filter.mp (h w hw)).2⟩
/-- a method's words: its own code, then the tables' -/
abbrev wA (y : MethodName) (cc : ByteArray) (maxL : Nat) (ret : Option FieldType) : List Cond := Cond.code y cc maxL ret :: LG
end
section
theorem iz_L : (Jvm.Cond.initialized "PigLineLaw") ∈ LG := mg1 0 rfl rfl
theorem iz_X9 : (Jvm.Cond.initialized "PigLine") ∈ LG := mg1 1 rfl rfl
theorem iz_X6 : (Jvm.Cond.initialized "PigLine$Run") ∈ LG := mg1 2 rfl rfl
theorem iz_X5 : (Jvm.Cond.initialized "PigLine$Reel") ∈ LG := mg1 3 rfl rfl
theorem iz_X3 : (Jvm.Cond.initialized "PigLine$Marks") ∈ LG := mg1 4 rfl rfl
theorem iz_X0 : (Jvm.Cond.initialized "PigLine$Book") ∈ LG := mg1 5 rfl rfl
theorem iz_X4 : (Jvm.Cond.initialized "PigLine$Pairs") ∈ LG := mg1 6 rfl rfl
theorem iz_X2 : (Jvm.Cond.initialized "PigLine$Lot") ∈ LG := mg1 7 rfl rfl
theorem iz_X7 : (Jvm.Cond.initialized "PigLine$Spans") ∈ LG := mg1 8 rfl rfl
theorem iz_X1 : (Jvm.Cond.initialized "PigLine$Digs") ∈ LG := mg1 9 rfl rfl
theorem iz_X8 : (Jvm.Cond.initialized "PigLine$Valves") ∈ LG := mg1 10 rfl rfl
theorem iz_X10 : (Jvm.Cond.initialized "PigLineModel") ∈ LG := mg1 11 rfl rfl
theorem iz_J9 : (Jvm.Cond.initialized "java/lang/Math") ∈ LG := mg1 12 rfl rfl
theorem iz_J10 : (Jvm.Cond.initialized "java/lang/System") ∈ LG := mg1 13 rfl rfl
theorem iz_J6 : (Jvm.Cond.initialized "java/lang/Integer") ∈ LG := mg1 14 rfl rfl
theorem lkK_L_7 : (Jvm.Cond.classLink "PigLineLaw" (7 : Nat) "PigLine") ∈ LG := mg1 15 rfl rfl
theorem inst_X9 : (Jvm.Cond.instantiable "PigLine" (10 : Nat)) ∈ LG := mg1 16 rfl rfl
theorem lkM_L_9 : (Jvm.Cond.methodLink "PigLineLaw" (9 : Nat) ({ cls := "PigLine", name := "<init>", desc := "()V" } : Jvm.MethodName)) ∈ LG := mg1 17 rfl rfl
theorem mI_X9_init : (Jvm.Cond.instanceMethod ({ cls := "PigLine", name := "<init>", desc := "()V" } : Jvm.MethodName)) ∈ LG := mg1 18 rfl rfl
theorem mC_X9_init : (Jvm.Cond.code ({ cls := "PigLine", name := "<init>", desc := "()V" } : Jvm.MethodName) prog_1_method_1_code (1 : Nat) (Option.none : Option Jvm.ClassFile.FieldType)) ∈ LG := mg1 19 rfl rfl
theorem lkM_X9_1 : (Jvm.Cond.methodLink "PigLine" (1 : Nat) ({ cls := "java/lang/Object", name := "<init>", desc := "()V" } : Jvm.MethodName)) ∈ LG := mg1 20 rfl rfl
theorem mI_N_init : (Jvm.Cond.instanceMethod ({ cls := "java/lang/Object", name := "<init>", desc := "()V" } : Jvm.MethodName)) ∈ LG := mg1 21 rfl rfl
theorem mC_N_obj : (Jvm.Cond.code ({ cls := "java/lang/Object", name := "<init>", desc := "()V" } : Jvm.MethodName) object_method_1_code (1 : Nat) (Option.none : Option Jvm.ClassFile.FieldType)) ∈ LG := mg1 22 rfl rfl
theorem lkK_X9_7 : (Jvm.Cond.classLink "PigLine" (7 : Nat) "PigLine$Run") ∈ LG := mg1 23 rfl rfl
theorem inst_X6 : (Jvm.Cond.instantiable "PigLine$Run" (12 : Nat)) ∈ LG := mg1 24 rfl rfl
theorem lkM_X9_9 : (Jvm.Cond.methodLink "PigLine" (9 : Nat) ({ cls := "PigLine$Run", name := "<init>", desc := "()V" } : Jvm.MethodName)) ∈ LG := mg1 25 rfl rfl
theorem mI_X6_init : (Jvm.Cond.instanceMethod ({ cls := "PigLine$Run", name := "<init>", desc := "()V" } : Jvm.MethodName)) ∈ LG := mg1 26 rfl rfl
theorem mC_X6_init : (Jvm.Cond.code ({ cls := "PigLine$Run", name := "<init>", desc := "()V" } : Jvm.MethodName) prog_8_method_1_code (1 : Nat) (Option.none : Option Jvm.ClassFile.FieldType)) ∈ LG := mg1 27 rfl rfl
theorem lkM_X6_3 : (Jvm.Cond.methodLink "PigLine$Run" (3 : Nat) ({ cls := "java/lang/Object", name := "<init>", desc := "()V" } : Jvm.MethodName)) ∈ LG := mg1 28 rfl rfl
theorem lkK_X6_9 : (Jvm.Cond.classLink "PigLine$Run" (9 : Nat) "PigLine$Reel") ∈ LG := mg1 29 rfl rfl
theorem inst_X5 : (Jvm.Cond.instantiable "PigLine$Reel" (3 : Nat)) ∈ LG := mg1 30 rfl rfl
theorem lkM_X6_11 : (Jvm.Cond.methodLink "PigLine$Run" (11 : Nat) ({ cls := "PigLine$Reel", name := "<init>", desc := "()V" } : Jvm.MethodName)) ∈ LG := mg1 31 rfl rfl
theorem mI_X5_init : (Jvm.Cond.instanceMethod ({ cls := "PigLine$Reel", name := "<init>", desc := "()V" } : Jvm.MethodName)) ∈ LG := mg1 32 rfl rfl
theorem mC_X5_init : (Jvm.Cond.code ({ cls := "PigLine$Reel", name := "<init>", desc := "()V" } : Jvm.MethodName) prog_7_method_1_code (1 : Nat) (Option.none : Option Jvm.ClassFile.FieldType)) ∈ LG := mg1 33 rfl rfl
theorem lkM_X5_3 : (Jvm.Cond.methodLink "PigLine$Reel" (3 : Nat) ({ cls := "java/lang/Object", name := "<init>", desc := "()V" } : Jvm.MethodName)) ∈ LG := mg1 34 rfl rfl
theorem lkF_X5_9 : (Jvm.Cond.fieldLink "PigLine$Reel" (9 : Nat) "PigLine$Reel" "items" "[I") ∈ LG := mg1 35 rfl rfl
theorem lkF_X9_100 : (Jvm.Cond.fieldLink "PigLine" (100 : Nat) "PigLine$Reel" "items" "[I") ∈ LG := mg1 36 rfl rfl
theorem lkF_X5_15 : (Jvm.Cond.fieldLink "PigLine$Reel" (15 : Nat) "PigLine$Reel" "form" "I") ∈ LG := mg1 37 rfl rfl
theorem lkF_X9_104 : (Jvm.Cond.fieldLink "PigLine" (104 : Nat) "PigLine$Reel" "form" "I") ∈ LG := mg1 38 rfl rfl
theorem lkF_X5_19 : (Jvm.Cond.fieldLink "PigLine$Reel" (19 : Nat) "PigLine$Reel" "size" "I") ∈ LG := mg1 39 rfl rfl
theorem lkF_X6_47 : (Jvm.Cond.fieldLink "PigLine$Run" (47 : Nat) "PigLine$Reel" "size" "I") ∈ LG := mg1 40 rfl rfl
theorem lkF_X9_86 : (Jvm.Cond.fieldLink "PigLine" (86 : Nat) "PigLine$Reel" "size" "I") ∈ LG := mg1 41 rfl rfl
theorem ac_I : (Jvm.Cond.arrayClass Jvm.ClassFile.FieldType.int) ∈ LG := mg1 49 rfl rfl
theorem lkK_X6_27 : (Jvm.Cond.classLink "PigLine$Run" (27 : Nat) "PigLine$Marks") ∈ LG := mg1 50 rfl rfl
theorem inst_X3 : (Jvm.Cond.instantiable "PigLine$Marks" (8 : Nat)) ∈ LG := mg1 51 rfl rfl
theorem lkM_X6_29 : (Jvm.Cond.methodLink "PigLine$Run" (29 : Nat) ({ cls := "PigLine$Marks", name := "<init>", desc := "()V" } : Jvm.MethodName)) ∈ LG := mg1 52 rfl rfl
theorem mI_X3_init : (Jvm.Cond.instanceMethod ({ cls := "PigLine$Marks", name := "<init>", desc := "()V" } : Jvm.MethodName)) ∈ LG := mg1 53 rfl rfl
theorem mC_X3_init : (Jvm.Cond.code ({ cls := "PigLine$Marks", name := "<init>", desc := "()V" } : Jvm.MethodName) prog_5_method_1_code (1 : Nat) (Option.none : Option Jvm.ClassFile.FieldType)) ∈ LG := mg1 54 rfl rfl
theorem lkM_X3_3 : (Jvm.Cond.methodLink "PigLine$Marks" (3 : Nat) ({ cls := "java/lang/Object", name := "<init>", desc := "()V" } : Jvm.MethodName)) ∈ LG := mg1 55 rfl rfl
theorem lkF_X3_9 : (Jvm.Cond.fieldLink "PigLine$Marks" (9 : Nat) "PigLine$Marks" "ways" "[I") ∈ LG := mg1 56 rfl rfl
theorem lkF_X2_37 : (Jvm.Cond.fieldLink "PigLine$Lot" (37 : Nat) "PigLine$Marks" "ways" "[I") ∈ LG := mg1 57 rfl rfl
theorem lkF_X6_80 : (Jvm.Cond.fieldLink "PigLine$Run" (80 : Nat) "PigLine$Marks" "ways" "[I") ∈ LG := mg1 58 rfl rfl
theorem lkF_X9_284 : (Jvm.Cond.fieldLink "PigLine" (284 : Nat) "PigLine$Marks" "ways" "[I") ∈ LG := mg1 59 rfl rfl
theorem lkF_X3_15 : (Jvm.Cond.fieldLink "PigLine$Marks" (15 : Nat) "PigLine$Marks" "clocks" "[I") ∈ LG := mg1 60 rfl rfl
theorem lkF_X2_47 : (Jvm.Cond.fieldLink "PigLine$Lot" (47 : Nat) "PigLine$Marks" "clocks" "[I") ∈ LG := mg1 61 rfl rfl
theorem lkF_X3_18 : (Jvm.Cond.fieldLink "PigLine$Marks" (18 : Nat) "PigLine$Marks" "depths" "[I") ∈ LG := mg1 62 rfl rfl
theorem lkF_X9_219 : (Jvm.Cond.fieldLink "PigLine" (219 : Nat) "PigLine$Marks" "depths" "[I") ∈ LG := mg1 63 rfl rfl
theorem lkF_X3_21 : (Jvm.Cond.fieldLink "PigLine$Marks" (21 : Nat) "PigLine$Marks" "lengths" "[I") ∈ LG := mg1 64 rfl rfl
theorem lkF_X3_24 : (Jvm.Cond.fieldLink "PigLine$Marks" (24 : Nat) "PigLine$Marks" "groupOf" "[I") ∈ LG := mg1 65 rfl rfl
theorem lkF_X3_27 : (Jvm.Cond.fieldLink "PigLine$Marks" (27 : Nat) "PigLine$Marks" "waiting" "[I") ∈ LG := mg1 66 rfl rfl
theorem lkF_X3_30 : (Jvm.Cond.fieldLink "PigLine$Marks" (30 : Nat) "PigLine$Marks" "size" "I") ∈ LG := mg1 67 rfl rfl
theorem lkF_X2_34 : (Jvm.Cond.fieldLink "PigLine$Lot" (34 : Nat) "PigLine$Marks" "size" "I") ∈ LG := mg1 68 rfl rfl
theorem lkF_X9_182 : (Jvm.Cond.fieldLink "PigLine" (182 : Nat) "PigLine$Marks" "size" "I") ∈ LG := mg1 69 rfl rfl
theorem lkF_X3_47 : (Jvm.Cond.fieldLink "PigLine$Marks" (47 : Nat) "PigLine$Marks" "groupCount" "I") ∈ LG := mg1 70 rfl rfl
theorem lkF_X9_192 : (Jvm.Cond.fieldLink "PigLine" (192 : Nat) "PigLine$Marks" "groupCount" "I") ∈ LG := mg1 71 rfl rfl
theorem lkF_X6_12 : (Jvm.Cond.fieldLink "PigLine$Run" (12 : Nat) "PigLine$Run" "wheelA" "LPigLine$Reel;") ∈ LG := mg1 89 rfl rfl
theorem lkF_X6_18 : (Jvm.Cond.fieldLink "PigLine$Run" (18 : Nat) "PigLine$Run" "wheelB" "LPigLine$Reel;") ∈ LG := mg1 90 rfl rfl
theorem lkF_X6_21 : (Jvm.Cond.fieldLink "PigLine$Run" (21 : Nat) "PigLine$Run" "wheelC" "LPigLine$Reel;") ∈ LG := mg1 91 rfl rfl
theorem lkF_X6_24 : (Jvm.Cond.fieldLink "PigLine$Run" (24 : Nat) "PigLine$Run" "feelers" "LPigLine$Reel;") ∈ LG := mg1 92 rfl rfl
theorem lkF_X6_30 : (Jvm.Cond.fieldLink "PigLine$Run" (30 : Nat) "PigLine$Run" "marks" "LPigLine$Marks;") ∈ LG := mg1 93 rfl rfl
theorem lkF_X2_30 : (Jvm.Cond.fieldLink "PigLine$Lot" (30 : Nat) "PigLine$Run" "marks" "LPigLine$Marks;") ∈ LG := mg1 94 rfl rfl
theorem lkF_X9_173 : (Jvm.Cond.fieldLink "PigLine" (173 : Nat) "PigLine$Run" "marks" "LPigLine$Marks;") ∈ LG := mg1 95 rfl rfl
theorem lkF_X6_34 : (Jvm.Cond.fieldLink "PigLine$Run" (34 : Nat) "PigLine$Run" "ways" "[I") ∈ LG := mg1 96 rfl rfl
theorem lkF_X9_134 : (Jvm.Cond.fieldLink "PigLine" (134 : Nat) "PigLine$Run" "ways" "[I") ∈ LG := mg1 97 rfl rfl
theorem lkF_X6_38 : (Jvm.Cond.fieldLink "PigLine$Run" (38 : Nat) "PigLine$Run" "starts" "[I") ∈ LG := mg1 98 rfl rfl
theorem lkF_X2_44 : (Jvm.Cond.fieldLink "PigLine$Lot" (44 : Nat) "PigLine$Run" "starts" "[I") ∈ LG := mg1 99 rfl rfl
theorem lkF_X9_140 : (Jvm.Cond.fieldLink "PigLine" (140 : Nat) "PigLine$Run" "starts" "[I") ∈ LG := mg1 100 rfl rfl
theorem lkF_X6_41 : (Jvm.Cond.fieldLink "PigLine$Run" (41 : Nat) "PigLine$Run" "lengths" "[I") ∈ LG := mg1 101 rfl rfl
theorem lkF_X0_43 : (Jvm.Cond.fieldLink "PigLine$Book" (43 : Nat) "PigLine$Run" "lengths" "[I") ∈ LG := mg1 102 rfl rfl
theorem lkF_X9_143 : (Jvm.Cond.fieldLink "PigLine" (143 : Nat) "PigLine$Run" "lengths" "[I") ∈ LG := mg1 103 rfl rfl
theorem lkF_X6_44 : (Jvm.Cond.fieldLink "PigLine$Run" (44 : Nat) "PigLine$Run" "partners" "[I") ∈ LG := mg1 104 rfl rfl
theorem lkF_X0_55 : (Jvm.Cond.fieldLink "PigLine$Book" (55 : Nat) "PigLine$Run" "partners" "[I") ∈ LG := mg1 105 rfl rfl
theorem lkF_X9_169 : (Jvm.Cond.fieldLink "PigLine" (169 : Nat) "PigLine$Run" "partners" "[I") ∈ LG := mg1 106 rfl rfl
theorem lkF_X6_57 : (Jvm.Cond.fieldLink "PigLine$Run" (57 : Nat) "PigLine$Run" "ticks" "I") ∈ LG := mg1 107 rfl rfl
theorem lkF_X9_131 : (Jvm.Cond.fieldLink "PigLine" (131 : Nat) "PigLine$Run" "ticks" "I") ∈ LG := mg1 108 rfl rfl
theorem lkF_X6_60 : (Jvm.Cond.fieldLink "PigLine$Run" (60 : Nat) "PigLine$Run" "blindTicks" "I") ∈ LG := mg1 109 rfl rfl
theorem lkF_X2_25 : (Jvm.Cond.fieldLink "PigLine$Lot" (25 : Nat) "PigLine$Run" "feltCount" "I") ∈ LG := mg1 110 rfl rfl
theorem lkF_X6_63 : (Jvm.Cond.fieldLink "PigLine$Run" (63 : Nat) "PigLine$Run" "feltCount" "I") ∈ LG := mg1 111 rfl rfl
theorem lkF_X0_28 : (Jvm.Cond.fieldLink "PigLine$Book" (28 : Nat) "PigLine$Run" "feltCount" "I") ∈ LG := mg1 112 rfl rfl
theorem lkF_X9_137 : (Jvm.Cond.fieldLink "PigLine" (137 : Nat) "PigLine$Run" "feltCount" "I") ∈ LG := mg1 113 rfl rfl
theorem lkK_X9_19 : (Jvm.Cond.classLink "PigLine" (19 : Nat) "PigLine$Book") ∈ LG := mg1 139 rfl rfl
theorem inst_X0 : (Jvm.Cond.instantiable "PigLine$Book" (5 : Nat)) ∈ LG := mg1 140 rfl rfl
theorem lkM_X9_21 : (Jvm.Cond.methodLink "PigLine" (21 : Nat) ({ cls := "PigLine$Book", name := "<init>", desc := "()V" } : Jvm.MethodName)) ∈ LG := mg1 141 rfl rfl
theorem mI_X0_init : (Jvm.Cond.instanceMethod ({ cls := "PigLine$Book", name := "<init>", desc := "()V" } : Jvm.MethodName)) ∈ LG := mg1 142 rfl rfl
theorem mC_X0_init : (Jvm.Cond.code ({ cls := "PigLine$Book", name := "<init>", desc := "()V" } : Jvm.MethodName) prog_2_method_1_code (1 : Nat) (Option.none : Option Jvm.ClassFile.FieldType)) ∈ LG := mg1 143 rfl rfl
theorem lkM_X0_3 : (Jvm.Cond.methodLink "PigLine$Book" (3 : Nat) ({ cls := "java/lang/Object", name := "<init>", desc := "()V" } : Jvm.MethodName)) ∈ LG := mg1 144 rfl rfl
theorem lkF_X0_9 : (Jvm.Cond.fieldLink "PigLine$Book" (9 : Nat) "PigLine$Book" "lengths" "[I") ∈ LG := mg1 145 rfl rfl
theorem lkF_X0_15 : (Jvm.Cond.fieldLink "PigLine$Book" (15 : Nat) "PigLine$Book" "least" "[I") ∈ LG := mg1 146 rfl rfl
theorem lkF_X0_18 : (Jvm.Cond.fieldLink "PigLine$Book" (18 : Nat) "PigLine$Book" "size" "I") ∈ LG := mg1 147 rfl rfl
theorem lkF_X9_150 : (Jvm.Cond.fieldLink "PigLine" (150 : Nat) "PigLine$Book" "size" "I") ∈ LG := mg1 148 rfl rfl
theorem lkF_X0_22 : (Jvm.Cond.fieldLink "PigLine$Book" (22 : Nat) "PigLine$Book" "missed" "I") ∈ LG := mg1 149 rfl rfl
theorem lkF_X9_152 : (Jvm.Cond.fieldLink "PigLine" (152 : Nat) "PigLine$Book" "missed" "I") ∈ LG := mg1 150 rfl rfl
theorem lkF_X0_25 : (Jvm.Cond.fieldLink "PigLine$Book" (25 : Nat) "PigLine$Book" "extra" "I") ∈ LG := mg1 151 rfl rfl
theorem lkF_X9_155 : (Jvm.Cond.fieldLink "PigLine" (155 : Nat) "PigLine$Book" "extra" "I") ∈ LG := mg1 152 rfl rfl
theorem lkK_X9_26 : (Jvm.Cond.classLink "PigLine" (26 : Nat) "PigLine$Pairs") ∈ LG := mg1 164 rfl rfl
theorem inst_X4 : (Jvm.Cond.instantiable "PigLine$Pairs" (4 : Nat)) ∈ LG := mg1 165 rfl rfl
theorem lkM_X9_28 : (Jvm.Cond.methodLink "PigLine" (28 : Nat) ({ cls := "PigLine$Pairs", name := "<init>", desc := "()V" } : Jvm.MethodName)) ∈ LG := mg1 166 rfl rfl
theorem mI_X4_init : (Jvm.Cond.instanceMethod ({ cls := "PigLine$Pairs", name := "<init>", desc := "()V" } : Jvm.MethodName)) ∈ LG := mg1 167 rfl rfl
theorem mC_X4_init : (Jvm.Cond.code ({ cls := "PigLine$Pairs", name := "<init>", desc := "()V" } : Jvm.MethodName) prog_6_method_1_code (1 : Nat) (Option.none : Option Jvm.ClassFile.FieldType)) ∈ LG := mg1 168 rfl rfl
theorem lkM_X4_3 : (Jvm.Cond.methodLink "PigLine$Pairs" (3 : Nat) ({ cls := "java/lang/Object", name := "<init>", desc := "()V" } : Jvm.MethodName)) ∈ LG := mg1 169 rfl rfl
theorem lkK_X4_9 : (Jvm.Cond.classLink "PigLine$Pairs" (9 : Nat) "PigLine$Lot") ∈ LG := mg1 170 rfl rfl
theorem inst_X2 : (Jvm.Cond.instantiable "PigLine$Lot" (4 : Nat)) ∈ LG := mg1 171 rfl rfl
theorem lkM_X4_11 : (Jvm.Cond.methodLink "PigLine$Pairs" (11 : Nat) ({ cls := "PigLine$Lot", name := "<init>", desc := "()V" } : Jvm.MethodName)) ∈ LG := mg1 172 rfl rfl
theorem mI_X2_init : (Jvm.Cond.instanceMethod ({ cls := "PigLine$Lot", name := "<init>", desc := "()V" } : Jvm.MethodName)) ∈ LG := mg1 173 rfl rfl
theorem mC_X2_init : (Jvm.Cond.code ({ cls := "PigLine$Lot", name := "<init>", desc := "()V" } : Jvm.MethodName) prog_4_method_1_code (1 : Nat) (Option.none : Option Jvm.ClassFile.FieldType)) ∈ LG := mg1 174 rfl rfl
theorem lkM_X2_3 : (Jvm.Cond.methodLink "PigLine$Lot" (3 : Nat) ({ cls := "java/lang/Object", name := "<init>", desc := "()V" } : Jvm.MethodName)) ∈ LG := mg1 175 rfl rfl
theorem lkF_X2_9 : (Jvm.Cond.fieldLink "PigLine$Lot" (9 : Nat) "PigLine$Lot" "numbers" "[I") ∈ LG := mg1 176 rfl rfl
theorem lkF_X4_70 : (Jvm.Cond.fieldLink "PigLine$Pairs" (70 : Nat) "PigLine$Lot" "numbers" "[I") ∈ LG := mg1 177 rfl rfl
theorem lkF_X2_15 : (Jvm.Cond.fieldLink "PigLine$Lot" (15 : Nat) "PigLine$Lot" "distances" "[I") ∈ LG := mg1 178 rfl rfl
theorem lkF_X4_55 : (Jvm.Cond.fieldLink "PigLine$Pairs" (55 : Nat) "PigLine$Lot" "distances" "[I") ∈ LG := mg1 179 rfl rfl
theorem lkF_X2_18 : (Jvm.Cond.fieldLink "PigLine$Lot" (18 : Nat) "PigLine$Lot" "clocks" "[I") ∈ LG := mg1 180 rfl rfl
theorem lkF_X4_61 : (Jvm.Cond.fieldLink "PigLine$Pairs" (61 : Nat) "PigLine$Lot" "clocks" "[I") ∈ LG := mg1 181 rfl rfl
theorem lkF_X2_21 : (Jvm.Cond.fieldLink "PigLine$Lot" (21 : Nat) "PigLine$Lot" "size" "I") ∈ LG := mg1 182 rfl rfl
theorem lkF_X4_33 : (Jvm.Cond.fieldLink "PigLine$Pairs" (33 : Nat) "PigLine$Lot" "size" "I") ∈ LG := mg1 183 rfl rfl
theorem lkF_X4_12 : (Jvm.Cond.fieldLink "PigLine$Pairs" (12 : Nat) "PigLine$Pairs" "firsts" "LPigLine$Lot;") ∈ LG := mg1 193 rfl rfl
theorem lkF_X4_18 : (Jvm.Cond.fieldLink "PigLine$Pairs" (18 : Nat) "PigLine$Pairs" "seconds" "LPigLine$Lot;") ∈ LG := mg1 194 rfl rfl
theorem lkF_X4_21 : (Jvm.Cond.fieldLink "PigLine$Pairs" (21 : Nat) "PigLine$Pairs" "least" "[I") ∈ LG := mg1 195 rfl rfl
theorem lkF_X4_25 : (Jvm.Cond.fieldLink "PigLine$Pairs" (25 : Nat) "PigLine$Pairs" "alone" "I") ∈ LG := mg1 196 rfl rfl
theorem lkF_X9_198 : (Jvm.Cond.fieldLink "PigLine" (198 : Nat) "PigLine$Pairs" "alone" "I") ∈ LG := mg1 197 rfl rfl
theorem lkK_X9_33 : (Jvm.Cond.classLink "PigLine" (33 : Nat) "PigLine$Spans") ∈ LG := mg1 207 rfl rfl
theorem inst_X7 : (Jvm.Cond.instantiable "PigLine$Spans" (3 : Nat)) ∈ LG := mg1 208 rfl rfl
theorem lkM_X9_35 : (Jvm.Cond.methodLink "PigLine" (35 : Nat) ({ cls := "PigLine$Spans", name := "<init>", desc := "()V" } : Jvm.MethodName)) ∈ LG := mg1 209 rfl rfl
theorem mI_X7_init : (Jvm.Cond.instanceMethod ({ cls := "PigLine$Spans", name := "<init>", desc := "()V" } : Jvm.MethodName)) ∈ LG := mg1 210 rfl rfl
theorem mC_X7_init : (Jvm.Cond.code ({ cls := "PigLine$Spans", name := "<init>", desc := "()V" } : Jvm.MethodName) prog_9_method_1_code (1 : Nat) (Option.none : Option Jvm.ClassFile.FieldType)) ∈ LG := mg1 211 rfl rfl
theorem lkM_X7_3 : (Jvm.Cond.methodLink "PigLine$Spans" (3 : Nat) ({ cls := "java/lang/Object", name := "<init>", desc := "()V" } : Jvm.MethodName)) ∈ LG := mg1 212 rfl rfl
theorem lkF_X7_9 : (Jvm.Cond.fieldLink "PigLine$Spans" (9 : Nat) "PigLine$Spans" "years" "I") ∈ LG := mg1 213 rfl rfl
theorem lkF_X9_210 : (Jvm.Cond.fieldLink "PigLine" (210 : Nat) "PigLine$Spans" "years" "I") ∈ LG := mg1 214 rfl rfl
theorem lkF_X7_15 : (Jvm.Cond.fieldLink "PigLine$Spans" (15 : Nat) "PigLine$Spans" "tool" "I") ∈ LG := mg1 215 rfl rfl
theorem lkF_X9_213 : (Jvm.Cond.fieldLink "PigLine" (213 : Nat) "PigLine$Spans" "tool" "I") ∈ LG := mg1 216 rfl rfl
theorem lkF_X7_18 : (Jvm.Cond.fieldLink "PigLine$Spans" (18 : Nat) "PigLine$Spans" "limit" "I") ∈ LG := mg1 217 rfl rfl
theorem lkF_X9_216 : (Jvm.Cond.fieldLink "PigLine" (216 : Nat) "PigLine$Spans" "limit" "I") ∈ LG := mg1 218 rfl rfl
theorem lkK_X9_40 : (Jvm.Cond.classLink "PigLine" (40 : Nat) "PigLine$Digs") ∈ LG := mg1 226 rfl rfl
theorem inst_X1 : (Jvm.Cond.instantiable "PigLine$Digs" (6 : Nat)) ∈ LG := mg1 227 rfl rfl
theorem lkM_X9_42 : (Jvm.Cond.methodLink "PigLine" (42 : Nat) ({ cls := "PigLine$Digs", name := "<init>", desc := "()V" } : Jvm.MethodName)) ∈ LG := mg1 228 rfl rfl
theorem mI_X1_init : (Jvm.Cond.instanceMethod ({ cls := "PigLine$Digs", name := "<init>", desc := "()V" } : Jvm.MethodName)) ∈ LG := mg1 229 rfl rfl
theorem mC_X1_init : (Jvm.Cond.code ({ cls := "PigLine$Digs", name := "<init>", desc := "()V" } : Jvm.MethodName) prog_3_method_1_code (1 : Nat) (Option.none : Option Jvm.ClassFile.FieldType)) ∈ LG := mg1 230 rfl rfl
theorem lkM_X1_3 : (Jvm.Cond.methodLink "PigLine$Digs" (3 : Nat) ({ cls := "java/lang/Object", name := "<init>", desc := "()V" } : Jvm.MethodName)) ∈ LG := mg1 231 rfl rfl
theorem lkF_X1_9 : (Jvm.Cond.fieldLink "PigLine$Digs" (9 : Nat) "PigLine$Digs" "lastYears" "[I") ∈ LG := mg1 232 rfl rfl
theorem lkF_X1_15 : (Jvm.Cond.fieldLink "PigLine$Digs" (15 : Nat) "PigLine$Digs" "dueIn" "[I") ∈ LG := mg1 233 rfl rfl
theorem lkF_X1_25 : (Jvm.Cond.fieldLink "PigLine$Digs" (25 : Nat) "PigLine$Digs" "size" "I") ∈ LG := mg1 234 rfl rfl
theorem lkF_X9_240 : (Jvm.Cond.fieldLink "PigLine" (240 : Nat) "PigLine$Digs" "size" "I") ∈ LG := mg1 235 rfl rfl
theorem lkF_X1_28 : (Jvm.Cond.fieldLink "PigLine$Digs" (28 : Nat) "PigLine$Digs" "costOfWorks" "I") ∈ LG := mg1 236 rfl rfl
theorem lkF_X1_18 : (Jvm.Cond.fieldLink "PigLine$Digs" (18 : Nat) "PigLine$Digs" "perYear" "I") ∈ LG := mg1 237 rfl rfl
theorem lkF_X9_227 : (Jvm.Cond.fieldLink "PigLine" (227 : Nat) "PigLine$Digs" "perYear" "I") ∈ LG := mg1 238 rfl rfl
theorem lkF_X1_22 : (Jvm.Cond.fieldLink "PigLine$Digs" (22 : Nat) "PigLine$Digs" "setting" "I") ∈ LG := mg1 239 rfl rfl
theorem lkF_X9_230 : (Jvm.Cond.fieldLink "PigLine" (230 : Nat) "PigLine$Digs" "setting" "I") ∈ LG := mg2 0 rfl rfl
theorem lkK_X9_47 : (Jvm.Cond.classLink "PigLine" (47 : Nat) "PigLine$Valves") ∈ LG := mg2 14 rfl rfl
theorem inst_X8 : (Jvm.Cond.instantiable "PigLine$Valves" (2 : Nat)) ∈ LG := mg2 15 rfl rfl
theorem lkM_X9_49 : (Jvm.Cond.methodLink "PigLine" (49 : Nat) ({ cls := "PigLine$Valves", name := "<init>", desc := "()V" } : Jvm.MethodName)) ∈ LG := mg2 16 rfl rfl
theorem mI_X8_init : (Jvm.Cond.instanceMethod ({ cls := "PigLine$Valves", name := "<init>", desc := "()V" } : Jvm.MethodName)) ∈ LG := mg2 17 rfl rfl
theorem mC_X8_init : (Jvm.Cond.code ({ cls := "PigLine$Valves", name := "<init>", desc := "()V" } : Jvm.MethodName) prog_10_method_1_code (1 : Nat) (Option.none : Option Jvm.ClassFile.FieldType)) ∈ LG := mg2 18 rfl rfl
theorem lkM_X8_3 : (Jvm.Cond.methodLink "PigLine$Valves" (3 : Nat) ({ cls := "java/lang/Object", name := "<init>", desc := "()V" } : Jvm.MethodName)) ∈ LG := mg2 19 rfl rfl
theorem lkF_X8_9 : (Jvm.Cond.fieldLink "PigLine$Valves" (9 : Nat) "PigLine$Valves" "openBits" "I") ∈ LG := mg2 20 rfl rfl
theorem lkF_X9_257 : (Jvm.Cond.fieldLink "PigLine" (257 : Nat) "PigLine$Valves" "openBits" "I") ∈ LG := mg2 21 rfl rfl
theorem lkF_X8_15 : (Jvm.Cond.fieldLink "PigLine$Valves" (15 : Nat) "PigLine$Valves" "pressed" "Z") ∈ LG := mg2 22 rfl rfl
theorem lkF_X9_260 : (Jvm.Cond.fieldLink "PigLine" (260 : Nat) "PigLine$Valves" "pressed" "Z") ∈ LG := mg2 23 rfl rfl
theorem lkF_X9_10 : (Jvm.Cond.fieldLink "PigLine" (10 : Nat) "PigLine" "firstRun" "LPigLine$Run;") ∈ LG := mg2 29 rfl rfl
theorem lkF_X9_16 : (Jvm.Cond.fieldLink "PigLine" (16 : Nat) "PigLine" "secondRun" "LPigLine$Run;") ∈ LG := mg2 30 rfl rfl
theorem lkF_X9_22 : (Jvm.Cond.fieldLink "PigLine" (22 : Nat) "PigLine" "book" "LPigLine$Book;") ∈ LG := mg2 31 rfl rfl
theorem lkF_X9_29 : (Jvm.Cond.fieldLink "PigLine" (29 : Nat) "PigLine" "pairs" "LPigLine$Pairs;") ∈ LG := mg2 32 rfl rfl
theorem lkF_X9_36 : (Jvm.Cond.fieldLink "PigLine" (36 : Nat) "PigLine" "spans" "LPigLine$Spans;") ∈ LG := mg2 33 rfl rfl
theorem lkF_X9_43 : (Jvm.Cond.fieldLink "PigLine" (43 : Nat) "PigLine" "digs" "LPigLine$Digs;") ∈ LG := mg2 34 rfl rfl
theorem lkF_X9_50 : (Jvm.Cond.fieldLink "PigLine" (50 : Nat) "PigLine" "valves" "LPigLine$Valves;") ∈ LG := mg2 35 rfl rfl
theorem lkF_X9_54 : (Jvm.Cond.fieldLink "PigLine" (54 : Nat) "PigLine" "gap" "I") ∈ LG := mg2 36 rfl rfl
theorem lkF_X9_58 : (Jvm.Cond.fieldLink "PigLine" (58 : Nat) "PigLine" "turn" "I") ∈ LG := mg2 37 rfl rfl
theorem lkF_X9_61 : (Jvm.Cond.fieldLink "PigLine" (61 : Nat) "PigLine" "latestFinding" "I") ∈ LG := mg2 38 rfl rfl
theorem lkM_L_13 : (Jvm.Cond.methodLink "PigLineLaw" (13 : Nat) ({ cls := "PigLine", name := "reel", desc := "(III)I" } : Jvm.MethodName)) ∈ LG := mg2 60 rfl rfl
theorem mI_X9_reel : (Jvm.Cond.instanceMethod ({ cls := "PigLine", name := "reel", desc := "(III)I" } : Jvm.MethodName)) ∈ LG := mg2 61 rfl rfl
theorem mE_X9_reel : (Jvm.Cond.selects "PigLine" ({ cls := "PigLine", name := "reel", desc := "(III)I" } : Jvm.MethodName) ({ cls := "PigLine", name := "reel", desc := "(III)I" } : Jvm.MethodName)) ∈ LG := mg2 62 rfl rfl
theorem mC_X9_reel : (Jvm.Cond.code ({ cls := "PigLine", name := "reel", desc := "(III)I" } : Jvm.MethodName) prog_1_method_2_code (5 : Nat) (Option.some Jvm.ClassFile.FieldType.int)) ∈ LG := mg2 63 rfl rfl
theorem lkM_X9_64 : (Jvm.Cond.methodLink "PigLine" (64 : Nat) ({ cls := "PigLine", name := "reelAt", desc := "(I)LPigLine$Reel;" } : Jvm.MethodName)) ∈ LG := mg2 64 rfl rfl
theorem mI_X9_reelAt : (Jvm.Cond.instanceMethod ({ cls := "PigLine", name := "reelAt", desc := "(I)LPigLine$Reel;" } : Jvm.MethodName)) ∈ LG := mg2 66 rfl rfl
theorem mC_X9_reelAt : (Jvm.Cond.code ({ cls := "PigLine", name := "reelAt", desc := "(I)LPigLine$Reel;" } : Jvm.MethodName) prog_1_method_39_code (3 : Nat) (Option.some (Jvm.ClassFile.FieldType.object "PigLine$Reel"))) ∈ LG := mg2 67 rfl rfl
theorem lkM_X9_117 : (Jvm.Cond.methodLink "PigLine" (117 : Nat) ({ cls := "PigLine", name := "runAt", desc := "(I)LPigLine$Run;" } : Jvm.MethodName)) ∈ LG := mg2 68 rfl rfl
theorem mI_X9_runAt : (Jvm.Cond.instanceMethod ({ cls := "PigLine", name := "runAt", desc := "(I)LPigLine$Run;" } : Jvm.MethodName)) ∈ LG := mg2 70 rfl rfl
theorem mC_X9_runAt : (Jvm.Cond.code ({ cls := "PigLine", name := "runAt", desc := "(I)LPigLine$Run;" } : Jvm.MethodName) prog_1_method_38_code (2 : Nat) (Option.some (Jvm.ClassFile.FieldType.object "PigLine$Run"))) ∈ LG := mg2 71 rfl rfl
theorem lkM_X9_283 : (Jvm.Cond.methodLink "PigLine" (283 : Nat) ({ cls := "PigLine$Run", name := "reelAt", desc := "(I)LPigLine$Reel;" } : Jvm.MethodName)) ∈ LG := mg2 72 rfl rfl
theorem mI_X6_reelAt : (Jvm.Cond.instanceMethod ({ cls := "PigLine$Run", name := "reelAt", desc := "(I)LPigLine$Reel;" } : Jvm.MethodName)) ∈ LG := mg2 73 rfl rfl
theorem mE_X6_reelAt : (Jvm.Cond.selects "PigLine$Run" ({ cls := "PigLine$Run", name := "reelAt", desc := "(I)LPigLine$Reel;" } : Jvm.MethodName) ({ cls := "PigLine$Run", name := "reelAt", desc := "(I)LPigLine$Reel;" } : Jvm.MethodName)) ∈ LG := mg2 74 rfl rfl
theorem mC_X6_reelAt : (Jvm.Cond.code ({ cls := "PigLine$Run", name := "reelAt", desc := "(I)LPigLine$Reel;" } : Jvm.MethodName) prog_8_method_2_code (2 : Nat) (Option.some (Jvm.ClassFile.FieldType.object "PigLine$Reel"))) ∈ LG := mg2 75 rfl rfl
theorem lkM_X9_68 : (Jvm.Cond.methodLink "PigLine" (68 : Nat) ({ cls := "PigLine", name := "isForm", desc := "(I)Z" } : Jvm.MethodName)) ∈ LG := mg2 76 rfl rfl
theorem mS_X9_isForm : (Jvm.Cond.static ({ cls := "PigLine", name := "isForm", desc := "(I)Z" } : Jvm.MethodName)) ∈ LG := mg2 77 rfl rfl
theorem mC_X9_isForm : (Jvm.Cond.code ({ cls := "PigLine", name := "isForm", desc := "(I)Z" } : Jvm.MethodName) prog_1_method_35_code (1 : Nat) (Option.some Jvm.ClassFile.FieldType.boolean)) ∈ LG := mg2 78 rfl rfl
theorem lkM_X9_121 : (Jvm.Cond.methodLink "PigLine" (121 : Nat) ({ cls := "PigLine", name := "isWithin", desc := "(III)Z" } : Jvm.MethodName)) ∈ LG := mg2 79 rfl rfl
theorem mS_X9_isWithin : (Jvm.Cond.static ({ cls := "PigLine", name := "isWithin", desc := "(III)Z" } : Jvm.MethodName)) ∈ LG := mg2 80 rfl rfl
theorem mC_X9_isWithin : (Jvm.Cond.code ({ cls := "PigLine", name := "isWithin", desc := "(III)Z" } : Jvm.MethodName) prog_1_method_34_code (3 : Nat) (Option.some Jvm.ClassFile.FieldType.boolean)) ∈ LG := mg2 81 rfl rfl
theorem lkM_X9_72 : (Jvm.Cond.methodLink "PigLine" (72 : Nat) ({ cls := "PigLine", name := "found", desc := "(I)I" } : Jvm.MethodName)) ∈ LG := mg2 82 rfl rfl
theorem mI_X9_found : (Jvm.Cond.instanceMethod ({ cls := "PigLine", name := "found", desc := "(I)I" } : Jvm.MethodName)) ∈ LG := mg2 84 rfl rfl
theorem mC_X9_found : (Jvm.Cond.code ({ cls := "PigLine", name := "found", desc := "(I)I" } : Jvm.MethodName) prog_1_method_37_code (2 : Nat) (Option.some Jvm.ClassFile.FieldType.int)) ∈ LG := mg2 85 rfl rfl
theorem lkM_X9_76 : (Jvm.Cond.methodLink "PigLine" (76 : Nat) ({ cls := "PigLine$Reel", name := "begin", desc := "(II)V" } : Jvm.MethodName)) ∈ LG := mg2 86 rfl rfl
theorem mI_X5_begin : (Jvm.Cond.instanceMethod ({ cls := "PigLine$Reel", name := "begin", desc := "(II)V" } : Jvm.MethodName)) ∈ LG := mg2 87 rfl rfl
theorem mE_X5_begin : (Jvm.Cond.selects "PigLine$Reel" ({ cls := "PigLine$Reel", name := "begin", desc := "(II)V" } : Jvm.MethodName) ({ cls := "PigLine$Reel", name := "begin", desc := "(II)V" } : Jvm.MethodName)) ∈ LG := mg2 88 rfl rfl
theorem mC_X5_begin : (Jvm.Cond.code ({ cls := "PigLine$Reel", name := "begin", desc := "(II)V" } : Jvm.MethodName) prog_7_method_3_code (4 : Nat) (Option.none : Option Jvm.ClassFile.FieldType)) ∈ LG := mg2 89 rfl rfl
theorem lkM_X5_22 : (Jvm.Cond.methodLink "PigLine$Reel" (22 : Nat) ({ cls := "java/lang/Math", name := "min", desc := "(II)I" } : Jvm.MethodName)) ∈ LG := mg2 90 rfl rfl
theorem mS_J9_min_7cf53 : (Jvm.Cond.static ({ cls := "java/lang/Math", name := "min", desc := "(II)I" } : Jvm.MethodName)) ∈ LG := mg2 91 rfl rfl
theorem mC_J9_min_7cf53 : (Jvm.Cond.code ({ cls := "java/lang/Math", name := "min", desc := "(II)I" } : Jvm.MethodName) prog_14_method_69_code (2 : Nat) (Option.some Jvm.ClassFile.FieldType.int)) ∈ LG := mg2 92 rfl rfl
theorem lkM_L_18 : (Jvm.Cond.methodLink "PigLineLaw" (18 : Nat) ({ cls := "PigLine", name := "lose", desc := "(I)I" } : Jvm.MethodName)) ∈ LG := mg2 93 rfl rfl
theorem mI_X9_lose : (Jvm.Cond.instanceMethod ({ cls := "PigLine", name := "lose", desc := "(I)I" } : Jvm.MethodName)) ∈ LG := mg2 94 rfl rfl
theorem mE_X9_lose : (Jvm.Cond.selects "PigLine" ({ cls := "PigLine", name := "lose", desc := "(I)I" } : Jvm.MethodName) ({ cls := "PigLine", name := "lose", desc := "(I)I" } : Jvm.MethodName)) ∈ LG := mg2 95 rfl rfl
theorem mC_X9_lose : (Jvm.Cond.code ({ cls := "PigLine", name := "lose", desc := "(I)I" } : Jvm.MethodName) prog_1_method_3_code (4 : Nat) (Option.some Jvm.ClassFile.FieldType.int)) ∈ LG := mg2 96 rfl rfl
theorem lkM_X9_82 : (Jvm.Cond.methodLink "PigLine" (82 : Nat) ({ cls := "PigLine$Reel", name := "isLost", desc := "()Z" } : Jvm.MethodName)) ∈ LG := mg2 97 rfl rfl
theorem mI_X5_isLost : (Jvm.Cond.instanceMethod ({ cls := "PigLine$Reel", name := "isLost", desc := "()Z" } : Jvm.MethodName)) ∈ LG := mg2 98 rfl rfl
theorem mE_X5_isLost : (Jvm.Cond.selects "PigLine$Reel" ({ cls := "PigLine$Reel", name := "isLost", desc := "()Z" } : Jvm.MethodName) ({ cls := "PigLine$Reel", name := "isLost", desc := "()Z" } : Jvm.MethodName)) ∈ LG := mg2 99 rfl rfl
theorem mC_X5_isLost : (Jvm.Cond.code ({ cls := "PigLine$Reel", name := "isLost", desc := "()Z" } : Jvm.MethodName) prog_7_method_2_code (1 : Nat) (Option.some Jvm.ClassFile.FieldType.boolean)) ∈ LG := mg2 100 rfl rfl
theorem lkM_X9_89 : (Jvm.Cond.methodLink "PigLine" (89 : Nat) ({ cls := "PigLine$Reel", name := "drop", desc := "()V" } : Jvm.MethodName)) ∈ LG := mg2 101 rfl rfl
theorem mI_X5_drop : (Jvm.Cond.instanceMethod ({ cls := "PigLine$Reel", name := "drop", desc := "()V" } : Jvm.MethodName)) ∈ LG := mg2 102 rfl rfl
theorem mE_X5_drop : (Jvm.Cond.selects "PigLine$Reel" ({ cls := "PigLine$Reel", name := "drop", desc := "()V" } : Jvm.MethodName) ({ cls := "PigLine$Reel", name := "drop", desc := "()V" } : Jvm.MethodName)) ∈ LG := mg2 103 rfl rfl
theorem mC_X5_drop : (Jvm.Cond.code ({ cls := "PigLine$Reel", name := "drop", desc := "()V" } : Jvm.MethodName) prog_7_method_4_code (1 : Nat) (Option.none : Option Jvm.ClassFile.FieldType)) ∈ LG := mg2 104 rfl rfl
theorem lkM_L_23 : (Jvm.Cond.methodLink "PigLineLaw" (23 : Nat) ({ cls := "PigLine", name := "put", desc := "(IIII)I" } : Jvm.MethodName)) ∈ LG := mg2 105 rfl rfl
theorem mI_X9_put : (Jvm.Cond.instanceMethod ({ cls := "PigLine", name := "put", desc := "(IIII)I" } : Jvm.MethodName)) ∈ LG := mg2 106 rfl rfl
theorem mE_X9_put : (Jvm.Cond.selects "PigLine" ({ cls := "PigLine", name := "put", desc := "(IIII)I" } : Jvm.MethodName) ({ cls := "PigLine", name := "put", desc := "(IIII)I" } : Jvm.MethodName)) ∈ LG := mg2 107 rfl rfl
theorem mC_X9_put : (Jvm.Cond.code ({ cls := "PigLine", name := "put", desc := "(IIII)I" } : Jvm.MethodName) prog_1_method_4_code (7 : Nat) (Option.some Jvm.ClassFile.FieldType.int)) ∈ LG := mg2 108 rfl rfl
theorem lkM_X9_92 : (Jvm.Cond.methodLink "PigLine" (92 : Nat) ({ cls := "PigLine$Reel", name := "faultOf", desc := "(II)I" } : Jvm.MethodName)) ∈ LG := mg2 109 rfl rfl
theorem mI_X5_faultOf : (Jvm.Cond.instanceMethod ({ cls := "PigLine$Reel", name := "faultOf", desc := "(II)I" } : Jvm.MethodName)) ∈ LG := mg2 110 rfl rfl
theorem mE_X5_faultOf : (Jvm.Cond.selects "PigLine$Reel" ({ cls := "PigLine$Reel", name := "faultOf", desc := "(II)I" } : Jvm.MethodName) ({ cls := "PigLine$Reel", name := "faultOf", desc := "(II)I" } : Jvm.MethodName)) ∈ LG := mg2 111 rfl rfl
theorem mC_X5_faultOf : (Jvm.Cond.code ({ cls := "PigLine$Reel", name := "faultOf", desc := "(II)I" } : Jvm.MethodName) prog_7_method_7_code (3 : Nat) (Option.some Jvm.ClassFile.FieldType.int)) ∈ LG := mg2 112 rfl rfl
theorem lkM_X5_28 : (Jvm.Cond.methodLink "PigLine$Reel" (28 : Nat) ({ cls := "PigLine$Reel", name := "isLost", desc := "()Z" } : Jvm.MethodName)) ∈ LG := mg2 113 rfl rfl
theorem lkM_X5_32 : (Jvm.Cond.methodLink "PigLine$Reel" (32 : Nat) ({ cls := "PigLine$Reel", name := "hasItem", desc := "(I)Z" } : Jvm.MethodName)) ∈ LG := mg2 114 rfl rfl
theorem mI_X5_hasItem : (Jvm.Cond.instanceMethod ({ cls := "PigLine$Reel", name := "hasItem", desc := "(I)Z" } : Jvm.MethodName)) ∈ LG := mg2 115 rfl rfl
theorem mE_X5_hasItem : (Jvm.Cond.selects "PigLine$Reel" ({ cls := "PigLine$Reel", name := "hasItem", desc := "(I)Z" } : Jvm.MethodName) ({ cls := "PigLine$Reel", name := "hasItem", desc := "(I)Z" } : Jvm.MethodName)) ∈ LG := mg2 116 rfl rfl
theorem mC_X5_hasItem : (Jvm.Cond.code ({ cls := "PigLine$Reel", name := "hasItem", desc := "(I)Z" } : Jvm.MethodName) prog_7_method_5_code (2 : Nat) (Option.some Jvm.ClassFile.FieldType.boolean)) ∈ LG := mg2 117 rfl rfl
theorem lkM_X9_96 : (Jvm.Cond.methodLink "PigLine" (96 : Nat) ({ cls := "PigLine$Reel", name := "store", desc := "(II)V" } : Jvm.MethodName)) ∈ LG := mg2 118 rfl rfl
theorem mI_X5_store : (Jvm.Cond.instanceMethod ({ cls := "PigLine$Reel", name := "store", desc := "(II)V" } : Jvm.MethodName)) ∈ LG := mg2 119 rfl rfl
theorem mE_X5_store : (Jvm.Cond.selects "PigLine$Reel" ({ cls := "PigLine$Reel", name := "store", desc := "(II)V" } : Jvm.MethodName) ({ cls := "PigLine$Reel", name := "store", desc := "(II)V" } : Jvm.MethodName)) ∈ LG := mg2 120 rfl rfl
theorem mC_X5_store : (Jvm.Cond.code ({ cls := "PigLine$Reel", name := "store", desc := "(II)V" } : Jvm.MethodName) prog_7_method_8_code (3 : Nat) (Option.none : Option Jvm.ClassFile.FieldType)) ∈ LG := mg2 121 rfl rfl
theorem lkM_L_28 : (Jvm.Cond.methodLink "PigLineLaw" (28 : Nat) ({ cls := "PigLine", name := "get", desc := "(III)I" } : Jvm.MethodName)) ∈ LG := mg2 122 rfl rfl
theorem mI_X9_get : (Jvm.Cond.instanceMethod ({ cls := "PigLine", name := "get", desc := "(III)I" } : Jvm.MethodName)) ∈ LG := mg2 123 rfl rfl
theorem mE_X9_get : (Jvm.Cond.selects "PigLine" ({ cls := "PigLine", name := "get", desc := "(III)I" } : Jvm.MethodName) ({ cls := "PigLine", name := "get", desc := "(III)I" } : Jvm.MethodName)) ∈ LG := mg2 124 rfl rfl
theorem mC_X9_get : (Jvm.Cond.code ({ cls := "PigLine", name := "get", desc := "(III)I" } : Jvm.MethodName) prog_1_method_5_code (6 : Nat) (Option.some Jvm.ClassFile.FieldType.int)) ∈ LG := mg2 125 rfl rfl
theorem lkC_X9_99 : (Jvm.Cond.constant "PigLine" (99 : Nat) (-2147483648 : Int32)) ∈ LG := mg2 126 rfl rfl
theorem lkM_L_32 : (Jvm.Cond.methodLink "PigLineLaw" (32 : Nat) ({ cls := "PigLine", name := "copy", desc := "(IIIII)I" } : Jvm.MethodName)) ∈ LG := mg2 127 rfl rfl
theorem mI_X9_copy : (Jvm.Cond.instanceMethod ({ cls := "PigLine", name := "copy", desc := "(IIIII)I" } : Jvm.MethodName)) ∈ LG := mg2 128 rfl rfl
theorem mE_X9_copy : (Jvm.Cond.selects "PigLine" ({ cls := "PigLine", name := "copy", desc := "(IIIII)I" } : Jvm.MethodName) ({ cls := "PigLine", name := "copy", desc := "(IIIII)I" } : Jvm.MethodName)) ∈ LG := mg2 129 rfl rfl
theorem mC_X9_copy : (Jvm.Cond.code ({ cls := "PigLine", name := "copy", desc := "(IIIII)I" } : Jvm.MethodName) prog_1_method_6_code (8 : Nat) (Option.some Jvm.ClassFile.FieldType.int)) ∈ LG := mg2 130 rfl rfl
theorem lkM_X9_107 : (Jvm.Cond.methodLink "PigLine" (107 : Nat) ({ cls := "PigLine$Reel", name := "hasItems", desc := "(II)Z" } : Jvm.MethodName)) ∈ LG := mg2 131 rfl rfl
theorem mI_X5_hasItems : (Jvm.Cond.instanceMethod ({ cls := "PigLine$Reel", name := "hasItems", desc := "(II)Z" } : Jvm.MethodName)) ∈ LG := mg2 132 rfl rfl
theorem mE_X5_hasItems : (Jvm.Cond.selects "PigLine$Reel" ({ cls := "PigLine$Reel", name := "hasItems", desc := "(II)Z" } : Jvm.MethodName) ({ cls := "PigLine$Reel", name := "hasItems", desc := "(II)Z" } : Jvm.MethodName)) ∈ LG := mg2 133 rfl rfl
theorem mC_X5_hasItems : (Jvm.Cond.code ({ cls := "PigLine$Reel", name := "hasItems", desc := "(II)Z" } : Jvm.MethodName) prog_7_method_6_code (3 : Nat) (Option.some Jvm.ClassFile.FieldType.boolean)) ∈ LG := mg2 134 rfl rfl
theorem lkM_X9_111 : (Jvm.Cond.methodLink "PigLine" (111 : Nat) ({ cls := "java/lang/System", name := "arraycopy", desc := "(Ljava/lang/Object;ILjava/lang/Object;II)V" } : Jvm.MethodName)) ∈ LG := mg2 135 rfl rfl
theorem mS_N_arraycopy : (Jvm.Cond.static ({ cls := "java/lang/System", name := "arraycopy", desc := "(Ljava/lang/Object;ILjava/lang/Object;II)V" } : Jvm.MethodName)) ∈ LG := mg2 136 rfl rfl
theorem mN_N_arraycopy : (Jvm.Cond.native ({ cls := "java/lang/System", name := "arraycopy", desc := "(Ljava/lang/Object;ILjava/lang/Object;II)V" } : Jvm.MethodName)) ∈ LG := mg2 137 rfl rfl
theorem lkM_L_37 : (Jvm.Cond.methodLink "PigLineLaw" (37 : Nat) ({ cls := "PigLine", name := "run", desc := "(II)I" } : Jvm.MethodName)) ∈ LG := mg2 138 rfl rfl
theorem mI_X9_run : (Jvm.Cond.instanceMethod ({ cls := "PigLine", name := "run", desc := "(II)I" } : Jvm.MethodName)) ∈ LG := mg2 139 rfl rfl
theorem mE_X9_run : (Jvm.Cond.selects "PigLine" ({ cls := "PigLine", name := "run", desc := "(II)I" } : Jvm.MethodName) ({ cls := "PigLine", name := "run", desc := "(II)I" } : Jvm.MethodName)) ∈ LG := mg2 140 rfl rfl
theorem mC_X9_run : (Jvm.Cond.code ({ cls := "PigLine", name := "run", desc := "(II)I" } : Jvm.MethodName) prog_1_method_7_code (4 : Nat) (Option.some Jvm.ClassFile.FieldType.int)) ∈ LG := mg2 141 rfl rfl
theorem lkM_X9_125 : (Jvm.Cond.methodLink "PigLine" (125 : Nat) ({ cls := "PigLine$Run", name := "feel", desc := "()V" } : Jvm.MethodName)) ∈ LG := mg2 142 rfl rfl
theorem mI_X6_feel : (Jvm.Cond.instanceMethod ({ cls := "PigLine$Run", name := "feel", desc := "()V" } : Jvm.MethodName)) ∈ LG := mg2 143 rfl rfl
theorem mE_X6_feel : (Jvm.Cond.selects "PigLine$Run" ({ cls := "PigLine$Run", name := "feel", desc := "()V" } : Jvm.MethodName) ({ cls := "PigLine$Run", name := "feel", desc := "()V" } : Jvm.MethodName)) ∈ LG := mg2 144 rfl rfl
theorem mC_X6_feel : (Jvm.Cond.code ({ cls := "PigLine$Run", name := "feel", desc := "()V" } : Jvm.MethodName) prog_8_method_3_code (6 : Nat) (Option.none : Option Jvm.ClassFile.FieldType)) ∈ LG := mg2 145 rfl rfl
theorem lkM_X6_51 : (Jvm.Cond.methodLink "PigLine$Run" (51 : Nat) ({ cls := "java/lang/Math", name := "max", desc := "(II)I" } : Jvm.MethodName)) ∈ LG := mg2 146 rfl rfl
theorem mS_J9_max_7cf53 : (Jvm.Cond.static ({ cls := "java/lang/Math", name := "max", desc := "(II)I" } : Jvm.MethodName)) ∈ LG := mg2 147 rfl rfl
theorem mC_J9_max_7cf53 : (Jvm.Cond.code ({ cls := "java/lang/Math", name := "max", desc := "(II)I" } : Jvm.MethodName) prog_14_method_65_code (2 : Nat) (Option.some Jvm.ClassFile.FieldType.int)) ∈ LG := mg2 148 rfl rfl
theorem lkM_X6_66 : (Jvm.Cond.methodLink "PigLine$Run" (66 : Nat) ({ cls := "PigLine$Run", name := "readingsTogether", desc := "(I)I" } : Jvm.MethodName)) ∈ LG := mg2 149 rfl rfl
theorem mI_X6_readingsTogether : (Jvm.Cond.instanceMethod ({ cls := "PigLine$Run", name := "readingsTogether", desc := "(I)I" } : Jvm.MethodName)) ∈ LG := mg2 151 rfl rfl
theorem mC_X6_readingsTogether : (Jvm.Cond.code ({ cls := "PigLine$Run", name := "readingsTogether", desc := "(I)I" } : Jvm.MethodName) prog_8_method_4_code (7 : Nat) (Option.some Jvm.ClassFile.FieldType.int)) ∈ LG := mg2 152 rfl rfl
theorem lkM_X6_74 : (Jvm.Cond.methodLink "PigLine$Run" (74 : Nat) ({ cls := "PigLine$Reel", name := "readingAt", desc := "(I)I" } : Jvm.MethodName)) ∈ LG := mg2 153 rfl rfl
theorem mI_X5_readingAt : (Jvm.Cond.instanceMethod ({ cls := "PigLine$Reel", name := "readingAt", desc := "(I)I" } : Jvm.MethodName)) ∈ LG := mg2 154 rfl rfl
theorem mE_X5_readingAt : (Jvm.Cond.selects "PigLine$Reel" ({ cls := "PigLine$Reel", name := "readingAt", desc := "(I)I" } : Jvm.MethodName) ({ cls := "PigLine$Reel", name := "readingAt", desc := "(I)I" } : Jvm.MethodName)) ∈ LG := mg2 155 rfl rfl
theorem mC_X5_readingAt : (Jvm.Cond.code ({ cls := "PigLine$Reel", name := "readingAt", desc := "(I)I" } : Jvm.MethodName) prog_7_method_9_code (2 : Nat) (Option.some Jvm.ClassFile.FieldType.int)) ∈ LG := mg2 156 rfl rfl
theorem lkM_X6_77 : (Jvm.Cond.methodLink "PigLine$Run" (77 : Nat) ({ cls := "java/lang/Math", name := "min", desc := "(II)I" } : Jvm.MethodName)) ∈ LG := mg2 158 rfl rfl
theorem lkM_X6_70 : (Jvm.Cond.methodLink "PigLine$Run" (70 : Nat) ({ cls := "PigLine$Reel", name := "hasWeldAt", desc := "(I)Z" } : Jvm.MethodName)) ∈ LG := mg2 159 rfl rfl
theorem mI_X5_hasWeldAt : (Jvm.Cond.instanceMethod ({ cls := "PigLine$Reel", name := "hasWeldAt", desc := "(I)Z" } : Jvm.MethodName)) ∈ LG := mg2 160 rfl rfl
theorem mE_X5_hasWeldAt : (Jvm.Cond.selects "PigLine$Reel" ({ cls := "PigLine$Reel", name := "hasWeldAt", desc := "(I)Z" } : Jvm.MethodName) ({ cls := "PigLine$Reel", name := "hasWeldAt", desc := "(I)Z" } : Jvm.MethodName)) ∈ LG := mg2 161 rfl rfl
theorem mC_X5_hasWeldAt : (Jvm.Cond.code ({ cls := "PigLine$Reel", name := "hasWeldAt", desc := "(I)Z" } : Jvm.MethodName) prog_7_method_10_code (2 : Nat) (Option.some Jvm.ClassFile.FieldType.boolean)) ∈ LG := mg2 162 rfl rfl
theorem lkM_X9_128 : (Jvm.Cond.methodLink "PigLine" (128 : Nat) ({ cls := "PigLine$Run", name := "fact", desc := "(I)I" } : Jvm.MethodName)) ∈ LG := mg2 163 rfl rfl
theorem mI_X6_fact : (Jvm.Cond.instanceMethod ({ cls := "PigLine$Run", name := "fact", desc := "(I)I" } : Jvm.MethodName)) ∈ LG := mg2 164 rfl rfl
theorem mE_X6_fact : (Jvm.Cond.selects "PigLine$Run" ({ cls := "PigLine$Run", name := "fact", desc := "(I)I" } : Jvm.MethodName) ({ cls := "PigLine$Run", name := "fact", desc := "(I)I" } : Jvm.MethodName)) ∈ LG := mg2 165 rfl rfl
theorem mC_X6_fact : (Jvm.Cond.code ({ cls := "PigLine$Run", name := "fact", desc := "(I)I" } : Jvm.MethodName) prog_8_method_5_code (2 : Nat) (Option.some Jvm.ClassFile.FieldType.int)) ∈ LG := mg2 166 rfl rfl
theorem lkM_L_42 : (Jvm.Cond.methodLink "PigLineLaw" (42 : Nat) ({ cls := "PigLine", name := "way", desc := "(II)I" } : Jvm.MethodName)) ∈ LG := mg2 167 rfl rfl
theorem mI_X9_way : (Jvm.Cond.instanceMethod ({ cls := "PigLine", name := "way", desc := "(II)I" } : Jvm.MethodName)) ∈ LG := mg2 168 rfl rfl
theorem mE_X9_way : (Jvm.Cond.selects "PigLine" ({ cls := "PigLine", name := "way", desc := "(II)I" } : Jvm.MethodName) ({ cls := "PigLine", name := "way", desc := "(II)I" } : Jvm.MethodName)) ∈ LG := mg2 169 rfl rfl
theorem mC_X9_way : (Jvm.Cond.code ({ cls := "PigLine", name := "way", desc := "(II)I" } : Jvm.MethodName) prog_1_method_8_code (4 : Nat) (Option.some Jvm.ClassFile.FieldType.int)) ∈ LG := mg2 170 rfl rfl
theorem lkM_L_46 : (Jvm.Cond.methodLink "PigLineLaw" (46 : Nat) ({ cls := "PigLine", name := "felt", desc := "(III)I" } : Jvm.MethodName)) ∈ LG := mg2 171 rfl rfl
theorem mI_X9_felt : (Jvm.Cond.instanceMethod ({ cls := "PigLine", name := "felt", desc := "(III)I" } : Jvm.MethodName)) ∈ LG := mg2 172 rfl rfl
theorem mE_X9_felt : (Jvm.Cond.selects "PigLine" ({ cls := "PigLine", name := "felt", desc := "(III)I" } : Jvm.MethodName) ({ cls := "PigLine", name := "felt", desc := "(III)I" } : Jvm.MethodName)) ∈ LG := mg2 173 rfl rfl
theorem mC_X9_felt : (Jvm.Cond.code ({ cls := "PigLine", name := "felt", desc := "(III)I" } : Jvm.MethodName) prog_1_method_9_code (5 : Nat) (Option.some Jvm.ClassFile.FieldType.int)) ∈ LG := mg2 174 rfl rfl
theorem lkM_L_50 : (Jvm.Cond.methodLink "PigLineLaw" (50 : Nat) ({ cls := "PigLine", name := "joint", desc := "(I)I" } : Jvm.MethodName)) ∈ LG := mg2 175 rfl rfl
theorem mI_X9_joint : (Jvm.Cond.instanceMethod ({ cls := "PigLine", name := "joint", desc := "(I)I" } : Jvm.MethodName)) ∈ LG := mg2 176 rfl rfl
theorem mE_X9_joint : (Jvm.Cond.selects "PigLine" ({ cls := "PigLine", name := "joint", desc := "(I)I" } : Jvm.MethodName) ({ cls := "PigLine", name := "joint", desc := "(I)I" } : Jvm.MethodName)) ∈ LG := mg2 177 rfl rfl
theorem mC_X9_joint : (Jvm.Cond.code ({ cls := "PigLine", name := "joint", desc := "(I)I" } : Jvm.MethodName) prog_1_method_10_code (2 : Nat) (Option.some Jvm.ClassFile.FieldType.int)) ∈ LG := mg2 178 rfl rfl
theorem lkC_X9_146 : (Jvm.Cond.constant "PigLine" (146 : Nat) (100000 : Int32)) ∈ LG := mg2 179 rfl rfl
theorem lkM_X9_147 : (Jvm.Cond.methodLink "PigLine" (147 : Nat) ({ cls := "PigLine$Book", name := "add", desc := "(I)I" } : Jvm.MethodName)) ∈ LG := mg2 180 rfl rfl
theorem mI_X0_add : (Jvm.Cond.instanceMethod ({ cls := "PigLine$Book", name := "add", desc := "(I)I" } : Jvm.MethodName)) ∈ LG := mg2 181 rfl rfl
theorem mE_X0_add : (Jvm.Cond.selects "PigLine$Book" ({ cls := "PigLine$Book", name := "add", desc := "(I)I" } : Jvm.MethodName) ({ cls := "PigLine$Book", name := "add", desc := "(I)I" } : Jvm.MethodName)) ∈ LG := mg2 182 rfl rfl
theorem mC_X0_add : (Jvm.Cond.code ({ cls := "PigLine$Book", name := "add", desc := "(I)I" } : Jvm.MethodName) prog_2_method_3_code (2 : Nat) (Option.some Jvm.ClassFile.FieldType.int)) ∈ LG := mg2 183 rfl rfl
theorem lkM_L_54 : (Jvm.Cond.methodLink "PigLineLaw" (54 : Nat) ({ cls := "PigLine", name := "wipe", desc := "()I" } : Jvm.MethodName)) ∈ LG := mg2 184 rfl rfl
theorem mI_X9_wipe : (Jvm.Cond.instanceMethod ({ cls := "PigLine", name := "wipe", desc := "()I" } : Jvm.MethodName)) ∈ LG := mg2 185 rfl rfl
theorem mE_X9_wipe : (Jvm.Cond.selects "PigLine" ({ cls := "PigLine", name := "wipe", desc := "()I" } : Jvm.MethodName) ({ cls := "PigLine", name := "wipe", desc := "()I" } : Jvm.MethodName)) ∈ LG := mg2 186 rfl rfl
theorem mC_X9_wipe : (Jvm.Cond.code ({ cls := "PigLine", name := "wipe", desc := "()I" } : Jvm.MethodName) prog_1_method_11_code (2 : Nat) (Option.some Jvm.ClassFile.FieldType.int)) ∈ LG := mg2 187 rfl rfl
theorem lkM_L_59 : (Jvm.Cond.methodLink "PigLineLaw" (59 : Nat) ({ cls := "PigLine", name := "costs", desc := "(II)I" } : Jvm.MethodName)) ∈ LG := mg2 188 rfl rfl
theorem mI_X9_costs : (Jvm.Cond.instanceMethod ({ cls := "PigLine", name := "costs", desc := "(II)I" } : Jvm.MethodName)) ∈ LG := mg2 189 rfl rfl
theorem mE_X9_costs : (Jvm.Cond.selects "PigLine" ({ cls := "PigLine", name := "costs", desc := "(II)I" } : Jvm.MethodName) ({ cls := "PigLine", name := "costs", desc := "(II)I" } : Jvm.MethodName)) ∈ LG := mg2 190 rfl rfl
theorem mC_X9_costs : (Jvm.Cond.code ({ cls := "PigLine", name := "costs", desc := "(II)I" } : Jvm.MethodName) prog_1_method_12_code (3 : Nat) (Option.some Jvm.ClassFile.FieldType.int)) ∈ LG := mg2 191 rfl rfl
theorem lkC_X9_151 : (Jvm.Cond.constant "PigLine" (151 : Nat) (1000000 : Int32)) ∈ LG := mg2 192 rfl rfl
theorem lkM_L_63 : (Jvm.Cond.methodLink "PigLineLaw" (63 : Nat) ({ cls := "PigLine", name := "match", desc := "(I)I" } : Jvm.MethodName)) ∈ LG := mg2 193 rfl rfl
theorem mI_X9_match : (Jvm.Cond.instanceMethod ({ cls := "PigLine", name := "match", desc := "(I)I" } : Jvm.MethodName)) ∈ LG := mg2 194 rfl rfl
theorem mE_X9_match : (Jvm.Cond.selects "PigLine" ({ cls := "PigLine", name := "match", desc := "(I)I" } : Jvm.MethodName) ({ cls := "PigLine", name := "match", desc := "(I)I" } : Jvm.MethodName)) ∈ LG := mg2 195 rfl rfl
theorem mC_X9_match : (Jvm.Cond.code ({ cls := "PigLine", name := "match", desc := "(I)I" } : Jvm.MethodName) prog_1_method_13_code (3 : Nat) (Option.some Jvm.ClassFile.FieldType.int)) ∈ LG := mg2 196 rfl rfl
theorem lkM_X9_158 : (Jvm.Cond.methodLink "PigLine" (158 : Nat) ({ cls := "PigLine$Book", name := "leastCost", desc := "(LPigLine$Run;)I" } : Jvm.MethodName)) ∈ LG := mg2 197 rfl rfl
theorem mI_X0_leastCost : (Jvm.Cond.instanceMethod ({ cls := "PigLine$Book", name := "leastCost", desc := "(LPigLine$Run;)I" } : Jvm.MethodName)) ∈ LG := mg2 198 rfl rfl
theorem mE_X0_leastCost : (Jvm.Cond.selects "PigLine$Book" ({ cls := "PigLine$Book", name := "leastCost", desc := "(LPigLine$Run;)I" } : Jvm.MethodName) ({ cls := "PigLine$Book", name := "leastCost", desc := "(LPigLine$Run;)I" } : Jvm.MethodName)) ∈ LG := mg2 199 rfl rfl
theorem mC_X0_leastCost : (Jvm.Cond.code ({ cls := "PigLine$Book", name := "leastCost", desc := "(LPigLine$Run;)I" } : Jvm.MethodName) prog_2_method_4_code (6 : Nat) (Option.some Jvm.ClassFile.FieldType.int)) ∈ LG := mg2 200 rfl rfl
theorem lkM_X0_33 : (Jvm.Cond.methodLink "PigLine$Book" (33 : Nat) ({ cls := "java/lang/Math", name := "min", desc := "(II)I" } : Jvm.MethodName)) ∈ LG := mg2 201 rfl rfl
theorem lkM_X0_39 : (Jvm.Cond.methodLink "PigLine$Book" (39 : Nat) ({ cls := "PigLine$Book", name := "withPair", desc := "(LPigLine$Run;II)I" } : Jvm.MethodName)) ∈ LG := mg2 202 rfl rfl
theorem mI_X0_withPair : (Jvm.Cond.instanceMethod ({ cls := "PigLine$Book", name := "withPair", desc := "(LPigLine$Run;II)I" } : Jvm.MethodName)) ∈ LG := mg2 204 rfl rfl
theorem mC_X0_withPair : (Jvm.Cond.code ({ cls := "PigLine$Book", name := "withPair", desc := "(LPigLine$Run;II)I" } : Jvm.MethodName) prog_2_method_5_code (4 : Nat) (Option.some Jvm.ClassFile.FieldType.int)) ∈ LG := mg2 205 rfl rfl
theorem lkM_X0_44 : (Jvm.Cond.methodLink "PigLine$Book" (44 : Nat) ({ cls := "java/lang/Math", name := "abs", desc := "(I)I" } : Jvm.MethodName)) ∈ LG := mg2 206 rfl rfl
theorem mS_J9_abs_0f7a4 : (Jvm.Cond.static ({ cls := "java/lang/Math", name := "abs", desc := "(I)I" } : Jvm.MethodName)) ∈ LG := mg2 207 rfl rfl
theorem mC_J9_abs_0f7a4 : (Jvm.Cond.code ({ cls := "java/lang/Math", name := "abs", desc := "(I)I" } : Jvm.MethodName) prog_14_method_59_code (1 : Nat) (Option.some Jvm.ClassFile.FieldType.int)) ∈ LG := mg2 208 rfl rfl
theorem lkM_L_67 : (Jvm.Cond.methodLink "PigLineLaw" (67 : Nat) ({ cls := "PigLine", name := "paired", desc := "(II)I" } : Jvm.MethodName)) ∈ LG := mg2 209 rfl rfl
theorem mI_X9_paired : (Jvm.Cond.instanceMethod ({ cls := "PigLine", name := "paired", desc := "(II)I" } : Jvm.MethodName)) ∈ LG := mg2 210 rfl rfl
theorem mE_X9_paired : (Jvm.Cond.selects "PigLine" ({ cls := "PigLine", name := "paired", desc := "(II)I" } : Jvm.MethodName) ({ cls := "PigLine", name := "paired", desc := "(II)I" } : Jvm.MethodName)) ∈ LG := mg2 211 rfl rfl
theorem mC_X9_paired : (Jvm.Cond.code ({ cls := "PigLine", name := "paired", desc := "(II)I" } : Jvm.MethodName) prog_1_method_14_code (4 : Nat) (Option.some Jvm.ClassFile.FieldType.int)) ∈ LG := mg2 212 rfl rfl
theorem lkM_X9_162 : (Jvm.Cond.methodLink "PigLine" (162 : Nat) ({ cls := "PigLine$Book", name := "hasJoint", desc := "(I)Z" } : Jvm.MethodName)) ∈ LG := mg2 213 rfl rfl
theorem mI_X0_hasJoint : (Jvm.Cond.instanceMethod ({ cls := "PigLine$Book", name := "hasJoint", desc := "(I)Z" } : Jvm.MethodName)) ∈ LG := mg2 214 rfl rfl
theorem mE_X0_hasJoint : (Jvm.Cond.selects "PigLine$Book" ({ cls := "PigLine$Book", name := "hasJoint", desc := "(I)Z" } : Jvm.MethodName) ({ cls := "PigLine$Book", name := "hasJoint", desc := "(I)Z" } : Jvm.MethodName)) ∈ LG := mg2 215 rfl rfl
theorem mC_X0_hasJoint : (Jvm.Cond.code ({ cls := "PigLine$Book", name := "hasJoint", desc := "(I)Z" } : Jvm.MethodName) prog_2_method_2_code (2 : Nat) (Option.some Jvm.ClassFile.FieldType.boolean)) ∈ LG := mg2 216 rfl rfl
theorem lkM_X9_165 : (Jvm.Cond.methodLink "PigLine" (165 : Nat) ({ cls := "PigLine$Book", name := "pairUp", desc := "(LPigLine$Run;)V" } : Jvm.MethodName)) ∈ LG := mg2 217 rfl rfl
theorem mI_X0_pairUp : (Jvm.Cond.instanceMethod ({ cls := "PigLine$Book", name := "pairUp", desc := "(LPigLine$Run;)V" } : Jvm.MethodName)) ∈ LG := mg2 218 rfl rfl
theorem mE_X0_pairUp : (Jvm.Cond.selects "PigLine$Book" ({ cls := "PigLine$Book", name := "pairUp", desc := "(LPigLine$Run;)V" } : Jvm.MethodName) ({ cls := "PigLine$Book", name := "pairUp", desc := "(LPigLine$Run;)V" } : Jvm.MethodName)) ∈ LG := mg2 219 rfl rfl
theorem mC_X0_pairUp : (Jvm.Cond.code ({ cls := "PigLine$Book", name := "pairUp", desc := "(LPigLine$Run;)V" } : Jvm.MethodName) prog_2_method_6_code (4 : Nat) (Option.none : Option Jvm.ClassFile.FieldType)) ∈ LG := mg2 220 rfl rfl
theorem lkM_X0_48 : (Jvm.Cond.methodLink "PigLine$Book" (48 : Nat) ({ cls := "PigLine$Book", name := "leastCost", desc := "(LPigLine$Run;)I" } : Jvm.MethodName)) ∈ LG := mg2 221 rfl rfl
theorem lkM_X0_52 : (Jvm.Cond.methodLink "PigLine$Book" (52 : Nat) ({ cls := "PigLine$Book", name := "lastFeltNotLeftOut", desc := "(LPigLine$Run;II)I" } : Jvm.MethodName)) ∈ LG := mg2 222 rfl rfl
theorem mI_X0_lastFeltNotLeftOut : (Jvm.Cond.instanceMethod ({ cls := "PigLine$Book", name := "lastFeltNotLeftOut", desc := "(LPigLine$Run;II)I" } : Jvm.MethodName)) ∈ LG := mg2 224 rfl rfl
theorem mC_X0_lastFeltNotLeftOut : (Jvm.Cond.code ({ cls := "PigLine$Book", name := "lastFeltNotLeftOut", desc := "(LPigLine$Run;II)I" } : Jvm.MethodName) prog_2_method_7_code (6 : Nat) (Option.some Jvm.ClassFile.FieldType.int)) ∈ LG := mg2 225 rfl rfl
theorem lkM_L_71 : (Jvm.Cond.methodLink "PigLineLaw" (71 : Nat) ({ cls := "PigLine", name := "mark", desc := "(IIIII)I" } : Jvm.MethodName)) ∈ LG := mg2 226 rfl rfl
theorem mI_X9_mark : (Jvm.Cond.instanceMethod ({ cls := "PigLine", name := "mark", desc := "(IIIII)I" } : Jvm.MethodName)) ∈ LG := mg2 227 rfl rfl
theorem mE_X9_mark : (Jvm.Cond.selects "PigLine" ({ cls := "PigLine", name := "mark", desc := "(IIIII)I" } : Jvm.MethodName) ({ cls := "PigLine", name := "mark", desc := "(IIIII)I" } : Jvm.MethodName)) ∈ LG := mg2 228 rfl rfl
theorem mC_X9_mark : (Jvm.Cond.code ({ cls := "PigLine", name := "mark", desc := "(IIIII)I" } : Jvm.MethodName) prog_1_method_15_code (7 : Nat) (Option.some Jvm.ClassFile.FieldType.int)) ∈ LG := mg2 229 rfl rfl
theorem lkC_X9_172 : (Jvm.Cond.constant "PigLine" (172 : Nat) (4000000 : Int32)) ∈ LG := mg2 230 rfl rfl
theorem lkM_X9_177 : (Jvm.Cond.methodLink "PigLine" (177 : Nat) ({ cls := "PigLine$Marks", name := "add", desc := "(IIII)I" } : Jvm.MethodName)) ∈ LG := mg2 231 rfl rfl
theorem mI_X3_add : (Jvm.Cond.instanceMethod ({ cls := "PigLine$Marks", name := "add", desc := "(IIII)I" } : Jvm.MethodName)) ∈ LG := mg2 232 rfl rfl
theorem mE_X3_add : (Jvm.Cond.selects "PigLine$Marks" ({ cls := "PigLine$Marks", name := "add", desc := "(IIII)I" } : Jvm.MethodName) ({ cls := "PigLine$Marks", name := "add", desc := "(IIII)I" } : Jvm.MethodName)) ∈ LG := mg2 233 rfl rfl
theorem mC_X3_add : (Jvm.Cond.code ({ cls := "PigLine$Marks", name := "add", desc := "(IIII)I" } : Jvm.MethodName) prog_5_method_3_code (5 : Nat) (Option.some Jvm.ClassFile.FieldType.int)) ∈ LG := mg2 234 rfl rfl
theorem lkM_L_75 : (Jvm.Cond.methodLink "PigLineLaw" (75 : Nat) ({ cls := "PigLine", name := "clear", desc := "(I)I" } : Jvm.MethodName)) ∈ LG := mg2 235 rfl rfl
theorem mI_X9_clear : (Jvm.Cond.instanceMethod ({ cls := "PigLine", name := "clear", desc := "(I)I" } : Jvm.MethodName)) ∈ LG := mg2 236 rfl rfl
theorem mE_X9_clear : (Jvm.Cond.selects "PigLine" ({ cls := "PigLine", name := "clear", desc := "(I)I" } : Jvm.MethodName) ({ cls := "PigLine", name := "clear", desc := "(I)I" } : Jvm.MethodName)) ∈ LG := mg2 237 rfl rfl
theorem mC_X9_clear : (Jvm.Cond.code ({ cls := "PigLine", name := "clear", desc := "(I)I" } : Jvm.MethodName) prog_1_method_16_code (4 : Nat) (Option.some Jvm.ClassFile.FieldType.int)) ∈ LG := mg2 238 rfl rfl
theorem lkM_L_79 : (Jvm.Cond.methodLink "PigLineLaw" (79 : Nat) ({ cls := "PigLine", name := "about", desc := "(III)I" } : Jvm.MethodName)) ∈ LG := mg2 239 rfl rfl
theorem mI_X9_about : (Jvm.Cond.instanceMethod ({ cls := "PigLine", name := "about", desc := "(III)I" } : Jvm.MethodName)) ∈ LG := mg3 0 rfl rfl
theorem mE_X9_about : (Jvm.Cond.selects "PigLine" ({ cls := "PigLine", name := "about", desc := "(III)I" } : Jvm.MethodName) ({ cls := "PigLine", name := "about", desc := "(III)I" } : Jvm.MethodName)) ∈ LG := mg3 1 rfl rfl
theorem mC_X9_about : (Jvm.Cond.code ({ cls := "PigLine", name := "about", desc := "(III)I" } : Jvm.MethodName) prog_1_method_17_code (5 : Nat) (Option.some Jvm.ClassFile.FieldType.int)) ∈ LG := mg3 2 rfl rfl
theorem lkM_X9_183 : (Jvm.Cond.methodLink "PigLine" (183 : Nat) ({ cls := "PigLine$Marks", name := "hasMark", desc := "(I)Z" } : Jvm.MethodName)) ∈ LG := mg3 3 rfl rfl
theorem mI_X3_hasMark : (Jvm.Cond.instanceMethod ({ cls := "PigLine$Marks", name := "hasMark", desc := "(I)Z" } : Jvm.MethodName)) ∈ LG := mg3 4 rfl rfl
theorem mE_X3_hasMark : (Jvm.Cond.selects "PigLine$Marks" ({ cls := "PigLine$Marks", name := "hasMark", desc := "(I)Z" } : Jvm.MethodName) ({ cls := "PigLine$Marks", name := "hasMark", desc := "(I)Z" } : Jvm.MethodName)) ∈ LG := mg3 5 rfl rfl
theorem mC_X3_hasMark : (Jvm.Cond.code ({ cls := "PigLine$Marks", name := "hasMark", desc := "(I)Z" } : Jvm.MethodName) prog_5_method_2_code (2 : Nat) (Option.some Jvm.ClassFile.FieldType.boolean)) ∈ LG := mg3 6 rfl rfl
theorem lkM_X9_186 : (Jvm.Cond.methodLink "PigLine" (186 : Nat) ({ cls := "PigLine$Marks", name := "putTogether", desc := "(II)V" } : Jvm.MethodName)) ∈ LG := mg3 7 rfl rfl
theorem mI_X3_putTogether : (Jvm.Cond.instanceMethod ({ cls := "PigLine$Marks", name := "putTogether", desc := "(II)V" } : Jvm.MethodName)) ∈ LG := mg3 8 rfl rfl
theorem mE_X3_putTogether : (Jvm.Cond.selects "PigLine$Marks" ({ cls := "PigLine$Marks", name := "putTogether", desc := "(II)V" } : Jvm.MethodName) ({ cls := "PigLine$Marks", name := "putTogether", desc := "(II)V" } : Jvm.MethodName)) ∈ LG := mg3 9 rfl rfl
theorem mC_X3_putTogether : (Jvm.Cond.code ({ cls := "PigLine$Marks", name := "putTogether", desc := "(II)V" } : Jvm.MethodName) prog_5_method_7_code (4 : Nat) (Option.none : Option Jvm.ClassFile.FieldType)) ∈ LG := mg3 10 rfl rfl
theorem lkM_X3_50 : (Jvm.Cond.methodLink "PigLine$Marks" (50 : Nat) ({ cls := "PigLine$Marks", name := "spread", desc := "(III)V" } : Jvm.MethodName)) ∈ LG := mg3 11 rfl rfl
theorem mI_X3_spread : (Jvm.Cond.instanceMethod ({ cls := "PigLine$Marks", name := "spread", desc := "(III)V" } : Jvm.MethodName)) ∈ LG := mg3 13 rfl rfl
theorem mC_X3_spread : (Jvm.Cond.code ({ cls := "PigLine$Marks", name := "spread", desc := "(III)V" } : Jvm.MethodName) prog_5_method_8_code (7 : Nat) (Option.none : Option Jvm.ClassFile.FieldType)) ∈ LG := mg3 14 rfl rfl
theorem lkM_X3_54 : (Jvm.Cond.methodLink "PigLine$Marks" (54 : Nat) ({ cls := "PigLine$Marks", name := "areNear", desc := "(IIII)Z" } : Jvm.MethodName)) ∈ LG := mg3 15 rfl rfl
theorem mI_X3_areNear : (Jvm.Cond.instanceMethod ({ cls := "PigLine$Marks", name := "areNear", desc := "(IIII)Z" } : Jvm.MethodName)) ∈ LG := mg3 17 rfl rfl
theorem mC_X3_areNear : (Jvm.Cond.code ({ cls := "PigLine$Marks", name := "areNear", desc := "(IIII)Z" } : Jvm.MethodName) prog_5_method_6_code (6 : Nat) (Option.some Jvm.ClassFile.FieldType.boolean)) ∈ LG := mg3 18 rfl rfl
theorem lkM_X3_34 : (Jvm.Cond.methodLink "PigLine$Marks" (34 : Nat) ({ cls := "PigLine$Marks", name := "endOf", desc := "(I)I" } : Jvm.MethodName)) ∈ LG := mg3 19 rfl rfl
theorem mI_X3_endOf : (Jvm.Cond.instanceMethod ({ cls := "PigLine$Marks", name := "endOf", desc := "(I)I" } : Jvm.MethodName)) ∈ LG := mg3 21 rfl rfl
theorem mC_X3_endOf : (Jvm.Cond.code ({ cls := "PigLine$Marks", name := "endOf", desc := "(I)I" } : Jvm.MethodName) prog_5_method_5_code (2 : Nat) (Option.some Jvm.ClassFile.FieldType.int)) ∈ LG := mg3 22 rfl rfl
theorem lkM_X3_38 : (Jvm.Cond.methodLink "PigLine$Marks" (38 : Nat) ({ cls := "java/lang/Math", name := "max", desc := "(II)I" } : Jvm.MethodName)) ∈ LG := mg3 23 rfl rfl
theorem mS_X9_hoursApart : (Jvm.Cond.static ({ cls := "PigLine", name := "hoursApart", desc := "(II)I" } : Jvm.MethodName)) ∈ LG := mg3 25 rfl rfl
theorem mC_X9_hoursApart : (Jvm.Cond.code ({ cls := "PigLine", name := "hoursApart", desc := "(II)I" } : Jvm.MethodName) prog_1_method_36_code (3 : Nat) (Option.some Jvm.ClassFile.FieldType.int)) ∈ LG := mg3 26 rfl rfl
theorem lkM_X9_275 : (Jvm.Cond.methodLink "PigLine" (275 : Nat) ({ cls := "java/lang/Math", name := "abs", desc := "(I)I" } : Jvm.MethodName)) ∈ LG := mg3 27 rfl rfl
theorem lkM_X9_280 : (Jvm.Cond.methodLink "PigLine" (280 : Nat) ({ cls := "java/lang/Math", name := "min", desc := "(II)I" } : Jvm.MethodName)) ∈ LG := mg3 28 rfl rfl
theorem lkM_X9_189 : (Jvm.Cond.methodLink "PigLine" (189 : Nat) ({ cls := "PigLine$Run", name := "markFact", desc := "(II)I" } : Jvm.MethodName)) ∈ LG := mg3 29 rfl rfl
theorem mI_X6_markFact : (Jvm.Cond.instanceMethod ({ cls := "PigLine$Run", name := "markFact", desc := "(II)I" } : Jvm.MethodName)) ∈ LG := mg3 30 rfl rfl
theorem mE_X6_markFact : (Jvm.Cond.selects "PigLine$Run" ({ cls := "PigLine$Run", name := "markFact", desc := "(II)I" } : Jvm.MethodName) ({ cls := "PigLine$Run", name := "markFact", desc := "(II)I" } : Jvm.MethodName)) ∈ LG := mg3 31 rfl rfl
theorem mC_X6_markFact : (Jvm.Cond.code ({ cls := "PigLine$Run", name := "markFact", desc := "(II)I" } : Jvm.MethodName) prog_8_method_7_code (3 : Nat) (Option.some Jvm.ClassFile.FieldType.int)) ∈ LG := mg3 32 rfl rfl
theorem lkM_X6_81 : (Jvm.Cond.methodLink "PigLine$Run" (81 : Nat) ({ cls := "PigLine$Run", name := "feltAt", desc := "(I)I" } : Jvm.MethodName)) ∈ LG := mg3 33 rfl rfl
theorem mI_X6_feltAt : (Jvm.Cond.instanceMethod ({ cls := "PigLine$Run", name := "feltAt", desc := "(I)I" } : Jvm.MethodName)) ∈ LG := mg3 34 rfl rfl
theorem mE_X6_feltAt : (Jvm.Cond.selects "PigLine$Run" ({ cls := "PigLine$Run", name := "feltAt", desc := "(I)I" } : Jvm.MethodName) ({ cls := "PigLine$Run", name := "feltAt", desc := "(I)I" } : Jvm.MethodName)) ∈ LG := mg3 35 rfl rfl
theorem mC_X6_feltAt : (Jvm.Cond.code ({ cls := "PigLine$Run", name := "feltAt", desc := "(I)I" } : Jvm.MethodName) prog_8_method_6_code (3 : Nat) (Option.some Jvm.ClassFile.FieldType.int)) ∈ LG := mg3 36 rfl rfl
theorem lkM_X6_84 : (Jvm.Cond.methodLink "PigLine$Run" (84 : Nat) ({ cls := "PigLine$Marks", name := "fact", desc := "(II)I" } : Jvm.MethodName)) ∈ LG := mg3 37 rfl rfl
theorem mI_X3_fact : (Jvm.Cond.instanceMethod ({ cls := "PigLine$Marks", name := "fact", desc := "(II)I" } : Jvm.MethodName)) ∈ LG := mg3 38 rfl rfl
theorem mE_X3_fact : (Jvm.Cond.selects "PigLine$Marks" ({ cls := "PigLine$Marks", name := "fact", desc := "(II)I" } : Jvm.MethodName) ({ cls := "PigLine$Marks", name := "fact", desc := "(II)I" } : Jvm.MethodName)) ∈ LG := mg3 39 rfl rfl
theorem mC_X3_fact : (Jvm.Cond.code ({ cls := "PigLine$Marks", name := "fact", desc := "(II)I" } : Jvm.MethodName) prog_5_method_4_code (3 : Nat) (Option.some Jvm.ClassFile.FieldType.int)) ∈ LG := mg3 40 rfl rfl
theorem lkM_L_83 : (Jvm.Cond.methodLink "PigLineLaw" (83 : Nat) ({ cls := "PigLine", name := "near", desc := "(II)I" } : Jvm.MethodName)) ∈ LG := mg3 41 rfl rfl
theorem mI_X9_near : (Jvm.Cond.instanceMethod ({ cls := "PigLine", name := "near", desc := "(II)I" } : Jvm.MethodName)) ∈ LG := mg3 42 rfl rfl
theorem mE_X9_near : (Jvm.Cond.selects "PigLine" ({ cls := "PigLine", name := "near", desc := "(II)I" } : Jvm.MethodName) ({ cls := "PigLine", name := "near", desc := "(II)I" } : Jvm.MethodName)) ∈ LG := mg3 43 rfl rfl
theorem mC_X9_near : (Jvm.Cond.code ({ cls := "PigLine", name := "near", desc := "(II)I" } : Jvm.MethodName) prog_1_method_18_code (3 : Nat) (Option.some Jvm.ClassFile.FieldType.int)) ∈ LG := mg3 44 rfl rfl
theorem lkM_L_87 : (Jvm.Cond.methodLink "PigLineLaw" (87 : Nat) ({ cls := "PigLine", name := "groups", desc := "(I)I" } : Jvm.MethodName)) ∈ LG := mg3 45 rfl rfl
theorem mI_X9_groups : (Jvm.Cond.instanceMethod ({ cls := "PigLine", name := "groups", desc := "(I)I" } : Jvm.MethodName)) ∈ LG := mg3 46 rfl rfl
theorem mE_X9_groups : (Jvm.Cond.selects "PigLine" ({ cls := "PigLine", name := "groups", desc := "(I)I" } : Jvm.MethodName) ({ cls := "PigLine", name := "groups", desc := "(I)I" } : Jvm.MethodName)) ∈ LG := mg3 47 rfl rfl
theorem mC_X9_groups : (Jvm.Cond.code ({ cls := "PigLine", name := "groups", desc := "(I)I" } : Jvm.MethodName) prog_1_method_19_code (3 : Nat) (Option.some Jvm.ClassFile.FieldType.int)) ∈ LG := mg3 48 rfl rfl
theorem lkM_L_91 : (Jvm.Cond.methodLink "PigLineLaw" (91 : Nat) ({ cls := "PigLine", name := "group", desc := "(III)I" } : Jvm.MethodName)) ∈ LG := mg3 49 rfl rfl
theorem mI_X9_group : (Jvm.Cond.instanceMethod ({ cls := "PigLine", name := "group", desc := "(III)I" } : Jvm.MethodName)) ∈ LG := mg3 50 rfl rfl
theorem mE_X9_group : (Jvm.Cond.selects "PigLine" ({ cls := "PigLine", name := "group", desc := "(III)I" } : Jvm.MethodName) ({ cls := "PigLine", name := "group", desc := "(III)I" } : Jvm.MethodName)) ∈ LG := mg3 51 rfl rfl
theorem mC_X9_group : (Jvm.Cond.code ({ cls := "PigLine", name := "group", desc := "(III)I" } : Jvm.MethodName) prog_1_method_20_code (5 : Nat) (Option.some Jvm.ClassFile.FieldType.int)) ∈ LG := mg3 52 rfl rfl
theorem lkM_X9_195 : (Jvm.Cond.methodLink "PigLine" (195 : Nat) ({ cls := "PigLine$Marks", name := "groupFact", desc := "(II)I" } : Jvm.MethodName)) ∈ LG := mg3 53 rfl rfl
theorem mI_X3_groupFact : (Jvm.Cond.instanceMethod ({ cls := "PigLine$Marks", name := "groupFact", desc := "(II)I" } : Jvm.MethodName)) ∈ LG := mg3 54 rfl rfl
theorem mE_X3_groupFact : (Jvm.Cond.selects "PigLine$Marks" ({ cls := "PigLine$Marks", name := "groupFact", desc := "(II)I" } : Jvm.MethodName) ({ cls := "PigLine$Marks", name := "groupFact", desc := "(II)I" } : Jvm.MethodName)) ∈ LG := mg3 55 rfl rfl
theorem mC_X3_groupFact : (Jvm.Cond.code ({ cls := "PigLine$Marks", name := "groupFact", desc := "(II)I" } : Jvm.MethodName) prog_5_method_9_code (9 : Nat) (Option.some Jvm.ClassFile.FieldType.int)) ∈ LG := mg3 56 rfl rfl
theorem lkM_X3_58 : (Jvm.Cond.methodLink "PigLine$Marks" (58 : Nat) ({ cls := "java/lang/Math", name := "min", desc := "(II)I" } : Jvm.MethodName)) ∈ LG := mg3 57 rfl rfl
theorem lkM_L_95 : (Jvm.Cond.methodLink "PigLineLaw" (95 : Nat) ({ cls := "PigLine", name := "alone", desc := "(I)I" } : Jvm.MethodName)) ∈ LG := mg3 58 rfl rfl
theorem mI_X9_alone : (Jvm.Cond.instanceMethod ({ cls := "PigLine", name := "alone", desc := "(I)I" } : Jvm.MethodName)) ∈ LG := mg3 59 rfl rfl
theorem mE_X9_alone : (Jvm.Cond.selects "PigLine" ({ cls := "PigLine", name := "alone", desc := "(I)I" } : Jvm.MethodName) ({ cls := "PigLine", name := "alone", desc := "(I)I" } : Jvm.MethodName)) ∈ LG := mg3 60 rfl rfl
theorem mC_X9_alone : (Jvm.Cond.code ({ cls := "PigLine", name := "alone", desc := "(I)I" } : Jvm.MethodName) prog_1_method_21_code (3 : Nat) (Option.some Jvm.ClassFile.FieldType.int)) ∈ LG := mg3 61 rfl rfl
theorem lkM_L_99 : (Jvm.Cond.methodLink "PigLineLaw" (99 : Nat) ({ cls := "PigLine", name := "pairing", desc := "(I)I" } : Jvm.MethodName)) ∈ LG := mg3 62 rfl rfl
theorem mI_X9_pairing : (Jvm.Cond.instanceMethod ({ cls := "PigLine", name := "pairing", desc := "(I)I" } : Jvm.MethodName)) ∈ LG := mg3 63 rfl rfl
theorem mE_X9_pairing : (Jvm.Cond.selects "PigLine" ({ cls := "PigLine", name := "pairing", desc := "(I)I" } : Jvm.MethodName) ({ cls := "PigLine", name := "pairing", desc := "(I)I" } : Jvm.MethodName)) ∈ LG := mg3 64 rfl rfl
theorem mC_X9_pairing : (Jvm.Cond.code ({ cls := "PigLine", name := "pairing", desc := "(I)I" } : Jvm.MethodName) prog_1_method_22_code (2 : Nat) (Option.some Jvm.ClassFile.FieldType.int)) ∈ LG := mg3 65 rfl rfl
theorem lkM_X9_201 : (Jvm.Cond.methodLink "PigLine" (201 : Nat) ({ cls := "PigLine", name := "matchBothRuns", desc := "()V" } : Jvm.MethodName)) ∈ LG := mg3 66 rfl rfl
theorem mI_X9_matchBothRuns : (Jvm.Cond.instanceMethod ({ cls := "PigLine", name := "matchBothRuns", desc := "()V" } : Jvm.MethodName)) ∈ LG := mg3 68 rfl rfl
theorem mC_X9_matchBothRuns : (Jvm.Cond.code ({ cls := "PigLine", name := "matchBothRuns", desc := "()V" } : Jvm.MethodName) prog_1_method_40_code (1 : Nat) (Option.none : Option Jvm.ClassFile.FieldType)) ∈ LG := mg3 69 rfl rfl
theorem lkM_X9_204 : (Jvm.Cond.methodLink "PigLine" (204 : Nat) ({ cls := "PigLine$Pairs", name := "leastCost", desc := "(LPigLine$Run;ILPigLine$Run;I)I" } : Jvm.MethodName)) ∈ LG := mg3 70 rfl rfl
theorem mI_X4_leastCost : (Jvm.Cond.instanceMethod ({ cls := "PigLine$Pairs", name := "leastCost", desc := "(LPigLine$Run;ILPigLine$Run;I)I" } : Jvm.MethodName)) ∈ LG := mg3 71 rfl rfl
theorem mE_X4_leastCost : (Jvm.Cond.selects "PigLine$Pairs" ({ cls := "PigLine$Pairs", name := "leastCost", desc := "(LPigLine$Run;ILPigLine$Run;I)I" } : Jvm.MethodName) ({ cls := "PigLine$Pairs", name := "leastCost", desc := "(LPigLine$Run;ILPigLine$Run;I)I" } : Jvm.MethodName)) ∈ LG := mg3 72 rfl rfl
theorem mC_X4_leastCost : (Jvm.Cond.code ({ cls := "PigLine$Pairs", name := "leastCost", desc := "(LPigLine$Run;ILPigLine$Run;I)I" } : Jvm.MethodName) prog_6_method_2_code (8 : Nat) (Option.some Jvm.ClassFile.FieldType.int)) ∈ LG := mg3 73 rfl rfl
theorem lkM_X4_29 : (Jvm.Cond.methodLink "PigLine$Pairs" (29 : Nat) ({ cls := "PigLine$Lot", name := "gather", desc := "(LPigLine$Run;I)V" } : Jvm.MethodName)) ∈ LG := mg3 74 rfl rfl
theorem mI_X2_gather : (Jvm.Cond.instanceMethod ({ cls := "PigLine$Lot", name := "gather", desc := "(LPigLine$Run;I)V" } : Jvm.MethodName)) ∈ LG := mg3 75 rfl rfl
theorem mE_X2_gather : (Jvm.Cond.selects "PigLine$Lot" ({ cls := "PigLine$Lot", name := "gather", desc := "(LPigLine$Run;I)V" } : Jvm.MethodName) ({ cls := "PigLine$Lot", name := "gather", desc := "(LPigLine$Run;I)V" } : Jvm.MethodName)) ∈ LG := mg3 76 rfl rfl
theorem mC_X2_gather : (Jvm.Cond.code ({ cls := "PigLine$Lot", name := "gather", desc := "(LPigLine$Run;I)V" } : Jvm.MethodName) prog_4_method_2_code (4 : Nat) (Option.none : Option Jvm.ClassFile.FieldType)) ∈ LG := mg3 77 rfl rfl
theorem lkM_X2_40 : (Jvm.Cond.methodLink "PigLine$Lot" (40 : Nat) ({ cls := "PigLine$Run", name := "feltAt", desc := "(I)I" } : Jvm.MethodName)) ∈ LG := mg3 78 rfl rfl
theorem lkM_X4_36 : (Jvm.Cond.methodLink "PigLine$Pairs" (36 : Nat) ({ cls := "java/lang/Integer", name := "bitCount", desc := "(I)I" } : Jvm.MethodName)) ∈ LG := mg3 79 rfl rfl
theorem mS_J6_bitCount_0f7a4 : (Jvm.Cond.static ({ cls := "java/lang/Integer", name := "bitCount", desc := "(I)I" } : Jvm.MethodName)) ∈ LG := mg3 80 rfl rfl
theorem mC_J6_bitCount_0f7a4 : (Jvm.Cond.code ({ cls := "java/lang/Integer", name := "bitCount", desc := "(I)I" } : Jvm.MethodName) prog_13_method_49_code (1 : Nat) (Option.some Jvm.ClassFile.FieldType.int)) ∈ LG := mg3 81 rfl rfl
theorem lkC_J6_265 : (Jvm.Cond.constant "java/lang/Integer" (265 : Nat) (1431655765 : Int32)) ∈ LG := mg3 82 rfl rfl
theorem lkC_J6_266 : (Jvm.Cond.constant "java/lang/Integer" (266 : Nat) (858993459 : Int32)) ∈ LG := mg3 83 rfl rfl
theorem lkC_J6_267 : (Jvm.Cond.constant "java/lang/Integer" (267 : Nat) (252645135 : Int32)) ∈ LG := mg3 84 rfl rfl
theorem lkM_X4_42 : (Jvm.Cond.methodLink "PigLine$Pairs" (42 : Nat) ({ cls := "PigLine$Pairs", name := "leastFrom", desc := "(II)I" } : Jvm.MethodName)) ∈ LG := mg3 85 rfl rfl
theorem mI_X4_leastFrom : (Jvm.Cond.instanceMethod ({ cls := "PigLine$Pairs", name := "leastFrom", desc := "(II)I" } : Jvm.MethodName)) ∈ LG := mg3 87 rfl rfl
theorem mC_X4_leastFrom : (Jvm.Cond.code ({ cls := "PigLine$Pairs", name := "leastFrom", desc := "(II)I" } : Jvm.MethodName) prog_6_method_3_code (5 : Nat) (Option.some Jvm.ClassFile.FieldType.int)) ∈ LG := mg3 88 rfl rfl
theorem lkM_X4_46 : (Jvm.Cond.methodLink "PigLine$Pairs" (46 : Nat) ({ cls := "PigLine$Pairs", name := "withPair", desc := "(III)I" } : Jvm.MethodName)) ∈ LG := mg3 89 rfl rfl
theorem mI_X4_withPair : (Jvm.Cond.instanceMethod ({ cls := "PigLine$Pairs", name := "withPair", desc := "(III)I" } : Jvm.MethodName)) ∈ LG := mg3 91 rfl rfl
theorem mC_X4_withPair : (Jvm.Cond.code ({ cls := "PigLine$Pairs", name := "withPair", desc := "(III)I" } : Jvm.MethodName) prog_6_method_4_code (5 : Nat) (Option.some Jvm.ClassFile.FieldType.int)) ∈ LG := mg3 92 rfl rfl
theorem lkM_X4_58 : (Jvm.Cond.methodLink "PigLine$Pairs" (58 : Nat) ({ cls := "java/lang/Math", name := "abs", desc := "(I)I" } : Jvm.MethodName)) ∈ LG := mg3 93 rfl rfl
theorem lkM_X4_50 : (Jvm.Cond.methodLink "PigLine$Pairs" (50 : Nat) ({ cls := "java/lang/Math", name := "min", desc := "(II)I" } : Jvm.MethodName)) ∈ LG := mg3 95 rfl rfl
theorem lkM_L_103 : (Jvm.Cond.methodLink "PigLineLaw" (103 : Nat) ({ cls := "PigLine", name := "twin", desc := "(I)I" } : Jvm.MethodName)) ∈ LG := mg3 96 rfl rfl
theorem mI_X9_twin : (Jvm.Cond.instanceMethod ({ cls := "PigLine", name := "twin", desc := "(I)I" } : Jvm.MethodName)) ∈ LG := mg3 97 rfl rfl
theorem mE_X9_twin : (Jvm.Cond.selects "PigLine" ({ cls := "PigLine", name := "twin", desc := "(I)I" } : Jvm.MethodName) ({ cls := "PigLine", name := "twin", desc := "(I)I" } : Jvm.MethodName)) ∈ LG := mg3 98 rfl rfl
theorem mC_X9_twin : (Jvm.Cond.code ({ cls := "PigLine", name := "twin", desc := "(I)I" } : Jvm.MethodName) prog_1_method_23_code (2 : Nat) (Option.some Jvm.ClassFile.FieldType.int)) ∈ LG := mg3 99 rfl rfl
theorem lkM_X9_207 : (Jvm.Cond.methodLink "PigLine" (207 : Nat) ({ cls := "PigLine", name := "twinOf", desc := "(I)I" } : Jvm.MethodName)) ∈ LG := mg3 100 rfl rfl
theorem mI_X9_twinOf : (Jvm.Cond.instanceMethod ({ cls := "PigLine", name := "twinOf", desc := "(I)I" } : Jvm.MethodName)) ∈ LG := mg3 102 rfl rfl
theorem mC_X9_twinOf : (Jvm.Cond.code ({ cls := "PigLine", name := "twinOf", desc := "(I)I" } : Jvm.MethodName) prog_1_method_41_code (3 : Nat) (Option.some Jvm.ClassFile.FieldType.int)) ∈ LG := mg3 103 rfl rfl
theorem lkM_X9_285 : (Jvm.Cond.methodLink "PigLine" (285 : Nat) ({ cls := "PigLine$Run", name := "feltAt", desc := "(I)I" } : Jvm.MethodName)) ∈ LG := mg3 104 rfl rfl
theorem lkM_X9_288 : (Jvm.Cond.methodLink "PigLine" (288 : Nat) ({ cls := "PigLine$Book", name := "jointPairedWith", desc := "(LPigLine$Run;I)I" } : Jvm.MethodName)) ∈ LG := mg3 105 rfl rfl
theorem mI_X0_jointPairedWith : (Jvm.Cond.instanceMethod ({ cls := "PigLine$Book", name := "jointPairedWith", desc := "(LPigLine$Run;I)I" } : Jvm.MethodName)) ∈ LG := mg3 106 rfl rfl
theorem mE_X0_jointPairedWith : (Jvm.Cond.selects "PigLine$Book" ({ cls := "PigLine$Book", name := "jointPairedWith", desc := "(LPigLine$Run;I)I" } : Jvm.MethodName) ({ cls := "PigLine$Book", name := "jointPairedWith", desc := "(LPigLine$Run;I)I" } : Jvm.MethodName)) ∈ LG := mg3 107 rfl rfl
theorem mC_X0_jointPairedWith : (Jvm.Cond.code ({ cls := "PigLine$Book", name := "jointPairedWith", desc := "(LPigLine$Run;I)I" } : Jvm.MethodName) prog_2_method_8_code (4 : Nat) (Option.some Jvm.ClassFile.FieldType.int)) ∈ LG := mg3 108 rfl rfl
theorem lkM_X9_292 : (Jvm.Cond.methodLink "PigLine" (292 : Nat) ({ cls := "PigLine$Pairs", name := "otherOf", desc := "(I)I" } : Jvm.MethodName)) ∈ LG := mg3 109 rfl rfl
theorem mI_X4_otherOf : (Jvm.Cond.instanceMethod ({ cls := "PigLine$Pairs", name := "otherOf", desc := "(I)I" } : Jvm.MethodName)) ∈ LG := mg3 110 rfl rfl
theorem mE_X4_otherOf : (Jvm.Cond.selects "PigLine$Pairs" ({ cls := "PigLine$Pairs", name := "otherOf", desc := "(I)I" } : Jvm.MethodName) ({ cls := "PigLine$Pairs", name := "otherOf", desc := "(I)I" } : Jvm.MethodName)) ∈ LG := mg3 111 rfl rfl
theorem mC_X4_otherOf : (Jvm.Cond.code ({ cls := "PigLine$Pairs", name := "otherOf", desc := "(I)I" } : Jvm.MethodName) prog_6_method_5_code (5 : Nat) (Option.some Jvm.ClassFile.FieldType.int)) ∈ LG := mg3 112 rfl rfl
theorem lkM_X4_67 : (Jvm.Cond.methodLink "PigLine$Pairs" (67 : Nat) ({ cls := "PigLine$Pairs", name := "choiceAt", desc := "(II)I" } : Jvm.MethodName)) ∈ LG := mg3 113 rfl rfl
theorem mI_X4_choiceAt : (Jvm.Cond.instanceMethod ({ cls := "PigLine$Pairs", name := "choiceAt", desc := "(II)I" } : Jvm.MethodName)) ∈ LG := mg3 115 rfl rfl
theorem mC_X4_choiceAt : (Jvm.Cond.code ({ cls := "PigLine$Pairs", name := "choiceAt", desc := "(II)I" } : Jvm.MethodName) prog_6_method_6_code (4 : Nat) (Option.some Jvm.ClassFile.FieldType.int)) ∈ LG := mg3 116 rfl rfl
theorem lkM_L_107 : (Jvm.Cond.methodLink "PigLineLaw" (107 : Nat) ({ cls := "PigLine", name := "tool", desc := "(III)I" } : Jvm.MethodName)) ∈ LG := mg3 117 rfl rfl
theorem mI_X9_tool : (Jvm.Cond.instanceMethod ({ cls := "PigLine", name := "tool", desc := "(III)I" } : Jvm.MethodName)) ∈ LG := mg3 118 rfl rfl
theorem mE_X9_tool : (Jvm.Cond.selects "PigLine" ({ cls := "PigLine", name := "tool", desc := "(III)I" } : Jvm.MethodName) ({ cls := "PigLine", name := "tool", desc := "(III)I" } : Jvm.MethodName)) ∈ LG := mg3 119 rfl rfl
theorem mC_X9_tool : (Jvm.Cond.code ({ cls := "PigLine", name := "tool", desc := "(III)I" } : Jvm.MethodName) prog_1_method_24_code (4 : Nat) (Option.some Jvm.ClassFile.FieldType.int)) ∈ LG := mg3 120 rfl rfl
theorem lkM_L_111 : (Jvm.Cond.methodLink "PigLineLaw" (111 : Nat) ({ cls := "PigLine", name := "growth", desc := "(II)I" } : Jvm.MethodName)) ∈ LG := mg3 121 rfl rfl
theorem mI_X9_growth : (Jvm.Cond.instanceMethod ({ cls := "PigLine", name := "growth", desc := "(II)I" } : Jvm.MethodName)) ∈ LG := mg3 122 rfl rfl
theorem mE_X9_growth : (Jvm.Cond.selects "PigLine" ({ cls := "PigLine", name := "growth", desc := "(II)I" } : Jvm.MethodName) ({ cls := "PigLine", name := "growth", desc := "(II)I" } : Jvm.MethodName)) ∈ LG := mg3 123 rfl rfl
theorem mC_X9_growth : (Jvm.Cond.code ({ cls := "PigLine", name := "growth", desc := "(II)I" } : Jvm.MethodName) prog_1_method_25_code (4 : Nat) (Option.some Jvm.ClassFile.FieldType.int)) ∈ LG := mg3 124 rfl rfl
theorem lkM_X9_222 : (Jvm.Cond.methodLink "PigLine" (222 : Nat) ({ cls := "PigLine$Spans", name := "fact", desc := "(III)I" } : Jvm.MethodName)) ∈ LG := mg3 125 rfl rfl
theorem mI_X7_fact : (Jvm.Cond.instanceMethod ({ cls := "PigLine$Spans", name := "fact", desc := "(III)I" } : Jvm.MethodName)) ∈ LG := mg3 126 rfl rfl
theorem mE_X7_fact : (Jvm.Cond.selects "PigLine$Spans" ({ cls := "PigLine$Spans", name := "fact", desc := "(III)I" } : Jvm.MethodName) ({ cls := "PigLine$Spans", name := "fact", desc := "(III)I" } : Jvm.MethodName)) ∈ LG := mg3 127 rfl rfl
theorem mC_X7_fact : (Jvm.Cond.code ({ cls := "PigLine$Spans", name := "fact", desc := "(III)I" } : Jvm.MethodName) prog_9_method_4_code (5 : Nat) (Option.some Jvm.ClassFile.FieldType.int)) ∈ LG := mg3 128 rfl rfl
theorem lkM_X7_30 : (Jvm.Cond.methodLink "PigLine$Spans" (30 : Nat) ({ cls := "PigLine$Spans", name := "mostTruly", desc := "(I)I" } : Jvm.MethodName)) ∈ LG := mg3 129 rfl rfl
theorem mI_X7_mostTruly : (Jvm.Cond.instanceMethod ({ cls := "PigLine$Spans", name := "mostTruly", desc := "(I)I" } : Jvm.MethodName)) ∈ LG := mg3 131 rfl rfl
theorem mC_X7_mostTruly : (Jvm.Cond.code ({ cls := "PigLine$Spans", name := "mostTruly", desc := "(I)I" } : Jvm.MethodName) prog_9_method_3_code (2 : Nat) (Option.some Jvm.ClassFile.FieldType.int)) ∈ LG := mg3 132 rfl rfl
theorem lkM_X7_27 : (Jvm.Cond.methodLink "PigLine$Spans" (27 : Nat) ({ cls := "java/lang/Math", name := "min", desc := "(II)I" } : Jvm.MethodName)) ∈ LG := mg3 133 rfl rfl
theorem lkM_X7_34 : (Jvm.Cond.methodLink "PigLine$Spans" (34 : Nat) ({ cls := "PigLine$Spans", name := "leastTruly", desc := "(I)I" } : Jvm.MethodName)) ∈ LG := mg3 134 rfl rfl
theorem mI_X7_leastTruly : (Jvm.Cond.instanceMethod ({ cls := "PigLine$Spans", name := "leastTruly", desc := "(I)I" } : Jvm.MethodName)) ∈ LG := mg3 136 rfl rfl
theorem mC_X7_leastTruly : (Jvm.Cond.code ({ cls := "PigLine$Spans", name := "leastTruly", desc := "(I)I" } : Jvm.MethodName) prog_9_method_2_code (2 : Nat) (Option.some Jvm.ClassFile.FieldType.int)) ∈ LG := mg3 137 rfl rfl
theorem lkM_X7_21 : (Jvm.Cond.methodLink "PigLine$Spans" (21 : Nat) ({ cls := "java/lang/Math", name := "max", desc := "(II)I" } : Jvm.MethodName)) ∈ LG := mg3 138 rfl rfl
theorem lkM_X7_37 : (Jvm.Cond.methodLink "PigLine$Spans" (37 : Nat) ({ cls := "PigLine$Spans", name := "lastYear", desc := "(II)I" } : Jvm.MethodName)) ∈ LG := mg3 139 rfl rfl
theorem mI_X7_lastYear : (Jvm.Cond.instanceMethod ({ cls := "PigLine$Spans", name := "lastYear", desc := "(II)I" } : Jvm.MethodName)) ∈ LG := mg3 141 rfl rfl
theorem mC_X7_lastYear : (Jvm.Cond.code ({ cls := "PigLine$Spans", name := "lastYear", desc := "(II)I" } : Jvm.MethodName) prog_9_method_5_code (4 : Nat) (Option.some Jvm.ClassFile.FieldType.int)) ∈ LG := mg3 142 rfl rfl
theorem lkM_L_115 : (Jvm.Cond.methodLink "PigLineLaw" (115 : Nat) ({ cls := "PigLine", name := "work", desc := "(II)I" } : Jvm.MethodName)) ∈ LG := mg3 143 rfl rfl
theorem mI_X9_work : (Jvm.Cond.instanceMethod ({ cls := "PigLine", name := "work", desc := "(II)I" } : Jvm.MethodName)) ∈ LG := mg3 144 rfl rfl
theorem mE_X9_work : (Jvm.Cond.selects "PigLine" ({ cls := "PigLine", name := "work", desc := "(II)I" } : Jvm.MethodName) ({ cls := "PigLine", name := "work", desc := "(II)I" } : Jvm.MethodName)) ∈ LG := mg3 145 rfl rfl
theorem mC_X9_work : (Jvm.Cond.code ({ cls := "PigLine", name := "work", desc := "(II)I" } : Jvm.MethodName) prog_1_method_26_code (3 : Nat) (Option.some Jvm.ClassFile.FieldType.int)) ∈ LG := mg3 146 rfl rfl
theorem lkM_X9_225 : (Jvm.Cond.methodLink "PigLine" (225 : Nat) ({ cls := "PigLine$Digs", name := "add", desc := "(II)I" } : Jvm.MethodName)) ∈ LG := mg3 147 rfl rfl
theorem mI_X1_add : (Jvm.Cond.instanceMethod ({ cls := "PigLine$Digs", name := "add", desc := "(II)I" } : Jvm.MethodName)) ∈ LG := mg3 148 rfl rfl
theorem mE_X1_add : (Jvm.Cond.selects "PigLine$Digs" ({ cls := "PigLine$Digs", name := "add", desc := "(II)I" } : Jvm.MethodName) ({ cls := "PigLine$Digs", name := "add", desc := "(II)I" } : Jvm.MethodName)) ∈ LG := mg3 149 rfl rfl
theorem mC_X1_add : (Jvm.Cond.code ({ cls := "PigLine$Digs", name := "add", desc := "(II)I" } : Jvm.MethodName) prog_3_method_2_code (3 : Nat) (Option.some Jvm.ClassFile.FieldType.int)) ∈ LG := mg3 150 rfl rfl
theorem lkM_L_119 : (Jvm.Cond.methodLink "PigLineLaw" (119 : Nat) ({ cls := "PigLine", name := "yearly", desc := "(II)I" } : Jvm.MethodName)) ∈ LG := mg3 151 rfl rfl
theorem mI_X9_yearly : (Jvm.Cond.instanceMethod ({ cls := "PigLine", name := "yearly", desc := "(II)I" } : Jvm.MethodName)) ∈ LG := mg3 152 rfl rfl
theorem mE_X9_yearly : (Jvm.Cond.selects "PigLine" ({ cls := "PigLine", name := "yearly", desc := "(II)I" } : Jvm.MethodName) ({ cls := "PigLine", name := "yearly", desc := "(II)I" } : Jvm.MethodName)) ∈ LG := mg3 153 rfl rfl
theorem mC_X9_yearly : (Jvm.Cond.code ({ cls := "PigLine", name := "yearly", desc := "(II)I" } : Jvm.MethodName) prog_1_method_27_code (3 : Nat) (Option.some Jvm.ClassFile.FieldType.int)) ∈ LG := mg3 154 rfl rfl
theorem lkM_L_123 : (Jvm.Cond.methodLink "PigLineLaw" (123 : Nat) ({ cls := "PigLine", name := "plan", desc := "()I" } : Jvm.MethodName)) ∈ LG := mg3 155 rfl rfl
theorem mI_X9_plan : (Jvm.Cond.instanceMethod ({ cls := "PigLine", name := "plan", desc := "()I" } : Jvm.MethodName)) ∈ LG := mg3 156 rfl rfl
theorem mE_X9_plan : (Jvm.Cond.selects "PigLine" ({ cls := "PigLine", name := "plan", desc := "()I" } : Jvm.MethodName) ({ cls := "PigLine", name := "plan", desc := "()I" } : Jvm.MethodName)) ∈ LG := mg3 157 rfl rfl
theorem mC_X9_plan : (Jvm.Cond.code ({ cls := "PigLine", name := "plan", desc := "()I" } : Jvm.MethodName) prog_1_method_28_code (2 : Nat) (Option.some Jvm.ClassFile.FieldType.int)) ∈ LG := mg3 158 rfl rfl
theorem lkM_X9_233 : (Jvm.Cond.methodLink "PigLine" (233 : Nat) ({ cls := "PigLine$Digs", name := "bestYears", desc := "()I" } : Jvm.MethodName)) ∈ LG := mg3 159 rfl rfl
theorem mI_X1_bestYears : (Jvm.Cond.instanceMethod ({ cls := "PigLine$Digs", name := "bestYears", desc := "()I" } : Jvm.MethodName)) ∈ LG := mg3 160 rfl rfl
theorem mE_X1_bestYears : (Jvm.Cond.selects "PigLine$Digs" ({ cls := "PigLine$Digs", name := "bestYears", desc := "()I" } : Jvm.MethodName) ({ cls := "PigLine$Digs", name := "bestYears", desc := "()I" } : Jvm.MethodName)) ∈ LG := mg3 161 rfl rfl
theorem mC_X1_bestYears : (Jvm.Cond.code ({ cls := "PigLine$Digs", name := "bestYears", desc := "()I" } : Jvm.MethodName) prog_3_method_3_code (3 : Nat) (Option.some Jvm.ClassFile.FieldType.int)) ∈ LG := mg3 162 rfl rfl
theorem lkM_X1_31 : (Jvm.Cond.methodLink "PigLine$Digs" (31 : Nat) ({ cls := "PigLine$Digs", name := "isEnough", desc := "(I)Z" } : Jvm.MethodName)) ∈ LG := mg3 163 rfl rfl
theorem mI_X1_isEnough : (Jvm.Cond.instanceMethod ({ cls := "PigLine$Digs", name := "isEnough", desc := "(I)Z" } : Jvm.MethodName)) ∈ LG := mg3 165 rfl rfl
theorem mC_X1_isEnough : (Jvm.Cond.code ({ cls := "PigLine$Digs", name := "isEnough", desc := "(I)Z" } : Jvm.MethodName) prog_3_method_4_code (5 : Nat) (Option.some Jvm.ClassFile.FieldType.boolean)) ∈ LG := mg3 166 rfl rfl
theorem lkM_X1_39 : (Jvm.Cond.methodLink "PigLine$Digs" (39 : Nat) ({ cls := "PigLine$Digs", name := "hasYear", desc := "(II)Z" } : Jvm.MethodName)) ∈ LG := mg3 167 rfl rfl
theorem mI_X1_hasYear : (Jvm.Cond.instanceMethod ({ cls := "PigLine$Digs", name := "hasYear", desc := "(II)Z" } : Jvm.MethodName)) ∈ LG := mg3 169 rfl rfl
theorem mC_X1_hasYear : (Jvm.Cond.code ({ cls := "PigLine$Digs", name := "hasYear", desc := "(II)Z" } : Jvm.MethodName) prog_3_method_5_code (3 : Nat) (Option.some Jvm.ClassFile.FieldType.boolean)) ∈ LG := mg3 170 rfl rfl
theorem lkM_X1_35 : (Jvm.Cond.methodLink "PigLine$Digs" (35 : Nat) ({ cls := "PigLine$Digs", name := "costOf", desc := "(I)I" } : Jvm.MethodName)) ∈ LG := mg3 171 rfl rfl
theorem mI_X1_costOf : (Jvm.Cond.instanceMethod ({ cls := "PigLine$Digs", name := "costOf", desc := "(I)I" } : Jvm.MethodName)) ∈ LG := mg3 172 rfl rfl
theorem mE_X1_costOf : (Jvm.Cond.selects "PigLine$Digs" ({ cls := "PigLine$Digs", name := "costOf", desc := "(I)I" } : Jvm.MethodName) ({ cls := "PigLine$Digs", name := "costOf", desc := "(I)I" } : Jvm.MethodName)) ∈ LG := mg3 173 rfl rfl
theorem mC_X1_costOf : (Jvm.Cond.code ({ cls := "PigLine$Digs", name := "costOf", desc := "(I)I" } : Jvm.MethodName) prog_3_method_6_code (2 : Nat) (Option.some Jvm.ClassFile.FieldType.int)) ∈ LG := mg3 174 rfl rfl
theorem lkM_X1_43 : (Jvm.Cond.methodLink "PigLine$Digs" (43 : Nat) ({ cls := "java/lang/Integer", name := "bitCount", desc := "(I)I" } : Jvm.MethodName)) ∈ LG := mg3 175 rfl rfl
theorem lkM_X9_237 : (Jvm.Cond.methodLink "PigLine" (237 : Nat) ({ cls := "PigLine$Digs", name := "costOf", desc := "(I)I" } : Jvm.MethodName)) ∈ LG := mg3 176 rfl rfl
theorem lkM_L_127 : (Jvm.Cond.methodLink "PigLineLaw" (127 : Nat) ({ cls := "PigLine", name := "years", desc := "()I" } : Jvm.MethodName)) ∈ LG := mg3 177 rfl rfl
theorem mI_X9_years : (Jvm.Cond.instanceMethod ({ cls := "PigLine", name := "years", desc := "()I" } : Jvm.MethodName)) ∈ LG := mg3 178 rfl rfl
theorem mE_X9_years : (Jvm.Cond.selects "PigLine" ({ cls := "PigLine", name := "years", desc := "()I" } : Jvm.MethodName) ({ cls := "PigLine", name := "years", desc := "()I" } : Jvm.MethodName)) ∈ LG := mg3 179 rfl rfl
theorem mC_X9_years : (Jvm.Cond.code ({ cls := "PigLine", name := "years", desc := "()I" } : Jvm.MethodName) prog_1_method_29_code (2 : Nat) (Option.some Jvm.ClassFile.FieldType.int)) ∈ LG := mg3 180 rfl rfl
theorem lkM_L_131 : (Jvm.Cond.methodLink "PigLineLaw" (131 : Nat) ({ cls := "PigLine", name := "when", desc := "(I)I" } : Jvm.MethodName)) ∈ LG := mg3 181 rfl rfl
theorem mI_X9_when : (Jvm.Cond.instanceMethod ({ cls := "PigLine", name := "when", desc := "(I)I" } : Jvm.MethodName)) ∈ LG := mg3 182 rfl rfl
theorem mE_X9_when : (Jvm.Cond.selects "PigLine" ({ cls := "PigLine", name := "when", desc := "(I)I" } : Jvm.MethodName) ({ cls := "PigLine", name := "when", desc := "(I)I" } : Jvm.MethodName)) ∈ LG := mg3 183 rfl rfl
theorem mC_X9_when : (Jvm.Cond.code ({ cls := "PigLine", name := "when", desc := "(I)I" } : Jvm.MethodName) prog_1_method_30_code (3 : Nat) (Option.some Jvm.ClassFile.FieldType.int)) ∈ LG := mg3 184 rfl rfl
theorem lkM_X9_241 : (Jvm.Cond.methodLink "PigLine" (241 : Nat) ({ cls := "PigLine$Digs", name := "yearOf", desc := "(II)I" } : Jvm.MethodName)) ∈ LG := mg3 185 rfl rfl
theorem mI_X1_yearOf : (Jvm.Cond.instanceMethod ({ cls := "PigLine$Digs", name := "yearOf", desc := "(II)I" } : Jvm.MethodName)) ∈ LG := mg3 186 rfl rfl
theorem mE_X1_yearOf : (Jvm.Cond.selects "PigLine$Digs" ({ cls := "PigLine$Digs", name := "yearOf", desc := "(II)I" } : Jvm.MethodName) ({ cls := "PigLine$Digs", name := "yearOf", desc := "(II)I" } : Jvm.MethodName)) ∈ LG := mg3 187 rfl rfl
theorem mC_X1_yearOf : (Jvm.Cond.code ({ cls := "PigLine$Digs", name := "yearOf", desc := "(II)I" } : Jvm.MethodName) prog_3_method_7_code (5 : Nat) (Option.some Jvm.ClassFile.FieldType.int)) ∈ LG := mg3 188 rfl rfl
theorem lkM_X1_48 : (Jvm.Cond.methodLink "PigLine$Digs" (48 : Nat) ({ cls := "PigLine$Digs", name := "worksAheadOf", desc := "(I)I" } : Jvm.MethodName)) ∈ LG := mg3 189 rfl rfl
theorem mI_X1_worksAheadOf : (Jvm.Cond.instanceMethod ({ cls := "PigLine$Digs", name := "worksAheadOf", desc := "(I)I" } : Jvm.MethodName)) ∈ LG := mg3 191 rfl rfl
theorem mC_X1_worksAheadOf : (Jvm.Cond.code ({ cls := "PigLine$Digs", name := "worksAheadOf", desc := "(I)I" } : Jvm.MethodName) prog_3_method_8_code (4 : Nat) (Option.some Jvm.ClassFile.FieldType.int)) ∈ LG := mg3 192 rfl rfl
theorem lkM_L_135 : (Jvm.Cond.methodLink "PigLineLaw" (135 : Nat) ({ cls := "PigLine", name := "trap", desc := "(IZ)I" } : Jvm.MethodName)) ∈ LG := mg3 193 rfl rfl
theorem mI_X9_trap : (Jvm.Cond.instanceMethod ({ cls := "PigLine", name := "trap", desc := "(IZ)I" } : Jvm.MethodName)) ∈ LG := mg3 194 rfl rfl
theorem mE_X9_trap : (Jvm.Cond.selects "PigLine" ({ cls := "PigLine", name := "trap", desc := "(IZ)I" } : Jvm.MethodName) ({ cls := "PigLine", name := "trap", desc := "(IZ)I" } : Jvm.MethodName)) ∈ LG := mg3 195 rfl rfl
theorem mC_X9_trap : (Jvm.Cond.code ({ cls := "PigLine", name := "trap", desc := "(IZ)I" } : Jvm.MethodName) prog_1_method_31_code (3 : Nat) (Option.some Jvm.ClassFile.FieldType.int)) ∈ LG := mg3 196 rfl rfl
theorem lkM_X9_244 : (Jvm.Cond.methodLink "PigLine" (244 : Nat) ({ cls := "PigLine$Valves", name := "isOpen", desc := "(I)Z" } : Jvm.MethodName)) ∈ LG := mg3 197 rfl rfl
theorem mI_X8_isOpen : (Jvm.Cond.instanceMethod ({ cls := "PigLine$Valves", name := "isOpen", desc := "(I)Z" } : Jvm.MethodName)) ∈ LG := mg3 198 rfl rfl
theorem mE_X8_isOpen : (Jvm.Cond.selects "PigLine$Valves" ({ cls := "PigLine$Valves", name := "isOpen", desc := "(I)Z" } : Jvm.MethodName) ({ cls := "PigLine$Valves", name := "isOpen", desc := "(I)Z" } : Jvm.MethodName)) ∈ LG := mg3 199 rfl rfl
theorem mC_X8_isOpen : (Jvm.Cond.code ({ cls := "PigLine$Valves", name := "isOpen", desc := "(I)Z" } : Jvm.MethodName) prog_10_method_2_code (2 : Nat) (Option.some Jvm.ClassFile.FieldType.boolean)) ∈ LG := mg3 200 rfl rfl
theorem lkM_X9_247 : (Jvm.Cond.methodLink "PigLine" (247 : Nat) ({ cls := "PigLine$Valves", name := "shut", desc := "(I)V" } : Jvm.MethodName)) ∈ LG := mg3 201 rfl rfl
theorem mI_X8_shut : (Jvm.Cond.instanceMethod ({ cls := "PigLine$Valves", name := "shut", desc := "(I)V" } : Jvm.MethodName)) ∈ LG := mg3 202 rfl rfl
theorem mE_X8_shut : (Jvm.Cond.selects "PigLine$Valves" ({ cls := "PigLine$Valves", name := "shut", desc := "(I)V" } : Jvm.MethodName) ({ cls := "PigLine$Valves", name := "shut", desc := "(I)V" } : Jvm.MethodName)) ∈ LG := mg3 203 rfl rfl
theorem mC_X8_shut : (Jvm.Cond.code ({ cls := "PigLine$Valves", name := "shut", desc := "(I)V" } : Jvm.MethodName) prog_10_method_5_code (2 : Nat) (Option.none : Option Jvm.ClassFile.FieldType)) ∈ LG := mg3 204 rfl rfl
theorem lkM_X9_251 : (Jvm.Cond.methodLink "PigLine" (251 : Nat) ({ cls := "PigLine$Valves", name := "mayOpen", desc := "(I)Z" } : Jvm.MethodName)) ∈ LG := mg3 205 rfl rfl
theorem mI_X8_mayOpen : (Jvm.Cond.instanceMethod ({ cls := "PigLine$Valves", name := "mayOpen", desc := "(I)Z" } : Jvm.MethodName)) ∈ LG := mg3 206 rfl rfl
theorem mE_X8_mayOpen : (Jvm.Cond.selects "PigLine$Valves" ({ cls := "PigLine$Valves", name := "mayOpen", desc := "(I)Z" } : Jvm.MethodName) ({ cls := "PigLine$Valves", name := "mayOpen", desc := "(I)Z" } : Jvm.MethodName)) ∈ LG := mg3 207 rfl rfl
theorem mC_X8_mayOpen : (Jvm.Cond.code ({ cls := "PigLine$Valves", name := "mayOpen", desc := "(I)Z" } : Jvm.MethodName) prog_10_method_3_code (2 : Nat) (Option.some Jvm.ClassFile.FieldType.boolean)) ∈ LG := mg3 208 rfl rfl
theorem lkM_X8_19 : (Jvm.Cond.methodLink "PigLine$Valves" (19 : Nat) ({ cls := "PigLine$Valves", name := "isOpen", desc := "(I)Z" } : Jvm.MethodName)) ∈ LG := mg3 209 rfl rfl
theorem lkM_X9_254 : (Jvm.Cond.methodLink "PigLine" (254 : Nat) ({ cls := "PigLine$Valves", name := "open", desc := "(I)V" } : Jvm.MethodName)) ∈ LG := mg3 210 rfl rfl
theorem mI_X8_open : (Jvm.Cond.instanceMethod ({ cls := "PigLine$Valves", name := "open", desc := "(I)V" } : Jvm.MethodName)) ∈ LG := mg3 211 rfl rfl
theorem mE_X8_open : (Jvm.Cond.selects "PigLine$Valves" ({ cls := "PigLine$Valves", name := "open", desc := "(I)V" } : Jvm.MethodName) ({ cls := "PigLine$Valves", name := "open", desc := "(I)V" } : Jvm.MethodName)) ∈ LG := mg3 212 rfl rfl
theorem mC_X8_open : (Jvm.Cond.code ({ cls := "PigLine$Valves", name := "open", desc := "(I)V" } : Jvm.MethodName) prog_10_method_4_code (2 : Nat) (Option.none : Option Jvm.ClassFile.FieldType)) ∈ LG := mg3 213 rfl rfl
theorem lkM_L_140 : (Jvm.Cond.methodLink "PigLineLaw" (140 : Nat) ({ cls := "PigLine", name := "count", desc := "(I)I" } : Jvm.MethodName)) ∈ LG := mg3 214 rfl rfl
theorem mI_X9_count : (Jvm.Cond.instanceMethod ({ cls := "PigLine", name := "count", desc := "(I)I" } : Jvm.MethodName)) ∈ LG := mg3 215 rfl rfl
theorem mE_X9_count : (Jvm.Cond.selects "PigLine" ({ cls := "PigLine", name := "count", desc := "(I)I" } : Jvm.MethodName) ({ cls := "PigLine", name := "count", desc := "(I)I" } : Jvm.MethodName)) ∈ LG := mg3 216 rfl rfl
theorem mC_X9_count : (Jvm.Cond.code ({ cls := "PigLine", name := "count", desc := "(I)I" } : Jvm.MethodName) prog_1_method_32_code (2 : Nat) (Option.some Jvm.ClassFile.FieldType.int)) ∈ LG := mg3 217 rfl rfl
theorem lkM_L_144 : (Jvm.Cond.methodLink "PigLineLaw" (144 : Nat) ({ cls := "PigLine", name := "digest", desc := "()J" } : Jvm.MethodName)) ∈ LG := mg3 218 rfl rfl
theorem mI_X9_digest : (Jvm.Cond.instanceMethod ({ cls := "PigLine", name := "digest", desc := "()J" } : Jvm.MethodName)) ∈ LG := mg3 219 rfl rfl
theorem mE_X9_digest : (Jvm.Cond.selects "PigLine" ({ cls := "PigLine", name := "digest", desc := "()J" } : Jvm.MethodName) ({ cls := "PigLine", name := "digest", desc := "()J" } : Jvm.MethodName)) ∈ LG := mg3 220 rfl rfl
theorem mC_X9_digest : (Jvm.Cond.code ({ cls := "PigLine", name := "digest", desc := "()J" } : Jvm.MethodName) prog_1_method_33_code (4 : Nat) (Option.some Jvm.ClassFile.FieldType.long)) ∈ LG := mg3 221 rfl rfl
theorem lkD_X9_264 : (Jvm.Cond.constantLong "PigLine" (264 : Nat) (17 : Int64)) ∈ LG := mg3 222 rfl rfl
theorem lkD_X9_266 : (Jvm.Cond.constantLong "PigLine" (266 : Nat) (31 : Int64)) ∈ LG := mg3 223 rfl rfl
theorem lkM_X9_268 : (Jvm.Cond.methodLink "PigLine" (268 : Nat) ({ cls := "PigLine", name := "count", desc := "(I)I" } : Jvm.MethodName)) ∈ LG := mg3 224 rfl rfl
theorem lkM_X9_271 : (Jvm.Cond.methodLink "PigLine" (271 : Nat) ({ cls := "PigLine", name := "digestOfRun", desc := "(JLPigLine$Run;)J" } : Jvm.MethodName)) ∈ LG := mg3 225 rfl rfl
theorem mI_X9_digestOfRun : (Jvm.Cond.instanceMethod ({ cls := "PigLine", name := "digestOfRun", desc := "(JLPigLine$Run;)J" } : Jvm.MethodName)) ∈ LG := mg3 227 rfl rfl
theorem mC_X9_digestOfRun : (Jvm.Cond.code ({ cls := "PigLine", name := "digestOfRun", desc := "(JLPigLine$Run;)J" } : Jvm.MethodName) prog_1_method_42_code (8 : Nat) (Option.some Jvm.ClassFile.FieldType.long)) ∈ LG := mg3 228 rfl rfl
theorem lkK_L_10 : (Jvm.Cond.classLink "PigLineLaw" (10 : Nat) "PigLineModel") ∈ LG := mg3 229 rfl rfl
theorem inst_X10 : (Jvm.Cond.instantiable "PigLineModel" (43 : Nat)) ∈ LG := mg3 230 rfl rfl
theorem lkM_L_12 : (Jvm.Cond.methodLink "PigLineLaw" (12 : Nat) ({ cls := "PigLineModel", name := "<init>", desc := "()V" } : Jvm.MethodName)) ∈ LG := mg3 231 rfl rfl
theorem mI_X10_init : (Jvm.Cond.instanceMethod ({ cls := "PigLineModel", name := "<init>", desc := "()V" } : Jvm.MethodName)) ∈ LG := mg3 232 rfl rfl
theorem mC_X10_init : (Jvm.Cond.code ({ cls := "PigLineModel", name := "<init>", desc := "()V" } : Jvm.MethodName) prog_12_method_1_code (1 : Nat) (Option.none : Option Jvm.ClassFile.FieldType)) ∈ LG := mg3 233 rfl rfl
theorem lkM_X10_1 : (Jvm.Cond.methodLink "PigLineModel" (1 : Nat) ({ cls := "java/lang/Object", name := "<init>", desc := "()V" } : Jvm.MethodName)) ∈ LG := mg3 234 rfl rfl
theorem lkF_X10_7 : (Jvm.Cond.fieldLink "PigLineModel" (7 : Nat) "PigLineModel" "isThere" "[Z") ∈ LG := mg3 235 rfl rfl
theorem lkF_X10_13 : (Jvm.Cond.fieldLink "PigLineModel" (13 : Nat) "PigLineModel" "forms" "[I") ∈ LG := mg3 236 rfl rfl
theorem lkF_X10_17 : (Jvm.Cond.fieldLink "PigLineModel" (17 : Nat) "PigLineModel" "sizes" "[I") ∈ LG := mg3 237 rfl rfl
theorem lkF_X10_20 : (Jvm.Cond.fieldLink "PigLineModel" (20 : Nat) "PigLineModel" "items" "[I") ∈ LG := mg3 238 rfl rfl
theorem lkF_X10_23 : (Jvm.Cond.fieldLink "PigLineModel" (23 : Nat) "PigLineModel" "moved" "[I") ∈ LG := mg3 239 rfl rfl
theorem lkF_X10_117 : (Jvm.Cond.fieldLink "PigLineModel" (117 : Nat) "PigLineModel" "finding" "I") ∈ LG := mg4 0 rfl rfl
theorem lkF_X10_137 : (Jvm.Cond.fieldLink "PigLineModel" (137 : Nat) "PigLineModel" "ticks" "I") ∈ LG := mg4 1 rfl rfl
theorem lkF_X10_140 : (Jvm.Cond.fieldLink "PigLineModel" (140 : Nat) "PigLineModel" "blinds" "I") ∈ LG := mg4 2 rfl rfl
theorem lkF_X10_26 : (Jvm.Cond.fieldLink "PigLineModel" (26 : Nat) "PigLineModel" "ways" "[I") ∈ LG := mg4 3 rfl rfl
theorem lkF_X10_143 : (Jvm.Cond.fieldLink "PigLineModel" (143 : Nat) "PigLineModel" "joints" "I") ∈ LG := mg4 4 rfl rfl
theorem lkF_X10_29 : (Jvm.Cond.fieldLink "PigLineModel" (29 : Nat) "PigLineModel" "begins" "[I") ∈ LG := mg4 5 rfl rfl
theorem lkF_X10_32 : (Jvm.Cond.fieldLink "PigLineModel" (32 : Nat) "PigLineModel" "lengths" "[I") ∈ LG := mg4 6 rfl rfl
theorem lkF_X10_161 : (Jvm.Cond.fieldLink "PigLineModel" (161 : Nat) "PigLineModel" "booked" "I") ∈ LG := mg4 7 rfl rfl
theorem lkF_X10_35 : (Jvm.Cond.fieldLink "PigLineModel" (35 : Nat) "PigLineModel" "book" "[I") ∈ LG := mg4 8 rfl rfl
theorem lkF_X10_38 : (Jvm.Cond.fieldLink "PigLineModel" (38 : Nat) "PigLineModel" "missed" "I") ∈ LG := mg4 9 rfl rfl
theorem lkF_X10_42 : (Jvm.Cond.fieldLink "PigLineModel" (42 : Nat) "PigLineModel" "extra" "I") ∈ LG := mg4 10 rfl rfl
theorem lkF_X10_45 : (Jvm.Cond.fieldLink "PigLineModel" (45 : Nat) "PigLineModel" "costs" "[I") ∈ LG := mg4 11 rfl rfl
theorem lkF_X10_48 : (Jvm.Cond.fieldLink "PigLineModel" (48 : Nat) "PigLineModel" "pairOf" "[I") ∈ LG := mg4 12 rfl rfl
theorem lkF_X10_51 : (Jvm.Cond.fieldLink "PigLineModel" (51 : Nat) "PigLineModel" "marks" "[I") ∈ LG := mg4 13 rfl rfl
theorem lkF_X10_54 : (Jvm.Cond.fieldLink "PigLineModel" (54 : Nat) "PigLineModel" "markWay" "[I") ∈ LG := mg4 14 rfl rfl
theorem lkF_X10_57 : (Jvm.Cond.fieldLink "PigLineModel" (57 : Nat) "PigLineModel" "markClock" "[I") ∈ LG := mg4 15 rfl rfl
theorem lkF_X10_60 : (Jvm.Cond.fieldLink "PigLineModel" (60 : Nat) "PigLineModel" "markDepth" "[I") ∈ LG := mg4 16 rfl rfl
theorem lkF_X10_63 : (Jvm.Cond.fieldLink "PigLineModel" (63 : Nat) "PigLineModel" "markLength" "[I") ∈ LG := mg4 17 rfl rfl
theorem lkF_X10_66 : (Jvm.Cond.fieldLink "PigLineModel" (66 : Nat) "PigLineModel" "gap" "I") ∈ LG := mg4 18 rfl rfl
theorem lkF_X10_69 : (Jvm.Cond.fieldLink "PigLineModel" (69 : Nat) "PigLineModel" "turn" "I") ∈ LG := mg4 19 rfl rfl
theorem lkF_X10_72 : (Jvm.Cond.fieldLink "PigLineModel" (72 : Nat) "PigLineModel" "groupOf" "[I") ∈ LG := mg4 20 rfl rfl
theorem lkF_X10_179 : (Jvm.Cond.fieldLink "PigLineModel" (179 : Nat) "PigLineModel" "groups" "I") ∈ LG := mg4 21 rfl rfl
theorem lkF_X10_75 : (Jvm.Cond.fieldLink "PigLineModel" (75 : Nat) "PigLineModel" "alone" "I") ∈ LG := mg4 22 rfl rfl
theorem lkF_X10_78 : (Jvm.Cond.fieldLink "PigLineModel" (78 : Nat) "PigLineModel" "inMany" "[I") ∈ LG := mg4 23 rfl rfl
theorem lkF_X10_81 : (Jvm.Cond.fieldLink "PigLineModel" (81 : Nat) "PigLineModel" "inMark" "[I") ∈ LG := mg4 24 rfl rfl
theorem lkF_X10_84 : (Jvm.Cond.fieldLink "PigLineModel" (84 : Nat) "PigLineModel" "inWay" "[I") ∈ LG := mg4 25 rfl rfl
theorem lkF_X10_87 : (Jvm.Cond.fieldLink "PigLineModel" (87 : Nat) "PigLineModel" "chosen" "[I") ∈ LG := mg4 26 rfl rfl
theorem lkF_X10_90 : (Jvm.Cond.fieldLink "PigLineModel" (90 : Nat) "PigLineModel" "bestChosen" "[I") ∈ LG := mg4 27 rfl rfl
theorem lkF_X10_93 : (Jvm.Cond.fieldLink "PigLineModel" (93 : Nat) "PigLineModel" "years" "I") ∈ LG := mg4 28 rfl rfl
theorem lkF_X10_96 : (Jvm.Cond.fieldLink "PigLineModel" (96 : Nat) "PigLineModel" "tool" "I") ∈ LG := mg4 29 rfl rfl
theorem lkF_X10_99 : (Jvm.Cond.fieldLink "PigLineModel" (99 : Nat) "PigLineModel" "limit" "I") ∈ LG := mg4 30 rfl rfl
theorem lkF_X10_218 : (Jvm.Cond.fieldLink "PigLineModel" (218 : Nat) "PigLineModel" "works" "I") ∈ LG := mg4 31 rfl rfl
theorem lkF_X10_102 : (Jvm.Cond.fieldLink "PigLineModel" (102 : Nat) "PigLineModel" "workCost" "[I") ∈ LG := mg4 32 rfl rfl
theorem lkF_X10_105 : (Jvm.Cond.fieldLink "PigLineModel" (105 : Nat) "PigLineModel" "workYear" "[I") ∈ LG := mg4 33 rfl rfl
theorem lkF_X10_108 : (Jvm.Cond.fieldLink "PigLineModel" (108 : Nat) "PigLineModel" "inYear" "I") ∈ LG := mg4 34 rfl rfl
theorem lkF_X10_111 : (Jvm.Cond.fieldLink "PigLineModel" (111 : Nat) "PigLineModel" "setting" "I") ∈ LG := mg4 35 rfl rfl
theorem lkF_X10_114 : (Jvm.Cond.fieldLink "PigLineModel" (114 : Nat) "PigLineModel" "isOpen" "[Z") ∈ LG := mg4 36 rfl rfl
theorem lkF_X10_230 : (Jvm.Cond.fieldLink "PigLineModel" (230 : Nat) "PigLineModel" "isPressed" "Z") ∈ LG := mg4 37 rfl rfl
theorem ac_Z : (Jvm.Cond.arrayClass Jvm.ClassFile.FieldType.boolean) ∈ LG := mg4 125 rfl rfl
theorem lkM_L_17 : (Jvm.Cond.methodLink "PigLineLaw" (17 : Nat) ({ cls := "PigLineModel", name := "reel", desc := "(III)I" } : Jvm.MethodName)) ∈ LG := mg4 126 rfl rfl
theorem mI_X10_reel : (Jvm.Cond.instanceMethod ({ cls := "PigLineModel", name := "reel", desc := "(III)I" } : Jvm.MethodName)) ∈ LG := mg4 127 rfl rfl
theorem mE_X10_reel : (Jvm.Cond.selects "PigLineModel" ({ cls := "PigLineModel", name := "reel", desc := "(III)I" } : Jvm.MethodName) ({ cls := "PigLineModel", name := "reel", desc := "(III)I" } : Jvm.MethodName)) ∈ LG := mg4 128 rfl rfl
theorem mC_X10_reel : (Jvm.Cond.code ({ cls := "PigLineModel", name := "reel", desc := "(III)I" } : Jvm.MethodName) prog_12_method_6_code (5 : Nat) (Option.some Jvm.ClassFile.FieldType.int)) ∈ LG := mg4 129 rfl rfl
theorem lkM_X10_124 : (Jvm.Cond.methodLink "PigLineModel" (124 : Nat) ({ cls := "PigLineModel", name := "isReel", desc := "(I)Z" } : Jvm.MethodName)) ∈ LG := mg4 130 rfl rfl
theorem mS_X10_isReel : (Jvm.Cond.static ({ cls := "PigLineModel", name := "isReel", desc := "(I)Z" } : Jvm.MethodName)) ∈ LG := mg4 131 rfl rfl
theorem mC_X10_isReel : (Jvm.Cond.code ({ cls := "PigLineModel", name := "isReel", desc := "(I)Z" } : Jvm.MethodName) prog_12_method_5_code (1 : Nat) (Option.some Jvm.ClassFile.FieldType.boolean)) ∈ LG := mg4 132 rfl rfl
theorem lkM_X10_120 : (Jvm.Cond.methodLink "PigLineModel" (120 : Nat) ({ cls := "PigLineModel", name := "in", desc := "(III)Z" } : Jvm.MethodName)) ∈ LG := mg4 133 rfl rfl
theorem mS_X10_in : (Jvm.Cond.static ({ cls := "PigLineModel", name := "in", desc := "(III)Z" } : Jvm.MethodName)) ∈ LG := mg4 134 rfl rfl
theorem mC_X10_in : (Jvm.Cond.code ({ cls := "PigLineModel", name := "in", desc := "(III)Z" } : Jvm.MethodName) prog_12_method_3_code (3 : Nat) (Option.some Jvm.ClassFile.FieldType.boolean)) ∈ LG := mg4 135 rfl rfl
theorem lkM_X10_128 : (Jvm.Cond.methodLink "PigLineModel" (128 : Nat) ({ cls := "PigLineModel", name := "meets", desc := "(I)I" } : Jvm.MethodName)) ∈ LG := mg4 136 rfl rfl
theorem mI_X10_meets : (Jvm.Cond.instanceMethod ({ cls := "PigLineModel", name := "meets", desc := "(I)I" } : Jvm.MethodName)) ∈ LG := mg4 138 rfl rfl
theorem mC_X10_meets : (Jvm.Cond.code ({ cls := "PigLineModel", name := "meets", desc := "(I)I" } : Jvm.MethodName) prog_12_method_4_code (2 : Nat) (Option.some Jvm.ClassFile.FieldType.int)) ∈ LG := mg4 139 rfl rfl
theorem lkM_L_22 : (Jvm.Cond.methodLink "PigLineLaw" (22 : Nat) ({ cls := "PigLineModel", name := "lose", desc := "(I)I" } : Jvm.MethodName)) ∈ LG := mg4 140 rfl rfl
theorem mI_X10_lose : (Jvm.Cond.instanceMethod ({ cls := "PigLineModel", name := "lose", desc := "(I)I" } : Jvm.MethodName)) ∈ LG := mg4 141 rfl rfl
theorem mE_X10_lose : (Jvm.Cond.selects "PigLineModel" ({ cls := "PigLineModel", name := "lose", desc := "(I)I" } : Jvm.MethodName) ({ cls := "PigLineModel", name := "lose", desc := "(I)I" } : Jvm.MethodName)) ∈ LG := mg4 142 rfl rfl
theorem mC_X10_lose : (Jvm.Cond.code ({ cls := "PigLineModel", name := "lose", desc := "(I)I" } : Jvm.MethodName) prog_12_method_7_code (2 : Nat) (Option.some Jvm.ClassFile.FieldType.int)) ∈ LG := mg4 143 rfl rfl
theorem lkM_L_27 : (Jvm.Cond.methodLink "PigLineLaw" (27 : Nat) ({ cls := "PigLineModel", name := "put", desc := "(IIII)I" } : Jvm.MethodName)) ∈ LG := mg4 144 rfl rfl
theorem mI_X10_put : (Jvm.Cond.instanceMethod ({ cls := "PigLineModel", name := "put", desc := "(IIII)I" } : Jvm.MethodName)) ∈ LG := mg4 145 rfl rfl
theorem mE_X10_put : (Jvm.Cond.selects "PigLineModel" ({ cls := "PigLineModel", name := "put", desc := "(IIII)I" } : Jvm.MethodName) ({ cls := "PigLineModel", name := "put", desc := "(IIII)I" } : Jvm.MethodName)) ∈ LG := mg4 146 rfl rfl
theorem mC_X10_put : (Jvm.Cond.code ({ cls := "PigLineModel", name := "put", desc := "(IIII)I" } : Jvm.MethodName) prog_12_method_9_code (6 : Nat) (Option.some Jvm.ClassFile.FieldType.int)) ∈ LG := mg4 147 rfl rfl
theorem lkM_X10_132 : (Jvm.Cond.methodLink "PigLineModel" (132 : Nat) ({ cls := "PigLineModel", name := "lacks", desc := "(III)I" } : Jvm.MethodName)) ∈ LG := mg4 148 rfl rfl
theorem mI_X10_lacks : (Jvm.Cond.instanceMethod ({ cls := "PigLineModel", name := "lacks", desc := "(III)I" } : Jvm.MethodName)) ∈ LG := mg4 150 rfl rfl
theorem mC_X10_lacks : (Jvm.Cond.code ({ cls := "PigLineModel", name := "lacks", desc := "(III)I" } : Jvm.MethodName) prog_12_method_8_code (4 : Nat) (Option.some Jvm.ClassFile.FieldType.int)) ∈ LG := mg4 151 rfl rfl
theorem lkM_L_31 : (Jvm.Cond.methodLink "PigLineLaw" (31 : Nat) ({ cls := "PigLineModel", name := "get", desc := "(III)I" } : Jvm.MethodName)) ∈ LG := mg4 152 rfl rfl
theorem mI_X10_get : (Jvm.Cond.instanceMethod ({ cls := "PigLineModel", name := "get", desc := "(III)I" } : Jvm.MethodName)) ∈ LG := mg4 153 rfl rfl
theorem mE_X10_get : (Jvm.Cond.selects "PigLineModel" ({ cls := "PigLineModel", name := "get", desc := "(III)I" } : Jvm.MethodName) ({ cls := "PigLineModel", name := "get", desc := "(III)I" } : Jvm.MethodName)) ∈ LG := mg4 154 rfl rfl
theorem mC_X10_get : (Jvm.Cond.code ({ cls := "PigLineModel", name := "get", desc := "(III)I" } : Jvm.MethodName) prog_12_method_10_code (5 : Nat) (Option.some Jvm.ClassFile.FieldType.int)) ∈ LG := mg4 155 rfl rfl
theorem lkC_X10_136 : (Jvm.Cond.constant "PigLineModel" (136 : Nat) (-2147483648 : Int32)) ∈ LG := mg4 156 rfl rfl
theorem lkM_L_36 : (Jvm.Cond.methodLink "PigLineLaw" (36 : Nat) ({ cls := "PigLineModel", name := "copy", desc := "(IIIII)I" } : Jvm.MethodName)) ∈ LG := mg4 157 rfl rfl
theorem mI_X10_copy : (Jvm.Cond.instanceMethod ({ cls := "PigLineModel", name := "copy", desc := "(IIIII)I" } : Jvm.MethodName)) ∈ LG := mg4 158 rfl rfl
theorem mE_X10_copy : (Jvm.Cond.selects "PigLineModel" ({ cls := "PigLineModel", name := "copy", desc := "(IIIII)I" } : Jvm.MethodName) ({ cls := "PigLineModel", name := "copy", desc := "(IIIII)I" } : Jvm.MethodName)) ∈ LG := mg4 159 rfl rfl
theorem mC_X10_copy : (Jvm.Cond.code ({ cls := "PigLineModel", name := "copy", desc := "(IIIII)I" } : Jvm.MethodName) prog_12_method_11_code (7 : Nat) (Option.some Jvm.ClassFile.FieldType.int)) ∈ LG := mg4 160 rfl rfl
theorem lkM_L_41 : (Jvm.Cond.methodLink "PigLineLaw" (41 : Nat) ({ cls := "PigLineModel", name := "run", desc := "(II)I" } : Jvm.MethodName)) ∈ LG := mg4 161 rfl rfl
theorem mI_X10_run : (Jvm.Cond.instanceMethod ({ cls := "PigLineModel", name := "run", desc := "(II)I" } : Jvm.MethodName)) ∈ LG := mg4 162 rfl rfl
theorem mE_X10_run : (Jvm.Cond.selects "PigLineModel" ({ cls := "PigLineModel", name := "run", desc := "(II)I" } : Jvm.MethodName) ({ cls := "PigLineModel", name := "run", desc := "(II)I" } : Jvm.MethodName)) ∈ LG := mg4 163 rfl rfl
theorem mC_X10_run : (Jvm.Cond.code ({ cls := "PigLineModel", name := "run", desc := "(II)I" } : Jvm.MethodName) prog_12_method_16_code (3 : Nat) (Option.some Jvm.ClassFile.FieldType.int)) ∈ LG := mg4 164 rfl rfl
theorem lkM_X10_153 : (Jvm.Cond.methodLink "PigLineModel" (153 : Nat) ({ cls := "PigLineModel", name := "isRun", desc := "(I)Z" } : Jvm.MethodName)) ∈ LG := mg4 165 rfl rfl
theorem mS_X10_isRun : (Jvm.Cond.static ({ cls := "PigLineModel", name := "isRun", desc := "(I)Z" } : Jvm.MethodName)) ∈ LG := mg4 166 rfl rfl
theorem mC_X10_isRun : (Jvm.Cond.code ({ cls := "PigLineModel", name := "isRun", desc := "(I)Z" } : Jvm.MethodName) prog_12_method_12_code (1 : Nat) (Option.some Jvm.ClassFile.FieldType.boolean)) ∈ LG := mg4 167 rfl rfl
theorem lkM_X10_156 : (Jvm.Cond.methodLink "PigLineModel" (156 : Nat) ({ cls := "PigLineModel", name := "goThrough", desc := "(I)V" } : Jvm.MethodName)) ∈ LG := mg4 168 rfl rfl
theorem mI_X10_goThrough : (Jvm.Cond.instanceMethod ({ cls := "PigLineModel", name := "goThrough", desc := "(I)V" } : Jvm.MethodName)) ∈ LG := mg4 170 rfl rfl
theorem mC_X10_goThrough : (Jvm.Cond.code ({ cls := "PigLineModel", name := "goThrough", desc := "(I)V" } : Jvm.MethodName) prog_12_method_15_code (9 : Nat) (Option.none : Option Jvm.ClassFile.FieldType)) ∈ LG := mg4 171 rfl rfl
theorem lkM_X10_146 : (Jvm.Cond.methodLink "PigLineModel" (146 : Nat) ({ cls := "PigLineModel", name := "reading", desc := "(II)I" } : Jvm.MethodName)) ∈ LG := mg4 172 rfl rfl
theorem mI_X10_reading : (Jvm.Cond.instanceMethod ({ cls := "PigLineModel", name := "reading", desc := "(II)I" } : Jvm.MethodName)) ∈ LG := mg4 174 rfl rfl
theorem mC_X10_reading : (Jvm.Cond.code ({ cls := "PigLineModel", name := "reading", desc := "(II)I" } : Jvm.MethodName) prog_12_method_13_code (4 : Nat) (Option.some Jvm.ClassFile.FieldType.int)) ∈ LG := mg4 175 rfl rfl
theorem lkM_X10_150 : (Jvm.Cond.methodLink "PigLineModel" (150 : Nat) ({ cls := "PigLineModel", name := "middle", desc := "(III)I" } : Jvm.MethodName)) ∈ LG := mg4 176 rfl rfl
theorem mS_X10_middle : (Jvm.Cond.static ({ cls := "PigLineModel", name := "middle", desc := "(III)I" } : Jvm.MethodName)) ∈ LG := mg4 177 rfl rfl
theorem mC_X10_middle : (Jvm.Cond.code ({ cls := "PigLineModel", name := "middle", desc := "(III)I" } : Jvm.MethodName) prog_12_method_14_code (5 : Nat) (Option.some Jvm.ClassFile.FieldType.int)) ∈ LG := mg4 178 rfl rfl
theorem lkM_L_45 : (Jvm.Cond.methodLink "PigLineLaw" (45 : Nat) ({ cls := "PigLineModel", name := "way", desc := "(II)I" } : Jvm.MethodName)) ∈ LG := mg4 179 rfl rfl
theorem mI_X10_way : (Jvm.Cond.instanceMethod ({ cls := "PigLineModel", name := "way", desc := "(II)I" } : Jvm.MethodName)) ∈ LG := mg4 180 rfl rfl
theorem mE_X10_way : (Jvm.Cond.selects "PigLineModel" ({ cls := "PigLineModel", name := "way", desc := "(II)I" } : Jvm.MethodName) ({ cls := "PigLineModel", name := "way", desc := "(II)I" } : Jvm.MethodName)) ∈ LG := mg4 181 rfl rfl
theorem mC_X10_way : (Jvm.Cond.code ({ cls := "PigLineModel", name := "way", desc := "(II)I" } : Jvm.MethodName) prog_12_method_17_code (3 : Nat) (Option.some Jvm.ClassFile.FieldType.int)) ∈ LG := mg4 182 rfl rfl
theorem lkM_L_49 : (Jvm.Cond.methodLink "PigLineLaw" (49 : Nat) ({ cls := "PigLineModel", name := "felt", desc := "(III)I" } : Jvm.MethodName)) ∈ LG := mg4 183 rfl rfl
theorem mI_X10_felt : (Jvm.Cond.instanceMethod ({ cls := "PigLineModel", name := "felt", desc := "(III)I" } : Jvm.MethodName)) ∈ LG := mg4 184 rfl rfl
theorem mE_X10_felt : (Jvm.Cond.selects "PigLineModel" ({ cls := "PigLineModel", name := "felt", desc := "(III)I" } : Jvm.MethodName) ({ cls := "PigLineModel", name := "felt", desc := "(III)I" } : Jvm.MethodName)) ∈ LG := mg4 185 rfl rfl
theorem mC_X10_felt : (Jvm.Cond.code ({ cls := "PigLineModel", name := "felt", desc := "(III)I" } : Jvm.MethodName) prog_12_method_18_code (4 : Nat) (Option.some Jvm.ClassFile.FieldType.int)) ∈ LG := mg4 186 rfl rfl
theorem lkM_L_53 : (Jvm.Cond.methodLink "PigLineLaw" (53 : Nat) ({ cls := "PigLineModel", name := "joint", desc := "(I)I" } : Jvm.MethodName)) ∈ LG := mg4 187 rfl rfl
theorem mI_X10_joint : (Jvm.Cond.instanceMethod ({ cls := "PigLineModel", name := "joint", desc := "(I)I" } : Jvm.MethodName)) ∈ LG := mg4 188 rfl rfl
theorem mE_X10_joint : (Jvm.Cond.selects "PigLineModel" ({ cls := "PigLineModel", name := "joint", desc := "(I)I" } : Jvm.MethodName) ({ cls := "PigLineModel", name := "joint", desc := "(I)I" } : Jvm.MethodName)) ∈ LG := mg4 189 rfl rfl
theorem mC_X10_joint : (Jvm.Cond.code ({ cls := "PigLineModel", name := "joint", desc := "(I)I" } : Jvm.MethodName) prog_12_method_19_code (2 : Nat) (Option.some Jvm.ClassFile.FieldType.int)) ∈ LG := mg4 190 rfl rfl
theorem lkC_X10_160 : (Jvm.Cond.constant "PigLineModel" (160 : Nat) (100000 : Int32)) ∈ LG := mg4 191 rfl rfl
theorem lkM_L_58 : (Jvm.Cond.methodLink "PigLineLaw" (58 : Nat) ({ cls := "PigLineModel", name := "wipe", desc := "()I" } : Jvm.MethodName)) ∈ LG := mg4 192 rfl rfl
theorem mI_X10_wipe : (Jvm.Cond.instanceMethod ({ cls := "PigLineModel", name := "wipe", desc := "()I" } : Jvm.MethodName)) ∈ LG := mg4 193 rfl rfl
theorem mE_X10_wipe : (Jvm.Cond.selects "PigLineModel" ({ cls := "PigLineModel", name := "wipe", desc := "()I" } : Jvm.MethodName) ({ cls := "PigLineModel", name := "wipe", desc := "()I" } : Jvm.MethodName)) ∈ LG := mg4 194 rfl rfl
theorem mC_X10_wipe : (Jvm.Cond.code ({ cls := "PigLineModel", name := "wipe", desc := "()I" } : Jvm.MethodName) prog_12_method_20_code (2 : Nat) (Option.some Jvm.ClassFile.FieldType.int)) ∈ LG := mg4 195 rfl rfl
theorem lkM_L_62 : (Jvm.Cond.methodLink "PigLineLaw" (62 : Nat) ({ cls := "PigLineModel", name := "costs", desc := "(II)I" } : Jvm.MethodName)) ∈ LG := mg4 196 rfl rfl
theorem mI_X10_costs : (Jvm.Cond.instanceMethod ({ cls := "PigLineModel", name := "costs", desc := "(II)I" } : Jvm.MethodName)) ∈ LG := mg4 197 rfl rfl
theorem mE_X10_costs : (Jvm.Cond.selects "PigLineModel" ({ cls := "PigLineModel", name := "costs", desc := "(II)I" } : Jvm.MethodName) ({ cls := "PigLineModel", name := "costs", desc := "(II)I" } : Jvm.MethodName)) ∈ LG := mg4 198 rfl rfl
theorem mC_X10_costs : (Jvm.Cond.code ({ cls := "PigLineModel", name := "costs", desc := "(II)I" } : Jvm.MethodName) prog_12_method_21_code (3 : Nat) (Option.some Jvm.ClassFile.FieldType.int)) ∈ LG := mg4 199 rfl rfl
theorem lkC_X10_164 : (Jvm.Cond.constant "PigLineModel" (164 : Nat) (1000000 : Int32)) ∈ LG := mg4 200 rfl rfl
theorem lkM_L_66 : (Jvm.Cond.methodLink "PigLineLaw" (66 : Nat) ({ cls := "PigLineModel", name := "match", desc := "(I)I" } : Jvm.MethodName)) ∈ LG := mg4 201 rfl rfl
theorem mI_X10_match : (Jvm.Cond.instanceMethod ({ cls := "PigLineModel", name := "match", desc := "(I)I" } : Jvm.MethodName)) ∈ LG := mg4 202 rfl rfl
theorem mE_X10_match : (Jvm.Cond.selects "PigLineModel" ({ cls := "PigLineModel", name := "match", desc := "(I)I" } : Jvm.MethodName) ({ cls := "PigLineModel", name := "match", desc := "(I)I" } : Jvm.MethodName)) ∈ LG := mg4 203 rfl rfl
theorem mC_X10_match : (Jvm.Cond.code ({ cls := "PigLineModel", name := "match", desc := "(I)I" } : Jvm.MethodName) prog_12_method_25_code (2 : Nat) (Option.some Jvm.ClassFile.FieldType.int)) ∈ LG := mg4 204 rfl rfl
theorem lkM_X10_172 : (Jvm.Cond.methodLink "PigLineModel" (172 : Nat) ({ cls := "PigLineModel", name := "matches", desc := "(I)V" } : Jvm.MethodName)) ∈ LG := mg4 205 rfl rfl
theorem mI_X10_matches : (Jvm.Cond.instanceMethod ({ cls := "PigLineModel", name := "matches", desc := "(I)V" } : Jvm.MethodName)) ∈ LG := mg4 207 rfl rfl
theorem mC_X10_matches : (Jvm.Cond.code ({ cls := "PigLineModel", name := "matches", desc := "(I)V" } : Jvm.MethodName) prog_12_method_24_code (5 : Nat) (Option.none : Option Jvm.ClassFile.FieldType)) ∈ LG := mg4 208 rfl rfl
theorem lkC_X10_168 : (Jvm.Cond.constant "PigLineModel" (168 : Nat) (2000000000 : Int32)) ∈ LG := mg4 209 rfl rfl
theorem lkM_X10_169 : (Jvm.Cond.methodLink "PigLineModel" (169 : Nat) ({ cls := "PigLineModel", name := "pairCost", desc := "(II)I" } : Jvm.MethodName)) ∈ LG := mg4 210 rfl rfl
theorem mI_X10_pairCost : (Jvm.Cond.instanceMethod ({ cls := "PigLineModel", name := "pairCost", desc := "(II)I" } : Jvm.MethodName)) ∈ LG := mg4 212 rfl rfl
theorem mC_X10_pairCost : (Jvm.Cond.code ({ cls := "PigLineModel", name := "pairCost", desc := "(II)I" } : Jvm.MethodName) prog_12_method_23_code (3 : Nat) (Option.some Jvm.ClassFile.FieldType.int)) ∈ LG := mg4 213 rfl rfl
theorem lkM_X10_165 : (Jvm.Cond.methodLink "PigLineModel" (165 : Nat) ({ cls := "PigLineModel", name := "apart", desc := "(II)I" } : Jvm.MethodName)) ∈ LG := mg4 214 rfl rfl
theorem mS_X10_apart : (Jvm.Cond.static ({ cls := "PigLineModel", name := "apart", desc := "(II)I" } : Jvm.MethodName)) ∈ LG := mg4 215 rfl rfl
theorem mC_X10_apart : (Jvm.Cond.code ({ cls := "PigLineModel", name := "apart", desc := "(II)I" } : Jvm.MethodName) prog_12_method_22_code (2 : Nat) (Option.some Jvm.ClassFile.FieldType.int)) ∈ LG := mg4 216 rfl rfl
theorem lkM_L_70 : (Jvm.Cond.methodLink "PigLineLaw" (70 : Nat) ({ cls := "PigLineModel", name := "paired", desc := "(II)I" } : Jvm.MethodName)) ∈ LG := mg4 217 rfl rfl
theorem mI_X10_paired : (Jvm.Cond.instanceMethod ({ cls := "PigLineModel", name := "paired", desc := "(II)I" } : Jvm.MethodName)) ∈ LG := mg4 218 rfl rfl
theorem mE_X10_paired : (Jvm.Cond.selects "PigLineModel" ({ cls := "PigLineModel", name := "paired", desc := "(II)I" } : Jvm.MethodName) ({ cls := "PigLineModel", name := "paired", desc := "(II)I" } : Jvm.MethodName)) ∈ LG := mg4 219 rfl rfl
theorem mC_X10_paired : (Jvm.Cond.code ({ cls := "PigLineModel", name := "paired", desc := "(II)I" } : Jvm.MethodName) prog_12_method_26_code (3 : Nat) (Option.some Jvm.ClassFile.FieldType.int)) ∈ LG := mg4 220 rfl rfl
theorem lkM_L_74 : (Jvm.Cond.methodLink "PigLineLaw" (74 : Nat) ({ cls := "PigLineModel", name := "mark", desc := "(IIIII)I" } : Jvm.MethodName)) ∈ LG := mg4 221 rfl rfl
theorem mI_X10_mark : (Jvm.Cond.instanceMethod ({ cls := "PigLineModel", name := "mark", desc := "(IIIII)I" } : Jvm.MethodName)) ∈ LG := mg4 222 rfl rfl
theorem mE_X10_mark : (Jvm.Cond.selects "PigLineModel" ({ cls := "PigLineModel", name := "mark", desc := "(IIIII)I" } : Jvm.MethodName) ({ cls := "PigLineModel", name := "mark", desc := "(IIIII)I" } : Jvm.MethodName)) ∈ LG := mg4 223 rfl rfl
theorem mC_X10_mark : (Jvm.Cond.code ({ cls := "PigLineModel", name := "mark", desc := "(IIIII)I" } : Jvm.MethodName) prog_12_method_28_code (7 : Nat) (Option.some Jvm.ClassFile.FieldType.int)) ∈ LG := mg4 224 rfl rfl
theorem lkC_X10_175 : (Jvm.Cond.constant "PigLineModel" (175 : Nat) (4000000 : Int32)) ∈ LG := mg4 225 rfl rfl
theorem lkM_L_78 : (Jvm.Cond.methodLink "PigLineLaw" (78 : Nat) ({ cls := "PigLineModel", name := "clear", desc := "(I)I" } : Jvm.MethodName)) ∈ LG := mg4 226 rfl rfl
theorem mI_X10_clear : (Jvm.Cond.instanceMethod ({ cls := "PigLineModel", name := "clear", desc := "(I)I" } : Jvm.MethodName)) ∈ LG := mg4 227 rfl rfl
theorem mE_X10_clear : (Jvm.Cond.selects "PigLineModel" ({ cls := "PigLineModel", name := "clear", desc := "(I)I" } : Jvm.MethodName) ({ cls := "PigLineModel", name := "clear", desc := "(I)I" } : Jvm.MethodName)) ∈ LG := mg4 228 rfl rfl
theorem mC_X10_clear : (Jvm.Cond.code ({ cls := "PigLineModel", name := "clear", desc := "(I)I" } : Jvm.MethodName) prog_12_method_29_code (3 : Nat) (Option.some Jvm.ClassFile.FieldType.int)) ∈ LG := mg4 229 rfl rfl
theorem lkM_L_82 : (Jvm.Cond.methodLink "PigLineLaw" (82 : Nat) ({ cls := "PigLineModel", name := "about", desc := "(III)I" } : Jvm.MethodName)) ∈ LG := mg4 230 rfl rfl
theorem mI_X10_about : (Jvm.Cond.instanceMethod ({ cls := "PigLineModel", name := "about", desc := "(III)I" } : Jvm.MethodName)) ∈ LG := mg4 231 rfl rfl
theorem mE_X10_about : (Jvm.Cond.selects "PigLineModel" ({ cls := "PigLineModel", name := "about", desc := "(III)I" } : Jvm.MethodName) ({ cls := "PigLineModel", name := "about", desc := "(III)I" } : Jvm.MethodName)) ∈ LG := mg4 232 rfl rfl
theorem mC_X10_about : (Jvm.Cond.code ({ cls := "PigLineModel", name := "about", desc := "(III)I" } : Jvm.MethodName) prog_12_method_34_code (5 : Nat) (Option.some Jvm.ClassFile.FieldType.int)) ∈ LG := mg4 233 rfl rfl
theorem lkM_X10_186 : (Jvm.Cond.methodLink "PigLineModel" (186 : Nat) ({ cls := "PigLineModel", name := "isMark", desc := "(II)Z" } : Jvm.MethodName)) ∈ LG := mg4 234 rfl rfl
theorem mI_X10_isMark : (Jvm.Cond.instanceMethod ({ cls := "PigLineModel", name := "isMark", desc := "(II)Z" } : Jvm.MethodName)) ∈ LG := mg4 236 rfl rfl
theorem mC_X10_isMark : (Jvm.Cond.code ({ cls := "PigLineModel", name := "isMark", desc := "(II)Z" } : Jvm.MethodName) prog_12_method_27_code (3 : Nat) (Option.some Jvm.ClassFile.FieldType.boolean)) ∈ LG := mg4 237 rfl rfl
theorem lkM_X10_189 : (Jvm.Cond.methodLink "PigLineModel" (189 : Nat) ({ cls := "PigLineModel", name := "jointAt", desc := "(I)I" } : Jvm.MethodName)) ∈ LG := mg4 238 rfl rfl
theorem mI_X10_jointAt : (Jvm.Cond.instanceMethod ({ cls := "PigLineModel", name := "jointAt", desc := "(I)I" } : Jvm.MethodName)) ∈ LG := mg5 0 rfl rfl
theorem mC_X10_jointAt : (Jvm.Cond.code ({ cls := "PigLineModel", name := "jointAt", desc := "(I)I" } : Jvm.MethodName) prog_12_method_30_code (3 : Nat) (Option.some Jvm.ClassFile.FieldType.int)) ∈ LG := mg5 1 rfl rfl
theorem lkM_X10_192 : (Jvm.Cond.methodLink "PigLineModel" (192 : Nat) ({ cls := "PigLineModel", name := "joinMarks", desc := "(I)V" } : Jvm.MethodName)) ∈ LG := mg5 2 rfl rfl
theorem mI_X10_joinMarks : (Jvm.Cond.instanceMethod ({ cls := "PigLineModel", name := "joinMarks", desc := "(I)V" } : Jvm.MethodName)) ∈ LG := mg5 4 rfl rfl
theorem mC_X10_joinMarks : (Jvm.Cond.code ({ cls := "PigLineModel", name := "joinMarks", desc := "(I)V" } : Jvm.MethodName) prog_12_method_33_code (6 : Nat) (Option.none : Option Jvm.ClassFile.FieldType)) ∈ LG := mg5 5 rfl rfl
theorem lkM_X10_182 : (Jvm.Cond.methodLink "PigLineModel" (182 : Nat) ({ cls := "PigLineModel", name := "areNear", desc := "(II)Z" } : Jvm.MethodName)) ∈ LG := mg5 6 rfl rfl
theorem mI_X10_areNear : (Jvm.Cond.instanceMethod ({ cls := "PigLineModel", name := "areNear", desc := "(II)Z" } : Jvm.MethodName)) ∈ LG := mg5 8 rfl rfl
theorem mC_X10_areNear : (Jvm.Cond.code ({ cls := "PigLineModel", name := "areNear", desc := "(II)Z" } : Jvm.MethodName) prog_12_method_32_code (6 : Nat) (Option.some Jvm.ClassFile.FieldType.boolean)) ∈ LG := mg5 9 rfl rfl
theorem lkM_X10_176 : (Jvm.Cond.methodLink "PigLineModel" (176 : Nat) ({ cls := "PigLineModel", name := "hours", desc := "(II)I" } : Jvm.MethodName)) ∈ LG := mg5 10 rfl rfl
theorem mS_X10_hours : (Jvm.Cond.static ({ cls := "PigLineModel", name := "hours", desc := "(II)I" } : Jvm.MethodName)) ∈ LG := mg5 11 rfl rfl
theorem mC_X10_hours : (Jvm.Cond.code ({ cls := "PigLineModel", name := "hours", desc := "(II)I" } : Jvm.MethodName) prog_12_method_31_code (3 : Nat) (Option.some Jvm.ClassFile.FieldType.int)) ∈ LG := mg5 12 rfl rfl
theorem lkM_L_86 : (Jvm.Cond.methodLink "PigLineLaw" (86 : Nat) ({ cls := "PigLineModel", name := "near", desc := "(II)I" } : Jvm.MethodName)) ∈ LG := mg5 13 rfl rfl
theorem mI_X10_near : (Jvm.Cond.instanceMethod ({ cls := "PigLineModel", name := "near", desc := "(II)I" } : Jvm.MethodName)) ∈ LG := mg5 14 rfl rfl
theorem mE_X10_near : (Jvm.Cond.selects "PigLineModel" ({ cls := "PigLineModel", name := "near", desc := "(II)I" } : Jvm.MethodName) ({ cls := "PigLineModel", name := "near", desc := "(II)I" } : Jvm.MethodName)) ∈ LG := mg5 15 rfl rfl
theorem mC_X10_near : (Jvm.Cond.code ({ cls := "PigLineModel", name := "near", desc := "(II)I" } : Jvm.MethodName) prog_12_method_35_code (3 : Nat) (Option.some Jvm.ClassFile.FieldType.int)) ∈ LG := mg5 16 rfl rfl
theorem lkM_L_90 : (Jvm.Cond.methodLink "PigLineLaw" (90 : Nat) ({ cls := "PigLineModel", name := "groups", desc := "(I)I" } : Jvm.MethodName)) ∈ LG := mg5 17 rfl rfl
theorem mI_X10_groups : (Jvm.Cond.instanceMethod ({ cls := "PigLineModel", name := "groups", desc := "(I)I" } : Jvm.MethodName)) ∈ LG := mg5 18 rfl rfl
theorem mE_X10_groups : (Jvm.Cond.selects "PigLineModel" ({ cls := "PigLineModel", name := "groups", desc := "(I)I" } : Jvm.MethodName) ({ cls := "PigLineModel", name := "groups", desc := "(I)I" } : Jvm.MethodName)) ∈ LG := mg5 19 rfl rfl
theorem mC_X10_groups : (Jvm.Cond.code ({ cls := "PigLineModel", name := "groups", desc := "(I)I" } : Jvm.MethodName) prog_12_method_36_code (2 : Nat) (Option.some Jvm.ClassFile.FieldType.int)) ∈ LG := mg5 20 rfl rfl
theorem lkM_L_94 : (Jvm.Cond.methodLink "PigLineLaw" (94 : Nat) ({ cls := "PigLineModel", name := "group", desc := "(III)I" } : Jvm.MethodName)) ∈ LG := mg5 21 rfl rfl
theorem mI_X10_group : (Jvm.Cond.instanceMethod ({ cls := "PigLineModel", name := "group", desc := "(III)I" } : Jvm.MethodName)) ∈ LG := mg5 22 rfl rfl
theorem mE_X10_group : (Jvm.Cond.selects "PigLineModel" ({ cls := "PigLineModel", name := "group", desc := "(III)I" } : Jvm.MethodName) ({ cls := "PigLineModel", name := "group", desc := "(III)I" } : Jvm.MethodName)) ∈ LG := mg5 23 rfl rfl
theorem mC_X10_group : (Jvm.Cond.code ({ cls := "PigLineModel", name := "group", desc := "(III)I" } : Jvm.MethodName) prog_12_method_37_code (12 : Nat) (Option.some Jvm.ClassFile.FieldType.int)) ∈ LG := mg5 24 rfl rfl
theorem lkM_L_98 : (Jvm.Cond.methodLink "PigLineLaw" (98 : Nat) ({ cls := "PigLineModel", name := "alone", desc := "(I)I" } : Jvm.MethodName)) ∈ LG := mg5 25 rfl rfl
theorem mI_X10_alone : (Jvm.Cond.instanceMethod ({ cls := "PigLineModel", name := "alone", desc := "(I)I" } : Jvm.MethodName)) ∈ LG := mg5 26 rfl rfl
theorem mE_X10_alone : (Jvm.Cond.selects "PigLineModel" ({ cls := "PigLineModel", name := "alone", desc := "(I)I" } : Jvm.MethodName) ({ cls := "PigLineModel", name := "alone", desc := "(I)I" } : Jvm.MethodName)) ∈ LG := mg5 27 rfl rfl
theorem mC_X10_alone : (Jvm.Cond.code ({ cls := "PigLineModel", name := "alone", desc := "(I)I" } : Jvm.MethodName) prog_12_method_38_code (3 : Nat) (Option.some Jvm.ClassFile.FieldType.int)) ∈ LG := mg5 28 rfl rfl
theorem lkM_L_102 : (Jvm.Cond.methodLink "PigLineLaw" (102 : Nat) ({ cls := "PigLineModel", name := "pairing", desc := "(I)I" } : Jvm.MethodName)) ∈ LG := mg5 29 rfl rfl
theorem mI_X10_pairing : (Jvm.Cond.instanceMethod ({ cls := "PigLineModel", name := "pairing", desc := "(I)I" } : Jvm.MethodName)) ∈ LG := mg5 30 rfl rfl
theorem mE_X10_pairing : (Jvm.Cond.selects "PigLineModel" ({ cls := "PigLineModel", name := "pairing", desc := "(I)I" } : Jvm.MethodName) ({ cls := "PigLineModel", name := "pairing", desc := "(I)I" } : Jvm.MethodName)) ∈ LG := mg5 31 rfl rfl
theorem mC_X10_pairing : (Jvm.Cond.code ({ cls := "PigLineModel", name := "pairing", desc := "(I)I" } : Jvm.MethodName) prog_12_method_43_code (2 : Nat) (Option.some Jvm.ClassFile.FieldType.int)) ∈ LG := mg5 32 rfl rfl
theorem lkM_X10_206 : (Jvm.Cond.methodLink "PigLineModel" (206 : Nat) ({ cls := "PigLineModel", name := "pairs", desc := "(I)I" } : Jvm.MethodName)) ∈ LG := mg5 33 rfl rfl
theorem mI_X10_pairs : (Jvm.Cond.instanceMethod ({ cls := "PigLineModel", name := "pairs", desc := "(I)I" } : Jvm.MethodName)) ∈ LG := mg5 35 rfl rfl
theorem mC_X10_pairs : (Jvm.Cond.code ({ cls := "PigLineModel", name := "pairs", desc := "(I)I" } : Jvm.MethodName) prog_12_method_42_code (6 : Nat) (Option.some Jvm.ClassFile.FieldType.int)) ∈ LG := mg5 36 rfl rfl
theorem lkM_X10_195 : (Jvm.Cond.methodLink "PigLineModel" (195 : Nat) ({ cls := "PigLineModel", name := "gather", desc := "(I)V" } : Jvm.MethodName)) ∈ LG := mg5 37 rfl rfl
theorem mI_X10_gather : (Jvm.Cond.instanceMethod ({ cls := "PigLineModel", name := "gather", desc := "(I)V" } : Jvm.MethodName)) ∈ LG := mg5 39 rfl rfl
theorem mC_X10_gather : (Jvm.Cond.code ({ cls := "PigLineModel", name := "gather", desc := "(I)V" } : Jvm.MethodName) prog_12_method_39_code (6 : Nat) (Option.none : Option Jvm.ClassFile.FieldType)) ∈ LG := mg5 40 rfl rfl
theorem lkM_X10_198 : (Jvm.Cond.methodLink "PigLineModel" (198 : Nat) ({ cls := "PigLineModel", name := "choiceCost", desc := "()I" } : Jvm.MethodName)) ∈ LG := mg5 41 rfl rfl
theorem mI_X10_choiceCost : (Jvm.Cond.instanceMethod ({ cls := "PigLineModel", name := "choiceCost", desc := "()I" } : Jvm.MethodName)) ∈ LG := mg5 43 rfl rfl
theorem mC_X10_choiceCost : (Jvm.Cond.code ({ cls := "PigLineModel", name := "choiceCost", desc := "()I" } : Jvm.MethodName) prog_12_method_40_code (5 : Nat) (Option.some Jvm.ClassFile.FieldType.int)) ∈ LG := mg5 44 rfl rfl
theorem lkM_X10_202 : (Jvm.Cond.methodLink "PigLineModel" (202 : Nat) ({ cls := "PigLineModel", name := "choosesOn", desc := "()Z" } : Jvm.MethodName)) ∈ LG := mg5 45 rfl rfl
theorem mI_X10_choosesOn : (Jvm.Cond.instanceMethod ({ cls := "PigLineModel", name := "choosesOn", desc := "()Z" } : Jvm.MethodName)) ∈ LG := mg5 47 rfl rfl
theorem mC_X10_choosesOn : (Jvm.Cond.code ({ cls := "PigLineModel", name := "choosesOn", desc := "()Z" } : Jvm.MethodName) prog_12_method_41_code (2 : Nat) (Option.some Jvm.ClassFile.FieldType.boolean)) ∈ LG := mg5 48 rfl rfl
theorem lkM_L_106 : (Jvm.Cond.methodLink "PigLineLaw" (106 : Nat) ({ cls := "PigLineModel", name := "twin", desc := "(I)I" } : Jvm.MethodName)) ∈ LG := mg5 49 rfl rfl
theorem mI_X10_twin : (Jvm.Cond.instanceMethod ({ cls := "PigLineModel", name := "twin", desc := "(I)I" } : Jvm.MethodName)) ∈ LG := mg5 50 rfl rfl
theorem mE_X10_twin : (Jvm.Cond.selects "PigLineModel" ({ cls := "PigLineModel", name := "twin", desc := "(I)I" } : Jvm.MethodName) ({ cls := "PigLineModel", name := "twin", desc := "(I)I" } : Jvm.MethodName)) ∈ LG := mg5 51 rfl rfl
theorem mC_X10_twin : (Jvm.Cond.code ({ cls := "PigLineModel", name := "twin", desc := "(I)I" } : Jvm.MethodName) prog_12_method_45_code (2 : Nat) (Option.some Jvm.ClassFile.FieldType.int)) ∈ LG := mg5 52 rfl rfl
theorem lkM_X10_209 : (Jvm.Cond.methodLink "PigLineModel" (209 : Nat) ({ cls := "PigLineModel", name := "twinOf", desc := "(I)I" } : Jvm.MethodName)) ∈ LG := mg5 53 rfl rfl
theorem mI_X10_twinOf : (Jvm.Cond.instanceMethod ({ cls := "PigLineModel", name := "twinOf", desc := "(I)I" } : Jvm.MethodName)) ∈ LG := mg5 55 rfl rfl
theorem mC_X10_twinOf : (Jvm.Cond.code ({ cls := "PigLineModel", name := "twinOf", desc := "(I)I" } : Jvm.MethodName) prog_12_method_44_code (6 : Nat) (Option.some Jvm.ClassFile.FieldType.int)) ∈ LG := mg5 56 rfl rfl
theorem lkM_L_110 : (Jvm.Cond.methodLink "PigLineLaw" (110 : Nat) ({ cls := "PigLineModel", name := "tool", desc := "(III)I" } : Jvm.MethodName)) ∈ LG := mg5 57 rfl rfl
theorem mI_X10_tool : (Jvm.Cond.instanceMethod ({ cls := "PigLineModel", name := "tool", desc := "(III)I" } : Jvm.MethodName)) ∈ LG := mg5 58 rfl rfl
theorem mE_X10_tool : (Jvm.Cond.selects "PigLineModel" ({ cls := "PigLineModel", name := "tool", desc := "(III)I" } : Jvm.MethodName) ({ cls := "PigLineModel", name := "tool", desc := "(III)I" } : Jvm.MethodName)) ∈ LG := mg5 59 rfl rfl
theorem mC_X10_tool : (Jvm.Cond.code ({ cls := "PigLineModel", name := "tool", desc := "(III)I" } : Jvm.MethodName) prog_12_method_46_code (4 : Nat) (Option.some Jvm.ClassFile.FieldType.int)) ∈ LG := mg5 60 rfl rfl
theorem lkM_L_114 : (Jvm.Cond.methodLink "PigLineLaw" (114 : Nat) ({ cls := "PigLineModel", name := "growth", desc := "(II)I" } : Jvm.MethodName)) ∈ LG := mg5 61 rfl rfl
theorem mI_X10_growth : (Jvm.Cond.instanceMethod ({ cls := "PigLineModel", name := "growth", desc := "(II)I" } : Jvm.MethodName)) ∈ LG := mg5 62 rfl rfl
theorem mE_X10_growth : (Jvm.Cond.selects "PigLineModel" ({ cls := "PigLineModel", name := "growth", desc := "(II)I" } : Jvm.MethodName) ({ cls := "PigLineModel", name := "growth", desc := "(II)I" } : Jvm.MethodName)) ∈ LG := mg5 63 rfl rfl
theorem mC_X10_growth : (Jvm.Cond.code ({ cls := "PigLineModel", name := "growth", desc := "(II)I" } : Jvm.MethodName) prog_12_method_49_code (10 : Nat) (Option.some Jvm.ClassFile.FieldType.int)) ∈ LG := mg5 64 rfl rfl
theorem lkM_X10_212 : (Jvm.Cond.methodLink "PigLineModel" (212 : Nat) ({ cls := "PigLineModel", name := "lowOf", desc := "(I)I" } : Jvm.MethodName)) ∈ LG := mg5 65 rfl rfl
theorem mI_X10_lowOf : (Jvm.Cond.instanceMethod ({ cls := "PigLineModel", name := "lowOf", desc := "(I)I" } : Jvm.MethodName)) ∈ LG := mg5 67 rfl rfl
theorem mC_X10_lowOf : (Jvm.Cond.code ({ cls := "PigLineModel", name := "lowOf", desc := "(I)I" } : Jvm.MethodName) prog_12_method_47_code (2 : Nat) (Option.some Jvm.ClassFile.FieldType.int)) ∈ LG := mg5 68 rfl rfl
theorem lkM_X10_215 : (Jvm.Cond.methodLink "PigLineModel" (215 : Nat) ({ cls := "PigLineModel", name := "highOf", desc := "(I)I" } : Jvm.MethodName)) ∈ LG := mg5 69 rfl rfl
theorem mI_X10_highOf : (Jvm.Cond.instanceMethod ({ cls := "PigLineModel", name := "highOf", desc := "(I)I" } : Jvm.MethodName)) ∈ LG := mg5 71 rfl rfl
theorem mC_X10_highOf : (Jvm.Cond.code ({ cls := "PigLineModel", name := "highOf", desc := "(I)I" } : Jvm.MethodName) prog_12_method_48_code (2 : Nat) (Option.some Jvm.ClassFile.FieldType.int)) ∈ LG := mg5 72 rfl rfl
theorem lkM_L_118 : (Jvm.Cond.methodLink "PigLineLaw" (118 : Nat) ({ cls := "PigLineModel", name := "work", desc := "(II)I" } : Jvm.MethodName)) ∈ LG := mg5 73 rfl rfl
theorem mI_X10_work : (Jvm.Cond.instanceMethod ({ cls := "PigLineModel", name := "work", desc := "(II)I" } : Jvm.MethodName)) ∈ LG := mg5 74 rfl rfl
theorem mE_X10_work : (Jvm.Cond.selects "PigLineModel" ({ cls := "PigLineModel", name := "work", desc := "(II)I" } : Jvm.MethodName) ({ cls := "PigLineModel", name := "work", desc := "(II)I" } : Jvm.MethodName)) ∈ LG := mg5 75 rfl rfl
theorem mC_X10_work : (Jvm.Cond.code ({ cls := "PigLineModel", name := "work", desc := "(II)I" } : Jvm.MethodName) prog_12_method_50_code (3 : Nat) (Option.some Jvm.ClassFile.FieldType.int)) ∈ LG := mg5 76 rfl rfl
theorem lkM_L_122 : (Jvm.Cond.methodLink "PigLineLaw" (122 : Nat) ({ cls := "PigLineModel", name := "yearly", desc := "(II)I" } : Jvm.MethodName)) ∈ LG := mg5 77 rfl rfl
theorem mI_X10_yearly : (Jvm.Cond.instanceMethod ({ cls := "PigLineModel", name := "yearly", desc := "(II)I" } : Jvm.MethodName)) ∈ LG := mg5 78 rfl rfl
theorem mE_X10_yearly : (Jvm.Cond.selects "PigLineModel" ({ cls := "PigLineModel", name := "yearly", desc := "(II)I" } : Jvm.MethodName) ({ cls := "PigLineModel", name := "yearly", desc := "(II)I" } : Jvm.MethodName)) ∈ LG := mg5 79 rfl rfl
theorem mC_X10_yearly : (Jvm.Cond.code ({ cls := "PigLineModel", name := "yearly", desc := "(II)I" } : Jvm.MethodName) prog_12_method_51_code (3 : Nat) (Option.some Jvm.ClassFile.FieldType.int)) ∈ LG := mg5 80 rfl rfl
theorem lkM_L_126 : (Jvm.Cond.methodLink "PigLineLaw" (126 : Nat) ({ cls := "PigLineModel", name := "plan", desc := "()I" } : Jvm.MethodName)) ∈ LG := mg5 81 rfl rfl
theorem mI_X10_plan : (Jvm.Cond.instanceMethod ({ cls := "PigLineModel", name := "plan", desc := "()I" } : Jvm.MethodName)) ∈ LG := mg5 82 rfl rfl
theorem mE_X10_plan : (Jvm.Cond.selects "PigLineModel" ({ cls := "PigLineModel", name := "plan", desc := "()I" } : Jvm.MethodName) ({ cls := "PigLineModel", name := "plan", desc := "()I" } : Jvm.MethodName)) ∈ LG := mg5 83 rfl rfl
theorem mC_X10_plan : (Jvm.Cond.code ({ cls := "PigLineModel", name := "plan", desc := "()I" } : Jvm.MethodName) prog_12_method_55_code (4 : Nat) (Option.some Jvm.ClassFile.FieldType.int)) ∈ LG := mg5 84 rfl rfl
theorem lkM_X10_227 : (Jvm.Cond.methodLink "PigLineModel" (227 : Nat) ({ cls := "PigLineModel", name := "planned", desc := "()I" } : Jvm.MethodName)) ∈ LG := mg5 85 rfl rfl
theorem mI_X10_planned : (Jvm.Cond.instanceMethod ({ cls := "PigLineModel", name := "planned", desc := "()I" } : Jvm.MethodName)) ∈ LG := mg5 87 rfl rfl
theorem mC_X10_planned : (Jvm.Cond.code ({ cls := "PigLineModel", name := "planned", desc := "()I" } : Jvm.MethodName) prog_12_method_54_code (3 : Nat) (Option.some Jvm.ClassFile.FieldType.int)) ∈ LG := mg5 88 rfl rfl
theorem lkM_X10_224 : (Jvm.Cond.methodLink "PigLineModel" (224 : Nat) ({ cls := "PigLineModel", name := "willDo", desc := "(I)Z" } : Jvm.MethodName)) ∈ LG := mg5 89 rfl rfl
theorem mI_X10_willDo : (Jvm.Cond.instanceMethod ({ cls := "PigLineModel", name := "willDo", desc := "(I)Z" } : Jvm.MethodName)) ∈ LG := mg5 91 rfl rfl
theorem mC_X10_willDo : (Jvm.Cond.code ({ cls := "PigLineModel", name := "willDo", desc := "(I)Z" } : Jvm.MethodName) prog_12_method_53_code (5 : Nat) (Option.some Jvm.ClassFile.FieldType.boolean)) ∈ LG := mg5 92 rfl rfl
theorem lkM_X10_221 : (Jvm.Cond.methodLink "PigLineModel" (221 : Nat) ({ cls := "PigLineModel", name := "many", desc := "(I)I" } : Jvm.MethodName)) ∈ LG := mg5 93 rfl rfl
theorem mS_X10_many : (Jvm.Cond.static ({ cls := "PigLineModel", name := "many", desc := "(I)I" } : Jvm.MethodName)) ∈ LG := mg5 94 rfl rfl
theorem mC_X10_many : (Jvm.Cond.code ({ cls := "PigLineModel", name := "many", desc := "(I)I" } : Jvm.MethodName) prog_12_method_52_code (3 : Nat) (Option.some Jvm.ClassFile.FieldType.int)) ∈ LG := mg5 95 rfl rfl
theorem lkM_L_130 : (Jvm.Cond.methodLink "PigLineLaw" (130 : Nat) ({ cls := "PigLineModel", name := "years", desc := "()I" } : Jvm.MethodName)) ∈ LG := mg5 96 rfl rfl
theorem mI_X10_years : (Jvm.Cond.instanceMethod ({ cls := "PigLineModel", name := "years", desc := "()I" } : Jvm.MethodName)) ∈ LG := mg5 97 rfl rfl
theorem mE_X10_years : (Jvm.Cond.selects "PigLineModel" ({ cls := "PigLineModel", name := "years", desc := "()I" } : Jvm.MethodName) ({ cls := "PigLineModel", name := "years", desc := "()I" } : Jvm.MethodName)) ∈ LG := mg5 98 rfl rfl
theorem mC_X10_years : (Jvm.Cond.code ({ cls := "PigLineModel", name := "years", desc := "()I" } : Jvm.MethodName) prog_12_method_56_code (2 : Nat) (Option.some Jvm.ClassFile.FieldType.int)) ∈ LG := mg5 99 rfl rfl
theorem lkM_L_134 : (Jvm.Cond.methodLink "PigLineLaw" (134 : Nat) ({ cls := "PigLineModel", name := "when", desc := "(I)I" } : Jvm.MethodName)) ∈ LG := mg5 100 rfl rfl
theorem mI_X10_when : (Jvm.Cond.instanceMethod ({ cls := "PigLineModel", name := "when", desc := "(I)I" } : Jvm.MethodName)) ∈ LG := mg5 101 rfl rfl
theorem mE_X10_when : (Jvm.Cond.selects "PigLineModel" ({ cls := "PigLineModel", name := "when", desc := "(I)I" } : Jvm.MethodName) ({ cls := "PigLineModel", name := "when", desc := "(I)I" } : Jvm.MethodName)) ∈ LG := mg5 102 rfl rfl
theorem mC_X10_when : (Jvm.Cond.code ({ cls := "PigLineModel", name := "when", desc := "(I)I" } : Jvm.MethodName) prog_12_method_57_code (6 : Nat) (Option.some Jvm.ClassFile.FieldType.int)) ∈ LG := mg5 103 rfl rfl
theorem lkM_L_139 : (Jvm.Cond.methodLink "PigLineLaw" (139 : Nat) ({ cls := "PigLineModel", name := "trap", desc := "(IZ)I" } : Jvm.MethodName)) ∈ LG := mg5 104 rfl rfl
theorem mI_X10_trap : (Jvm.Cond.instanceMethod ({ cls := "PigLineModel", name := "trap", desc := "(IZ)I" } : Jvm.MethodName)) ∈ LG := mg5 105 rfl rfl
theorem mE_X10_trap : (Jvm.Cond.selects "PigLineModel" ({ cls := "PigLineModel", name := "trap", desc := "(IZ)I" } : Jvm.MethodName) ({ cls := "PigLineModel", name := "trap", desc := "(IZ)I" } : Jvm.MethodName)) ∈ LG := mg5 106 rfl rfl
theorem mC_X10_trap : (Jvm.Cond.code ({ cls := "PigLineModel", name := "trap", desc := "(IZ)I" } : Jvm.MethodName) prog_12_method_59_code (3 : Nat) (Option.some Jvm.ClassFile.FieldType.int)) ∈ LG := mg5 107 rfl rfl
theorem lkM_X10_234 : (Jvm.Cond.methodLink "PigLineModel" (234 : Nat) ({ cls := "PigLineModel", name := "mayOpen", desc := "(I)Z" } : Jvm.MethodName)) ∈ LG := mg5 108 rfl rfl
theorem mI_X10_mayOpen : (Jvm.Cond.instanceMethod ({ cls := "PigLineModel", name := "mayOpen", desc := "(I)Z" } : Jvm.MethodName)) ∈ LG := mg5 110 rfl rfl
theorem mC_X10_mayOpen : (Jvm.Cond.code ({ cls := "PigLineModel", name := "mayOpen", desc := "(I)Z" } : Jvm.MethodName) prog_12_method_58_code (2 : Nat) (Option.some Jvm.ClassFile.FieldType.boolean)) ∈ LG := mg5 111 rfl rfl
theorem lkM_L_143 : (Jvm.Cond.methodLink "PigLineLaw" (143 : Nat) ({ cls := "PigLineModel", name := "count", desc := "(I)I" } : Jvm.MethodName)) ∈ LG := mg5 112 rfl rfl
theorem mI_X10_count : (Jvm.Cond.instanceMethod ({ cls := "PigLineModel", name := "count", desc := "(I)I" } : Jvm.MethodName)) ∈ LG := mg5 113 rfl rfl
theorem mE_X10_count : (Jvm.Cond.selects "PigLineModel" ({ cls := "PigLineModel", name := "count", desc := "(I)I" } : Jvm.MethodName) ({ cls := "PigLineModel", name := "count", desc := "(I)I" } : Jvm.MethodName)) ∈ LG := mg5 114 rfl rfl
theorem mC_X10_count : (Jvm.Cond.code ({ cls := "PigLineModel", name := "count", desc := "(I)I" } : Jvm.MethodName) prog_12_method_60_code (2 : Nat) (Option.some Jvm.ClassFile.FieldType.int)) ∈ LG := mg5 115 rfl rfl
theorem lkM_L_148 : (Jvm.Cond.methodLink "PigLineLaw" (148 : Nat) ({ cls := "PigLineModel", name := "digest", desc := "()J" } : Jvm.MethodName)) ∈ LG := mg5 116 rfl rfl
theorem mI_X10_digest : (Jvm.Cond.instanceMethod ({ cls := "PigLineModel", name := "digest", desc := "()J" } : Jvm.MethodName)) ∈ LG := mg5 117 rfl rfl
theorem mE_X10_digest : (Jvm.Cond.selects "PigLineModel" ({ cls := "PigLineModel", name := "digest", desc := "()J" } : Jvm.MethodName) ({ cls := "PigLineModel", name := "digest", desc := "()J" } : Jvm.MethodName)) ∈ LG := mg5 118 rfl rfl
theorem mC_X10_digest : (Jvm.Cond.code ({ cls := "PigLineModel", name := "digest", desc := "()J" } : Jvm.MethodName) prog_12_method_61_code (6 : Nat) (Option.some Jvm.ClassFile.FieldType.long)) ∈ LG := mg5 119 rfl rfl
theorem lkD_X10_237 : (Jvm.Cond.constantLong "PigLineModel" (237 : Nat) (17 : Int64)) ∈ LG := mg5 120 rfl rfl
theorem lkD_X10_239 : (Jvm.Cond.constantLong "PigLineModel" (239 : Nat) (31 : Int64)) ∈ LG := mg5 121 rfl rfl
theorem lkM_X10_241 : (Jvm.Cond.methodLink "PigLineModel" (241 : Nat) ({ cls := "PigLineModel", name := "count", desc := "(I)I" } : Jvm.MethodName)) ∈ LG := mg5 122 rfl rfl
theorem lkM_X10_244 : (Jvm.Cond.methodLink "PigLineModel" (244 : Nat) ({ cls := "PigLineModel", name := "run", desc := "(II)I" } : Jvm.MethodName)) ∈ LG := mg5 123 rfl rfl
theorem lkM_X10_247 : (Jvm.Cond.methodLink "PigLineModel" (247 : Nat) ({ cls := "PigLineModel", name := "match", desc := "(I)I" } : Jvm.MethodName)) ∈ LG := mg5 124 rfl rfl
theorem lkM_X10_250 : (Jvm.Cond.methodLink "PigLineModel" (250 : Nat) ({ cls := "PigLineModel", name := "about", desc := "(III)I" } : Jvm.MethodName)) ∈ LG := mg5 125 rfl rfl
theorem mE_X9_reelAt : Cond.selects "PigLine" ⟨"PigLine", "reelAt", "(I)LPigLine$Reel;"⟩ ⟨"PigLine", "reelAt", "(I)LPigLine$Reel;"⟩ ∈ LG := mp1 0 rfl rfl
theorem mE_X9_runAt : Cond.selects "PigLine" ⟨"PigLine", "runAt", "(I)LPigLine$Run;"⟩ ⟨"PigLine", "runAt", "(I)LPigLine$Run;"⟩ ∈ LG := mp1 1 rfl rfl
theorem mE_X9_found : Cond.selects "PigLine" ⟨"PigLine", "found", "(I)I"⟩ ⟨"PigLine", "found", "(I)I"⟩ ∈ LG := mp1 2 rfl rfl
theorem mE_X6_readingsTogether : Cond.selects "PigLine$Run" ⟨"PigLine$Run", "readingsTogether", "(I)I"⟩ ⟨"PigLine$Run", "readingsTogether", "(I)I"⟩ ∈ LG := mp1 3 rfl rfl
theorem mE_X0_withPair : Cond.selects "PigLine$Book" ⟨"PigLine$Book", "withPair", "(LPigLine$Run;II)I"⟩ ⟨"PigLine$Book", "withPair", "(LPigLine$Run;II)I"⟩ ∈ LG := mp1 4 rfl rfl
theorem mE_X0_lastFeltNotLeftOut : Cond.selects "PigLine$Book" ⟨"PigLine$Book", "lastFeltNotLeftOut", "(LPigLine$Run;II)I"⟩ ⟨"PigLine$Book", "lastFeltNotLeftOut", "(LPigLine$Run;II)I"⟩ ∈ LG := mp1 5 rfl rfl
theorem mE_X3_spread : Cond.selects "PigLine$Marks" ⟨"PigLine$Marks", "spread", "(III)V"⟩ ⟨"PigLine$Marks", "spread", "(III)V"⟩ ∈ LG := mp1 6 rfl rfl
theorem mE_X3_areNear : Cond.selects "PigLine$Marks" ⟨"PigLine$Marks", "areNear", "(IIII)Z"⟩ ⟨"PigLine$Marks", "areNear", "(IIII)Z"⟩ ∈ LG := mp1 7 rfl rfl
theorem mE_X3_endOf : Cond.selects "PigLine$Marks" ⟨"PigLine$Marks", "endOf", "(I)I"⟩ ⟨"PigLine$Marks", "endOf", "(I)I"⟩ ∈ LG := mp1 8 rfl rfl
theorem mE_X9_matchBothRuns : Cond.selects "PigLine" ⟨"PigLine", "matchBothRuns", "()V"⟩ ⟨"PigLine", "matchBothRuns", "()V"⟩ ∈ LG := mp1 9 rfl rfl
theorem mE_X4_leastFrom : Cond.selects "PigLine$Pairs" ⟨"PigLine$Pairs", "leastFrom", "(II)I"⟩ ⟨"PigLine$Pairs", "leastFrom", "(II)I"⟩ ∈ LG := mp1 10 rfl rfl
theorem mE_X4_withPair : Cond.selects "PigLine$Pairs" ⟨"PigLine$Pairs", "withPair", "(III)I"⟩ ⟨"PigLine$Pairs", "withPair", "(III)I"⟩ ∈ LG := mp1 11 rfl rfl
theorem mE_X9_twinOf : Cond.selects "PigLine" ⟨"PigLine", "twinOf", "(I)I"⟩ ⟨"PigLine", "twinOf", "(I)I"⟩ ∈ LG := mp1 12 rfl rfl
theorem mE_X4_choiceAt : Cond.selects "PigLine$Pairs" ⟨"PigLine$Pairs", "choiceAt", "(II)I"⟩ ⟨"PigLine$Pairs", "choiceAt", "(II)I"⟩ ∈ LG := mp1 13 rfl rfl
theorem mE_X7_mostTruly : Cond.selects "PigLine$Spans" ⟨"PigLine$Spans", "mostTruly", "(I)I"⟩ ⟨"PigLine$Spans", "mostTruly", "(I)I"⟩ ∈ LG := mp1 14 rfl rfl
theorem mE_X7_leastTruly : Cond.selects "PigLine$Spans" ⟨"PigLine$Spans", "leastTruly", "(I)I"⟩ ⟨"PigLine$Spans", "leastTruly", "(I)I"⟩ ∈ LG := mp1 15 rfl rfl
theorem mE_X7_lastYear : Cond.selects "PigLine$Spans" ⟨"PigLine$Spans", "lastYear", "(II)I"⟩ ⟨"PigLine$Spans", "lastYear", "(II)I"⟩ ∈ LG := mp2 0 rfl rfl
theorem mE_X1_isEnough : Cond.selects "PigLine$Digs" ⟨"PigLine$Digs", "isEnough", "(I)Z"⟩ ⟨"PigLine$Digs", "isEnough", "(I)Z"⟩ ∈ LG := mp2 1 rfl rfl
theorem mE_X1_hasYear : Cond.selects "PigLine$Digs" ⟨"PigLine$Digs", "hasYear", "(II)Z"⟩ ⟨"PigLine$Digs", "hasYear", "(II)Z"⟩ ∈ LG := mp2 2 rfl rfl
theorem mE_X1_worksAheadOf : Cond.selects "PigLine$Digs" ⟨"PigLine$Digs", "worksAheadOf", "(I)I"⟩ ⟨"PigLine$Digs", "worksAheadOf", "(I)I"⟩ ∈ LG := mp2 3 rfl rfl
theorem mE_X9_digestOfRun : Cond.selects "PigLine" ⟨"PigLine", "digestOfRun", "(JLPigLine$Run;)J"⟩ ⟨"PigLine", "digestOfRun", "(JLPigLine$Run;)J"⟩ ∈ LG := mp2 4 rfl rfl
theorem mE_X10_meets : Cond.selects "PigLineModel" ⟨"PigLineModel", "meets", "(I)I"⟩ ⟨"PigLineModel", "meets", "(I)I"⟩ ∈ LG := mp2 5 rfl rfl
theorem mE_X10_lacks : Cond.selects "PigLineModel" ⟨"PigLineModel", "lacks", "(III)I"⟩ ⟨"PigLineModel", "lacks", "(III)I"⟩ ∈ LG := mp2 6 rfl rfl
theorem mE_X10_goThrough : Cond.selects "PigLineModel" ⟨"PigLineModel", "goThrough", "(I)V"⟩ ⟨"PigLineModel", "goThrough", "(I)V"⟩ ∈ LG := mp2 7 rfl rfl
theorem mE_X10_reading : Cond.selects "PigLineModel" ⟨"PigLineModel", "reading", "(II)I"⟩ ⟨"PigLineModel", "reading", "(II)I"⟩ ∈ LG := mp2 8 rfl rfl
theorem mE_X10_matches : Cond.selects "PigLineModel" ⟨"PigLineModel", "matches", "(I)V"⟩ ⟨"PigLineModel", "matches", "(I)V"⟩ ∈ LG := mp2 9 rfl rfl
theorem mE_X10_pairCost : Cond.selects "PigLineModel" ⟨"PigLineModel", "pairCost", "(II)I"⟩ ⟨"PigLineModel", "pairCost", "(II)I"⟩ ∈ LG := mp2 10 rfl rfl
theorem mE_X10_isMark : Cond.selects "PigLineModel" ⟨"PigLineModel", "isMark", "(II)Z"⟩ ⟨"PigLineModel", "isMark", "(II)Z"⟩ ∈ LG := mp2 11 rfl rfl
theorem mE_X10_jointAt : Cond.selects "PigLineModel" ⟨"PigLineModel", "jointAt", "(I)I"⟩ ⟨"PigLineModel", "jointAt", "(I)I"⟩ ∈ LG := mp2 12 rfl rfl
theorem mE_X10_joinMarks : Cond.selects "PigLineModel" ⟨"PigLineModel", "joinMarks", "(I)V"⟩ ⟨"PigLineModel", "joinMarks", "(I)V"⟩ ∈ LG := mp2 13 rfl rfl
theorem mE_X10_areNear : Cond.selects "PigLineModel" ⟨"PigLineModel", "areNear", "(II)Z"⟩ ⟨"PigLineModel", "areNear", "(II)Z"⟩ ∈ LG := mp2 14 rfl rfl
theorem mE_X10_pairs : Cond.selects "PigLineModel" ⟨"PigLineModel", "pairs", "(I)I"⟩ ⟨"PigLineModel", "pairs", "(I)I"⟩ ∈ LG := mp2 15 rfl rfl
theorem mE_X10_gather : Cond.selects "PigLineModel" ⟨"PigLineModel", "gather", "(I)V"⟩ ⟨"PigLineModel", "gather", "(I)V"⟩ ∈ LG := mp3 0 rfl rfl
theorem mE_X10_choiceCost : Cond.selects "PigLineModel" ⟨"PigLineModel", "choiceCost", "()I"⟩ ⟨"PigLineModel", "choiceCost", "()I"⟩ ∈ LG := mp3 1 rfl rfl
theorem mE_X10_choosesOn : Cond.selects "PigLineModel" ⟨"PigLineModel", "choosesOn", "()Z"⟩ ⟨"PigLineModel", "choosesOn", "()Z"⟩ ∈ LG := mp3 2 rfl rfl
theorem mE_X10_twinOf : Cond.selects "PigLineModel" ⟨"PigLineModel", "twinOf", "(I)I"⟩ ⟨"PigLineModel", "twinOf", "(I)I"⟩ ∈ LG := mp3 3 rfl rfl
theorem mE_X10_lowOf : Cond.selects "PigLineModel" ⟨"PigLineModel", "lowOf", "(I)I"⟩ ⟨"PigLineModel", "lowOf", "(I)I"⟩ ∈ LG := mp3 4 rfl rfl
theorem mE_X10_highOf : Cond.selects "PigLineModel" ⟨"PigLineModel", "highOf", "(I)I"⟩ ⟨"PigLineModel", "highOf", "(I)I"⟩ ∈ LG := mp3 5 rfl rfl
theorem mE_X10_planned : Cond.selects "PigLineModel" ⟨"PigLineModel", "planned", "()I"⟩ ⟨"PigLineModel", "planned", "()I"⟩ ∈ LG := mp3 6 rfl rfl
theorem mE_X10_willDo : Cond.selects "PigLineModel" ⟨"PigLineModel", "willDo", "(I)Z"⟩ ⟨"PigLineModel", "willDo", "(I)Z"⟩ ∈ LG := mp3 7 rfl rfl
theorem mE_X10_mayOpen : Cond.selects "PigLineModel" ⟨"PigLineModel", "mayOpen", "(I)Z"⟩ ⟨"PigLineModel", "mayOpen", "(I)Z"⟩ ∈ LG := mp3 8 rfl rfl
theorem ly_X0_0 : u_lay RX0 TX0 0 ∈ LG := mg1 153 rfl rfl
theorem ly_X0_1 : u_lay RX0 TX0 1 ∈ LG := mg1 155 rfl rfl
theorem ly_X0_2 : u_lay RX0 TX0 2 ∈ LG := mg1 157 rfl rfl
theorem ly_X0_3 : u_lay RX0 TX0 3 ∈ LG := mg1 159 rfl rfl
theorem ly_X0_4 : u_lay RX0 TX0 4 ∈ LG := mg1 161 rfl rfl
theorem ly_X0 : ∀ w ∈ u_ws RX0 TX0 5, w ∈ LG := by
  have h : ∀ w ∈ [u_lay RX0 TX0 0, u_lay RX0 TX0 1, u_lay RX0 TX0 2, u_lay RX0 TX0 3, u_lay RX0 TX0 4], w ∈ LG := List.forall_mem_cons.mpr ⟨ly_X0_0, List.forall_mem_cons.mpr ⟨ly_X0_1, List.forall_mem_cons.mpr ⟨ly_X0_2, List.forall_mem_cons.mpr ⟨ly_X0_3, List.forall_mem_cons.mpr ⟨ly_X0_4, List.forall_mem_nil _⟩⟩⟩⟩⟩
  exact h
theorem ly_X1_0 : u_lay RX1 TX1 0 ∈ LG := mg2 1 rfl rfl
theorem ly_X1_1 : u_lay RX1 TX1 1 ∈ LG := mg2 3 rfl rfl
theorem ly_X1_2 : u_lay RX1 TX1 2 ∈ LG := mg2 5 rfl rfl
theorem ly_X1_3 : u_lay RX1 TX1 3 ∈ LG := mg2 7 rfl rfl
theorem ly_X1_4 : u_lay RX1 TX1 4 ∈ LG := mg2 9 rfl rfl
theorem ly_X1_5 : u_lay RX1 TX1 5 ∈ LG := mg2 11 rfl rfl
theorem ly_X1 : ∀ w ∈ u_ws RX1 TX1 6, w ∈ LG := by
  have h : ∀ w ∈ [u_lay RX1 TX1 0, u_lay RX1 TX1 1, u_lay RX1 TX1 2, u_lay RX1 TX1 3, u_lay RX1 TX1 4, u_lay RX1 TX1 5], w ∈ LG := List.forall_mem_cons.mpr ⟨ly_X1_0, List.forall_mem_cons.mpr ⟨ly_X1_1, List.forall_mem_cons.mpr ⟨ly_X1_2, List.forall_mem_cons.mpr ⟨ly_X1_3, List.forall_mem_cons.mpr ⟨ly_X1_4, List.forall_mem_cons.mpr ⟨ly_X1_5, List.forall_mem_nil _⟩⟩⟩⟩⟩⟩
  exact h
theorem ly_X2_0 : u_lay RX2 TX2 0 ∈ LG := mg1 184 rfl rfl
theorem ly_X2_1 : u_lay RX2 TX2 1 ∈ LG := mg1 186 rfl rfl
theorem ly_X2_2 : u_lay RX2 TX2 2 ∈ LG := mg1 188 rfl rfl
theorem ly_X2_3 : u_lay RX2 TX2 3 ∈ LG := mg1 190 rfl rfl
theorem ly_X2 : ∀ w ∈ u_ws RX2 TX2 4, w ∈ LG := by
  have h : ∀ w ∈ [u_lay RX2 TX2 0, u_lay RX2 TX2 1, u_lay RX2 TX2 2, u_lay RX2 TX2 3], w ∈ LG := List.forall_mem_cons.mpr ⟨ly_X2_0, List.forall_mem_cons.mpr ⟨ly_X2_1, List.forall_mem_cons.mpr ⟨ly_X2_2, List.forall_mem_cons.mpr ⟨ly_X2_3, List.forall_mem_nil _⟩⟩⟩⟩
  exact h
theorem ly_X3_0 : u_lay RX3 TX3 0 ∈ LG := mg1 72 rfl rfl
theorem ly_X3_1 : u_lay RX3 TX3 1 ∈ LG := mg1 74 rfl rfl
theorem ly_X3_2 : u_lay RX3 TX3 2 ∈ LG := mg1 76 rfl rfl
theorem ly_X3_3 : u_lay RX3 TX3 3 ∈ LG := mg1 78 rfl rfl
theorem ly_X3_4 : u_lay RX3 TX3 4 ∈ LG := mg1 80 rfl rfl
theorem ly_X3_5 : u_lay RX3 TX3 5 ∈ LG := mg1 82 rfl rfl
theorem ly_X3_6 : u_lay RX3 TX3 6 ∈ LG := mg1 84 rfl rfl
theorem ly_X3_7 : u_lay RX3 TX3 7 ∈ LG := mg1 86 rfl rfl
theorem ly_X3 : ∀ w ∈ u_ws RX3 TX3 8, w ∈ LG := by
  have h : ∀ w ∈ [u_lay RX3 TX3 0, u_lay RX3 TX3 1, u_lay RX3 TX3 2, u_lay RX3 TX3 3, u_lay RX3 TX3 4, u_lay RX3 TX3 5, u_lay RX3 TX3 6, u_lay RX3 TX3 7], w ∈ LG := List.forall_mem_cons.mpr ⟨ly_X3_0, List.forall_mem_cons.mpr ⟨ly_X3_1, List.forall_mem_cons.mpr ⟨ly_X3_2, List.forall_mem_cons.mpr ⟨ly_X3_3, List.forall_mem_cons.mpr ⟨ly_X3_4, List.forall_mem_cons.mpr ⟨ly_X3_5, List.forall_mem_cons.mpr ⟨ly_X3_6, List.forall_mem_cons.mpr ⟨ly_X3_7, List.forall_mem_nil _⟩⟩⟩⟩⟩⟩⟩⟩
  exact h
theorem ly_X4_0 : u_lay RX4 TX4 0 ∈ LG := mg1 198 rfl rfl
theorem ly_X4_1 : u_lay RX4 TX4 1 ∈ LG := mg1 200 rfl rfl
theorem ly_X4_2 : u_lay RX4 TX4 2 ∈ LG := mg1 202 rfl rfl
theorem ly_X4_3 : u_lay RX4 TX4 3 ∈ LG := mg1 204 rfl rfl
theorem ly_X4 : ∀ w ∈ u_ws RX4 TX4 4, w ∈ LG := by
  have h : ∀ w ∈ [u_lay RX4 TX4 0, u_lay RX4 TX4 1, u_lay RX4 TX4 2, u_lay RX4 TX4 3], w ∈ LG := List.forall_mem_cons.mpr ⟨ly_X4_0, List.forall_mem_cons.mpr ⟨ly_X4_1, List.forall_mem_cons.mpr ⟨ly_X4_2, List.forall_mem_cons.mpr ⟨ly_X4_3, List.forall_mem_nil _⟩⟩⟩⟩
  exact h
theorem ly_X5_0 : u_lay RX5 TX5 0 ∈ LG := mg1 42 rfl rfl
theorem ly_X5_1 : u_lay RX5 TX5 1 ∈ LG := mg1 44 rfl rfl
theorem ly_X5_2 : u_lay RX5 TX5 2 ∈ LG := mg1 46 rfl rfl
theorem ly_X5 : ∀ w ∈ u_ws RX5 TX5 3, w ∈ LG := by
  have h : ∀ w ∈ [u_lay RX5 TX5 0, u_lay RX5 TX5 1, u_lay RX5 TX5 2], w ∈ LG := List.forall_mem_cons.mpr ⟨ly_X5_0, List.forall_mem_cons.mpr ⟨ly_X5_1, List.forall_mem_cons.mpr ⟨ly_X5_2, List.forall_mem_nil _⟩⟩⟩
  exact h
theorem ly_X6_0 : u_lay RX6 TX6 0 ∈ LG := mg1 114 rfl rfl
theorem ly_X6_1 : u_lay RX6 TX6 1 ∈ LG := mg1 116 rfl rfl
theorem ly_X6_2 : u_lay RX6 TX6 2 ∈ LG := mg1 118 rfl rfl
theorem ly_X6_3 : u_lay RX6 TX6 3 ∈ LG := mg1 120 rfl rfl
theorem ly_X6_4 : u_lay RX6 TX6 4 ∈ LG := mg1 122 rfl rfl
theorem ly_X6_5 : u_lay RX6 TX6 5 ∈ LG := mg1 124 rfl rfl
theorem ly_X6_6 : u_lay RX6 TX6 6 ∈ LG := mg1 126 rfl rfl
theorem ly_X6_7 : u_lay RX6 TX6 7 ∈ LG := mg1 128 rfl rfl
theorem ly_X6_8 : u_lay RX6 TX6 8 ∈ LG := mg1 130 rfl rfl
theorem ly_X6_9 : u_lay RX6 TX6 9 ∈ LG := mg1 132 rfl rfl
theorem ly_X6_10 : u_lay RX6 TX6 10 ∈ LG := mg1 134 rfl rfl
theorem ly_X6_11 : u_lay RX6 TX6 11 ∈ LG := mg1 136 rfl rfl
theorem ly_X6 : ∀ w ∈ u_ws RX6 TX6 12, w ∈ LG := by
  have h : ∀ w ∈ [u_lay RX6 TX6 0, u_lay RX6 TX6 1, u_lay RX6 TX6 2, u_lay RX6 TX6 3, u_lay RX6 TX6 4, u_lay RX6 TX6 5, u_lay RX6 TX6 6, u_lay RX6 TX6 7, u_lay RX6 TX6 8, u_lay RX6 TX6 9, u_lay RX6 TX6 10, u_lay RX6 TX6 11], w ∈ LG := List.forall_mem_cons.mpr ⟨ly_X6_0, List.forall_mem_cons.mpr ⟨ly_X6_1, List.forall_mem_cons.mpr ⟨ly_X6_2, List.forall_mem_cons.mpr ⟨ly_X6_3, List.forall_mem_cons.mpr ⟨ly_X6_4, List.forall_mem_cons.mpr ⟨ly_X6_5, List.forall_mem_cons.mpr ⟨ly_X6_6, List.forall_mem_cons.mpr ⟨ly_X6_7, List.forall_mem_cons.mpr ⟨ly_X6_8, List.forall_mem_cons.mpr ⟨ly_X6_9, List.forall_mem_cons.mpr ⟨ly_X6_10, List.forall_mem_cons.mpr ⟨ly_X6_11, List.forall_mem_nil _⟩⟩⟩⟩⟩⟩⟩⟩⟩⟩⟩⟩
  exact h
theorem ly_X7_0 : u_lay RX7 TX7 0 ∈ LG := mg1 219 rfl rfl
theorem ly_X7_1 : u_lay RX7 TX7 1 ∈ LG := mg1 221 rfl rfl
theorem ly_X7_2 : u_lay RX7 TX7 2 ∈ LG := mg1 223 rfl rfl
theorem ly_X7 : ∀ w ∈ u_ws RX7 TX7 3, w ∈ LG := by
  have h : ∀ w ∈ [u_lay RX7 TX7 0, u_lay RX7 TX7 1, u_lay RX7 TX7 2], w ∈ LG := List.forall_mem_cons.mpr ⟨ly_X7_0, List.forall_mem_cons.mpr ⟨ly_X7_1, List.forall_mem_cons.mpr ⟨ly_X7_2, List.forall_mem_nil _⟩⟩⟩
  exact h
theorem ly_X8_0 : u_lay RX8 TX8 0 ∈ LG := mg2 24 rfl rfl
theorem ly_X8_1 : u_lay RX8 TX8 1 ∈ LG := mg2 26 rfl rfl
theorem ly_X8 : ∀ w ∈ u_ws RX8 TX8 2, w ∈ LG := by
  have h : ∀ w ∈ [u_lay RX8 TX8 0, u_lay RX8 TX8 1], w ∈ LG := List.forall_mem_cons.mpr ⟨ly_X8_0, List.forall_mem_cons.mpr ⟨ly_X8_1, List.forall_mem_nil _⟩⟩
  exact h
theorem ly_X9_0 : u_lay RX9 TX9 0 ∈ LG := mg2 39 rfl rfl
theorem ly_X9_1 : u_lay RX9 TX9 1 ∈ LG := mg2 41 rfl rfl
theorem ly_X9_2 : u_lay RX9 TX9 2 ∈ LG := mg2 43 rfl rfl
theorem ly_X9_3 : u_lay RX9 TX9 3 ∈ LG := mg2 45 rfl rfl
theorem ly_X9_4 : u_lay RX9 TX9 4 ∈ LG := mg2 47 rfl rfl
theorem ly_X9_5 : u_lay RX9 TX9 5 ∈ LG := mg2 49 rfl rfl
theorem ly_X9_6 : u_lay RX9 TX9 6 ∈ LG := mg2 51 rfl rfl
theorem ly_X9_7 : u_lay RX9 TX9 7 ∈ LG := mg2 53 rfl rfl
theorem ly_X9_8 : u_lay RX9 TX9 8 ∈ LG := mg2 55 rfl rfl
theorem ly_X9_9 : u_lay RX9 TX9 9 ∈ LG := mg2 57 rfl rfl
theorem ly_X9 : ∀ w ∈ u_ws RX9 TX9 10, w ∈ LG := by
  have h : ∀ w ∈ [u_lay RX9 TX9 0, u_lay RX9 TX9 1, u_lay RX9 TX9 2, u_lay RX9 TX9 3, u_lay RX9 TX9 4, u_lay RX9 TX9 5, u_lay RX9 TX9 6, u_lay RX9 TX9 7, u_lay RX9 TX9 8, u_lay RX9 TX9 9], w ∈ LG := List.forall_mem_cons.mpr ⟨ly_X9_0, List.forall_mem_cons.mpr ⟨ly_X9_1, List.forall_mem_cons.mpr ⟨ly_X9_2, List.forall_mem_cons.mpr ⟨ly_X9_3, List.forall_mem_cons.mpr ⟨ly_X9_4, List.forall_mem_cons.mpr ⟨ly_X9_5, List.forall_mem_cons.mpr ⟨ly_X9_6, List.forall_mem_cons.mpr ⟨ly_X9_7, List.forall_mem_cons.mpr ⟨ly_X9_8, List.forall_mem_cons.mpr ⟨ly_X9_9, List.forall_mem_nil _⟩⟩⟩⟩⟩⟩⟩⟩⟩⟩
  exact h
theorem ly_X10_0 : u_lay RX10 TX10 0 ∈ LG := mg4 38 rfl rfl
theorem ly_X10_1 : u_lay RX10 TX10 1 ∈ LG := mg4 40 rfl rfl
theorem ly_X10_2 : u_lay RX10 TX10 2 ∈ LG := mg4 42 rfl rfl
theorem ly_X10_3 : u_lay RX10 TX10 3 ∈ LG := mg4 44 rfl rfl
theorem ly_X10_4 : u_lay RX10 TX10 4 ∈ LG := mg4 46 rfl rfl
theorem ly_X10_5 : u_lay RX10 TX10 5 ∈ LG := mg4 48 rfl rfl
theorem ly_X10_6 : u_lay RX10 TX10 6 ∈ LG := mg4 50 rfl rfl
theorem ly_X10_7 : u_lay RX10 TX10 7 ∈ LG := mg4 52 rfl rfl
theorem ly_X10_8 : u_lay RX10 TX10 8 ∈ LG := mg4 54 rfl rfl
theorem ly_X10_9 : u_lay RX10 TX10 9 ∈ LG := mg4 56 rfl rfl
theorem ly_X10_10 : u_lay RX10 TX10 10 ∈ LG := mg4 58 rfl rfl
theorem ly_X10_11 : u_lay RX10 TX10 11 ∈ LG := mg4 60 rfl rfl
theorem ly_X10_12 : u_lay RX10 TX10 12 ∈ LG := mg4 62 rfl rfl
theorem ly_X10_13 : u_lay RX10 TX10 13 ∈ LG := mg4 64 rfl rfl
theorem ly_X10_14 : u_lay RX10 TX10 14 ∈ LG := mg4 66 rfl rfl
theorem ly_X10_15 : u_lay RX10 TX10 15 ∈ LG := mg4 68 rfl rfl
theorem ly_X10_16 : u_lay RX10 TX10 16 ∈ LG := mg4 70 rfl rfl
theorem ly_X10_17 : u_lay RX10 TX10 17 ∈ LG := mg4 72 rfl rfl
theorem ly_X10_18 : u_lay RX10 TX10 18 ∈ LG := mg4 74 rfl rfl
theorem ly_X10_19 : u_lay RX10 TX10 19 ∈ LG := mg4 76 rfl rfl
theorem ly_X10_20 : u_lay RX10 TX10 20 ∈ LG := mg4 78 rfl rfl
theorem ly_X10_21 : u_lay RX10 TX10 21 ∈ LG := mg4 80 rfl rfl
theorem ly_X10_22 : u_lay RX10 TX10 22 ∈ LG := mg4 82 rfl rfl
theorem ly_X10_23 : u_lay RX10 TX10 23 ∈ LG := mg4 84 rfl rfl
theorem ly_X10_24 : u_lay RX10 TX10 24 ∈ LG := mg4 86 rfl rfl
theorem ly_X10_25 : u_lay RX10 TX10 25 ∈ LG := mg4 88 rfl rfl
theorem ly_X10_26 : u_lay RX10 TX10 26 ∈ LG := mg4 90 rfl rfl
theorem ly_X10_27 : u_lay RX10 TX10 27 ∈ LG := mg4 92 rfl rfl
theorem ly_X10_28 : u_lay RX10 TX10 28 ∈ LG := mg4 94 rfl rfl
theorem ly_X10_29 : u_lay RX10 TX10 29 ∈ LG := mg4 96 rfl rfl
theorem ly_X10_30 : u_lay RX10 TX10 30 ∈ LG := mg4 98 rfl rfl
theorem ly_X10_31 : u_lay RX10 TX10 31 ∈ LG := mg4 100 rfl rfl
theorem ly_X10_32 : u_lay RX10 TX10 32 ∈ LG := mg4 102 rfl rfl
theorem ly_X10_33 : u_lay RX10 TX10 33 ∈ LG := mg4 104 rfl rfl
theorem ly_X10_34 : u_lay RX10 TX10 34 ∈ LG := mg4 106 rfl rfl
theorem ly_X10_35 : u_lay RX10 TX10 35 ∈ LG := mg4 108 rfl rfl
theorem ly_X10_36 : u_lay RX10 TX10 36 ∈ LG := mg4 110 rfl rfl
theorem ly_X10_37 : u_lay RX10 TX10 37 ∈ LG := mg4 112 rfl rfl
theorem ly_X10_38 : u_lay RX10 TX10 38 ∈ LG := mg4 114 rfl rfl
theorem ly_X10_39 : u_lay RX10 TX10 39 ∈ LG := mg4 116 rfl rfl
theorem ly_X10_40 : u_lay RX10 TX10 40 ∈ LG := mg4 118 rfl rfl
theorem ly_X10_41 : u_lay RX10 TX10 41 ∈ LG := mg4 120 rfl rfl
theorem ly_X10_42 : u_lay RX10 TX10 42 ∈ LG := mg4 122 rfl rfl
theorem ly_X10 : ∀ w ∈ u_ws RX10 TX10 43, w ∈ LG := by
  have h : ∀ w ∈ [u_lay RX10 TX10 0, u_lay RX10 TX10 1, u_lay RX10 TX10 2, u_lay RX10 TX10 3, u_lay RX10 TX10 4, u_lay RX10 TX10 5, u_lay RX10 TX10 6, u_lay RX10 TX10 7, u_lay RX10 TX10 8, u_lay RX10 TX10 9, u_lay RX10 TX10 10, u_lay RX10 TX10 11, u_lay RX10 TX10 12, u_lay RX10 TX10 13, u_lay RX10 TX10 14, u_lay RX10 TX10 15, u_lay RX10 TX10 16, u_lay RX10 TX10 17, u_lay RX10 TX10 18, u_lay RX10 TX10 19, u_lay RX10 TX10 20, u_lay RX10 TX10 21, u_lay RX10 TX10 22, u_lay RX10 TX10 23, u_lay RX10 TX10 24, u_lay RX10 TX10 25, u_lay RX10 TX10 26, u_lay RX10 TX10 27, u_lay RX10 TX10 28, u_lay RX10 TX10 29, u_lay RX10 TX10 30, u_lay RX10 TX10 31, u_lay RX10 TX10 32, u_lay RX10 TX10 33, u_lay RX10 TX10 34, u_lay RX10 TX10 35, u_lay RX10 TX10 36, u_lay RX10 TX10 37, u_lay RX10 TX10 38, u_lay RX10 TX10 39, u_lay RX10 TX10 40, u_lay RX10 TX10 41, u_lay RX10 TX10 42], w ∈ LG := List.forall_mem_cons.mpr ⟨ly_X10_0, List.forall_mem_cons.mpr ⟨ly_X10_1, List.forall_mem_cons.mpr ⟨ly_X10_2, List.forall_mem_cons.mpr ⟨ly_X10_3, List.forall_mem_cons.mpr ⟨ly_X10_4, List.forall_mem_cons.mpr ⟨ly_X10_5, List.forall_mem_cons.mpr ⟨ly_X10_6, List.forall_mem_cons.mpr ⟨ly_X10_7, List.forall_mem_cons.mpr ⟨ly_X10_8, List.forall_mem_cons.mpr ⟨ly_X10_9, List.forall_mem_cons.mpr ⟨ly_X10_10, List.forall_mem_cons.mpr ⟨ly_X10_11, List.forall_mem_cons.mpr ⟨ly_X10_12, List.forall_mem_cons.mpr ⟨ly_X10_13, List.forall_mem_cons.mpr ⟨ly_X10_14, List.forall_mem_cons.mpr ⟨ly_X10_15, List.forall_mem_cons.mpr ⟨ly_X10_16, List.forall_mem_cons.mpr ⟨ly_X10_17, List.forall_mem_cons.mpr ⟨ly_X10_18, List.forall_mem_cons.mpr ⟨ly_X10_19, List.forall_mem_cons.mpr ⟨ly_X10_20, List.forall_mem_cons.mpr ⟨ly_X10_21, List.forall_mem_cons.mpr ⟨ly_X10_22, List.forall_mem_cons.mpr ⟨ly_X10_23, List.forall_mem_cons.mpr ⟨ly_X10_24, List.forall_mem_cons.mpr ⟨ly_X10_25, List.forall_mem_cons.mpr ⟨ly_X10_26, List.forall_mem_cons.mpr ⟨ly_X10_27, List.forall_mem_cons.mpr ⟨ly_X10_28, List.forall_mem_cons.mpr ⟨ly_X10_29, List.forall_mem_cons.mpr ⟨ly_X10_30, List.forall_mem_cons.mpr ⟨ly_X10_31, List.forall_mem_cons.mpr ⟨ly_X10_32, List.forall_mem_cons.mpr ⟨ly_X10_33, List.forall_mem_cons.mpr ⟨ly_X10_34, List.forall_mem_cons.mpr ⟨ly_X10_35, List.forall_mem_cons.mpr ⟨ly_X10_36, List.forall_mem_cons.mpr ⟨ly_X10_37, List.forall_mem_cons.mpr ⟨ly_X10_38, List.forall_mem_cons.mpr ⟨ly_X10_39, List.forall_mem_cons.mpr ⟨ly_X10_40, List.forall_mem_cons.mpr ⟨ly_X10_41, List.forall_mem_cons.mpr ⟨ly_X10_42, List.forall_mem_nil _⟩⟩⟩⟩⟩⟩⟩⟩⟩⟩⟩⟩⟩⟩⟩⟩⟩⟩⟩⟩⟩⟩⟩⟩⟩⟩⟩⟩⟩⟩⟩⟩⟩⟩⟩⟩⟩⟩⟩⟩⟩⟩⟩
  exact h
end
section
def dtab (cc : ByteArray) (t : List (Nat × Instr × Nat)) : Bool := t.all (fun q => decide (decode cc q.1 = .ok q.2))
theorem dtab_at {cc : ByteArray} {t : List (Nat × Instr × Nat)} (h : dtab cc t = true) (i : Nat) {pc len : Nat} {ins : Instr} (hi : t[i]? = some (pc, ins, len)) : decode cc pc = .ok (ins, len) := of_decide_eq_true (List.all_eq_true.mp h (pc, ins, len) (List.mem_of_getElem? hi))
def tX0_init : List (Nat × Instr × Nat) := [(0, .aload_n 0, 1), (1, .invokespecial 3, 3), (4, .aload_n 0, 1), (5, .bipush 40, 2), (7, .newarray .int, 2), (9, .putfield 9, 3), (12, .aload_n 0, 1), (13, .sipush 2501, 3), (16, .newarray .int, 2), (18, .putfield 15, 3), (21, .aload_n 0, 1), (22, .iconst 0, 1), (23, .putfield 18, 3), (26, .aload_n 0, 1), (27, .bipush 100, 2), (29, .putfield 22, 3), (32, .aload_n 0, 1), (33, .bipush 100, 2), (35, .putfield 25, 3), (38, .return_, 1)]
set_option maxRecDepth 100000 in
theorem okX0_init : dtab cX0_init tX0_init = true := by decide +kernel
def tX0_hasJoint : List (Nat × Instr × Nat) := [(0, .iload_n 1, 1), (1, .ifCond .lt 15, 3), (4, .iload_n 1, 1), (5, .aload_n 0, 1), (6, .getfield 18, 3), (9, .if_icmp .ge 7, 3), (12, .iconst 1, 1), (13, .goto 4, 3), (16, .iconst 0, 1), (17, .ireturn, 1)]
set_option maxRecDepth 100000 in
theorem okX0_hasJoint : dtab cX0_hasJoint tX0_hasJoint = true := by decide +kernel
def tX0_add : List (Nat × Instr × Nat) := [(0, .aload_n 0, 1), (1, .getfield 18, 3), (4, .bipush 40, 2), (6, .if_icmp .lt 6, 3), (9, .bipush (-3), 2), (11, .ireturn, 1), (12, .aload_n 0, 1), (13, .getfield 9, 3), (16, .aload_n 0, 1), (17, .getfield 18, 3), (20, .iload_n 1, 1), (21, .iastore, 1), (22, .aload_n 0, 1), (23, .dup, 1), (24, .getfield 18, 3), (27, .iconst 1, 1), (28, .iadd, 1), (29, .putfield 18, 3), (32, .aload_n 0, 1), (33, .getfield 18, 3), (36, .iconst 1, 1), (37, .isub, 1), (38, .ireturn, 1)]
set_option maxRecDepth 100000 in
theorem okX0_add : dtab cX0_add tX0_add = true := by decide +kernel
def tX0_leastCost : List (Nat × Instr × Nat) := [(0, .iconst 0, 1), (1, .istore_n 2, 1), (2, .iload_n 2, 1), (3, .aload_n 1, 1), (4, .getfield 28, 3), (7, .if_icmp .gt 21, 3), (10, .aload_n 0, 1), (11, .getfield 15, 3), (14, .iload_n 2, 1), (15, .iload_n 2, 1), (16, .aload_n 0, 1), (17, .getfield 25, 3), (20, .imul, 1), (21, .iastore, 1), (22, .iinc 2 1, 3), (25, .goto (-23), 3), (28, .iconst 1, 1), (29, .istore_n 2, 1), (30, .iload_n 2, 1), (31, .aload_n 0, 1), (32, .getfield 18, 3), (35, .if_icmp .gt 104, 3), (38, .iload_n 2, 1), (39, .bipush 61, 2), (41, .imul, 1), (42, .istore_n 3, 1), (43, .aload_n 0, 1), (44, .getfield 15, 3), (47, .iload_n 3, 1), (48, .iload_n 2, 1), (49, .aload_n 0, 1), (50, .getfield 22, 3), (53, .imul, 1), (54, .iastore, 1), (55, .iconst 1, 1), (56, .istore 4, 2), (58, .iload 4, 2), (60, .aload_n 1, 1), (61, .getfield 28, 3), (64, .if_icmp .gt 69, 3), (67, .aload_n 0, 1), (68, .getfield 15, 3), (71, .iload_n 3, 1), (72, .bipush 61, 2), (74, .isub, 1), (75, .iload 4, 2), (77, .iadd, 1), (78, .iaload, 1), (79, .aload_n 0, 1), (80, .getfield 22, 3), (83, .iadd, 1), (84, .aload_n 0, 1), (85, .getfield 15, 3), (88, .iload_n 3, 1), (89, .iload 4, 2), (91, .iadd, 1), (92, .iconst 1, 1), (93, .isub, 1), (94, .iaload, 1), (95, .aload_n 0, 1), (96, .getfield 25, 3), (99, .iadd, 1), (100, .invokestatic 33, 3), (103, .istore 5, 2), (105, .aload_n 0, 1), (106, .getfield 15, 3), (109, .iload_n 3, 1), (110, .iload 4, 2), (112, .iadd, 1), (113, .aload_n 0, 1), (114, .aload_n 1, 1), (115, .iload_n 2, 1), (116, .iload 4, 2), (118, .invokevirtual 39, 3), (121, .iload 5, 2), (123, .invokestatic 33, 3), (126, .iastore, 1), (127, .iinc 4 1, 3), (130, .goto (-72), 3), (133, .iinc 2 1, 3), (136, .goto (-106), 3), (139, .aload_n 0, 1), (140, .getfield 15, 3), (143, .aload_n 0, 1), (144, .getfield 18, 3), (147, .bipush 61, 2), (149, .imul, 1), (150, .aload_n 1, 1), (151, .getfield 28, 3), (154, .iadd, 1), (155, .iaload, 1), (156, .ireturn, 1)]
set_option maxRecDepth 100000 in
theorem okX0_leastCost : dtab cX0_leastCost tX0_leastCost = true := by decide +kernel
def tX0_withPair : List (Nat × Instr × Nat) := [(0, .aload_n 0, 1), (1, .getfield 15, 3), (4, .iload_n 2, 1), (5, .iconst 1, 1), (6, .isub, 1), (7, .bipush 61, 2), (9, .imul, 1), (10, .iload_n 3, 1), (11, .iadd, 1), (12, .iconst 1, 1), (13, .isub, 1), (14, .iaload, 1), (15, .aload_n 0, 1), (16, .getfield 9, 3), (19, .iload_n 2, 1), (20, .iconst 1, 1), (21, .isub, 1), (22, .iaload, 1), (23, .aload_n 1, 1), (24, .getfield 43, 3), (27, .iload_n 3, 1), (28, .iconst 1, 1), (29, .isub, 1), (30, .iaload, 1), (31, .isub, 1), (32, .invokestatic 44, 3), (35, .iadd, 1), (36, .ireturn, 1)]
set_option maxRecDepth 100000 in
theorem okX0_withPair : dtab cX0_withPair tX0_withPair = true := by decide +kernel
def tX0_pairUp : List (Nat × Instr × Nat) := [(0, .aload_n 0, 1), (1, .aload_n 1, 1), (2, .invokevirtual 48, 3), (5, .pop, 1), (6, .aload_n 1, 1), (7, .getfield 28, 3), (10, .istore_n 2, 1), (11, .aload_n 0, 1), (12, .getfield 18, 3), (15, .istore_n 3, 1), (16, .iload_n 3, 1), (17, .ifCond .le 68, 3), (20, .aload_n 0, 1), (21, .aload_n 1, 1), (22, .iload_n 3, 1), (23, .iload_n 2, 1), (24, .invokevirtual 52, 3), (27, .istore_n 2, 1), (28, .iload_n 2, 1), (29, .ifCond .le 41, 3), (32, .aload_n 0, 1), (33, .getfield 15, 3), (36, .iload_n 3, 1), (37, .bipush 61, 2), (39, .imul, 1), (40, .iload_n 2, 1), (41, .iadd, 1), (42, .iaload, 1), (43, .aload_n 0, 1), (44, .aload_n 1, 1), (45, .iload_n 3, 1), (46, .iload_n 2, 1), (47, .invokevirtual 39, 3), (50, .if_icmp .ne 20, 3), (53, .aload_n 1, 1), (54, .getfield 55, 3), (57, .iload_n 3, 1), (58, .iconst 1, 1), (59, .isub, 1), (60, .iload_n 2, 1), (61, .iconst 1, 1), (62, .isub, 1), (63, .iastore, 1), (64, .iinc 2 (-1), 3), (67, .goto 12, 3), (70, .aload_n 1, 1), (71, .getfield 55, 3), (74, .iload_n 3, 1), (75, .iconst 1, 1), (76, .isub, 1), (77, .iconst (-1), 1), (78, .iastore, 1), (79, .iinc 3 (-1), 3), (82, .goto (-66), 3), (85, .return_, 1)]
set_option maxRecDepth 100000 in
theorem okX0_pairUp : dtab cX0_pairUp tX0_pairUp = true := by decide +kernel
def tX0_lastFeltNotLeftOut : List (Nat × Instr × Nat) := [(0, .iload_n 3, 1), (1, .istore 4, 2), (3, .iload 4, 2), (5, .ifCond .le 63, 3), (8, .aload_n 0, 1), (9, .getfield 15, 3), (12, .iload_n 2, 1), (13, .bipush 61, 2), (15, .imul, 1), (16, .iload 4, 2), (18, .iadd, 1), (19, .iaload, 1), (20, .istore 5, 2), (22, .iload 5, 2), (24, .aload_n 0, 1), (25, .aload_n 1, 1), (26, .iload_n 2, 1), (27, .iload 4, 2), (29, .invokevirtual 39, 3), (32, .if_icmp .eq 27, 3), (35, .iload 5, 2), (37, .aload_n 0, 1), (38, .getfield 15, 3), (41, .iload_n 2, 1), (42, .iconst 1, 1), (43, .isub, 1), (44, .bipush 61, 2), (46, .imul, 1), (47, .iload 4, 2), (49, .iadd, 1), (50, .iaload, 1), (51, .aload_n 0, 1), (52, .getfield 22, 3), (55, .iadd, 1), (56, .if_icmp .ne 6, 3), (59, .iload 4, 2), (61, .ireturn, 1), (62, .iinc 4 (-1), 3), (65, .goto (-62), 3), (68, .iconst 0, 1), (69, .ireturn, 1)]
set_option maxRecDepth 100000 in
theorem okX0_lastFeltNotLeftOut : dtab cX0_lastFeltNotLeftOut tX0_lastFeltNotLeftOut = true := by decide +kernel
def tX0_jointPairedWith : List (Nat × Instr × Nat) := [(0, .iconst 0, 1), (1, .istore_n 3, 1), (2, .iload_n 3, 1), (3, .aload_n 0, 1), (4, .getfield 18, 3), (7, .if_icmp .ge 26, 3), (10, .iload_n 2, 1), (11, .iconst (-1), 1), (12, .if_icmp .eq 21, 3), (15, .aload_n 1, 1), (16, .getfield 55, 3), (19, .iload_n 3, 1), (20, .iaload, 1), (21, .iload_n 2, 1), (22, .if_icmp .ne 5, 3), (25, .iload_n 3, 1), (26, .ireturn, 1), (27, .iinc 3 1, 3), (30, .goto (-28), 3), (33, .iconst (-1), 1), (34, .ireturn, 1)]
set_option maxRecDepth 100000 in
theorem okX0_jointPairedWith : dtab cX0_jointPairedWith tX0_jointPairedWith = true := by decide +kernel
def tX1_init : List (Nat × Instr × Nat) := [(0, .aload_n 0, 1), (1, .invokespecial 3, 3), (4, .aload_n 0, 1), (5, .bipush 30, 2), (7, .newarray .int, 2), (9, .putfield 9, 3), (12, .aload_n 0, 1), (13, .bipush 9, 2), (15, .newarray .int, 2), (17, .putfield 15, 3), (20, .aload_n 0, 1), (21, .iconst 4, 1), (22, .putfield 18, 3), (25, .aload_n 0, 1), (26, .sipush 500, 3), (29, .putfield 22, 3), (32, .return_, 1)]
set_option maxRecDepth 100000 in
theorem okX1_init : dtab cX1_init tX1_init = true := by decide +kernel
def tX1_add : List (Nat × Instr × Nat) := [(0, .aload_n 0, 1), (1, .getfield 25, 3), (4, .bipush 30, 2), (6, .if_icmp .lt 6, 3), (9, .bipush (-3), 2), (11, .ireturn, 1), (12, .aload_n 0, 1), (13, .getfield 9, 3), (16, .aload_n 0, 1), (17, .getfield 25, 3), (20, .iload_n 2, 1), (21, .iastore, 1), (22, .aload_n 0, 1), (23, .getfield 15, 3), (26, .iload_n 2, 1), (27, .dup2, 1), (28, .iaload, 1), (29, .iconst 1, 1), (30, .iadd, 1), (31, .iastore, 1), (32, .aload_n 0, 1), (33, .dup, 1), (34, .getfield 28, 3), (37, .iload_n 1, 1), (38, .iadd, 1), (39, .putfield 28, 3), (42, .aload_n 0, 1), (43, .dup, 1), (44, .getfield 25, 3), (47, .iconst 1, 1), (48, .iadd, 1), (49, .putfield 25, 3), (52, .aload_n 0, 1), (53, .getfield 25, 3), (56, .iconst 1, 1), (57, .isub, 1), (58, .ireturn, 1)]
set_option maxRecDepth 100000 in
theorem okX1_add : dtab cX1_add tX1_add = true := by decide +kernel
def tX1_bestYears : List (Nat × Instr × Nat) := [(0, .iconst (-1), 1), (1, .istore_n 1, 1), (2, .iconst 0, 1), (3, .istore_n 2, 1), (4, .iload_n 2, 1), (5, .sipush 255, 3), (8, .if_icmp .gt 37, 3), (11, .aload_n 0, 1), (12, .iload_n 2, 1), (13, .invokevirtual 31, 3), (16, .ifCond .eq 23, 3), (19, .iload_n 1, 1), (20, .iconst (-1), 1), (21, .if_icmp .eq 16, 3), (24, .aload_n 0, 1), (25, .iload_n 2, 1), (26, .invokevirtual 35, 3), (29, .aload_n 0, 1), (30, .iload_n 1, 1), (31, .invokevirtual 35, 3), (34, .if_icmp .ge 5, 3), (37, .iload_n 2, 1), (38, .istore_n 1, 1), (39, .iinc 2 1, 3), (42, .goto (-38), 3), (45, .iload_n 1, 1), (46, .ireturn, 1)]
set_option maxRecDepth 100000 in
theorem okX1_bestYears : dtab cX1_bestYears tX1_bestYears = true := by decide +kernel
def tX1_isEnough : List (Nat × Instr × Nat) := [(0, .iconst 0, 1), (1, .istore_n 2, 1), (2, .iconst 0, 1), (3, .istore_n 3, 1), (4, .iconst 1, 1), (5, .istore 4, 2), (7, .iload 4, 2), (9, .bipush 8, 2), (11, .if_icmp .gt 47, 3), (14, .iload_n 2, 1), (15, .aload_n 0, 1), (16, .getfield 15, 3), (19, .iload 4, 2), (21, .iaload, 1), (22, .iadd, 1), (23, .istore_n 2, 1), (24, .iload_n 3, 1), (25, .aload_n 0, 1), (26, .iload_n 1, 1), (27, .iload 4, 2), (29, .invokevirtual 39, 3), (32, .ifCond .eq 10, 3), (35, .aload_n 0, 1), (36, .getfield 18, 3), (39, .goto 4, 3), (42, .iconst 0, 1), (43, .iadd, 1), (44, .istore_n 3, 1), (45, .iload_n 2, 1), (46, .iload_n 3, 1), (47, .if_icmp .le 5, 3), (50, .iconst 0, 1), (51, .ireturn, 1), (52, .iinc 4 1, 3), (55, .goto (-48), 3), (58, .iconst 1, 1), (59, .ireturn, 1)]
set_option maxRecDepth 100000 in
theorem okX1_isEnough : dtab cX1_isEnough tX1_isEnough = true := by decide +kernel
def tX1_hasYear : List (Nat × Instr × Nat) := [(0, .iload_n 1, 1), (1, .iload_n 2, 1), (2, .iconst 1, 1), (3, .isub, 1), (4, .ishr, 1), (5, .iconst 1, 1), (6, .iand, 1), (7, .ifCond .eq 7, 3), (10, .iconst 1, 1), (11, .goto 4, 3), (14, .iconst 0, 1), (15, .ireturn, 1)]
set_option maxRecDepth 100000 in
theorem okX1_hasYear : dtab cX1_hasYear tX1_hasYear = true := by decide +kernel
def tX1_costOf : List (Nat × Instr × Nat) := [(0, .aload_n 0, 1), (1, .getfield 28, 3), (4, .aload_n 0, 1), (5, .getfield 22, 3), (8, .iload_n 1, 1), (9, .invokestatic 43, 3), (12, .imul, 1), (13, .iadd, 1), (14, .ireturn, 1)]
set_option maxRecDepth 100000 in
theorem okX1_costOf : dtab cX1_costOf tX1_costOf = true := by decide +kernel
def tX1_yearOf : List (Nat × Instr × Nat) := [(0, .aload_n 0, 1), (1, .iload_n 1, 1), (2, .invokevirtual 48, 3), (5, .istore_n 3, 1), (6, .iconst 1, 1), (7, .istore 4, 2), (9, .iload 4, 2), (11, .bipush 8, 2), (13, .if_icmp .gt 37, 3), (16, .aload_n 0, 1), (17, .iload_n 2, 1), (18, .iload 4, 2), (20, .invokevirtual 39, 3), (23, .ifCond .eq 21, 3), (26, .iload_n 3, 1), (27, .aload_n 0, 1), (28, .getfield 18, 3), (31, .if_icmp .ge 6, 3), (34, .iload 4, 2), (36, .ireturn, 1), (37, .iload_n 3, 1), (38, .aload_n 0, 1), (39, .getfield 18, 3), (42, .isub, 1), (43, .istore_n 3, 1), (44, .iinc 4 1, 3), (47, .goto (-38), 3), (50, .iconst (-1), 1), (51, .ireturn, 1)]
set_option maxRecDepth 100000 in
theorem okX1_yearOf : dtab cX1_yearOf tX1_yearOf = true := by decide +kernel
def tX1_worksAheadOf : List (Nat × Instr × Nat) := [(0, .iconst 0, 1), (1, .istore_n 2, 1), (2, .iconst 0, 1), (3, .istore_n 3, 1), (4, .iload_n 3, 1), (5, .aload_n 0, 1), (6, .getfield 25, 3), (9, .if_icmp .ge 47, 3), (12, .aload_n 0, 1), (13, .getfield 9, 3), (16, .iload_n 3, 1), (17, .iaload, 1), (18, .aload_n 0, 1), (19, .getfield 9, 3), (22, .iload_n 1, 1), (23, .iaload, 1), (24, .if_icmp .lt 23, 3), (27, .aload_n 0, 1), (28, .getfield 9, 3), (31, .iload_n 3, 1), (32, .iaload, 1), (33, .aload_n 0, 1), (34, .getfield 9, 3), (37, .iload_n 1, 1), (38, .iaload, 1), (39, .if_icmp .ne 11, 3), (42, .iload_n 3, 1), (43, .iload_n 1, 1), (44, .if_icmp .ge 6, 3), (47, .iinc 2 1, 3), (50, .iinc 3 1, 3), (53, .goto (-49), 3), (56, .iload_n 2, 1), (57, .ireturn, 1)]
set_option maxRecDepth 100000 in
theorem okX1_worksAheadOf : dtab cX1_worksAheadOf tX1_worksAheadOf = true := by decide +kernel
def tX2_init : List (Nat × Instr × Nat) := [(0, .aload_n 0, 1), (1, .invokespecial 3, 3), (4, .aload_n 0, 1), (5, .iconst 5, 1), (6, .newarray .int, 2), (8, .putfield 9, 3), (11, .aload_n 0, 1), (12, .iconst 5, 1), (13, .newarray .int, 2), (15, .putfield 15, 3), (18, .aload_n 0, 1), (19, .iconst 5, 1), (20, .newarray .int, 2), (22, .putfield 18, 3), (25, .return_, 1)]
set_option maxRecDepth 100000 in
theorem okX2_init : dtab cX2_init tX2_init = true := by decide +kernel
def tX2_gather : List (Nat × Instr × Nat) := [(0, .aload_n 0, 1), (1, .iconst 0, 1), (2, .putfield 21, 3), (5, .iload_n 2, 1), (6, .ifCond .lt 11, 3), (9, .iload_n 2, 1), (10, .aload_n 1, 1), (11, .getfield 25, 3), (14, .if_icmp .lt 4, 3), (17, .return_, 1), (18, .iconst 0, 1), (19, .istore_n 3, 1), (20, .iload_n 3, 1), (21, .aload_n 1, 1), (22, .getfield 30, 3), (25, .getfield 34, 3), (28, .if_icmp .ge 97, 3), (31, .aload_n 0, 1), (32, .getfield 21, 3), (35, .iconst 5, 1), (36, .if_icmp .ge 89, 3), (39, .aload_n 1, 1), (40, .aload_n 1, 1), (41, .getfield 30, 3), (44, .getfield 37, 3), (47, .iload_n 3, 1), (48, .iaload, 1), (49, .invokevirtual 40, 3), (52, .iload_n 2, 1), (53, .if_icmp .ne 66, 3), (56, .aload_n 0, 1), (57, .getfield 9, 3), (60, .aload_n 0, 1), (61, .getfield 21, 3), (64, .iload_n 3, 1), (65, .iastore, 1), (66, .aload_n 0, 1), (67, .getfield 15, 3), (70, .aload_n 0, 1), (71, .getfield 21, 3), (74, .aload_n 1, 1), (75, .getfield 30, 3), (78, .getfield 37, 3), (81, .iload_n 3, 1), (82, .iaload, 1), (83, .aload_n 1, 1), (84, .getfield 44, 3), (87, .iload_n 2, 1), (88, .iaload, 1), (89, .isub, 1), (90, .iastore, 1), (91, .aload_n 0, 1), (92, .getfield 18, 3), (95, .aload_n 0, 1), (96, .getfield 21, 3), (99, .aload_n 1, 1), (100, .getfield 30, 3), (103, .getfield 47, 3), (106, .iload_n 3, 1), (107, .iaload, 1), (108, .iastore, 1), (109, .aload_n 0, 1), (110, .dup, 1), (111, .getfield 21, 3), (114, .iconst 1, 1), (115, .iadd, 1), (116, .putfield 21, 3), (119, .iinc 3 1, 3), (122, .goto (-102), 3), (125, .return_, 1)]
set_option maxRecDepth 100000 in
theorem okX2_gather : dtab cX2_gather tX2_gather = true := by decide +kernel
def tX3_init : List (Nat × Instr × Nat) := [(0, .aload_n 0, 1), (1, .invokespecial 3, 3), (4, .aload_n 0, 1), (5, .bipush 40, 2), (7, .newarray .int, 2), (9, .putfield 9, 3), (12, .aload_n 0, 1), (13, .bipush 40, 2), (15, .newarray .int, 2), (17, .putfield 15, 3), (20, .aload_n 0, 1), (21, .bipush 40, 2), (23, .newarray .int, 2), (25, .putfield 18, 3), (28, .aload_n 0, 1), (29, .bipush 40, 2), (31, .newarray .int, 2), (33, .putfield 21, 3), (36, .aload_n 0, 1), (37, .bipush 40, 2), (39, .newarray .int, 2), (41, .putfield 24, 3), (44, .aload_n 0, 1), (45, .bipush 40, 2), (47, .newarray .int, 2), (49, .putfield 27, 3), (52, .return_, 1)]
set_option maxRecDepth 100000 in
theorem okX3_init : dtab cX3_init tX3_init = true := by decide +kernel
def tX3_hasMark : List (Nat × Instr × Nat) := [(0, .iload_n 1, 1), (1, .ifCond .lt 15, 3), (4, .iload_n 1, 1), (5, .aload_n 0, 1), (6, .getfield 30, 3), (9, .if_icmp .ge 7, 3), (12, .iconst 1, 1), (13, .goto 4, 3), (16, .iconst 0, 1), (17, .ireturn, 1)]
set_option maxRecDepth 100000 in
theorem okX3_hasMark : dtab cX3_hasMark tX3_hasMark = true := by decide +kernel
def tX3_add : List (Nat × Instr × Nat) := [(0, .aload_n 0, 1), (1, .getfield 30, 3), (4, .bipush 40, 2), (6, .if_icmp .lt 6, 3), (9, .bipush (-3), 2), (11, .ireturn, 1), (12, .aload_n 0, 1), (13, .getfield 9, 3), (16, .aload_n 0, 1), (17, .getfield 30, 3), (20, .iload_n 1, 1), (21, .iastore, 1), (22, .aload_n 0, 1), (23, .getfield 15, 3), (26, .aload_n 0, 1), (27, .getfield 30, 3), (30, .iload_n 2, 1), (31, .iastore, 1), (32, .aload_n 0, 1), (33, .getfield 18, 3), (36, .aload_n 0, 1), (37, .getfield 30, 3), (40, .iload_n 3, 1), (41, .iastore, 1), (42, .aload_n 0, 1), (43, .getfield 21, 3), (46, .aload_n 0, 1), (47, .getfield 30, 3), (50, .iload 4, 2), (52, .iastore, 1), (53, .aload_n 0, 1), (54, .dup, 1), (55, .getfield 30, 3), (58, .iconst 1, 1), (59, .iadd, 1), (60, .putfield 30, 3), (63, .aload_n 0, 1), (64, .getfield 30, 3), (67, .iconst 1, 1), (68, .isub, 1), (69, .ireturn, 1)]
set_option maxRecDepth 100000 in
theorem okX3_add : dtab cX3_add tX3_add = true := by decide +kernel
def tX3_fact : List (Nat × Instr × Nat) := [(0, .iload_n 2, 1), (1, .tableswitch 59 0 3 #[31, 38, 45, 52], 31), (32, .aload_n 0, 1), (33, .getfield 9, 3), (36, .iload_n 1, 1), (37, .iaload, 1), (38, .ireturn, 1), (39, .aload_n 0, 1), (40, .getfield 15, 3), (43, .iload_n 1, 1), (44, .iaload, 1), (45, .ireturn, 1), (46, .aload_n 0, 1), (47, .getfield 18, 3), (50, .iload_n 1, 1), (51, .iaload, 1), (52, .ireturn, 1), (53, .aload_n 0, 1), (54, .getfield 21, 3), (57, .iload_n 1, 1), (58, .iaload, 1), (59, .ireturn, 1), (60, .aload_n 0, 1), (61, .getfield 24, 3), (64, .iload_n 1, 1), (65, .iaload, 1), (66, .ireturn, 1)]
set_option maxRecDepth 100000 in
theorem okX3_fact : dtab cX3_fact tX3_fact = true := by decide +kernel
def tX3_endOf : List (Nat × Instr × Nat) := [(0, .aload_n 0, 1), (1, .getfield 9, 3), (4, .iload_n 1, 1), (5, .iaload, 1), (6, .aload_n 0, 1), (7, .getfield 21, 3), (10, .iload_n 1, 1), (11, .iaload, 1), (12, .iadd, 1), (13, .ireturn, 1)]
set_option maxRecDepth 100000 in
theorem okX3_endOf : dtab cX3_endOf tX3_endOf = true := by decide +kernel
def tX3_areNear : List (Nat × Instr × Nat) := [(0, .aload_n 0, 1), (1, .getfield 9, 3), (4, .iload_n 1, 1), (5, .iaload, 1), (6, .aload_n 0, 1), (7, .iload_n 2, 1), (8, .invokevirtual 34, 3), (11, .isub, 1), (12, .aload_n 0, 1), (13, .getfield 9, 3), (16, .iload_n 2, 1), (17, .iaload, 1), (18, .aload_n 0, 1), (19, .iload_n 1, 1), (20, .invokevirtual 34, 3), (23, .isub, 1), (24, .invokestatic 38, 3), (27, .istore 5, 2), (29, .iload 5, 2), (31, .iload_n 3, 1), (32, .if_icmp .gt 27, 3), (35, .aload_n 0, 1), (36, .getfield 15, 3), (39, .iload_n 1, 1), (40, .iaload, 1), (41, .aload_n 0, 1), (42, .getfield 15, 3), (45, .iload_n 2, 1), (46, .iaload, 1), (47, .invokestatic 44, 3), (50, .iload 4, 2), (52, .if_icmp .gt 7, 3), (55, .iconst 1, 1), (56, .goto 4, 3), (59, .iconst 0, 1), (60, .ireturn, 1)]
set_option maxRecDepth 100000 in
theorem okX3_areNear : dtab cX3_areNear tX3_areNear = true := by decide +kernel
def tX3_putTogether : List (Nat × Instr × Nat) := [(0, .aload_n 0, 1), (1, .iconst 0, 1), (2, .putfield 47, 3), (5, .iconst 0, 1), (6, .istore_n 3, 1), (7, .iload_n 3, 1), (8, .aload_n 0, 1), (9, .getfield 30, 3), (12, .if_icmp .ge 16, 3), (15, .aload_n 0, 1), (16, .getfield 24, 3), (19, .iload_n 3, 1), (20, .iconst (-1), 1), (21, .iastore, 1), (22, .iinc 3 1, 3), (25, .goto (-18), 3), (28, .iconst 0, 1), (29, .istore_n 3, 1), (30, .iload_n 3, 1), (31, .aload_n 0, 1), (32, .getfield 30, 3), (35, .if_icmp .ge 36, 3), (38, .aload_n 0, 1), (39, .getfield 24, 3), (42, .iload_n 3, 1), (43, .iaload, 1), (44, .iconst (-1), 1), (45, .if_icmp .ne 20, 3), (48, .aload_n 0, 1), (49, .iload_n 3, 1), (50, .iload_n 1, 1), (51, .iload_n 2, 1), (52, .invokevirtual 50, 3), (55, .aload_n 0, 1), (56, .dup, 1), (57, .getfield 47, 3), (60, .iconst 1, 1), (61, .iadd, 1), (62, .putfield 47, 3), (65, .iinc 3 1, 3), (68, .goto (-38), 3), (71, .return_, 1)]
set_option maxRecDepth 100000 in
theorem okX3_putTogether : dtab cX3_putTogether tX3_putTogether = true := by decide +kernel
def tX3_spread : List (Nat × Instr × Nat) := [(0, .aload_n 0, 1), (1, .getfield 24, 3), (4, .iload_n 1, 1), (5, .aload_n 0, 1), (6, .getfield 47, 3), (9, .iastore, 1), (10, .aload_n 0, 1), (11, .getfield 27, 3), (14, .iconst 0, 1), (15, .iload_n 1, 1), (16, .iastore, 1), (17, .iconst 1, 1), (18, .istore 4, 2), (20, .iconst 0, 1), (21, .istore 5, 2), (23, .iload 5, 2), (25, .iload 4, 2), (27, .if_icmp .ge 95, 3), (30, .iload 5, 2), (32, .aload_n 0, 1), (33, .getfield 30, 3), (36, .if_icmp .ge 86, 3), (39, .iconst 0, 1), (40, .istore 6, 2), (42, .iload 6, 2), (44, .aload_n 0, 1), (45, .getfield 30, 3), (48, .if_icmp .ge 68, 3), (51, .aload_n 0, 1), (52, .getfield 24, 3), (55, .iload 6, 2), (57, .iaload, 1), (58, .iconst (-1), 1), (59, .if_icmp .ne 51, 3), (62, .iload 4, 2), (64, .bipush 40, 2), (66, .if_icmp .ge 44, 3), (69, .aload_n 0, 1), (70, .aload_n 0, 1), (71, .getfield 27, 3), (74, .iload 5, 2), (76, .iaload, 1), (77, .iload 6, 2), (79, .iload_n 2, 1), (80, .iload_n 3, 1), (81, .invokevirtual 54, 3), (84, .ifCond .eq 26, 3), (87, .aload_n 0, 1), (88, .getfield 24, 3), (91, .iload 6, 2), (93, .aload_n 0, 1), (94, .getfield 47, 3), (97, .iastore, 1), (98, .aload_n 0, 1), (99, .getfield 27, 3), (102, .iload 4, 2), (104, .iload 6, 2), (106, .iastore, 1), (107, .iinc 4 1, 3), (110, .iinc 6 1, 3), (113, .goto (-71), 3), (116, .iinc 5 1, 3), (119, .goto (-96), 3), (122, .return_, 1)]
set_option maxRecDepth 100000 in
theorem okX3_spread : dtab cX3_spread tX3_spread = true := by decide +kernel
def tX3_groupFact : List (Nat × Instr × Nat) := [(0, .iconst (-1), 1), (1, .istore_n 3, 1), (2, .iconst 0, 1), (3, .istore 4, 2), (5, .iconst 0, 1), (6, .istore 5, 2), (8, .iconst 0, 1), (9, .istore 6, 2), (11, .iconst 0, 1), (12, .istore 7, 2), (14, .iconst 0, 1), (15, .istore 8, 2), (17, .iload 8, 2), (19, .aload_n 0, 1), (20, .getfield 30, 3), (23, .if_icmp .ge 91, 3), (26, .aload_n 0, 1), (27, .getfield 24, 3), (30, .iload 8, 2), (32, .iaload, 1), (33, .iload_n 1, 1), (34, .if_icmp .ne 74, 3), (37, .iload 4, 2), (39, .ifCond .ne 8, 3), (42, .iload 8, 2), (44, .goto 4, 3), (47, .iload_n 3, 1), (48, .istore_n 3, 1), (49, .iload 4, 2), (51, .ifCond .ne 13, 3), (54, .aload_n 0, 1), (55, .getfield 9, 3), (58, .iload 8, 2), (60, .iaload, 1), (61, .goto 15, 3), (64, .iload 5, 2), (66, .aload_n 0, 1), (67, .getfield 9, 3), (70, .iload 8, 2), (72, .iaload, 1), (73, .invokestatic 58, 3), (76, .istore 5, 2), (78, .iload 6, 2), (80, .aload_n 0, 1), (81, .iload 8, 2), (83, .invokevirtual 34, 3), (86, .invokestatic 38, 3), (89, .istore 6, 2), (91, .iload 7, 2), (93, .aload_n 0, 1), (94, .getfield 18, 3), (97, .iload 8, 2), (99, .iaload, 1), (100, .invokestatic 38, 3), (103, .istore 7, 2), (105, .iinc 4 1, 3), (108, .iinc 8 1, 3), (111, .goto (-94), 3), (114, .iload_n 2, 1), (115, .tableswitch 40 0 3 #[29, 31, 34, 37], 29), (144, .iload_n 3, 1), (145, .ireturn, 1), (146, .iload 4, 2), (148, .ireturn, 1), (149, .iload 5, 2), (151, .ireturn, 1), (152, .iload 6, 2), (154, .ireturn, 1), (155, .iload 7, 2), (157, .ireturn, 1)]
set_option maxRecDepth 100000 in
theorem okX3_groupFact : dtab cX3_groupFact tX3_groupFact = true := by decide +kernel
def tX4_init : List (Nat × Instr × Nat) := [(0, .aload_n 0, 1), (1, .invokespecial 3, 3), (4, .aload_n 0, 1), (5, .new 9, 3), (8, .dup, 1), (9, .invokespecial 11, 3), (12, .putfield 12, 3), (15, .aload_n 0, 1), (16, .new 9, 3), (19, .dup, 1), (20, .invokespecial 11, 3), (23, .putfield 18, 3), (26, .aload_n 0, 1), (27, .sipush 192, 3), (30, .newarray .int, 2), (32, .putfield 21, 3), (35, .aload_n 0, 1), (36, .sipush 400, 3), (39, .putfield 25, 3), (42, .return_, 1)]
set_option maxRecDepth 100000 in
theorem okX4_init : dtab cX4_init tX4_init = true := by decide +kernel
def tX4_leastCost : List (Nat × Instr × Nat) := [(0, .aload_n 0, 1), (1, .getfield 12, 3), (4, .aload_n 1, 1), (5, .iload_n 2, 1), (6, .invokevirtual 29, 3), (9, .aload_n 0, 1), (10, .getfield 18, 3), (13, .aload_n 3, 1), (14, .iload 4, 2), (16, .invokevirtual 29, 3), (19, .iconst 1, 1), (20, .aload_n 0, 1), (21, .getfield 18, 3), (24, .getfield 33, 3), (27, .ishl, 1), (28, .istore 5, 2), (30, .iconst 0, 1), (31, .istore 6, 2), (33, .iload 6, 2), (35, .iload 5, 2), (37, .if_icmp .ge 45, 3), (40, .aload_n 0, 1), (41, .getfield 21, 3), (44, .aload_n 0, 1), (45, .getfield 12, 3), (48, .getfield 33, 3), (51, .bipush 32, 2), (53, .imul, 1), (54, .iload 6, 2), (56, .iadd, 1), (57, .aload_n 0, 1), (58, .getfield 25, 3), (61, .aload_n 0, 1), (62, .getfield 18, 3), (65, .getfield 33, 3), (68, .iload 6, 2), (70, .invokestatic 36, 3), (73, .isub, 1), (74, .imul, 1), (75, .iastore, 1), (76, .iinc 6 1, 3), (79, .goto (-46), 3), (82, .aload_n 0, 1), (83, .getfield 12, 3), (86, .getfield 33, 3), (89, .iconst 1, 1), (90, .isub, 1), (91, .istore 6, 2), (93, .iload 6, 2), (95, .ifCond .lt 46, 3), (98, .iconst 0, 1), (99, .istore 7, 2), (101, .iload 7, 2), (103, .iload 5, 2), (105, .if_icmp .ge 30, 3), (108, .aload_n 0, 1), (109, .getfield 21, 3), (112, .iload 6, 2), (114, .bipush 32, 2), (116, .imul, 1), (117, .iload 7, 2), (119, .iadd, 1), (120, .aload_n 0, 1), (121, .iload 6, 2), (123, .iload 7, 2), (125, .invokevirtual 42, 3), (128, .iastore, 1), (129, .iinc 7 1, 3), (132, .goto (-31), 3), (135, .iinc 6 (-1), 3), (138, .goto (-45), 3), (141, .aload_n 0, 1), (142, .getfield 21, 3), (145, .iconst 0, 1), (146, .iaload, 1), (147, .ireturn, 1)]
set_option maxRecDepth 100000 in
theorem okX4_leastCost : dtab cX4_leastCost tX4_leastCost = true := by decide +kernel
def tX4_leastFrom : List (Nat × Instr × Nat) := [(0, .aload_n 0, 1), (1, .getfield 25, 3), (4, .aload_n 0, 1), (5, .getfield 21, 3), (8, .iload_n 1, 1), (9, .iconst 1, 1), (10, .iadd, 1), (11, .bipush 32, 2), (13, .imul, 1), (14, .iload_n 2, 1), (15, .iadd, 1), (16, .iaload, 1), (17, .iadd, 1), (18, .istore_n 3, 1), (19, .iconst 0, 1), (20, .istore 4, 2), (22, .iload 4, 2), (24, .aload_n 0, 1), (25, .getfield 18, 3), (28, .getfield 33, 3), (31, .if_icmp .ge 31, 3), (34, .iload_n 2, 1), (35, .iconst 1, 1), (36, .iload 4, 2), (38, .ishl, 1), (39, .iand, 1), (40, .ifCond .ne 16, 3), (43, .iload_n 3, 1), (44, .aload_n 0, 1), (45, .iload_n 1, 1), (46, .iload 4, 2), (48, .iload_n 2, 1), (49, .invokevirtual 46, 3), (52, .invokestatic 50, 3), (55, .istore_n 3, 1), (56, .iinc 4 1, 3), (59, .goto (-37), 3), (62, .iload_n 3, 1), (63, .ireturn, 1)]
set_option maxRecDepth 100000 in
theorem okX4_leastFrom : dtab cX4_leastFrom tX4_leastFrom = true := by decide +kernel
def tX4_withPair : List (Nat × Instr × Nat) := [(0, .aload_n 0, 1), (1, .getfield 12, 3), (4, .getfield 55, 3), (7, .iload_n 1, 1), (8, .iaload, 1), (9, .aload_n 0, 1), (10, .getfield 18, 3), (13, .getfield 55, 3), (16, .iload_n 2, 1), (17, .iaload, 1), (18, .isub, 1), (19, .invokestatic 58, 3), (22, .bipush 100, 2), (24, .aload_n 0, 1), (25, .getfield 12, 3), (28, .getfield 61, 3), (31, .iload_n 1, 1), (32, .iaload, 1), (33, .aload_n 0, 1), (34, .getfield 18, 3), (37, .getfield 61, 3), (40, .iload_n 2, 1), (41, .iaload, 1), (42, .invokestatic 64, 3), (45, .imul, 1), (46, .iadd, 1), (47, .istore 4, 2), (49, .iload 4, 2), (51, .aload_n 0, 1), (52, .getfield 21, 3), (55, .iload_n 1, 1), (56, .iconst 1, 1), (57, .iadd, 1), (58, .bipush 32, 2), (60, .imul, 1), (61, .iload_n 3, 1), (62, .iconst 1, 1), (63, .iload_n 2, 1), (64, .ishl, 1), (65, .ior, 1), (66, .iadd, 1), (67, .iaload, 1), (68, .iadd, 1), (69, .ireturn, 1)]
set_option maxRecDepth 100000 in
theorem okX4_withPair : dtab cX4_withPair tX4_withPair = true := by decide +kernel
def tX4_otherOf : List (Nat × Instr × Nat) := [(0, .iconst 0, 1), (1, .istore_n 2, 1), (2, .iconst 0, 1), (3, .istore_n 3, 1), (4, .iload_n 3, 1), (5, .aload_n 0, 1), (6, .getfield 12, 3), (9, .getfield 33, 3), (12, .if_icmp .ge 68, 3), (15, .aload_n 0, 1), (16, .iload_n 3, 1), (17, .iload_n 2, 1), (18, .invokevirtual 67, 3), (21, .istore 4, 2), (23, .aload_n 0, 1), (24, .getfield 12, 3), (27, .getfield 70, 3), (30, .iload_n 3, 1), (31, .iaload, 1), (32, .iload_n 1, 1), (33, .if_icmp .ne 24, 3), (36, .iload 4, 2), (38, .iconst (-1), 1), (39, .if_icmp .ne 7, 3), (42, .iconst (-1), 1), (43, .goto 13, 3), (46, .aload_n 0, 1), (47, .getfield 18, 3), (50, .getfield 70, 3), (53, .iload 4, 2), (55, .iaload, 1), (56, .ireturn, 1), (57, .iload 4, 2), (59, .iconst (-1), 1), (60, .if_icmp .ne 7, 3), (63, .iload_n 2, 1), (64, .goto 9, 3), (67, .iload_n 2, 1), (68, .iconst 1, 1), (69, .iload 4, 2), (71, .ishl, 1), (72, .ior, 1), (73, .istore_n 2, 1), (74, .iinc 3 1, 3), (77, .goto (-73), 3), (80, .iconst (-1), 1), (81, .ireturn, 1)]
set_option maxRecDepth 100000 in
theorem okX4_otherOf : dtab cX4_otherOf tX4_otherOf = true := by decide +kernel
def tX4_choiceAt : List (Nat × Instr × Nat) := [(0, .iconst 0, 1), (1, .istore_n 3, 1), (2, .iload_n 3, 1), (3, .aload_n 0, 1), (4, .getfield 18, 3), (7, .getfield 33, 3), (10, .if_icmp .ge 40, 3), (13, .iload_n 2, 1), (14, .iconst 1, 1), (15, .iload_n 3, 1), (16, .ishl, 1), (17, .iand, 1), (18, .ifCond .ne 26, 3), (21, .aload_n 0, 1), (22, .iload_n 1, 1), (23, .iload_n 3, 1), (24, .iload_n 2, 1), (25, .invokevirtual 46, 3), (28, .aload_n 0, 1), (29, .getfield 21, 3), (32, .iload_n 1, 1), (33, .bipush 32, 2), (35, .imul, 1), (36, .iload_n 2, 1), (37, .iadd, 1), (38, .iaload, 1), (39, .if_icmp .ne 5, 3), (42, .iload_n 3, 1), (43, .ireturn, 1), (44, .iinc 3 1, 3), (47, .goto (-45), 3), (50, .iconst (-1), 1), (51, .ireturn, 1)]
set_option maxRecDepth 100000 in
theorem okX4_choiceAt : dtab cX4_choiceAt tX4_choiceAt = true := by decide +kernel
def tX5_init : List (Nat × Instr × Nat) := [(0, .aload_n 0, 1), (1, .invokespecial 3, 3), (4, .aload_n 0, 1), (5, .sipush 150, 3), (8, .newarray .int, 2), (10, .putfield 9, 3), (13, .aload_n 0, 1), (14, .iconst (-1), 1), (15, .putfield 15, 3), (18, .aload_n 0, 1), (19, .iconst 0, 1), (20, .putfield 19, 3), (23, .return_, 1)]
set_option maxRecDepth 100000 in
theorem okX5_init : dtab cX5_init tX5_init = true := by decide +kernel
def tX5_isLost : List (Nat × Instr × Nat) := [(0, .aload_n 0, 1), (1, .getfield 15, 3), (4, .iconst (-1), 1), (5, .if_icmp .ne 7, 3), (8, .iconst 1, 1), (9, .goto 4, 3), (12, .iconst 0, 1), (13, .ireturn, 1)]
set_option maxRecDepth 100000 in
theorem okX5_isLost : dtab cX5_isLost tX5_isLost = true := by decide +kernel
def tX5_begin : List (Nat × Instr × Nat) := [(0, .aload_n 0, 1), (1, .iload_n 1, 1), (2, .putfield 15, 3), (5, .aload_n 0, 1), (6, .iload_n 2, 1), (7, .sipush 150, 3), (10, .invokestatic 22, 3), (13, .putfield 19, 3), (16, .iconst 0, 1), (17, .istore_n 3, 1), (18, .iload_n 3, 1), (19, .aload_n 0, 1), (20, .getfield 19, 3), (23, .if_icmp .ge 16, 3), (26, .aload_n 0, 1), (27, .getfield 9, 3), (30, .iload_n 3, 1), (31, .iconst 0, 1), (32, .iastore, 1), (33, .iinc 3 1, 3), (36, .goto (-18), 3), (39, .return_, 1)]
set_option maxRecDepth 100000 in
theorem okX5_begin : dtab cX5_begin tX5_begin = true := by decide +kernel
def tX5_drop : List (Nat × Instr × Nat) := [(0, .aload_n 0, 1), (1, .iconst (-1), 1), (2, .putfield 15, 3), (5, .aload_n 0, 1), (6, .iconst 0, 1), (7, .putfield 19, 3), (10, .return_, 1)]
set_option maxRecDepth 100000 in
theorem okX5_drop : dtab cX5_drop tX5_drop = true := by decide +kernel
def tX5_hasItem : List (Nat × Instr × Nat) := [(0, .iload_n 1, 1), (1, .ifCond .lt 15, 3), (4, .iload_n 1, 1), (5, .aload_n 0, 1), (6, .getfield 19, 3), (9, .if_icmp .ge 7, 3), (12, .iconst 1, 1), (13, .goto 4, 3), (16, .iconst 0, 1), (17, .ireturn, 1)]
set_option maxRecDepth 100000 in
theorem okX5_hasItem : dtab cX5_hasItem tX5_hasItem = true := by decide +kernel
def tX5_hasItems : List (Nat × Instr × Nat) := [(0, .iload_n 1, 1), (1, .ifCond .lt 29, 3), (4, .iload_n 2, 1), (5, .ifCond .lt 25, 3), (8, .iload_n 2, 1), (9, .aload_n 0, 1), (10, .getfield 19, 3), (13, .if_icmp .gt 17, 3), (16, .iload_n 1, 1), (17, .aload_n 0, 1), (18, .getfield 19, 3), (21, .iload_n 2, 1), (22, .isub, 1), (23, .if_icmp .gt 7, 3), (26, .iconst 1, 1), (27, .goto 4, 3), (30, .iconst 0, 1), (31, .ireturn, 1)]
set_option maxRecDepth 100000 in
theorem okX5_hasItems : dtab cX5_hasItems tX5_hasItems = true := by decide +kernel
def tX5_faultOf : List (Nat × Instr × Nat) := [(0, .aload_n 0, 1), (1, .invokevirtual 28, 3), (4, .ifCond .eq 5, 3), (7, .iconst 1, 1), (8, .ireturn, 1), (9, .aload_n 0, 1), (10, .getfield 15, 3), (13, .iload_n 1, 1), (14, .if_icmp .eq 5, 3), (17, .iconst 3, 1), (18, .ireturn, 1), (19, .aload_n 0, 1), (20, .iload_n 2, 1), (21, .invokevirtual 32, 3), (24, .ifCond .eq 7, 3), (27, .iconst 0, 1), (28, .goto 4, 3), (31, .iconst 2, 1), (32, .ireturn, 1)]
set_option maxRecDepth 100000 in
theorem okX5_faultOf : dtab cX5_faultOf tX5_faultOf = true := by decide +kernel
def tX5_store : List (Nat × Instr × Nat) := [(0, .aload_n 0, 1), (1, .iload_n 1, 1), (2, .invokevirtual 32, 3), (5, .ifCond .ne 4, 3), (8, .return_, 1), (9, .aload_n 0, 1), (10, .getfield 15, 3), (13, .ifCond .ne 14, 3), (16, .aload_n 0, 1), (17, .getfield 9, 3), (20, .iload_n 1, 1), (21, .iload_n 2, 1), (22, .i2b, 1), (23, .iastore, 1), (24, .goto 29, 3), (27, .aload_n 0, 1), (28, .getfield 15, 3), (31, .iconst 1, 1), (32, .if_icmp .ne 14, 3), (35, .aload_n 0, 1), (36, .getfield 9, 3), (39, .iload_n 1, 1), (40, .iload_n 2, 1), (41, .i2s, 1), (42, .iastore, 1), (43, .goto 10, 3), (46, .aload_n 0, 1), (47, .getfield 9, 3), (50, .iload_n 1, 1), (51, .iload_n 2, 1), (52, .iastore, 1), (53, .return_, 1)]
set_option maxRecDepth 100000 in
theorem okX5_store : dtab cX5_store tX5_store = true := by decide +kernel
def tX5_readingAt : List (Nat × Instr × Nat) := [(0, .aload_n 0, 1), (1, .iload_n 1, 1), (2, .invokevirtual 32, 3), (5, .ifCond .eq 19, 3), (8, .aload_n 0, 1), (9, .getfield 9, 3), (12, .iload_n 1, 1), (13, .iaload, 1), (14, .iconst 0, 1), (15, .sipush 30000, 3), (18, .invokestatic 36, 3), (21, .ifCond .ne 5, 3), (24, .iconst (-1), 1), (25, .ireturn, 1), (26, .aload_n 0, 1), (27, .getfield 9, 3), (30, .iload_n 1, 1), (31, .iaload, 1), (32, .ireturn, 1)]
set_option maxRecDepth 100000 in
theorem okX5_readingAt : dtab cX5_readingAt tX5_readingAt = true := by decide +kernel
def tX5_hasWeldAt : List (Nat × Instr × Nat) := [(0, .aload_n 0, 1), (1, .iload_n 1, 1), (2, .invokevirtual 32, 3), (5, .ifCond .eq 16, 3), (8, .aload_n 0, 1), (9, .getfield 9, 3), (12, .iload_n 1, 1), (13, .iaload, 1), (14, .ifCond .eq 7, 3), (17, .iconst 1, 1), (18, .goto 4, 3), (21, .iconst 0, 1), (22, .ireturn, 1)]
set_option maxRecDepth 100000 in
theorem okX5_hasWeldAt : dtab cX5_hasWeldAt tX5_hasWeldAt = true := by decide +kernel
def tX6_init : List (Nat × Instr × Nat) := [(0, .aload_n 0, 1), (1, .invokespecial 3, 3), (4, .aload_n 0, 1), (5, .new 9, 3), (8, .dup, 1), (9, .invokespecial 11, 3), (12, .putfield 12, 3), (15, .aload_n 0, 1), (16, .new 9, 3), (19, .dup, 1), (20, .invokespecial 11, 3), (23, .putfield 18, 3), (26, .aload_n 0, 1), (27, .new 9, 3), (30, .dup, 1), (31, .invokespecial 11, 3), (34, .putfield 21, 3), (37, .aload_n 0, 1), (38, .new 9, 3), (41, .dup, 1), (42, .invokespecial 11, 3), (45, .putfield 24, 3), (48, .aload_n 0, 1), (49, .new 27, 3), (52, .dup, 1), (53, .invokespecial 29, 3), (56, .putfield 30, 3), (59, .aload_n 0, 1), (60, .sipush 150, 3), (63, .newarray .int, 2), (65, .putfield 34, 3), (68, .aload_n 0, 1), (69, .bipush 60, 2), (71, .newarray .int, 2), (73, .putfield 38, 3), (76, .aload_n 0, 1), (77, .bipush 60, 2), (79, .newarray .int, 2), (81, .putfield 41, 3), (84, .aload_n 0, 1), (85, .bipush 40, 2), (87, .newarray .int, 2), (89, .putfield 44, 3), (92, .return_, 1)]
set_option maxRecDepth 100000 in
theorem okX6_init : dtab cX6_init tX6_init = true := by decide +kernel
def tX6_reelAt : List (Nat × Instr × Nat) := [(0, .iload_n 1, 1), (1, .tableswitch 51 0 3 #[31, 36, 41, 46], 31), (32, .aload_n 0, 1), (33, .getfield 12, 3), (36, .areturn, 1), (37, .aload_n 0, 1), (38, .getfield 18, 3), (41, .areturn, 1), (42, .aload_n 0, 1), (43, .getfield 21, 3), (46, .areturn, 1), (47, .aload_n 0, 1), (48, .getfield 24, 3), (51, .areturn, 1), (52, .aconst_null, 1), (53, .areturn, 1)]
set_option maxRecDepth 100000 in
theorem okX6_reelAt : dtab cX6_reelAt tX6_reelAt = true := by decide +kernel
def tX6_feel : List (Nat × Instr × Nat) := [(0, .aload_n 0, 1), (1, .aload_n 0, 1), (2, .getfield 12, 3), (5, .getfield 47, 3), (8, .aload_n 0, 1), (9, .getfield 18, 3), (12, .getfield 47, 3), (15, .aload_n 0, 1), (16, .getfield 21, 3), (19, .getfield 47, 3), (22, .invokestatic 51, 3), (25, .invokestatic 51, 3), (28, .putfield 57, 3), (31, .aload_n 0, 1), (32, .iconst 0, 1), (33, .putfield 60, 3), (36, .aload_n 0, 1), (37, .iconst 0, 1), (38, .putfield 63, 3), (41, .iconst 0, 1), (42, .istore_n 1, 1), (43, .iconst 0, 1), (44, .istore_n 2, 1), (45, .iconst 0, 1), (46, .istore_n 3, 1), (47, .iconst 0, 1), (48, .istore 4, 2), (50, .iload 4, 2), (52, .aload_n 0, 1), (53, .getfield 57, 3), (56, .if_icmp .ge 106, 3), (59, .aload_n 0, 1), (60, .iload 4, 2), (62, .invokevirtual 66, 3), (65, .istore 5, 2), (67, .iload 5, 2), (69, .iconst (-1), 1), (70, .if_icmp .ne 16, 3), (73, .aload_n 0, 1), (74, .dup, 1), (75, .getfield 60, 3), (78, .iconst 1, 1), (79, .iadd, 1), (80, .putfield 60, 3), (83, .goto 6, 3), (86, .iload 5, 2), (88, .istore_n 1, 1), (89, .iload_n 2, 1), (90, .iload_n 1, 1), (91, .iadd, 1), (92, .istore_n 2, 1), (93, .aload_n 0, 1), (94, .getfield 34, 3), (97, .iload 4, 2), (99, .iload_n 2, 1), (100, .iastore, 1), (101, .aload_n 0, 1), (102, .getfield 63, 3), (105, .bipush 60, 2), (107, .if_icmp .ge 49, 3), (110, .aload_n 0, 1), (111, .getfield 24, 3), (114, .iload 4, 2), (116, .invokevirtual 70, 3), (119, .ifCond .eq 37, 3), (122, .aload_n 0, 1), (123, .getfield 38, 3), (126, .aload_n 0, 1), (127, .getfield 63, 3), (130, .iload_n 3, 1), (131, .iastore, 1), (132, .aload_n 0, 1), (133, .getfield 41, 3), (136, .aload_n 0, 1), (137, .getfield 63, 3), (140, .iload_n 2, 1), (141, .iload_n 3, 1), (142, .isub, 1), (143, .iastore, 1), (144, .aload_n 0, 1), (145, .dup, 1), (146, .getfield 63, 3), (149, .iconst 1, 1), (150, .iadd, 1), (151, .putfield 63, 3), (154, .iload_n 2, 1), (155, .istore_n 3, 1), (156, .iinc 4 1, 3), (159, .goto (-109), 3), (162, .return_, 1)]
set_option maxRecDepth 100000 in
theorem okX6_feel : dtab cX6_feel tX6_feel = true := by decide +kernel
def tX6_readingsTogether : List (Nat × Instr × Nat) := [(0, .aload_n 0, 1), (1, .getfield 12, 3), (4, .iload_n 1, 1), (5, .invokevirtual 74, 3), (8, .istore_n 2, 1), (9, .aload_n 0, 1), (10, .getfield 18, 3), (13, .iload_n 1, 1), (14, .invokevirtual 74, 3), (17, .istore_n 3, 1), (18, .aload_n 0, 1), (19, .getfield 21, 3), (22, .iload_n 1, 1), (23, .invokevirtual 74, 3), (26, .istore 4, 2), (28, .iload_n 2, 1), (29, .iload_n 3, 1), (30, .iload 4, 2), (32, .invokestatic 77, 3), (35, .invokestatic 77, 3), (38, .istore 5, 2), (40, .iload_n 2, 1), (41, .iload_n 3, 1), (42, .iload 4, 2), (44, .invokestatic 51, 3), (47, .invokestatic 51, 3), (50, .istore 6, 2), (52, .iload 5, 2), (54, .iconst (-1), 1), (55, .if_icmp .ne 8, 3), (58, .iload 6, 2), (60, .goto 15, 3), (63, .iload_n 2, 1), (64, .iload_n 3, 1), (65, .iadd, 1), (66, .iload 4, 2), (68, .iadd, 1), (69, .iload 5, 2), (71, .isub, 1), (72, .iload 6, 2), (74, .isub, 1), (75, .ireturn, 1)]
set_option maxRecDepth 100000 in
theorem okX6_readingsTogether : dtab cX6_readingsTogether tX6_readingsTogether = true := by decide +kernel
def tX6_fact : List (Nat × Instr × Nat) := [(0, .iload_n 1, 1), (1, .tableswitch 60 0 2 #[27, 32, 37], 27), (28, .aload_n 0, 1), (29, .getfield 57, 3), (32, .ireturn, 1), (33, .aload_n 0, 1), (34, .getfield 60, 3), (37, .ireturn, 1), (38, .aload_n 0, 1), (39, .getfield 57, 3), (42, .ifCond .le 17, 3), (45, .aload_n 0, 1), (46, .getfield 34, 3), (49, .aload_n 0, 1), (50, .getfield 57, 3), (53, .iconst 1, 1), (54, .isub, 1), (55, .iaload, 1), (56, .goto 4, 3), (59, .iconst 0, 1), (60, .ireturn, 1), (61, .aload_n 0, 1), (62, .getfield 63, 3), (65, .ireturn, 1)]
set_option maxRecDepth 100000 in
theorem okX6_fact : dtab cX6_fact tX6_fact = true := by decide +kernel
def tX6_feltAt : List (Nat × Instr × Nat) := [(0, .iconst 0, 1), (1, .istore_n 2, 1), (2, .iload_n 2, 1), (3, .aload_n 0, 1), (4, .getfield 63, 3), (7, .if_icmp .ge 38, 3), (10, .iload_n 1, 1), (11, .aload_n 0, 1), (12, .getfield 38, 3), (15, .iload_n 2, 1), (16, .iaload, 1), (17, .if_icmp .lt 22, 3), (20, .iload_n 1, 1), (21, .aload_n 0, 1), (22, .getfield 38, 3), (25, .iload_n 2, 1), (26, .iaload, 1), (27, .aload_n 0, 1), (28, .getfield 41, 3), (31, .iload_n 2, 1), (32, .iaload, 1), (33, .iadd, 1), (34, .if_icmp .ge 5, 3), (37, .iload_n 2, 1), (38, .ireturn, 1), (39, .iinc 2 1, 3), (42, .goto (-40), 3), (45, .iconst (-1), 1), (46, .ireturn, 1)]
set_option maxRecDepth 100000 in
theorem okX6_feltAt : dtab cX6_feltAt tX6_feltAt = true := by decide +kernel
def tX6_markFact : List (Nat × Instr × Nat) := [(0, .iload_n 2, 1), (1, .iconst 4, 1), (2, .if_icmp .ne 19, 3), (5, .aload_n 0, 1), (6, .aload_n 0, 1), (7, .getfield 30, 3), (10, .getfield 80, 3), (13, .iload_n 1, 1), (14, .iaload, 1), (15, .invokevirtual 81, 3), (18, .goto 12, 3), (21, .aload_n 0, 1), (22, .getfield 30, 3), (25, .iload_n 1, 1), (26, .iload_n 2, 1), (27, .invokevirtual 84, 3), (30, .ireturn, 1)]
set_option maxRecDepth 100000 in
theorem okX6_markFact : dtab cX6_markFact tX6_markFact = true := by decide +kernel
def tX7_init : List (Nat × Instr × Nat) := [(0, .aload_n 0, 1), (1, .invokespecial 3, 3), (4, .aload_n 0, 1), (5, .iconst 5, 1), (6, .putfield 9, 3), (9, .aload_n 0, 1), (10, .iconst 5, 1), (11, .putfield 15, 3), (14, .aload_n 0, 1), (15, .bipush 80, 2), (17, .putfield 18, 3), (20, .return_, 1)]
set_option maxRecDepth 100000 in
theorem okX7_init : dtab cX7_init tX7_init = true := by decide +kernel
def tX7_leastTruly : List (Nat × Instr × Nat) := [(0, .iconst 0, 1), (1, .iload_n 1, 1), (2, .aload_n 0, 1), (3, .getfield 15, 3), (6, .isub, 1), (7, .invokestatic 21, 3), (10, .ireturn, 1)]
set_option maxRecDepth 100000 in
theorem okX7_leastTruly : dtab cX7_leastTruly tX7_leastTruly = true := by decide +kernel
def tX7_mostTruly : List (Nat × Instr × Nat) := [(0, .bipush 100, 2), (2, .iload_n 1, 1), (3, .aload_n 0, 1), (4, .getfield 15, 3), (7, .iadd, 1), (8, .invokestatic 27, 3), (11, .ireturn, 1)]
set_option maxRecDepth 100000 in
theorem okX7_mostTruly : dtab cX7_mostTruly tX7_mostTruly = true := by decide +kernel
def tX7_fact : List (Nat × Instr × Nat) := [(0, .iconst 0, 1), (1, .aload_n 0, 1), (2, .iload_n 2, 1), (3, .invokevirtual 30, 3), (6, .aload_n 0, 1), (7, .iload_n 1, 1), (8, .invokevirtual 34, 3), (11, .isub, 1), (12, .invokestatic 21, 3), (15, .istore 4, 2), (17, .iload_n 3, 1), (18, .lookupswitch 45 #[(0, 26), (1, 42)], 26), (44, .iconst 0, 1), (45, .aload_n 0, 1), (46, .iload_n 2, 1), (47, .invokevirtual 34, 3), (50, .aload_n 0, 1), (51, .iload_n 1, 1), (52, .invokevirtual 30, 3), (55, .isub, 1), (56, .invokestatic 21, 3), (59, .ireturn, 1), (60, .iload 4, 2), (62, .ireturn, 1), (63, .aload_n 0, 1), (64, .aload_n 0, 1), (65, .iload_n 2, 1), (66, .invokevirtual 30, 3), (69, .iload 4, 2), (71, .invokevirtual 37, 3), (74, .ireturn, 1)]
set_option maxRecDepth 100000 in
theorem okX7_fact : dtab cX7_fact tX7_fact = true := by decide +kernel
def tX7_lastYear : List (Nat × Instr × Nat) := [(0, .bipush 99, 2), (2, .istore_n 3, 1), (3, .iload_n 3, 1), (4, .ifCond .lt 33, 3), (7, .iload_n 1, 1), (8, .aload_n 0, 1), (9, .getfield 9, 3), (12, .imul, 1), (13, .iload_n 2, 1), (14, .iload_n 3, 1), (15, .imul, 1), (16, .iadd, 1), (17, .aload_n 0, 1), (18, .getfield 18, 3), (21, .aload_n 0, 1), (22, .getfield 9, 3), (25, .imul, 1), (26, .if_icmp .gt 5, 3), (29, .iload_n 3, 1), (30, .ireturn, 1), (31, .iinc 3 (-1), 3), (34, .goto (-31), 3), (37, .iconst (-1), 1), (38, .ireturn, 1)]
set_option maxRecDepth 100000 in
theorem okX7_lastYear : dtab cX7_lastYear tX7_lastYear = true := by decide +kernel
def tX8_init : List (Nat × Instr × Nat) := [(0, .aload_n 0, 1), (1, .invokespecial 3, 3), (4, .aload_n 0, 1), (5, .iconst 4, 1), (6, .putfield 9, 3), (9, .aload_n 0, 1), (10, .iconst 0, 1), (11, .putfield 15, 3), (14, .return_, 1)]
set_option maxRecDepth 100000 in
theorem okX8_init : dtab cX8_init tX8_init = true := by decide +kernel
def tX8_isOpen : List (Nat × Instr × Nat) := [(0, .aload_n 0, 1), (1, .getfield 9, 3), (4, .iload_n 1, 1), (5, .ishr, 1), (6, .iconst 1, 1), (7, .iand, 1), (8, .ifCond .eq 7, 3), (11, .iconst 1, 1), (12, .goto 4, 3), (15, .iconst 0, 1), (16, .ireturn, 1)]
set_option maxRecDepth 100000 in
theorem okX8_isOpen : dtab cX8_isOpen tX8_isOpen = true := by decide +kernel
def tX8_mayOpen : List (Nat × Instr × Nat) := [(0, .iload_n 1, 1), (1, .tableswitch 96 0 3 #[31, 31, 53, 75], 31), (32, .aload_n 0, 1), (33, .iconst 3, 1), (34, .invokevirtual 19, 3), (37, .ifCond .ne 15, 3), (40, .aload_n 0, 1), (41, .iconst 2, 1), (42, .invokevirtual 19, 3), (45, .ifCond .ne 7, 3), (48, .iconst 1, 1), (49, .goto 4, 3), (52, .iconst 0, 1), (53, .ireturn, 1), (54, .aload_n 0, 1), (55, .iconst 0, 1), (56, .invokevirtual 19, 3), (59, .ifCond .ne 15, 3), (62, .aload_n 0, 1), (63, .iconst 1, 1), (64, .invokevirtual 19, 3), (67, .ifCond .ne 7, 3), (70, .iconst 1, 1), (71, .goto 4, 3), (74, .iconst 0, 1), (75, .ireturn, 1), (76, .aload_n 0, 1), (77, .getfield 15, 3), (80, .ifCond .ne 15, 3), (83, .aload_n 0, 1), (84, .iconst 2, 1), (85, .invokevirtual 19, 3), (88, .ifCond .eq 7, 3), (91, .iconst 1, 1), (92, .goto 4, 3), (95, .iconst 0, 1), (96, .ireturn, 1), (97, .iconst 0, 1), (98, .ireturn, 1)]
set_option maxRecDepth 100000 in
theorem okX8_mayOpen : dtab cX8_mayOpen tX8_mayOpen = true := by decide +kernel
def tX8_open : List (Nat × Instr × Nat) := [(0, .aload_n 0, 1), (1, .dup, 1), (2, .getfield 9, 3), (5, .iconst 1, 1), (6, .iload_n 1, 1), (7, .ishl, 1), (8, .ior, 1), (9, .putfield 9, 3), (12, .iload_n 1, 1), (13, .ifCond .eq 8, 3), (16, .iload_n 1, 1), (17, .iconst 1, 1), (18, .if_icmp .ne 11, 3), (21, .aload_n 0, 1), (22, .iconst 1, 1), (23, .putfield 15, 3), (26, .goto 13, 3), (29, .iload_n 1, 1), (30, .iconst 2, 1), (31, .if_icmp .ne 8, 3), (34, .aload_n 0, 1), (35, .iconst 0, 1), (36, .putfield 15, 3), (39, .return_, 1)]
set_option maxRecDepth 100000 in
theorem okX8_open : dtab cX8_open tX8_open = true := by decide +kernel
def tX8_shut : List (Nat × Instr × Nat) := [(0, .aload_n 0, 1), (1, .dup, 1), (2, .getfield 9, 3), (5, .iconst 1, 1), (6, .iload_n 1, 1), (7, .ishl, 1), (8, .iconst (-1), 1), (9, .ixor, 1), (10, .iand, 1), (11, .putfield 9, 3), (14, .return_, 1)]
set_option maxRecDepth 100000 in
theorem okX8_shut : dtab cX8_shut tX8_shut = true := by decide +kernel
def tX9_init : List (Nat × Instr × Nat) := [(0, .aload_n 0, 1), (1, .invokespecial 1, 3), (4, .aload_n 0, 1), (5, .new 7, 3), (8, .dup, 1), (9, .invokespecial 9, 3), (12, .putfield 10, 3), (15, .aload_n 0, 1), (16, .new 7, 3), (19, .dup, 1), (20, .invokespecial 9, 3), (23, .putfield 16, 3), (26, .aload_n 0, 1), (27, .new 19, 3), (30, .dup, 1), (31, .invokespecial 21, 3), (34, .putfield 22, 3), (37, .aload_n 0, 1), (38, .new 26, 3), (41, .dup, 1), (42, .invokespecial 28, 3), (45, .putfield 29, 3), (48, .aload_n 0, 1), (49, .new 33, 3), (52, .dup, 1), (53, .invokespecial 35, 3), (56, .putfield 36, 3), (59, .aload_n 0, 1), (60, .new 40, 3), (63, .dup, 1), (64, .invokespecial 42, 3), (67, .putfield 43, 3), (70, .aload_n 0, 1), (71, .new 47, 3), (74, .dup, 1), (75, .invokespecial 49, 3), (78, .putfield 50, 3), (81, .aload_n 0, 1), (82, .bipush 50, 2), (84, .putfield 54, 3), (87, .aload_n 0, 1), (88, .iconst 1, 1), (89, .putfield 58, 3), (92, .aload_n 0, 1), (93, .iconst 0, 1), (94, .putfield 61, 3), (97, .return_, 1)]
set_option maxRecDepth 100000 in
theorem okX9_init : dtab cX9_init tX9_init = true := by decide +kernel
def tX9_reel : List (Nat × Instr × Nat) := [(0, .aload_n 0, 1), (1, .iload_n 1, 1), (2, .invokevirtual 64, 3), (5, .astore 4, 2), (7, .aload 4, 2), (9, .ifnull 17, 3), (12, .iload_n 2, 1), (13, .invokestatic 68, 3), (16, .ifCond .eq 10, 3), (19, .iload_n 3, 1), (20, .sipush 150, 3), (23, .if_icmp .le 6, 3), (26, .bipush (-2), 2), (28, .ireturn, 1), (29, .iload_n 3, 1), (30, .ifCond .ge 9, 3), (33, .aload_n 0, 1), (34, .iconst 5, 1), (35, .invokevirtual 72, 3), (38, .ireturn, 1), (39, .aload 4, 2), (41, .iload_n 2, 1), (42, .iload_n 3, 1), (43, .invokevirtual 76, 3), (46, .iload_n 3, 1), (47, .ireturn, 1)]
set_option maxRecDepth 100000 in
theorem okX9_reel : dtab cX9_reel tX9_reel = true := by decide +kernel
def tX9_lose : List (Nat × Instr × Nat) := [(0, .aload_n 0, 1), (1, .iload_n 1, 1), (2, .invokevirtual 64, 3), (5, .astore_n 2, 1), (6, .aload_n 2, 1), (7, .ifnonnull 6, 3), (10, .bipush (-2), 2), (12, .ireturn, 1), (13, .aload_n 2, 1), (14, .invokevirtual 82, 3), (17, .ifCond .eq 9, 3), (20, .aload_n 0, 1), (21, .iconst 1, 1), (22, .invokevirtual 72, 3), (25, .ireturn, 1), (26, .aload_n 2, 1), (27, .getfield 86, 3), (30, .istore_n 3, 1), (31, .aload_n 2, 1), (32, .invokevirtual 89, 3), (35, .iload_n 3, 1), (36, .ireturn, 1)]
set_option maxRecDepth 100000 in
theorem okX9_lose : dtab cX9_lose tX9_lose = true := by decide +kernel
def tX9_put : List (Nat × Instr × Nat) := [(0, .aload_n 0, 1), (1, .iload_n 1, 1), (2, .invokevirtual 64, 3), (5, .astore 5, 2), (7, .aload 5, 2), (9, .ifnull 10, 3), (12, .iload_n 2, 1), (13, .invokestatic 68, 3), (16, .ifCond .ne 6, 3), (19, .bipush (-2), 2), (21, .ireturn, 1), (22, .aload 5, 2), (24, .iload_n 2, 1), (25, .iload_n 3, 1), (26, .invokevirtual 92, 3), (29, .istore 6, 2), (31, .iload 6, 2), (33, .ifCond .eq 10, 3), (36, .aload_n 0, 1), (37, .iload 6, 2), (39, .invokevirtual 72, 3), (42, .ireturn, 1), (43, .aload 5, 2), (45, .iload_n 3, 1), (46, .iload 4, 2), (48, .invokevirtual 96, 3), (51, .iconst 1, 1), (52, .ireturn, 1)]
set_option maxRecDepth 100000 in
theorem okX9_put : dtab cX9_put tX9_put = true := by decide +kernel
def tX9_get : List (Nat × Instr × Nat) := [(0, .aload_n 0, 1), (1, .iload_n 1, 1), (2, .invokevirtual 64, 3), (5, .astore 4, 2), (7, .aload 4, 2), (9, .ifnull 10, 3), (12, .iload_n 2, 1), (13, .invokestatic 68, 3), (16, .ifCond .ne 6, 3), (19, .ldc 99, 2), (21, .ireturn, 1), (22, .aload 4, 2), (24, .iload_n 2, 1), (25, .iload_n 3, 1), (26, .invokevirtual 92, 3), (29, .istore 5, 2), (31, .iload 5, 2), (33, .ifCond .eq 13, 3), (36, .aload_n 0, 1), (37, .iload 5, 2), (39, .invokevirtual 72, 3), (42, .pop, 1), (43, .ldc 99, 2), (45, .ireturn, 1), (46, .aload 4, 2), (48, .getfield 100, 3), (51, .iload_n 3, 1), (52, .iaload, 1), (53, .ireturn, 1)]
set_option maxRecDepth 100000 in
theorem okX9_get : dtab cX9_get tX9_get = true := by decide +kernel
def tX9_copy : List (Nat × Instr × Nat) := [(0, .aload_n 0, 1), (1, .iload_n 1, 1), (2, .invokevirtual 64, 3), (5, .astore 6, 2), (7, .aload_n 0, 1), (8, .iload_n 3, 1), (9, .invokevirtual 64, 3), (12, .astore 7, 2), (14, .aload 6, 2), (16, .ifnull 8, 3), (19, .aload 7, 2), (21, .ifnonnull 6, 3), (24, .bipush (-2), 2), (26, .ireturn, 1), (27, .aload 6, 2), (29, .invokevirtual 82, 3), (32, .ifCond .ne 11, 3), (35, .aload 7, 2), (37, .invokevirtual 82, 3), (40, .ifCond .eq 9, 3), (43, .aload_n 0, 1), (44, .iconst 1, 1), (45, .invokevirtual 72, 3), (48, .ireturn, 1), (49, .aload 6, 2), (51, .getfield 104, 3), (54, .aload 7, 2), (56, .getfield 104, 3), (59, .if_icmp .eq 9, 3), (62, .aload_n 0, 1), (63, .iconst 4, 1), (64, .invokevirtual 72, 3), (67, .ireturn, 1), (68, .aload 6, 2), (70, .iload_n 2, 1), (71, .iload 5, 2), (73, .invokevirtual 107, 3), (76, .ifCond .eq 15, 3), (79, .aload 7, 2), (81, .iload 4, 2), (83, .iload 5, 2), (85, .invokevirtual 107, 3), (88, .ifCond .ne 9, 3), (91, .aload_n 0, 1), (92, .iconst 2, 1), (93, .invokevirtual 72, 3), (96, .ireturn, 1), (97, .aload 6, 2), (99, .getfield 100, 3), (102, .iload_n 2, 1), (103, .aload 7, 2), (105, .getfield 100, 3), (108, .iload 4, 2), (110, .iload 5, 2), (112, .invokestatic 111, 3), (115, .iconst 1, 1), (116, .ireturn, 1)]
set_option maxRecDepth 100000 in
theorem okX9_copy : dtab cX9_copy tX9_copy = true := by decide +kernel
def tX9_run : List (Nat × Instr × Nat) := [(0, .aload_n 0, 1), (1, .iload_n 1, 1), (2, .invokevirtual 117, 3), (5, .astore_n 3, 1), (6, .aload_n 3, 1), (7, .ifnull 12, 3), (10, .iload_n 2, 1), (11, .iconst 0, 1), (12, .iconst 3, 1), (13, .invokestatic 121, 3), (16, .ifCond .ne 6, 3), (19, .bipush (-2), 2), (21, .ireturn, 1), (22, .aload_n 3, 1), (23, .invokevirtual 125, 3), (26, .aload_n 3, 1), (27, .iload_n 2, 1), (28, .invokevirtual 128, 3), (31, .ireturn, 1)]
set_option maxRecDepth 100000 in
theorem okX9_run : dtab cX9_run tX9_run = true := by decide +kernel
def tX9_way : List (Nat × Instr × Nat) := [(0, .aload_n 0, 1), (1, .iload_n 1, 1), (2, .invokevirtual 117, 3), (5, .astore_n 3, 1), (6, .aload_n 3, 1), (7, .ifnonnull 6, 3), (10, .bipush (-2), 2), (12, .ireturn, 1), (13, .aload_n 3, 1), (14, .invokevirtual 125, 3), (17, .iload_n 2, 1), (18, .ifCond .lt 11, 3), (21, .iload_n 2, 1), (22, .aload_n 3, 1), (23, .getfield 131, 3), (26, .if_icmp .lt 6, 3), (29, .bipush (-2), 2), (31, .ireturn, 1), (32, .aload_n 3, 1), (33, .getfield 134, 3), (36, .iload_n 2, 1), (37, .iaload, 1), (38, .ireturn, 1)]
set_option maxRecDepth 100000 in
theorem okX9_way : dtab cX9_way tX9_way = true := by decide +kernel
def tX9_felt : List (Nat × Instr × Nat) := [(0, .aload_n 0, 1), (1, .iload_n 1, 1), (2, .invokevirtual 117, 3), (5, .astore 4, 2), (7, .aload 4, 2), (9, .ifnull 12, 3), (12, .iload_n 3, 1), (13, .iconst 0, 1), (14, .iconst 1, 1), (15, .invokestatic 121, 3), (18, .ifCond .ne 6, 3), (21, .bipush (-2), 2), (23, .ireturn, 1), (24, .aload 4, 2), (26, .invokevirtual 125, 3), (29, .iload_n 2, 1), (30, .ifCond .lt 12, 3), (33, .iload_n 2, 1), (34, .aload 4, 2), (36, .getfield 137, 3), (39, .if_icmp .lt 6, 3), (42, .bipush (-2), 2), (44, .ireturn, 1), (45, .iload_n 3, 1), (46, .ifCond .ne 13, 3), (49, .aload 4, 2), (51, .getfield 140, 3), (54, .iload_n 2, 1), (55, .iaload, 1), (56, .goto 10, 3), (59, .aload 4, 2), (61, .getfield 143, 3), (64, .iload_n 2, 1), (65, .iaload, 1), (66, .ireturn, 1)]
set_option maxRecDepth 100000 in
theorem okX9_felt : dtab cX9_felt tX9_felt = true := by decide +kernel
def tX9_joint : List (Nat × Instr × Nat) := [(0, .iload_n 1, 1), (1, .iconst 1, 1), (2, .ldc 146, 2), (4, .invokestatic 121, 3), (7, .ifCond .ne 6, 3), (10, .bipush (-2), 2), (12, .ireturn, 1), (13, .aload_n 0, 1), (14, .getfield 22, 3), (17, .iload_n 1, 1), (18, .invokevirtual 147, 3), (21, .ireturn, 1)]
set_option maxRecDepth 100000 in
theorem okX9_joint : dtab cX9_joint tX9_joint = true := by decide +kernel
def tX9_wipe : List (Nat × Instr × Nat) := [(0, .aload_n 0, 1), (1, .getfield 22, 3), (4, .getfield 150, 3), (7, .istore_n 1, 1), (8, .aload_n 0, 1), (9, .getfield 22, 3), (12, .iconst 0, 1), (13, .putfield 150, 3), (16, .iload_n 1, 1), (17, .ireturn, 1)]
set_option maxRecDepth 100000 in
theorem okX9_wipe : dtab cX9_wipe tX9_wipe = true := by decide +kernel
def tX9_costs : List (Nat × Instr × Nat) := [(0, .iload_n 1, 1), (1, .iconst 0, 1), (2, .ldc 151, 2), (4, .invokestatic 121, 3), (7, .ifCond .eq 13, 3), (10, .iload_n 2, 1), (11, .iconst 0, 1), (12, .ldc 151, 2), (14, .invokestatic 121, 3), (17, .ifCond .ne 6, 3), (20, .bipush (-2), 2), (22, .ireturn, 1), (23, .aload_n 0, 1), (24, .getfield 22, 3), (27, .iload_n 1, 1), (28, .putfield 152, 3), (31, .aload_n 0, 1), (32, .getfield 22, 3), (35, .iload_n 2, 1), (36, .putfield 155, 3), (39, .iconst 1, 1), (40, .ireturn, 1)]
set_option maxRecDepth 100000 in
theorem okX9_costs : dtab cX9_costs tX9_costs = true := by decide +kernel
def tX9_match : List (Nat × Instr × Nat) := [(0, .aload_n 0, 1), (1, .iload_n 1, 1), (2, .invokevirtual 117, 3), (5, .astore_n 2, 1), (6, .aload_n 2, 1), (7, .ifnonnull 6, 3), (10, .bipush (-2), 2), (12, .ireturn, 1), (13, .aload_n 2, 1), (14, .invokevirtual 125, 3), (17, .aload_n 0, 1), (18, .getfield 22, 3), (21, .aload_n 2, 1), (22, .invokevirtual 158, 3), (25, .ireturn, 1)]
set_option maxRecDepth 100000 in
theorem okX9_match : dtab cX9_match tX9_match = true := by decide +kernel
def tX9_paired : List (Nat × Instr × Nat) := [(0, .aload_n 0, 1), (1, .iload_n 1, 1), (2, .invokevirtual 117, 3), (5, .astore_n 3, 1), (6, .aload_n 3, 1), (7, .ifnull 14, 3), (10, .aload_n 0, 1), (11, .getfield 22, 3), (14, .iload_n 2, 1), (15, .invokevirtual 162, 3), (18, .ifCond .ne 6, 3), (21, .bipush (-2), 2), (23, .ireturn, 1), (24, .aload_n 3, 1), (25, .invokevirtual 125, 3), (28, .aload_n 0, 1), (29, .getfield 22, 3), (32, .aload_n 3, 1), (33, .invokevirtual 165, 3), (36, .aload_n 3, 1), (37, .getfield 169, 3), (40, .iload_n 2, 1), (41, .iaload, 1), (42, .ireturn, 1)]
set_option maxRecDepth 100000 in
theorem okX9_paired : dtab cX9_paired tX9_paired = true := by decide +kernel
def tX9_mark : List (Nat × Instr × Nat) := [(0, .aload_n 0, 1), (1, .iload_n 1, 1), (2, .invokevirtual 117, 3), (5, .astore 6, 2), (7, .aload 6, 2), (9, .ifnull 46, 3), (12, .iload_n 2, 1), (13, .iconst 0, 1), (14, .ldc 172, 2), (16, .invokestatic 121, 3), (19, .ifCond .eq 36, 3), (22, .iload_n 3, 1), (23, .iconst 0, 1), (24, .bipush 11, 2), (26, .invokestatic 121, 3), (29, .ifCond .eq 26, 3), (32, .iload 4, 2), (34, .iconst 0, 1), (35, .bipush 100, 2), (37, .invokestatic 121, 3), (40, .ifCond .eq 15, 3), (43, .iload 5, 2), (45, .iconst 0, 1), (46, .sipush 10000, 3), (49, .invokestatic 121, 3), (52, .ifCond .ne 6, 3), (55, .bipush (-2), 2), (57, .ireturn, 1), (58, .aload 6, 2), (60, .getfield 173, 3), (63, .iload_n 2, 1), (64, .iload_n 3, 1), (65, .iload 4, 2), (67, .iload 5, 2), (69, .invokevirtual 177, 3), (72, .ireturn, 1)]
set_option maxRecDepth 100000 in
theorem okX9_mark : dtab cX9_mark tX9_mark = true := by decide +kernel
def tX9_clear : List (Nat × Instr × Nat) := [(0, .aload_n 0, 1), (1, .iload_n 1, 1), (2, .invokevirtual 117, 3), (5, .astore_n 2, 1), (6, .aload_n 2, 1), (7, .ifnonnull 6, 3), (10, .bipush (-2), 2), (12, .ireturn, 1), (13, .aload_n 2, 1), (14, .getfield 173, 3), (17, .getfield 182, 3), (20, .istore_n 3, 1), (21, .aload_n 2, 1), (22, .getfield 173, 3), (25, .iconst 0, 1), (26, .putfield 182, 3), (29, .iload_n 3, 1), (30, .ireturn, 1)]
set_option maxRecDepth 100000 in
theorem okX9_clear : dtab cX9_clear tX9_clear = true := by decide +kernel
def tX9_about : List (Nat × Instr × Nat) := [(0, .aload_n 0, 1), (1, .iload_n 1, 1), (2, .invokevirtual 117, 3), (5, .astore 4, 2), (7, .aload 4, 2), (9, .ifnull 24, 3), (12, .aload 4, 2), (14, .getfield 173, 3), (17, .iload_n 2, 1), (18, .invokevirtual 183, 3), (21, .ifCond .eq 12, 3), (24, .iload_n 3, 1), (25, .iconst 0, 1), (26, .iconst 5, 1), (27, .invokestatic 121, 3), (30, .ifCond .ne 6, 3), (33, .bipush (-2), 2), (35, .ireturn, 1), (36, .iload_n 3, 1), (37, .iconst 4, 1), (38, .if_icmp .ne 8, 3), (41, .aload 4, 2), (43, .invokevirtual 125, 3), (46, .iload_n 3, 1), (47, .iconst 5, 1), (48, .if_icmp .ne 19, 3), (51, .aload 4, 2), (53, .getfield 173, 3), (56, .aload_n 0, 1), (57, .getfield 54, 3), (60, .aload_n 0, 1), (61, .getfield 58, 3), (64, .invokevirtual 186, 3), (67, .aload 4, 2), (69, .iload_n 2, 1), (70, .iload_n 3, 1), (71, .invokevirtual 189, 3), (74, .ireturn, 1)]
set_option maxRecDepth 100000 in
theorem okX9_about : dtab cX9_about tX9_about = true := by decide +kernel
def tX9_near : List (Nat × Instr × Nat) := [(0, .iload_n 1, 1), (1, .iconst 0, 1), (2, .ldc 146, 2), (4, .invokestatic 121, 3), (7, .ifCond .eq 13, 3), (10, .iload_n 2, 1), (11, .iconst 0, 1), (12, .bipush 6, 2), (14, .invokestatic 121, 3), (17, .ifCond .ne 6, 3), (20, .bipush (-2), 2), (22, .ireturn, 1), (23, .aload_n 0, 1), (24, .iload_n 1, 1), (25, .putfield 54, 3), (28, .aload_n 0, 1), (29, .iload_n 2, 1), (30, .putfield 58, 3), (33, .iconst 1, 1), (34, .ireturn, 1)]
set_option maxRecDepth 100000 in
theorem okX9_near : dtab cX9_near tX9_near = true := by decide +kernel
def tX9_groups : List (Nat × Instr × Nat) := [(0, .aload_n 0, 1), (1, .iload_n 1, 1), (2, .invokevirtual 117, 3), (5, .astore_n 2, 1), (6, .aload_n 2, 1), (7, .ifnonnull 6, 3), (10, .bipush (-2), 2), (12, .ireturn, 1), (13, .aload_n 2, 1), (14, .getfield 173, 3), (17, .aload_n 0, 1), (18, .getfield 54, 3), (21, .aload_n 0, 1), (22, .getfield 58, 3), (25, .invokevirtual 186, 3), (28, .aload_n 2, 1), (29, .getfield 173, 3), (32, .getfield 192, 3), (35, .ireturn, 1)]
set_option maxRecDepth 100000 in
theorem okX9_groups : dtab cX9_groups tX9_groups = true := by decide +kernel
def tX9_group : List (Nat × Instr × Nat) := [(0, .aload_n 0, 1), (1, .iload_n 1, 1), (2, .invokevirtual 117, 3), (5, .astore 4, 2), (7, .aload 4, 2), (9, .ifnull 12, 3), (12, .iload_n 3, 1), (13, .iconst 0, 1), (14, .iconst 4, 1), (15, .invokestatic 121, 3), (18, .ifCond .ne 6, 3), (21, .bipush (-2), 2), (23, .ireturn, 1), (24, .aload 4, 2), (26, .getfield 173, 3), (29, .aload_n 0, 1), (30, .getfield 54, 3), (33, .aload_n 0, 1), (34, .getfield 58, 3), (37, .invokevirtual 186, 3), (40, .iload_n 2, 1), (41, .ifCond .lt 15, 3), (44, .iload_n 2, 1), (45, .aload 4, 2), (47, .getfield 173, 3), (50, .getfield 192, 3), (53, .if_icmp .lt 6, 3), (56, .bipush (-2), 2), (58, .ireturn, 1), (59, .aload 4, 2), (61, .getfield 173, 3), (64, .iload_n 2, 1), (65, .iload_n 3, 1), (66, .invokevirtual 195, 3), (69, .ireturn, 1)]
set_option maxRecDepth 100000 in
theorem okX9_group : dtab cX9_group tX9_group = true := by decide +kernel
def tX9_alone : List (Nat × Instr × Nat) := [(0, .iload_n 1, 1), (1, .iconst 0, 1), (2, .ldc 146, 2), (4, .invokestatic 121, 3), (7, .ifCond .ne 6, 3), (10, .bipush (-2), 2), (12, .ireturn, 1), (13, .aload_n 0, 1), (14, .getfield 29, 3), (17, .getfield 198, 3), (20, .istore_n 2, 1), (21, .aload_n 0, 1), (22, .getfield 29, 3), (25, .iload_n 1, 1), (26, .putfield 198, 3), (29, .iload_n 2, 1), (30, .ireturn, 1)]
set_option maxRecDepth 100000 in
theorem okX9_alone : dtab cX9_alone tX9_alone = true := by decide +kernel
def tX9_pairing : List (Nat × Instr × Nat) := [(0, .aload_n 0, 1), (1, .getfield 22, 3), (4, .iload_n 1, 1), (5, .invokevirtual 162, 3), (8, .ifCond .ne 6, 3), (11, .bipush (-2), 2), (13, .ireturn, 1), (14, .aload_n 0, 1), (15, .invokevirtual 201, 3), (18, .aload_n 0, 1), (19, .getfield 29, 3), (22, .aload_n 0, 1), (23, .getfield 10, 3), (26, .aload_n 0, 1), (27, .getfield 10, 3), (30, .getfield 169, 3), (33, .iload_n 1, 1), (34, .iaload, 1), (35, .aload_n 0, 1), (36, .getfield 16, 3), (39, .aload_n 0, 1), (40, .getfield 16, 3), (43, .getfield 169, 3), (46, .iload_n 1, 1), (47, .iaload, 1), (48, .invokevirtual 204, 3), (51, .ireturn, 1)]
set_option maxRecDepth 100000 in
theorem okX9_pairing : dtab cX9_pairing tX9_pairing = true := by decide +kernel
def tX9_twin : List (Nat × Instr × Nat) := [(0, .aload_n 0, 1), (1, .getfield 10, 3), (4, .getfield 173, 3), (7, .iload_n 1, 1), (8, .invokevirtual 183, 3), (11, .ifCond .ne 6, 3), (14, .bipush (-2), 2), (16, .ireturn, 1), (17, .aload_n 0, 1), (18, .iload_n 1, 1), (19, .invokevirtual 207, 3), (22, .ireturn, 1)]
set_option maxRecDepth 100000 in
theorem okX9_twin : dtab cX9_twin tX9_twin = true := by decide +kernel
def tX9_tool : List (Nat × Instr × Nat) := [(0, .iload_n 1, 1), (1, .iconst 1, 1), (2, .bipush 50, 2), (4, .invokestatic 121, 3), (7, .ifCond .eq 23, 3), (10, .iload_n 2, 1), (11, .iconst 0, 1), (12, .bipush 50, 2), (14, .invokestatic 121, 3), (17, .ifCond .eq 13, 3), (20, .iload_n 3, 1), (21, .iconst 0, 1), (22, .bipush 100, 2), (24, .invokestatic 121, 3), (27, .ifCond .ne 6, 3), (30, .bipush (-2), 2), (32, .ireturn, 1), (33, .aload_n 0, 1), (34, .getfield 36, 3), (37, .iload_n 1, 1), (38, .putfield 210, 3), (41, .aload_n 0, 1), (42, .getfield 36, 3), (45, .iload_n 2, 1), (46, .putfield 213, 3), (49, .aload_n 0, 1), (50, .getfield 36, 3), (53, .iload_n 3, 1), (54, .putfield 216, 3), (57, .iconst 1, 1), (58, .ireturn, 1)]
set_option maxRecDepth 100000 in
theorem okX9_tool : dtab cX9_tool tX9_tool = true := by decide +kernel
def tX9_growth : List (Nat × Instr × Nat) := [(0, .aload_n 0, 1), (1, .getfield 10, 3), (4, .getfield 173, 3), (7, .iload_n 1, 1), (8, .invokevirtual 183, 3), (11, .ifCond .eq 12, 3), (14, .iload_n 2, 1), (15, .iconst 0, 1), (16, .iconst 2, 1), (17, .invokestatic 121, 3), (20, .ifCond .ne 6, 3), (23, .bipush (-2), 2), (25, .ireturn, 1), (26, .aload_n 0, 1), (27, .iload_n 1, 1), (28, .invokevirtual 207, 3), (31, .istore_n 3, 1), (32, .aload_n 0, 1), (33, .getfield 16, 3), (36, .getfield 173, 3), (39, .iload_n 3, 1), (40, .invokevirtual 183, 3), (43, .ifCond .ne 6, 3), (46, .bipush (-4), 2), (48, .ireturn, 1), (49, .aload_n 0, 1), (50, .getfield 36, 3), (53, .aload_n 0, 1), (54, .getfield 10, 3), (57, .getfield 173, 3), (60, .getfield 219, 3), (63, .iload_n 1, 1), (64, .iaload, 1), (65, .aload_n 0, 1), (66, .getfield 16, 3), (69, .getfield 173, 3), (72, .getfield 219, 3), (75, .iload_n 3, 1), (76, .iaload, 1), (77, .iload_n 2, 1), (78, .invokevirtual 222, 3), (81, .ireturn, 1)]
set_option maxRecDepth 100000 in
theorem okX9_growth : dtab cX9_growth tX9_growth = true := by decide +kernel
def tX9_work : List (Nat × Instr × Nat) := [(0, .iload_n 1, 1), (1, .iconst 1, 1), (2, .sipush 1000, 3), (5, .invokestatic 121, 3), (8, .ifCond .eq 13, 3), (11, .iload_n 2, 1), (12, .iconst 1, 1), (13, .bipush 8, 2), (15, .invokestatic 121, 3), (18, .ifCond .ne 6, 3), (21, .bipush (-2), 2), (23, .ireturn, 1), (24, .aload_n 0, 1), (25, .getfield 43, 3), (28, .iload_n 1, 1), (29, .iload_n 2, 1), (30, .invokevirtual 225, 3), (33, .ireturn, 1)]
set_option maxRecDepth 100000 in
theorem okX9_work : dtab cX9_work tX9_work = true := by decide +kernel
def tX9_yearly : List (Nat × Instr × Nat) := [(0, .iload_n 1, 1), (1, .iconst 1, 1), (2, .bipush 30, 2), (4, .invokestatic 121, 3), (7, .ifCond .eq 14, 3), (10, .iload_n 2, 1), (11, .iconst 0, 1), (12, .sipush 10000, 3), (15, .invokestatic 121, 3), (18, .ifCond .ne 6, 3), (21, .bipush (-2), 2), (23, .ireturn, 1), (24, .aload_n 0, 1), (25, .getfield 43, 3), (28, .iload_n 1, 1), (29, .putfield 227, 3), (32, .aload_n 0, 1), (33, .getfield 43, 3), (36, .iload_n 2, 1), (37, .putfield 230, 3), (40, .iconst 1, 1), (41, .ireturn, 1)]
set_option maxRecDepth 100000 in
theorem okX9_yearly : dtab cX9_yearly tX9_yearly = true := by decide +kernel
def tX9_plan : List (Nat × Instr × Nat) := [(0, .aload_n 0, 1), (1, .getfield 43, 3), (4, .invokevirtual 233, 3), (7, .istore_n 1, 1), (8, .iload_n 1, 1), (9, .iconst (-1), 1), (10, .if_icmp .ne 8, 3), (13, .bipush (-4), 2), (15, .goto 11, 3), (18, .aload_n 0, 1), (19, .getfield 43, 3), (22, .iload_n 1, 1), (23, .invokevirtual 237, 3), (26, .ireturn, 1)]
set_option maxRecDepth 100000 in
theorem okX9_plan : dtab cX9_plan tX9_plan = true := by decide +kernel
def tX9_years : List (Nat × Instr × Nat) := [(0, .aload_n 0, 1), (1, .getfield 43, 3), (4, .invokevirtual 233, 3), (7, .istore_n 1, 1), (8, .iload_n 1, 1), (9, .iconst (-1), 1), (10, .if_icmp .ne 8, 3), (13, .bipush (-4), 2), (15, .goto 4, 3), (18, .iload_n 1, 1), (19, .ireturn, 1)]
set_option maxRecDepth 100000 in
theorem okX9_years : dtab cX9_years tX9_years = true := by decide +kernel
def tX9_when : List (Nat × Instr × Nat) := [(0, .iload_n 1, 1), (1, .ifCond .lt 14, 3), (4, .iload_n 1, 1), (5, .aload_n 0, 1), (6, .getfield 43, 3), (9, .getfield 240, 3), (12, .if_icmp .lt 6, 3), (15, .bipush (-2), 2), (17, .ireturn, 1), (18, .aload_n 0, 1), (19, .getfield 43, 3), (22, .invokevirtual 233, 3), (25, .istore_n 2, 1), (26, .iload_n 2, 1), (27, .iconst (-1), 1), (28, .if_icmp .ne 8, 3), (31, .bipush (-4), 2), (33, .goto 12, 3), (36, .aload_n 0, 1), (37, .getfield 43, 3), (40, .iload_n 1, 1), (41, .iload_n 2, 1), (42, .invokevirtual 241, 3), (45, .ireturn, 1)]
set_option maxRecDepth 100000 in
theorem okX9_when : dtab cX9_when tX9_when = true := by decide +kernel
def tX9_trap : List (Nat × Instr × Nat) := [(0, .iload_n 1, 1), (1, .iconst 0, 1), (2, .iconst 3, 1), (3, .invokestatic 121, 3), (6, .ifCond .ne 6, 3), (9, .bipush (-2), 2), (11, .ireturn, 1), (12, .aload_n 0, 1), (13, .getfield 50, 3), (16, .iload_n 1, 1), (17, .invokevirtual 244, 3), (20, .iload_n 2, 1), (21, .if_icmp .ne 5, 3), (24, .iconst 0, 1), (25, .ireturn, 1), (26, .iload_n 2, 1), (27, .ifCond .ne 13, 3), (30, .aload_n 0, 1), (31, .getfield 50, 3), (34, .iload_n 1, 1), (35, .invokevirtual 247, 3), (38, .iconst 1, 1), (39, .ireturn, 1), (40, .aload_n 0, 1), (41, .getfield 50, 3), (44, .iload_n 1, 1), (45, .invokevirtual 251, 3), (48, .ifCond .ne 6, 3), (51, .bipush (-4), 2), (53, .ireturn, 1), (54, .aload_n 0, 1), (55, .getfield 50, 3), (58, .iload_n 1, 1), (59, .invokevirtual 254, 3), (62, .iconst 1, 1), (63, .ireturn, 1)]
set_option maxRecDepth 100000 in
theorem okX9_trap : dtab cX9_trap tX9_trap = true := by decide +kernel
def tX9_count : List (Nat × Instr × Nat) := [(0, .iload_n 1, 1), (1, .tableswitch 110 0 6 #[43, 51, 62, 73, 81, 89, 105], 43), (44, .aload_n 0, 1), (45, .getfield 22, 3), (48, .getfield 150, 3), (51, .ireturn, 1), (52, .aload_n 0, 1), (53, .getfield 10, 3), (56, .getfield 173, 3), (59, .getfield 182, 3), (62, .ireturn, 1), (63, .aload_n 0, 1), (64, .getfield 16, 3), (67, .getfield 173, 3), (70, .getfield 182, 3), (73, .ireturn, 1), (74, .aload_n 0, 1), (75, .getfield 43, 3), (78, .getfield 240, 3), (81, .ireturn, 1), (82, .aload_n 0, 1), (83, .getfield 50, 3), (86, .getfield 257, 3), (89, .ireturn, 1), (90, .aload_n 0, 1), (91, .getfield 50, 3), (94, .getfield 260, 3), (97, .ifCond .eq 7, 3), (100, .iconst 1, 1), (101, .goto 4, 3), (104, .iconst 0, 1), (105, .ireturn, 1), (106, .aload_n 0, 1), (107, .getfield 61, 3), (110, .ireturn, 1), (111, .bipush (-2), 2), (113, .ireturn, 1)]
set_option maxRecDepth 100000 in
theorem okX9_count : dtab cX9_count tX9_count = true := by decide +kernel
def tX9_digest : List (Nat × Instr × Nat) := [(0, .ldc2_w 264, 3), (3, .lstore_n 1, 1), (4, .iconst 0, 1), (5, .istore_n 3, 1), (6, .iload_n 3, 1), (7, .iconst 5, 1), (8, .if_icmp .gt 22, 3), (11, .ldc2_w 266, 3), (14, .lload_n 1, 1), (15, .lmul, 1), (16, .aload_n 0, 1), (17, .iload_n 3, 1), (18, .invokevirtual 268, 3), (21, .i2l, 1), (22, .ladd, 1), (23, .lstore_n 1, 1), (24, .iinc 3 1, 3), (27, .goto (-21), 3), (30, .aload_n 0, 1), (31, .lload_n 1, 1), (32, .aload_n 0, 1), (33, .getfield 10, 3), (36, .invokevirtual 271, 3), (39, .lstore_n 1, 1), (40, .aload_n 0, 1), (41, .lload_n 1, 1), (42, .aload_n 0, 1), (43, .getfield 16, 3), (46, .invokevirtual 271, 3), (49, .lreturn, 1)]
set_option maxRecDepth 100000 in
theorem okX9_digest : dtab cX9_digest tX9_digest = true := by decide +kernel
def tX9_isWithin : List (Nat × Instr × Nat) := [(0, .iload_n 0, 1), (1, .iload_n 1, 1), (2, .if_icmp .lt 12, 3), (5, .iload_n 0, 1), (6, .iload_n 2, 1), (7, .if_icmp .gt 7, 3), (10, .iconst 1, 1), (11, .goto 4, 3), (14, .iconst 0, 1), (15, .ireturn, 1)]
set_option maxRecDepth 100000 in
theorem okX9_isWithin : dtab cX9_isWithin tX9_isWithin = true := by decide +kernel
def tX9_isForm : List (Nat × Instr × Nat) := [(0, .iload_n 0, 1), (1, .iconst 0, 1), (2, .iconst 2, 1), (3, .invokestatic 121, 3), (6, .ireturn, 1)]
set_option maxRecDepth 100000 in
theorem okX9_isForm : dtab cX9_isForm tX9_isForm = true := by decide +kernel
def tX9_hoursApart : List (Nat × Instr × Nat) := [(0, .iload_n 0, 1), (1, .iload_n 1, 1), (2, .isub, 1), (3, .invokestatic 275, 3), (6, .istore_n 2, 1), (7, .iload_n 2, 1), (8, .bipush 12, 2), (10, .iload_n 2, 1), (11, .isub, 1), (12, .invokestatic 280, 3), (15, .ireturn, 1)]
set_option maxRecDepth 100000 in
theorem okX9_hoursApart : dtab cX9_hoursApart tX9_hoursApart = true := by decide +kernel
def tX9_found : List (Nat × Instr × Nat) := [(0, .aload_n 0, 1), (1, .iload_n 1, 1), (2, .putfield 61, 3), (5, .bipush (-10), 2), (7, .iload_n 1, 1), (8, .isub, 1), (9, .ireturn, 1)]
set_option maxRecDepth 100000 in
theorem okX9_found : dtab cX9_found tX9_found = true := by decide +kernel
def tX9_runAt : List (Nat × Instr × Nat) := [(0, .iload_n 1, 1), (1, .ifCond .ne 8, 3), (4, .aload_n 0, 1), (5, .getfield 10, 3), (8, .areturn, 1), (9, .iload_n 1, 1), (10, .iconst 1, 1), (11, .if_icmp .ne 10, 3), (14, .aload_n 0, 1), (15, .getfield 16, 3), (18, .goto 4, 3), (21, .aconst_null, 1), (22, .areturn, 1)]
set_option maxRecDepth 100000 in
theorem okX9_runAt : dtab cX9_runAt tX9_runAt = true := by decide +kernel
def tX9_reelAt : List (Nat × Instr × Nat) := [(0, .iload_n 1, 1), (1, .ifCond .ge 5, 3), (4, .aconst_null, 1), (5, .areturn, 1), (6, .aload_n 0, 1), (7, .iload_n 1, 1), (8, .iconst 4, 1), (9, .idiv, 1), (10, .invokevirtual 117, 3), (13, .astore_n 2, 1), (14, .aload_n 2, 1), (15, .ifnonnull 7, 3), (18, .aconst_null, 1), (19, .goto 10, 3), (22, .aload_n 2, 1), (23, .iload_n 1, 1), (24, .iconst 4, 1), (25, .irem, 1), (26, .invokevirtual 283, 3), (29, .areturn, 1)]
set_option maxRecDepth 100000 in
theorem okX9_reelAt : dtab cX9_reelAt tX9_reelAt = true := by decide +kernel
def tX9_matchBothRuns : List (Nat × Instr × Nat) := [(0, .aload_n 0, 1), (1, .getfield 10, 3), (4, .invokevirtual 125, 3), (7, .aload_n 0, 1), (8, .getfield 22, 3), (11, .aload_n 0, 1), (12, .getfield 10, 3), (15, .invokevirtual 165, 3), (18, .aload_n 0, 1), (19, .getfield 16, 3), (22, .invokevirtual 125, 3), (25, .aload_n 0, 1), (26, .getfield 22, 3), (29, .aload_n 0, 1), (30, .getfield 16, 3), (33, .invokevirtual 165, 3), (36, .return_, 1)]
set_option maxRecDepth 100000 in
theorem okX9_matchBothRuns : dtab cX9_matchBothRuns tX9_matchBothRuns = true := by decide +kernel
def tX9_twinOf : List (Nat × Instr × Nat) := [(0, .aload_n 0, 1), (1, .invokevirtual 201, 3), (4, .aload_n 0, 1), (5, .getfield 22, 3), (8, .aload_n 0, 1), (9, .getfield 10, 3), (12, .aload_n 0, 1), (13, .getfield 10, 3), (16, .aload_n 0, 1), (17, .getfield 10, 3), (20, .getfield 173, 3), (23, .getfield 284, 3), (26, .iload_n 1, 1), (27, .iaload, 1), (28, .invokevirtual 285, 3), (31, .invokevirtual 288, 3), (34, .istore_n 2, 1), (35, .iload_n 2, 1), (36, .iconst (-1), 1), (37, .if_icmp .ne 5, 3), (40, .iconst (-1), 1), (41, .ireturn, 1), (42, .aload_n 0, 1), (43, .getfield 29, 3), (46, .aload_n 0, 1), (47, .getfield 10, 3), (50, .aload_n 0, 1), (51, .getfield 10, 3), (54, .getfield 169, 3), (57, .iload_n 2, 1), (58, .iaload, 1), (59, .aload_n 0, 1), (60, .getfield 16, 3), (63, .aload_n 0, 1), (64, .getfield 16, 3), (67, .getfield 169, 3), (70, .iload_n 2, 1), (71, .iaload, 1), (72, .invokevirtual 204, 3), (75, .pop, 1), (76, .aload_n 0, 1), (77, .getfield 29, 3), (80, .iload_n 1, 1), (81, .invokevirtual 292, 3), (84, .ireturn, 1)]
set_option maxRecDepth 100000 in
theorem okX9_twinOf : dtab cX9_twinOf tX9_twinOf = true := by decide +kernel
def tX9_digestOfRun : List (Nat × Instr × Nat) := [(0, .lload_n 1, 1), (1, .lstore 4, 2), (3, .aload_n 3, 1), (4, .invokevirtual 125, 3), (7, .iconst 0, 1), (8, .istore 6, 2), (10, .iload 6, 2), (12, .iconst 3, 1), (13, .if_icmp .gt 25, 3), (16, .ldc2_w 266, 3), (19, .lload 4, 2), (21, .lmul, 1), (22, .aload_n 3, 1), (23, .iload 6, 2), (25, .invokevirtual 128, 3), (28, .i2l, 1), (29, .ladd, 1), (30, .lstore 4, 2), (32, .iinc 6 1, 3), (35, .goto (-25), 3), (38, .iconst 0, 1), (39, .istore 6, 2), (41, .iload 6, 2), (43, .aload_n 3, 1), (44, .getfield 137, 3), (47, .if_icmp .ge 26, 3), (50, .ldc2_w 266, 3), (53, .lload 4, 2), (55, .lmul, 1), (56, .aload_n 3, 1), (57, .getfield 143, 3), (60, .iload 6, 2), (62, .iaload, 1), (63, .i2l, 1), (64, .ladd, 1), (65, .lstore 4, 2), (67, .iinc 6 1, 3), (70, .goto (-29), 3), (73, .ldc2_w 266, 3), (76, .lload 4, 2), (78, .lmul, 1), (79, .aload_n 0, 1), (80, .getfield 22, 3), (83, .aload_n 3, 1), (84, .invokevirtual 158, 3), (87, .i2l, 1), (88, .ladd, 1), (89, .lstore 4, 2), (91, .aload_n 3, 1), (92, .getfield 173, 3), (95, .aload_n 0, 1), (96, .getfield 54, 3), (99, .aload_n 0, 1), (100, .getfield 58, 3), (103, .invokevirtual 186, 3), (106, .iconst 0, 1), (107, .istore 6, 2), (109, .iload 6, 2), (111, .aload_n 3, 1), (112, .getfield 173, 3), (115, .getfield 182, 3), (118, .if_icmp .ge 42, 3), (121, .iconst 0, 1), (122, .istore 7, 2), (124, .iload 7, 2), (126, .iconst 5, 1), (127, .if_icmp .gt 27, 3), (130, .ldc2_w 266, 3), (133, .lload 4, 2), (135, .lmul, 1), (136, .aload_n 3, 1), (137, .iload 6, 2), (139, .iload 7, 2), (141, .invokevirtual 189, 3), (144, .i2l, 1), (145, .ladd, 1), (146, .lstore 4, 2), (148, .iinc 7 1, 3), (151, .goto (-27), 3), (154, .iinc 6 1, 3), (157, .goto (-48), 3), (160, .lload 4, 2), (162, .lreturn, 1)]
set_option maxRecDepth 100000 in
theorem okX9_digestOfRun : dtab cX9_digestOfRun tX9_digestOfRun = true := by decide +kernel
def tX10_init : List (Nat × Instr × Nat) := [(0, .aload_n 0, 1), (1, .invokespecial 1, 3), (4, .aload_n 0, 1), (5, .bipush 8, 2), (7, .newarray .boolean, 2), (9, .putfield 7, 3), (12, .aload_n 0, 1), (13, .bipush 8, 2), (15, .newarray .int, 2), (17, .putfield 13, 3), (20, .aload_n 0, 1), (21, .bipush 8, 2), (23, .newarray .int, 2), (25, .putfield 17, 3), (28, .aload_n 0, 1), (29, .sipush 1200, 3), (32, .newarray .int, 2), (34, .putfield 20, 3), (37, .aload_n 0, 1), (38, .sipush 150, 3), (41, .newarray .int, 2), (43, .putfield 23, 3), (46, .aload_n 0, 1), (47, .sipush 150, 3), (50, .newarray .int, 2), (52, .putfield 26, 3), (55, .aload_n 0, 1), (56, .bipush 60, 2), (58, .newarray .int, 2), (60, .putfield 29, 3), (63, .aload_n 0, 1), (64, .bipush 60, 2), (66, .newarray .int, 2), (68, .putfield 32, 3), (71, .aload_n 0, 1), (72, .bipush 40, 2), (74, .newarray .int, 2), (76, .putfield 35, 3), (79, .aload_n 0, 1), (80, .bipush 100, 2), (82, .putfield 38, 3), (85, .aload_n 0, 1), (86, .bipush 100, 2), (88, .putfield 42, 3), (91, .aload_n 0, 1), (92, .sipush 2501, 3), (95, .newarray .int, 2), (97, .putfield 45, 3), (100, .aload_n 0, 1), (101, .bipush 40, 2), (103, .newarray .int, 2), (105, .putfield 48, 3), (108, .aload_n 0, 1), (109, .iconst 2, 1), (110, .newarray .int, 2), (112, .putfield 51, 3), (115, .aload_n 0, 1), (116, .bipush 80, 2), (118, .newarray .int, 2), (120, .putfield 54, 3), (123, .aload_n 0, 1), (124, .bipush 80, 2), (126, .newarray .int, 2), (128, .putfield 57, 3), (131, .aload_n 0, 1), (132, .bipush 80, 2), (134, .newarray .int, 2), (136, .putfield 60, 3), (139, .aload_n 0, 1), (140, .bipush 80, 2), (142, .newarray .int, 2), (144, .putfield 63, 3), (147, .aload_n 0, 1), (148, .bipush 50, 2), (150, .putfield 66, 3), (153, .aload_n 0, 1), (154, .iconst 1, 1), (155, .putfield 69, 3), (158, .aload_n 0, 1), (159, .bipush 40, 2), (161, .newarray .int, 2), (163, .putfield 72, 3), (166, .aload_n 0, 1), (167, .sipush 400, 3), (170, .putfield 75, 3), (173, .aload_n 0, 1), (174, .iconst 2, 1), (175, .newarray .int, 2), (177, .putfield 78, 3), (180, .aload_n 0, 1), (181, .bipush 10, 2), (183, .newarray .int, 2), (185, .putfield 81, 3), (188, .aload_n 0, 1), (189, .bipush 10, 2), (191, .newarray .int, 2), (193, .putfield 84, 3), (196, .aload_n 0, 1), (197, .iconst 5, 1), (198, .newarray .int, 2), (200, .putfield 87, 3), (203, .aload_n 0, 1), (204, .iconst 5, 1), (205, .newarray .int, 2), (207, .putfield 90, 3), (210, .aload_n 0, 1), (211, .iconst 5, 1), (212, .putfield 93, 3), (215, .aload_n 0, 1), (216, .iconst 5, 1), (217, .putfield 96, 3), (220, .aload_n 0, 1), (221, .bipush 80, 2), (223, .putfield 99, 3), (226, .aload_n 0, 1), (227, .bipush 30, 2), (229, .newarray .int, 2), (231, .putfield 102, 3), (234, .aload_n 0, 1), (235, .bipush 30, 2), (237, .newarray .int, 2), (239, .putfield 105, 3), (242, .aload_n 0, 1), (243, .iconst 4, 1), (244, .putfield 108, 3), (247, .aload_n 0, 1), (248, .sipush 500, 3), (251, .putfield 111, 3), (254, .aload_n 0, 1), (255, .iconst 4, 1), (256, .newarray .boolean, 2), (258, .putfield 114, 3), (261, .aload_n 0, 1), (262, .getfield 114, 3), (265, .iconst 2, 1), (266, .iconst 1, 1), (267, .bastore, 1), (268, .return_, 1)]
set_option maxRecDepth 100000 in
theorem okX10_init : dtab cX10_init tX10_init = true := by decide +kernel
def tX10_in : List (Nat × Instr × Nat) := [(0, .iload_n 0, 1), (1, .iload_n 1, 1), (2, .if_icmp .lt 12, 3), (5, .iload_n 0, 1), (6, .iload_n 2, 1), (7, .if_icmp .gt 7, 3), (10, .iconst 1, 1), (11, .goto 4, 3), (14, .iconst 0, 1), (15, .ireturn, 1)]
set_option maxRecDepth 100000 in
theorem okX10_in : dtab cX10_in tX10_in = true := by decide +kernel
def tX10_meets : List (Nat × Instr × Nat) := [(0, .aload_n 0, 1), (1, .iload_n 1, 1), (2, .putfield 117, 3), (5, .bipush (-10), 2), (7, .iload_n 1, 1), (8, .isub, 1), (9, .ireturn, 1)]
set_option maxRecDepth 100000 in
theorem okX10_meets : dtab cX10_meets tX10_meets = true := by decide +kernel
def tX10_isReel : List (Nat × Instr × Nat) := [(0, .iload_n 0, 1), (1, .iconst 0, 1), (2, .bipush 7, 2), (4, .invokestatic 120, 3), (7, .ireturn, 1)]
set_option maxRecDepth 100000 in
theorem okX10_isReel : dtab cX10_isReel tX10_isReel = true := by decide +kernel
def tX10_reel : List (Nat × Instr × Nat) := [(0, .iload_n 1, 1), (1, .invokestatic 124, 3), (4, .ifCond .eq 19, 3), (7, .iload_n 2, 1), (8, .iconst 0, 1), (9, .iconst 2, 1), (10, .invokestatic 120, 3), (13, .ifCond .eq 10, 3), (16, .iload_n 3, 1), (17, .sipush 150, 3), (20, .if_icmp .le 6, 3), (23, .bipush (-2), 2), (25, .ireturn, 1), (26, .iload_n 3, 1), (27, .ifCond .ge 9, 3), (30, .aload_n 0, 1), (31, .iconst 5, 1), (32, .invokevirtual 128, 3), (35, .ireturn, 1), (36, .aload_n 0, 1), (37, .getfield 7, 3), (40, .iload_n 1, 1), (41, .iconst 1, 1), (42, .bastore, 1), (43, .aload_n 0, 1), (44, .getfield 13, 3), (47, .iload_n 1, 1), (48, .iload_n 2, 1), (49, .iastore, 1), (50, .aload_n 0, 1), (51, .getfield 17, 3), (54, .iload_n 1, 1), (55, .iload_n 3, 1), (56, .iastore, 1), (57, .iconst 0, 1), (58, .istore 4, 2), (60, .iload 4, 2), (62, .sipush 150, 3), (65, .if_icmp .ge 23, 3), (68, .aload_n 0, 1), (69, .getfield 20, 3), (72, .sipush 150, 3), (75, .iload_n 1, 1), (76, .imul, 1), (77, .iload 4, 2), (79, .iadd, 1), (80, .iconst 0, 1), (81, .iastore, 1), (82, .iinc 4 1, 3), (85, .goto (-25), 3), (88, .iload_n 3, 1), (89, .ireturn, 1)]
set_option maxRecDepth 100000 in
theorem okX10_reel : dtab cX10_reel tX10_reel = true := by decide +kernel
def tX10_lose : List (Nat × Instr × Nat) := [(0, .iload_n 1, 1), (1, .invokestatic 124, 3), (4, .ifCond .ne 6, 3), (7, .bipush (-2), 2), (9, .ireturn, 1), (10, .aload_n 0, 1), (11, .getfield 7, 3), (14, .iload_n 1, 1), (15, .baload, 1), (16, .ifCond .ne 9, 3), (19, .aload_n 0, 1), (20, .iconst 1, 1), (21, .invokevirtual 128, 3), (24, .ireturn, 1), (25, .aload_n 0, 1), (26, .getfield 7, 3), (29, .iload_n 1, 1), (30, .iconst 0, 1), (31, .bastore, 1), (32, .aload_n 0, 1), (33, .getfield 17, 3), (36, .iload_n 1, 1), (37, .iaload, 1), (38, .ireturn, 1)]
set_option maxRecDepth 100000 in
theorem okX10_lose : dtab cX10_lose tX10_lose = true := by decide +kernel
def tX10_lacks : List (Nat × Instr × Nat) := [(0, .aload_n 0, 1), (1, .getfield 7, 3), (4, .iload_n 1, 1), (5, .baload, 1), (6, .ifCond .ne 7, 3), (9, .iconst 1, 1), (10, .goto 38, 3), (13, .aload_n 0, 1), (14, .getfield 13, 3), (17, .iload_n 1, 1), (18, .iaload, 1), (19, .iload_n 2, 1), (20, .if_icmp .eq 7, 3), (23, .iconst 3, 1), (24, .goto 24, 3), (27, .iload_n 3, 1), (28, .iconst 0, 1), (29, .aload_n 0, 1), (30, .getfield 17, 3), (33, .iload_n 1, 1), (34, .iaload, 1), (35, .iconst 1, 1), (36, .isub, 1), (37, .invokestatic 120, 3), (40, .ifCond .eq 7, 3), (43, .iconst 0, 1), (44, .goto 4, 3), (47, .iconst 2, 1), (48, .ireturn, 1)]
set_option maxRecDepth 100000 in
theorem okX10_lacks : dtab cX10_lacks tX10_lacks = true := by decide +kernel
def tX10_put : List (Nat × Instr × Nat) := [(0, .iload_n 1, 1), (1, .invokestatic 124, 3), (4, .ifCond .eq 12, 3), (7, .iload_n 2, 1), (8, .iconst 0, 1), (9, .iconst 2, 1), (10, .invokestatic 120, 3), (13, .ifCond .ne 6, 3), (16, .bipush (-2), 2), (18, .ireturn, 1), (19, .aload_n 0, 1), (20, .iload_n 1, 1), (21, .iload_n 2, 1), (22, .iload_n 3, 1), (23, .invokevirtual 132, 3), (26, .istore 5, 2), (28, .iload 5, 2), (30, .ifCond .le 10, 3), (33, .aload_n 0, 1), (34, .iload 5, 2), (36, .invokevirtual 128, 3), (39, .ireturn, 1), (40, .aload_n 0, 1), (41, .getfield 20, 3), (44, .sipush 150, 3), (47, .iload_n 1, 1), (48, .imul, 1), (49, .iload_n 3, 1), (50, .iadd, 1), (51, .iload_n 2, 1), (52, .ifCond .ne 9, 3), (55, .iload 4, 2), (57, .i2b, 1), (58, .goto 16, 3), (61, .iload_n 2, 1), (62, .iconst 1, 1), (63, .if_icmp .ne 9, 3), (66, .iload 4, 2), (68, .i2s, 1), (69, .goto 5, 3), (72, .iload 4, 2), (74, .iastore, 1), (75, .iconst 1, 1), (76, .ireturn, 1)]
set_option maxRecDepth 100000 in
theorem okX10_put : dtab cX10_put tX10_put = true := by decide +kernel
def tX10_get : List (Nat × Instr × Nat) := [(0, .iload_n 1, 1), (1, .invokestatic 124, 3), (4, .ifCond .eq 12, 3), (7, .iload_n 2, 1), (8, .iconst 0, 1), (9, .iconst 2, 1), (10, .invokestatic 120, 3), (13, .ifCond .ne 6, 3), (16, .ldc 136, 2), (18, .ireturn, 1), (19, .aload_n 0, 1), (20, .iload_n 1, 1), (21, .iload_n 2, 1), (22, .iload_n 3, 1), (23, .invokevirtual 132, 3), (26, .istore 4, 2), (28, .iload 4, 2), (30, .ifCond .le 12, 3), (33, .aload_n 0, 1), (34, .iload 4, 2), (36, .putfield 117, 3), (39, .ldc 136, 2), (41, .ireturn, 1), (42, .aload_n 0, 1), (43, .getfield 20, 3), (46, .sipush 150, 3), (49, .iload_n 1, 1), (50, .imul, 1), (51, .iload_n 3, 1), (52, .iadd, 1), (53, .iaload, 1), (54, .ireturn, 1)]
set_option maxRecDepth 100000 in
theorem okX10_get : dtab cX10_get tX10_get = true := by decide +kernel
def tX10_copy : List (Nat × Instr × Nat) := [(0, .iload_n 1, 1), (1, .invokestatic 124, 3), (4, .ifCond .eq 10, 3), (7, .iload_n 3, 1), (8, .invokestatic 124, 3), (11, .ifCond .ne 6, 3), (14, .bipush (-2), 2), (16, .ireturn, 1), (17, .aload_n 0, 1), (18, .getfield 7, 3), (21, .iload_n 1, 1), (22, .baload, 1), (23, .ifCond .eq 12, 3), (26, .aload_n 0, 1), (27, .getfield 7, 3), (30, .iload_n 3, 1), (31, .baload, 1), (32, .ifCond .ne 9, 3), (35, .aload_n 0, 1), (36, .iconst 1, 1), (37, .invokevirtual 128, 3), (40, .ireturn, 1), (41, .aload_n 0, 1), (42, .getfield 13, 3), (45, .iload_n 1, 1), (46, .iaload, 1), (47, .aload_n 0, 1), (48, .getfield 13, 3), (51, .iload_n 3, 1), (52, .iaload, 1), (53, .if_icmp .eq 9, 3), (56, .aload_n 0, 1), (57, .iconst 4, 1), (58, .invokevirtual 128, 3), (61, .ireturn, 1), (62, .iload_n 2, 1), (63, .ifCond .lt 48, 3), (66, .iload 4, 2), (68, .ifCond .lt 43, 3), (71, .iload 5, 2), (73, .ifCond .lt 38, 3), (76, .iload_n 2, 1), (77, .i2l, 1), (78, .iload 5, 2), (80, .i2l, 1), (81, .ladd, 1), (82, .aload_n 0, 1), (83, .getfield 17, 3), (86, .iload_n 1, 1), (87, .iaload, 1), (88, .i2l, 1), (89, .lcmp, 1), (90, .ifCond .gt 21, 3), (93, .iload 4, 2), (95, .i2l, 1), (96, .iload 5, 2), (98, .i2l, 1), (99, .ladd, 1), (100, .aload_n 0, 1), (101, .getfield 17, 3), (104, .iload_n 3, 1), (105, .iaload, 1), (106, .i2l, 1), (107, .lcmp, 1), (108, .ifCond .le 9, 3), (111, .aload_n 0, 1), (112, .iconst 2, 1), (113, .invokevirtual 128, 3), (116, .ireturn, 1), (117, .iconst 0, 1), (118, .istore 6, 2), (120, .iload 6, 2), (122, .iload 5, 2), (124, .if_icmp .ge 31, 3), (127, .aload_n 0, 1), (128, .getfield 23, 3), (131, .iload 6, 2), (133, .aload_n 0, 1), (134, .getfield 20, 3), (137, .sipush 150, 3), (140, .iload_n 1, 1), (141, .imul, 1), (142, .iload_n 2, 1), (143, .iadd, 1), (144, .iload 6, 2), (146, .iadd, 1), (147, .iaload, 1), (148, .iastore, 1), (149, .iinc 6 1, 3), (152, .goto (-32), 3), (155, .iconst 0, 1), (156, .istore 6, 2), (158, .iload 6, 2), (160, .iload 5, 2), (162, .if_icmp .ge 32, 3), (165, .aload_n 0, 1), (166, .getfield 20, 3), (169, .sipush 150, 3), (172, .iload_n 3, 1), (173, .imul, 1), (174, .iload 4, 2), (176, .iadd, 1), (177, .iload 6, 2), (179, .iadd, 1), (180, .aload_n 0, 1), (181, .getfield 23, 3), (184, .iload 6, 2), (186, .iaload, 1), (187, .iastore, 1), (188, .iinc 6 1, 3), (191, .goto (-33), 3), (194, .iconst 1, 1), (195, .ireturn, 1)]
set_option maxRecDepth 100000 in
theorem okX10_copy : dtab cX10_copy tX10_copy = true := by decide +kernel
def tX10_isRun : List (Nat × Instr × Nat) := [(0, .iload_n 0, 1), (1, .iconst 0, 1), (2, .iconst 1, 1), (3, .invokestatic 120, 3), (6, .ireturn, 1)]
set_option maxRecDepth 100000 in
theorem okX10_isRun : dtab cX10_isRun tX10_isRun = true := by decide +kernel
def tX10_reading : List (Nat × Instr × Nat) := [(0, .aload_n 0, 1), (1, .getfield 7, 3), (4, .iload_n 1, 1), (5, .baload, 1), (6, .ifCond .eq 13, 3), (9, .iload_n 2, 1), (10, .aload_n 0, 1), (11, .getfield 17, 3), (14, .iload_n 1, 1), (15, .iaload, 1), (16, .if_icmp .lt 5, 3), (19, .iconst (-1), 1), (20, .ireturn, 1), (21, .aload_n 0, 1), (22, .getfield 20, 3), (25, .sipush 150, 3), (28, .iload_n 1, 1), (29, .imul, 1), (30, .iload_n 2, 1), (31, .iadd, 1), (32, .iaload, 1), (33, .istore_n 3, 1), (34, .iload_n 3, 1), (35, .iconst 0, 1), (36, .sipush 30000, 3), (39, .invokestatic 120, 3), (42, .ifCond .eq 7, 3), (45, .iload_n 3, 1), (46, .goto 4, 3), (49, .iconst (-1), 1), (50, .ireturn, 1)]
set_option maxRecDepth 100000 in
theorem okX10_reading : dtab cX10_reading tX10_reading = true := by decide +kernel
def tX10_middle : List (Nat × Instr × Nat) := [(0, .iload_n 0, 1), (1, .iload_n 1, 1), (2, .if_icmp .ge 7, 3), (5, .iload_n 0, 1), (6, .goto 4, 3), (9, .iload_n 1, 1), (10, .istore_n 3, 1), (11, .iload_n 2, 1), (12, .iload_n 3, 1), (13, .if_icmp .ge 7, 3), (16, .iload_n 2, 1), (17, .goto 4, 3), (20, .iload_n 3, 1), (21, .istore_n 3, 1), (22, .iload_n 0, 1), (23, .iload_n 1, 1), (24, .if_icmp .le 7, 3), (27, .iload_n 0, 1), (28, .goto 4, 3), (31, .iload_n 1, 1), (32, .istore 4, 2), (34, .iload_n 2, 1), (35, .iload 4, 2), (37, .if_icmp .le 7, 3), (40, .iload_n 2, 1), (41, .goto 5, 3), (44, .iload 4, 2), (46, .istore 4, 2), (48, .iload_n 3, 1), (49, .iconst (-1), 1), (50, .if_icmp .ne 8, 3), (53, .iload 4, 2), (55, .goto 13, 3), (58, .iload_n 0, 1), (59, .iload_n 1, 1), (60, .iadd, 1), (61, .iload_n 2, 1), (62, .iadd, 1), (63, .iload_n 3, 1), (64, .isub, 1), (65, .iload 4, 2), (67, .isub, 1), (68, .ireturn, 1)]
set_option maxRecDepth 100000 in
theorem okX10_middle : dtab cX10_middle tX10_middle = true := by decide +kernel
def tX10_goThrough : List (Nat × Instr × Nat) := [(0, .aload_n 0, 1), (1, .iconst 0, 1), (2, .putfield 137, 3), (5, .aload_n 0, 1), (6, .iconst 0, 1), (7, .putfield 140, 3), (10, .aload_n 0, 1), (11, .iconst 0, 1), (12, .putfield 143, 3), (15, .iconst 4, 1), (16, .iload_n 1, 1), (17, .imul, 1), (18, .istore_n 2, 1), (19, .iload_n 2, 1), (20, .iconst 4, 1), (21, .iload_n 1, 1), (22, .imul, 1), (23, .iconst 3, 1), (24, .iadd, 1), (25, .if_icmp .ge 48, 3), (28, .aload_n 0, 1), (29, .aload_n 0, 1), (30, .getfield 7, 3), (33, .iload_n 2, 1), (34, .baload, 1), (35, .ifCond .eq 25, 3), (38, .aload_n 0, 1), (39, .getfield 17, 3), (42, .iload_n 2, 1), (43, .iaload, 1), (44, .aload_n 0, 1), (45, .getfield 137, 3), (48, .if_icmp .le 12, 3), (51, .aload_n 0, 1), (52, .getfield 17, 3), (55, .iload_n 2, 1), (56, .iaload, 1), (57, .goto 7, 3), (60, .aload_n 0, 1), (61, .getfield 137, 3), (64, .putfield 137, 3), (67, .iinc 2 1, 3), (70, .goto (-51), 3), (73, .iconst 4, 1), (74, .iload_n 1, 1), (75, .imul, 1), (76, .iconst 3, 1), (77, .iadd, 1), (78, .istore_n 2, 1), (79, .iconst 0, 1), (80, .istore_n 3, 1), (81, .iconst 0, 1), (82, .istore 4, 2), (84, .iconst 0, 1), (85, .istore 5, 2), (87, .iconst 0, 1), (88, .istore 6, 2), (90, .iload 6, 2), (92, .aload_n 0, 1), (93, .getfield 137, 3), (96, .if_icmp .ge 189, 3), (99, .aload_n 0, 1), (100, .iconst 4, 1), (101, .iload_n 1, 1), (102, .imul, 1), (103, .iload 6, 2), (105, .invokevirtual 146, 3), (108, .aload_n 0, 1), (109, .iconst 4, 1), (110, .iload_n 1, 1), (111, .imul, 1), (112, .iconst 1, 1), (113, .iadd, 1), (114, .iload 6, 2), (116, .invokevirtual 146, 3), (119, .aload_n 0, 1), (120, .iconst 4, 1), (121, .iload_n 1, 1), (122, .imul, 1), (123, .iconst 2, 1), (124, .iadd, 1), (125, .iload 6, 2), (127, .invokevirtual 146, 3), (130, .invokestatic 150, 3), (133, .istore 7, 2), (135, .aload_n 0, 1), (136, .dup, 1), (137, .getfield 140, 3), (140, .iload 7, 2), (142, .iconst (-1), 1), (143, .if_icmp .ne 7, 3), (146, .iconst 1, 1), (147, .goto 4, 3), (150, .iconst 0, 1), (151, .iadd, 1), (152, .putfield 140, 3), (155, .iload 7, 2), (157, .iconst (-1), 1), (158, .if_icmp .ne 7, 3), (161, .iload_n 3, 1), (162, .goto 5, 3), (165, .iload 7, 2), (167, .istore_n 3, 1), (168, .iload 4, 2), (170, .iload_n 3, 1), (171, .iadd, 1), (172, .istore 4, 2), (174, .aload_n 0, 1), (175, .getfield 26, 3), (178, .iload 6, 2), (180, .iload 4, 2), (182, .iastore, 1), (183, .aload_n 0, 1), (184, .getfield 7, 3), (187, .iload_n 2, 1), (188, .baload, 1), (189, .ifCond .eq 34, 3), (192, .iload 6, 2), (194, .aload_n 0, 1), (195, .getfield 17, 3), (198, .iload_n 2, 1), (199, .iaload, 1), (200, .if_icmp .ge 23, 3), (203, .aload_n 0, 1), (204, .getfield 20, 3), (207, .sipush 150, 3), (210, .iload_n 2, 1), (211, .imul, 1), (212, .iload 6, 2), (214, .iadd, 1), (215, .iaload, 1), (216, .ifCond .eq 7, 3), (219, .iconst 1, 1), (220, .goto 4, 3), (223, .iconst 0, 1), (224, .istore 8, 2), (226, .iload 8, 2), (228, .ifCond .eq 51, 3), (231, .aload_n 0, 1), (232, .getfield 143, 3), (235, .bipush 60, 2), (237, .if_icmp .ge 38, 3), (240, .aload_n 0, 1), (241, .getfield 29, 3), (244, .aload_n 0, 1), (245, .getfield 143, 3), (248, .iload 5, 2), (250, .iastore, 1), (251, .aload_n 0, 1), (252, .getfield 32, 3), (255, .aload_n 0, 1), (256, .getfield 143, 3), (259, .iload 4, 2), (261, .iload 5, 2), (263, .isub, 1), (264, .iastore, 1), (265, .aload_n 0, 1), (266, .dup, 1), (267, .getfield 143, 3), (270, .iconst 1, 1), (271, .iadd, 1), (272, .putfield 143, 3), (275, .iload 4, 2), (277, .istore 5, 2), (279, .iinc 6 1, 3), (282, .goto (-192), 3), (285, .return_, 1)]
set_option maxRecDepth 100000 in
theorem okX10_goThrough : dtab cX10_goThrough tX10_goThrough = true := by decide +kernel
def tX10_run : List (Nat × Instr × Nat) := [(0, .iload_n 1, 1), (1, .invokestatic 153, 3), (4, .ifCond .ne 6, 3), (7, .bipush (-2), 2), (9, .ireturn, 1), (10, .aload_n 0, 1), (11, .iload_n 1, 1), (12, .invokevirtual 156, 3), (15, .iload_n 2, 1), (16, .tableswitch 70 0 3 #[32, 37, 42, 65], 32), (48, .aload_n 0, 1), (49, .getfield 137, 3), (52, .ireturn, 1), (53, .aload_n 0, 1), (54, .getfield 140, 3), (57, .ireturn, 1), (58, .aload_n 0, 1), (59, .getfield 137, 3), (62, .ifCond .ne 7, 3), (65, .iconst 0, 1), (66, .goto 14, 3), (69, .aload_n 0, 1), (70, .getfield 26, 3), (73, .aload_n 0, 1), (74, .getfield 137, 3), (77, .iconst 1, 1), (78, .isub, 1), (79, .iaload, 1), (80, .ireturn, 1), (81, .aload_n 0, 1), (82, .getfield 143, 3), (85, .ireturn, 1), (86, .bipush (-2), 2), (88, .ireturn, 1)]
set_option maxRecDepth 100000 in
theorem okX10_run : dtab cX10_run tX10_run = true := by decide +kernel
def tX10_way : List (Nat × Instr × Nat) := [(0, .iload_n 1, 1), (1, .invokestatic 153, 3), (4, .ifCond .ne 6, 3), (7, .bipush (-2), 2), (9, .ireturn, 1), (10, .aload_n 0, 1), (11, .iload_n 1, 1), (12, .invokevirtual 156, 3), (15, .iload_n 2, 1), (16, .iconst 0, 1), (17, .aload_n 0, 1), (18, .getfield 137, 3), (21, .iconst 1, 1), (22, .isub, 1), (23, .invokestatic 120, 3), (26, .ifCond .eq 12, 3), (29, .aload_n 0, 1), (30, .getfield 26, 3), (33, .iload_n 2, 1), (34, .iaload, 1), (35, .goto 5, 3), (38, .bipush (-2), 2), (40, .ireturn, 1)]
set_option maxRecDepth 100000 in
theorem okX10_way : dtab cX10_way tX10_way = true := by decide +kernel
def tX10_felt : List (Nat × Instr × Nat) := [(0, .iload_n 1, 1), (1, .invokestatic 153, 3), (4, .ifCond .eq 12, 3), (7, .iload_n 3, 1), (8, .iconst 0, 1), (9, .iconst 1, 1), (10, .invokestatic 120, 3), (13, .ifCond .ne 6, 3), (16, .bipush (-2), 2), (18, .ireturn, 1), (19, .aload_n 0, 1), (20, .iload_n 1, 1), (21, .invokevirtual 156, 3), (24, .iload_n 2, 1), (25, .iconst 0, 1), (26, .aload_n 0, 1), (27, .getfield 143, 3), (30, .iconst 1, 1), (31, .isub, 1), (32, .invokestatic 120, 3), (35, .ifCond .eq 25, 3), (38, .iload_n 3, 1), (39, .ifCond .ne 12, 3), (42, .aload_n 0, 1), (43, .getfield 29, 3), (46, .iload_n 2, 1), (47, .iaload, 1), (48, .goto 14, 3), (51, .aload_n 0, 1), (52, .getfield 32, 3), (55, .iload_n 2, 1), (56, .iaload, 1), (57, .goto 5, 3), (60, .bipush (-2), 2), (62, .ireturn, 1)]
set_option maxRecDepth 100000 in
theorem okX10_felt : dtab cX10_felt tX10_felt = true := by decide +kernel
def tX10_joint : List (Nat × Instr × Nat) := [(0, .iload_n 1, 1), (1, .iconst 1, 1), (2, .ldc 160, 2), (4, .invokestatic 120, 3), (7, .ifCond .ne 6, 3), (10, .bipush (-2), 2), (12, .ireturn, 1), (13, .aload_n 0, 1), (14, .getfield 161, 3), (17, .bipush 40, 2), (19, .if_icmp .ne 6, 3), (22, .bipush (-3), 2), (24, .ireturn, 1), (25, .aload_n 0, 1), (26, .getfield 35, 3), (29, .aload_n 0, 1), (30, .getfield 161, 3), (33, .iload_n 1, 1), (34, .iastore, 1), (35, .aload_n 0, 1), (36, .dup, 1), (37, .getfield 161, 3), (40, .iconst 1, 1), (41, .iadd, 1), (42, .putfield 161, 3), (45, .aload_n 0, 1), (46, .getfield 161, 3), (49, .iconst 1, 1), (50, .isub, 1), (51, .ireturn, 1)]
set_option maxRecDepth 100000 in
theorem okX10_joint : dtab cX10_joint tX10_joint = true := by decide +kernel
def tX10_wipe : List (Nat × Instr × Nat) := [(0, .aload_n 0, 1), (1, .getfield 161, 3), (4, .istore_n 1, 1), (5, .aload_n 0, 1), (6, .iconst 0, 1), (7, .putfield 161, 3), (10, .iload_n 1, 1), (11, .ireturn, 1)]
set_option maxRecDepth 100000 in
theorem okX10_wipe : dtab cX10_wipe tX10_wipe = true := by decide +kernel
def tX10_costs : List (Nat × Instr × Nat) := [(0, .iload_n 1, 1), (1, .iconst 0, 1), (2, .ldc 164, 2), (4, .invokestatic 120, 3), (7, .ifCond .eq 13, 3), (10, .iload_n 2, 1), (11, .iconst 0, 1), (12, .ldc 164, 2), (14, .invokestatic 120, 3), (17, .ifCond .ne 6, 3), (20, .bipush (-2), 2), (22, .ireturn, 1), (23, .aload_n 0, 1), (24, .iload_n 1, 1), (25, .putfield 38, 3), (28, .aload_n 0, 1), (29, .iload_n 2, 1), (30, .putfield 42, 3), (33, .iconst 1, 1), (34, .ireturn, 1)]
set_option maxRecDepth 100000 in
theorem okX10_costs : dtab cX10_costs tX10_costs = true := by decide +kernel
def tX10_apart : List (Nat × Instr × Nat) := [(0, .iload_n 0, 1), (1, .iload_n 1, 1), (2, .if_icmp .le 9, 3), (5, .iload_n 0, 1), (6, .iload_n 1, 1), (7, .isub, 1), (8, .goto 6, 3), (11, .iload_n 1, 1), (12, .iload_n 0, 1), (13, .isub, 1), (14, .ireturn, 1)]
set_option maxRecDepth 100000 in
theorem okX10_apart : dtab cX10_apart tX10_apart = true := by decide +kernel
def tX10_pairCost : List (Nat × Instr × Nat) := [(0, .aload_n 0, 1), (1, .getfield 45, 3), (4, .bipush 61, 2), (6, .iload_n 1, 1), (7, .iconst 1, 1), (8, .isub, 1), (9, .imul, 1), (10, .iload_n 2, 1), (11, .iadd, 1), (12, .iconst 1, 1), (13, .isub, 1), (14, .iaload, 1), (15, .aload_n 0, 1), (16, .getfield 35, 3), (19, .iload_n 1, 1), (20, .iconst 1, 1), (21, .isub, 1), (22, .iaload, 1), (23, .aload_n 0, 1), (24, .getfield 32, 3), (27, .iload_n 2, 1), (28, .iconst 1, 1), (29, .isub, 1), (30, .iaload, 1), (31, .invokestatic 165, 3), (34, .iadd, 1), (35, .ireturn, 1)]
set_option maxRecDepth 100000 in
theorem okX10_pairCost : dtab cX10_pairCost tX10_pairCost = true := by decide +kernel
def tX10_matches : List (Nat × Instr × Nat) := [(0, .aload_n 0, 1), (1, .iload_n 1, 1), (2, .invokevirtual 156, 3), (5, .iconst 0, 1), (6, .istore_n 2, 1), (7, .iload_n 2, 1), (8, .aload_n 0, 1), (9, .getfield 161, 3), (12, .if_icmp .gt 175, 3), (15, .iconst 0, 1), (16, .istore_n 3, 1), (17, .iload_n 3, 1), (18, .aload_n 0, 1), (19, .getfield 143, 3), (22, .if_icmp .gt 159, 3), (25, .iload_n 2, 1), (26, .ifCond .ne 11, 3), (29, .iload_n 3, 1), (30, .ifCond .ne 7, 3), (33, .iconst 0, 1), (34, .goto 5, 3), (37, .ldc 168, 2), (39, .istore 4, 2), (41, .iload_n 2, 1), (42, .ifCond .le 26, 3), (45, .iload_n 3, 1), (46, .ifCond .le 22, 3), (49, .aload_n 0, 1), (50, .iload_n 2, 1), (51, .iload_n 3, 1), (52, .invokevirtual 169, 3), (55, .iload 4, 2), (57, .if_icmp .ge 11, 3), (60, .aload_n 0, 1), (61, .iload_n 2, 1), (62, .iload_n 3, 1), (63, .invokevirtual 169, 3), (66, .istore 4, 2), (68, .iload_n 2, 1), (69, .ifCond .le 46, 3), (72, .aload_n 0, 1), (73, .getfield 45, 3), (76, .bipush 61, 2), (78, .iload_n 2, 1), (79, .iconst 1, 1), (80, .isub, 1), (81, .imul, 1), (82, .iload_n 3, 1), (83, .iadd, 1), (84, .iaload, 1), (85, .aload_n 0, 1), (86, .getfield 38, 3), (89, .iadd, 1), (90, .iload 4, 2), (92, .if_icmp .ge 23, 3), (95, .aload_n 0, 1), (96, .getfield 45, 3), (99, .bipush 61, 2), (101, .iload_n 2, 1), (102, .iconst 1, 1), (103, .isub, 1), (104, .imul, 1), (105, .iload_n 3, 1), (106, .iadd, 1), (107, .iaload, 1), (108, .aload_n 0, 1), (109, .getfield 38, 3), (112, .iadd, 1), (113, .istore 4, 2), (115, .iload_n 3, 1), (116, .ifCond .le 46, 3), (119, .aload_n 0, 1), (120, .getfield 45, 3), (123, .bipush 61, 2), (125, .iload_n 2, 1), (126, .imul, 1), (127, .iload_n 3, 1), (128, .iadd, 1), (129, .iconst 1, 1), (130, .isub, 1), (131, .iaload, 1), (132, .aload_n 0, 1), (133, .getfield 42, 3), (136, .iadd, 1), (137, .iload 4, 2), (139, .if_icmp .ge 23, 3), (142, .aload_n 0, 1), (143, .getfield 45, 3), (146, .bipush 61, 2), (148, .iload_n 2, 1), (149, .imul, 1), (150, .iload_n 3, 1), (151, .iadd, 1), (152, .iconst 1, 1), (153, .isub, 1), (154, .iaload, 1), (155, .aload_n 0, 1), (156, .getfield 42, 3), (159, .iadd, 1), (160, .istore 4, 2), (162, .aload_n 0, 1), (163, .getfield 45, 3), (166, .bipush 61, 2), (168, .iload_n 2, 1), (169, .imul, 1), (170, .iload_n 3, 1), (171, .iadd, 1), (172, .iload 4, 2), (174, .iastore, 1), (175, .iinc 3 1, 3), (178, .goto (-161), 3), (181, .iinc 2 1, 3), (184, .goto (-177), 3), (187, .aload_n 0, 1), (188, .getfield 161, 3), (191, .istore_n 2, 1), (192, .aload_n 0, 1), (193, .getfield 143, 3), (196, .istore_n 3, 1), (197, .iconst 0, 1), (198, .istore 4, 2), (200, .iload 4, 2), (202, .bipush 40, 2), (204, .if_icmp .ge 17, 3), (207, .aload_n 0, 1), (208, .getfield 48, 3), (211, .iload 4, 2), (213, .iconst (-1), 1), (214, .iastore, 1), (215, .iinc 4 1, 3), (218, .goto (-18), 3), (221, .iload_n 2, 1), (222, .ifCond .gt 7, 3), (225, .iload_n 3, 1), (226, .ifCond .le 90, 3), (229, .aload_n 0, 1), (230, .getfield 45, 3), (233, .bipush 61, 2), (235, .iload_n 2, 1), (236, .imul, 1), (237, .iload_n 3, 1), (238, .iadd, 1), (239, .iaload, 1), (240, .istore 4, 2), (242, .iload_n 2, 1), (243, .ifCond .le 34, 3), (246, .iload_n 3, 1), (247, .ifCond .le 30, 3), (250, .aload_n 0, 1), (251, .iload_n 2, 1), (252, .iload_n 3, 1), (253, .invokevirtual 169, 3), (256, .iload 4, 2), (258, .if_icmp .ne 19, 3), (261, .iinc 2 (-1), 3), (264, .iinc 3 (-1), 3), (267, .aload_n 0, 1), (268, .getfield 48, 3), (271, .iload_n 2, 1), (272, .iload_n 3, 1), (273, .iastore, 1), (274, .goto 39, 3), (277, .iload_n 2, 1), (278, .ifCond .le 32, 3), (281, .aload_n 0, 1), (282, .getfield 45, 3), (285, .bipush 61, 2), (287, .iload_n 2, 1), (288, .iconst 1, 1), (289, .isub, 1), (290, .imul, 1), (291, .iload_n 3, 1), (292, .iadd, 1), (293, .iaload, 1), (294, .aload_n 0, 1), (295, .getfield 38, 3), (298, .iadd, 1), (299, .iload 4, 2), (301, .if_icmp .ne 9, 3), (304, .iinc 2 (-1), 3), (307, .goto 6, 3), (310, .iinc 3 (-1), 3), (313, .goto (-92), 3), (316, .return_, 1)]
set_option maxRecDepth 100000 in
theorem okX10_matches : dtab cX10_matches tX10_matches = true := by decide +kernel
def tX10_match : List (Nat × Instr × Nat) := [(0, .iload_n 1, 1), (1, .invokestatic 153, 3), (4, .ifCond .ne 6, 3), (7, .bipush (-2), 2), (9, .ireturn, 1), (10, .aload_n 0, 1), (11, .iload_n 1, 1), (12, .invokevirtual 172, 3), (15, .aload_n 0, 1), (16, .getfield 45, 3), (19, .bipush 61, 2), (21, .aload_n 0, 1), (22, .getfield 161, 3), (25, .imul, 1), (26, .aload_n 0, 1), (27, .getfield 143, 3), (30, .iadd, 1), (31, .iaload, 1), (32, .ireturn, 1)]
set_option maxRecDepth 100000 in
theorem okX10_match : dtab cX10_match tX10_match = true := by decide +kernel
def tX10_paired : List (Nat × Instr × Nat) := [(0, .iload_n 1, 1), (1, .invokestatic 153, 3), (4, .ifCond .eq 17, 3), (7, .iload_n 2, 1), (8, .iconst 0, 1), (9, .aload_n 0, 1), (10, .getfield 161, 3), (13, .iconst 1, 1), (14, .isub, 1), (15, .invokestatic 120, 3), (18, .ifCond .ne 6, 3), (21, .bipush (-2), 2), (23, .ireturn, 1), (24, .aload_n 0, 1), (25, .iload_n 1, 1), (26, .invokevirtual 172, 3), (29, .aload_n 0, 1), (30, .getfield 48, 3), (33, .iload_n 2, 1), (34, .iaload, 1), (35, .ireturn, 1)]
set_option maxRecDepth 100000 in
theorem okX10_paired : dtab cX10_paired tX10_paired = true := by decide +kernel
def tX10_isMark : List (Nat × Instr × Nat) := [(0, .iload_n 1, 1), (1, .invokestatic 153, 3), (4, .ifCond .eq 23, 3), (7, .iload_n 2, 1), (8, .iconst 0, 1), (9, .aload_n 0, 1), (10, .getfield 51, 3), (13, .iload_n 1, 1), (14, .iaload, 1), (15, .iconst 1, 1), (16, .isub, 1), (17, .invokestatic 120, 3), (20, .ifCond .eq 7, 3), (23, .iconst 1, 1), (24, .goto 4, 3), (27, .iconst 0, 1), (28, .ireturn, 1)]
set_option maxRecDepth 100000 in
theorem okX10_isMark : dtab cX10_isMark tX10_isMark = true := by decide +kernel
def tX10_mark : List (Nat × Instr × Nat) := [(0, .iload_n 1, 1), (1, .invokestatic 153, 3), (4, .ifCond .eq 46, 3), (7, .iload_n 2, 1), (8, .iconst 0, 1), (9, .ldc 175, 2), (11, .invokestatic 120, 3), (14, .ifCond .eq 36, 3), (17, .iload_n 3, 1), (18, .iconst 0, 1), (19, .bipush 11, 2), (21, .invokestatic 120, 3), (24, .ifCond .eq 26, 3), (27, .iload 4, 2), (29, .iconst 0, 1), (30, .bipush 100, 2), (32, .invokestatic 120, 3), (35, .ifCond .eq 15, 3), (38, .iload 5, 2), (40, .iconst 0, 1), (41, .sipush 10000, 3), (44, .invokestatic 120, 3), (47, .ifCond .ne 6, 3), (50, .bipush (-2), 2), (52, .ireturn, 1), (53, .aload_n 0, 1), (54, .getfield 51, 3), (57, .iload_n 1, 1), (58, .iaload, 1), (59, .bipush 40, 2), (61, .if_icmp .ne 6, 3), (64, .bipush (-3), 2), (66, .ireturn, 1), (67, .bipush 40, 2), (69, .iload_n 1, 1), (70, .imul, 1), (71, .aload_n 0, 1), (72, .getfield 51, 3), (75, .iload_n 1, 1), (76, .iaload, 1), (77, .iadd, 1), (78, .istore 6, 2), (80, .aload_n 0, 1), (81, .getfield 54, 3), (84, .iload 6, 2), (86, .iload_n 2, 1), (87, .iastore, 1), (88, .aload_n 0, 1), (89, .getfield 57, 3), (92, .iload 6, 2), (94, .iload_n 3, 1), (95, .iastore, 1), (96, .aload_n 0, 1), (97, .getfield 60, 3), (100, .iload 6, 2), (102, .iload 4, 2), (104, .iastore, 1), (105, .aload_n 0, 1), (106, .getfield 63, 3), (109, .iload 6, 2), (111, .iload 5, 2), (113, .iastore, 1), (114, .aload_n 0, 1), (115, .getfield 51, 3), (118, .iload_n 1, 1), (119, .dup2, 1), (120, .iaload, 1), (121, .iconst 1, 1), (122, .iadd, 1), (123, .iastore, 1), (124, .aload_n 0, 1), (125, .getfield 51, 3), (128, .iload_n 1, 1), (129, .iaload, 1), (130, .iconst 1, 1), (131, .isub, 1), (132, .ireturn, 1)]
set_option maxRecDepth 100000 in
theorem okX10_mark : dtab cX10_mark tX10_mark = true := by decide +kernel
def tX10_clear : List (Nat × Instr × Nat) := [(0, .iload_n 1, 1), (1, .invokestatic 153, 3), (4, .ifCond .ne 6, 3), (7, .bipush (-2), 2), (9, .ireturn, 1), (10, .aload_n 0, 1), (11, .getfield 51, 3), (14, .iload_n 1, 1), (15, .iaload, 1), (16, .istore_n 2, 1), (17, .aload_n 0, 1), (18, .getfield 51, 3), (21, .iload_n 1, 1), (22, .iconst 0, 1), (23, .iastore, 1), (24, .iload_n 2, 1), (25, .ireturn, 1)]
set_option maxRecDepth 100000 in
theorem okX10_clear : dtab cX10_clear tX10_clear = true := by decide +kernel
def tX10_jointAt : List (Nat × Instr × Nat) := [(0, .iconst 0, 1), (1, .istore_n 2, 1), (2, .iload_n 2, 1), (3, .aload_n 0, 1), (4, .getfield 143, 3), (7, .if_icmp .ge 39, 3), (10, .iload_n 1, 1), (11, .aload_n 0, 1), (12, .getfield 29, 3), (15, .iload_n 2, 1), (16, .iaload, 1), (17, .aload_n 0, 1), (18, .getfield 29, 3), (21, .iload_n 2, 1), (22, .iaload, 1), (23, .aload_n 0, 1), (24, .getfield 32, 3), (27, .iload_n 2, 1), (28, .iaload, 1), (29, .iadd, 1), (30, .iconst 1, 1), (31, .isub, 1), (32, .invokestatic 120, 3), (35, .ifCond .eq 5, 3), (38, .iload_n 2, 1), (39, .ireturn, 1), (40, .iinc 2 1, 3), (43, .goto (-41), 3), (46, .iconst (-1), 1), (47, .ireturn, 1)]
set_option maxRecDepth 100000 in
theorem okX10_jointAt : dtab cX10_jointAt tX10_jointAt = true := by decide +kernel
def tX10_hours : List (Nat × Instr × Nat) := [(0, .iload_n 0, 1), (1, .iload_n 1, 1), (2, .invokestatic 165, 3), (5, .istore_n 2, 1), (6, .iload_n 2, 1), (7, .bipush 6, 2), (9, .if_icmp .le 10, 3), (12, .bipush 12, 2), (14, .iload_n 2, 1), (15, .isub, 1), (16, .goto 4, 3), (19, .iload_n 2, 1), (20, .ireturn, 1)]
set_option maxRecDepth 100000 in
theorem okX10_hours : dtab cX10_hours tX10_hours = true := by decide +kernel
def tX10_areNear : List (Nat × Instr × Nat) := [(0, .aload_n 0, 1), (1, .getfield 54, 3), (4, .iload_n 2, 1), (5, .iaload, 1), (6, .aload_n 0, 1), (7, .getfield 54, 3), (10, .iload_n 1, 1), (11, .iaload, 1), (12, .isub, 1), (13, .aload_n 0, 1), (14, .getfield 63, 3), (17, .iload_n 1, 1), (18, .iaload, 1), (19, .isub, 1), (20, .istore_n 3, 1), (21, .aload_n 0, 1), (22, .getfield 54, 3), (25, .iload_n 1, 1), (26, .iaload, 1), (27, .aload_n 0, 1), (28, .getfield 54, 3), (31, .iload_n 2, 1), (32, .iaload, 1), (33, .isub, 1), (34, .aload_n 0, 1), (35, .getfield 63, 3), (38, .iload_n 2, 1), (39, .iaload, 1), (40, .isub, 1), (41, .istore 4, 2), (43, .iload_n 3, 1), (44, .iload 4, 2), (46, .if_icmp .le 7, 3), (49, .iload_n 3, 1), (50, .goto 5, 3), (53, .iload 4, 2), (55, .istore 5, 2), (57, .iload 5, 2), (59, .aload_n 0, 1), (60, .getfield 66, 3), (63, .if_icmp .gt 29, 3), (66, .aload_n 0, 1), (67, .getfield 57, 3), (70, .iload_n 1, 1), (71, .iaload, 1), (72, .aload_n 0, 1), (73, .getfield 57, 3), (76, .iload_n 2, 1), (77, .iaload, 1), (78, .invokestatic 176, 3), (81, .aload_n 0, 1), (82, .getfield 69, 3), (85, .if_icmp .gt 7, 3), (88, .iconst 1, 1), (89, .goto 4, 3), (92, .iconst 0, 1), (93, .ireturn, 1)]
set_option maxRecDepth 100000 in
theorem okX10_areNear : dtab cX10_areNear tX10_areNear = true := by decide +kernel
def tX10_joinMarks : List (Nat × Instr × Nat) := [(0, .aload_n 0, 1), (1, .iconst 0, 1), (2, .putfield 179, 3), (5, .iconst 0, 1), (6, .istore_n 2, 1), (7, .iload_n 2, 1), (8, .bipush 40, 2), (10, .if_icmp .ge 16, 3), (13, .aload_n 0, 1), (14, .getfield 72, 3), (17, .iload_n 2, 1), (18, .iconst (-1), 1), (19, .iastore, 1), (20, .iinc 2 1, 3), (23, .goto (-16), 3), (26, .iconst 0, 1), (27, .istore_n 2, 1), (28, .iload_n 2, 1), (29, .aload_n 0, 1), (30, .getfield 51, 3), (33, .iload_n 1, 1), (34, .iaload, 1), (35, .if_icmp .ge 149, 3), (38, .aload_n 0, 1), (39, .getfield 72, 3), (42, .iload_n 2, 1), (43, .iaload, 1), (44, .iconst (-1), 1), (45, .if_icmp .ne 133, 3), (48, .aload_n 0, 1), (49, .getfield 72, 3), (52, .iload_n 2, 1), (53, .aload_n 0, 1), (54, .getfield 179, 3), (57, .iastore, 1), (58, .iconst 1, 1), (59, .istore_n 3, 1), (60, .iload_n 3, 1), (61, .ifCond .eq 107, 3), (64, .iconst 0, 1), (65, .istore_n 3, 1), (66, .iconst 0, 1), (67, .istore 4, 2), (69, .iload 4, 2), (71, .aload_n 0, 1), (72, .getfield 51, 3), (75, .iload_n 1, 1), (76, .iaload, 1), (77, .if_icmp .ge 88, 3), (80, .iconst 0, 1), (81, .istore 5, 2), (83, .iload 5, 2), (85, .aload_n 0, 1), (86, .getfield 51, 3), (89, .iload_n 1, 1), (90, .iaload, 1), (91, .if_icmp .ge 68, 3), (94, .aload_n 0, 1), (95, .getfield 72, 3), (98, .iload 4, 2), (100, .iaload, 1), (101, .aload_n 0, 1), (102, .getfield 179, 3), (105, .if_icmp .ne 54, 3), (108, .aload_n 0, 1), (109, .getfield 72, 3), (112, .iload 5, 2), (114, .iaload, 1), (115, .iconst (-1), 1), (116, .if_icmp .ne 37, 3), (119, .aload_n 0, 1), (120, .bipush 40, 2), (122, .iload_n 1, 1), (123, .imul, 1), (124, .iload 4, 2), (126, .iadd, 1), (127, .bipush 40, 2), (129, .iload_n 1, 1), (130, .imul, 1), (131, .iload 5, 2), (133, .iadd, 1), (134, .invokevirtual 182, 3), (137, .ifCond .eq 16, 3), (140, .aload_n 0, 1), (141, .getfield 72, 3), (144, .iload 5, 2), (146, .aload_n 0, 1), (147, .getfield 179, 3), (150, .iastore, 1), (151, .iconst 1, 1), (152, .istore_n 3, 1), (153, .iinc 5 1, 3), (156, .goto (-73), 3), (159, .iinc 4 1, 3), (162, .goto (-93), 3), (165, .goto (-105), 3), (168, .aload_n 0, 1), (169, .dup, 1), (170, .getfield 179, 3), (173, .iconst 1, 1), (174, .iadd, 1), (175, .putfield 179, 3), (178, .iinc 2 1, 3), (181, .goto (-153), 3), (184, .return_, 1)]
set_option maxRecDepth 100000 in
theorem okX10_joinMarks : dtab cX10_joinMarks tX10_joinMarks = true := by decide +kernel
def tX10_about : List (Nat × Instr × Nat) := [(0, .aload_n 0, 1), (1, .iload_n 1, 1), (2, .iload_n 2, 1), (3, .invokevirtual 186, 3), (6, .ifCond .ne 6, 3), (9, .bipush (-2), 2), (11, .ireturn, 1), (12, .bipush 40, 2), (14, .iload_n 1, 1), (15, .imul, 1), (16, .iload_n 2, 1), (17, .iadd, 1), (18, .istore 4, 2), (20, .iload_n 3, 1), (21, .tableswitch 100 0 5 #[39, 47, 55, 63, 71, 88], 39), (60, .aload_n 0, 1), (61, .getfield 54, 3), (64, .iload 4, 2), (66, .iaload, 1), (67, .ireturn, 1), (68, .aload_n 0, 1), (69, .getfield 57, 3), (72, .iload 4, 2), (74, .iaload, 1), (75, .ireturn, 1), (76, .aload_n 0, 1), (77, .getfield 60, 3), (80, .iload 4, 2), (82, .iaload, 1), (83, .ireturn, 1), (84, .aload_n 0, 1), (85, .getfield 63, 3), (88, .iload 4, 2), (90, .iaload, 1), (91, .ireturn, 1), (92, .aload_n 0, 1), (93, .iload_n 1, 1), (94, .invokevirtual 156, 3), (97, .aload_n 0, 1), (98, .aload_n 0, 1), (99, .getfield 54, 3), (102, .iload 4, 2), (104, .iaload, 1), (105, .invokevirtual 189, 3), (108, .ireturn, 1), (109, .aload_n 0, 1), (110, .iload_n 1, 1), (111, .invokevirtual 192, 3), (114, .aload_n 0, 1), (115, .getfield 72, 3), (118, .iload_n 2, 1), (119, .iaload, 1), (120, .ireturn, 1), (121, .bipush (-2), 2), (123, .ireturn, 1)]
set_option maxRecDepth 100000 in
theorem okX10_about : dtab cX10_about tX10_about = true := by decide +kernel
def tX10_near : List (Nat × Instr × Nat) := [(0, .iload_n 1, 1), (1, .iconst 0, 1), (2, .ldc 160, 2), (4, .invokestatic 120, 3), (7, .ifCond .eq 13, 3), (10, .iload_n 2, 1), (11, .iconst 0, 1), (12, .bipush 6, 2), (14, .invokestatic 120, 3), (17, .ifCond .ne 6, 3), (20, .bipush (-2), 2), (22, .ireturn, 1), (23, .aload_n 0, 1), (24, .iload_n 1, 1), (25, .putfield 66, 3), (28, .aload_n 0, 1), (29, .iload_n 2, 1), (30, .putfield 69, 3), (33, .iconst 1, 1), (34, .ireturn, 1)]
set_option maxRecDepth 100000 in
theorem okX10_near : dtab cX10_near tX10_near = true := by decide +kernel
def tX10_groups : List (Nat × Instr × Nat) := [(0, .iload_n 1, 1), (1, .invokestatic 153, 3), (4, .ifCond .ne 6, 3), (7, .bipush (-2), 2), (9, .ireturn, 1), (10, .aload_n 0, 1), (11, .iload_n 1, 1), (12, .invokevirtual 192, 3), (15, .aload_n 0, 1), (16, .getfield 179, 3), (19, .ireturn, 1)]
set_option maxRecDepth 100000 in
theorem okX10_groups : dtab cX10_groups tX10_groups = true := by decide +kernel
def tX10_group : List (Nat × Instr × Nat) := [(0, .iload_n 1, 1), (1, .invokestatic 153, 3), (4, .ifCond .eq 12, 3), (7, .iload_n 3, 1), (8, .iconst 0, 1), (9, .iconst 4, 1), (10, .invokestatic 120, 3), (13, .ifCond .ne 6, 3), (16, .bipush (-2), 2), (18, .ireturn, 1), (19, .aload_n 0, 1), (20, .iload_n 1, 1), (21, .invokevirtual 192, 3), (24, .iload_n 2, 1), (25, .iconst 0, 1), (26, .aload_n 0, 1), (27, .getfield 179, 3), (30, .iconst 1, 1), (31, .isub, 1), (32, .invokestatic 120, 3), (35, .ifCond .ne 6, 3), (38, .bipush (-2), 2), (40, .ireturn, 1), (41, .iconst (-1), 1), (42, .istore 4, 2), (44, .iconst 0, 1), (45, .istore 5, 2), (47, .iconst 0, 1), (48, .istore 6, 2), (50, .iconst 0, 1), (51, .istore 7, 2), (53, .iconst 0, 1), (54, .istore 8, 2), (56, .iconst 0, 1), (57, .istore 9, 2), (59, .iload 9, 2), (61, .aload_n 0, 1), (62, .getfield 51, 3), (65, .iload_n 1, 1), (66, .iaload, 1), (67, .if_icmp .ge 141, 3), (70, .aload_n 0, 1), (71, .getfield 72, 3), (74, .iload 9, 2), (76, .iaload, 1), (77, .iload_n 2, 1), (78, .if_icmp .ne 124, 3), (81, .bipush 40, 2), (83, .iload_n 1, 1), (84, .imul, 1), (85, .iload 9, 2), (87, .iadd, 1), (88, .istore 10, 2), (90, .aload_n 0, 1), (91, .getfield 54, 3), (94, .iload 10, 2), (96, .iaload, 1), (97, .aload_n 0, 1), (98, .getfield 63, 3), (101, .iload 10, 2), (103, .iaload, 1), (104, .iadd, 1), (105, .istore 11, 2), (107, .iload 5, 2), (109, .ifCond .eq 15, 3), (112, .aload_n 0, 1), (113, .getfield 54, 3), (116, .iload 10, 2), (118, .iaload, 1), (119, .iload 6, 2), (121, .if_icmp .ge 13, 3), (124, .aload_n 0, 1), (125, .getfield 54, 3), (128, .iload 10, 2), (130, .iaload, 1), (131, .goto 5, 3), (134, .iload 6, 2), (136, .istore 6, 2), (138, .iload 5, 2), (140, .ifCond .eq 10, 3), (143, .iload 11, 2), (145, .iload 7, 2), (147, .if_icmp .le 8, 3), (150, .iload 11, 2), (152, .goto 5, 3), (155, .iload 7, 2), (157, .istore 7, 2), (159, .aload_n 0, 1), (160, .getfield 60, 3), (163, .iload 10, 2), (165, .iaload, 1), (166, .iload 8, 2), (168, .if_icmp .le 13, 3), (171, .aload_n 0, 1), (172, .getfield 60, 3), (175, .iload 10, 2), (177, .iaload, 1), (178, .goto 5, 3), (181, .iload 8, 2), (183, .istore 8, 2), (185, .iload 5, 2), (187, .ifCond .ne 8, 3), (190, .iload 9, 2), (192, .goto 5, 3), (195, .iload 4, 2), (197, .istore 4, 2), (199, .iinc 5 1, 3), (202, .iinc 9 1, 3), (205, .goto (-146), 3), (208, .iload_n 3, 1), (209, .ifCond .ne 8, 3), (212, .iload 4, 2), (214, .goto 35, 3), (217, .iload_n 3, 1), (218, .iconst 1, 1), (219, .if_icmp .ne 8, 3), (222, .iload 5, 2), (224, .goto 25, 3), (227, .iload_n 3, 1), (228, .iconst 2, 1), (229, .if_icmp .ne 8, 3), (232, .iload 6, 2), (234, .goto 15, 3), (237, .iload_n 3, 1), (238, .iconst 3, 1), (239, .if_icmp .ne 8, 3), (242, .iload 7, 2), (244, .goto 5, 3), (247, .iload 8, 2), (249, .ireturn, 1)]
set_option maxRecDepth 100000 in
theorem okX10_group : dtab cX10_group tX10_group = true := by decide +kernel
def tX10_alone : List (Nat × Instr × Nat) := [(0, .iload_n 1, 1), (1, .iconst 0, 1), (2, .ldc 160, 2), (4, .invokestatic 120, 3), (7, .ifCond .ne 6, 3), (10, .bipush (-2), 2), (12, .ireturn, 1), (13, .aload_n 0, 1), (14, .getfield 75, 3), (17, .istore_n 2, 1), (18, .aload_n 0, 1), (19, .iload_n 1, 1), (20, .putfield 75, 3), (23, .iload_n 2, 1), (24, .ireturn, 1)]
set_option maxRecDepth 100000 in
theorem okX10_alone : dtab cX10_alone tX10_alone = true := by decide +kernel
def tX10_gather : List (Nat × Instr × Nat) := [(0, .iconst 0, 1), (1, .istore_n 2, 1), (2, .iload_n 2, 1), (3, .iconst 2, 1), (4, .if_icmp .ge 138, 3), (7, .aload_n 0, 1), (8, .getfield 78, 3), (11, .iload_n 2, 1), (12, .iconst 0, 1), (13, .iastore, 1), (14, .aload_n 0, 1), (15, .iload_n 2, 1), (16, .invokevirtual 172, 3), (19, .aload_n 0, 1), (20, .getfield 48, 3), (23, .iload_n 1, 1), (24, .iaload, 1), (25, .istore_n 3, 1), (26, .iconst 0, 1), (27, .istore 4, 2), (29, .iload 4, 2), (31, .aload_n 0, 1), (32, .getfield 51, 3), (35, .iload_n 2, 1), (36, .iaload, 1), (37, .if_icmp .ge 99, 3), (40, .iload_n 3, 1), (41, .iconst (-1), 1), (42, .if_icmp .eq 94, 3), (45, .aload_n 0, 1), (46, .getfield 54, 3), (49, .bipush 40, 2), (51, .iload_n 2, 1), (52, .imul, 1), (53, .iload 4, 2), (55, .iadd, 1), (56, .iaload, 1), (57, .istore 5, 2), (59, .aload_n 0, 1), (60, .iload 5, 2), (62, .invokevirtual 189, 3), (65, .iload_n 3, 1), (66, .if_icmp .ne 64, 3), (69, .aload_n 0, 1), (70, .getfield 78, 3), (73, .iload_n 2, 1), (74, .iaload, 1), (75, .iconst 5, 1), (76, .if_icmp .ge 54, 3), (79, .aload_n 0, 1), (80, .getfield 81, 3), (83, .iconst 5, 1), (84, .iload_n 2, 1), (85, .imul, 1), (86, .aload_n 0, 1), (87, .getfield 78, 3), (90, .iload_n 2, 1), (91, .iaload, 1), (92, .iadd, 1), (93, .iload 4, 2), (95, .iastore, 1), (96, .aload_n 0, 1), (97, .getfield 84, 3), (100, .iconst 5, 1), (101, .iload_n 2, 1), (102, .imul, 1), (103, .aload_n 0, 1), (104, .getfield 78, 3), (107, .iload_n 2, 1), (108, .iaload, 1), (109, .iadd, 1), (110, .iload 5, 2), (112, .aload_n 0, 1), (113, .getfield 29, 3), (116, .iload_n 3, 1), (117, .iaload, 1), (118, .isub, 1), (119, .iastore, 1), (120, .aload_n 0, 1), (121, .getfield 78, 3), (124, .iload_n 2, 1), (125, .dup2, 1), (126, .iaload, 1), (127, .iconst 1, 1), (128, .iadd, 1), (129, .iastore, 1), (130, .iinc 4 1, 3), (133, .goto (-104), 3), (136, .iinc 2 1, 3), (139, .goto (-137), 3), (142, .return_, 1)]
set_option maxRecDepth 100000 in
theorem okX10_gather : dtab cX10_gather tX10_gather = true := by decide +kernel
def tX10_choiceCost : List (Nat × Instr × Nat) := [(0, .iconst 0, 1), (1, .istore_n 1, 1), (2, .aload_n 0, 1), (3, .getfield 75, 3), (6, .aload_n 0, 1), (7, .getfield 78, 3), (10, .iconst 1, 1), (11, .iaload, 1), (12, .imul, 1), (13, .istore_n 2, 1), (14, .iconst 0, 1), (15, .istore_n 3, 1), (16, .iload_n 3, 1), (17, .aload_n 0, 1), (18, .getfield 78, 3), (21, .iconst 0, 1), (22, .iaload, 1), (23, .if_icmp .ge 118, 3), (26, .aload_n 0, 1), (27, .getfield 87, 3), (30, .iload_n 3, 1), (31, .iaload, 1), (32, .istore 4, 2), (34, .iload 4, 2), (36, .aload_n 0, 1), (37, .getfield 78, 3), (40, .iconst 1, 1), (41, .iaload, 1), (42, .if_icmp .ne 13, 3), (45, .iload_n 2, 1), (46, .aload_n 0, 1), (47, .getfield 75, 3), (50, .iadd, 1), (51, .istore_n 2, 1), (52, .goto 83, 3), (55, .iload_n 1, 1), (56, .iload 4, 2), (58, .ishr, 1), (59, .iconst 1, 1), (60, .iand, 1), (61, .iconst 1, 1), (62, .if_icmp .ne 5, 3), (65, .iconst (-1), 1), (66, .ireturn, 1), (67, .iload_n 1, 1), (68, .iconst 1, 1), (69, .iload 4, 2), (71, .ishl, 1), (72, .ior, 1), (73, .istore_n 1, 1), (74, .iload_n 2, 1), (75, .aload_n 0, 1), (76, .getfield 84, 3), (79, .iload_n 3, 1), (80, .iaload, 1), (81, .aload_n 0, 1), (82, .getfield 84, 3), (85, .iconst 5, 1), (86, .iload 4, 2), (88, .iadd, 1), (89, .iaload, 1), (90, .invokestatic 165, 3), (93, .bipush 100, 2), (95, .aload_n 0, 1), (96, .getfield 57, 3), (99, .aload_n 0, 1), (100, .getfield 81, 3), (103, .iload_n 3, 1), (104, .iaload, 1), (105, .iaload, 1), (106, .aload_n 0, 1), (107, .getfield 57, 3), (110, .bipush 40, 2), (112, .aload_n 0, 1), (113, .getfield 81, 3), (116, .iconst 5, 1), (117, .iload 4, 2), (119, .iadd, 1), (120, .iaload, 1), (121, .iadd, 1), (122, .iaload, 1), (123, .invokestatic 176, 3), (126, .imul, 1), (127, .iadd, 1), (128, .aload_n 0, 1), (129, .getfield 75, 3), (132, .isub, 1), (133, .iadd, 1), (134, .istore_n 2, 1), (135, .iinc 3 1, 3), (138, .goto (-122), 3), (141, .iload_n 2, 1), (142, .ireturn, 1)]
set_option maxRecDepth 100000 in
theorem okX10_choiceCost : dtab cX10_choiceCost tX10_choiceCost = true := by decide +kernel
def tX10_choosesOn : List (Nat × Instr × Nat) := [(0, .aload_n 0, 1), (1, .getfield 78, 3), (4, .iconst 0, 1), (5, .iaload, 1), (6, .iconst 1, 1), (7, .isub, 1), (8, .istore_n 1, 1), (9, .iload_n 1, 1), (10, .ifCond .lt 31, 3), (13, .aload_n 0, 1), (14, .getfield 87, 3), (17, .iload_n 1, 1), (18, .iaload, 1), (19, .aload_n 0, 1), (20, .getfield 78, 3), (23, .iconst 1, 1), (24, .iaload, 1), (25, .if_icmp .ne 16, 3), (28, .aload_n 0, 1), (29, .getfield 87, 3), (32, .iload_n 1, 1), (33, .iconst 0, 1), (34, .iastore, 1), (35, .iinc 1 (-1), 3), (38, .goto (-29), 3), (41, .iload_n 1, 1), (42, .ifCond .ge 5, 3), (45, .iconst 0, 1), (46, .ireturn, 1), (47, .aload_n 0, 1), (48, .getfield 87, 3), (51, .iload_n 1, 1), (52, .dup2, 1), (53, .iaload, 1), (54, .iconst 1, 1), (55, .iadd, 1), (56, .iastore, 1), (57, .iconst 1, 1), (58, .ireturn, 1)]
set_option maxRecDepth 100000 in
theorem okX10_choosesOn : dtab cX10_choosesOn tX10_choosesOn = true := by decide +kernel
def tX10_pairs : List (Nat × Instr × Nat) := [(0, .aload_n 0, 1), (1, .iload_n 1, 1), (2, .invokevirtual 195, 3), (5, .iconst 0, 1), (6, .istore_n 2, 1), (7, .iload_n 2, 1), (8, .iconst 5, 1), (9, .if_icmp .ge 16, 3), (12, .aload_n 0, 1), (13, .getfield 87, 3), (16, .iload_n 2, 1), (17, .iconst 0, 1), (18, .iastore, 1), (19, .iinc 2 1, 3), (22, .goto (-15), 3), (25, .iconst (-1), 1), (26, .istore_n 2, 1), (27, .iconst 1, 1), (28, .istore_n 3, 1), (29, .iload_n 3, 1), (30, .ifCond .eq 66, 3), (33, .aload_n 0, 1), (34, .invokevirtual 198, 3), (37, .istore 4, 2), (39, .iload 4, 2), (41, .iconst (-1), 1), (42, .if_icmp .eq 46, 3), (45, .iload_n 2, 1), (46, .iconst (-1), 1), (47, .if_icmp .eq 9, 3), (50, .iload 4, 2), (52, .iload_n 2, 1), (53, .if_icmp .ge 35, 3), (56, .iload 4, 2), (58, .istore_n 2, 1), (59, .iconst 0, 1), (60, .istore 5, 2), (62, .iload 5, 2), (64, .iconst 5, 1), (65, .if_icmp .ge 23, 3), (68, .aload_n 0, 1), (69, .getfield 90, 3), (72, .iload 5, 2), (74, .aload_n 0, 1), (75, .getfield 87, 3), (78, .iload 5, 2), (80, .iaload, 1), (81, .iastore, 1), (82, .iinc 5 1, 3), (85, .goto (-23), 3), (88, .aload_n 0, 1), (89, .invokevirtual 202, 3), (92, .istore_n 3, 1), (93, .goto (-64), 3), (96, .iload_n 2, 1), (97, .ireturn, 1)]
set_option maxRecDepth 100000 in
theorem okX10_pairs : dtab cX10_pairs tX10_pairs = true := by decide +kernel
def tX10_pairing : List (Nat × Instr × Nat) := [(0, .iload_n 1, 1), (1, .iconst 0, 1), (2, .aload_n 0, 1), (3, .getfield 161, 3), (6, .iconst 1, 1), (7, .isub, 1), (8, .invokestatic 120, 3), (11, .ifCond .eq 11, 3), (14, .aload_n 0, 1), (15, .iload_n 1, 1), (16, .invokevirtual 206, 3), (19, .goto 5, 3), (22, .bipush (-2), 2), (24, .ireturn, 1)]
set_option maxRecDepth 100000 in
theorem okX10_pairing : dtab cX10_pairing tX10_pairing = true := by decide +kernel
def tX10_twinOf : List (Nat × Instr × Nat) := [(0, .aload_n 0, 1), (1, .iconst 0, 1), (2, .invokevirtual 172, 3), (5, .aload_n 0, 1), (6, .aload_n 0, 1), (7, .getfield 54, 3), (10, .iload_n 1, 1), (11, .iaload, 1), (12, .invokevirtual 189, 3), (15, .istore_n 2, 1), (16, .iconst (-1), 1), (17, .istore_n 3, 1), (18, .iconst 0, 1), (19, .istore 4, 2), (21, .iload 4, 2), (23, .aload_n 0, 1), (24, .getfield 161, 3), (27, .if_icmp .ge 32, 3), (30, .iload_n 2, 1), (31, .iconst (-1), 1), (32, .if_icmp .eq 19, 3), (35, .aload_n 0, 1), (36, .getfield 48, 3), (39, .iload 4, 2), (41, .iaload, 1), (42, .iload_n 2, 1), (43, .if_icmp .ne 8, 3), (46, .iload 4, 2), (48, .goto 4, 3), (51, .iload_n 3, 1), (52, .istore_n 3, 1), (53, .iinc 4 1, 3), (56, .goto (-35), 3), (59, .iload_n 3, 1), (60, .iconst (-1), 1), (61, .if_icmp .ne 5, 3), (64, .iconst (-1), 1), (65, .ireturn, 1), (66, .aload_n 0, 1), (67, .iload_n 3, 1), (68, .invokevirtual 206, 3), (71, .istore 4, 2), (73, .iconst 0, 1), (74, .istore 5, 2), (76, .iload 5, 2), (78, .aload_n 0, 1), (79, .getfield 78, 3), (82, .iconst 0, 1), (83, .iaload, 1), (84, .if_icmp .ge 55, 3), (87, .aload_n 0, 1), (88, .getfield 81, 3), (91, .iload 5, 2), (93, .iaload, 1), (94, .iload_n 1, 1), (95, .if_icmp .ne 38, 3), (98, .aload_n 0, 1), (99, .getfield 90, 3), (102, .iload 5, 2), (104, .iaload, 1), (105, .aload_n 0, 1), (106, .getfield 78, 3), (109, .iconst 1, 1), (110, .iaload, 1), (111, .if_icmp .ne 7, 3), (114, .iconst (-1), 1), (115, .goto 17, 3), (118, .aload_n 0, 1), (119, .getfield 81, 3), (122, .iconst 5, 1), (123, .aload_n 0, 1), (124, .getfield 90, 3), (127, .iload 5, 2), (129, .iaload, 1), (130, .iadd, 1), (131, .iaload, 1), (132, .ireturn, 1), (133, .iinc 5 1, 3), (136, .goto (-60), 3), (139, .iconst (-1), 1), (140, .ireturn, 1)]
set_option maxRecDepth 100000 in
theorem okX10_twinOf : dtab cX10_twinOf tX10_twinOf = true := by decide +kernel
def tX10_twin : List (Nat × Instr × Nat) := [(0, .aload_n 0, 1), (1, .iconst 0, 1), (2, .iload_n 1, 1), (3, .invokevirtual 186, 3), (6, .ifCond .eq 11, 3), (9, .aload_n 0, 1), (10, .iload_n 1, 1), (11, .invokevirtual 209, 3), (14, .goto 5, 3), (17, .bipush (-2), 2), (19, .ireturn, 1)]
set_option maxRecDepth 100000 in
theorem okX10_twin : dtab cX10_twin tX10_twin = true := by decide +kernel
def tX10_tool : List (Nat × Instr × Nat) := [(0, .iload_n 1, 1), (1, .iconst 1, 1), (2, .bipush 50, 2), (4, .invokestatic 120, 3), (7, .ifCond .eq 23, 3), (10, .iload_n 2, 1), (11, .iconst 0, 1), (12, .bipush 50, 2), (14, .invokestatic 120, 3), (17, .ifCond .eq 13, 3), (20, .iload_n 3, 1), (21, .iconst 0, 1), (22, .bipush 100, 2), (24, .invokestatic 120, 3), (27, .ifCond .ne 6, 3), (30, .bipush (-2), 2), (32, .ireturn, 1), (33, .aload_n 0, 1), (34, .iload_n 1, 1), (35, .putfield 93, 3), (38, .aload_n 0, 1), (39, .iload_n 2, 1), (40, .putfield 96, 3), (43, .aload_n 0, 1), (44, .iload_n 3, 1), (45, .putfield 99, 3), (48, .iconst 1, 1), (49, .ireturn, 1)]
set_option maxRecDepth 100000 in
theorem okX10_tool : dtab cX10_tool tX10_tool = true := by decide +kernel
def tX10_lowOf : List (Nat × Instr × Nat) := [(0, .iload_n 1, 1), (1, .aload_n 0, 1), (2, .getfield 96, 3), (5, .if_icmp .ge 7, 3), (8, .iconst 0, 1), (9, .goto 9, 3), (12, .iload_n 1, 1), (13, .aload_n 0, 1), (14, .getfield 96, 3), (17, .isub, 1), (18, .ireturn, 1)]
set_option maxRecDepth 100000 in
theorem okX10_lowOf : dtab cX10_lowOf tX10_lowOf = true := by decide +kernel
def tX10_highOf : List (Nat × Instr × Nat) := [(0, .iload_n 1, 1), (1, .aload_n 0, 1), (2, .getfield 96, 3), (5, .iadd, 1), (6, .bipush 100, 2), (8, .if_icmp .le 8, 3), (11, .bipush 100, 2), (13, .goto 9, 3), (16, .iload_n 1, 1), (17, .aload_n 0, 1), (18, .getfield 96, 3), (21, .iadd, 1), (22, .ireturn, 1)]
set_option maxRecDepth 100000 in
theorem okX10_highOf : dtab cX10_highOf tX10_highOf = true := by decide +kernel
def tX10_growth : List (Nat × Instr × Nat) := [(0, .aload_n 0, 1), (1, .iconst 0, 1), (2, .iload_n 1, 1), (3, .invokevirtual 186, 3), (6, .ifCond .eq 12, 3), (9, .iload_n 2, 1), (10, .iconst 0, 1), (11, .iconst 2, 1), (12, .invokestatic 120, 3), (15, .ifCond .ne 6, 3), (18, .bipush (-2), 2), (20, .ireturn, 1), (21, .aload_n 0, 1), (22, .iload_n 1, 1), (23, .invokevirtual 209, 3), (26, .istore_n 3, 1), (27, .iload_n 3, 1), (28, .iconst (-1), 1), (29, .if_icmp .ne 6, 3), (32, .bipush (-4), 2), (34, .ireturn, 1), (35, .aload_n 0, 1), (36, .getfield 60, 3), (39, .iload_n 1, 1), (40, .iaload, 1), (41, .istore 4, 2), (43, .aload_n 0, 1), (44, .getfield 60, 3), (47, .bipush 40, 2), (49, .iload_n 3, 1), (50, .iadd, 1), (51, .iaload, 1), (52, .istore 5, 2), (54, .aload_n 0, 1), (55, .iload 5, 2), (57, .invokevirtual 212, 3), (60, .aload_n 0, 1), (61, .iload 4, 2), (63, .invokevirtual 215, 3), (66, .isub, 1), (67, .istore 6, 2), (69, .aload_n 0, 1), (70, .iload 5, 2), (72, .invokevirtual 215, 3), (75, .aload_n 0, 1), (76, .iload 4, 2), (78, .invokevirtual 212, 3), (81, .isub, 1), (82, .istore 7, 2), (84, .iload 7, 2), (86, .ifCond .ge 7, 3), (89, .iconst 0, 1), (90, .goto 5, 3), (93, .iload 7, 2), (95, .istore 7, 2), (97, .iload_n 2, 1), (98, .ifCond .ne 15, 3), (101, .iload 6, 2), (103, .ifCond .ge 7, 3), (106, .iconst 0, 1), (107, .goto 5, 3), (110, .iload 6, 2), (112, .ireturn, 1), (113, .iload_n 2, 1), (114, .iconst 1, 1), (115, .if_icmp .ne 6, 3), (118, .iload 7, 2), (120, .ireturn, 1), (121, .iconst (-1), 1), (122, .istore 8, 2), (124, .iconst 0, 1), (125, .istore 9, 2), (127, .iload 9, 2), (129, .bipush 100, 2), (131, .if_icmp .ge 47, 3), (134, .aload_n 0, 1), (135, .iload 5, 2), (137, .invokevirtual 215, 3), (140, .aload_n 0, 1), (141, .getfield 93, 3), (144, .imul, 1), (145, .iload 7, 2), (147, .iload 9, 2), (149, .imul, 1), (150, .iadd, 1), (151, .aload_n 0, 1), (152, .getfield 99, 3), (155, .aload_n 0, 1), (156, .getfield 93, 3), (159, .imul, 1), (160, .if_icmp .gt 8, 3), (163, .iload 9, 2), (165, .goto 5, 3), (168, .iload 8, 2), (170, .istore 8, 2), (172, .iinc 9 1, 3), (175, .goto (-48), 3), (178, .iload 8, 2), (180, .ireturn, 1)]
set_option maxRecDepth 100000 in
theorem okX10_growth : dtab cX10_growth tX10_growth = true := by decide +kernel
def tX10_work : List (Nat × Instr × Nat) := [(0, .iload_n 1, 1), (1, .iconst 1, 1), (2, .sipush 1000, 3), (5, .invokestatic 120, 3), (8, .ifCond .eq 13, 3), (11, .iload_n 2, 1), (12, .iconst 1, 1), (13, .bipush 8, 2), (15, .invokestatic 120, 3), (18, .ifCond .ne 6, 3), (21, .bipush (-2), 2), (23, .ireturn, 1), (24, .aload_n 0, 1), (25, .getfield 218, 3), (28, .bipush 30, 2), (30, .if_icmp .ne 6, 3), (33, .bipush (-3), 2), (35, .ireturn, 1), (36, .aload_n 0, 1), (37, .getfield 102, 3), (40, .aload_n 0, 1), (41, .getfield 218, 3), (44, .iload_n 1, 1), (45, .iastore, 1), (46, .aload_n 0, 1), (47, .getfield 105, 3), (50, .aload_n 0, 1), (51, .getfield 218, 3), (54, .iload_n 2, 1), (55, .iastore, 1), (56, .aload_n 0, 1), (57, .dup, 1), (58, .getfield 218, 3), (61, .iconst 1, 1), (62, .iadd, 1), (63, .putfield 218, 3), (66, .aload_n 0, 1), (67, .getfield 218, 3), (70, .iconst 1, 1), (71, .isub, 1), (72, .ireturn, 1)]
set_option maxRecDepth 100000 in
theorem okX10_work : dtab cX10_work tX10_work = true := by decide +kernel
def tX10_yearly : List (Nat × Instr × Nat) := [(0, .iload_n 1, 1), (1, .iconst 1, 1), (2, .bipush 30, 2), (4, .invokestatic 120, 3), (7, .ifCond .eq 14, 3), (10, .iload_n 2, 1), (11, .iconst 0, 1), (12, .sipush 10000, 3), (15, .invokestatic 120, 3), (18, .ifCond .ne 6, 3), (21, .bipush (-2), 2), (23, .ireturn, 1), (24, .aload_n 0, 1), (25, .iload_n 1, 1), (26, .putfield 108, 3), (29, .aload_n 0, 1), (30, .iload_n 2, 1), (31, .putfield 111, 3), (34, .iconst 1, 1), (35, .ireturn, 1)]
set_option maxRecDepth 100000 in
theorem okX10_yearly : dtab cX10_yearly tX10_yearly = true := by decide +kernel
def tX10_many : List (Nat × Instr × Nat) := [(0, .iconst 0, 1), (1, .istore_n 1, 1), (2, .iconst 0, 1), (3, .istore_n 2, 1), (4, .iload_n 2, 1), (5, .bipush 8, 2), (7, .if_icmp .ge 17, 3), (10, .iload_n 1, 1), (11, .iload_n 0, 1), (12, .iload_n 2, 1), (13, .ishr, 1), (14, .iconst 1, 1), (15, .iand, 1), (16, .iadd, 1), (17, .istore_n 1, 1), (18, .iinc 2 1, 3), (21, .goto (-17), 3), (24, .iload_n 1, 1), (25, .ireturn, 1)]
set_option maxRecDepth 100000 in
theorem okX10_many : dtab cX10_many tX10_many = true := by decide +kernel
def tX10_willDo : List (Nat × Instr × Nat) := [(0, .iconst 1, 1), (1, .istore_n 2, 1), (2, .iload_n 2, 1), (3, .bipush 8, 2), (5, .if_icmp .gt 69, 3), (8, .iconst 0, 1), (9, .istore_n 3, 1), (10, .iconst 0, 1), (11, .istore 4, 2), (13, .iload 4, 2), (15, .aload_n 0, 1), (16, .getfield 218, 3), (19, .if_icmp .ge 28, 3), (22, .iload_n 3, 1), (23, .aload_n 0, 1), (24, .getfield 105, 3), (27, .iload 4, 2), (29, .iaload, 1), (30, .iload_n 2, 1), (31, .if_icmp .gt 7, 3), (34, .iconst 1, 1), (35, .goto 4, 3), (38, .iconst 0, 1), (39, .iadd, 1), (40, .istore_n 3, 1), (41, .iinc 4 1, 3), (44, .goto (-31), 3), (47, .iload_n 3, 1), (48, .aload_n 0, 1), (49, .getfield 108, 3), (52, .iload_n 1, 1), (53, .iconst 1, 1), (54, .iload_n 2, 1), (55, .ishl, 1), (56, .iconst 1, 1), (57, .isub, 1), (58, .iand, 1), (59, .invokestatic 221, 3), (62, .imul, 1), (63, .if_icmp .le 5, 3), (66, .iconst 0, 1), (67, .ireturn, 1), (68, .iinc 2 1, 3), (71, .goto (-69), 3), (74, .iconst 1, 1), (75, .ireturn, 1)]
set_option maxRecDepth 100000 in
theorem okX10_willDo : dtab cX10_willDo tX10_willDo = true := by decide +kernel
def tX10_planned : List (Nat × Instr × Nat) := [(0, .iconst (-1), 1), (1, .istore_n 1, 1), (2, .iconst 0, 1), (3, .istore_n 2, 1), (4, .iload_n 2, 1), (5, .sipush 256, 3), (8, .if_icmp .ge 45, 3), (11, .aload_n 0, 1), (12, .iload_n 2, 1), (13, .invokevirtual 224, 3), (16, .ifCond .eq 31, 3), (19, .iload_n 1, 1), (20, .iconst (-1), 1), (21, .if_icmp .eq 24, 3), (24, .aload_n 0, 1), (25, .getfield 111, 3), (28, .iload_n 2, 1), (29, .invokestatic 221, 3), (32, .imul, 1), (33, .aload_n 0, 1), (34, .getfield 111, 3), (37, .iload_n 1, 1), (38, .invokestatic 221, 3), (41, .imul, 1), (42, .if_icmp .ge 5, 3), (45, .iload_n 2, 1), (46, .istore_n 1, 1), (47, .iinc 2 1, 3), (50, .goto (-46), 3), (53, .iload_n 1, 1), (54, .ireturn, 1)]
set_option maxRecDepth 100000 in
theorem okX10_planned : dtab cX10_planned tX10_planned = true := by decide +kernel
def tX10_plan : List (Nat × Instr × Nat) := [(0, .aload_n 0, 1), (1, .invokevirtual 227, 3), (4, .istore_n 1, 1), (5, .iload_n 1, 1), (6, .iconst (-1), 1), (7, .if_icmp .ne 6, 3), (10, .bipush (-4), 2), (12, .ireturn, 1), (13, .aload_n 0, 1), (14, .getfield 111, 3), (17, .iload_n 1, 1), (18, .invokestatic 221, 3), (21, .imul, 1), (22, .istore_n 2, 1), (23, .iconst 0, 1), (24, .istore_n 3, 1), (25, .iload_n 3, 1), (26, .aload_n 0, 1), (27, .getfield 218, 3), (30, .if_icmp .ge 18, 3), (33, .iload_n 2, 1), (34, .aload_n 0, 1), (35, .getfield 102, 3), (38, .iload_n 3, 1), (39, .iaload, 1), (40, .iadd, 1), (41, .istore_n 2, 1), (42, .iinc 3 1, 3), (45, .goto (-20), 3), (48, .iload_n 2, 1), (49, .ireturn, 1)]
set_option maxRecDepth 100000 in
theorem okX10_plan : dtab cX10_plan tX10_plan = true := by decide +kernel
def tX10_years : List (Nat × Instr × Nat) := [(0, .aload_n 0, 1), (1, .invokevirtual 227, 3), (4, .istore_n 1, 1), (5, .iload_n 1, 1), (6, .iconst (-1), 1), (7, .if_icmp .ne 8, 3), (10, .bipush (-4), 2), (12, .goto 4, 3), (15, .iload_n 1, 1), (16, .ireturn, 1)]
set_option maxRecDepth 100000 in
theorem okX10_years : dtab cX10_years tX10_years = true := by decide +kernel
def tX10_when : List (Nat × Instr × Nat) := [(0, .iload_n 1, 1), (1, .iconst 0, 1), (2, .aload_n 0, 1), (3, .getfield 218, 3), (6, .iconst 1, 1), (7, .isub, 1), (8, .invokestatic 120, 3), (11, .ifCond .ne 6, 3), (14, .bipush (-2), 2), (16, .ireturn, 1), (17, .aload_n 0, 1), (18, .invokevirtual 227, 3), (21, .istore_n 2, 1), (22, .iload_n 2, 1), (23, .iconst (-1), 1), (24, .if_icmp .ne 6, 3), (27, .bipush (-4), 2), (29, .ireturn, 1), (30, .iconst 0, 1), (31, .istore_n 3, 1), (32, .iconst 0, 1), (33, .istore 4, 2), (35, .iload 4, 2), (37, .aload_n 0, 1), (38, .getfield 218, 3), (41, .if_icmp .ge 55, 3), (44, .iload_n 3, 1), (45, .aload_n 0, 1), (46, .getfield 105, 3), (49, .iload 4, 2), (51, .iaload, 1), (52, .aload_n 0, 1), (53, .getfield 105, 3), (56, .iload_n 1, 1), (57, .iaload, 1), (58, .if_icmp .lt 25, 3), (61, .aload_n 0, 1), (62, .getfield 105, 3), (65, .iload 4, 2), (67, .iaload, 1), (68, .aload_n 0, 1), (69, .getfield 105, 3), (72, .iload_n 1, 1), (73, .iaload, 1), (74, .if_icmp .ne 13, 3), (77, .iload 4, 2), (79, .iload_n 1, 1), (80, .if_icmp .ge 7, 3), (83, .iconst 1, 1), (84, .goto 4, 3), (87, .iconst 0, 1), (88, .iadd, 1), (89, .istore_n 3, 1), (90, .iinc 4 1, 3), (93, .goto (-58), 3), (96, .iconst 0, 1), (97, .istore 4, 2), (99, .iload_n 3, 1), (100, .aload_n 0, 1), (101, .getfield 108, 3), (104, .idiv, 1), (105, .istore 5, 2), (107, .iload_n 2, 1), (108, .iload 4, 2), (110, .ishr, 1), (111, .iconst 1, 1), (112, .iand, 1), (113, .ifCond .eq 8, 3), (116, .iload 5, 2), (118, .ifCond .le 20, 3), (121, .iload 5, 2), (123, .iload_n 2, 1), (124, .iload 4, 2), (126, .ishr, 1), (127, .iconst 1, 1), (128, .iand, 1), (129, .isub, 1), (130, .istore 5, 2), (132, .iinc 4 1, 3), (135, .goto (-28), 3), (138, .iload 4, 2), (140, .iconst 1, 1), (141, .iadd, 1), (142, .ireturn, 1)]
set_option maxRecDepth 100000 in
theorem okX10_when : dtab cX10_when tX10_when = true := by decide +kernel
def tX10_mayOpen : List (Nat × Instr × Nat) := [(0, .iload_n 1, 1), (1, .tableswitch 75 0 2 #[27, 27, 51], 27), (28, .aload_n 0, 1), (29, .getfield 114, 3), (32, .iconst 3, 1), (33, .baload, 1), (34, .ifCond .ne 16, 3), (37, .aload_n 0, 1), (38, .getfield 114, 3), (41, .iconst 2, 1), (42, .baload, 1), (43, .ifCond .ne 7, 3), (46, .iconst 1, 1), (47, .goto 4, 3), (50, .iconst 0, 1), (51, .ireturn, 1), (52, .aload_n 0, 1), (53, .getfield 114, 3), (56, .iconst 0, 1), (57, .baload, 1), (58, .ifCond .ne 16, 3), (61, .aload_n 0, 1), (62, .getfield 114, 3), (65, .iconst 1, 1), (66, .baload, 1), (67, .ifCond .ne 7, 3), (70, .iconst 1, 1), (71, .goto 4, 3), (74, .iconst 0, 1), (75, .ireturn, 1), (76, .aload_n 0, 1), (77, .getfield 230, 3), (80, .ifCond .ne 16, 3), (83, .aload_n 0, 1), (84, .getfield 114, 3), (87, .iconst 2, 1), (88, .baload, 1), (89, .ifCond .eq 7, 3), (92, .iconst 1, 1), (93, .goto 4, 3), (96, .iconst 0, 1), (97, .ireturn, 1)]
set_option maxRecDepth 100000 in
theorem okX10_mayOpen : dtab cX10_mayOpen tX10_mayOpen = true := by decide +kernel
def tX10_trap : List (Nat × Instr × Nat) := [(0, .iload_n 1, 1), (1, .iconst 0, 1), (2, .iconst 3, 1), (3, .invokestatic 120, 3), (6, .ifCond .ne 6, 3), (9, .bipush (-2), 2), (11, .ireturn, 1), (12, .aload_n 0, 1), (13, .getfield 114, 3), (16, .iload_n 1, 1), (17, .baload, 1), (18, .iload_n 2, 1), (19, .if_icmp .ne 5, 3), (22, .iconst 0, 1), (23, .ireturn, 1), (24, .iload_n 2, 1), (25, .ifCond .eq 14, 3), (28, .aload_n 0, 1), (29, .iload_n 1, 1), (30, .invokevirtual 234, 3), (33, .ifCond .ne 6, 3), (36, .bipush (-4), 2), (38, .ireturn, 1), (39, .aload_n 0, 1), (40, .getfield 114, 3), (43, .iload_n 1, 1), (44, .iload_n 2, 1), (45, .bastore, 1), (46, .iload_n 2, 1), (47, .ifCond .eq 29, 3), (50, .aload_n 0, 1), (51, .iload_n 1, 1), (52, .iconst 2, 1), (53, .if_icmp .ne 7, 3), (56, .iconst 0, 1), (57, .goto 16, 3), (60, .iload_n 1, 1), (61, .iconst 3, 1), (62, .if_icmp .ne 10, 3), (65, .aload_n 0, 1), (66, .getfield 230, 3), (69, .goto 4, 3), (72, .iconst 1, 1), (73, .putfield 230, 3), (76, .iconst 1, 1), (77, .ireturn, 1)]
set_option maxRecDepth 100000 in
theorem okX10_trap : dtab cX10_trap tX10_trap = true := by decide +kernel
def tX10_count : List (Nat × Instr × Nat) := [(0, .iload_n 1, 1), (1, .tableswitch 141 0 6 #[43, 48, 48, 57, 62, 123, 136], 43), (44, .aload_n 0, 1), (45, .getfield 161, 3), (48, .ireturn, 1), (49, .aload_n 0, 1), (50, .getfield 51, 3), (53, .iload_n 1, 1), (54, .iconst 1, 1), (55, .isub, 1), (56, .iaload, 1), (57, .ireturn, 1), (58, .aload_n 0, 1), (59, .getfield 218, 3), (62, .ireturn, 1), (63, .aload_n 0, 1), (64, .getfield 114, 3), (67, .iconst 0, 1), (68, .baload, 1), (69, .ifCond .eq 7, 3), (72, .iconst 1, 1), (73, .goto 4, 3), (76, .iconst 0, 1), (77, .aload_n 0, 1), (78, .getfield 114, 3), (81, .iconst 1, 1), (82, .baload, 1), (83, .ifCond .eq 7, 3), (86, .iconst 2, 1), (87, .goto 4, 3), (90, .iconst 0, 1), (91, .iadd, 1), (92, .aload_n 0, 1), (93, .getfield 114, 3), (96, .iconst 2, 1), (97, .baload, 1), (98, .ifCond .eq 7, 3), (101, .iconst 4, 1), (102, .goto 4, 3), (105, .iconst 0, 1), (106, .iadd, 1), (107, .aload_n 0, 1), (108, .getfield 114, 3), (111, .iconst 3, 1), (112, .baload, 1), (113, .ifCond .eq 8, 3), (116, .bipush 8, 2), (118, .goto 4, 3), (121, .iconst 0, 1), (122, .iadd, 1), (123, .ireturn, 1), (124, .aload_n 0, 1), (125, .getfield 230, 3), (128, .ifCond .eq 7, 3), (131, .iconst 1, 1), (132, .goto 4, 3), (135, .iconst 0, 1), (136, .ireturn, 1), (137, .aload_n 0, 1), (138, .getfield 117, 3), (141, .ireturn, 1), (142, .bipush (-2), 2), (144, .ireturn, 1)]
set_option maxRecDepth 100000 in
theorem okX10_count : dtab cX10_count tX10_count = true := by decide +kernel
def tX10_digest : List (Nat × Instr × Nat) := [(0, .ldc2_w 237, 3), (3, .lstore_n 1, 1), (4, .iconst 0, 1), (5, .istore_n 3, 1), (6, .iload_n 3, 1), (7, .bipush 6, 2), (9, .if_icmp .ge 22, 3), (12, .ldc2_w 239, 3), (15, .lload_n 1, 1), (16, .lmul, 1), (17, .aload_n 0, 1), (18, .iload_n 3, 1), (19, .invokevirtual 241, 3), (22, .i2l, 1), (23, .ladd, 1), (24, .lstore_n 1, 1), (25, .iinc 3 1, 3), (28, .goto (-22), 3), (31, .iconst 0, 1), (32, .istore_n 3, 1), (33, .iload_n 3, 1), (34, .iconst 2, 1), (35, .if_icmp .ge 138, 3), (38, .iconst 0, 1), (39, .istore 4, 2), (41, .iload 4, 2), (43, .iconst 4, 1), (44, .if_icmp .ge 24, 3), (47, .ldc2_w 239, 3), (50, .lload_n 1, 1), (51, .lmul, 1), (52, .aload_n 0, 1), (53, .iload_n 3, 1), (54, .iload 4, 2), (56, .invokevirtual 244, 3), (59, .i2l, 1), (60, .ladd, 1), (61, .lstore_n 1, 1), (62, .iinc 4 1, 3), (65, .goto (-24), 3), (68, .iconst 0, 1), (69, .istore 4, 2), (71, .iload 4, 2), (73, .aload_n 0, 1), (74, .getfield 143, 3), (77, .if_icmp .ge 24, 3), (80, .ldc2_w 239, 3), (83, .lload_n 1, 1), (84, .lmul, 1), (85, .aload_n 0, 1), (86, .getfield 32, 3), (89, .iload 4, 2), (91, .iaload, 1), (92, .i2l, 1), (93, .ladd, 1), (94, .lstore_n 1, 1), (95, .iinc 4 1, 3), (98, .goto (-27), 3), (101, .ldc2_w 239, 3), (104, .lload_n 1, 1), (105, .lmul, 1), (106, .aload_n 0, 1), (107, .iload_n 3, 1), (108, .invokevirtual 247, 3), (111, .i2l, 1), (112, .ladd, 1), (113, .lstore_n 1, 1), (114, .iconst 0, 1), (115, .istore 4, 2), (117, .iload 4, 2), (119, .aload_n 0, 1), (120, .getfield 51, 3), (123, .iload_n 3, 1), (124, .iaload, 1), (125, .if_icmp .ge 42, 3), (128, .iconst 0, 1), (129, .istore 5, 2), (131, .iload 5, 2), (133, .bipush 6, 2), (135, .if_icmp .ge 26, 3), (138, .ldc2_w 239, 3), (141, .lload_n 1, 1), (142, .lmul, 1), (143, .aload_n 0, 1), (144, .iload_n 3, 1), (145, .iload 4, 2), (147, .iload 5, 2), (149, .invokevirtual 250, 3), (152, .i2l, 1), (153, .ladd, 1), (154, .lstore_n 1, 1), (155, .iinc 5 1, 3), (158, .goto (-27), 3), (161, .iinc 4 1, 3), (164, .goto (-47), 3), (167, .iinc 3 1, 3), (170, .goto (-137), 3), (173, .lload_n 1, 1), (174, .lreturn, 1)]
set_option maxRecDepth 100000 in
theorem okX10_digest : dtab cX10_digest tX10_digest = true := by decide +kernel
def tJ6_bitCount_0f7a4 : List (Nat × Instr × Nat) := [(0, .iload_n 0, 1), (1, .iload_n 0, 1), (2, .iconst 1, 1), (3, .iushr, 1), (4, .ldc_w 265, 3), (7, .iand, 1), (8, .isub, 1), (9, .istore_n 0, 1), (10, .iload_n 0, 1), (11, .ldc_w 266, 3), (14, .iand, 1), (15, .iload_n 0, 1), (16, .iconst 2, 1), (17, .iushr, 1), (18, .ldc_w 266, 3), (21, .iand, 1), (22, .iadd, 1), (23, .istore_n 0, 1), (24, .iload_n 0, 1), (25, .iload_n 0, 1), (26, .iconst 4, 1), (27, .iushr, 1), (28, .iadd, 1), (29, .ldc_w 267, 3), (32, .iand, 1), (33, .istore_n 0, 1), (34, .iload_n 0, 1), (35, .iload_n 0, 1), (36, .bipush 8, 2), (38, .iushr, 1), (39, .iadd, 1), (40, .istore_n 0, 1), (41, .iload_n 0, 1), (42, .iload_n 0, 1), (43, .bipush 16, 2), (45, .iushr, 1), (46, .iadd, 1), (47, .istore_n 0, 1), (48, .iload_n 0, 1), (49, .bipush 63, 2), (51, .iand, 1), (52, .ireturn, 1)]
set_option maxRecDepth 100000 in
theorem okJ6_bitCount_0f7a4 : dtab cJ6_bitCount_0f7a4 tJ6_bitCount_0f7a4 = true := by decide +kernel
def tJ9_abs_0f7a4 : List (Nat × Instr × Nat) := [(0, .iload_n 0, 1), (1, .ifCond .ge 8, 3), (4, .iload_n 0, 1), (5, .ineg, 1), (6, .goto 4, 3), (9, .iload_n 0, 1), (10, .ireturn, 1)]
set_option maxRecDepth 100000 in
theorem okJ9_abs_0f7a4 : dtab cJ9_abs_0f7a4 tJ9_abs_0f7a4 = true := by decide +kernel
def tJ9_max_7cf53 : List (Nat × Instr × Nat) := [(0, .iload_n 0, 1), (1, .iload_n 1, 1), (2, .if_icmp .lt 7, 3), (5, .iload_n 0, 1), (6, .goto 4, 3), (9, .iload_n 1, 1), (10, .ireturn, 1)]
set_option maxRecDepth 100000 in
theorem okJ9_max_7cf53 : dtab cJ9_max_7cf53 tJ9_max_7cf53 = true := by decide +kernel
def tJ9_min_7cf53 : List (Nat × Instr × Nat) := [(0, .iload_n 0, 1), (1, .iload_n 1, 1), (2, .if_icmp .gt 7, 3), (5, .iload_n 0, 1), (6, .goto 4, 3), (9, .iload_n 1, 1), (10, .ireturn, 1)]
set_option maxRecDepth 100000 in
theorem okJ9_min_7cf53 : dtab cJ9_min_7cf53 tJ9_min_7cf53 = true := by decide +kernel
end
section
def tL_law_p0 : List (Nat × Instr × Nat) := [(0, .new 7, 3), (3, .dup, 1), (4, .invokespecial 9, 3), (7, .astore_n 1, 1), (8, .new 10, 3), (11, .dup, 1), (12, .invokespecial 12, 3), (15, .astore_n 2, 1), (16, .iconst 0, 1), (17, .istore_n 3, 1), (18, .iload_n 3, 1), (19, .aload_n 0, 1), (20, .arraylength, 1), (21, .bipush 6, 2), (23, .isub, 1), (24, .if_icmp .gt 1191, 3), (27, .aload_n 0, 1), (28, .iload_n 3, 1), (29, .iaload, 1), (30, .bipush 31, 2), (32, .iand, 1), (33, .tableswitch 1176 0 31 #[143, 186, 209, 262, 305, 368, 401, 434, 477, 500, 513, 546, 569, 602, 665, 688, 731, 764, 787, 830, 853, 876, 899, 942, 975, 1008, 1041, 1054, 1067, 1090, 1139, 1162], 143), (176, .aload_n 1, 1), (177, .aload_n 0, 1), (178, .iload_n 3, 1), (179, .iconst 1, 1), (180, .iadd, 1), (181, .iaload, 1), (182, .aload_n 0, 1), (183, .iload_n 3, 1), (184, .iconst 2, 1), (185, .iadd, 1), (186, .iaload, 1), (187, .aload_n 0, 1), (188, .iload_n 3, 1), (189, .iconst 3, 1), (190, .iadd, 1), (191, .iaload, 1), (192, .invokevirtual 13, 3), (195, .aload_n 2, 1), (196, .aload_n 0, 1), (197, .iload_n 3, 1), (198, .iconst 1, 1), (199, .iadd, 1), (200, .iaload, 1), (201, .aload_n 0, 1), (202, .iload_n 3, 1), (203, .iconst 2, 1), (204, .iadd, 1), (205, .iaload, 1), (206, .aload_n 0, 1), (207, .iload_n 3, 1), (208, .iconst 3, 1), (209, .iadd, 1), (210, .iaload, 1), (211, .invokevirtual 17, 3), (214, .if_icmp .eq 995, 3), (217, .iconst 0, 1), (218, .ireturn, 1), (219, .aload_n 1, 1), (220, .aload_n 0, 1), (221, .iload_n 3, 1), (222, .iconst 1, 1), (223, .iadd, 1), (224, .iaload, 1), (225, .invokevirtual 18, 3), (228, .aload_n 2, 1), (229, .aload_n 0, 1), (230, .iload_n 3, 1), (231, .iconst 1, 1), (232, .iadd, 1), (233, .iaload, 1), (234, .invokevirtual 22, 3), (237, .if_icmp .eq 972, 3), (240, .iconst 0, 1), (241, .ireturn, 1), (242, .aload_n 1, 1), (243, .aload_n 0, 1), (244, .iload_n 3, 1), (245, .iconst 1, 1), (246, .iadd, 1), (247, .iaload, 1), (248, .aload_n 0, 1), (249, .iload_n 3, 1), (250, .iconst 2, 1), (251, .iadd, 1), (252, .iaload, 1), (253, .aload_n 0, 1), (254, .iload_n 3, 1), (255, .iconst 3, 1), (256, .iadd, 1), (257, .iaload, 1), (258, .aload_n 0, 1), (259, .iload_n 3, 1), (260, .iconst 4, 1), (261, .iadd, 1), (262, .iaload, 1), (263, .invokevirtual 23, 3), (266, .aload_n 2, 1), (267, .aload_n 0, 1), (268, .iload_n 3, 1), (269, .iconst 1, 1), (270, .iadd, 1), (271, .iaload, 1), (272, .aload_n 0, 1), (273, .iload_n 3, 1), (274, .iconst 2, 1), (275, .iadd, 1), (276, .iaload, 1), (277, .aload_n 0, 1), (278, .iload_n 3, 1), (279, .iconst 3, 1), (280, .iadd, 1), (281, .iaload, 1), (282, .aload_n 0, 1), (283, .iload_n 3, 1), (284, .iconst 4, 1), (285, .iadd, 1), (286, .iaload, 1), (287, .invokevirtual 27, 3)]
set_option maxRecDepth 100000 in
theorem okL_law_p0 : dtab cL_law tL_law_p0 = true := by decide +kernel
def tL_law_p1 : List (Nat × Instr × Nat) := [(290, .if_icmp .eq 919, 3), (293, .iconst 0, 1), (294, .ireturn, 1), (295, .aload_n 1, 1), (296, .aload_n 0, 1), (297, .iload_n 3, 1), (298, .iconst 1, 1), (299, .iadd, 1), (300, .iaload, 1), (301, .aload_n 0, 1), (302, .iload_n 3, 1), (303, .iconst 2, 1), (304, .iadd, 1), (305, .iaload, 1), (306, .aload_n 0, 1), (307, .iload_n 3, 1), (308, .iconst 3, 1), (309, .iadd, 1), (310, .iaload, 1), (311, .invokevirtual 28, 3), (314, .aload_n 2, 1), (315, .aload_n 0, 1), (316, .iload_n 3, 1), (317, .iconst 1, 1), (318, .iadd, 1), (319, .iaload, 1), (320, .aload_n 0, 1), (321, .iload_n 3, 1), (322, .iconst 2, 1), (323, .iadd, 1), (324, .iaload, 1), (325, .aload_n 0, 1), (326, .iload_n 3, 1), (327, .iconst 3, 1), (328, .iadd, 1), (329, .iaload, 1), (330, .invokevirtual 31, 3), (333, .if_icmp .eq 876, 3), (336, .iconst 0, 1), (337, .ireturn, 1), (338, .aload_n 1, 1), (339, .aload_n 0, 1), (340, .iload_n 3, 1), (341, .iconst 1, 1), (342, .iadd, 1), (343, .iaload, 1), (344, .aload_n 0, 1), (345, .iload_n 3, 1), (346, .iconst 2, 1), (347, .iadd, 1), (348, .iaload, 1), (349, .aload_n 0, 1), (350, .iload_n 3, 1), (351, .iconst 3, 1), (352, .iadd, 1), (353, .iaload, 1), (354, .aload_n 0, 1), (355, .iload_n 3, 1), (356, .iconst 4, 1), (357, .iadd, 1), (358, .iaload, 1), (359, .aload_n 0, 1), (360, .iload_n 3, 1), (361, .iconst 5, 1), (362, .iadd, 1), (363, .iaload, 1), (364, .invokevirtual 32, 3), (367, .aload_n 2, 1), (368, .aload_n 0, 1), (369, .iload_n 3, 1), (370, .iconst 1, 1), (371, .iadd, 1), (372, .iaload, 1), (373, .aload_n 0, 1), (374, .iload_n 3, 1), (375, .iconst 2, 1), (376, .iadd, 1), (377, .iaload, 1), (378, .aload_n 0, 1), (379, .iload_n 3, 1), (380, .iconst 3, 1), (381, .iadd, 1), (382, .iaload, 1), (383, .aload_n 0, 1), (384, .iload_n 3, 1), (385, .iconst 4, 1), (386, .iadd, 1), (387, .iaload, 1), (388, .aload_n 0, 1), (389, .iload_n 3, 1), (390, .iconst 5, 1), (391, .iadd, 1), (392, .iaload, 1), (393, .invokevirtual 36, 3), (396, .if_icmp .eq 813, 3), (399, .iconst 0, 1), (400, .ireturn, 1), (401, .aload_n 1, 1), (402, .aload_n 0, 1), (403, .iload_n 3, 1), (404, .iconst 1, 1), (405, .iadd, 1), (406, .iaload, 1), (407, .aload_n 0, 1), (408, .iload_n 3, 1), (409, .iconst 2, 1), (410, .iadd, 1), (411, .iaload, 1), (412, .invokevirtual 37, 3), (415, .aload_n 2, 1), (416, .aload_n 0, 1), (417, .iload_n 3, 1), (418, .iconst 1, 1), (419, .iadd, 1), (420, .iaload, 1), (421, .aload_n 0, 1), (422, .iload_n 3, 1), (423, .iconst 2, 1), (424, .iadd, 1), (425, .iaload, 1)]
set_option maxRecDepth 100000 in
theorem okL_law_p1 : dtab cL_law tL_law_p1 = true := by decide +kernel
def tL_law_p2 : List (Nat × Instr × Nat) := [(426, .invokevirtual 41, 3), (429, .if_icmp .eq 780, 3), (432, .iconst 0, 1), (433, .ireturn, 1), (434, .aload_n 1, 1), (435, .aload_n 0, 1), (436, .iload_n 3, 1), (437, .iconst 1, 1), (438, .iadd, 1), (439, .iaload, 1), (440, .aload_n 0, 1), (441, .iload_n 3, 1), (442, .iconst 2, 1), (443, .iadd, 1), (444, .iaload, 1), (445, .invokevirtual 42, 3), (448, .aload_n 2, 1), (449, .aload_n 0, 1), (450, .iload_n 3, 1), (451, .iconst 1, 1), (452, .iadd, 1), (453, .iaload, 1), (454, .aload_n 0, 1), (455, .iload_n 3, 1), (456, .iconst 2, 1), (457, .iadd, 1), (458, .iaload, 1), (459, .invokevirtual 45, 3), (462, .if_icmp .eq 747, 3), (465, .iconst 0, 1), (466, .ireturn, 1), (467, .aload_n 1, 1), (468, .aload_n 0, 1), (469, .iload_n 3, 1), (470, .iconst 1, 1), (471, .iadd, 1), (472, .iaload, 1), (473, .aload_n 0, 1), (474, .iload_n 3, 1), (475, .iconst 2, 1), (476, .iadd, 1), (477, .iaload, 1), (478, .aload_n 0, 1), (479, .iload_n 3, 1), (480, .iconst 3, 1), (481, .iadd, 1), (482, .iaload, 1), (483, .invokevirtual 46, 3), (486, .aload_n 2, 1), (487, .aload_n 0, 1), (488, .iload_n 3, 1), (489, .iconst 1, 1), (490, .iadd, 1), (491, .iaload, 1), (492, .aload_n 0, 1), (493, .iload_n 3, 1), (494, .iconst 2, 1), (495, .iadd, 1), (496, .iaload, 1), (497, .aload_n 0, 1), (498, .iload_n 3, 1), (499, .iconst 3, 1), (500, .iadd, 1), (501, .iaload, 1), (502, .invokevirtual 49, 3), (505, .if_icmp .eq 704, 3), (508, .iconst 0, 1), (509, .ireturn, 1), (510, .aload_n 1, 1), (511, .aload_n 0, 1), (512, .iload_n 3, 1), (513, .iconst 1, 1), (514, .iadd, 1), (515, .iaload, 1), (516, .invokevirtual 50, 3), (519, .aload_n 2, 1), (520, .aload_n 0, 1), (521, .iload_n 3, 1), (522, .iconst 1, 1), (523, .iadd, 1), (524, .iaload, 1), (525, .invokevirtual 53, 3), (528, .if_icmp .eq 681, 3), (531, .iconst 0, 1), (532, .ireturn, 1), (533, .aload_n 1, 1), (534, .invokevirtual 54, 3), (537, .aload_n 2, 1), (538, .invokevirtual 58, 3), (541, .if_icmp .eq 668, 3), (544, .iconst 0, 1), (545, .ireturn, 1), (546, .aload_n 1, 1), (547, .aload_n 0, 1), (548, .iload_n 3, 1), (549, .iconst 1, 1), (550, .iadd, 1), (551, .iaload, 1), (552, .aload_n 0, 1), (553, .iload_n 3, 1), (554, .iconst 2, 1), (555, .iadd, 1), (556, .iaload, 1), (557, .invokevirtual 59, 3), (560, .aload_n 2, 1), (561, .aload_n 0, 1), (562, .iload_n 3, 1), (563, .iconst 1, 1), (564, .iadd, 1), (565, .iaload, 1), (566, .aload_n 0, 1), (567, .iload_n 3, 1), (568, .iconst 2, 1), (569, .iadd, 1), (570, .iaload, 1), (571, .invokevirtual 62, 3), (574, .if_icmp .eq 635, 3), (577, .iconst 0, 1), (578, .ireturn, 1), (579, .aload_n 1, 1)]
set_option maxRecDepth 100000 in
theorem okL_law_p2 : dtab cL_law tL_law_p2 = true := by decide +kernel
def tL_law_p3 : List (Nat × Instr × Nat) := [(580, .aload_n 0, 1), (581, .iload_n 3, 1), (582, .iconst 1, 1), (583, .iadd, 1), (584, .iaload, 1), (585, .invokevirtual 63, 3), (588, .aload_n 2, 1), (589, .aload_n 0, 1), (590, .iload_n 3, 1), (591, .iconst 1, 1), (592, .iadd, 1), (593, .iaload, 1), (594, .invokevirtual 66, 3), (597, .if_icmp .eq 612, 3), (600, .iconst 0, 1), (601, .ireturn, 1), (602, .aload_n 1, 1), (603, .aload_n 0, 1), (604, .iload_n 3, 1), (605, .iconst 1, 1), (606, .iadd, 1), (607, .iaload, 1), (608, .aload_n 0, 1), (609, .iload_n 3, 1), (610, .iconst 2, 1), (611, .iadd, 1), (612, .iaload, 1), (613, .invokevirtual 67, 3), (616, .aload_n 2, 1), (617, .aload_n 0, 1), (618, .iload_n 3, 1), (619, .iconst 1, 1), (620, .iadd, 1), (621, .iaload, 1), (622, .aload_n 0, 1), (623, .iload_n 3, 1), (624, .iconst 2, 1), (625, .iadd, 1), (626, .iaload, 1), (627, .invokevirtual 70, 3), (630, .if_icmp .eq 579, 3), (633, .iconst 0, 1), (634, .ireturn, 1), (635, .aload_n 1, 1), (636, .aload_n 0, 1), (637, .iload_n 3, 1), (638, .iconst 1, 1), (639, .iadd, 1), (640, .iaload, 1), (641, .aload_n 0, 1), (642, .iload_n 3, 1), (643, .iconst 2, 1), (644, .iadd, 1), (645, .iaload, 1), (646, .aload_n 0, 1), (647, .iload_n 3, 1), (648, .iconst 3, 1), (649, .iadd, 1), (650, .iaload, 1), (651, .aload_n 0, 1), (652, .iload_n 3, 1), (653, .iconst 4, 1), (654, .iadd, 1), (655, .iaload, 1), (656, .aload_n 0, 1), (657, .iload_n 3, 1), (658, .iconst 5, 1), (659, .iadd, 1), (660, .iaload, 1), (661, .invokevirtual 71, 3), (664, .aload_n 2, 1), (665, .aload_n 0, 1), (666, .iload_n 3, 1), (667, .iconst 1, 1), (668, .iadd, 1), (669, .iaload, 1), (670, .aload_n 0, 1), (671, .iload_n 3, 1), (672, .iconst 2, 1), (673, .iadd, 1), (674, .iaload, 1), (675, .aload_n 0, 1), (676, .iload_n 3, 1), (677, .iconst 3, 1), (678, .iadd, 1), (679, .iaload, 1), (680, .aload_n 0, 1), (681, .iload_n 3, 1), (682, .iconst 4, 1), (683, .iadd, 1), (684, .iaload, 1), (685, .aload_n 0, 1), (686, .iload_n 3, 1), (687, .iconst 5, 1), (688, .iadd, 1), (689, .iaload, 1), (690, .invokevirtual 74, 3), (693, .if_icmp .eq 516, 3), (696, .iconst 0, 1), (697, .ireturn, 1), (698, .aload_n 1, 1), (699, .aload_n 0, 1), (700, .iload_n 3, 1), (701, .iconst 1, 1), (702, .iadd, 1), (703, .iaload, 1), (704, .invokevirtual 75, 3), (707, .aload_n 2, 1), (708, .aload_n 0, 1), (709, .iload_n 3, 1), (710, .iconst 1, 1), (711, .iadd, 1), (712, .iaload, 1), (713, .invokevirtual 78, 3), (716, .if_icmp .eq 493, 3), (719, .iconst 0, 1), (720, .ireturn, 1), (721, .aload_n 1, 1), (722, .aload_n 0, 1), (723, .iload_n 3, 1)]
set_option maxRecDepth 100000 in
theorem okL_law_p3 : dtab cL_law tL_law_p3 = true := by decide +kernel
def tL_law_p4 : List (Nat × Instr × Nat) := [(724, .iconst 1, 1), (725, .iadd, 1), (726, .iaload, 1), (727, .aload_n 0, 1), (728, .iload_n 3, 1), (729, .iconst 2, 1), (730, .iadd, 1), (731, .iaload, 1), (732, .aload_n 0, 1), (733, .iload_n 3, 1), (734, .iconst 3, 1), (735, .iadd, 1), (736, .iaload, 1), (737, .invokevirtual 79, 3), (740, .aload_n 2, 1), (741, .aload_n 0, 1), (742, .iload_n 3, 1), (743, .iconst 1, 1), (744, .iadd, 1), (745, .iaload, 1), (746, .aload_n 0, 1), (747, .iload_n 3, 1), (748, .iconst 2, 1), (749, .iadd, 1), (750, .iaload, 1), (751, .aload_n 0, 1), (752, .iload_n 3, 1), (753, .iconst 3, 1), (754, .iadd, 1), (755, .iaload, 1), (756, .invokevirtual 82, 3), (759, .if_icmp .eq 450, 3), (762, .iconst 0, 1), (763, .ireturn, 1), (764, .aload_n 1, 1), (765, .aload_n 0, 1), (766, .iload_n 3, 1), (767, .iconst 1, 1), (768, .iadd, 1), (769, .iaload, 1), (770, .aload_n 0, 1), (771, .iload_n 3, 1), (772, .iconst 2, 1), (773, .iadd, 1), (774, .iaload, 1), (775, .invokevirtual 83, 3), (778, .aload_n 2, 1), (779, .aload_n 0, 1), (780, .iload_n 3, 1), (781, .iconst 1, 1), (782, .iadd, 1), (783, .iaload, 1), (784, .aload_n 0, 1), (785, .iload_n 3, 1), (786, .iconst 2, 1), (787, .iadd, 1), (788, .iaload, 1), (789, .invokevirtual 86, 3), (792, .if_icmp .eq 417, 3), (795, .iconst 0, 1), (796, .ireturn, 1), (797, .aload_n 1, 1), (798, .aload_n 0, 1), (799, .iload_n 3, 1), (800, .iconst 1, 1), (801, .iadd, 1), (802, .iaload, 1), (803, .invokevirtual 87, 3), (806, .aload_n 2, 1), (807, .aload_n 0, 1), (808, .iload_n 3, 1), (809, .iconst 1, 1), (810, .iadd, 1), (811, .iaload, 1), (812, .invokevirtual 90, 3), (815, .if_icmp .eq 394, 3), (818, .iconst 0, 1), (819, .ireturn, 1), (820, .aload_n 1, 1), (821, .aload_n 0, 1), (822, .iload_n 3, 1), (823, .iconst 1, 1), (824, .iadd, 1), (825, .iaload, 1), (826, .aload_n 0, 1), (827, .iload_n 3, 1), (828, .iconst 2, 1), (829, .iadd, 1), (830, .iaload, 1), (831, .aload_n 0, 1), (832, .iload_n 3, 1), (833, .iconst 3, 1), (834, .iadd, 1), (835, .iaload, 1), (836, .invokevirtual 91, 3), (839, .aload_n 2, 1), (840, .aload_n 0, 1), (841, .iload_n 3, 1), (842, .iconst 1, 1), (843, .iadd, 1), (844, .iaload, 1), (845, .aload_n 0, 1), (846, .iload_n 3, 1), (847, .iconst 2, 1), (848, .iadd, 1), (849, .iaload, 1), (850, .aload_n 0, 1), (851, .iload_n 3, 1), (852, .iconst 3, 1), (853, .iadd, 1), (854, .iaload, 1), (855, .invokevirtual 94, 3), (858, .if_icmp .eq 351, 3), (861, .iconst 0, 1), (862, .ireturn, 1), (863, .aload_n 1, 1), (864, .aload_n 0, 1), (865, .iload_n 3, 1), (866, .iconst 1, 1), (867, .iadd, 1)]
set_option maxRecDepth 100000 in
theorem okL_law_p4 : dtab cL_law tL_law_p4 = true := by decide +kernel
def tL_law_p5 : List (Nat × Instr × Nat) := [(868, .iaload, 1), (869, .invokevirtual 95, 3), (872, .aload_n 2, 1), (873, .aload_n 0, 1), (874, .iload_n 3, 1), (875, .iconst 1, 1), (876, .iadd, 1), (877, .iaload, 1), (878, .invokevirtual 98, 3), (881, .if_icmp .eq 328, 3), (884, .iconst 0, 1), (885, .ireturn, 1), (886, .aload_n 1, 1), (887, .aload_n 0, 1), (888, .iload_n 3, 1), (889, .iconst 1, 1), (890, .iadd, 1), (891, .iaload, 1), (892, .invokevirtual 99, 3), (895, .aload_n 2, 1), (896, .aload_n 0, 1), (897, .iload_n 3, 1), (898, .iconst 1, 1), (899, .iadd, 1), (900, .iaload, 1), (901, .invokevirtual 102, 3), (904, .if_icmp .eq 305, 3), (907, .iconst 0, 1), (908, .ireturn, 1), (909, .aload_n 1, 1), (910, .aload_n 0, 1), (911, .iload_n 3, 1), (912, .iconst 1, 1), (913, .iadd, 1), (914, .iaload, 1), (915, .invokevirtual 103, 3), (918, .aload_n 2, 1), (919, .aload_n 0, 1), (920, .iload_n 3, 1), (921, .iconst 1, 1), (922, .iadd, 1), (923, .iaload, 1), (924, .invokevirtual 106, 3), (927, .if_icmp .eq 282, 3), (930, .iconst 0, 1), (931, .ireturn, 1), (932, .aload_n 1, 1), (933, .aload_n 0, 1), (934, .iload_n 3, 1), (935, .iconst 1, 1), (936, .iadd, 1), (937, .iaload, 1), (938, .aload_n 0, 1), (939, .iload_n 3, 1), (940, .iconst 2, 1), (941, .iadd, 1), (942, .iaload, 1), (943, .aload_n 0, 1), (944, .iload_n 3, 1), (945, .iconst 3, 1), (946, .iadd, 1), (947, .iaload, 1), (948, .invokevirtual 107, 3), (951, .aload_n 2, 1), (952, .aload_n 0, 1), (953, .iload_n 3, 1), (954, .iconst 1, 1), (955, .iadd, 1), (956, .iaload, 1), (957, .aload_n 0, 1), (958, .iload_n 3, 1), (959, .iconst 2, 1), (960, .iadd, 1), (961, .iaload, 1), (962, .aload_n 0, 1), (963, .iload_n 3, 1), (964, .iconst 3, 1), (965, .iadd, 1), (966, .iaload, 1), (967, .invokevirtual 110, 3), (970, .if_icmp .eq 239, 3), (973, .iconst 0, 1), (974, .ireturn, 1), (975, .aload_n 1, 1), (976, .aload_n 0, 1), (977, .iload_n 3, 1), (978, .iconst 1, 1), (979, .iadd, 1), (980, .iaload, 1), (981, .aload_n 0, 1), (982, .iload_n 3, 1), (983, .iconst 2, 1), (984, .iadd, 1), (985, .iaload, 1), (986, .invokevirtual 111, 3), (989, .aload_n 2, 1), (990, .aload_n 0, 1), (991, .iload_n 3, 1), (992, .iconst 1, 1), (993, .iadd, 1), (994, .iaload, 1), (995, .aload_n 0, 1), (996, .iload_n 3, 1), (997, .iconst 2, 1), (998, .iadd, 1), (999, .iaload, 1), (1000, .invokevirtual 114, 3), (1003, .if_icmp .eq 206, 3), (1006, .iconst 0, 1), (1007, .ireturn, 1), (1008, .aload_n 1, 1), (1009, .aload_n 0, 1), (1010, .iload_n 3, 1), (1011, .iconst 1, 1), (1012, .iadd, 1), (1013, .iaload, 1), (1014, .aload_n 0, 1), (1015, .iload_n 3, 1), (1016, .iconst 2, 1), (1017, .iadd, 1)]
set_option maxRecDepth 100000 in
theorem okL_law_p5 : dtab cL_law tL_law_p5 = true := by decide +kernel
def tL_law_p6 : List (Nat × Instr × Nat) := [(1018, .iaload, 1), (1019, .invokevirtual 115, 3), (1022, .aload_n 2, 1), (1023, .aload_n 0, 1), (1024, .iload_n 3, 1), (1025, .iconst 1, 1), (1026, .iadd, 1), (1027, .iaload, 1), (1028, .aload_n 0, 1), (1029, .iload_n 3, 1), (1030, .iconst 2, 1), (1031, .iadd, 1), (1032, .iaload, 1), (1033, .invokevirtual 118, 3), (1036, .if_icmp .eq 173, 3), (1039, .iconst 0, 1), (1040, .ireturn, 1), (1041, .aload_n 1, 1), (1042, .aload_n 0, 1), (1043, .iload_n 3, 1), (1044, .iconst 1, 1), (1045, .iadd, 1), (1046, .iaload, 1), (1047, .aload_n 0, 1), (1048, .iload_n 3, 1), (1049, .iconst 2, 1), (1050, .iadd, 1), (1051, .iaload, 1), (1052, .invokevirtual 119, 3), (1055, .aload_n 2, 1), (1056, .aload_n 0, 1), (1057, .iload_n 3, 1), (1058, .iconst 1, 1), (1059, .iadd, 1), (1060, .iaload, 1), (1061, .aload_n 0, 1), (1062, .iload_n 3, 1), (1063, .iconst 2, 1), (1064, .iadd, 1), (1065, .iaload, 1), (1066, .invokevirtual 122, 3), (1069, .if_icmp .eq 140, 3), (1072, .iconst 0, 1), (1073, .ireturn, 1), (1074, .aload_n 1, 1), (1075, .invokevirtual 123, 3), (1078, .aload_n 2, 1), (1079, .invokevirtual 126, 3), (1082, .if_icmp .eq 127, 3), (1085, .iconst 0, 1), (1086, .ireturn, 1), (1087, .aload_n 1, 1), (1088, .invokevirtual 127, 3), (1091, .aload_n 2, 1), (1092, .invokevirtual 130, 3), (1095, .if_icmp .eq 114, 3), (1098, .iconst 0, 1), (1099, .ireturn, 1), (1100, .aload_n 1, 1), (1101, .aload_n 0, 1), (1102, .iload_n 3, 1), (1103, .iconst 1, 1), (1104, .iadd, 1), (1105, .iaload, 1), (1106, .invokevirtual 131, 3), (1109, .aload_n 2, 1), (1110, .aload_n 0, 1), (1111, .iload_n 3, 1), (1112, .iconst 1, 1), (1113, .iadd, 1), (1114, .iaload, 1), (1115, .invokevirtual 134, 3), (1118, .if_icmp .eq 91, 3), (1121, .iconst 0, 1), (1122, .ireturn, 1), (1123, .aload_n 1, 1), (1124, .aload_n 0, 1), (1125, .iload_n 3, 1), (1126, .iconst 1, 1), (1127, .iadd, 1), (1128, .iaload, 1), (1129, .aload_n 0, 1), (1130, .iload_n 3, 1), (1131, .iconst 2, 1), (1132, .iadd, 1), (1133, .iaload, 1), (1134, .ifCond .eq 7, 3), (1137, .iconst 1, 1), (1138, .goto 4, 3), (1141, .iconst 0, 1), (1142, .invokevirtual 135, 3), (1145, .aload_n 2, 1), (1146, .aload_n 0, 1), (1147, .iload_n 3, 1), (1148, .iconst 1, 1), (1149, .iadd, 1), (1150, .iaload, 1), (1151, .aload_n 0, 1), (1152, .iload_n 3, 1), (1153, .iconst 2, 1), (1154, .iadd, 1), (1155, .iaload, 1), (1156, .ifCond .eq 7, 3), (1159, .iconst 1, 1), (1160, .goto 4, 3), (1163, .iconst 0, 1), (1164, .invokevirtual 139, 3), (1167, .if_icmp .eq 42, 3), (1170, .iconst 0, 1), (1171, .ireturn, 1), (1172, .aload_n 1, 1), (1173, .aload_n 0, 1), (1174, .iload_n 3, 1), (1175, .iconst 1, 1), (1176, .iadd, 1), (1177, .iaload, 1), (1178, .invokevirtual 140, 3), (1181, .aload_n 2, 1), (1182, .aload_n 0, 1), (1183, .iload_n 3, 1)]
set_option maxRecDepth 100000 in
theorem okL_law_p6 : dtab cL_law tL_law_p6 = true := by decide +kernel
def tL_law_p7 : List (Nat × Instr × Nat) := [(1184, .iconst 1, 1), (1185, .iadd, 1), (1186, .iaload, 1), (1187, .invokevirtual 143, 3), (1190, .if_icmp .eq 19, 3), (1193, .iconst 0, 1), (1194, .ireturn, 1), (1195, .aload_n 1, 1), (1196, .invokevirtual 144, 3), (1199, .aload_n 2, 1), (1200, .invokevirtual 148, 3), (1203, .lcmp, 1), (1204, .ifCond .eq 5, 3), (1207, .iconst 0, 1), (1208, .ireturn, 1), (1209, .iinc 3 6, 3), (1212, .goto (-1194), 3), (1215, .iconst 1, 1), (1216, .ireturn, 1)]
set_option maxRecDepth 100000 in
theorem okL_law_p7 : dtab cL_law tL_law_p7 = true := by decide +kernel
end
section

/-! the static pool: ids instead of addresses; a state is int fields by id and place, rows by id and index -/
abbrev PS : Type := (Nat → Nat → Int32) × (Nat → Nat → Int32)
/-- number of cells, kind of an id (a class below 20; 20 and n: a row of n booleans; 100 and n: a row of n ints), target of a reference field -/
abbrev GG : Type := Nat × (Nat → Nat) × (Nat → Nat → Nat)
abbrev AV : Type := (Int32 ⊕ Int64) ⊕ Option (Nat × Nat)
abbrev vi (x : Int32) : AV := .inl (.inl x)
abbrev vl (x : Int64) : AV := .inl (.inr x)
abbrev vr (k j : Nat) : AV := .inr (some (k, j))
abbrev vn : AV := .inr none
def cv (ad : Nat → Nat) (v : AV) : Value := match v with
  | .inl (.inl x) => .int x
  | .inl (.inr x) => .long x
  | .inr none => .null
  | .inr (some q) => .ref (ad q.2)
def cq (ad : Nat → Nat) (q : Nat × AV) : Nat × Value := (q.1, cv ad q.2)
def rk (k i : Nat) : Option Nat := match k, i with
  | 0, 0 => some 140
  | 0, 1 => some 2601
  | 1, 0 => some 130
  | 1, 1 => some 109
  | 2, 0 => some 105
  | 2, 1 => some 105
  | 2, 2 => some 105
  | 3, 0 => some 140
  | 3, 1 => some 140
  | 3, 2 => some 140
  | 3, 3 => some 140
  | 3, 4 => some 140
  | 3, 5 => some 140
  | 4, 0 => some 2
  | 4, 1 => some 2
  | 4, 2 => some 292
  | 5, 0 => some 250
  | 6, 0 => some 5
  | 6, 1 => some 5
  | 6, 2 => some 5
  | 6, 3 => some 5
  | 6, 4 => some 3
  | 6, 5 => some 250
  | 6, 6 => some 160
  | 6, 7 => some 160
  | 6, 8 => some 140
  | 9, 0 => some 6
  | 9, 1 => some 6
  | 9, 2 => some 0
  | 9, 3 => some 4
  | 9, 4 => some 7
  | 9, 5 => some 1
  | 9, 6 => some 8
  | 10, 0 => some 28
  | 10, 1 => some 108
  | 10, 2 => some 108
  | 10, 3 => some 1300
  | 10, 4 => some 250
  | 10, 8 => some 250
  | 10, 10 => some 160
  | 10, 11 => some 160
  | 10, 13 => some 140
  | 10, 16 => some 2601
  | 10, 17 => some 140
  | 10, 18 => some 102
  | 10, 19 => some 180
  | 10, 20 => some 180
  | 10, 21 => some 180
  | 10, 22 => some 180
  | 10, 25 => some 140
  | 10, 28 => some 102
  | 10, 29 => some 110
  | 10, 30 => some 110
  | 10, 31 => some 105
  | 10, 32 => some 105
  | 10, 37 => some 130
  | 10, 38 => some 130
  | 10, 41 => some 24
  | _, _ => none
def nfk (k : Nat) : Nat := match k with
  | 0 => 5
  | 1 => 6
  | 2 => 4
  | 3 => 8
  | 4 => 4
  | 5 => 3
  | 6 => 12
  | 7 => 3
  | 8 => 2
  | 9 => 10
  | 10 => 43
  | _ => 0
def pval (G : GG) (ad : Nat → Nat) (S : PS) (j i : Nat) : Value := match rk (G.2.1 j) i with
  | some _ => .ref (ad (G.2.2 j i))
  | none => .int (S.1 j i)
def pcell (cy : ClassId × ClassId) (G : GG) (ad : Nat → Nat) (S : PS) (j : Nat) : va_E :=
  if 100 ≤ G.2.1 j then .inl (cy.1, G.2.1 j - 100, .inl (S.2 j)) else if 20 ≤ G.2.1 j then .inl (cy.2, G.2.1 j - 20, .inl (S.2 j)) else .inr (G.2.1 j, (List.range (nfk (G.2.1 j))).map (pval G ad S j))
def pool (cy : ClassId × ClassId) (G : GG) (ad : Nat → Nat) (S : PS) : va_W := (List.range G.1).map (fun j => (ad j, pcell cy G ad S j))
def up2 (f : Nat → Nat → Int32) (j i : Nat) (v : Int32) : Nat → Nat → Int32 := fun a b => if a = j ∧ b = i then v else f a b
def sti (S : PS) (j i : Nat) (v : Int32) : PS := (up2 S.1 j i v, S.2)
def sta (S : PS) (j i : Nat) (v : Int32) : PS := (S.1, up2 S.2 j i v)
def str (S : PS) (j : Nat) (f : Nat → Int32) : PS := (S.1, fun a => if a = j then f else S.2 a)
def wk (G : GG) (v : AV) : Prop := match v with
  | .inr (some q) => G.2.1 q.2 = q.1 ∧ q.2 < G.1
  | _ => True
/-- the graph keeps to the fields' kinds -/
def GOK (G : GG) : Prop := ∀ j, j < G.1 → ∀ i k, rk (G.2.1 j) i = some k → G.2.1 (G.2.2 j i) = k ∧ G.2.2 j i < G.1
theorem pool_at {cy : ClassId × ClassId} {G : GG} {ad : Nat → Nat} {S : PS} {j : Nat} (hj : j < G.1) : (pool cy G ad S)[j]? = some (ad j, pcell cy G ad S j) := by
  simp [pool, hj]
theorem pool_len {cy : ClassId × ClassId} {G : GG} {ad : Nat → Nat} {S : PS} : (pool cy G ad S).length = G.1 := by simp [pool]
theorem pool_set {cy : ClassId × ClassId} {G : GG} {ad : Nat → Nat} {S S2 : PS} {j : Nat} {e : va_E} (he : e = pcell cy G ad S2 j) (ho : ∀ i, i ≠ j → pcell cy G ad S2 i = pcell cy G ad S i) : (pool cy G ad S).set j (ad j, e) = pool cy G ad S2 := by
  apply List.ext_getElem?
  intro i
  rw [List.getElem?_set]
  by_cases hi : i < G.1
  · rw [pool_at hi, pool_at hi]
    by_cases hij : j = i
    · subst hij
      simp [pool_len, hi, he]
    · rw [if_neg hij, ho i (fun h => hij h.symm)]
  · have h1 : (pool cy G ad S)[i]? = none := List.getElem?_eq_none (by rw [pool_len]; omega)
    have h2 : (pool cy G ad S2)[i]? = none := List.getElem?_eq_none (by rw [pool_len]; omega)
    rw [h1, h2, pool_len]
    by_cases hij : j = i
    · subst hij
      simp [hi]
    · rw [if_neg hij]
theorem up2_ne {f : Nat → Nat → Int32} {j i : Nat} {v : Int32} {a : Nat} (h : a ≠ j) : up2 f j i v a = f a := by funext b; simp [up2, h]
theorem up2_row {f : Nat → Nat → Int32} {j i : Nat} {v : Int32} : up2 f j i v j = upd (f j) i v := by funext b; simp [up2, upd]
theorem pool_sti {cy : ClassId × ClassId} {G : GG} {ad : Nat → Nat} {S : PS} {j k i : Nat} {v : Int32} (hk : G.2.1 j = k) (h1 : ¬ 100 ≤ k) (h2 : ¬ 20 ≤ k) (hr : rk k i = none) : (pool cy G ad S).set j (ad j, .inr (k, ((List.range (nfk k)).map (pval G ad S j)).set i (.int v))) = pool cy G ad (sti S j i v) := by
  subst hk
  apply pool_set
  · simp only [pcell, if_neg h1, if_neg h2]
    congr 2
    apply List.ext_getElem?
    intro a
    rw [List.getElem?_set]
    by_cases ha : a < nfk (G.2.1 j)
    · by_cases hia : i = a
      · subst hia
        simp [ha, pval, hr, sti, up2]
      · have : ¬ a = i := fun h => hia h.symm
        simp [ha, hia, pval, sti, up2, this]
    · simp [ha]
      omega
  · intro a ha
    have hp : pval G ad (sti S j i v) a = pval G ad S a := by
      funext b
      simp only [pval, sti, up2_ne ha]
    simp only [pcell, hp]
    rfl
theorem pool_str {cy : ClassId × ClassId} {G : GG} {ad : Nat → Nat} {S : PS} {j n : Nat} {f : Nat → Int32} (hk : G.2.1 j = 100 + n) : (pool cy G ad S).set j (ad j, .inl (cy.1, n, .inl f)) = pool cy G ad (str S j f) := by
  apply pool_set
  · simp [pcell, hk, str]
  · intro a ha
    simp only [pcell, str, if_neg ha]
    rfl
theorem pool_strz {cy : ClassId × ClassId} {G : GG} {ad : Nat → Nat} {S : PS} {j n : Nat} {f : Nat → Int32} (hk : G.2.1 j = 20 + n) (hn : n < 80) : (pool cy G ad S).set j (ad j, .inl (cy.2, n, .inl f)) = pool cy G ad (str S j f) := by
  have h1 : ¬ 100 ≤ 20 + n := by omega
  apply pool_set
  · simp only [pcell, hk, str, if_neg h1]
    simp
  · intro a ha
    simp only [pcell, str, if_neg ha]
    rfl
theorem str_upd {S : PS} {j i : Nat} {v : Int32} : str S j (upd (S.2 j) i v) = sta S j i v := by
  refine Prod.ext rfl ?_
  funext a b
  by_cases h : a = j
  · subst h; simp [str, sta, up2, upd]
  · simp [str, sta, up2, h]
theorem pool_D {cy : ClassId × ClassId} {G : GG} {ad : Nat → Nat} {S S2 : PS} {A : Nat → Prop} (h : va_D A (pool cy G ad S)) : va_D A (pool cy G ad S2) := by
  have key : ∀ (i : Nat) (p : Nat × va_E), (pool cy G ad S2)[i]? = some p → ∃ q, (pool cy G ad S)[i]? = some q ∧ q.1 = p.1 := by
    intro i p hp
    have hi : i < G.1 := by
      rcases Nat.lt_or_ge i G.1 with h | h
      · exact h
      · rw [List.getElem?_eq_none (by rw [pool_len]; exact h)] at hp; cases hp
    rw [pool_at hi] at hp
    cases hp
    exact ⟨_, pool_at hi, rfl⟩
  refine ⟨fun i j p q hp hq hpq => ?_, fun k q hq => ?_⟩
  · obtain ⟨p', hp', e1⟩ := key i p hp
    obtain ⟨q', hq', e2⟩ := key j q hq
    exact h.1 i j p' q' hp' hq' (by rw [e1, e2, hpq])
  · obtain ⟨q', hq', e1⟩ := key k q hq
    rw [← e1]
    exact h.2 k q' hq'
theorem pool_A {cy : ClassId × ClassId} {G : GG} {ad : Nat → Nat} {S S2 : PS} {sz : Nat} {q : Nat} (h : va_A (pool cy G ad S) sz q) : va_A (pool cy G ad S2) sz q := by
  rcases h with ⟨k, e, hk⟩ | h
  · have hi : k < G.1 := by
      rcases Nat.lt_or_ge k G.1 with h | h
      · exact h
      · rw [List.getElem?_eq_none (by rw [pool_len]; exact h)] at hk; cases hk
    rw [pool_at hi] at hk
    cases hk
    exact Or.inl ⟨k, _, pool_at hi⟩
  · exact Or.inr h
/-- links into a nest mate, that are no words -/
def NF (U : State) : Prop := va_Nw (.methodLinkNest RX5 36 yX9_isWithin RX9) U ∧ va_Nw (.methodLinkNest RX3 44 yX9_hoursApart RX9) U ∧ va_Nw (.methodLinkNest RX4 64 yX9_hoursApart RX9) U
theorem NF.warm {s U : State} (hW : s.WarmedH U.vm) (h : NF s) : NF U := ⟨va_Nw.warmM hW h.1, va_Nw.warmM hW h.2.1, va_Nw.warmM hW h.2.2⟩
theorem NF.same {s U : State} (hW : s.vm = U.vm) (h : NF s) : NF U := ⟨va_Nw.same rfl hW h.1, va_Nw.same rfl hW h.2.1, va_Nw.same rfl hW h.2.2⟩
abbrev ptys (cy : ClassId × ClassId) : List (ClassId × FieldType) := [(cy.1, .int), (cy.2, .boolean)]
/-- what holds all through a walk -/
def MX (cy : ClassId × ClassId) (G : GG) (ad : Nat → Nat) (D : va_G) (p : Program) (s : State) (m : MethodId) (args : Array Value) (meth : Method) (c : Code) (cc : ByteArray) (nL : Nat) (own : String) (ret : Option FieldType) (A : Nat → Prop) : Prop :=
  p.tables.exec = Jvm.exec ∧ c.code = cc ∧ c.maxLocals = nL ∧ s.vm.findClass own = some m.cls ∧ (∀ w ∈ LG, w.before args s = true) ∧ va_K D vwCl (ptys cy) s ∧ (∀ S, va_D A (pool cy G ad S)) ∧ (∀ q : Nat, s.heap.size ≤ q → A q) ∧ meth.sig.returnType = ret ∧ meth.locks = false ∧ NF s ∧ GOK G
def mV (y : MethodName) (C : String) (bytes : ByteArray) (maxL : Nat) (ret : Option FieldType) (na : Nat) : Prop := Cond.instanceMethod y ∈ LG ∧ Cond.selects C y y ∈ LG ∧ Cond.initialized C ∈ LG ∧ Cond.code y bytes maxL ret ∈ LG ∧ (y.cls = C ∧ y.cls ≠ "java/lang/invoke/MethodHandle" ∧ y.cls ≠ "java/lang/invoke/VarHandle" ∧ (parseMethodDescriptor y.desc).map (fun d => d.parameters.length) = some na)
def mS (y : MethodName) (bytes : ByteArray) (maxL : Nat) (ret : Option FieldType) (na : Nat) : Prop := Cond.static y ∈ LG ∧ Cond.initialized y.cls ∈ LG ∧ Cond.code y bytes maxL ret ∈ LG ∧ (y.cls ≠ "java/lang/invoke/MethodHandle" ∧ y.cls ≠ "java/lang/invoke/VarHandle" ∧ (parseMethodDescriptor y.desc).map (fun d => d.parameters.length) = some na)
theorem LG_app {a b : List Cond} (ha : ∀ w ∈ a, w ∈ LG) (hb : ∀ w ∈ b, w ∈ LG) : ∀ w ∈ a ++ b, w ∈ LG := fun w h => (List.mem_append.mp h).elim (ha w) (hb w)
theorem LG_wA {y : MethodName} {cc : ByteArray} {maxL : Nat} {ret : Option FieldType} (h : Cond.code y cc maxL ret ∈ LG) : ∀ w ∈ wA y cc maxL ret, w ∈ LG := fun w hw => (List.mem_cons.mp hw).elim (fun e => e ▸ h) id
theorem cwV' {R : Room} {s : State} {args : Array Value} {own C : String} {idx maxL na : Nat} {y : MethodName} {bytes : ByteArray} {ret : Option FieldType} {rm : Room} (ht : ∀ w ∈ LG, w.before args s = true) (hl : Cond.methodLink own idx y ∈ LG) (hm : mV y C bytes maxL ret na) (hr : rm.cells = 0 ∧ rm.slots = 0 ∧ rm.frames + 1 ≤ R.frames ∧ 8 + (maxL + 11) + rm.locals ≤ R.locals) : CallW R s args own C idx y bytes maxL ret (wA y bytes maxL ret) rm 0 0 na :=
  cwV na ht (LG_good (LG_app (by
    intro w hw
    simp only [List.mem_cons, List.not_mem_nil, or_false] at hw
    rcases hw with rfl | rfl | rfl | rfl
    · exact hl
    · exact hm.1
    · exact hm.2.1
    · exact hm.2.2.1) (LG_wA hm.2.2.2.1))) rfl hr.1 hr.2.1 hm.2.2.2.2 hr.2.2
theorem cwS' {R : Room} {s : State} {args : Array Value} {own : String} {idx maxL na : Nat} {y : MethodName} {bytes : ByteArray} {ret : Option FieldType} {rm : Room} (ht : ∀ w ∈ LG, w.before args s = true) (hl : Cond.methodLink own idx y ∈ LG) (hm : mS y bytes maxL ret na) (hr : rm.cells = 0 ∧ rm.slots = 0 ∧ rm.frames + 1 ≤ R.frames ∧ 8 + (maxL + 11) + rm.locals ≤ R.locals) : CallB R s args own idx y bytes maxL ret (wA y bytes maxL ret) rm 0 0 na ∧ (Cond.static y).before args s = true :=
  va_cwS na ht (LG_good (LG_app (by
    intro w hw
    simp only [List.mem_cons, List.not_mem_nil, or_false] at hw
    rcases hw with rfl | rfl | rfl
    · exact hl
    · exact hm.1
    · exact hm.2.1) (LG_wA hm.2.2.1))) rfl hr.1 hr.2.1 hm.2.2.2 hr.2.2
theorem cwN' {R : Room} {s : State} {args : Array Value} {own host : String} {idx maxL na : Nat} {y : MethodName} {bytes : ByteArray} {ret : Option FieldType} {rm : Room} (ht : ∀ w ∈ LG, w.before args s = true) (hl : va_Nw (.methodLinkNest own idx y host) s) (hm : mS y bytes maxL ret na) (hr : rm.cells = 0 ∧ rm.slots = 0 ∧ rm.frames + 1 ≤ R.frames ∧ 8 + (maxL + 11) + rm.locals ≤ R.locals) : va_CN R s args own idx y host bytes maxL ret (wA y bytes maxL ret) rm 0 0 na ∧ (Cond.static y).before args s = true ∧ True :=
  ⟨va_cnB na ht (LG_good (LG_wA hm.2.2.1)) rfl hr.1 hr.2.1 hl (ht _ hm.2.1) hm.2.2.2 hr.2.2, ht _ hm.1, trivial⟩
def pq (cy : ClassId × ClassId) (G : GG) (ad : Nat → Nat) (D : va_G) (post : Option AV → PS → Prop) (A : Nat → Prop) : Array Value → State → Outcome → State → Prop := fun _ st oc t => (∃ v S, oc = .returned (v.map (cv ad)) ∧ post v S ∧ (∀ x, v = some x → wk G x) ∧ va_P D vwCl (pool cy G ad S) t.heap) ∧ va_F A st t
def RQ (cy : ClassId × ClassId) (G : GG) (ad : Nat → Nat) (D : va_G) (s : State) (args : Array Value) (below : List Frame) (A : Nat → Prop) (post : Option AV → PS → Prop) : State → Prop := MQ below (pq cy G ad D post A) args s 0 0 A
def WW (cy : ClassId × ClassId) (G : GG) (ad : Nat → Nat) (D : va_G) (p : Program) (l : Launch) (e : Env) (R : Room) (s : State) (m : MethodId) (args : Array Value) (below : List Frame) (meth : Method) (c : Code) (nL : Nat) (A : Nat → Prop) (post : Option AV → PS → Prop) (pc : Nat) (lv : List (Nat × AV)) (st : List AV) (S : PS) : Prop :=
  (∀ q ∈ lv, wk G q.2) → (∀ v ∈ st, wk G v) → ∀ (H : Heap) (locs : List Loc) (ls : Array Slot), va_P D vwCl (pool cy G ad S) H → va_S A s.heap H locs → lv_has ls nL (lv.map (cq ad)) → W p l e R s m args below meth c H locs 0 0 (RQ cy G ad D s args below A post) (F0 m pc ls (st.map (cv ad)))
def PM (cy : ClassId × ClassId) (G : GG) (ad : Nat → Nat) (D : va_G) (l : Launch) (y : MethodName) (ws : List Cond) (rm : Room) (As : List AV) (S : PS) (post : Option AV → PS → Prop) : Prop :=
  (∀ v ∈ As, wk G v) → ∀ sz : Nat, Met l y ws rm (va_Pc (As.map (cv ad)) (fun U => U.heap.size = sz ∧ va_P D vwCl (pool cy G ad S) U.heap ∧ va_K D vwCl (ptys cy) U ∧ va_D (fun _ => True) (pool cy G ad S) ∧ NF U)) (pq cy G ad D post (va_A (pool cy G ad S) sz)) 0 0 (va_A (pool cy G ad S) sz)
def poi (q : Int32 → PS → Prop) : Option AV → PS → Prop := fun v S => ∃ x, v = some (vi x) ∧ q x S
def pol (q : Int64 → PS → Prop) : Option AV → PS → Prop := fun v S => ∃ x, v = some (vl x) ∧ q x S
def pov (q : PS → Prop) : Option AV → PS → Prop := fun v S => v = none ∧ q S
def por (q : Option (Nat × Nat) → PS → Prop) : Option AV → PS → Prop := fun v S => ∃ x, v = some (.inr x) ∧ q x S
abbrev PMi (cy : ClassId × ClassId) (G : GG) (ad : Nat → Nat) (D : va_G) (l : Launch) (y : MethodName) (ws : List Cond) (rm : Room) (As : List AV) (S : PS) (post : Int32 → PS → Prop) : Prop := PM cy G ad D l y ws rm As S (poi post)
abbrev PMl (cy : ClassId × ClassId) (G : GG) (ad : Nat → Nat) (D : va_G) (l : Launch) (y : MethodName) (ws : List Cond) (rm : Room) (As : List AV) (S : PS) (post : Int64 → PS → Prop) : Prop := PM cy G ad D l y ws rm As S (pol post)
abbrev PMv (cy : ClassId × ClassId) (G : GG) (ad : Nat → Nat) (D : va_G) (l : Launch) (y : MethodName) (ws : List Cond) (rm : Room) (As : List AV) (S : PS) (post : PS → Prop) : Prop := PM cy G ad D l y ws rm As S (pov post)
abbrev PMr (cy : ClassId × ClassId) (G : GG) (ad : Nat → Nat) (D : va_G) (l : Launch) (y : MethodName) (ws : List Cond) (rm : Room) (As : List AV) (S : PS) (post : Option (Nat × Nat) → PS → Prop) : Prop := PM cy G ad D l y ws rm As S (por post)
theorem PM.of {cy : ClassId × ClassId} {G : GG} {ad : Nat → Nat} {D : va_G} {l : Launch} {y : MethodName} {rm : Room} {As : List AV} {S : PS} {post : Option AV → PS → Prop} {cc : ByteArray} {maxL : Nat} {ret : Option FieldType} {lv : List (Nat × AV)} (hG : GOK G)
    (hy : plainName y.cls = true) (hlen : (lg_sl (As.map (cv ad))).length ≤ maxL) (hlv : lv_args 0 (As.map (cv ad)) = lv.map (cq ad)) (hlw : ∀ q ∈ lv, q.2 ∈ As)
    (body : ∀ p e s m args below meth c A, MX cy G ad D p s m args meth c cc maxL y.cls ret A → WW cy G ad D p l e rm s m args below meth c maxL A post 0 lv [] S) : PM cy G ad D l y (wA y cc maxL ret) rm As S post := by
  intro hwk sz
  refine Met.ofW (cc := cc) (maxL := maxL) (ret := ret) hy rfl ?_
  intro p e s m args below meth c s₁ B hml hv
  obtain ⟨rfl, hsz, hP, hK, hD0, hN⟩ := hv
  have hts0 := atoms_spec (ws := wA y cc maxL ret) B.pre
  have hts : ∀ w ∈ LG, w.before ((As.map (cv ad)).toArray) s = true := fun w h => hts0 w (List.mem_cons_of_mem _ h)
  have hown : s.vm.findClass y.cls = some m.cls := findClass_of_methodNamed B.named
  subst hsz
  have hl := lv_entry (As.map (cv ad)) (n := maxL) hlen
  rw [lg_entry_eq]
  generalize (lg_sl (As.map (cv ad)) ++ List.replicate (maxL - (lg_sl (As.map (cv ad))).length) Slot.unset).toArray = ls at hl ⊢
  rw [hlv] at hl
  have hD := hD0.self (sz := s.heap.size)
  exact body p e s m _ below meth c (va_A (pool cy G ad S) s.heap.size) ⟨B.exec, B.bytes, hml, hown, hts, hK, fun S2 => pool_D hD, fun q h => Or.inr h, B.returns, B.notSynchronized, hN, hG⟩ (fun q hq => hwk _ (hlw q hq)) (fun v hv => by cases hv) s.heap [] ls hP va_S.rf hl
section BW
variable {cy : ClassId × ClassId} {G : GG} {ad : Nat → Nat} {D : va_G} {p : Program} {l : Launch} {e : Env} {R : Room} {s : State} {m : MethodId} {args : Array Value} {below : List Frame} {meth : Method} {c : Code} {cc : ByteArray} {nL : Nat} {own : String} {ret : Option FieldType} {A : Nat → Prop} {post : Option AV → PS → Prop} {pc : Nat} {lv : List (Nat × AV)} {st : List AV} {S : PS}
def acat (v : AV) : Nat := match v with
  | .inl (.inr _) => 2
  | _ => 1
theorem acat_eq (st : List AV) : ((st.map (cv ad)).map fun v => v.category) = st.map acat := by
  rw [List.map_map]
  apply List.map_congr_left
  intro v _
  rcases v with (x | x) | (_ | q) <;> rfl
theorem lvat {ls : Array Slot} {q i : Nat} {v : AV} (h : lv_has ls nL (lv.map (cq ad))) (hl : lv[q]? = some (i, v)) : ls[i]? = some (.val (cv ad v)) := lv_at h q (v := cv ad v) (i := i) (by rw [List.getElem?_map, hl]; rfl)
theorem lvwk {q i : Nat} {v : AV} (h : ∀ q ∈ lv, wk G q.2) (hl : lv[q]? = some (i, v)) : wk G v := h (i, v) (List.mem_of_getElem? hl)
theorem wkc {v : AV} {st : List AV} (h1 : wk G v) (h2 : ∀ v ∈ st, wk G v) : ∀ w ∈ v :: st, wk G w := fun w hw => (List.mem_cons.mp hw).elim (fun e => e ▸ h1) (h2 w)
theorem wkt {v : AV} {st : List AV} (h : ∀ w ∈ v :: st, wk G w) : ∀ w ∈ st, wk G w := fun w hw => h w (List.mem_cons_of_mem _ hw)
theorem wkh {v : AV} {st : List AV} (h : ∀ w ∈ v :: st, wk G w) : wk G v := h v List.mem_cons_self
theorem la_n {H : Heap} {locs : List Loc} {ls : Array Slot} {rest : List Value} {Q : State → Prop} (hexec : p.tables.exec = Jvm.exec) (hb : c.code = cc) {k : Fin 4} {i : Nat} {x : Option (Nat × Nat)} (hdg : decode cc pc = .ok (.aload_n k, 1)) (hi : (k : Nat) = i) (hl : ls[i]? = some (.val (cv ad (.inr x))))
    (k : W p l e R s m args below meth c H locs 0 0 Q (F0 m (pc + 1) ls (cv ad (.inr x) :: rest))) : W p l e R s m args below meth c H locs 0 0 Q (F0 m pc ls (rest)) := by
  rcases x with _ | q
  · subst hi
    intro T hT X
    obtain ⟨t, a, b⟩ := k T hT X
    refine ⟨t, ?_, b⟩
    dsimp only [cv] at hl a
    jvm_step X.here [X.here.top, hexec, hb, hdg, hl, Value.isRef]
    exact a
  · exact lv_aload_n hexec hb hdg hi hl k
theorem la_g {H : Heap} {locs : List Loc} {ls : Array Slot} {rest : List Value} {Q : State → Prop} (hexec : p.tables.exec = Jvm.exec) (hb : c.code = cc) {i : Nat} {x : Option (Nat × Nat)} (hdg : decode cc pc = .ok (.aload i, 2)) (hl : ls[i]? = some (.val (cv ad (.inr x))))
    (k : W p l e R s m args below meth c H locs 0 0 Q (F0 m (pc + 2) ls (cv ad (.inr x) :: rest))) : W p l e R s m args below meth c H locs 0 0 Q (F0 m pc ls (rest)) := by
  rcases x with _ | q
  · intro T hT X
    obtain ⟨t, a, b⟩ := k T hT X
    refine ⟨t, ?_, b⟩
    dsimp only [cv] at hl a
    jvm_step X.here [X.here.top, hexec, hb, hdg, hl, Value.isRef]
    exact a
  · exact lv_aload hexec hb hdg hl k
theorem sa_n {H : Heap} {locs : List Loc} {ls : Array Slot} {rest : List Value} {Q : State → Prop} (hexec : p.tables.exec = Jvm.exec) (hb : c.code = cc) {k : Fin 4} {i nL : Nat} {x : Option (Nat × Nat)} {lv lv' : List (Nat × Value)} (hdg : decode cc pc = .ok (.astore_n k, 1)) (hi : (k : Nat) = i) (h : lv_has ls nL lv) (hn : i < nL) (hl : (i, cv ad (.inr x)) :: lv.filter (fun q => !(q.1 == i) && !(q.1 + 1 == i && q.2.category == 2)) = lv')
    (kk : ∀ ls' : Array Slot, lv_has ls' nL lv' → W p l e R s m args below meth c H locs 0 0 Q (F0 m (pc + 1) ls' rest)) : W p l e R s m args below meth c H locs 0 0 Q (F0 m pc ls (cv ad (.inr x) :: rest)) := by
  rcases x with _ | q
  · subst hi
    obtain ⟨ls', e', h'⟩ := lv_store1 (v := .null) h hn rfl
    intro T hT X
    obtain ⟨t, a, b⟩ := kk ls' (hl ▸ h') T hT X
    refine ⟨t, ?_, b⟩
    dsimp only [cv]
    jvm_step X.here [X.here.top, ↓top_set X.here.top, hexec, hb, hdg, e', Value.isRef]
    exact a
  · exact lv_astore_n hexec hb hdg hi h hn hl kk
theorem sa_g {H : Heap} {locs : List Loc} {ls : Array Slot} {rest : List Value} {Q : State → Prop} (hexec : p.tables.exec = Jvm.exec) (hb : c.code = cc) {i nL : Nat} {x : Option (Nat × Nat)} {lv lv' : List (Nat × Value)} (hdg : decode cc pc = .ok (.astore i, 2)) (h : lv_has ls nL lv) (hn : i < nL) (hl : (i, cv ad (.inr x)) :: lv.filter (fun q => !(q.1 == i) && !(q.1 + 1 == i && q.2.category == 2)) = lv')
    (kk : ∀ ls' : Array Slot, lv_has ls' nL lv' → W p l e R s m args below meth c H locs 0 0 Q (F0 m (pc + 2) ls' rest)) : W p l e R s m args below meth c H locs 0 0 Q (F0 m pc ls (cv ad (.inr x) :: rest)) := by
  rcases x with _ | q
  · obtain ⟨ls', e', h'⟩ := lv_store1 (v := .null) h hn rfl
    intro T hT X
    obtain ⟨t, a, b⟩ := kk ls' (hl ▸ h') T hT X
    refine ⟨t, ?_, b⟩
    dsimp only [cv]
    jvm_step X.here [X.here.top, ↓top_set X.here.top, hexec, hb, hdg, e', Value.isRef]
    exact a
  · exact lv_astore hexec hb hdg h hn hl kk
def isl (v : AV) : Bool := match v with
  | .inl (.inr _) => true
  | _ => false
theorem isl_cat (v : AV) : ((cv ad v).category == 2) = isl v := by
  rcases v with (x | x) | (_ | q) <;> rfl
def ls1 (lv : List (Nat × AV)) (i : Nat) (v : AV) : List (Nat × AV) := (i, v) :: lv.filter (fun q => !(q.1 == i) && !(q.1 + 1 == i && isl q.2))
def ls2 (lv : List (Nat × AV)) (i : Nat) (v : AV) : List (Nat × AV) := (i, v) :: lv.filter (fun q => !(q.1 == i) && (!(q.1 == i + 1) && !(q.1 + 1 == i && isl q.2)))
theorem ls1_eq (i : Nat) (v : AV) : (i, cv ad v) :: (lv.map (cq ad)).filter (fun q => !(q.1 == i) && !(q.1 + 1 == i && q.2.category == 2)) = (ls1 lv i v).map (cq ad) := by
  simp only [ls1, List.map_cons, List.filter_map]
  congr 1
  congr 1
  apply List.filter_congr
  intro q _
  simp only [Function.comp, cq, isl_cat]
theorem ls2_eq (i : Nat) (v : AV) : (i, cv ad v) :: (lv.map (cq ad)).filter (fun q => !(q.1 == i) && (!(q.1 == i + 1) && !(q.1 + 1 == i && q.2.category == 2))) = (ls2 lv i v).map (cq ad) := by
  simp only [ls2, List.map_cons, List.filter_map]
  congr 1
  congr 1
  apply List.filter_congr
  intro q _
  simp only [Function.comp, cq, isl_cat]
theorem ls1_wk {i : Nat} {v : AV} (h : ∀ q ∈ lv, wk G q.2) (hv : wk G v) : ∀ q ∈ ls1 lv i v, wk G q.2 := by
  intro q hq
  rcases List.mem_cons.mp hq with e | e
  · subst e; exact hv
  · exact h q (List.mem_filter.mp e).1
theorem ls2_wk {i : Nat} {v : AV} (h : ∀ q ∈ lv, wk G q.2) (hv : wk G v) : ∀ q ∈ ls2 lv i v, wk G q.2 := by
  intro q hq
  rcases List.mem_cons.mp hq with e | e
  · subst e; exact hv
  · exact h q (List.mem_filter.mp e).1
theorem WW.eq {pc2 : Nat} {lv2 : List (Nat × AV)} {st2 : List AV} {S2 : PS} (k : WW cy G ad D p l e R s m args below meth c nL A post pc2 lv2 st2 S2) (h1 : pc2 = pc := by rfl) (h2 : lv2 = lv := by rfl) (h3 : st2 = st := by rfl) (h4 : S2 = S := by rfl) : WW cy G ad D p l e R s m args below meth c nL A post pc lv st S := by subst h1; subst h2; subst h3; subst h4; exact k
/-- fewer locals, in another order -/
theorem WW.lvs {lv2 : List (Nat × AV)} (ks : List Nat) (hl : ks.filterMap (fun k => lv[k]?) = lv2) (k : WW cy G ad D p l e R s m args below meth c nL A post pc lv2 st S) : WW cy G ad D p l e R s m args below meth c nL A post pc lv st S := by
  intro h1 h2 H locs ls hP hS hl0
  have hsub : ∀ q ∈ lv2, q ∈ lv := by
    intro q hq
    rw [← hl] at hq
    obtain ⟨i, -, hi⟩ := List.mem_filterMap.mp hq
    exact List.mem_of_getElem? hi
  exact k (fun q hq => h1 q (hsub q hq)) h2 H locs ls hP hS ⟨hl0.1, hl0.2.1, fun q hq => by
    obtain ⟨r, hr, e⟩ := List.mem_map.mp hq
    exact hl0.2.2 q (List.mem_map.mpr ⟨r, hsub r hr, e⟩)⟩

theorem w_iln {k : Fin 4} {q n : Nat} {x : Int32} (hM : MX cy G ad D p s m args meth c cc nL own ret A) (hd : decode cc pc = .ok (.iload_n k, 1)) (hl : lv[q]? = some ((k : Nat), vi x)) (hn : pc + 1 = n) (kk : WW cy G ad D p l e R s m args below meth c nL A post n lv (vi x :: st) S) : WW cy G ad D p l e R s m args below meth c nL A post pc lv st S := by
  subst hn
  intro h1 h2 H locs ls hP hS hl0
  exact lv_iload_n hM.1 hM.2.1 hd rfl (lvat hl0 hl) (kk h1 (wkc (lvwk h1 hl) h2) H locs ls hP hS hl0)
theorem w_il {i : Nat} {q n : Nat} {x : Int32} (hM : MX cy G ad D p s m args meth c cc nL own ret A) (hd : decode cc pc = .ok (.iload i, 2)) (hl : lv[q]? = some (i, vi x)) (hn : pc + 2 = n) (kk : WW cy G ad D p l e R s m args below meth c nL A post n lv (vi x :: st) S) : WW cy G ad D p l e R s m args below meth c nL A post pc lv st S := by
  subst hn
  intro h1 h2 H locs ls hP hS hl0
  exact lv_iload hM.1 hM.2.1 hd (lvat hl0 hl) (kk h1 (wkc (lvwk h1 hl) h2) H locs ls hP hS hl0)
theorem w_lln {k : Fin 4} {q n : Nat} {x : Int64} (hM : MX cy G ad D p s m args meth c cc nL own ret A) (hd : decode cc pc = .ok (.lload_n k, 1)) (hl : lv[q]? = some ((k : Nat), vl x)) (hn : pc + 1 = n) (kk : WW cy G ad D p l e R s m args below meth c nL A post n lv (vl x :: st) S) : WW cy G ad D p l e R s m args below meth c nL A post pc lv st S := by
  subst hn
  intro h1 h2 H locs ls hP hS hl0
  exact lv_lload_n hM.1 hM.2.1 hd rfl (lvat hl0 hl) (kk h1 (wkc (lvwk h1 hl) h2) H locs ls hP hS hl0)
theorem w_ll {i : Nat} {q n : Nat} {x : Int64} (hM : MX cy G ad D p s m args meth c cc nL own ret A) (hd : decode cc pc = .ok (.lload i, 2)) (hl : lv[q]? = some (i, vl x)) (hn : pc + 2 = n) (kk : WW cy G ad D p l e R s m args below meth c nL A post n lv (vl x :: st) S) : WW cy G ad D p l e R s m args below meth c nL A post pc lv st S := by
  subst hn
  intro h1 h2 H locs ls hP hS hl0
  exact lv_lload hM.1 hM.2.1 hd (lvat hl0 hl) (kk h1 (wkc (lvwk h1 hl) h2) H locs ls hP hS hl0)
theorem w_aln {k : Fin 4} {q n : Nat} {x : Option (Nat × Nat)} (hM : MX cy G ad D p s m args meth c cc nL own ret A) (hd : decode cc pc = .ok (.aload_n k, 1)) (hl : lv[q]? = some ((k : Nat), (.inr x))) (hn : pc + 1 = n) (kk : WW cy G ad D p l e R s m args below meth c nL A post n lv ((.inr x) :: st) S) : WW cy G ad D p l e R s m args below meth c nL A post pc lv st S := by
  subst hn
  intro h1 h2 H locs ls hP hS hl0
  exact la_n hM.1 hM.2.1 hd rfl (lvat hl0 hl) (kk h1 (wkc (lvwk h1 hl) h2) H locs ls hP hS hl0)
theorem w_al {i : Nat} {q n : Nat} {x : Option (Nat × Nat)} (hM : MX cy G ad D p s m args meth c cc nL own ret A) (hd : decode cc pc = .ok (.aload i, 2)) (hl : lv[q]? = some (i, (.inr x))) (hn : pc + 2 = n) (kk : WW cy G ad D p l e R s m args below meth c nL A post n lv ((.inr x) :: st) S) : WW cy G ad D p l e R s m args below meth c nL A post pc lv st S := by
  subst hn
  intro h1 h2 H locs ls hP hS hl0
  exact la_g hM.1 hM.2.1 hd (lvat hl0 hl) (kk h1 (wkc (lvwk h1 hl) h2) H locs ls hP hS hl0)
theorem w_isn {k : Fin 4} {n : Nat} {x : Int32} {lv' : List (Nat × AV)} (hM : MX cy G ad D p s m args meth c cc nL own ret A) (hd : decode cc pc = .ok (.istore_n k, 1)) (hi : (k : Nat) < nL) (hl : ls1 lv (k : Nat) (vi x) = lv') (hn : pc + 1 = n) (kk : WW cy G ad D p l e R s m args below meth c nL A post n lv' st S) : WW cy G ad D p l e R s m args below meth c nL A post pc lv ((vi x) :: st) S := by
  subst hn; subst hl
  intro h1 h2 H locs ls hP hS hl0
  exact lv_istore_n hM.1 hM.2.1 hd rfl hl0 hi (ls1_eq (ad := ad) (k : Nat) (vi x)) (fun ls' hl' => kk (ls1_wk h1 (wkh h2)) (wkt h2) H locs ls' hP hS hl')
theorem w_is {i : Nat} {n : Nat} {x : Int32} {lv' : List (Nat × AV)} (hM : MX cy G ad D p s m args meth c cc nL own ret A) (hd : decode cc pc = .ok (.istore i, 2)) (hi : i < nL) (hl : ls1 lv i (vi x) = lv') (hn : pc + 2 = n) (kk : WW cy G ad D p l e R s m args below meth c nL A post n lv' st S) : WW cy G ad D p l e R s m args below meth c nL A post pc lv ((vi x) :: st) S := by
  subst hn; subst hl
  intro h1 h2 H locs ls hP hS hl0
  exact lv_istore hM.1 hM.2.1 hd hl0 hi (ls1_eq (ad := ad) i (vi x)) (fun ls' hl' => kk (ls1_wk h1 (wkh h2)) (wkt h2) H locs ls' hP hS hl')
theorem w_asn {k : Fin 4} {n : Nat} {x : Option (Nat × Nat)} {lv' : List (Nat × AV)} (hM : MX cy G ad D p s m args meth c cc nL own ret A) (hd : decode cc pc = .ok (.astore_n k, 1)) (hi : (k : Nat) < nL) (hl : ls1 lv (k : Nat) (.inr x) = lv') (hn : pc + 1 = n) (kk : WW cy G ad D p l e R s m args below meth c nL A post n lv' st S) : WW cy G ad D p l e R s m args below meth c nL A post pc lv ((.inr x) :: st) S := by
  subst hn; subst hl
  intro h1 h2 H locs ls hP hS hl0
  exact sa_n hM.1 hM.2.1 hd rfl hl0 hi (ls1_eq (ad := ad) (k : Nat) (.inr x)) (fun ls' hl' => kk (ls1_wk h1 (wkh h2)) (wkt h2) H locs ls' hP hS hl')
theorem w_as {i : Nat} {n : Nat} {x : Option (Nat × Nat)} {lv' : List (Nat × AV)} (hM : MX cy G ad D p s m args meth c cc nL own ret A) (hd : decode cc pc = .ok (.astore i, 2)) (hi : i < nL) (hl : ls1 lv i (.inr x) = lv') (hn : pc + 2 = n) (kk : WW cy G ad D p l e R s m args below meth c nL A post n lv' st S) : WW cy G ad D p l e R s m args below meth c nL A post pc lv ((.inr x) :: st) S := by
  subst hn; subst hl
  intro h1 h2 H locs ls hP hS hl0
  exact sa_g hM.1 hM.2.1 hd hl0 hi (ls1_eq (ad := ad) i (.inr x)) (fun ls' hl' => kk (ls1_wk h1 (wkh h2)) (wkt h2) H locs ls' hP hS hl')
theorem w_lsn {k : Fin 4} {n : Nat} {x : Int64} {lv' : List (Nat × AV)} (hM : MX cy G ad D p s m args meth c cc nL own ret A) (hd : decode cc pc = .ok (.lstore_n k, 1)) (hi : (k : Nat) + 1 < nL) (hl : ls2 lv (k : Nat) (vl x) = lv') (hn : pc + 1 = n) (kk : WW cy G ad D p l e R s m args below meth c nL A post n lv' st S) : WW cy G ad D p l e R s m args below meth c nL A post pc lv ((vl x) :: st) S := by
  subst hn; subst hl
  intro h1 h2 H locs ls hP hS hl0
  exact lv_lstore_n hM.1 hM.2.1 hd rfl hl0 hi (ls2_eq (ad := ad) (k : Nat) (vl x)) (fun ls' hl' => kk (ls2_wk h1 (wkh h2)) (wkt h2) H locs ls' hP hS hl')
theorem w_ls {i : Nat} {n : Nat} {x : Int64} {lv' : List (Nat × AV)} (hM : MX cy G ad D p s m args meth c cc nL own ret A) (hd : decode cc pc = .ok (.lstore i, 2)) (hi : i + 1 < nL) (hl : ls2 lv i (vl x) = lv') (hn : pc + 2 = n) (kk : WW cy G ad D p l e R s m args below meth c nL A post n lv' st S) : WW cy G ad D p l e R s m args below meth c nL A post pc lv ((vl x) :: st) S := by
  subst hn; subst hl
  intro h1 h2 H locs ls hP hS hl0
  exact lv_lstore hM.1 hM.2.1 hd hl0 hi (ls2_eq (ad := ad) i (vl x)) (fun ls' hl' => kk (ls2_wk h1 (wkh h2)) (wkt h2) H locs ls' hP hS hl')
theorem w_iinc {i q n : Nat} {d : Int} {x v : Int32} {lv' : List (Nat × AV)} (hM : MX cy G ad D p s m args meth c cc nL own ret A) (hd : decode cc pc = .ok (.iinc i d, 3)) (hq : lv[q]? = some (i, vi x)) (hv : x + Int32.ofInt d = v) (hi : i < nL) (hl : ls1 lv i (vi v) = lv') (hn : pc + 3 = n) (kk : WW cy G ad D p l e R s m args below meth c nL A post n lv' st S) : WW cy G ad D p l e R s m args below meth c nL A post pc lv st S := by
  subst hn; subst hl
  intro h1 h2 H locs ls hP hS hl0
  exact lv_iinc hM.1 hM.2.1 hd hl0 (k := q) (x := x) (by rw [List.getElem?_map, hq]; rfl) hv hi (ls1_eq (ad := ad) i (vi v)) (fun ls' hl' => kk (ls1_wk h1 trivial) h2 H locs ls' hP hS hl')
theorem w_ic {d : Int} {n : Nat} (hM : MX cy G ad D p s m args meth c cc nL own ret A) (v : Int32) (hd : decode cc pc = .ok (.iconst d, 1)) (hv : Int32.ofInt d = v) (hn : pc + 1 = n) (kk : WW cy G ad D p l e R s m args below meth c nL A post n lv (vi v :: st) S) : WW cy G ad D p l e R s m args below meth c nL A post pc lv st S := by
  subst hn
  intro h1 h2 H locs ls hP hS hl0
  exact lv_iconst hM.1 hM.2.1 hd hv (kk h1 (wkc trivial h2) H locs ls hP hS hl0)
theorem w_bi {d : Int} {n : Nat} (hM : MX cy G ad D p s m args meth c cc nL own ret A) (v : Int32) (hd : decode cc pc = .ok (.bipush d, 2)) (hv : (Int8.ofInt d).toInt32 = v) (hn : pc + 2 = n) (kk : WW cy G ad D p l e R s m args below meth c nL A post n lv (vi v :: st) S) : WW cy G ad D p l e R s m args below meth c nL A post pc lv st S := by
  subst hn
  intro h1 h2 H locs ls hP hS hl0
  exact lv_bipush hM.1 hM.2.1 hd hv (kk h1 (wkc trivial h2) H locs ls hP hS hl0)
theorem w_si {d : Int} {n : Nat} (hM : MX cy G ad D p s m args meth c cc nL own ret A) (v : Int32) (hd : decode cc pc = .ok (.sipush d, 3)) (hv : (Int16.ofInt d).toInt32 = v) (hn : pc + 3 = n) (kk : WW cy G ad D p l e R s m args below meth c nL A post n lv (vi v :: st) S) : WW cy G ad D p l e R s m args below meth c nL A post pc lv st S := by
  subst hn
  intro h1 h2 H locs ls hP hS hl0
  exact lv_sipush hM.1 hM.2.1 hd hv (kk h1 (wkc trivial h2) H locs ls hP hS hl0)
theorem w_ldc {idx n : Nat} {v : Int32} (hM : MX cy G ad D p s m args meth c cc nL own ret A) (hd : decode cc pc = .ok (.ldc idx, 2)) (hc : Cond.constant own idx v ∈ LG) (hn : pc + 2 = n) (kk : WW cy G ad D p l e R s m args below meth c nL A post n lv (vi v :: st) S) : WW cy G ad D p l e R s m args below meth c nL A post pc lv st S := by
  subst hn
  intro h1 h2 H locs ls hP hS hl0
  exact lv_ldc hM.1 hM.2.1 hM.2.2.2.1 (hM.2.2.2.2.1 _ hc) hd (kk h1 (wkc trivial h2) H locs ls hP hS hl0)
theorem w_ldcw {idx n : Nat} {v : Int32} (hM : MX cy G ad D p s m args meth c cc nL own ret A) (hd : decode cc pc = .ok (.ldc_w idx, 3)) (hc : Cond.constant own idx v ∈ LG) (hn : pc + 3 = n) (kk : WW cy G ad D p l e R s m args below meth c nL A post n lv (vi v :: st) S) : WW cy G ad D p l e R s m args below meth c nL A post pc lv st S := by
  subst hn
  intro h1 h2 H locs ls hP hS hl0
  exact lv_ldcw hM.1 hM.2.1 hM.2.2.2.1 (hM.2.2.2.2.1 _ hc) hd (kk h1 (wkc trivial h2) H locs ls hP hS hl0)
theorem w_ldc2 {idx n : Nat} {v : Int64} (hM : MX cy G ad D p s m args meth c cc nL own ret A) (hd : decode cc pc = .ok (.ldc2_w idx, 3)) (hc : Cond.constantLong own idx v ∈ LG) (hn : pc + 3 = n) (kk : WW cy G ad D p l e R s m args below meth c nL A post n lv (vl v :: st) S) : WW cy G ad D p l e R s m args below meth c nL A post pc lv st S := by
  subst hn
  intro h1 h2 H locs ls hP hS hl0
  exact lv_ldc2 hM.1 hM.2.1 hM.2.2.2.1 (hM.2.2.2.2.1 _ hc) hd (kk h1 (wkc trivial h2) H locs ls hP hS hl0)
theorem w_null {n : Nat} (hM : MX cy G ad D p s m args meth c cc nL own ret A) (hd : decode cc pc = .ok (.aconst_null, 1)) (hn : pc + 1 = n) (kk : WW cy G ad D p l e R s m args below meth c nL A post n lv (vn :: st) S) : WW cy G ad D p l e R s m args below meth c nL A post pc lv st S := by
  subst hn
  intro h1 h2 H locs ls hP hS hl0
  exact lv_null hM.1 hM.2.1 hd (kk h1 (wkc trivial h2) H locs ls hP hS hl0)
theorem w_iadd {n : Nat} {x y : Int32} (hM : MX cy G ad D p s m args meth c cc nL own ret A) (hd : decode cc pc = .ok (.iadd, 1)) (hn : pc + 1 = n) (kk : WW cy G ad D p l e R s m args below meth c nL A post n lv (vi (x + y) :: st) S) : WW cy G ad D p l e R s m args below meth c nL A post pc lv (vi y :: vi x :: st) S := by
  subst hn
  intro h1 h2 H locs ls hP hS hl0
  exact lv_iadd hM.1 hM.2.1 hd (kk h1 (wkc trivial (wkt (wkt h2))) H locs ls hP hS hl0)
theorem w_isub {n : Nat} {x y : Int32} (hM : MX cy G ad D p s m args meth c cc nL own ret A) (hd : decode cc pc = .ok (.isub, 1)) (hn : pc + 1 = n) (kk : WW cy G ad D p l e R s m args below meth c nL A post n lv (vi (x - y) :: st) S) : WW cy G ad D p l e R s m args below meth c nL A post pc lv (vi y :: vi x :: st) S := by
  subst hn
  intro h1 h2 H locs ls hP hS hl0
  exact lv_isub hM.1 hM.2.1 hd (kk h1 (wkc trivial (wkt (wkt h2))) H locs ls hP hS hl0)
theorem w_imul {n : Nat} {x y : Int32} (hM : MX cy G ad D p s m args meth c cc nL own ret A) (hd : decode cc pc = .ok (.imul, 1)) (hn : pc + 1 = n) (kk : WW cy G ad D p l e R s m args below meth c nL A post n lv (vi (x * y) :: st) S) : WW cy G ad D p l e R s m args below meth c nL A post pc lv (vi y :: vi x :: st) S := by
  subst hn
  intro h1 h2 H locs ls hP hS hl0
  exact lv_imul hM.1 hM.2.1 hd (kk h1 (wkc trivial (wkt (wkt h2))) H locs ls hP hS hl0)
theorem w_iand {n : Nat} {x y : Int32} (hM : MX cy G ad D p s m args meth c cc nL own ret A) (hd : decode cc pc = .ok (.iand, 1)) (hn : pc + 1 = n) (kk : WW cy G ad D p l e R s m args below meth c nL A post n lv (vi (x &&& y) :: st) S) : WW cy G ad D p l e R s m args below meth c nL A post pc lv (vi y :: vi x :: st) S := by
  subst hn
  intro h1 h2 H locs ls hP hS hl0
  exact lv_iand hM.1 hM.2.1 hd (kk h1 (wkc trivial (wkt (wkt h2))) H locs ls hP hS hl0)
theorem w_ior {n : Nat} {x y : Int32} (hM : MX cy G ad D p s m args meth c cc nL own ret A) (hd : decode cc pc = .ok (.ior, 1)) (hn : pc + 1 = n) (kk : WW cy G ad D p l e R s m args below meth c nL A post n lv (vi (x ||| y) :: st) S) : WW cy G ad D p l e R s m args below meth c nL A post pc lv (vi y :: vi x :: st) S := by
  subst hn
  intro h1 h2 H locs ls hP hS hl0
  exact lv_ior hM.1 hM.2.1 hd (kk h1 (wkc trivial (wkt (wkt h2))) H locs ls hP hS hl0)
theorem w_ixor {n : Nat} {x y : Int32} (hM : MX cy G ad D p s m args meth c cc nL own ret A) (hd : decode cc pc = .ok (.ixor, 1)) (hn : pc + 1 = n) (kk : WW cy G ad D p l e R s m args below meth c nL A post n lv (vi (x ^^^ y) :: st) S) : WW cy G ad D p l e R s m args below meth c nL A post pc lv (vi y :: vi x :: st) S := by
  subst hn
  intro h1 h2 H locs ls hP hS hl0
  exact lv_ixor hM.1 hM.2.1 hd (kk h1 (wkc trivial (wkt (wkt h2))) H locs ls hP hS hl0)
theorem w_ishl {n : Nat} {x y : Int32} (hM : MX cy G ad D p s m args meth c cc nL own ret A) (hd : decode cc pc = .ok (.ishl, 1)) (hn : pc + 1 = n) (kk : WW cy G ad D p l e R s m args below meth c nL A post n lv (vi (x <<< (y &&& 31)) :: st) S) : WW cy G ad D p l e R s m args below meth c nL A post pc lv (vi y :: vi x :: st) S := by
  subst hn
  intro h1 h2 H locs ls hP hS hl0
  exact lv_ishl hM.1 hM.2.1 hd (kk h1 (wkc trivial (wkt (wkt h2))) H locs ls hP hS hl0)
theorem w_ishr {n : Nat} {x y : Int32} (hM : MX cy G ad D p s m args meth c cc nL own ret A) (hd : decode cc pc = .ok (.ishr, 1)) (hn : pc + 1 = n) (kk : WW cy G ad D p l e R s m args below meth c nL A post n lv (vi (x >>> (y &&& 31)) :: st) S) : WW cy G ad D p l e R s m args below meth c nL A post pc lv (vi y :: vi x :: st) S := by
  subst hn
  intro h1 h2 H locs ls hP hS hl0
  exact lv_ishr hM.1 hM.2.1 hd (kk h1 (wkc trivial (wkt (wkt h2))) H locs ls hP hS hl0)
theorem w_iushr {n : Nat} {x y : Int32} (hM : MX cy G ad D p s m args meth c cc nL own ret A) (hd : decode cc pc = .ok (.iushr, 1)) (hn : pc + 1 = n) (kk : WW cy G ad D p l e R s m args below meth c nL A post n lv (vi ((x.toUInt32 >>> (y.toUInt32 &&& Int32.toUInt32 31)).toInt32) :: st) S) : WW cy G ad D p l e R s m args below meth c nL A post pc lv (vi y :: vi x :: st) S := by
  subst hn
  intro h1 h2 H locs ls hP hS hl0
  exact lv_iushr hM.1 hM.2.1 hd rfl (kk h1 (wkc trivial (wkt (wkt h2))) H locs ls hP hS hl0)
theorem w_idiv {n : Nat} {x y : Int32} (hM : MX cy G ad D p s m args meth c cc nL own ret A) (hd : decode cc pc = .ok (.idiv, 1)) (hne : ¬ y = 0) (hn : pc + 1 = n) (kk : WW cy G ad D p l e R s m args below meth c nL A post n lv (vi (x / y) :: st) S) : WW cy G ad D p l e R s m args below meth c nL A post pc lv (vi y :: vi x :: st) S := by
  subst hn
  intro h1 h2 H locs ls hP hS hl0
  exact lv_idiv hM.1 hM.2.1 hd hne (kk h1 (wkc trivial (wkt (wkt h2))) H locs ls hP hS hl0)
theorem w_irem {n : Nat} {x y : Int32} (hM : MX cy G ad D p s m args meth c cc nL own ret A) (hd : decode cc pc = .ok (.irem, 1)) (hne : ¬ y = 0) (hn : pc + 1 = n) (kk : WW cy G ad D p l e R s m args below meth c nL A post n lv (vi (x - x / y * y) :: st) S) : WW cy G ad D p l e R s m args below meth c nL A post pc lv (vi y :: vi x :: st) S := by
  subst hn
  intro h1 h2 H locs ls hP hS hl0
  exact lv_irem hM.1 hM.2.1 hd hne (kk h1 (wkc trivial (wkt (wkt h2))) H locs ls hP hS hl0)
theorem w_ladd {n : Nat} {x y : Int64} (hM : MX cy G ad D p s m args meth c cc nL own ret A) (hd : decode cc pc = .ok (.ladd, 1)) (hn : pc + 1 = n) (kk : WW cy G ad D p l e R s m args below meth c nL A post n lv (vl (x + y) :: st) S) : WW cy G ad D p l e R s m args below meth c nL A post pc lv (vl y :: vl x :: st) S := by
  subst hn
  intro h1 h2 H locs ls hP hS hl0
  exact lv_ladd hM.1 hM.2.1 hd (kk h1 (wkc trivial (wkt (wkt h2))) H locs ls hP hS hl0)
theorem w_lmul {n : Nat} {x y : Int64} (hM : MX cy G ad D p s m args meth c cc nL own ret A) (hd : decode cc pc = .ok (.lmul, 1)) (hn : pc + 1 = n) (kk : WW cy G ad D p l e R s m args below meth c nL A post n lv (vl (x * y) :: st) S) : WW cy G ad D p l e R s m args below meth c nL A post pc lv (vl y :: vl x :: st) S := by
  subst hn
  intro h1 h2 H locs ls hP hS hl0
  exact lv_lmul hM.1 hM.2.1 hd (kk h1 (wkc trivial (wkt (wkt h2))) H locs ls hP hS hl0)
theorem w_lcmp {n : Nat} {x y : Int64} (hM : MX cy G ad D p s m args meth c cc nL own ret A) (hd : decode cc pc = .ok (.lcmp, 1)) (hn : pc + 1 = n) (kk : WW cy G ad D p l e R s m args below meth c nL A post n lv (vi (lg_cmp x y) :: st) S) : WW cy G ad D p l e R s m args below meth c nL A post pc lv (vl y :: vl x :: st) S := by
  subst hn
  intro h1 h2 H locs ls hP hS hl0
  exact W.lcmp hM.1 hM.2.1 hd (kk h1 (wkc trivial (wkt (wkt h2))) H locs ls hP hS hl0)
theorem w_i2l {n : Nat} {x : Int32} (hM : MX cy G ad D p s m args meth c cc nL own ret A) (hd : decode cc pc = .ok (.i2l, 1)) (hn : pc + 1 = n) (kk : WW cy G ad D p l e R s m args below meth c nL A post n lv (vl (x.toInt64) :: st) S) : WW cy G ad D p l e R s m args below meth c nL A post pc lv (vi x :: st) S := by
  subst hn
  intro h1 h2 H locs ls hP hS hl0
  exact lv_i2l hM.1 hM.2.1 hd rfl (kk h1 (wkc trivial (wkt h2)) H locs ls hP hS hl0)
theorem w_i2b {n : Nat} {x : Int32} (hM : MX cy G ad D p s m args meth c cc nL own ret A) (hd : decode cc pc = .ok (.i2b, 1)) (hn : pc + 1 = n) (kk : WW cy G ad D p l e R s m args below meth c nL A post n lv (vi (x.toInt8.toInt32) :: st) S) : WW cy G ad D p l e R s m args below meth c nL A post pc lv (vi x :: st) S := by
  subst hn
  intro h1 h2 H locs ls hP hS hl0
  exact lv_i2b hM.1 hM.2.1 hd rfl (kk h1 (wkc trivial (wkt h2)) H locs ls hP hS hl0)
theorem w_i2s {n : Nat} {x : Int32} (hM : MX cy G ad D p s m args meth c cc nL own ret A) (hd : decode cc pc = .ok (.i2s, 1)) (hn : pc + 1 = n) (kk : WW cy G ad D p l e R s m args below meth c nL A post n lv (vi (x.toInt16.toInt32) :: st) S) : WW cy G ad D p l e R s m args below meth c nL A post pc lv (vi x :: st) S := by
  subst hn
  intro h1 h2 H locs ls hP hS hl0
  exact lv_i2s hM.1 hM.2.1 hd rfl (kk h1 (wkc trivial (wkt h2)) H locs ls hP hS hl0)
theorem w_dup {n : Nat} {x : AV} (hM : MX cy G ad D p s m args meth c cc nL own ret A) (hd : decode cc pc = .ok (.dup, 1)) (hc : isl x = false) (hn : pc + 1 = n) (kk : WW cy G ad D p l e R s m args below meth c nL A post n lv (x :: x :: st) S) : WW cy G ad D p l e R s m args below meth c nL A post pc lv (x :: st) S := by
  subst hn
  intro h1 h2 H locs ls hP hS hl0
  exact lv_dup hM.1 hM.2.1 hd (by rcases x with (x | x) | (_ | q) <;> first | rfl | cases hc) (kk h1 (wkc (wkh h2) h2) H locs ls hP hS hl0)
theorem w_dup2 {n : Nat} {x y : AV} (hM : MX cy G ad D p s m args meth c cc nL own ret A) (hd : decode cc pc = .ok (.dup2, 1)) (hc : isl x = false) (hc2 : isl y = false) (hn : pc + 1 = n) (kk : WW cy G ad D p l e R s m args below meth c nL A post n lv (x :: y :: x :: y :: st) S) : WW cy G ad D p l e R s m args below meth c nL A post pc lv (x :: y :: st) S := by
  subst hn
  intro h1 h2 H locs ls hP hS hl0
  exact lv_dup2_11 hM.1 hM.2.1 hd (by rcases x with (x | x) | (_ | q) <;> first | rfl | cases hc) (by rcases y with (x | x) | (_ | q) <;> first | rfl | cases hc2) (kk h1 (wkc (wkh h2) (wkc (wkh (wkt h2)) h2)) H locs ls hP hS hl0)
theorem w_pop {n : Nat} {x : AV} (hM : MX cy G ad D p s m args meth c cc nL own ret A) (hd : decode cc pc = .ok (.pop, 1)) (hc : isl x = false) (hn : pc + 1 = n) (kk : WW cy G ad D p l e R s m args below meth c nL A post n lv st S) : WW cy G ad D p l e R s m args below meth c nL A post pc lv (x :: st) S := by
  subst hn
  intro h1 h2 H locs ls hP hS hl0
  exact lv_pop hM.1 hM.2.1 hd (by rcases x with (x | x) | (_ | q) <;> first | rfl | cases hc) (kk h1 (wkt h2) H locs ls hP hS hl0)
theorem w_goto {off : Int} {n : Nat} (hM : MX cy G ad D p s m args meth c cc nL own ret A) (hd : decode cc pc = .ok (.goto off, 3)) (hn : (pc : Int) + off = (n : Int)) (kk : WW cy G ad D p l e R s m args below meth c nL A post n lv st S) : WW cy G ad D p l e R s m args below meth c nL A post pc lv st S := by
  intro h1 h2 H locs ls hP hS hl0
  exact lv_goto hM.1 hM.2.1 hd hn (kk h1 h2 H locs ls hP hS hl0)
theorem w_ifnull {off : Int} {n n2 : Nat} {x : Option (Nat × Nat)} (hM : MX cy G ad D p s m args meth c cc nL own ret A) (hd : decode cc pc = .ok (.ifnull off, 3)) (ht : (pc : Int) + off = (n : Int)) (hn : pc + 3 = n2) (kt : x = none → WW cy G ad D p l e R s m args below meth c nL A post n lv st S) (kf : ∀ q, x = some q → WW cy G ad D p l e R s m args below meth c nL A post n2 lv st S) : WW cy G ad D p l e R s m args below meth c nL A post pc lv (.inr x :: st) S := by
  subst hn
  intro h1 h2 H locs ls hP hS hl0
  rcases x with _ | q
  · exact lv_ifnullN hM.1 hM.2.1 hd ht (kt rfl h1 (wkt h2) H locs ls hP hS hl0)
  · exact lv_ifnull hM.1 hM.2.1 hd (kf q rfl h1 (wkt h2) H locs ls hP hS hl0)
theorem w_ifnonnull {off : Int} {n n2 : Nat} {x : Option (Nat × Nat)} (hM : MX cy G ad D p s m args meth c cc nL own ret A) (hd : decode cc pc = .ok (.ifnonnull off, 3)) (ht : (pc : Int) + off = (n : Int)) (hn : pc + 3 = n2) (kt : ∀ q, x = some q → WW cy G ad D p l e R s m args below meth c nL A post n lv st S) (kf : x = none → WW cy G ad D p l e R s m args below meth c nL A post n2 lv st S) : WW cy G ad D p l e R s m args below meth c nL A post pc lv (.inr x :: st) S := by
  subst hn
  intro h1 h2 H locs ls hP hS hl0
  rcases x with _ | q
  · exact lv_ifnonnullN hM.1 hM.2.1 hd (kf rfl h1 (wkt h2) H locs ls hP hS hl0)
  · exact lv_ifnonnull hM.1 hM.2.1 hd ht (kt q rfl h1 (wkt h2) H locs ls hP hS hl0)
theorem w_ifnullN {off : Int} {n : Nat} (hM : MX cy G ad D p s m args meth c cc nL own ret A) (hd : decode cc pc = .ok (.ifnull off, 3)) (ht : (pc : Int) + off = (n : Int)) (kk : WW cy G ad D p l e R s m args below meth c nL A post n lv st S) : WW cy G ad D p l e R s m args below meth c nL A post pc lv (vn :: st) S := by
  intro h1 h2 H locs ls hP hS hl0
  exact lv_ifnullN hM.1 hM.2.1 hd ht (kk h1 (wkt h2) H locs ls hP hS hl0)
theorem w_ifnullR {off : Int} {k j n : Nat} (hM : MX cy G ad D p s m args meth c cc nL own ret A) (hd : decode cc pc = .ok (.ifnull off, 3)) (hn : pc + 3 = n) (kk : WW cy G ad D p l e R s m args below meth c nL A post n lv st S) : WW cy G ad D p l e R s m args below meth c nL A post pc lv (vr k j :: st) S := by
  subst hn
  intro h1 h2 H locs ls hP hS hl0
  exact lv_ifnull hM.1 hM.2.1 hd (kk h1 (wkt h2) H locs ls hP hS hl0)
theorem w_ifnonnullN {off : Int} {n : Nat} (hM : MX cy G ad D p s m args meth c cc nL own ret A) (hd : decode cc pc = .ok (.ifnonnull off, 3)) (hn : pc + 3 = n) (kk : WW cy G ad D p l e R s m args below meth c nL A post n lv st S) : WW cy G ad D p l e R s m args below meth c nL A post pc lv (vn :: st) S := by
  subst hn
  intro h1 h2 H locs ls hP hS hl0
  exact lv_ifnonnullN hM.1 hM.2.1 hd (kk h1 (wkt h2) H locs ls hP hS hl0)
theorem w_ifnonnullR {off : Int} {k j n : Nat} (hM : MX cy G ad D p s m args meth c cc nL own ret A) (hd : decode cc pc = .ok (.ifnonnull off, 3)) (ht : (pc : Int) + off = (n : Int)) (kk : WW cy G ad D p l e R s m args below meth c nL A post n lv st S) : WW cy G ad D p l e R s m args below meth c nL A post pc lv (vr k j :: st) S := by
  intro h1 h2 H locs ls hP hS hl0
  exact lv_ifnonnull hM.1 hM.2.1 hd ht (kk h1 (wkt h2) H locs ls hP hS hl0)
theorem w_if_eq {off : Int} {n n2 : Nat} {x : Int32} (hM : MX cy G ad D p s m args meth c cc nL own ret A) (hd : decode cc pc = .ok (.ifCond .eq off, 3)) (ht : (pc : Int) + off = (n : Int)) (hn : pc + 3 = n2) (kt : x = 0 → WW cy G ad D p l e R s m args below meth c nL A post n lv st S) (kf : ¬ (x = 0) → WW cy G ad D p l e R s m args below meth c nL A post n2 lv st S) : WW cy G ad D p l e R s m args below meth c nL A post pc lv (vi x :: st) S := by
  subst hn
  intro h1 h2 H locs ls hP hS hl0
  exact lv_if_eq hM.1 hM.2.1 hd ht (fun hc => kt hc h1 (wkt h2) H locs ls hP hS hl0) (fun hc => kf hc h1 (wkt h2) H locs ls hP hS hl0)
theorem w_ic_eq {off : Int} {n n2 : Nat} {x y : Int32} (hM : MX cy G ad D p s m args meth c cc nL own ret A) (hd : decode cc pc = .ok (.if_icmp .eq off, 3)) (ht : (pc : Int) + off = (n : Int)) (hn : pc + 3 = n2) (kt : x = y → WW cy G ad D p l e R s m args below meth c nL A post n lv st S) (kf : ¬ (x = y) → WW cy G ad D p l e R s m args below meth c nL A post n2 lv st S) : WW cy G ad D p l e R s m args below meth c nL A post pc lv (vi y :: vi x :: st) S := by
  subst hn
  intro h1 h2 H locs ls hP hS hl0
  exact lv_icmp_eq hM.1 hM.2.1 hd ht (fun hc => kt hc h1 (wkt (wkt h2)) H locs ls hP hS hl0) (fun hc => kf hc h1 (wkt (wkt h2)) H locs ls hP hS hl0)
theorem w_if_ne {off : Int} {n n2 : Nat} {x : Int32} (hM : MX cy G ad D p s m args meth c cc nL own ret A) (hd : decode cc pc = .ok (.ifCond .ne off, 3)) (ht : (pc : Int) + off = (n : Int)) (hn : pc + 3 = n2) (kt : ¬ x = 0 → WW cy G ad D p l e R s m args below meth c nL A post n lv st S) (kf : x = 0 → WW cy G ad D p l e R s m args below meth c nL A post n2 lv st S) : WW cy G ad D p l e R s m args below meth c nL A post pc lv (vi x :: st) S := by
  subst hn
  intro h1 h2 H locs ls hP hS hl0
  exact lv_if_ne hM.1 hM.2.1 hd ht (fun hc => kt hc h1 (wkt h2) H locs ls hP hS hl0) (fun hc => kf hc h1 (wkt h2) H locs ls hP hS hl0)
theorem w_ic_ne {off : Int} {n n2 : Nat} {x y : Int32} (hM : MX cy G ad D p s m args meth c cc nL own ret A) (hd : decode cc pc = .ok (.if_icmp .ne off, 3)) (ht : (pc : Int) + off = (n : Int)) (hn : pc + 3 = n2) (kt : ¬ x = y → WW cy G ad D p l e R s m args below meth c nL A post n lv st S) (kf : x = y → WW cy G ad D p l e R s m args below meth c nL A post n2 lv st S) : WW cy G ad D p l e R s m args below meth c nL A post pc lv (vi y :: vi x :: st) S := by
  subst hn
  intro h1 h2 H locs ls hP hS hl0
  exact lv_icmp_ne hM.1 hM.2.1 hd ht (fun hc => kt hc h1 (wkt (wkt h2)) H locs ls hP hS hl0) (fun hc => kf hc h1 (wkt (wkt h2)) H locs ls hP hS hl0)
theorem w_if_lt {off : Int} {n n2 : Nat} {x : Int32} (hM : MX cy G ad D p s m args meth c cc nL own ret A) (hd : decode cc pc = .ok (.ifCond .lt off, 3)) (ht : (pc : Int) + off = (n : Int)) (hn : pc + 3 = n2) (kt : x < 0 → WW cy G ad D p l e R s m args below meth c nL A post n lv st S) (kf : ¬ (x < 0) → WW cy G ad D p l e R s m args below meth c nL A post n2 lv st S) : WW cy G ad D p l e R s m args below meth c nL A post pc lv (vi x :: st) S := by
  subst hn
  intro h1 h2 H locs ls hP hS hl0
  exact lv_if_lt hM.1 hM.2.1 hd ht (fun hc => kt hc h1 (wkt h2) H locs ls hP hS hl0) (fun hc => kf hc h1 (wkt h2) H locs ls hP hS hl0)
theorem w_ic_lt {off : Int} {n n2 : Nat} {x y : Int32} (hM : MX cy G ad D p s m args meth c cc nL own ret A) (hd : decode cc pc = .ok (.if_icmp .lt off, 3)) (ht : (pc : Int) + off = (n : Int)) (hn : pc + 3 = n2) (kt : x < y → WW cy G ad D p l e R s m args below meth c nL A post n lv st S) (kf : ¬ (x < y) → WW cy G ad D p l e R s m args below meth c nL A post n2 lv st S) : WW cy G ad D p l e R s m args below meth c nL A post pc lv (vi y :: vi x :: st) S := by
  subst hn
  intro h1 h2 H locs ls hP hS hl0
  exact lv_icmp_lt hM.1 hM.2.1 hd ht (fun hc => kt hc h1 (wkt (wkt h2)) H locs ls hP hS hl0) (fun hc => kf hc h1 (wkt (wkt h2)) H locs ls hP hS hl0)
theorem w_if_ge {off : Int} {n n2 : Nat} {x : Int32} (hM : MX cy G ad D p s m args meth c cc nL own ret A) (hd : decode cc pc = .ok (.ifCond .ge off, 3)) (ht : (pc : Int) + off = (n : Int)) (hn : pc + 3 = n2) (kt : 0 ≤ x → WW cy G ad D p l e R s m args below meth c nL A post n lv st S) (kf : ¬ (0 ≤ x) → WW cy G ad D p l e R s m args below meth c nL A post n2 lv st S) : WW cy G ad D p l e R s m args below meth c nL A post pc lv (vi x :: st) S := by
  subst hn
  intro h1 h2 H locs ls hP hS hl0
  exact lv_if_ge hM.1 hM.2.1 hd ht (fun hc => kt hc h1 (wkt h2) H locs ls hP hS hl0) (fun hc => kf hc h1 (wkt h2) H locs ls hP hS hl0)
theorem w_ic_ge {off : Int} {n n2 : Nat} {x y : Int32} (hM : MX cy G ad D p s m args meth c cc nL own ret A) (hd : decode cc pc = .ok (.if_icmp .ge off, 3)) (ht : (pc : Int) + off = (n : Int)) (hn : pc + 3 = n2) (kt : y ≤ x → WW cy G ad D p l e R s m args below meth c nL A post n lv st S) (kf : ¬ (y ≤ x) → WW cy G ad D p l e R s m args below meth c nL A post n2 lv st S) : WW cy G ad D p l e R s m args below meth c nL A post pc lv (vi y :: vi x :: st) S := by
  subst hn
  intro h1 h2 H locs ls hP hS hl0
  exact lv_icmp_ge hM.1 hM.2.1 hd ht (fun hc => kt hc h1 (wkt (wkt h2)) H locs ls hP hS hl0) (fun hc => kf hc h1 (wkt (wkt h2)) H locs ls hP hS hl0)
theorem w_if_gt {off : Int} {n n2 : Nat} {x : Int32} (hM : MX cy G ad D p s m args meth c cc nL own ret A) (hd : decode cc pc = .ok (.ifCond .gt off, 3)) (ht : (pc : Int) + off = (n : Int)) (hn : pc + 3 = n2) (kt : 0 < x → WW cy G ad D p l e R s m args below meth c nL A post n lv st S) (kf : ¬ (0 < x) → WW cy G ad D p l e R s m args below meth c nL A post n2 lv st S) : WW cy G ad D p l e R s m args below meth c nL A post pc lv (vi x :: st) S := by
  subst hn
  intro h1 h2 H locs ls hP hS hl0
  exact lv_if_gt hM.1 hM.2.1 hd ht (fun hc => kt hc h1 (wkt h2) H locs ls hP hS hl0) (fun hc => kf hc h1 (wkt h2) H locs ls hP hS hl0)
theorem w_ic_gt {off : Int} {n n2 : Nat} {x y : Int32} (hM : MX cy G ad D p s m args meth c cc nL own ret A) (hd : decode cc pc = .ok (.if_icmp .gt off, 3)) (ht : (pc : Int) + off = (n : Int)) (hn : pc + 3 = n2) (kt : y < x → WW cy G ad D p l e R s m args below meth c nL A post n lv st S) (kf : ¬ (y < x) → WW cy G ad D p l e R s m args below meth c nL A post n2 lv st S) : WW cy G ad D p l e R s m args below meth c nL A post pc lv (vi y :: vi x :: st) S := by
  subst hn
  intro h1 h2 H locs ls hP hS hl0
  exact lv_icmp_gt hM.1 hM.2.1 hd ht (fun hc => kt hc h1 (wkt (wkt h2)) H locs ls hP hS hl0) (fun hc => kf hc h1 (wkt (wkt h2)) H locs ls hP hS hl0)
theorem w_if_le {off : Int} {n n2 : Nat} {x : Int32} (hM : MX cy G ad D p s m args meth c cc nL own ret A) (hd : decode cc pc = .ok (.ifCond .le off, 3)) (ht : (pc : Int) + off = (n : Int)) (hn : pc + 3 = n2) (kt : x ≤ 0 → WW cy G ad D p l e R s m args below meth c nL A post n lv st S) (kf : ¬ (x ≤ 0) → WW cy G ad D p l e R s m args below meth c nL A post n2 lv st S) : WW cy G ad D p l e R s m args below meth c nL A post pc lv (vi x :: st) S := by
  subst hn
  intro h1 h2 H locs ls hP hS hl0
  exact lv_if_le hM.1 hM.2.1 hd ht (fun hc => kt hc h1 (wkt h2) H locs ls hP hS hl0) (fun hc => kf hc h1 (wkt h2) H locs ls hP hS hl0)
theorem w_ic_le {off : Int} {n n2 : Nat} {x y : Int32} (hM : MX cy G ad D p s m args meth c cc nL own ret A) (hd : decode cc pc = .ok (.if_icmp .le off, 3)) (ht : (pc : Int) + off = (n : Int)) (hn : pc + 3 = n2) (kt : x ≤ y → WW cy G ad D p l e R s m args below meth c nL A post n lv st S) (kf : ¬ (x ≤ y) → WW cy G ad D p l e R s m args below meth c nL A post n2 lv st S) : WW cy G ad D p l e R s m args below meth c nL A post pc lv (vi y :: vi x :: st) S := by
  subst hn
  intro h1 h2 H locs ls hP hS hl0
  exact lv_icmp_le hM.1 hM.2.1 hd ht (fun hc => kt hc h1 (wkt (wkt h2)) H locs ls hP hS hl0) (fun hc => kf hc h1 (wkt (wkt h2)) H locs ls hP hS hl0)
theorem w_tsIn {dflt lo hi : Int} {offs : Array Int} {len : Nat} {x : Int32} {off : Int} {n : Nat} (hM : MX cy G ad D p s m args meth c cc nL own ret A) (hd : decode cc pc = .ok (.tableswitch dflt lo hi offs, len)) (h3 : ¬ x.toInt < lo) (h4 : ¬ hi < x.toInt) (ho : offs[(x.toInt - lo).toNat]? = some off) (ht : (pc : Int) + off = (n : Int)) (kk : WW cy G ad D p l e R s m args below meth c nL A post n lv st S) : WW cy G ad D p l e R s m args below meth c nL A post pc lv (vi x :: st) S := by
  intro h1 h2 H locs ls hP hS hl0
  exact lv_tableIn hM.1 hM.2.1 hd h3 h4 ho ht (kk h1 (wkt h2) H locs ls hP hS hl0)
theorem w_tsOut {dflt lo hi : Int} {offs : Array Int} {len : Nat} {x : Int32} {n : Nat} (hM : MX cy G ad D p s m args meth c cc nL own ret A) (hd : decode cc pc = .ok (.tableswitch dflt lo hi offs, len)) (h : x.toInt < lo ∨ hi < x.toInt) (ht : (pc : Int) + dflt = (n : Int)) (kk : WW cy G ad D p l e R s m args below meth c nL A post n lv st S) : WW cy G ad D p l e R s m args below meth c nL A post pc lv (vi x :: st) S := by
  intro h1 h2 H locs ls hP hS hl0
  exact lv_tableOut hM.1 hM.2.1 hd h ht (kk h1 (wkt h2) H locs ls hP hS hl0)
theorem w_look {dflt : Int} {ps : Array (Int × Int)} {len : Nat} {x : Int32} {off : Int} {n : Nat} (hM : MX cy G ad D p s m args meth c cc nL own ret A) (hd : decode cc pc = .ok (.lookupswitch dflt ps, len)) (hp : (ps.toList.zip (ps.toList.drop 1)).all (fun (a, next) => a.1 < next.1) = true) (ho : Op.lookupswitch.offset ps.toList dflt x.toInt = off) (ht : (pc : Int) + off = (n : Int)) (kk : WW cy G ad D p l e R s m args below meth c nL A post n lv st S) : WW cy G ad D p l e R s m args below meth c nL A post pc lv (vi x :: st) S := by
  intro h1 h2 H locs ls hP hS hl0
  exact lv_lookup hM.1 hM.2.1 hd hp ho ht (kk h1 (wkt h2) H locs ls hP hS hl0)
theorem w_geti {k j i idx n : Nat} {C : String} {T : u_T} {N : Nat} (hM : MX cy G ad D p s m args meth c cc nL own ret A) (hc : vwCl[k]? = some (C, T, N)) (hkk : ¬ 100 ≤ k ∧ ¬ 20 ≤ k ∧ rk k i = none ∧ i < nfk k ∧ nfk k = N) (hin : ∀ w ∈ u_ws C T N, w ∈ LG) (hlk : Cond.fieldLink own idx (T i).1 (T i).2.1 (T i).2.2.1 ∈ LG) (hd : decode cc pc = .ok (.getfield idx, 3)) (hn : pc + 3 = n) (kk : WW cy G ad D p l e R s m args below meth c nL A post n lv (vi (S.1 j i) :: st) S) : WW cy G ad D p l e R s m args below meth c nL A post pc lv (vr k j :: st) S := by
  subst hn
  intro h1 h2 H locs ls hP hS hl0
  obtain ⟨e1, e2⟩ := wkh h2
  dsimp only at e1 e2
  refine va_get (D := D) (ci := k) (v := .int (S.1 j i)) (C := C) (T := T) (N := N) (a := ad j) (fs := (List.range (nfk k)).map (pval G ad S j)) hM.1 hM.2.1 hM.2.2.2.2.1 hin hM.2.2.2.1 hM.2.2.2.2.2.1 hP j ?_ hc i (by omega) (hM.2.2.2.2.1 _ hlk) (fun _ h => h) ?_ hd (kk h1 (wkc trivial (wkt h2)) H locs ls hP hS hl0)
  · rw [pool_at e2, pcell, e1, if_neg hkk.1, if_neg hkk.2.1]
  · simp [hkk.2.2.2.1, pval, e1, hkk.2.2.1]
theorem w_getr {k k2 j i idx n q : Nat} {C : String} {T : u_T} {N : Nat} (hM : MX cy G ad D p s m args meth c cc nL own ret A) (hc : vwCl[k]? = some (C, T, N)) (hkk : ¬ 100 ≤ k ∧ ¬ 20 ≤ k ∧ rk k i = some k2 ∧ i < nfk k ∧ nfk k = N) (hq : G.2.1 j = k → G.2.2 j i = q) (hin : ∀ w ∈ u_ws C T N, w ∈ LG) (hlk : Cond.fieldLink own idx (T i).1 (T i).2.1 (T i).2.2.1 ∈ LG) (hd : decode cc pc = .ok (.getfield idx, 3)) (hn : pc + 3 = n) (kk : WW cy G ad D p l e R s m args below meth c nL A post n lv (vr k2 q :: st) S) : WW cy G ad D p l e R s m args below meth c nL A post pc lv (vr k j :: st) S := by
  subst hn
  intro h1 h2 H locs ls hP hS hl0
  obtain ⟨e1, e2⟩ := wkh h2
  dsimp only at e1 e2
  have hq := hq e1
  subst hq
  have hw : wk G (vr k2 (G.2.2 j i)) := hM.2.2.2.2.2.2.2.2.2.2.2 j e2 i k2 (by rw [e1]; exact hkk.2.2.1)
  refine va_get (D := D) (ci := k) (v := .ref (ad (G.2.2 j i))) (C := C) (T := T) (N := N) (a := ad j) (fs := (List.range (nfk k)).map (pval G ad S j)) hM.1 hM.2.1 hM.2.2.2.2.1 hin hM.2.2.2.1 hM.2.2.2.2.2.1 hP j ?_ hc i (by omega) (hM.2.2.2.2.1 _ hlk) (fun _ h => h) ?_ hd (kk h1 (wkc hw (wkt h2)) H locs ls hP hS hl0)
  · rw [pool_at e2, pcell, e1, if_neg hkk.1, if_neg hkk.2.1]
  · simp [hkk.2.2.2.1, pval, e1, hkk.2.2.1]
theorem w_put {k j i idx n : Nat} {C : String} {T : u_T} {N : Nat} {ty0 : Nat → FieldType} {ty : FieldType} {x : Int32} (hM : MX cy G ad D p s m args meth c cc nL own ret A) (hc : vwCl[k]? = some (C, T, N)) (hkk : ¬ 100 ≤ k ∧ ¬ 20 ≤ k ∧ rk k i = none ∧ i < nfk k ∧ nfk k = N) (hin : ∀ w ∈ u_ws C T N, w ∈ LG) (hty : ∀ k, k < N → parseFieldDescriptor (T k).2.2.1 = some (ty0 k)) (hnm : ∀ a, a < N → ∀ b, b < N → a ≠ b → (T a).2.1 ≠ (T b).2.1) (hlk : Cond.fieldLink own idx (T i).1 (T i).2.1 (T i).2.2.1 ∈ LG) (hfin : (T i).2.2.2 = false) (hd0 : parseFieldDescriptor (T i).2.2.1 = some ty) (hnar : narrow ty (.int x) = .int x) (hfit : fits ty (.int x) = true) (hd : decode cc pc = .ok (.putfield idx, 3)) (hn : pc + 3 = n) (kk : WW cy G ad D p l e R s m args below meth c nL A post n lv st (sti S j i x)) : WW cy G ad D p l e R s m args below meth c nL A post pc lv (vi x :: vr k j :: st) S := by
  subst hn
  intro h1 h2 H locs ls hP hS hl0
  obtain ⟨e1, e2⟩ := wkh (wkt h2)
  dsimp only at e1 e2
  refine va_put (D := D) (ci := k) (v := .int x) (ty := ty) (C := C) (T := T) (N := N) (a := ad j) (fs := (List.range (nfk k)).map (pval G ad S j)) hM.1 hM.2.1 hM.2.2.2.2.1 hin ty0 hty hnm hM.2.2.2.1 hM.2.2.2.2.2.1 hP (hM.2.2.2.2.2.2.1 S) hS j ?_ hc i (by omega) (hM.2.2.2.2.1 _ hlk) (fun _ h => h) hfin hd0 hnar hfit (by simp [hkk.2.2.2.1]) hd (fun H1 locs1 hP1 hD1 hS1 => ?_)
  · rw [pool_at e2, pcell, e1, if_neg hkk.1, if_neg hkk.2.1]
  · rw [pool_sti e1 hkk.1 hkk.2.1 hkk.2.2.1] at hP1
    exact kk h1 (wkt (wkt h2)) H1 locs1 ls hP1 hS1 hl0
theorem w_ald {j n k nn : Nat} {i : Int32} (hM : MX cy G ad D p s m args meth c cc nL own ret A) (hlen : k = 100 + nn) (hin : vp_in i nn) (hd : decode cc pc = .ok (.iaload, 1)) (hn : pc + 1 = n) (kk : WW cy G ad D p l e R s m args below meth c nL A post n lv (vi (S.2 j i.toNatClampNeg) :: st) S) : WW cy G ad D p l e R s m args below meth c nL A post pc lv (vi i :: vr k j :: st) S := by
  subst hn
  intro h1 h2 H locs ls hP hS hl0
  obtain ⟨e1, e2⟩ := wkh (wkt h2)
  dsimp only at e1 e2
  refine va_iald (D := D) (a := ad j) hM.1 hM.2.1 hM.2.2.2.2.2.1 hP j 0 (cA := cy.1) (n := nn) (f := S.2 j) ?_ rfl hin hd (kk h1 (wkc trivial (wkt (wkt h2))) H locs ls hP hS hl0)
  rw [pool_at e2, pcell, e1, hlen, if_pos (by omega), Nat.add_sub_cancel_left]
theorem w_ast {j n k nn : Nat} {i x : Int32} (hM : MX cy G ad D p s m args meth c cc nL own ret A) (hlen : k = 100 + nn) (hin : vp_in i nn) (hd : decode cc pc = .ok (.iastore, 1)) (hn : pc + 1 = n) (kk : WW cy G ad D p l e R s m args below meth c nL A post n lv st (sta S j i.toNatClampNeg x)) : WW cy G ad D p l e R s m args below meth c nL A post pc lv (vi x :: vi i :: vr k j :: st) S := by
  subst hn
  intro h1 h2 H locs ls hP hS hl0
  obtain ⟨e1, e2⟩ := wkh (wkt (wkt h2))
  dsimp only at e1 e2
  refine va_iast (D := D) (a := ad j) hM.1 hM.2.1 hM.2.2.2.2.2.1 hP (hM.2.2.2.2.2.2.1 S) hS j 0 (cA := cy.1) (n := nn) (f := S.2 j) ?_ rfl hin hd (fun H1 locs1 hP1 hD1 hS1 => ?_)
  · rw [pool_at e2, pcell, e1, hlen, if_pos (by omega), Nat.add_sub_cancel_left]
  · rw [pool_str (e1.trans hlen), str_upd] at hP1
    exact kk h1 (wkt (wkt (wkt h2))) H1 locs1 ls hP1 hS1 hl0
theorem w_zld {j n k nn : Nat} {i : Int32} (hM : MX cy G ad D p s m args meth c cc nL own ret A) (hlen : k = 20 + nn) (hlt : nn < 80) (hin : vp_in i nn) (hd : decode cc pc = .ok (.baload, 1)) (hn : pc + 1 = n) (kk : WW cy G ad D p l e R s m args below meth c nL A post n lv (vi (S.2 j i.toNatClampNeg) :: st) S) : WW cy G ad D p l e R s m args below meth c nL A post pc lv (vi i :: vr k j :: st) S := by
  subst hn
  intro h1 h2 H locs ls hP hS hl0
  obtain ⟨e1, e2⟩ := wkh (wkt h2)
  dsimp only at e1 e2
  refine va_zald (D := D) (a := ad j) hM.1 hM.2.1 hM.2.2.2.2.2.1 hP j 1 (cA := cy.2) (n := nn) (f := S.2 j) ?_ rfl hin hd (kk h1 (wkc trivial (wkt (wkt h2))) H locs ls hP hS hl0)
  rw [pool_at e2, pcell, e1, hlen, if_neg (by omega), if_pos (by omega), Nat.add_sub_cancel_left]
theorem w_zst {j n k nn : Nat} {i x : Int32} (hM : MX cy G ad D p s m args meth c cc nL own ret A) (hlen : k = 20 + nn) (hlt : nn < 80) (hin : vp_in i nn) (hd : decode cc pc = .ok (.bastore, 1)) (hn : pc + 1 = n) (kk : WW cy G ad D p l e R s m args below meth c nL A post n lv st (sta S j i.toNatClampNeg (vp_nar .boolean x))) : WW cy G ad D p l e R s m args below meth c nL A post pc lv (vi x :: vi i :: vr k j :: st) S := by
  subst hn
  intro h1 h2 H locs ls hP hS hl0
  obtain ⟨e1, e2⟩ := wkh (wkt (wkt h2))
  dsimp only at e1 e2
  refine va_zast (D := D) (a := ad j) hM.1 hM.2.1 hM.2.2.2.2.2.1 hP (hM.2.2.2.2.2.2.1 S) hS j 1 (cA := cy.2) (n := nn) (f := S.2 j) ?_ rfl hin hd (fun H1 locs1 hP1 hD1 hS1 => ?_)
  · rw [pool_at e2, pcell, e1, hlen, if_neg (by omega), if_pos (by omega), Nat.add_sub_cancel_left]
  · rw [pool_strz (e1.trans hlen) hlt, str_upd] at hP1
    exact kk h1 (wkt (wkt (wkt h2))) H1 locs1 ls hP1 hS1 hl0
theorem w_iret {x : Int32} (hM : MX cy G ad D p s m args meth c cc nL own (some .int) A) (hd : decode cc pc = .ok (.ireturn, 1)) (hp : post (some (vi x)) S) : WW cy G ad D p l e R s m args below meth c nL A post pc lv [vi x] S := by
  intro h1 h2 H locs ls hP hS hl0
  exact W.iret (v := x) hM.1 hM.2.1 hM.2.2.2.2.2.2.2.2.1 (fun t ht hW => ⟨⟨some (vi x), S, rfl, hp, fun y hy => by cases hy; trivial, by rw [ht]; exact hP⟩, hS.F ht⟩) hS.2.2 hd hM.2.2.2.2.2.2.2.2.2.1
theorem w_zret {x : Int32} (hM : MX cy G ad D p s m args meth c cc nL own (some .boolean) A) (hnar : narrow .boolean (.int x) = .int x) (hd : decode cc pc = .ok (.ireturn, 1)) (hp : post (some (vi x)) S) : WW cy G ad D p l e R s m args below meth c nL A post pc lv [vi x] S := by
  intro h1 h2 H locs ls hP hS hl0
  exact W.zret (v := x) hM.1 hM.2.1 hM.2.2.2.2.2.2.2.2.1 hnar (fun t ht hW => ⟨⟨some (vi x), S, rfl, hp, fun y hy => by cases hy; trivial, by rw [ht]; exact hP⟩, hS.F ht⟩) hS.2.2 hd hM.2.2.2.2.2.2.2.2.2.1
theorem w_lret {x : Int64} (hM : MX cy G ad D p s m args meth c cc nL own (some .long) A) (hd : decode cc pc = .ok (.lreturn, 1)) (hp : post (some (vl x)) S) : WW cy G ad D p l e R s m args below meth c nL A post pc lv [vl x] S := by
  intro h1 h2 H locs ls hP hS hl0
  exact W.lret (v := x) hM.1 hM.2.1 hM.2.2.2.2.2.2.2.2.1 (fun t ht hW => ⟨⟨some (vl x), S, rfl, hp, fun y hy => by cases hy; trivial, by rw [ht]; exact hP⟩, hS.F ht⟩) hS.2.2 hd hM.2.2.2.2.2.2.2.2.2.1
theorem w_vret (hM : MX cy G ad D p s m args meth c cc nL own none A) (hd : decode cc pc = .ok (.return_, 1)) (hp : post none S) : WW cy G ad D p l e R s m args below meth c nL A post pc lv [] S := by
  intro h1 h2 H locs ls hP hS hl0
  exact W.vret hM.1 hM.2.1 hM.2.2.2.2.2.2.2.2.1 (fun t ht hW => ⟨⟨none, S, rfl, hp, fun y hy => (by cases hy), by rw [ht]; exact hP⟩, hS.F ht⟩) hS.2.2 hd hM.2.2.2.2.2.2.2.2.2.1
theorem w_aret {x : Option (Nat × Nat)} {C : String} (hM : MX cy G ad D p s m args meth c cc nL own (some (.object C)) A) (hd : decode cc pc = .ok (.areturn, 1)) (hp : post (some (.inr x)) S) : WW cy G ad D p l e R s m args below meth c nL A post pc lv [.inr x] S := by
  intro h1 h2 H locs ls hP hS hl0
  exact W.aret (v := cv ad (.inr x)) hM.1 hM.2.1 hM.2.2.2.2.2.2.2.2.1 (Or.inl ⟨_, rfl⟩) (by rcases x with _ | q; exact Or.inl rfl; exact Or.inr ⟨_, rfl⟩) (fun t ht hW => ⟨⟨some (.inr x), S, rfl, hp, fun y hy => by cases hy; exact wkh h2, by rw [ht]; exact hP⟩, hS.F ht⟩) hS.2.2 hd hM.2.2.2.2.2.2.2.2.2.1
theorem w_max {idx n : Nat} {x y : Int32} (hM : MX cy G ad D p s m args meth c cc nL own ret A) (hws : Cond.methodLink own idx Lib.Math.max.name ∈ LG ∧ Cond.static Lib.Math.max.name ∈ LG ∧ Cond.initialized "java/lang/Math" ∈ LG ∧ Cond.code Lib.Math.max.name Lib.Math.max.code 2 (some .int) ∈ LG) (hf : 1 ≤ R.frames ∧ 21 ≤ R.locals) (hroom : (st.map acat).sum ≤ 8) (hd : decode cc pc = .ok (.invokestatic idx, 3)) (hn : pc + 3 = n) (kk : WW cy G ad D p l e R s m args below meth c nL A post n lv (vi (if x < y then y else x) :: st) S) : WW cy G ad D p l e R s m args below meth c nL A post pc lv (vi y :: vi x :: st) S := by
  subst hn
  intro h1 h2 H locs ls hP hS hl0
  exact va_mmax hM.1 hM.2.1 (hM.2.2.1.trans hl0.1.symm) hM.2.2.2.1 (hM.2.2.2.2.1 _ hws.1) (hM.2.2.2.2.1 _ hws.2.1) (hM.2.2.2.2.1 _ hws.2.2.1) (hM.2.2.2.2.1 _ hws.2.2.2) hf.1 (by rw [acat_eq]; omega) (Nat.zero_le _) (Nat.zero_le _) hd (kk h1 (wkc trivial (wkt (wkt h2))) H locs ls hP hS hl0)
theorem w_min {idx n : Nat} {x y : Int32} (hM : MX cy G ad D p s m args meth c cc nL own ret A) (hws : Cond.methodLink own idx Lib.Math.min.name ∈ LG ∧ Cond.static Lib.Math.min.name ∈ LG ∧ Cond.initialized "java/lang/Math" ∈ LG ∧ Cond.code Lib.Math.min.name Lib.Math.min.code 2 (some .int) ∈ LG) (hf : 1 ≤ R.frames ∧ 21 ≤ R.locals) (hroom : (st.map acat).sum ≤ 8) (hd : decode cc pc = .ok (.invokestatic idx, 3)) (hn : pc + 3 = n) (kk : WW cy G ad D p l e R s m args below meth c nL A post n lv (vi (if y < x then y else x) :: st) S) : WW cy G ad D p l e R s m args below meth c nL A post pc lv (vi y :: vi x :: st) S := by
  subst hn
  intro h1 h2 H locs ls hP hS hl0
  exact va_mmin hM.1 hM.2.1 (hM.2.2.1.trans hl0.1.symm) hM.2.2.2.1 (hM.2.2.2.2.1 _ hws.1) (hM.2.2.2.2.1 _ hws.2.1) (hM.2.2.2.2.1 _ hws.2.2.1) (hM.2.2.2.2.1 _ hws.2.2.2) hf.1 (by rw [acat_eq]; omega) (Nat.zero_le _) (Nat.zero_le _) hd (kk h1 (wkc trivial (wkt (wkt h2))) H locs ls hP hS hl0)
theorem w_abs {idx n : Nat} {x : Int32} (hM : MX cy G ad D p s m args meth c cc nL own ret A) (hws : Cond.methodLink own idx Lib.Math.abs.name ∈ LG ∧ Cond.static Lib.Math.abs.name ∈ LG ∧ Cond.initialized "java/lang/Math" ∈ LG ∧ Cond.code Lib.Math.abs.name Lib.Math.abs.code 1 (some .int) ∈ LG) (hf : 1 ≤ R.frames ∧ 21 ≤ R.locals) (hroom : (st.map acat).sum ≤ 8) (hd : decode cc pc = .ok (.invokestatic idx, 3)) (hn : pc + 3 = n) (kk : WW cy G ad D p l e R s m args below meth c nL A post n lv (vi (if 0 ≤ x then x else 0 - x) :: st) S) : WW cy G ad D p l e R s m args below meth c nL A post pc lv (vi x :: st) S := by
  subst hn
  intro h1 h2 H locs ls hP hS hl0
  exact va_mabs hM.1 hM.2.1 (hM.2.2.1.trans hl0.1.symm) hM.2.2.2.1 (hM.2.2.2.2.1 _ hws.1) (hM.2.2.2.2.1 _ hws.2.1) (hM.2.2.2.2.1 _ hws.2.2.1) (hM.2.2.2.2.1 _ hws.2.2.2) hf.1 (by rw [acat_eq]; omega) (Nat.zero_le _) (Nat.zero_le _) hd (kk h1 (wkc trivial (wkt h2)) H locs ls hP hS hl0)
theorem fbl {As : List AV} {sz : Nat} : FrameBlind (va_Pc (As.map (cv ad)) (fun U => U.heap.size = sz ∧ va_P D vwCl (pool cy G ad S) U.heap ∧ va_K D vwCl (ptys cy) U ∧ va_D (fun _ => True) (pool cy G ad S) ∧ NF U)) := by
  intro a U g mk q
  obtain ⟨q0, q1, qP, qK, qD, qN⟩ := q
  exact ⟨q0, q1, qP, va_K.moved (u := U) (U := U.calling g mk a) (Vm.Alike.refl U.vm) qK, qD, NF.same (s := U) (U := U.calling g mk a) rfl qN⟩
/-- the end of a call: what came back -/
theorem w_back {rest : List AV} {post1 : Option AV → PS → Prop} {n : Nat} {aa : Array Value} {H : Heap} {locs : List Loc} {ls : Array Slot} {st0 : List Value} (hM : MX cy G ad D p s m args meth c cc nL own ret A) (hS : va_S A s.heap H locs) (h1 : ∀ q ∈ lv, wk G q.2) (h2 : ∀ v ∈ rest, wk G v) (hl0 : lv_has ls nL (lv.map (cq ad)))
    (hr : va_Run p l e R s m args below meth c H locs 0 0 0 0 (F0 m pc ls st0) (rest.map (cv ad)) (pq cy G ad D post1 (va_A (pool cy G ad S) H.size) aa) (va_A (pool cy G ad S) H.size)) (hn : pc + 3 = n)
    (kk : ∀ v S', post1 v S' → WW cy G ad D p l e R s m args below meth c nL A post n lv (v.toList ++ rest) S') : W p l e R s m args below meth c H locs 0 0 (RQ cy G ad D s args below A post) (F0 m pc ls st0) := by
  subst hn
  have hA1 : ∀ q, va_A (pool cy G ad S) H.size q → A q := by
    intro q hq
    rcases hq with ⟨k, e, hk⟩ | hq
    · exact (hM.2.2.2.2.2.2.1 S).2 k _ hk
    · exact hM.2.2.2.2.2.2.2.1 q (Nat.le_trans hS.1 hq)
  intro T hT X
  obtain ⟨v, st₀, t, T', L, h0, X', hL, e1, e2, ⟨⟨v', S', hv, hp, hvw, hP1⟩, hz, hk⟩, sts⟩ := hr T hT X
  have hv2 : v = v'.map (cv ad) := by cases hv; rfl
  subst hv2
  rw [h0] at hz hk
  obtain ⟨t2, a1, b1⟩ := kk v' S' hp h1 (by
      intro w hw
      rcases List.mem_append.mp hw with h | h
      · rcases v' with _ | x
        · simp at h
        · simp at h; subst h; exact hvw _ rfl
      · exact h2 w h) T'.heap (locs ++ L) ls (by rw [e1]; exact hP1)
    ⟨Nat.le_trans hS.1 (by rw [e1]; exact hz), fun q h3 h4 => by rw [e1, hk q (Nat.lt_of_lt_of_le h3 hS.1) (fun z => h4 (hA1 q z))]; exact hS.2.1 q h3 h4, fun q hq => by
      rcases List.mem_append.mp hq with h | h
      · exact hS.2.2 q h
      · exact hA1 _ (hL q h)⟩ hl0 T' rfl X'
  refine ⟨t2, sts t2 ?_, b1⟩
  have e : (v'.toList ++ rest).map (cv ad) = (v'.map (cv ad)).toList ++ rest.map (cv ad) := by
    rcases v' with _ | x <;> simp
  rw [e] at a1
  exact a1
theorem w_callV {y : MethodName} {rm2 : Room} {As rest : List AV} {post1 : Option AV → PS → Prop} {n k j idx maxL2 na : Nat} {C : String} {T : u_T} {N : Nat} {bytes : ByteArray} {ret2 : Option FieldType} (hM : MX cy G ad D p s m args meth c cc nL own ret A) (hC : PM cy G ad D l y (wA y bytes maxL2 ret2) rm2 (vr k j :: As) S post1)
    (hlm : Cond.methodLink own idx y ∈ LG) (hmv : mV y C bytes maxL2 ret2 na) (hrm : rm2.cells = 0 ∧ rm2.slots = 0 ∧ rm2.frames + 1 ≤ R.frames ∧ 8 + (maxL2 + 11) + rm2.locals ≤ R.locals) (hc : vwCl[k]? = some (C, T, N)) (hk : ¬ 100 ≤ k ∧ ¬ 20 ≤ k) (hna : As.length = na) (hroom : (rest.map acat).sum ≤ 8) (hst : st = As.reverse ++ vr k j :: rest) (hd : decode cc pc = .ok (.invokevirtual idx, 3)) (hn : pc + 3 = n)
    (kk : ∀ v S', post1 v S' → WW cy G ad D p l e R s m args below meth c nL A post n lv (v.toList ++ rest) S') : WW cy G ad D p l e R s m args below meth c nL A post pc lv st S := by
  subst hst
  intro h1 h2 H locs ls hP hS hl0
  have h2r : ∀ v ∈ rest, wk G v := fun v hv => h2 v (List.mem_append_right _ (List.mem_cons_of_mem _ hv))
  have h2a : ∀ v ∈ vr k j :: As, wk G v := fun v hv => by
    rcases List.mem_cons.mp hv with h | h
    · rw [h]; exact h2 _ (List.mem_append_right _ List.mem_cons_self)
    · exact h2 v (List.mem_append_left _ (List.mem_reverse.mpr h))
  obtain ⟨e1, e2⟩ := h2a _ List.mem_cons_self
  dsimp only at e1 e2
  have hD0 : va_D (fun _ => True) (pool cy G ad S) := (hM.2.2.2.2.2.2.1 S).weaken (fun _ _ _ _ => trivial)
  refine w_back (S := S) hM hS h1 h2r hl0 (aa := (Value.ref (ad j) :: As.map (cv ad)).toArray) (va_runV (nL := nL) (As := As.map (cv ad)) (rest := rest.map (cv ad)) (b := ad j) (Ts := LG) (own := own) ⟨hM.1, hM.2.1, hM.2.2.1, hM.2.2.2.1, hM.2.2.2.2.1⟩ (hC h2a H.size) (cwV' hM.2.2.2.2.1 hlm hmv hrm) ⟨fbl, va_recv (fs := (List.range (nfk k)).map (pval G ad S j)) hM.2.2.2.2.2.1 hP (ci := k) (q0 := j) hc ?_, fun U hU hW => ⟨rfl, by rw [hU], by rw [hU]; exact hP, va_K.moved hW.alike hM.2.2.2.2.2.1, hD0, NF.warm hW hM.2.2.2.2.2.2.2.2.2.2.1⟩⟩ rfl (by rw [List.length_map]; exact hna) hl0.1 (by simp [cv]) (lv_room (by rw [acat_eq]; exact hroom)) hd ⟨Nat.zero_le _, Nat.zero_le _⟩) hn kk
  rw [pool_at e2, pcell, e1, if_neg hk.1, if_neg hk.2]
theorem w_callS {y : MethodName} {rm2 : Room} {As rest : List AV} {post1 : Option AV → PS → Prop} {n idx maxL2 na : Nat} {bytes : ByteArray} {ret2 : Option FieldType} (hM : MX cy G ad D p s m args meth c cc nL own ret A) (hC : PM cy G ad D l y (wA y bytes maxL2 ret2) rm2 As S post1)
    (hlm : Cond.methodLink own idx y ∈ LG) (hmv : mS y bytes maxL2 ret2 na) (hrm : rm2.cells = 0 ∧ rm2.slots = 0 ∧ rm2.frames + 1 ≤ R.frames ∧ 8 + (maxL2 + 11) + rm2.locals ≤ R.locals) (hna : As.length = na) (hroom : (rest.map acat).sum ≤ 8) (hst : st = As.reverse ++ rest) (hd : decode cc pc = .ok (.invokestatic idx, 3)) (hn : pc + 3 = n)
    (kk : ∀ v S', post1 v S' → WW cy G ad D p l e R s m args below meth c nL A post n lv (v.toList ++ rest) S') : WW cy G ad D p l e R s m args below meth c nL A post pc lv st S := by
  subst hst
  intro h1 h2 H locs ls hP hS hl0
  have h2r : ∀ v ∈ rest, wk G v := fun v hv => h2 v (List.mem_append_right _ hv)
  have h2a : ∀ v ∈ As, wk G v := fun v hv => h2 v (List.mem_append_left _ (List.mem_reverse.mpr hv))
  have hD0 : va_D (fun _ => True) (pool cy G ad S) := (hM.2.2.2.2.2.2.1 S).weaken (fun _ _ _ _ => trivial)
  exact w_back (S := S) hM hS h1 h2r hl0 (aa := (As.map (cv ad)).toArray) (va_runS (nL := nL) (As := As.map (cv ad)) (rest := rest.map (cv ad)) (Ts := LG) (own := own) ⟨hM.1, hM.2.1, hM.2.2.1, hM.2.2.2.1, hM.2.2.2.2.1⟩ (hC h2a H.size) (cwS' hM.2.2.2.2.1 hlm hmv hrm) ⟨fbl, fun U hU hW => ⟨rfl, by rw [hU], by rw [hU]; exact hP, va_K.moved hW.alike hM.2.2.2.2.2.1, hD0, NF.warm hW hM.2.2.2.2.2.2.2.2.2.2.1⟩⟩ rfl (by rw [List.length_map]; exact hna) hl0.1 (by simp) (lv_room (by rw [acat_eq]; exact hroom)) hd ⟨Nat.zero_le _, Nat.zero_le _⟩) hn kk
theorem w_callSN {y : MethodName} {rm2 : Room} {As rest : List AV} {post1 : Option AV → PS → Prop} {n idx maxL2 na : Nat} {host : String} {bytes : ByteArray} {ret2 : Option FieldType} (hM : MX cy G ad D p s m args meth c cc nL own ret A) (hC : PM cy G ad D l y (wA y bytes maxL2 ret2) rm2 As S post1)
    (hlm : NF s → va_Nw (.methodLinkNest own idx y host) s) (hmv : mS y bytes maxL2 ret2 na) (hrm : rm2.cells = 0 ∧ rm2.slots = 0 ∧ rm2.frames + 1 ≤ R.frames ∧ 8 + (maxL2 + 11) + rm2.locals ≤ R.locals) (hna : As.length = na) (hroom : (rest.map acat).sum ≤ 8) (hst : st = As.reverse ++ rest) (hd : decode cc pc = .ok (.invokestatic idx, 3)) (hn : pc + 3 = n)
    (kk : ∀ v S', post1 v S' → WW cy G ad D p l e R s m args below meth c nL A post n lv (v.toList ++ rest) S') : WW cy G ad D p l e R s m args below meth c nL A post pc lv st S := by
  subst hst
  intro h1 h2 H locs ls hP hS hl0
  have h2r : ∀ v ∈ rest, wk G v := fun v hv => h2 v (List.mem_append_right _ hv)
  have h2a : ∀ v ∈ As, wk G v := fun v hv => h2 v (List.mem_append_left _ (List.mem_reverse.mpr hv))
  have hD0 : va_D (fun _ => True) (pool cy G ad S) := (hM.2.2.2.2.2.2.1 S).weaken (fun _ _ _ _ => trivial)
  exact w_back (S := S) hM hS h1 h2r hl0 (aa := (As.map (cv ad)).toArray) (va_runSN (nL := nL) (As := As.map (cv ad)) (rest := rest.map (cv ad)) (Ts := LG) (own := own) ⟨hM.1, hM.2.1, hM.2.2.1, hM.2.2.2.1, hM.2.2.2.2.1⟩ (hC h2a H.size) (cwN' hM.2.2.2.2.1 (hlm hM.2.2.2.2.2.2.2.2.2.2.1) hmv hrm) ⟨fbl, fun U hU hW => ⟨rfl, by rw [hU], by rw [hU]; exact hP, va_K.moved hW.alike hM.2.2.2.2.2.1, hD0, NF.warm hW hM.2.2.2.2.2.2.2.2.2.2.1⟩⟩ rfl (by rw [List.length_map]; exact hna) hl0.1 (by simp) (lv_room (by rw [acat_eq]; exact hroom)) hd ⟨Nat.zero_le _, Nat.zero_le _⟩) hn kk
theorem w_callVi {y : MethodName} {rm2 : Room} {As rest : List AV} {q1 : Int32 → PS → Prop} {n idx maxL2 na : Nat} {k j : Nat} {C : String} {T : u_T} {N : Nat} {bytes : ByteArray} {ret2 : Option FieldType} (hM : MX cy G ad D p s m args meth c cc nL own ret A) (hC : PM cy G ad D l y (wA y bytes maxL2 ret2) rm2 (vr k j :: As) S (poi q1)) (hlm : Cond.methodLink own idx y ∈ LG) (hmv : mV y C bytes maxL2 ret2 na) (hrm : rm2.cells = 0 ∧ rm2.slots = 0 ∧ rm2.frames + 1 ≤ R.frames ∧ 8 + (maxL2 + 11) + rm2.locals ≤ R.locals) (hc : vwCl[k]? = some (C, T, N)) (hk : ¬ 100 ≤ k ∧ ¬ 20 ≤ k) (hna : As.length = na) (hroom : (rest.map acat).sum ≤ 8) (hst : st = As.reverse ++ vr k j :: rest) (hd : decode cc pc = .ok (.invokevirtual idx, 3)) (hn : pc + 3 = n) (kk : ∀ x S', q1 x S' → WW cy G ad D p l e R s m args below meth c nL A post n lv (vi x :: rest) S') : WW cy G ad D p l e R s m args below meth c nL A post pc lv st S :=
  w_callV hM hC hlm hmv hrm hc hk hna hroom hst hd hn (fun v S' hp => by
    obtain ⟨x, hx, hq⟩ := hp
    subst hx
    exact kk x S' hq)
theorem w_callSi {y : MethodName} {rm2 : Room} {As rest : List AV} {q1 : Int32 → PS → Prop} {n idx maxL2 na : Nat} {bytes : ByteArray} {ret2 : Option FieldType} (hM : MX cy G ad D p s m args meth c cc nL own ret A) (hC : PM cy G ad D l y (wA y bytes maxL2 ret2) rm2 (As) S (poi q1)) (hlm : Cond.methodLink own idx y ∈ LG) (hmv : mS y bytes maxL2 ret2 na) (hrm : rm2.cells = 0 ∧ rm2.slots = 0 ∧ rm2.frames + 1 ≤ R.frames ∧ 8 + (maxL2 + 11) + rm2.locals ≤ R.locals) (hna : As.length = na) (hroom : (rest.map acat).sum ≤ 8) (hst : st = As.reverse ++ rest) (hd : decode cc pc = .ok (.invokestatic idx, 3)) (hn : pc + 3 = n) (kk : ∀ x S', q1 x S' → WW cy G ad D p l e R s m args below meth c nL A post n lv (vi x :: rest) S') : WW cy G ad D p l e R s m args below meth c nL A post pc lv st S :=
  w_callS hM hC hlm hmv hrm hna hroom hst hd hn (fun v S' hp => by
    obtain ⟨x, hx, hq⟩ := hp
    subst hx
    exact kk x S' hq)
theorem w_callSNi {y : MethodName} {rm2 : Room} {As rest : List AV} {q1 : Int32 → PS → Prop} {n idx maxL2 na : Nat} {host : String} {bytes : ByteArray} {ret2 : Option FieldType} (hM : MX cy G ad D p s m args meth c cc nL own ret A) (hC : PM cy G ad D l y (wA y bytes maxL2 ret2) rm2 (As) S (poi q1)) (hlm : NF s → va_Nw (.methodLinkNest own idx y host) s) (hmv : mS y bytes maxL2 ret2 na) (hrm : rm2.cells = 0 ∧ rm2.slots = 0 ∧ rm2.frames + 1 ≤ R.frames ∧ 8 + (maxL2 + 11) + rm2.locals ≤ R.locals) (hna : As.length = na) (hroom : (rest.map acat).sum ≤ 8) (hst : st = As.reverse ++ rest) (hd : decode cc pc = .ok (.invokestatic idx, 3)) (hn : pc + 3 = n) (kk : ∀ x S', q1 x S' → WW cy G ad D p l e R s m args below meth c nL A post n lv (vi x :: rest) S') : WW cy G ad D p l e R s m args below meth c nL A post pc lv st S :=
  w_callSN hM hC hlm hmv hrm hna hroom hst hd hn (fun v S' hp => by
    obtain ⟨x, hx, hq⟩ := hp
    subst hx
    exact kk x S' hq)
theorem w_callVl {y : MethodName} {rm2 : Room} {As rest : List AV} {q1 : Int64 → PS → Prop} {n idx maxL2 na : Nat} {k j : Nat} {C : String} {T : u_T} {N : Nat} {bytes : ByteArray} {ret2 : Option FieldType} (hM : MX cy G ad D p s m args meth c cc nL own ret A) (hC : PM cy G ad D l y (wA y bytes maxL2 ret2) rm2 (vr k j :: As) S (pol q1)) (hlm : Cond.methodLink own idx y ∈ LG) (hmv : mV y C bytes maxL2 ret2 na) (hrm : rm2.cells = 0 ∧ rm2.slots = 0 ∧ rm2.frames + 1 ≤ R.frames ∧ 8 + (maxL2 + 11) + rm2.locals ≤ R.locals) (hc : vwCl[k]? = some (C, T, N)) (hk : ¬ 100 ≤ k ∧ ¬ 20 ≤ k) (hna : As.length = na) (hroom : (rest.map acat).sum ≤ 8) (hst : st = As.reverse ++ vr k j :: rest) (hd : decode cc pc = .ok (.invokevirtual idx, 3)) (hn : pc + 3 = n) (kk : ∀ x S', q1 x S' → WW cy G ad D p l e R s m args below meth c nL A post n lv (vl x :: rest) S') : WW cy G ad D p l e R s m args below meth c nL A post pc lv st S :=
  w_callV hM hC hlm hmv hrm hc hk hna hroom hst hd hn (fun v S' hp => by
    obtain ⟨x, hx, hq⟩ := hp
    subst hx
    exact kk x S' hq)
theorem w_callSl {y : MethodName} {rm2 : Room} {As rest : List AV} {q1 : Int64 → PS → Prop} {n idx maxL2 na : Nat} {bytes : ByteArray} {ret2 : Option FieldType} (hM : MX cy G ad D p s m args meth c cc nL own ret A) (hC : PM cy G ad D l y (wA y bytes maxL2 ret2) rm2 (As) S (pol q1)) (hlm : Cond.methodLink own idx y ∈ LG) (hmv : mS y bytes maxL2 ret2 na) (hrm : rm2.cells = 0 ∧ rm2.slots = 0 ∧ rm2.frames + 1 ≤ R.frames ∧ 8 + (maxL2 + 11) + rm2.locals ≤ R.locals) (hna : As.length = na) (hroom : (rest.map acat).sum ≤ 8) (hst : st = As.reverse ++ rest) (hd : decode cc pc = .ok (.invokestatic idx, 3)) (hn : pc + 3 = n) (kk : ∀ x S', q1 x S' → WW cy G ad D p l e R s m args below meth c nL A post n lv (vl x :: rest) S') : WW cy G ad D p l e R s m args below meth c nL A post pc lv st S :=
  w_callS hM hC hlm hmv hrm hna hroom hst hd hn (fun v S' hp => by
    obtain ⟨x, hx, hq⟩ := hp
    subst hx
    exact kk x S' hq)
theorem w_callSNl {y : MethodName} {rm2 : Room} {As rest : List AV} {q1 : Int64 → PS → Prop} {n idx maxL2 na : Nat} {host : String} {bytes : ByteArray} {ret2 : Option FieldType} (hM : MX cy G ad D p s m args meth c cc nL own ret A) (hC : PM cy G ad D l y (wA y bytes maxL2 ret2) rm2 (As) S (pol q1)) (hlm : NF s → va_Nw (.methodLinkNest own idx y host) s) (hmv : mS y bytes maxL2 ret2 na) (hrm : rm2.cells = 0 ∧ rm2.slots = 0 ∧ rm2.frames + 1 ≤ R.frames ∧ 8 + (maxL2 + 11) + rm2.locals ≤ R.locals) (hna : As.length = na) (hroom : (rest.map acat).sum ≤ 8) (hst : st = As.reverse ++ rest) (hd : decode cc pc = .ok (.invokestatic idx, 3)) (hn : pc + 3 = n) (kk : ∀ x S', q1 x S' → WW cy G ad D p l e R s m args below meth c nL A post n lv (vl x :: rest) S') : WW cy G ad D p l e R s m args below meth c nL A post pc lv st S :=
  w_callSN hM hC hlm hmv hrm hna hroom hst hd hn (fun v S' hp => by
    obtain ⟨x, hx, hq⟩ := hp
    subst hx
    exact kk x S' hq)
theorem w_callVr {y : MethodName} {rm2 : Room} {As rest : List AV} {q1 : Option (Nat × Nat) → PS → Prop} {n idx maxL2 na : Nat} {k j : Nat} {C : String} {T : u_T} {N : Nat} {bytes : ByteArray} {ret2 : Option FieldType} (hM : MX cy G ad D p s m args meth c cc nL own ret A) (hC : PM cy G ad D l y (wA y bytes maxL2 ret2) rm2 (vr k j :: As) S (por q1)) (hlm : Cond.methodLink own idx y ∈ LG) (hmv : mV y C bytes maxL2 ret2 na) (hrm : rm2.cells = 0 ∧ rm2.slots = 0 ∧ rm2.frames + 1 ≤ R.frames ∧ 8 + (maxL2 + 11) + rm2.locals ≤ R.locals) (hc : vwCl[k]? = some (C, T, N)) (hk : ¬ 100 ≤ k ∧ ¬ 20 ≤ k) (hna : As.length = na) (hroom : (rest.map acat).sum ≤ 8) (hst : st = As.reverse ++ vr k j :: rest) (hd : decode cc pc = .ok (.invokevirtual idx, 3)) (hn : pc + 3 = n) (kk : ∀ x S', q1 x S' → WW cy G ad D p l e R s m args below meth c nL A post n lv ((.inr x) :: rest) S') : WW cy G ad D p l e R s m args below meth c nL A post pc lv st S :=
  w_callV hM hC hlm hmv hrm hc hk hna hroom hst hd hn (fun v S' hp => by
    obtain ⟨x, hx, hq⟩ := hp
    subst hx
    exact kk x S' hq)
theorem w_callSr {y : MethodName} {rm2 : Room} {As rest : List AV} {q1 : Option (Nat × Nat) → PS → Prop} {n idx maxL2 na : Nat} {bytes : ByteArray} {ret2 : Option FieldType} (hM : MX cy G ad D p s m args meth c cc nL own ret A) (hC : PM cy G ad D l y (wA y bytes maxL2 ret2) rm2 (As) S (por q1)) (hlm : Cond.methodLink own idx y ∈ LG) (hmv : mS y bytes maxL2 ret2 na) (hrm : rm2.cells = 0 ∧ rm2.slots = 0 ∧ rm2.frames + 1 ≤ R.frames ∧ 8 + (maxL2 + 11) + rm2.locals ≤ R.locals) (hna : As.length = na) (hroom : (rest.map acat).sum ≤ 8) (hst : st = As.reverse ++ rest) (hd : decode cc pc = .ok (.invokestatic idx, 3)) (hn : pc + 3 = n) (kk : ∀ x S', q1 x S' → WW cy G ad D p l e R s m args below meth c nL A post n lv ((.inr x) :: rest) S') : WW cy G ad D p l e R s m args below meth c nL A post pc lv st S :=
  w_callS hM hC hlm hmv hrm hna hroom hst hd hn (fun v S' hp => by
    obtain ⟨x, hx, hq⟩ := hp
    subst hx
    exact kk x S' hq)
theorem w_callSNr {y : MethodName} {rm2 : Room} {As rest : List AV} {q1 : Option (Nat × Nat) → PS → Prop} {n idx maxL2 na : Nat} {host : String} {bytes : ByteArray} {ret2 : Option FieldType} (hM : MX cy G ad D p s m args meth c cc nL own ret A) (hC : PM cy G ad D l y (wA y bytes maxL2 ret2) rm2 (As) S (por q1)) (hlm : NF s → va_Nw (.methodLinkNest own idx y host) s) (hmv : mS y bytes maxL2 ret2 na) (hrm : rm2.cells = 0 ∧ rm2.slots = 0 ∧ rm2.frames + 1 ≤ R.frames ∧ 8 + (maxL2 + 11) + rm2.locals ≤ R.locals) (hna : As.length = na) (hroom : (rest.map acat).sum ≤ 8) (hst : st = As.reverse ++ rest) (hd : decode cc pc = .ok (.invokestatic idx, 3)) (hn : pc + 3 = n) (kk : ∀ x S', q1 x S' → WW cy G ad D p l e R s m args below meth c nL A post n lv ((.inr x) :: rest) S') : WW cy G ad D p l e R s m args below meth c nL A post pc lv st S :=
  w_callSN hM hC hlm hmv hrm hna hroom hst hd hn (fun v S' hp => by
    obtain ⟨x, hx, hq⟩ := hp
    subst hx
    exact kk x S' hq)
theorem w_callVv {y : MethodName} {rm2 : Room} {As rest : List AV} {q1 : PS → Prop} {n idx maxL2 na : Nat} {k j : Nat} {C : String} {T : u_T} {N : Nat} {bytes : ByteArray} {ret2 : Option FieldType} (hM : MX cy G ad D p s m args meth c cc nL own ret A) (hC : PM cy G ad D l y (wA y bytes maxL2 ret2) rm2 (vr k j :: As) S (pov q1)) (hlm : Cond.methodLink own idx y ∈ LG) (hmv : mV y C bytes maxL2 ret2 na) (hrm : rm2.cells = 0 ∧ rm2.slots = 0 ∧ rm2.frames + 1 ≤ R.frames ∧ 8 + (maxL2 + 11) + rm2.locals ≤ R.locals) (hc : vwCl[k]? = some (C, T, N)) (hk : ¬ 100 ≤ k ∧ ¬ 20 ≤ k) (hna : As.length = na) (hroom : (rest.map acat).sum ≤ 8) (hst : st = As.reverse ++ vr k j :: rest) (hd : decode cc pc = .ok (.invokevirtual idx, 3)) (hn : pc + 3 = n) (kk : ∀ S', q1 S' → WW cy G ad D p l e R s m args below meth c nL A post n lv rest S') : WW cy G ad D p l e R s m args below meth c nL A post pc lv st S :=
  w_callV hM hC hlm hmv hrm hc hk hna hroom hst hd hn (fun v S' hp => by
    obtain ⟨hx, hq⟩ := hp
    subst hx
    exact kk S' hq)
theorem w_callSv {y : MethodName} {rm2 : Room} {As rest : List AV} {q1 : PS → Prop} {n idx maxL2 na : Nat} {bytes : ByteArray} {ret2 : Option FieldType} (hM : MX cy G ad D p s m args meth c cc nL own ret A) (hC : PM cy G ad D l y (wA y bytes maxL2 ret2) rm2 (As) S (pov q1)) (hlm : Cond.methodLink own idx y ∈ LG) (hmv : mS y bytes maxL2 ret2 na) (hrm : rm2.cells = 0 ∧ rm2.slots = 0 ∧ rm2.frames + 1 ≤ R.frames ∧ 8 + (maxL2 + 11) + rm2.locals ≤ R.locals) (hna : As.length = na) (hroom : (rest.map acat).sum ≤ 8) (hst : st = As.reverse ++ rest) (hd : decode cc pc = .ok (.invokestatic idx, 3)) (hn : pc + 3 = n) (kk : ∀ S', q1 S' → WW cy G ad D p l e R s m args below meth c nL A post n lv rest S') : WW cy G ad D p l e R s m args below meth c nL A post pc lv st S :=
  w_callS hM hC hlm hmv hrm hna hroom hst hd hn (fun v S' hp => by
    obtain ⟨hx, hq⟩ := hp
    subst hx
    exact kk S' hq)
theorem r_i {x : Int32} {q : Int32 → PS → Prop} (hM : MX cy G ad D p s m args meth c cc nL own (some .int) A) (hd : decode cc pc = .ok (.ireturn, 1)) (hp : q x S) : WW cy G ad D p l e R s m args below meth c nL A (poi q) pc lv [vi x] S := w_iret hM hd ⟨x, rfl, hp⟩
theorem r_z {x : Int32} {q : Int32 → PS → Prop} (hM : MX cy G ad D p s m args meth c cc nL own (some .boolean) A) (hnar : narrow .boolean (.int x) = .int x) (hd : decode cc pc = .ok (.ireturn, 1)) (hp : q x S) : WW cy G ad D p l e R s m args below meth c nL A (poi q) pc lv [vi x] S := w_zret hM hnar hd ⟨x, rfl, hp⟩
theorem r_l {x : Int64} {q : Int64 → PS → Prop} (hM : MX cy G ad D p s m args meth c cc nL own (some .long) A) (hd : decode cc pc = .ok (.lreturn, 1)) (hp : q x S) : WW cy G ad D p l e R s m args below meth c nL A (pol q) pc lv [vl x] S := w_lret hM hd ⟨x, rfl, hp⟩
theorem r_v {q : PS → Prop} (hM : MX cy G ad D p s m args meth c cc nL own none A) (hd : decode cc pc = .ok (.return_, 1)) (hp : q S) : WW cy G ad D p l e R s m args below meth c nL A (pov q) pc lv [] S := w_vret hM hd ⟨rfl, hp⟩
theorem r_a {x : Option (Nat × Nat)} {C : String} {q : Option (Nat × Nat) → PS → Prop} (hM : MX cy G ad D p s m args meth c cc nL own (some (.object C)) A) (hd : decode cc pc = .ok (.areturn, 1)) (hp : q x S) : WW cy G ad D p l e R s m args below meth c nL A (por q) pc lv [.inr x] S := w_aret hM hd ⟨x, rfl, hp⟩
end BW
end
section
def kdC (j : Nat) : Nat := if j = 0 then 9 else if j < 3 then 6 else if j < 11 then 5 else if j < 19 then 250 else if j < 21 then 3 else if j < 33 then 140 else if j < 35 then 250 else if j < 39 then 160 else if j < 41 then 140 else if j = 41 then 0 else if j = 42 then 140 else if j = 43 then 2601 else if j = 44 then 4 else if j < 47 then 2 else if j = 47 then 292 else if j < 54 then 105 else if j = 54 then 7 else if j = 55 then 1 else if j = 56 then 130 else if j = 57 then 109 else if j = 58 then 8 else 19
def rfC (j i : Nat) : Nat := match kdC j, i with
  | 9, 0 => 1
  | 9, 1 => 2
  | 9, 2 => 41
  | 9, 3 => 44
  | 9, 4 => 54
  | 9, 5 => 55
  | 9, 6 => 58
  | 6, 0 => (4 * j - 1)
  | 6, 1 => (4 * j)
  | 6, 2 => (4 * j + 1)
  | 6, 3 => (4 * j + 2)
  | 6, 4 => (j + 18)
  | 6, 5 => (j + 32)
  | 6, 6 => (j + 34)
  | 6, 7 => (j + 36)
  | 6, 8 => (j + 38)
  | 5, 0 => (j + 8)
  | 0, 0 => 42
  | 0, 1 => 43
  | 4, 0 => 45
  | 4, 1 => 46
  | 4, 2 => 47
  | 2, 0 => (j + 3)
  | 2, 1 => (j + 5)
  | 2, 2 => (j + 7)
  | 1, 0 => 56
  | 1, 1 => 57
  | 3, 0 => (j + 2)
  | 3, 1 => (j + 4)
  | 3, 2 => (j + 6)
  | 3, 3 => (j + 8)
  | 3, 4 => (j + 10)
  | 3, 5 => (j + 12)
  | _, _ => 0
abbrev GC : GG := (59, kdC, rfC)
def kdM (j : Nat) : Nat := match j with
  | 0 => 10
  | 1 => 28
  | 2 => 108
  | 3 => 108
  | 4 => 1300
  | 5 => 250
  | 6 => 250
  | 7 => 160
  | 8 => 160
  | 9 => 140
  | 10 => 2601
  | 11 => 140
  | 12 => 102
  | 13 => 180
  | 14 => 180
  | 15 => 180
  | 16 => 180
  | 17 => 140
  | 18 => 102
  | 19 => 110
  | 20 => 110
  | 21 => 105
  | 22 => 105
  | 23 => 130
  | 24 => 130
  | 25 => 24
  | _ => 19
def rfM (_ i : Nat) : Nat := match i with
  | 0 => 1
  | 1 => 2
  | 2 => 3
  | 3 => 4
  | 4 => 5
  | 8 => 6
  | 10 => 7
  | 11 => 8
  | 13 => 9
  | 16 => 10
  | 17 => 11
  | 18 => 12
  | 19 => 13
  | 20 => 14
  | 21 => 15
  | 22 => 16
  | 25 => 17
  | 28 => 18
  | 29 => 19
  | 30 => 20
  | 31 => 21
  | 32 => 22
  | 37 => 23
  | 38 => 24
  | 41 => 25
  | _ => 0
abbrev GM : GG := (26, kdM, rfM)
theorem rk_big {k i : Nat} (h : 43 ≤ i) : rk k i = none := by
  unfold rk
  split <;> first | rfl | omega
def gokb (G : GG) : Bool := (List.range G.1).all fun j => (List.range 43).all fun i => match rk (G.2.1 j) i with
  | some k => decide (G.2.1 (G.2.2 j i) = k ∧ G.2.2 j i < G.1)
  | none => true
theorem gok_of {G : GG} (h : gokb G = true) : GOK G := by
  intro j hj i k hk
  by_cases hi : i < 43
  · have h1 := List.all_eq_true.mp (List.all_eq_true.mp h j (List.mem_range.mpr hj)) i (List.mem_range.mpr hi)
    rw [hk] at h1
    exact of_decide_eq_true h1
  · rw [rk_big (by omega)] at hk
    cases hk
theorem GC_ok : GOK GC := gok_of (by decide +kernel)
theorem GM_ok : GOK GM := gok_of (by decide +kernel)
theorem rfc_9_0 {j : Nat} (h : GC.2.1 j = 9) : GC.2.2 j 0 = 1 := by
  show rfC j 0 = _
  unfold rfC
  rw [show kdC j = 9 from h]
  rfl
theorem rfc_9_1 {j : Nat} (h : GC.2.1 j = 9) : GC.2.2 j 1 = 2 := by
  show rfC j 1 = _
  unfold rfC
  rw [show kdC j = 9 from h]
  rfl
theorem rfc_9_2 {j : Nat} (h : GC.2.1 j = 9) : GC.2.2 j 2 = 41 := by
  show rfC j 2 = _
  unfold rfC
  rw [show kdC j = 9 from h]
  rfl
theorem rfc_9_3 {j : Nat} (h : GC.2.1 j = 9) : GC.2.2 j 3 = 44 := by
  show rfC j 3 = _
  unfold rfC
  rw [show kdC j = 9 from h]
  rfl
theorem rfc_9_4 {j : Nat} (h : GC.2.1 j = 9) : GC.2.2 j 4 = 54 := by
  show rfC j 4 = _
  unfold rfC
  rw [show kdC j = 9 from h]
  rfl
theorem rfc_9_5 {j : Nat} (h : GC.2.1 j = 9) : GC.2.2 j 5 = 55 := by
  show rfC j 5 = _
  unfold rfC
  rw [show kdC j = 9 from h]
  rfl
theorem rfc_9_6 {j : Nat} (h : GC.2.1 j = 9) : GC.2.2 j 6 = 58 := by
  show rfC j 6 = _
  unfold rfC
  rw [show kdC j = 9 from h]
  rfl
theorem rfc_6_0 {j : Nat} (h : GC.2.1 j = 6) : GC.2.2 j 0 = (4 * j - 1) := by
  show rfC j 0 = _
  unfold rfC
  rw [show kdC j = 6 from h]
  rfl
theorem rfc_6_1 {j : Nat} (h : GC.2.1 j = 6) : GC.2.2 j 1 = (4 * j) := by
  show rfC j 1 = _
  unfold rfC
  rw [show kdC j = 6 from h]
  rfl
theorem rfc_6_2 {j : Nat} (h : GC.2.1 j = 6) : GC.2.2 j 2 = (4 * j + 1) := by
  show rfC j 2 = _
  unfold rfC
  rw [show kdC j = 6 from h]
  rfl
theorem rfc_6_3 {j : Nat} (h : GC.2.1 j = 6) : GC.2.2 j 3 = (4 * j + 2) := by
  show rfC j 3 = _
  unfold rfC
  rw [show kdC j = 6 from h]
  rfl
theorem rfc_6_4 {j : Nat} (h : GC.2.1 j = 6) : GC.2.2 j 4 = (j + 18) := by
  show rfC j 4 = _
  unfold rfC
  rw [show kdC j = 6 from h]
  rfl
theorem rfc_6_5 {j : Nat} (h : GC.2.1 j = 6) : GC.2.2 j 5 = (j + 32) := by
  show rfC j 5 = _
  unfold rfC
  rw [show kdC j = 6 from h]
  rfl
theorem rfc_6_6 {j : Nat} (h : GC.2.1 j = 6) : GC.2.2 j 6 = (j + 34) := by
  show rfC j 6 = _
  unfold rfC
  rw [show kdC j = 6 from h]
  rfl
theorem rfc_6_7 {j : Nat} (h : GC.2.1 j = 6) : GC.2.2 j 7 = (j + 36) := by
  show rfC j 7 = _
  unfold rfC
  rw [show kdC j = 6 from h]
  rfl
theorem rfc_6_8 {j : Nat} (h : GC.2.1 j = 6) : GC.2.2 j 8 = (j + 38) := by
  show rfC j 8 = _
  unfold rfC
  rw [show kdC j = 6 from h]
  rfl
theorem rfc_5_0 {j : Nat} (h : GC.2.1 j = 5) : GC.2.2 j 0 = (j + 8) := by
  show rfC j 0 = _
  unfold rfC
  rw [show kdC j = 5 from h]
  rfl
theorem rfc_0_0 {j : Nat} (h : GC.2.1 j = 0) : GC.2.2 j 0 = 42 := by
  show rfC j 0 = _
  unfold rfC
  rw [show kdC j = 0 from h]
  rfl
theorem rfc_0_1 {j : Nat} (h : GC.2.1 j = 0) : GC.2.2 j 1 = 43 := by
  show rfC j 1 = _
  unfold rfC
  rw [show kdC j = 0 from h]
  rfl
theorem rfc_4_0 {j : Nat} (h : GC.2.1 j = 4) : GC.2.2 j 0 = 45 := by
  show rfC j 0 = _
  unfold rfC
  rw [show kdC j = 4 from h]
  rfl
theorem rfc_4_1 {j : Nat} (h : GC.2.1 j = 4) : GC.2.2 j 1 = 46 := by
  show rfC j 1 = _
  unfold rfC
  rw [show kdC j = 4 from h]
  rfl
theorem rfc_4_2 {j : Nat} (h : GC.2.1 j = 4) : GC.2.2 j 2 = 47 := by
  show rfC j 2 = _
  unfold rfC
  rw [show kdC j = 4 from h]
  rfl
theorem rfc_2_0 {j : Nat} (h : GC.2.1 j = 2) : GC.2.2 j 0 = (j + 3) := by
  show rfC j 0 = _
  unfold rfC
  rw [show kdC j = 2 from h]
  rfl
theorem rfc_2_1 {j : Nat} (h : GC.2.1 j = 2) : GC.2.2 j 1 = (j + 5) := by
  show rfC j 1 = _
  unfold rfC
  rw [show kdC j = 2 from h]
  rfl
theorem rfc_2_2 {j : Nat} (h : GC.2.1 j = 2) : GC.2.2 j 2 = (j + 7) := by
  show rfC j 2 = _
  unfold rfC
  rw [show kdC j = 2 from h]
  rfl
theorem rfc_1_0 {j : Nat} (h : GC.2.1 j = 1) : GC.2.2 j 0 = 56 := by
  show rfC j 0 = _
  unfold rfC
  rw [show kdC j = 1 from h]
  rfl
theorem rfc_1_1 {j : Nat} (h : GC.2.1 j = 1) : GC.2.2 j 1 = 57 := by
  show rfC j 1 = _
  unfold rfC
  rw [show kdC j = 1 from h]
  rfl
theorem rfc_3_0 {j : Nat} (h : GC.2.1 j = 3) : GC.2.2 j 0 = (j + 2) := by
  show rfC j 0 = _
  unfold rfC
  rw [show kdC j = 3 from h]
  rfl
theorem rfc_3_1 {j : Nat} (h : GC.2.1 j = 3) : GC.2.2 j 1 = (j + 4) := by
  show rfC j 1 = _
  unfold rfC
  rw [show kdC j = 3 from h]
  rfl
theorem rfc_3_2 {j : Nat} (h : GC.2.1 j = 3) : GC.2.2 j 2 = (j + 6) := by
  show rfC j 2 = _
  unfold rfC
  rw [show kdC j = 3 from h]
  rfl
theorem rfc_3_3 {j : Nat} (h : GC.2.1 j = 3) : GC.2.2 j 3 = (j + 8) := by
  show rfC j 3 = _
  unfold rfC
  rw [show kdC j = 3 from h]
  rfl
theorem rfc_3_4 {j : Nat} (h : GC.2.1 j = 3) : GC.2.2 j 4 = (j + 10) := by
  show rfC j 4 = _
  unfold rfC
  rw [show kdC j = 3 from h]
  rfl
theorem rfc_3_5 {j : Nat} (h : GC.2.1 j = 3) : GC.2.2 j 5 = (j + 12) := by
  show rfC j 5 = _
  unfold rfC
  rw [show kdC j = 3 from h]
  rfl
theorem i32_of {x : Int32} {k : Int} (y : Int32) (h : x.toInt = k) (hy : y.toInt = k) : x = y := Int32.toInt_inj.mp (h.trans hy.symm)
theorem sw0_4 {x : Int32} (h : ¬ (x.toInt < 0 ∨ 3 < x.toInt)) : x = 0 ∨ x = 1 ∨ x = 2 ∨ x = 3 := by
  have h1 : x.toInt = 0 ∨ x.toInt = 1 ∨ x.toInt = 2 ∨ x.toInt = 3 := by omega
  rcases h1 with h | h | h | h
  · exact Or.inl (i32_of 0 h rfl)
  · exact Or.inr (Or.inl (i32_of 1 h rfl))
  · exact Or.inr (Or.inr (Or.inl (i32_of 2 h rfl)))
  · exact Or.inr (Or.inr (Or.inr ((i32_of 3 h rfl))))
theorem sw0_5 {x : Int32} (h : ¬ (x.toInt < 0 ∨ 4 < x.toInt)) : x = 0 ∨ x = 1 ∨ x = 2 ∨ x = 3 ∨ x = 4 := by
  have h1 : x.toInt = 0 ∨ x.toInt = 1 ∨ x.toInt = 2 ∨ x.toInt = 3 ∨ x.toInt = 4 := by omega
  rcases h1 with h | h | h | h | h
  · exact Or.inl (i32_of 0 h rfl)
  · exact Or.inr (Or.inl (i32_of 1 h rfl))
  · exact Or.inr (Or.inr (Or.inl (i32_of 2 h rfl)))
  · exact Or.inr (Or.inr (Or.inr (Or.inl (i32_of 3 h rfl))))
  · exact Or.inr (Or.inr (Or.inr (Or.inr ((i32_of 4 h rfl)))))
theorem sw0_6 {x : Int32} (h : ¬ (x.toInt < 0 ∨ 5 < x.toInt)) : x = 0 ∨ x = 1 ∨ x = 2 ∨ x = 3 ∨ x = 4 ∨ x = 5 := by
  have h1 : x.toInt = 0 ∨ x.toInt = 1 ∨ x.toInt = 2 ∨ x.toInt = 3 ∨ x.toInt = 4 ∨ x.toInt = 5 := by omega
  rcases h1 with h | h | h | h | h | h
  · exact Or.inl (i32_of 0 h rfl)
  · exact Or.inr (Or.inl (i32_of 1 h rfl))
  · exact Or.inr (Or.inr (Or.inl (i32_of 2 h rfl)))
  · exact Or.inr (Or.inr (Or.inr (Or.inl (i32_of 3 h rfl))))
  · exact Or.inr (Or.inr (Or.inr (Or.inr (Or.inl (i32_of 4 h rfl)))))
  · exact Or.inr (Or.inr (Or.inr (Or.inr (Or.inr ((i32_of 5 h rfl))))))
theorem sw0_7 {x : Int32} (h : ¬ (x.toInt < 0 ∨ 6 < x.toInt)) : x = 0 ∨ x = 1 ∨ x = 2 ∨ x = 3 ∨ x = 4 ∨ x = 5 ∨ x = 6 := by
  have h1 : x.toInt = 0 ∨ x.toInt = 1 ∨ x.toInt = 2 ∨ x.toInt = 3 ∨ x.toInt = 4 ∨ x.toInt = 5 ∨ x.toInt = 6 := by omega
  rcases h1 with h | h | h | h | h | h | h
  · exact Or.inl (i32_of 0 h rfl)
  · exact Or.inr (Or.inl (i32_of 1 h rfl))
  · exact Or.inr (Or.inr (Or.inl (i32_of 2 h rfl)))
  · exact Or.inr (Or.inr (Or.inr (Or.inl (i32_of 3 h rfl))))
  · exact Or.inr (Or.inr (Or.inr (Or.inr (Or.inl (i32_of 4 h rfl)))))
  · exact Or.inr (Or.inr (Or.inr (Or.inr (Or.inr (Or.inl (i32_of 5 h rfl))))))
  · exact Or.inr (Or.inr (Or.inr (Or.inr (Or.inr (Or.inr ((i32_of 6 h rfl)))))))
theorem sw0_3 {x : Int32} (h : ¬ (x.toInt < 0 ∨ 2 < x.toInt)) : x = 0 ∨ x = 1 ∨ x = 2 := by
  have h1 : x.toInt = 0 ∨ x.toInt = 1 ∨ x.toInt = 2 := by omega
  rcases h1 with h | h | h
  · exact Or.inl (i32_of 0 h rfl)
  · exact Or.inr (Or.inl (i32_of 1 h rfl))
  · exact Or.inr (Or.inr ((i32_of 2 h rfl)))
theorem sw0_2 {x : Int32} (h : ¬ (x.toInt < 0 ∨ 1 < x.toInt)) : x = 0 ∨ x = 1 := by
  have h1 : x.toInt = 0 ∨ x.toInt = 1 := by omega
  rcases h1 with h | h
  · exact Or.inl (i32_of 0 h rfl)
  · exact Or.inr ((i32_of 1 h rfl))
theorem sw0_32 {x : Int32} (h : ¬ (x.toInt < 0 ∨ 31 < x.toInt)) : x = 0 ∨ x = 1 ∨ x = 2 ∨ x = 3 ∨ x = 4 ∨ x = 5 ∨ x = 6 ∨ x = 7 ∨ x = 8 ∨ x = 9 ∨ x = 10 ∨ x = 11 ∨ x = 12 ∨ x = 13 ∨ x = 14 ∨ x = 15 ∨ x = 16 ∨ x = 17 ∨ x = 18 ∨ x = 19 ∨ x = 20 ∨ x = 21 ∨ x = 22 ∨ x = 23 ∨ x = 24 ∨ x = 25 ∨ x = 26 ∨ x = 27 ∨ x = 28 ∨ x = 29 ∨ x = 30 ∨ x = 31 := by
  have h1 : x.toInt = 0 ∨ x.toInt = 1 ∨ x.toInt = 2 ∨ x.toInt = 3 ∨ x.toInt = 4 ∨ x.toInt = 5 ∨ x.toInt = 6 ∨ x.toInt = 7 ∨ x.toInt = 8 ∨ x.toInt = 9 ∨ x.toInt = 10 ∨ x.toInt = 11 ∨ x.toInt = 12 ∨ x.toInt = 13 ∨ x.toInt = 14 ∨ x.toInt = 15 ∨ x.toInt = 16 ∨ x.toInt = 17 ∨ x.toInt = 18 ∨ x.toInt = 19 ∨ x.toInt = 20 ∨ x.toInt = 21 ∨ x.toInt = 22 ∨ x.toInt = 23 ∨ x.toInt = 24 ∨ x.toInt = 25 ∨ x.toInt = 26 ∨ x.toInt = 27 ∨ x.toInt = 28 ∨ x.toInt = 29 ∨ x.toInt = 30 ∨ x.toInt = 31 := by omega
  rcases h1 with h | h | h | h | h | h | h | h | h | h | h | h | h | h | h | h | h | h | h | h | h | h | h | h | h | h | h | h | h | h | h | h
  · exact Or.inl (i32_of 0 h rfl)
  · exact Or.inr (Or.inl (i32_of 1 h rfl))
  · exact Or.inr (Or.inr (Or.inl (i32_of 2 h rfl)))
  · exact Or.inr (Or.inr (Or.inr (Or.inl (i32_of 3 h rfl))))
  · exact Or.inr (Or.inr (Or.inr (Or.inr (Or.inl (i32_of 4 h rfl)))))
  · exact Or.inr (Or.inr (Or.inr (Or.inr (Or.inr (Or.inl (i32_of 5 h rfl))))))
  · exact Or.inr (Or.inr (Or.inr (Or.inr (Or.inr (Or.inr (Or.inl (i32_of 6 h rfl)))))))
  · exact Or.inr (Or.inr (Or.inr (Or.inr (Or.inr (Or.inr (Or.inr (Or.inl (i32_of 7 h rfl))))))))
  · exact Or.inr (Or.inr (Or.inr (Or.inr (Or.inr (Or.inr (Or.inr (Or.inr (Or.inl (i32_of 8 h rfl)))))))))
  · exact Or.inr (Or.inr (Or.inr (Or.inr (Or.inr (Or.inr (Or.inr (Or.inr (Or.inr (Or.inl (i32_of 9 h rfl))))))))))
  · exact Or.inr (Or.inr (Or.inr (Or.inr (Or.inr (Or.inr (Or.inr (Or.inr (Or.inr (Or.inr (Or.inl (i32_of 10 h rfl)))))))))))
  · exact Or.inr (Or.inr (Or.inr (Or.inr (Or.inr (Or.inr (Or.inr (Or.inr (Or.inr (Or.inr (Or.inr (Or.inl (i32_of 11 h rfl))))))))))))
  · exact Or.inr (Or.inr (Or.inr (Or.inr (Or.inr (Or.inr (Or.inr (Or.inr (Or.inr (Or.inr (Or.inr (Or.inr (Or.inl (i32_of 12 h rfl)))))))))))))
  · exact Or.inr (Or.inr (Or.inr (Or.inr (Or.inr (Or.inr (Or.inr (Or.inr (Or.inr (Or.inr (Or.inr (Or.inr (Or.inr (Or.inl (i32_of 13 h rfl))))))))))))))
  · exact Or.inr (Or.inr (Or.inr (Or.inr (Or.inr (Or.inr (Or.inr (Or.inr (Or.inr (Or.inr (Or.inr (Or.inr (Or.inr (Or.inr (Or.inl (i32_of 14 h rfl)))))))))))))))
  · exact Or.inr (Or.inr (Or.inr (Or.inr (Or.inr (Or.inr (Or.inr (Or.inr (Or.inr (Or.inr (Or.inr (Or.inr (Or.inr (Or.inr (Or.inr (Or.inl (i32_of 15 h rfl))))))))))))))))
  · exact Or.inr (Or.inr (Or.inr (Or.inr (Or.inr (Or.inr (Or.inr (Or.inr (Or.inr (Or.inr (Or.inr (Or.inr (Or.inr (Or.inr (Or.inr (Or.inr (Or.inl (i32_of 16 h rfl)))))))))))))))))
  · exact Or.inr (Or.inr (Or.inr (Or.inr (Or.inr (Or.inr (Or.inr (Or.inr (Or.inr (Or.inr (Or.inr (Or.inr (Or.inr (Or.inr (Or.inr (Or.inr (Or.inr (Or.inl (i32_of 17 h rfl))))))))))))))))))
  · exact Or.inr (Or.inr (Or.inr (Or.inr (Or.inr (Or.inr (Or.inr (Or.inr (Or.inr (Or.inr (Or.inr (Or.inr (Or.inr (Or.inr (Or.inr (Or.inr (Or.inr (Or.inr (Or.inl (i32_of 18 h rfl)))))))))))))))))))
  · exact Or.inr (Or.inr (Or.inr (Or.inr (Or.inr (Or.inr (Or.inr (Or.inr (Or.inr (Or.inr (Or.inr (Or.inr (Or.inr (Or.inr (Or.inr (Or.inr (Or.inr (Or.inr (Or.inr (Or.inl (i32_of 19 h rfl))))))))))))))))))))
  · exact Or.inr (Or.inr (Or.inr (Or.inr (Or.inr (Or.inr (Or.inr (Or.inr (Or.inr (Or.inr (Or.inr (Or.inr (Or.inr (Or.inr (Or.inr (Or.inr (Or.inr (Or.inr (Or.inr (Or.inr (Or.inl (i32_of 20 h rfl)))))))))))))))))))))
  · exact Or.inr (Or.inr (Or.inr (Or.inr (Or.inr (Or.inr (Or.inr (Or.inr (Or.inr (Or.inr (Or.inr (Or.inr (Or.inr (Or.inr (Or.inr (Or.inr (Or.inr (Or.inr (Or.inr (Or.inr (Or.inr (Or.inl (i32_of 21 h rfl))))))))))))))))))))))
  · exact Or.inr (Or.inr (Or.inr (Or.inr (Or.inr (Or.inr (Or.inr (Or.inr (Or.inr (Or.inr (Or.inr (Or.inr (Or.inr (Or.inr (Or.inr (Or.inr (Or.inr (Or.inr (Or.inr (Or.inr (Or.inr (Or.inr (Or.inl (i32_of 22 h rfl)))))))))))))))))))))))
  · exact Or.inr (Or.inr (Or.inr (Or.inr (Or.inr (Or.inr (Or.inr (Or.inr (Or.inr (Or.inr (Or.inr (Or.inr (Or.inr (Or.inr (Or.inr (Or.inr (Or.inr (Or.inr (Or.inr (Or.inr (Or.inr (Or.inr (Or.inr (Or.inl (i32_of 23 h rfl))))))))))))))))))))))))
  · exact Or.inr (Or.inr (Or.inr (Or.inr (Or.inr (Or.inr (Or.inr (Or.inr (Or.inr (Or.inr (Or.inr (Or.inr (Or.inr (Or.inr (Or.inr (Or.inr (Or.inr (Or.inr (Or.inr (Or.inr (Or.inr (Or.inr (Or.inr (Or.inr (Or.inl (i32_of 24 h rfl)))))))))))))))))))))))))
  · exact Or.inr (Or.inr (Or.inr (Or.inr (Or.inr (Or.inr (Or.inr (Or.inr (Or.inr (Or.inr (Or.inr (Or.inr (Or.inr (Or.inr (Or.inr (Or.inr (Or.inr (Or.inr (Or.inr (Or.inr (Or.inr (Or.inr (Or.inr (Or.inr (Or.inr (Or.inl (i32_of 25 h rfl))))))))))))))))))))))))))
  · exact Or.inr (Or.inr (Or.inr (Or.inr (Or.inr (Or.inr (Or.inr (Or.inr (Or.inr (Or.inr (Or.inr (Or.inr (Or.inr (Or.inr (Or.inr (Or.inr (Or.inr (Or.inr (Or.inr (Or.inr (Or.inr (Or.inr (Or.inr (Or.inr (Or.inr (Or.inr (Or.inl (i32_of 26 h rfl)))))))))))))))))))))))))))
  · exact Or.inr (Or.inr (Or.inr (Or.inr (Or.inr (Or.inr (Or.inr (Or.inr (Or.inr (Or.inr (Or.inr (Or.inr (Or.inr (Or.inr (Or.inr (Or.inr (Or.inr (Or.inr (Or.inr (Or.inr (Or.inr (Or.inr (Or.inr (Or.inr (Or.inr (Or.inr (Or.inr (Or.inl (i32_of 27 h rfl))))))))))))))))))))))))))))
  · exact Or.inr (Or.inr (Or.inr (Or.inr (Or.inr (Or.inr (Or.inr (Or.inr (Or.inr (Or.inr (Or.inr (Or.inr (Or.inr (Or.inr (Or.inr (Or.inr (Or.inr (Or.inr (Or.inr (Or.inr (Or.inr (Or.inr (Or.inr (Or.inr (Or.inr (Or.inr (Or.inr (Or.inr (Or.inl (i32_of 28 h rfl)))))))))))))))))))))))))))))
  · exact Or.inr (Or.inr (Or.inr (Or.inr (Or.inr (Or.inr (Or.inr (Or.inr (Or.inr (Or.inr (Or.inr (Or.inr (Or.inr (Or.inr (Or.inr (Or.inr (Or.inr (Or.inr (Or.inr (Or.inr (Or.inr (Or.inr (Or.inr (Or.inr (Or.inr (Or.inr (Or.inr (Or.inr (Or.inr (Or.inl (i32_of 29 h rfl))))))))))))))))))))))))))))))
  · exact Or.inr (Or.inr (Or.inr (Or.inr (Or.inr (Or.inr (Or.inr (Or.inr (Or.inr (Or.inr (Or.inr (Or.inr (Or.inr (Or.inr (Or.inr (Or.inr (Or.inr (Or.inr (Or.inr (Or.inr (Or.inr (Or.inr (Or.inr (Or.inr (Or.inr (Or.inr (Or.inr (Or.inr (Or.inr (Or.inr (Or.inl (i32_of 30 h rfl)))))))))))))))))))))))))))))))
  · exact Or.inr (Or.inr (Or.inr (Or.inr (Or.inr (Or.inr (Or.inr (Or.inr (Or.inr (Or.inr (Or.inr (Or.inr (Or.inr (Or.inr (Or.inr (Or.inr (Or.inr (Or.inr (Or.inr (Or.inr (Or.inr (Or.inr (Or.inr (Or.inr (Or.inr (Or.inr (Or.inr (Or.inr (Or.inr (Or.inr (Or.inr ((i32_of 31 h rfl))))))))))))))))))))))))))))))))
abbrev rmX0_init : Room := { frames := 1, cells := 0, slots := 0, locals := 40 }
abbrev rmX0_hasJoint : Room := { frames := 0, cells := 0, slots := 0, locals := 0 }
theorem mv_X0_hasJoint : mV yX0_hasJoint RX0 cX0_hasJoint 2 (some .boolean) 1 := ⟨mI_X0_hasJoint, mE_X0_hasJoint, iz_X0, mC_X0_hasJoint, by decide +kernel⟩
abbrev rmX0_add : Room := { frames := 0, cells := 0, slots := 0, locals := 0 }
theorem mv_X0_add : mV yX0_add RX0 cX0_add 2 (some .int) 1 := ⟨mI_X0_add, mE_X0_add, iz_X0, mC_X0_add, by decide +kernel⟩
abbrev rmX0_withPair : Room := { frames := 1, cells := 0, slots := 0, locals := 21 }
theorem mv_X0_withPair : mV yX0_withPair RX0 cX0_withPair 4 (some .int) 3 := ⟨mI_X0_withPair, mE_X0_withPair, iz_X0, mC_X0_withPair, by decide +kernel⟩
abbrev rmX0_leastCost : Room := { frames := 2, cells := 0, slots := 0, locals := 44 }
theorem mv_X0_leastCost : mV yX0_leastCost RX0 cX0_leastCost 6 (some .int) 1 := ⟨mI_X0_leastCost, mE_X0_leastCost, iz_X0, mC_X0_leastCost, by decide +kernel⟩
abbrev rmX0_lastFeltNotLeftOut : Room := { frames := 2, cells := 0, slots := 0, locals := 44 }
theorem mv_X0_lastFeltNotLeftOut : mV yX0_lastFeltNotLeftOut RX0 cX0_lastFeltNotLeftOut 6 (some .int) 3 := ⟨mI_X0_lastFeltNotLeftOut, mE_X0_lastFeltNotLeftOut, iz_X0, mC_X0_lastFeltNotLeftOut, by decide +kernel⟩
abbrev rmX0_pairUp : Room := { frames := 3, cells := 0, slots := 0, locals := 69 }
theorem mv_X0_pairUp : mV yX0_pairUp RX0 cX0_pairUp 4 none 1 := ⟨mI_X0_pairUp, mE_X0_pairUp, iz_X0, mC_X0_pairUp, by decide +kernel⟩
abbrev rmX0_jointPairedWith : Room := { frames := 0, cells := 0, slots := 0, locals := 0 }
theorem mv_X0_jointPairedWith : mV yX0_jointPairedWith RX0 cX0_jointPairedWith 4 (some .int) 2 := ⟨mI_X0_jointPairedWith, mE_X0_jointPairedWith, iz_X0, mC_X0_jointPairedWith, by decide +kernel⟩
abbrev rmX1_init : Room := { frames := 1, cells := 0, slots := 0, locals := 40 }
abbrev rmX1_add : Room := { frames := 0, cells := 0, slots := 0, locals := 0 }
theorem mv_X1_add : mV yX1_add RX1 cX1_add 3 (some .int) 2 := ⟨mI_X1_add, mE_X1_add, iz_X1, mC_X1_add, by decide +kernel⟩
abbrev rmX1_hasYear : Room := { frames := 0, cells := 0, slots := 0, locals := 0 }
theorem mv_X1_hasYear : mV yX1_hasYear RX1 cX1_hasYear 3 (some .boolean) 2 := ⟨mI_X1_hasYear, mE_X1_hasYear, iz_X1, mC_X1_hasYear, by decide +kernel⟩
abbrev rmX1_isEnough : Room := { frames := 1, cells := 0, slots := 0, locals := 22 }
theorem mv_X1_isEnough : mV yX1_isEnough RX1 cX1_isEnough 5 (some .boolean) 1 := ⟨mI_X1_isEnough, mE_X1_isEnough, iz_X1, mC_X1_isEnough, by decide +kernel⟩
abbrev rmJ6_bitCount_0f7a4 : Room := { frames := 0, cells := 0, slots := 0, locals := 0 }
theorem ms_J6_bitCount_0f7a4 : mS yJ6_bitCount_0f7a4 cJ6_bitCount_0f7a4 1 (some .int) 1 := ⟨mS_J6_bitCount_0f7a4, iz_J6, mC_J6_bitCount_0f7a4, by decide +kernel⟩
abbrev rmX1_costOf : Room := { frames := 1, cells := 0, slots := 0, locals := 20 }
theorem mv_X1_costOf : mV yX1_costOf RX1 cX1_costOf 2 (some .int) 1 := ⟨mI_X1_costOf, mE_X1_costOf, iz_X1, mC_X1_costOf, by decide +kernel⟩
abbrev rmX1_bestYears : Room := { frames := 2, cells := 0, slots := 0, locals := 46 }
theorem mv_X1_bestYears : mV yX1_bestYears RX1 cX1_bestYears 3 (some .int) 0 := ⟨mI_X1_bestYears, mE_X1_bestYears, iz_X1, mC_X1_bestYears, by decide +kernel⟩
abbrev rmX1_worksAheadOf : Room := { frames := 0, cells := 0, slots := 0, locals := 0 }
theorem mv_X1_worksAheadOf : mV yX1_worksAheadOf RX1 cX1_worksAheadOf 4 (some .int) 1 := ⟨mI_X1_worksAheadOf, mE_X1_worksAheadOf, iz_X1, mC_X1_worksAheadOf, by decide +kernel⟩
abbrev rmX1_yearOf : Room := { frames := 1, cells := 0, slots := 0, locals := 23 }
theorem mv_X1_yearOf : mV yX1_yearOf RX1 cX1_yearOf 5 (some .int) 2 := ⟨mI_X1_yearOf, mE_X1_yearOf, iz_X1, mC_X1_yearOf, by decide +kernel⟩
abbrev rmX2_init : Room := { frames := 1, cells := 0, slots := 0, locals := 40 }
abbrev rmX6_feltAt : Room := { frames := 0, cells := 0, slots := 0, locals := 0 }
theorem mv_X6_feltAt : mV yX6_feltAt RX6 cX6_feltAt 3 (some .int) 1 := ⟨mI_X6_feltAt, mE_X6_feltAt, iz_X6, mC_X6_feltAt, by decide +kernel⟩
abbrev rmX2_gather : Room := { frames := 1, cells := 0, slots := 0, locals := 22 }
theorem mv_X2_gather : mV yX2_gather RX2 cX2_gather 4 none 2 := ⟨mI_X2_gather, mE_X2_gather, iz_X2, mC_X2_gather, by decide +kernel⟩
abbrev rmX3_init : Room := { frames := 1, cells := 0, slots := 0, locals := 40 }
abbrev rmX3_hasMark : Room := { frames := 0, cells := 0, slots := 0, locals := 0 }
theorem mv_X3_hasMark : mV yX3_hasMark RX3 cX3_hasMark 2 (some .boolean) 1 := ⟨mI_X3_hasMark, mE_X3_hasMark, iz_X3, mC_X3_hasMark, by decide +kernel⟩
abbrev rmX3_add : Room := { frames := 0, cells := 0, slots := 0, locals := 0 }
theorem mv_X3_add : mV yX3_add RX3 cX3_add 5 (some .int) 4 := ⟨mI_X3_add, mE_X3_add, iz_X3, mC_X3_add, by decide +kernel⟩
abbrev rmX3_fact : Room := { frames := 0, cells := 0, slots := 0, locals := 0 }
theorem mv_X3_fact : mV yX3_fact RX3 cX3_fact 3 (some .int) 2 := ⟨mI_X3_fact, mE_X3_fact, iz_X3, mC_X3_fact, by decide +kernel⟩
abbrev rmX3_endOf : Room := { frames := 0, cells := 0, slots := 0, locals := 0 }
theorem mv_X3_endOf : mV yX3_endOf RX3 cX3_endOf 2 (some .int) 1 := ⟨mI_X3_endOf, mE_X3_endOf, iz_X3, mC_X3_endOf, by decide +kernel⟩
abbrev rmX9_hoursApart : Room := { frames := 1, cells := 0, slots := 0, locals := 21 }
theorem ms_X9_hoursApart : mS yX9_hoursApart cX9_hoursApart 3 (some .int) 2 := ⟨mS_X9_hoursApart, iz_X9, mC_X9_hoursApart, by decide +kernel⟩
abbrev rmX3_areNear : Room := { frames := 2, cells := 0, slots := 0, locals := 43 }
theorem mv_X3_areNear : mV yX3_areNear RX3 cX3_areNear 6 (some .boolean) 4 := ⟨mI_X3_areNear, mE_X3_areNear, iz_X3, mC_X3_areNear, by decide +kernel⟩
abbrev rmX3_spread : Room := { frames := 3, cells := 0, slots := 0, locals := 68 }
theorem mv_X3_spread : mV yX3_spread RX3 cX3_spread 7 none 3 := ⟨mI_X3_spread, mE_X3_spread, iz_X3, mC_X3_spread, by decide +kernel⟩
abbrev rmX3_putTogether : Room := { frames := 4, cells := 0, slots := 0, locals := 94 }
theorem mv_X3_putTogether : mV yX3_putTogether RX3 cX3_putTogether 4 none 2 := ⟨mI_X3_putTogether, mE_X3_putTogether, iz_X3, mC_X3_putTogether, by decide +kernel⟩
abbrev rmX3_groupFact : Room := { frames := 1, cells := 0, slots := 0, locals := 21 }
theorem mv_X3_groupFact : mV yX3_groupFact RX3 cX3_groupFact 9 (some .int) 2 := ⟨mI_X3_groupFact, mE_X3_groupFact, iz_X3, mC_X3_groupFact, by decide +kernel⟩
abbrev rmX4_init : Room := { frames := 2, cells := 0, slots := 0, locals := 60 }
abbrev rmX4_withPair : Room := { frames := 2, cells := 0, slots := 0, locals := 43 }
theorem mv_X4_withPair : mV yX4_withPair RX4 cX4_withPair 5 (some .int) 3 := ⟨mI_X4_withPair, mE_X4_withPair, iz_X4, mC_X4_withPair, by decide +kernel⟩
abbrev rmX4_leastFrom : Room := { frames := 3, cells := 0, slots := 0, locals := 67 }
theorem mv_X4_leastFrom : mV yX4_leastFrom RX4 cX4_leastFrom 5 (some .int) 2 := ⟨mI_X4_leastFrom, mE_X4_leastFrom, iz_X4, mC_X4_leastFrom, by decide +kernel⟩
abbrev rmX4_leastCost : Room := { frames := 4, cells := 0, slots := 0, locals := 91 }
theorem mv_X4_leastCost : mV yX4_leastCost RX4 cX4_leastCost 8 (some .int) 4 := ⟨mI_X4_leastCost, mE_X4_leastCost, iz_X4, mC_X4_leastCost, by decide +kernel⟩
abbrev rmX4_choiceAt : Room := { frames := 3, cells := 0, slots := 0, locals := 67 }
theorem mv_X4_choiceAt : mV yX4_choiceAt RX4 cX4_choiceAt 4 (some .int) 2 := ⟨mI_X4_choiceAt, mE_X4_choiceAt, iz_X4, mC_X4_choiceAt, by decide +kernel⟩
abbrev rmX4_otherOf : Room := { frames := 4, cells := 0, slots := 0, locals := 90 }
theorem mv_X4_otherOf : mV yX4_otherOf RX4 cX4_otherOf 5 (some .int) 1 := ⟨mI_X4_otherOf, mE_X4_otherOf, iz_X4, mC_X4_otherOf, by decide +kernel⟩
abbrev rmX5_init : Room := { frames := 1, cells := 0, slots := 0, locals := 40 }
abbrev rmX5_isLost : Room := { frames := 0, cells := 0, slots := 0, locals := 0 }
theorem mv_X5_isLost : mV yX5_isLost RX5 cX5_isLost 1 (some .boolean) 0 := ⟨mI_X5_isLost, mE_X5_isLost, iz_X5, mC_X5_isLost, by decide +kernel⟩
abbrev rmX5_begin : Room := { frames := 1, cells := 0, slots := 0, locals := 21 }
theorem mv_X5_begin : mV yX5_begin RX5 cX5_begin 4 none 2 := ⟨mI_X5_begin, mE_X5_begin, iz_X5, mC_X5_begin, by decide +kernel⟩
abbrev rmX5_drop : Room := { frames := 0, cells := 0, slots := 0, locals := 0 }
theorem mv_X5_drop : mV yX5_drop RX5 cX5_drop 1 none 0 := ⟨mI_X5_drop, mE_X5_drop, iz_X5, mC_X5_drop, by decide +kernel⟩
abbrev rmX5_hasItem : Room := { frames := 0, cells := 0, slots := 0, locals := 0 }
theorem mv_X5_hasItem : mV yX5_hasItem RX5 cX5_hasItem 2 (some .boolean) 1 := ⟨mI_X5_hasItem, mE_X5_hasItem, iz_X5, mC_X5_hasItem, by decide +kernel⟩
abbrev rmX5_hasItems : Room := { frames := 0, cells := 0, slots := 0, locals := 0 }
theorem mv_X5_hasItems : mV yX5_hasItems RX5 cX5_hasItems 3 (some .boolean) 2 := ⟨mI_X5_hasItems, mE_X5_hasItems, iz_X5, mC_X5_hasItems, by decide +kernel⟩
abbrev rmX5_faultOf : Room := { frames := 1, cells := 0, slots := 0, locals := 21 }
theorem mv_X5_faultOf : mV yX5_faultOf RX5 cX5_faultOf 3 (some .int) 2 := ⟨mI_X5_faultOf, mE_X5_faultOf, iz_X5, mC_X5_faultOf, by decide +kernel⟩
abbrev rmX5_store : Room := { frames := 1, cells := 0, slots := 0, locals := 21 }
theorem mv_X5_store : mV yX5_store RX5 cX5_store 3 none 2 := ⟨mI_X5_store, mE_X5_store, iz_X5, mC_X5_store, by decide +kernel⟩
abbrev rmX9_isWithin : Room := { frames := 0, cells := 0, slots := 0, locals := 0 }
theorem ms_X9_isWithin : mS yX9_isWithin cX9_isWithin 3 (some .boolean) 3 := ⟨mS_X9_isWithin, iz_X9, mC_X9_isWithin, by decide +kernel⟩
abbrev rmX5_readingAt : Room := { frames := 1, cells := 0, slots := 0, locals := 22 }
theorem mv_X5_readingAt : mV yX5_readingAt RX5 cX5_readingAt 2 (some .int) 1 := ⟨mI_X5_readingAt, mE_X5_readingAt, iz_X5, mC_X5_readingAt, by decide +kernel⟩
abbrev rmX5_hasWeldAt : Room := { frames := 1, cells := 0, slots := 0, locals := 21 }
theorem mv_X5_hasWeldAt : mV yX5_hasWeldAt RX5 cX5_hasWeldAt 2 (some .boolean) 1 := ⟨mI_X5_hasWeldAt, mE_X5_hasWeldAt, iz_X5, mC_X5_hasWeldAt, by decide +kernel⟩
abbrev rmX6_init : Room := { frames := 2, cells := 0, slots := 0, locals := 60 }
abbrev rmX6_reelAt : Room := { frames := 0, cells := 0, slots := 0, locals := 0 }
theorem mv_X6_reelAt : mV yX6_reelAt RX6 cX6_reelAt 2 (some (.object "PigLine$Reel")) 1 := ⟨mI_X6_reelAt, mE_X6_reelAt, iz_X6, mC_X6_reelAt, by decide +kernel⟩
abbrev rmX6_readingsTogether : Room := { frames := 2, cells := 0, slots := 0, locals := 43 }
theorem mv_X6_readingsTogether : mV yX6_readingsTogether RX6 cX6_readingsTogether 7 (some .int) 1 := ⟨mI_X6_readingsTogether, mE_X6_readingsTogether, iz_X6, mC_X6_readingsTogether, by decide +kernel⟩
abbrev rmX6_feel : Room := { frames := 3, cells := 0, slots := 0, locals := 69 }
theorem mv_X6_feel : mV yX6_feel RX6 cX6_feel 6 none 0 := ⟨mI_X6_feel, mE_X6_feel, iz_X6, mC_X6_feel, by decide +kernel⟩
abbrev rmX6_fact : Room := { frames := 0, cells := 0, slots := 0, locals := 0 }
theorem mv_X6_fact : mV yX6_fact RX6 cX6_fact 2 (some .int) 1 := ⟨mI_X6_fact, mE_X6_fact, iz_X6, mC_X6_fact, by decide +kernel⟩
abbrev rmX6_markFact : Room := { frames := 1, cells := 0, slots := 0, locals := 22 }
theorem mv_X6_markFact : mV yX6_markFact RX6 cX6_markFact 3 (some .int) 2 := ⟨mI_X6_markFact, mE_X6_markFact, iz_X6, mC_X6_markFact, by decide +kernel⟩
abbrev rmX7_init : Room := { frames := 1, cells := 0, slots := 0, locals := 40 }
abbrev rmX7_leastTruly : Room := { frames := 1, cells := 0, slots := 0, locals := 21 }
theorem mv_X7_leastTruly : mV yX7_leastTruly RX7 cX7_leastTruly 2 (some .int) 1 := ⟨mI_X7_leastTruly, mE_X7_leastTruly, iz_X7, mC_X7_leastTruly, by decide +kernel⟩
abbrev rmX7_mostTruly : Room := { frames := 1, cells := 0, slots := 0, locals := 21 }
theorem mv_X7_mostTruly : mV yX7_mostTruly RX7 cX7_mostTruly 2 (some .int) 1 := ⟨mI_X7_mostTruly, mE_X7_mostTruly, iz_X7, mC_X7_mostTruly, by decide +kernel⟩
abbrev rmX7_lastYear : Room := { frames := 0, cells := 0, slots := 0, locals := 0 }
theorem mv_X7_lastYear : mV yX7_lastYear RX7 cX7_lastYear 4 (some .int) 2 := ⟨mI_X7_lastYear, mE_X7_lastYear, iz_X7, mC_X7_lastYear, by decide +kernel⟩
abbrev rmX7_fact : Room := { frames := 2, cells := 0, slots := 0, locals := 42 }
theorem mv_X7_fact : mV yX7_fact RX7 cX7_fact 5 (some .int) 3 := ⟨mI_X7_fact, mE_X7_fact, iz_X7, mC_X7_fact, by decide +kernel⟩
abbrev rmX8_init : Room := { frames := 1, cells := 0, slots := 0, locals := 40 }
abbrev rmX8_isOpen : Room := { frames := 0, cells := 0, slots := 0, locals := 0 }
theorem mv_X8_isOpen : mV yX8_isOpen RX8 cX8_isOpen 2 (some .boolean) 1 := ⟨mI_X8_isOpen, mE_X8_isOpen, iz_X8, mC_X8_isOpen, by decide +kernel⟩
abbrev rmX8_mayOpen : Room := { frames := 1, cells := 0, slots := 0, locals := 21 }
theorem mv_X8_mayOpen : mV yX8_mayOpen RX8 cX8_mayOpen 2 (some .boolean) 1 := ⟨mI_X8_mayOpen, mE_X8_mayOpen, iz_X8, mC_X8_mayOpen, by decide +kernel⟩
abbrev rmX8_open : Room := { frames := 0, cells := 0, slots := 0, locals := 0 }
theorem mv_X8_open : mV yX8_open RX8 cX8_open 2 none 1 := ⟨mI_X8_open, mE_X8_open, iz_X8, mC_X8_open, by decide +kernel⟩
abbrev rmX8_shut : Room := { frames := 0, cells := 0, slots := 0, locals := 0 }
theorem mv_X8_shut : mV yX8_shut RX8 cX8_shut 2 none 1 := ⟨mI_X8_shut, mE_X8_shut, iz_X8, mC_X8_shut, by decide +kernel⟩
abbrev rmX9_init : Room := { frames := 3, cells := 0, slots := 0, locals := 80 }
abbrev rmX9_runAt : Room := { frames := 0, cells := 0, slots := 0, locals := 0 }
theorem mv_X9_runAt : mV yX9_runAt RX9 cX9_runAt 2 (some (.object "PigLine$Run")) 1 := ⟨mI_X9_runAt, mE_X9_runAt, iz_X9, mC_X9_runAt, by decide +kernel⟩
abbrev rmX9_reelAt : Room := { frames := 1, cells := 0, slots := 0, locals := 21 }
theorem mv_X9_reelAt : mV yX9_reelAt RX9 cX9_reelAt 3 (some (.object "PigLine$Reel")) 1 := ⟨mI_X9_reelAt, mE_X9_reelAt, iz_X9, mC_X9_reelAt, by decide +kernel⟩
abbrev rmX9_isForm : Room := { frames := 1, cells := 0, slots := 0, locals := 22 }
theorem ms_X9_isForm : mS yX9_isForm cX9_isForm 1 (some .boolean) 1 := ⟨mS_X9_isForm, iz_X9, mC_X9_isForm, by decide +kernel⟩
abbrev rmX9_found : Room := { frames := 0, cells := 0, slots := 0, locals := 0 }
theorem mv_X9_found : mV yX9_found RX9 cX9_found 2 (some .int) 1 := ⟨mI_X9_found, mE_X9_found, iz_X9, mC_X9_found, by decide +kernel⟩
abbrev rmX9_reel : Room := { frames := 2, cells := 0, slots := 0, locals := 44 }
theorem mv_X9_reel : mV yX9_reel RX9 cX9_reel 5 (some .int) 3 := ⟨mI_X9_reel, mE_X9_reel, iz_X9, mC_X9_reel, by decide +kernel⟩
abbrev rmX9_lose : Room := { frames := 2, cells := 0, slots := 0, locals := 43 }
theorem mv_X9_lose : mV yX9_lose RX9 cX9_lose 4 (some .int) 1 := ⟨mI_X9_lose, mE_X9_lose, iz_X9, mC_X9_lose, by decide +kernel⟩
abbrev rmX9_put : Room := { frames := 2, cells := 0, slots := 0, locals := 43 }
theorem mv_X9_put : mV yX9_put RX9 cX9_put 7 (some .int) 4 := ⟨mI_X9_put, mE_X9_put, iz_X9, mC_X9_put, by decide +kernel⟩
abbrev rmX9_get : Room := { frames := 2, cells := 0, slots := 0, locals := 43 }
theorem mv_X9_get : mV yX9_get RX9 cX9_get 6 (some .int) 3 := ⟨mI_X9_get, mE_X9_get, iz_X9, mC_X9_get, by decide +kernel⟩
abbrev rmX9_copy : Room := { frames := 2, cells := 0, slots := 0, locals := 43 }
theorem mv_X9_copy : mV yX9_copy RX9 cX9_copy 8 (some .int) 5 := ⟨mI_X9_copy, mE_X9_copy, iz_X9, mC_X9_copy, by decide +kernel⟩
abbrev rmX9_run : Room := { frames := 4, cells := 0, slots := 0, locals := 94 }
theorem mv_X9_run : mV yX9_run RX9 cX9_run 4 (some .int) 2 := ⟨mI_X9_run, mE_X9_run, iz_X9, mC_X9_run, by decide +kernel⟩
abbrev rmX9_way : Room := { frames := 4, cells := 0, slots := 0, locals := 94 }
theorem mv_X9_way : mV yX9_way RX9 cX9_way 4 (some .int) 2 := ⟨mI_X9_way, mE_X9_way, iz_X9, mC_X9_way, by decide +kernel⟩
abbrev rmX9_felt : Room := { frames := 4, cells := 0, slots := 0, locals := 94 }
theorem mv_X9_felt : mV yX9_felt RX9 cX9_felt 5 (some .int) 3 := ⟨mI_X9_felt, mE_X9_felt, iz_X9, mC_X9_felt, by decide +kernel⟩
abbrev rmX9_joint : Room := { frames := 1, cells := 0, slots := 0, locals := 22 }
theorem mv_X9_joint : mV yX9_joint RX9 cX9_joint 2 (some .int) 1 := ⟨mI_X9_joint, mE_X9_joint, iz_X9, mC_X9_joint, by decide +kernel⟩
abbrev rmX9_wipe : Room := { frames := 0, cells := 0, slots := 0, locals := 0 }
theorem mv_X9_wipe : mV yX9_wipe RX9 cX9_wipe 2 (some .int) 0 := ⟨mI_X9_wipe, mE_X9_wipe, iz_X9, mC_X9_wipe, by decide +kernel⟩
abbrev rmX9_costs : Room := { frames := 1, cells := 0, slots := 0, locals := 22 }
theorem mv_X9_costs : mV yX9_costs RX9 cX9_costs 3 (some .int) 2 := ⟨mI_X9_costs, mE_X9_costs, iz_X9, mC_X9_costs, by decide +kernel⟩
abbrev rmX9_match : Room := { frames := 4, cells := 0, slots := 0, locals := 94 }
theorem mv_X9_match : mV yX9_match RX9 cX9_match 3 (some .int) 1 := ⟨mI_X9_match, mE_X9_match, iz_X9, mC_X9_match, by decide +kernel⟩
abbrev rmX9_paired : Room := { frames := 4, cells := 0, slots := 0, locals := 94 }
theorem mv_X9_paired : mV yX9_paired RX9 cX9_paired 4 (some .int) 2 := ⟨mI_X9_paired, mE_X9_paired, iz_X9, mC_X9_paired, by decide +kernel⟩
abbrev rmX9_mark : Room := { frames := 1, cells := 0, slots := 0, locals := 24 }
theorem mv_X9_mark : mV yX9_mark RX9 cX9_mark 7 (some .int) 5 := ⟨mI_X9_mark, mE_X9_mark, iz_X9, mC_X9_mark, by decide +kernel⟩
abbrev rmX9_clear : Room := { frames := 1, cells := 0, slots := 0, locals := 21 }
theorem mv_X9_clear : mV yX9_clear RX9 cX9_clear 4 (some .int) 1 := ⟨mI_X9_clear, mE_X9_clear, iz_X9, mC_X9_clear, by decide +kernel⟩
abbrev rmX9_about : Room := { frames := 5, cells := 0, slots := 0, locals := 117 }
theorem mv_X9_about : mV yX9_about RX9 cX9_about 5 (some .int) 3 := ⟨mI_X9_about, mE_X9_about, iz_X9, mC_X9_about, by decide +kernel⟩
abbrev rmX9_near : Room := { frames := 1, cells := 0, slots := 0, locals := 22 }
theorem mv_X9_near : mV yX9_near RX9 cX9_near 3 (some .int) 2 := ⟨mI_X9_near, mE_X9_near, iz_X9, mC_X9_near, by decide +kernel⟩
abbrev rmX9_groups : Room := { frames := 5, cells := 0, slots := 0, locals := 117 }
theorem mv_X9_groups : mV yX9_groups RX9 cX9_groups 3 (some .int) 1 := ⟨mI_X9_groups, mE_X9_groups, iz_X9, mC_X9_groups, by decide +kernel⟩
abbrev rmX9_group : Room := { frames := 5, cells := 0, slots := 0, locals := 117 }
theorem mv_X9_group : mV yX9_group RX9 cX9_group 5 (some .int) 3 := ⟨mI_X9_group, mE_X9_group, iz_X9, mC_X9_group, by decide +kernel⟩
abbrev rmX9_alone : Room := { frames := 1, cells := 0, slots := 0, locals := 22 }
theorem mv_X9_alone : mV yX9_alone RX9 cX9_alone 3 (some .int) 1 := ⟨mI_X9_alone, mE_X9_alone, iz_X9, mC_X9_alone, by decide +kernel⟩
abbrev rmX9_matchBothRuns : Room := { frames := 4, cells := 0, slots := 0, locals := 94 }
theorem mv_X9_matchBothRuns : mV yX9_matchBothRuns RX9 cX9_matchBothRuns 1 none 0 := ⟨mI_X9_matchBothRuns, mE_X9_matchBothRuns, iz_X9, mC_X9_matchBothRuns, by decide +kernel⟩
abbrev rmX9_pairing : Room := { frames := 5, cells := 0, slots := 0, locals := 118 }
theorem mv_X9_pairing : mV yX9_pairing RX9 cX9_pairing 2 (some .int) 1 := ⟨mI_X9_pairing, mE_X9_pairing, iz_X9, mC_X9_pairing, by decide +kernel⟩
abbrev rmX9_twinOf : Room := { frames := 5, cells := 0, slots := 0, locals := 118 }
theorem mv_X9_twinOf : mV yX9_twinOf RX9 cX9_twinOf 3 (some .int) 1 := ⟨mI_X9_twinOf, mE_X9_twinOf, iz_X9, mC_X9_twinOf, by decide +kernel⟩
abbrev rmX9_twin : Room := { frames := 6, cells := 0, slots := 0, locals := 140 }
theorem mv_X9_twin : mV yX9_twin RX9 cX9_twin 2 (some .int) 1 := ⟨mI_X9_twin, mE_X9_twin, iz_X9, mC_X9_twin, by decide +kernel⟩
abbrev rmX9_tool : Room := { frames := 1, cells := 0, slots := 0, locals := 22 }
theorem mv_X9_tool : mV yX9_tool RX9 cX9_tool 4 (some .int) 3 := ⟨mI_X9_tool, mE_X9_tool, iz_X9, mC_X9_tool, by decide +kernel⟩
abbrev rmX9_growth : Room := { frames := 6, cells := 0, slots := 0, locals := 140 }
theorem mv_X9_growth : mV yX9_growth RX9 cX9_growth 4 (some .int) 2 := ⟨mI_X9_growth, mE_X9_growth, iz_X9, mC_X9_growth, by decide +kernel⟩
abbrev rmX9_work : Room := { frames := 1, cells := 0, slots := 0, locals := 22 }
theorem mv_X9_work : mV yX9_work RX9 cX9_work 3 (some .int) 2 := ⟨mI_X9_work, mE_X9_work, iz_X9, mC_X9_work, by decide +kernel⟩
abbrev rmX9_yearly : Room := { frames := 1, cells := 0, slots := 0, locals := 22 }
theorem mv_X9_yearly : mV yX9_yearly RX9 cX9_yearly 3 (some .int) 2 := ⟨mI_X9_yearly, mE_X9_yearly, iz_X9, mC_X9_yearly, by decide +kernel⟩
abbrev rmX9_plan : Room := { frames := 3, cells := 0, slots := 0, locals := 68 }
theorem mv_X9_plan : mV yX9_plan RX9 cX9_plan 2 (some .int) 0 := ⟨mI_X9_plan, mE_X9_plan, iz_X9, mC_X9_plan, by decide +kernel⟩
abbrev rmX9_years : Room := { frames := 3, cells := 0, slots := 0, locals := 68 }
theorem mv_X9_years : mV yX9_years RX9 cX9_years 2 (some .int) 0 := ⟨mI_X9_years, mE_X9_years, iz_X9, mC_X9_years, by decide +kernel⟩
abbrev rmX9_when : Room := { frames := 3, cells := 0, slots := 0, locals := 68 }
theorem mv_X9_when : mV yX9_when RX9 cX9_when 3 (some .int) 1 := ⟨mI_X9_when, mE_X9_when, iz_X9, mC_X9_when, by decide +kernel⟩
abbrev rmX9_trap : Room := { frames := 2, cells := 0, slots := 0, locals := 42 }
theorem mv_X9_trap : mV yX9_trap RX9 cX9_trap 3 (some .int) 2 := ⟨mI_X9_trap, mE_X9_trap, iz_X9, mC_X9_trap, by decide +kernel⟩
abbrev rmX9_count : Room := { frames := 0, cells := 0, slots := 0, locals := 0 }
theorem mv_X9_count : mV yX9_count RX9 cX9_count 2 (some .int) 1 := ⟨mI_X9_count, mE_X9_count, iz_X9, mC_X9_count, by decide +kernel⟩
abbrev rmX9_digestOfRun : Room := { frames := 5, cells := 0, slots := 0, locals := 117 }
theorem mv_X9_digestOfRun : mV yX9_digestOfRun RX9 cX9_digestOfRun 8 (some .long) 2 := ⟨mI_X9_digestOfRun, mE_X9_digestOfRun, iz_X9, mC_X9_digestOfRun, by decide +kernel⟩
abbrev rmX9_digest : Room := { frames := 6, cells := 0, slots := 0, locals := 144 }
theorem mv_X9_digest : mV yX9_digest RX9 cX9_digest 4 (some .long) 0 := ⟨mI_X9_digest, mE_X9_digest, iz_X9, mC_X9_digest, by decide +kernel⟩
abbrev rmX10_init : Room := { frames := 1, cells := 0, slots := 0, locals := 40 }
abbrev rmX10_in : Room := { frames := 0, cells := 0, slots := 0, locals := 0 }
theorem ms_X10_in : mS yX10_in cX10_in 3 (some .boolean) 3 := ⟨mS_X10_in, iz_X10, mC_X10_in, by decide +kernel⟩
abbrev rmX10_meets : Room := { frames := 0, cells := 0, slots := 0, locals := 0 }
theorem mv_X10_meets : mV yX10_meets RX10 cX10_meets 2 (some .int) 1 := ⟨mI_X10_meets, mE_X10_meets, iz_X10, mC_X10_meets, by decide +kernel⟩
abbrev rmX10_isReel : Room := { frames := 1, cells := 0, slots := 0, locals := 22 }
theorem ms_X10_isReel : mS yX10_isReel cX10_isReel 1 (some .boolean) 1 := ⟨mS_X10_isReel, iz_X10, mC_X10_isReel, by decide +kernel⟩
abbrev rmX10_reel : Room := { frames := 2, cells := 0, slots := 0, locals := 42 }
theorem mv_X10_reel : mV yX10_reel RX10 cX10_reel 5 (some .int) 3 := ⟨mI_X10_reel, mE_X10_reel, iz_X10, mC_X10_reel, by decide +kernel⟩
abbrev rmX10_lose : Room := { frames := 2, cells := 0, slots := 0, locals := 42 }
theorem mv_X10_lose : mV yX10_lose RX10 cX10_lose 2 (some .int) 1 := ⟨mI_X10_lose, mE_X10_lose, iz_X10, mC_X10_lose, by decide +kernel⟩
abbrev rmX10_lacks : Room := { frames := 1, cells := 0, slots := 0, locals := 22 }
theorem mv_X10_lacks : mV yX10_lacks RX10 cX10_lacks 4 (some .int) 3 := ⟨mI_X10_lacks, mE_X10_lacks, iz_X10, mC_X10_lacks, by decide +kernel⟩
abbrev rmX10_put : Room := { frames := 2, cells := 0, slots := 0, locals := 45 }
theorem mv_X10_put : mV yX10_put RX10 cX10_put 6 (some .int) 4 := ⟨mI_X10_put, mE_X10_put, iz_X10, mC_X10_put, by decide +kernel⟩
abbrev rmX10_get : Room := { frames := 2, cells := 0, slots := 0, locals := 45 }
theorem mv_X10_get : mV yX10_get RX10 cX10_get 5 (some .int) 3 := ⟨mI_X10_get, mE_X10_get, iz_X10, mC_X10_get, by decide +kernel⟩
abbrev rmX10_copy : Room := { frames := 2, cells := 0, slots := 0, locals := 42 }
theorem mv_X10_copy : mV yX10_copy RX10 cX10_copy 7 (some .int) 5 := ⟨mI_X10_copy, mE_X10_copy, iz_X10, mC_X10_copy, by decide +kernel⟩
abbrev rmX10_isRun : Room := { frames := 1, cells := 0, slots := 0, locals := 22 }
theorem ms_X10_isRun : mS yX10_isRun cX10_isRun 1 (some .boolean) 1 := ⟨mS_X10_isRun, iz_X10, mC_X10_isRun, by decide +kernel⟩
abbrev rmX10_reading : Room := { frames := 1, cells := 0, slots := 0, locals := 22 }
theorem mv_X10_reading : mV yX10_reading RX10 cX10_reading 4 (some .int) 2 := ⟨mI_X10_reading, mE_X10_reading, iz_X10, mC_X10_reading, by decide +kernel⟩
abbrev rmX10_middle : Room := { frames := 0, cells := 0, slots := 0, locals := 0 }
theorem ms_X10_middle : mS yX10_middle cX10_middle 5 (some .int) 3 := ⟨mS_X10_middle, iz_X10, mC_X10_middle, by decide +kernel⟩
abbrev rmX10_goThrough : Room := { frames := 2, cells := 0, slots := 0, locals := 45 }
theorem mv_X10_goThrough : mV yX10_goThrough RX10 cX10_goThrough 9 none 1 := ⟨mI_X10_goThrough, mE_X10_goThrough, iz_X10, mC_X10_goThrough, by decide +kernel⟩
abbrev rmX10_run : Room := { frames := 3, cells := 0, slots := 0, locals := 73 }
theorem mv_X10_run : mV yX10_run RX10 cX10_run 3 (some .int) 2 := ⟨mI_X10_run, mE_X10_run, iz_X10, mC_X10_run, by decide +kernel⟩
abbrev rmX10_way : Room := { frames := 3, cells := 0, slots := 0, locals := 73 }
theorem mv_X10_way : mV yX10_way RX10 cX10_way 3 (some .int) 2 := ⟨mI_X10_way, mE_X10_way, iz_X10, mC_X10_way, by decide +kernel⟩
abbrev rmX10_felt : Room := { frames := 3, cells := 0, slots := 0, locals := 73 }
theorem mv_X10_felt : mV yX10_felt RX10 cX10_felt 4 (some .int) 3 := ⟨mI_X10_felt, mE_X10_felt, iz_X10, mC_X10_felt, by decide +kernel⟩
abbrev rmX10_joint : Room := { frames := 1, cells := 0, slots := 0, locals := 22 }
theorem mv_X10_joint : mV yX10_joint RX10 cX10_joint 2 (some .int) 1 := ⟨mI_X10_joint, mE_X10_joint, iz_X10, mC_X10_joint, by decide +kernel⟩
abbrev rmX10_wipe : Room := { frames := 0, cells := 0, slots := 0, locals := 0 }
theorem mv_X10_wipe : mV yX10_wipe RX10 cX10_wipe 2 (some .int) 0 := ⟨mI_X10_wipe, mE_X10_wipe, iz_X10, mC_X10_wipe, by decide +kernel⟩
abbrev rmX10_costs : Room := { frames := 1, cells := 0, slots := 0, locals := 22 }
theorem mv_X10_costs : mV yX10_costs RX10 cX10_costs 3 (some .int) 2 := ⟨mI_X10_costs, mE_X10_costs, iz_X10, mC_X10_costs, by decide +kernel⟩
abbrev rmX10_apart : Room := { frames := 0, cells := 0, slots := 0, locals := 0 }
theorem ms_X10_apart : mS yX10_apart cX10_apart 2 (some .int) 2 := ⟨mS_X10_apart, iz_X10, mC_X10_apart, by decide +kernel⟩
abbrev rmX10_pairCost : Room := { frames := 1, cells := 0, slots := 0, locals := 21 }
theorem mv_X10_pairCost : mV yX10_pairCost RX10 cX10_pairCost 3 (some .int) 2 := ⟨mI_X10_pairCost, mE_X10_pairCost, iz_X10, mC_X10_pairCost, by decide +kernel⟩
abbrev rmX10_matches : Room := { frames := 3, cells := 0, slots := 0, locals := 73 }
theorem mv_X10_matches : mV yX10_matches RX10 cX10_matches 5 none 1 := ⟨mI_X10_matches, mE_X10_matches, iz_X10, mC_X10_matches, by decide +kernel⟩
abbrev rmX10_match : Room := { frames := 4, cells := 0, slots := 0, locals := 97 }
theorem mv_X10_match : mV yX10_match RX10 cX10_match 2 (some .int) 1 := ⟨mI_X10_match, mE_X10_match, iz_X10, mC_X10_match, by decide +kernel⟩
abbrev rmX10_paired : Room := { frames := 4, cells := 0, slots := 0, locals := 97 }
theorem mv_X10_paired : mV yX10_paired RX10 cX10_paired 3 (some .int) 2 := ⟨mI_X10_paired, mE_X10_paired, iz_X10, mC_X10_paired, by decide +kernel⟩
abbrev rmX10_isMark : Room := { frames := 2, cells := 0, slots := 0, locals := 42 }
theorem mv_X10_isMark : mV yX10_isMark RX10 cX10_isMark 3 (some .boolean) 2 := ⟨mI_X10_isMark, mE_X10_isMark, iz_X10, mC_X10_isMark, by decide +kernel⟩
abbrev rmX10_mark : Room := { frames := 2, cells := 0, slots := 0, locals := 42 }
theorem mv_X10_mark : mV yX10_mark RX10 cX10_mark 7 (some .int) 5 := ⟨mI_X10_mark, mE_X10_mark, iz_X10, mC_X10_mark, by decide +kernel⟩
abbrev rmX10_clear : Room := { frames := 2, cells := 0, slots := 0, locals := 42 }
theorem mv_X10_clear : mV yX10_clear RX10 cX10_clear 3 (some .int) 1 := ⟨mI_X10_clear, mE_X10_clear, iz_X10, mC_X10_clear, by decide +kernel⟩
abbrev rmX10_jointAt : Room := { frames := 1, cells := 0, slots := 0, locals := 22 }
theorem mv_X10_jointAt : mV yX10_jointAt RX10 cX10_jointAt 3 (some .int) 1 := ⟨mI_X10_jointAt, mE_X10_jointAt, iz_X10, mC_X10_jointAt, by decide +kernel⟩
abbrev rmX10_hours : Room := { frames := 1, cells := 0, slots := 0, locals := 21 }
theorem ms_X10_hours : mS yX10_hours cX10_hours 3 (some .int) 2 := ⟨mS_X10_hours, iz_X10, mC_X10_hours, by decide +kernel⟩
abbrev rmX10_areNear : Room := { frames := 2, cells := 0, slots := 0, locals := 43 }
theorem mv_X10_areNear : mV yX10_areNear RX10 cX10_areNear 6 (some .boolean) 2 := ⟨mI_X10_areNear, mE_X10_areNear, iz_X10, mC_X10_areNear, by decide +kernel⟩
abbrev rmX10_joinMarks : Room := { frames := 3, cells := 0, slots := 0, locals := 68 }
theorem mv_X10_joinMarks : mV yX10_joinMarks RX10 cX10_joinMarks 6 none 1 := ⟨mI_X10_joinMarks, mE_X10_joinMarks, iz_X10, mC_X10_joinMarks, by decide +kernel⟩
abbrev rmX10_about : Room := { frames := 4, cells := 0, slots := 0, locals := 93 }
theorem mv_X10_about : mV yX10_about RX10 cX10_about 5 (some .int) 3 := ⟨mI_X10_about, mE_X10_about, iz_X10, mC_X10_about, by decide +kernel⟩
abbrev rmX10_near : Room := { frames := 1, cells := 0, slots := 0, locals := 22 }
theorem mv_X10_near : mV yX10_near RX10 cX10_near 3 (some .int) 2 := ⟨mI_X10_near, mE_X10_near, iz_X10, mC_X10_near, by decide +kernel⟩
abbrev rmX10_groups : Room := { frames := 4, cells := 0, slots := 0, locals := 93 }
theorem mv_X10_groups : mV yX10_groups RX10 cX10_groups 2 (some .int) 1 := ⟨mI_X10_groups, mE_X10_groups, iz_X10, mC_X10_groups, by decide +kernel⟩
abbrev rmX10_group : Room := { frames := 4, cells := 0, slots := 0, locals := 93 }
theorem mv_X10_group : mV yX10_group RX10 cX10_group 12 (some .int) 3 := ⟨mI_X10_group, mE_X10_group, iz_X10, mC_X10_group, by decide +kernel⟩
abbrev rmX10_alone : Room := { frames := 1, cells := 0, slots := 0, locals := 22 }
theorem mv_X10_alone : mV yX10_alone RX10 cX10_alone 3 (some .int) 1 := ⟨mI_X10_alone, mE_X10_alone, iz_X10, mC_X10_alone, by decide +kernel⟩
abbrev rmX10_gather : Room := { frames := 4, cells := 0, slots := 0, locals := 97 }
theorem mv_X10_gather : mV yX10_gather RX10 cX10_gather 6 none 1 := ⟨mI_X10_gather, mE_X10_gather, iz_X10, mC_X10_gather, by decide +kernel⟩
abbrev rmX10_choiceCost : Room := { frames := 2, cells := 0, slots := 0, locals := 43 }
theorem mv_X10_choiceCost : mV yX10_choiceCost RX10 cX10_choiceCost 5 (some .int) 0 := ⟨mI_X10_choiceCost, mE_X10_choiceCost, iz_X10, mC_X10_choiceCost, by decide +kernel⟩
abbrev rmX10_choosesOn : Room := { frames := 0, cells := 0, slots := 0, locals := 0 }
theorem mv_X10_choosesOn : mV yX10_choosesOn RX10 cX10_choosesOn 2 (some .boolean) 0 := ⟨mI_X10_choosesOn, mE_X10_choosesOn, iz_X10, mC_X10_choosesOn, by decide +kernel⟩
abbrev rmX10_pairs : Room := { frames := 5, cells := 0, slots := 0, locals := 122 }
theorem mv_X10_pairs : mV yX10_pairs RX10 cX10_pairs 6 (some .int) 1 := ⟨mI_X10_pairs, mE_X10_pairs, iz_X10, mC_X10_pairs, by decide +kernel⟩
abbrev rmX10_pairing : Room := { frames := 6, cells := 0, slots := 0, locals := 147 }
theorem mv_X10_pairing : mV yX10_pairing RX10 cX10_pairing 2 (some .int) 1 := ⟨mI_X10_pairing, mE_X10_pairing, iz_X10, mC_X10_pairing, by decide +kernel⟩
abbrev rmX10_twinOf : Room := { frames := 6, cells := 0, slots := 0, locals := 147 }
theorem mv_X10_twinOf : mV yX10_twinOf RX10 cX10_twinOf 6 (some .int) 1 := ⟨mI_X10_twinOf, mE_X10_twinOf, iz_X10, mC_X10_twinOf, by decide +kernel⟩
abbrev rmX10_twin : Room := { frames := 7, cells := 0, slots := 0, locals := 172 }
theorem mv_X10_twin : mV yX10_twin RX10 cX10_twin 2 (some .int) 1 := ⟨mI_X10_twin, mE_X10_twin, iz_X10, mC_X10_twin, by decide +kernel⟩
abbrev rmX10_tool : Room := { frames := 1, cells := 0, slots := 0, locals := 22 }
theorem mv_X10_tool : mV yX10_tool RX10 cX10_tool 4 (some .int) 3 := ⟨mI_X10_tool, mE_X10_tool, iz_X10, mC_X10_tool, by decide +kernel⟩
abbrev rmX10_lowOf : Room := { frames := 0, cells := 0, slots := 0, locals := 0 }
theorem mv_X10_lowOf : mV yX10_lowOf RX10 cX10_lowOf 2 (some .int) 1 := ⟨mI_X10_lowOf, mE_X10_lowOf, iz_X10, mC_X10_lowOf, by decide +kernel⟩
abbrev rmX10_highOf : Room := { frames := 0, cells := 0, slots := 0, locals := 0 }
theorem mv_X10_highOf : mV yX10_highOf RX10 cX10_highOf 2 (some .int) 1 := ⟨mI_X10_highOf, mE_X10_highOf, iz_X10, mC_X10_highOf, by decide +kernel⟩
abbrev rmX10_growth : Room := { frames := 7, cells := 0, slots := 0, locals := 172 }
theorem mv_X10_growth : mV yX10_growth RX10 cX10_growth 10 (some .int) 2 := ⟨mI_X10_growth, mE_X10_growth, iz_X10, mC_X10_growth, by decide +kernel⟩
abbrev rmX10_work : Room := { frames := 1, cells := 0, slots := 0, locals := 22 }
theorem mv_X10_work : mV yX10_work RX10 cX10_work 3 (some .int) 2 := ⟨mI_X10_work, mE_X10_work, iz_X10, mC_X10_work, by decide +kernel⟩
abbrev rmX10_yearly : Room := { frames := 1, cells := 0, slots := 0, locals := 22 }
theorem mv_X10_yearly : mV yX10_yearly RX10 cX10_yearly 3 (some .int) 2 := ⟨mI_X10_yearly, mE_X10_yearly, iz_X10, mC_X10_yearly, by decide +kernel⟩
abbrev rmX10_many : Room := { frames := 0, cells := 0, slots := 0, locals := 0 }
theorem ms_X10_many : mS yX10_many cX10_many 3 (some .int) 1 := ⟨mS_X10_many, iz_X10, mC_X10_many, by decide +kernel⟩
abbrev rmX10_willDo : Room := { frames := 1, cells := 0, slots := 0, locals := 22 }
theorem mv_X10_willDo : mV yX10_willDo RX10 cX10_willDo 5 (some .boolean) 1 := ⟨mI_X10_willDo, mE_X10_willDo, iz_X10, mC_X10_willDo, by decide +kernel⟩
abbrev rmX10_planned : Room := { frames := 2, cells := 0, slots := 0, locals := 46 }
theorem mv_X10_planned : mV yX10_planned RX10 cX10_planned 3 (some .int) 0 := ⟨mI_X10_planned, mE_X10_planned, iz_X10, mC_X10_planned, by decide +kernel⟩
abbrev rmX10_plan : Room := { frames := 3, cells := 0, slots := 0, locals := 68 }
theorem mv_X10_plan : mV yX10_plan RX10 cX10_plan 4 (some .int) 0 := ⟨mI_X10_plan, mE_X10_plan, iz_X10, mC_X10_plan, by decide +kernel⟩
abbrev rmX10_years : Room := { frames := 3, cells := 0, slots := 0, locals := 68 }
theorem mv_X10_years : mV yX10_years RX10 cX10_years 2 (some .int) 0 := ⟨mI_X10_years, mE_X10_years, iz_X10, mC_X10_years, by decide +kernel⟩
abbrev rmX10_when : Room := { frames := 3, cells := 0, slots := 0, locals := 68 }
theorem mv_X10_when : mV yX10_when RX10 cX10_when 6 (some .int) 1 := ⟨mI_X10_when, mE_X10_when, iz_X10, mC_X10_when, by decide +kernel⟩
abbrev rmX10_mayOpen : Room := { frames := 0, cells := 0, slots := 0, locals := 0 }
theorem mv_X10_mayOpen : mV yX10_mayOpen RX10 cX10_mayOpen 2 (some .boolean) 1 := ⟨mI_X10_mayOpen, mE_X10_mayOpen, iz_X10, mC_X10_mayOpen, by decide +kernel⟩
abbrev rmX10_trap : Room := { frames := 1, cells := 0, slots := 0, locals := 22 }
theorem mv_X10_trap : mV yX10_trap RX10 cX10_trap 3 (some .int) 2 := ⟨mI_X10_trap, mE_X10_trap, iz_X10, mC_X10_trap, by decide +kernel⟩
abbrev rmX10_count : Room := { frames := 0, cells := 0, slots := 0, locals := 0 }
theorem mv_X10_count : mV yX10_count RX10 cX10_count 2 (some .int) 1 := ⟨mI_X10_count, mE_X10_count, iz_X10, mC_X10_count, by decide +kernel⟩
abbrev rmX10_digest : Room := { frames := 5, cells := 0, slots := 0, locals := 118 }
theorem mv_X10_digest : mV yX10_digest RX10 cX10_digest 6 (some .long) 0 := ⟨mI_X10_digest, mE_X10_digest, iz_X10, mC_X10_digest, by decide +kernel⟩
end
section
theorem nar_bi {x : Int32} (h : x = 0 ∨ x = 1) : narrow .boolean (.int x) = .int x := by rcases h with rfl | rfl <;> rfl
theorem fit_bi {x : Int32} (h : x = 0 ∨ x = 1) : fits .boolean (.int x) = true := by rcases h with rfl | rfl <;> rfl
def fX9_isWithin (S : PS) (a : Int32) (b : Int32) (z : Int32) : Int32 := if a < b then 0 else (if z < a then 0 else 1)
set_option maxHeartbeats 4000000 in
set_option maxRecDepth 100000 in
theorem c_X9_isWithin {cy : ClassId × ClassId} {ad : Nat → Nat} {D : va_G} {l : Launch} (S : PS) (a : Int32) (b : Int32) (z : Int32)  : PMi cy GC ad D l yX9_isWithin (wA yX9_isWithin cX9_isWithin 3 (some .boolean)) rmX9_isWithin [vi a, vi b, vi z] S (fun x S' => x = (fX9_isWithin S a b z) ∧ S' = S) := by
  refine PM.of (lv := [(0, vi a), (1, vi b), (2, vi z)]) GC_ok (by decide) (Nat.le_of_ble_eq_true rfl) rfl (by simp) ?_
  intro p e s m args below meth c A hM
  refine w_iln (q := 0) (n := 1) hM (dtab_at okX9_isWithin 0 rfl) rfl rfl ?_
  refine w_iln (q := 1) (n := 2) hM (dtab_at okX9_isWithin 1 rfl) rfl rfl ?_
  refine w_ic_lt (n := 14) (n2 := 5) hM (dtab_at okX9_isWithin 2 rfl) (by decide) rfl (fun h2 => ?_) (fun h2 => ?_)
  · skip
    refine w_ic (n := 15) hM 0 (dtab_at okX9_isWithin 8 rfl) (by decide) rfl ?_
    exact r_z hM (by decide) (dtab_at okX9_isWithin 9 rfl) ⟨by rw [fX9_isWithin, if_pos h2], rfl⟩
  · skip
    refine w_iln (q := 0) (n := 6) hM (dtab_at okX9_isWithin 3 rfl) rfl rfl ?_
    refine w_iln (q := 2) (n := 7) hM (dtab_at okX9_isWithin 4 rfl) rfl rfl ?_
    refine w_ic_gt (n := 14) (n2 := 10) hM (dtab_at okX9_isWithin 5 rfl) (by decide) rfl (fun h7 => ?_) (fun h7 => ?_)
    · skip
      refine w_ic (n := 15) hM 0 (dtab_at okX9_isWithin 8 rfl) (by decide) rfl ?_
      exact r_z hM (by decide) (dtab_at okX9_isWithin 9 rfl) ⟨by rw [fX9_isWithin, if_neg h2, if_pos h7], rfl⟩
    · skip
      refine w_ic (n := 11) hM 1 (dtab_at okX9_isWithin 6 rfl) (by decide) rfl ?_
      refine w_goto (n := 15) hM (dtab_at okX9_isWithin 7 rfl) (by decide) ?_
      exact r_z hM (by decide) (dtab_at okX9_isWithin 9 rfl) ⟨by rw [fX9_isWithin, if_neg h2, if_neg h7], rfl⟩
theorem fX9_isWithin_01 (S : PS) (a b z : Int32) : fX9_isWithin S a b z = 0 ∨ fX9_isWithin S a b z = 1 := by
  unfold fX9_isWithin
  split
  · exact Or.inl rfl
  · split
    · exact Or.inl rfl
    · exact Or.inr rfl
def fX9_isForm (S : PS) (a : Int32) : Int32 := (fX9_isWithin S a 0 2)
set_option maxHeartbeats 4000000 in
set_option maxRecDepth 100000 in
theorem c_X9_isForm {cy : ClassId × ClassId} {ad : Nat → Nat} {D : va_G} {l : Launch} (S : PS) (a : Int32)  : PMi cy GC ad D l yX9_isForm (wA yX9_isForm cX9_isForm 1 (some .boolean)) rmX9_isForm [vi a] S (fun x S' => x = (fX9_isForm S a) ∧ S' = S) := by
  refine PM.of (lv := [(0, vi a)]) GC_ok (by decide) (Nat.le_of_ble_eq_true rfl) rfl (by simp) ?_
  intro p e s m args below meth c A hM
  refine w_iln (q := 0) (n := 1) hM (dtab_at okX9_isForm 0 rfl) rfl rfl ?_
  refine w_ic (n := 2) hM 0 (dtab_at okX9_isForm 1 rfl) (by decide) rfl ?_
  refine w_ic (n := 3) hM 2 (dtab_at okX9_isForm 2 rfl) (by decide) rfl ?_
  refine w_callSi (n := 6) (As := [vi a, vi 0, vi 2]) (rest := []) hM (c_X9_isWithin S a 0 2) lkM_X9_121 ms_X9_isWithin (by decide) rfl (Nat.le_of_ble_eq_true rfl) rfl (dtab_at okX9_isForm 3 rfl) rfl (fun x0 S0 hp0 => ?_)
  obtain ⟨hx_, hs_⟩ := hp0
  have hs_ := hs_.symm
  subst hs_
  subst hx_
  exact r_z hM (nar_bi (fX9_isWithin_01 _ _ _ _)) (dtab_at okX9_isForm 4 rfl) ⟨by rw [fX9_isForm], rfl⟩
def fX9_hoursApart (S : PS) (a : Int32) (b : Int32) : Int32 := if (12 - (if 0 ≤ (a - b) then (a - b) else 0 - (a - b))) < (if 0 ≤ (a - b) then (a - b) else 0 - (a - b)) then (12 - (if 0 ≤ (a - b) then (a - b) else 0 - (a - b))) else (if 0 ≤ (a - b) then (a - b) else 0 - (a - b))
set_option maxHeartbeats 4000000 in
set_option maxRecDepth 100000 in
theorem c_X9_hoursApart {cy : ClassId × ClassId} {ad : Nat → Nat} {D : va_G} {l : Launch} (S : PS) (a : Int32) (b : Int32)  : PMi cy GC ad D l yX9_hoursApart (wA yX9_hoursApart cX9_hoursApart 3 (some .int)) rmX9_hoursApart [vi a, vi b] S (fun x S' => x = (fX9_hoursApart S a b) ∧ S' = S) := by
  refine PM.of (lv := [(0, vi a), (1, vi b)]) GC_ok (by decide) (Nat.le_of_ble_eq_true rfl) rfl (by simp) ?_
  intro p e s m args below meth c A hM
  refine w_iln (q := 0) (n := 1) hM (dtab_at okX9_hoursApart 0 rfl) rfl rfl ?_
  refine w_iln (q := 1) (n := 2) hM (dtab_at okX9_hoursApart 1 rfl) rfl rfl ?_
  refine w_isub (n := 3) hM (dtab_at okX9_hoursApart 2 rfl) rfl ?_
  refine w_abs (n := 6) hM ⟨lkM_X9_275, mS_J9_abs_0f7a4, iz_J9, mC_J9_abs_0f7a4⟩ (by decide) (Nat.le_of_ble_eq_true rfl) (dtab_at okX9_hoursApart 3 rfl) rfl ?_
  refine w_isn (n := 7) (lv' := [(2, vi (if 0 ≤ (a - b) then (a - b) else 0 - (a - b))), (0, vi a), (1, vi b)]) hM (dtab_at okX9_hoursApart 4 rfl) (by decide) rfl rfl ?_
  refine w_iln (q := 0) (n := 8) hM (dtab_at okX9_hoursApart 5 rfl) rfl rfl ?_
  refine w_bi (n := 10) hM 12 (dtab_at okX9_hoursApart 6 rfl) (by decide) rfl ?_
  refine w_iln (q := 0) (n := 11) hM (dtab_at okX9_hoursApart 7 rfl) rfl rfl ?_
  refine w_isub (n := 12) hM (dtab_at okX9_hoursApart 8 rfl) rfl ?_
  refine w_min (n := 15) hM ⟨lkM_X9_280, mS_J9_min_7cf53, iz_J9, mC_J9_min_7cf53⟩ (by decide) (Nat.le_of_ble_eq_true rfl) (dtab_at okX9_hoursApart 9 rfl) rfl ?_
  exact r_i hM (dtab_at okX9_hoursApart 10 rfl) ⟨by rw [fX9_hoursApart], rfl⟩
def fX9_found (S : PS) (a : Int32) : Int32 × PS := (((-10) - a), (sti S 0 9 a))
set_option maxHeartbeats 4000000 in
set_option maxRecDepth 100000 in
theorem c_X9_found {cy : ClassId × ClassId} {ad : Nat → Nat} {D : va_G} {l : Launch} (S : PS) (a : Int32)  : PMi cy GC ad D l yX9_found (wA yX9_found cX9_found 2 (some .int)) rmX9_found [vr 9 0, vi a] S (fun x S' => (x, S') = (fX9_found S a)) := by
  refine PM.of (lv := [(0, vr 9 0), (1, vi a)]) GC_ok (by decide) (Nat.le_of_ble_eq_true rfl) rfl (by simp) ?_
  intro p e s m args below meth c A hM
  refine w_aln (q := 0) (n := 1) hM (dtab_at okX9_found 0 rfl) rfl rfl ?_
  refine w_iln (q := 1) (n := 2) hM (dtab_at okX9_found 1 rfl) rfl rfl ?_
  refine w_put (C := RX9) (T := TX9) (i := 9) (ty := .int) (n := 5) hM rfl (by decide) ly_X9 tyX9_ok nmX9 lkF_X9_61 rfl (by decide +kernel) rfl rfl (dtab_at okX9_found 2 rfl) rfl ?_
  refine w_bi (n := 7) hM (-10) (dtab_at okX9_found 3 rfl) (by decide) rfl ?_
  refine w_iln (q := 1) (n := 8) hM (dtab_at okX9_found 4 rfl) rfl rfl ?_
  refine w_isub (n := 9) hM (dtab_at okX9_found 5 rfl) rfl ?_
  exact r_i hM (dtab_at okX9_found 6 rfl) (by rw [fX9_found])
def fX9_runAt (S : PS) (a : Int32) : Option (Nat × Nat) := if a = 0 then some (6, 1) else (if a = 1 then some (6, 2) else none)
set_option maxHeartbeats 4000000 in
set_option maxRecDepth 100000 in
theorem c_X9_runAt {cy : ClassId × ClassId} {ad : Nat → Nat} {D : va_G} {l : Launch} (S : PS) (a : Int32)  : PMr cy GC ad D l yX9_runAt (wA yX9_runAt cX9_runAt 2 (some (.object "PigLine$Run"))) rmX9_runAt [vr 9 0, vi a] S (fun x S' => x = (fX9_runAt S a) ∧ S' = S) := by
  refine PM.of (lv := [(0, vr 9 0), (1, vi a)]) GC_ok (by decide) (Nat.le_of_ble_eq_true rfl) rfl (by simp) ?_
  intro p e s m args below meth c A hM
  refine w_iln (q := 1) (n := 1) hM (dtab_at okX9_runAt 0 rfl) rfl rfl ?_
  refine w_if_ne (n := 9) (n2 := 4) hM (dtab_at okX9_runAt 1 rfl) (by decide) rfl (fun h1 => ?_) (fun h1 => ?_)
  · skip
    refine w_iln (q := 1) (n := 10) hM (dtab_at okX9_runAt 5 rfl) rfl rfl ?_
    refine w_ic (n := 11) hM 1 (dtab_at okX9_runAt 6 rfl) (by decide) rfl ?_
    refine w_ic_ne (n := 21) (n2 := 14) hM (dtab_at okX9_runAt 7 rfl) (by decide) rfl (fun h11 => ?_) (fun h11 => ?_)
    · skip
      refine w_null (n := 22) hM (dtab_at okX9_runAt 11 rfl) rfl ?_
      exact r_a hM (dtab_at okX9_runAt 12 rfl) ⟨by rw [fX9_runAt, if_neg h1, if_neg h11], rfl⟩
    · skip
      refine w_aln (q := 0) (n := 15) hM (dtab_at okX9_runAt 8 rfl) rfl rfl ?_
      refine w_getr (C := RX9) (T := TX9) (i := 1) (k2 := 6) (q := 2) (n := 18) hM rfl (by decide) (fun _ => rfl) ly_X9 lkF_X9_16 (dtab_at okX9_runAt 9 rfl) rfl ?_
      refine w_goto (n := 22) hM (dtab_at okX9_runAt 10 rfl) (by decide) ?_
      exact r_a hM (dtab_at okX9_runAt 12 rfl) ⟨by rw [fX9_runAt, if_neg h1, if_pos h11], rfl⟩
  · skip
    refine w_aln (q := 0) (n := 5) hM (dtab_at okX9_runAt 2 rfl) rfl rfl ?_
    refine w_getr (C := RX9) (T := TX9) (i := 0) (k2 := 6) (q := 1) (n := 8) hM rfl (by decide) (fun _ => rfl) ly_X9 lkF_X9_10 (dtab_at okX9_runAt 3 rfl) rfl ?_
    exact r_a hM (dtab_at okX9_runAt 4 rfl) ⟨by rw [fX9_runAt, if_pos h1], rfl⟩
def fX5_isLost (S : PS) (j : Nat) : Int32 := if (S.1 j 1) = (-1) then 1 else 0
set_option maxHeartbeats 4000000 in
set_option maxRecDepth 100000 in
theorem c_X5_isLost {cy : ClassId × ClassId} {ad : Nat → Nat} {D : va_G} {l : Launch} (S : PS) (j : Nat)  : PMi cy GC ad D l yX5_isLost (wA yX5_isLost cX5_isLost 1 (some .boolean)) rmX5_isLost [vr 5 j] S (fun x S' => x = (fX5_isLost S j) ∧ S' = S) := by
  refine PM.of (lv := [(0, vr 5 j)]) GC_ok (by decide) (Nat.le_of_ble_eq_true rfl) rfl (by simp) ?_
  intro p e s m args below meth c A hM
  refine w_aln (q := 0) (n := 1) hM (dtab_at okX5_isLost 0 rfl) rfl rfl ?_
  refine w_geti (C := RX5) (T := TX5) (i := 1) (n := 4) hM rfl (by decide) ly_X5 lkF_X5_15 (dtab_at okX5_isLost 1 rfl) rfl ?_
  refine w_ic (n := 5) hM (-1) (dtab_at okX5_isLost 2 rfl) (by decide) rfl ?_
  refine w_ic_ne (n := 12) (n2 := 8) hM (dtab_at okX5_isLost 3 rfl) (by decide) rfl (fun h5 => ?_) (fun h5 => ?_)
  · skip
    refine w_ic (n := 13) hM 0 (dtab_at okX5_isLost 6 rfl) (by decide) rfl ?_
    exact r_z hM (by decide) (dtab_at okX5_isLost 7 rfl) ⟨by rw [fX5_isLost, if_neg h5], rfl⟩
  · skip
    refine w_ic (n := 9) hM 1 (dtab_at okX5_isLost 4 rfl) (by decide) rfl ?_
    refine w_goto (n := 13) hM (dtab_at okX5_isLost 5 rfl) (by decide) ?_
    exact r_z hM (by decide) (dtab_at okX5_isLost 7 rfl) ⟨by rw [fX5_isLost, if_pos h5], rfl⟩
def fX5_drop (S : PS) (j : Nat) : PS := (sti (sti S j 1 (-1)) j 2 0)
set_option maxHeartbeats 4000000 in
set_option maxRecDepth 100000 in
theorem c_X5_drop {cy : ClassId × ClassId} {ad : Nat → Nat} {D : va_G} {l : Launch} (S : PS) (j : Nat)  : PMv cy GC ad D l yX5_drop (wA yX5_drop cX5_drop 1 none) rmX5_drop [vr 5 j] S (fun S' => S' = (fX5_drop S j)) := by
  refine PM.of (lv := [(0, vr 5 j)]) GC_ok (by decide) (Nat.le_of_ble_eq_true rfl) rfl (by simp) ?_
  intro p e s m args below meth c A hM
  refine w_aln (q := 0) (n := 1) hM (dtab_at okX5_drop 0 rfl) rfl rfl ?_
  refine w_ic (n := 2) hM (-1) (dtab_at okX5_drop 1 rfl) (by decide) rfl ?_
  refine w_put (C := RX5) (T := TX5) (i := 1) (ty := .int) (n := 5) hM rfl (by decide) ly_X5 tyX5_ok nmX5 lkF_X5_15 rfl (by decide +kernel) rfl rfl (dtab_at okX5_drop 2 rfl) rfl ?_
  refine w_aln (q := 0) (n := 6) hM (dtab_at okX5_drop 3 rfl) rfl rfl ?_
  refine w_ic (n := 7) hM 0 (dtab_at okX5_drop 4 rfl) (by decide) rfl ?_
  refine w_put (C := RX5) (T := TX5) (i := 2) (ty := .int) (n := 10) hM rfl (by decide) ly_X5 tyX5_ok nmX5 lkF_X5_19 rfl (by decide +kernel) rfl rfl (dtab_at okX5_drop 5 rfl) rfl ?_
  exact r_v hM (dtab_at okX5_drop 6 rfl) (by rw [fX5_drop])
def fX5_hasItem (S : PS) (j : Nat) (i : Int32) : Int32 := if i < 0 then 0 else (if (S.1 j 2) ≤ i then 0 else 1)
set_option maxHeartbeats 4000000 in
set_option maxRecDepth 100000 in
theorem c_X5_hasItem {cy : ClassId × ClassId} {ad : Nat → Nat} {D : va_G} {l : Launch} (S : PS) (j : Nat) (i : Int32)  : PMi cy GC ad D l yX5_hasItem (wA yX5_hasItem cX5_hasItem 2 (some .boolean)) rmX5_hasItem [vr 5 j, vi i] S (fun x S' => x = (fX5_hasItem S j i) ∧ S' = S) := by
  refine PM.of (lv := [(0, vr 5 j), (1, vi i)]) GC_ok (by decide) (Nat.le_of_ble_eq_true rfl) rfl (by simp) ?_
  intro p e s m args below meth c A hM
  refine w_iln (q := 1) (n := 1) hM (dtab_at okX5_hasItem 0 rfl) rfl rfl ?_
  refine w_if_lt (n := 16) (n2 := 4) hM (dtab_at okX5_hasItem 1 rfl) (by decide) rfl (fun h1 => ?_) (fun h1 => ?_)
  · skip
    refine w_ic (n := 17) hM 0 (dtab_at okX5_hasItem 8 rfl) (by decide) rfl ?_
    exact r_z hM (by decide) (dtab_at okX5_hasItem 9 rfl) ⟨by rw [fX5_hasItem, if_pos h1], rfl⟩
  · skip
    refine w_iln (q := 1) (n := 5) hM (dtab_at okX5_hasItem 2 rfl) rfl rfl ?_
    refine w_aln (q := 0) (n := 6) hM (dtab_at okX5_hasItem 3 rfl) rfl rfl ?_
    refine w_geti (C := RX5) (T := TX5) (i := 2) (n := 9) hM rfl (by decide) ly_X5 lkF_X5_19 (dtab_at okX5_hasItem 4 rfl) rfl ?_
    refine w_ic_ge (n := 16) (n2 := 12) hM (dtab_at okX5_hasItem 5 rfl) (by decide) rfl (fun h9 => ?_) (fun h9 => ?_)
    · skip
      refine w_ic (n := 17) hM 0 (dtab_at okX5_hasItem 8 rfl) (by decide) rfl ?_
      exact r_z hM (by decide) (dtab_at okX5_hasItem 9 rfl) ⟨by rw [fX5_hasItem, if_neg h1, if_pos h9], rfl⟩
    · skip
      refine w_ic (n := 13) hM 1 (dtab_at okX5_hasItem 6 rfl) (by decide) rfl ?_
      refine w_goto (n := 17) hM (dtab_at okX5_hasItem 7 rfl) (by decide) ?_
      exact r_z hM (by decide) (dtab_at okX5_hasItem 9 rfl) ⟨by rw [fX5_hasItem, if_neg h1, if_neg h9], rfl⟩
def fX5_hasItems (S : PS) (j : Nat) (i : Int32) (k : Int32) : Int32 := if i < 0 then 0 else (if k < 0 then 0 else (if (S.1 j 2) < k then 0 else (if ((S.1 j 2) - k) < i then 0 else 1)))
set_option maxHeartbeats 4000000 in
set_option maxRecDepth 100000 in
theorem c_X5_hasItems {cy : ClassId × ClassId} {ad : Nat → Nat} {D : va_G} {l : Launch} (S : PS) (j : Nat) (i : Int32) (k : Int32)  : PMi cy GC ad D l yX5_hasItems (wA yX5_hasItems cX5_hasItems 3 (some .boolean)) rmX5_hasItems [vr 5 j, vi i, vi k] S (fun x S' => x = (fX5_hasItems S j i k) ∧ S' = S) := by
  refine PM.of (lv := [(0, vr 5 j), (1, vi i), (2, vi k)]) GC_ok (by decide) (Nat.le_of_ble_eq_true rfl) rfl (by simp) ?_
  intro p e s m args below meth c A hM
  refine w_iln (q := 1) (n := 1) hM (dtab_at okX5_hasItems 0 rfl) rfl rfl ?_
  refine w_if_lt (n := 30) (n2 := 4) hM (dtab_at okX5_hasItems 1 rfl) (by decide) rfl (fun h1 => ?_) (fun h1 => ?_)
  · skip
    refine w_ic (n := 31) hM 0 (dtab_at okX5_hasItems 16 rfl) (by decide) rfl ?_
    exact r_z hM (by decide) (dtab_at okX5_hasItems 17 rfl) ⟨by rw [fX5_hasItems, if_pos h1], rfl⟩
  · skip
    refine w_iln (q := 2) (n := 5) hM (dtab_at okX5_hasItems 2 rfl) rfl rfl ?_
    refine w_if_lt (n := 30) (n2 := 8) hM (dtab_at okX5_hasItems 3 rfl) (by decide) rfl (fun h5 => ?_) (fun h5 => ?_)
    · skip
      refine w_ic (n := 31) hM 0 (dtab_at okX5_hasItems 16 rfl) (by decide) rfl ?_
      exact r_z hM (by decide) (dtab_at okX5_hasItems 17 rfl) ⟨by rw [fX5_hasItems, if_neg h1, if_pos h5], rfl⟩
    · skip
      refine w_iln (q := 2) (n := 9) hM (dtab_at okX5_hasItems 4 rfl) rfl rfl ?_
      refine w_aln (q := 0) (n := 10) hM (dtab_at okX5_hasItems 5 rfl) rfl rfl ?_
      refine w_geti (C := RX5) (T := TX5) (i := 2) (n := 13) hM rfl (by decide) ly_X5 lkF_X5_19 (dtab_at okX5_hasItems 6 rfl) rfl ?_
      refine w_ic_gt (n := 30) (n2 := 16) hM (dtab_at okX5_hasItems 7 rfl) (by decide) rfl (fun h13 => ?_) (fun h13 => ?_)
      · skip
        refine w_ic (n := 31) hM 0 (dtab_at okX5_hasItems 16 rfl) (by decide) rfl ?_
        exact r_z hM (by decide) (dtab_at okX5_hasItems 17 rfl) ⟨by rw [fX5_hasItems, if_neg h1, if_neg h5, if_pos h13], rfl⟩
      · skip
        refine w_iln (q := 1) (n := 17) hM (dtab_at okX5_hasItems 8 rfl) rfl rfl ?_
        refine w_aln (q := 0) (n := 18) hM (dtab_at okX5_hasItems 9 rfl) rfl rfl ?_
        refine w_geti (C := RX5) (T := TX5) (i := 2) (n := 21) hM rfl (by decide) ly_X5 lkF_X5_19 (dtab_at okX5_hasItems 10 rfl) rfl ?_
        refine w_iln (q := 2) (n := 22) hM (dtab_at okX5_hasItems 11 rfl) rfl rfl ?_
        refine w_isub (n := 23) hM (dtab_at okX5_hasItems 12 rfl) rfl ?_
        refine w_ic_gt (n := 30) (n2 := 26) hM (dtab_at okX5_hasItems 13 rfl) (by decide) rfl (fun h23 => ?_) (fun h23 => ?_)
        · skip
          refine w_ic (n := 31) hM 0 (dtab_at okX5_hasItems 16 rfl) (by decide) rfl ?_
          exact r_z hM (by decide) (dtab_at okX5_hasItems 17 rfl) ⟨by rw [fX5_hasItems, if_neg h1, if_neg h5, if_neg h13, if_pos h23], rfl⟩
        · skip
          refine w_ic (n := 27) hM 1 (dtab_at okX5_hasItems 14 rfl) (by decide) rfl ?_
          refine w_goto (n := 31) hM (dtab_at okX5_hasItems 15 rfl) (by decide) ?_
          exact r_z hM (by decide) (dtab_at okX5_hasItems 17 rfl) ⟨by rw [fX5_hasItems, if_neg h1, if_neg h5, if_neg h13, if_neg h23], rfl⟩
def fX5_faultOf (S : PS) (j : Nat) (f : Int32) (i : Int32) : Int32 := if (fX5_isLost S j) = 0 then (if (S.1 j 1) = f then (if (fX5_hasItem S j i) = 0 then 2 else 0) else 3) else 1
set_option maxHeartbeats 4000000 in
set_option maxRecDepth 100000 in
theorem c_X5_faultOf {cy : ClassId × ClassId} {ad : Nat → Nat} {D : va_G} {l : Launch} (S : PS) (j : Nat) (f : Int32) (i : Int32)  : PMi cy GC ad D l yX5_faultOf (wA yX5_faultOf cX5_faultOf 3 (some .int)) rmX5_faultOf [vr 5 j, vi f, vi i] S (fun x S' => x = (fX5_faultOf S j f i) ∧ S' = S) := by
  refine PM.of (lv := [(0, vr 5 j), (1, vi f), (2, vi i)]) GC_ok (by decide) (Nat.le_of_ble_eq_true rfl) rfl (by simp) ?_
  intro p e s m args below meth c A hM
  refine w_aln (q := 0) (n := 1) hM (dtab_at okX5_faultOf 0 rfl) rfl rfl ?_
  refine w_callVi (n := 4) (As := []) (rest := []) (k := 5) (j := j) (C := RX5) (T := TX5) (N := 3) hM (c_X5_isLost S j) lkM_X5_28 mv_X5_isLost (by decide) rfl (by decide) rfl (Nat.le_of_ble_eq_true rfl) rfl (dtab_at okX5_faultOf 1 rfl) rfl (fun x0 S0 hp0 => ?_)
  obtain ⟨hx_, hs_⟩ := hp0
  have hs_ := hs_.symm
  subst hs_
  subst hx_
  refine w_if_eq (n := 9) (n2 := 7) hM (dtab_at okX5_faultOf 2 rfl) (by decide) rfl (fun h4 => ?_) (fun h4 => ?_)
  · skip
    refine w_aln (q := 0) (n := 10) hM (dtab_at okX5_faultOf 5 rfl) rfl rfl ?_
    refine w_geti (C := RX5) (T := TX5) (i := 1) (n := 13) hM rfl (by decide) ly_X5 lkF_X5_15 (dtab_at okX5_faultOf 6 rfl) rfl ?_
    refine w_iln (q := 1) (n := 14) hM (dtab_at okX5_faultOf 7 rfl) rfl rfl ?_
    refine w_ic_eq (n := 19) (n2 := 17) hM (dtab_at okX5_faultOf 8 rfl) (by decide) rfl (fun h14 => ?_) (fun h14 => ?_)
    · skip
      refine w_aln (q := 0) (n := 20) hM (dtab_at okX5_faultOf 11 rfl) rfl rfl ?_
      refine w_iln (q := 2) (n := 21) hM (dtab_at okX5_faultOf 12 rfl) rfl rfl ?_
      refine w_callVi (n := 24) (As := [vi i]) (rest := []) (k := 5) (j := j) (C := RX5) (T := TX5) (N := 3) hM (c_X5_hasItem S j i) lkM_X5_32 mv_X5_hasItem (by decide) rfl (by decide) rfl (Nat.le_of_ble_eq_true rfl) rfl (dtab_at okX5_faultOf 13 rfl) rfl (fun x1 S1 hp1 => ?_)
      obtain ⟨hx_, hs_⟩ := hp1
      have hs_ := hs_.symm
      subst hs_
      subst hx_
      refine w_if_eq (n := 31) (n2 := 27) hM (dtab_at okX5_faultOf 14 rfl) (by decide) rfl (fun h24 => ?_) (fun h24 => ?_)
      · skip
        refine w_ic (n := 32) hM 2 (dtab_at okX5_faultOf 17 rfl) (by decide) rfl ?_
        exact r_i hM (dtab_at okX5_faultOf 18 rfl) ⟨by rw [fX5_faultOf, if_pos h4, if_pos h14, if_pos h24], rfl⟩
      · skip
        refine w_ic (n := 28) hM 0 (dtab_at okX5_faultOf 15 rfl) (by decide) rfl ?_
        refine w_goto (n := 32) hM (dtab_at okX5_faultOf 16 rfl) (by decide) ?_
        exact r_i hM (dtab_at okX5_faultOf 18 rfl) ⟨by rw [fX5_faultOf, if_pos h4, if_pos h14, if_neg h24], rfl⟩
    · skip
      refine w_ic (n := 18) hM 3 (dtab_at okX5_faultOf 9 rfl) (by decide) rfl ?_
      exact r_i hM (dtab_at okX5_faultOf 10 rfl) ⟨by rw [fX5_faultOf, if_pos h4, if_neg h14], rfl⟩
  · skip
    refine w_ic (n := 8) hM 1 (dtab_at okX5_faultOf 3 rfl) (by decide) rfl ?_
    exact r_i hM (dtab_at okX5_faultOf 4 rfl) ⟨by rw [fX5_faultOf, if_neg h4], rfl⟩
def LX5_begin_18 (N : Nat) : Nat → PS → Nat → Int32 → Option (PS)
  | 0, _, _, _ => none
  | n + 1, S, v0, v3 => (if (S.1 v0 2) ≤ v3 then (some S) else (if v3 < 0 ∨ 150 ≤ v3.toNatClampNeg then none else (LX5_begin_18 N n (sta S (v0 + 8) v3.toNatClampNeg 0) v0 (v3 + 1))))
set_option maxHeartbeats 4000000 in
set_option maxRecDepth 100000 in
theorem wLX5_begin_18 {cy : ClassId × ClassId} {ad : Nat → Nat} {D : va_G} {p : Program} {l : Launch} {e : Env} {s : State} {m : MethodId} {args : Array Value} {below : List Frame} {meth : Method} {c : Code} {A : Nat → Prop} (hM : MX cy GC ad D p s m args meth c cX5_begin 4 RX5 none A) (N : Nat) (r : PS) : ∀ (n : Nat) (S : PS) (v0 : Nat) (v3 : Int32), LX5_begin_18 N n S v0 v3 = some r → WW cy GC ad D p l e rmX5_begin s m args below meth c 4 A (pov (fun S' => S' = r)) 18 [(0, vr 5 v0), (3, vi v3)] [] S := by
  intro n
  induction n with
  | zero => intro S v0 v3 h; rw [LX5_begin_18] at h; cases h
  | succ n ih =>
    intro S v0 v3 h
    rw [LX5_begin_18] at h
    refine w_iln (q := 1) (n := 19) hM (dtab_at okX5_begin 10 rfl) rfl rfl ?_
    refine w_aln (q := 0) (n := 20) hM (dtab_at okX5_begin 11 rfl) rfl rfl ?_
    refine w_geti (C := RX5) (T := TX5) (i := 2) (n := 23) hM rfl (by decide) ly_X5 lkF_X5_19 (dtab_at okX5_begin 12 rfl) rfl ?_
    refine w_ic_ge (n := 39) (n2 := 26) hM (dtab_at okX5_begin 13 rfl) (by decide) rfl (fun h23 => ?_) (fun h23 => ?_)
    · skip
      rw [if_pos h23] at h
      exact r_v hM (dtab_at okX5_begin 21 rfl) (Option.some.inj h)
    · skip
      rw [if_neg h23] at h
      refine w_aln (q := 0) (n := 27) hM (dtab_at okX5_begin 14 rfl) rfl rfl ?_
      refine w_getr (C := RX5) (T := TX5) (i := 0) (k2 := 250) (q := (v0 + 8)) (n := 30) hM rfl (by decide) rfc_5_0 ly_X5 lkF_X5_9 (dtab_at okX5_begin 15 rfl) rfl ?_
      refine w_iln (q := 1) (n := 31) hM (dtab_at okX5_begin 16 rfl) rfl rfl ?_
      refine w_ic (n := 32) hM 0 (dtab_at okX5_begin 17 rfl) (by decide) rfl ?_
      by_cases hg32 : v3 < 0 ∨ 150 ≤ v3.toNatClampNeg
      · rw [if_pos hg32] at h; cases h
      rw [if_neg hg32] at h
      refine w_ast (nn := 150) (n := 33) hM rfl hg32 (dtab_at okX5_begin 18 rfl) rfl ?_
      refine w_iinc (q := 1) (n := 36) (v := (v3 + 1)) (lv' := [(3, vi (v3 + 1)), (0, vr 5 v0)]) hM (dtab_at okX5_begin 19 rfl) rfl rfl (by decide) rfl rfl ?_
      refine w_goto (n := 18) hM (dtab_at okX5_begin 20 rfl) (by decide) ?_
      refine WW.lvs [1, 0] (lv2 := [(0, vr 5 v0), (3, vi (v3 + 1))]) rfl ?_
      exact ih (sta S (v0 + 8) v3.toNatClampNeg 0) v0 (v3 + 1) h
def fX5_begin (N : Nat) (S : PS) (j : Nat) (f : Int32) (k : Int32) : Option (PS) := (LX5_begin_18 N N (sti (sti S j 1 f) j 2 (if 150 < k then 150 else k)) j 0)
set_option maxHeartbeats 4000000 in
set_option maxRecDepth 100000 in
theorem c_X5_begin {cy : ClassId × ClassId} {ad : Nat → Nat} {D : va_G} {l : Launch} (N : Nat) (S : PS) (j : Nat) (f : Int32) (k : Int32) (r : PS) (h : fX5_begin N S j f k = some r) : PMv cy GC ad D l yX5_begin (wA yX5_begin cX5_begin 4 none) rmX5_begin [vr 5 j, vi f, vi k] S (fun S' => S' = r) := by
  refine PM.of (lv := [(0, vr 5 j), (1, vi f), (2, vi k)]) GC_ok (by decide) (Nat.le_of_ble_eq_true rfl) rfl (by simp) ?_
  intro p e s m args below meth c A hM
  rw [fX5_begin] at h
  refine w_aln (q := 0) (n := 1) hM (dtab_at okX5_begin 0 rfl) rfl rfl ?_
  refine w_iln (q := 1) (n := 2) hM (dtab_at okX5_begin 1 rfl) rfl rfl ?_
  refine w_put (C := RX5) (T := TX5) (i := 1) (ty := .int) (n := 5) hM rfl (by decide) ly_X5 tyX5_ok nmX5 lkF_X5_15 rfl (by decide +kernel) rfl rfl (dtab_at okX5_begin 2 rfl) rfl ?_
  refine w_aln (q := 0) (n := 6) hM (dtab_at okX5_begin 3 rfl) rfl rfl ?_
  refine w_iln (q := 2) (n := 7) hM (dtab_at okX5_begin 4 rfl) rfl rfl ?_
  refine w_si (n := 10) hM 150 (dtab_at okX5_begin 5 rfl) (by decide) rfl ?_
  refine w_min (n := 13) hM ⟨lkM_X5_22, mS_J9_min_7cf53, iz_J9, mC_J9_min_7cf53⟩ (by decide) (Nat.le_of_ble_eq_true rfl) (dtab_at okX5_begin 6 rfl) rfl ?_
  refine w_put (C := RX5) (T := TX5) (i := 2) (ty := .int) (n := 16) hM rfl (by decide) ly_X5 tyX5_ok nmX5 lkF_X5_19 rfl (by decide +kernel) rfl rfl (dtab_at okX5_begin 7 rfl) rfl ?_
  refine w_ic (n := 17) hM 0 (dtab_at okX5_begin 8 rfl) (by decide) rfl ?_
  refine w_isn (n := 18) (lv' := [(3, vi 0), (0, vr 5 j), (1, vi f), (2, vi k)]) hM (dtab_at okX5_begin 9 rfl) (by decide) rfl rfl ?_
  refine WW.lvs [1, 0] (lv2 := [(0, vr 5 j), (3, vi 0)]) rfl ?_
  exact wLX5_begin_18 hM N r N (sti (sti S j 1 f) j 2 (if 150 < k then 150 else k)) j 0 h
def fX5_store (N : Nat) (S : PS) (j : Nat) (i : Int32) (v : Int32) : Option (PS) := (if (fX5_hasItem S j i) = 0 then (some S) else (if (S.1 j 1) = 0 then (if i < 0 ∨ 150 ≤ i.toNatClampNeg then none else (some (sta S (j + 8) i.toNatClampNeg v.toInt8.toInt32))) else (if (S.1 j 1) = 1 then (if i < 0 ∨ 150 ≤ i.toNatClampNeg then none else (some (sta S (j + 8) i.toNatClampNeg v.toInt16.toInt32))) else (if i < 0 ∨ 150 ≤ i.toNatClampNeg then none else (some (sta S (j + 8) i.toNatClampNeg v))))))
set_option maxHeartbeats 4000000 in
set_option maxRecDepth 100000 in
theorem c_X5_store {cy : ClassId × ClassId} {ad : Nat → Nat} {D : va_G} {l : Launch} (N : Nat) (S : PS) (j : Nat) (i : Int32) (v : Int32) (r : PS) (h : fX5_store N S j i v = some r) : PMv cy GC ad D l yX5_store (wA yX5_store cX5_store 3 none) rmX5_store [vr 5 j, vi i, vi v] S (fun S' => S' = r) := by
  refine PM.of (lv := [(0, vr 5 j), (1, vi i), (2, vi v)]) GC_ok (by decide) (Nat.le_of_ble_eq_true rfl) rfl (by simp) ?_
  intro p e s m args below meth c A hM
  rw [fX5_store] at h
  refine w_aln (q := 0) (n := 1) hM (dtab_at okX5_store 0 rfl) rfl rfl ?_
  refine w_iln (q := 1) (n := 2) hM (dtab_at okX5_store 1 rfl) rfl rfl ?_
  refine w_callVi (n := 5) (As := [vi i]) (rest := []) (k := 5) (j := j) (C := RX5) (T := TX5) (N := 3) hM (c_X5_hasItem S j i) lkM_X5_32 mv_X5_hasItem (by decide) rfl (by decide) rfl (Nat.le_of_ble_eq_true rfl) rfl (dtab_at okX5_store 2 rfl) rfl (fun x0 S0 hp0 => ?_)
  obtain ⟨hx_, hs_⟩ := hp0
  have hs_ := hs_.symm
  subst hs_
  subst hx_
  refine w_if_ne (n := 9) (n2 := 8) hM (dtab_at okX5_store 3 rfl) (by decide) rfl (fun h5 => ?_) (fun h5 => ?_)
  · skip
    rw [if_neg h5] at h
    refine w_aln (q := 0) (n := 10) hM (dtab_at okX5_store 5 rfl) rfl rfl ?_
    refine w_geti (C := RX5) (T := TX5) (i := 1) (n := 13) hM rfl (by decide) ly_X5 lkF_X5_15 (dtab_at okX5_store 6 rfl) rfl ?_
    refine w_if_ne (n := 27) (n2 := 16) hM (dtab_at okX5_store 7 rfl) (by decide) rfl (fun h13 => ?_) (fun h13 => ?_)
    · skip
      rw [if_neg h13] at h
      refine w_aln (q := 0) (n := 28) hM (dtab_at okX5_store 15 rfl) rfl rfl ?_
      refine w_geti (C := RX5) (T := TX5) (i := 1) (n := 31) hM rfl (by decide) ly_X5 lkF_X5_15 (dtab_at okX5_store 16 rfl) rfl ?_
      refine w_ic (n := 32) hM 1 (dtab_at okX5_store 17 rfl) (by decide) rfl ?_
      refine w_ic_ne (n := 46) (n2 := 35) hM (dtab_at okX5_store 18 rfl) (by decide) rfl (fun h32 => ?_) (fun h32 => ?_)
      · skip
        rw [if_neg h32] at h
        refine w_aln (q := 0) (n := 47) hM (dtab_at okX5_store 26 rfl) rfl rfl ?_
        refine w_getr (C := RX5) (T := TX5) (i := 0) (k2 := 250) (q := (j + 8)) (n := 50) hM rfl (by decide) rfc_5_0 ly_X5 lkF_X5_9 (dtab_at okX5_store 27 rfl) rfl ?_
        refine w_iln (q := 1) (n := 51) hM (dtab_at okX5_store 28 rfl) rfl rfl ?_
        refine w_iln (q := 2) (n := 52) hM (dtab_at okX5_store 29 rfl) rfl rfl ?_
        by_cases hg52 : i < 0 ∨ 150 ≤ i.toNatClampNeg
        · rw [if_pos hg52] at h; cases h
        rw [if_neg hg52] at h
        refine w_ast (nn := 150) (n := 53) hM rfl hg52 (dtab_at okX5_store 30 rfl) rfl ?_
        exact r_v hM (dtab_at okX5_store 31 rfl) (Option.some.inj h)
      · skip
        rw [if_pos h32] at h
        refine w_aln (q := 0) (n := 36) hM (dtab_at okX5_store 19 rfl) rfl rfl ?_
        refine w_getr (C := RX5) (T := TX5) (i := 0) (k2 := 250) (q := (j + 8)) (n := 39) hM rfl (by decide) rfc_5_0 ly_X5 lkF_X5_9 (dtab_at okX5_store 20 rfl) rfl ?_
        refine w_iln (q := 1) (n := 40) hM (dtab_at okX5_store 21 rfl) rfl rfl ?_
        refine w_iln (q := 2) (n := 41) hM (dtab_at okX5_store 22 rfl) rfl rfl ?_
        refine w_i2s (n := 42) hM (dtab_at okX5_store 23 rfl) rfl ?_
        by_cases hg42 : i < 0 ∨ 150 ≤ i.toNatClampNeg
        · rw [if_pos hg42] at h; cases h
        rw [if_neg hg42] at h
        refine w_ast (nn := 150) (n := 43) hM rfl hg42 (dtab_at okX5_store 24 rfl) rfl ?_
        refine w_goto (n := 53) hM (dtab_at okX5_store 25 rfl) (by decide) ?_
        exact r_v hM (dtab_at okX5_store 31 rfl) (Option.some.inj h)
    · skip
      rw [if_pos h13] at h
      refine w_aln (q := 0) (n := 17) hM (dtab_at okX5_store 8 rfl) rfl rfl ?_
      refine w_getr (C := RX5) (T := TX5) (i := 0) (k2 := 250) (q := (j + 8)) (n := 20) hM rfl (by decide) rfc_5_0 ly_X5 lkF_X5_9 (dtab_at okX5_store 9 rfl) rfl ?_
      refine w_iln (q := 1) (n := 21) hM (dtab_at okX5_store 10 rfl) rfl rfl ?_
      refine w_iln (q := 2) (n := 22) hM (dtab_at okX5_store 11 rfl) rfl rfl ?_
      refine w_i2b (n := 23) hM (dtab_at okX5_store 12 rfl) rfl ?_
      by_cases hg23 : i < 0 ∨ 150 ≤ i.toNatClampNeg
      · rw [if_pos hg23] at h; cases h
      rw [if_neg hg23] at h
      refine w_ast (nn := 150) (n := 24) hM rfl hg23 (dtab_at okX5_store 13 rfl) rfl ?_
      refine w_goto (n := 53) hM (dtab_at okX5_store 14 rfl) (by decide) ?_
      exact r_v hM (dtab_at okX5_store 31 rfl) (Option.some.inj h)
  · skip
    rw [if_pos h5] at h
    exact r_v hM (dtab_at okX5_store 4 rfl) (Option.some.inj h)
def fX5_readingAt (N : Nat) (S : PS) (j : Nat) (i : Int32) : Option (Int32) := (if (fX5_hasItem S j i) = 0 then (some (-1)) else (if i < 0 ∨ 150 ≤ i.toNatClampNeg then none else (if (fX9_isWithin S (S.2 (j + 8) i.toNatClampNeg) 0 30000) = 0 then (some (-1)) else (if i < 0 ∨ 150 ≤ i.toNatClampNeg then none else (some (S.2 (j + 8) i.toNatClampNeg))))))
set_option maxHeartbeats 4000000 in
set_option maxRecDepth 100000 in
theorem c_X5_readingAt {cy : ClassId × ClassId} {ad : Nat → Nat} {D : va_G} {l : Launch} (N : Nat) (S : PS) (j : Nat) (i : Int32) (r : Int32) (h : fX5_readingAt N S j i = some r) : PMi cy GC ad D l yX5_readingAt (wA yX5_readingAt cX5_readingAt 2 (some .int)) rmX5_readingAt [vr 5 j, vi i] S (fun x S' => x = r ∧ S' = S) := by
  refine PM.of (lv := [(0, vr 5 j), (1, vi i)]) GC_ok (by decide) (Nat.le_of_ble_eq_true rfl) rfl (by simp) ?_
  intro p e s m args below meth c A hM
  rw [fX5_readingAt] at h
  obtain ⟨S0, hS⟩ : ∃ S0 : PS, S = S0 := ⟨S, rfl⟩
  rw [show (fun (x : Int32) (S' : PS) => x = r ∧ S' = S) = (fun x S' => x = r ∧ S' = S0) by rw [hS]]
  refine w_aln (q := 0) (n := 1) hM (dtab_at okX5_readingAt 0 rfl) rfl rfl ?_
  refine w_iln (q := 1) (n := 2) hM (dtab_at okX5_readingAt 1 rfl) rfl rfl ?_
  refine w_callVi (n := 5) (As := [vi i]) (rest := []) (k := 5) (j := j) (C := RX5) (T := TX5) (N := 3) hM (c_X5_hasItem S j i) lkM_X5_32 mv_X5_hasItem (by decide) rfl (by decide) rfl (Nat.le_of_ble_eq_true rfl) rfl (dtab_at okX5_readingAt 2 rfl) rfl (fun x0 S0 hp0 => ?_)
  obtain ⟨hx_, hs_⟩ := hp0
  have hs_ := hs_.symm
  subst hs_
  subst hx_
  refine w_if_eq (n := 24) (n2 := 8) hM (dtab_at okX5_readingAt 3 rfl) (by decide) rfl (fun h5 => ?_) (fun h5 => ?_)
  · skip
    rw [if_pos h5] at h
    refine w_ic (n := 25) hM (-1) (dtab_at okX5_readingAt 12 rfl) (by decide) rfl ?_
    exact r_i hM (dtab_at okX5_readingAt 13 rfl) ⟨Option.some.inj h, hS⟩
  · skip
    rw [if_neg h5] at h
    refine w_aln (q := 0) (n := 9) hM (dtab_at okX5_readingAt 4 rfl) rfl rfl ?_
    refine w_getr (C := RX5) (T := TX5) (i := 0) (k2 := 250) (q := (j + 8)) (n := 12) hM rfl (by decide) rfc_5_0 ly_X5 lkF_X5_9 (dtab_at okX5_readingAt 5 rfl) rfl ?_
    refine w_iln (q := 1) (n := 13) hM (dtab_at okX5_readingAt 6 rfl) rfl rfl ?_
    by_cases hg13 : i < 0 ∨ 150 ≤ i.toNatClampNeg
    · rw [if_pos hg13] at h; cases h
    rw [if_neg hg13] at h
    refine w_ald (nn := 150) (n := 14) hM rfl hg13 (dtab_at okX5_readingAt 7 rfl) rfl ?_
    refine w_ic (n := 15) hM 0 (dtab_at okX5_readingAt 8 rfl) (by decide) rfl ?_
    refine w_si (n := 18) hM 30000 (dtab_at okX5_readingAt 9 rfl) (by decide) rfl ?_
    refine w_callSNi (n := 21) (As := [vi (S.2 (j + 8) i.toNatClampNeg), vi 0, vi 30000]) (rest := []) hM (c_X9_isWithin S (S.2 (j + 8) i.toNatClampNeg) 0 30000) (fun h => h.1) ms_X9_isWithin (by decide) rfl (Nat.le_of_ble_eq_true rfl) rfl (dtab_at okX5_readingAt 10 rfl) rfl (fun x1 S1 hp1 => ?_)
    obtain ⟨hx_, hs_⟩ := hp1
    have hs_ := hs_.symm
    subst hs_
    subst hx_
    refine w_if_ne (n := 26) (n2 := 24) hM (dtab_at okX5_readingAt 11 rfl) (by decide) rfl (fun h21 => ?_) (fun h21 => ?_)
    · skip
      rw [if_neg h21] at h
      refine w_aln (q := 0) (n := 27) hM (dtab_at okX5_readingAt 14 rfl) rfl rfl ?_
      refine w_getr (C := RX5) (T := TX5) (i := 0) (k2 := 250) (q := (j + 8)) (n := 30) hM rfl (by decide) rfc_5_0 ly_X5 lkF_X5_9 (dtab_at okX5_readingAt 15 rfl) rfl ?_
      refine w_iln (q := 1) (n := 31) hM (dtab_at okX5_readingAt 16 rfl) rfl rfl ?_
      by_cases hg31 : i < 0 ∨ 150 ≤ i.toNatClampNeg
      · rw [if_pos hg31] at h; cases h
      rw [if_neg hg31] at h
      refine w_ald (nn := 150) (n := 32) hM rfl hg31 (dtab_at okX5_readingAt 17 rfl) rfl ?_
      exact r_i hM (dtab_at okX5_readingAt 18 rfl) ⟨Option.some.inj h, hS⟩
    · skip
      rw [if_pos h21] at h
      refine w_ic (n := 25) hM (-1) (dtab_at okX5_readingAt 12 rfl) (by decide) rfl ?_
      exact r_i hM (dtab_at okX5_readingAt 13 rfl) ⟨Option.some.inj h, hS⟩
def fX5_hasWeldAt (N : Nat) (S : PS) (j : Nat) (i : Int32) : Option (Int32) := (if (fX5_hasItem S j i) = 0 then (some 0) else (if i < 0 ∨ 150 ≤ i.toNatClampNeg then none else (if (S.2 (j + 8) i.toNatClampNeg) = 0 then (some 0) else (some 1))))
set_option maxHeartbeats 4000000 in
set_option maxRecDepth 100000 in
theorem c_X5_hasWeldAt {cy : ClassId × ClassId} {ad : Nat → Nat} {D : va_G} {l : Launch} (N : Nat) (S : PS) (j : Nat) (i : Int32) (r : Int32) (h : fX5_hasWeldAt N S j i = some r) : PMi cy GC ad D l yX5_hasWeldAt (wA yX5_hasWeldAt cX5_hasWeldAt 2 (some .boolean)) rmX5_hasWeldAt [vr 5 j, vi i] S (fun x S' => x = r ∧ S' = S) := by
  refine PM.of (lv := [(0, vr 5 j), (1, vi i)]) GC_ok (by decide) (Nat.le_of_ble_eq_true rfl) rfl (by simp) ?_
  intro p e s m args below meth c A hM
  rw [fX5_hasWeldAt] at h
  obtain ⟨S0, hS⟩ : ∃ S0 : PS, S = S0 := ⟨S, rfl⟩
  rw [show (fun (x : Int32) (S' : PS) => x = r ∧ S' = S) = (fun x S' => x = r ∧ S' = S0) by rw [hS]]
  refine w_aln (q := 0) (n := 1) hM (dtab_at okX5_hasWeldAt 0 rfl) rfl rfl ?_
  refine w_iln (q := 1) (n := 2) hM (dtab_at okX5_hasWeldAt 1 rfl) rfl rfl ?_
  refine w_callVi (n := 5) (As := [vi i]) (rest := []) (k := 5) (j := j) (C := RX5) (T := TX5) (N := 3) hM (c_X5_hasItem S j i) lkM_X5_32 mv_X5_hasItem (by decide) rfl (by decide) rfl (Nat.le_of_ble_eq_true rfl) rfl (dtab_at okX5_hasWeldAt 2 rfl) rfl (fun x0 S0 hp0 => ?_)
  obtain ⟨hx_, hs_⟩ := hp0
  have hs_ := hs_.symm
  subst hs_
  subst hx_
  refine w_if_eq (n := 21) (n2 := 8) hM (dtab_at okX5_hasWeldAt 3 rfl) (by decide) rfl (fun h5 => ?_) (fun h5 => ?_)
  · skip
    rw [if_pos h5] at h
    refine w_ic (n := 22) hM 0 (dtab_at okX5_hasWeldAt 11 rfl) (by decide) rfl ?_
    exact r_z hM (by decide) (dtab_at okX5_hasWeldAt 12 rfl) ⟨Option.some.inj h, hS⟩
  · skip
    rw [if_neg h5] at h
    refine w_aln (q := 0) (n := 9) hM (dtab_at okX5_hasWeldAt 4 rfl) rfl rfl ?_
    refine w_getr (C := RX5) (T := TX5) (i := 0) (k2 := 250) (q := (j + 8)) (n := 12) hM rfl (by decide) rfc_5_0 ly_X5 lkF_X5_9 (dtab_at okX5_hasWeldAt 5 rfl) rfl ?_
    refine w_iln (q := 1) (n := 13) hM (dtab_at okX5_hasWeldAt 6 rfl) rfl rfl ?_
    by_cases hg13 : i < 0 ∨ 150 ≤ i.toNatClampNeg
    · rw [if_pos hg13] at h; cases h
    rw [if_neg hg13] at h
    refine w_ald (nn := 150) (n := 14) hM rfl hg13 (dtab_at okX5_hasWeldAt 7 rfl) rfl ?_
    refine w_if_eq (n := 21) (n2 := 17) hM (dtab_at okX5_hasWeldAt 8 rfl) (by decide) rfl (fun h14 => ?_) (fun h14 => ?_)
    · skip
      rw [if_pos h14] at h
      refine w_ic (n := 22) hM 0 (dtab_at okX5_hasWeldAt 11 rfl) (by decide) rfl ?_
      exact r_z hM (by decide) (dtab_at okX5_hasWeldAt 12 rfl) ⟨Option.some.inj h, hS⟩
    · skip
      rw [if_neg h14] at h
      refine w_ic (n := 18) hM 1 (dtab_at okX5_hasWeldAt 9 rfl) (by decide) rfl ?_
      refine w_goto (n := 22) hM (dtab_at okX5_hasWeldAt 10 rfl) (by decide) ?_
      exact r_z hM (by decide) (dtab_at okX5_hasWeldAt 12 rfl) ⟨Option.some.inj h, hS⟩
def fX6_reelAt (S : PS) (j : Nat) (i : Int32) : Option (Nat × Nat) := if i.toInt < 0 ∨ 3 < i.toInt then none else if i = 0 then some (5, (4 * j - 1)) else if i = 1 then some (5, (4 * j)) else if i = 2 then some (5, (4 * j + 1)) else some (5, (4 * j + 2))
set_option maxHeartbeats 4000000 in
set_option maxRecDepth 100000 in
theorem c_X6_reelAt {cy : ClassId × ClassId} {ad : Nat → Nat} {D : va_G} {l : Launch} (S : PS) (j : Nat) (i : Int32)  : PMr cy GC ad D l yX6_reelAt (wA yX6_reelAt cX6_reelAt 2 (some (.object "PigLine$Reel"))) rmX6_reelAt [vr 6 j, vi i] S (fun x S' => x = (fX6_reelAt S j i) ∧ S' = S) := by
  refine PM.of (lv := [(0, vr 6 j), (1, vi i)]) GC_ok (by decide) (Nat.le_of_ble_eq_true rfl) rfl (by simp) ?_
  intro p e s m args below meth c A hM
  refine w_iln (q := 1) (n := 1) hM (dtab_at okX6_reelAt 0 rfl) rfl rfl ?_
  by_cases hts1 : i.toInt < 0 ∨ 3 < i.toInt
  · refine w_tsOut (n := 52) hM (dtab_at okX6_reelAt 1 rfl) hts1 (by decide) ?_
    refine w_null (n := 53) hM (dtab_at okX6_reelAt 14 rfl) rfl ?_
    exact r_a hM (dtab_at okX6_reelAt 15 rfl) ⟨by rw [fX6_reelAt, if_pos hts1], rfl⟩
  · have htn1 := hts1
    obtain hts1 | hts1 | hts1 | hts1 : i = 0 ∨ i = 1 ∨ i = 2 ∨ i = 3 := sw0_4 hts1
    · refine w_tsIn (n := 32) (off := 31) hM (dtab_at okX6_reelAt 1 rfl) (by rw [hts1]; decide) (by rw [hts1]; decide) (by rw [hts1]; rfl) (by decide) ?_
      refine w_aln (q := 0) (n := 33) hM (dtab_at okX6_reelAt 2 rfl) rfl rfl ?_
      refine w_getr (C := RX6) (T := TX6) (i := 0) (k2 := 5) (q := (4 * j - 1)) (n := 36) hM rfl (by decide) rfc_6_0 ly_X6 lkF_X6_12 (dtab_at okX6_reelAt 3 rfl) rfl ?_
      exact r_a hM (dtab_at okX6_reelAt 4 rfl) ⟨by rw [fX6_reelAt, if_neg htn1, if_pos hts1], rfl⟩
    · refine w_tsIn (n := 37) (off := 36) hM (dtab_at okX6_reelAt 1 rfl) (by rw [hts1]; decide) (by rw [hts1]; decide) (by rw [hts1]; rfl) (by decide) ?_
      refine w_aln (q := 0) (n := 38) hM (dtab_at okX6_reelAt 5 rfl) rfl rfl ?_
      refine w_getr (C := RX6) (T := TX6) (i := 1) (k2 := 5) (q := (4 * j)) (n := 41) hM rfl (by decide) rfc_6_1 ly_X6 lkF_X6_18 (dtab_at okX6_reelAt 6 rfl) rfl ?_
      exact r_a hM (dtab_at okX6_reelAt 7 rfl) ⟨by rw [fX6_reelAt, if_neg htn1, if_neg (show ¬ i = 0 by rw [hts1]; decide), if_pos hts1], rfl⟩
    · refine w_tsIn (n := 42) (off := 41) hM (dtab_at okX6_reelAt 1 rfl) (by rw [hts1]; decide) (by rw [hts1]; decide) (by rw [hts1]; rfl) (by decide) ?_
      refine w_aln (q := 0) (n := 43) hM (dtab_at okX6_reelAt 8 rfl) rfl rfl ?_
      refine w_getr (C := RX6) (T := TX6) (i := 2) (k2 := 5) (q := (4 * j + 1)) (n := 46) hM rfl (by decide) rfc_6_2 ly_X6 lkF_X6_21 (dtab_at okX6_reelAt 9 rfl) rfl ?_
      exact r_a hM (dtab_at okX6_reelAt 10 rfl) ⟨by rw [fX6_reelAt, if_neg htn1, if_neg (show ¬ i = 0 by rw [hts1]; decide), if_neg (show ¬ i = 1 by rw [hts1]; decide), if_pos hts1], rfl⟩
    · refine w_tsIn (n := 47) (off := 46) hM (dtab_at okX6_reelAt 1 rfl) (by rw [hts1]; decide) (by rw [hts1]; decide) (by rw [hts1]; rfl) (by decide) ?_
      refine w_aln (q := 0) (n := 48) hM (dtab_at okX6_reelAt 11 rfl) rfl rfl ?_
      refine w_getr (C := RX6) (T := TX6) (i := 3) (k2 := 5) (q := (4 * j + 2)) (n := 51) hM rfl (by decide) rfc_6_3 ly_X6 lkF_X6_24 (dtab_at okX6_reelAt 12 rfl) rfl ?_
      exact r_a hM (dtab_at okX6_reelAt 13 rfl) ⟨by rw [fX6_reelAt, if_neg htn1, if_neg (show ¬ i = 0 by rw [hts1]; decide), if_neg (show ¬ i = 1 by rw [hts1]; decide), if_neg (show ¬ i = 2 by rw [hts1]; decide)], rfl⟩
def fX3_hasMark (S : PS) (j : Nat) (i : Int32) : Int32 := if i < 0 then 0 else (if (S.1 j 6) ≤ i then 0 else 1)
set_option maxHeartbeats 4000000 in
set_option maxRecDepth 100000 in
theorem c_X3_hasMark {cy : ClassId × ClassId} {ad : Nat → Nat} {D : va_G} {l : Launch} (S : PS) (j : Nat) (i : Int32)  : PMi cy GC ad D l yX3_hasMark (wA yX3_hasMark cX3_hasMark 2 (some .boolean)) rmX3_hasMark [vr 3 j, vi i] S (fun x S' => x = (fX3_hasMark S j i) ∧ S' = S) := by
  refine PM.of (lv := [(0, vr 3 j), (1, vi i)]) GC_ok (by decide) (Nat.le_of_ble_eq_true rfl) rfl (by simp) ?_
  intro p e s m args below meth c A hM
  refine w_iln (q := 1) (n := 1) hM (dtab_at okX3_hasMark 0 rfl) rfl rfl ?_
  refine w_if_lt (n := 16) (n2 := 4) hM (dtab_at okX3_hasMark 1 rfl) (by decide) rfl (fun h1 => ?_) (fun h1 => ?_)
  · skip
    refine w_ic (n := 17) hM 0 (dtab_at okX3_hasMark 8 rfl) (by decide) rfl ?_
    exact r_z hM (by decide) (dtab_at okX3_hasMark 9 rfl) ⟨by rw [fX3_hasMark, if_pos h1], rfl⟩
  · skip
    refine w_iln (q := 1) (n := 5) hM (dtab_at okX3_hasMark 2 rfl) rfl rfl ?_
    refine w_aln (q := 0) (n := 6) hM (dtab_at okX3_hasMark 3 rfl) rfl rfl ?_
    refine w_geti (C := RX3) (T := TX3) (i := 6) (n := 9) hM rfl (by decide) ly_X3 lkF_X3_30 (dtab_at okX3_hasMark 4 rfl) rfl ?_
    refine w_ic_ge (n := 16) (n2 := 12) hM (dtab_at okX3_hasMark 5 rfl) (by decide) rfl (fun h9 => ?_) (fun h9 => ?_)
    · skip
      refine w_ic (n := 17) hM 0 (dtab_at okX3_hasMark 8 rfl) (by decide) rfl ?_
      exact r_z hM (by decide) (dtab_at okX3_hasMark 9 rfl) ⟨by rw [fX3_hasMark, if_neg h1, if_pos h9], rfl⟩
    · skip
      refine w_ic (n := 13) hM 1 (dtab_at okX3_hasMark 6 rfl) (by decide) rfl ?_
      refine w_goto (n := 17) hM (dtab_at okX3_hasMark 7 rfl) (by decide) ?_
      exact r_z hM (by decide) (dtab_at okX3_hasMark 9 rfl) ⟨by rw [fX3_hasMark, if_neg h1, if_neg h9], rfl⟩
def fX3_endOf (N : Nat) (S : PS) (j : Nat) (i : Int32) : Option (Int32) := (if i < 0 ∨ 40 ≤ i.toNatClampNeg then none else (if i < 0 ∨ 40 ≤ i.toNatClampNeg then none else (some ((S.2 (j + 2) i.toNatClampNeg) + (S.2 (j + 8) i.toNatClampNeg)))))
set_option maxHeartbeats 4000000 in
set_option maxRecDepth 100000 in
theorem c_X3_endOf {cy : ClassId × ClassId} {ad : Nat → Nat} {D : va_G} {l : Launch} (N : Nat) (S : PS) (j : Nat) (i : Int32) (r : Int32) (h : fX3_endOf N S j i = some r) : PMi cy GC ad D l yX3_endOf (wA yX3_endOf cX3_endOf 2 (some .int)) rmX3_endOf [vr 3 j, vi i] S (fun x S' => x = r ∧ S' = S) := by
  refine PM.of (lv := [(0, vr 3 j), (1, vi i)]) GC_ok (by decide) (Nat.le_of_ble_eq_true rfl) rfl (by simp) ?_
  intro p e s m args below meth c A hM
  rw [fX3_endOf] at h
  obtain ⟨S0, hS⟩ : ∃ S0 : PS, S = S0 := ⟨S, rfl⟩
  rw [show (fun (x : Int32) (S' : PS) => x = r ∧ S' = S) = (fun x S' => x = r ∧ S' = S0) by rw [hS]]
  refine w_aln (q := 0) (n := 1) hM (dtab_at okX3_endOf 0 rfl) rfl rfl ?_
  refine w_getr (C := RX3) (T := TX3) (i := 0) (k2 := 140) (q := (j + 2)) (n := 4) hM rfl (by decide) rfc_3_0 ly_X3 lkF_X3_9 (dtab_at okX3_endOf 1 rfl) rfl ?_
  refine w_iln (q := 1) (n := 5) hM (dtab_at okX3_endOf 2 rfl) rfl rfl ?_
  by_cases hg5 : i < 0 ∨ 40 ≤ i.toNatClampNeg
  · rw [if_pos hg5] at h; cases h
  rw [if_neg hg5] at h
  refine w_ald (nn := 40) (n := 6) hM rfl hg5 (dtab_at okX3_endOf 3 rfl) rfl ?_
  refine w_aln (q := 0) (n := 7) hM (dtab_at okX3_endOf 4 rfl) rfl rfl ?_
  refine w_getr (C := RX3) (T := TX3) (i := 3) (k2 := 140) (q := (j + 8)) (n := 10) hM rfl (by decide) rfc_3_3 ly_X3 lkF_X3_21 (dtab_at okX3_endOf 5 rfl) rfl ?_
  refine w_iln (q := 1) (n := 11) hM (dtab_at okX3_endOf 6 rfl) rfl rfl ?_
  by_cases hg11 : i < 0 ∨ 40 ≤ i.toNatClampNeg
  · rw [if_pos hg11] at h; cases h
  rw [if_neg hg11] at h
  refine w_ald (nn := 40) (n := 12) hM rfl hg11 (dtab_at okX3_endOf 7 rfl) rfl ?_
  refine w_iadd (n := 13) hM (dtab_at okX3_endOf 8 rfl) rfl ?_
  exact r_i hM (dtab_at okX3_endOf 9 rfl) ⟨Option.some.inj h, hS⟩
def fX3_fact (N : Nat) (S : PS) (j : Nat) (i : Int32) (w : Int32) : Option (Int32) := (if w.toInt < 0 ∨ 3 < w.toInt then (if i < 0 ∨ 40 ≤ i.toNatClampNeg then none else (some (S.2 (j + 10) i.toNatClampNeg))) else if w = 0 then (if i < 0 ∨ 40 ≤ i.toNatClampNeg then none else (some (S.2 (j + 2) i.toNatClampNeg))) else if w = 1 then (if i < 0 ∨ 40 ≤ i.toNatClampNeg then none else (some (S.2 (j + 4) i.toNatClampNeg))) else if w = 2 then (if i < 0 ∨ 40 ≤ i.toNatClampNeg then none else (some (S.2 (j + 6) i.toNatClampNeg))) else (if i < 0 ∨ 40 ≤ i.toNatClampNeg then none else (some (S.2 (j + 8) i.toNatClampNeg))))
set_option maxHeartbeats 4000000 in
set_option maxRecDepth 100000 in
theorem c_X3_fact {cy : ClassId × ClassId} {ad : Nat → Nat} {D : va_G} {l : Launch} (N : Nat) (S : PS) (j : Nat) (i : Int32) (w : Int32) (r : Int32) (h : fX3_fact N S j i w = some r) : PMi cy GC ad D l yX3_fact (wA yX3_fact cX3_fact 3 (some .int)) rmX3_fact [vr 3 j, vi i, vi w] S (fun x S' => x = r ∧ S' = S) := by
  refine PM.of (lv := [(0, vr 3 j), (1, vi i), (2, vi w)]) GC_ok (by decide) (Nat.le_of_ble_eq_true rfl) rfl (by simp) ?_
  intro p e s m args below meth c A hM
  rw [fX3_fact] at h
  obtain ⟨S0, hS⟩ : ∃ S0 : PS, S = S0 := ⟨S, rfl⟩
  rw [show (fun (x : Int32) (S' : PS) => x = r ∧ S' = S) = (fun x S' => x = r ∧ S' = S0) by rw [hS]]
  refine w_iln (q := 2) (n := 1) hM (dtab_at okX3_fact 0 rfl) rfl rfl ?_
  by_cases hts1 : w.toInt < 0 ∨ 3 < w.toInt
  · refine w_tsOut (n := 60) hM (dtab_at okX3_fact 1 rfl) hts1 (by decide) ?_
    rw [if_pos hts1] at h
    refine w_aln (q := 0) (n := 61) hM (dtab_at okX3_fact 22 rfl) rfl rfl ?_
    refine w_getr (C := RX3) (T := TX3) (i := 4) (k2 := 140) (q := (j + 10)) (n := 64) hM rfl (by decide) rfc_3_4 ly_X3 lkF_X3_24 (dtab_at okX3_fact 23 rfl) rfl ?_
    refine w_iln (q := 1) (n := 65) hM (dtab_at okX3_fact 24 rfl) rfl rfl ?_
    by_cases hg65 : i < 0 ∨ 40 ≤ i.toNatClampNeg
    · rw [if_pos hg65] at h; cases h
    rw [if_neg hg65] at h
    refine w_ald (nn := 40) (n := 66) hM rfl hg65 (dtab_at okX3_fact 25 rfl) rfl ?_
    exact r_i hM (dtab_at okX3_fact 26 rfl) ⟨Option.some.inj h, hS⟩
  · have htn1 := hts1
    obtain hts1 | hts1 | hts1 | hts1 : w = 0 ∨ w = 1 ∨ w = 2 ∨ w = 3 := sw0_4 hts1
    · refine w_tsIn (n := 32) (off := 31) hM (dtab_at okX3_fact 1 rfl) (by rw [hts1]; decide) (by rw [hts1]; decide) (by rw [hts1]; rfl) (by decide) ?_
      rw [if_neg htn1, if_pos hts1] at h
      refine w_aln (q := 0) (n := 33) hM (dtab_at okX3_fact 2 rfl) rfl rfl ?_
      refine w_getr (C := RX3) (T := TX3) (i := 0) (k2 := 140) (q := (j + 2)) (n := 36) hM rfl (by decide) rfc_3_0 ly_X3 lkF_X3_9 (dtab_at okX3_fact 3 rfl) rfl ?_
      refine w_iln (q := 1) (n := 37) hM (dtab_at okX3_fact 4 rfl) rfl rfl ?_
      by_cases hg37 : i < 0 ∨ 40 ≤ i.toNatClampNeg
      · rw [if_pos hg37] at h; cases h
      rw [if_neg hg37] at h
      refine w_ald (nn := 40) (n := 38) hM rfl hg37 (dtab_at okX3_fact 5 rfl) rfl ?_
      exact r_i hM (dtab_at okX3_fact 6 rfl) ⟨Option.some.inj h, hS⟩
    · refine w_tsIn (n := 39) (off := 38) hM (dtab_at okX3_fact 1 rfl) (by rw [hts1]; decide) (by rw [hts1]; decide) (by rw [hts1]; rfl) (by decide) ?_
      rw [if_neg htn1, if_neg (show ¬ w = 0 by rw [hts1]; decide), if_pos hts1] at h
      refine w_aln (q := 0) (n := 40) hM (dtab_at okX3_fact 7 rfl) rfl rfl ?_
      refine w_getr (C := RX3) (T := TX3) (i := 1) (k2 := 140) (q := (j + 4)) (n := 43) hM rfl (by decide) rfc_3_1 ly_X3 lkF_X3_15 (dtab_at okX3_fact 8 rfl) rfl ?_
      refine w_iln (q := 1) (n := 44) hM (dtab_at okX3_fact 9 rfl) rfl rfl ?_
      by_cases hg44 : i < 0 ∨ 40 ≤ i.toNatClampNeg
      · rw [if_pos hg44] at h; cases h
      rw [if_neg hg44] at h
      refine w_ald (nn := 40) (n := 45) hM rfl hg44 (dtab_at okX3_fact 10 rfl) rfl ?_
      exact r_i hM (dtab_at okX3_fact 11 rfl) ⟨Option.some.inj h, hS⟩
    · refine w_tsIn (n := 46) (off := 45) hM (dtab_at okX3_fact 1 rfl) (by rw [hts1]; decide) (by rw [hts1]; decide) (by rw [hts1]; rfl) (by decide) ?_
      rw [if_neg htn1, if_neg (show ¬ w = 0 by rw [hts1]; decide), if_neg (show ¬ w = 1 by rw [hts1]; decide), if_pos hts1] at h
      refine w_aln (q := 0) (n := 47) hM (dtab_at okX3_fact 12 rfl) rfl rfl ?_
      refine w_getr (C := RX3) (T := TX3) (i := 2) (k2 := 140) (q := (j + 6)) (n := 50) hM rfl (by decide) rfc_3_2 ly_X3 lkF_X3_18 (dtab_at okX3_fact 13 rfl) rfl ?_
      refine w_iln (q := 1) (n := 51) hM (dtab_at okX3_fact 14 rfl) rfl rfl ?_
      by_cases hg51 : i < 0 ∨ 40 ≤ i.toNatClampNeg
      · rw [if_pos hg51] at h; cases h
      rw [if_neg hg51] at h
      refine w_ald (nn := 40) (n := 52) hM rfl hg51 (dtab_at okX3_fact 15 rfl) rfl ?_
      exact r_i hM (dtab_at okX3_fact 16 rfl) ⟨Option.some.inj h, hS⟩
    · refine w_tsIn (n := 53) (off := 52) hM (dtab_at okX3_fact 1 rfl) (by rw [hts1]; decide) (by rw [hts1]; decide) (by rw [hts1]; rfl) (by decide) ?_
      rw [if_neg htn1, if_neg (show ¬ w = 0 by rw [hts1]; decide), if_neg (show ¬ w = 1 by rw [hts1]; decide), if_neg (show ¬ w = 2 by rw [hts1]; decide)] at h
      refine w_aln (q := 0) (n := 54) hM (dtab_at okX3_fact 17 rfl) rfl rfl ?_
      refine w_getr (C := RX3) (T := TX3) (i := 3) (k2 := 140) (q := (j + 8)) (n := 57) hM rfl (by decide) rfc_3_3 ly_X3 lkF_X3_21 (dtab_at okX3_fact 18 rfl) rfl ?_
      refine w_iln (q := 1) (n := 58) hM (dtab_at okX3_fact 19 rfl) rfl rfl ?_
      by_cases hg58 : i < 0 ∨ 40 ≤ i.toNatClampNeg
      · rw [if_pos hg58] at h; cases h
      rw [if_neg hg58] at h
      refine w_ald (nn := 40) (n := 59) hM rfl hg58 (dtab_at okX3_fact 20 rfl) rfl ?_
      exact r_i hM (dtab_at okX3_fact 21 rfl) ⟨Option.some.inj h, hS⟩
def fX6_readingsTogether (N : Nat) (S : PS) (j : Nat) (i : Int32) : Option (Int32) := ((fX5_readingAt N S (4 * j - 1) i).bind fun r0 => ((fX5_readingAt N S (4 * j) i).bind fun r1 => ((fX5_readingAt N S (4 * j + 1) i).bind fun r2 => (if (if (if r2 < r1 then r2 else r1) < r0 then (if r2 < r1 then r2 else r1) else r0) = (-1) then (some (if r0 < (if r1 < r2 then r2 else r1) then (if r1 < r2 then r2 else r1) else r0)) else (some ((((r0 + r1) + r2) - (if (if r2 < r1 then r2 else r1) < r0 then (if r2 < r1 then r2 else r1) else r0)) - (if r0 < (if r1 < r2 then r2 else r1) then (if r1 < r2 then r2 else r1) else r0)))))))
set_option maxHeartbeats 4000000 in
set_option maxRecDepth 100000 in
theorem c_X6_readingsTogether {cy : ClassId × ClassId} {ad : Nat → Nat} {D : va_G} {l : Launch} (N : Nat) (S : PS) (j : Nat) (i : Int32) (r : Int32) (h : fX6_readingsTogether N S j i = some r) : PMi cy GC ad D l yX6_readingsTogether (wA yX6_readingsTogether cX6_readingsTogether 7 (some .int)) rmX6_readingsTogether [vr 6 j, vi i] S (fun x S' => x = r ∧ S' = S) := by
  refine PM.of (lv := [(0, vr 6 j), (1, vi i)]) GC_ok (by decide) (Nat.le_of_ble_eq_true rfl) rfl (by simp) ?_
  intro p e s m args below meth c A hM
  rw [fX6_readingsTogether] at h
  obtain ⟨S0, hS⟩ : ∃ S0 : PS, S = S0 := ⟨S, rfl⟩
  rw [show (fun (x : Int32) (S' : PS) => x = r ∧ S' = S) = (fun x S' => x = r ∧ S' = S0) by rw [hS]]
  refine w_aln (q := 0) (n := 1) hM (dtab_at okX6_readingsTogether 0 rfl) rfl rfl ?_
  refine w_getr (C := RX6) (T := TX6) (i := 0) (k2 := 5) (q := (4 * j - 1)) (n := 4) hM rfl (by decide) rfc_6_0 ly_X6 lkF_X6_12 (dtab_at okX6_readingsTogether 1 rfl) rfl ?_
  refine w_iln (q := 1) (n := 5) hM (dtab_at okX6_readingsTogether 2 rfl) rfl rfl ?_
  obtain ⟨r0, hr0, h⟩ := Option.bind_eq_some_iff.mp h
  refine w_callVi (n := 8) (As := [vi i]) (rest := []) (k := 5) (j := (4 * j - 1)) (C := RX5) (T := TX5) (N := 3) hM (c_X5_readingAt N S (4 * j - 1) i r0 hr0) lkM_X6_74 mv_X5_readingAt (by decide) rfl (by decide) rfl (Nat.le_of_ble_eq_true rfl) rfl (dtab_at okX6_readingsTogether 3 rfl) rfl (fun x0 S0 hp0 => ?_)
  obtain ⟨hx_, hs_⟩ := hp0
  have hs_ := hs_.symm
  have hx_ := hx_.symm
  subst hs_
  subst hx_
  refine w_isn (n := 9) (lv' := [(2, vi r0), (0, vr 6 j), (1, vi i)]) hM (dtab_at okX6_readingsTogether 4 rfl) (by decide) rfl rfl ?_
  refine w_aln (q := 1) (n := 10) hM (dtab_at okX6_readingsTogether 5 rfl) rfl rfl ?_
  refine w_getr (C := RX6) (T := TX6) (i := 1) (k2 := 5) (q := (4 * j)) (n := 13) hM rfl (by decide) rfc_6_1 ly_X6 lkF_X6_18 (dtab_at okX6_readingsTogether 6 rfl) rfl ?_
  refine w_iln (q := 2) (n := 14) hM (dtab_at okX6_readingsTogether 7 rfl) rfl rfl ?_
  obtain ⟨r1, hr1, h⟩ := Option.bind_eq_some_iff.mp h
  refine w_callVi (n := 17) (As := [vi i]) (rest := []) (k := 5) (j := (4 * j)) (C := RX5) (T := TX5) (N := 3) hM (c_X5_readingAt N S (4 * j) i r1 hr1) lkM_X6_74 mv_X5_readingAt (by decide) rfl (by decide) rfl (Nat.le_of_ble_eq_true rfl) rfl (dtab_at okX6_readingsTogether 8 rfl) rfl (fun x1 S1 hp1 => ?_)
  obtain ⟨hx_, hs_⟩ := hp1
  have hs_ := hs_.symm
  have hx_ := hx_.symm
  subst hs_
  subst hx_
  refine w_isn (n := 18) (lv' := [(3, vi r1), (2, vi r0), (0, vr 6 j), (1, vi i)]) hM (dtab_at okX6_readingsTogether 9 rfl) (by decide) rfl rfl ?_
  refine w_aln (q := 2) (n := 19) hM (dtab_at okX6_readingsTogether 10 rfl) rfl rfl ?_
  refine w_getr (C := RX6) (T := TX6) (i := 2) (k2 := 5) (q := (4 * j + 1)) (n := 22) hM rfl (by decide) rfc_6_2 ly_X6 lkF_X6_21 (dtab_at okX6_readingsTogether 11 rfl) rfl ?_
  refine w_iln (q := 3) (n := 23) hM (dtab_at okX6_readingsTogether 12 rfl) rfl rfl ?_
  obtain ⟨r2, hr2, h⟩ := Option.bind_eq_some_iff.mp h
  refine w_callVi (n := 26) (As := [vi i]) (rest := []) (k := 5) (j := (4 * j + 1)) (C := RX5) (T := TX5) (N := 3) hM (c_X5_readingAt N S (4 * j + 1) i r2 hr2) lkM_X6_74 mv_X5_readingAt (by decide) rfl (by decide) rfl (Nat.le_of_ble_eq_true rfl) rfl (dtab_at okX6_readingsTogether 13 rfl) rfl (fun x2 S2 hp2 => ?_)
  obtain ⟨hx_, hs_⟩ := hp2
  have hs_ := hs_.symm
  have hx_ := hx_.symm
  subst hs_
  subst hx_
  refine w_is (n := 28) (lv' := [(4, vi r2), (3, vi r1), (2, vi r0), (0, vr 6 j), (1, vi i)]) hM (dtab_at okX6_readingsTogether 14 rfl) (by decide) rfl rfl ?_
  refine w_iln (q := 2) (n := 29) hM (dtab_at okX6_readingsTogether 15 rfl) rfl rfl ?_
  refine w_iln (q := 1) (n := 30) hM (dtab_at okX6_readingsTogether 16 rfl) rfl rfl ?_
  refine w_il (q := 0) (n := 32) hM (dtab_at okX6_readingsTogether 17 rfl) rfl rfl ?_
  refine w_min (n := 35) hM ⟨lkM_X6_77, mS_J9_min_7cf53, iz_J9, mC_J9_min_7cf53⟩ (by decide) (Nat.le_of_ble_eq_true rfl) (dtab_at okX6_readingsTogether 18 rfl) rfl ?_
  refine w_min (n := 38) hM ⟨lkM_X6_77, mS_J9_min_7cf53, iz_J9, mC_J9_min_7cf53⟩ (by decide) (Nat.le_of_ble_eq_true rfl) (dtab_at okX6_readingsTogether 19 rfl) rfl ?_
  refine w_is (n := 40) (lv' := [(5, vi (if (if r2 < r1 then r2 else r1) < r0 then (if r2 < r1 then r2 else r1) else r0)), (4, vi r2), (3, vi r1), (2, vi r0), (0, vr 6 j), (1, vi i)]) hM (dtab_at okX6_readingsTogether 20 rfl) (by decide) rfl rfl ?_
  refine w_iln (q := 3) (n := 41) hM (dtab_at okX6_readingsTogether 21 rfl) rfl rfl ?_
  refine w_iln (q := 2) (n := 42) hM (dtab_at okX6_readingsTogether 22 rfl) rfl rfl ?_
  refine w_il (q := 1) (n := 44) hM (dtab_at okX6_readingsTogether 23 rfl) rfl rfl ?_
  refine w_max (n := 47) hM ⟨lkM_X6_51, mS_J9_max_7cf53, iz_J9, mC_J9_max_7cf53⟩ (by decide) (Nat.le_of_ble_eq_true rfl) (dtab_at okX6_readingsTogether 24 rfl) rfl ?_
  refine w_max (n := 50) hM ⟨lkM_X6_51, mS_J9_max_7cf53, iz_J9, mC_J9_max_7cf53⟩ (by decide) (Nat.le_of_ble_eq_true rfl) (dtab_at okX6_readingsTogether 25 rfl) rfl ?_
  refine w_is (n := 52) (lv' := [(6, vi (if r0 < (if r1 < r2 then r2 else r1) then (if r1 < r2 then r2 else r1) else r0)), (5, vi (if (if r2 < r1 then r2 else r1) < r0 then (if r2 < r1 then r2 else r1) else r0)), (4, vi r2), (3, vi r1), (2, vi r0), (0, vr 6 j), (1, vi i)]) hM (dtab_at okX6_readingsTogether 26 rfl) (by decide) rfl rfl ?_
  refine w_il (q := 1) (n := 54) hM (dtab_at okX6_readingsTogether 27 rfl) rfl rfl ?_
  refine w_ic (n := 55) hM (-1) (dtab_at okX6_readingsTogether 28 rfl) (by decide) rfl ?_
  refine w_ic_ne (n := 63) (n2 := 58) hM (dtab_at okX6_readingsTogether 29 rfl) (by decide) rfl (fun h55 => ?_) (fun h55 => ?_)
  · skip
    rw [if_neg h55] at h
    refine w_iln (q := 4) (n := 64) hM (dtab_at okX6_readingsTogether 32 rfl) rfl rfl ?_
    refine w_iln (q := 3) (n := 65) hM (dtab_at okX6_readingsTogether 33 rfl) rfl rfl ?_
    refine w_iadd (n := 66) hM (dtab_at okX6_readingsTogether 34 rfl) rfl ?_
    refine w_il (q := 2) (n := 68) hM (dtab_at okX6_readingsTogether 35 rfl) rfl rfl ?_
    refine w_iadd (n := 69) hM (dtab_at okX6_readingsTogether 36 rfl) rfl ?_
    refine w_il (q := 1) (n := 71) hM (dtab_at okX6_readingsTogether 37 rfl) rfl rfl ?_
    refine w_isub (n := 72) hM (dtab_at okX6_readingsTogether 38 rfl) rfl ?_
    refine w_il (q := 0) (n := 74) hM (dtab_at okX6_readingsTogether 39 rfl) rfl rfl ?_
    refine w_isub (n := 75) hM (dtab_at okX6_readingsTogether 40 rfl) rfl ?_
    exact r_i hM (dtab_at okX6_readingsTogether 41 rfl) ⟨Option.some.inj h, hS⟩
  · skip
    rw [if_pos h55] at h
    refine w_il (q := 0) (n := 60) hM (dtab_at okX6_readingsTogether 30 rfl) rfl rfl ?_
    refine w_goto (n := 75) hM (dtab_at okX6_readingsTogether 31 rfl) (by decide) ?_
    exact r_i hM (dtab_at okX6_readingsTogether 41 rfl) ⟨Option.some.inj h, hS⟩
def fX6_fact (N : Nat) (S : PS) (j : Nat) (i : Int32) : Option (Int32) := (if i.toInt < 0 ∨ 2 < i.toInt then (some (S.1 j 11)) else if i = 0 then (some (S.1 j 9)) else if i = 1 then (some (S.1 j 10)) else (if (S.1 j 9) ≤ 0 then (some 0) else (if ((S.1 j 9) - 1) < 0 ∨ 150 ≤ ((S.1 j 9) - 1).toNatClampNeg then none else (some (S.2 (j + 32) ((S.1 j 9) - 1).toNatClampNeg)))))
set_option maxHeartbeats 4000000 in
set_option maxRecDepth 100000 in
theorem c_X6_fact {cy : ClassId × ClassId} {ad : Nat → Nat} {D : va_G} {l : Launch} (N : Nat) (S : PS) (j : Nat) (i : Int32) (r : Int32) (h : fX6_fact N S j i = some r) : PMi cy GC ad D l yX6_fact (wA yX6_fact cX6_fact 2 (some .int)) rmX6_fact [vr 6 j, vi i] S (fun x S' => x = r ∧ S' = S) := by
  refine PM.of (lv := [(0, vr 6 j), (1, vi i)]) GC_ok (by decide) (Nat.le_of_ble_eq_true rfl) rfl (by simp) ?_
  intro p e s m args below meth c A hM
  rw [fX6_fact] at h
  obtain ⟨S0, hS⟩ : ∃ S0 : PS, S = S0 := ⟨S, rfl⟩
  rw [show (fun (x : Int32) (S' : PS) => x = r ∧ S' = S) = (fun x S' => x = r ∧ S' = S0) by rw [hS]]
  refine w_iln (q := 1) (n := 1) hM (dtab_at okX6_fact 0 rfl) rfl rfl ?_
  by_cases hts1 : i.toInt < 0 ∨ 2 < i.toInt
  · refine w_tsOut (n := 61) hM (dtab_at okX6_fact 1 rfl) hts1 (by decide) ?_
    rw [if_pos hts1] at h
    refine w_aln (q := 0) (n := 62) hM (dtab_at okX6_fact 21 rfl) rfl rfl ?_
    refine w_geti (C := RX6) (T := TX6) (i := 11) (n := 65) hM rfl (by decide) ly_X6 lkF_X6_63 (dtab_at okX6_fact 22 rfl) rfl ?_
    exact r_i hM (dtab_at okX6_fact 23 rfl) ⟨Option.some.inj h, hS⟩
  · have htn1 := hts1
    obtain hts1 | hts1 | hts1 : i = 0 ∨ i = 1 ∨ i = 2 := sw0_3 hts1
    · refine w_tsIn (n := 28) (off := 27) hM (dtab_at okX6_fact 1 rfl) (by rw [hts1]; decide) (by rw [hts1]; decide) (by rw [hts1]; rfl) (by decide) ?_
      rw [if_neg htn1, if_pos hts1] at h
      refine w_aln (q := 0) (n := 29) hM (dtab_at okX6_fact 2 rfl) rfl rfl ?_
      refine w_geti (C := RX6) (T := TX6) (i := 9) (n := 32) hM rfl (by decide) ly_X6 lkF_X6_57 (dtab_at okX6_fact 3 rfl) rfl ?_
      exact r_i hM (dtab_at okX6_fact 4 rfl) ⟨Option.some.inj h, hS⟩
    · refine w_tsIn (n := 33) (off := 32) hM (dtab_at okX6_fact 1 rfl) (by rw [hts1]; decide) (by rw [hts1]; decide) (by rw [hts1]; rfl) (by decide) ?_
      rw [if_neg htn1, if_neg (show ¬ i = 0 by rw [hts1]; decide), if_pos hts1] at h
      refine w_aln (q := 0) (n := 34) hM (dtab_at okX6_fact 5 rfl) rfl rfl ?_
      refine w_geti (C := RX6) (T := TX6) (i := 10) (n := 37) hM rfl (by decide) ly_X6 lkF_X6_60 (dtab_at okX6_fact 6 rfl) rfl ?_
      exact r_i hM (dtab_at okX6_fact 7 rfl) ⟨Option.some.inj h, hS⟩
    · refine w_tsIn (n := 38) (off := 37) hM (dtab_at okX6_fact 1 rfl) (by rw [hts1]; decide) (by rw [hts1]; decide) (by rw [hts1]; rfl) (by decide) ?_
      rw [if_neg htn1, if_neg (show ¬ i = 0 by rw [hts1]; decide), if_neg (show ¬ i = 1 by rw [hts1]; decide)] at h
      refine w_aln (q := 0) (n := 39) hM (dtab_at okX6_fact 8 rfl) rfl rfl ?_
      refine w_geti (C := RX6) (T := TX6) (i := 9) (n := 42) hM rfl (by decide) ly_X6 lkF_X6_57 (dtab_at okX6_fact 9 rfl) rfl ?_
      refine w_if_le (n := 59) (n2 := 45) hM (dtab_at okX6_fact 10 rfl) (by decide) rfl (fun h42 => ?_) (fun h42 => ?_)
      · skip
        rw [if_pos h42] at h
        refine w_ic (n := 60) hM 0 (dtab_at okX6_fact 19 rfl) (by decide) rfl ?_
        exact r_i hM (dtab_at okX6_fact 20 rfl) ⟨Option.some.inj h, hS⟩
      · skip
        rw [if_neg h42] at h
        refine w_aln (q := 0) (n := 46) hM (dtab_at okX6_fact 11 rfl) rfl rfl ?_
        refine w_getr (C := RX6) (T := TX6) (i := 5) (k2 := 250) (q := (j + 32)) (n := 49) hM rfl (by decide) rfc_6_5 ly_X6 lkF_X6_34 (dtab_at okX6_fact 12 rfl) rfl ?_
        refine w_aln (q := 0) (n := 50) hM (dtab_at okX6_fact 13 rfl) rfl rfl ?_
        refine w_geti (C := RX6) (T := TX6) (i := 9) (n := 53) hM rfl (by decide) ly_X6 lkF_X6_57 (dtab_at okX6_fact 14 rfl) rfl ?_
        refine w_ic (n := 54) hM 1 (dtab_at okX6_fact 15 rfl) (by decide) rfl ?_
        refine w_isub (n := 55) hM (dtab_at okX6_fact 16 rfl) rfl ?_
        by_cases hg55 : ((S.1 j 9) - 1) < 0 ∨ 150 ≤ ((S.1 j 9) - 1).toNatClampNeg
        · rw [if_pos hg55] at h; cases h
        rw [if_neg hg55] at h
        refine w_ald (nn := 150) (n := 56) hM rfl hg55 (dtab_at okX6_fact 17 rfl) rfl ?_
        refine w_goto (n := 60) hM (dtab_at okX6_fact 18 rfl) (by decide) ?_
        exact r_i hM (dtab_at okX6_fact 20 rfl) ⟨Option.some.inj h, hS⟩
def LX6_feltAt_2 (N : Nat) : Nat → PS → Nat → Int32 → Int32 → Option (Int32)
  | 0, _, _, _, _ => none
  | n + 1, S, v0, v1, v2 => (if (S.1 v0 11) ≤ v2 then (some (-1)) else (if v2 < 0 ∨ 60 ≤ v2.toNatClampNeg then none else (if v1 < (S.2 (v0 + 34) v2.toNatClampNeg) then (LX6_feltAt_2 N n S v0 v1 (v2 + 1)) else (if v2 < 0 ∨ 60 ≤ v2.toNatClampNeg then none else (if v2 < 0 ∨ 60 ≤ v2.toNatClampNeg then none else (if ((S.2 (v0 + 34) v2.toNatClampNeg) + (S.2 (v0 + 36) v2.toNatClampNeg)) ≤ v1 then (LX6_feltAt_2 N n S v0 v1 (v2 + 1)) else (some v2)))))))
set_option maxHeartbeats 4000000 in
set_option maxRecDepth 100000 in
theorem wLX6_feltAt_2 {cy : ClassId × ClassId} {ad : Nat → Nat} {D : va_G} {p : Program} {l : Launch} {e : Env} {s : State} {m : MethodId} {args : Array Value} {below : List Frame} {meth : Method} {c : Code} {A : Nat → Prop} (hM : MX cy GC ad D p s m args meth c cX6_feltAt 3 RX6 (some .int) A) (N : Nat) (S0 : PS) (r : Int32) : ∀ (n : Nat) (S : PS) (v0 : Nat) (v1 : Int32) (v2 : Int32), S = S0 → LX6_feltAt_2 N n S v0 v1 v2 = some r → WW cy GC ad D p l e rmX6_feltAt s m args below meth c 3 A (poi (fun x S' => x = r ∧ S' = S0)) 2 [(0, vr 6 v0), (1, vi v1), (2, vi v2)] [] S := by
  intro n
  induction n with
  | zero => intro S v0 v1 v2 hS h; rw [LX6_feltAt_2] at h; cases h
  | succ n ih =>
    intro S v0 v1 v2 hS h
    rw [LX6_feltAt_2] at h
    refine w_iln (q := 2) (n := 3) hM (dtab_at okX6_feltAt 2 rfl) rfl rfl ?_
    refine w_aln (q := 0) (n := 4) hM (dtab_at okX6_feltAt 3 rfl) rfl rfl ?_
    refine w_geti (C := RX6) (T := TX6) (i := 11) (n := 7) hM rfl (by decide) ly_X6 lkF_X6_63 (dtab_at okX6_feltAt 4 rfl) rfl ?_
    refine w_ic_ge (n := 45) (n2 := 10) hM (dtab_at okX6_feltAt 5 rfl) (by decide) rfl (fun h7 => ?_) (fun h7 => ?_)
    · skip
      rw [if_pos h7] at h
      refine w_ic (n := 46) hM (-1) (dtab_at okX6_feltAt 27 rfl) (by decide) rfl ?_
      exact r_i hM (dtab_at okX6_feltAt 28 rfl) ⟨Option.some.inj h, hS⟩
    · skip
      rw [if_neg h7] at h
      refine w_iln (q := 1) (n := 11) hM (dtab_at okX6_feltAt 6 rfl) rfl rfl ?_
      refine w_aln (q := 0) (n := 12) hM (dtab_at okX6_feltAt 7 rfl) rfl rfl ?_
      refine w_getr (C := RX6) (T := TX6) (i := 6) (k2 := 160) (q := (v0 + 34)) (n := 15) hM rfl (by decide) rfc_6_6 ly_X6 lkF_X6_38 (dtab_at okX6_feltAt 8 rfl) rfl ?_
      refine w_iln (q := 2) (n := 16) hM (dtab_at okX6_feltAt 9 rfl) rfl rfl ?_
      by_cases hg16 : v2 < 0 ∨ 60 ≤ v2.toNatClampNeg
      · rw [if_pos hg16] at h; cases h
      rw [if_neg hg16] at h
      refine w_ald (nn := 60) (n := 17) hM rfl hg16 (dtab_at okX6_feltAt 10 rfl) rfl ?_
      refine w_ic_lt (n := 39) (n2 := 20) hM (dtab_at okX6_feltAt 11 rfl) (by decide) rfl (fun h17 => ?_) (fun h17 => ?_)
      · skip
        rw [if_pos h17] at h
        refine w_iinc (q := 2) (n := 42) (v := (v2 + 1)) (lv' := [(2, vi (v2 + 1)), (0, vr 6 v0), (1, vi v1)]) hM (dtab_at okX6_feltAt 25 rfl) rfl rfl (by decide) rfl rfl ?_
        refine w_goto (n := 2) hM (dtab_at okX6_feltAt 26 rfl) (by decide) ?_
        refine WW.lvs [1, 2, 0] (lv2 := [(0, vr 6 v0), (1, vi v1), (2, vi (v2 + 1))]) rfl ?_
        exact ih S v0 v1 (v2 + 1) hS h
      · skip
        rw [if_neg h17] at h
        refine w_iln (q := 1) (n := 21) hM (dtab_at okX6_feltAt 12 rfl) rfl rfl ?_
        refine w_aln (q := 0) (n := 22) hM (dtab_at okX6_feltAt 13 rfl) rfl rfl ?_
        refine w_getr (C := RX6) (T := TX6) (i := 6) (k2 := 160) (q := (v0 + 34)) (n := 25) hM rfl (by decide) rfc_6_6 ly_X6 lkF_X6_38 (dtab_at okX6_feltAt 14 rfl) rfl ?_
        refine w_iln (q := 2) (n := 26) hM (dtab_at okX6_feltAt 15 rfl) rfl rfl ?_
        by_cases hg26 : v2 < 0 ∨ 60 ≤ v2.toNatClampNeg
        · rw [if_pos hg26] at h; cases h
        rw [if_neg hg26] at h
        refine w_ald (nn := 60) (n := 27) hM rfl hg26 (dtab_at okX6_feltAt 16 rfl) rfl ?_
        refine w_aln (q := 0) (n := 28) hM (dtab_at okX6_feltAt 17 rfl) rfl rfl ?_
        refine w_getr (C := RX6) (T := TX6) (i := 7) (k2 := 160) (q := (v0 + 36)) (n := 31) hM rfl (by decide) rfc_6_7 ly_X6 lkF_X6_41 (dtab_at okX6_feltAt 18 rfl) rfl ?_
        refine w_iln (q := 2) (n := 32) hM (dtab_at okX6_feltAt 19 rfl) rfl rfl ?_
        by_cases hg32 : v2 < 0 ∨ 60 ≤ v2.toNatClampNeg
        · rw [if_pos hg32] at h; cases h
        rw [if_neg hg32] at h
        refine w_ald (nn := 60) (n := 33) hM rfl hg32 (dtab_at okX6_feltAt 20 rfl) rfl ?_
        refine w_iadd (n := 34) hM (dtab_at okX6_feltAt 21 rfl) rfl ?_
        refine w_ic_ge (n := 39) (n2 := 37) hM (dtab_at okX6_feltAt 22 rfl) (by decide) rfl (fun h34 => ?_) (fun h34 => ?_)
        · skip
          rw [if_pos h34] at h
          refine w_iinc (q := 2) (n := 42) (v := (v2 + 1)) (lv' := [(2, vi (v2 + 1)), (0, vr 6 v0), (1, vi v1)]) hM (dtab_at okX6_feltAt 25 rfl) rfl rfl (by decide) rfl rfl ?_
          refine w_goto (n := 2) hM (dtab_at okX6_feltAt 26 rfl) (by decide) ?_
          refine WW.lvs [1, 2, 0] (lv2 := [(0, vr 6 v0), (1, vi v1), (2, vi (v2 + 1))]) rfl ?_
          exact ih S v0 v1 (v2 + 1) hS h
        · skip
          rw [if_neg h34] at h
          refine w_iln (q := 2) (n := 38) hM (dtab_at okX6_feltAt 23 rfl) rfl rfl ?_
          exact r_i hM (dtab_at okX6_feltAt 24 rfl) ⟨Option.some.inj h, hS⟩
def fX6_feltAt (N : Nat) (S : PS) (j : Nat) (i : Int32) : Option (Int32) := (LX6_feltAt_2 N N S j i 0)
set_option maxHeartbeats 4000000 in
set_option maxRecDepth 100000 in
theorem c_X6_feltAt {cy : ClassId × ClassId} {ad : Nat → Nat} {D : va_G} {l : Launch} (N : Nat) (S : PS) (j : Nat) (i : Int32) (r : Int32) (h : fX6_feltAt N S j i = some r) : PMi cy GC ad D l yX6_feltAt (wA yX6_feltAt cX6_feltAt 3 (some .int)) rmX6_feltAt [vr 6 j, vi i] S (fun x S' => x = r ∧ S' = S) := by
  refine PM.of (lv := [(0, vr 6 j), (1, vi i)]) GC_ok (by decide) (Nat.le_of_ble_eq_true rfl) rfl (by simp) ?_
  intro p e s m args below meth c A hM
  rw [fX6_feltAt] at h
  obtain ⟨S0, hS⟩ : ∃ S0 : PS, S = S0 := ⟨S, rfl⟩
  rw [show (fun (x : Int32) (S' : PS) => x = r ∧ S' = S) = (fun x S' => x = r ∧ S' = S0) by rw [hS]]
  refine w_ic (n := 1) hM 0 (dtab_at okX6_feltAt 0 rfl) (by decide) rfl ?_
  refine w_isn (n := 2) (lv' := [(2, vi 0), (0, vr 6 j), (1, vi i)]) hM (dtab_at okX6_feltAt 1 rfl) (by decide) rfl rfl ?_
  refine WW.lvs [1, 2, 0] (lv2 := [(0, vr 6 j), (1, vi i), (2, vi 0)]) rfl ?_
  exact wLX6_feltAt_2 hM N S0 r N S j i 0 hS h
def BX6_feel_89 (N : Nat) (k50 : PS → Nat → Int32 → Int32 → Int32 → Int32 → Option (PS)) (S : PS) (v0 : Nat) (v1 : Int32) (v2 : Int32) (v3 : Int32) (v4 : Int32) : Option (PS) := (if v4 < 0 ∨ 150 ≤ v4.toNatClampNeg then none else (if 60 ≤ ((sta S (v0 + 32) v4.toNatClampNeg (v2 + v1)).1 v0 11) then (k50 (sta S (v0 + 32) v4.toNatClampNeg (v2 + v1)) v0 v1 (v2 + v1) v3 (v4 + 1)) else ((fX5_hasWeldAt N (sta S (v0 + 32) v4.toNatClampNeg (v2 + v1)) (4 * v0 + 2) v4).bind fun r0 => (if r0 = 0 then (k50 (sta S (v0 + 32) v4.toNatClampNeg (v2 + v1)) v0 v1 (v2 + v1) v3 (v4 + 1)) else (if ((sta S (v0 + 32) v4.toNatClampNeg (v2 + v1)).1 v0 11) < 0 ∨ 60 ≤ ((sta S (v0 + 32) v4.toNatClampNeg (v2 + v1)).1 v0 11).toNatClampNeg then none else (if ((sta (sta S (v0 + 32) v4.toNatClampNeg (v2 + v1)) (v0 + 34) ((sta S (v0 + 32) v4.toNatClampNeg (v2 + v1)).1 v0 11).toNatClampNeg v3).1 v0 11) < 0 ∨ 60 ≤ ((sta (sta S (v0 + 32) v4.toNatClampNeg (v2 + v1)) (v0 + 34) ((sta S (v0 + 32) v4.toNatClampNeg (v2 + v1)).1 v0 11).toNatClampNeg v3).1 v0 11).toNatClampNeg then none else (k50 (sti (sta (sta (sta S (v0 + 32) v4.toNatClampNeg (v2 + v1)) (v0 + 34) ((sta S (v0 + 32) v4.toNatClampNeg (v2 + v1)).1 v0 11).toNatClampNeg v3) (v0 + 36) ((sta (sta S (v0 + 32) v4.toNatClampNeg (v2 + v1)) (v0 + 34) ((sta S (v0 + 32) v4.toNatClampNeg (v2 + v1)).1 v0 11).toNatClampNeg v3).1 v0 11).toNatClampNeg ((v2 + v1) - v3)) v0 11 (((sta (sta (sta S (v0 + 32) v4.toNatClampNeg (v2 + v1)) (v0 + 34) ((sta S (v0 + 32) v4.toNatClampNeg (v2 + v1)).1 v0 11).toNatClampNeg v3) (v0 + 36) ((sta (sta S (v0 + 32) v4.toNatClampNeg (v2 + v1)) (v0 + 34) ((sta S (v0 + 32) v4.toNatClampNeg (v2 + v1)).1 v0 11).toNatClampNeg v3).1 v0 11).toNatClampNeg ((v2 + v1) - v3)).1 v0 11) + 1)) v0 v1 (v2 + v1) (v2 + v1) (v4 + 1))))))))
set_option maxHeartbeats 4000000 in
set_option maxRecDepth 100000 in
theorem wBX6_feel_89 {cy : ClassId × ClassId} {ad : Nat → Nat} {D : va_G} {p : Program} {l : Launch} {e : Env} {s : State} {m : MethodId} {args : Array Value} {below : List Frame} {meth : Method} {c : Code} {A : Nat → Prop} (hM : MX cy GC ad D p s m args meth c cX6_feel 6 RX6 none A) (N : Nat) (r : PS) (k50 : PS → Nat → Int32 → Int32 → Int32 → Int32 → Option (PS)) (hk50 : ∀ (S : PS) (v0 : Nat) (v1 : Int32) (v2 : Int32) (v3 : Int32) (v4 : Int32), k50 S v0 v1 v2 v3 v4 = some r → WW cy GC ad D p l e rmX6_feel s m args below meth c 6 A (pov (fun S' => S' = r)) 50 [(0, vr 6 v0), (1, vi v1), (2, vi v2), (3, vi v3), (4, vi v4)] [] S) (S : PS) (v0 : Nat) (v1 : Int32) (v2 : Int32) (v3 : Int32) (v4 : Int32) (h : BX6_feel_89 N k50 S v0 v1 v2 v3 v4 = some r) : WW cy GC ad D p l e rmX6_feel s m args below meth c 6 A (pov (fun S' => S' = r)) 89 [(0, vr 6 v0), (1, vi v1), (2, vi v2), (3, vi v3), (4, vi v4)] [] S := by
  rw [BX6_feel_89] at h
  refine w_iln (q := 2) (n := 90) hM (dtab_at okX6_feel 47 rfl) rfl rfl ?_
  refine w_iln (q := 1) (n := 91) hM (dtab_at okX6_feel 48 rfl) rfl rfl ?_
  refine w_iadd (n := 92) hM (dtab_at okX6_feel 49 rfl) rfl ?_
  refine w_isn (n := 93) (lv' := [(2, vi (v2 + v1)), (0, vr 6 v0), (1, vi v1), (3, vi v3), (4, vi v4)]) hM (dtab_at okX6_feel 50 rfl) (by decide) rfl rfl ?_
  refine w_aln (q := 1) (n := 94) hM (dtab_at okX6_feel 51 rfl) rfl rfl ?_
  refine w_getr (C := RX6) (T := TX6) (i := 5) (k2 := 250) (q := (v0 + 32)) (n := 97) hM rfl (by decide) rfc_6_5 ly_X6 lkF_X6_34 (dtab_at okX6_feel 52 rfl) rfl ?_
  refine w_il (q := 4) (n := 99) hM (dtab_at okX6_feel 53 rfl) rfl rfl ?_
  refine w_iln (q := 0) (n := 100) hM (dtab_at okX6_feel 54 rfl) rfl rfl ?_
  by_cases hg100 : v4 < 0 ∨ 150 ≤ v4.toNatClampNeg
  · rw [if_pos hg100] at h; cases h
  rw [if_neg hg100] at h
  refine w_ast (nn := 150) (n := 101) hM rfl hg100 (dtab_at okX6_feel 55 rfl) rfl ?_
  refine w_aln (q := 1) (n := 102) hM (dtab_at okX6_feel 56 rfl) rfl rfl ?_
  refine w_geti (C := RX6) (T := TX6) (i := 11) (n := 105) hM rfl (by decide) ly_X6 lkF_X6_63 (dtab_at okX6_feel 57 rfl) rfl ?_
  refine w_bi (n := 107) hM 60 (dtab_at okX6_feel 58 rfl) (by decide) rfl ?_
  refine w_ic_ge (n := 156) (n2 := 110) hM (dtab_at okX6_feel 59 rfl) (by decide) rfl (fun h107 => ?_) (fun h107 => ?_)
  · skip
    rw [if_pos h107] at h
    refine w_iinc (q := 4) (n := 159) (v := (v4 + 1)) (lv' := [(4, vi (v4 + 1)), (2, vi (v2 + v1)), (0, vr 6 v0), (1, vi v1), (3, vi v3)]) hM (dtab_at okX6_feel 87 rfl) rfl rfl (by decide) rfl rfl ?_
    refine w_goto (n := 50) hM (dtab_at okX6_feel 88 rfl) (by decide) ?_
    refine WW.lvs [2, 3, 1, 4, 0] (lv2 := [(0, vr 6 v0), (1, vi v1), (2, vi (v2 + v1)), (3, vi v3), (4, vi (v4 + 1))]) rfl ?_
    exact hk50 (sta S (v0 + 32) v4.toNatClampNeg (v2 + v1)) v0 v1 (v2 + v1) v3 (v4 + 1) h
  · skip
    rw [if_neg h107] at h
    refine w_aln (q := 1) (n := 111) hM (dtab_at okX6_feel 60 rfl) rfl rfl ?_
    refine w_getr (C := RX6) (T := TX6) (i := 3) (k2 := 5) (q := (4 * v0 + 2)) (n := 114) hM rfl (by decide) rfc_6_3 ly_X6 lkF_X6_24 (dtab_at okX6_feel 61 rfl) rfl ?_
    refine w_il (q := 4) (n := 116) hM (dtab_at okX6_feel 62 rfl) rfl rfl ?_
    obtain ⟨r0, hr0, h⟩ := Option.bind_eq_some_iff.mp h
    refine w_callVi (n := 119) (As := [vi v4]) (rest := []) (k := 5) (j := (4 * v0 + 2)) (C := RX5) (T := TX5) (N := 3) hM (c_X5_hasWeldAt N (sta S (v0 + 32) v4.toNatClampNeg (v2 + v1)) (4 * v0 + 2) v4 r0 hr0) lkM_X6_70 mv_X5_hasWeldAt (by decide) rfl (by decide) rfl (Nat.le_of_ble_eq_true rfl) rfl (dtab_at okX6_feel 63 rfl) rfl (fun x0 S0 hp0 => ?_)
    obtain ⟨hx_, hs_⟩ := hp0
    have hs_ := hs_.symm
    have hx_ := hx_.symm
    subst hs_
    subst hx_
    refine w_if_eq (n := 156) (n2 := 122) hM (dtab_at okX6_feel 64 rfl) (by decide) rfl (fun h119 => ?_) (fun h119 => ?_)
    · skip
      rw [if_pos h119] at h
      refine w_iinc (q := 4) (n := 159) (v := (v4 + 1)) (lv' := [(4, vi (v4 + 1)), (2, vi (v2 + v1)), (0, vr 6 v0), (1, vi v1), (3, vi v3)]) hM (dtab_at okX6_feel 87 rfl) rfl rfl (by decide) rfl rfl ?_
      refine w_goto (n := 50) hM (dtab_at okX6_feel 88 rfl) (by decide) ?_
      refine WW.lvs [2, 3, 1, 4, 0] (lv2 := [(0, vr 6 v0), (1, vi v1), (2, vi (v2 + v1)), (3, vi v3), (4, vi (v4 + 1))]) rfl ?_
      exact hk50 (sta S (v0 + 32) v4.toNatClampNeg (v2 + v1)) v0 v1 (v2 + v1) v3 (v4 + 1) h
    · skip
      rw [if_neg h119] at h
      refine w_aln (q := 1) (n := 123) hM (dtab_at okX6_feel 65 rfl) rfl rfl ?_
      refine w_getr (C := RX6) (T := TX6) (i := 6) (k2 := 160) (q := (v0 + 34)) (n := 126) hM rfl (by decide) rfc_6_6 ly_X6 lkF_X6_38 (dtab_at okX6_feel 66 rfl) rfl ?_
      refine w_aln (q := 1) (n := 127) hM (dtab_at okX6_feel 67 rfl) rfl rfl ?_
      refine w_geti (C := RX6) (T := TX6) (i := 11) (n := 130) hM rfl (by decide) ly_X6 lkF_X6_63 (dtab_at okX6_feel 68 rfl) rfl ?_
      refine w_iln (q := 3) (n := 131) hM (dtab_at okX6_feel 69 rfl) rfl rfl ?_
      by_cases hg131 : ((sta S (v0 + 32) v4.toNatClampNeg (v2 + v1)).1 v0 11) < 0 ∨ 60 ≤ ((sta S (v0 + 32) v4.toNatClampNeg (v2 + v1)).1 v0 11).toNatClampNeg
      · rw [if_pos hg131] at h; cases h
      rw [if_neg hg131] at h
      refine w_ast (nn := 60) (n := 132) hM rfl hg131 (dtab_at okX6_feel 70 rfl) rfl ?_
      refine w_aln (q := 1) (n := 133) hM (dtab_at okX6_feel 71 rfl) rfl rfl ?_
      refine w_getr (C := RX6) (T := TX6) (i := 7) (k2 := 160) (q := (v0 + 36)) (n := 136) hM rfl (by decide) rfc_6_7 ly_X6 lkF_X6_41 (dtab_at okX6_feel 72 rfl) rfl ?_
      refine w_aln (q := 1) (n := 137) hM (dtab_at okX6_feel 73 rfl) rfl rfl ?_
      refine w_geti (C := RX6) (T := TX6) (i := 11) (n := 140) hM rfl (by decide) ly_X6 lkF_X6_63 (dtab_at okX6_feel 74 rfl) rfl ?_
      refine w_iln (q := 0) (n := 141) hM (dtab_at okX6_feel 75 rfl) rfl rfl ?_
      refine w_iln (q := 3) (n := 142) hM (dtab_at okX6_feel 76 rfl) rfl rfl ?_
      refine w_isub (n := 143) hM (dtab_at okX6_feel 77 rfl) rfl ?_
      by_cases hg143 : ((sta (sta S (v0 + 32) v4.toNatClampNeg (v2 + v1)) (v0 + 34) ((sta S (v0 + 32) v4.toNatClampNeg (v2 + v1)).1 v0 11).toNatClampNeg v3).1 v0 11) < 0 ∨ 60 ≤ ((sta (sta S (v0 + 32) v4.toNatClampNeg (v2 + v1)) (v0 + 34) ((sta S (v0 + 32) v4.toNatClampNeg (v2 + v1)).1 v0 11).toNatClampNeg v3).1 v0 11).toNatClampNeg
      · rw [if_pos hg143] at h; cases h
      rw [if_neg hg143] at h
      refine w_ast (nn := 60) (n := 144) hM rfl hg143 (dtab_at okX6_feel 78 rfl) rfl ?_
      refine w_aln (q := 1) (n := 145) hM (dtab_at okX6_feel 79 rfl) rfl rfl ?_
      refine w_dup (n := 146) hM (dtab_at okX6_feel 80 rfl) rfl rfl ?_
      refine w_geti (C := RX6) (T := TX6) (i := 11) (n := 149) hM rfl (by decide) ly_X6 lkF_X6_63 (dtab_at okX6_feel 81 rfl) rfl ?_
      refine w_ic (n := 150) hM 1 (dtab_at okX6_feel 82 rfl) (by decide) rfl ?_
      refine w_iadd (n := 151) hM (dtab_at okX6_feel 83 rfl) rfl ?_
      refine w_put (C := RX6) (T := TX6) (i := 11) (ty := .int) (n := 154) hM rfl (by decide) ly_X6 tyX6_ok nmX6 lkF_X6_63 rfl (by decide +kernel) rfl rfl (dtab_at okX6_feel 84 rfl) rfl ?_
      refine w_iln (q := 0) (n := 155) hM (dtab_at okX6_feel 85 rfl) rfl rfl ?_
      refine w_isn (n := 156) (lv' := [(3, vi (v2 + v1)), (2, vi (v2 + v1)), (0, vr 6 v0), (1, vi v1), (4, vi v4)]) hM (dtab_at okX6_feel 86 rfl) (by decide) rfl rfl ?_
      refine w_iinc (q := 4) (n := 159) (v := (v4 + 1)) (lv' := [(4, vi (v4 + 1)), (3, vi (v2 + v1)), (2, vi (v2 + v1)), (0, vr 6 v0), (1, vi v1)]) hM (dtab_at okX6_feel 87 rfl) rfl rfl (by decide) rfl rfl ?_
      refine w_goto (n := 50) hM (dtab_at okX6_feel 88 rfl) (by decide) ?_
      refine WW.lvs [3, 4, 2, 1, 0] (lv2 := [(0, vr 6 v0), (1, vi v1), (2, vi (v2 + v1)), (3, vi (v2 + v1)), (4, vi (v4 + 1))]) rfl ?_
      exact hk50 (sti (sta (sta (sta S (v0 + 32) v4.toNatClampNeg (v2 + v1)) (v0 + 34) ((sta S (v0 + 32) v4.toNatClampNeg (v2 + v1)).1 v0 11).toNatClampNeg v3) (v0 + 36) ((sta (sta S (v0 + 32) v4.toNatClampNeg (v2 + v1)) (v0 + 34) ((sta S (v0 + 32) v4.toNatClampNeg (v2 + v1)).1 v0 11).toNatClampNeg v3).1 v0 11).toNatClampNeg ((v2 + v1) - v3)) v0 11 (((sta (sta (sta S (v0 + 32) v4.toNatClampNeg (v2 + v1)) (v0 + 34) ((sta S (v0 + 32) v4.toNatClampNeg (v2 + v1)).1 v0 11).toNatClampNeg v3) (v0 + 36) ((sta (sta S (v0 + 32) v4.toNatClampNeg (v2 + v1)) (v0 + 34) ((sta S (v0 + 32) v4.toNatClampNeg (v2 + v1)).1 v0 11).toNatClampNeg v3).1 v0 11).toNatClampNeg ((v2 + v1) - v3)).1 v0 11) + 1)) v0 v1 (v2 + v1) (v2 + v1) (v4 + 1) h
def LX6_feel_50 (N : Nat) : Nat → PS → Nat → Int32 → Int32 → Int32 → Int32 → Option (PS)
  | 0, _, _, _, _, _, _ => none
  | n + 1, S, v0, v1, v2, v3, v4 => (if (S.1 v0 9) ≤ v4 then (some S) else ((fX6_readingsTogether N S v0 v4).bind fun r0 => (if r0 = (-1) then (BX6_feel_89 N (LX6_feel_50 N n) (sti S v0 10 ((S.1 v0 10) + 1)) v0 v1 v2 v3 v4) else (BX6_feel_89 N (LX6_feel_50 N n) S v0 r0 v2 v3 v4))))
set_option maxHeartbeats 4000000 in
set_option maxRecDepth 100000 in
theorem wLX6_feel_50 {cy : ClassId × ClassId} {ad : Nat → Nat} {D : va_G} {p : Program} {l : Launch} {e : Env} {s : State} {m : MethodId} {args : Array Value} {below : List Frame} {meth : Method} {c : Code} {A : Nat → Prop} (hM : MX cy GC ad D p s m args meth c cX6_feel 6 RX6 none A) (N : Nat) (r : PS) : ∀ (n : Nat) (S : PS) (v0 : Nat) (v1 : Int32) (v2 : Int32) (v3 : Int32) (v4 : Int32), LX6_feel_50 N n S v0 v1 v2 v3 v4 = some r → WW cy GC ad D p l e rmX6_feel s m args below meth c 6 A (pov (fun S' => S' = r)) 50 [(0, vr 6 v0), (1, vi v1), (2, vi v2), (3, vi v3), (4, vi v4)] [] S := by
  intro n
  induction n with
  | zero => intro S v0 v1 v2 v3 v4 h; rw [LX6_feel_50] at h; cases h
  | succ n ih =>
    intro S v0 v1 v2 v3 v4 h
    rw [LX6_feel_50] at h
    refine w_il (q := 4) (n := 52) hM (dtab_at okX6_feel 27 rfl) rfl rfl ?_
    refine w_aln (q := 0) (n := 53) hM (dtab_at okX6_feel 28 rfl) rfl rfl ?_
    refine w_geti (C := RX6) (T := TX6) (i := 9) (n := 56) hM rfl (by decide) ly_X6 lkF_X6_57 (dtab_at okX6_feel 29 rfl) rfl ?_
    refine w_ic_ge (n := 162) (n2 := 59) hM (dtab_at okX6_feel 30 rfl) (by decide) rfl (fun h56 => ?_) (fun h56 => ?_)
    · skip
      rw [if_pos h56] at h
      exact r_v hM (dtab_at okX6_feel 89 rfl) (Option.some.inj h)
    · skip
      rw [if_neg h56] at h
      refine w_aln (q := 0) (n := 60) hM (dtab_at okX6_feel 31 rfl) rfl rfl ?_
      refine w_il (q := 4) (n := 62) hM (dtab_at okX6_feel 32 rfl) rfl rfl ?_
      obtain ⟨r0, hr0, h⟩ := Option.bind_eq_some_iff.mp h
      refine w_callVi (n := 65) (As := [vi v4]) (rest := []) (k := 6) (j := v0) (C := RX6) (T := TX6) (N := 12) hM (c_X6_readingsTogether N S v0 v4 r0 hr0) lkM_X6_66 mv_X6_readingsTogether (by decide) rfl (by decide) rfl (Nat.le_of_ble_eq_true rfl) rfl (dtab_at okX6_feel 33 rfl) rfl (fun x0 S0 hp0 => ?_)
      obtain ⟨hx_, hs_⟩ := hp0
      have hs_ := hs_.symm
      have hx_ := hx_.symm
      subst hs_
      subst hx_
      refine w_is (n := 67) (lv' := [(5, vi r0), (0, vr 6 v0), (1, vi v1), (2, vi v2), (3, vi v3), (4, vi v4)]) hM (dtab_at okX6_feel 34 rfl) (by decide) rfl rfl ?_
      refine w_il (q := 0) (n := 69) hM (dtab_at okX6_feel 35 rfl) rfl rfl ?_
      refine w_ic (n := 70) hM (-1) (dtab_at okX6_feel 36 rfl) (by decide) rfl ?_
      refine w_ic_ne (n := 86) (n2 := 73) hM (dtab_at okX6_feel 37 rfl) (by decide) rfl (fun h70 => ?_) (fun h70 => ?_)
      · skip
        rw [if_neg h70] at h
        refine w_il (q := 0) (n := 88) hM (dtab_at okX6_feel 45 rfl) rfl rfl ?_
        refine w_isn (n := 89) (lv' := [(1, vi r0), (5, vi r0), (0, vr 6 v0), (2, vi v2), (3, vi v3), (4, vi v4)]) hM (dtab_at okX6_feel 46 rfl) (by decide) rfl rfl ?_
        refine WW.lvs [2, 0, 3, 4, 5] (lv2 := [(0, vr 6 v0), (1, vi r0), (2, vi v2), (3, vi v3), (4, vi v4)]) rfl ?_
        exact wBX6_feel_89 hM N r (LX6_feel_50 N n) ih S v0 r0 v2 v3 v4 h
      · skip
        rw [if_pos h70] at h
        refine w_aln (q := 1) (n := 74) hM (dtab_at okX6_feel 38 rfl) rfl rfl ?_
        refine w_dup (n := 75) hM (dtab_at okX6_feel 39 rfl) rfl rfl ?_
        refine w_geti (C := RX6) (T := TX6) (i := 10) (n := 78) hM rfl (by decide) ly_X6 lkF_X6_60 (dtab_at okX6_feel 40 rfl) rfl ?_
        refine w_ic (n := 79) hM 1 (dtab_at okX6_feel 41 rfl) (by decide) rfl ?_
        refine w_iadd (n := 80) hM (dtab_at okX6_feel 42 rfl) rfl ?_
        refine w_put (C := RX6) (T := TX6) (i := 10) (ty := .int) (n := 83) hM rfl (by decide) ly_X6 tyX6_ok nmX6 lkF_X6_60 rfl (by decide +kernel) rfl rfl (dtab_at okX6_feel 43 rfl) rfl ?_
        refine w_goto (n := 89) hM (dtab_at okX6_feel 44 rfl) (by decide) ?_
        refine WW.lvs [1, 2, 3, 4, 5] (lv2 := [(0, vr 6 v0), (1, vi v1), (2, vi v2), (3, vi v3), (4, vi v4)]) rfl ?_
        exact wBX6_feel_89 hM N r (LX6_feel_50 N n) ih (sti S v0 10 ((S.1 v0 10) + 1)) v0 v1 v2 v3 v4 h
def fX6_feel (N : Nat) (S : PS) (j : Nat) : Option (PS) := (LX6_feel_50 N N (sti (sti (sti S j 9 (if (S.1 (4 * j - 1) 2) < (if (S.1 (4 * j) 2) < (S.1 (4 * j + 1) 2) then (S.1 (4 * j + 1) 2) else (S.1 (4 * j) 2)) then (if (S.1 (4 * j) 2) < (S.1 (4 * j + 1) 2) then (S.1 (4 * j + 1) 2) else (S.1 (4 * j) 2)) else (S.1 (4 * j - 1) 2))) j 10 0) j 11 0) j 0 0 0 0)
set_option maxHeartbeats 4000000 in
set_option maxRecDepth 100000 in
theorem c_X6_feel {cy : ClassId × ClassId} {ad : Nat → Nat} {D : va_G} {l : Launch} (N : Nat) (S : PS) (j : Nat) (r : PS) (h : fX6_feel N S j = some r) : PMv cy GC ad D l yX6_feel (wA yX6_feel cX6_feel 6 none) rmX6_feel [vr 6 j] S (fun S' => S' = r) := by
  refine PM.of (lv := [(0, vr 6 j)]) GC_ok (by decide) (Nat.le_of_ble_eq_true rfl) rfl (by simp) ?_
  intro p e s m args below meth c A hM
  rw [fX6_feel] at h
  refine w_aln (q := 0) (n := 1) hM (dtab_at okX6_feel 0 rfl) rfl rfl ?_
  refine w_aln (q := 0) (n := 2) hM (dtab_at okX6_feel 1 rfl) rfl rfl ?_
  refine w_getr (C := RX6) (T := TX6) (i := 0) (k2 := 5) (q := (4 * j - 1)) (n := 5) hM rfl (by decide) rfc_6_0 ly_X6 lkF_X6_12 (dtab_at okX6_feel 2 rfl) rfl ?_
  refine w_geti (C := RX5) (T := TX5) (i := 2) (n := 8) hM rfl (by decide) ly_X5 lkF_X6_47 (dtab_at okX6_feel 3 rfl) rfl ?_
  refine w_aln (q := 0) (n := 9) hM (dtab_at okX6_feel 4 rfl) rfl rfl ?_
  refine w_getr (C := RX6) (T := TX6) (i := 1) (k2 := 5) (q := (4 * j)) (n := 12) hM rfl (by decide) rfc_6_1 ly_X6 lkF_X6_18 (dtab_at okX6_feel 5 rfl) rfl ?_
  refine w_geti (C := RX5) (T := TX5) (i := 2) (n := 15) hM rfl (by decide) ly_X5 lkF_X6_47 (dtab_at okX6_feel 6 rfl) rfl ?_
  refine w_aln (q := 0) (n := 16) hM (dtab_at okX6_feel 7 rfl) rfl rfl ?_
  refine w_getr (C := RX6) (T := TX6) (i := 2) (k2 := 5) (q := (4 * j + 1)) (n := 19) hM rfl (by decide) rfc_6_2 ly_X6 lkF_X6_21 (dtab_at okX6_feel 8 rfl) rfl ?_
  refine w_geti (C := RX5) (T := TX5) (i := 2) (n := 22) hM rfl (by decide) ly_X5 lkF_X6_47 (dtab_at okX6_feel 9 rfl) rfl ?_
  refine w_max (n := 25) hM ⟨lkM_X6_51, mS_J9_max_7cf53, iz_J9, mC_J9_max_7cf53⟩ (by decide) (Nat.le_of_ble_eq_true rfl) (dtab_at okX6_feel 10 rfl) rfl ?_
  refine w_max (n := 28) hM ⟨lkM_X6_51, mS_J9_max_7cf53, iz_J9, mC_J9_max_7cf53⟩ (by decide) (Nat.le_of_ble_eq_true rfl) (dtab_at okX6_feel 11 rfl) rfl ?_
  refine w_put (C := RX6) (T := TX6) (i := 9) (ty := .int) (n := 31) hM rfl (by decide) ly_X6 tyX6_ok nmX6 lkF_X6_57 rfl (by decide +kernel) rfl rfl (dtab_at okX6_feel 12 rfl) rfl ?_
  refine w_aln (q := 0) (n := 32) hM (dtab_at okX6_feel 13 rfl) rfl rfl ?_
  refine w_ic (n := 33) hM 0 (dtab_at okX6_feel 14 rfl) (by decide) rfl ?_
  refine w_put (C := RX6) (T := TX6) (i := 10) (ty := .int) (n := 36) hM rfl (by decide) ly_X6 tyX6_ok nmX6 lkF_X6_60 rfl (by decide +kernel) rfl rfl (dtab_at okX6_feel 15 rfl) rfl ?_
  refine w_aln (q := 0) (n := 37) hM (dtab_at okX6_feel 16 rfl) rfl rfl ?_
  refine w_ic (n := 38) hM 0 (dtab_at okX6_feel 17 rfl) (by decide) rfl ?_
  refine w_put (C := RX6) (T := TX6) (i := 11) (ty := .int) (n := 41) hM rfl (by decide) ly_X6 tyX6_ok nmX6 lkF_X6_63 rfl (by decide +kernel) rfl rfl (dtab_at okX6_feel 18 rfl) rfl ?_
  refine w_ic (n := 42) hM 0 (dtab_at okX6_feel 19 rfl) (by decide) rfl ?_
  refine w_isn (n := 43) (lv' := [(1, vi 0), (0, vr 6 j)]) hM (dtab_at okX6_feel 20 rfl) (by decide) rfl rfl ?_
  refine w_ic (n := 44) hM 0 (dtab_at okX6_feel 21 rfl) (by decide) rfl ?_
  refine w_isn (n := 45) (lv' := [(2, vi 0), (1, vi 0), (0, vr 6 j)]) hM (dtab_at okX6_feel 22 rfl) (by decide) rfl rfl ?_
  refine w_ic (n := 46) hM 0 (dtab_at okX6_feel 23 rfl) (by decide) rfl ?_
  refine w_isn (n := 47) (lv' := [(3, vi 0), (2, vi 0), (1, vi 0), (0, vr 6 j)]) hM (dtab_at okX6_feel 24 rfl) (by decide) rfl rfl ?_
  refine w_ic (n := 48) hM 0 (dtab_at okX6_feel 25 rfl) (by decide) rfl ?_
  refine w_is (n := 50) (lv' := [(4, vi 0), (3, vi 0), (2, vi 0), (1, vi 0), (0, vr 6 j)]) hM (dtab_at okX6_feel 26 rfl) (by decide) rfl rfl ?_
  refine WW.lvs [4, 3, 2, 1, 0] (lv2 := [(0, vr 6 j), (1, vi 0), (2, vi 0), (3, vi 0), (4, vi 0)]) rfl ?_
  exact wLX6_feel_50 hM N r N (sti (sti (sti S j 9 (if (S.1 (4 * j - 1) 2) < (if (S.1 (4 * j) 2) < (S.1 (4 * j + 1) 2) then (S.1 (4 * j + 1) 2) else (S.1 (4 * j) 2)) then (if (S.1 (4 * j) 2) < (S.1 (4 * j + 1) 2) then (S.1 (4 * j + 1) 2) else (S.1 (4 * j) 2)) else (S.1 (4 * j - 1) 2))) j 10 0) j 11 0) j 0 0 0 0 h
end
