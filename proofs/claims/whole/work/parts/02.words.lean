theorem iz_L : (Jvm.Cond.initialized "PigLineLaw") ∈ LG := mg1 0 rfl rfl
theorem iz_X9 : (Jvm.Cond.initialized "PigLine") ∈ LG := mg1 1 rfl rfl
theorem iz_X6 : (Jvm.Cond.initialized "PigLine$Run") ∈ LG := mg1 2 rfl rfl
theorem iz_X5 : (Jvm.Cond.initialized "PigLine$Reel") ∈ LG := mg1 3 rfl rfl
theorem iz_X3 : (Jvm.Cond.initialized "PigLine$Marks") ∈ LG := mg1 4 rfl rfl
theorem iz_X0 : (Jvm.Cond.initialized "PigLine$Book") ∈ LG := mg1 5 rfl rfl
theorem iz_X4 : (Jvm.Cond.initialized "PigLine$Pairs") ∈ LG := mg1 6 rfl rfl
theorem iz_X2 : (Jvm.Cond.initialized "PigLine$Lot") ∈ LG := mg1 7 rfl rfl
theorem iz_X7 : (Jvm.Cond.initialized "PigLine$Spans") ∈ LG := mg1 8 rfl rfl
theorem iz_X1 : (Jvm.Cond.initialized "PigLine$Digs") ∈ LG := mg1 9 rfl rfl
theorem iz_X8 : (Jvm.Cond.initialized "PigLine$Valves") ∈ LG := mg1 10 rfl rfl
theorem iz_X10 : (Jvm.Cond.initialized "PigLineModel") ∈ LG := mg1 11 rfl rfl
theorem iz_J9 : (Jvm.Cond.initialized "java/lang/Math") ∈ LG := mg1 12 rfl rfl
theorem iz_J10 : (Jvm.Cond.initialized "java/lang/System") ∈ LG := mg1 13 rfl rfl
theorem iz_J6 : (Jvm.Cond.initialized "java/lang/Integer") ∈ LG := mg1 14 rfl rfl
theorem lkK_L_7 : (Jvm.Cond.classLink "PigLineLaw" (7 : Nat) "PigLine") ∈ LG := mg1 15 rfl rfl
theorem inst_X9 : (Jvm.Cond.instantiable "PigLine" (10 : Nat)) ∈ LG := mg1 16 rfl rfl
theorem lkM_L_9 : (Jvm.Cond.methodLink "PigLineLaw" (9 : Nat) ({ cls := "PigLine", name := "<init>", desc := "()V" } : Jvm.MethodName)) ∈ LG := mg1 17 rfl rfl
theorem mI_X9_init : (Jvm.Cond.instanceMethod ({ cls := "PigLine", name := "<init>", desc := "()V" } : Jvm.MethodName)) ∈ LG := mg1 18 rfl rfl
theorem mC_X9_init : (Jvm.Cond.code ({ cls := "PigLine", name := "<init>", desc := "()V" } : Jvm.MethodName) prog_1_method_1_code (1 : Nat) (Option.none : Option Jvm.ClassFile.FieldType)) ∈ LG := mg1 19 rfl rfl
theorem lkM_X9_1 : (Jvm.Cond.methodLink "PigLine" (1 : Nat) ({ cls := "java/lang/Object", name := "<init>", desc := "()V" } : Jvm.MethodName)) ∈ LG := mg1 20 rfl rfl
theorem mI_N_init : (Jvm.Cond.instanceMethod ({ cls := "java/lang/Object", name := "<init>", desc := "()V" } : Jvm.MethodName)) ∈ LG := mg1 21 rfl rfl
theorem mC_N_obj : (Jvm.Cond.code ({ cls := "java/lang/Object", name := "<init>", desc := "()V" } : Jvm.MethodName) object_method_1_code (1 : Nat) (Option.none : Option Jvm.ClassFile.FieldType)) ∈ LG := mg1 22 rfl rfl
theorem lkK_X9_7 : (Jvm.Cond.classLink "PigLine" (7 : Nat) "PigLine$Run") ∈ LG := mg1 23 rfl rfl
theorem inst_X6 : (Jvm.Cond.instantiable "PigLine$Run" (12 : Nat)) ∈ LG := mg1 24 rfl rfl
theorem lkM_X9_9 : (Jvm.Cond.methodLink "PigLine" (9 : Nat) ({ cls := "PigLine$Run", name := "<init>", desc := "()V" } : Jvm.MethodName)) ∈ LG := mg1 25 rfl rfl
theorem mI_X6_init : (Jvm.Cond.instanceMethod ({ cls := "PigLine$Run", name := "<init>", desc := "()V" } : Jvm.MethodName)) ∈ LG := mg1 26 rfl rfl
theorem mC_X6_init : (Jvm.Cond.code ({ cls := "PigLine$Run", name := "<init>", desc := "()V" } : Jvm.MethodName) prog_8_method_1_code (1 : Nat) (Option.none : Option Jvm.ClassFile.FieldType)) ∈ LG := mg1 27 rfl rfl
theorem lkM_X6_3 : (Jvm.Cond.methodLink "PigLine$Run" (3 : Nat) ({ cls := "java/lang/Object", name := "<init>", desc := "()V" } : Jvm.MethodName)) ∈ LG := mg1 28 rfl rfl
theorem lkK_X6_9 : (Jvm.Cond.classLink "PigLine$Run" (9 : Nat) "PigLine$Reel") ∈ LG := mg1 29 rfl rfl
theorem inst_X5 : (Jvm.Cond.instantiable "PigLine$Reel" (3 : Nat)) ∈ LG := mg1 30 rfl rfl
theorem lkM_X6_11 : (Jvm.Cond.methodLink "PigLine$Run" (11 : Nat) ({ cls := "PigLine$Reel", name := "<init>", desc := "()V" } : Jvm.MethodName)) ∈ LG := mg1 31 rfl rfl
theorem mI_X5_init : (Jvm.Cond.instanceMethod ({ cls := "PigLine$Reel", name := "<init>", desc := "()V" } : Jvm.MethodName)) ∈ LG := mg1 32 rfl rfl
theorem mC_X5_init : (Jvm.Cond.code ({ cls := "PigLine$Reel", name := "<init>", desc := "()V" } : Jvm.MethodName) prog_7_method_1_code (1 : Nat) (Option.none : Option Jvm.ClassFile.FieldType)) ∈ LG := mg1 33 rfl rfl
theorem lkM_X5_3 : (Jvm.Cond.methodLink "PigLine$Reel" (3 : Nat) ({ cls := "java/lang/Object", name := "<init>", desc := "()V" } : Jvm.MethodName)) ∈ LG := mg1 34 rfl rfl
theorem lkF_X5_9 : (Jvm.Cond.fieldLink "PigLine$Reel" (9 : Nat) "PigLine$Reel" "items" "[I") ∈ LG := mg1 35 rfl rfl
theorem lkF_X9_100 : (Jvm.Cond.fieldLink "PigLine" (100 : Nat) "PigLine$Reel" "items" "[I") ∈ LG := mg1 36 rfl rfl
theorem lkF_X5_15 : (Jvm.Cond.fieldLink "PigLine$Reel" (15 : Nat) "PigLine$Reel" "form" "I") ∈ LG := mg1 37 rfl rfl
theorem lkF_X9_104 : (Jvm.Cond.fieldLink "PigLine" (104 : Nat) "PigLine$Reel" "form" "I") ∈ LG := mg1 38 rfl rfl
theorem lkF_X5_19 : (Jvm.Cond.fieldLink "PigLine$Reel" (19 : Nat) "PigLine$Reel" "size" "I") ∈ LG := mg1 39 rfl rfl
theorem lkF_X6_47 : (Jvm.Cond.fieldLink "PigLine$Run" (47 : Nat) "PigLine$Reel" "size" "I") ∈ LG := mg1 40 rfl rfl
theorem lkF_X9_86 : (Jvm.Cond.fieldLink "PigLine" (86 : Nat) "PigLine$Reel" "size" "I") ∈ LG := mg1 41 rfl rfl
theorem ac_I : (Jvm.Cond.arrayClass Jvm.ClassFile.FieldType.int) ∈ LG := mg1 49 rfl rfl
theorem lkK_X6_27 : (Jvm.Cond.classLink "PigLine$Run" (27 : Nat) "PigLine$Marks") ∈ LG := mg1 50 rfl rfl
theorem inst_X3 : (Jvm.Cond.instantiable "PigLine$Marks" (8 : Nat)) ∈ LG := mg1 51 rfl rfl
theorem lkM_X6_29 : (Jvm.Cond.methodLink "PigLine$Run" (29 : Nat) ({ cls := "PigLine$Marks", name := "<init>", desc := "()V" } : Jvm.MethodName)) ∈ LG := mg1 52 rfl rfl
theorem mI_X3_init : (Jvm.Cond.instanceMethod ({ cls := "PigLine$Marks", name := "<init>", desc := "()V" } : Jvm.MethodName)) ∈ LG := mg1 53 rfl rfl
theorem mC_X3_init : (Jvm.Cond.code ({ cls := "PigLine$Marks", name := "<init>", desc := "()V" } : Jvm.MethodName) prog_5_method_1_code (1 : Nat) (Option.none : Option Jvm.ClassFile.FieldType)) ∈ LG := mg1 54 rfl rfl
theorem lkM_X3_3 : (Jvm.Cond.methodLink "PigLine$Marks" (3 : Nat) ({ cls := "java/lang/Object", name := "<init>", desc := "()V" } : Jvm.MethodName)) ∈ LG := mg1 55 rfl rfl
theorem lkF_X3_9 : (Jvm.Cond.fieldLink "PigLine$Marks" (9 : Nat) "PigLine$Marks" "ways" "[I") ∈ LG := mg1 56 rfl rfl
theorem lkF_X2_37 : (Jvm.Cond.fieldLink "PigLine$Lot" (37 : Nat) "PigLine$Marks" "ways" "[I") ∈ LG := mg1 57 rfl rfl
theorem lkF_X6_80 : (Jvm.Cond.fieldLink "PigLine$Run" (80 : Nat) "PigLine$Marks" "ways" "[I") ∈ LG := mg1 58 rfl rfl
theorem lkF_X9_284 : (Jvm.Cond.fieldLink "PigLine" (284 : Nat) "PigLine$Marks" "ways" "[I") ∈ LG := mg1 59 rfl rfl
theorem lkF_X3_15 : (Jvm.Cond.fieldLink "PigLine$Marks" (15 : Nat) "PigLine$Marks" "clocks" "[I") ∈ LG := mg1 60 rfl rfl
theorem lkF_X2_47 : (Jvm.Cond.fieldLink "PigLine$Lot" (47 : Nat) "PigLine$Marks" "clocks" "[I") ∈ LG := mg1 61 rfl rfl
theorem lkF_X3_18 : (Jvm.Cond.fieldLink "PigLine$Marks" (18 : Nat) "PigLine$Marks" "depths" "[I") ∈ LG := mg1 62 rfl rfl
theorem lkF_X9_219 : (Jvm.Cond.fieldLink "PigLine" (219 : Nat) "PigLine$Marks" "depths" "[I") ∈ LG := mg1 63 rfl rfl
theorem lkF_X3_21 : (Jvm.Cond.fieldLink "PigLine$Marks" (21 : Nat) "PigLine$Marks" "lengths" "[I") ∈ LG := mg1 64 rfl rfl
theorem lkF_X3_24 : (Jvm.Cond.fieldLink "PigLine$Marks" (24 : Nat) "PigLine$Marks" "groupOf" "[I") ∈ LG := mg1 65 rfl rfl
theorem lkF_X3_27 : (Jvm.Cond.fieldLink "PigLine$Marks" (27 : Nat) "PigLine$Marks" "waiting" "[I") ∈ LG := mg1 66 rfl rfl
theorem lkF_X3_30 : (Jvm.Cond.fieldLink "PigLine$Marks" (30 : Nat) "PigLine$Marks" "size" "I") ∈ LG := mg1 67 rfl rfl
theorem lkF_X2_34 : (Jvm.Cond.fieldLink "PigLine$Lot" (34 : Nat) "PigLine$Marks" "size" "I") ∈ LG := mg1 68 rfl rfl
theorem lkF_X9_182 : (Jvm.Cond.fieldLink "PigLine" (182 : Nat) "PigLine$Marks" "size" "I") ∈ LG := mg1 69 rfl rfl
theorem lkF_X3_47 : (Jvm.Cond.fieldLink "PigLine$Marks" (47 : Nat) "PigLine$Marks" "groupCount" "I") ∈ LG := mg1 70 rfl rfl
theorem lkF_X9_192 : (Jvm.Cond.fieldLink "PigLine" (192 : Nat) "PigLine$Marks" "groupCount" "I") ∈ LG := mg1 71 rfl rfl
theorem lkF_X6_12 : (Jvm.Cond.fieldLink "PigLine$Run" (12 : Nat) "PigLine$Run" "wheelA" "LPigLine$Reel;") ∈ LG := mg1 89 rfl rfl
theorem lkF_X6_18 : (Jvm.Cond.fieldLink "PigLine$Run" (18 : Nat) "PigLine$Run" "wheelB" "LPigLine$Reel;") ∈ LG := mg1 90 rfl rfl
theorem lkF_X6_21 : (Jvm.Cond.fieldLink "PigLine$Run" (21 : Nat) "PigLine$Run" "wheelC" "LPigLine$Reel;") ∈ LG := mg1 91 rfl rfl
theorem lkF_X6_24 : (Jvm.Cond.fieldLink "PigLine$Run" (24 : Nat) "PigLine$Run" "feelers" "LPigLine$Reel;") ∈ LG := mg1 92 rfl rfl
theorem lkF_X6_30 : (Jvm.Cond.fieldLink "PigLine$Run" (30 : Nat) "PigLine$Run" "marks" "LPigLine$Marks;") ∈ LG := mg1 93 rfl rfl
theorem lkF_X2_30 : (Jvm.Cond.fieldLink "PigLine$Lot" (30 : Nat) "PigLine$Run" "marks" "LPigLine$Marks;") ∈ LG := mg1 94 rfl rfl
theorem lkF_X9_173 : (Jvm.Cond.fieldLink "PigLine" (173 : Nat) "PigLine$Run" "marks" "LPigLine$Marks;") ∈ LG := mg1 95 rfl rfl
theorem lkF_X6_34 : (Jvm.Cond.fieldLink "PigLine$Run" (34 : Nat) "PigLine$Run" "ways" "[I") ∈ LG := mg1 96 rfl rfl
theorem lkF_X9_134 : (Jvm.Cond.fieldLink "PigLine" (134 : Nat) "PigLine$Run" "ways" "[I") ∈ LG := mg1 97 rfl rfl
theorem lkF_X6_38 : (Jvm.Cond.fieldLink "PigLine$Run" (38 : Nat) "PigLine$Run" "starts" "[I") ∈ LG := mg1 98 rfl rfl
theorem lkF_X2_44 : (Jvm.Cond.fieldLink "PigLine$Lot" (44 : Nat) "PigLine$Run" "starts" "[I") ∈ LG := mg1 99 rfl rfl
theorem lkF_X9_140 : (Jvm.Cond.fieldLink "PigLine" (140 : Nat) "PigLine$Run" "starts" "[I") ∈ LG := mg1 100 rfl rfl
theorem lkF_X6_41 : (Jvm.Cond.fieldLink "PigLine$Run" (41 : Nat) "PigLine$Run" "lengths" "[I") ∈ LG := mg1 101 rfl rfl
theorem lkF_X0_43 : (Jvm.Cond.fieldLink "PigLine$Book" (43 : Nat) "PigLine$Run" "lengths" "[I") ∈ LG := mg1 102 rfl rfl
theorem lkF_X9_143 : (Jvm.Cond.fieldLink "PigLine" (143 : Nat) "PigLine$Run" "lengths" "[I") ∈ LG := mg1 103 rfl rfl
theorem lkF_X6_44 : (Jvm.Cond.fieldLink "PigLine$Run" (44 : Nat) "PigLine$Run" "partners" "[I") ∈ LG := mg1 104 rfl rfl
theorem lkF_X0_55 : (Jvm.Cond.fieldLink "PigLine$Book" (55 : Nat) "PigLine$Run" "partners" "[I") ∈ LG := mg1 105 rfl rfl
theorem lkF_X9_169 : (Jvm.Cond.fieldLink "PigLine" (169 : Nat) "PigLine$Run" "partners" "[I") ∈ LG := mg1 106 rfl rfl
theorem lkF_X6_57 : (Jvm.Cond.fieldLink "PigLine$Run" (57 : Nat) "PigLine$Run" "ticks" "I") ∈ LG := mg1 107 rfl rfl
theorem lkF_X9_131 : (Jvm.Cond.fieldLink "PigLine" (131 : Nat) "PigLine$Run" "ticks" "I") ∈ LG := mg1 108 rfl rfl
theorem lkF_X6_60 : (Jvm.Cond.fieldLink "PigLine$Run" (60 : Nat) "PigLine$Run" "blindTicks" "I") ∈ LG := mg1 109 rfl rfl
theorem lkF_X2_25 : (Jvm.Cond.fieldLink "PigLine$Lot" (25 : Nat) "PigLine$Run" "feltCount" "I") ∈ LG := mg1 110 rfl rfl
theorem lkF_X6_63 : (Jvm.Cond.fieldLink "PigLine$Run" (63 : Nat) "PigLine$Run" "feltCount" "I") ∈ LG := mg1 111 rfl rfl
theorem lkF_X0_28 : (Jvm.Cond.fieldLink "PigLine$Book" (28 : Nat) "PigLine$Run" "feltCount" "I") ∈ LG := mg1 112 rfl rfl
theorem lkF_X9_137 : (Jvm.Cond.fieldLink "PigLine" (137 : Nat) "PigLine$Run" "feltCount" "I") ∈ LG := mg1 113 rfl rfl
theorem lkK_X9_19 : (Jvm.Cond.classLink "PigLine" (19 : Nat) "PigLine$Book") ∈ LG := mg1 139 rfl rfl
theorem inst_X0 : (Jvm.Cond.instantiable "PigLine$Book" (5 : Nat)) ∈ LG := mg1 140 rfl rfl
theorem lkM_X9_21 : (Jvm.Cond.methodLink "PigLine" (21 : Nat) ({ cls := "PigLine$Book", name := "<init>", desc := "()V" } : Jvm.MethodName)) ∈ LG := mg1 141 rfl rfl
theorem mI_X0_init : (Jvm.Cond.instanceMethod ({ cls := "PigLine$Book", name := "<init>", desc := "()V" } : Jvm.MethodName)) ∈ LG := mg1 142 rfl rfl
theorem mC_X0_init : (Jvm.Cond.code ({ cls := "PigLine$Book", name := "<init>", desc := "()V" } : Jvm.MethodName) prog_2_method_1_code (1 : Nat) (Option.none : Option Jvm.ClassFile.FieldType)) ∈ LG := mg1 143 rfl rfl
theorem lkM_X0_3 : (Jvm.Cond.methodLink "PigLine$Book" (3 : Nat) ({ cls := "java/lang/Object", name := "<init>", desc := "()V" } : Jvm.MethodName)) ∈ LG := mg1 144 rfl rfl
theorem lkF_X0_9 : (Jvm.Cond.fieldLink "PigLine$Book" (9 : Nat) "PigLine$Book" "lengths" "[I") ∈ LG := mg1 145 rfl rfl
theorem lkF_X0_15 : (Jvm.Cond.fieldLink "PigLine$Book" (15 : Nat) "PigLine$Book" "least" "[I") ∈ LG := mg1 146 rfl rfl
theorem lkF_X0_18 : (Jvm.Cond.fieldLink "PigLine$Book" (18 : Nat) "PigLine$Book" "size" "I") ∈ LG := mg1 147 rfl rfl
theorem lkF_X9_150 : (Jvm.Cond.fieldLink "PigLine" (150 : Nat) "PigLine$Book" "size" "I") ∈ LG := mg1 148 rfl rfl
theorem lkF_X0_22 : (Jvm.Cond.fieldLink "PigLine$Book" (22 : Nat) "PigLine$Book" "missed" "I") ∈ LG := mg1 149 rfl rfl
theorem lkF_X9_152 : (Jvm.Cond.fieldLink "PigLine" (152 : Nat) "PigLine$Book" "missed" "I") ∈ LG := mg1 150 rfl rfl
theorem lkF_X0_25 : (Jvm.Cond.fieldLink "PigLine$Book" (25 : Nat) "PigLine$Book" "extra" "I") ∈ LG := mg1 151 rfl rfl
theorem lkF_X9_155 : (Jvm.Cond.fieldLink "PigLine" (155 : Nat) "PigLine$Book" "extra" "I") ∈ LG := mg1 152 rfl rfl
theorem lkK_X9_26 : (Jvm.Cond.classLink "PigLine" (26 : Nat) "PigLine$Pairs") ∈ LG := mg1 164 rfl rfl
theorem inst_X4 : (Jvm.Cond.instantiable "PigLine$Pairs" (4 : Nat)) ∈ LG := mg1 165 rfl rfl
theorem lkM_X9_28 : (Jvm.Cond.methodLink "PigLine" (28 : Nat) ({ cls := "PigLine$Pairs", name := "<init>", desc := "()V" } : Jvm.MethodName)) ∈ LG := mg1 166 rfl rfl
theorem mI_X4_init : (Jvm.Cond.instanceMethod ({ cls := "PigLine$Pairs", name := "<init>", desc := "()V" } : Jvm.MethodName)) ∈ LG := mg1 167 rfl rfl
theorem mC_X4_init : (Jvm.Cond.code ({ cls := "PigLine$Pairs", name := "<init>", desc := "()V" } : Jvm.MethodName) prog_6_method_1_code (1 : Nat) (Option.none : Option Jvm.ClassFile.FieldType)) ∈ LG := mg1 168 rfl rfl
theorem lkM_X4_3 : (Jvm.Cond.methodLink "PigLine$Pairs" (3 : Nat) ({ cls := "java/lang/Object", name := "<init>", desc := "()V" } : Jvm.MethodName)) ∈ LG := mg1 169 rfl rfl
theorem lkK_X4_9 : (Jvm.Cond.classLink "PigLine$Pairs" (9 : Nat) "PigLine$Lot") ∈ LG := mg1 170 rfl rfl
theorem inst_X2 : (Jvm.Cond.instantiable "PigLine$Lot" (4 : Nat)) ∈ LG := mg1 171 rfl rfl
theorem lkM_X4_11 : (Jvm.Cond.methodLink "PigLine$Pairs" (11 : Nat) ({ cls := "PigLine$Lot", name := "<init>", desc := "()V" } : Jvm.MethodName)) ∈ LG := mg1 172 rfl rfl
theorem mI_X2_init : (Jvm.Cond.instanceMethod ({ cls := "PigLine$Lot", name := "<init>", desc := "()V" } : Jvm.MethodName)) ∈ LG := mg1 173 rfl rfl
theorem mC_X2_init : (Jvm.Cond.code ({ cls := "PigLine$Lot", name := "<init>", desc := "()V" } : Jvm.MethodName) prog_4_method_1_code (1 : Nat) (Option.none : Option Jvm.ClassFile.FieldType)) ∈ LG := mg1 174 rfl rfl
theorem lkM_X2_3 : (Jvm.Cond.methodLink "PigLine$Lot" (3 : Nat) ({ cls := "java/lang/Object", name := "<init>", desc := "()V" } : Jvm.MethodName)) ∈ LG := mg1 175 rfl rfl
theorem lkF_X2_9 : (Jvm.Cond.fieldLink "PigLine$Lot" (9 : Nat) "PigLine$Lot" "numbers" "[I") ∈ LG := mg1 176 rfl rfl
theorem lkF_X4_70 : (Jvm.Cond.fieldLink "PigLine$Pairs" (70 : Nat) "PigLine$Lot" "numbers" "[I") ∈ LG := mg1 177 rfl rfl
theorem lkF_X2_15 : (Jvm.Cond.fieldLink "PigLine$Lot" (15 : Nat) "PigLine$Lot" "distances" "[I") ∈ LG := mg1 178 rfl rfl
theorem lkF_X4_55 : (Jvm.Cond.fieldLink "PigLine$Pairs" (55 : Nat) "PigLine$Lot" "distances" "[I") ∈ LG := mg1 179 rfl rfl
theorem lkF_X2_18 : (Jvm.Cond.fieldLink "PigLine$Lot" (18 : Nat) "PigLine$Lot" "clocks" "[I") ∈ LG := mg1 180 rfl rfl
theorem lkF_X4_61 : (Jvm.Cond.fieldLink "PigLine$Pairs" (61 : Nat) "PigLine$Lot" "clocks" "[I") ∈ LG := mg1 181 rfl rfl
theorem lkF_X2_21 : (Jvm.Cond.fieldLink "PigLine$Lot" (21 : Nat) "PigLine$Lot" "size" "I") ∈ LG := mg1 182 rfl rfl
theorem lkF_X4_33 : (Jvm.Cond.fieldLink "PigLine$Pairs" (33 : Nat) "PigLine$Lot" "size" "I") ∈ LG := mg1 183 rfl rfl
theorem lkF_X4_12 : (Jvm.Cond.fieldLink "PigLine$Pairs" (12 : Nat) "PigLine$Pairs" "firsts" "LPigLine$Lot;") ∈ LG := mg1 193 rfl rfl
theorem lkF_X4_18 : (Jvm.Cond.fieldLink "PigLine$Pairs" (18 : Nat) "PigLine$Pairs" "seconds" "LPigLine$Lot;") ∈ LG := mg1 194 rfl rfl
theorem lkF_X4_21 : (Jvm.Cond.fieldLink "PigLine$Pairs" (21 : Nat) "PigLine$Pairs" "least" "[I") ∈ LG := mg1 195 rfl rfl
theorem lkF_X4_25 : (Jvm.Cond.fieldLink "PigLine$Pairs" (25 : Nat) "PigLine$Pairs" "alone" "I") ∈ LG := mg1 196 rfl rfl
theorem lkF_X9_198 : (Jvm.Cond.fieldLink "PigLine" (198 : Nat) "PigLine$Pairs" "alone" "I") ∈ LG := mg1 197 rfl rfl
theorem lkK_X9_33 : (Jvm.Cond.classLink "PigLine" (33 : Nat) "PigLine$Spans") ∈ LG := mg1 207 rfl rfl
theorem inst_X7 : (Jvm.Cond.instantiable "PigLine$Spans" (3 : Nat)) ∈ LG := mg1 208 rfl rfl
theorem lkM_X9_35 : (Jvm.Cond.methodLink "PigLine" (35 : Nat) ({ cls := "PigLine$Spans", name := "<init>", desc := "()V" } : Jvm.MethodName)) ∈ LG := mg1 209 rfl rfl
theorem mI_X7_init : (Jvm.Cond.instanceMethod ({ cls := "PigLine$Spans", name := "<init>", desc := "()V" } : Jvm.MethodName)) ∈ LG := mg1 210 rfl rfl
theorem mC_X7_init : (Jvm.Cond.code ({ cls := "PigLine$Spans", name := "<init>", desc := "()V" } : Jvm.MethodName) prog_9_method_1_code (1 : Nat) (Option.none : Option Jvm.ClassFile.FieldType)) ∈ LG := mg1 211 rfl rfl
theorem lkM_X7_3 : (Jvm.Cond.methodLink "PigLine$Spans" (3 : Nat) ({ cls := "java/lang/Object", name := "<init>", desc := "()V" } : Jvm.MethodName)) ∈ LG := mg1 212 rfl rfl
theorem lkF_X7_9 : (Jvm.Cond.fieldLink "PigLine$Spans" (9 : Nat) "PigLine$Spans" "years" "I") ∈ LG := mg1 213 rfl rfl
theorem lkF_X9_210 : (Jvm.Cond.fieldLink "PigLine" (210 : Nat) "PigLine$Spans" "years" "I") ∈ LG := mg1 214 rfl rfl
theorem lkF_X7_15 : (Jvm.Cond.fieldLink "PigLine$Spans" (15 : Nat) "PigLine$Spans" "tool" "I") ∈ LG := mg1 215 rfl rfl
theorem lkF_X9_213 : (Jvm.Cond.fieldLink "PigLine" (213 : Nat) "PigLine$Spans" "tool" "I") ∈ LG := mg1 216 rfl rfl
theorem lkF_X7_18 : (Jvm.Cond.fieldLink "PigLine$Spans" (18 : Nat) "PigLine$Spans" "limit" "I") ∈ LG := mg1 217 rfl rfl
theorem lkF_X9_216 : (Jvm.Cond.fieldLink "PigLine" (216 : Nat) "PigLine$Spans" "limit" "I") ∈ LG := mg1 218 rfl rfl
theorem lkK_X9_40 : (Jvm.Cond.classLink "PigLine" (40 : Nat) "PigLine$Digs") ∈ LG := mg1 226 rfl rfl
theorem inst_X1 : (Jvm.Cond.instantiable "PigLine$Digs" (6 : Nat)) ∈ LG := mg1 227 rfl rfl
theorem lkM_X9_42 : (Jvm.Cond.methodLink "PigLine" (42 : Nat) ({ cls := "PigLine$Digs", name := "<init>", desc := "()V" } : Jvm.MethodName)) ∈ LG := mg1 228 rfl rfl
theorem mI_X1_init : (Jvm.Cond.instanceMethod ({ cls := "PigLine$Digs", name := "<init>", desc := "()V" } : Jvm.MethodName)) ∈ LG := mg1 229 rfl rfl
theorem mC_X1_init : (Jvm.Cond.code ({ cls := "PigLine$Digs", name := "<init>", desc := "()V" } : Jvm.MethodName) prog_3_method_1_code (1 : Nat) (Option.none : Option Jvm.ClassFile.FieldType)) ∈ LG := mg1 230 rfl rfl
theorem lkM_X1_3 : (Jvm.Cond.methodLink "PigLine$Digs" (3 : Nat) ({ cls := "java/lang/Object", name := "<init>", desc := "()V" } : Jvm.MethodName)) ∈ LG := mg1 231 rfl rfl
theorem lkF_X1_9 : (Jvm.Cond.fieldLink "PigLine$Digs" (9 : Nat) "PigLine$Digs" "lastYears" "[I") ∈ LG := mg1 232 rfl rfl
theorem lkF_X1_15 : (Jvm.Cond.fieldLink "PigLine$Digs" (15 : Nat) "PigLine$Digs" "dueIn" "[I") ∈ LG := mg1 233 rfl rfl
theorem lkF_X1_25 : (Jvm.Cond.fieldLink "PigLine$Digs" (25 : Nat) "PigLine$Digs" "size" "I") ∈ LG := mg1 234 rfl rfl
theorem lkF_X9_240 : (Jvm.Cond.fieldLink "PigLine" (240 : Nat) "PigLine$Digs" "size" "I") ∈ LG := mg1 235 rfl rfl
theorem lkF_X1_28 : (Jvm.Cond.fieldLink "PigLine$Digs" (28 : Nat) "PigLine$Digs" "costOfWorks" "I") ∈ LG := mg1 236 rfl rfl
theorem lkF_X1_18 : (Jvm.Cond.fieldLink "PigLine$Digs" (18 : Nat) "PigLine$Digs" "perYear" "I") ∈ LG := mg1 237 rfl rfl
theorem lkF_X9_227 : (Jvm.Cond.fieldLink "PigLine" (227 : Nat) "PigLine$Digs" "perYear" "I") ∈ LG := mg1 238 rfl rfl
theorem lkF_X1_22 : (Jvm.Cond.fieldLink "PigLine$Digs" (22 : Nat) "PigLine$Digs" "setting" "I") ∈ LG := mg1 239 rfl rfl
theorem lkF_X9_230 : (Jvm.Cond.fieldLink "PigLine" (230 : Nat) "PigLine$Digs" "setting" "I") ∈ LG := mg2 0 rfl rfl
theorem lkK_X9_47 : (Jvm.Cond.classLink "PigLine" (47 : Nat) "PigLine$Valves") ∈ LG := mg2 14 rfl rfl
theorem inst_X8 : (Jvm.Cond.instantiable "PigLine$Valves" (2 : Nat)) ∈ LG := mg2 15 rfl rfl
theorem lkM_X9_49 : (Jvm.Cond.methodLink "PigLine" (49 : Nat) ({ cls := "PigLine$Valves", name := "<init>", desc := "()V" } : Jvm.MethodName)) ∈ LG := mg2 16 rfl rfl
theorem mI_X8_init : (Jvm.Cond.instanceMethod ({ cls := "PigLine$Valves", name := "<init>", desc := "()V" } : Jvm.MethodName)) ∈ LG := mg2 17 rfl rfl
theorem mC_X8_init : (Jvm.Cond.code ({ cls := "PigLine$Valves", name := "<init>", desc := "()V" } : Jvm.MethodName) prog_10_method_1_code (1 : Nat) (Option.none : Option Jvm.ClassFile.FieldType)) ∈ LG := mg2 18 rfl rfl
theorem lkM_X8_3 : (Jvm.Cond.methodLink "PigLine$Valves" (3 : Nat) ({ cls := "java/lang/Object", name := "<init>", desc := "()V" } : Jvm.MethodName)) ∈ LG := mg2 19 rfl rfl
theorem lkF_X8_9 : (Jvm.Cond.fieldLink "PigLine$Valves" (9 : Nat) "PigLine$Valves" "openBits" "I") ∈ LG := mg2 20 rfl rfl
theorem lkF_X9_257 : (Jvm.Cond.fieldLink "PigLine" (257 : Nat) "PigLine$Valves" "openBits" "I") ∈ LG := mg2 21 rfl rfl
theorem lkF_X8_15 : (Jvm.Cond.fieldLink "PigLine$Valves" (15 : Nat) "PigLine$Valves" "pressed" "Z") ∈ LG := mg2 22 rfl rfl
theorem lkF_X9_260 : (Jvm.Cond.fieldLink "PigLine" (260 : Nat) "PigLine$Valves" "pressed" "Z") ∈ LG := mg2 23 rfl rfl
theorem lkF_X9_10 : (Jvm.Cond.fieldLink "PigLine" (10 : Nat) "PigLine" "firstRun" "LPigLine$Run;") ∈ LG := mg2 29 rfl rfl
theorem lkF_X9_16 : (Jvm.Cond.fieldLink "PigLine" (16 : Nat) "PigLine" "secondRun" "LPigLine$Run;") ∈ LG := mg2 30 rfl rfl
theorem lkF_X9_22 : (Jvm.Cond.fieldLink "PigLine" (22 : Nat) "PigLine" "book" "LPigLine$Book;") ∈ LG := mg2 31 rfl rfl
theorem lkF_X9_29 : (Jvm.Cond.fieldLink "PigLine" (29 : Nat) "PigLine" "pairs" "LPigLine$Pairs;") ∈ LG := mg2 32 rfl rfl
theorem lkF_X9_36 : (Jvm.Cond.fieldLink "PigLine" (36 : Nat) "PigLine" "spans" "LPigLine$Spans;") ∈ LG := mg2 33 rfl rfl
theorem lkF_X9_43 : (Jvm.Cond.fieldLink "PigLine" (43 : Nat) "PigLine" "digs" "LPigLine$Digs;") ∈ LG := mg2 34 rfl rfl
theorem lkF_X9_50 : (Jvm.Cond.fieldLink "PigLine" (50 : Nat) "PigLine" "valves" "LPigLine$Valves;") ∈ LG := mg2 35 rfl rfl
theorem lkF_X9_54 : (Jvm.Cond.fieldLink "PigLine" (54 : Nat) "PigLine" "gap" "I") ∈ LG := mg2 36 rfl rfl
theorem lkF_X9_58 : (Jvm.Cond.fieldLink "PigLine" (58 : Nat) "PigLine" "turn" "I") ∈ LG := mg2 37 rfl rfl
theorem lkF_X9_61 : (Jvm.Cond.fieldLink "PigLine" (61 : Nat) "PigLine" "latestFinding" "I") ∈ LG := mg2 38 rfl rfl
theorem lkM_L_13 : (Jvm.Cond.methodLink "PigLineLaw" (13 : Nat) ({ cls := "PigLine", name := "reel", desc := "(III)I" } : Jvm.MethodName)) ∈ LG := mg2 60 rfl rfl
theorem mI_X9_reel : (Jvm.Cond.instanceMethod ({ cls := "PigLine", name := "reel", desc := "(III)I" } : Jvm.MethodName)) ∈ LG := mg2 61 rfl rfl
theorem mE_X9_reel : (Jvm.Cond.selects "PigLine" ({ cls := "PigLine", name := "reel", desc := "(III)I" } : Jvm.MethodName) ({ cls := "PigLine", name := "reel", desc := "(III)I" } : Jvm.MethodName)) ∈ LG := mg2 62 rfl rfl
theorem mC_X9_reel : (Jvm.Cond.code ({ cls := "PigLine", name := "reel", desc := "(III)I" } : Jvm.MethodName) prog_1_method_2_code (5 : Nat) (Option.some Jvm.ClassFile.FieldType.int)) ∈ LG := mg2 63 rfl rfl
theorem lkM_X9_64 : (Jvm.Cond.methodLink "PigLine" (64 : Nat) ({ cls := "PigLine", name := "reelAt", desc := "(I)LPigLine$Reel;" } : Jvm.MethodName)) ∈ LG := mg2 64 rfl rfl
theorem mI_X9_reelAt : (Jvm.Cond.instanceMethod ({ cls := "PigLine", name := "reelAt", desc := "(I)LPigLine$Reel;" } : Jvm.MethodName)) ∈ LG := mg2 66 rfl rfl
theorem mC_X9_reelAt : (Jvm.Cond.code ({ cls := "PigLine", name := "reelAt", desc := "(I)LPigLine$Reel;" } : Jvm.MethodName) prog_1_method_39_code (3 : Nat) (Option.some (Jvm.ClassFile.FieldType.object "PigLine$Reel"))) ∈ LG := mg2 67 rfl rfl
theorem lkM_X9_117 : (Jvm.Cond.methodLink "PigLine" (117 : Nat) ({ cls := "PigLine", name := "runAt", desc := "(I)LPigLine$Run;" } : Jvm.MethodName)) ∈ LG := mg2 68 rfl rfl
theorem mI_X9_runAt : (Jvm.Cond.instanceMethod ({ cls := "PigLine", name := "runAt", desc := "(I)LPigLine$Run;" } : Jvm.MethodName)) ∈ LG := mg2 70 rfl rfl
theorem mC_X9_runAt : (Jvm.Cond.code ({ cls := "PigLine", name := "runAt", desc := "(I)LPigLine$Run;" } : Jvm.MethodName) prog_1_method_38_code (2 : Nat) (Option.some (Jvm.ClassFile.FieldType.object "PigLine$Run"))) ∈ LG := mg2 71 rfl rfl
theorem lkM_X9_283 : (Jvm.Cond.methodLink "PigLine" (283 : Nat) ({ cls := "PigLine$Run", name := "reelAt", desc := "(I)LPigLine$Reel;" } : Jvm.MethodName)) ∈ LG := mg2 72 rfl rfl
theorem mI_X6_reelAt : (Jvm.Cond.instanceMethod ({ cls := "PigLine$Run", name := "reelAt", desc := "(I)LPigLine$Reel;" } : Jvm.MethodName)) ∈ LG := mg2 73 rfl rfl
theorem mE_X6_reelAt : (Jvm.Cond.selects "PigLine$Run" ({ cls := "PigLine$Run", name := "reelAt", desc := "(I)LPigLine$Reel;" } : Jvm.MethodName) ({ cls := "PigLine$Run", name := "reelAt", desc := "(I)LPigLine$Reel;" } : Jvm.MethodName)) ∈ LG := mg2 74 rfl rfl
theorem mC_X6_reelAt : (Jvm.Cond.code ({ cls := "PigLine$Run", name := "reelAt", desc := "(I)LPigLine$Reel;" } : Jvm.MethodName) prog_8_method_2_code (2 : Nat) (Option.some (Jvm.ClassFile.FieldType.object "PigLine$Reel"))) ∈ LG := mg2 75 rfl rfl
theorem lkM_X9_68 : (Jvm.Cond.methodLink "PigLine" (68 : Nat) ({ cls := "PigLine", name := "isForm", desc := "(I)Z" } : Jvm.MethodName)) ∈ LG := mg2 76 rfl rfl
theorem mS_X9_isForm : (Jvm.Cond.static ({ cls := "PigLine", name := "isForm", desc := "(I)Z" } : Jvm.MethodName)) ∈ LG := mg2 77 rfl rfl
theorem mC_X9_isForm : (Jvm.Cond.code ({ cls := "PigLine", name := "isForm", desc := "(I)Z" } : Jvm.MethodName) prog_1_method_35_code (1 : Nat) (Option.some Jvm.ClassFile.FieldType.boolean)) ∈ LG := mg2 78 rfl rfl
theorem lkM_X9_121 : (Jvm.Cond.methodLink "PigLine" (121 : Nat) ({ cls := "PigLine", name := "isWithin", desc := "(III)Z" } : Jvm.MethodName)) ∈ LG := mg2 79 rfl rfl
theorem mS_X9_isWithin : (Jvm.Cond.static ({ cls := "PigLine", name := "isWithin", desc := "(III)Z" } : Jvm.MethodName)) ∈ LG := mg2 80 rfl rfl
theorem mC_X9_isWithin : (Jvm.Cond.code ({ cls := "PigLine", name := "isWithin", desc := "(III)Z" } : Jvm.MethodName) prog_1_method_34_code (3 : Nat) (Option.some Jvm.ClassFile.FieldType.boolean)) ∈ LG := mg2 81 rfl rfl
theorem lkM_X9_72 : (Jvm.Cond.methodLink "PigLine" (72 : Nat) ({ cls := "PigLine", name := "found", desc := "(I)I" } : Jvm.MethodName)) ∈ LG := mg2 82 rfl rfl
theorem mI_X9_found : (Jvm.Cond.instanceMethod ({ cls := "PigLine", name := "found", desc := "(I)I" } : Jvm.MethodName)) ∈ LG := mg2 84 rfl rfl
theorem mC_X9_found : (Jvm.Cond.code ({ cls := "PigLine", name := "found", desc := "(I)I" } : Jvm.MethodName) prog_1_method_37_code (2 : Nat) (Option.some Jvm.ClassFile.FieldType.int)) ∈ LG := mg2 85 rfl rfl
theorem lkM_X9_76 : (Jvm.Cond.methodLink "PigLine" (76 : Nat) ({ cls := "PigLine$Reel", name := "begin", desc := "(II)V" } : Jvm.MethodName)) ∈ LG := mg2 86 rfl rfl
theorem mI_X5_begin : (Jvm.Cond.instanceMethod ({ cls := "PigLine$Reel", name := "begin", desc := "(II)V" } : Jvm.MethodName)) ∈ LG := mg2 87 rfl rfl
theorem mE_X5_begin : (Jvm.Cond.selects "PigLine$Reel" ({ cls := "PigLine$Reel", name := "begin", desc := "(II)V" } : Jvm.MethodName) ({ cls := "PigLine$Reel", name := "begin", desc := "(II)V" } : Jvm.MethodName)) ∈ LG := mg2 88 rfl rfl
theorem mC_X5_begin : (Jvm.Cond.code ({ cls := "PigLine$Reel", name := "begin", desc := "(II)V" } : Jvm.MethodName) prog_7_method_3_code (4 : Nat) (Option.none : Option Jvm.ClassFile.FieldType)) ∈ LG := mg2 89 rfl rfl
theorem lkM_X5_22 : (Jvm.Cond.methodLink "PigLine$Reel" (22 : Nat) ({ cls := "java/lang/Math", name := "min", desc := "(II)I" } : Jvm.MethodName)) ∈ LG := mg2 90 rfl rfl
theorem mS_J9_min_7cf53 : (Jvm.Cond.static ({ cls := "java/lang/Math", name := "min", desc := "(II)I" } : Jvm.MethodName)) ∈ LG := mg2 91 rfl rfl
theorem mC_J9_min_7cf53 : (Jvm.Cond.code ({ cls := "java/lang/Math", name := "min", desc := "(II)I" } : Jvm.MethodName) prog_14_method_69_code (2 : Nat) (Option.some Jvm.ClassFile.FieldType.int)) ∈ LG := mg2 92 rfl rfl
theorem lkM_L_18 : (Jvm.Cond.methodLink "PigLineLaw" (18 : Nat) ({ cls := "PigLine", name := "lose", desc := "(I)I" } : Jvm.MethodName)) ∈ LG := mg2 93 rfl rfl
theorem mI_X9_lose : (Jvm.Cond.instanceMethod ({ cls := "PigLine", name := "lose", desc := "(I)I" } : Jvm.MethodName)) ∈ LG := mg2 94 rfl rfl
theorem mE_X9_lose : (Jvm.Cond.selects "PigLine" ({ cls := "PigLine", name := "lose", desc := "(I)I" } : Jvm.MethodName) ({ cls := "PigLine", name := "lose", desc := "(I)I" } : Jvm.MethodName)) ∈ LG := mg2 95 rfl rfl
theorem mC_X9_lose : (Jvm.Cond.code ({ cls := "PigLine", name := "lose", desc := "(I)I" } : Jvm.MethodName) prog_1_method_3_code (4 : Nat) (Option.some Jvm.ClassFile.FieldType.int)) ∈ LG := mg2 96 rfl rfl
theorem lkM_X9_82 : (Jvm.Cond.methodLink "PigLine" (82 : Nat) ({ cls := "PigLine$Reel", name := "isLost", desc := "()Z" } : Jvm.MethodName)) ∈ LG := mg2 97 rfl rfl
theorem mI_X5_isLost : (Jvm.Cond.instanceMethod ({ cls := "PigLine$Reel", name := "isLost", desc := "()Z" } : Jvm.MethodName)) ∈ LG := mg2 98 rfl rfl
theorem mE_X5_isLost : (Jvm.Cond.selects "PigLine$Reel" ({ cls := "PigLine$Reel", name := "isLost", desc := "()Z" } : Jvm.MethodName) ({ cls := "PigLine$Reel", name := "isLost", desc := "()Z" } : Jvm.MethodName)) ∈ LG := mg2 99 rfl rfl
theorem mC_X5_isLost : (Jvm.Cond.code ({ cls := "PigLine$Reel", name := "isLost", desc := "()Z" } : Jvm.MethodName) prog_7_method_2_code (1 : Nat) (Option.some Jvm.ClassFile.FieldType.boolean)) ∈ LG := mg2 100 rfl rfl
theorem lkM_X9_89 : (Jvm.Cond.methodLink "PigLine" (89 : Nat) ({ cls := "PigLine$Reel", name := "drop", desc := "()V" } : Jvm.MethodName)) ∈ LG := mg2 101 rfl rfl
theorem mI_X5_drop : (Jvm.Cond.instanceMethod ({ cls := "PigLine$Reel", name := "drop", desc := "()V" } : Jvm.MethodName)) ∈ LG := mg2 102 rfl rfl
theorem mE_X5_drop : (Jvm.Cond.selects "PigLine$Reel" ({ cls := "PigLine$Reel", name := "drop", desc := "()V" } : Jvm.MethodName) ({ cls := "PigLine$Reel", name := "drop", desc := "()V" } : Jvm.MethodName)) ∈ LG := mg2 103 rfl rfl
theorem mC_X5_drop : (Jvm.Cond.code ({ cls := "PigLine$Reel", name := "drop", desc := "()V" } : Jvm.MethodName) prog_7_method_4_code (1 : Nat) (Option.none : Option Jvm.ClassFile.FieldType)) ∈ LG := mg2 104 rfl rfl
theorem lkM_L_23 : (Jvm.Cond.methodLink "PigLineLaw" (23 : Nat) ({ cls := "PigLine", name := "put", desc := "(IIII)I" } : Jvm.MethodName)) ∈ LG := mg2 105 rfl rfl
theorem mI_X9_put : (Jvm.Cond.instanceMethod ({ cls := "PigLine", name := "put", desc := "(IIII)I" } : Jvm.MethodName)) ∈ LG := mg2 106 rfl rfl
theorem mE_X9_put : (Jvm.Cond.selects "PigLine" ({ cls := "PigLine", name := "put", desc := "(IIII)I" } : Jvm.MethodName) ({ cls := "PigLine", name := "put", desc := "(IIII)I" } : Jvm.MethodName)) ∈ LG := mg2 107 rfl rfl
theorem mC_X9_put : (Jvm.Cond.code ({ cls := "PigLine", name := "put", desc := "(IIII)I" } : Jvm.MethodName) prog_1_method_4_code (7 : Nat) (Option.some Jvm.ClassFile.FieldType.int)) ∈ LG := mg2 108 rfl rfl
theorem lkM_X9_92 : (Jvm.Cond.methodLink "PigLine" (92 : Nat) ({ cls := "PigLine$Reel", name := "faultOf", desc := "(II)I" } : Jvm.MethodName)) ∈ LG := mg2 109 rfl rfl
theorem mI_X5_faultOf : (Jvm.Cond.instanceMethod ({ cls := "PigLine$Reel", name := "faultOf", desc := "(II)I" } : Jvm.MethodName)) ∈ LG := mg2 110 rfl rfl
theorem mE_X5_faultOf : (Jvm.Cond.selects "PigLine$Reel" ({ cls := "PigLine$Reel", name := "faultOf", desc := "(II)I" } : Jvm.MethodName) ({ cls := "PigLine$Reel", name := "faultOf", desc := "(II)I" } : Jvm.MethodName)) ∈ LG := mg2 111 rfl rfl
theorem mC_X5_faultOf : (Jvm.Cond.code ({ cls := "PigLine$Reel", name := "faultOf", desc := "(II)I" } : Jvm.MethodName) prog_7_method_7_code (3 : Nat) (Option.some Jvm.ClassFile.FieldType.int)) ∈ LG := mg2 112 rfl rfl
theorem lkM_X5_28 : (Jvm.Cond.methodLink "PigLine$Reel" (28 : Nat) ({ cls := "PigLine$Reel", name := "isLost", desc := "()Z" } : Jvm.MethodName)) ∈ LG := mg2 113 rfl rfl
theorem lkM_X5_32 : (Jvm.Cond.methodLink "PigLine$Reel" (32 : Nat) ({ cls := "PigLine$Reel", name := "hasItem", desc := "(I)Z" } : Jvm.MethodName)) ∈ LG := mg2 114 rfl rfl
theorem mI_X5_hasItem : (Jvm.Cond.instanceMethod ({ cls := "PigLine$Reel", name := "hasItem", desc := "(I)Z" } : Jvm.MethodName)) ∈ LG := mg2 115 rfl rfl
theorem mE_X5_hasItem : (Jvm.Cond.selects "PigLine$Reel" ({ cls := "PigLine$Reel", name := "hasItem", desc := "(I)Z" } : Jvm.MethodName) ({ cls := "PigLine$Reel", name := "hasItem", desc := "(I)Z" } : Jvm.MethodName)) ∈ LG := mg2 116 rfl rfl
theorem mC_X5_hasItem : (Jvm.Cond.code ({ cls := "PigLine$Reel", name := "hasItem", desc := "(I)Z" } : Jvm.MethodName) prog_7_method_5_code (2 : Nat) (Option.some Jvm.ClassFile.FieldType.boolean)) ∈ LG := mg2 117 rfl rfl
theorem lkM_X9_96 : (Jvm.Cond.methodLink "PigLine" (96 : Nat) ({ cls := "PigLine$Reel", name := "store", desc := "(II)V" } : Jvm.MethodName)) ∈ LG := mg2 118 rfl rfl
theorem mI_X5_store : (Jvm.Cond.instanceMethod ({ cls := "PigLine$Reel", name := "store", desc := "(II)V" } : Jvm.MethodName)) ∈ LG := mg2 119 rfl rfl
theorem mE_X5_store : (Jvm.Cond.selects "PigLine$Reel" ({ cls := "PigLine$Reel", name := "store", desc := "(II)V" } : Jvm.MethodName) ({ cls := "PigLine$Reel", name := "store", desc := "(II)V" } : Jvm.MethodName)) ∈ LG := mg2 120 rfl rfl
theorem mC_X5_store : (Jvm.Cond.code ({ cls := "PigLine$Reel", name := "store", desc := "(II)V" } : Jvm.MethodName) prog_7_method_8_code (3 : Nat) (Option.none : Option Jvm.ClassFile.FieldType)) ∈ LG := mg2 121 rfl rfl
theorem lkM_L_28 : (Jvm.Cond.methodLink "PigLineLaw" (28 : Nat) ({ cls := "PigLine", name := "get", desc := "(III)I" } : Jvm.MethodName)) ∈ LG := mg2 122 rfl rfl
theorem mI_X9_get : (Jvm.Cond.instanceMethod ({ cls := "PigLine", name := "get", desc := "(III)I" } : Jvm.MethodName)) ∈ LG := mg2 123 rfl rfl
theorem mE_X9_get : (Jvm.Cond.selects "PigLine" ({ cls := "PigLine", name := "get", desc := "(III)I" } : Jvm.MethodName) ({ cls := "PigLine", name := "get", desc := "(III)I" } : Jvm.MethodName)) ∈ LG := mg2 124 rfl rfl
theorem mC_X9_get : (Jvm.Cond.code ({ cls := "PigLine", name := "get", desc := "(III)I" } : Jvm.MethodName) prog_1_method_5_code (6 : Nat) (Option.some Jvm.ClassFile.FieldType.int)) ∈ LG := mg2 125 rfl rfl
theorem lkC_X9_99 : (Jvm.Cond.constant "PigLine" (99 : Nat) (-2147483648 : Int32)) ∈ LG := mg2 126 rfl rfl
theorem lkM_L_32 : (Jvm.Cond.methodLink "PigLineLaw" (32 : Nat) ({ cls := "PigLine", name := "copy", desc := "(IIIII)I" } : Jvm.MethodName)) ∈ LG := mg2 127 rfl rfl
theorem mI_X9_copy : (Jvm.Cond.instanceMethod ({ cls := "PigLine", name := "copy", desc := "(IIIII)I" } : Jvm.MethodName)) ∈ LG := mg2 128 rfl rfl
theorem mE_X9_copy : (Jvm.Cond.selects "PigLine" ({ cls := "PigLine", name := "copy", desc := "(IIIII)I" } : Jvm.MethodName) ({ cls := "PigLine", name := "copy", desc := "(IIIII)I" } : Jvm.MethodName)) ∈ LG := mg2 129 rfl rfl
theorem mC_X9_copy : (Jvm.Cond.code ({ cls := "PigLine", name := "copy", desc := "(IIIII)I" } : Jvm.MethodName) prog_1_method_6_code (8 : Nat) (Option.some Jvm.ClassFile.FieldType.int)) ∈ LG := mg2 130 rfl rfl
theorem lkM_X9_107 : (Jvm.Cond.methodLink "PigLine" (107 : Nat) ({ cls := "PigLine$Reel", name := "hasItems", desc := "(II)Z" } : Jvm.MethodName)) ∈ LG := mg2 131 rfl rfl
theorem mI_X5_hasItems : (Jvm.Cond.instanceMethod ({ cls := "PigLine$Reel", name := "hasItems", desc := "(II)Z" } : Jvm.MethodName)) ∈ LG := mg2 132 rfl rfl
theorem mE_X5_hasItems : (Jvm.Cond.selects "PigLine$Reel" ({ cls := "PigLine$Reel", name := "hasItems", desc := "(II)Z" } : Jvm.MethodName) ({ cls := "PigLine$Reel", name := "hasItems", desc := "(II)Z" } : Jvm.MethodName)) ∈ LG := mg2 133 rfl rfl
theorem mC_X5_hasItems : (Jvm.Cond.code ({ cls := "PigLine$Reel", name := "hasItems", desc := "(II)Z" } : Jvm.MethodName) prog_7_method_6_code (3 : Nat) (Option.some Jvm.ClassFile.FieldType.boolean)) ∈ LG := mg2 134 rfl rfl
theorem lkM_X9_111 : (Jvm.Cond.methodLink "PigLine" (111 : Nat) ({ cls := "java/lang/System", name := "arraycopy", desc := "(Ljava/lang/Object;ILjava/lang/Object;II)V" } : Jvm.MethodName)) ∈ LG := mg2 135 rfl rfl
theorem mS_N_arraycopy : (Jvm.Cond.static ({ cls := "java/lang/System", name := "arraycopy", desc := "(Ljava/lang/Object;ILjava/lang/Object;II)V" } : Jvm.MethodName)) ∈ LG := mg2 136 rfl rfl
theorem mN_N_arraycopy : (Jvm.Cond.native ({ cls := "java/lang/System", name := "arraycopy", desc := "(Ljava/lang/Object;ILjava/lang/Object;II)V" } : Jvm.MethodName)) ∈ LG := mg2 137 rfl rfl
theorem lkM_L_37 : (Jvm.Cond.methodLink "PigLineLaw" (37 : Nat) ({ cls := "PigLine", name := "run", desc := "(II)I" } : Jvm.MethodName)) ∈ LG := mg2 138 rfl rfl
theorem mI_X9_run : (Jvm.Cond.instanceMethod ({ cls := "PigLine", name := "run", desc := "(II)I" } : Jvm.MethodName)) ∈ LG := mg2 139 rfl rfl
theorem mE_X9_run : (Jvm.Cond.selects "PigLine" ({ cls := "PigLine", name := "run", desc := "(II)I" } : Jvm.MethodName) ({ cls := "PigLine", name := "run", desc := "(II)I" } : Jvm.MethodName)) ∈ LG := mg2 140 rfl rfl
theorem mC_X9_run : (Jvm.Cond.code ({ cls := "PigLine", name := "run", desc := "(II)I" } : Jvm.MethodName) prog_1_method_7_code (4 : Nat) (Option.some Jvm.ClassFile.FieldType.int)) ∈ LG := mg2 141 rfl rfl
theorem lkM_X9_125 : (Jvm.Cond.methodLink "PigLine" (125 : Nat) ({ cls := "PigLine$Run", name := "feel", desc := "()V" } : Jvm.MethodName)) ∈ LG := mg2 142 rfl rfl
theorem mI_X6_feel : (Jvm.Cond.instanceMethod ({ cls := "PigLine$Run", name := "feel", desc := "()V" } : Jvm.MethodName)) ∈ LG := mg2 143 rfl rfl
theorem mE_X6_feel : (Jvm.Cond.selects "PigLine$Run" ({ cls := "PigLine$Run", name := "feel", desc := "()V" } : Jvm.MethodName) ({ cls := "PigLine$Run", name := "feel", desc := "()V" } : Jvm.MethodName)) ∈ LG := mg2 144 rfl rfl
theorem mC_X6_feel : (Jvm.Cond.code ({ cls := "PigLine$Run", name := "feel", desc := "()V" } : Jvm.MethodName) prog_8_method_3_code (6 : Nat) (Option.none : Option Jvm.ClassFile.FieldType)) ∈ LG := mg2 145 rfl rfl
theorem lkM_X6_51 : (Jvm.Cond.methodLink "PigLine$Run" (51 : Nat) ({ cls := "java/lang/Math", name := "max", desc := "(II)I" } : Jvm.MethodName)) ∈ LG := mg2 146 rfl rfl
theorem mS_J9_max_7cf53 : (Jvm.Cond.static ({ cls := "java/lang/Math", name := "max", desc := "(II)I" } : Jvm.MethodName)) ∈ LG := mg2 147 rfl rfl
theorem mC_J9_max_7cf53 : (Jvm.Cond.code ({ cls := "java/lang/Math", name := "max", desc := "(II)I" } : Jvm.MethodName) prog_14_method_65_code (2 : Nat) (Option.some Jvm.ClassFile.FieldType.int)) ∈ LG := mg2 148 rfl rfl
theorem lkM_X6_66 : (Jvm.Cond.methodLink "PigLine$Run" (66 : Nat) ({ cls := "PigLine$Run", name := "readingsTogether", desc := "(I)I" } : Jvm.MethodName)) ∈ LG := mg2 149 rfl rfl
theorem mI_X6_readingsTogether : (Jvm.Cond.instanceMethod ({ cls := "PigLine$Run", name := "readingsTogether", desc := "(I)I" } : Jvm.MethodName)) ∈ LG := mg2 151 rfl rfl
theorem mC_X6_readingsTogether : (Jvm.Cond.code ({ cls := "PigLine$Run", name := "readingsTogether", desc := "(I)I" } : Jvm.MethodName) prog_8_method_4_code (7 : Nat) (Option.some Jvm.ClassFile.FieldType.int)) ∈ LG := mg2 152 rfl rfl
theorem lkM_X6_74 : (Jvm.Cond.methodLink "PigLine$Run" (74 : Nat) ({ cls := "PigLine$Reel", name := "readingAt", desc := "(I)I" } : Jvm.MethodName)) ∈ LG := mg2 153 rfl rfl
theorem mI_X5_readingAt : (Jvm.Cond.instanceMethod ({ cls := "PigLine$Reel", name := "readingAt", desc := "(I)I" } : Jvm.MethodName)) ∈ LG := mg2 154 rfl rfl
theorem mE_X5_readingAt : (Jvm.Cond.selects "PigLine$Reel" ({ cls := "PigLine$Reel", name := "readingAt", desc := "(I)I" } : Jvm.MethodName) ({ cls := "PigLine$Reel", name := "readingAt", desc := "(I)I" } : Jvm.MethodName)) ∈ LG := mg2 155 rfl rfl
theorem mC_X5_readingAt : (Jvm.Cond.code ({ cls := "PigLine$Reel", name := "readingAt", desc := "(I)I" } : Jvm.MethodName) prog_7_method_9_code (2 : Nat) (Option.some Jvm.ClassFile.FieldType.int)) ∈ LG := mg2 156 rfl rfl
theorem lkM_X6_77 : (Jvm.Cond.methodLink "PigLine$Run" (77 : Nat) ({ cls := "java/lang/Math", name := "min", desc := "(II)I" } : Jvm.MethodName)) ∈ LG := mg2 158 rfl rfl
theorem lkM_X6_70 : (Jvm.Cond.methodLink "PigLine$Run" (70 : Nat) ({ cls := "PigLine$Reel", name := "hasWeldAt", desc := "(I)Z" } : Jvm.MethodName)) ∈ LG := mg2 159 rfl rfl
theorem mI_X5_hasWeldAt : (Jvm.Cond.instanceMethod ({ cls := "PigLine$Reel", name := "hasWeldAt", desc := "(I)Z" } : Jvm.MethodName)) ∈ LG := mg2 160 rfl rfl
theorem mE_X5_hasWeldAt : (Jvm.Cond.selects "PigLine$Reel" ({ cls := "PigLine$Reel", name := "hasWeldAt", desc := "(I)Z" } : Jvm.MethodName) ({ cls := "PigLine$Reel", name := "hasWeldAt", desc := "(I)Z" } : Jvm.MethodName)) ∈ LG := mg2 161 rfl rfl
theorem mC_X5_hasWeldAt : (Jvm.Cond.code ({ cls := "PigLine$Reel", name := "hasWeldAt", desc := "(I)Z" } : Jvm.MethodName) prog_7_method_10_code (2 : Nat) (Option.some Jvm.ClassFile.FieldType.boolean)) ∈ LG := mg2 162 rfl rfl
theorem lkM_X9_128 : (Jvm.Cond.methodLink "PigLine" (128 : Nat) ({ cls := "PigLine$Run", name := "fact", desc := "(I)I" } : Jvm.MethodName)) ∈ LG := mg2 163 rfl rfl
theorem mI_X6_fact : (Jvm.Cond.instanceMethod ({ cls := "PigLine$Run", name := "fact", desc := "(I)I" } : Jvm.MethodName)) ∈ LG := mg2 164 rfl rfl
theorem mE_X6_fact : (Jvm.Cond.selects "PigLine$Run" ({ cls := "PigLine$Run", name := "fact", desc := "(I)I" } : Jvm.MethodName) ({ cls := "PigLine$Run", name := "fact", desc := "(I)I" } : Jvm.MethodName)) ∈ LG := mg2 165 rfl rfl
theorem mC_X6_fact : (Jvm.Cond.code ({ cls := "PigLine$Run", name := "fact", desc := "(I)I" } : Jvm.MethodName) prog_8_method_5_code (2 : Nat) (Option.some Jvm.ClassFile.FieldType.int)) ∈ LG := mg2 166 rfl rfl
theorem lkM_L_42 : (Jvm.Cond.methodLink "PigLineLaw" (42 : Nat) ({ cls := "PigLine", name := "way", desc := "(II)I" } : Jvm.MethodName)) ∈ LG := mg2 167 rfl rfl
theorem mI_X9_way : (Jvm.Cond.instanceMethod ({ cls := "PigLine", name := "way", desc := "(II)I" } : Jvm.MethodName)) ∈ LG := mg2 168 rfl rfl
theorem mE_X9_way : (Jvm.Cond.selects "PigLine" ({ cls := "PigLine", name := "way", desc := "(II)I" } : Jvm.MethodName) ({ cls := "PigLine", name := "way", desc := "(II)I" } : Jvm.MethodName)) ∈ LG := mg2 169 rfl rfl
theorem mC_X9_way : (Jvm.Cond.code ({ cls := "PigLine", name := "way", desc := "(II)I" } : Jvm.MethodName) prog_1_method_8_code (4 : Nat) (Option.some Jvm.ClassFile.FieldType.int)) ∈ LG := mg2 170 rfl rfl
theorem lkM_L_46 : (Jvm.Cond.methodLink "PigLineLaw" (46 : Nat) ({ cls := "PigLine", name := "felt", desc := "(III)I" } : Jvm.MethodName)) ∈ LG := mg2 171 rfl rfl
theorem mI_X9_felt : (Jvm.Cond.instanceMethod ({ cls := "PigLine", name := "felt", desc := "(III)I" } : Jvm.MethodName)) ∈ LG := mg2 172 rfl rfl
theorem mE_X9_felt : (Jvm.Cond.selects "PigLine" ({ cls := "PigLine", name := "felt", desc := "(III)I" } : Jvm.MethodName) ({ cls := "PigLine", name := "felt", desc := "(III)I" } : Jvm.MethodName)) ∈ LG := mg2 173 rfl rfl
theorem mC_X9_felt : (Jvm.Cond.code ({ cls := "PigLine", name := "felt", desc := "(III)I" } : Jvm.MethodName) prog_1_method_9_code (5 : Nat) (Option.some Jvm.ClassFile.FieldType.int)) ∈ LG := mg2 174 rfl rfl
theorem lkM_L_50 : (Jvm.Cond.methodLink "PigLineLaw" (50 : Nat) ({ cls := "PigLine", name := "joint", desc := "(I)I" } : Jvm.MethodName)) ∈ LG := mg2 175 rfl rfl
theorem mI_X9_joint : (Jvm.Cond.instanceMethod ({ cls := "PigLine", name := "joint", desc := "(I)I" } : Jvm.MethodName)) ∈ LG := mg2 176 rfl rfl
theorem mE_X9_joint : (Jvm.Cond.selects "PigLine" ({ cls := "PigLine", name := "joint", desc := "(I)I" } : Jvm.MethodName) ({ cls := "PigLine", name := "joint", desc := "(I)I" } : Jvm.MethodName)) ∈ LG := mg2 177 rfl rfl
theorem mC_X9_joint : (Jvm.Cond.code ({ cls := "PigLine", name := "joint", desc := "(I)I" } : Jvm.MethodName) prog_1_method_10_code (2 : Nat) (Option.some Jvm.ClassFile.FieldType.int)) ∈ LG := mg2 178 rfl rfl
theorem lkC_X9_146 : (Jvm.Cond.constant "PigLine" (146 : Nat) (100000 : Int32)) ∈ LG := mg2 179 rfl rfl
theorem lkM_X9_147 : (Jvm.Cond.methodLink "PigLine" (147 : Nat) ({ cls := "PigLine$Book", name := "add", desc := "(I)I" } : Jvm.MethodName)) ∈ LG := mg2 180 rfl rfl
theorem mI_X0_add : (Jvm.Cond.instanceMethod ({ cls := "PigLine$Book", name := "add", desc := "(I)I" } : Jvm.MethodName)) ∈ LG := mg2 181 rfl rfl
theorem mE_X0_add : (Jvm.Cond.selects "PigLine$Book" ({ cls := "PigLine$Book", name := "add", desc := "(I)I" } : Jvm.MethodName) ({ cls := "PigLine$Book", name := "add", desc := "(I)I" } : Jvm.MethodName)) ∈ LG := mg2 182 rfl rfl
theorem mC_X0_add : (Jvm.Cond.code ({ cls := "PigLine$Book", name := "add", desc := "(I)I" } : Jvm.MethodName) prog_2_method_3_code (2 : Nat) (Option.some Jvm.ClassFile.FieldType.int)) ∈ LG := mg2 183 rfl rfl
theorem lkM_L_54 : (Jvm.Cond.methodLink "PigLineLaw" (54 : Nat) ({ cls := "PigLine", name := "wipe", desc := "()I" } : Jvm.MethodName)) ∈ LG := mg2 184 rfl rfl
theorem mI_X9_wipe : (Jvm.Cond.instanceMethod ({ cls := "PigLine", name := "wipe", desc := "()I" } : Jvm.MethodName)) ∈ LG := mg2 185 rfl rfl
theorem mE_X9_wipe : (Jvm.Cond.selects "PigLine" ({ cls := "PigLine", name := "wipe", desc := "()I" } : Jvm.MethodName) ({ cls := "PigLine", name := "wipe", desc := "()I" } : Jvm.MethodName)) ∈ LG := mg2 186 rfl rfl
theorem mC_X9_wipe : (Jvm.Cond.code ({ cls := "PigLine", name := "wipe", desc := "()I" } : Jvm.MethodName) prog_1_method_11_code (2 : Nat) (Option.some Jvm.ClassFile.FieldType.int)) ∈ LG := mg2 187 rfl rfl
theorem lkM_L_59 : (Jvm.Cond.methodLink "PigLineLaw" (59 : Nat) ({ cls := "PigLine", name := "costs", desc := "(II)I" } : Jvm.MethodName)) ∈ LG := mg2 188 rfl rfl
theorem mI_X9_costs : (Jvm.Cond.instanceMethod ({ cls := "PigLine", name := "costs", desc := "(II)I" } : Jvm.MethodName)) ∈ LG := mg2 189 rfl rfl
theorem mE_X9_costs : (Jvm.Cond.selects "PigLine" ({ cls := "PigLine", name := "costs", desc := "(II)I" } : Jvm.MethodName) ({ cls := "PigLine", name := "costs", desc := "(II)I" } : Jvm.MethodName)) ∈ LG := mg2 190 rfl rfl
theorem mC_X9_costs : (Jvm.Cond.code ({ cls := "PigLine", name := "costs", desc := "(II)I" } : Jvm.MethodName) prog_1_method_12_code (3 : Nat) (Option.some Jvm.ClassFile.FieldType.int)) ∈ LG := mg2 191 rfl rfl
theorem lkC_X9_151 : (Jvm.Cond.constant "PigLine" (151 : Nat) (1000000 : Int32)) ∈ LG := mg2 192 rfl rfl
theorem lkM_L_63 : (Jvm.Cond.methodLink "PigLineLaw" (63 : Nat) ({ cls := "PigLine", name := "match", desc := "(I)I" } : Jvm.MethodName)) ∈ LG := mg2 193 rfl rfl
theorem mI_X9_match : (Jvm.Cond.instanceMethod ({ cls := "PigLine", name := "match", desc := "(I)I" } : Jvm.MethodName)) ∈ LG := mg2 194 rfl rfl
theorem mE_X9_match : (Jvm.Cond.selects "PigLine" ({ cls := "PigLine", name := "match", desc := "(I)I" } : Jvm.MethodName) ({ cls := "PigLine", name := "match", desc := "(I)I" } : Jvm.MethodName)) ∈ LG := mg2 195 rfl rfl
theorem mC_X9_match : (Jvm.Cond.code ({ cls := "PigLine", name := "match", desc := "(I)I" } : Jvm.MethodName) prog_1_method_13_code (3 : Nat) (Option.some Jvm.ClassFile.FieldType.int)) ∈ LG := mg2 196 rfl rfl
theorem lkM_X9_158 : (Jvm.Cond.methodLink "PigLine" (158 : Nat) ({ cls := "PigLine$Book", name := "leastCost", desc := "(LPigLine$Run;)I" } : Jvm.MethodName)) ∈ LG := mg2 197 rfl rfl
theorem mI_X0_leastCost : (Jvm.Cond.instanceMethod ({ cls := "PigLine$Book", name := "leastCost", desc := "(LPigLine$Run;)I" } : Jvm.MethodName)) ∈ LG := mg2 198 rfl rfl
theorem mE_X0_leastCost : (Jvm.Cond.selects "PigLine$Book" ({ cls := "PigLine$Book", name := "leastCost", desc := "(LPigLine$Run;)I" } : Jvm.MethodName) ({ cls := "PigLine$Book", name := "leastCost", desc := "(LPigLine$Run;)I" } : Jvm.MethodName)) ∈ LG := mg2 199 rfl rfl
theorem mC_X0_leastCost : (Jvm.Cond.code ({ cls := "PigLine$Book", name := "leastCost", desc := "(LPigLine$Run;)I" } : Jvm.MethodName) prog_2_method_4_code (6 : Nat) (Option.some Jvm.ClassFile.FieldType.int)) ∈ LG := mg2 200 rfl rfl
theorem lkM_X0_33 : (Jvm.Cond.methodLink "PigLine$Book" (33 : Nat) ({ cls := "java/lang/Math", name := "min", desc := "(II)I" } : Jvm.MethodName)) ∈ LG := mg2 201 rfl rfl
theorem lkM_X0_39 : (Jvm.Cond.methodLink "PigLine$Book" (39 : Nat) ({ cls := "PigLine$Book", name := "withPair", desc := "(LPigLine$Run;II)I" } : Jvm.MethodName)) ∈ LG := mg2 202 rfl rfl
theorem mI_X0_withPair : (Jvm.Cond.instanceMethod ({ cls := "PigLine$Book", name := "withPair", desc := "(LPigLine$Run;II)I" } : Jvm.MethodName)) ∈ LG := mg2 204 rfl rfl
theorem mC_X0_withPair : (Jvm.Cond.code ({ cls := "PigLine$Book", name := "withPair", desc := "(LPigLine$Run;II)I" } : Jvm.MethodName) prog_2_method_5_code (4 : Nat) (Option.some Jvm.ClassFile.FieldType.int)) ∈ LG := mg2 205 rfl rfl
theorem lkM_X0_44 : (Jvm.Cond.methodLink "PigLine$Book" (44 : Nat) ({ cls := "java/lang/Math", name := "abs", desc := "(I)I" } : Jvm.MethodName)) ∈ LG := mg2 206 rfl rfl
theorem mS_J9_abs_0f7a4 : (Jvm.Cond.static ({ cls := "java/lang/Math", name := "abs", desc := "(I)I" } : Jvm.MethodName)) ∈ LG := mg2 207 rfl rfl
theorem mC_J9_abs_0f7a4 : (Jvm.Cond.code ({ cls := "java/lang/Math", name := "abs", desc := "(I)I" } : Jvm.MethodName) prog_14_method_59_code (1 : Nat) (Option.some Jvm.ClassFile.FieldType.int)) ∈ LG := mg2 208 rfl rfl
theorem lkM_L_67 : (Jvm.Cond.methodLink "PigLineLaw" (67 : Nat) ({ cls := "PigLine", name := "paired", desc := "(II)I" } : Jvm.MethodName)) ∈ LG := mg2 209 rfl rfl
theorem mI_X9_paired : (Jvm.Cond.instanceMethod ({ cls := "PigLine", name := "paired", desc := "(II)I" } : Jvm.MethodName)) ∈ LG := mg2 210 rfl rfl
theorem mE_X9_paired : (Jvm.Cond.selects "PigLine" ({ cls := "PigLine", name := "paired", desc := "(II)I" } : Jvm.MethodName) ({ cls := "PigLine", name := "paired", desc := "(II)I" } : Jvm.MethodName)) ∈ LG := mg2 211 rfl rfl
theorem mC_X9_paired : (Jvm.Cond.code ({ cls := "PigLine", name := "paired", desc := "(II)I" } : Jvm.MethodName) prog_1_method_14_code (4 : Nat) (Option.some Jvm.ClassFile.FieldType.int)) ∈ LG := mg2 212 rfl rfl
theorem lkM_X9_162 : (Jvm.Cond.methodLink "PigLine" (162 : Nat) ({ cls := "PigLine$Book", name := "hasJoint", desc := "(I)Z" } : Jvm.MethodName)) ∈ LG := mg2 213 rfl rfl
theorem mI_X0_hasJoint : (Jvm.Cond.instanceMethod ({ cls := "PigLine$Book", name := "hasJoint", desc := "(I)Z" } : Jvm.MethodName)) ∈ LG := mg2 214 rfl rfl
theorem mE_X0_hasJoint : (Jvm.Cond.selects "PigLine$Book" ({ cls := "PigLine$Book", name := "hasJoint", desc := "(I)Z" } : Jvm.MethodName) ({ cls := "PigLine$Book", name := "hasJoint", desc := "(I)Z" } : Jvm.MethodName)) ∈ LG := mg2 215 rfl rfl
theorem mC_X0_hasJoint : (Jvm.Cond.code ({ cls := "PigLine$Book", name := "hasJoint", desc := "(I)Z" } : Jvm.MethodName) prog_2_method_2_code (2 : Nat) (Option.some Jvm.ClassFile.FieldType.boolean)) ∈ LG := mg2 216 rfl rfl
theorem lkM_X9_165 : (Jvm.Cond.methodLink "PigLine" (165 : Nat) ({ cls := "PigLine$Book", name := "pairUp", desc := "(LPigLine$Run;)V" } : Jvm.MethodName)) ∈ LG := mg2 217 rfl rfl
theorem mI_X0_pairUp : (Jvm.Cond.instanceMethod ({ cls := "PigLine$Book", name := "pairUp", desc := "(LPigLine$Run;)V" } : Jvm.MethodName)) ∈ LG := mg2 218 rfl rfl
theorem mE_X0_pairUp : (Jvm.Cond.selects "PigLine$Book" ({ cls := "PigLine$Book", name := "pairUp", desc := "(LPigLine$Run;)V" } : Jvm.MethodName) ({ cls := "PigLine$Book", name := "pairUp", desc := "(LPigLine$Run;)V" } : Jvm.MethodName)) ∈ LG := mg2 219 rfl rfl
theorem mC_X0_pairUp : (Jvm.Cond.code ({ cls := "PigLine$Book", name := "pairUp", desc := "(LPigLine$Run;)V" } : Jvm.MethodName) prog_2_method_6_code (4 : Nat) (Option.none : Option Jvm.ClassFile.FieldType)) ∈ LG := mg2 220 rfl rfl
theorem lkM_X0_48 : (Jvm.Cond.methodLink "PigLine$Book" (48 : Nat) ({ cls := "PigLine$Book", name := "leastCost", desc := "(LPigLine$Run;)I" } : Jvm.MethodName)) ∈ LG := mg2 221 rfl rfl
theorem lkM_X0_52 : (Jvm.Cond.methodLink "PigLine$Book" (52 : Nat) ({ cls := "PigLine$Book", name := "lastFeltNotLeftOut", desc := "(LPigLine$Run;II)I" } : Jvm.MethodName)) ∈ LG := mg2 222 rfl rfl
theorem mI_X0_lastFeltNotLeftOut : (Jvm.Cond.instanceMethod ({ cls := "PigLine$Book", name := "lastFeltNotLeftOut", desc := "(LPigLine$Run;II)I" } : Jvm.MethodName)) ∈ LG := mg2 224 rfl rfl
theorem mC_X0_lastFeltNotLeftOut : (Jvm.Cond.code ({ cls := "PigLine$Book", name := "lastFeltNotLeftOut", desc := "(LPigLine$Run;II)I" } : Jvm.MethodName) prog_2_method_7_code (6 : Nat) (Option.some Jvm.ClassFile.FieldType.int)) ∈ LG := mg2 225 rfl rfl
theorem lkM_L_71 : (Jvm.Cond.methodLink "PigLineLaw" (71 : Nat) ({ cls := "PigLine", name := "mark", desc := "(IIIII)I" } : Jvm.MethodName)) ∈ LG := mg2 226 rfl rfl
theorem mI_X9_mark : (Jvm.Cond.instanceMethod ({ cls := "PigLine", name := "mark", desc := "(IIIII)I" } : Jvm.MethodName)) ∈ LG := mg2 227 rfl rfl
theorem mE_X9_mark : (Jvm.Cond.selects "PigLine" ({ cls := "PigLine", name := "mark", desc := "(IIIII)I" } : Jvm.MethodName) ({ cls := "PigLine", name := "mark", desc := "(IIIII)I" } : Jvm.MethodName)) ∈ LG := mg2 228 rfl rfl
theorem mC_X9_mark : (Jvm.Cond.code ({ cls := "PigLine", name := "mark", desc := "(IIIII)I" } : Jvm.MethodName) prog_1_method_15_code (7 : Nat) (Option.some Jvm.ClassFile.FieldType.int)) ∈ LG := mg2 229 rfl rfl
theorem lkC_X9_172 : (Jvm.Cond.constant "PigLine" (172 : Nat) (4000000 : Int32)) ∈ LG := mg2 230 rfl rfl
theorem lkM_X9_177 : (Jvm.Cond.methodLink "PigLine" (177 : Nat) ({ cls := "PigLine$Marks", name := "add", desc := "(IIII)I" } : Jvm.MethodName)) ∈ LG := mg2 231 rfl rfl
theorem mI_X3_add : (Jvm.Cond.instanceMethod ({ cls := "PigLine$Marks", name := "add", desc := "(IIII)I" } : Jvm.MethodName)) ∈ LG := mg2 232 rfl rfl
theorem mE_X3_add : (Jvm.Cond.selects "PigLine$Marks" ({ cls := "PigLine$Marks", name := "add", desc := "(IIII)I" } : Jvm.MethodName) ({ cls := "PigLine$Marks", name := "add", desc := "(IIII)I" } : Jvm.MethodName)) ∈ LG := mg2 233 rfl rfl
theorem mC_X3_add : (Jvm.Cond.code ({ cls := "PigLine$Marks", name := "add", desc := "(IIII)I" } : Jvm.MethodName) prog_5_method_3_code (5 : Nat) (Option.some Jvm.ClassFile.FieldType.int)) ∈ LG := mg2 234 rfl rfl
theorem lkM_L_75 : (Jvm.Cond.methodLink "PigLineLaw" (75 : Nat) ({ cls := "PigLine", name := "clear", desc := "(I)I" } : Jvm.MethodName)) ∈ LG := mg2 235 rfl rfl
theorem mI_X9_clear : (Jvm.Cond.instanceMethod ({ cls := "PigLine", name := "clear", desc := "(I)I" } : Jvm.MethodName)) ∈ LG := mg2 236 rfl rfl
theorem mE_X9_clear : (Jvm.Cond.selects "PigLine" ({ cls := "PigLine", name := "clear", desc := "(I)I" } : Jvm.MethodName) ({ cls := "PigLine", name := "clear", desc := "(I)I" } : Jvm.MethodName)) ∈ LG := mg2 237 rfl rfl
theorem mC_X9_clear : (Jvm.Cond.code ({ cls := "PigLine", name := "clear", desc := "(I)I" } : Jvm.MethodName) prog_1_method_16_code (4 : Nat) (Option.some Jvm.ClassFile.FieldType.int)) ∈ LG := mg2 238 rfl rfl
theorem lkM_L_79 : (Jvm.Cond.methodLink "PigLineLaw" (79 : Nat) ({ cls := "PigLine", name := "about", desc := "(III)I" } : Jvm.MethodName)) ∈ LG := mg2 239 rfl rfl
theorem mI_X9_about : (Jvm.Cond.instanceMethod ({ cls := "PigLine", name := "about", desc := "(III)I" } : Jvm.MethodName)) ∈ LG := mg3 0 rfl rfl
theorem mE_X9_about : (Jvm.Cond.selects "PigLine" ({ cls := "PigLine", name := "about", desc := "(III)I" } : Jvm.MethodName) ({ cls := "PigLine", name := "about", desc := "(III)I" } : Jvm.MethodName)) ∈ LG := mg3 1 rfl rfl
theorem mC_X9_about : (Jvm.Cond.code ({ cls := "PigLine", name := "about", desc := "(III)I" } : Jvm.MethodName) prog_1_method_17_code (5 : Nat) (Option.some Jvm.ClassFile.FieldType.int)) ∈ LG := mg3 2 rfl rfl
theorem lkM_X9_183 : (Jvm.Cond.methodLink "PigLine" (183 : Nat) ({ cls := "PigLine$Marks", name := "hasMark", desc := "(I)Z" } : Jvm.MethodName)) ∈ LG := mg3 3 rfl rfl
theorem mI_X3_hasMark : (Jvm.Cond.instanceMethod ({ cls := "PigLine$Marks", name := "hasMark", desc := "(I)Z" } : Jvm.MethodName)) ∈ LG := mg3 4 rfl rfl
theorem mE_X3_hasMark : (Jvm.Cond.selects "PigLine$Marks" ({ cls := "PigLine$Marks", name := "hasMark", desc := "(I)Z" } : Jvm.MethodName) ({ cls := "PigLine$Marks", name := "hasMark", desc := "(I)Z" } : Jvm.MethodName)) ∈ LG := mg3 5 rfl rfl
theorem mC_X3_hasMark : (Jvm.Cond.code ({ cls := "PigLine$Marks", name := "hasMark", desc := "(I)Z" } : Jvm.MethodName) prog_5_method_2_code (2 : Nat) (Option.some Jvm.ClassFile.FieldType.boolean)) ∈ LG := mg3 6 rfl rfl
theorem lkM_X9_186 : (Jvm.Cond.methodLink "PigLine" (186 : Nat) ({ cls := "PigLine$Marks", name := "putTogether", desc := "(II)V" } : Jvm.MethodName)) ∈ LG := mg3 7 rfl rfl
theorem mI_X3_putTogether : (Jvm.Cond.instanceMethod ({ cls := "PigLine$Marks", name := "putTogether", desc := "(II)V" } : Jvm.MethodName)) ∈ LG := mg3 8 rfl rfl
theorem mE_X3_putTogether : (Jvm.Cond.selects "PigLine$Marks" ({ cls := "PigLine$Marks", name := "putTogether", desc := "(II)V" } : Jvm.MethodName) ({ cls := "PigLine$Marks", name := "putTogether", desc := "(II)V" } : Jvm.MethodName)) ∈ LG := mg3 9 rfl rfl
theorem mC_X3_putTogether : (Jvm.Cond.code ({ cls := "PigLine$Marks", name := "putTogether", desc := "(II)V" } : Jvm.MethodName) prog_5_method_7_code (4 : Nat) (Option.none : Option Jvm.ClassFile.FieldType)) ∈ LG := mg3 10 rfl rfl
theorem lkM_X3_50 : (Jvm.Cond.methodLink "PigLine$Marks" (50 : Nat) ({ cls := "PigLine$Marks", name := "spread", desc := "(III)V" } : Jvm.MethodName)) ∈ LG := mg3 11 rfl rfl
theorem mI_X3_spread : (Jvm.Cond.instanceMethod ({ cls := "PigLine$Marks", name := "spread", desc := "(III)V" } : Jvm.MethodName)) ∈ LG := mg3 13 rfl rfl
theorem mC_X3_spread : (Jvm.Cond.code ({ cls := "PigLine$Marks", name := "spread", desc := "(III)V" } : Jvm.MethodName) prog_5_method_8_code (7 : Nat) (Option.none : Option Jvm.ClassFile.FieldType)) ∈ LG := mg3 14 rfl rfl
theorem lkM_X3_54 : (Jvm.Cond.methodLink "PigLine$Marks" (54 : Nat) ({ cls := "PigLine$Marks", name := "areNear", desc := "(IIII)Z" } : Jvm.MethodName)) ∈ LG := mg3 15 rfl rfl
theorem mI_X3_areNear : (Jvm.Cond.instanceMethod ({ cls := "PigLine$Marks", name := "areNear", desc := "(IIII)Z" } : Jvm.MethodName)) ∈ LG := mg3 17 rfl rfl
theorem mC_X3_areNear : (Jvm.Cond.code ({ cls := "PigLine$Marks", name := "areNear", desc := "(IIII)Z" } : Jvm.MethodName) prog_5_method_6_code (6 : Nat) (Option.some Jvm.ClassFile.FieldType.boolean)) ∈ LG := mg3 18 rfl rfl
theorem lkM_X3_34 : (Jvm.Cond.methodLink "PigLine$Marks" (34 : Nat) ({ cls := "PigLine$Marks", name := "endOf", desc := "(I)I" } : Jvm.MethodName)) ∈ LG := mg3 19 rfl rfl
theorem mI_X3_endOf : (Jvm.Cond.instanceMethod ({ cls := "PigLine$Marks", name := "endOf", desc := "(I)I" } : Jvm.MethodName)) ∈ LG := mg3 21 rfl rfl
theorem mC_X3_endOf : (Jvm.Cond.code ({ cls := "PigLine$Marks", name := "endOf", desc := "(I)I" } : Jvm.MethodName) prog_5_method_5_code (2 : Nat) (Option.some Jvm.ClassFile.FieldType.int)) ∈ LG := mg3 22 rfl rfl
theorem lkM_X3_38 : (Jvm.Cond.methodLink "PigLine$Marks" (38 : Nat) ({ cls := "java/lang/Math", name := "max", desc := "(II)I" } : Jvm.MethodName)) ∈ LG := mg3 23 rfl rfl
theorem mS_X9_hoursApart : (Jvm.Cond.static ({ cls := "PigLine", name := "hoursApart", desc := "(II)I" } : Jvm.MethodName)) ∈ LG := mg3 25 rfl rfl
theorem mC_X9_hoursApart : (Jvm.Cond.code ({ cls := "PigLine", name := "hoursApart", desc := "(II)I" } : Jvm.MethodName) prog_1_method_36_code (3 : Nat) (Option.some Jvm.ClassFile.FieldType.int)) ∈ LG := mg3 26 rfl rfl
theorem lkM_X9_275 : (Jvm.Cond.methodLink "PigLine" (275 : Nat) ({ cls := "java/lang/Math", name := "abs", desc := "(I)I" } : Jvm.MethodName)) ∈ LG := mg3 27 rfl rfl
theorem lkM_X9_280 : (Jvm.Cond.methodLink "PigLine" (280 : Nat) ({ cls := "java/lang/Math", name := "min", desc := "(II)I" } : Jvm.MethodName)) ∈ LG := mg3 28 rfl rfl
theorem lkM_X9_189 : (Jvm.Cond.methodLink "PigLine" (189 : Nat) ({ cls := "PigLine$Run", name := "markFact", desc := "(II)I" } : Jvm.MethodName)) ∈ LG := mg3 29 rfl rfl
theorem mI_X6_markFact : (Jvm.Cond.instanceMethod ({ cls := "PigLine$Run", name := "markFact", desc := "(II)I" } : Jvm.MethodName)) ∈ LG := mg3 30 rfl rfl
theorem mE_X6_markFact : (Jvm.Cond.selects "PigLine$Run" ({ cls := "PigLine$Run", name := "markFact", desc := "(II)I" } : Jvm.MethodName) ({ cls := "PigLine$Run", name := "markFact", desc := "(II)I" } : Jvm.MethodName)) ∈ LG := mg3 31 rfl rfl
theorem mC_X6_markFact : (Jvm.Cond.code ({ cls := "PigLine$Run", name := "markFact", desc := "(II)I" } : Jvm.MethodName) prog_8_method_7_code (3 : Nat) (Option.some Jvm.ClassFile.FieldType.int)) ∈ LG := mg3 32 rfl rfl
theorem lkM_X6_81 : (Jvm.Cond.methodLink "PigLine$Run" (81 : Nat) ({ cls := "PigLine$Run", name := "feltAt", desc := "(I)I" } : Jvm.MethodName)) ∈ LG := mg3 33 rfl rfl
theorem mI_X6_feltAt : (Jvm.Cond.instanceMethod ({ cls := "PigLine$Run", name := "feltAt", desc := "(I)I" } : Jvm.MethodName)) ∈ LG := mg3 34 rfl rfl
theorem mE_X6_feltAt : (Jvm.Cond.selects "PigLine$Run" ({ cls := "PigLine$Run", name := "feltAt", desc := "(I)I" } : Jvm.MethodName) ({ cls := "PigLine$Run", name := "feltAt", desc := "(I)I" } : Jvm.MethodName)) ∈ LG := mg3 35 rfl rfl
theorem mC_X6_feltAt : (Jvm.Cond.code ({ cls := "PigLine$Run", name := "feltAt", desc := "(I)I" } : Jvm.MethodName) prog_8_method_6_code (3 : Nat) (Option.some Jvm.ClassFile.FieldType.int)) ∈ LG := mg3 36 rfl rfl
theorem lkM_X6_84 : (Jvm.Cond.methodLink "PigLine$Run" (84 : Nat) ({ cls := "PigLine$Marks", name := "fact", desc := "(II)I" } : Jvm.MethodName)) ∈ LG := mg3 37 rfl rfl
theorem mI_X3_fact : (Jvm.Cond.instanceMethod ({ cls := "PigLine$Marks", name := "fact", desc := "(II)I" } : Jvm.MethodName)) ∈ LG := mg3 38 rfl rfl
theorem mE_X3_fact : (Jvm.Cond.selects "PigLine$Marks" ({ cls := "PigLine$Marks", name := "fact", desc := "(II)I" } : Jvm.MethodName) ({ cls := "PigLine$Marks", name := "fact", desc := "(II)I" } : Jvm.MethodName)) ∈ LG := mg3 39 rfl rfl
theorem mC_X3_fact : (Jvm.Cond.code ({ cls := "PigLine$Marks", name := "fact", desc := "(II)I" } : Jvm.MethodName) prog_5_method_4_code (3 : Nat) (Option.some Jvm.ClassFile.FieldType.int)) ∈ LG := mg3 40 rfl rfl
theorem lkM_L_83 : (Jvm.Cond.methodLink "PigLineLaw" (83 : Nat) ({ cls := "PigLine", name := "near", desc := "(II)I" } : Jvm.MethodName)) ∈ LG := mg3 41 rfl rfl
theorem mI_X9_near : (Jvm.Cond.instanceMethod ({ cls := "PigLine", name := "near", desc := "(II)I" } : Jvm.MethodName)) ∈ LG := mg3 42 rfl rfl
theorem mE_X9_near : (Jvm.Cond.selects "PigLine" ({ cls := "PigLine", name := "near", desc := "(II)I" } : Jvm.MethodName) ({ cls := "PigLine", name := "near", desc := "(II)I" } : Jvm.MethodName)) ∈ LG := mg3 43 rfl rfl
theorem mC_X9_near : (Jvm.Cond.code ({ cls := "PigLine", name := "near", desc := "(II)I" } : Jvm.MethodName) prog_1_method_18_code (3 : Nat) (Option.some Jvm.ClassFile.FieldType.int)) ∈ LG := mg3 44 rfl rfl
theorem lkM_L_87 : (Jvm.Cond.methodLink "PigLineLaw" (87 : Nat) ({ cls := "PigLine", name := "groups", desc := "(I)I" } : Jvm.MethodName)) ∈ LG := mg3 45 rfl rfl
theorem mI_X9_groups : (Jvm.Cond.instanceMethod ({ cls := "PigLine", name := "groups", desc := "(I)I" } : Jvm.MethodName)) ∈ LG := mg3 46 rfl rfl
theorem mE_X9_groups : (Jvm.Cond.selects "PigLine" ({ cls := "PigLine", name := "groups", desc := "(I)I" } : Jvm.MethodName) ({ cls := "PigLine", name := "groups", desc := "(I)I" } : Jvm.MethodName)) ∈ LG := mg3 47 rfl rfl
theorem mC_X9_groups : (Jvm.Cond.code ({ cls := "PigLine", name := "groups", desc := "(I)I" } : Jvm.MethodName) prog_1_method_19_code (3 : Nat) (Option.some Jvm.ClassFile.FieldType.int)) ∈ LG := mg3 48 rfl rfl
theorem lkM_L_91 : (Jvm.Cond.methodLink "PigLineLaw" (91 : Nat) ({ cls := "PigLine", name := "group", desc := "(III)I" } : Jvm.MethodName)) ∈ LG := mg3 49 rfl rfl
theorem mI_X9_group : (Jvm.Cond.instanceMethod ({ cls := "PigLine", name := "group", desc := "(III)I" } : Jvm.MethodName)) ∈ LG := mg3 50 rfl rfl
theorem mE_X9_group : (Jvm.Cond.selects "PigLine" ({ cls := "PigLine", name := "group", desc := "(III)I" } : Jvm.MethodName) ({ cls := "PigLine", name := "group", desc := "(III)I" } : Jvm.MethodName)) ∈ LG := mg3 51 rfl rfl
theorem mC_X9_group : (Jvm.Cond.code ({ cls := "PigLine", name := "group", desc := "(III)I" } : Jvm.MethodName) prog_1_method_20_code (5 : Nat) (Option.some Jvm.ClassFile.FieldType.int)) ∈ LG := mg3 52 rfl rfl
theorem lkM_X9_195 : (Jvm.Cond.methodLink "PigLine" (195 : Nat) ({ cls := "PigLine$Marks", name := "groupFact", desc := "(II)I" } : Jvm.MethodName)) ∈ LG := mg3 53 rfl rfl
theorem mI_X3_groupFact : (Jvm.Cond.instanceMethod ({ cls := "PigLine$Marks", name := "groupFact", desc := "(II)I" } : Jvm.MethodName)) ∈ LG := mg3 54 rfl rfl
theorem mE_X3_groupFact : (Jvm.Cond.selects "PigLine$Marks" ({ cls := "PigLine$Marks", name := "groupFact", desc := "(II)I" } : Jvm.MethodName) ({ cls := "PigLine$Marks", name := "groupFact", desc := "(II)I" } : Jvm.MethodName)) ∈ LG := mg3 55 rfl rfl
theorem mC_X3_groupFact : (Jvm.Cond.code ({ cls := "PigLine$Marks", name := "groupFact", desc := "(II)I" } : Jvm.MethodName) prog_5_method_9_code (9 : Nat) (Option.some Jvm.ClassFile.FieldType.int)) ∈ LG := mg3 56 rfl rfl
theorem lkM_X3_58 : (Jvm.Cond.methodLink "PigLine$Marks" (58 : Nat) ({ cls := "java/lang/Math", name := "min", desc := "(II)I" } : Jvm.MethodName)) ∈ LG := mg3 57 rfl rfl
theorem lkM_L_95 : (Jvm.Cond.methodLink "PigLineLaw" (95 : Nat) ({ cls := "PigLine", name := "alone", desc := "(I)I" } : Jvm.MethodName)) ∈ LG := mg3 58 rfl rfl
theorem mI_X9_alone : (Jvm.Cond.instanceMethod ({ cls := "PigLine", name := "alone", desc := "(I)I" } : Jvm.MethodName)) ∈ LG := mg3 59 rfl rfl
theorem mE_X9_alone : (Jvm.Cond.selects "PigLine" ({ cls := "PigLine", name := "alone", desc := "(I)I" } : Jvm.MethodName) ({ cls := "PigLine", name := "alone", desc := "(I)I" } : Jvm.MethodName)) ∈ LG := mg3 60 rfl rfl
theorem mC_X9_alone : (Jvm.Cond.code ({ cls := "PigLine", name := "alone", desc := "(I)I" } : Jvm.MethodName) prog_1_method_21_code (3 : Nat) (Option.some Jvm.ClassFile.FieldType.int)) ∈ LG := mg3 61 rfl rfl
theorem lkM_L_99 : (Jvm.Cond.methodLink "PigLineLaw" (99 : Nat) ({ cls := "PigLine", name := "pairing", desc := "(I)I" } : Jvm.MethodName)) ∈ LG := mg3 62 rfl rfl
theorem mI_X9_pairing : (Jvm.Cond.instanceMethod ({ cls := "PigLine", name := "pairing", desc := "(I)I" } : Jvm.MethodName)) ∈ LG := mg3 63 rfl rfl
theorem mE_X9_pairing : (Jvm.Cond.selects "PigLine" ({ cls := "PigLine", name := "pairing", desc := "(I)I" } : Jvm.MethodName) ({ cls := "PigLine", name := "pairing", desc := "(I)I" } : Jvm.MethodName)) ∈ LG := mg3 64 rfl rfl
theorem mC_X9_pairing : (Jvm.Cond.code ({ cls := "PigLine", name := "pairing", desc := "(I)I" } : Jvm.MethodName) prog_1_method_22_code (2 : Nat) (Option.some Jvm.ClassFile.FieldType.int)) ∈ LG := mg3 65 rfl rfl
theorem lkM_X9_201 : (Jvm.Cond.methodLink "PigLine" (201 : Nat) ({ cls := "PigLine", name := "matchBothRuns", desc := "()V" } : Jvm.MethodName)) ∈ LG := mg3 66 rfl rfl
theorem mI_X9_matchBothRuns : (Jvm.Cond.instanceMethod ({ cls := "PigLine", name := "matchBothRuns", desc := "()V" } : Jvm.MethodName)) ∈ LG := mg3 68 rfl rfl
theorem mC_X9_matchBothRuns : (Jvm.Cond.code ({ cls := "PigLine", name := "matchBothRuns", desc := "()V" } : Jvm.MethodName) prog_1_method_40_code (1 : Nat) (Option.none : Option Jvm.ClassFile.FieldType)) ∈ LG := mg3 69 rfl rfl
theorem lkM_X9_204 : (Jvm.Cond.methodLink "PigLine" (204 : Nat) ({ cls := "PigLine$Pairs", name := "leastCost", desc := "(LPigLine$Run;ILPigLine$Run;I)I" } : Jvm.MethodName)) ∈ LG := mg3 70 rfl rfl
theorem mI_X4_leastCost : (Jvm.Cond.instanceMethod ({ cls := "PigLine$Pairs", name := "leastCost", desc := "(LPigLine$Run;ILPigLine$Run;I)I" } : Jvm.MethodName)) ∈ LG := mg3 71 rfl rfl
theorem mE_X4_leastCost : (Jvm.Cond.selects "PigLine$Pairs" ({ cls := "PigLine$Pairs", name := "leastCost", desc := "(LPigLine$Run;ILPigLine$Run;I)I" } : Jvm.MethodName) ({ cls := "PigLine$Pairs", name := "leastCost", desc := "(LPigLine$Run;ILPigLine$Run;I)I" } : Jvm.MethodName)) ∈ LG := mg3 72 rfl rfl
theorem mC_X4_leastCost : (Jvm.Cond.code ({ cls := "PigLine$Pairs", name := "leastCost", desc := "(LPigLine$Run;ILPigLine$Run;I)I" } : Jvm.MethodName) prog_6_method_2_code (8 : Nat) (Option.some Jvm.ClassFile.FieldType.int)) ∈ LG := mg3 73 rfl rfl
theorem lkM_X4_29 : (Jvm.Cond.methodLink "PigLine$Pairs" (29 : Nat) ({ cls := "PigLine$Lot", name := "gather", desc := "(LPigLine$Run;I)V" } : Jvm.MethodName)) ∈ LG := mg3 74 rfl rfl
theorem mI_X2_gather : (Jvm.Cond.instanceMethod ({ cls := "PigLine$Lot", name := "gather", desc := "(LPigLine$Run;I)V" } : Jvm.MethodName)) ∈ LG := mg3 75 rfl rfl
theorem mE_X2_gather : (Jvm.Cond.selects "PigLine$Lot" ({ cls := "PigLine$Lot", name := "gather", desc := "(LPigLine$Run;I)V" } : Jvm.MethodName) ({ cls := "PigLine$Lot", name := "gather", desc := "(LPigLine$Run;I)V" } : Jvm.MethodName)) ∈ LG := mg3 76 rfl rfl
theorem mC_X2_gather : (Jvm.Cond.code ({ cls := "PigLine$Lot", name := "gather", desc := "(LPigLine$Run;I)V" } : Jvm.MethodName) prog_4_method_2_code (4 : Nat) (Option.none : Option Jvm.ClassFile.FieldType)) ∈ LG := mg3 77 rfl rfl
theorem lkM_X2_40 : (Jvm.Cond.methodLink "PigLine$Lot" (40 : Nat) ({ cls := "PigLine$Run", name := "feltAt", desc := "(I)I" } : Jvm.MethodName)) ∈ LG := mg3 78 rfl rfl
theorem lkM_X4_36 : (Jvm.Cond.methodLink "PigLine$Pairs" (36 : Nat) ({ cls := "java/lang/Integer", name := "bitCount", desc := "(I)I" } : Jvm.MethodName)) ∈ LG := mg3 79 rfl rfl
theorem mS_J6_bitCount_0f7a4 : (Jvm.Cond.static ({ cls := "java/lang/Integer", name := "bitCount", desc := "(I)I" } : Jvm.MethodName)) ∈ LG := mg3 80 rfl rfl
theorem mC_J6_bitCount_0f7a4 : (Jvm.Cond.code ({ cls := "java/lang/Integer", name := "bitCount", desc := "(I)I" } : Jvm.MethodName) prog_13_method_49_code (1 : Nat) (Option.some Jvm.ClassFile.FieldType.int)) ∈ LG := mg3 81 rfl rfl
theorem lkC_J6_265 : (Jvm.Cond.constant "java/lang/Integer" (265 : Nat) (1431655765 : Int32)) ∈ LG := mg3 82 rfl rfl
theorem lkC_J6_266 : (Jvm.Cond.constant "java/lang/Integer" (266 : Nat) (858993459 : Int32)) ∈ LG := mg3 83 rfl rfl
theorem lkC_J6_267 : (Jvm.Cond.constant "java/lang/Integer" (267 : Nat) (252645135 : Int32)) ∈ LG := mg3 84 rfl rfl
theorem lkM_X4_42 : (Jvm.Cond.methodLink "PigLine$Pairs" (42 : Nat) ({ cls := "PigLine$Pairs", name := "leastFrom", desc := "(II)I" } : Jvm.MethodName)) ∈ LG := mg3 85 rfl rfl
theorem mI_X4_leastFrom : (Jvm.Cond.instanceMethod ({ cls := "PigLine$Pairs", name := "leastFrom", desc := "(II)I" } : Jvm.MethodName)) ∈ LG := mg3 87 rfl rfl
theorem mC_X4_leastFrom : (Jvm.Cond.code ({ cls := "PigLine$Pairs", name := "leastFrom", desc := "(II)I" } : Jvm.MethodName) prog_6_method_3_code (5 : Nat) (Option.some Jvm.ClassFile.FieldType.int)) ∈ LG := mg3 88 rfl rfl
theorem lkM_X4_46 : (Jvm.Cond.methodLink "PigLine$Pairs" (46 : Nat) ({ cls := "PigLine$Pairs", name := "withPair", desc := "(III)I" } : Jvm.MethodName)) ∈ LG := mg3 89 rfl rfl
theorem mI_X4_withPair : (Jvm.Cond.instanceMethod ({ cls := "PigLine$Pairs", name := "withPair", desc := "(III)I" } : Jvm.MethodName)) ∈ LG := mg3 91 rfl rfl
theorem mC_X4_withPair : (Jvm.Cond.code ({ cls := "PigLine$Pairs", name := "withPair", desc := "(III)I" } : Jvm.MethodName) prog_6_method_4_code (5 : Nat) (Option.some Jvm.ClassFile.FieldType.int)) ∈ LG := mg3 92 rfl rfl
theorem lkM_X4_58 : (Jvm.Cond.methodLink "PigLine$Pairs" (58 : Nat) ({ cls := "java/lang/Math", name := "abs", desc := "(I)I" } : Jvm.MethodName)) ∈ LG := mg3 93 rfl rfl
theorem lkM_X4_50 : (Jvm.Cond.methodLink "PigLine$Pairs" (50 : Nat) ({ cls := "java/lang/Math", name := "min", desc := "(II)I" } : Jvm.MethodName)) ∈ LG := mg3 95 rfl rfl
theorem lkM_L_103 : (Jvm.Cond.methodLink "PigLineLaw" (103 : Nat) ({ cls := "PigLine", name := "twin", desc := "(I)I" } : Jvm.MethodName)) ∈ LG := mg3 96 rfl rfl
theorem mI_X9_twin : (Jvm.Cond.instanceMethod ({ cls := "PigLine", name := "twin", desc := "(I)I" } : Jvm.MethodName)) ∈ LG := mg3 97 rfl rfl
theorem mE_X9_twin : (Jvm.Cond.selects "PigLine" ({ cls := "PigLine", name := "twin", desc := "(I)I" } : Jvm.MethodName) ({ cls := "PigLine", name := "twin", desc := "(I)I" } : Jvm.MethodName)) ∈ LG := mg3 98 rfl rfl
theorem mC_X9_twin : (Jvm.Cond.code ({ cls := "PigLine", name := "twin", desc := "(I)I" } : Jvm.MethodName) prog_1_method_23_code (2 : Nat) (Option.some Jvm.ClassFile.FieldType.int)) ∈ LG := mg3 99 rfl rfl
theorem lkM_X9_207 : (Jvm.Cond.methodLink "PigLine" (207 : Nat) ({ cls := "PigLine", name := "twinOf", desc := "(I)I" } : Jvm.MethodName)) ∈ LG := mg3 100 rfl rfl
theorem mI_X9_twinOf : (Jvm.Cond.instanceMethod ({ cls := "PigLine", name := "twinOf", desc := "(I)I" } : Jvm.MethodName)) ∈ LG := mg3 102 rfl rfl
theorem mC_X9_twinOf : (Jvm.Cond.code ({ cls := "PigLine", name := "twinOf", desc := "(I)I" } : Jvm.MethodName) prog_1_method_41_code (3 : Nat) (Option.some Jvm.ClassFile.FieldType.int)) ∈ LG := mg3 103 rfl rfl
theorem lkM_X9_285 : (Jvm.Cond.methodLink "PigLine" (285 : Nat) ({ cls := "PigLine$Run", name := "feltAt", desc := "(I)I" } : Jvm.MethodName)) ∈ LG := mg3 104 rfl rfl
theorem lkM_X9_288 : (Jvm.Cond.methodLink "PigLine" (288 : Nat) ({ cls := "PigLine$Book", name := "jointPairedWith", desc := "(LPigLine$Run;I)I" } : Jvm.MethodName)) ∈ LG := mg3 105 rfl rfl
theorem mI_X0_jointPairedWith : (Jvm.Cond.instanceMethod ({ cls := "PigLine$Book", name := "jointPairedWith", desc := "(LPigLine$Run;I)I" } : Jvm.MethodName)) ∈ LG := mg3 106 rfl rfl
theorem mE_X0_jointPairedWith : (Jvm.Cond.selects "PigLine$Book" ({ cls := "PigLine$Book", name := "jointPairedWith", desc := "(LPigLine$Run;I)I" } : Jvm.MethodName) ({ cls := "PigLine$Book", name := "jointPairedWith", desc := "(LPigLine$Run;I)I" } : Jvm.MethodName)) ∈ LG := mg3 107 rfl rfl
theorem mC_X0_jointPairedWith : (Jvm.Cond.code ({ cls := "PigLine$Book", name := "jointPairedWith", desc := "(LPigLine$Run;I)I" } : Jvm.MethodName) prog_2_method_8_code (4 : Nat) (Option.some Jvm.ClassFile.FieldType.int)) ∈ LG := mg3 108 rfl rfl
theorem lkM_X9_292 : (Jvm.Cond.methodLink "PigLine" (292 : Nat) ({ cls := "PigLine$Pairs", name := "otherOf", desc := "(I)I" } : Jvm.MethodName)) ∈ LG := mg3 109 rfl rfl
theorem mI_X4_otherOf : (Jvm.Cond.instanceMethod ({ cls := "PigLine$Pairs", name := "otherOf", desc := "(I)I" } : Jvm.MethodName)) ∈ LG := mg3 110 rfl rfl
theorem mE_X4_otherOf : (Jvm.Cond.selects "PigLine$Pairs" ({ cls := "PigLine$Pairs", name := "otherOf", desc := "(I)I" } : Jvm.MethodName) ({ cls := "PigLine$Pairs", name := "otherOf", desc := "(I)I" } : Jvm.MethodName)) ∈ LG := mg3 111 rfl rfl
theorem mC_X4_otherOf : (Jvm.Cond.code ({ cls := "PigLine$Pairs", name := "otherOf", desc := "(I)I" } : Jvm.MethodName) prog_6_method_5_code (5 : Nat) (Option.some Jvm.ClassFile.FieldType.int)) ∈ LG := mg3 112 rfl rfl
theorem lkM_X4_67 : (Jvm.Cond.methodLink "PigLine$Pairs" (67 : Nat) ({ cls := "PigLine$Pairs", name := "choiceAt", desc := "(II)I" } : Jvm.MethodName)) ∈ LG := mg3 113 rfl rfl
theorem mI_X4_choiceAt : (Jvm.Cond.instanceMethod ({ cls := "PigLine$Pairs", name := "choiceAt", desc := "(II)I" } : Jvm.MethodName)) ∈ LG := mg3 115 rfl rfl
theorem mC_X4_choiceAt : (Jvm.Cond.code ({ cls := "PigLine$Pairs", name := "choiceAt", desc := "(II)I" } : Jvm.MethodName) prog_6_method_6_code (4 : Nat) (Option.some Jvm.ClassFile.FieldType.int)) ∈ LG := mg3 116 rfl rfl
theorem lkM_L_107 : (Jvm.Cond.methodLink "PigLineLaw" (107 : Nat) ({ cls := "PigLine", name := "tool", desc := "(III)I" } : Jvm.MethodName)) ∈ LG := mg3 117 rfl rfl
theorem mI_X9_tool : (Jvm.Cond.instanceMethod ({ cls := "PigLine", name := "tool", desc := "(III)I" } : Jvm.MethodName)) ∈ LG := mg3 118 rfl rfl
theorem mE_X9_tool : (Jvm.Cond.selects "PigLine" ({ cls := "PigLine", name := "tool", desc := "(III)I" } : Jvm.MethodName) ({ cls := "PigLine", name := "tool", desc := "(III)I" } : Jvm.MethodName)) ∈ LG := mg3 119 rfl rfl
theorem mC_X9_tool : (Jvm.Cond.code ({ cls := "PigLine", name := "tool", desc := "(III)I" } : Jvm.MethodName) prog_1_method_24_code (4 : Nat) (Option.some Jvm.ClassFile.FieldType.int)) ∈ LG := mg3 120 rfl rfl
theorem lkM_L_111 : (Jvm.Cond.methodLink "PigLineLaw" (111 : Nat) ({ cls := "PigLine", name := "growth", desc := "(II)I" } : Jvm.MethodName)) ∈ LG := mg3 121 rfl rfl
theorem mI_X9_growth : (Jvm.Cond.instanceMethod ({ cls := "PigLine", name := "growth", desc := "(II)I" } : Jvm.MethodName)) ∈ LG := mg3 122 rfl rfl
theorem mE_X9_growth : (Jvm.Cond.selects "PigLine" ({ cls := "PigLine", name := "growth", desc := "(II)I" } : Jvm.MethodName) ({ cls := "PigLine", name := "growth", desc := "(II)I" } : Jvm.MethodName)) ∈ LG := mg3 123 rfl rfl
theorem mC_X9_growth : (Jvm.Cond.code ({ cls := "PigLine", name := "growth", desc := "(II)I" } : Jvm.MethodName) prog_1_method_25_code (4 : Nat) (Option.some Jvm.ClassFile.FieldType.int)) ∈ LG := mg3 124 rfl rfl
theorem lkM_X9_222 : (Jvm.Cond.methodLink "PigLine" (222 : Nat) ({ cls := "PigLine$Spans", name := "fact", desc := "(III)I" } : Jvm.MethodName)) ∈ LG := mg3 125 rfl rfl
theorem mI_X7_fact : (Jvm.Cond.instanceMethod ({ cls := "PigLine$Spans", name := "fact", desc := "(III)I" } : Jvm.MethodName)) ∈ LG := mg3 126 rfl rfl
theorem mE_X7_fact : (Jvm.Cond.selects "PigLine$Spans" ({ cls := "PigLine$Spans", name := "fact", desc := "(III)I" } : Jvm.MethodName) ({ cls := "PigLine$Spans", name := "fact", desc := "(III)I" } : Jvm.MethodName)) ∈ LG := mg3 127 rfl rfl
theorem mC_X7_fact : (Jvm.Cond.code ({ cls := "PigLine$Spans", name := "fact", desc := "(III)I" } : Jvm.MethodName) prog_9_method_4_code (5 : Nat) (Option.some Jvm.ClassFile.FieldType.int)) ∈ LG := mg3 128 rfl rfl
theorem lkM_X7_30 : (Jvm.Cond.methodLink "PigLine$Spans" (30 : Nat) ({ cls := "PigLine$Spans", name := "mostTruly", desc := "(I)I" } : Jvm.MethodName)) ∈ LG := mg3 129 rfl rfl
theorem mI_X7_mostTruly : (Jvm.Cond.instanceMethod ({ cls := "PigLine$Spans", name := "mostTruly", desc := "(I)I" } : Jvm.MethodName)) ∈ LG := mg3 131 rfl rfl
theorem mC_X7_mostTruly : (Jvm.Cond.code ({ cls := "PigLine$Spans", name := "mostTruly", desc := "(I)I" } : Jvm.MethodName) prog_9_method_3_code (2 : Nat) (Option.some Jvm.ClassFile.FieldType.int)) ∈ LG := mg3 132 rfl rfl
theorem lkM_X7_27 : (Jvm.Cond.methodLink "PigLine$Spans" (27 : Nat) ({ cls := "java/lang/Math", name := "min", desc := "(II)I" } : Jvm.MethodName)) ∈ LG := mg3 133 rfl rfl
theorem lkM_X7_34 : (Jvm.Cond.methodLink "PigLine$Spans" (34 : Nat) ({ cls := "PigLine$Spans", name := "leastTruly", desc := "(I)I" } : Jvm.MethodName)) ∈ LG := mg3 134 rfl rfl
theorem mI_X7_leastTruly : (Jvm.Cond.instanceMethod ({ cls := "PigLine$Spans", name := "leastTruly", desc := "(I)I" } : Jvm.MethodName)) ∈ LG := mg3 136 rfl rfl
theorem mC_X7_leastTruly : (Jvm.Cond.code ({ cls := "PigLine$Spans", name := "leastTruly", desc := "(I)I" } : Jvm.MethodName) prog_9_method_2_code (2 : Nat) (Option.some Jvm.ClassFile.FieldType.int)) ∈ LG := mg3 137 rfl rfl
theorem lkM_X7_21 : (Jvm.Cond.methodLink "PigLine$Spans" (21 : Nat) ({ cls := "java/lang/Math", name := "max", desc := "(II)I" } : Jvm.MethodName)) ∈ LG := mg3 138 rfl rfl
theorem lkM_X7_37 : (Jvm.Cond.methodLink "PigLine$Spans" (37 : Nat) ({ cls := "PigLine$Spans", name := "lastYear", desc := "(II)I" } : Jvm.MethodName)) ∈ LG := mg3 139 rfl rfl
theorem mI_X7_lastYear : (Jvm.Cond.instanceMethod ({ cls := "PigLine$Spans", name := "lastYear", desc := "(II)I" } : Jvm.MethodName)) ∈ LG := mg3 141 rfl rfl
theorem mC_X7_lastYear : (Jvm.Cond.code ({ cls := "PigLine$Spans", name := "lastYear", desc := "(II)I" } : Jvm.MethodName) prog_9_method_5_code (4 : Nat) (Option.some Jvm.ClassFile.FieldType.int)) ∈ LG := mg3 142 rfl rfl
theorem lkM_L_115 : (Jvm.Cond.methodLink "PigLineLaw" (115 : Nat) ({ cls := "PigLine", name := "work", desc := "(II)I" } : Jvm.MethodName)) ∈ LG := mg3 143 rfl rfl
theorem mI_X9_work : (Jvm.Cond.instanceMethod ({ cls := "PigLine", name := "work", desc := "(II)I" } : Jvm.MethodName)) ∈ LG := mg3 144 rfl rfl
theorem mE_X9_work : (Jvm.Cond.selects "PigLine" ({ cls := "PigLine", name := "work", desc := "(II)I" } : Jvm.MethodName) ({ cls := "PigLine", name := "work", desc := "(II)I" } : Jvm.MethodName)) ∈ LG := mg3 145 rfl rfl
theorem mC_X9_work : (Jvm.Cond.code ({ cls := "PigLine", name := "work", desc := "(II)I" } : Jvm.MethodName) prog_1_method_26_code (3 : Nat) (Option.some Jvm.ClassFile.FieldType.int)) ∈ LG := mg3 146 rfl rfl
theorem lkM_X9_225 : (Jvm.Cond.methodLink "PigLine" (225 : Nat) ({ cls := "PigLine$Digs", name := "add", desc := "(II)I" } : Jvm.MethodName)) ∈ LG := mg3 147 rfl rfl
theorem mI_X1_add : (Jvm.Cond.instanceMethod ({ cls := "PigLine$Digs", name := "add", desc := "(II)I" } : Jvm.MethodName)) ∈ LG := mg3 148 rfl rfl
theorem mE_X1_add : (Jvm.Cond.selects "PigLine$Digs" ({ cls := "PigLine$Digs", name := "add", desc := "(II)I" } : Jvm.MethodName) ({ cls := "PigLine$Digs", name := "add", desc := "(II)I" } : Jvm.MethodName)) ∈ LG := mg3 149 rfl rfl
theorem mC_X1_add : (Jvm.Cond.code ({ cls := "PigLine$Digs", name := "add", desc := "(II)I" } : Jvm.MethodName) prog_3_method_2_code (3 : Nat) (Option.some Jvm.ClassFile.FieldType.int)) ∈ LG := mg3 150 rfl rfl
theorem lkM_L_119 : (Jvm.Cond.methodLink "PigLineLaw" (119 : Nat) ({ cls := "PigLine", name := "yearly", desc := "(II)I" } : Jvm.MethodName)) ∈ LG := mg3 151 rfl rfl
theorem mI_X9_yearly : (Jvm.Cond.instanceMethod ({ cls := "PigLine", name := "yearly", desc := "(II)I" } : Jvm.MethodName)) ∈ LG := mg3 152 rfl rfl
theorem mE_X9_yearly : (Jvm.Cond.selects "PigLine" ({ cls := "PigLine", name := "yearly", desc := "(II)I" } : Jvm.MethodName) ({ cls := "PigLine", name := "yearly", desc := "(II)I" } : Jvm.MethodName)) ∈ LG := mg3 153 rfl rfl
theorem mC_X9_yearly : (Jvm.Cond.code ({ cls := "PigLine", name := "yearly", desc := "(II)I" } : Jvm.MethodName) prog_1_method_27_code (3 : Nat) (Option.some Jvm.ClassFile.FieldType.int)) ∈ LG := mg3 154 rfl rfl
theorem lkM_L_123 : (Jvm.Cond.methodLink "PigLineLaw" (123 : Nat) ({ cls := "PigLine", name := "plan", desc := "()I" } : Jvm.MethodName)) ∈ LG := mg3 155 rfl rfl
theorem mI_X9_plan : (Jvm.Cond.instanceMethod ({ cls := "PigLine", name := "plan", desc := "()I" } : Jvm.MethodName)) ∈ LG := mg3 156 rfl rfl
theorem mE_X9_plan : (Jvm.Cond.selects "PigLine" ({ cls := "PigLine", name := "plan", desc := "()I" } : Jvm.MethodName) ({ cls := "PigLine", name := "plan", desc := "()I" } : Jvm.MethodName)) ∈ LG := mg3 157 rfl rfl
theorem mC_X9_plan : (Jvm.Cond.code ({ cls := "PigLine", name := "plan", desc := "()I" } : Jvm.MethodName) prog_1_method_28_code (2 : Nat) (Option.some Jvm.ClassFile.FieldType.int)) ∈ LG := mg3 158 rfl rfl
theorem lkM_X9_233 : (Jvm.Cond.methodLink "PigLine" (233 : Nat) ({ cls := "PigLine$Digs", name := "bestYears", desc := "()I" } : Jvm.MethodName)) ∈ LG := mg3 159 rfl rfl
theorem mI_X1_bestYears : (Jvm.Cond.instanceMethod ({ cls := "PigLine$Digs", name := "bestYears", desc := "()I" } : Jvm.MethodName)) ∈ LG := mg3 160 rfl rfl
theorem mE_X1_bestYears : (Jvm.Cond.selects "PigLine$Digs" ({ cls := "PigLine$Digs", name := "bestYears", desc := "()I" } : Jvm.MethodName) ({ cls := "PigLine$Digs", name := "bestYears", desc := "()I" } : Jvm.MethodName)) ∈ LG := mg3 161 rfl rfl
theorem mC_X1_bestYears : (Jvm.Cond.code ({ cls := "PigLine$Digs", name := "bestYears", desc := "()I" } : Jvm.MethodName) prog_3_method_3_code (3 : Nat) (Option.some Jvm.ClassFile.FieldType.int)) ∈ LG := mg3 162 rfl rfl
theorem lkM_X1_31 : (Jvm.Cond.methodLink "PigLine$Digs" (31 : Nat) ({ cls := "PigLine$Digs", name := "isEnough", desc := "(I)Z" } : Jvm.MethodName)) ∈ LG := mg3 163 rfl rfl
theorem mI_X1_isEnough : (Jvm.Cond.instanceMethod ({ cls := "PigLine$Digs", name := "isEnough", desc := "(I)Z" } : Jvm.MethodName)) ∈ LG := mg3 165 rfl rfl
theorem mC_X1_isEnough : (Jvm.Cond.code ({ cls := "PigLine$Digs", name := "isEnough", desc := "(I)Z" } : Jvm.MethodName) prog_3_method_4_code (5 : Nat) (Option.some Jvm.ClassFile.FieldType.boolean)) ∈ LG := mg3 166 rfl rfl
theorem lkM_X1_39 : (Jvm.Cond.methodLink "PigLine$Digs" (39 : Nat) ({ cls := "PigLine$Digs", name := "hasYear", desc := "(II)Z" } : Jvm.MethodName)) ∈ LG := mg3 167 rfl rfl
theorem mI_X1_hasYear : (Jvm.Cond.instanceMethod ({ cls := "PigLine$Digs", name := "hasYear", desc := "(II)Z" } : Jvm.MethodName)) ∈ LG := mg3 169 rfl rfl
theorem mC_X1_hasYear : (Jvm.Cond.code ({ cls := "PigLine$Digs", name := "hasYear", desc := "(II)Z" } : Jvm.MethodName) prog_3_method_5_code (3 : Nat) (Option.some Jvm.ClassFile.FieldType.boolean)) ∈ LG := mg3 170 rfl rfl
theorem lkM_X1_35 : (Jvm.Cond.methodLink "PigLine$Digs" (35 : Nat) ({ cls := "PigLine$Digs", name := "costOf", desc := "(I)I" } : Jvm.MethodName)) ∈ LG := mg3 171 rfl rfl
theorem mI_X1_costOf : (Jvm.Cond.instanceMethod ({ cls := "PigLine$Digs", name := "costOf", desc := "(I)I" } : Jvm.MethodName)) ∈ LG := mg3 172 rfl rfl
theorem mE_X1_costOf : (Jvm.Cond.selects "PigLine$Digs" ({ cls := "PigLine$Digs", name := "costOf", desc := "(I)I" } : Jvm.MethodName) ({ cls := "PigLine$Digs", name := "costOf", desc := "(I)I" } : Jvm.MethodName)) ∈ LG := mg3 173 rfl rfl
theorem mC_X1_costOf : (Jvm.Cond.code ({ cls := "PigLine$Digs", name := "costOf", desc := "(I)I" } : Jvm.MethodName) prog_3_method_6_code (2 : Nat) (Option.some Jvm.ClassFile.FieldType.int)) ∈ LG := mg3 174 rfl rfl
theorem lkM_X1_43 : (Jvm.Cond.methodLink "PigLine$Digs" (43 : Nat) ({ cls := "java/lang/Integer", name := "bitCount", desc := "(I)I" } : Jvm.MethodName)) ∈ LG := mg3 175 rfl rfl
theorem lkM_X9_237 : (Jvm.Cond.methodLink "PigLine" (237 : Nat) ({ cls := "PigLine$Digs", name := "costOf", desc := "(I)I" } : Jvm.MethodName)) ∈ LG := mg3 176 rfl rfl
theorem lkM_L_127 : (Jvm.Cond.methodLink "PigLineLaw" (127 : Nat) ({ cls := "PigLine", name := "years", desc := "()I" } : Jvm.MethodName)) ∈ LG := mg3 177 rfl rfl
theorem mI_X9_years : (Jvm.Cond.instanceMethod ({ cls := "PigLine", name := "years", desc := "()I" } : Jvm.MethodName)) ∈ LG := mg3 178 rfl rfl
theorem mE_X9_years : (Jvm.Cond.selects "PigLine" ({ cls := "PigLine", name := "years", desc := "()I" } : Jvm.MethodName) ({ cls := "PigLine", name := "years", desc := "()I" } : Jvm.MethodName)) ∈ LG := mg3 179 rfl rfl
theorem mC_X9_years : (Jvm.Cond.code ({ cls := "PigLine", name := "years", desc := "()I" } : Jvm.MethodName) prog_1_method_29_code (2 : Nat) (Option.some Jvm.ClassFile.FieldType.int)) ∈ LG := mg3 180 rfl rfl
theorem lkM_L_131 : (Jvm.Cond.methodLink "PigLineLaw" (131 : Nat) ({ cls := "PigLine", name := "when", desc := "(I)I" } : Jvm.MethodName)) ∈ LG := mg3 181 rfl rfl
theorem mI_X9_when : (Jvm.Cond.instanceMethod ({ cls := "PigLine", name := "when", desc := "(I)I" } : Jvm.MethodName)) ∈ LG := mg3 182 rfl rfl
theorem mE_X9_when : (Jvm.Cond.selects "PigLine" ({ cls := "PigLine", name := "when", desc := "(I)I" } : Jvm.MethodName) ({ cls := "PigLine", name := "when", desc := "(I)I" } : Jvm.MethodName)) ∈ LG := mg3 183 rfl rfl
theorem mC_X9_when : (Jvm.Cond.code ({ cls := "PigLine", name := "when", desc := "(I)I" } : Jvm.MethodName) prog_1_method_30_code (3 : Nat) (Option.some Jvm.ClassFile.FieldType.int)) ∈ LG := mg3 184 rfl rfl
theorem lkM_X9_241 : (Jvm.Cond.methodLink "PigLine" (241 : Nat) ({ cls := "PigLine$Digs", name := "yearOf", desc := "(II)I" } : Jvm.MethodName)) ∈ LG := mg3 185 rfl rfl
theorem mI_X1_yearOf : (Jvm.Cond.instanceMethod ({ cls := "PigLine$Digs", name := "yearOf", desc := "(II)I" } : Jvm.MethodName)) ∈ LG := mg3 186 rfl rfl
theorem mE_X1_yearOf : (Jvm.Cond.selects "PigLine$Digs" ({ cls := "PigLine$Digs", name := "yearOf", desc := "(II)I" } : Jvm.MethodName) ({ cls := "PigLine$Digs", name := "yearOf", desc := "(II)I" } : Jvm.MethodName)) ∈ LG := mg3 187 rfl rfl
theorem mC_X1_yearOf : (Jvm.Cond.code ({ cls := "PigLine$Digs", name := "yearOf", desc := "(II)I" } : Jvm.MethodName) prog_3_method_7_code (5 : Nat) (Option.some Jvm.ClassFile.FieldType.int)) ∈ LG := mg3 188 rfl rfl
theorem lkM_X1_48 : (Jvm.Cond.methodLink "PigLine$Digs" (48 : Nat) ({ cls := "PigLine$Digs", name := "worksAheadOf", desc := "(I)I" } : Jvm.MethodName)) ∈ LG := mg3 189 rfl rfl
theorem mI_X1_worksAheadOf : (Jvm.Cond.instanceMethod ({ cls := "PigLine$Digs", name := "worksAheadOf", desc := "(I)I" } : Jvm.MethodName)) ∈ LG := mg3 191 rfl rfl
theorem mC_X1_worksAheadOf : (Jvm.Cond.code ({ cls := "PigLine$Digs", name := "worksAheadOf", desc := "(I)I" } : Jvm.MethodName) prog_3_method_8_code (4 : Nat) (Option.some Jvm.ClassFile.FieldType.int)) ∈ LG := mg3 192 rfl rfl
theorem lkM_L_135 : (Jvm.Cond.methodLink "PigLineLaw" (135 : Nat) ({ cls := "PigLine", name := "trap", desc := "(IZ)I" } : Jvm.MethodName)) ∈ LG := mg3 193 rfl rfl
theorem mI_X9_trap : (Jvm.Cond.instanceMethod ({ cls := "PigLine", name := "trap", desc := "(IZ)I" } : Jvm.MethodName)) ∈ LG := mg3 194 rfl rfl
theorem mE_X9_trap : (Jvm.Cond.selects "PigLine" ({ cls := "PigLine", name := "trap", desc := "(IZ)I" } : Jvm.MethodName) ({ cls := "PigLine", name := "trap", desc := "(IZ)I" } : Jvm.MethodName)) ∈ LG := mg3 195 rfl rfl
theorem mC_X9_trap : (Jvm.Cond.code ({ cls := "PigLine", name := "trap", desc := "(IZ)I" } : Jvm.MethodName) prog_1_method_31_code (3 : Nat) (Option.some Jvm.ClassFile.FieldType.int)) ∈ LG := mg3 196 rfl rfl
theorem lkM_X9_244 : (Jvm.Cond.methodLink "PigLine" (244 : Nat) ({ cls := "PigLine$Valves", name := "isOpen", desc := "(I)Z" } : Jvm.MethodName)) ∈ LG := mg3 197 rfl rfl
theorem mI_X8_isOpen : (Jvm.Cond.instanceMethod ({ cls := "PigLine$Valves", name := "isOpen", desc := "(I)Z" } : Jvm.MethodName)) ∈ LG := mg3 198 rfl rfl
theorem mE_X8_isOpen : (Jvm.Cond.selects "PigLine$Valves" ({ cls := "PigLine$Valves", name := "isOpen", desc := "(I)Z" } : Jvm.MethodName) ({ cls := "PigLine$Valves", name := "isOpen", desc := "(I)Z" } : Jvm.MethodName)) ∈ LG := mg3 199 rfl rfl
theorem mC_X8_isOpen : (Jvm.Cond.code ({ cls := "PigLine$Valves", name := "isOpen", desc := "(I)Z" } : Jvm.MethodName) prog_10_method_2_code (2 : Nat) (Option.some Jvm.ClassFile.FieldType.boolean)) ∈ LG := mg3 200 rfl rfl
theorem lkM_X9_247 : (Jvm.Cond.methodLink "PigLine" (247 : Nat) ({ cls := "PigLine$Valves", name := "shut", desc := "(I)V" } : Jvm.MethodName)) ∈ LG := mg3 201 rfl rfl
theorem mI_X8_shut : (Jvm.Cond.instanceMethod ({ cls := "PigLine$Valves", name := "shut", desc := "(I)V" } : Jvm.MethodName)) ∈ LG := mg3 202 rfl rfl
theorem mE_X8_shut : (Jvm.Cond.selects "PigLine$Valves" ({ cls := "PigLine$Valves", name := "shut", desc := "(I)V" } : Jvm.MethodName) ({ cls := "PigLine$Valves", name := "shut", desc := "(I)V" } : Jvm.MethodName)) ∈ LG := mg3 203 rfl rfl
theorem mC_X8_shut : (Jvm.Cond.code ({ cls := "PigLine$Valves", name := "shut", desc := "(I)V" } : Jvm.MethodName) prog_10_method_5_code (2 : Nat) (Option.none : Option Jvm.ClassFile.FieldType)) ∈ LG := mg3 204 rfl rfl
theorem lkM_X9_251 : (Jvm.Cond.methodLink "PigLine" (251 : Nat) ({ cls := "PigLine$Valves", name := "mayOpen", desc := "(I)Z" } : Jvm.MethodName)) ∈ LG := mg3 205 rfl rfl
theorem mI_X8_mayOpen : (Jvm.Cond.instanceMethod ({ cls := "PigLine$Valves", name := "mayOpen", desc := "(I)Z" } : Jvm.MethodName)) ∈ LG := mg3 206 rfl rfl
theorem mE_X8_mayOpen : (Jvm.Cond.selects "PigLine$Valves" ({ cls := "PigLine$Valves", name := "mayOpen", desc := "(I)Z" } : Jvm.MethodName) ({ cls := "PigLine$Valves", name := "mayOpen", desc := "(I)Z" } : Jvm.MethodName)) ∈ LG := mg3 207 rfl rfl
theorem mC_X8_mayOpen : (Jvm.Cond.code ({ cls := "PigLine$Valves", name := "mayOpen", desc := "(I)Z" } : Jvm.MethodName) prog_10_method_3_code (2 : Nat) (Option.some Jvm.ClassFile.FieldType.boolean)) ∈ LG := mg3 208 rfl rfl
theorem lkM_X8_19 : (Jvm.Cond.methodLink "PigLine$Valves" (19 : Nat) ({ cls := "PigLine$Valves", name := "isOpen", desc := "(I)Z" } : Jvm.MethodName)) ∈ LG := mg3 209 rfl rfl
theorem lkM_X9_254 : (Jvm.Cond.methodLink "PigLine" (254 : Nat) ({ cls := "PigLine$Valves", name := "open", desc := "(I)V" } : Jvm.MethodName)) ∈ LG := mg3 210 rfl rfl
theorem mI_X8_open : (Jvm.Cond.instanceMethod ({ cls := "PigLine$Valves", name := "open", desc := "(I)V" } : Jvm.MethodName)) ∈ LG := mg3 211 rfl rfl
theorem mE_X8_open : (Jvm.Cond.selects "PigLine$Valves" ({ cls := "PigLine$Valves", name := "open", desc := "(I)V" } : Jvm.MethodName) ({ cls := "PigLine$Valves", name := "open", desc := "(I)V" } : Jvm.MethodName)) ∈ LG := mg3 212 rfl rfl
theorem mC_X8_open : (Jvm.Cond.code ({ cls := "PigLine$Valves", name := "open", desc := "(I)V" } : Jvm.MethodName) prog_10_method_4_code (2 : Nat) (Option.none : Option Jvm.ClassFile.FieldType)) ∈ LG := mg3 213 rfl rfl
theorem lkM_L_140 : (Jvm.Cond.methodLink "PigLineLaw" (140 : Nat) ({ cls := "PigLine", name := "count", desc := "(I)I" } : Jvm.MethodName)) ∈ LG := mg3 214 rfl rfl
theorem mI_X9_count : (Jvm.Cond.instanceMethod ({ cls := "PigLine", name := "count", desc := "(I)I" } : Jvm.MethodName)) ∈ LG := mg3 215 rfl rfl
theorem mE_X9_count : (Jvm.Cond.selects "PigLine" ({ cls := "PigLine", name := "count", desc := "(I)I" } : Jvm.MethodName) ({ cls := "PigLine", name := "count", desc := "(I)I" } : Jvm.MethodName)) ∈ LG := mg3 216 rfl rfl
theorem mC_X9_count : (Jvm.Cond.code ({ cls := "PigLine", name := "count", desc := "(I)I" } : Jvm.MethodName) prog_1_method_32_code (2 : Nat) (Option.some Jvm.ClassFile.FieldType.int)) ∈ LG := mg3 217 rfl rfl
theorem lkM_L_144 : (Jvm.Cond.methodLink "PigLineLaw" (144 : Nat) ({ cls := "PigLine", name := "digest", desc := "()J" } : Jvm.MethodName)) ∈ LG := mg3 218 rfl rfl
theorem mI_X9_digest : (Jvm.Cond.instanceMethod ({ cls := "PigLine", name := "digest", desc := "()J" } : Jvm.MethodName)) ∈ LG := mg3 219 rfl rfl
theorem mE_X9_digest : (Jvm.Cond.selects "PigLine" ({ cls := "PigLine", name := "digest", desc := "()J" } : Jvm.MethodName) ({ cls := "PigLine", name := "digest", desc := "()J" } : Jvm.MethodName)) ∈ LG := mg3 220 rfl rfl
theorem mC_X9_digest : (Jvm.Cond.code ({ cls := "PigLine", name := "digest", desc := "()J" } : Jvm.MethodName) prog_1_method_33_code (4 : Nat) (Option.some Jvm.ClassFile.FieldType.long)) ∈ LG := mg3 221 rfl rfl
theorem lkD_X9_264 : (Jvm.Cond.constantLong "PigLine" (264 : Nat) (17 : Int64)) ∈ LG := mg3 222 rfl rfl
theorem lkD_X9_266 : (Jvm.Cond.constantLong "PigLine" (266 : Nat) (31 : Int64)) ∈ LG := mg3 223 rfl rfl
theorem lkM_X9_268 : (Jvm.Cond.methodLink "PigLine" (268 : Nat) ({ cls := "PigLine", name := "count", desc := "(I)I" } : Jvm.MethodName)) ∈ LG := mg3 224 rfl rfl
theorem lkM_X9_271 : (Jvm.Cond.methodLink "PigLine" (271 : Nat) ({ cls := "PigLine", name := "digestOfRun", desc := "(JLPigLine$Run;)J" } : Jvm.MethodName)) ∈ LG := mg3 225 rfl rfl
theorem mI_X9_digestOfRun : (Jvm.Cond.instanceMethod ({ cls := "PigLine", name := "digestOfRun", desc := "(JLPigLine$Run;)J" } : Jvm.MethodName)) ∈ LG := mg3 227 rfl rfl
theorem mC_X9_digestOfRun : (Jvm.Cond.code ({ cls := "PigLine", name := "digestOfRun", desc := "(JLPigLine$Run;)J" } : Jvm.MethodName) prog_1_method_42_code (8 : Nat) (Option.some Jvm.ClassFile.FieldType.long)) ∈ LG := mg3 228 rfl rfl
theorem lkK_L_10 : (Jvm.Cond.classLink "PigLineLaw" (10 : Nat) "PigLineModel") ∈ LG := mg3 229 rfl rfl
theorem inst_X10 : (Jvm.Cond.instantiable "PigLineModel" (43 : Nat)) ∈ LG := mg3 230 rfl rfl
theorem lkM_L_12 : (Jvm.Cond.methodLink "PigLineLaw" (12 : Nat) ({ cls := "PigLineModel", name := "<init>", desc := "()V" } : Jvm.MethodName)) ∈ LG := mg3 231 rfl rfl
theorem mI_X10_init : (Jvm.Cond.instanceMethod ({ cls := "PigLineModel", name := "<init>", desc := "()V" } : Jvm.MethodName)) ∈ LG := mg3 232 rfl rfl
theorem mC_X10_init : (Jvm.Cond.code ({ cls := "PigLineModel", name := "<init>", desc := "()V" } : Jvm.MethodName) prog_12_method_1_code (1 : Nat) (Option.none : Option Jvm.ClassFile.FieldType)) ∈ LG := mg3 233 rfl rfl
theorem lkM_X10_1 : (Jvm.Cond.methodLink "PigLineModel" (1 : Nat) ({ cls := "java/lang/Object", name := "<init>", desc := "()V" } : Jvm.MethodName)) ∈ LG := mg3 234 rfl rfl
theorem lkF_X10_7 : (Jvm.Cond.fieldLink "PigLineModel" (7 : Nat) "PigLineModel" "isThere" "[Z") ∈ LG := mg3 235 rfl rfl
theorem lkF_X10_13 : (Jvm.Cond.fieldLink "PigLineModel" (13 : Nat) "PigLineModel" "forms" "[I") ∈ LG := mg3 236 rfl rfl
theorem lkF_X10_17 : (Jvm.Cond.fieldLink "PigLineModel" (17 : Nat) "PigLineModel" "sizes" "[I") ∈ LG := mg3 237 rfl rfl
theorem lkF_X10_20 : (Jvm.Cond.fieldLink "PigLineModel" (20 : Nat) "PigLineModel" "items" "[I") ∈ LG := mg3 238 rfl rfl
theorem lkF_X10_23 : (Jvm.Cond.fieldLink "PigLineModel" (23 : Nat) "PigLineModel" "moved" "[I") ∈ LG := mg3 239 rfl rfl
theorem lkF_X10_117 : (Jvm.Cond.fieldLink "PigLineModel" (117 : Nat) "PigLineModel" "finding" "I") ∈ LG := mg4 0 rfl rfl
theorem lkF_X10_137 : (Jvm.Cond.fieldLink "PigLineModel" (137 : Nat) "PigLineModel" "ticks" "I") ∈ LG := mg4 1 rfl rfl
theorem lkF_X10_140 : (Jvm.Cond.fieldLink "PigLineModel" (140 : Nat) "PigLineModel" "blinds" "I") ∈ LG := mg4 2 rfl rfl
theorem lkF_X10_26 : (Jvm.Cond.fieldLink "PigLineModel" (26 : Nat) "PigLineModel" "ways" "[I") ∈ LG := mg4 3 rfl rfl
theorem lkF_X10_143 : (Jvm.Cond.fieldLink "PigLineModel" (143 : Nat) "PigLineModel" "joints" "I") ∈ LG := mg4 4 rfl rfl
theorem lkF_X10_29 : (Jvm.Cond.fieldLink "PigLineModel" (29 : Nat) "PigLineModel" "begins" "[I") ∈ LG := mg4 5 rfl rfl
theorem lkF_X10_32 : (Jvm.Cond.fieldLink "PigLineModel" (32 : Nat) "PigLineModel" "lengths" "[I") ∈ LG := mg4 6 rfl rfl
theorem lkF_X10_161 : (Jvm.Cond.fieldLink "PigLineModel" (161 : Nat) "PigLineModel" "booked" "I") ∈ LG := mg4 7 rfl rfl
theorem lkF_X10_35 : (Jvm.Cond.fieldLink "PigLineModel" (35 : Nat) "PigLineModel" "book" "[I") ∈ LG := mg4 8 rfl rfl
theorem lkF_X10_38 : (Jvm.Cond.fieldLink "PigLineModel" (38 : Nat) "PigLineModel" "missed" "I") ∈ LG := mg4 9 rfl rfl
theorem lkF_X10_42 : (Jvm.Cond.fieldLink "PigLineModel" (42 : Nat) "PigLineModel" "extra" "I") ∈ LG := mg4 10 rfl rfl
theorem lkF_X10_45 : (Jvm.Cond.fieldLink "PigLineModel" (45 : Nat) "PigLineModel" "costs" "[I") ∈ LG := mg4 11 rfl rfl
theorem lkF_X10_48 : (Jvm.Cond.fieldLink "PigLineModel" (48 : Nat) "PigLineModel" "pairOf" "[I") ∈ LG := mg4 12 rfl rfl
theorem lkF_X10_51 : (Jvm.Cond.fieldLink "PigLineModel" (51 : Nat) "PigLineModel" "marks" "[I") ∈ LG := mg4 13 rfl rfl
theorem lkF_X10_54 : (Jvm.Cond.fieldLink "PigLineModel" (54 : Nat) "PigLineModel" "markWay" "[I") ∈ LG := mg4 14 rfl rfl
theorem lkF_X10_57 : (Jvm.Cond.fieldLink "PigLineModel" (57 : Nat) "PigLineModel" "markClock" "[I") ∈ LG := mg4 15 rfl rfl
theorem lkF_X10_60 : (Jvm.Cond.fieldLink "PigLineModel" (60 : Nat) "PigLineModel" "markDepth" "[I") ∈ LG := mg4 16 rfl rfl
theorem lkF_X10_63 : (Jvm.Cond.fieldLink "PigLineModel" (63 : Nat) "PigLineModel" "markLength" "[I") ∈ LG := mg4 17 rfl rfl
theorem lkF_X10_66 : (Jvm.Cond.fieldLink "PigLineModel" (66 : Nat) "PigLineModel" "gap" "I") ∈ LG := mg4 18 rfl rfl
theorem lkF_X10_69 : (Jvm.Cond.fieldLink "PigLineModel" (69 : Nat) "PigLineModel" "turn" "I") ∈ LG := mg4 19 rfl rfl
theorem lkF_X10_72 : (Jvm.Cond.fieldLink "PigLineModel" (72 : Nat) "PigLineModel" "groupOf" "[I") ∈ LG := mg4 20 rfl rfl
theorem lkF_X10_179 : (Jvm.Cond.fieldLink "PigLineModel" (179 : Nat) "PigLineModel" "groups" "I") ∈ LG := mg4 21 rfl rfl
theorem lkF_X10_75 : (Jvm.Cond.fieldLink "PigLineModel" (75 : Nat) "PigLineModel" "alone" "I") ∈ LG := mg4 22 rfl rfl
theorem lkF_X10_78 : (Jvm.Cond.fieldLink "PigLineModel" (78 : Nat) "PigLineModel" "inMany" "[I") ∈ LG := mg4 23 rfl rfl
theorem lkF_X10_81 : (Jvm.Cond.fieldLink "PigLineModel" (81 : Nat) "PigLineModel" "inMark" "[I") ∈ LG := mg4 24 rfl rfl
theorem lkF_X10_84 : (Jvm.Cond.fieldLink "PigLineModel" (84 : Nat) "PigLineModel" "inWay" "[I") ∈ LG := mg4 25 rfl rfl
theorem lkF_X10_87 : (Jvm.Cond.fieldLink "PigLineModel" (87 : Nat) "PigLineModel" "chosen" "[I") ∈ LG := mg4 26 rfl rfl
theorem lkF_X10_90 : (Jvm.Cond.fieldLink "PigLineModel" (90 : Nat) "PigLineModel" "bestChosen" "[I") ∈ LG := mg4 27 rfl rfl
theorem lkF_X10_93 : (Jvm.Cond.fieldLink "PigLineModel" (93 : Nat) "PigLineModel" "years" "I") ∈ LG := mg4 28 rfl rfl
theorem lkF_X10_96 : (Jvm.Cond.fieldLink "PigLineModel" (96 : Nat) "PigLineModel" "tool" "I") ∈ LG := mg4 29 rfl rfl
theorem lkF_X10_99 : (Jvm.Cond.fieldLink "PigLineModel" (99 : Nat) "PigLineModel" "limit" "I") ∈ LG := mg4 30 rfl rfl
theorem lkF_X10_218 : (Jvm.Cond.fieldLink "PigLineModel" (218 : Nat) "PigLineModel" "works" "I") ∈ LG := mg4 31 rfl rfl
theorem lkF_X10_102 : (Jvm.Cond.fieldLink "PigLineModel" (102 : Nat) "PigLineModel" "workCost" "[I") ∈ LG := mg4 32 rfl rfl
theorem lkF_X10_105 : (Jvm.Cond.fieldLink "PigLineModel" (105 : Nat) "PigLineModel" "workYear" "[I") ∈ LG := mg4 33 rfl rfl
theorem lkF_X10_108 : (Jvm.Cond.fieldLink "PigLineModel" (108 : Nat) "PigLineModel" "inYear" "I") ∈ LG := mg4 34 rfl rfl
theorem lkF_X10_111 : (Jvm.Cond.fieldLink "PigLineModel" (111 : Nat) "PigLineModel" "setting" "I") ∈ LG := mg4 35 rfl rfl
theorem lkF_X10_114 : (Jvm.Cond.fieldLink "PigLineModel" (114 : Nat) "PigLineModel" "isOpen" "[Z") ∈ LG := mg4 36 rfl rfl
theorem lkF_X10_230 : (Jvm.Cond.fieldLink "PigLineModel" (230 : Nat) "PigLineModel" "isPressed" "Z") ∈ LG := mg4 37 rfl rfl
theorem ac_Z : (Jvm.Cond.arrayClass Jvm.ClassFile.FieldType.boolean) ∈ LG := mg4 125 rfl rfl
theorem lkM_L_17 : (Jvm.Cond.methodLink "PigLineLaw" (17 : Nat) ({ cls := "PigLineModel", name := "reel", desc := "(III)I" } : Jvm.MethodName)) ∈ LG := mg4 126 rfl rfl
theorem mI_X10_reel : (Jvm.Cond.instanceMethod ({ cls := "PigLineModel", name := "reel", desc := "(III)I" } : Jvm.MethodName)) ∈ LG := mg4 127 rfl rfl
theorem mE_X10_reel : (Jvm.Cond.selects "PigLineModel" ({ cls := "PigLineModel", name := "reel", desc := "(III)I" } : Jvm.MethodName) ({ cls := "PigLineModel", name := "reel", desc := "(III)I" } : Jvm.MethodName)) ∈ LG := mg4 128 rfl rfl
theorem mC_X10_reel : (Jvm.Cond.code ({ cls := "PigLineModel", name := "reel", desc := "(III)I" } : Jvm.MethodName) prog_12_method_6_code (5 : Nat) (Option.some Jvm.ClassFile.FieldType.int)) ∈ LG := mg4 129 rfl rfl
theorem lkM_X10_124 : (Jvm.Cond.methodLink "PigLineModel" (124 : Nat) ({ cls := "PigLineModel", name := "isReel", desc := "(I)Z" } : Jvm.MethodName)) ∈ LG := mg4 130 rfl rfl
theorem mS_X10_isReel : (Jvm.Cond.static ({ cls := "PigLineModel", name := "isReel", desc := "(I)Z" } : Jvm.MethodName)) ∈ LG := mg4 131 rfl rfl
theorem mC_X10_isReel : (Jvm.Cond.code ({ cls := "PigLineModel", name := "isReel", desc := "(I)Z" } : Jvm.MethodName) prog_12_method_5_code (1 : Nat) (Option.some Jvm.ClassFile.FieldType.boolean)) ∈ LG := mg4 132 rfl rfl
theorem lkM_X10_120 : (Jvm.Cond.methodLink "PigLineModel" (120 : Nat) ({ cls := "PigLineModel", name := "in", desc := "(III)Z" } : Jvm.MethodName)) ∈ LG := mg4 133 rfl rfl
theorem mS_X10_in : (Jvm.Cond.static ({ cls := "PigLineModel", name := "in", desc := "(III)Z" } : Jvm.MethodName)) ∈ LG := mg4 134 rfl rfl
theorem mC_X10_in : (Jvm.Cond.code ({ cls := "PigLineModel", name := "in", desc := "(III)Z" } : Jvm.MethodName) prog_12_method_3_code (3 : Nat) (Option.some Jvm.ClassFile.FieldType.boolean)) ∈ LG := mg4 135 rfl rfl
theorem lkM_X10_128 : (Jvm.Cond.methodLink "PigLineModel" (128 : Nat) ({ cls := "PigLineModel", name := "meets", desc := "(I)I" } : Jvm.MethodName)) ∈ LG := mg4 136 rfl rfl
theorem mI_X10_meets : (Jvm.Cond.instanceMethod ({ cls := "PigLineModel", name := "meets", desc := "(I)I" } : Jvm.MethodName)) ∈ LG := mg4 138 rfl rfl
theorem mC_X10_meets : (Jvm.Cond.code ({ cls := "PigLineModel", name := "meets", desc := "(I)I" } : Jvm.MethodName) prog_12_method_4_code (2 : Nat) (Option.some Jvm.ClassFile.FieldType.int)) ∈ LG := mg4 139 rfl rfl
theorem lkM_L_22 : (Jvm.Cond.methodLink "PigLineLaw" (22 : Nat) ({ cls := "PigLineModel", name := "lose", desc := "(I)I" } : Jvm.MethodName)) ∈ LG := mg4 140 rfl rfl
theorem mI_X10_lose : (Jvm.Cond.instanceMethod ({ cls := "PigLineModel", name := "lose", desc := "(I)I" } : Jvm.MethodName)) ∈ LG := mg4 141 rfl rfl
theorem mE_X10_lose : (Jvm.Cond.selects "PigLineModel" ({ cls := "PigLineModel", name := "lose", desc := "(I)I" } : Jvm.MethodName) ({ cls := "PigLineModel", name := "lose", desc := "(I)I" } : Jvm.MethodName)) ∈ LG := mg4 142 rfl rfl
theorem mC_X10_lose : (Jvm.Cond.code ({ cls := "PigLineModel", name := "lose", desc := "(I)I" } : Jvm.MethodName) prog_12_method_7_code (2 : Nat) (Option.some Jvm.ClassFile.FieldType.int)) ∈ LG := mg4 143 rfl rfl
theorem lkM_L_27 : (Jvm.Cond.methodLink "PigLineLaw" (27 : Nat) ({ cls := "PigLineModel", name := "put", desc := "(IIII)I" } : Jvm.MethodName)) ∈ LG := mg4 144 rfl rfl
theorem mI_X10_put : (Jvm.Cond.instanceMethod ({ cls := "PigLineModel", name := "put", desc := "(IIII)I" } : Jvm.MethodName)) ∈ LG := mg4 145 rfl rfl
theorem mE_X10_put : (Jvm.Cond.selects "PigLineModel" ({ cls := "PigLineModel", name := "put", desc := "(IIII)I" } : Jvm.MethodName) ({ cls := "PigLineModel", name := "put", desc := "(IIII)I" } : Jvm.MethodName)) ∈ LG := mg4 146 rfl rfl
theorem mC_X10_put : (Jvm.Cond.code ({ cls := "PigLineModel", name := "put", desc := "(IIII)I" } : Jvm.MethodName) prog_12_method_9_code (6 : Nat) (Option.some Jvm.ClassFile.FieldType.int)) ∈ LG := mg4 147 rfl rfl
theorem lkM_X10_132 : (Jvm.Cond.methodLink "PigLineModel" (132 : Nat) ({ cls := "PigLineModel", name := "lacks", desc := "(III)I" } : Jvm.MethodName)) ∈ LG := mg4 148 rfl rfl
theorem mI_X10_lacks : (Jvm.Cond.instanceMethod ({ cls := "PigLineModel", name := "lacks", desc := "(III)I" } : Jvm.MethodName)) ∈ LG := mg4 150 rfl rfl
theorem mC_X10_lacks : (Jvm.Cond.code ({ cls := "PigLineModel", name := "lacks", desc := "(III)I" } : Jvm.MethodName) prog_12_method_8_code (4 : Nat) (Option.some Jvm.ClassFile.FieldType.int)) ∈ LG := mg4 151 rfl rfl
theorem lkM_L_31 : (Jvm.Cond.methodLink "PigLineLaw" (31 : Nat) ({ cls := "PigLineModel", name := "get", desc := "(III)I" } : Jvm.MethodName)) ∈ LG := mg4 152 rfl rfl
theorem mI_X10_get : (Jvm.Cond.instanceMethod ({ cls := "PigLineModel", name := "get", desc := "(III)I" } : Jvm.MethodName)) ∈ LG := mg4 153 rfl rfl
theorem mE_X10_get : (Jvm.Cond.selects "PigLineModel" ({ cls := "PigLineModel", name := "get", desc := "(III)I" } : Jvm.MethodName) ({ cls := "PigLineModel", name := "get", desc := "(III)I" } : Jvm.MethodName)) ∈ LG := mg4 154 rfl rfl
theorem mC_X10_get : (Jvm.Cond.code ({ cls := "PigLineModel", name := "get", desc := "(III)I" } : Jvm.MethodName) prog_12_method_10_code (5 : Nat) (Option.some Jvm.ClassFile.FieldType.int)) ∈ LG := mg4 155 rfl rfl
theorem lkC_X10_136 : (Jvm.Cond.constant "PigLineModel" (136 : Nat) (-2147483648 : Int32)) ∈ LG := mg4 156 rfl rfl
theorem lkM_L_36 : (Jvm.Cond.methodLink "PigLineLaw" (36 : Nat) ({ cls := "PigLineModel", name := "copy", desc := "(IIIII)I" } : Jvm.MethodName)) ∈ LG := mg4 157 rfl rfl
theorem mI_X10_copy : (Jvm.Cond.instanceMethod ({ cls := "PigLineModel", name := "copy", desc := "(IIIII)I" } : Jvm.MethodName)) ∈ LG := mg4 158 rfl rfl
theorem mE_X10_copy : (Jvm.Cond.selects "PigLineModel" ({ cls := "PigLineModel", name := "copy", desc := "(IIIII)I" } : Jvm.MethodName) ({ cls := "PigLineModel", name := "copy", desc := "(IIIII)I" } : Jvm.MethodName)) ∈ LG := mg4 159 rfl rfl
theorem mC_X10_copy : (Jvm.Cond.code ({ cls := "PigLineModel", name := "copy", desc := "(IIIII)I" } : Jvm.MethodName) prog_12_method_11_code (7 : Nat) (Option.some Jvm.ClassFile.FieldType.int)) ∈ LG := mg4 160 rfl rfl
theorem lkM_L_41 : (Jvm.Cond.methodLink "PigLineLaw" (41 : Nat) ({ cls := "PigLineModel", name := "run", desc := "(II)I" } : Jvm.MethodName)) ∈ LG := mg4 161 rfl rfl
theorem mI_X10_run : (Jvm.Cond.instanceMethod ({ cls := "PigLineModel", name := "run", desc := "(II)I" } : Jvm.MethodName)) ∈ LG := mg4 162 rfl rfl
theorem mE_X10_run : (Jvm.Cond.selects "PigLineModel" ({ cls := "PigLineModel", name := "run", desc := "(II)I" } : Jvm.MethodName) ({ cls := "PigLineModel", name := "run", desc := "(II)I" } : Jvm.MethodName)) ∈ LG := mg4 163 rfl rfl
theorem mC_X10_run : (Jvm.Cond.code ({ cls := "PigLineModel", name := "run", desc := "(II)I" } : Jvm.MethodName) prog_12_method_16_code (3 : Nat) (Option.some Jvm.ClassFile.FieldType.int)) ∈ LG := mg4 164 rfl rfl
theorem lkM_X10_153 : (Jvm.Cond.methodLink "PigLineModel" (153 : Nat) ({ cls := "PigLineModel", name := "isRun", desc := "(I)Z" } : Jvm.MethodName)) ∈ LG := mg4 165 rfl rfl
theorem mS_X10_isRun : (Jvm.Cond.static ({ cls := "PigLineModel", name := "isRun", desc := "(I)Z" } : Jvm.MethodName)) ∈ LG := mg4 166 rfl rfl
theorem mC_X10_isRun : (Jvm.Cond.code ({ cls := "PigLineModel", name := "isRun", desc := "(I)Z" } : Jvm.MethodName) prog_12_method_12_code (1 : Nat) (Option.some Jvm.ClassFile.FieldType.boolean)) ∈ LG := mg4 167 rfl rfl
theorem lkM_X10_156 : (Jvm.Cond.methodLink "PigLineModel" (156 : Nat) ({ cls := "PigLineModel", name := "goThrough", desc := "(I)V" } : Jvm.MethodName)) ∈ LG := mg4 168 rfl rfl
theorem mI_X10_goThrough : (Jvm.Cond.instanceMethod ({ cls := "PigLineModel", name := "goThrough", desc := "(I)V" } : Jvm.MethodName)) ∈ LG := mg4 170 rfl rfl
theorem mC_X10_goThrough : (Jvm.Cond.code ({ cls := "PigLineModel", name := "goThrough", desc := "(I)V" } : Jvm.MethodName) prog_12_method_15_code (9 : Nat) (Option.none : Option Jvm.ClassFile.FieldType)) ∈ LG := mg4 171 rfl rfl
theorem lkM_X10_146 : (Jvm.Cond.methodLink "PigLineModel" (146 : Nat) ({ cls := "PigLineModel", name := "reading", desc := "(II)I" } : Jvm.MethodName)) ∈ LG := mg4 172 rfl rfl
theorem mI_X10_reading : (Jvm.Cond.instanceMethod ({ cls := "PigLineModel", name := "reading", desc := "(II)I" } : Jvm.MethodName)) ∈ LG := mg4 174 rfl rfl
theorem mC_X10_reading : (Jvm.Cond.code ({ cls := "PigLineModel", name := "reading", desc := "(II)I" } : Jvm.MethodName) prog_12_method_13_code (4 : Nat) (Option.some Jvm.ClassFile.FieldType.int)) ∈ LG := mg4 175 rfl rfl
theorem lkM_X10_150 : (Jvm.Cond.methodLink "PigLineModel" (150 : Nat) ({ cls := "PigLineModel", name := "middle", desc := "(III)I" } : Jvm.MethodName)) ∈ LG := mg4 176 rfl rfl
theorem mS_X10_middle : (Jvm.Cond.static ({ cls := "PigLineModel", name := "middle", desc := "(III)I" } : Jvm.MethodName)) ∈ LG := mg4 177 rfl rfl
theorem mC_X10_middle : (Jvm.Cond.code ({ cls := "PigLineModel", name := "middle", desc := "(III)I" } : Jvm.MethodName) prog_12_method_14_code (5 : Nat) (Option.some Jvm.ClassFile.FieldType.int)) ∈ LG := mg4 178 rfl rfl
theorem lkM_L_45 : (Jvm.Cond.methodLink "PigLineLaw" (45 : Nat) ({ cls := "PigLineModel", name := "way", desc := "(II)I" } : Jvm.MethodName)) ∈ LG := mg4 179 rfl rfl
theorem mI_X10_way : (Jvm.Cond.instanceMethod ({ cls := "PigLineModel", name := "way", desc := "(II)I" } : Jvm.MethodName)) ∈ LG := mg4 180 rfl rfl
theorem mE_X10_way : (Jvm.Cond.selects "PigLineModel" ({ cls := "PigLineModel", name := "way", desc := "(II)I" } : Jvm.MethodName) ({ cls := "PigLineModel", name := "way", desc := "(II)I" } : Jvm.MethodName)) ∈ LG := mg4 181 rfl rfl
theorem mC_X10_way : (Jvm.Cond.code ({ cls := "PigLineModel", name := "way", desc := "(II)I" } : Jvm.MethodName) prog_12_method_17_code (3 : Nat) (Option.some Jvm.ClassFile.FieldType.int)) ∈ LG := mg4 182 rfl rfl
theorem lkM_L_49 : (Jvm.Cond.methodLink "PigLineLaw" (49 : Nat) ({ cls := "PigLineModel", name := "felt", desc := "(III)I" } : Jvm.MethodName)) ∈ LG := mg4 183 rfl rfl
theorem mI_X10_felt : (Jvm.Cond.instanceMethod ({ cls := "PigLineModel", name := "felt", desc := "(III)I" } : Jvm.MethodName)) ∈ LG := mg4 184 rfl rfl
theorem mE_X10_felt : (Jvm.Cond.selects "PigLineModel" ({ cls := "PigLineModel", name := "felt", desc := "(III)I" } : Jvm.MethodName) ({ cls := "PigLineModel", name := "felt", desc := "(III)I" } : Jvm.MethodName)) ∈ LG := mg4 185 rfl rfl
theorem mC_X10_felt : (Jvm.Cond.code ({ cls := "PigLineModel", name := "felt", desc := "(III)I" } : Jvm.MethodName) prog_12_method_18_code (4 : Nat) (Option.some Jvm.ClassFile.FieldType.int)) ∈ LG := mg4 186 rfl rfl
theorem lkM_L_53 : (Jvm.Cond.methodLink "PigLineLaw" (53 : Nat) ({ cls := "PigLineModel", name := "joint", desc := "(I)I" } : Jvm.MethodName)) ∈ LG := mg4 187 rfl rfl
theorem mI_X10_joint : (Jvm.Cond.instanceMethod ({ cls := "PigLineModel", name := "joint", desc := "(I)I" } : Jvm.MethodName)) ∈ LG := mg4 188 rfl rfl
theorem mE_X10_joint : (Jvm.Cond.selects "PigLineModel" ({ cls := "PigLineModel", name := "joint", desc := "(I)I" } : Jvm.MethodName) ({ cls := "PigLineModel", name := "joint", desc := "(I)I" } : Jvm.MethodName)) ∈ LG := mg4 189 rfl rfl
theorem mC_X10_joint : (Jvm.Cond.code ({ cls := "PigLineModel", name := "joint", desc := "(I)I" } : Jvm.MethodName) prog_12_method_19_code (2 : Nat) (Option.some Jvm.ClassFile.FieldType.int)) ∈ LG := mg4 190 rfl rfl
theorem lkC_X10_160 : (Jvm.Cond.constant "PigLineModel" (160 : Nat) (100000 : Int32)) ∈ LG := mg4 191 rfl rfl
theorem lkM_L_58 : (Jvm.Cond.methodLink "PigLineLaw" (58 : Nat) ({ cls := "PigLineModel", name := "wipe", desc := "()I" } : Jvm.MethodName)) ∈ LG := mg4 192 rfl rfl
theorem mI_X10_wipe : (Jvm.Cond.instanceMethod ({ cls := "PigLineModel", name := "wipe", desc := "()I" } : Jvm.MethodName)) ∈ LG := mg4 193 rfl rfl
theorem mE_X10_wipe : (Jvm.Cond.selects "PigLineModel" ({ cls := "PigLineModel", name := "wipe", desc := "()I" } : Jvm.MethodName) ({ cls := "PigLineModel", name := "wipe", desc := "()I" } : Jvm.MethodName)) ∈ LG := mg4 194 rfl rfl
theorem mC_X10_wipe : (Jvm.Cond.code ({ cls := "PigLineModel", name := "wipe", desc := "()I" } : Jvm.MethodName) prog_12_method_20_code (2 : Nat) (Option.some Jvm.ClassFile.FieldType.int)) ∈ LG := mg4 195 rfl rfl
theorem lkM_L_62 : (Jvm.Cond.methodLink "PigLineLaw" (62 : Nat) ({ cls := "PigLineModel", name := "costs", desc := "(II)I" } : Jvm.MethodName)) ∈ LG := mg4 196 rfl rfl
theorem mI_X10_costs : (Jvm.Cond.instanceMethod ({ cls := "PigLineModel", name := "costs", desc := "(II)I" } : Jvm.MethodName)) ∈ LG := mg4 197 rfl rfl
theorem mE_X10_costs : (Jvm.Cond.selects "PigLineModel" ({ cls := "PigLineModel", name := "costs", desc := "(II)I" } : Jvm.MethodName) ({ cls := "PigLineModel", name := "costs", desc := "(II)I" } : Jvm.MethodName)) ∈ LG := mg4 198 rfl rfl
theorem mC_X10_costs : (Jvm.Cond.code ({ cls := "PigLineModel", name := "costs", desc := "(II)I" } : Jvm.MethodName) prog_12_method_21_code (3 : Nat) (Option.some Jvm.ClassFile.FieldType.int)) ∈ LG := mg4 199 rfl rfl
theorem lkC_X10_164 : (Jvm.Cond.constant "PigLineModel" (164 : Nat) (1000000 : Int32)) ∈ LG := mg4 200 rfl rfl
theorem lkM_L_66 : (Jvm.Cond.methodLink "PigLineLaw" (66 : Nat) ({ cls := "PigLineModel", name := "match", desc := "(I)I" } : Jvm.MethodName)) ∈ LG := mg4 201 rfl rfl
theorem mI_X10_match : (Jvm.Cond.instanceMethod ({ cls := "PigLineModel", name := "match", desc := "(I)I" } : Jvm.MethodName)) ∈ LG := mg4 202 rfl rfl
theorem mE_X10_match : (Jvm.Cond.selects "PigLineModel" ({ cls := "PigLineModel", name := "match", desc := "(I)I" } : Jvm.MethodName) ({ cls := "PigLineModel", name := "match", desc := "(I)I" } : Jvm.MethodName)) ∈ LG := mg4 203 rfl rfl
theorem mC_X10_match : (Jvm.Cond.code ({ cls := "PigLineModel", name := "match", desc := "(I)I" } : Jvm.MethodName) prog_12_method_25_code (2 : Nat) (Option.some Jvm.ClassFile.FieldType.int)) ∈ LG := mg4 204 rfl rfl
theorem lkM_X10_172 : (Jvm.Cond.methodLink "PigLineModel" (172 : Nat) ({ cls := "PigLineModel", name := "matches", desc := "(I)V" } : Jvm.MethodName)) ∈ LG := mg4 205 rfl rfl
theorem mI_X10_matches : (Jvm.Cond.instanceMethod ({ cls := "PigLineModel", name := "matches", desc := "(I)V" } : Jvm.MethodName)) ∈ LG := mg4 207 rfl rfl
theorem mC_X10_matches : (Jvm.Cond.code ({ cls := "PigLineModel", name := "matches", desc := "(I)V" } : Jvm.MethodName) prog_12_method_24_code (5 : Nat) (Option.none : Option Jvm.ClassFile.FieldType)) ∈ LG := mg4 208 rfl rfl
theorem lkC_X10_168 : (Jvm.Cond.constant "PigLineModel" (168 : Nat) (2000000000 : Int32)) ∈ LG := mg4 209 rfl rfl
theorem lkM_X10_169 : (Jvm.Cond.methodLink "PigLineModel" (169 : Nat) ({ cls := "PigLineModel", name := "pairCost", desc := "(II)I" } : Jvm.MethodName)) ∈ LG := mg4 210 rfl rfl
theorem mI_X10_pairCost : (Jvm.Cond.instanceMethod ({ cls := "PigLineModel", name := "pairCost", desc := "(II)I" } : Jvm.MethodName)) ∈ LG := mg4 212 rfl rfl
theorem mC_X10_pairCost : (Jvm.Cond.code ({ cls := "PigLineModel", name := "pairCost", desc := "(II)I" } : Jvm.MethodName) prog_12_method_23_code (3 : Nat) (Option.some Jvm.ClassFile.FieldType.int)) ∈ LG := mg4 213 rfl rfl
theorem lkM_X10_165 : (Jvm.Cond.methodLink "PigLineModel" (165 : Nat) ({ cls := "PigLineModel", name := "apart", desc := "(II)I" } : Jvm.MethodName)) ∈ LG := mg4 214 rfl rfl
theorem mS_X10_apart : (Jvm.Cond.static ({ cls := "PigLineModel", name := "apart", desc := "(II)I" } : Jvm.MethodName)) ∈ LG := mg4 215 rfl rfl
theorem mC_X10_apart : (Jvm.Cond.code ({ cls := "PigLineModel", name := "apart", desc := "(II)I" } : Jvm.MethodName) prog_12_method_22_code (2 : Nat) (Option.some Jvm.ClassFile.FieldType.int)) ∈ LG := mg4 216 rfl rfl
theorem lkM_L_70 : (Jvm.Cond.methodLink "PigLineLaw" (70 : Nat) ({ cls := "PigLineModel", name := "paired", desc := "(II)I" } : Jvm.MethodName)) ∈ LG := mg4 217 rfl rfl
theorem mI_X10_paired : (Jvm.Cond.instanceMethod ({ cls := "PigLineModel", name := "paired", desc := "(II)I" } : Jvm.MethodName)) ∈ LG := mg4 218 rfl rfl
theorem mE_X10_paired : (Jvm.Cond.selects "PigLineModel" ({ cls := "PigLineModel", name := "paired", desc := "(II)I" } : Jvm.MethodName) ({ cls := "PigLineModel", name := "paired", desc := "(II)I" } : Jvm.MethodName)) ∈ LG := mg4 219 rfl rfl
theorem mC_X10_paired : (Jvm.Cond.code ({ cls := "PigLineModel", name := "paired", desc := "(II)I" } : Jvm.MethodName) prog_12_method_26_code (3 : Nat) (Option.some Jvm.ClassFile.FieldType.int)) ∈ LG := mg4 220 rfl rfl
theorem lkM_L_74 : (Jvm.Cond.methodLink "PigLineLaw" (74 : Nat) ({ cls := "PigLineModel", name := "mark", desc := "(IIIII)I" } : Jvm.MethodName)) ∈ LG := mg4 221 rfl rfl
theorem mI_X10_mark : (Jvm.Cond.instanceMethod ({ cls := "PigLineModel", name := "mark", desc := "(IIIII)I" } : Jvm.MethodName)) ∈ LG := mg4 222 rfl rfl
theorem mE_X10_mark : (Jvm.Cond.selects "PigLineModel" ({ cls := "PigLineModel", name := "mark", desc := "(IIIII)I" } : Jvm.MethodName) ({ cls := "PigLineModel", name := "mark", desc := "(IIIII)I" } : Jvm.MethodName)) ∈ LG := mg4 223 rfl rfl
theorem mC_X10_mark : (Jvm.Cond.code ({ cls := "PigLineModel", name := "mark", desc := "(IIIII)I" } : Jvm.MethodName) prog_12_method_28_code (7 : Nat) (Option.some Jvm.ClassFile.FieldType.int)) ∈ LG := mg4 224 rfl rfl
theorem lkC_X10_175 : (Jvm.Cond.constant "PigLineModel" (175 : Nat) (4000000 : Int32)) ∈ LG := mg4 225 rfl rfl
theorem lkM_L_78 : (Jvm.Cond.methodLink "PigLineLaw" (78 : Nat) ({ cls := "PigLineModel", name := "clear", desc := "(I)I" } : Jvm.MethodName)) ∈ LG := mg4 226 rfl rfl
theorem mI_X10_clear : (Jvm.Cond.instanceMethod ({ cls := "PigLineModel", name := "clear", desc := "(I)I" } : Jvm.MethodName)) ∈ LG := mg4 227 rfl rfl
theorem mE_X10_clear : (Jvm.Cond.selects "PigLineModel" ({ cls := "PigLineModel", name := "clear", desc := "(I)I" } : Jvm.MethodName) ({ cls := "PigLineModel", name := "clear", desc := "(I)I" } : Jvm.MethodName)) ∈ LG := mg4 228 rfl rfl
theorem mC_X10_clear : (Jvm.Cond.code ({ cls := "PigLineModel", name := "clear", desc := "(I)I" } : Jvm.MethodName) prog_12_method_29_code (3 : Nat) (Option.some Jvm.ClassFile.FieldType.int)) ∈ LG := mg4 229 rfl rfl
theorem lkM_L_82 : (Jvm.Cond.methodLink "PigLineLaw" (82 : Nat) ({ cls := "PigLineModel", name := "about", desc := "(III)I" } : Jvm.MethodName)) ∈ LG := mg4 230 rfl rfl
theorem mI_X10_about : (Jvm.Cond.instanceMethod ({ cls := "PigLineModel", name := "about", desc := "(III)I" } : Jvm.MethodName)) ∈ LG := mg4 231 rfl rfl
theorem mE_X10_about : (Jvm.Cond.selects "PigLineModel" ({ cls := "PigLineModel", name := "about", desc := "(III)I" } : Jvm.MethodName) ({ cls := "PigLineModel", name := "about", desc := "(III)I" } : Jvm.MethodName)) ∈ LG := mg4 232 rfl rfl
theorem mC_X10_about : (Jvm.Cond.code ({ cls := "PigLineModel", name := "about", desc := "(III)I" } : Jvm.MethodName) prog_12_method_34_code (5 : Nat) (Option.some Jvm.ClassFile.FieldType.int)) ∈ LG := mg4 233 rfl rfl
theorem lkM_X10_186 : (Jvm.Cond.methodLink "PigLineModel" (186 : Nat) ({ cls := "PigLineModel", name := "isMark", desc := "(II)Z" } : Jvm.MethodName)) ∈ LG := mg4 234 rfl rfl
theorem mI_X10_isMark : (Jvm.Cond.instanceMethod ({ cls := "PigLineModel", name := "isMark", desc := "(II)Z" } : Jvm.MethodName)) ∈ LG := mg4 236 rfl rfl
theorem mC_X10_isMark : (Jvm.Cond.code ({ cls := "PigLineModel", name := "isMark", desc := "(II)Z" } : Jvm.MethodName) prog_12_method_27_code (3 : Nat) (Option.some Jvm.ClassFile.FieldType.boolean)) ∈ LG := mg4 237 rfl rfl
theorem lkM_X10_189 : (Jvm.Cond.methodLink "PigLineModel" (189 : Nat) ({ cls := "PigLineModel", name := "jointAt", desc := "(I)I" } : Jvm.MethodName)) ∈ LG := mg4 238 rfl rfl
theorem mI_X10_jointAt : (Jvm.Cond.instanceMethod ({ cls := "PigLineModel", name := "jointAt", desc := "(I)I" } : Jvm.MethodName)) ∈ LG := mg5 0 rfl rfl
theorem mC_X10_jointAt : (Jvm.Cond.code ({ cls := "PigLineModel", name := "jointAt", desc := "(I)I" } : Jvm.MethodName) prog_12_method_30_code (3 : Nat) (Option.some Jvm.ClassFile.FieldType.int)) ∈ LG := mg5 1 rfl rfl
theorem lkM_X10_192 : (Jvm.Cond.methodLink "PigLineModel" (192 : Nat) ({ cls := "PigLineModel", name := "joinMarks", desc := "(I)V" } : Jvm.MethodName)) ∈ LG := mg5 2 rfl rfl
theorem mI_X10_joinMarks : (Jvm.Cond.instanceMethod ({ cls := "PigLineModel", name := "joinMarks", desc := "(I)V" } : Jvm.MethodName)) ∈ LG := mg5 4 rfl rfl
theorem mC_X10_joinMarks : (Jvm.Cond.code ({ cls := "PigLineModel", name := "joinMarks", desc := "(I)V" } : Jvm.MethodName) prog_12_method_33_code (6 : Nat) (Option.none : Option Jvm.ClassFile.FieldType)) ∈ LG := mg5 5 rfl rfl
theorem lkM_X10_182 : (Jvm.Cond.methodLink "PigLineModel" (182 : Nat) ({ cls := "PigLineModel", name := "areNear", desc := "(II)Z" } : Jvm.MethodName)) ∈ LG := mg5 6 rfl rfl
theorem mI_X10_areNear : (Jvm.Cond.instanceMethod ({ cls := "PigLineModel", name := "areNear", desc := "(II)Z" } : Jvm.MethodName)) ∈ LG := mg5 8 rfl rfl
theorem mC_X10_areNear : (Jvm.Cond.code ({ cls := "PigLineModel", name := "areNear", desc := "(II)Z" } : Jvm.MethodName) prog_12_method_32_code (6 : Nat) (Option.some Jvm.ClassFile.FieldType.boolean)) ∈ LG := mg5 9 rfl rfl
theorem lkM_X10_176 : (Jvm.Cond.methodLink "PigLineModel" (176 : Nat) ({ cls := "PigLineModel", name := "hours", desc := "(II)I" } : Jvm.MethodName)) ∈ LG := mg5 10 rfl rfl
theorem mS_X10_hours : (Jvm.Cond.static ({ cls := "PigLineModel", name := "hours", desc := "(II)I" } : Jvm.MethodName)) ∈ LG := mg5 11 rfl rfl
theorem mC_X10_hours : (Jvm.Cond.code ({ cls := "PigLineModel", name := "hours", desc := "(II)I" } : Jvm.MethodName) prog_12_method_31_code (3 : Nat) (Option.some Jvm.ClassFile.FieldType.int)) ∈ LG := mg5 12 rfl rfl
theorem lkM_L_86 : (Jvm.Cond.methodLink "PigLineLaw" (86 : Nat) ({ cls := "PigLineModel", name := "near", desc := "(II)I" } : Jvm.MethodName)) ∈ LG := mg5 13 rfl rfl
theorem mI_X10_near : (Jvm.Cond.instanceMethod ({ cls := "PigLineModel", name := "near", desc := "(II)I" } : Jvm.MethodName)) ∈ LG := mg5 14 rfl rfl
theorem mE_X10_near : (Jvm.Cond.selects "PigLineModel" ({ cls := "PigLineModel", name := "near", desc := "(II)I" } : Jvm.MethodName) ({ cls := "PigLineModel", name := "near", desc := "(II)I" } : Jvm.MethodName)) ∈ LG := mg5 15 rfl rfl
theorem mC_X10_near : (Jvm.Cond.code ({ cls := "PigLineModel", name := "near", desc := "(II)I" } : Jvm.MethodName) prog_12_method_35_code (3 : Nat) (Option.some Jvm.ClassFile.FieldType.int)) ∈ LG := mg5 16 rfl rfl
theorem lkM_L_90 : (Jvm.Cond.methodLink "PigLineLaw" (90 : Nat) ({ cls := "PigLineModel", name := "groups", desc := "(I)I" } : Jvm.MethodName)) ∈ LG := mg5 17 rfl rfl
theorem mI_X10_groups : (Jvm.Cond.instanceMethod ({ cls := "PigLineModel", name := "groups", desc := "(I)I" } : Jvm.MethodName)) ∈ LG := mg5 18 rfl rfl
theorem mE_X10_groups : (Jvm.Cond.selects "PigLineModel" ({ cls := "PigLineModel", name := "groups", desc := "(I)I" } : Jvm.MethodName) ({ cls := "PigLineModel", name := "groups", desc := "(I)I" } : Jvm.MethodName)) ∈ LG := mg5 19 rfl rfl
theorem mC_X10_groups : (Jvm.Cond.code ({ cls := "PigLineModel", name := "groups", desc := "(I)I" } : Jvm.MethodName) prog_12_method_36_code (2 : Nat) (Option.some Jvm.ClassFile.FieldType.int)) ∈ LG := mg5 20 rfl rfl
theorem lkM_L_94 : (Jvm.Cond.methodLink "PigLineLaw" (94 : Nat) ({ cls := "PigLineModel", name := "group", desc := "(III)I" } : Jvm.MethodName)) ∈ LG := mg5 21 rfl rfl
theorem mI_X10_group : (Jvm.Cond.instanceMethod ({ cls := "PigLineModel", name := "group", desc := "(III)I" } : Jvm.MethodName)) ∈ LG := mg5 22 rfl rfl
theorem mE_X10_group : (Jvm.Cond.selects "PigLineModel" ({ cls := "PigLineModel", name := "group", desc := "(III)I" } : Jvm.MethodName) ({ cls := "PigLineModel", name := "group", desc := "(III)I" } : Jvm.MethodName)) ∈ LG := mg5 23 rfl rfl
theorem mC_X10_group : (Jvm.Cond.code ({ cls := "PigLineModel", name := "group", desc := "(III)I" } : Jvm.MethodName) prog_12_method_37_code (12 : Nat) (Option.some Jvm.ClassFile.FieldType.int)) ∈ LG := mg5 24 rfl rfl
theorem lkM_L_98 : (Jvm.Cond.methodLink "PigLineLaw" (98 : Nat) ({ cls := "PigLineModel", name := "alone", desc := "(I)I" } : Jvm.MethodName)) ∈ LG := mg5 25 rfl rfl
theorem mI_X10_alone : (Jvm.Cond.instanceMethod ({ cls := "PigLineModel", name := "alone", desc := "(I)I" } : Jvm.MethodName)) ∈ LG := mg5 26 rfl rfl
theorem mE_X10_alone : (Jvm.Cond.selects "PigLineModel" ({ cls := "PigLineModel", name := "alone", desc := "(I)I" } : Jvm.MethodName) ({ cls := "PigLineModel", name := "alone", desc := "(I)I" } : Jvm.MethodName)) ∈ LG := mg5 27 rfl rfl
theorem mC_X10_alone : (Jvm.Cond.code ({ cls := "PigLineModel", name := "alone", desc := "(I)I" } : Jvm.MethodName) prog_12_method_38_code (3 : Nat) (Option.some Jvm.ClassFile.FieldType.int)) ∈ LG := mg5 28 rfl rfl
theorem lkM_L_102 : (Jvm.Cond.methodLink "PigLineLaw" (102 : Nat) ({ cls := "PigLineModel", name := "pairing", desc := "(I)I" } : Jvm.MethodName)) ∈ LG := mg5 29 rfl rfl
theorem mI_X10_pairing : (Jvm.Cond.instanceMethod ({ cls := "PigLineModel", name := "pairing", desc := "(I)I" } : Jvm.MethodName)) ∈ LG := mg5 30 rfl rfl
theorem mE_X10_pairing : (Jvm.Cond.selects "PigLineModel" ({ cls := "PigLineModel", name := "pairing", desc := "(I)I" } : Jvm.MethodName) ({ cls := "PigLineModel", name := "pairing", desc := "(I)I" } : Jvm.MethodName)) ∈ LG := mg5 31 rfl rfl
theorem mC_X10_pairing : (Jvm.Cond.code ({ cls := "PigLineModel", name := "pairing", desc := "(I)I" } : Jvm.MethodName) prog_12_method_43_code (2 : Nat) (Option.some Jvm.ClassFile.FieldType.int)) ∈ LG := mg5 32 rfl rfl
theorem lkM_X10_206 : (Jvm.Cond.methodLink "PigLineModel" (206 : Nat) ({ cls := "PigLineModel", name := "pairs", desc := "(I)I" } : Jvm.MethodName)) ∈ LG := mg5 33 rfl rfl
theorem mI_X10_pairs : (Jvm.Cond.instanceMethod ({ cls := "PigLineModel", name := "pairs", desc := "(I)I" } : Jvm.MethodName)) ∈ LG := mg5 35 rfl rfl
theorem mC_X10_pairs : (Jvm.Cond.code ({ cls := "PigLineModel", name := "pairs", desc := "(I)I" } : Jvm.MethodName) prog_12_method_42_code (6 : Nat) (Option.some Jvm.ClassFile.FieldType.int)) ∈ LG := mg5 36 rfl rfl
theorem lkM_X10_195 : (Jvm.Cond.methodLink "PigLineModel" (195 : Nat) ({ cls := "PigLineModel", name := "gather", desc := "(I)V" } : Jvm.MethodName)) ∈ LG := mg5 37 rfl rfl
theorem mI_X10_gather : (Jvm.Cond.instanceMethod ({ cls := "PigLineModel", name := "gather", desc := "(I)V" } : Jvm.MethodName)) ∈ LG := mg5 39 rfl rfl
theorem mC_X10_gather : (Jvm.Cond.code ({ cls := "PigLineModel", name := "gather", desc := "(I)V" } : Jvm.MethodName) prog_12_method_39_code (6 : Nat) (Option.none : Option Jvm.ClassFile.FieldType)) ∈ LG := mg5 40 rfl rfl
theorem lkM_X10_198 : (Jvm.Cond.methodLink "PigLineModel" (198 : Nat) ({ cls := "PigLineModel", name := "choiceCost", desc := "()I" } : Jvm.MethodName)) ∈ LG := mg5 41 rfl rfl
theorem mI_X10_choiceCost : (Jvm.Cond.instanceMethod ({ cls := "PigLineModel", name := "choiceCost", desc := "()I" } : Jvm.MethodName)) ∈ LG := mg5 43 rfl rfl
theorem mC_X10_choiceCost : (Jvm.Cond.code ({ cls := "PigLineModel", name := "choiceCost", desc := "()I" } : Jvm.MethodName) prog_12_method_40_code (5 : Nat) (Option.some Jvm.ClassFile.FieldType.int)) ∈ LG := mg5 44 rfl rfl
theorem lkM_X10_202 : (Jvm.Cond.methodLink "PigLineModel" (202 : Nat) ({ cls := "PigLineModel", name := "choosesOn", desc := "()Z" } : Jvm.MethodName)) ∈ LG := mg5 45 rfl rfl
theorem mI_X10_choosesOn : (Jvm.Cond.instanceMethod ({ cls := "PigLineModel", name := "choosesOn", desc := "()Z" } : Jvm.MethodName)) ∈ LG := mg5 47 rfl rfl
theorem mC_X10_choosesOn : (Jvm.Cond.code ({ cls := "PigLineModel", name := "choosesOn", desc := "()Z" } : Jvm.MethodName) prog_12_method_41_code (2 : Nat) (Option.some Jvm.ClassFile.FieldType.boolean)) ∈ LG := mg5 48 rfl rfl
theorem lkM_L_106 : (Jvm.Cond.methodLink "PigLineLaw" (106 : Nat) ({ cls := "PigLineModel", name := "twin", desc := "(I)I" } : Jvm.MethodName)) ∈ LG := mg5 49 rfl rfl
theorem mI_X10_twin : (Jvm.Cond.instanceMethod ({ cls := "PigLineModel", name := "twin", desc := "(I)I" } : Jvm.MethodName)) ∈ LG := mg5 50 rfl rfl
theorem mE_X10_twin : (Jvm.Cond.selects "PigLineModel" ({ cls := "PigLineModel", name := "twin", desc := "(I)I" } : Jvm.MethodName) ({ cls := "PigLineModel", name := "twin", desc := "(I)I" } : Jvm.MethodName)) ∈ LG := mg5 51 rfl rfl
theorem mC_X10_twin : (Jvm.Cond.code ({ cls := "PigLineModel", name := "twin", desc := "(I)I" } : Jvm.MethodName) prog_12_method_45_code (2 : Nat) (Option.some Jvm.ClassFile.FieldType.int)) ∈ LG := mg5 52 rfl rfl
theorem lkM_X10_209 : (Jvm.Cond.methodLink "PigLineModel" (209 : Nat) ({ cls := "PigLineModel", name := "twinOf", desc := "(I)I" } : Jvm.MethodName)) ∈ LG := mg5 53 rfl rfl
theorem mI_X10_twinOf : (Jvm.Cond.instanceMethod ({ cls := "PigLineModel", name := "twinOf", desc := "(I)I" } : Jvm.MethodName)) ∈ LG := mg5 55 rfl rfl
theorem mC_X10_twinOf : (Jvm.Cond.code ({ cls := "PigLineModel", name := "twinOf", desc := "(I)I" } : Jvm.MethodName) prog_12_method_44_code (6 : Nat) (Option.some Jvm.ClassFile.FieldType.int)) ∈ LG := mg5 56 rfl rfl
theorem lkM_L_110 : (Jvm.Cond.methodLink "PigLineLaw" (110 : Nat) ({ cls := "PigLineModel", name := "tool", desc := "(III)I" } : Jvm.MethodName)) ∈ LG := mg5 57 rfl rfl
theorem mI_X10_tool : (Jvm.Cond.instanceMethod ({ cls := "PigLineModel", name := "tool", desc := "(III)I" } : Jvm.MethodName)) ∈ LG := mg5 58 rfl rfl
theorem mE_X10_tool : (Jvm.Cond.selects "PigLineModel" ({ cls := "PigLineModel", name := "tool", desc := "(III)I" } : Jvm.MethodName) ({ cls := "PigLineModel", name := "tool", desc := "(III)I" } : Jvm.MethodName)) ∈ LG := mg5 59 rfl rfl
theorem mC_X10_tool : (Jvm.Cond.code ({ cls := "PigLineModel", name := "tool", desc := "(III)I" } : Jvm.MethodName) prog_12_method_46_code (4 : Nat) (Option.some Jvm.ClassFile.FieldType.int)) ∈ LG := mg5 60 rfl rfl
theorem lkM_L_114 : (Jvm.Cond.methodLink "PigLineLaw" (114 : Nat) ({ cls := "PigLineModel", name := "growth", desc := "(II)I" } : Jvm.MethodName)) ∈ LG := mg5 61 rfl rfl
theorem mI_X10_growth : (Jvm.Cond.instanceMethod ({ cls := "PigLineModel", name := "growth", desc := "(II)I" } : Jvm.MethodName)) ∈ LG := mg5 62 rfl rfl
theorem mE_X10_growth : (Jvm.Cond.selects "PigLineModel" ({ cls := "PigLineModel", name := "growth", desc := "(II)I" } : Jvm.MethodName) ({ cls := "PigLineModel", name := "growth", desc := "(II)I" } : Jvm.MethodName)) ∈ LG := mg5 63 rfl rfl
theorem mC_X10_growth : (Jvm.Cond.code ({ cls := "PigLineModel", name := "growth", desc := "(II)I" } : Jvm.MethodName) prog_12_method_49_code (10 : Nat) (Option.some Jvm.ClassFile.FieldType.int)) ∈ LG := mg5 64 rfl rfl
theorem lkM_X10_212 : (Jvm.Cond.methodLink "PigLineModel" (212 : Nat) ({ cls := "PigLineModel", name := "lowOf", desc := "(I)I" } : Jvm.MethodName)) ∈ LG := mg5 65 rfl rfl
theorem mI_X10_lowOf : (Jvm.Cond.instanceMethod ({ cls := "PigLineModel", name := "lowOf", desc := "(I)I" } : Jvm.MethodName)) ∈ LG := mg5 67 rfl rfl
theorem mC_X10_lowOf : (Jvm.Cond.code ({ cls := "PigLineModel", name := "lowOf", desc := "(I)I" } : Jvm.MethodName) prog_12_method_47_code (2 : Nat) (Option.some Jvm.ClassFile.FieldType.int)) ∈ LG := mg5 68 rfl rfl
theorem lkM_X10_215 : (Jvm.Cond.methodLink "PigLineModel" (215 : Nat) ({ cls := "PigLineModel", name := "highOf", desc := "(I)I" } : Jvm.MethodName)) ∈ LG := mg5 69 rfl rfl
theorem mI_X10_highOf : (Jvm.Cond.instanceMethod ({ cls := "PigLineModel", name := "highOf", desc := "(I)I" } : Jvm.MethodName)) ∈ LG := mg5 71 rfl rfl
theorem mC_X10_highOf : (Jvm.Cond.code ({ cls := "PigLineModel", name := "highOf", desc := "(I)I" } : Jvm.MethodName) prog_12_method_48_code (2 : Nat) (Option.some Jvm.ClassFile.FieldType.int)) ∈ LG := mg5 72 rfl rfl
theorem lkM_L_118 : (Jvm.Cond.methodLink "PigLineLaw" (118 : Nat) ({ cls := "PigLineModel", name := "work", desc := "(II)I" } : Jvm.MethodName)) ∈ LG := mg5 73 rfl rfl
theorem mI_X10_work : (Jvm.Cond.instanceMethod ({ cls := "PigLineModel", name := "work", desc := "(II)I" } : Jvm.MethodName)) ∈ LG := mg5 74 rfl rfl
theorem mE_X10_work : (Jvm.Cond.selects "PigLineModel" ({ cls := "PigLineModel", name := "work", desc := "(II)I" } : Jvm.MethodName) ({ cls := "PigLineModel", name := "work", desc := "(II)I" } : Jvm.MethodName)) ∈ LG := mg5 75 rfl rfl
theorem mC_X10_work : (Jvm.Cond.code ({ cls := "PigLineModel", name := "work", desc := "(II)I" } : Jvm.MethodName) prog_12_method_50_code (3 : Nat) (Option.some Jvm.ClassFile.FieldType.int)) ∈ LG := mg5 76 rfl rfl
theorem lkM_L_122 : (Jvm.Cond.methodLink "PigLineLaw" (122 : Nat) ({ cls := "PigLineModel", name := "yearly", desc := "(II)I" } : Jvm.MethodName)) ∈ LG := mg5 77 rfl rfl
theorem mI_X10_yearly : (Jvm.Cond.instanceMethod ({ cls := "PigLineModel", name := "yearly", desc := "(II)I" } : Jvm.MethodName)) ∈ LG := mg5 78 rfl rfl
theorem mE_X10_yearly : (Jvm.Cond.selects "PigLineModel" ({ cls := "PigLineModel", name := "yearly", desc := "(II)I" } : Jvm.MethodName) ({ cls := "PigLineModel", name := "yearly", desc := "(II)I" } : Jvm.MethodName)) ∈ LG := mg5 79 rfl rfl
theorem mC_X10_yearly : (Jvm.Cond.code ({ cls := "PigLineModel", name := "yearly", desc := "(II)I" } : Jvm.MethodName) prog_12_method_51_code (3 : Nat) (Option.some Jvm.ClassFile.FieldType.int)) ∈ LG := mg5 80 rfl rfl
theorem lkM_L_126 : (Jvm.Cond.methodLink "PigLineLaw" (126 : Nat) ({ cls := "PigLineModel", name := "plan", desc := "()I" } : Jvm.MethodName)) ∈ LG := mg5 81 rfl rfl
theorem mI_X10_plan : (Jvm.Cond.instanceMethod ({ cls := "PigLineModel", name := "plan", desc := "()I" } : Jvm.MethodName)) ∈ LG := mg5 82 rfl rfl
theorem mE_X10_plan : (Jvm.Cond.selects "PigLineModel" ({ cls := "PigLineModel", name := "plan", desc := "()I" } : Jvm.MethodName) ({ cls := "PigLineModel", name := "plan", desc := "()I" } : Jvm.MethodName)) ∈ LG := mg5 83 rfl rfl
theorem mC_X10_plan : (Jvm.Cond.code ({ cls := "PigLineModel", name := "plan", desc := "()I" } : Jvm.MethodName) prog_12_method_55_code (4 : Nat) (Option.some Jvm.ClassFile.FieldType.int)) ∈ LG := mg5 84 rfl rfl
theorem lkM_X10_227 : (Jvm.Cond.methodLink "PigLineModel" (227 : Nat) ({ cls := "PigLineModel", name := "planned", desc := "()I" } : Jvm.MethodName)) ∈ LG := mg5 85 rfl rfl
theorem mI_X10_planned : (Jvm.Cond.instanceMethod ({ cls := "PigLineModel", name := "planned", desc := "()I" } : Jvm.MethodName)) ∈ LG := mg5 87 rfl rfl
theorem mC_X10_planned : (Jvm.Cond.code ({ cls := "PigLineModel", name := "planned", desc := "()I" } : Jvm.MethodName) prog_12_method_54_code (3 : Nat) (Option.some Jvm.ClassFile.FieldType.int)) ∈ LG := mg5 88 rfl rfl
theorem lkM_X10_224 : (Jvm.Cond.methodLink "PigLineModel" (224 : Nat) ({ cls := "PigLineModel", name := "willDo", desc := "(I)Z" } : Jvm.MethodName)) ∈ LG := mg5 89 rfl rfl
theorem mI_X10_willDo : (Jvm.Cond.instanceMethod ({ cls := "PigLineModel", name := "willDo", desc := "(I)Z" } : Jvm.MethodName)) ∈ LG := mg5 91 rfl rfl
theorem mC_X10_willDo : (Jvm.Cond.code ({ cls := "PigLineModel", name := "willDo", desc := "(I)Z" } : Jvm.MethodName) prog_12_method_53_code (5 : Nat) (Option.some Jvm.ClassFile.FieldType.boolean)) ∈ LG := mg5 92 rfl rfl
theorem lkM_X10_221 : (Jvm.Cond.methodLink "PigLineModel" (221 : Nat) ({ cls := "PigLineModel", name := "many", desc := "(I)I" } : Jvm.MethodName)) ∈ LG := mg5 93 rfl rfl
theorem mS_X10_many : (Jvm.Cond.static ({ cls := "PigLineModel", name := "many", desc := "(I)I" } : Jvm.MethodName)) ∈ LG := mg5 94 rfl rfl
theorem mC_X10_many : (Jvm.Cond.code ({ cls := "PigLineModel", name := "many", desc := "(I)I" } : Jvm.MethodName) prog_12_method_52_code (3 : Nat) (Option.some Jvm.ClassFile.FieldType.int)) ∈ LG := mg5 95 rfl rfl
theorem lkM_L_130 : (Jvm.Cond.methodLink "PigLineLaw" (130 : Nat) ({ cls := "PigLineModel", name := "years", desc := "()I" } : Jvm.MethodName)) ∈ LG := mg5 96 rfl rfl
theorem mI_X10_years : (Jvm.Cond.instanceMethod ({ cls := "PigLineModel", name := "years", desc := "()I" } : Jvm.MethodName)) ∈ LG := mg5 97 rfl rfl
theorem mE_X10_years : (Jvm.Cond.selects "PigLineModel" ({ cls := "PigLineModel", name := "years", desc := "()I" } : Jvm.MethodName) ({ cls := "PigLineModel", name := "years", desc := "()I" } : Jvm.MethodName)) ∈ LG := mg5 98 rfl rfl
theorem mC_X10_years : (Jvm.Cond.code ({ cls := "PigLineModel", name := "years", desc := "()I" } : Jvm.MethodName) prog_12_method_56_code (2 : Nat) (Option.some Jvm.ClassFile.FieldType.int)) ∈ LG := mg5 99 rfl rfl
theorem lkM_L_134 : (Jvm.Cond.methodLink "PigLineLaw" (134 : Nat) ({ cls := "PigLineModel", name := "when", desc := "(I)I" } : Jvm.MethodName)) ∈ LG := mg5 100 rfl rfl
theorem mI_X10_when : (Jvm.Cond.instanceMethod ({ cls := "PigLineModel", name := "when", desc := "(I)I" } : Jvm.MethodName)) ∈ LG := mg5 101 rfl rfl
theorem mE_X10_when : (Jvm.Cond.selects "PigLineModel" ({ cls := "PigLineModel", name := "when", desc := "(I)I" } : Jvm.MethodName) ({ cls := "PigLineModel", name := "when", desc := "(I)I" } : Jvm.MethodName)) ∈ LG := mg5 102 rfl rfl
theorem mC_X10_when : (Jvm.Cond.code ({ cls := "PigLineModel", name := "when", desc := "(I)I" } : Jvm.MethodName) prog_12_method_57_code (6 : Nat) (Option.some Jvm.ClassFile.FieldType.int)) ∈ LG := mg5 103 rfl rfl
theorem lkM_L_139 : (Jvm.Cond.methodLink "PigLineLaw" (139 : Nat) ({ cls := "PigLineModel", name := "trap", desc := "(IZ)I" } : Jvm.MethodName)) ∈ LG := mg5 104 rfl rfl
theorem mI_X10_trap : (Jvm.Cond.instanceMethod ({ cls := "PigLineModel", name := "trap", desc := "(IZ)I" } : Jvm.MethodName)) ∈ LG := mg5 105 rfl rfl
theorem mE_X10_trap : (Jvm.Cond.selects "PigLineModel" ({ cls := "PigLineModel", name := "trap", desc := "(IZ)I" } : Jvm.MethodName) ({ cls := "PigLineModel", name := "trap", desc := "(IZ)I" } : Jvm.MethodName)) ∈ LG := mg5 106 rfl rfl
theorem mC_X10_trap : (Jvm.Cond.code ({ cls := "PigLineModel", name := "trap", desc := "(IZ)I" } : Jvm.MethodName) prog_12_method_59_code (3 : Nat) (Option.some Jvm.ClassFile.FieldType.int)) ∈ LG := mg5 107 rfl rfl
theorem lkM_X10_234 : (Jvm.Cond.methodLink "PigLineModel" (234 : Nat) ({ cls := "PigLineModel", name := "mayOpen", desc := "(I)Z" } : Jvm.MethodName)) ∈ LG := mg5 108 rfl rfl
theorem mI_X10_mayOpen : (Jvm.Cond.instanceMethod ({ cls := "PigLineModel", name := "mayOpen", desc := "(I)Z" } : Jvm.MethodName)) ∈ LG := mg5 110 rfl rfl
theorem mC_X10_mayOpen : (Jvm.Cond.code ({ cls := "PigLineModel", name := "mayOpen", desc := "(I)Z" } : Jvm.MethodName) prog_12_method_58_code (2 : Nat) (Option.some Jvm.ClassFile.FieldType.boolean)) ∈ LG := mg5 111 rfl rfl
theorem lkM_L_143 : (Jvm.Cond.methodLink "PigLineLaw" (143 : Nat) ({ cls := "PigLineModel", name := "count", desc := "(I)I" } : Jvm.MethodName)) ∈ LG := mg5 112 rfl rfl
theorem mI_X10_count : (Jvm.Cond.instanceMethod ({ cls := "PigLineModel", name := "count", desc := "(I)I" } : Jvm.MethodName)) ∈ LG := mg5 113 rfl rfl
theorem mE_X10_count : (Jvm.Cond.selects "PigLineModel" ({ cls := "PigLineModel", name := "count", desc := "(I)I" } : Jvm.MethodName) ({ cls := "PigLineModel", name := "count", desc := "(I)I" } : Jvm.MethodName)) ∈ LG := mg5 114 rfl rfl
theorem mC_X10_count : (Jvm.Cond.code ({ cls := "PigLineModel", name := "count", desc := "(I)I" } : Jvm.MethodName) prog_12_method_60_code (2 : Nat) (Option.some Jvm.ClassFile.FieldType.int)) ∈ LG := mg5 115 rfl rfl
theorem lkM_L_148 : (Jvm.Cond.methodLink "PigLineLaw" (148 : Nat) ({ cls := "PigLineModel", name := "digest", desc := "()J" } : Jvm.MethodName)) ∈ LG := mg5 116 rfl rfl
theorem mI_X10_digest : (Jvm.Cond.instanceMethod ({ cls := "PigLineModel", name := "digest", desc := "()J" } : Jvm.MethodName)) ∈ LG := mg5 117 rfl rfl
theorem mE_X10_digest : (Jvm.Cond.selects "PigLineModel" ({ cls := "PigLineModel", name := "digest", desc := "()J" } : Jvm.MethodName) ({ cls := "PigLineModel", name := "digest", desc := "()J" } : Jvm.MethodName)) ∈ LG := mg5 118 rfl rfl
theorem mC_X10_digest : (Jvm.Cond.code ({ cls := "PigLineModel", name := "digest", desc := "()J" } : Jvm.MethodName) prog_12_method_61_code (6 : Nat) (Option.some Jvm.ClassFile.FieldType.long)) ∈ LG := mg5 119 rfl rfl
theorem lkD_X10_237 : (Jvm.Cond.constantLong "PigLineModel" (237 : Nat) (17 : Int64)) ∈ LG := mg5 120 rfl rfl
theorem lkD_X10_239 : (Jvm.Cond.constantLong "PigLineModel" (239 : Nat) (31 : Int64)) ∈ LG := mg5 121 rfl rfl
theorem lkM_X10_241 : (Jvm.Cond.methodLink "PigLineModel" (241 : Nat) ({ cls := "PigLineModel", name := "count", desc := "(I)I" } : Jvm.MethodName)) ∈ LG := mg5 122 rfl rfl
theorem lkM_X10_244 : (Jvm.Cond.methodLink "PigLineModel" (244 : Nat) ({ cls := "PigLineModel", name := "run", desc := "(II)I" } : Jvm.MethodName)) ∈ LG := mg5 123 rfl rfl
theorem lkM_X10_247 : (Jvm.Cond.methodLink "PigLineModel" (247 : Nat) ({ cls := "PigLineModel", name := "match", desc := "(I)I" } : Jvm.MethodName)) ∈ LG := mg5 124 rfl rfl
theorem lkM_X10_250 : (Jvm.Cond.methodLink "PigLineModel" (250 : Nat) ({ cls := "PigLineModel", name := "about", desc := "(III)I" } : Jvm.MethodName)) ∈ LG := mg5 125 rfl rfl
theorem mE_X9_reelAt : Cond.selects "PigLine" ⟨"PigLine", "reelAt", "(I)LPigLine$Reel;"⟩ ⟨"PigLine", "reelAt", "(I)LPigLine$Reel;"⟩ ∈ LG := mp1 0 rfl rfl
theorem mE_X9_runAt : Cond.selects "PigLine" ⟨"PigLine", "runAt", "(I)LPigLine$Run;"⟩ ⟨"PigLine", "runAt", "(I)LPigLine$Run;"⟩ ∈ LG := mp1 1 rfl rfl
theorem mE_X9_found : Cond.selects "PigLine" ⟨"PigLine", "found", "(I)I"⟩ ⟨"PigLine", "found", "(I)I"⟩ ∈ LG := mp1 2 rfl rfl
theorem mE_X6_readingsTogether : Cond.selects "PigLine$Run" ⟨"PigLine$Run", "readingsTogether", "(I)I"⟩ ⟨"PigLine$Run", "readingsTogether", "(I)I"⟩ ∈ LG := mp1 3 rfl rfl
theorem mE_X0_withPair : Cond.selects "PigLine$Book" ⟨"PigLine$Book", "withPair", "(LPigLine$Run;II)I"⟩ ⟨"PigLine$Book", "withPair", "(LPigLine$Run;II)I"⟩ ∈ LG := mp1 4 rfl rfl
theorem mE_X0_lastFeltNotLeftOut : Cond.selects "PigLine$Book" ⟨"PigLine$Book", "lastFeltNotLeftOut", "(LPigLine$Run;II)I"⟩ ⟨"PigLine$Book", "lastFeltNotLeftOut", "(LPigLine$Run;II)I"⟩ ∈ LG := mp1 5 rfl rfl
theorem mE_X3_spread : Cond.selects "PigLine$Marks" ⟨"PigLine$Marks", "spread", "(III)V"⟩ ⟨"PigLine$Marks", "spread", "(III)V"⟩ ∈ LG := mp1 6 rfl rfl
theorem mE_X3_areNear : Cond.selects "PigLine$Marks" ⟨"PigLine$Marks", "areNear", "(IIII)Z"⟩ ⟨"PigLine$Marks", "areNear", "(IIII)Z"⟩ ∈ LG := mp1 7 rfl rfl
theorem mE_X3_endOf : Cond.selects "PigLine$Marks" ⟨"PigLine$Marks", "endOf", "(I)I"⟩ ⟨"PigLine$Marks", "endOf", "(I)I"⟩ ∈ LG := mp1 8 rfl rfl
theorem mE_X9_matchBothRuns : Cond.selects "PigLine" ⟨"PigLine", "matchBothRuns", "()V"⟩ ⟨"PigLine", "matchBothRuns", "()V"⟩ ∈ LG := mp1 9 rfl rfl
theorem mE_X4_leastFrom : Cond.selects "PigLine$Pairs" ⟨"PigLine$Pairs", "leastFrom", "(II)I"⟩ ⟨"PigLine$Pairs", "leastFrom", "(II)I"⟩ ∈ LG := mp1 10 rfl rfl
theorem mE_X4_withPair : Cond.selects "PigLine$Pairs" ⟨"PigLine$Pairs", "withPair", "(III)I"⟩ ⟨"PigLine$Pairs", "withPair", "(III)I"⟩ ∈ LG := mp1 11 rfl rfl
theorem mE_X9_twinOf : Cond.selects "PigLine" ⟨"PigLine", "twinOf", "(I)I"⟩ ⟨"PigLine", "twinOf", "(I)I"⟩ ∈ LG := mp1 12 rfl rfl
theorem mE_X4_choiceAt : Cond.selects "PigLine$Pairs" ⟨"PigLine$Pairs", "choiceAt", "(II)I"⟩ ⟨"PigLine$Pairs", "choiceAt", "(II)I"⟩ ∈ LG := mp1 13 rfl rfl
theorem mE_X7_mostTruly : Cond.selects "PigLine$Spans" ⟨"PigLine$Spans", "mostTruly", "(I)I"⟩ ⟨"PigLine$Spans", "mostTruly", "(I)I"⟩ ∈ LG := mp1 14 rfl rfl
theorem mE_X7_leastTruly : Cond.selects "PigLine$Spans" ⟨"PigLine$Spans", "leastTruly", "(I)I"⟩ ⟨"PigLine$Spans", "leastTruly", "(I)I"⟩ ∈ LG := mp1 15 rfl rfl
theorem mE_X7_lastYear : Cond.selects "PigLine$Spans" ⟨"PigLine$Spans", "lastYear", "(II)I"⟩ ⟨"PigLine$Spans", "lastYear", "(II)I"⟩ ∈ LG := mp2 0 rfl rfl
theorem mE_X1_isEnough : Cond.selects "PigLine$Digs" ⟨"PigLine$Digs", "isEnough", "(I)Z"⟩ ⟨"PigLine$Digs", "isEnough", "(I)Z"⟩ ∈ LG := mp2 1 rfl rfl
theorem mE_X1_hasYear : Cond.selects "PigLine$Digs" ⟨"PigLine$Digs", "hasYear", "(II)Z"⟩ ⟨"PigLine$Digs", "hasYear", "(II)Z"⟩ ∈ LG := mp2 2 rfl rfl
theorem mE_X1_worksAheadOf : Cond.selects "PigLine$Digs" ⟨"PigLine$Digs", "worksAheadOf", "(I)I"⟩ ⟨"PigLine$Digs", "worksAheadOf", "(I)I"⟩ ∈ LG := mp2 3 rfl rfl
theorem mE_X9_digestOfRun : Cond.selects "PigLine" ⟨"PigLine", "digestOfRun", "(JLPigLine$Run;)J"⟩ ⟨"PigLine", "digestOfRun", "(JLPigLine$Run;)J"⟩ ∈ LG := mp2 4 rfl rfl
theorem mE_X10_meets : Cond.selects "PigLineModel" ⟨"PigLineModel", "meets", "(I)I"⟩ ⟨"PigLineModel", "meets", "(I)I"⟩ ∈ LG := mp2 5 rfl rfl
theorem mE_X10_lacks : Cond.selects "PigLineModel" ⟨"PigLineModel", "lacks", "(III)I"⟩ ⟨"PigLineModel", "lacks", "(III)I"⟩ ∈ LG := mp2 6 rfl rfl
theorem mE_X10_goThrough : Cond.selects "PigLineModel" ⟨"PigLineModel", "goThrough", "(I)V"⟩ ⟨"PigLineModel", "goThrough", "(I)V"⟩ ∈ LG := mp2 7 rfl rfl
theorem mE_X10_reading : Cond.selects "PigLineModel" ⟨"PigLineModel", "reading", "(II)I"⟩ ⟨"PigLineModel", "reading", "(II)I"⟩ ∈ LG := mp2 8 rfl rfl
theorem mE_X10_matches : Cond.selects "PigLineModel" ⟨"PigLineModel", "matches", "(I)V"⟩ ⟨"PigLineModel", "matches", "(I)V"⟩ ∈ LG := mp2 9 rfl rfl
theorem mE_X10_pairCost : Cond.selects "PigLineModel" ⟨"PigLineModel", "pairCost", "(II)I"⟩ ⟨"PigLineModel", "pairCost", "(II)I"⟩ ∈ LG := mp2 10 rfl rfl
theorem mE_X10_isMark : Cond.selects "PigLineModel" ⟨"PigLineModel", "isMark", "(II)Z"⟩ ⟨"PigLineModel", "isMark", "(II)Z"⟩ ∈ LG := mp2 11 rfl rfl
theorem mE_X10_jointAt : Cond.selects "PigLineModel" ⟨"PigLineModel", "jointAt", "(I)I"⟩ ⟨"PigLineModel", "jointAt", "(I)I"⟩ ∈ LG := mp2 12 rfl rfl
theorem mE_X10_joinMarks : Cond.selects "PigLineModel" ⟨"PigLineModel", "joinMarks", "(I)V"⟩ ⟨"PigLineModel", "joinMarks", "(I)V"⟩ ∈ LG := mp2 13 rfl rfl
theorem mE_X10_areNear : Cond.selects "PigLineModel" ⟨"PigLineModel", "areNear", "(II)Z"⟩ ⟨"PigLineModel", "areNear", "(II)Z"⟩ ∈ LG := mp2 14 rfl rfl
theorem mE_X10_pairs : Cond.selects "PigLineModel" ⟨"PigLineModel", "pairs", "(I)I"⟩ ⟨"PigLineModel", "pairs", "(I)I"⟩ ∈ LG := mp2 15 rfl rfl
theorem mE_X10_gather : Cond.selects "PigLineModel" ⟨"PigLineModel", "gather", "(I)V"⟩ ⟨"PigLineModel", "gather", "(I)V"⟩ ∈ LG := mp3 0 rfl rfl
theorem mE_X10_choiceCost : Cond.selects "PigLineModel" ⟨"PigLineModel", "choiceCost", "()I"⟩ ⟨"PigLineModel", "choiceCost", "()I"⟩ ∈ LG := mp3 1 rfl rfl
theorem mE_X10_choosesOn : Cond.selects "PigLineModel" ⟨"PigLineModel", "choosesOn", "()Z"⟩ ⟨"PigLineModel", "choosesOn", "()Z"⟩ ∈ LG := mp3 2 rfl rfl
theorem mE_X10_twinOf : Cond.selects "PigLineModel" ⟨"PigLineModel", "twinOf", "(I)I"⟩ ⟨"PigLineModel", "twinOf", "(I)I"⟩ ∈ LG := mp3 3 rfl rfl
theorem mE_X10_lowOf : Cond.selects "PigLineModel" ⟨"PigLineModel", "lowOf", "(I)I"⟩ ⟨"PigLineModel", "lowOf", "(I)I"⟩ ∈ LG := mp3 4 rfl rfl
theorem mE_X10_highOf : Cond.selects "PigLineModel" ⟨"PigLineModel", "highOf", "(I)I"⟩ ⟨"PigLineModel", "highOf", "(I)I"⟩ ∈ LG := mp3 5 rfl rfl
theorem mE_X10_planned : Cond.selects "PigLineModel" ⟨"PigLineModel", "planned", "()I"⟩ ⟨"PigLineModel", "planned", "()I"⟩ ∈ LG := mp3 6 rfl rfl
theorem mE_X10_willDo : Cond.selects "PigLineModel" ⟨"PigLineModel", "willDo", "(I)Z"⟩ ⟨"PigLineModel", "willDo", "(I)Z"⟩ ∈ LG := mp3 7 rfl rfl
theorem mE_X10_mayOpen : Cond.selects "PigLineModel" ⟨"PigLineModel", "mayOpen", "(I)Z"⟩ ⟨"PigLineModel", "mayOpen", "(I)Z"⟩ ∈ LG := mp3 8 rfl rfl
theorem ly_X0_0 : u_lay RX0 TX0 0 ∈ LG := mg1 153 rfl rfl
theorem ly_X0_1 : u_lay RX0 TX0 1 ∈ LG := mg1 155 rfl rfl
theorem ly_X0_2 : u_lay RX0 TX0 2 ∈ LG := mg1 157 rfl rfl
theorem ly_X0_3 : u_lay RX0 TX0 3 ∈ LG := mg1 159 rfl rfl
theorem ly_X0_4 : u_lay RX0 TX0 4 ∈ LG := mg1 161 rfl rfl
theorem ly_X0 : ∀ w ∈ u_ws RX0 TX0 5, w ∈ LG := by
  have h : ∀ w ∈ [u_lay RX0 TX0 0, u_lay RX0 TX0 1, u_lay RX0 TX0 2, u_lay RX0 TX0 3, u_lay RX0 TX0 4], w ∈ LG := List.forall_mem_cons.mpr ⟨ly_X0_0, List.forall_mem_cons.mpr ⟨ly_X0_1, List.forall_mem_cons.mpr ⟨ly_X0_2, List.forall_mem_cons.mpr ⟨ly_X0_3, List.forall_mem_cons.mpr ⟨ly_X0_4, List.forall_mem_nil _⟩⟩⟩⟩⟩
  exact h
theorem ly_X1_0 : u_lay RX1 TX1 0 ∈ LG := mg2 1 rfl rfl
theorem ly_X1_1 : u_lay RX1 TX1 1 ∈ LG := mg2 3 rfl rfl
theorem ly_X1_2 : u_lay RX1 TX1 2 ∈ LG := mg2 5 rfl rfl
theorem ly_X1_3 : u_lay RX1 TX1 3 ∈ LG := mg2 7 rfl rfl
theorem ly_X1_4 : u_lay RX1 TX1 4 ∈ LG := mg2 9 rfl rfl
theorem ly_X1_5 : u_lay RX1 TX1 5 ∈ LG := mg2 11 rfl rfl
theorem ly_X1 : ∀ w ∈ u_ws RX1 TX1 6, w ∈ LG := by
  have h : ∀ w ∈ [u_lay RX1 TX1 0, u_lay RX1 TX1 1, u_lay RX1 TX1 2, u_lay RX1 TX1 3, u_lay RX1 TX1 4, u_lay RX1 TX1 5], w ∈ LG := List.forall_mem_cons.mpr ⟨ly_X1_0, List.forall_mem_cons.mpr ⟨ly_X1_1, List.forall_mem_cons.mpr ⟨ly_X1_2, List.forall_mem_cons.mpr ⟨ly_X1_3, List.forall_mem_cons.mpr ⟨ly_X1_4, List.forall_mem_cons.mpr ⟨ly_X1_5, List.forall_mem_nil _⟩⟩⟩⟩⟩⟩
  exact h
theorem ly_X2_0 : u_lay RX2 TX2 0 ∈ LG := mg1 184 rfl rfl
theorem ly_X2_1 : u_lay RX2 TX2 1 ∈ LG := mg1 186 rfl rfl
theorem ly_X2_2 : u_lay RX2 TX2 2 ∈ LG := mg1 188 rfl rfl
theorem ly_X2_3 : u_lay RX2 TX2 3 ∈ LG := mg1 190 rfl rfl
theorem ly_X2 : ∀ w ∈ u_ws RX2 TX2 4, w ∈ LG := by
  have h : ∀ w ∈ [u_lay RX2 TX2 0, u_lay RX2 TX2 1, u_lay RX2 TX2 2, u_lay RX2 TX2 3], w ∈ LG := List.forall_mem_cons.mpr ⟨ly_X2_0, List.forall_mem_cons.mpr ⟨ly_X2_1, List.forall_mem_cons.mpr ⟨ly_X2_2, List.forall_mem_cons.mpr ⟨ly_X2_3, List.forall_mem_nil _⟩⟩⟩⟩
  exact h
theorem ly_X3_0 : u_lay RX3 TX3 0 ∈ LG := mg1 72 rfl rfl
theorem ly_X3_1 : u_lay RX3 TX3 1 ∈ LG := mg1 74 rfl rfl
theorem ly_X3_2 : u_lay RX3 TX3 2 ∈ LG := mg1 76 rfl rfl
theorem ly_X3_3 : u_lay RX3 TX3 3 ∈ LG := mg1 78 rfl rfl
theorem ly_X3_4 : u_lay RX3 TX3 4 ∈ LG := mg1 80 rfl rfl
theorem ly_X3_5 : u_lay RX3 TX3 5 ∈ LG := mg1 82 rfl rfl
theorem ly_X3_6 : u_lay RX3 TX3 6 ∈ LG := mg1 84 rfl rfl
theorem ly_X3_7 : u_lay RX3 TX3 7 ∈ LG := mg1 86 rfl rfl
theorem ly_X3 : ∀ w ∈ u_ws RX3 TX3 8, w ∈ LG := by
  have h : ∀ w ∈ [u_lay RX3 TX3 0, u_lay RX3 TX3 1, u_lay RX3 TX3 2, u_lay RX3 TX3 3, u_lay RX3 TX3 4, u_lay RX3 TX3 5, u_lay RX3 TX3 6, u_lay RX3 TX3 7], w ∈ LG := List.forall_mem_cons.mpr ⟨ly_X3_0, List.forall_mem_cons.mpr ⟨ly_X3_1, List.forall_mem_cons.mpr ⟨ly_X3_2, List.forall_mem_cons.mpr ⟨ly_X3_3, List.forall_mem_cons.mpr ⟨ly_X3_4, List.forall_mem_cons.mpr ⟨ly_X3_5, List.forall_mem_cons.mpr ⟨ly_X3_6, List.forall_mem_cons.mpr ⟨ly_X3_7, List.forall_mem_nil _⟩⟩⟩⟩⟩⟩⟩⟩
  exact h
theorem ly_X4_0 : u_lay RX4 TX4 0 ∈ LG := mg1 198 rfl rfl
theorem ly_X4_1 : u_lay RX4 TX4 1 ∈ LG := mg1 200 rfl rfl
theorem ly_X4_2 : u_lay RX4 TX4 2 ∈ LG := mg1 202 rfl rfl
theorem ly_X4_3 : u_lay RX4 TX4 3 ∈ LG := mg1 204 rfl rfl
theorem ly_X4 : ∀ w ∈ u_ws RX4 TX4 4, w ∈ LG := by
  have h : ∀ w ∈ [u_lay RX4 TX4 0, u_lay RX4 TX4 1, u_lay RX4 TX4 2, u_lay RX4 TX4 3], w ∈ LG := List.forall_mem_cons.mpr ⟨ly_X4_0, List.forall_mem_cons.mpr ⟨ly_X4_1, List.forall_mem_cons.mpr ⟨ly_X4_2, List.forall_mem_cons.mpr ⟨ly_X4_3, List.forall_mem_nil _⟩⟩⟩⟩
  exact h
theorem ly_X5_0 : u_lay RX5 TX5 0 ∈ LG := mg1 42 rfl rfl
theorem ly_X5_1 : u_lay RX5 TX5 1 ∈ LG := mg1 44 rfl rfl
theorem ly_X5_2 : u_lay RX5 TX5 2 ∈ LG := mg1 46 rfl rfl
theorem ly_X5 : ∀ w ∈ u_ws RX5 TX5 3, w ∈ LG := by
  have h : ∀ w ∈ [u_lay RX5 TX5 0, u_lay RX5 TX5 1, u_lay RX5 TX5 2], w ∈ LG := List.forall_mem_cons.mpr ⟨ly_X5_0, List.forall_mem_cons.mpr ⟨ly_X5_1, List.forall_mem_cons.mpr ⟨ly_X5_2, List.forall_mem_nil _⟩⟩⟩
  exact h
theorem ly_X6_0 : u_lay RX6 TX6 0 ∈ LG := mg1 114 rfl rfl
theorem ly_X6_1 : u_lay RX6 TX6 1 ∈ LG := mg1 116 rfl rfl
theorem ly_X6_2 : u_lay RX6 TX6 2 ∈ LG := mg1 118 rfl rfl
theorem ly_X6_3 : u_lay RX6 TX6 3 ∈ LG := mg1 120 rfl rfl
theorem ly_X6_4 : u_lay RX6 TX6 4 ∈ LG := mg1 122 rfl rfl
theorem ly_X6_5 : u_lay RX6 TX6 5 ∈ LG := mg1 124 rfl rfl
theorem ly_X6_6 : u_lay RX6 TX6 6 ∈ LG := mg1 126 rfl rfl
theorem ly_X6_7 : u_lay RX6 TX6 7 ∈ LG := mg1 128 rfl rfl
theorem ly_X6_8 : u_lay RX6 TX6 8 ∈ LG := mg1 130 rfl rfl
theorem ly_X6_9 : u_lay RX6 TX6 9 ∈ LG := mg1 132 rfl rfl
theorem ly_X6_10 : u_lay RX6 TX6 10 ∈ LG := mg1 134 rfl rfl
theorem ly_X6_11 : u_lay RX6 TX6 11 ∈ LG := mg1 136 rfl rfl
theorem ly_X6 : ∀ w ∈ u_ws RX6 TX6 12, w ∈ LG := by
  have h : ∀ w ∈ [u_lay RX6 TX6 0, u_lay RX6 TX6 1, u_lay RX6 TX6 2, u_lay RX6 TX6 3, u_lay RX6 TX6 4, u_lay RX6 TX6 5, u_lay RX6 TX6 6, u_lay RX6 TX6 7, u_lay RX6 TX6 8, u_lay RX6 TX6 9, u_lay RX6 TX6 10, u_lay RX6 TX6 11], w ∈ LG := List.forall_mem_cons.mpr ⟨ly_X6_0, List.forall_mem_cons.mpr ⟨ly_X6_1, List.forall_mem_cons.mpr ⟨ly_X6_2, List.forall_mem_cons.mpr ⟨ly_X6_3, List.forall_mem_cons.mpr ⟨ly_X6_4, List.forall_mem_cons.mpr ⟨ly_X6_5, List.forall_mem_cons.mpr ⟨ly_X6_6, List.forall_mem_cons.mpr ⟨ly_X6_7, List.forall_mem_cons.mpr ⟨ly_X6_8, List.forall_mem_cons.mpr ⟨ly_X6_9, List.forall_mem_cons.mpr ⟨ly_X6_10, List.forall_mem_cons.mpr ⟨ly_X6_11, List.forall_mem_nil _⟩⟩⟩⟩⟩⟩⟩⟩⟩⟩⟩⟩
  exact h
theorem ly_X7_0 : u_lay RX7 TX7 0 ∈ LG := mg1 219 rfl rfl
theorem ly_X7_1 : u_lay RX7 TX7 1 ∈ LG := mg1 221 rfl rfl
theorem ly_X7_2 : u_lay RX7 TX7 2 ∈ LG := mg1 223 rfl rfl
theorem ly_X7 : ∀ w ∈ u_ws RX7 TX7 3, w ∈ LG := by
  have h : ∀ w ∈ [u_lay RX7 TX7 0, u_lay RX7 TX7 1, u_lay RX7 TX7 2], w ∈ LG := List.forall_mem_cons.mpr ⟨ly_X7_0, List.forall_mem_cons.mpr ⟨ly_X7_1, List.forall_mem_cons.mpr ⟨ly_X7_2, List.forall_mem_nil _⟩⟩⟩
  exact h
theorem ly_X8_0 : u_lay RX8 TX8 0 ∈ LG := mg2 24 rfl rfl
theorem ly_X8_1 : u_lay RX8 TX8 1 ∈ LG := mg2 26 rfl rfl
theorem ly_X8 : ∀ w ∈ u_ws RX8 TX8 2, w ∈ LG := by
  have h : ∀ w ∈ [u_lay RX8 TX8 0, u_lay RX8 TX8 1], w ∈ LG := List.forall_mem_cons.mpr ⟨ly_X8_0, List.forall_mem_cons.mpr ⟨ly_X8_1, List.forall_mem_nil _⟩⟩
  exact h
theorem ly_X9_0 : u_lay RX9 TX9 0 ∈ LG := mg2 39 rfl rfl
theorem ly_X9_1 : u_lay RX9 TX9 1 ∈ LG := mg2 41 rfl rfl
theorem ly_X9_2 : u_lay RX9 TX9 2 ∈ LG := mg2 43 rfl rfl
theorem ly_X9_3 : u_lay RX9 TX9 3 ∈ LG := mg2 45 rfl rfl
theorem ly_X9_4 : u_lay RX9 TX9 4 ∈ LG := mg2 47 rfl rfl
theorem ly_X9_5 : u_lay RX9 TX9 5 ∈ LG := mg2 49 rfl rfl
theorem ly_X9_6 : u_lay RX9 TX9 6 ∈ LG := mg2 51 rfl rfl
theorem ly_X9_7 : u_lay RX9 TX9 7 ∈ LG := mg2 53 rfl rfl
theorem ly_X9_8 : u_lay RX9 TX9 8 ∈ LG := mg2 55 rfl rfl
theorem ly_X9_9 : u_lay RX9 TX9 9 ∈ LG := mg2 57 rfl rfl
theorem ly_X9 : ∀ w ∈ u_ws RX9 TX9 10, w ∈ LG := by
  have h : ∀ w ∈ [u_lay RX9 TX9 0, u_lay RX9 TX9 1, u_lay RX9 TX9 2, u_lay RX9 TX9 3, u_lay RX9 TX9 4, u_lay RX9 TX9 5, u_lay RX9 TX9 6, u_lay RX9 TX9 7, u_lay RX9 TX9 8, u_lay RX9 TX9 9], w ∈ LG := List.forall_mem_cons.mpr ⟨ly_X9_0, List.forall_mem_cons.mpr ⟨ly_X9_1, List.forall_mem_cons.mpr ⟨ly_X9_2, List.forall_mem_cons.mpr ⟨ly_X9_3, List.forall_mem_cons.mpr ⟨ly_X9_4, List.forall_mem_cons.mpr ⟨ly_X9_5, List.forall_mem_cons.mpr ⟨ly_X9_6, List.forall_mem_cons.mpr ⟨ly_X9_7, List.forall_mem_cons.mpr ⟨ly_X9_8, List.forall_mem_cons.mpr ⟨ly_X9_9, List.forall_mem_nil _⟩⟩⟩⟩⟩⟩⟩⟩⟩⟩
  exact h
theorem ly_X10_0 : u_lay RX10 TX10 0 ∈ LG := mg4 38 rfl rfl
theorem ly_X10_1 : u_lay RX10 TX10 1 ∈ LG := mg4 40 rfl rfl
theorem ly_X10_2 : u_lay RX10 TX10 2 ∈ LG := mg4 42 rfl rfl
theorem ly_X10_3 : u_lay RX10 TX10 3 ∈ LG := mg4 44 rfl rfl
theorem ly_X10_4 : u_lay RX10 TX10 4 ∈ LG := mg4 46 rfl rfl
theorem ly_X10_5 : u_lay RX10 TX10 5 ∈ LG := mg4 48 rfl rfl
theorem ly_X10_6 : u_lay RX10 TX10 6 ∈ LG := mg4 50 rfl rfl
theorem ly_X10_7 : u_lay RX10 TX10 7 ∈ LG := mg4 52 rfl rfl
theorem ly_X10_8 : u_lay RX10 TX10 8 ∈ LG := mg4 54 rfl rfl
theorem ly_X10_9 : u_lay RX10 TX10 9 ∈ LG := mg4 56 rfl rfl
theorem ly_X10_10 : u_lay RX10 TX10 10 ∈ LG := mg4 58 rfl rfl
theorem ly_X10_11 : u_lay RX10 TX10 11 ∈ LG := mg4 60 rfl rfl
theorem ly_X10_12 : u_lay RX10 TX10 12 ∈ LG := mg4 62 rfl rfl
theorem ly_X10_13 : u_lay RX10 TX10 13 ∈ LG := mg4 64 rfl rfl
theorem ly_X10_14 : u_lay RX10 TX10 14 ∈ LG := mg4 66 rfl rfl
theorem ly_X10_15 : u_lay RX10 TX10 15 ∈ LG := mg4 68 rfl rfl
theorem ly_X10_16 : u_lay RX10 TX10 16 ∈ LG := mg4 70 rfl rfl
theorem ly_X10_17 : u_lay RX10 TX10 17 ∈ LG := mg4 72 rfl rfl
theorem ly_X10_18 : u_lay RX10 TX10 18 ∈ LG := mg4 74 rfl rfl
theorem ly_X10_19 : u_lay RX10 TX10 19 ∈ LG := mg4 76 rfl rfl
theorem ly_X10_20 : u_lay RX10 TX10 20 ∈ LG := mg4 78 rfl rfl
theorem ly_X10_21 : u_lay RX10 TX10 21 ∈ LG := mg4 80 rfl rfl
theorem ly_X10_22 : u_lay RX10 TX10 22 ∈ LG := mg4 82 rfl rfl
theorem ly_X10_23 : u_lay RX10 TX10 23 ∈ LG := mg4 84 rfl rfl
theorem ly_X10_24 : u_lay RX10 TX10 24 ∈ LG := mg4 86 rfl rfl
theorem ly_X10_25 : u_lay RX10 TX10 25 ∈ LG := mg4 88 rfl rfl
theorem ly_X10_26 : u_lay RX10 TX10 26 ∈ LG := mg4 90 rfl rfl
theorem ly_X10_27 : u_lay RX10 TX10 27 ∈ LG := mg4 92 rfl rfl
theorem ly_X10_28 : u_lay RX10 TX10 28 ∈ LG := mg4 94 rfl rfl
theorem ly_X10_29 : u_lay RX10 TX10 29 ∈ LG := mg4 96 rfl rfl
theorem ly_X10_30 : u_lay RX10 TX10 30 ∈ LG := mg4 98 rfl rfl
theorem ly_X10_31 : u_lay RX10 TX10 31 ∈ LG := mg4 100 rfl rfl
theorem ly_X10_32 : u_lay RX10 TX10 32 ∈ LG := mg4 102 rfl rfl
theorem ly_X10_33 : u_lay RX10 TX10 33 ∈ LG := mg4 104 rfl rfl
theorem ly_X10_34 : u_lay RX10 TX10 34 ∈ LG := mg4 106 rfl rfl
theorem ly_X10_35 : u_lay RX10 TX10 35 ∈ LG := mg4 108 rfl rfl
theorem ly_X10_36 : u_lay RX10 TX10 36 ∈ LG := mg4 110 rfl rfl
theorem ly_X10_37 : u_lay RX10 TX10 37 ∈ LG := mg4 112 rfl rfl
theorem ly_X10_38 : u_lay RX10 TX10 38 ∈ LG := mg4 114 rfl rfl
theorem ly_X10_39 : u_lay RX10 TX10 39 ∈ LG := mg4 116 rfl rfl
theorem ly_X10_40 : u_lay RX10 TX10 40 ∈ LG := mg4 118 rfl rfl
theorem ly_X10_41 : u_lay RX10 TX10 41 ∈ LG := mg4 120 rfl rfl
theorem ly_X10_42 : u_lay RX10 TX10 42 ∈ LG := mg4 122 rfl rfl
theorem ly_X10 : ∀ w ∈ u_ws RX10 TX10 43, w ∈ LG := by
  have h : ∀ w ∈ [u_lay RX10 TX10 0, u_lay RX10 TX10 1, u_lay RX10 TX10 2, u_lay RX10 TX10 3, u_lay RX10 TX10 4, u_lay RX10 TX10 5, u_lay RX10 TX10 6, u_lay RX10 TX10 7, u_lay RX10 TX10 8, u_lay RX10 TX10 9, u_lay RX10 TX10 10, u_lay RX10 TX10 11, u_lay RX10 TX10 12, u_lay RX10 TX10 13, u_lay RX10 TX10 14, u_lay RX10 TX10 15, u_lay RX10 TX10 16, u_lay RX10 TX10 17, u_lay RX10 TX10 18, u_lay RX10 TX10 19, u_lay RX10 TX10 20, u_lay RX10 TX10 21, u_lay RX10 TX10 22, u_lay RX10 TX10 23, u_lay RX10 TX10 24, u_lay RX10 TX10 25, u_lay RX10 TX10 26, u_lay RX10 TX10 27, u_lay RX10 TX10 28, u_lay RX10 TX10 29, u_lay RX10 TX10 30, u_lay RX10 TX10 31, u_lay RX10 TX10 32, u_lay RX10 TX10 33, u_lay RX10 TX10 34, u_lay RX10 TX10 35, u_lay RX10 TX10 36, u_lay RX10 TX10 37, u_lay RX10 TX10 38, u_lay RX10 TX10 39, u_lay RX10 TX10 40, u_lay RX10 TX10 41, u_lay RX10 TX10 42], w ∈ LG := List.forall_mem_cons.mpr ⟨ly_X10_0, List.forall_mem_cons.mpr ⟨ly_X10_1, List.forall_mem_cons.mpr ⟨ly_X10_2, List.forall_mem_cons.mpr ⟨ly_X10_3, List.forall_mem_cons.mpr ⟨ly_X10_4, List.forall_mem_cons.mpr ⟨ly_X10_5, List.forall_mem_cons.mpr ⟨ly_X10_6, List.forall_mem_cons.mpr ⟨ly_X10_7, List.forall_mem_cons.mpr ⟨ly_X10_8, List.forall_mem_cons.mpr ⟨ly_X10_9, List.forall_mem_cons.mpr ⟨ly_X10_10, List.forall_mem_cons.mpr ⟨ly_X10_11, List.forall_mem_cons.mpr ⟨ly_X10_12, List.forall_mem_cons.mpr ⟨ly_X10_13, List.forall_mem_cons.mpr ⟨ly_X10_14, List.forall_mem_cons.mpr ⟨ly_X10_15, List.forall_mem_cons.mpr ⟨ly_X10_16, List.forall_mem_cons.mpr ⟨ly_X10_17, List.forall_mem_cons.mpr ⟨ly_X10_18, List.forall_mem_cons.mpr ⟨ly_X10_19, List.forall_mem_cons.mpr ⟨ly_X10_20, List.forall_mem_cons.mpr ⟨ly_X10_21, List.forall_mem_cons.mpr ⟨ly_X10_22, List.forall_mem_cons.mpr ⟨ly_X10_23, List.forall_mem_cons.mpr ⟨ly_X10_24, List.forall_mem_cons.mpr ⟨ly_X10_25, List.forall_mem_cons.mpr ⟨ly_X10_26, List.forall_mem_cons.mpr ⟨ly_X10_27, List.forall_mem_cons.mpr ⟨ly_X10_28, List.forall_mem_cons.mpr ⟨ly_X10_29, List.forall_mem_cons.mpr ⟨ly_X10_30, List.forall_mem_cons.mpr ⟨ly_X10_31, List.forall_mem_cons.mpr ⟨ly_X10_32, List.forall_mem_cons.mpr ⟨ly_X10_33, List.forall_mem_cons.mpr ⟨ly_X10_34, List.forall_mem_cons.mpr ⟨ly_X10_35, List.forall_mem_cons.mpr ⟨ly_X10_36, List.forall_mem_cons.mpr ⟨ly_X10_37, List.forall_mem_cons.mpr ⟨ly_X10_38, List.forall_mem_cons.mpr ⟨ly_X10_39, List.forall_mem_cons.mpr ⟨ly_X10_40, List.forall_mem_cons.mpr ⟨ly_X10_41, List.forall_mem_cons.mpr ⟨ly_X10_42, List.forall_mem_nil _⟩⟩⟩⟩⟩⟩⟩⟩⟩⟩⟩⟩⟩⟩⟩⟩⟩⟩⟩⟩⟩⟩⟩⟩⟩⟩⟩⟩⟩⟩⟩⟩⟩⟩⟩⟩⟩⟩⟩⟩⟩⟩⟩
  exact h
