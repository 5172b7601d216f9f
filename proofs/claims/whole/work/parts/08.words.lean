theorem lw_run {w : Cond} (L : List Cond) (hL : ∀ w ∈ L, w ∈ tables_1) (i : Nat) (h : L[i]? = some w) (g : goodWord w = true) : w ∈ lw_good := List.mem_filter.mpr ⟨List.mem_append_right _ (hL w (List.mem_of_getElem? h)), g⟩
theorem lw_run1 : ∀ w ∈ tables_1_1, w ∈ tables_1 := fun w h => List.mem_append_left _ h
theorem lw_run2 : ∀ w ∈ tables_1_2, w ∈ tables_1 := fun w h => List.mem_append_right _ (List.mem_append_left _ h)
theorem lw_run3 : ∀ w ∈ tables_1_3, w ∈ tables_1 := fun w h => List.mem_append_right _ (List.mem_append_right _ (List.mem_append_left _ h))
theorem lw_run4 : ∀ w ∈ tables_1_4, w ∈ tables_1 := fun w h => List.mem_append_right _ (List.mem_append_right _ (List.mem_append_right _ (List.mem_append_left _ h)))
theorem lw_run5 : ∀ w ∈ tables_1_5, w ∈ tables_1 := fun w h => List.mem_append_right _ (List.mem_append_right _ (List.mem_append_right _ (List.mem_append_right _ (h))))
set_option maxRecDepth 20000 in
theorem q_0 : (Jvm.Cond.initialized "PlanTextLaw") ∈ lw_good := lw_run tables_1_1 lw_run1 0 rfl rfl
set_option maxRecDepth 20000 in
theorem q_1 : (Jvm.Cond.initialized "PlanText") ∈ lw_good := lw_run tables_1_1 lw_run1 1 rfl rfl
set_option maxRecDepth 20000 in
theorem q_2 : (Jvm.Cond.initialized "PlanText$Edition") ∈ lw_good := lw_run tables_1_1 lw_run1 2 rfl rfl
set_option maxRecDepth 20000 in
theorem q_3 : (Jvm.Cond.initialized "PlanText$NeedList") ∈ lw_good := lw_run tables_1_1 lw_run1 3 rfl rfl
set_option maxRecDepth 20000 in
theorem q_4 : (Jvm.Cond.initialized "PlanText$Printer") ∈ lw_good := lw_run tables_1_1 lw_run1 4 rfl rfl
set_option maxRecDepth 20000 in
theorem q_5 : (Jvm.Cond.initialized "PlanTextModel") ∈ lw_good := lw_run tables_1_1 lw_run1 5 rfl rfl
set_option maxRecDepth 20000 in
theorem q_9 : (Jvm.Cond.initialized "java/lang/IndexOutOfBoundsException") ∈ lw_good := lw_run tables_1_1 lw_run1 9 rfl rfl
set_option maxRecDepth 20000 in
theorem q_10 : (Jvm.Cond.initialized "java/lang/UnsupportedOperationException") ∈ lw_good := lw_run tables_1_1 lw_run1 10 rfl rfl
set_option maxRecDepth 20000 in
theorem q_11 : (Jvm.Cond.initialized "PlanText$Reader") ∈ lw_good := lw_run tables_1_1 lw_run1 11 rfl rfl
set_option maxRecDepth 20000 in
theorem q_12 : (Jvm.Cond.initialized "java/lang/Math") ∈ lw_good := lw_run tables_1_1 lw_run1 12 rfl rfl
set_option maxRecDepth 20000 in
theorem q_13 : (Jvm.Cond.initialized "PlanText$Stretch") ∈ lw_good := lw_run tables_1_1 lw_run1 13 rfl rfl
set_option maxRecDepth 20000 in
theorem q_14 : (Jvm.Cond.initialized "PlanText$Hours") ∈ lw_good := lw_run tables_1_1 lw_run1 14 rfl rfl
set_option maxRecDepth 20000 in
theorem q_15 : (Jvm.Cond.initialized "PlanText$Plan") ∈ lw_good := lw_run tables_1_1 lw_run1 15 rfl rfl
set_option maxRecDepth 20000 in
theorem q_16 : (Jvm.Cond.initialized "PlanText$Need") ∈ lw_good := lw_run tables_1_1 lw_run1 16 rfl rfl
set_option maxRecDepth 20000 in
theorem q_17 : (Jvm.Cond.initialized "PlanText$Standby") ∈ lw_good := lw_run tables_1_1 lw_run1 17 rfl rfl
set_option maxRecDepth 20000 in
theorem q_18 : (Jvm.Cond.initialized "java/lang/IllegalStateException") ∈ lw_good := lw_run tables_1_1 lw_run1 18 rfl rfl
set_option maxRecDepth 20000 in
theorem q_19 : (Jvm.Cond.initialized "java/lang/IllegalArgumentException") ∈ lw_good := lw_run tables_1_1 lw_run1 19 rfl rfl
set_option maxRecDepth 20000 in
theorem q_20 : (Jvm.Cond.classLink "PlanTextLaw" (8 : Nat) "PlanText") ∈ lw_good := lw_run tables_1_1 lw_run1 20 rfl rfl
set_option maxRecDepth 20000 in
theorem q_21 : (Jvm.Cond.instantiable "PlanText" (11 : Nat)) ∈ lw_good := lw_run tables_1_1 lw_run1 21 rfl rfl
set_option maxRecDepth 20000 in
theorem q_22 : (Jvm.Cond.methodLink "PlanTextLaw" (59 : Nat) ({ cls := "PlanText", name := "<init>", desc := "()V" } : Jvm.MethodName)) ∈ lw_good := lw_run tables_1_1 lw_run1 22 rfl rfl
set_option maxRecDepth 20000 in
theorem q_23 : (Jvm.Cond.instanceMethod ({ cls := "PlanText", name := "<init>", desc := "()V" } : Jvm.MethodName)) ∈ lw_good := lw_run tables_1_1 lw_run1 23 rfl rfl
set_option maxRecDepth 20000 in
theorem q_24 : (Jvm.Cond.code ({ cls := "PlanText", name := "<init>", desc := "()V" } : Jvm.MethodName) prog_1_method_1_code (1 : Nat) (Option.none : Option Jvm.ClassFile.FieldType)) ∈ lw_good := lw_run tables_1_1 lw_run1 24 rfl rfl
set_option maxRecDepth 20000 in
theorem q_25 : (Jvm.Cond.methodLink "PlanText" (1 : Nat) ({ cls := "java/lang/Object", name := "<init>", desc := "()V" } : Jvm.MethodName)) ∈ lw_good := lw_run tables_1_1 lw_run1 25 rfl rfl
set_option maxRecDepth 20000 in
theorem q_26 : (Jvm.Cond.instanceMethod ({ cls := "java/lang/Object", name := "<init>", desc := "()V" } : Jvm.MethodName)) ∈ lw_good := lw_run tables_1_1 lw_run1 26 rfl rfl
set_option maxRecDepth 20000 in
theorem q_27 : (Jvm.Cond.code ({ cls := "java/lang/Object", name := "<init>", desc := "()V" } : Jvm.MethodName) object_method_1_code (1 : Nat) (Option.none : Option Jvm.ClassFile.FieldType)) ∈ lw_good := lw_run tables_1_1 lw_run1 27 rfl rfl
set_option maxRecDepth 20000 in
theorem q_28 : (Jvm.Cond.classLink "PlanText" (24 : Nat) "PlanText$Edition") ∈ lw_good := lw_run tables_1_1 lw_run1 28 rfl rfl
set_option maxRecDepth 20000 in
theorem q_30 : (Jvm.Cond.instantiable "PlanText$Edition" (7 : Nat)) ∈ lw_good := lw_run tables_1_1 lw_run1 30 rfl rfl
set_option maxRecDepth 20000 in
theorem q_31 : (Jvm.Cond.methodLink "PlanText" (33 : Nat) ({ cls := "PlanText$Edition", name := "<init>", desc := "(I)V" } : Jvm.MethodName)) ∈ lw_good := lw_run tables_1_1 lw_run1 31 rfl rfl
set_option maxRecDepth 20000 in
theorem q_32 : (Jvm.Cond.instanceMethod ({ cls := "PlanText$Edition", name := "<init>", desc := "(I)V" } : Jvm.MethodName)) ∈ lw_good := lw_run tables_1_1 lw_run1 32 rfl rfl
set_option maxRecDepth 20000 in
theorem q_33 : (Jvm.Cond.code ({ cls := "PlanText$Edition", name := "<init>", desc := "(I)V" } : Jvm.MethodName) prog_2_method_1_code (2 : Nat) (Option.none : Option Jvm.ClassFile.FieldType)) ∈ lw_good := lw_run tables_1_1 lw_run1 33 rfl rfl
set_option maxRecDepth 20000 in
theorem q_34 : (Jvm.Cond.methodLink "PlanText$Edition" (3 : Nat) ({ cls := "java/lang/Object", name := "<init>", desc := "()V" } : Jvm.MethodName)) ∈ lw_good := lw_run tables_1_1 lw_run1 34 rfl rfl
set_option maxRecDepth 20000 in
theorem q_35 : (Jvm.Cond.classLink "PlanText$Edition" (9 : Nat) "PlanText$Plan") ∈ lw_good := lw_run tables_1_1 lw_run1 35 rfl rfl
set_option maxRecDepth 20000 in
theorem q_37 : (Jvm.Cond.classLink "PlanText$Edition" (17 : Nat) "PlanText$NeedList") ∈ lw_good := lw_run tables_1_1 lw_run1 37 rfl rfl
set_option maxRecDepth 20000 in
theorem q_39 : (Jvm.Cond.classLink "PlanText$Edition" (23 : Nat) "PlanText$Standby") ∈ lw_good := lw_run tables_1_1 lw_run1 39 rfl rfl
set_option maxRecDepth 20000 in
theorem q_41 : (Jvm.Cond.fieldLink "PlanText$Edition" (39 : Nat) "PlanText$Edition" "day" "I") ∈ lw_good := lw_run tables_1_1 lw_run1 41 rfl rfl
set_option maxRecDepth 20000 in
theorem q_42 : (Jvm.Cond.fieldLink "PlanText" (191 : Nat) "PlanText$Edition" "day" "I") ∈ lw_good := lw_run tables_1_1 lw_run1 42 rfl rfl
set_option maxRecDepth 20000 in
theorem q_43 : (Jvm.Cond.fieldLink "PlanText$Edition" (11 : Nat) "PlanText$Edition" "plans" "[LPlanText$Plan;") ∈ lw_good := lw_run tables_1_1 lw_run1 43 rfl rfl
set_option maxRecDepth 20000 in
theorem q_44 : (Jvm.Cond.fieldLink "PlanText$Edition" (19 : Nat) "PlanText$Edition" "defaults" "[LPlanText$NeedList;") ∈ lw_good := lw_run tables_1_1 lw_run1 44 rfl rfl
set_option maxRecDepth 20000 in
theorem q_45 : (Jvm.Cond.fieldLink "PlanText$Edition" (25 : Nat) "PlanText$Edition" "standbyRows" "[LPlanText$Standby;") ∈ lw_good := lw_run tables_1_1 lw_run1 45 rfl rfl
set_option maxRecDepth 20000 in
theorem q_46 : (Jvm.Cond.fieldLink "PlanText$Edition" (29 : Nat) "PlanText$Edition" "planCount" "I") ∈ lw_good := lw_run tables_1_1 lw_run1 46 rfl rfl
set_option maxRecDepth 20000 in
theorem q_47 : (Jvm.Cond.fieldLink "PlanText" (94 : Nat) "PlanText$Edition" "planCount" "I") ∈ lw_good := lw_run tables_1_1 lw_run1 47 rfl rfl
set_option maxRecDepth 20000 in
theorem q_48 : (Jvm.Cond.fieldLink "PlanText$Edition" (33 : Nat) "PlanText$Edition" "defaultCount" "I") ∈ lw_good := lw_run tables_1_1 lw_run1 48 rfl rfl
set_option maxRecDepth 20000 in
theorem q_49 : (Jvm.Cond.fieldLink "PlanText" (185 : Nat) "PlanText$Edition" "defaultCount" "I") ∈ lw_good := lw_run tables_1_1 lw_run1 49 rfl rfl
set_option maxRecDepth 20000 in
theorem q_50 : (Jvm.Cond.fieldLink "PlanText$Edition" (36 : Nat) "PlanText$Edition" "standbyCount" "I") ∈ lw_good := lw_run tables_1_1 lw_run1 50 rfl rfl
set_option maxRecDepth 20000 in
theorem q_51 : (Jvm.Cond.fieldLink "PlanText" (188 : Nat) "PlanText$Edition" "standbyCount" "I") ∈ lw_good := lw_run tables_1_1 lw_run1 51 rfl rfl
set_option maxRecDepth 20000 in
theorem q_67 : (Jvm.Cond.arrayClass Jvm.ClassFile.FieldType.byte) ∈ lw_good := lw_run tables_1_1 lw_run1 67 rfl rfl
set_option maxRecDepth 20000 in
theorem q_68 : (Jvm.Cond.arrayClass Jvm.ClassFile.FieldType.int) ∈ lw_good := lw_run tables_1_1 lw_run1 68 rfl rfl
set_option maxRecDepth 20000 in
theorem q_69 : (Jvm.Cond.classLink "PlanText" (43 : Nat) "PlanText$NeedList") ∈ lw_good := lw_run tables_1_1 lw_run1 69 rfl rfl
set_option maxRecDepth 20000 in
theorem q_70 : (Jvm.Cond.instantiable "PlanText$NeedList" (2 : Nat)) ∈ lw_good := lw_run tables_1_1 lw_run1 70 rfl rfl
set_option maxRecDepth 20000 in
theorem q_72 : (Jvm.Cond.instanceMethod ({ cls := "PlanText$NeedList", name := "<init>", desc := "()V" } : Jvm.MethodName)) ∈ lw_good := lw_run tables_1_1 lw_run1 72 rfl rfl
set_option maxRecDepth 20000 in
theorem q_73 : (Jvm.Cond.code ({ cls := "PlanText$NeedList", name := "<init>", desc := "()V" } : Jvm.MethodName) prog_5_method_1_code (1 : Nat) (Option.none : Option Jvm.ClassFile.FieldType)) ∈ lw_good := lw_run tables_1_1 lw_run1 73 rfl rfl
set_option maxRecDepth 20000 in
theorem q_74 : (Jvm.Cond.methodLink "PlanText$NeedList" (3 : Nat) ({ cls := "java/lang/Object", name := "<init>", desc := "()V" } : Jvm.MethodName)) ∈ lw_good := lw_run tables_1_1 lw_run1 74 rfl rfl
set_option maxRecDepth 20000 in
theorem q_75 : (Jvm.Cond.classLink "PlanText$NeedList" (9 : Nat) "PlanText$Need") ∈ lw_good := lw_run tables_1_1 lw_run1 75 rfl rfl
set_option maxRecDepth 20000 in
theorem q_77 : (Jvm.Cond.fieldLink "PlanText$NeedList" (11 : Nat) "PlanText$NeedList" "needs" "[LPlanText$Need;") ∈ lw_good := lw_run tables_1_1 lw_run1 77 rfl rfl
set_option maxRecDepth 20000 in
theorem q_78 : (Jvm.Cond.fieldLink "PlanText$NeedList" (17 : Nat) "PlanText$NeedList" "size" "I") ∈ lw_good := lw_run tables_1_1 lw_run1 78 rfl rfl
set_option maxRecDepth 20000 in
theorem q_84 : (Jvm.Cond.classLink "PlanText" (53 : Nat) "PlanText$Printer") ∈ lw_good := lw_run tables_1_1 lw_run1 84 rfl rfl
set_option maxRecDepth 20000 in
theorem q_85 : (Jvm.Cond.instantiable "PlanText$Printer" (2 : Nat)) ∈ lw_good := lw_run tables_1_1 lw_run1 85 rfl rfl
set_option maxRecDepth 20000 in
theorem q_87 : (Jvm.Cond.instanceMethod ({ cls := "PlanText$Printer", name := "<init>", desc := "()V" } : Jvm.MethodName)) ∈ lw_good := lw_run tables_1_1 lw_run1 87 rfl rfl
set_option maxRecDepth 20000 in
theorem q_88 : (Jvm.Cond.code ({ cls := "PlanText$Printer", name := "<init>", desc := "()V" } : Jvm.MethodName) prog_7_method_1_code (1 : Nat) (Option.none : Option Jvm.ClassFile.FieldType)) ∈ lw_good := lw_run tables_1_1 lw_run1 88 rfl rfl
set_option maxRecDepth 20000 in
theorem q_89 : (Jvm.Cond.methodLink "PlanText$Printer" (3 : Nat) ({ cls := "java/lang/Object", name := "<init>", desc := "()V" } : Jvm.MethodName)) ∈ lw_good := lw_run tables_1_1 lw_run1 89 rfl rfl
set_option maxRecDepth 20000 in
theorem q_90 : (Jvm.Cond.fieldLink "PlanText$Printer" (9 : Nat) "PlanText$Printer" "bytes" "[B") ∈ lw_good := lw_run tables_1_1 lw_run1 90 rfl rfl
set_option maxRecDepth 20000 in
theorem q_91 : (Jvm.Cond.fieldLink "PlanText$Printer" (15 : Nat) "PlanText$Printer" "length" "I") ∈ lw_good := lw_run tables_1_1 lw_run1 91 rfl rfl
set_option maxRecDepth 20000 in
theorem q_92 : (Jvm.Cond.fieldLink "PlanText" (179 : Nat) "PlanText$Printer" "length" "I") ∈ lw_good := lw_run tables_1_1 lw_run1 92 rfl rfl
set_option maxRecDepth 20000 in
theorem q_98 : (Jvm.Cond.fieldLink "PlanText" (9 : Nat) "PlanText" "tape" "[B") ∈ lw_good := lw_run tables_1_1 lw_run1 98 rfl rfl
set_option maxRecDepth 20000 in
theorem q_99 : (Jvm.Cond.fieldLink "PlanText" (13 : Nat) "PlanText" "tapeLength" "I") ∈ lw_good := lw_run tables_1_1 lw_run1 99 rfl rfl
set_option maxRecDepth 20000 in
theorem q_100 : (Jvm.Cond.fieldLink "PlanText" (17 : Nat) "PlanText" "wrongPlace" "I") ∈ lw_good := lw_run tables_1_1 lw_run1 100 rfl rfl
set_option maxRecDepth 20000 in
theorem q_101 : (Jvm.Cond.fieldLink "PlanText" (20 : Nat) "PlanText" "units" "[I") ∈ lw_good := lw_run tables_1_1 lw_run1 101 rfl rfl
set_option maxRecDepth 20000 in
theorem q_102 : (Jvm.Cond.fieldLink "PlanText" (26 : Nat) "PlanText" "editions" "[LPlanText$Edition;") ∈ lw_good := lw_run tables_1_1 lw_run1 102 rfl rfl
set_option maxRecDepth 20000 in
theorem q_103 : (Jvm.Cond.fieldLink "PlanText" (30 : Nat) "PlanText" "editionCount" "I") ∈ lw_good := lw_run tables_1_1 lw_run1 103 rfl rfl
set_option maxRecDepth 20000 in
theorem q_104 : (Jvm.Cond.fieldLink "PlanText" (36 : Nat) "PlanText" "noRows" "LPlanText$Edition;") ∈ lw_good := lw_run tables_1_1 lw_run1 104 rfl rfl
set_option maxRecDepth 20000 in
theorem q_105 : (Jvm.Cond.fieldLink "PlanText" (40 : Nat) "PlanText" "latest" "LPlanText$Edition;") ∈ lw_good := lw_run tables_1_1 lw_run1 105 rfl rfl
set_option maxRecDepth 20000 in
theorem q_106 : (Jvm.Cond.fieldLink "PlanText" (46 : Nat) "PlanText" "noNeeds" "LPlanText$NeedList;") ∈ lw_good := lw_run tables_1_1 lw_run1 106 rfl rfl
set_option maxRecDepth 20000 in
theorem q_107 : (Jvm.Cond.fieldLink "PlanText" (50 : Nat) "PlanText" "toldNeeds" "LPlanText$NeedList;") ∈ lw_good := lw_run tables_1_1 lw_run1 107 rfl rfl
set_option maxRecDepth 20000 in
theorem q_108 : (Jvm.Cond.fieldLink "PlanText" (56 : Nat) "PlanText" "printer" "LPlanText$Printer;") ∈ lw_good := lw_run tables_1_1 lw_run1 108 rfl rfl
set_option maxRecDepth 20000 in
theorem q_132 : (Jvm.Cond.methodLink "PlanTextLaw" (79 : Nat) ({ cls := "PlanText", name := "place", desc := "()I" } : Jvm.MethodName)) ∈ lw_good := lw_run tables_1_1 lw_run1 132 rfl rfl
set_option maxRecDepth 20000 in
theorem q_133 : (Jvm.Cond.instanceMethod ({ cls := "PlanText", name := "place", desc := "()I" } : Jvm.MethodName)) ∈ lw_good := lw_run tables_1_1 lw_run1 133 rfl rfl
set_option maxRecDepth 20000 in
theorem q_134 : (Jvm.Cond.selects "PlanText" ({ cls := "PlanText", name := "place", desc := "()I" } : Jvm.MethodName) ({ cls := "PlanText", name := "place", desc := "()I" } : Jvm.MethodName)) ∈ lw_good := lw_run tables_1_1 lw_run1 134 rfl rfl
set_option maxRecDepth 20000 in
theorem q_135 : (Jvm.Cond.code ({ cls := "PlanText", name := "place", desc := "()I" } : Jvm.MethodName) prog_1_method_4_code (1 : Nat) (Option.some Jvm.ClassFile.FieldType.int)) ∈ lw_good := lw_run tables_1_1 lw_run1 135 rfl rfl
set_option maxRecDepth 20000 in
theorem q_136 : (Jvm.Cond.methodLink "PlanTextLaw" (65 : Nat) ({ cls := "PlanTextLaw", name := "sign", desc := "(LPlanText;JI[J)I" } : Jvm.MethodName)) ∈ lw_good := lw_run tables_1_1 lw_run1 136 rfl rfl
set_option maxRecDepth 20000 in
theorem q_137 : (Jvm.Cond.static ({ cls := "PlanTextLaw", name := "sign", desc := "(LPlanText;JI[J)I" } : Jvm.MethodName)) ∈ lw_good := lw_run tables_1_1 lw_run1 137 rfl rfl
set_option maxRecDepth 20000 in
theorem q_138 : (Jvm.Cond.codeWith ({ cls := "PlanTextLaw", name := "sign", desc := "(LPlanText;JI[J)I" } : Jvm.MethodName) method_3_code (6 : Nat) (Option.some Jvm.ClassFile.FieldType.int) [((0 : Nat), (11 : Nat), (14 : Nat), (13 : Nat)), ((0 : Nat), (11 : Nat), (18 : Nat), (15 : Nat))]) ∈ lw_good := lw_run tables_1_1 lw_run1 138 rfl rfl
set_option maxRecDepth 20000 in
theorem q_139 : (Jvm.Cond.classLink "PlanTextLaw" (13 : Nat) "java/lang/IndexOutOfBoundsException") ∈ lw_good := lw_run tables_1_1 lw_run1 139 rfl rfl
set_option maxRecDepth 20000 in
theorem q_140 : (Jvm.Cond.classLink "PlanTextLaw" (15 : Nat) "java/lang/UnsupportedOperationException") ∈ lw_good := lw_run tables_1_1 lw_run1 140 rfl rfl
set_option maxRecDepth 20000 in
theorem q_141 : (Jvm.Cond.methodLink "PlanTextLaw" (7 : Nat) ({ cls := "PlanText", name := "sign", desc := "(JI)I" } : Jvm.MethodName)) ∈ lw_good := lw_run tables_1_1 lw_run1 141 rfl rfl
set_option maxRecDepth 20000 in
theorem q_142 : (Jvm.Cond.instanceMethod ({ cls := "PlanText", name := "sign", desc := "(JI)I" } : Jvm.MethodName)) ∈ lw_good := lw_run tables_1_1 lw_run1 142 rfl rfl
set_option maxRecDepth 20000 in
theorem q_143 : (Jvm.Cond.selects "PlanText" ({ cls := "PlanText", name := "sign", desc := "(JI)I" } : Jvm.MethodName) ({ cls := "PlanText", name := "sign", desc := "(JI)I" } : Jvm.MethodName)) ∈ lw_good := lw_run tables_1_1 lw_run1 143 rfl rfl
set_option maxRecDepth 20000 in
theorem q_144 : (Jvm.Cond.code ({ cls := "PlanText", name := "sign", desc := "(JI)I" } : Jvm.MethodName) prog_1_method_2_code (5 : Nat) (Option.some Jvm.ClassFile.FieldType.int)) ∈ lw_good := lw_run tables_1_1 lw_run1 144 rfl rfl
set_option maxRecDepth 20000 in
theorem q_145 : (Jvm.Cond.classLink "PlanText" (60 : Nat) "java/lang/IndexOutOfBoundsException") ∈ lw_good := lw_run tables_1_1 lw_run1 145 rfl rfl
set_option maxRecDepth 20000 in
theorem q_213 : (Jvm.Cond.classLink "PlanText" (67 : Nat) "java/lang/UnsupportedOperationException") ∈ lw_good := lw_run tables_1_1 lw_run1 213 rfl rfl
set_option maxRecDepth 20000 in
theorem q_229 : (Jvm.Cond.methodLink "PlanTextLaw" (75 : Nat) ({ cls := "PlanTextLaw", name := "read", desc := "(LPlanText;I[J)I" } : Jvm.MethodName)) ∈ lw_good := lw_run tables_1_1 lw_run1 229 rfl rfl
set_option maxRecDepth 20000 in
theorem q_230 : (Jvm.Cond.static ({ cls := "PlanTextLaw", name := "read", desc := "(LPlanText;I[J)I" } : Jvm.MethodName)) ∈ lw_good := lw_run tables_1_1 lw_run1 230 rfl rfl
set_option maxRecDepth 20000 in
theorem q_231 : (Jvm.Cond.codeWith ({ cls := "PlanTextLaw", name := "read", desc := "(LPlanText;I[J)I" } : Jvm.MethodName) method_4_code (4 : Nat) (Option.some Jvm.ClassFile.FieldType.int) [((0 : Nat), (9 : Nat), (12 : Nat), (13 : Nat)), ((0 : Nat), (9 : Nat), (15 : Nat), (21 : Nat)), ((0 : Nat), (9 : Nat), (18 : Nat), (15 : Nat))]) ∈ lw_good := lw_run tables_1_1 lw_run1 231 rfl rfl
set_option maxRecDepth 20000 in
theorem q_232 : (Jvm.Cond.classLink "PlanTextLaw" (21 : Nat) "java/lang/IllegalStateException") ∈ lw_good := lw_run tables_1_1 lw_run1 232 rfl rfl
set_option maxRecDepth 20000 in
theorem q_233 : (Jvm.Cond.methodLink "PlanTextLaw" (17 : Nat) ({ cls := "PlanText", name := "read", desc := "(I)I" } : Jvm.MethodName)) ∈ lw_good := lw_run tables_1_1 lw_run1 233 rfl rfl
set_option maxRecDepth 20000 in
theorem q_234 : (Jvm.Cond.instanceMethod ({ cls := "PlanText", name := "read", desc := "(I)I" } : Jvm.MethodName)) ∈ lw_good := lw_run tables_1_1 lw_run1 234 rfl rfl
set_option maxRecDepth 20000 in
theorem q_235 : (Jvm.Cond.selects "PlanText" ({ cls := "PlanText", name := "read", desc := "(I)I" } : Jvm.MethodName) ({ cls := "PlanText", name := "read", desc := "(I)I" } : Jvm.MethodName)) ∈ lw_good := lw_run tables_1_1 lw_run1 235 rfl rfl
set_option maxRecDepth 20000 in
theorem q_236 : (Jvm.Cond.code ({ cls := "PlanText", name := "read", desc := "(I)I" } : Jvm.MethodName) prog_1_method_3_code (4 : Nat) (Option.some Jvm.ClassFile.FieldType.int)) ∈ lw_good := lw_run tables_1_1 lw_run1 236 rfl rfl
set_option maxRecDepth 20000 in
theorem q_237 : (Jvm.Cond.methodLink "PlanText" (72 : Nat) ({ cls := "PlanText", name := "requireDay", desc := "(I)V" } : Jvm.MethodName)) ∈ lw_good := lw_run tables_1_1 lw_run1 237 rfl rfl
set_option maxRecDepth 20000 in
theorem q_238 : (Jvm.Cond.static ({ cls := "PlanText", name := "requireDay", desc := "(I)V" } : Jvm.MethodName)) ∈ lw_good := lw_run tables_1_1 lw_run1 238 rfl rfl
set_option maxRecDepth 20000 in
theorem q_239 : (Jvm.Cond.code ({ cls := "PlanText", name := "requireDay", desc := "(I)V" } : Jvm.MethodName) prog_1_method_18_code (1 : Nat) (Option.none : Option Jvm.ClassFile.FieldType)) ∈ lw_good := lw_run tables_1_1 lw_run1 239 rfl rfl
set_option maxRecDepth 20000 in
theorem q_240 : (Jvm.Cond.methodLink "PlanText" (100 : Nat) ({ cls := "PlanText", name := "requireWithin", desc := "(III)V" } : Jvm.MethodName)) ∈ lw_good := lw_run tables_1_2 lw_run2 0 rfl rfl
set_option maxRecDepth 20000 in
theorem q_241 : (Jvm.Cond.static ({ cls := "PlanText", name := "requireWithin", desc := "(III)V" } : Jvm.MethodName)) ∈ lw_good := lw_run tables_1_2 lw_run2 1 rfl rfl
set_option maxRecDepth 20000 in
theorem q_242 : (Jvm.Cond.code ({ cls := "PlanText", name := "requireWithin", desc := "(III)V" } : Jvm.MethodName) prog_1_method_20_code (3 : Nat) (Option.none : Option Jvm.ClassFile.FieldType)) ∈ lw_good := lw_run tables_1_2 lw_run2 2 rfl rfl
set_option maxRecDepth 20000 in
theorem q_244 : (Jvm.Cond.classLink "PlanText" (75 : Nat) "PlanText$Reader") ∈ lw_good := lw_run tables_1_2 lw_run2 4 rfl rfl
set_option maxRecDepth 20000 in
theorem q_245 : (Jvm.Cond.instantiable "PlanText$Reader" (4 : Nat)) ∈ lw_good := lw_run tables_1_2 lw_run2 5 rfl rfl
set_option maxRecDepth 20000 in
theorem q_246 : (Jvm.Cond.methodLink "PlanText" (77 : Nat) ({ cls := "PlanText$Reader", name := "<init>", desc := "([BI)V" } : Jvm.MethodName)) ∈ lw_good := lw_run tables_1_2 lw_run2 6 rfl rfl
set_option maxRecDepth 20000 in
theorem q_247 : (Jvm.Cond.instanceMethod ({ cls := "PlanText$Reader", name := "<init>", desc := "([BI)V" } : Jvm.MethodName)) ∈ lw_good := lw_run tables_1_2 lw_run2 7 rfl rfl
set_option maxRecDepth 20000 in
theorem q_248 : (Jvm.Cond.code ({ cls := "PlanText$Reader", name := "<init>", desc := "([BI)V" } : Jvm.MethodName) prog_8_method_1_code (3 : Nat) (Option.none : Option Jvm.ClassFile.FieldType)) ∈ lw_good := lw_run tables_1_2 lw_run2 8 rfl rfl
set_option maxRecDepth 20000 in
theorem q_249 : (Jvm.Cond.methodLink "PlanText$Reader" (3 : Nat) ({ cls := "java/lang/Object", name := "<init>", desc := "()V" } : Jvm.MethodName)) ∈ lw_good := lw_run tables_1_2 lw_run2 9 rfl rfl
set_option maxRecDepth 20000 in
theorem q_250 : (Jvm.Cond.methodLink "PlanText$Reader" (22 : Nat) ({ cls := "java/lang/Math", name := "min", desc := "(II)I" } : Jvm.MethodName)) ∈ lw_good := lw_run tables_1_2 lw_run2 10 rfl rfl
set_option maxRecDepth 20000 in
theorem q_251 : (Jvm.Cond.static ({ cls := "java/lang/Math", name := "min", desc := "(II)I" } : Jvm.MethodName)) ∈ lw_good := lw_run tables_1_2 lw_run2 11 rfl rfl
set_option maxRecDepth 20000 in
theorem q_252 : (Jvm.Cond.code ({ cls := "java/lang/Math", name := "min", desc := "(II)I" } : Jvm.MethodName) prog_17_method_69_code (2 : Nat) (Option.some Jvm.ClassFile.FieldType.int)) ∈ lw_good := lw_run tables_1_2 lw_run2 12 rfl rfl
set_option maxRecDepth 20000 in
theorem q_253 : (Jvm.Cond.fieldLink "PlanText$Reader" (18 : Nat) "PlanText$Reader" "text" "[B") ∈ lw_good := lw_run tables_1_2 lw_run2 13 rfl rfl
set_option maxRecDepth 20000 in
theorem q_254 : (Jvm.Cond.fieldLink "PlanText$Reader" (28 : Nat) "PlanText$Reader" "length" "I") ∈ lw_good := lw_run tables_1_2 lw_run2 14 rfl rfl
set_option maxRecDepth 20000 in
theorem q_255 : (Jvm.Cond.fieldLink "PlanText$Reader" (9 : Nat) "PlanText$Reader" "position" "I") ∈ lw_good := lw_run tables_1_2 lw_run2 15 rfl rfl
set_option maxRecDepth 20000 in
theorem q_256 : (Jvm.Cond.fieldLink "PlanText$Reader" (15 : Nat) "PlanText$Reader" "wrongAt" "I") ∈ lw_good := lw_run tables_1_2 lw_run2 16 rfl rfl
set_option maxRecDepth 20000 in
theorem q_257 : (Jvm.Cond.fieldLink "PlanText" (84 : Nat) "PlanText$Reader" "wrongAt" "I") ∈ lw_good := lw_run tables_1_2 lw_run2 17 rfl rfl
set_option maxRecDepth 20000 in
theorem q_267 : (Jvm.Cond.methodLink "PlanText" (80 : Nat) ({ cls := "PlanText$Reader", name := "readEdition", desc := "(I)LPlanText$Edition;" } : Jvm.MethodName)) ∈ lw_good := lw_run tables_1_2 lw_run2 27 rfl rfl
set_option maxRecDepth 20000 in
theorem q_268 : (Jvm.Cond.instanceMethod ({ cls := "PlanText$Reader", name := "readEdition", desc := "(I)LPlanText$Edition;" } : Jvm.MethodName)) ∈ lw_good := lw_run tables_1_2 lw_run2 28 rfl rfl
set_option maxRecDepth 20000 in
theorem q_269 : (Jvm.Cond.selects "PlanText$Reader" ({ cls := "PlanText$Reader", name := "readEdition", desc := "(I)LPlanText$Edition;" } : Jvm.MethodName) ({ cls := "PlanText$Reader", name := "readEdition", desc := "(I)LPlanText$Edition;" } : Jvm.MethodName)) ∈ lw_good := lw_run tables_1_2 lw_run2 29 rfl rfl
set_option maxRecDepth 20000 in
theorem q_270 : (Jvm.Cond.code ({ cls := "PlanText$Reader", name := "readEdition", desc := "(I)LPlanText$Edition;" } : Jvm.MethodName) prog_8_method_2_code (4 : Nat) (Option.some (Jvm.ClassFile.FieldType.object "PlanText$Edition"))) ∈ lw_good := lw_run tables_1_2 lw_run2 30 rfl rfl
set_option maxRecDepth 20000 in
theorem q_271 : (Jvm.Cond.classLink "PlanText$Reader" (31 : Nat) "PlanText$Edition") ∈ lw_good := lw_run tables_1_2 lw_run2 31 rfl rfl
set_option maxRecDepth 20000 in
theorem q_272 : (Jvm.Cond.methodLink "PlanText$Reader" (33 : Nat) ({ cls := "PlanText$Edition", name := "<init>", desc := "(I)V" } : Jvm.MethodName)) ∈ lw_good := lw_run tables_1_2 lw_run2 32 rfl rfl
set_option maxRecDepth 20000 in
theorem q_273 : (Jvm.Cond.methodLink "PlanText$Reader" (36 : Nat) ({ cls := "PlanText$Reader", name := "nextSign", desc := "()I" } : Jvm.MethodName)) ∈ lw_good := lw_run tables_1_2 lw_run2 33 rfl rfl
set_option maxRecDepth 20000 in
theorem q_275 : (Jvm.Cond.instanceMethod ({ cls := "PlanText$Reader", name := "nextSign", desc := "()I" } : Jvm.MethodName)) ∈ lw_good := lw_run tables_1_2 lw_run2 35 rfl rfl
set_option maxRecDepth 20000 in
theorem q_276 : (Jvm.Cond.code ({ cls := "PlanText$Reader", name := "nextSign", desc := "()I" } : Jvm.MethodName) prog_8_method_14_code (1 : Nat) (Option.some Jvm.ClassFile.FieldType.int)) ∈ lw_good := lw_run tables_1_2 lw_run2 36 rfl rfl
set_option maxRecDepth 20000 in
theorem q_277 : (Jvm.Cond.methodLink "PlanText$Reader" (40 : Nat) ({ cls := "PlanText$Reader", name := "takes", desc := "(C)Z" } : Jvm.MethodName)) ∈ lw_good := lw_run tables_1_2 lw_run2 37 rfl rfl
set_option maxRecDepth 20000 in
theorem q_279 : (Jvm.Cond.instanceMethod ({ cls := "PlanText$Reader", name := "takes", desc := "(C)Z" } : Jvm.MethodName)) ∈ lw_good := lw_run tables_1_2 lw_run2 39 rfl rfl
set_option maxRecDepth 20000 in
theorem q_280 : (Jvm.Cond.code ({ cls := "PlanText$Reader", name := "takes", desc := "(C)Z" } : Jvm.MethodName) prog_8_method_13_code (2 : Nat) (Option.some Jvm.ClassFile.FieldType.boolean)) ∈ lw_good := lw_run tables_1_2 lw_run2 40 rfl rfl
set_option maxRecDepth 20000 in
theorem q_281 : (Jvm.Cond.methodLink "PlanText$Reader" (44 : Nat) ({ cls := "PlanText$Reader", name := "readPlan", desc := "(LPlanText$Edition;)V" } : Jvm.MethodName)) ∈ lw_good := lw_run tables_1_2 lw_run2 41 rfl rfl
set_option maxRecDepth 20000 in
theorem q_283 : (Jvm.Cond.instanceMethod ({ cls := "PlanText$Reader", name := "readPlan", desc := "(LPlanText$Edition;)V" } : Jvm.MethodName)) ∈ lw_good := lw_run tables_1_2 lw_run2 43 rfl rfl
set_option maxRecDepth 20000 in
theorem q_284 : (Jvm.Cond.code ({ cls := "PlanText$Reader", name := "readPlan", desc := "(LPlanText$Edition;)V" } : Jvm.MethodName) prog_8_method_3_code (7 : Nat) (Option.none : Option Jvm.ClassFile.FieldType)) ∈ lw_good := lw_run tables_1_2 lw_run2 44 rfl rfl
set_option maxRecDepth 20000 in
theorem q_285 : (Jvm.Cond.methodLink "PlanText$Reader" (65 : Nat) ({ cls := "PlanText$Reader", name := "readNumber", desc := "(II)I" } : Jvm.MethodName)) ∈ lw_good := lw_run tables_1_2 lw_run2 45 rfl rfl
set_option maxRecDepth 20000 in
theorem q_287 : (Jvm.Cond.instanceMethod ({ cls := "PlanText$Reader", name := "readNumber", desc := "(II)I" } : Jvm.MethodName)) ∈ lw_good := lw_run tables_1_2 lw_run2 47 rfl rfl
set_option maxRecDepth 20000 in
theorem q_288 : (Jvm.Cond.code ({ cls := "PlanText$Reader", name := "readNumber", desc := "(II)I" } : Jvm.MethodName) prog_8_method_11_code (6 : Nat) (Option.some Jvm.ClassFile.FieldType.int)) ∈ lw_good := lw_run tables_1_2 lw_run2 48 rfl rfl
set_option maxRecDepth 20000 in
theorem q_289 : (Jvm.Cond.methodLink "PlanText$Reader" (140 : Nat) ({ cls := "PlanText$Reader", name := "isDigit", desc := "(I)Z" } : Jvm.MethodName)) ∈ lw_good := lw_run tables_1_2 lw_run2 49 rfl rfl
set_option maxRecDepth 20000 in
theorem q_290 : (Jvm.Cond.static ({ cls := "PlanText$Reader", name := "isDigit", desc := "(I)Z" } : Jvm.MethodName)) ∈ lw_good := lw_run tables_1_2 lw_run2 50 rfl rfl
set_option maxRecDepth 20000 in
theorem q_291 : (Jvm.Cond.code ({ cls := "PlanText$Reader", name := "isDigit", desc := "(I)Z" } : Jvm.MethodName) prog_8_method_16_code (1 : Nat) (Option.some Jvm.ClassFile.FieldType.boolean)) ∈ lw_good := lw_run tables_1_2 lw_run2 51 rfl rfl
set_option maxRecDepth 20000 in
theorem q_292 : (Jvm.Cond.methodLink "PlanText$Reader" (58 : Nat) ({ cls := "PlanText$Reader", name := "fail", desc := "(I)V" } : Jvm.MethodName)) ∈ lw_good := lw_run tables_1_2 lw_run2 52 rfl rfl
set_option maxRecDepth 20000 in
theorem q_294 : (Jvm.Cond.instanceMethod ({ cls := "PlanText$Reader", name := "fail", desc := "(I)V" } : Jvm.MethodName)) ∈ lw_good := lw_run tables_1_2 lw_run2 54 rfl rfl
set_option maxRecDepth 20000 in
theorem q_295 : (Jvm.Cond.code ({ cls := "PlanText$Reader", name := "fail", desc := "(I)V" } : Jvm.MethodName) prog_8_method_17_code (2 : Nat) (Option.none : Option Jvm.ClassFile.FieldType)) ∈ lw_good := lw_run tables_1_2 lw_run2 55 rfl rfl
set_option maxRecDepth 20000 in
theorem q_296 : (Jvm.Cond.methodLink "PlanText$Reader" (144 : Nat) ({ cls := "PlanText$Reader", name := "byteAt", desc := "(I)I" } : Jvm.MethodName)) ∈ lw_good := lw_run tables_1_2 lw_run2 56 rfl rfl
set_option maxRecDepth 20000 in
theorem q_298 : (Jvm.Cond.instanceMethod ({ cls := "PlanText$Reader", name := "byteAt", desc := "(I)I" } : Jvm.MethodName)) ∈ lw_good := lw_run tables_1_2 lw_run2 58 rfl rfl
set_option maxRecDepth 20000 in
theorem q_299 : (Jvm.Cond.code ({ cls := "PlanText$Reader", name := "byteAt", desc := "(I)I" } : Jvm.MethodName) prog_8_method_15_code (2 : Nat) (Option.some Jvm.ClassFile.FieldType.int)) ∈ lw_good := lw_run tables_1_2 lw_run2 59 rfl rfl
set_option maxRecDepth 20000 in
theorem q_300 : (Jvm.Cond.methodLink "PlanText$Reader" (68 : Nat) ({ cls := "PlanText$Edition", name := "planNumbered", desc := "(I)LPlanText$Plan;" } : Jvm.MethodName)) ∈ lw_good := lw_run tables_1_2 lw_run2 60 rfl rfl
set_option maxRecDepth 20000 in
theorem q_301 : (Jvm.Cond.instanceMethod ({ cls := "PlanText$Edition", name := "planNumbered", desc := "(I)LPlanText$Plan;" } : Jvm.MethodName)) ∈ lw_good := lw_run tables_1_2 lw_run2 61 rfl rfl
set_option maxRecDepth 20000 in
theorem q_302 : (Jvm.Cond.selects "PlanText$Edition" ({ cls := "PlanText$Edition", name := "planNumbered", desc := "(I)LPlanText$Plan;" } : Jvm.MethodName) ({ cls := "PlanText$Edition", name := "planNumbered", desc := "(I)LPlanText$Plan;" } : Jvm.MethodName)) ∈ lw_good := lw_run tables_1_2 lw_run2 62 rfl rfl
set_option maxRecDepth 20000 in
theorem q_303 : (Jvm.Cond.code ({ cls := "PlanText$Edition", name := "planNumbered", desc := "(I)LPlanText$Plan;" } : Jvm.MethodName) prog_2_method_2_code (2 : Nat) (Option.some (Jvm.ClassFile.FieldType.object "PlanText$Plan"))) ∈ lw_good := lw_run tables_1_2 lw_run2 63 rfl rfl
set_option maxRecDepth 20000 in
theorem q_304 : (Jvm.Cond.methodLink "PlanText$Reader" (61 : Nat) ({ cls := "PlanText$Reader", name := "expect", desc := "(C)V" } : Jvm.MethodName)) ∈ lw_good := lw_run tables_1_2 lw_run2 64 rfl rfl
set_option maxRecDepth 20000 in
theorem q_306 : (Jvm.Cond.instanceMethod ({ cls := "PlanText$Reader", name := "expect", desc := "(C)V" } : Jvm.MethodName)) ∈ lw_good := lw_run tables_1_2 lw_run2 66 rfl rfl
set_option maxRecDepth 20000 in
theorem q_307 : (Jvm.Cond.code ({ cls := "PlanText$Reader", name := "expect", desc := "(C)V" } : Jvm.MethodName) prog_8_method_12_code (2 : Nat) (Option.none : Option Jvm.ClassFile.FieldType)) ∈ lw_good := lw_run tables_1_2 lw_run2 67 rfl rfl
set_option maxRecDepth 20000 in
theorem q_308 : (Jvm.Cond.methodLink "PlanText$Reader" (72 : Nat) ({ cls := "PlanText$Reader", name := "readStretch", desc := "()LPlanText$Stretch;" } : Jvm.MethodName)) ∈ lw_good := lw_run tables_1_2 lw_run2 68 rfl rfl
set_option maxRecDepth 20000 in
theorem q_310 : (Jvm.Cond.instanceMethod ({ cls := "PlanText$Reader", name := "readStretch", desc := "()LPlanText$Stretch;" } : Jvm.MethodName)) ∈ lw_good := lw_run tables_1_2 lw_run2 70 rfl rfl
set_option maxRecDepth 20000 in
theorem q_311 : (Jvm.Cond.code ({ cls := "PlanText$Reader", name := "readStretch", desc := "()LPlanText$Stretch;" } : Jvm.MethodName) prog_8_method_6_code (3 : Nat) (Option.some (Jvm.ClassFile.FieldType.object "PlanText$Stretch"))) ∈ lw_good := lw_run tables_1_2 lw_run2 71 rfl rfl
set_option maxRecDepth 20000 in
theorem q_312 : (Jvm.Cond.classLink "PlanText$Reader" (76 : Nat) "PlanText$Stretch") ∈ lw_good := lw_run tables_1_2 lw_run2 72 rfl rfl
set_option maxRecDepth 20000 in
theorem q_313 : (Jvm.Cond.instantiable "PlanText$Stretch" (3 : Nat)) ∈ lw_good := lw_run tables_1_2 lw_run2 73 rfl rfl
set_option maxRecDepth 20000 in
theorem q_314 : (Jvm.Cond.methodLink "PlanText$Reader" (78 : Nat) ({ cls := "PlanText$Stretch", name := "<init>", desc := "(III)V" } : Jvm.MethodName)) ∈ lw_good := lw_run tables_1_2 lw_run2 74 rfl rfl
set_option maxRecDepth 20000 in
theorem q_315 : (Jvm.Cond.instanceMethod ({ cls := "PlanText$Stretch", name := "<init>", desc := "(III)V" } : Jvm.MethodName)) ∈ lw_good := lw_run tables_1_2 lw_run2 75 rfl rfl
set_option maxRecDepth 20000 in
theorem q_316 : (Jvm.Cond.code ({ cls := "PlanText$Stretch", name := "<init>", desc := "(III)V" } : Jvm.MethodName) prog_10_method_1_code (4 : Nat) (Option.none : Option Jvm.ClassFile.FieldType)) ∈ lw_good := lw_run tables_1_2 lw_run2 76 rfl rfl
set_option maxRecDepth 20000 in
theorem q_317 : (Jvm.Cond.methodLink "PlanText$Stretch" (1 : Nat) ({ cls := "java/lang/Object", name := "<init>", desc := "()V" } : Jvm.MethodName)) ∈ lw_good := lw_run tables_1_2 lw_run2 77 rfl rfl
set_option maxRecDepth 20000 in
theorem q_318 : (Jvm.Cond.fieldLink "PlanText$Stretch" (7 : Nat) "PlanText$Stretch" "street" "I") ∈ lw_good := lw_run tables_1_2 lw_run2 78 rfl rfl
set_option maxRecDepth 20000 in
theorem q_319 : (Jvm.Cond.fieldLink "PlanText$Printer" (67 : Nat) "PlanText$Stretch" "street" "I") ∈ lw_good := lw_run tables_1_2 lw_run2 79 rfl rfl
set_option maxRecDepth 20000 in
theorem q_320 : (Jvm.Cond.fieldLink "PlanText$Edition" (115 : Nat) "PlanText$Stretch" "street" "I") ∈ lw_good := lw_run tables_1_2 lw_run2 80 rfl rfl
set_option maxRecDepth 20000 in
theorem q_321 : (Jvm.Cond.fieldLink "PlanText$Stretch" (13 : Nat) "PlanText$Stretch" "from" "I") ∈ lw_good := lw_run tables_1_2 lw_run2 81 rfl rfl
set_option maxRecDepth 20000 in
theorem q_322 : (Jvm.Cond.fieldLink "PlanText$Printer" (70 : Nat) "PlanText$Stretch" "from" "I") ∈ lw_good := lw_run tables_1_2 lw_run2 82 rfl rfl
set_option maxRecDepth 20000 in
theorem q_323 : (Jvm.Cond.fieldLink "PlanText$Edition" (90 : Nat) "PlanText$Stretch" "from" "I") ∈ lw_good := lw_run tables_1_2 lw_run2 83 rfl rfl
set_option maxRecDepth 20000 in
theorem q_324 : (Jvm.Cond.fieldLink "PlanText$Stretch" (16 : Nat) "PlanText$Stretch" "to" "I") ∈ lw_good := lw_run tables_1_2 lw_run2 84 rfl rfl
set_option maxRecDepth 20000 in
theorem q_325 : (Jvm.Cond.fieldLink "PlanText$Printer" (73 : Nat) "PlanText$Stretch" "to" "I") ∈ lw_good := lw_run tables_1_2 lw_run2 85 rfl rfl
set_option maxRecDepth 20000 in
theorem q_326 : (Jvm.Cond.fieldLink "PlanText$Edition" (103 : Nat) "PlanText$Stretch" "to" "I") ∈ lw_good := lw_run tables_1_2 lw_run2 86 rfl rfl
set_option maxRecDepth 20000 in
theorem q_334 : (Jvm.Cond.methodLink "PlanText$Reader" (81 : Nat) ({ cls := "PlanText$Reader", name := "readHours", desc := "()LPlanText$Hours;" } : Jvm.MethodName)) ∈ lw_good := lw_run tables_1_2 lw_run2 94 rfl rfl
set_option maxRecDepth 20000 in
theorem q_336 : (Jvm.Cond.instanceMethod ({ cls := "PlanText$Reader", name := "readHours", desc := "()LPlanText$Hours;" } : Jvm.MethodName)) ∈ lw_good := lw_run tables_1_2 lw_run2 96 rfl rfl
set_option maxRecDepth 20000 in
theorem q_337 : (Jvm.Cond.code ({ cls := "PlanText$Reader", name := "readHours", desc := "()LPlanText$Hours;" } : Jvm.MethodName) prog_8_method_7_code (3 : Nat) (Option.some (Jvm.ClassFile.FieldType.object "PlanText$Hours"))) ∈ lw_good := lw_run tables_1_2 lw_run2 97 rfl rfl
set_option maxRecDepth 20000 in
theorem q_338 : (Jvm.Cond.classLink "PlanText$Reader" (85 : Nat) "PlanText$Hours") ∈ lw_good := lw_run tables_1_2 lw_run2 98 rfl rfl
set_option maxRecDepth 20000 in
theorem q_339 : (Jvm.Cond.instantiable "PlanText$Hours" (4 : Nat)) ∈ lw_good := lw_run tables_1_2 lw_run2 99 rfl rfl
set_option maxRecDepth 20000 in
theorem q_340 : (Jvm.Cond.methodLink "PlanText$Reader" (87 : Nat) ({ cls := "PlanText$Hours", name := "<init>", desc := "(ZII)V" } : Jvm.MethodName)) ∈ lw_good := lw_run tables_1_2 lw_run2 100 rfl rfl
set_option maxRecDepth 20000 in
theorem q_341 : (Jvm.Cond.instanceMethod ({ cls := "PlanText$Hours", name := "<init>", desc := "(ZII)V" } : Jvm.MethodName)) ∈ lw_good := lw_run tables_1_2 lw_run2 101 rfl rfl
set_option maxRecDepth 20000 in
theorem q_342 : (Jvm.Cond.code ({ cls := "PlanText$Hours", name := "<init>", desc := "(ZII)V" } : Jvm.MethodName) prog_3_method_1_code (4 : Nat) (Option.none : Option Jvm.ClassFile.FieldType)) ∈ lw_good := lw_run tables_1_2 lw_run2 102 rfl rfl
set_option maxRecDepth 20000 in
theorem q_343 : (Jvm.Cond.methodLink "PlanText$Hours" (3 : Nat) ({ cls := "java/lang/Object", name := "<init>", desc := "()V" } : Jvm.MethodName)) ∈ lw_good := lw_run tables_1_2 lw_run2 103 rfl rfl
set_option maxRecDepth 20000 in
theorem q_344 : (Jvm.Cond.methodLink "PlanText$Hours" (22 : Nat) ({ cls := "PlanText$Hours", name := "bitsOf", desc := "(II)I" } : Jvm.MethodName)) ∈ lw_good := lw_run tables_1_2 lw_run2 104 rfl rfl
set_option maxRecDepth 20000 in
theorem q_345 : (Jvm.Cond.static ({ cls := "PlanText$Hours", name := "bitsOf", desc := "(II)I" } : Jvm.MethodName)) ∈ lw_good := lw_run tables_1_2 lw_run2 105 rfl rfl
set_option maxRecDepth 20000 in
theorem q_346 : (Jvm.Cond.code ({ cls := "PlanText$Hours", name := "bitsOf", desc := "(II)I" } : Jvm.MethodName) prog_3_method_3_code (5 : Nat) (Option.some Jvm.ClassFile.FieldType.int)) ∈ lw_good := lw_run tables_1_2 lw_run2 106 rfl rfl
set_option maxRecDepth 20000 in
theorem q_347 : (Jvm.Cond.fieldLink "PlanText$Hours" (9 : Nat) "PlanText$Hours" "told" "Z") ∈ lw_good := lw_run tables_1_2 lw_run2 107 rfl rfl
set_option maxRecDepth 20000 in
theorem q_348 : (Jvm.Cond.fieldLink "PlanText$Printer" (80 : Nat) "PlanText$Hours" "told" "Z") ∈ lw_good := lw_run tables_1_2 lw_run2 108 rfl rfl
set_option maxRecDepth 20000 in
theorem q_349 : (Jvm.Cond.fieldLink "PlanText$Hours" (15 : Nat) "PlanText$Hours" "first" "I") ∈ lw_good := lw_run tables_1_2 lw_run2 109 rfl rfl
set_option maxRecDepth 20000 in
theorem q_350 : (Jvm.Cond.fieldLink "PlanText$Printer" (116 : Nat) "PlanText$Hours" "first" "I") ∈ lw_good := lw_run tables_1_2 lw_run2 110 rfl rfl
set_option maxRecDepth 20000 in
theorem q_351 : (Jvm.Cond.fieldLink "PlanText$Hours" (19 : Nat) "PlanText$Hours" "last" "I") ∈ lw_good := lw_run tables_1_2 lw_run2 111 rfl rfl
set_option maxRecDepth 20000 in
theorem q_352 : (Jvm.Cond.fieldLink "PlanText$Printer" (119 : Nat) "PlanText$Hours" "last" "I") ∈ lw_good := lw_run tables_1_2 lw_run2 112 rfl rfl
set_option maxRecDepth 20000 in
theorem q_353 : (Jvm.Cond.fieldLink "PlanText$Hours" (26 : Nat) "PlanText$Hours" "bits" "I") ∈ lw_good := lw_run tables_1_2 lw_run2 113 rfl rfl
set_option maxRecDepth 20000 in
theorem q_354 : (Jvm.Cond.fieldLink "PlanText$Plan" (43 : Nat) "PlanText$Hours" "bits" "I") ∈ lw_good := lw_run tables_1_2 lw_run2 114 rfl rfl
set_option maxRecDepth 20000 in
theorem q_355 : (Jvm.Cond.fieldLink "PlanText$Edition" (110 : Nat) "PlanText$Hours" "bits" "I") ∈ lw_good := lw_run tables_1_2 lw_run2 115 rfl rfl
set_option maxRecDepth 20000 in
theorem q_365 : (Jvm.Cond.classLink "PlanText$Reader" (90 : Nat) "PlanText$Plan") ∈ lw_good := lw_run tables_1_2 lw_run2 125 rfl rfl
set_option maxRecDepth 20000 in
theorem q_366 : (Jvm.Cond.instantiable "PlanText$Plan" (6 : Nat)) ∈ lw_good := lw_run tables_1_2 lw_run2 126 rfl rfl
set_option maxRecDepth 20000 in
theorem q_367 : (Jvm.Cond.methodLink "PlanText$Reader" (92 : Nat) ({ cls := "PlanText$Reader", name := "readNeeds", desc := "()LPlanText$NeedList;" } : Jvm.MethodName)) ∈ lw_good := lw_run tables_1_2 lw_run2 127 rfl rfl
set_option maxRecDepth 20000 in
theorem q_369 : (Jvm.Cond.instanceMethod ({ cls := "PlanText$Reader", name := "readNeeds", desc := "()LPlanText$NeedList;" } : Jvm.MethodName)) ∈ lw_good := lw_run tables_1_2 lw_run2 129 rfl rfl
set_option maxRecDepth 20000 in
theorem q_370 : (Jvm.Cond.code ({ cls := "PlanText$Reader", name := "readNeeds", desc := "()LPlanText$NeedList;" } : Jvm.MethodName) prog_8_method_8_code (3 : Nat) (Option.some (Jvm.ClassFile.FieldType.object "PlanText$NeedList"))) ∈ lw_good := lw_run tables_1_2 lw_run2 130 rfl rfl
set_option maxRecDepth 20000 in
theorem q_371 : (Jvm.Cond.classLink "PlanText$Reader" (124 : Nat) "PlanText$NeedList") ∈ lw_good := lw_run tables_1_2 lw_run2 131 rfl rfl
set_option maxRecDepth 20000 in
theorem q_373 : (Jvm.Cond.methodLink "PlanText$Reader" (127 : Nat) ({ cls := "PlanText$Reader", name := "readNeed", desc := "()LPlanText$Need;" } : Jvm.MethodName)) ∈ lw_good := lw_run tables_1_2 lw_run2 133 rfl rfl
set_option maxRecDepth 20000 in
theorem q_375 : (Jvm.Cond.instanceMethod ({ cls := "PlanText$Reader", name := "readNeed", desc := "()LPlanText$Need;" } : Jvm.MethodName)) ∈ lw_good := lw_run tables_1_2 lw_run2 135 rfl rfl
set_option maxRecDepth 20000 in
theorem q_376 : (Jvm.Cond.code ({ cls := "PlanText$Reader", name := "readNeed", desc := "()LPlanText$Need;" } : Jvm.MethodName) prog_8_method_9_code (6 : Nat) (Option.some (Jvm.ClassFile.FieldType.object "PlanText$Need"))) ∈ lw_good := lw_run tables_1_2 lw_run2 136 rfl rfl
set_option maxRecDepth 20000 in
theorem q_377 : (Jvm.Cond.methodLink "PlanText$Reader" (113 : Nat) ({ cls := "PlanText$Reader", name := "readSkill", desc := "(I)I" } : Jvm.MethodName)) ∈ lw_good := lw_run tables_1_2 lw_run2 137 rfl rfl
set_option maxRecDepth 20000 in
theorem q_379 : (Jvm.Cond.instanceMethod ({ cls := "PlanText$Reader", name := "readSkill", desc := "(I)I" } : Jvm.MethodName)) ∈ lw_good := lw_run tables_1_2 lw_run2 139 rfl rfl
set_option maxRecDepth 20000 in
theorem q_380 : (Jvm.Cond.code ({ cls := "PlanText$Reader", name := "readSkill", desc := "(I)I" } : Jvm.MethodName) prog_8_method_10_code (3 : Nat) (Option.some Jvm.ClassFile.FieldType.int)) ∈ lw_good := lw_run tables_1_2 lw_run2 140 rfl rfl
set_option maxRecDepth 20000 in
theorem q_381 : (Jvm.Cond.classLink "PlanText$Reader" (135 : Nat) "PlanText$Need") ∈ lw_good := lw_run tables_1_2 lw_run2 141 rfl rfl
set_option maxRecDepth 20000 in
theorem q_382 : (Jvm.Cond.instantiable "PlanText$Need" (5 : Nat)) ∈ lw_good := lw_run tables_1_2 lw_run2 142 rfl rfl
set_option maxRecDepth 20000 in
theorem q_383 : (Jvm.Cond.methodLink "PlanText$Reader" (137 : Nat) ({ cls := "PlanText$Need", name := "<init>", desc := "(IIIII)V" } : Jvm.MethodName)) ∈ lw_good := lw_run tables_1_2 lw_run2 143 rfl rfl
set_option maxRecDepth 20000 in
theorem q_384 : (Jvm.Cond.instanceMethod ({ cls := "PlanText$Need", name := "<init>", desc := "(IIIII)V" } : Jvm.MethodName)) ∈ lw_good := lw_run tables_1_2 lw_run2 144 rfl rfl
set_option maxRecDepth 20000 in
theorem q_385 : (Jvm.Cond.code ({ cls := "PlanText$Need", name := "<init>", desc := "(IIIII)V" } : Jvm.MethodName) prog_4_method_1_code (6 : Nat) (Option.none : Option Jvm.ClassFile.FieldType)) ∈ lw_good := lw_run tables_1_2 lw_run2 145 rfl rfl
set_option maxRecDepth 20000 in
theorem q_386 : (Jvm.Cond.methodLink "PlanText$Need" (1 : Nat) ({ cls := "java/lang/Object", name := "<init>", desc := "()V" } : Jvm.MethodName)) ∈ lw_good := lw_run tables_1_2 lw_run2 146 rfl rfl
set_option maxRecDepth 20000 in
theorem q_387 : (Jvm.Cond.fieldLink "PlanText$Need" (7 : Nat) "PlanText$Need" "units" "I") ∈ lw_good := lw_run tables_1_2 lw_run2 147 rfl rfl
set_option maxRecDepth 20000 in
theorem q_388 : (Jvm.Cond.fieldLink "PlanText$Printer" (128 : Nat) "PlanText$Need" "units" "I") ∈ lw_good := lw_run tables_1_2 lw_run2 148 rfl rfl
set_option maxRecDepth 20000 in
theorem q_389 : (Jvm.Cond.fieldLink "PlanText" (134 : Nat) "PlanText$Need" "units" "I") ∈ lw_good := lw_run tables_1_2 lw_run2 149 rfl rfl
set_option maxRecDepth 20000 in
theorem q_390 : (Jvm.Cond.fieldLink "PlanText$Need" (13 : Nat) "PlanText$Need" "skill" "I") ∈ lw_good := lw_run tables_1_2 lw_run2 150 rfl rfl
set_option maxRecDepth 20000 in
theorem q_391 : (Jvm.Cond.fieldLink "PlanText" (138 : Nat) "PlanText$Need" "skill" "I") ∈ lw_good := lw_run tables_1_2 lw_run2 151 rfl rfl
set_option maxRecDepth 20000 in
theorem q_392 : (Jvm.Cond.fieldLink "PlanText$Printer" (135 : Nat) "PlanText$Need" "skill" "I") ∈ lw_good := lw_run tables_1_2 lw_run2 152 rfl rfl
set_option maxRecDepth 20000 in
theorem q_393 : (Jvm.Cond.fieldLink "PlanText$Need" (16 : Nat) "PlanText$Need" "firstAlternative" "I") ∈ lw_good := lw_run tables_1_2 lw_run2 153 rfl rfl
set_option maxRecDepth 20000 in
theorem q_394 : (Jvm.Cond.fieldLink "PlanText" (141 : Nat) "PlanText$Need" "firstAlternative" "I") ∈ lw_good := lw_run tables_1_2 lw_run2 154 rfl rfl
set_option maxRecDepth 20000 in
theorem q_395 : (Jvm.Cond.fieldLink "PlanText$Printer" (136 : Nat) "PlanText$Need" "firstAlternative" "I") ∈ lw_good := lw_run tables_1_2 lw_run2 155 rfl rfl
set_option maxRecDepth 20000 in
theorem q_396 : (Jvm.Cond.fieldLink "PlanText$Need" (19 : Nat) "PlanText$Need" "secondAlternative" "I") ∈ lw_good := lw_run tables_1_2 lw_run2 156 rfl rfl
set_option maxRecDepth 20000 in
theorem q_397 : (Jvm.Cond.fieldLink "PlanText" (144 : Nat) "PlanText$Need" "secondAlternative" "I") ∈ lw_good := lw_run tables_1_2 lw_run2 157 rfl rfl
set_option maxRecDepth 20000 in
theorem q_398 : (Jvm.Cond.fieldLink "PlanText$Printer" (139 : Nat) "PlanText$Need" "secondAlternative" "I") ∈ lw_good := lw_run tables_1_2 lw_run2 158 rfl rfl
set_option maxRecDepth 20000 in
theorem q_399 : (Jvm.Cond.fieldLink "PlanText$Need" (22 : Nat) "PlanText$Need" "limit" "I") ∈ lw_good := lw_run tables_1_2 lw_run2 159 rfl rfl
set_option maxRecDepth 20000 in
theorem q_400 : (Jvm.Cond.fieldLink "PlanText" (147 : Nat) "PlanText$Need" "limit" "I") ∈ lw_good := lw_run tables_1_2 lw_run2 160 rfl rfl
set_option maxRecDepth 20000 in
theorem q_401 : (Jvm.Cond.fieldLink "PlanText$Printer" (142 : Nat) "PlanText$Need" "limit" "I") ∈ lw_good := lw_run tables_1_2 lw_run2 161 rfl rfl
set_option maxRecDepth 20000 in
theorem q_413 : (Jvm.Cond.methodLink "PlanText$Reader" (131 : Nat) ({ cls := "PlanText$NeedList", name := "add", desc := "(LPlanText$Need;)V" } : Jvm.MethodName)) ∈ lw_good := lw_run tables_1_2 lw_run2 173 rfl rfl
set_option maxRecDepth 20000 in
theorem q_414 : (Jvm.Cond.instanceMethod ({ cls := "PlanText$NeedList", name := "add", desc := "(LPlanText$Need;)V" } : Jvm.MethodName)) ∈ lw_good := lw_run tables_1_2 lw_run2 174 rfl rfl
set_option maxRecDepth 20000 in
theorem q_415 : (Jvm.Cond.selects "PlanText$NeedList" ({ cls := "PlanText$NeedList", name := "add", desc := "(LPlanText$Need;)V" } : Jvm.MethodName) ({ cls := "PlanText$NeedList", name := "add", desc := "(LPlanText$Need;)V" } : Jvm.MethodName)) ∈ lw_good := lw_run tables_1_2 lw_run2 175 rfl rfl
set_option maxRecDepth 20000 in
theorem q_416 : (Jvm.Cond.code ({ cls := "PlanText$NeedList", name := "add", desc := "(LPlanText$Need;)V" } : Jvm.MethodName) prog_5_method_2_code (2 : Nat) (Option.none : Option Jvm.ClassFile.FieldType)) ∈ lw_good := lw_run tables_1_2 lw_run2 176 rfl rfl
set_option maxRecDepth 20000 in
theorem q_417 : (Jvm.Cond.methodLink "PlanText$Reader" (96 : Nat) ({ cls := "PlanText$Plan", name := "<init>", desc := "(IILPlanText$Stretch;LPlanText$Hours;ILPlanText$NeedList;)V" } : Jvm.MethodName)) ∈ lw_good := lw_run tables_1_2 lw_run2 177 rfl rfl
set_option maxRecDepth 20000 in
theorem q_418 : (Jvm.Cond.instanceMethod ({ cls := "PlanText$Plan", name := "<init>", desc := "(IILPlanText$Stretch;LPlanText$Hours;ILPlanText$NeedList;)V" } : Jvm.MethodName)) ∈ lw_good := lw_run tables_1_2 lw_run2 178 rfl rfl
set_option maxRecDepth 20000 in
theorem q_419 : (Jvm.Cond.code ({ cls := "PlanText$Plan", name := "<init>", desc := "(IILPlanText$Stretch;LPlanText$Hours;ILPlanText$NeedList;)V" } : Jvm.MethodName) prog_6_method_1_code (7 : Nat) (Option.none : Option Jvm.ClassFile.FieldType)) ∈ lw_good := lw_run tables_1_2 lw_run2 179 rfl rfl
set_option maxRecDepth 20000 in
theorem q_420 : (Jvm.Cond.methodLink "PlanText$Plan" (1 : Nat) ({ cls := "java/lang/Object", name := "<init>", desc := "()V" } : Jvm.MethodName)) ∈ lw_good := lw_run tables_1_2 lw_run2 180 rfl rfl
set_option maxRecDepth 20000 in
theorem q_421 : (Jvm.Cond.fieldLink "PlanText$Plan" (7 : Nat) "PlanText$Plan" "number" "I") ∈ lw_good := lw_run tables_1_2 lw_run2 181 rfl rfl
set_option maxRecDepth 20000 in
theorem q_422 : (Jvm.Cond.fieldLink "PlanText$Printer" (49 : Nat) "PlanText$Plan" "number" "I") ∈ lw_good := lw_run tables_1_2 lw_run2 182 rfl rfl
set_option maxRecDepth 20000 in
theorem q_423 : (Jvm.Cond.fieldLink "PlanText$Edition" (42 : Nat) "PlanText$Plan" "number" "I") ∈ lw_good := lw_run tables_1_2 lw_run2 183 rfl rfl
set_option maxRecDepth 20000 in
theorem q_424 : (Jvm.Cond.fieldLink "PlanText" (121 : Nat) "PlanText$Plan" "number" "I") ∈ lw_good := lw_run tables_1_2 lw_run2 184 rfl rfl
set_option maxRecDepth 20000 in
theorem q_425 : (Jvm.Cond.fieldLink "PlanText$Plan" (13 : Nat) "PlanText$Plan" "kind" "I") ∈ lw_good := lw_run tables_1_2 lw_run2 185 rfl rfl
set_option maxRecDepth 20000 in
theorem q_426 : (Jvm.Cond.fieldLink "PlanText$Printer" (54 : Nat) "PlanText$Plan" "kind" "I") ∈ lw_good := lw_run tables_1_2 lw_run2 186 rfl rfl
set_option maxRecDepth 20000 in
theorem q_427 : (Jvm.Cond.fieldLink "PlanText$Plan" (16 : Nat) "PlanText$Plan" "stretch" "LPlanText$Stretch;") ∈ lw_good := lw_run tables_1_2 lw_run2 187 rfl rfl
set_option maxRecDepth 20000 in
theorem q_428 : (Jvm.Cond.fieldLink "PlanText$Printer" (57 : Nat) "PlanText$Plan" "stretch" "LPlanText$Stretch;") ∈ lw_good := lw_run tables_1_2 lw_run2 188 rfl rfl
set_option maxRecDepth 20000 in
theorem q_429 : (Jvm.Cond.fieldLink "PlanText$Edition" (86 : Nat) "PlanText$Plan" "stretch" "LPlanText$Stretch;") ∈ lw_good := lw_run tables_1_2 lw_run2 189 rfl rfl
set_option maxRecDepth 20000 in
theorem q_430 : (Jvm.Cond.fieldLink "PlanText$Plan" (20 : Nat) "PlanText$Plan" "hours" "LPlanText$Hours;") ∈ lw_good := lw_run tables_1_2 lw_run2 190 rfl rfl
set_option maxRecDepth 20000 in
theorem q_431 : (Jvm.Cond.fieldLink "PlanText$Printer" (76 : Nat) "PlanText$Plan" "hours" "LPlanText$Hours;") ∈ lw_good := lw_run tables_1_2 lw_run2 191 rfl rfl
set_option maxRecDepth 20000 in
theorem q_432 : (Jvm.Cond.fieldLink "PlanText$Edition" (106 : Nat) "PlanText$Plan" "hours" "LPlanText$Hours;") ∈ lw_good := lw_run tables_1_2 lw_run2 192 rfl rfl
set_option maxRecDepth 20000 in
theorem q_433 : (Jvm.Cond.fieldLink "PlanText$Plan" (24 : Nat) "PlanText$Plan" "rank" "I") ∈ lw_good := lw_run tables_1_2 lw_run2 193 rfl rfl
set_option maxRecDepth 20000 in
theorem q_434 : (Jvm.Cond.fieldLink "PlanText$Printer" (94 : Nat) "PlanText$Plan" "rank" "I") ∈ lw_good := lw_run tables_1_2 lw_run2 194 rfl rfl
set_option maxRecDepth 20000 in
theorem q_435 : (Jvm.Cond.fieldLink "PlanText$Plan" (27 : Nat) "PlanText$Plan" "needs" "LPlanText$NeedList;") ∈ lw_good := lw_run tables_1_2 lw_run2 195 rfl rfl
set_option maxRecDepth 20000 in
theorem q_436 : (Jvm.Cond.fieldLink "PlanText$Printer" (97 : Nat) "PlanText$Plan" "needs" "LPlanText$NeedList;") ∈ lw_good := lw_run tables_1_2 lw_run2 196 rfl rfl
set_option maxRecDepth 20000 in
theorem q_437 : (Jvm.Cond.fieldLink "PlanText" (116 : Nat) "PlanText$Plan" "needs" "LPlanText$NeedList;") ∈ lw_good := lw_run tables_1_2 lw_run2 197 rfl rfl
set_option maxRecDepth 20000 in
theorem q_438 : (Jvm.Cond.fieldLink "PlanText$Edition" (78 : Nat) "PlanText$Plan" "needs" "LPlanText$NeedList;") ∈ lw_good := lw_run tables_1_2 lw_run2 198 rfl rfl
set_option maxRecDepth 20000 in
theorem q_452 : (Jvm.Cond.methodLink "PlanText$Reader" (99 : Nat) ({ cls := "PlanText$Edition", name := "addPlan", desc := "(LPlanText$Plan;)V" } : Jvm.MethodName)) ∈ lw_good := lw_run tables_1_2 lw_run2 212 rfl rfl
set_option maxRecDepth 20000 in
theorem q_453 : (Jvm.Cond.instanceMethod ({ cls := "PlanText$Edition", name := "addPlan", desc := "(LPlanText$Plan;)V" } : Jvm.MethodName)) ∈ lw_good := lw_run tables_1_2 lw_run2 213 rfl rfl
set_option maxRecDepth 20000 in
theorem q_454 : (Jvm.Cond.selects "PlanText$Edition" ({ cls := "PlanText$Edition", name := "addPlan", desc := "(LPlanText$Plan;)V" } : Jvm.MethodName) ({ cls := "PlanText$Edition", name := "addPlan", desc := "(LPlanText$Plan;)V" } : Jvm.MethodName)) ∈ lw_good := lw_run tables_1_2 lw_run2 214 rfl rfl
set_option maxRecDepth 20000 in
theorem q_455 : (Jvm.Cond.code ({ cls := "PlanText$Edition", name := "addPlan", desc := "(LPlanText$Plan;)V" } : Jvm.MethodName) prog_2_method_5_code (2 : Nat) (Option.none : Option Jvm.ClassFile.FieldType)) ∈ lw_good := lw_run tables_1_2 lw_run2 215 rfl rfl
set_option maxRecDepth 20000 in
theorem q_456 : (Jvm.Cond.methodLink "PlanText$Reader" (48 : Nat) ({ cls := "PlanText$Reader", name := "readDefault", desc := "(LPlanText$Edition;)V" } : Jvm.MethodName)) ∈ lw_good := lw_run tables_1_2 lw_run2 216 rfl rfl
set_option maxRecDepth 20000 in
theorem q_458 : (Jvm.Cond.instanceMethod ({ cls := "PlanText$Reader", name := "readDefault", desc := "(LPlanText$Edition;)V" } : Jvm.MethodName)) ∈ lw_good := lw_run tables_1_2 lw_run2 218 rfl rfl
set_option maxRecDepth 20000 in
theorem q_459 : (Jvm.Cond.code ({ cls := "PlanText$Reader", name := "readDefault", desc := "(LPlanText$Edition;)V" } : Jvm.MethodName) prog_8_method_4_code (3 : Nat) (Option.none : Option Jvm.ClassFile.FieldType)) ∈ lw_good := lw_run tables_1_2 lw_run2 219 rfl rfl
set_option maxRecDepth 20000 in
theorem q_460 : (Jvm.Cond.methodLink "PlanText$Reader" (103 : Nat) ({ cls := "PlanText$Edition", name := "defaultNeeds", desc := "(I)LPlanText$NeedList;" } : Jvm.MethodName)) ∈ lw_good := lw_run tables_1_2 lw_run2 220 rfl rfl
set_option maxRecDepth 20000 in
theorem q_461 : (Jvm.Cond.instanceMethod ({ cls := "PlanText$Edition", name := "defaultNeeds", desc := "(I)LPlanText$NeedList;" } : Jvm.MethodName)) ∈ lw_good := lw_run tables_1_2 lw_run2 221 rfl rfl
set_option maxRecDepth 20000 in
theorem q_462 : (Jvm.Cond.selects "PlanText$Edition" ({ cls := "PlanText$Edition", name := "defaultNeeds", desc := "(I)LPlanText$NeedList;" } : Jvm.MethodName) ({ cls := "PlanText$Edition", name := "defaultNeeds", desc := "(I)LPlanText$NeedList;" } : Jvm.MethodName)) ∈ lw_good := lw_run tables_1_2 lw_run2 222 rfl rfl
set_option maxRecDepth 20000 in
theorem q_463 : (Jvm.Cond.code ({ cls := "PlanText$Edition", name := "defaultNeeds", desc := "(I)LPlanText$NeedList;" } : Jvm.MethodName) prog_2_method_3_code (2 : Nat) (Option.some (Jvm.ClassFile.FieldType.object "PlanText$NeedList"))) ∈ lw_good := lw_run tables_1_2 lw_run2 223 rfl rfl
set_option maxRecDepth 20000 in
theorem q_464 : (Jvm.Cond.methodLink "PlanText$Reader" (107 : Nat) ({ cls := "PlanText$Edition", name := "addDefault", desc := "(ILPlanText$NeedList;)V" } : Jvm.MethodName)) ∈ lw_good := lw_run tables_1_2 lw_run2 224 rfl rfl
set_option maxRecDepth 20000 in
theorem q_465 : (Jvm.Cond.instanceMethod ({ cls := "PlanText$Edition", name := "addDefault", desc := "(ILPlanText$NeedList;)V" } : Jvm.MethodName)) ∈ lw_good := lw_run tables_1_2 lw_run2 225 rfl rfl
set_option maxRecDepth 20000 in
theorem q_466 : (Jvm.Cond.selects "PlanText$Edition" ({ cls := "PlanText$Edition", name := "addDefault", desc := "(ILPlanText$NeedList;)V" } : Jvm.MethodName) ({ cls := "PlanText$Edition", name := "addDefault", desc := "(ILPlanText$NeedList;)V" } : Jvm.MethodName)) ∈ lw_good := lw_run tables_1_2 lw_run2 226 rfl rfl
set_option maxRecDepth 20000 in
theorem q_467 : (Jvm.Cond.code ({ cls := "PlanText$Edition", name := "addDefault", desc := "(ILPlanText$NeedList;)V" } : Jvm.MethodName) prog_2_method_6_code (3 : Nat) (Option.none : Option Jvm.ClassFile.FieldType)) ∈ lw_good := lw_run tables_1_2 lw_run2 227 rfl rfl
set_option maxRecDepth 20000 in
theorem q_468 : (Jvm.Cond.methodLink "PlanText$Reader" (51 : Nat) ({ cls := "PlanText$Edition", name := "hasRoomForStandby", desc := "()Z" } : Jvm.MethodName)) ∈ lw_good := lw_run tables_1_2 lw_run2 228 rfl rfl
set_option maxRecDepth 20000 in
theorem q_469 : (Jvm.Cond.instanceMethod ({ cls := "PlanText$Edition", name := "hasRoomForStandby", desc := "()Z" } : Jvm.MethodName)) ∈ lw_good := lw_run tables_1_2 lw_run2 229 rfl rfl
set_option maxRecDepth 20000 in
theorem q_470 : (Jvm.Cond.selects "PlanText$Edition" ({ cls := "PlanText$Edition", name := "hasRoomForStandby", desc := "()Z" } : Jvm.MethodName) ({ cls := "PlanText$Edition", name := "hasRoomForStandby", desc := "()Z" } : Jvm.MethodName)) ∈ lw_good := lw_run tables_1_2 lw_run2 230 rfl rfl
set_option maxRecDepth 20000 in
theorem q_471 : (Jvm.Cond.code ({ cls := "PlanText$Edition", name := "hasRoomForStandby", desc := "()Z" } : Jvm.MethodName) prog_2_method_7_code (1 : Nat) (Option.some Jvm.ClassFile.FieldType.boolean)) ∈ lw_good := lw_run tables_1_2 lw_run2 231 rfl rfl
set_option maxRecDepth 20000 in
theorem q_472 : (Jvm.Cond.methodLink "PlanText$Reader" (55 : Nat) ({ cls := "PlanText$Reader", name := "readStandby", desc := "(LPlanText$Edition;)V" } : Jvm.MethodName)) ∈ lw_good := lw_run tables_1_2 lw_run2 232 rfl rfl
set_option maxRecDepth 20000 in
theorem q_474 : (Jvm.Cond.instanceMethod ({ cls := "PlanText$Reader", name := "readStandby", desc := "(LPlanText$Edition;)V" } : Jvm.MethodName)) ∈ lw_good := lw_run tables_1_2 lw_run2 234 rfl rfl
set_option maxRecDepth 20000 in
theorem q_475 : (Jvm.Cond.code ({ cls := "PlanText$Reader", name := "readStandby", desc := "(LPlanText$Edition;)V" } : Jvm.MethodName) prog_8_method_5_code (5 : Nat) (Option.none : Option Jvm.ClassFile.FieldType)) ∈ lw_good := lw_run tables_1_2 lw_run2 235 rfl rfl
set_option maxRecDepth 20000 in
theorem q_476 : (Jvm.Cond.classLink "PlanText$Reader" (111 : Nat) "PlanText$Standby") ∈ lw_good := lw_run tables_1_2 lw_run2 236 rfl rfl
set_option maxRecDepth 20000 in
theorem q_477 : (Jvm.Cond.instantiable "PlanText$Standby" (4 : Nat)) ∈ lw_good := lw_run tables_1_2 lw_run2 237 rfl rfl
set_option maxRecDepth 20000 in
theorem q_478 : (Jvm.Cond.methodLink "PlanText$Reader" (117 : Nat) ({ cls := "PlanText$Standby", name := "<init>", desc := "(LPlanText$Hours;III)V" } : Jvm.MethodName)) ∈ lw_good := lw_run tables_1_2 lw_run2 238 rfl rfl
set_option maxRecDepth 20000 in
theorem q_479 : (Jvm.Cond.instanceMethod ({ cls := "PlanText$Standby", name := "<init>", desc := "(LPlanText$Hours;III)V" } : Jvm.MethodName)) ∈ lw_good := lw_run tables_1_2 lw_run2 239 rfl rfl
set_option maxRecDepth 20000 in
theorem q_480 : (Jvm.Cond.code ({ cls := "PlanText$Standby", name := "<init>", desc := "(LPlanText$Hours;III)V" } : Jvm.MethodName) prog_9_method_1_code (5 : Nat) (Option.none : Option Jvm.ClassFile.FieldType)) ∈ lw_good := lw_run tables_1_3 lw_run3 0 rfl rfl
set_option maxRecDepth 20000 in
theorem q_481 : (Jvm.Cond.methodLink "PlanText$Standby" (1 : Nat) ({ cls := "java/lang/Object", name := "<init>", desc := "()V" } : Jvm.MethodName)) ∈ lw_good := lw_run tables_1_3 lw_run3 1 rfl rfl
set_option maxRecDepth 20000 in
theorem q_482 : (Jvm.Cond.fieldLink "PlanText$Standby" (7 : Nat) "PlanText$Standby" "hours" "LPlanText$Hours;") ∈ lw_good := lw_run tables_1_3 lw_run3 2 rfl rfl
set_option maxRecDepth 20000 in
theorem q_483 : (Jvm.Cond.fieldLink "PlanText$Printer" (101 : Nat) "PlanText$Standby" "hours" "LPlanText$Hours;") ∈ lw_good := lw_run tables_1_3 lw_run3 3 rfl rfl
set_option maxRecDepth 20000 in
theorem q_484 : (Jvm.Cond.fieldLink "PlanText$Standby" (13 : Nat) "PlanText$Standby" "calls" "I") ∈ lw_good := lw_run tables_1_3 lw_run3 4 rfl rfl
set_option maxRecDepth 20000 in
theorem q_485 : (Jvm.Cond.fieldLink "PlanText$Printer" (104 : Nat) "PlanText$Standby" "calls" "I") ∈ lw_good := lw_run tables_1_3 lw_run3 5 rfl rfl
set_option maxRecDepth 20000 in
theorem q_486 : (Jvm.Cond.fieldLink "PlanText$Standby" (17 : Nat) "PlanText$Standby" "units" "I") ∈ lw_good := lw_run tables_1_3 lw_run3 6 rfl rfl
set_option maxRecDepth 20000 in
theorem q_487 : (Jvm.Cond.fieldLink "PlanText$Printer" (107 : Nat) "PlanText$Standby" "units" "I") ∈ lw_good := lw_run tables_1_3 lw_run3 7 rfl rfl
set_option maxRecDepth 20000 in
theorem q_488 : (Jvm.Cond.fieldLink "PlanText$Edition" (69 : Nat) "PlanText$Standby" "units" "I") ∈ lw_good := lw_run tables_1_3 lw_run3 8 rfl rfl
set_option maxRecDepth 20000 in
theorem q_489 : (Jvm.Cond.fieldLink "PlanText$Standby" (20 : Nat) "PlanText$Standby" "skill" "I") ∈ lw_good := lw_run tables_1_3 lw_run3 9 rfl rfl
set_option maxRecDepth 20000 in
theorem q_490 : (Jvm.Cond.fieldLink "PlanText$Printer" (110 : Nat) "PlanText$Standby" "skill" "I") ∈ lw_good := lw_run tables_1_3 lw_run3 10 rfl rfl
set_option maxRecDepth 20000 in
theorem q_500 : (Jvm.Cond.methodLink "PlanText$Reader" (120 : Nat) ({ cls := "PlanText$Edition", name := "addStandby", desc := "(LPlanText$Standby;)V" } : Jvm.MethodName)) ∈ lw_good := lw_run tables_1_3 lw_run3 20 rfl rfl
set_option maxRecDepth 20000 in
theorem q_501 : (Jvm.Cond.instanceMethod ({ cls := "PlanText$Edition", name := "addStandby", desc := "(LPlanText$Standby;)V" } : Jvm.MethodName)) ∈ lw_good := lw_run tables_1_3 lw_run3 21 rfl rfl
set_option maxRecDepth 20000 in
theorem q_502 : (Jvm.Cond.selects "PlanText$Edition" ({ cls := "PlanText$Edition", name := "addStandby", desc := "(LPlanText$Standby;)V" } : Jvm.MethodName) ({ cls := "PlanText$Edition", name := "addStandby", desc := "(LPlanText$Standby;)V" } : Jvm.MethodName)) ∈ lw_good := lw_run tables_1_3 lw_run3 22 rfl rfl
set_option maxRecDepth 20000 in
theorem q_503 : (Jvm.Cond.code ({ cls := "PlanText$Edition", name := "addStandby", desc := "(LPlanText$Standby;)V" } : Jvm.MethodName) prog_2_method_8_code (2 : Nat) (Option.none : Option Jvm.ClassFile.FieldType)) ∈ lw_good := lw_run tables_1_3 lw_run3 23 rfl rfl
set_option maxRecDepth 20000 in
theorem q_504 : (Jvm.Cond.methodLink "PlanText$Edition" (45 : Nat) ({ cls := "PlanText$Edition", name := "hasRoomForStandby", desc := "()Z" } : Jvm.MethodName)) ∈ lw_good := lw_run tables_1_3 lw_run3 24 rfl rfl
set_option maxRecDepth 20000 in
theorem q_505 : (Jvm.Cond.classLink "PlanText" (87 : Nat) "java/lang/IllegalStateException") ∈ lw_good := lw_run tables_1_3 lw_run3 25 rfl rfl
set_option maxRecDepth 20000 in
theorem q_522 : (Jvm.Cond.methodLink "PlanTextLaw" (83 : Nat) ({ cls := "PlanTextLaw", name := "town", desc := "(LPlanText;II)I" } : Jvm.MethodName)) ∈ lw_good := lw_run tables_1_3 lw_run3 42 rfl rfl
set_option maxRecDepth 20000 in
theorem q_523 : (Jvm.Cond.static ({ cls := "PlanTextLaw", name := "town", desc := "(LPlanText;II)I" } : Jvm.MethodName)) ∈ lw_good := lw_run tables_1_3 lw_run3 43 rfl rfl
set_option maxRecDepth 20000 in
theorem q_524 : (Jvm.Cond.codeWith ({ cls := "PlanTextLaw", name := "town", desc := "(LPlanText;II)I" } : Jvm.MethodName) method_5_code (4 : Nat) (Option.some Jvm.ClassFile.FieldType.int) [((0 : Nat), (6 : Nat), (9 : Nat), (27 : Nat)), ((0 : Nat), (6 : Nat), (12 : Nat), (13 : Nat))]) ∈ lw_good := lw_run tables_1_3 lw_run3 44 rfl rfl
set_option maxRecDepth 20000 in
theorem q_525 : (Jvm.Cond.classLink "PlanTextLaw" (27 : Nat) "java/lang/IllegalArgumentException") ∈ lw_good := lw_run tables_1_3 lw_run3 45 rfl rfl
set_option maxRecDepth 20000 in
theorem q_526 : (Jvm.Cond.methodLink "PlanTextLaw" (23 : Nat) ({ cls := "PlanText", name := "town", desc := "(II)V" } : Jvm.MethodName)) ∈ lw_good := lw_run tables_1_3 lw_run3 46 rfl rfl
set_option maxRecDepth 20000 in
theorem q_527 : (Jvm.Cond.instanceMethod ({ cls := "PlanText", name := "town", desc := "(II)V" } : Jvm.MethodName)) ∈ lw_good := lw_run tables_1_3 lw_run3 47 rfl rfl
set_option maxRecDepth 20000 in
theorem q_528 : (Jvm.Cond.selects "PlanText" ({ cls := "PlanText", name := "town", desc := "(II)V" } : Jvm.MethodName) ({ cls := "PlanText", name := "town", desc := "(II)V" } : Jvm.MethodName)) ∈ lw_good := lw_run tables_1_3 lw_run3 48 rfl rfl
set_option maxRecDepth 20000 in
theorem q_529 : (Jvm.Cond.code ({ cls := "PlanText", name := "town", desc := "(II)V" } : Jvm.MethodName) prog_1_method_5_code (3 : Nat) (Option.none : Option Jvm.ClassFile.FieldType)) ∈ lw_good := lw_run tables_1_3 lw_run3 49 rfl rfl
set_option maxRecDepth 20000 in
theorem q_530 : (Jvm.Cond.methodLink "PlanText" (97 : Nat) ({ cls := "PlanText", name := "requireSkill", desc := "(I)V" } : Jvm.MethodName)) ∈ lw_good := lw_run tables_1_3 lw_run3 50 rfl rfl
set_option maxRecDepth 20000 in
theorem q_531 : (Jvm.Cond.static ({ cls := "PlanText", name := "requireSkill", desc := "(I)V" } : Jvm.MethodName)) ∈ lw_good := lw_run tables_1_3 lw_run3 51 rfl rfl
set_option maxRecDepth 20000 in
theorem q_532 : (Jvm.Cond.code ({ cls := "PlanText", name := "requireSkill", desc := "(I)V" } : Jvm.MethodName) prog_1_method_17_code (1 : Nat) (Option.none : Option Jvm.ClassFile.FieldType)) ∈ lw_good := lw_run tables_1_3 lw_run3 52 rfl rfl
set_option maxRecDepth 20000 in
theorem q_533 : (Jvm.Cond.classLink "PlanText" (104 : Nat) "java/lang/IllegalArgumentException") ∈ lw_good := lw_run tables_1_3 lw_run3 53 rfl rfl
set_option maxRecDepth 20000 in
theorem q_549 : (Jvm.Cond.methodLink "PlanTextLaw" (87 : Nat) ({ cls := "PlanTextLaw", name := "plan", desc := "(LPlanText;IIIII[J)I" } : Jvm.MethodName)) ∈ lw_good := lw_run tables_1_3 lw_run3 69 rfl rfl
set_option maxRecDepth 20000 in
theorem q_550 : (Jvm.Cond.static ({ cls := "PlanTextLaw", name := "plan", desc := "(LPlanText;IIIII[J)I" } : Jvm.MethodName)) ∈ lw_good := lw_run tables_1_3 lw_run3 70 rfl rfl
set_option maxRecDepth 20000 in
theorem q_551 : (Jvm.Cond.codeWith ({ cls := "PlanTextLaw", name := "plan", desc := "(LPlanText;IIIII[J)I" } : Jvm.MethodName) method_6_code (8 : Nat) (Option.some Jvm.ClassFile.FieldType.int) [((0 : Nat), (16 : Nat), (19 : Nat), (27 : Nat)), ((0 : Nat), (16 : Nat), (23 : Nat), (13 : Nat))]) ∈ lw_good := lw_run tables_1_3 lw_run3 71 rfl rfl
set_option maxRecDepth 20000 in
theorem q_552 : (Jvm.Cond.methodLink "PlanTextLaw" (29 : Nat) ({ cls := "PlanText", name := "plan", desc := "(IIIII)I" } : Jvm.MethodName)) ∈ lw_good := lw_run tables_1_3 lw_run3 72 rfl rfl
set_option maxRecDepth 20000 in
theorem q_553 : (Jvm.Cond.instanceMethod ({ cls := "PlanText", name := "plan", desc := "(IIIII)I" } : Jvm.MethodName)) ∈ lw_good := lw_run tables_1_3 lw_run3 73 rfl rfl
set_option maxRecDepth 20000 in
theorem q_554 : (Jvm.Cond.selects "PlanText" ({ cls := "PlanText", name := "plan", desc := "(IIIII)I" } : Jvm.MethodName) ({ cls := "PlanText", name := "plan", desc := "(IIIII)I" } : Jvm.MethodName)) ∈ lw_good := lw_run tables_1_3 lw_run3 74 rfl rfl
set_option maxRecDepth 20000 in
theorem q_555 : (Jvm.Cond.code ({ cls := "PlanText", name := "plan", desc := "(IIIII)I" } : Jvm.MethodName) prog_1_method_6_code (9 : Nat) (Option.some Jvm.ClassFile.FieldType.int)) ∈ lw_good := lw_run tables_1_3 lw_run3 75 rfl rfl
set_option maxRecDepth 20000 in
theorem q_557 : (Jvm.Cond.methodLink "PlanText" (109 : Nat) ({ cls := "PlanText", name := "editionOf", desc := "(I)LPlanText$Edition;" } : Jvm.MethodName)) ∈ lw_good := lw_run tables_1_3 lw_run3 77 rfl rfl
set_option maxRecDepth 20000 in
theorem q_559 : (Jvm.Cond.instanceMethod ({ cls := "PlanText", name := "editionOf", desc := "(I)LPlanText$Edition;" } : Jvm.MethodName)) ∈ lw_good := lw_run tables_1_3 lw_run3 79 rfl rfl
set_option maxRecDepth 20000 in
theorem q_560 : (Jvm.Cond.code ({ cls := "PlanText", name := "editionOf", desc := "(I)LPlanText$Edition;" } : Jvm.MethodName) prog_1_method_15_code (5 : Nat) (Option.some (Jvm.ClassFile.FieldType.object "PlanText$Edition"))) ∈ lw_good := lw_run tables_1_3 lw_run3 80 rfl rfl
set_option maxRecDepth 20000 in
theorem q_561 : (Jvm.Cond.methodLink "PlanText" (112 : Nat) ({ cls := "PlanText$Edition", name := "bestPlan", desc := "(IIII)LPlanText$Plan;" } : Jvm.MethodName)) ∈ lw_good := lw_run tables_1_3 lw_run3 81 rfl rfl
set_option maxRecDepth 20000 in
theorem q_562 : (Jvm.Cond.instanceMethod ({ cls := "PlanText$Edition", name := "bestPlan", desc := "(IIII)LPlanText$Plan;" } : Jvm.MethodName)) ∈ lw_good := lw_run tables_1_3 lw_run3 82 rfl rfl
set_option maxRecDepth 20000 in
theorem q_563 : (Jvm.Cond.selects "PlanText$Edition" ({ cls := "PlanText$Edition", name := "bestPlan", desc := "(IIII)LPlanText$Plan;" } : Jvm.MethodName) ({ cls := "PlanText$Edition", name := "bestPlan", desc := "(IIII)LPlanText$Plan;" } : Jvm.MethodName)) ∈ lw_good := lw_run tables_1_3 lw_run3 83 rfl rfl
set_option maxRecDepth 20000 in
theorem q_564 : (Jvm.Cond.code ({ cls := "PlanText$Edition", name := "bestPlan", desc := "(IIII)LPlanText$Plan;" } : Jvm.MethodName) prog_2_method_9_code (8 : Nat) (Option.some (Jvm.ClassFile.FieldType.object "PlanText$Plan"))) ∈ lw_good := lw_run tables_1_3 lw_run3 84 rfl rfl
set_option maxRecDepth 20000 in
theorem q_565 : (Jvm.Cond.methodLink "PlanText$Edition" (49 : Nat) ({ cls := "PlanText$Edition", name := "planNumbered", desc := "(I)LPlanText$Plan;" } : Jvm.MethodName)) ∈ lw_good := lw_run tables_1_3 lw_run3 85 rfl rfl
set_option maxRecDepth 20000 in
theorem q_566 : (Jvm.Cond.methodLink "PlanText$Edition" (53 : Nat) ({ cls := "PlanText$Plan", name := "fits", desc := "(IIII)Z" } : Jvm.MethodName)) ∈ lw_good := lw_run tables_1_3 lw_run3 86 rfl rfl
set_option maxRecDepth 20000 in
theorem q_567 : (Jvm.Cond.instanceMethod ({ cls := "PlanText$Plan", name := "fits", desc := "(IIII)Z" } : Jvm.MethodName)) ∈ lw_good := lw_run tables_1_3 lw_run3 87 rfl rfl
set_option maxRecDepth 20000 in
theorem q_568 : (Jvm.Cond.selects "PlanText$Plan" ({ cls := "PlanText$Plan", name := "fits", desc := "(IIII)Z" } : Jvm.MethodName) ({ cls := "PlanText$Plan", name := "fits", desc := "(IIII)Z" } : Jvm.MethodName)) ∈ lw_good := lw_run tables_1_3 lw_run3 88 rfl rfl
set_option maxRecDepth 20000 in
theorem q_569 : (Jvm.Cond.code ({ cls := "PlanText$Plan", name := "fits", desc := "(IIII)Z" } : Jvm.MethodName) prog_6_method_2_code (5 : Nat) (Option.some Jvm.ClassFile.FieldType.boolean)) ∈ lw_good := lw_run tables_1_3 lw_run3 89 rfl rfl
set_option maxRecDepth 20000 in
theorem q_570 : (Jvm.Cond.methodLink "PlanText$Plan" (31 : Nat) ({ cls := "PlanText$Stretch", name := "covers", desc := "(II)Z" } : Jvm.MethodName)) ∈ lw_good := lw_run tables_1_3 lw_run3 90 rfl rfl
set_option maxRecDepth 20000 in
theorem q_571 : (Jvm.Cond.instanceMethod ({ cls := "PlanText$Stretch", name := "covers", desc := "(II)Z" } : Jvm.MethodName)) ∈ lw_good := lw_run tables_1_3 lw_run3 91 rfl rfl
set_option maxRecDepth 20000 in
theorem q_572 : (Jvm.Cond.selects "PlanText$Stretch" ({ cls := "PlanText$Stretch", name := "covers", desc := "(II)Z" } : Jvm.MethodName) ({ cls := "PlanText$Stretch", name := "covers", desc := "(II)Z" } : Jvm.MethodName)) ∈ lw_good := lw_run tables_1_3 lw_run3 92 rfl rfl
set_option maxRecDepth 20000 in
theorem q_573 : (Jvm.Cond.code ({ cls := "PlanText$Stretch", name := "covers", desc := "(II)Z" } : Jvm.MethodName) prog_10_method_3_code (3 : Nat) (Option.some Jvm.ClassFile.FieldType.boolean)) ∈ lw_good := lw_run tables_1_3 lw_run3 93 rfl rfl
set_option maxRecDepth 20000 in
theorem q_574 : (Jvm.Cond.methodLink "PlanText$Stretch" (19 : Nat) ({ cls := "PlanText$Stretch", name := "isEverywhere", desc := "()Z" } : Jvm.MethodName)) ∈ lw_good := lw_run tables_1_3 lw_run3 94 rfl rfl
set_option maxRecDepth 20000 in
theorem q_575 : (Jvm.Cond.instanceMethod ({ cls := "PlanText$Stretch", name := "isEverywhere", desc := "()Z" } : Jvm.MethodName)) ∈ lw_good := lw_run tables_1_3 lw_run3 95 rfl rfl
set_option maxRecDepth 20000 in
theorem q_576 : (Jvm.Cond.selects "PlanText$Stretch" ({ cls := "PlanText$Stretch", name := "isEverywhere", desc := "()Z" } : Jvm.MethodName) ({ cls := "PlanText$Stretch", name := "isEverywhere", desc := "()Z" } : Jvm.MethodName)) ∈ lw_good := lw_run tables_1_3 lw_run3 96 rfl rfl
set_option maxRecDepth 20000 in
theorem q_577 : (Jvm.Cond.code ({ cls := "PlanText$Stretch", name := "isEverywhere", desc := "()Z" } : Jvm.MethodName) prog_10_method_2_code (1 : Nat) (Option.some Jvm.ClassFile.FieldType.boolean)) ∈ lw_good := lw_run tables_1_3 lw_run3 97 rfl rfl
set_option maxRecDepth 20000 in
theorem q_578 : (Jvm.Cond.methodLink "PlanText$Plan" (37 : Nat) ({ cls := "PlanText$Hours", name := "has", desc := "(I)Z" } : Jvm.MethodName)) ∈ lw_good := lw_run tables_1_3 lw_run3 98 rfl rfl
set_option maxRecDepth 20000 in
theorem q_579 : (Jvm.Cond.instanceMethod ({ cls := "PlanText$Hours", name := "has", desc := "(I)Z" } : Jvm.MethodName)) ∈ lw_good := lw_run tables_1_3 lw_run3 99 rfl rfl
set_option maxRecDepth 20000 in
theorem q_580 : (Jvm.Cond.selects "PlanText$Hours" ({ cls := "PlanText$Hours", name := "has", desc := "(I)Z" } : Jvm.MethodName) ({ cls := "PlanText$Hours", name := "has", desc := "(I)Z" } : Jvm.MethodName)) ∈ lw_good := lw_run tables_1_3 lw_run3 100 rfl rfl
set_option maxRecDepth 20000 in
theorem q_581 : (Jvm.Cond.code ({ cls := "PlanText$Hours", name := "has", desc := "(I)Z" } : Jvm.MethodName) prog_3_method_2_code (2 : Nat) (Option.some Jvm.ClassFile.FieldType.boolean)) ∈ lw_good := lw_run tables_1_3 lw_run3 101 rfl rfl
set_option maxRecDepth 20000 in
theorem q_582 : (Jvm.Cond.methodLink "PlanText$Edition" (57 : Nat) ({ cls := "PlanText$Plan", name := "goesAheadOf", desc := "(LPlanText$Plan;)Z" } : Jvm.MethodName)) ∈ lw_good := lw_run tables_1_3 lw_run3 102 rfl rfl
set_option maxRecDepth 20000 in
theorem q_583 : (Jvm.Cond.instanceMethod ({ cls := "PlanText$Plan", name := "goesAheadOf", desc := "(LPlanText$Plan;)Z" } : Jvm.MethodName)) ∈ lw_good := lw_run tables_1_3 lw_run3 103 rfl rfl
set_option maxRecDepth 20000 in
theorem q_584 : (Jvm.Cond.selects "PlanText$Plan" ({ cls := "PlanText$Plan", name := "goesAheadOf", desc := "(LPlanText$Plan;)Z" } : Jvm.MethodName) ({ cls := "PlanText$Plan", name := "goesAheadOf", desc := "(LPlanText$Plan;)Z" } : Jvm.MethodName)) ∈ lw_good := lw_run tables_1_3 lw_run3 104 rfl rfl
set_option maxRecDepth 20000 in
theorem q_585 : (Jvm.Cond.code ({ cls := "PlanText$Plan", name := "goesAheadOf", desc := "(LPlanText$Plan;)Z" } : Jvm.MethodName) prog_6_method_4_code (2 : Nat) (Option.some Jvm.ClassFile.FieldType.boolean)) ∈ lw_good := lw_run tables_1_3 lw_run3 105 rfl rfl
set_option maxRecDepth 20000 in
theorem q_586 : (Jvm.Cond.methodLink "PlanText" (124 : Nat) ({ cls := "PlanText$Edition", name := "defaultNeeds", desc := "(I)LPlanText$NeedList;" } : Jvm.MethodName)) ∈ lw_good := lw_run tables_1_3 lw_run3 106 rfl rfl
set_option maxRecDepth 20000 in
theorem q_587 : (Jvm.Cond.methodLink "PlanTextLaw" (91 : Nat) ({ cls := "PlanTextLaw", name := "need", desc := "(LPlanText;II[J)I" } : Jvm.MethodName)) ∈ lw_good := lw_run tables_1_3 lw_run3 107 rfl rfl
set_option maxRecDepth 20000 in
theorem q_588 : (Jvm.Cond.static ({ cls := "PlanTextLaw", name := "need", desc := "(LPlanText;II[J)I" } : Jvm.MethodName)) ∈ lw_good := lw_run tables_1_3 lw_run3 108 rfl rfl
set_option maxRecDepth 20000 in
theorem q_589 : (Jvm.Cond.codeWith ({ cls := "PlanTextLaw", name := "need", desc := "(LPlanText;II[J)I" } : Jvm.MethodName) method_7_code (5 : Nat) (Option.some Jvm.ClassFile.FieldType.int) [((0 : Nat), (10 : Nat), (13 : Nat), (27 : Nat))]) ∈ lw_good := lw_run tables_1_3 lw_run3 109 rfl rfl
set_option maxRecDepth 20000 in
theorem q_590 : (Jvm.Cond.methodLink "PlanTextLaw" (33 : Nat) ({ cls := "PlanText", name := "need", desc := "(II)I" } : Jvm.MethodName)) ∈ lw_good := lw_run tables_1_3 lw_run3 110 rfl rfl
set_option maxRecDepth 20000 in
theorem q_591 : (Jvm.Cond.instanceMethod ({ cls := "PlanText", name := "need", desc := "(II)I" } : Jvm.MethodName)) ∈ lw_good := lw_run tables_1_3 lw_run3 111 rfl rfl
set_option maxRecDepth 20000 in
theorem q_592 : (Jvm.Cond.selects "PlanText" ({ cls := "PlanText", name := "need", desc := "(II)I" } : Jvm.MethodName) ({ cls := "PlanText", name := "need", desc := "(II)I" } : Jvm.MethodName)) ∈ lw_good := lw_run tables_1_3 lw_run3 112 rfl rfl
set_option maxRecDepth 20000 in
theorem q_593 : (Jvm.Cond.code ({ cls := "PlanText", name := "need", desc := "(II)I" } : Jvm.MethodName) prog_1_method_7_code (4 : Nat) (Option.some Jvm.ClassFile.FieldType.int)) ∈ lw_good := lw_run tables_1_3 lw_run3 113 rfl rfl
set_option maxRecDepth 20000 in
theorem q_594 : (Jvm.Cond.methodLink "PlanText" (128 : Nat) ({ cls := "PlanText$NeedList", name := "needAt", desc := "(I)LPlanText$Need;" } : Jvm.MethodName)) ∈ lw_good := lw_run tables_1_3 lw_run3 114 rfl rfl
set_option maxRecDepth 20000 in
theorem q_595 : (Jvm.Cond.instanceMethod ({ cls := "PlanText$NeedList", name := "needAt", desc := "(I)LPlanText$Need;" } : Jvm.MethodName)) ∈ lw_good := lw_run tables_1_3 lw_run3 115 rfl rfl
set_option maxRecDepth 20000 in
theorem q_596 : (Jvm.Cond.selects "PlanText$NeedList" ({ cls := "PlanText$NeedList", name := "needAt", desc := "(I)LPlanText$Need;" } : Jvm.MethodName) ({ cls := "PlanText$NeedList", name := "needAt", desc := "(I)LPlanText$Need;" } : Jvm.MethodName)) ∈ lw_good := lw_run tables_1_3 lw_run3 116 rfl rfl
set_option maxRecDepth 20000 in
theorem q_597 : (Jvm.Cond.code ({ cls := "PlanText$NeedList", name := "needAt", desc := "(I)LPlanText$Need;" } : Jvm.MethodName) prog_5_method_3_code (2 : Nat) (Option.some (Jvm.ClassFile.FieldType.object "PlanText$Need"))) ∈ lw_good := lw_run tables_1_3 lw_run3 117 rfl rfl
set_option maxRecDepth 20000 in
theorem q_600 : (Jvm.Cond.methodLink "PlanTextLaw" (95 : Nat) ({ cls := "PlanTextLaw", name := "standby", desc := "(LPlanText;IIII[J)I" } : Jvm.MethodName)) ∈ lw_good := lw_run tables_1_3 lw_run3 120 rfl rfl
set_option maxRecDepth 20000 in
theorem q_601 : (Jvm.Cond.static ({ cls := "PlanTextLaw", name := "standby", desc := "(LPlanText;IIII[J)I" } : Jvm.MethodName)) ∈ lw_good := lw_run tables_1_3 lw_run3 121 rfl rfl
set_option maxRecDepth 20000 in
theorem q_602 : (Jvm.Cond.codeWith ({ cls := "PlanTextLaw", name := "standby", desc := "(LPlanText;IIII[J)I" } : Jvm.MethodName) method_8_code (7 : Nat) (Option.some Jvm.ClassFile.FieldType.int) [((0 : Nat), (14 : Nat), (17 : Nat), (27 : Nat)), ((0 : Nat), (14 : Nat), (21 : Nat), (13 : Nat))]) ∈ lw_good := lw_run tables_1_3 lw_run3 122 rfl rfl
set_option maxRecDepth 20000 in
theorem q_603 : (Jvm.Cond.methodLink "PlanTextLaw" (37 : Nat) ({ cls := "PlanText", name := "standby", desc := "(IIII)I" } : Jvm.MethodName)) ∈ lw_good := lw_run tables_1_3 lw_run3 123 rfl rfl
set_option maxRecDepth 20000 in
theorem q_604 : (Jvm.Cond.instanceMethod ({ cls := "PlanText", name := "standby", desc := "(IIII)I" } : Jvm.MethodName)) ∈ lw_good := lw_run tables_1_3 lw_run3 124 rfl rfl
set_option maxRecDepth 20000 in
theorem q_605 : (Jvm.Cond.selects "PlanText" ({ cls := "PlanText", name := "standby", desc := "(IIII)I" } : Jvm.MethodName) ({ cls := "PlanText", name := "standby", desc := "(IIII)I" } : Jvm.MethodName)) ∈ lw_good := lw_run tables_1_3 lw_run3 125 rfl rfl
set_option maxRecDepth 20000 in
theorem q_606 : (Jvm.Cond.code ({ cls := "PlanText", name := "standby", desc := "(IIII)I" } : Jvm.MethodName) prog_1_method_8_code (5 : Nat) (Option.some Jvm.ClassFile.FieldType.int)) ∈ lw_good := lw_run tables_1_3 lw_run3 126 rfl rfl
set_option maxRecDepth 20000 in
theorem q_607 : (Jvm.Cond.methodLink "PlanText" (152 : Nat) ({ cls := "PlanText$Edition", name := "standbyUnits", desc := "(III)I" } : Jvm.MethodName)) ∈ lw_good := lw_run tables_1_3 lw_run3 127 rfl rfl
set_option maxRecDepth 20000 in
theorem q_608 : (Jvm.Cond.instanceMethod ({ cls := "PlanText$Edition", name := "standbyUnits", desc := "(III)I" } : Jvm.MethodName)) ∈ lw_good := lw_run tables_1_3 lw_run3 128 rfl rfl
set_option maxRecDepth 20000 in
theorem q_609 : (Jvm.Cond.selects "PlanText$Edition" ({ cls := "PlanText$Edition", name := "standbyUnits", desc := "(III)I" } : Jvm.MethodName) ({ cls := "PlanText$Edition", name := "standbyUnits", desc := "(III)I" } : Jvm.MethodName)) ∈ lw_good := lw_run tables_1_3 lw_run3 129 rfl rfl
set_option maxRecDepth 20000 in
theorem q_610 : (Jvm.Cond.code ({ cls := "PlanText$Edition", name := "standbyUnits", desc := "(III)I" } : Jvm.MethodName) prog_2_method_10_code (7 : Nat) (Option.some Jvm.ClassFile.FieldType.int)) ∈ lw_good := lw_run tables_1_3 lw_run3 130 rfl rfl
set_option maxRecDepth 20000 in
theorem q_611 : (Jvm.Cond.methodLink "PlanText$Edition" (61 : Nat) ({ cls := "PlanText$Edition", name := "standbyRow", desc := "(I)LPlanText$Standby;" } : Jvm.MethodName)) ∈ lw_good := lw_run tables_1_3 lw_run3 131 rfl rfl
set_option maxRecDepth 20000 in
theorem q_612 : (Jvm.Cond.instanceMethod ({ cls := "PlanText$Edition", name := "standbyRow", desc := "(I)LPlanText$Standby;" } : Jvm.MethodName)) ∈ lw_good := lw_run tables_1_3 lw_run3 132 rfl rfl
set_option maxRecDepth 20000 in
theorem q_613 : (Jvm.Cond.selects "PlanText$Edition" ({ cls := "PlanText$Edition", name := "standbyRow", desc := "(I)LPlanText$Standby;" } : Jvm.MethodName) ({ cls := "PlanText$Edition", name := "standbyRow", desc := "(I)LPlanText$Standby;" } : Jvm.MethodName)) ∈ lw_good := lw_run tables_1_3 lw_run3 133 rfl rfl
set_option maxRecDepth 20000 in
theorem q_614 : (Jvm.Cond.code ({ cls := "PlanText$Edition", name := "standbyRow", desc := "(I)LPlanText$Standby;" } : Jvm.MethodName) prog_2_method_4_code (2 : Nat) (Option.some (Jvm.ClassFile.FieldType.object "PlanText$Standby"))) ∈ lw_good := lw_run tables_1_3 lw_run3 134 rfl rfl
set_option maxRecDepth 20000 in
theorem q_615 : (Jvm.Cond.methodLink "PlanText$Edition" (65 : Nat) ({ cls := "PlanText$Standby", name := "holds", desc := "(III)Z" } : Jvm.MethodName)) ∈ lw_good := lw_run tables_1_3 lw_run3 135 rfl rfl
set_option maxRecDepth 20000 in
theorem q_616 : (Jvm.Cond.instanceMethod ({ cls := "PlanText$Standby", name := "holds", desc := "(III)Z" } : Jvm.MethodName)) ∈ lw_good := lw_run tables_1_3 lw_run3 136 rfl rfl
set_option maxRecDepth 20000 in
theorem q_617 : (Jvm.Cond.selects "PlanText$Standby" ({ cls := "PlanText$Standby", name := "holds", desc := "(III)Z" } : Jvm.MethodName) ({ cls := "PlanText$Standby", name := "holds", desc := "(III)Z" } : Jvm.MethodName)) ∈ lw_good := lw_run tables_1_3 lw_run3 137 rfl rfl
set_option maxRecDepth 20000 in
theorem q_618 : (Jvm.Cond.code ({ cls := "PlanText$Standby", name := "holds", desc := "(III)Z" } : Jvm.MethodName) prog_9_method_2_code (4 : Nat) (Option.some Jvm.ClassFile.FieldType.boolean)) ∈ lw_good := lw_run tables_1_3 lw_run3 138 rfl rfl
set_option maxRecDepth 20000 in
theorem q_619 : (Jvm.Cond.methodLink "PlanText$Standby" (23 : Nat) ({ cls := "PlanText$Hours", name := "has", desc := "(I)Z" } : Jvm.MethodName)) ∈ lw_good := lw_run tables_1_3 lw_run3 139 rfl rfl
set_option maxRecDepth 20000 in
theorem q_620 : (Jvm.Cond.methodLink "PlanTextLaw" (99 : Nat) ({ cls := "PlanTextLaw", name := "clash", desc := "(LPlanText;II[J)I" } : Jvm.MethodName)) ∈ lw_good := lw_run tables_1_3 lw_run3 140 rfl rfl
set_option maxRecDepth 20000 in
theorem q_621 : (Jvm.Cond.static ({ cls := "PlanTextLaw", name := "clash", desc := "(LPlanText;II[J)I" } : Jvm.MethodName)) ∈ lw_good := lw_run tables_1_3 lw_run3 141 rfl rfl
set_option maxRecDepth 20000 in
theorem q_622 : (Jvm.Cond.codeWith ({ cls := "PlanTextLaw", name := "clash", desc := "(LPlanText;II[J)I" } : Jvm.MethodName) method_9_code (5 : Nat) (Option.some Jvm.ClassFile.FieldType.int) [((0 : Nat), (10 : Nat), (13 : Nat), (13 : Nat))]) ∈ lw_good := lw_run tables_1_3 lw_run3 142 rfl rfl
set_option maxRecDepth 20000 in
theorem q_623 : (Jvm.Cond.methodLink "PlanTextLaw" (41 : Nat) ({ cls := "PlanText", name := "clash", desc := "(II)I" } : Jvm.MethodName)) ∈ lw_good := lw_run tables_1_3 lw_run3 143 rfl rfl
set_option maxRecDepth 20000 in
theorem q_624 : (Jvm.Cond.instanceMethod ({ cls := "PlanText", name := "clash", desc := "(II)I" } : Jvm.MethodName)) ∈ lw_good := lw_run tables_1_3 lw_run3 144 rfl rfl
set_option maxRecDepth 20000 in
theorem q_625 : (Jvm.Cond.selects "PlanText" ({ cls := "PlanText", name := "clash", desc := "(II)I" } : Jvm.MethodName) ({ cls := "PlanText", name := "clash", desc := "(II)I" } : Jvm.MethodName)) ∈ lw_good := lw_run tables_1_3 lw_run3 145 rfl rfl
set_option maxRecDepth 20000 in
theorem q_626 : (Jvm.Cond.code ({ cls := "PlanText", name := "clash", desc := "(II)I" } : Jvm.MethodName) prog_1_method_9_code (3 : Nat) (Option.some Jvm.ClassFile.FieldType.int)) ∈ lw_good := lw_run tables_1_3 lw_run3 146 rfl rfl
set_option maxRecDepth 20000 in
theorem q_627 : (Jvm.Cond.methodLink "PlanText" (156 : Nat) ({ cls := "PlanText", name := "requireIndex", desc := "(I)V" } : Jvm.MethodName)) ∈ lw_good := lw_run tables_1_3 lw_run3 147 rfl rfl
set_option maxRecDepth 20000 in
theorem q_628 : (Jvm.Cond.static ({ cls := "PlanText", name := "requireIndex", desc := "(I)V" } : Jvm.MethodName)) ∈ lw_good := lw_run tables_1_3 lw_run3 148 rfl rfl
set_option maxRecDepth 20000 in
theorem q_629 : (Jvm.Cond.code ({ cls := "PlanText", name := "requireIndex", desc := "(I)V" } : Jvm.MethodName) prog_1_method_19_code (1 : Nat) (Option.none : Option Jvm.ClassFile.FieldType)) ∈ lw_good := lw_run tables_1_3 lw_run3 149 rfl rfl
set_option maxRecDepth 20000 in
theorem q_631 : (Jvm.Cond.methodLink "PlanText" (159 : Nat) ({ cls := "PlanText$Edition", name := "clashingPair", desc := "(I)I" } : Jvm.MethodName)) ∈ lw_good := lw_run tables_1_3 lw_run3 151 rfl rfl
set_option maxRecDepth 20000 in
theorem q_632 : (Jvm.Cond.instanceMethod ({ cls := "PlanText$Edition", name := "clashingPair", desc := "(I)I" } : Jvm.MethodName)) ∈ lw_good := lw_run tables_1_3 lw_run3 152 rfl rfl
set_option maxRecDepth 20000 in
theorem q_633 : (Jvm.Cond.selects "PlanText$Edition" ({ cls := "PlanText$Edition", name := "clashingPair", desc := "(I)I" } : Jvm.MethodName) ({ cls := "PlanText$Edition", name := "clashingPair", desc := "(I)I" } : Jvm.MethodName)) ∈ lw_good := lw_run tables_1_3 lw_run3 153 rfl rfl
set_option maxRecDepth 20000 in
theorem q_634 : (Jvm.Cond.code ({ cls := "PlanText$Edition", name := "clashingPair", desc := "(I)I" } : Jvm.MethodName) prog_2_method_11_code (7 : Nat) (Option.some Jvm.ClassFile.FieldType.int)) ∈ lw_good := lw_run tables_1_3 lw_run3 154 rfl rfl
set_option maxRecDepth 20000 in
theorem q_635 : (Jvm.Cond.methodLink "PlanText$Edition" (72 : Nat) ({ cls := "PlanText$Plan", name := "clashesWith", desc := "(LPlanText$Plan;)Z" } : Jvm.MethodName)) ∈ lw_good := lw_run tables_1_3 lw_run3 155 rfl rfl
set_option maxRecDepth 20000 in
theorem q_636 : (Jvm.Cond.instanceMethod ({ cls := "PlanText$Plan", name := "clashesWith", desc := "(LPlanText$Plan;)Z" } : Jvm.MethodName)) ∈ lw_good := lw_run tables_1_3 lw_run3 156 rfl rfl
set_option maxRecDepth 20000 in
theorem q_637 : (Jvm.Cond.selects "PlanText$Plan" ({ cls := "PlanText$Plan", name := "clashesWith", desc := "(LPlanText$Plan;)Z" } : Jvm.MethodName) ({ cls := "PlanText$Plan", name := "clashesWith", desc := "(LPlanText$Plan;)Z" } : Jvm.MethodName)) ∈ lw_good := lw_run tables_1_3 lw_run3 157 rfl rfl
set_option maxRecDepth 20000 in
theorem q_638 : (Jvm.Cond.code ({ cls := "PlanText$Plan", name := "clashesWith", desc := "(LPlanText$Plan;)Z" } : Jvm.MethodName) prog_6_method_3_code (2 : Nat) (Option.some Jvm.ClassFile.FieldType.boolean)) ∈ lw_good := lw_run tables_1_3 lw_run3 158 rfl rfl
set_option maxRecDepth 20000 in
theorem q_639 : (Jvm.Cond.methodLink "PlanText$Plan" (46 : Nat) ({ cls := "PlanText$Stretch", name := "meets", desc := "(LPlanText$Stretch;)Z" } : Jvm.MethodName)) ∈ lw_good := lw_run tables_1_3 lw_run3 159 rfl rfl
set_option maxRecDepth 20000 in
theorem q_640 : (Jvm.Cond.instanceMethod ({ cls := "PlanText$Stretch", name := "meets", desc := "(LPlanText$Stretch;)Z" } : Jvm.MethodName)) ∈ lw_good := lw_run tables_1_3 lw_run3 160 rfl rfl
set_option maxRecDepth 20000 in
theorem q_641 : (Jvm.Cond.selects "PlanText$Stretch" ({ cls := "PlanText$Stretch", name := "meets", desc := "(LPlanText$Stretch;)Z" } : Jvm.MethodName) ({ cls := "PlanText$Stretch", name := "meets", desc := "(LPlanText$Stretch;)Z" } : Jvm.MethodName)) ∈ lw_good := lw_run tables_1_3 lw_run3 161 rfl rfl
set_option maxRecDepth 20000 in
theorem q_642 : (Jvm.Cond.code ({ cls := "PlanText$Stretch", name := "meets", desc := "(LPlanText$Stretch;)Z" } : Jvm.MethodName) prog_10_method_5_code (2 : Nat) (Option.some Jvm.ClassFile.FieldType.boolean)) ∈ lw_good := lw_run tables_1_3 lw_run3 162 rfl rfl
set_option maxRecDepth 20000 in
theorem q_643 : (Jvm.Cond.methodLink "PlanTextLaw" (102 : Nat) ({ cls := "PlanTextLaw", name := "never", desc := "(LPlanText;II[J)I" } : Jvm.MethodName)) ∈ lw_good := lw_run tables_1_3 lw_run3 163 rfl rfl
set_option maxRecDepth 20000 in
theorem q_644 : (Jvm.Cond.static ({ cls := "PlanTextLaw", name := "never", desc := "(LPlanText;II[J)I" } : Jvm.MethodName)) ∈ lw_good := lw_run tables_1_3 lw_run3 164 rfl rfl
set_option maxRecDepth 20000 in
theorem q_645 : (Jvm.Cond.codeWith ({ cls := "PlanTextLaw", name := "never", desc := "(LPlanText;II[J)I" } : Jvm.MethodName) method_10_code (5 : Nat) (Option.some Jvm.ClassFile.FieldType.int) [((0 : Nat), (10 : Nat), (13 : Nat), (13 : Nat))]) ∈ lw_good := lw_run tables_1_3 lw_run3 165 rfl rfl
set_option maxRecDepth 20000 in
theorem q_646 : (Jvm.Cond.methodLink "PlanTextLaw" (44 : Nat) ({ cls := "PlanText", name := "never", desc := "(II)I" } : Jvm.MethodName)) ∈ lw_good := lw_run tables_1_3 lw_run3 166 rfl rfl
set_option maxRecDepth 20000 in
theorem q_647 : (Jvm.Cond.instanceMethod ({ cls := "PlanText", name := "never", desc := "(II)I" } : Jvm.MethodName)) ∈ lw_good := lw_run tables_1_3 lw_run3 167 rfl rfl
set_option maxRecDepth 20000 in
theorem q_648 : (Jvm.Cond.selects "PlanText" ({ cls := "PlanText", name := "never", desc := "(II)I" } : Jvm.MethodName) ({ cls := "PlanText", name := "never", desc := "(II)I" } : Jvm.MethodName)) ∈ lw_good := lw_run tables_1_3 lw_run3 168 rfl rfl
set_option maxRecDepth 20000 in
theorem q_649 : (Jvm.Cond.code ({ cls := "PlanText", name := "never", desc := "(II)I" } : Jvm.MethodName) prog_1_method_10_code (3 : Nat) (Option.some Jvm.ClassFile.FieldType.int)) ∈ lw_good := lw_run tables_1_3 lw_run3 169 rfl rfl
set_option maxRecDepth 20000 in
theorem q_650 : (Jvm.Cond.methodLink "PlanText" (163 : Nat) ({ cls := "PlanText$Edition", name := "plansNeverMet", desc := "()J" } : Jvm.MethodName)) ∈ lw_good := lw_run tables_1_3 lw_run3 170 rfl rfl
set_option maxRecDepth 20000 in
theorem q_651 : (Jvm.Cond.instanceMethod ({ cls := "PlanText$Edition", name := "plansNeverMet", desc := "()J" } : Jvm.MethodName)) ∈ lw_good := lw_run tables_1_3 lw_run3 171 rfl rfl
set_option maxRecDepth 20000 in
theorem q_652 : (Jvm.Cond.selects "PlanText$Edition" ({ cls := "PlanText$Edition", name := "plansNeverMet", desc := "()J" } : Jvm.MethodName) ({ cls := "PlanText$Edition", name := "plansNeverMet", desc := "()J" } : Jvm.MethodName)) ∈ lw_good := lw_run tables_1_3 lw_run3 172 rfl rfl
set_option maxRecDepth 20000 in
theorem q_653 : (Jvm.Cond.code ({ cls := "PlanText$Edition", name := "plansNeverMet", desc := "()J" } : Jvm.MethodName) prog_2_method_12_code (5 : Nat) (Option.some Jvm.ClassFile.FieldType.long)) ∈ lw_good := lw_run tables_1_3 lw_run3 173 rfl rfl
set_option maxRecDepth 20000 in
theorem q_654 : (Jvm.Cond.methodLink "PlanText$Edition" (75 : Nat) ({ cls := "PlanText$Edition", name := "isNeverMet", desc := "(LPlanText$Plan;)Z" } : Jvm.MethodName)) ∈ lw_good := lw_run tables_1_3 lw_run3 174 rfl rfl
set_option maxRecDepth 20000 in
theorem q_656 : (Jvm.Cond.instanceMethod ({ cls := "PlanText$Edition", name := "isNeverMet", desc := "(LPlanText$Plan;)Z" } : Jvm.MethodName)) ∈ lw_good := lw_run tables_1_3 lw_run3 176 rfl rfl
set_option maxRecDepth 20000 in
theorem q_657 : (Jvm.Cond.code ({ cls := "PlanText$Edition", name := "isNeverMet", desc := "(LPlanText$Plan;)Z" } : Jvm.MethodName) prog_2_method_14_code (4 : Nat) (Option.some Jvm.ClassFile.FieldType.boolean)) ∈ lw_good := lw_run tables_1_3 lw_run3 177 rfl rfl
set_option maxRecDepth 20000 in
theorem q_658 : (Jvm.Cond.methodLink "PlanText$Edition" (95 : Nat) ({ cls := "PlanText$Edition", name := "hoursLeft", desc := "(LPlanText$Plan;I)I" } : Jvm.MethodName)) ∈ lw_good := lw_run tables_1_3 lw_run3 178 rfl rfl
set_option maxRecDepth 20000 in
theorem q_660 : (Jvm.Cond.instanceMethod ({ cls := "PlanText$Edition", name := "hoursLeft", desc := "(LPlanText$Plan;I)I" } : Jvm.MethodName)) ∈ lw_good := lw_run tables_1_3 lw_run3 180 rfl rfl
set_option maxRecDepth 20000 in
theorem q_661 : (Jvm.Cond.code ({ cls := "PlanText$Edition", name := "hoursLeft", desc := "(LPlanText$Plan;I)I" } : Jvm.MethodName) prog_2_method_15_code (6 : Nat) (Option.some Jvm.ClassFile.FieldType.int)) ∈ lw_good := lw_run tables_1_3 lw_run3 181 rfl rfl
set_option maxRecDepth 20000 in
theorem q_662 : (Jvm.Cond.methodLink "PlanText$Edition" (118 : Nat) ({ cls := "PlanText$Stretch", name := "covers", desc := "(II)Z" } : Jvm.MethodName)) ∈ lw_good := lw_run tables_1_3 lw_run3 182 rfl rfl
set_option maxRecDepth 20000 in
theorem q_663 : (Jvm.Cond.methodLink "PlanText$Edition" (99 : Nat) ({ cls := "PlanText$Stretch", name := "endsWithin", desc := "(LPlanText$Stretch;)Z" } : Jvm.MethodName)) ∈ lw_good := lw_run tables_1_3 lw_run3 183 rfl rfl
set_option maxRecDepth 20000 in
theorem q_664 : (Jvm.Cond.instanceMethod ({ cls := "PlanText$Stretch", name := "endsWithin", desc := "(LPlanText$Stretch;)Z" } : Jvm.MethodName)) ∈ lw_good := lw_run tables_1_3 lw_run3 184 rfl rfl
set_option maxRecDepth 20000 in
theorem q_665 : (Jvm.Cond.selects "PlanText$Stretch" ({ cls := "PlanText$Stretch", name := "endsWithin", desc := "(LPlanText$Stretch;)Z" } : Jvm.MethodName) ({ cls := "PlanText$Stretch", name := "endsWithin", desc := "(LPlanText$Stretch;)Z" } : Jvm.MethodName)) ∈ lw_good := lw_run tables_1_3 lw_run3 185 rfl rfl
set_option maxRecDepth 20000 in
theorem q_666 : (Jvm.Cond.code ({ cls := "PlanText$Stretch", name := "endsWithin", desc := "(LPlanText$Stretch;)Z" } : Jvm.MethodName) prog_10_method_4_code (2 : Nat) (Option.some Jvm.ClassFile.FieldType.boolean)) ∈ lw_good := lw_run tables_1_3 lw_run3 186 rfl rfl
set_option maxRecDepth 20000 in
theorem q_667 : (Jvm.Cond.methodLink "PlanText" (167 : Nat) ({ cls := "PlanText", name := "numberAmong", desc := "(JI)I" } : Jvm.MethodName)) ∈ lw_good := lw_run tables_1_3 lw_run3 187 rfl rfl
set_option maxRecDepth 20000 in
theorem q_668 : (Jvm.Cond.static ({ cls := "PlanText", name := "numberAmong", desc := "(JI)I" } : Jvm.MethodName)) ∈ lw_good := lw_run tables_1_3 lw_run3 188 rfl rfl
set_option maxRecDepth 20000 in
theorem q_669 : (Jvm.Cond.code ({ cls := "PlanText", name := "numberAmong", desc := "(JI)I" } : Jvm.MethodName) prog_1_method_16_code (5 : Nat) (Option.some Jvm.ClassFile.FieldType.int)) ∈ lw_good := lw_run tables_1_3 lw_run3 189 rfl rfl
set_option maxRecDepth 20000 in
theorem q_670 : (Jvm.Cond.methodLink "PlanTextLaw" (105 : Nat) ({ cls := "PlanTextLaw", name := "lacks", desc := "(LPlanText;II[J)I" } : Jvm.MethodName)) ∈ lw_good := lw_run tables_1_3 lw_run3 190 rfl rfl
set_option maxRecDepth 20000 in
theorem q_671 : (Jvm.Cond.static ({ cls := "PlanTextLaw", name := "lacks", desc := "(LPlanText;II[J)I" } : Jvm.MethodName)) ∈ lw_good := lw_run tables_1_3 lw_run3 191 rfl rfl
set_option maxRecDepth 20000 in
theorem q_672 : (Jvm.Cond.codeWith ({ cls := "PlanTextLaw", name := "lacks", desc := "(LPlanText;II[J)I" } : Jvm.MethodName) method_11_code (5 : Nat) (Option.some Jvm.ClassFile.FieldType.int) [((0 : Nat), (10 : Nat), (13 : Nat), (13 : Nat))]) ∈ lw_good := lw_run tables_1_3 lw_run3 192 rfl rfl
set_option maxRecDepth 20000 in
theorem q_673 : (Jvm.Cond.methodLink "PlanTextLaw" (47 : Nat) ({ cls := "PlanText", name := "lacks", desc := "(II)I" } : Jvm.MethodName)) ∈ lw_good := lw_run tables_1_3 lw_run3 193 rfl rfl
set_option maxRecDepth 20000 in
theorem q_674 : (Jvm.Cond.instanceMethod ({ cls := "PlanText", name := "lacks", desc := "(II)I" } : Jvm.MethodName)) ∈ lw_good := lw_run tables_1_3 lw_run3 194 rfl rfl
set_option maxRecDepth 20000 in
theorem q_675 : (Jvm.Cond.selects "PlanText" ({ cls := "PlanText", name := "lacks", desc := "(II)I" } : Jvm.MethodName) ({ cls := "PlanText", name := "lacks", desc := "(II)I" } : Jvm.MethodName)) ∈ lw_good := lw_run tables_1_3 lw_run3 195 rfl rfl
set_option maxRecDepth 20000 in
theorem q_676 : (Jvm.Cond.code ({ cls := "PlanText", name := "lacks", desc := "(II)I" } : Jvm.MethodName) prog_1_method_11_code (3 : Nat) (Option.some Jvm.ClassFile.FieldType.int)) ∈ lw_good := lw_run tables_1_3 lw_run3 196 rfl rfl
set_option maxRecDepth 20000 in
theorem q_677 : (Jvm.Cond.methodLink "PlanText" (171 : Nat) ({ cls := "PlanText$Edition", name := "plansLacking", desc := "([I)J" } : Jvm.MethodName)) ∈ lw_good := lw_run tables_1_3 lw_run3 197 rfl rfl
set_option maxRecDepth 20000 in
theorem q_678 : (Jvm.Cond.instanceMethod ({ cls := "PlanText$Edition", name := "plansLacking", desc := "([I)J" } : Jvm.MethodName)) ∈ lw_good := lw_run tables_1_3 lw_run3 198 rfl rfl
set_option maxRecDepth 20000 in
theorem q_679 : (Jvm.Cond.selects "PlanText$Edition" ({ cls := "PlanText$Edition", name := "plansLacking", desc := "([I)J" } : Jvm.MethodName) ({ cls := "PlanText$Edition", name := "plansLacking", desc := "([I)J" } : Jvm.MethodName)) ∈ lw_good := lw_run tables_1_3 lw_run3 199 rfl rfl
set_option maxRecDepth 20000 in
theorem q_680 : (Jvm.Cond.code ({ cls := "PlanText$Edition", name := "plansLacking", desc := "([I)J" } : Jvm.MethodName) prog_2_method_13_code (6 : Nat) (Option.some Jvm.ClassFile.FieldType.long)) ∈ lw_good := lw_run tables_1_3 lw_run3 200 rfl rfl
set_option maxRecDepth 20000 in
theorem q_681 : (Jvm.Cond.methodLink "PlanText$Edition" (82 : Nat) ({ cls := "PlanText$NeedList", name := "hasOneAbove", desc := "([I)Z" } : Jvm.MethodName)) ∈ lw_good := lw_run tables_1_3 lw_run3 201 rfl rfl
set_option maxRecDepth 20000 in
theorem q_682 : (Jvm.Cond.instanceMethod ({ cls := "PlanText$NeedList", name := "hasOneAbove", desc := "([I)Z" } : Jvm.MethodName)) ∈ lw_good := lw_run tables_1_3 lw_run3 202 rfl rfl
set_option maxRecDepth 20000 in
theorem q_683 : (Jvm.Cond.selects "PlanText$NeedList" ({ cls := "PlanText$NeedList", name := "hasOneAbove", desc := "([I)Z" } : Jvm.MethodName) ({ cls := "PlanText$NeedList", name := "hasOneAbove", desc := "([I)Z" } : Jvm.MethodName)) ∈ lw_good := lw_run tables_1_3 lw_run3 203 rfl rfl
set_option maxRecDepth 20000 in
theorem q_684 : (Jvm.Cond.code ({ cls := "PlanText$NeedList", name := "hasOneAbove", desc := "([I)Z" } : Jvm.MethodName) prog_5_method_4_code (4 : Nat) (Option.some Jvm.ClassFile.FieldType.boolean)) ∈ lw_good := lw_run tables_1_3 lw_run3 204 rfl rfl
set_option maxRecDepth 20000 in
theorem q_685 : (Jvm.Cond.methodLink "PlanText$NeedList" (21 : Nat) ({ cls := "PlanText$NeedList", name := "needAt", desc := "(I)LPlanText$Need;" } : Jvm.MethodName)) ∈ lw_good := lw_run tables_1_3 lw_run3 205 rfl rfl
set_option maxRecDepth 20000 in
theorem q_686 : (Jvm.Cond.methodLink "PlanText$NeedList" (25 : Nat) ({ cls := "PlanText$Need", name := "isAbove", desc := "([I)Z" } : Jvm.MethodName)) ∈ lw_good := lw_run tables_1_3 lw_run3 206 rfl rfl
set_option maxRecDepth 20000 in
theorem q_687 : (Jvm.Cond.instanceMethod ({ cls := "PlanText$Need", name := "isAbove", desc := "([I)Z" } : Jvm.MethodName)) ∈ lw_good := lw_run tables_1_3 lw_run3 207 rfl rfl
set_option maxRecDepth 20000 in
theorem q_688 : (Jvm.Cond.selects "PlanText$Need" ({ cls := "PlanText$Need", name := "isAbove", desc := "([I)Z" } : Jvm.MethodName) ({ cls := "PlanText$Need", name := "isAbove", desc := "([I)Z" } : Jvm.MethodName)) ∈ lw_good := lw_run tables_1_3 lw_run3 208 rfl rfl
set_option maxRecDepth 20000 in
theorem q_689 : (Jvm.Cond.code ({ cls := "PlanText$Need", name := "isAbove", desc := "([I)Z" } : Jvm.MethodName) prog_4_method_2_code (3 : Nat) (Option.some Jvm.ClassFile.FieldType.boolean)) ∈ lw_good := lw_run tables_1_3 lw_run3 209 rfl rfl
set_option maxRecDepth 20000 in
theorem q_690 : (Jvm.Cond.methodLink "PlanText$Need" (25 : Nat) ({ cls := "PlanText$Need", name := "unitsOf", desc := "([II)I" } : Jvm.MethodName)) ∈ lw_good := lw_run tables_1_3 lw_run3 210 rfl rfl
set_option maxRecDepth 20000 in
theorem q_691 : (Jvm.Cond.static ({ cls := "PlanText$Need", name := "unitsOf", desc := "([II)I" } : Jvm.MethodName)) ∈ lw_good := lw_run tables_1_3 lw_run3 211 rfl rfl
set_option maxRecDepth 20000 in
theorem q_692 : (Jvm.Cond.code ({ cls := "PlanText$Need", name := "unitsOf", desc := "([II)I" } : Jvm.MethodName) prog_4_method_3_code (2 : Nat) (Option.some Jvm.ClassFile.FieldType.int)) ∈ lw_good := lw_run tables_1_3 lw_run3 212 rfl rfl
set_option maxRecDepth 20000 in
theorem q_693 : (Jvm.Cond.methodLink "PlanTextLaw" (108 : Nat) ({ cls := "PlanTextLaw", name := "print", desc := "(LPlanText;I[J)I" } : Jvm.MethodName)) ∈ lw_good := lw_run tables_1_3 lw_run3 213 rfl rfl
set_option maxRecDepth 20000 in
theorem q_694 : (Jvm.Cond.static ({ cls := "PlanTextLaw", name := "print", desc := "(LPlanText;I[J)I" } : Jvm.MethodName)) ∈ lw_good := lw_run tables_1_3 lw_run3 214 rfl rfl
set_option maxRecDepth 20000 in
theorem q_695 : (Jvm.Cond.codeWith ({ cls := "PlanTextLaw", name := "print", desc := "(LPlanText;I[J)I" } : Jvm.MethodName) method_12_code (4 : Nat) (Option.some Jvm.ClassFile.FieldType.int) [((0 : Nat), (9 : Nat), (12 : Nat), (13 : Nat))]) ∈ lw_good := lw_run tables_1_3 lw_run3 215 rfl rfl
set_option maxRecDepth 20000 in
theorem q_696 : (Jvm.Cond.methodLink "PlanTextLaw" (50 : Nat) ({ cls := "PlanText", name := "print", desc := "(I)I" } : Jvm.MethodName)) ∈ lw_good := lw_run tables_1_3 lw_run3 216 rfl rfl
set_option maxRecDepth 20000 in
theorem q_697 : (Jvm.Cond.instanceMethod ({ cls := "PlanText", name := "print", desc := "(I)I" } : Jvm.MethodName)) ∈ lw_good := lw_run tables_1_3 lw_run3 217 rfl rfl
set_option maxRecDepth 20000 in
theorem q_698 : (Jvm.Cond.selects "PlanText" ({ cls := "PlanText", name := "print", desc := "(I)I" } : Jvm.MethodName) ({ cls := "PlanText", name := "print", desc := "(I)I" } : Jvm.MethodName)) ∈ lw_good := lw_run tables_1_3 lw_run3 218 rfl rfl
set_option maxRecDepth 20000 in
theorem q_699 : (Jvm.Cond.code ({ cls := "PlanText", name := "print", desc := "(I)I" } : Jvm.MethodName) prog_1_method_12_code (2 : Nat) (Option.some Jvm.ClassFile.FieldType.int)) ∈ lw_good := lw_run tables_1_3 lw_run3 219 rfl rfl
set_option maxRecDepth 20000 in
theorem q_700 : (Jvm.Cond.methodLink "PlanText" (175 : Nat) ({ cls := "PlanText$Printer", name := "writeEdition", desc := "(LPlanText$Edition;)V" } : Jvm.MethodName)) ∈ lw_good := lw_run tables_1_3 lw_run3 220 rfl rfl
set_option maxRecDepth 20000 in
theorem q_701 : (Jvm.Cond.instanceMethod ({ cls := "PlanText$Printer", name := "writeEdition", desc := "(LPlanText$Edition;)V" } : Jvm.MethodName)) ∈ lw_good := lw_run tables_1_3 lw_run3 221 rfl rfl
set_option maxRecDepth 20000 in
theorem q_702 : (Jvm.Cond.selects "PlanText$Printer" ({ cls := "PlanText$Printer", name := "writeEdition", desc := "(LPlanText$Edition;)V" } : Jvm.MethodName) ({ cls := "PlanText$Printer", name := "writeEdition", desc := "(LPlanText$Edition;)V" } : Jvm.MethodName)) ∈ lw_good := lw_run tables_1_3 lw_run3 222 rfl rfl
set_option maxRecDepth 20000 in
theorem q_703 : (Jvm.Cond.code ({ cls := "PlanText$Printer", name := "writeEdition", desc := "(LPlanText$Edition;)V" } : Jvm.MethodName) prog_7_method_3_code (4 : Nat) (Option.none : Option Jvm.ClassFile.FieldType)) ∈ lw_good := lw_run tables_1_3 lw_run3 223 rfl rfl
set_option maxRecDepth 20000 in
theorem q_704 : (Jvm.Cond.methodLink "PlanText$Printer" (19 : Nat) ({ cls := "PlanText$Edition", name := "planNumbered", desc := "(I)LPlanText$Plan;" } : Jvm.MethodName)) ∈ lw_good := lw_run tables_1_3 lw_run3 224 rfl rfl
set_option maxRecDepth 20000 in
theorem q_705 : (Jvm.Cond.methodLink "PlanText$Printer" (25 : Nat) ({ cls := "PlanText$Printer", name := "writePlan", desc := "(LPlanText$Plan;)V" } : Jvm.MethodName)) ∈ lw_good := lw_run tables_1_3 lw_run3 225 rfl rfl
set_option maxRecDepth 20000 in
theorem q_707 : (Jvm.Cond.instanceMethod ({ cls := "PlanText$Printer", name := "writePlan", desc := "(LPlanText$Plan;)V" } : Jvm.MethodName)) ∈ lw_good := lw_run tables_1_3 lw_run3 227 rfl rfl
set_option maxRecDepth 20000 in
theorem q_708 : (Jvm.Cond.code ({ cls := "PlanText$Printer", name := "writePlan", desc := "(LPlanText$Plan;)V" } : Jvm.MethodName) prog_7_method_4_code (2 : Nat) (Option.none : Option Jvm.ClassFile.FieldType)) ∈ lw_good := lw_run tables_1_3 lw_run3 228 rfl rfl
set_option maxRecDepth 20000 in
theorem q_709 : (Jvm.Cond.methodLink "PlanText$Printer" (33 : Nat) ({ cls := "PlanText$Printer", name := "writeNumber", desc := "(CI)V" } : Jvm.MethodName)) ∈ lw_good := lw_run tables_1_3 lw_run3 229 rfl rfl
set_option maxRecDepth 20000 in
theorem q_711 : (Jvm.Cond.instanceMethod ({ cls := "PlanText$Printer", name := "writeNumber", desc := "(CI)V" } : Jvm.MethodName)) ∈ lw_good := lw_run tables_1_3 lw_run3 231 rfl rfl
set_option maxRecDepth 20000 in
theorem q_712 : (Jvm.Cond.code ({ cls := "PlanText$Printer", name := "writeNumber", desc := "(CI)V" } : Jvm.MethodName) prog_7_method_10_code (3 : Nat) (Option.none : Option Jvm.ClassFile.FieldType)) ∈ lw_good := lw_run tables_1_3 lw_run3 232 rfl rfl
set_option maxRecDepth 20000 in
theorem q_713 : (Jvm.Cond.methodLink "PlanText$Printer" (90 : Nat) ({ cls := "PlanText$Printer", name := "write", desc := "(I)V" } : Jvm.MethodName)) ∈ lw_good := lw_run tables_1_3 lw_run3 233 rfl rfl
set_option maxRecDepth 20000 in
theorem q_715 : (Jvm.Cond.instanceMethod ({ cls := "PlanText$Printer", name := "write", desc := "(I)V" } : Jvm.MethodName)) ∈ lw_good := lw_run tables_1_3 lw_run3 235 rfl rfl
set_option maxRecDepth 20000 in
theorem q_716 : (Jvm.Cond.code ({ cls := "PlanText$Printer", name := "write", desc := "(I)V" } : Jvm.MethodName) prog_7_method_11_code (2 : Nat) (Option.none : Option Jvm.ClassFile.FieldType)) ∈ lw_good := lw_run tables_1_3 lw_run3 236 rfl rfl
set_option maxRecDepth 20000 in
theorem q_717 : (Jvm.Cond.methodLink "PlanText$Printer" (61 : Nat) ({ cls := "PlanText$Stretch", name := "isEverywhere", desc := "()Z" } : Jvm.MethodName)) ∈ lw_good := lw_run tables_1_3 lw_run3 237 rfl rfl
set_option maxRecDepth 20000 in
theorem q_718 : (Jvm.Cond.methodLink "PlanText$Printer" (86 : Nat) ({ cls := "PlanText$Printer", name := "writeHours", desc := "(LPlanText$Hours;)V" } : Jvm.MethodName)) ∈ lw_good := lw_run tables_1_3 lw_run3 238 rfl rfl
set_option maxRecDepth 20000 in
theorem q_720 : (Jvm.Cond.instanceMethod ({ cls := "PlanText$Printer", name := "writeHours", desc := "(LPlanText$Hours;)V" } : Jvm.MethodName)) ∈ lw_good := lw_run tables_1_4 lw_run4 0 rfl rfl
set_option maxRecDepth 20000 in
theorem q_721 : (Jvm.Cond.code ({ cls := "PlanText$Printer", name := "writeHours", desc := "(LPlanText$Hours;)V" } : Jvm.MethodName) prog_7_method_6_code (2 : Nat) (Option.none : Option Jvm.ClassFile.FieldType)) ∈ lw_good := lw_run tables_1_4 lw_run4 1 rfl rfl
set_option maxRecDepth 20000 in
theorem q_722 : (Jvm.Cond.methodLink "PlanText$Printer" (37 : Nat) ({ cls := "PlanText$Printer", name := "writeNeeds", desc := "(LPlanText$NeedList;)V" } : Jvm.MethodName)) ∈ lw_good := lw_run tables_1_4 lw_run4 2 rfl rfl
set_option maxRecDepth 20000 in
theorem q_724 : (Jvm.Cond.instanceMethod ({ cls := "PlanText$Printer", name := "writeNeeds", desc := "(LPlanText$NeedList;)V" } : Jvm.MethodName)) ∈ lw_good := lw_run tables_1_4 lw_run4 4 rfl rfl
set_option maxRecDepth 20000 in
theorem q_725 : (Jvm.Cond.code ({ cls := "PlanText$Printer", name := "writeNeeds", desc := "(LPlanText$NeedList;)V" } : Jvm.MethodName) prog_7_method_7_code (4 : Nat) (Option.none : Option Jvm.ClassFile.FieldType)) ∈ lw_good := lw_run tables_1_4 lw_run4 5 rfl rfl
set_option maxRecDepth 20000 in
theorem q_726 : (Jvm.Cond.methodLink "PlanText$Printer" (122 : Nat) ({ cls := "PlanText$NeedList", name := "needAt", desc := "(I)LPlanText$Need;" } : Jvm.MethodName)) ∈ lw_good := lw_run tables_1_4 lw_run4 6 rfl rfl
set_option maxRecDepth 20000 in
theorem q_727 : (Jvm.Cond.methodLink "PlanText$Printer" (131 : Nat) ({ cls := "PlanText$Printer", name := "writeNeed", desc := "(LPlanText$Need;)V" } : Jvm.MethodName)) ∈ lw_good := lw_run tables_1_4 lw_run4 7 rfl rfl
set_option maxRecDepth 20000 in
theorem q_729 : (Jvm.Cond.instanceMethod ({ cls := "PlanText$Printer", name := "writeNeed", desc := "(LPlanText$Need;)V" } : Jvm.MethodName)) ∈ lw_good := lw_run tables_1_4 lw_run4 9 rfl rfl
set_option maxRecDepth 20000 in
theorem q_730 : (Jvm.Cond.code ({ cls := "PlanText$Printer", name := "writeNeed", desc := "(LPlanText$Need;)V" } : Jvm.MethodName) prog_7_method_8_code (2 : Nat) (Option.none : Option Jvm.ClassFile.FieldType)) ∈ lw_good := lw_run tables_1_4 lw_run4 10 rfl rfl
set_option maxRecDepth 20000 in
theorem q_731 : (Jvm.Cond.methodLink "PlanText$Printer" (113 : Nat) ({ cls := "PlanText$Printer", name := "writeSkill", desc := "(I)V" } : Jvm.MethodName)) ∈ lw_good := lw_run tables_1_4 lw_run4 11 rfl rfl
set_option maxRecDepth 20000 in
theorem q_733 : (Jvm.Cond.instanceMethod ({ cls := "PlanText$Printer", name := "writeSkill", desc := "(I)V" } : Jvm.MethodName)) ∈ lw_good := lw_run tables_1_4 lw_run4 13 rfl rfl
set_option maxRecDepth 20000 in
theorem q_734 : (Jvm.Cond.code ({ cls := "PlanText$Printer", name := "writeSkill", desc := "(I)V" } : Jvm.MethodName) prog_7_method_9_code (2 : Nat) (Option.none : Option Jvm.ClassFile.FieldType)) ∈ lw_good := lw_run tables_1_4 lw_run4 14 rfl rfl
set_option maxRecDepth 20000 in
theorem q_735 : (Jvm.Cond.methodLink "PlanText$Printer" (29 : Nat) ({ cls := "PlanText$Edition", name := "defaultNeeds", desc := "(I)LPlanText$NeedList;" } : Jvm.MethodName)) ∈ lw_good := lw_run tables_1_4 lw_run4 15 rfl rfl
set_option maxRecDepth 20000 in
theorem q_736 : (Jvm.Cond.methodLink "PlanText$Printer" (41 : Nat) ({ cls := "PlanText$Edition", name := "standbyRow", desc := "(I)LPlanText$Standby;" } : Jvm.MethodName)) ∈ lw_good := lw_run tables_1_4 lw_run4 16 rfl rfl
set_option maxRecDepth 20000 in
theorem q_737 : (Jvm.Cond.methodLink "PlanText$Printer" (45 : Nat) ({ cls := "PlanText$Printer", name := "writeStandby", desc := "(LPlanText$Standby;)V" } : Jvm.MethodName)) ∈ lw_good := lw_run tables_1_4 lw_run4 17 rfl rfl
set_option maxRecDepth 20000 in
theorem q_739 : (Jvm.Cond.instanceMethod ({ cls := "PlanText$Printer", name := "writeStandby", desc := "(LPlanText$Standby;)V" } : Jvm.MethodName)) ∈ lw_good := lw_run tables_1_4 lw_run4 19 rfl rfl
set_option maxRecDepth 20000 in
theorem q_740 : (Jvm.Cond.code ({ cls := "PlanText$Printer", name := "writeStandby", desc := "(LPlanText$Standby;)V" } : Jvm.MethodName) prog_7_method_5_code (2 : Nat) (Option.none : Option Jvm.ClassFile.FieldType)) ∈ lw_good := lw_run tables_1_4 lw_run4 20 rfl rfl
set_option maxRecDepth 20000 in
theorem q_741 : (Jvm.Cond.methodLink "PlanTextLaw" (111 : Nat) ({ cls := "PlanTextLaw", name := "at", desc := "(LPlanText;I[J)I" } : Jvm.MethodName)) ∈ lw_good := lw_run tables_1_4 lw_run4 21 rfl rfl
set_option maxRecDepth 20000 in
theorem q_742 : (Jvm.Cond.static ({ cls := "PlanTextLaw", name := "at", desc := "(LPlanText;I[J)I" } : Jvm.MethodName)) ∈ lw_good := lw_run tables_1_4 lw_run4 22 rfl rfl
set_option maxRecDepth 20000 in
theorem q_743 : (Jvm.Cond.codeWith ({ cls := "PlanTextLaw", name := "at", desc := "(LPlanText;I[J)I" } : Jvm.MethodName) method_13_code (4 : Nat) (Option.some Jvm.ClassFile.FieldType.int) [((0 : Nat), (9 : Nat), (12 : Nat), (13 : Nat))]) ∈ lw_good := lw_run tables_1_4 lw_run4 23 rfl rfl
set_option maxRecDepth 20000 in
theorem q_744 : (Jvm.Cond.methodLink "PlanTextLaw" (53 : Nat) ({ cls := "PlanText", name := "at", desc := "(I)I" } : Jvm.MethodName)) ∈ lw_good := lw_run tables_1_4 lw_run4 24 rfl rfl
set_option maxRecDepth 20000 in
theorem q_745 : (Jvm.Cond.instanceMethod ({ cls := "PlanText", name := "at", desc := "(I)I" } : Jvm.MethodName)) ∈ lw_good := lw_run tables_1_4 lw_run4 25 rfl rfl
set_option maxRecDepth 20000 in
theorem q_746 : (Jvm.Cond.selects "PlanText" ({ cls := "PlanText", name := "at", desc := "(I)I" } : Jvm.MethodName) ({ cls := "PlanText", name := "at", desc := "(I)I" } : Jvm.MethodName)) ∈ lw_good := lw_run tables_1_4 lw_run4 26 rfl rfl
set_option maxRecDepth 20000 in
theorem q_747 : (Jvm.Cond.code ({ cls := "PlanText", name := "at", desc := "(I)I" } : Jvm.MethodName) prog_1_method_13_code (2 : Nat) (Option.some Jvm.ClassFile.FieldType.int)) ∈ lw_good := lw_run tables_1_4 lw_run4 27 rfl rfl
set_option maxRecDepth 20000 in
theorem q_748 : (Jvm.Cond.methodLink "PlanText" (182 : Nat) ({ cls := "PlanText$Printer", name := "byteAt", desc := "(I)I" } : Jvm.MethodName)) ∈ lw_good := lw_run tables_1_4 lw_run4 28 rfl rfl
set_option maxRecDepth 20000 in
theorem q_749 : (Jvm.Cond.instanceMethod ({ cls := "PlanText$Printer", name := "byteAt", desc := "(I)I" } : Jvm.MethodName)) ∈ lw_good := lw_run tables_1_4 lw_run4 29 rfl rfl
set_option maxRecDepth 20000 in
theorem q_750 : (Jvm.Cond.selects "PlanText$Printer" ({ cls := "PlanText$Printer", name := "byteAt", desc := "(I)I" } : Jvm.MethodName) ({ cls := "PlanText$Printer", name := "byteAt", desc := "(I)I" } : Jvm.MethodName)) ∈ lw_good := lw_run tables_1_4 lw_run4 30 rfl rfl
set_option maxRecDepth 20000 in
theorem q_751 : (Jvm.Cond.code ({ cls := "PlanText$Printer", name := "byteAt", desc := "(I)I" } : Jvm.MethodName) prog_7_method_2_code (2 : Nat) (Option.some Jvm.ClassFile.FieldType.int)) ∈ lw_good := lw_run tables_1_4 lw_run4 31 rfl rfl
set_option maxRecDepth 20000 in
theorem q_752 : (Jvm.Cond.methodLink "PlanTextLaw" (114 : Nat) ({ cls := "PlanTextLaw", name := "count", desc := "(LPlanText;I[J)I" } : Jvm.MethodName)) ∈ lw_good := lw_run tables_1_4 lw_run4 32 rfl rfl
set_option maxRecDepth 20000 in
theorem q_753 : (Jvm.Cond.static ({ cls := "PlanTextLaw", name := "count", desc := "(LPlanText;I[J)I" } : Jvm.MethodName)) ∈ lw_good := lw_run tables_1_4 lw_run4 33 rfl rfl
set_option maxRecDepth 20000 in
theorem q_754 : (Jvm.Cond.codeWith ({ cls := "PlanTextLaw", name := "count", desc := "(LPlanText;I[J)I" } : Jvm.MethodName) method_14_code (4 : Nat) (Option.some Jvm.ClassFile.FieldType.int) [((0 : Nat), (9 : Nat), (12 : Nat), (27 : Nat))]) ∈ lw_good := lw_run tables_1_4 lw_run4 34 rfl rfl
set_option maxRecDepth 20000 in
theorem q_755 : (Jvm.Cond.methodLink "PlanTextLaw" (56 : Nat) ({ cls := "PlanText", name := "count", desc := "(I)I" } : Jvm.MethodName)) ∈ lw_good := lw_run tables_1_4 lw_run4 35 rfl rfl
set_option maxRecDepth 20000 in
theorem q_756 : (Jvm.Cond.instanceMethod ({ cls := "PlanText", name := "count", desc := "(I)I" } : Jvm.MethodName)) ∈ lw_good := lw_run tables_1_4 lw_run4 36 rfl rfl
set_option maxRecDepth 20000 in
theorem q_757 : (Jvm.Cond.selects "PlanText" ({ cls := "PlanText", name := "count", desc := "(I)I" } : Jvm.MethodName) ({ cls := "PlanText", name := "count", desc := "(I)I" } : Jvm.MethodName)) ∈ lw_good := lw_run tables_1_4 lw_run4 37 rfl rfl
set_option maxRecDepth 20000 in
theorem q_758 : (Jvm.Cond.code ({ cls := "PlanText", name := "count", desc := "(I)I" } : Jvm.MethodName) prog_1_method_14_code (2 : Nat) (Option.some Jvm.ClassFile.FieldType.int)) ∈ lw_good := lw_run tables_1_4 lw_run4 38 rfl rfl
set_option maxRecDepth 20000 in
theorem q_759 : (Jvm.Cond.classLink "PlanTextLaw" (60 : Nat) "PlanTextModel") ∈ lw_good := lw_run tables_1_4 lw_run4 39 rfl rfl
set_option maxRecDepth 20000 in
theorem q_760 : (Jvm.Cond.instantiable "PlanTextModel" (26 : Nat)) ∈ lw_good := lw_run tables_1_4 lw_run4 40 rfl rfl
set_option maxRecDepth 20000 in
theorem q_761 : (Jvm.Cond.methodLink "PlanTextLaw" (62 : Nat) ({ cls := "PlanTextModel", name := "<init>", desc := "()V" } : Jvm.MethodName)) ∈ lw_good := lw_run tables_1_4 lw_run4 41 rfl rfl
set_option maxRecDepth 20000 in
theorem q_762 : (Jvm.Cond.instanceMethod ({ cls := "PlanTextModel", name := "<init>", desc := "()V" } : Jvm.MethodName)) ∈ lw_good := lw_run tables_1_4 lw_run4 42 rfl rfl
set_option maxRecDepth 20000 in
theorem q_763 : (Jvm.Cond.code ({ cls := "PlanTextModel", name := "<init>", desc := "()V" } : Jvm.MethodName) prog_12_method_1_code (1 : Nat) (Option.none : Option Jvm.ClassFile.FieldType)) ∈ lw_good := lw_run tables_1_4 lw_run4 43 rfl rfl
set_option maxRecDepth 20000 in
theorem q_764 : (Jvm.Cond.methodLink "PlanTextModel" (1 : Nat) ({ cls := "java/lang/Object", name := "<init>", desc := "()V" } : Jvm.MethodName)) ∈ lw_good := lw_run tables_1_4 lw_run4 44 rfl rfl
set_option maxRecDepth 20000 in
theorem q_765 : (Jvm.Cond.fieldLink "PlanTextModel" (69 : Nat) "PlanTextModel" "thrown" "I") ∈ lw_good := lw_run tables_1_4 lw_run4 45 rfl rfl
set_option maxRecDepth 20000 in
theorem q_766 : (Jvm.Cond.fieldLink "PlanTextModel" (7 : Nat) "PlanTextModel" "tape" "[I") ∈ lw_good := lw_run tables_1_4 lw_run4 46 rfl rfl
set_option maxRecDepth 20000 in
theorem q_767 : (Jvm.Cond.fieldLink "PlanTextModel" (76 : Nat) "PlanTextModel" "taped" "I") ∈ lw_good := lw_run tables_1_4 lw_run4 47 rfl rfl
set_option maxRecDepth 20000 in
theorem q_768 : (Jvm.Cond.fieldLink "PlanTextModel" (90 : Nat) "PlanTextModel" "length" "I") ∈ lw_good := lw_run tables_1_4 lw_run4 48 rfl rfl
set_option maxRecDepth 20000 in
theorem q_769 : (Jvm.Cond.fieldLink "PlanTextModel" (87 : Nat) "PlanTextModel" "at" "I") ∈ lw_good := lw_run tables_1_4 lw_run4 49 rfl rfl
set_option maxRecDepth 20000 in
theorem q_770 : (Jvm.Cond.fieldLink "PlanTextModel" (83 : Nat) "PlanTextModel" "wrong" "Z") ∈ lw_good := lw_run tables_1_4 lw_run4 50 rfl rfl
set_option maxRecDepth 20000 in
theorem q_771 : (Jvm.Cond.fieldLink "PlanTextModel" (13 : Nat) "PlanTextModel" "place" "I") ∈ lw_good := lw_run tables_1_4 lw_run4 51 rfl rfl
set_option maxRecDepth 20000 in
theorem q_772 : (Jvm.Cond.fieldLink "PlanTextModel" (139 : Nat) "PlanTextModel" "editions" "I") ∈ lw_good := lw_run tables_1_4 lw_run4 52 rfl rfl
set_option maxRecDepth 20000 in
theorem q_773 : (Jvm.Cond.fieldLink "PlanTextModel" (66 : Nat) "PlanTextModel" "latest" "I") ∈ lw_good := lw_run tables_1_4 lw_run4 53 rfl rfl
set_option maxRecDepth 20000 in
theorem q_774 : (Jvm.Cond.fieldLink "PlanTextModel" (17 : Nat) "PlanTextModel" "day" "[I") ∈ lw_good := lw_run tables_1_4 lw_run4 54 rfl rfl
set_option maxRecDepth 20000 in
theorem q_775 : (Jvm.Cond.fieldLink "PlanTextModel" (20 : Nat) "PlanTextModel" "told" "[Z") ∈ lw_good := lw_run tables_1_4 lw_run4 55 rfl rfl
set_option maxRecDepth 20000 in
theorem q_776 : (Jvm.Cond.fieldLink "PlanTextModel" (24 : Nat) "PlanTextModel" "kind" "[I") ∈ lw_good := lw_run tables_1_4 lw_run4 56 rfl rfl
set_option maxRecDepth 20000 in
theorem q_777 : (Jvm.Cond.fieldLink "PlanTextModel" (27 : Nat) "PlanTextModel" "street" "[I") ∈ lw_good := lw_run tables_1_4 lw_run4 57 rfl rfl
set_option maxRecDepth 20000 in
theorem q_778 : (Jvm.Cond.fieldLink "PlanTextModel" (30 : Nat) "PlanTextModel" "low" "[I") ∈ lw_good := lw_run tables_1_4 lw_run4 58 rfl rfl
set_option maxRecDepth 20000 in
theorem q_779 : (Jvm.Cond.fieldLink "PlanTextModel" (33 : Nat) "PlanTextModel" "high" "[I") ∈ lw_good := lw_run tables_1_4 lw_run4 59 rfl rfl
set_option maxRecDepth 20000 in
theorem q_780 : (Jvm.Cond.fieldLink "PlanTextModel" (36 : Nat) "PlanTextModel" "from" "[I") ∈ lw_good := lw_run tables_1_4 lw_run4 60 rfl rfl
set_option maxRecDepth 20000 in
theorem q_781 : (Jvm.Cond.fieldLink "PlanTextModel" (39 : Nat) "PlanTextModel" "to" "[I") ∈ lw_good := lw_run tables_1_4 lw_run4 61 rfl rfl
set_option maxRecDepth 20000 in
theorem q_782 : (Jvm.Cond.fieldLink "PlanTextModel" (42 : Nat) "PlanTextModel" "rank" "[I") ∈ lw_good := lw_run tables_1_4 lw_run4 62 rfl rfl
set_option maxRecDepth 20000 in
theorem q_783 : (Jvm.Cond.fieldLink "PlanTextModel" (45 : Nat) "PlanTextModel" "needs" "[I") ∈ lw_good := lw_run tables_1_4 lw_run4 63 rfl rfl
set_option maxRecDepth 20000 in
theorem q_784 : (Jvm.Cond.fieldLink "PlanTextModel" (48 : Nat) "PlanTextModel" "need" "[I") ∈ lw_good := lw_run tables_1_4 lw_run4 64 rfl rfl
set_option maxRecDepth 20000 in
theorem q_785 : (Jvm.Cond.fieldLink "PlanTextModel" (51 : Nat) "PlanTextModel" "standbys" "[I") ∈ lw_good := lw_run tables_1_4 lw_run4 65 rfl rfl
set_option maxRecDepth 20000 in
theorem q_786 : (Jvm.Cond.fieldLink "PlanTextModel" (54 : Nat) "PlanTextModel" "standby" "[I") ∈ lw_good := lw_run tables_1_4 lw_run4 66 rfl rfl
set_option maxRecDepth 20000 in
theorem q_787 : (Jvm.Cond.fieldLink "PlanTextModel" (57 : Nat) "PlanTextModel" "units" "[I") ∈ lw_good := lw_run tables_1_4 lw_run4 67 rfl rfl
set_option maxRecDepth 20000 in
theorem q_788 : (Jvm.Cond.fieldLink "PlanTextModel" (60 : Nat) "PlanTextModel" "asked" "I") ∈ lw_good := lw_run tables_1_4 lw_run4 68 rfl rfl
set_option maxRecDepth 20000 in
theorem q_789 : (Jvm.Cond.fieldLink "PlanTextModel" (63 : Nat) "PlanTextModel" "out" "[I") ∈ lw_good := lw_run tables_1_4 lw_run4 69 rfl rfl
set_option maxRecDepth 20000 in
theorem q_790 : (Jvm.Cond.fieldLink "PlanTextModel" (176 : Nat) "PlanTextModel" "printed" "I") ∈ lw_good := lw_run tables_1_4 lw_run4 70 rfl rfl
set_option maxRecDepth 20000 in
theorem q_844 : (Jvm.Cond.arrayClass Jvm.ClassFile.FieldType.boolean) ∈ lw_good := lw_run tables_1_4 lw_run4 124 rfl rfl
set_option maxRecDepth 20000 in
theorem q_845 : (Jvm.Cond.methodLink "PlanTextLaw" (71 : Nat) ({ cls := "PlanTextModel", name := "thrown", desc := "()I" } : Jvm.MethodName)) ∈ lw_good := lw_run tables_1_4 lw_run4 125 rfl rfl
set_option maxRecDepth 20000 in
theorem q_846 : (Jvm.Cond.instanceMethod ({ cls := "PlanTextModel", name := "thrown", desc := "()I" } : Jvm.MethodName)) ∈ lw_good := lw_run tables_1_4 lw_run4 126 rfl rfl
set_option maxRecDepth 20000 in
theorem q_847 : (Jvm.Cond.selects "PlanTextModel" ({ cls := "PlanTextModel", name := "thrown", desc := "()I" } : Jvm.MethodName) ({ cls := "PlanTextModel", name := "thrown", desc := "()I" } : Jvm.MethodName)) ∈ lw_good := lw_run tables_1_4 lw_run4 127 rfl rfl
set_option maxRecDepth 20000 in
theorem q_848 : (Jvm.Cond.code ({ cls := "PlanTextModel", name := "thrown", desc := "()I" } : Jvm.MethodName) prog_12_method_2_code (1 : Nat) (Option.some Jvm.ClassFile.FieldType.int)) ∈ lw_good := lw_run tables_1_4 lw_run4 128 rfl rfl
set_option maxRecDepth 20000 in
theorem q_849 : (Jvm.Cond.methodLink "PlanTextLaw" (70 : Nat) ({ cls := "PlanTextModel", name := "sign", desc := "(JI)I" } : Jvm.MethodName)) ∈ lw_good := lw_run tables_1_4 lw_run4 129 rfl rfl
set_option maxRecDepth 20000 in
theorem q_850 : (Jvm.Cond.instanceMethod ({ cls := "PlanTextModel", name := "sign", desc := "(JI)I" } : Jvm.MethodName)) ∈ lw_good := lw_run tables_1_4 lw_run4 130 rfl rfl
set_option maxRecDepth 20000 in
theorem q_851 : (Jvm.Cond.selects "PlanTextModel" ({ cls := "PlanTextModel", name := "sign", desc := "(JI)I" } : Jvm.MethodName) ({ cls := "PlanTextModel", name := "sign", desc := "(JI)I" } : Jvm.MethodName)) ∈ lw_good := lw_run tables_1_4 lw_run4 131 rfl rfl
set_option maxRecDepth 20000 in
theorem q_852 : (Jvm.Cond.code ({ cls := "PlanTextModel", name := "sign", desc := "(JI)I" } : Jvm.MethodName) prog_12_method_5_code (6 : Nat) (Option.some Jvm.ClassFile.FieldType.int)) ∈ lw_good := lw_run tables_1_4 lw_run4 132 rfl rfl
set_option maxRecDepth 20000 in
theorem q_853 : (Jvm.Cond.methodLink "PlanTextModel" (72 : Nat) ({ cls := "PlanTextModel", name := "in", desc := "(III)Z" } : Jvm.MethodName)) ∈ lw_good := lw_run tables_1_4 lw_run4 133 rfl rfl
set_option maxRecDepth 20000 in
theorem q_854 : (Jvm.Cond.static ({ cls := "PlanTextModel", name := "in", desc := "(III)Z" } : Jvm.MethodName)) ∈ lw_good := lw_run tables_1_4 lw_run4 134 rfl rfl
set_option maxRecDepth 20000 in
theorem q_855 : (Jvm.Cond.code ({ cls := "PlanTextModel", name := "in", desc := "(III)Z" } : Jvm.MethodName) prog_12_method_4_code (3 : Nat) (Option.some Jvm.ClassFile.FieldType.boolean)) ∈ lw_good := lw_run tables_1_4 lw_run4 135 rfl rfl
set_option maxRecDepth 20000 in
theorem q_856 : (Jvm.Cond.methodLink "PlanTextModel" (79 : Nat) ({ cls := "PlanTextModel", name := "throwing", desc := "(ZZZ)Z" } : Jvm.MethodName)) ∈ lw_good := lw_run tables_1_4 lw_run4 136 rfl rfl
set_option maxRecDepth 20000 in
theorem q_858 : (Jvm.Cond.instanceMethod ({ cls := "PlanTextModel", name := "throwing", desc := "(ZZZ)Z" } : Jvm.MethodName)) ∈ lw_good := lw_run tables_1_4 lw_run4 138 rfl rfl
set_option maxRecDepth 20000 in
theorem q_859 : (Jvm.Cond.code ({ cls := "PlanTextModel", name := "throwing", desc := "(ZZZ)Z" } : Jvm.MethodName) prog_12_method_3_code (4 : Nat) (Option.some Jvm.ClassFile.FieldType.boolean)) ∈ lw_good := lw_run tables_1_4 lw_run4 139 rfl rfl
set_option maxRecDepth 20000 in
theorem q_860 : (Jvm.Cond.methodLink "PlanTextLaw" (78 : Nat) ({ cls := "PlanTextModel", name := "read", desc := "(I)I" } : Jvm.MethodName)) ∈ lw_good := lw_run tables_1_4 lw_run4 140 rfl rfl
set_option maxRecDepth 20000 in
theorem q_861 : (Jvm.Cond.instanceMethod ({ cls := "PlanTextModel", name := "read", desc := "(I)I" } : Jvm.MethodName)) ∈ lw_good := lw_run tables_1_4 lw_run4 141 rfl rfl
set_option maxRecDepth 20000 in
theorem q_862 : (Jvm.Cond.selects "PlanTextModel" ({ cls := "PlanTextModel", name := "read", desc := "(I)I" } : Jvm.MethodName) ({ cls := "PlanTextModel", name := "read", desc := "(I)I" } : Jvm.MethodName)) ∈ lw_good := lw_run tables_1_4 lw_run4 142 rfl rfl
set_option maxRecDepth 20000 in
theorem q_863 : (Jvm.Cond.code ({ cls := "PlanTextModel", name := "read", desc := "(I)I" } : Jvm.MethodName) prog_12_method_21_code (7 : Nat) (Option.some Jvm.ClassFile.FieldType.int)) ∈ lw_good := lw_run tables_1_4 lw_run4 143 rfl rfl
set_option maxRecDepth 20000 in
theorem q_864 : (Jvm.Cond.methodLink "PlanTextModel" (136 : Nat) ({ cls := "PlanTextModel", name := "readAll", desc := "()V" } : Jvm.MethodName)) ∈ lw_good := lw_run tables_1_4 lw_run4 144 rfl rfl
set_option maxRecDepth 20000 in
theorem q_866 : (Jvm.Cond.instanceMethod ({ cls := "PlanTextModel", name := "readAll", desc := "()V" } : Jvm.MethodName)) ∈ lw_good := lw_run tables_1_4 lw_run4 146 rfl rfl
set_option maxRecDepth 20000 in
theorem q_867 : (Jvm.Cond.code ({ cls := "PlanTextModel", name := "readAll", desc := "()V" } : Jvm.MethodName) prog_12_method_19_code (3 : Nat) (Option.none : Option Jvm.ClassFile.FieldType)) ∈ lw_good := lw_run tables_1_4 lw_run4 147 rfl rfl
set_option maxRecDepth 20000 in
theorem q_868 : (Jvm.Cond.methodLink "PlanTextModel" (93 : Nat) ({ cls := "PlanTextModel", name := "see", desc := "()I" } : Jvm.MethodName)) ∈ lw_good := lw_run tables_1_4 lw_run4 148 rfl rfl
set_option maxRecDepth 20000 in
theorem q_870 : (Jvm.Cond.instanceMethod ({ cls := "PlanTextModel", name := "see", desc := "()I" } : Jvm.MethodName)) ∈ lw_good := lw_run tables_1_4 lw_run4 150 rfl rfl
set_option maxRecDepth 20000 in
theorem q_871 : (Jvm.Cond.code ({ cls := "PlanTextModel", name := "see", desc := "()I" } : Jvm.MethodName) prog_12_method_7_code (1 : Nat) (Option.some Jvm.ClassFile.FieldType.int)) ∈ lw_good := lw_run tables_1_4 lw_run4 151 rfl rfl
set_option maxRecDepth 20000 in
theorem q_872 : (Jvm.Cond.methodLink "PlanTextModel" (97 : Nat) ({ cls := "PlanTextModel", name := "fail", desc := "(I)V" } : Jvm.MethodName)) ∈ lw_good := lw_run tables_1_4 lw_run4 152 rfl rfl
set_option maxRecDepth 20000 in
theorem q_874 : (Jvm.Cond.instanceMethod ({ cls := "PlanTextModel", name := "fail", desc := "(I)V" } : Jvm.MethodName)) ∈ lw_good := lw_run tables_1_4 lw_run4 154 rfl rfl
set_option maxRecDepth 20000 in
theorem q_875 : (Jvm.Cond.code ({ cls := "PlanTextModel", name := "fail", desc := "(I)V" } : Jvm.MethodName) prog_12_method_6_code (2 : Nat) (Option.none : Option Jvm.ClassFile.FieldType)) ∈ lw_good := lw_run tables_1_4 lw_run4 155 rfl rfl
set_option maxRecDepth 20000 in
theorem q_876 : (Jvm.Cond.methodLink "PlanTextModel" (127 : Nat) ({ cls := "PlanTextModel", name := "planRow", desc := "()V" } : Jvm.MethodName)) ∈ lw_good := lw_run tables_1_4 lw_run4 156 rfl rfl
set_option maxRecDepth 20000 in
theorem q_878 : (Jvm.Cond.instanceMethod ({ cls := "PlanTextModel", name := "planRow", desc := "()V" } : Jvm.MethodName)) ∈ lw_good := lw_run tables_1_4 lw_run4 158 rfl rfl
set_option maxRecDepth 20000 in
theorem q_879 : (Jvm.Cond.code ({ cls := "PlanTextModel", name := "planRow", desc := "()V" } : Jvm.MethodName) prog_12_method_16_code (3 : Nat) (Option.none : Option Jvm.ClassFile.FieldType)) ∈ lw_good := lw_run tables_1_4 lw_run4 159 rfl rfl
set_option maxRecDepth 20000 in
theorem q_880 : (Jvm.Cond.methodLink "PlanTextModel" (105 : Nat) ({ cls := "PlanTextModel", name := "number", desc := "(II)I" } : Jvm.MethodName)) ∈ lw_good := lw_run tables_1_4 lw_run4 160 rfl rfl
set_option maxRecDepth 20000 in
theorem q_882 : (Jvm.Cond.instanceMethod ({ cls := "PlanTextModel", name := "number", desc := "(II)I" } : Jvm.MethodName)) ∈ lw_good := lw_run tables_1_4 lw_run4 162 rfl rfl
set_option maxRecDepth 20000 in
theorem q_883 : (Jvm.Cond.code ({ cls := "PlanTextModel", name := "number", desc := "(II)I" } : Jvm.MethodName) prog_12_method_11_code (5 : Nat) (Option.some Jvm.ClassFile.FieldType.int)) ∈ lw_good := lw_run tables_1_4 lw_run4 163 rfl rfl
set_option maxRecDepth 20000 in
theorem q_884 : (Jvm.Cond.methodLink "PlanTextModel" (101 : Nat) ({ cls := "PlanTextModel", name := "isDigit", desc := "(I)Z" } : Jvm.MethodName)) ∈ lw_good := lw_run tables_1_4 lw_run4 164 rfl rfl
set_option maxRecDepth 20000 in
theorem q_886 : (Jvm.Cond.instanceMethod ({ cls := "PlanTextModel", name := "isDigit", desc := "(I)Z" } : Jvm.MethodName)) ∈ lw_good := lw_run tables_1_4 lw_run4 166 rfl rfl
set_option maxRecDepth 20000 in
theorem q_887 : (Jvm.Cond.code ({ cls := "PlanTextModel", name := "isDigit", desc := "(I)Z" } : Jvm.MethodName) prog_12_method_10_code (2 : Nat) (Option.some Jvm.ClassFile.FieldType.boolean)) ∈ lw_good := lw_run tables_1_4 lw_run4 167 rfl rfl
set_option maxRecDepth 20000 in
theorem q_888 : (Jvm.Cond.methodLink "PlanTextModel" (109 : Nat) ({ cls := "PlanTextModel", name := "expect", desc := "(I)V" } : Jvm.MethodName)) ∈ lw_good := lw_run tables_1_4 lw_run4 168 rfl rfl
set_option maxRecDepth 20000 in
theorem q_890 : (Jvm.Cond.instanceMethod ({ cls := "PlanTextModel", name := "expect", desc := "(I)V" } : Jvm.MethodName)) ∈ lw_good := lw_run tables_1_4 lw_run4 170 rfl rfl
set_option maxRecDepth 20000 in
theorem q_891 : (Jvm.Cond.code ({ cls := "PlanTextModel", name := "expect", desc := "(I)V" } : Jvm.MethodName) prog_12_method_8_code (2 : Nat) (Option.none : Option Jvm.ClassFile.FieldType)) ∈ lw_good := lw_run tables_1_4 lw_run4 171 rfl rfl
set_option maxRecDepth 20000 in
theorem q_892 : (Jvm.Cond.methodLink "PlanTextModel" (115 : Nat) ({ cls := "PlanTextModel", name := "goesOn", desc := "(I)Z" } : Jvm.MethodName)) ∈ lw_good := lw_run tables_1_4 lw_run4 172 rfl rfl
set_option maxRecDepth 20000 in
theorem q_894 : (Jvm.Cond.instanceMethod ({ cls := "PlanTextModel", name := "goesOn", desc := "(I)Z" } : Jvm.MethodName)) ∈ lw_good := lw_run tables_1_4 lw_run4 174 rfl rfl
set_option maxRecDepth 20000 in
theorem q_895 : (Jvm.Cond.code ({ cls := "PlanTextModel", name := "goesOn", desc := "(I)Z" } : Jvm.MethodName) prog_12_method_9_code (2 : Nat) (Option.some Jvm.ClassFile.FieldType.boolean)) ∈ lw_good := lw_run tables_1_4 lw_run4 175 rfl rfl
set_option maxRecDepth 20000 in
theorem q_896 : (Jvm.Cond.methodLink "PlanTextModel" (121 : Nat) ({ cls := "PlanTextModel", name := "hours", desc := "(I)V" } : Jvm.MethodName)) ∈ lw_good := lw_run tables_1_4 lw_run4 176 rfl rfl
set_option maxRecDepth 20000 in
theorem q_898 : (Jvm.Cond.instanceMethod ({ cls := "PlanTextModel", name := "hours", desc := "(I)V" } : Jvm.MethodName)) ∈ lw_good := lw_run tables_1_4 lw_run4 178 rfl rfl
set_option maxRecDepth 20000 in
theorem q_899 : (Jvm.Cond.code ({ cls := "PlanTextModel", name := "hours", desc := "(I)V" } : Jvm.MethodName) prog_12_method_13_code (2 : Nat) (Option.none : Option Jvm.ClassFile.FieldType)) ∈ lw_good := lw_run tables_1_4 lw_run4 179 rfl rfl
set_option maxRecDepth 20000 in
theorem q_900 : (Jvm.Cond.methodLink "PlanTextModel" (124 : Nat) ({ cls := "PlanTextModel", name := "needsOf", desc := "(I)V" } : Jvm.MethodName)) ∈ lw_good := lw_run tables_1_4 lw_run4 180 rfl rfl
set_option maxRecDepth 20000 in
theorem q_902 : (Jvm.Cond.instanceMethod ({ cls := "PlanTextModel", name := "needsOf", desc := "(I)V" } : Jvm.MethodName)) ∈ lw_good := lw_run tables_1_4 lw_run4 182 rfl rfl
set_option maxRecDepth 20000 in
theorem q_903 : (Jvm.Cond.code ({ cls := "PlanTextModel", name := "needsOf", desc := "(I)V" } : Jvm.MethodName) prog_12_method_15_code (3 : Nat) (Option.none : Option Jvm.ClassFile.FieldType)) ∈ lw_good := lw_run tables_1_4 lw_run4 183 rfl rfl
set_option maxRecDepth 20000 in
theorem q_904 : (Jvm.Cond.methodLink "PlanTextModel" (118 : Nat) ({ cls := "PlanTextModel", name := "oneNeed", desc := "(I)V" } : Jvm.MethodName)) ∈ lw_good := lw_run tables_1_4 lw_run4 184 rfl rfl
set_option maxRecDepth 20000 in
theorem q_906 : (Jvm.Cond.instanceMethod ({ cls := "PlanTextModel", name := "oneNeed", desc := "(I)V" } : Jvm.MethodName)) ∈ lw_good := lw_run tables_1_4 lw_run4 186 rfl rfl
set_option maxRecDepth 20000 in
theorem q_907 : (Jvm.Cond.code ({ cls := "PlanTextModel", name := "oneNeed", desc := "(I)V" } : Jvm.MethodName) prog_12_method_14_code (5 : Nat) (Option.none : Option Jvm.ClassFile.FieldType)) ∈ lw_good := lw_run tables_1_4 lw_run4 187 rfl rfl
set_option maxRecDepth 20000 in
theorem q_908 : (Jvm.Cond.methodLink "PlanTextModel" (112 : Nat) ({ cls := "PlanTextModel", name := "letter", desc := "()I" } : Jvm.MethodName)) ∈ lw_good := lw_run tables_1_4 lw_run4 188 rfl rfl
set_option maxRecDepth 20000 in
theorem q_910 : (Jvm.Cond.instanceMethod ({ cls := "PlanTextModel", name := "letter", desc := "()I" } : Jvm.MethodName)) ∈ lw_good := lw_run tables_1_4 lw_run4 190 rfl rfl
set_option maxRecDepth 20000 in
theorem q_911 : (Jvm.Cond.code ({ cls := "PlanTextModel", name := "letter", desc := "()I" } : Jvm.MethodName) prog_12_method_12_code (2 : Nat) (Option.some Jvm.ClassFile.FieldType.int)) ∈ lw_good := lw_run tables_1_4 lw_run4 191 rfl rfl
set_option maxRecDepth 20000 in
theorem q_912 : (Jvm.Cond.methodLink "PlanTextModel" (130 : Nat) ({ cls := "PlanTextModel", name := "defaultRow", desc := "()V" } : Jvm.MethodName)) ∈ lw_good := lw_run tables_1_4 lw_run4 192 rfl rfl
set_option maxRecDepth 20000 in
theorem q_914 : (Jvm.Cond.instanceMethod ({ cls := "PlanTextModel", name := "defaultRow", desc := "()V" } : Jvm.MethodName)) ∈ lw_good := lw_run tables_1_4 lw_run4 194 rfl rfl
set_option maxRecDepth 20000 in
theorem q_915 : (Jvm.Cond.code ({ cls := "PlanTextModel", name := "defaultRow", desc := "()V" } : Jvm.MethodName) prog_12_method_17_code (3 : Nat) (Option.none : Option Jvm.ClassFile.FieldType)) ∈ lw_good := lw_run tables_1_4 lw_run4 195 rfl rfl
set_option maxRecDepth 20000 in
theorem q_916 : (Jvm.Cond.methodLink "PlanTextModel" (133 : Nat) ({ cls := "PlanTextModel", name := "standbyRow", desc := "()V" } : Jvm.MethodName)) ∈ lw_good := lw_run tables_1_4 lw_run4 196 rfl rfl
set_option maxRecDepth 20000 in
theorem q_918 : (Jvm.Cond.instanceMethod ({ cls := "PlanTextModel", name := "standbyRow", desc := "()V" } : Jvm.MethodName)) ∈ lw_good := lw_run tables_1_4 lw_run4 198 rfl rfl
set_option maxRecDepth 20000 in
theorem q_919 : (Jvm.Cond.code ({ cls := "PlanTextModel", name := "standbyRow", desc := "()V" } : Jvm.MethodName) prog_12_method_18_code (2 : Nat) (Option.none : Option Jvm.ClassFile.FieldType)) ∈ lw_good := lw_run tables_1_4 lw_run4 199 rfl rfl
set_option maxRecDepth 20000 in
theorem q_920 : (Jvm.Cond.methodLink "PlanTextModel" (142 : Nat) ({ cls := "PlanTextModel", name := "plansOf", desc := "(I)I" } : Jvm.MethodName)) ∈ lw_good := lw_run tables_1_4 lw_run4 200 rfl rfl
set_option maxRecDepth 20000 in
theorem q_922 : (Jvm.Cond.instanceMethod ({ cls := "PlanTextModel", name := "plansOf", desc := "(I)I" } : Jvm.MethodName)) ∈ lw_good := lw_run tables_1_4 lw_run4 202 rfl rfl
set_option maxRecDepth 20000 in
theorem q_923 : (Jvm.Cond.code ({ cls := "PlanTextModel", name := "plansOf", desc := "(I)I" } : Jvm.MethodName) prog_12_method_20_code (4 : Nat) (Option.some Jvm.ClassFile.FieldType.int)) ∈ lw_good := lw_run tables_1_4 lw_run4 203 rfl rfl
set_option maxRecDepth 20000 in
theorem q_924 : (Jvm.Cond.methodLink "PlanTextLaw" (82 : Nat) ({ cls := "PlanTextModel", name := "place", desc := "()I" } : Jvm.MethodName)) ∈ lw_good := lw_run tables_1_4 lw_run4 204 rfl rfl
set_option maxRecDepth 20000 in
theorem q_925 : (Jvm.Cond.instanceMethod ({ cls := "PlanTextModel", name := "place", desc := "()I" } : Jvm.MethodName)) ∈ lw_good := lw_run tables_1_4 lw_run4 205 rfl rfl
set_option maxRecDepth 20000 in
theorem q_926 : (Jvm.Cond.selects "PlanTextModel" ({ cls := "PlanTextModel", name := "place", desc := "()I" } : Jvm.MethodName) ({ cls := "PlanTextModel", name := "place", desc := "()I" } : Jvm.MethodName)) ∈ lw_good := lw_run tables_1_4 lw_run4 206 rfl rfl
set_option maxRecDepth 20000 in
theorem q_927 : (Jvm.Cond.code ({ cls := "PlanTextModel", name := "place", desc := "()I" } : Jvm.MethodName) prog_12_method_22_code (1 : Nat) (Option.some Jvm.ClassFile.FieldType.int)) ∈ lw_good := lw_run tables_1_4 lw_run4 207 rfl rfl
set_option maxRecDepth 20000 in
theorem q_928 : (Jvm.Cond.methodLink "PlanTextLaw" (86 : Nat) ({ cls := "PlanTextModel", name := "town", desc := "(II)V" } : Jvm.MethodName)) ∈ lw_good := lw_run tables_1_4 lw_run4 208 rfl rfl
set_option maxRecDepth 20000 in
theorem q_929 : (Jvm.Cond.instanceMethod ({ cls := "PlanTextModel", name := "town", desc := "(II)V" } : Jvm.MethodName)) ∈ lw_good := lw_run tables_1_4 lw_run4 209 rfl rfl
set_option maxRecDepth 20000 in
theorem q_930 : (Jvm.Cond.selects "PlanTextModel" ({ cls := "PlanTextModel", name := "town", desc := "(II)V" } : Jvm.MethodName) ({ cls := "PlanTextModel", name := "town", desc := "(II)V" } : Jvm.MethodName)) ∈ lw_good := lw_run tables_1_4 lw_run4 210 rfl rfl
set_option maxRecDepth 20000 in
theorem q_931 : (Jvm.Cond.code ({ cls := "PlanTextModel", name := "town", desc := "(II)V" } : Jvm.MethodName) prog_12_method_23_code (3 : Nat) (Option.none : Option Jvm.ClassFile.FieldType)) ∈ lw_good := lw_run tables_1_4 lw_run4 211 rfl rfl
set_option maxRecDepth 20000 in
theorem q_932 : (Jvm.Cond.methodLink "PlanTextLaw" (90 : Nat) ({ cls := "PlanTextModel", name := "plan", desc := "(IIIII)I" } : Jvm.MethodName)) ∈ lw_good := lw_run tables_1_4 lw_run4 212 rfl rfl
set_option maxRecDepth 20000 in
theorem q_933 : (Jvm.Cond.instanceMethod ({ cls := "PlanTextModel", name := "plan", desc := "(IIIII)I" } : Jvm.MethodName)) ∈ lw_good := lw_run tables_1_4 lw_run4 213 rfl rfl
set_option maxRecDepth 20000 in
theorem q_934 : (Jvm.Cond.selects "PlanTextModel" ({ cls := "PlanTextModel", name := "plan", desc := "(IIIII)I" } : Jvm.MethodName) ({ cls := "PlanTextModel", name := "plan", desc := "(IIIII)I" } : Jvm.MethodName)) ∈ lw_good := lw_run tables_1_4 lw_run4 214 rfl rfl
set_option maxRecDepth 20000 in
theorem q_935 : (Jvm.Cond.code ({ cls := "PlanTextModel", name := "plan", desc := "(IIIII)I" } : Jvm.MethodName) prog_12_method_29_code (10 : Nat) (Option.some Jvm.ClassFile.FieldType.int)) ∈ lw_good := lw_run tables_1_4 lw_run4 215 rfl rfl
set_option maxRecDepth 20000 in
theorem q_936 : (Jvm.Cond.methodLink "PlanTextModel" (153 : Nat) ({ cls := "PlanTextModel", name := "isDay", desc := "(I)Z" } : Jvm.MethodName)) ∈ lw_good := lw_run tables_1_4 lw_run4 216 rfl rfl
set_option maxRecDepth 20000 in
theorem q_937 : (Jvm.Cond.static ({ cls := "PlanTextModel", name := "isDay", desc := "(I)Z" } : Jvm.MethodName)) ∈ lw_good := lw_run tables_1_4 lw_run4 217 rfl rfl
set_option maxRecDepth 20000 in
theorem q_938 : (Jvm.Cond.code ({ cls := "PlanTextModel", name := "isDay", desc := "(I)Z" } : Jvm.MethodName) prog_12_method_24_code (1 : Nat) (Option.some Jvm.ClassFile.FieldType.boolean)) ∈ lw_good := lw_run tables_1_4 lw_run4 218 rfl rfl
set_option maxRecDepth 20000 in
theorem q_939 : (Jvm.Cond.methodLink "PlanTextModel" (156 : Nat) ({ cls := "PlanTextModel", name := "editionOf", desc := "(I)I" } : Jvm.MethodName)) ∈ lw_good := lw_run tables_1_4 lw_run4 219 rfl rfl
set_option maxRecDepth 20000 in
theorem q_941 : (Jvm.Cond.instanceMethod ({ cls := "PlanTextModel", name := "editionOf", desc := "(I)I" } : Jvm.MethodName)) ∈ lw_good := lw_run tables_1_4 lw_run4 221 rfl rfl
set_option maxRecDepth 20000 in
theorem q_942 : (Jvm.Cond.code ({ cls := "PlanTextModel", name := "editionOf", desc := "(I)I" } : Jvm.MethodName) prog_12_method_25_code (4 : Nat) (Option.some Jvm.ClassFile.FieldType.int)) ∈ lw_good := lw_run tables_1_4 lw_run4 222 rfl rfl
set_option maxRecDepth 20000 in
theorem q_943 : (Jvm.Cond.methodLink "PlanTextModel" (159 : Nat) ({ cls := "PlanTextModel", name := "best", desc := "(IIIII)I" } : Jvm.MethodName)) ∈ lw_good := lw_run tables_1_4 lw_run4 223 rfl rfl
set_option maxRecDepth 20000 in
theorem q_945 : (Jvm.Cond.instanceMethod ({ cls := "PlanTextModel", name := "best", desc := "(IIIII)I" } : Jvm.MethodName)) ∈ lw_good := lw_run tables_1_4 lw_run4 225 rfl rfl
set_option maxRecDepth 20000 in
theorem q_946 : (Jvm.Cond.code ({ cls := "PlanTextModel", name := "best", desc := "(IIIII)I" } : Jvm.MethodName) prog_12_method_28_code (9 : Nat) (Option.some Jvm.ClassFile.FieldType.int)) ∈ lw_good := lw_run tables_1_4 lw_run4 226 rfl rfl
set_option maxRecDepth 20000 in
theorem q_947 : (Jvm.Cond.methodLink "PlanTextModel" (149 : Nat) ({ cls := "PlanTextModel", name := "fits", desc := "(IIIII)Z" } : Jvm.MethodName)) ∈ lw_good := lw_run tables_1_4 lw_run4 227 rfl rfl
set_option maxRecDepth 20000 in
theorem q_949 : (Jvm.Cond.instanceMethod ({ cls := "PlanTextModel", name := "fits", desc := "(IIIII)Z" } : Jvm.MethodName)) ∈ lw_good := lw_run tables_1_4 lw_run4 229 rfl rfl
set_option maxRecDepth 20000 in
theorem q_950 : (Jvm.Cond.code ({ cls := "PlanTextModel", name := "fits", desc := "(IIIII)Z" } : Jvm.MethodName) prog_12_method_27_code (7 : Nat) (Option.some Jvm.ClassFile.FieldType.boolean)) ∈ lw_good := lw_run tables_1_4 lw_run4 230 rfl rfl
set_option maxRecDepth 20000 in
theorem q_951 : (Jvm.Cond.methodLink "PlanTextModel" (146 : Nat) ({ cls := "PlanTextModel", name := "isWithin", desc := "(III)Z" } : Jvm.MethodName)) ∈ lw_good := lw_run tables_1_4 lw_run4 231 rfl rfl
set_option maxRecDepth 20000 in
theorem q_952 : (Jvm.Cond.static ({ cls := "PlanTextModel", name := "isWithin", desc := "(III)Z" } : Jvm.MethodName)) ∈ lw_good := lw_run tables_1_4 lw_run4 232 rfl rfl
set_option maxRecDepth 20000 in
theorem q_953 : (Jvm.Cond.code ({ cls := "PlanTextModel", name := "isWithin", desc := "(III)Z" } : Jvm.MethodName) prog_12_method_26_code (3 : Nat) (Option.some Jvm.ClassFile.FieldType.boolean)) ∈ lw_good := lw_run tables_1_4 lw_run4 233 rfl rfl
set_option maxRecDepth 20000 in
theorem q_954 : (Jvm.Cond.methodLink "PlanTextLaw" (94 : Nat) ({ cls := "PlanTextModel", name := "need", desc := "(II)I" } : Jvm.MethodName)) ∈ lw_good := lw_run tables_1_4 lw_run4 234 rfl rfl
set_option maxRecDepth 20000 in
theorem q_955 : (Jvm.Cond.instanceMethod ({ cls := "PlanTextModel", name := "need", desc := "(II)I" } : Jvm.MethodName)) ∈ lw_good := lw_run tables_1_4 lw_run4 235 rfl rfl
set_option maxRecDepth 20000 in
theorem q_956 : (Jvm.Cond.selects "PlanTextModel" ({ cls := "PlanTextModel", name := "need", desc := "(II)I" } : Jvm.MethodName) ({ cls := "PlanTextModel", name := "need", desc := "(II)I" } : Jvm.MethodName)) ∈ lw_good := lw_run tables_1_4 lw_run4 236 rfl rfl
set_option maxRecDepth 20000 in
theorem q_957 : (Jvm.Cond.code ({ cls := "PlanTextModel", name := "need", desc := "(II)I" } : Jvm.MethodName) prog_12_method_30_code (4 : Nat) (Option.some Jvm.ClassFile.FieldType.int)) ∈ lw_good := lw_run tables_1_4 lw_run4 237 rfl rfl
set_option maxRecDepth 20000 in
theorem q_958 : (Jvm.Cond.methodLink "PlanTextLaw" (98 : Nat) ({ cls := "PlanTextModel", name := "standby", desc := "(IIII)I" } : Jvm.MethodName)) ∈ lw_good := lw_run tables_1_4 lw_run4 238 rfl rfl
set_option maxRecDepth 20000 in
theorem q_959 : (Jvm.Cond.instanceMethod ({ cls := "PlanTextModel", name := "standby", desc := "(IIII)I" } : Jvm.MethodName)) ∈ lw_good := lw_run tables_1_4 lw_run4 239 rfl rfl
set_option maxRecDepth 20000 in
theorem q_960 : (Jvm.Cond.selects "PlanTextModel" ({ cls := "PlanTextModel", name := "standby", desc := "(IIII)I" } : Jvm.MethodName) ({ cls := "PlanTextModel", name := "standby", desc := "(IIII)I" } : Jvm.MethodName)) ∈ lw_good := lw_run tables_1_5 lw_run5 0 rfl rfl
set_option maxRecDepth 20000 in
theorem q_961 : (Jvm.Cond.code ({ cls := "PlanTextModel", name := "standby", desc := "(IIII)I" } : Jvm.MethodName) prog_12_method_31_code (10 : Nat) (Option.some Jvm.ClassFile.FieldType.int)) ∈ lw_good := lw_run tables_1_5 lw_run5 1 rfl rfl
set_option maxRecDepth 20000 in
theorem q_962 : (Jvm.Cond.methodLink "PlanTextLaw" (101 : Nat) ({ cls := "PlanTextModel", name := "clash", desc := "(II)I" } : Jvm.MethodName)) ∈ lw_good := lw_run tables_1_5 lw_run5 2 rfl rfl
set_option maxRecDepth 20000 in
theorem q_963 : (Jvm.Cond.instanceMethod ({ cls := "PlanTextModel", name := "clash", desc := "(II)I" } : Jvm.MethodName)) ∈ lw_good := lw_run tables_1_5 lw_run5 3 rfl rfl
set_option maxRecDepth 20000 in
theorem q_964 : (Jvm.Cond.selects "PlanTextModel" ({ cls := "PlanTextModel", name := "clash", desc := "(II)I" } : Jvm.MethodName) ({ cls := "PlanTextModel", name := "clash", desc := "(II)I" } : Jvm.MethodName)) ∈ lw_good := lw_run tables_1_5 lw_run5 4 rfl rfl
set_option maxRecDepth 20000 in
theorem q_965 : (Jvm.Cond.code ({ cls := "PlanTextModel", name := "clash", desc := "(II)I" } : Jvm.MethodName) prog_12_method_33_code (7 : Nat) (Option.some Jvm.ClassFile.FieldType.int)) ∈ lw_good := lw_run tables_1_5 lw_run5 5 rfl rfl
set_option maxRecDepth 20000 in
theorem q_966 : (Jvm.Cond.methodLink "PlanTextModel" (163 : Nat) ({ cls := "PlanTextModel", name := "clashes", desc := "(II)Z" } : Jvm.MethodName)) ∈ lw_good := lw_run tables_1_5 lw_run5 6 rfl rfl
set_option maxRecDepth 20000 in
theorem q_968 : (Jvm.Cond.instanceMethod ({ cls := "PlanTextModel", name := "clashes", desc := "(II)Z" } : Jvm.MethodName)) ∈ lw_good := lw_run tables_1_5 lw_run5 8 rfl rfl
set_option maxRecDepth 20000 in
theorem q_969 : (Jvm.Cond.code ({ cls := "PlanTextModel", name := "clashes", desc := "(II)Z" } : Jvm.MethodName) prog_12_method_32_code (5 : Nat) (Option.some Jvm.ClassFile.FieldType.boolean)) ∈ lw_good := lw_run tables_1_5 lw_run5 9 rfl rfl
set_option maxRecDepth 20000 in
theorem q_970 : (Jvm.Cond.methodLink "PlanTextLaw" (104 : Nat) ({ cls := "PlanTextModel", name := "never", desc := "(II)I" } : Jvm.MethodName)) ∈ lw_good := lw_run tables_1_5 lw_run5 10 rfl rfl
set_option maxRecDepth 20000 in
theorem q_971 : (Jvm.Cond.instanceMethod ({ cls := "PlanTextModel", name := "never", desc := "(II)I" } : Jvm.MethodName)) ∈ lw_good := lw_run tables_1_5 lw_run5 11 rfl rfl
set_option maxRecDepth 20000 in
theorem q_972 : (Jvm.Cond.selects "PlanTextModel" ({ cls := "PlanTextModel", name := "never", desc := "(II)I" } : Jvm.MethodName) ({ cls := "PlanTextModel", name := "never", desc := "(II)I" } : Jvm.MethodName)) ∈ lw_good := lw_run tables_1_5 lw_run5 12 rfl rfl
set_option maxRecDepth 20000 in
theorem q_973 : (Jvm.Cond.code ({ cls := "PlanTextModel", name := "never", desc := "(II)I" } : Jvm.MethodName) prog_12_method_36_code (6 : Nat) (Option.some Jvm.ClassFile.FieldType.int)) ∈ lw_good := lw_run tables_1_5 lw_run5 13 rfl rfl
set_option maxRecDepth 20000 in
theorem q_974 : (Jvm.Cond.methodLink "PlanTextModel" (170 : Nat) ({ cls := "PlanTextModel", name := "isMet", desc := "(II)Z" } : Jvm.MethodName)) ∈ lw_good := lw_run tables_1_5 lw_run5 14 rfl rfl
set_option maxRecDepth 20000 in
theorem q_976 : (Jvm.Cond.instanceMethod ({ cls := "PlanTextModel", name := "isMet", desc := "(II)Z" } : Jvm.MethodName)) ∈ lw_good := lw_run tables_1_5 lw_run5 16 rfl rfl
set_option maxRecDepth 20000 in
theorem q_977 : (Jvm.Cond.code ({ cls := "PlanTextModel", name := "isMet", desc := "(II)Z" } : Jvm.MethodName) prog_12_method_35_code (10 : Nat) (Option.some Jvm.ClassFile.FieldType.boolean)) ∈ lw_good := lw_run tables_1_5 lw_run5 17 rfl rfl
set_option maxRecDepth 20000 in
theorem q_978 : (Jvm.Cond.methodLink "PlanTextModel" (167 : Nat) ({ cls := "PlanTextModel", name := "free", desc := "(I)I" } : Jvm.MethodName)) ∈ lw_good := lw_run tables_1_5 lw_run5 18 rfl rfl
set_option maxRecDepth 20000 in
theorem q_980 : (Jvm.Cond.instanceMethod ({ cls := "PlanTextModel", name := "free", desc := "(I)I" } : Jvm.MethodName)) ∈ lw_good := lw_run tables_1_5 lw_run5 20 rfl rfl
set_option maxRecDepth 20000 in
theorem q_981 : (Jvm.Cond.code ({ cls := "PlanTextModel", name := "free", desc := "(I)I" } : Jvm.MethodName) prog_12_method_34_code (5 : Nat) (Option.some Jvm.ClassFile.FieldType.int)) ∈ lw_good := lw_run tables_1_5 lw_run5 21 rfl rfl
set_option maxRecDepth 20000 in
theorem q_982 : (Jvm.Cond.methodLink "PlanTextLaw" (107 : Nat) ({ cls := "PlanTextModel", name := "lacks", desc := "(II)I" } : Jvm.MethodName)) ∈ lw_good := lw_run tables_1_5 lw_run5 22 rfl rfl
set_option maxRecDepth 20000 in
theorem q_983 : (Jvm.Cond.instanceMethod ({ cls := "PlanTextModel", name := "lacks", desc := "(II)I" } : Jvm.MethodName)) ∈ lw_good := lw_run tables_1_5 lw_run5 23 rfl rfl
set_option maxRecDepth 20000 in
theorem q_984 : (Jvm.Cond.selects "PlanTextModel" ({ cls := "PlanTextModel", name := "lacks", desc := "(II)I" } : Jvm.MethodName) ({ cls := "PlanTextModel", name := "lacks", desc := "(II)I" } : Jvm.MethodName)) ∈ lw_good := lw_run tables_1_5 lw_run5 24 rfl rfl
set_option maxRecDepth 20000 in
theorem q_985 : (Jvm.Cond.code ({ cls := "PlanTextModel", name := "lacks", desc := "(II)I" } : Jvm.MethodName) prog_12_method_38_code (6 : Nat) (Option.some Jvm.ClassFile.FieldType.int)) ∈ lw_good := lw_run tables_1_5 lw_run5 25 rfl rfl
set_option maxRecDepth 20000 in
theorem q_986 : (Jvm.Cond.methodLink "PlanTextModel" (173 : Nat) ({ cls := "PlanTextModel", name := "isShort", desc := "(I)Z" } : Jvm.MethodName)) ∈ lw_good := lw_run tables_1_5 lw_run5 26 rfl rfl
set_option maxRecDepth 20000 in
theorem q_988 : (Jvm.Cond.instanceMethod ({ cls := "PlanTextModel", name := "isShort", desc := "(I)Z" } : Jvm.MethodName)) ∈ lw_good := lw_run tables_1_5 lw_run5 28 rfl rfl
set_option maxRecDepth 20000 in
theorem q_989 : (Jvm.Cond.code ({ cls := "PlanTextModel", name := "isShort", desc := "(I)Z" } : Jvm.MethodName) prog_12_method_37_code (5 : Nat) (Option.some Jvm.ClassFile.FieldType.boolean)) ∈ lw_good := lw_run tables_1_5 lw_run5 29 rfl rfl
set_option maxRecDepth 20000 in
theorem q_990 : (Jvm.Cond.methodLink "PlanTextLaw" (110 : Nat) ({ cls := "PlanTextModel", name := "print", desc := "(I)I" } : Jvm.MethodName)) ∈ lw_good := lw_run tables_1_5 lw_run5 30 rfl rfl
set_option maxRecDepth 20000 in
theorem q_991 : (Jvm.Cond.instanceMethod ({ cls := "PlanTextModel", name := "print", desc := "(I)I" } : Jvm.MethodName)) ∈ lw_good := lw_run tables_1_5 lw_run5 31 rfl rfl
set_option maxRecDepth 20000 in
theorem q_992 : (Jvm.Cond.selects "PlanTextModel" ({ cls := "PlanTextModel", name := "print", desc := "(I)I" } : Jvm.MethodName) ({ cls := "PlanTextModel", name := "print", desc := "(I)I" } : Jvm.MethodName)) ∈ lw_good := lw_run tables_1_5 lw_run5 32 rfl rfl
set_option maxRecDepth 20000 in
theorem q_993 : (Jvm.Cond.code ({ cls := "PlanTextModel", name := "print", desc := "(I)I" } : Jvm.MethodName) prog_12_method_43_code (5 : Nat) (Option.some Jvm.ClassFile.FieldType.int)) ∈ lw_good := lw_run tables_1_5 lw_run5 33 rfl rfl
set_option maxRecDepth 20000 in
theorem q_994 : (Jvm.Cond.methodLink "PlanTextModel" (189 : Nat) ({ cls := "PlanTextModel", name := "putPlan", desc := "(I)V" } : Jvm.MethodName)) ∈ lw_good := lw_run tables_1_5 lw_run5 34 rfl rfl
set_option maxRecDepth 20000 in
theorem q_996 : (Jvm.Cond.instanceMethod ({ cls := "PlanTextModel", name := "putPlan", desc := "(I)V" } : Jvm.MethodName)) ∈ lw_good := lw_run tables_1_5 lw_run5 36 rfl rfl
set_option maxRecDepth 20000 in
theorem q_997 : (Jvm.Cond.code ({ cls := "PlanTextModel", name := "putPlan", desc := "(I)V" } : Jvm.MethodName) prog_12_method_42_code (2 : Nat) (Option.none : Option Jvm.ClassFile.FieldType)) ∈ lw_good := lw_run tables_1_5 lw_run5 37 rfl rfl
set_option maxRecDepth 20000 in
theorem q_998 : (Jvm.Cond.methodLink "PlanTextModel" (182 : Nat) ({ cls := "PlanTextModel", name := "putNumber", desc := "(II)V" } : Jvm.MethodName)) ∈ lw_good := lw_run tables_1_5 lw_run5 38 rfl rfl
set_option maxRecDepth 20000 in
theorem q_1000 : (Jvm.Cond.instanceMethod ({ cls := "PlanTextModel", name := "putNumber", desc := "(II)V" } : Jvm.MethodName)) ∈ lw_good := lw_run tables_1_5 lw_run5 40 rfl rfl
set_option maxRecDepth 20000 in
theorem q_1001 : (Jvm.Cond.code ({ cls := "PlanTextModel", name := "putNumber", desc := "(II)V" } : Jvm.MethodName) prog_12_method_40_code (3 : Nat) (Option.none : Option Jvm.ClassFile.FieldType)) ∈ lw_good := lw_run tables_1_5 lw_run5 41 rfl rfl
set_option maxRecDepth 20000 in
theorem q_1002 : (Jvm.Cond.methodLink "PlanTextModel" (179 : Nat) ({ cls := "PlanTextModel", name := "put", desc := "(I)V" } : Jvm.MethodName)) ∈ lw_good := lw_run tables_1_5 lw_run5 42 rfl rfl
set_option maxRecDepth 20000 in
theorem q_1004 : (Jvm.Cond.instanceMethod ({ cls := "PlanTextModel", name := "put", desc := "(I)V" } : Jvm.MethodName)) ∈ lw_good := lw_run tables_1_5 lw_run5 44 rfl rfl
set_option maxRecDepth 20000 in
theorem q_1005 : (Jvm.Cond.code ({ cls := "PlanTextModel", name := "put", desc := "(I)V" } : Jvm.MethodName) prog_12_method_39_code (2 : Nat) (Option.none : Option Jvm.ClassFile.FieldType)) ∈ lw_good := lw_run tables_1_5 lw_run5 45 rfl rfl
set_option maxRecDepth 20000 in
theorem q_1006 : (Jvm.Cond.methodLink "PlanTextModel" (186 : Nat) ({ cls := "PlanTextModel", name := "putNeeds", desc := "(I)V" } : Jvm.MethodName)) ∈ lw_good := lw_run tables_1_5 lw_run5 46 rfl rfl
set_option maxRecDepth 20000 in
theorem q_1008 : (Jvm.Cond.instanceMethod ({ cls := "PlanTextModel", name := "putNeeds", desc := "(I)V" } : Jvm.MethodName)) ∈ lw_good := lw_run tables_1_5 lw_run5 48 rfl rfl
set_option maxRecDepth 20000 in
theorem q_1009 : (Jvm.Cond.code ({ cls := "PlanTextModel", name := "putNeeds", desc := "(I)V" } : Jvm.MethodName) prog_12_method_41_code (5 : Nat) (Option.none : Option Jvm.ClassFile.FieldType)) ∈ lw_good := lw_run tables_1_5 lw_run5 49 rfl rfl
set_option maxRecDepth 20000 in
theorem q_1010 : (Jvm.Cond.methodLink "PlanTextLaw" (113 : Nat) ({ cls := "PlanTextModel", name := "at", desc := "(I)I" } : Jvm.MethodName)) ∈ lw_good := lw_run tables_1_5 lw_run5 50 rfl rfl
set_option maxRecDepth 20000 in
theorem q_1011 : (Jvm.Cond.instanceMethod ({ cls := "PlanTextModel", name := "at", desc := "(I)I" } : Jvm.MethodName)) ∈ lw_good := lw_run tables_1_5 lw_run5 51 rfl rfl
set_option maxRecDepth 20000 in
theorem q_1012 : (Jvm.Cond.selects "PlanTextModel" ({ cls := "PlanTextModel", name := "at", desc := "(I)I" } : Jvm.MethodName) ({ cls := "PlanTextModel", name := "at", desc := "(I)I" } : Jvm.MethodName)) ∈ lw_good := lw_run tables_1_5 lw_run5 52 rfl rfl
set_option maxRecDepth 20000 in
theorem q_1013 : (Jvm.Cond.code ({ cls := "PlanTextModel", name := "at", desc := "(I)I" } : Jvm.MethodName) prog_12_method_44_code (2 : Nat) (Option.some Jvm.ClassFile.FieldType.int)) ∈ lw_good := lw_run tables_1_5 lw_run5 53 rfl rfl
set_option maxRecDepth 20000 in
theorem q_1014 : (Jvm.Cond.methodLink "PlanTextLaw" (116 : Nat) ({ cls := "PlanTextModel", name := "count", desc := "(I)I" } : Jvm.MethodName)) ∈ lw_good := lw_run tables_1_5 lw_run5 54 rfl rfl
set_option maxRecDepth 20000 in
theorem q_1015 : (Jvm.Cond.instanceMethod ({ cls := "PlanTextModel", name := "count", desc := "(I)I" } : Jvm.MethodName)) ∈ lw_good := lw_run tables_1_5 lw_run5 55 rfl rfl
set_option maxRecDepth 20000 in
theorem q_1016 : (Jvm.Cond.selects "PlanTextModel" ({ cls := "PlanTextModel", name := "count", desc := "(I)I" } : Jvm.MethodName) ({ cls := "PlanTextModel", name := "count", desc := "(I)I" } : Jvm.MethodName)) ∈ lw_good := lw_run tables_1_5 lw_run5 56 rfl rfl
set_option maxRecDepth 20000 in
theorem q_1017 : (Jvm.Cond.code ({ cls := "PlanTextModel", name := "count", desc := "(I)I" } : Jvm.MethodName) prog_12_method_45_code (4 : Nat) (Option.some Jvm.ClassFile.FieldType.int)) ∈ lw_good := lw_run tables_1_5 lw_run5 57 rfl rfl
set_option maxRecDepth 20000 in
theorem q_1018 : (Jvm.Cond.constantLong "PlanTextLaw" (63 : Nat) (4294967295 : Int64)) ∈ lw_good := lw_run tables_1_5 lw_run5 58 rfl rfl
set_option maxRecDepth 20000 in
theorem q_1019 : (Jvm.Cond.arrayClass Jvm.ClassFile.FieldType.long) ∈ lw_good := lw_run tables_1_5 lw_run5 59 rfl rfl
theorem qp_1 : Cond.selects "PlanText$Reader" ⟨"PlanText$Reader", "nextSign", "()I"⟩ ⟨"PlanText$Reader", "nextSign", "()I"⟩ ∈ lw_good := lw_at 1 rfl rfl
theorem qp_2 : Cond.selects "PlanText$Reader" ⟨"PlanText$Reader", "takes", "(C)Z"⟩ ⟨"PlanText$Reader", "takes", "(C)Z"⟩ ∈ lw_good := lw_at 2 rfl rfl
theorem qp_3 : Cond.selects "PlanText$Reader" ⟨"PlanText$Reader", "readPlan", "(LPlanText$Edition;)V"⟩ ⟨"PlanText$Reader", "readPlan", "(LPlanText$Edition;)V"⟩ ∈ lw_good := lw_at 3 rfl rfl
theorem qp_4 : Cond.selects "PlanText$Reader" ⟨"PlanText$Reader", "readNumber", "(II)I"⟩ ⟨"PlanText$Reader", "readNumber", "(II)I"⟩ ∈ lw_good := lw_at 4 rfl rfl
theorem qp_5 : Cond.selects "PlanText$Reader" ⟨"PlanText$Reader", "fail", "(I)V"⟩ ⟨"PlanText$Reader", "fail", "(I)V"⟩ ∈ lw_good := lw_at 5 rfl rfl
theorem qp_6 : Cond.selects "PlanText$Reader" ⟨"PlanText$Reader", "byteAt", "(I)I"⟩ ⟨"PlanText$Reader", "byteAt", "(I)I"⟩ ∈ lw_good := lw_at 6 rfl rfl
theorem qp_7 : Cond.selects "PlanText$Reader" ⟨"PlanText$Reader", "expect", "(C)V"⟩ ⟨"PlanText$Reader", "expect", "(C)V"⟩ ∈ lw_good := lw_at 7 rfl rfl
theorem qp_8 : Cond.selects "PlanText$Reader" ⟨"PlanText$Reader", "readStretch", "()LPlanText$Stretch;"⟩ ⟨"PlanText$Reader", "readStretch", "()LPlanText$Stretch;"⟩ ∈ lw_good := lw_at 8 rfl rfl
theorem qp_9 : Cond.selects "PlanText$Reader" ⟨"PlanText$Reader", "readHours", "()LPlanText$Hours;"⟩ ⟨"PlanText$Reader", "readHours", "()LPlanText$Hours;"⟩ ∈ lw_good := lw_at 9 rfl rfl
theorem qp_10 : Cond.selects "PlanText$Reader" ⟨"PlanText$Reader", "readNeeds", "()LPlanText$NeedList;"⟩ ⟨"PlanText$Reader", "readNeeds", "()LPlanText$NeedList;"⟩ ∈ lw_good := lw_at 10 rfl rfl
theorem qp_11 : Cond.selects "PlanText$Reader" ⟨"PlanText$Reader", "readNeed", "()LPlanText$Need;"⟩ ⟨"PlanText$Reader", "readNeed", "()LPlanText$Need;"⟩ ∈ lw_good := lw_at 11 rfl rfl
theorem qp_12 : Cond.selects "PlanText$Reader" ⟨"PlanText$Reader", "readSkill", "(I)I"⟩ ⟨"PlanText$Reader", "readSkill", "(I)I"⟩ ∈ lw_good := lw_at 12 rfl rfl
theorem qp_13 : Cond.selects "PlanText$Reader" ⟨"PlanText$Reader", "readDefault", "(LPlanText$Edition;)V"⟩ ⟨"PlanText$Reader", "readDefault", "(LPlanText$Edition;)V"⟩ ∈ lw_good := lw_at 13 rfl rfl
theorem qp_14 : Cond.selects "PlanText$Reader" ⟨"PlanText$Reader", "readStandby", "(LPlanText$Edition;)V"⟩ ⟨"PlanText$Reader", "readStandby", "(LPlanText$Edition;)V"⟩ ∈ lw_good := lw_at 14 rfl rfl
theorem qp_15 : Cond.selects "PlanText" ⟨"PlanText", "editionOf", "(I)LPlanText$Edition;"⟩ ⟨"PlanText", "editionOf", "(I)LPlanText$Edition;"⟩ ∈ lw_good := lw_at 15 rfl rfl
theorem qp_16 : Cond.selects "PlanText$Edition" ⟨"PlanText$Edition", "isNeverMet", "(LPlanText$Plan;)Z"⟩ ⟨"PlanText$Edition", "isNeverMet", "(LPlanText$Plan;)Z"⟩ ∈ lw_good := lw_at 16 rfl rfl
theorem qp_17 : Cond.selects "PlanText$Edition" ⟨"PlanText$Edition", "hoursLeft", "(LPlanText$Plan;I)I"⟩ ⟨"PlanText$Edition", "hoursLeft", "(LPlanText$Plan;I)I"⟩ ∈ lw_good := lw_at 17 rfl rfl
theorem qp_18 : Cond.selects "PlanText$Printer" ⟨"PlanText$Printer", "writePlan", "(LPlanText$Plan;)V"⟩ ⟨"PlanText$Printer", "writePlan", "(LPlanText$Plan;)V"⟩ ∈ lw_good := lw_at 18 rfl rfl
theorem qp_19 : Cond.selects "PlanText$Printer" ⟨"PlanText$Printer", "writeNumber", "(CI)V"⟩ ⟨"PlanText$Printer", "writeNumber", "(CI)V"⟩ ∈ lw_good := lw_at 19 rfl rfl
theorem qp_20 : Cond.selects "PlanText$Printer" ⟨"PlanText$Printer", "write", "(I)V"⟩ ⟨"PlanText$Printer", "write", "(I)V"⟩ ∈ lw_good := lw_at 20 rfl rfl
theorem qp_21 : Cond.selects "PlanText$Printer" ⟨"PlanText$Printer", "writeHours", "(LPlanText$Hours;)V"⟩ ⟨"PlanText$Printer", "writeHours", "(LPlanText$Hours;)V"⟩ ∈ lw_good := lw_at 21 rfl rfl
theorem qp_22 : Cond.selects "PlanText$Printer" ⟨"PlanText$Printer", "writeNeeds", "(LPlanText$NeedList;)V"⟩ ⟨"PlanText$Printer", "writeNeeds", "(LPlanText$NeedList;)V"⟩ ∈ lw_good := lw_at 22 rfl rfl
theorem qp_23 : Cond.selects "PlanText$Printer" ⟨"PlanText$Printer", "writeNeed", "(LPlanText$Need;)V"⟩ ⟨"PlanText$Printer", "writeNeed", "(LPlanText$Need;)V"⟩ ∈ lw_good := lw_at 23 rfl rfl
theorem qp_24 : Cond.selects "PlanText$Printer" ⟨"PlanText$Printer", "writeSkill", "(I)V"⟩ ⟨"PlanText$Printer", "writeSkill", "(I)V"⟩ ∈ lw_good := lw_at 24 rfl rfl
theorem qp_25 : Cond.selects "PlanText$Printer" ⟨"PlanText$Printer", "writeStandby", "(LPlanText$Standby;)V"⟩ ⟨"PlanText$Printer", "writeStandby", "(LPlanText$Standby;)V"⟩ ∈ lw_good := lw_at 25 rfl rfl
theorem qp_26 : Cond.selects "PlanTextModel" ⟨"PlanTextModel", "throwing", "(ZZZ)Z"⟩ ⟨"PlanTextModel", "throwing", "(ZZZ)Z"⟩ ∈ lw_good := lw_at 26 rfl rfl
theorem qp_27 : Cond.selects "PlanTextModel" ⟨"PlanTextModel", "readAll", "()V"⟩ ⟨"PlanTextModel", "readAll", "()V"⟩ ∈ lw_good := lw_at 27 rfl rfl
theorem qp_28 : Cond.selects "PlanTextModel" ⟨"PlanTextModel", "see", "()I"⟩ ⟨"PlanTextModel", "see", "()I"⟩ ∈ lw_good := lw_at 28 rfl rfl
theorem qp_29 : Cond.selects "PlanTextModel" ⟨"PlanTextModel", "fail", "(I)V"⟩ ⟨"PlanTextModel", "fail", "(I)V"⟩ ∈ lw_good := lw_at 29 rfl rfl
theorem qp_30 : Cond.selects "PlanTextModel" ⟨"PlanTextModel", "planRow", "()V"⟩ ⟨"PlanTextModel", "planRow", "()V"⟩ ∈ lw_good := lw_at 30 rfl rfl
theorem qp_31 : Cond.selects "PlanTextModel" ⟨"PlanTextModel", "number", "(II)I"⟩ ⟨"PlanTextModel", "number", "(II)I"⟩ ∈ lw_good := lw_at 31 rfl rfl
theorem qp_32 : Cond.selects "PlanTextModel" ⟨"PlanTextModel", "isDigit", "(I)Z"⟩ ⟨"PlanTextModel", "isDigit", "(I)Z"⟩ ∈ lw_good := lw_at 32 rfl rfl
theorem qp_33 : Cond.selects "PlanTextModel" ⟨"PlanTextModel", "expect", "(I)V"⟩ ⟨"PlanTextModel", "expect", "(I)V"⟩ ∈ lw_good := lw_at 33 rfl rfl
theorem qp_34 : Cond.selects "PlanTextModel" ⟨"PlanTextModel", "goesOn", "(I)Z"⟩ ⟨"PlanTextModel", "goesOn", "(I)Z"⟩ ∈ lw_good := lw_at 34 rfl rfl
theorem qp_35 : Cond.selects "PlanTextModel" ⟨"PlanTextModel", "hours", "(I)V"⟩ ⟨"PlanTextModel", "hours", "(I)V"⟩ ∈ lw_good := lw_at 35 rfl rfl
theorem qp_36 : Cond.selects "PlanTextModel" ⟨"PlanTextModel", "needsOf", "(I)V"⟩ ⟨"PlanTextModel", "needsOf", "(I)V"⟩ ∈ lw_good := lw_at 36 rfl rfl
theorem qp_37 : Cond.selects "PlanTextModel" ⟨"PlanTextModel", "oneNeed", "(I)V"⟩ ⟨"PlanTextModel", "oneNeed", "(I)V"⟩ ∈ lw_good := lw_at 37 rfl rfl
theorem qp_38 : Cond.selects "PlanTextModel" ⟨"PlanTextModel", "letter", "()I"⟩ ⟨"PlanTextModel", "letter", "()I"⟩ ∈ lw_good := lw_at 38 rfl rfl
theorem qp_39 : Cond.selects "PlanTextModel" ⟨"PlanTextModel", "defaultRow", "()V"⟩ ⟨"PlanTextModel", "defaultRow", "()V"⟩ ∈ lw_good := lw_at 39 rfl rfl
theorem qp_40 : Cond.selects "PlanTextModel" ⟨"PlanTextModel", "standbyRow", "()V"⟩ ⟨"PlanTextModel", "standbyRow", "()V"⟩ ∈ lw_good := lw_at 40 rfl rfl
theorem qp_41 : Cond.selects "PlanTextModel" ⟨"PlanTextModel", "plansOf", "(I)I"⟩ ⟨"PlanTextModel", "plansOf", "(I)I"⟩ ∈ lw_good := lw_at 41 rfl rfl
theorem qp_42 : Cond.selects "PlanTextModel" ⟨"PlanTextModel", "editionOf", "(I)I"⟩ ⟨"PlanTextModel", "editionOf", "(I)I"⟩ ∈ lw_good := lw_at 42 rfl rfl
theorem qp_43 : Cond.selects "PlanTextModel" ⟨"PlanTextModel", "best", "(IIIII)I"⟩ ⟨"PlanTextModel", "best", "(IIIII)I"⟩ ∈ lw_good := lw_at 43 rfl rfl
theorem qp_44 : Cond.selects "PlanTextModel" ⟨"PlanTextModel", "fits", "(IIIII)Z"⟩ ⟨"PlanTextModel", "fits", "(IIIII)Z"⟩ ∈ lw_good := lw_at 44 rfl rfl
theorem qp_45 : Cond.selects "PlanTextModel" ⟨"PlanTextModel", "clashes", "(II)Z"⟩ ⟨"PlanTextModel", "clashes", "(II)Z"⟩ ∈ lw_good := lw_at 45 rfl rfl
theorem qp_46 : Cond.selects "PlanTextModel" ⟨"PlanTextModel", "isMet", "(II)Z"⟩ ⟨"PlanTextModel", "isMet", "(II)Z"⟩ ∈ lw_good := lw_at 46 rfl rfl
theorem qp_47 : Cond.selects "PlanTextModel" ⟨"PlanTextModel", "free", "(I)I"⟩ ⟨"PlanTextModel", "free", "(I)I"⟩ ∈ lw_good := lw_at 47 rfl rfl
theorem qp_48 : Cond.selects "PlanTextModel" ⟨"PlanTextModel", "isShort", "(I)Z"⟩ ⟨"PlanTextModel", "isShort", "(I)Z"⟩ ∈ lw_good := lw_at 48 rfl rfl
theorem qp_49 : Cond.selects "PlanTextModel" ⟨"PlanTextModel", "putPlan", "(I)V"⟩ ⟨"PlanTextModel", "putPlan", "(I)V"⟩ ∈ lw_good := lw_at 49 rfl rfl
theorem qp_50 : Cond.selects "PlanTextModel" ⟨"PlanTextModel", "putNumber", "(II)V"⟩ ⟨"PlanTextModel", "putNumber", "(II)V"⟩ ∈ lw_good := lw_at 50 rfl rfl
theorem qp_51 : Cond.selects "PlanTextModel" ⟨"PlanTextModel", "put", "(I)V"⟩ ⟨"PlanTextModel", "put", "(I)V"⟩ ∈ lw_good := lw_at 51 rfl rfl
theorem qp_52 : Cond.selects "PlanTextModel" ⟨"PlanTextModel", "putNeeds", "(I)V"⟩ ⟨"PlanTextModel", "putNeeds", "(I)V"⟩ ∈ lw_good := lw_at 52 rfl rfl
theorem cl_PT : gCl 0 "PlanText" T_PT 11 t_PT := ⟨rfl, i_PT, t_PT_ok, n_PT⟩
theorem bl_PT : ∀ j, j < 11 → defaultValue (t_PT j) = vp_V [.null, .int 0, .int 0, .null, .null, .int 0, .null, .null, .null, .null, .null] j := fun j hj => by
  rcases (show j = 0 ∨ j = 1 ∨ j = 2 ∨ j = 3 ∨ j = 4 ∨ j = 5 ∨ j = 6 ∨ j = 7 ∨ j = 8 ∨ j = 9 ∨ j = 10 by omega) with rfl | rfl | rfl | rfl | rfl | rfl | rfl | rfl | rfl | rfl | rfl <;> rfl
theorem cl_Ed : gCl 1 "PlanText$Edition" T_Ed 7 t_Ed := ⟨rfl, i_Ed, t_Ed_ok, n_Ed⟩
theorem bl_Ed : ∀ j, j < 7 → defaultValue (t_Ed j) = vp_V [.int 0, .null, .null, .null, .int 0, .int 0, .int 0] j := fun j hj => by
  rcases (show j = 0 ∨ j = 1 ∨ j = 2 ∨ j = 3 ∨ j = 4 ∨ j = 5 ∨ j = 6 by omega) with rfl | rfl | rfl | rfl | rfl | rfl | rfl <;> rfl
theorem cl_Hr : gCl 2 "PlanText$Hours" T_Hr 4 t_Hr := ⟨rfl, i_Hr, t_Hr_ok, n_Hr⟩
theorem bl_Hr : ∀ j, j < 4 → defaultValue (t_Hr j) = vp_V [.int 0, .int 0, .int 0, .int 0] j := fun j hj => by
  rcases (show j = 0 ∨ j = 1 ∨ j = 2 ∨ j = 3 by omega) with rfl | rfl | rfl | rfl <;> rfl
theorem cl_Nd : gCl 3 "PlanText$Need" T_Nd 5 t_Nd := ⟨rfl, i_Nd, t_Nd_ok, n_Nd⟩
theorem bl_Nd : ∀ j, j < 5 → defaultValue (t_Nd j) = vp_V [.int 0, .int 0, .int 0, .int 0, .int 0] j := fun j hj => by
  rcases (show j = 0 ∨ j = 1 ∨ j = 2 ∨ j = 3 ∨ j = 4 by omega) with rfl | rfl | rfl | rfl | rfl <;> rfl
theorem cl_NL : gCl 4 "PlanText$NeedList" T_NL 2 t_NL := ⟨rfl, i_NL, t_NL_ok, n_NL⟩
theorem bl_NL : ∀ j, j < 2 → defaultValue (t_NL j) = vp_V [.null, .int 0] j := fun j hj => by
  rcases (show j = 0 ∨ j = 1 by omega) with rfl | rfl <;> rfl
theorem cl_Pl : gCl 5 "PlanText$Plan" T_Pl 6 t_Pl := ⟨rfl, i_Pl, t_Pl_ok, n_Pl⟩
theorem bl_Pl : ∀ j, j < 6 → defaultValue (t_Pl j) = vp_V [.int 0, .int 0, .null, .null, .int 0, .null] j := fun j hj => by
  rcases (show j = 0 ∨ j = 1 ∨ j = 2 ∨ j = 3 ∨ j = 4 ∨ j = 5 by omega) with rfl | rfl | rfl | rfl | rfl | rfl <;> rfl
theorem cl_Pr : gCl 6 "PlanText$Printer" T_Pr 2 t_Pr := ⟨rfl, i_Pr, t_Pr_ok, n_Pr⟩
theorem bl_Pr : ∀ j, j < 2 → defaultValue (t_Pr j) = vp_V [.null, .int 0] j := fun j hj => by
  rcases (show j = 0 ∨ j = 1 by omega) with rfl | rfl <;> rfl
theorem cl_Rd : gCl 7 "PlanText$Reader" T_Rd 4 t_Rd := ⟨rfl, i_Rd, t_Rd_ok, n_Rd⟩
theorem bl_Rd : ∀ j, j < 4 → defaultValue (t_Rd j) = vp_V [.null, .int 0, .int 0, .int 0] j := fun j hj => by
  rcases (show j = 0 ∨ j = 1 ∨ j = 2 ∨ j = 3 by omega) with rfl | rfl | rfl | rfl <;> rfl
theorem cl_Sb : gCl 8 "PlanText$Standby" T_Sb 4 t_Sb := ⟨rfl, i_Sb, t_Sb_ok, n_Sb⟩
theorem bl_Sb : ∀ j, j < 4 → defaultValue (t_Sb j) = vp_V [.null, .int 0, .int 0, .int 0] j := fun j hj => by
  rcases (show j = 0 ∨ j = 1 ∨ j = 2 ∨ j = 3 by omega) with rfl | rfl | rfl | rfl <;> rfl
theorem cl_Sx : gCl 9 "PlanText$Stretch" T_Sx 3 t_Sx := ⟨rfl, i_Sx, t_Sx_ok, n_Sx⟩
theorem bl_Sx : ∀ j, j < 3 → defaultValue (t_Sx j) = vp_V [.int 0, .int 0, .int 0] j := fun j hj => by
  rcases (show j = 0 ∨ j = 1 ∨ j = 2 by omega) with rfl | rfl | rfl <;> rfl
theorem cl_Mo : gCl 10 "PlanTextModel" T_Mo 26 t_Mo := ⟨rfl, i_Mo, t_Mo_ok, n_Mo⟩
theorem bl_Mo : ∀ j, j < 26 → defaultValue (t_Mo j) = vp_V [.int 0, .null, .int 0, .int 0, .int 0, .int 0, .int 0, .int 0, .int 0, .null, .null, .null, .null, .null, .null, .null, .null, .null, .null, .null, .null, .null, .null, .int 0, .null, .int 0] j := fun j hj => by
  rcases (show j = 0 ∨ j = 1 ∨ j = 2 ∨ j = 3 ∨ j = 4 ∨ j = 5 ∨ j = 6 ∨ j = 7 ∨ j = 8 ∨ j = 9 ∨ j = 10 ∨ j = 11 ∨ j = 12 ∨ j = 13 ∨ j = 14 ∨ j = 15 ∨ j = 16 ∨ j = 17 ∨ j = 18 ∨ j = 19 ∨ j = 20 ∨ j = 21 ∨ j = 22 ∨ j = 23 ∨ j = 24 ∨ j = 25 by omega) with rfl | rfl | rfl | rfl | rfl | rfl | rfl | rfl | rfl | rfl | rfl | rfl | rfl | rfl | rfl | rfl | rfl | rfl | rfl | rfl | rfl | rfl | rfl | rfl | rfl | rfl <;> rfl
theorem at_IllegalArgumentException_108 : ∀ w ∈ vx_atS "PlanText" 108 "java/lang/IllegalArgumentException" gNames, w ∈ lw_good ∨ w ∈ gNest ++ (gDecl ++ gCast) := by
  have h : (vx_atS "PlanText" 108 "java/lang/IllegalArgumentException" gNames).all (fun w => (decide (w ∈ lw_tbl) && goodWord w) || decide (w ∈ gNest ++ (gDecl ++ gCast))) = true := by decide +kernel
  intro w hw
  have h1 := List.all_eq_true.mp h w hw
  rw [Bool.or_eq_true, Bool.and_eq_true, decide_eq_true_eq, decide_eq_true_eq] at h1
  rcases h1 with ⟨h2, h3⟩ | h2
  · exact Or.inl (List.mem_filter.mpr ⟨h2, h3⟩)
  · exact Or.inr h2
theorem ot_IllegalArgumentException_108 : ∀ w ∈ vx_atS "PlanText" 108 "java/lang/IllegalArgumentException" gNames, vx_ot w = true := fun w hw => List.all_eq_true.mp (show (vx_atS "PlanText" 108 "java/lang/IllegalArgumentException" gNames).all vx_ot = true by decide +kernel) w hw
theorem at_IllegalStateException_91 : ∀ w ∈ vx_atS "PlanText" 91 "java/lang/IllegalStateException" gNames, w ∈ lw_good ∨ w ∈ gNest ++ (gDecl ++ gCast) := by
  have h : (vx_atS "PlanText" 91 "java/lang/IllegalStateException" gNames).all (fun w => (decide (w ∈ lw_tbl) && goodWord w) || decide (w ∈ gNest ++ (gDecl ++ gCast))) = true := by decide +kernel
  intro w hw
  have h1 := List.all_eq_true.mp h w hw
  rw [Bool.or_eq_true, Bool.and_eq_true, decide_eq_true_eq, decide_eq_true_eq] at h1
  rcases h1 with ⟨h2, h3⟩ | h2
  · exact Or.inl (List.mem_filter.mpr ⟨h2, h3⟩)
  · exact Or.inr h2
theorem ot_IllegalStateException_91 : ∀ w ∈ vx_atS "PlanText" 91 "java/lang/IllegalStateException" gNames, vx_ot w = true := fun w hw => List.all_eq_true.mp (show (vx_atS "PlanText" 91 "java/lang/IllegalStateException" gNames).all vx_ot = true by decide +kernel) w hw
theorem at_IndexOutOfBoundsException_64 : ∀ w ∈ vx_atS "PlanText" 64 "java/lang/IndexOutOfBoundsException" gNames, w ∈ lw_good ∨ w ∈ gNest ++ (gDecl ++ gCast) := by
  have h : (vx_atS "PlanText" 64 "java/lang/IndexOutOfBoundsException" gNames).all (fun w => (decide (w ∈ lw_tbl) && goodWord w) || decide (w ∈ gNest ++ (gDecl ++ gCast))) = true := by decide +kernel
  intro w hw
  have h1 := List.all_eq_true.mp h w hw
  rw [Bool.or_eq_true, Bool.and_eq_true, decide_eq_true_eq, decide_eq_true_eq] at h1
  rcases h1 with ⟨h2, h3⟩ | h2
  · exact Or.inl (List.mem_filter.mpr ⟨h2, h3⟩)
  · exact Or.inr h2
theorem ot_IndexOutOfBoundsException_64 : ∀ w ∈ vx_atS "PlanText" 64 "java/lang/IndexOutOfBoundsException" gNames, vx_ot w = true := fun w hw => List.all_eq_true.mp (show (vx_atS "PlanText" 64 "java/lang/IndexOutOfBoundsException" gNames).all vx_ot = true by decide +kernel) w hw
theorem at_UnsupportedOperationException_71 : ∀ w ∈ vx_atS "PlanText" 71 "java/lang/UnsupportedOperationException" gNames, w ∈ lw_good ∨ w ∈ gNest ++ (gDecl ++ gCast) := by
  have h : (vx_atS "PlanText" 71 "java/lang/UnsupportedOperationException" gNames).all (fun w => (decide (w ∈ lw_tbl) && goodWord w) || decide (w ∈ gNest ++ (gDecl ++ gCast))) = true := by decide +kernel
  intro w hw
  have h1 := List.all_eq_true.mp h w hw
  rw [Bool.or_eq_true, Bool.and_eq_true, decide_eq_true_eq, decide_eq_true_eq] at h1
  rcases h1 with ⟨h2, h3⟩ | h2
  · exact Or.inl (List.mem_filter.mpr ⟨h2, h3⟩)
  · exact Or.inr h2
theorem ot_UnsupportedOperationException_71 : ∀ w ∈ vx_atS "PlanText" 71 "java/lang/UnsupportedOperationException" gNames, vx_ot w = true := fun w hw => List.all_eq_true.mp (show (vx_atS "PlanText" 71 "java/lang/UnsupportedOperationException" gNames).all vx_ot = true by decide +kernel) w hw
section GMN
variable {D : va_G} {cT : Nat → ClassId} {H0 : Heap} {l : Launch} {p : Program} {e : Env} {R : Room} {s : State} {m : MethodId} {args : Array Value} {below : List Frame} {meth : Method} {c : Code} {Q : State → Prop} {S0 S : gS}
variable {cc : ByteArray} {nL : Nat} {own : String} {fr lo : Nat} {pc : Nat} {ls : Array Slot} {rest : List Value}
theorem g_min (X : gX D cT p R s m args meth c cc nL own fr lo S0) {index : Nat} (hlink : Cond.methodLink own index Lib.Math.min.name ∈ lw_good) (hstat : Cond.static Lib.Math.min.name ∈ lw_good) (hini : Cond.initialized "java/lang/Math" ∈ lw_good) (hcode : Cond.code Lib.Math.min.name Lib.Math.min.code 2 (some .int) ∈ lw_good) (hsize : ls.size = nL) {x y : Int32} (hdg : decode cc pc = .ok (.invokestatic index, 3)) (hR : 1 ≤ fr ∧ (rest.map fun v => v.category).sum + 13 ≤ lo)
    (kk : gV D cT H0 p l e R s m args below meth c Q S0 S (F0 m (pc + 3) ls (.int (if y < x then y else x) :: rest))) : gV D cT H0 p l e R s m args below meth c Q S0 S (F0 m pc ls (.int y :: .int x :: rest)) := by
  obtain ⟨hx, hb', hml, hown, hts, hK, hlk, hRc, hRs, hRf, hRl⟩ := X
  intro H locs hA h2 h3 h4
  have z1 := hA.1.2.1
  have z2 := hA.1.2.2
  exact va_mmin hx hb' (hml.trans hsize.symm) hown (hts _ hlink) (hts _ hstat) (hts _ hini) (hts _ hcode) (by rw [hRf]; exact hR.1) (by rw [hRl]; exact hR.2) (by rw [hRc]; omega) (by rw [hRs]; omega) hdg (kk H locs hA h2 h3 h4)
end GMN
