section
-- ===== PART A: goes FIRST, ahead of the names: the tables' words, and 'selects' of the private methods out of them =====
/-- a private method of a class that the tables say can be made, by its rows of tables_1 -/
def lw_okq (q : MethodName × Nat) : Prop := (q.1.cls ≠ "java/lang/invoke/MethodHandle" ∧ q.1.cls ≠ "java/lang/invoke/VarHandle") ∧ Cond.instantiable q.1.cls q.2 ∈ tables_1 ∧ Cond.privateMethod q.1 ∈ tables_1 ∧ Cond.instanceMethod q.1 ∈ tables_1
theorem lw_p0 : lw_okq (⟨"java/lang/Throwable", "fillInStackTrace", "(I)Ljava/lang/Throwable;"⟩, 6) := ⟨⟨by decide +kernel, by decide +kernel⟩, List.mem_of_getElem? (i := 185) (by decide +kernel), List.mem_of_getElem? (i := 183) (by decide +kernel), List.mem_of_getElem? (i := 184) (by decide +kernel)⟩
theorem lw_p1 : lw_okq (⟨"PlanText$Reader", "nextSign", "()I"⟩, 4) := ⟨⟨by decide +kernel, by decide +kernel⟩, List.mem_of_getElem? (i := 245) (by decide +kernel), List.mem_of_getElem? (i := 274) (by decide +kernel), List.mem_of_getElem? (i := 275) (by decide +kernel)⟩
theorem lw_p2 : lw_okq (⟨"PlanText$Reader", "takes", "(C)Z"⟩, 4) := ⟨⟨by decide +kernel, by decide +kernel⟩, List.mem_of_getElem? (i := 245) (by decide +kernel), List.mem_of_getElem? (i := 278) (by decide +kernel), List.mem_of_getElem? (i := 279) (by decide +kernel)⟩
theorem lw_p3 : lw_okq (⟨"PlanText$Reader", "readPlan", "(LPlanText$Edition;)V"⟩, 4) := ⟨⟨by decide +kernel, by decide +kernel⟩, List.mem_of_getElem? (i := 245) (by decide +kernel), List.mem_of_getElem? (i := 282) (by decide +kernel), List.mem_of_getElem? (i := 283) (by decide +kernel)⟩
theorem lw_p4 : lw_okq (⟨"PlanText$Reader", "readNumber", "(II)I"⟩, 4) := ⟨⟨by decide +kernel, by decide +kernel⟩, List.mem_of_getElem? (i := 245) (by decide +kernel), List.mem_of_getElem? (i := 286) (by decide +kernel), List.mem_of_getElem? (i := 287) (by decide +kernel)⟩
theorem lw_p5 : lw_okq (⟨"PlanText$Reader", "fail", "(I)V"⟩, 4) := ⟨⟨by decide +kernel, by decide +kernel⟩, List.mem_of_getElem? (i := 245) (by decide +kernel), List.mem_of_getElem? (i := 293) (by decide +kernel), List.mem_of_getElem? (i := 294) (by decide +kernel)⟩
theorem lw_p6 : lw_okq (⟨"PlanText$Reader", "byteAt", "(I)I"⟩, 4) := ⟨⟨by decide +kernel, by decide +kernel⟩, List.mem_of_getElem? (i := 245) (by decide +kernel), List.mem_of_getElem? (i := 297) (by decide +kernel), List.mem_of_getElem? (i := 298) (by decide +kernel)⟩
theorem lw_p7 : lw_okq (⟨"PlanText$Reader", "expect", "(C)V"⟩, 4) := ⟨⟨by decide +kernel, by decide +kernel⟩, List.mem_of_getElem? (i := 245) (by decide +kernel), List.mem_of_getElem? (i := 305) (by decide +kernel), List.mem_of_getElem? (i := 306) (by decide +kernel)⟩
theorem lw_p8 : lw_okq (⟨"PlanText$Reader", "readStretch", "()LPlanText$Stretch;"⟩, 4) := ⟨⟨by decide +kernel, by decide +kernel⟩, List.mem_of_getElem? (i := 245) (by decide +kernel), List.mem_of_getElem? (i := 309) (by decide +kernel), List.mem_of_getElem? (i := 310) (by decide +kernel)⟩
theorem lw_p9 : lw_okq (⟨"PlanText$Reader", "readHours", "()LPlanText$Hours;"⟩, 4) := ⟨⟨by decide +kernel, by decide +kernel⟩, List.mem_of_getElem? (i := 245) (by decide +kernel), List.mem_of_getElem? (i := 335) (by decide +kernel), List.mem_of_getElem? (i := 336) (by decide +kernel)⟩
theorem lw_p10 : lw_okq (⟨"PlanText$Reader", "readNeeds", "()LPlanText$NeedList;"⟩, 4) := ⟨⟨by decide +kernel, by decide +kernel⟩, List.mem_of_getElem? (i := 245) (by decide +kernel), List.mem_of_getElem? (i := 368) (by decide +kernel), List.mem_of_getElem? (i := 369) (by decide +kernel)⟩
theorem lw_p11 : lw_okq (⟨"PlanText$Reader", "readNeed", "()LPlanText$Need;"⟩, 4) := ⟨⟨by decide +kernel, by decide +kernel⟩, List.mem_of_getElem? (i := 245) (by decide +kernel), List.mem_of_getElem? (i := 374) (by decide +kernel), List.mem_of_getElem? (i := 375) (by decide +kernel)⟩
theorem lw_p12 : lw_okq (⟨"PlanText$Reader", "readSkill", "(I)I"⟩, 4) := ⟨⟨by decide +kernel, by decide +kernel⟩, List.mem_of_getElem? (i := 245) (by decide +kernel), List.mem_of_getElem? (i := 378) (by decide +kernel), List.mem_of_getElem? (i := 379) (by decide +kernel)⟩
theorem lw_p13 : lw_okq (⟨"PlanText$Reader", "readDefault", "(LPlanText$Edition;)V"⟩, 4) := ⟨⟨by decide +kernel, by decide +kernel⟩, List.mem_of_getElem? (i := 245) (by decide +kernel), List.mem_of_getElem? (i := 457) (by decide +kernel), List.mem_of_getElem? (i := 458) (by decide +kernel)⟩
theorem lw_p14 : lw_okq (⟨"PlanText$Reader", "readStandby", "(LPlanText$Edition;)V"⟩, 4) := ⟨⟨by decide +kernel, by decide +kernel⟩, List.mem_of_getElem? (i := 245) (by decide +kernel), List.mem_of_getElem? (i := 473) (by decide +kernel), List.mem_of_getElem? (i := 474) (by decide +kernel)⟩
theorem lw_p15 : lw_okq (⟨"PlanText", "editionOf", "(I)LPlanText$Edition;"⟩, 11) := ⟨⟨by decide +kernel, by decide +kernel⟩, List.mem_of_getElem? (i := 21) (by decide +kernel), List.mem_of_getElem? (i := 558) (by decide +kernel), List.mem_of_getElem? (i := 559) (by decide +kernel)⟩
def lw_privs_1 : List (MethodName × Nat) := [(⟨"java/lang/Throwable", "fillInStackTrace", "(I)Ljava/lang/Throwable;"⟩, 6), (⟨"PlanText$Reader", "nextSign", "()I"⟩, 4), (⟨"PlanText$Reader", "takes", "(C)Z"⟩, 4), (⟨"PlanText$Reader", "readPlan", "(LPlanText$Edition;)V"⟩, 4), (⟨"PlanText$Reader", "readNumber", "(II)I"⟩, 4), (⟨"PlanText$Reader", "fail", "(I)V"⟩, 4), (⟨"PlanText$Reader", "byteAt", "(I)I"⟩, 4), (⟨"PlanText$Reader", "expect", "(C)V"⟩, 4), (⟨"PlanText$Reader", "readStretch", "()LPlanText$Stretch;"⟩, 4), (⟨"PlanText$Reader", "readHours", "()LPlanText$Hours;"⟩, 4), (⟨"PlanText$Reader", "readNeeds", "()LPlanText$NeedList;"⟩, 4), (⟨"PlanText$Reader", "readNeed", "()LPlanText$Need;"⟩, 4), (⟨"PlanText$Reader", "readSkill", "(I)I"⟩, 4), (⟨"PlanText$Reader", "readDefault", "(LPlanText$Edition;)V"⟩, 4), (⟨"PlanText$Reader", "readStandby", "(LPlanText$Edition;)V"⟩, 4), (⟨"PlanText", "editionOf", "(I)LPlanText$Edition;"⟩, 11)]
theorem lw_r1 : ∀ q ∈ lw_privs_1, lw_okq q := List.forall_mem_cons.mpr ⟨lw_p0, List.forall_mem_cons.mpr ⟨lw_p1, List.forall_mem_cons.mpr ⟨lw_p2, List.forall_mem_cons.mpr ⟨lw_p3, List.forall_mem_cons.mpr ⟨lw_p4, List.forall_mem_cons.mpr ⟨lw_p5, List.forall_mem_cons.mpr ⟨lw_p6, List.forall_mem_cons.mpr ⟨lw_p7, List.forall_mem_cons.mpr ⟨lw_p8, List.forall_mem_cons.mpr ⟨lw_p9, List.forall_mem_cons.mpr ⟨lw_p10, List.forall_mem_cons.mpr ⟨lw_p11, List.forall_mem_cons.mpr ⟨lw_p12, List.forall_mem_cons.mpr ⟨lw_p13, List.forall_mem_cons.mpr ⟨lw_p14, List.forall_mem_cons.mpr ⟨lw_p15, fun _ h => absurd h List.not_mem_nil⟩⟩⟩⟩⟩⟩⟩⟩⟩⟩⟩⟩⟩⟩⟩⟩
theorem lw_p16 : lw_okq (⟨"PlanText$Edition", "isNeverMet", "(LPlanText$Plan;)Z"⟩, 7) := ⟨⟨by decide +kernel, by decide +kernel⟩, List.mem_of_getElem? (i := 30) (by decide +kernel), List.mem_of_getElem? (i := 655) (by decide +kernel), List.mem_of_getElem? (i := 656) (by decide +kernel)⟩
theorem lw_p17 : lw_okq (⟨"PlanText$Edition", "hoursLeft", "(LPlanText$Plan;I)I"⟩, 7) := ⟨⟨by decide +kernel, by decide +kernel⟩, List.mem_of_getElem? (i := 30) (by decide +kernel), List.mem_of_getElem? (i := 659) (by decide +kernel), List.mem_of_getElem? (i := 660) (by decide +kernel)⟩
theorem lw_p18 : lw_okq (⟨"PlanText$Printer", "writePlan", "(LPlanText$Plan;)V"⟩, 2) := ⟨⟨by decide +kernel, by decide +kernel⟩, List.mem_of_getElem? (i := 85) (by decide +kernel), List.mem_of_getElem? (i := 706) (by decide +kernel), List.mem_of_getElem? (i := 707) (by decide +kernel)⟩
theorem lw_p19 : lw_okq (⟨"PlanText$Printer", "writeNumber", "(CI)V"⟩, 2) := ⟨⟨by decide +kernel, by decide +kernel⟩, List.mem_of_getElem? (i := 85) (by decide +kernel), List.mem_of_getElem? (i := 710) (by decide +kernel), List.mem_of_getElem? (i := 711) (by decide +kernel)⟩
theorem lw_p20 : lw_okq (⟨"PlanText$Printer", "write", "(I)V"⟩, 2) := ⟨⟨by decide +kernel, by decide +kernel⟩, List.mem_of_getElem? (i := 85) (by decide +kernel), List.mem_of_getElem? (i := 714) (by decide +kernel), List.mem_of_getElem? (i := 715) (by decide +kernel)⟩
theorem lw_p21 : lw_okq (⟨"PlanText$Printer", "writeHours", "(LPlanText$Hours;)V"⟩, 2) := ⟨⟨by decide +kernel, by decide +kernel⟩, List.mem_of_getElem? (i := 85) (by decide +kernel), List.mem_of_getElem? (i := 719) (by decide +kernel), List.mem_of_getElem? (i := 720) (by decide +kernel)⟩
theorem lw_p22 : lw_okq (⟨"PlanText$Printer", "writeNeeds", "(LPlanText$NeedList;)V"⟩, 2) := ⟨⟨by decide +kernel, by decide +kernel⟩, List.mem_of_getElem? (i := 85) (by decide +kernel), List.mem_of_getElem? (i := 723) (by decide +kernel), List.mem_of_getElem? (i := 724) (by decide +kernel)⟩
theorem lw_p23 : lw_okq (⟨"PlanText$Printer", "writeNeed", "(LPlanText$Need;)V"⟩, 2) := ⟨⟨by decide +kernel, by decide +kernel⟩, List.mem_of_getElem? (i := 85) (by decide +kernel), List.mem_of_getElem? (i := 728) (by decide +kernel), List.mem_of_getElem? (i := 729) (by decide +kernel)⟩
theorem lw_p24 : lw_okq (⟨"PlanText$Printer", "writeSkill", "(I)V"⟩, 2) := ⟨⟨by decide +kernel, by decide +kernel⟩, List.mem_of_getElem? (i := 85) (by decide +kernel), List.mem_of_getElem? (i := 732) (by decide +kernel), List.mem_of_getElem? (i := 733) (by decide +kernel)⟩
theorem lw_p25 : lw_okq (⟨"PlanText$Printer", "writeStandby", "(LPlanText$Standby;)V"⟩, 2) := ⟨⟨by decide +kernel, by decide +kernel⟩, List.mem_of_getElem? (i := 85) (by decide +kernel), List.mem_of_getElem? (i := 738) (by decide +kernel), List.mem_of_getElem? (i := 739) (by decide +kernel)⟩
theorem lw_p26 : lw_okq (⟨"PlanTextModel", "throwing", "(ZZZ)Z"⟩, 26) := ⟨⟨by decide +kernel, by decide +kernel⟩, List.mem_of_getElem? (i := 760) (by decide +kernel), List.mem_of_getElem? (i := 857) (by decide +kernel), List.mem_of_getElem? (i := 858) (by decide +kernel)⟩
theorem lw_p27 : lw_okq (⟨"PlanTextModel", "readAll", "()V"⟩, 26) := ⟨⟨by decide +kernel, by decide +kernel⟩, List.mem_of_getElem? (i := 760) (by decide +kernel), List.mem_of_getElem? (i := 865) (by decide +kernel), List.mem_of_getElem? (i := 866) (by decide +kernel)⟩
theorem lw_p28 : lw_okq (⟨"PlanTextModel", "see", "()I"⟩, 26) := ⟨⟨by decide +kernel, by decide +kernel⟩, List.mem_of_getElem? (i := 760) (by decide +kernel), List.mem_of_getElem? (i := 869) (by decide +kernel), List.mem_of_getElem? (i := 870) (by decide +kernel)⟩
theorem lw_p29 : lw_okq (⟨"PlanTextModel", "fail", "(I)V"⟩, 26) := ⟨⟨by decide +kernel, by decide +kernel⟩, List.mem_of_getElem? (i := 760) (by decide +kernel), List.mem_of_getElem? (i := 873) (by decide +kernel), List.mem_of_getElem? (i := 874) (by decide +kernel)⟩
theorem lw_p30 : lw_okq (⟨"PlanTextModel", "planRow", "()V"⟩, 26) := ⟨⟨by decide +kernel, by decide +kernel⟩, List.mem_of_getElem? (i := 760) (by decide +kernel), List.mem_of_getElem? (i := 877) (by decide +kernel), List.mem_of_getElem? (i := 878) (by decide +kernel)⟩
theorem lw_p31 : lw_okq (⟨"PlanTextModel", "number", "(II)I"⟩, 26) := ⟨⟨by decide +kernel, by decide +kernel⟩, List.mem_of_getElem? (i := 760) (by decide +kernel), List.mem_of_getElem? (i := 881) (by decide +kernel), List.mem_of_getElem? (i := 882) (by decide +kernel)⟩
def lw_privs_2 : List (MethodName × Nat) := [(⟨"PlanText$Edition", "isNeverMet", "(LPlanText$Plan;)Z"⟩, 7), (⟨"PlanText$Edition", "hoursLeft", "(LPlanText$Plan;I)I"⟩, 7), (⟨"PlanText$Printer", "writePlan", "(LPlanText$Plan;)V"⟩, 2), (⟨"PlanText$Printer", "writeNumber", "(CI)V"⟩, 2), (⟨"PlanText$Printer", "write", "(I)V"⟩, 2), (⟨"PlanText$Printer", "writeHours", "(LPlanText$Hours;)V"⟩, 2), (⟨"PlanText$Printer", "writeNeeds", "(LPlanText$NeedList;)V"⟩, 2), (⟨"PlanText$Printer", "writeNeed", "(LPlanText$Need;)V"⟩, 2), (⟨"PlanText$Printer", "writeSkill", "(I)V"⟩, 2), (⟨"PlanText$Printer", "writeStandby", "(LPlanText$Standby;)V"⟩, 2), (⟨"PlanTextModel", "throwing", "(ZZZ)Z"⟩, 26), (⟨"PlanTextModel", "readAll", "()V"⟩, 26), (⟨"PlanTextModel", "see", "()I"⟩, 26), (⟨"PlanTextModel", "fail", "(I)V"⟩, 26), (⟨"PlanTextModel", "planRow", "()V"⟩, 26), (⟨"PlanTextModel", "number", "(II)I"⟩, 26)]
theorem lw_r2 : ∀ q ∈ lw_privs_2, lw_okq q := List.forall_mem_cons.mpr ⟨lw_p16, List.forall_mem_cons.mpr ⟨lw_p17, List.forall_mem_cons.mpr ⟨lw_p18, List.forall_mem_cons.mpr ⟨lw_p19, List.forall_mem_cons.mpr ⟨lw_p20, List.forall_mem_cons.mpr ⟨lw_p21, List.forall_mem_cons.mpr ⟨lw_p22, List.forall_mem_cons.mpr ⟨lw_p23, List.forall_mem_cons.mpr ⟨lw_p24, List.forall_mem_cons.mpr ⟨lw_p25, List.forall_mem_cons.mpr ⟨lw_p26, List.forall_mem_cons.mpr ⟨lw_p27, List.forall_mem_cons.mpr ⟨lw_p28, List.forall_mem_cons.mpr ⟨lw_p29, List.forall_mem_cons.mpr ⟨lw_p30, List.forall_mem_cons.mpr ⟨lw_p31, fun _ h => absurd h List.not_mem_nil⟩⟩⟩⟩⟩⟩⟩⟩⟩⟩⟩⟩⟩⟩⟩⟩
theorem lw_p32 : lw_okq (⟨"PlanTextModel", "isDigit", "(I)Z"⟩, 26) := ⟨⟨by decide +kernel, by decide +kernel⟩, List.mem_of_getElem? (i := 760) (by decide +kernel), List.mem_of_getElem? (i := 885) (by decide +kernel), List.mem_of_getElem? (i := 886) (by decide +kernel)⟩
theorem lw_p33 : lw_okq (⟨"PlanTextModel", "expect", "(I)V"⟩, 26) := ⟨⟨by decide +kernel, by decide +kernel⟩, List.mem_of_getElem? (i := 760) (by decide +kernel), List.mem_of_getElem? (i := 889) (by decide +kernel), List.mem_of_getElem? (i := 890) (by decide +kernel)⟩
theorem lw_p34 : lw_okq (⟨"PlanTextModel", "goesOn", "(I)Z"⟩, 26) := ⟨⟨by decide +kernel, by decide +kernel⟩, List.mem_of_getElem? (i := 760) (by decide +kernel), List.mem_of_getElem? (i := 893) (by decide +kernel), List.mem_of_getElem? (i := 894) (by decide +kernel)⟩
theorem lw_p35 : lw_okq (⟨"PlanTextModel", "hours", "(I)V"⟩, 26) := ⟨⟨by decide +kernel, by decide +kernel⟩, List.mem_of_getElem? (i := 760) (by decide +kernel), List.mem_of_getElem? (i := 897) (by decide +kernel), List.mem_of_getElem? (i := 898) (by decide +kernel)⟩
theorem lw_p36 : lw_okq (⟨"PlanTextModel", "needsOf", "(I)V"⟩, 26) := ⟨⟨by decide +kernel, by decide +kernel⟩, List.mem_of_getElem? (i := 760) (by decide +kernel), List.mem_of_getElem? (i := 901) (by decide +kernel), List.mem_of_getElem? (i := 902) (by decide +kernel)⟩
theorem lw_p37 : lw_okq (⟨"PlanTextModel", "oneNeed", "(I)V"⟩, 26) := ⟨⟨by decide +kernel, by decide +kernel⟩, List.mem_of_getElem? (i := 760) (by decide +kernel), List.mem_of_getElem? (i := 905) (by decide +kernel), List.mem_of_getElem? (i := 906) (by decide +kernel)⟩
theorem lw_p38 : lw_okq (⟨"PlanTextModel", "letter", "()I"⟩, 26) := ⟨⟨by decide +kernel, by decide +kernel⟩, List.mem_of_getElem? (i := 760) (by decide +kernel), List.mem_of_getElem? (i := 909) (by decide +kernel), List.mem_of_getElem? (i := 910) (by decide +kernel)⟩
theorem lw_p39 : lw_okq (⟨"PlanTextModel", "defaultRow", "()V"⟩, 26) := ⟨⟨by decide +kernel, by decide +kernel⟩, List.mem_of_getElem? (i := 760) (by decide +kernel), List.mem_of_getElem? (i := 913) (by decide +kernel), List.mem_of_getElem? (i := 914) (by decide +kernel)⟩
theorem lw_p40 : lw_okq (⟨"PlanTextModel", "standbyRow", "()V"⟩, 26) := ⟨⟨by decide +kernel, by decide +kernel⟩, List.mem_of_getElem? (i := 760) (by decide +kernel), List.mem_of_getElem? (i := 917) (by decide +kernel), List.mem_of_getElem? (i := 918) (by decide +kernel)⟩
theorem lw_p41 : lw_okq (⟨"PlanTextModel", "plansOf", "(I)I"⟩, 26) := ⟨⟨by decide +kernel, by decide +kernel⟩, List.mem_of_getElem? (i := 760) (by decide +kernel), List.mem_of_getElem? (i := 921) (by decide +kernel), List.mem_of_getElem? (i := 922) (by decide +kernel)⟩
theorem lw_p42 : lw_okq (⟨"PlanTextModel", "editionOf", "(I)I"⟩, 26) := ⟨⟨by decide +kernel, by decide +kernel⟩, List.mem_of_getElem? (i := 760) (by decide +kernel), List.mem_of_getElem? (i := 940) (by decide +kernel), List.mem_of_getElem? (i := 941) (by decide +kernel)⟩
theorem lw_p43 : lw_okq (⟨"PlanTextModel", "best", "(IIIII)I"⟩, 26) := ⟨⟨by decide +kernel, by decide +kernel⟩, List.mem_of_getElem? (i := 760) (by decide +kernel), List.mem_of_getElem? (i := 944) (by decide +kernel), List.mem_of_getElem? (i := 945) (by decide +kernel)⟩
theorem lw_p44 : lw_okq (⟨"PlanTextModel", "fits", "(IIIII)Z"⟩, 26) := ⟨⟨by decide +kernel, by decide +kernel⟩, List.mem_of_getElem? (i := 760) (by decide +kernel), List.mem_of_getElem? (i := 948) (by decide +kernel), List.mem_of_getElem? (i := 949) (by decide +kernel)⟩
theorem lw_p45 : lw_okq (⟨"PlanTextModel", "clashes", "(II)Z"⟩, 26) := ⟨⟨by decide +kernel, by decide +kernel⟩, List.mem_of_getElem? (i := 760) (by decide +kernel), List.mem_of_getElem? (i := 967) (by decide +kernel), List.mem_of_getElem? (i := 968) (by decide +kernel)⟩
theorem lw_p46 : lw_okq (⟨"PlanTextModel", "isMet", "(II)Z"⟩, 26) := ⟨⟨by decide +kernel, by decide +kernel⟩, List.mem_of_getElem? (i := 760) (by decide +kernel), List.mem_of_getElem? (i := 975) (by decide +kernel), List.mem_of_getElem? (i := 976) (by decide +kernel)⟩
theorem lw_p47 : lw_okq (⟨"PlanTextModel", "free", "(I)I"⟩, 26) := ⟨⟨by decide +kernel, by decide +kernel⟩, List.mem_of_getElem? (i := 760) (by decide +kernel), List.mem_of_getElem? (i := 979) (by decide +kernel), List.mem_of_getElem? (i := 980) (by decide +kernel)⟩
def lw_privs_3 : List (MethodName × Nat) := [(⟨"PlanTextModel", "isDigit", "(I)Z"⟩, 26), (⟨"PlanTextModel", "expect", "(I)V"⟩, 26), (⟨"PlanTextModel", "goesOn", "(I)Z"⟩, 26), (⟨"PlanTextModel", "hours", "(I)V"⟩, 26), (⟨"PlanTextModel", "needsOf", "(I)V"⟩, 26), (⟨"PlanTextModel", "oneNeed", "(I)V"⟩, 26), (⟨"PlanTextModel", "letter", "()I"⟩, 26), (⟨"PlanTextModel", "defaultRow", "()V"⟩, 26), (⟨"PlanTextModel", "standbyRow", "()V"⟩, 26), (⟨"PlanTextModel", "plansOf", "(I)I"⟩, 26), (⟨"PlanTextModel", "editionOf", "(I)I"⟩, 26), (⟨"PlanTextModel", "best", "(IIIII)I"⟩, 26), (⟨"PlanTextModel", "fits", "(IIIII)Z"⟩, 26), (⟨"PlanTextModel", "clashes", "(II)Z"⟩, 26), (⟨"PlanTextModel", "isMet", "(II)Z"⟩, 26), (⟨"PlanTextModel", "free", "(I)I"⟩, 26)]
theorem lw_r3 : ∀ q ∈ lw_privs_3, lw_okq q := List.forall_mem_cons.mpr ⟨lw_p32, List.forall_mem_cons.mpr ⟨lw_p33, List.forall_mem_cons.mpr ⟨lw_p34, List.forall_mem_cons.mpr ⟨lw_p35, List.forall_mem_cons.mpr ⟨lw_p36, List.forall_mem_cons.mpr ⟨lw_p37, List.forall_mem_cons.mpr ⟨lw_p38, List.forall_mem_cons.mpr ⟨lw_p39, List.forall_mem_cons.mpr ⟨lw_p40, List.forall_mem_cons.mpr ⟨lw_p41, List.forall_mem_cons.mpr ⟨lw_p42, List.forall_mem_cons.mpr ⟨lw_p43, List.forall_mem_cons.mpr ⟨lw_p44, List.forall_mem_cons.mpr ⟨lw_p45, List.forall_mem_cons.mpr ⟨lw_p46, List.forall_mem_cons.mpr ⟨lw_p47, fun _ h => absurd h List.not_mem_nil⟩⟩⟩⟩⟩⟩⟩⟩⟩⟩⟩⟩⟩⟩⟩⟩
theorem lw_p48 : lw_okq (⟨"PlanTextModel", "isShort", "(I)Z"⟩, 26) := ⟨⟨by decide +kernel, by decide +kernel⟩, List.mem_of_getElem? (i := 760) (by decide +kernel), List.mem_of_getElem? (i := 987) (by decide +kernel), List.mem_of_getElem? (i := 988) (by decide +kernel)⟩
theorem lw_p49 : lw_okq (⟨"PlanTextModel", "putPlan", "(I)V"⟩, 26) := ⟨⟨by decide +kernel, by decide +kernel⟩, List.mem_of_getElem? (i := 760) (by decide +kernel), List.mem_of_getElem? (i := 995) (by decide +kernel), List.mem_of_getElem? (i := 996) (by decide +kernel)⟩
theorem lw_p50 : lw_okq (⟨"PlanTextModel", "putNumber", "(II)V"⟩, 26) := ⟨⟨by decide +kernel, by decide +kernel⟩, List.mem_of_getElem? (i := 760) (by decide +kernel), List.mem_of_getElem? (i := 999) (by decide +kernel), List.mem_of_getElem? (i := 1000) (by decide +kernel)⟩
theorem lw_p51 : lw_okq (⟨"PlanTextModel", "put", "(I)V"⟩, 26) := ⟨⟨by decide +kernel, by decide +kernel⟩, List.mem_of_getElem? (i := 760) (by decide +kernel), List.mem_of_getElem? (i := 1003) (by decide +kernel), List.mem_of_getElem? (i := 1004) (by decide +kernel)⟩
theorem lw_p52 : lw_okq (⟨"PlanTextModel", "putNeeds", "(I)V"⟩, 26) := ⟨⟨by decide +kernel, by decide +kernel⟩, List.mem_of_getElem? (i := 760) (by decide +kernel), List.mem_of_getElem? (i := 1007) (by decide +kernel), List.mem_of_getElem? (i := 1008) (by decide +kernel)⟩
def lw_privs_4 : List (MethodName × Nat) := [(⟨"PlanTextModel", "isShort", "(I)Z"⟩, 26), (⟨"PlanTextModel", "putPlan", "(I)V"⟩, 26), (⟨"PlanTextModel", "putNumber", "(II)V"⟩, 26), (⟨"PlanTextModel", "put", "(I)V"⟩, 26), (⟨"PlanTextModel", "putNeeds", "(I)V"⟩, 26)]
theorem lw_r4 : ∀ q ∈ lw_privs_4, lw_okq q := List.forall_mem_cons.mpr ⟨lw_p48, List.forall_mem_cons.mpr ⟨lw_p49, List.forall_mem_cons.mpr ⟨lw_p50, List.forall_mem_cons.mpr ⟨lw_p51, List.forall_mem_cons.mpr ⟨lw_p52, fun _ h => absurd h List.not_mem_nil⟩⟩⟩⟩⟩
def lw_privs : List (MethodName × Nat) := lw_privs_1 ++ (lw_privs_2 ++ (lw_privs_3 ++ (lw_privs_4)))
def lw_tbl : List Cond := k2_sels lw_privs ++ tables_1
theorem lw_privs_ok : ∀ q ∈ lw_privs, lw_okq q := by
  show ∀ q ∈ lw_privs_1 ++ (lw_privs_2 ++ (lw_privs_3 ++ (lw_privs_4))), lw_okq q
  exact List.forall_mem_append.mpr ⟨lw_r1, List.forall_mem_append.mpr ⟨lw_r2, List.forall_mem_append.mpr ⟨lw_r3, lw_r4⟩⟩⟩
def lw_good : List Cond := lw_tbl.filter goodWord
end
section
def T_PT : u_T := fun k => match k with
  | 0 => ("PlanText", "tape", "[B", true)
  | 1 => ("PlanText", "tapeLength", "I", false)
  | 2 => ("PlanText", "wrongPlace", "I", false)
  | 3 => ("PlanText", "units", "[I", true)
  | 4 => ("PlanText", "editions", "[LPlanText$Edition;", true)
  | 5 => ("PlanText", "editionCount", "I", false)
  | 6 => ("PlanText", "noRows", "LPlanText$Edition;", true)
  | 7 => ("PlanText", "latest", "LPlanText$Edition;", false)
  | 8 => ("PlanText", "noNeeds", "LPlanText$NeedList;", true)
  | 9 => ("PlanText", "toldNeeds", "LPlanText$NeedList;", false)
  | _ => ("PlanText", "printer", "LPlanText$Printer;", true)
def t_PT : Nat → FieldType := fun k => match k with
  | 0 => .array .byte
  | 1 => .int
  | 2 => .int
  | 3 => .array .int
  | 4 => .array (.object "PlanText$Edition")
  | 5 => .int
  | 6 => .object "PlanText$Edition"
  | 7 => .object "PlanText$Edition"
  | 8 => .object "PlanText$NeedList"
  | 9 => .object "PlanText$NeedList"
  | _ => .object "PlanText$Printer"
theorem t_PT_ok : ∀ k, k < 11 → parseFieldDescriptor (T_PT k).2.2.1 = some (t_PT k) := by decide +kernel
theorem n_PT : ∀ a, a < 11 → ∀ b, b < 11 → a ≠ b → (T_PT a).2.1 ≠ (T_PT b).2.1 := by decide +kernel
def T_Ed : u_T := fun k => match k with
  | 0 => ("PlanText$Edition", "day", "I", true)
  | 1 => ("PlanText$Edition", "plans", "[LPlanText$Plan;", true)
  | 2 => ("PlanText$Edition", "defaults", "[LPlanText$NeedList;", true)
  | 3 => ("PlanText$Edition", "standbyRows", "[LPlanText$Standby;", true)
  | 4 => ("PlanText$Edition", "planCount", "I", false)
  | 5 => ("PlanText$Edition", "defaultCount", "I", false)
  | _ => ("PlanText$Edition", "standbyCount", "I", false)
def t_Ed : Nat → FieldType := fun k => match k with
  | 0 => .int
  | 1 => .array (.object "PlanText$Plan")
  | 2 => .array (.object "PlanText$NeedList")
  | 3 => .array (.object "PlanText$Standby")
  | 4 => .int
  | 5 => .int
  | _ => .int
theorem t_Ed_ok : ∀ k, k < 7 → parseFieldDescriptor (T_Ed k).2.2.1 = some (t_Ed k) := by decide +kernel
theorem n_Ed : ∀ a, a < 7 → ∀ b, b < 7 → a ≠ b → (T_Ed a).2.1 ≠ (T_Ed b).2.1 := by decide +kernel
def T_Hr : u_T := fun k => match k with
  | 0 => ("PlanText$Hours", "told", "Z", true)
  | 1 => ("PlanText$Hours", "first", "I", true)
  | 2 => ("PlanText$Hours", "last", "I", true)
  | _ => ("PlanText$Hours", "bits", "I", true)
def t_Hr : Nat → FieldType := fun k => match k with
  | 0 => .boolean
  | 1 => .int
  | 2 => .int
  | _ => .int
theorem t_Hr_ok : ∀ k, k < 4 → parseFieldDescriptor (T_Hr k).2.2.1 = some (t_Hr k) := by decide +kernel
theorem n_Hr : ∀ a, a < 4 → ∀ b, b < 4 → a ≠ b → (T_Hr a).2.1 ≠ (T_Hr b).2.1 := by decide +kernel
def T_Nd : u_T := fun k => match k with
  | 0 => ("PlanText$Need", "units", "I", true)
  | 1 => ("PlanText$Need", "skill", "I", true)
  | 2 => ("PlanText$Need", "firstAlternative", "I", true)
  | 3 => ("PlanText$Need", "secondAlternative", "I", true)
  | _ => ("PlanText$Need", "limit", "I", true)
def t_Nd : Nat → FieldType := fun k => match k with
  | 0 => .int
  | 1 => .int
  | 2 => .int
  | 3 => .int
  | _ => .int
theorem t_Nd_ok : ∀ k, k < 5 → parseFieldDescriptor (T_Nd k).2.2.1 = some (t_Nd k) := by decide +kernel
theorem n_Nd : ∀ a, a < 5 → ∀ b, b < 5 → a ≠ b → (T_Nd a).2.1 ≠ (T_Nd b).2.1 := by decide +kernel
def T_NL : u_T := fun k => match k with
  | 0 => ("PlanText$NeedList", "needs", "[LPlanText$Need;", true)
  | _ => ("PlanText$NeedList", "size", "I", false)
def t_NL : Nat → FieldType := fun k => match k with
  | 0 => .array (.object "PlanText$Need")
  | _ => .int
theorem t_NL_ok : ∀ k, k < 2 → parseFieldDescriptor (T_NL k).2.2.1 = some (t_NL k) := by decide +kernel
theorem n_NL : ∀ a, a < 2 → ∀ b, b < 2 → a ≠ b → (T_NL a).2.1 ≠ (T_NL b).2.1 := by decide +kernel
def T_Pl : u_T := fun k => match k with
  | 0 => ("PlanText$Plan", "number", "I", true)
  | 1 => ("PlanText$Plan", "kind", "I", true)
  | 2 => ("PlanText$Plan", "stretch", "LPlanText$Stretch;", true)
  | 3 => ("PlanText$Plan", "hours", "LPlanText$Hours;", true)
  | 4 => ("PlanText$Plan", "rank", "I", true)
  | _ => ("PlanText$Plan", "needs", "LPlanText$NeedList;", true)
def t_Pl : Nat → FieldType := fun k => match k with
  | 0 => .int
  | 1 => .int
  | 2 => .object "PlanText$Stretch"
  | 3 => .object "PlanText$Hours"
  | 4 => .int
  | _ => .object "PlanText$NeedList"
theorem t_Pl_ok : ∀ k, k < 6 → parseFieldDescriptor (T_Pl k).2.2.1 = some (t_Pl k) := by decide +kernel
theorem n_Pl : ∀ a, a < 6 → ∀ b, b < 6 → a ≠ b → (T_Pl a).2.1 ≠ (T_Pl b).2.1 := by decide +kernel
def T_Pr : u_T := fun k => match k with
  | 0 => ("PlanText$Printer", "bytes", "[B", true)
  | _ => ("PlanText$Printer", "length", "I", false)
def t_Pr : Nat → FieldType := fun k => match k with
  | 0 => .array .byte
  | _ => .int
theorem t_Pr_ok : ∀ k, k < 2 → parseFieldDescriptor (T_Pr k).2.2.1 = some (t_Pr k) := by decide +kernel
theorem n_Pr : ∀ a, a < 2 → ∀ b, b < 2 → a ≠ b → (T_Pr a).2.1 ≠ (T_Pr b).2.1 := by decide +kernel
def T_Rd : u_T := fun k => match k with
  | 0 => ("PlanText$Reader", "text", "[B", true)
  | 1 => ("PlanText$Reader", "length", "I", true)
  | 2 => ("PlanText$Reader", "position", "I", false)
  | _ => ("PlanText$Reader", "wrongAt", "I", false)
def t_Rd : Nat → FieldType := fun k => match k with
  | 0 => .array .byte
  | 1 => .int
  | 2 => .int
  | _ => .int
theorem t_Rd_ok : ∀ k, k < 4 → parseFieldDescriptor (T_Rd k).2.2.1 = some (t_Rd k) := by decide +kernel
theorem n_Rd : ∀ a, a < 4 → ∀ b, b < 4 → a ≠ b → (T_Rd a).2.1 ≠ (T_Rd b).2.1 := by decide +kernel
def T_Sb : u_T := fun k => match k with
  | 0 => ("PlanText$Standby", "hours", "LPlanText$Hours;", true)
  | 1 => ("PlanText$Standby", "calls", "I", true)
  | 2 => ("PlanText$Standby", "units", "I", true)
  | _ => ("PlanText$Standby", "skill", "I", true)
def t_Sb : Nat → FieldType := fun k => match k with
  | 0 => .object "PlanText$Hours"
  | 1 => .int
  | 2 => .int
  | _ => .int
theorem t_Sb_ok : ∀ k, k < 4 → parseFieldDescriptor (T_Sb k).2.2.1 = some (t_Sb k) := by decide +kernel
theorem n_Sb : ∀ a, a < 4 → ∀ b, b < 4 → a ≠ b → (T_Sb a).2.1 ≠ (T_Sb b).2.1 := by decide +kernel
def T_Sx : u_T := fun k => match k with
  | 0 => ("PlanText$Stretch", "street", "I", true)
  | 1 => ("PlanText$Stretch", "from", "I", true)
  | _ => ("PlanText$Stretch", "to", "I", true)
def t_Sx : Nat → FieldType := fun k => match k with
  | 0 => .int
  | 1 => .int
  | _ => .int
theorem t_Sx_ok : ∀ k, k < 3 → parseFieldDescriptor (T_Sx k).2.2.1 = some (t_Sx k) := by decide +kernel
theorem n_Sx : ∀ a, a < 3 → ∀ b, b < 3 → a ≠ b → (T_Sx a).2.1 ≠ (T_Sx b).2.1 := by decide +kernel
def T_Mo : u_T := fun k => match k with
  | 0 => ("PlanTextModel", "thrown", "I", false)
  | 1 => ("PlanTextModel", "tape", "[I", true)
  | 2 => ("PlanTextModel", "taped", "I", false)
  | 3 => ("PlanTextModel", "length", "I", false)
  | 4 => ("PlanTextModel", "at", "I", false)
  | 5 => ("PlanTextModel", "wrong", "Z", false)
  | 6 => ("PlanTextModel", "place", "I", false)
  | 7 => ("PlanTextModel", "editions", "I", false)
  | 8 => ("PlanTextModel", "latest", "I", false)
  | 9 => ("PlanTextModel", "day", "[I", true)
  | 10 => ("PlanTextModel", "told", "[Z", true)
  | 11 => ("PlanTextModel", "kind", "[I", true)
  | 12 => ("PlanTextModel", "street", "[I", true)
  | 13 => ("PlanTextModel", "low", "[I", true)
  | 14 => ("PlanTextModel", "high", "[I", true)
  | 15 => ("PlanTextModel", "from", "[I", true)
  | 16 => ("PlanTextModel", "to", "[I", true)
  | 17 => ("PlanTextModel", "rank", "[I", true)
  | 18 => ("PlanTextModel", "needs", "[I", true)
  | 19 => ("PlanTextModel", "need", "[I", true)
  | 20 => ("PlanTextModel", "standbys", "[I", true)
  | 21 => ("PlanTextModel", "standby", "[I", true)
  | 22 => ("PlanTextModel", "units", "[I", true)
  | 23 => ("PlanTextModel", "asked", "I", false)
  | 24 => ("PlanTextModel", "out", "[I", true)
  | _ => ("PlanTextModel", "printed", "I", false)
def t_Mo : Nat → FieldType := fun k => match k with
  | 0 => .int
  | 1 => .array .int
  | 2 => .int
  | 3 => .int
  | 4 => .int
  | 5 => .boolean
  | 6 => .int
  | 7 => .int
  | 8 => .int
  | 9 => .array .int
  | 10 => .array .boolean
  | 11 => .array .int
  | 12 => .array .int
  | 13 => .array .int
  | 14 => .array .int
  | 15 => .array .int
  | 16 => .array .int
  | 17 => .array .int
  | 18 => .array .int
  | 19 => .array .int
  | 20 => .array .int
  | 21 => .array .int
  | 22 => .array .int
  | 23 => .int
  | 24 => .array .int
  | _ => .int
theorem t_Mo_ok : ∀ k, k < 26 → parseFieldDescriptor (T_Mo k).2.2.1 = some (t_Mo k) := by decide +kernel
theorem n_Mo : ∀ a, a < 26 → ∀ b, b < 26 → a ≠ b → (T_Mo a).2.1 ≠ (T_Mo b).2.1 := by decide +kernel
abbrev vwCl : List vw_C := [("PlanText", T_PT, 11), ("PlanText$Edition", T_Ed, 7), ("PlanText$Hours", T_Hr, 4), ("PlanText$Need", T_Nd, 5), ("PlanText$NeedList", T_NL, 2), ("PlanText$Plan", T_Pl, 6), ("PlanText$Printer", T_Pr, 2), ("PlanText$Reader", T_Rd, 4), ("PlanText$Standby", T_Sb, 4), ("PlanText$Stretch", T_Sx, 3), ("PlanTextModel", T_Mo, 26)]
abbrev gKinds : List FieldType := [.int, .long, .byte, .boolean, .object "PlanText$Edition", .object "PlanText$Plan", .object "PlanText$NeedList", .object "PlanText$Standby", .object "PlanText$Need"]
theorem lw_at {w : Cond} (i : Nat) (h : lw_tbl[i]? = some w) (g : goodWord w = true) : w ∈ lw_good := List.mem_filter.mpr ⟨List.mem_of_getElem? h, g⟩
theorem i_PT : ∀ w ∈ u_ws "PlanText" T_PT 11, w ∈ lw_good := by
  have h : (u_ws "PlanText" T_PT 11).all (fun w => [162, 164, 166, 168, 170, 172, 174, 176, 178, 180, 182].any (fun i => decide (lw_tbl[i]? = some w)) && goodWord w) = true := by decide +kernel
  intro w hw
  have h1 := List.all_eq_true.mp h w hw
  rw [Bool.and_eq_true] at h1
  obtain ⟨i, -, hi⟩ := List.any_eq_true.mp h1.1
  exact lw_at i (of_decide_eq_true hi) h1.2
theorem i_Ed : ∀ w ∈ u_ws "PlanText$Edition" T_Ed 7, w ∈ lw_good := by
  have h : (u_ws "PlanText$Edition" T_Ed 7).all (fun w => [105, 107, 109, 111, 113, 115, 117].any (fun i => decide (lw_tbl[i]? = some w)) && goodWord w) = true := by decide +kernel
  intro w hw
  have h1 := List.all_eq_true.mp h w hw
  rw [Bool.and_eq_true] at h1
  obtain ⟨i, -, hi⟩ := List.any_eq_true.mp h1.1
  exact lw_at i (of_decide_eq_true hi) h1.2
theorem i_Hr : ∀ w ∈ u_ws "PlanText$Hours" T_Hr 4, w ∈ lw_good := by
  have h : (u_ws "PlanText$Hours" T_Hr 4).all (fun w => [409, 411, 413, 415].any (fun i => decide (lw_tbl[i]? = some w)) && goodWord w) = true := by decide +kernel
  intro w hw
  have h1 := List.all_eq_true.mp h w hw
  rw [Bool.and_eq_true] at h1
  obtain ⟨i, -, hi⟩ := List.any_eq_true.mp h1.1
  exact lw_at i (of_decide_eq_true hi) h1.2
theorem i_Nd : ∀ w ∈ u_ws "PlanText$Need" T_Nd 5, w ∈ lw_good := by
  have h : (u_ws "PlanText$Need" T_Nd 5).all (fun w => [455, 457, 459, 461, 463].any (fun i => decide (lw_tbl[i]? = some w)) && goodWord w) = true := by decide +kernel
  intro w hw
  have h1 := List.all_eq_true.mp h w hw
  rw [Bool.and_eq_true] at h1
  obtain ⟨i, -, hi⟩ := List.any_eq_true.mp h1.1
  exact lw_at i (of_decide_eq_true hi) h1.2
theorem i_NL : ∀ w ∈ u_ws "PlanText$NeedList" T_NL 2, w ∈ lw_good := by
  have h : (u_ws "PlanText$NeedList" T_NL 2).all (fun w => [132, 134].any (fun i => decide (lw_tbl[i]? = some w)) && goodWord w) = true := by decide +kernel
  intro w hw
  have h1 := List.all_eq_true.mp h w hw
  rw [Bool.and_eq_true] at h1
  obtain ⟨i, -, hi⟩ := List.any_eq_true.mp h1.1
  exact lw_at i (of_decide_eq_true hi) h1.2
theorem i_Pl : ∀ w ∈ u_ws "PlanText$Plan" T_Pl 6, w ∈ lw_good := by
  have h : (u_ws "PlanText$Plan" T_Pl 6).all (fun w => [492, 494, 496, 498, 500, 502].any (fun i => decide (lw_tbl[i]? = some w)) && goodWord w) = true := by decide +kernel
  intro w hw
  have h1 := List.all_eq_true.mp h w hw
  rw [Bool.and_eq_true] at h1
  obtain ⟨i, -, hi⟩ := List.any_eq_true.mp h1.1
  exact lw_at i (of_decide_eq_true hi) h1.2
theorem i_Pr : ∀ w ∈ u_ws "PlanText$Printer" T_Pr 2, w ∈ lw_good := by
  have h : (u_ws "PlanText$Printer" T_Pr 2).all (fun w => [146, 148].any (fun i => decide (lw_tbl[i]? = some w)) && goodWord w) = true := by decide +kernel
  intro w hw
  have h1 := List.all_eq_true.mp h w hw
  rw [Bool.and_eq_true] at h1
  obtain ⟨i, -, hi⟩ := List.any_eq_true.mp h1.1
  exact lw_at i (of_decide_eq_true hi) h1.2
theorem i_Rd : ∀ w ∈ u_ws "PlanText$Reader" T_Rd 4, w ∈ lw_good := by
  have h : (u_ws "PlanText$Reader" T_Rd 4).all (fun w => [311, 313, 315, 317].any (fun i => decide (lw_tbl[i]? = some w)) && goodWord w) = true := by decide +kernel
  intro w hw
  have h1 := List.all_eq_true.mp h w hw
  rw [Bool.and_eq_true] at h1
  obtain ⟨i, -, hi⟩ := List.any_eq_true.mp h1.1
  exact lw_at i (of_decide_eq_true hi) h1.2
theorem i_Sb : ∀ w ∈ u_ws "PlanText$Standby" T_Sb 4, w ∈ lw_good := by
  have h : (u_ws "PlanText$Standby" T_Sb 4).all (fun w => [544, 546, 548, 550].any (fun i => decide (lw_tbl[i]? = some w)) && goodWord w) = true := by decide +kernel
  intro w hw
  have h1 := List.all_eq_true.mp h w hw
  rw [Bool.and_eq_true] at h1
  obtain ⟨i, -, hi⟩ := List.any_eq_true.mp h1.1
  exact lw_at i (of_decide_eq_true hi) h1.2
theorem i_Sx : ∀ w ∈ u_ws "PlanText$Stretch" T_Sx 3, w ∈ lw_good := by
  have h : (u_ws "PlanText$Stretch" T_Sx 3).all (fun w => [380, 382, 384].any (fun i => decide (lw_tbl[i]? = some w)) && goodWord w) = true := by decide +kernel
  intro w hw
  have h1 := List.all_eq_true.mp h w hw
  rw [Bool.and_eq_true] at h1
  obtain ⟨i, -, hi⟩ := List.any_eq_true.mp h1.1
  exact lw_at i (of_decide_eq_true hi) h1.2
theorem i_Mo : ∀ w ∈ u_ws "PlanTextModel" T_Mo 26, w ∈ lw_good := by
  have h : (u_ws "PlanTextModel" T_Mo 26).all (fun w => [844, 846, 848, 850, 852, 854, 856, 858, 860, 862, 864, 866, 868, 870, 872, 874, 876, 878, 880, 882, 884, 886, 888, 890, 892, 894].any (fun i => decide (lw_tbl[i]? = some w)) && goodWord w) = true := by decide +kernel
  intro w hw
  have h1 := List.all_eq_true.mp h w hw
  rw [Bool.and_eq_true] at h1
  obtain ⟨i, -, hi⟩ := List.any_eq_true.mp h1.1
  exact lw_at i (of_decide_eq_true hi) h1.2
end
section
/-! THE ABSTRACT HEAP: addresses from the law's first free cell on; objects by class number and fields, arrays by kind number and contents -/
abbrev gE : Type := (Nat × vp_A) ⊕ (Nat × List Value)
/-- cells, size of the heap, cells made at most, slots made at most -/
abbrev gS : Type := (Nat → Option gE) × Nat × Nat × Nat
def gup (G : Nat → Option gE) (a : Nat) (e : gE) : Nat → Option gE := fun q => if q = a then some e else G q
theorem gup_self {G : Nat → Option gE} {a : Nat} {e : gE} : gup G a e a = some e := by simp [gup]
theorem gup_ne {G : Nat → Option gE} {a b : Nat} {e : gE} (h : b ≠ a) : gup G a e b = G b := by simp [gup, h]
def gat (D : va_G) (cT : Nat → ClassId) (a : Nat) (e : gE) (H : Heap) : Prop := match e with
  | .inl x => H[a]? = some (vp_cell (cT x.1) x.2)
  | .inr o => va_at D vwCl (a, .inr o) H
theorem gat.kept {D : va_G} {cT : Nat → ClassId} {a : Nat} {e : gE} {H H1 : Heap} (h : gat D cT a e H) (hq : H1[a]? = H[a]?) : gat D cT a e H1 := by
  cases e with
  | inl x => exact hq.trans h
  | inr o => exact va_at.kept (q := (a, .inr o)) h hq
theorem gat.lt {D : va_G} {cT : Nat → ClassId} {a : Nat} {e : gE} {H : Heap} (h : gat D cT a e H) : a < H.size := by
  cases e with
  | inl x => exact (Array.getElem?_eq_some_iff.mp h).1
  | inr o => exact va_at.lt (q := (a, .inr o)) h
/-- the real heap H holds what the abstract state S says, and is as H0 below H0's size -/
def gA (D : va_G) (cT : Nat → ClassId) (H0 : Heap) (S : gS) (H : Heap) : Prop :=
  H0.size ≤ S.2.1 ∧ H.size = S.2.1 ∧ (∀ q : Nat, q < H0.size → H[q]? = H0[q]?) ∧ ∀ (a : Nat) (e : gE), S.1 a = some e → H0.size ≤ a ∧ gat D cT a e H
theorem gA.lt {D : va_G} {cT : Nat → ClassId} {H0 : Heap} {S : gS} {H : Heap} (h : gA D cT H0 S H) {a : Nat} {e : gE} (ha : S.1 a = some e) : a < S.2.1 := by
  rw [← h.2.1]; exact (h.2.2.2 a e ha).2.lt
theorem gA.set {D : va_G} {cT : Nat → ClassId} {H0 : Heap} {S : gS} {H H1 : Heap} (h : gA D cT H0 S H) {a : Nat} {e0 e : gE} (ha : S.1 a = some e0) (he : gat D cT a e H1) (z : H1.size = H.size) (oq : ∀ q : Nat, q ≠ a → H1[q]? = H[q]?) : gA D cT H0 (gup S.1 a e, S.2) H1 := by
  obtain ⟨h1, h2, h3, h4⟩ := h
  have hz := (h4 a e0 ha).1
  refine ⟨h1, z.trans h2, fun q hq => (oq q (by omega)).trans (h3 q hq), fun b e' hb => ?_⟩
  by_cases hba : b = a
  · subst hba
    rw [show (gup S.1 b e, S.2).1 b = some e from gup_self] at hb
    cases hb
    exact ⟨hz, he⟩
  · rw [show (gup S.1 a e, S.2).1 b = S.1 b from gup_ne hba] at hb
    exact ⟨(h4 b e' hb).1, (h4 b e' hb).2.kept (oq b hba)⟩
theorem gA.push {D : va_G} {cT : Nat → ClassId} {H0 : Heap} {S : gS} {H H1 : Heap} (h : gA D cT H0 S H) {e : gE} {u : Nat × Nat} (he : gat D cT S.2.1 e H1) (z : H1.size = H.size + 1) (oq : ∀ q : Nat, q < H.size → H1[q]? = H[q]?) : gA D cT H0 (gup S.1 S.2.1 e, S.2.1 + 1, u) H1 := by
  have hl := fun a e' (ha : S.1 a = some e') => h.lt ha
  obtain ⟨h1, h2, h3, h4⟩ := h
  refine ⟨Nat.le_succ_of_le h1, by rw [z, h2], fun q hq => (oq q (by omega)).trans (h3 q hq), fun b e' hb => ?_⟩
  by_cases hba : b = S.2.1
  · subst hba
    rw [show (gup S.1 S.2.1 e, S.2.1 + 1, u).1 S.2.1 = some e from gup_self] at hb
    cases hb
    exact ⟨h1, he⟩
  · rw [show (gup S.1 S.2.1 e, S.2.1 + 1, u).1 b = S.1 b from gup_ne hba] at hb
    exact ⟨(h4 b e' hb).1, (h4 b e' hb).2.kept (oq b (by rw [h2]; exact hl b e' hb))⟩
/-- the classes of objects, the classes of arrays -/
def gK (D : va_G) (cT : Nat → ClassId) (s : State) : Prop := va_K D vwCl [] s ∧ ∀ (t : Nat) (ty : FieldType), gKinds[t]? = some ty → ArrOfT s (cT t) ty ∧ va_RA s (cT t) ty
theorem gK.moved {D : va_G} {cT : Nat → ClassId} {u U : State} (hvm : u.vm.Alike U.vm) (h : gK D cT u) : gK D cT U := ⟨h.1.moved hvm, fun t ty ht => ⟨arrOfT_moved hvm (h.2 t ty ht).1, (h.2 t ty ht).2.moved hvm⟩⟩
/-- the judgement W with heap, written places and room taken from the abstract state -/
def gV (D : va_G) (cT : Nat → ClassId) (H0 : Heap) (p : Program) (l : Launch) (e : Env) (R : Room) (s : State) (m : MethodId) (args : Array Value) (below : List Frame) (meth : Method) (c : Code) (Q : State → Prop) (S0 S : gS) (g : JFrame) : Prop :=
  ∀ (H : Heap) (locs : List Loc), gA D cT H0 S H → (∀ q ∈ locs, H0.size ≤ q.base) → S0.2.2.1 ≤ S.2.2.1 → S0.2.2.2 ≤ S.2.2.2 → W p l e R s m args below meth c H locs (S.2.2.1 - S0.2.2.1) (S.2.2.2 - S0.2.2.2) Q g
/-- what a walk knows of its method -/
def gX (D : va_G) (cT : Nat → ClassId) (p : Program) (R : Room) (s : State) (m : MethodId) (args : Array Value) (meth : Method) (c : Code) (cc : ByteArray) (nL : Nat) (own : String) (fr lo : Nat) (S0 : gS) : Prop :=
  p.tables.exec = Jvm.exec ∧ c.code = cc ∧ c.maxLocals = nL ∧ s.vm.findClass own = some m.cls ∧ (∀ w ∈ lw_good, w.before args s = true) ∧ gK D cT s ∧ meth.locks = false ∧ R.cells = 601024 - S0.2.2.1 ∧ R.slots = 7293034 - S0.2.2.2 ∧ R.frames = fr ∧ R.locals = lo
/-- a class of objects, by its number -/
def gCl (ci : Nat) (C : String) (T : u_T) (N : Nat) (ty : Nat → FieldType) : Prop := vwCl[ci]? = some (C, T, N) ∧ (∀ w ∈ u_ws C T N, w ∈ lw_good) ∧ (∀ k, k < N → parseFieldDescriptor (T k).2.2.1 = some (ty k)) ∧ (∀ a, a < N → ∀ b, b < N → a ≠ b → (T a).2.1 ≠ (T b).2.1)
section GV
variable {D : va_G} {cT : Nat → ClassId} {H0 : Heap} {p : Program} {l : Launch} {e : Env} {R : Room} {s : State} {m : MethodId} {args : Array Value} {below : List Frame} {meth : Method} {c : Code} {Q : State → Prop} {S0 S : gS}
variable {cc : ByteArray} {nL : Nat} {own : String} {fr lo : Nat} {pc : Nat} {ls : Array Slot} {rest : List Value} {a : Nat}
theorem gV.lift {g1 g2 : JFrame} (h : ∀ (H : Heap) (locs : List Loc) (cells slots : Nat), W p l e R s m args below meth c H locs cells slots Q g2 → W p l e R s m args below meth c H locs cells slots Q g1) (k : gV D cT H0 p l e R s m args below meth c Q S0 S g2) : gV D cT H0 p l e R s m args below meth c Q S0 S g1 :=
  fun H locs h1 h2 h3 h4 => h H locs _ _ (k H locs h1 h2 h3 h4)
theorem gV.lift2 {g1 g2 g3 : JFrame} {A B : Prop} (h : ∀ (H : Heap) (locs : List Loc) (cells slots : Nat), (A → W p l e R s m args below meth c H locs cells slots Q g2) → (B → W p l e R s m args below meth c H locs cells slots Q g3) → W p l e R s m args below meth c H locs cells slots Q g1) (k1 : A → gV D cT H0 p l e R s m args below meth c Q S0 S g2) (k2 : B → gV D cT H0 p l e R s m args below meth c Q S0 S g3) : gV D cT H0 p l e R s m args below meth c Q S0 S g1 :=
  fun H locs h1 h2 h3 h4 => h H locs _ _ (fun q => k1 q H locs h1 h2 h3 h4) (fun q => k2 q H locs h1 h2 h3 h4)
theorem gV.liftS {g1 : JFrame} {F : Array Slot → JFrame} {lv' : List (Nat × Value)} (h : ∀ (H : Heap) (locs : List Loc) (cells slots : Nat), (∀ ls' : Array Slot, lv_has ls' nL lv' → W p l e R s m args below meth c H locs cells slots Q (F ls')) → W p l e R s m args below meth c H locs cells slots Q g1) (k : ∀ ls' : Array Slot, lv_has ls' nL lv' → gV D cT H0 p l e R s m args below meth c Q S0 S (F ls')) : gV D cT H0 p l e R s m args below meth c Q S0 S g1 :=
  fun H locs h1 h2 h3 h4 => h H locs _ _ (fun ls' hl => k ls' hl H locs h1 h2 h3 h4)
/-- a field is read -/
theorem g_get (X : gX D cT p R s m args meth c cc nL own fr lo S0) {ci : Nat} {C : String} {T : u_T} {N : Nat} {ty : Nat → FieldType} (hC : gCl ci C T N ty) {index k : Nat} {fs : List Value} {v : Value} (ha : S.1 a = some (.inr (ci, fs))) (hv : fs[k]? = some v) (hk : k < N)
    (hlink : Cond.fieldLink own index (T k).1 (T k).2.1 (T k).2.2.1 ∈ lw_good) (hdg : decode cc pc = .ok (.getfield index, 3))
    (kk : gV D cT H0 p l e R s m args below meth c Q S0 S (F0 m (pc + 3) ls (v :: rest))) : gV D cT H0 p l e R s m args below meth c Q S0 S (F0 m pc ls (va_rf (some a) :: rest)) := by
  obtain ⟨hx, hb, hml, hown, hts, hK, -⟩ := X
  intro H locs hA h2 h3 h4
  have hP : va_P D vwCl [(a, .inr (ci, fs))] H := fun j q hq => by
    have hj : j = 0 := by
      have := (List.getElem?_eq_some_iff.mp hq).1
      simpa using this
    subst hj
    cases hq
    exact (hA.2.2.2 a _ ha).2
  exact va_get (D := D) (ci := ci) (v := v) (C := C) (T := T) (N := N) hx hb hts hC.2.1 hown hK.1 hP 0 rfl hC.1 k hk (hts _ hlink) (fun _ h9 => h9) hv hdg (kk H locs hA h2 h3 h4)
/-- a field is written -/
theorem g_put (X : gX D cT p R s m args meth c cc nL own fr lo S0) {ci : Nat} {C : String} {T : u_T} {N : Nat} {ty : Nat → FieldType} (hC : gCl ci C T N ty) {index k : Nat} {fs : List Value} {v : Value} (ha : S.1 a = some (.inr (ci, fs))) (hl : k < fs.length) (hk : k < N)
    (hlink : Cond.fieldLink own index (T k).1 (T k).2.1 (T k).2.2.1 ∈ lw_good) (hfin : (T k).2.2.2 = false) (hn : narrow (ty k) v = v) (hfit : fits (ty k) v = true) (hdg : decode cc pc = .ok (.putfield index, 3))
    (kk : gV D cT H0 p l e R s m args below meth c Q S0 (gup S.1 a (.inr (ci, fs.set k v)), S.2) (F0 m (pc + 3) ls rest)) : gV D cT H0 p l e R s m args below meth c Q S0 S (F0 m pc ls (v :: va_rf (some a) :: rest)) := by
  obtain ⟨hx, hb, hml, hown, hts, hK, -⟩ := X
  obtain ⟨hc, hin, hty, hnm⟩ := hC
  intro H locs hA h2 h3 h4
  have hap := va_apart (own := own) hts hin ty hty hnm hK.1 hc
  obtain ⟨hz, r, h1, cell, q1, q2, q3, q4⟩ := hA.2.2.2 a _ ha
  have hr : r = (C, T, N) := Option.some.inj (h1.symm.trans hc)
  subst hr
  obtain ⟨hS, hfc, kC, hkC, hkind⟩ := hK.1.1 ci _ hc
  obtain ⟨cf, kf, fi, f, hi, hsl⟩ := hS k hk
  have hlay := hts _ (hin _ (u_in_lay hk))
  unfold u_lay at hlay
  rw [if_neg (by rw [hfin]; decide)] at hlay
  have hst := (u_facts hfc hkC (u_lays hts hin hk) hi).1
  have h6 := u_store hfc hkC hkind hlay hi (hty k hk) hn hfit
  refine W.putK hx hb (f := f) ⟨hown, hts _ hlink, ⟨_, _, _, hi⟩, hst⟩ (by rw [q2]; exact h6) q1 q3 (by rw [hsl]; exact k2_hasslot (q4 k hk)) rfl rfl hdg fun H' e1 e2 e3 => ?_
  rw [hsl] at e1 ⊢
  refine kk H' _ (hA.set ha ?_ e2 e3) (fun q hq => ?_) h3 h4
  · exact ⟨_, hc, t_OB.to (V := updV (vp_V fs) k v) ⟨_, e1, q2, q3, t_set q4 hap hk v⟩ (fun j _ => vp_updV_set hl v j)⟩
  · rcases List.mem_append.mp hq with h9 | h9
    · exact h2 q h9
    · rw [List.mem_singleton.mp h9]; exact hz
/-- a final field is written by the class's constructor -/
theorem g_putF (X : gX D cT p R s m args meth c cc nL own fr lo S0) {ci : Nat} {C : String} {T : u_T} {N : Nat} {ty : Nat → FieldType} (hC : gCl ci C T N ty) {index k : Nat} {fs : List Value} {v : Value} (ha : S.1 a = some (.inr (ci, fs))) (hl : k < fs.length) (hk : k < N)
    (hlink : Cond.fieldLink own index (T k).1 (T k).2.1 (T k).2.2.1 ∈ lw_good) (hfin : (T k).2.2.2 = true) (hin2 : meth.name = "<init>") (hdecl : (T k).1 = own) (hn : narrow (ty k) v = v) (hfit : fits (ty k) v = true) (hdg : decode cc pc = .ok (.putfield index, 3))
    (kk : gV D cT H0 p l e R s m args below meth c Q S0 (gup S.1 a (.inr (ci, fs.set k v)), S.2) (F0 m (pc + 3) ls rest)) : gV D cT H0 p l e R s m args below meth c Q S0 S (F0 m pc ls (v :: va_rf (some a) :: rest)) := by
  obtain ⟨hx, hb, hml, hown, hts, hK, -⟩ := X
  obtain ⟨hc, hin, hty, hnm⟩ := hC
  intro H locs hA h2 h3 h4
  have hap := va_apart (own := own) hts hin ty hty hnm hK.1 hc
  obtain ⟨hz, r, h1, cell, q1, q2, q3, q4⟩ := hA.2.2.2 a _ ha
  have hr : r = (C, T, N) := Option.some.inj (h1.symm.trans hc)
  subst hr
  obtain ⟨hS, hfc, kC, hkC, hkind⟩ := hK.1.1 ci _ hc
  obtain ⟨cf, kf, fi, f, hi, hsl⟩ := hS k hk
  have hlay := hts _ (hin _ (u_in_lay hk))
  unfold u_lay at hlay
  rw [if_pos hfin] at hlay
  have hst := (u_facts hfc hkC (u_lays hts hin hk) hi).1
  have hcf : m.cls = cf := by
    obtain ⟨_, _, c', _, _, _, -, -, hf', -, -, -, hown2, -⟩ := Cond.laysFinal_spec hlay
    have e1 : c' = cf := by have := hi.symm.trans hf'; simp at this; exact this.1.symm
    rw [hdecl] at hown2
    rw [← e1]; exact Option.some.inj (hown.symm.trans hown2)
  have h6 := u_fits hfc hkC hkind (Or.inr hlay) hi (hty k hk) hn hfit
  refine W.putFinK hx hb hown (hts _ hlink) hi hst hcf hin2 (by rw [q2]; exact h6) q1 q3 (by rw [hsl]; exact k2_hasslot (q4 k hk)) rfl rfl hdg fun H' e1 e2 e3 => ?_
  rw [hsl] at e1 ⊢
  refine kk H' _ (hA.set ha ?_ e2 e3) (fun q hq => ?_) h3 h4
  · exact ⟨_, hc, t_OB.to (V := updV (vp_V fs) k v) ⟨_, e1, q2, q3, t_set q4 hap hk v⟩ (fun j _ => vp_updV_set hl v j)⟩
  · rcases List.mem_append.mp hq with h9 | h9
    · exact h2 q h9
    · rw [List.mem_singleton.mp h9]; exact hz
/-- a new object -/
theorem g_new (X : gX D cT p R s m args meth c cc nL own fr lo S0) {ci : Nat} {C : String} {T : u_T} {N : Nat} {ty : Nat → FieldType} (hC : gCl ci C T N ty) {index : Nat} {fs : List Value} (hfs : ∀ j, j < N → defaultValue (ty j) = vp_V fs j)
    (hcl : Cond.classLink own index C ∈ lw_good) (hins : Cond.instantiable C N ∈ lw_good) (hini : Cond.initialized C ∈ lw_good) (hr : S.2.2.1 + 1 ≤ 601024 ∧ S.2.2.2 + N ≤ 7293034) (hdg : decode cc pc = .ok (.new index, 3))
    (kk : gV D cT H0 p l e R s m args below meth c Q S0 (gup S.1 S.2.1 (.inr (ci, fs)), S.2.1 + 1, S.2.2.1 + 1, S.2.2.2 + N) (F0 m (pc + 3) ls (va_rf (some S.2.1) :: rest))) : gV D cT H0 p l e R s m args below meth c Q S0 S (F0 m pc ls rest) := by
  obtain ⟨hx, hb, hml, hown, hts, hK, -, hRc, hRs, -⟩ := X
  obtain ⟨hc, hin, hty, hnm⟩ := hC
  intro H locs hA h2 h3 h4
  have hKn := hK.1.1 ci _ hc
  have hsz := hA.2.1
  refine W.newcK (n := N) hx hb hown (hts _ hcl) (hts _ hins) (hts _ hini) rfl hdg (by rw [hRc]; omega) (by rw [hRs]; omega) hKn.2.1 hsz fun H1 kC hkC e1 z1 o1 => ?_
  have hz := hA.push (e := .inr (ci, fs)) (u := (S.2.2.1 + 1, S.2.2.2 + N)) (H1 := H1) ⟨_, hc, t_OB.to (u_born ty hts hin hKn hkC e1 hty) hfs⟩ (by rw [z1, hsz]) (fun q hq => o1 q (by rw [← hsz]; exact hq))
  have kz := kk H1 locs hz h2 (by show S0.2.2.1 ≤ S.2.2.1 + 1; omega) (by show S0.2.2.2 ≤ S.2.2.2 + N; omega)
  rw [show (gup S.1 S.2.1 (.inr (ci, fs)), S.2.1 + 1, S.2.2.1 + 1, S.2.2.2 + N).2.2.1 - S0.2.2.1 = S.2.2.1 - S0.2.2.1 + 1 by show S.2.2.1 + 1 - S0.2.2.1 = _; omega, show (gup S.1 S.2.1 (.inr (ci, fs)), S.2.1 + 1, S.2.2.1 + 1, S.2.2.2 + N).2.2.2 - S0.2.2.2 = S.2.2.2 - S0.2.2.2 + N by show S.2.2.2 + N - S0.2.2.2 = _; omega] at kz
  exact kz
/-- a new array of numbers -/
theorem g_newa (X : gX D cT p R s m args meth c cc nL own fr lo S0) {atype : ArrayType} {t : Nat} {ty : FieldType} (hty : newarray.typeOf atype = ty) (ht : gKinds[t]? = some ty) (hRA : va_RA s (cT t) ty = (s.vm.findClass ("[" ++ ty.toString) = some (cT t)))
    (harr : Cond.arrayClass (newarray.typeOf atype) ∈ lw_good) {n : Int32} {N : Nat} {a0 : vp_A} (ha : ∀ cA : ClassId, vp_cell cA a0 = arrV cA N (fun _ => defaultValue ty)) (hn : ¬ n < 0) (hN : n.toNatClampNeg = N) (hbytes : N * componentBytes ty ≤ 536870912)
    (hr : S.2.2.1 + 1 ≤ 601024 ∧ S.2.2.2 + N ≤ 7293034) (hdg : decode cc pc = .ok (.newarray atype, 2))
    (kk : gV D cT H0 p l e R s m args below meth c Q S0 (gup S.1 S.2.1 (.inl (t, a0)), S.2.1 + 1, S.2.2.1 + 1, S.2.2.2 + N) (F0 m (pc + 2) ls (va_rf (some S.2.1) :: rest))) : gV D cT H0 p l e R s m args below meth c Q S0 S (F0 m pc ls (.int n :: rest)) := by
  obtain ⟨hx, hb, hml, hown, hts, hK, -, hRc, hRs, -⟩ := X
  intro H locs hA h2 h3 h4
  have hsz := hA.2.1
  subst hty
  refine va_newaK hx hb (hts _ harr) rfl hdg rfl hn hN hbytes (by rw [hRc]; omega) (by rw [hRs]; omega) hsz fun H1 cA e1 z1 o1 hAr hNm => ?_
  have hcA : cA = cT t := Option.some.inj (hNm.symm.trans (hRA ▸ (hK.2 t _ ht).2))
  have hz := hA.push (e := .inl (t, a0)) (u := (S.2.2.1 + 1, S.2.2.2 + N)) (H1 := H1) (by show H1[S.2.1]? = some (vp_cell (cT t) a0); rw [ha, ← hcA]; exact e1) (by rw [z1, hsz]) (fun q hq => o1 q (by rw [← hsz]; exact hq))
  have kz := kk H1 locs hz h2 (by show S0.2.2.1 ≤ S.2.2.1 + 1; omega) (by show S0.2.2.2 ≤ S.2.2.2 + N; omega)
  rw [show (gup S.1 S.2.1 (.inl (t, a0)), S.2.1 + 1, S.2.2.1 + 1, S.2.2.2 + N).2.2.1 - S0.2.2.1 = S.2.2.1 - S0.2.2.1 + 1 by show S.2.2.1 + 1 - S0.2.2.1 = _; omega, show (gup S.1 S.2.1 (.inl (t, a0)), S.2.1 + 1, S.2.2.1 + 1, S.2.2.2 + N).2.2.2 - S0.2.2.2 = S.2.2.2 - S0.2.2.2 + N by show S.2.2.2 + N - S0.2.2.2 = _; omega] at kz
  exact kz
/-- a new array of references -/
theorem g_anew (X : gX D cT p R s m args meth c cc nL own fr lo S0) {C : String} {index t : Nat} (ht : gKinds[t]? = some (.object C)) (hcl : Cond.classLink own index C ∈ lw_good) (hover : Cond.arrayOver (.object C) ∈ lw_good) {n : Int32} (hn : ¬ n < 0) (hbytes : n.toNatClampNeg * 4 ≤ 536870912)
    (hr : S.2.2.1 + 1 ≤ 601024 ∧ S.2.2.2 + n.toNatClampNeg ≤ 7293034) (hdg : decode cc pc = .ok (.anewarray index, 3))
    (kk : gV D cT H0 p l e R s m args below meth c Q S0 (gup S.1 S.2.1 (.inl (t, n.toNatClampNeg, .inr (.inr (.inr (.inr (fun _ => none)))))), S.2.1 + 1, S.2.2.1 + 1, S.2.2.2 + n.toNatClampNeg) (F0 m (pc + 3) ls (va_rf (some S.2.1) :: rest))) : gV D cT H0 p l e R s m args below meth c Q S0 S (F0 m pc ls (.int n :: rest)) := by
  obtain ⟨hx, hb, hml, hown, hts, hK, -, hRc, hRs, -⟩ := X
  intro H locs hA h2 h3 h4
  have hsz := hA.2.1
  refine W.anew hx hb hown (hts _ hcl) (hts _ hover) rfl hdg rfl hn hbytes (by rw [hRc]; omega) (by rw [hRs]; omega) fun cA kA comp f1 f2 f3 f4 => ?_
  have hcA : cA = cT t := by
    obtain ⟨kA', comp', -, -, -, f5⟩ := (hK.2 t _ ht).2
    exact Option.some.inj (f1.symm.trans f5)
  generalize hH1 : H.push ({ cls := cA, slots := Array.replicate n.toNatClampNeg .null, vm := .none } : Cell) = H1
  have z1 : H1.size = H.size + 1 := by rw [← hH1, Array.size_push]
  have e1 : H1[H.size]? = some (arrV cA n.toNatClampNeg (fun _ => .null)) := by rw [← hH1, Array.getElem?_push_size, ← arrV_new]
  have o1 : ∀ q : Nat, q < H.size → H1[q]? = H[q]? := fun q hq => by rw [← hH1, Array.getElem?_push, if_neg (Nat.ne_of_lt hq)]
  have hz := hA.push (e := .inl (t, n.toNatClampNeg, .inr (.inr (.inr (.inr (fun _ => none)))))) (u := (S.2.2.1 + 1, S.2.2.2 + n.toNatClampNeg)) (H1 := H1) (by show H1[S.2.1]? = some (vp_cell (cT t) _); rw [← hcA, ← hsz]; exact e1) z1 o1
  have kz := kk H1 locs hz h2 (by show S0.2.2.1 ≤ S.2.2.1 + 1; omega) (by show S0.2.2.2 ≤ S.2.2.2 + n.toNatClampNeg; omega)
  rw [show (gup S.1 S.2.1 (.inl (t, n.toNatClampNeg, .inr (.inr (.inr (.inr (fun _ => none)))))), S.2.1 + 1, S.2.2.1 + 1, S.2.2.2 + n.toNatClampNeg).2.2.1 - S0.2.2.1 = S.2.2.1 - S0.2.2.1 + 1 by show S.2.2.1 + 1 - S0.2.2.1 = _; omega, show (gup S.1 S.2.1 (.inl (t, n.toNatClampNeg, .inr (.inr (.inr (.inr (fun _ => none)))))), S.2.1 + 1, S.2.2.1 + 1, S.2.2.2 + n.toNatClampNeg).2.2.2 - S0.2.2.2 = S.2.2.2 - S0.2.2.2 + n.toNatClampNeg by show S.2.2.2 + n.toNatClampNeg - S0.2.2.2 = _; omega] at kz
  rw [hsz]
  exact kz
theorem gK.one {t : Nat} {ty : FieldType} (h : gK D cT s) (ht : gKinds[t]? = some ty) : va_K D vwCl [(cT t, ty)] s := ⟨h.1.1, fun k q hq => by
  have hj : k = 0 := by
    have := (List.getElem?_eq_some_iff.mp hq).1
    simpa using this
  subst hj
  cases hq
  exact h.2 t ty ht⟩
theorem gA.one {H : Heap} {t : Nat} {x : vp_A} (h : gA D cT H0 S H) (ha : S.1 a = some (.inl (t, x))) : va_P D vwCl [(a, .inl (cT t, x))] H := fun k q hq => by
  have hj : k = 0 := by
    have := (List.getElem?_eq_some_iff.mp hq).1
    simpa using this
  subst hj
  cases hq
  exact (h.2.2.2 a _ ha).2
theorem g_iald (X : gX D cT p R s m args meth c cc nL own fr lo S0) {t n : Nat} (ht : gKinds[t]? = some .int) {f : Nat → Int32} (ha : S.1 a = some (.inl (t, n, .inl f))) {i : Int32} (hin : ¬ (i < 0 ∨ n ≤ i.toNatClampNeg)) (hdg : decode cc pc = .ok (.iaload, 1))
    (kk : gV D cT H0 p l e R s m args below meth c Q S0 S (F0 m (pc + 1) ls (.int (f i.toNatClampNeg) :: rest))) : gV D cT H0 p l e R s m args below meth c Q S0 S (F0 m pc ls (.int i :: va_rf (some a) :: rest)) := by
  obtain ⟨hx, hb, hml, hown, hts, hK, -⟩ := X
  intro H locs hA h2 h3 h4
  exact va_iald hx hb (hK.one ht) (hA.one ha) 0 0 rfl rfl hin hdg (kk H locs hA h2 h3 h4)
theorem g_bald (X : gX D cT p R s m args meth c cc nL own fr lo S0) {t n : Nat} (ht : gKinds[t]? = some .byte) {f : Nat → Int32} (ha : S.1 a = some (.inl (t, n, .inl f))) {i : Int32} (hin : ¬ (i < 0 ∨ n ≤ i.toNatClampNeg)) (hdg : decode cc pc = .ok (.baload, 1))
    (kk : gV D cT H0 p l e R s m args below meth c Q S0 S (F0 m (pc + 1) ls (.int (f i.toNatClampNeg) :: rest))) : gV D cT H0 p l e R s m args below meth c Q S0 S (F0 m pc ls (.int i :: va_rf (some a) :: rest)) := by
  obtain ⟨hx, hb, hml, hown, hts, hK, -⟩ := X
  intro H locs hA h2 h3 h4
  exact va_bald hx hb (hK.one ht) (hA.one ha) 0 0 rfl rfl hin hdg (kk H locs hA h2 h3 h4)
theorem g_zald (X : gX D cT p R s m args meth c cc nL own fr lo S0) {t n : Nat} (ht : gKinds[t]? = some .boolean) {f : Nat → Int32} (ha : S.1 a = some (.inl (t, n, .inl f))) {i : Int32} (hin : ¬ (i < 0 ∨ n ≤ i.toNatClampNeg)) (hdg : decode cc pc = .ok (.baload, 1))
    (kk : gV D cT H0 p l e R s m args below meth c Q S0 S (F0 m (pc + 1) ls (.int (f i.toNatClampNeg) :: rest))) : gV D cT H0 p l e R s m args below meth c Q S0 S (F0 m pc ls (.int i :: va_rf (some a) :: rest)) := by
  obtain ⟨hx, hb, hml, hown, hts, hK, -⟩ := X
  intro H locs hA h2 h3 h4
  exact va_zald hx hb (hK.one ht) (hA.one ha) 0 0 rfl rfl hin hdg (kk H locs hA h2 h3 h4)
theorem g_lald (X : gX D cT p R s m args meth c cc nL own fr lo S0) {t n : Nat} (ht : gKinds[t]? = some .long) {f : Nat → Int64} (ha : S.1 a = some (.inl (t, n, .inr (.inl f)))) {i : Int32} (hin : ¬ (i < 0 ∨ n ≤ i.toNatClampNeg)) (hdg : decode cc pc = .ok (.laload, 1))
    (kk : gV D cT H0 p l e R s m args below meth c Q S0 S (F0 m (pc + 1) ls (.long (f i.toNatClampNeg) :: rest))) : gV D cT H0 p l e R s m args below meth c Q S0 S (F0 m pc ls (.int i :: va_rf (some a) :: rest)) := by
  obtain ⟨hx, hb, hml, hown, hts, hK, -⟩ := X
  intro H locs hA h2 h3 h4
  exact va_lald hx hb (hK.one ht) (hA.one ha) 0 0 rfl rfl hin hdg (kk H locs hA h2 h3 h4)
theorem g_aald (X : gX D cT p R s m args meth c cc nL own fr lo S0) {t n : Nat} {C : String} (ht : gKinds[t]? = some (.object C)) {f : Nat → Option Nat} (ha : S.1 a = some (.inl (t, n, .inr (.inr (.inr (.inr f)))))) {i : Int32} (hin : ¬ (i < 0 ∨ n ≤ i.toNatClampNeg)) (hdg : decode cc pc = .ok (.aaload, 1))
    (kk : gV D cT H0 p l e R s m args below meth c Q S0 S (F0 m (pc + 1) ls (va_rf (f i.toNatClampNeg) :: rest))) : gV D cT H0 p l e R s m args below meth c Q S0 S (F0 m pc ls (.int i :: va_rf (some a) :: rest)) := by
  obtain ⟨hx, hb, hml, hown, hts, hK, -⟩ := X
  intro H locs hA h2 h3 h4
  exact va_aldq hx hb (hK.one ht) (hA.one ha) 0 0 rfl rfl hin hdg (kk H locs hA h2 h3 h4)
theorem g_alen (X : gX D cT p R s m args meth c cc nL own fr lo S0) {t : Nat} {x : vp_A} {ty : FieldType} (ht : gKinds[t]? = some ty) (ha : S.1 a = some (.inl (t, x))) (hdg : decode cc pc = .ok (.arraylength, 1))
    (kk : gV D cT H0 p l e R s m args below meth c Q S0 S (F0 m (pc + 1) ls (.int (nI x.1) :: rest))) : gV D cT H0 p l e R s m args below meth c Q S0 S (F0 m pc ls (va_rf (some a) :: rest)) := by
  obtain ⟨hx, hb, hml, hown, hts, hK, -⟩ := X
  intro H locs hA h2 h3 h4
  exact va_alen (v := nI x.1) hx hb (hK.one ht) (hA.one ha) 0 0 rfl rfl rfl hdg (kk H locs hA h2 h3 h4)
theorem g_in {n : Nat} {z : Nat → Value} {i : Int32} {cA : ClassId} (hin : ¬ (i < 0 ∨ n ≤ i.toNatClampNeg)) : ¬ (i < 0 ∨ (arrV cA n z).slots.size ≤ i.toNatClampNeg) := by rw [arrV_size]; exact hin
theorem g_lc {locs : List Loc} {b k : Nat} {z : Nat} (h2 : ∀ q ∈ locs, z ≤ q.base) (hb : z ≤ b) : ∀ q ∈ locs ++ [⟨b, k⟩], z ≤ q.base := by
  intro q hq
  rcases List.mem_append.mp hq with h9 | h9
  · exact h2 q h9
  · rw [List.mem_singleton.mp h9]; exact hb
theorem g_iast (X : gX D cT p R s m args meth c cc nL own fr lo S0) {t n : Nat} (ht : gKinds[t]? = some .int) {f : Nat → Int32} (ha : S.1 a = some (.inl (t, n, .inl f))) {i x : Int32} (hin : ¬ (i < 0 ∨ n ≤ i.toNatClampNeg)) (hdg : decode cc pc = .ok (.iastore, 1))
    (kk : gV D cT H0 p l e R s m args below meth c Q S0 (gup S.1 a (.inl (t, n, .inl (upd f i.toNatClampNeg x))), S.2) (F0 m (pc + 1) ls rest)) : gV D cT H0 p l e R s m args below meth c Q S0 S (F0 m pc ls (.int x :: .int i :: va_rf (some a) :: rest)) := by
  obtain ⟨hx, hb, hml, hown, hts, hK, -⟩ := X
  intro H locs hA h2 h3 h4
  obtain ⟨hz, hP⟩ := hA.2.2.2 a _ ha
  refine W.iast hx hb hP ((hK.2 t _ ht).1 n (fun j => .int (f j))) (fun q => by cases q) (g_in hin) rfl rfl hdg fun H1 e z oq => ?_
  refine kk H1 _ (hA.set ha ?_ z oq) (g_lc h2 hz) h3 h4
  show H1[a]? = some (vp_cell _ _)
  rw [e, vp_cell_i, vp_cell_i, arrV_store]
  congr 2
  funext q
  by_cases hq : q = i.toNatClampNeg
  · subst hq; simp [updV, upd]
  · simp [updV, upd, hq]
theorem g_bast (X : gX D cT p R s m args meth c cc nL own fr lo S0) {t n : Nat} (ht : gKinds[t]? = some .byte) {f : Nat → Int32} (ha : S.1 a = some (.inl (t, n, .inl f))) {i x : Int32} (hin : ¬ (i < 0 ∨ n ≤ i.toNatClampNeg)) (hdg : decode cc pc = .ok (.bastore, 1))
    (kk : gV D cT H0 p l e R s m args below meth c Q S0 (gup S.1 a (.inl (t, n, .inl (upd f i.toNatClampNeg x.toInt8.toInt32))), S.2) (F0 m (pc + 1) ls rest)) : gV D cT H0 p l e R s m args below meth c Q S0 S (F0 m pc ls (.int x :: .int i :: va_rf (some a) :: rest)) := by
  obtain ⟨hx, hb, hml, hown, hts, hK, -⟩ := X
  intro H locs hA h2 h3 h4
  obtain ⟨hz, hP⟩ := hA.2.2.2 a _ ha
  refine W.bast hx hb hP ((hK.2 t _ ht).1 n (fun j => .int (f j))) (fun q => by cases q) (g_in hin) rfl rfl hdg fun H1 e z oq => ?_
  refine kk H1 _ (hA.set ha ?_ z oq) (g_lc h2 hz) h3 h4
  show H1[a]? = some (vp_cell _ _)
  rw [e, vp_cell_i, vp_cell_i, arrV_store]
  congr 2
  funext q
  by_cases hq : q = i.toNatClampNeg
  · subst hq; simp [updV, upd, narrow]
  · simp [updV, upd, hq]
theorem g_last (X : gX D cT p R s m args meth c cc nL own fr lo S0) {t n : Nat} (ht : gKinds[t]? = some .long) {f : Nat → Int64} (ha : S.1 a = some (.inl (t, n, .inr (.inl f)))) {i : Int32} {x : Int64} (hin : ¬ (i < 0 ∨ n ≤ i.toNatClampNeg)) (hdg : decode cc pc = .ok (.lastore, 1))
    (kk : gV D cT H0 p l e R s m args below meth c Q S0 (gup S.1 a (.inl (t, n, .inr (.inl (vp_updL f i.toNatClampNeg x)))), S.2) (F0 m (pc + 1) ls rest)) : gV D cT H0 p l e R s m args below meth c Q S0 S (F0 m pc ls (.long x :: .int i :: va_rf (some a) :: rest)) := by
  obtain ⟨hx, hb, hml, hown, hts, hK, -⟩ := X
  intro H locs hA h2 h3 h4
  obtain ⟨hz, hP⟩ := hA.2.2.2 a _ ha
  refine W.last hx hb hP ((hK.2 t _ ht).1 n (fun j => .long (f j))) (fun q => by cases q) (g_in hin) rfl rfl hdg fun H1 e z oq => ?_
  refine kk H1 _ (hA.set ha ?_ z oq) (g_lc h2 hz) h3 h4
  show H1[a]? = some (vp_cell _ _)
  rw [e, vp_cell_l, vp_cell_l, arrV_store]
  congr 2
  funext q
  by_cases hq : q = i.toNatClampNeg
  · subst hq; simp [updV, vp_updL]
  · simp [updV, vp_updL, hq]
theorem g_aast (X : gX D cT p R s m args meth c cc nL own fr lo S0) {t n ci v : Nat} {C : String} {T : u_T} {N : Nat} {ty : Nat → FieldType} (hC : gCl ci C T N ty) (ht : gKinds[t]? = some (.object C)) {f : Nat → Option Nat} (ha : S.1 a = some (.inl (t, n, .inr (.inr (.inr (.inr f)))))) {vs : List Value} (hv : S.1 v = some (.inr (ci, vs))) {i : Int32} (hin : ¬ (i < 0 ∨ n ≤ i.toNatClampNeg)) (hdg : decode cc pc = .ok (.aastore, 1))
    (kk : gV D cT H0 p l e R s m args below meth c Q S0 (gup S.1 a (.inl (t, n, .inr (.inr (.inr (.inr (va_up f i.toNatClampNeg (some v))))))), S.2) (F0 m (pc + 1) ls rest)) : gV D cT H0 p l e R s m args below meth c Q S0 S (F0 m pc ls (va_rf (some v) :: .int i :: va_rf (some a) :: rest)) := by
  obtain ⟨hx, hb, hml, hown, hts, hK, -⟩ := X
  obtain ⟨hc, -⟩ := hC
  intro H locs hA h2 h3 h4
  obtain ⟨hz, hP⟩ := hA.2.2.2 a _ ha
  obtain ⟨-, r', hr', cellV, g1, g2, g3, -⟩ := hA.2.2.2 v _ hv
  have hcls := (hK.1.1 ci _ hc).2
  obtain ⟨kA, comp, k1, k2, k3, -⟩ := (hK.2 t _ ht).2
  have hcomp : comp = D.1 ci := Option.some.inj (k3.symm.trans hcls.1)
  subst hcomp
  have hcls2 := hcls
  obtain ⟨kC, hkC, -⟩ := hcls.2
  refine W.aast hx hb hP (fun q h => by cases h) (fun h => by cases h) k1 k2 rfl hkC ⟨fun q => hin (Or.inl q), by show _ < (arrV _ _ _).slots.size; rw [arrV_size]; exact Nat.not_le.mp fun q => hin (Or.inr q)⟩ g1 (fun q h => by rw [g3] at h; cases h) (by rw [g2]; exact hkC) (by rw [g2]; exact va_assign hcls2) rfl rfl hdg fun H1 e z oq => ?_
  refine kk H1 _ (hA.set ha ?_ z oq) (g_lc h2 hz) h3 h4
  show H1[a]? = some (vp_cell _ _)
  rw [e, vp_cell_q, vp_cell_q, arrV_store]
  congr 2
  funext q
  by_cases hq : q = i.toNatClampNeg
  · subst hq; simp [updV, va_up, va_rf]
  · simp [updV, va_up, hq]
/-- locals that are references or null -/
theorem g_aload_n (hx : p.tables.exec = Jvm.exec) (hb : c.code = cc) {k : Fin 4} {i : Nat} {r : Option Nat} {H : Heap} {locs : List Loc} {cells slots : Nat} (hdg : decode cc pc = .ok (.aload_n k, 1)) (hi : (k : Nat) = i) (hl : ls[i]? = some (.val (va_rf r)))
    (kk : W p l e R s m args below meth c H locs cells slots Q (F0 m (pc + 1) ls (va_rf r :: rest))) : W p l e R s m args below meth c H locs cells slots Q (F0 m pc ls rest) := by
  cases r with
  | none => exact lv_aload_nN hx hb hdg hi hl kk
  | some x => exact lv_aload_n hx hb hdg hi hl kk
theorem g_aload (hx : p.tables.exec = Jvm.exec) (hb : c.code = cc) {i : Nat} {r : Option Nat} {H : Heap} {locs : List Loc} {cells slots : Nat} (hdg : decode cc pc = .ok (.aload i, 2)) (hl : ls[i]? = some (.val (va_rf r)))
    (kk : W p l e R s m args below meth c H locs cells slots Q (F0 m (pc + 2) ls (va_rf r :: rest))) : W p l e R s m args below meth c H locs cells slots Q (F0 m pc ls rest) := by
  cases r with
  | none => exact lv_aloadN hx hb hdg hl kk
  | some x => exact lv_aload hx hb hdg hl kk
theorem g_astore_n (hx : p.tables.exec = Jvm.exec) (hb : c.code = cc) {k : Fin 4} {i : Nat} {r : Option Nat} {lv lv' : List (Nat × Value)} {H : Heap} {locs : List Loc} {cells slots : Nat} (hdg : decode cc pc = .ok (.astore_n k, 1)) (hi : (k : Nat) = i) (h : lv_has ls nL lv) (hn : i < nL) (hl : (i, va_rf r) :: lv.filter (fun q => !(q.1 == i) && !(q.1 + 1 == i && q.2.category == 2)) = lv')
    (kk : ∀ ls' : Array Slot, lv_has ls' nL lv' → W p l e R s m args below meth c H locs cells slots Q (F0 m (pc + 1) ls' rest)) : W p l e R s m args below meth c H locs cells slots Q (F0 m pc ls (va_rf r :: rest)) := by
  cases r with
  | none => exact lv_astore_nN hx hb hdg hi h hn hl kk
  | some x => exact lv_astore_n hx hb hdg hi h hn hl kk
theorem g_astore (hx : p.tables.exec = Jvm.exec) (hb : c.code = cc) {i : Nat} {r : Option Nat} {lv lv' : List (Nat × Value)} {H : Heap} {locs : List Loc} {cells slots : Nat} (hdg : decode cc pc = .ok (.astore i, 2)) (h : lv_has ls nL lv) (hn : i < nL) (hl : (i, va_rf r) :: lv.filter (fun q => !(q.1 == i) && !(q.1 + 1 == i && q.2.category == 2)) = lv')
    (kk : ∀ ls' : Array Slot, lv_has ls' nL lv' → W p l e R s m args below meth c H locs cells slots Q (F0 m (pc + 2) ls' rest)) : W p l e R s m args below meth c H locs cells slots Q (F0 m pc ls (va_rf r :: rest)) := by
  cases r with
  | none => exact lv_astoreN hx hb hdg h hn hl kk
  | some x => exact lv_astore hx hb hdg h hn hl kk
end GV
end
