section
-- ===== PART A: goes FIRST, ahead of the names: the tables' words, and 'selects' of the private methods out of them =====
/-- a private method of a class that the tables say can be made, by its rows of tables_1 -/
def lw_okq (q : MethodName × Nat) : Prop := (q.1.cls ≠ "java/lang/invoke/MethodHandle" ∧ q.1.cls ≠ "java/lang/invoke/VarHandle") ∧ Cond.instantiable q.1.cls q.2 ∈ tables_1 ∧ Cond.privateMethod q.1 ∈ tables_1 ∧ Cond.instanceMethod q.1 ∈ tables_1
theorem lw_p0 : lw_okq (⟨"java/lang/Throwable", "fillInStackTrace", "(I)Ljava/lang/Throwable;"⟩, 6) := ⟨⟨by decide +kernel, by decide +kernel⟩, List.mem_of_getElem? (i := 185) (by decide +kernel), List.mem_of_getElem? (i := 183) (by decide +kernel), List.mem_of_getElem? (i := 184) (by decide +kernel)⟩
theorem lw_p1 : lw_okq (⟨"PlanText$Reader", "nextSign", "()I"⟩, 4) := ⟨⟨by decide +kernel, by decide +kernel⟩, List.mem_of_getElem? (i := 245) (by decide +kernel), List.mem_of_getElem? (i := 274) (by decide +kernel), List.mem_of_getElem? (i := 275) (by decide +kernel)⟩
theorem lw_p2 : lw_okq (⟨"PlanText$Reader", "takes", "(C)Z"⟩, 4) := ⟨⟨by decide +kernel, by decide +kernel⟩, List.mem_of_getElem? (i := 245) (by decide +kernel), List.mem_of_getElem? (i := 278) (by decide +kernel), List.mem_of_getElem? (i := 279) (by decide +kernel)⟩
theorem lw_p3 : lw_okq (⟨"PlanText$Reader", "readPlan", "(LPlanText$Edition;)V"⟩, 4) := ⟨⟨by decide +kernel, by decide +kernel⟩, List.mem_of_getElem? (i := 245) (by decide +kernel), List.mem_of_getElem? (i := 282) (by decide +kernel), List.mem_of_getElem? (i := 283) (by decide +kernel)⟩
theorem lw_p4 : lw_okq (⟨"PlanText$Reader", "readNumber", "(II)I"⟩, 4) := ⟨⟨by decide +kernel, by decide +kernel⟩, List.mem_of_getElem? (i := 245) (by decide +kernel), List.mem_of_getElem? (i := 286) (by decide +kernel), List.mem_of_getElem? (i := 287) (by decide +kernel)⟩
theorem lw_p5 : lw_okq (⟨"PlanText$Reader", "fail", "(I)V"⟩, 4) := ⟨⟨by decide +kernel, by decide +kernel⟩, List.mem_of_getElem? (i := 245) (by decide +kernel), List.mem_of_getElem? (i := 293) (by decide +kernel), List.mem_of_getElem? (i := 294) (by decide +kernel)⟩
theorem lw_p6 : lw_okq (⟨"PlanText$Reader", "byteAt", "(I)I"⟩, 4) := ⟨⟨by decide +kernel, by decide +kernel⟩, List.mem_of_getElem? (i := 245) (by decide +kernel), List.mem_of_getElem? (i := 297) (by decide +kernel), List.mem_of_getElem? (i := 298) (by decide +kernel)⟩
theorem lw_p7 : lw_okq (⟨"PlanText$Reader", "expect", "(C)V"⟩, 4) := ⟨⟨by decide +kernel, by decide +kernel⟩, List.mem_of_getElem? (i := 245) (by decide +kernel), List.mem_of_getElem? (i := 305) (by decide +kernel), List.mem_of_getElem? (i := 306) (by decide +kernel)⟩
theorem lw_p8 : lw_okq (⟨"PlanText$Reader", "readStretch", "()LPlanText$Stretch;"⟩, 4) := ⟨⟨by decide +kernel, by decide +kernel⟩, List.mem_of_getElem? (i := 245) (by decide +kernel), List.mem_of_getElem? (i := 309) (by decide +kernel), List.mem_of_getElem? (i := 310) (by decide +kernel)⟩
theorem lw_p9 : lw_okq (⟨"PlanText$Reader", "readHours", "()LPlanText$Hours;"⟩, 4) := ⟨⟨by decide +kernel, by decide +kernel⟩, List.mem_of_getElem? (i := 245) (by decide +kernel), List.mem_of_getElem? (i := 335) (by decide +kernel), List.mem_of_getElem? (i := 336) (by decide +kernel)⟩
theorem lw_p10 : lw_okq (⟨"PlanText$Reader", "readNeeds", "()LPlanText$NeedList;"⟩, 4) := ⟨⟨by decide +kernel, by decide +kernel⟩, List.mem_of_getElem? (i := 245) (by decide +kernel), List.mem_of_getElem? (i := 368) (by decide +kernel), List.mem_of_getElem? (i := 369) (by decide +kernel)⟩
theorem lw_p11 : lw_okq (⟨"PlanText$Reader", "readNeed", "()LPlanText$Need;"⟩, 4) := ⟨⟨by decide +kernel, by decide +kernel⟩, List.mem_of_getElem? (i := 245) (by decide +kernel), List.mem_of_getElem? (i := 374) (by decide +kernel), List.mem_of_getElem? (i := 375) (by decide +kernel)⟩
theorem lw_p12 : lw_okq (⟨"PlanText$Reader", "readSkill", "(I)I"⟩, 4) := ⟨⟨by decide +kernel, by decide +kernel⟩, List.mem_of_getElem? (i := 245) (by decide +kernel), List.mem_of_getElem? (i := 378) (by decide +kernel), List.mem_of_getElem? (i := 379) (by decide +kernel)⟩
theorem lw_p13 : lw_okq (⟨"PlanText$Reader", "readDefault", "(LPlanText$Edition;)V"⟩, 4) := ⟨⟨by decide +kernel, by decide +kernel⟩, List.mem_of_getElem? (i := 245) (by decide +kernel), List.mem_of_getElem? (i := 457) (by decide +kernel), List.mem_of_getElem? (i := 458) (by decide +kernel)⟩
theorem lw_p14 : lw_okq (⟨"PlanText$Reader", "readStandby", "(LPlanText$Edition;)V"⟩, 4) := ⟨⟨by decide +kernel, by decide +kernel⟩, List.mem_of_getElem? (i := 245) (by decide +kernel), List.mem_of_getElem? (i := 473) (by decide +kernel), List.mem_of_getElem? (i := 474) (by decide +kernel)⟩
theorem lw_p15 : lw_okq (⟨"PlanText", "editionOf", "(I)LPlanText$Edition;"⟩, 11) := ⟨⟨by decide +kernel, by decide +kernel⟩, List.mem_of_getElem? (i := 21) (by decide +kernel), List.mem_of_getElem? (i := 558) (by decide +kernel), List.mem_of_getElem? (i := 559) (by decide +kernel)⟩
def lw_privs_1 : List (MethodName × Nat) := [(⟨"java/lang/Throwable", "fillInStackTrace", "(I)Ljava/lang/Throwable;"⟩, 6), (⟨"PlanText$Reader", "nextSign", "()I"⟩, 4), (⟨"PlanText$Reader", "takes", "(C)Z"⟩, 4), (⟨"PlanText$Reader", "readPlan", "(LPlanText$Edition;)V"⟩, 4), (⟨"PlanText$Reader", "readNumber", "(II)I"⟩, 4), (⟨"PlanText$Reader", "fail", "(I)V"⟩, 4), (⟨"PlanText$Reader", "byteAt", "(I)I"⟩, 4), (⟨"PlanText$Reader", "expect", "(C)V"⟩, 4), (⟨"PlanText$Reader", "readStretch", "()LPlanText$Stretch;"⟩, 4), (⟨"PlanText$Reader", "readHours", "()LPlanText$Hours;"⟩, 4), (⟨"PlanText$Reader", "readNeeds", "()LPlanText$NeedList;"⟩, 4), (⟨"PlanText$Reader", "readNeed", "()LPlanText$Need;"⟩, 4), (⟨"PlanText$Reader", "readSkill", "(I)I"⟩, 4), (⟨"PlanText$Reader", "readDefault", "(LPlanText$Edition;)V"⟩, 4), (⟨"PlanText$Reader", "readStandby", "(LPlanText$Edition;)V"⟩, 4), (⟨"PlanText", "editionOf", "(I)LPlanText$Edition;"⟩, 11)]
theorem lw_r1 : ∀ q ∈ lw_privs_1, lw_okq q := List.forall_mem_cons.mpr ⟨lw_p0, List.forall_mem_cons.mpr ⟨lw_p1, List.forall_mem_cons.mpr ⟨lw_p2, List.forall_mem_cons.mpr ⟨lw_p3, List.forall_mem_cons.mpr ⟨lw_p4, List.forall_mem_cons.mpr ⟨lw_p5, List.forall_mem_cons.mpr ⟨lw_p6, List.forall_mem_cons.mpr ⟨lw_p7, List.forall_mem_cons.mpr ⟨lw_p8, List.forall_mem_cons.mpr ⟨lw_p9, List.forall_mem_cons.mpr ⟨lw_p10, List.forall_mem_cons.mpr ⟨lw_p11, List.forall_mem_cons.mpr ⟨lw_p12, List.forall_mem_cons.mpr ⟨lw_p13, List.forall_mem_cons.mpr ⟨lw_p14, List.forall_mem_cons.mpr ⟨lw_p15, fun _ h => absurd h List.not_mem_nil⟩⟩⟩⟩⟩⟩⟩⟩⟩⟩⟩⟩⟩⟩⟩⟩
theorem lw_p16 : lw_okq (⟨"PlanText$Edition", "isNeverMet", "(LPlanText$Plan;)Z"⟩, 7) := ⟨⟨by decide +kernel, by decide +kernel⟩, List.mem_of_getElem? (i := 30) (by decide +kernel), List.mem_of_getElem? (i := 655) (by decide +kernel), List.mem_of_getElem? (i := 656) (by decide +kernel)⟩
theorem lw_p17 : lw_okq (⟨"PlanText$Edition", "hoursLeft", "(LPlanText$Plan;I)I"⟩, 7) := ⟨⟨by decide +kernel, by decide +kernel⟩, List.mem_of_getElem? (i := 30) (by decide +kernel), List.mem_of_getElem? (i := 659) (by decide +kernel), List.mem_of_getElem? (i := 660) (by decide +kernel)⟩
theorem lw_p18 : lw_okq (⟨"PlanText$Printer", "writePlan", "(LPlanText$Plan;)V"⟩, 2) := ⟨⟨by decide +kernel, by decide +kernel⟩, List.mem_of_getElem? (i := 85) (by decide +kernel), List.mem_of_getElem? (i := 706) (by decide +kernel), List.mem_of_getElem? (i := 707) (by decide +kernel)⟩
theorem lw_p19 : lw_okq (⟨"PlanText$Printer", "writeNumber", "(CI)V"⟩, 2) := ⟨⟨by decide +kernel, by decide +kernel⟩, List.mem_of_getElem? (i := 85) (by decide +kernel), List.mem_of_getElem? (i := 710) (by decide +kernel), List.mem_of_getElem? (i := 711) (by decide +kernel)⟩
theorem lw_p20 : lw_okq (⟨"PlanText$Printer", "write", "(I)V"⟩, 2) := ⟨⟨by decide +kernel, by decide +kernel⟩, List.mem_of_getElem? (i := 85) (by decide +kernel), List.mem_of_getElem? (i := 714) (by decide +kernel), List.mem_of_getElem? (i := 715) (by decide +kernel)⟩
theorem lw_p21 : lw_okq (⟨"PlanText$Printer", "writeHours", "(LPlanText$Hours;)V"⟩, 2) := ⟨⟨by decide +kernel, by decide +kernel⟩, List.mem_of_getElem? (i := 85) (by decide +kernel), List.mem_of_getElem? (i := 719) (by decide +kernel), List.mem_of_getElem? (i := 720) (by decide +kernel)⟩
theorem lw_p22 : lw_okq (⟨"PlanText$Printer", "writeNeeds", "(LPlanText$NeedList;)V"⟩, 2) := ⟨⟨by decide +kernel, by decide +kernel⟩, List.mem_of_getElem? (i := 85) (by decide +kernel), List.mem_of_getElem? (i := 723) (by decide +kernel), List.mem_of_getElem? (i := 724) (by decide +kernel)⟩
theorem lw_p23 : lw_okq (⟨"PlanText$Printer", "writeNeed", "(LPlanText$Need;)V"⟩, 2) := ⟨⟨by decide +kernel, by decide +kernel⟩, List.mem_of_getElem? (i := 85) (by decide +kernel), List.mem_of_getElem? (i := 728) (by decide +kernel), List.mem_of_getElem? (i := 729) (by decide +kernel)⟩
theorem lw_p24 : lw_okq (⟨"PlanText$Printer", "writeSkill", "(I)V"⟩, 2) := ⟨⟨by decide +kernel, by decide +kernel⟩, List.mem_of_getElem? (i := 85) (by decide +kernel), List.mem_of_getElem? (i := 732) (by decide +kernel), List.mem_of_getElem? (i := 733) (by decide +kernel)⟩
theorem lw_p25 : lw_okq (⟨"PlanText$Printer", "writeStandby", "(LPlanText$Standby;)V"⟩, 2) := ⟨⟨by decide +kernel, by decide +kernel⟩, List.mem_of_getElem? (i := 85) (by decide +kernel), List.mem_of_getElem? (i := 738) (by decide +kernel), List.mem_of_getElem? (i := 739) (by decide +kernel)⟩
theorem lw_p26 : lw_okq (⟨"PlanTextModel", "throwing", "(ZZZ)Z"⟩, 26) := ⟨⟨by decide +kernel, by decide +kernel⟩, List.mem_of_getElem? (i := 760) (by decide +kernel), List.mem_of_getElem? (i := 857) (by decide +kernel), List.mem_of_getElem? (i := 858) (by decide +kernel)⟩
theorem lw_p27 : lw_okq (⟨"PlanTextModel", "readAll", "()V"⟩, 26) := ⟨⟨by decide +kernel, by decide +kernel⟩, List.mem_of_getElem? (i := 760) (by decide +kernel), List.mem_of_getElem? (i := 865) (by decide +kernel), List.mem_of_getElem? (i := 866) (by decide +kernel)⟩
theorem lw_p28 : lw_okq (⟨"PlanTextModel", "see", "()I"⟩, 26) := ⟨⟨by decide +kernel, by decide +kernel⟩, List.mem_of_getElem? (i := 760) (by decide +kernel), List.mem_of_getElem? (i := 869) (by decide +kernel), List.mem_of_getElem? (i := 870) (by decide +kernel)⟩
theorem lw_p29 : lw_okq (⟨"PlanTextModel", "fail", "(I)V"⟩, 26) := ⟨⟨by decide +kernel, by decide +kernel⟩, List.mem_of_getElem? (i := 760) (by decide +kernel), List.mem_of_getElem? (i := 873) (by decide +kernel), List.mem_of_getElem? (i := 874) (by decide +kernel)⟩
theorem lw_p30 : lw_okq (⟨"PlanTextModel", "planRow", "()V"⟩, 26) := ⟨⟨by decide +kernel, by decide +kernel⟩, List.mem_of_getElem? (i := 760) (by decide +kernel), List.mem_of_getElem? (i := 877) (by decide +kernel), List.mem_of_getElem? (i := 878) (by decide +kernel)⟩
theorem lw_p31 : lw_okq (⟨"PlanTextModel", "number", "(II)I"⟩, 26) := ⟨⟨by decide +kernel, by decide +kernel⟩, List.mem_of_getElem? (i := 760) (by decide +kernel), List.mem_of_getElem? (i := 881) (by decide +kernel), List.mem_of_getElem? (i := 882) (by decide +kernel)⟩
def lw_privs_2 : List (MethodName × Nat) := [(⟨"PlanText$Edition", "isNeverMet", "(LPlanText$Plan;)Z"⟩, 7), (⟨"PlanText$Edition", "hoursLeft", "(LPlanText$Plan;I)I"⟩, 7), (⟨"PlanText$Printer", "writePlan", "(LPlanText$Plan;)V"⟩, 2), (⟨"PlanText$Printer", "writeNumber", "(CI)V"⟩, 2), (⟨"PlanText$Printer", "write", "(I)V"⟩, 2), (⟨"PlanText$Printer", "writeHours", "(LPlanText$Hours;)V"⟩, 2), (⟨"PlanText$Printer", "writeNeeds", "(LPlanText$NeedList;)V"⟩, 2), (⟨"PlanText$Printer", "writeNeed", "(LPlanText$Need;)V"⟩, 2), (⟨"PlanText$Printer", "writeSkill", "(I)V"⟩, 2), (⟨"PlanText$Printer", "writeStandby", "(LPlanText$Standby;)V"⟩, 2), (⟨"PlanTextModel", "throwing", "(ZZZ)Z"⟩, 26), (⟨"PlanTextModel", "readAll", "()V"⟩, 26), (⟨"PlanTextModel", "see", "()I"⟩, 26), (⟨"PlanTextModel", "fail", "(I)V"⟩, 26), (⟨"PlanTextModel", "planRow", "()V"⟩, 26), (⟨"PlanTextModel", "number", "(II)I"⟩, 26)]
theorem lw_r2 : ∀ q ∈ lw_privs_2, lw_okq q := List.forall_mem_cons.mpr ⟨lw_p16, List.forall_mem_cons.mpr ⟨lw_p17, List.forall_mem_cons.mpr ⟨lw_p18, List.forall_mem_cons.mpr ⟨lw_p19, List.forall_mem_cons.mpr ⟨lw_p20, List.forall_mem_cons.mpr ⟨lw_p21, List.forall_mem_cons.mpr ⟨lw_p22, List.forall_mem_cons.mpr ⟨lw_p23, List.forall_mem_cons.mpr ⟨lw_p24, List.forall_mem_cons.mpr ⟨lw_p25, List.forall_mem_cons.mpr ⟨lw_p26, List.forall_mem_cons.mpr ⟨lw_p27, List.forall_mem_cons.mpr ⟨lw_p28, List.forall_mem_cons.mpr ⟨lw_p29, List.forall_mem_cons.mpr ⟨lw_p30, List.forall_mem_cons.mpr ⟨lw_p31, fun _ h => absurd h List.not_mem_nil⟩⟩⟩⟩⟩⟩⟩⟩⟩⟩⟩⟩⟩⟩⟩⟩
theorem lw_p32 : lw_okq (⟨"PlanTextModel", "isDigit", "(I)Z"⟩, 26) := ⟨⟨by decide +kernel, by decide +kernel⟩, List.mem_of_getElem? (i := 760) (by decide +kernel), List.mem_of_getElem? (i := 885) (by decide +kernel), List.mem_of_getElem? (i := 886) (by decide +kernel)⟩
theorem lw_p33 : lw_okq (⟨"PlanTextModel", "expect", "(I)V"⟩, 26) := ⟨⟨by decide +kernel, by decide +kernel⟩, List.mem_of_getElem? (i := 760) (by decide +kernel), List.mem_of_getElem? (i := 889) (by decide +kernel), List.mem_of_getElem? (i := 890) (by decide +kernel)⟩
theorem lw_p34 : lw_okq (⟨"PlanTextModel", "goesOn", "(I)Z"⟩, 26) := ⟨⟨by decide +kernel, by decide +kernel⟩, List.mem_of_getElem? (i := 760) (by decide +kernel), List.mem_of_getElem? (i := 893) (by decide +kernel), List.mem_of_getElem? (i := 894) (by decide +kernel)⟩
theorem lw_p35 : lw_okq (⟨"PlanTextModel", "hours", "(I)V"⟩, 26) := ⟨⟨by decide +kernel, by decide +kernel⟩, List.mem_of_getElem? (i := 760) (by decide +kernel), List.mem_of_getElem? (i := 897) (by decide +kernel), List.mem_of_getElem? (i := 898) (by decide +kernel)⟩
theorem lw_p36 : lw_okq (⟨"PlanTextModel", "needsOf", "(I)V"⟩, 26) := ⟨⟨by decide +kernel, by decide +kernel⟩, List.mem_of_getElem? (i := 760) (by decide +kernel), List.mem_of_getElem? (i := 901) (by decide +kernel), List.mem_of_getElem? (i := 902) (by decide +kernel)⟩
theorem lw_p37 : lw_okq (⟨"PlanTextModel", "oneNeed", "(I)V"⟩, 26) := ⟨⟨by decide +kernel, by decide +kernel⟩, List.mem_of_getElem? (i := 760) (by decide +kernel), List.mem_of_getElem? (i := 905) (by decide +kernel), List.mem_of_getElem? (i := 906) (by decide +kernel)⟩
theorem lw_p38 : lw_okq (⟨"PlanTextModel", "letter", "()I"⟩, 26) := ⟨⟨by decide +kernel, by decide +kernel⟩, List.mem_of_getElem? (i := 760) (by decide +kernel), List.mem_of_getElem? (i := 909) (by decide +kernel), List.mem_of_getElem? (i := 910) (by decide +kernel)⟩
theorem lw_p39 : lw_okq (⟨"PlanTextModel", "defaultRow", "()V"⟩, 26) := ⟨⟨by decide +kernel, by decide +kernel⟩, List.mem_of_getElem? (i := 760) (by decide +kernel), List.mem_of_getElem? (i := 913) (by decide +kernel), List.mem_of_getElem? (i := 914) (by decide +kernel)⟩
theorem lw_p40 : lw_okq (⟨"PlanTextModel", "standbyRow", "()V"⟩, 26) := ⟨⟨by decide +kernel, by decide +kernel⟩, List.mem_of_getElem? (i := 760) (by decide +kernel), List.mem_of_getElem? (i := 917) (by decide +kernel), List.mem_of_getElem? (i := 918) (by decide +kernel)⟩
theorem lw_p41 : lw_okq (⟨"PlanTextModel", "plansOf", "(I)I"⟩, 26) := ⟨⟨by decide +kernel, by decide +kernel⟩, List.mem_of_getElem? (i := 760) (by decide +kernel), List.mem_of_getElem? (i := 921) (by decide +kernel), List.mem_of_getElem? (i := 922) (by decide +kernel)⟩
theorem lw_p42 : lw_okq (⟨"PlanTextModel", "editionOf", "(I)I"⟩, 26) := ⟨⟨by decide +kernel, by decide +kernel⟩, List.mem_of_getElem? (i := 760) (by decide +kernel), List.mem_of_getElem? (i := 940) (by decide +kernel), List.mem_of_getElem? (i := 941) (by decide +kernel)⟩
theorem lw_p43 : lw_okq (⟨"PlanTextModel", "best", "(IIIII)I"⟩, 26) := ⟨⟨by decide +kernel, by decide +kernel⟩, List.mem_of_getElem? (i := 760) (by decide +kernel), List.mem_of_getElem? (i := 944) (by decide +kernel), List.mem_of_getElem? (i := 945) (by decide +kernel)⟩
theorem lw_p44 : lw_okq (⟨"PlanTextModel", "fits", "(IIIII)Z"⟩, 26) := ⟨⟨by decide +kernel, by decide +kernel⟩, List.mem_of_getElem? (i := 760) (by decide +kernel), List.mem_of_getElem? (i := 948) (by decide +kernel), List.mem_of_getElem? (i := 949) (by decide +kernel)⟩
theorem lw_p45 : lw_okq (⟨"PlanTextModel", "clashes", "(II)Z"⟩, 26) := ⟨⟨by decide +kernel, by decide +kernel⟩, List.mem_of_getElem? (i := 760) (by decide +kernel), List.mem_of_getElem? (i := 967) (by decide +kernel), List.mem_of_getElem? (i := 968) (by decide +kernel)⟩
theorem lw_p46 : lw_okq (⟨"PlanTextModel", "isMet", "(II)Z"⟩, 26) := ⟨⟨by decide +kernel, by decide +kernel⟩, List.mem_of_getElem? (i := 760) (by decide +kernel), List.mem_of_getElem? (i := 975) (by decide +kernel), List.mem_of_getElem? (i := 976) (by decide +kernel)⟩
theorem lw_p47 : lw_okq (⟨"PlanTextModel", "free", "(I)I"⟩, 26) := ⟨⟨by decide +kernel, by decide +kernel⟩, List.mem_of_getElem? (i := 760) (by decide +kernel), List.mem_of_getElem? (i := 979) (by decide +kernel), List.mem_of_getElem? (i := 980) (by decide +kernel)⟩
def lw_privs_3 : List (MethodName × Nat) := [(⟨"PlanTextModel", "isDigit", "(I)Z"⟩, 26), (⟨"PlanTextModel", "expect", "(I)V"⟩, 26), (⟨"PlanTextModel", "goesOn", "(I)Z"⟩, 26), (⟨"PlanTextModel", "hours", "(I)V"⟩, 26), (⟨"PlanTextModel", "needsOf", "(I)V"⟩, 26), (⟨"PlanTextModel", "oneNeed", "(I)V"⟩, 26), (⟨"PlanTextModel", "letter", "()I"⟩, 26), (⟨"PlanTextModel", "defaultRow", "()V"⟩, 26), (⟨"PlanTextModel", "standbyRow", "()V"⟩, 26), (⟨"PlanTextModel", "plansOf", "(I)I"⟩, 26), (⟨"PlanTextModel", "editionOf", "(I)I"⟩, 26), (⟨"PlanTextModel", "best", "(IIIII)I"⟩, 26), (⟨"PlanTextModel", "fits", "(IIIII)Z"⟩, 26), (⟨"PlanTextModel", "clashes", "(II)Z"⟩, 26), (⟨"PlanTextModel", "isMet", "(II)Z"⟩, 26), (⟨"PlanTextModel", "free", "(I)I"⟩, 26)]
theorem lw_r3 : ∀ q ∈ lw_privs_3, lw_okq q := List.forall_mem_cons.mpr ⟨lw_p32, List.forall_mem_cons.mpr ⟨lw_p33, List.forall_mem_cons.mpr ⟨lw_p34, List.forall_mem_cons.mpr ⟨lw_p35, List.forall_mem_cons.mpr ⟨lw_p36, List.forall_mem_cons.mpr ⟨lw_p37, List.forall_mem_cons.mpr ⟨lw_p38, List.forall_mem_cons.mpr ⟨lw_p39, List.forall_mem_cons.mpr ⟨lw_p40, List.forall_mem_cons.mpr ⟨lw_p41, List.forall_mem_cons.mpr ⟨lw_p42, List.forall_mem_cons.mpr ⟨lw_p43, List.forall_mem_cons.mpr ⟨lw_p44, List.forall_mem_cons.mpr ⟨lw_p45, List.forall_mem_cons.mpr ⟨lw_p46, List.forall_mem_cons.mpr ⟨lw_p47, fun _ h => absurd h List.not_mem_nil⟩⟩⟩⟩⟩⟩⟩⟩⟩⟩⟩⟩⟩⟩⟩⟩
theorem lw_p48 : lw_okq (⟨"PlanTextModel", "isShort", "(I)Z"⟩, 26) := ⟨⟨by decide +kernel, by decide +kernel⟩, List.mem_of_getElem? (i := 760) (by decide +kernel), List.mem_of_getElem? (i := 987) (by decide +kernel), List.mem_of_getElem? (i := 988) (by decide +kernel)⟩
theorem lw_p49 : lw_okq (⟨"PlanTextModel", "putPlan", "(I)V"⟩, 26) := ⟨⟨by decide +kernel, by decide +kernel⟩, List.mem_of_getElem? (i := 760) (by decide +kernel), List.mem_of_getElem? (i := 995) (by decide +kernel), List.mem_of_getElem? (i := 996) (by decide +kernel)⟩
theorem lw_p50 : lw_okq (⟨"PlanTextModel", "putNumber", "(II)V"⟩, 26) := ⟨⟨by decide +kernel, by decide +kernel⟩, List.mem_of_getElem? (i := 760) (by decide +kernel), List.mem_of_getElem? (i := 999) (by decide +kernel), List.mem_of_getElem? (i := 1000) (by decide +kernel)⟩
theorem lw_p51 : lw_okq (⟨"PlanTextModel", "put", "(I)V"⟩, 26) := ⟨⟨by decide +kernel, by decide +kernel⟩, List.mem_of_getElem? (i := 760) (by decide +kernel), List.mem_of_getElem? (i := 1003) (by decide +kernel), List.mem_of_getElem? (i := 1004) (by decide +kernel)⟩
theorem lw_p52 : lw_okq (⟨"PlanTextModel", "putNeeds", "(I)V"⟩, 26) := ⟨⟨by decide +kernel, by decide +kernel⟩, List.mem_of_getElem? (i := 760) (by decide +kernel), List.mem_of_getElem? (i := 1007) (by decide +kernel), List.mem_of_getElem? (i := 1008) (by decide +kernel)⟩
def lw_privs_4 : List (MethodName × Nat) := [(⟨"PlanTextModel", "isShort", "(I)Z"⟩, 26), (⟨"PlanTextModel", "putPlan", "(I)V"⟩, 26), (⟨"PlanTextModel", "putNumber", "(II)V"⟩, 26), (⟨"PlanTextModel", "put", "(I)V"⟩, 26), (⟨"PlanTextModel", "putNeeds", "(I)V"⟩, 26)]
theorem lw_r4 : ∀ q ∈ lw_privs_4, lw_okq q := List.forall_mem_cons.mpr ⟨lw_p48, List.forall_mem_cons.mpr ⟨lw_p49, List.forall_mem_cons.mpr ⟨lw_p50, List.forall_mem_cons.mpr ⟨lw_p51, List.forall_mem_cons.mpr ⟨lw_p52, fun _ h => absurd h List.not_mem_nil⟩⟩⟩⟩⟩
def lw_privs : List (MethodName × Nat) := lw_privs_1 ++ (lw_privs_2 ++ (lw_privs_3 ++ (lw_privs_4)))
def lw_tbl : List Cond := k2_sels lw_privs ++ tables_1
theorem lw_privs_ok : ∀ q ∈ lw_privs, lw_okq q := by
  show ∀ q ∈ lw_privs_1 ++ (lw_privs_2 ++ (lw_privs_3 ++ (lw_privs_4))), lw_okq q
  exact List.forall_mem_append.mpr ⟨lw_r1, List.forall_mem_append.mpr ⟨lw_r2, List.forall_mem_append.mpr ⟨lw_r3, lw_r4⟩⟩⟩
def lw_good : List Cond := lw_tbl.filter goodWord
end
section
def T_PT : u_T := fun k => match k with
  | 0 => ("PlanText", "tape", "[B", true)
  | 1 => ("PlanText", "tapeLength", "I", false)
  | 2 => ("PlanText", "wrongPlace", "I", false)
  | 3 => ("PlanText", "units", "[I", true)
  | 4 => ("PlanText", "editions", "[LPlanText$Edition;", true)
  | 5 => ("PlanText", "editionCount", "I", false)
  | 6 => ("PlanText", "noRows", "LPlanText$Edition;", true)
  | 7 => ("PlanText", "latest", "LPlanText$Edition;", false)
  | 8 => ("PlanText", "noNeeds", "LPlanText$NeedList;", true)
  | 9 => ("PlanText", "toldNeeds", "LPlanText$NeedList;", false)
  | _ => ("PlanText", "printer", "LPlanText$Printer;", true)
def t_PT : Nat → FieldType := fun k => match k with
  | 0 => .array .byte
  | 1 => .int
  | 2 => .int
  | 3 => .array .int
  | 4 => .array (.object "PlanText$Edition")
  | 5 => .int
  | 6 => .object "PlanText$Edition"
  | 7 => .object "PlanText$Edition"
  | 8 => .object "PlanText$NeedList"
  | 9 => .object "PlanText$NeedList"
  | _ => .object "PlanText$Printer"
theorem t_PT_ok : ∀ k, k < 11 → parseFieldDescriptor (T_PT k).2.2.1 = some (t_PT k) := by decide +kernel
theorem n_PT : ∀ a, a < 11 → ∀ b, b < 11 → a ≠ b → (T_PT a).2.1 ≠ (T_PT b).2.1 := by decide +kernel
def T_Ed : u_T := fun k => match k with
  | 0 => ("PlanText$Edition", "day", "I", true)
  | 1 => ("PlanText$Edition", "plans", "[LPlanText$Plan;", true)
  | 2 => ("PlanText$Edition", "defaults", "[LPlanText$NeedList;", true)
  | 3 => ("PlanText$Edition", "standbyRows", "[LPlanText$Standby;", true)
  | 4 => ("PlanText$Edition", "planCount", "I", false)
  | 5 => ("PlanText$Edition", "defaultCount", "I", false)
  | _ => ("PlanText$Edition", "standbyCount", "I", false)
def t_Ed : Nat → FieldType := fun k => match k with
  | 0 => .int
  | 1 => .array (.object "PlanText$Plan")
  | 2 => .array (.object "PlanText$NeedList")
  | 3 => .array (.object "PlanText$Standby")
  | 4 => .int
  | 5 => .int
  | _ => .int
theorem t_Ed_ok : ∀ k, k < 7 → parseFieldDescriptor (T_Ed k).2.2.1 = some (t_Ed k) := by decide +kernel
theorem n_Ed : ∀ a, a < 7 → ∀ b, b < 7 → a ≠ b → (T_Ed a).2.1 ≠ (T_Ed b).2.1 := by decide +kernel
def T_Hr : u_T := fun k => match k with
  | 0 => ("PlanText$Hours", "told", "Z", true)
  | 1 => ("PlanText$Hours", "first", "I", true)
  | 2 => ("PlanText$Hours", "last", "I", true)
  | _ => ("PlanText$Hours", "bits", "I", true)
def t_Hr : Nat → FieldType := fun k => match k with
  | 0 => .boolean
  | 1 => .int
  | 2 => .int
  | _ => .int
theorem t_Hr_ok : ∀ k, k < 4 → parseFieldDescriptor (T_Hr k).2.2.1 = some (t_Hr k) := by decide +kernel
theorem n_Hr : ∀ a, a < 4 → ∀ b, b < 4 → a ≠ b → (T_Hr a).2.1 ≠ (T_Hr b).2.1 := by decide +kernel
def T_Nd : u_T := fun k => match k with
  | 0 => ("PlanText$Need", "units", "I", true)
  | 1 => ("PlanText$Need", "skill", "I", true)
  | 2 => ("PlanText$Need", "firstAlternative", "I", true)
  | 3 => ("PlanText$Need", "secondAlternative", "I", true)
  | _ => ("PlanText$Need", "limit", "I", true)
def t_Nd : Nat → FieldType := fun k => match k with
  | 0 => .int
  | 1 => .int
  | 2 => .int
  | 3 => .int
  | _ => .int
theorem t_Nd_ok : ∀ k, k < 5 → parseFieldDescriptor (T_Nd k).2.2.1 = some (t_Nd k) := by decide +kernel
theorem n_Nd : ∀ a, a < 5 → ∀ b, b < 5 → a ≠ b → (T_Nd a).2.1 ≠ (T_Nd b).2.1 := by decide +kernel
def T_NL : u_T := fun k => match k with
  | 0 => ("PlanText$NeedList", "needs", "[LPlanText$Need;", true)
  | _ => ("PlanText$NeedList", "size", "I", false)
def t_NL : Nat → FieldType := fun k => match k with
  | 0 => .array (.object "PlanText$Need")
  | _ => .int
theorem t_NL_ok : ∀ k, k < 2 → parseFieldDescriptor (T_NL k).2.2.1 = some (t_NL k) := by decide +kernel
theorem n_NL : ∀ a, a < 2 → ∀ b, b < 2 → a ≠ b → (T_NL a).2.1 ≠ (T_NL b).2.1 := by decide +kernel
def T_Pl : u_T := fun k => match k with
  | 0 => ("PlanText$Plan", "number", "I", true)
  | 1 => ("PlanText$Plan", "kind", "I", true)
  | 2 => ("PlanText$Plan", "stretch", "LPlanText$Stretch;", true)
  | 3 => ("PlanText$Plan", "hours", "LPlanText$Hours;", true)
  | 4 => ("PlanText$Plan", "rank", "I", true)
  | _ => ("PlanText$Plan", "needs", "LPlanText$NeedList;", true)
def t_Pl : Nat → FieldType := fun k => match k with
  | 0 => .int
  | 1 => .int
  | 2 => .object "PlanText$Stretch"
  | 3 => .object "PlanText$Hours"
  | 4 => .int
  | _ => .object "PlanText$NeedList"
theorem t_Pl_ok : ∀ k, k < 6 → parseFieldDescriptor (T_Pl k).2.2.1 = some (t_Pl k) := by decide +kernel
theorem n_Pl : ∀ a, a < 6 → ∀ b, b < 6 → a ≠ b → (T_Pl a).2.1 ≠ (T_Pl b).2.1 := by decide +kernel
def T_Pr : u_T := fun k => match k with
  | 0 => ("PlanText$Printer", "bytes", "[B", true)
  | _ => ("PlanText$Printer", "length", "I", false)
def t_Pr : Nat → FieldType := fun k => match k with
  | 0 => .array .byte
  | _ => .int
theorem t_Pr_ok : ∀ k, k < 2 → parseFieldDescriptor (T_Pr k).2.2.1 = some (t_Pr k) := by decide +kernel
theorem n_Pr : ∀ a, a < 2 → ∀ b, b < 2 → a ≠ b → (T_Pr a).2.1 ≠ (T_Pr b).2.1 := by decide +kernel
def T_Rd : u_T := fun k => match k with
  | 0 => ("PlanText$Reader", "text", "[B", true)
  | 1 => ("PlanText$Reader", "length", "I", true)
  | 2 => ("PlanText$Reader", "position", "I", false)
  | _ => ("PlanText$Reader", "wrongAt", "I", false)
def t_Rd : Nat → FieldType := fun k => match k with
  | 0 => .array .byte
  | 1 => .int
  | 2 => .int
  | _ => .int
theorem t_Rd_ok : ∀ k, k < 4 → parseFieldDescriptor (T_Rd k).2.2.1 = some (t_Rd k) := by decide +kernel
theorem n_Rd : ∀ a, a < 4 → ∀ b, b < 4 → a ≠ b → (T_Rd a).2.1 ≠ (T_Rd b).2.1 := by decide +kernel
def T_Sb : u_T := fun k => match k with
  | 0 => ("PlanText$Standby", "hours", "LPlanText$Hours;", true)
  | 1 => ("PlanText$Standby", "calls", "I", true)
  | 2 => ("PlanText$Standby", "units", "I", true)
  | _ => ("PlanText$Standby", "skill", "I", true)
def t_Sb : Nat → FieldType := fun k => match k with
  | 0 => .object "PlanText$Hours"
  | 1 => .int
  | 2 => .int
  | _ => .int
theorem t_Sb_ok : ∀ k, k < 4 → parseFieldDescriptor (T_Sb k).2.2.1 = some (t_Sb k) := by decide +kernel
theorem n_Sb : ∀ a, a < 4 → ∀ b, b < 4 → a ≠ b → (T_Sb a).2.1 ≠ (T_Sb b).2.1 := by decide +kernel
def T_Sx : u_T := fun k => match k with
  | 0 => ("PlanText$Stretch", "street", "I", true)
  | 1 => ("PlanText$Stretch", "from", "I", true)
  | _ => ("PlanText$Stretch", "to", "I", true)
def t_Sx : Nat → FieldType := fun k => match k with
  | 0 => .int
  | 1 => .int
  | _ => .int
theorem t_Sx_ok : ∀ k, k < 3 → parseFieldDescriptor (T_Sx k).2.2.1 = some (t_Sx k) := by decide +kernel
theorem n_Sx : ∀ a, a < 3 → ∀ b, b < 3 → a ≠ b → (T_Sx a).2.1 ≠ (T_Sx b).2.1 := by decide +kernel
def T_Mo : u_T := fun k => match k with
  | 0 => ("PlanTextModel", "thrown", "I", false)
  | 1 => ("PlanTextModel", "tape", "[I", true)
  | 2 => ("PlanTextModel", "taped", "I", false)
  | 3 => ("PlanTextModel", "length", "I", false)
  | 4 => ("PlanTextModel", "at", "I", false)
  | 5 => ("PlanTextModel", "wrong", "Z", false)
  | 6 => ("PlanTextModel", "place", "I", false)
  | 7 => ("PlanTextModel", "editions", "I", false)
  | 8 => ("PlanTextModel", "latest", "I", false)
  | 9 => ("PlanTextModel", "day", "[I", true)
  | 10 => ("PlanTextModel", "told", "[Z", true)
  | 11 => ("PlanTextModel", "kind", "[I", true)
  | 12 => ("PlanTextModel", "street", "[I", true)
  | 13 => ("PlanTextModel", "low", "[I", true)
  | 14 => ("PlanTextModel", "high", "[I", true)
  | 15 => ("PlanTextModel", "from", "[I", true)
  | 16 => ("PlanTextModel", "to", "[I", true)
  | 17 => ("PlanTextModel", "rank", "[I", true)
  | 18 => ("PlanTextModel", "needs", "[I", true)
  | 19 => ("PlanTextModel", "need", "[I", true)
  | 20 => ("PlanTextModel", "standbys", "[I", true)
  | 21 => ("PlanTextModel", "standby", "[I", true)
  | 22 => ("PlanTextModel", "units", "[I", true)
  | 23 => ("PlanTextModel", "asked", "I", false)
  | 24 => ("PlanTextModel", "out", "[I", true)
  | _ => ("PlanTextModel", "printed", "I", false)
def t_Mo : Nat → FieldType := fun k => match k with
  | 0 => .int
  | 1 => .array .int
  | 2 => .int
  | 3 => .int
  | 4 => .int
  | 5 => .boolean
  | 6 => .int
  | 7 => .int
  | 8 => .int
  | 9 => .array .int
  | 10 => .array .boolean
  | 11 => .array .int
  | 12 => .array .int
  | 13 => .array .int
  | 14 => .array .int
  | 15 => .array .int
  | 16 => .array .int
  | 17 => .array .int
  | 18 => .array .int
  | 19 => .array .int
  | 20 => .array .int
  | 21 => .array .int
  | 22 => .array .int
  | 23 => .int
  | 24 => .array .int
  | _ => .int
theorem t_Mo_ok : ∀ k, k < 26 → parseFieldDescriptor (T_Mo k).2.2.1 = some (t_Mo k) := by decide +kernel
theorem n_Mo : ∀ a, a < 26 → ∀ b, b < 26 → a ≠ b → (T_Mo a).2.1 ≠ (T_Mo b).2.1 := by decide +kernel
abbrev vwCl : List vw_C := [("PlanText", T_PT, 11), ("PlanText$Edition", T_Ed, 7), ("PlanText$Hours", T_Hr, 4), ("PlanText$Need", T_Nd, 5), ("PlanText$NeedList", T_NL, 2), ("PlanText$Plan", T_Pl, 6), ("PlanText$Printer", T_Pr, 2), ("PlanText$Reader", T_Rd, 4), ("PlanText$Standby", T_Sb, 4), ("PlanText$Stretch", T_Sx, 3), ("PlanTextModel", T_Mo, 26)]
abbrev gKinds : List FieldType := [.int, .long, .byte, .boolean, .object "PlanText$Edition", .object "PlanText$Plan", .object "PlanText$NeedList", .object "PlanText$Standby", .object "PlanText$Need"]
theorem lw_at {w : Cond} (i : Nat) (h : lw_tbl[i]? = some w) (g : goodWord w = true) : w ∈ lw_good := List.mem_filter.mpr ⟨List.mem_of_getElem? h, g⟩
theorem i_PT : ∀ w ∈ u_ws "PlanText" T_PT 11, w ∈ lw_good := by
  have h : (u_ws "PlanText" T_PT 11).all (fun w => [162, 164, 166, 168, 170, 172, 174, 176, 178, 180, 182].any (fun i => decide (lw_tbl[i]? = some w)) && goodWord w) = true := by decide +kernel
  intro w hw
  have h1 := List.all_eq_true.mp h w hw
  rw [Bool.and_eq_true] at h1
  obtain ⟨i, -, hi⟩ := List.any_eq_true.mp h1.1
  exact lw_at i (of_decide_eq_true hi) h1.2
theorem i_Ed : ∀ w ∈ u_ws "PlanText$Edition" T_Ed 7, w ∈ lw_good := by
  have h : (u_ws "PlanText$Edition" T_Ed 7).all (fun w => [105, 107, 109, 111, 113, 115, 117].any (fun i => decide (lw_tbl[i]? = some w)) && goodWord w) = true := by decide +kernel
  intro w hw
  have h1 := List.all_eq_true.mp h w hw
  rw [Bool.and_eq_true] at h1
  obtain ⟨i, -, hi⟩ := List.any_eq_true.mp h1.1
  exact lw_at i (of_decide_eq_true hi) h1.2
theorem i_Hr : ∀ w ∈ u_ws "PlanText$Hours" T_Hr 4, w ∈ lw_good := by
  have h : (u_ws "PlanText$Hours" T_Hr 4).all (fun w => [409, 411, 413, 415].any (fun i => decide (lw_tbl[i]? = some w)) && goodWord w) = true := by decide +kernel
  intro w hw
  have h1 := List.all_eq_true.mp h w hw
  rw [Bool.and_eq_true] at h1
  obtain ⟨i, -, hi⟩ := List.any_eq_true.mp h1.1
  exact lw_at i (of_decide_eq_true hi) h1.2
theorem i_Nd : ∀ w ∈ u_ws "PlanText$Need" T_Nd 5, w ∈ lw_good := by
  have h : (u_ws "PlanText$Need" T_Nd 5).all (fun w => [455, 457, 459, 461, 463].any (fun i => decide (lw_tbl[i]? = some w)) && goodWord w) = true := by decide +kernel
  intro w hw
  have h1 := List.all_eq_true.mp h w hw
  rw [Bool.and_eq_true] at h1
  obtain ⟨i, -, hi⟩ := List.any_eq_true.mp h1.1
  exact lw_at i (of_decide_eq_true hi) h1.2
theorem i_NL : ∀ w ∈ u_ws "PlanText$NeedList" T_NL 2, w ∈ lw_good := by
  have h : (u_ws "PlanText$NeedList" T_NL 2).all (fun w => [132, 134].any (fun i => decide (lw_tbl[i]? = some w)) && goodWord w) = true := by decide +kernel
  intro w hw
  have h1 := List.all_eq_true.mp h w hw
  rw [Bool.and_eq_true] at h1
  obtain ⟨i, -, hi⟩ := List.any_eq_true.mp h1.1
  exact lw_at i (of_decide_eq_true hi) h1.2
theorem i_Pl : ∀ w ∈ u_ws "PlanText$Plan" T_Pl 6, w ∈ lw_good := by
  have h : (u_ws "PlanText$Plan" T_Pl 6).all (fun w => [492, 494, 496, 498, 500, 502].any (fun i => decide (lw_tbl[i]? = some w)) && goodWord w) = true := by decide +kernel
  intro w hw
  have h1 := List.all_eq_true.mp h w hw
  rw [Bool.and_eq_true] at h1
  obtain ⟨i, -, hi⟩ := List.any_eq_true.mp h1.1
  exact lw_at i (of_decide_eq_true hi) h1.2
theorem i_Pr : ∀ w ∈ u_ws "PlanText$Printer" T_Pr 2, w ∈ lw_good := by
  have h : (u_ws "PlanText$Printer" T_Pr 2).all (fun w => [146, 148].any (fun i => decide (lw_tbl[i]? = some w)) && goodWord w) = true := by decide +kernel
  intro w hw
  have h1 := List.all_eq_true.mp h w hw
  rw [Bool.and_eq_true] at h1
  obtain ⟨i, -, hi⟩ := List.any_eq_true.mp h1.1
  exact lw_at i (of_decide_eq_true hi) h1.2
theorem i_Rd : ∀ w ∈ u_ws "PlanText$Reader" T_Rd 4, w ∈ lw_good := by
  have h : (u_ws "PlanText$Reader" T_Rd 4).all (fun w => [311, 313, 315, 317].any (fun i => decide (lw_tbl[i]? = some w)) && goodWord w) = true := by decide +kernel
  intro w hw
  have h1 := List.all_eq_true.mp h w hw
  rw [Bool.and_eq_true] at h1
  obtain ⟨i, -, hi⟩ := List.any_eq_true.mp h1.1
  exact lw_at i (of_decide_eq_true hi) h1.2
theorem i_Sb : ∀ w ∈ u_ws "PlanText$Standby" T_Sb 4, w ∈ lw_good := by
  have h : (u_ws "PlanText$Standby" T_Sb 4).all (fun w => [544, 546, 548, 550].any (fun i => decide (lw_tbl[i]? = some w)) && goodWord w) = true := by decide +kernel
  intro w hw
  have h1 := List.all_eq_true.mp h w hw
  rw [Bool.and_eq_true] at h1
  obtain ⟨i, -, hi⟩ := List.any_eq_true.mp h1.1
  exact lw_at i (of_decide_eq_true hi) h1.2
theorem i_Sx : ∀ w ∈ u_ws "PlanText$Stretch" T_Sx 3, w ∈ lw_good := by
  have h : (u_ws "PlanText$Stretch" T_Sx 3).all (fun w => [380, 382, 384].any (fun i => decide (lw_tbl[i]? = some w)) && goodWord w) = true := by decide +kernel
  intro w hw
  have h1 := List.all_eq_true.mp h w hw
  rw [Bool.and_eq_true] at h1
  obtain ⟨i, -, hi⟩ := List.any_eq_true.mp h1.1
  exact lw_at i (of_decide_eq_true hi) h1.2
theorem i_Mo : ∀ w ∈ u_ws "PlanTextModel" T_Mo 26, w ∈ lw_good := by
  have h : (u_ws "PlanTextModel" T_Mo 26).all (fun w => [844, 846, 848, 850, 852, 854, 856, 858, 860, 862, 864, 866, 868, 870, 872, 874, 876, 878, 880, 882, 884, 886, 888, 890, 892, 894].any (fun i => decide (lw_tbl[i]? = some w)) && goodWord w) = true := by decide +kernel
  intro w hw
  have h1 := List.all_eq_true.mp h w hw
  rw [Bool.and_eq_true] at h1
  obtain ⟨i, -, hi⟩ := List.any_eq_true.mp h1.1
  exact lw_at i (of_decide_eq_true hi) h1.2
end
section
/-! THE ABSTRACT HEAP: addresses from the law's first free cell on; objects by class number and fields, arrays by kind number and contents -/
abbrev gE : Type := (Nat × vp_A) ⊕ (Nat × List Value)
/-- cells, size of the heap, cells made at most, slots made at most -/
abbrev gS : Type := (Nat → Option gE) × Nat × Nat × Nat
/-- the claim's room -/
def gC : Nat := 601024
def gU : Nat := 7293034
def gup (G : Nat → Option gE) (a : Nat) (e : gE) : Nat → Option gE := fun q => if q = a then some e else G q
theorem gup_self {G : Nat → Option gE} {a : Nat} {e : gE} : gup G a e a = some e := by simp [gup]
theorem gup_ne {G : Nat → Option gE} {a b : Nat} {e : gE} (h : b ≠ a) : gup G a e b = G b := by simp [gup, h]
def gat (D : va_G) (cT : Nat → ClassId) (a : Nat) (e : gE) (H : Heap) : Prop := match e with
  | .inl x => H[a]? = some (vp_cell (cT x.1) x.2)
  | .inr o => va_at D vwCl (a, .inr o) H
theorem gat.kept {D : va_G} {cT : Nat → ClassId} {a : Nat} {e : gE} {H H1 : Heap} (h : gat D cT a e H) (hq : H1[a]? = H[a]?) : gat D cT a e H1 := by
  cases e with
  | inl x => exact hq.trans h
  | inr o => exact va_at.kept (q := (a, .inr o)) h hq
theorem gat.lt {D : va_G} {cT : Nat → ClassId} {a : Nat} {e : gE} {H : Heap} (h : gat D cT a e H) : a < H.size := by
  cases e with
  | inl x => exact (Array.getElem?_eq_some_iff.mp h).1
  | inr o => exact va_at.lt (q := (a, .inr o)) h
/-- the real heap H holds what the abstract state S says, and is as H0 below H0's size -/
def gA (D : va_G) (cT : Nat → ClassId) (H0 : Heap) (S : gS) (H : Heap) : Prop :=
  (H0.size ≤ S.2.1 ∧ S.2.2.1 ≤ gC ∧ S.2.2.2 ≤ gU) ∧ H.size = S.2.1 ∧ (∀ q : Nat, q < H0.size → H[q]? = H0[q]?) ∧ ∀ (a : Nat) (e : gE), S.1 a = some e → H0.size ≤ a ∧ gat D cT a e H
theorem gA.lt {D : va_G} {cT : Nat → ClassId} {H0 : Heap} {S : gS} {H : Heap} (h : gA D cT H0 S H) {a : Nat} {e : gE} (ha : S.1 a = some e) : a < S.2.1 := by
  rw [← h.2.1]; exact (h.2.2.2 a e ha).2.lt
theorem gA.set {D : va_G} {cT : Nat → ClassId} {H0 : Heap} {S : gS} {H H1 : Heap} (h : gA D cT H0 S H) {a : Nat} {e0 e : gE} (ha : S.1 a = some e0) (he : gat D cT a e H1) (z : H1.size = H.size) (oq : ∀ q : Nat, q ≠ a → H1[q]? = H[q]?) : gA D cT H0 (gup S.1 a e, S.2) H1 := by
  obtain ⟨h1, h2, h3, h4⟩ := h
  have hz := (h4 a e0 ha).1
  refine ⟨h1, z.trans h2, fun q hq => (oq q (by omega)).trans (h3 q hq), fun b e' hb => ?_⟩
  by_cases hba : b = a
  · subst hba
    rw [show (gup S.1 b e, S.2).1 b = some e from gup_self] at hb
    cases hb
    exact ⟨hz, he⟩
  · rw [show (gup S.1 a e, S.2).1 b = S.1 b from gup_ne hba] at hb
    exact ⟨(h4 b e' hb).1, (h4 b e' hb).2.kept (oq b hba)⟩
theorem gA.push {D : va_G} {cT : Nat → ClassId} {H0 : Heap} {S : gS} {H H1 : Heap} (h : gA D cT H0 S H) {e : gE} {u : Nat × Nat} (hu : u.1 ≤ gC ∧ u.2 ≤ gU) (he : gat D cT S.2.1 e H1) (z : H1.size = H.size + 1) (oq : ∀ q : Nat, q < H.size → H1[q]? = H[q]?) : gA D cT H0 (gup S.1 S.2.1 e, S.2.1 + 1, u) H1 := by
  have hl := fun a e' (ha : S.1 a = some e') => h.lt ha
  obtain ⟨h1, h2, h3, h4⟩ := h
  refine ⟨⟨Nat.le_succ_of_le h1.1, hu⟩, by rw [z, h2], fun q hq => (oq q (by omega)).trans (h3 q hq), fun b e' hb => ?_⟩
  by_cases hba : b = S.2.1
  · subst hba
    rw [show (gup S.1 S.2.1 e, S.2.1 + 1, u).1 S.2.1 = some e from gup_self] at hb
    cases hb
    exact ⟨h1.1, he⟩
  · rw [show (gup S.1 S.2.1 e, S.2.1 + 1, u).1 b = S.1 b from gup_ne hba] at hb
    exact ⟨(h4 b e' hb).1, (h4 b e' hb).2.kept (oq b (by rw [h2]; exact hl b e' hb))⟩
/-- the classes of objects, the classes of arrays -/
def gK (D : va_G) (cT : Nat → ClassId) (s : State) : Prop := va_K D vwCl [] s ∧ ∀ (t : Nat) (ty : FieldType), gKinds[t]? = some ty → ArrOfT s (cT t) ty ∧ va_RA s (cT t) ty
theorem gK.moved {D : va_G} {cT : Nat → ClassId} {u U : State} (hvm : u.vm.Alike U.vm) (h : gK D cT u) : gK D cT U := ⟨h.1.moved hvm, fun t ty ht => ⟨arrOfT_moved hvm (h.2 t ty ht).1, (h.2 t ty ht).2.moved hvm⟩⟩
/-- the judgement W with heap, written places and room taken from the abstract state -/
def gV (D : va_G) (cT : Nat → ClassId) (H0 : Heap) (p : Program) (l : Launch) (e : Env) (R : Room) (s : State) (m : MethodId) (args : Array Value) (below : List Frame) (meth : Method) (c : Code) (Q : State → Prop) (S0 S : gS) (g : JFrame) : Prop :=
  ∀ (H : Heap) (locs : List Loc), gA D cT H0 S H → (∀ q ∈ locs, H0.size ≤ q.base) → S0.2.2.1 ≤ S.2.2.1 → S0.2.2.2 ≤ S.2.2.2 → W p l e R s m args below meth c H locs (S.2.2.1 - S0.2.2.1) (S.2.2.2 - S0.2.2.2) Q g
/-- what a walk knows of its method -/
def gX (D : va_G) (cT : Nat → ClassId) (p : Program) (R : Room) (s : State) (m : MethodId) (args : Array Value) (meth : Method) (c : Code) (cc : ByteArray) (nL : Nat) (own : String) (fr lo : Nat) (S0 : gS) : Prop :=
  p.tables.exec = Jvm.exec ∧ c.code = cc ∧ c.maxLocals = nL ∧ s.vm.findClass own = some m.cls ∧ (∀ w ∈ lw_good, w.before args s = true) ∧ gK D cT s ∧ meth.locks = false ∧ R.cells = gC - S0.2.2.1 ∧ R.slots = gU - S0.2.2.2 ∧ R.frames = fr ∧ R.locals = lo
/-- a class of objects, by its number -/
def gCl (ci : Nat) (C : String) (T : u_T) (N : Nat) (ty : Nat → FieldType) : Prop := vwCl[ci]? = some (C, T, N) ∧ (∀ w ∈ u_ws C T N, w ∈ lw_good) ∧ (∀ k, k < N → parseFieldDescriptor (T k).2.2.1 = some (ty k)) ∧ (∀ a, a < N → ∀ b, b < N → a ≠ b → (T a).2.1 ≠ (T b).2.1)
section GV
variable {D : va_G} {cT : Nat → ClassId} {H0 : Heap} {p : Program} {l : Launch} {e : Env} {R : Room} {s : State} {m : MethodId} {args : Array Value} {below : List Frame} {meth : Method} {c : Code} {Q : State → Prop} {S0 S : gS}
variable {cc : ByteArray} {nL : Nat} {own : String} {fr lo : Nat} {pc : Nat} {ls : Array Slot} {rest : List Value} {a : Nat}
theorem gV.lift {g1 g2 : JFrame} (h : ∀ (H : Heap) (locs : List Loc) (cells slots : Nat), W p l e R s m args below meth c H locs cells slots Q g2 → W p l e R s m args below meth c H locs cells slots Q g1) (k : gV D cT H0 p l e R s m args below meth c Q S0 S g2) : gV D cT H0 p l e R s m args below meth c Q S0 S g1 :=
  fun H locs h1 h2 h3 h4 => h H locs _ _ (k H locs h1 h2 h3 h4)
theorem gV.lift2 {g1 g2 g3 : JFrame} {A B : Prop} (h : ∀ (H : Heap) (locs : List Loc) (cells slots : Nat), (A → W p l e R s m args below meth c H locs cells slots Q g2) → (B → W p l e R s m args below meth c H locs cells slots Q g3) → W p l e R s m args below meth c H locs cells slots Q g1) (k1 : A → gV D cT H0 p l e R s m args below meth c Q S0 S g2) (k2 : B → gV D cT H0 p l e R s m args below meth c Q S0 S g3) : gV D cT H0 p l e R s m args below meth c Q S0 S g1 :=
  fun H locs h1 h2 h3 h4 => h H locs _ _ (fun q => k1 q H locs h1 h2 h3 h4) (fun q => k2 q H locs h1 h2 h3 h4)
theorem gV.liftS {g1 : JFrame} {F : Array Slot → JFrame} {lv' : List (Nat × Value)} (h : ∀ (H : Heap) (locs : List Loc) (cells slots : Nat), (∀ ls' : Array Slot, lv_has ls' nL lv' → W p l e R s m args below meth c H locs cells slots Q (F ls')) → W p l e R s m args below meth c H locs cells slots Q g1) (k : ∀ ls' : Array Slot, lv_has ls' nL lv' → gV D cT H0 p l e R s m args below meth c Q S0 S (F ls')) : gV D cT H0 p l e R s m args below meth c Q S0 S g1 :=
  fun H locs h1 h2 h3 h4 => h H locs _ _ (fun ls' hl => k ls' hl H locs h1 h2 h3 h4)
/-- a field is read -/
theorem g_get (X : gX D cT p R s m args meth c cc nL own fr lo S0) {ci : Nat} {C : String} {T : u_T} {N : Nat} {ty : Nat → FieldType} (hC : gCl ci C T N ty) {index k : Nat} {fs : List Value} {v : Value} (ha : S.1 a = some (.inr (ci, fs))) (hv : fs[k]? = some v) (hk : k < N)
    (hlink : Cond.fieldLink own index (T k).1 (T k).2.1 (T k).2.2.1 ∈ lw_good) (hdg : decode cc pc = .ok (.getfield index, 3))
    (kk : gV D cT H0 p l e R s m args below meth c Q S0 S (F0 m (pc + 3) ls (v :: rest))) : gV D cT H0 p l e R s m args below meth c Q S0 S (F0 m pc ls (va_rf (some a) :: rest)) := by
  obtain ⟨hx, hb, hml, hown, hts, hK, -⟩ := X
  intro H locs hA h2 h3 h4
  have hP : va_P D vwCl [(a, .inr (ci, fs))] H := fun j q hq => by
    have hj : j = 0 := by
      have := (List.getElem?_eq_some_iff.mp hq).1
      simpa using this
    subst hj
    cases hq
    exact (hA.2.2.2 a _ ha).2
  exact va_get (D := D) (ci := ci) (v := v) (C := C) (T := T) (N := N) hx hb hts hC.2.1 hown hK.1 hP 0 rfl hC.1 k hk (hts _ hlink) (fun _ h9 => h9) hv hdg (kk H locs hA h2 h3 h4)
/-- a field is written -/
theorem g_put (X : gX D cT p R s m args meth c cc nL own fr lo S0) {ci : Nat} {C : String} {T : u_T} {N : Nat} {ty : Nat → FieldType} (hC : gCl ci C T N ty) {index k : Nat} {fs : List Value} {v : Value} (ha : S.1 a = some (.inr (ci, fs))) (hl : k < fs.length) (hk : k < N)
    (hlink : Cond.fieldLink own index (T k).1 (T k).2.1 (T k).2.2.1 ∈ lw_good) (hfin : (T k).2.2.2 = false) (hn : narrow (ty k) v = v) (hfit : fits (ty k) v = true) (hdg : decode cc pc = .ok (.putfield index, 3))
    (kk : gV D cT H0 p l e R s m args below meth c Q S0 (gup S.1 a (.inr (ci, fs.set k v)), S.2) (F0 m (pc + 3) ls rest)) : gV D cT H0 p l e R s m args below meth c Q S0 S (F0 m pc ls (v :: va_rf (some a) :: rest)) := by
  obtain ⟨hx, hb, hml, hown, hts, hK, -⟩ := X
  obtain ⟨hc, hin, hty, hnm⟩ := hC
  intro H locs hA h2 h3 h4
  have hap := va_apart (own := own) hts hin ty hty hnm hK.1 hc
  obtain ⟨hz, r, h1, cell, q1, q2, q3, q4⟩ := hA.2.2.2 a _ ha
  have hr : r = (C, T, N) := Option.some.inj (h1.symm.trans hc)
  subst hr
  obtain ⟨hS, hfc, kC, hkC, hkind⟩ := hK.1.1 ci _ hc
  obtain ⟨cf, kf, fi, f, hi, hsl⟩ := hS k hk
  have hlay := hts _ (hin _ (u_in_lay hk))
  unfold u_lay at hlay
  rw [if_neg (by rw [hfin]; decide)] at hlay
  have hst := (u_facts hfc hkC (u_lays hts hin hk) hi).1
  have h6 := u_store hfc hkC hkind hlay hi (hty k hk) hn hfit
  refine W.putK hx hb (f := f) ⟨hown, hts _ hlink, ⟨_, _, _, hi⟩, hst⟩ (by rw [q2]; exact h6) q1 q3 (by rw [hsl]; exact k2_hasslot (q4 k hk)) rfl rfl hdg fun H' e1 e2 e3 => ?_
  rw [hsl] at e1 ⊢
  refine kk H' _ (hA.set ha ?_ e2 e3) (fun q hq => ?_) h3 h4
  · exact ⟨_, hc, t_OB.to (V := updV (vp_V fs) k v) ⟨_, e1, q2, q3, t_set q4 hap hk v⟩ (fun j _ => vp_updV_set hl v j)⟩
  · rcases List.mem_append.mp hq with h9 | h9
    · exact h2 q h9
    · rw [List.mem_singleton.mp h9]; exact hz
/-- a final field is written by the class's constructor -/
theorem g_putF (X : gX D cT p R s m args meth c cc nL own fr lo S0) {ci : Nat} {C : String} {T : u_T} {N : Nat} {ty : Nat → FieldType} (hC : gCl ci C T N ty) {index k : Nat} {fs : List Value} {v : Value} (ha : S.1 a = some (.inr (ci, fs))) (hl : k < fs.length) (hk : k < N)
    (hlink : Cond.fieldLink own index (T k).1 (T k).2.1 (T k).2.2.1 ∈ lw_good) (hfin : (T k).2.2.2 = true) (hin2 : meth.name = "<init>") (hdecl : (T k).1 = own) (hn : narrow (ty k) v = v) (hfit : fits (ty k) v = true) (hdg : decode cc pc = .ok (.putfield index, 3))
    (kk : gV D cT H0 p l e R s m args below meth c Q S0 (gup S.1 a (.inr (ci, fs.set k v)), S.2) (F0 m (pc + 3) ls rest)) : gV D cT H0 p l e R s m args below meth c Q S0 S (F0 m pc ls (v :: va_rf (some a) :: rest)) := by
  obtain ⟨hx, hb, hml, hown, hts, hK, -⟩ := X
  obtain ⟨hc, hin, hty, hnm⟩ := hC
  intro H locs hA h2 h3 h4
  have hap := va_apart (own := own) hts hin ty hty hnm hK.1 hc
  obtain ⟨hz, r, h1, cell, q1, q2, q3, q4⟩ := hA.2.2.2 a _ ha
  have hr : r = (C, T, N) := Option.some.inj (h1.symm.trans hc)
  subst hr
  obtain ⟨hS, hfc, kC, hkC, hkind⟩ := hK.1.1 ci _ hc
  obtain ⟨cf, kf, fi, f, hi, hsl⟩ := hS k hk
  have hlay := hts _ (hin _ (u_in_lay hk))
  unfold u_lay at hlay
  rw [if_pos hfin] at hlay
  have hst := (u_facts hfc hkC (u_lays hts hin hk) hi).1
  have hcf : m.cls = cf := by
    obtain ⟨_, _, c', _, _, _, -, -, hf', -, -, -, hown2, -⟩ := Cond.laysFinal_spec hlay
    have e1 : c' = cf := by have := hi.symm.trans hf'; simp at this; exact this.1.symm
    rw [hdecl] at hown2
    rw [← e1]; exact Option.some.inj (hown.symm.trans hown2)
  have h6 := u_fits hfc hkC hkind (Or.inr hlay) hi (hty k hk) hn hfit
  refine W.putFinK hx hb hown (hts _ hlink) hi hst hcf hin2 (by rw [q2]; exact h6) q1 q3 (by rw [hsl]; exact k2_hasslot (q4 k hk)) rfl rfl hdg fun H' e1 e2 e3 => ?_
  rw [hsl] at e1 ⊢
  refine kk H' _ (hA.set ha ?_ e2 e3) (fun q hq => ?_) h3 h4
  · exact ⟨_, hc, t_OB.to (V := updV (vp_V fs) k v) ⟨_, e1, q2, q3, t_set q4 hap hk v⟩ (fun j _ => vp_updV_set hl v j)⟩
  · rcases List.mem_append.mp hq with h9 | h9
    · exact h2 q h9
    · rw [List.mem_singleton.mp h9]; exact hz
/-- a new object -/
theorem g_new (X : gX D cT p R s m args meth c cc nL own fr lo S0) {ci : Nat} {C : String} {T : u_T} {N : Nat} {ty : Nat → FieldType} (hC : gCl ci C T N ty) {index : Nat} {fs : List Value} (hfs : ∀ j, j < N → defaultValue (ty j) = vp_V fs j)
    (hcl : Cond.classLink own index C ∈ lw_good) (hins : Cond.instantiable C N ∈ lw_good) (hini : Cond.initialized C ∈ lw_good) (hr : S.2.2.1 + 1 ≤ gC ∧ S.2.2.2 + N ≤ gU) (hdg : decode cc pc = .ok (.new index, 3))
    (kk : gV D cT H0 p l e R s m args below meth c Q S0 (gup S.1 S.2.1 (.inr (ci, fs)), S.2.1 + 1, S.2.2.1 + 1, S.2.2.2 + N) (F0 m (pc + 3) ls (va_rf (some S.2.1) :: rest))) : gV D cT H0 p l e R s m args below meth c Q S0 S (F0 m pc ls rest) := by
  obtain ⟨hx, hb, hml, hown, hts, hK, -, hRc, hRs, -⟩ := X
  obtain ⟨hc, hin, hty, hnm⟩ := hC
  intro H locs hA h2 h3 h4
  have hKn := hK.1.1 ci _ hc
  have hsz := hA.2.1
  refine W.newcK (n := N) hx hb hown (hts _ hcl) (hts _ hins) (hts _ hini) rfl hdg (by rw [hRc]; omega) (by rw [hRs]; omega) hKn.2.1 hsz fun H1 kC hkC e1 z1 o1 => ?_
  have hz := hA.push (e := .inr (ci, fs)) (u := (S.2.2.1 + 1, S.2.2.2 + N)) (H1 := H1) hr ⟨_, hc, t_OB.to (u_born ty hts hin hKn hkC e1 hty) hfs⟩ (by rw [z1, hsz]) (fun q hq => o1 q (by rw [← hsz]; exact hq))
  have kz := kk H1 locs hz h2 (by show S0.2.2.1 ≤ S.2.2.1 + 1; omega) (by show S0.2.2.2 ≤ S.2.2.2 + N; omega)
  rw [show (gup S.1 S.2.1 (.inr (ci, fs)), S.2.1 + 1, S.2.2.1 + 1, S.2.2.2 + N).2.2.1 - S0.2.2.1 = S.2.2.1 - S0.2.2.1 + 1 by show S.2.2.1 + 1 - S0.2.2.1 = _; omega, show (gup S.1 S.2.1 (.inr (ci, fs)), S.2.1 + 1, S.2.2.1 + 1, S.2.2.2 + N).2.2.2 - S0.2.2.2 = S.2.2.2 - S0.2.2.2 + N by show S.2.2.2 + N - S0.2.2.2 = _; omega] at kz
  exact kz
/-- a new array of numbers -/
theorem g_newa (X : gX D cT p R s m args meth c cc nL own fr lo S0) {atype : ArrayType} {t : Nat} {ty : FieldType} (hty : newarray.typeOf atype = ty) (ht : gKinds[t]? = some ty) (hRA : va_RA s (cT t) ty = (s.vm.findClass ("[" ++ ty.toString) = some (cT t)))
    (harr : Cond.arrayClass (newarray.typeOf atype) ∈ lw_good) {n : Int32} {N : Nat} {a0 : vp_A} (ha : ∀ cA : ClassId, vp_cell cA a0 = arrV cA N (fun _ => defaultValue ty)) (hn : ¬ n < 0) (hN : n.toNatClampNeg = N) (hbytes : N * componentBytes ty ≤ 536870912)
    (hr : S.2.2.1 + 1 ≤ gC ∧ S.2.2.2 + N ≤ gU) (hdg : decode cc pc = .ok (.newarray atype, 2))
    (kk : gV D cT H0 p l e R s m args below meth c Q S0 (gup S.1 S.2.1 (.inl (t, a0)), S.2.1 + 1, S.2.2.1 + 1, S.2.2.2 + N) (F0 m (pc + 2) ls (va_rf (some S.2.1) :: rest))) : gV D cT H0 p l e R s m args below meth c Q S0 S (F0 m pc ls (.int n :: rest)) := by
  obtain ⟨hx, hb, hml, hown, hts, hK, -, hRc, hRs, -⟩ := X
  intro H locs hA h2 h3 h4
  have hsz := hA.2.1
  subst hty
  refine va_newaK hx hb (hts _ harr) rfl hdg rfl hn hN hbytes (by rw [hRc]; omega) (by rw [hRs]; omega) hsz fun H1 cA e1 z1 o1 hAr hNm => ?_
  have hcA : cA = cT t := Option.some.inj (hNm.symm.trans (hRA ▸ (hK.2 t _ ht).2))
  have hz := hA.push (e := .inl (t, a0)) (u := (S.2.2.1 + 1, S.2.2.2 + N)) (H1 := H1) hr (by show H1[S.2.1]? = some (vp_cell (cT t) a0); rw [ha, ← hcA]; exact e1) (by rw [z1, hsz]) (fun q hq => o1 q (by rw [← hsz]; exact hq))
  have kz := kk H1 locs hz h2 (by show S0.2.2.1 ≤ S.2.2.1 + 1; omega) (by show S0.2.2.2 ≤ S.2.2.2 + N; omega)
  rw [show (gup S.1 S.2.1 (.inl (t, a0)), S.2.1 + 1, S.2.2.1 + 1, S.2.2.2 + N).2.2.1 - S0.2.2.1 = S.2.2.1 - S0.2.2.1 + 1 by show S.2.2.1 + 1 - S0.2.2.1 = _; omega, show (gup S.1 S.2.1 (.inl (t, a0)), S.2.1 + 1, S.2.2.1 + 1, S.2.2.2 + N).2.2.2 - S0.2.2.2 = S.2.2.2 - S0.2.2.2 + N by show S.2.2.2 + N - S0.2.2.2 = _; omega] at kz
  exact kz
/-- a new array of references -/
theorem g_anew (X : gX D cT p R s m args meth c cc nL own fr lo S0) {C : String} {index t : Nat} (ht : gKinds[t]? = some (.object C)) (hcl : Cond.classLink own index C ∈ lw_good) (hover : va_AO C s) {n : Int32} (hn : ¬ n < 0) (hbytes : n.toNatClampNeg * 4 ≤ 536870912)
    (hr : S.2.2.1 + 1 ≤ gC ∧ S.2.2.2 + n.toNatClampNeg ≤ gU) (hdg : decode cc pc = .ok (.anewarray index, 3))
    (kk : gV D cT H0 p l e R s m args below meth c Q S0 (gup S.1 S.2.1 (.inl (t, n.toNatClampNeg, .inr (.inr (.inr (.inr (fun _ => none)))))), S.2.1 + 1, S.2.2.1 + 1, S.2.2.2 + n.toNatClampNeg) (F0 m (pc + 3) ls (va_rf (some S.2.1) :: rest))) : gV D cT H0 p l e R s m args below meth c Q S0 S (F0 m pc ls (.int n :: rest)) := by
  obtain ⟨hx, hb, hml, hown, hts, hK, -, hRc, hRs, -⟩ := X
  intro H locs hA h2 h3 h4
  have hsz := hA.2.1
  refine W.anew hx hb hown (hts _ hcl) (va_AO.use hover) rfl hdg rfl hn hbytes (by rw [hRc]; omega) (by rw [hRs]; omega) fun cA kA comp f1 f2 f3 f4 => ?_
  have hcA : cA = cT t := by
    obtain ⟨kA', comp', -, -, -, f5⟩ := (hK.2 t _ ht).2
    exact Option.some.inj (f1.symm.trans f5)
  generalize hH1 : H.push ({ cls := cA, slots := Array.replicate n.toNatClampNeg .null, vm := .none } : Cell) = H1
  have z1 : H1.size = H.size + 1 := by rw [← hH1, Array.size_push]
  have e1 : H1[H.size]? = some (arrV cA n.toNatClampNeg (fun _ => .null)) := by rw [← hH1, Array.getElem?_push_size, ← arrV_new]
  have o1 : ∀ q : Nat, q < H.size → H1[q]? = H[q]? := fun q hq => by rw [← hH1, Array.getElem?_push, if_neg (Nat.ne_of_lt hq)]
  have hz := hA.push (e := .inl (t, n.toNatClampNeg, .inr (.inr (.inr (.inr (fun _ => none)))))) (u := (S.2.2.1 + 1, S.2.2.2 + n.toNatClampNeg)) (H1 := H1) hr (by show H1[S.2.1]? = some (vp_cell (cT t) _); rw [← hcA, ← hsz]; exact e1) z1 o1
  have kz := kk H1 locs hz h2 (by show S0.2.2.1 ≤ S.2.2.1 + 1; omega) (by show S0.2.2.2 ≤ S.2.2.2 + n.toNatClampNeg; omega)
  rw [show (gup S.1 S.2.1 (.inl (t, n.toNatClampNeg, .inr (.inr (.inr (.inr (fun _ => none)))))), S.2.1 + 1, S.2.2.1 + 1, S.2.2.2 + n.toNatClampNeg).2.2.1 - S0.2.2.1 = S.2.2.1 - S0.2.2.1 + 1 by show S.2.2.1 + 1 - S0.2.2.1 = _; omega, show (gup S.1 S.2.1 (.inl (t, n.toNatClampNeg, .inr (.inr (.inr (.inr (fun _ => none)))))), S.2.1 + 1, S.2.2.1 + 1, S.2.2.2 + n.toNatClampNeg).2.2.2 - S0.2.2.2 = S.2.2.2 - S0.2.2.2 + n.toNatClampNeg by show S.2.2.2 + n.toNatClampNeg - S0.2.2.2 = _; omega] at kz
  rw [hsz]
  exact kz
theorem gK.one {t : Nat} {ty : FieldType} (h : gK D cT s) (ht : gKinds[t]? = some ty) : va_K D vwCl [(cT t, ty)] s := ⟨h.1.1, fun k q hq => by
  have hj : k = 0 := by
    have := (List.getElem?_eq_some_iff.mp hq).1
    simpa using this
  subst hj
  cases hq
  exact h.2 t ty ht⟩
theorem gA.one {H : Heap} {t : Nat} {x : vp_A} (h : gA D cT H0 S H) (ha : S.1 a = some (.inl (t, x))) : va_P D vwCl [(a, .inl (cT t, x))] H := fun k q hq => by
  have hj : k = 0 := by
    have := (List.getElem?_eq_some_iff.mp hq).1
    simpa using this
  subst hj
  cases hq
  exact (h.2.2.2 a _ ha).2
theorem g_iald (X : gX D cT p R s m args meth c cc nL own fr lo S0) {t n : Nat} (ht : gKinds[t]? = some .int) {f : Nat → Int32} (ha : S.1 a = some (.inl (t, n, .inl f))) {i : Int32} (hin : ¬ (i < 0 ∨ n ≤ i.toNatClampNeg)) (hdg : decode cc pc = .ok (.iaload, 1))
    (kk : gV D cT H0 p l e R s m args below meth c Q S0 S (F0 m (pc + 1) ls (.int (f i.toNatClampNeg) :: rest))) : gV D cT H0 p l e R s m args below meth c Q S0 S (F0 m pc ls (.int i :: va_rf (some a) :: rest)) := by
  obtain ⟨hx, hb, hml, hown, hts, hK, -⟩ := X
  intro H locs hA h2 h3 h4
  exact va_iald hx hb (hK.one ht) (hA.one ha) 0 0 rfl rfl hin hdg (kk H locs hA h2 h3 h4)
theorem g_bald (X : gX D cT p R s m args meth c cc nL own fr lo S0) {t n : Nat} (ht : gKinds[t]? = some .byte) {f : Nat → Int32} (ha : S.1 a = some (.inl (t, n, .inl f))) {i : Int32} (hin : ¬ (i < 0 ∨ n ≤ i.toNatClampNeg)) (hdg : decode cc pc = .ok (.baload, 1))
    (kk : gV D cT H0 p l e R s m args below meth c Q S0 S (F0 m (pc + 1) ls (.int (f i.toNatClampNeg) :: rest))) : gV D cT H0 p l e R s m args below meth c Q S0 S (F0 m pc ls (.int i :: va_rf (some a) :: rest)) := by
  obtain ⟨hx, hb, hml, hown, hts, hK, -⟩ := X
  intro H locs hA h2 h3 h4
  exact va_bald hx hb (hK.one ht) (hA.one ha) 0 0 rfl rfl hin hdg (kk H locs hA h2 h3 h4)
theorem g_zald (X : gX D cT p R s m args meth c cc nL own fr lo S0) {t n : Nat} (ht : gKinds[t]? = some .boolean) {f : Nat → Int32} (ha : S.1 a = some (.inl (t, n, .inl f))) {i : Int32} (hin : ¬ (i < 0 ∨ n ≤ i.toNatClampNeg)) (hdg : decode cc pc = .ok (.baload, 1))
    (kk : gV D cT H0 p l e R s m args below meth c Q S0 S (F0 m (pc + 1) ls (.int (f i.toNatClampNeg) :: rest))) : gV D cT H0 p l e R s m args below meth c Q S0 S (F0 m pc ls (.int i :: va_rf (some a) :: rest)) := by
  obtain ⟨hx, hb, hml, hown, hts, hK, -⟩ := X
  intro H locs hA h2 h3 h4
  exact va_zald hx hb (hK.one ht) (hA.one ha) 0 0 rfl rfl hin hdg (kk H locs hA h2 h3 h4)
theorem g_lald (X : gX D cT p R s m args meth c cc nL own fr lo S0) {t n : Nat} (ht : gKinds[t]? = some .long) {f : Nat → Int64} (ha : S.1 a = some (.inl (t, n, .inr (.inl f)))) {i : Int32} (hin : ¬ (i < 0 ∨ n ≤ i.toNatClampNeg)) (hdg : decode cc pc = .ok (.laload, 1))
    (kk : gV D cT H0 p l e R s m args below meth c Q S0 S (F0 m (pc + 1) ls (.long (f i.toNatClampNeg) :: rest))) : gV D cT H0 p l e R s m args below meth c Q S0 S (F0 m pc ls (.int i :: va_rf (some a) :: rest)) := by
  obtain ⟨hx, hb, hml, hown, hts, hK, -⟩ := X
  intro H locs hA h2 h3 h4
  exact va_lald hx hb (hK.one ht) (hA.one ha) 0 0 rfl rfl hin hdg (kk H locs hA h2 h3 h4)
theorem g_aald (X : gX D cT p R s m args meth c cc nL own fr lo S0) {t n : Nat} {C : String} (ht : gKinds[t]? = some (.object C)) {f : Nat → Option Nat} (ha : S.1 a = some (.inl (t, n, .inr (.inr (.inr (.inr f)))))) {i : Int32} (hin : ¬ (i < 0 ∨ n ≤ i.toNatClampNeg)) (hdg : decode cc pc = .ok (.aaload, 1))
    (kk : gV D cT H0 p l e R s m args below meth c Q S0 S (F0 m (pc + 1) ls (va_rf (f i.toNatClampNeg) :: rest))) : gV D cT H0 p l e R s m args below meth c Q S0 S (F0 m pc ls (.int i :: va_rf (some a) :: rest)) := by
  obtain ⟨hx, hb, hml, hown, hts, hK, -⟩ := X
  intro H locs hA h2 h3 h4
  exact va_aldq hx hb (hK.one ht) (hA.one ha) 0 0 rfl rfl hin hdg (kk H locs hA h2 h3 h4)
theorem g_alen (X : gX D cT p R s m args meth c cc nL own fr lo S0) {t : Nat} {x : vp_A} {ty : FieldType} (ht : gKinds[t]? = some ty) (ha : S.1 a = some (.inl (t, x))) (hdg : decode cc pc = .ok (.arraylength, 1))
    (kk : gV D cT H0 p l e R s m args below meth c Q S0 S (F0 m (pc + 1) ls (.int (nI x.1) :: rest))) : gV D cT H0 p l e R s m args below meth c Q S0 S (F0 m pc ls (va_rf (some a) :: rest)) := by
  obtain ⟨hx, hb, hml, hown, hts, hK, -⟩ := X
  intro H locs hA h2 h3 h4
  exact va_alen (v := nI x.1) hx hb (hK.one ht) (hA.one ha) 0 0 rfl rfl rfl hdg (kk H locs hA h2 h3 h4)
theorem g_in {n : Nat} {z : Nat → Value} {i : Int32} {cA : ClassId} (hin : ¬ (i < 0 ∨ n ≤ i.toNatClampNeg)) : ¬ (i < 0 ∨ (arrV cA n z).slots.size ≤ i.toNatClampNeg) := by rw [arrV_size]; exact hin
theorem g_lc {locs : List Loc} {b k : Nat} {z : Nat} (h2 : ∀ q ∈ locs, z ≤ q.base) (hb : z ≤ b) : ∀ q ∈ locs ++ [⟨b, k⟩], z ≤ q.base := by
  intro q hq
  rcases List.mem_append.mp hq with h9 | h9
  · exact h2 q h9
  · rw [List.mem_singleton.mp h9]; exact hb
theorem g_iast (X : gX D cT p R s m args meth c cc nL own fr lo S0) {t n : Nat} (ht : gKinds[t]? = some .int) {f : Nat → Int32} (ha : S.1 a = some (.inl (t, n, .inl f))) {i x : Int32} (hin : ¬ (i < 0 ∨ n ≤ i.toNatClampNeg)) (hdg : decode cc pc = .ok (.iastore, 1))
    (kk : gV D cT H0 p l e R s m args below meth c Q S0 (gup S.1 a (.inl (t, n, .inl (upd f i.toNatClampNeg x))), S.2) (F0 m (pc + 1) ls rest)) : gV D cT H0 p l e R s m args below meth c Q S0 S (F0 m pc ls (.int x :: .int i :: va_rf (some a) :: rest)) := by
  obtain ⟨hx, hb, hml, hown, hts, hK, -⟩ := X
  intro H locs hA h2 h3 h4
  obtain ⟨hz, hP⟩ := hA.2.2.2 a _ ha
  refine W.iast hx hb hP ((hK.2 t _ ht).1 n (fun j => .int (f j))) (fun q => by cases q) (g_in hin) rfl rfl hdg fun H1 e z oq => ?_
  refine kk H1 _ (hA.set ha ?_ z oq) (g_lc h2 hz) h3 h4
  show H1[a]? = some (vp_cell _ _)
  rw [e, vp_cell_i, vp_cell_i, arrV_store]
  congr 2
  funext q
  by_cases hq : q = i.toNatClampNeg
  · subst hq; simp [updV, upd]
  · simp [updV, upd, hq]
theorem g_bast (X : gX D cT p R s m args meth c cc nL own fr lo S0) {t n : Nat} (ht : gKinds[t]? = some .byte) {f : Nat → Int32} (ha : S.1 a = some (.inl (t, n, .inl f))) {i x : Int32} (hin : ¬ (i < 0 ∨ n ≤ i.toNatClampNeg)) (hdg : decode cc pc = .ok (.bastore, 1))
    (kk : gV D cT H0 p l e R s m args below meth c Q S0 (gup S.1 a (.inl (t, n, .inl (upd f i.toNatClampNeg x.toInt8.toInt32))), S.2) (F0 m (pc + 1) ls rest)) : gV D cT H0 p l e R s m args below meth c Q S0 S (F0 m pc ls (.int x :: .int i :: va_rf (some a) :: rest)) := by
  obtain ⟨hx, hb, hml, hown, hts, hK, -⟩ := X
  intro H locs hA h2 h3 h4
  obtain ⟨hz, hP⟩ := hA.2.2.2 a _ ha
  refine W.bast hx hb hP ((hK.2 t _ ht).1 n (fun j => .int (f j))) (fun q => by cases q) (g_in hin) rfl rfl hdg fun H1 e z oq => ?_
  refine kk H1 _ (hA.set ha ?_ z oq) (g_lc h2 hz) h3 h4
  show H1[a]? = some (vp_cell _ _)
  rw [e, vp_cell_i, vp_cell_i, arrV_store]
  congr 2
  funext q
  by_cases hq : q = i.toNatClampNeg
  · subst hq; simp [updV, upd, narrow]
  · simp [updV, upd, hq]
theorem g_last (X : gX D cT p R s m args meth c cc nL own fr lo S0) {t n : Nat} (ht : gKinds[t]? = some .long) {f : Nat → Int64} (ha : S.1 a = some (.inl (t, n, .inr (.inl f)))) {i : Int32} {x : Int64} (hin : ¬ (i < 0 ∨ n ≤ i.toNatClampNeg)) (hdg : decode cc pc = .ok (.lastore, 1))
    (kk : gV D cT H0 p l e R s m args below meth c Q S0 (gup S.1 a (.inl (t, n, .inr (.inl (vp_updL f i.toNatClampNeg x)))), S.2) (F0 m (pc + 1) ls rest)) : gV D cT H0 p l e R s m args below meth c Q S0 S (F0 m pc ls (.long x :: .int i :: va_rf (some a) :: rest)) := by
  obtain ⟨hx, hb, hml, hown, hts, hK, -⟩ := X
  intro H locs hA h2 h3 h4
  obtain ⟨hz, hP⟩ := hA.2.2.2 a _ ha
  refine W.last hx hb hP ((hK.2 t _ ht).1 n (fun j => .long (f j))) (fun q => by cases q) (g_in hin) rfl rfl hdg fun H1 e z oq => ?_
  refine kk H1 _ (hA.set ha ?_ z oq) (g_lc h2 hz) h3 h4
  show H1[a]? = some (vp_cell _ _)
  rw [e, vp_cell_l, vp_cell_l, arrV_store]
  congr 2
  funext q
  by_cases hq : q = i.toNatClampNeg
  · subst hq; simp [updV, vp_updL]
  · simp [updV, vp_updL, hq]
theorem g_aast (X : gX D cT p R s m args meth c cc nL own fr lo S0) {t n ci v : Nat} {C : String} {T : u_T} {N : Nat} {ty : Nat → FieldType} (hC : gCl ci C T N ty) (ht : gKinds[t]? = some (.object C)) {f : Nat → Option Nat} (ha : S.1 a = some (.inl (t, n, .inr (.inr (.inr (.inr f)))))) {vs : List Value} (hv : S.1 v = some (.inr (ci, vs))) {i : Int32} (hin : ¬ (i < 0 ∨ n ≤ i.toNatClampNeg)) (hdg : decode cc pc = .ok (.aastore, 1))
    (kk : gV D cT H0 p l e R s m args below meth c Q S0 (gup S.1 a (.inl (t, n, .inr (.inr (.inr (.inr (va_up f i.toNatClampNeg (some v))))))), S.2) (F0 m (pc + 1) ls rest)) : gV D cT H0 p l e R s m args below meth c Q S0 S (F0 m pc ls (va_rf (some v) :: .int i :: va_rf (some a) :: rest)) := by
  obtain ⟨hx, hb, hml, hown, hts, hK, -⟩ := X
  obtain ⟨hc, -⟩ := hC
  intro H locs hA h2 h3 h4
  obtain ⟨hz, hP⟩ := hA.2.2.2 a _ ha
  obtain ⟨-, r', hr', cellV, g1, g2, g3, -⟩ := hA.2.2.2 v _ hv
  have hcls := (hK.1.1 ci _ hc).2
  obtain ⟨kA, comp, k1, k2, k3, -⟩ := (hK.2 t _ ht).2
  have hcomp : comp = D.1 ci := Option.some.inj (k3.symm.trans hcls.1)
  subst hcomp
  have hcls2 := hcls
  obtain ⟨kC, hkC, -⟩ := hcls.2
  refine W.aast hx hb hP (fun q h => by cases h) (fun h => by cases h) k1 k2 rfl hkC ⟨fun q => hin (Or.inl q), by show _ < (arrV _ _ _).slots.size; rw [arrV_size]; exact Nat.not_le.mp fun q => hin (Or.inr q)⟩ g1 (fun q h => by rw [g3] at h; cases h) (by rw [g2]; exact hkC) (by rw [g2]; exact va_assign hcls2) rfl rfl hdg fun H1 e z oq => ?_
  refine kk H1 _ (hA.set ha ?_ z oq) (g_lc h2 hz) h3 h4
  show H1[a]? = some (vp_cell _ _)
  rw [e, vp_cell_q, vp_cell_q, arrV_store]
  congr 2
  funext q
  by_cases hq : q = i.toNatClampNeg
  · subst hq; simp [updV, va_up, va_rf]
  · simp [updV, va_up, hq]
/-- locals that are references or null -/
theorem g_aload_n (hx : p.tables.exec = Jvm.exec) (hb : c.code = cc) {k : Fin 4} {i : Nat} {r : Option Nat} {H : Heap} {locs : List Loc} {cells slots : Nat} (hdg : decode cc pc = .ok (.aload_n k, 1)) (hi : (k : Nat) = i) (hl : ls[i]? = some (.val (va_rf r)))
    (kk : W p l e R s m args below meth c H locs cells slots Q (F0 m (pc + 1) ls (va_rf r :: rest))) : W p l e R s m args below meth c H locs cells slots Q (F0 m pc ls rest) := by
  cases r with
  | none => exact lv_aload_nN hx hb hdg hi hl kk
  | some x => exact lv_aload_n hx hb hdg hi hl kk
theorem g_aload (hx : p.tables.exec = Jvm.exec) (hb : c.code = cc) {i : Nat} {r : Option Nat} {H : Heap} {locs : List Loc} {cells slots : Nat} (hdg : decode cc pc = .ok (.aload i, 2)) (hl : ls[i]? = some (.val (va_rf r)))
    (kk : W p l e R s m args below meth c H locs cells slots Q (F0 m (pc + 2) ls (va_rf r :: rest))) : W p l e R s m args below meth c H locs cells slots Q (F0 m pc ls rest) := by
  cases r with
  | none => exact lv_aloadN hx hb hdg hl kk
  | some x => exact lv_aload hx hb hdg hl kk
theorem g_astore_n (hx : p.tables.exec = Jvm.exec) (hb : c.code = cc) {k : Fin 4} {i : Nat} {r : Option Nat} {lv lv' : List (Nat × Value)} {H : Heap} {locs : List Loc} {cells slots : Nat} (hdg : decode cc pc = .ok (.astore_n k, 1)) (hi : (k : Nat) = i) (h : lv_has ls nL lv) (hn : i < nL) (hl : (i, va_rf r) :: lv.filter (fun q => !(q.1 == i) && !(q.1 + 1 == i && q.2.category == 2)) = lv')
    (kk : ∀ ls' : Array Slot, lv_has ls' nL lv' → W p l e R s m args below meth c H locs cells slots Q (F0 m (pc + 1) ls' rest)) : W p l e R s m args below meth c H locs cells slots Q (F0 m pc ls (va_rf r :: rest)) := by
  cases r with
  | none => exact lv_astore_nN hx hb hdg hi h hn hl kk
  | some x => exact lv_astore_n hx hb hdg hi h hn hl kk
theorem g_astore (hx : p.tables.exec = Jvm.exec) (hb : c.code = cc) {i : Nat} {r : Option Nat} {lv lv' : List (Nat × Value)} {H : Heap} {locs : List Loc} {cells slots : Nat} (hdg : decode cc pc = .ok (.astore i, 2)) (h : lv_has ls nL lv) (hn : i < nL) (hl : (i, va_rf r) :: lv.filter (fun q => !(q.1 == i) && !(q.1 + 1 == i && q.2.category == 2)) = lv')
    (kk : ∀ ls' : Array Slot, lv_has ls' nL lv' → W p l e R s m args below meth c H locs cells slots Q (F0 m (pc + 2) ls' rest)) : W p l e R s m args below meth c H locs cells slots Q (F0 m pc ls (va_rf r :: rest)) := by
  cases r with
  | none => exact lv_astoreN hx hb hdg h hn hl kk
  | some x => exact lv_astore hx hb hdg h hn hl kk
end GV
end
section
/-! ===== BEGIN words of one list among another's, by their places ===== -/
theorem goodIn_r {big : List Cond} (ws : List Cond) (ps : List Nat) (hp : ws = ps.filterMap (fun i => big[i]?)) (h : ws.all goodWord = true) : GoodIn big ws := by
  intro w hw
  have h1 := List.all_eq_true.mp h w hw
  rw [hp] at hw
  obtain ⟨i, -, hi⟩ := List.mem_filterMap.mp hw
  have hm : w ∈ big := by first | exact List.mem_of_getElem? hi | exact List.getElem?_mem hi
  exact ⟨hm, good_of_word h1⟩
theorem goodIn_app {big a b : List Cond} (ha : GoodIn big a) (hb : GoodIn big b) : GoodIn big (a ++ b) := fun w h => (List.mem_append.mp h).elim (ha w) (hb w)
theorem goodIn_ca {big a b : List Cond} {c : Cond} (ha : GoodIn big (c :: a)) (hb : GoodIn big b) : GoodIn big (c :: (a ++ b)) := fun w h => (List.mem_cons.mp h).elim (fun e => ha w (List.mem_cons.mpr (Or.inl e))) (fun h => (List.mem_append.mp h).elim (fun h => ha w (List.mem_cons.mpr (Or.inr h))) (hb w))
theorem goodIn_sub {big ws : List Cond} (hm : ∀ w ∈ ws, w ∈ big) (h : ws.all goodWord = true) : GoodIn big ws := fun w hw => ⟨hm w hw, good_of_word (List.all_eq_true.mp h w hw)⟩
/-! ===== END ===== -/

/-! ===== BEGIN exceptions that leave a method, and their catching by the caller (launches without stack traces) ===== -/
section VXA
/-! The laws vx_back, vx_callV, vx_callS, vx_callSW, vx_throw0, vx_throwS follow proofs of the library, with one case more: JvmDerived/Free/Laws.lean (Back.of_free), Shelf42/LK1.lean (callV, callS), Shelf/KitTraced.lean (throwNew0V, throwNewS). -/
/-- where a method has thrown q: the class by its name, the cell, what was written, the world -/
def vx_T (XC : String → State → State → Prop) (st : State) (q : Addr) (t : State) (mc ms : Nat) (free : Addr → Prop) : Prop :=
  ∃ (E : String) (ce : Cell) (L : List Loc), XC E st t ∧ t.heap[q]? = some ce ∧ ce.vm = .none ∧ st.vm.findClass E = some ce.cls ∧ st.WarmedH t.vm ∧ st.sameButNew ({ t with vm := st.vm } : State) L mc ms ∧ ∀ z ∈ L, free z.base
def vx_Q (Qc : Array Value → State → Outcome → State → Prop) (XC : String → State → State → Prop) (mc ms : Nat) (free : Addr → Prop) : Array Value → State → Outcome → State → Prop := fun a st o t =>
  (Qc a st o t ∧ ∃ L, FrameEnd st o t L mc ms ∧ ∀ q ∈ L, free q.base) ∨ ∃ q, o = .threw q ∧ vx_T XC st q t mc ms free
/-- a callee that returns or throws -/
def vx_Met (l : Launch) (y : MethodName) (ws : List Cond) (rm : Room) (Pc : Array Value → State → Prop) (Qc : Array Value → State → Outcome → State → Prop) (XC : String → State → State → Prop) (mc ms : Nat) (free : Addr → Prop) : Prop :=
  MetFree l y (headSpec ws rm) Pc (fun _ _ _ _ _ => True) (vx_Q Qc XC mc ms free)
def vx_Post (XC : String → State → State → Prop) (mc ms : Nat) (free : Addr → Prop) : Pt → Array Value → Addr → Pt → Prop := fun A a q B =>
  ∃ (g : JFrame) (mk : MethodId) (t : State) (L : List Loc) (E : String) (ce : Cell), B.U.heap = t.heap ∧ B.U.vm = t.vm ∧ XC E (A.U.calling g mk a) t ∧ t.heap[q]? = some ce ∧ ce.vm = .none ∧ A.U.vm.findClass E = some ce.cls ∧ B.locs = A.locs ++ L ∧ (∀ z ∈ L, free z.base) ∧ B.cells = A.cells + mc ∧ B.slots = A.slots + ms
def vx_Back (l : Launch) (R : Room) (p : Program) (e : Env) (below : List Frame) (s : State) (sargs : Array Value) (y : MethodName) (len W9 : Nat)
    (Pre : Pt → Array Value → Prop) (Post : Pt → Array Value → Option Value → Pt → Prop) (PostX : Pt → Array Value → Addr → Pt → Prop) : Prop :=
  ∀ (m : MethodId) (meth : Method) (c : Code) (A : Pt) (g : JFrame) (ig : Instr) (mk : MethodId) (a : Array Value),
    Stand p l e R s m sargs below meth c A.U A.locs A.cells A.slots → g.method = m → g.locals.size = c.maxLocals → decode c.code g.pc = .ok (ig, len) →
    2 * g.monitorRoom + (g.stack.map fun v => v.category).sum ≤ W9 → A.U.methodNamed? y = some mk → Pre A a →
    (∃ (v : Option Value) (B : Pt), Stand p l e R s m sargs below meth c B.U B.locs B.cells B.slots ∧ Post A a v B ∧
      Steps p.tables e below (doInvoke e (A.U.setTop g) [] mk a).1 (B.U.setTop { g with pc := g.pc + len, stack := v.toList ++ g.stack })) ∨
    (∃ (q : Addr) (B : Pt), Stand p l e R s m sargs below meth c B.U B.locs B.cells B.slots ∧ PostX A a q B ∧
      Steps p.tables e below (doInvoke e (A.U.setTop g) [] mk a).1 ((B.U.setTop g).pushFrame (.throwing q)))
section Payer
variable {l : Launch} {R : Room} {p : Program} {e : Env} {below : List Frame} {s : State} {sargs : Array Value} {y : MethodName} {len W9 : Nat}
theorem vx_back {ws : List Cond} {rm : Room} {Pc : Array Value → State → Prop} {Qc : Array Value → State → Outcome → State → Prop} {XC : String → State → State → Prop} {mc ms : Nat} {free : Addr → Prop} {bytes : ByteArray} {maxL : Nat} {ret : Option FieldType}
    (hM : vx_Met l y ws rm Pc Qc XC mc ms free) (hblind : FrameBlind Pc) (hrc : rm.cells = mc) (hrs : rm.slots = ms)
    (hframes : rm.frames + 1 ≤ R.frames) (hlocals : W9 + (maxL + 11) + rm.locals ≤ R.locals)
    (hws : ∀ w ∈ ws, ∀ a' U, s.WarmedH U.vm → w.before a' U = true) (hcode : Cond.code y bytes maxL ret ∈ ws) (hinit : ∀ a' U, s.WarmedH U.vm → (Cond.initialized y.cls).before a' U = true) :
    vx_Back l R p e below s sargs y len W9 (PreOf R mc ms Pc) (PostOf Qc mc ms free) (vx_Post XC mc ms free) := by
  intro m meth c A g ig mk a X hg hsize hdg hW hn hp
  have h1 : (headSpec ws rm).pre.before a A.U = true := atoms_intro fun w hw => hws w hw _ _ X.warmed
  have h2 : (Cond.code y bytes maxL ret).before a A.U = true := hws _ hcode _ _ X.warmed
  have h3 : (Cond.initialized y.cls).before a A.U = true := hinit _ _ X.warmed
  have h4 : A.cells + (headSpec ws rm).room.cells ≤ R.cells := by rw [show (headSpec ws rm).room.cells = mc from hrc]; exact hp.1
  have h5 : A.slots + (headSpec ws rm).room.slots ≤ R.slots := by rw [show (headSpec ws rm).room.slots = ms from hrs]; exact hp.2.1
  have hPc : Pc a (A.U.calling g mk a) := hblind _ _ _ _ hp.2.2
  obtain ⟨U, Ls, c0, s0⟩ := A
  dsimp only [Pt.U, Pt.locs, Pt.cells, Pt.slots] at h1 h2 h3 h4 h5 X hn hPc ⊢
  obtain ⟨methY, cY, hmY, hcY, -, hlY, -, -, -, -⟩ := Cond.code_spec hn h2
  obtain ⟨kY, hkY, -⟩ := className_of_methodNamed hn
  have hinitY : kY.init = .initialized := Cond.initialized_spec (findClass_of_methodNamed hn) hkY h3
  have h : At U g.method c below := by rw [hg]; exact X.here
  have hlocals9 : W9 + (maxL + 11) + (headSpec ws rm).room.locals ≤ R.locals := hlocals
  have happ : (headSpec ws rm).appliesLoose y e.platform (U.calling g mk a) = true :=
    Spec.appliesLoose_calling (g := g) h hdg hn hkY hinitY
      (X.room_calling (g := g) (R' := (headSpec ws rm).room) hsize hmY hcY hframes (by rw [hlY]; omega) h4 h5) h1
  obtain ⟨mid, hmid⟩ := h.above
  have hfr : (U.setTop g).frames = (.java g :: mid) ++ below := by rw [State.frames_setTop' g h.top, hmid]; rfl
  obtain ⟨o, s₂, hsteps, -, hend, hq⟩ := Steps.callFree hM p X.admits X.cas X.clock (acts := []) hfr happ hPc trivial
  have hq' : vx_Q Qc XC mc ms free a (U.calling g mk a) o s₂ := hq
  rw [State.frames_setTop' g h.top] at hend
  obtain ⟨g₀, hg0⟩ := Option.isSome_iff_exists.mp h.top
  obtain ⟨r, hr⟩ := State.topJava?_eq_some.mp hg0
  have hr' : (({ U with heap := s₂.heap, slotsUsed := s₂.slotsUsed } : State).setVm s₂.vm).frames = .java g₀ :: r := hr
  rcases hq' with ⟨hqc, L, hfe, hL⟩ | ⟨q, rfl, E, ce, L, hx, hce, hcv, hcl, hW₂, hsm, hL⟩
  · obtain ⟨⟨v, rfl⟩, hW₂, e2, q2, q3, q4, q5, q6⟩ := id hfe
    have e3 : s₂ = ({ (U.calling g mk a).setFrames s₂.frames with heap := s₂.heap, slotsUsed := s₂.slotsUsed } : State).setVm s₂.vm := by
      have : s₂ = ({ s₂ with vm := (U.calling g mk a).vm } : State).setVm s₂.vm := rfl
      rw [e2] at this
      exact this
    obtain ⟨c₂, i₂, len₂, hc₂, hd₂, hf₂⟩ := hend
    have hW' : U.WarmedH s₂.vm := hW₂
    have hcc : c₂ = c := by
      have h1 : s₂.code? g.method = U.code? g.method := by
        rw [State.code?_eq, State.code?_eq, hW'.alike.method?]
      exact Option.some.inj (hc₂.symm.trans (h1.trans h.code))
    subst hcc
    have hlen : len₂ = len := by rw [hdg] at hd₂; cases hd₂; rfl
    subst hlen
    have hs₂ : s₂ = (({ U with heap := s₂.heap, slotsUsed := s₂.slotsUsed } : State).setVm s₂.vm).setTop { g with pc := g.pc + len₂, stack := v.toList ++ g.stack } := by
      refine e3.trans ?_
      rw [hf₂, State.calling_eq h.top, State.setFrames_setFrames, State.setTop_of_frames _ hr', hr]
      rfl
    have hsame : U.sameButNew ({ U with heap := s₂.heap, slotsUsed := s₂.slotsUsed } : State) L mc ms := by
      refine ⟨?_, q2, q3, q4, q5, q6⟩
      obtain ⟨t, ht, -⟩ := State.frames_cons hr
      show ({ U with heap := s₂.heap, slotsUsed := s₂.slotsUsed } : State) = { U.setFrames U.frames with heap := s₂.heap, slotsUsed := s₂.slotsUsed }
      rw [State.setFrames_self ht]
    subst hg
    refine Or.inl ⟨v, ⟨(({ U with heap := s₂.heap, slotsUsed := s₂.slotsUsed } : State).setVm s₂.vm), Ls ++ L, c0 + mc, s0 + ms⟩,
      ⟨X.admits, X.cas, X.clock, X.frames, X.room, X.hears, X.method, X.code, (X.here.setHeapUsed s₂.heap s₂.slotsUsed).setVm hW'.alike, X.tail, State.WarmedH.trans X.warmed hW', X.limits, X.bytes, X.same.trans (hsame.setVm s.vm)⟩,
      ⟨g, mk, s₂, L, rfl, rfl, hqc, rfl, hL, rfl, rfl⟩, ?_⟩
    show Steps p.tables e below _ ((({ U with heap := s₂.heap, slotsUsed := s₂.slotsUsed } : State).setVm s₂.vm).setTop { g with pc := g.pc + len₂, stack := v.toList ++ g.stack })
    rw [← hs₂]
    exact hsteps
  · obtain ⟨e2, q2, q3, q4, q5, q6⟩ := id hsm
    have e3 : s₂ = ({ (U.calling g mk a).setFrames s₂.frames with heap := s₂.heap, slotsUsed := s₂.slotsUsed } : State).setVm s₂.vm := by
      have : s₂ = ({ s₂ with vm := (U.calling g mk a).vm } : State).setVm s₂.vm := rfl
      rw [e2] at this
      exact this
    have hf₂ : s₂.frames = .throwing q :: .java g :: U.frames.tail := hend
    have hW' : U.WarmedH s₂.vm := hW₂
    have hs₂ : s₂ = ((({ U with heap := s₂.heap, slotsUsed := s₂.slotsUsed } : State).setVm s₂.vm).setTop g).pushFrame (.throwing q) := by
      refine e3.trans ?_
      rw [hf₂, State.calling_eq h.top, State.setFrames_setFrames, State.pushFrame, State.frames_setTop _ hr', State.setTop_of_frames _ hr', State.setFrames_setFrames, hr]
      rfl
    have hsame : U.sameButNew ({ U with heap := s₂.heap, slotsUsed := s₂.slotsUsed } : State) L mc ms := by
      refine ⟨?_, q2, q3, q4, q5, q6⟩
      obtain ⟨t, ht, -⟩ := State.frames_cons hr
      show ({ U with heap := s₂.heap, slotsUsed := s₂.slotsUsed } : State) = { U.setFrames U.frames with heap := s₂.heap, slotsUsed := s₂.slotsUsed }
      rw [State.setFrames_self ht]
    subst hg
    refine Or.inr ⟨q, ⟨(({ U with heap := s₂.heap, slotsUsed := s₂.slotsUsed } : State).setVm s₂.vm), Ls ++ L, c0 + mc, s0 + ms⟩,
      ⟨X.admits, X.cas, X.clock, X.frames, X.room, X.hears, X.method, X.code, (X.here.setHeapUsed s₂.heap s₂.slotsUsed).setVm hW'.alike, X.tail, State.WarmedH.trans X.warmed hW', X.limits, X.bytes, X.same.trans (hsame.setVm s.vm)⟩,
      ⟨g, mk, s₂, L, E, ce, rfl, rfl, hx, hce, hcv, hcl, rfl, hL, rfl, rfl⟩, ?_⟩
    show Steps p.tables e below _ (((({ U with heap := s₂.heap, slotsUsed := s₂.slotsUsed } : State).setVm s₂.vm).setTop g).pushFrame (.throwing q))
    rw [← hs₂]
    exact hsteps
end Payer
section Calls
variable {p : Program} {l : Launch} {e : Env} {R : Room} {s : State} {m : MethodId} {args : Array Value} {below : List Frame} {meth : Method} {c : Code} {T : State} {locs : List Loc} {cells slots : Nat}
theorem vx_callV (X : Stand p l e R s m args below meth c T locs cells slots) (hexec : p.tables.exec = Jvm.exec) {own C : String} {index : Nat} {y : MethodName} {bytes : ByteArray} {maxL : Nat} {ret : Option FieldType}
    (hown : s.vm.findClass own = some m.cls) (hlink : (Cond.methodLink own index y).before args s = true) (hinst : (Cond.instanceMethod y).before args s = true) (hsel : (Cond.selects C y y).before args s = true)
    (hcode : (Cond.code y bytes maxL ret).before args s = true) (hy : y.cls ≠ "java/lang/invoke/MethodHandle" ∧ y.cls ≠ "java/lang/invoke/VarHandle")
    {W9 : Nat} {Pre : Pt → Array Value → Prop} {Post : Pt → Array Value → Option Value → Pt → Prop} {PostX : Pt → Array Value → Addr → Pt → Prop} (hK : vx_Back l R p e below s args y 3 W9 Pre Post PostX)
    {b : Addr} {cellB : Cell} (hcell : T.heap[b]? = some cellB) (hobj : cellB.vm.isStatics = false) (hcls : s.vm.findClass C = some cellB.cls)
    {g : JFrame} (hg : g.method = m) (hsize : g.locals.size = c.maxLocals) {argsL rest : List Value} (hlen : ∀ sig, parseMethodDescriptor y.desc = some sig → argsL.length = sig.parameters.length)
    (hstack : g.stack = argsL.reverse ++ .ref b :: rest) (hW : 2 * g.monitorRoom + (rest.map fun v => v.category).sum ≤ W9) (hdg : decode c.code g.pc = .ok (.invokevirtual index, 3))
    (hpre : ∀ vm₁, s.WarmedH vm₁ → Pre ⟨T.setVm vm₁, locs, cells, slots⟩ (Value.ref b :: argsL).toArray) :
    (∃ (v : Option Value) (vm₁ : Vm) (B : Pt), s.WarmedH vm₁ ∧ Stand p l e R s m args below meth c B.U B.locs B.cells B.slots ∧ Post ⟨T.setVm vm₁, locs, cells, slots⟩ (Value.ref b :: argsL).toArray v B ∧
      ∀ target, Steps p.tables e below (B.U.setTop { g with pc := g.pc + 3, stack := v.toList ++ rest }) target → Steps p.tables e below (T.setTop g) target) ∨
    (∃ (q : Addr) (vm₁ : Vm) (B : Pt), s.WarmedH vm₁ ∧ Stand p l e R s m args below meth c B.U B.locs B.cells B.slots ∧ PostX ⟨T.setVm vm₁, locs, cells, slots⟩ (Value.ref b :: argsL).toArray q B ∧
      Steps p.tables e below (T.setTop g) ((B.U.setTop { g with stack := rest }).pushFrame (.throwing q))) := by
  obtain ⟨mk, methM, hnamed, hmethM, hstM, habM⟩ := Cond.instanceMethod_spec hinst
  obtain ⟨methM', cM, hmethM', -, -, -, -, -, -, hsigM⟩ := Cond.code_spec hnamed hcode
  cases hmethM.symm.trans hmethM'
  obtain ⟨c2, r2, m2, q1, q2, q3, q4, kP, hkP, hkPi⟩ := Cond.selects_spec hsel
  cases hcls.symm.trans q1
  cases (State.methodFound?_of_named hnamed hy).symm.trans q2
  cases hnamed.symm.trans q3
  have hselP : selectMethod e.platform s.vm cellB.cls mk = .method mk := by rw [Launch.admits_selectMethod X.admits]; exact q4
  obtain ⟨vm₁, X₁, hstep₁⟩ := X.invokevirtual hexec hown hlink hnamed hmethM hstM hkP hkPi hy (a := b) (cell := cellB) hcell
    (fun z h => by rw [h] at hobj; cases hobj) hselP hmethM habM hkP hkPi (g := g) hg (argsL := argsL) (rest := rest) (hlen _ hsigM) hstack hdg
  rcases hK m meth c ⟨T.setVm vm₁, locs, cells, slots⟩ { g with stack := rest } (.invokevirtual index) mk (Value.ref b :: argsL).toArray X₁ hg hsize hdg hW (X₁.named hnamed) (hpre vm₁ X₁.warmed) with ⟨v, B, X', hpost, hsteps⟩ | ⟨q, B, X', hpost, hsteps⟩
  · exact Or.inl ⟨v, vm₁, B, X₁.warmed, X', hpost, fun target h => hstep₁ _ fun acts => by rw [doInvoke_state]; exact hsteps.trans h⟩
  · exact Or.inr ⟨q, vm₁, B, X₁.warmed, X', hpost, hstep₁ _ fun acts => by rw [doInvoke_state]; exact hsteps⟩
theorem vx_callS (X : Stand p l e R s m args below meth c T locs cells slots) (hexec : p.tables.exec = Jvm.exec) {own : String} {index : Nat} {y : MethodName} {bytes : ByteArray} {maxL : Nat} {ret : Option FieldType}
    (hown : s.vm.findClass own = some m.cls) (hlink : (Cond.methodLink own index y).before args s = true) (hstat : (Cond.static y).before args s = true) (hinit : (Cond.initialized y.cls).before args s = true)
    (hcode : (Cond.code y bytes maxL ret).before args s = true) (hy : y.cls ≠ "java/lang/invoke/MethodHandle" ∧ y.cls ≠ "java/lang/invoke/VarHandle")
    {W9 : Nat} {Pre : Pt → Array Value → Prop} {Post : Pt → Array Value → Option Value → Pt → Prop} {PostX : Pt → Array Value → Addr → Pt → Prop} (hK : vx_Back l R p e below s args y 3 W9 Pre Post PostX)
    {g : JFrame} (hg : g.method = m) (hsize : g.locals.size = c.maxLocals) {argsL rest : List Value} (hlen : ∀ sig, parseMethodDescriptor y.desc = some sig → argsL.length = sig.parameters.length)
    (hstack : g.stack = argsL.reverse ++ rest) (hW : 2 * g.monitorRoom + (rest.map fun v => v.category).sum ≤ W9) (hdg : decode c.code g.pc = .ok (.invokestatic index, 3))
    (hpre : ∀ vm₁, s.WarmedH vm₁ → Pre ⟨T.setVm vm₁, locs, cells, slots⟩ argsL.toArray) :
    (∃ (v : Option Value) (vm₁ : Vm) (B : Pt), s.WarmedH vm₁ ∧ Stand p l e R s m args below meth c B.U B.locs B.cells B.slots ∧ Post ⟨T.setVm vm₁, locs, cells, slots⟩ argsL.toArray v B ∧
      ∀ target, Steps p.tables e below (B.U.setTop { g with pc := g.pc + 3, stack := v.toList ++ rest }) target → Steps p.tables e below (T.setTop g) target) ∨
    (∃ (q : Addr) (vm₁ : Vm) (B : Pt), s.WarmedH vm₁ ∧ Stand p l e R s m args below meth c B.U B.locs B.cells B.slots ∧ PostX ⟨T.setVm vm₁, locs, cells, slots⟩ argsL.toArray q B ∧
      Steps p.tables e below (T.setTop g) ((B.U.setTop { g with stack := rest }).pushFrame (.throwing q))) := by
  obtain ⟨mk, hnamed⟩ := Cond.code_named hcode
  obtain ⟨methM, cM, hmethM, -, -, -, -, -, -, hsigM⟩ := Cond.code_spec hnamed hcode
  have hstatic : methM.isStatic = true := Cond.static_spec hnamed hmethM hstat
  obtain ⟨kP, hkP, -⟩ := className_of_methodNamed hnamed
  have hinitP : kP.init = .initialized := Cond.initialized_spec (findClass_of_methodNamed hnamed) hkP hinit
  obtain ⟨vm₁, X₁, hstep₁⟩ := X.invokestatic hexec hown hlink hnamed hmethM hstatic hkP hinitP hy (g := g) hg (argsL := argsL) (rest := rest) (hlen _ hsigM) hstack hdg
  rcases hK m meth c ⟨T.setVm vm₁, locs, cells, slots⟩ { g with stack := rest } (.invokestatic index) mk argsL.toArray X₁ hg hsize hdg hW (X₁.named hnamed) (hpre vm₁ X₁.warmed) with ⟨v, B, X', hpost, hsteps⟩ | ⟨q, B, X', hpost, hsteps⟩
  · exact Or.inl ⟨v, vm₁, B, X₁.warmed, X', hpost, fun target h => hstep₁ _ fun acts => by rw [doInvoke_state]; exact hsteps.trans h⟩
  · exact Or.inr ⟨q, vm₁, B, X₁.warmed, X', hpost, hstep₁ _ fun acts => by rw [doInvoke_state]; exact hsteps⟩
end Calls
theorem vx_cls {s : State} {T : State} {vm₁ : Vm} {E : String} {k : ClassId} (hW : s.WarmedH vm₁) (h : (T.setVm vm₁).vm.findClass E = some k) : s.vm.findClass E = some k := by
  have h1 : vm₁.findClass E = some k := h
  rw [hW.alike.findClass] at h1
  exact h1
/-- the method's frame g, with q thrown over it -/
def vx_W (p : Program) (l : Launch) (e : Env) (R : Room) (s : State) (m : MethodId) (args : Array Value) (below : List Frame) (meth : Method) (c : Code) (H : Heap) (locs : List Loc) (cells slots : Nat) (Q : State → Prop) (g : JFrame) (q : Addr) : Prop :=
  ∀ T : State, T.heap = H → Stand p l e R s m args below meth c T locs cells slots → ∃ t, Steps p.tables e below ((T.setTop g).pushFrame (.throwing q)) t ∧ Q t
def vx_Run (p : Program) (l : Launch) (e : Env) (R : Room) (s : State) (m : MethodId) (args : Array Value) (below : List Frame) (meth : Method) (c : Code) (H : Heap) (locs : List Loc) (cells slots mc ms : Nat) (g : JFrame) (rest : List Value) (Qa : State → Outcome → State → Prop) (XC : String → State → State → Prop) (free : Addr → Prop) : Prop :=
  ∀ T : State, T.heap = H → Stand p l e R s m args below meth c T locs cells slots →
    (∃ (v : Option Value) (st₀ t T' : State) (L : List Loc), st₀.heap = H ∧ Stand p l e R s m args below meth c T' (locs ++ L) (cells + mc) (slots + ms) ∧ (∀ q ∈ L, free q.base) ∧ T'.heap = t.heap ∧ T'.vm = t.vm ∧ Qa st₀ (.returned v) t ∧
      Goes p e below T g T' { g with pc := g.pc + 3, stack := v.toList ++ rest }) ∨
    (∃ (q : Addr) (st₀ t T' : State) (L : List Loc) (E : String) (ce : Cell), st₀.heap = H ∧ Stand p l e R s m args below meth c T' (locs ++ L) (cells + mc) (slots + ms) ∧ (∀ z ∈ L, free z.base) ∧ T'.heap = t.heap ∧ T'.vm = t.vm ∧ XC E st₀ t ∧ t.heap[q]? = some ce ∧ ce.vm = .none ∧ s.vm.findClass E = some ce.cls ∧
      Steps p.tables e below (T.setTop g) ((T'.setTop { g with stack := rest }).pushFrame (.throwing q)))
def vx_X {S : Type} (px : S → Prop) (B : String → S → State → Prop) (A : Nat → Prop) : String → State → State → Prop := fun E st t => ∃ u : S, px u ∧ B E u t ∧ va_F A st t
section Runs
variable {p : Program} {l : Launch} {e : Env} {R : Room} {s : State} {m : MethodId} {args : Array Value} {below : List Frame} {meth : Method} {c : Code} {H : Heap} {locs : List Loc} {cells slots : Nat}
variable {y : MethodName} {bytes cc : ByteArray} {maxL nL mc ms n index : Nat} {ret : Option FieldType} {ws : List Cond} {rm : Room} {Pc : Array Value → State → Prop} {Qc : Array Value → State → Outcome → State → Prop} {XC : String → State → State → Prop} {free : Addr → Prop} {Ts : List Cond} {own C : String} {b : Addr} {As rest : List Value} {g : JFrame}
theorem vx_callBack (cb : CallB R s args own index y bytes maxL ret ws rm mc ms n) (hM : vx_Met l y ws rm Pc Qc XC mc ms free) (hbl : FrameBlind Pc) : vx_Back l R p e below s args y 3 8 (PreOf R mc ms Pc) (PostOf Qc mc ms free) (vx_Post XC mc ms free) := by
  obtain ⟨hrc, hrs, hfr, hlo, hws, hcw, -, hini, -⟩ := cb
  exact vx_back (bytes := bytes) (maxL := maxL) (ret := ret) hM hbl hrc hrs hfr hlo hws hcw (fun a' U hW => word_at hW (Or.inl (by first | rfl | simp [Cond.onTables, Cond.keeps, Cond.steady])) hini)
theorem vx_runV (S : CallFix p m c cc nL s args Ts own) (hM : vx_Met l y ws rm Pc Qc XC mc ms free) (cw : CallW R s args own C index y bytes maxL ret ws rm mc ms n) (hp : PreV s H C b Pc As)
    (hg : g.method = m) (hn : As.length = n) (hsize : g.locals.size = nL) (hstack : g.stack = As.reverse ++ .ref b :: rest) (hW : 2 * g.monitorRoom + (rest.map fun v => v.category).sum ≤ 8) (hdg : decode cc g.pc = .ok (.invokevirtual index, 3)) (hf : cells + mc ≤ R.cells ∧ slots + ms ≤ R.slots) :
    vx_Run p l e R s m args below meth c H locs cells slots mc ms g rest (Qc (Value.ref b :: As).toArray) XC free := by
  have hK : vx_Back l R p e below s args y 3 8 (PreOf R mc ms Pc) (PostOf Qc mc ms free) (vx_Post XC mc ms free) := vx_callBack cw.1 hM hp.1
  obtain ⟨⟨-, -, -, -, -, -, hcode, -, hy, hlen, hl⟩, hin, hse⟩ := cw
  obtain ⟨hx, hb, hml, ho, -⟩ := S
  obtain ⟨-, ⟨cellB, hcB, hoB, hclB⟩, hPc⟩ := hp
  intro T hT X
  rcases vx_callV X hx (C := C) (bytes := bytes) (maxL := maxL) (ret := ret) ho hl hin hse hcode hy hK (by rw [hT]; exact hcB) hoB hclB hg (hsize.trans hml.symm) (argsL := As) (rest := rest) (fun sig h => hn.trans (hlen sig h)) hstack hW (by rw [hb]; exact hdg)
    (fun vm₁ hW₁ => ⟨hf.1, hf.2, hPc (T.setVm vm₁) hT hW₁⟩) with ⟨v, vm₁, ⟨U', l2, c2, s2⟩, hW₁, X', ⟨g', mk, t, L, e1, e2, hq, h1, hL, h2, h3⟩, st⟩ | ⟨q, vm₁, ⟨U', l2, c2, s2⟩, hW₁, X', ⟨g', mk, t, L, E, ce, e1, e2, hq, hce, hcv, hcl, h1, hL, h2, h3⟩, st⟩
  · dsimp only [Pt.U, Pt.locs, Pt.cells, Pt.slots] at X' e1 e2 h1 h2 h3 st
    subst h1; subst h2; subst h3
    exact Or.inl ⟨v, (T.setVm vm₁).calling g' mk (Value.ref b :: As).toArray, t, U', L, hT, X', hL, e1, e2, hq, st⟩
  · dsimp only [Pt.U, Pt.locs, Pt.cells, Pt.slots] at X' e1 e2 h1 h2 h3 st hcl
    subst h1; subst h2; subst h3
    exact Or.inr ⟨q, (T.setVm vm₁).calling g' mk (Value.ref b :: As).toArray, t, U', L, E, ce, hT, X', hL, e1, e2, hq, hce, hcv, vx_cls hW₁ hcl, st⟩
theorem vx_runS (S : CallFix p m c cc nL s args Ts own) (hM : vx_Met l y ws rm Pc Qc XC mc ms free) (cw : CallB R s args own index y bytes maxL ret ws rm mc ms n ∧ (Cond.static y).before args s = true) (hp : PreS s H Pc As)
    (hg : g.method = m) (hn : As.length = n) (hsize : g.locals.size = nL) (hstack : g.stack = As.reverse ++ rest) (hW : 2 * g.monitorRoom + (rest.map fun v => v.category).sum ≤ 8) (hdg : decode cc g.pc = .ok (.invokestatic index, 3)) (hf : cells + mc ≤ R.cells ∧ slots + ms ≤ R.slots) :
    vx_Run p l e R s m args below meth c H locs cells slots mc ms g rest (Qc As.toArray) XC free := by
  have hK : vx_Back l R p e below s args y 3 8 (PreOf R mc ms Pc) (PostOf Qc mc ms free) (vx_Post XC mc ms free) := vx_callBack cw.1 hM hp.1
  obtain ⟨⟨-, -, -, -, -, -, hcode, hini, hy, hlen, hl⟩, hstt⟩ := cw
  obtain ⟨hx, hb, hml, ho, -⟩ := S
  intro T hT X
  rcases vx_callS X hx (bytes := bytes) (maxL := maxL) (ret := ret) ho hl hstt hini hcode hy hK hg (hsize.trans hml.symm) (argsL := As) (rest := rest) (fun sig h => hn.trans (hlen sig h)) hstack hW (by rw [hb]; exact hdg)
    (fun vm₁ hW₁ => ⟨hf.1, hf.2, hp.2 (T.setVm vm₁) hT hW₁⟩) with ⟨v, vm₁, ⟨U', l2, c2, s2⟩, hW₁, X', ⟨g', mk, t, L, e1, e2, hq, h1, hL, h2, h3⟩, st⟩ | ⟨q, vm₁, ⟨U', l2, c2, s2⟩, hW₁, X', ⟨g', mk, t, L, E, ce, e1, e2, hq, hce, hcv, hcl, h1, hL, h2, h3⟩, st⟩
  · dsimp only [Pt.U, Pt.locs, Pt.cells, Pt.slots] at X' e1 e2 h1 h2 h3 st
    subst h1; subst h2; subst h3
    exact Or.inl ⟨v, (T.setVm vm₁).calling g' mk As.toArray, t, U', L, hT, X', hL, e1, e2, hq, st⟩
  · dsimp only [Pt.U, Pt.locs, Pt.cells, Pt.slots] at X' e1 e2 h1 h2 h3 st hcl
    subst h1; subst h2; subst h3
    exact Or.inr ⟨q, (T.setVm vm₁).calling g' mk As.toArray, t, U', L, E, ce, hT, X', hL, e1, e2, hq, hce, hcv, vx_cls hW₁ hcl, st⟩
end Runs
section Rows
variable {p : Program} {l : Launch} {e : Env} {R : Room} {s : State} {m : MethodId} {args : Array Value} {below : List Frame} {meth : Method} {c : Code} {H : Heap} {locs : List Loc} {cells slots : Nat} {Q : State → Prop}
variable {mc ms : Nat} {free : Addr → Prop} {A0 A1 : Nat → Prop} {H0 : Heap} {a : Array Value} {pc : Nat} {ls : Array Slot} {st0 rest : List Value}
theorem vx_keep {st₀ t T' : State} {L : List Loc} (h0 : st₀.heap = H) (e1 : T'.heap = t.heap) (hS : va_S A0 H0 H locs) (hA : ∀ q, q < H.size → A1 q → A0 q) (hf : ∀ q, free q → A0 q) (hL : ∀ q ∈ L, free q.base) (hF : va_F A1 st₀ t) :
    H.size ≤ T'.heap.size ∧ (∀ q : Nat, q < H.size → ¬ A1 q → T'.heap[q]? = H[q]?) ∧ va_S A0 H0 T'.heap (locs ++ L) := by
  obtain ⟨hz, hk⟩ := hF
  rw [h0] at hz hk
  exact ⟨by rw [e1]; exact hz, fun q h1 h2 => by rw [e1]; exact hk q h1 h2,
    ⟨Nat.le_trans hS.1 (by rw [e1]; exact hz), fun q h1 h2 => by rw [e1, hk q (Nat.lt_of_lt_of_le h1 hS.1) (fun z => h2 (hA q (Nat.lt_of_lt_of_le h1 hS.1) z))]; exact hS.2.1 q h1 h2, fun q hq => by
      rcases List.mem_append.mp hq with h | h
      · exact hS.2.2 q h
      · exact hf _ (hL q h)⟩⟩
theorem vx_calli {S SX : Type} {post : Int32 → S → Prop} {px : SX → Prop} {B : S → State → Prop} {BX : String → SX → State → Prop} {AX : Nat → Prop} (hr : vx_Run p l e R s m args below meth c H locs cells slots mc ms (F0 m pc ls st0) rest (va_Qi post B A1 a) (vx_X px BX AX) free) (hS : va_S A0 H0 H locs) (hA : ∀ q, q < H.size → A1 q → A0 q) (hf : ∀ q, free q → A0 q) (hAX : ∀ q, q < H.size → AX q → A0 q)
    (kx : ∀ (E : String) (ce : Cell) (q9 : Addr) (u : SX) (t : State) (H1 : Heap) (locs1 : List Loc), t.heap = H1 → s.vm.Alike t.vm → px u → BX E u t → H.size ≤ H1.size → (∀ q : Nat, q < H.size → ¬ AX q → H1[q]? = H[q]?) → va_S A0 H0 H1 locs1 → H1[q9]? = some ce → ce.vm = .none → s.vm.findClass E = some ce.cls → vx_W p l e R s m args below meth c H1 locs1 (cells + mc) (slots + ms) Q (F0 m pc ls rest) q9)
    (kk : ∀ (r : Int32) (u : S) (t : State) (H1 : Heap) (locs1 : List Loc), t.heap = H1 → s.vm.Alike t.vm → post r u → B u t → H.size ≤ H1.size → (∀ q : Nat, q < H.size → ¬ A1 q → H1[q]? = H[q]?) → va_S A0 H0 H1 locs1 → W p l e R s m args below meth c H1 locs1 (cells + mc) (slots + ms) Q (F0 m (pc + 3) ls (.int r :: rest))) : W p l e R s m args below meth c H locs cells slots Q (F0 m pc ls st0) := by
  intro T hT X
  rcases hr T hT X with ⟨v, st₀, t, T', L, h0, X', hL, e1, e2, ⟨⟨r, u, hv, hp, hb⟩, hF⟩, st⟩ | ⟨q, st₀, t, T', L, E, ce, h0, X', hL, e1, e2, ⟨u, hp, hb, hF⟩, hce, hcv, hcl, st⟩
  · cases hv
    obtain ⟨k1, k2, k3⟩ := vx_keep h0 e1 hS hA hf hL hF
    obtain ⟨t2, a1, b1⟩ := kk r u t T'.heap (locs ++ L) e1.symm (by rw [← e2]; exact X'.warmed.alike) hp hb k1 k2 k3 T' rfl X'
    exact ⟨t2, st t2 a1, b1⟩
  · obtain ⟨k1, k2, k3⟩ := vx_keep h0 e1 hS hAX hf hL hF
    obtain ⟨t2, a1, b1⟩ := kx E ce q u t T'.heap (locs ++ L) e1.symm (by rw [← e2]; exact X'.warmed.alike) hp hb k1 k2 k3 (by rw [e1]; exact hce) hcv hcl T' rfl X'
    exact ⟨t2, st.trans a1, b1⟩
theorem vx_calll {S SX : Type} {post : Int64 → S → Prop} {px : SX → Prop} {B : S → State → Prop} {BX : String → SX → State → Prop} {AX : Nat → Prop} (hr : vx_Run p l e R s m args below meth c H locs cells slots mc ms (F0 m pc ls st0) rest (va_Ql post B A1 a) (vx_X px BX AX) free) (hS : va_S A0 H0 H locs) (hA : ∀ q, q < H.size → A1 q → A0 q) (hf : ∀ q, free q → A0 q) (hAX : ∀ q, q < H.size → AX q → A0 q)
    (kx : ∀ (E : String) (ce : Cell) (q9 : Addr) (u : SX) (t : State) (H1 : Heap) (locs1 : List Loc), t.heap = H1 → s.vm.Alike t.vm → px u → BX E u t → H.size ≤ H1.size → (∀ q : Nat, q < H.size → ¬ AX q → H1[q]? = H[q]?) → va_S A0 H0 H1 locs1 → H1[q9]? = some ce → ce.vm = .none → s.vm.findClass E = some ce.cls → vx_W p l e R s m args below meth c H1 locs1 (cells + mc) (slots + ms) Q (F0 m pc ls rest) q9)
    (kk : ∀ (r : Int64) (u : S) (t : State) (H1 : Heap) (locs1 : List Loc), t.heap = H1 → s.vm.Alike t.vm → post r u → B u t → H.size ≤ H1.size → (∀ q : Nat, q < H.size → ¬ A1 q → H1[q]? = H[q]?) → va_S A0 H0 H1 locs1 → W p l e R s m args below meth c H1 locs1 (cells + mc) (slots + ms) Q (F0 m (pc + 3) ls (.long r :: rest))) : W p l e R s m args below meth c H locs cells slots Q (F0 m pc ls st0) := by
  intro T hT X
  rcases hr T hT X with ⟨v, st₀, t, T', L, h0, X', hL, e1, e2, ⟨⟨r, u, hv, hp, hb⟩, hF⟩, st⟩ | ⟨q, st₀, t, T', L, E, ce, h0, X', hL, e1, e2, ⟨u, hp, hb, hF⟩, hce, hcv, hcl, st⟩
  · cases hv
    obtain ⟨k1, k2, k3⟩ := vx_keep h0 e1 hS hA hf hL hF
    obtain ⟨t2, a1, b1⟩ := kk r u t T'.heap (locs ++ L) e1.symm (by rw [← e2]; exact X'.warmed.alike) hp hb k1 k2 k3 T' rfl X'
    exact ⟨t2, st t2 a1, b1⟩
  · obtain ⟨k1, k2, k3⟩ := vx_keep h0 e1 hS hAX hf hL hF
    obtain ⟨t2, a1, b1⟩ := kx E ce q u t T'.heap (locs ++ L) e1.symm (by rw [← e2]; exact X'.warmed.alike) hp hb k1 k2 k3 (by rw [e1]; exact hce) hcv hcl T' rfl X'
    exact ⟨t2, st.trans a1, b1⟩
theorem vx_callf {S SX : Type} {post : UInt32 → S → Prop} {px : SX → Prop} {B : S → State → Prop} {BX : String → SX → State → Prop} {AX : Nat → Prop} (hr : vx_Run p l e R s m args below meth c H locs cells slots mc ms (F0 m pc ls st0) rest (va_Qf post B A1 a) (vx_X px BX AX) free) (hS : va_S A0 H0 H locs) (hA : ∀ q, q < H.size → A1 q → A0 q) (hf : ∀ q, free q → A0 q) (hAX : ∀ q, q < H.size → AX q → A0 q)
    (kx : ∀ (E : String) (ce : Cell) (q9 : Addr) (u : SX) (t : State) (H1 : Heap) (locs1 : List Loc), t.heap = H1 → s.vm.Alike t.vm → px u → BX E u t → H.size ≤ H1.size → (∀ q : Nat, q < H.size → ¬ AX q → H1[q]? = H[q]?) → va_S A0 H0 H1 locs1 → H1[q9]? = some ce → ce.vm = .none → s.vm.findClass E = some ce.cls → vx_W p l e R s m args below meth c H1 locs1 (cells + mc) (slots + ms) Q (F0 m pc ls rest) q9)
    (kk : ∀ (r : UInt32) (u : S) (t : State) (H1 : Heap) (locs1 : List Loc), t.heap = H1 → s.vm.Alike t.vm → post r u → B u t → H.size ≤ H1.size → (∀ q : Nat, q < H.size → ¬ A1 q → H1[q]? = H[q]?) → va_S A0 H0 H1 locs1 → W p l e R s m args below meth c H1 locs1 (cells + mc) (slots + ms) Q (F0 m (pc + 3) ls (.float r :: rest))) : W p l e R s m args below meth c H locs cells slots Q (F0 m pc ls st0) := by
  intro T hT X
  rcases hr T hT X with ⟨v, st₀, t, T', L, h0, X', hL, e1, e2, ⟨⟨r, u, hv, hp, hb⟩, hF⟩, st⟩ | ⟨q, st₀, t, T', L, E, ce, h0, X', hL, e1, e2, ⟨u, hp, hb, hF⟩, hce, hcv, hcl, st⟩
  · cases hv
    obtain ⟨k1, k2, k3⟩ := vx_keep h0 e1 hS hA hf hL hF
    obtain ⟨t2, a1, b1⟩ := kk r u t T'.heap (locs ++ L) e1.symm (by rw [← e2]; exact X'.warmed.alike) hp hb k1 k2 k3 T' rfl X'
    exact ⟨t2, st t2 a1, b1⟩
  · obtain ⟨k1, k2, k3⟩ := vx_keep h0 e1 hS hAX hf hL hF
    obtain ⟨t2, a1, b1⟩ := kx E ce q u t T'.heap (locs ++ L) e1.symm (by rw [← e2]; exact X'.warmed.alike) hp hb k1 k2 k3 (by rw [e1]; exact hce) hcv hcl T' rfl X'
    exact ⟨t2, st.trans a1, b1⟩
theorem vx_calld {S SX : Type} {post : UInt64 → S → Prop} {px : SX → Prop} {B : S → State → Prop} {BX : String → SX → State → Prop} {AX : Nat → Prop} (hr : vx_Run p l e R s m args below meth c H locs cells slots mc ms (F0 m pc ls st0) rest (va_Qd post B A1 a) (vx_X px BX AX) free) (hS : va_S A0 H0 H locs) (hA : ∀ q, q < H.size → A1 q → A0 q) (hf : ∀ q, free q → A0 q) (hAX : ∀ q, q < H.size → AX q → A0 q)
    (kx : ∀ (E : String) (ce : Cell) (q9 : Addr) (u : SX) (t : State) (H1 : Heap) (locs1 : List Loc), t.heap = H1 → s.vm.Alike t.vm → px u → BX E u t → H.size ≤ H1.size → (∀ q : Nat, q < H.size → ¬ AX q → H1[q]? = H[q]?) → va_S A0 H0 H1 locs1 → H1[q9]? = some ce → ce.vm = .none → s.vm.findClass E = some ce.cls → vx_W p l e R s m args below meth c H1 locs1 (cells + mc) (slots + ms) Q (F0 m pc ls rest) q9)
    (kk : ∀ (r : UInt64) (u : S) (t : State) (H1 : Heap) (locs1 : List Loc), t.heap = H1 → s.vm.Alike t.vm → post r u → B u t → H.size ≤ H1.size → (∀ q : Nat, q < H.size → ¬ A1 q → H1[q]? = H[q]?) → va_S A0 H0 H1 locs1 → W p l e R s m args below meth c H1 locs1 (cells + mc) (slots + ms) Q (F0 m (pc + 3) ls (.double r :: rest))) : W p l e R s m args below meth c H locs cells slots Q (F0 m pc ls st0) := by
  intro T hT X
  rcases hr T hT X with ⟨v, st₀, t, T', L, h0, X', hL, e1, e2, ⟨⟨r, u, hv, hp, hb⟩, hF⟩, st⟩ | ⟨q, st₀, t, T', L, E, ce, h0, X', hL, e1, e2, ⟨u, hp, hb, hF⟩, hce, hcv, hcl, st⟩
  · cases hv
    obtain ⟨k1, k2, k3⟩ := vx_keep h0 e1 hS hA hf hL hF
    obtain ⟨t2, a1, b1⟩ := kk r u t T'.heap (locs ++ L) e1.symm (by rw [← e2]; exact X'.warmed.alike) hp hb k1 k2 k3 T' rfl X'
    exact ⟨t2, st t2 a1, b1⟩
  · obtain ⟨k1, k2, k3⟩ := vx_keep h0 e1 hS hAX hf hL hF
    obtain ⟨t2, a1, b1⟩ := kx E ce q u t T'.heap (locs ++ L) e1.symm (by rw [← e2]; exact X'.warmed.alike) hp hb k1 k2 k3 (by rw [e1]; exact hce) hcv hcl T' rfl X'
    exact ⟨t2, st.trans a1, b1⟩
theorem vx_callv {S SX : Type} {post : S → Prop} {px : SX → Prop} {B : S → State → Prop} {BX : String → SX → State → Prop} {AX : Nat → Prop} (hr : vx_Run p l e R s m args below meth c H locs cells slots mc ms (F0 m pc ls st0) rest (va_Qv post B A1 a) (vx_X px BX AX) free) (hS : va_S A0 H0 H locs) (hA : ∀ q, q < H.size → A1 q → A0 q) (hf : ∀ q, free q → A0 q) (hAX : ∀ q, q < H.size → AX q → A0 q)
    (kx : ∀ (E : String) (ce : Cell) (q9 : Addr) (u : SX) (t : State) (H1 : Heap) (locs1 : List Loc), t.heap = H1 → s.vm.Alike t.vm → px u → BX E u t → H.size ≤ H1.size → (∀ q : Nat, q < H.size → ¬ AX q → H1[q]? = H[q]?) → va_S A0 H0 H1 locs1 → H1[q9]? = some ce → ce.vm = .none → s.vm.findClass E = some ce.cls → vx_W p l e R s m args below meth c H1 locs1 (cells + mc) (slots + ms) Q (F0 m pc ls rest) q9)
    (kk : ∀ (u : S) (t : State) (H1 : Heap) (locs1 : List Loc), t.heap = H1 → s.vm.Alike t.vm → post u → B u t → H.size ≤ H1.size → (∀ q : Nat, q < H.size → ¬ A1 q → H1[q]? = H[q]?) → va_S A0 H0 H1 locs1 → W p l e R s m args below meth c H1 locs1 (cells + mc) (slots + ms) Q (F0 m (pc + 3) ls (rest))) : W p l e R s m args below meth c H locs cells slots Q (F0 m pc ls st0) := by
  intro T hT X
  rcases hr T hT X with ⟨v, st₀, t, T', L, h0, X', hL, e1, e2, ⟨⟨u, hv, hp, hb⟩, hF⟩, st⟩ | ⟨q, st₀, t, T', L, E, ce, h0, X', hL, e1, e2, ⟨u, hp, hb, hF⟩, hce, hcv, hcl, st⟩
  · cases hv
    obtain ⟨k1, k2, k3⟩ := vx_keep h0 e1 hS hA hf hL hF
    obtain ⟨t2, a1, b1⟩ := kk u t T'.heap (locs ++ L) e1.symm (by rw [← e2]; exact X'.warmed.alike) hp hb k1 k2 k3 T' rfl X'
    exact ⟨t2, st t2 a1, b1⟩
  · obtain ⟨k1, k2, k3⟩ := vx_keep h0 e1 hS hAX hf hL hF
    obtain ⟨t2, a1, b1⟩ := kx E ce q u t T'.heap (locs ++ L) e1.symm (by rw [← e2]; exact X'.warmed.alike) hp hb k1 k2 k3 (by rw [e1]; exact hce) hcv hcl T' rfl X'
    exact ⟨t2, st.trans a1, b1⟩
/-- caught by the row x of this method's table; the rows ahead don't take it -/
theorem vx_catch {own name : String} {E : String} {ce : Cell} {q : Addr} (hown : s.vm.findClass own = some m.cls) (pre : List ExceptionTableEntry) (x : ExceptionTableEntry) (suf : List ExceptionTableEntry) (hsplit : c.exceptionTable.toList = pre ++ x :: suf)
    (hpass : ∀ z ∈ pre, covers z pc = false ∨ (z.catchType ≠ 0 ∧ ∃ nm : String, (Cond.classLink own z.catchType nm).before args s = true ∧ va_Nc E nm s)) (hx : covers x pc = true) (h0 : x.catchType ≠ 0)
    (hlink : (Cond.classLink own x.catchType name).before args s = true) (hcast : (Cond.castable E name).before args s = true) (hcell : H[q]? = some ce) (hv : ce.vm = .none) (hcl : s.vm.findClass E = some ce.cls)
    (kk : W p l e R s m args below meth c H locs cells slots Q (F0 m x.handlerPc ls [.ref q])) : vx_W p l e R s m args below meth c H locs cells slots Q (F0 m pc ls rest) q := by
  intro T hT X
  have hpl : e.platform.magicAccessors = ({} : Platform).magicAccessors := by rw [X.admits.platform]
  obtain ⟨c3, c4, hc3, hc4, hasg⟩ := Cond.castable_spec hcast
  cases Option.some.inj (hc3.symm.trans hcl)
  obtain ⟨c5, hc5, hcl5⟩ := Cond.classLink_spec hown hlink e.platform hpl
  cases Option.some.inj (hc4.symm.trans hc5)
  obtain ⟨vm', X', st⟩ := X.thenCaughtThrough q (g := F0 m pc ls rest) rfl (Steps.refl _) (by rw [hT]; exact hcell) (by rw [hv]; rfl) (by obtain ⟨k9, h9, -⟩ := Vm.findClass_spec hcl; exact ⟨k9, h9⟩) pre x suf hsplit
    (fun z hz => by
      rcases hpass z hz with h | ⟨hz0, nm, hl1, hn1⟩
      · exact Or.inl h
      · obtain ⟨c6, hc6, hcl6⟩ := Cond.classLink_spec hown hl1 e.platform hpl
        obtain ⟨a8, b8, h1, h2, h3⟩ := hn1
        cases Option.some.inj (h1.symm.trans hcl)
        cases Option.some.inj (h2.symm.trans hc6)
        exact Or.inr ⟨hz0, _, hcl6, h3⟩) hx (Or.inr ⟨h0, c4, hcl5, hasg⟩)
  obtain ⟨t, a1, b1⟩ := kk (T.setVm vm') hT X'
  exact ⟨t, st.trans a1, b1⟩
end Rows
section Ends
variable {p : Program} {l : Launch} {e : Env} {R : Room} {s : State} {m : MethodId} {args : Array Value} {below : List Frame} {meth : Method} {c : Code} {H : Heap} {locs : List Loc} {cells slots : Nat} {Q : State → Prop}
variable {mc ms : Nat} {free : Addr → Prop} {A0 A1 : Nat → Prop} {H0 : Heap} {a : Array Value} {ls : Array Slot} {st0 rest : List Value}
variable {Qc : Array Value → State → Outcome → State → Prop} {XC : String → State → State → Prop}
/-- what a body that may throw owes at its end -/
def vx_MQ (below : List Frame) (Qc : Array Value → State → Outcome → State → Prop) (XC : String → State → State → Prop) (a : Array Value) (s : State) (mc ms : Nat) (free : Addr → Prop) : State → Prop := fun t =>
  ∃ o, t.status = .running ∧ Ended t below o ∧ vx_Q Qc XC mc ms free a s o t
theorem vx_ret {g : JFrame} {mc ms : Nat} (k : W p l e R s m args below meth c H locs cells slots (MQ below Qc args s mc ms free) g) : W p l e R s m args below meth c H locs cells slots (vx_MQ below Qc XC args s mc ms free) g := by
  intro T hT X
  obtain ⟨t, a1, o, b1, b2, b3, b4⟩ := k T hT X
  exact ⟨t, a1, o, b1, b2, Or.inl ⟨b3, b4⟩⟩
/-- not caught here: it goes on to the caller -/
theorem vx_widen {g : JFrame} {q : Addr} {k n : Nat} (h1 : cells ≤ k) (h2 : slots ≤ n) (kk : vx_W p l e R s m args below meth c H locs k n Q g q) : vx_W p l e R s m args below meth c H locs cells slots Q g q := fun T hT X => kk T hT (stand_widen X h1 h2)
theorem vx_out {pc : Nat} {E : String} {ce : Cell} {q : Addr} {mc ms : Nat} (hout : ∀ x ∈ c.exceptionTable.toList, covers x pc = false) (hlocks : meth.locks = false) (hcell : H[q]? = some ce) (hv : ce.vm = .none) (hcl : s.vm.findClass E = some ce.cls)
    (hx : ∀ t : State, t.heap = H → s.vm.Alike t.vm → XC E s t) (hf : ∀ z ∈ locs, free z.base) (hc : cells ≤ mc) (hs : slots ≤ ms) :
    vx_W p l e R s m args below meth c H locs cells slots (vx_MQ below Qc XC args s mc ms free) (F0 m pc ls rest) q := by
  intro T hT X
  obtain ⟨st1, hrun, hend, hW, hsm⟩ := X.leaveThrown q (g := F0 m pc ls rest) rfl rfl rfl hout hlocks
  have hcell9 : (T.setFrames (.throwing q :: below)).heap[q]? = some ce := by
    show T.heap[q]? = some ce
    rw [hT]; exact hcell
  exact ⟨_, st1, .threw q, hrun, hend, Or.inr ⟨q, rfl, E, ce, locs, hx _ hT hW.alike, hcell9, hv, hcl, hW, hsm.mono hc hs, hf⟩⟩
theorem vx_frame {U : State} {k n : Nat} (h : s.sameButNew ({ U with vm := s.vm } : State) locs k n) : s.heap.size ≤ U.heap.size ∧ ∀ q : Nat, q < s.heap.size → (∀ z ∈ locs, z.base ≠ q) → U.heap[q]? = s.heap[q]? := by
  obtain ⟨-, h2, -, -, -, h6⟩ := h
  refine ⟨h2, fun q hq hz => ?_⟩
  obtain ⟨c9, e1, e2, e3, e4⟩ := h6 q _ (Array.getElem?_eq_getElem hq)
  have hs : c9.slots = (s.heap[q]).slots := Array.ext_getElem? fun i => e4 i fun hm => hz _ hm rfl
  have h9 : c9 = s.heap[q] := by
    rw [hs] at e2
    exact e2
  have e5 : U.heap[q]? = some c9 := e1
  rw [e5, h9, Array.getElem?_eq_getElem hq]
/-- the words of a throw but the four that speak of the heap -/
def vx_no (w : Cond) : Bool := decide (w ≠ .isRef (.static Bundle.tN "UNASSIGNED_STACK" Bundle.steD)) && decide (w ≠ .isRef (.static Bundle.tN "SUPPRESSED_SENTINEL" Bundle.listD)) && decide (w ≠ .laysStatic Bundle.tN "UNASSIGNED_STACK" Bundle.steD) && decide (w ≠ .laysStatic Bundle.tN "SUPPRESSED_SENTINEL" Bundle.listD)
def vx_at0 (own : String) (ic : Nat) (X : String) (names : List String) : List Cond := (Bundle.ownAtoms0 own ic X names).filter vx_no
def vx_atS (own : String) (ic : Nat) (X : String) (names : List String) : List Cond := (Bundle.ownAtoms own ic X names).filter vx_no
/-- a word that the tables alone decide, or a good one -/
def vx_ot (w : Cond) : Bool := w.onTables || goodWord w
theorem vx_ot_at {args a' : Array Value} {s U : State} {w : Cond} (hW : s.WarmedH U.vm) (hvm : s.vm = U.vm) (hg : vx_ot w = true) (h : w.before args s = true) : w.before a' U = true := by
  simp only [vx_ot, Bool.or_eq_true] at hg
  rcases hg with hg | hg
  · exact va_tabs hg hvm h
  · exact word_at hW (good_of_word hg) h
/-- a list's words: the good ones out of the method's own list, the others by premises of their own -/
theorem vx_hat {args : Array Value} {s : State} {L B : List Cond} (h1 : ∀ w ∈ L.filter goodWord, w.before args s = true) (h2 : ∀ w ∈ L.filter (fun w => !goodWord w), w ∈ B) (h3 : ∀ w ∈ B, w.before args s = true) : ∀ w ∈ L, w.before args s = true := by
  intro w hw
  by_cases g : goodWord w = true
  · exact h1 w (List.mem_filter.mpr ⟨hw, g⟩)
  · refine h3 w (h2 w (List.mem_filter.mpr ⟨hw, ?_⟩))
    show (!goodWord w) = true
    cases hgw : goodWord w
    · rfl
    · exact absurd hgw g
theorem vx_c {args : Array Value} {s : State} {w : Cond} {B : List Cond} (h : w.before args s = true) (t : ∀ w ∈ B, w.before args s = true) : ∀ w' ∈ w :: B, w'.before args s = true := fun w' h' => (List.mem_cons.mp h').elim (fun e => by rw [e]; exact h) (t w')
theorem vx_n {args : Array Value} {s : State} : ∀ w ∈ ([] : List Cond), w.before args s = true := fun _ h => nomatch h
theorem vx_own {args : Array Value} {s : State} {L : List Cond} (h1 : ∀ w ∈ L.filter vx_no, w.before args s = true)
    (hU : (Cond.isRef (.static Bundle.tN "UNASSIGNED_STACK" Bundle.steD)).before args s = true) (hN : (Cond.isRef (.static Bundle.tN "SUPPRESSED_SENTINEL" Bundle.listD)).before args s = true)
    (lU : (Cond.laysStatic Bundle.tN "UNASSIGNED_STACK" Bundle.steD).before args s = true) (lN : (Cond.laysStatic Bundle.tN "SUPPRESSED_SENTINEL" Bundle.listD).before args s = true) : ∀ w ∈ L, w.before args s = true := by
  intro w hw
  by_cases e1 : w = .isRef (.static Bundle.tN "UNASSIGNED_STACK" Bundle.steD)
  · rw [e1]; exact hU
  · by_cases e2 : w = .isRef (.static Bundle.tN "SUPPRESSED_SENTINEL" Bundle.listD)
    · rw [e2]; exact hN
    · by_cases e3 : w = .laysStatic Bundle.tN "UNASSIGNED_STACK" Bundle.steD
      · rw [e3]; exact lU
      · by_cases e4 : w = .laysStatic Bundle.tN "SUPPRESSED_SENTINEL" Bundle.listD
        · rw [e4]; exact lN
        · exact h1 w (List.mem_filter.mpr ⟨hw, by unfold vx_no; rw [decide_eq_true e1, decide_eq_true e2, decide_eq_true e3, decide_eq_true e4]; rfl⟩)
/-- where a static field lies, its class's statics cell in H -/
def vx_L (C n d : String) (A : Nat → Prop) (U : State) (H : Heap) : Prop := ∃ (c : ClassId) (k : Class) (i : Nat) (f : Field) (a : Nat) (cell : Cell), U.vm.findClass C = some c ∧ U.fieldFound? C n d = some (c, k, i, f) ∧ f.isStatic = true ∧ k.statics = some a ∧ H[a]? = some cell ∧ cell.vm.isStatics = true ∧ cell.cls = c ∧ f.slot < cell.slots.size ∧ k.staticTypes[f.slot]? = some f.type ∧ ¬ A a
theorem vx_L.moved {C n d : String} {A : Nat → Prop} {u U : State} {H : Heap} (hvm : u.vm.Alike U.vm) (h : vx_L C n d A u H) : vx_L C n d A U H := by
  obtain ⟨c, k, i, f, a, cell, h1, h2, h3, h4, h5, h6, h7, h8, h9, h10⟩ := h
  obtain ⟨k', hi', he⟩ := State.fieldFound?_setVm hvm h2
  exact ⟨c, k', i, f, a, cell, by rw [hvm.findClass]; exact h1, hi', h3, by rw [he]; exact h4, h5, h6, h7, h8, by rw [he]; exact h9, h10⟩
theorem vx_L.kept {C n d : String} {A : Nat → Prop} {U : State} {H H1 : Heap} (h : vx_L C n d A U H) (hq : ∀ a : Nat, a < H.size → ¬ A a → H1[a]? = H[a]?) : vx_L C n d A U H1 := by
  obtain ⟨c, k, i, f, a, cell, h1, h2, h3, h4, h5, h6, h7, h8, h9, h10⟩ := h
  exact ⟨c, k, i, f, a, cell, h1, h2, h3, h4, by rw [hq a (Array.getElem?_eq_some_iff.mp h5).1 h10]; exact h5, h6, h7, h8, h9, h10⟩
theorem vx_L.narrow {C n d : String} {A B : Nat → Prop} {U : State} {H : Heap} (h : vx_L C n d A U H) (hAB : ∀ q, B q → A q) : vx_L C n d B U H := by
  obtain ⟨c, k, i, f, a, cell, h1, h2, h3, h4, h5, h6, h7, h8, h9, h10⟩ := h
  exact ⟨c, k, i, f, a, cell, h1, h2, h3, h4, h5, h6, h7, h8, h9, fun z => h10 (hAB _ z)⟩
theorem vx_L.word {C n d : String} {A : Nat → Prop} {s : State} {args : Array Value} (h : vx_L C n d A s s.heap) : (Cond.laysStatic C n d).before args s = true := by
  obtain ⟨c, k, i, f, a, cell, h1, h2, h3, h4, h5, h6, h7, h8, h9, -⟩ := h
  show (Cond.laysStatic C n d).holds args s none s [] = true
  exact Cond.laysStatic_of h1 h2 h3 h4 h5 h6 h7 h8 h9
/-- .. and what it holds: null or some reference -/
def vx_Zq (C n d : String) (A : Nat → Prop) (U : State) (H : Heap) : Prop := va_Zq C n d A U H ∧ vx_L C n d A U H
theorem vx_Zq.moved {C n d : String} {A : Nat → Prop} {u U : State} {H : Heap} (hvm : u.vm.Alike U.vm) (h : vx_Zq C n d A u H) : vx_Zq C n d A U H := ⟨va_Zq.moved hvm h.1, vx_L.moved hvm h.2⟩
theorem vx_Zq.kept {C n d : String} {A : Nat → Prop} {U : State} {H H1 : Heap} (h : vx_Zq C n d A U H) (hq : ∀ a : Nat, a < H.size → ¬ A a → H1[a]? = H[a]?) : vx_Zq C n d A U H1 := ⟨va_Zq.kept h.1 hq, vx_L.kept h.2 hq⟩
theorem vx_Zq.narrow {C n d : String} {A B : Nat → Prop} {U : State} {H : Heap} (h : vx_Zq C n d A U H) (hAB : ∀ q, B q → A q) : vx_Zq C n d B U H := ⟨va_Zq.narrow h.1 hAB, vx_L.narrow h.2 hAB⟩
theorem vx_Zqof {args : Array Value} {s : State} {C n d : String} {A : Nat → Prop} (hl : (Cond.laysStatic C n d).before args s = true) (hini : (Cond.initialized C).before args s = true) (h : (Cond.isRef (.static C n d)).before args s = true) (hA : ∀ a : Nat, a < s.heap.size → ¬ A a) : vx_Zq C n d A s s.heap := by
  refine ⟨va_Zqof hl hini h hA, ?_⟩
  obtain ⟨c, k, i, f, a, cell, h1, h2, h3, h4, h5, h6, h7, h8, h9⟩ := Cond.laysStatic_spec hl
  exact ⟨c, k, i, f, a, cell, h1, h2, h3, h4, h5, h6, h7, h8, h9, hA a (Array.getElem?_eq_some_iff.mp h5).1⟩
theorem vx_isRef {C n d : String} {v : Value} {A : Nat → Prop} {s : State} {args : Array Value} (h : va_Z C n d v A s s.heap) (hv : v.isRef = true) : (Cond.isRef (.static C n d)).before args s = true := by
  obtain ⟨cf, kf, fi, f, a, cell, h1, h2, h3, h4, h5, h6, h7, -⟩ := h
  have he : (Term.static C n d).eval args s none [] s = some v := by
    simp [Term.eval, State.fieldNamed?, h1, h2, h4, h5, h6, h7]
  simp only [Cond.before, Cond.holds, Cond.value, he]
  cases v <;> simp_all [Value.isRef]
theorem vx_isRefq {C n d : String} {A : Nat → Prop} {s : State} {args : Array Value} (h : va_Zq C n d A s s.heap) : (Cond.isRef (.static C n d)).before args s = true := by
  rcases h with h | ⟨t, h⟩
  · exact vx_isRef h rfl
  · exact vx_isRef h rfl
/-- the same frame, seen from here: as if the method were called anew in this heap -/
theorem vx_rebase {T : State} (X : Stand p l e R s m args below meth c T locs cells slots) {R' : Room} (hf : R'.frames ≤ R.frames) (hl : R'.locals ≤ R.locals) (hc : cells + R'.cells ≤ R.cells) (hs : slots + R'.slots ≤ R.slots) :
    Stand p l e R' ((T.setVm s.vm).setFrames (.invoking m args :: below)) m args below meth c T [] 0 0 := by
  have htop : (T.setVm s.vm).topJava?.isSome := X.here.top
  have hF : ((T.setVm s.vm).setFrames (.invoking m args :: below)).frames = .invoking m args :: below := State.frames_setFrames _ (State.cur_lt_of_top htop)
  obtain ⟨g₀, hg0⟩ := Option.isSome_iff_exists.mp htop
  obtain ⟨r, hr⟩ := State.topJava?_eq_some.mp hg0
  have hl9 : e.platform.stackLimits (T.setVm s.vm).me = e.platform.stackLimits s.me := X.limits
  have hb9 : (T.setVm s.vm).me.stackBytes = s.me.stackBytes := X.bytes
  refine ⟨X.admits, X.cas, X.clock, hF, ?_, X.hears, X.method, X.code, X.here, X.tail, X.warmed, ?_, ?_, ?_⟩
  · have h := X.room
    have hU : ((T.setVm s.vm).setFrames (.invoking m args :: below)).localsInUse = s.localsInUse := by
      rw [State.localsInUse_invoking hF (meth := meth) (c := c) X.method X.code, State.localsInUse_invoking X.frames X.method X.code]
    simp only [State.hasRoom, Bool.and_eq_true, decide_eq_true_eq] at h ⊢
    obtain ⟨⟨⟨⟨h1, h2, h3, h4, h5, h6⟩, h7⟩, h8⟩, h9⟩ := h
    rw [X.frames, List.length_cons] at h2 h3
    have q1 := X.heapSize
    have q2 := X.used
    simp only [hF, hU, List.length_cons, State.stackLimits_setFrames, State.stackBytes_setFrames, hl9, hb9]
    refine ⟨⟨⟨⟨by omega, by omega, by omega, by omega, by omega, h6⟩, ?_⟩, ?_⟩, X.book⟩
    · show T.heap.size + R'.cells ≤ e.platform.maxCells
      omega
    · show T.slotsUsed + R'.slots ≤ e.platform.maxSlots
      omega
  · rw [State.stackLimits_setFrames]; rfl
  · rw [State.stackBytes_setFrames]; rfl
  · refine ⟨?_, Nat.le_refl _, Nat.le_refl _, ?_, ?_, fun a c9 h9 => ⟨c9, h9, rfl, rfl, fun _ _ => rfl⟩⟩
    · obtain ⟨t, ht, -⟩ := State.frames_cons hr
      show T.setVm s.vm = { ((T.setVm s.vm).setFrames (.invoking m args :: below)).setFrames (T.setVm s.vm).frames with heap := T.heap, slotsUsed := T.slotsUsed }
      rw [State.setFrames_setFrames, State.setFrames_self ht]
      rfl
    · show T.slotsUsed = T.slotsUsed + ((T.heap.toList.drop T.heap.size).map (·.slots.size)).sum
      rw [List.drop_eq_nil_of_le (Nat.le_of_eq Array.length_toList)]
      rfl
    · show ((T.heap.toList.drop T.heap.size).map (·.slots.size)).sum ≤ 0
      rw [List.drop_eq_nil_of_le (Nat.le_of_eq Array.length_toList)]
      exact Nat.le_refl _
/-- 'throw new E()': new; dup; invokespecial; athrow -/
theorem vx_throw0 {cc : ByteArray} {pc : Nat} (hexec : p.tables.exec = Jvm.exec) (hb : c.code = cc) (hl : l.stackTraces = false) {own cls : String} {names : List String} {ik ic mc ms : Nat} {A : Nat → Prop}
    (hown : s.vm.findClass own = some m.cls) (hcls : Bundle.fit cls = true) (hnames : ∀ n ∈ names, Bundle.fit n = true)
    (hk : (Cond.classLink own ik cls).before args s = true) (hini : (Cond.initialized cls).before args s = true) (hat : ∀ w ∈ vx_at0 own ic cls names, w.before args s = true)
    (hgood : ∀ w ∈ Cond.classLink own ik cls :: Cond.initialized cls :: vx_at0 own ic cls names, vx_ot w = true)
    (hU : vx_Zq Bundle.tN "UNASSIGNED_STACK" Bundle.steD A s s.heap) (hN : vx_Zq Bundle.tN "SUPPRESSED_SENTINEL" Bundle.listD A s s.heap) (hS : va_S A s.heap H locs) (hsize : ls.size = c.maxLocals)
    (d0 : decode cc pc = .ok (.new ik, 3)) (d3 : decode cc (pc + 3) = .ok (.dup, 1)) (d4 : decode cc (pc + 4) = .ok (.invokespecial ic, 3)) (d7 : decode cc (pc + 7) = .ok (.athrow, 1))
    (hout : ∀ x ∈ c.exceptionTable.toList, covers x (pc + 7) = false)
    (hRframes : names.length + 3 < R.frames) (hRlocals : (rest.map fun v => v.category).sum + (13 * (names.length + 1) + 42) ≤ R.locals) (hRcells : cells + 1 ≤ R.cells) (hRslots : slots + 6 ≤ R.slots) (hlocks : meth.locks = false)
    (hx : ∀ t : State, s.vm.Alike t.vm → H.size ≤ t.heap.size → (∀ q : Nat, q < H.size → t.heap[q]? = H[q]?) → XC cls s t)
    (hf : ∀ z ∈ locs, free z.base) (hc : cells + 1 ≤ mc) (hs : slots + 6 ≤ ms) :
    W p l e R s m args below meth c H locs cells slots (vx_MQ below Qc XC args s mc ms free) (F0 m pc ls rest) := by
  intro T hT X
  have htr : e.platform.stackTraces = false := (show e.platform.stackTraces = l.stackTraces by rw [X.admits.platform]).trans hl
  have Y := vx_rebase X (R' := { frames := R.frames, locals := R.locals, cells := 1, slots := 6 }) (Nat.le_refl _) (Nat.le_refl _) hRcells hRslots
  obtain ⟨s', hA⟩ : ∃ z, z = (T.setVm s.vm).setFrames (.invoking m args :: below) := ⟨_, rfl⟩
  rw [← hA] at Y
  have hvm : s'.vm = s.vm := by rw [hA]; rfl
  have hhp : s'.heap = H := by rw [hA]; exact hT
  have hW0 : s.WarmedH s'.vm := by rw [hvm]; exact State.WarmedH.refl s
  have hat' : ∀ w ∈ vx_at0 own ic cls names, w.before args s' = true := fun w hw => vx_ot_at hW0 hvm.symm (hgood w (List.mem_cons_of_mem _ (List.mem_cons_of_mem _ hw))) (hat w hw)
  have hk' : (Cond.classLink own ik cls).before args s' = true := vx_ot_at hW0 hvm.symm (hgood _ List.mem_cons_self) hk
  have hini' : (Cond.initialized cls).before args s' = true := vx_ot_at hW0 hvm.symm (hgood _ (List.mem_cons_of_mem _ List.mem_cons_self)) hini
  have hU' : vx_Zq Bundle.tN "UNASSIGNED_STACK" Bundle.steD A s' s'.heap := by rw [hhp]; exact vx_Zq.moved hW0.alike (hU.kept hS.2.1)
  have hN' : vx_Zq Bundle.tN "SUPPRESSED_SENTINEL" Bundle.listD A s' s'.heap := by rw [hhp]; exact vx_Zq.moved hW0.alike (hN.kept hS.2.1)
  have h : ∀ w ∈ Bundle.ownAtoms0 own ic cls names, w.before args s' = true := vx_own hat' (vx_isRefq hU'.1) (vx_isRefq hN'.1) hU'.2.word hN'.2.word
  have hown' : s'.vm.findClass own = some m.cls := by rw [hvm]; exact hown
  have hins : (Cond.instantiable cls 6).before args s' = true := h _ (by simp [Bundle.ownAtoms0])
  obtain ⟨vm₁, cX, kX, hfX, hkX, -, -, X₁, st1⟩ := Y.newCold hexec (own := own) (C := cls) (index := ik) (n := 6) hown' hk' hins hini'
    (g := F0 m pc ls rest) rfl (by rw [hb]; exact d0) (Nat.le_refl _) (Nat.le_refl _)
  generalize hT1 : (T.setVm vm₁).pushCell { cls := cX, slots := kX.instanceTypes.map defaultValue, vm := .none } = T1 at X₁ st1
  have hcat : (Value.ref T.heap.size).category = 1 := rfl
  have hcellA : T1.heap[T.heap.size]? = some (freshCell cX kX) := by rw [← hT1]; exact State.heap_pushCell_size _ _
  have d3' : decode c.code (pc + 3) = .ok (.dup, 1) := by rw [hb]; exact d3
  obtain ⟨U, hsteps, hrun, hend, hW, hsame, ce, hce, hO⟩ := X₁.ctorThrow0 hexec htr (own := own) (cls := cls) (names := names) (ic := ic) hown' hcls hnames h (fun x hx => nomatch hx) hfX hkX hcellA (by rw [hhp, hT]; exact Nat.le_refl _)
    (g := { method := m, pc := pc + 4, locals := ls, stack := .ref T.heap.size :: .ref T.heap.size :: rest, locked := none }) rfl hsize rfl rfl (rest := rest) rfl
    (by rw [hb]; exact d4) (by rw [hb]; exact d7) hout hRframes (by simp only [List.map_cons, List.sum_cons, hcat]; omega) hlocks
  obtain ⟨f1, f2⟩ := vx_frame hsame
  rw [hhp] at f1 f2
  have hWs : s.WarmedH U.vm := State.WarmedH.trans hW0 hW
  have hcl : s.vm.findClass cls = some ce.cls := by
    have h9 := hO.cls
    rw [hvm] at h9
    exact h9
  have hall : s.sameButNew ({ U with vm := s.vm } : State) locs mc ms := by
    subst hA
    obtain ⟨e1, e2⟩ := hsame
    rw [State.setFrames_setFrames] at e1
    have h2 : (T.setVm s.vm).sameButNew ({ U with vm := s.vm } : State) [] (0 + 1) (0 + 6) := ⟨e1, e2⟩
    have h3 := X.same.trans h2
    rw [List.append_nil] at h3
    exact h3.mono hc hs
  refine ⟨U, ?_, .threw T.heap.size, hrun, hend, Or.inr ⟨T.heap.size, rfl, cls, ce, locs, hx U hWs.alike f1 (fun q hq => f2 q hq (fun z hz => nomatch hz)), hce, hO.vm, hcl, hWs, hall, hf⟩⟩
  refine st1 _ ?_
  show Steps p.tables e below (T1.setTop { method := m, pc := pc + 3, locals := ls, stack := .ref T.heap.size :: rest, locked := none }) _
  jvm_step X₁.here [X₁.here.top, hexec, d3', Value.category]
  exact hsteps
/-- 'throw new E("text")': new; dup; ldc; invokespecial; athrow -/
theorem vx_throwS {cc : ByteArray} {pc : Nat} (hexec : p.tables.exec = Jvm.exec) (hb : c.code = cc) (hl : l.stackTraces = false) {own cls text : String} {names : List String} {ik is ic mc ms sa : Nat} {A : Nat → Prop}
    (hown : s.vm.findClass own = some m.cls) (hcls : Bundle.fit cls = true) (hnames : ∀ n ∈ names, Bundle.fit n = true)
    (hk : (Cond.classLink own ik cls).before args s = true) (hini : (Cond.initialized cls).before args s = true) (hstr : vk_R own is text sa s) (hat : ∀ w ∈ vx_atS own ic cls names, w.before args s = true)
    (hgood : ∀ w ∈ Cond.classLink own ik cls :: Cond.initialized cls :: vx_atS own ic cls names, vx_ot w = true)
    (hU : vx_Zq Bundle.tN "UNASSIGNED_STACK" Bundle.steD A s s.heap) (hN : vx_Zq Bundle.tN "SUPPRESSED_SENTINEL" Bundle.listD A s s.heap) (hS : va_S A s.heap H locs) (hsize : ls.size = c.maxLocals)
    (d0 : decode cc pc = .ok (.new ik, 3)) (d3 : decode cc (pc + 3) = .ok (.dup, 1)) (d4 : decode cc (pc + 4) = .ok (.ldc is, 2)) (d6 : decode cc (pc + 6) = .ok (.invokespecial ic, 3)) (d9 : decode cc (pc + 9) = .ok (.athrow, 1))
    (hout : ∀ x ∈ c.exceptionTable.toList, covers x (pc + 9) = false)
    (hRframes : names.length + 3 < R.frames) (hRlocals : (rest.map fun v => v.category).sum + (13 * (names.length + 1) + 43) ≤ R.locals) (hRcells : cells + 1 ≤ R.cells) (hRslots : slots + 6 ≤ R.slots) (hlocks : meth.locks = false)
    (hx : ∀ t : State, s.vm.Alike t.vm → H.size ≤ t.heap.size → (∀ q : Nat, q < H.size → t.heap[q]? = H[q]?) → XC cls s t)
    (hf : ∀ z ∈ locs, free z.base) (hc : cells + 1 ≤ mc) (hs : slots + 6 ≤ ms) :
    W p l e R s m args below meth c H locs cells slots (vx_MQ below Qc XC args s mc ms free) (F0 m pc ls rest) := by
  intro T hT X
  have htr : e.platform.stackTraces = false := (show e.platform.stackTraces = l.stackTraces by rw [X.admits.platform]).trans hl
  have Y := vx_rebase X (R' := { frames := R.frames, locals := R.locals, cells := 1, slots := 6 }) (Nat.le_refl _) (Nat.le_refl _) hRcells hRslots
  obtain ⟨s', hA⟩ : ∃ z, z = (T.setVm s.vm).setFrames (.invoking m args :: below) := ⟨_, rfl⟩
  rw [← hA] at Y
  have hvm : s'.vm = s.vm := by rw [hA]; rfl
  have hhp : s'.heap = H := by rw [hA]; exact hT
  have hW0 : s.WarmedH s'.vm := by rw [hvm]; exact State.WarmedH.refl s
  have hat' : ∀ w ∈ vx_atS own ic cls names, w.before args s' = true := fun w hw => vx_ot_at hW0 hvm.symm (hgood w (List.mem_cons_of_mem _ (List.mem_cons_of_mem _ hw))) (hat w hw)
  have hk' : (Cond.classLink own ik cls).before args s' = true := vx_ot_at hW0 hvm.symm (hgood _ List.mem_cons_self) hk
  have hini' : (Cond.initialized cls).before args s' = true := vx_ot_at hW0 hvm.symm (hgood _ (List.mem_cons_of_mem _ List.mem_cons_self)) hini
  have hU' : vx_Zq Bundle.tN "UNASSIGNED_STACK" Bundle.steD A s' s'.heap := by rw [hhp]; exact vx_Zq.moved hW0.alike (hU.kept hS.2.1)
  have hN' : vx_Zq Bundle.tN "SUPPRESSED_SENTINEL" Bundle.listD A s' s'.heap := by rw [hhp]; exact vx_Zq.moved hW0.alike (hN.kept hS.2.1)
  have h : ∀ w ∈ Bundle.ownAtoms own ic cls names, w.before args s' = true := vx_own hat' (vx_isRefq hU'.1) (vx_isRefq hN'.1) hU'.2.word hN'.2.word
  have hown' : s'.vm.findClass own = some m.cls := by rw [hvm]; exact hown
  have hins : (Cond.instantiable cls 6).before args s' = true := h _ (by simp [Bundle.ownAtoms])
  obtain ⟨vm₁, cX, kX, hfX, hkX, -, -, X₁, st1⟩ := Y.newCold hexec (own := own) (C := cls) (index := ik) (n := 6) hown' hk' hins hini'
    (g := F0 m pc ls rest) rfl (by rw [hb]; exact d0) (Nat.le_refl _) (Nat.le_refl _)
  generalize hT1 : (T.setVm vm₁).pushCell { cls := cX, slots := kX.instanceTypes.map defaultValue, vm := .none } = T1 at X₁ st1
  have hcat : (Value.ref T.heap.size).category = 1 := rfl
  have hcellA : T1.heap[T.heap.size]? = some (freshCell cX kX) := by rw [← hT1]; exact State.heap_pushCell_size _ _
  have d3' : decode c.code (pc + 3) = .ok (.dup, 1) := by rw [hb]; exact d3
  have d4' : decode c.code (pc + 4) = .ok (.ldc is, 2) := by rw [hb]; exact d4
  have hstr' : vk_R own is text sa s' := vk_R.warm hW0 hstr
  obtain ⟨U, hsteps, hrun, hend, hW, hsame, ce, hce, hO⟩ := X₁.ctorThrowS hexec htr (own := own) (cls := cls) (names := names) (ic := ic) hown' hcls hnames h (fun x hx => nomatch hx) hfX hkX hcellA (by rw [hhp, hT]; exact Nat.le_refl _) (msg := .ref sa) rfl
    (g := { method := m, pc := pc + 6, locals := ls, stack := .ref sa :: .ref T.heap.size :: .ref T.heap.size :: rest, locked := none }) rfl hsize rfl rfl (rest := rest) rfl
    (by rw [hb]; exact d6) (by rw [hb]; exact d9) hout hRframes (by simp only [List.map_cons, List.sum_cons, hcat]; omega) hlocks
  obtain ⟨f1, f2⟩ := vx_frame hsame
  rw [hhp] at f1 f2
  have hWs : s.WarmedH U.vm := State.WarmedH.trans hW0 hW
  have hcl : s.vm.findClass cls = some ce.cls := by
    have h9 := hO.cls
    rw [hvm] at h9
    exact h9
  have hall : s.sameButNew ({ U with vm := s.vm } : State) locs mc ms := by
    subst hA
    obtain ⟨e1, e2⟩ := hsame
    rw [State.setFrames_setFrames] at e1
    have h2 : (T.setVm s.vm).sameButNew ({ U with vm := s.vm } : State) [] (0 + 1) (0 + 6) := ⟨e1, e2⟩
    have h3 := X.same.trans h2
    rw [List.append_nil] at h3
    exact h3.mono hc hs
  refine ⟨U, ?_, .threw T.heap.size, hrun, hend, Or.inr ⟨T.heap.size, rfl, cls, ce, locs, hx U hWs.alike f1 (fun q hq => f2 q hq (fun z hz => nomatch hz)), hce, hO.vm, hcl, hWs, hall, hf⟩⟩
  refine st1 _ ?_
  show Steps p.tables e below (T1.setTop { method := m, pc := pc + 3, locals := ls, stack := .ref T.heap.size :: rest, locked := none }) _
  jvm_step X₁.here [X₁.here.top, hexec, d3', Value.category]
  exact X₁.ldcString hexec (own := own) (text := text) (index := is) (a := sa) hown' hstr'.1 hstr'.2
    (g := { method := m, pc := pc + 4, locals := ls, stack := .ref T.heap.size :: .ref T.heap.size :: rest, locked := none }) rfl d4' _ hsteps
/-- 'throw new E("text")', the text by a wide index -/
theorem vx_throwSW {cc : ByteArray} {pc : Nat} (hexec : p.tables.exec = Jvm.exec) (hb : c.code = cc) (hl : l.stackTraces = false) {own cls text : String} {names : List String} {ik is ic mc ms sa : Nat} {A : Nat → Prop}
    (hown : s.vm.findClass own = some m.cls) (hcls : Bundle.fit cls = true) (hnames : ∀ n ∈ names, Bundle.fit n = true)
    (hk : (Cond.classLink own ik cls).before args s = true) (hini : (Cond.initialized cls).before args s = true) (hstr : vk_R own is text sa s) (hat : ∀ w ∈ vx_atS own ic cls names, w.before args s = true)
    (hgood : ∀ w ∈ Cond.classLink own ik cls :: Cond.initialized cls :: vx_atS own ic cls names, vx_ot w = true)
    (hU : vx_Zq Bundle.tN "UNASSIGNED_STACK" Bundle.steD A s s.heap) (hN : vx_Zq Bundle.tN "SUPPRESSED_SENTINEL" Bundle.listD A s s.heap) (hS : va_S A s.heap H locs) (hsize : ls.size = c.maxLocals)
    (d0 : decode cc pc = .ok (.new ik, 3)) (d3 : decode cc (pc + 3) = .ok (.dup, 1)) (d4 : decode cc (pc + 4) = .ok (.ldc_w is, 3)) (d7 : decode cc (pc + 7) = .ok (.invokespecial ic, 3)) (d10 : decode cc (pc + 10) = .ok (.athrow, 1))
    (hout : ∀ x ∈ c.exceptionTable.toList, covers x (pc + 10) = false)
    (hRframes : names.length + 3 < R.frames) (hRlocals : (rest.map fun v => v.category).sum + (13 * (names.length + 1) + 43) ≤ R.locals) (hRcells : cells + 1 ≤ R.cells) (hRslots : slots + 6 ≤ R.slots) (hlocks : meth.locks = false)
    (hx : ∀ t : State, s.vm.Alike t.vm → H.size ≤ t.heap.size → (∀ q : Nat, q < H.size → t.heap[q]? = H[q]?) → XC cls s t)
    (hf : ∀ z ∈ locs, free z.base) (hc : cells + 1 ≤ mc) (hs : slots + 6 ≤ ms) :
    W p l e R s m args below meth c H locs cells slots (vx_MQ below Qc XC args s mc ms free) (F0 m pc ls rest) := by
  intro T hT X
  have htr : e.platform.stackTraces = false := (show e.platform.stackTraces = l.stackTraces by rw [X.admits.platform]).trans hl
  have Y := vx_rebase X (R' := { frames := R.frames, locals := R.locals, cells := 1, slots := 6 }) (Nat.le_refl _) (Nat.le_refl _) hRcells hRslots
  obtain ⟨s', hA⟩ : ∃ z, z = (T.setVm s.vm).setFrames (.invoking m args :: below) := ⟨_, rfl⟩
  rw [← hA] at Y
  have hvm : s'.vm = s.vm := by rw [hA]; rfl
  have hhp : s'.heap = H := by rw [hA]; exact hT
  have hW0 : s.WarmedH s'.vm := by rw [hvm]; exact State.WarmedH.refl s
  have hat' : ∀ w ∈ vx_atS own ic cls names, w.before args s' = true := fun w hw => vx_ot_at hW0 hvm.symm (hgood w (List.mem_cons_of_mem _ (List.mem_cons_of_mem _ hw))) (hat w hw)
  have hk' : (Cond.classLink own ik cls).before args s' = true := vx_ot_at hW0 hvm.symm (hgood _ List.mem_cons_self) hk
  have hini' : (Cond.initialized cls).before args s' = true := vx_ot_at hW0 hvm.symm (hgood _ (List.mem_cons_of_mem _ List.mem_cons_self)) hini
  have hU' : vx_Zq Bundle.tN "UNASSIGNED_STACK" Bundle.steD A s' s'.heap := by rw [hhp]; exact vx_Zq.moved hW0.alike (hU.kept hS.2.1)
  have hN' : vx_Zq Bundle.tN "SUPPRESSED_SENTINEL" Bundle.listD A s' s'.heap := by rw [hhp]; exact vx_Zq.moved hW0.alike (hN.kept hS.2.1)
  have h : ∀ w ∈ Bundle.ownAtoms own ic cls names, w.before args s' = true := vx_own hat' (vx_isRefq hU'.1) (vx_isRefq hN'.1) hU'.2.word hN'.2.word
  have hown' : s'.vm.findClass own = some m.cls := by rw [hvm]; exact hown
  have hins : (Cond.instantiable cls 6).before args s' = true := h _ (by simp [Bundle.ownAtoms])
  obtain ⟨vm₁, cX, kX, hfX, hkX, -, -, X₁, st1⟩ := Y.newCold hexec (own := own) (C := cls) (index := ik) (n := 6) hown' hk' hins hini'
    (g := F0 m pc ls rest) rfl (by rw [hb]; exact d0) (Nat.le_refl _) (Nat.le_refl _)
  generalize hT1 : (T.setVm vm₁).pushCell { cls := cX, slots := kX.instanceTypes.map defaultValue, vm := .none } = T1 at X₁ st1
  have hcat : (Value.ref T.heap.size).category = 1 := rfl
  have hcellA : T1.heap[T.heap.size]? = some (freshCell cX kX) := by rw [← hT1]; exact State.heap_pushCell_size _ _
  have d3' : decode c.code (pc + 3) = .ok (.dup, 1) := by rw [hb]; exact d3
  have d4' : decode c.code (pc + 4) = .ok (.ldc_w is, 3) := by rw [hb]; exact d4
  have hstr' : vk_R own is text sa s' := vk_R.warm hW0 hstr
  obtain ⟨U, hsteps, hrun, hend, hW, hsame, ce, hce, hO⟩ := X₁.ctorThrowS hexec htr (own := own) (cls := cls) (names := names) (ic := ic) hown' hcls hnames h (fun x hx => nomatch hx) hfX hkX hcellA (by rw [hhp, hT]; exact Nat.le_refl _) (msg := .ref sa) rfl
    (g := { method := m, pc := pc + 7, locals := ls, stack := .ref sa :: .ref T.heap.size :: .ref T.heap.size :: rest, locked := none }) rfl hsize rfl rfl (rest := rest) rfl
    (by rw [hb]; exact d7) (by rw [hb]; exact d10) hout hRframes (by simp only [List.map_cons, List.sum_cons, hcat]; omega) hlocks
  obtain ⟨f1, f2⟩ := vx_frame hsame
  rw [hhp] at f1 f2
  have hWs : s.WarmedH U.vm := State.WarmedH.trans hW0 hW
  have hcl : s.vm.findClass cls = some ce.cls := by
    have h9 := hO.cls
    rw [hvm] at h9
    exact h9
  have hall : s.sameButNew ({ U with vm := s.vm } : State) locs mc ms := by
    subst hA
    obtain ⟨e1, e2⟩ := hsame
    rw [State.setFrames_setFrames] at e1
    have h2 : (T.setVm s.vm).sameButNew ({ U with vm := s.vm } : State) [] (0 + 1) (0 + 6) := ⟨e1, e2⟩
    have h3 := X.same.trans h2
    rw [List.append_nil] at h3
    exact h3.mono hc hs
  refine ⟨U, ?_, .threw T.heap.size, hrun, hend, Or.inr ⟨T.heap.size, rfl, cls, ce, locs, hx U hWs.alike f1 (fun q hq => f2 q hq (fun z hz => nomatch hz)), hce, hO.vm, hcl, hWs, hall, hf⟩⟩
  refine st1 _ ?_
  show Steps p.tables e below (T1.setTop { method := m, pc := pc + 3, locals := ls, stack := .ref T.heap.size :: rest, locked := none }) _
  jvm_step X₁.here [X₁.here.top, hexec, d3', Value.category]
  exact X₁.ldcStringW hexec (own := own) (text := text) (index := is) (a := sa) hown' hstr'.1 hstr'.2
    (g := { method := m, pc := pc + 4, locals := ls, stack := .ref T.heap.size :: .ref T.heap.size :: rest, locked := none }) rfl d4' _ hsteps
end Ends
section Bodies
variable {l : Launch}
theorem vx_ofW {y : MethodName} {ws ws' : List Cond} {rm : Room} {Pc : Array Value → State → Prop} {Qc : Array Value → State → Outcome → State → Prop} {XC : String → State → State → Prop} {mc ms : Nat} {free : Addr → Prop} {cc : ByteArray} {maxL : Nat} {ret : Option FieldType}
    (hy : plainName y.cls = true) (hw : ws = Cond.code y cc maxL ret :: ws')
    (body : ∀ p e s m args below meth c s₁, BodyLoose p l y (headSpec ws rm) cc maxL ret e s m args below meth c s₁ → c.maxLocals = maxL → (∀ x ∈ c.exceptionTable.toList, False) → Pc args s →
      W p l e (headSpec ws rm).room s m args below meth c s.heap [] 0 0 (vx_MQ below Qc XC args s mc ms free) (entryFrame m args maxL)) : vx_Met l y ws rm Pc Qc XC mc ms free := by
  refine MetFree.of_bodyS (code := cc) (maxLocals := maxL) (ret := ret) hy ?_ ?_
  · intro args s m h hn
    obtain ⟨meth, c, h1, h2, h3, h4, h5, h6, -, -⟩ := Cond.code_spec hn (atoms_spec (ws := ws) h _ (by rw [hw]; exact List.mem_cons_self))
    exact ⟨meth, c, h1, h2, h3, h4, h5, h6⟩
  · intro p e s m args below meth c s₁ B hml hP _
    have hh0 : s₁.heap = s.heap := by rw [B.state]; rfl
    have ht : ∀ x ∈ c.exceptionTable.toList, False := by
      obtain ⟨meth9, c9, h1, h2, -, -, -, -, h7, -⟩ := Cond.code_spec B.named (atoms_spec (ws := ws) B.pre _ (by rw [hw]; exact List.mem_cons_self))
      cases Option.some.inj (h1.symm.trans B.method)
      cases Option.some.inj (h2.symm.trans (Stand.of_body B).code)
      intro x hx
      rw [Array.isEmpty_iff.mp h7] at hx
      cases hx
    obtain ⟨t, a1, o, b1, b2, b3⟩ := body p e s m args below meth c s₁ B hml ht hP s₁ hh0 (Stand.of_body B)
    exact ⟨t, o, a1, b1, b2, b3⟩
/-- the table of a body with handlers -/
theorem vx_table {p : Program} {x y : MethodName} {S : Spec} {cc bytes : ByteArray} {maxL maxL' : Nat} {ret ret' : Option FieldType} {e : Env} {s s₁ : State} {m : MethodId} {args : Array Value} {below : List Frame} {meth : Method} {c : Code} {hh : List (Nat × Nat × Nat × Nat)}
    (B : BodyLoose p l y S cc maxL ret e s m args below meth c s₁) (h : (Cond.codeWith y bytes maxL' ret' hh).before args s = true) : c.exceptionTable.toList = tableOf hh := by
  obtain ⟨m9, meth9, c9, hn9, h1, h2, -, -, h6, -⟩ := Cond.codeWith_spec h
  cases Option.some.inj (hn9.symm.trans B.named)
  cases Option.some.inj (h1.symm.trans B.method)
  cases Option.some.inj (h2.symm.trans (Stand.of_body B).code)
  rw [← h6, table_eq]
end Bodies
end VXA
/-! ===== END ===== -/
/-! ===== BEGIN a static call of a method with an exception table ===== -/
section VXS
variable {p : Program} {l : Launch} {e : Env} {R : Room} {s : State} {m : MethodId} {args : Array Value} {below : List Frame} {meth : Method} {c : Code} {T : State} {H : Heap} {locs : List Loc} {cells slots : Nat}
abbrev vx_CSW (R : Room) (s : State) (args : Array Value) (own : String) (index : Nat) (y : MethodName) (bytes : ByteArray) (maxL : Nat) (ret : Option FieldType) (hh : List (Nat × Nat × Nat × Nat)) (ws : List Cond) (rm : Room) (mc ms n : Nat) : Prop :=
  (rm.cells = mc ∧ rm.slots = ms ∧ rm.frames + 1 ≤ R.frames ∧ 8 + (maxL + 11) + rm.locals ≤ R.locals ∧ (∀ w ∈ ws, ∀ (a' : Array Value) (U : State), s.WarmedH U.vm → w.before a' U = true) ∧ Cond.codeWith y bytes maxL ret hh ∈ ws) ∧
  (Cond.codeWith y bytes maxL ret hh).before args s = true ∧ (Cond.initialized y.cls).before args s = true ∧ (y.cls ≠ "java/lang/invoke/MethodHandle" ∧ y.cls ≠ "java/lang/invoke/VarHandle") ∧
  (∀ sig, parseMethodDescriptor y.desc = some sig → n = sig.parameters.length) ∧ (Cond.methodLink own index y).before args s = true ∧ (Cond.static y).before args s = true
theorem vx_cwSW {own : String} {index maxL mc ms : Nat} {y : MethodName} {bytes : ByteArray} {ret : Option FieldType} {hh : List (Nat × Nat × Nat × Nat)} {Ts ws ws' : List Cond} {rm : Room} (n : Nat) (ht : ∀ w ∈ Ts, w.before args s = true) (hT : GoodIn Ts (va_wsS own index y ws)) (hw : ws = Cond.codeWith y bytes maxL ret hh :: ws') (hrc : rm.cells = mc) (hrs : rm.slots = ms)
    (hd : y.cls ≠ "java/lang/invoke/MethodHandle" ∧ y.cls ≠ "java/lang/invoke/VarHandle" ∧ (parseMethodDescriptor y.desc).map (fun d => d.parameters.length) = some n) (hR : rm.frames + 1 ≤ R.frames ∧ 8 + (maxL + 11) + rm.locals ≤ R.locals) :
    vx_CSW R s args own index y bytes maxL ret hh ws rm mc ms n := by
  have ok : ∀ w ∈ va_wsS own index y ws, w.before args s = true := fun w h => ht w (hT w h).1
  have hG : GoodIn Ts ws := fun w h => hT w (by unfold va_wsS; exact List.mem_append_right _ h)
  have hc : Cond.codeWith y bytes maxL ret hh ∈ ws := by rw [hw]; exact List.mem_cons_self
  refine ⟨⟨hrc, hrs, hR.1, hR.2, pay_in ht hG, hc⟩, ht _ (hG _ hc).1, ok _ (by simp [va_wsS]), ⟨hd.1, hd.2.1⟩, fun sig h => ?_, ok _ (by simp [va_wsS]), ok _ (by simp [va_wsS])⟩
  have h2 := hd.2.2
  rw [h] at h2
  exact (Option.some.inj h2).symm
theorem vx_callSW (X : Stand p l e R s m args below meth c T locs cells slots) (hexec : p.tables.exec = Jvm.exec) {own : String} {index : Nat} {y : MethodName} {bytes : ByteArray} {maxL : Nat} {ret : Option FieldType} {hh : List (Nat × Nat × Nat × Nat)}
    (hown : s.vm.findClass own = some m.cls) (hlink : (Cond.methodLink own index y).before args s = true) (hstat : (Cond.static y).before args s = true) (hinit : (Cond.initialized y.cls).before args s = true)
    (hcode : (Cond.codeWith y bytes maxL ret hh).before args s = true) (hy : y.cls ≠ "java/lang/invoke/MethodHandle" ∧ y.cls ≠ "java/lang/invoke/VarHandle")
    {W9 : Nat} {Pre : Pt → Array Value → Prop} {Post : Pt → Array Value → Option Value → Pt → Prop} (hK : Back l R p e below s args y 3 W9 Pre Post)
    {g : JFrame} (hg : g.method = m) (hsize : g.locals.size = c.maxLocals) {argsL rest : List Value} (hlen : ∀ sig, parseMethodDescriptor y.desc = some sig → argsL.length = sig.parameters.length)
    (hstack : g.stack = argsL.reverse ++ rest) (hW : 2 * g.monitorRoom + (rest.map fun v => v.category).sum ≤ W9) (hdg : decode c.code g.pc = .ok (.invokestatic index, 3))
    (hpre : ∀ vm₁, s.WarmedH vm₁ → Pre ⟨T.setVm vm₁, locs, cells, slots⟩ argsL.toArray) :
    ∃ (v : Option Value) (vm₁ : Vm) (B : Pt), s.WarmedH vm₁ ∧ Stand p l e R s m args below meth c B.U B.locs B.cells B.slots ∧ Post ⟨T.setVm vm₁, locs, cells, slots⟩ argsL.toArray v B ∧
      ∀ target, Steps p.tables e below (B.U.setTop { g with pc := g.pc + 3, stack := v.toList ++ rest }) target → Steps p.tables e below (T.setTop g) target := by
  obtain ⟨mk, methM, cM, hnamed, hmethM, -, -, -, -, -, -, hsigM⟩ := Cond.codeWith_spec hcode
  have hstatic : methM.isStatic = true := Cond.static_spec hnamed hmethM hstat
  obtain ⟨kP, hkP, -⟩ := className_of_methodNamed hnamed
  have hinitP : kP.init = .initialized := Cond.initialized_spec (findClass_of_methodNamed hnamed) hkP hinit
  obtain ⟨vm₁, X₁, hstep₁⟩ := X.invokestatic hexec hown hlink hnamed hmethM hstatic hkP hinitP hy (g := g) hg (argsL := argsL) (rest := rest) (hlen _ hsigM) hstack hdg
  obtain ⟨v, B, X', hpost, hsteps⟩ := hK m meth c ⟨T.setVm vm₁, locs, cells, slots⟩ { g with stack := rest } (.invokestatic index) mk argsL.toArray X₁ hg hsize hdg hW (X₁.named hnamed) (hpre vm₁ X₁.warmed)
  exact ⟨v, vm₁, B, X₁.warmed, X', hpost, fun target h => hstep₁ _ fun acts => by rw [doInvoke_state]; exact hsteps.trans h⟩
theorem vx_runSW {y : MethodName} {bytes cc : ByteArray} {maxL nL mc ms n index : Nat} {ret : Option FieldType} {hh : List (Nat × Nat × Nat × Nat)} {ws : List Cond} {rm : Room} {Pc : Array Value → State → Prop} {Qc : Array Value → State → Outcome → State → Prop} {free : Addr → Prop} {Ts : List Cond} {own : String} {As rest : List Value} {g : JFrame}
    (S : CallFix p m c cc nL s args Ts own) (hM : Met l y ws rm Pc Qc mc ms free) (cw : vx_CSW R s args own index y bytes maxL ret hh ws rm mc ms n) (hp : PreS s H Pc As)
    (hg : g.method = m) (hn : As.length = n) (hsize : g.locals.size = nL) (hstack : g.stack = As.reverse ++ rest) (hW : 2 * g.monitorRoom + (rest.map fun v => v.category).sum ≤ 8) (hdg : decode cc g.pc = .ok (.invokestatic index, 3)) (hf : cells + mc ≤ R.cells ∧ slots + ms ≤ R.slots) :
    va_Run p l e R s m args below meth c H locs cells slots mc ms g rest (Qc As.toArray) (free) := by
  obtain ⟨⟨hrc, hrs, hfr, hlo, hws, hcw⟩, hcode, hini, hy, hlen, hl, hstt⟩ := cw
  have hK : Back l R p e below s args y 3 8 (PreOf R mc ms Pc) (PostOf Qc mc ms free) := va_backW (hh := hh) (bytes := bytes) (maxL := maxL) (ret := ret) hM hp.1 hrc hrs hfr hlo hws hcw (fun a' U hW => word_at hW (Or.inl (by first | rfl | simp [Cond.onTables, Cond.keeps, Cond.steady])) hini)
  obtain ⟨hx, hb, hml, ho, -⟩ := S
  intro T hT X
  obtain ⟨v, vm₁, ⟨U', l2, c2, s2⟩, hW₁, X', ⟨g', mk, t, L, e1, e2, hq, h1, hL, h2, h3⟩, st⟩ := vx_callSW X hx (hh := hh) (bytes := bytes) (maxL := maxL) (ret := ret) ho hl hstt hini hcode hy hK hg (hsize.trans hml.symm) (argsL := As) (rest := rest) (fun sig h => hn.trans (hlen sig h)) hstack hW (by rw [hb]; exact hdg)
    (fun vm₁ hW₁ => ⟨hf.1, hf.2, hp.2 (T.setVm vm₁) hT hW₁⟩)
  dsimp only [Pt.U, Pt.locs, Pt.cells, Pt.slots] at X' e1 e2 h1 h2 h3 st
  subst h1; subst h2; subst h3
  exact ⟨v, (T.setVm vm₁).calling g' mk As.toArray, t, U', L, hT, X', hL, e1, e2, hq, st⟩
/-- not caught here, past rows that name other classes: it goes on to the caller -/
theorem vx_outP {p : Program} {l : Launch} {e : Env} {R : Room} {s : State} {m : MethodId} {args : Array Value} {below : List Frame} {meth : Method} {c : Code} {H : Heap} {locs : List Loc} {cells slots : Nat} {free : Addr → Prop} {ls : Array Slot} {rest : List Value} {Qc : Array Value → State → Outcome → State → Prop} {XC : String → State → State → Prop}
    {pc : Nat} {own E : String} {ce : Cell} {q : Addr} {mc ms : Nat} (hown : s.vm.findClass own = some m.cls) (hlocks : meth.locks = false)
    (hpass : ∀ z ∈ c.exceptionTable.toList, covers z pc = false ∨ (z.catchType ≠ 0 ∧ ∃ nm : String, (Cond.classLink own z.catchType nm).before args s = true ∧ va_Nc E nm s)) (hcell : H[q]? = some ce) (hv : ce.vm = .none) (hcl : s.vm.findClass E = some ce.cls)
    (hx : ∀ t : State, t.heap = H → s.vm.Alike t.vm → XC E s t) (hf : ∀ z ∈ locs, free z.base) (hc : cells ≤ mc) (hs : slots ≤ ms) :
    vx_W p l e R s m args below meth c H locs cells slots (vx_MQ below Qc XC args s mc ms free) (F0 m pc ls rest) q := by
  intro T hT X
  have hpl : e.platform.magicAccessors = ({} : Platform).magicAccessors := by rw [X.admits.platform]
  obtain ⟨vm', hW', X', st⟩ := X.outThrough hlocks q (g := F0 m pc ls rest) rfl rfl rfl (cell := ce) (by rw [hT]; exact hcell) (by rw [hv]; rfl)
    (by obtain ⟨k9, h9, -⟩ := Vm.findClass_spec hcl; exact ⟨k9, h9⟩) (fun z hz => by
      rcases hpass z hz with h | ⟨hz0, nm, hl1, hn1⟩
      · exact Or.inl h
      · obtain ⟨c6, hc6, hcl6⟩ := Cond.classLink_spec hown hl1 e.platform hpl
        obtain ⟨a8, b8, h1, h2, h3⟩ := hn1
        cases Option.some.inj (h1.symm.trans hcl)
        cases Option.some.inj (h2.symm.trans hc6)
        exact Or.inr ⟨hz0, _, hcl6, h3⟩)
  obtain ⟨g₀, hfr⟩ := X'.frames_eq
  have hcell9 : ((T.setVm vm').setFrames (.throwing q :: below)).heap[q]? = some ce := by
    show T.heap[q]? = some ce
    rw [hT]; exact hcell
  have hend : Ended ((T.setVm vm').setFrames (.throwing q :: below)) below (.threw q) := State.frames_setFrames _ (State.cur_lt_of_frames hfr)
  refine ⟨(T.setVm vm').setFrames (.throwing q :: below), ?_, .threw q, X'.here.running, hend, Or.inr ⟨q, rfl, E, ce, locs, hx _ hT (X'.ends _).1.alike, hcell9, hv, hcl, (X'.ends _).1, (X'.ends _).2.mono hc hs, hf⟩⟩
  rw [X.pushThrowing_eq]
  exact st
/-- a thing of a world lies in the heap -/
theorem vx_lt {D : va_G} {cl : List vw_C} {ws : va_W} {H1 : Heap} (h : va_P D cl ws H1) {k : Nat} {q : Nat × va_E} (hk : ws[k]? = some q) : q.1 < H1.size := (h k q hk).lt
end VXS
/-! ===== END ===== -/
/-! ===== BEGIN methods with a table of their own: called by a name, returning or throwing ===== -/
section VXH
/-! vx_backW, vx_callVX, vx_callSX, vx_callVW, vx_runVW, vx_runVX, vx_runSX, vx_ofWH follow the same proofs as their sisters above (Free/Laws.lean, Shelf42/LK1.lean); vx_outP calls Shelf42/NT130.lean (outThrough). -/
section
variable {l : Launch} {R : Room} {p : Program} {e : Env} {below : List Frame} {s : State} {sargs : Array Value} {y : MethodName} {len W9 : Nat}
theorem vx_backW {ws : List Cond} {rm : Room} {Pc : Array Value → State → Prop} {Qc : Array Value → State → Outcome → State → Prop} {XC : String → State → State → Prop} {mc ms : Nat} {free : Addr → Prop} {bytes : ByteArray} {maxL : Nat} {ret : Option FieldType} {hh : List (Nat × Nat × Nat × Nat)}
    (hM : vx_Met l y ws rm Pc Qc XC mc ms free) (hblind : FrameBlind Pc) (hrc : rm.cells = mc) (hrs : rm.slots = ms)
    (hframes : rm.frames + 1 ≤ R.frames) (hlocals : W9 + (maxL + 11) + rm.locals ≤ R.locals)
    (hws : ∀ w ∈ ws, ∀ a' U, s.WarmedH U.vm → w.before a' U = true) (hcode : Cond.codeWith y bytes maxL ret hh ∈ ws) (hinit : ∀ a' U, s.WarmedH U.vm → (Cond.initialized y.cls).before a' U = true) :
    vx_Back l R p e below s sargs y len W9 (PreOf R mc ms Pc) (PostOf Qc mc ms free) (vx_Post XC mc ms free) := by
  intro m meth c A g ig mk a X hg hsize hdg hW hn hp
  have h1 : (headSpec ws rm).pre.before a A.U = true := atoms_intro fun w hw => hws w hw _ _ X.warmed
  have h2 : (Cond.codeWith y bytes maxL ret hh).before a A.U = true := hws _ hcode _ _ X.warmed
  have h3 : (Cond.initialized y.cls).before a A.U = true := hinit _ _ X.warmed
  have h4 : A.cells + (headSpec ws rm).room.cells ≤ R.cells := by rw [show (headSpec ws rm).room.cells = mc from hrc]; exact hp.1
  have h5 : A.slots + (headSpec ws rm).room.slots ≤ R.slots := by rw [show (headSpec ws rm).room.slots = ms from hrs]; exact hp.2.1
  have hPc : Pc a (A.U.calling g mk a) := hblind _ _ _ _ hp.2.2
  obtain ⟨U, Ls, c0, s0⟩ := A
  dsimp only [Pt.U, Pt.locs, Pt.cells, Pt.slots] at h1 h2 h3 h4 h5 X hn hPc ⊢
  obtain ⟨m9, methY, cY, hn9, hmY, hcY, -, hlY, -⟩ := Cond.codeWith_spec h2
  cases Option.some.inj (hn9.symm.trans hn)
  obtain ⟨kY, hkY, -⟩ := className_of_methodNamed hn
  have hinitY : kY.init = .initialized := Cond.initialized_spec (findClass_of_methodNamed hn) hkY h3
  have h : At U g.method c below := by rw [hg]; exact X.here
  have hlocals9 : W9 + (maxL + 11) + (headSpec ws rm).room.locals ≤ R.locals := hlocals
  have happ : (headSpec ws rm).appliesLoose y e.platform (U.calling g mk a) = true :=
    Spec.appliesLoose_calling (g := g) h hdg hn hkY hinitY
      (X.room_calling (g := g) (R' := (headSpec ws rm).room) hsize hmY hcY hframes (by rw [hlY]; omega) h4 h5) h1
  obtain ⟨mid, hmid⟩ := h.above
  have hfr : (U.setTop g).frames = (.java g :: mid) ++ below := by rw [State.frames_setTop' g h.top, hmid]; rfl
  obtain ⟨o, s₂, hsteps, -, hend, hq⟩ := Steps.callFree hM p X.admits X.cas X.clock (acts := []) hfr happ hPc trivial
  have hq' : vx_Q Qc XC mc ms free a (U.calling g mk a) o s₂ := hq
  rw [State.frames_setTop' g h.top] at hend
  obtain ⟨g₀, hg0⟩ := Option.isSome_iff_exists.mp h.top
  obtain ⟨r, hr⟩ := State.topJava?_eq_some.mp hg0
  have hr' : (({ U with heap := s₂.heap, slotsUsed := s₂.slotsUsed } : State).setVm s₂.vm).frames = .java g₀ :: r := hr
  rcases hq' with ⟨hqc, L, hfe, hL⟩ | ⟨q, rfl, E, ce, L, hx, hce, hcv, hcl, hW₂, hsm, hL⟩
  · obtain ⟨⟨v, rfl⟩, hW₂, e2, q2, q3, q4, q5, q6⟩ := id hfe
    have e3 : s₂ = ({ (U.calling g mk a).setFrames s₂.frames with heap := s₂.heap, slotsUsed := s₂.slotsUsed } : State).setVm s₂.vm := by
      have : s₂ = ({ s₂ with vm := (U.calling g mk a).vm } : State).setVm s₂.vm := rfl
      rw [e2] at this
      exact this
    obtain ⟨c₂, i₂, len₂, hc₂, hd₂, hf₂⟩ := hend
    have hW' : U.WarmedH s₂.vm := hW₂
    have hcc : c₂ = c := by
      have h1 : s₂.code? g.method = U.code? g.method := by
        rw [State.code?_eq, State.code?_eq, hW'.alike.method?]
      exact Option.some.inj (hc₂.symm.trans (h1.trans h.code))
    subst hcc
    have hlen : len₂ = len := by rw [hdg] at hd₂; cases hd₂; rfl
    subst hlen
    have hs₂ : s₂ = (({ U with heap := s₂.heap, slotsUsed := s₂.slotsUsed } : State).setVm s₂.vm).setTop { g with pc := g.pc + len₂, stack := v.toList ++ g.stack } := by
      refine e3.trans ?_
      rw [hf₂, State.calling_eq h.top, State.setFrames_setFrames, State.setTop_of_frames _ hr', hr]
      rfl
    have hsame : U.sameButNew ({ U with heap := s₂.heap, slotsUsed := s₂.slotsUsed } : State) L mc ms := by
      refine ⟨?_, q2, q3, q4, q5, q6⟩
      obtain ⟨t, ht, -⟩ := State.frames_cons hr
      show ({ U with heap := s₂.heap, slotsUsed := s₂.slotsUsed } : State) = { U.setFrames U.frames with heap := s₂.heap, slotsUsed := s₂.slotsUsed }
      rw [State.setFrames_self ht]
    subst hg
    refine Or.inl ⟨v, ⟨(({ U with heap := s₂.heap, slotsUsed := s₂.slotsUsed } : State).setVm s₂.vm), Ls ++ L, c0 + mc, s0 + ms⟩,
      ⟨X.admits, X.cas, X.clock, X.frames, X.room, X.hears, X.method, X.code, (X.here.setHeapUsed s₂.heap s₂.slotsUsed).setVm hW'.alike, X.tail, State.WarmedH.trans X.warmed hW', X.limits, X.bytes, X.same.trans (hsame.setVm s.vm)⟩,
      ⟨g, mk, s₂, L, rfl, rfl, hqc, rfl, hL, rfl, rfl⟩, ?_⟩
    show Steps p.tables e below _ ((({ U with heap := s₂.heap, slotsUsed := s₂.slotsUsed } : State).setVm s₂.vm).setTop { g with pc := g.pc + len₂, stack := v.toList ++ g.stack })
    rw [← hs₂]
    exact hsteps
  · obtain ⟨e2, q2, q3, q4, q5, q6⟩ := id hsm
    have e3 : s₂ = ({ (U.calling g mk a).setFrames s₂.frames with heap := s₂.heap, slotsUsed := s₂.slotsUsed } : State).setVm s₂.vm := by
      have : s₂ = ({ s₂ with vm := (U.calling g mk a).vm } : State).setVm s₂.vm := rfl
      rw [e2] at this
      exact this
    have hf₂ : s₂.frames = .throwing q :: .java g :: U.frames.tail := hend
    have hW' : U.WarmedH s₂.vm := hW₂
    have hs₂ : s₂ = ((({ U with heap := s₂.heap, slotsUsed := s₂.slotsUsed } : State).setVm s₂.vm).setTop g).pushFrame (.throwing q) := by
      refine e3.trans ?_
      rw [hf₂, State.calling_eq h.top, State.setFrames_setFrames, State.pushFrame, State.frames_setTop _ hr', State.setTop_of_frames _ hr', State.setFrames_setFrames, hr]
      rfl
    have hsame : U.sameButNew ({ U with heap := s₂.heap, slotsUsed := s₂.slotsUsed } : State) L mc ms := by
      refine ⟨?_, q2, q3, q4, q5, q6⟩
      obtain ⟨t, ht, -⟩ := State.frames_cons hr
      show ({ U with heap := s₂.heap, slotsUsed := s₂.slotsUsed } : State) = { U.setFrames U.frames with heap := s₂.heap, slotsUsed := s₂.slotsUsed }
      rw [State.setFrames_self ht]
    subst hg
    refine Or.inr ⟨q, ⟨(({ U with heap := s₂.heap, slotsUsed := s₂.slotsUsed } : State).setVm s₂.vm), Ls ++ L, c0 + mc, s0 + ms⟩,
      ⟨X.admits, X.cas, X.clock, X.frames, X.room, X.hears, X.method, X.code, (X.here.setHeapUsed s₂.heap s₂.slotsUsed).setVm hW'.alike, X.tail, State.WarmedH.trans X.warmed hW', X.limits, X.bytes, X.same.trans (hsame.setVm s.vm)⟩,
      ⟨g, mk, s₂, L, E, ce, rfl, rfl, hx, hce, hcv, hcl, rfl, hL, rfl, rfl⟩, ?_⟩
    show Steps p.tables e below _ (((({ U with heap := s₂.heap, slotsUsed := s₂.slotsUsed } : State).setVm s₂.vm).setTop g).pushFrame (.throwing q))
    rw [← hs₂]
    exact hsteps
end
variable {p : Program} {l : Launch} {e : Env} {R : Room} {s : State} {m : MethodId} {args : Array Value} {below : List Frame} {meth : Method} {c : Code} {T : State} {H : Heap} {locs : List Loc} {cells slots : Nat}
theorem vx_callVX (X : Stand p l e R s m args below meth c T locs cells slots) (hexec : p.tables.exec = Jvm.exec) {own C : String} {index : Nat} {y : MethodName} {bytes : ByteArray} {maxL : Nat} {ret : Option FieldType} {hh : List (Nat × Nat × Nat × Nat)}
    (hown : s.vm.findClass own = some m.cls) (hlink : (Cond.methodLink own index y).before args s = true) (hinst : (Cond.instanceMethod y).before args s = true) (hsel : (Cond.selects C y y).before args s = true)
    (hcode : (Cond.codeWith y bytes maxL ret hh).before args s = true) (hy : y.cls ≠ "java/lang/invoke/MethodHandle" ∧ y.cls ≠ "java/lang/invoke/VarHandle")
    {W9 : Nat} {Pre : Pt → Array Value → Prop} {Post : Pt → Array Value → Option Value → Pt → Prop} {PostX : Pt → Array Value → Addr → Pt → Prop} (hK : vx_Back l R p e below s args y 3 W9 Pre Post PostX)
    {b : Addr} {cellB : Cell} (hcell : T.heap[b]? = some cellB) (hobj : cellB.vm.isStatics = false) (hcls : s.vm.findClass C = some cellB.cls)
    {g : JFrame} (hg : g.method = m) (hsize : g.locals.size = c.maxLocals) {argsL rest : List Value} (hlen : ∀ sig, parseMethodDescriptor y.desc = some sig → argsL.length = sig.parameters.length)
    (hstack : g.stack = argsL.reverse ++ .ref b :: rest) (hW : 2 * g.monitorRoom + (rest.map fun v => v.category).sum ≤ W9) (hdg : decode c.code g.pc = .ok (.invokevirtual index, 3))
    (hpre : ∀ vm₁, s.WarmedH vm₁ → Pre ⟨T.setVm vm₁, locs, cells, slots⟩ (Value.ref b :: argsL).toArray) :
    (∃ (v : Option Value) (vm₁ : Vm) (B : Pt), s.WarmedH vm₁ ∧ Stand p l e R s m args below meth c B.U B.locs B.cells B.slots ∧ Post ⟨T.setVm vm₁, locs, cells, slots⟩ (Value.ref b :: argsL).toArray v B ∧
      ∀ target, Steps p.tables e below (B.U.setTop { g with pc := g.pc + 3, stack := v.toList ++ rest }) target → Steps p.tables e below (T.setTop g) target) ∨
    (∃ (q : Addr) (vm₁ : Vm) (B : Pt), s.WarmedH vm₁ ∧ Stand p l e R s m args below meth c B.U B.locs B.cells B.slots ∧ PostX ⟨T.setVm vm₁, locs, cells, slots⟩ (Value.ref b :: argsL).toArray q B ∧
      Steps p.tables e below (T.setTop g) ((B.U.setTop { g with stack := rest }).pushFrame (.throwing q))) := by
  obtain ⟨mk, methM, hnamed, hmethM, hstM, habM⟩ := Cond.instanceMethod_spec hinst
  obtain ⟨m8, methM', cM, hn8, hmethM', -, -, -, -, -, -, hsigM⟩ := Cond.codeWith_spec hcode
  cases Option.some.inj (hn8.symm.trans hnamed)
  cases hmethM.symm.trans hmethM'
  obtain ⟨c2, r2, m2, q1, q2, q3, q4, kP, hkP, hkPi⟩ := Cond.selects_spec hsel
  cases hcls.symm.trans q1
  cases (State.methodFound?_of_named hnamed hy).symm.trans q2
  cases hnamed.symm.trans q3
  have hselP : selectMethod e.platform s.vm cellB.cls mk = .method mk := by rw [Launch.admits_selectMethod X.admits]; exact q4
  obtain ⟨vm₁, X₁, hstep₁⟩ := X.invokevirtual hexec hown hlink hnamed hmethM hstM hkP hkPi hy (a := b) (cell := cellB) hcell
    (fun z h => by rw [h] at hobj; cases hobj) hselP hmethM habM hkP hkPi (g := g) hg (argsL := argsL) (rest := rest) (hlen _ hsigM) hstack hdg
  rcases hK m meth c ⟨T.setVm vm₁, locs, cells, slots⟩ { g with stack := rest } (.invokevirtual index) mk (Value.ref b :: argsL).toArray X₁ hg hsize hdg hW (X₁.named hnamed) (hpre vm₁ X₁.warmed) with ⟨v, B, X', hpost, hsteps⟩ | ⟨q, B, X', hpost, hsteps⟩
  · exact Or.inl ⟨v, vm₁, B, X₁.warmed, X', hpost, fun target h => hstep₁ _ fun acts => by rw [doInvoke_state]; exact hsteps.trans h⟩
  · exact Or.inr ⟨q, vm₁, B, X₁.warmed, X', hpost, hstep₁ _ fun acts => by rw [doInvoke_state]; exact hsteps⟩
theorem vx_callSX (X : Stand p l e R s m args below meth c T locs cells slots) (hexec : p.tables.exec = Jvm.exec) {own : String} {index : Nat} {y : MethodName} {bytes : ByteArray} {maxL : Nat} {ret : Option FieldType} {hh : List (Nat × Nat × Nat × Nat)}
    (hown : s.vm.findClass own = some m.cls) (hlink : (Cond.methodLink own index y).before args s = true) (hstat : (Cond.static y).before args s = true) (hinit : (Cond.initialized y.cls).before args s = true)
    (hcode : (Cond.codeWith y bytes maxL ret hh).before args s = true) (hy : y.cls ≠ "java/lang/invoke/MethodHandle" ∧ y.cls ≠ "java/lang/invoke/VarHandle")
    {W9 : Nat} {Pre : Pt → Array Value → Prop} {Post : Pt → Array Value → Option Value → Pt → Prop} {PostX : Pt → Array Value → Addr → Pt → Prop} (hK : vx_Back l R p e below s args y 3 W9 Pre Post PostX)
    {g : JFrame} (hg : g.method = m) (hsize : g.locals.size = c.maxLocals) {argsL rest : List Value} (hlen : ∀ sig, parseMethodDescriptor y.desc = some sig → argsL.length = sig.parameters.length)
    (hstack : g.stack = argsL.reverse ++ rest) (hW : 2 * g.monitorRoom + (rest.map fun v => v.category).sum ≤ W9) (hdg : decode c.code g.pc = .ok (.invokestatic index, 3))
    (hpre : ∀ vm₁, s.WarmedH vm₁ → Pre ⟨T.setVm vm₁, locs, cells, slots⟩ argsL.toArray) :
    (∃ (v : Option Value) (vm₁ : Vm) (B : Pt), s.WarmedH vm₁ ∧ Stand p l e R s m args below meth c B.U B.locs B.cells B.slots ∧ Post ⟨T.setVm vm₁, locs, cells, slots⟩ argsL.toArray v B ∧
      ∀ target, Steps p.tables e below (B.U.setTop { g with pc := g.pc + 3, stack := v.toList ++ rest }) target → Steps p.tables e below (T.setTop g) target) ∨
    (∃ (q : Addr) (vm₁ : Vm) (B : Pt), s.WarmedH vm₁ ∧ Stand p l e R s m args below meth c B.U B.locs B.cells B.slots ∧ PostX ⟨T.setVm vm₁, locs, cells, slots⟩ argsL.toArray q B ∧
      Steps p.tables e below (T.setTop g) ((B.U.setTop { g with stack := rest }).pushFrame (.throwing q))) := by
  obtain ⟨mk, methM, cM, hnamed, hmethM, -, -, -, -, -, -, hsigM⟩ := Cond.codeWith_spec hcode
  have hstatic : methM.isStatic = true := Cond.static_spec hnamed hmethM hstat
  obtain ⟨kP, hkP, -⟩ := className_of_methodNamed hnamed
  have hinitP : kP.init = .initialized := Cond.initialized_spec (findClass_of_methodNamed hnamed) hkP hinit
  obtain ⟨vm₁, X₁, hstep₁⟩ := X.invokestatic hexec hown hlink hnamed hmethM hstatic hkP hinitP hy (g := g) hg (argsL := argsL) (rest := rest) (hlen _ hsigM) hstack hdg
  rcases hK m meth c ⟨T.setVm vm₁, locs, cells, slots⟩ { g with stack := rest } (.invokestatic index) mk argsL.toArray X₁ hg hsize hdg hW (X₁.named hnamed) (hpre vm₁ X₁.warmed) with ⟨v, B, X', hpost, hsteps⟩ | ⟨q, B, X', hpost, hsteps⟩
  · exact Or.inl ⟨v, vm₁, B, X₁.warmed, X', hpost, fun target h => hstep₁ _ fun acts => by rw [doInvoke_state]; exact hsteps.trans h⟩
  · exact Or.inr ⟨q, vm₁, B, X₁.warmed, X', hpost, hstep₁ _ fun acts => by rw [doInvoke_state]; exact hsteps⟩
theorem vx_callVW (X : Stand p l e R s m args below meth c T locs cells slots) (hexec : p.tables.exec = Jvm.exec) {own C : String} {index : Nat} {y : MethodName} {bytes : ByteArray} {maxL : Nat} {ret : Option FieldType} {hh : List (Nat × Nat × Nat × Nat)}
    (hown : s.vm.findClass own = some m.cls) (hlink : (Cond.methodLink own index y).before args s = true) (hinst : (Cond.instanceMethod y).before args s = true) (hsel : (Cond.selects C y y).before args s = true)
    (hcode : (Cond.codeWith y bytes maxL ret hh).before args s = true) (hy : y.cls ≠ "java/lang/invoke/MethodHandle" ∧ y.cls ≠ "java/lang/invoke/VarHandle")
    {W9 : Nat} {Pre : Pt → Array Value → Prop} {Post : Pt → Array Value → Option Value → Pt → Prop} (hK : Back l R p e below s args y 3 W9 Pre Post)
    {b : Addr} {cellB : Cell} (hcell : T.heap[b]? = some cellB) (hobj : cellB.vm.isStatics = false) (hcls : s.vm.findClass C = some cellB.cls)
    {g : JFrame} (hg : g.method = m) (hsize : g.locals.size = c.maxLocals) {argsL rest : List Value} (hlen : ∀ sig, parseMethodDescriptor y.desc = some sig → argsL.length = sig.parameters.length)
    (hstack : g.stack = argsL.reverse ++ .ref b :: rest) (hW : 2 * g.monitorRoom + (rest.map fun v => v.category).sum ≤ W9) (hdg : decode c.code g.pc = .ok (.invokevirtual index, 3))
    (hpre : ∀ vm₁, s.WarmedH vm₁ → Pre ⟨T.setVm vm₁, locs, cells, slots⟩ (Value.ref b :: argsL).toArray) :
    ∃ (v : Option Value) (vm₁ : Vm) (B : Pt), s.WarmedH vm₁ ∧ Stand p l e R s m args below meth c B.U B.locs B.cells B.slots ∧ Post ⟨T.setVm vm₁, locs, cells, slots⟩ (Value.ref b :: argsL).toArray v B ∧
      ∀ target, Steps p.tables e below (B.U.setTop { g with pc := g.pc + 3, stack := v.toList ++ rest }) target → Steps p.tables e below (T.setTop g) target := by
  obtain ⟨mk, methM, hnamed, hmethM, hstM, habM⟩ := Cond.instanceMethod_spec hinst
  obtain ⟨m8, methM', cM, hn8, hmethM', -, -, -, -, -, -, hsigM⟩ := Cond.codeWith_spec hcode
  cases Option.some.inj (hn8.symm.trans hnamed)
  cases hmethM.symm.trans hmethM'
  obtain ⟨c2, r2, m2, q1, q2, q3, q4, kP, hkP, hkPi⟩ := Cond.selects_spec hsel
  cases hcls.symm.trans q1
  cases (State.methodFound?_of_named hnamed hy).symm.trans q2
  cases hnamed.symm.trans q3
  have hselP : selectMethod e.platform s.vm cellB.cls mk = .method mk := by rw [Launch.admits_selectMethod X.admits]; exact q4
  obtain ⟨vm₁, X₁, hstep₁⟩ := X.invokevirtual hexec hown hlink hnamed hmethM hstM hkP hkPi hy (a := b) (cell := cellB) hcell
    (fun z h => by rw [h] at hobj; cases hobj) hselP hmethM habM hkP hkPi (g := g) hg (argsL := argsL) (rest := rest) (hlen _ hsigM) hstack hdg
  obtain ⟨v, B, X', hpost, hsteps⟩ := hK m meth c ⟨T.setVm vm₁, locs, cells, slots⟩ { g with stack := rest } (.invokevirtual index) mk (Value.ref b :: argsL).toArray X₁ hg hsize hdg hW (X₁.named hnamed) (hpre vm₁ X₁.warmed)
  exact ⟨v, vm₁, B, X₁.warmed, X', hpost, fun target h => hstep₁ _ fun acts => by rw [doInvoke_state]; exact hsteps.trans h⟩
abbrev vx_CVW (R : Room) (s : State) (args : Array Value) (own C : String) (index : Nat) (y : MethodName) (bytes : ByteArray) (maxL : Nat) (ret : Option FieldType) (hh : List (Nat × Nat × Nat × Nat)) (ws : List Cond) (rm : Room) (mc ms n : Nat) : Prop :=
  (rm.cells = mc ∧ rm.slots = ms ∧ rm.frames + 1 ≤ R.frames ∧ 8 + (maxL + 11) + rm.locals ≤ R.locals ∧ (∀ w ∈ ws, ∀ (a' : Array Value) (U : State), s.WarmedH U.vm → w.before a' U = true) ∧ Cond.codeWith y bytes maxL ret hh ∈ ws) ∧
  (Cond.codeWith y bytes maxL ret hh).before args s = true ∧ (Cond.initialized y.cls).before args s = true ∧ (y.cls ≠ "java/lang/invoke/MethodHandle" ∧ y.cls ≠ "java/lang/invoke/VarHandle") ∧
  (∀ sig, parseMethodDescriptor y.desc = some sig → n = sig.parameters.length) ∧ (Cond.methodLink own index y).before args s = true ∧ (Cond.instanceMethod y).before args s = true ∧ (Cond.selects C y y).before args s = true
theorem vx_cwVW {own C : String} {index maxL mc ms : Nat} {y : MethodName} {bytes : ByteArray} {ret : Option FieldType} {hh : List (Nat × Nat × Nat × Nat)} {Ts ws ws' : List Cond} {rm : Room} (n : Nat) (ht : ∀ w ∈ Ts, w.before args s = true) (hT : GoodIn Ts (wsV own index C y ws)) (hw : ws = Cond.codeWith y bytes maxL ret hh :: ws') (hrc : rm.cells = mc) (hrs : rm.slots = ms)
    (hd : y.cls = C ∧ y.cls ≠ "java/lang/invoke/MethodHandle" ∧ y.cls ≠ "java/lang/invoke/VarHandle" ∧ (parseMethodDescriptor y.desc).map (fun d => d.parameters.length) = some n) (hR : rm.frames + 1 ≤ R.frames ∧ 8 + (maxL + 11) + rm.locals ≤ R.locals) :
    vx_CVW R s args own C index y bytes maxL ret hh ws rm mc ms n := by
  obtain ⟨hC, hd⟩ := hd
  subst hC
  have ok : ∀ w ∈ wsV own index y.cls y ws, w.before args s = true := fun w h => ht w (hT w h).1
  have hG : GoodIn Ts ws := fun w h => hT w (by unfold wsV; exact List.mem_append_right _ h)
  have hc : Cond.codeWith y bytes maxL ret hh ∈ ws := by rw [hw]; exact List.mem_cons_self
  refine ⟨⟨hrc, hrs, hR.1, hR.2, pay_in ht hG, hc⟩, ht _ (hG _ hc).1, ok _ (by simp [wsV]), ⟨hd.1, hd.2.1⟩, fun sig h => ?_, ok _ (by simp [wsV]), ok _ (by simp [wsV]), ok _ (by simp [wsV])⟩
  have h2 := hd.2.2
  rw [h] at h2
  exact (Option.some.inj h2).symm
theorem vx_runVW {y : MethodName} {bytes cc : ByteArray} {maxL nL mc ms n index : Nat} {ret : Option FieldType} {hh : List (Nat × Nat × Nat × Nat)} {ws : List Cond} {rm : Room} {Pc : Array Value → State → Prop} {Qc : Array Value → State → Outcome → State → Prop} {free : Addr → Prop} {Ts : List Cond} {own C : String} {b : Addr} {As rest : List Value} {g : JFrame}
    (S : CallFix p m c cc nL s args Ts own) (hM : Met l y ws rm Pc Qc mc ms free) (cw : vx_CVW R s args own C index y bytes maxL ret hh ws rm mc ms n) (hp : PreV s H C b Pc As)
    (hg : g.method = m) (hn : As.length = n) (hsize : g.locals.size = nL) (hstack : g.stack = As.reverse ++ .ref b :: rest) (hW : 2 * g.monitorRoom + (rest.map fun v => v.category).sum ≤ 8) (hdg : decode cc g.pc = .ok (.invokevirtual index, 3)) (hf : cells + mc ≤ R.cells ∧ slots + ms ≤ R.slots) :
    va_Run p l e R s m args below meth c H locs cells slots mc ms g rest (Qc (Value.ref b :: As).toArray) free := by
  obtain ⟨⟨hrc, hrs, hfr, hlo, hws, hcw⟩, hcode, hini, hy, hlen, hl, hin, hse⟩ := cw
  have hK : Back l R p e below s args y 3 8 (PreOf R mc ms Pc) (PostOf Qc mc ms free) := va_backW (hh := hh) (bytes := bytes) (maxL := maxL) (ret := ret) hM hp.1 hrc hrs hfr hlo hws hcw (fun a' U hW => word_at hW (Or.inl (by first | rfl | simp [Cond.onTables, Cond.keeps, Cond.steady])) hini)
  obtain ⟨hx, hb, hml, ho, -⟩ := S
  obtain ⟨-, ⟨cellB, hcB, hoB, hclB⟩, hPc⟩ := hp
  intro T hT X
  obtain ⟨v, vm₁, ⟨U', l2, c2, s2⟩, hW₁, X', ⟨g', mk, t, L, e1, e2, hq, h1, hL, h2, h3⟩, st⟩ := vx_callVW X hx (C := C) (hh := hh) (bytes := bytes) (maxL := maxL) (ret := ret) ho hl hin hse hcode hy hK (by rw [hT]; exact hcB) hoB hclB hg (hsize.trans hml.symm) (argsL := As) (rest := rest) (fun sig h => hn.trans (hlen sig h)) hstack hW (by rw [hb]; exact hdg)
    (fun vm₁ hW₁ => ⟨hf.1, hf.2, hPc (T.setVm vm₁) hT hW₁⟩)
  dsimp only [Pt.U, Pt.locs, Pt.cells, Pt.slots] at X' e1 e2 h1 h2 h3 st
  subst h1; subst h2; subst h3
  exact ⟨v, (T.setVm vm₁).calling g' mk (Value.ref b :: As).toArray, t, U', L, hT, X', hL, e1, e2, hq, st⟩
section
variable {y : MethodName} {bytes cc : ByteArray} {maxL nL mc ms n index : Nat} {ret : Option FieldType} {ws : List Cond} {rm : Room} {Pc : Array Value → State → Prop} {Qc : Array Value → State → Outcome → State → Prop} {XC : String → State → State → Prop} {free : Addr → Prop} {Ts : List Cond} {own C : String} {b : Addr} {As rest : List Value} {g : JFrame}
theorem vx_runVX {hh : List (Nat × Nat × Nat × Nat)} (S : CallFix p m c cc nL s args Ts own) (hM : vx_Met l y ws rm Pc Qc XC mc ms free) (cw : vx_CVW R s args own C index y bytes maxL ret hh ws rm mc ms n) (hp : PreV s H C b Pc As)
    (hg : g.method = m) (hn : As.length = n) (hsize : g.locals.size = nL) (hstack : g.stack = As.reverse ++ .ref b :: rest) (hW : 2 * g.monitorRoom + (rest.map fun v => v.category).sum ≤ 8) (hdg : decode cc g.pc = .ok (.invokevirtual index, 3)) (hf : cells + mc ≤ R.cells ∧ slots + ms ≤ R.slots) :
    vx_Run p l e R s m args below meth c H locs cells slots mc ms g rest (Qc (Value.ref b :: As).toArray) XC free := by
  obtain ⟨⟨hrc, hrs, hfr, hlo, hws, hcw⟩, hcode, hini, hy, hlen, hl, hin, hse⟩ := cw
  have hK : vx_Back l R p e below s args y 3 8 (PreOf R mc ms Pc) (PostOf Qc mc ms free) (vx_Post XC mc ms free) := vx_backW (hh := hh) (bytes := bytes) (maxL := maxL) (ret := ret) hM hp.1 hrc hrs hfr hlo hws hcw (fun a' U hW => word_at hW (Or.inl (by first | rfl | simp [Cond.onTables, Cond.keeps, Cond.steady])) hini)
  obtain ⟨hx, hb, hml, ho, -⟩ := S
  obtain ⟨-, ⟨cellB, hcB, hoB, hclB⟩, hPc⟩ := hp
  intro T hT X
  rcases vx_callVX X hx (C := C) (hh := hh) (bytes := bytes) (maxL := maxL) (ret := ret) ho hl hin hse hcode hy hK (by rw [hT]; exact hcB) hoB hclB hg (hsize.trans hml.symm) (argsL := As) (rest := rest) (fun sig h => hn.trans (hlen sig h)) hstack hW (by rw [hb]; exact hdg)
    (fun vm₁ hW₁ => ⟨hf.1, hf.2, hPc (T.setVm vm₁) hT hW₁⟩) with ⟨v, vm₁, ⟨U', l2, c2, s2⟩, hW₁, X', ⟨g', mk, t, L, e1, e2, hq, h1, hL, h2, h3⟩, st⟩ | ⟨q, vm₁, ⟨U', l2, c2, s2⟩, hW₁, X', ⟨g', mk, t, L, E, ce, e1, e2, hq, hce, hcv, hcl, h1, hL, h2, h3⟩, st⟩
  · dsimp only [Pt.U, Pt.locs, Pt.cells, Pt.slots] at X' e1 e2 h1 h2 h3 st
    subst h1; subst h2; subst h3
    exact Or.inl ⟨v, (T.setVm vm₁).calling g' mk (Value.ref b :: As).toArray, t, U', L, hT, X', hL, e1, e2, hq, st⟩
  · dsimp only [Pt.U, Pt.locs, Pt.cells, Pt.slots] at X' e1 e2 h1 h2 h3 st hcl
    subst h1; subst h2; subst h3
    exact Or.inr ⟨q, (T.setVm vm₁).calling g' mk (Value.ref b :: As).toArray, t, U', L, E, ce, hT, X', hL, e1, e2, hq, hce, hcv, vx_cls hW₁ hcl, st⟩
theorem vx_runSX {hh : List (Nat × Nat × Nat × Nat)} (S : CallFix p m c cc nL s args Ts own) (hM : vx_Met l y ws rm Pc Qc XC mc ms free) (cw : vx_CSW R s args own index y bytes maxL ret hh ws rm mc ms n) (hp : PreS s H Pc As)
    (hg : g.method = m) (hn : As.length = n) (hsize : g.locals.size = nL) (hstack : g.stack = As.reverse ++ rest) (hW : 2 * g.monitorRoom + (rest.map fun v => v.category).sum ≤ 8) (hdg : decode cc g.pc = .ok (.invokestatic index, 3)) (hf : cells + mc ≤ R.cells ∧ slots + ms ≤ R.slots) :
    vx_Run p l e R s m args below meth c H locs cells slots mc ms g rest (Qc As.toArray) XC free := by
  obtain ⟨⟨hrc, hrs, hfr, hlo, hws, hcw⟩, hcode, hini, hy, hlen, hl, hstt⟩ := cw
  have hK : vx_Back l R p e below s args y 3 8 (PreOf R mc ms Pc) (PostOf Qc mc ms free) (vx_Post XC mc ms free) := vx_backW (hh := hh) (bytes := bytes) (maxL := maxL) (ret := ret) hM hp.1 hrc hrs hfr hlo hws hcw (fun a' U hW => word_at hW (Or.inl (by first | rfl | simp [Cond.onTables, Cond.keeps, Cond.steady])) hini)
  obtain ⟨hx, hb, hml, ho, -⟩ := S
  intro T hT X
  rcases vx_callSX X hx (hh := hh) (bytes := bytes) (maxL := maxL) (ret := ret) ho hl hstt hini hcode hy hK hg (hsize.trans hml.symm) (argsL := As) (rest := rest) (fun sig h => hn.trans (hlen sig h)) hstack hW (by rw [hb]; exact hdg)
    (fun vm₁ hW₁ => ⟨hf.1, hf.2, hp.2 (T.setVm vm₁) hT hW₁⟩) with ⟨v, vm₁, ⟨U', l2, c2, s2⟩, hW₁, X', ⟨g', mk, t, L, e1, e2, hq, h1, hL, h2, h3⟩, st⟩ | ⟨q, vm₁, ⟨U', l2, c2, s2⟩, hW₁, X', ⟨g', mk, t, L, E, ce, e1, e2, hq, hce, hcv, hcl, h1, hL, h2, h3⟩, st⟩
  · dsimp only [Pt.U, Pt.locs, Pt.cells, Pt.slots] at X' e1 e2 h1 h2 h3 st
    subst h1; subst h2; subst h3
    exact Or.inl ⟨v, (T.setVm vm₁).calling g' mk As.toArray, t, U', L, hT, X', hL, e1, e2, hq, st⟩
  · dsimp only [Pt.U, Pt.locs, Pt.cells, Pt.slots] at X' e1 e2 h1 h2 h3 st hcl
    subst h1; subst h2; subst h3
    exact Or.inr ⟨q, (T.setVm vm₁).calling g' mk As.toArray, t, U', L, E, ce, hT, X', hL, e1, e2, hq, hce, hcv, vx_cls hW₁ hcl, st⟩
end
end VXH
theorem vx_ofWH {l : Launch} {y : MethodName} {ws ws' : List Cond} {rm : Room} {Pc : Array Value → State → Prop} {Qc : Array Value → State → Outcome → State → Prop} {XC : String → State → State → Prop} {mc ms : Nat} {free : Addr → Prop} {cc : ByteArray} {maxL : Nat} {ret : Option FieldType} {hh : List (Nat × Nat × Nat × Nat)}
    (hy : plainName y.cls = true) (hw : ws = Cond.codeWith y cc maxL ret hh :: ws')
    (body : ∀ p e s m args below meth c s₁, BodyLoose p l y (headSpec ws rm) cc maxL ret e s m args below meth c s₁ → c.maxLocals = maxL → Pc args s →
      W p l e (headSpec ws rm).room s m args below meth c s.heap [] 0 0 (vx_MQ below Qc XC args s mc ms free) (entryFrame m args maxL)) : vx_Met l y ws rm Pc Qc XC mc ms free := by
  refine MetFree.of_bodyS (code := cc) (maxLocals := maxL) (ret := ret) hy ?_ ?_
  · intro args s m h hn
    obtain ⟨m9, meth, c, hn9, h1, h2, h3, h4, -, h5, h6, -⟩ := Cond.codeWith_spec (atoms_spec (ws := ws) h _ (by rw [hw]; exact List.mem_cons_self))
    cases hn.symm.trans hn9
    exact ⟨meth, c, h1, h2, h3, h4, h5, h6⟩
  · intro p e s m args below meth c s₁ B hml hP _
    have hh0 : s₁.heap = s.heap := by rw [B.state]; rfl
    obtain ⟨t, a1, o, b1, b2, b3⟩ := body p e s m args below meth c s₁ B hml hP s₁ hh0 (Stand.of_body B)
    exact ⟨t, o, a1, b1, b2, b3⟩
/-! ===== END ===== -/
end
section
/-! WHAT EVERY METHOD CARRIES BESIDE THE GOOD WORDS -/
def gNest : List Cond := [.methodLinkNest "PlanText" 45 ⟨"PlanText$NeedList", "<init>", "()V"⟩ "PlanText", .methodLinkNest "PlanText" 55 ⟨"PlanText$Printer", "<init>", "()V"⟩ "PlanText", .methodLinkNest "PlanText$Reader" 126 ⟨"PlanText$NeedList", "<init>", "()V"⟩ "PlanText"]
def gDecl : List Cond := [.declares ⟨"java/lang/RuntimeException", "<init>", "(Ljava/lang/String;)V"⟩, .declares ⟨"java/lang/Exception", "<init>", "(Ljava/lang/String;)V"⟩, .declares ⟨"java/lang/Throwable", "<init>", "(Ljava/lang/String;)V"⟩]
def gCast : List Cond := [.castable "java/lang/IndexOutOfBoundsException" "java/lang/IndexOutOfBoundsException", .castable "java/lang/UnsupportedOperationException" "java/lang/UnsupportedOperationException", .castable "java/lang/IllegalStateException" "java/lang/IllegalStateException", .castable "java/lang/IllegalArgumentException" "java/lang/IllegalArgumentException"]
def gOver : List String := ["PlanText$Edition", "PlanText$Plan", "PlanText$NeedList", "PlanText$Standby", "PlanText$Need"]
def gStr : List (Nat × String) := [(62, "1 to 8 bytes at once"), (69, "the tape has 400 bytes at most"), (198, "a number outside its range"), (89, "the text is wrong"), (92, "there are 6 editions"), (194, "no such skill"), (106, "no such kind"), (132, "no such need"), (150, "no such what"), (196, "an index below 0")]
def gNot : List (String × String) := [("java/lang/UnsupportedOperationException", "java/lang/IndexOutOfBoundsException"), ("java/lang/IllegalStateException", "java/lang/IndexOutOfBoundsException"), ("java/lang/UnsupportedOperationException", "java/lang/IllegalStateException"), ("java/lang/IndexOutOfBoundsException", "java/lang/IllegalArgumentException")]
def gZ (H0 : Heap) (U : State) : Prop := (vx_Zq Bundle.tN "UNASSIGNED_STACK" Bundle.steD (fun q => H0.size ≤ q) U H0 ∧ vx_Zq Bundle.tN "SUPPRESSED_SENTINEL" Bundle.listD (fun q => H0.size ≤ q) U H0) ∧ (∀ w ∈ gNest ++ (gDecl ++ gCast), va_Nw w U) ∧ (∀ C ∈ gOver, va_AO C U) ∧ (∀ x ∈ gStr, ∃ a, vk_R "PlanText" x.1 x.2 a U) ∧ ∀ x ∈ gNot, va_Nc x.1 x.2 U
theorem gZ.warm {H0 : Heap} {s U : State} (hW : s.WarmedH U.vm) (h : gZ H0 s) : gZ H0 U := by
  obtain ⟨h1, h2, h3, h4, h5⟩ := h
  refine ⟨⟨h1.1.moved hW.alike, h1.2.moved hW.alike⟩, fun w hw => ?_, fun C hC => (h3 C hC).moved hW.alike, fun x hx => ?_, fun x hx => (h5 x hx).moved hW.alike⟩
  · have h9 := h2 w hw
    rcases List.mem_append.mp hw with h | h
    · simp only [gNest, List.mem_cons, List.not_mem_nil, or_false] at h
      rcases h with rfl | rfl | rfl <;> exact va_Nw.warmM hW h9
    · rcases List.mem_append.mp h with h | h
      · simp only [gDecl, List.mem_cons, List.not_mem_nil, or_false] at h
        rcases h with rfl | rfl | rfl <;> exact va_Nw.warmD hW h9
      · simp only [gCast, List.mem_cons, List.not_mem_nil, or_false] at h
        rcases h with rfl | rfl | rfl | rfl <;> exact va_Nw.warmC hW h9
  · obtain ⟨a, ha⟩ := h4 x hx
    exact ⟨a, ha.warm hW⟩
theorem lw_good_word {w : Cond} (h : w ∈ lw_good) : goodWord w = true := (List.mem_filter.mp h).2
/-! A METHOD'S CONTRACT OVER THE ABSTRACT HEAP -/
def gEnd (D : va_G) (cT : Nat → ClassId) (H0 : Heap) (S S' : gS) (st t : State) : Prop :=
  gA D cT H0 S' t.heap ∧ S.2.2.1 ≤ S'.2.2.1 ∧ S.2.2.2 ≤ S'.2.2.2 ∧ st.WarmedH t.vm ∧ ∃ L, st.sameButNew ({ t with vm := st.vm } : State) L (S'.2.2.1 - S.2.2.1) (S'.2.2.2 - S.2.2.2) ∧ ∀ q ∈ L, H0.size ≤ q.base
def gP (D : va_G) (cT : Nat → ClassId) (H0 : Heap) (S : gS) (av : List Value) : Array Value → State → Prop := fun v U => v = av.toArray ∧ gA D cT H0 S U.heap ∧ gK D cT U ∧ gZ H0 U
/-- how a method ends: thrown (the class, by its name), or returned -/
def gO (D : va_G) (cT : Nat → ClassId) (H0 : Heap) (S S' : gS) (res : String ⊕ Option Value) (st : State) (o : Outcome) (t : State) : Prop := match res with
  | .inr v => o = .returned v ∧ gEnd D cT H0 S S' st t
  | .inl E => ∃ (q : Addr) (ce : Cell), o = .threw q ∧ t.heap[q]? = some ce ∧ ce.vm = .none ∧ st.vm.findClass E = some ce.cls ∧ gEnd D cT H0 S S' st t
def gRm (fr lo : Nat) (S : gS) : Room := { frames := fr, cells := gC - S.2.2.1, slots := gU - S.2.2.2, locals := lo }
def gM (D : va_G) (cT : Nat → ClassId) (H0 : Heap) (l : Launch) (y : MethodName) (w : Cond) (fr lo : Nat) (av : List Value) (S S' : gS) (res : String ⊕ Option Value) : Prop :=
  MetFree l y (headSpec (w :: lw_good) (gRm fr lo S)) (gP D cT H0 S av) (fun _ _ _ _ _ => True) (fun _ st o t => gO D cT H0 S S' res st o t)
/-- what a walk owes at its end -/
def gQ (D : va_G) (cT : Nat → ClassId) (H0 : Heap) (below : List Frame) (S S' : gS) (res : String ⊕ Option Value) (s : State) : State → Prop := fun t => ∃ o, t.status = .running ∧ Ended t below o ∧ gO D cT H0 S S' res s o t
section GM
variable {D : va_G} {cT : Nat → ClassId} {H0 : Heap} {l : Launch}
theorem gM.ofV {y : MethodName} {cc : ByteArray} {nL : Nat} {ret : Option FieldType} {fr lo : Nat} {av : List Value} {S S' : gS} {res : String ⊕ Option Value} (hy : plainName y.cls = true)
    (body : ∀ p e s m args below meth c s₁, BodyLoose p l y (headSpec (Cond.code y cc nL ret :: lw_good) (gRm fr lo S)) cc nL ret e s m args below meth c s₁ → c.maxLocals = nL → args = av.toArray → gX D cT p (gRm fr lo S) s m args meth c cc nL y.cls fr lo S → gZ H0 s → c.exceptionTable.toList = [] → meth.sig.returnType = ret → (∀ q : Nat, q < H0.size → s.heap[q]? = H0[q]?) →
      gV D cT H0 p l e (gRm fr lo S) s m args below meth c (gQ D cT H0 below S S' res s) S S (entryFrame m args nL)) : gM D cT H0 l y (Cond.code y cc nL ret) fr lo av S S' res := by
  refine MetFree.of_bodyS (code := cc) (maxLocals := nL) (ret := ret) hy ?_ ?_
  · intro args s m h hn
    obtain ⟨meth, c, h1, h2, h3, h4, h5, h6, -, -⟩ := Cond.code_spec hn (atoms_spec (ws := Cond.code y cc nL ret :: lw_good) h _ List.mem_cons_self)
    exact ⟨meth, c, h1, h2, h3, h4, h5, h6⟩
  · intro p e s m args below meth c s₁ B hml hP _
    have hh0 : s₁.heap = s.heap := by rw [B.state]; rfl
    obtain ⟨e1, hA, hK, hZ⟩ := hP
    have hts : ∀ w ∈ Cond.code y cc nL ret :: lw_good, w.before args s = true := atoms_spec (ws := Cond.code y cc nL ret :: lw_good) B.pre
    have hex : c.exceptionTable.toList = [] := by
      have h9 := B.noHandlers (hts _ List.mem_cons_self)
      have h8 : c.exceptionTable = #[] := by simpa using h9
      rw [h8]
    have k := body p e s m args below meth c s₁ B hml e1 ⟨B.exec, B.bytes, hml, findClass_of_methodNamed B.named, fun w hw => hts w (List.mem_cons_of_mem _ hw), hK, B.notSynchronized, rfl, rfl, rfl, rfl⟩ hZ hex B.returns hA.2.2.1
    have X0 := Stand.of_body B
    obtain ⟨t, a1, o, b1, b2, b3⟩ := k s.heap [] hA (fun q h => by cases h) (Nat.le_refl _) (Nat.le_refl _) s₁ hh0 (by rw [Nat.sub_self, Nat.sub_self]; exact X0)
    exact ⟨t, o, a1, b1, b2, b3⟩
variable {p : Program} {e : Env} {R : Room} {s : State} {m : MethodId} {args : Array Value} {below : List Frame} {meth : Method} {c : Code} {Q : State → Prop} {S0 S S1 : gS}
theorem g_word {w : Cond} {a' : Array Value} {U : State} (hts : ∀ w ∈ lw_good, w.before args s = true) (hw : w ∈ lw_good) (hW : s.WarmedH U.vm) : w.before a' U = true := word_at hW (good_of_word (lw_good_word hw)) (hts w hw)
/-- the callee's premise, paid: it returns -/
theorem g_back {y : MethodName} {bytes : ByteArray} {maxL : Nat} {ret : Option FieldType} {fr' lo' : Nat} {av : List Value} {v : Option Value} (hM : gM D cT H0 l y (Cond.code y bytes maxL ret) fr' lo' av S S1 (.inr v))
    (hts : ∀ w ∈ lw_good, w.before args s = true) (hK : gK D cT s) (hZ : gZ H0 s) (hfr : fr' + 1 ≤ R.frames) (hlo : 8 + (maxL + 11) + lo' ≤ R.locals) (hcw : Cond.code y bytes maxL ret ∈ lw_good) (hini : Cond.initialized y.cls ∈ lw_good) :
    Back l R p e below s args y 3 8 (fun A a => a = av.toArray ∧ gA D cT H0 S A.U.heap ∧ A.cells + (gC - S.2.2.1) ≤ R.cells ∧ A.slots + (gU - S.2.2.2) ≤ R.slots)
      (fun A _ w B => w = v ∧ ∃ L, B.locs = A.locs ++ L ∧ (∀ q ∈ L, H0.size ≤ q.base) ∧ B.cells = A.cells + (S1.2.2.1 - S.2.2.1) ∧ B.slots = A.slots + (S1.2.2.2 - S.2.2.2) ∧ gA D cT H0 S1 B.U.heap ∧ S.2.2.1 ≤ S1.2.2.1 ∧ S.2.2.2 ≤ S1.2.2.2) := by
  refine Back.of_free (S := headSpec (Cond.code y bytes maxL ret :: lw_good) (gRm fr' lo' S)) (P := gP D cT H0 S av) (K := fun _ _ _ _ _ => True) (Q := fun _ st o t => gO D cT H0 S S1 (.inr v) st o t) (bytes := bytes) (maxL := maxL) (ret := ret)
    (E := fun a st o t L k n => k = S1.2.2.1 - S.2.2.1 ∧ n = S1.2.2.2 - S.2.2.2 ∧ ∀ q ∈ L, H0.size ≤ q.base) hM hfr hlo ?_ ?_ (fun _ _ _ _ _ _ _ _ _ => trivial) ?_ ?_
  · intro m meth c A a X hp
    exact ⟨atoms_intro fun w hw => g_word hts (by rcases List.mem_cons.mp hw with rfl | h; exact hcw; exact h) X.warmed, g_word hts hcw X.warmed, g_word hts hini X.warmed, hp.2.2.1, hp.2.2.2⟩
  · intro m meth c A a g mk X hp
    exact ⟨hp.1, hp.2.1, hK.moved X.warmed.alike, hZ.warm X.warmed⟩
  · intro a st o t ⟨ho, h1, h2, h3, h4, L, h5, h6⟩
    exact ⟨L, _, _, ⟨⟨v, ho⟩, h4, h5⟩, rfl, rfl, h6⟩
  · intro m meth c A a g mk w t L k n X hp hq hF ⟨e1, e2, hL⟩
    obtain ⟨ho, h1, h2, h3, -⟩ := hq
    subst e1; subst e2
    exact ⟨Outcome.returned.inj ho, L, rfl, hL, rfl, rfl, h1, h2, h3⟩
variable {cc : ByteArray} {nL : Nat} {own : String} {fr lo : Nat} {pc : Nat} {ls : Array Slot} {rest : List Value}
theorem g_run {T : State} {locs L : List Loc} {k n : Nat} {g2 : JFrame} (hA : gA D cT H0 S1 T.heap) (h2 : ∀ q ∈ locs, H0.size ≤ q.base) (hL : ∀ q ∈ L, H0.size ≤ q.base) (h3 : S0.2.2.1 ≤ S.2.2.1) (h4 : S0.2.2.2 ≤ S.2.2.2) (h5 : S.2.2.1 ≤ S1.2.2.1) (h6 : S.2.2.2 ≤ S1.2.2.2)
    (ek : k = (S.2.2.1 - S0.2.2.1) + (S1.2.2.1 - S.2.2.1)) (en : n = (S.2.2.2 - S0.2.2.2) + (S1.2.2.2 - S.2.2.2)) (X' : Stand p l e R s m args below meth c T (locs ++ L) k n)
    (kk : gV D cT H0 p l e R s m args below meth c Q S0 S1 g2) : ∃ t, Steps p.tables e below (T.setTop g2) t ∧ Q t := by
  have e1 : k = S1.2.2.1 - S0.2.2.1 := by omega
  have e2 : n = S1.2.2.2 - S0.2.2.2 := by omega
  subst e1; subst e2
  refine kk T.heap (locs ++ L) hA (fun q hq => ?_) (by omega) (by omega) T rfl X'
  rcases List.mem_append.mp hq with h | h
  · exact h2 q h
  · exact hL q h
/-- a virtual call of a method that returns -/
theorem g_callV (X : gX D cT p R s m args meth c cc nL own fr lo S0) (hZ : gZ H0 s) {y : MethodName} {bytes : ByteArray} {maxL : Nat} {ret : Option FieldType} {fr' lo' : Nat} {As : List Value} {v : Option Value} {b ci index : Nat} {fs : List Value} {Tt : u_T} {N : Nat} {ty : Nat → FieldType}
    (hM : gM D cT H0 l y (Cond.code y bytes maxL ret) fr' lo' (va_rf (some b) :: As) S S1 (.inr v)) (hC : gCl ci y.cls Tt N ty) (hb : S.1 b = some (.inr (ci, fs)))
    (hcw : Cond.code y bytes maxL ret ∈ lw_good) (hini : Cond.initialized y.cls ∈ lw_good) (hlink : Cond.methodLink own index y ∈ lw_good) (hinst : Cond.instanceMethod y ∈ lw_good) (hsel : Cond.selects y.cls y y ∈ lw_good)
    (hd : y.cls ≠ "java/lang/invoke/MethodHandle" ∧ y.cls ≠ "java/lang/invoke/VarHandle" ∧ (parseMethodDescriptor y.desc).map (fun d => d.parameters.length) = some As.length) (hR : fr' + 1 ≤ fr ∧ 8 + (maxL + 11) + lo' ≤ lo) (hsize : ls.size = nL) (hW : (rest.map fun v => v.category).sum ≤ 8) (hdg : decode cc pc = .ok (.invokevirtual index, 3))
    {st0 : List Value} (hst : As.reverse ++ va_rf (some b) :: rest = st0) {st1 : List Value} (hst1 : v.toList ++ rest = st1)
    (kk : gV D cT H0 p l e R s m args below meth c Q S0 S1 (F0 m (pc + 3) ls st1)) : gV D cT H0 p l e R s m args below meth c Q S0 S (F0 m pc ls st0) := by
  obtain ⟨hx, hb', hml, hown, hts, hK, hlk, hRc, hRs, hRf, hRl⟩ := X
  subst hst; subst hst1
  intro H locs hA h2 h3 h4 T hT X
  obtain ⟨-, r, hr1, cellB, q1, q2, q3, -⟩ := hA.2.2.2 b _ hb
  have hfc : s.vm.findClass y.cls = some (D.1 ci) := (hK.1.1 ci (y.cls, Tt, N) hC.1).2.1
  obtain ⟨w, vm₁, ⟨U', l2, c2, s2⟩, hW₁, X', ⟨e1, L, e2, hL, e3, e4, hA1, h5, h6⟩, st⟩ := callV X hx (C := y.cls) (bytes := bytes) (maxL := maxL) (ret := ret) hown (hts _ hlink) (hts _ hinst) (hts _ hsel) (hts _ hcw) ⟨hd.1, hd.2.1⟩
    (g_back hM hts hK hZ (by rw [hRf]; exact hR.1) (by rw [hRl]; exact hR.2) hcw hini) (by rw [hT]; exact q1) (by rw [q3]; rfl) (by rw [q2]; exact hfc) (g := F0 m pc ls (As.reverse ++ va_rf (some b) :: rest)) rfl (hsize.trans hml.symm) (argsL := As) (rest := rest)
    (fun sig h => by have := hd.2.2; rw [h] at this; exact (Option.some.inj this).symm) rfl (lv_room hW) (by rw [hb']; exact hdg)
    (fun vm₁ hW₁ => ⟨rfl, by show gA D cT H0 S T.heap; rw [hT]; exact hA, by show S.2.2.1 - S0.2.2.1 + (gC - S.2.2.1) ≤ R.cells; rw [hRc]; have := hA.1.2.1; omega, by show S.2.2.2 - S0.2.2.2 + (gU - S.2.2.2) ≤ R.slots; rw [hRs]; have := hA.1.2.2; omega⟩)
  subst e1
  dsimp only [Pt.U, Pt.locs, Pt.cells, Pt.slots] at X' e2 e3 e4 hA1 st
  subst e2
  obtain ⟨t, a1, b1⟩ := g_run (g2 := F0 m (pc + 3) ls (w.toList ++ rest)) hA1 h2 hL h3 h4 h5 h6 e3 e4 X' kk
  exact ⟨t, st t a1, b1⟩
/-- a static call of a method that returns -/
theorem g_callS (X : gX D cT p R s m args meth c cc nL own fr lo S0) (hZ : gZ H0 s) {y : MethodName} {bytes : ByteArray} {maxL : Nat} {ret : Option FieldType} {fr' lo' : Nat} {As : List Value} {v : Option Value} {index : Nat}
    (hM : gM D cT H0 l y (Cond.code y bytes maxL ret) fr' lo' As S S1 (.inr v))
    (hcw : Cond.code y bytes maxL ret ∈ lw_good) (hini : Cond.initialized y.cls ∈ lw_good) (hlink : Cond.methodLink own index y ∈ lw_good) (hstat : Cond.static y ∈ lw_good)
    (hd : y.cls ≠ "java/lang/invoke/MethodHandle" ∧ y.cls ≠ "java/lang/invoke/VarHandle" ∧ (parseMethodDescriptor y.desc).map (fun d => d.parameters.length) = some As.length) (hR : fr' + 1 ≤ fr ∧ 8 + (maxL + 11) + lo' ≤ lo) (hsize : ls.size = nL) (hW : (rest.map fun v => v.category).sum ≤ 8) (hdg : decode cc pc = .ok (.invokestatic index, 3))
    {st0 : List Value} (hst : As.reverse ++ rest = st0) {st1 : List Value} (hst1 : v.toList ++ rest = st1)
    (kk : gV D cT H0 p l e R s m args below meth c Q S0 S1 (F0 m (pc + 3) ls st1)) : gV D cT H0 p l e R s m args below meth c Q S0 S (F0 m pc ls st0) := by
  obtain ⟨hx, hb', hml, hown, hts, hK, hlk, hRc, hRs, hRf, hRl⟩ := X
  subst hst; subst hst1
  intro H locs hA h2 h3 h4 T hT X
  obtain ⟨w, vm₁, ⟨U', l2, c2, s2⟩, hW₁, X', ⟨e1, L, e2, hL, e3, e4, hA1, h5, h6⟩, st⟩ := callS X hx (bytes := bytes) (maxL := maxL) (ret := ret) hown (hts _ hlink) (hts _ hstat) (hts _ hini) (hts _ hcw) ⟨hd.1, hd.2.1⟩
    (g_back hM hts hK hZ (by rw [hRf]; exact hR.1) (by rw [hRl]; exact hR.2) hcw hini) (g := F0 m pc ls (As.reverse ++ rest)) rfl (hsize.trans hml.symm) (argsL := As) (rest := rest)
    (fun sig h => by have := hd.2.2; rw [h] at this; exact (Option.some.inj this).symm) rfl (lv_room hW) (by rw [hb']; exact hdg)
    (fun vm₁ hW₁ => ⟨rfl, by show gA D cT H0 S T.heap; rw [hT]; exact hA, by show S.2.2.1 - S0.2.2.1 + (gC - S.2.2.1) ≤ R.cells; rw [hRc]; have := hA.1.2.1; omega, by show S.2.2.2 - S0.2.2.2 + (gU - S.2.2.2) ≤ R.slots; rw [hRs]; have := hA.1.2.2; omega⟩)
  subst e1
  dsimp only [Pt.U, Pt.locs, Pt.cells, Pt.slots] at X' e2 e3 e4 hA1 st
  subst e2
  obtain ⟨t, a1, b1⟩ := g_run (g2 := F0 m (pc + 3) ls (w.toList ++ rest)) hA1 h2 hL h3 h4 h5 h6 e3 e4 X' kk
  exact ⟨t, st t a1, b1⟩
/-- a constructor -/
theorem g_callI (X : gX D cT p R s m args meth c cc nL own fr lo S0) (hZ : gZ H0 s) {y : MethodName} {bytes : ByteArray} {maxL : Nat} {fr' lo' : Nat} {As : List Value} {b index : Nat}
    (hM : gM D cT H0 l y (Cond.code y bytes maxL none) fr' lo' (va_rf (some b) :: As) S S1 (.inr none))
    (hcw : Cond.code y bytes maxL none ∈ lw_good) (hini : Cond.initialized y.cls ∈ lw_good) (hlink : Cond.methodLink own index y ∈ lw_good) (hinst : Cond.instanceMethod y ∈ lw_good) (hn : y.name = "<init>")
    (hd : y.cls ≠ "java/lang/invoke/MethodHandle" ∧ y.cls ≠ "java/lang/invoke/VarHandle" ∧ (parseMethodDescriptor y.desc).map (fun d => d.parameters.length) = some As.length) (hR : fr' + 1 ≤ fr ∧ 8 + (maxL + 11) + lo' ≤ lo) (hsize : ls.size = nL) (hW : (rest.map fun v => v.category).sum ≤ 8) (hdg : decode cc pc = .ok (.invokespecial index, 3))
    {st0 : List Value} (hst : As.reverse ++ va_rf (some b) :: rest = st0)
    (kk : gV D cT H0 p l e R s m args below meth c Q S0 S1 (F0 m (pc + 3) ls rest)) : gV D cT H0 p l e R s m args below meth c Q S0 S (F0 m pc ls st0) := by
  obtain ⟨hx, hb', hml, hown, hts, hK, hlk, hRc, hRs, hRf, hRl⟩ := X
  subst hst
  intro H locs hA h2 h3 h4 T hT X
  obtain ⟨w, vm₁, ⟨U', l2, c2, s2⟩, hW₁, X', ⟨e1, L, e2, hL, e3, e4, hA1, h5, h6⟩, st⟩ := callI X hx (bytes := bytes) (maxL := maxL) hown hn (hts _ hlink) (hts _ hinst) (hts _ hcw) ⟨hd.1, hd.2.1⟩
    (g_back hM hts hK hZ (by rw [hRf]; exact hR.1) (by rw [hRl]; exact hR.2) hcw hini) (g := F0 m pc ls (As.reverse ++ va_rf (some b) :: rest)) rfl (hsize.trans hml.symm) (a := b) (argsL := As) (rest := rest)
    (fun sig h => by have := hd.2.2; rw [h] at this; exact (Option.some.inj this).symm) rfl (lv_room hW) (by rw [hb']; exact hdg)
    (fun vm₁ hW₁ => ⟨rfl, by show gA D cT H0 S T.heap; rw [hT]; exact hA, by show S.2.2.1 - S0.2.2.1 + (gC - S.2.2.1) ≤ R.cells; rw [hRc]; have := hA.1.2.1; omega, by show S.2.2.2 - S0.2.2.2 + (gU - S.2.2.2) ≤ R.slots; rw [hRs]; have := hA.1.2.2; omega⟩)
  subst e1
  dsimp only [Pt.U, Pt.locs, Pt.cells, Pt.slots] at X' e2 e3 e4 hA1 st
  subst e2
  obtain ⟨t, a1, b1⟩ := g_run (g2 := F0 m (pc + 3) ls rest) hA1 h2 hL h3 h4 h5 h6 e3 e4 X' kk
  exact ⟨t, st t a1, b1⟩
/-- a constructor that is a nest mate's -/
theorem g_callIN (X : gX D cT p R s m args meth c cc nL own fr lo S0) (hZ : gZ H0 s) {y : MethodName} {bytes : ByteArray} {maxL : Nat} {fr' lo' : Nat} {As : List Value} {b index : Nat} {host : String}
    (hM : gM D cT H0 l y (Cond.code y bytes maxL none) fr' lo' (va_rf (some b) :: As) S S1 (.inr none))
    (hcw : Cond.code y bytes maxL none ∈ lw_good) (hini : Cond.initialized y.cls ∈ lw_good) (hlink : Cond.methodLinkNest own index y host ∈ gNest ++ (gDecl ++ gCast)) (hinst : Cond.instanceMethod y ∈ lw_good) (hn : y.name = "<init>")
    (hd : y.cls ≠ "java/lang/invoke/MethodHandle" ∧ y.cls ≠ "java/lang/invoke/VarHandle" ∧ (parseMethodDescriptor y.desc).map (fun d => d.parameters.length) = some As.length) (hR : fr' + 1 ≤ fr ∧ 8 + (maxL + 11) + lo' ≤ lo) (hsize : ls.size = nL) (hW : (rest.map fun v => v.category).sum ≤ 8) (hdg : decode cc pc = .ok (.invokespecial index, 3))
    {st0 : List Value} (hst : As.reverse ++ va_rf (some b) :: rest = st0)
    (kk : gV D cT H0 p l e R s m args below meth c Q S0 S1 (F0 m (pc + 3) ls rest)) : gV D cT H0 p l e R s m args below meth c Q S0 S (F0 m pc ls st0) := by
  obtain ⟨hx, hb', hml, hown, hts, hK, hlk, hRc, hRs, hRf, hRl⟩ := X
  subst hst
  intro H locs hA h2 h3 h4 T hT X
  obtain ⟨w, vm₁, ⟨U', l2, c2, s2⟩, hW₁, X', ⟨e1, L, e2, hL, e3, e4, hA1, h5, h6⟩, st⟩ := va_callIN X hx (bytes := bytes) (maxL := maxL) hown hn (va_Nw.use rfl (hZ.2.1 _ hlink)) (hts _ hinst) (hts _ hcw) ⟨hd.1, hd.2.1⟩
    (g_back hM hts hK hZ (by rw [hRf]; exact hR.1) (by rw [hRl]; exact hR.2) hcw hini) (g := F0 m pc ls (As.reverse ++ va_rf (some b) :: rest)) rfl (hsize.trans hml.symm) (a := b) (argsL := As) (rest := rest)
    (fun sig h => by have := hd.2.2; rw [h] at this; exact (Option.some.inj this).symm) rfl (lv_room hW) (by rw [hb']; exact hdg)
    (fun vm₁ hW₁ => ⟨rfl, by show gA D cT H0 S T.heap; rw [hT]; exact hA, by show S.2.2.1 - S0.2.2.1 + (gC - S.2.2.1) ≤ R.cells; rw [hRc]; have := hA.1.2.1; omega, by show S.2.2.2 - S0.2.2.2 + (gU - S.2.2.2) ≤ R.slots; rw [hRs]; have := hA.1.2.2; omega⟩)
  subst e1
  dsimp only [Pt.U, Pt.locs, Pt.cells, Pt.slots] at X' e2 e3 e4 hA1 st
  subst e2
  obtain ⟨t, a1, b1⟩ := g_run (g2 := F0 m (pc + 3) ls rest) hA1 h2 hL h3 h4 h5 h6 e3 e4 X' kk
  exact ⟨t, st t a1, b1⟩
/-- Object's constructor -/
theorem g_objInit (X : gX D cT p R s m args meth c cc nL own fr lo S0) {b index : Nat} (hlink : Cond.methodLink own index objectInit ∈ lw_good) (hinst : Cond.instanceMethod objectInit ∈ lw_good) (hcode : Cond.code objectInit ⟨#[0xb1]⟩ 1 none ∈ lw_good) (hsize : ls.size = nL) (hdg : decode cc pc = .ok (.invokespecial index, 3)) (hR : 1 ≤ fr ∧ (rest.map fun v => v.category).sum + 12 ≤ lo)
    (kk : gV D cT H0 p l e R s m args below meth c Q S0 S (F0 m (pc + 3) ls rest)) : gV D cT H0 p l e R s m args below meth c Q S0 S (F0 m pc ls (va_rf (some b) :: rest)) := by
  obtain ⟨hx, hb', hml, hown, hts, hK, hlk, hRc, hRs, hRf, hRl⟩ := X
  intro H locs hA h2 h3 h4
  exact W.objInit (g := F0 m pc ls (va_rf (some b) :: rest)) hx hb' hown (hts _ hlink) (hts _ hinst) (hts _ hcode) rfl (hsize.trans hml.symm) rfl hdg (by rw [hRf]; exact hR.1) (by rw [hRl]; show 2 * 0 + _ + 12 ≤ lo; omega) (kk H locs hA h2 h3 h4)
/-! the ends -/
theorem W.mono {H : Heap} {locs : List Loc} {cells slots : Nat} {Q' : State → Prop} {g : JFrame} (h : ∀ t, Q' t → Q t) (k : W p l e R s m args below meth c H locs cells slots Q' g) : W p l e R s m args below meth c H locs cells slots Q g := fun T hT X => by
  obtain ⟨t, a, b⟩ := k T hT X
  exact ⟨t, a, h t b⟩
theorem gQ.of {H : Heap} {locs : List Loc} {v : Option Value} (hA : gA D cT H0 S H) (h3 : S0.2.2.1 ≤ S.2.2.1) (h4 : S0.2.2.2 ≤ S.2.2.2) {t : State} (h : MQ below (fun _ _ o t => o = .returned v ∧ t.heap = H) args s (S.2.2.1 - S0.2.2.1) (S.2.2.2 - S0.2.2.2) (fun q => H0.size ≤ q) t) : gQ D cT H0 below S0 S (.inr v) s t := by
  obtain ⟨o, h1, h2, ⟨h5, h6⟩, L, ⟨-, h8, h9⟩, h10⟩ := h
  exact ⟨o, h1, h2, h5, by rw [h6]; exact hA, h3, h4, h8, L, h9, h10⟩
theorem g_iret (X : gX D cT p R s m args meth c cc nL own fr lo S0) {v : Int32} (hr : meth.sig.returnType = some .int) (hdg : decode cc pc = .ok (.ireturn, 1)) : gV D cT H0 p l e R s m args below meth c (gQ D cT H0 below S0 S (.inr (some (.int v))) s) S0 S (F0 m pc ls [.int v]) := by
  obtain ⟨hx, hb', hml, hown, hts, hK, hlk, hRc, hRs, hRf, hRl⟩ := X
  intro H locs hA h2 h3 h4
  exact W.mono (fun t ht => gQ.of (locs := locs) hA h3 h4 ht) (W.iret (Qc := fun _ _ o t => o = .returned (some (.int v)) ∧ t.heap = H) (free := fun q => H0.size ≤ q) hx hb' hr (fun t ht _ => ⟨rfl, ht⟩) h2 hdg hlk)
theorem g_zret (X : gX D cT p R s m args meth c cc nL own fr lo S0) {v : Int32} (hr : meth.sig.returnType = some .boolean) (hn : narrow .boolean (.int v) = .int v) (hdg : decode cc pc = .ok (.ireturn, 1)) : gV D cT H0 p l e R s m args below meth c (gQ D cT H0 below S0 S (.inr (some (.int v))) s) S0 S (F0 m pc ls [.int v]) := by
  obtain ⟨hx, hb', hml, hown, hts, hK, hlk, hRc, hRs, hRf, hRl⟩ := X
  intro H locs hA h2 h3 h4
  exact W.mono (fun t ht => gQ.of (locs := locs) hA h3 h4 ht) (W.zret (Qc := fun _ _ o t => o = .returned (some (.int v)) ∧ t.heap = H) (free := fun q => H0.size ≤ q) hx hb' hr hn (fun t ht _ => ⟨rfl, ht⟩) h2 hdg hlk)
theorem g_lret (X : gX D cT p R s m args meth c cc nL own fr lo S0) {v : Int64} (hr : meth.sig.returnType = some .long) (hdg : decode cc pc = .ok (.lreturn, 1)) : gV D cT H0 p l e R s m args below meth c (gQ D cT H0 below S0 S (.inr (some (.long v))) s) S0 S (F0 m pc ls [.long v]) := by
  obtain ⟨hx, hb', hml, hown, hts, hK, hlk, hRc, hRs, hRf, hRl⟩ := X
  intro H locs hA h2 h3 h4
  exact W.mono (fun t ht => gQ.of (locs := locs) hA h3 h4 ht) (W.lret (Qc := fun _ _ o t => o = .returned (some (.long v)) ∧ t.heap = H) (free := fun q => H0.size ≤ q) hx hb' hr (fun t ht _ => ⟨rfl, ht⟩) h2 hdg hlk)
theorem g_vret (X : gX D cT p R s m args meth c cc nL own fr lo S0) (hr : meth.sig.returnType = none) (hdg : decode cc pc = .ok (.return_, 1)) : gV D cT H0 p l e R s m args below meth c (gQ D cT H0 below S0 S (.inr none) s) S0 S (F0 m pc ls []) := by
  obtain ⟨hx, hb', hml, hown, hts, hK, hlk, hRc, hRs, hRf, hRl⟩ := X
  intro H locs hA h2 h3 h4
  exact W.mono (fun t ht => gQ.of (locs := locs) hA h3 h4 ht) (W.vret (Qc := fun _ _ o t => o = .returned none ∧ t.heap = H) (free := fun q => H0.size ≤ q) hx hb' hr (fun t ht _ => ⟨rfl, ht⟩) h2 hdg hlk)
theorem g_aret (X : gX D cT p R s m args meth c cc nL own fr lo S0) {r : Option Nat} {cn : String} (hr : meth.sig.returnType = some (.object cn)) (hdg : decode cc pc = .ok (.areturn, 1)) : gV D cT H0 p l e R s m args below meth c (gQ D cT H0 below S0 S (.inr (some (va_rf r))) s) S0 S (F0 m pc ls [va_rf r]) := by
  obtain ⟨hx, hb', hml, hown, hts, hK, hlk, hRc, hRs, hRf, hRl⟩ := X
  intro H locs hA h2 h3 h4
  exact W.mono (fun t ht => gQ.of (locs := locs) hA h3 h4 ht) (W.aret (Qc := fun _ _ o t => o = .returned (some (va_rf r)) ∧ t.heap = H) (free := fun q => H0.size ≤ q) hx hb' hr (Or.inl ⟨cn, rfl⟩) (va_rf_or r) (fun t ht _ => ⟨rfl, ht⟩) h2 hdg hlk)
end GM
end
section
/-! THROWS -/
/-! gx_throwS: the printed row vx_throwS, with the heap's size told exactly -/
section GXE
variable {p : Program} {l : Launch} {e : Env} {R : Room} {s : State} {m : MethodId} {args : Array Value} {below : List Frame} {meth : Method} {c : Code} {H : Heap} {locs : List Loc} {cells slots : Nat} {Q : State → Prop}
variable {mc ms : Nat} {free : Addr → Prop} {A0 A1 : Nat → Prop} {H0 : Heap} {a : Array Value} {ls : Array Slot} {st0 rest : List Value}
variable {Qc : Array Value → State → Outcome → State → Prop} {XC : String → State → State → Prop}
theorem gx_throwS {cc : ByteArray} {pc : Nat} (hexec : p.tables.exec = Jvm.exec) (hb : c.code = cc) (hl : l.stackTraces = false) {own cls text : String} {names : List String} {ik is ic mc ms sa : Nat} {A : Nat → Prop}
    (hown : s.vm.findClass own = some m.cls) (hcls : Bundle.fit cls = true) (hnames : ∀ n ∈ names, Bundle.fit n = true)
    (hk : (Cond.classLink own ik cls).before args s = true) (hini : (Cond.initialized cls).before args s = true) (hstr : vk_R own is text sa s) (hat : ∀ w ∈ vx_atS own ic cls names, w.before args s = true)
    (hgood : ∀ w ∈ Cond.classLink own ik cls :: Cond.initialized cls :: vx_atS own ic cls names, vx_ot w = true)
    (hU : vx_Zq Bundle.tN "UNASSIGNED_STACK" Bundle.steD A s s.heap) (hN : vx_Zq Bundle.tN "SUPPRESSED_SENTINEL" Bundle.listD A s s.heap) (hS : va_S A s.heap H locs) (hsize : ls.size = c.maxLocals)
    (d0 : decode cc pc = .ok (.new ik, 3)) (d3 : decode cc (pc + 3) = .ok (.dup, 1)) (d4 : decode cc (pc + 4) = .ok (.ldc is, 2)) (d6 : decode cc (pc + 6) = .ok (.invokespecial ic, 3)) (d9 : decode cc (pc + 9) = .ok (.athrow, 1))
    (hout : ∀ x ∈ c.exceptionTable.toList, covers x (pc + 9) = false)
    (hRframes : names.length + 3 < R.frames) (hRlocals : (rest.map fun v => v.category).sum + (13 * (names.length + 1) + 43) ≤ R.locals) (hRcells : cells + 1 ≤ R.cells) (hRslots : slots + 6 ≤ R.slots) (hlocks : meth.locks = false)
    (hx : ∀ t : State, s.vm.Alike t.vm → t.heap.size = H.size + 1 → (∀ q : Nat, q < H.size → t.heap[q]? = H[q]?) → XC cls s t)
    (hf : ∀ z ∈ locs, free z.base) (hc : cells + 1 ≤ mc) (hs : slots + 6 ≤ ms) :
    W p l e R s m args below meth c H locs cells slots (vx_MQ below Qc XC args s mc ms free) (F0 m pc ls rest) := by
  intro T hT X
  have htr : e.platform.stackTraces = false := (show e.platform.stackTraces = l.stackTraces by rw [X.admits.platform]).trans hl
  have Y := vx_rebase X (R' := { frames := R.frames, locals := R.locals, cells := 1, slots := 6 }) (Nat.le_refl _) (Nat.le_refl _) hRcells hRslots
  obtain ⟨s', hA⟩ : ∃ z, z = (T.setVm s.vm).setFrames (.invoking m args :: below) := ⟨_, rfl⟩
  rw [← hA] at Y
  have hvm : s'.vm = s.vm := by rw [hA]; rfl
  have hhp : s'.heap = H := by rw [hA]; exact hT
  have hW0 : s.WarmedH s'.vm := by rw [hvm]; exact State.WarmedH.refl s
  have hat' : ∀ w ∈ vx_atS own ic cls names, w.before args s' = true := fun w hw => vx_ot_at hW0 hvm.symm (hgood w (List.mem_cons_of_mem _ (List.mem_cons_of_mem _ hw))) (hat w hw)
  have hk' : (Cond.classLink own ik cls).before args s' = true := vx_ot_at hW0 hvm.symm (hgood _ List.mem_cons_self) hk
  have hini' : (Cond.initialized cls).before args s' = true := vx_ot_at hW0 hvm.symm (hgood _ (List.mem_cons_of_mem _ List.mem_cons_self)) hini
  have hU' : vx_Zq Bundle.tN "UNASSIGNED_STACK" Bundle.steD A s' s'.heap := by rw [hhp]; exact vx_Zq.moved hW0.alike (hU.kept hS.2.1)
  have hN' : vx_Zq Bundle.tN "SUPPRESSED_SENTINEL" Bundle.listD A s' s'.heap := by rw [hhp]; exact vx_Zq.moved hW0.alike (hN.kept hS.2.1)
  have h : ∀ w ∈ Bundle.ownAtoms own ic cls names, w.before args s' = true := vx_own hat' (vx_isRefq hU'.1) (vx_isRefq hN'.1) hU'.2.word hN'.2.word
  have hown' : s'.vm.findClass own = some m.cls := by rw [hvm]; exact hown
  have hins : (Cond.instantiable cls 6).before args s' = true := h _ (by simp [Bundle.ownAtoms])
  obtain ⟨vm₁, cX, kX, hfX, hkX, -, -, X₁, st1⟩ := Y.newCold hexec (own := own) (C := cls) (index := ik) (n := 6) hown' hk' hins hini'
    (g := F0 m pc ls rest) rfl (by rw [hb]; exact d0) (Nat.le_refl _) (Nat.le_refl _)
  generalize hT1 : (T.setVm vm₁).pushCell { cls := cX, slots := kX.instanceTypes.map defaultValue, vm := .none } = T1 at X₁ st1
  have hcat : (Value.ref T.heap.size).category = 1 := rfl
  have hcellA : T1.heap[T.heap.size]? = some (freshCell cX kX) := by rw [← hT1]; exact State.heap_pushCell_size _ _
  have d3' : decode c.code (pc + 3) = .ok (.dup, 1) := by rw [hb]; exact d3
  have d4' : decode c.code (pc + 4) = .ok (.ldc is, 2) := by rw [hb]; exact d4
  have hstr' : vk_R own is text sa s' := vk_R.warm hW0 hstr
  obtain ⟨U, hsteps, hrun, hend, hW, hsame, ce, hce, hO⟩ := X₁.ctorThrowS hexec htr (own := own) (cls := cls) (names := names) (ic := ic) hown' hcls hnames h (fun x hx => nomatch hx) hfX hkX hcellA (by rw [hhp, hT]; exact Nat.le_refl _) (msg := .ref sa) rfl
    (g := { method := m, pc := pc + 6, locals := ls, stack := .ref sa :: .ref T.heap.size :: .ref T.heap.size :: rest, locked := none }) rfl hsize rfl rfl (rest := rest) rfl
    (by rw [hb]; exact d6) (by rw [hb]; exact d9) hout hRframes (by simp only [List.map_cons, List.sum_cons, hcat]; omega) hlocks
  obtain ⟨f1, f2⟩ := vx_frame hsame
  rw [hhp] at f1 f2
  have hWs : s.WarmedH U.vm := State.WarmedH.trans hW0 hW
  have hcl : s.vm.findClass cls = some ce.cls := by
    have h9 := hO.cls
    rw [hvm] at h9
    exact h9
  have hall : s.sameButNew ({ U with vm := s.vm } : State) locs mc ms := by
    subst hA
    obtain ⟨e1, e2⟩ := hsame
    rw [State.setFrames_setFrames] at e1
    have h2 : (T.setVm s.vm).sameButNew ({ U with vm := s.vm } : State) [] (0 + 1) (0 + 6) := ⟨e1, e2⟩
    have h3 := X.same.trans h2
    rw [List.append_nil] at h3
    exact h3.mono hc hs
  refine ⟨U, ?_, .threw T.heap.size, hrun, hend, Or.inr ⟨T.heap.size, rfl, cls, ce, locs, hx U hWs.alike (by have z1 := hsame.2.2.1; have z2 := (Array.getElem?_eq_some_iff.mp hce).1; rw [hhp] at z1; rw [hT] at z2; exact Nat.le_antisymm z1 z2) (fun q hq => f2 q hq (fun z hz => nomatch hz)), hce, hO.vm, hcl, hWs, hall, hf⟩⟩
  refine st1 _ ?_
  show Steps p.tables e below (T1.setTop { method := m, pc := pc + 3, locals := ls, stack := .ref T.heap.size :: rest, locked := none }) _
  jvm_step X₁.here [X₁.here.top, hexec, d3', Value.category]
  exact X₁.ldcString hexec (own := own) (text := text) (index := is) (a := sa) hown' hstr'.1 hstr'.2
    (g := { method := m, pc := pc + 4, locals := ls, stack := .ref T.heap.size :: .ref T.heap.size :: rest, locked := none }) rfl d4' _ hsteps
end GXE
def gNames : List String := ["java/lang/RuntimeException", "java/lang/Exception"]
section GT
variable {D : va_G} {cT : Nat → ClassId} {H0 : Heap} {l : Launch} {p : Program} {e : Env} {R : Room} {s : State} {m : MethodId} {args : Array Value} {below : List Frame} {meth : Method} {c : Code} {Q : State → Prop} {S0 S S1 : gS}
variable {cc : ByteArray} {nL : Nat} {own : String} {fr lo : Nat} {pc : Nat} {ls : Array Slot} {rest : List Value}
theorem gA.more {n' : Nat} {u : Nat × Nat} {H H1 : Heap} (h : gA D cT H0 S H) (hu : u.1 ≤ gC ∧ u.2 ≤ gU) (z : H1.size = n') (hz : H.size ≤ H1.size) (oq : ∀ q : Nat, q < H.size → H1[q]? = H[q]?) : gA D cT H0 (S.1, n', u) H1 := by
  have hl := fun a e' (ha : S.1 a = some e') => h.lt ha
  obtain ⟨h1, h2, h3, h4⟩ := h
  refine ⟨⟨by show H0.size ≤ n'; omega, hu⟩, z, fun q hq => (oq q (by omega)).trans (h3 q hq), fun b e' hb => ⟨(h4 b e' hb).1, (h4 b e' hb).2.kept (oq b (by rw [h2]; exact hl b e' hb))⟩⟩
/-- 'throw new E("text")' out of a method without handlers -/
theorem g_throw (X : gX D cT p R s m args meth c cc nL "PlanText" fr lo S0) (hZ : gZ H0 s) (hex : c.exceptionTable.toList = []) (hE : ∀ q : Nat, q < H0.size → s.heap[q]? = H0[q]?) (hl : l.stackTraces = false) {cls text : String} {ik is ic : Nat}
    (hfit : Bundle.fit cls = true) (hk : Cond.classLink "PlanText" ik cls ∈ lw_good) (hini : Cond.initialized cls ∈ lw_good) (hstr : (is, text) ∈ gStr) (hat : ∀ w ∈ vx_atS "PlanText" ic cls gNames, w ∈ lw_good ∨ w ∈ gNest ++ (gDecl ++ gCast)) (hot : ∀ w ∈ vx_atS "PlanText" ic cls gNames, vx_ot w = true)
    (hsize : ls.size = nL) (d0 : decode cc pc = .ok (.new ik, 3)) (d3 : decode cc (pc + 3) = .ok (.dup, 1)) (d4 : decode cc (pc + 4) = .ok (.ldc is, 2)) (d6 : decode cc (pc + 6) = .ok (.invokespecial ic, 3)) (d9 : decode cc (pc + 9) = .ok (.athrow, 1))
    (hR : 5 < fr ∧ (rest.map fun v => v.category).sum + 82 ≤ lo) (hr : S.2.2.1 + 1 ≤ gC ∧ S.2.2.2 + 6 ≤ gU) :
    gV D cT H0 p l e R s m args below meth c (gQ D cT H0 below S0 (S.1, S.2.1 + 1, S.2.2.1 + 1, S.2.2.2 + 6) (.inl cls) s) S0 S (F0 m pc ls rest) := by
  obtain ⟨hx, hb', hml, hown, hts, hK, hlk, hRc, hRs, hRf, hRl⟩ := X
  intro H locs hA h2 h3 h4 T hT X
  obtain ⟨sa, hsa⟩ := hZ.2.2.2.1 _ hstr
  have hsz : s.heap.size ≤ H.size := by rw [← hT]; exact X.same.2.1
  have hS : va_S (fun q => H0.size ≤ q) s.heap H locs := ⟨hsz, fun q hq hn => (hA.2.2.1 q (Nat.not_le.mp hn)).trans (hE q (Nat.not_le.mp hn)).symm, h2⟩
  have hword : ∀ w, w ∈ lw_good ∨ w ∈ gNest ++ (gDecl ++ gCast) → w.before args s = true := fun w hw => by
    rcases hw with h | h
    · exact hts w h
    · refine va_Nw.use ?_ (hZ.2.1 w h)
      have hall : (gNest ++ (gDecl ++ gCast)).all Cond.onTables = true := by decide +kernel
      exact List.all_eq_true.mp hall w h
  have k := gx_throwS (Qc := fun _ _ _ _ => False) (XC := fun E _ t => E = cls ∧ t.heap.size = H.size + 1 ∧ ∀ q : Nat, q < H.size → t.heap[q]? = H[q]?) (free := fun q => H0.size ≤ q) (mc := S.2.2.1 + 1 - S0.2.2.1) (ms := S.2.2.2 + 6 - S0.2.2.2) (H := H) (locs := locs) (cells := S.2.2.1 - S0.2.2.1) (slots := S.2.2.2 - S0.2.2.2) (p := p) (e := e) (R := R) (m := m) (below := below) (meth := meth) (c := c) (ls := ls) (rest := rest) (names := gNames)
    hx hb' hl hown hfit (by decide +kernel) (hts _ hk) (hts _ hini) hsa (fun w hw => hword w (hat w hw))
    (fun w hw => by
      rcases List.mem_cons.mp hw with rfl | hw
      · rfl
      · rcases List.mem_cons.mp hw with rfl | hw
        · rfl
        · exact hot w hw)
    (hZ.1.1.kept (fun a ha _ => hE a ha)) (hZ.1.2.kept (fun a ha _ => hE a ha)) hS (hsize.trans hml.symm) d0 d3 d4 d6 d9 (by rw [hex]; exact fun _ h => nomatch h)
    (by rw [hRf]; exact hR.1) (by rw [hRl]; exact hR.2) (by rw [hRc]; omega) (by rw [hRs]; omega) hlk (fun t _ h6 h7 => ⟨rfl, h6, h7⟩) h2 (by omega) (by omega)
  obtain ⟨t, a1, o, b1, b2, b3⟩ := k T hT X
  refine ⟨t, a1, o, b1, b2, ?_⟩
  rcases b3 with ⟨h9, -⟩ | ⟨q, rfl, E, ce, L, ⟨e1, e2, e3⟩, hce, hcv, hcl, hW, hsm, hL⟩
  · exact h9.elim
  · subst e1
    refine ⟨q, ce, rfl, hce, hcv, hcl, hA.more hr (by rw [e2, hA.2.1]) (by omega) e3, by show S0.2.2.1 ≤ S.2.2.1 + 1; omega, by show S0.2.2.2 ≤ S.2.2.2 + 6; omega, hW, L, hsm, hL⟩
/-- the callee's premise, paid: it throws -/
theorem g_backX {y : MethodName} {bytes : ByteArray} {maxL : Nat} {ret : Option FieldType} {fr' lo' : Nat} {av : List Value} {E : String} (hM : gM D cT H0 l y (Cond.code y bytes maxL ret) fr' lo' av S S1 (.inl E))
    (hts : ∀ w ∈ lw_good, w.before args s = true) (hK : gK D cT s) (hZ : gZ H0 s) (hfr : fr' + 1 ≤ R.frames) (hlo : 8 + (maxL + 11) + lo' ≤ R.locals) (hcw : Cond.code y bytes maxL ret ∈ lw_good) (hini : Cond.initialized y.cls ∈ lw_good) :
    vx_Back l R p e below s args y 3 8 (fun A a => a = av.toArray ∧ gA D cT H0 S A.U.heap ∧ A.cells + (gC - S.2.2.1) ≤ R.cells ∧ A.slots + (gU - S.2.2.2) ≤ R.slots) (fun _ _ _ _ => False)
      (fun A _ q B => ∃ (L : List Loc) (ce : Cell), B.locs = A.locs ++ L ∧ (∀ q ∈ L, H0.size ≤ q.base) ∧ B.cells = A.cells + (S1.2.2.1 - S.2.2.1) ∧ B.slots = A.slots + (S1.2.2.2 - S.2.2.2) ∧ B.U.heap[q]? = some ce ∧ ce.vm = .none ∧ s.vm.findClass E = some ce.cls ∧ gA D cT H0 S1 B.U.heap ∧ S.2.2.1 ≤ S1.2.2.1 ∧ S.2.2.2 ≤ S1.2.2.2) := by
  intro m meth c A g ig mk a X hg hsize hdg hW hn hp
  have h1 : (headSpec (Cond.code y bytes maxL ret :: lw_good) (gRm fr' lo' S)).pre.before a A.U = true := atoms_intro fun w hw => g_word hts (by rcases List.mem_cons.mp hw with rfl | h; exact hcw; exact h) X.warmed
  have h2 : (Cond.code y bytes maxL ret).before a A.U = true := g_word hts hcw X.warmed
  have h3 : (Cond.initialized y.cls).before a A.U = true := g_word hts hini X.warmed
  have hPc : gP D cT H0 S av a (A.U.calling g mk a) := ⟨hp.1, hp.2.1, hK.moved X.warmed.alike, hZ.warm X.warmed⟩
  have h4 := hp.2.2.1
  have h5 := hp.2.2.2
  obtain ⟨U, Ls, c0, s0⟩ := A
  dsimp only [Pt.U, Pt.locs, Pt.cells, Pt.slots] at h1 h2 h3 h4 h5 X hn hPc ⊢
  obtain ⟨methY, cY, hmY, hcY, -, hlY, -, -, -, -⟩ := Cond.code_spec hn h2
  obtain ⟨kY, hkY, -⟩ := className_of_methodNamed hn
  have hinitY : kY.init = .initialized := Cond.initialized_spec (findClass_of_methodNamed hn) hkY h3
  have h : At U g.method c below := by rw [hg]; exact X.here
  have happ : (headSpec (Cond.code y bytes maxL ret :: lw_good) (gRm fr' lo' S)).appliesLoose y e.platform (U.calling g mk a) = true :=
    Spec.appliesLoose_calling (g := g) h hdg hn hkY hinitY
      (X.room_calling (g := g) (R' := gRm fr' lo' S) hsize hmY hcY hfr (by rw [hlY]; show _ + _ + lo' ≤ _; omega) h4 h5) h1
  obtain ⟨mid, hmid⟩ := h.above
  have hfr' : (U.setTop g).frames = (.java g :: mid) ++ below := by rw [State.frames_setTop' g h.top, hmid]; rfl
  obtain ⟨o, s₂, hsteps, -, hend, hq⟩ := Steps.callFree hM p X.admits X.cas X.clock (acts := []) hfr' happ hPc trivial
  have hq' : gO D cT H0 S S1 (.inl E) (U.calling g mk a) o s₂ := hq
  obtain ⟨q, ce, rfl, hce, hcv, hcl, hA1, h8, h9, hW₂, L, hsm, hL⟩ := hq'
  rw [State.frames_setTop' g h.top] at hend
  obtain ⟨g₀, hg0⟩ := Option.isSome_iff_exists.mp h.top
  obtain ⟨r, hr⟩ := State.topJava?_eq_some.mp hg0
  have hr' : (({ U with heap := s₂.heap, slotsUsed := s₂.slotsUsed } : State).setVm s₂.vm).frames = .java g₀ :: r := hr
  obtain ⟨e2, q2, q3, q4, q5, q6⟩ := id hsm
  have e3 : s₂ = ({ (U.calling g mk a).setFrames s₂.frames with heap := s₂.heap, slotsUsed := s₂.slotsUsed } : State).setVm s₂.vm := by
    have : s₂ = ({ s₂ with vm := (U.calling g mk a).vm } : State).setVm s₂.vm := rfl
    rw [e2] at this
    exact this
  have hf₂ : s₂.frames = .throwing q :: .java g :: U.frames.tail := hend
  have hW' : U.WarmedH s₂.vm := hW₂
  have hs₂ : s₂ = ((({ U with heap := s₂.heap, slotsUsed := s₂.slotsUsed } : State).setVm s₂.vm).setTop g).pushFrame (.throwing q) := by
    refine e3.trans ?_
    rw [hf₂, State.calling_eq h.top, State.setFrames_setFrames, State.pushFrame, State.frames_setTop _ hr', State.setTop_of_frames _ hr', State.setFrames_setFrames, hr]
    rfl
  have hsame : U.sameButNew ({ U with heap := s₂.heap, slotsUsed := s₂.slotsUsed } : State) L (S1.2.2.1 - S.2.2.1) (S1.2.2.2 - S.2.2.2) := by
    refine ⟨?_, q2, q3, q4, q5, q6⟩
    obtain ⟨t, ht, -⟩ := State.frames_cons hr
    show ({ U with heap := s₂.heap, slotsUsed := s₂.slotsUsed } : State) = { U.setFrames U.frames with heap := s₂.heap, slotsUsed := s₂.slotsUsed }
    rw [State.setFrames_self ht]
  subst hg
  refine Or.inr ⟨q, ⟨(({ U with heap := s₂.heap, slotsUsed := s₂.slotsUsed } : State).setVm s₂.vm), Ls ++ L, c0 + (S1.2.2.1 - S.2.2.1), s0 + (S1.2.2.2 - S.2.2.2)⟩,
    ⟨X.admits, X.cas, X.clock, X.frames, X.room, X.hears, X.method, X.code, (X.here.setHeapUsed s₂.heap s₂.slotsUsed).setVm hW'.alike, X.tail, State.WarmedH.trans X.warmed hW', X.limits, X.bytes, X.same.trans (hsame.setVm s.vm)⟩,
    ⟨L, ce, rfl, hL, rfl, rfl, hce, hcv, ?_, hA1, h8, h9⟩, ?_⟩
  · have h7 : U.vm.findClass E = some ce.cls := hcl
    rw [X.warmed.alike.findClass] at h7
    exact h7
  · show Steps p.tables e below _ (((({ U with heap := s₂.heap, slotsUsed := s₂.slotsUsed } : State).setVm s₂.vm).setTop g).pushFrame (.throwing q))
    rw [← hs₂]
    exact hsteps
/-- a static call whose callee throws; nothing here catches it -/
theorem g_outS (X : gX D cT p R s m args meth c cc nL own fr lo S0) (hZ : gZ H0 s) (hex : c.exceptionTable.toList = []) {y : MethodName} {bytes : ByteArray} {maxL : Nat} {ret : Option FieldType} {fr' lo' : Nat} {As : List Value} {E : String} {index : Nat}
    (hM : gM D cT H0 l y (Cond.code y bytes maxL ret) fr' lo' As S S1 (.inl E))
    (hcw : Cond.code y bytes maxL ret ∈ lw_good) (hini : Cond.initialized y.cls ∈ lw_good) (hlink : Cond.methodLink own index y ∈ lw_good) (hstat : Cond.static y ∈ lw_good)
    (hd : y.cls ≠ "java/lang/invoke/MethodHandle" ∧ y.cls ≠ "java/lang/invoke/VarHandle" ∧ (parseMethodDescriptor y.desc).map (fun d => d.parameters.length) = some As.length) (hR : fr' + 1 ≤ fr ∧ 8 + (maxL + 11) + lo' ≤ lo) (hsize : ls.size = nL) (hW : (rest.map fun v => v.category).sum ≤ 8) (hdg : decode cc pc = .ok (.invokestatic index, 3))
    {st0 : List Value} (hst : As.reverse ++ rest = st0) : gV D cT H0 p l e R s m args below meth c (gQ D cT H0 below S0 S1 (.inl E) s) S0 S (F0 m pc ls st0) := by
  obtain ⟨hx, hb', hml, hown, hts, hK, hlk, hRc, hRs, hRf, hRl⟩ := X
  subst hst
  intro H locs hA h2 h3 h4 T hT X
  rcases vx_callS X hx (bytes := bytes) (maxL := maxL) (ret := ret) hown (hts _ hlink) (hts _ hstat) (hts _ hini) (hts _ hcw) ⟨hd.1, hd.2.1⟩
    (g_backX hM hts hK hZ (by rw [hRf]; exact hR.1) (by rw [hRl]; exact hR.2) hcw hini) (g := F0 m pc ls (As.reverse ++ rest)) rfl (hsize.trans hml.symm) (argsL := As) (rest := rest)
    (fun sig h => by have := hd.2.2; rw [h] at this; exact (Option.some.inj this).symm) rfl (lv_room hW) (by rw [hb']; exact hdg)
    (fun vm₁ hW₁ => ⟨rfl, by show gA D cT H0 S T.heap; rw [hT]; exact hA, by show S.2.2.1 - S0.2.2.1 + (gC - S.2.2.1) ≤ R.cells; rw [hRc]; have := hA.1.2.1; omega, by show S.2.2.2 - S0.2.2.2 + (gU - S.2.2.2) ≤ R.slots; rw [hRs]; have := hA.1.2.2; omega⟩) with ⟨v, vm₁, B, -, -, h9, -⟩ | ⟨q, vm₁, ⟨U', l2, c2, s2⟩, hW₁, X', ⟨L, ce, e2, hL, e3, e4, hce, hcv, hcl, hA1, h5, h6⟩, st⟩
  · exact h9.elim
  · dsimp only [Pt.U, Pt.locs, Pt.cells, Pt.slots] at X' e2 e3 e4 hA1 st hce
    subst e2
    obtain ⟨st1, hrun, hend, hWe, hsm⟩ := X'.leaveThrown q (g := F0 m pc ls rest) rfl rfl rfl (by rw [hex]; exact fun _ h => nomatch h) hlk
    refine ⟨_, st.trans st1, .threw q, hrun, hend, q, ce, rfl, hce, hcv, hcl, hA1, by show S0.2.2.1 ≤ S1.2.2.1; omega, by show S0.2.2.2 ≤ S1.2.2.2; omega, hWe, locs ++ L, ?_, fun z hz => ?_⟩
    · rw [e3, e4] at hsm
      rw [show S1.2.2.1 - S0.2.2.1 = S.2.2.1 - S0.2.2.1 + (S1.2.2.1 - S.2.2.1) by omega, show S1.2.2.2 - S0.2.2.2 = S.2.2.2 - S0.2.2.2 + (S1.2.2.2 - S.2.2.2) by omega]
      exact hsm
    · rcases List.mem_append.mp hz with h | h
      · exact h2 z h
      · exact hL z h
/-- a virtual call whose callee throws; a row of this method's table catches it -/
theorem g_catchV (X : gX D cT p R s m args meth c cc nL own fr lo S0) (hZ : gZ H0 s) {hh : List (Nat × Nat × Nat × Nat)} (hex : c.exceptionTable.toList = tableOf hh) {y : MethodName} {bytes : ByteArray} {maxL : Nat} {ret : Option FieldType} {fr' lo' : Nat} {As : List Value} {E : String} {b ci index : Nat} {fs : List Value} {Tt : u_T} {N : Nat} {ty : Nat → FieldType}
    (hM : gM D cT H0 l y (Cond.code y bytes maxL ret) fr' lo' (va_rf (some b) :: As) S S1 (.inl E)) (hC : gCl ci y.cls Tt N ty) (hb : S.1 b = some (.inr (ci, fs)))
    (hcw : Cond.code y bytes maxL ret ∈ lw_good) (hini : Cond.initialized y.cls ∈ lw_good) (hlink : Cond.methodLink own index y ∈ lw_good) (hinst : Cond.instanceMethod y ∈ lw_good) (hsel : Cond.selects y.cls y y ∈ lw_good)
    (hd : y.cls ≠ "java/lang/invoke/MethodHandle" ∧ y.cls ≠ "java/lang/invoke/VarHandle" ∧ (parseMethodDescriptor y.desc).map (fun d => d.parameters.length) = some As.length) (hR : fr' + 1 ≤ fr ∧ 8 + (maxL + 11) + lo' ≤ lo) (hsize : ls.size = nL) (hW : (rest.map fun v => v.category).sum ≤ 8) (hdg : decode cc pc = .ok (.invokevirtual index, 3))
    (pre : List ExceptionTableEntry) (x : ExceptionTableEntry) (suf : List ExceptionTableEntry) (hsplit : tableOf hh = pre ++ x :: suf) (hpass : ∀ z ∈ pre, z.catchType ≠ 0 ∧ ∃ nm : String, Cond.classLink own z.catchType nm ∈ lw_good ∧ (E, nm) ∈ gNot) (hcov : covers x pc = true) (h0 : x.catchType ≠ 0)
    (hcl0 : Cond.classLink own x.catchType E ∈ lw_good) (hcast : Cond.castable E E ∈ gNest ++ (gDecl ++ gCast))
    {st0 : List Value} (hst : As.reverse ++ va_rf (some b) :: rest = st0)
    (kk : ∀ q : Nat, gV D cT H0 p l e R s m args below meth c Q S0 S1 (F0 m x.handlerPc ls [va_rf (some q)])) : gV D cT H0 p l e R s m args below meth c Q S0 S (F0 m pc ls st0) := by
  obtain ⟨hx, hb', hml, hown, hts, hK, hlk, hRc, hRs, hRf, hRl⟩ := X
  subst hst
  intro H locs hA h2 h3 h4 T hT X
  obtain ⟨-, r, hr1, cellB, q1, q2, q3, -⟩ := hA.2.2.2 b _ hb
  have hfc : s.vm.findClass y.cls = some (D.1 ci) := (hK.1.1 ci (y.cls, Tt, N) hC.1).2.1
  rcases vx_callV X hx (C := y.cls) (bytes := bytes) (maxL := maxL) (ret := ret) hown (hts _ hlink) (hts _ hinst) (hts _ hsel) (hts _ hcw) ⟨hd.1, hd.2.1⟩
    (g_backX hM hts hK hZ (by rw [hRf]; exact hR.1) (by rw [hRl]; exact hR.2) hcw hini) (by rw [hT]; exact q1) (by rw [q3]; rfl) (by rw [q2]; exact hfc) (g := F0 m pc ls (As.reverse ++ va_rf (some b) :: rest)) rfl (hsize.trans hml.symm) (argsL := As) (rest := rest)
    (fun sig h => by have := hd.2.2; rw [h] at this; exact (Option.some.inj this).symm) rfl (lv_room hW) (by rw [hb']; exact hdg)
    (fun vm₁ hW₁ => ⟨rfl, by show gA D cT H0 S T.heap; rw [hT]; exact hA, by show S.2.2.1 - S0.2.2.1 + (gC - S.2.2.1) ≤ R.cells; rw [hRc]; have := hA.1.2.1; omega, by show S.2.2.2 - S0.2.2.2 + (gU - S.2.2.2) ≤ R.slots; rw [hRs]; have := hA.1.2.2; omega⟩) with ⟨v, vm₁, B, -, -, h9, -⟩ | ⟨q, vm₁, ⟨U', l2, c2, s2⟩, hW₁, X', ⟨L, ce, e2, hL, e3, e4, hce, hcv, hcl, hA1, h5, h6⟩, st⟩
  · exact h9.elim
  · dsimp only [Pt.U, Pt.locs, Pt.cells, Pt.slots] at X' e2 e3 e4 hA1 st hce
    subst e2
    have e5 : c2 = S1.2.2.1 - S0.2.2.1 := by omega
    have e6 : s2 = S1.2.2.2 - S0.2.2.2 := by omega
    subst e5; subst e6
    have kw := kk q U'.heap (locs ++ L) hA1 (fun z hz => by
      rcases List.mem_append.mp hz with h | h
      · exact h2 z h
      · exact hL z h) (by show S0.2.2.1 ≤ S1.2.2.1; omega) (by show S0.2.2.2 ≤ S1.2.2.2; omega)
    have hcst : (Cond.castable E E).before args s = true := va_Nw.use rfl (hZ.2.1 _ hcast)
    obtain ⟨t, a1, b1⟩ := vx_catch (E := E) (name := E) (ce := ce) (q := q) (pc := pc) (ls := ls) (rest := rest) hown pre x suf (hex.trans hsplit) (fun z hz => Or.inr ⟨(hpass z hz).1, by
      obtain ⟨nm, h7, h8⟩ := (hpass z hz).2
      exact ⟨nm, hts _ h7, hZ.2.2.2.2 _ h8⟩⟩) hcov h0 (hts _ hcl0) hcst hce hcv hcl kw U' rfl X'
    exact ⟨t, st.trans a1, b1⟩
end GT
end
section
/-! WHAT A METHOD DOES, STEP BY STEP, OVER THE ABSTRACT HEAP: none where the machine would throw by itself or the room is full -/
def gF : Nat := 1000
def gI (S : gS) (a ci k : Nat) : Option Int32 := match S.1 a with
  | some (.inr (c, fs)) => if c = ci then (match fs[k]? with | some (.int v) => some v | _ => none) else none
  | _ => none
def gRf (S : gS) (a ci k : Nat) : Option (Option Nat) := match S.1 a with
  | some (.inr (c, fs)) => if c = ci then (match fs[k]? with | some .null => some none | some (.ref q) => some (some q) | _ => none) else none
  | _ => none
def gPut (S : gS) (a ci k : Nat) (v : Value) : Option gS := match S.1 a with
  | some (.inr (c, fs)) => if c = ci ∧ k < fs.length then some (gup S.1 a (.inr (ci, fs.set k v)), S.2) else none
  | _ => none
def gAI (S : gS) (a t : Nat) (i : Int32) : Option Int32 := match S.1 a with
  | some (.inl (t', n, .inl f)) => if t' = t ∧ ¬ (i < 0 ∨ n ≤ i.toNatClampNeg) then some (f i.toNatClampNeg) else none
  | _ => none
def gAL (S : gS) (a t : Nat) (i : Int32) : Option Int64 := match S.1 a with
  | some (.inl (t', n, .inr (.inl f))) => if t' = t ∧ ¬ (i < 0 ∨ n ≤ i.toNatClampNeg) then some (f i.toNatClampNeg) else none
  | _ => none
def gAR (S : gS) (a t : Nat) (i : Int32) : Option (Option Nat) := match S.1 a with
  | some (.inl (t', n, .inr (.inr (.inr (.inr f))))) => if t' = t ∧ ¬ (i < 0 ∨ n ≤ i.toNatClampNeg) then some (f i.toNatClampNeg) else none
  | _ => none
def gSI (S : gS) (a t : Nat) (i x : Int32) : Option gS := match S.1 a with
  | some (.inl (t', n, .inl f)) => if t' = t ∧ ¬ (i < 0 ∨ n ≤ i.toNatClampNeg) then some (gup S.1 a (.inl (t, n, .inl (upd f i.toNatClampNeg x))), S.2) else none
  | _ => none
def gSL (S : gS) (a t : Nat) (i : Int32) (x : Int64) : Option gS := match S.1 a with
  | some (.inl (t', n, .inr (.inl f))) => if t' = t ∧ ¬ (i < 0 ∨ n ≤ i.toNatClampNeg) then some (gup S.1 a (.inl (t, n, .inr (.inl (vp_updL f i.toNatClampNeg x)))), S.2) else none
  | _ => none
/-- a reference to an object of the class ci is stored into an array of such -/
def gSR (S : gS) (a t : Nat) (i : Int32) (v ci : Nat) : Option gS := match S.1 a, S.1 v with
  | some (.inl (t', n, .inr (.inr (.inr (.inr f))))), some (.inr (c, _)) => if t' = t ∧ c = ci ∧ ¬ (i < 0 ∨ n ≤ i.toNatClampNeg) then some (gup S.1 a (.inl (t, n, .inr (.inr (.inr (.inr (va_up f i.toNatClampNeg (some v))))))), S.2) else none
  | _, _ => none
def gLen (S : gS) (a t : Nat) : Option Int32 := match S.1 a with
  | some (.inl (t', x)) => if t' = t then some (nI x.1) else none
  | _ => none
/-- an object of the class ci -/
def gOb (S : gS) (a ci : Nat) : Option (List Value) := match S.1 a with
  | some (.inr (c, fs)) => if c = ci then some fs else none
  | _ => none
def gNw (S : gS) (ci : Nat) (fs : List Value) : Option gS := if S.2.2.1 + 1 ≤ gC ∧ S.2.2.2 + fs.length ≤ gU then some (gup S.1 S.2.1 (.inr (ci, fs)), S.2.1 + 1, S.2.2.1 + 1, S.2.2.2 + fs.length) else none
def gNA (S : gS) (t : Nat) (n : Int32) (z : (Nat → Int32) ⊕ (Nat → Int64) ⊕ (Nat → UInt32) ⊕ (Nat → UInt64) ⊕ (Nat → Option Nat)) : Option gS := if ¬ n < 0 ∧ n.toNatClampNeg ≤ 10000 ∧ S.2.2.1 + 1 ≤ gC ∧ S.2.2.2 + n.toNatClampNeg ≤ gU then some (gup S.1 S.2.1 (.inl (t, n.toNatClampNeg, z)), S.2.1 + 1, S.2.2.1 + 1, S.2.2.2 + n.toNatClampNeg) else none
def gThr (S : gS) : Option gS := if S.2.2.1 + 1 ≤ gC ∧ S.2.2.2 + 6 ≤ gU then some (S.1, S.2.1 + 1, S.2.2.1 + 1, S.2.2.2 + 6) else none
/-- a truth value -/
def gZo (x : Int32) : Option Int32 := if x = 0 ∨ x = 1 then some x else none
def gNul {α : Type} (r : Option Nat) (A : Option α) (B : Nat → Option α) : Option α := match r with
  | none => A
  | some a => B a
def gB2 {α β : Type} (x : Option (α × gS)) (f : α → gS → Option β) : Option β := match x with
  | none => none
  | some (a, S) => f a S
theorem gb2 {α β : Type} {x : Option (α × gS)} {f : α → gS → Option β} {b : β} (h : gB2 x f = some b) : ∃ a S, x = some (a, S) ∧ f a S = some b := by
  unfold gB2 at h
  split at h
  · cases h
  · next a S => exact ⟨a, S, rfl, h⟩
/-- a callee that may throw -/
def gTry {α β : Type} (x : Option ((String ⊕ α) × gS)) (f : α → gS → Option ((String ⊕ β) × gS)) : Option ((String ⊕ β) × gS) := match x with
  | none => none
  | some (.inl E, S) => some (.inl E, S)
  | some (.inr a, S) => f a S
def gRi : String ⊕ Int32 → String ⊕ Option Value
  | .inl E => .inl E
  | .inr v => .inr (some (.int v))
def gRv : String ⊕ Unit → String ⊕ Option Value
  | .inl E => .inl E
  | .inr _ => .inr none
theorem gI_spec {S : gS} {a ci k : Nat} {v : Int32} (h : gI S a ci k = some v) : ∃ fs, S.1 a = some (.inr (ci, fs)) ∧ fs[k]? = some (.int v) := by
  unfold gI at h
  split at h
  · next c fs e =>
    split at h
    · next hc =>
      subst hc
      split at h
      · next w hw => cases h; exact ⟨fs, e, hw⟩
      · cases h
    · cases h
  · cases h
theorem gRf_spec {S : gS} {a ci k : Nat} {r : Option Nat} (h : gRf S a ci k = some r) : ∃ fs, S.1 a = some (.inr (ci, fs)) ∧ fs[k]? = some (va_rf r) := by
  unfold gRf at h
  split at h
  · next c fs e =>
    split at h
    · next hc =>
      subst hc
      split at h
      · next hw => cases h; exact ⟨fs, e, hw⟩
      · next q hw => cases h; exact ⟨fs, e, hw⟩
      · cases h
    · cases h
  · cases h
theorem gPut_spec {S S1 : gS} {a ci k : Nat} {v : Value} (h : gPut S a ci k v = some S1) : ∃ fs, S.1 a = some (.inr (ci, fs)) ∧ k < fs.length ∧ S1 = (gup S.1 a (.inr (ci, fs.set k v)), S.2) := by
  unfold gPut at h
  split at h
  · next c fs e =>
    split at h
    · next hc => obtain ⟨rfl, hk⟩ := hc; cases h; exact ⟨fs, e, hk, rfl⟩
    · cases h
  · cases h
theorem gAI_spec {S : gS} {a t : Nat} {i v : Int32} (h : gAI S a t i = some v) : ∃ n f, S.1 a = some (.inl (t, n, .inl f)) ∧ ¬ (i < 0 ∨ n ≤ i.toNatClampNeg) ∧ v = f i.toNatClampNeg := by
  unfold gAI at h
  split at h
  · next t' n f e =>
    split at h
    · next hc => obtain ⟨rfl, hk⟩ := hc; cases h; exact ⟨n, f, e, hk, rfl⟩
    · cases h
  · cases h
theorem gAL_spec {S : gS} {a t : Nat} {i : Int32} {v : Int64} (h : gAL S a t i = some v) : ∃ n f, S.1 a = some (.inl (t, n, .inr (.inl f))) ∧ ¬ (i < 0 ∨ n ≤ i.toNatClampNeg) ∧ v = f i.toNatClampNeg := by
  unfold gAL at h
  split at h
  · next t' n f e =>
    split at h
    · next hc => obtain ⟨rfl, hk⟩ := hc; cases h; exact ⟨n, f, e, hk, rfl⟩
    · cases h
  · cases h
theorem gAR_spec {S : gS} {a t : Nat} {i : Int32} {v : Option Nat} (h : gAR S a t i = some v) : ∃ n f, S.1 a = some (.inl (t, n, .inr (.inr (.inr (.inr f))))) ∧ ¬ (i < 0 ∨ n ≤ i.toNatClampNeg) ∧ v = f i.toNatClampNeg := by
  unfold gAR at h
  split at h
  · next t' n f e =>
    split at h
    · next hc => obtain ⟨rfl, hk⟩ := hc; cases h; exact ⟨n, f, e, hk, rfl⟩
    · cases h
  · cases h
theorem gSI_spec {S S1 : gS} {a t : Nat} {i x : Int32} (h : gSI S a t i x = some S1) : ∃ n f, S.1 a = some (.inl (t, n, .inl f)) ∧ ¬ (i < 0 ∨ n ≤ i.toNatClampNeg) ∧ S1 = (gup S.1 a (.inl (t, n, .inl (upd f i.toNatClampNeg x))), S.2) := by
  unfold gSI at h
  split at h
  · next t' n f e =>
    split at h
    · next hc => obtain ⟨rfl, hk⟩ := hc; cases h; exact ⟨n, f, e, hk, rfl⟩
    · cases h
  · cases h
theorem gSL_spec {S S1 : gS} {a t : Nat} {i : Int32} {x : Int64} (h : gSL S a t i x = some S1) : ∃ n f, S.1 a = some (.inl (t, n, .inr (.inl f))) ∧ ¬ (i < 0 ∨ n ≤ i.toNatClampNeg) ∧ S1 = (gup S.1 a (.inl (t, n, .inr (.inl (vp_updL f i.toNatClampNeg x)))), S.2) := by
  unfold gSL at h
  split at h
  · next t' n f e =>
    split at h
    · next hc => obtain ⟨rfl, hk⟩ := hc; cases h; exact ⟨n, f, e, hk, rfl⟩
    · cases h
  · cases h
theorem gSR_spec {S S1 : gS} {a t v ci : Nat} {i : Int32} (h : gSR S a t i v ci = some S1) : ∃ n f vs, S.1 a = some (.inl (t, n, .inr (.inr (.inr (.inr f))))) ∧ S.1 v = some (.inr (ci, vs)) ∧ ¬ (i < 0 ∨ n ≤ i.toNatClampNeg) ∧ S1 = (gup S.1 a (.inl (t, n, .inr (.inr (.inr (.inr (va_up f i.toNatClampNeg (some v))))))), S.2) := by
  unfold gSR at h
  split at h
  · next t' n f c vs e e2 =>
    split at h
    · next hc => obtain ⟨rfl, rfl, hk⟩ := hc; cases h; exact ⟨n, f, vs, e, e2, hk, rfl⟩
    · cases h
  · cases h
theorem gLen_spec {S : gS} {a t : Nat} {v : Int32} (h : gLen S a t = some v) : ∃ x, S.1 a = some (.inl (t, x)) ∧ v = nI x.1 := by
  unfold gLen at h
  split at h
  · next t' x e =>
    split at h
    · next hc => subst hc; cases h; exact ⟨x, e, rfl⟩
    · cases h
  · cases h
theorem gOb_spec {S : gS} {a ci : Nat} {fs : List Value} (h : gOb S a ci = some fs) : S.1 a = some (.inr (ci, fs)) := by
  unfold gOb at h
  split at h
  · next c fs' e =>
    split at h
    · next hc => subst hc; cases h; exact e
    · cases h
  · cases h
theorem gNw_spec {S S1 : gS} {ci : Nat} {fs : List Value} (h : gNw S ci fs = some S1) : (S.2.2.1 + 1 ≤ gC ∧ S.2.2.2 + fs.length ≤ gU) ∧ S1 = (gup S.1 S.2.1 (.inr (ci, fs)), S.2.1 + 1, S.2.2.1 + 1, S.2.2.2 + fs.length) := by
  unfold gNw at h
  split at h
  · next hc => cases h; exact ⟨hc, rfl⟩
  · cases h
theorem gNA_spec {S S1 : gS} {t : Nat} {n : Int32} {z : (Nat → Int32) ⊕ (Nat → Int64) ⊕ (Nat → UInt32) ⊕ (Nat → UInt64) ⊕ (Nat → Option Nat)} (h : gNA S t n z = some S1) : (¬ n < 0 ∧ n.toNatClampNeg ≤ 10000 ∧ S.2.2.1 + 1 ≤ gC ∧ S.2.2.2 + n.toNatClampNeg ≤ gU) ∧ S1 = (gup S.1 S.2.1 (.inl (t, n.toNatClampNeg, z)), S.2.1 + 1, S.2.2.1 + 1, S.2.2.2 + n.toNatClampNeg) := by
  unfold gNA at h
  split at h
  · next hc => cases h; exact ⟨hc, rfl⟩
  · cases h
theorem gThr_spec {S S1 : gS} (h : gThr S = some S1) : (S.2.2.1 + 1 ≤ gC ∧ S.2.2.2 + 6 ≤ gU) ∧ S1 = (S.1, S.2.1 + 1, S.2.2.1 + 1, S.2.2.2 + 6) := by
  unfold gThr at h
  split at h
  · next hc => cases h; exact ⟨hc, rfl⟩
  · cases h
theorem gZo_spec {x y : Int32} (h : gZo x = some y) : y = x ∧ narrow .boolean (.int x) = .int x ∧ fits .boolean (.int x) = true := by
  unfold gZo at h
  split at h
  · next hc =>
    cases h
    rcases hc with rfl | rfl
    · exact ⟨rfl, by decide +kernel, by decide +kernel⟩
    · exact ⟨rfl, by decide +kernel, by decide +kernel⟩
  · cases h
theorem gb {α β : Type} {x : Option α} {f : α → Option β} {b : β} (h : x.bind f = some b) : ∃ a, x = some a ∧ f a = some b := Option.bind_eq_some_iff.mp h
theorem gip {α : Type} {P : Prop} {d : Decidable P} {A B x : α} (hp : P) (h : ite P A B = x) : A = x := by rw [if_pos hp] at h; exact h
theorem gin {α : Type} {P : Prop} {d : Decidable P} {A B x : α} (hp : ¬ P) (h : ite P A B = x) : B = x := by rw [if_neg hp] at h; exact h
theorem gN0 {α : Type} {A : Option α} {B : Nat → Option α} {x : Option α} (h : gNul none A B = x) : A = x := h
theorem gN1 {α : Type} {a : Nat} {A : Option α} {B : Nat → Option α} {x : Option α} (h : gNul (some a) A B = x) : B a = x := h
theorem gpi {α β : Type} {a c : α} {b d : β} (h : some (a, b) = some (c, d)) : a = c ∧ b = d := by cases h; exact ⟨rfl, rfl⟩
theorem gsi {α : Type} {a c : α} (h : some a = some c) : a = c := Option.some.inj h
theorem gty {α β : Type} {x : Option ((String ⊕ α) × gS)} {f : α → gS → Option ((String ⊕ β) × gS)} {res : String ⊕ β} {S' : gS} (h : gTry x f = some (res, S')) : (∃ E, x = some (.inl E, S') ∧ res = .inl E) ∨ ∃ a S1, x = some (.inr a, S1) ∧ f a S1 = some (res, S') := by
  unfold gTry at h
  split at h
  · cases h
  · next E S => cases h; exact Or.inl ⟨E, rfl, rfl⟩
  · next a S => exact Or.inr ⟨a, S, rfl, h⟩
theorem g_cat {r : Option Nat} : (va_rf r).category = 1 := by cases r <;> rfl
theorem g_nar {r : Option Nat} {C : String} : narrow (.object C) (va_rf r) = va_rf r := by cases r <;> rfl
theorem g_narA {r : Option Nat} {t : FieldType} : narrow (.array t) (va_rf r) = va_rf r := by cases r <;> rfl
theorem g_fit {r : Option Nat} {C : String} : fits (.object C) (va_rf r) = true := by cases r <;> rfl
theorem g_fitA {r : Option Nat} {t : FieldType} : fits (.array t) (va_rf r) = true := by cases r <;> rfl
/-- what a walk knows, all of it -/
def gY (D : va_G) (cT : Nat → ClassId) (H0 : Heap) (p : Program) (s : State) (m : MethodId) (args : Array Value) (meth : Method) (c : Code) (cc : ByteArray) (nL : Nat) (own : String) (fr lo : Nat) (S0 : gS) (ret : Option FieldType) : Prop :=
  gX D cT p (gRm fr lo S0) s m args meth c cc nL own fr lo S0 ∧ gZ H0 s ∧ c.exceptionTable.toList = [] ∧ meth.sig.returnType = ret ∧ ∀ q : Nat, q < H0.size → s.heap[q]? = H0[q]?
section GR
variable {D : va_G} {cT : Nat → ClassId} {H0 : Heap} {l : Launch} {p : Program} {e : Env} {R : Room} {s : State} {m : MethodId} {args : Array Value} {below : List Frame} {meth : Method} {c : Code} {Q : State → Prop} {S0 S S1 : gS}
variable {cc : ByteArray} {nL : Nat} {own : String} {fr lo : Nat} {pc : Nat} {ls : Array Slot} {rest : List Value} {a : Nat}
theorem r_getI (X : gX D cT p R s m args meth c cc nL own fr lo S0) {ci : Nat} {C : String} {T : u_T} {N : Nat} {ty : Nat → FieldType} (hC : gCl ci C T N ty) {index k : Nat} {v : Int32} (hv : gI S a ci k = some v) (hk : k < N) (hlink : Cond.fieldLink own index (T k).1 (T k).2.1 (T k).2.2.1 ∈ lw_good) (hdg : decode cc pc = .ok (.getfield index, 3))
    (kk : gV D cT H0 p l e R s m args below meth c Q S0 S (F0 m (pc + 3) ls (.int v :: rest))) : gV D cT H0 p l e R s m args below meth c Q S0 S (F0 m pc ls (va_rf (some a) :: rest)) := by
  obtain ⟨fs, h1, h2⟩ := gI_spec hv
  exact g_get X hC h1 h2 hk hlink hdg kk
theorem r_getR (X : gX D cT p R s m args meth c cc nL own fr lo S0) {ci : Nat} {C : String} {T : u_T} {N : Nat} {ty : Nat → FieldType} (hC : gCl ci C T N ty) {index k : Nat} {v : Option Nat} (hv : gRf S a ci k = some v) (hk : k < N) (hlink : Cond.fieldLink own index (T k).1 (T k).2.1 (T k).2.2.1 ∈ lw_good) (hdg : decode cc pc = .ok (.getfield index, 3))
    (kk : gV D cT H0 p l e R s m args below meth c Q S0 S (F0 m (pc + 3) ls (va_rf v :: rest))) : gV D cT H0 p l e R s m args below meth c Q S0 S (F0 m pc ls (va_rf (some a) :: rest)) := by
  obtain ⟨fs, h1, h2⟩ := gRf_spec hv
  exact g_get X hC h1 h2 hk hlink hdg kk
theorem r_put (X : gX D cT p R s m args meth c cc nL own fr lo S0) {ci : Nat} {C : String} {T : u_T} {N : Nat} {ty : Nat → FieldType} (hC : gCl ci C T N ty) {index k : Nat} {v : Value} (hv : gPut S a ci k v = some S1) (hk : k < N) (hlink : Cond.fieldLink own index (T k).1 (T k).2.1 (T k).2.2.1 ∈ lw_good) (hfin : (T k).2.2.2 = false) (hn : narrow (ty k) v = v) (hfit : fits (ty k) v = true) (hdg : decode cc pc = .ok (.putfield index, 3))
    (kk : gV D cT H0 p l e R s m args below meth c Q S0 S1 (F0 m (pc + 3) ls rest)) : gV D cT H0 p l e R s m args below meth c Q S0 S (F0 m pc ls (v :: va_rf (some a) :: rest)) := by
  obtain ⟨fs, h1, h2, rfl⟩ := gPut_spec hv
  exact g_put X hC h1 h2 hk hlink hfin hn hfit hdg kk
theorem r_putF (X : gX D cT p R s m args meth c cc nL own fr lo S0) {ci : Nat} {C : String} {T : u_T} {N : Nat} {ty : Nat → FieldType} (hC : gCl ci C T N ty) {index k : Nat} {v : Value} (hv : gPut S a ci k v = some S1) (hk : k < N) (hlink : Cond.fieldLink own index (T k).1 (T k).2.1 (T k).2.2.1 ∈ lw_good) (hfin : (T k).2.2.2 = true) (hin2 : meth.name = "<init>") (hdecl : (T k).1 = own) (hn : narrow (ty k) v = v) (hfit : fits (ty k) v = true) (hdg : decode cc pc = .ok (.putfield index, 3))
    (kk : gV D cT H0 p l e R s m args below meth c Q S0 S1 (F0 m (pc + 3) ls rest)) : gV D cT H0 p l e R s m args below meth c Q S0 S (F0 m pc ls (v :: va_rf (some a) :: rest)) := by
  obtain ⟨fs, h1, h2, rfl⟩ := gPut_spec hv
  exact g_putF X hC h1 h2 hk hlink hfin hin2 hdecl hn hfit hdg kk
theorem r_iald (X : gX D cT p R s m args meth c cc nL own fr lo S0) {t : Nat} (ht : gKinds[t]? = some .int) {i v : Int32} (hv : gAI S a t i = some v) (hdg : decode cc pc = .ok (.iaload, 1))
    (kk : gV D cT H0 p l e R s m args below meth c Q S0 S (F0 m (pc + 1) ls (.int v :: rest))) : gV D cT H0 p l e R s m args below meth c Q S0 S (F0 m pc ls (.int i :: va_rf (some a) :: rest)) := by
  obtain ⟨n, f, h1, h2, rfl⟩ := gAI_spec hv
  exact g_iald X ht h1 h2 hdg kk
theorem r_bald (X : gX D cT p R s m args meth c cc nL own fr lo S0) {t : Nat} (ht : gKinds[t]? = some .byte) {i v : Int32} (hv : gAI S a t i = some v) (hdg : decode cc pc = .ok (.baload, 1))
    (kk : gV D cT H0 p l e R s m args below meth c Q S0 S (F0 m (pc + 1) ls (.int v :: rest))) : gV D cT H0 p l e R s m args below meth c Q S0 S (F0 m pc ls (.int i :: va_rf (some a) :: rest)) := by
  obtain ⟨n, f, h1, h2, rfl⟩ := gAI_spec hv
  exact g_bald X ht h1 h2 hdg kk
theorem r_zald (X : gX D cT p R s m args meth c cc nL own fr lo S0) {t : Nat} (ht : gKinds[t]? = some .boolean) {i v : Int32} (hv : gAI S a t i = some v) (hdg : decode cc pc = .ok (.baload, 1))
    (kk : gV D cT H0 p l e R s m args below meth c Q S0 S (F0 m (pc + 1) ls (.int v :: rest))) : gV D cT H0 p l e R s m args below meth c Q S0 S (F0 m pc ls (.int i :: va_rf (some a) :: rest)) := by
  obtain ⟨n, f, h1, h2, rfl⟩ := gAI_spec hv
  exact g_zald X ht h1 h2 hdg kk
theorem r_lald (X : gX D cT p R s m args meth c cc nL own fr lo S0) {t : Nat} (ht : gKinds[t]? = some .long) {i : Int32} {v : Int64} (hv : gAL S a t i = some v) (hdg : decode cc pc = .ok (.laload, 1))
    (kk : gV D cT H0 p l e R s m args below meth c Q S0 S (F0 m (pc + 1) ls (.long v :: rest))) : gV D cT H0 p l e R s m args below meth c Q S0 S (F0 m pc ls (.int i :: va_rf (some a) :: rest)) := by
  obtain ⟨n, f, h1, h2, rfl⟩ := gAL_spec hv
  exact g_lald X ht h1 h2 hdg kk
theorem r_aald (X : gX D cT p R s m args meth c cc nL own fr lo S0) {t : Nat} {C : String} (ht : gKinds[t]? = some (.object C)) {i : Int32} {v : Option Nat} (hv : gAR S a t i = some v) (hdg : decode cc pc = .ok (.aaload, 1))
    (kk : gV D cT H0 p l e R s m args below meth c Q S0 S (F0 m (pc + 1) ls (va_rf v :: rest))) : gV D cT H0 p l e R s m args below meth c Q S0 S (F0 m pc ls (.int i :: va_rf (some a) :: rest)) := by
  obtain ⟨n, f, h1, h2, rfl⟩ := gAR_spec hv
  exact g_aald X ht h1 h2 hdg kk
theorem r_alen (X : gX D cT p R s m args meth c cc nL own fr lo S0) {t : Nat} {ty : FieldType} (ht : gKinds[t]? = some ty) {v : Int32} (hv : gLen S a t = some v) (hdg : decode cc pc = .ok (.arraylength, 1))
    (kk : gV D cT H0 p l e R s m args below meth c Q S0 S (F0 m (pc + 1) ls (.int v :: rest))) : gV D cT H0 p l e R s m args below meth c Q S0 S (F0 m pc ls (va_rf (some a) :: rest)) := by
  obtain ⟨x, h1, rfl⟩ := gLen_spec hv
  exact g_alen X ht h1 hdg kk
theorem r_iast (X : gX D cT p R s m args meth c cc nL own fr lo S0) {t : Nat} (ht : gKinds[t]? = some .int) {i x : Int32} (hv : gSI S a t i x = some S1) (hdg : decode cc pc = .ok (.iastore, 1))
    (kk : gV D cT H0 p l e R s m args below meth c Q S0 S1 (F0 m (pc + 1) ls rest)) : gV D cT H0 p l e R s m args below meth c Q S0 S (F0 m pc ls (.int x :: .int i :: va_rf (some a) :: rest)) := by
  obtain ⟨n, f, h1, h2, rfl⟩ := gSI_spec hv
  exact g_iast X ht h1 h2 hdg kk
theorem r_bast (X : gX D cT p R s m args meth c cc nL own fr lo S0) {t : Nat} (ht : gKinds[t]? = some .byte) {i x : Int32} (hv : gSI S a t i x.toInt8.toInt32 = some S1) (hdg : decode cc pc = .ok (.bastore, 1))
    (kk : gV D cT H0 p l e R s m args below meth c Q S0 S1 (F0 m (pc + 1) ls rest)) : gV D cT H0 p l e R s m args below meth c Q S0 S (F0 m pc ls (.int x :: .int i :: va_rf (some a) :: rest)) := by
  obtain ⟨n, f, h1, h2, rfl⟩ := gSI_spec hv
  exact g_bast X ht h1 h2 hdg kk
theorem r_zast (X : gX D cT p R s m args meth c cc nL own fr lo S0) {t : Nat} (ht : gKinds[t]? = some .boolean) {i x y : Int32} (hz : gZo x = some y) (hv : gSI S a t i y = some S1) (hdg : decode cc pc = .ok (.bastore, 1))
    (kk : gV D cT H0 p l e R s m args below meth c Q S0 S1 (F0 m (pc + 1) ls rest)) : gV D cT H0 p l e R s m args below meth c Q S0 S (F0 m pc ls (.int x :: .int i :: va_rf (some a) :: rest)) := by
  obtain ⟨rfl, hz2, -⟩ := gZo_spec hz
  obtain ⟨n, f, ha, hin, rfl⟩ := gSI_spec hv
  obtain ⟨hx, hb, hml, hown, hts, hK, -⟩ := X
  intro H locs hA h2 h3 h4
  obtain ⟨hzz, hP⟩ := hA.2.2.2 a _ ha
  refine W.zast hx hb hP ((hK.2 t _ ht).1 n (fun j => .int (f j))) (fun q => by cases q) (g_in hin) rfl rfl hdg fun H1 e z oq => ?_
  refine kk H1 _ (hA.set ha ?_ z oq) (g_lc h2 hzz) h3 h4
  show H1[a]? = some (vp_cell _ _)
  rw [e, hz2, vp_cell_i, vp_cell_i, arrV_store]
  congr 2
  funext q
  by_cases hq : q = i.toNatClampNeg
  · subst hq; simp [updV, upd]
  · simp [updV, upd, hq]
theorem r_last (X : gX D cT p R s m args meth c cc nL own fr lo S0) {t : Nat} (ht : gKinds[t]? = some .long) {i : Int32} {x : Int64} (hv : gSL S a t i x = some S1) (hdg : decode cc pc = .ok (.lastore, 1))
    (kk : gV D cT H0 p l e R s m args below meth c Q S0 S1 (F0 m (pc + 1) ls rest)) : gV D cT H0 p l e R s m args below meth c Q S0 S (F0 m pc ls (.long x :: .int i :: va_rf (some a) :: rest)) := by
  obtain ⟨n, f, h1, h2, rfl⟩ := gSL_spec hv
  exact g_last X ht h1 h2 hdg kk
theorem r_aast (X : gX D cT p R s m args meth c cc nL own fr lo S0) {t ci v : Nat} {C : String} {T : u_T} {N : Nat} {ty : Nat → FieldType} (hC : gCl ci C T N ty) (ht : gKinds[t]? = some (.object C)) {i : Int32} (hv : gSR S a t i v ci = some S1) (hdg : decode cc pc = .ok (.aastore, 1))
    (kk : gV D cT H0 p l e R s m args below meth c Q S0 S1 (F0 m (pc + 1) ls rest)) : gV D cT H0 p l e R s m args below meth c Q S0 S (F0 m pc ls (va_rf (some v) :: .int i :: va_rf (some a) :: rest)) := by
  obtain ⟨n, f, vs, h1, h2, h3, rfl⟩ := gSR_spec hv
  exact g_aast X hC ht h1 h2 h3 hdg kk
theorem r_new (X : gX D cT p R s m args meth c cc nL own fr lo S0) {ci : Nat} {C : String} {T : u_T} {N : Nat} {ty : Nat → FieldType} (hC : gCl ci C T N ty) {index : Nat} {fs : List Value} (hN : fs.length = N) (hv : gNw S ci fs = some S1) (hfs : ∀ j, j < N → defaultValue (ty j) = vp_V fs j)
    (hcl : Cond.classLink own index C ∈ lw_good) (hins : Cond.instantiable C N ∈ lw_good) (hini : Cond.initialized C ∈ lw_good) (hdg : decode cc pc = .ok (.new index, 3))
    (kk : gV D cT H0 p l e R s m args below meth c Q S0 S1 (F0 m (pc + 3) ls (va_rf (some S.2.1) :: rest))) : gV D cT H0 p l e R s m args below meth c Q S0 S (F0 m pc ls rest) := by
  obtain ⟨h1, rfl⟩ := gNw_spec hv
  subst hN
  exact g_new X hC hfs hcl hins hini h1 hdg kk
theorem r_newa (X : gX D cT p R s m args meth c cc nL own fr lo S0) {atype : ArrayType} {t : Nat} {ty : FieldType} (hty : newarray.typeOf atype = ty) (ht : gKinds[t]? = some ty) (hRA : va_RA s (cT t) ty = (s.vm.findClass ("[" ++ ty.toString) = some (cT t)))
    (harr : Cond.arrayClass (newarray.typeOf atype) ∈ lw_good) {n : Int32} {z : (Nat → Int32) ⊕ (Nat → Int64) ⊕ (Nat → UInt32) ⊕ (Nat → UInt64) ⊕ (Nat → Option Nat)} (hv : gNA S t n z = some S1) (hz : ∀ cA : ClassId, vp_cell cA (n.toNatClampNeg, z) = arrV cA n.toNatClampNeg (fun _ => defaultValue ty)) (hcb : componentBytes ty ≤ 8) (hdg : decode cc pc = .ok (.newarray atype, 2))
    (kk : gV D cT H0 p l e R s m args below meth c Q S0 S1 (F0 m (pc + 2) ls (va_rf (some S.2.1) :: rest))) : gV D cT H0 p l e R s m args below meth c Q S0 S (F0 m pc ls (.int n :: rest)) := by
  obtain ⟨⟨h1, h2, h3⟩, rfl⟩ := gNA_spec hv
  refine g_newa X hty ht hRA harr hz h1 rfl ?_ h3 hdg kk
  calc n.toNatClampNeg * componentBytes ty ≤ 10000 * 8 := Nat.mul_le_mul h2 hcb
    _ ≤ 536870912 := by decide
theorem r_anew (X : gX D cT p R s m args meth c cc nL own fr lo S0) (hZ : gZ H0 s) {C : String} {index t : Nat} (ht : gKinds[t]? = some (.object C)) (hcl : Cond.classLink own index C ∈ lw_good) (hover : C ∈ gOver) {n : Int32} (hv : gNA S t n (.inr (.inr (.inr (.inr (fun _ => none))))) = some S1) (hdg : decode cc pc = .ok (.anewarray index, 3))
    (kk : gV D cT H0 p l e R s m args below meth c Q S0 S1 (F0 m (pc + 3) ls (va_rf (some S.2.1) :: rest))) : gV D cT H0 p l e R s m args below meth c Q S0 S (F0 m pc ls (.int n :: rest)) := by
  obtain ⟨⟨h1, h2, h3⟩, rfl⟩ := gNA_spec hv
  exact g_anew X ht hcl (hZ.2.2.1 C hover) h1 (by omega) h3 hdg kk
theorem g_swOut {x : Int32} {n : Nat} (hn : n < 2 ^ 31) (h : ∀ k : Nat, k < n → ¬ x = nI k) : x.toInt < 0 ∨ (n : Int) - 1 < x.toInt := by
  by_cases h0 : x < 0
  · left
    rw [Int32.lt_iff_toInt_lt, Int32.toInt_zero] at h0
    exact h0
  · right
    obtain ⟨j, hj, rfl⟩ := nI_of h0
    rw [nI_toInt hj]
    by_cases hk : j < n
    · exact absurd rfl (h j hk)
    · omega
end GR
end
