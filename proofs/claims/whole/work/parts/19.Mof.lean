/-! PlanTextModel.putPlan(I)V -/
abbrev y_Mo_putPlan : MethodName := ⟨"PlanTextModel", "putPlan", "(I)V"⟩
theorem d_Mo_putPlan_0 : decode prog_12_method_42_code 0 = .ok (.aload_n 0, 1) := by decide +kernel
theorem d_Mo_putPlan_1 : decode prog_12_method_42_code 1 = .ok (.bipush 112, 2) := by decide +kernel
theorem d_Mo_putPlan_3 : decode prog_12_method_42_code 3 = .ok (.iload_n 1, 1) := by decide +kernel
theorem d_Mo_putPlan_4 : decode prog_12_method_42_code 4 = .ok (.bipush 50, 2) := by decide +kernel
theorem d_Mo_putPlan_6 : decode prog_12_method_42_code 6 = .ok (.irem, 1) := by decide +kernel
theorem d_Mo_putPlan_7 : decode prog_12_method_42_code 7 = .ok (.invokevirtual 182, 3) := by decide +kernel
theorem d_Mo_putPlan_10 : decode prog_12_method_42_code 10 = .ok (.aload_n 0, 1) := by decide +kernel
theorem d_Mo_putPlan_11 : decode prog_12_method_42_code 11 = .ok (.bipush 107, 2) := by decide +kernel
theorem d_Mo_putPlan_13 : decode prog_12_method_42_code 13 = .ok (.aload_n 0, 1) := by decide +kernel
theorem d_Mo_putPlan_14 : decode prog_12_method_42_code 14 = .ok (.getfield 24, 3) := by decide +kernel
theorem d_Mo_putPlan_17 : decode prog_12_method_42_code 17 = .ok (.iload_n 1, 1) := by decide +kernel
theorem d_Mo_putPlan_18 : decode prog_12_method_42_code 18 = .ok (.iaload, 1) := by decide +kernel
theorem d_Mo_putPlan_19 : decode prog_12_method_42_code 19 = .ok (.invokevirtual 182, 3) := by decide +kernel
theorem d_Mo_putPlan_22 : decode prog_12_method_42_code 22 = .ok (.aload_n 0, 1) := by decide +kernel
theorem d_Mo_putPlan_23 : decode prog_12_method_42_code 23 = .ok (.getfield 27, 3) := by decide +kernel
theorem d_Mo_putPlan_26 : decode prog_12_method_42_code 26 = .ok (.iload_n 1, 1) := by decide +kernel
theorem d_Mo_putPlan_27 : decode prog_12_method_42_code 27 = .ok (.iaload, 1) := by decide +kernel
theorem d_Mo_putPlan_28 : decode prog_12_method_42_code 28 = .ok (.ifCond .le 39, 3) := by decide +kernel
theorem d_Mo_putPlan_31 : decode prog_12_method_42_code 31 = .ok (.aload_n 0, 1) := by decide +kernel
theorem d_Mo_putPlan_32 : decode prog_12_method_42_code 32 = .ok (.bipush 64, 2) := by decide +kernel
theorem d_Mo_putPlan_34 : decode prog_12_method_42_code 34 = .ok (.aload_n 0, 1) := by decide +kernel
theorem d_Mo_putPlan_35 : decode prog_12_method_42_code 35 = .ok (.getfield 27, 3) := by decide +kernel
theorem d_Mo_putPlan_38 : decode prog_12_method_42_code 38 = .ok (.iload_n 1, 1) := by decide +kernel
theorem d_Mo_putPlan_39 : decode prog_12_method_42_code 39 = .ok (.iaload, 1) := by decide +kernel
theorem d_Mo_putPlan_40 : decode prog_12_method_42_code 40 = .ok (.invokevirtual 182, 3) := by decide +kernel
theorem d_Mo_putPlan_43 : decode prog_12_method_42_code 43 = .ok (.aload_n 0, 1) := by decide +kernel
theorem d_Mo_putPlan_44 : decode prog_12_method_42_code 44 = .ok (.bipush 35, 2) := by decide +kernel
theorem d_Mo_putPlan_46 : decode prog_12_method_42_code 46 = .ok (.aload_n 0, 1) := by decide +kernel
theorem d_Mo_putPlan_47 : decode prog_12_method_42_code 47 = .ok (.getfield 30, 3) := by decide +kernel
theorem d_Mo_putPlan_50 : decode prog_12_method_42_code 50 = .ok (.iload_n 1, 1) := by decide +kernel
theorem d_Mo_putPlan_51 : decode prog_12_method_42_code 51 = .ok (.iaload, 1) := by decide +kernel
theorem d_Mo_putPlan_52 : decode prog_12_method_42_code 52 = .ok (.invokevirtual 182, 3) := by decide +kernel
theorem d_Mo_putPlan_55 : decode prog_12_method_42_code 55 = .ok (.aload_n 0, 1) := by decide +kernel
theorem d_Mo_putPlan_56 : decode prog_12_method_42_code 56 = .ok (.bipush 45, 2) := by decide +kernel
theorem d_Mo_putPlan_58 : decode prog_12_method_42_code 58 = .ok (.aload_n 0, 1) := by decide +kernel
theorem d_Mo_putPlan_59 : decode prog_12_method_42_code 59 = .ok (.getfield 33, 3) := by decide +kernel
theorem d_Mo_putPlan_62 : decode prog_12_method_42_code 62 = .ok (.iload_n 1, 1) := by decide +kernel
theorem d_Mo_putPlan_63 : decode prog_12_method_42_code 63 = .ok (.iaload, 1) := by decide +kernel
theorem d_Mo_putPlan_64 : decode prog_12_method_42_code 64 = .ok (.invokevirtual 182, 3) := by decide +kernel
theorem d_Mo_putPlan_67 : decode prog_12_method_42_code 67 = .ok (.aload_n 0, 1) := by decide +kernel
theorem d_Mo_putPlan_68 : decode prog_12_method_42_code 68 = .ok (.getfield 36, 3) := by decide +kernel
theorem d_Mo_putPlan_71 : decode prog_12_method_42_code 71 = .ok (.iload_n 1, 1) := by decide +kernel
theorem d_Mo_putPlan_72 : decode prog_12_method_42_code 72 = .ok (.iaload, 1) := by decide +kernel
theorem d_Mo_putPlan_73 : decode prog_12_method_42_code 73 = .ok (.ifCond .lt 33, 3) := by decide +kernel
theorem d_Mo_putPlan_76 : decode prog_12_method_42_code 76 = .ok (.aload_n 0, 1) := by decide +kernel
theorem d_Mo_putPlan_77 : decode prog_12_method_42_code 77 = .ok (.bipush 91, 2) := by decide +kernel
theorem d_Mo_putPlan_79 : decode prog_12_method_42_code 79 = .ok (.aload_n 0, 1) := by decide +kernel
theorem d_Mo_putPlan_80 : decode prog_12_method_42_code 80 = .ok (.getfield 36, 3) := by decide +kernel
theorem d_Mo_putPlan_83 : decode prog_12_method_42_code 83 = .ok (.iload_n 1, 1) := by decide +kernel
theorem d_Mo_putPlan_84 : decode prog_12_method_42_code 84 = .ok (.iaload, 1) := by decide +kernel
theorem d_Mo_putPlan_85 : decode prog_12_method_42_code 85 = .ok (.invokevirtual 182, 3) := by decide +kernel
theorem d_Mo_putPlan_88 : decode prog_12_method_42_code 88 = .ok (.aload_n 0, 1) := by decide +kernel
theorem d_Mo_putPlan_89 : decode prog_12_method_42_code 89 = .ok (.bipush 45, 2) := by decide +kernel
theorem d_Mo_putPlan_91 : decode prog_12_method_42_code 91 = .ok (.aload_n 0, 1) := by decide +kernel
theorem d_Mo_putPlan_92 : decode prog_12_method_42_code 92 = .ok (.getfield 39, 3) := by decide +kernel
theorem d_Mo_putPlan_95 : decode prog_12_method_42_code 95 = .ok (.iload_n 1, 1) := by decide +kernel
theorem d_Mo_putPlan_96 : decode prog_12_method_42_code 96 = .ok (.iaload, 1) := by decide +kernel
theorem d_Mo_putPlan_97 : decode prog_12_method_42_code 97 = .ok (.invokevirtual 182, 3) := by decide +kernel
theorem d_Mo_putPlan_100 : decode prog_12_method_42_code 100 = .ok (.aload_n 0, 1) := by decide +kernel
theorem d_Mo_putPlan_101 : decode prog_12_method_42_code 101 = .ok (.bipush 93, 2) := by decide +kernel
theorem d_Mo_putPlan_103 : decode prog_12_method_42_code 103 = .ok (.invokevirtual 179, 3) := by decide +kernel
theorem d_Mo_putPlan_106 : decode prog_12_method_42_code 106 = .ok (.aload_n 0, 1) := by decide +kernel
theorem d_Mo_putPlan_107 : decode prog_12_method_42_code 107 = .ok (.bipush 114, 2) := by decide +kernel
theorem d_Mo_putPlan_109 : decode prog_12_method_42_code 109 = .ok (.aload_n 0, 1) := by decide +kernel
theorem d_Mo_putPlan_110 : decode prog_12_method_42_code 110 = .ok (.getfield 42, 3) := by decide +kernel
theorem d_Mo_putPlan_113 : decode prog_12_method_42_code 113 = .ok (.iload_n 1, 1) := by decide +kernel
theorem d_Mo_putPlan_114 : decode prog_12_method_42_code 114 = .ok (.iaload, 1) := by decide +kernel
theorem d_Mo_putPlan_115 : decode prog_12_method_42_code 115 = .ok (.invokevirtual 182, 3) := by decide +kernel
theorem d_Mo_putPlan_118 : decode prog_12_method_42_code 118 = .ok (.aload_n 0, 1) := by decide +kernel
theorem d_Mo_putPlan_119 : decode prog_12_method_42_code 119 = .ok (.iload_n 1, 1) := by decide +kernel
theorem d_Mo_putPlan_120 : decode prog_12_method_42_code 120 = .ok (.invokevirtual 186, 3) := by decide +kernel
theorem d_Mo_putPlan_123 : decode prog_12_method_42_code 123 = .ok (.return_, 1) := by decide +kernel
def B_Mo_putPlan_106  (x0 : Nat) (x1 : Int32) (S : gS) : Option gS := Option.bind (gRf S x0 10 17) (fun r1 => Option.bind r1 (fun a2 => Option.bind (gAI S a2 0 x1) (fun v3 => Option.bind (gOb S x0 10) (fun fs5 => Option.bind (D_Mo_putNumber x0 114 v3 S) (fun S4 => Option.bind (gOb S4 x0 10) (fun fs7 => Option.bind (D_Mo_putNeeds x0 x1 S4) (fun S6 => some S6)))))))
set_option maxRecDepth 100000 in
set_option maxHeartbeats 4000000 in
theorem w_Mo_putPlan_106 {D : va_G} {cT : Nat → ClassId} {H0 : Heap} {l : Launch} {p : Program} {e : Env} {s : State} {m : MethodId} {args : Array Value} {below : List Frame} {meth : Method} {c : Code} {S0 : gS} {S' : gS} (Y : gY D cT H0 p s m args meth c prog_12_method_42_code 2 "PlanTextModel" 3 67 S0 (Option.none : Option Jvm.ClassFile.FieldType))  (x0 : Nat) (x1 : Int32) (S : gS) (hden : B_Mo_putPlan_106  x0 x1 S = some S') {ls : Array Slot} (hl : lv_has ls 2 [(0, va_rf (some x0)), (1, .int x1)]) : gV D cT H0 p l e (gRm 3 67 S0) s m args below meth c (gQ D cT H0 below S0 S' (.inr none) s) S0 S (F0 m 106 ls []) := by
  obtain ⟨X, hZ, hex, hr, hE⟩ := id Y
  have hx := X.1
  have hb := X.2.1
  unfold B_Mo_putPlan_106 at hden
  refine gV.lift (fun _ _ _ _ => g_aload_n hx hb d_Mo_putPlan_106 rfl (lv_at hl 0 rfl)) ?_
  refine gV.lift (fun _ _ _ _ => lv_bipush (v := 114) hx hb d_Mo_putPlan_107 (by decide)) ?_
  refine gV.lift (fun _ _ _ _ => g_aload_n hx hb d_Mo_putPlan_109 rfl (lv_at hl 0 rfl)) ?_
  replace hden := gb hden
  obtain ⟨r1, hv, hden⟩ := hden
  refine r_getR X cl_Mo (k := 17) hv (by decide) q_782 d_Mo_putPlan_110 ?_
  refine gV.lift (fun _ _ _ _ => lv_iload_n hx hb d_Mo_putPlan_113 rfl (lv_at hl 1 rfl)) ?_
  replace hden := gb hden
  obtain ⟨a2, rfl, hden⟩ := hden
  replace hden := gb hden
  obtain ⟨v3, hv, hden⟩ := hden
  refine r_iald X (t := 0) rfl hv d_Mo_putPlan_114 ?_
  replace hden := gb hden
  obtain ⟨fs5, ho, hden⟩ := hden
  replace hden := gb hden
  obtain ⟨S4, hz, hden⟩ := hden
  refine g_callV (As := [.int 114, .int v3]) (rest := []) X hZ (c_Mo_putNumber hz) cl_Mo (gOb_spec ho) q_1001 q_5 q_998 q_1000 qp_50 ⟨by decide, by decide, by show _ = some 2; decide +kernel⟩ ⟨by decide, by decide⟩ hl.1 (Nat.le_of_ble_eq_true rfl) d_Mo_putPlan_115 rfl rfl ?_
  refine gV.lift (fun _ _ _ _ => g_aload_n hx hb d_Mo_putPlan_118 rfl (lv_at hl 0 rfl)) ?_
  refine gV.lift (fun _ _ _ _ => lv_iload_n hx hb d_Mo_putPlan_119 rfl (lv_at hl 1 rfl)) ?_
  replace hden := gb hden
  obtain ⟨fs7, ho, hden⟩ := hden
  replace hden := gb hden
  obtain ⟨S6, hz, hden⟩ := hden
  refine g_callV (As := [.int x1]) (rest := []) X hZ (c_Mo_putNeeds hz) cl_Mo (gOb_spec ho) q_1009 q_5 q_1006 q_1008 qp_52 ⟨by decide, by decide, by show _ = some 1; decide +kernel⟩ ⟨by decide, by decide⟩ hl.1 (Nat.le_of_ble_eq_true rfl) d_Mo_putPlan_120 rfl rfl ?_
  obtain rfl := gsi hden
  exact g_vret X hr d_Mo_putPlan_123
def B_Mo_putPlan_67  (x0 : Nat) (x1 : Int32) (S : gS) : Option gS := Option.bind (gRf S x0 10 15) (fun r1 => Option.bind r1 (fun a2 => Option.bind (gAI S a2 0 x1) (fun v3 => (if v3 < 0 then B_Mo_putPlan_106  x0 x1 S else Option.bind (gRf S x0 10 15) (fun r5 => Option.bind r5 (fun a6 => Option.bind (gAI S a6 0 x1) (fun v7 => Option.bind (gOb S x0 10) (fun fs9 => Option.bind (D_Mo_putNumber x0 91 v7 S) (fun S8 => Option.bind (gRf S8 x0 10 16) (fun r10 => Option.bind r10 (fun a11 => Option.bind (gAI S8 a11 0 x1) (fun v12 => Option.bind (gOb S8 x0 10) (fun fs14 => Option.bind (D_Mo_putNumber x0 45 v12 S8) (fun S13 => Option.bind (gOb S13 x0 10) (fun fs16 => Option.bind (D_Mo_put x0 93 S13) (fun S15 => B_Mo_putPlan_106  x0 x1 S15))))))))))))))))
set_option maxRecDepth 100000 in
set_option maxHeartbeats 4000000 in
theorem w_Mo_putPlan_67 {D : va_G} {cT : Nat → ClassId} {H0 : Heap} {l : Launch} {p : Program} {e : Env} {s : State} {m : MethodId} {args : Array Value} {below : List Frame} {meth : Method} {c : Code} {S0 : gS} {S' : gS} (Y : gY D cT H0 p s m args meth c prog_12_method_42_code 2 "PlanTextModel" 3 67 S0 (Option.none : Option Jvm.ClassFile.FieldType))  (x0 : Nat) (x1 : Int32) (S : gS) (hden : B_Mo_putPlan_67  x0 x1 S = some S') {ls : Array Slot} (hl : lv_has ls 2 [(0, va_rf (some x0)), (1, .int x1)]) : gV D cT H0 p l e (gRm 3 67 S0) s m args below meth c (gQ D cT H0 below S0 S' (.inr none) s) S0 S (F0 m 67 ls []) := by
  obtain ⟨X, hZ, hex, hr, hE⟩ := id Y
  have hx := X.1
  have hb := X.2.1
  unfold B_Mo_putPlan_67 at hden
  refine gV.lift (fun _ _ _ _ => g_aload_n hx hb d_Mo_putPlan_67 rfl (lv_at hl 0 rfl)) ?_
  replace hden := gb hden
  obtain ⟨r1, hv, hden⟩ := hden
  refine r_getR X cl_Mo (k := 15) hv (by decide) q_780 d_Mo_putPlan_68 ?_
  refine gV.lift (fun _ _ _ _ => lv_iload_n hx hb d_Mo_putPlan_71 rfl (lv_at hl 1 rfl)) ?_
  replace hden := gb hden
  obtain ⟨a2, rfl, hden⟩ := hden
  replace hden := gb hden
  obtain ⟨v3, hv, hden⟩ := hden
  refine r_iald X (t := 0) rfl hv d_Mo_putPlan_72 ?_
  refine gV.lift2 (fun _ _ _ _ => lv_if_lt (tgt := 106) hx hb d_Mo_putPlan_73 (by decide)) (fun hc4 => ?_) (fun hc4 => ?_)
  · replace hden := gip hc4 hden
    exact w_Mo_putPlan_106 Y  x0 x1 S hden (lv_sub hl [0, 1] rfl)
  · replace hden := gin hc4 hden
    refine gV.lift (fun _ _ _ _ => g_aload_n hx hb d_Mo_putPlan_76 rfl (lv_at hl 0 rfl)) ?_
    refine gV.lift (fun _ _ _ _ => lv_bipush (v := 91) hx hb d_Mo_putPlan_77 (by decide)) ?_
    refine gV.lift (fun _ _ _ _ => g_aload_n hx hb d_Mo_putPlan_79 rfl (lv_at hl 0 rfl)) ?_
    replace hden := gb hden
    obtain ⟨r5, hv, hden⟩ := hden
    refine r_getR X cl_Mo (k := 15) hv (by decide) q_780 d_Mo_putPlan_80 ?_
    refine gV.lift (fun _ _ _ _ => lv_iload_n hx hb d_Mo_putPlan_83 rfl (lv_at hl 1 rfl)) ?_
    replace hden := gb hden
    obtain ⟨a6, rfl, hden⟩ := hden
    replace hden := gb hden
    obtain ⟨v7, hv, hden⟩ := hden
    refine r_iald X (t := 0) rfl hv d_Mo_putPlan_84 ?_
    replace hden := gb hden
    obtain ⟨fs9, ho, hden⟩ := hden
    replace hden := gb hden
    obtain ⟨S8, hz, hden⟩ := hden
    refine g_callV (As := [.int 91, .int v7]) (rest := []) X hZ (c_Mo_putNumber hz) cl_Mo (gOb_spec ho) q_1001 q_5 q_998 q_1000 qp_50 ⟨by decide, by decide, by show _ = some 2; decide +kernel⟩ ⟨by decide, by decide⟩ hl.1 (Nat.le_of_ble_eq_true rfl) d_Mo_putPlan_85 rfl rfl ?_
    refine gV.lift (fun _ _ _ _ => g_aload_n hx hb d_Mo_putPlan_88 rfl (lv_at hl 0 rfl)) ?_
    refine gV.lift (fun _ _ _ _ => lv_bipush (v := 45) hx hb d_Mo_putPlan_89 (by decide)) ?_
    refine gV.lift (fun _ _ _ _ => g_aload_n hx hb d_Mo_putPlan_91 rfl (lv_at hl 0 rfl)) ?_
    replace hden := gb hden
    obtain ⟨r10, hv, hden⟩ := hden
    refine r_getR X cl_Mo (k := 16) hv (by decide) q_781 d_Mo_putPlan_92 ?_
    refine gV.lift (fun _ _ _ _ => lv_iload_n hx hb d_Mo_putPlan_95 rfl (lv_at hl 1 rfl)) ?_
    replace hden := gb hden
    obtain ⟨a11, rfl, hden⟩ := hden
    replace hden := gb hden
    obtain ⟨v12, hv, hden⟩ := hden
    refine r_iald X (t := 0) rfl hv d_Mo_putPlan_96 ?_
    replace hden := gb hden
    obtain ⟨fs14, ho, hden⟩ := hden
    replace hden := gb hden
    obtain ⟨S13, hz, hden⟩ := hden
    refine g_callV (As := [.int 45, .int v12]) (rest := []) X hZ (c_Mo_putNumber hz) cl_Mo (gOb_spec ho) q_1001 q_5 q_998 q_1000 qp_50 ⟨by decide, by decide, by show _ = some 2; decide +kernel⟩ ⟨by decide, by decide⟩ hl.1 (Nat.le_of_ble_eq_true rfl) d_Mo_putPlan_97 rfl rfl ?_
    refine gV.lift (fun _ _ _ _ => g_aload_n hx hb d_Mo_putPlan_100 rfl (lv_at hl 0 rfl)) ?_
    refine gV.lift (fun _ _ _ _ => lv_bipush (v := 93) hx hb d_Mo_putPlan_101 (by decide)) ?_
    replace hden := gb hden
    obtain ⟨fs16, ho, hden⟩ := hden
    replace hden := gb hden
    obtain ⟨S15, hz, hden⟩ := hden
    refine g_callV (As := [.int 93]) (rest := []) X hZ (c_Mo_put hz) cl_Mo (gOb_spec ho) q_1005 q_5 q_1002 q_1004 qp_51 ⟨by decide, by decide, by show _ = some 1; decide +kernel⟩ ⟨by decide, by decide⟩ hl.1 (Nat.le_of_ble_eq_true rfl) d_Mo_putPlan_103 rfl rfl ?_
    exact w_Mo_putPlan_106 Y  x0 x1 S15 hden (lv_sub hl [0, 1] rfl)
def D_Mo_putPlan (h0 : Nat) (p0 : Int32) (S : gS) : Option gS := Option.bind (gOb S h0 10) (fun fs2 => Option.bind (D_Mo_putNumber h0 112 (p0 - p0 / 50 * 50) S) (fun S1 => Option.bind (gRf S1 h0 10 11) (fun r3 => Option.bind r3 (fun a4 => Option.bind (gAI S1 a4 0 p0) (fun v5 => Option.bind (gOb S1 h0 10) (fun fs7 => Option.bind (D_Mo_putNumber h0 107 v5 S1) (fun S6 => Option.bind (gRf S6 h0 10 12) (fun r8 => Option.bind r8 (fun a9 => Option.bind (gAI S6 a9 0 p0) (fun v10 => (if v10 ≤ 0 then B_Mo_putPlan_67  h0 p0 S6 else Option.bind (gRf S6 h0 10 12) (fun r12 => Option.bind r12 (fun a13 => Option.bind (gAI S6 a13 0 p0) (fun v14 => Option.bind (gOb S6 h0 10) (fun fs16 => Option.bind (D_Mo_putNumber h0 64 v14 S6) (fun S15 => Option.bind (gRf S15 h0 10 13) (fun r17 => Option.bind r17 (fun a18 => Option.bind (gAI S15 a18 0 p0) (fun v19 => Option.bind (gOb S15 h0 10) (fun fs21 => Option.bind (D_Mo_putNumber h0 35 v19 S15) (fun S20 => Option.bind (gRf S20 h0 10 14) (fun r22 => Option.bind r22 (fun a23 => Option.bind (gAI S20 a23 0 p0) (fun v24 => Option.bind (gOb S20 h0 10) (fun fs26 => Option.bind (D_Mo_putNumber h0 45 v24 S20) (fun S25 => B_Mo_putPlan_67  h0 p0 S25))))))))))))))))))))))))))
set_option maxRecDepth 100000 in
set_option maxHeartbeats 4000000 in
theorem c_Mo_putPlan {D : va_G} {cT : Nat → ClassId} {H0 : Heap} {l : Launch} {S : gS} {S' : gS} {h0 : Nat} {p0 : Int32} (hden : D_Mo_putPlan h0 p0 S = some S') : gM D cT H0 l y_Mo_putPlan (Cond.code y_Mo_putPlan prog_12_method_42_code 2 (Option.none : Option Jvm.ClassFile.FieldType)) 3 67 [va_rf (some h0), .int p0] S S' (.inr none) := by
  refine gM.ofV (by decide) ?_
  intro p e s m args below meth c s₁ B hml ea X hZ hex hr hE
  subst ea
  have Y : gY D cT H0 p s m _ meth c prog_12_method_42_code 2 "PlanTextModel" 3 67 S (Option.none : Option Jvm.ClassFile.FieldType) := ⟨X, hZ, hex, hr, hE⟩
  have hx := X.1
  have hb := X.2.1
  have hl := lv_entry ([va_rf (some h0), .int p0]) (n := 2) (Nat.le_of_ble_eq_true rfl)
  rw [lg_entry_eq]
  generalize (lg_sl ([va_rf (some h0), .int p0]) ++ List.replicate (2 - (lg_sl ([va_rf (some h0), .int p0])).length) Slot.unset).toArray = ls at hl ⊢
  have hl : lv_has ls 2 [(0, va_rf (some h0)), (1, .int p0)] := hl
  unfold D_Mo_putPlan at hden
  refine gV.lift (fun _ _ _ _ => g_aload_n hx hb d_Mo_putPlan_0 rfl (lv_at hl 0 rfl)) ?_
  refine gV.lift (fun _ _ _ _ => lv_bipush (v := 112) hx hb d_Mo_putPlan_1 (by decide)) ?_
  refine gV.lift (fun _ _ _ _ => lv_iload_n hx hb d_Mo_putPlan_3 rfl (lv_at hl 1 rfl)) ?_
  refine gV.lift (fun _ _ _ _ => lv_bipush (v := 50) hx hb d_Mo_putPlan_4 (by decide)) ?_
  refine gV.lift (fun _ _ _ _ => lv_irem hx hb d_Mo_putPlan_6 (by decide)) ?_
  replace hden := gb hden
  obtain ⟨fs2, ho, hden⟩ := hden
  replace hden := gb hden
  obtain ⟨S1, hz, hden⟩ := hden
  refine g_callV (As := [.int 112, .int (p0 - p0 / 50 * 50)]) (rest := []) X hZ (c_Mo_putNumber hz) cl_Mo (gOb_spec ho) q_1001 q_5 q_998 q_1000 qp_50 ⟨by decide, by decide, by show _ = some 2; decide +kernel⟩ ⟨by decide, by decide⟩ hl.1 (Nat.le_of_ble_eq_true rfl) d_Mo_putPlan_7 rfl rfl ?_
  refine gV.lift (fun _ _ _ _ => g_aload_n hx hb d_Mo_putPlan_10 rfl (lv_at hl 0 rfl)) ?_
  refine gV.lift (fun _ _ _ _ => lv_bipush (v := 107) hx hb d_Mo_putPlan_11 (by decide)) ?_
  refine gV.lift (fun _ _ _ _ => g_aload_n hx hb d_Mo_putPlan_13 rfl (lv_at hl 0 rfl)) ?_
  replace hden := gb hden
  obtain ⟨r3, hv, hden⟩ := hden
  refine r_getR X cl_Mo (k := 11) hv (by decide) q_776 d_Mo_putPlan_14 ?_
  refine gV.lift (fun _ _ _ _ => lv_iload_n hx hb d_Mo_putPlan_17 rfl (lv_at hl 1 rfl)) ?_
  replace hden := gb hden
  obtain ⟨a4, rfl, hden⟩ := hden
  replace hden := gb hden
  obtain ⟨v5, hv, hden⟩ := hden
  refine r_iald X (t := 0) rfl hv d_Mo_putPlan_18 ?_
  replace hden := gb hden
  obtain ⟨fs7, ho, hden⟩ := hden
  replace hden := gb hden
  obtain ⟨S6, hz, hden⟩ := hden
  refine g_callV (As := [.int 107, .int v5]) (rest := []) X hZ (c_Mo_putNumber hz) cl_Mo (gOb_spec ho) q_1001 q_5 q_998 q_1000 qp_50 ⟨by decide, by decide, by show _ = some 2; decide +kernel⟩ ⟨by decide, by decide⟩ hl.1 (Nat.le_of_ble_eq_true rfl) d_Mo_putPlan_19 rfl rfl ?_
  refine gV.lift (fun _ _ _ _ => g_aload_n hx hb d_Mo_putPlan_22 rfl (lv_at hl 0 rfl)) ?_
  replace hden := gb hden
  obtain ⟨r8, hv, hden⟩ := hden
  refine r_getR X cl_Mo (k := 12) hv (by decide) q_777 d_Mo_putPlan_23 ?_
  refine gV.lift (fun _ _ _ _ => lv_iload_n hx hb d_Mo_putPlan_26 rfl (lv_at hl 1 rfl)) ?_
  replace hden := gb hden
  obtain ⟨a9, rfl, hden⟩ := hden
  replace hden := gb hden
  obtain ⟨v10, hv, hden⟩ := hden
  refine r_iald X (t := 0) rfl hv d_Mo_putPlan_27 ?_
  refine gV.lift2 (fun _ _ _ _ => lv_if_le (tgt := 67) hx hb d_Mo_putPlan_28 (by decide)) (fun hc11 => ?_) (fun hc11 => ?_)
  · replace hden := gip hc11 hden
    exact w_Mo_putPlan_67 Y  h0 p0 S6 hden (lv_sub hl [0, 1] rfl)
  · replace hden := gin hc11 hden
    refine gV.lift (fun _ _ _ _ => g_aload_n hx hb d_Mo_putPlan_31 rfl (lv_at hl 0 rfl)) ?_
    refine gV.lift (fun _ _ _ _ => lv_bipush (v := 64) hx hb d_Mo_putPlan_32 (by decide)) ?_
    refine gV.lift (fun _ _ _ _ => g_aload_n hx hb d_Mo_putPlan_34 rfl (lv_at hl 0 rfl)) ?_
    replace hden := gb hden
    obtain ⟨r12, hv, hden⟩ := hden
    refine r_getR X cl_Mo (k := 12) hv (by decide) q_777 d_Mo_putPlan_35 ?_
    refine gV.lift (fun _ _ _ _ => lv_iload_n hx hb d_Mo_putPlan_38 rfl (lv_at hl 1 rfl)) ?_
    replace hden := gb hden
    obtain ⟨a13, rfl, hden⟩ := hden
    replace hden := gb hden
    obtain ⟨v14, hv, hden⟩ := hden
    refine r_iald X (t := 0) rfl hv d_Mo_putPlan_39 ?_
    replace hden := gb hden
    obtain ⟨fs16, ho, hden⟩ := hden
    replace hden := gb hden
    obtain ⟨S15, hz, hden⟩ := hden
    refine g_callV (As := [.int 64, .int v14]) (rest := []) X hZ (c_Mo_putNumber hz) cl_Mo (gOb_spec ho) q_1001 q_5 q_998 q_1000 qp_50 ⟨by decide, by decide, by show _ = some 2; decide +kernel⟩ ⟨by decide, by decide⟩ hl.1 (Nat.le_of_ble_eq_true rfl) d_Mo_putPlan_40 rfl rfl ?_
    refine gV.lift (fun _ _ _ _ => g_aload_n hx hb d_Mo_putPlan_43 rfl (lv_at hl 0 rfl)) ?_
    refine gV.lift (fun _ _ _ _ => lv_bipush (v := 35) hx hb d_Mo_putPlan_44 (by decide)) ?_
    refine gV.lift (fun _ _ _ _ => g_aload_n hx hb d_Mo_putPlan_46 rfl (lv_at hl 0 rfl)) ?_
    replace hden := gb hden
    obtain ⟨r17, hv, hden⟩ := hden
    refine r_getR X cl_Mo (k := 13) hv (by decide) q_778 d_Mo_putPlan_47 ?_
    refine gV.lift (fun _ _ _ _ => lv_iload_n hx hb d_Mo_putPlan_50 rfl (lv_at hl 1 rfl)) ?_
    replace hden := gb hden
    obtain ⟨a18, rfl, hden⟩ := hden
    replace hden := gb hden
    obtain ⟨v19, hv, hden⟩ := hden
    refine r_iald X (t := 0) rfl hv d_Mo_putPlan_51 ?_
    replace hden := gb hden
    obtain ⟨fs21, ho, hden⟩ := hden
    replace hden := gb hden
    obtain ⟨S20, hz, hden⟩ := hden
    refine g_callV (As := [.int 35, .int v19]) (rest := []) X hZ (c_Mo_putNumber hz) cl_Mo (gOb_spec ho) q_1001 q_5 q_998 q_1000 qp_50 ⟨by decide, by decide, by show _ = some 2; decide +kernel⟩ ⟨by decide, by decide⟩ hl.1 (Nat.le_of_ble_eq_true rfl) d_Mo_putPlan_52 rfl rfl ?_
    refine gV.lift (fun _ _ _ _ => g_aload_n hx hb d_Mo_putPlan_55 rfl (lv_at hl 0 rfl)) ?_
    refine gV.lift (fun _ _ _ _ => lv_bipush (v := 45) hx hb d_Mo_putPlan_56 (by decide)) ?_
    refine gV.lift (fun _ _ _ _ => g_aload_n hx hb d_Mo_putPlan_58 rfl (lv_at hl 0 rfl)) ?_
    replace hden := gb hden
    obtain ⟨r22, hv, hden⟩ := hden
    refine r_getR X cl_Mo (k := 14) hv (by decide) q_779 d_Mo_putPlan_59 ?_
    refine gV.lift (fun _ _ _ _ => lv_iload_n hx hb d_Mo_putPlan_62 rfl (lv_at hl 1 rfl)) ?_
    replace hden := gb hden
    obtain ⟨a23, rfl, hden⟩ := hden
    replace hden := gb hden
    obtain ⟨v24, hv, hden⟩ := hden
    refine r_iald X (t := 0) rfl hv d_Mo_putPlan_63 ?_
    replace hden := gb hden
    obtain ⟨fs26, ho, hden⟩ := hden
    replace hden := gb hden
    obtain ⟨S25, hz, hden⟩ := hden
    refine g_callV (As := [.int 45, .int v24]) (rest := []) X hZ (c_Mo_putNumber hz) cl_Mo (gOb_spec ho) q_1001 q_5 q_998 q_1000 qp_50 ⟨by decide, by decide, by show _ = some 2; decide +kernel⟩ ⟨by decide, by decide⟩ hl.1 (Nat.le_of_ble_eq_true rfl) d_Mo_putPlan_64 rfl rfl ?_
    exact w_Mo_putPlan_67 Y  h0 p0 S25 hden (lv_sub hl [0, 1] rfl)
/-! PlanTextModel.print(I)I -/
abbrev y_Mo_print : MethodName := ⟨"PlanTextModel", "print", "(I)I"⟩
theorem d_Mo_print_0 : decode prog_12_method_43_code 0 = .ok (.aload_n 0, 1) := by decide +kernel
theorem d_Mo_print_1 : decode prog_12_method_43_code 1 = .ok (.iload_n 1, 1) := by decide +kernel
theorem d_Mo_print_2 : decode prog_12_method_43_code 2 = .ok (.invokestatic 153, 3) := by decide +kernel
theorem d_Mo_print_5 : decode prog_12_method_43_code 5 = .ok (.ifCond .ne 7, 3) := by decide +kernel
theorem d_Mo_print_8 : decode prog_12_method_43_code 8 = .ok (.iconst 1, 1) := by decide +kernel
theorem d_Mo_print_9 : decode prog_12_method_43_code 9 = .ok (.goto 4, 3) := by decide +kernel
theorem d_Mo_print_12 : decode prog_12_method_43_code 12 = .ok (.iconst 0, 1) := by decide +kernel
theorem d_Mo_print_13 : decode prog_12_method_43_code 13 = .ok (.iconst 0, 1) := by decide +kernel
theorem d_Mo_print_14 : decode prog_12_method_43_code 14 = .ok (.iconst 0, 1) := by decide +kernel
theorem d_Mo_print_15 : decode prog_12_method_43_code 15 = .ok (.invokevirtual 79, 3) := by decide +kernel
theorem d_Mo_print_18 : decode prog_12_method_43_code 18 = .ok (.ifCond .eq 5, 3) := by decide +kernel
theorem d_Mo_print_21 : decode prog_12_method_43_code 21 = .ok (.iconst 0, 1) := by decide +kernel
theorem d_Mo_print_22 : decode prog_12_method_43_code 22 = .ok (.ireturn, 1) := by decide +kernel
theorem d_Mo_print_23 : decode prog_12_method_43_code 23 = .ok (.aload_n 0, 1) := by decide +kernel
theorem d_Mo_print_24 : decode prog_12_method_43_code 24 = .ok (.iconst 0, 1) := by decide +kernel
theorem d_Mo_print_25 : decode prog_12_method_43_code 25 = .ok (.putfield 176, 3) := by decide +kernel
theorem d_Mo_print_28 : decode prog_12_method_43_code 28 = .ok (.aload_n 0, 1) := by decide +kernel
theorem d_Mo_print_29 : decode prog_12_method_43_code 29 = .ok (.iload_n 1, 1) := by decide +kernel
theorem d_Mo_print_30 : decode prog_12_method_43_code 30 = .ok (.invokevirtual 156, 3) := by decide +kernel
theorem d_Mo_print_33 : decode prog_12_method_43_code 33 = .ok (.istore_n 2, 1) := by decide +kernel
theorem d_Mo_print_34 : decode prog_12_method_43_code 34 = .ok (.iconst 1, 1) := by decide +kernel
theorem d_Mo_print_35 : decode prog_12_method_43_code 35 = .ok (.istore_n 3, 1) := by decide +kernel
theorem d_Mo_print_36 : decode prog_12_method_43_code 36 = .ok (.iload_n 2, 1) := by decide +kernel
theorem d_Mo_print_37 : decode prog_12_method_43_code 37 = .ok (.ifCond .lt 77, 3) := by decide +kernel
theorem d_Mo_print_40 : decode prog_12_method_43_code 40 = .ok (.iload_n 3, 1) := by decide +kernel
theorem d_Mo_print_41 : decode prog_12_method_43_code 41 = .ok (.bipush 50, 2) := by decide +kernel
theorem d_Mo_print_43 : decode prog_12_method_43_code 43 = .ok (.if_icmp .ge 71, 3) := by decide +kernel
theorem d_Mo_print_46 : decode prog_12_method_43_code 46 = .ok (.bipush 50, 2) := by decide +kernel
theorem d_Mo_print_48 : decode prog_12_method_43_code 48 = .ok (.iload_n 2, 1) := by decide +kernel
theorem d_Mo_print_49 : decode prog_12_method_43_code 49 = .ok (.imul, 1) := by decide +kernel
theorem d_Mo_print_50 : decode prog_12_method_43_code 50 = .ok (.iload_n 3, 1) := by decide +kernel
theorem d_Mo_print_51 : decode prog_12_method_43_code 51 = .ok (.iadd, 1) := by decide +kernel
theorem d_Mo_print_52 : decode prog_12_method_43_code 52 = .ok (.istore 4, 2) := by decide +kernel
theorem d_Mo_print_54 : decode prog_12_method_43_code 54 = .ok (.aload_n 0, 1) := by decide +kernel
theorem d_Mo_print_55 : decode prog_12_method_43_code 55 = .ok (.getfield 20, 3) := by decide +kernel
theorem d_Mo_print_58 : decode prog_12_method_43_code 58 = .ok (.iload 4, 2) := by decide +kernel
theorem d_Mo_print_60 : decode prog_12_method_43_code 60 = .ok (.baload, 1) := by decide +kernel
theorem d_Mo_print_61 : decode prog_12_method_43_code 61 = .ok (.ifCond .eq 15, 3) := by decide +kernel
theorem d_Mo_print_64 : decode prog_12_method_43_code 64 = .ok (.iload_n 3, 1) := by decide +kernel
theorem d_Mo_print_65 : decode prog_12_method_43_code 65 = .ok (.bipush 40, 2) := by decide +kernel
theorem d_Mo_print_67 : decode prog_12_method_43_code 67 = .ok (.if_icmp .gt 9, 3) := by decide +kernel
theorem d_Mo_print_70 : decode prog_12_method_43_code 70 = .ok (.aload_n 0, 1) := by decide +kernel
theorem d_Mo_print_71 : decode prog_12_method_43_code 71 = .ok (.iload 4, 2) := by decide +kernel
theorem d_Mo_print_73 : decode prog_12_method_43_code 73 = .ok (.invokevirtual 189, 3) := by decide +kernel
theorem d_Mo_print_76 : decode prog_12_method_43_code 76 = .ok (.aload_n 0, 1) := by decide +kernel
theorem d_Mo_print_77 : decode prog_12_method_43_code 77 = .ok (.getfield 20, 3) := by decide +kernel
theorem d_Mo_print_80 : decode prog_12_method_43_code 80 = .ok (.iload 4, 2) := by decide +kernel
theorem d_Mo_print_82 : decode prog_12_method_43_code 82 = .ok (.baload, 1) := by decide +kernel
theorem d_Mo_print_83 : decode prog_12_method_43_code 83 = .ok (.ifCond .eq 25, 3) := by decide +kernel
theorem d_Mo_print_86 : decode prog_12_method_43_code 86 = .ok (.iload_n 3, 1) := by decide +kernel
theorem d_Mo_print_87 : decode prog_12_method_43_code 87 = .ok (.bipush 40, 2) := by decide +kernel
theorem d_Mo_print_89 : decode prog_12_method_43_code 89 = .ok (.if_icmp .le 19, 3) := by decide +kernel
theorem d_Mo_print_92 : decode prog_12_method_43_code 92 = .ok (.aload_n 0, 1) := by decide +kernel
theorem d_Mo_print_93 : decode prog_12_method_43_code 93 = .ok (.bipush 100, 2) := by decide +kernel
theorem d_Mo_print_95 : decode prog_12_method_43_code 95 = .ok (.iload_n 3, 1) := by decide +kernel
theorem d_Mo_print_96 : decode prog_12_method_43_code 96 = .ok (.bipush 40, 2) := by decide +kernel
theorem d_Mo_print_98 : decode prog_12_method_43_code 98 = .ok (.isub, 1) := by decide +kernel
theorem d_Mo_print_99 : decode prog_12_method_43_code 99 = .ok (.invokevirtual 182, 3) := by decide +kernel
theorem d_Mo_print_102 : decode prog_12_method_43_code 102 = .ok (.aload_n 0, 1) := by decide +kernel
theorem d_Mo_print_103 : decode prog_12_method_43_code 103 = .ok (.iload 4, 2) := by decide +kernel
theorem d_Mo_print_105 : decode prog_12_method_43_code 105 = .ok (.invokevirtual 186, 3) := by decide +kernel
theorem d_Mo_print_108 : decode prog_12_method_43_code 108 = .ok (.iinc 3 1, 3) := by decide +kernel
theorem d_Mo_print_111 : decode prog_12_method_43_code 111 = .ok (.goto (-75), 3) := by decide +kernel
theorem d_Mo_print_114 : decode prog_12_method_43_code 114 = .ok (.iconst 0, 1) := by decide +kernel
theorem d_Mo_print_115 : decode prog_12_method_43_code 115 = .ok (.istore_n 3, 1) := by decide +kernel
theorem d_Mo_print_116 : decode prog_12_method_43_code 116 = .ok (.iload_n 2, 1) := by decide +kernel
theorem d_Mo_print_117 : decode prog_12_method_43_code 117 = .ok (.ifCond .lt 115, 3) := by decide +kernel
theorem d_Mo_print_120 : decode prog_12_method_43_code 120 = .ok (.iload_n 3, 1) := by decide +kernel
theorem d_Mo_print_121 : decode prog_12_method_43_code 121 = .ok (.aload_n 0, 1) := by decide +kernel
theorem d_Mo_print_122 : decode prog_12_method_43_code 122 = .ok (.getfield 51, 3) := by decide +kernel
theorem d_Mo_print_125 : decode prog_12_method_43_code 125 = .ok (.iload_n 2, 1) := by decide +kernel
theorem d_Mo_print_126 : decode prog_12_method_43_code 126 = .ok (.iaload, 1) := by decide +kernel
theorem d_Mo_print_127 : decode prog_12_method_43_code 127 = .ok (.if_icmp .ge 105, 3) := by decide +kernel
theorem d_Mo_print_130 : decode prog_12_method_43_code 130 = .ok (.bipush 40, 2) := by decide +kernel
theorem d_Mo_print_132 : decode prog_12_method_43_code 132 = .ok (.iload_n 2, 1) := by decide +kernel
theorem d_Mo_print_133 : decode prog_12_method_43_code 133 = .ok (.imul, 1) := by decide +kernel
theorem d_Mo_print_134 : decode prog_12_method_43_code 134 = .ok (.iconst 5, 1) := by decide +kernel
theorem d_Mo_print_135 : decode prog_12_method_43_code 135 = .ok (.iload_n 3, 1) := by decide +kernel
theorem d_Mo_print_136 : decode prog_12_method_43_code 136 = .ok (.imul, 1) := by decide +kernel
theorem d_Mo_print_137 : decode prog_12_method_43_code 137 = .ok (.iadd, 1) := by decide +kernel
theorem d_Mo_print_138 : decode prog_12_method_43_code 138 = .ok (.istore 4, 2) := by decide +kernel
theorem d_Mo_print_140 : decode prog_12_method_43_code 140 = .ok (.aload_n 0, 1) := by decide +kernel
theorem d_Mo_print_141 : decode prog_12_method_43_code 141 = .ok (.bipush 115, 2) := by decide +kernel
theorem d_Mo_print_143 : decode prog_12_method_43_code 143 = .ok (.invokevirtual 179, 3) := by decide +kernel
theorem d_Mo_print_146 : decode prog_12_method_43_code 146 = .ok (.aload_n 0, 1) := by decide +kernel
theorem d_Mo_print_147 : decode prog_12_method_43_code 147 = .ok (.bipush 91, 2) := by decide +kernel
theorem d_Mo_print_149 : decode prog_12_method_43_code 149 = .ok (.aload_n 0, 1) := by decide +kernel
theorem d_Mo_print_150 : decode prog_12_method_43_code 150 = .ok (.getfield 54, 3) := by decide +kernel
theorem d_Mo_print_153 : decode prog_12_method_43_code 153 = .ok (.iload 4, 2) := by decide +kernel
theorem d_Mo_print_155 : decode prog_12_method_43_code 155 = .ok (.iaload, 1) := by decide +kernel
theorem d_Mo_print_156 : decode prog_12_method_43_code 156 = .ok (.invokevirtual 182, 3) := by decide +kernel
theorem d_Mo_print_159 : decode prog_12_method_43_code 159 = .ok (.aload_n 0, 1) := by decide +kernel
theorem d_Mo_print_160 : decode prog_12_method_43_code 160 = .ok (.bipush 45, 2) := by decide +kernel
theorem d_Mo_print_162 : decode prog_12_method_43_code 162 = .ok (.aload_n 0, 1) := by decide +kernel
theorem d_Mo_print_163 : decode prog_12_method_43_code 163 = .ok (.getfield 54, 3) := by decide +kernel
theorem d_Mo_print_166 : decode prog_12_method_43_code 166 = .ok (.iload 4, 2) := by decide +kernel
theorem d_Mo_print_168 : decode prog_12_method_43_code 168 = .ok (.iconst 1, 1) := by decide +kernel
theorem d_Mo_print_169 : decode prog_12_method_43_code 169 = .ok (.iadd, 1) := by decide +kernel
theorem d_Mo_print_170 : decode prog_12_method_43_code 170 = .ok (.iaload, 1) := by decide +kernel
theorem d_Mo_print_171 : decode prog_12_method_43_code 171 = .ok (.invokevirtual 182, 3) := by decide +kernel
theorem d_Mo_print_174 : decode prog_12_method_43_code 174 = .ok (.aload_n 0, 1) := by decide +kernel
theorem d_Mo_print_175 : decode prog_12_method_43_code 175 = .ok (.bipush 93, 2) := by decide +kernel
theorem d_Mo_print_177 : decode prog_12_method_43_code 177 = .ok (.aload_n 0, 1) := by decide +kernel
theorem d_Mo_print_178 : decode prog_12_method_43_code 178 = .ok (.getfield 54, 3) := by decide +kernel
theorem d_Mo_print_181 : decode prog_12_method_43_code 181 = .ok (.iload 4, 2) := by decide +kernel
theorem d_Mo_print_183 : decode prog_12_method_43_code 183 = .ok (.iconst 2, 1) := by decide +kernel
theorem d_Mo_print_184 : decode prog_12_method_43_code 184 = .ok (.iadd, 1) := by decide +kernel
theorem d_Mo_print_185 : decode prog_12_method_43_code 185 = .ok (.iaload, 1) := by decide +kernel
theorem d_Mo_print_186 : decode prog_12_method_43_code 186 = .ok (.invokevirtual 182, 3) := by decide +kernel
theorem d_Mo_print_189 : decode prog_12_method_43_code 189 = .ok (.aload_n 0, 1) := by decide +kernel
theorem d_Mo_print_190 : decode prog_12_method_43_code 190 = .ok (.bipush 58, 2) := by decide +kernel
theorem d_Mo_print_192 : decode prog_12_method_43_code 192 = .ok (.aload_n 0, 1) := by decide +kernel
theorem d_Mo_print_193 : decode prog_12_method_43_code 193 = .ok (.getfield 54, 3) := by decide +kernel
theorem d_Mo_print_196 : decode prog_12_method_43_code 196 = .ok (.iload 4, 2) := by decide +kernel
theorem d_Mo_print_198 : decode prog_12_method_43_code 198 = .ok (.iconst 3, 1) := by decide +kernel
theorem d_Mo_print_199 : decode prog_12_method_43_code 199 = .ok (.iadd, 1) := by decide +kernel
theorem d_Mo_print_200 : decode prog_12_method_43_code 200 = .ok (.iaload, 1) := by decide +kernel
theorem d_Mo_print_201 : decode prog_12_method_43_code 201 = .ok (.invokevirtual 182, 3) := by decide +kernel
theorem d_Mo_print_204 : decode prog_12_method_43_code 204 = .ok (.aload_n 0, 1) := by decide +kernel
theorem d_Mo_print_205 : decode prog_12_method_43_code 205 = .ok (.bipush 97, 2) := by decide +kernel
theorem d_Mo_print_207 : decode prog_12_method_43_code 207 = .ok (.aload_n 0, 1) := by decide +kernel
theorem d_Mo_print_208 : decode prog_12_method_43_code 208 = .ok (.getfield 54, 3) := by decide +kernel
theorem d_Mo_print_211 : decode prog_12_method_43_code 211 = .ok (.iload 4, 2) := by decide +kernel
theorem d_Mo_print_213 : decode prog_12_method_43_code 213 = .ok (.iconst 4, 1) := by decide +kernel
theorem d_Mo_print_214 : decode prog_12_method_43_code 214 = .ok (.iadd, 1) := by decide +kernel
theorem d_Mo_print_215 : decode prog_12_method_43_code 215 = .ok (.iaload, 1) := by decide +kernel
theorem d_Mo_print_216 : decode prog_12_method_43_code 216 = .ok (.iadd, 1) := by decide +kernel
theorem d_Mo_print_217 : decode prog_12_method_43_code 217 = .ok (.invokevirtual 179, 3) := by decide +kernel
theorem d_Mo_print_220 : decode prog_12_method_43_code 220 = .ok (.aload_n 0, 1) := by decide +kernel
theorem d_Mo_print_221 : decode prog_12_method_43_code 221 = .ok (.bipush 59, 2) := by decide +kernel
theorem d_Mo_print_223 : decode prog_12_method_43_code 223 = .ok (.invokevirtual 179, 3) := by decide +kernel
theorem d_Mo_print_226 : decode prog_12_method_43_code 226 = .ok (.iinc 3 1, 3) := by decide +kernel
theorem d_Mo_print_229 : decode prog_12_method_43_code 229 = .ok (.goto (-113), 3) := by decide +kernel
theorem d_Mo_print_232 : decode prog_12_method_43_code 232 = .ok (.aload_n 0, 1) := by decide +kernel
theorem d_Mo_print_233 : decode prog_12_method_43_code 233 = .ok (.getfield 176, 3) := by decide +kernel
theorem d_Mo_print_236 : decode prog_12_method_43_code 236 = .ok (.ireturn, 1) := by decide +kernel
def B_Mo_print_232  (x0 : Nat) (S : gS) : Option (Int32 × gS) := Option.bind (gI S x0 10 25) (fun v1 => some (v1, S))
set_option maxRecDepth 100000 in
set_option maxHeartbeats 4000000 in
theorem w_Mo_print_232 {D : va_G} {cT : Nat → ClassId} {H0 : Heap} {l : Launch} {p : Program} {e : Env} {s : State} {m : MethodId} {args : Array Value} {below : List Frame} {meth : Method} {c : Code} {S0 : gS} {S' : gS} {r : Int32} (Y : gY D cT H0 p s m args meth c prog_12_method_43_code 5 "PlanTextModel" 4 88 S0 (Option.some Jvm.ClassFile.FieldType.int))  (x0 : Nat) (S : gS) (hden : B_Mo_print_232  x0 S = some (r, S')) {ls : Array Slot} (hl : lv_has ls 5 [(0, va_rf (some x0))]) : gV D cT H0 p l e (gRm 4 88 S0) s m args below meth c (gQ D cT H0 below S0 S' (.inr (some (.int r))) s) S0 S (F0 m 232 ls []) := by
  obtain ⟨X, hZ, hex, hr, hE⟩ := id Y
  have hx := X.1
  have hb := X.2.1
  unfold B_Mo_print_232 at hden
  refine gV.lift (fun _ _ _ _ => g_aload_n hx hb d_Mo_print_232 rfl (lv_at hl 0 rfl)) ?_
  replace hden := gb hden
  obtain ⟨v1, hv, hden⟩ := hden
  refine r_getI X cl_Mo (k := 25) hv (by decide) q_790 d_Mo_print_233 ?_
  obtain ⟨rfl, rfl⟩ := gpi hden
  exact g_iret X hr d_Mo_print_236
def B_Mo_print_116 (k116 : Nat → Int32 → Int32 → gS → Option (Int32 × gS)) (x0 : Nat) (x2 : Int32) (x3 : Int32) (S : gS) : Option (Int32 × gS) := (if x2 < 0 then B_Mo_print_232  x0 S else Option.bind (gRf S x0 10 20) (fun r2 => Option.bind r2 (fun a3 => Option.bind (gAI S a3 0 x2) (fun v4 => (if v4 ≤ x3 then B_Mo_print_232  x0 S else Option.bind (gOb S x0 10) (fun fs7 => Option.bind (D_Mo_put x0 115 S) (fun S6 => Option.bind (gRf S6 x0 10 21) (fun r8 => Option.bind r8 (fun a9 => Option.bind (gAI S6 a9 0 ((40 * x2) + (5 * x3))) (fun v10 => Option.bind (gOb S6 x0 10) (fun fs12 => Option.bind (D_Mo_putNumber x0 91 v10 S6) (fun S11 => Option.bind (gRf S11 x0 10 21) (fun r13 => Option.bind r13 (fun a14 => Option.bind (gAI S11 a14 0 (((40 * x2) + (5 * x3)) + 1)) (fun v15 => Option.bind (gOb S11 x0 10) (fun fs17 => Option.bind (D_Mo_putNumber x0 45 v15 S11) (fun S16 => Option.bind (gRf S16 x0 10 21) (fun r18 => Option.bind r18 (fun a19 => Option.bind (gAI S16 a19 0 (((40 * x2) + (5 * x3)) + 2)) (fun v20 => Option.bind (gOb S16 x0 10) (fun fs22 => Option.bind (D_Mo_putNumber x0 93 v20 S16) (fun S21 => Option.bind (gRf S21 x0 10 21) (fun r23 => Option.bind r23 (fun a24 => Option.bind (gAI S21 a24 0 (((40 * x2) + (5 * x3)) + 3)) (fun v25 => Option.bind (gOb S21 x0 10) (fun fs27 => Option.bind (D_Mo_putNumber x0 58 v25 S21) (fun S26 => Option.bind (gRf S26 x0 10 21) (fun r28 => Option.bind r28 (fun a29 => Option.bind (gAI S26 a29 0 (((40 * x2) + (5 * x3)) + 4)) (fun v30 => Option.bind (gOb S26 x0 10) (fun fs32 => Option.bind (D_Mo_put x0 (97 + v30) S26) (fun S31 => Option.bind (gOb S31 x0 10) (fun fs34 => Option.bind (D_Mo_put x0 59 S31) (fun S33 => k116 x0 x2 (x3 + 1) S33))))))))))))))))))))))))))))))))))
set_option maxRecDepth 100000 in
set_option maxHeartbeats 4000000 in
theorem w_Mo_print_116 {D : va_G} {cT : Nat → ClassId} {H0 : Heap} {l : Launch} {p : Program} {e : Env} {s : State} {m : MethodId} {args : Array Value} {below : List Frame} {meth : Method} {c : Code} {S0 : gS} {S' : gS} {r : Int32} (Y : gY D cT H0 p s m args meth c prog_12_method_43_code 5 "PlanTextModel" 4 88 S0 (Option.some Jvm.ClassFile.FieldType.int)) {k116 : Nat → Int32 → Int32 → gS → Option (Int32 × gS)} (hk116 : ∀ (x0 : Nat) (x2 : Int32) (x3 : Int32) (S : gS) (ls : Array Slot), k116 x0 x2 x3 S = some (r, S') → lv_has ls 5 [(0, va_rf (some x0)), (2, .int x2), (3, .int x3)] → gV D cT H0 p l e (gRm 4 88 S0) s m args below meth c (gQ D cT H0 below S0 S' (.inr (some (.int r))) s) S0 S (F0 m 116 ls [])) (x0 : Nat) (x2 : Int32) (x3 : Int32) (S : gS) (hden : B_Mo_print_116 k116 x0 x2 x3 S = some (r, S')) {ls : Array Slot} (hl : lv_has ls 5 [(0, va_rf (some x0)), (2, .int x2), (3, .int x3)]) : gV D cT H0 p l e (gRm 4 88 S0) s m args below meth c (gQ D cT H0 below S0 S' (.inr (some (.int r))) s) S0 S (F0 m 116 ls []) := by
  obtain ⟨X, hZ, hex, hr, hE⟩ := id Y
  have hx := X.1
  have hb := X.2.1
  unfold B_Mo_print_116 at hden
  refine gV.lift (fun _ _ _ _ => lv_iload_n hx hb d_Mo_print_116 rfl (lv_at hl 1 rfl)) ?_
  refine gV.lift2 (fun _ _ _ _ => lv_if_lt (tgt := 232) hx hb d_Mo_print_117 (by decide)) (fun hc1 => ?_) (fun hc1 => ?_)
  · replace hden := gip hc1 hden
    exact w_Mo_print_232 Y  x0 S hden (lv_sub hl [0] rfl)
  · replace hden := gin hc1 hden
    refine gV.lift (fun _ _ _ _ => lv_iload_n hx hb d_Mo_print_120 rfl (lv_at hl 2 rfl)) ?_
    refine gV.lift (fun _ _ _ _ => g_aload_n hx hb d_Mo_print_121 rfl (lv_at hl 0 rfl)) ?_
    replace hden := gb hden
    obtain ⟨r2, hv, hden⟩ := hden
    refine r_getR X cl_Mo (k := 20) hv (by decide) q_785 d_Mo_print_122 ?_
    refine gV.lift (fun _ _ _ _ => lv_iload_n hx hb d_Mo_print_125 rfl (lv_at hl 1 rfl)) ?_
    replace hden := gb hden
    obtain ⟨a3, rfl, hden⟩ := hden
    replace hden := gb hden
    obtain ⟨v4, hv, hden⟩ := hden
    refine r_iald X (t := 0) rfl hv d_Mo_print_126 ?_
    refine gV.lift2 (fun _ _ _ _ => lv_icmp_ge (tgt := 232) hx hb d_Mo_print_127 (by decide)) (fun hc5 => ?_) (fun hc5 => ?_)
    · replace hden := gip hc5 hden
      exact w_Mo_print_232 Y  x0 S hden (lv_sub hl [0] rfl)
    · replace hden := gin hc5 hden
      refine gV.lift (fun _ _ _ _ => lv_bipush (v := 40) hx hb d_Mo_print_130 (by decide)) ?_
      refine gV.lift (fun _ _ _ _ => lv_iload_n hx hb d_Mo_print_132 rfl (lv_at hl 1 rfl)) ?_
      refine gV.lift (fun _ _ _ _ => lv_imul hx hb d_Mo_print_133) ?_
      refine gV.lift (fun _ _ _ _ => lv_iconst (v := 5) hx hb d_Mo_print_134 (by decide)) ?_
      refine gV.lift (fun _ _ _ _ => lv_iload_n hx hb d_Mo_print_135 rfl (lv_at hl 2 rfl)) ?_
      refine gV.lift (fun _ _ _ _ => lv_imul hx hb d_Mo_print_136) ?_
      refine gV.lift (fun _ _ _ _ => lv_iadd hx hb d_Mo_print_137) ?_
      refine gV.liftS (nL := 5) (lv' := [(4, .int ((40 * x2) + (5 * x3))), (0, va_rf (some x0)), (2, .int x2), (3, .int x3)]) (fun _ _ _ _ => lv_istore hx hb d_Mo_print_138 hl (by decide) rfl) (fun ls hl => ?_)
      refine gV.lift (fun _ _ _ _ => g_aload_n hx hb d_Mo_print_140 rfl (lv_at hl 1 rfl)) ?_
      refine gV.lift (fun _ _ _ _ => lv_bipush (v := 115) hx hb d_Mo_print_141 (by decide)) ?_
      replace hden := gb hden
      obtain ⟨fs7, ho, hden⟩ := hden
      replace hden := gb hden
      obtain ⟨S6, hz, hden⟩ := hden
      refine g_callV (As := [.int 115]) (rest := []) X hZ (c_Mo_put hz) cl_Mo (gOb_spec ho) q_1005 q_5 q_1002 q_1004 qp_51 ⟨by decide, by decide, by show _ = some 1; decide +kernel⟩ ⟨by decide, by decide⟩ hl.1 (Nat.le_of_ble_eq_true rfl) d_Mo_print_143 rfl rfl ?_
      refine gV.lift (fun _ _ _ _ => g_aload_n hx hb d_Mo_print_146 rfl (lv_at hl 1 rfl)) ?_
      refine gV.lift (fun _ _ _ _ => lv_bipush (v := 91) hx hb d_Mo_print_147 (by decide)) ?_
      refine gV.lift (fun _ _ _ _ => g_aload_n hx hb d_Mo_print_149 rfl (lv_at hl 1 rfl)) ?_
      replace hden := gb hden
      obtain ⟨r8, hv, hden⟩ := hden
      refine r_getR X cl_Mo (k := 21) hv (by decide) q_786 d_Mo_print_150 ?_
      refine gV.lift (fun _ _ _ _ => lv_iload hx hb d_Mo_print_153 (lv_at hl 0 rfl)) ?_
      replace hden := gb hden
      obtain ⟨a9, rfl, hden⟩ := hden
      replace hden := gb hden
      obtain ⟨v10, hv, hden⟩ := hden
      refine r_iald X (t := 0) rfl hv d_Mo_print_155 ?_
      replace hden := gb hden
      obtain ⟨fs12, ho, hden⟩ := hden
      replace hden := gb hden
      obtain ⟨S11, hz, hden⟩ := hden
      refine g_callV (As := [.int 91, .int v10]) (rest := []) X hZ (c_Mo_putNumber hz) cl_Mo (gOb_spec ho) q_1001 q_5 q_998 q_1000 qp_50 ⟨by decide, by decide, by show _ = some 2; decide +kernel⟩ ⟨by decide, by decide⟩ hl.1 (Nat.le_of_ble_eq_true rfl) d_Mo_print_156 rfl rfl ?_
      refine gV.lift (fun _ _ _ _ => g_aload_n hx hb d_Mo_print_159 rfl (lv_at hl 1 rfl)) ?_
      refine gV.lift (fun _ _ _ _ => lv_bipush (v := 45) hx hb d_Mo_print_160 (by decide)) ?_
      refine gV.lift (fun _ _ _ _ => g_aload_n hx hb d_Mo_print_162 rfl (lv_at hl 1 rfl)) ?_
      replace hden := gb hden
      obtain ⟨r13, hv, hden⟩ := hden
      refine r_getR X cl_Mo (k := 21) hv (by decide) q_786 d_Mo_print_163 ?_
      refine gV.lift (fun _ _ _ _ => lv_iload hx hb d_Mo_print_166 (lv_at hl 0 rfl)) ?_
      refine gV.lift (fun _ _ _ _ => lv_iconst (v := 1) hx hb d_Mo_print_168 (by decide)) ?_
      refine gV.lift (fun _ _ _ _ => lv_iadd hx hb d_Mo_print_169) ?_
      replace hden := gb hden
      obtain ⟨a14, rfl, hden⟩ := hden
      replace hden := gb hden
      obtain ⟨v15, hv, hden⟩ := hden
      refine r_iald X (t := 0) rfl hv d_Mo_print_170 ?_
      replace hden := gb hden
      obtain ⟨fs17, ho, hden⟩ := hden
      replace hden := gb hden
      obtain ⟨S16, hz, hden⟩ := hden
      refine g_callV (As := [.int 45, .int v15]) (rest := []) X hZ (c_Mo_putNumber hz) cl_Mo (gOb_spec ho) q_1001 q_5 q_998 q_1000 qp_50 ⟨by decide, by decide, by show _ = some 2; decide +kernel⟩ ⟨by decide, by decide⟩ hl.1 (Nat.le_of_ble_eq_true rfl) d_Mo_print_171 rfl rfl ?_
      refine gV.lift (fun _ _ _ _ => g_aload_n hx hb d_Mo_print_174 rfl (lv_at hl 1 rfl)) ?_
      refine gV.lift (fun _ _ _ _ => lv_bipush (v := 93) hx hb d_Mo_print_175 (by decide)) ?_
      refine gV.lift (fun _ _ _ _ => g_aload_n hx hb d_Mo_print_177 rfl (lv_at hl 1 rfl)) ?_
      replace hden := gb hden
      obtain ⟨r18, hv, hden⟩ := hden
      refine r_getR X cl_Mo (k := 21) hv (by decide) q_786 d_Mo_print_178 ?_
      refine gV.lift (fun _ _ _ _ => lv_iload hx hb d_Mo_print_181 (lv_at hl 0 rfl)) ?_
      refine gV.lift (fun _ _ _ _ => lv_iconst (v := 2) hx hb d_Mo_print_183 (by decide)) ?_
      refine gV.lift (fun _ _ _ _ => lv_iadd hx hb d_Mo_print_184) ?_
      replace hden := gb hden
      obtain ⟨a19, rfl, hden⟩ := hden
      replace hden := gb hden
      obtain ⟨v20, hv, hden⟩ := hden
      refine r_iald X (t := 0) rfl hv d_Mo_print_185 ?_
      replace hden := gb hden
      obtain ⟨fs22, ho, hden⟩ := hden
      replace hden := gb hden
      obtain ⟨S21, hz, hden⟩ := hden
      refine g_callV (As := [.int 93, .int v20]) (rest := []) X hZ (c_Mo_putNumber hz) cl_Mo (gOb_spec ho) q_1001 q_5 q_998 q_1000 qp_50 ⟨by decide, by decide, by show _ = some 2; decide +kernel⟩ ⟨by decide, by decide⟩ hl.1 (Nat.le_of_ble_eq_true rfl) d_Mo_print_186 rfl rfl ?_
      refine gV.lift (fun _ _ _ _ => g_aload_n hx hb d_Mo_print_189 rfl (lv_at hl 1 rfl)) ?_
      refine gV.lift (fun _ _ _ _ => lv_bipush (v := 58) hx hb d_Mo_print_190 (by decide)) ?_
      refine gV.lift (fun _ _ _ _ => g_aload_n hx hb d_Mo_print_192 rfl (lv_at hl 1 rfl)) ?_
      replace hden := gb hden
      obtain ⟨r23, hv, hden⟩ := hden
      refine r_getR X cl_Mo (k := 21) hv (by decide) q_786 d_Mo_print_193 ?_
      refine gV.lift (fun _ _ _ _ => lv_iload hx hb d_Mo_print_196 (lv_at hl 0 rfl)) ?_
      refine gV.lift (fun _ _ _ _ => lv_iconst (v := 3) hx hb d_Mo_print_198 (by decide)) ?_
      refine gV.lift (fun _ _ _ _ => lv_iadd hx hb d_Mo_print_199) ?_
      replace hden := gb hden
      obtain ⟨a24, rfl, hden⟩ := hden
      replace hden := gb hden
      obtain ⟨v25, hv, hden⟩ := hden
      refine r_iald X (t := 0) rfl hv d_Mo_print_200 ?_
      replace hden := gb hden
      obtain ⟨fs27, ho, hden⟩ := hden
      replace hden := gb hden
      obtain ⟨S26, hz, hden⟩ := hden
      refine g_callV (As := [.int 58, .int v25]) (rest := []) X hZ (c_Mo_putNumber hz) cl_Mo (gOb_spec ho) q_1001 q_5 q_998 q_1000 qp_50 ⟨by decide, by decide, by show _ = some 2; decide +kernel⟩ ⟨by decide, by decide⟩ hl.1 (Nat.le_of_ble_eq_true rfl) d_Mo_print_201 rfl rfl ?_
      refine gV.lift (fun _ _ _ _ => g_aload_n hx hb d_Mo_print_204 rfl (lv_at hl 1 rfl)) ?_
      refine gV.lift (fun _ _ _ _ => lv_bipush (v := 97) hx hb d_Mo_print_205 (by decide)) ?_
      refine gV.lift (fun _ _ _ _ => g_aload_n hx hb d_Mo_print_207 rfl (lv_at hl 1 rfl)) ?_
      replace hden := gb hden
      obtain ⟨r28, hv, hden⟩ := hden
      refine r_getR X cl_Mo (k := 21) hv (by decide) q_786 d_Mo_print_208 ?_
      refine gV.lift (fun _ _ _ _ => lv_iload hx hb d_Mo_print_211 (lv_at hl 0 rfl)) ?_
      refine gV.lift (fun _ _ _ _ => lv_iconst (v := 4) hx hb d_Mo_print_213 (by decide)) ?_
      refine gV.lift (fun _ _ _ _ => lv_iadd hx hb d_Mo_print_214) ?_
      replace hden := gb hden
      obtain ⟨a29, rfl, hden⟩ := hden
      replace hden := gb hden
      obtain ⟨v30, hv, hden⟩ := hden
      refine r_iald X (t := 0) rfl hv d_Mo_print_215 ?_
      refine gV.lift (fun _ _ _ _ => lv_iadd hx hb d_Mo_print_216) ?_
      replace hden := gb hden
      obtain ⟨fs32, ho, hden⟩ := hden
      replace hden := gb hden
      obtain ⟨S31, hz, hden⟩ := hden
      refine g_callV (As := [.int (97 + v30)]) (rest := []) X hZ (c_Mo_put hz) cl_Mo (gOb_spec ho) q_1005 q_5 q_1002 q_1004 qp_51 ⟨by decide, by decide, by show _ = some 1; decide +kernel⟩ ⟨by decide, by decide⟩ hl.1 (Nat.le_of_ble_eq_true rfl) d_Mo_print_217 rfl rfl ?_
      refine gV.lift (fun _ _ _ _ => g_aload_n hx hb d_Mo_print_220 rfl (lv_at hl 1 rfl)) ?_
      refine gV.lift (fun _ _ _ _ => lv_bipush (v := 59) hx hb d_Mo_print_221 (by decide)) ?_
      replace hden := gb hden
      obtain ⟨fs34, ho, hden⟩ := hden
      replace hden := gb hden
      obtain ⟨S33, hz, hden⟩ := hden
      refine g_callV (As := [.int 59]) (rest := []) X hZ (c_Mo_put hz) cl_Mo (gOb_spec ho) q_1005 q_5 q_1002 q_1004 qp_51 ⟨by decide, by decide, by show _ = some 1; decide +kernel⟩ ⟨by decide, by decide⟩ hl.1 (Nat.le_of_ble_eq_true rfl) d_Mo_print_223 rfl rfl ?_
      refine gV.liftS (nL := 5) (lv' := [(3, .int (x3 + 1)), (4, .int ((40 * x2) + (5 * x3))), (0, va_rf (some x0)), (2, .int x2)]) (fun _ _ _ _ => lv_iinc (v := (x3 + 1)) hx hb d_Mo_print_226 hl (k := 3) rfl rfl (by decide) rfl) (fun ls hl => ?_)
      refine gV.lift (fun _ _ _ _ => lv_goto (tgt := 116) hx hb d_Mo_print_229 (by decide)) ?_
      exact hk116 x0 x2 (x3 + 1) S33 _ hden (lv_sub hl [2, 3, 0] rfl)
def L_Mo_print_116  : Nat → Nat → Int32 → Int32 → gS → Option (Int32 × gS)
  | 0 => fun _ _ _ _ => none
  | n + 1 => fun x0 x2 x3 S => B_Mo_print_116  (L_Mo_print_116  n) x0 x2 x3 S
theorem wL_Mo_print_116 {D : va_G} {cT : Nat → ClassId} {H0 : Heap} {l : Launch} {p : Program} {e : Env} {s : State} {m : MethodId} {args : Array Value} {below : List Frame} {meth : Method} {c : Code} {S0 : gS} {S' : gS} {r : Int32} (Y : gY D cT H0 p s m args meth c prog_12_method_43_code 5 "PlanTextModel" 4 88 S0 (Option.some Jvm.ClassFile.FieldType.int))  : ∀ (n : Nat) (x0 : Nat) (x2 : Int32) (x3 : Int32) (S : gS) (ls : Array Slot), L_Mo_print_116  n x0 x2 x3 S = some (r, S') → lv_has ls 5 [(0, va_rf (some x0)), (2, .int x2), (3, .int x3)] → gV D cT H0 p l e (gRm 4 88 S0) s m args below meth c (gQ D cT H0 below S0 S' (.inr (some (.int r))) s) S0 S (F0 m 116 ls []) := by
  intro n
  induction n with
  | zero => intro x0 x2 x3 S ls h hl; cases h
  | succ n ih => intro x0 x2 x3 S ls h hl; exact w_Mo_print_116 Y ih x0 x2 x3 S h hl
def B_Mo_print_114  (x0 : Nat) (x2 : Int32) (S : gS) : Option (Int32 × gS) := L_Mo_print_116  gF x0 x2 0 S
set_option maxRecDepth 100000 in
set_option maxHeartbeats 4000000 in
theorem w_Mo_print_114 {D : va_G} {cT : Nat → ClassId} {H0 : Heap} {l : Launch} {p : Program} {e : Env} {s : State} {m : MethodId} {args : Array Value} {below : List Frame} {meth : Method} {c : Code} {S0 : gS} {S' : gS} {r : Int32} (Y : gY D cT H0 p s m args meth c prog_12_method_43_code 5 "PlanTextModel" 4 88 S0 (Option.some Jvm.ClassFile.FieldType.int))  (x0 : Nat) (x2 : Int32) (S : gS) (hden : B_Mo_print_114  x0 x2 S = some (r, S')) {ls : Array Slot} (hl : lv_has ls 5 [(0, va_rf (some x0)), (2, .int x2)]) : gV D cT H0 p l e (gRm 4 88 S0) s m args below meth c (gQ D cT H0 below S0 S' (.inr (some (.int r))) s) S0 S (F0 m 114 ls []) := by
  obtain ⟨X, hZ, hex, hr, hE⟩ := id Y
  have hx := X.1
  have hb := X.2.1
  unfold B_Mo_print_114 at hden
  refine gV.lift (fun _ _ _ _ => lv_iconst (v := 0) hx hb d_Mo_print_114 (by decide)) ?_
  refine gV.liftS (nL := 5) (lv' := [(3, .int 0), (0, va_rf (some x0)), (2, .int x2)]) (fun _ _ _ _ => lv_istore_n hx hb d_Mo_print_115 rfl hl (by decide) rfl) (fun ls hl => ?_)
  exact wL_Mo_print_116 Y  gF x0 x2 0 S _ hden (lv_sub hl [1, 2, 0] rfl)
def B_Mo_print_108 (k36 : Nat → Int32 → Int32 → gS → Option (Int32 × gS)) (x0 : Nat) (x2 : Int32) (x3 : Int32) (S : gS) : Option (Int32 × gS) := k36 x0 x2 (x3 + 1) S
set_option maxRecDepth 100000 in
set_option maxHeartbeats 4000000 in
theorem w_Mo_print_108 {D : va_G} {cT : Nat → ClassId} {H0 : Heap} {l : Launch} {p : Program} {e : Env} {s : State} {m : MethodId} {args : Array Value} {below : List Frame} {meth : Method} {c : Code} {S0 : gS} {S' : gS} {r : Int32} (Y : gY D cT H0 p s m args meth c prog_12_method_43_code 5 "PlanTextModel" 4 88 S0 (Option.some Jvm.ClassFile.FieldType.int)) {k36 : Nat → Int32 → Int32 → gS → Option (Int32 × gS)} (hk36 : ∀ (x0 : Nat) (x2 : Int32) (x3 : Int32) (S : gS) (ls : Array Slot), k36 x0 x2 x3 S = some (r, S') → lv_has ls 5 [(0, va_rf (some x0)), (2, .int x2), (3, .int x3)] → gV D cT H0 p l e (gRm 4 88 S0) s m args below meth c (gQ D cT H0 below S0 S' (.inr (some (.int r))) s) S0 S (F0 m 36 ls [])) (x0 : Nat) (x2 : Int32) (x3 : Int32) (S : gS) (hden : B_Mo_print_108 k36 x0 x2 x3 S = some (r, S')) {ls : Array Slot} (hl : lv_has ls 5 [(0, va_rf (some x0)), (2, .int x2), (3, .int x3)]) : gV D cT H0 p l e (gRm 4 88 S0) s m args below meth c (gQ D cT H0 below S0 S' (.inr (some (.int r))) s) S0 S (F0 m 108 ls []) := by
  obtain ⟨X, hZ, hex, hr, hE⟩ := id Y
  have hx := X.1
  have hb := X.2.1
  unfold B_Mo_print_108 at hden
  refine gV.liftS (nL := 5) (lv' := [(3, .int (x3 + 1)), (0, va_rf (some x0)), (2, .int x2)]) (fun _ _ _ _ => lv_iinc (v := (x3 + 1)) hx hb d_Mo_print_108 hl (k := 2) rfl rfl (by decide) rfl) (fun ls hl => ?_)
  refine gV.lift (fun _ _ _ _ => lv_goto (tgt := 36) hx hb d_Mo_print_111 (by decide)) ?_
  exact hk36 x0 x2 (x3 + 1) S _ hden (lv_sub hl [1, 2, 0] rfl)
def B_Mo_print_76 (k36 : Nat → Int32 → Int32 → gS → Option (Int32 × gS)) (x0 : Nat) (x2 : Int32) (x3 : Int32) (x4 : Int32) (S : gS) : Option (Int32 × gS) := Option.bind (gRf S x0 10 10) (fun r1 => Option.bind r1 (fun a2 => Option.bind (gAI S a2 3 x4) (fun v3 => (if v3 = 0 then B_Mo_print_108 k36 x0 x2 x3 S else (if x3 ≤ 40 then B_Mo_print_108 k36 x0 x2 x3 S else Option.bind (gOb S x0 10) (fun fs7 => Option.bind (D_Mo_putNumber x0 100 (x3 - 40) S) (fun S6 => Option.bind (gOb S6 x0 10) (fun fs9 => Option.bind (D_Mo_putNeeds x0 x4 S6) (fun S8 => B_Mo_print_108 k36 x0 x2 x3 S8)))))))))
set_option maxRecDepth 100000 in
set_option maxHeartbeats 4000000 in
theorem w_Mo_print_76 {D : va_G} {cT : Nat → ClassId} {H0 : Heap} {l : Launch} {p : Program} {e : Env} {s : State} {m : MethodId} {args : Array Value} {below : List Frame} {meth : Method} {c : Code} {S0 : gS} {S' : gS} {r : Int32} (Y : gY D cT H0 p s m args meth c prog_12_method_43_code 5 "PlanTextModel" 4 88 S0 (Option.some Jvm.ClassFile.FieldType.int)) {k36 : Nat → Int32 → Int32 → gS → Option (Int32 × gS)} (hk36 : ∀ (x0 : Nat) (x2 : Int32) (x3 : Int32) (S : gS) (ls : Array Slot), k36 x0 x2 x3 S = some (r, S') → lv_has ls 5 [(0, va_rf (some x0)), (2, .int x2), (3, .int x3)] → gV D cT H0 p l e (gRm 4 88 S0) s m args below meth c (gQ D cT H0 below S0 S' (.inr (some (.int r))) s) S0 S (F0 m 36 ls [])) (x0 : Nat) (x2 : Int32) (x3 : Int32) (x4 : Int32) (S : gS) (hden : B_Mo_print_76 k36 x0 x2 x3 x4 S = some (r, S')) {ls : Array Slot} (hl : lv_has ls 5 [(0, va_rf (some x0)), (2, .int x2), (3, .int x3), (4, .int x4)]) : gV D cT H0 p l e (gRm 4 88 S0) s m args below meth c (gQ D cT H0 below S0 S' (.inr (some (.int r))) s) S0 S (F0 m 76 ls []) := by
  obtain ⟨X, hZ, hex, hr, hE⟩ := id Y
  have hx := X.1
  have hb := X.2.1
  unfold B_Mo_print_76 at hden
  refine gV.lift (fun _ _ _ _ => g_aload_n hx hb d_Mo_print_76 rfl (lv_at hl 0 rfl)) ?_
  replace hden := gb hden
  obtain ⟨r1, hv, hden⟩ := hden
  refine r_getR X cl_Mo (k := 10) hv (by decide) q_775 d_Mo_print_77 ?_
  refine gV.lift (fun _ _ _ _ => lv_iload hx hb d_Mo_print_80 (lv_at hl 3 rfl)) ?_
  replace hden := gb hden
  obtain ⟨a2, rfl, hden⟩ := hden
  replace hden := gb hden
  obtain ⟨v3, hv, hden⟩ := hden
  refine r_zald X (t := 3) rfl hv d_Mo_print_82 ?_
  refine gV.lift2 (fun _ _ _ _ => lv_if_eq (tgt := 108) hx hb d_Mo_print_83 (by decide)) (fun hc4 => ?_) (fun hc4 => ?_)
  · replace hden := gip hc4 hden
    exact w_Mo_print_108 Y hk36 x0 x2 x3 S hden (lv_sub hl [0, 1, 2] rfl)
  · replace hden := gin hc4 hden
    refine gV.lift (fun _ _ _ _ => lv_iload_n hx hb d_Mo_print_86 rfl (lv_at hl 2 rfl)) ?_
    refine gV.lift (fun _ _ _ _ => lv_bipush (v := 40) hx hb d_Mo_print_87 (by decide)) ?_
    refine gV.lift2 (fun _ _ _ _ => lv_icmp_le (tgt := 108) hx hb d_Mo_print_89 (by decide)) (fun hc5 => ?_) (fun hc5 => ?_)
    · replace hden := gip hc5 hden
      exact w_Mo_print_108 Y hk36 x0 x2 x3 S hden (lv_sub hl [0, 1, 2] rfl)
    · replace hden := gin hc5 hden
      refine gV.lift (fun _ _ _ _ => g_aload_n hx hb d_Mo_print_92 rfl (lv_at hl 0 rfl)) ?_
      refine gV.lift (fun _ _ _ _ => lv_bipush (v := 100) hx hb d_Mo_print_93 (by decide)) ?_
      refine gV.lift (fun _ _ _ _ => lv_iload_n hx hb d_Mo_print_95 rfl (lv_at hl 2 rfl)) ?_
      refine gV.lift (fun _ _ _ _ => lv_bipush (v := 40) hx hb d_Mo_print_96 (by decide)) ?_
      refine gV.lift (fun _ _ _ _ => lv_isub hx hb d_Mo_print_98) ?_
      replace hden := gb hden
      obtain ⟨fs7, ho, hden⟩ := hden
      replace hden := gb hden
      obtain ⟨S6, hz, hden⟩ := hden
      refine g_callV (As := [.int 100, .int (x3 - 40)]) (rest := []) X hZ (c_Mo_putNumber hz) cl_Mo (gOb_spec ho) q_1001 q_5 q_998 q_1000 qp_50 ⟨by decide, by decide, by show _ = some 2; decide +kernel⟩ ⟨by decide, by decide⟩ hl.1 (Nat.le_of_ble_eq_true rfl) d_Mo_print_99 rfl rfl ?_
      refine gV.lift (fun _ _ _ _ => g_aload_n hx hb d_Mo_print_102 rfl (lv_at hl 0 rfl)) ?_
      refine gV.lift (fun _ _ _ _ => lv_iload hx hb d_Mo_print_103 (lv_at hl 3 rfl)) ?_
      replace hden := gb hden
      obtain ⟨fs9, ho, hden⟩ := hden
      replace hden := gb hden
      obtain ⟨S8, hz, hden⟩ := hden
      refine g_callV (As := [.int x4]) (rest := []) X hZ (c_Mo_putNeeds hz) cl_Mo (gOb_spec ho) q_1009 q_5 q_1006 q_1008 qp_52 ⟨by decide, by decide, by show _ = some 1; decide +kernel⟩ ⟨by decide, by decide⟩ hl.1 (Nat.le_of_ble_eq_true rfl) d_Mo_print_105 rfl rfl ?_
      exact w_Mo_print_108 Y hk36 x0 x2 x3 S8 hden (lv_sub hl [0, 1, 2] rfl)
def B_Mo_print_36 (k36 : Nat → Int32 → Int32 → gS → Option (Int32 × gS)) (x0 : Nat) (x2 : Int32) (x3 : Int32) (S : gS) : Option (Int32 × gS) := (if x2 < 0 then B_Mo_print_114  x0 x2 S else (if 50 ≤ x3 then B_Mo_print_114  x0 x2 S else Option.bind (gRf S x0 10 10) (fun r3 => Option.bind r3 (fun a4 => Option.bind (gAI S a4 3 ((50 * x2) + x3)) (fun v5 => (if v5 = 0 then B_Mo_print_76 k36 x0 x2 x3 ((50 * x2) + x3) S else (if 40 < x3 then B_Mo_print_76 k36 x0 x2 x3 ((50 * x2) + x3) S else Option.bind (gOb S x0 10) (fun fs9 => Option.bind (D_Mo_putPlan x0 ((50 * x2) + x3) S) (fun S8 => B_Mo_print_76 k36 x0 x2 x3 ((50 * x2) + x3) S8)))))))))
set_option maxRecDepth 100000 in
set_option maxHeartbeats 4000000 in
theorem w_Mo_print_36 {D : va_G} {cT : Nat → ClassId} {H0 : Heap} {l : Launch} {p : Program} {e : Env} {s : State} {m : MethodId} {args : Array Value} {below : List Frame} {meth : Method} {c : Code} {S0 : gS} {S' : gS} {r : Int32} (Y : gY D cT H0 p s m args meth c prog_12_method_43_code 5 "PlanTextModel" 4 88 S0 (Option.some Jvm.ClassFile.FieldType.int)) {k36 : Nat → Int32 → Int32 → gS → Option (Int32 × gS)} (hk36 : ∀ (x0 : Nat) (x2 : Int32) (x3 : Int32) (S : gS) (ls : Array Slot), k36 x0 x2 x3 S = some (r, S') → lv_has ls 5 [(0, va_rf (some x0)), (2, .int x2), (3, .int x3)] → gV D cT H0 p l e (gRm 4 88 S0) s m args below meth c (gQ D cT H0 below S0 S' (.inr (some (.int r))) s) S0 S (F0 m 36 ls [])) (x0 : Nat) (x2 : Int32) (x3 : Int32) (S : gS) (hden : B_Mo_print_36 k36 x0 x2 x3 S = some (r, S')) {ls : Array Slot} (hl : lv_has ls 5 [(0, va_rf (some x0)), (2, .int x2), (3, .int x3)]) : gV D cT H0 p l e (gRm 4 88 S0) s m args below meth c (gQ D cT H0 below S0 S' (.inr (some (.int r))) s) S0 S (F0 m 36 ls []) := by
  obtain ⟨X, hZ, hex, hr, hE⟩ := id Y
  have hx := X.1
  have hb := X.2.1
  unfold B_Mo_print_36 at hden
  refine gV.lift (fun _ _ _ _ => lv_iload_n hx hb d_Mo_print_36 rfl (lv_at hl 1 rfl)) ?_
  refine gV.lift2 (fun _ _ _ _ => lv_if_lt (tgt := 114) hx hb d_Mo_print_37 (by decide)) (fun hc1 => ?_) (fun hc1 => ?_)
  · replace hden := gip hc1 hden
    exact w_Mo_print_114 Y  x0 x2 S hden (lv_sub hl [0, 1] rfl)
  · replace hden := gin hc1 hden
    refine gV.lift (fun _ _ _ _ => lv_iload_n hx hb d_Mo_print_40 rfl (lv_at hl 2 rfl)) ?_
    refine gV.lift (fun _ _ _ _ => lv_bipush (v := 50) hx hb d_Mo_print_41 (by decide)) ?_
    refine gV.lift2 (fun _ _ _ _ => lv_icmp_ge (tgt := 114) hx hb d_Mo_print_43 (by decide)) (fun hc2 => ?_) (fun hc2 => ?_)
    · replace hden := gip hc2 hden
      exact w_Mo_print_114 Y  x0 x2 S hden (lv_sub hl [0, 1] rfl)
    · replace hden := gin hc2 hden
      refine gV.lift (fun _ _ _ _ => lv_bipush (v := 50) hx hb d_Mo_print_46 (by decide)) ?_
      refine gV.lift (fun _ _ _ _ => lv_iload_n hx hb d_Mo_print_48 rfl (lv_at hl 1 rfl)) ?_
      refine gV.lift (fun _ _ _ _ => lv_imul hx hb d_Mo_print_49) ?_
      refine gV.lift (fun _ _ _ _ => lv_iload_n hx hb d_Mo_print_50 rfl (lv_at hl 2 rfl)) ?_
      refine gV.lift (fun _ _ _ _ => lv_iadd hx hb d_Mo_print_51) ?_
      refine gV.liftS (nL := 5) (lv' := [(4, .int ((50 * x2) + x3)), (0, va_rf (some x0)), (2, .int x2), (3, .int x3)]) (fun _ _ _ _ => lv_istore hx hb d_Mo_print_52 hl (by decide) rfl) (fun ls hl => ?_)
      refine gV.lift (fun _ _ _ _ => g_aload_n hx hb d_Mo_print_54 rfl (lv_at hl 1 rfl)) ?_
      replace hden := gb hden
      obtain ⟨r3, hv, hden⟩ := hden
      refine r_getR X cl_Mo (k := 10) hv (by decide) q_775 d_Mo_print_55 ?_
      refine gV.lift (fun _ _ _ _ => lv_iload hx hb d_Mo_print_58 (lv_at hl 0 rfl)) ?_
      replace hden := gb hden
      obtain ⟨a4, rfl, hden⟩ := hden
      replace hden := gb hden
      obtain ⟨v5, hv, hden⟩ := hden
      refine r_zald X (t := 3) rfl hv d_Mo_print_60 ?_
      refine gV.lift2 (fun _ _ _ _ => lv_if_eq (tgt := 76) hx hb d_Mo_print_61 (by decide)) (fun hc6 => ?_) (fun hc6 => ?_)
      · replace hden := gip hc6 hden
        exact w_Mo_print_76 Y hk36 x0 x2 x3 ((50 * x2) + x3) S hden (lv_sub hl [1, 2, 3, 0] rfl)
      · replace hden := gin hc6 hden
        refine gV.lift (fun _ _ _ _ => lv_iload_n hx hb d_Mo_print_64 rfl (lv_at hl 3 rfl)) ?_
        refine gV.lift (fun _ _ _ _ => lv_bipush (v := 40) hx hb d_Mo_print_65 (by decide)) ?_
        refine gV.lift2 (fun _ _ _ _ => lv_icmp_gt (tgt := 76) hx hb d_Mo_print_67 (by decide)) (fun hc7 => ?_) (fun hc7 => ?_)
        · replace hden := gip hc7 hden
          exact w_Mo_print_76 Y hk36 x0 x2 x3 ((50 * x2) + x3) S hden (lv_sub hl [1, 2, 3, 0] rfl)
        · replace hden := gin hc7 hden
          refine gV.lift (fun _ _ _ _ => g_aload_n hx hb d_Mo_print_70 rfl (lv_at hl 1 rfl)) ?_
          refine gV.lift (fun _ _ _ _ => lv_iload hx hb d_Mo_print_71 (lv_at hl 0 rfl)) ?_
          replace hden := gb hden
          obtain ⟨fs9, ho, hden⟩ := hden
          replace hden := gb hden
          obtain ⟨S8, hz, hden⟩ := hden
          refine g_callV (As := [.int ((50 * x2) + x3)]) (rest := []) X hZ (c_Mo_putPlan hz) cl_Mo (gOb_spec ho) q_997 q_5 q_994 q_996 qp_49 ⟨by decide, by decide, by show _ = some 1; decide +kernel⟩ ⟨by decide, by decide⟩ hl.1 (Nat.le_of_ble_eq_true rfl) d_Mo_print_73 rfl rfl ?_
          exact w_Mo_print_76 Y hk36 x0 x2 x3 ((50 * x2) + x3) S8 hden (lv_sub hl [1, 2, 3, 0] rfl)
def L_Mo_print_36  : Nat → Nat → Int32 → Int32 → gS → Option (Int32 × gS)
  | 0 => fun _ _ _ _ => none
  | n + 1 => fun x0 x2 x3 S => B_Mo_print_36  (L_Mo_print_36  n) x0 x2 x3 S
theorem wL_Mo_print_36 {D : va_G} {cT : Nat → ClassId} {H0 : Heap} {l : Launch} {p : Program} {e : Env} {s : State} {m : MethodId} {args : Array Value} {below : List Frame} {meth : Method} {c : Code} {S0 : gS} {S' : gS} {r : Int32} (Y : gY D cT H0 p s m args meth c prog_12_method_43_code 5 "PlanTextModel" 4 88 S0 (Option.some Jvm.ClassFile.FieldType.int))  : ∀ (n : Nat) (x0 : Nat) (x2 : Int32) (x3 : Int32) (S : gS) (ls : Array Slot), L_Mo_print_36  n x0 x2 x3 S = some (r, S') → lv_has ls 5 [(0, va_rf (some x0)), (2, .int x2), (3, .int x3)] → gV D cT H0 p l e (gRm 4 88 S0) s m args below meth c (gQ D cT H0 below S0 S' (.inr (some (.int r))) s) S0 S (F0 m 36 ls []) := by
  intro n
  induction n with
  | zero => intro x0 x2 x3 S ls h hl; cases h
  | succ n ih => intro x0 x2 x3 S ls h hl; exact w_Mo_print_36 Y ih x0 x2 x3 S h hl
def B_Mo_print_13  (x0 : Nat) (x1 : Int32) (t0 : Int32) (t1 : Nat) (S : gS) : Option (Int32 × gS) := Option.bind (gOb S t1 10) (fun fs3 => gB2 (D_Mo_throwing t1 t0 0 0 S) (fun v2 S1 => (if v2 = 0 then Option.bind (gPut S1 x0 10 25 (.int 0)) (fun S5 => Option.bind (gOb S5 x0 10) (fun fs8 => gB2 (D_Mo_editionOf x0 x1 S5) (fun v7 S6 => L_Mo_print_36  gF x0 v7 1 S6))) else some (0, S1))))
set_option maxRecDepth 100000 in
set_option maxHeartbeats 4000000 in
theorem w_Mo_print_13 {D : va_G} {cT : Nat → ClassId} {H0 : Heap} {l : Launch} {p : Program} {e : Env} {s : State} {m : MethodId} {args : Array Value} {below : List Frame} {meth : Method} {c : Code} {S0 : gS} {S' : gS} {r : Int32} (Y : gY D cT H0 p s m args meth c prog_12_method_43_code 5 "PlanTextModel" 4 88 S0 (Option.some Jvm.ClassFile.FieldType.int))  (x0 : Nat) (x1 : Int32) (t0 : Int32) (t1 : Nat) (S : gS) (hden : B_Mo_print_13  x0 x1 t0 t1 S = some (r, S')) {ls : Array Slot} (hl : lv_has ls 5 [(0, va_rf (some x0)), (1, .int x1)]) : gV D cT H0 p l e (gRm 4 88 S0) s m args below meth c (gQ D cT H0 below S0 S' (.inr (some (.int r))) s) S0 S (F0 m 13 ls [.int t0, va_rf (some t1)]) := by
  obtain ⟨X, hZ, hex, hr, hE⟩ := id Y
  have hx := X.1
  have hb := X.2.1
  unfold B_Mo_print_13 at hden
  refine gV.lift (fun _ _ _ _ => lv_iconst (v := 0) hx hb d_Mo_print_13 (by decide)) ?_
  refine gV.lift (fun _ _ _ _ => lv_iconst (v := 0) hx hb d_Mo_print_14 (by decide)) ?_
  replace hden := gb hden
  obtain ⟨fs3, ho, hden⟩ := hden
  replace hden := gb2 hden
  obtain ⟨v2, S1, hz, hden⟩ := hden
  refine g_callV (As := [.int t0, .int 0, .int 0]) (rest := []) X hZ (c_Mo_throwing hz) cl_Mo (gOb_spec ho) q_859 q_5 q_856 q_858 qp_26 ⟨by decide, by decide, by show _ = some 3; decide +kernel⟩ ⟨by decide, by decide⟩ hl.1 (Nat.le_of_ble_eq_true rfl) d_Mo_print_15 rfl rfl ?_
  refine gV.lift2 (fun _ _ _ _ => lv_if_eq (tgt := 23) hx hb d_Mo_print_18 (by decide)) (fun hc4 => ?_) (fun hc4 => ?_)
  · replace hden := gip hc4 hden
    refine gV.lift (fun _ _ _ _ => g_aload_n hx hb d_Mo_print_23 rfl (lv_at hl 0 rfl)) ?_
    refine gV.lift (fun _ _ _ _ => lv_iconst (v := 0) hx hb d_Mo_print_24 (by decide)) ?_
    replace hden := gb hden
    obtain ⟨S5, hv, hden⟩ := hden
    refine r_put X cl_Mo (k := 25) hv (by decide) q_790 rfl rfl rfl d_Mo_print_25 ?_
    refine gV.lift (fun _ _ _ _ => g_aload_n hx hb d_Mo_print_28 rfl (lv_at hl 0 rfl)) ?_
    refine gV.lift (fun _ _ _ _ => lv_iload_n hx hb d_Mo_print_29 rfl (lv_at hl 1 rfl)) ?_
    replace hden := gb hden
    obtain ⟨fs8, ho, hden⟩ := hden
    replace hden := gb2 hden
    obtain ⟨v7, S6, hz, hden⟩ := hden
    refine g_callV (As := [.int x1]) (rest := []) X hZ (c_Mo_editionOf hz) cl_Mo (gOb_spec ho) q_942 q_5 q_939 q_941 qp_42 ⟨by decide, by decide, by show _ = some 1; decide +kernel⟩ ⟨by decide, by decide⟩ hl.1 (Nat.le_of_ble_eq_true rfl) d_Mo_print_30 rfl rfl ?_
    refine gV.liftS (nL := 5) (lv' := [(2, .int v7), (0, va_rf (some x0)), (1, .int x1)]) (fun _ _ _ _ => lv_istore_n hx hb d_Mo_print_33 rfl hl (by decide) rfl) (fun ls hl => ?_)
    refine gV.lift (fun _ _ _ _ => lv_iconst (v := 1) hx hb d_Mo_print_34 (by decide)) ?_
    refine gV.liftS (nL := 5) (lv' := [(3, .int 1), (2, .int v7), (0, va_rf (some x0)), (1, .int x1)]) (fun _ _ _ _ => lv_istore_n hx hb d_Mo_print_35 rfl hl (by decide) rfl) (fun ls hl => ?_)
    exact wL_Mo_print_36 Y  gF x0 v7 1 S6 _ hden (lv_sub hl [2, 1, 0] rfl)
  · replace hden := gin hc4 hden
    refine gV.lift (fun _ _ _ _ => lv_iconst (v := 0) hx hb d_Mo_print_21 (by decide)) ?_
    obtain ⟨rfl, rfl⟩ := gpi hden
    exact g_iret X hr d_Mo_print_22
def D_Mo_print (h0 : Nat) (p0 : Int32) (S : gS) : Option (Int32 × gS) := gB2 (D_Mo_isDay p0 S) (fun v2 S1 => (if v2 = 0 then B_Mo_print_13  h0 p0 1 h0 S1 else B_Mo_print_13  h0 p0 0 h0 S1))
set_option maxRecDepth 100000 in
set_option maxHeartbeats 4000000 in
theorem c_Mo_print {D : va_G} {cT : Nat → ClassId} {H0 : Heap} {l : Launch} {S : gS} {S' : gS} {h0 : Nat} {p0 : Int32} {r : Int32} (hden : D_Mo_print h0 p0 S = some (r, S')) : gM D cT H0 l y_Mo_print (Cond.code y_Mo_print prog_12_method_43_code 5 (Option.some Jvm.ClassFile.FieldType.int)) 4 88 [va_rf (some h0), .int p0] S S' (.inr (some (.int r))) := by
  refine gM.ofV (by decide) ?_
  intro p e s m args below meth c s₁ B hml ea X hZ hex hr hE
  subst ea
  have Y : gY D cT H0 p s m _ meth c prog_12_method_43_code 5 "PlanTextModel" 4 88 S (Option.some Jvm.ClassFile.FieldType.int) := ⟨X, hZ, hex, hr, hE⟩
  have hx := X.1
  have hb := X.2.1
  have hl := lv_entry ([va_rf (some h0), .int p0]) (n := 5) (Nat.le_of_ble_eq_true rfl)
  rw [lg_entry_eq]
  generalize (lg_sl ([va_rf (some h0), .int p0]) ++ List.replicate (5 - (lg_sl ([va_rf (some h0), .int p0])).length) Slot.unset).toArray = ls at hl ⊢
  have hl : lv_has ls 5 [(0, va_rf (some h0)), (1, .int p0)] := hl
  unfold D_Mo_print at hden
  refine gV.lift (fun _ _ _ _ => g_aload_n hx hb d_Mo_print_0 rfl (lv_at hl 0 rfl)) ?_
  refine gV.lift (fun _ _ _ _ => lv_iload_n hx hb d_Mo_print_1 rfl (lv_at hl 1 rfl)) ?_
  replace hden := gb2 hden
  obtain ⟨v2, S1, hz, hden⟩ := hden
  refine g_callS (As := [.int p0]) (rest := [va_rf (some h0)]) X hZ (c_Mo_isDay hz) q_938 q_5 q_936 q_937 ⟨by decide, by decide, by show _ = some 1; decide +kernel⟩ ⟨by decide, by decide⟩ hl.1 (Nat.le_of_ble_eq_true rfl) d_Mo_print_2 rfl rfl ?_
  refine gV.lift2 (fun _ _ _ _ => lv_if_ne (tgt := 12) hx hb d_Mo_print_5 (by decide)) (fun hc3 => ?_) (fun hc3 => ?_)
  · replace hden := gin hc3 hden
    refine gV.lift (fun _ _ _ _ => lv_iconst (v := 0) hx hb d_Mo_print_12 (by decide)) ?_
    exact w_Mo_print_13 Y  h0 p0 0 h0 S1 hden (lv_sub hl [0, 1] rfl)
  · replace hden := gip hc3 hden
    refine gV.lift (fun _ _ _ _ => lv_iconst (v := 1) hx hb d_Mo_print_8 (by decide)) ?_
    refine gV.lift (fun _ _ _ _ => lv_goto (tgt := 13) hx hb d_Mo_print_9 (by decide)) ?_
    exact w_Mo_print_13 Y  h0 p0 1 h0 S1 hden (lv_sub hl [0, 1] rfl)
/-! PlanTextModel.at(I)I -/
abbrev y_Mo_at : MethodName := ⟨"PlanTextModel", "at", "(I)I"⟩
theorem d_Mo_at_0 : decode prog_12_method_44_code 0 = .ok (.aload_n 0, 1) := by decide +kernel
theorem d_Mo_at_1 : decode prog_12_method_44_code 1 = .ok (.iload_n 1, 1) := by decide +kernel
theorem d_Mo_at_2 : decode prog_12_method_44_code 2 = .ok (.ifCond .ge 7, 3) := by decide +kernel
theorem d_Mo_at_5 : decode prog_12_method_44_code 5 = .ok (.iconst 1, 1) := by decide +kernel
theorem d_Mo_at_6 : decode prog_12_method_44_code 6 = .ok (.goto 4, 3) := by decide +kernel
theorem d_Mo_at_9 : decode prog_12_method_44_code 9 = .ok (.iconst 0, 1) := by decide +kernel
theorem d_Mo_at_10 : decode prog_12_method_44_code 10 = .ok (.iconst 0, 1) := by decide +kernel
theorem d_Mo_at_11 : decode prog_12_method_44_code 11 = .ok (.iconst 0, 1) := by decide +kernel
theorem d_Mo_at_12 : decode prog_12_method_44_code 12 = .ok (.invokevirtual 79, 3) := by decide +kernel
theorem d_Mo_at_15 : decode prog_12_method_44_code 15 = .ok (.ifCond .eq 5, 3) := by decide +kernel
theorem d_Mo_at_18 : decode prog_12_method_44_code 18 = .ok (.iconst 0, 1) := by decide +kernel
theorem d_Mo_at_19 : decode prog_12_method_44_code 19 = .ok (.ireturn, 1) := by decide +kernel
theorem d_Mo_at_20 : decode prog_12_method_44_code 20 = .ok (.iload_n 1, 1) := by decide +kernel
theorem d_Mo_at_21 : decode prog_12_method_44_code 21 = .ok (.aload_n 0, 1) := by decide +kernel
theorem d_Mo_at_22 : decode prog_12_method_44_code 22 = .ok (.getfield 176, 3) := by decide +kernel
theorem d_Mo_at_25 : decode prog_12_method_44_code 25 = .ok (.if_icmp .ge 12, 3) := by decide +kernel
theorem d_Mo_at_28 : decode prog_12_method_44_code 28 = .ok (.aload_n 0, 1) := by decide +kernel
theorem d_Mo_at_29 : decode prog_12_method_44_code 29 = .ok (.getfield 63, 3) := by decide +kernel
theorem d_Mo_at_32 : decode prog_12_method_44_code 32 = .ok (.iload_n 1, 1) := by decide +kernel
theorem d_Mo_at_33 : decode prog_12_method_44_code 33 = .ok (.iaload, 1) := by decide +kernel
theorem d_Mo_at_34 : decode prog_12_method_44_code 34 = .ok (.goto 4, 3) := by decide +kernel
theorem d_Mo_at_37 : decode prog_12_method_44_code 37 = .ok (.iconst (-1), 1) := by decide +kernel
theorem d_Mo_at_38 : decode prog_12_method_44_code 38 = .ok (.ireturn, 1) := by decide +kernel
def B_Mo_at_38  (t0 : Int32) (S : gS) : Option (Int32 × gS) := some (t0, S)
set_option maxRecDepth 100000 in
set_option maxHeartbeats 4000000 in
theorem w_Mo_at_38 {D : va_G} {cT : Nat → ClassId} {H0 : Heap} {l : Launch} {p : Program} {e : Env} {s : State} {m : MethodId} {args : Array Value} {below : List Frame} {meth : Method} {c : Code} {S0 : gS} {S' : gS} {r : Int32} (Y : gY D cT H0 p s m args meth c prog_12_method_44_code 2 "PlanTextModel" 1 23 S0 (Option.some Jvm.ClassFile.FieldType.int))  (t0 : Int32) (S : gS) (hden : B_Mo_at_38  t0 S = some (r, S')) {ls : Array Slot} (hl : lv_has ls 2 []) : gV D cT H0 p l e (gRm 1 23 S0) s m args below meth c (gQ D cT H0 below S0 S' (.inr (some (.int r))) s) S0 S (F0 m 38 ls [.int t0]) := by
  obtain ⟨X, hZ, hex, hr, hE⟩ := id Y
  have hx := X.1
  have hb := X.2.1
  unfold B_Mo_at_38 at hden
  obtain ⟨rfl, rfl⟩ := gpi hden
  exact g_iret X hr d_Mo_at_38
def B_Mo_at_10  (x0 : Nat) (x1 : Int32) (t0 : Int32) (t1 : Nat) (S : gS) : Option (Int32 × gS) := Option.bind (gOb S t1 10) (fun fs3 => gB2 (D_Mo_throwing t1 t0 0 0 S) (fun v2 S1 => (if v2 = 0 then Option.bind (gI S1 x0 10 25) (fun v5 => (if v5 ≤ x1 then B_Mo_at_38  (-1) S1 else Option.bind (gRf S1 x0 10 24) (fun r7 => Option.bind r7 (fun a8 => Option.bind (gAI S1 a8 0 x1) (fun v9 => B_Mo_at_38  v9 S1))))) else some (0, S1))))
set_option maxRecDepth 100000 in
set_option maxHeartbeats 4000000 in
theorem w_Mo_at_10 {D : va_G} {cT : Nat → ClassId} {H0 : Heap} {l : Launch} {p : Program} {e : Env} {s : State} {m : MethodId} {args : Array Value} {below : List Frame} {meth : Method} {c : Code} {S0 : gS} {S' : gS} {r : Int32} (Y : gY D cT H0 p s m args meth c prog_12_method_44_code 2 "PlanTextModel" 1 23 S0 (Option.some Jvm.ClassFile.FieldType.int))  (x0 : Nat) (x1 : Int32) (t0 : Int32) (t1 : Nat) (S : gS) (hden : B_Mo_at_10  x0 x1 t0 t1 S = some (r, S')) {ls : Array Slot} (hl : lv_has ls 2 [(0, va_rf (some x0)), (1, .int x1)]) : gV D cT H0 p l e (gRm 1 23 S0) s m args below meth c (gQ D cT H0 below S0 S' (.inr (some (.int r))) s) S0 S (F0 m 10 ls [.int t0, va_rf (some t1)]) := by
  obtain ⟨X, hZ, hex, hr, hE⟩ := id Y
  have hx := X.1
  have hb := X.2.1
  unfold B_Mo_at_10 at hden
  refine gV.lift (fun _ _ _ _ => lv_iconst (v := 0) hx hb d_Mo_at_10 (by decide)) ?_
  refine gV.lift (fun _ _ _ _ => lv_iconst (v := 0) hx hb d_Mo_at_11 (by decide)) ?_
  replace hden := gb hden
  obtain ⟨fs3, ho, hden⟩ := hden
  replace hden := gb2 hden
  obtain ⟨v2, S1, hz, hden⟩ := hden
  refine g_callV (As := [.int t0, .int 0, .int 0]) (rest := []) X hZ (c_Mo_throwing hz) cl_Mo (gOb_spec ho) q_859 q_5 q_856 q_858 qp_26 ⟨by decide, by decide, by show _ = some 3; decide +kernel⟩ ⟨by decide, by decide⟩ hl.1 (Nat.le_of_ble_eq_true rfl) d_Mo_at_12 rfl rfl ?_
  refine gV.lift2 (fun _ _ _ _ => lv_if_eq (tgt := 20) hx hb d_Mo_at_15 (by decide)) (fun hc4 => ?_) (fun hc4 => ?_)
  · replace hden := gip hc4 hden
    refine gV.lift (fun _ _ _ _ => lv_iload_n hx hb d_Mo_at_20 rfl (lv_at hl 1 rfl)) ?_
    refine gV.lift (fun _ _ _ _ => g_aload_n hx hb d_Mo_at_21 rfl (lv_at hl 0 rfl)) ?_
    replace hden := gb hden
    obtain ⟨v5, hv, hden⟩ := hden
    refine r_getI X cl_Mo (k := 25) hv (by decide) q_790 d_Mo_at_22 ?_
    refine gV.lift2 (fun _ _ _ _ => lv_icmp_ge (tgt := 37) hx hb d_Mo_at_25 (by decide)) (fun hc6 => ?_) (fun hc6 => ?_)
    · replace hden := gip hc6 hden
      refine gV.lift (fun _ _ _ _ => lv_iconst (v := (-1)) hx hb d_Mo_at_37 (by decide)) ?_
      exact w_Mo_at_38 Y  (-1) S1 hden (lv_sub hl [] rfl)
    · replace hden := gin hc6 hden
      refine gV.lift (fun _ _ _ _ => g_aload_n hx hb d_Mo_at_28 rfl (lv_at hl 0 rfl)) ?_
      replace hden := gb hden
      obtain ⟨r7, hv, hden⟩ := hden
      refine r_getR X cl_Mo (k := 24) hv (by decide) q_789 d_Mo_at_29 ?_
      refine gV.lift (fun _ _ _ _ => lv_iload_n hx hb d_Mo_at_32 rfl (lv_at hl 1 rfl)) ?_
      replace hden := gb hden
      obtain ⟨a8, rfl, hden⟩ := hden
      replace hden := gb hden
      obtain ⟨v9, hv, hden⟩ := hden
      refine r_iald X (t := 0) rfl hv d_Mo_at_33 ?_
      refine gV.lift (fun _ _ _ _ => lv_goto (tgt := 38) hx hb d_Mo_at_34 (by decide)) ?_
      exact w_Mo_at_38 Y  v9 S1 hden (lv_sub hl [] rfl)
  · replace hden := gin hc4 hden
    refine gV.lift (fun _ _ _ _ => lv_iconst (v := 0) hx hb d_Mo_at_18 (by decide)) ?_
    obtain ⟨rfl, rfl⟩ := gpi hden
    exact g_iret X hr d_Mo_at_19
def D_Mo_at (h0 : Nat) (p0 : Int32) (S : gS) : Option (Int32 × gS) := (if 0 ≤ p0 then B_Mo_at_10  h0 p0 0 h0 S else B_Mo_at_10  h0 p0 1 h0 S)
set_option maxRecDepth 100000 in
set_option maxHeartbeats 4000000 in
theorem c_Mo_at {D : va_G} {cT : Nat → ClassId} {H0 : Heap} {l : Launch} {S : gS} {S' : gS} {h0 : Nat} {p0 : Int32} {r : Int32} (hden : D_Mo_at h0 p0 S = some (r, S')) : gM D cT H0 l y_Mo_at (Cond.code y_Mo_at prog_12_method_44_code 2 (Option.some Jvm.ClassFile.FieldType.int)) 1 23 [va_rf (some h0), .int p0] S S' (.inr (some (.int r))) := by
  refine gM.ofV (by decide) ?_
  intro p e s m args below meth c s₁ B hml ea X hZ hex hr hE
  subst ea
  have Y : gY D cT H0 p s m _ meth c prog_12_method_44_code 2 "PlanTextModel" 1 23 S (Option.some Jvm.ClassFile.FieldType.int) := ⟨X, hZ, hex, hr, hE⟩
  have hx := X.1
  have hb := X.2.1
  have hl := lv_entry ([va_rf (some h0), .int p0]) (n := 2) (Nat.le_of_ble_eq_true rfl)
  rw [lg_entry_eq]
  generalize (lg_sl ([va_rf (some h0), .int p0]) ++ List.replicate (2 - (lg_sl ([va_rf (some h0), .int p0])).length) Slot.unset).toArray = ls at hl ⊢
  have hl : lv_has ls 2 [(0, va_rf (some h0)), (1, .int p0)] := hl
  unfold D_Mo_at at hden
  refine gV.lift (fun _ _ _ _ => g_aload_n hx hb d_Mo_at_0 rfl (lv_at hl 0 rfl)) ?_
  refine gV.lift (fun _ _ _ _ => lv_iload_n hx hb d_Mo_at_1 rfl (lv_at hl 1 rfl)) ?_
  refine gV.lift2 (fun _ _ _ _ => lv_if_ge (tgt := 9) hx hb d_Mo_at_2 (by decide)) (fun hc1 => ?_) (fun hc1 => ?_)
  · replace hden := gip hc1 hden
    refine gV.lift (fun _ _ _ _ => lv_iconst (v := 0) hx hb d_Mo_at_9 (by decide)) ?_
    exact w_Mo_at_10 Y  h0 p0 0 h0 S hden (lv_sub hl [0, 1] rfl)
  · replace hden := gin hc1 hden
    refine gV.lift (fun _ _ _ _ => lv_iconst (v := 1) hx hb d_Mo_at_5 (by decide)) ?_
    refine gV.lift (fun _ _ _ _ => lv_goto (tgt := 10) hx hb d_Mo_at_6 (by decide)) ?_
    exact w_Mo_at_10 Y  h0 p0 1 h0 S hden (lv_sub hl [0, 1] rfl)
/-! PlanTextModel.count(I)I -/
abbrev y_Mo_count : MethodName := ⟨"PlanTextModel", "count", "(I)I"⟩
theorem d_Mo_count_0 : decode prog_12_method_45_code 0 = .ok (.aload_n 0, 1) := by decide +kernel
theorem d_Mo_count_1 : decode prog_12_method_45_code 1 = .ok (.iload_n 1, 1) := by decide +kernel
theorem d_Mo_count_2 : decode prog_12_method_45_code 2 = .ok (.iconst 0, 1) := by decide +kernel
theorem d_Mo_count_3 : decode prog_12_method_45_code 3 = .ok (.iconst 3, 1) := by decide +kernel
theorem d_Mo_count_4 : decode prog_12_method_45_code 4 = .ok (.invokestatic 72, 3) := by decide +kernel
theorem d_Mo_count_7 : decode prog_12_method_45_code 7 = .ok (.ifCond .ne 7, 3) := by decide +kernel
theorem d_Mo_count_10 : decode prog_12_method_45_code 10 = .ok (.iconst 1, 1) := by decide +kernel
theorem d_Mo_count_11 : decode prog_12_method_45_code 11 = .ok (.goto 4, 3) := by decide +kernel
theorem d_Mo_count_14 : decode prog_12_method_45_code 14 = .ok (.iconst 0, 1) := by decide +kernel
theorem d_Mo_count_15 : decode prog_12_method_45_code 15 = .ok (.iconst 0, 1) := by decide +kernel
theorem d_Mo_count_16 : decode prog_12_method_45_code 16 = .ok (.iconst 0, 1) := by decide +kernel
theorem d_Mo_count_17 : decode prog_12_method_45_code 17 = .ok (.invokevirtual 79, 3) := by decide +kernel
theorem d_Mo_count_20 : decode prog_12_method_45_code 20 = .ok (.ifCond .eq 5, 3) := by decide +kernel
theorem d_Mo_count_23 : decode prog_12_method_45_code 23 = .ok (.iconst 0, 1) := by decide +kernel
theorem d_Mo_count_24 : decode prog_12_method_45_code 24 = .ok (.ireturn, 1) := by decide +kernel
theorem d_Mo_count_25 : decode prog_12_method_45_code 25 = .ok (.iload_n 1, 1) := by decide +kernel
theorem d_Mo_count_26 : decode prog_12_method_45_code 26 = .ok (.ifCond .ne 8, 3) := by decide +kernel
theorem d_Mo_count_29 : decode prog_12_method_45_code 29 = .ok (.aload_n 0, 1) := by decide +kernel
theorem d_Mo_count_30 : decode prog_12_method_45_code 30 = .ok (.getfield 139, 3) := by decide +kernel
theorem d_Mo_count_33 : decode prog_12_method_45_code 33 = .ok (.ireturn, 1) := by decide +kernel
theorem d_Mo_count_34 : decode prog_12_method_45_code 34 = .ok (.aload_n 0, 1) := by decide +kernel
theorem d_Mo_count_35 : decode prog_12_method_45_code 35 = .ok (.getfield 66, 3) := by decide +kernel
theorem d_Mo_count_38 : decode prog_12_method_45_code 38 = .ok (.ifCond .ge 5, 3) := by decide +kernel
theorem d_Mo_count_41 : decode prog_12_method_45_code 41 = .ok (.iconst 0, 1) := by decide +kernel
theorem d_Mo_count_42 : decode prog_12_method_45_code 42 = .ok (.ireturn, 1) := by decide +kernel
theorem d_Mo_count_43 : decode prog_12_method_45_code 43 = .ok (.iconst 0, 1) := by decide +kernel
theorem d_Mo_count_44 : decode prog_12_method_45_code 44 = .ok (.istore_n 2, 1) := by decide +kernel
theorem d_Mo_count_45 : decode prog_12_method_45_code 45 = .ok (.bipush 41, 2) := by decide +kernel
theorem d_Mo_count_47 : decode prog_12_method_45_code 47 = .ok (.istore_n 3, 1) := by decide +kernel
theorem d_Mo_count_48 : decode prog_12_method_45_code 48 = .ok (.iload_n 3, 1) := by decide +kernel
theorem d_Mo_count_49 : decode prog_12_method_45_code 49 = .ok (.bipush 50, 2) := by decide +kernel
theorem d_Mo_count_51 : decode prog_12_method_45_code 51 = .ok (.if_icmp .ge 34, 3) := by decide +kernel
theorem d_Mo_count_54 : decode prog_12_method_45_code 54 = .ok (.iload_n 2, 1) := by decide +kernel
theorem d_Mo_count_55 : decode prog_12_method_45_code 55 = .ok (.aload_n 0, 1) := by decide +kernel
theorem d_Mo_count_56 : decode prog_12_method_45_code 56 = .ok (.getfield 20, 3) := by decide +kernel
theorem d_Mo_count_59 : decode prog_12_method_45_code 59 = .ok (.bipush 50, 2) := by decide +kernel
theorem d_Mo_count_61 : decode prog_12_method_45_code 61 = .ok (.aload_n 0, 1) := by decide +kernel
theorem d_Mo_count_62 : decode prog_12_method_45_code 62 = .ok (.getfield 66, 3) := by decide +kernel
theorem d_Mo_count_65 : decode prog_12_method_45_code 65 = .ok (.imul, 1) := by decide +kernel
theorem d_Mo_count_66 : decode prog_12_method_45_code 66 = .ok (.iload_n 3, 1) := by decide +kernel
theorem d_Mo_count_67 : decode prog_12_method_45_code 67 = .ok (.iadd, 1) := by decide +kernel
theorem d_Mo_count_68 : decode prog_12_method_45_code 68 = .ok (.baload, 1) := by decide +kernel
theorem d_Mo_count_69 : decode prog_12_method_45_code 69 = .ok (.ifCond .eq 7, 3) := by decide +kernel
theorem d_Mo_count_72 : decode prog_12_method_45_code 72 = .ok (.iconst 1, 1) := by decide +kernel
theorem d_Mo_count_73 : decode prog_12_method_45_code 73 = .ok (.goto 4, 3) := by decide +kernel
theorem d_Mo_count_76 : decode prog_12_method_45_code 76 = .ok (.iconst 0, 1) := by decide +kernel
theorem d_Mo_count_77 : decode prog_12_method_45_code 77 = .ok (.iadd, 1) := by decide +kernel
theorem d_Mo_count_78 : decode prog_12_method_45_code 78 = .ok (.istore_n 2, 1) := by decide +kernel
theorem d_Mo_count_79 : decode prog_12_method_45_code 79 = .ok (.iinc 3 1, 3) := by decide +kernel
theorem d_Mo_count_82 : decode prog_12_method_45_code 82 = .ok (.goto (-34), 3) := by decide +kernel
theorem d_Mo_count_85 : decode prog_12_method_45_code 85 = .ok (.iload_n 1, 1) := by decide +kernel
theorem d_Mo_count_86 : decode prog_12_method_45_code 86 = .ok (.iconst 1, 1) := by decide +kernel
theorem d_Mo_count_87 : decode prog_12_method_45_code 87 = .ok (.if_icmp .ne 14, 3) := by decide +kernel
theorem d_Mo_count_90 : decode prog_12_method_45_code 90 = .ok (.aload_n 0, 1) := by decide +kernel
theorem d_Mo_count_91 : decode prog_12_method_45_code 91 = .ok (.aload_n 0, 1) := by decide +kernel
theorem d_Mo_count_92 : decode prog_12_method_45_code 92 = .ok (.getfield 66, 3) := by decide +kernel
theorem d_Mo_count_95 : decode prog_12_method_45_code 95 = .ok (.invokevirtual 142, 3) := by decide +kernel
theorem d_Mo_count_98 : decode prog_12_method_45_code 98 = .ok (.goto 21, 3) := by decide +kernel
theorem d_Mo_count_101 : decode prog_12_method_45_code 101 = .ok (.iload_n 1, 1) := by decide +kernel
theorem d_Mo_count_102 : decode prog_12_method_45_code 102 = .ok (.iconst 2, 1) := by decide +kernel
theorem d_Mo_count_103 : decode prog_12_method_45_code 103 = .ok (.if_icmp .ne 7, 3) := by decide +kernel
theorem d_Mo_count_106 : decode prog_12_method_45_code 106 = .ok (.iload_n 2, 1) := by decide +kernel
theorem d_Mo_count_107 : decode prog_12_method_45_code 107 = .ok (.goto 12, 3) := by decide +kernel
theorem d_Mo_count_110 : decode prog_12_method_45_code 110 = .ok (.aload_n 0, 1) := by decide +kernel
theorem d_Mo_count_111 : decode prog_12_method_45_code 111 = .ok (.getfield 51, 3) := by decide +kernel
theorem d_Mo_count_114 : decode prog_12_method_45_code 114 = .ok (.aload_n 0, 1) := by decide +kernel
theorem d_Mo_count_115 : decode prog_12_method_45_code 115 = .ok (.getfield 66, 3) := by decide +kernel
theorem d_Mo_count_118 : decode prog_12_method_45_code 118 = .ok (.iaload, 1) := by decide +kernel
theorem d_Mo_count_119 : decode prog_12_method_45_code 119 = .ok (.ireturn, 1) := by decide +kernel
def B_Mo_count_119  (t0 : Int32) (S : gS) : Option (Int32 × gS) := some (t0, S)
set_option maxRecDepth 100000 in
set_option maxHeartbeats 4000000 in
theorem w_Mo_count_119 {D : va_G} {cT : Nat → ClassId} {H0 : Heap} {l : Launch} {p : Program} {e : Env} {s : State} {m : MethodId} {args : Array Value} {below : List Frame} {meth : Method} {c : Code} {S0 : gS} {S' : gS} {r : Int32} (Y : gY D cT H0 p s m args meth c prog_12_method_45_code 4 "PlanTextModel" 1 23 S0 (Option.some Jvm.ClassFile.FieldType.int))  (t0 : Int32) (S : gS) (hden : B_Mo_count_119  t0 S = some (r, S')) {ls : Array Slot} (hl : lv_has ls 4 []) : gV D cT H0 p l e (gRm 1 23 S0) s m args below meth c (gQ D cT H0 below S0 S' (.inr (some (.int r))) s) S0 S (F0 m 119 ls [.int t0]) := by
  obtain ⟨X, hZ, hex, hr, hE⟩ := id Y
  have hx := X.1
  have hb := X.2.1
  unfold B_Mo_count_119 at hden
  obtain ⟨rfl, rfl⟩ := gpi hden
  exact g_iret X hr d_Mo_count_119
def B_Mo_count_77 (k48 : Nat → Int32 → Int32 → Int32 → gS → Option (Int32 × gS)) (x0 : Nat) (x1 : Int32) (x3 : Int32) (t0 : Int32) (t1 : Int32) (S : gS) : Option (Int32 × gS) := k48 x0 x1 (t1 + t0) (x3 + 1) S
set_option maxRecDepth 100000 in
set_option maxHeartbeats 4000000 in
theorem w_Mo_count_77 {D : va_G} {cT : Nat → ClassId} {H0 : Heap} {l : Launch} {p : Program} {e : Env} {s : State} {m : MethodId} {args : Array Value} {below : List Frame} {meth : Method} {c : Code} {S0 : gS} {S' : gS} {r : Int32} (Y : gY D cT H0 p s m args meth c prog_12_method_45_code 4 "PlanTextModel" 1 23 S0 (Option.some Jvm.ClassFile.FieldType.int)) {k48 : Nat → Int32 → Int32 → Int32 → gS → Option (Int32 × gS)} (hk48 : ∀ (x0 : Nat) (x1 : Int32) (x2 : Int32) (x3 : Int32) (S : gS) (ls : Array Slot), k48 x0 x1 x2 x3 S = some (r, S') → lv_has ls 4 [(0, va_rf (some x0)), (1, .int x1), (2, .int x2), (3, .int x3)] → gV D cT H0 p l e (gRm 1 23 S0) s m args below meth c (gQ D cT H0 below S0 S' (.inr (some (.int r))) s) S0 S (F0 m 48 ls [])) (x0 : Nat) (x1 : Int32) (x3 : Int32) (t0 : Int32) (t1 : Int32) (S : gS) (hden : B_Mo_count_77 k48 x0 x1 x3 t0 t1 S = some (r, S')) {ls : Array Slot} (hl : lv_has ls 4 [(0, va_rf (some x0)), (1, .int x1), (3, .int x3)]) : gV D cT H0 p l e (gRm 1 23 S0) s m args below meth c (gQ D cT H0 below S0 S' (.inr (some (.int r))) s) S0 S (F0 m 77 ls [.int t0, .int t1]) := by
  obtain ⟨X, hZ, hex, hr, hE⟩ := id Y
  have hx := X.1
  have hb := X.2.1
  unfold B_Mo_count_77 at hden
  refine gV.lift (fun _ _ _ _ => lv_iadd hx hb d_Mo_count_77) ?_
  refine gV.liftS (nL := 4) (lv' := [(2, .int (t1 + t0)), (0, va_rf (some x0)), (1, .int x1), (3, .int x3)]) (fun _ _ _ _ => lv_istore_n hx hb d_Mo_count_78 rfl hl (by decide) rfl) (fun ls hl => ?_)
  refine gV.liftS (nL := 4) (lv' := [(3, .int (x3 + 1)), (2, .int (t1 + t0)), (0, va_rf (some x0)), (1, .int x1)]) (fun _ _ _ _ => lv_iinc (v := (x3 + 1)) hx hb d_Mo_count_79 hl (k := 3) rfl rfl (by decide) rfl) (fun ls hl => ?_)
  refine gV.lift (fun _ _ _ _ => lv_goto (tgt := 48) hx hb d_Mo_count_82 (by decide)) ?_
  exact hk48 x0 x1 (t1 + t0) (x3 + 1) S _ hden (lv_sub hl [2, 3, 1, 0] rfl)
def B_Mo_count_48 (k48 : Nat → Int32 → Int32 → Int32 → gS → Option (Int32 × gS)) (x0 : Nat) (x1 : Int32) (x2 : Int32) (x3 : Int32) (S : gS) : Option (Int32 × gS) := (if 50 ≤ x3 then (if x1 = 1 then Option.bind (gI S x0 10 8) (fun v8 => Option.bind (gOb S x0 10) (fun fs11 => gB2 (D_Mo_plansOf x0 v8 S) (fun v10 S9 => B_Mo_count_119  v10 S9))) else (if x1 = 2 then B_Mo_count_119  x2 S else Option.bind (gRf S x0 10 20) (fun r4 => Option.bind (gI S x0 10 8) (fun v5 => Option.bind r4 (fun a6 => Option.bind (gAI S a6 0 v5) (fun v7 => B_Mo_count_119  v7 S)))))) else Option.bind (gRf S x0 10 10) (fun r12 => Option.bind (gI S x0 10 8) (fun v13 => Option.bind r12 (fun a14 => Option.bind (gAI S a14 3 ((50 * v13) + x3)) (fun v15 => (if v15 = 0 then B_Mo_count_77 k48 x0 x1 x3 0 x2 S else B_Mo_count_77 k48 x0 x1 x3 1 x2 S))))))
set_option maxRecDepth 100000 in
set_option maxHeartbeats 4000000 in
theorem w_Mo_count_48 {D : va_G} {cT : Nat → ClassId} {H0 : Heap} {l : Launch} {p : Program} {e : Env} {s : State} {m : MethodId} {args : Array Value} {below : List Frame} {meth : Method} {c : Code} {S0 : gS} {S' : gS} {r : Int32} (Y : gY D cT H0 p s m args meth c prog_12_method_45_code 4 "PlanTextModel" 1 23 S0 (Option.some Jvm.ClassFile.FieldType.int)) {k48 : Nat → Int32 → Int32 → Int32 → gS → Option (Int32 × gS)} (hk48 : ∀ (x0 : Nat) (x1 : Int32) (x2 : Int32) (x3 : Int32) (S : gS) (ls : Array Slot), k48 x0 x1 x2 x3 S = some (r, S') → lv_has ls 4 [(0, va_rf (some x0)), (1, .int x1), (2, .int x2), (3, .int x3)] → gV D cT H0 p l e (gRm 1 23 S0) s m args below meth c (gQ D cT H0 below S0 S' (.inr (some (.int r))) s) S0 S (F0 m 48 ls [])) (x0 : Nat) (x1 : Int32) (x2 : Int32) (x3 : Int32) (S : gS) (hden : B_Mo_count_48 k48 x0 x1 x2 x3 S = some (r, S')) {ls : Array Slot} (hl : lv_has ls 4 [(0, va_rf (some x0)), (1, .int x1), (2, .int x2), (3, .int x3)]) : gV D cT H0 p l e (gRm 1 23 S0) s m args below meth c (gQ D cT H0 below S0 S' (.inr (some (.int r))) s) S0 S (F0 m 48 ls []) := by
  obtain ⟨X, hZ, hex, hr, hE⟩ := id Y
  have hx := X.1
  have hb := X.2.1
  unfold B_Mo_count_48 at hden
  refine gV.lift (fun _ _ _ _ => lv_iload_n hx hb d_Mo_count_48 rfl (lv_at hl 3 rfl)) ?_
  refine gV.lift (fun _ _ _ _ => lv_bipush (v := 50) hx hb d_Mo_count_49 (by decide)) ?_
  refine gV.lift2 (fun _ _ _ _ => lv_icmp_ge (tgt := 85) hx hb d_Mo_count_51 (by decide)) (fun hc1 => ?_) (fun hc1 => ?_)
  · replace hden := gip hc1 hden
    refine gV.lift (fun _ _ _ _ => lv_iload_n hx hb d_Mo_count_85 rfl (lv_at hl 1 rfl)) ?_
    refine gV.lift (fun _ _ _ _ => lv_iconst (v := 1) hx hb d_Mo_count_86 (by decide)) ?_
    refine gV.lift2 (fun _ _ _ _ => lv_icmp_ne (tgt := 101) hx hb d_Mo_count_87 (by decide)) (fun hc2 => ?_) (fun hc2 => ?_)
    · replace hden := gin hc2 hden
      refine gV.lift (fun _ _ _ _ => lv_iload_n hx hb d_Mo_count_101 rfl (lv_at hl 1 rfl)) ?_
      refine gV.lift (fun _ _ _ _ => lv_iconst (v := 2) hx hb d_Mo_count_102 (by decide)) ?_
      refine gV.lift2 (fun _ _ _ _ => lv_icmp_ne (tgt := 110) hx hb d_Mo_count_103 (by decide)) (fun hc3 => ?_) (fun hc3 => ?_)
      · replace hden := gin hc3 hden
        refine gV.lift (fun _ _ _ _ => g_aload_n hx hb d_Mo_count_110 rfl (lv_at hl 0 rfl)) ?_
        replace hden := gb hden
        obtain ⟨r4, hv, hden⟩ := hden
        refine r_getR X cl_Mo (k := 20) hv (by decide) q_785 d_Mo_count_111 ?_
        refine gV.lift (fun _ _ _ _ => g_aload_n hx hb d_Mo_count_114 rfl (lv_at hl 0 rfl)) ?_
        replace hden := gb hden
        obtain ⟨v5, hv, hden⟩ := hden
        refine r_getI X cl_Mo (k := 8) hv (by decide) q_773 d_Mo_count_115 ?_
        replace hden := gb hden
        obtain ⟨a6, rfl, hden⟩ := hden
        replace hden := gb hden
        obtain ⟨v7, hv, hden⟩ := hden
        refine r_iald X (t := 0) rfl hv d_Mo_count_118 ?_
        exact w_Mo_count_119 Y  v7 S hden (lv_sub hl [] rfl)
      · replace hden := gip hc3 hden
        refine gV.lift (fun _ _ _ _ => lv_iload_n hx hb d_Mo_count_106 rfl (lv_at hl 2 rfl)) ?_
        refine gV.lift (fun _ _ _ _ => lv_goto (tgt := 119) hx hb d_Mo_count_107 (by decide)) ?_
        exact w_Mo_count_119 Y  x2 S hden (lv_sub hl [] rfl)
    · replace hden := gip hc2 hden
      refine gV.lift (fun _ _ _ _ => g_aload_n hx hb d_Mo_count_90 rfl (lv_at hl 0 rfl)) ?_
      refine gV.lift (fun _ _ _ _ => g_aload_n hx hb d_Mo_count_91 rfl (lv_at hl 0 rfl)) ?_
      replace hden := gb hden
      obtain ⟨v8, hv, hden⟩ := hden
      refine r_getI X cl_Mo (k := 8) hv (by decide) q_773 d_Mo_count_92 ?_
      replace hden := gb hden
      obtain ⟨fs11, ho, hden⟩ := hden
      replace hden := gb2 hden
      obtain ⟨v10, S9, hz, hden⟩ := hden
      refine g_callV (As := [.int v8]) (rest := []) X hZ (c_Mo_plansOf hz) cl_Mo (gOb_spec ho) q_923 q_5 q_920 q_922 qp_41 ⟨by decide, by decide, by show _ = some 1; decide +kernel⟩ ⟨by decide, by decide⟩ hl.1 (Nat.le_of_ble_eq_true rfl) d_Mo_count_95 rfl rfl ?_
      refine gV.lift (fun _ _ _ _ => lv_goto (tgt := 119) hx hb d_Mo_count_98 (by decide)) ?_
      exact w_Mo_count_119 Y  v10 S9 hden (lv_sub hl [] rfl)
  · replace hden := gin hc1 hden
    refine gV.lift (fun _ _ _ _ => lv_iload_n hx hb d_Mo_count_54 rfl (lv_at hl 2 rfl)) ?_
    refine gV.lift (fun _ _ _ _ => g_aload_n hx hb d_Mo_count_55 rfl (lv_at hl 0 rfl)) ?_
    replace hden := gb hden
    obtain ⟨r12, hv, hden⟩ := hden
    refine r_getR X cl_Mo (k := 10) hv (by decide) q_775 d_Mo_count_56 ?_
    refine gV.lift (fun _ _ _ _ => lv_bipush (v := 50) hx hb d_Mo_count_59 (by decide)) ?_
    refine gV.lift (fun _ _ _ _ => g_aload_n hx hb d_Mo_count_61 rfl (lv_at hl 0 rfl)) ?_
    replace hden := gb hden
    obtain ⟨v13, hv, hden⟩ := hden
    refine r_getI X cl_Mo (k := 8) hv (by decide) q_773 d_Mo_count_62 ?_
    refine gV.lift (fun _ _ _ _ => lv_imul hx hb d_Mo_count_65) ?_
    refine gV.lift (fun _ _ _ _ => lv_iload_n hx hb d_Mo_count_66 rfl (lv_at hl 3 rfl)) ?_
    refine gV.lift (fun _ _ _ _ => lv_iadd hx hb d_Mo_count_67) ?_
    replace hden := gb hden
    obtain ⟨a14, rfl, hden⟩ := hden
    replace hden := gb hden
    obtain ⟨v15, hv, hden⟩ := hden
    refine r_zald X (t := 3) rfl hv d_Mo_count_68 ?_
    refine gV.lift2 (fun _ _ _ _ => lv_if_eq (tgt := 76) hx hb d_Mo_count_69 (by decide)) (fun hc16 => ?_) (fun hc16 => ?_)
    · replace hden := gip hc16 hden
      refine gV.lift (fun _ _ _ _ => lv_iconst (v := 0) hx hb d_Mo_count_76 (by decide)) ?_
      exact w_Mo_count_77 Y hk48 x0 x1 x3 0 x2 S hden (lv_sub hl [0, 1, 3] rfl)
    · replace hden := gin hc16 hden
      refine gV.lift (fun _ _ _ _ => lv_iconst (v := 1) hx hb d_Mo_count_72 (by decide)) ?_
      refine gV.lift (fun _ _ _ _ => lv_goto (tgt := 77) hx hb d_Mo_count_73 (by decide)) ?_
      exact w_Mo_count_77 Y hk48 x0 x1 x3 1 x2 S hden (lv_sub hl [0, 1, 3] rfl)
def L_Mo_count_48  : Nat → Nat → Int32 → Int32 → Int32 → gS → Option (Int32 × gS)
  | 0 => fun _ _ _ _ _ => none
  | n + 1 => fun x0 x1 x2 x3 S => B_Mo_count_48  (L_Mo_count_48  n) x0 x1 x2 x3 S
theorem wL_Mo_count_48 {D : va_G} {cT : Nat → ClassId} {H0 : Heap} {l : Launch} {p : Program} {e : Env} {s : State} {m : MethodId} {args : Array Value} {below : List Frame} {meth : Method} {c : Code} {S0 : gS} {S' : gS} {r : Int32} (Y : gY D cT H0 p s m args meth c prog_12_method_45_code 4 "PlanTextModel" 1 23 S0 (Option.some Jvm.ClassFile.FieldType.int))  : ∀ (n : Nat) (x0 : Nat) (x1 : Int32) (x2 : Int32) (x3 : Int32) (S : gS) (ls : Array Slot), L_Mo_count_48  n x0 x1 x2 x3 S = some (r, S') → lv_has ls 4 [(0, va_rf (some x0)), (1, .int x1), (2, .int x2), (3, .int x3)] → gV D cT H0 p l e (gRm 1 23 S0) s m args below meth c (gQ D cT H0 below S0 S' (.inr (some (.int r))) s) S0 S (F0 m 48 ls []) := by
  intro n
  induction n with
  | zero => intro x0 x1 x2 x3 S ls h hl; cases h
  | succ n ih => intro x0 x1 x2 x3 S ls h hl; exact w_Mo_count_48 Y ih x0 x1 x2 x3 S h hl
def B_Mo_count_15  (x0 : Nat) (x1 : Int32) (t0 : Int32) (t1 : Nat) (S : gS) : Option (Int32 × gS) := Option.bind (gOb S t1 10) (fun fs3 => gB2 (D_Mo_throwing t1 t0 0 0 S) (fun v2 S1 => (if v2 = 0 then (if x1 = 0 then Option.bind (gI S1 x0 10 7) (fun v8 => some (v8, S1)) else Option.bind (gI S1 x0 10 8) (fun v6 => (if 0 ≤ v6 then L_Mo_count_48  gF x0 x1 0 41 S1 else some (0, S1)))) else some (0, S1))))
set_option maxRecDepth 100000 in
set_option maxHeartbeats 4000000 in
theorem w_Mo_count_15 {D : va_G} {cT : Nat → ClassId} {H0 : Heap} {l : Launch} {p : Program} {e : Env} {s : State} {m : MethodId} {args : Array Value} {below : List Frame} {meth : Method} {c : Code} {S0 : gS} {S' : gS} {r : Int32} (Y : gY D cT H0 p s m args meth c prog_12_method_45_code 4 "PlanTextModel" 1 23 S0 (Option.some Jvm.ClassFile.FieldType.int))  (x0 : Nat) (x1 : Int32) (t0 : Int32) (t1 : Nat) (S : gS) (hden : B_Mo_count_15  x0 x1 t0 t1 S = some (r, S')) {ls : Array Slot} (hl : lv_has ls 4 [(0, va_rf (some x0)), (1, .int x1)]) : gV D cT H0 p l e (gRm 1 23 S0) s m args below meth c (gQ D cT H0 below S0 S' (.inr (some (.int r))) s) S0 S (F0 m 15 ls [.int t0, va_rf (some t1)]) := by
  obtain ⟨X, hZ, hex, hr, hE⟩ := id Y
  have hx := X.1
  have hb := X.2.1
  unfold B_Mo_count_15 at hden
  refine gV.lift (fun _ _ _ _ => lv_iconst (v := 0) hx hb d_Mo_count_15 (by decide)) ?_
  refine gV.lift (fun _ _ _ _ => lv_iconst (v := 0) hx hb d_Mo_count_16 (by decide)) ?_
  replace hden := gb hden
  obtain ⟨fs3, ho, hden⟩ := hden
  replace hden := gb2 hden
  obtain ⟨v2, S1, hz, hden⟩ := hden
  refine g_callV (As := [.int t0, .int 0, .int 0]) (rest := []) X hZ (c_Mo_throwing hz) cl_Mo (gOb_spec ho) q_859 q_5 q_856 q_858 qp_26 ⟨by decide, by decide, by show _ = some 3; decide +kernel⟩ ⟨by decide, by decide⟩ hl.1 (Nat.le_of_ble_eq_true rfl) d_Mo_count_17 rfl rfl ?_
  refine gV.lift2 (fun _ _ _ _ => lv_if_eq (tgt := 25) hx hb d_Mo_count_20 (by decide)) (fun hc4 => ?_) (fun hc4 => ?_)
  · replace hden := gip hc4 hden
    refine gV.lift (fun _ _ _ _ => lv_iload_n hx hb d_Mo_count_25 rfl (lv_at hl 1 rfl)) ?_
    refine gV.lift2 (fun _ _ _ _ => lv_if_ne (tgt := 34) hx hb d_Mo_count_26 (by decide)) (fun hc5 => ?_) (fun hc5 => ?_)
    · replace hden := gin hc5 hden
      refine gV.lift (fun _ _ _ _ => g_aload_n hx hb d_Mo_count_34 rfl (lv_at hl 0 rfl)) ?_
      replace hden := gb hden
      obtain ⟨v6, hv, hden⟩ := hden
      refine r_getI X cl_Mo (k := 8) hv (by decide) q_773 d_Mo_count_35 ?_
      refine gV.lift2 (fun _ _ _ _ => lv_if_ge (tgt := 43) hx hb d_Mo_count_38 (by decide)) (fun hc7 => ?_) (fun hc7 => ?_)
      · replace hden := gip hc7 hden
        refine gV.lift (fun _ _ _ _ => lv_iconst (v := 0) hx hb d_Mo_count_43 (by decide)) ?_
        refine gV.liftS (nL := 4) (lv' := [(2, .int 0), (0, va_rf (some x0)), (1, .int x1)]) (fun _ _ _ _ => lv_istore_n hx hb d_Mo_count_44 rfl hl (by decide) rfl) (fun ls hl => ?_)
        refine gV.lift (fun _ _ _ _ => lv_bipush (v := 41) hx hb d_Mo_count_45 (by decide)) ?_
        refine gV.liftS (nL := 4) (lv' := [(3, .int 41), (2, .int 0), (0, va_rf (some x0)), (1, .int x1)]) (fun _ _ _ _ => lv_istore_n hx hb d_Mo_count_47 rfl hl (by decide) rfl) (fun ls hl => ?_)
        exact wL_Mo_count_48 Y  gF x0 x1 0 41 S1 _ hden (lv_sub hl [2, 3, 1, 0] rfl)
      · replace hden := gin hc7 hden
        refine gV.lift (fun _ _ _ _ => lv_iconst (v := 0) hx hb d_Mo_count_41 (by decide)) ?_
        obtain ⟨rfl, rfl⟩ := gpi hden
        exact g_iret X hr d_Mo_count_42
    · replace hden := gip hc5 hden
      refine gV.lift (fun _ _ _ _ => g_aload_n hx hb d_Mo_count_29 rfl (lv_at hl 0 rfl)) ?_
      replace hden := gb hden
      obtain ⟨v8, hv, hden⟩ := hden
      refine r_getI X cl_Mo (k := 7) hv (by decide) q_772 d_Mo_count_30 ?_
      obtain ⟨rfl, rfl⟩ := gpi hden
      exact g_iret X hr d_Mo_count_33
  · replace hden := gin hc4 hden
    refine gV.lift (fun _ _ _ _ => lv_iconst (v := 0) hx hb d_Mo_count_23 (by decide)) ?_
    obtain ⟨rfl, rfl⟩ := gpi hden
    exact g_iret X hr d_Mo_count_24
def D_Mo_count (h0 : Nat) (p0 : Int32) (S : gS) : Option (Int32 × gS) := gB2 (D_Mo_in p0 0 3 S) (fun v2 S1 => (if v2 = 0 then B_Mo_count_15  h0 p0 1 h0 S1 else B_Mo_count_15  h0 p0 0 h0 S1))
set_option maxRecDepth 100000 in
set_option maxHeartbeats 4000000 in
theorem c_Mo_count {D : va_G} {cT : Nat → ClassId} {H0 : Heap} {l : Launch} {S : gS} {S' : gS} {h0 : Nat} {p0 : Int32} {r : Int32} (hden : D_Mo_count h0 p0 S = some (r, S')) : gM D cT H0 l y_Mo_count (Cond.code y_Mo_count prog_12_method_45_code 4 (Option.some Jvm.ClassFile.FieldType.int)) 1 23 [va_rf (some h0), .int p0] S S' (.inr (some (.int r))) := by
  refine gM.ofV (by decide) ?_
  intro p e s m args below meth c s₁ B hml ea X hZ hex hr hE
  subst ea
  have Y : gY D cT H0 p s m _ meth c prog_12_method_45_code 4 "PlanTextModel" 1 23 S (Option.some Jvm.ClassFile.FieldType.int) := ⟨X, hZ, hex, hr, hE⟩
  have hx := X.1
  have hb := X.2.1
  have hl := lv_entry ([va_rf (some h0), .int p0]) (n := 4) (Nat.le_of_ble_eq_true rfl)
  rw [lg_entry_eq]
  generalize (lg_sl ([va_rf (some h0), .int p0]) ++ List.replicate (4 - (lg_sl ([va_rf (some h0), .int p0])).length) Slot.unset).toArray = ls at hl ⊢
  have hl : lv_has ls 4 [(0, va_rf (some h0)), (1, .int p0)] := hl
  unfold D_Mo_count at hden
  refine gV.lift (fun _ _ _ _ => g_aload_n hx hb d_Mo_count_0 rfl (lv_at hl 0 rfl)) ?_
  refine gV.lift (fun _ _ _ _ => lv_iload_n hx hb d_Mo_count_1 rfl (lv_at hl 1 rfl)) ?_
  refine gV.lift (fun _ _ _ _ => lv_iconst (v := 0) hx hb d_Mo_count_2 (by decide)) ?_
  refine gV.lift (fun _ _ _ _ => lv_iconst (v := 3) hx hb d_Mo_count_3 (by decide)) ?_
  replace hden := gb2 hden
  obtain ⟨v2, S1, hz, hden⟩ := hden
  refine g_callS (As := [.int p0, .int 0, .int 3]) (rest := [va_rf (some h0)]) X hZ (c_Mo_in hz) q_855 q_5 q_853 q_854 ⟨by decide, by decide, by show _ = some 3; decide +kernel⟩ ⟨by decide, by decide⟩ hl.1 (Nat.le_of_ble_eq_true rfl) d_Mo_count_4 rfl rfl ?_
  refine gV.lift2 (fun _ _ _ _ => lv_if_ne (tgt := 14) hx hb d_Mo_count_7 (by decide)) (fun hc3 => ?_) (fun hc3 => ?_)
  · replace hden := gin hc3 hden
    refine gV.lift (fun _ _ _ _ => lv_iconst (v := 0) hx hb d_Mo_count_14 (by decide)) ?_
    exact w_Mo_count_15 Y  h0 p0 0 h0 S1 hden (lv_sub hl [0, 1] rfl)
  · replace hden := gip hc3 hden
    refine gV.lift (fun _ _ _ _ => lv_iconst (v := 1) hx hb d_Mo_count_10 (by decide)) ?_
    refine gV.lift (fun _ _ _ _ => lv_goto (tgt := 15) hx hb d_Mo_count_11 (by decide)) ?_
    exact w_Mo_count_15 Y  h0 p0 1 h0 S1 hden (lv_sub hl [0, 1] rfl)
