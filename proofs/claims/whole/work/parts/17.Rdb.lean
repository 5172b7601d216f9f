/-! PlanText$Reader.readEdition(I)LPlanText$Edition; -/
abbrev y_Rd_readEdition : MethodName := ⟨"PlanText$Reader", "readEdition", "(I)LPlanText$Edition;"⟩
theorem d_Rd_readEdition_0 : decode prog_8_method_2_code 0 = .ok (.new 31, 3) := by decide +kernel
theorem d_Rd_readEdition_3 : decode prog_8_method_2_code 3 = .ok (.dup, 1) := by decide +kernel
theorem d_Rd_readEdition_4 : decode prog_8_method_2_code 4 = .ok (.iload_n 1, 1) := by decide +kernel
theorem d_Rd_readEdition_5 : decode prog_8_method_2_code 5 = .ok (.invokespecial 33, 3) := by decide +kernel
theorem d_Rd_readEdition_8 : decode prog_8_method_2_code 8 = .ok (.astore_n 2, 1) := by decide +kernel
theorem d_Rd_readEdition_9 : decode prog_8_method_2_code 9 = .ok (.iconst 0, 1) := by decide +kernel
theorem d_Rd_readEdition_10 : decode prog_8_method_2_code 10 = .ok (.istore_n 3, 1) := by decide +kernel
theorem d_Rd_readEdition_11 : decode prog_8_method_2_code 11 = .ok (.iload_n 3, 1) := by decide +kernel
theorem d_Rd_readEdition_12 : decode prog_8_method_2_code 12 = .ok (.aload_n 0, 1) := by decide +kernel
theorem d_Rd_readEdition_13 : decode prog_8_method_2_code 13 = .ok (.getfield 28, 3) := by decide +kernel
theorem d_Rd_readEdition_16 : decode prog_8_method_2_code 16 = .ok (.if_icmp .ge 89, 3) := by decide +kernel
theorem d_Rd_readEdition_19 : decode prog_8_method_2_code 19 = .ok (.aload_n 0, 1) := by decide +kernel
theorem d_Rd_readEdition_20 : decode prog_8_method_2_code 20 = .ok (.invokevirtual 36, 3) := by decide +kernel
theorem d_Rd_readEdition_23 : decode prog_8_method_2_code 23 = .ok (.iconst (-1), 1) := by decide +kernel
theorem d_Rd_readEdition_24 : decode prog_8_method_2_code 24 = .ok (.if_icmp .eq 81, 3) := by decide +kernel
theorem d_Rd_readEdition_27 : decode prog_8_method_2_code 27 = .ok (.aload_n 0, 1) := by decide +kernel
theorem d_Rd_readEdition_28 : decode prog_8_method_2_code 28 = .ok (.bipush 112, 2) := by decide +kernel
theorem d_Rd_readEdition_30 : decode prog_8_method_2_code 30 = .ok (.invokevirtual 40, 3) := by decide +kernel
theorem d_Rd_readEdition_33 : decode prog_8_method_2_code 33 = .ok (.ifCond .eq 11, 3) := by decide +kernel
theorem d_Rd_readEdition_36 : decode prog_8_method_2_code 36 = .ok (.aload_n 0, 1) := by decide +kernel
theorem d_Rd_readEdition_37 : decode prog_8_method_2_code 37 = .ok (.aload_n 2, 1) := by decide +kernel
theorem d_Rd_readEdition_38 : decode prog_8_method_2_code 38 = .ok (.invokevirtual 44, 3) := by decide +kernel
theorem d_Rd_readEdition_41 : decode prog_8_method_2_code 41 = .ok (.goto 52, 3) := by decide +kernel
theorem d_Rd_readEdition_44 : decode prog_8_method_2_code 44 = .ok (.aload_n 0, 1) := by decide +kernel
theorem d_Rd_readEdition_45 : decode prog_8_method_2_code 45 = .ok (.bipush 100, 2) := by decide +kernel
theorem d_Rd_readEdition_47 : decode prog_8_method_2_code 47 = .ok (.invokevirtual 40, 3) := by decide +kernel
theorem d_Rd_readEdition_50 : decode prog_8_method_2_code 50 = .ok (.ifCond .eq 11, 3) := by decide +kernel
theorem d_Rd_readEdition_53 : decode prog_8_method_2_code 53 = .ok (.aload_n 0, 1) := by decide +kernel
theorem d_Rd_readEdition_54 : decode prog_8_method_2_code 54 = .ok (.aload_n 2, 1) := by decide +kernel
theorem d_Rd_readEdition_55 : decode prog_8_method_2_code 55 = .ok (.invokevirtual 48, 3) := by decide +kernel
theorem d_Rd_readEdition_58 : decode prog_8_method_2_code 58 = .ok (.goto 35, 3) := by decide +kernel
theorem d_Rd_readEdition_61 : decode prog_8_method_2_code 61 = .ok (.aload_n 2, 1) := by decide +kernel
theorem d_Rd_readEdition_62 : decode prog_8_method_2_code 62 = .ok (.invokevirtual 51, 3) := by decide +kernel
theorem d_Rd_readEdition_65 : decode prog_8_method_2_code 65 = .ok (.ifCond .eq 20, 3) := by decide +kernel
theorem d_Rd_readEdition_68 : decode prog_8_method_2_code 68 = .ok (.aload_n 0, 1) := by decide +kernel
theorem d_Rd_readEdition_69 : decode prog_8_method_2_code 69 = .ok (.bipush 115, 2) := by decide +kernel
theorem d_Rd_readEdition_71 : decode prog_8_method_2_code 71 = .ok (.invokevirtual 40, 3) := by decide +kernel
theorem d_Rd_readEdition_74 : decode prog_8_method_2_code 74 = .ok (.ifCond .eq 11, 3) := by decide +kernel
theorem d_Rd_readEdition_77 : decode prog_8_method_2_code 77 = .ok (.aload_n 0, 1) := by decide +kernel
theorem d_Rd_readEdition_78 : decode prog_8_method_2_code 78 = .ok (.aload_n 2, 1) := by decide +kernel
theorem d_Rd_readEdition_79 : decode prog_8_method_2_code 79 = .ok (.invokevirtual 55, 3) := by decide +kernel
theorem d_Rd_readEdition_82 : decode prog_8_method_2_code 82 = .ok (.goto 11, 3) := by decide +kernel
theorem d_Rd_readEdition_85 : decode prog_8_method_2_code 85 = .ok (.aload_n 0, 1) := by decide +kernel
theorem d_Rd_readEdition_86 : decode prog_8_method_2_code 86 = .ok (.aload_n 0, 1) := by decide +kernel
theorem d_Rd_readEdition_87 : decode prog_8_method_2_code 87 = .ok (.getfield 9, 3) := by decide +kernel
theorem d_Rd_readEdition_90 : decode prog_8_method_2_code 90 = .ok (.invokevirtual 58, 3) := by decide +kernel
theorem d_Rd_readEdition_93 : decode prog_8_method_2_code 93 = .ok (.aload_n 0, 1) := by decide +kernel
theorem d_Rd_readEdition_94 : decode prog_8_method_2_code 94 = .ok (.bipush 59, 2) := by decide +kernel
theorem d_Rd_readEdition_96 : decode prog_8_method_2_code 96 = .ok (.invokevirtual 61, 3) := by decide +kernel
theorem d_Rd_readEdition_99 : decode prog_8_method_2_code 99 = .ok (.iinc 3 1, 3) := by decide +kernel
theorem d_Rd_readEdition_102 : decode prog_8_method_2_code 102 = .ok (.goto (-91), 3) := by decide +kernel
theorem d_Rd_readEdition_105 : decode prog_8_method_2_code 105 = .ok (.aload_n 2, 1) := by decide +kernel
theorem d_Rd_readEdition_106 : decode prog_8_method_2_code 106 = .ok (.areturn, 1) := by decide +kernel
def B_Rd_readEdition_105  (x2 : Nat) (S : gS) : Option ((Option Nat) × gS) := some ((some x2), S)
set_option maxRecDepth 100000 in
set_option maxHeartbeats 4000000 in
theorem w_Rd_readEdition_105 {D : va_G} {cT : Nat → ClassId} {H0 : Heap} {l : Launch} {p : Program} {e : Env} {s : State} {m : MethodId} {args : Array Value} {below : List Frame} {meth : Method} {c : Code} {S0 : gS} {S' : gS} {r : Option Nat} (Y : gY D cT H0 p s m args meth c prog_8_method_2_code 4 "PlanText$Reader" 5 122 S0 (Option.some (Jvm.ClassFile.FieldType.object "PlanText$Edition")))  (x2 : Nat) (S : gS) (hden : B_Rd_readEdition_105  x2 S = some (r, S')) {ls : Array Slot} (hl : lv_has ls 4 [(2, va_rf (some x2))]) : gV D cT H0 p l e (gRm 5 122 S0) s m args below meth c (gQ D cT H0 below S0 S' (.inr (some (va_rf r))) s) S0 S (F0 m 105 ls []) := by
  obtain ⟨X, hZ, hex, hr, hE⟩ := id Y
  have hx := X.1
  have hb := X.2.1
  unfold B_Rd_readEdition_105 at hden
  refine gV.lift (fun _ _ _ _ => g_aload_n hx hb d_Rd_readEdition_105 rfl (lv_at hl 0 rfl)) ?_
  obtain ⟨rfl, rfl⟩ := gpi hden
  exact g_aret X hr d_Rd_readEdition_106
def B_Rd_readEdition_93 (k11 : Nat → Nat → Int32 → gS → Option ((Option Nat) × gS)) (x0 : Nat) (x2 : Nat) (x3 : Int32) (S : gS) : Option ((Option Nat) × gS) := Option.bind (gOb S x0 7) (fun fs2 => Option.bind (D_Rd_expect x0 59 S) (fun S1 => k11 x0 x2 (x3 + 1) S1))
set_option maxRecDepth 100000 in
set_option maxHeartbeats 4000000 in
theorem w_Rd_readEdition_93 {D : va_G} {cT : Nat → ClassId} {H0 : Heap} {l : Launch} {p : Program} {e : Env} {s : State} {m : MethodId} {args : Array Value} {below : List Frame} {meth : Method} {c : Code} {S0 : gS} {S' : gS} {r : Option Nat} (Y : gY D cT H0 p s m args meth c prog_8_method_2_code 4 "PlanText$Reader" 5 122 S0 (Option.some (Jvm.ClassFile.FieldType.object "PlanText$Edition"))) {k11 : Nat → Nat → Int32 → gS → Option ((Option Nat) × gS)} (hk11 : ∀ (x0 : Nat) (x2 : Nat) (x3 : Int32) (S : gS) (ls : Array Slot), k11 x0 x2 x3 S = some (r, S') → lv_has ls 4 [(0, va_rf (some x0)), (2, va_rf (some x2)), (3, .int x3)] → gV D cT H0 p l e (gRm 5 122 S0) s m args below meth c (gQ D cT H0 below S0 S' (.inr (some (va_rf r))) s) S0 S (F0 m 11 ls [])) (x0 : Nat) (x2 : Nat) (x3 : Int32) (S : gS) (hden : B_Rd_readEdition_93 k11 x0 x2 x3 S = some (r, S')) {ls : Array Slot} (hl : lv_has ls 4 [(0, va_rf (some x0)), (2, va_rf (some x2)), (3, .int x3)]) : gV D cT H0 p l e (gRm 5 122 S0) s m args below meth c (gQ D cT H0 below S0 S' (.inr (some (va_rf r))) s) S0 S (F0 m 93 ls []) := by
  obtain ⟨X, hZ, hex, hr, hE⟩ := id Y
  have hx := X.1
  have hb := X.2.1
  unfold B_Rd_readEdition_93 at hden
  refine gV.lift (fun _ _ _ _ => g_aload_n hx hb d_Rd_readEdition_93 rfl (lv_at hl 0 rfl)) ?_
  refine gV.lift (fun _ _ _ _ => lv_bipush (v := 59) hx hb d_Rd_readEdition_94 (by decide)) ?_
  replace hden := gb hden
  obtain ⟨fs2, ho, hden⟩ := hden
  replace hden := gb hden
  obtain ⟨S1, hz, hden⟩ := hden
  refine g_callV (As := [.int 59]) (rest := []) X hZ (c_Rd_expect hz) cl_Rd (gOb_spec ho) q_307 q_11 q_304 q_306 qp_7 ⟨by decide, by decide, by show _ = some 1; decide +kernel⟩ ⟨by decide, by decide⟩ hl.1 (Nat.le_of_ble_eq_true rfl) d_Rd_readEdition_96 rfl rfl ?_
  refine gV.liftS (nL := 4) (lv' := [(3, .int (x3 + 1)), (0, va_rf (some x0)), (2, va_rf (some x2))]) (fun _ _ _ _ => lv_iinc (v := (x3 + 1)) hx hb d_Rd_readEdition_99 hl (k := 2) rfl rfl (by decide) rfl) (fun ls hl => ?_)
  refine gV.lift (fun _ _ _ _ => lv_goto (tgt := 11) hx hb d_Rd_readEdition_102 (by decide)) ?_
  exact hk11 x0 x2 (x3 + 1) S1 _ hden (lv_sub hl [1, 2, 0] rfl)
def B_Rd_readEdition_85 (k11 : Nat → Nat → Int32 → gS → Option ((Option Nat) × gS)) (x0 : Nat) (x2 : Nat) (x3 : Int32) (S : gS) : Option ((Option Nat) × gS) := Option.bind (gI S x0 7 2) (fun v1 => Option.bind (gOb S x0 7) (fun fs3 => Option.bind (D_Rd_fail x0 v1 S) (fun S2 => B_Rd_readEdition_93 k11 x0 x2 x3 S2)))
set_option maxRecDepth 100000 in
set_option maxHeartbeats 4000000 in
theorem w_Rd_readEdition_85 {D : va_G} {cT : Nat → ClassId} {H0 : Heap} {l : Launch} {p : Program} {e : Env} {s : State} {m : MethodId} {args : Array Value} {below : List Frame} {meth : Method} {c : Code} {S0 : gS} {S' : gS} {r : Option Nat} (Y : gY D cT H0 p s m args meth c prog_8_method_2_code 4 "PlanText$Reader" 5 122 S0 (Option.some (Jvm.ClassFile.FieldType.object "PlanText$Edition"))) {k11 : Nat → Nat → Int32 → gS → Option ((Option Nat) × gS)} (hk11 : ∀ (x0 : Nat) (x2 : Nat) (x3 : Int32) (S : gS) (ls : Array Slot), k11 x0 x2 x3 S = some (r, S') → lv_has ls 4 [(0, va_rf (some x0)), (2, va_rf (some x2)), (3, .int x3)] → gV D cT H0 p l e (gRm 5 122 S0) s m args below meth c (gQ D cT H0 below S0 S' (.inr (some (va_rf r))) s) S0 S (F0 m 11 ls [])) (x0 : Nat) (x2 : Nat) (x3 : Int32) (S : gS) (hden : B_Rd_readEdition_85 k11 x0 x2 x3 S = some (r, S')) {ls : Array Slot} (hl : lv_has ls 4 [(0, va_rf (some x0)), (2, va_rf (some x2)), (3, .int x3)]) : gV D cT H0 p l e (gRm 5 122 S0) s m args below meth c (gQ D cT H0 below S0 S' (.inr (some (va_rf r))) s) S0 S (F0 m 85 ls []) := by
  obtain ⟨X, hZ, hex, hr, hE⟩ := id Y
  have hx := X.1
  have hb := X.2.1
  unfold B_Rd_readEdition_85 at hden
  refine gV.lift (fun _ _ _ _ => g_aload_n hx hb d_Rd_readEdition_85 rfl (lv_at hl 0 rfl)) ?_
  refine gV.lift (fun _ _ _ _ => g_aload_n hx hb d_Rd_readEdition_86 rfl (lv_at hl 0 rfl)) ?_
  replace hden := gb hden
  obtain ⟨v1, hv, hden⟩ := hden
  refine r_getI X cl_Rd (k := 2) hv (by decide) q_255 d_Rd_readEdition_87 ?_
  replace hden := gb hden
  obtain ⟨fs3, ho, hden⟩ := hden
  replace hden := gb hden
  obtain ⟨S2, hz, hden⟩ := hden
  refine g_callV (As := [.int v1]) (rest := []) X hZ (c_Rd_fail hz) cl_Rd (gOb_spec ho) q_295 q_11 q_292 q_294 qp_5 ⟨by decide, by decide, by show _ = some 1; decide +kernel⟩ ⟨by decide, by decide⟩ hl.1 (Nat.le_of_ble_eq_true rfl) d_Rd_readEdition_90 rfl rfl ?_
  exact w_Rd_readEdition_93 Y hk11 x0 x2 x3 S2 hden (lv_sub hl [0, 1, 2] rfl)
def B_Rd_readEdition_11 (k11 : Nat → Nat → Int32 → gS → Option ((Option Nat) × gS)) (x0 : Nat) (x2 : Nat) (x3 : Int32) (S : gS) : Option ((Option Nat) × gS) := Option.bind (gI S x0 7 1) (fun v1 => (if v1 ≤ x3 then B_Rd_readEdition_105  x2 S else Option.bind (gOb S x0 7) (fun fs5 => gB2 (D_Rd_nextSign x0 S) (fun v4 S3 => (if v4 = (-1) then B_Rd_readEdition_105  x2 S3 else Option.bind (gOb S3 x0 7) (fun fs9 => gB2 (D_Rd_takes x0 112 S3) (fun v8 S7 => (if v8 = 0 then Option.bind (gOb S7 x0 7) (fun fs13 => gB2 (D_Rd_takes x0 100 S7) (fun v12 S11 => (if v12 = 0 then Option.bind (gOb S11 x2 1) (fun fs17 => gB2 (D_Ed_hasRoomForStandby x2 S11) (fun v16 S15 => (if v16 = 0 then B_Rd_readEdition_85 k11 x0 x2 x3 S15 else Option.bind (gOb S15 x0 7) (fun fs21 => gB2 (D_Rd_takes x0 115 S15) (fun v20 S19 => (if v20 = 0 then B_Rd_readEdition_85 k11 x0 x2 x3 S19 else Option.bind (gOb S19 x0 7) (fun fs24 => Option.bind (D_Rd_readStandby x0 (some x2) S19) (fun S23 => B_Rd_readEdition_93 k11 x0 x2 x3 S23)))))))) else Option.bind (gOb S11 x0 7) (fun fs26 => Option.bind (D_Rd_readDefault x0 (some x2) S11) (fun S25 => B_Rd_readEdition_93 k11 x0 x2 x3 S25))))) else Option.bind (gOb S7 x0 7) (fun fs28 => Option.bind (D_Rd_readPlan x0 (some x2) S7) (fun S27 => B_Rd_readEdition_93 k11 x0 x2 x3 S27))))))))))
set_option maxRecDepth 100000 in
set_option maxHeartbeats 4000000 in
theorem w_Rd_readEdition_11 {D : va_G} {cT : Nat → ClassId} {H0 : Heap} {l : Launch} {p : Program} {e : Env} {s : State} {m : MethodId} {args : Array Value} {below : List Frame} {meth : Method} {c : Code} {S0 : gS} {S' : gS} {r : Option Nat} (Y : gY D cT H0 p s m args meth c prog_8_method_2_code 4 "PlanText$Reader" 5 122 S0 (Option.some (Jvm.ClassFile.FieldType.object "PlanText$Edition"))) {k11 : Nat → Nat → Int32 → gS → Option ((Option Nat) × gS)} (hk11 : ∀ (x0 : Nat) (x2 : Nat) (x3 : Int32) (S : gS) (ls : Array Slot), k11 x0 x2 x3 S = some (r, S') → lv_has ls 4 [(0, va_rf (some x0)), (2, va_rf (some x2)), (3, .int x3)] → gV D cT H0 p l e (gRm 5 122 S0) s m args below meth c (gQ D cT H0 below S0 S' (.inr (some (va_rf r))) s) S0 S (F0 m 11 ls [])) (x0 : Nat) (x2 : Nat) (x3 : Int32) (S : gS) (hden : B_Rd_readEdition_11 k11 x0 x2 x3 S = some (r, S')) {ls : Array Slot} (hl : lv_has ls 4 [(0, va_rf (some x0)), (2, va_rf (some x2)), (3, .int x3)]) : gV D cT H0 p l e (gRm 5 122 S0) s m args below meth c (gQ D cT H0 below S0 S' (.inr (some (va_rf r))) s) S0 S (F0 m 11 ls []) := by
  obtain ⟨X, hZ, hex, hr, hE⟩ := id Y
  have hx := X.1
  have hb := X.2.1
  unfold B_Rd_readEdition_11 at hden
  refine gV.lift (fun _ _ _ _ => lv_iload_n hx hb d_Rd_readEdition_11 rfl (lv_at hl 2 rfl)) ?_
  refine gV.lift (fun _ _ _ _ => g_aload_n hx hb d_Rd_readEdition_12 rfl (lv_at hl 0 rfl)) ?_
  replace hden := gb hden
  obtain ⟨v1, hv, hden⟩ := hden
  refine r_getI X cl_Rd (k := 1) hv (by decide) q_254 d_Rd_readEdition_13 ?_
  refine gV.lift2 (fun _ _ _ _ => lv_icmp_ge (tgt := 105) hx hb d_Rd_readEdition_16 (by decide)) (fun hc2 => ?_) (fun hc2 => ?_)
  · replace hden := gip hc2 hden
    exact w_Rd_readEdition_105 Y  x2 S hden (lv_sub hl [1] rfl)
  · replace hden := gin hc2 hden
    refine gV.lift (fun _ _ _ _ => g_aload_n hx hb d_Rd_readEdition_19 rfl (lv_at hl 0 rfl)) ?_
    replace hden := gb hden
    obtain ⟨fs5, ho, hden⟩ := hden
    replace hden := gb2 hden
    obtain ⟨v4, S3, hz, hden⟩ := hden
    refine g_callV (As := []) (rest := []) X hZ (c_Rd_nextSign hz) cl_Rd (gOb_spec ho) q_276 q_11 q_273 q_275 qp_1 ⟨by decide, by decide, by show _ = some 0; decide +kernel⟩ ⟨by decide, by decide⟩ hl.1 (Nat.le_of_ble_eq_true rfl) d_Rd_readEdition_20 rfl rfl ?_
    refine gV.lift (fun _ _ _ _ => lv_iconst (v := (-1)) hx hb d_Rd_readEdition_23 (by decide)) ?_
    refine gV.lift2 (fun _ _ _ _ => lv_icmp_eq (tgt := 105) hx hb d_Rd_readEdition_24 (by decide)) (fun hc6 => ?_) (fun hc6 => ?_)
    · replace hden := gip hc6 hden
      exact w_Rd_readEdition_105 Y  x2 S3 hden (lv_sub hl [1] rfl)
    · replace hden := gin hc6 hden
      refine gV.lift (fun _ _ _ _ => g_aload_n hx hb d_Rd_readEdition_27 rfl (lv_at hl 0 rfl)) ?_
      refine gV.lift (fun _ _ _ _ => lv_bipush (v := 112) hx hb d_Rd_readEdition_28 (by decide)) ?_
      replace hden := gb hden
      obtain ⟨fs9, ho, hden⟩ := hden
      replace hden := gb2 hden
      obtain ⟨v8, S7, hz, hden⟩ := hden
      refine g_callV (As := [.int 112]) (rest := []) X hZ (c_Rd_takes hz) cl_Rd (gOb_spec ho) q_280 q_11 q_277 q_279 qp_2 ⟨by decide, by decide, by show _ = some 1; decide +kernel⟩ ⟨by decide, by decide⟩ hl.1 (Nat.le_of_ble_eq_true rfl) d_Rd_readEdition_30 rfl rfl ?_
      refine gV.lift2 (fun _ _ _ _ => lv_if_eq (tgt := 44) hx hb d_Rd_readEdition_33 (by decide)) (fun hc10 => ?_) (fun hc10 => ?_)
      · replace hden := gip hc10 hden
        refine gV.lift (fun _ _ _ _ => g_aload_n hx hb d_Rd_readEdition_44 rfl (lv_at hl 0 rfl)) ?_
        refine gV.lift (fun _ _ _ _ => lv_bipush (v := 100) hx hb d_Rd_readEdition_45 (by decide)) ?_
        replace hden := gb hden
        obtain ⟨fs13, ho, hden⟩ := hden
        replace hden := gb2 hden
        obtain ⟨v12, S11, hz, hden⟩ := hden
        refine g_callV (As := [.int 100]) (rest := []) X hZ (c_Rd_takes hz) cl_Rd (gOb_spec ho) q_280 q_11 q_277 q_279 qp_2 ⟨by decide, by decide, by show _ = some 1; decide +kernel⟩ ⟨by decide, by decide⟩ hl.1 (Nat.le_of_ble_eq_true rfl) d_Rd_readEdition_47 rfl rfl ?_
        refine gV.lift2 (fun _ _ _ _ => lv_if_eq (tgt := 61) hx hb d_Rd_readEdition_50 (by decide)) (fun hc14 => ?_) (fun hc14 => ?_)
        · replace hden := gip hc14 hden
          refine gV.lift (fun _ _ _ _ => g_aload_n hx hb d_Rd_readEdition_61 rfl (lv_at hl 1 rfl)) ?_
          replace hden := gb hden
          obtain ⟨fs17, ho, hden⟩ := hden
          replace hden := gb2 hden
          obtain ⟨v16, S15, hz, hden⟩ := hden
          refine g_callV (As := []) (rest := []) X hZ (c_Ed_hasRoomForStandby hz) cl_Ed (gOb_spec ho) q_471 q_2 q_468 q_469 q_470 ⟨by decide, by decide, by show _ = some 0; decide +kernel⟩ ⟨by decide, by decide⟩ hl.1 (Nat.le_of_ble_eq_true rfl) d_Rd_readEdition_62 rfl rfl ?_
          refine gV.lift2 (fun _ _ _ _ => lv_if_eq (tgt := 85) hx hb d_Rd_readEdition_65 (by decide)) (fun hc18 => ?_) (fun hc18 => ?_)
          · replace hden := gip hc18 hden
            exact w_Rd_readEdition_85 Y hk11 x0 x2 x3 S15 hden (lv_sub hl [0, 1, 2] rfl)
          · replace hden := gin hc18 hden
            refine gV.lift (fun _ _ _ _ => g_aload_n hx hb d_Rd_readEdition_68 rfl (lv_at hl 0 rfl)) ?_
            refine gV.lift (fun _ _ _ _ => lv_bipush (v := 115) hx hb d_Rd_readEdition_69 (by decide)) ?_
            replace hden := gb hden
            obtain ⟨fs21, ho, hden⟩ := hden
            replace hden := gb2 hden
            obtain ⟨v20, S19, hz, hden⟩ := hden
            refine g_callV (As := [.int 115]) (rest := []) X hZ (c_Rd_takes hz) cl_Rd (gOb_spec ho) q_280 q_11 q_277 q_279 qp_2 ⟨by decide, by decide, by show _ = some 1; decide +kernel⟩ ⟨by decide, by decide⟩ hl.1 (Nat.le_of_ble_eq_true rfl) d_Rd_readEdition_71 rfl rfl ?_
            refine gV.lift2 (fun _ _ _ _ => lv_if_eq (tgt := 85) hx hb d_Rd_readEdition_74 (by decide)) (fun hc22 => ?_) (fun hc22 => ?_)
            · replace hden := gip hc22 hden
              exact w_Rd_readEdition_85 Y hk11 x0 x2 x3 S19 hden (lv_sub hl [0, 1, 2] rfl)
            · replace hden := gin hc22 hden
              refine gV.lift (fun _ _ _ _ => g_aload_n hx hb d_Rd_readEdition_77 rfl (lv_at hl 0 rfl)) ?_
              refine gV.lift (fun _ _ _ _ => g_aload_n hx hb d_Rd_readEdition_78 rfl (lv_at hl 1 rfl)) ?_
              replace hden := gb hden
              obtain ⟨fs24, ho, hden⟩ := hden
              replace hden := gb hden
              obtain ⟨S23, hz, hden⟩ := hden
              refine g_callV (As := [va_rf (some x2)]) (rest := []) X hZ (c_Rd_readStandby hz) cl_Rd (gOb_spec ho) q_475 q_11 q_472 q_474 qp_14 ⟨by decide, by decide, by show _ = some 1; decide +kernel⟩ ⟨by decide, by decide⟩ hl.1 (Nat.le_of_ble_eq_true rfl) d_Rd_readEdition_79 rfl rfl ?_
              refine gV.lift (fun _ _ _ _ => lv_goto (tgt := 93) hx hb d_Rd_readEdition_82 (by decide)) ?_
              exact w_Rd_readEdition_93 Y hk11 x0 x2 x3 S23 hden (lv_sub hl [0, 1, 2] rfl)
        · replace hden := gin hc14 hden
          refine gV.lift (fun _ _ _ _ => g_aload_n hx hb d_Rd_readEdition_53 rfl (lv_at hl 0 rfl)) ?_
          refine gV.lift (fun _ _ _ _ => g_aload_n hx hb d_Rd_readEdition_54 rfl (lv_at hl 1 rfl)) ?_
          replace hden := gb hden
          obtain ⟨fs26, ho, hden⟩ := hden
          replace hden := gb hden
          obtain ⟨S25, hz, hden⟩ := hden
          refine g_callV (As := [va_rf (some x2)]) (rest := []) X hZ (c_Rd_readDefault hz) cl_Rd (gOb_spec ho) q_459 q_11 q_456 q_458 qp_13 ⟨by decide, by decide, by show _ = some 1; decide +kernel⟩ ⟨by decide, by decide⟩ hl.1 (Nat.le_of_ble_eq_true rfl) d_Rd_readEdition_55 rfl rfl ?_
          refine gV.lift (fun _ _ _ _ => lv_goto (tgt := 93) hx hb d_Rd_readEdition_58 (by decide)) ?_
          exact w_Rd_readEdition_93 Y hk11 x0 x2 x3 S25 hden (lv_sub hl [0, 1, 2] rfl)
      · replace hden := gin hc10 hden
        refine gV.lift (fun _ _ _ _ => g_aload_n hx hb d_Rd_readEdition_36 rfl (lv_at hl 0 rfl)) ?_
        refine gV.lift (fun _ _ _ _ => g_aload_n hx hb d_Rd_readEdition_37 rfl (lv_at hl 1 rfl)) ?_
        replace hden := gb hden
        obtain ⟨fs28, ho, hden⟩ := hden
        replace hden := gb hden
        obtain ⟨S27, hz, hden⟩ := hden
        refine g_callV (As := [va_rf (some x2)]) (rest := []) X hZ (c_Rd_readPlan hz) cl_Rd (gOb_spec ho) q_284 q_11 q_281 q_283 qp_3 ⟨by decide, by decide, by show _ = some 1; decide +kernel⟩ ⟨by decide, by decide⟩ hl.1 (Nat.le_of_ble_eq_true rfl) d_Rd_readEdition_38 rfl rfl ?_
        refine gV.lift (fun _ _ _ _ => lv_goto (tgt := 93) hx hb d_Rd_readEdition_41 (by decide)) ?_
        exact w_Rd_readEdition_93 Y hk11 x0 x2 x3 S27 hden (lv_sub hl [0, 1, 2] rfl)
def L_Rd_readEdition_11  : Nat → Nat → Nat → Int32 → gS → Option ((Option Nat) × gS)
  | 0 => fun _ _ _ _ => none
  | n + 1 => fun x0 x2 x3 S => B_Rd_readEdition_11  (L_Rd_readEdition_11  n) x0 x2 x3 S
theorem wL_Rd_readEdition_11 {D : va_G} {cT : Nat → ClassId} {H0 : Heap} {l : Launch} {p : Program} {e : Env} {s : State} {m : MethodId} {args : Array Value} {below : List Frame} {meth : Method} {c : Code} {S0 : gS} {S' : gS} {r : Option Nat} (Y : gY D cT H0 p s m args meth c prog_8_method_2_code 4 "PlanText$Reader" 5 122 S0 (Option.some (Jvm.ClassFile.FieldType.object "PlanText$Edition")))  : ∀ (n : Nat) (x0 : Nat) (x2 : Nat) (x3 : Int32) (S : gS) (ls : Array Slot), L_Rd_readEdition_11  n x0 x2 x3 S = some (r, S') → lv_has ls 4 [(0, va_rf (some x0)), (2, va_rf (some x2)), (3, .int x3)] → gV D cT H0 p l e (gRm 5 122 S0) s m args below meth c (gQ D cT H0 below S0 S' (.inr (some (va_rf r))) s) S0 S (F0 m 11 ls []) := by
  intro n
  induction n with
  | zero => intro x0 x2 x3 S ls h hl; cases h
  | succ n ih => intro x0 x2 x3 S ls h hl; exact w_Rd_readEdition_11 Y ih x0 x2 x3 S h hl
def D_Rd_readEdition (h0 : Nat) (p0 : Int32) (S : gS) : Option ((Option Nat) × gS) := Option.bind (gNw S 1 [.int 0, .null, .null, .null, .int 0, .int 0, .int 0]) (fun S1 => Option.bind (D_Ed_init S.2.1 p0 S1) (fun S2 => L_Rd_readEdition_11  gF h0 S.2.1 0 S2))
set_option maxRecDepth 100000 in
set_option maxHeartbeats 4000000 in
theorem c_Rd_readEdition {D : va_G} {cT : Nat → ClassId} {H0 : Heap} {l : Launch} {S : gS} {S' : gS} {h0 : Nat} {p0 : Int32} {r : Option Nat} (hden : D_Rd_readEdition h0 p0 S = some (r, S')) : gM D cT H0 l y_Rd_readEdition (Cond.code y_Rd_readEdition prog_8_method_2_code 4 (Option.some (Jvm.ClassFile.FieldType.object "PlanText$Edition"))) 5 122 [va_rf (some h0), .int p0] S S' (.inr (some (va_rf r))) := by
  refine gM.ofV (by decide) ?_
  intro p e s m args below meth c s₁ B hml ea X hZ hex hr hE
  subst ea
  have Y : gY D cT H0 p s m _ meth c prog_8_method_2_code 4 "PlanText$Reader" 5 122 S (Option.some (Jvm.ClassFile.FieldType.object "PlanText$Edition")) := ⟨X, hZ, hex, hr, hE⟩
  have hx := X.1
  have hb := X.2.1
  have hl := lv_entry ([va_rf (some h0), .int p0]) (n := 4) (Nat.le_of_ble_eq_true rfl)
  rw [lg_entry_eq]
  generalize (lg_sl ([va_rf (some h0), .int p0]) ++ List.replicate (4 - (lg_sl ([va_rf (some h0), .int p0])).length) Slot.unset).toArray = ls at hl ⊢
  have hl : lv_has ls 4 [(0, va_rf (some h0)), (1, .int p0)] := hl
  unfold D_Rd_readEdition at hden
  replace hden := gb hden
  obtain ⟨S1, hv, hden⟩ := hden
  refine r_new X cl_Ed rfl hv (fun j hj => bl_Ed j hj) q_271 q_30 q_2 d_Rd_readEdition_0 ?_
  refine gV.lift (fun _ _ _ _ => lv_dup hx hb d_Rd_readEdition_3 g_cat) ?_
  refine gV.lift (fun _ _ _ _ => lv_iload_n hx hb d_Rd_readEdition_4 rfl (lv_at hl 1 rfl)) ?_
  replace hden := gb hden
  obtain ⟨S2, hz, hden⟩ := hden
  refine g_callI (As := [.int p0]) (rest := [va_rf (some S.2.1)]) X hZ (c_Ed_init hz) q_33 q_2 q_272 q_32 rfl ⟨by decide, by decide, by show _ = some 1; decide +kernel⟩ ⟨by decide, by decide⟩ hl.1 (Nat.le_of_ble_eq_true rfl) d_Rd_readEdition_5 rfl ?_
  refine gV.liftS (nL := 4) (lv' := [(2, va_rf (some S.2.1)), (0, va_rf (some h0)), (1, .int p0)]) (fun _ _ _ _ => g_astore_n hx hb d_Rd_readEdition_8 rfl hl (by decide) rfl) (fun ls hl => ?_)
  refine gV.lift (fun _ _ _ _ => lv_iconst (v := 0) hx hb d_Rd_readEdition_9 (by decide)) ?_
  refine gV.liftS (nL := 4) (lv' := [(3, .int 0), (2, va_rf (some S.2.1)), (0, va_rf (some h0)), (1, .int p0)]) (fun _ _ _ _ => lv_istore_n hx hb d_Rd_readEdition_10 rfl hl (by decide) rfl) (fun ls hl => ?_)
  exact wL_Rd_readEdition_11 Y  gF h0 S.2.1 0 S2 _ hden (lv_sub hl [2, 1, 0] rfl)
