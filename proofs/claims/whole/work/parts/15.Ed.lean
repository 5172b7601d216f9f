/-! PlanText$Edition.<init>(I)V -/
abbrev y_Ed_init : MethodName := ⟨"PlanText$Edition", "<init>", "(I)V"⟩
theorem d_Ed_init_0 : decode prog_2_method_1_code 0 = .ok (.aload_n 0, 1) := by decide +kernel
theorem d_Ed_init_1 : decode prog_2_method_1_code 1 = .ok (.invokespecial 3, 3) := by decide +kernel
theorem d_Ed_init_4 : decode prog_2_method_1_code 4 = .ok (.aload_n 0, 1) := by decide +kernel
theorem d_Ed_init_5 : decode prog_2_method_1_code 5 = .ok (.bipush 41, 2) := by decide +kernel
theorem d_Ed_init_7 : decode prog_2_method_1_code 7 = .ok (.anewarray 9, 3) := by decide +kernel
theorem d_Ed_init_10 : decode prog_2_method_1_code 10 = .ok (.putfield 11, 3) := by decide +kernel
theorem d_Ed_init_13 : decode prog_2_method_1_code 13 = .ok (.aload_n 0, 1) := by decide +kernel
theorem d_Ed_init_14 : decode prog_2_method_1_code 14 = .ok (.bipush 10, 2) := by decide +kernel
theorem d_Ed_init_16 : decode prog_2_method_1_code 16 = .ok (.anewarray 17, 3) := by decide +kernel
theorem d_Ed_init_19 : decode prog_2_method_1_code 19 = .ok (.putfield 19, 3) := by decide +kernel
theorem d_Ed_init_22 : decode prog_2_method_1_code 22 = .ok (.aload_n 0, 1) := by decide +kernel
theorem d_Ed_init_23 : decode prog_2_method_1_code 23 = .ok (.bipush 8, 2) := by decide +kernel
theorem d_Ed_init_25 : decode prog_2_method_1_code 25 = .ok (.anewarray 23, 3) := by decide +kernel
theorem d_Ed_init_28 : decode prog_2_method_1_code 28 = .ok (.putfield 25, 3) := by decide +kernel
theorem d_Ed_init_31 : decode prog_2_method_1_code 31 = .ok (.aload_n 0, 1) := by decide +kernel
theorem d_Ed_init_32 : decode prog_2_method_1_code 32 = .ok (.iconst 0, 1) := by decide +kernel
theorem d_Ed_init_33 : decode prog_2_method_1_code 33 = .ok (.putfield 29, 3) := by decide +kernel
theorem d_Ed_init_36 : decode prog_2_method_1_code 36 = .ok (.aload_n 0, 1) := by decide +kernel
theorem d_Ed_init_37 : decode prog_2_method_1_code 37 = .ok (.iconst 0, 1) := by decide +kernel
theorem d_Ed_init_38 : decode prog_2_method_1_code 38 = .ok (.putfield 33, 3) := by decide +kernel
theorem d_Ed_init_41 : decode prog_2_method_1_code 41 = .ok (.aload_n 0, 1) := by decide +kernel
theorem d_Ed_init_42 : decode prog_2_method_1_code 42 = .ok (.iconst 0, 1) := by decide +kernel
theorem d_Ed_init_43 : decode prog_2_method_1_code 43 = .ok (.putfield 36, 3) := by decide +kernel
theorem d_Ed_init_46 : decode prog_2_method_1_code 46 = .ok (.aload_n 0, 1) := by decide +kernel
theorem d_Ed_init_47 : decode prog_2_method_1_code 47 = .ok (.iload_n 1, 1) := by decide +kernel
theorem d_Ed_init_48 : decode prog_2_method_1_code 48 = .ok (.putfield 39, 3) := by decide +kernel
theorem d_Ed_init_51 : decode prog_2_method_1_code 51 = .ok (.return_, 1) := by decide +kernel
def D_Ed_init (h0 : Nat) (p0 : Int32) (S : gS) : Option gS := Option.bind (gNA S 5 41 (.inr (.inr (.inr (.inr (fun _ => none)))))) (fun S1 => Option.bind (gPut S1 h0 1 1 (va_rf (some S.2.1))) (fun S2 => Option.bind (gNA S2 6 10 (.inr (.inr (.inr (.inr (fun _ => none)))))) (fun S3 => Option.bind (gPut S3 h0 1 2 (va_rf (some S2.2.1))) (fun S4 => Option.bind (gNA S4 7 8 (.inr (.inr (.inr (.inr (fun _ => none)))))) (fun S5 => Option.bind (gPut S5 h0 1 3 (va_rf (some S4.2.1))) (fun S6 => Option.bind (gPut S6 h0 1 4 (.int 0)) (fun S7 => Option.bind (gPut S7 h0 1 5 (.int 0)) (fun S8 => Option.bind (gPut S8 h0 1 6 (.int 0)) (fun S9 => Option.bind (gPut S9 h0 1 0 (.int p0)) (fun S10 => some S10))))))))))
set_option maxRecDepth 100000 in
set_option maxHeartbeats 4000000 in
theorem c_Ed_init {D : va_G} {cT : Nat → ClassId} {H0 : Heap} {l : Launch} {S : gS} {S' : gS} {h0 : Nat} {p0 : Int32} (hden : D_Ed_init h0 p0 S = some S') : gM D cT H0 l y_Ed_init (Cond.code y_Ed_init prog_2_method_1_code 2 (Option.none : Option Jvm.ClassFile.FieldType)) 1 24 [va_rf (some h0), .int p0] S S' (.inr none) := by
  refine gM.ofV (by decide) ?_
  intro p e s m args below meth c s₁ B hml ea X hZ hex hr hE
  subst ea
  have Y : gY D cT H0 p s m _ meth c prog_2_method_1_code 2 "PlanText$Edition" 1 24 S (Option.none : Option Jvm.ClassFile.FieldType) := ⟨X, hZ, hex, hr, hE⟩
  have hin : meth.name = "<init>" := (name_of_methodNamed B.named B.method).1
  have hx := X.1
  have hb := X.2.1
  have hl := lv_entry ([va_rf (some h0), .int p0]) (n := 2) (Nat.le_of_ble_eq_true rfl)
  rw [lg_entry_eq]
  generalize (lg_sl ([va_rf (some h0), .int p0]) ++ List.replicate (2 - (lg_sl ([va_rf (some h0), .int p0])).length) Slot.unset).toArray = ls at hl ⊢
  have hl : lv_has ls 2 [(0, va_rf (some h0)), (1, .int p0)] := hl
  unfold D_Ed_init at hden
  refine gV.lift (fun _ _ _ _ => g_aload_n hx hb d_Ed_init_0 rfl (lv_at hl 0 rfl)) ?_
  refine g_objInit X q_34 q_26 q_27 hl.1 d_Ed_init_1 ⟨by decide, Nat.le_of_ble_eq_true rfl⟩ ?_
  refine gV.lift (fun _ _ _ _ => g_aload_n hx hb d_Ed_init_4 rfl (lv_at hl 0 rfl)) ?_
  refine gV.lift (fun _ _ _ _ => lv_bipush (v := 41) hx hb d_Ed_init_5 (by decide)) ?_
  replace hden := gb hden
  obtain ⟨S1, hv, hden⟩ := hden
  refine r_anew X hZ (t := 5) rfl q_35 (by decide) hv d_Ed_init_7 ?_
  replace hden := gb hden
  obtain ⟨S2, hv, hden⟩ := hden
  refine r_putF X cl_Ed (k := 1) hv (by decide) q_43 rfl hin rfl g_narA g_fitA d_Ed_init_10 ?_
  refine gV.lift (fun _ _ _ _ => g_aload_n hx hb d_Ed_init_13 rfl (lv_at hl 0 rfl)) ?_
  refine gV.lift (fun _ _ _ _ => lv_bipush (v := 10) hx hb d_Ed_init_14 (by decide)) ?_
  replace hden := gb hden
  obtain ⟨S3, hv, hden⟩ := hden
  refine r_anew X hZ (t := 6) rfl q_37 (by decide) hv d_Ed_init_16 ?_
  replace hden := gb hden
  obtain ⟨S4, hv, hden⟩ := hden
  refine r_putF X cl_Ed (k := 2) hv (by decide) q_44 rfl hin rfl g_narA g_fitA d_Ed_init_19 ?_
  refine gV.lift (fun _ _ _ _ => g_aload_n hx hb d_Ed_init_22 rfl (lv_at hl 0 rfl)) ?_
  refine gV.lift (fun _ _ _ _ => lv_bipush (v := 8) hx hb d_Ed_init_23 (by decide)) ?_
  replace hden := gb hden
  obtain ⟨S5, hv, hden⟩ := hden
  refine r_anew X hZ (t := 7) rfl q_39 (by decide) hv d_Ed_init_25 ?_
  replace hden := gb hden
  obtain ⟨S6, hv, hden⟩ := hden
  refine r_putF X cl_Ed (k := 3) hv (by decide) q_45 rfl hin rfl g_narA g_fitA d_Ed_init_28 ?_
  refine gV.lift (fun _ _ _ _ => g_aload_n hx hb d_Ed_init_31 rfl (lv_at hl 0 rfl)) ?_
  refine gV.lift (fun _ _ _ _ => lv_iconst (v := 0) hx hb d_Ed_init_32 (by decide)) ?_
  replace hden := gb hden
  obtain ⟨S7, hv, hden⟩ := hden
  refine r_put X cl_Ed (k := 4) hv (by decide) q_46 rfl rfl rfl d_Ed_init_33 ?_
  refine gV.lift (fun _ _ _ _ => g_aload_n hx hb d_Ed_init_36 rfl (lv_at hl 0 rfl)) ?_
  refine gV.lift (fun _ _ _ _ => lv_iconst (v := 0) hx hb d_Ed_init_37 (by decide)) ?_
  replace hden := gb hden
  obtain ⟨S8, hv, hden⟩ := hden
  refine r_put X cl_Ed (k := 5) hv (by decide) q_48 rfl rfl rfl d_Ed_init_38 ?_
  refine gV.lift (fun _ _ _ _ => g_aload_n hx hb d_Ed_init_41 rfl (lv_at hl 0 rfl)) ?_
  refine gV.lift (fun _ _ _ _ => lv_iconst (v := 0) hx hb d_Ed_init_42 (by decide)) ?_
  replace hden := gb hden
  obtain ⟨S9, hv, hden⟩ := hden
  refine r_put X cl_Ed (k := 6) hv (by decide) q_50 rfl rfl rfl d_Ed_init_43 ?_
  refine gV.lift (fun _ _ _ _ => g_aload_n hx hb d_Ed_init_46 rfl (lv_at hl 0 rfl)) ?_
  refine gV.lift (fun _ _ _ _ => lv_iload_n hx hb d_Ed_init_47 rfl (lv_at hl 1 rfl)) ?_
  replace hden := gb hden
  obtain ⟨S10, hv, hden⟩ := hden
  refine r_putF X cl_Ed (k := 0) hv (by decide) q_41 rfl hin rfl rfl rfl d_Ed_init_48 ?_
  obtain rfl := gsi hden
  exact g_vret X hr d_Ed_init_51
/-! PlanText$Edition.planNumbered(I)LPlanText$Plan; -/
abbrev y_Ed_planNumbered : MethodName := ⟨"PlanText$Edition", "planNumbered", "(I)LPlanText$Plan;"⟩
theorem d_Ed_planNumbered_0 : decode prog_2_method_2_code 0 = .ok (.iload_n 1, 1) := by decide +kernel
theorem d_Ed_planNumbered_1 : decode prog_2_method_2_code 1 = .ok (.ifCond .lt 18, 3) := by decide +kernel
theorem d_Ed_planNumbered_4 : decode prog_2_method_2_code 4 = .ok (.iload_n 1, 1) := by decide +kernel
theorem d_Ed_planNumbered_5 : decode prog_2_method_2_code 5 = .ok (.bipush 40, 2) := by decide +kernel
theorem d_Ed_planNumbered_7 : decode prog_2_method_2_code 7 = .ok (.if_icmp .gt 12, 3) := by decide +kernel
theorem d_Ed_planNumbered_10 : decode prog_2_method_2_code 10 = .ok (.aload_n 0, 1) := by decide +kernel
theorem d_Ed_planNumbered_11 : decode prog_2_method_2_code 11 = .ok (.getfield 11, 3) := by decide +kernel
theorem d_Ed_planNumbered_14 : decode prog_2_method_2_code 14 = .ok (.iload_n 1, 1) := by decide +kernel
theorem d_Ed_planNumbered_15 : decode prog_2_method_2_code 15 = .ok (.aaload, 1) := by decide +kernel
theorem d_Ed_planNumbered_16 : decode prog_2_method_2_code 16 = .ok (.goto 4, 3) := by decide +kernel
theorem d_Ed_planNumbered_19 : decode prog_2_method_2_code 19 = .ok (.aconst_null, 1) := by decide +kernel
theorem d_Ed_planNumbered_20 : decode prog_2_method_2_code 20 = .ok (.areturn, 1) := by decide +kernel
def B_Ed_planNumbered_20  (t0 : Option Nat) (S : gS) : Option ((Option Nat) × gS) := some (t0, S)
set_option maxRecDepth 100000 in
set_option maxHeartbeats 4000000 in
theorem w_Ed_planNumbered_20 {D : va_G} {cT : Nat → ClassId} {H0 : Heap} {l : Launch} {p : Program} {e : Env} {s : State} {m : MethodId} {args : Array Value} {below : List Frame} {meth : Method} {c : Code} {S0 : gS} {S' : gS} {r : Option Nat} (Y : gY D cT H0 p s m args meth c prog_2_method_2_code 2 "PlanText$Edition" 0 0 S0 (Option.some (Jvm.ClassFile.FieldType.object "PlanText$Plan")))  (t0 : Option Nat) (S : gS) (hden : B_Ed_planNumbered_20  t0 S = some (r, S')) {ls : Array Slot} (hl : lv_has ls 2 []) : gV D cT H0 p l e (gRm 0 0 S0) s m args below meth c (gQ D cT H0 below S0 S' (.inr (some (va_rf r))) s) S0 S (F0 m 20 ls [va_rf t0]) := by
  obtain ⟨X, hZ, hex, hr, hE⟩ := id Y
  have hx := X.1
  have hb := X.2.1
  unfold B_Ed_planNumbered_20 at hden
  obtain ⟨rfl, rfl⟩ := gpi hden
  exact g_aret X hr d_Ed_planNumbered_20
def B_Ed_planNumbered_19   (S : gS) : Option ((Option Nat) × gS) := B_Ed_planNumbered_20  none S
set_option maxRecDepth 100000 in
set_option maxHeartbeats 4000000 in
theorem w_Ed_planNumbered_19 {D : va_G} {cT : Nat → ClassId} {H0 : Heap} {l : Launch} {p : Program} {e : Env} {s : State} {m : MethodId} {args : Array Value} {below : List Frame} {meth : Method} {c : Code} {S0 : gS} {S' : gS} {r : Option Nat} (Y : gY D cT H0 p s m args meth c prog_2_method_2_code 2 "PlanText$Edition" 0 0 S0 (Option.some (Jvm.ClassFile.FieldType.object "PlanText$Plan")))   (S : gS) (hden : B_Ed_planNumbered_19   S = some (r, S')) {ls : Array Slot} (hl : lv_has ls 2 []) : gV D cT H0 p l e (gRm 0 0 S0) s m args below meth c (gQ D cT H0 below S0 S' (.inr (some (va_rf r))) s) S0 S (F0 m 19 ls []) := by
  obtain ⟨X, hZ, hex, hr, hE⟩ := id Y
  have hx := X.1
  have hb := X.2.1
  unfold B_Ed_planNumbered_19 at hden
  refine gV.lift (fun _ _ _ _ => lv_null hx hb d_Ed_planNumbered_19) ?_
  exact w_Ed_planNumbered_20 Y  none S hden (lv_sub hl [] rfl)
def D_Ed_planNumbered (h0 : Nat) (p0 : Int32) (S : gS) : Option ((Option Nat) × gS) := (if p0 < 0 then B_Ed_planNumbered_19  S else (if 40 < p0 then B_Ed_planNumbered_19  S else Option.bind (gRf S h0 1 1) (fun r3 => Option.bind r3 (fun a4 => Option.bind (gAR S a4 5 p0) (fun r5 => B_Ed_planNumbered_20  r5 S)))))
set_option maxRecDepth 100000 in
set_option maxHeartbeats 4000000 in
theorem c_Ed_planNumbered {D : va_G} {cT : Nat → ClassId} {H0 : Heap} {l : Launch} {S : gS} {S' : gS} {h0 : Nat} {p0 : Int32} {r : Option Nat} (hden : D_Ed_planNumbered h0 p0 S = some (r, S')) : gM D cT H0 l y_Ed_planNumbered (Cond.code y_Ed_planNumbered prog_2_method_2_code 2 (Option.some (Jvm.ClassFile.FieldType.object "PlanText$Plan"))) 0 0 [va_rf (some h0), .int p0] S S' (.inr (some (va_rf r))) := by
  refine gM.ofV (by decide) ?_
  intro p e s m args below meth c s₁ B hml ea X hZ hex hr hE
  subst ea
  have Y : gY D cT H0 p s m _ meth c prog_2_method_2_code 2 "PlanText$Edition" 0 0 S (Option.some (Jvm.ClassFile.FieldType.object "PlanText$Plan")) := ⟨X, hZ, hex, hr, hE⟩
  have hx := X.1
  have hb := X.2.1
  have hl := lv_entry ([va_rf (some h0), .int p0]) (n := 2) (Nat.le_of_ble_eq_true rfl)
  rw [lg_entry_eq]
  generalize (lg_sl ([va_rf (some h0), .int p0]) ++ List.replicate (2 - (lg_sl ([va_rf (some h0), .int p0])).length) Slot.unset).toArray = ls at hl ⊢
  have hl : lv_has ls 2 [(0, va_rf (some h0)), (1, .int p0)] := hl
  unfold D_Ed_planNumbered at hden
  refine gV.lift (fun _ _ _ _ => lv_iload_n hx hb d_Ed_planNumbered_0 rfl (lv_at hl 1 rfl)) ?_
  refine gV.lift2 (fun _ _ _ _ => lv_if_lt (tgt := 19) hx hb d_Ed_planNumbered_1 (by decide)) (fun hc1 => ?_) (fun hc1 => ?_)
  · replace hden := gip hc1 hden
    exact w_Ed_planNumbered_19 Y  S hden (lv_sub hl [] rfl)
  · replace hden := gin hc1 hden
    refine gV.lift (fun _ _ _ _ => lv_iload_n hx hb d_Ed_planNumbered_4 rfl (lv_at hl 1 rfl)) ?_
    refine gV.lift (fun _ _ _ _ => lv_bipush (v := 40) hx hb d_Ed_planNumbered_5 (by decide)) ?_
    refine gV.lift2 (fun _ _ _ _ => lv_icmp_gt (tgt := 19) hx hb d_Ed_planNumbered_7 (by decide)) (fun hc2 => ?_) (fun hc2 => ?_)
    · replace hden := gip hc2 hden
      exact w_Ed_planNumbered_19 Y  S hden (lv_sub hl [] rfl)
    · replace hden := gin hc2 hden
      refine gV.lift (fun _ _ _ _ => g_aload_n hx hb d_Ed_planNumbered_10 rfl (lv_at hl 0 rfl)) ?_
      replace hden := gb hden
      obtain ⟨r3, hv, hden⟩ := hden
      refine r_getR X cl_Ed (k := 1) hv (by decide) q_43 d_Ed_planNumbered_11 ?_
      refine gV.lift (fun _ _ _ _ => lv_iload_n hx hb d_Ed_planNumbered_14 rfl (lv_at hl 1 rfl)) ?_
      replace hden := gb hden
      obtain ⟨a4, rfl, hden⟩ := hden
      replace hden := gb hden
      obtain ⟨r5, hv, hden⟩ := hden
      refine r_aald X (t := 5) rfl hv d_Ed_planNumbered_15 ?_
      refine gV.lift (fun _ _ _ _ => lv_goto (tgt := 20) hx hb d_Ed_planNumbered_16 (by decide)) ?_
      exact w_Ed_planNumbered_20 Y  r5 S hden (lv_sub hl [] rfl)
/-! PlanText$Edition.addPlan(LPlanText$Plan;)V -/
abbrev y_Ed_addPlan : MethodName := ⟨"PlanText$Edition", "addPlan", "(LPlanText$Plan;)V"⟩
theorem d_Ed_addPlan_0 : decode prog_2_method_5_code 0 = .ok (.aload_n 1, 1) := by decide +kernel
theorem d_Ed_addPlan_1 : decode prog_2_method_5_code 1 = .ok (.getfield 42, 3) := by decide +kernel
theorem d_Ed_addPlan_4 : decode prog_2_method_5_code 4 = .ok (.ifCond .lt 32, 3) := by decide +kernel
theorem d_Ed_addPlan_7 : decode prog_2_method_5_code 7 = .ok (.aload_n 1, 1) := by decide +kernel
theorem d_Ed_addPlan_8 : decode prog_2_method_5_code 8 = .ok (.getfield 42, 3) := by decide +kernel
theorem d_Ed_addPlan_11 : decode prog_2_method_5_code 11 = .ok (.bipush 40, 2) := by decide +kernel
theorem d_Ed_addPlan_13 : decode prog_2_method_5_code 13 = .ok (.if_icmp .gt 23, 3) := by decide +kernel
theorem d_Ed_addPlan_16 : decode prog_2_method_5_code 16 = .ok (.aload_n 0, 1) := by decide +kernel
theorem d_Ed_addPlan_17 : decode prog_2_method_5_code 17 = .ok (.getfield 11, 3) := by decide +kernel
theorem d_Ed_addPlan_20 : decode prog_2_method_5_code 20 = .ok (.aload_n 1, 1) := by decide +kernel
theorem d_Ed_addPlan_21 : decode prog_2_method_5_code 21 = .ok (.getfield 42, 3) := by decide +kernel
theorem d_Ed_addPlan_24 : decode prog_2_method_5_code 24 = .ok (.aload_n 1, 1) := by decide +kernel
theorem d_Ed_addPlan_25 : decode prog_2_method_5_code 25 = .ok (.aastore, 1) := by decide +kernel
theorem d_Ed_addPlan_26 : decode prog_2_method_5_code 26 = .ok (.aload_n 0, 1) := by decide +kernel
theorem d_Ed_addPlan_27 : decode prog_2_method_5_code 27 = .ok (.dup, 1) := by decide +kernel
theorem d_Ed_addPlan_28 : decode prog_2_method_5_code 28 = .ok (.getfield 29, 3) := by decide +kernel
theorem d_Ed_addPlan_31 : decode prog_2_method_5_code 31 = .ok (.iconst 1, 1) := by decide +kernel
theorem d_Ed_addPlan_32 : decode prog_2_method_5_code 32 = .ok (.iadd, 1) := by decide +kernel
theorem d_Ed_addPlan_33 : decode prog_2_method_5_code 33 = .ok (.putfield 29, 3) := by decide +kernel
theorem d_Ed_addPlan_36 : decode prog_2_method_5_code 36 = .ok (.return_, 1) := by decide +kernel
def B_Ed_addPlan_36   (S : gS) : Option gS := some S
set_option maxRecDepth 100000 in
set_option maxHeartbeats 4000000 in
theorem w_Ed_addPlan_36 {D : va_G} {cT : Nat → ClassId} {H0 : Heap} {l : Launch} {p : Program} {e : Env} {s : State} {m : MethodId} {args : Array Value} {below : List Frame} {meth : Method} {c : Code} {S0 : gS} {S' : gS} (Y : gY D cT H0 p s m args meth c prog_2_method_5_code 2 "PlanText$Edition" 0 0 S0 (Option.none : Option Jvm.ClassFile.FieldType))   (S : gS) (hden : B_Ed_addPlan_36   S = some S') {ls : Array Slot} (hl : lv_has ls 2 []) : gV D cT H0 p l e (gRm 0 0 S0) s m args below meth c (gQ D cT H0 below S0 S' (.inr none) s) S0 S (F0 m 36 ls []) := by
  obtain ⟨X, hZ, hex, hr, hE⟩ := id Y
  have hx := X.1
  have hb := X.2.1
  unfold B_Ed_addPlan_36 at hden
  obtain rfl := gsi hden
  exact g_vret X hr d_Ed_addPlan_36
def D_Ed_addPlan (h0 : Nat) (p0 : Option Nat) (S : gS) : Option gS := Option.bind p0 (fun a1 => Option.bind (gI S a1 5 0) (fun v2 => (if v2 < 0 then B_Ed_addPlan_36  S else Option.bind (gI S a1 5 0) (fun v4 => (if 40 < v4 then B_Ed_addPlan_36  S else Option.bind (gRf S h0 1 1) (fun r6 => Option.bind (gI S a1 5 0) (fun v7 => Option.bind r6 (fun a8 => Option.bind (gSR S a8 5 v7 a1 5) (fun S9 => Option.bind (gI S9 h0 1 4) (fun v10 => Option.bind (gPut S9 h0 1 4 (.int (v10 + 1))) (fun S11 => B_Ed_addPlan_36  S11)))))))))))
set_option maxRecDepth 100000 in
set_option maxHeartbeats 4000000 in
theorem c_Ed_addPlan {D : va_G} {cT : Nat → ClassId} {H0 : Heap} {l : Launch} {S : gS} {S' : gS} {h0 : Nat} {p0 : Option Nat} (hden : D_Ed_addPlan h0 p0 S = some S') : gM D cT H0 l y_Ed_addPlan (Cond.code y_Ed_addPlan prog_2_method_5_code 2 (Option.none : Option Jvm.ClassFile.FieldType)) 0 0 [va_rf (some h0), va_rf p0] S S' (.inr none) := by
  refine gM.ofV (by decide) ?_
  intro p e s m args below meth c s₁ B hml ea X hZ hex hr hE
  subst ea
  have Y : gY D cT H0 p s m _ meth c prog_2_method_5_code 2 "PlanText$Edition" 0 0 S (Option.none : Option Jvm.ClassFile.FieldType) := ⟨X, hZ, hex, hr, hE⟩
  have hx := X.1
  have hb := X.2.1
  have hl := lv_entry ([va_rf (some h0), va_rf p0]) (n := 2) (by cases p0 <;> exact Nat.le_of_ble_eq_true rfl)
  rw [lg_entry_eq]
  generalize (lg_sl ([va_rf (some h0), va_rf p0]) ++ List.replicate (2 - (lg_sl ([va_rf (some h0), va_rf p0])).length) Slot.unset).toArray = ls at hl ⊢
  have hl : lv_has ls 2 [(0, va_rf (some h0)), (1, va_rf p0)] := by cases p0 <;> exact hl
  unfold D_Ed_addPlan at hden
  refine gV.lift (fun _ _ _ _ => g_aload_n hx hb d_Ed_addPlan_0 rfl (lv_at hl 1 rfl)) ?_
  replace hden := gb hden
  obtain ⟨a1, rfl, hden⟩ := hden
  replace hden := gb hden
  obtain ⟨v2, hv, hden⟩ := hden
  refine r_getI X cl_Pl (k := 0) hv (by decide) q_423 d_Ed_addPlan_1 ?_
  refine gV.lift2 (fun _ _ _ _ => lv_if_lt (tgt := 36) hx hb d_Ed_addPlan_4 (by decide)) (fun hc3 => ?_) (fun hc3 => ?_)
  · replace hden := gip hc3 hden
    exact w_Ed_addPlan_36 Y  S hden (lv_sub hl [] rfl)
  · replace hden := gin hc3 hden
    refine gV.lift (fun _ _ _ _ => g_aload_n hx hb d_Ed_addPlan_7 rfl (lv_at hl 1 rfl)) ?_
    replace hden := gb hden
    obtain ⟨v4, hv, hden⟩ := hden
    refine r_getI X cl_Pl (k := 0) hv (by decide) q_423 d_Ed_addPlan_8 ?_
    refine gV.lift (fun _ _ _ _ => lv_bipush (v := 40) hx hb d_Ed_addPlan_11 (by decide)) ?_
    refine gV.lift2 (fun _ _ _ _ => lv_icmp_gt (tgt := 36) hx hb d_Ed_addPlan_13 (by decide)) (fun hc5 => ?_) (fun hc5 => ?_)
    · replace hden := gip hc5 hden
      exact w_Ed_addPlan_36 Y  S hden (lv_sub hl [] rfl)
    · replace hden := gin hc5 hden
      refine gV.lift (fun _ _ _ _ => g_aload_n hx hb d_Ed_addPlan_16 rfl (lv_at hl 0 rfl)) ?_
      replace hden := gb hden
      obtain ⟨r6, hv, hden⟩ := hden
      refine r_getR X cl_Ed (k := 1) hv (by decide) q_43 d_Ed_addPlan_17 ?_
      refine gV.lift (fun _ _ _ _ => g_aload_n hx hb d_Ed_addPlan_20 rfl (lv_at hl 1 rfl)) ?_
      replace hden := gb hden
      obtain ⟨v7, hv, hden⟩ := hden
      refine r_getI X cl_Pl (k := 0) hv (by decide) q_423 d_Ed_addPlan_21 ?_
      refine gV.lift (fun _ _ _ _ => g_aload_n hx hb d_Ed_addPlan_24 rfl (lv_at hl 1 rfl)) ?_
      replace hden := gb hden
      obtain ⟨a8, rfl, hden⟩ := hden
      replace hden := gb hden
      obtain ⟨S9, hv, hden⟩ := hden
      refine r_aast X cl_Pl (t := 5) rfl hv d_Ed_addPlan_25 ?_
      refine gV.lift (fun _ _ _ _ => g_aload_n hx hb d_Ed_addPlan_26 rfl (lv_at hl 0 rfl)) ?_
      refine gV.lift (fun _ _ _ _ => lv_dup hx hb d_Ed_addPlan_27 g_cat) ?_
      replace hden := gb hden
      obtain ⟨v10, hv, hden⟩ := hden
      refine r_getI X cl_Ed (k := 4) hv (by decide) q_46 d_Ed_addPlan_28 ?_
      refine gV.lift (fun _ _ _ _ => lv_iconst (v := 1) hx hb d_Ed_addPlan_31 (by decide)) ?_
      refine gV.lift (fun _ _ _ _ => lv_iadd hx hb d_Ed_addPlan_32) ?_
      replace hden := gb hden
      obtain ⟨S11, hv, hden⟩ := hden
      refine r_put X cl_Ed (k := 4) hv (by decide) q_46 rfl rfl rfl d_Ed_addPlan_33 ?_
      exact w_Ed_addPlan_36 Y  S11 hden (lv_sub hl [] rfl)
/-! PlanText$Edition.defaultNeeds(I)LPlanText$NeedList; -/
abbrev y_Ed_defaultNeeds : MethodName := ⟨"PlanText$Edition", "defaultNeeds", "(I)LPlanText$NeedList;"⟩
theorem d_Ed_defaultNeeds_0 : decode prog_2_method_3_code 0 = .ok (.iload_n 1, 1) := by decide +kernel
theorem d_Ed_defaultNeeds_1 : decode prog_2_method_3_code 1 = .ok (.ifCond .lt 18, 3) := by decide +kernel
theorem d_Ed_defaultNeeds_4 : decode prog_2_method_3_code 4 = .ok (.iload_n 1, 1) := by decide +kernel
theorem d_Ed_defaultNeeds_5 : decode prog_2_method_3_code 5 = .ok (.bipush 9, 2) := by decide +kernel
theorem d_Ed_defaultNeeds_7 : decode prog_2_method_3_code 7 = .ok (.if_icmp .gt 12, 3) := by decide +kernel
theorem d_Ed_defaultNeeds_10 : decode prog_2_method_3_code 10 = .ok (.aload_n 0, 1) := by decide +kernel
theorem d_Ed_defaultNeeds_11 : decode prog_2_method_3_code 11 = .ok (.getfield 19, 3) := by decide +kernel
theorem d_Ed_defaultNeeds_14 : decode prog_2_method_3_code 14 = .ok (.iload_n 1, 1) := by decide +kernel
theorem d_Ed_defaultNeeds_15 : decode prog_2_method_3_code 15 = .ok (.aaload, 1) := by decide +kernel
theorem d_Ed_defaultNeeds_16 : decode prog_2_method_3_code 16 = .ok (.goto 4, 3) := by decide +kernel
theorem d_Ed_defaultNeeds_19 : decode prog_2_method_3_code 19 = .ok (.aconst_null, 1) := by decide +kernel
theorem d_Ed_defaultNeeds_20 : decode prog_2_method_3_code 20 = .ok (.areturn, 1) := by decide +kernel
def B_Ed_defaultNeeds_20  (t0 : Option Nat) (S : gS) : Option ((Option Nat) × gS) := some (t0, S)
set_option maxRecDepth 100000 in
set_option maxHeartbeats 4000000 in
theorem w_Ed_defaultNeeds_20 {D : va_G} {cT : Nat → ClassId} {H0 : Heap} {l : Launch} {p : Program} {e : Env} {s : State} {m : MethodId} {args : Array Value} {below : List Frame} {meth : Method} {c : Code} {S0 : gS} {S' : gS} {r : Option Nat} (Y : gY D cT H0 p s m args meth c prog_2_method_3_code 2 "PlanText$Edition" 0 0 S0 (Option.some (Jvm.ClassFile.FieldType.object "PlanText$NeedList")))  (t0 : Option Nat) (S : gS) (hden : B_Ed_defaultNeeds_20  t0 S = some (r, S')) {ls : Array Slot} (hl : lv_has ls 2 []) : gV D cT H0 p l e (gRm 0 0 S0) s m args below meth c (gQ D cT H0 below S0 S' (.inr (some (va_rf r))) s) S0 S (F0 m 20 ls [va_rf t0]) := by
  obtain ⟨X, hZ, hex, hr, hE⟩ := id Y
  have hx := X.1
  have hb := X.2.1
  unfold B_Ed_defaultNeeds_20 at hden
  obtain ⟨rfl, rfl⟩ := gpi hden
  exact g_aret X hr d_Ed_defaultNeeds_20
def B_Ed_defaultNeeds_19   (S : gS) : Option ((Option Nat) × gS) := B_Ed_defaultNeeds_20  none S
set_option maxRecDepth 100000 in
set_option maxHeartbeats 4000000 in
theorem w_Ed_defaultNeeds_19 {D : va_G} {cT : Nat → ClassId} {H0 : Heap} {l : Launch} {p : Program} {e : Env} {s : State} {m : MethodId} {args : Array Value} {below : List Frame} {meth : Method} {c : Code} {S0 : gS} {S' : gS} {r : Option Nat} (Y : gY D cT H0 p s m args meth c prog_2_method_3_code 2 "PlanText$Edition" 0 0 S0 (Option.some (Jvm.ClassFile.FieldType.object "PlanText$NeedList")))   (S : gS) (hden : B_Ed_defaultNeeds_19   S = some (r, S')) {ls : Array Slot} (hl : lv_has ls 2 []) : gV D cT H0 p l e (gRm 0 0 S0) s m args below meth c (gQ D cT H0 below S0 S' (.inr (some (va_rf r))) s) S0 S (F0 m 19 ls []) := by
  obtain ⟨X, hZ, hex, hr, hE⟩ := id Y
  have hx := X.1
  have hb := X.2.1
  unfold B_Ed_defaultNeeds_19 at hden
  refine gV.lift (fun _ _ _ _ => lv_null hx hb d_Ed_defaultNeeds_19) ?_
  exact w_Ed_defaultNeeds_20 Y  none S hden (lv_sub hl [] rfl)
def D_Ed_defaultNeeds (h0 : Nat) (p0 : Int32) (S : gS) : Option ((Option Nat) × gS) := (if p0 < 0 then B_Ed_defaultNeeds_19  S else (if 9 < p0 then B_Ed_defaultNeeds_19  S else Option.bind (gRf S h0 1 2) (fun r3 => Option.bind r3 (fun a4 => Option.bind (gAR S a4 6 p0) (fun r5 => B_Ed_defaultNeeds_20  r5 S)))))
set_option maxRecDepth 100000 in
set_option maxHeartbeats 4000000 in
theorem c_Ed_defaultNeeds {D : va_G} {cT : Nat → ClassId} {H0 : Heap} {l : Launch} {S : gS} {S' : gS} {h0 : Nat} {p0 : Int32} {r : Option Nat} (hden : D_Ed_defaultNeeds h0 p0 S = some (r, S')) : gM D cT H0 l y_Ed_defaultNeeds (Cond.code y_Ed_defaultNeeds prog_2_method_3_code 2 (Option.some (Jvm.ClassFile.FieldType.object "PlanText$NeedList"))) 0 0 [va_rf (some h0), .int p0] S S' (.inr (some (va_rf r))) := by
  refine gM.ofV (by decide) ?_
  intro p e s m args below meth c s₁ B hml ea X hZ hex hr hE
  subst ea
  have Y : gY D cT H0 p s m _ meth c prog_2_method_3_code 2 "PlanText$Edition" 0 0 S (Option.some (Jvm.ClassFile.FieldType.object "PlanText$NeedList")) := ⟨X, hZ, hex, hr, hE⟩
  have hx := X.1
  have hb := X.2.1
  have hl := lv_entry ([va_rf (some h0), .int p0]) (n := 2) (Nat.le_of_ble_eq_true rfl)
  rw [lg_entry_eq]
  generalize (lg_sl ([va_rf (some h0), .int p0]) ++ List.replicate (2 - (lg_sl ([va_rf (some h0), .int p0])).length) Slot.unset).toArray = ls at hl ⊢
  have hl : lv_has ls 2 [(0, va_rf (some h0)), (1, .int p0)] := hl
  unfold D_Ed_defaultNeeds at hden
  refine gV.lift (fun _ _ _ _ => lv_iload_n hx hb d_Ed_defaultNeeds_0 rfl (lv_at hl 1 rfl)) ?_
  refine gV.lift2 (fun _ _ _ _ => lv_if_lt (tgt := 19) hx hb d_Ed_defaultNeeds_1 (by decide)) (fun hc1 => ?_) (fun hc1 => ?_)
  · replace hden := gip hc1 hden
    exact w_Ed_defaultNeeds_19 Y  S hden (lv_sub hl [] rfl)
  · replace hden := gin hc1 hden
    refine gV.lift (fun _ _ _ _ => lv_iload_n hx hb d_Ed_defaultNeeds_4 rfl (lv_at hl 1 rfl)) ?_
    refine gV.lift (fun _ _ _ _ => lv_bipush (v := 9) hx hb d_Ed_defaultNeeds_5 (by decide)) ?_
    refine gV.lift2 (fun _ _ _ _ => lv_icmp_gt (tgt := 19) hx hb d_Ed_defaultNeeds_7 (by decide)) (fun hc2 => ?_) (fun hc2 => ?_)
    · replace hden := gip hc2 hden
      exact w_Ed_defaultNeeds_19 Y  S hden (lv_sub hl [] rfl)
    · replace hden := gin hc2 hden
      refine gV.lift (fun _ _ _ _ => g_aload_n hx hb d_Ed_defaultNeeds_10 rfl (lv_at hl 0 rfl)) ?_
      replace hden := gb hden
      obtain ⟨r3, hv, hden⟩ := hden
      refine r_getR X cl_Ed (k := 2) hv (by decide) q_44 d_Ed_defaultNeeds_11 ?_
      refine gV.lift (fun _ _ _ _ => lv_iload_n hx hb d_Ed_defaultNeeds_14 rfl (lv_at hl 1 rfl)) ?_
      replace hden := gb hden
      obtain ⟨a4, rfl, hden⟩ := hden
      replace hden := gb hden
      obtain ⟨r5, hv, hden⟩ := hden
      refine r_aald X (t := 6) rfl hv d_Ed_defaultNeeds_15 ?_
      refine gV.lift (fun _ _ _ _ => lv_goto (tgt := 20) hx hb d_Ed_defaultNeeds_16 (by decide)) ?_
      exact w_Ed_defaultNeeds_20 Y  r5 S hden (lv_sub hl [] rfl)
/-! PlanText$Edition.addDefault(ILPlanText$NeedList;)V -/
abbrev y_Ed_addDefault : MethodName := ⟨"PlanText$Edition", "addDefault", "(ILPlanText$NeedList;)V"⟩
theorem d_Ed_addDefault_0 : decode prog_2_method_6_code 0 = .ok (.iload_n 1, 1) := by decide +kernel
theorem d_Ed_addDefault_1 : decode prog_2_method_6_code 1 = .ok (.ifCond .lt 26, 3) := by decide +kernel
theorem d_Ed_addDefault_4 : decode prog_2_method_6_code 4 = .ok (.iload_n 1, 1) := by decide +kernel
theorem d_Ed_addDefault_5 : decode prog_2_method_6_code 5 = .ok (.bipush 9, 2) := by decide +kernel
theorem d_Ed_addDefault_7 : decode prog_2_method_6_code 7 = .ok (.if_icmp .gt 20, 3) := by decide +kernel
theorem d_Ed_addDefault_10 : decode prog_2_method_6_code 10 = .ok (.aload_n 0, 1) := by decide +kernel
theorem d_Ed_addDefault_11 : decode prog_2_method_6_code 11 = .ok (.getfield 19, 3) := by decide +kernel
theorem d_Ed_addDefault_14 : decode prog_2_method_6_code 14 = .ok (.iload_n 1, 1) := by decide +kernel
theorem d_Ed_addDefault_15 : decode prog_2_method_6_code 15 = .ok (.aload_n 2, 1) := by decide +kernel
theorem d_Ed_addDefault_16 : decode prog_2_method_6_code 16 = .ok (.aastore, 1) := by decide +kernel
theorem d_Ed_addDefault_17 : decode prog_2_method_6_code 17 = .ok (.aload_n 0, 1) := by decide +kernel
theorem d_Ed_addDefault_18 : decode prog_2_method_6_code 18 = .ok (.dup, 1) := by decide +kernel
theorem d_Ed_addDefault_19 : decode prog_2_method_6_code 19 = .ok (.getfield 33, 3) := by decide +kernel
theorem d_Ed_addDefault_22 : decode prog_2_method_6_code 22 = .ok (.iconst 1, 1) := by decide +kernel
theorem d_Ed_addDefault_23 : decode prog_2_method_6_code 23 = .ok (.iadd, 1) := by decide +kernel
theorem d_Ed_addDefault_24 : decode prog_2_method_6_code 24 = .ok (.putfield 33, 3) := by decide +kernel
theorem d_Ed_addDefault_27 : decode prog_2_method_6_code 27 = .ok (.return_, 1) := by decide +kernel
def B_Ed_addDefault_27   (S : gS) : Option gS := some S
set_option maxRecDepth 100000 in
set_option maxHeartbeats 4000000 in
theorem w_Ed_addDefault_27 {D : va_G} {cT : Nat → ClassId} {H0 : Heap} {l : Launch} {p : Program} {e : Env} {s : State} {m : MethodId} {args : Array Value} {below : List Frame} {meth : Method} {c : Code} {S0 : gS} {S' : gS} (Y : gY D cT H0 p s m args meth c prog_2_method_6_code 3 "PlanText$Edition" 0 0 S0 (Option.none : Option Jvm.ClassFile.FieldType))   (S : gS) (hden : B_Ed_addDefault_27   S = some S') {ls : Array Slot} (hl : lv_has ls 3 []) : gV D cT H0 p l e (gRm 0 0 S0) s m args below meth c (gQ D cT H0 below S0 S' (.inr none) s) S0 S (F0 m 27 ls []) := by
  obtain ⟨X, hZ, hex, hr, hE⟩ := id Y
  have hx := X.1
  have hb := X.2.1
  unfold B_Ed_addDefault_27 at hden
  obtain rfl := gsi hden
  exact g_vret X hr d_Ed_addDefault_27
def D_Ed_addDefault (h0 : Nat) (p0 : Int32) (p1 : Option Nat) (S : gS) : Option gS := (if p0 < 0 then B_Ed_addDefault_27  S else (if 9 < p0 then B_Ed_addDefault_27  S else Option.bind (gRf S h0 1 2) (fun r3 => Option.bind r3 (fun a4 => Option.bind p1 (fun a6 => Option.bind (gSR S a4 6 p0 a6 4) (fun S5 => Option.bind (gI S5 h0 1 5) (fun v7 => Option.bind (gPut S5 h0 1 5 (.int (v7 + 1))) (fun S8 => B_Ed_addDefault_27  S8))))))))
set_option maxRecDepth 100000 in
set_option maxHeartbeats 4000000 in
theorem c_Ed_addDefault {D : va_G} {cT : Nat → ClassId} {H0 : Heap} {l : Launch} {S : gS} {S' : gS} {h0 : Nat} {p0 : Int32} {p1 : Option Nat} (hden : D_Ed_addDefault h0 p0 p1 S = some S') : gM D cT H0 l y_Ed_addDefault (Cond.code y_Ed_addDefault prog_2_method_6_code 3 (Option.none : Option Jvm.ClassFile.FieldType)) 0 0 [va_rf (some h0), .int p0, va_rf p1] S S' (.inr none) := by
  refine gM.ofV (by decide) ?_
  intro p e s m args below meth c s₁ B hml ea X hZ hex hr hE
  subst ea
  have Y : gY D cT H0 p s m _ meth c prog_2_method_6_code 3 "PlanText$Edition" 0 0 S (Option.none : Option Jvm.ClassFile.FieldType) := ⟨X, hZ, hex, hr, hE⟩
  have hx := X.1
  have hb := X.2.1
  have hl := lv_entry ([va_rf (some h0), .int p0, va_rf p1]) (n := 3) (by cases p1 <;> exact Nat.le_of_ble_eq_true rfl)
  rw [lg_entry_eq]
  generalize (lg_sl ([va_rf (some h0), .int p0, va_rf p1]) ++ List.replicate (3 - (lg_sl ([va_rf (some h0), .int p0, va_rf p1])).length) Slot.unset).toArray = ls at hl ⊢
  have hl : lv_has ls 3 [(0, va_rf (some h0)), (1, .int p0), (2, va_rf p1)] := by cases p1 <;> exact hl
  unfold D_Ed_addDefault at hden
  refine gV.lift (fun _ _ _ _ => lv_iload_n hx hb d_Ed_addDefault_0 rfl (lv_at hl 1 rfl)) ?_
  refine gV.lift2 (fun _ _ _ _ => lv_if_lt (tgt := 27) hx hb d_Ed_addDefault_1 (by decide)) (fun hc1 => ?_) (fun hc1 => ?_)
  · replace hden := gip hc1 hden
    exact w_Ed_addDefault_27 Y  S hden (lv_sub hl [] rfl)
  · replace hden := gin hc1 hden
    refine gV.lift (fun _ _ _ _ => lv_iload_n hx hb d_Ed_addDefault_4 rfl (lv_at hl 1 rfl)) ?_
    refine gV.lift (fun _ _ _ _ => lv_bipush (v := 9) hx hb d_Ed_addDefault_5 (by decide)) ?_
    refine gV.lift2 (fun _ _ _ _ => lv_icmp_gt (tgt := 27) hx hb d_Ed_addDefault_7 (by decide)) (fun hc2 => ?_) (fun hc2 => ?_)
    · replace hden := gip hc2 hden
      exact w_Ed_addDefault_27 Y  S hden (lv_sub hl [] rfl)
    · replace hden := gin hc2 hden
      refine gV.lift (fun _ _ _ _ => g_aload_n hx hb d_Ed_addDefault_10 rfl (lv_at hl 0 rfl)) ?_
      replace hden := gb hden
      obtain ⟨r3, hv, hden⟩ := hden
      refine r_getR X cl_Ed (k := 2) hv (by decide) q_44 d_Ed_addDefault_11 ?_
      refine gV.lift (fun _ _ _ _ => lv_iload_n hx hb d_Ed_addDefault_14 rfl (lv_at hl 1 rfl)) ?_
      refine gV.lift (fun _ _ _ _ => g_aload_n hx hb d_Ed_addDefault_15 rfl (lv_at hl 2 rfl)) ?_
      replace hden := gb hden
      obtain ⟨a4, rfl, hden⟩ := hden
      replace hden := gb hden
      obtain ⟨a6, rfl, hden⟩ := hden
      replace hden := gb hden
      obtain ⟨S5, hv, hden⟩ := hden
      refine r_aast X cl_NL (t := 6) rfl hv d_Ed_addDefault_16 ?_
      refine gV.lift (fun _ _ _ _ => g_aload_n hx hb d_Ed_addDefault_17 rfl (lv_at hl 0 rfl)) ?_
      refine gV.lift (fun _ _ _ _ => lv_dup hx hb d_Ed_addDefault_18 g_cat) ?_
      replace hden := gb hden
      obtain ⟨v7, hv, hden⟩ := hden
      refine r_getI X cl_Ed (k := 5) hv (by decide) q_48 d_Ed_addDefault_19 ?_
      refine gV.lift (fun _ _ _ _ => lv_iconst (v := 1) hx hb d_Ed_addDefault_22 (by decide)) ?_
      refine gV.lift (fun _ _ _ _ => lv_iadd hx hb d_Ed_addDefault_23) ?_
      replace hden := gb hden
      obtain ⟨S8, hv, hden⟩ := hden
      refine r_put X cl_Ed (k := 5) hv (by decide) q_48 rfl rfl rfl d_Ed_addDefault_24 ?_
      exact w_Ed_addDefault_27 Y  S8 hden (lv_sub hl [] rfl)
/-! PlanText$Edition.hasRoomForStandby()Z -/
abbrev y_Ed_hasRoomForStandby : MethodName := ⟨"PlanText$Edition", "hasRoomForStandby", "()Z"⟩
theorem d_Ed_hasRoomForStandby_0 : decode prog_2_method_7_code 0 = .ok (.aload_n 0, 1) := by decide +kernel
theorem d_Ed_hasRoomForStandby_1 : decode prog_2_method_7_code 1 = .ok (.getfield 36, 3) := by decide +kernel
theorem d_Ed_hasRoomForStandby_4 : decode prog_2_method_7_code 4 = .ok (.bipush 8, 2) := by decide +kernel
theorem d_Ed_hasRoomForStandby_6 : decode prog_2_method_7_code 6 = .ok (.if_icmp .ge 7, 3) := by decide +kernel
theorem d_Ed_hasRoomForStandby_9 : decode prog_2_method_7_code 9 = .ok (.iconst 1, 1) := by decide +kernel
theorem d_Ed_hasRoomForStandby_10 : decode prog_2_method_7_code 10 = .ok (.goto 4, 3) := by decide +kernel
theorem d_Ed_hasRoomForStandby_13 : decode prog_2_method_7_code 13 = .ok (.iconst 0, 1) := by decide +kernel
theorem d_Ed_hasRoomForStandby_14 : decode prog_2_method_7_code 14 = .ok (.ireturn, 1) := by decide +kernel
def B_Ed_hasRoomForStandby_14  (t0 : Int32) (S : gS) : Option (Int32 × gS) := Option.bind (gZo t0) (fun v1 => some (v1, S))
set_option maxRecDepth 100000 in
set_option maxHeartbeats 4000000 in
theorem w_Ed_hasRoomForStandby_14 {D : va_G} {cT : Nat → ClassId} {H0 : Heap} {l : Launch} {p : Program} {e : Env} {s : State} {m : MethodId} {args : Array Value} {below : List Frame} {meth : Method} {c : Code} {S0 : gS} {S' : gS} {r : Int32} (Y : gY D cT H0 p s m args meth c prog_2_method_7_code 1 "PlanText$Edition" 0 0 S0 (Option.some Jvm.ClassFile.FieldType.boolean))  (t0 : Int32) (S : gS) (hden : B_Ed_hasRoomForStandby_14  t0 S = some (r, S')) {ls : Array Slot} (hl : lv_has ls 1 []) : gV D cT H0 p l e (gRm 0 0 S0) s m args below meth c (gQ D cT H0 below S0 S' (.inr (some (.int r))) s) S0 S (F0 m 14 ls [.int t0]) := by
  obtain ⟨X, hZ, hex, hr, hE⟩ := id Y
  have hx := X.1
  have hb := X.2.1
  unfold B_Ed_hasRoomForStandby_14 at hden
  replace hden := gb hden
  obtain ⟨v1, hz, hden⟩ := hden
  obtain ⟨rfl, hz2, -⟩ := gZo_spec hz
  obtain ⟨rfl, rfl⟩ := gpi hden
  exact g_zret X hr hz2 d_Ed_hasRoomForStandby_14
def D_Ed_hasRoomForStandby (h0 : Nat) (S : gS) : Option (Int32 × gS) := Option.bind (gI S h0 1 6) (fun v1 => (if 8 ≤ v1 then B_Ed_hasRoomForStandby_14  0 S else B_Ed_hasRoomForStandby_14  1 S))
set_option maxRecDepth 100000 in
set_option maxHeartbeats 4000000 in
theorem c_Ed_hasRoomForStandby {D : va_G} {cT : Nat → ClassId} {H0 : Heap} {l : Launch} {S : gS} {S' : gS} {h0 : Nat} {r : Int32} (hden : D_Ed_hasRoomForStandby h0 S = some (r, S')) : gM D cT H0 l y_Ed_hasRoomForStandby (Cond.code y_Ed_hasRoomForStandby prog_2_method_7_code 1 (Option.some Jvm.ClassFile.FieldType.boolean)) 0 0 [va_rf (some h0)] S S' (.inr (some (.int r))) := by
  refine gM.ofV (by decide) ?_
  intro p e s m args below meth c s₁ B hml ea X hZ hex hr hE
  subst ea
  have Y : gY D cT H0 p s m _ meth c prog_2_method_7_code 1 "PlanText$Edition" 0 0 S (Option.some Jvm.ClassFile.FieldType.boolean) := ⟨X, hZ, hex, hr, hE⟩
  have hx := X.1
  have hb := X.2.1
  have hl := lv_entry ([va_rf (some h0)]) (n := 1) (Nat.le_of_ble_eq_true rfl)
  rw [lg_entry_eq]
  generalize (lg_sl ([va_rf (some h0)]) ++ List.replicate (1 - (lg_sl ([va_rf (some h0)])).length) Slot.unset).toArray = ls at hl ⊢
  have hl : lv_has ls 1 [(0, va_rf (some h0))] := hl
  unfold D_Ed_hasRoomForStandby at hden
  refine gV.lift (fun _ _ _ _ => g_aload_n hx hb d_Ed_hasRoomForStandby_0 rfl (lv_at hl 0 rfl)) ?_
  replace hden := gb hden
  obtain ⟨v1, hv, hden⟩ := hden
  refine r_getI X cl_Ed (k := 6) hv (by decide) q_50 d_Ed_hasRoomForStandby_1 ?_
  refine gV.lift (fun _ _ _ _ => lv_bipush (v := 8) hx hb d_Ed_hasRoomForStandby_4 (by decide)) ?_
  refine gV.lift2 (fun _ _ _ _ => lv_icmp_ge (tgt := 13) hx hb d_Ed_hasRoomForStandby_6 (by decide)) (fun hc2 => ?_) (fun hc2 => ?_)
  · replace hden := gip hc2 hden
    refine gV.lift (fun _ _ _ _ => lv_iconst (v := 0) hx hb d_Ed_hasRoomForStandby_13 (by decide)) ?_
    exact w_Ed_hasRoomForStandby_14 Y  0 S hden (lv_sub hl [] rfl)
  · replace hden := gin hc2 hden
    refine gV.lift (fun _ _ _ _ => lv_iconst (v := 1) hx hb d_Ed_hasRoomForStandby_9 (by decide)) ?_
    refine gV.lift (fun _ _ _ _ => lv_goto (tgt := 14) hx hb d_Ed_hasRoomForStandby_10 (by decide)) ?_
    exact w_Ed_hasRoomForStandby_14 Y  1 S hden (lv_sub hl [] rfl)
/-! PlanText$Edition.addStandby(LPlanText$Standby;)V -/
abbrev y_Ed_addStandby : MethodName := ⟨"PlanText$Edition", "addStandby", "(LPlanText$Standby;)V"⟩
theorem d_Ed_addStandby_0 : decode prog_2_method_8_code 0 = .ok (.aload_n 0, 1) := by decide +kernel
theorem d_Ed_addStandby_1 : decode prog_2_method_8_code 1 = .ok (.invokevirtual 45, 3) := by decide +kernel
theorem d_Ed_addStandby_4 : decode prog_2_method_8_code 4 = .ok (.ifCond .eq 23, 3) := by decide +kernel
theorem d_Ed_addStandby_7 : decode prog_2_method_8_code 7 = .ok (.aload_n 0, 1) := by decide +kernel
theorem d_Ed_addStandby_8 : decode prog_2_method_8_code 8 = .ok (.getfield 25, 3) := by decide +kernel
theorem d_Ed_addStandby_11 : decode prog_2_method_8_code 11 = .ok (.aload_n 0, 1) := by decide +kernel
theorem d_Ed_addStandby_12 : decode prog_2_method_8_code 12 = .ok (.getfield 36, 3) := by decide +kernel
theorem d_Ed_addStandby_15 : decode prog_2_method_8_code 15 = .ok (.aload_n 1, 1) := by decide +kernel
theorem d_Ed_addStandby_16 : decode prog_2_method_8_code 16 = .ok (.aastore, 1) := by decide +kernel
theorem d_Ed_addStandby_17 : decode prog_2_method_8_code 17 = .ok (.aload_n 0, 1) := by decide +kernel
theorem d_Ed_addStandby_18 : decode prog_2_method_8_code 18 = .ok (.dup, 1) := by decide +kernel
theorem d_Ed_addStandby_19 : decode prog_2_method_8_code 19 = .ok (.getfield 36, 3) := by decide +kernel
theorem d_Ed_addStandby_22 : decode prog_2_method_8_code 22 = .ok (.iconst 1, 1) := by decide +kernel
theorem d_Ed_addStandby_23 : decode prog_2_method_8_code 23 = .ok (.iadd, 1) := by decide +kernel
theorem d_Ed_addStandby_24 : decode prog_2_method_8_code 24 = .ok (.putfield 36, 3) := by decide +kernel
theorem d_Ed_addStandby_27 : decode prog_2_method_8_code 27 = .ok (.return_, 1) := by decide +kernel
def B_Ed_addStandby_27   (S : gS) : Option gS := some S
set_option maxRecDepth 100000 in
set_option maxHeartbeats 4000000 in
theorem w_Ed_addStandby_27 {D : va_G} {cT : Nat → ClassId} {H0 : Heap} {l : Launch} {p : Program} {e : Env} {s : State} {m : MethodId} {args : Array Value} {below : List Frame} {meth : Method} {c : Code} {S0 : gS} {S' : gS} (Y : gY D cT H0 p s m args meth c prog_2_method_8_code 2 "PlanText$Edition" 1 20 S0 (Option.none : Option Jvm.ClassFile.FieldType))   (S : gS) (hden : B_Ed_addStandby_27   S = some S') {ls : Array Slot} (hl : lv_has ls 2 []) : gV D cT H0 p l e (gRm 1 20 S0) s m args below meth c (gQ D cT H0 below S0 S' (.inr none) s) S0 S (F0 m 27 ls []) := by
  obtain ⟨X, hZ, hex, hr, hE⟩ := id Y
  have hx := X.1
  have hb := X.2.1
  unfold B_Ed_addStandby_27 at hden
  obtain rfl := gsi hden
  exact g_vret X hr d_Ed_addStandby_27
def D_Ed_addStandby (h0 : Nat) (p0 : Option Nat) (S : gS) : Option gS := Option.bind (gOb S h0 1) (fun fs3 => gB2 (D_Ed_hasRoomForStandby h0 S) (fun v2 S1 => (if v2 = 0 then B_Ed_addStandby_27  S1 else Option.bind (gRf S1 h0 1 3) (fun r5 => Option.bind (gI S1 h0 1 6) (fun v6 => Option.bind r5 (fun a7 => Option.bind p0 (fun a9 => Option.bind (gSR S1 a7 7 v6 a9 8) (fun S8 => Option.bind (gI S8 h0 1 6) (fun v10 => Option.bind (gPut S8 h0 1 6 (.int (v10 + 1))) (fun S11 => B_Ed_addStandby_27  S11))))))))))
set_option maxRecDepth 100000 in
set_option maxHeartbeats 4000000 in
theorem c_Ed_addStandby {D : va_G} {cT : Nat → ClassId} {H0 : Heap} {l : Launch} {S : gS} {S' : gS} {h0 : Nat} {p0 : Option Nat} (hden : D_Ed_addStandby h0 p0 S = some S') : gM D cT H0 l y_Ed_addStandby (Cond.code y_Ed_addStandby prog_2_method_8_code 2 (Option.none : Option Jvm.ClassFile.FieldType)) 1 20 [va_rf (some h0), va_rf p0] S S' (.inr none) := by
  refine gM.ofV (by decide) ?_
  intro p e s m args below meth c s₁ B hml ea X hZ hex hr hE
  subst ea
  have Y : gY D cT H0 p s m _ meth c prog_2_method_8_code 2 "PlanText$Edition" 1 20 S (Option.none : Option Jvm.ClassFile.FieldType) := ⟨X, hZ, hex, hr, hE⟩
  have hx := X.1
  have hb := X.2.1
  have hl := lv_entry ([va_rf (some h0), va_rf p0]) (n := 2) (by cases p0 <;> exact Nat.le_of_ble_eq_true rfl)
  rw [lg_entry_eq]
  generalize (lg_sl ([va_rf (some h0), va_rf p0]) ++ List.replicate (2 - (lg_sl ([va_rf (some h0), va_rf p0])).length) Slot.unset).toArray = ls at hl ⊢
  have hl : lv_has ls 2 [(0, va_rf (some h0)), (1, va_rf p0)] := by cases p0 <;> exact hl
  unfold D_Ed_addStandby at hden
  refine gV.lift (fun _ _ _ _ => g_aload_n hx hb d_Ed_addStandby_0 rfl (lv_at hl 0 rfl)) ?_
  replace hden := gb hden
  obtain ⟨fs3, ho, hden⟩ := hden
  replace hden := gb2 hden
  obtain ⟨v2, S1, hz, hden⟩ := hden
  refine g_callV (As := []) (rest := []) X hZ (c_Ed_hasRoomForStandby hz) cl_Ed (gOb_spec ho) q_471 q_2 q_504 q_469 q_470 ⟨by decide, by decide, by show _ = some 0; decide +kernel⟩ ⟨by decide, by decide⟩ hl.1 (Nat.le_of_ble_eq_true rfl) d_Ed_addStandby_1 rfl rfl ?_
  refine gV.lift2 (fun _ _ _ _ => lv_if_eq (tgt := 27) hx hb d_Ed_addStandby_4 (by decide)) (fun hc4 => ?_) (fun hc4 => ?_)
  · replace hden := gip hc4 hden
    exact w_Ed_addStandby_27 Y  S1 hden (lv_sub hl [] rfl)
  · replace hden := gin hc4 hden
    refine gV.lift (fun _ _ _ _ => g_aload_n hx hb d_Ed_addStandby_7 rfl (lv_at hl 0 rfl)) ?_
    replace hden := gb hden
    obtain ⟨r5, hv, hden⟩ := hden
    refine r_getR X cl_Ed (k := 3) hv (by decide) q_45 d_Ed_addStandby_8 ?_
    refine gV.lift (fun _ _ _ _ => g_aload_n hx hb d_Ed_addStandby_11 rfl (lv_at hl 0 rfl)) ?_
    replace hden := gb hden
    obtain ⟨v6, hv, hden⟩ := hden
    refine r_getI X cl_Ed (k := 6) hv (by decide) q_50 d_Ed_addStandby_12 ?_
    refine gV.lift (fun _ _ _ _ => g_aload_n hx hb d_Ed_addStandby_15 rfl (lv_at hl 1 rfl)) ?_
    replace hden := gb hden
    obtain ⟨a7, rfl, hden⟩ := hden
    replace hden := gb hden
    obtain ⟨a9, rfl, hden⟩ := hden
    replace hden := gb hden
    obtain ⟨S8, hv, hden⟩ := hden
    refine r_aast X cl_Sb (t := 7) rfl hv d_Ed_addStandby_16 ?_
    refine gV.lift (fun _ _ _ _ => g_aload_n hx hb d_Ed_addStandby_17 rfl (lv_at hl 0 rfl)) ?_
    refine gV.lift (fun _ _ _ _ => lv_dup hx hb d_Ed_addStandby_18 g_cat) ?_
    replace hden := gb hden
    obtain ⟨v10, hv, hden⟩ := hden
    refine r_getI X cl_Ed (k := 6) hv (by decide) q_50 d_Ed_addStandby_19 ?_
    refine gV.lift (fun _ _ _ _ => lv_iconst (v := 1) hx hb d_Ed_addStandby_22 (by decide)) ?_
    refine gV.lift (fun _ _ _ _ => lv_iadd hx hb d_Ed_addStandby_23) ?_
    replace hden := gb hden
    obtain ⟨S11, hv, hden⟩ := hden
    refine r_put X cl_Ed (k := 6) hv (by decide) q_50 rfl rfl rfl d_Ed_addStandby_24 ?_
    exact w_Ed_addStandby_27 Y  S11 hden (lv_sub hl [] rfl)
/-! PlanText$Edition.bestPlan(IIII)LPlanText$Plan; -/
abbrev y_Ed_bestPlan : MethodName := ⟨"PlanText$Edition", "bestPlan", "(IIII)LPlanText$Plan;"⟩
theorem d_Ed_bestPlan_0 : decode prog_2_method_9_code 0 = .ok (.aconst_null, 1) := by decide +kernel
theorem d_Ed_bestPlan_1 : decode prog_2_method_9_code 1 = .ok (.astore 5, 2) := by decide +kernel
theorem d_Ed_bestPlan_3 : decode prog_2_method_9_code 3 = .ok (.iconst 1, 1) := by decide +kernel
theorem d_Ed_bestPlan_4 : decode prog_2_method_9_code 4 = .ok (.istore 6, 2) := by decide +kernel
theorem d_Ed_bestPlan_6 : decode prog_2_method_9_code 6 = .ok (.iload 6, 2) := by decide +kernel
theorem d_Ed_bestPlan_8 : decode prog_2_method_9_code 8 = .ok (.bipush 40, 2) := by decide +kernel
theorem d_Ed_bestPlan_10 : decode prog_2_method_9_code 10 = .ok (.if_icmp .gt 54, 3) := by decide +kernel
theorem d_Ed_bestPlan_13 : decode prog_2_method_9_code 13 = .ok (.aload_n 0, 1) := by decide +kernel
theorem d_Ed_bestPlan_14 : decode prog_2_method_9_code 14 = .ok (.iload 6, 2) := by decide +kernel
theorem d_Ed_bestPlan_16 : decode prog_2_method_9_code 16 = .ok (.invokevirtual 49, 3) := by decide +kernel
theorem d_Ed_bestPlan_19 : decode prog_2_method_9_code 19 = .ok (.astore 7, 2) := by decide +kernel
theorem d_Ed_bestPlan_21 : decode prog_2_method_9_code 21 = .ok (.aload 7, 2) := by decide +kernel
theorem d_Ed_bestPlan_23 : decode prog_2_method_9_code 23 = .ok (.ifnull 35, 3) := by decide +kernel
theorem d_Ed_bestPlan_26 : decode prog_2_method_9_code 26 = .ok (.aload 7, 2) := by decide +kernel
theorem d_Ed_bestPlan_28 : decode prog_2_method_9_code 28 = .ok (.iload_n 1, 1) := by decide +kernel
theorem d_Ed_bestPlan_29 : decode prog_2_method_9_code 29 = .ok (.iload_n 2, 1) := by decide +kernel
theorem d_Ed_bestPlan_30 : decode prog_2_method_9_code 30 = .ok (.iload_n 3, 1) := by decide +kernel
theorem d_Ed_bestPlan_31 : decode prog_2_method_9_code 31 = .ok (.iload 4, 2) := by decide +kernel
theorem d_Ed_bestPlan_33 : decode prog_2_method_9_code 33 = .ok (.invokevirtual 53, 3) := by decide +kernel
theorem d_Ed_bestPlan_36 : decode prog_2_method_9_code 36 = .ok (.ifCond .eq 22, 3) := by decide +kernel
theorem d_Ed_bestPlan_39 : decode prog_2_method_9_code 39 = .ok (.aload 5, 2) := by decide +kernel
theorem d_Ed_bestPlan_41 : decode prog_2_method_9_code 41 = .ok (.ifnull 13, 3) := by decide +kernel
theorem d_Ed_bestPlan_44 : decode prog_2_method_9_code 44 = .ok (.aload 7, 2) := by decide +kernel
theorem d_Ed_bestPlan_46 : decode prog_2_method_9_code 46 = .ok (.aload 5, 2) := by decide +kernel
theorem d_Ed_bestPlan_48 : decode prog_2_method_9_code 48 = .ok (.invokevirtual 57, 3) := by decide +kernel
theorem d_Ed_bestPlan_51 : decode prog_2_method_9_code 51 = .ok (.ifCond .eq 7, 3) := by decide +kernel
theorem d_Ed_bestPlan_54 : decode prog_2_method_9_code 54 = .ok (.aload 7, 2) := by decide +kernel
theorem d_Ed_bestPlan_56 : decode prog_2_method_9_code 56 = .ok (.astore 5, 2) := by decide +kernel
theorem d_Ed_bestPlan_58 : decode prog_2_method_9_code 58 = .ok (.iinc 6 1, 3) := by decide +kernel
theorem d_Ed_bestPlan_61 : decode prog_2_method_9_code 61 = .ok (.goto (-55), 3) := by decide +kernel
theorem d_Ed_bestPlan_64 : decode prog_2_method_9_code 64 = .ok (.aload 5, 2) := by decide +kernel
theorem d_Ed_bestPlan_66 : decode prog_2_method_9_code 66 = .ok (.areturn, 1) := by decide +kernel
def B_Ed_bestPlan_58 (k6 : Nat → Int32 → Int32 → Int32 → Int32 → Option Nat → Int32 → gS → Option ((Option Nat) × gS)) (x0 : Nat) (x1 : Int32) (x2 : Int32) (x3 : Int32) (x4 : Int32) (x5 : Option Nat) (x6 : Int32) (S : gS) : Option ((Option Nat) × gS) := k6 x0 x1 x2 x3 x4 x5 (x6 + 1) S
set_option maxRecDepth 100000 in
set_option maxHeartbeats 4000000 in
theorem w_Ed_bestPlan_58 {D : va_G} {cT : Nat → ClassId} {H0 : Heap} {l : Launch} {p : Program} {e : Env} {s : State} {m : MethodId} {args : Array Value} {below : List Frame} {meth : Method} {c : Code} {S0 : gS} {S' : gS} {r : Option Nat} (Y : gY D cT H0 p s m args meth c prog_2_method_9_code 8 "PlanText$Edition" 3 66 S0 (Option.some (Jvm.ClassFile.FieldType.object "PlanText$Plan"))) {k6 : Nat → Int32 → Int32 → Int32 → Int32 → Option Nat → Int32 → gS → Option ((Option Nat) × gS)} (hk6 : ∀ (x0 : Nat) (x1 : Int32) (x2 : Int32) (x3 : Int32) (x4 : Int32) (x5 : Option Nat) (x6 : Int32) (S : gS) (ls : Array Slot), k6 x0 x1 x2 x3 x4 x5 x6 S = some (r, S') → lv_has ls 8 [(0, va_rf (some x0)), (1, .int x1), (2, .int x2), (3, .int x3), (4, .int x4), (5, va_rf x5), (6, .int x6)] → gV D cT H0 p l e (gRm 3 66 S0) s m args below meth c (gQ D cT H0 below S0 S' (.inr (some (va_rf r))) s) S0 S (F0 m 6 ls [])) (x0 : Nat) (x1 : Int32) (x2 : Int32) (x3 : Int32) (x4 : Int32) (x5 : Option Nat) (x6 : Int32) (S : gS) (hden : B_Ed_bestPlan_58 k6 x0 x1 x2 x3 x4 x5 x6 S = some (r, S')) {ls : Array Slot} (hl : lv_has ls 8 [(0, va_rf (some x0)), (1, .int x1), (2, .int x2), (3, .int x3), (4, .int x4), (5, va_rf x5), (6, .int x6)]) : gV D cT H0 p l e (gRm 3 66 S0) s m args below meth c (gQ D cT H0 below S0 S' (.inr (some (va_rf r))) s) S0 S (F0 m 58 ls []) := by
  obtain ⟨X, hZ, hex, hr, hE⟩ := id Y
  have hx := X.1
  have hb := X.2.1
  unfold B_Ed_bestPlan_58 at hden
  refine gV.liftS (nL := 8) (lv' := [(6, .int (x6 + 1)), (0, va_rf (some x0)), (1, .int x1), (2, .int x2), (3, .int x3), (4, .int x4), (5, va_rf x5)]) (fun _ _ _ _ => lv_iinc (v := (x6 + 1)) hx hb d_Ed_bestPlan_58 hl (k := 6) rfl rfl (by decide) (by cases x5 <;> rfl)) (fun ls hl => ?_)
  refine gV.lift (fun _ _ _ _ => lv_goto (tgt := 6) hx hb d_Ed_bestPlan_61 (by decide)) ?_
  exact hk6 x0 x1 x2 x3 x4 x5 (x6 + 1) S _ hden (lv_sub hl [1, 2, 3, 4, 5, 6, 0] rfl)
def B_Ed_bestPlan_54 (k6 : Nat → Int32 → Int32 → Int32 → Int32 → Option Nat → Int32 → gS → Option ((Option Nat) × gS)) (x0 : Nat) (x1 : Int32) (x2 : Int32) (x3 : Int32) (x4 : Int32) (x6 : Int32) (x7 : Option Nat) (S : gS) : Option ((Option Nat) × gS) := B_Ed_bestPlan_58 k6 x0 x1 x2 x3 x4 x7 x6 S
set_option maxRecDepth 100000 in
set_option maxHeartbeats 4000000 in
theorem w_Ed_bestPlan_54 {D : va_G} {cT : Nat → ClassId} {H0 : Heap} {l : Launch} {p : Program} {e : Env} {s : State} {m : MethodId} {args : Array Value} {below : List Frame} {meth : Method} {c : Code} {S0 : gS} {S' : gS} {r : Option Nat} (Y : gY D cT H0 p s m args meth c prog_2_method_9_code 8 "PlanText$Edition" 3 66 S0 (Option.some (Jvm.ClassFile.FieldType.object "PlanText$Plan"))) {k6 : Nat → Int32 → Int32 → Int32 → Int32 → Option Nat → Int32 → gS → Option ((Option Nat) × gS)} (hk6 : ∀ (x0 : Nat) (x1 : Int32) (x2 : Int32) (x3 : Int32) (x4 : Int32) (x5 : Option Nat) (x6 : Int32) (S : gS) (ls : Array Slot), k6 x0 x1 x2 x3 x4 x5 x6 S = some (r, S') → lv_has ls 8 [(0, va_rf (some x0)), (1, .int x1), (2, .int x2), (3, .int x3), (4, .int x4), (5, va_rf x5), (6, .int x6)] → gV D cT H0 p l e (gRm 3 66 S0) s m args below meth c (gQ D cT H0 below S0 S' (.inr (some (va_rf r))) s) S0 S (F0 m 6 ls [])) (x0 : Nat) (x1 : Int32) (x2 : Int32) (x3 : Int32) (x4 : Int32) (x6 : Int32) (x7 : Option Nat) (S : gS) (hden : B_Ed_bestPlan_54 k6 x0 x1 x2 x3 x4 x6 x7 S = some (r, S')) {ls : Array Slot} (hl : lv_has ls 8 [(0, va_rf (some x0)), (1, .int x1), (2, .int x2), (3, .int x3), (4, .int x4), (6, .int x6), (7, va_rf x7)]) : gV D cT H0 p l e (gRm 3 66 S0) s m args below meth c (gQ D cT H0 below S0 S' (.inr (some (va_rf r))) s) S0 S (F0 m 54 ls []) := by
  obtain ⟨X, hZ, hex, hr, hE⟩ := id Y
  have hx := X.1
  have hb := X.2.1
  unfold B_Ed_bestPlan_54 at hden
  refine gV.lift (fun _ _ _ _ => g_aload hx hb d_Ed_bestPlan_54 (lv_at hl 6 rfl)) ?_
  refine gV.liftS (nL := 8) (lv' := [(5, va_rf x7), (0, va_rf (some x0)), (1, .int x1), (2, .int x2), (3, .int x3), (4, .int x4), (6, .int x6), (7, va_rf x7)]) (fun _ _ _ _ => g_astore hx hb d_Ed_bestPlan_56 hl (by decide) rfl) (fun ls hl => ?_)
  exact w_Ed_bestPlan_58 Y hk6 x0 x1 x2 x3 x4 x7 x6 S hden (lv_sub hl [1, 2, 3, 4, 5, 0, 6] rfl)
def B_Ed_bestPlan_6 (k6 : Nat → Int32 → Int32 → Int32 → Int32 → Option Nat → Int32 → gS → Option ((Option Nat) × gS)) (x0 : Nat) (x1 : Int32) (x2 : Int32) (x3 : Int32) (x4 : Int32) (x5 : Option Nat) (x6 : Int32) (S : gS) : Option ((Option Nat) × gS) := (if 40 < x6 then some (x5, S) else Option.bind (gOb S x0 1) (fun fs4 => gB2 (D_Ed_planNumbered x0 x6 S) (fun r3 S2 => gNul r3 (B_Ed_bestPlan_58 k6 x0 x1 x2 x3 x4 x5 x6 S2) (fun a5 => Option.bind (gOb S2 a5 5) (fun fs8 => gB2 (D_Pl_fits a5 x1 x2 x3 x4 S2) (fun v7 S6 => (if v7 = 0 then B_Ed_bestPlan_58 k6 x0 x1 x2 x3 x4 x5 x6 S6 else gNul x5 (B_Ed_bestPlan_54 k6 x0 x1 x2 x3 x4 x6 (some a5) S6) (fun a10 => Option.bind (gOb S6 a5 5) (fun fs13 => gB2 (D_Pl_goesAheadOf a5 (some a10) S6) (fun v12 S11 => (if v12 = 0 then B_Ed_bestPlan_58 k6 x0 x1 x2 x3 x4 (some a10) x6 S11 else B_Ed_bestPlan_54 k6 x0 x1 x2 x3 x4 x6 (some a5) S11)))))))))))
set_option maxRecDepth 100000 in
set_option maxHeartbeats 4000000 in
theorem w_Ed_bestPlan_6 {D : va_G} {cT : Nat → ClassId} {H0 : Heap} {l : Launch} {p : Program} {e : Env} {s : State} {m : MethodId} {args : Array Value} {below : List Frame} {meth : Method} {c : Code} {S0 : gS} {S' : gS} {r : Option Nat} (Y : gY D cT H0 p s m args meth c prog_2_method_9_code 8 "PlanText$Edition" 3 66 S0 (Option.some (Jvm.ClassFile.FieldType.object "PlanText$Plan"))) {k6 : Nat → Int32 → Int32 → Int32 → Int32 → Option Nat → Int32 → gS → Option ((Option Nat) × gS)} (hk6 : ∀ (x0 : Nat) (x1 : Int32) (x2 : Int32) (x3 : Int32) (x4 : Int32) (x5 : Option Nat) (x6 : Int32) (S : gS) (ls : Array Slot), k6 x0 x1 x2 x3 x4 x5 x6 S = some (r, S') → lv_has ls 8 [(0, va_rf (some x0)), (1, .int x1), (2, .int x2), (3, .int x3), (4, .int x4), (5, va_rf x5), (6, .int x6)] → gV D cT H0 p l e (gRm 3 66 S0) s m args below meth c (gQ D cT H0 below S0 S' (.inr (some (va_rf r))) s) S0 S (F0 m 6 ls [])) (x0 : Nat) (x1 : Int32) (x2 : Int32) (x3 : Int32) (x4 : Int32) (x5 : Option Nat) (x6 : Int32) (S : gS) (hden : B_Ed_bestPlan_6 k6 x0 x1 x2 x3 x4 x5 x6 S = some (r, S')) {ls : Array Slot} (hl : lv_has ls 8 [(0, va_rf (some x0)), (1, .int x1), (2, .int x2), (3, .int x3), (4, .int x4), (5, va_rf x5), (6, .int x6)]) : gV D cT H0 p l e (gRm 3 66 S0) s m args below meth c (gQ D cT H0 below S0 S' (.inr (some (va_rf r))) s) S0 S (F0 m 6 ls []) := by
  obtain ⟨X, hZ, hex, hr, hE⟩ := id Y
  have hx := X.1
  have hb := X.2.1
  unfold B_Ed_bestPlan_6 at hden
  refine gV.lift (fun _ _ _ _ => lv_iload hx hb d_Ed_bestPlan_6 (lv_at hl 6 rfl)) ?_
  refine gV.lift (fun _ _ _ _ => lv_bipush (v := 40) hx hb d_Ed_bestPlan_8 (by decide)) ?_
  refine gV.lift2 (fun _ _ _ _ => lv_icmp_gt (tgt := 64) hx hb d_Ed_bestPlan_10 (by decide)) (fun hc1 => ?_) (fun hc1 => ?_)
  · replace hden := gip hc1 hden
    refine gV.lift (fun _ _ _ _ => g_aload hx hb d_Ed_bestPlan_64 (lv_at hl 5 rfl)) ?_
    obtain ⟨rfl, rfl⟩ := gpi hden
    exact g_aret X hr d_Ed_bestPlan_66
  · replace hden := gin hc1 hden
    refine gV.lift (fun _ _ _ _ => g_aload_n hx hb d_Ed_bestPlan_13 rfl (lv_at hl 0 rfl)) ?_
    refine gV.lift (fun _ _ _ _ => lv_iload hx hb d_Ed_bestPlan_14 (lv_at hl 6 rfl)) ?_
    replace hden := gb hden
    obtain ⟨fs4, ho, hden⟩ := hden
    replace hden := gb2 hden
    obtain ⟨r3, S2, hz, hden⟩ := hden
    refine g_callV (As := [.int x6]) (rest := []) X hZ (c_Ed_planNumbered hz) cl_Ed (gOb_spec ho) q_303 q_2 q_565 q_301 q_302 ⟨by decide, by decide, by show _ = some 1; decide +kernel⟩ ⟨by decide, by decide⟩ hl.1 (Nat.le_of_ble_eq_true rfl) d_Ed_bestPlan_16 rfl rfl ?_
    refine gV.liftS (nL := 8) (lv' := [(7, va_rf r3), (0, va_rf (some x0)), (1, .int x1), (2, .int x2), (3, .int x3), (4, .int x4), (5, va_rf x5), (6, .int x6)]) (fun _ _ _ _ => g_astore hx hb d_Ed_bestPlan_19 hl (by decide) rfl) (fun ls hl => ?_)
    refine gV.lift (fun _ _ _ _ => g_aload hx hb d_Ed_bestPlan_21 (lv_at hl 0 rfl)) ?_
    rcases r3 with _ | a5
    · replace hden := gN0 hden
      refine gV.lift (fun _ _ _ _ => lv_ifnullN (tgt := 58) hx hb d_Ed_bestPlan_23 (by decide)) ?_
      exact w_Ed_bestPlan_58 Y hk6 x0 x1 x2 x3 x4 x5 x6 S2 hden (lv_sub hl [1, 2, 3, 4, 5, 6, 7] rfl)
    · replace hden := gN1 hden
      refine gV.lift (fun _ _ _ _ => lv_ifnull hx hb d_Ed_bestPlan_23) ?_
      refine gV.lift (fun _ _ _ _ => g_aload hx hb d_Ed_bestPlan_26 (lv_at hl 0 rfl)) ?_
      refine gV.lift (fun _ _ _ _ => lv_iload_n hx hb d_Ed_bestPlan_28 rfl (lv_at hl 2 rfl)) ?_
      refine gV.lift (fun _ _ _ _ => lv_iload_n hx hb d_Ed_bestPlan_29 rfl (lv_at hl 3 rfl)) ?_
      refine gV.lift (fun _ _ _ _ => lv_iload_n hx hb d_Ed_bestPlan_30 rfl (lv_at hl 4 rfl)) ?_
      refine gV.lift (fun _ _ _ _ => lv_iload hx hb d_Ed_bestPlan_31 (lv_at hl 5 rfl)) ?_
      replace hden := gb hden
      obtain ⟨fs8, ho, hden⟩ := hden
      replace hden := gb2 hden
      obtain ⟨v7, S6, hz, hden⟩ := hden
      refine g_callV (As := [.int x1, .int x2, .int x3, .int x4]) (rest := []) X hZ (c_Pl_fits hz) cl_Pl (gOb_spec ho) q_569 q_15 q_566 q_567 q_568 ⟨by decide, by decide, by show _ = some 4; decide +kernel⟩ ⟨by decide, by decide⟩ hl.1 (Nat.le_of_ble_eq_true rfl) d_Ed_bestPlan_33 rfl rfl ?_
      refine gV.lift2 (fun _ _ _ _ => lv_if_eq (tgt := 58) hx hb d_Ed_bestPlan_36 (by decide)) (fun hc9 => ?_) (fun hc9 => ?_)
      · replace hden := gip hc9 hden
        exact w_Ed_bestPlan_58 Y hk6 x0 x1 x2 x3 x4 x5 x6 S6 hden (lv_sub hl [1, 2, 3, 4, 5, 6, 7] rfl)
      · replace hden := gin hc9 hden
        refine gV.lift (fun _ _ _ _ => g_aload hx hb d_Ed_bestPlan_39 (lv_at hl 6 rfl)) ?_
        rcases x5 with _ | a10
        · replace hden := gN0 hden
          refine gV.lift (fun _ _ _ _ => lv_ifnullN (tgt := 54) hx hb d_Ed_bestPlan_41 (by decide)) ?_
          exact w_Ed_bestPlan_54 Y hk6 x0 x1 x2 x3 x4 x6 (some a5) S6 hden (lv_sub hl [1, 2, 3, 4, 5, 7, 0] rfl)
        · replace hden := gN1 hden
          refine gV.lift (fun _ _ _ _ => lv_ifnull hx hb d_Ed_bestPlan_41) ?_
          refine gV.lift (fun _ _ _ _ => g_aload hx hb d_Ed_bestPlan_44 (lv_at hl 0 rfl)) ?_
          refine gV.lift (fun _ _ _ _ => g_aload hx hb d_Ed_bestPlan_46 (lv_at hl 6 rfl)) ?_
          replace hden := gb hden
          obtain ⟨fs13, ho, hden⟩ := hden
          replace hden := gb2 hden
          obtain ⟨v12, S11, hz, hden⟩ := hden
          refine g_callV (As := [va_rf (some a10)]) (rest := []) X hZ (c_Pl_goesAheadOf hz) cl_Pl (gOb_spec ho) q_585 q_15 q_582 q_583 q_584 ⟨by decide, by decide, by show _ = some 1; decide +kernel⟩ ⟨by decide, by decide⟩ hl.1 (Nat.le_of_ble_eq_true rfl) d_Ed_bestPlan_48 rfl rfl ?_
          refine gV.lift2 (fun _ _ _ _ => lv_if_eq (tgt := 58) hx hb d_Ed_bestPlan_51 (by decide)) (fun hc14 => ?_) (fun hc14 => ?_)
          · replace hden := gip hc14 hden
            exact w_Ed_bestPlan_58 Y hk6 x0 x1 x2 x3 x4 (some a10) x6 S11 hden (lv_sub hl [1, 2, 3, 4, 5, 6, 7] rfl)
          · replace hden := gin hc14 hden
            exact w_Ed_bestPlan_54 Y hk6 x0 x1 x2 x3 x4 x6 (some a5) S11 hden (lv_sub hl [1, 2, 3, 4, 5, 7, 0] rfl)
def L_Ed_bestPlan_6  : Nat → Nat → Int32 → Int32 → Int32 → Int32 → Option Nat → Int32 → gS → Option ((Option Nat) × gS)
  | 0 => fun _ _ _ _ _ _ _ _ => none
  | n + 1 => fun x0 x1 x2 x3 x4 x5 x6 S => B_Ed_bestPlan_6  (L_Ed_bestPlan_6  n) x0 x1 x2 x3 x4 x5 x6 S
theorem wL_Ed_bestPlan_6 {D : va_G} {cT : Nat → ClassId} {H0 : Heap} {l : Launch} {p : Program} {e : Env} {s : State} {m : MethodId} {args : Array Value} {below : List Frame} {meth : Method} {c : Code} {S0 : gS} {S' : gS} {r : Option Nat} (Y : gY D cT H0 p s m args meth c prog_2_method_9_code 8 "PlanText$Edition" 3 66 S0 (Option.some (Jvm.ClassFile.FieldType.object "PlanText$Plan")))  : ∀ (n : Nat) (x0 : Nat) (x1 : Int32) (x2 : Int32) (x3 : Int32) (x4 : Int32) (x5 : Option Nat) (x6 : Int32) (S : gS) (ls : Array Slot), L_Ed_bestPlan_6  n x0 x1 x2 x3 x4 x5 x6 S = some (r, S') → lv_has ls 8 [(0, va_rf (some x0)), (1, .int x1), (2, .int x2), (3, .int x3), (4, .int x4), (5, va_rf x5), (6, .int x6)] → gV D cT H0 p l e (gRm 3 66 S0) s m args below meth c (gQ D cT H0 below S0 S' (.inr (some (va_rf r))) s) S0 S (F0 m 6 ls []) := by
  intro n
  induction n with
  | zero => intro x0 x1 x2 x3 x4 x5 x6 S ls h hl; cases h
  | succ n ih => intro x0 x1 x2 x3 x4 x5 x6 S ls h hl; exact w_Ed_bestPlan_6 Y ih x0 x1 x2 x3 x4 x5 x6 S h hl
def D_Ed_bestPlan (h0 : Nat) (p0 : Int32) (p1 : Int32) (p2 : Int32) (p3 : Int32) (S : gS) : Option ((Option Nat) × gS) := L_Ed_bestPlan_6  gF h0 p0 p1 p2 p3 none 1 S
set_option maxRecDepth 100000 in
set_option maxHeartbeats 4000000 in
theorem c_Ed_bestPlan {D : va_G} {cT : Nat → ClassId} {H0 : Heap} {l : Launch} {S : gS} {S' : gS} {h0 : Nat} {p0 : Int32} {p1 : Int32} {p2 : Int32} {p3 : Int32} {r : Option Nat} (hden : D_Ed_bestPlan h0 p0 p1 p2 p3 S = some (r, S')) : gM D cT H0 l y_Ed_bestPlan (Cond.code y_Ed_bestPlan prog_2_method_9_code 8 (Option.some (Jvm.ClassFile.FieldType.object "PlanText$Plan"))) 3 66 [va_rf (some h0), .int p0, .int p1, .int p2, .int p3] S S' (.inr (some (va_rf r))) := by
  refine gM.ofV (by decide) ?_
  intro p e s m args below meth c s₁ B hml ea X hZ hex hr hE
  subst ea
  have Y : gY D cT H0 p s m _ meth c prog_2_method_9_code 8 "PlanText$Edition" 3 66 S (Option.some (Jvm.ClassFile.FieldType.object "PlanText$Plan")) := ⟨X, hZ, hex, hr, hE⟩
  have hx := X.1
  have hb := X.2.1
  have hl := lv_entry ([va_rf (some h0), .int p0, .int p1, .int p2, .int p3]) (n := 8) (Nat.le_of_ble_eq_true rfl)
  rw [lg_entry_eq]
  generalize (lg_sl ([va_rf (some h0), .int p0, .int p1, .int p2, .int p3]) ++ List.replicate (8 - (lg_sl ([va_rf (some h0), .int p0, .int p1, .int p2, .int p3])).length) Slot.unset).toArray = ls at hl ⊢
  have hl : lv_has ls 8 [(0, va_rf (some h0)), (1, .int p0), (2, .int p1), (3, .int p2), (4, .int p3)] := hl
  unfold D_Ed_bestPlan at hden
  refine gV.lift (fun _ _ _ _ => lv_null hx hb d_Ed_bestPlan_0) ?_
  refine gV.liftS (nL := 8) (lv' := [(5, va_rf none), (0, va_rf (some h0)), (1, .int p0), (2, .int p1), (3, .int p2), (4, .int p3)]) (fun _ _ _ _ => g_astore hx hb d_Ed_bestPlan_1 hl (by decide) rfl) (fun ls hl => ?_)
  refine gV.lift (fun _ _ _ _ => lv_iconst (v := 1) hx hb d_Ed_bestPlan_3 (by decide)) ?_
  refine gV.liftS (nL := 8) (lv' := [(6, .int 1), (5, va_rf none), (0, va_rf (some h0)), (1, .int p0), (2, .int p1), (3, .int p2), (4, .int p3)]) (fun _ _ _ _ => lv_istore hx hb d_Ed_bestPlan_4 hl (by decide) rfl) (fun ls hl => ?_)
  exact wL_Ed_bestPlan_6 Y  gF h0 p0 p1 p2 p3 none 1 S _ hden (lv_sub hl [2, 3, 4, 5, 6, 1, 0] rfl)
/-! PlanText$Edition.standbyRow(I)LPlanText$Standby; -/
abbrev y_Ed_standbyRow : MethodName := ⟨"PlanText$Edition", "standbyRow", "(I)LPlanText$Standby;"⟩
theorem d_Ed_standbyRow_0 : decode prog_2_method_4_code 0 = .ok (.iload_n 1, 1) := by decide +kernel
theorem d_Ed_standbyRow_1 : decode prog_2_method_4_code 1 = .ok (.ifCond .lt 20, 3) := by decide +kernel
theorem d_Ed_standbyRow_4 : decode prog_2_method_4_code 4 = .ok (.iload_n 1, 1) := by decide +kernel
theorem d_Ed_standbyRow_5 : decode prog_2_method_4_code 5 = .ok (.aload_n 0, 1) := by decide +kernel
theorem d_Ed_standbyRow_6 : decode prog_2_method_4_code 6 = .ok (.getfield 36, 3) := by decide +kernel
theorem d_Ed_standbyRow_9 : decode prog_2_method_4_code 9 = .ok (.if_icmp .ge 12, 3) := by decide +kernel
theorem d_Ed_standbyRow_12 : decode prog_2_method_4_code 12 = .ok (.aload_n 0, 1) := by decide +kernel
theorem d_Ed_standbyRow_13 : decode prog_2_method_4_code 13 = .ok (.getfield 25, 3) := by decide +kernel
theorem d_Ed_standbyRow_16 : decode prog_2_method_4_code 16 = .ok (.iload_n 1, 1) := by decide +kernel
theorem d_Ed_standbyRow_17 : decode prog_2_method_4_code 17 = .ok (.aaload, 1) := by decide +kernel
theorem d_Ed_standbyRow_18 : decode prog_2_method_4_code 18 = .ok (.goto 4, 3) := by decide +kernel
theorem d_Ed_standbyRow_21 : decode prog_2_method_4_code 21 = .ok (.aconst_null, 1) := by decide +kernel
theorem d_Ed_standbyRow_22 : decode prog_2_method_4_code 22 = .ok (.areturn, 1) := by decide +kernel
def B_Ed_standbyRow_22  (t0 : Option Nat) (S : gS) : Option ((Option Nat) × gS) := some (t0, S)
set_option maxRecDepth 100000 in
set_option maxHeartbeats 4000000 in
theorem w_Ed_standbyRow_22 {D : va_G} {cT : Nat → ClassId} {H0 : Heap} {l : Launch} {p : Program} {e : Env} {s : State} {m : MethodId} {args : Array Value} {below : List Frame} {meth : Method} {c : Code} {S0 : gS} {S' : gS} {r : Option Nat} (Y : gY D cT H0 p s m args meth c prog_2_method_4_code 2 "PlanText$Edition" 0 0 S0 (Option.some (Jvm.ClassFile.FieldType.object "PlanText$Standby")))  (t0 : Option Nat) (S : gS) (hden : B_Ed_standbyRow_22  t0 S = some (r, S')) {ls : Array Slot} (hl : lv_has ls 2 []) : gV D cT H0 p l e (gRm 0 0 S0) s m args below meth c (gQ D cT H0 below S0 S' (.inr (some (va_rf r))) s) S0 S (F0 m 22 ls [va_rf t0]) := by
  obtain ⟨X, hZ, hex, hr, hE⟩ := id Y
  have hx := X.1
  have hb := X.2.1
  unfold B_Ed_standbyRow_22 at hden
  obtain ⟨rfl, rfl⟩ := gpi hden
  exact g_aret X hr d_Ed_standbyRow_22
def B_Ed_standbyRow_21   (S : gS) : Option ((Option Nat) × gS) := B_Ed_standbyRow_22  none S
set_option maxRecDepth 100000 in
set_option maxHeartbeats 4000000 in
theorem w_Ed_standbyRow_21 {D : va_G} {cT : Nat → ClassId} {H0 : Heap} {l : Launch} {p : Program} {e : Env} {s : State} {m : MethodId} {args : Array Value} {below : List Frame} {meth : Method} {c : Code} {S0 : gS} {S' : gS} {r : Option Nat} (Y : gY D cT H0 p s m args meth c prog_2_method_4_code 2 "PlanText$Edition" 0 0 S0 (Option.some (Jvm.ClassFile.FieldType.object "PlanText$Standby")))   (S : gS) (hden : B_Ed_standbyRow_21   S = some (r, S')) {ls : Array Slot} (hl : lv_has ls 2 []) : gV D cT H0 p l e (gRm 0 0 S0) s m args below meth c (gQ D cT H0 below S0 S' (.inr (some (va_rf r))) s) S0 S (F0 m 21 ls []) := by
  obtain ⟨X, hZ, hex, hr, hE⟩ := id Y
  have hx := X.1
  have hb := X.2.1
  unfold B_Ed_standbyRow_21 at hden
  refine gV.lift (fun _ _ _ _ => lv_null hx hb d_Ed_standbyRow_21) ?_
  exact w_Ed_standbyRow_22 Y  none S hden (lv_sub hl [] rfl)
def D_Ed_standbyRow (h0 : Nat) (p0 : Int32) (S : gS) : Option ((Option Nat) × gS) := (if p0 < 0 then B_Ed_standbyRow_21  S else Option.bind (gI S h0 1 6) (fun v2 => (if v2 ≤ p0 then B_Ed_standbyRow_21  S else Option.bind (gRf S h0 1 3) (fun r4 => Option.bind r4 (fun a5 => Option.bind (gAR S a5 7 p0) (fun r6 => B_Ed_standbyRow_22  r6 S))))))
set_option maxRecDepth 100000 in
set_option maxHeartbeats 4000000 in
theorem c_Ed_standbyRow {D : va_G} {cT : Nat → ClassId} {H0 : Heap} {l : Launch} {S : gS} {S' : gS} {h0 : Nat} {p0 : Int32} {r : Option Nat} (hden : D_Ed_standbyRow h0 p0 S = some (r, S')) : gM D cT H0 l y_Ed_standbyRow (Cond.code y_Ed_standbyRow prog_2_method_4_code 2 (Option.some (Jvm.ClassFile.FieldType.object "PlanText$Standby"))) 0 0 [va_rf (some h0), .int p0] S S' (.inr (some (va_rf r))) := by
  refine gM.ofV (by decide) ?_
  intro p e s m args below meth c s₁ B hml ea X hZ hex hr hE
  subst ea
  have Y : gY D cT H0 p s m _ meth c prog_2_method_4_code 2 "PlanText$Edition" 0 0 S (Option.some (Jvm.ClassFile.FieldType.object "PlanText$Standby")) := ⟨X, hZ, hex, hr, hE⟩
  have hx := X.1
  have hb := X.2.1
  have hl := lv_entry ([va_rf (some h0), .int p0]) (n := 2) (Nat.le_of_ble_eq_true rfl)
  rw [lg_entry_eq]
  generalize (lg_sl ([va_rf (some h0), .int p0]) ++ List.replicate (2 - (lg_sl ([va_rf (some h0), .int p0])).length) Slot.unset).toArray = ls at hl ⊢
  have hl : lv_has ls 2 [(0, va_rf (some h0)), (1, .int p0)] := hl
  unfold D_Ed_standbyRow at hden
  refine gV.lift (fun _ _ _ _ => lv_iload_n hx hb d_Ed_standbyRow_0 rfl (lv_at hl 1 rfl)) ?_
  refine gV.lift2 (fun _ _ _ _ => lv_if_lt (tgt := 21) hx hb d_Ed_standbyRow_1 (by decide)) (fun hc1 => ?_) (fun hc1 => ?_)
  · replace hden := gip hc1 hden
    exact w_Ed_standbyRow_21 Y  S hden (lv_sub hl [] rfl)
  · replace hden := gin hc1 hden
    refine gV.lift (fun _ _ _ _ => lv_iload_n hx hb d_Ed_standbyRow_4 rfl (lv_at hl 1 rfl)) ?_
    refine gV.lift (fun _ _ _ _ => g_aload_n hx hb d_Ed_standbyRow_5 rfl (lv_at hl 0 rfl)) ?_
    replace hden := gb hden
    obtain ⟨v2, hv, hden⟩ := hden
    refine r_getI X cl_Ed (k := 6) hv (by decide) q_50 d_Ed_standbyRow_6 ?_
    refine gV.lift2 (fun _ _ _ _ => lv_icmp_ge (tgt := 21) hx hb d_Ed_standbyRow_9 (by decide)) (fun hc3 => ?_) (fun hc3 => ?_)
    · replace hden := gip hc3 hden
      exact w_Ed_standbyRow_21 Y  S hden (lv_sub hl [] rfl)
    · replace hden := gin hc3 hden
      refine gV.lift (fun _ _ _ _ => g_aload_n hx hb d_Ed_standbyRow_12 rfl (lv_at hl 0 rfl)) ?_
      replace hden := gb hden
      obtain ⟨r4, hv, hden⟩ := hden
      refine r_getR X cl_Ed (k := 3) hv (by decide) q_45 d_Ed_standbyRow_13 ?_
      refine gV.lift (fun _ _ _ _ => lv_iload_n hx hb d_Ed_standbyRow_16 rfl (lv_at hl 1 rfl)) ?_
      replace hden := gb hden
      obtain ⟨a5, rfl, hden⟩ := hden
      replace hden := gb hden
      obtain ⟨r6, hv, hden⟩ := hden
      refine r_aald X (t := 7) rfl hv d_Ed_standbyRow_17 ?_
      refine gV.lift (fun _ _ _ _ => lv_goto (tgt := 22) hx hb d_Ed_standbyRow_18 (by decide)) ?_
      exact w_Ed_standbyRow_22 Y  r6 S hden (lv_sub hl [] rfl)
/-! PlanText$Edition.standbyUnits(III)I -/
abbrev y_Ed_standbyUnits : MethodName := ⟨"PlanText$Edition", "standbyUnits", "(III)I"⟩
theorem d_Ed_standbyUnits_0 : decode prog_2_method_10_code 0 = .ok (.iconst 0, 1) := by decide +kernel
theorem d_Ed_standbyUnits_1 : decode prog_2_method_10_code 1 = .ok (.istore 4, 2) := by decide +kernel
theorem d_Ed_standbyUnits_3 : decode prog_2_method_10_code 3 = .ok (.iconst 0, 1) := by decide +kernel
theorem d_Ed_standbyUnits_4 : decode prog_2_method_10_code 4 = .ok (.istore 5, 2) := by decide +kernel
theorem d_Ed_standbyUnits_6 : decode prog_2_method_10_code 6 = .ok (.iload 5, 2) := by decide +kernel
theorem d_Ed_standbyUnits_8 : decode prog_2_method_10_code 8 = .ok (.aload_n 0, 1) := by decide +kernel
theorem d_Ed_standbyUnits_9 : decode prog_2_method_10_code 9 = .ok (.getfield 36, 3) := by decide +kernel
theorem d_Ed_standbyUnits_12 : decode prog_2_method_10_code 12 = .ok (.if_icmp .ge 43, 3) := by decide +kernel
theorem d_Ed_standbyUnits_15 : decode prog_2_method_10_code 15 = .ok (.aload_n 0, 1) := by decide +kernel
theorem d_Ed_standbyUnits_16 : decode prog_2_method_10_code 16 = .ok (.iload 5, 2) := by decide +kernel
theorem d_Ed_standbyUnits_18 : decode prog_2_method_10_code 18 = .ok (.invokevirtual 61, 3) := by decide +kernel
theorem d_Ed_standbyUnits_21 : decode prog_2_method_10_code 21 = .ok (.astore 6, 2) := by decide +kernel
theorem d_Ed_standbyUnits_23 : decode prog_2_method_10_code 23 = .ok (.aload 6, 2) := by decide +kernel
theorem d_Ed_standbyUnits_25 : decode prog_2_method_10_code 25 = .ok (.ifnull 24, 3) := by decide +kernel
theorem d_Ed_standbyUnits_28 : decode prog_2_method_10_code 28 = .ok (.aload 6, 2) := by decide +kernel
theorem d_Ed_standbyUnits_30 : decode prog_2_method_10_code 30 = .ok (.iload_n 1, 1) := by decide +kernel
theorem d_Ed_standbyUnits_31 : decode prog_2_method_10_code 31 = .ok (.iload_n 2, 1) := by decide +kernel
theorem d_Ed_standbyUnits_32 : decode prog_2_method_10_code 32 = .ok (.iload_n 3, 1) := by decide +kernel
theorem d_Ed_standbyUnits_33 : decode prog_2_method_10_code 33 = .ok (.invokevirtual 65, 3) := by decide +kernel
theorem d_Ed_standbyUnits_36 : decode prog_2_method_10_code 36 = .ok (.ifCond .eq 13, 3) := by decide +kernel
theorem d_Ed_standbyUnits_39 : decode prog_2_method_10_code 39 = .ok (.iload 4, 2) := by decide +kernel
theorem d_Ed_standbyUnits_41 : decode prog_2_method_10_code 41 = .ok (.aload 6, 2) := by decide +kernel
theorem d_Ed_standbyUnits_43 : decode prog_2_method_10_code 43 = .ok (.getfield 69, 3) := by decide +kernel
theorem d_Ed_standbyUnits_46 : decode prog_2_method_10_code 46 = .ok (.iadd, 1) := by decide +kernel
theorem d_Ed_standbyUnits_47 : decode prog_2_method_10_code 47 = .ok (.istore 4, 2) := by decide +kernel
theorem d_Ed_standbyUnits_49 : decode prog_2_method_10_code 49 = .ok (.iinc 5 1, 3) := by decide +kernel
theorem d_Ed_standbyUnits_52 : decode prog_2_method_10_code 52 = .ok (.goto (-46), 3) := by decide +kernel
theorem d_Ed_standbyUnits_55 : decode prog_2_method_10_code 55 = .ok (.iload 4, 2) := by decide +kernel
theorem d_Ed_standbyUnits_57 : decode prog_2_method_10_code 57 = .ok (.ireturn, 1) := by decide +kernel
def B_Ed_standbyUnits_49 (k6 : Nat → Int32 → Int32 → Int32 → Int32 → Int32 → gS → Option (Int32 × gS)) (x0 : Nat) (x1 : Int32) (x2 : Int32) (x3 : Int32) (x4 : Int32) (x5 : Int32) (S : gS) : Option (Int32 × gS) := k6 x0 x1 x2 x3 x4 (x5 + 1) S
set_option maxRecDepth 100000 in
set_option maxHeartbeats 4000000 in
theorem w_Ed_standbyUnits_49 {D : va_G} {cT : Nat → ClassId} {H0 : Heap} {l : Launch} {p : Program} {e : Env} {s : State} {m : MethodId} {args : Array Value} {below : List Frame} {meth : Method} {c : Code} {S0 : gS} {S' : gS} {r : Int32} (Y : gY D cT H0 p s m args meth c prog_2_method_10_code 7 "PlanText$Edition" 2 44 S0 (Option.some Jvm.ClassFile.FieldType.int)) {k6 : Nat → Int32 → Int32 → Int32 → Int32 → Int32 → gS → Option (Int32 × gS)} (hk6 : ∀ (x0 : Nat) (x1 : Int32) (x2 : Int32) (x3 : Int32) (x4 : Int32) (x5 : Int32) (S : gS) (ls : Array Slot), k6 x0 x1 x2 x3 x4 x5 S = some (r, S') → lv_has ls 7 [(0, va_rf (some x0)), (1, .int x1), (2, .int x2), (3, .int x3), (4, .int x4), (5, .int x5)] → gV D cT H0 p l e (gRm 2 44 S0) s m args below meth c (gQ D cT H0 below S0 S' (.inr (some (.int r))) s) S0 S (F0 m 6 ls [])) (x0 : Nat) (x1 : Int32) (x2 : Int32) (x3 : Int32) (x4 : Int32) (x5 : Int32) (S : gS) (hden : B_Ed_standbyUnits_49 k6 x0 x1 x2 x3 x4 x5 S = some (r, S')) {ls : Array Slot} (hl : lv_has ls 7 [(0, va_rf (some x0)), (1, .int x1), (2, .int x2), (3, .int x3), (4, .int x4), (5, .int x5)]) : gV D cT H0 p l e (gRm 2 44 S0) s m args below meth c (gQ D cT H0 below S0 S' (.inr (some (.int r))) s) S0 S (F0 m 49 ls []) := by
  obtain ⟨X, hZ, hex, hr, hE⟩ := id Y
  have hx := X.1
  have hb := X.2.1
  unfold B_Ed_standbyUnits_49 at hden
  refine gV.liftS (nL := 7) (lv' := [(5, .int (x5 + 1)), (0, va_rf (some x0)), (1, .int x1), (2, .int x2), (3, .int x3), (4, .int x4)]) (fun _ _ _ _ => lv_iinc (v := (x5 + 1)) hx hb d_Ed_standbyUnits_49 hl (k := 5) rfl rfl (by decide) rfl) (fun ls hl => ?_)
  refine gV.lift (fun _ _ _ _ => lv_goto (tgt := 6) hx hb d_Ed_standbyUnits_52 (by decide)) ?_
  exact hk6 x0 x1 x2 x3 x4 (x5 + 1) S _ hden (lv_sub hl [1, 2, 3, 4, 5, 0] rfl)
def B_Ed_standbyUnits_6 (k6 : Nat → Int32 → Int32 → Int32 → Int32 → Int32 → gS → Option (Int32 × gS)) (x0 : Nat) (x1 : Int32) (x2 : Int32) (x3 : Int32) (x4 : Int32) (x5 : Int32) (S : gS) : Option (Int32 × gS) := Option.bind (gI S x0 1 6) (fun v1 => (if v1 ≤ x5 then some (x4, S) else Option.bind (gOb S x0 1) (fun fs5 => gB2 (D_Ed_standbyRow x0 x5 S) (fun r4 S3 => gNul r4 (B_Ed_standbyUnits_49 k6 x0 x1 x2 x3 x4 x5 S3) (fun a6 => Option.bind (gOb S3 a6 8) (fun fs9 => gB2 (D_Sb_holds a6 x1 x2 x3 S3) (fun v8 S7 => (if v8 = 0 then B_Ed_standbyUnits_49 k6 x0 x1 x2 x3 x4 x5 S7 else Option.bind (gI S7 a6 8 2) (fun v11 => B_Ed_standbyUnits_49 k6 x0 x1 x2 x3 (x4 + v11) x5 S7)))))))))
set_option maxRecDepth 100000 in
set_option maxHeartbeats 4000000 in
theorem w_Ed_standbyUnits_6 {D : va_G} {cT : Nat → ClassId} {H0 : Heap} {l : Launch} {p : Program} {e : Env} {s : State} {m : MethodId} {args : Array Value} {below : List Frame} {meth : Method} {c : Code} {S0 : gS} {S' : gS} {r : Int32} (Y : gY D cT H0 p s m args meth c prog_2_method_10_code 7 "PlanText$Edition" 2 44 S0 (Option.some Jvm.ClassFile.FieldType.int)) {k6 : Nat → Int32 → Int32 → Int32 → Int32 → Int32 → gS → Option (Int32 × gS)} (hk6 : ∀ (x0 : Nat) (x1 : Int32) (x2 : Int32) (x3 : Int32) (x4 : Int32) (x5 : Int32) (S : gS) (ls : Array Slot), k6 x0 x1 x2 x3 x4 x5 S = some (r, S') → lv_has ls 7 [(0, va_rf (some x0)), (1, .int x1), (2, .int x2), (3, .int x3), (4, .int x4), (5, .int x5)] → gV D cT H0 p l e (gRm 2 44 S0) s m args below meth c (gQ D cT H0 below S0 S' (.inr (some (.int r))) s) S0 S (F0 m 6 ls [])) (x0 : Nat) (x1 : Int32) (x2 : Int32) (x3 : Int32) (x4 : Int32) (x5 : Int32) (S : gS) (hden : B_Ed_standbyUnits_6 k6 x0 x1 x2 x3 x4 x5 S = some (r, S')) {ls : Array Slot} (hl : lv_has ls 7 [(0, va_rf (some x0)), (1, .int x1), (2, .int x2), (3, .int x3), (4, .int x4), (5, .int x5)]) : gV D cT H0 p l e (gRm 2 44 S0) s m args below meth c (gQ D cT H0 below S0 S' (.inr (some (.int r))) s) S0 S (F0 m 6 ls []) := by
  obtain ⟨X, hZ, hex, hr, hE⟩ := id Y
  have hx := X.1
  have hb := X.2.1
  unfold B_Ed_standbyUnits_6 at hden
  refine gV.lift (fun _ _ _ _ => lv_iload hx hb d_Ed_standbyUnits_6 (lv_at hl 5 rfl)) ?_
  refine gV.lift (fun _ _ _ _ => g_aload_n hx hb d_Ed_standbyUnits_8 rfl (lv_at hl 0 rfl)) ?_
  replace hden := gb hden
  obtain ⟨v1, hv, hden⟩ := hden
  refine r_getI X cl_Ed (k := 6) hv (by decide) q_50 d_Ed_standbyUnits_9 ?_
  refine gV.lift2 (fun _ _ _ _ => lv_icmp_ge (tgt := 55) hx hb d_Ed_standbyUnits_12 (by decide)) (fun hc2 => ?_) (fun hc2 => ?_)
  · replace hden := gip hc2 hden
    refine gV.lift (fun _ _ _ _ => lv_iload hx hb d_Ed_standbyUnits_55 (lv_at hl 4 rfl)) ?_
    obtain ⟨rfl, rfl⟩ := gpi hden
    exact g_iret X hr d_Ed_standbyUnits_57
  · replace hden := gin hc2 hden
    refine gV.lift (fun _ _ _ _ => g_aload_n hx hb d_Ed_standbyUnits_15 rfl (lv_at hl 0 rfl)) ?_
    refine gV.lift (fun _ _ _ _ => lv_iload hx hb d_Ed_standbyUnits_16 (lv_at hl 5 rfl)) ?_
    replace hden := gb hden
    obtain ⟨fs5, ho, hden⟩ := hden
    replace hden := gb2 hden
    obtain ⟨r4, S3, hz, hden⟩ := hden
    refine g_callV (As := [.int x5]) (rest := []) X hZ (c_Ed_standbyRow hz) cl_Ed (gOb_spec ho) q_614 q_2 q_611 q_612 q_613 ⟨by decide, by decide, by show _ = some 1; decide +kernel⟩ ⟨by decide, by decide⟩ hl.1 (Nat.le_of_ble_eq_true rfl) d_Ed_standbyUnits_18 rfl rfl ?_
    refine gV.liftS (nL := 7) (lv' := [(6, va_rf r4), (0, va_rf (some x0)), (1, .int x1), (2, .int x2), (3, .int x3), (4, .int x4), (5, .int x5)]) (fun _ _ _ _ => g_astore hx hb d_Ed_standbyUnits_21 hl (by decide) rfl) (fun ls hl => ?_)
    refine gV.lift (fun _ _ _ _ => g_aload hx hb d_Ed_standbyUnits_23 (lv_at hl 0 rfl)) ?_
    rcases r4 with _ | a6
    · replace hden := gN0 hden
      refine gV.lift (fun _ _ _ _ => lv_ifnullN (tgt := 49) hx hb d_Ed_standbyUnits_25 (by decide)) ?_
      exact w_Ed_standbyUnits_49 Y hk6 x0 x1 x2 x3 x4 x5 S3 hden (lv_sub hl [1, 2, 3, 4, 5, 6] rfl)
    · replace hden := gN1 hden
      refine gV.lift (fun _ _ _ _ => lv_ifnull hx hb d_Ed_standbyUnits_25) ?_
      refine gV.lift (fun _ _ _ _ => g_aload hx hb d_Ed_standbyUnits_28 (lv_at hl 0 rfl)) ?_
      refine gV.lift (fun _ _ _ _ => lv_iload_n hx hb d_Ed_standbyUnits_30 rfl (lv_at hl 2 rfl)) ?_
      refine gV.lift (fun _ _ _ _ => lv_iload_n hx hb d_Ed_standbyUnits_31 rfl (lv_at hl 3 rfl)) ?_
      refine gV.lift (fun _ _ _ _ => lv_iload_n hx hb d_Ed_standbyUnits_32 rfl (lv_at hl 4 rfl)) ?_
      replace hden := gb hden
      obtain ⟨fs9, ho, hden⟩ := hden
      replace hden := gb2 hden
      obtain ⟨v8, S7, hz, hden⟩ := hden
      refine g_callV (As := [.int x1, .int x2, .int x3]) (rest := []) X hZ (c_Sb_holds hz) cl_Sb (gOb_spec ho) q_618 q_17 q_615 q_616 q_617 ⟨by decide, by decide, by show _ = some 3; decide +kernel⟩ ⟨by decide, by decide⟩ hl.1 (Nat.le_of_ble_eq_true rfl) d_Ed_standbyUnits_33 rfl rfl ?_
      refine gV.lift2 (fun _ _ _ _ => lv_if_eq (tgt := 49) hx hb d_Ed_standbyUnits_36 (by decide)) (fun hc10 => ?_) (fun hc10 => ?_)
      · replace hden := gip hc10 hden
        exact w_Ed_standbyUnits_49 Y hk6 x0 x1 x2 x3 x4 x5 S7 hden (lv_sub hl [1, 2, 3, 4, 5, 6] rfl)
      · replace hden := gin hc10 hden
        refine gV.lift (fun _ _ _ _ => lv_iload hx hb d_Ed_standbyUnits_39 (lv_at hl 5 rfl)) ?_
        refine gV.lift (fun _ _ _ _ => g_aload hx hb d_Ed_standbyUnits_41 (lv_at hl 0 rfl)) ?_
        replace hden := gb hden
        obtain ⟨v11, hv, hden⟩ := hden
        refine r_getI X cl_Sb (k := 2) hv (by decide) q_488 d_Ed_standbyUnits_43 ?_
        refine gV.lift (fun _ _ _ _ => lv_iadd hx hb d_Ed_standbyUnits_46) ?_
        refine gV.liftS (nL := 7) (lv' := [(4, .int (x4 + v11)), (6, va_rf (some a6)), (0, va_rf (some x0)), (1, .int x1), (2, .int x2), (3, .int x3), (5, .int x5)]) (fun _ _ _ _ => lv_istore hx hb d_Ed_standbyUnits_47 hl (by decide) rfl) (fun ls hl => ?_)
        exact w_Ed_standbyUnits_49 Y hk6 x0 x1 x2 x3 (x4 + v11) x5 S7 hden (lv_sub hl [2, 3, 4, 5, 0, 6] rfl)
def L_Ed_standbyUnits_6  : Nat → Nat → Int32 → Int32 → Int32 → Int32 → Int32 → gS → Option (Int32 × gS)
  | 0 => fun _ _ _ _ _ _ _ => none
  | n + 1 => fun x0 x1 x2 x3 x4 x5 S => B_Ed_standbyUnits_6  (L_Ed_standbyUnits_6  n) x0 x1 x2 x3 x4 x5 S
theorem wL_Ed_standbyUnits_6 {D : va_G} {cT : Nat → ClassId} {H0 : Heap} {l : Launch} {p : Program} {e : Env} {s : State} {m : MethodId} {args : Array Value} {below : List Frame} {meth : Method} {c : Code} {S0 : gS} {S' : gS} {r : Int32} (Y : gY D cT H0 p s m args meth c prog_2_method_10_code 7 "PlanText$Edition" 2 44 S0 (Option.some Jvm.ClassFile.FieldType.int))  : ∀ (n : Nat) (x0 : Nat) (x1 : Int32) (x2 : Int32) (x3 : Int32) (x4 : Int32) (x5 : Int32) (S : gS) (ls : Array Slot), L_Ed_standbyUnits_6  n x0 x1 x2 x3 x4 x5 S = some (r, S') → lv_has ls 7 [(0, va_rf (some x0)), (1, .int x1), (2, .int x2), (3, .int x3), (4, .int x4), (5, .int x5)] → gV D cT H0 p l e (gRm 2 44 S0) s m args below meth c (gQ D cT H0 below S0 S' (.inr (some (.int r))) s) S0 S (F0 m 6 ls []) := by
  intro n
  induction n with
  | zero => intro x0 x1 x2 x3 x4 x5 S ls h hl; cases h
  | succ n ih => intro x0 x1 x2 x3 x4 x5 S ls h hl; exact w_Ed_standbyUnits_6 Y ih x0 x1 x2 x3 x4 x5 S h hl
def D_Ed_standbyUnits (h0 : Nat) (p0 : Int32) (p1 : Int32) (p2 : Int32) (S : gS) : Option (Int32 × gS) := L_Ed_standbyUnits_6  gF h0 p0 p1 p2 0 0 S
set_option maxRecDepth 100000 in
set_option maxHeartbeats 4000000 in
theorem c_Ed_standbyUnits {D : va_G} {cT : Nat → ClassId} {H0 : Heap} {l : Launch} {S : gS} {S' : gS} {h0 : Nat} {p0 : Int32} {p1 : Int32} {p2 : Int32} {r : Int32} (hden : D_Ed_standbyUnits h0 p0 p1 p2 S = some (r, S')) : gM D cT H0 l y_Ed_standbyUnits (Cond.code y_Ed_standbyUnits prog_2_method_10_code 7 (Option.some Jvm.ClassFile.FieldType.int)) 2 44 [va_rf (some h0), .int p0, .int p1, .int p2] S S' (.inr (some (.int r))) := by
  refine gM.ofV (by decide) ?_
  intro p e s m args below meth c s₁ B hml ea X hZ hex hr hE
  subst ea
  have Y : gY D cT H0 p s m _ meth c prog_2_method_10_code 7 "PlanText$Edition" 2 44 S (Option.some Jvm.ClassFile.FieldType.int) := ⟨X, hZ, hex, hr, hE⟩
  have hx := X.1
  have hb := X.2.1
  have hl := lv_entry ([va_rf (some h0), .int p0, .int p1, .int p2]) (n := 7) (Nat.le_of_ble_eq_true rfl)
  rw [lg_entry_eq]
  generalize (lg_sl ([va_rf (some h0), .int p0, .int p1, .int p2]) ++ List.replicate (7 - (lg_sl ([va_rf (some h0), .int p0, .int p1, .int p2])).length) Slot.unset).toArray = ls at hl ⊢
  have hl : lv_has ls 7 [(0, va_rf (some h0)), (1, .int p0), (2, .int p1), (3, .int p2)] := hl
  unfold D_Ed_standbyUnits at hden
  refine gV.lift (fun _ _ _ _ => lv_iconst (v := 0) hx hb d_Ed_standbyUnits_0 (by decide)) ?_
  refine gV.liftS (nL := 7) (lv' := [(4, .int 0), (0, va_rf (some h0)), (1, .int p0), (2, .int p1), (3, .int p2)]) (fun _ _ _ _ => lv_istore hx hb d_Ed_standbyUnits_1 hl (by decide) rfl) (fun ls hl => ?_)
  refine gV.lift (fun _ _ _ _ => lv_iconst (v := 0) hx hb d_Ed_standbyUnits_3 (by decide)) ?_
  refine gV.liftS (nL := 7) (lv' := [(5, .int 0), (4, .int 0), (0, va_rf (some h0)), (1, .int p0), (2, .int p1), (3, .int p2)]) (fun _ _ _ _ => lv_istore hx hb d_Ed_standbyUnits_4 hl (by decide) rfl) (fun ls hl => ?_)
  exact wL_Ed_standbyUnits_6 Y  gF h0 p0 p1 p2 0 0 S _ hden (lv_sub hl [2, 3, 4, 5, 1, 0] rfl)
/-! PlanText$Edition.clashingPair(I)I -/
abbrev y_Ed_clashingPair : MethodName := ⟨"PlanText$Edition", "clashingPair", "(I)I"⟩
theorem d_Ed_clashingPair_0 : decode prog_2_method_11_code 0 = .ok (.iload_n 1, 1) := by decide +kernel
theorem d_Ed_clashingPair_1 : decode prog_2_method_11_code 1 = .ok (.istore_n 2, 1) := by decide +kernel
theorem d_Ed_clashingPair_2 : decode prog_2_method_11_code 2 = .ok (.iconst 1, 1) := by decide +kernel
theorem d_Ed_clashingPair_3 : decode prog_2_method_11_code 3 = .ok (.istore_n 3, 1) := by decide +kernel
theorem d_Ed_clashingPair_4 : decode prog_2_method_11_code 4 = .ok (.iload_n 3, 1) := by decide +kernel
theorem d_Ed_clashingPair_5 : decode prog_2_method_11_code 5 = .ok (.bipush 40, 2) := by decide +kernel
theorem d_Ed_clashingPair_7 : decode prog_2_method_11_code 7 = .ok (.if_icmp .gt 77, 3) := by decide +kernel
theorem d_Ed_clashingPair_10 : decode prog_2_method_11_code 10 = .ok (.aload_n 0, 1) := by decide +kernel
theorem d_Ed_clashingPair_11 : decode prog_2_method_11_code 11 = .ok (.iload_n 3, 1) := by decide +kernel
theorem d_Ed_clashingPair_12 : decode prog_2_method_11_code 12 = .ok (.invokevirtual 49, 3) := by decide +kernel
theorem d_Ed_clashingPair_15 : decode prog_2_method_11_code 15 = .ok (.astore 4, 2) := by decide +kernel
theorem d_Ed_clashingPair_17 : decode prog_2_method_11_code 17 = .ok (.iload_n 3, 1) := by decide +kernel
theorem d_Ed_clashingPair_18 : decode prog_2_method_11_code 18 = .ok (.iconst 1, 1) := by decide +kernel
theorem d_Ed_clashingPair_19 : decode prog_2_method_11_code 19 = .ok (.iadd, 1) := by decide +kernel
theorem d_Ed_clashingPair_20 : decode prog_2_method_11_code 20 = .ok (.istore 5, 2) := by decide +kernel
theorem d_Ed_clashingPair_22 : decode prog_2_method_11_code 22 = .ok (.aload 4, 2) := by decide +kernel
theorem d_Ed_clashingPair_24 : decode prog_2_method_11_code 24 = .ok (.ifnull 54, 3) := by decide +kernel
theorem d_Ed_clashingPair_27 : decode prog_2_method_11_code 27 = .ok (.iload 5, 2) := by decide +kernel
theorem d_Ed_clashingPair_29 : decode prog_2_method_11_code 29 = .ok (.bipush 40, 2) := by decide +kernel
theorem d_Ed_clashingPair_31 : decode prog_2_method_11_code 31 = .ok (.if_icmp .gt 47, 3) := by decide +kernel
theorem d_Ed_clashingPair_34 : decode prog_2_method_11_code 34 = .ok (.aload_n 0, 1) := by decide +kernel
theorem d_Ed_clashingPair_35 : decode prog_2_method_11_code 35 = .ok (.iload 5, 2) := by decide +kernel
theorem d_Ed_clashingPair_37 : decode prog_2_method_11_code 37 = .ok (.invokevirtual 49, 3) := by decide +kernel
theorem d_Ed_clashingPair_40 : decode prog_2_method_11_code 40 = .ok (.astore 6, 2) := by decide +kernel
theorem d_Ed_clashingPair_42 : decode prog_2_method_11_code 42 = .ok (.aload 6, 2) := by decide +kernel
theorem d_Ed_clashingPair_44 : decode prog_2_method_11_code 44 = .ok (.ifnull 28, 3) := by decide +kernel
theorem d_Ed_clashingPair_47 : decode prog_2_method_11_code 47 = .ok (.aload 4, 2) := by decide +kernel
theorem d_Ed_clashingPair_49 : decode prog_2_method_11_code 49 = .ok (.aload 6, 2) := by decide +kernel
theorem d_Ed_clashingPair_51 : decode prog_2_method_11_code 51 = .ok (.invokevirtual 72, 3) := by decide +kernel
theorem d_Ed_clashingPair_54 : decode prog_2_method_11_code 54 = .ok (.ifCond .eq 18, 3) := by decide +kernel
theorem d_Ed_clashingPair_57 : decode prog_2_method_11_code 57 = .ok (.iload_n 2, 1) := by decide +kernel
theorem d_Ed_clashingPair_58 : decode prog_2_method_11_code 58 = .ok (.ifCond .ne 11, 3) := by decide +kernel
theorem d_Ed_clashingPair_61 : decode prog_2_method_11_code 61 = .ok (.bipush 100, 2) := by decide +kernel
theorem d_Ed_clashingPair_63 : decode prog_2_method_11_code 63 = .ok (.iload_n 3, 1) := by decide +kernel
theorem d_Ed_clashingPair_64 : decode prog_2_method_11_code 64 = .ok (.imul, 1) := by decide +kernel
theorem d_Ed_clashingPair_65 : decode prog_2_method_11_code 65 = .ok (.iload 5, 2) := by decide +kernel
theorem d_Ed_clashingPair_67 : decode prog_2_method_11_code 67 = .ok (.iadd, 1) := by decide +kernel
theorem d_Ed_clashingPair_68 : decode prog_2_method_11_code 68 = .ok (.ireturn, 1) := by decide +kernel
theorem d_Ed_clashingPair_69 : decode prog_2_method_11_code 69 = .ok (.iinc 2 (-1), 3) := by decide +kernel
theorem d_Ed_clashingPair_72 : decode prog_2_method_11_code 72 = .ok (.iinc 5 1, 3) := by decide +kernel
theorem d_Ed_clashingPair_75 : decode prog_2_method_11_code 75 = .ok (.goto (-53), 3) := by decide +kernel
theorem d_Ed_clashingPair_78 : decode prog_2_method_11_code 78 = .ok (.iinc 3 1, 3) := by decide +kernel
theorem d_Ed_clashingPair_81 : decode prog_2_method_11_code 81 = .ok (.goto (-77), 3) := by decide +kernel
theorem d_Ed_clashingPair_84 : decode prog_2_method_11_code 84 = .ok (.iconst (-1), 1) := by decide +kernel
theorem d_Ed_clashingPair_85 : decode prog_2_method_11_code 85 = .ok (.ireturn, 1) := by decide +kernel
def B_Ed_clashingPair_78 (k4 : Nat → Int32 → Int32 → gS → Option (Int32 × gS)) (x0 : Nat) (x2 : Int32) (x3 : Int32) (S : gS) : Option (Int32 × gS) := k4 x0 x2 (x3 + 1) S
set_option maxRecDepth 100000 in
set_option maxHeartbeats 4000000 in
theorem w_Ed_clashingPair_78 {D : va_G} {cT : Nat → ClassId} {H0 : Heap} {l : Launch} {p : Program} {e : Env} {s : State} {m : MethodId} {args : Array Value} {below : List Frame} {meth : Method} {c : Code} {S0 : gS} {S' : gS} {r : Int32} (Y : gY D cT H0 p s m args meth c prog_2_method_11_code 7 "PlanText$Edition" 3 62 S0 (Option.some Jvm.ClassFile.FieldType.int)) {k4 : Nat → Int32 → Int32 → gS → Option (Int32 × gS)} (hk4 : ∀ (x0 : Nat) (x2 : Int32) (x3 : Int32) (S : gS) (ls : Array Slot), k4 x0 x2 x3 S = some (r, S') → lv_has ls 7 [(0, va_rf (some x0)), (2, .int x2), (3, .int x3)] → gV D cT H0 p l e (gRm 3 62 S0) s m args below meth c (gQ D cT H0 below S0 S' (.inr (some (.int r))) s) S0 S (F0 m 4 ls [])) (x0 : Nat) (x2 : Int32) (x3 : Int32) (S : gS) (hden : B_Ed_clashingPair_78 k4 x0 x2 x3 S = some (r, S')) {ls : Array Slot} (hl : lv_has ls 7 [(0, va_rf (some x0)), (2, .int x2), (3, .int x3)]) : gV D cT H0 p l e (gRm 3 62 S0) s m args below meth c (gQ D cT H0 below S0 S' (.inr (some (.int r))) s) S0 S (F0 m 78 ls []) := by
  obtain ⟨X, hZ, hex, hr, hE⟩ := id Y
  have hx := X.1
  have hb := X.2.1
  unfold B_Ed_clashingPair_78 at hden
  refine gV.liftS (nL := 7) (lv' := [(3, .int (x3 + 1)), (0, va_rf (some x0)), (2, .int x2)]) (fun _ _ _ _ => lv_iinc (v := (x3 + 1)) hx hb d_Ed_clashingPair_78 hl (k := 2) rfl rfl (by decide) rfl) (fun ls hl => ?_)
  refine gV.lift (fun _ _ _ _ => lv_goto (tgt := 4) hx hb d_Ed_clashingPair_81 (by decide)) ?_
  exact hk4 x0 x2 (x3 + 1) S _ hden (lv_sub hl [1, 2, 0] rfl)
def B_Ed_clashingPair_72 (k4 : Nat → Int32 → Int32 → gS → Option (Int32 × gS)) (k22 : Nat → Int32 → Int32 → Option Nat → Int32 → gS → Option (Int32 × gS)) (x0 : Nat) (x2 : Int32) (x3 : Int32) (x4 : Option Nat) (x5 : Int32) (S : gS) : Option (Int32 × gS) := k22 x0 x2 x3 x4 (x5 + 1) S
set_option maxRecDepth 100000 in
set_option maxHeartbeats 4000000 in
theorem w_Ed_clashingPair_72 {D : va_G} {cT : Nat → ClassId} {H0 : Heap} {l : Launch} {p : Program} {e : Env} {s : State} {m : MethodId} {args : Array Value} {below : List Frame} {meth : Method} {c : Code} {S0 : gS} {S' : gS} {r : Int32} (Y : gY D cT H0 p s m args meth c prog_2_method_11_code 7 "PlanText$Edition" 3 62 S0 (Option.some Jvm.ClassFile.FieldType.int)) {k4 : Nat → Int32 → Int32 → gS → Option (Int32 × gS)} {k22 : Nat → Int32 → Int32 → Option Nat → Int32 → gS → Option (Int32 × gS)} (hk4 : ∀ (x0 : Nat) (x2 : Int32) (x3 : Int32) (S : gS) (ls : Array Slot), k4 x0 x2 x3 S = some (r, S') → lv_has ls 7 [(0, va_rf (some x0)), (2, .int x2), (3, .int x3)] → gV D cT H0 p l e (gRm 3 62 S0) s m args below meth c (gQ D cT H0 below S0 S' (.inr (some (.int r))) s) S0 S (F0 m 4 ls [])) (hk22 : ∀ (x0 : Nat) (x2 : Int32) (x3 : Int32) (x4 : Option Nat) (x5 : Int32) (S : gS) (ls : Array Slot), k22 x0 x2 x3 x4 x5 S = some (r, S') → lv_has ls 7 [(0, va_rf (some x0)), (2, .int x2), (3, .int x3), (4, va_rf x4), (5, .int x5)] → gV D cT H0 p l e (gRm 3 62 S0) s m args below meth c (gQ D cT H0 below S0 S' (.inr (some (.int r))) s) S0 S (F0 m 22 ls [])) (x0 : Nat) (x2 : Int32) (x3 : Int32) (x4 : Option Nat) (x5 : Int32) (S : gS) (hden : B_Ed_clashingPair_72 k4 k22 x0 x2 x3 x4 x5 S = some (r, S')) {ls : Array Slot} (hl : lv_has ls 7 [(0, va_rf (some x0)), (2, .int x2), (3, .int x3), (4, va_rf x4), (5, .int x5)]) : gV D cT H0 p l e (gRm 3 62 S0) s m args below meth c (gQ D cT H0 below S0 S' (.inr (some (.int r))) s) S0 S (F0 m 72 ls []) := by
  obtain ⟨X, hZ, hex, hr, hE⟩ := id Y
  have hx := X.1
  have hb := X.2.1
  unfold B_Ed_clashingPair_72 at hden
  refine gV.liftS (nL := 7) (lv' := [(5, .int (x5 + 1)), (0, va_rf (some x0)), (2, .int x2), (3, .int x3), (4, va_rf x4)]) (fun _ _ _ _ => lv_iinc (v := (x5 + 1)) hx hb d_Ed_clashingPair_72 hl (k := 4) rfl rfl (by decide) (by cases x4 <;> rfl)) (fun ls hl => ?_)
  refine gV.lift (fun _ _ _ _ => lv_goto (tgt := 22) hx hb d_Ed_clashingPair_75 (by decide)) ?_
  exact hk22 x0 x2 x3 x4 (x5 + 1) S _ hden (lv_sub hl [1, 2, 3, 4, 0] rfl)
def B_Ed_clashingPair_22 (k4 : Nat → Int32 → Int32 → gS → Option (Int32 × gS)) (k22 : Nat → Int32 → Int32 → Option Nat → Int32 → gS → Option (Int32 × gS)) (x0 : Nat) (x2 : Int32) (x3 : Int32) (x4 : Option Nat) (x5 : Int32) (S : gS) : Option (Int32 × gS) := gNul x4 (B_Ed_clashingPair_78 k4 x0 x2 x3 S) (fun a1 => (if 40 < x5 then B_Ed_clashingPair_78 k4 x0 x2 x3 S else Option.bind (gOb S x0 1) (fun fs5 => gB2 (D_Ed_planNumbered x0 x5 S) (fun r4 S3 => gNul r4 (B_Ed_clashingPair_72 k4 k22 x0 x2 x3 (some a1) x5 S3) (fun a6 => Option.bind (gOb S3 a1 5) (fun fs9 => gB2 (D_Pl_clashesWith a1 (some a6) S3) (fun v8 S7 => (if v8 = 0 then B_Ed_clashingPair_72 k4 k22 x0 x2 x3 (some a1) x5 S7 else (if x2 = 0 then some (((100 * x3) + x5), S7) else B_Ed_clashingPair_72 k4 k22 x0 (x2 + (-1)) x3 (some a1) x5 S7)))))))))
set_option maxRecDepth 100000 in
set_option maxHeartbeats 4000000 in
theorem w_Ed_clashingPair_22 {D : va_G} {cT : Nat → ClassId} {H0 : Heap} {l : Launch} {p : Program} {e : Env} {s : State} {m : MethodId} {args : Array Value} {below : List Frame} {meth : Method} {c : Code} {S0 : gS} {S' : gS} {r : Int32} (Y : gY D cT H0 p s m args meth c prog_2_method_11_code 7 "PlanText$Edition" 3 62 S0 (Option.some Jvm.ClassFile.FieldType.int)) {k4 : Nat → Int32 → Int32 → gS → Option (Int32 × gS)} {k22 : Nat → Int32 → Int32 → Option Nat → Int32 → gS → Option (Int32 × gS)} (hk4 : ∀ (x0 : Nat) (x2 : Int32) (x3 : Int32) (S : gS) (ls : Array Slot), k4 x0 x2 x3 S = some (r, S') → lv_has ls 7 [(0, va_rf (some x0)), (2, .int x2), (3, .int x3)] → gV D cT H0 p l e (gRm 3 62 S0) s m args below meth c (gQ D cT H0 below S0 S' (.inr (some (.int r))) s) S0 S (F0 m 4 ls [])) (hk22 : ∀ (x0 : Nat) (x2 : Int32) (x3 : Int32) (x4 : Option Nat) (x5 : Int32) (S : gS) (ls : Array Slot), k22 x0 x2 x3 x4 x5 S = some (r, S') → lv_has ls 7 [(0, va_rf (some x0)), (2, .int x2), (3, .int x3), (4, va_rf x4), (5, .int x5)] → gV D cT H0 p l e (gRm 3 62 S0) s m args below meth c (gQ D cT H0 below S0 S' (.inr (some (.int r))) s) S0 S (F0 m 22 ls [])) (x0 : Nat) (x2 : Int32) (x3 : Int32) (x4 : Option Nat) (x5 : Int32) (S : gS) (hden : B_Ed_clashingPair_22 k4 k22 x0 x2 x3 x4 x5 S = some (r, S')) {ls : Array Slot} (hl : lv_has ls 7 [(0, va_rf (some x0)), (2, .int x2), (3, .int x3), (4, va_rf x4), (5, .int x5)]) : gV D cT H0 p l e (gRm 3 62 S0) s m args below meth c (gQ D cT H0 below S0 S' (.inr (some (.int r))) s) S0 S (F0 m 22 ls []) := by
  obtain ⟨X, hZ, hex, hr, hE⟩ := id Y
  have hx := X.1
  have hb := X.2.1
  unfold B_Ed_clashingPair_22 at hden
  refine gV.lift (fun _ _ _ _ => g_aload hx hb d_Ed_clashingPair_22 (lv_at hl 3 rfl)) ?_
  rcases x4 with _ | a1
  · replace hden := gN0 hden
    refine gV.lift (fun _ _ _ _ => lv_ifnullN (tgt := 78) hx hb d_Ed_clashingPair_24 (by decide)) ?_
    exact w_Ed_clashingPair_78 Y hk4 x0 x2 x3 S hden (lv_sub hl [0, 1, 2] rfl)
  · replace hden := gN1 hden
    refine gV.lift (fun _ _ _ _ => lv_ifnull hx hb d_Ed_clashingPair_24) ?_
    refine gV.lift (fun _ _ _ _ => lv_iload hx hb d_Ed_clashingPair_27 (lv_at hl 4 rfl)) ?_
    refine gV.lift (fun _ _ _ _ => lv_bipush (v := 40) hx hb d_Ed_clashingPair_29 (by decide)) ?_
    refine gV.lift2 (fun _ _ _ _ => lv_icmp_gt (tgt := 78) hx hb d_Ed_clashingPair_31 (by decide)) (fun hc2 => ?_) (fun hc2 => ?_)
    · replace hden := gip hc2 hden
      exact w_Ed_clashingPair_78 Y hk4 x0 x2 x3 S hden (lv_sub hl [0, 1, 2] rfl)
    · replace hden := gin hc2 hden
      refine gV.lift (fun _ _ _ _ => g_aload_n hx hb d_Ed_clashingPair_34 rfl (lv_at hl 0 rfl)) ?_
      refine gV.lift (fun _ _ _ _ => lv_iload hx hb d_Ed_clashingPair_35 (lv_at hl 4 rfl)) ?_
      replace hden := gb hden
      obtain ⟨fs5, ho, hden⟩ := hden
      replace hden := gb2 hden
      obtain ⟨r4, S3, hz, hden⟩ := hden
      refine g_callV (As := [.int x5]) (rest := []) X hZ (c_Ed_planNumbered hz) cl_Ed (gOb_spec ho) q_303 q_2 q_565 q_301 q_302 ⟨by decide, by decide, by show _ = some 1; decide +kernel⟩ ⟨by decide, by decide⟩ hl.1 (Nat.le_of_ble_eq_true rfl) d_Ed_clashingPair_37 rfl rfl ?_
      refine gV.liftS (nL := 7) (lv' := [(6, va_rf r4), (0, va_rf (some x0)), (2, .int x2), (3, .int x3), (4, va_rf (some a1)), (5, .int x5)]) (fun _ _ _ _ => g_astore hx hb d_Ed_clashingPair_40 hl (by decide) rfl) (fun ls hl => ?_)
      refine gV.lift (fun _ _ _ _ => g_aload hx hb d_Ed_clashingPair_42 (lv_at hl 0 rfl)) ?_
      rcases r4 with _ | a6
      · replace hden := gN0 hden
        refine gV.lift (fun _ _ _ _ => lv_ifnullN (tgt := 72) hx hb d_Ed_clashingPair_44 (by decide)) ?_
        exact w_Ed_clashingPair_72 Y hk4 hk22 x0 x2 x3 (some a1) x5 S3 hden (lv_sub hl [1, 2, 3, 4, 5] rfl)
      · replace hden := gN1 hden
        refine gV.lift (fun _ _ _ _ => lv_ifnull hx hb d_Ed_clashingPair_44) ?_
        refine gV.lift (fun _ _ _ _ => g_aload hx hb d_Ed_clashingPair_47 (lv_at hl 4 rfl)) ?_
        refine gV.lift (fun _ _ _ _ => g_aload hx hb d_Ed_clashingPair_49 (lv_at hl 0 rfl)) ?_
        replace hden := gb hden
        obtain ⟨fs9, ho, hden⟩ := hden
        replace hden := gb2 hden
        obtain ⟨v8, S7, hz, hden⟩ := hden
        refine g_callV (As := [va_rf (some a6)]) (rest := []) X hZ (c_Pl_clashesWith hz) cl_Pl (gOb_spec ho) q_638 q_15 q_635 q_636 q_637 ⟨by decide, by decide, by show _ = some 1; decide +kernel⟩ ⟨by decide, by decide⟩ hl.1 (Nat.le_of_ble_eq_true rfl) d_Ed_clashingPair_51 rfl rfl ?_
        refine gV.lift2 (fun _ _ _ _ => lv_if_eq (tgt := 72) hx hb d_Ed_clashingPair_54 (by decide)) (fun hc10 => ?_) (fun hc10 => ?_)
        · replace hden := gip hc10 hden
          exact w_Ed_clashingPair_72 Y hk4 hk22 x0 x2 x3 (some a1) x5 S7 hden (lv_sub hl [1, 2, 3, 4, 5] rfl)
        · replace hden := gin hc10 hden
          refine gV.lift (fun _ _ _ _ => lv_iload_n hx hb d_Ed_clashingPair_57 rfl (lv_at hl 2 rfl)) ?_
          refine gV.lift2 (fun _ _ _ _ => lv_if_ne (tgt := 69) hx hb d_Ed_clashingPair_58 (by decide)) (fun hc11 => ?_) (fun hc11 => ?_)
          · replace hden := gin hc11 hden
            refine gV.liftS (nL := 7) (lv' := [(2, .int (x2 + (-1))), (6, va_rf (some a6)), (0, va_rf (some x0)), (3, .int x3), (4, va_rf (some a1)), (5, .int x5)]) (fun _ _ _ _ => lv_iinc (v := (x2 + (-1))) hx hb d_Ed_clashingPair_69 hl (k := 2) rfl rfl (by decide) rfl) (fun ls hl => ?_)
            exact w_Ed_clashingPair_72 Y hk4 hk22 x0 (x2 + (-1)) x3 (some a1) x5 S7 hden (lv_sub hl [2, 0, 3, 4, 5] rfl)
          · replace hden := gip hc11 hden
            refine gV.lift (fun _ _ _ _ => lv_bipush (v := 100) hx hb d_Ed_clashingPair_61 (by decide)) ?_
            refine gV.lift (fun _ _ _ _ => lv_iload_n hx hb d_Ed_clashingPair_63 rfl (lv_at hl 3 rfl)) ?_
            refine gV.lift (fun _ _ _ _ => lv_imul hx hb d_Ed_clashingPair_64) ?_
            refine gV.lift (fun _ _ _ _ => lv_iload hx hb d_Ed_clashingPair_65 (lv_at hl 5 rfl)) ?_
            refine gV.lift (fun _ _ _ _ => lv_iadd hx hb d_Ed_clashingPair_67) ?_
            obtain ⟨rfl, rfl⟩ := gpi hden
            exact g_iret X hr d_Ed_clashingPair_68
def L_Ed_clashingPair_22 (k4 : Nat → Int32 → Int32 → gS → Option (Int32 × gS)) : Nat → Nat → Int32 → Int32 → Option Nat → Int32 → gS → Option (Int32 × gS)
  | 0 => fun _ _ _ _ _ _ => none
  | n + 1 => fun x0 x2 x3 x4 x5 S => B_Ed_clashingPair_22 k4 (L_Ed_clashingPair_22 k4 n) x0 x2 x3 x4 x5 S
theorem wL_Ed_clashingPair_22 {D : va_G} {cT : Nat → ClassId} {H0 : Heap} {l : Launch} {p : Program} {e : Env} {s : State} {m : MethodId} {args : Array Value} {below : List Frame} {meth : Method} {c : Code} {S0 : gS} {S' : gS} {r : Int32} (Y : gY D cT H0 p s m args meth c prog_2_method_11_code 7 "PlanText$Edition" 3 62 S0 (Option.some Jvm.ClassFile.FieldType.int)) {k4 : Nat → Int32 → Int32 → gS → Option (Int32 × gS)} (hk4 : ∀ (x0 : Nat) (x2 : Int32) (x3 : Int32) (S : gS) (ls : Array Slot), k4 x0 x2 x3 S = some (r, S') → lv_has ls 7 [(0, va_rf (some x0)), (2, .int x2), (3, .int x3)] → gV D cT H0 p l e (gRm 3 62 S0) s m args below meth c (gQ D cT H0 below S0 S' (.inr (some (.int r))) s) S0 S (F0 m 4 ls [])) : ∀ (n : Nat) (x0 : Nat) (x2 : Int32) (x3 : Int32) (x4 : Option Nat) (x5 : Int32) (S : gS) (ls : Array Slot), L_Ed_clashingPair_22 k4 n x0 x2 x3 x4 x5 S = some (r, S') → lv_has ls 7 [(0, va_rf (some x0)), (2, .int x2), (3, .int x3), (4, va_rf x4), (5, .int x5)] → gV D cT H0 p l e (gRm 3 62 S0) s m args below meth c (gQ D cT H0 below S0 S' (.inr (some (.int r))) s) S0 S (F0 m 22 ls []) := by
  intro n
  induction n with
  | zero => intro x0 x2 x3 x4 x5 S ls h hl; cases h
  | succ n ih => intro x0 x2 x3 x4 x5 S ls h hl; exact w_Ed_clashingPair_22 Y hk4 ih x0 x2 x3 x4 x5 S h hl
def B_Ed_clashingPair_4 (k4 : Nat → Int32 → Int32 → gS → Option (Int32 × gS)) (x0 : Nat) (x2 : Int32) (x3 : Int32) (S : gS) : Option (Int32 × gS) := (if 40 < x3 then some ((-1), S) else Option.bind (gOb S x0 1) (fun fs4 => gB2 (D_Ed_planNumbered x0 x3 S) (fun r3 S2 => L_Ed_clashingPair_22 k4 gF x0 x2 x3 r3 (x3 + 1) S2)))
set_option maxRecDepth 100000 in
set_option maxHeartbeats 4000000 in
theorem w_Ed_clashingPair_4 {D : va_G} {cT : Nat → ClassId} {H0 : Heap} {l : Launch} {p : Program} {e : Env} {s : State} {m : MethodId} {args : Array Value} {below : List Frame} {meth : Method} {c : Code} {S0 : gS} {S' : gS} {r : Int32} (Y : gY D cT H0 p s m args meth c prog_2_method_11_code 7 "PlanText$Edition" 3 62 S0 (Option.some Jvm.ClassFile.FieldType.int)) {k4 : Nat → Int32 → Int32 → gS → Option (Int32 × gS)} (hk4 : ∀ (x0 : Nat) (x2 : Int32) (x3 : Int32) (S : gS) (ls : Array Slot), k4 x0 x2 x3 S = some (r, S') → lv_has ls 7 [(0, va_rf (some x0)), (2, .int x2), (3, .int x3)] → gV D cT H0 p l e (gRm 3 62 S0) s m args below meth c (gQ D cT H0 below S0 S' (.inr (some (.int r))) s) S0 S (F0 m 4 ls [])) (x0 : Nat) (x2 : Int32) (x3 : Int32) (S : gS) (hden : B_Ed_clashingPair_4 k4 x0 x2 x3 S = some (r, S')) {ls : Array Slot} (hl : lv_has ls 7 [(0, va_rf (some x0)), (2, .int x2), (3, .int x3)]) : gV D cT H0 p l e (gRm 3 62 S0) s m args below meth c (gQ D cT H0 below S0 S' (.inr (some (.int r))) s) S0 S (F0 m 4 ls []) := by
  obtain ⟨X, hZ, hex, hr, hE⟩ := id Y
  have hx := X.1
  have hb := X.2.1
  unfold B_Ed_clashingPair_4 at hden
  refine gV.lift (fun _ _ _ _ => lv_iload_n hx hb d_Ed_clashingPair_4 rfl (lv_at hl 2 rfl)) ?_
  refine gV.lift (fun _ _ _ _ => lv_bipush (v := 40) hx hb d_Ed_clashingPair_5 (by decide)) ?_
  refine gV.lift2 (fun _ _ _ _ => lv_icmp_gt (tgt := 84) hx hb d_Ed_clashingPair_7 (by decide)) (fun hc1 => ?_) (fun hc1 => ?_)
  · replace hden := gip hc1 hden
    refine gV.lift (fun _ _ _ _ => lv_iconst (v := (-1)) hx hb d_Ed_clashingPair_84 (by decide)) ?_
    obtain ⟨rfl, rfl⟩ := gpi hden
    exact g_iret X hr d_Ed_clashingPair_85
  · replace hden := gin hc1 hden
    refine gV.lift (fun _ _ _ _ => g_aload_n hx hb d_Ed_clashingPair_10 rfl (lv_at hl 0 rfl)) ?_
    refine gV.lift (fun _ _ _ _ => lv_iload_n hx hb d_Ed_clashingPair_11 rfl (lv_at hl 2 rfl)) ?_
    replace hden := gb hden
    obtain ⟨fs4, ho, hden⟩ := hden
    replace hden := gb2 hden
    obtain ⟨r3, S2, hz, hden⟩ := hden
    refine g_callV (As := [.int x3]) (rest := []) X hZ (c_Ed_planNumbered hz) cl_Ed (gOb_spec ho) q_303 q_2 q_565 q_301 q_302 ⟨by decide, by decide, by show _ = some 1; decide +kernel⟩ ⟨by decide, by decide⟩ hl.1 (Nat.le_of_ble_eq_true rfl) d_Ed_clashingPair_12 rfl rfl ?_
    refine gV.liftS (nL := 7) (lv' := [(4, va_rf r3), (0, va_rf (some x0)), (2, .int x2), (3, .int x3)]) (fun _ _ _ _ => g_astore hx hb d_Ed_clashingPair_15 hl (by decide) rfl) (fun ls hl => ?_)
    refine gV.lift (fun _ _ _ _ => lv_iload_n hx hb d_Ed_clashingPair_17 rfl (lv_at hl 3 rfl)) ?_
    refine gV.lift (fun _ _ _ _ => lv_iconst (v := 1) hx hb d_Ed_clashingPair_18 (by decide)) ?_
    refine gV.lift (fun _ _ _ _ => lv_iadd hx hb d_Ed_clashingPair_19) ?_
    refine gV.liftS (nL := 7) (lv' := [(5, .int (x3 + 1)), (4, va_rf r3), (0, va_rf (some x0)), (2, .int x2), (3, .int x3)]) (fun _ _ _ _ => lv_istore hx hb d_Ed_clashingPair_20 hl (by decide) (by cases r3 <;> rfl)) (fun ls hl => ?_)
    exact wL_Ed_clashingPair_22 Y hk4 gF x0 x2 x3 r3 (x3 + 1) S2 _ hden (lv_sub hl [2, 3, 4, 1, 0] rfl)
def L_Ed_clashingPair_4  : Nat → Nat → Int32 → Int32 → gS → Option (Int32 × gS)
  | 0 => fun _ _ _ _ => none
  | n + 1 => fun x0 x2 x3 S => B_Ed_clashingPair_4  (L_Ed_clashingPair_4  n) x0 x2 x3 S
theorem wL_Ed_clashingPair_4 {D : va_G} {cT : Nat → ClassId} {H0 : Heap} {l : Launch} {p : Program} {e : Env} {s : State} {m : MethodId} {args : Array Value} {below : List Frame} {meth : Method} {c : Code} {S0 : gS} {S' : gS} {r : Int32} (Y : gY D cT H0 p s m args meth c prog_2_method_11_code 7 "PlanText$Edition" 3 62 S0 (Option.some Jvm.ClassFile.FieldType.int))  : ∀ (n : Nat) (x0 : Nat) (x2 : Int32) (x3 : Int32) (S : gS) (ls : Array Slot), L_Ed_clashingPair_4  n x0 x2 x3 S = some (r, S') → lv_has ls 7 [(0, va_rf (some x0)), (2, .int x2), (3, .int x3)] → gV D cT H0 p l e (gRm 3 62 S0) s m args below meth c (gQ D cT H0 below S0 S' (.inr (some (.int r))) s) S0 S (F0 m 4 ls []) := by
  intro n
  induction n with
  | zero => intro x0 x2 x3 S ls h hl; cases h
  | succ n ih => intro x0 x2 x3 S ls h hl; exact w_Ed_clashingPair_4 Y ih x0 x2 x3 S h hl
def D_Ed_clashingPair (h0 : Nat) (p0 : Int32) (S : gS) : Option (Int32 × gS) := L_Ed_clashingPair_4  gF h0 p0 1 S
set_option maxRecDepth 100000 in
set_option maxHeartbeats 4000000 in
theorem c_Ed_clashingPair {D : va_G} {cT : Nat → ClassId} {H0 : Heap} {l : Launch} {S : gS} {S' : gS} {h0 : Nat} {p0 : Int32} {r : Int32} (hden : D_Ed_clashingPair h0 p0 S = some (r, S')) : gM D cT H0 l y_Ed_clashingPair (Cond.code y_Ed_clashingPair prog_2_method_11_code 7 (Option.some Jvm.ClassFile.FieldType.int)) 3 62 [va_rf (some h0), .int p0] S S' (.inr (some (.int r))) := by
  refine gM.ofV (by decide) ?_
  intro p e s m args below meth c s₁ B hml ea X hZ hex hr hE
  subst ea
  have Y : gY D cT H0 p s m _ meth c prog_2_method_11_code 7 "PlanText$Edition" 3 62 S (Option.some Jvm.ClassFile.FieldType.int) := ⟨X, hZ, hex, hr, hE⟩
  have hx := X.1
  have hb := X.2.1
  have hl := lv_entry ([va_rf (some h0), .int p0]) (n := 7) (Nat.le_of_ble_eq_true rfl)
  rw [lg_entry_eq]
  generalize (lg_sl ([va_rf (some h0), .int p0]) ++ List.replicate (7 - (lg_sl ([va_rf (some h0), .int p0])).length) Slot.unset).toArray = ls at hl ⊢
  have hl : lv_has ls 7 [(0, va_rf (some h0)), (1, .int p0)] := hl
  unfold D_Ed_clashingPair at hden
  refine gV.lift (fun _ _ _ _ => lv_iload_n hx hb d_Ed_clashingPair_0 rfl (lv_at hl 1 rfl)) ?_
  refine gV.liftS (nL := 7) (lv' := [(2, .int p0), (0, va_rf (some h0)), (1, .int p0)]) (fun _ _ _ _ => lv_istore_n hx hb d_Ed_clashingPair_1 rfl hl (by decide) rfl) (fun ls hl => ?_)
  refine gV.lift (fun _ _ _ _ => lv_iconst (v := 1) hx hb d_Ed_clashingPair_2 (by decide)) ?_
  refine gV.liftS (nL := 7) (lv' := [(3, .int 1), (2, .int p0), (0, va_rf (some h0)), (1, .int p0)]) (fun _ _ _ _ => lv_istore_n hx hb d_Ed_clashingPair_3 rfl hl (by decide) rfl) (fun ls hl => ?_)
  exact wL_Ed_clashingPair_4 Y  gF h0 p0 1 S _ hden (lv_sub hl [2, 1, 0] rfl)
/-! PlanText$Edition.hoursLeft(LPlanText$Plan;I)I -/
abbrev y_Ed_hoursLeft : MethodName := ⟨"PlanText$Edition", "hoursLeft", "(LPlanText$Plan;I)I"⟩
theorem d_Ed_hoursLeft_0 : decode prog_2_method_15_code 0 = .ok (.aload_n 1, 1) := by decide +kernel
theorem d_Ed_hoursLeft_1 : decode prog_2_method_15_code 1 = .ok (.getfield 106, 3) := by decide +kernel
theorem d_Ed_hoursLeft_4 : decode prog_2_method_15_code 4 = .ok (.getfield 110, 3) := by decide +kernel
theorem d_Ed_hoursLeft_7 : decode prog_2_method_15_code 7 = .ok (.istore_n 3, 1) := by decide +kernel
theorem d_Ed_hoursLeft_8 : decode prog_2_method_15_code 8 = .ok (.iconst 1, 1) := by decide +kernel
theorem d_Ed_hoursLeft_9 : decode prog_2_method_15_code 9 = .ok (.istore 4, 2) := by decide +kernel
theorem d_Ed_hoursLeft_11 : decode prog_2_method_15_code 11 = .ok (.iload 4, 2) := by decide +kernel
theorem d_Ed_hoursLeft_13 : decode prog_2_method_15_code 13 = .ok (.bipush 40, 2) := by decide +kernel
theorem d_Ed_hoursLeft_15 : decode prog_2_method_15_code 15 = .ok (.if_icmp .gt 63, 3) := by decide +kernel
theorem d_Ed_hoursLeft_18 : decode prog_2_method_15_code 18 = .ok (.aload_n 0, 1) := by decide +kernel
theorem d_Ed_hoursLeft_19 : decode prog_2_method_15_code 19 = .ok (.iload 4, 2) := by decide +kernel
theorem d_Ed_hoursLeft_21 : decode prog_2_method_15_code 21 = .ok (.invokevirtual 49, 3) := by decide +kernel
theorem d_Ed_hoursLeft_24 : decode prog_2_method_15_code 24 = .ok (.astore 5, 2) := by decide +kernel
theorem d_Ed_hoursLeft_26 : decode prog_2_method_15_code 26 = .ok (.aload 5, 2) := by decide +kernel
theorem d_Ed_hoursLeft_28 : decode prog_2_method_15_code 28 = .ok (.ifnull 44, 3) := by decide +kernel
theorem d_Ed_hoursLeft_31 : decode prog_2_method_15_code 31 = .ok (.aload 5, 2) := by decide +kernel
theorem d_Ed_hoursLeft_33 : decode prog_2_method_15_code 33 = .ok (.aload_n 1, 1) := by decide +kernel
theorem d_Ed_hoursLeft_34 : decode prog_2_method_15_code 34 = .ok (.invokevirtual 57, 3) := by decide +kernel
theorem d_Ed_hoursLeft_37 : decode prog_2_method_15_code 37 = .ok (.ifCond .eq 35, 3) := by decide +kernel
theorem d_Ed_hoursLeft_40 : decode prog_2_method_15_code 40 = .ok (.aload 5, 2) := by decide +kernel
theorem d_Ed_hoursLeft_42 : decode prog_2_method_15_code 42 = .ok (.getfield 86, 3) := by decide +kernel
theorem d_Ed_hoursLeft_45 : decode prog_2_method_15_code 45 = .ok (.aload_n 1, 1) := by decide +kernel
theorem d_Ed_hoursLeft_46 : decode prog_2_method_15_code 46 = .ok (.getfield 86, 3) := by decide +kernel
theorem d_Ed_hoursLeft_49 : decode prog_2_method_15_code 49 = .ok (.getfield 115, 3) := by decide +kernel
theorem d_Ed_hoursLeft_52 : decode prog_2_method_15_code 52 = .ok (.iload_n 2, 1) := by decide +kernel
theorem d_Ed_hoursLeft_53 : decode prog_2_method_15_code 53 = .ok (.invokevirtual 118, 3) := by decide +kernel
theorem d_Ed_hoursLeft_56 : decode prog_2_method_15_code 56 = .ok (.ifCond .eq 16, 3) := by decide +kernel
theorem d_Ed_hoursLeft_59 : decode prog_2_method_15_code 59 = .ok (.iload_n 3, 1) := by decide +kernel
theorem d_Ed_hoursLeft_60 : decode prog_2_method_15_code 60 = .ok (.aload 5, 2) := by decide +kernel
theorem d_Ed_hoursLeft_62 : decode prog_2_method_15_code 62 = .ok (.getfield 106, 3) := by decide +kernel
theorem d_Ed_hoursLeft_65 : decode prog_2_method_15_code 65 = .ok (.getfield 110, 3) := by decide +kernel
theorem d_Ed_hoursLeft_68 : decode prog_2_method_15_code 68 = .ok (.iconst (-1), 1) := by decide +kernel
theorem d_Ed_hoursLeft_69 : decode prog_2_method_15_code 69 = .ok (.ixor, 1) := by decide +kernel
theorem d_Ed_hoursLeft_70 : decode prog_2_method_15_code 70 = .ok (.iand, 1) := by decide +kernel
theorem d_Ed_hoursLeft_71 : decode prog_2_method_15_code 71 = .ok (.istore_n 3, 1) := by decide +kernel
theorem d_Ed_hoursLeft_72 : decode prog_2_method_15_code 72 = .ok (.iinc 4 1, 3) := by decide +kernel
theorem d_Ed_hoursLeft_75 : decode prog_2_method_15_code 75 = .ok (.goto (-64), 3) := by decide +kernel
theorem d_Ed_hoursLeft_78 : decode prog_2_method_15_code 78 = .ok (.iload_n 3, 1) := by decide +kernel
theorem d_Ed_hoursLeft_79 : decode prog_2_method_15_code 79 = .ok (.ireturn, 1) := by decide +kernel
def B_Ed_hoursLeft_72 (k11 : Nat → Option Nat → Int32 → Int32 → Int32 → gS → Option (Int32 × gS)) (x0 : Nat) (x1 : Option Nat) (x2 : Int32) (x3 : Int32) (x4 : Int32) (S : gS) : Option (Int32 × gS) := k11 x0 x1 x2 x3 (x4 + 1) S
set_option maxRecDepth 100000 in
set_option maxHeartbeats 4000000 in
theorem w_Ed_hoursLeft_72 {D : va_G} {cT : Nat → ClassId} {H0 : Heap} {l : Launch} {p : Program} {e : Env} {s : State} {m : MethodId} {args : Array Value} {below : List Frame} {meth : Method} {c : Code} {S0 : gS} {S' : gS} {r : Int32} (Y : gY D cT H0 p s m args meth c prog_2_method_15_code 6 "PlanText$Edition" 2 42 S0 (Option.some Jvm.ClassFile.FieldType.int)) {k11 : Nat → Option Nat → Int32 → Int32 → Int32 → gS → Option (Int32 × gS)} (hk11 : ∀ (x0 : Nat) (x1 : Option Nat) (x2 : Int32) (x3 : Int32) (x4 : Int32) (S : gS) (ls : Array Slot), k11 x0 x1 x2 x3 x4 S = some (r, S') → lv_has ls 6 [(0, va_rf (some x0)), (1, va_rf x1), (2, .int x2), (3, .int x3), (4, .int x4)] → gV D cT H0 p l e (gRm 2 42 S0) s m args below meth c (gQ D cT H0 below S0 S' (.inr (some (.int r))) s) S0 S (F0 m 11 ls [])) (x0 : Nat) (x1 : Option Nat) (x2 : Int32) (x3 : Int32) (x4 : Int32) (S : gS) (hden : B_Ed_hoursLeft_72 k11 x0 x1 x2 x3 x4 S = some (r, S')) {ls : Array Slot} (hl : lv_has ls 6 [(0, va_rf (some x0)), (1, va_rf x1), (2, .int x2), (3, .int x3), (4, .int x4)]) : gV D cT H0 p l e (gRm 2 42 S0) s m args below meth c (gQ D cT H0 below S0 S' (.inr (some (.int r))) s) S0 S (F0 m 72 ls []) := by
  obtain ⟨X, hZ, hex, hr, hE⟩ := id Y
  have hx := X.1
  have hb := X.2.1
  unfold B_Ed_hoursLeft_72 at hden
  refine gV.liftS (nL := 6) (lv' := [(4, .int (x4 + 1)), (0, va_rf (some x0)), (1, va_rf x1), (2, .int x2), (3, .int x3)]) (fun _ _ _ _ => lv_iinc (v := (x4 + 1)) hx hb d_Ed_hoursLeft_72 hl (k := 4) rfl rfl (by decide) rfl) (fun ls hl => ?_)
  refine gV.lift (fun _ _ _ _ => lv_goto (tgt := 11) hx hb d_Ed_hoursLeft_75 (by decide)) ?_
  exact hk11 x0 x1 x2 x3 (x4 + 1) S _ hden (lv_sub hl [1, 2, 3, 4, 0] rfl)
def B_Ed_hoursLeft_11 (k11 : Nat → Option Nat → Int32 → Int32 → Int32 → gS → Option (Int32 × gS)) (x0 : Nat) (x1 : Option Nat) (x2 : Int32) (x3 : Int32) (x4 : Int32) (S : gS) : Option (Int32 × gS) := (if 40 < x4 then some (x3, S) else Option.bind (gOb S x0 1) (fun fs4 => gB2 (D_Ed_planNumbered x0 x4 S) (fun r3 S2 => gNul r3 (B_Ed_hoursLeft_72 k11 x0 x1 x2 x3 x4 S2) (fun a5 => Option.bind (gOb S2 a5 5) (fun fs8 => gB2 (D_Pl_goesAheadOf a5 x1 S2) (fun v7 S6 => (if v7 = 0 then B_Ed_hoursLeft_72 k11 x0 x1 x2 x3 x4 S6 else Option.bind (gRf S6 a5 5 2) (fun r10 => Option.bind x1 (fun a11 => Option.bind (gRf S6 a11 5 2) (fun r12 => Option.bind r12 (fun a13 => Option.bind (gI S6 a13 9 0) (fun v14 => Option.bind r10 (fun a15 => Option.bind (gOb S6 a15 9) (fun fs18 => gB2 (D_Sx_covers a15 v14 x2 S6) (fun v17 S16 => (if v17 = 0 then B_Ed_hoursLeft_72 k11 x0 (some a11) x2 x3 x4 S16 else Option.bind (gRf S16 a5 5 3) (fun r20 => Option.bind r20 (fun a21 => Option.bind (gI S16 a21 2 3) (fun v22 => B_Ed_hoursLeft_72 k11 x0 (some a11) x2 (x3 &&& (v22 ^^^ (-1))) x4 S16)))))))))))))))))))
set_option maxRecDepth 100000 in
set_option maxHeartbeats 4000000 in
theorem w_Ed_hoursLeft_11 {D : va_G} {cT : Nat → ClassId} {H0 : Heap} {l : Launch} {p : Program} {e : Env} {s : State} {m : MethodId} {args : Array Value} {below : List Frame} {meth : Method} {c : Code} {S0 : gS} {S' : gS} {r : Int32} (Y : gY D cT H0 p s m args meth c prog_2_method_15_code 6 "PlanText$Edition" 2 42 S0 (Option.some Jvm.ClassFile.FieldType.int)) {k11 : Nat → Option Nat → Int32 → Int32 → Int32 → gS → Option (Int32 × gS)} (hk11 : ∀ (x0 : Nat) (x1 : Option Nat) (x2 : Int32) (x3 : Int32) (x4 : Int32) (S : gS) (ls : Array Slot), k11 x0 x1 x2 x3 x4 S = some (r, S') → lv_has ls 6 [(0, va_rf (some x0)), (1, va_rf x1), (2, .int x2), (3, .int x3), (4, .int x4)] → gV D cT H0 p l e (gRm 2 42 S0) s m args below meth c (gQ D cT H0 below S0 S' (.inr (some (.int r))) s) S0 S (F0 m 11 ls [])) (x0 : Nat) (x1 : Option Nat) (x2 : Int32) (x3 : Int32) (x4 : Int32) (S : gS) (hden : B_Ed_hoursLeft_11 k11 x0 x1 x2 x3 x4 S = some (r, S')) {ls : Array Slot} (hl : lv_has ls 6 [(0, va_rf (some x0)), (1, va_rf x1), (2, .int x2), (3, .int x3), (4, .int x4)]) : gV D cT H0 p l e (gRm 2 42 S0) s m args below meth c (gQ D cT H0 below S0 S' (.inr (some (.int r))) s) S0 S (F0 m 11 ls []) := by
  obtain ⟨X, hZ, hex, hr, hE⟩ := id Y
  have hx := X.1
  have hb := X.2.1
  unfold B_Ed_hoursLeft_11 at hden
  refine gV.lift (fun _ _ _ _ => lv_iload hx hb d_Ed_hoursLeft_11 (lv_at hl 4 rfl)) ?_
  refine gV.lift (fun _ _ _ _ => lv_bipush (v := 40) hx hb d_Ed_hoursLeft_13 (by decide)) ?_
  refine gV.lift2 (fun _ _ _ _ => lv_icmp_gt (tgt := 78) hx hb d_Ed_hoursLeft_15 (by decide)) (fun hc1 => ?_) (fun hc1 => ?_)
  · replace hden := gip hc1 hden
    refine gV.lift (fun _ _ _ _ => lv_iload_n hx hb d_Ed_hoursLeft_78 rfl (lv_at hl 3 rfl)) ?_
    obtain ⟨rfl, rfl⟩ := gpi hden
    exact g_iret X hr d_Ed_hoursLeft_79
  · replace hden := gin hc1 hden
    refine gV.lift (fun _ _ _ _ => g_aload_n hx hb d_Ed_hoursLeft_18 rfl (lv_at hl 0 rfl)) ?_
    refine gV.lift (fun _ _ _ _ => lv_iload hx hb d_Ed_hoursLeft_19 (lv_at hl 4 rfl)) ?_
    replace hden := gb hden
    obtain ⟨fs4, ho, hden⟩ := hden
    replace hden := gb2 hden
    obtain ⟨r3, S2, hz, hden⟩ := hden
    refine g_callV (As := [.int x4]) (rest := []) X hZ (c_Ed_planNumbered hz) cl_Ed (gOb_spec ho) q_303 q_2 q_565 q_301 q_302 ⟨by decide, by decide, by show _ = some 1; decide +kernel⟩ ⟨by decide, by decide⟩ hl.1 (Nat.le_of_ble_eq_true rfl) d_Ed_hoursLeft_21 rfl rfl ?_
    refine gV.liftS (nL := 6) (lv' := [(5, va_rf r3), (0, va_rf (some x0)), (1, va_rf x1), (2, .int x2), (3, .int x3), (4, .int x4)]) (fun _ _ _ _ => g_astore hx hb d_Ed_hoursLeft_24 hl (by decide) rfl) (fun ls hl => ?_)
    refine gV.lift (fun _ _ _ _ => g_aload hx hb d_Ed_hoursLeft_26 (lv_at hl 0 rfl)) ?_
    rcases r3 with _ | a5
    · replace hden := gN0 hden
      refine gV.lift (fun _ _ _ _ => lv_ifnullN (tgt := 72) hx hb d_Ed_hoursLeft_28 (by decide)) ?_
      exact w_Ed_hoursLeft_72 Y hk11 x0 x1 x2 x3 x4 S2 hden (lv_sub hl [1, 2, 3, 4, 5] rfl)
    · replace hden := gN1 hden
      refine gV.lift (fun _ _ _ _ => lv_ifnull hx hb d_Ed_hoursLeft_28) ?_
      refine gV.lift (fun _ _ _ _ => g_aload hx hb d_Ed_hoursLeft_31 (lv_at hl 0 rfl)) ?_
      refine gV.lift (fun _ _ _ _ => g_aload_n hx hb d_Ed_hoursLeft_33 rfl (lv_at hl 2 rfl)) ?_
      replace hden := gb hden
      obtain ⟨fs8, ho, hden⟩ := hden
      replace hden := gb2 hden
      obtain ⟨v7, S6, hz, hden⟩ := hden
      refine g_callV (As := [va_rf x1]) (rest := []) X hZ (c_Pl_goesAheadOf hz) cl_Pl (gOb_spec ho) q_585 q_15 q_582 q_583 q_584 ⟨by decide, by decide, by show _ = some 1; decide +kernel⟩ ⟨by decide, by decide⟩ hl.1 (Nat.le_of_ble_eq_true rfl) d_Ed_hoursLeft_34 rfl rfl ?_
      refine gV.lift2 (fun _ _ _ _ => lv_if_eq (tgt := 72) hx hb d_Ed_hoursLeft_37 (by decide)) (fun hc9 => ?_) (fun hc9 => ?_)
      · replace hden := gip hc9 hden
        exact w_Ed_hoursLeft_72 Y hk11 x0 x1 x2 x3 x4 S6 hden (lv_sub hl [1, 2, 3, 4, 5] rfl)
      · replace hden := gin hc9 hden
        refine gV.lift (fun _ _ _ _ => g_aload hx hb d_Ed_hoursLeft_40 (lv_at hl 0 rfl)) ?_
        replace hden := gb hden
        obtain ⟨r10, hv, hden⟩ := hden
        refine r_getR X cl_Pl (k := 2) hv (by decide) q_429 d_Ed_hoursLeft_42 ?_
        refine gV.lift (fun _ _ _ _ => g_aload_n hx hb d_Ed_hoursLeft_45 rfl (lv_at hl 2 rfl)) ?_
        replace hden := gb hden
        obtain ⟨a11, rfl, hden⟩ := hden
        replace hden := gb hden
        obtain ⟨r12, hv, hden⟩ := hden
        refine r_getR X cl_Pl (k := 2) hv (by decide) q_429 d_Ed_hoursLeft_46 ?_
        replace hden := gb hden
        obtain ⟨a13, rfl, hden⟩ := hden
        replace hden := gb hden
        obtain ⟨v14, hv, hden⟩ := hden
        refine r_getI X cl_Sx (k := 0) hv (by decide) q_320 d_Ed_hoursLeft_49 ?_
        refine gV.lift (fun _ _ _ _ => lv_iload_n hx hb d_Ed_hoursLeft_52 rfl (lv_at hl 3 rfl)) ?_
        replace hden := gb hden
        obtain ⟨a15, rfl, hden⟩ := hden
        replace hden := gb hden
        obtain ⟨fs18, ho, hden⟩ := hden
        replace hden := gb2 hden
        obtain ⟨v17, S16, hz, hden⟩ := hden
        refine g_callV (As := [.int v14, .int x2]) (rest := []) X hZ (c_Sx_covers hz) cl_Sx (gOb_spec ho) q_573 q_13 q_662 q_571 q_572 ⟨by decide, by decide, by show _ = some 2; decide +kernel⟩ ⟨by decide, by decide⟩ hl.1 (Nat.le_of_ble_eq_true rfl) d_Ed_hoursLeft_53 rfl rfl ?_
        refine gV.lift2 (fun _ _ _ _ => lv_if_eq (tgt := 72) hx hb d_Ed_hoursLeft_56 (by decide)) (fun hc19 => ?_) (fun hc19 => ?_)
        · replace hden := gip hc19 hden
          exact w_Ed_hoursLeft_72 Y hk11 x0 (some a11) x2 x3 x4 S16 hden (lv_sub hl [1, 2, 3, 4, 5] rfl)
        · replace hden := gin hc19 hden
          refine gV.lift (fun _ _ _ _ => lv_iload_n hx hb d_Ed_hoursLeft_59 rfl (lv_at hl 4 rfl)) ?_
          refine gV.lift (fun _ _ _ _ => g_aload hx hb d_Ed_hoursLeft_60 (lv_at hl 0 rfl)) ?_
          replace hden := gb hden
          obtain ⟨r20, hv, hden⟩ := hden
          refine r_getR X cl_Pl (k := 3) hv (by decide) q_432 d_Ed_hoursLeft_62 ?_
          replace hden := gb hden
          obtain ⟨a21, rfl, hden⟩ := hden
          replace hden := gb hden
          obtain ⟨v22, hv, hden⟩ := hden
          refine r_getI X cl_Hr (k := 3) hv (by decide) q_355 d_Ed_hoursLeft_65 ?_
          refine gV.lift (fun _ _ _ _ => lv_iconst (v := (-1)) hx hb d_Ed_hoursLeft_68 (by decide)) ?_
          refine gV.lift (fun _ _ _ _ => lv_ixor hx hb d_Ed_hoursLeft_69) ?_
          refine gV.lift (fun _ _ _ _ => lv_iand hx hb d_Ed_hoursLeft_70) ?_
          refine gV.liftS (nL := 6) (lv' := [(3, .int (x3 &&& (v22 ^^^ (-1)))), (5, va_rf (some a5)), (0, va_rf (some x0)), (1, va_rf (some a11)), (2, .int x2), (4, .int x4)]) (fun _ _ _ _ => lv_istore_n hx hb d_Ed_hoursLeft_71 rfl hl (by decide) rfl) (fun ls hl => ?_)
          exact w_Ed_hoursLeft_72 Y hk11 x0 (some a11) x2 (x3 &&& (v22 ^^^ (-1))) x4 S16 hden (lv_sub hl [2, 3, 4, 0, 5] rfl)
def L_Ed_hoursLeft_11  : Nat → Nat → Option Nat → Int32 → Int32 → Int32 → gS → Option (Int32 × gS)
  | 0 => fun _ _ _ _ _ _ => none
  | n + 1 => fun x0 x1 x2 x3 x4 S => B_Ed_hoursLeft_11  (L_Ed_hoursLeft_11  n) x0 x1 x2 x3 x4 S
theorem wL_Ed_hoursLeft_11 {D : va_G} {cT : Nat → ClassId} {H0 : Heap} {l : Launch} {p : Program} {e : Env} {s : State} {m : MethodId} {args : Array Value} {below : List Frame} {meth : Method} {c : Code} {S0 : gS} {S' : gS} {r : Int32} (Y : gY D cT H0 p s m args meth c prog_2_method_15_code 6 "PlanText$Edition" 2 42 S0 (Option.some Jvm.ClassFile.FieldType.int))  : ∀ (n : Nat) (x0 : Nat) (x1 : Option Nat) (x2 : Int32) (x3 : Int32) (x4 : Int32) (S : gS) (ls : Array Slot), L_Ed_hoursLeft_11  n x0 x1 x2 x3 x4 S = some (r, S') → lv_has ls 6 [(0, va_rf (some x0)), (1, va_rf x1), (2, .int x2), (3, .int x3), (4, .int x4)] → gV D cT H0 p l e (gRm 2 42 S0) s m args below meth c (gQ D cT H0 below S0 S' (.inr (some (.int r))) s) S0 S (F0 m 11 ls []) := by
  intro n
  induction n with
  | zero => intro x0 x1 x2 x3 x4 S ls h hl; cases h
  | succ n ih => intro x0 x1 x2 x3 x4 S ls h hl; exact w_Ed_hoursLeft_11 Y ih x0 x1 x2 x3 x4 S h hl
def D_Ed_hoursLeft (h0 : Nat) (p0 : Option Nat) (p1 : Int32) (S : gS) : Option (Int32 × gS) := Option.bind p0 (fun a1 => Option.bind (gRf S a1 5 3) (fun r2 => Option.bind r2 (fun a3 => Option.bind (gI S a3 2 3) (fun v4 => L_Ed_hoursLeft_11  gF h0 (some a1) p1 v4 1 S))))
set_option maxRecDepth 100000 in
set_option maxHeartbeats 4000000 in
theorem c_Ed_hoursLeft {D : va_G} {cT : Nat → ClassId} {H0 : Heap} {l : Launch} {S : gS} {S' : gS} {h0 : Nat} {p0 : Option Nat} {p1 : Int32} {r : Int32} (hden : D_Ed_hoursLeft h0 p0 p1 S = some (r, S')) : gM D cT H0 l y_Ed_hoursLeft (Cond.code y_Ed_hoursLeft prog_2_method_15_code 6 (Option.some Jvm.ClassFile.FieldType.int)) 2 42 [va_rf (some h0), va_rf p0, .int p1] S S' (.inr (some (.int r))) := by
  refine gM.ofV (by decide) ?_
  intro p e s m args below meth c s₁ B hml ea X hZ hex hr hE
  subst ea
  have Y : gY D cT H0 p s m _ meth c prog_2_method_15_code 6 "PlanText$Edition" 2 42 S (Option.some Jvm.ClassFile.FieldType.int) := ⟨X, hZ, hex, hr, hE⟩
  have hx := X.1
  have hb := X.2.1
  have hl := lv_entry ([va_rf (some h0), va_rf p0, .int p1]) (n := 6) (by cases p0 <;> exact Nat.le_of_ble_eq_true rfl)
  rw [lg_entry_eq]
  generalize (lg_sl ([va_rf (some h0), va_rf p0, .int p1]) ++ List.replicate (6 - (lg_sl ([va_rf (some h0), va_rf p0, .int p1])).length) Slot.unset).toArray = ls at hl ⊢
  have hl : lv_has ls 6 [(0, va_rf (some h0)), (1, va_rf p0), (2, .int p1)] := by cases p0 <;> exact hl
  unfold D_Ed_hoursLeft at hden
  refine gV.lift (fun _ _ _ _ => g_aload_n hx hb d_Ed_hoursLeft_0 rfl (lv_at hl 1 rfl)) ?_
  replace hden := gb hden
  obtain ⟨a1, rfl, hden⟩ := hden
  replace hden := gb hden
  obtain ⟨r2, hv, hden⟩ := hden
  refine r_getR X cl_Pl (k := 3) hv (by decide) q_432 d_Ed_hoursLeft_1 ?_
  replace hden := gb hden
  obtain ⟨a3, rfl, hden⟩ := hden
  replace hden := gb hden
  obtain ⟨v4, hv, hden⟩ := hden
  refine r_getI X cl_Hr (k := 3) hv (by decide) q_355 d_Ed_hoursLeft_4 ?_
  refine gV.liftS (nL := 6) (lv' := [(3, .int v4), (0, va_rf (some h0)), (1, va_rf (some a1)), (2, .int p1)]) (fun _ _ _ _ => lv_istore_n hx hb d_Ed_hoursLeft_7 rfl hl (by decide) rfl) (fun ls hl => ?_)
  refine gV.lift (fun _ _ _ _ => lv_iconst (v := 1) hx hb d_Ed_hoursLeft_8 (by decide)) ?_
  refine gV.liftS (nL := 6) (lv' := [(4, .int 1), (3, .int v4), (0, va_rf (some h0)), (1, va_rf (some a1)), (2, .int p1)]) (fun _ _ _ _ => lv_istore hx hb d_Ed_hoursLeft_9 hl (by decide) rfl) (fun ls hl => ?_)
  exact wL_Ed_hoursLeft_11 Y  gF h0 (some a1) p1 v4 1 S _ hden (lv_sub hl [2, 3, 4, 1, 0] rfl)
/-! PlanText$Edition.isNeverMet(LPlanText$Plan;)Z -/
abbrev y_Ed_isNeverMet : MethodName := ⟨"PlanText$Edition", "isNeverMet", "(LPlanText$Plan;)Z"⟩
theorem d_Ed_isNeverMet_0 : decode prog_2_method_14_code 0 = .ok (.aload_n 0, 1) := by decide +kernel
theorem d_Ed_isNeverMet_1 : decode prog_2_method_14_code 1 = .ok (.aload_n 1, 1) := by decide +kernel
theorem d_Ed_isNeverMet_2 : decode prog_2_method_14_code 2 = .ok (.aload_n 1, 1) := by decide +kernel
theorem d_Ed_isNeverMet_3 : decode prog_2_method_14_code 3 = .ok (.getfield 86, 3) := by decide +kernel
theorem d_Ed_isNeverMet_6 : decode prog_2_method_14_code 6 = .ok (.getfield 90, 3) := by decide +kernel
theorem d_Ed_isNeverMet_9 : decode prog_2_method_14_code 9 = .ok (.invokevirtual 95, 3) := by decide +kernel
theorem d_Ed_isNeverMet_12 : decode prog_2_method_14_code 12 = .ok (.ifCond .eq 5, 3) := by decide +kernel
theorem d_Ed_isNeverMet_15 : decode prog_2_method_14_code 15 = .ok (.iconst 0, 1) := by decide +kernel
theorem d_Ed_isNeverMet_16 : decode prog_2_method_14_code 16 = .ok (.ireturn, 1) := by decide +kernel
theorem d_Ed_isNeverMet_17 : decode prog_2_method_14_code 17 = .ok (.iconst 1, 1) := by decide +kernel
theorem d_Ed_isNeverMet_18 : decode prog_2_method_14_code 18 = .ok (.istore_n 2, 1) := by decide +kernel
theorem d_Ed_isNeverMet_19 : decode prog_2_method_14_code 19 = .ok (.iload_n 2, 1) := by decide +kernel
theorem d_Ed_isNeverMet_20 : decode prog_2_method_14_code 20 = .ok (.bipush 40, 2) := by decide +kernel
theorem d_Ed_isNeverMet_22 : decode prog_2_method_14_code 22 = .ok (.if_icmp .gt 60, 3) := by decide +kernel
theorem d_Ed_isNeverMet_25 : decode prog_2_method_14_code 25 = .ok (.aload_n 0, 1) := by decide +kernel
theorem d_Ed_isNeverMet_26 : decode prog_2_method_14_code 26 = .ok (.iload_n 2, 1) := by decide +kernel
theorem d_Ed_isNeverMet_27 : decode prog_2_method_14_code 27 = .ok (.invokevirtual 49, 3) := by decide +kernel
theorem d_Ed_isNeverMet_30 : decode prog_2_method_14_code 30 = .ok (.astore_n 3, 1) := by decide +kernel
theorem d_Ed_isNeverMet_31 : decode prog_2_method_14_code 31 = .ok (.aload_n 3, 1) := by decide +kernel
theorem d_Ed_isNeverMet_32 : decode prog_2_method_14_code 32 = .ok (.ifnull 44, 3) := by decide +kernel
theorem d_Ed_isNeverMet_35 : decode prog_2_method_14_code 35 = .ok (.aload_n 3, 1) := by decide +kernel
theorem d_Ed_isNeverMet_36 : decode prog_2_method_14_code 36 = .ok (.aload_n 1, 1) := by decide +kernel
theorem d_Ed_isNeverMet_37 : decode prog_2_method_14_code 37 = .ok (.invokevirtual 57, 3) := by decide +kernel
theorem d_Ed_isNeverMet_40 : decode prog_2_method_14_code 40 = .ok (.ifCond .eq 36, 3) := by decide +kernel
theorem d_Ed_isNeverMet_43 : decode prog_2_method_14_code 43 = .ok (.aload_n 3, 1) := by decide +kernel
theorem d_Ed_isNeverMet_44 : decode prog_2_method_14_code 44 = .ok (.getfield 86, 3) := by decide +kernel
theorem d_Ed_isNeverMet_47 : decode prog_2_method_14_code 47 = .ok (.aload_n 1, 1) := by decide +kernel
theorem d_Ed_isNeverMet_48 : decode prog_2_method_14_code 48 = .ok (.getfield 86, 3) := by decide +kernel
theorem d_Ed_isNeverMet_51 : decode prog_2_method_14_code 51 = .ok (.invokevirtual 99, 3) := by decide +kernel
theorem d_Ed_isNeverMet_54 : decode prog_2_method_14_code 54 = .ok (.ifCond .eq 22, 3) := by decide +kernel
theorem d_Ed_isNeverMet_57 : decode prog_2_method_14_code 57 = .ok (.aload_n 0, 1) := by decide +kernel
theorem d_Ed_isNeverMet_58 : decode prog_2_method_14_code 58 = .ok (.aload_n 1, 1) := by decide +kernel
theorem d_Ed_isNeverMet_59 : decode prog_2_method_14_code 59 = .ok (.aload_n 3, 1) := by decide +kernel
theorem d_Ed_isNeverMet_60 : decode prog_2_method_14_code 60 = .ok (.getfield 86, 3) := by decide +kernel
theorem d_Ed_isNeverMet_63 : decode prog_2_method_14_code 63 = .ok (.getfield 103, 3) := by decide +kernel
theorem d_Ed_isNeverMet_66 : decode prog_2_method_14_code 66 = .ok (.iconst 1, 1) := by decide +kernel
theorem d_Ed_isNeverMet_67 : decode prog_2_method_14_code 67 = .ok (.iadd, 1) := by decide +kernel
theorem d_Ed_isNeverMet_68 : decode prog_2_method_14_code 68 = .ok (.invokevirtual 95, 3) := by decide +kernel
theorem d_Ed_isNeverMet_71 : decode prog_2_method_14_code 71 = .ok (.ifCond .eq 5, 3) := by decide +kernel
theorem d_Ed_isNeverMet_74 : decode prog_2_method_14_code 74 = .ok (.iconst 0, 1) := by decide +kernel
theorem d_Ed_isNeverMet_75 : decode prog_2_method_14_code 75 = .ok (.ireturn, 1) := by decide +kernel
theorem d_Ed_isNeverMet_76 : decode prog_2_method_14_code 76 = .ok (.iinc 2 1, 3) := by decide +kernel
theorem d_Ed_isNeverMet_79 : decode prog_2_method_14_code 79 = .ok (.goto (-60), 3) := by decide +kernel
theorem d_Ed_isNeverMet_82 : decode prog_2_method_14_code 82 = .ok (.iconst 1, 1) := by decide +kernel
theorem d_Ed_isNeverMet_83 : decode prog_2_method_14_code 83 = .ok (.ireturn, 1) := by decide +kernel
def B_Ed_isNeverMet_76 (k19 : Nat → Option Nat → Int32 → gS → Option (Int32 × gS)) (x0 : Nat) (x1 : Option Nat) (x2 : Int32) (S : gS) : Option (Int32 × gS) := k19 x0 x1 (x2 + 1) S
set_option maxRecDepth 100000 in
set_option maxHeartbeats 4000000 in
theorem w_Ed_isNeverMet_76 {D : va_G} {cT : Nat → ClassId} {H0 : Heap} {l : Launch} {p : Program} {e : Env} {s : State} {m : MethodId} {args : Array Value} {below : List Frame} {meth : Method} {c : Code} {S0 : gS} {S' : gS} {r : Int32} (Y : gY D cT H0 p s m args meth c prog_2_method_14_code 4 "PlanText$Edition" 3 67 S0 (Option.some Jvm.ClassFile.FieldType.boolean)) {k19 : Nat → Option Nat → Int32 → gS → Option (Int32 × gS)} (hk19 : ∀ (x0 : Nat) (x1 : Option Nat) (x2 : Int32) (S : gS) (ls : Array Slot), k19 x0 x1 x2 S = some (r, S') → lv_has ls 4 [(0, va_rf (some x0)), (1, va_rf x1), (2, .int x2)] → gV D cT H0 p l e (gRm 3 67 S0) s m args below meth c (gQ D cT H0 below S0 S' (.inr (some (.int r))) s) S0 S (F0 m 19 ls [])) (x0 : Nat) (x1 : Option Nat) (x2 : Int32) (S : gS) (hden : B_Ed_isNeverMet_76 k19 x0 x1 x2 S = some (r, S')) {ls : Array Slot} (hl : lv_has ls 4 [(0, va_rf (some x0)), (1, va_rf x1), (2, .int x2)]) : gV D cT H0 p l e (gRm 3 67 S0) s m args below meth c (gQ D cT H0 below S0 S' (.inr (some (.int r))) s) S0 S (F0 m 76 ls []) := by
  obtain ⟨X, hZ, hex, hr, hE⟩ := id Y
  have hx := X.1
  have hb := X.2.1
  unfold B_Ed_isNeverMet_76 at hden
  refine gV.liftS (nL := 4) (lv' := [(2, .int (x2 + 1)), (0, va_rf (some x0)), (1, va_rf x1)]) (fun _ _ _ _ => lv_iinc (v := (x2 + 1)) hx hb d_Ed_isNeverMet_76 hl (k := 2) rfl rfl (by decide) (by cases x1 <;> rfl)) (fun ls hl => ?_)
  refine gV.lift (fun _ _ _ _ => lv_goto (tgt := 19) hx hb d_Ed_isNeverMet_79 (by decide)) ?_
  exact hk19 x0 x1 (x2 + 1) S _ hden (lv_sub hl [1, 2, 0] rfl)
def B_Ed_isNeverMet_19 (k19 : Nat → Option Nat → Int32 → gS → Option (Int32 × gS)) (x0 : Nat) (x1 : Option Nat) (x2 : Int32) (S : gS) : Option (Int32 × gS) := (if 40 < x2 then Option.bind (gZo 1) (fun v2 => some (v2, S)) else Option.bind (gOb S x0 1) (fun fs5 => gB2 (D_Ed_planNumbered x0 x2 S) (fun r4 S3 => gNul r4 (B_Ed_isNeverMet_76 k19 x0 x1 x2 S3) (fun a6 => Option.bind (gOb S3 a6 5) (fun fs9 => gB2 (D_Pl_goesAheadOf a6 x1 S3) (fun v8 S7 => (if v8 = 0 then B_Ed_isNeverMet_76 k19 x0 x1 x2 S7 else Option.bind (gRf S7 a6 5 2) (fun r11 => Option.bind x1 (fun a12 => Option.bind (gRf S7 a12 5 2) (fun r13 => Option.bind r11 (fun a14 => Option.bind (gOb S7 a14 9) (fun fs17 => gB2 (D_Sx_endsWithin a14 r13 S7) (fun v16 S15 => (if v16 = 0 then B_Ed_isNeverMet_76 k19 x0 (some a12) x2 S15 else Option.bind (gRf S15 a6 5 2) (fun r19 => Option.bind r19 (fun a20 => Option.bind (gI S15 a20 9 2) (fun v21 => Option.bind (gOb S15 x0 1) (fun fs24 => gB2 (D_Ed_hoursLeft x0 (some a12) (v21 + 1) S15) (fun v23 S22 => (if v23 = 0 then B_Ed_isNeverMet_76 k19 x0 (some a12) x2 S22 else Option.bind (gZo 0) (fun v26 => some (v26, S22))))))))))))))))))))))
set_option maxRecDepth 100000 in
set_option maxHeartbeats 4000000 in
theorem w_Ed_isNeverMet_19 {D : va_G} {cT : Nat → ClassId} {H0 : Heap} {l : Launch} {p : Program} {e : Env} {s : State} {m : MethodId} {args : Array Value} {below : List Frame} {meth : Method} {c : Code} {S0 : gS} {S' : gS} {r : Int32} (Y : gY D cT H0 p s m args meth c prog_2_method_14_code 4 "PlanText$Edition" 3 67 S0 (Option.some Jvm.ClassFile.FieldType.boolean)) {k19 : Nat → Option Nat → Int32 → gS → Option (Int32 × gS)} (hk19 : ∀ (x0 : Nat) (x1 : Option Nat) (x2 : Int32) (S : gS) (ls : Array Slot), k19 x0 x1 x2 S = some (r, S') → lv_has ls 4 [(0, va_rf (some x0)), (1, va_rf x1), (2, .int x2)] → gV D cT H0 p l e (gRm 3 67 S0) s m args below meth c (gQ D cT H0 below S0 S' (.inr (some (.int r))) s) S0 S (F0 m 19 ls [])) (x0 : Nat) (x1 : Option Nat) (x2 : Int32) (S : gS) (hden : B_Ed_isNeverMet_19 k19 x0 x1 x2 S = some (r, S')) {ls : Array Slot} (hl : lv_has ls 4 [(0, va_rf (some x0)), (1, va_rf x1), (2, .int x2)]) : gV D cT H0 p l e (gRm 3 67 S0) s m args below meth c (gQ D cT H0 below S0 S' (.inr (some (.int r))) s) S0 S (F0 m 19 ls []) := by
  obtain ⟨X, hZ, hex, hr, hE⟩ := id Y
  have hx := X.1
  have hb := X.2.1
  unfold B_Ed_isNeverMet_19 at hden
  refine gV.lift (fun _ _ _ _ => lv_iload_n hx hb d_Ed_isNeverMet_19 rfl (lv_at hl 2 rfl)) ?_
  refine gV.lift (fun _ _ _ _ => lv_bipush (v := 40) hx hb d_Ed_isNeverMet_20 (by decide)) ?_
  refine gV.lift2 (fun _ _ _ _ => lv_icmp_gt (tgt := 82) hx hb d_Ed_isNeverMet_22 (by decide)) (fun hc1 => ?_) (fun hc1 => ?_)
  · replace hden := gip hc1 hden
    refine gV.lift (fun _ _ _ _ => lv_iconst (v := 1) hx hb d_Ed_isNeverMet_82 (by decide)) ?_
    replace hden := gb hden
    obtain ⟨v2, hz, hden⟩ := hden
    obtain ⟨rfl, hz2, -⟩ := gZo_spec hz
    obtain ⟨rfl, rfl⟩ := gpi hden
    exact g_zret X hr hz2 d_Ed_isNeverMet_83
  · replace hden := gin hc1 hden
    refine gV.lift (fun _ _ _ _ => g_aload_n hx hb d_Ed_isNeverMet_25 rfl (lv_at hl 0 rfl)) ?_
    refine gV.lift (fun _ _ _ _ => lv_iload_n hx hb d_Ed_isNeverMet_26 rfl (lv_at hl 2 rfl)) ?_
    replace hden := gb hden
    obtain ⟨fs5, ho, hden⟩ := hden
    replace hden := gb2 hden
    obtain ⟨r4, S3, hz, hden⟩ := hden
    refine g_callV (As := [.int x2]) (rest := []) X hZ (c_Ed_planNumbered hz) cl_Ed (gOb_spec ho) q_303 q_2 q_565 q_301 q_302 ⟨by decide, by decide, by show _ = some 1; decide +kernel⟩ ⟨by decide, by decide⟩ hl.1 (Nat.le_of_ble_eq_true rfl) d_Ed_isNeverMet_27 rfl rfl ?_
    refine gV.liftS (nL := 4) (lv' := [(3, va_rf r4), (0, va_rf (some x0)), (1, va_rf x1), (2, .int x2)]) (fun _ _ _ _ => g_astore_n hx hb d_Ed_isNeverMet_30 rfl hl (by decide) rfl) (fun ls hl => ?_)
    refine gV.lift (fun _ _ _ _ => g_aload_n hx hb d_Ed_isNeverMet_31 rfl (lv_at hl 0 rfl)) ?_
    rcases r4 with _ | a6
    · replace hden := gN0 hden
      refine gV.lift (fun _ _ _ _ => lv_ifnullN (tgt := 76) hx hb d_Ed_isNeverMet_32 (by decide)) ?_
      exact w_Ed_isNeverMet_76 Y hk19 x0 x1 x2 S3 hden (lv_sub hl [1, 2, 3] rfl)
    · replace hden := gN1 hden
      refine gV.lift (fun _ _ _ _ => lv_ifnull hx hb d_Ed_isNeverMet_32) ?_
      refine gV.lift (fun _ _ _ _ => g_aload_n hx hb d_Ed_isNeverMet_35 rfl (lv_at hl 0 rfl)) ?_
      refine gV.lift (fun _ _ _ _ => g_aload_n hx hb d_Ed_isNeverMet_36 rfl (lv_at hl 2 rfl)) ?_
      replace hden := gb hden
      obtain ⟨fs9, ho, hden⟩ := hden
      replace hden := gb2 hden
      obtain ⟨v8, S7, hz, hden⟩ := hden
      refine g_callV (As := [va_rf x1]) (rest := []) X hZ (c_Pl_goesAheadOf hz) cl_Pl (gOb_spec ho) q_585 q_15 q_582 q_583 q_584 ⟨by decide, by decide, by show _ = some 1; decide +kernel⟩ ⟨by decide, by decide⟩ hl.1 (Nat.le_of_ble_eq_true rfl) d_Ed_isNeverMet_37 rfl rfl ?_
      refine gV.lift2 (fun _ _ _ _ => lv_if_eq (tgt := 76) hx hb d_Ed_isNeverMet_40 (by decide)) (fun hc10 => ?_) (fun hc10 => ?_)
      · replace hden := gip hc10 hden
        exact w_Ed_isNeverMet_76 Y hk19 x0 x1 x2 S7 hden (lv_sub hl [1, 2, 3] rfl)
      · replace hden := gin hc10 hden
        refine gV.lift (fun _ _ _ _ => g_aload_n hx hb d_Ed_isNeverMet_43 rfl (lv_at hl 0 rfl)) ?_
        replace hden := gb hden
        obtain ⟨r11, hv, hden⟩ := hden
        refine r_getR X cl_Pl (k := 2) hv (by decide) q_429 d_Ed_isNeverMet_44 ?_
        refine gV.lift (fun _ _ _ _ => g_aload_n hx hb d_Ed_isNeverMet_47 rfl (lv_at hl 2 rfl)) ?_
        replace hden := gb hden
        obtain ⟨a12, rfl, hden⟩ := hden
        replace hden := gb hden
        obtain ⟨r13, hv, hden⟩ := hden
        refine r_getR X cl_Pl (k := 2) hv (by decide) q_429 d_Ed_isNeverMet_48 ?_
        replace hden := gb hden
        obtain ⟨a14, rfl, hden⟩ := hden
        replace hden := gb hden
        obtain ⟨fs17, ho, hden⟩ := hden
        replace hden := gb2 hden
        obtain ⟨v16, S15, hz, hden⟩ := hden
        refine g_callV (As := [va_rf r13]) (rest := []) X hZ (c_Sx_endsWithin hz) cl_Sx (gOb_spec ho) q_666 q_13 q_663 q_664 q_665 ⟨by decide, by decide, by show _ = some 1; decide +kernel⟩ ⟨by decide, by decide⟩ hl.1 (Nat.le_of_ble_eq_true rfl) d_Ed_isNeverMet_51 rfl rfl ?_
        refine gV.lift2 (fun _ _ _ _ => lv_if_eq (tgt := 76) hx hb d_Ed_isNeverMet_54 (by decide)) (fun hc18 => ?_) (fun hc18 => ?_)
        · replace hden := gip hc18 hden
          exact w_Ed_isNeverMet_76 Y hk19 x0 (some a12) x2 S15 hden (lv_sub hl [1, 2, 3] rfl)
        · replace hden := gin hc18 hden
          refine gV.lift (fun _ _ _ _ => g_aload_n hx hb d_Ed_isNeverMet_57 rfl (lv_at hl 1 rfl)) ?_
          refine gV.lift (fun _ _ _ _ => g_aload_n hx hb d_Ed_isNeverMet_58 rfl (lv_at hl 2 rfl)) ?_
          refine gV.lift (fun _ _ _ _ => g_aload_n hx hb d_Ed_isNeverMet_59 rfl (lv_at hl 0 rfl)) ?_
          replace hden := gb hden
          obtain ⟨r19, hv, hden⟩ := hden
          refine r_getR X cl_Pl (k := 2) hv (by decide) q_429 d_Ed_isNeverMet_60 ?_
          replace hden := gb hden
          obtain ⟨a20, rfl, hden⟩ := hden
          replace hden := gb hden
          obtain ⟨v21, hv, hden⟩ := hden
          refine r_getI X cl_Sx (k := 2) hv (by decide) q_326 d_Ed_isNeverMet_63 ?_
          refine gV.lift (fun _ _ _ _ => lv_iconst (v := 1) hx hb d_Ed_isNeverMet_66 (by decide)) ?_
          refine gV.lift (fun _ _ _ _ => lv_iadd hx hb d_Ed_isNeverMet_67) ?_
          replace hden := gb hden
          obtain ⟨fs24, ho, hden⟩ := hden
          replace hden := gb2 hden
          obtain ⟨v23, S22, hz, hden⟩ := hden
          refine g_callV (As := [va_rf (some a12), .int (v21 + 1)]) (rest := []) X hZ (c_Ed_hoursLeft hz) cl_Ed (gOb_spec ho) q_661 q_2 q_658 q_660 qp_17 ⟨by decide, by decide, by show _ = some 2; decide +kernel⟩ ⟨by decide, by decide⟩ hl.1 (Nat.le_of_ble_eq_true rfl) d_Ed_isNeverMet_68 rfl rfl ?_
          refine gV.lift2 (fun _ _ _ _ => lv_if_eq (tgt := 76) hx hb d_Ed_isNeverMet_71 (by decide)) (fun hc25 => ?_) (fun hc25 => ?_)
          · replace hden := gip hc25 hden
            exact w_Ed_isNeverMet_76 Y hk19 x0 (some a12) x2 S22 hden (lv_sub hl [1, 2, 3] rfl)
          · replace hden := gin hc25 hden
            refine gV.lift (fun _ _ _ _ => lv_iconst (v := 0) hx hb d_Ed_isNeverMet_74 (by decide)) ?_
            replace hden := gb hden
            obtain ⟨v26, hz, hden⟩ := hden
            obtain ⟨rfl, hz2, -⟩ := gZo_spec hz
            obtain ⟨rfl, rfl⟩ := gpi hden
            exact g_zret X hr hz2 d_Ed_isNeverMet_75
def L_Ed_isNeverMet_19  : Nat → Nat → Option Nat → Int32 → gS → Option (Int32 × gS)
  | 0 => fun _ _ _ _ => none
  | n + 1 => fun x0 x1 x2 S => B_Ed_isNeverMet_19  (L_Ed_isNeverMet_19  n) x0 x1 x2 S
theorem wL_Ed_isNeverMet_19 {D : va_G} {cT : Nat → ClassId} {H0 : Heap} {l : Launch} {p : Program} {e : Env} {s : State} {m : MethodId} {args : Array Value} {below : List Frame} {meth : Method} {c : Code} {S0 : gS} {S' : gS} {r : Int32} (Y : gY D cT H0 p s m args meth c prog_2_method_14_code 4 "PlanText$Edition" 3 67 S0 (Option.some Jvm.ClassFile.FieldType.boolean))  : ∀ (n : Nat) (x0 : Nat) (x1 : Option Nat) (x2 : Int32) (S : gS) (ls : Array Slot), L_Ed_isNeverMet_19  n x0 x1 x2 S = some (r, S') → lv_has ls 4 [(0, va_rf (some x0)), (1, va_rf x1), (2, .int x2)] → gV D cT H0 p l e (gRm 3 67 S0) s m args below meth c (gQ D cT H0 below S0 S' (.inr (some (.int r))) s) S0 S (F0 m 19 ls []) := by
  intro n
  induction n with
  | zero => intro x0 x1 x2 S ls h hl; cases h
  | succ n ih => intro x0 x1 x2 S ls h hl; exact w_Ed_isNeverMet_19 Y ih x0 x1 x2 S h hl
def D_Ed_isNeverMet (h0 : Nat) (p0 : Option Nat) (S : gS) : Option (Int32 × gS) := Option.bind p0 (fun a1 => Option.bind (gRf S a1 5 2) (fun r2 => Option.bind r2 (fun a3 => Option.bind (gI S a3 9 1) (fun v4 => Option.bind (gOb S h0 1) (fun fs7 => gB2 (D_Ed_hoursLeft h0 (some a1) v4 S) (fun v6 S5 => (if v6 = 0 then L_Ed_isNeverMet_19  gF h0 (some a1) 1 S5 else Option.bind (gZo 0) (fun v9 => some (v9, S5)))))))))
set_option maxRecDepth 100000 in
set_option maxHeartbeats 4000000 in
theorem c_Ed_isNeverMet {D : va_G} {cT : Nat → ClassId} {H0 : Heap} {l : Launch} {S : gS} {S' : gS} {h0 : Nat} {p0 : Option Nat} {r : Int32} (hden : D_Ed_isNeverMet h0 p0 S = some (r, S')) : gM D cT H0 l y_Ed_isNeverMet (Cond.code y_Ed_isNeverMet prog_2_method_14_code 4 (Option.some Jvm.ClassFile.FieldType.boolean)) 3 67 [va_rf (some h0), va_rf p0] S S' (.inr (some (.int r))) := by
  refine gM.ofV (by decide) ?_
  intro p e s m args below meth c s₁ B hml ea X hZ hex hr hE
  subst ea
  have Y : gY D cT H0 p s m _ meth c prog_2_method_14_code 4 "PlanText$Edition" 3 67 S (Option.some Jvm.ClassFile.FieldType.boolean) := ⟨X, hZ, hex, hr, hE⟩
  have hx := X.1
  have hb := X.2.1
  have hl := lv_entry ([va_rf (some h0), va_rf p0]) (n := 4) (by cases p0 <;> exact Nat.le_of_ble_eq_true rfl)
  rw [lg_entry_eq]
  generalize (lg_sl ([va_rf (some h0), va_rf p0]) ++ List.replicate (4 - (lg_sl ([va_rf (some h0), va_rf p0])).length) Slot.unset).toArray = ls at hl ⊢
  have hl : lv_has ls 4 [(0, va_rf (some h0)), (1, va_rf p0)] := by cases p0 <;> exact hl
  unfold D_Ed_isNeverMet at hden
  refine gV.lift (fun _ _ _ _ => g_aload_n hx hb d_Ed_isNeverMet_0 rfl (lv_at hl 0 rfl)) ?_
  refine gV.lift (fun _ _ _ _ => g_aload_n hx hb d_Ed_isNeverMet_1 rfl (lv_at hl 1 rfl)) ?_
  refine gV.lift (fun _ _ _ _ => g_aload_n hx hb d_Ed_isNeverMet_2 rfl (lv_at hl 1 rfl)) ?_
  replace hden := gb hden
  obtain ⟨a1, rfl, hden⟩ := hden
  replace hden := gb hden
  obtain ⟨r2, hv, hden⟩ := hden
  refine r_getR X cl_Pl (k := 2) hv (by decide) q_429 d_Ed_isNeverMet_3 ?_
  replace hden := gb hden
  obtain ⟨a3, rfl, hden⟩ := hden
  replace hden := gb hden
  obtain ⟨v4, hv, hden⟩ := hden
  refine r_getI X cl_Sx (k := 1) hv (by decide) q_323 d_Ed_isNeverMet_6 ?_
  replace hden := gb hden
  obtain ⟨fs7, ho, hden⟩ := hden
  replace hden := gb2 hden
  obtain ⟨v6, S5, hz, hden⟩ := hden
  refine g_callV (As := [va_rf (some a1), .int v4]) (rest := []) X hZ (c_Ed_hoursLeft hz) cl_Ed (gOb_spec ho) q_661 q_2 q_658 q_660 qp_17 ⟨by decide, by decide, by show _ = some 2; decide +kernel⟩ ⟨by decide, by decide⟩ hl.1 (Nat.le_of_ble_eq_true rfl) d_Ed_isNeverMet_9 rfl rfl ?_
  refine gV.lift2 (fun _ _ _ _ => lv_if_eq (tgt := 17) hx hb d_Ed_isNeverMet_12 (by decide)) (fun hc8 => ?_) (fun hc8 => ?_)
  · replace hden := gip hc8 hden
    refine gV.lift (fun _ _ _ _ => lv_iconst (v := 1) hx hb d_Ed_isNeverMet_17 (by decide)) ?_
    refine gV.liftS (nL := 4) (lv' := [(2, .int 1), (0, va_rf (some h0)), (1, va_rf (some a1))]) (fun _ _ _ _ => lv_istore_n hx hb d_Ed_isNeverMet_18 rfl hl (by decide) rfl) (fun ls hl => ?_)
    exact wL_Ed_isNeverMet_19 Y  gF h0 (some a1) 1 S5 _ hden (lv_sub hl [1, 2, 0] rfl)
  · replace hden := gin hc8 hden
    refine gV.lift (fun _ _ _ _ => lv_iconst (v := 0) hx hb d_Ed_isNeverMet_15 (by decide)) ?_
    replace hden := gb hden
    obtain ⟨v9, hz, hden⟩ := hden
    obtain ⟨rfl, hz2, -⟩ := gZo_spec hz
    obtain ⟨rfl, rfl⟩ := gpi hden
    exact g_zret X hr hz2 d_Ed_isNeverMet_16
/-! PlanText$Edition.plansNeverMet()J -/
abbrev y_Ed_plansNeverMet : MethodName := ⟨"PlanText$Edition", "plansNeverMet", "()J"⟩
theorem d_Ed_plansNeverMet_0 : decode prog_2_method_12_code 0 = .ok (.lconst 0, 1) := by decide +kernel
theorem d_Ed_plansNeverMet_1 : decode prog_2_method_12_code 1 = .ok (.lstore_n 1, 1) := by decide +kernel
theorem d_Ed_plansNeverMet_2 : decode prog_2_method_12_code 2 = .ok (.iconst 1, 1) := by decide +kernel
theorem d_Ed_plansNeverMet_3 : decode prog_2_method_12_code 3 = .ok (.istore_n 3, 1) := by decide +kernel
theorem d_Ed_plansNeverMet_4 : decode prog_2_method_12_code 4 = .ok (.iload_n 3, 1) := by decide +kernel
theorem d_Ed_plansNeverMet_5 : decode prog_2_method_12_code 5 = .ok (.bipush 40, 2) := by decide +kernel
theorem d_Ed_plansNeverMet_7 : decode prog_2_method_12_code 7 = .ok (.if_icmp .gt 36, 3) := by decide +kernel
theorem d_Ed_plansNeverMet_10 : decode prog_2_method_12_code 10 = .ok (.aload_n 0, 1) := by decide +kernel
theorem d_Ed_plansNeverMet_11 : decode prog_2_method_12_code 11 = .ok (.iload_n 3, 1) := by decide +kernel
theorem d_Ed_plansNeverMet_12 : decode prog_2_method_12_code 12 = .ok (.invokevirtual 49, 3) := by decide +kernel
theorem d_Ed_plansNeverMet_15 : decode prog_2_method_12_code 15 = .ok (.astore 4, 2) := by decide +kernel
theorem d_Ed_plansNeverMet_17 : decode prog_2_method_12_code 17 = .ok (.aload 4, 2) := by decide +kernel
theorem d_Ed_plansNeverMet_19 : decode prog_2_method_12_code 19 = .ok (.ifnull 18, 3) := by decide +kernel
theorem d_Ed_plansNeverMet_22 : decode prog_2_method_12_code 22 = .ok (.aload_n 0, 1) := by decide +kernel
theorem d_Ed_plansNeverMet_23 : decode prog_2_method_12_code 23 = .ok (.aload 4, 2) := by decide +kernel
theorem d_Ed_plansNeverMet_25 : decode prog_2_method_12_code 25 = .ok (.invokevirtual 75, 3) := by decide +kernel
theorem d_Ed_plansNeverMet_28 : decode prog_2_method_12_code 28 = .ok (.ifCond .eq 9, 3) := by decide +kernel
theorem d_Ed_plansNeverMet_31 : decode prog_2_method_12_code 31 = .ok (.lload_n 1, 1) := by decide +kernel
theorem d_Ed_plansNeverMet_32 : decode prog_2_method_12_code 32 = .ok (.lconst 1, 1) := by decide +kernel
theorem d_Ed_plansNeverMet_33 : decode prog_2_method_12_code 33 = .ok (.iload_n 3, 1) := by decide +kernel
theorem d_Ed_plansNeverMet_34 : decode prog_2_method_12_code 34 = .ok (.lshl, 1) := by decide +kernel
theorem d_Ed_plansNeverMet_35 : decode prog_2_method_12_code 35 = .ok (.lor, 1) := by decide +kernel
theorem d_Ed_plansNeverMet_36 : decode prog_2_method_12_code 36 = .ok (.lstore_n 1, 1) := by decide +kernel
theorem d_Ed_plansNeverMet_37 : decode prog_2_method_12_code 37 = .ok (.iinc 3 1, 3) := by decide +kernel
theorem d_Ed_plansNeverMet_40 : decode prog_2_method_12_code 40 = .ok (.goto (-36), 3) := by decide +kernel
theorem d_Ed_plansNeverMet_43 : decode prog_2_method_12_code 43 = .ok (.lload_n 1, 1) := by decide +kernel
theorem d_Ed_plansNeverMet_44 : decode prog_2_method_12_code 44 = .ok (.lreturn, 1) := by decide +kernel
def B_Ed_plansNeverMet_37 (k4 : Nat → Int64 → Int32 → gS → Option (Int64 × gS)) (x0 : Nat) (x1 : Int64) (x3 : Int32) (S : gS) : Option (Int64 × gS) := k4 x0 x1 (x3 + 1) S
set_option maxRecDepth 100000 in
set_option maxHeartbeats 4000000 in
theorem w_Ed_plansNeverMet_37 {D : va_G} {cT : Nat → ClassId} {H0 : Heap} {l : Launch} {p : Program} {e : Env} {s : State} {m : MethodId} {args : Array Value} {below : List Frame} {meth : Method} {c : Code} {S0 : gS} {S' : gS} {r : Int64} (Y : gY D cT H0 p s m args meth c prog_2_method_12_code 5 "PlanText$Edition" 4 90 S0 (Option.some Jvm.ClassFile.FieldType.long)) {k4 : Nat → Int64 → Int32 → gS → Option (Int64 × gS)} (hk4 : ∀ (x0 : Nat) (x1 : Int64) (x3 : Int32) (S : gS) (ls : Array Slot), k4 x0 x1 x3 S = some (r, S') → lv_has ls 5 [(0, va_rf (some x0)), (1, .long x1), (3, .int x3)] → gV D cT H0 p l e (gRm 4 90 S0) s m args below meth c (gQ D cT H0 below S0 S' (.inr (some (.long r))) s) S0 S (F0 m 4 ls [])) (x0 : Nat) (x1 : Int64) (x3 : Int32) (S : gS) (hden : B_Ed_plansNeverMet_37 k4 x0 x1 x3 S = some (r, S')) {ls : Array Slot} (hl : lv_has ls 5 [(0, va_rf (some x0)), (1, .long x1), (3, .int x3)]) : gV D cT H0 p l e (gRm 4 90 S0) s m args below meth c (gQ D cT H0 below S0 S' (.inr (some (.long r))) s) S0 S (F0 m 37 ls []) := by
  obtain ⟨X, hZ, hex, hr, hE⟩ := id Y
  have hx := X.1
  have hb := X.2.1
  unfold B_Ed_plansNeverMet_37 at hden
  refine gV.liftS (nL := 5) (lv' := [(3, .int (x3 + 1)), (0, va_rf (some x0)), (1, .long x1)]) (fun _ _ _ _ => lv_iinc (v := (x3 + 1)) hx hb d_Ed_plansNeverMet_37 hl (k := 2) rfl rfl (by decide) rfl) (fun ls hl => ?_)
  refine gV.lift (fun _ _ _ _ => lv_goto (tgt := 4) hx hb d_Ed_plansNeverMet_40 (by decide)) ?_
  exact hk4 x0 x1 (x3 + 1) S _ hden (lv_sub hl [1, 2, 0] rfl)
def B_Ed_plansNeverMet_4 (k4 : Nat → Int64 → Int32 → gS → Option (Int64 × gS)) (x0 : Nat) (x1 : Int64) (x3 : Int32) (S : gS) : Option (Int64 × gS) := (if 40 < x3 then some (x1, S) else Option.bind (gOb S x0 1) (fun fs4 => gB2 (D_Ed_planNumbered x0 x3 S) (fun r3 S2 => gNul r3 (B_Ed_plansNeverMet_37 k4 x0 x1 x3 S2) (fun a5 => Option.bind (gOb S2 x0 1) (fun fs8 => gB2 (D_Ed_isNeverMet x0 (some a5) S2) (fun v7 S6 => (if v7 = 0 then B_Ed_plansNeverMet_37 k4 x0 x1 x3 S6 else B_Ed_plansNeverMet_37 k4 x0 (x1 ||| ((1 : Int64) <<< (x3.toInt64 &&& 63))) x3 S6)))))))
set_option maxRecDepth 100000 in
set_option maxHeartbeats 4000000 in
theorem w_Ed_plansNeverMet_4 {D : va_G} {cT : Nat → ClassId} {H0 : Heap} {l : Launch} {p : Program} {e : Env} {s : State} {m : MethodId} {args : Array Value} {below : List Frame} {meth : Method} {c : Code} {S0 : gS} {S' : gS} {r : Int64} (Y : gY D cT H0 p s m args meth c prog_2_method_12_code 5 "PlanText$Edition" 4 90 S0 (Option.some Jvm.ClassFile.FieldType.long)) {k4 : Nat → Int64 → Int32 → gS → Option (Int64 × gS)} (hk4 : ∀ (x0 : Nat) (x1 : Int64) (x3 : Int32) (S : gS) (ls : Array Slot), k4 x0 x1 x3 S = some (r, S') → lv_has ls 5 [(0, va_rf (some x0)), (1, .long x1), (3, .int x3)] → gV D cT H0 p l e (gRm 4 90 S0) s m args below meth c (gQ D cT H0 below S0 S' (.inr (some (.long r))) s) S0 S (F0 m 4 ls [])) (x0 : Nat) (x1 : Int64) (x3 : Int32) (S : gS) (hden : B_Ed_plansNeverMet_4 k4 x0 x1 x3 S = some (r, S')) {ls : Array Slot} (hl : lv_has ls 5 [(0, va_rf (some x0)), (1, .long x1), (3, .int x3)]) : gV D cT H0 p l e (gRm 4 90 S0) s m args below meth c (gQ D cT H0 below S0 S' (.inr (some (.long r))) s) S0 S (F0 m 4 ls []) := by
  obtain ⟨X, hZ, hex, hr, hE⟩ := id Y
  have hx := X.1
  have hb := X.2.1
  unfold B_Ed_plansNeverMet_4 at hden
  refine gV.lift (fun _ _ _ _ => lv_iload_n hx hb d_Ed_plansNeverMet_4 rfl (lv_at hl 2 rfl)) ?_
  refine gV.lift (fun _ _ _ _ => lv_bipush (v := 40) hx hb d_Ed_plansNeverMet_5 (by decide)) ?_
  refine gV.lift2 (fun _ _ _ _ => lv_icmp_gt (tgt := 43) hx hb d_Ed_plansNeverMet_7 (by decide)) (fun hc1 => ?_) (fun hc1 => ?_)
  · replace hden := gip hc1 hden
    refine gV.lift (fun _ _ _ _ => lv_lload_n hx hb d_Ed_plansNeverMet_43 rfl (lv_at hl 1 rfl)) ?_
    obtain ⟨rfl, rfl⟩ := gpi hden
    exact g_lret X hr d_Ed_plansNeverMet_44
  · replace hden := gin hc1 hden
    refine gV.lift (fun _ _ _ _ => g_aload_n hx hb d_Ed_plansNeverMet_10 rfl (lv_at hl 0 rfl)) ?_
    refine gV.lift (fun _ _ _ _ => lv_iload_n hx hb d_Ed_plansNeverMet_11 rfl (lv_at hl 2 rfl)) ?_
    replace hden := gb hden
    obtain ⟨fs4, ho, hden⟩ := hden
    replace hden := gb2 hden
    obtain ⟨r3, S2, hz, hden⟩ := hden
    refine g_callV (As := [.int x3]) (rest := []) X hZ (c_Ed_planNumbered hz) cl_Ed (gOb_spec ho) q_303 q_2 q_565 q_301 q_302 ⟨by decide, by decide, by show _ = some 1; decide +kernel⟩ ⟨by decide, by decide⟩ hl.1 (Nat.le_of_ble_eq_true rfl) d_Ed_plansNeverMet_12 rfl rfl ?_
    refine gV.liftS (nL := 5) (lv' := [(4, va_rf r3), (0, va_rf (some x0)), (1, .long x1), (3, .int x3)]) (fun _ _ _ _ => g_astore hx hb d_Ed_plansNeverMet_15 hl (by decide) rfl) (fun ls hl => ?_)
    refine gV.lift (fun _ _ _ _ => g_aload hx hb d_Ed_plansNeverMet_17 (lv_at hl 0 rfl)) ?_
    rcases r3 with _ | a5
    · replace hden := gN0 hden
      refine gV.lift (fun _ _ _ _ => lv_ifnullN (tgt := 37) hx hb d_Ed_plansNeverMet_19 (by decide)) ?_
      exact w_Ed_plansNeverMet_37 Y hk4 x0 x1 x3 S2 hden (lv_sub hl [1, 2, 3] rfl)
    · replace hden := gN1 hden
      refine gV.lift (fun _ _ _ _ => lv_ifnull hx hb d_Ed_plansNeverMet_19) ?_
      refine gV.lift (fun _ _ _ _ => g_aload_n hx hb d_Ed_plansNeverMet_22 rfl (lv_at hl 1 rfl)) ?_
      refine gV.lift (fun _ _ _ _ => g_aload hx hb d_Ed_plansNeverMet_23 (lv_at hl 0 rfl)) ?_
      replace hden := gb hden
      obtain ⟨fs8, ho, hden⟩ := hden
      replace hden := gb2 hden
      obtain ⟨v7, S6, hz, hden⟩ := hden
      refine g_callV (As := [va_rf (some a5)]) (rest := []) X hZ (c_Ed_isNeverMet hz) cl_Ed (gOb_spec ho) q_657 q_2 q_654 q_656 qp_16 ⟨by decide, by decide, by show _ = some 1; decide +kernel⟩ ⟨by decide, by decide⟩ hl.1 (Nat.le_of_ble_eq_true rfl) d_Ed_plansNeverMet_25 rfl rfl ?_
      refine gV.lift2 (fun _ _ _ _ => lv_if_eq (tgt := 37) hx hb d_Ed_plansNeverMet_28 (by decide)) (fun hc9 => ?_) (fun hc9 => ?_)
      · replace hden := gip hc9 hden
        exact w_Ed_plansNeverMet_37 Y hk4 x0 x1 x3 S6 hden (lv_sub hl [1, 2, 3] rfl)
      · replace hden := gin hc9 hden
        refine gV.lift (fun _ _ _ _ => lv_lload_n hx hb d_Ed_plansNeverMet_31 rfl (lv_at hl 2 rfl)) ?_
        refine gV.lift (fun _ _ _ _ => lv_lconst (v := 1) hx hb d_Ed_plansNeverMet_32 (by decide)) ?_
        refine gV.lift (fun _ _ _ _ => lv_iload_n hx hb d_Ed_plansNeverMet_33 rfl (lv_at hl 3 rfl)) ?_
        refine gV.lift (fun _ _ _ _ => lv_lshl (v := ((1 : Int64) <<< (x3.toInt64 &&& 63))) hx hb d_Ed_plansNeverMet_34 rfl) ?_
        refine gV.lift (fun _ _ _ _ => lv_lor hx hb d_Ed_plansNeverMet_35) ?_
        refine gV.liftS (nL := 5) (lv' := [(1, .long (x1 ||| ((1 : Int64) <<< (x3.toInt64 &&& 63)))), (4, va_rf (some a5)), (0, va_rf (some x0)), (3, .int x3)]) (fun _ _ _ _ => lv_lstore_n hx hb d_Ed_plansNeverMet_36 rfl hl (by decide) rfl) (fun ls hl => ?_)
        exact w_Ed_plansNeverMet_37 Y hk4 x0 (x1 ||| ((1 : Int64) <<< (x3.toInt64 &&& 63))) x3 S6 hden (lv_sub hl [2, 0, 3] rfl)
def L_Ed_plansNeverMet_4  : Nat → Nat → Int64 → Int32 → gS → Option (Int64 × gS)
  | 0 => fun _ _ _ _ => none
  | n + 1 => fun x0 x1 x3 S => B_Ed_plansNeverMet_4  (L_Ed_plansNeverMet_4  n) x0 x1 x3 S
theorem wL_Ed_plansNeverMet_4 {D : va_G} {cT : Nat → ClassId} {H0 : Heap} {l : Launch} {p : Program} {e : Env} {s : State} {m : MethodId} {args : Array Value} {below : List Frame} {meth : Method} {c : Code} {S0 : gS} {S' : gS} {r : Int64} (Y : gY D cT H0 p s m args meth c prog_2_method_12_code 5 "PlanText$Edition" 4 90 S0 (Option.some Jvm.ClassFile.FieldType.long))  : ∀ (n : Nat) (x0 : Nat) (x1 : Int64) (x3 : Int32) (S : gS) (ls : Array Slot), L_Ed_plansNeverMet_4  n x0 x1 x3 S = some (r, S') → lv_has ls 5 [(0, va_rf (some x0)), (1, .long x1), (3, .int x3)] → gV D cT H0 p l e (gRm 4 90 S0) s m args below meth c (gQ D cT H0 below S0 S' (.inr (some (.long r))) s) S0 S (F0 m 4 ls []) := by
  intro n
  induction n with
  | zero => intro x0 x1 x3 S ls h hl; cases h
  | succ n ih => intro x0 x1 x3 S ls h hl; exact w_Ed_plansNeverMet_4 Y ih x0 x1 x3 S h hl
def D_Ed_plansNeverMet (h0 : Nat) (S : gS) : Option (Int64 × gS) := L_Ed_plansNeverMet_4  gF h0 0 1 S
set_option maxRecDepth 100000 in
set_option maxHeartbeats 4000000 in
theorem c_Ed_plansNeverMet {D : va_G} {cT : Nat → ClassId} {H0 : Heap} {l : Launch} {S : gS} {S' : gS} {h0 : Nat} {r : Int64} (hden : D_Ed_plansNeverMet h0 S = some (r, S')) : gM D cT H0 l y_Ed_plansNeverMet (Cond.code y_Ed_plansNeverMet prog_2_method_12_code 5 (Option.some Jvm.ClassFile.FieldType.long)) 4 90 [va_rf (some h0)] S S' (.inr (some (.long r))) := by
  refine gM.ofV (by decide) ?_
  intro p e s m args below meth c s₁ B hml ea X hZ hex hr hE
  subst ea
  have Y : gY D cT H0 p s m _ meth c prog_2_method_12_code 5 "PlanText$Edition" 4 90 S (Option.some Jvm.ClassFile.FieldType.long) := ⟨X, hZ, hex, hr, hE⟩
  have hx := X.1
  have hb := X.2.1
  have hl := lv_entry ([va_rf (some h0)]) (n := 5) (Nat.le_of_ble_eq_true rfl)
  rw [lg_entry_eq]
  generalize (lg_sl ([va_rf (some h0)]) ++ List.replicate (5 - (lg_sl ([va_rf (some h0)])).length) Slot.unset).toArray = ls at hl ⊢
  have hl : lv_has ls 5 [(0, va_rf (some h0))] := hl
  unfold D_Ed_plansNeverMet at hden
  refine gV.lift (fun _ _ _ _ => lv_lconst (v := 0) hx hb d_Ed_plansNeverMet_0 (by decide)) ?_
  refine gV.liftS (nL := 5) (lv' := [(1, .long 0), (0, va_rf (some h0))]) (fun _ _ _ _ => lv_lstore_n hx hb d_Ed_plansNeverMet_1 rfl hl (by decide) rfl) (fun ls hl => ?_)
  refine gV.lift (fun _ _ _ _ => lv_iconst (v := 1) hx hb d_Ed_plansNeverMet_2 (by decide)) ?_
  refine gV.liftS (nL := 5) (lv' := [(3, .int 1), (1, .long 0), (0, va_rf (some h0))]) (fun _ _ _ _ => lv_istore_n hx hb d_Ed_plansNeverMet_3 rfl hl (by decide) rfl) (fun ls hl => ?_)
  exact wL_Ed_plansNeverMet_4 Y  gF h0 0 1 S _ hden (lv_sub hl [2, 1, 0] rfl)
/-! PlanText$Edition.plansLacking([I)J -/
abbrev y_Ed_plansLacking : MethodName := ⟨"PlanText$Edition", "plansLacking", "([I)J"⟩
theorem d_Ed_plansLacking_0 : decode prog_2_method_13_code 0 = .ok (.lconst 0, 1) := by decide +kernel
theorem d_Ed_plansLacking_1 : decode prog_2_method_13_code 1 = .ok (.lstore_n 2, 1) := by decide +kernel
theorem d_Ed_plansLacking_2 : decode prog_2_method_13_code 2 = .ok (.iconst 1, 1) := by decide +kernel
theorem d_Ed_plansLacking_3 : decode prog_2_method_13_code 3 = .ok (.istore 4, 2) := by decide +kernel
theorem d_Ed_plansLacking_5 : decode prog_2_method_13_code 5 = .ok (.iload 4, 2) := by decide +kernel
theorem d_Ed_plansLacking_7 : decode prog_2_method_13_code 7 = .ok (.bipush 40, 2) := by decide +kernel
theorem d_Ed_plansLacking_9 : decode prog_2_method_13_code 9 = .ok (.if_icmp .gt 41, 3) := by decide +kernel
theorem d_Ed_plansLacking_12 : decode prog_2_method_13_code 12 = .ok (.aload_n 0, 1) := by decide +kernel
theorem d_Ed_plansLacking_13 : decode prog_2_method_13_code 13 = .ok (.iload 4, 2) := by decide +kernel
theorem d_Ed_plansLacking_15 : decode prog_2_method_13_code 15 = .ok (.invokevirtual 49, 3) := by decide +kernel
theorem d_Ed_plansLacking_18 : decode prog_2_method_13_code 18 = .ok (.astore 5, 2) := by decide +kernel
theorem d_Ed_plansLacking_20 : decode prog_2_method_13_code 20 = .ok (.aload 5, 2) := by decide +kernel
theorem d_Ed_plansLacking_22 : decode prog_2_method_13_code 22 = .ok (.ifnull 22, 3) := by decide +kernel
theorem d_Ed_plansLacking_25 : decode prog_2_method_13_code 25 = .ok (.aload 5, 2) := by decide +kernel
theorem d_Ed_plansLacking_27 : decode prog_2_method_13_code 27 = .ok (.getfield 78, 3) := by decide +kernel
theorem d_Ed_plansLacking_30 : decode prog_2_method_13_code 30 = .ok (.aload_n 1, 1) := by decide +kernel
theorem d_Ed_plansLacking_31 : decode prog_2_method_13_code 31 = .ok (.invokevirtual 82, 3) := by decide +kernel
theorem d_Ed_plansLacking_34 : decode prog_2_method_13_code 34 = .ok (.ifCond .eq 10, 3) := by decide +kernel
theorem d_Ed_plansLacking_37 : decode prog_2_method_13_code 37 = .ok (.lload_n 2, 1) := by decide +kernel
theorem d_Ed_plansLacking_38 : decode prog_2_method_13_code 38 = .ok (.lconst 1, 1) := by decide +kernel
theorem d_Ed_plansLacking_39 : decode prog_2_method_13_code 39 = .ok (.iload 4, 2) := by decide +kernel
theorem d_Ed_plansLacking_41 : decode prog_2_method_13_code 41 = .ok (.lshl, 1) := by decide +kernel
theorem d_Ed_plansLacking_42 : decode prog_2_method_13_code 42 = .ok (.lor, 1) := by decide +kernel
theorem d_Ed_plansLacking_43 : decode prog_2_method_13_code 43 = .ok (.lstore_n 2, 1) := by decide +kernel
theorem d_Ed_plansLacking_44 : decode prog_2_method_13_code 44 = .ok (.iinc 4 1, 3) := by decide +kernel
theorem d_Ed_plansLacking_47 : decode prog_2_method_13_code 47 = .ok (.goto (-42), 3) := by decide +kernel
theorem d_Ed_plansLacking_50 : decode prog_2_method_13_code 50 = .ok (.lload_n 2, 1) := by decide +kernel
theorem d_Ed_plansLacking_51 : decode prog_2_method_13_code 51 = .ok (.lreturn, 1) := by decide +kernel
def B_Ed_plansLacking_44 (k5 : Nat → Option Nat → Int64 → Int32 → gS → Option (Int64 × gS)) (x0 : Nat) (x1 : Option Nat) (x2 : Int64) (x4 : Int32) (S : gS) : Option (Int64 × gS) := k5 x0 x1 x2 (x4 + 1) S
set_option maxRecDepth 100000 in
set_option maxHeartbeats 4000000 in
theorem w_Ed_plansLacking_44 {D : va_G} {cT : Nat → ClassId} {H0 : Heap} {l : Launch} {p : Program} {e : Env} {s : State} {m : MethodId} {args : Array Value} {below : List Frame} {meth : Method} {c : Code} {S0 : gS} {S' : gS} {r : Int64} (Y : gY D cT H0 p s m args meth c prog_2_method_13_code 6 "PlanText$Edition" 3 66 S0 (Option.some Jvm.ClassFile.FieldType.long)) {k5 : Nat → Option Nat → Int64 → Int32 → gS → Option (Int64 × gS)} (hk5 : ∀ (x0 : Nat) (x1 : Option Nat) (x2 : Int64) (x4 : Int32) (S : gS) (ls : Array Slot), k5 x0 x1 x2 x4 S = some (r, S') → lv_has ls 6 [(0, va_rf (some x0)), (1, va_rf x1), (2, .long x2), (4, .int x4)] → gV D cT H0 p l e (gRm 3 66 S0) s m args below meth c (gQ D cT H0 below S0 S' (.inr (some (.long r))) s) S0 S (F0 m 5 ls [])) (x0 : Nat) (x1 : Option Nat) (x2 : Int64) (x4 : Int32) (S : gS) (hden : B_Ed_plansLacking_44 k5 x0 x1 x2 x4 S = some (r, S')) {ls : Array Slot} (hl : lv_has ls 6 [(0, va_rf (some x0)), (1, va_rf x1), (2, .long x2), (4, .int x4)]) : gV D cT H0 p l e (gRm 3 66 S0) s m args below meth c (gQ D cT H0 below S0 S' (.inr (some (.long r))) s) S0 S (F0 m 44 ls []) := by
  obtain ⟨X, hZ, hex, hr, hE⟩ := id Y
  have hx := X.1
  have hb := X.2.1
  unfold B_Ed_plansLacking_44 at hden
  refine gV.liftS (nL := 6) (lv' := [(4, .int (x4 + 1)), (0, va_rf (some x0)), (1, va_rf x1), (2, .long x2)]) (fun _ _ _ _ => lv_iinc (v := (x4 + 1)) hx hb d_Ed_plansLacking_44 hl (k := 3) rfl rfl (by decide) rfl) (fun ls hl => ?_)
  refine gV.lift (fun _ _ _ _ => lv_goto (tgt := 5) hx hb d_Ed_plansLacking_47 (by decide)) ?_
  exact hk5 x0 x1 x2 (x4 + 1) S _ hden (lv_sub hl [1, 2, 3, 0] rfl)
def B_Ed_plansLacking_5 (k5 : Nat → Option Nat → Int64 → Int32 → gS → Option (Int64 × gS)) (x0 : Nat) (x1 : Option Nat) (x2 : Int64) (x4 : Int32) (S : gS) : Option (Int64 × gS) := (if 40 < x4 then some (x2, S) else Option.bind (gOb S x0 1) (fun fs4 => gB2 (D_Ed_planNumbered x0 x4 S) (fun r3 S2 => gNul r3 (B_Ed_plansLacking_44 k5 x0 x1 x2 x4 S2) (fun a5 => Option.bind (gRf S2 a5 5 5) (fun r6 => Option.bind r6 (fun a7 => Option.bind (gOb S2 a7 4) (fun fs10 => gB2 (D_NL_hasOneAbove a7 x1 S2) (fun v9 S8 => (if v9 = 0 then B_Ed_plansLacking_44 k5 x0 x1 x2 x4 S8 else B_Ed_plansLacking_44 k5 x0 x1 (x2 ||| ((1 : Int64) <<< (x4.toInt64 &&& 63))) x4 S8)))))))))
set_option maxRecDepth 100000 in
set_option maxHeartbeats 4000000 in
theorem w_Ed_plansLacking_5 {D : va_G} {cT : Nat → ClassId} {H0 : Heap} {l : Launch} {p : Program} {e : Env} {s : State} {m : MethodId} {args : Array Value} {below : List Frame} {meth : Method} {c : Code} {S0 : gS} {S' : gS} {r : Int64} (Y : gY D cT H0 p s m args meth c prog_2_method_13_code 6 "PlanText$Edition" 3 66 S0 (Option.some Jvm.ClassFile.FieldType.long)) {k5 : Nat → Option Nat → Int64 → Int32 → gS → Option (Int64 × gS)} (hk5 : ∀ (x0 : Nat) (x1 : Option Nat) (x2 : Int64) (x4 : Int32) (S : gS) (ls : Array Slot), k5 x0 x1 x2 x4 S = some (r, S') → lv_has ls 6 [(0, va_rf (some x0)), (1, va_rf x1), (2, .long x2), (4, .int x4)] → gV D cT H0 p l e (gRm 3 66 S0) s m args below meth c (gQ D cT H0 below S0 S' (.inr (some (.long r))) s) S0 S (F0 m 5 ls [])) (x0 : Nat) (x1 : Option Nat) (x2 : Int64) (x4 : Int32) (S : gS) (hden : B_Ed_plansLacking_5 k5 x0 x1 x2 x4 S = some (r, S')) {ls : Array Slot} (hl : lv_has ls 6 [(0, va_rf (some x0)), (1, va_rf x1), (2, .long x2), (4, .int x4)]) : gV D cT H0 p l e (gRm 3 66 S0) s m args below meth c (gQ D cT H0 below S0 S' (.inr (some (.long r))) s) S0 S (F0 m 5 ls []) := by
  obtain ⟨X, hZ, hex, hr, hE⟩ := id Y
  have hx := X.1
  have hb := X.2.1
  unfold B_Ed_plansLacking_5 at hden
  refine gV.lift (fun _ _ _ _ => lv_iload hx hb d_Ed_plansLacking_5 (lv_at hl 3 rfl)) ?_
  refine gV.lift (fun _ _ _ _ => lv_bipush (v := 40) hx hb d_Ed_plansLacking_7 (by decide)) ?_
  refine gV.lift2 (fun _ _ _ _ => lv_icmp_gt (tgt := 50) hx hb d_Ed_plansLacking_9 (by decide)) (fun hc1 => ?_) (fun hc1 => ?_)
  · replace hden := gip hc1 hden
    refine gV.lift (fun _ _ _ _ => lv_lload_n hx hb d_Ed_plansLacking_50 rfl (lv_at hl 2 rfl)) ?_
    obtain ⟨rfl, rfl⟩ := gpi hden
    exact g_lret X hr d_Ed_plansLacking_51
  · replace hden := gin hc1 hden
    refine gV.lift (fun _ _ _ _ => g_aload_n hx hb d_Ed_plansLacking_12 rfl (lv_at hl 0 rfl)) ?_
    refine gV.lift (fun _ _ _ _ => lv_iload hx hb d_Ed_plansLacking_13 (lv_at hl 3 rfl)) ?_
    replace hden := gb hden
    obtain ⟨fs4, ho, hden⟩ := hden
    replace hden := gb2 hden
    obtain ⟨r3, S2, hz, hden⟩ := hden
    refine g_callV (As := [.int x4]) (rest := []) X hZ (c_Ed_planNumbered hz) cl_Ed (gOb_spec ho) q_303 q_2 q_565 q_301 q_302 ⟨by decide, by decide, by show _ = some 1; decide +kernel⟩ ⟨by decide, by decide⟩ hl.1 (Nat.le_of_ble_eq_true rfl) d_Ed_plansLacking_15 rfl rfl ?_
    refine gV.liftS (nL := 6) (lv' := [(5, va_rf r3), (0, va_rf (some x0)), (1, va_rf x1), (2, .long x2), (4, .int x4)]) (fun _ _ _ _ => g_astore hx hb d_Ed_plansLacking_18 hl (by decide) rfl) (fun ls hl => ?_)
    refine gV.lift (fun _ _ _ _ => g_aload hx hb d_Ed_plansLacking_20 (lv_at hl 0 rfl)) ?_
    rcases r3 with _ | a5
    · replace hden := gN0 hden
      refine gV.lift (fun _ _ _ _ => lv_ifnullN (tgt := 44) hx hb d_Ed_plansLacking_22 (by decide)) ?_
      exact w_Ed_plansLacking_44 Y hk5 x0 x1 x2 x4 S2 hden (lv_sub hl [1, 2, 3, 4] rfl)
    · replace hden := gN1 hden
      refine gV.lift (fun _ _ _ _ => lv_ifnull hx hb d_Ed_plansLacking_22) ?_
      refine gV.lift (fun _ _ _ _ => g_aload hx hb d_Ed_plansLacking_25 (lv_at hl 0 rfl)) ?_
      replace hden := gb hden
      obtain ⟨r6, hv, hden⟩ := hden
      refine r_getR X cl_Pl (k := 5) hv (by decide) q_438 d_Ed_plansLacking_27 ?_
      refine gV.lift (fun _ _ _ _ => g_aload_n hx hb d_Ed_plansLacking_30 rfl (lv_at hl 2 rfl)) ?_
      replace hden := gb hden
      obtain ⟨a7, rfl, hden⟩ := hden
      replace hden := gb hden
      obtain ⟨fs10, ho, hden⟩ := hden
      replace hden := gb2 hden
      obtain ⟨v9, S8, hz, hden⟩ := hden
      refine g_callV (As := [va_rf x1]) (rest := []) X hZ (c_NL_hasOneAbove hz) cl_NL (gOb_spec ho) q_684 q_3 q_681 q_682 q_683 ⟨by decide, by decide, by show _ = some 1; decide +kernel⟩ ⟨by decide, by decide⟩ hl.1 (Nat.le_of_ble_eq_true rfl) d_Ed_plansLacking_31 rfl rfl ?_
      refine gV.lift2 (fun _ _ _ _ => lv_if_eq (tgt := 44) hx hb d_Ed_plansLacking_34 (by decide)) (fun hc11 => ?_) (fun hc11 => ?_)
      · replace hden := gip hc11 hden
        exact w_Ed_plansLacking_44 Y hk5 x0 x1 x2 x4 S8 hden (lv_sub hl [1, 2, 3, 4] rfl)
      · replace hden := gin hc11 hden
        refine gV.lift (fun _ _ _ _ => lv_lload_n hx hb d_Ed_plansLacking_37 rfl (lv_at hl 3 rfl)) ?_
        refine gV.lift (fun _ _ _ _ => lv_lconst (v := 1) hx hb d_Ed_plansLacking_38 (by decide)) ?_
        refine gV.lift (fun _ _ _ _ => lv_iload hx hb d_Ed_plansLacking_39 (lv_at hl 4 rfl)) ?_
        refine gV.lift (fun _ _ _ _ => lv_lshl (v := ((1 : Int64) <<< (x4.toInt64 &&& 63))) hx hb d_Ed_plansLacking_41 rfl) ?_
        refine gV.lift (fun _ _ _ _ => lv_lor hx hb d_Ed_plansLacking_42) ?_
        refine gV.liftS (nL := 6) (lv' := [(2, .long (x2 ||| ((1 : Int64) <<< (x4.toInt64 &&& 63)))), (5, va_rf (some a5)), (0, va_rf (some x0)), (1, va_rf x1), (4, .int x4)]) (fun _ _ _ _ => lv_lstore_n hx hb d_Ed_plansLacking_43 rfl hl (by decide) (by cases x1 <;> rfl)) (fun ls hl => ?_)
        exact w_Ed_plansLacking_44 Y hk5 x0 x1 (x2 ||| ((1 : Int64) <<< (x4.toInt64 &&& 63))) x4 S8 hden (lv_sub hl [2, 3, 0, 4] rfl)
def L_Ed_plansLacking_5  : Nat → Nat → Option Nat → Int64 → Int32 → gS → Option (Int64 × gS)
  | 0 => fun _ _ _ _ _ => none
  | n + 1 => fun x0 x1 x2 x4 S => B_Ed_plansLacking_5  (L_Ed_plansLacking_5  n) x0 x1 x2 x4 S
theorem wL_Ed_plansLacking_5 {D : va_G} {cT : Nat → ClassId} {H0 : Heap} {l : Launch} {p : Program} {e : Env} {s : State} {m : MethodId} {args : Array Value} {below : List Frame} {meth : Method} {c : Code} {S0 : gS} {S' : gS} {r : Int64} (Y : gY D cT H0 p s m args meth c prog_2_method_13_code 6 "PlanText$Edition" 3 66 S0 (Option.some Jvm.ClassFile.FieldType.long))  : ∀ (n : Nat) (x0 : Nat) (x1 : Option Nat) (x2 : Int64) (x4 : Int32) (S : gS) (ls : Array Slot), L_Ed_plansLacking_5  n x0 x1 x2 x4 S = some (r, S') → lv_has ls 6 [(0, va_rf (some x0)), (1, va_rf x1), (2, .long x2), (4, .int x4)] → gV D cT H0 p l e (gRm 3 66 S0) s m args below meth c (gQ D cT H0 below S0 S' (.inr (some (.long r))) s) S0 S (F0 m 5 ls []) := by
  intro n
  induction n with
  | zero => intro x0 x1 x2 x4 S ls h hl; cases h
  | succ n ih => intro x0 x1 x2 x4 S ls h hl; exact w_Ed_plansLacking_5 Y ih x0 x1 x2 x4 S h hl
def D_Ed_plansLacking (h0 : Nat) (p0 : Option Nat) (S : gS) : Option (Int64 × gS) := L_Ed_plansLacking_5  gF h0 p0 0 1 S
set_option maxRecDepth 100000 in
set_option maxHeartbeats 4000000 in
theorem c_Ed_plansLacking {D : va_G} {cT : Nat → ClassId} {H0 : Heap} {l : Launch} {S : gS} {S' : gS} {h0 : Nat} {p0 : Option Nat} {r : Int64} (hden : D_Ed_plansLacking h0 p0 S = some (r, S')) : gM D cT H0 l y_Ed_plansLacking (Cond.code y_Ed_plansLacking prog_2_method_13_code 6 (Option.some Jvm.ClassFile.FieldType.long)) 3 66 [va_rf (some h0), va_rf p0] S S' (.inr (some (.long r))) := by
  refine gM.ofV (by decide) ?_
  intro p e s m args below meth c s₁ B hml ea X hZ hex hr hE
  subst ea
  have Y : gY D cT H0 p s m _ meth c prog_2_method_13_code 6 "PlanText$Edition" 3 66 S (Option.some Jvm.ClassFile.FieldType.long) := ⟨X, hZ, hex, hr, hE⟩
  have hx := X.1
  have hb := X.2.1
  have hl := lv_entry ([va_rf (some h0), va_rf p0]) (n := 6) (by cases p0 <;> exact Nat.le_of_ble_eq_true rfl)
  rw [lg_entry_eq]
  generalize (lg_sl ([va_rf (some h0), va_rf p0]) ++ List.replicate (6 - (lg_sl ([va_rf (some h0), va_rf p0])).length) Slot.unset).toArray = ls at hl ⊢
  have hl : lv_has ls 6 [(0, va_rf (some h0)), (1, va_rf p0)] := by cases p0 <;> exact hl
  unfold D_Ed_plansLacking at hden
  refine gV.lift (fun _ _ _ _ => lv_lconst (v := 0) hx hb d_Ed_plansLacking_0 (by decide)) ?_
  refine gV.liftS (nL := 6) (lv' := [(2, .long 0), (0, va_rf (some h0)), (1, va_rf p0)]) (fun _ _ _ _ => lv_lstore_n hx hb d_Ed_plansLacking_1 rfl hl (by decide) (by cases p0 <;> rfl)) (fun ls hl => ?_)
  refine gV.lift (fun _ _ _ _ => lv_iconst (v := 1) hx hb d_Ed_plansLacking_2 (by decide)) ?_
  refine gV.liftS (nL := 6) (lv' := [(4, .int 1), (2, .long 0), (0, va_rf (some h0)), (1, va_rf p0)]) (fun _ _ _ _ => lv_istore hx hb d_Ed_plansLacking_3 hl (by decide) rfl) (fun ls hl => ?_)
  exact wL_Ed_plansLacking_5 Y  gF h0 p0 0 1 S _ hden (lv_sub hl [2, 3, 1, 0] rfl)
