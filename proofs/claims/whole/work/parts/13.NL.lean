/-! PlanText$NeedList.<init>()V -/
abbrev y_NL_init : MethodName := ⟨"PlanText$NeedList", "<init>", "()V"⟩
theorem d_NL_init_0 : decode prog_5_method_1_code 0 = .ok (.aload_n 0, 1) := by decide +kernel
theorem d_NL_init_1 : decode prog_5_method_1_code 1 = .ok (.invokespecial 3, 3) := by decide +kernel
theorem d_NL_init_4 : decode prog_5_method_1_code 4 = .ok (.aload_n 0, 1) := by decide +kernel
theorem d_NL_init_5 : decode prog_5_method_1_code 5 = .ok (.iconst 5, 1) := by decide +kernel
theorem d_NL_init_6 : decode prog_5_method_1_code 6 = .ok (.anewarray 9, 3) := by decide +kernel
theorem d_NL_init_9 : decode prog_5_method_1_code 9 = .ok (.putfield 11, 3) := by decide +kernel
theorem d_NL_init_12 : decode prog_5_method_1_code 12 = .ok (.aload_n 0, 1) := by decide +kernel
theorem d_NL_init_13 : decode prog_5_method_1_code 13 = .ok (.iconst 0, 1) := by decide +kernel
theorem d_NL_init_14 : decode prog_5_method_1_code 14 = .ok (.putfield 17, 3) := by decide +kernel
theorem d_NL_init_17 : decode prog_5_method_1_code 17 = .ok (.return_, 1) := by decide +kernel
def D_NL_init (h0 : Nat) (S : gS) : Option gS := Option.bind (gNA S 8 5 (.inr (.inr (.inr (.inr (fun _ => none)))))) (fun S1 => Option.bind (gPut S1 h0 4 0 (va_rf (some S.2.1))) (fun S2 => Option.bind (gPut S2 h0 4 1 (.int 0)) (fun S3 => some S3)))
set_option maxRecDepth 100000 in
set_option maxHeartbeats 4000000 in
theorem c_NL_init {D : va_G} {cT : Nat → ClassId} {H0 : Heap} {l : Launch} {S : gS} {S' : gS} {h0 : Nat} (hden : D_NL_init h0 S = some S') : gM D cT H0 l y_NL_init (Cond.code y_NL_init prog_5_method_1_code 1 (Option.none : Option Jvm.ClassFile.FieldType)) 1 24 [va_rf (some h0)] S S' (.inr none) := by
  refine gM.ofV (by decide) ?_
  intro p e s m args below meth c s₁ B hml ea X hZ hex hr hE
  subst ea
  have Y : gY D cT H0 p s m _ meth c prog_5_method_1_code 1 "PlanText$NeedList" 1 24 S (Option.none : Option Jvm.ClassFile.FieldType) := ⟨X, hZ, hex, hr, hE⟩
  have hin : meth.name = "<init>" := (name_of_methodNamed B.named B.method).1
  have hx := X.1
  have hb := X.2.1
  have hl := lv_entry ([va_rf (some h0)]) (n := 1) (Nat.le_of_ble_eq_true rfl)
  rw [lg_entry_eq]
  generalize (lg_sl ([va_rf (some h0)]) ++ List.replicate (1 - (lg_sl ([va_rf (some h0)])).length) Slot.unset).toArray = ls at hl ⊢
  have hl : lv_has ls 1 [(0, va_rf (some h0))] := hl
  unfold D_NL_init at hden
  refine gV.lift (fun _ _ _ _ => g_aload_n hx hb d_NL_init_0 rfl (lv_at hl 0 rfl)) ?_
  refine g_objInit X q_74 q_26 q_27 hl.1 d_NL_init_1 ⟨by decide, Nat.le_of_ble_eq_true rfl⟩ ?_
  refine gV.lift (fun _ _ _ _ => g_aload_n hx hb d_NL_init_4 rfl (lv_at hl 0 rfl)) ?_
  refine gV.lift (fun _ _ _ _ => lv_iconst (v := 5) hx hb d_NL_init_5 (by decide)) ?_
  replace hden := gb hden
  obtain ⟨S1, hv, hden⟩ := hden
  refine r_anew X hZ (t := 8) rfl q_75 (by decide) hv d_NL_init_6 ?_
  replace hden := gb hden
  obtain ⟨S2, hv, hden⟩ := hden
  refine r_putF X cl_NL (k := 0) hv (by decide) q_77 rfl hin rfl g_narA g_fitA d_NL_init_9 ?_
  refine gV.lift (fun _ _ _ _ => g_aload_n hx hb d_NL_init_12 rfl (lv_at hl 0 rfl)) ?_
  refine gV.lift (fun _ _ _ _ => lv_iconst (v := 0) hx hb d_NL_init_13 (by decide)) ?_
  replace hden := gb hden
  obtain ⟨S3, hv, hden⟩ := hden
  refine r_put X cl_NL (k := 1) hv (by decide) q_78 rfl rfl rfl d_NL_init_14 ?_
  obtain rfl := gsi hden
  exact g_vret X hr d_NL_init_17
/-! PlanText$NeedList.add(LPlanText$Need;)V -/
abbrev y_NL_add : MethodName := ⟨"PlanText$NeedList", "add", "(LPlanText$Need;)V"⟩
theorem d_NL_add_0 : decode prog_5_method_2_code 0 = .ok (.aload_n 0, 1) := by decide +kernel
theorem d_NL_add_1 : decode prog_5_method_2_code 1 = .ok (.getfield 17, 3) := by decide +kernel
theorem d_NL_add_4 : decode prog_5_method_2_code 4 = .ok (.iconst 5, 1) := by decide +kernel
theorem d_NL_add_5 : decode prog_5_method_2_code 5 = .ok (.if_icmp .ge 23, 3) := by decide +kernel
theorem d_NL_add_8 : decode prog_5_method_2_code 8 = .ok (.aload_n 0, 1) := by decide +kernel
theorem d_NL_add_9 : decode prog_5_method_2_code 9 = .ok (.getfield 11, 3) := by decide +kernel
theorem d_NL_add_12 : decode prog_5_method_2_code 12 = .ok (.aload_n 0, 1) := by decide +kernel
theorem d_NL_add_13 : decode prog_5_method_2_code 13 = .ok (.getfield 17, 3) := by decide +kernel
theorem d_NL_add_16 : decode prog_5_method_2_code 16 = .ok (.aload_n 1, 1) := by decide +kernel
theorem d_NL_add_17 : decode prog_5_method_2_code 17 = .ok (.aastore, 1) := by decide +kernel
theorem d_NL_add_18 : decode prog_5_method_2_code 18 = .ok (.aload_n 0, 1) := by decide +kernel
theorem d_NL_add_19 : decode prog_5_method_2_code 19 = .ok (.dup, 1) := by decide +kernel
theorem d_NL_add_20 : decode prog_5_method_2_code 20 = .ok (.getfield 17, 3) := by decide +kernel
theorem d_NL_add_23 : decode prog_5_method_2_code 23 = .ok (.iconst 1, 1) := by decide +kernel
theorem d_NL_add_24 : decode prog_5_method_2_code 24 = .ok (.iadd, 1) := by decide +kernel
theorem d_NL_add_25 : decode prog_5_method_2_code 25 = .ok (.putfield 17, 3) := by decide +kernel
theorem d_NL_add_28 : decode prog_5_method_2_code 28 = .ok (.return_, 1) := by decide +kernel
def B_NL_add_28   (S : gS) : Option gS := some S
set_option maxRecDepth 100000 in
set_option maxHeartbeats 4000000 in
theorem w_NL_add_28 {D : va_G} {cT : Nat → ClassId} {H0 : Heap} {l : Launch} {p : Program} {e : Env} {s : State} {m : MethodId} {args : Array Value} {below : List Frame} {meth : Method} {c : Code} {S0 : gS} {S' : gS} (Y : gY D cT H0 p s m args meth c prog_5_method_2_code 2 "PlanText$NeedList" 0 0 S0 (Option.none : Option Jvm.ClassFile.FieldType))   (S : gS) (hden : B_NL_add_28   S = some S') {ls : Array Slot} (hl : lv_has ls 2 []) : gV D cT H0 p l e (gRm 0 0 S0) s m args below meth c (gQ D cT H0 below S0 S' (.inr none) s) S0 S (F0 m 28 ls []) := by
  obtain ⟨X, hZ, hex, hr, hE⟩ := id Y
  have hx := X.1
  have hb := X.2.1
  unfold B_NL_add_28 at hden
  obtain rfl := gsi hden
  exact g_vret X hr d_NL_add_28
def D_NL_add (h0 : Nat) (p0 : Option Nat) (S : gS) : Option gS := Option.bind (gI S h0 4 1) (fun v1 => (if 5 ≤ v1 then B_NL_add_28  S else Option.bind (gRf S h0 4 0) (fun r3 => Option.bind (gI S h0 4 1) (fun v4 => Option.bind r3 (fun a5 => Option.bind p0 (fun a7 => Option.bind (gSR S a5 8 v4 a7 3) (fun S6 => Option.bind (gI S6 h0 4 1) (fun v8 => Option.bind (gPut S6 h0 4 1 (.int (v8 + 1))) (fun S9 => B_NL_add_28  S9)))))))))
set_option maxRecDepth 100000 in
set_option maxHeartbeats 4000000 in
theorem c_NL_add {D : va_G} {cT : Nat → ClassId} {H0 : Heap} {l : Launch} {S : gS} {S' : gS} {h0 : Nat} {p0 : Option Nat} (hden : D_NL_add h0 p0 S = some S') : gM D cT H0 l y_NL_add (Cond.code y_NL_add prog_5_method_2_code 2 (Option.none : Option Jvm.ClassFile.FieldType)) 0 0 [va_rf (some h0), va_rf p0] S S' (.inr none) := by
  refine gM.ofV (by decide) ?_
  intro p e s m args below meth c s₁ B hml ea X hZ hex hr hE
  subst ea
  have Y : gY D cT H0 p s m _ meth c prog_5_method_2_code 2 "PlanText$NeedList" 0 0 S (Option.none : Option Jvm.ClassFile.FieldType) := ⟨X, hZ, hex, hr, hE⟩
  have hx := X.1
  have hb := X.2.1
  have hl := lv_entry ([va_rf (some h0), va_rf p0]) (n := 2) (by cases p0 <;> exact Nat.le_of_ble_eq_true rfl)
  rw [lg_entry_eq]
  generalize (lg_sl ([va_rf (some h0), va_rf p0]) ++ List.replicate (2 - (lg_sl ([va_rf (some h0), va_rf p0])).length) Slot.unset).toArray = ls at hl ⊢
  have hl : lv_has ls 2 [(0, va_rf (some h0)), (1, va_rf p0)] := by cases p0 <;> exact hl
  unfold D_NL_add at hden
  refine gV.lift (fun _ _ _ _ => g_aload_n hx hb d_NL_add_0 rfl (lv_at hl 0 rfl)) ?_
  replace hden := gb hden
  obtain ⟨v1, hv, hden⟩ := hden
  refine r_getI X cl_NL (k := 1) hv (by decide) q_78 d_NL_add_1 ?_
  refine gV.lift (fun _ _ _ _ => lv_iconst (v := 5) hx hb d_NL_add_4 (by decide)) ?_
  refine gV.lift2 (fun _ _ _ _ => lv_icmp_ge (tgt := 28) hx hb d_NL_add_5 (by decide)) (fun hc2 => ?_) (fun hc2 => ?_)
  · replace hden := gip hc2 hden
    exact w_NL_add_28 Y  S hden (lv_sub hl [] rfl)
  · replace hden := gin hc2 hden
    refine gV.lift (fun _ _ _ _ => g_aload_n hx hb d_NL_add_8 rfl (lv_at hl 0 rfl)) ?_
    replace hden := gb hden
    obtain ⟨r3, hv, hden⟩ := hden
    refine r_getR X cl_NL (k := 0) hv (by decide) q_77 d_NL_add_9 ?_
    refine gV.lift (fun _ _ _ _ => g_aload_n hx hb d_NL_add_12 rfl (lv_at hl 0 rfl)) ?_
    replace hden := gb hden
    obtain ⟨v4, hv, hden⟩ := hden
    refine r_getI X cl_NL (k := 1) hv (by decide) q_78 d_NL_add_13 ?_
    refine gV.lift (fun _ _ _ _ => g_aload_n hx hb d_NL_add_16 rfl (lv_at hl 1 rfl)) ?_
    replace hden := gb hden
    obtain ⟨a5, rfl, hden⟩ := hden
    replace hden := gb hden
    obtain ⟨a7, rfl, hden⟩ := hden
    replace hden := gb hden
    obtain ⟨S6, hv, hden⟩ := hden
    refine r_aast X cl_Nd (t := 8) rfl hv d_NL_add_17 ?_
    refine gV.lift (fun _ _ _ _ => g_aload_n hx hb d_NL_add_18 rfl (lv_at hl 0 rfl)) ?_
    refine gV.lift (fun _ _ _ _ => lv_dup hx hb d_NL_add_19 g_cat) ?_
    replace hden := gb hden
    obtain ⟨v8, hv, hden⟩ := hden
    refine r_getI X cl_NL (k := 1) hv (by decide) q_78 d_NL_add_20 ?_
    refine gV.lift (fun _ _ _ _ => lv_iconst (v := 1) hx hb d_NL_add_23 (by decide)) ?_
    refine gV.lift (fun _ _ _ _ => lv_iadd hx hb d_NL_add_24) ?_
    replace hden := gb hden
    obtain ⟨S9, hv, hden⟩ := hden
    refine r_put X cl_NL (k := 1) hv (by decide) q_78 rfl rfl rfl d_NL_add_25 ?_
    exact w_NL_add_28 Y  S9 hden (lv_sub hl [] rfl)
/-! PlanText$NeedList.needAt(I)LPlanText$Need; -/
abbrev y_NL_needAt : MethodName := ⟨"PlanText$NeedList", "needAt", "(I)LPlanText$Need;"⟩
theorem d_NL_needAt_0 : decode prog_5_method_3_code 0 = .ok (.iload_n 1, 1) := by decide +kernel
theorem d_NL_needAt_1 : decode prog_5_method_3_code 1 = .ok (.ifCond .lt 20, 3) := by decide +kernel
theorem d_NL_needAt_4 : decode prog_5_method_3_code 4 = .ok (.iload_n 1, 1) := by decide +kernel
theorem d_NL_needAt_5 : decode prog_5_method_3_code 5 = .ok (.aload_n 0, 1) := by decide +kernel
theorem d_NL_needAt_6 : decode prog_5_method_3_code 6 = .ok (.getfield 17, 3) := by decide +kernel
theorem d_NL_needAt_9 : decode prog_5_method_3_code 9 = .ok (.if_icmp .ge 12, 3) := by decide +kernel
theorem d_NL_needAt_12 : decode prog_5_method_3_code 12 = .ok (.aload_n 0, 1) := by decide +kernel
theorem d_NL_needAt_13 : decode prog_5_method_3_code 13 = .ok (.getfield 11, 3) := by decide +kernel
theorem d_NL_needAt_16 : decode prog_5_method_3_code 16 = .ok (.iload_n 1, 1) := by decide +kernel
theorem d_NL_needAt_17 : decode prog_5_method_3_code 17 = .ok (.aaload, 1) := by decide +kernel
theorem d_NL_needAt_18 : decode prog_5_method_3_code 18 = .ok (.goto 4, 3) := by decide +kernel
theorem d_NL_needAt_21 : decode prog_5_method_3_code 21 = .ok (.aconst_null, 1) := by decide +kernel
theorem d_NL_needAt_22 : decode prog_5_method_3_code 22 = .ok (.areturn, 1) := by decide +kernel
def B_NL_needAt_22  (t0 : Option Nat) (S : gS) : Option ((Option Nat) × gS) := some (t0, S)
set_option maxRecDepth 100000 in
set_option maxHeartbeats 4000000 in
theorem w_NL_needAt_22 {D : va_G} {cT : Nat → ClassId} {H0 : Heap} {l : Launch} {p : Program} {e : Env} {s : State} {m : MethodId} {args : Array Value} {below : List Frame} {meth : Method} {c : Code} {S0 : gS} {S' : gS} {r : Option Nat} (Y : gY D cT H0 p s m args meth c prog_5_method_3_code 2 "PlanText$NeedList" 0 0 S0 (Option.some (Jvm.ClassFile.FieldType.object "PlanText$Need")))  (t0 : Option Nat) (S : gS) (hden : B_NL_needAt_22  t0 S = some (r, S')) {ls : Array Slot} (hl : lv_has ls 2 []) : gV D cT H0 p l e (gRm 0 0 S0) s m args below meth c (gQ D cT H0 below S0 S' (.inr (some (va_rf r))) s) S0 S (F0 m 22 ls [va_rf t0]) := by
  obtain ⟨X, hZ, hex, hr, hE⟩ := id Y
  have hx := X.1
  have hb := X.2.1
  unfold B_NL_needAt_22 at hden
  obtain ⟨rfl, rfl⟩ := gpi hden
  exact g_aret X hr d_NL_needAt_22
def B_NL_needAt_21   (S : gS) : Option ((Option Nat) × gS) := B_NL_needAt_22  none S
set_option maxRecDepth 100000 in
set_option maxHeartbeats 4000000 in
theorem w_NL_needAt_21 {D : va_G} {cT : Nat → ClassId} {H0 : Heap} {l : Launch} {p : Program} {e : Env} {s : State} {m : MethodId} {args : Array Value} {below : List Frame} {meth : Method} {c : Code} {S0 : gS} {S' : gS} {r : Option Nat} (Y : gY D cT H0 p s m args meth c prog_5_method_3_code 2 "PlanText$NeedList" 0 0 S0 (Option.some (Jvm.ClassFile.FieldType.object "PlanText$Need")))   (S : gS) (hden : B_NL_needAt_21   S = some (r, S')) {ls : Array Slot} (hl : lv_has ls 2 []) : gV D cT H0 p l e (gRm 0 0 S0) s m args below meth c (gQ D cT H0 below S0 S' (.inr (some (va_rf r))) s) S0 S (F0 m 21 ls []) := by
  obtain ⟨X, hZ, hex, hr, hE⟩ := id Y
  have hx := X.1
  have hb := X.2.1
  unfold B_NL_needAt_21 at hden
  refine gV.lift (fun _ _ _ _ => lv_null hx hb d_NL_needAt_21) ?_
  exact w_NL_needAt_22 Y  none S hden (lv_sub hl [] rfl)
def D_NL_needAt (h0 : Nat) (p0 : Int32) (S : gS) : Option ((Option Nat) × gS) := (if p0 < 0 then B_NL_needAt_21  S else Option.bind (gI S h0 4 1) (fun v2 => (if v2 ≤ p0 then B_NL_needAt_21  S else Option.bind (gRf S h0 4 0) (fun r4 => Option.bind r4 (fun a5 => Option.bind (gAR S a5 8 p0) (fun r6 => B_NL_needAt_22  r6 S))))))
set_option maxRecDepth 100000 in
set_option maxHeartbeats 4000000 in
theorem c_NL_needAt {D : va_G} {cT : Nat → ClassId} {H0 : Heap} {l : Launch} {S : gS} {S' : gS} {h0 : Nat} {p0 : Int32} {r : Option Nat} (hden : D_NL_needAt h0 p0 S = some (r, S')) : gM D cT H0 l y_NL_needAt (Cond.code y_NL_needAt prog_5_method_3_code 2 (Option.some (Jvm.ClassFile.FieldType.object "PlanText$Need"))) 0 0 [va_rf (some h0), .int p0] S S' (.inr (some (va_rf r))) := by
  refine gM.ofV (by decide) ?_
  intro p e s m args below meth c s₁ B hml ea X hZ hex hr hE
  subst ea
  have Y : gY D cT H0 p s m _ meth c prog_5_method_3_code 2 "PlanText$NeedList" 0 0 S (Option.some (Jvm.ClassFile.FieldType.object "PlanText$Need")) := ⟨X, hZ, hex, hr, hE⟩
  have hx := X.1
  have hb := X.2.1
  have hl := lv_entry ([va_rf (some h0), .int p0]) (n := 2) (Nat.le_of_ble_eq_true rfl)
  rw [lg_entry_eq]
  generalize (lg_sl ([va_rf (some h0), .int p0]) ++ List.replicate (2 - (lg_sl ([va_rf (some h0), .int p0])).length) Slot.unset).toArray = ls at hl ⊢
  have hl : lv_has ls 2 [(0, va_rf (some h0)), (1, .int p0)] := hl
  unfold D_NL_needAt at hden
  refine gV.lift (fun _ _ _ _ => lv_iload_n hx hb d_NL_needAt_0 rfl (lv_at hl 1 rfl)) ?_
  refine gV.lift2 (fun _ _ _ _ => lv_if_lt (tgt := 21) hx hb d_NL_needAt_1 (by decide)) (fun hc1 => ?_) (fun hc1 => ?_)
  · replace hden := gip hc1 hden
    exact w_NL_needAt_21 Y  S hden (lv_sub hl [] rfl)
  · replace hden := gin hc1 hden
    refine gV.lift (fun _ _ _ _ => lv_iload_n hx hb d_NL_needAt_4 rfl (lv_at hl 1 rfl)) ?_
    refine gV.lift (fun _ _ _ _ => g_aload_n hx hb d_NL_needAt_5 rfl (lv_at hl 0 rfl)) ?_
    replace hden := gb hden
    obtain ⟨v2, hv, hden⟩ := hden
    refine r_getI X cl_NL (k := 1) hv (by decide) q_78 d_NL_needAt_6 ?_
    refine gV.lift2 (fun _ _ _ _ => lv_icmp_ge (tgt := 21) hx hb d_NL_needAt_9 (by decide)) (fun hc3 => ?_) (fun hc3 => ?_)
    · replace hden := gip hc3 hden
      exact w_NL_needAt_21 Y  S hden (lv_sub hl [] rfl)
    · replace hden := gin hc3 hden
      refine gV.lift (fun _ _ _ _ => g_aload_n hx hb d_NL_needAt_12 rfl (lv_at hl 0 rfl)) ?_
      replace hden := gb hden
      obtain ⟨r4, hv, hden⟩ := hden
      refine r_getR X cl_NL (k := 0) hv (by decide) q_77 d_NL_needAt_13 ?_
      refine gV.lift (fun _ _ _ _ => lv_iload_n hx hb d_NL_needAt_16 rfl (lv_at hl 1 rfl)) ?_
      replace hden := gb hden
      obtain ⟨a5, rfl, hden⟩ := hden
      replace hden := gb hden
      obtain ⟨r6, hv, hden⟩ := hden
      refine r_aald X (t := 8) rfl hv d_NL_needAt_17 ?_
      refine gV.lift (fun _ _ _ _ => lv_goto (tgt := 22) hx hb d_NL_needAt_18 (by decide)) ?_
      exact w_NL_needAt_22 Y  r6 S hden (lv_sub hl [] rfl)
/-! PlanText$NeedList.hasOneAbove([I)Z -/
abbrev y_NL_hasOneAbove : MethodName := ⟨"PlanText$NeedList", "hasOneAbove", "([I)Z"⟩
theorem d_NL_hasOneAbove_0 : decode prog_5_method_4_code 0 = .ok (.iconst 0, 1) := by decide +kernel
theorem d_NL_hasOneAbove_1 : decode prog_5_method_4_code 1 = .ok (.istore_n 2, 1) := by decide +kernel
theorem d_NL_hasOneAbove_2 : decode prog_5_method_4_code 2 = .ok (.iload_n 2, 1) := by decide +kernel
theorem d_NL_hasOneAbove_3 : decode prog_5_method_4_code 3 = .ok (.aload_n 0, 1) := by decide +kernel
theorem d_NL_hasOneAbove_4 : decode prog_5_method_4_code 4 = .ok (.getfield 17, 3) := by decide +kernel
theorem d_NL_hasOneAbove_7 : decode prog_5_method_4_code 7 = .ok (.if_icmp .ge 29, 3) := by decide +kernel
theorem d_NL_hasOneAbove_10 : decode prog_5_method_4_code 10 = .ok (.aload_n 0, 1) := by decide +kernel
theorem d_NL_hasOneAbove_11 : decode prog_5_method_4_code 11 = .ok (.iload_n 2, 1) := by decide +kernel
theorem d_NL_hasOneAbove_12 : decode prog_5_method_4_code 12 = .ok (.invokevirtual 21, 3) := by decide +kernel
theorem d_NL_hasOneAbove_15 : decode prog_5_method_4_code 15 = .ok (.astore_n 3, 1) := by decide +kernel
theorem d_NL_hasOneAbove_16 : decode prog_5_method_4_code 16 = .ok (.aload_n 3, 1) := by decide +kernel
theorem d_NL_hasOneAbove_17 : decode prog_5_method_4_code 17 = .ok (.ifnull 13, 3) := by decide +kernel
theorem d_NL_hasOneAbove_20 : decode prog_5_method_4_code 20 = .ok (.aload_n 3, 1) := by decide +kernel
theorem d_NL_hasOneAbove_21 : decode prog_5_method_4_code 21 = .ok (.aload_n 1, 1) := by decide +kernel
theorem d_NL_hasOneAbove_22 : decode prog_5_method_4_code 22 = .ok (.invokevirtual 25, 3) := by decide +kernel
theorem d_NL_hasOneAbove_25 : decode prog_5_method_4_code 25 = .ok (.ifCond .eq 5, 3) := by decide +kernel
theorem d_NL_hasOneAbove_28 : decode prog_5_method_4_code 28 = .ok (.iconst 1, 1) := by decide +kernel
theorem d_NL_hasOneAbove_29 : decode prog_5_method_4_code 29 = .ok (.ireturn, 1) := by decide +kernel
theorem d_NL_hasOneAbove_30 : decode prog_5_method_4_code 30 = .ok (.iinc 2 1, 3) := by decide +kernel
theorem d_NL_hasOneAbove_33 : decode prog_5_method_4_code 33 = .ok (.goto (-31), 3) := by decide +kernel
theorem d_NL_hasOneAbove_36 : decode prog_5_method_4_code 36 = .ok (.iconst 0, 1) := by decide +kernel
theorem d_NL_hasOneAbove_37 : decode prog_5_method_4_code 37 = .ok (.ireturn, 1) := by decide +kernel
def B_NL_hasOneAbove_30 (k2 : Nat → Option Nat → Int32 → gS → Option (Int32 × gS)) (x0 : Nat) (x1 : Option Nat) (x2 : Int32) (S : gS) : Option (Int32 × gS) := k2 x0 x1 (x2 + 1) S
set_option maxRecDepth 100000 in
set_option maxHeartbeats 4000000 in
theorem w_NL_hasOneAbove_30 {D : va_G} {cT : Nat → ClassId} {H0 : Heap} {l : Launch} {p : Program} {e : Env} {s : State} {m : MethodId} {args : Array Value} {below : List Frame} {meth : Method} {c : Code} {S0 : gS} {S' : gS} {r : Int32} (Y : gY D cT H0 p s m args meth c prog_5_method_4_code 4 "PlanText$NeedList" 2 43 S0 (Option.some Jvm.ClassFile.FieldType.boolean)) {k2 : Nat → Option Nat → Int32 → gS → Option (Int32 × gS)} (hk2 : ∀ (x0 : Nat) (x1 : Option Nat) (x2 : Int32) (S : gS) (ls : Array Slot), k2 x0 x1 x2 S = some (r, S') → lv_has ls 4 [(0, va_rf (some x0)), (1, va_rf x1), (2, .int x2)] → gV D cT H0 p l e (gRm 2 43 S0) s m args below meth c (gQ D cT H0 below S0 S' (.inr (some (.int r))) s) S0 S (F0 m 2 ls [])) (x0 : Nat) (x1 : Option Nat) (x2 : Int32) (S : gS) (hden : B_NL_hasOneAbove_30 k2 x0 x1 x2 S = some (r, S')) {ls : Array Slot} (hl : lv_has ls 4 [(0, va_rf (some x0)), (1, va_rf x1), (2, .int x2)]) : gV D cT H0 p l e (gRm 2 43 S0) s m args below meth c (gQ D cT H0 below S0 S' (.inr (some (.int r))) s) S0 S (F0 m 30 ls []) := by
  obtain ⟨X, hZ, hex, hr, hE⟩ := id Y
  have hx := X.1
  have hb := X.2.1
  unfold B_NL_hasOneAbove_30 at hden
  refine gV.liftS (nL := 4) (lv' := [(2, .int (x2 + 1)), (0, va_rf (some x0)), (1, va_rf x1)]) (fun _ _ _ _ => lv_iinc (v := (x2 + 1)) hx hb d_NL_hasOneAbove_30 hl (k := 2) rfl rfl (by decide) (by cases x1 <;> rfl)) (fun ls hl => ?_)
  refine gV.lift (fun _ _ _ _ => lv_goto (tgt := 2) hx hb d_NL_hasOneAbove_33 (by decide)) ?_
  exact hk2 x0 x1 (x2 + 1) S _ hden (lv_sub hl [1, 2, 0] rfl)
def B_NL_hasOneAbove_2 (k2 : Nat → Option Nat → Int32 → gS → Option (Int32 × gS)) (x0 : Nat) (x1 : Option Nat) (x2 : Int32) (S : gS) : Option (Int32 × gS) := Option.bind (gI S x0 4 1) (fun v1 => (if v1 ≤ x2 then Option.bind (gZo 0) (fun v3 => some (v3, S)) else Option.bind (gOb S x0 4) (fun fs6 => gB2 (D_NL_needAt x0 x2 S) (fun r5 S4 => gNul r5 (B_NL_hasOneAbove_30 k2 x0 x1 x2 S4) (fun a7 => Option.bind (gOb S4 a7 3) (fun fs10 => gB2 (D_Nd_isAbove a7 x1 S4) (fun v9 S8 => (if v9 = 0 then B_NL_hasOneAbove_30 k2 x0 x1 x2 S8 else Option.bind (gZo 1) (fun v12 => some (v12, S8))))))))))
set_option maxRecDepth 100000 in
set_option maxHeartbeats 4000000 in
theorem w_NL_hasOneAbove_2 {D : va_G} {cT : Nat → ClassId} {H0 : Heap} {l : Launch} {p : Program} {e : Env} {s : State} {m : MethodId} {args : Array Value} {below : List Frame} {meth : Method} {c : Code} {S0 : gS} {S' : gS} {r : Int32} (Y : gY D cT H0 p s m args meth c prog_5_method_4_code 4 "PlanText$NeedList" 2 43 S0 (Option.some Jvm.ClassFile.FieldType.boolean)) {k2 : Nat → Option Nat → Int32 → gS → Option (Int32 × gS)} (hk2 : ∀ (x0 : Nat) (x1 : Option Nat) (x2 : Int32) (S : gS) (ls : Array Slot), k2 x0 x1 x2 S = some (r, S') → lv_has ls 4 [(0, va_rf (some x0)), (1, va_rf x1), (2, .int x2)] → gV D cT H0 p l e (gRm 2 43 S0) s m args below meth c (gQ D cT H0 below S0 S' (.inr (some (.int r))) s) S0 S (F0 m 2 ls [])) (x0 : Nat) (x1 : Option Nat) (x2 : Int32) (S : gS) (hden : B_NL_hasOneAbove_2 k2 x0 x1 x2 S = some (r, S')) {ls : Array Slot} (hl : lv_has ls 4 [(0, va_rf (some x0)), (1, va_rf x1), (2, .int x2)]) : gV D cT H0 p l e (gRm 2 43 S0) s m args below meth c (gQ D cT H0 below S0 S' (.inr (some (.int r))) s) S0 S (F0 m 2 ls []) := by
  obtain ⟨X, hZ, hex, hr, hE⟩ := id Y
  have hx := X.1
  have hb := X.2.1
  unfold B_NL_hasOneAbove_2 at hden
  refine gV.lift (fun _ _ _ _ => lv_iload_n hx hb d_NL_hasOneAbove_2 rfl (lv_at hl 2 rfl)) ?_
  refine gV.lift (fun _ _ _ _ => g_aload_n hx hb d_NL_hasOneAbove_3 rfl (lv_at hl 0 rfl)) ?_
  replace hden := gb hden
  obtain ⟨v1, hv, hden⟩ := hden
  refine r_getI X cl_NL (k := 1) hv (by decide) q_78 d_NL_hasOneAbove_4 ?_
  refine gV.lift2 (fun _ _ _ _ => lv_icmp_ge (tgt := 36) hx hb d_NL_hasOneAbove_7 (by decide)) (fun hc2 => ?_) (fun hc2 => ?_)
  · replace hden := gip hc2 hden
    refine gV.lift (fun _ _ _ _ => lv_iconst (v := 0) hx hb d_NL_hasOneAbove_36 (by decide)) ?_
    replace hden := gb hden
    obtain ⟨v3, hz, hden⟩ := hden
    obtain ⟨rfl, hz2, -⟩ := gZo_spec hz
    obtain ⟨rfl, rfl⟩ := gpi hden
    exact g_zret X hr hz2 d_NL_hasOneAbove_37
  · replace hden := gin hc2 hden
    refine gV.lift (fun _ _ _ _ => g_aload_n hx hb d_NL_hasOneAbove_10 rfl (lv_at hl 0 rfl)) ?_
    refine gV.lift (fun _ _ _ _ => lv_iload_n hx hb d_NL_hasOneAbove_11 rfl (lv_at hl 2 rfl)) ?_
    replace hden := gb hden
    obtain ⟨fs6, ho, hden⟩ := hden
    replace hden := gb2 hden
    obtain ⟨r5, S4, hz, hden⟩ := hden
    refine g_callV (As := [.int x2]) (rest := []) X hZ (c_NL_needAt hz) cl_NL (gOb_spec ho) q_597 q_3 q_685 q_595 q_596 ⟨by decide, by decide, by show _ = some 1; decide +kernel⟩ ⟨by decide, by decide⟩ hl.1 (Nat.le_of_ble_eq_true rfl) d_NL_hasOneAbove_12 rfl rfl ?_
    refine gV.liftS (nL := 4) (lv' := [(3, va_rf r5), (0, va_rf (some x0)), (1, va_rf x1), (2, .int x2)]) (fun _ _ _ _ => g_astore_n hx hb d_NL_hasOneAbove_15 rfl hl (by decide) rfl) (fun ls hl => ?_)
    refine gV.lift (fun _ _ _ _ => g_aload_n hx hb d_NL_hasOneAbove_16 rfl (lv_at hl 0 rfl)) ?_
    rcases r5 with _ | a7
    · replace hden := gN0 hden
      refine gV.lift (fun _ _ _ _ => lv_ifnullN (tgt := 30) hx hb d_NL_hasOneAbove_17 (by decide)) ?_
      exact w_NL_hasOneAbove_30 Y hk2 x0 x1 x2 S4 hden (lv_sub hl [1, 2, 3] rfl)
    · replace hden := gN1 hden
      refine gV.lift (fun _ _ _ _ => lv_ifnull hx hb d_NL_hasOneAbove_17) ?_
      refine gV.lift (fun _ _ _ _ => g_aload_n hx hb d_NL_hasOneAbove_20 rfl (lv_at hl 0 rfl)) ?_
      refine gV.lift (fun _ _ _ _ => g_aload_n hx hb d_NL_hasOneAbove_21 rfl (lv_at hl 2 rfl)) ?_
      replace hden := gb hden
      obtain ⟨fs10, ho, hden⟩ := hden
      replace hden := gb2 hden
      obtain ⟨v9, S8, hz, hden⟩ := hden
      refine g_callV (As := [va_rf x1]) (rest := []) X hZ (c_Nd_isAbove hz) cl_Nd (gOb_spec ho) q_689 q_16 q_686 q_687 q_688 ⟨by decide, by decide, by show _ = some 1; decide +kernel⟩ ⟨by decide, by decide⟩ hl.1 (Nat.le_of_ble_eq_true rfl) d_NL_hasOneAbove_22 rfl rfl ?_
      refine gV.lift2 (fun _ _ _ _ => lv_if_eq (tgt := 30) hx hb d_NL_hasOneAbove_25 (by decide)) (fun hc11 => ?_) (fun hc11 => ?_)
      · replace hden := gip hc11 hden
        exact w_NL_hasOneAbove_30 Y hk2 x0 x1 x2 S8 hden (lv_sub hl [1, 2, 3] rfl)
      · replace hden := gin hc11 hden
        refine gV.lift (fun _ _ _ _ => lv_iconst (v := 1) hx hb d_NL_hasOneAbove_28 (by decide)) ?_
        replace hden := gb hden
        obtain ⟨v12, hz, hden⟩ := hden
        obtain ⟨rfl, hz2, -⟩ := gZo_spec hz
        obtain ⟨rfl, rfl⟩ := gpi hden
        exact g_zret X hr hz2 d_NL_hasOneAbove_29
def L_NL_hasOneAbove_2  : Nat → Nat → Option Nat → Int32 → gS → Option (Int32 × gS)
  | 0 => fun _ _ _ _ => none
  | n + 1 => fun x0 x1 x2 S => B_NL_hasOneAbove_2  (L_NL_hasOneAbove_2  n) x0 x1 x2 S
theorem wL_NL_hasOneAbove_2 {D : va_G} {cT : Nat → ClassId} {H0 : Heap} {l : Launch} {p : Program} {e : Env} {s : State} {m : MethodId} {args : Array Value} {below : List Frame} {meth : Method} {c : Code} {S0 : gS} {S' : gS} {r : Int32} (Y : gY D cT H0 p s m args meth c prog_5_method_4_code 4 "PlanText$NeedList" 2 43 S0 (Option.some Jvm.ClassFile.FieldType.boolean))  : ∀ (n : Nat) (x0 : Nat) (x1 : Option Nat) (x2 : Int32) (S : gS) (ls : Array Slot), L_NL_hasOneAbove_2  n x0 x1 x2 S = some (r, S') → lv_has ls 4 [(0, va_rf (some x0)), (1, va_rf x1), (2, .int x2)] → gV D cT H0 p l e (gRm 2 43 S0) s m args below meth c (gQ D cT H0 below S0 S' (.inr (some (.int r))) s) S0 S (F0 m 2 ls []) := by
  intro n
  induction n with
  | zero => intro x0 x1 x2 S ls h hl; cases h
  | succ n ih => intro x0 x1 x2 S ls h hl; exact w_NL_hasOneAbove_2 Y ih x0 x1 x2 S h hl
def D_NL_hasOneAbove (h0 : Nat) (p0 : Option Nat) (S : gS) : Option (Int32 × gS) := L_NL_hasOneAbove_2  gF h0 p0 0 S
set_option maxRecDepth 100000 in
set_option maxHeartbeats 4000000 in
theorem c_NL_hasOneAbove {D : va_G} {cT : Nat → ClassId} {H0 : Heap} {l : Launch} {S : gS} {S' : gS} {h0 : Nat} {p0 : Option Nat} {r : Int32} (hden : D_NL_hasOneAbove h0 p0 S = some (r, S')) : gM D cT H0 l y_NL_hasOneAbove (Cond.code y_NL_hasOneAbove prog_5_method_4_code 4 (Option.some Jvm.ClassFile.FieldType.boolean)) 2 43 [va_rf (some h0), va_rf p0] S S' (.inr (some (.int r))) := by
  refine gM.ofV (by decide) ?_
  intro p e s m args below meth c s₁ B hml ea X hZ hex hr hE
  subst ea
  have Y : gY D cT H0 p s m _ meth c prog_5_method_4_code 4 "PlanText$NeedList" 2 43 S (Option.some Jvm.ClassFile.FieldType.boolean) := ⟨X, hZ, hex, hr, hE⟩
  have hx := X.1
  have hb := X.2.1
  have hl := lv_entry ([va_rf (some h0), va_rf p0]) (n := 4) (by cases p0 <;> exact Nat.le_of_ble_eq_true rfl)
  rw [lg_entry_eq]
  generalize (lg_sl ([va_rf (some h0), va_rf p0]) ++ List.replicate (4 - (lg_sl ([va_rf (some h0), va_rf p0])).length) Slot.unset).toArray = ls at hl ⊢
  have hl : lv_has ls 4 [(0, va_rf (some h0)), (1, va_rf p0)] := by cases p0 <;> exact hl
  unfold D_NL_hasOneAbove at hden
  refine gV.lift (fun _ _ _ _ => lv_iconst (v := 0) hx hb d_NL_hasOneAbove_0 (by decide)) ?_
  refine gV.liftS (nL := 4) (lv' := [(2, .int 0), (0, va_rf (some h0)), (1, va_rf p0)]) (fun _ _ _ _ => lv_istore_n hx hb d_NL_hasOneAbove_1 rfl hl (by decide) (by cases p0 <;> rfl)) (fun ls hl => ?_)
  exact wL_NL_hasOneAbove_2 Y  gF h0 p0 0 S _ hden (lv_sub hl [1, 2, 0] rfl)
