/-! PlanText$Need.<init>(IIIII)V -/
abbrev y_Nd_init : MethodName := ⟨"PlanText$Need", "<init>", "(IIIII)V"⟩
theorem d_Nd_init_0 : decode prog_4_method_1_code 0 = .ok (.aload_n 0, 1) := by decide +kernel
theorem d_Nd_init_1 : decode prog_4_method_1_code 1 = .ok (.invokespecial 1, 3) := by decide +kernel
theorem d_Nd_init_4 : decode prog_4_method_1_code 4 = .ok (.aload_n 0, 1) := by decide +kernel
theorem d_Nd_init_5 : decode prog_4_method_1_code 5 = .ok (.iload_n 1, 1) := by decide +kernel
theorem d_Nd_init_6 : decode prog_4_method_1_code 6 = .ok (.putfield 7, 3) := by decide +kernel
theorem d_Nd_init_9 : decode prog_4_method_1_code 9 = .ok (.aload_n 0, 1) := by decide +kernel
theorem d_Nd_init_10 : decode prog_4_method_1_code 10 = .ok (.iload_n 2, 1) := by decide +kernel
theorem d_Nd_init_11 : decode prog_4_method_1_code 11 = .ok (.putfield 13, 3) := by decide +kernel
theorem d_Nd_init_14 : decode prog_4_method_1_code 14 = .ok (.aload_n 0, 1) := by decide +kernel
theorem d_Nd_init_15 : decode prog_4_method_1_code 15 = .ok (.iload_n 3, 1) := by decide +kernel
theorem d_Nd_init_16 : decode prog_4_method_1_code 16 = .ok (.putfield 16, 3) := by decide +kernel
theorem d_Nd_init_19 : decode prog_4_method_1_code 19 = .ok (.aload_n 0, 1) := by decide +kernel
theorem d_Nd_init_20 : decode prog_4_method_1_code 20 = .ok (.iload 4, 2) := by decide +kernel
theorem d_Nd_init_22 : decode prog_4_method_1_code 22 = .ok (.putfield 19, 3) := by decide +kernel
theorem d_Nd_init_25 : decode prog_4_method_1_code 25 = .ok (.aload_n 0, 1) := by decide +kernel
theorem d_Nd_init_26 : decode prog_4_method_1_code 26 = .ok (.iload 5, 2) := by decide +kernel
theorem d_Nd_init_28 : decode prog_4_method_1_code 28 = .ok (.putfield 22, 3) := by decide +kernel
theorem d_Nd_init_31 : decode prog_4_method_1_code 31 = .ok (.return_, 1) := by decide +kernel
def D_Nd_init (h0 : Nat) (p0 : Int32) (p1 : Int32) (p2 : Int32) (p3 : Int32) (p4 : Int32) (S : gS) : Option gS := Option.bind (gPut S h0 3 0 (.int p0)) (fun S1 => Option.bind (gPut S1 h0 3 1 (.int p1)) (fun S2 => Option.bind (gPut S2 h0 3 2 (.int p2)) (fun S3 => Option.bind (gPut S3 h0 3 3 (.int p3)) (fun S4 => Option.bind (gPut S4 h0 3 4 (.int p4)) (fun S5 => some S5)))))
set_option maxRecDepth 100000 in
set_option maxHeartbeats 4000000 in
theorem c_Nd_init {D : va_G} {cT : Nat → ClassId} {H0 : Heap} {l : Launch} {S : gS} {S' : gS} {h0 : Nat} {p0 : Int32} {p1 : Int32} {p2 : Int32} {p3 : Int32} {p4 : Int32} (hden : D_Nd_init h0 p0 p1 p2 p3 p4 S = some S') : gM D cT H0 l y_Nd_init (Cond.code y_Nd_init prog_4_method_1_code 6 (Option.none : Option Jvm.ClassFile.FieldType)) 1 24 [va_rf (some h0), .int p0, .int p1, .int p2, .int p3, .int p4] S S' (.inr none) := by
  refine gM.ofV (by decide) ?_
  intro p e s m args below meth c s₁ B hml ea X hZ hex hr hE
  subst ea
  have Y : gY D cT H0 p s m _ meth c prog_4_method_1_code 6 "PlanText$Need" 1 24 S (Option.none : Option Jvm.ClassFile.FieldType) := ⟨X, hZ, hex, hr, hE⟩
  have hin : meth.name = "<init>" := (name_of_methodNamed B.named B.method).1
  have hx := X.1
  have hb := X.2.1
  have hl := lv_entry ([va_rf (some h0), .int p0, .int p1, .int p2, .int p3, .int p4]) (n := 6) (Nat.le_of_ble_eq_true rfl)
  rw [lg_entry_eq]
  generalize (lg_sl ([va_rf (some h0), .int p0, .int p1, .int p2, .int p3, .int p4]) ++ List.replicate (6 - (lg_sl ([va_rf (some h0), .int p0, .int p1, .int p2, .int p3, .int p4])).length) Slot.unset).toArray = ls at hl ⊢
  have hl : lv_has ls 6 [(0, va_rf (some h0)), (1, .int p0), (2, .int p1), (3, .int p2), (4, .int p3), (5, .int p4)] := hl
  unfold D_Nd_init at hden
  refine gV.lift (fun _ _ _ _ => g_aload_n hx hb d_Nd_init_0 rfl (lv_at hl 0 rfl)) ?_
  refine g_objInit X q_386 q_26 q_27 hl.1 d_Nd_init_1 ⟨by decide, Nat.le_of_ble_eq_true rfl⟩ ?_
  refine gV.lift (fun _ _ _ _ => g_aload_n hx hb d_Nd_init_4 rfl (lv_at hl 0 rfl)) ?_
  refine gV.lift (fun _ _ _ _ => lv_iload_n hx hb d_Nd_init_5 rfl (lv_at hl 1 rfl)) ?_
  replace hden := gb hden
  obtain ⟨S1, hv, hden⟩ := hden
  refine r_putF X cl_Nd (k := 0) hv (by decide) q_387 rfl hin rfl rfl rfl d_Nd_init_6 ?_
  refine gV.lift (fun _ _ _ _ => g_aload_n hx hb d_Nd_init_9 rfl (lv_at hl 0 rfl)) ?_
  refine gV.lift (fun _ _ _ _ => lv_iload_n hx hb d_Nd_init_10 rfl (lv_at hl 2 rfl)) ?_
  replace hden := gb hden
  obtain ⟨S2, hv, hden⟩ := hden
  refine r_putF X cl_Nd (k := 1) hv (by decide) q_390 rfl hin rfl rfl rfl d_Nd_init_11 ?_
  refine gV.lift (fun _ _ _ _ => g_aload_n hx hb d_Nd_init_14 rfl (lv_at hl 0 rfl)) ?_
  refine gV.lift (fun _ _ _ _ => lv_iload_n hx hb d_Nd_init_15 rfl (lv_at hl 3 rfl)) ?_
  replace hden := gb hden
  obtain ⟨S3, hv, hden⟩ := hden
  refine r_putF X cl_Nd (k := 2) hv (by decide) q_393 rfl hin rfl rfl rfl d_Nd_init_16 ?_
  refine gV.lift (fun _ _ _ _ => g_aload_n hx hb d_Nd_init_19 rfl (lv_at hl 0 rfl)) ?_
  refine gV.lift (fun _ _ _ _ => lv_iload hx hb d_Nd_init_20 (lv_at hl 4 rfl)) ?_
  replace hden := gb hden
  obtain ⟨S4, hv, hden⟩ := hden
  refine r_putF X cl_Nd (k := 3) hv (by decide) q_396 rfl hin rfl rfl rfl d_Nd_init_22 ?_
  refine gV.lift (fun _ _ _ _ => g_aload_n hx hb d_Nd_init_25 rfl (lv_at hl 0 rfl)) ?_
  refine gV.lift (fun _ _ _ _ => lv_iload hx hb d_Nd_init_26 (lv_at hl 5 rfl)) ?_
  replace hden := gb hden
  obtain ⟨S5, hv, hden⟩ := hden
  refine r_putF X cl_Nd (k := 4) hv (by decide) q_399 rfl hin rfl rfl rfl d_Nd_init_28 ?_
  obtain rfl := gsi hden
  exact g_vret X hr d_Nd_init_31
/-! PlanText$Need.unitsOf([II)I -/
abbrev y_Nd_unitsOf : MethodName := ⟨"PlanText$Need", "unitsOf", "([II)I"⟩
theorem d_Nd_unitsOf_0 : decode prog_4_method_3_code 0 = .ok (.iload_n 1, 1) := by decide +kernel
theorem d_Nd_unitsOf_1 : decode prog_4_method_3_code 1 = .ok (.ifCond .lt 15, 3) := by decide +kernel
theorem d_Nd_unitsOf_4 : decode prog_4_method_3_code 4 = .ok (.iload_n 1, 1) := by decide +kernel
theorem d_Nd_unitsOf_5 : decode prog_4_method_3_code 5 = .ok (.aload_n 0, 1) := by decide +kernel
theorem d_Nd_unitsOf_6 : decode prog_4_method_3_code 6 = .ok (.arraylength, 1) := by decide +kernel
theorem d_Nd_unitsOf_7 : decode prog_4_method_3_code 7 = .ok (.if_icmp .ge 9, 3) := by decide +kernel
theorem d_Nd_unitsOf_10 : decode prog_4_method_3_code 10 = .ok (.aload_n 0, 1) := by decide +kernel
theorem d_Nd_unitsOf_11 : decode prog_4_method_3_code 11 = .ok (.iload_n 1, 1) := by decide +kernel
theorem d_Nd_unitsOf_12 : decode prog_4_method_3_code 12 = .ok (.iaload, 1) := by decide +kernel
theorem d_Nd_unitsOf_13 : decode prog_4_method_3_code 13 = .ok (.goto 4, 3) := by decide +kernel
theorem d_Nd_unitsOf_16 : decode prog_4_method_3_code 16 = .ok (.iconst 0, 1) := by decide +kernel
theorem d_Nd_unitsOf_17 : decode prog_4_method_3_code 17 = .ok (.ireturn, 1) := by decide +kernel
def B_Nd_unitsOf_17  (t0 : Int32) (S : gS) : Option (Int32 × gS) := some (t0, S)
set_option maxRecDepth 100000 in
set_option maxHeartbeats 4000000 in
theorem w_Nd_unitsOf_17 {D : va_G} {cT : Nat → ClassId} {H0 : Heap} {l : Launch} {p : Program} {e : Env} {s : State} {m : MethodId} {args : Array Value} {below : List Frame} {meth : Method} {c : Code} {S0 : gS} {S' : gS} {r : Int32} (Y : gY D cT H0 p s m args meth c prog_4_method_3_code 2 "PlanText$Need" 0 0 S0 (Option.some Jvm.ClassFile.FieldType.int))  (t0 : Int32) (S : gS) (hden : B_Nd_unitsOf_17  t0 S = some (r, S')) {ls : Array Slot} (hl : lv_has ls 2 []) : gV D cT H0 p l e (gRm 0 0 S0) s m args below meth c (gQ D cT H0 below S0 S' (.inr (some (.int r))) s) S0 S (F0 m 17 ls [.int t0]) := by
  obtain ⟨X, hZ, hex, hr, hE⟩ := id Y
  have hx := X.1
  have hb := X.2.1
  unfold B_Nd_unitsOf_17 at hden
  obtain ⟨rfl, rfl⟩ := gpi hden
  exact g_iret X hr d_Nd_unitsOf_17
def B_Nd_unitsOf_16   (S : gS) : Option (Int32 × gS) := B_Nd_unitsOf_17  0 S
set_option maxRecDepth 100000 in
set_option maxHeartbeats 4000000 in
theorem w_Nd_unitsOf_16 {D : va_G} {cT : Nat → ClassId} {H0 : Heap} {l : Launch} {p : Program} {e : Env} {s : State} {m : MethodId} {args : Array Value} {below : List Frame} {meth : Method} {c : Code} {S0 : gS} {S' : gS} {r : Int32} (Y : gY D cT H0 p s m args meth c prog_4_method_3_code 2 "PlanText$Need" 0 0 S0 (Option.some Jvm.ClassFile.FieldType.int))   (S : gS) (hden : B_Nd_unitsOf_16   S = some (r, S')) {ls : Array Slot} (hl : lv_has ls 2 []) : gV D cT H0 p l e (gRm 0 0 S0) s m args below meth c (gQ D cT H0 below S0 S' (.inr (some (.int r))) s) S0 S (F0 m 16 ls []) := by
  obtain ⟨X, hZ, hex, hr, hE⟩ := id Y
  have hx := X.1
  have hb := X.2.1
  unfold B_Nd_unitsOf_16 at hden
  refine gV.lift (fun _ _ _ _ => lv_iconst (v := 0) hx hb d_Nd_unitsOf_16 (by decide)) ?_
  exact w_Nd_unitsOf_17 Y  0 S hden (lv_sub hl [] rfl)
def D_Nd_unitsOf (p0 : Option Nat) (p1 : Int32) (S : gS) : Option (Int32 × gS) := (if p1 < 0 then B_Nd_unitsOf_16  S else Option.bind p0 (fun a2 => Option.bind (gLen S a2 0) (fun v3 => (if v3 ≤ p1 then B_Nd_unitsOf_16  S else Option.bind (gAI S a2 0 p1) (fun v5 => B_Nd_unitsOf_17  v5 S)))))
set_option maxRecDepth 100000 in
set_option maxHeartbeats 4000000 in
theorem c_Nd_unitsOf {D : va_G} {cT : Nat → ClassId} {H0 : Heap} {l : Launch} {S : gS} {S' : gS} {p0 : Option Nat} {p1 : Int32} {r : Int32} (hden : D_Nd_unitsOf p0 p1 S = some (r, S')) : gM D cT H0 l y_Nd_unitsOf (Cond.code y_Nd_unitsOf prog_4_method_3_code 2 (Option.some Jvm.ClassFile.FieldType.int)) 0 0 [va_rf p0, .int p1] S S' (.inr (some (.int r))) := by
  refine gM.ofV (by decide) ?_
  intro p e s m args below meth c s₁ B hml ea X hZ hex hr hE
  subst ea
  have Y : gY D cT H0 p s m _ meth c prog_4_method_3_code 2 "PlanText$Need" 0 0 S (Option.some Jvm.ClassFile.FieldType.int) := ⟨X, hZ, hex, hr, hE⟩
  have hx := X.1
  have hb := X.2.1
  have hl := lv_entry ([va_rf p0, .int p1]) (n := 2) (by cases p0 <;> exact Nat.le_of_ble_eq_true rfl)
  rw [lg_entry_eq]
  generalize (lg_sl ([va_rf p0, .int p1]) ++ List.replicate (2 - (lg_sl ([va_rf p0, .int p1])).length) Slot.unset).toArray = ls at hl ⊢
  have hl : lv_has ls 2 [(0, va_rf p0), (1, .int p1)] := by cases p0 <;> exact hl
  unfold D_Nd_unitsOf at hden
  refine gV.lift (fun _ _ _ _ => lv_iload_n hx hb d_Nd_unitsOf_0 rfl (lv_at hl 1 rfl)) ?_
  refine gV.lift2 (fun _ _ _ _ => lv_if_lt (tgt := 16) hx hb d_Nd_unitsOf_1 (by decide)) (fun hc1 => ?_) (fun hc1 => ?_)
  · replace hden := gip hc1 hden
    exact w_Nd_unitsOf_16 Y  S hden (lv_sub hl [] rfl)
  · replace hden := gin hc1 hden
    refine gV.lift (fun _ _ _ _ => lv_iload_n hx hb d_Nd_unitsOf_4 rfl (lv_at hl 1 rfl)) ?_
    refine gV.lift (fun _ _ _ _ => g_aload_n hx hb d_Nd_unitsOf_5 rfl (lv_at hl 0 rfl)) ?_
    replace hden := gb hden
    obtain ⟨a2, rfl, hden⟩ := hden
    replace hden := gb hden
    obtain ⟨v3, hv, hden⟩ := hden
    refine r_alen X (t := 0) rfl hv d_Nd_unitsOf_6 ?_
    refine gV.lift2 (fun _ _ _ _ => lv_icmp_ge (tgt := 16) hx hb d_Nd_unitsOf_7 (by decide)) (fun hc4 => ?_) (fun hc4 => ?_)
    · replace hden := gip hc4 hden
      exact w_Nd_unitsOf_16 Y  S hden (lv_sub hl [] rfl)
    · replace hden := gin hc4 hden
      refine gV.lift (fun _ _ _ _ => g_aload_n hx hb d_Nd_unitsOf_10 rfl (lv_at hl 0 rfl)) ?_
      refine gV.lift (fun _ _ _ _ => lv_iload_n hx hb d_Nd_unitsOf_11 rfl (lv_at hl 1 rfl)) ?_
      replace hden := gb hden
      obtain ⟨v5, hv, hden⟩ := hden
      refine r_iald X (t := 0) rfl hv d_Nd_unitsOf_12 ?_
      refine gV.lift (fun _ _ _ _ => lv_goto (tgt := 17) hx hb d_Nd_unitsOf_13 (by decide)) ?_
      exact w_Nd_unitsOf_17 Y  v5 S hden (lv_sub hl [] rfl)
/-! PlanText$Need.isAbove([I)Z -/
abbrev y_Nd_isAbove : MethodName := ⟨"PlanText$Need", "isAbove", "([I)Z"⟩
theorem d_Nd_isAbove_0 : decode prog_4_method_2_code 0 = .ok (.aload_n 1, 1) := by decide +kernel
theorem d_Nd_isAbove_1 : decode prog_4_method_2_code 1 = .ok (.aload_n 0, 1) := by decide +kernel
theorem d_Nd_isAbove_2 : decode prog_4_method_2_code 2 = .ok (.getfield 13, 3) := by decide +kernel
theorem d_Nd_isAbove_5 : decode prog_4_method_2_code 5 = .ok (.invokestatic 25, 3) := by decide +kernel
theorem d_Nd_isAbove_8 : decode prog_4_method_2_code 8 = .ok (.aload_n 1, 1) := by decide +kernel
theorem d_Nd_isAbove_9 : decode prog_4_method_2_code 9 = .ok (.aload_n 0, 1) := by decide +kernel
theorem d_Nd_isAbove_10 : decode prog_4_method_2_code 10 = .ok (.getfield 16, 3) := by decide +kernel
theorem d_Nd_isAbove_13 : decode prog_4_method_2_code 13 = .ok (.invokestatic 25, 3) := by decide +kernel
theorem d_Nd_isAbove_16 : decode prog_4_method_2_code 16 = .ok (.iadd, 1) := by decide +kernel
theorem d_Nd_isAbove_17 : decode prog_4_method_2_code 17 = .ok (.aload_n 1, 1) := by decide +kernel
theorem d_Nd_isAbove_18 : decode prog_4_method_2_code 18 = .ok (.aload_n 0, 1) := by decide +kernel
theorem d_Nd_isAbove_19 : decode prog_4_method_2_code 19 = .ok (.getfield 19, 3) := by decide +kernel
theorem d_Nd_isAbove_22 : decode prog_4_method_2_code 22 = .ok (.invokestatic 25, 3) := by decide +kernel
theorem d_Nd_isAbove_25 : decode prog_4_method_2_code 25 = .ok (.iadd, 1) := by decide +kernel
theorem d_Nd_isAbove_26 : decode prog_4_method_2_code 26 = .ok (.istore_n 2, 1) := by decide +kernel
theorem d_Nd_isAbove_27 : decode prog_4_method_2_code 27 = .ok (.aload_n 0, 1) := by decide +kernel
theorem d_Nd_isAbove_28 : decode prog_4_method_2_code 28 = .ok (.getfield 7, 3) := by decide +kernel
theorem d_Nd_isAbove_31 : decode prog_4_method_2_code 31 = .ok (.iload_n 2, 1) := by decide +kernel
theorem d_Nd_isAbove_32 : decode prog_4_method_2_code 32 = .ok (.if_icmp .le 7, 3) := by decide +kernel
theorem d_Nd_isAbove_35 : decode prog_4_method_2_code 35 = .ok (.iconst 1, 1) := by decide +kernel
theorem d_Nd_isAbove_36 : decode prog_4_method_2_code 36 = .ok (.goto 4, 3) := by decide +kernel
theorem d_Nd_isAbove_39 : decode prog_4_method_2_code 39 = .ok (.iconst 0, 1) := by decide +kernel
theorem d_Nd_isAbove_40 : decode prog_4_method_2_code 40 = .ok (.ireturn, 1) := by decide +kernel
def B_Nd_isAbove_40  (t0 : Int32) (S : gS) : Option (Int32 × gS) := Option.bind (gZo t0) (fun v1 => some (v1, S))
set_option maxRecDepth 100000 in
set_option maxHeartbeats 4000000 in
theorem w_Nd_isAbove_40 {D : va_G} {cT : Nat → ClassId} {H0 : Heap} {l : Launch} {p : Program} {e : Env} {s : State} {m : MethodId} {args : Array Value} {below : List Frame} {meth : Method} {c : Code} {S0 : gS} {S' : gS} {r : Int32} (Y : gY D cT H0 p s m args meth c prog_4_method_2_code 3 "PlanText$Need" 1 21 S0 (Option.some Jvm.ClassFile.FieldType.boolean))  (t0 : Int32) (S : gS) (hden : B_Nd_isAbove_40  t0 S = some (r, S')) {ls : Array Slot} (hl : lv_has ls 3 []) : gV D cT H0 p l e (gRm 1 21 S0) s m args below meth c (gQ D cT H0 below S0 S' (.inr (some (.int r))) s) S0 S (F0 m 40 ls [.int t0]) := by
  obtain ⟨X, hZ, hex, hr, hE⟩ := id Y
  have hx := X.1
  have hb := X.2.1
  unfold B_Nd_isAbove_40 at hden
  replace hden := gb hden
  obtain ⟨v1, hz, hden⟩ := hden
  obtain ⟨rfl, hz2, -⟩ := gZo_spec hz
  obtain ⟨rfl, rfl⟩ := gpi hden
  exact g_zret X hr hz2 d_Nd_isAbove_40
def D_Nd_isAbove (h0 : Nat) (p0 : Option Nat) (S : gS) : Option (Int32 × gS) := Option.bind (gI S h0 3 1) (fun v1 => gB2 (D_Nd_unitsOf p0 v1 S) (fun v3 S2 => Option.bind (gI S2 h0 3 2) (fun v4 => gB2 (D_Nd_unitsOf p0 v4 S2) (fun v6 S5 => Option.bind (gI S5 h0 3 3) (fun v7 => gB2 (D_Nd_unitsOf p0 v7 S5) (fun v9 S8 => Option.bind (gI S8 h0 3 0) (fun v10 => (if v10 ≤ ((v3 + v6) + v9) then B_Nd_isAbove_40  0 S8 else B_Nd_isAbove_40  1 S8))))))))
set_option maxRecDepth 100000 in
set_option maxHeartbeats 4000000 in
theorem c_Nd_isAbove {D : va_G} {cT : Nat → ClassId} {H0 : Heap} {l : Launch} {S : gS} {S' : gS} {h0 : Nat} {p0 : Option Nat} {r : Int32} (hden : D_Nd_isAbove h0 p0 S = some (r, S')) : gM D cT H0 l y_Nd_isAbove (Cond.code y_Nd_isAbove prog_4_method_2_code 3 (Option.some Jvm.ClassFile.FieldType.boolean)) 1 21 [va_rf (some h0), va_rf p0] S S' (.inr (some (.int r))) := by
  refine gM.ofV (by decide) ?_
  intro p e s m args below meth c s₁ B hml ea X hZ hex hr hE
  subst ea
  have Y : gY D cT H0 p s m _ meth c prog_4_method_2_code 3 "PlanText$Need" 1 21 S (Option.some Jvm.ClassFile.FieldType.boolean) := ⟨X, hZ, hex, hr, hE⟩
  have hx := X.1
  have hb := X.2.1
  have hl := lv_entry ([va_rf (some h0), va_rf p0]) (n := 3) (by cases p0 <;> exact Nat.le_of_ble_eq_true rfl)
  rw [lg_entry_eq]
  generalize (lg_sl ([va_rf (some h0), va_rf p0]) ++ List.replicate (3 - (lg_sl ([va_rf (some h0), va_rf p0])).length) Slot.unset).toArray = ls at hl ⊢
  have hl : lv_has ls 3 [(0, va_rf (some h0)), (1, va_rf p0)] := by cases p0 <;> exact hl
  unfold D_Nd_isAbove at hden
  refine gV.lift (fun _ _ _ _ => g_aload_n hx hb d_Nd_isAbove_0 rfl (lv_at hl 1 rfl)) ?_
  refine gV.lift (fun _ _ _ _ => g_aload_n hx hb d_Nd_isAbove_1 rfl (lv_at hl 0 rfl)) ?_
  replace hden := gb hden
  obtain ⟨v1, hv, hden⟩ := hden
  refine r_getI X cl_Nd (k := 1) hv (by decide) q_390 d_Nd_isAbove_2 ?_
  replace hden := gb2 hden
  obtain ⟨v3, S2, hz, hden⟩ := hden
  refine g_callS (As := [va_rf p0, .int v1]) (rest := []) X hZ (c_Nd_unitsOf hz) q_692 q_16 q_690 q_691 ⟨by decide, by decide, by show _ = some 2; decide +kernel⟩ ⟨by decide, by decide⟩ hl.1 (Nat.le_of_ble_eq_true rfl) d_Nd_isAbove_5 rfl rfl ?_
  refine gV.lift (fun _ _ _ _ => g_aload_n hx hb d_Nd_isAbove_8 rfl (lv_at hl 1 rfl)) ?_
  refine gV.lift (fun _ _ _ _ => g_aload_n hx hb d_Nd_isAbove_9 rfl (lv_at hl 0 rfl)) ?_
  replace hden := gb hden
  obtain ⟨v4, hv, hden⟩ := hden
  refine r_getI X cl_Nd (k := 2) hv (by decide) q_393 d_Nd_isAbove_10 ?_
  replace hden := gb2 hden
  obtain ⟨v6, S5, hz, hden⟩ := hden
  refine g_callS (As := [va_rf p0, .int v4]) (rest := [.int v3]) X hZ (c_Nd_unitsOf hz) q_692 q_16 q_690 q_691 ⟨by decide, by decide, by show _ = some 2; decide +kernel⟩ ⟨by decide, by decide⟩ hl.1 (Nat.le_of_ble_eq_true rfl) d_Nd_isAbove_13 rfl rfl ?_
  refine gV.lift (fun _ _ _ _ => lv_iadd hx hb d_Nd_isAbove_16) ?_
  refine gV.lift (fun _ _ _ _ => g_aload_n hx hb d_Nd_isAbove_17 rfl (lv_at hl 1 rfl)) ?_
  refine gV.lift (fun _ _ _ _ => g_aload_n hx hb d_Nd_isAbove_18 rfl (lv_at hl 0 rfl)) ?_
  replace hden := gb hden
  obtain ⟨v7, hv, hden⟩ := hden
  refine r_getI X cl_Nd (k := 3) hv (by decide) q_396 d_Nd_isAbove_19 ?_
  replace hden := gb2 hden
  obtain ⟨v9, S8, hz, hden⟩ := hden
  refine g_callS (As := [va_rf p0, .int v7]) (rest := [.int (v3 + v6)]) X hZ (c_Nd_unitsOf hz) q_692 q_16 q_690 q_691 ⟨by decide, by decide, by show _ = some 2; decide +kernel⟩ ⟨by decide, by decide⟩ hl.1 (Nat.le_of_ble_eq_true rfl) d_Nd_isAbove_22 rfl rfl ?_
  refine gV.lift (fun _ _ _ _ => lv_iadd hx hb d_Nd_isAbove_25) ?_
  refine gV.liftS (nL := 3) (lv' := [(2, .int ((v3 + v6) + v9)), (0, va_rf (some h0)), (1, va_rf p0)]) (fun _ _ _ _ => lv_istore_n hx hb d_Nd_isAbove_26 rfl hl (by decide) (by cases p0 <;> rfl)) (fun ls hl => ?_)
  refine gV.lift (fun _ _ _ _ => g_aload_n hx hb d_Nd_isAbove_27 rfl (lv_at hl 1 rfl)) ?_
  replace hden := gb hden
  obtain ⟨v10, hv, hden⟩ := hden
  refine r_getI X cl_Nd (k := 0) hv (by decide) q_387 d_Nd_isAbove_28 ?_
  refine gV.lift (fun _ _ _ _ => lv_iload_n hx hb d_Nd_isAbove_31 rfl (lv_at hl 0 rfl)) ?_
  refine gV.lift2 (fun _ _ _ _ => lv_icmp_le (tgt := 39) hx hb d_Nd_isAbove_32 (by decide)) (fun hc11 => ?_) (fun hc11 => ?_)
  · replace hden := gip hc11 hden
    refine gV.lift (fun _ _ _ _ => lv_iconst (v := 0) hx hb d_Nd_isAbove_39 (by decide)) ?_
    exact w_Nd_isAbove_40 Y  0 S8 hden (lv_sub hl [] rfl)
  · replace hden := gin hc11 hden
    refine gV.lift (fun _ _ _ _ => lv_iconst (v := 1) hx hb d_Nd_isAbove_35 (by decide)) ?_
    refine gV.lift (fun _ _ _ _ => lv_goto (tgt := 40) hx hb d_Nd_isAbove_36 (by decide)) ?_
    exact w_Nd_isAbove_40 Y  1 S8 hden (lv_sub hl [] rfl)
