/-! PlanText$Plan.<init>(IILPlanText$Stretch;LPlanText$Hours;ILPlanText$NeedList;)V -/
abbrev y_Pl_init : MethodName := ⟨"PlanText$Plan", "<init>", "(IILPlanText$Stretch;LPlanText$Hours;ILPlanText$NeedList;)V"⟩
theorem d_Pl_init_0 : decode prog_6_method_1_code 0 = .ok (.aload_n 0, 1) := by decide +kernel
theorem d_Pl_init_1 : decode prog_6_method_1_code 1 = .ok (.invokespecial 1, 3) := by decide +kernel
theorem d_Pl_init_4 : decode prog_6_method_1_code 4 = .ok (.aload_n 0, 1) := by decide +kernel
theorem d_Pl_init_5 : decode prog_6_method_1_code 5 = .ok (.iload_n 1, 1) := by decide +kernel
theorem d_Pl_init_6 : decode prog_6_method_1_code 6 = .ok (.putfield 7, 3) := by decide +kernel
theorem d_Pl_init_9 : decode prog_6_method_1_code 9 = .ok (.aload_n 0, 1) := by decide +kernel
theorem d_Pl_init_10 : decode prog_6_method_1_code 10 = .ok (.iload_n 2, 1) := by decide +kernel
theorem d_Pl_init_11 : decode prog_6_method_1_code 11 = .ok (.putfield 13, 3) := by decide +kernel
theorem d_Pl_init_14 : decode prog_6_method_1_code 14 = .ok (.aload_n 0, 1) := by decide +kernel
theorem d_Pl_init_15 : decode prog_6_method_1_code 15 = .ok (.aload_n 3, 1) := by decide +kernel
theorem d_Pl_init_16 : decode prog_6_method_1_code 16 = .ok (.putfield 16, 3) := by decide +kernel
theorem d_Pl_init_19 : decode prog_6_method_1_code 19 = .ok (.aload_n 0, 1) := by decide +kernel
theorem d_Pl_init_20 : decode prog_6_method_1_code 20 = .ok (.aload 4, 2) := by decide +kernel
theorem d_Pl_init_22 : decode prog_6_method_1_code 22 = .ok (.putfield 20, 3) := by decide +kernel
theorem d_Pl_init_25 : decode prog_6_method_1_code 25 = .ok (.aload_n 0, 1) := by decide +kernel
theorem d_Pl_init_26 : decode prog_6_method_1_code 26 = .ok (.iload 5, 2) := by decide +kernel
theorem d_Pl_init_28 : decode prog_6_method_1_code 28 = .ok (.putfield 24, 3) := by decide +kernel
theorem d_Pl_init_31 : decode prog_6_method_1_code 31 = .ok (.aload_n 0, 1) := by decide +kernel
theorem d_Pl_init_32 : decode prog_6_method_1_code 32 = .ok (.aload 6, 2) := by decide +kernel
theorem d_Pl_init_34 : decode prog_6_method_1_code 34 = .ok (.putfield 27, 3) := by decide +kernel
theorem d_Pl_init_37 : decode prog_6_method_1_code 37 = .ok (.return_, 1) := by decide +kernel
def D_Pl_init (h0 : Nat) (p0 : Int32) (p1 : Int32) (p2 : Option Nat) (p3 : Option Nat) (p4 : Int32) (p5 : Option Nat) (S : gS) : Option gS := Option.bind (gPut S h0 5 0 (.int p0)) (fun S1 => Option.bind (gPut S1 h0 5 1 (.int p1)) (fun S2 => Option.bind (gPut S2 h0 5 2 (va_rf p2)) (fun S3 => Option.bind (gPut S3 h0 5 3 (va_rf p3)) (fun S4 => Option.bind (gPut S4 h0 5 4 (.int p4)) (fun S5 => Option.bind (gPut S5 h0 5 5 (va_rf p5)) (fun S6 => some S6))))))
set_option maxRecDepth 100000 in
set_option maxHeartbeats 4000000 in
theorem c_Pl_init {D : va_G} {cT : Nat → ClassId} {H0 : Heap} {l : Launch} {S : gS} {S' : gS} {h0 : Nat} {p0 : Int32} {p1 : Int32} {p2 : Option Nat} {p3 : Option Nat} {p4 : Int32} {p5 : Option Nat} (hden : D_Pl_init h0 p0 p1 p2 p3 p4 p5 S = some S') : gM D cT H0 l y_Pl_init (Cond.code y_Pl_init prog_6_method_1_code 7 (Option.none : Option Jvm.ClassFile.FieldType)) 1 24 [va_rf (some h0), .int p0, .int p1, va_rf p2, va_rf p3, .int p4, va_rf p5] S S' (.inr none) := by
  refine gM.ofV (by decide) ?_
  intro p e s m args below meth c s₁ B hml ea X hZ hex hr hE
  subst ea
  have Y : gY D cT H0 p s m _ meth c prog_6_method_1_code 7 "PlanText$Plan" 1 24 S (Option.none : Option Jvm.ClassFile.FieldType) := ⟨X, hZ, hex, hr, hE⟩
  have hin : meth.name = "<init>" := (name_of_methodNamed B.named B.method).1
  have hx := X.1
  have hb := X.2.1
  have hl := lv_entry ([va_rf (some h0), .int p0, .int p1, va_rf p2, va_rf p3, .int p4, va_rf p5]) (n := 7) (by cases p2 <;> cases p3 <;> cases p5 <;> exact Nat.le_of_ble_eq_true rfl)
  rw [lg_entry_eq]
  generalize (lg_sl ([va_rf (some h0), .int p0, .int p1, va_rf p2, va_rf p3, .int p4, va_rf p5]) ++ List.replicate (7 - (lg_sl ([va_rf (some h0), .int p0, .int p1, va_rf p2, va_rf p3, .int p4, va_rf p5])).length) Slot.unset).toArray = ls at hl ⊢
  have hl : lv_has ls 7 [(0, va_rf (some h0)), (1, .int p0), (2, .int p1), (3, va_rf p2), (4, va_rf p3), (5, .int p4), (6, va_rf p5)] := by cases p2 <;> cases p3 <;> cases p5 <;> exact hl
  unfold D_Pl_init at hden
  refine gV.lift (fun _ _ _ _ => g_aload_n hx hb d_Pl_init_0 rfl (lv_at hl 0 rfl)) ?_
  refine g_objInit X q_420 q_26 q_27 hl.1 d_Pl_init_1 ⟨by decide, Nat.le_of_ble_eq_true rfl⟩ ?_
  refine gV.lift (fun _ _ _ _ => g_aload_n hx hb d_Pl_init_4 rfl (lv_at hl 0 rfl)) ?_
  refine gV.lift (fun _ _ _ _ => lv_iload_n hx hb d_Pl_init_5 rfl (lv_at hl 1 rfl)) ?_
  replace hden := gb hden
  obtain ⟨S1, hv, hden⟩ := hden
  refine r_putF X cl_Pl (k := 0) hv (by decide) q_421 rfl hin rfl rfl rfl d_Pl_init_6 ?_
  refine gV.lift (fun _ _ _ _ => g_aload_n hx hb d_Pl_init_9 rfl (lv_at hl 0 rfl)) ?_
  refine gV.lift (fun _ _ _ _ => lv_iload_n hx hb d_Pl_init_10 rfl (lv_at hl 2 rfl)) ?_
  replace hden := gb hden
  obtain ⟨S2, hv, hden⟩ := hden
  refine r_putF X cl_Pl (k := 1) hv (by decide) q_425 rfl hin rfl rfl rfl d_Pl_init_11 ?_
  refine gV.lift (fun _ _ _ _ => g_aload_n hx hb d_Pl_init_14 rfl (lv_at hl 0 rfl)) ?_
  refine gV.lift (fun _ _ _ _ => g_aload_n hx hb d_Pl_init_15 rfl (lv_at hl 3 rfl)) ?_
  replace hden := gb hden
  obtain ⟨S3, hv, hden⟩ := hden
  refine r_putF X cl_Pl (k := 2) hv (by decide) q_427 rfl hin rfl g_nar g_fit d_Pl_init_16 ?_
  refine gV.lift (fun _ _ _ _ => g_aload_n hx hb d_Pl_init_19 rfl (lv_at hl 0 rfl)) ?_
  refine gV.lift (fun _ _ _ _ => g_aload hx hb d_Pl_init_20 (lv_at hl 4 rfl)) ?_
  replace hden := gb hden
  obtain ⟨S4, hv, hden⟩ := hden
  refine r_putF X cl_Pl (k := 3) hv (by decide) q_430 rfl hin rfl g_nar g_fit d_Pl_init_22 ?_
  refine gV.lift (fun _ _ _ _ => g_aload_n hx hb d_Pl_init_25 rfl (lv_at hl 0 rfl)) ?_
  refine gV.lift (fun _ _ _ _ => lv_iload hx hb d_Pl_init_26 (lv_at hl 5 rfl)) ?_
  replace hden := gb hden
  obtain ⟨S5, hv, hden⟩ := hden
  refine r_putF X cl_Pl (k := 4) hv (by decide) q_433 rfl hin rfl rfl rfl d_Pl_init_28 ?_
  refine gV.lift (fun _ _ _ _ => g_aload_n hx hb d_Pl_init_31 rfl (lv_at hl 0 rfl)) ?_
  refine gV.lift (fun _ _ _ _ => g_aload hx hb d_Pl_init_32 (lv_at hl 6 rfl)) ?_
  replace hden := gb hden
  obtain ⟨S6, hv, hden⟩ := hden
  refine r_putF X cl_Pl (k := 5) hv (by decide) q_435 rfl hin rfl g_nar g_fit d_Pl_init_34 ?_
  obtain rfl := gsi hden
  exact g_vret X hr d_Pl_init_37
/-! PlanText$Standby.<init>(LPlanText$Hours;III)V -/
abbrev y_Sb_init : MethodName := ⟨"PlanText$Standby", "<init>", "(LPlanText$Hours;III)V"⟩
theorem d_Sb_init_0 : decode prog_9_method_1_code 0 = .ok (.aload_n 0, 1) := by decide +kernel
theorem d_Sb_init_1 : decode prog_9_method_1_code 1 = .ok (.invokespecial 1, 3) := by decide +kernel
theorem d_Sb_init_4 : decode prog_9_method_1_code 4 = .ok (.aload_n 0, 1) := by decide +kernel
theorem d_Sb_init_5 : decode prog_9_method_1_code 5 = .ok (.aload_n 1, 1) := by decide +kernel
theorem d_Sb_init_6 : decode prog_9_method_1_code 6 = .ok (.putfield 7, 3) := by decide +kernel
theorem d_Sb_init_9 : decode prog_9_method_1_code 9 = .ok (.aload_n 0, 1) := by decide +kernel
theorem d_Sb_init_10 : decode prog_9_method_1_code 10 = .ok (.iload_n 2, 1) := by decide +kernel
theorem d_Sb_init_11 : decode prog_9_method_1_code 11 = .ok (.putfield 13, 3) := by decide +kernel
theorem d_Sb_init_14 : decode prog_9_method_1_code 14 = .ok (.aload_n 0, 1) := by decide +kernel
theorem d_Sb_init_15 : decode prog_9_method_1_code 15 = .ok (.iload_n 3, 1) := by decide +kernel
theorem d_Sb_init_16 : decode prog_9_method_1_code 16 = .ok (.putfield 17, 3) := by decide +kernel
theorem d_Sb_init_19 : decode prog_9_method_1_code 19 = .ok (.aload_n 0, 1) := by decide +kernel
theorem d_Sb_init_20 : decode prog_9_method_1_code 20 = .ok (.iload 4, 2) := by decide +kernel
theorem d_Sb_init_22 : decode prog_9_method_1_code 22 = .ok (.putfield 20, 3) := by decide +kernel
theorem d_Sb_init_25 : decode prog_9_method_1_code 25 = .ok (.return_, 1) := by decide +kernel
def D_Sb_init (h0 : Nat) (p0 : Option Nat) (p1 : Int32) (p2 : Int32) (p3 : Int32) (S : gS) : Option gS := Option.bind (gPut S h0 8 0 (va_rf p0)) (fun S1 => Option.bind (gPut S1 h0 8 1 (.int p1)) (fun S2 => Option.bind (gPut S2 h0 8 2 (.int p2)) (fun S3 => Option.bind (gPut S3 h0 8 3 (.int p3)) (fun S4 => some S4))))
set_option maxRecDepth 100000 in
set_option maxHeartbeats 4000000 in
theorem c_Sb_init {D : va_G} {cT : Nat → ClassId} {H0 : Heap} {l : Launch} {S : gS} {S' : gS} {h0 : Nat} {p0 : Option Nat} {p1 : Int32} {p2 : Int32} {p3 : Int32} (hden : D_Sb_init h0 p0 p1 p2 p3 S = some S') : gM D cT H0 l y_Sb_init (Cond.code y_Sb_init prog_9_method_1_code 5 (Option.none : Option Jvm.ClassFile.FieldType)) 1 24 [va_rf (some h0), va_rf p0, .int p1, .int p2, .int p3] S S' (.inr none) := by
  refine gM.ofV (by decide) ?_
  intro p e s m args below meth c s₁ B hml ea X hZ hex hr hE
  subst ea
  have Y : gY D cT H0 p s m _ meth c prog_9_method_1_code 5 "PlanText$Standby" 1 24 S (Option.none : Option Jvm.ClassFile.FieldType) := ⟨X, hZ, hex, hr, hE⟩
  have hin : meth.name = "<init>" := (name_of_methodNamed B.named B.method).1
  have hx := X.1
  have hb := X.2.1
  have hl := lv_entry ([va_rf (some h0), va_rf p0, .int p1, .int p2, .int p3]) (n := 5) (by cases p0 <;> exact Nat.le_of_ble_eq_true rfl)
  rw [lg_entry_eq]
  generalize (lg_sl ([va_rf (some h0), va_rf p0, .int p1, .int p2, .int p3]) ++ List.replicate (5 - (lg_sl ([va_rf (some h0), va_rf p0, .int p1, .int p2, .int p3])).length) Slot.unset).toArray = ls at hl ⊢
  have hl : lv_has ls 5 [(0, va_rf (some h0)), (1, va_rf p0), (2, .int p1), (3, .int p2), (4, .int p3)] := by cases p0 <;> exact hl
  unfold D_Sb_init at hden
  refine gV.lift (fun _ _ _ _ => g_aload_n hx hb d_Sb_init_0 rfl (lv_at hl 0 rfl)) ?_
  refine g_objInit X q_481 q_26 q_27 hl.1 d_Sb_init_1 ⟨by decide, Nat.le_of_ble_eq_true rfl⟩ ?_
  refine gV.lift (fun _ _ _ _ => g_aload_n hx hb d_Sb_init_4 rfl (lv_at hl 0 rfl)) ?_
  refine gV.lift (fun _ _ _ _ => g_aload_n hx hb d_Sb_init_5 rfl (lv_at hl 1 rfl)) ?_
  replace hden := gb hden
  obtain ⟨S1, hv, hden⟩ := hden
  refine r_putF X cl_Sb (k := 0) hv (by decide) q_482 rfl hin rfl g_nar g_fit d_Sb_init_6 ?_
  refine gV.lift (fun _ _ _ _ => g_aload_n hx hb d_Sb_init_9 rfl (lv_at hl 0 rfl)) ?_
  refine gV.lift (fun _ _ _ _ => lv_iload_n hx hb d_Sb_init_10 rfl (lv_at hl 2 rfl)) ?_
  replace hden := gb hden
  obtain ⟨S2, hv, hden⟩ := hden
  refine r_putF X cl_Sb (k := 1) hv (by decide) q_484 rfl hin rfl rfl rfl d_Sb_init_11 ?_
  refine gV.lift (fun _ _ _ _ => g_aload_n hx hb d_Sb_init_14 rfl (lv_at hl 0 rfl)) ?_
  refine gV.lift (fun _ _ _ _ => lv_iload_n hx hb d_Sb_init_15 rfl (lv_at hl 3 rfl)) ?_
  replace hden := gb hden
  obtain ⟨S3, hv, hden⟩ := hden
  refine r_putF X cl_Sb (k := 2) hv (by decide) q_486 rfl hin rfl rfl rfl d_Sb_init_16 ?_
  refine gV.lift (fun _ _ _ _ => g_aload_n hx hb d_Sb_init_19 rfl (lv_at hl 0 rfl)) ?_
  refine gV.lift (fun _ _ _ _ => lv_iload hx hb d_Sb_init_20 (lv_at hl 4 rfl)) ?_
  replace hden := gb hden
  obtain ⟨S4, hv, hden⟩ := hden
  refine r_putF X cl_Sb (k := 3) hv (by decide) q_489 rfl hin rfl rfl rfl d_Sb_init_22 ?_
  obtain rfl := gsi hden
  exact g_vret X hr d_Sb_init_25
/-! PlanText$Plan.fits(IIII)Z -/
abbrev y_Pl_fits : MethodName := ⟨"PlanText$Plan", "fits", "(IIII)Z"⟩
theorem d_Pl_fits_0 : decode prog_6_method_2_code 0 = .ok (.aload_n 0, 1) := by decide +kernel
theorem d_Pl_fits_1 : decode prog_6_method_2_code 1 = .ok (.getfield 13, 3) := by decide +kernel
theorem d_Pl_fits_4 : decode prog_6_method_2_code 4 = .ok (.iload_n 1, 1) := by decide +kernel
theorem d_Pl_fits_5 : decode prog_6_method_2_code 5 = .ok (.if_icmp .ne 31, 3) := by decide +kernel
theorem d_Pl_fits_8 : decode prog_6_method_2_code 8 = .ok (.aload_n 0, 1) := by decide +kernel
theorem d_Pl_fits_9 : decode prog_6_method_2_code 9 = .ok (.getfield 16, 3) := by decide +kernel
theorem d_Pl_fits_12 : decode prog_6_method_2_code 12 = .ok (.iload_n 2, 1) := by decide +kernel
theorem d_Pl_fits_13 : decode prog_6_method_2_code 13 = .ok (.iload_n 3, 1) := by decide +kernel
theorem d_Pl_fits_14 : decode prog_6_method_2_code 14 = .ok (.invokevirtual 31, 3) := by decide +kernel
theorem d_Pl_fits_17 : decode prog_6_method_2_code 17 = .ok (.ifCond .eq 19, 3) := by decide +kernel
theorem d_Pl_fits_20 : decode prog_6_method_2_code 20 = .ok (.aload_n 0, 1) := by decide +kernel
theorem d_Pl_fits_21 : decode prog_6_method_2_code 21 = .ok (.getfield 20, 3) := by decide +kernel
theorem d_Pl_fits_24 : decode prog_6_method_2_code 24 = .ok (.iload 4, 2) := by decide +kernel
theorem d_Pl_fits_26 : decode prog_6_method_2_code 26 = .ok (.invokevirtual 37, 3) := by decide +kernel
theorem d_Pl_fits_29 : decode prog_6_method_2_code 29 = .ok (.ifCond .eq 7, 3) := by decide +kernel
theorem d_Pl_fits_32 : decode prog_6_method_2_code 32 = .ok (.iconst 1, 1) := by decide +kernel
theorem d_Pl_fits_33 : decode prog_6_method_2_code 33 = .ok (.goto 4, 3) := by decide +kernel
theorem d_Pl_fits_36 : decode prog_6_method_2_code 36 = .ok (.iconst 0, 1) := by decide +kernel
theorem d_Pl_fits_37 : decode prog_6_method_2_code 37 = .ok (.ireturn, 1) := by decide +kernel
def B_Pl_fits_37  (t0 : Int32) (S : gS) : Option (Int32 × gS) := Option.bind (gZo t0) (fun v1 => some (v1, S))
set_option maxRecDepth 100000 in
set_option maxHeartbeats 4000000 in
theorem w_Pl_fits_37 {D : va_G} {cT : Nat → ClassId} {H0 : Heap} {l : Launch} {p : Program} {e : Env} {s : State} {m : MethodId} {args : Array Value} {below : List Frame} {meth : Method} {c : Code} {S0 : gS} {S' : gS} {r : Int32} (Y : gY D cT H0 p s m args meth c prog_6_method_2_code 5 "PlanText$Plan" 2 42 S0 (Option.some Jvm.ClassFile.FieldType.boolean))  (t0 : Int32) (S : gS) (hden : B_Pl_fits_37  t0 S = some (r, S')) {ls : Array Slot} (hl : lv_has ls 5 []) : gV D cT H0 p l e (gRm 2 42 S0) s m args below meth c (gQ D cT H0 below S0 S' (.inr (some (.int r))) s) S0 S (F0 m 37 ls [.int t0]) := by
  obtain ⟨X, hZ, hex, hr, hE⟩ := id Y
  have hx := X.1
  have hb := X.2.1
  unfold B_Pl_fits_37 at hden
  replace hden := gb hden
  obtain ⟨v1, hz, hden⟩ := hden
  obtain ⟨rfl, hz2, -⟩ := gZo_spec hz
  obtain ⟨rfl, rfl⟩ := gpi hden
  exact g_zret X hr hz2 d_Pl_fits_37
def B_Pl_fits_36   (S : gS) : Option (Int32 × gS) := B_Pl_fits_37  0 S
set_option maxRecDepth 100000 in
set_option maxHeartbeats 4000000 in
theorem w_Pl_fits_36 {D : va_G} {cT : Nat → ClassId} {H0 : Heap} {l : Launch} {p : Program} {e : Env} {s : State} {m : MethodId} {args : Array Value} {below : List Frame} {meth : Method} {c : Code} {S0 : gS} {S' : gS} {r : Int32} (Y : gY D cT H0 p s m args meth c prog_6_method_2_code 5 "PlanText$Plan" 2 42 S0 (Option.some Jvm.ClassFile.FieldType.boolean))   (S : gS) (hden : B_Pl_fits_36   S = some (r, S')) {ls : Array Slot} (hl : lv_has ls 5 []) : gV D cT H0 p l e (gRm 2 42 S0) s m args below meth c (gQ D cT H0 below S0 S' (.inr (some (.int r))) s) S0 S (F0 m 36 ls []) := by
  obtain ⟨X, hZ, hex, hr, hE⟩ := id Y
  have hx := X.1
  have hb := X.2.1
  unfold B_Pl_fits_36 at hden
  refine gV.lift (fun _ _ _ _ => lv_iconst (v := 0) hx hb d_Pl_fits_36 (by decide)) ?_
  exact w_Pl_fits_37 Y  0 S hden (lv_sub hl [] rfl)
def D_Pl_fits (h0 : Nat) (p0 : Int32) (p1 : Int32) (p2 : Int32) (p3 : Int32) (S : gS) : Option (Int32 × gS) := Option.bind (gI S h0 5 1) (fun v1 => (if v1 = p0 then Option.bind (gRf S h0 5 2) (fun r3 => Option.bind r3 (fun a4 => Option.bind (gOb S a4 9) (fun fs7 => gB2 (D_Sx_covers a4 p1 p2 S) (fun v6 S5 => (if v6 = 0 then B_Pl_fits_36  S5 else Option.bind (gRf S5 h0 5 3) (fun r9 => Option.bind r9 (fun a10 => Option.bind (gOb S5 a10 2) (fun fs13 => gB2 (D_Hr_has a10 p3 S5) (fun v12 S11 => (if v12 = 0 then B_Pl_fits_36  S11 else B_Pl_fits_37  1 S11)))))))))) else B_Pl_fits_36  S))
set_option maxRecDepth 100000 in
set_option maxHeartbeats 4000000 in
theorem c_Pl_fits {D : va_G} {cT : Nat → ClassId} {H0 : Heap} {l : Launch} {S : gS} {S' : gS} {h0 : Nat} {p0 : Int32} {p1 : Int32} {p2 : Int32} {p3 : Int32} {r : Int32} (hden : D_Pl_fits h0 p0 p1 p2 p3 S = some (r, S')) : gM D cT H0 l y_Pl_fits (Cond.code y_Pl_fits prog_6_method_2_code 5 (Option.some Jvm.ClassFile.FieldType.boolean)) 2 42 [va_rf (some h0), .int p0, .int p1, .int p2, .int p3] S S' (.inr (some (.int r))) := by
  refine gM.ofV (by decide) ?_
  intro p e s m args below meth c s₁ B hml ea X hZ hex hr hE
  subst ea
  have Y : gY D cT H0 p s m _ meth c prog_6_method_2_code 5 "PlanText$Plan" 2 42 S (Option.some Jvm.ClassFile.FieldType.boolean) := ⟨X, hZ, hex, hr, hE⟩
  have hx := X.1
  have hb := X.2.1
  have hl := lv_entry ([va_rf (some h0), .int p0, .int p1, .int p2, .int p3]) (n := 5) (Nat.le_of_ble_eq_true rfl)
  rw [lg_entry_eq]
  generalize (lg_sl ([va_rf (some h0), .int p0, .int p1, .int p2, .int p3]) ++ List.replicate (5 - (lg_sl ([va_rf (some h0), .int p0, .int p1, .int p2, .int p3])).length) Slot.unset).toArray = ls at hl ⊢
  have hl : lv_has ls 5 [(0, va_rf (some h0)), (1, .int p0), (2, .int p1), (3, .int p2), (4, .int p3)] := hl
  unfold D_Pl_fits at hden
  refine gV.lift (fun _ _ _ _ => g_aload_n hx hb d_Pl_fits_0 rfl (lv_at hl 0 rfl)) ?_
  replace hden := gb hden
  obtain ⟨v1, hv, hden⟩ := hden
  refine r_getI X cl_Pl (k := 1) hv (by decide) q_425 d_Pl_fits_1 ?_
  refine gV.lift (fun _ _ _ _ => lv_iload_n hx hb d_Pl_fits_4 rfl (lv_at hl 1 rfl)) ?_
  refine gV.lift2 (fun _ _ _ _ => lv_icmp_ne (tgt := 36) hx hb d_Pl_fits_5 (by decide)) (fun hc2 => ?_) (fun hc2 => ?_)
  · replace hden := gin hc2 hden
    exact w_Pl_fits_36 Y  S hden (lv_sub hl [] rfl)
  · replace hden := gip hc2 hden
    refine gV.lift (fun _ _ _ _ => g_aload_n hx hb d_Pl_fits_8 rfl (lv_at hl 0 rfl)) ?_
    replace hden := gb hden
    obtain ⟨r3, hv, hden⟩ := hden
    refine r_getR X cl_Pl (k := 2) hv (by decide) q_427 d_Pl_fits_9 ?_
    refine gV.lift (fun _ _ _ _ => lv_iload_n hx hb d_Pl_fits_12 rfl (lv_at hl 2 rfl)) ?_
    refine gV.lift (fun _ _ _ _ => lv_iload_n hx hb d_Pl_fits_13 rfl (lv_at hl 3 rfl)) ?_
    replace hden := gb hden
    obtain ⟨a4, rfl, hden⟩ := hden
    replace hden := gb hden
    obtain ⟨fs7, ho, hden⟩ := hden
    replace hden := gb2 hden
    obtain ⟨v6, S5, hz, hden⟩ := hden
    refine g_callV (As := [.int p1, .int p2]) (rest := []) X hZ (c_Sx_covers hz) cl_Sx (gOb_spec ho) q_573 q_13 q_570 q_571 q_572 ⟨by decide, by decide, by show _ = some 2; decide +kernel⟩ ⟨by decide, by decide⟩ hl.1 (Nat.le_of_ble_eq_true rfl) d_Pl_fits_14 rfl rfl ?_
    refine gV.lift2 (fun _ _ _ _ => lv_if_eq (tgt := 36) hx hb d_Pl_fits_17 (by decide)) (fun hc8 => ?_) (fun hc8 => ?_)
    · replace hden := gip hc8 hden
      exact w_Pl_fits_36 Y  S5 hden (lv_sub hl [] rfl)
    · replace hden := gin hc8 hden
      refine gV.lift (fun _ _ _ _ => g_aload_n hx hb d_Pl_fits_20 rfl (lv_at hl 0 rfl)) ?_
      replace hden := gb hden
      obtain ⟨r9, hv, hden⟩ := hden
      refine r_getR X cl_Pl (k := 3) hv (by decide) q_430 d_Pl_fits_21 ?_
      refine gV.lift (fun _ _ _ _ => lv_iload hx hb d_Pl_fits_24 (lv_at hl 4 rfl)) ?_
      replace hden := gb hden
      obtain ⟨a10, rfl, hden⟩ := hden
      replace hden := gb hden
      obtain ⟨fs13, ho, hden⟩ := hden
      replace hden := gb2 hden
      obtain ⟨v12, S11, hz, hden⟩ := hden
      refine g_callV (As := [.int p3]) (rest := []) X hZ (c_Hr_has hz) cl_Hr (gOb_spec ho) q_581 q_14 q_578 q_579 q_580 ⟨by decide, by decide, by show _ = some 1; decide +kernel⟩ ⟨by decide, by decide⟩ hl.1 (Nat.le_of_ble_eq_true rfl) d_Pl_fits_26 rfl rfl ?_
      refine gV.lift2 (fun _ _ _ _ => lv_if_eq (tgt := 36) hx hb d_Pl_fits_29 (by decide)) (fun hc14 => ?_) (fun hc14 => ?_)
      · replace hden := gip hc14 hden
        exact w_Pl_fits_36 Y  S11 hden (lv_sub hl [] rfl)
      · replace hden := gin hc14 hden
        refine gV.lift (fun _ _ _ _ => lv_iconst (v := 1) hx hb d_Pl_fits_32 (by decide)) ?_
        refine gV.lift (fun _ _ _ _ => lv_goto (tgt := 37) hx hb d_Pl_fits_33 (by decide)) ?_
        exact w_Pl_fits_37 Y  1 S11 hden (lv_sub hl [] rfl)
/-! PlanText$Plan.goesAheadOf(LPlanText$Plan;)Z -/
abbrev y_Pl_goesAheadOf : MethodName := ⟨"PlanText$Plan", "goesAheadOf", "(LPlanText$Plan;)Z"⟩
theorem d_Pl_goesAheadOf_0 : decode prog_6_method_4_code 0 = .ok (.aload_n 0, 1) := by decide +kernel
theorem d_Pl_goesAheadOf_1 : decode prog_6_method_4_code 1 = .ok (.getfield 13, 3) := by decide +kernel
theorem d_Pl_goesAheadOf_4 : decode prog_6_method_4_code 4 = .ok (.aload_n 1, 1) := by decide +kernel
theorem d_Pl_goesAheadOf_5 : decode prog_6_method_4_code 5 = .ok (.getfield 13, 3) := by decide +kernel
theorem d_Pl_goesAheadOf_8 : decode prog_6_method_4_code 8 = .ok (.if_icmp .ne 40, 3) := by decide +kernel
theorem d_Pl_goesAheadOf_11 : decode prog_6_method_4_code 11 = .ok (.aload_n 0, 1) := by decide +kernel
theorem d_Pl_goesAheadOf_12 : decode prog_6_method_4_code 12 = .ok (.getfield 24, 3) := by decide +kernel
theorem d_Pl_goesAheadOf_15 : decode prog_6_method_4_code 15 = .ok (.aload_n 1, 1) := by decide +kernel
theorem d_Pl_goesAheadOf_16 : decode prog_6_method_4_code 16 = .ok (.getfield 24, 3) := by decide +kernel
theorem d_Pl_goesAheadOf_19 : decode prog_6_method_4_code 19 = .ok (.if_icmp .gt 25, 3) := by decide +kernel
theorem d_Pl_goesAheadOf_22 : decode prog_6_method_4_code 22 = .ok (.aload_n 0, 1) := by decide +kernel
theorem d_Pl_goesAheadOf_23 : decode prog_6_method_4_code 23 = .ok (.getfield 24, 3) := by decide +kernel
theorem d_Pl_goesAheadOf_26 : decode prog_6_method_4_code 26 = .ok (.aload_n 1, 1) := by decide +kernel
theorem d_Pl_goesAheadOf_27 : decode prog_6_method_4_code 27 = .ok (.getfield 24, 3) := by decide +kernel
theorem d_Pl_goesAheadOf_30 : decode prog_6_method_4_code 30 = .ok (.if_icmp .ne 18, 3) := by decide +kernel
theorem d_Pl_goesAheadOf_33 : decode prog_6_method_4_code 33 = .ok (.aload_n 0, 1) := by decide +kernel
theorem d_Pl_goesAheadOf_34 : decode prog_6_method_4_code 34 = .ok (.getfield 7, 3) := by decide +kernel
theorem d_Pl_goesAheadOf_37 : decode prog_6_method_4_code 37 = .ok (.aload_n 1, 1) := by decide +kernel
theorem d_Pl_goesAheadOf_38 : decode prog_6_method_4_code 38 = .ok (.getfield 7, 3) := by decide +kernel
theorem d_Pl_goesAheadOf_41 : decode prog_6_method_4_code 41 = .ok (.if_icmp .ge 7, 3) := by decide +kernel
theorem d_Pl_goesAheadOf_44 : decode prog_6_method_4_code 44 = .ok (.iconst 1, 1) := by decide +kernel
theorem d_Pl_goesAheadOf_45 : decode prog_6_method_4_code 45 = .ok (.goto 4, 3) := by decide +kernel
theorem d_Pl_goesAheadOf_48 : decode prog_6_method_4_code 48 = .ok (.iconst 0, 1) := by decide +kernel
theorem d_Pl_goesAheadOf_49 : decode prog_6_method_4_code 49 = .ok (.ireturn, 1) := by decide +kernel
def B_Pl_goesAheadOf_49  (t0 : Int32) (S : gS) : Option (Int32 × gS) := Option.bind (gZo t0) (fun v1 => some (v1, S))
set_option maxRecDepth 100000 in
set_option maxHeartbeats 4000000 in
theorem w_Pl_goesAheadOf_49 {D : va_G} {cT : Nat → ClassId} {H0 : Heap} {l : Launch} {p : Program} {e : Env} {s : State} {m : MethodId} {args : Array Value} {below : List Frame} {meth : Method} {c : Code} {S0 : gS} {S' : gS} {r : Int32} (Y : gY D cT H0 p s m args meth c prog_6_method_4_code 2 "PlanText$Plan" 0 0 S0 (Option.some Jvm.ClassFile.FieldType.boolean))  (t0 : Int32) (S : gS) (hden : B_Pl_goesAheadOf_49  t0 S = some (r, S')) {ls : Array Slot} (hl : lv_has ls 2 []) : gV D cT H0 p l e (gRm 0 0 S0) s m args below meth c (gQ D cT H0 below S0 S' (.inr (some (.int r))) s) S0 S (F0 m 49 ls [.int t0]) := by
  obtain ⟨X, hZ, hex, hr, hE⟩ := id Y
  have hx := X.1
  have hb := X.2.1
  unfold B_Pl_goesAheadOf_49 at hden
  replace hden := gb hden
  obtain ⟨v1, hz, hden⟩ := hden
  obtain ⟨rfl, hz2, -⟩ := gZo_spec hz
  obtain ⟨rfl, rfl⟩ := gpi hden
  exact g_zret X hr hz2 d_Pl_goesAheadOf_49
def B_Pl_goesAheadOf_48   (S : gS) : Option (Int32 × gS) := B_Pl_goesAheadOf_49  0 S
set_option maxRecDepth 100000 in
set_option maxHeartbeats 4000000 in
theorem w_Pl_goesAheadOf_48 {D : va_G} {cT : Nat → ClassId} {H0 : Heap} {l : Launch} {p : Program} {e : Env} {s : State} {m : MethodId} {args : Array Value} {below : List Frame} {meth : Method} {c : Code} {S0 : gS} {S' : gS} {r : Int32} (Y : gY D cT H0 p s m args meth c prog_6_method_4_code 2 "PlanText$Plan" 0 0 S0 (Option.some Jvm.ClassFile.FieldType.boolean))   (S : gS) (hden : B_Pl_goesAheadOf_48   S = some (r, S')) {ls : Array Slot} (hl : lv_has ls 2 []) : gV D cT H0 p l e (gRm 0 0 S0) s m args below meth c (gQ D cT H0 below S0 S' (.inr (some (.int r))) s) S0 S (F0 m 48 ls []) := by
  obtain ⟨X, hZ, hex, hr, hE⟩ := id Y
  have hx := X.1
  have hb := X.2.1
  unfold B_Pl_goesAheadOf_48 at hden
  refine gV.lift (fun _ _ _ _ => lv_iconst (v := 0) hx hb d_Pl_goesAheadOf_48 (by decide)) ?_
  exact w_Pl_goesAheadOf_49 Y  0 S hden (lv_sub hl [] rfl)
def B_Pl_goesAheadOf_44   (S : gS) : Option (Int32 × gS) := B_Pl_goesAheadOf_49  1 S
set_option maxRecDepth 100000 in
set_option maxHeartbeats 4000000 in
theorem w_Pl_goesAheadOf_44 {D : va_G} {cT : Nat → ClassId} {H0 : Heap} {l : Launch} {p : Program} {e : Env} {s : State} {m : MethodId} {args : Array Value} {below : List Frame} {meth : Method} {c : Code} {S0 : gS} {S' : gS} {r : Int32} (Y : gY D cT H0 p s m args meth c prog_6_method_4_code 2 "PlanText$Plan" 0 0 S0 (Option.some Jvm.ClassFile.FieldType.boolean))   (S : gS) (hden : B_Pl_goesAheadOf_44   S = some (r, S')) {ls : Array Slot} (hl : lv_has ls 2 []) : gV D cT H0 p l e (gRm 0 0 S0) s m args below meth c (gQ D cT H0 below S0 S' (.inr (some (.int r))) s) S0 S (F0 m 44 ls []) := by
  obtain ⟨X, hZ, hex, hr, hE⟩ := id Y
  have hx := X.1
  have hb := X.2.1
  unfold B_Pl_goesAheadOf_44 at hden
  refine gV.lift (fun _ _ _ _ => lv_iconst (v := 1) hx hb d_Pl_goesAheadOf_44 (by decide)) ?_
  refine gV.lift (fun _ _ _ _ => lv_goto (tgt := 49) hx hb d_Pl_goesAheadOf_45 (by decide)) ?_
  exact w_Pl_goesAheadOf_49 Y  1 S hden (lv_sub hl [] rfl)
def D_Pl_goesAheadOf (h0 : Nat) (p0 : Option Nat) (S : gS) : Option (Int32 × gS) := Option.bind (gI S h0 5 1) (fun v1 => Option.bind p0 (fun a2 => Option.bind (gI S a2 5 1) (fun v3 => (if v1 = v3 then Option.bind (gI S h0 5 4) (fun v5 => Option.bind (gI S a2 5 4) (fun v6 => (if v6 < v5 then B_Pl_goesAheadOf_44  S else Option.bind (gI S h0 5 4) (fun v8 => Option.bind (gI S a2 5 4) (fun v9 => (if v8 = v9 then Option.bind (gI S h0 5 0) (fun v11 => Option.bind (gI S a2 5 0) (fun v12 => (if v12 ≤ v11 then B_Pl_goesAheadOf_48  S else B_Pl_goesAheadOf_44  S))) else B_Pl_goesAheadOf_48  S)))))) else B_Pl_goesAheadOf_48  S))))
set_option maxRecDepth 100000 in
set_option maxHeartbeats 4000000 in
theorem c_Pl_goesAheadOf {D : va_G} {cT : Nat → ClassId} {H0 : Heap} {l : Launch} {S : gS} {S' : gS} {h0 : Nat} {p0 : Option Nat} {r : Int32} (hden : D_Pl_goesAheadOf h0 p0 S = some (r, S')) : gM D cT H0 l y_Pl_goesAheadOf (Cond.code y_Pl_goesAheadOf prog_6_method_4_code 2 (Option.some Jvm.ClassFile.FieldType.boolean)) 0 0 [va_rf (some h0), va_rf p0] S S' (.inr (some (.int r))) := by
  refine gM.ofV (by decide) ?_
  intro p e s m args below meth c s₁ B hml ea X hZ hex hr hE
  subst ea
  have Y : gY D cT H0 p s m _ meth c prog_6_method_4_code 2 "PlanText$Plan" 0 0 S (Option.some Jvm.ClassFile.FieldType.boolean) := ⟨X, hZ, hex, hr, hE⟩
  have hx := X.1
  have hb := X.2.1
  have hl := lv_entry ([va_rf (some h0), va_rf p0]) (n := 2) (by cases p0 <;> exact Nat.le_of_ble_eq_true rfl)
  rw [lg_entry_eq]
  generalize (lg_sl ([va_rf (some h0), va_rf p0]) ++ List.replicate (2 - (lg_sl ([va_rf (some h0), va_rf p0])).length) Slot.unset).toArray = ls at hl ⊢
  have hl : lv_has ls 2 [(0, va_rf (some h0)), (1, va_rf p0)] := by cases p0 <;> exact hl
  unfold D_Pl_goesAheadOf at hden
  refine gV.lift (fun _ _ _ _ => g_aload_n hx hb d_Pl_goesAheadOf_0 rfl (lv_at hl 0 rfl)) ?_
  replace hden := gb hden
  obtain ⟨v1, hv, hden⟩ := hden
  refine r_getI X cl_Pl (k := 1) hv (by decide) q_425 d_Pl_goesAheadOf_1 ?_
  refine gV.lift (fun _ _ _ _ => g_aload_n hx hb d_Pl_goesAheadOf_4 rfl (lv_at hl 1 rfl)) ?_
  replace hden := gb hden
  obtain ⟨a2, rfl, hden⟩ := hden
  replace hden := gb hden
  obtain ⟨v3, hv, hden⟩ := hden
  refine r_getI X cl_Pl (k := 1) hv (by decide) q_425 d_Pl_goesAheadOf_5 ?_
  refine gV.lift2 (fun _ _ _ _ => lv_icmp_ne (tgt := 48) hx hb d_Pl_goesAheadOf_8 (by decide)) (fun hc4 => ?_) (fun hc4 => ?_)
  · replace hden := gin hc4 hden
    exact w_Pl_goesAheadOf_48 Y  S hden (lv_sub hl [] rfl)
  · replace hden := gip hc4 hden
    refine gV.lift (fun _ _ _ _ => g_aload_n hx hb d_Pl_goesAheadOf_11 rfl (lv_at hl 0 rfl)) ?_
    replace hden := gb hden
    obtain ⟨v5, hv, hden⟩ := hden
    refine r_getI X cl_Pl (k := 4) hv (by decide) q_433 d_Pl_goesAheadOf_12 ?_
    refine gV.lift (fun _ _ _ _ => g_aload_n hx hb d_Pl_goesAheadOf_15 rfl (lv_at hl 1 rfl)) ?_
    replace hden := gb hden
    obtain ⟨v6, hv, hden⟩ := hden
    refine r_getI X cl_Pl (k := 4) hv (by decide) q_433 d_Pl_goesAheadOf_16 ?_
    refine gV.lift2 (fun _ _ _ _ => lv_icmp_gt (tgt := 44) hx hb d_Pl_goesAheadOf_19 (by decide)) (fun hc7 => ?_) (fun hc7 => ?_)
    · replace hden := gip hc7 hden
      exact w_Pl_goesAheadOf_44 Y  S hden (lv_sub hl [] rfl)
    · replace hden := gin hc7 hden
      refine gV.lift (fun _ _ _ _ => g_aload_n hx hb d_Pl_goesAheadOf_22 rfl (lv_at hl 0 rfl)) ?_
      replace hden := gb hden
      obtain ⟨v8, hv, hden⟩ := hden
      refine r_getI X cl_Pl (k := 4) hv (by decide) q_433 d_Pl_goesAheadOf_23 ?_
      refine gV.lift (fun _ _ _ _ => g_aload_n hx hb d_Pl_goesAheadOf_26 rfl (lv_at hl 1 rfl)) ?_
      replace hden := gb hden
      obtain ⟨v9, hv, hden⟩ := hden
      refine r_getI X cl_Pl (k := 4) hv (by decide) q_433 d_Pl_goesAheadOf_27 ?_
      refine gV.lift2 (fun _ _ _ _ => lv_icmp_ne (tgt := 48) hx hb d_Pl_goesAheadOf_30 (by decide)) (fun hc10 => ?_) (fun hc10 => ?_)
      · replace hden := gin hc10 hden
        exact w_Pl_goesAheadOf_48 Y  S hden (lv_sub hl [] rfl)
      · replace hden := gip hc10 hden
        refine gV.lift (fun _ _ _ _ => g_aload_n hx hb d_Pl_goesAheadOf_33 rfl (lv_at hl 0 rfl)) ?_
        replace hden := gb hden
        obtain ⟨v11, hv, hden⟩ := hden
        refine r_getI X cl_Pl (k := 0) hv (by decide) q_421 d_Pl_goesAheadOf_34 ?_
        refine gV.lift (fun _ _ _ _ => g_aload_n hx hb d_Pl_goesAheadOf_37 rfl (lv_at hl 1 rfl)) ?_
        replace hden := gb hden
        obtain ⟨v12, hv, hden⟩ := hden
        refine r_getI X cl_Pl (k := 0) hv (by decide) q_421 d_Pl_goesAheadOf_38 ?_
        refine gV.lift2 (fun _ _ _ _ => lv_icmp_ge (tgt := 48) hx hb d_Pl_goesAheadOf_41 (by decide)) (fun hc13 => ?_) (fun hc13 => ?_)
        · replace hden := gip hc13 hden
          exact w_Pl_goesAheadOf_48 Y  S hden (lv_sub hl [] rfl)
        · replace hden := gin hc13 hden
          exact w_Pl_goesAheadOf_44 Y  S hden (lv_sub hl [] rfl)
/-! PlanText$Standby.holds(III)Z -/
abbrev y_Sb_holds : MethodName := ⟨"PlanText$Standby", "holds", "(III)Z"⟩
theorem d_Sb_holds_0 : decode prog_9_method_2_code 0 = .ok (.aload_n 0, 1) := by decide +kernel
theorem d_Sb_holds_1 : decode prog_9_method_2_code 1 = .ok (.getfield 20, 3) := by decide +kernel
theorem d_Sb_holds_4 : decode prog_9_method_2_code 4 = .ok (.iload_n 1, 1) := by decide +kernel
theorem d_Sb_holds_5 : decode prog_9_method_2_code 5 = .ok (.if_icmp .ne 26, 3) := by decide +kernel
theorem d_Sb_holds_8 : decode prog_9_method_2_code 8 = .ok (.aload_n 0, 1) := by decide +kernel
theorem d_Sb_holds_9 : decode prog_9_method_2_code 9 = .ok (.getfield 7, 3) := by decide +kernel
theorem d_Sb_holds_12 : decode prog_9_method_2_code 12 = .ok (.iload_n 2, 1) := by decide +kernel
theorem d_Sb_holds_13 : decode prog_9_method_2_code 13 = .ok (.invokevirtual 23, 3) := by decide +kernel
theorem d_Sb_holds_16 : decode prog_9_method_2_code 16 = .ok (.ifCond .eq 15, 3) := by decide +kernel
theorem d_Sb_holds_19 : decode prog_9_method_2_code 19 = .ok (.aload_n 0, 1) := by decide +kernel
theorem d_Sb_holds_20 : decode prog_9_method_2_code 20 = .ok (.getfield 13, 3) := by decide +kernel
theorem d_Sb_holds_23 : decode prog_9_method_2_code 23 = .ok (.iload_n 3, 1) := by decide +kernel
theorem d_Sb_holds_24 : decode prog_9_method_2_code 24 = .ok (.if_icmp .gt 7, 3) := by decide +kernel
theorem d_Sb_holds_27 : decode prog_9_method_2_code 27 = .ok (.iconst 1, 1) := by decide +kernel
theorem d_Sb_holds_28 : decode prog_9_method_2_code 28 = .ok (.goto 4, 3) := by decide +kernel
theorem d_Sb_holds_31 : decode prog_9_method_2_code 31 = .ok (.iconst 0, 1) := by decide +kernel
theorem d_Sb_holds_32 : decode prog_9_method_2_code 32 = .ok (.ireturn, 1) := by decide +kernel
def B_Sb_holds_32  (t0 : Int32) (S : gS) : Option (Int32 × gS) := Option.bind (gZo t0) (fun v1 => some (v1, S))
set_option maxRecDepth 100000 in
set_option maxHeartbeats 4000000 in
theorem w_Sb_holds_32 {D : va_G} {cT : Nat → ClassId} {H0 : Heap} {l : Launch} {p : Program} {e : Env} {s : State} {m : MethodId} {args : Array Value} {below : List Frame} {meth : Method} {c : Code} {S0 : gS} {S' : gS} {r : Int32} (Y : gY D cT H0 p s m args meth c prog_9_method_2_code 4 "PlanText$Standby" 1 21 S0 (Option.some Jvm.ClassFile.FieldType.boolean))  (t0 : Int32) (S : gS) (hden : B_Sb_holds_32  t0 S = some (r, S')) {ls : Array Slot} (hl : lv_has ls 4 []) : gV D cT H0 p l e (gRm 1 21 S0) s m args below meth c (gQ D cT H0 below S0 S' (.inr (some (.int r))) s) S0 S (F0 m 32 ls [.int t0]) := by
  obtain ⟨X, hZ, hex, hr, hE⟩ := id Y
  have hx := X.1
  have hb := X.2.1
  unfold B_Sb_holds_32 at hden
  replace hden := gb hden
  obtain ⟨v1, hz, hden⟩ := hden
  obtain ⟨rfl, hz2, -⟩ := gZo_spec hz
  obtain ⟨rfl, rfl⟩ := gpi hden
  exact g_zret X hr hz2 d_Sb_holds_32
def B_Sb_holds_31   (S : gS) : Option (Int32 × gS) := B_Sb_holds_32  0 S
set_option maxRecDepth 100000 in
set_option maxHeartbeats 4000000 in
theorem w_Sb_holds_31 {D : va_G} {cT : Nat → ClassId} {H0 : Heap} {l : Launch} {p : Program} {e : Env} {s : State} {m : MethodId} {args : Array Value} {below : List Frame} {meth : Method} {c : Code} {S0 : gS} {S' : gS} {r : Int32} (Y : gY D cT H0 p s m args meth c prog_9_method_2_code 4 "PlanText$Standby" 1 21 S0 (Option.some Jvm.ClassFile.FieldType.boolean))   (S : gS) (hden : B_Sb_holds_31   S = some (r, S')) {ls : Array Slot} (hl : lv_has ls 4 []) : gV D cT H0 p l e (gRm 1 21 S0) s m args below meth c (gQ D cT H0 below S0 S' (.inr (some (.int r))) s) S0 S (F0 m 31 ls []) := by
  obtain ⟨X, hZ, hex, hr, hE⟩ := id Y
  have hx := X.1
  have hb := X.2.1
  unfold B_Sb_holds_31 at hden
  refine gV.lift (fun _ _ _ _ => lv_iconst (v := 0) hx hb d_Sb_holds_31 (by decide)) ?_
  exact w_Sb_holds_32 Y  0 S hden (lv_sub hl [] rfl)
def D_Sb_holds (h0 : Nat) (p0 : Int32) (p1 : Int32) (p2 : Int32) (S : gS) : Option (Int32 × gS) := Option.bind (gI S h0 8 3) (fun v1 => (if v1 = p0 then Option.bind (gRf S h0 8 0) (fun r3 => Option.bind r3 (fun a4 => Option.bind (gOb S a4 2) (fun fs7 => gB2 (D_Hr_has a4 p1 S) (fun v6 S5 => (if v6 = 0 then B_Sb_holds_31  S5 else Option.bind (gI S5 h0 8 1) (fun v9 => (if p2 < v9 then B_Sb_holds_31  S5 else B_Sb_holds_32  1 S5))))))) else B_Sb_holds_31  S))
set_option maxRecDepth 100000 in
set_option maxHeartbeats 4000000 in
theorem c_Sb_holds {D : va_G} {cT : Nat → ClassId} {H0 : Heap} {l : Launch} {S : gS} {S' : gS} {h0 : Nat} {p0 : Int32} {p1 : Int32} {p2 : Int32} {r : Int32} (hden : D_Sb_holds h0 p0 p1 p2 S = some (r, S')) : gM D cT H0 l y_Sb_holds (Cond.code y_Sb_holds prog_9_method_2_code 4 (Option.some Jvm.ClassFile.FieldType.boolean)) 1 21 [va_rf (some h0), .int p0, .int p1, .int p2] S S' (.inr (some (.int r))) := by
  refine gM.ofV (by decide) ?_
  intro p e s m args below meth c s₁ B hml ea X hZ hex hr hE
  subst ea
  have Y : gY D cT H0 p s m _ meth c prog_9_method_2_code 4 "PlanText$Standby" 1 21 S (Option.some Jvm.ClassFile.FieldType.boolean) := ⟨X, hZ, hex, hr, hE⟩
  have hx := X.1
  have hb := X.2.1
  have hl := lv_entry ([va_rf (some h0), .int p0, .int p1, .int p2]) (n := 4) (Nat.le_of_ble_eq_true rfl)
  rw [lg_entry_eq]
  generalize (lg_sl ([va_rf (some h0), .int p0, .int p1, .int p2]) ++ List.replicate (4 - (lg_sl ([va_rf (some h0), .int p0, .int p1, .int p2])).length) Slot.unset).toArray = ls at hl ⊢
  have hl : lv_has ls 4 [(0, va_rf (some h0)), (1, .int p0), (2, .int p1), (3, .int p2)] := hl
  unfold D_Sb_holds at hden
  refine gV.lift (fun _ _ _ _ => g_aload_n hx hb d_Sb_holds_0 rfl (lv_at hl 0 rfl)) ?_
  replace hden := gb hden
  obtain ⟨v1, hv, hden⟩ := hden
  refine r_getI X cl_Sb (k := 3) hv (by decide) q_489 d_Sb_holds_1 ?_
  refine gV.lift (fun _ _ _ _ => lv_iload_n hx hb d_Sb_holds_4 rfl (lv_at hl 1 rfl)) ?_
  refine gV.lift2 (fun _ _ _ _ => lv_icmp_ne (tgt := 31) hx hb d_Sb_holds_5 (by decide)) (fun hc2 => ?_) (fun hc2 => ?_)
  · replace hden := gin hc2 hden
    exact w_Sb_holds_31 Y  S hden (lv_sub hl [] rfl)
  · replace hden := gip hc2 hden
    refine gV.lift (fun _ _ _ _ => g_aload_n hx hb d_Sb_holds_8 rfl (lv_at hl 0 rfl)) ?_
    replace hden := gb hden
    obtain ⟨r3, hv, hden⟩ := hden
    refine r_getR X cl_Sb (k := 0) hv (by decide) q_482 d_Sb_holds_9 ?_
    refine gV.lift (fun _ _ _ _ => lv_iload_n hx hb d_Sb_holds_12 rfl (lv_at hl 2 rfl)) ?_
    replace hden := gb hden
    obtain ⟨a4, rfl, hden⟩ := hden
    replace hden := gb hden
    obtain ⟨fs7, ho, hden⟩ := hden
    replace hden := gb2 hden
    obtain ⟨v6, S5, hz, hden⟩ := hden
    refine g_callV (As := [.int p1]) (rest := []) X hZ (c_Hr_has hz) cl_Hr (gOb_spec ho) q_581 q_14 q_619 q_579 q_580 ⟨by decide, by decide, by show _ = some 1; decide +kernel⟩ ⟨by decide, by decide⟩ hl.1 (Nat.le_of_ble_eq_true rfl) d_Sb_holds_13 rfl rfl ?_
    refine gV.lift2 (fun _ _ _ _ => lv_if_eq (tgt := 31) hx hb d_Sb_holds_16 (by decide)) (fun hc8 => ?_) (fun hc8 => ?_)
    · replace hden := gip hc8 hden
      exact w_Sb_holds_31 Y  S5 hden (lv_sub hl [] rfl)
    · replace hden := gin hc8 hden
      refine gV.lift (fun _ _ _ _ => g_aload_n hx hb d_Sb_holds_19 rfl (lv_at hl 0 rfl)) ?_
      replace hden := gb hden
      obtain ⟨v9, hv, hden⟩ := hden
      refine r_getI X cl_Sb (k := 1) hv (by decide) q_484 d_Sb_holds_20 ?_
      refine gV.lift (fun _ _ _ _ => lv_iload_n hx hb d_Sb_holds_23 rfl (lv_at hl 3 rfl)) ?_
      refine gV.lift2 (fun _ _ _ _ => lv_icmp_gt (tgt := 31) hx hb d_Sb_holds_24 (by decide)) (fun hc10 => ?_) (fun hc10 => ?_)
      · replace hden := gip hc10 hden
        exact w_Sb_holds_31 Y  S5 hden (lv_sub hl [] rfl)
      · replace hden := gin hc10 hden
        refine gV.lift (fun _ _ _ _ => lv_iconst (v := 1) hx hb d_Sb_holds_27 (by decide)) ?_
        refine gV.lift (fun _ _ _ _ => lv_goto (tgt := 32) hx hb d_Sb_holds_28 (by decide)) ?_
        exact w_Sb_holds_32 Y  1 S5 hden (lv_sub hl [] rfl)
/-! PlanText$Plan.clashesWith(LPlanText$Plan;)Z -/
abbrev y_Pl_clashesWith : MethodName := ⟨"PlanText$Plan", "clashesWith", "(LPlanText$Plan;)Z"⟩
theorem d_Pl_clashesWith_0 : decode prog_6_method_3_code 0 = .ok (.aload_n 0, 1) := by decide +kernel
theorem d_Pl_clashesWith_1 : decode prog_6_method_3_code 1 = .ok (.getfield 13, 3) := by decide +kernel
theorem d_Pl_clashesWith_4 : decode prog_6_method_3_code 4 = .ok (.aload_n 1, 1) := by decide +kernel
theorem d_Pl_clashesWith_5 : decode prog_6_method_3_code 5 = .ok (.getfield 13, 3) := by decide +kernel
theorem d_Pl_clashesWith_8 : decode prog_6_method_3_code 8 = .ok (.if_icmp .ne 50, 3) := by decide +kernel
theorem d_Pl_clashesWith_11 : decode prog_6_method_3_code 11 = .ok (.aload_n 0, 1) := by decide +kernel
theorem d_Pl_clashesWith_12 : decode prog_6_method_3_code 12 = .ok (.getfield 24, 3) := by decide +kernel
theorem d_Pl_clashesWith_15 : decode prog_6_method_3_code 15 = .ok (.aload_n 1, 1) := by decide +kernel
theorem d_Pl_clashesWith_16 : decode prog_6_method_3_code 16 = .ok (.getfield 24, 3) := by decide +kernel
theorem d_Pl_clashesWith_19 : decode prog_6_method_3_code 19 = .ok (.if_icmp .ne 39, 3) := by decide +kernel
theorem d_Pl_clashesWith_22 : decode prog_6_method_3_code 22 = .ok (.aload_n 0, 1) := by decide +kernel
theorem d_Pl_clashesWith_23 : decode prog_6_method_3_code 23 = .ok (.getfield 20, 3) := by decide +kernel
theorem d_Pl_clashesWith_26 : decode prog_6_method_3_code 26 = .ok (.getfield 43, 3) := by decide +kernel
theorem d_Pl_clashesWith_29 : decode prog_6_method_3_code 29 = .ok (.aload_n 1, 1) := by decide +kernel
theorem d_Pl_clashesWith_30 : decode prog_6_method_3_code 30 = .ok (.getfield 20, 3) := by decide +kernel
theorem d_Pl_clashesWith_33 : decode prog_6_method_3_code 33 = .ok (.getfield 43, 3) := by decide +kernel
theorem d_Pl_clashesWith_36 : decode prog_6_method_3_code 36 = .ok (.iand, 1) := by decide +kernel
theorem d_Pl_clashesWith_37 : decode prog_6_method_3_code 37 = .ok (.ifCond .eq 21, 3) := by decide +kernel
theorem d_Pl_clashesWith_40 : decode prog_6_method_3_code 40 = .ok (.aload_n 0, 1) := by decide +kernel
theorem d_Pl_clashesWith_41 : decode prog_6_method_3_code 41 = .ok (.getfield 16, 3) := by decide +kernel
theorem d_Pl_clashesWith_44 : decode prog_6_method_3_code 44 = .ok (.aload_n 1, 1) := by decide +kernel
theorem d_Pl_clashesWith_45 : decode prog_6_method_3_code 45 = .ok (.getfield 16, 3) := by decide +kernel
theorem d_Pl_clashesWith_48 : decode prog_6_method_3_code 48 = .ok (.invokevirtual 46, 3) := by decide +kernel
theorem d_Pl_clashesWith_51 : decode prog_6_method_3_code 51 = .ok (.ifCond .eq 7, 3) := by decide +kernel
theorem d_Pl_clashesWith_54 : decode prog_6_method_3_code 54 = .ok (.iconst 1, 1) := by decide +kernel
theorem d_Pl_clashesWith_55 : decode prog_6_method_3_code 55 = .ok (.goto 4, 3) := by decide +kernel
theorem d_Pl_clashesWith_58 : decode prog_6_method_3_code 58 = .ok (.iconst 0, 1) := by decide +kernel
theorem d_Pl_clashesWith_59 : decode prog_6_method_3_code 59 = .ok (.ireturn, 1) := by decide +kernel
def B_Pl_clashesWith_59  (t0 : Int32) (S : gS) : Option (Int32 × gS) := Option.bind (gZo t0) (fun v1 => some (v1, S))
set_option maxRecDepth 100000 in
set_option maxHeartbeats 4000000 in
theorem w_Pl_clashesWith_59 {D : va_G} {cT : Nat → ClassId} {H0 : Heap} {l : Launch} {p : Program} {e : Env} {s : State} {m : MethodId} {args : Array Value} {below : List Frame} {meth : Method} {c : Code} {S0 : gS} {S' : gS} {r : Int32} (Y : gY D cT H0 p s m args meth c prog_6_method_3_code 2 "PlanText$Plan" 2 41 S0 (Option.some Jvm.ClassFile.FieldType.boolean))  (t0 : Int32) (S : gS) (hden : B_Pl_clashesWith_59  t0 S = some (r, S')) {ls : Array Slot} (hl : lv_has ls 2 []) : gV D cT H0 p l e (gRm 2 41 S0) s m args below meth c (gQ D cT H0 below S0 S' (.inr (some (.int r))) s) S0 S (F0 m 59 ls [.int t0]) := by
  obtain ⟨X, hZ, hex, hr, hE⟩ := id Y
  have hx := X.1
  have hb := X.2.1
  unfold B_Pl_clashesWith_59 at hden
  replace hden := gb hden
  obtain ⟨v1, hz, hden⟩ := hden
  obtain ⟨rfl, hz2, -⟩ := gZo_spec hz
  obtain ⟨rfl, rfl⟩ := gpi hden
  exact g_zret X hr hz2 d_Pl_clashesWith_59
def B_Pl_clashesWith_58   (S : gS) : Option (Int32 × gS) := B_Pl_clashesWith_59  0 S
set_option maxRecDepth 100000 in
set_option maxHeartbeats 4000000 in
theorem w_Pl_clashesWith_58 {D : va_G} {cT : Nat → ClassId} {H0 : Heap} {l : Launch} {p : Program} {e : Env} {s : State} {m : MethodId} {args : Array Value} {below : List Frame} {meth : Method} {c : Code} {S0 : gS} {S' : gS} {r : Int32} (Y : gY D cT H0 p s m args meth c prog_6_method_3_code 2 "PlanText$Plan" 2 41 S0 (Option.some Jvm.ClassFile.FieldType.boolean))   (S : gS) (hden : B_Pl_clashesWith_58   S = some (r, S')) {ls : Array Slot} (hl : lv_has ls 2 []) : gV D cT H0 p l e (gRm 2 41 S0) s m args below meth c (gQ D cT H0 below S0 S' (.inr (some (.int r))) s) S0 S (F0 m 58 ls []) := by
  obtain ⟨X, hZ, hex, hr, hE⟩ := id Y
  have hx := X.1
  have hb := X.2.1
  unfold B_Pl_clashesWith_58 at hden
  refine gV.lift (fun _ _ _ _ => lv_iconst (v := 0) hx hb d_Pl_clashesWith_58 (by decide)) ?_
  exact w_Pl_clashesWith_59 Y  0 S hden (lv_sub hl [] rfl)
def D_Pl_clashesWith (h0 : Nat) (p0 : Option Nat) (S : gS) : Option (Int32 × gS) := Option.bind (gI S h0 5 1) (fun v1 => Option.bind p0 (fun a2 => Option.bind (gI S a2 5 1) (fun v3 => (if v1 = v3 then Option.bind (gI S h0 5 4) (fun v5 => Option.bind (gI S a2 5 4) (fun v6 => (if v5 = v6 then Option.bind (gRf S h0 5 3) (fun r8 => Option.bind r8 (fun a9 => Option.bind (gI S a9 2 3) (fun v10 => Option.bind (gRf S a2 5 3) (fun r11 => Option.bind r11 (fun a12 => Option.bind (gI S a12 2 3) (fun v13 => (if (v10 &&& v13) = 0 then B_Pl_clashesWith_58  S else Option.bind (gRf S h0 5 2) (fun r15 => Option.bind (gRf S a2 5 2) (fun r16 => Option.bind r15 (fun a17 => Option.bind (gOb S a17 9) (fun fs20 => gB2 (D_Sx_meets a17 r16 S) (fun v19 S18 => (if v19 = 0 then B_Pl_clashesWith_58  S18 else B_Pl_clashesWith_59  1 S18))))))))))))) else B_Pl_clashesWith_58  S))) else B_Pl_clashesWith_58  S))))
set_option maxRecDepth 100000 in
set_option maxHeartbeats 4000000 in
theorem c_Pl_clashesWith {D : va_G} {cT : Nat → ClassId} {H0 : Heap} {l : Launch} {S : gS} {S' : gS} {h0 : Nat} {p0 : Option Nat} {r : Int32} (hden : D_Pl_clashesWith h0 p0 S = some (r, S')) : gM D cT H0 l y_Pl_clashesWith (Cond.code y_Pl_clashesWith prog_6_method_3_code 2 (Option.some Jvm.ClassFile.FieldType.boolean)) 2 41 [va_rf (some h0), va_rf p0] S S' (.inr (some (.int r))) := by
  refine gM.ofV (by decide) ?_
  intro p e s m args below meth c s₁ B hml ea X hZ hex hr hE
  subst ea
  have Y : gY D cT H0 p s m _ meth c prog_6_method_3_code 2 "PlanText$Plan" 2 41 S (Option.some Jvm.ClassFile.FieldType.boolean) := ⟨X, hZ, hex, hr, hE⟩
  have hx := X.1
  have hb := X.2.1
  have hl := lv_entry ([va_rf (some h0), va_rf p0]) (n := 2) (by cases p0 <;> exact Nat.le_of_ble_eq_true rfl)
  rw [lg_entry_eq]
  generalize (lg_sl ([va_rf (some h0), va_rf p0]) ++ List.replicate (2 - (lg_sl ([va_rf (some h0), va_rf p0])).length) Slot.unset).toArray = ls at hl ⊢
  have hl : lv_has ls 2 [(0, va_rf (some h0)), (1, va_rf p0)] := by cases p0 <;> exact hl
  unfold D_Pl_clashesWith at hden
  refine gV.lift (fun _ _ _ _ => g_aload_n hx hb d_Pl_clashesWith_0 rfl (lv_at hl 0 rfl)) ?_
  replace hden := gb hden
  obtain ⟨v1, hv, hden⟩ := hden
  refine r_getI X cl_Pl (k := 1) hv (by decide) q_425 d_Pl_clashesWith_1 ?_
  refine gV.lift (fun _ _ _ _ => g_aload_n hx hb d_Pl_clashesWith_4 rfl (lv_at hl 1 rfl)) ?_
  replace hden := gb hden
  obtain ⟨a2, rfl, hden⟩ := hden
  replace hden := gb hden
  obtain ⟨v3, hv, hden⟩ := hden
  refine r_getI X cl_Pl (k := 1) hv (by decide) q_425 d_Pl_clashesWith_5 ?_
  refine gV.lift2 (fun _ _ _ _ => lv_icmp_ne (tgt := 58) hx hb d_Pl_clashesWith_8 (by decide)) (fun hc4 => ?_) (fun hc4 => ?_)
  · replace hden := gin hc4 hden
    exact w_Pl_clashesWith_58 Y  S hden (lv_sub hl [] rfl)
  · replace hden := gip hc4 hden
    refine gV.lift (fun _ _ _ _ => g_aload_n hx hb d_Pl_clashesWith_11 rfl (lv_at hl 0 rfl)) ?_
    replace hden := gb hden
    obtain ⟨v5, hv, hden⟩ := hden
    refine r_getI X cl_Pl (k := 4) hv (by decide) q_433 d_Pl_clashesWith_12 ?_
    refine gV.lift (fun _ _ _ _ => g_aload_n hx hb d_Pl_clashesWith_15 rfl (lv_at hl 1 rfl)) ?_
    replace hden := gb hden
    obtain ⟨v6, hv, hden⟩ := hden
    refine r_getI X cl_Pl (k := 4) hv (by decide) q_433 d_Pl_clashesWith_16 ?_
    refine gV.lift2 (fun _ _ _ _ => lv_icmp_ne (tgt := 58) hx hb d_Pl_clashesWith_19 (by decide)) (fun hc7 => ?_) (fun hc7 => ?_)
    · replace hden := gin hc7 hden
      exact w_Pl_clashesWith_58 Y  S hden (lv_sub hl [] rfl)
    · replace hden := gip hc7 hden
      refine gV.lift (fun _ _ _ _ => g_aload_n hx hb d_Pl_clashesWith_22 rfl (lv_at hl 0 rfl)) ?_
      replace hden := gb hden
      obtain ⟨r8, hv, hden⟩ := hden
      refine r_getR X cl_Pl (k := 3) hv (by decide) q_430 d_Pl_clashesWith_23 ?_
      replace hden := gb hden
      obtain ⟨a9, rfl, hden⟩ := hden
      replace hden := gb hden
      obtain ⟨v10, hv, hden⟩ := hden
      refine r_getI X cl_Hr (k := 3) hv (by decide) q_354 d_Pl_clashesWith_26 ?_
      refine gV.lift (fun _ _ _ _ => g_aload_n hx hb d_Pl_clashesWith_29 rfl (lv_at hl 1 rfl)) ?_
      replace hden := gb hden
      obtain ⟨r11, hv, hden⟩ := hden
      refine r_getR X cl_Pl (k := 3) hv (by decide) q_430 d_Pl_clashesWith_30 ?_
      replace hden := gb hden
      obtain ⟨a12, rfl, hden⟩ := hden
      replace hden := gb hden
      obtain ⟨v13, hv, hden⟩ := hden
      refine r_getI X cl_Hr (k := 3) hv (by decide) q_354 d_Pl_clashesWith_33 ?_
      refine gV.lift (fun _ _ _ _ => lv_iand hx hb d_Pl_clashesWith_36) ?_
      refine gV.lift2 (fun _ _ _ _ => lv_if_eq (tgt := 58) hx hb d_Pl_clashesWith_37 (by decide)) (fun hc14 => ?_) (fun hc14 => ?_)
      · replace hden := gip hc14 hden
        exact w_Pl_clashesWith_58 Y  S hden (lv_sub hl [] rfl)
      · replace hden := gin hc14 hden
        refine gV.lift (fun _ _ _ _ => g_aload_n hx hb d_Pl_clashesWith_40 rfl (lv_at hl 0 rfl)) ?_
        replace hden := gb hden
        obtain ⟨r15, hv, hden⟩ := hden
        refine r_getR X cl_Pl (k := 2) hv (by decide) q_427 d_Pl_clashesWith_41 ?_
        refine gV.lift (fun _ _ _ _ => g_aload_n hx hb d_Pl_clashesWith_44 rfl (lv_at hl 1 rfl)) ?_
        replace hden := gb hden
        obtain ⟨r16, hv, hden⟩ := hden
        refine r_getR X cl_Pl (k := 2) hv (by decide) q_427 d_Pl_clashesWith_45 ?_
        replace hden := gb hden
        obtain ⟨a17, rfl, hden⟩ := hden
        replace hden := gb hden
        obtain ⟨fs20, ho, hden⟩ := hden
        replace hden := gb2 hden
        obtain ⟨v19, S18, hz, hden⟩ := hden
        refine g_callV (As := [va_rf r16]) (rest := []) X hZ (c_Sx_meets hz) cl_Sx (gOb_spec ho) q_642 q_13 q_639 q_640 q_641 ⟨by decide, by decide, by show _ = some 1; decide +kernel⟩ ⟨by decide, by decide⟩ hl.1 (Nat.le_of_ble_eq_true rfl) d_Pl_clashesWith_48 rfl rfl ?_
        refine gV.lift2 (fun _ _ _ _ => lv_if_eq (tgt := 58) hx hb d_Pl_clashesWith_51 (by decide)) (fun hc21 => ?_) (fun hc21 => ?_)
        · replace hden := gip hc21 hden
          exact w_Pl_clashesWith_58 Y  S18 hden (lv_sub hl [] rfl)
        · replace hden := gin hc21 hden
          refine gV.lift (fun _ _ _ _ => lv_iconst (v := 1) hx hb d_Pl_clashesWith_54 (by decide)) ?_
          refine gV.lift (fun _ _ _ _ => lv_goto (tgt := 59) hx hb d_Pl_clashesWith_55 (by decide)) ?_
          exact w_Pl_clashesWith_59 Y  1 S18 hden (lv_sub hl [] rfl)
