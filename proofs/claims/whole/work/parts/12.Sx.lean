/-! PlanText$Stretch.<init>(III)V -/
abbrev y_Sx_init : MethodName := ⟨"PlanText$Stretch", "<init>", "(III)V"⟩
theorem d_Sx_init_0 : decode prog_10_method_1_code 0 = .ok (.aload_n 0, 1) := by decide +kernel
theorem d_Sx_init_1 : decode prog_10_method_1_code 1 = .ok (.invokespecial 1, 3) := by decide +kernel
theorem d_Sx_init_4 : decode prog_10_method_1_code 4 = .ok (.aload_n 0, 1) := by decide +kernel
theorem d_Sx_init_5 : decode prog_10_method_1_code 5 = .ok (.iload_n 1, 1) := by decide +kernel
theorem d_Sx_init_6 : decode prog_10_method_1_code 6 = .ok (.putfield 7, 3) := by decide +kernel
theorem d_Sx_init_9 : decode prog_10_method_1_code 9 = .ok (.aload_n 0, 1) := by decide +kernel
theorem d_Sx_init_10 : decode prog_10_method_1_code 10 = .ok (.iload_n 2, 1) := by decide +kernel
theorem d_Sx_init_11 : decode prog_10_method_1_code 11 = .ok (.putfield 13, 3) := by decide +kernel
theorem d_Sx_init_14 : decode prog_10_method_1_code 14 = .ok (.aload_n 0, 1) := by decide +kernel
theorem d_Sx_init_15 : decode prog_10_method_1_code 15 = .ok (.iload_n 3, 1) := by decide +kernel
theorem d_Sx_init_16 : decode prog_10_method_1_code 16 = .ok (.putfield 16, 3) := by decide +kernel
theorem d_Sx_init_19 : decode prog_10_method_1_code 19 = .ok (.return_, 1) := by decide +kernel
def D_Sx_init (h0 : Nat) (p0 : Int32) (p1 : Int32) (p2 : Int32) (S : gS) : Option gS := Option.bind (gPut S h0 9 0 (.int p0)) (fun S1 => Option.bind (gPut S1 h0 9 1 (.int p1)) (fun S2 => Option.bind (gPut S2 h0 9 2 (.int p2)) (fun S3 => some S3)))
set_option maxRecDepth 100000 in
set_option maxHeartbeats 4000000 in
theorem c_Sx_init {D : va_G} {cT : Nat → ClassId} {H0 : Heap} {l : Launch} {S : gS} {S' : gS} {h0 : Nat} {p0 : Int32} {p1 : Int32} {p2 : Int32} (hden : D_Sx_init h0 p0 p1 p2 S = some S') : gM D cT H0 l y_Sx_init (Cond.code y_Sx_init prog_10_method_1_code 4 (Option.none : Option Jvm.ClassFile.FieldType)) 1 24 [va_rf (some h0), .int p0, .int p1, .int p2] S S' (.inr none) := by
  refine gM.ofV (by decide) ?_
  intro p e s m args below meth c s₁ B hml ea X hZ hex hr hE
  subst ea
  have Y : gY D cT H0 p s m _ meth c prog_10_method_1_code 4 "PlanText$Stretch" 1 24 S (Option.none : Option Jvm.ClassFile.FieldType) := ⟨X, hZ, hex, hr, hE⟩
  have hin : meth.name = "<init>" := (name_of_methodNamed B.named B.method).1
  have hx := X.1
  have hb := X.2.1
  have hl := lv_entry ([va_rf (some h0), .int p0, .int p1, .int p2]) (n := 4) (Nat.le_of_ble_eq_true rfl)
  rw [lg_entry_eq]
  generalize (lg_sl ([va_rf (some h0), .int p0, .int p1, .int p2]) ++ List.replicate (4 - (lg_sl ([va_rf (some h0), .int p0, .int p1, .int p2])).length) Slot.unset).toArray = ls at hl ⊢
  have hl : lv_has ls 4 [(0, va_rf (some h0)), (1, .int p0), (2, .int p1), (3, .int p2)] := hl
  unfold D_Sx_init at hden
  refine gV.lift (fun _ _ _ _ => g_aload_n hx hb d_Sx_init_0 rfl (lv_at hl 0 rfl)) ?_
  refine g_objInit X q_317 q_26 q_27 hl.1 d_Sx_init_1 ⟨by decide, Nat.le_of_ble_eq_true rfl⟩ ?_
  refine gV.lift (fun _ _ _ _ => g_aload_n hx hb d_Sx_init_4 rfl (lv_at hl 0 rfl)) ?_
  refine gV.lift (fun _ _ _ _ => lv_iload_n hx hb d_Sx_init_5 rfl (lv_at hl 1 rfl)) ?_
  replace hden := gb hden
  obtain ⟨S1, hv, hden⟩ := hden
  refine r_putF X cl_Sx (k := 0) hv (by decide) q_318 rfl hin rfl rfl rfl d_Sx_init_6 ?_
  refine gV.lift (fun _ _ _ _ => g_aload_n hx hb d_Sx_init_9 rfl (lv_at hl 0 rfl)) ?_
  refine gV.lift (fun _ _ _ _ => lv_iload_n hx hb d_Sx_init_10 rfl (lv_at hl 2 rfl)) ?_
  replace hden := gb hden
  obtain ⟨S2, hv, hden⟩ := hden
  refine r_putF X cl_Sx (k := 1) hv (by decide) q_321 rfl hin rfl rfl rfl d_Sx_init_11 ?_
  refine gV.lift (fun _ _ _ _ => g_aload_n hx hb d_Sx_init_14 rfl (lv_at hl 0 rfl)) ?_
  refine gV.lift (fun _ _ _ _ => lv_iload_n hx hb d_Sx_init_15 rfl (lv_at hl 3 rfl)) ?_
  replace hden := gb hden
  obtain ⟨S3, hv, hden⟩ := hden
  refine r_putF X cl_Sx (k := 2) hv (by decide) q_324 rfl hin rfl rfl rfl d_Sx_init_16 ?_
  obtain rfl := gsi hden
  exact g_vret X hr d_Sx_init_19
/-! PlanText$Stretch.isEverywhere()Z -/
abbrev y_Sx_isEverywhere : MethodName := ⟨"PlanText$Stretch", "isEverywhere", "()Z"⟩
theorem d_Sx_isEverywhere_0 : decode prog_10_method_2_code 0 = .ok (.aload_n 0, 1) := by decide +kernel
theorem d_Sx_isEverywhere_1 : decode prog_10_method_2_code 1 = .ok (.getfield 7, 3) := by decide +kernel
theorem d_Sx_isEverywhere_4 : decode prog_10_method_2_code 4 = .ok (.ifCond .ne 7, 3) := by decide +kernel
theorem d_Sx_isEverywhere_7 : decode prog_10_method_2_code 7 = .ok (.iconst 1, 1) := by decide +kernel
theorem d_Sx_isEverywhere_8 : decode prog_10_method_2_code 8 = .ok (.goto 4, 3) := by decide +kernel
theorem d_Sx_isEverywhere_11 : decode prog_10_method_2_code 11 = .ok (.iconst 0, 1) := by decide +kernel
theorem d_Sx_isEverywhere_12 : decode prog_10_method_2_code 12 = .ok (.ireturn, 1) := by decide +kernel
def B_Sx_isEverywhere_12  (t0 : Int32) (S : gS) : Option (Int32 × gS) := Option.bind (gZo t0) (fun v1 => some (v1, S))
set_option maxRecDepth 100000 in
set_option maxHeartbeats 4000000 in
theorem w_Sx_isEverywhere_12 {D : va_G} {cT : Nat → ClassId} {H0 : Heap} {l : Launch} {p : Program} {e : Env} {s : State} {m : MethodId} {args : Array Value} {below : List Frame} {meth : Method} {c : Code} {S0 : gS} {S' : gS} {r : Int32} (Y : gY D cT H0 p s m args meth c prog_10_method_2_code 1 "PlanText$Stretch" 0 0 S0 (Option.some Jvm.ClassFile.FieldType.boolean))  (t0 : Int32) (S : gS) (hden : B_Sx_isEverywhere_12  t0 S = some (r, S')) {ls : Array Slot} (hl : lv_has ls 1 []) : gV D cT H0 p l e (gRm 0 0 S0) s m args below meth c (gQ D cT H0 below S0 S' (.inr (some (.int r))) s) S0 S (F0 m 12 ls [.int t0]) := by
  obtain ⟨X, hZ, hex, hr, hE⟩ := id Y
  have hx := X.1
  have hb := X.2.1
  unfold B_Sx_isEverywhere_12 at hden
  replace hden := gb hden
  obtain ⟨v1, hz, hden⟩ := hden
  obtain ⟨rfl, hz2, -⟩ := gZo_spec hz
  obtain ⟨rfl, rfl⟩ := gpi hden
  exact g_zret X hr hz2 d_Sx_isEverywhere_12
def D_Sx_isEverywhere (h0 : Nat) (S : gS) : Option (Int32 × gS) := Option.bind (gI S h0 9 0) (fun v1 => (if v1 = 0 then B_Sx_isEverywhere_12  1 S else B_Sx_isEverywhere_12  0 S))
set_option maxRecDepth 100000 in
set_option maxHeartbeats 4000000 in
theorem c_Sx_isEverywhere {D : va_G} {cT : Nat → ClassId} {H0 : Heap} {l : Launch} {S : gS} {S' : gS} {h0 : Nat} {r : Int32} (hden : D_Sx_isEverywhere h0 S = some (r, S')) : gM D cT H0 l y_Sx_isEverywhere (Cond.code y_Sx_isEverywhere prog_10_method_2_code 1 (Option.some Jvm.ClassFile.FieldType.boolean)) 0 0 [va_rf (some h0)] S S' (.inr (some (.int r))) := by
  refine gM.ofV (by decide) ?_
  intro p e s m args below meth c s₁ B hml ea X hZ hex hr hE
  subst ea
  have Y : gY D cT H0 p s m _ meth c prog_10_method_2_code 1 "PlanText$Stretch" 0 0 S (Option.some Jvm.ClassFile.FieldType.boolean) := ⟨X, hZ, hex, hr, hE⟩
  have hx := X.1
  have hb := X.2.1
  have hl := lv_entry ([va_rf (some h0)]) (n := 1) (Nat.le_of_ble_eq_true rfl)
  rw [lg_entry_eq]
  generalize (lg_sl ([va_rf (some h0)]) ++ List.replicate (1 - (lg_sl ([va_rf (some h0)])).length) Slot.unset).toArray = ls at hl ⊢
  have hl : lv_has ls 1 [(0, va_rf (some h0))] := hl
  unfold D_Sx_isEverywhere at hden
  refine gV.lift (fun _ _ _ _ => g_aload_n hx hb d_Sx_isEverywhere_0 rfl (lv_at hl 0 rfl)) ?_
  replace hden := gb hden
  obtain ⟨v1, hv, hden⟩ := hden
  refine r_getI X cl_Sx (k := 0) hv (by decide) q_318 d_Sx_isEverywhere_1 ?_
  refine gV.lift2 (fun _ _ _ _ => lv_if_ne (tgt := 11) hx hb d_Sx_isEverywhere_4 (by decide)) (fun hc2 => ?_) (fun hc2 => ?_)
  · replace hden := gin hc2 hden
    refine gV.lift (fun _ _ _ _ => lv_iconst (v := 0) hx hb d_Sx_isEverywhere_11 (by decide)) ?_
    exact w_Sx_isEverywhere_12 Y  0 S hden (lv_sub hl [] rfl)
  · replace hden := gip hc2 hden
    refine gV.lift (fun _ _ _ _ => lv_iconst (v := 1) hx hb d_Sx_isEverywhere_7 (by decide)) ?_
    refine gV.lift (fun _ _ _ _ => lv_goto (tgt := 12) hx hb d_Sx_isEverywhere_8 (by decide)) ?_
    exact w_Sx_isEverywhere_12 Y  1 S hden (lv_sub hl [] rfl)
/-! PlanText$Stretch.covers(II)Z -/
abbrev y_Sx_covers : MethodName := ⟨"PlanText$Stretch", "covers", "(II)Z"⟩
theorem d_Sx_covers_0 : decode prog_10_method_3_code 0 = .ok (.aload_n 0, 1) := by decide +kernel
theorem d_Sx_covers_1 : decode prog_10_method_3_code 1 = .ok (.invokevirtual 19, 3) := by decide +kernel
theorem d_Sx_covers_4 : decode prog_10_method_3_code 4 = .ok (.ifCond .ne 27, 3) := by decide +kernel
theorem d_Sx_covers_7 : decode prog_10_method_3_code 7 = .ok (.aload_n 0, 1) := by decide +kernel
theorem d_Sx_covers_8 : decode prog_10_method_3_code 8 = .ok (.getfield 7, 3) := by decide +kernel
theorem d_Sx_covers_11 : decode prog_10_method_3_code 11 = .ok (.iload_n 1, 1) := by decide +kernel
theorem d_Sx_covers_12 : decode prog_10_method_3_code 12 = .ok (.if_icmp .ne 23, 3) := by decide +kernel
theorem d_Sx_covers_15 : decode prog_10_method_3_code 15 = .ok (.aload_n 0, 1) := by decide +kernel
theorem d_Sx_covers_16 : decode prog_10_method_3_code 16 = .ok (.getfield 13, 3) := by decide +kernel
theorem d_Sx_covers_19 : decode prog_10_method_3_code 19 = .ok (.iload_n 2, 1) := by decide +kernel
theorem d_Sx_covers_20 : decode prog_10_method_3_code 20 = .ok (.if_icmp .gt 15, 3) := by decide +kernel
theorem d_Sx_covers_23 : decode prog_10_method_3_code 23 = .ok (.iload_n 2, 1) := by decide +kernel
theorem d_Sx_covers_24 : decode prog_10_method_3_code 24 = .ok (.aload_n 0, 1) := by decide +kernel
theorem d_Sx_covers_25 : decode prog_10_method_3_code 25 = .ok (.getfield 16, 3) := by decide +kernel
theorem d_Sx_covers_28 : decode prog_10_method_3_code 28 = .ok (.if_icmp .gt 7, 3) := by decide +kernel
theorem d_Sx_covers_31 : decode prog_10_method_3_code 31 = .ok (.iconst 1, 1) := by decide +kernel
theorem d_Sx_covers_32 : decode prog_10_method_3_code 32 = .ok (.goto 4, 3) := by decide +kernel
theorem d_Sx_covers_35 : decode prog_10_method_3_code 35 = .ok (.iconst 0, 1) := by decide +kernel
theorem d_Sx_covers_36 : decode prog_10_method_3_code 36 = .ok (.ireturn, 1) := by decide +kernel
def B_Sx_covers_36  (t0 : Int32) (S : gS) : Option (Int32 × gS) := Option.bind (gZo t0) (fun v1 => some (v1, S))
set_option maxRecDepth 100000 in
set_option maxHeartbeats 4000000 in
theorem w_Sx_covers_36 {D : va_G} {cT : Nat → ClassId} {H0 : Heap} {l : Launch} {p : Program} {e : Env} {s : State} {m : MethodId} {args : Array Value} {below : List Frame} {meth : Method} {c : Code} {S0 : gS} {S' : gS} {r : Int32} (Y : gY D cT H0 p s m args meth c prog_10_method_3_code 3 "PlanText$Stretch" 1 20 S0 (Option.some Jvm.ClassFile.FieldType.boolean))  (t0 : Int32) (S : gS) (hden : B_Sx_covers_36  t0 S = some (r, S')) {ls : Array Slot} (hl : lv_has ls 3 []) : gV D cT H0 p l e (gRm 1 20 S0) s m args below meth c (gQ D cT H0 below S0 S' (.inr (some (.int r))) s) S0 S (F0 m 36 ls [.int t0]) := by
  obtain ⟨X, hZ, hex, hr, hE⟩ := id Y
  have hx := X.1
  have hb := X.2.1
  unfold B_Sx_covers_36 at hden
  replace hden := gb hden
  obtain ⟨v1, hz, hden⟩ := hden
  obtain ⟨rfl, hz2, -⟩ := gZo_spec hz
  obtain ⟨rfl, rfl⟩ := gpi hden
  exact g_zret X hr hz2 d_Sx_covers_36
def B_Sx_covers_35   (S : gS) : Option (Int32 × gS) := B_Sx_covers_36  0 S
set_option maxRecDepth 100000 in
set_option maxHeartbeats 4000000 in
theorem w_Sx_covers_35 {D : va_G} {cT : Nat → ClassId} {H0 : Heap} {l : Launch} {p : Program} {e : Env} {s : State} {m : MethodId} {args : Array Value} {below : List Frame} {meth : Method} {c : Code} {S0 : gS} {S' : gS} {r : Int32} (Y : gY D cT H0 p s m args meth c prog_10_method_3_code 3 "PlanText$Stretch" 1 20 S0 (Option.some Jvm.ClassFile.FieldType.boolean))   (S : gS) (hden : B_Sx_covers_35   S = some (r, S')) {ls : Array Slot} (hl : lv_has ls 3 []) : gV D cT H0 p l e (gRm 1 20 S0) s m args below meth c (gQ D cT H0 below S0 S' (.inr (some (.int r))) s) S0 S (F0 m 35 ls []) := by
  obtain ⟨X, hZ, hex, hr, hE⟩ := id Y
  have hx := X.1
  have hb := X.2.1
  unfold B_Sx_covers_35 at hden
  refine gV.lift (fun _ _ _ _ => lv_iconst (v := 0) hx hb d_Sx_covers_35 (by decide)) ?_
  exact w_Sx_covers_36 Y  0 S hden (lv_sub hl [] rfl)
def B_Sx_covers_31   (S : gS) : Option (Int32 × gS) := B_Sx_covers_36  1 S
set_option maxRecDepth 100000 in
set_option maxHeartbeats 4000000 in
theorem w_Sx_covers_31 {D : va_G} {cT : Nat → ClassId} {H0 : Heap} {l : Launch} {p : Program} {e : Env} {s : State} {m : MethodId} {args : Array Value} {below : List Frame} {meth : Method} {c : Code} {S0 : gS} {S' : gS} {r : Int32} (Y : gY D cT H0 p s m args meth c prog_10_method_3_code 3 "PlanText$Stretch" 1 20 S0 (Option.some Jvm.ClassFile.FieldType.boolean))   (S : gS) (hden : B_Sx_covers_31   S = some (r, S')) {ls : Array Slot} (hl : lv_has ls 3 []) : gV D cT H0 p l e (gRm 1 20 S0) s m args below meth c (gQ D cT H0 below S0 S' (.inr (some (.int r))) s) S0 S (F0 m 31 ls []) := by
  obtain ⟨X, hZ, hex, hr, hE⟩ := id Y
  have hx := X.1
  have hb := X.2.1
  unfold B_Sx_covers_31 at hden
  refine gV.lift (fun _ _ _ _ => lv_iconst (v := 1) hx hb d_Sx_covers_31 (by decide)) ?_
  refine gV.lift (fun _ _ _ _ => lv_goto (tgt := 36) hx hb d_Sx_covers_32 (by decide)) ?_
  exact w_Sx_covers_36 Y  1 S hden (lv_sub hl [] rfl)
def D_Sx_covers (h0 : Nat) (p0 : Int32) (p1 : Int32) (S : gS) : Option (Int32 × gS) := Option.bind (gOb S h0 9) (fun fs3 => gB2 (D_Sx_isEverywhere h0 S) (fun v2 S1 => (if v2 = 0 then Option.bind (gI S1 h0 9 0) (fun v5 => (if v5 = p0 then Option.bind (gI S1 h0 9 1) (fun v7 => (if p1 < v7 then B_Sx_covers_35  S1 else Option.bind (gI S1 h0 9 2) (fun v9 => (if v9 < p1 then B_Sx_covers_35  S1 else B_Sx_covers_31  S1)))) else B_Sx_covers_35  S1)) else B_Sx_covers_31  S1)))
set_option maxRecDepth 100000 in
set_option maxHeartbeats 4000000 in
theorem c_Sx_covers {D : va_G} {cT : Nat → ClassId} {H0 : Heap} {l : Launch} {S : gS} {S' : gS} {h0 : Nat} {p0 : Int32} {p1 : Int32} {r : Int32} (hden : D_Sx_covers h0 p0 p1 S = some (r, S')) : gM D cT H0 l y_Sx_covers (Cond.code y_Sx_covers prog_10_method_3_code 3 (Option.some Jvm.ClassFile.FieldType.boolean)) 1 20 [va_rf (some h0), .int p0, .int p1] S S' (.inr (some (.int r))) := by
  refine gM.ofV (by decide) ?_
  intro p e s m args below meth c s₁ B hml ea X hZ hex hr hE
  subst ea
  have Y : gY D cT H0 p s m _ meth c prog_10_method_3_code 3 "PlanText$Stretch" 1 20 S (Option.some Jvm.ClassFile.FieldType.boolean) := ⟨X, hZ, hex, hr, hE⟩
  have hx := X.1
  have hb := X.2.1
  have hl := lv_entry ([va_rf (some h0), .int p0, .int p1]) (n := 3) (Nat.le_of_ble_eq_true rfl)
  rw [lg_entry_eq]
  generalize (lg_sl ([va_rf (some h0), .int p0, .int p1]) ++ List.replicate (3 - (lg_sl ([va_rf (some h0), .int p0, .int p1])).length) Slot.unset).toArray = ls at hl ⊢
  have hl : lv_has ls 3 [(0, va_rf (some h0)), (1, .int p0), (2, .int p1)] := hl
  unfold D_Sx_covers at hden
  refine gV.lift (fun _ _ _ _ => g_aload_n hx hb d_Sx_covers_0 rfl (lv_at hl 0 rfl)) ?_
  replace hden := gb hden
  obtain ⟨fs3, ho, hden⟩ := hden
  replace hden := gb2 hden
  obtain ⟨v2, S1, hz, hden⟩ := hden
  refine g_callV (As := []) (rest := []) X hZ (c_Sx_isEverywhere hz) cl_Sx (gOb_spec ho) q_577 q_13 q_574 q_575 q_576 ⟨by decide, by decide, by show _ = some 0; decide +kernel⟩ ⟨by decide, by decide⟩ hl.1 (Nat.le_of_ble_eq_true rfl) d_Sx_covers_1 rfl rfl ?_
  refine gV.lift2 (fun _ _ _ _ => lv_if_ne (tgt := 31) hx hb d_Sx_covers_4 (by decide)) (fun hc4 => ?_) (fun hc4 => ?_)
  · replace hden := gin hc4 hden
    exact w_Sx_covers_31 Y  S1 hden (lv_sub hl [] rfl)
  · replace hden := gip hc4 hden
    refine gV.lift (fun _ _ _ _ => g_aload_n hx hb d_Sx_covers_7 rfl (lv_at hl 0 rfl)) ?_
    replace hden := gb hden
    obtain ⟨v5, hv, hden⟩ := hden
    refine r_getI X cl_Sx (k := 0) hv (by decide) q_318 d_Sx_covers_8 ?_
    refine gV.lift (fun _ _ _ _ => lv_iload_n hx hb d_Sx_covers_11 rfl (lv_at hl 1 rfl)) ?_
    refine gV.lift2 (fun _ _ _ _ => lv_icmp_ne (tgt := 35) hx hb d_Sx_covers_12 (by decide)) (fun hc6 => ?_) (fun hc6 => ?_)
    · replace hden := gin hc6 hden
      exact w_Sx_covers_35 Y  S1 hden (lv_sub hl [] rfl)
    · replace hden := gip hc6 hden
      refine gV.lift (fun _ _ _ _ => g_aload_n hx hb d_Sx_covers_15 rfl (lv_at hl 0 rfl)) ?_
      replace hden := gb hden
      obtain ⟨v7, hv, hden⟩ := hden
      refine r_getI X cl_Sx (k := 1) hv (by decide) q_321 d_Sx_covers_16 ?_
      refine gV.lift (fun _ _ _ _ => lv_iload_n hx hb d_Sx_covers_19 rfl (lv_at hl 2 rfl)) ?_
      refine gV.lift2 (fun _ _ _ _ => lv_icmp_gt (tgt := 35) hx hb d_Sx_covers_20 (by decide)) (fun hc8 => ?_) (fun hc8 => ?_)
      · replace hden := gip hc8 hden
        exact w_Sx_covers_35 Y  S1 hden (lv_sub hl [] rfl)
      · replace hden := gin hc8 hden
        refine gV.lift (fun _ _ _ _ => lv_iload_n hx hb d_Sx_covers_23 rfl (lv_at hl 2 rfl)) ?_
        refine gV.lift (fun _ _ _ _ => g_aload_n hx hb d_Sx_covers_24 rfl (lv_at hl 0 rfl)) ?_
        replace hden := gb hden
        obtain ⟨v9, hv, hden⟩ := hden
        refine r_getI X cl_Sx (k := 2) hv (by decide) q_324 d_Sx_covers_25 ?_
        refine gV.lift2 (fun _ _ _ _ => lv_icmp_gt (tgt := 35) hx hb d_Sx_covers_28 (by decide)) (fun hc10 => ?_) (fun hc10 => ?_)
        · replace hden := gip hc10 hden
          exact w_Sx_covers_35 Y  S1 hden (lv_sub hl [] rfl)
        · replace hden := gin hc10 hden
          exact w_Sx_covers_31 Y  S1 hden (lv_sub hl [] rfl)
/-! PlanText$Stretch.meets(LPlanText$Stretch;)Z -/
abbrev y_Sx_meets : MethodName := ⟨"PlanText$Stretch", "meets", "(LPlanText$Stretch;)Z"⟩
theorem d_Sx_meets_0 : decode prog_10_method_5_code 0 = .ok (.aload_n 0, 1) := by decide +kernel
theorem d_Sx_meets_1 : decode prog_10_method_5_code 1 = .ok (.invokevirtual 19, 3) := by decide +kernel
theorem d_Sx_meets_4 : decode prog_10_method_5_code 4 = .ok (.ifCond .ne 43, 3) := by decide +kernel
theorem d_Sx_meets_7 : decode prog_10_method_5_code 7 = .ok (.aload_n 1, 1) := by decide +kernel
theorem d_Sx_meets_8 : decode prog_10_method_5_code 8 = .ok (.invokevirtual 19, 3) := by decide +kernel
theorem d_Sx_meets_11 : decode prog_10_method_5_code 11 = .ok (.ifCond .ne 36, 3) := by decide +kernel
theorem d_Sx_meets_14 : decode prog_10_method_5_code 14 = .ok (.aload_n 0, 1) := by decide +kernel
theorem d_Sx_meets_15 : decode prog_10_method_5_code 15 = .ok (.getfield 7, 3) := by decide +kernel
theorem d_Sx_meets_18 : decode prog_10_method_5_code 18 = .ok (.aload_n 1, 1) := by decide +kernel
theorem d_Sx_meets_19 : decode prog_10_method_5_code 19 = .ok (.getfield 7, 3) := by decide +kernel
theorem d_Sx_meets_22 : decode prog_10_method_5_code 22 = .ok (.if_icmp .ne 29, 3) := by decide +kernel
theorem d_Sx_meets_25 : decode prog_10_method_5_code 25 = .ok (.aload_n 0, 1) := by decide +kernel
theorem d_Sx_meets_26 : decode prog_10_method_5_code 26 = .ok (.getfield 13, 3) := by decide +kernel
theorem d_Sx_meets_29 : decode prog_10_method_5_code 29 = .ok (.aload_n 1, 1) := by decide +kernel
theorem d_Sx_meets_30 : decode prog_10_method_5_code 30 = .ok (.getfield 16, 3) := by decide +kernel
theorem d_Sx_meets_33 : decode prog_10_method_5_code 33 = .ok (.if_icmp .gt 18, 3) := by decide +kernel
theorem d_Sx_meets_36 : decode prog_10_method_5_code 36 = .ok (.aload_n 1, 1) := by decide +kernel
theorem d_Sx_meets_37 : decode prog_10_method_5_code 37 = .ok (.getfield 13, 3) := by decide +kernel
theorem d_Sx_meets_40 : decode prog_10_method_5_code 40 = .ok (.aload_n 0, 1) := by decide +kernel
theorem d_Sx_meets_41 : decode prog_10_method_5_code 41 = .ok (.getfield 16, 3) := by decide +kernel
theorem d_Sx_meets_44 : decode prog_10_method_5_code 44 = .ok (.if_icmp .gt 7, 3) := by decide +kernel
theorem d_Sx_meets_47 : decode prog_10_method_5_code 47 = .ok (.iconst 1, 1) := by decide +kernel
theorem d_Sx_meets_48 : decode prog_10_method_5_code 48 = .ok (.goto 4, 3) := by decide +kernel
theorem d_Sx_meets_51 : decode prog_10_method_5_code 51 = .ok (.iconst 0, 1) := by decide +kernel
theorem d_Sx_meets_52 : decode prog_10_method_5_code 52 = .ok (.ireturn, 1) := by decide +kernel
def B_Sx_meets_52  (t0 : Int32) (S : gS) : Option (Int32 × gS) := Option.bind (gZo t0) (fun v1 => some (v1, S))
set_option maxRecDepth 100000 in
set_option maxHeartbeats 4000000 in
theorem w_Sx_meets_52 {D : va_G} {cT : Nat → ClassId} {H0 : Heap} {l : Launch} {p : Program} {e : Env} {s : State} {m : MethodId} {args : Array Value} {below : List Frame} {meth : Method} {c : Code} {S0 : gS} {S' : gS} {r : Int32} (Y : gY D cT H0 p s m args meth c prog_10_method_5_code 2 "PlanText$Stretch" 1 20 S0 (Option.some Jvm.ClassFile.FieldType.boolean))  (t0 : Int32) (S : gS) (hden : B_Sx_meets_52  t0 S = some (r, S')) {ls : Array Slot} (hl : lv_has ls 2 []) : gV D cT H0 p l e (gRm 1 20 S0) s m args below meth c (gQ D cT H0 below S0 S' (.inr (some (.int r))) s) S0 S (F0 m 52 ls [.int t0]) := by
  obtain ⟨X, hZ, hex, hr, hE⟩ := id Y
  have hx := X.1
  have hb := X.2.1
  unfold B_Sx_meets_52 at hden
  replace hden := gb hden
  obtain ⟨v1, hz, hden⟩ := hden
  obtain ⟨rfl, hz2, -⟩ := gZo_spec hz
  obtain ⟨rfl, rfl⟩ := gpi hden
  exact g_zret X hr hz2 d_Sx_meets_52
def B_Sx_meets_51   (S : gS) : Option (Int32 × gS) := B_Sx_meets_52  0 S
set_option maxRecDepth 100000 in
set_option maxHeartbeats 4000000 in
theorem w_Sx_meets_51 {D : va_G} {cT : Nat → ClassId} {H0 : Heap} {l : Launch} {p : Program} {e : Env} {s : State} {m : MethodId} {args : Array Value} {below : List Frame} {meth : Method} {c : Code} {S0 : gS} {S' : gS} {r : Int32} (Y : gY D cT H0 p s m args meth c prog_10_method_5_code 2 "PlanText$Stretch" 1 20 S0 (Option.some Jvm.ClassFile.FieldType.boolean))   (S : gS) (hden : B_Sx_meets_51   S = some (r, S')) {ls : Array Slot} (hl : lv_has ls 2 []) : gV D cT H0 p l e (gRm 1 20 S0) s m args below meth c (gQ D cT H0 below S0 S' (.inr (some (.int r))) s) S0 S (F0 m 51 ls []) := by
  obtain ⟨X, hZ, hex, hr, hE⟩ := id Y
  have hx := X.1
  have hb := X.2.1
  unfold B_Sx_meets_51 at hden
  refine gV.lift (fun _ _ _ _ => lv_iconst (v := 0) hx hb d_Sx_meets_51 (by decide)) ?_
  exact w_Sx_meets_52 Y  0 S hden (lv_sub hl [] rfl)
def B_Sx_meets_47   (S : gS) : Option (Int32 × gS) := B_Sx_meets_52  1 S
set_option maxRecDepth 100000 in
set_option maxHeartbeats 4000000 in
theorem w_Sx_meets_47 {D : va_G} {cT : Nat → ClassId} {H0 : Heap} {l : Launch} {p : Program} {e : Env} {s : State} {m : MethodId} {args : Array Value} {below : List Frame} {meth : Method} {c : Code} {S0 : gS} {S' : gS} {r : Int32} (Y : gY D cT H0 p s m args meth c prog_10_method_5_code 2 "PlanText$Stretch" 1 20 S0 (Option.some Jvm.ClassFile.FieldType.boolean))   (S : gS) (hden : B_Sx_meets_47   S = some (r, S')) {ls : Array Slot} (hl : lv_has ls 2 []) : gV D cT H0 p l e (gRm 1 20 S0) s m args below meth c (gQ D cT H0 below S0 S' (.inr (some (.int r))) s) S0 S (F0 m 47 ls []) := by
  obtain ⟨X, hZ, hex, hr, hE⟩ := id Y
  have hx := X.1
  have hb := X.2.1
  unfold B_Sx_meets_47 at hden
  refine gV.lift (fun _ _ _ _ => lv_iconst (v := 1) hx hb d_Sx_meets_47 (by decide)) ?_
  refine gV.lift (fun _ _ _ _ => lv_goto (tgt := 52) hx hb d_Sx_meets_48 (by decide)) ?_
  exact w_Sx_meets_52 Y  1 S hden (lv_sub hl [] rfl)
def D_Sx_meets (h0 : Nat) (p0 : Option Nat) (S : gS) : Option (Int32 × gS) := Option.bind (gOb S h0 9) (fun fs3 => gB2 (D_Sx_isEverywhere h0 S) (fun v2 S1 => (if v2 = 0 then Option.bind p0 (fun a5 => Option.bind (gOb S1 a5 9) (fun fs8 => gB2 (D_Sx_isEverywhere a5 S1) (fun v7 S6 => (if v7 = 0 then Option.bind (gI S6 h0 9 0) (fun v10 => Option.bind (gI S6 a5 9 0) (fun v11 => (if v10 = v11 then Option.bind (gI S6 h0 9 1) (fun v13 => Option.bind (gI S6 a5 9 2) (fun v14 => (if v14 < v13 then B_Sx_meets_51  S6 else Option.bind (gI S6 a5 9 1) (fun v16 => Option.bind (gI S6 h0 9 2) (fun v17 => (if v17 < v16 then B_Sx_meets_51  S6 else B_Sx_meets_47  S6)))))) else B_Sx_meets_51  S6))) else B_Sx_meets_47  S6)))) else B_Sx_meets_47  S1)))
set_option maxRecDepth 100000 in
set_option maxHeartbeats 4000000 in
theorem c_Sx_meets {D : va_G} {cT : Nat → ClassId} {H0 : Heap} {l : Launch} {S : gS} {S' : gS} {h0 : Nat} {p0 : Option Nat} {r : Int32} (hden : D_Sx_meets h0 p0 S = some (r, S')) : gM D cT H0 l y_Sx_meets (Cond.code y_Sx_meets prog_10_method_5_code 2 (Option.some Jvm.ClassFile.FieldType.boolean)) 1 20 [va_rf (some h0), va_rf p0] S S' (.inr (some (.int r))) := by
  refine gM.ofV (by decide) ?_
  intro p e s m args below meth c s₁ B hml ea X hZ hex hr hE
  subst ea
  have Y : gY D cT H0 p s m _ meth c prog_10_method_5_code 2 "PlanText$Stretch" 1 20 S (Option.some Jvm.ClassFile.FieldType.boolean) := ⟨X, hZ, hex, hr, hE⟩
  have hx := X.1
  have hb := X.2.1
  have hl := lv_entry ([va_rf (some h0), va_rf p0]) (n := 2) (by cases p0 <;> exact Nat.le_of_ble_eq_true rfl)
  rw [lg_entry_eq]
  generalize (lg_sl ([va_rf (some h0), va_rf p0]) ++ List.replicate (2 - (lg_sl ([va_rf (some h0), va_rf p0])).length) Slot.unset).toArray = ls at hl ⊢
  have hl : lv_has ls 2 [(0, va_rf (some h0)), (1, va_rf p0)] := by cases p0 <;> exact hl
  unfold D_Sx_meets at hden
  refine gV.lift (fun _ _ _ _ => g_aload_n hx hb d_Sx_meets_0 rfl (lv_at hl 0 rfl)) ?_
  replace hden := gb hden
  obtain ⟨fs3, ho, hden⟩ := hden
  replace hden := gb2 hden
  obtain ⟨v2, S1, hz, hden⟩ := hden
  refine g_callV (As := []) (rest := []) X hZ (c_Sx_isEverywhere hz) cl_Sx (gOb_spec ho) q_577 q_13 q_574 q_575 q_576 ⟨by decide, by decide, by show _ = some 0; decide +kernel⟩ ⟨by decide, by decide⟩ hl.1 (Nat.le_of_ble_eq_true rfl) d_Sx_meets_1 rfl rfl ?_
  refine gV.lift2 (fun _ _ _ _ => lv_if_ne (tgt := 47) hx hb d_Sx_meets_4 (by decide)) (fun hc4 => ?_) (fun hc4 => ?_)
  · replace hden := gin hc4 hden
    exact w_Sx_meets_47 Y  S1 hden (lv_sub hl [] rfl)
  · replace hden := gip hc4 hden
    refine gV.lift (fun _ _ _ _ => g_aload_n hx hb d_Sx_meets_7 rfl (lv_at hl 1 rfl)) ?_
    replace hden := gb hden
    obtain ⟨a5, rfl, hden⟩ := hden
    replace hden := gb hden
    obtain ⟨fs8, ho, hden⟩ := hden
    replace hden := gb2 hden
    obtain ⟨v7, S6, hz, hden⟩ := hden
    refine g_callV (As := []) (rest := []) X hZ (c_Sx_isEverywhere hz) cl_Sx (gOb_spec ho) q_577 q_13 q_574 q_575 q_576 ⟨by decide, by decide, by show _ = some 0; decide +kernel⟩ ⟨by decide, by decide⟩ hl.1 (Nat.le_of_ble_eq_true rfl) d_Sx_meets_8 rfl rfl ?_
    refine gV.lift2 (fun _ _ _ _ => lv_if_ne (tgt := 47) hx hb d_Sx_meets_11 (by decide)) (fun hc9 => ?_) (fun hc9 => ?_)
    · replace hden := gin hc9 hden
      exact w_Sx_meets_47 Y  S6 hden (lv_sub hl [] rfl)
    · replace hden := gip hc9 hden
      refine gV.lift (fun _ _ _ _ => g_aload_n hx hb d_Sx_meets_14 rfl (lv_at hl 0 rfl)) ?_
      replace hden := gb hden
      obtain ⟨v10, hv, hden⟩ := hden
      refine r_getI X cl_Sx (k := 0) hv (by decide) q_318 d_Sx_meets_15 ?_
      refine gV.lift (fun _ _ _ _ => g_aload_n hx hb d_Sx_meets_18 rfl (lv_at hl 1 rfl)) ?_
      replace hden := gb hden
      obtain ⟨v11, hv, hden⟩ := hden
      refine r_getI X cl_Sx (k := 0) hv (by decide) q_318 d_Sx_meets_19 ?_
      refine gV.lift2 (fun _ _ _ _ => lv_icmp_ne (tgt := 51) hx hb d_Sx_meets_22 (by decide)) (fun hc12 => ?_) (fun hc12 => ?_)
      · replace hden := gin hc12 hden
        exact w_Sx_meets_51 Y  S6 hden (lv_sub hl [] rfl)
      · replace hden := gip hc12 hden
        refine gV.lift (fun _ _ _ _ => g_aload_n hx hb d_Sx_meets_25 rfl (lv_at hl 0 rfl)) ?_
        replace hden := gb hden
        obtain ⟨v13, hv, hden⟩ := hden
        refine r_getI X cl_Sx (k := 1) hv (by decide) q_321 d_Sx_meets_26 ?_
        refine gV.lift (fun _ _ _ _ => g_aload_n hx hb d_Sx_meets_29 rfl (lv_at hl 1 rfl)) ?_
        replace hden := gb hden
        obtain ⟨v14, hv, hden⟩ := hden
        refine r_getI X cl_Sx (k := 2) hv (by decide) q_324 d_Sx_meets_30 ?_
        refine gV.lift2 (fun _ _ _ _ => lv_icmp_gt (tgt := 51) hx hb d_Sx_meets_33 (by decide)) (fun hc15 => ?_) (fun hc15 => ?_)
        · replace hden := gip hc15 hden
          exact w_Sx_meets_51 Y  S6 hden (lv_sub hl [] rfl)
        · replace hden := gin hc15 hden
          refine gV.lift (fun _ _ _ _ => g_aload_n hx hb d_Sx_meets_36 rfl (lv_at hl 1 rfl)) ?_
          replace hden := gb hden
          obtain ⟨v16, hv, hden⟩ := hden
          refine r_getI X cl_Sx (k := 1) hv (by decide) q_321 d_Sx_meets_37 ?_
          refine gV.lift (fun _ _ _ _ => g_aload_n hx hb d_Sx_meets_40 rfl (lv_at hl 0 rfl)) ?_
          replace hden := gb hden
          obtain ⟨v17, hv, hden⟩ := hden
          refine r_getI X cl_Sx (k := 2) hv (by decide) q_324 d_Sx_meets_41 ?_
          refine gV.lift2 (fun _ _ _ _ => lv_icmp_gt (tgt := 51) hx hb d_Sx_meets_44 (by decide)) (fun hc18 => ?_) (fun hc18 => ?_)
          · replace hden := gip hc18 hden
            exact w_Sx_meets_51 Y  S6 hden (lv_sub hl [] rfl)
          · replace hden := gin hc18 hden
            exact w_Sx_meets_47 Y  S6 hden (lv_sub hl [] rfl)
/-! PlanText$Stretch.endsWithin(LPlanText$Stretch;)Z -/
abbrev y_Sx_endsWithin : MethodName := ⟨"PlanText$Stretch", "endsWithin", "(LPlanText$Stretch;)Z"⟩
theorem d_Sx_endsWithin_0 : decode prog_10_method_4_code 0 = .ok (.aload_n 0, 1) := by decide +kernel
theorem d_Sx_endsWithin_1 : decode prog_10_method_4_code 1 = .ok (.getfield 7, 3) := by decide +kernel
theorem d_Sx_endsWithin_4 : decode prog_10_method_4_code 4 = .ok (.aload_n 1, 1) := by decide +kernel
theorem d_Sx_endsWithin_5 : decode prog_10_method_4_code 5 = .ok (.getfield 7, 3) := by decide +kernel
theorem d_Sx_endsWithin_8 : decode prog_10_method_4_code 8 = .ok (.if_icmp .ne 29, 3) := by decide +kernel
theorem d_Sx_endsWithin_11 : decode prog_10_method_4_code 11 = .ok (.aload_n 1, 1) := by decide +kernel
theorem d_Sx_endsWithin_12 : decode prog_10_method_4_code 12 = .ok (.getfield 13, 3) := by decide +kernel
theorem d_Sx_endsWithin_15 : decode prog_10_method_4_code 15 = .ok (.aload_n 0, 1) := by decide +kernel
theorem d_Sx_endsWithin_16 : decode prog_10_method_4_code 16 = .ok (.getfield 16, 3) := by decide +kernel
theorem d_Sx_endsWithin_19 : decode prog_10_method_4_code 19 = .ok (.if_icmp .gt 18, 3) := by decide +kernel
theorem d_Sx_endsWithin_22 : decode prog_10_method_4_code 22 = .ok (.aload_n 0, 1) := by decide +kernel
theorem d_Sx_endsWithin_23 : decode prog_10_method_4_code 23 = .ok (.getfield 16, 3) := by decide +kernel
theorem d_Sx_endsWithin_26 : decode prog_10_method_4_code 26 = .ok (.aload_n 1, 1) := by decide +kernel
theorem d_Sx_endsWithin_27 : decode prog_10_method_4_code 27 = .ok (.getfield 16, 3) := by decide +kernel
theorem d_Sx_endsWithin_30 : decode prog_10_method_4_code 30 = .ok (.if_icmp .ge 7, 3) := by decide +kernel
theorem d_Sx_endsWithin_33 : decode prog_10_method_4_code 33 = .ok (.iconst 1, 1) := by decide +kernel
theorem d_Sx_endsWithin_34 : decode prog_10_method_4_code 34 = .ok (.goto 4, 3) := by decide +kernel
theorem d_Sx_endsWithin_37 : decode prog_10_method_4_code 37 = .ok (.iconst 0, 1) := by decide +kernel
theorem d_Sx_endsWithin_38 : decode prog_10_method_4_code 38 = .ok (.ireturn, 1) := by decide +kernel
def B_Sx_endsWithin_38  (t0 : Int32) (S : gS) : Option (Int32 × gS) := Option.bind (gZo t0) (fun v1 => some (v1, S))
set_option maxRecDepth 100000 in
set_option maxHeartbeats 4000000 in
theorem w_Sx_endsWithin_38 {D : va_G} {cT : Nat → ClassId} {H0 : Heap} {l : Launch} {p : Program} {e : Env} {s : State} {m : MethodId} {args : Array Value} {below : List Frame} {meth : Method} {c : Code} {S0 : gS} {S' : gS} {r : Int32} (Y : gY D cT H0 p s m args meth c prog_10_method_4_code 2 "PlanText$Stretch" 0 0 S0 (Option.some Jvm.ClassFile.FieldType.boolean))  (t0 : Int32) (S : gS) (hden : B_Sx_endsWithin_38  t0 S = some (r, S')) {ls : Array Slot} (hl : lv_has ls 2 []) : gV D cT H0 p l e (gRm 0 0 S0) s m args below meth c (gQ D cT H0 below S0 S' (.inr (some (.int r))) s) S0 S (F0 m 38 ls [.int t0]) := by
  obtain ⟨X, hZ, hex, hr, hE⟩ := id Y
  have hx := X.1
  have hb := X.2.1
  unfold B_Sx_endsWithin_38 at hden
  replace hden := gb hden
  obtain ⟨v1, hz, hden⟩ := hden
  obtain ⟨rfl, hz2, -⟩ := gZo_spec hz
  obtain ⟨rfl, rfl⟩ := gpi hden
  exact g_zret X hr hz2 d_Sx_endsWithin_38
def B_Sx_endsWithin_37   (S : gS) : Option (Int32 × gS) := B_Sx_endsWithin_38  0 S
set_option maxRecDepth 100000 in
set_option maxHeartbeats 4000000 in
theorem w_Sx_endsWithin_37 {D : va_G} {cT : Nat → ClassId} {H0 : Heap} {l : Launch} {p : Program} {e : Env} {s : State} {m : MethodId} {args : Array Value} {below : List Frame} {meth : Method} {c : Code} {S0 : gS} {S' : gS} {r : Int32} (Y : gY D cT H0 p s m args meth c prog_10_method_4_code 2 "PlanText$Stretch" 0 0 S0 (Option.some Jvm.ClassFile.FieldType.boolean))   (S : gS) (hden : B_Sx_endsWithin_37   S = some (r, S')) {ls : Array Slot} (hl : lv_has ls 2 []) : gV D cT H0 p l e (gRm 0 0 S0) s m args below meth c (gQ D cT H0 below S0 S' (.inr (some (.int r))) s) S0 S (F0 m 37 ls []) := by
  obtain ⟨X, hZ, hex, hr, hE⟩ := id Y
  have hx := X.1
  have hb := X.2.1
  unfold B_Sx_endsWithin_37 at hden
  refine gV.lift (fun _ _ _ _ => lv_iconst (v := 0) hx hb d_Sx_endsWithin_37 (by decide)) ?_
  exact w_Sx_endsWithin_38 Y  0 S hden (lv_sub hl [] rfl)
def D_Sx_endsWithin (h0 : Nat) (p0 : Option Nat) (S : gS) : Option (Int32 × gS) := Option.bind (gI S h0 9 0) (fun v1 => Option.bind p0 (fun a2 => Option.bind (gI S a2 9 0) (fun v3 => (if v1 = v3 then Option.bind (gI S a2 9 1) (fun v5 => Option.bind (gI S h0 9 2) (fun v6 => (if v6 < v5 then B_Sx_endsWithin_37  S else Option.bind (gI S h0 9 2) (fun v8 => Option.bind (gI S a2 9 2) (fun v9 => (if v9 ≤ v8 then B_Sx_endsWithin_37  S else B_Sx_endsWithin_38  1 S)))))) else B_Sx_endsWithin_37  S))))
set_option maxRecDepth 100000 in
set_option maxHeartbeats 4000000 in
theorem c_Sx_endsWithin {D : va_G} {cT : Nat → ClassId} {H0 : Heap} {l : Launch} {S : gS} {S' : gS} {h0 : Nat} {p0 : Option Nat} {r : Int32} (hden : D_Sx_endsWithin h0 p0 S = some (r, S')) : gM D cT H0 l y_Sx_endsWithin (Cond.code y_Sx_endsWithin prog_10_method_4_code 2 (Option.some Jvm.ClassFile.FieldType.boolean)) 0 0 [va_rf (some h0), va_rf p0] S S' (.inr (some (.int r))) := by
  refine gM.ofV (by decide) ?_
  intro p e s m args below meth c s₁ B hml ea X hZ hex hr hE
  subst ea
  have Y : gY D cT H0 p s m _ meth c prog_10_method_4_code 2 "PlanText$Stretch" 0 0 S (Option.some Jvm.ClassFile.FieldType.boolean) := ⟨X, hZ, hex, hr, hE⟩
  have hx := X.1
  have hb := X.2.1
  have hl := lv_entry ([va_rf (some h0), va_rf p0]) (n := 2) (by cases p0 <;> exact Nat.le_of_ble_eq_true rfl)
  rw [lg_entry_eq]
  generalize (lg_sl ([va_rf (some h0), va_rf p0]) ++ List.replicate (2 - (lg_sl ([va_rf (some h0), va_rf p0])).length) Slot.unset).toArray = ls at hl ⊢
  have hl : lv_has ls 2 [(0, va_rf (some h0)), (1, va_rf p0)] := by cases p0 <;> exact hl
  unfold D_Sx_endsWithin at hden
  refine gV.lift (fun _ _ _ _ => g_aload_n hx hb d_Sx_endsWithin_0 rfl (lv_at hl 0 rfl)) ?_
  replace hden := gb hden
  obtain ⟨v1, hv, hden⟩ := hden
  refine r_getI X cl_Sx (k := 0) hv (by decide) q_318 d_Sx_endsWithin_1 ?_
  refine gV.lift (fun _ _ _ _ => g_aload_n hx hb d_Sx_endsWithin_4 rfl (lv_at hl 1 rfl)) ?_
  replace hden := gb hden
  obtain ⟨a2, rfl, hden⟩ := hden
  replace hden := gb hden
  obtain ⟨v3, hv, hden⟩ := hden
  refine r_getI X cl_Sx (k := 0) hv (by decide) q_318 d_Sx_endsWithin_5 ?_
  refine gV.lift2 (fun _ _ _ _ => lv_icmp_ne (tgt := 37) hx hb d_Sx_endsWithin_8 (by decide)) (fun hc4 => ?_) (fun hc4 => ?_)
  · replace hden := gin hc4 hden
    exact w_Sx_endsWithin_37 Y  S hden (lv_sub hl [] rfl)
  · replace hden := gip hc4 hden
    refine gV.lift (fun _ _ _ _ => g_aload_n hx hb d_Sx_endsWithin_11 rfl (lv_at hl 1 rfl)) ?_
    replace hden := gb hden
    obtain ⟨v5, hv, hden⟩ := hden
    refine r_getI X cl_Sx (k := 1) hv (by decide) q_321 d_Sx_endsWithin_12 ?_
    refine gV.lift (fun _ _ _ _ => g_aload_n hx hb d_Sx_endsWithin_15 rfl (lv_at hl 0 rfl)) ?_
    replace hden := gb hden
    obtain ⟨v6, hv, hden⟩ := hden
    refine r_getI X cl_Sx (k := 2) hv (by decide) q_324 d_Sx_endsWithin_16 ?_
    refine gV.lift2 (fun _ _ _ _ => lv_icmp_gt (tgt := 37) hx hb d_Sx_endsWithin_19 (by decide)) (fun hc7 => ?_) (fun hc7 => ?_)
    · replace hden := gip hc7 hden
      exact w_Sx_endsWithin_37 Y  S hden (lv_sub hl [] rfl)
    · replace hden := gin hc7 hden
      refine gV.lift (fun _ _ _ _ => g_aload_n hx hb d_Sx_endsWithin_22 rfl (lv_at hl 0 rfl)) ?_
      replace hden := gb hden
      obtain ⟨v8, hv, hden⟩ := hden
      refine r_getI X cl_Sx (k := 2) hv (by decide) q_324 d_Sx_endsWithin_23 ?_
      refine gV.lift (fun _ _ _ _ => g_aload_n hx hb d_Sx_endsWithin_26 rfl (lv_at hl 1 rfl)) ?_
      replace hden := gb hden
      obtain ⟨v9, hv, hden⟩ := hden
      refine r_getI X cl_Sx (k := 2) hv (by decide) q_324 d_Sx_endsWithin_27 ?_
      refine gV.lift2 (fun _ _ _ _ => lv_icmp_ge (tgt := 37) hx hb d_Sx_endsWithin_30 (by decide)) (fun hc10 => ?_) (fun hc10 => ?_)
      · replace hden := gip hc10 hden
        exact w_Sx_endsWithin_37 Y  S hden (lv_sub hl [] rfl)
      · replace hden := gin hc10 hden
        refine gV.lift (fun _ _ _ _ => lv_iconst (v := 1) hx hb d_Sx_endsWithin_33 (by decide)) ?_
        refine gV.lift (fun _ _ _ _ => lv_goto (tgt := 38) hx hb d_Sx_endsWithin_34 (by decide)) ?_
        exact w_Sx_endsWithin_38 Y  1 S hden (lv_sub hl [] rfl)
