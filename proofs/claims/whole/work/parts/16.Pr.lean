/-! PlanText$Printer.<init>()V -/
abbrev y_Pr_init : MethodName := ⟨"PlanText$Printer", "<init>", "()V"⟩
theorem d_Pr_init_0 : decode prog_7_method_1_code 0 = .ok (.aload_n 0, 1) := by decide +kernel
theorem d_Pr_init_1 : decode prog_7_method_1_code 1 = .ok (.invokespecial 3, 3) := by decide +kernel
theorem d_Pr_init_4 : decode prog_7_method_1_code 4 = .ok (.aload_n 0, 1) := by decide +kernel
theorem d_Pr_init_5 : decode prog_7_method_1_code 5 = .ok (.sipush 400, 3) := by decide +kernel
theorem d_Pr_init_8 : decode prog_7_method_1_code 8 = .ok (.newarray .byte, 2) := by decide +kernel
theorem d_Pr_init_10 : decode prog_7_method_1_code 10 = .ok (.putfield 9, 3) := by decide +kernel
theorem d_Pr_init_13 : decode prog_7_method_1_code 13 = .ok (.aload_n 0, 1) := by decide +kernel
theorem d_Pr_init_14 : decode prog_7_method_1_code 14 = .ok (.iconst 0, 1) := by decide +kernel
theorem d_Pr_init_15 : decode prog_7_method_1_code 15 = .ok (.putfield 15, 3) := by decide +kernel
theorem d_Pr_init_18 : decode prog_7_method_1_code 18 = .ok (.return_, 1) := by decide +kernel
def D_Pr_init (h0 : Nat) (S : gS) : Option gS := Option.bind (gNA S 2 400 (.inl (fun _ => 0))) (fun S1 => Option.bind (gPut S1 h0 6 0 (va_rf (some S.2.1))) (fun S2 => Option.bind (gPut S2 h0 6 1 (.int 0)) (fun S3 => some S3)))
set_option maxRecDepth 100000 in
set_option maxHeartbeats 4000000 in
theorem c_Pr_init {D : va_G} {cT : Nat → ClassId} {H0 : Heap} {l : Launch} {S : gS} {S' : gS} {h0 : Nat} (hden : D_Pr_init h0 S = some S') : gM D cT H0 l y_Pr_init (Cond.code y_Pr_init prog_7_method_1_code 1 (Option.none : Option Jvm.ClassFile.FieldType)) 1 24 [va_rf (some h0)] S S' (.inr none) := by
  refine gM.ofV (by decide) ?_
  intro p e s m args below meth c s₁ B hml ea X hZ hex hr hE
  subst ea
  have Y : gY D cT H0 p s m _ meth c prog_7_method_1_code 1 "PlanText$Printer" 1 24 S (Option.none : Option Jvm.ClassFile.FieldType) := ⟨X, hZ, hex, hr, hE⟩
  have hin : meth.name = "<init>" := (name_of_methodNamed B.named B.method).1
  have hx := X.1
  have hb := X.2.1
  have hl := lv_entry ([va_rf (some h0)]) (n := 1) (Nat.le_of_ble_eq_true rfl)
  rw [lg_entry_eq]
  generalize (lg_sl ([va_rf (some h0)]) ++ List.replicate (1 - (lg_sl ([va_rf (some h0)])).length) Slot.unset).toArray = ls at hl ⊢
  have hl : lv_has ls 1 [(0, va_rf (some h0))] := hl
  unfold D_Pr_init at hden
  refine gV.lift (fun _ _ _ _ => g_aload_n hx hb d_Pr_init_0 rfl (lv_at hl 0 rfl)) ?_
  refine g_objInit X q_89 q_26 q_27 hl.1 d_Pr_init_1 ⟨by decide, Nat.le_of_ble_eq_true rfl⟩ ?_
  refine gV.lift (fun _ _ _ _ => g_aload_n hx hb d_Pr_init_4 rfl (lv_at hl 0 rfl)) ?_
  refine gV.lift (fun _ _ _ _ => lv_sipush (v := 400) hx hb d_Pr_init_5 (by decide)) ?_
  replace hden := gb hden
  obtain ⟨S1, hv, hden⟩ := hden
  refine r_newa X (atype := .byte) (t := 2) (ty := .byte) rfl rfl rfl q_67 hv (fun _ => rfl) (by decide) d_Pr_init_8 ?_
  replace hden := gb hden
  obtain ⟨S2, hv, hden⟩ := hden
  refine r_putF X cl_Pr (k := 0) hv (by decide) q_90 rfl hin rfl g_narA g_fitA d_Pr_init_10 ?_
  refine gV.lift (fun _ _ _ _ => g_aload_n hx hb d_Pr_init_13 rfl (lv_at hl 0 rfl)) ?_
  refine gV.lift (fun _ _ _ _ => lv_iconst (v := 0) hx hb d_Pr_init_14 (by decide)) ?_
  replace hden := gb hden
  obtain ⟨S3, hv, hden⟩ := hden
  refine r_put X cl_Pr (k := 1) hv (by decide) q_91 rfl rfl rfl d_Pr_init_15 ?_
  obtain rfl := gsi hden
  exact g_vret X hr d_Pr_init_18
/-! PlanText$Printer.write(I)V -/
abbrev y_Pr_write : MethodName := ⟨"PlanText$Printer", "write", "(I)V"⟩
theorem d_Pr_write_0 : decode prog_7_method_11_code 0 = .ok (.aload_n 0, 1) := by decide +kernel
theorem d_Pr_write_1 : decode prog_7_method_11_code 1 = .ok (.getfield 15, 3) := by decide +kernel
theorem d_Pr_write_4 : decode prog_7_method_11_code 4 = .ok (.sipush 400, 3) := by decide +kernel
theorem d_Pr_write_7 : decode prog_7_method_11_code 7 = .ok (.if_icmp .ge 24, 3) := by decide +kernel
theorem d_Pr_write_10 : decode prog_7_method_11_code 10 = .ok (.aload_n 0, 1) := by decide +kernel
theorem d_Pr_write_11 : decode prog_7_method_11_code 11 = .ok (.getfield 9, 3) := by decide +kernel
theorem d_Pr_write_14 : decode prog_7_method_11_code 14 = .ok (.aload_n 0, 1) := by decide +kernel
theorem d_Pr_write_15 : decode prog_7_method_11_code 15 = .ok (.getfield 15, 3) := by decide +kernel
theorem d_Pr_write_18 : decode prog_7_method_11_code 18 = .ok (.iload_n 1, 1) := by decide +kernel
theorem d_Pr_write_19 : decode prog_7_method_11_code 19 = .ok (.i2b, 1) := by decide +kernel
theorem d_Pr_write_20 : decode prog_7_method_11_code 20 = .ok (.bastore, 1) := by decide +kernel
theorem d_Pr_write_21 : decode prog_7_method_11_code 21 = .ok (.aload_n 0, 1) := by decide +kernel
theorem d_Pr_write_22 : decode prog_7_method_11_code 22 = .ok (.dup, 1) := by decide +kernel
theorem d_Pr_write_23 : decode prog_7_method_11_code 23 = .ok (.getfield 15, 3) := by decide +kernel
theorem d_Pr_write_26 : decode prog_7_method_11_code 26 = .ok (.iconst 1, 1) := by decide +kernel
theorem d_Pr_write_27 : decode prog_7_method_11_code 27 = .ok (.iadd, 1) := by decide +kernel
theorem d_Pr_write_28 : decode prog_7_method_11_code 28 = .ok (.putfield 15, 3) := by decide +kernel
theorem d_Pr_write_31 : decode prog_7_method_11_code 31 = .ok (.return_, 1) := by decide +kernel
def B_Pr_write_31   (S : gS) : Option gS := some S
set_option maxRecDepth 100000 in
set_option maxHeartbeats 4000000 in
theorem w_Pr_write_31 {D : va_G} {cT : Nat → ClassId} {H0 : Heap} {l : Launch} {p : Program} {e : Env} {s : State} {m : MethodId} {args : Array Value} {below : List Frame} {meth : Method} {c : Code} {S0 : gS} {S' : gS} (Y : gY D cT H0 p s m args meth c prog_7_method_11_code 2 "PlanText$Printer" 0 0 S0 (Option.none : Option Jvm.ClassFile.FieldType))   (S : gS) (hden : B_Pr_write_31   S = some S') {ls : Array Slot} (hl : lv_has ls 2 []) : gV D cT H0 p l e (gRm 0 0 S0) s m args below meth c (gQ D cT H0 below S0 S' (.inr none) s) S0 S (F0 m 31 ls []) := by
  obtain ⟨X, hZ, hex, hr, hE⟩ := id Y
  have hx := X.1
  have hb := X.2.1
  unfold B_Pr_write_31 at hden
  obtain rfl := gsi hden
  exact g_vret X hr d_Pr_write_31
def D_Pr_write (h0 : Nat) (p0 : Int32) (S : gS) : Option gS := Option.bind (gI S h0 6 1) (fun v1 => (if 400 ≤ v1 then B_Pr_write_31  S else Option.bind (gRf S h0 6 0) (fun r3 => Option.bind (gI S h0 6 1) (fun v4 => Option.bind r3 (fun a5 => Option.bind (gSI S a5 2 v4 p0.toInt8.toInt32.toInt8.toInt32) (fun S6 => Option.bind (gI S6 h0 6 1) (fun v7 => Option.bind (gPut S6 h0 6 1 (.int (v7 + 1))) (fun S8 => B_Pr_write_31  S8))))))))
set_option maxRecDepth 100000 in
set_option maxHeartbeats 4000000 in
theorem c_Pr_write {D : va_G} {cT : Nat → ClassId} {H0 : Heap} {l : Launch} {S : gS} {S' : gS} {h0 : Nat} {p0 : Int32} (hden : D_Pr_write h0 p0 S = some S') : gM D cT H0 l y_Pr_write (Cond.code y_Pr_write prog_7_method_11_code 2 (Option.none : Option Jvm.ClassFile.FieldType)) 0 0 [va_rf (some h0), .int p0] S S' (.inr none) := by
  refine gM.ofV (by decide) ?_
  intro p e s m args below meth c s₁ B hml ea X hZ hex hr hE
  subst ea
  have Y : gY D cT H0 p s m _ meth c prog_7_method_11_code 2 "PlanText$Printer" 0 0 S (Option.none : Option Jvm.ClassFile.FieldType) := ⟨X, hZ, hex, hr, hE⟩
  have hx := X.1
  have hb := X.2.1
  have hl := lv_entry ([va_rf (some h0), .int p0]) (n := 2) (Nat.le_of_ble_eq_true rfl)
  rw [lg_entry_eq]
  generalize (lg_sl ([va_rf (some h0), .int p0]) ++ List.replicate (2 - (lg_sl ([va_rf (some h0), .int p0])).length) Slot.unset).toArray = ls at hl ⊢
  have hl : lv_has ls 2 [(0, va_rf (some h0)), (1, .int p0)] := hl
  unfold D_Pr_write at hden
  refine gV.lift (fun _ _ _ _ => g_aload_n hx hb d_Pr_write_0 rfl (lv_at hl 0 rfl)) ?_
  replace hden := gb hden
  obtain ⟨v1, hv, hden⟩ := hden
  refine r_getI X cl_Pr (k := 1) hv (by decide) q_91 d_Pr_write_1 ?_
  refine gV.lift (fun _ _ _ _ => lv_sipush (v := 400) hx hb d_Pr_write_4 (by decide)) ?_
  refine gV.lift2 (fun _ _ _ _ => lv_icmp_ge (tgt := 31) hx hb d_Pr_write_7 (by decide)) (fun hc2 => ?_) (fun hc2 => ?_)
  · replace hden := gip hc2 hden
    exact w_Pr_write_31 Y  S hden (lv_sub hl [] rfl)
  · replace hden := gin hc2 hden
    refine gV.lift (fun _ _ _ _ => g_aload_n hx hb d_Pr_write_10 rfl (lv_at hl 0 rfl)) ?_
    replace hden := gb hden
    obtain ⟨r3, hv, hden⟩ := hden
    refine r_getR X cl_Pr (k := 0) hv (by decide) q_90 d_Pr_write_11 ?_
    refine gV.lift (fun _ _ _ _ => g_aload_n hx hb d_Pr_write_14 rfl (lv_at hl 0 rfl)) ?_
    replace hden := gb hden
    obtain ⟨v4, hv, hden⟩ := hden
    refine r_getI X cl_Pr (k := 1) hv (by decide) q_91 d_Pr_write_15 ?_
    refine gV.lift (fun _ _ _ _ => lv_iload_n hx hb d_Pr_write_18 rfl (lv_at hl 1 rfl)) ?_
    refine gV.lift (fun _ _ _ _ => lv_i2b (v := p0.toInt8.toInt32) hx hb d_Pr_write_19 rfl) ?_
    replace hden := gb hden
    obtain ⟨a5, rfl, hden⟩ := hden
    replace hden := gb hden
    obtain ⟨S6, hv, hden⟩ := hden
    refine r_bast X (t := 2) rfl hv d_Pr_write_20 ?_
    refine gV.lift (fun _ _ _ _ => g_aload_n hx hb d_Pr_write_21 rfl (lv_at hl 0 rfl)) ?_
    refine gV.lift (fun _ _ _ _ => lv_dup hx hb d_Pr_write_22 g_cat) ?_
    replace hden := gb hden
    obtain ⟨v7, hv, hden⟩ := hden
    refine r_getI X cl_Pr (k := 1) hv (by decide) q_91 d_Pr_write_23 ?_
    refine gV.lift (fun _ _ _ _ => lv_iconst (v := 1) hx hb d_Pr_write_26 (by decide)) ?_
    refine gV.lift (fun _ _ _ _ => lv_iadd hx hb d_Pr_write_27) ?_
    replace hden := gb hden
    obtain ⟨S8, hv, hden⟩ := hden
    refine r_put X cl_Pr (k := 1) hv (by decide) q_91 rfl rfl rfl d_Pr_write_28 ?_
    exact w_Pr_write_31 Y  S8 hden (lv_sub hl [] rfl)
/-! PlanText$Printer.writeNumber(CI)V -/
abbrev y_Pr_writeNumber : MethodName := ⟨"PlanText$Printer", "writeNumber", "(CI)V"⟩
theorem d_Pr_writeNumber_0 : decode prog_7_method_10_code 0 = .ok (.aload_n 0, 1) := by decide +kernel
theorem d_Pr_writeNumber_1 : decode prog_7_method_10_code 1 = .ok (.iload_n 1, 1) := by decide +kernel
theorem d_Pr_writeNumber_2 : decode prog_7_method_10_code 2 = .ok (.invokevirtual 90, 3) := by decide +kernel
theorem d_Pr_writeNumber_5 : decode prog_7_method_10_code 5 = .ok (.iload_n 2, 1) := by decide +kernel
theorem d_Pr_writeNumber_6 : decode prog_7_method_10_code 6 = .ok (.bipush 100, 2) := by decide +kernel
theorem d_Pr_writeNumber_8 : decode prog_7_method_10_code 8 = .ok (.if_icmp .lt 17, 3) := by decide +kernel
theorem d_Pr_writeNumber_11 : decode prog_7_method_10_code 11 = .ok (.aload_n 0, 1) := by decide +kernel
theorem d_Pr_writeNumber_12 : decode prog_7_method_10_code 12 = .ok (.bipush 48, 2) := by decide +kernel
theorem d_Pr_writeNumber_14 : decode prog_7_method_10_code 14 = .ok (.iload_n 2, 1) := by decide +kernel
theorem d_Pr_writeNumber_15 : decode prog_7_method_10_code 15 = .ok (.bipush 100, 2) := by decide +kernel
theorem d_Pr_writeNumber_17 : decode prog_7_method_10_code 17 = .ok (.idiv, 1) := by decide +kernel
theorem d_Pr_writeNumber_18 : decode prog_7_method_10_code 18 = .ok (.bipush 10, 2) := by decide +kernel
theorem d_Pr_writeNumber_20 : decode prog_7_method_10_code 20 = .ok (.irem, 1) := by decide +kernel
theorem d_Pr_writeNumber_21 : decode prog_7_method_10_code 21 = .ok (.iadd, 1) := by decide +kernel
theorem d_Pr_writeNumber_22 : decode prog_7_method_10_code 22 = .ok (.invokevirtual 90, 3) := by decide +kernel
theorem d_Pr_writeNumber_25 : decode prog_7_method_10_code 25 = .ok (.iload_n 2, 1) := by decide +kernel
theorem d_Pr_writeNumber_26 : decode prog_7_method_10_code 26 = .ok (.bipush 10, 2) := by decide +kernel
theorem d_Pr_writeNumber_28 : decode prog_7_method_10_code 28 = .ok (.if_icmp .lt 17, 3) := by decide +kernel
theorem d_Pr_writeNumber_31 : decode prog_7_method_10_code 31 = .ok (.aload_n 0, 1) := by decide +kernel
theorem d_Pr_writeNumber_32 : decode prog_7_method_10_code 32 = .ok (.bipush 48, 2) := by decide +kernel
theorem d_Pr_writeNumber_34 : decode prog_7_method_10_code 34 = .ok (.iload_n 2, 1) := by decide +kernel
theorem d_Pr_writeNumber_35 : decode prog_7_method_10_code 35 = .ok (.bipush 10, 2) := by decide +kernel
theorem d_Pr_writeNumber_37 : decode prog_7_method_10_code 37 = .ok (.idiv, 1) := by decide +kernel
theorem d_Pr_writeNumber_38 : decode prog_7_method_10_code 38 = .ok (.bipush 10, 2) := by decide +kernel
theorem d_Pr_writeNumber_40 : decode prog_7_method_10_code 40 = .ok (.irem, 1) := by decide +kernel
theorem d_Pr_writeNumber_41 : decode prog_7_method_10_code 41 = .ok (.iadd, 1) := by decide +kernel
theorem d_Pr_writeNumber_42 : decode prog_7_method_10_code 42 = .ok (.invokevirtual 90, 3) := by decide +kernel
theorem d_Pr_writeNumber_45 : decode prog_7_method_10_code 45 = .ok (.aload_n 0, 1) := by decide +kernel
theorem d_Pr_writeNumber_46 : decode prog_7_method_10_code 46 = .ok (.bipush 48, 2) := by decide +kernel
theorem d_Pr_writeNumber_48 : decode prog_7_method_10_code 48 = .ok (.iload_n 2, 1) := by decide +kernel
theorem d_Pr_writeNumber_49 : decode prog_7_method_10_code 49 = .ok (.bipush 10, 2) := by decide +kernel
theorem d_Pr_writeNumber_51 : decode prog_7_method_10_code 51 = .ok (.irem, 1) := by decide +kernel
theorem d_Pr_writeNumber_52 : decode prog_7_method_10_code 52 = .ok (.iadd, 1) := by decide +kernel
theorem d_Pr_writeNumber_53 : decode prog_7_method_10_code 53 = .ok (.invokevirtual 90, 3) := by decide +kernel
theorem d_Pr_writeNumber_56 : decode prog_7_method_10_code 56 = .ok (.return_, 1) := by decide +kernel
def B_Pr_writeNumber_45  (x0 : Nat) (x2 : Int32) (S : gS) : Option gS := Option.bind (gOb S x0 6) (fun fs2 => Option.bind (D_Pr_write x0 (48 + (x2 - x2 / 10 * 10)) S) (fun S1 => some S1))
set_option maxRecDepth 100000 in
set_option maxHeartbeats 4000000 in
theorem w_Pr_writeNumber_45 {D : va_G} {cT : Nat → ClassId} {H0 : Heap} {l : Launch} {p : Program} {e : Env} {s : State} {m : MethodId} {args : Array Value} {below : List Frame} {meth : Method} {c : Code} {S0 : gS} {S' : gS} (Y : gY D cT H0 p s m args meth c prog_7_method_10_code 3 "PlanText$Printer" 1 21 S0 (Option.none : Option Jvm.ClassFile.FieldType))  (x0 : Nat) (x2 : Int32) (S : gS) (hden : B_Pr_writeNumber_45  x0 x2 S = some S') {ls : Array Slot} (hl : lv_has ls 3 [(0, va_rf (some x0)), (2, .int x2)]) : gV D cT H0 p l e (gRm 1 21 S0) s m args below meth c (gQ D cT H0 below S0 S' (.inr none) s) S0 S (F0 m 45 ls []) := by
  obtain ⟨X, hZ, hex, hr, hE⟩ := id Y
  have hx := X.1
  have hb := X.2.1
  unfold B_Pr_writeNumber_45 at hden
  refine gV.lift (fun _ _ _ _ => g_aload_n hx hb d_Pr_writeNumber_45 rfl (lv_at hl 0 rfl)) ?_
  refine gV.lift (fun _ _ _ _ => lv_bipush (v := 48) hx hb d_Pr_writeNumber_46 (by decide)) ?_
  refine gV.lift (fun _ _ _ _ => lv_iload_n hx hb d_Pr_writeNumber_48 rfl (lv_at hl 1 rfl)) ?_
  refine gV.lift (fun _ _ _ _ => lv_bipush (v := 10) hx hb d_Pr_writeNumber_49 (by decide)) ?_
  refine gV.lift (fun _ _ _ _ => lv_irem hx hb d_Pr_writeNumber_51 (by decide)) ?_
  refine gV.lift (fun _ _ _ _ => lv_iadd hx hb d_Pr_writeNumber_52) ?_
  replace hden := gb hden
  obtain ⟨fs2, ho, hden⟩ := hden
  replace hden := gb hden
  obtain ⟨S1, hz, hden⟩ := hden
  refine g_callV (As := [.int (48 + (x2 - x2 / 10 * 10))]) (rest := []) X hZ (c_Pr_write hz) cl_Pr (gOb_spec ho) q_716 q_4 q_713 q_715 qp_20 ⟨by decide, by decide, by show _ = some 1; decide +kernel⟩ ⟨by decide, by decide⟩ hl.1 (Nat.le_of_ble_eq_true rfl) d_Pr_writeNumber_53 rfl rfl ?_
  obtain rfl := gsi hden
  exact g_vret X hr d_Pr_writeNumber_56
def B_Pr_writeNumber_25  (x0 : Nat) (x2 : Int32) (S : gS) : Option gS := (if x2 < 10 then B_Pr_writeNumber_45  x0 x2 S else Option.bind (gOb S x0 6) (fun fs3 => Option.bind (D_Pr_write x0 (48 + ((x2 / 10) - (x2 / 10) / 10 * 10)) S) (fun S2 => B_Pr_writeNumber_45  x0 x2 S2)))
set_option maxRecDepth 100000 in
set_option maxHeartbeats 4000000 in
theorem w_Pr_writeNumber_25 {D : va_G} {cT : Nat → ClassId} {H0 : Heap} {l : Launch} {p : Program} {e : Env} {s : State} {m : MethodId} {args : Array Value} {below : List Frame} {meth : Method} {c : Code} {S0 : gS} {S' : gS} (Y : gY D cT H0 p s m args meth c prog_7_method_10_code 3 "PlanText$Printer" 1 21 S0 (Option.none : Option Jvm.ClassFile.FieldType))  (x0 : Nat) (x2 : Int32) (S : gS) (hden : B_Pr_writeNumber_25  x0 x2 S = some S') {ls : Array Slot} (hl : lv_has ls 3 [(0, va_rf (some x0)), (2, .int x2)]) : gV D cT H0 p l e (gRm 1 21 S0) s m args below meth c (gQ D cT H0 below S0 S' (.inr none) s) S0 S (F0 m 25 ls []) := by
  obtain ⟨X, hZ, hex, hr, hE⟩ := id Y
  have hx := X.1
  have hb := X.2.1
  unfold B_Pr_writeNumber_25 at hden
  refine gV.lift (fun _ _ _ _ => lv_iload_n hx hb d_Pr_writeNumber_25 rfl (lv_at hl 1 rfl)) ?_
  refine gV.lift (fun _ _ _ _ => lv_bipush (v := 10) hx hb d_Pr_writeNumber_26 (by decide)) ?_
  refine gV.lift2 (fun _ _ _ _ => lv_icmp_lt (tgt := 45) hx hb d_Pr_writeNumber_28 (by decide)) (fun hc1 => ?_) (fun hc1 => ?_)
  · replace hden := gip hc1 hden
    exact w_Pr_writeNumber_45 Y  x0 x2 S hden (lv_sub hl [0, 1] rfl)
  · replace hden := gin hc1 hden
    refine gV.lift (fun _ _ _ _ => g_aload_n hx hb d_Pr_writeNumber_31 rfl (lv_at hl 0 rfl)) ?_
    refine gV.lift (fun _ _ _ _ => lv_bipush (v := 48) hx hb d_Pr_writeNumber_32 (by decide)) ?_
    refine gV.lift (fun _ _ _ _ => lv_iload_n hx hb d_Pr_writeNumber_34 rfl (lv_at hl 1 rfl)) ?_
    refine gV.lift (fun _ _ _ _ => lv_bipush (v := 10) hx hb d_Pr_writeNumber_35 (by decide)) ?_
    refine gV.lift (fun _ _ _ _ => lv_idiv hx hb d_Pr_writeNumber_37 (by decide)) ?_
    refine gV.lift (fun _ _ _ _ => lv_bipush (v := 10) hx hb d_Pr_writeNumber_38 (by decide)) ?_
    refine gV.lift (fun _ _ _ _ => lv_irem hx hb d_Pr_writeNumber_40 (by decide)) ?_
    refine gV.lift (fun _ _ _ _ => lv_iadd hx hb d_Pr_writeNumber_41) ?_
    replace hden := gb hden
    obtain ⟨fs3, ho, hden⟩ := hden
    replace hden := gb hden
    obtain ⟨S2, hz, hden⟩ := hden
    refine g_callV (As := [.int (48 + ((x2 / 10) - (x2 / 10) / 10 * 10))]) (rest := []) X hZ (c_Pr_write hz) cl_Pr (gOb_spec ho) q_716 q_4 q_713 q_715 qp_20 ⟨by decide, by decide, by show _ = some 1; decide +kernel⟩ ⟨by decide, by decide⟩ hl.1 (Nat.le_of_ble_eq_true rfl) d_Pr_writeNumber_42 rfl rfl ?_
    exact w_Pr_writeNumber_45 Y  x0 x2 S2 hden (lv_sub hl [0, 1] rfl)
def D_Pr_writeNumber (h0 : Nat) (p0 : Int32) (p1 : Int32) (S : gS) : Option gS := Option.bind (gOb S h0 6) (fun fs2 => Option.bind (D_Pr_write h0 p0 S) (fun S1 => (if p1 < 100 then B_Pr_writeNumber_25  h0 p1 S1 else Option.bind (gOb S1 h0 6) (fun fs5 => Option.bind (D_Pr_write h0 (48 + ((p1 / 100) - (p1 / 100) / 10 * 10)) S1) (fun S4 => B_Pr_writeNumber_25  h0 p1 S4)))))
set_option maxRecDepth 100000 in
set_option maxHeartbeats 4000000 in
theorem c_Pr_writeNumber {D : va_G} {cT : Nat → ClassId} {H0 : Heap} {l : Launch} {S : gS} {S' : gS} {h0 : Nat} {p0 : Int32} {p1 : Int32} (hden : D_Pr_writeNumber h0 p0 p1 S = some S') : gM D cT H0 l y_Pr_writeNumber (Cond.code y_Pr_writeNumber prog_7_method_10_code 3 (Option.none : Option Jvm.ClassFile.FieldType)) 1 21 [va_rf (some h0), .int p0, .int p1] S S' (.inr none) := by
  refine gM.ofV (by decide) ?_
  intro p e s m args below meth c s₁ B hml ea X hZ hex hr hE
  subst ea
  have Y : gY D cT H0 p s m _ meth c prog_7_method_10_code 3 "PlanText$Printer" 1 21 S (Option.none : Option Jvm.ClassFile.FieldType) := ⟨X, hZ, hex, hr, hE⟩
  have hx := X.1
  have hb := X.2.1
  have hl := lv_entry ([va_rf (some h0), .int p0, .int p1]) (n := 3) (Nat.le_of_ble_eq_true rfl)
  rw [lg_entry_eq]
  generalize (lg_sl ([va_rf (some h0), .int p0, .int p1]) ++ List.replicate (3 - (lg_sl ([va_rf (some h0), .int p0, .int p1])).length) Slot.unset).toArray = ls at hl ⊢
  have hl : lv_has ls 3 [(0, va_rf (some h0)), (1, .int p0), (2, .int p1)] := hl
  unfold D_Pr_writeNumber at hden
  refine gV.lift (fun _ _ _ _ => g_aload_n hx hb d_Pr_writeNumber_0 rfl (lv_at hl 0 rfl)) ?_
  refine gV.lift (fun _ _ _ _ => lv_iload_n hx hb d_Pr_writeNumber_1 rfl (lv_at hl 1 rfl)) ?_
  replace hden := gb hden
  obtain ⟨fs2, ho, hden⟩ := hden
  replace hden := gb hden
  obtain ⟨S1, hz, hden⟩ := hden
  refine g_callV (As := [.int p0]) (rest := []) X hZ (c_Pr_write hz) cl_Pr (gOb_spec ho) q_716 q_4 q_713 q_715 qp_20 ⟨by decide, by decide, by show _ = some 1; decide +kernel⟩ ⟨by decide, by decide⟩ hl.1 (Nat.le_of_ble_eq_true rfl) d_Pr_writeNumber_2 rfl rfl ?_
  refine gV.lift (fun _ _ _ _ => lv_iload_n hx hb d_Pr_writeNumber_5 rfl (lv_at hl 2 rfl)) ?_
  refine gV.lift (fun _ _ _ _ => lv_bipush (v := 100) hx hb d_Pr_writeNumber_6 (by decide)) ?_
  refine gV.lift2 (fun _ _ _ _ => lv_icmp_lt (tgt := 25) hx hb d_Pr_writeNumber_8 (by decide)) (fun hc3 => ?_) (fun hc3 => ?_)
  · replace hden := gip hc3 hden
    exact w_Pr_writeNumber_25 Y  h0 p1 S1 hden (lv_sub hl [0, 2] rfl)
  · replace hden := gin hc3 hden
    refine gV.lift (fun _ _ _ _ => g_aload_n hx hb d_Pr_writeNumber_11 rfl (lv_at hl 0 rfl)) ?_
    refine gV.lift (fun _ _ _ _ => lv_bipush (v := 48) hx hb d_Pr_writeNumber_12 (by decide)) ?_
    refine gV.lift (fun _ _ _ _ => lv_iload_n hx hb d_Pr_writeNumber_14 rfl (lv_at hl 2 rfl)) ?_
    refine gV.lift (fun _ _ _ _ => lv_bipush (v := 100) hx hb d_Pr_writeNumber_15 (by decide)) ?_
    refine gV.lift (fun _ _ _ _ => lv_idiv hx hb d_Pr_writeNumber_17 (by decide)) ?_
    refine gV.lift (fun _ _ _ _ => lv_bipush (v := 10) hx hb d_Pr_writeNumber_18 (by decide)) ?_
    refine gV.lift (fun _ _ _ _ => lv_irem hx hb d_Pr_writeNumber_20 (by decide)) ?_
    refine gV.lift (fun _ _ _ _ => lv_iadd hx hb d_Pr_writeNumber_21) ?_
    replace hden := gb hden
    obtain ⟨fs5, ho, hden⟩ := hden
    replace hden := gb hden
    obtain ⟨S4, hz, hden⟩ := hden
    refine g_callV (As := [.int (48 + ((p1 / 100) - (p1 / 100) / 10 * 10))]) (rest := []) X hZ (c_Pr_write hz) cl_Pr (gOb_spec ho) q_716 q_4 q_713 q_715 qp_20 ⟨by decide, by decide, by show _ = some 1; decide +kernel⟩ ⟨by decide, by decide⟩ hl.1 (Nat.le_of_ble_eq_true rfl) d_Pr_writeNumber_22 rfl rfl ?_
    exact w_Pr_writeNumber_25 Y  h0 p1 S4 hden (lv_sub hl [0, 2] rfl)
/-! PlanText$Printer.writeHours(LPlanText$Hours;)V -/
abbrev y_Pr_writeHours : MethodName := ⟨"PlanText$Printer", "writeHours", "(LPlanText$Hours;)V"⟩
theorem d_Pr_writeHours_0 : decode prog_7_method_6_code 0 = .ok (.aload_n 0, 1) := by decide +kernel
theorem d_Pr_writeHours_1 : decode prog_7_method_6_code 1 = .ok (.bipush 91, 2) := by decide +kernel
theorem d_Pr_writeHours_3 : decode prog_7_method_6_code 3 = .ok (.aload_n 1, 1) := by decide +kernel
theorem d_Pr_writeHours_4 : decode prog_7_method_6_code 4 = .ok (.getfield 116, 3) := by decide +kernel
theorem d_Pr_writeHours_7 : decode prog_7_method_6_code 7 = .ok (.invokevirtual 33, 3) := by decide +kernel
theorem d_Pr_writeHours_10 : decode prog_7_method_6_code 10 = .ok (.aload_n 0, 1) := by decide +kernel
theorem d_Pr_writeHours_11 : decode prog_7_method_6_code 11 = .ok (.bipush 45, 2) := by decide +kernel
theorem d_Pr_writeHours_13 : decode prog_7_method_6_code 13 = .ok (.aload_n 1, 1) := by decide +kernel
theorem d_Pr_writeHours_14 : decode prog_7_method_6_code 14 = .ok (.getfield 119, 3) := by decide +kernel
theorem d_Pr_writeHours_17 : decode prog_7_method_6_code 17 = .ok (.invokevirtual 33, 3) := by decide +kernel
theorem d_Pr_writeHours_20 : decode prog_7_method_6_code 20 = .ok (.return_, 1) := by decide +kernel
def D_Pr_writeHours (h0 : Nat) (p0 : Option Nat) (S : gS) : Option gS := Option.bind p0 (fun a1 => Option.bind (gI S a1 2 1) (fun v2 => Option.bind (gOb S h0 6) (fun fs4 => Option.bind (D_Pr_writeNumber h0 91 v2 S) (fun S3 => Option.bind (gI S3 a1 2 2) (fun v5 => Option.bind (gOb S3 h0 6) (fun fs7 => Option.bind (D_Pr_writeNumber h0 45 v5 S3) (fun S6 => some S6)))))))
set_option maxRecDepth 100000 in
set_option maxHeartbeats 4000000 in
theorem c_Pr_writeHours {D : va_G} {cT : Nat → ClassId} {H0 : Heap} {l : Launch} {S : gS} {S' : gS} {h0 : Nat} {p0 : Option Nat} (hden : D_Pr_writeHours h0 p0 S = some S') : gM D cT H0 l y_Pr_writeHours (Cond.code y_Pr_writeHours prog_7_method_6_code 2 (Option.none : Option Jvm.ClassFile.FieldType)) 2 43 [va_rf (some h0), va_rf p0] S S' (.inr none) := by
  refine gM.ofV (by decide) ?_
  intro p e s m args below meth c s₁ B hml ea X hZ hex hr hE
  subst ea
  have Y : gY D cT H0 p s m _ meth c prog_7_method_6_code 2 "PlanText$Printer" 2 43 S (Option.none : Option Jvm.ClassFile.FieldType) := ⟨X, hZ, hex, hr, hE⟩
  have hx := X.1
  have hb := X.2.1
  have hl := lv_entry ([va_rf (some h0), va_rf p0]) (n := 2) (by cases p0 <;> exact Nat.le_of_ble_eq_true rfl)
  rw [lg_entry_eq]
  generalize (lg_sl ([va_rf (some h0), va_rf p0]) ++ List.replicate (2 - (lg_sl ([va_rf (some h0), va_rf p0])).length) Slot.unset).toArray = ls at hl ⊢
  have hl : lv_has ls 2 [(0, va_rf (some h0)), (1, va_rf p0)] := by cases p0 <;> exact hl
  unfold D_Pr_writeHours at hden
  refine gV.lift (fun _ _ _ _ => g_aload_n hx hb d_Pr_writeHours_0 rfl (lv_at hl 0 rfl)) ?_
  refine gV.lift (fun _ _ _ _ => lv_bipush (v := 91) hx hb d_Pr_writeHours_1 (by decide)) ?_
  refine gV.lift (fun _ _ _ _ => g_aload_n hx hb d_Pr_writeHours_3 rfl (lv_at hl 1 rfl)) ?_
  replace hden := gb hden
  obtain ⟨a1, rfl, hden⟩ := hden
  replace hden := gb hden
  obtain ⟨v2, hv, hden⟩ := hden
  refine r_getI X cl_Hr (k := 1) hv (by decide) q_350 d_Pr_writeHours_4 ?_
  replace hden := gb hden
  obtain ⟨fs4, ho, hden⟩ := hden
  replace hden := gb hden
  obtain ⟨S3, hz, hden⟩ := hden
  refine g_callV (As := [.int 91, .int v2]) (rest := []) X hZ (c_Pr_writeNumber hz) cl_Pr (gOb_spec ho) q_712 q_4 q_709 q_711 qp_19 ⟨by decide, by decide, by show _ = some 2; decide +kernel⟩ ⟨by decide, by decide⟩ hl.1 (Nat.le_of_ble_eq_true rfl) d_Pr_writeHours_7 rfl rfl ?_
  refine gV.lift (fun _ _ _ _ => g_aload_n hx hb d_Pr_writeHours_10 rfl (lv_at hl 0 rfl)) ?_
  refine gV.lift (fun _ _ _ _ => lv_bipush (v := 45) hx hb d_Pr_writeHours_11 (by decide)) ?_
  refine gV.lift (fun _ _ _ _ => g_aload_n hx hb d_Pr_writeHours_13 rfl (lv_at hl 1 rfl)) ?_
  replace hden := gb hden
  obtain ⟨v5, hv, hden⟩ := hden
  refine r_getI X cl_Hr (k := 2) hv (by decide) q_352 d_Pr_writeHours_14 ?_
  replace hden := gb hden
  obtain ⟨fs7, ho, hden⟩ := hden
  replace hden := gb hden
  obtain ⟨S6, hz, hden⟩ := hden
  refine g_callV (As := [.int 45, .int v5]) (rest := []) X hZ (c_Pr_writeNumber hz) cl_Pr (gOb_spec ho) q_712 q_4 q_709 q_711 qp_19 ⟨by decide, by decide, by show _ = some 2; decide +kernel⟩ ⟨by decide, by decide⟩ hl.1 (Nat.le_of_ble_eq_true rfl) d_Pr_writeHours_17 rfl rfl ?_
  obtain rfl := gsi hden
  exact g_vret X hr d_Pr_writeHours_20
/-! PlanText$Printer.writeSkill(I)V -/
abbrev y_Pr_writeSkill : MethodName := ⟨"PlanText$Printer", "writeSkill", "(I)V"⟩
theorem d_Pr_writeSkill_0 : decode prog_7_method_9_code 0 = .ok (.aload_n 0, 1) := by decide +kernel
theorem d_Pr_writeSkill_1 : decode prog_7_method_9_code 1 = .ok (.bipush 97, 2) := by decide +kernel
theorem d_Pr_writeSkill_3 : decode prog_7_method_9_code 3 = .ok (.iload_n 1, 1) := by decide +kernel
theorem d_Pr_writeSkill_4 : decode prog_7_method_9_code 4 = .ok (.iadd, 1) := by decide +kernel
theorem d_Pr_writeSkill_5 : decode prog_7_method_9_code 5 = .ok (.invokevirtual 90, 3) := by decide +kernel
theorem d_Pr_writeSkill_8 : decode prog_7_method_9_code 8 = .ok (.return_, 1) := by decide +kernel
def D_Pr_writeSkill (h0 : Nat) (p0 : Int32) (S : gS) : Option gS := Option.bind (gOb S h0 6) (fun fs2 => Option.bind (D_Pr_write h0 (97 + p0) S) (fun S1 => some S1))
set_option maxRecDepth 100000 in
set_option maxHeartbeats 4000000 in
theorem c_Pr_writeSkill {D : va_G} {cT : Nat → ClassId} {H0 : Heap} {l : Launch} {S : gS} {S' : gS} {h0 : Nat} {p0 : Int32} (hden : D_Pr_writeSkill h0 p0 S = some S') : gM D cT H0 l y_Pr_writeSkill (Cond.code y_Pr_writeSkill prog_7_method_9_code 2 (Option.none : Option Jvm.ClassFile.FieldType)) 1 21 [va_rf (some h0), .int p0] S S' (.inr none) := by
  refine gM.ofV (by decide) ?_
  intro p e s m args below meth c s₁ B hml ea X hZ hex hr hE
  subst ea
  have Y : gY D cT H0 p s m _ meth c prog_7_method_9_code 2 "PlanText$Printer" 1 21 S (Option.none : Option Jvm.ClassFile.FieldType) := ⟨X, hZ, hex, hr, hE⟩
  have hx := X.1
  have hb := X.2.1
  have hl := lv_entry ([va_rf (some h0), .int p0]) (n := 2) (Nat.le_of_ble_eq_true rfl)
  rw [lg_entry_eq]
  generalize (lg_sl ([va_rf (some h0), .int p0]) ++ List.replicate (2 - (lg_sl ([va_rf (some h0), .int p0])).length) Slot.unset).toArray = ls at hl ⊢
  have hl : lv_has ls 2 [(0, va_rf (some h0)), (1, .int p0)] := hl
  unfold D_Pr_writeSkill at hden
  refine gV.lift (fun _ _ _ _ => g_aload_n hx hb d_Pr_writeSkill_0 rfl (lv_at hl 0 rfl)) ?_
  refine gV.lift (fun _ _ _ _ => lv_bipush (v := 97) hx hb d_Pr_writeSkill_1 (by decide)) ?_
  refine gV.lift (fun _ _ _ _ => lv_iload_n hx hb d_Pr_writeSkill_3 rfl (lv_at hl 1 rfl)) ?_
  refine gV.lift (fun _ _ _ _ => lv_iadd hx hb d_Pr_writeSkill_4) ?_
  replace hden := gb hden
  obtain ⟨fs2, ho, hden⟩ := hden
  replace hden := gb hden
  obtain ⟨S1, hz, hden⟩ := hden
  refine g_callV (As := [.int (97 + p0)]) (rest := []) X hZ (c_Pr_write hz) cl_Pr (gOb_spec ho) q_716 q_4 q_713 q_715 qp_20 ⟨by decide, by decide, by show _ = some 1; decide +kernel⟩ ⟨by decide, by decide⟩ hl.1 (Nat.le_of_ble_eq_true rfl) d_Pr_writeSkill_5 rfl rfl ?_
  obtain rfl := gsi hden
  exact g_vret X hr d_Pr_writeSkill_8
/-! PlanText$Printer.writeNeed(LPlanText$Need;)V -/
abbrev y_Pr_writeNeed : MethodName := ⟨"PlanText$Printer", "writeNeed", "(LPlanText$Need;)V"⟩
theorem d_Pr_writeNeed_0 : decode prog_7_method_8_code 0 = .ok (.aload_n 0, 1) := by decide +kernel
theorem d_Pr_writeNeed_1 : decode prog_7_method_8_code 1 = .ok (.aload_n 1, 1) := by decide +kernel
theorem d_Pr_writeNeed_2 : decode prog_7_method_8_code 2 = .ok (.getfield 135, 3) := by decide +kernel
theorem d_Pr_writeNeed_5 : decode prog_7_method_8_code 5 = .ok (.invokevirtual 113, 3) := by decide +kernel
theorem d_Pr_writeNeed_8 : decode prog_7_method_8_code 8 = .ok (.aload_n 1, 1) := by decide +kernel
theorem d_Pr_writeNeed_9 : decode prog_7_method_8_code 9 = .ok (.getfield 136, 3) := by decide +kernel
theorem d_Pr_writeNeed_12 : decode prog_7_method_8_code 12 = .ok (.iconst (-1), 1) := by decide +kernel
theorem d_Pr_writeNeed_13 : decode prog_7_method_8_code 13 = .ok (.if_icmp .eq 17, 3) := by decide +kernel
theorem d_Pr_writeNeed_16 : decode prog_7_method_8_code 16 = .ok (.aload_n 0, 1) := by decide +kernel
theorem d_Pr_writeNeed_17 : decode prog_7_method_8_code 17 = .ok (.bipush 47, 2) := by decide +kernel
theorem d_Pr_writeNeed_19 : decode prog_7_method_8_code 19 = .ok (.invokevirtual 90, 3) := by decide +kernel
theorem d_Pr_writeNeed_22 : decode prog_7_method_8_code 22 = .ok (.aload_n 0, 1) := by decide +kernel
theorem d_Pr_writeNeed_23 : decode prog_7_method_8_code 23 = .ok (.aload_n 1, 1) := by decide +kernel
theorem d_Pr_writeNeed_24 : decode prog_7_method_8_code 24 = .ok (.getfield 136, 3) := by decide +kernel
theorem d_Pr_writeNeed_27 : decode prog_7_method_8_code 27 = .ok (.invokevirtual 113, 3) := by decide +kernel
theorem d_Pr_writeNeed_30 : decode prog_7_method_8_code 30 = .ok (.aload_n 1, 1) := by decide +kernel
theorem d_Pr_writeNeed_31 : decode prog_7_method_8_code 31 = .ok (.getfield 139, 3) := by decide +kernel
theorem d_Pr_writeNeed_34 : decode prog_7_method_8_code 34 = .ok (.iconst (-1), 1) := by decide +kernel
theorem d_Pr_writeNeed_35 : decode prog_7_method_8_code 35 = .ok (.if_icmp .eq 17, 3) := by decide +kernel
theorem d_Pr_writeNeed_38 : decode prog_7_method_8_code 38 = .ok (.aload_n 0, 1) := by decide +kernel
theorem d_Pr_writeNeed_39 : decode prog_7_method_8_code 39 = .ok (.bipush 47, 2) := by decide +kernel
theorem d_Pr_writeNeed_41 : decode prog_7_method_8_code 41 = .ok (.invokevirtual 90, 3) := by decide +kernel
theorem d_Pr_writeNeed_44 : decode prog_7_method_8_code 44 = .ok (.aload_n 0, 1) := by decide +kernel
theorem d_Pr_writeNeed_45 : decode prog_7_method_8_code 45 = .ok (.aload_n 1, 1) := by decide +kernel
theorem d_Pr_writeNeed_46 : decode prog_7_method_8_code 46 = .ok (.getfield 139, 3) := by decide +kernel
theorem d_Pr_writeNeed_49 : decode prog_7_method_8_code 49 = .ok (.invokevirtual 113, 3) := by decide +kernel
theorem d_Pr_writeNeed_52 : decode prog_7_method_8_code 52 = .ok (.aload_n 1, 1) := by decide +kernel
theorem d_Pr_writeNeed_53 : decode prog_7_method_8_code 53 = .ok (.getfield 142, 3) := by decide +kernel
theorem d_Pr_writeNeed_56 : decode prog_7_method_8_code 56 = .ok (.iconst (-1), 1) := by decide +kernel
theorem d_Pr_writeNeed_57 : decode prog_7_method_8_code 57 = .ok (.if_icmp .eq 13, 3) := by decide +kernel
theorem d_Pr_writeNeed_60 : decode prog_7_method_8_code 60 = .ok (.aload_n 0, 1) := by decide +kernel
theorem d_Pr_writeNeed_61 : decode prog_7_method_8_code 61 = .ok (.bipush 126, 2) := by decide +kernel
theorem d_Pr_writeNeed_63 : decode prog_7_method_8_code 63 = .ok (.aload_n 1, 1) := by decide +kernel
theorem d_Pr_writeNeed_64 : decode prog_7_method_8_code 64 = .ok (.getfield 142, 3) := by decide +kernel
theorem d_Pr_writeNeed_67 : decode prog_7_method_8_code 67 = .ok (.invokevirtual 33, 3) := by decide +kernel
theorem d_Pr_writeNeed_70 : decode prog_7_method_8_code 70 = .ok (.return_, 1) := by decide +kernel
def B_Pr_writeNeed_70   (S : gS) : Option gS := some S
set_option maxRecDepth 100000 in
set_option maxHeartbeats 4000000 in
theorem w_Pr_writeNeed_70 {D : va_G} {cT : Nat → ClassId} {H0 : Heap} {l : Launch} {p : Program} {e : Env} {s : State} {m : MethodId} {args : Array Value} {below : List Frame} {meth : Method} {c : Code} {S0 : gS} {S' : gS} (Y : gY D cT H0 p s m args meth c prog_7_method_8_code 2 "PlanText$Printer" 2 43 S0 (Option.none : Option Jvm.ClassFile.FieldType))   (S : gS) (hden : B_Pr_writeNeed_70   S = some S') {ls : Array Slot} (hl : lv_has ls 2 []) : gV D cT H0 p l e (gRm 2 43 S0) s m args below meth c (gQ D cT H0 below S0 S' (.inr none) s) S0 S (F0 m 70 ls []) := by
  obtain ⟨X, hZ, hex, hr, hE⟩ := id Y
  have hx := X.1
  have hb := X.2.1
  unfold B_Pr_writeNeed_70 at hden
  obtain rfl := gsi hden
  exact g_vret X hr d_Pr_writeNeed_70
def B_Pr_writeNeed_52  (x0 : Nat) (x1 : Option Nat) (S : gS) : Option gS := Option.bind x1 (fun a1 => Option.bind (gI S a1 3 4) (fun v2 => (if v2 = (-1) then B_Pr_writeNeed_70  S else Option.bind (gI S a1 3 4) (fun v4 => Option.bind (gOb S x0 6) (fun fs6 => Option.bind (D_Pr_writeNumber x0 126 v4 S) (fun S5 => B_Pr_writeNeed_70  S5))))))
set_option maxRecDepth 100000 in
set_option maxHeartbeats 4000000 in
theorem w_Pr_writeNeed_52 {D : va_G} {cT : Nat → ClassId} {H0 : Heap} {l : Launch} {p : Program} {e : Env} {s : State} {m : MethodId} {args : Array Value} {below : List Frame} {meth : Method} {c : Code} {S0 : gS} {S' : gS} (Y : gY D cT H0 p s m args meth c prog_7_method_8_code 2 "PlanText$Printer" 2 43 S0 (Option.none : Option Jvm.ClassFile.FieldType))  (x0 : Nat) (x1 : Option Nat) (S : gS) (hden : B_Pr_writeNeed_52  x0 x1 S = some S') {ls : Array Slot} (hl : lv_has ls 2 [(0, va_rf (some x0)), (1, va_rf x1)]) : gV D cT H0 p l e (gRm 2 43 S0) s m args below meth c (gQ D cT H0 below S0 S' (.inr none) s) S0 S (F0 m 52 ls []) := by
  obtain ⟨X, hZ, hex, hr, hE⟩ := id Y
  have hx := X.1
  have hb := X.2.1
  unfold B_Pr_writeNeed_52 at hden
  refine gV.lift (fun _ _ _ _ => g_aload_n hx hb d_Pr_writeNeed_52 rfl (lv_at hl 1 rfl)) ?_
  replace hden := gb hden
  obtain ⟨a1, rfl, hden⟩ := hden
  replace hden := gb hden
  obtain ⟨v2, hv, hden⟩ := hden
  refine r_getI X cl_Nd (k := 4) hv (by decide) q_401 d_Pr_writeNeed_53 ?_
  refine gV.lift (fun _ _ _ _ => lv_iconst (v := (-1)) hx hb d_Pr_writeNeed_56 (by decide)) ?_
  refine gV.lift2 (fun _ _ _ _ => lv_icmp_eq (tgt := 70) hx hb d_Pr_writeNeed_57 (by decide)) (fun hc3 => ?_) (fun hc3 => ?_)
  · replace hden := gip hc3 hden
    exact w_Pr_writeNeed_70 Y  S hden (lv_sub hl [] rfl)
  · replace hden := gin hc3 hden
    refine gV.lift (fun _ _ _ _ => g_aload_n hx hb d_Pr_writeNeed_60 rfl (lv_at hl 0 rfl)) ?_
    refine gV.lift (fun _ _ _ _ => lv_bipush (v := 126) hx hb d_Pr_writeNeed_61 (by decide)) ?_
    refine gV.lift (fun _ _ _ _ => g_aload_n hx hb d_Pr_writeNeed_63 rfl (lv_at hl 1 rfl)) ?_
    replace hden := gb hden
    obtain ⟨v4, hv, hden⟩ := hden
    refine r_getI X cl_Nd (k := 4) hv (by decide) q_401 d_Pr_writeNeed_64 ?_
    replace hden := gb hden
    obtain ⟨fs6, ho, hden⟩ := hden
    replace hden := gb hden
    obtain ⟨S5, hz, hden⟩ := hden
    refine g_callV (As := [.int 126, .int v4]) (rest := []) X hZ (c_Pr_writeNumber hz) cl_Pr (gOb_spec ho) q_712 q_4 q_709 q_711 qp_19 ⟨by decide, by decide, by show _ = some 2; decide +kernel⟩ ⟨by decide, by decide⟩ hl.1 (Nat.le_of_ble_eq_true rfl) d_Pr_writeNeed_67 rfl rfl ?_
    exact w_Pr_writeNeed_70 Y  S5 hden (lv_sub hl [] rfl)
def B_Pr_writeNeed_30  (x0 : Nat) (x1 : Option Nat) (S : gS) : Option gS := Option.bind x1 (fun a1 => Option.bind (gI S a1 3 3) (fun v2 => (if v2 = (-1) then B_Pr_writeNeed_52  x0 (some a1) S else Option.bind (gOb S x0 6) (fun fs5 => Option.bind (D_Pr_write x0 47 S) (fun S4 => Option.bind (gI S4 a1 3 3) (fun v6 => Option.bind (gOb S4 x0 6) (fun fs8 => Option.bind (D_Pr_writeSkill x0 v6 S4) (fun S7 => B_Pr_writeNeed_52  x0 (some a1) S7))))))))
set_option maxRecDepth 100000 in
set_option maxHeartbeats 4000000 in
theorem w_Pr_writeNeed_30 {D : va_G} {cT : Nat → ClassId} {H0 : Heap} {l : Launch} {p : Program} {e : Env} {s : State} {m : MethodId} {args : Array Value} {below : List Frame} {meth : Method} {c : Code} {S0 : gS} {S' : gS} (Y : gY D cT H0 p s m args meth c prog_7_method_8_code 2 "PlanText$Printer" 2 43 S0 (Option.none : Option Jvm.ClassFile.FieldType))  (x0 : Nat) (x1 : Option Nat) (S : gS) (hden : B_Pr_writeNeed_30  x0 x1 S = some S') {ls : Array Slot} (hl : lv_has ls 2 [(0, va_rf (some x0)), (1, va_rf x1)]) : gV D cT H0 p l e (gRm 2 43 S0) s m args below meth c (gQ D cT H0 below S0 S' (.inr none) s) S0 S (F0 m 30 ls []) := by
  obtain ⟨X, hZ, hex, hr, hE⟩ := id Y
  have hx := X.1
  have hb := X.2.1
  unfold B_Pr_writeNeed_30 at hden
  refine gV.lift (fun _ _ _ _ => g_aload_n hx hb d_Pr_writeNeed_30 rfl (lv_at hl 1 rfl)) ?_
  replace hden := gb hden
  obtain ⟨a1, rfl, hden⟩ := hden
  replace hden := gb hden
  obtain ⟨v2, hv, hden⟩ := hden
  refine r_getI X cl_Nd (k := 3) hv (by decide) q_398 d_Pr_writeNeed_31 ?_
  refine gV.lift (fun _ _ _ _ => lv_iconst (v := (-1)) hx hb d_Pr_writeNeed_34 (by decide)) ?_
  refine gV.lift2 (fun _ _ _ _ => lv_icmp_eq (tgt := 52) hx hb d_Pr_writeNeed_35 (by decide)) (fun hc3 => ?_) (fun hc3 => ?_)
  · replace hden := gip hc3 hden
    exact w_Pr_writeNeed_52 Y  x0 (some a1) S hden (lv_sub hl [0, 1] rfl)
  · replace hden := gin hc3 hden
    refine gV.lift (fun _ _ _ _ => g_aload_n hx hb d_Pr_writeNeed_38 rfl (lv_at hl 0 rfl)) ?_
    refine gV.lift (fun _ _ _ _ => lv_bipush (v := 47) hx hb d_Pr_writeNeed_39 (by decide)) ?_
    replace hden := gb hden
    obtain ⟨fs5, ho, hden⟩ := hden
    replace hden := gb hden
    obtain ⟨S4, hz, hden⟩ := hden
    refine g_callV (As := [.int 47]) (rest := []) X hZ (c_Pr_write hz) cl_Pr (gOb_spec ho) q_716 q_4 q_713 q_715 qp_20 ⟨by decide, by decide, by show _ = some 1; decide +kernel⟩ ⟨by decide, by decide⟩ hl.1 (Nat.le_of_ble_eq_true rfl) d_Pr_writeNeed_41 rfl rfl ?_
    refine gV.lift (fun _ _ _ _ => g_aload_n hx hb d_Pr_writeNeed_44 rfl (lv_at hl 0 rfl)) ?_
    refine gV.lift (fun _ _ _ _ => g_aload_n hx hb d_Pr_writeNeed_45 rfl (lv_at hl 1 rfl)) ?_
    replace hden := gb hden
    obtain ⟨v6, hv, hden⟩ := hden
    refine r_getI X cl_Nd (k := 3) hv (by decide) q_398 d_Pr_writeNeed_46 ?_
    replace hden := gb hden
    obtain ⟨fs8, ho, hden⟩ := hden
    replace hden := gb hden
    obtain ⟨S7, hz, hden⟩ := hden
    refine g_callV (As := [.int v6]) (rest := []) X hZ (c_Pr_writeSkill hz) cl_Pr (gOb_spec ho) q_734 q_4 q_731 q_733 qp_24 ⟨by decide, by decide, by show _ = some 1; decide +kernel⟩ ⟨by decide, by decide⟩ hl.1 (Nat.le_of_ble_eq_true rfl) d_Pr_writeNeed_49 rfl rfl ?_
    exact w_Pr_writeNeed_52 Y  x0 (some a1) S7 hden (lv_sub hl [0, 1] rfl)
def D_Pr_writeNeed (h0 : Nat) (p0 : Option Nat) (S : gS) : Option gS := Option.bind p0 (fun a1 => Option.bind (gI S a1 3 1) (fun v2 => Option.bind (gOb S h0 6) (fun fs4 => Option.bind (D_Pr_writeSkill h0 v2 S) (fun S3 => Option.bind (gI S3 a1 3 2) (fun v5 => (if v5 = (-1) then B_Pr_writeNeed_30  h0 (some a1) S3 else Option.bind (gOb S3 h0 6) (fun fs8 => Option.bind (D_Pr_write h0 47 S3) (fun S7 => Option.bind (gI S7 a1 3 2) (fun v9 => Option.bind (gOb S7 h0 6) (fun fs11 => Option.bind (D_Pr_writeSkill h0 v9 S7) (fun S10 => B_Pr_writeNeed_30  h0 (some a1) S10)))))))))))
set_option maxRecDepth 100000 in
set_option maxHeartbeats 4000000 in
theorem c_Pr_writeNeed {D : va_G} {cT : Nat → ClassId} {H0 : Heap} {l : Launch} {S : gS} {S' : gS} {h0 : Nat} {p0 : Option Nat} (hden : D_Pr_writeNeed h0 p0 S = some S') : gM D cT H0 l y_Pr_writeNeed (Cond.code y_Pr_writeNeed prog_7_method_8_code 2 (Option.none : Option Jvm.ClassFile.FieldType)) 2 43 [va_rf (some h0), va_rf p0] S S' (.inr none) := by
  refine gM.ofV (by decide) ?_
  intro p e s m args below meth c s₁ B hml ea X hZ hex hr hE
  subst ea
  have Y : gY D cT H0 p s m _ meth c prog_7_method_8_code 2 "PlanText$Printer" 2 43 S (Option.none : Option Jvm.ClassFile.FieldType) := ⟨X, hZ, hex, hr, hE⟩
  have hx := X.1
  have hb := X.2.1
  have hl := lv_entry ([va_rf (some h0), va_rf p0]) (n := 2) (by cases p0 <;> exact Nat.le_of_ble_eq_true rfl)
  rw [lg_entry_eq]
  generalize (lg_sl ([va_rf (some h0), va_rf p0]) ++ List.replicate (2 - (lg_sl ([va_rf (some h0), va_rf p0])).length) Slot.unset).toArray = ls at hl ⊢
  have hl : lv_has ls 2 [(0, va_rf (some h0)), (1, va_rf p0)] := by cases p0 <;> exact hl
  unfold D_Pr_writeNeed at hden
  refine gV.lift (fun _ _ _ _ => g_aload_n hx hb d_Pr_writeNeed_0 rfl (lv_at hl 0 rfl)) ?_
  refine gV.lift (fun _ _ _ _ => g_aload_n hx hb d_Pr_writeNeed_1 rfl (lv_at hl 1 rfl)) ?_
  replace hden := gb hden
  obtain ⟨a1, rfl, hden⟩ := hden
  replace hden := gb hden
  obtain ⟨v2, hv, hden⟩ := hden
  refine r_getI X cl_Nd (k := 1) hv (by decide) q_392 d_Pr_writeNeed_2 ?_
  replace hden := gb hden
  obtain ⟨fs4, ho, hden⟩ := hden
  replace hden := gb hden
  obtain ⟨S3, hz, hden⟩ := hden
  refine g_callV (As := [.int v2]) (rest := []) X hZ (c_Pr_writeSkill hz) cl_Pr (gOb_spec ho) q_734 q_4 q_731 q_733 qp_24 ⟨by decide, by decide, by show _ = some 1; decide +kernel⟩ ⟨by decide, by decide⟩ hl.1 (Nat.le_of_ble_eq_true rfl) d_Pr_writeNeed_5 rfl rfl ?_
  refine gV.lift (fun _ _ _ _ => g_aload_n hx hb d_Pr_writeNeed_8 rfl (lv_at hl 1 rfl)) ?_
  replace hden := gb hden
  obtain ⟨v5, hv, hden⟩ := hden
  refine r_getI X cl_Nd (k := 2) hv (by decide) q_395 d_Pr_writeNeed_9 ?_
  refine gV.lift (fun _ _ _ _ => lv_iconst (v := (-1)) hx hb d_Pr_writeNeed_12 (by decide)) ?_
  refine gV.lift2 (fun _ _ _ _ => lv_icmp_eq (tgt := 30) hx hb d_Pr_writeNeed_13 (by decide)) (fun hc6 => ?_) (fun hc6 => ?_)
  · replace hden := gip hc6 hden
    exact w_Pr_writeNeed_30 Y  h0 (some a1) S3 hden (lv_sub hl [0, 1] rfl)
  · replace hden := gin hc6 hden
    refine gV.lift (fun _ _ _ _ => g_aload_n hx hb d_Pr_writeNeed_16 rfl (lv_at hl 0 rfl)) ?_
    refine gV.lift (fun _ _ _ _ => lv_bipush (v := 47) hx hb d_Pr_writeNeed_17 (by decide)) ?_
    replace hden := gb hden
    obtain ⟨fs8, ho, hden⟩ := hden
    replace hden := gb hden
    obtain ⟨S7, hz, hden⟩ := hden
    refine g_callV (As := [.int 47]) (rest := []) X hZ (c_Pr_write hz) cl_Pr (gOb_spec ho) q_716 q_4 q_713 q_715 qp_20 ⟨by decide, by decide, by show _ = some 1; decide +kernel⟩ ⟨by decide, by decide⟩ hl.1 (Nat.le_of_ble_eq_true rfl) d_Pr_writeNeed_19 rfl rfl ?_
    refine gV.lift (fun _ _ _ _ => g_aload_n hx hb d_Pr_writeNeed_22 rfl (lv_at hl 0 rfl)) ?_
    refine gV.lift (fun _ _ _ _ => g_aload_n hx hb d_Pr_writeNeed_23 rfl (lv_at hl 1 rfl)) ?_
    replace hden := gb hden
    obtain ⟨v9, hv, hden⟩ := hden
    refine r_getI X cl_Nd (k := 2) hv (by decide) q_395 d_Pr_writeNeed_24 ?_
    replace hden := gb hden
    obtain ⟨fs11, ho, hden⟩ := hden
    replace hden := gb hden
    obtain ⟨S10, hz, hden⟩ := hden
    refine g_callV (As := [.int v9]) (rest := []) X hZ (c_Pr_writeSkill hz) cl_Pr (gOb_spec ho) q_734 q_4 q_731 q_733 qp_24 ⟨by decide, by decide, by show _ = some 1; decide +kernel⟩ ⟨by decide, by decide⟩ hl.1 (Nat.le_of_ble_eq_true rfl) d_Pr_writeNeed_27 rfl rfl ?_
    exact w_Pr_writeNeed_30 Y  h0 (some a1) S10 hden (lv_sub hl [0, 1] rfl)
/-! PlanText$Printer.writeNeeds(LPlanText$NeedList;)V -/
abbrev y_Pr_writeNeeds : MethodName := ⟨"PlanText$Printer", "writeNeeds", "(LPlanText$NeedList;)V"⟩
theorem d_Pr_writeNeeds_0 : decode prog_7_method_7_code 0 = .ok (.iconst 0, 1) := by decide +kernel
theorem d_Pr_writeNeeds_1 : decode prog_7_method_7_code 1 = .ok (.istore_n 2, 1) := by decide +kernel
theorem d_Pr_writeNeeds_2 : decode prog_7_method_7_code 2 = .ok (.iload_n 2, 1) := by decide +kernel
theorem d_Pr_writeNeeds_3 : decode prog_7_method_7_code 3 = .ok (.iconst 5, 1) := by decide +kernel
theorem d_Pr_writeNeeds_4 : decode prog_7_method_7_code 4 = .ok (.if_icmp .ge 43, 3) := by decide +kernel
theorem d_Pr_writeNeeds_7 : decode prog_7_method_7_code 7 = .ok (.aload_n 1, 1) := by decide +kernel
theorem d_Pr_writeNeeds_8 : decode prog_7_method_7_code 8 = .ok (.iload_n 2, 1) := by decide +kernel
theorem d_Pr_writeNeeds_9 : decode prog_7_method_7_code 9 = .ok (.invokevirtual 122, 3) := by decide +kernel
theorem d_Pr_writeNeeds_12 : decode prog_7_method_7_code 12 = .ok (.astore_n 3, 1) := by decide +kernel
theorem d_Pr_writeNeeds_13 : decode prog_7_method_7_code 13 = .ok (.aload_n 3, 1) := by decide +kernel
theorem d_Pr_writeNeeds_14 : decode prog_7_method_7_code 14 = .ok (.ifnull 27, 3) := by decide +kernel
theorem d_Pr_writeNeeds_17 : decode prog_7_method_7_code 17 = .ok (.aload_n 0, 1) := by decide +kernel
theorem d_Pr_writeNeeds_18 : decode prog_7_method_7_code 18 = .ok (.iload_n 2, 1) := by decide +kernel
theorem d_Pr_writeNeeds_19 : decode prog_7_method_7_code 19 = .ok (.ifCond .ne 8, 3) := by decide +kernel
theorem d_Pr_writeNeeds_22 : decode prog_7_method_7_code 22 = .ok (.bipush 58, 2) := by decide +kernel
theorem d_Pr_writeNeeds_24 : decode prog_7_method_7_code 24 = .ok (.goto 5, 3) := by decide +kernel
theorem d_Pr_writeNeeds_27 : decode prog_7_method_7_code 27 = .ok (.bipush 44, 2) := by decide +kernel
theorem d_Pr_writeNeeds_29 : decode prog_7_method_7_code 29 = .ok (.aload_n 3, 1) := by decide +kernel
theorem d_Pr_writeNeeds_30 : decode prog_7_method_7_code 30 = .ok (.getfield 128, 3) := by decide +kernel
theorem d_Pr_writeNeeds_33 : decode prog_7_method_7_code 33 = .ok (.invokevirtual 33, 3) := by decide +kernel
theorem d_Pr_writeNeeds_36 : decode prog_7_method_7_code 36 = .ok (.aload_n 0, 1) := by decide +kernel
theorem d_Pr_writeNeeds_37 : decode prog_7_method_7_code 37 = .ok (.aload_n 3, 1) := by decide +kernel
theorem d_Pr_writeNeeds_38 : decode prog_7_method_7_code 38 = .ok (.invokevirtual 131, 3) := by decide +kernel
theorem d_Pr_writeNeeds_41 : decode prog_7_method_7_code 41 = .ok (.iinc 2 1, 3) := by decide +kernel
theorem d_Pr_writeNeeds_44 : decode prog_7_method_7_code 44 = .ok (.goto (-42), 3) := by decide +kernel
theorem d_Pr_writeNeeds_47 : decode prog_7_method_7_code 47 = .ok (.aload_n 0, 1) := by decide +kernel
theorem d_Pr_writeNeeds_48 : decode prog_7_method_7_code 48 = .ok (.bipush 59, 2) := by decide +kernel
theorem d_Pr_writeNeeds_50 : decode prog_7_method_7_code 50 = .ok (.invokevirtual 90, 3) := by decide +kernel
theorem d_Pr_writeNeeds_53 : decode prog_7_method_7_code 53 = .ok (.return_, 1) := by decide +kernel
def B_Pr_writeNeeds_41 (k2 : Nat → Option Nat → Int32 → gS → Option gS) (x0 : Nat) (x1 : Option Nat) (x2 : Int32) (S : gS) : Option gS := k2 x0 x1 (x2 + 1) S
set_option maxRecDepth 100000 in
set_option maxHeartbeats 4000000 in
theorem w_Pr_writeNeeds_41 {D : va_G} {cT : Nat → ClassId} {H0 : Heap} {l : Launch} {p : Program} {e : Env} {s : State} {m : MethodId} {args : Array Value} {below : List Frame} {meth : Method} {c : Code} {S0 : gS} {S' : gS} (Y : gY D cT H0 p s m args meth c prog_7_method_7_code 4 "PlanText$Printer" 3 64 S0 (Option.none : Option Jvm.ClassFile.FieldType)) {k2 : Nat → Option Nat → Int32 → gS → Option gS} (hk2 : ∀ (x0 : Nat) (x1 : Option Nat) (x2 : Int32) (S : gS) (ls : Array Slot), k2 x0 x1 x2 S = some S' → lv_has ls 4 [(0, va_rf (some x0)), (1, va_rf x1), (2, .int x2)] → gV D cT H0 p l e (gRm 3 64 S0) s m args below meth c (gQ D cT H0 below S0 S' (.inr none) s) S0 S (F0 m 2 ls [])) (x0 : Nat) (x1 : Option Nat) (x2 : Int32) (S : gS) (hden : B_Pr_writeNeeds_41 k2 x0 x1 x2 S = some S') {ls : Array Slot} (hl : lv_has ls 4 [(0, va_rf (some x0)), (1, va_rf x1), (2, .int x2)]) : gV D cT H0 p l e (gRm 3 64 S0) s m args below meth c (gQ D cT H0 below S0 S' (.inr none) s) S0 S (F0 m 41 ls []) := by
  obtain ⟨X, hZ, hex, hr, hE⟩ := id Y
  have hx := X.1
  have hb := X.2.1
  unfold B_Pr_writeNeeds_41 at hden
  refine gV.liftS (nL := 4) (lv' := [(2, .int (x2 + 1)), (0, va_rf (some x0)), (1, va_rf x1)]) (fun _ _ _ _ => lv_iinc (v := (x2 + 1)) hx hb d_Pr_writeNeeds_41 hl (k := 2) rfl rfl (by decide) (by cases x1 <;> rfl)) (fun ls hl => ?_)
  refine gV.lift (fun _ _ _ _ => lv_goto (tgt := 2) hx hb d_Pr_writeNeeds_44 (by decide)) ?_
  exact hk2 x0 x1 (x2 + 1) S _ hden (lv_sub hl [1, 2, 0] rfl)
def B_Pr_writeNeeds_29 (k2 : Nat → Option Nat → Int32 → gS → Option gS) (x0 : Nat) (x1 : Option Nat) (x2 : Int32) (x3 : Option Nat) (t0 : Int32) (t1 : Nat) (S : gS) : Option gS := Option.bind x3 (fun a1 => Option.bind (gI S a1 3 0) (fun v2 => Option.bind (gOb S t1 6) (fun fs4 => Option.bind (D_Pr_writeNumber t1 t0 v2 S) (fun S3 => Option.bind (gOb S3 x0 6) (fun fs6 => Option.bind (D_Pr_writeNeed x0 (some a1) S3) (fun S5 => B_Pr_writeNeeds_41 k2 x0 x1 x2 S5))))))
set_option maxRecDepth 100000 in
set_option maxHeartbeats 4000000 in
theorem w_Pr_writeNeeds_29 {D : va_G} {cT : Nat → ClassId} {H0 : Heap} {l : Launch} {p : Program} {e : Env} {s : State} {m : MethodId} {args : Array Value} {below : List Frame} {meth : Method} {c : Code} {S0 : gS} {S' : gS} (Y : gY D cT H0 p s m args meth c prog_7_method_7_code 4 "PlanText$Printer" 3 64 S0 (Option.none : Option Jvm.ClassFile.FieldType)) {k2 : Nat → Option Nat → Int32 → gS → Option gS} (hk2 : ∀ (x0 : Nat) (x1 : Option Nat) (x2 : Int32) (S : gS) (ls : Array Slot), k2 x0 x1 x2 S = some S' → lv_has ls 4 [(0, va_rf (some x0)), (1, va_rf x1), (2, .int x2)] → gV D cT H0 p l e (gRm 3 64 S0) s m args below meth c (gQ D cT H0 below S0 S' (.inr none) s) S0 S (F0 m 2 ls [])) (x0 : Nat) (x1 : Option Nat) (x2 : Int32) (x3 : Option Nat) (t0 : Int32) (t1 : Nat) (S : gS) (hden : B_Pr_writeNeeds_29 k2 x0 x1 x2 x3 t0 t1 S = some S') {ls : Array Slot} (hl : lv_has ls 4 [(0, va_rf (some x0)), (1, va_rf x1), (2, .int x2), (3, va_rf x3)]) : gV D cT H0 p l e (gRm 3 64 S0) s m args below meth c (gQ D cT H0 below S0 S' (.inr none) s) S0 S (F0 m 29 ls [.int t0, va_rf (some t1)]) := by
  obtain ⟨X, hZ, hex, hr, hE⟩ := id Y
  have hx := X.1
  have hb := X.2.1
  unfold B_Pr_writeNeeds_29 at hden
  refine gV.lift (fun _ _ _ _ => g_aload_n hx hb d_Pr_writeNeeds_29 rfl (lv_at hl 3 rfl)) ?_
  replace hden := gb hden
  obtain ⟨a1, rfl, hden⟩ := hden
  replace hden := gb hden
  obtain ⟨v2, hv, hden⟩ := hden
  refine r_getI X cl_Nd (k := 0) hv (by decide) q_388 d_Pr_writeNeeds_30 ?_
  replace hden := gb hden
  obtain ⟨fs4, ho, hden⟩ := hden
  replace hden := gb hden
  obtain ⟨S3, hz, hden⟩ := hden
  refine g_callV (As := [.int t0, .int v2]) (rest := []) X hZ (c_Pr_writeNumber hz) cl_Pr (gOb_spec ho) q_712 q_4 q_709 q_711 qp_19 ⟨by decide, by decide, by show _ = some 2; decide +kernel⟩ ⟨by decide, by decide⟩ hl.1 (Nat.le_of_ble_eq_true rfl) d_Pr_writeNeeds_33 rfl rfl ?_
  refine gV.lift (fun _ _ _ _ => g_aload_n hx hb d_Pr_writeNeeds_36 rfl (lv_at hl 0 rfl)) ?_
  refine gV.lift (fun _ _ _ _ => g_aload_n hx hb d_Pr_writeNeeds_37 rfl (lv_at hl 3 rfl)) ?_
  replace hden := gb hden
  obtain ⟨fs6, ho, hden⟩ := hden
  replace hden := gb hden
  obtain ⟨S5, hz, hden⟩ := hden
  refine g_callV (As := [va_rf (some a1)]) (rest := []) X hZ (c_Pr_writeNeed hz) cl_Pr (gOb_spec ho) q_730 q_4 q_727 q_729 qp_23 ⟨by decide, by decide, by show _ = some 1; decide +kernel⟩ ⟨by decide, by decide⟩ hl.1 (Nat.le_of_ble_eq_true rfl) d_Pr_writeNeeds_38 rfl rfl ?_
  exact w_Pr_writeNeeds_41 Y hk2 x0 x1 x2 S5 hden (lv_sub hl [0, 1, 2] rfl)
def B_Pr_writeNeeds_2 (k2 : Nat → Option Nat → Int32 → gS → Option gS) (x0 : Nat) (x1 : Option Nat) (x2 : Int32) (S : gS) : Option gS := (if 5 ≤ x2 then Option.bind (gOb S x0 6) (fun fs3 => Option.bind (D_Pr_write x0 59 S) (fun S2 => some S2)) else Option.bind x1 (fun a4 => Option.bind (gOb S a4 4) (fun fs7 => gB2 (D_NL_needAt a4 x2 S) (fun r6 S5 => gNul r6 (B_Pr_writeNeeds_41 k2 x0 (some a4) x2 S5) (fun a8 => (if x2 = 0 then B_Pr_writeNeeds_29 k2 x0 (some a4) x2 (some a8) 58 x0 S5 else B_Pr_writeNeeds_29 k2 x0 (some a4) x2 (some a8) 44 x0 S5))))))
set_option maxRecDepth 100000 in
set_option maxHeartbeats 4000000 in
theorem w_Pr_writeNeeds_2 {D : va_G} {cT : Nat → ClassId} {H0 : Heap} {l : Launch} {p : Program} {e : Env} {s : State} {m : MethodId} {args : Array Value} {below : List Frame} {meth : Method} {c : Code} {S0 : gS} {S' : gS} (Y : gY D cT H0 p s m args meth c prog_7_method_7_code 4 "PlanText$Printer" 3 64 S0 (Option.none : Option Jvm.ClassFile.FieldType)) {k2 : Nat → Option Nat → Int32 → gS → Option gS} (hk2 : ∀ (x0 : Nat) (x1 : Option Nat) (x2 : Int32) (S : gS) (ls : Array Slot), k2 x0 x1 x2 S = some S' → lv_has ls 4 [(0, va_rf (some x0)), (1, va_rf x1), (2, .int x2)] → gV D cT H0 p l e (gRm 3 64 S0) s m args below meth c (gQ D cT H0 below S0 S' (.inr none) s) S0 S (F0 m 2 ls [])) (x0 : Nat) (x1 : Option Nat) (x2 : Int32) (S : gS) (hden : B_Pr_writeNeeds_2 k2 x0 x1 x2 S = some S') {ls : Array Slot} (hl : lv_has ls 4 [(0, va_rf (some x0)), (1, va_rf x1), (2, .int x2)]) : gV D cT H0 p l e (gRm 3 64 S0) s m args below meth c (gQ D cT H0 below S0 S' (.inr none) s) S0 S (F0 m 2 ls []) := by
  obtain ⟨X, hZ, hex, hr, hE⟩ := id Y
  have hx := X.1
  have hb := X.2.1
  unfold B_Pr_writeNeeds_2 at hden
  refine gV.lift (fun _ _ _ _ => lv_iload_n hx hb d_Pr_writeNeeds_2 rfl (lv_at hl 2 rfl)) ?_
  refine gV.lift (fun _ _ _ _ => lv_iconst (v := 5) hx hb d_Pr_writeNeeds_3 (by decide)) ?_
  refine gV.lift2 (fun _ _ _ _ => lv_icmp_ge (tgt := 47) hx hb d_Pr_writeNeeds_4 (by decide)) (fun hc1 => ?_) (fun hc1 => ?_)
  · replace hden := gip hc1 hden
    refine gV.lift (fun _ _ _ _ => g_aload_n hx hb d_Pr_writeNeeds_47 rfl (lv_at hl 0 rfl)) ?_
    refine gV.lift (fun _ _ _ _ => lv_bipush (v := 59) hx hb d_Pr_writeNeeds_48 (by decide)) ?_
    replace hden := gb hden
    obtain ⟨fs3, ho, hden⟩ := hden
    replace hden := gb hden
    obtain ⟨S2, hz, hden⟩ := hden
    refine g_callV (As := [.int 59]) (rest := []) X hZ (c_Pr_write hz) cl_Pr (gOb_spec ho) q_716 q_4 q_713 q_715 qp_20 ⟨by decide, by decide, by show _ = some 1; decide +kernel⟩ ⟨by decide, by decide⟩ hl.1 (Nat.le_of_ble_eq_true rfl) d_Pr_writeNeeds_50 rfl rfl ?_
    obtain rfl := gsi hden
    exact g_vret X hr d_Pr_writeNeeds_53
  · replace hden := gin hc1 hden
    refine gV.lift (fun _ _ _ _ => g_aload_n hx hb d_Pr_writeNeeds_7 rfl (lv_at hl 1 rfl)) ?_
    refine gV.lift (fun _ _ _ _ => lv_iload_n hx hb d_Pr_writeNeeds_8 rfl (lv_at hl 2 rfl)) ?_
    replace hden := gb hden
    obtain ⟨a4, rfl, hden⟩ := hden
    replace hden := gb hden
    obtain ⟨fs7, ho, hden⟩ := hden
    replace hden := gb2 hden
    obtain ⟨r6, S5, hz, hden⟩ := hden
    refine g_callV (As := [.int x2]) (rest := []) X hZ (c_NL_needAt hz) cl_NL (gOb_spec ho) q_597 q_3 q_726 q_595 q_596 ⟨by decide, by decide, by show _ = some 1; decide +kernel⟩ ⟨by decide, by decide⟩ hl.1 (Nat.le_of_ble_eq_true rfl) d_Pr_writeNeeds_9 rfl rfl ?_
    refine gV.liftS (nL := 4) (lv' := [(3, va_rf r6), (0, va_rf (some x0)), (1, va_rf (some a4)), (2, .int x2)]) (fun _ _ _ _ => g_astore_n hx hb d_Pr_writeNeeds_12 rfl hl (by decide) rfl) (fun ls hl => ?_)
    refine gV.lift (fun _ _ _ _ => g_aload_n hx hb d_Pr_writeNeeds_13 rfl (lv_at hl 0 rfl)) ?_
    rcases r6 with _ | a8
    · replace hden := gN0 hden
      refine gV.lift (fun _ _ _ _ => lv_ifnullN (tgt := 41) hx hb d_Pr_writeNeeds_14 (by decide)) ?_
      exact w_Pr_writeNeeds_41 Y hk2 x0 (some a4) x2 S5 hden (lv_sub hl [1, 2, 3] rfl)
    · replace hden := gN1 hden
      refine gV.lift (fun _ _ _ _ => lv_ifnull hx hb d_Pr_writeNeeds_14) ?_
      refine gV.lift (fun _ _ _ _ => g_aload_n hx hb d_Pr_writeNeeds_17 rfl (lv_at hl 1 rfl)) ?_
      refine gV.lift (fun _ _ _ _ => lv_iload_n hx hb d_Pr_writeNeeds_18 rfl (lv_at hl 3 rfl)) ?_
      refine gV.lift2 (fun _ _ _ _ => lv_if_ne (tgt := 27) hx hb d_Pr_writeNeeds_19 (by decide)) (fun hc9 => ?_) (fun hc9 => ?_)
      · replace hden := gin hc9 hden
        refine gV.lift (fun _ _ _ _ => lv_bipush (v := 44) hx hb d_Pr_writeNeeds_27 (by decide)) ?_
        exact w_Pr_writeNeeds_29 Y hk2 x0 (some a4) x2 (some a8) 44 x0 S5 hden (lv_sub hl [1, 2, 3, 0] rfl)
      · replace hden := gip hc9 hden
        refine gV.lift (fun _ _ _ _ => lv_bipush (v := 58) hx hb d_Pr_writeNeeds_22 (by decide)) ?_
        refine gV.lift (fun _ _ _ _ => lv_goto (tgt := 29) hx hb d_Pr_writeNeeds_24 (by decide)) ?_
        exact w_Pr_writeNeeds_29 Y hk2 x0 (some a4) x2 (some a8) 58 x0 S5 hden (lv_sub hl [1, 2, 3, 0] rfl)
def L_Pr_writeNeeds_2  : Nat → Nat → Option Nat → Int32 → gS → Option gS
  | 0 => fun _ _ _ _ => none
  | n + 1 => fun x0 x1 x2 S => B_Pr_writeNeeds_2  (L_Pr_writeNeeds_2  n) x0 x1 x2 S
theorem wL_Pr_writeNeeds_2 {D : va_G} {cT : Nat → ClassId} {H0 : Heap} {l : Launch} {p : Program} {e : Env} {s : State} {m : MethodId} {args : Array Value} {below : List Frame} {meth : Method} {c : Code} {S0 : gS} {S' : gS} (Y : gY D cT H0 p s m args meth c prog_7_method_7_code 4 "PlanText$Printer" 3 64 S0 (Option.none : Option Jvm.ClassFile.FieldType))  : ∀ (n : Nat) (x0 : Nat) (x1 : Option Nat) (x2 : Int32) (S : gS) (ls : Array Slot), L_Pr_writeNeeds_2  n x0 x1 x2 S = some S' → lv_has ls 4 [(0, va_rf (some x0)), (1, va_rf x1), (2, .int x2)] → gV D cT H0 p l e (gRm 3 64 S0) s m args below meth c (gQ D cT H0 below S0 S' (.inr none) s) S0 S (F0 m 2 ls []) := by
  intro n
  induction n with
  | zero => intro x0 x1 x2 S ls h hl; cases h
  | succ n ih => intro x0 x1 x2 S ls h hl; exact w_Pr_writeNeeds_2 Y ih x0 x1 x2 S h hl
def D_Pr_writeNeeds (h0 : Nat) (p0 : Option Nat) (S : gS) : Option gS := L_Pr_writeNeeds_2  gF h0 p0 0 S
set_option maxRecDepth 100000 in
set_option maxHeartbeats 4000000 in
theorem c_Pr_writeNeeds {D : va_G} {cT : Nat → ClassId} {H0 : Heap} {l : Launch} {S : gS} {S' : gS} {h0 : Nat} {p0 : Option Nat} (hden : D_Pr_writeNeeds h0 p0 S = some S') : gM D cT H0 l y_Pr_writeNeeds (Cond.code y_Pr_writeNeeds prog_7_method_7_code 4 (Option.none : Option Jvm.ClassFile.FieldType)) 3 64 [va_rf (some h0), va_rf p0] S S' (.inr none) := by
  refine gM.ofV (by decide) ?_
  intro p e s m args below meth c s₁ B hml ea X hZ hex hr hE
  subst ea
  have Y : gY D cT H0 p s m _ meth c prog_7_method_7_code 4 "PlanText$Printer" 3 64 S (Option.none : Option Jvm.ClassFile.FieldType) := ⟨X, hZ, hex, hr, hE⟩
  have hx := X.1
  have hb := X.2.1
  have hl := lv_entry ([va_rf (some h0), va_rf p0]) (n := 4) (by cases p0 <;> exact Nat.le_of_ble_eq_true rfl)
  rw [lg_entry_eq]
  generalize (lg_sl ([va_rf (some h0), va_rf p0]) ++ List.replicate (4 - (lg_sl ([va_rf (some h0), va_rf p0])).length) Slot.unset).toArray = ls at hl ⊢
  have hl : lv_has ls 4 [(0, va_rf (some h0)), (1, va_rf p0)] := by cases p0 <;> exact hl
  unfold D_Pr_writeNeeds at hden
  refine gV.lift (fun _ _ _ _ => lv_iconst (v := 0) hx hb d_Pr_writeNeeds_0 (by decide)) ?_
  refine gV.liftS (nL := 4) (lv' := [(2, .int 0), (0, va_rf (some h0)), (1, va_rf p0)]) (fun _ _ _ _ => lv_istore_n hx hb d_Pr_writeNeeds_1 rfl hl (by decide) (by cases p0 <;> rfl)) (fun ls hl => ?_)
  exact wL_Pr_writeNeeds_2 Y  gF h0 p0 0 S _ hden (lv_sub hl [1, 2, 0] rfl)
/-! PlanText$Printer.writePlan(LPlanText$Plan;)V -/
abbrev y_Pr_writePlan : MethodName := ⟨"PlanText$Printer", "writePlan", "(LPlanText$Plan;)V"⟩
theorem d_Pr_writePlan_0 : decode prog_7_method_4_code 0 = .ok (.aload_n 0, 1) := by decide +kernel
theorem d_Pr_writePlan_1 : decode prog_7_method_4_code 1 = .ok (.bipush 112, 2) := by decide +kernel
theorem d_Pr_writePlan_3 : decode prog_7_method_4_code 3 = .ok (.aload_n 1, 1) := by decide +kernel
theorem d_Pr_writePlan_4 : decode prog_7_method_4_code 4 = .ok (.getfield 49, 3) := by decide +kernel
theorem d_Pr_writePlan_7 : decode prog_7_method_4_code 7 = .ok (.invokevirtual 33, 3) := by decide +kernel
theorem d_Pr_writePlan_10 : decode prog_7_method_4_code 10 = .ok (.aload_n 0, 1) := by decide +kernel
theorem d_Pr_writePlan_11 : decode prog_7_method_4_code 11 = .ok (.bipush 107, 2) := by decide +kernel
theorem d_Pr_writePlan_13 : decode prog_7_method_4_code 13 = .ok (.aload_n 1, 1) := by decide +kernel
theorem d_Pr_writePlan_14 : decode prog_7_method_4_code 14 = .ok (.getfield 54, 3) := by decide +kernel
theorem d_Pr_writePlan_17 : decode prog_7_method_4_code 17 = .ok (.invokevirtual 33, 3) := by decide +kernel
theorem d_Pr_writePlan_20 : decode prog_7_method_4_code 20 = .ok (.aload_n 1, 1) := by decide +kernel
theorem d_Pr_writePlan_21 : decode prog_7_method_4_code 21 = .ok (.getfield 57, 3) := by decide +kernel
theorem d_Pr_writePlan_24 : decode prog_7_method_4_code 24 = .ok (.invokevirtual 61, 3) := by decide +kernel
theorem d_Pr_writePlan_27 : decode prog_7_method_4_code 27 = .ok (.ifCond .ne 42, 3) := by decide +kernel
theorem d_Pr_writePlan_30 : decode prog_7_method_4_code 30 = .ok (.aload_n 0, 1) := by decide +kernel
theorem d_Pr_writePlan_31 : decode prog_7_method_4_code 31 = .ok (.bipush 64, 2) := by decide +kernel
theorem d_Pr_writePlan_33 : decode prog_7_method_4_code 33 = .ok (.aload_n 1, 1) := by decide +kernel
theorem d_Pr_writePlan_34 : decode prog_7_method_4_code 34 = .ok (.getfield 57, 3) := by decide +kernel
theorem d_Pr_writePlan_37 : decode prog_7_method_4_code 37 = .ok (.getfield 67, 3) := by decide +kernel
theorem d_Pr_writePlan_40 : decode prog_7_method_4_code 40 = .ok (.invokevirtual 33, 3) := by decide +kernel
theorem d_Pr_writePlan_43 : decode prog_7_method_4_code 43 = .ok (.aload_n 0, 1) := by decide +kernel
theorem d_Pr_writePlan_44 : decode prog_7_method_4_code 44 = .ok (.bipush 35, 2) := by decide +kernel
theorem d_Pr_writePlan_46 : decode prog_7_method_4_code 46 = .ok (.aload_n 1, 1) := by decide +kernel
theorem d_Pr_writePlan_47 : decode prog_7_method_4_code 47 = .ok (.getfield 57, 3) := by decide +kernel
theorem d_Pr_writePlan_50 : decode prog_7_method_4_code 50 = .ok (.getfield 70, 3) := by decide +kernel
theorem d_Pr_writePlan_53 : decode prog_7_method_4_code 53 = .ok (.invokevirtual 33, 3) := by decide +kernel
theorem d_Pr_writePlan_56 : decode prog_7_method_4_code 56 = .ok (.aload_n 0, 1) := by decide +kernel
theorem d_Pr_writePlan_57 : decode prog_7_method_4_code 57 = .ok (.bipush 45, 2) := by decide +kernel
theorem d_Pr_writePlan_59 : decode prog_7_method_4_code 59 = .ok (.aload_n 1, 1) := by decide +kernel
theorem d_Pr_writePlan_60 : decode prog_7_method_4_code 60 = .ok (.getfield 57, 3) := by decide +kernel
theorem d_Pr_writePlan_63 : decode prog_7_method_4_code 63 = .ok (.getfield 73, 3) := by decide +kernel
theorem d_Pr_writePlan_66 : decode prog_7_method_4_code 66 = .ok (.invokevirtual 33, 3) := by decide +kernel
theorem d_Pr_writePlan_69 : decode prog_7_method_4_code 69 = .ok (.aload_n 1, 1) := by decide +kernel
theorem d_Pr_writePlan_70 : decode prog_7_method_4_code 70 = .ok (.getfield 76, 3) := by decide +kernel
theorem d_Pr_writePlan_73 : decode prog_7_method_4_code 73 = .ok (.getfield 80, 3) := by decide +kernel
theorem d_Pr_writePlan_76 : decode prog_7_method_4_code 76 = .ok (.ifCond .eq 17, 3) := by decide +kernel
theorem d_Pr_writePlan_79 : decode prog_7_method_4_code 79 = .ok (.aload_n 0, 1) := by decide +kernel
theorem d_Pr_writePlan_80 : decode prog_7_method_4_code 80 = .ok (.aload_n 1, 1) := by decide +kernel
theorem d_Pr_writePlan_81 : decode prog_7_method_4_code 81 = .ok (.getfield 76, 3) := by decide +kernel
theorem d_Pr_writePlan_84 : decode prog_7_method_4_code 84 = .ok (.invokevirtual 86, 3) := by decide +kernel
theorem d_Pr_writePlan_87 : decode prog_7_method_4_code 87 = .ok (.aload_n 0, 1) := by decide +kernel
theorem d_Pr_writePlan_88 : decode prog_7_method_4_code 88 = .ok (.bipush 93, 2) := by decide +kernel
theorem d_Pr_writePlan_90 : decode prog_7_method_4_code 90 = .ok (.invokevirtual 90, 3) := by decide +kernel
theorem d_Pr_writePlan_93 : decode prog_7_method_4_code 93 = .ok (.aload_n 0, 1) := by decide +kernel
theorem d_Pr_writePlan_94 : decode prog_7_method_4_code 94 = .ok (.bipush 114, 2) := by decide +kernel
theorem d_Pr_writePlan_96 : decode prog_7_method_4_code 96 = .ok (.aload_n 1, 1) := by decide +kernel
theorem d_Pr_writePlan_97 : decode prog_7_method_4_code 97 = .ok (.getfield 94, 3) := by decide +kernel
theorem d_Pr_writePlan_100 : decode prog_7_method_4_code 100 = .ok (.invokevirtual 33, 3) := by decide +kernel
theorem d_Pr_writePlan_103 : decode prog_7_method_4_code 103 = .ok (.aload_n 0, 1) := by decide +kernel
theorem d_Pr_writePlan_104 : decode prog_7_method_4_code 104 = .ok (.aload_n 1, 1) := by decide +kernel
theorem d_Pr_writePlan_105 : decode prog_7_method_4_code 105 = .ok (.getfield 97, 3) := by decide +kernel
theorem d_Pr_writePlan_108 : decode prog_7_method_4_code 108 = .ok (.invokevirtual 37, 3) := by decide +kernel
theorem d_Pr_writePlan_111 : decode prog_7_method_4_code 111 = .ok (.return_, 1) := by decide +kernel
def B_Pr_writePlan_93  (x0 : Nat) (x1 : Option Nat) (S : gS) : Option gS := Option.bind x1 (fun a1 => Option.bind (gI S a1 5 4) (fun v2 => Option.bind (gOb S x0 6) (fun fs4 => Option.bind (D_Pr_writeNumber x0 114 v2 S) (fun S3 => Option.bind (gRf S3 a1 5 5) (fun r5 => Option.bind (gOb S3 x0 6) (fun fs7 => Option.bind (D_Pr_writeNeeds x0 r5 S3) (fun S6 => some S6)))))))
set_option maxRecDepth 100000 in
set_option maxHeartbeats 4000000 in
theorem w_Pr_writePlan_93 {D : va_G} {cT : Nat → ClassId} {H0 : Heap} {l : Launch} {p : Program} {e : Env} {s : State} {m : MethodId} {args : Array Value} {below : List Frame} {meth : Method} {c : Code} {S0 : gS} {S' : gS} (Y : gY D cT H0 p s m args meth c prog_7_method_4_code 2 "PlanText$Printer" 4 87 S0 (Option.none : Option Jvm.ClassFile.FieldType))  (x0 : Nat) (x1 : Option Nat) (S : gS) (hden : B_Pr_writePlan_93  x0 x1 S = some S') {ls : Array Slot} (hl : lv_has ls 2 [(0, va_rf (some x0)), (1, va_rf x1)]) : gV D cT H0 p l e (gRm 4 87 S0) s m args below meth c (gQ D cT H0 below S0 S' (.inr none) s) S0 S (F0 m 93 ls []) := by
  obtain ⟨X, hZ, hex, hr, hE⟩ := id Y
  have hx := X.1
  have hb := X.2.1
  unfold B_Pr_writePlan_93 at hden
  refine gV.lift (fun _ _ _ _ => g_aload_n hx hb d_Pr_writePlan_93 rfl (lv_at hl 0 rfl)) ?_
  refine gV.lift (fun _ _ _ _ => lv_bipush (v := 114) hx hb d_Pr_writePlan_94 (by decide)) ?_
  refine gV.lift (fun _ _ _ _ => g_aload_n hx hb d_Pr_writePlan_96 rfl (lv_at hl 1 rfl)) ?_
  replace hden := gb hden
  obtain ⟨a1, rfl, hden⟩ := hden
  replace hden := gb hden
  obtain ⟨v2, hv, hden⟩ := hden
  refine r_getI X cl_Pl (k := 4) hv (by decide) q_434 d_Pr_writePlan_97 ?_
  replace hden := gb hden
  obtain ⟨fs4, ho, hden⟩ := hden
  replace hden := gb hden
  obtain ⟨S3, hz, hden⟩ := hden
  refine g_callV (As := [.int 114, .int v2]) (rest := []) X hZ (c_Pr_writeNumber hz) cl_Pr (gOb_spec ho) q_712 q_4 q_709 q_711 qp_19 ⟨by decide, by decide, by show _ = some 2; decide +kernel⟩ ⟨by decide, by decide⟩ hl.1 (Nat.le_of_ble_eq_true rfl) d_Pr_writePlan_100 rfl rfl ?_
  refine gV.lift (fun _ _ _ _ => g_aload_n hx hb d_Pr_writePlan_103 rfl (lv_at hl 0 rfl)) ?_
  refine gV.lift (fun _ _ _ _ => g_aload_n hx hb d_Pr_writePlan_104 rfl (lv_at hl 1 rfl)) ?_
  replace hden := gb hden
  obtain ⟨r5, hv, hden⟩ := hden
  refine r_getR X cl_Pl (k := 5) hv (by decide) q_436 d_Pr_writePlan_105 ?_
  replace hden := gb hden
  obtain ⟨fs7, ho, hden⟩ := hden
  replace hden := gb hden
  obtain ⟨S6, hz, hden⟩ := hden
  refine g_callV (As := [va_rf r5]) (rest := []) X hZ (c_Pr_writeNeeds hz) cl_Pr (gOb_spec ho) q_725 q_4 q_722 q_724 qp_22 ⟨by decide, by decide, by show _ = some 1; decide +kernel⟩ ⟨by decide, by decide⟩ hl.1 (Nat.le_of_ble_eq_true rfl) d_Pr_writePlan_108 rfl rfl ?_
  obtain rfl := gsi hden
  exact g_vret X hr d_Pr_writePlan_111
def B_Pr_writePlan_69  (x0 : Nat) (x1 : Option Nat) (S : gS) : Option gS := Option.bind x1 (fun a1 => Option.bind (gRf S a1 5 3) (fun r2 => Option.bind r2 (fun a3 => Option.bind (gI S a3 2 0) (fun v4 => (if v4 = 0 then B_Pr_writePlan_93  x0 (some a1) S else Option.bind (gRf S a1 5 3) (fun r6 => Option.bind (gOb S x0 6) (fun fs8 => Option.bind (D_Pr_writeHours x0 r6 S) (fun S7 => Option.bind (gOb S7 x0 6) (fun fs10 => Option.bind (D_Pr_write x0 93 S7) (fun S9 => B_Pr_writePlan_93  x0 (some a1) S9))))))))))
set_option maxRecDepth 100000 in
set_option maxHeartbeats 4000000 in
theorem w_Pr_writePlan_69 {D : va_G} {cT : Nat → ClassId} {H0 : Heap} {l : Launch} {p : Program} {e : Env} {s : State} {m : MethodId} {args : Array Value} {below : List Frame} {meth : Method} {c : Code} {S0 : gS} {S' : gS} (Y : gY D cT H0 p s m args meth c prog_7_method_4_code 2 "PlanText$Printer" 4 87 S0 (Option.none : Option Jvm.ClassFile.FieldType))  (x0 : Nat) (x1 : Option Nat) (S : gS) (hden : B_Pr_writePlan_69  x0 x1 S = some S') {ls : Array Slot} (hl : lv_has ls 2 [(0, va_rf (some x0)), (1, va_rf x1)]) : gV D cT H0 p l e (gRm 4 87 S0) s m args below meth c (gQ D cT H0 below S0 S' (.inr none) s) S0 S (F0 m 69 ls []) := by
  obtain ⟨X, hZ, hex, hr, hE⟩ := id Y
  have hx := X.1
  have hb := X.2.1
  unfold B_Pr_writePlan_69 at hden
  refine gV.lift (fun _ _ _ _ => g_aload_n hx hb d_Pr_writePlan_69 rfl (lv_at hl 1 rfl)) ?_
  replace hden := gb hden
  obtain ⟨a1, rfl, hden⟩ := hden
  replace hden := gb hden
  obtain ⟨r2, hv, hden⟩ := hden
  refine r_getR X cl_Pl (k := 3) hv (by decide) q_431 d_Pr_writePlan_70 ?_
  replace hden := gb hden
  obtain ⟨a3, rfl, hden⟩ := hden
  replace hden := gb hden
  obtain ⟨v4, hv, hden⟩ := hden
  refine r_getI X cl_Hr (k := 0) hv (by decide) q_348 d_Pr_writePlan_73 ?_
  refine gV.lift2 (fun _ _ _ _ => lv_if_eq (tgt := 93) hx hb d_Pr_writePlan_76 (by decide)) (fun hc5 => ?_) (fun hc5 => ?_)
  · replace hden := gip hc5 hden
    exact w_Pr_writePlan_93 Y  x0 (some a1) S hden (lv_sub hl [0, 1] rfl)
  · replace hden := gin hc5 hden
    refine gV.lift (fun _ _ _ _ => g_aload_n hx hb d_Pr_writePlan_79 rfl (lv_at hl 0 rfl)) ?_
    refine gV.lift (fun _ _ _ _ => g_aload_n hx hb d_Pr_writePlan_80 rfl (lv_at hl 1 rfl)) ?_
    replace hden := gb hden
    obtain ⟨r6, hv, hden⟩ := hden
    refine r_getR X cl_Pl (k := 3) hv (by decide) q_431 d_Pr_writePlan_81 ?_
    replace hden := gb hden
    obtain ⟨fs8, ho, hden⟩ := hden
    replace hden := gb hden
    obtain ⟨S7, hz, hden⟩ := hden
    refine g_callV (As := [va_rf r6]) (rest := []) X hZ (c_Pr_writeHours hz) cl_Pr (gOb_spec ho) q_721 q_4 q_718 q_720 qp_21 ⟨by decide, by decide, by show _ = some 1; decide +kernel⟩ ⟨by decide, by decide⟩ hl.1 (Nat.le_of_ble_eq_true rfl) d_Pr_writePlan_84 rfl rfl ?_
    refine gV.lift (fun _ _ _ _ => g_aload_n hx hb d_Pr_writePlan_87 rfl (lv_at hl 0 rfl)) ?_
    refine gV.lift (fun _ _ _ _ => lv_bipush (v := 93) hx hb d_Pr_writePlan_88 (by decide)) ?_
    replace hden := gb hden
    obtain ⟨fs10, ho, hden⟩ := hden
    replace hden := gb hden
    obtain ⟨S9, hz, hden⟩ := hden
    refine g_callV (As := [.int 93]) (rest := []) X hZ (c_Pr_write hz) cl_Pr (gOb_spec ho) q_716 q_4 q_713 q_715 qp_20 ⟨by decide, by decide, by show _ = some 1; decide +kernel⟩ ⟨by decide, by decide⟩ hl.1 (Nat.le_of_ble_eq_true rfl) d_Pr_writePlan_90 rfl rfl ?_
    exact w_Pr_writePlan_93 Y  x0 (some a1) S9 hden (lv_sub hl [0, 1] rfl)
def D_Pr_writePlan (h0 : Nat) (p0 : Option Nat) (S : gS) : Option gS := Option.bind p0 (fun a1 => Option.bind (gI S a1 5 0) (fun v2 => Option.bind (gOb S h0 6) (fun fs4 => Option.bind (D_Pr_writeNumber h0 112 v2 S) (fun S3 => Option.bind (gI S3 a1 5 1) (fun v5 => Option.bind (gOb S3 h0 6) (fun fs7 => Option.bind (D_Pr_writeNumber h0 107 v5 S3) (fun S6 => Option.bind (gRf S6 a1 5 2) (fun r8 => Option.bind r8 (fun a9 => Option.bind (gOb S6 a9 9) (fun fs12 => gB2 (D_Sx_isEverywhere a9 S6) (fun v11 S10 => (if v11 = 0 then Option.bind (gRf S10 a1 5 2) (fun r14 => Option.bind r14 (fun a15 => Option.bind (gI S10 a15 9 0) (fun v16 => Option.bind (gOb S10 h0 6) (fun fs18 => Option.bind (D_Pr_writeNumber h0 64 v16 S10) (fun S17 => Option.bind (gRf S17 a1 5 2) (fun r19 => Option.bind r19 (fun a20 => Option.bind (gI S17 a20 9 1) (fun v21 => Option.bind (gOb S17 h0 6) (fun fs23 => Option.bind (D_Pr_writeNumber h0 35 v21 S17) (fun S22 => Option.bind (gRf S22 a1 5 2) (fun r24 => Option.bind r24 (fun a25 => Option.bind (gI S22 a25 9 2) (fun v26 => Option.bind (gOb S22 h0 6) (fun fs28 => Option.bind (D_Pr_writeNumber h0 45 v26 S22) (fun S27 => B_Pr_writePlan_69  h0 (some a1) S27))))))))))))))) else B_Pr_writePlan_69  h0 (some a1) S10))))))))))))
set_option maxRecDepth 100000 in
set_option maxHeartbeats 4000000 in
theorem c_Pr_writePlan {D : va_G} {cT : Nat → ClassId} {H0 : Heap} {l : Launch} {S : gS} {S' : gS} {h0 : Nat} {p0 : Option Nat} (hden : D_Pr_writePlan h0 p0 S = some S') : gM D cT H0 l y_Pr_writePlan (Cond.code y_Pr_writePlan prog_7_method_4_code 2 (Option.none : Option Jvm.ClassFile.FieldType)) 4 87 [va_rf (some h0), va_rf p0] S S' (.inr none) := by
  refine gM.ofV (by decide) ?_
  intro p e s m args below meth c s₁ B hml ea X hZ hex hr hE
  subst ea
  have Y : gY D cT H0 p s m _ meth c prog_7_method_4_code 2 "PlanText$Printer" 4 87 S (Option.none : Option Jvm.ClassFile.FieldType) := ⟨X, hZ, hex, hr, hE⟩
  have hx := X.1
  have hb := X.2.1
  have hl := lv_entry ([va_rf (some h0), va_rf p0]) (n := 2) (by cases p0 <;> exact Nat.le_of_ble_eq_true rfl)
  rw [lg_entry_eq]
  generalize (lg_sl ([va_rf (some h0), va_rf p0]) ++ List.replicate (2 - (lg_sl ([va_rf (some h0), va_rf p0])).length) Slot.unset).toArray = ls at hl ⊢
  have hl : lv_has ls 2 [(0, va_rf (some h0)), (1, va_rf p0)] := by cases p0 <;> exact hl
  unfold D_Pr_writePlan at hden
  refine gV.lift (fun _ _ _ _ => g_aload_n hx hb d_Pr_writePlan_0 rfl (lv_at hl 0 rfl)) ?_
  refine gV.lift (fun _ _ _ _ => lv_bipush (v := 112) hx hb d_Pr_writePlan_1 (by decide)) ?_
  refine gV.lift (fun _ _ _ _ => g_aload_n hx hb d_Pr_writePlan_3 rfl (lv_at hl 1 rfl)) ?_
  replace hden := gb hden
  obtain ⟨a1, rfl, hden⟩ := hden
  replace hden := gb hden
  obtain ⟨v2, hv, hden⟩ := hden
  refine r_getI X cl_Pl (k := 0) hv (by decide) q_422 d_Pr_writePlan_4 ?_
  replace hden := gb hden
  obtain ⟨fs4, ho, hden⟩ := hden
  replace hden := gb hden
  obtain ⟨S3, hz, hden⟩ := hden
  refine g_callV (As := [.int 112, .int v2]) (rest := []) X hZ (c_Pr_writeNumber hz) cl_Pr (gOb_spec ho) q_712 q_4 q_709 q_711 qp_19 ⟨by decide, by decide, by show _ = some 2; decide +kernel⟩ ⟨by decide, by decide⟩ hl.1 (Nat.le_of_ble_eq_true rfl) d_Pr_writePlan_7 rfl rfl ?_
  refine gV.lift (fun _ _ _ _ => g_aload_n hx hb d_Pr_writePlan_10 rfl (lv_at hl 0 rfl)) ?_
  refine gV.lift (fun _ _ _ _ => lv_bipush (v := 107) hx hb d_Pr_writePlan_11 (by decide)) ?_
  refine gV.lift (fun _ _ _ _ => g_aload_n hx hb d_Pr_writePlan_13 rfl (lv_at hl 1 rfl)) ?_
  replace hden := gb hden
  obtain ⟨v5, hv, hden⟩ := hden
  refine r_getI X cl_Pl (k := 1) hv (by decide) q_426 d_Pr_writePlan_14 ?_
  replace hden := gb hden
  obtain ⟨fs7, ho, hden⟩ := hden
  replace hden := gb hden
  obtain ⟨S6, hz, hden⟩ := hden
  refine g_callV (As := [.int 107, .int v5]) (rest := []) X hZ (c_Pr_writeNumber hz) cl_Pr (gOb_spec ho) q_712 q_4 q_709 q_711 qp_19 ⟨by decide, by decide, by show _ = some 2; decide +kernel⟩ ⟨by decide, by decide⟩ hl.1 (Nat.le_of_ble_eq_true rfl) d_Pr_writePlan_17 rfl rfl ?_
  refine gV.lift (fun _ _ _ _ => g_aload_n hx hb d_Pr_writePlan_20 rfl (lv_at hl 1 rfl)) ?_
  replace hden := gb hden
  obtain ⟨r8, hv, hden⟩ := hden
  refine r_getR X cl_Pl (k := 2) hv (by decide) q_428 d_Pr_writePlan_21 ?_
  replace hden := gb hden
  obtain ⟨a9, rfl, hden⟩ := hden
  replace hden := gb hden
  obtain ⟨fs12, ho, hden⟩ := hden
  replace hden := gb2 hden
  obtain ⟨v11, S10, hz, hden⟩ := hden
  refine g_callV (As := []) (rest := []) X hZ (c_Sx_isEverywhere hz) cl_Sx (gOb_spec ho) q_577 q_13 q_717 q_575 q_576 ⟨by decide, by decide, by show _ = some 0; decide +kernel⟩ ⟨by decide, by decide⟩ hl.1 (Nat.le_of_ble_eq_true rfl) d_Pr_writePlan_24 rfl rfl ?_
  refine gV.lift2 (fun _ _ _ _ => lv_if_ne (tgt := 69) hx hb d_Pr_writePlan_27 (by decide)) (fun hc13 => ?_) (fun hc13 => ?_)
  · replace hden := gin hc13 hden
    exact w_Pr_writePlan_69 Y  h0 (some a1) S10 hden (lv_sub hl [0, 1] rfl)
  · replace hden := gip hc13 hden
    refine gV.lift (fun _ _ _ _ => g_aload_n hx hb d_Pr_writePlan_30 rfl (lv_at hl 0 rfl)) ?_
    refine gV.lift (fun _ _ _ _ => lv_bipush (v := 64) hx hb d_Pr_writePlan_31 (by decide)) ?_
    refine gV.lift (fun _ _ _ _ => g_aload_n hx hb d_Pr_writePlan_33 rfl (lv_at hl 1 rfl)) ?_
    replace hden := gb hden
    obtain ⟨r14, hv, hden⟩ := hden
    refine r_getR X cl_Pl (k := 2) hv (by decide) q_428 d_Pr_writePlan_34 ?_
    replace hden := gb hden
    obtain ⟨a15, rfl, hden⟩ := hden
    replace hden := gb hden
    obtain ⟨v16, hv, hden⟩ := hden
    refine r_getI X cl_Sx (k := 0) hv (by decide) q_319 d_Pr_writePlan_37 ?_
    replace hden := gb hden
    obtain ⟨fs18, ho, hden⟩ := hden
    replace hden := gb hden
    obtain ⟨S17, hz, hden⟩ := hden
    refine g_callV (As := [.int 64, .int v16]) (rest := []) X hZ (c_Pr_writeNumber hz) cl_Pr (gOb_spec ho) q_712 q_4 q_709 q_711 qp_19 ⟨by decide, by decide, by show _ = some 2; decide +kernel⟩ ⟨by decide, by decide⟩ hl.1 (Nat.le_of_ble_eq_true rfl) d_Pr_writePlan_40 rfl rfl ?_
    refine gV.lift (fun _ _ _ _ => g_aload_n hx hb d_Pr_writePlan_43 rfl (lv_at hl 0 rfl)) ?_
    refine gV.lift (fun _ _ _ _ => lv_bipush (v := 35) hx hb d_Pr_writePlan_44 (by decide)) ?_
    refine gV.lift (fun _ _ _ _ => g_aload_n hx hb d_Pr_writePlan_46 rfl (lv_at hl 1 rfl)) ?_
    replace hden := gb hden
    obtain ⟨r19, hv, hden⟩ := hden
    refine r_getR X cl_Pl (k := 2) hv (by decide) q_428 d_Pr_writePlan_47 ?_
    replace hden := gb hden
    obtain ⟨a20, rfl, hden⟩ := hden
    replace hden := gb hden
    obtain ⟨v21, hv, hden⟩ := hden
    refine r_getI X cl_Sx (k := 1) hv (by decide) q_322 d_Pr_writePlan_50 ?_
    replace hden := gb hden
    obtain ⟨fs23, ho, hden⟩ := hden
    replace hden := gb hden
    obtain ⟨S22, hz, hden⟩ := hden
    refine g_callV (As := [.int 35, .int v21]) (rest := []) X hZ (c_Pr_writeNumber hz) cl_Pr (gOb_spec ho) q_712 q_4 q_709 q_711 qp_19 ⟨by decide, by decide, by show _ = some 2; decide +kernel⟩ ⟨by decide, by decide⟩ hl.1 (Nat.le_of_ble_eq_true rfl) d_Pr_writePlan_53 rfl rfl ?_
    refine gV.lift (fun _ _ _ _ => g_aload_n hx hb d_Pr_writePlan_56 rfl (lv_at hl 0 rfl)) ?_
    refine gV.lift (fun _ _ _ _ => lv_bipush (v := 45) hx hb d_Pr_writePlan_57 (by decide)) ?_
    refine gV.lift (fun _ _ _ _ => g_aload_n hx hb d_Pr_writePlan_59 rfl (lv_at hl 1 rfl)) ?_
    replace hden := gb hden
    obtain ⟨r24, hv, hden⟩ := hden
    refine r_getR X cl_Pl (k := 2) hv (by decide) q_428 d_Pr_writePlan_60 ?_
    replace hden := gb hden
    obtain ⟨a25, rfl, hden⟩ := hden
    replace hden := gb hden
    obtain ⟨v26, hv, hden⟩ := hden
    refine r_getI X cl_Sx (k := 2) hv (by decide) q_325 d_Pr_writePlan_63 ?_
    replace hden := gb hden
    obtain ⟨fs28, ho, hden⟩ := hden
    replace hden := gb hden
    obtain ⟨S27, hz, hden⟩ := hden
    refine g_callV (As := [.int 45, .int v26]) (rest := []) X hZ (c_Pr_writeNumber hz) cl_Pr (gOb_spec ho) q_712 q_4 q_709 q_711 qp_19 ⟨by decide, by decide, by show _ = some 2; decide +kernel⟩ ⟨by decide, by decide⟩ hl.1 (Nat.le_of_ble_eq_true rfl) d_Pr_writePlan_66 rfl rfl ?_
    exact w_Pr_writePlan_69 Y  h0 (some a1) S27 hden (lv_sub hl [0, 1] rfl)
/-! PlanText$Printer.writeStandby(LPlanText$Standby;)V -/
abbrev y_Pr_writeStandby : MethodName := ⟨"PlanText$Printer", "writeStandby", "(LPlanText$Standby;)V"⟩
theorem d_Pr_writeStandby_0 : decode prog_7_method_5_code 0 = .ok (.aload_n 0, 1) := by decide +kernel
theorem d_Pr_writeStandby_1 : decode prog_7_method_5_code 1 = .ok (.bipush 115, 2) := by decide +kernel
theorem d_Pr_writeStandby_3 : decode prog_7_method_5_code 3 = .ok (.invokevirtual 90, 3) := by decide +kernel
theorem d_Pr_writeStandby_6 : decode prog_7_method_5_code 6 = .ok (.aload_n 0, 1) := by decide +kernel
theorem d_Pr_writeStandby_7 : decode prog_7_method_5_code 7 = .ok (.aload_n 1, 1) := by decide +kernel
theorem d_Pr_writeStandby_8 : decode prog_7_method_5_code 8 = .ok (.getfield 101, 3) := by decide +kernel
theorem d_Pr_writeStandby_11 : decode prog_7_method_5_code 11 = .ok (.invokevirtual 86, 3) := by decide +kernel
theorem d_Pr_writeStandby_14 : decode prog_7_method_5_code 14 = .ok (.aload_n 0, 1) := by decide +kernel
theorem d_Pr_writeStandby_15 : decode prog_7_method_5_code 15 = .ok (.bipush 93, 2) := by decide +kernel
theorem d_Pr_writeStandby_17 : decode prog_7_method_5_code 17 = .ok (.aload_n 1, 1) := by decide +kernel
theorem d_Pr_writeStandby_18 : decode prog_7_method_5_code 18 = .ok (.getfield 104, 3) := by decide +kernel
theorem d_Pr_writeStandby_21 : decode prog_7_method_5_code 21 = .ok (.invokevirtual 33, 3) := by decide +kernel
theorem d_Pr_writeStandby_24 : decode prog_7_method_5_code 24 = .ok (.aload_n 0, 1) := by decide +kernel
theorem d_Pr_writeStandby_25 : decode prog_7_method_5_code 25 = .ok (.bipush 58, 2) := by decide +kernel
theorem d_Pr_writeStandby_27 : decode prog_7_method_5_code 27 = .ok (.aload_n 1, 1) := by decide +kernel
theorem d_Pr_writeStandby_28 : decode prog_7_method_5_code 28 = .ok (.getfield 107, 3) := by decide +kernel
theorem d_Pr_writeStandby_31 : decode prog_7_method_5_code 31 = .ok (.invokevirtual 33, 3) := by decide +kernel
theorem d_Pr_writeStandby_34 : decode prog_7_method_5_code 34 = .ok (.aload_n 0, 1) := by decide +kernel
theorem d_Pr_writeStandby_35 : decode prog_7_method_5_code 35 = .ok (.aload_n 1, 1) := by decide +kernel
theorem d_Pr_writeStandby_36 : decode prog_7_method_5_code 36 = .ok (.getfield 110, 3) := by decide +kernel
theorem d_Pr_writeStandby_39 : decode prog_7_method_5_code 39 = .ok (.invokevirtual 113, 3) := by decide +kernel
theorem d_Pr_writeStandby_42 : decode prog_7_method_5_code 42 = .ok (.aload_n 0, 1) := by decide +kernel
theorem d_Pr_writeStandby_43 : decode prog_7_method_5_code 43 = .ok (.bipush 59, 2) := by decide +kernel
theorem d_Pr_writeStandby_45 : decode prog_7_method_5_code 45 = .ok (.invokevirtual 90, 3) := by decide +kernel
theorem d_Pr_writeStandby_48 : decode prog_7_method_5_code 48 = .ok (.return_, 1) := by decide +kernel
def D_Pr_writeStandby (h0 : Nat) (p0 : Option Nat) (S : gS) : Option gS := Option.bind (gOb S h0 6) (fun fs2 => Option.bind (D_Pr_write h0 115 S) (fun S1 => Option.bind p0 (fun a3 => Option.bind (gRf S1 a3 8 0) (fun r4 => Option.bind (gOb S1 h0 6) (fun fs6 => Option.bind (D_Pr_writeHours h0 r4 S1) (fun S5 => Option.bind (gI S5 a3 8 1) (fun v7 => Option.bind (gOb S5 h0 6) (fun fs9 => Option.bind (D_Pr_writeNumber h0 93 v7 S5) (fun S8 => Option.bind (gI S8 a3 8 2) (fun v10 => Option.bind (gOb S8 h0 6) (fun fs12 => Option.bind (D_Pr_writeNumber h0 58 v10 S8) (fun S11 => Option.bind (gI S11 a3 8 3) (fun v13 => Option.bind (gOb S11 h0 6) (fun fs15 => Option.bind (D_Pr_writeSkill h0 v13 S11) (fun S14 => Option.bind (gOb S14 h0 6) (fun fs17 => Option.bind (D_Pr_write h0 59 S14) (fun S16 => some S16)))))))))))))))))
set_option maxRecDepth 100000 in
set_option maxHeartbeats 4000000 in
theorem c_Pr_writeStandby {D : va_G} {cT : Nat → ClassId} {H0 : Heap} {l : Launch} {S : gS} {S' : gS} {h0 : Nat} {p0 : Option Nat} (hden : D_Pr_writeStandby h0 p0 S = some S') : gM D cT H0 l y_Pr_writeStandby (Cond.code y_Pr_writeStandby prog_7_method_5_code 2 (Option.none : Option Jvm.ClassFile.FieldType)) 3 64 [va_rf (some h0), va_rf p0] S S' (.inr none) := by
  refine gM.ofV (by decide) ?_
  intro p e s m args below meth c s₁ B hml ea X hZ hex hr hE
  subst ea
  have Y : gY D cT H0 p s m _ meth c prog_7_method_5_code 2 "PlanText$Printer" 3 64 S (Option.none : Option Jvm.ClassFile.FieldType) := ⟨X, hZ, hex, hr, hE⟩
  have hx := X.1
  have hb := X.2.1
  have hl := lv_entry ([va_rf (some h0), va_rf p0]) (n := 2) (by cases p0 <;> exact Nat.le_of_ble_eq_true rfl)
  rw [lg_entry_eq]
  generalize (lg_sl ([va_rf (some h0), va_rf p0]) ++ List.replicate (2 - (lg_sl ([va_rf (some h0), va_rf p0])).length) Slot.unset).toArray = ls at hl ⊢
  have hl : lv_has ls 2 [(0, va_rf (some h0)), (1, va_rf p0)] := by cases p0 <;> exact hl
  unfold D_Pr_writeStandby at hden
  refine gV.lift (fun _ _ _ _ => g_aload_n hx hb d_Pr_writeStandby_0 rfl (lv_at hl 0 rfl)) ?_
  refine gV.lift (fun _ _ _ _ => lv_bipush (v := 115) hx hb d_Pr_writeStandby_1 (by decide)) ?_
  replace hden := gb hden
  obtain ⟨fs2, ho, hden⟩ := hden
  replace hden := gb hden
  obtain ⟨S1, hz, hden⟩ := hden
  refine g_callV (As := [.int 115]) (rest := []) X hZ (c_Pr_write hz) cl_Pr (gOb_spec ho) q_716 q_4 q_713 q_715 qp_20 ⟨by decide, by decide, by show _ = some 1; decide +kernel⟩ ⟨by decide, by decide⟩ hl.1 (Nat.le_of_ble_eq_true rfl) d_Pr_writeStandby_3 rfl rfl ?_
  refine gV.lift (fun _ _ _ _ => g_aload_n hx hb d_Pr_writeStandby_6 rfl (lv_at hl 0 rfl)) ?_
  refine gV.lift (fun _ _ _ _ => g_aload_n hx hb d_Pr_writeStandby_7 rfl (lv_at hl 1 rfl)) ?_
  replace hden := gb hden
  obtain ⟨a3, rfl, hden⟩ := hden
  replace hden := gb hden
  obtain ⟨r4, hv, hden⟩ := hden
  refine r_getR X cl_Sb (k := 0) hv (by decide) q_483 d_Pr_writeStandby_8 ?_
  replace hden := gb hden
  obtain ⟨fs6, ho, hden⟩ := hden
  replace hden := gb hden
  obtain ⟨S5, hz, hden⟩ := hden
  refine g_callV (As := [va_rf r4]) (rest := []) X hZ (c_Pr_writeHours hz) cl_Pr (gOb_spec ho) q_721 q_4 q_718 q_720 qp_21 ⟨by decide, by decide, by show _ = some 1; decide +kernel⟩ ⟨by decide, by decide⟩ hl.1 (Nat.le_of_ble_eq_true rfl) d_Pr_writeStandby_11 rfl rfl ?_
  refine gV.lift (fun _ _ _ _ => g_aload_n hx hb d_Pr_writeStandby_14 rfl (lv_at hl 0 rfl)) ?_
  refine gV.lift (fun _ _ _ _ => lv_bipush (v := 93) hx hb d_Pr_writeStandby_15 (by decide)) ?_
  refine gV.lift (fun _ _ _ _ => g_aload_n hx hb d_Pr_writeStandby_17 rfl (lv_at hl 1 rfl)) ?_
  replace hden := gb hden
  obtain ⟨v7, hv, hden⟩ := hden
  refine r_getI X cl_Sb (k := 1) hv (by decide) q_485 d_Pr_writeStandby_18 ?_
  replace hden := gb hden
  obtain ⟨fs9, ho, hden⟩ := hden
  replace hden := gb hden
  obtain ⟨S8, hz, hden⟩ := hden
  refine g_callV (As := [.int 93, .int v7]) (rest := []) X hZ (c_Pr_writeNumber hz) cl_Pr (gOb_spec ho) q_712 q_4 q_709 q_711 qp_19 ⟨by decide, by decide, by show _ = some 2; decide +kernel⟩ ⟨by decide, by decide⟩ hl.1 (Nat.le_of_ble_eq_true rfl) d_Pr_writeStandby_21 rfl rfl ?_
  refine gV.lift (fun _ _ _ _ => g_aload_n hx hb d_Pr_writeStandby_24 rfl (lv_at hl 0 rfl)) ?_
  refine gV.lift (fun _ _ _ _ => lv_bipush (v := 58) hx hb d_Pr_writeStandby_25 (by decide)) ?_
  refine gV.lift (fun _ _ _ _ => g_aload_n hx hb d_Pr_writeStandby_27 rfl (lv_at hl 1 rfl)) ?_
  replace hden := gb hden
  obtain ⟨v10, hv, hden⟩ := hden
  refine r_getI X cl_Sb (k := 2) hv (by decide) q_487 d_Pr_writeStandby_28 ?_
  replace hden := gb hden
  obtain ⟨fs12, ho, hden⟩ := hden
  replace hden := gb hden
  obtain ⟨S11, hz, hden⟩ := hden
  refine g_callV (As := [.int 58, .int v10]) (rest := []) X hZ (c_Pr_writeNumber hz) cl_Pr (gOb_spec ho) q_712 q_4 q_709 q_711 qp_19 ⟨by decide, by decide, by show _ = some 2; decide +kernel⟩ ⟨by decide, by decide⟩ hl.1 (Nat.le_of_ble_eq_true rfl) d_Pr_writeStandby_31 rfl rfl ?_
  refine gV.lift (fun _ _ _ _ => g_aload_n hx hb d_Pr_writeStandby_34 rfl (lv_at hl 0 rfl)) ?_
  refine gV.lift (fun _ _ _ _ => g_aload_n hx hb d_Pr_writeStandby_35 rfl (lv_at hl 1 rfl)) ?_
  replace hden := gb hden
  obtain ⟨v13, hv, hden⟩ := hden
  refine r_getI X cl_Sb (k := 3) hv (by decide) q_490 d_Pr_writeStandby_36 ?_
  replace hden := gb hden
  obtain ⟨fs15, ho, hden⟩ := hden
  replace hden := gb hden
  obtain ⟨S14, hz, hden⟩ := hden
  refine g_callV (As := [.int v13]) (rest := []) X hZ (c_Pr_writeSkill hz) cl_Pr (gOb_spec ho) q_734 q_4 q_731 q_733 qp_24 ⟨by decide, by decide, by show _ = some 1; decide +kernel⟩ ⟨by decide, by decide⟩ hl.1 (Nat.le_of_ble_eq_true rfl) d_Pr_writeStandby_39 rfl rfl ?_
  refine gV.lift (fun _ _ _ _ => g_aload_n hx hb d_Pr_writeStandby_42 rfl (lv_at hl 0 rfl)) ?_
  refine gV.lift (fun _ _ _ _ => lv_bipush (v := 59) hx hb d_Pr_writeStandby_43 (by decide)) ?_
  replace hden := gb hden
  obtain ⟨fs17, ho, hden⟩ := hden
  replace hden := gb hden
  obtain ⟨S16, hz, hden⟩ := hden
  refine g_callV (As := [.int 59]) (rest := []) X hZ (c_Pr_write hz) cl_Pr (gOb_spec ho) q_716 q_4 q_713 q_715 qp_20 ⟨by decide, by decide, by show _ = some 1; decide +kernel⟩ ⟨by decide, by decide⟩ hl.1 (Nat.le_of_ble_eq_true rfl) d_Pr_writeStandby_45 rfl rfl ?_
  obtain rfl := gsi hden
  exact g_vret X hr d_Pr_writeStandby_48
/-! PlanText$Printer.writeEdition(LPlanText$Edition;)V -/
abbrev y_Pr_writeEdition : MethodName := ⟨"PlanText$Printer", "writeEdition", "(LPlanText$Edition;)V"⟩
theorem d_Pr_writeEdition_0 : decode prog_7_method_3_code 0 = .ok (.aload_n 0, 1) := by decide +kernel
theorem d_Pr_writeEdition_1 : decode prog_7_method_3_code 1 = .ok (.iconst 0, 1) := by decide +kernel
theorem d_Pr_writeEdition_2 : decode prog_7_method_3_code 2 = .ok (.putfield 15, 3) := by decide +kernel
theorem d_Pr_writeEdition_5 : decode prog_7_method_3_code 5 = .ok (.iconst 1, 1) := by decide +kernel
theorem d_Pr_writeEdition_6 : decode prog_7_method_3_code 6 = .ok (.istore_n 2, 1) := by decide +kernel
theorem d_Pr_writeEdition_7 : decode prog_7_method_3_code 7 = .ok (.iload_n 2, 1) := by decide +kernel
theorem d_Pr_writeEdition_8 : decode prog_7_method_3_code 8 = .ok (.bipush 40, 2) := by decide +kernel
theorem d_Pr_writeEdition_10 : decode prog_7_method_3_code 10 = .ok (.if_icmp .gt 24, 3) := by decide +kernel
theorem d_Pr_writeEdition_13 : decode prog_7_method_3_code 13 = .ok (.aload_n 1, 1) := by decide +kernel
theorem d_Pr_writeEdition_14 : decode prog_7_method_3_code 14 = .ok (.iload_n 2, 1) := by decide +kernel
theorem d_Pr_writeEdition_15 : decode prog_7_method_3_code 15 = .ok (.invokevirtual 19, 3) := by decide +kernel
theorem d_Pr_writeEdition_18 : decode prog_7_method_3_code 18 = .ok (.astore_n 3, 1) := by decide +kernel
theorem d_Pr_writeEdition_19 : decode prog_7_method_3_code 19 = .ok (.aload_n 3, 1) := by decide +kernel
theorem d_Pr_writeEdition_20 : decode prog_7_method_3_code 20 = .ok (.ifnull 8, 3) := by decide +kernel
theorem d_Pr_writeEdition_23 : decode prog_7_method_3_code 23 = .ok (.aload_n 0, 1) := by decide +kernel
theorem d_Pr_writeEdition_24 : decode prog_7_method_3_code 24 = .ok (.aload_n 3, 1) := by decide +kernel
theorem d_Pr_writeEdition_25 : decode prog_7_method_3_code 25 = .ok (.invokevirtual 25, 3) := by decide +kernel
theorem d_Pr_writeEdition_28 : decode prog_7_method_3_code 28 = .ok (.iinc 2 1, 3) := by decide +kernel
theorem d_Pr_writeEdition_31 : decode prog_7_method_3_code 31 = .ok (.goto (-24), 3) := by decide +kernel
theorem d_Pr_writeEdition_34 : decode prog_7_method_3_code 34 = .ok (.iconst 1, 1) := by decide +kernel
theorem d_Pr_writeEdition_35 : decode prog_7_method_3_code 35 = .ok (.istore_n 2, 1) := by decide +kernel
theorem d_Pr_writeEdition_36 : decode prog_7_method_3_code 36 = .ok (.iload_n 2, 1) := by decide +kernel
theorem d_Pr_writeEdition_37 : decode prog_7_method_3_code 37 = .ok (.bipush 9, 2) := by decide +kernel
theorem d_Pr_writeEdition_39 : decode prog_7_method_3_code 39 = .ok (.if_icmp .gt 31, 3) := by decide +kernel
theorem d_Pr_writeEdition_42 : decode prog_7_method_3_code 42 = .ok (.aload_n 1, 1) := by decide +kernel
theorem d_Pr_writeEdition_43 : decode prog_7_method_3_code 43 = .ok (.iload_n 2, 1) := by decide +kernel
theorem d_Pr_writeEdition_44 : decode prog_7_method_3_code 44 = .ok (.invokevirtual 29, 3) := by decide +kernel
theorem d_Pr_writeEdition_47 : decode prog_7_method_3_code 47 = .ok (.astore_n 3, 1) := by decide +kernel
theorem d_Pr_writeEdition_48 : decode prog_7_method_3_code 48 = .ok (.aload_n 3, 1) := by decide +kernel
theorem d_Pr_writeEdition_49 : decode prog_7_method_3_code 49 = .ok (.ifnull 15, 3) := by decide +kernel
theorem d_Pr_writeEdition_52 : decode prog_7_method_3_code 52 = .ok (.aload_n 0, 1) := by decide +kernel
theorem d_Pr_writeEdition_53 : decode prog_7_method_3_code 53 = .ok (.bipush 100, 2) := by decide +kernel
theorem d_Pr_writeEdition_55 : decode prog_7_method_3_code 55 = .ok (.iload_n 2, 1) := by decide +kernel
theorem d_Pr_writeEdition_56 : decode prog_7_method_3_code 56 = .ok (.invokevirtual 33, 3) := by decide +kernel
theorem d_Pr_writeEdition_59 : decode prog_7_method_3_code 59 = .ok (.aload_n 0, 1) := by decide +kernel
theorem d_Pr_writeEdition_60 : decode prog_7_method_3_code 60 = .ok (.aload_n 3, 1) := by decide +kernel
theorem d_Pr_writeEdition_61 : decode prog_7_method_3_code 61 = .ok (.invokevirtual 37, 3) := by decide +kernel
theorem d_Pr_writeEdition_64 : decode prog_7_method_3_code 64 = .ok (.iinc 2 1, 3) := by decide +kernel
theorem d_Pr_writeEdition_67 : decode prog_7_method_3_code 67 = .ok (.goto (-31), 3) := by decide +kernel
theorem d_Pr_writeEdition_70 : decode prog_7_method_3_code 70 = .ok (.iconst 0, 1) := by decide +kernel
theorem d_Pr_writeEdition_71 : decode prog_7_method_3_code 71 = .ok (.istore_n 2, 1) := by decide +kernel
theorem d_Pr_writeEdition_72 : decode prog_7_method_3_code 72 = .ok (.iload_n 2, 1) := by decide +kernel
theorem d_Pr_writeEdition_73 : decode prog_7_method_3_code 73 = .ok (.bipush 8, 2) := by decide +kernel
theorem d_Pr_writeEdition_75 : decode prog_7_method_3_code 75 = .ok (.if_icmp .ge 24, 3) := by decide +kernel
theorem d_Pr_writeEdition_78 : decode prog_7_method_3_code 78 = .ok (.aload_n 1, 1) := by decide +kernel
theorem d_Pr_writeEdition_79 : decode prog_7_method_3_code 79 = .ok (.iload_n 2, 1) := by decide +kernel
theorem d_Pr_writeEdition_80 : decode prog_7_method_3_code 80 = .ok (.invokevirtual 41, 3) := by decide +kernel
theorem d_Pr_writeEdition_83 : decode prog_7_method_3_code 83 = .ok (.astore_n 3, 1) := by decide +kernel
theorem d_Pr_writeEdition_84 : decode prog_7_method_3_code 84 = .ok (.aload_n 3, 1) := by decide +kernel
theorem d_Pr_writeEdition_85 : decode prog_7_method_3_code 85 = .ok (.ifnull 8, 3) := by decide +kernel
theorem d_Pr_writeEdition_88 : decode prog_7_method_3_code 88 = .ok (.aload_n 0, 1) := by decide +kernel
theorem d_Pr_writeEdition_89 : decode prog_7_method_3_code 89 = .ok (.aload_n 3, 1) := by decide +kernel
theorem d_Pr_writeEdition_90 : decode prog_7_method_3_code 90 = .ok (.invokevirtual 45, 3) := by decide +kernel
theorem d_Pr_writeEdition_93 : decode prog_7_method_3_code 93 = .ok (.iinc 2 1, 3) := by decide +kernel
theorem d_Pr_writeEdition_96 : decode prog_7_method_3_code 96 = .ok (.goto (-24), 3) := by decide +kernel
theorem d_Pr_writeEdition_99 : decode prog_7_method_3_code 99 = .ok (.return_, 1) := by decide +kernel
def B_Pr_writeEdition_93 (k72 : Nat → Option Nat → Int32 → gS → Option gS) (x0 : Nat) (x1 : Option Nat) (x2 : Int32) (S : gS) : Option gS := k72 x0 x1 (x2 + 1) S
set_option maxRecDepth 100000 in
set_option maxHeartbeats 4000000 in
theorem w_Pr_writeEdition_93 {D : va_G} {cT : Nat → ClassId} {H0 : Heap} {l : Launch} {p : Program} {e : Env} {s : State} {m : MethodId} {args : Array Value} {below : List Frame} {meth : Method} {c : Code} {S0 : gS} {S' : gS} (Y : gY D cT H0 p s m args meth c prog_7_method_3_code 4 "PlanText$Printer" 5 108 S0 (Option.none : Option Jvm.ClassFile.FieldType)) {k72 : Nat → Option Nat → Int32 → gS → Option gS} (hk72 : ∀ (x0 : Nat) (x1 : Option Nat) (x2 : Int32) (S : gS) (ls : Array Slot), k72 x0 x1 x2 S = some S' → lv_has ls 4 [(0, va_rf (some x0)), (1, va_rf x1), (2, .int x2)] → gV D cT H0 p l e (gRm 5 108 S0) s m args below meth c (gQ D cT H0 below S0 S' (.inr none) s) S0 S (F0 m 72 ls [])) (x0 : Nat) (x1 : Option Nat) (x2 : Int32) (S : gS) (hden : B_Pr_writeEdition_93 k72 x0 x1 x2 S = some S') {ls : Array Slot} (hl : lv_has ls 4 [(0, va_rf (some x0)), (1, va_rf x1), (2, .int x2)]) : gV D cT H0 p l e (gRm 5 108 S0) s m args below meth c (gQ D cT H0 below S0 S' (.inr none) s) S0 S (F0 m 93 ls []) := by
  obtain ⟨X, hZ, hex, hr, hE⟩ := id Y
  have hx := X.1
  have hb := X.2.1
  unfold B_Pr_writeEdition_93 at hden
  refine gV.liftS (nL := 4) (lv' := [(2, .int (x2 + 1)), (0, va_rf (some x0)), (1, va_rf x1)]) (fun _ _ _ _ => lv_iinc (v := (x2 + 1)) hx hb d_Pr_writeEdition_93 hl (k := 2) rfl rfl (by decide) (by cases x1 <;> rfl)) (fun ls hl => ?_)
  refine gV.lift (fun _ _ _ _ => lv_goto (tgt := 72) hx hb d_Pr_writeEdition_96 (by decide)) ?_
  exact hk72 x0 x1 (x2 + 1) S _ hden (lv_sub hl [1, 2, 0] rfl)
def B_Pr_writeEdition_72 (k72 : Nat → Option Nat → Int32 → gS → Option gS) (x0 : Nat) (x1 : Option Nat) (x2 : Int32) (S : gS) : Option gS := (if 8 ≤ x2 then some S else Option.bind x1 (fun a2 => Option.bind (gOb S a2 1) (fun fs5 => gB2 (D_Ed_standbyRow a2 x2 S) (fun r4 S3 => gNul r4 (B_Pr_writeEdition_93 k72 x0 (some a2) x2 S3) (fun a6 => Option.bind (gOb S3 x0 6) (fun fs8 => Option.bind (D_Pr_writeStandby x0 (some a6) S3) (fun S7 => B_Pr_writeEdition_93 k72 x0 (some a2) x2 S7)))))))
set_option maxRecDepth 100000 in
set_option maxHeartbeats 4000000 in
theorem w_Pr_writeEdition_72 {D : va_G} {cT : Nat → ClassId} {H0 : Heap} {l : Launch} {p : Program} {e : Env} {s : State} {m : MethodId} {args : Array Value} {below : List Frame} {meth : Method} {c : Code} {S0 : gS} {S' : gS} (Y : gY D cT H0 p s m args meth c prog_7_method_3_code 4 "PlanText$Printer" 5 108 S0 (Option.none : Option Jvm.ClassFile.FieldType)) {k72 : Nat → Option Nat → Int32 → gS → Option gS} (hk72 : ∀ (x0 : Nat) (x1 : Option Nat) (x2 : Int32) (S : gS) (ls : Array Slot), k72 x0 x1 x2 S = some S' → lv_has ls 4 [(0, va_rf (some x0)), (1, va_rf x1), (2, .int x2)] → gV D cT H0 p l e (gRm 5 108 S0) s m args below meth c (gQ D cT H0 below S0 S' (.inr none) s) S0 S (F0 m 72 ls [])) (x0 : Nat) (x1 : Option Nat) (x2 : Int32) (S : gS) (hden : B_Pr_writeEdition_72 k72 x0 x1 x2 S = some S') {ls : Array Slot} (hl : lv_has ls 4 [(0, va_rf (some x0)), (1, va_rf x1), (2, .int x2)]) : gV D cT H0 p l e (gRm 5 108 S0) s m args below meth c (gQ D cT H0 below S0 S' (.inr none) s) S0 S (F0 m 72 ls []) := by
  obtain ⟨X, hZ, hex, hr, hE⟩ := id Y
  have hx := X.1
  have hb := X.2.1
  unfold B_Pr_writeEdition_72 at hden
  refine gV.lift (fun _ _ _ _ => lv_iload_n hx hb d_Pr_writeEdition_72 rfl (lv_at hl 2 rfl)) ?_
  refine gV.lift (fun _ _ _ _ => lv_bipush (v := 8) hx hb d_Pr_writeEdition_73 (by decide)) ?_
  refine gV.lift2 (fun _ _ _ _ => lv_icmp_ge (tgt := 99) hx hb d_Pr_writeEdition_75 (by decide)) (fun hc1 => ?_) (fun hc1 => ?_)
  · replace hden := gip hc1 hden
    obtain rfl := gsi hden
    exact g_vret X hr d_Pr_writeEdition_99
  · replace hden := gin hc1 hden
    refine gV.lift (fun _ _ _ _ => g_aload_n hx hb d_Pr_writeEdition_78 rfl (lv_at hl 1 rfl)) ?_
    refine gV.lift (fun _ _ _ _ => lv_iload_n hx hb d_Pr_writeEdition_79 rfl (lv_at hl 2 rfl)) ?_
    replace hden := gb hden
    obtain ⟨a2, rfl, hden⟩ := hden
    replace hden := gb hden
    obtain ⟨fs5, ho, hden⟩ := hden
    replace hden := gb2 hden
    obtain ⟨r4, S3, hz, hden⟩ := hden
    refine g_callV (As := [.int x2]) (rest := []) X hZ (c_Ed_standbyRow hz) cl_Ed (gOb_spec ho) q_614 q_2 q_736 q_612 q_613 ⟨by decide, by decide, by show _ = some 1; decide +kernel⟩ ⟨by decide, by decide⟩ hl.1 (Nat.le_of_ble_eq_true rfl) d_Pr_writeEdition_80 rfl rfl ?_
    refine gV.liftS (nL := 4) (lv' := [(3, va_rf r4), (0, va_rf (some x0)), (1, va_rf (some a2)), (2, .int x2)]) (fun _ _ _ _ => g_astore_n hx hb d_Pr_writeEdition_83 rfl hl (by decide) rfl) (fun ls hl => ?_)
    refine gV.lift (fun _ _ _ _ => g_aload_n hx hb d_Pr_writeEdition_84 rfl (lv_at hl 0 rfl)) ?_
    rcases r4 with _ | a6
    · replace hden := gN0 hden
      refine gV.lift (fun _ _ _ _ => lv_ifnullN (tgt := 93) hx hb d_Pr_writeEdition_85 (by decide)) ?_
      exact w_Pr_writeEdition_93 Y hk72 x0 (some a2) x2 S3 hden (lv_sub hl [1, 2, 3] rfl)
    · replace hden := gN1 hden
      refine gV.lift (fun _ _ _ _ => lv_ifnull hx hb d_Pr_writeEdition_85) ?_
      refine gV.lift (fun _ _ _ _ => g_aload_n hx hb d_Pr_writeEdition_88 rfl (lv_at hl 1 rfl)) ?_
      refine gV.lift (fun _ _ _ _ => g_aload_n hx hb d_Pr_writeEdition_89 rfl (lv_at hl 0 rfl)) ?_
      replace hden := gb hden
      obtain ⟨fs8, ho, hden⟩ := hden
      replace hden := gb hden
      obtain ⟨S7, hz, hden⟩ := hden
      refine g_callV (As := [va_rf (some a6)]) (rest := []) X hZ (c_Pr_writeStandby hz) cl_Pr (gOb_spec ho) q_740 q_4 q_737 q_739 qp_25 ⟨by decide, by decide, by show _ = some 1; decide +kernel⟩ ⟨by decide, by decide⟩ hl.1 (Nat.le_of_ble_eq_true rfl) d_Pr_writeEdition_90 rfl rfl ?_
      exact w_Pr_writeEdition_93 Y hk72 x0 (some a2) x2 S7 hden (lv_sub hl [1, 2, 3] rfl)
def L_Pr_writeEdition_72  : Nat → Nat → Option Nat → Int32 → gS → Option gS
  | 0 => fun _ _ _ _ => none
  | n + 1 => fun x0 x1 x2 S => B_Pr_writeEdition_72  (L_Pr_writeEdition_72  n) x0 x1 x2 S
theorem wL_Pr_writeEdition_72 {D : va_G} {cT : Nat → ClassId} {H0 : Heap} {l : Launch} {p : Program} {e : Env} {s : State} {m : MethodId} {args : Array Value} {below : List Frame} {meth : Method} {c : Code} {S0 : gS} {S' : gS} (Y : gY D cT H0 p s m args meth c prog_7_method_3_code 4 "PlanText$Printer" 5 108 S0 (Option.none : Option Jvm.ClassFile.FieldType))  : ∀ (n : Nat) (x0 : Nat) (x1 : Option Nat) (x2 : Int32) (S : gS) (ls : Array Slot), L_Pr_writeEdition_72  n x0 x1 x2 S = some S' → lv_has ls 4 [(0, va_rf (some x0)), (1, va_rf x1), (2, .int x2)] → gV D cT H0 p l e (gRm 5 108 S0) s m args below meth c (gQ D cT H0 below S0 S' (.inr none) s) S0 S (F0 m 72 ls []) := by
  intro n
  induction n with
  | zero => intro x0 x1 x2 S ls h hl; cases h
  | succ n ih => intro x0 x1 x2 S ls h hl; exact w_Pr_writeEdition_72 Y ih x0 x1 x2 S h hl
def B_Pr_writeEdition_64 (k36 : Nat → Option Nat → Int32 → gS → Option gS) (x0 : Nat) (x1 : Option Nat) (x2 : Int32) (S : gS) : Option gS := k36 x0 x1 (x2 + 1) S
set_option maxRecDepth 100000 in
set_option maxHeartbeats 4000000 in
theorem w_Pr_writeEdition_64 {D : va_G} {cT : Nat → ClassId} {H0 : Heap} {l : Launch} {p : Program} {e : Env} {s : State} {m : MethodId} {args : Array Value} {below : List Frame} {meth : Method} {c : Code} {S0 : gS} {S' : gS} (Y : gY D cT H0 p s m args meth c prog_7_method_3_code 4 "PlanText$Printer" 5 108 S0 (Option.none : Option Jvm.ClassFile.FieldType)) {k36 : Nat → Option Nat → Int32 → gS → Option gS} (hk36 : ∀ (x0 : Nat) (x1 : Option Nat) (x2 : Int32) (S : gS) (ls : Array Slot), k36 x0 x1 x2 S = some S' → lv_has ls 4 [(0, va_rf (some x0)), (1, va_rf x1), (2, .int x2)] → gV D cT H0 p l e (gRm 5 108 S0) s m args below meth c (gQ D cT H0 below S0 S' (.inr none) s) S0 S (F0 m 36 ls [])) (x0 : Nat) (x1 : Option Nat) (x2 : Int32) (S : gS) (hden : B_Pr_writeEdition_64 k36 x0 x1 x2 S = some S') {ls : Array Slot} (hl : lv_has ls 4 [(0, va_rf (some x0)), (1, va_rf x1), (2, .int x2)]) : gV D cT H0 p l e (gRm 5 108 S0) s m args below meth c (gQ D cT H0 below S0 S' (.inr none) s) S0 S (F0 m 64 ls []) := by
  obtain ⟨X, hZ, hex, hr, hE⟩ := id Y
  have hx := X.1
  have hb := X.2.1
  unfold B_Pr_writeEdition_64 at hden
  refine gV.liftS (nL := 4) (lv' := [(2, .int (x2 + 1)), (0, va_rf (some x0)), (1, va_rf x1)]) (fun _ _ _ _ => lv_iinc (v := (x2 + 1)) hx hb d_Pr_writeEdition_64 hl (k := 2) rfl rfl (by decide) (by cases x1 <;> rfl)) (fun ls hl => ?_)
  refine gV.lift (fun _ _ _ _ => lv_goto (tgt := 36) hx hb d_Pr_writeEdition_67 (by decide)) ?_
  exact hk36 x0 x1 (x2 + 1) S _ hden (lv_sub hl [1, 2, 0] rfl)
def B_Pr_writeEdition_36 (k36 : Nat → Option Nat → Int32 → gS → Option gS) (x0 : Nat) (x1 : Option Nat) (x2 : Int32) (S : gS) : Option gS := (if 9 < x2 then L_Pr_writeEdition_72  gF x0 x1 0 S else Option.bind x1 (fun a2 => Option.bind (gOb S a2 1) (fun fs5 => gB2 (D_Ed_defaultNeeds a2 x2 S) (fun r4 S3 => gNul r4 (B_Pr_writeEdition_64 k36 x0 (some a2) x2 S3) (fun a6 => Option.bind (gOb S3 x0 6) (fun fs8 => Option.bind (D_Pr_writeNumber x0 100 x2 S3) (fun S7 => Option.bind (gOb S7 x0 6) (fun fs10 => Option.bind (D_Pr_writeNeeds x0 (some a6) S7) (fun S9 => B_Pr_writeEdition_64 k36 x0 (some a2) x2 S9)))))))))
set_option maxRecDepth 100000 in
set_option maxHeartbeats 4000000 in
theorem w_Pr_writeEdition_36 {D : va_G} {cT : Nat → ClassId} {H0 : Heap} {l : Launch} {p : Program} {e : Env} {s : State} {m : MethodId} {args : Array Value} {below : List Frame} {meth : Method} {c : Code} {S0 : gS} {S' : gS} (Y : gY D cT H0 p s m args meth c prog_7_method_3_code 4 "PlanText$Printer" 5 108 S0 (Option.none : Option Jvm.ClassFile.FieldType)) {k36 : Nat → Option Nat → Int32 → gS → Option gS} (hk36 : ∀ (x0 : Nat) (x1 : Option Nat) (x2 : Int32) (S : gS) (ls : Array Slot), k36 x0 x1 x2 S = some S' → lv_has ls 4 [(0, va_rf (some x0)), (1, va_rf x1), (2, .int x2)] → gV D cT H0 p l e (gRm 5 108 S0) s m args below meth c (gQ D cT H0 below S0 S' (.inr none) s) S0 S (F0 m 36 ls [])) (x0 : Nat) (x1 : Option Nat) (x2 : Int32) (S : gS) (hden : B_Pr_writeEdition_36 k36 x0 x1 x2 S = some S') {ls : Array Slot} (hl : lv_has ls 4 [(0, va_rf (some x0)), (1, va_rf x1), (2, .int x2)]) : gV D cT H0 p l e (gRm 5 108 S0) s m args below meth c (gQ D cT H0 below S0 S' (.inr none) s) S0 S (F0 m 36 ls []) := by
  obtain ⟨X, hZ, hex, hr, hE⟩ := id Y
  have hx := X.1
  have hb := X.2.1
  unfold B_Pr_writeEdition_36 at hden
  refine gV.lift (fun _ _ _ _ => lv_iload_n hx hb d_Pr_writeEdition_36 rfl (lv_at hl 2 rfl)) ?_
  refine gV.lift (fun _ _ _ _ => lv_bipush (v := 9) hx hb d_Pr_writeEdition_37 (by decide)) ?_
  refine gV.lift2 (fun _ _ _ _ => lv_icmp_gt (tgt := 70) hx hb d_Pr_writeEdition_39 (by decide)) (fun hc1 => ?_) (fun hc1 => ?_)
  · replace hden := gip hc1 hden
    refine gV.lift (fun _ _ _ _ => lv_iconst (v := 0) hx hb d_Pr_writeEdition_70 (by decide)) ?_
    refine gV.liftS (nL := 4) (lv' := [(2, .int 0), (0, va_rf (some x0)), (1, va_rf x1)]) (fun _ _ _ _ => lv_istore_n hx hb d_Pr_writeEdition_71 rfl hl (by decide) (by cases x1 <;> rfl)) (fun ls hl => ?_)
    exact wL_Pr_writeEdition_72 Y  gF x0 x1 0 S _ hden (lv_sub hl [1, 2, 0] rfl)
  · replace hden := gin hc1 hden
    refine gV.lift (fun _ _ _ _ => g_aload_n hx hb d_Pr_writeEdition_42 rfl (lv_at hl 1 rfl)) ?_
    refine gV.lift (fun _ _ _ _ => lv_iload_n hx hb d_Pr_writeEdition_43 rfl (lv_at hl 2 rfl)) ?_
    replace hden := gb hden
    obtain ⟨a2, rfl, hden⟩ := hden
    replace hden := gb hden
    obtain ⟨fs5, ho, hden⟩ := hden
    replace hden := gb2 hden
    obtain ⟨r4, S3, hz, hden⟩ := hden
    refine g_callV (As := [.int x2]) (rest := []) X hZ (c_Ed_defaultNeeds hz) cl_Ed (gOb_spec ho) q_463 q_2 q_735 q_461 q_462 ⟨by decide, by decide, by show _ = some 1; decide +kernel⟩ ⟨by decide, by decide⟩ hl.1 (Nat.le_of_ble_eq_true rfl) d_Pr_writeEdition_44 rfl rfl ?_
    refine gV.liftS (nL := 4) (lv' := [(3, va_rf r4), (0, va_rf (some x0)), (1, va_rf (some a2)), (2, .int x2)]) (fun _ _ _ _ => g_astore_n hx hb d_Pr_writeEdition_47 rfl hl (by decide) rfl) (fun ls hl => ?_)
    refine gV.lift (fun _ _ _ _ => g_aload_n hx hb d_Pr_writeEdition_48 rfl (lv_at hl 0 rfl)) ?_
    rcases r4 with _ | a6
    · replace hden := gN0 hden
      refine gV.lift (fun _ _ _ _ => lv_ifnullN (tgt := 64) hx hb d_Pr_writeEdition_49 (by decide)) ?_
      exact w_Pr_writeEdition_64 Y hk36 x0 (some a2) x2 S3 hden (lv_sub hl [1, 2, 3] rfl)
    · replace hden := gN1 hden
      refine gV.lift (fun _ _ _ _ => lv_ifnull hx hb d_Pr_writeEdition_49) ?_
      refine gV.lift (fun _ _ _ _ => g_aload_n hx hb d_Pr_writeEdition_52 rfl (lv_at hl 1 rfl)) ?_
      refine gV.lift (fun _ _ _ _ => lv_bipush (v := 100) hx hb d_Pr_writeEdition_53 (by decide)) ?_
      refine gV.lift (fun _ _ _ _ => lv_iload_n hx hb d_Pr_writeEdition_55 rfl (lv_at hl 3 rfl)) ?_
      replace hden := gb hden
      obtain ⟨fs8, ho, hden⟩ := hden
      replace hden := gb hden
      obtain ⟨S7, hz, hden⟩ := hden
      refine g_callV (As := [.int 100, .int x2]) (rest := []) X hZ (c_Pr_writeNumber hz) cl_Pr (gOb_spec ho) q_712 q_4 q_709 q_711 qp_19 ⟨by decide, by decide, by show _ = some 2; decide +kernel⟩ ⟨by decide, by decide⟩ hl.1 (Nat.le_of_ble_eq_true rfl) d_Pr_writeEdition_56 rfl rfl ?_
      refine gV.lift (fun _ _ _ _ => g_aload_n hx hb d_Pr_writeEdition_59 rfl (lv_at hl 1 rfl)) ?_
      refine gV.lift (fun _ _ _ _ => g_aload_n hx hb d_Pr_writeEdition_60 rfl (lv_at hl 0 rfl)) ?_
      replace hden := gb hden
      obtain ⟨fs10, ho, hden⟩ := hden
      replace hden := gb hden
      obtain ⟨S9, hz, hden⟩ := hden
      refine g_callV (As := [va_rf (some a6)]) (rest := []) X hZ (c_Pr_writeNeeds hz) cl_Pr (gOb_spec ho) q_725 q_4 q_722 q_724 qp_22 ⟨by decide, by decide, by show _ = some 1; decide +kernel⟩ ⟨by decide, by decide⟩ hl.1 (Nat.le_of_ble_eq_true rfl) d_Pr_writeEdition_61 rfl rfl ?_
      exact w_Pr_writeEdition_64 Y hk36 x0 (some a2) x2 S9 hden (lv_sub hl [1, 2, 3] rfl)
def L_Pr_writeEdition_36  : Nat → Nat → Option Nat → Int32 → gS → Option gS
  | 0 => fun _ _ _ _ => none
  | n + 1 => fun x0 x1 x2 S => B_Pr_writeEdition_36  (L_Pr_writeEdition_36  n) x0 x1 x2 S
theorem wL_Pr_writeEdition_36 {D : va_G} {cT : Nat → ClassId} {H0 : Heap} {l : Launch} {p : Program} {e : Env} {s : State} {m : MethodId} {args : Array Value} {below : List Frame} {meth : Method} {c : Code} {S0 : gS} {S' : gS} (Y : gY D cT H0 p s m args meth c prog_7_method_3_code 4 "PlanText$Printer" 5 108 S0 (Option.none : Option Jvm.ClassFile.FieldType))  : ∀ (n : Nat) (x0 : Nat) (x1 : Option Nat) (x2 : Int32) (S : gS) (ls : Array Slot), L_Pr_writeEdition_36  n x0 x1 x2 S = some S' → lv_has ls 4 [(0, va_rf (some x0)), (1, va_rf x1), (2, .int x2)] → gV D cT H0 p l e (gRm 5 108 S0) s m args below meth c (gQ D cT H0 below S0 S' (.inr none) s) S0 S (F0 m 36 ls []) := by
  intro n
  induction n with
  | zero => intro x0 x1 x2 S ls h hl; cases h
  | succ n ih => intro x0 x1 x2 S ls h hl; exact w_Pr_writeEdition_36 Y ih x0 x1 x2 S h hl
def B_Pr_writeEdition_28 (k7 : Nat → Option Nat → Int32 → gS → Option gS) (x0 : Nat) (x1 : Option Nat) (x2 : Int32) (S : gS) : Option gS := k7 x0 x1 (x2 + 1) S
set_option maxRecDepth 100000 in
set_option maxHeartbeats 4000000 in
theorem w_Pr_writeEdition_28 {D : va_G} {cT : Nat → ClassId} {H0 : Heap} {l : Launch} {p : Program} {e : Env} {s : State} {m : MethodId} {args : Array Value} {below : List Frame} {meth : Method} {c : Code} {S0 : gS} {S' : gS} (Y : gY D cT H0 p s m args meth c prog_7_method_3_code 4 "PlanText$Printer" 5 108 S0 (Option.none : Option Jvm.ClassFile.FieldType)) {k7 : Nat → Option Nat → Int32 → gS → Option gS} (hk7 : ∀ (x0 : Nat) (x1 : Option Nat) (x2 : Int32) (S : gS) (ls : Array Slot), k7 x0 x1 x2 S = some S' → lv_has ls 4 [(0, va_rf (some x0)), (1, va_rf x1), (2, .int x2)] → gV D cT H0 p l e (gRm 5 108 S0) s m args below meth c (gQ D cT H0 below S0 S' (.inr none) s) S0 S (F0 m 7 ls [])) (x0 : Nat) (x1 : Option Nat) (x2 : Int32) (S : gS) (hden : B_Pr_writeEdition_28 k7 x0 x1 x2 S = some S') {ls : Array Slot} (hl : lv_has ls 4 [(0, va_rf (some x0)), (1, va_rf x1), (2, .int x2)]) : gV D cT H0 p l e (gRm 5 108 S0) s m args below meth c (gQ D cT H0 below S0 S' (.inr none) s) S0 S (F0 m 28 ls []) := by
  obtain ⟨X, hZ, hex, hr, hE⟩ := id Y
  have hx := X.1
  have hb := X.2.1
  unfold B_Pr_writeEdition_28 at hden
  refine gV.liftS (nL := 4) (lv' := [(2, .int (x2 + 1)), (0, va_rf (some x0)), (1, va_rf x1)]) (fun _ _ _ _ => lv_iinc (v := (x2 + 1)) hx hb d_Pr_writeEdition_28 hl (k := 2) rfl rfl (by decide) (by cases x1 <;> rfl)) (fun ls hl => ?_)
  refine gV.lift (fun _ _ _ _ => lv_goto (tgt := 7) hx hb d_Pr_writeEdition_31 (by decide)) ?_
  exact hk7 x0 x1 (x2 + 1) S _ hden (lv_sub hl [1, 2, 0] rfl)
def B_Pr_writeEdition_7 (k7 : Nat → Option Nat → Int32 → gS → Option gS) (x0 : Nat) (x1 : Option Nat) (x2 : Int32) (S : gS) : Option gS := (if 40 < x2 then L_Pr_writeEdition_36  gF x0 x1 1 S else Option.bind x1 (fun a2 => Option.bind (gOb S a2 1) (fun fs5 => gB2 (D_Ed_planNumbered a2 x2 S) (fun r4 S3 => gNul r4 (B_Pr_writeEdition_28 k7 x0 (some a2) x2 S3) (fun a6 => Option.bind (gOb S3 x0 6) (fun fs8 => Option.bind (D_Pr_writePlan x0 (some a6) S3) (fun S7 => B_Pr_writeEdition_28 k7 x0 (some a2) x2 S7)))))))
set_option maxRecDepth 100000 in
set_option maxHeartbeats 4000000 in
theorem w_Pr_writeEdition_7 {D : va_G} {cT : Nat → ClassId} {H0 : Heap} {l : Launch} {p : Program} {e : Env} {s : State} {m : MethodId} {args : Array Value} {below : List Frame} {meth : Method} {c : Code} {S0 : gS} {S' : gS} (Y : gY D cT H0 p s m args meth c prog_7_method_3_code 4 "PlanText$Printer" 5 108 S0 (Option.none : Option Jvm.ClassFile.FieldType)) {k7 : Nat → Option Nat → Int32 → gS → Option gS} (hk7 : ∀ (x0 : Nat) (x1 : Option Nat) (x2 : Int32) (S : gS) (ls : Array Slot), k7 x0 x1 x2 S = some S' → lv_has ls 4 [(0, va_rf (some x0)), (1, va_rf x1), (2, .int x2)] → gV D cT H0 p l e (gRm 5 108 S0) s m args below meth c (gQ D cT H0 below S0 S' (.inr none) s) S0 S (F0 m 7 ls [])) (x0 : Nat) (x1 : Option Nat) (x2 : Int32) (S : gS) (hden : B_Pr_writeEdition_7 k7 x0 x1 x2 S = some S') {ls : Array Slot} (hl : lv_has ls 4 [(0, va_rf (some x0)), (1, va_rf x1), (2, .int x2)]) : gV D cT H0 p l e (gRm 5 108 S0) s m args below meth c (gQ D cT H0 below S0 S' (.inr none) s) S0 S (F0 m 7 ls []) := by
  obtain ⟨X, hZ, hex, hr, hE⟩ := id Y
  have hx := X.1
  have hb := X.2.1
  unfold B_Pr_writeEdition_7 at hden
  refine gV.lift (fun _ _ _ _ => lv_iload_n hx hb d_Pr_writeEdition_7 rfl (lv_at hl 2 rfl)) ?_
  refine gV.lift (fun _ _ _ _ => lv_bipush (v := 40) hx hb d_Pr_writeEdition_8 (by decide)) ?_
  refine gV.lift2 (fun _ _ _ _ => lv_icmp_gt (tgt := 34) hx hb d_Pr_writeEdition_10 (by decide)) (fun hc1 => ?_) (fun hc1 => ?_)
  · replace hden := gip hc1 hden
    refine gV.lift (fun _ _ _ _ => lv_iconst (v := 1) hx hb d_Pr_writeEdition_34 (by decide)) ?_
    refine gV.liftS (nL := 4) (lv' := [(2, .int 1), (0, va_rf (some x0)), (1, va_rf x1)]) (fun _ _ _ _ => lv_istore_n hx hb d_Pr_writeEdition_35 rfl hl (by decide) (by cases x1 <;> rfl)) (fun ls hl => ?_)
    exact wL_Pr_writeEdition_36 Y  gF x0 x1 1 S _ hden (lv_sub hl [1, 2, 0] rfl)
  · replace hden := gin hc1 hden
    refine gV.lift (fun _ _ _ _ => g_aload_n hx hb d_Pr_writeEdition_13 rfl (lv_at hl 1 rfl)) ?_
    refine gV.lift (fun _ _ _ _ => lv_iload_n hx hb d_Pr_writeEdition_14 rfl (lv_at hl 2 rfl)) ?_
    replace hden := gb hden
    obtain ⟨a2, rfl, hden⟩ := hden
    replace hden := gb hden
    obtain ⟨fs5, ho, hden⟩ := hden
    replace hden := gb2 hden
    obtain ⟨r4, S3, hz, hden⟩ := hden
    refine g_callV (As := [.int x2]) (rest := []) X hZ (c_Ed_planNumbered hz) cl_Ed (gOb_spec ho) q_303 q_2 q_704 q_301 q_302 ⟨by decide, by decide, by show _ = some 1; decide +kernel⟩ ⟨by decide, by decide⟩ hl.1 (Nat.le_of_ble_eq_true rfl) d_Pr_writeEdition_15 rfl rfl ?_
    refine gV.liftS (nL := 4) (lv' := [(3, va_rf r4), (0, va_rf (some x0)), (1, va_rf (some a2)), (2, .int x2)]) (fun _ _ _ _ => g_astore_n hx hb d_Pr_writeEdition_18 rfl hl (by decide) rfl) (fun ls hl => ?_)
    refine gV.lift (fun _ _ _ _ => g_aload_n hx hb d_Pr_writeEdition_19 rfl (lv_at hl 0 rfl)) ?_
    rcases r4 with _ | a6
    · replace hden := gN0 hden
      refine gV.lift (fun _ _ _ _ => lv_ifnullN (tgt := 28) hx hb d_Pr_writeEdition_20 (by decide)) ?_
      exact w_Pr_writeEdition_28 Y hk7 x0 (some a2) x2 S3 hden (lv_sub hl [1, 2, 3] rfl)
    · replace hden := gN1 hden
      refine gV.lift (fun _ _ _ _ => lv_ifnull hx hb d_Pr_writeEdition_20) ?_
      refine gV.lift (fun _ _ _ _ => g_aload_n hx hb d_Pr_writeEdition_23 rfl (lv_at hl 1 rfl)) ?_
      refine gV.lift (fun _ _ _ _ => g_aload_n hx hb d_Pr_writeEdition_24 rfl (lv_at hl 0 rfl)) ?_
      replace hden := gb hden
      obtain ⟨fs8, ho, hden⟩ := hden
      replace hden := gb hden
      obtain ⟨S7, hz, hden⟩ := hden
      refine g_callV (As := [va_rf (some a6)]) (rest := []) X hZ (c_Pr_writePlan hz) cl_Pr (gOb_spec ho) q_708 q_4 q_705 q_707 qp_18 ⟨by decide, by decide, by show _ = some 1; decide +kernel⟩ ⟨by decide, by decide⟩ hl.1 (Nat.le_of_ble_eq_true rfl) d_Pr_writeEdition_25 rfl rfl ?_
      exact w_Pr_writeEdition_28 Y hk7 x0 (some a2) x2 S7 hden (lv_sub hl [1, 2, 3] rfl)
def L_Pr_writeEdition_7  : Nat → Nat → Option Nat → Int32 → gS → Option gS
  | 0 => fun _ _ _ _ => none
  | n + 1 => fun x0 x1 x2 S => B_Pr_writeEdition_7  (L_Pr_writeEdition_7  n) x0 x1 x2 S
theorem wL_Pr_writeEdition_7 {D : va_G} {cT : Nat → ClassId} {H0 : Heap} {l : Launch} {p : Program} {e : Env} {s : State} {m : MethodId} {args : Array Value} {below : List Frame} {meth : Method} {c : Code} {S0 : gS} {S' : gS} (Y : gY D cT H0 p s m args meth c prog_7_method_3_code 4 "PlanText$Printer" 5 108 S0 (Option.none : Option Jvm.ClassFile.FieldType))  : ∀ (n : Nat) (x0 : Nat) (x1 : Option Nat) (x2 : Int32) (S : gS) (ls : Array Slot), L_Pr_writeEdition_7  n x0 x1 x2 S = some S' → lv_has ls 4 [(0, va_rf (some x0)), (1, va_rf x1), (2, .int x2)] → gV D cT H0 p l e (gRm 5 108 S0) s m args below meth c (gQ D cT H0 below S0 S' (.inr none) s) S0 S (F0 m 7 ls []) := by
  intro n
  induction n with
  | zero => intro x0 x1 x2 S ls h hl; cases h
  | succ n ih => intro x0 x1 x2 S ls h hl; exact w_Pr_writeEdition_7 Y ih x0 x1 x2 S h hl
def D_Pr_writeEdition (h0 : Nat) (p0 : Option Nat) (S : gS) : Option gS := Option.bind (gPut S h0 6 1 (.int 0)) (fun S1 => L_Pr_writeEdition_7  gF h0 p0 1 S1)
set_option maxRecDepth 100000 in
set_option maxHeartbeats 4000000 in
theorem c_Pr_writeEdition {D : va_G} {cT : Nat → ClassId} {H0 : Heap} {l : Launch} {S : gS} {S' : gS} {h0 : Nat} {p0 : Option Nat} (hden : D_Pr_writeEdition h0 p0 S = some S') : gM D cT H0 l y_Pr_writeEdition (Cond.code y_Pr_writeEdition prog_7_method_3_code 4 (Option.none : Option Jvm.ClassFile.FieldType)) 5 108 [va_rf (some h0), va_rf p0] S S' (.inr none) := by
  refine gM.ofV (by decide) ?_
  intro p e s m args below meth c s₁ B hml ea X hZ hex hr hE
  subst ea
  have Y : gY D cT H0 p s m _ meth c prog_7_method_3_code 4 "PlanText$Printer" 5 108 S (Option.none : Option Jvm.ClassFile.FieldType) := ⟨X, hZ, hex, hr, hE⟩
  have hx := X.1
  have hb := X.2.1
  have hl := lv_entry ([va_rf (some h0), va_rf p0]) (n := 4) (by cases p0 <;> exact Nat.le_of_ble_eq_true rfl)
  rw [lg_entry_eq]
  generalize (lg_sl ([va_rf (some h0), va_rf p0]) ++ List.replicate (4 - (lg_sl ([va_rf (some h0), va_rf p0])).length) Slot.unset).toArray = ls at hl ⊢
  have hl : lv_has ls 4 [(0, va_rf (some h0)), (1, va_rf p0)] := by cases p0 <;> exact hl
  unfold D_Pr_writeEdition at hden
  refine gV.lift (fun _ _ _ _ => g_aload_n hx hb d_Pr_writeEdition_0 rfl (lv_at hl 0 rfl)) ?_
  refine gV.lift (fun _ _ _ _ => lv_iconst (v := 0) hx hb d_Pr_writeEdition_1 (by decide)) ?_
  replace hden := gb hden
  obtain ⟨S1, hv, hden⟩ := hden
  refine r_put X cl_Pr (k := 1) hv (by decide) q_91 rfl rfl rfl d_Pr_writeEdition_2 ?_
  refine gV.lift (fun _ _ _ _ => lv_iconst (v := 1) hx hb d_Pr_writeEdition_5 (by decide)) ?_
  refine gV.liftS (nL := 4) (lv' := [(2, .int 1), (0, va_rf (some h0)), (1, va_rf p0)]) (fun _ _ _ _ => lv_istore_n hx hb d_Pr_writeEdition_6 rfl hl (by decide) (by cases p0 <;> rfl)) (fun ls hl => ?_)
  exact wL_Pr_writeEdition_7 Y  gF h0 p0 1 S1 _ hden (lv_sub hl [1, 2, 0] rfl)
/-! PlanText$Printer.byteAt(I)I -/
abbrev y_Pr_byteAt : MethodName := ⟨"PlanText$Printer", "byteAt", "(I)I"⟩
theorem d_Pr_byteAt_0 : decode prog_7_method_2_code 0 = .ok (.iload_n 1, 1) := by decide +kernel
theorem d_Pr_byteAt_1 : decode prog_7_method_2_code 1 = .ok (.ifCond .lt 24, 3) := by decide +kernel
theorem d_Pr_byteAt_4 : decode prog_7_method_2_code 4 = .ok (.iload_n 1, 1) := by decide +kernel
theorem d_Pr_byteAt_5 : decode prog_7_method_2_code 5 = .ok (.aload_n 0, 1) := by decide +kernel
theorem d_Pr_byteAt_6 : decode prog_7_method_2_code 6 = .ok (.getfield 15, 3) := by decide +kernel
theorem d_Pr_byteAt_9 : decode prog_7_method_2_code 9 = .ok (.if_icmp .ge 16, 3) := by decide +kernel
theorem d_Pr_byteAt_12 : decode prog_7_method_2_code 12 = .ok (.aload_n 0, 1) := by decide +kernel
theorem d_Pr_byteAt_13 : decode prog_7_method_2_code 13 = .ok (.getfield 9, 3) := by decide +kernel
theorem d_Pr_byteAt_16 : decode prog_7_method_2_code 16 = .ok (.iload_n 1, 1) := by decide +kernel
theorem d_Pr_byteAt_17 : decode prog_7_method_2_code 17 = .ok (.baload, 1) := by decide +kernel
theorem d_Pr_byteAt_18 : decode prog_7_method_2_code 18 = .ok (.sipush 255, 3) := by decide +kernel
theorem d_Pr_byteAt_21 : decode prog_7_method_2_code 21 = .ok (.iand, 1) := by decide +kernel
theorem d_Pr_byteAt_22 : decode prog_7_method_2_code 22 = .ok (.goto 4, 3) := by decide +kernel
theorem d_Pr_byteAt_25 : decode prog_7_method_2_code 25 = .ok (.iconst (-1), 1) := by decide +kernel
theorem d_Pr_byteAt_26 : decode prog_7_method_2_code 26 = .ok (.ireturn, 1) := by decide +kernel
def B_Pr_byteAt_26  (t0 : Int32) (S : gS) : Option (Int32 × gS) := some (t0, S)
set_option maxRecDepth 100000 in
set_option maxHeartbeats 4000000 in
theorem w_Pr_byteAt_26 {D : va_G} {cT : Nat → ClassId} {H0 : Heap} {l : Launch} {p : Program} {e : Env} {s : State} {m : MethodId} {args : Array Value} {below : List Frame} {meth : Method} {c : Code} {S0 : gS} {S' : gS} {r : Int32} (Y : gY D cT H0 p s m args meth c prog_7_method_2_code 2 "PlanText$Printer" 0 0 S0 (Option.some Jvm.ClassFile.FieldType.int))  (t0 : Int32) (S : gS) (hden : B_Pr_byteAt_26  t0 S = some (r, S')) {ls : Array Slot} (hl : lv_has ls 2 []) : gV D cT H0 p l e (gRm 0 0 S0) s m args below meth c (gQ D cT H0 below S0 S' (.inr (some (.int r))) s) S0 S (F0 m 26 ls [.int t0]) := by
  obtain ⟨X, hZ, hex, hr, hE⟩ := id Y
  have hx := X.1
  have hb := X.2.1
  unfold B_Pr_byteAt_26 at hden
  obtain ⟨rfl, rfl⟩ := gpi hden
  exact g_iret X hr d_Pr_byteAt_26
def B_Pr_byteAt_25   (S : gS) : Option (Int32 × gS) := B_Pr_byteAt_26  (-1) S
set_option maxRecDepth 100000 in
set_option maxHeartbeats 4000000 in
theorem w_Pr_byteAt_25 {D : va_G} {cT : Nat → ClassId} {H0 : Heap} {l : Launch} {p : Program} {e : Env} {s : State} {m : MethodId} {args : Array Value} {below : List Frame} {meth : Method} {c : Code} {S0 : gS} {S' : gS} {r : Int32} (Y : gY D cT H0 p s m args meth c prog_7_method_2_code 2 "PlanText$Printer" 0 0 S0 (Option.some Jvm.ClassFile.FieldType.int))   (S : gS) (hden : B_Pr_byteAt_25   S = some (r, S')) {ls : Array Slot} (hl : lv_has ls 2 []) : gV D cT H0 p l e (gRm 0 0 S0) s m args below meth c (gQ D cT H0 below S0 S' (.inr (some (.int r))) s) S0 S (F0 m 25 ls []) := by
  obtain ⟨X, hZ, hex, hr, hE⟩ := id Y
  have hx := X.1
  have hb := X.2.1
  unfold B_Pr_byteAt_25 at hden
  refine gV.lift (fun _ _ _ _ => lv_iconst (v := (-1)) hx hb d_Pr_byteAt_25 (by decide)) ?_
  exact w_Pr_byteAt_26 Y  (-1) S hden (lv_sub hl [] rfl)
def D_Pr_byteAt (h0 : Nat) (p0 : Int32) (S : gS) : Option (Int32 × gS) := (if p0 < 0 then B_Pr_byteAt_25  S else Option.bind (gI S h0 6 1) (fun v2 => (if v2 ≤ p0 then B_Pr_byteAt_25  S else Option.bind (gRf S h0 6 0) (fun r4 => Option.bind r4 (fun a5 => Option.bind (gAI S a5 2 p0) (fun v6 => B_Pr_byteAt_26  (v6 &&& 255) S))))))
set_option maxRecDepth 100000 in
set_option maxHeartbeats 4000000 in
theorem c_Pr_byteAt {D : va_G} {cT : Nat → ClassId} {H0 : Heap} {l : Launch} {S : gS} {S' : gS} {h0 : Nat} {p0 : Int32} {r : Int32} (hden : D_Pr_byteAt h0 p0 S = some (r, S')) : gM D cT H0 l y_Pr_byteAt (Cond.code y_Pr_byteAt prog_7_method_2_code 2 (Option.some Jvm.ClassFile.FieldType.int)) 0 0 [va_rf (some h0), .int p0] S S' (.inr (some (.int r))) := by
  refine gM.ofV (by decide) ?_
  intro p e s m args below meth c s₁ B hml ea X hZ hex hr hE
  subst ea
  have Y : gY D cT H0 p s m _ meth c prog_7_method_2_code 2 "PlanText$Printer" 0 0 S (Option.some Jvm.ClassFile.FieldType.int) := ⟨X, hZ, hex, hr, hE⟩
  have hx := X.1
  have hb := X.2.1
  have hl := lv_entry ([va_rf (some h0), .int p0]) (n := 2) (Nat.le_of_ble_eq_true rfl)
  rw [lg_entry_eq]
  generalize (lg_sl ([va_rf (some h0), .int p0]) ++ List.replicate (2 - (lg_sl ([va_rf (some h0), .int p0])).length) Slot.unset).toArray = ls at hl ⊢
  have hl : lv_has ls 2 [(0, va_rf (some h0)), (1, .int p0)] := hl
  unfold D_Pr_byteAt at hden
  refine gV.lift (fun _ _ _ _ => lv_iload_n hx hb d_Pr_byteAt_0 rfl (lv_at hl 1 rfl)) ?_
  refine gV.lift2 (fun _ _ _ _ => lv_if_lt (tgt := 25) hx hb d_Pr_byteAt_1 (by decide)) (fun hc1 => ?_) (fun hc1 => ?_)
  · replace hden := gip hc1 hden
    exact w_Pr_byteAt_25 Y  S hden (lv_sub hl [] rfl)
  · replace hden := gin hc1 hden
    refine gV.lift (fun _ _ _ _ => lv_iload_n hx hb d_Pr_byteAt_4 rfl (lv_at hl 1 rfl)) ?_
    refine gV.lift (fun _ _ _ _ => g_aload_n hx hb d_Pr_byteAt_5 rfl (lv_at hl 0 rfl)) ?_
    replace hden := gb hden
    obtain ⟨v2, hv, hden⟩ := hden
    refine r_getI X cl_Pr (k := 1) hv (by decide) q_91 d_Pr_byteAt_6 ?_
    refine gV.lift2 (fun _ _ _ _ => lv_icmp_ge (tgt := 25) hx hb d_Pr_byteAt_9 (by decide)) (fun hc3 => ?_) (fun hc3 => ?_)
    · replace hden := gip hc3 hden
      exact w_Pr_byteAt_25 Y  S hden (lv_sub hl [] rfl)
    · replace hden := gin hc3 hden
      refine gV.lift (fun _ _ _ _ => g_aload_n hx hb d_Pr_byteAt_12 rfl (lv_at hl 0 rfl)) ?_
      replace hden := gb hden
      obtain ⟨r4, hv, hden⟩ := hden
      refine r_getR X cl_Pr (k := 0) hv (by decide) q_90 d_Pr_byteAt_13 ?_
      refine gV.lift (fun _ _ _ _ => lv_iload_n hx hb d_Pr_byteAt_16 rfl (lv_at hl 1 rfl)) ?_
      replace hden := gb hden
      obtain ⟨a5, rfl, hden⟩ := hden
      replace hden := gb hden
      obtain ⟨v6, hv, hden⟩ := hden
      refine r_bald X (t := 2) rfl hv d_Pr_byteAt_17 ?_
      refine gV.lift (fun _ _ _ _ => lv_sipush (v := 255) hx hb d_Pr_byteAt_18 (by decide)) ?_
      refine gV.lift (fun _ _ _ _ => lv_iand hx hb d_Pr_byteAt_21) ?_
      refine gV.lift (fun _ _ _ _ => lv_goto (tgt := 26) hx hb d_Pr_byteAt_22 (by decide)) ?_
      exact w_Pr_byteAt_26 Y  (v6 &&& 255) S hden (lv_sub hl [] rfl)
