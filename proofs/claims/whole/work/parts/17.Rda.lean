/-! PlanText$Reader.<init>([BI)V -/
abbrev y_Rd_init : MethodName := ⟨"PlanText$Reader", "<init>", "([BI)V"⟩
theorem d_Rd_init_0 : decode prog_8_method_1_code 0 = .ok (.aload_n 0, 1) := by decide +kernel
theorem d_Rd_init_1 : decode prog_8_method_1_code 1 = .ok (.invokespecial 3, 3) := by decide +kernel
theorem d_Rd_init_4 : decode prog_8_method_1_code 4 = .ok (.aload_n 0, 1) := by decide +kernel
theorem d_Rd_init_5 : decode prog_8_method_1_code 5 = .ok (.iconst 0, 1) := by decide +kernel
theorem d_Rd_init_6 : decode prog_8_method_1_code 6 = .ok (.putfield 9, 3) := by decide +kernel
theorem d_Rd_init_9 : decode prog_8_method_1_code 9 = .ok (.aload_n 0, 1) := by decide +kernel
theorem d_Rd_init_10 : decode prog_8_method_1_code 10 = .ok (.iconst (-1), 1) := by decide +kernel
theorem d_Rd_init_11 : decode prog_8_method_1_code 11 = .ok (.putfield 15, 3) := by decide +kernel
theorem d_Rd_init_14 : decode prog_8_method_1_code 14 = .ok (.aload_n 0, 1) := by decide +kernel
theorem d_Rd_init_15 : decode prog_8_method_1_code 15 = .ok (.aload_n 1, 1) := by decide +kernel
theorem d_Rd_init_16 : decode prog_8_method_1_code 16 = .ok (.putfield 18, 3) := by decide +kernel
theorem d_Rd_init_19 : decode prog_8_method_1_code 19 = .ok (.aload_n 0, 1) := by decide +kernel
theorem d_Rd_init_20 : decode prog_8_method_1_code 20 = .ok (.iload_n 2, 1) := by decide +kernel
theorem d_Rd_init_21 : decode prog_8_method_1_code 21 = .ok (.aload_n 1, 1) := by decide +kernel
theorem d_Rd_init_22 : decode prog_8_method_1_code 22 = .ok (.arraylength, 1) := by decide +kernel
theorem d_Rd_init_23 : decode prog_8_method_1_code 23 = .ok (.invokestatic 22, 3) := by decide +kernel
theorem d_Rd_init_26 : decode prog_8_method_1_code 26 = .ok (.putfield 28, 3) := by decide +kernel
theorem d_Rd_init_29 : decode prog_8_method_1_code 29 = .ok (.return_, 1) := by decide +kernel
def D_Rd_init (h0 : Nat) (p0 : Option Nat) (p1 : Int32) (S : gS) : Option gS := Option.bind (gPut S h0 7 2 (.int 0)) (fun S1 => Option.bind (gPut S1 h0 7 3 (.int (-1))) (fun S2 => Option.bind (gPut S2 h0 7 0 (va_rf p0)) (fun S3 => Option.bind p0 (fun a4 => Option.bind (gLen S3 a4 2) (fun v5 => Option.bind (gPut S3 h0 7 1 (.int (if v5 < p1 then v5 else p1))) (fun S6 => some S6))))))
set_option maxRecDepth 100000 in
set_option maxHeartbeats 4000000 in
theorem c_Rd_init {D : va_G} {cT : Nat → ClassId} {H0 : Heap} {l : Launch} {S : gS} {S' : gS} {h0 : Nat} {p0 : Option Nat} {p1 : Int32} (hden : D_Rd_init h0 p0 p1 S = some S') : gM D cT H0 l y_Rd_init (Cond.code y_Rd_init prog_8_method_1_code 3 (Option.none : Option Jvm.ClassFile.FieldType)) 1 24 [va_rf (some h0), va_rf p0, .int p1] S S' (.inr none) := by
  refine gM.ofV (by decide) ?_
  intro p e s m args below meth c s₁ B hml ea X hZ hex hr hE
  subst ea
  have Y : gY D cT H0 p s m _ meth c prog_8_method_1_code 3 "PlanText$Reader" 1 24 S (Option.none : Option Jvm.ClassFile.FieldType) := ⟨X, hZ, hex, hr, hE⟩
  have hin : meth.name = "<init>" := (name_of_methodNamed B.named B.method).1
  have hx := X.1
  have hb := X.2.1
  have hl := lv_entry ([va_rf (some h0), va_rf p0, .int p1]) (n := 3) (by cases p0 <;> exact Nat.le_of_ble_eq_true rfl)
  rw [lg_entry_eq]
  generalize (lg_sl ([va_rf (some h0), va_rf p0, .int p1]) ++ List.replicate (3 - (lg_sl ([va_rf (some h0), va_rf p0, .int p1])).length) Slot.unset).toArray = ls at hl ⊢
  have hl : lv_has ls 3 [(0, va_rf (some h0)), (1, va_rf p0), (2, .int p1)] := by cases p0 <;> exact hl
  unfold D_Rd_init at hden
  refine gV.lift (fun _ _ _ _ => g_aload_n hx hb d_Rd_init_0 rfl (lv_at hl 0 rfl)) ?_
  refine g_objInit X q_249 q_26 q_27 hl.1 d_Rd_init_1 ⟨by decide, Nat.le_of_ble_eq_true rfl⟩ ?_
  refine gV.lift (fun _ _ _ _ => g_aload_n hx hb d_Rd_init_4 rfl (lv_at hl 0 rfl)) ?_
  refine gV.lift (fun _ _ _ _ => lv_iconst (v := 0) hx hb d_Rd_init_5 (by decide)) ?_
  replace hden := gb hden
  obtain ⟨S1, hv, hden⟩ := hden
  refine r_put X cl_Rd (k := 2) hv (by decide) q_255 rfl rfl rfl d_Rd_init_6 ?_
  refine gV.lift (fun _ _ _ _ => g_aload_n hx hb d_Rd_init_9 rfl (lv_at hl 0 rfl)) ?_
  refine gV.lift (fun _ _ _ _ => lv_iconst (v := (-1)) hx hb d_Rd_init_10 (by decide)) ?_
  replace hden := gb hden
  obtain ⟨S2, hv, hden⟩ := hden
  refine r_put X cl_Rd (k := 3) hv (by decide) q_256 rfl rfl rfl d_Rd_init_11 ?_
  refine gV.lift (fun _ _ _ _ => g_aload_n hx hb d_Rd_init_14 rfl (lv_at hl 0 rfl)) ?_
  refine gV.lift (fun _ _ _ _ => g_aload_n hx hb d_Rd_init_15 rfl (lv_at hl 1 rfl)) ?_
  replace hden := gb hden
  obtain ⟨S3, hv, hden⟩ := hden
  refine r_putF X cl_Rd (k := 0) hv (by decide) q_253 rfl hin rfl g_narA g_fitA d_Rd_init_16 ?_
  refine gV.lift (fun _ _ _ _ => g_aload_n hx hb d_Rd_init_19 rfl (lv_at hl 0 rfl)) ?_
  refine gV.lift (fun _ _ _ _ => lv_iload_n hx hb d_Rd_init_20 rfl (lv_at hl 2 rfl)) ?_
  refine gV.lift (fun _ _ _ _ => g_aload_n hx hb d_Rd_init_21 rfl (lv_at hl 1 rfl)) ?_
  replace hden := gb hden
  obtain ⟨a4, rfl, hden⟩ := hden
  replace hden := gb hden
  obtain ⟨v5, hv, hden⟩ := hden
  refine r_alen X (t := 2) rfl hv d_Rd_init_22 ?_
  refine g_min X q_250 q_251 q_12 q_252 hl.1 d_Rd_init_23 ⟨by decide, Nat.le_of_ble_eq_true rfl⟩ ?_
  replace hden := gb hden
  obtain ⟨S6, hv, hden⟩ := hden
  refine r_putF X cl_Rd (k := 1) hv (by decide) q_254 rfl hin rfl rfl rfl d_Rd_init_26 ?_
  obtain rfl := gsi hden
  exact g_vret X hr d_Rd_init_29
/-! PlanText$Reader.nextSign()I -/
abbrev y_Rd_nextSign : MethodName := ⟨"PlanText$Reader", "nextSign", "()I"⟩
theorem d_Rd_nextSign_0 : decode prog_8_method_14_code 0 = .ok (.aload_n 0, 1) := by decide +kernel
theorem d_Rd_nextSign_1 : decode prog_8_method_14_code 1 = .ok (.getfield 15, 3) := by decide +kernel
theorem d_Rd_nextSign_4 : decode prog_8_method_14_code 4 = .ok (.iconst (-1), 1) := by decide +kernel
theorem d_Rd_nextSign_5 : decode prog_8_method_14_code 5 = .ok (.if_icmp .eq 5, 3) := by decide +kernel
theorem d_Rd_nextSign_8 : decode prog_8_method_14_code 8 = .ok (.iconst (-1), 1) := by decide +kernel
theorem d_Rd_nextSign_9 : decode prog_8_method_14_code 9 = .ok (.ireturn, 1) := by decide +kernel
theorem d_Rd_nextSign_10 : decode prog_8_method_14_code 10 = .ok (.aload_n 0, 1) := by decide +kernel
theorem d_Rd_nextSign_11 : decode prog_8_method_14_code 11 = .ok (.getfield 9, 3) := by decide +kernel
theorem d_Rd_nextSign_14 : decode prog_8_method_14_code 14 = .ok (.aload_n 0, 1) := by decide +kernel
theorem d_Rd_nextSign_15 : decode prog_8_method_14_code 15 = .ok (.getfield 28, 3) := by decide +kernel
theorem d_Rd_nextSign_18 : decode prog_8_method_14_code 18 = .ok (.if_icmp .ge 30, 3) := by decide +kernel
theorem d_Rd_nextSign_21 : decode prog_8_method_14_code 21 = .ok (.aload_n 0, 1) := by decide +kernel
theorem d_Rd_nextSign_22 : decode prog_8_method_14_code 22 = .ok (.getfield 18, 3) := by decide +kernel
theorem d_Rd_nextSign_25 : decode prog_8_method_14_code 25 = .ok (.aload_n 0, 1) := by decide +kernel
theorem d_Rd_nextSign_26 : decode prog_8_method_14_code 26 = .ok (.getfield 9, 3) := by decide +kernel
theorem d_Rd_nextSign_29 : decode prog_8_method_14_code 29 = .ok (.baload, 1) := by decide +kernel
theorem d_Rd_nextSign_30 : decode prog_8_method_14_code 30 = .ok (.bipush 32, 2) := by decide +kernel
theorem d_Rd_nextSign_32 : decode prog_8_method_14_code 32 = .ok (.if_icmp .ne 16, 3) := by decide +kernel
theorem d_Rd_nextSign_35 : decode prog_8_method_14_code 35 = .ok (.aload_n 0, 1) := by decide +kernel
theorem d_Rd_nextSign_36 : decode prog_8_method_14_code 36 = .ok (.dup, 1) := by decide +kernel
theorem d_Rd_nextSign_37 : decode prog_8_method_14_code 37 = .ok (.getfield 9, 3) := by decide +kernel
theorem d_Rd_nextSign_40 : decode prog_8_method_14_code 40 = .ok (.iconst 1, 1) := by decide +kernel
theorem d_Rd_nextSign_41 : decode prog_8_method_14_code 41 = .ok (.iadd, 1) := by decide +kernel
theorem d_Rd_nextSign_42 : decode prog_8_method_14_code 42 = .ok (.putfield 9, 3) := by decide +kernel
theorem d_Rd_nextSign_45 : decode prog_8_method_14_code 45 = .ok (.goto (-35), 3) := by decide +kernel
theorem d_Rd_nextSign_48 : decode prog_8_method_14_code 48 = .ok (.aload_n 0, 1) := by decide +kernel
theorem d_Rd_nextSign_49 : decode prog_8_method_14_code 49 = .ok (.getfield 9, 3) := by decide +kernel
theorem d_Rd_nextSign_52 : decode prog_8_method_14_code 52 = .ok (.aload_n 0, 1) := by decide +kernel
theorem d_Rd_nextSign_53 : decode prog_8_method_14_code 53 = .ok (.getfield 28, 3) := by decide +kernel
theorem d_Rd_nextSign_56 : decode prog_8_method_14_code 56 = .ok (.if_icmp .ge 19, 3) := by decide +kernel
theorem d_Rd_nextSign_59 : decode prog_8_method_14_code 59 = .ok (.aload_n 0, 1) := by decide +kernel
theorem d_Rd_nextSign_60 : decode prog_8_method_14_code 60 = .ok (.getfield 18, 3) := by decide +kernel
theorem d_Rd_nextSign_63 : decode prog_8_method_14_code 63 = .ok (.aload_n 0, 1) := by decide +kernel
theorem d_Rd_nextSign_64 : decode prog_8_method_14_code 64 = .ok (.getfield 9, 3) := by decide +kernel
theorem d_Rd_nextSign_67 : decode prog_8_method_14_code 67 = .ok (.baload, 1) := by decide +kernel
theorem d_Rd_nextSign_68 : decode prog_8_method_14_code 68 = .ok (.sipush 255, 3) := by decide +kernel
theorem d_Rd_nextSign_71 : decode prog_8_method_14_code 71 = .ok (.iand, 1) := by decide +kernel
theorem d_Rd_nextSign_72 : decode prog_8_method_14_code 72 = .ok (.goto 4, 3) := by decide +kernel
theorem d_Rd_nextSign_75 : decode prog_8_method_14_code 75 = .ok (.iconst (-1), 1) := by decide +kernel
theorem d_Rd_nextSign_76 : decode prog_8_method_14_code 76 = .ok (.ireturn, 1) := by decide +kernel
def B_Rd_nextSign_76  (t0 : Int32) (S : gS) : Option (Int32 × gS) := some (t0, S)
set_option maxRecDepth 100000 in
set_option maxHeartbeats 4000000 in
theorem w_Rd_nextSign_76 {D : va_G} {cT : Nat → ClassId} {H0 : Heap} {l : Launch} {p : Program} {e : Env} {s : State} {m : MethodId} {args : Array Value} {below : List Frame} {meth : Method} {c : Code} {S0 : gS} {S' : gS} {r : Int32} (Y : gY D cT H0 p s m args meth c prog_8_method_14_code 1 "PlanText$Reader" 0 0 S0 (Option.some Jvm.ClassFile.FieldType.int))  (t0 : Int32) (S : gS) (hden : B_Rd_nextSign_76  t0 S = some (r, S')) {ls : Array Slot} (hl : lv_has ls 1 []) : gV D cT H0 p l e (gRm 0 0 S0) s m args below meth c (gQ D cT H0 below S0 S' (.inr (some (.int r))) s) S0 S (F0 m 76 ls [.int t0]) := by
  obtain ⟨X, hZ, hex, hr, hE⟩ := id Y
  have hx := X.1
  have hb := X.2.1
  unfold B_Rd_nextSign_76 at hden
  obtain ⟨rfl, rfl⟩ := gpi hden
  exact g_iret X hr d_Rd_nextSign_76
def B_Rd_nextSign_48  (x0 : Nat) (S : gS) : Option (Int32 × gS) := Option.bind (gI S x0 7 2) (fun v1 => Option.bind (gI S x0 7 1) (fun v2 => (if v2 ≤ v1 then B_Rd_nextSign_76  (-1) S else Option.bind (gRf S x0 7 0) (fun r4 => Option.bind (gI S x0 7 2) (fun v5 => Option.bind r4 (fun a6 => Option.bind (gAI S a6 2 v5) (fun v7 => B_Rd_nextSign_76  (v7 &&& 255) S)))))))
set_option maxRecDepth 100000 in
set_option maxHeartbeats 4000000 in
theorem w_Rd_nextSign_48 {D : va_G} {cT : Nat → ClassId} {H0 : Heap} {l : Launch} {p : Program} {e : Env} {s : State} {m : MethodId} {args : Array Value} {below : List Frame} {meth : Method} {c : Code} {S0 : gS} {S' : gS} {r : Int32} (Y : gY D cT H0 p s m args meth c prog_8_method_14_code 1 "PlanText$Reader" 0 0 S0 (Option.some Jvm.ClassFile.FieldType.int))  (x0 : Nat) (S : gS) (hden : B_Rd_nextSign_48  x0 S = some (r, S')) {ls : Array Slot} (hl : lv_has ls 1 [(0, va_rf (some x0))]) : gV D cT H0 p l e (gRm 0 0 S0) s m args below meth c (gQ D cT H0 below S0 S' (.inr (some (.int r))) s) S0 S (F0 m 48 ls []) := by
  obtain ⟨X, hZ, hex, hr, hE⟩ := id Y
  have hx := X.1
  have hb := X.2.1
  unfold B_Rd_nextSign_48 at hden
  refine gV.lift (fun _ _ _ _ => g_aload_n hx hb d_Rd_nextSign_48 rfl (lv_at hl 0 rfl)) ?_
  replace hden := gb hden
  obtain ⟨v1, hv, hden⟩ := hden
  refine r_getI X cl_Rd (k := 2) hv (by decide) q_255 d_Rd_nextSign_49 ?_
  refine gV.lift (fun _ _ _ _ => g_aload_n hx hb d_Rd_nextSign_52 rfl (lv_at hl 0 rfl)) ?_
  replace hden := gb hden
  obtain ⟨v2, hv, hden⟩ := hden
  refine r_getI X cl_Rd (k := 1) hv (by decide) q_254 d_Rd_nextSign_53 ?_
  refine gV.lift2 (fun _ _ _ _ => lv_icmp_ge (tgt := 75) hx hb d_Rd_nextSign_56 (by decide)) (fun hc3 => ?_) (fun hc3 => ?_)
  · replace hden := gip hc3 hden
    refine gV.lift (fun _ _ _ _ => lv_iconst (v := (-1)) hx hb d_Rd_nextSign_75 (by decide)) ?_
    exact w_Rd_nextSign_76 Y  (-1) S hden (lv_sub hl [] rfl)
  · replace hden := gin hc3 hden
    refine gV.lift (fun _ _ _ _ => g_aload_n hx hb d_Rd_nextSign_59 rfl (lv_at hl 0 rfl)) ?_
    replace hden := gb hden
    obtain ⟨r4, hv, hden⟩ := hden
    refine r_getR X cl_Rd (k := 0) hv (by decide) q_253 d_Rd_nextSign_60 ?_
    refine gV.lift (fun _ _ _ _ => g_aload_n hx hb d_Rd_nextSign_63 rfl (lv_at hl 0 rfl)) ?_
    replace hden := gb hden
    obtain ⟨v5, hv, hden⟩ := hden
    refine r_getI X cl_Rd (k := 2) hv (by decide) q_255 d_Rd_nextSign_64 ?_
    replace hden := gb hden
    obtain ⟨a6, rfl, hden⟩ := hden
    replace hden := gb hden
    obtain ⟨v7, hv, hden⟩ := hden
    refine r_bald X (t := 2) rfl hv d_Rd_nextSign_67 ?_
    refine gV.lift (fun _ _ _ _ => lv_sipush (v := 255) hx hb d_Rd_nextSign_68 (by decide)) ?_
    refine gV.lift (fun _ _ _ _ => lv_iand hx hb d_Rd_nextSign_71) ?_
    refine gV.lift (fun _ _ _ _ => lv_goto (tgt := 76) hx hb d_Rd_nextSign_72 (by decide)) ?_
    exact w_Rd_nextSign_76 Y  (v7 &&& 255) S hden (lv_sub hl [] rfl)
def B_Rd_nextSign_10 (k10 : Nat → gS → Option (Int32 × gS)) (x0 : Nat) (S : gS) : Option (Int32 × gS) := Option.bind (gI S x0 7 2) (fun v1 => Option.bind (gI S x0 7 1) (fun v2 => (if v2 ≤ v1 then B_Rd_nextSign_48  x0 S else Option.bind (gRf S x0 7 0) (fun r4 => Option.bind (gI S x0 7 2) (fun v5 => Option.bind r4 (fun a6 => Option.bind (gAI S a6 2 v5) (fun v7 => (if v7 = 32 then Option.bind (gI S x0 7 2) (fun v9 => Option.bind (gPut S x0 7 2 (.int (v9 + 1))) (fun S10 => k10 x0 S10)) else B_Rd_nextSign_48  x0 S))))))))
set_option maxRecDepth 100000 in
set_option maxHeartbeats 4000000 in
theorem w_Rd_nextSign_10 {D : va_G} {cT : Nat → ClassId} {H0 : Heap} {l : Launch} {p : Program} {e : Env} {s : State} {m : MethodId} {args : Array Value} {below : List Frame} {meth : Method} {c : Code} {S0 : gS} {S' : gS} {r : Int32} (Y : gY D cT H0 p s m args meth c prog_8_method_14_code 1 "PlanText$Reader" 0 0 S0 (Option.some Jvm.ClassFile.FieldType.int)) {k10 : Nat → gS → Option (Int32 × gS)} (hk10 : ∀ (x0 : Nat) (S : gS) (ls : Array Slot), k10 x0 S = some (r, S') → lv_has ls 1 [(0, va_rf (some x0))] → gV D cT H0 p l e (gRm 0 0 S0) s m args below meth c (gQ D cT H0 below S0 S' (.inr (some (.int r))) s) S0 S (F0 m 10 ls [])) (x0 : Nat) (S : gS) (hden : B_Rd_nextSign_10 k10 x0 S = some (r, S')) {ls : Array Slot} (hl : lv_has ls 1 [(0, va_rf (some x0))]) : gV D cT H0 p l e (gRm 0 0 S0) s m args below meth c (gQ D cT H0 below S0 S' (.inr (some (.int r))) s) S0 S (F0 m 10 ls []) := by
  obtain ⟨X, hZ, hex, hr, hE⟩ := id Y
  have hx := X.1
  have hb := X.2.1
  unfold B_Rd_nextSign_10 at hden
  refine gV.lift (fun _ _ _ _ => g_aload_n hx hb d_Rd_nextSign_10 rfl (lv_at hl 0 rfl)) ?_
  replace hden := gb hden
  obtain ⟨v1, hv, hden⟩ := hden
  refine r_getI X cl_Rd (k := 2) hv (by decide) q_255 d_Rd_nextSign_11 ?_
  refine gV.lift (fun _ _ _ _ => g_aload_n hx hb d_Rd_nextSign_14 rfl (lv_at hl 0 rfl)) ?_
  replace hden := gb hden
  obtain ⟨v2, hv, hden⟩ := hden
  refine r_getI X cl_Rd (k := 1) hv (by decide) q_254 d_Rd_nextSign_15 ?_
  refine gV.lift2 (fun _ _ _ _ => lv_icmp_ge (tgt := 48) hx hb d_Rd_nextSign_18 (by decide)) (fun hc3 => ?_) (fun hc3 => ?_)
  · replace hden := gip hc3 hden
    exact w_Rd_nextSign_48 Y  x0 S hden (lv_sub hl [0] rfl)
  · replace hden := gin hc3 hden
    refine gV.lift (fun _ _ _ _ => g_aload_n hx hb d_Rd_nextSign_21 rfl (lv_at hl 0 rfl)) ?_
    replace hden := gb hden
    obtain ⟨r4, hv, hden⟩ := hden
    refine r_getR X cl_Rd (k := 0) hv (by decide) q_253 d_Rd_nextSign_22 ?_
    refine gV.lift (fun _ _ _ _ => g_aload_n hx hb d_Rd_nextSign_25 rfl (lv_at hl 0 rfl)) ?_
    replace hden := gb hden
    obtain ⟨v5, hv, hden⟩ := hden
    refine r_getI X cl_Rd (k := 2) hv (by decide) q_255 d_Rd_nextSign_26 ?_
    replace hden := gb hden
    obtain ⟨a6, rfl, hden⟩ := hden
    replace hden := gb hden
    obtain ⟨v7, hv, hden⟩ := hden
    refine r_bald X (t := 2) rfl hv d_Rd_nextSign_29 ?_
    refine gV.lift (fun _ _ _ _ => lv_bipush (v := 32) hx hb d_Rd_nextSign_30 (by decide)) ?_
    refine gV.lift2 (fun _ _ _ _ => lv_icmp_ne (tgt := 48) hx hb d_Rd_nextSign_32 (by decide)) (fun hc8 => ?_) (fun hc8 => ?_)
    · replace hden := gin hc8 hden
      exact w_Rd_nextSign_48 Y  x0 S hden (lv_sub hl [0] rfl)
    · replace hden := gip hc8 hden
      refine gV.lift (fun _ _ _ _ => g_aload_n hx hb d_Rd_nextSign_35 rfl (lv_at hl 0 rfl)) ?_
      refine gV.lift (fun _ _ _ _ => lv_dup hx hb d_Rd_nextSign_36 g_cat) ?_
      replace hden := gb hden
      obtain ⟨v9, hv, hden⟩ := hden
      refine r_getI X cl_Rd (k := 2) hv (by decide) q_255 d_Rd_nextSign_37 ?_
      refine gV.lift (fun _ _ _ _ => lv_iconst (v := 1) hx hb d_Rd_nextSign_40 (by decide)) ?_
      refine gV.lift (fun _ _ _ _ => lv_iadd hx hb d_Rd_nextSign_41) ?_
      replace hden := gb hden
      obtain ⟨S10, hv, hden⟩ := hden
      refine r_put X cl_Rd (k := 2) hv (by decide) q_255 rfl rfl rfl d_Rd_nextSign_42 ?_
      refine gV.lift (fun _ _ _ _ => lv_goto (tgt := 10) hx hb d_Rd_nextSign_45 (by decide)) ?_
      exact hk10 x0 S10 _ hden (lv_sub hl [0] rfl)
def L_Rd_nextSign_10  : Nat → Nat → gS → Option (Int32 × gS)
  | 0 => fun _ _ => none
  | n + 1 => fun x0 S => B_Rd_nextSign_10  (L_Rd_nextSign_10  n) x0 S
theorem wL_Rd_nextSign_10 {D : va_G} {cT : Nat → ClassId} {H0 : Heap} {l : Launch} {p : Program} {e : Env} {s : State} {m : MethodId} {args : Array Value} {below : List Frame} {meth : Method} {c : Code} {S0 : gS} {S' : gS} {r : Int32} (Y : gY D cT H0 p s m args meth c prog_8_method_14_code 1 "PlanText$Reader" 0 0 S0 (Option.some Jvm.ClassFile.FieldType.int))  : ∀ (n : Nat) (x0 : Nat) (S : gS) (ls : Array Slot), L_Rd_nextSign_10  n x0 S = some (r, S') → lv_has ls 1 [(0, va_rf (some x0))] → gV D cT H0 p l e (gRm 0 0 S0) s m args below meth c (gQ D cT H0 below S0 S' (.inr (some (.int r))) s) S0 S (F0 m 10 ls []) := by
  intro n
  induction n with
  | zero => intro x0 S ls h hl; cases h
  | succ n ih => intro x0 S ls h hl; exact w_Rd_nextSign_10 Y ih x0 S h hl
def D_Rd_nextSign (h0 : Nat) (S : gS) : Option (Int32 × gS) := Option.bind (gI S h0 7 3) (fun v1 => (if v1 = (-1) then L_Rd_nextSign_10  gF h0 S else some ((-1), S)))
set_option maxRecDepth 100000 in
set_option maxHeartbeats 4000000 in
theorem c_Rd_nextSign {D : va_G} {cT : Nat → ClassId} {H0 : Heap} {l : Launch} {S : gS} {S' : gS} {h0 : Nat} {r : Int32} (hden : D_Rd_nextSign h0 S = some (r, S')) : gM D cT H0 l y_Rd_nextSign (Cond.code y_Rd_nextSign prog_8_method_14_code 1 (Option.some Jvm.ClassFile.FieldType.int)) 0 0 [va_rf (some h0)] S S' (.inr (some (.int r))) := by
  refine gM.ofV (by decide) ?_
  intro p e s m args below meth c s₁ B hml ea X hZ hex hr hE
  subst ea
  have Y : gY D cT H0 p s m _ meth c prog_8_method_14_code 1 "PlanText$Reader" 0 0 S (Option.some Jvm.ClassFile.FieldType.int) := ⟨X, hZ, hex, hr, hE⟩
  have hx := X.1
  have hb := X.2.1
  have hl := lv_entry ([va_rf (some h0)]) (n := 1) (Nat.le_of_ble_eq_true rfl)
  rw [lg_entry_eq]
  generalize (lg_sl ([va_rf (some h0)]) ++ List.replicate (1 - (lg_sl ([va_rf (some h0)])).length) Slot.unset).toArray = ls at hl ⊢
  have hl : lv_has ls 1 [(0, va_rf (some h0))] := hl
  unfold D_Rd_nextSign at hden
  refine gV.lift (fun _ _ _ _ => g_aload_n hx hb d_Rd_nextSign_0 rfl (lv_at hl 0 rfl)) ?_
  replace hden := gb hden
  obtain ⟨v1, hv, hden⟩ := hden
  refine r_getI X cl_Rd (k := 3) hv (by decide) q_256 d_Rd_nextSign_1 ?_
  refine gV.lift (fun _ _ _ _ => lv_iconst (v := (-1)) hx hb d_Rd_nextSign_4 (by decide)) ?_
  refine gV.lift2 (fun _ _ _ _ => lv_icmp_eq (tgt := 10) hx hb d_Rd_nextSign_5 (by decide)) (fun hc2 => ?_) (fun hc2 => ?_)
  · replace hden := gip hc2 hden
    exact wL_Rd_nextSign_10 Y  gF h0 S _ hden (lv_sub hl [0] rfl)
  · replace hden := gin hc2 hden
    refine gV.lift (fun _ _ _ _ => lv_iconst (v := (-1)) hx hb d_Rd_nextSign_8 (by decide)) ?_
    obtain ⟨rfl, rfl⟩ := gpi hden
    exact g_iret X hr d_Rd_nextSign_9
/-! PlanText$Reader.takes(C)Z -/
abbrev y_Rd_takes : MethodName := ⟨"PlanText$Reader", "takes", "(C)Z"⟩
theorem d_Rd_takes_0 : decode prog_8_method_13_code 0 = .ok (.aload_n 0, 1) := by decide +kernel
theorem d_Rd_takes_1 : decode prog_8_method_13_code 1 = .ok (.invokevirtual 36, 3) := by decide +kernel
theorem d_Rd_takes_4 : decode prog_8_method_13_code 4 = .ok (.iload_n 1, 1) := by decide +kernel
theorem d_Rd_takes_5 : decode prog_8_method_13_code 5 = .ok (.if_icmp .eq 5, 3) := by decide +kernel
theorem d_Rd_takes_8 : decode prog_8_method_13_code 8 = .ok (.iconst 0, 1) := by decide +kernel
theorem d_Rd_takes_9 : decode prog_8_method_13_code 9 = .ok (.ireturn, 1) := by decide +kernel
theorem d_Rd_takes_10 : decode prog_8_method_13_code 10 = .ok (.aload_n 0, 1) := by decide +kernel
theorem d_Rd_takes_11 : decode prog_8_method_13_code 11 = .ok (.dup, 1) := by decide +kernel
theorem d_Rd_takes_12 : decode prog_8_method_13_code 12 = .ok (.getfield 9, 3) := by decide +kernel
theorem d_Rd_takes_15 : decode prog_8_method_13_code 15 = .ok (.iconst 1, 1) := by decide +kernel
theorem d_Rd_takes_16 : decode prog_8_method_13_code 16 = .ok (.iadd, 1) := by decide +kernel
theorem d_Rd_takes_17 : decode prog_8_method_13_code 17 = .ok (.putfield 9, 3) := by decide +kernel
theorem d_Rd_takes_20 : decode prog_8_method_13_code 20 = .ok (.iconst 1, 1) := by decide +kernel
theorem d_Rd_takes_21 : decode prog_8_method_13_code 21 = .ok (.ireturn, 1) := by decide +kernel
def D_Rd_takes (h0 : Nat) (p0 : Int32) (S : gS) : Option (Int32 × gS) := Option.bind (gOb S h0 7) (fun fs3 => gB2 (D_Rd_nextSign h0 S) (fun v2 S1 => (if v2 = p0 then Option.bind (gI S1 h0 7 2) (fun v5 => Option.bind (gPut S1 h0 7 2 (.int (v5 + 1))) (fun S6 => Option.bind (gZo 1) (fun v7 => some (v7, S6)))) else Option.bind (gZo 0) (fun v8 => some (v8, S1)))))
set_option maxRecDepth 100000 in
set_option maxHeartbeats 4000000 in
theorem c_Rd_takes {D : va_G} {cT : Nat → ClassId} {H0 : Heap} {l : Launch} {S : gS} {S' : gS} {h0 : Nat} {p0 : Int32} {r : Int32} (hden : D_Rd_takes h0 p0 S = some (r, S')) : gM D cT H0 l y_Rd_takes (Cond.code y_Rd_takes prog_8_method_13_code 2 (Option.some Jvm.ClassFile.FieldType.boolean)) 1 20 [va_rf (some h0), .int p0] S S' (.inr (some (.int r))) := by
  refine gM.ofV (by decide) ?_
  intro p e s m args below meth c s₁ B hml ea X hZ hex hr hE
  subst ea
  have Y : gY D cT H0 p s m _ meth c prog_8_method_13_code 2 "PlanText$Reader" 1 20 S (Option.some Jvm.ClassFile.FieldType.boolean) := ⟨X, hZ, hex, hr, hE⟩
  have hx := X.1
  have hb := X.2.1
  have hl := lv_entry ([va_rf (some h0), .int p0]) (n := 2) (Nat.le_of_ble_eq_true rfl)
  rw [lg_entry_eq]
  generalize (lg_sl ([va_rf (some h0), .int p0]) ++ List.replicate (2 - (lg_sl ([va_rf (some h0), .int p0])).length) Slot.unset).toArray = ls at hl ⊢
  have hl : lv_has ls 2 [(0, va_rf (some h0)), (1, .int p0)] := hl
  unfold D_Rd_takes at hden
  refine gV.lift (fun _ _ _ _ => g_aload_n hx hb d_Rd_takes_0 rfl (lv_at hl 0 rfl)) ?_
  replace hden := gb hden
  obtain ⟨fs3, ho, hden⟩ := hden
  replace hden := gb2 hden
  obtain ⟨v2, S1, hz, hden⟩ := hden
  refine g_callV (As := []) (rest := []) X hZ (c_Rd_nextSign hz) cl_Rd (gOb_spec ho) q_276 q_11 q_273 q_275 qp_1 ⟨by decide, by decide, by show _ = some 0; decide +kernel⟩ ⟨by decide, by decide⟩ hl.1 (Nat.le_of_ble_eq_true rfl) d_Rd_takes_1 rfl rfl ?_
  refine gV.lift (fun _ _ _ _ => lv_iload_n hx hb d_Rd_takes_4 rfl (lv_at hl 1 rfl)) ?_
  refine gV.lift2 (fun _ _ _ _ => lv_icmp_eq (tgt := 10) hx hb d_Rd_takes_5 (by decide)) (fun hc4 => ?_) (fun hc4 => ?_)
  · replace hden := gip hc4 hden
    refine gV.lift (fun _ _ _ _ => g_aload_n hx hb d_Rd_takes_10 rfl (lv_at hl 0 rfl)) ?_
    refine gV.lift (fun _ _ _ _ => lv_dup hx hb d_Rd_takes_11 g_cat) ?_
    replace hden := gb hden
    obtain ⟨v5, hv, hden⟩ := hden
    refine r_getI X cl_Rd (k := 2) hv (by decide) q_255 d_Rd_takes_12 ?_
    refine gV.lift (fun _ _ _ _ => lv_iconst (v := 1) hx hb d_Rd_takes_15 (by decide)) ?_
    refine gV.lift (fun _ _ _ _ => lv_iadd hx hb d_Rd_takes_16) ?_
    replace hden := gb hden
    obtain ⟨S6, hv, hden⟩ := hden
    refine r_put X cl_Rd (k := 2) hv (by decide) q_255 rfl rfl rfl d_Rd_takes_17 ?_
    refine gV.lift (fun _ _ _ _ => lv_iconst (v := 1) hx hb d_Rd_takes_20 (by decide)) ?_
    replace hden := gb hden
    obtain ⟨v7, hz, hden⟩ := hden
    obtain ⟨rfl, hz2, -⟩ := gZo_spec hz
    obtain ⟨rfl, rfl⟩ := gpi hden
    exact g_zret X hr hz2 d_Rd_takes_21
  · replace hden := gin hc4 hden
    refine gV.lift (fun _ _ _ _ => lv_iconst (v := 0) hx hb d_Rd_takes_8 (by decide)) ?_
    replace hden := gb hden
    obtain ⟨v8, hz, hden⟩ := hden
    obtain ⟨rfl, hz2, -⟩ := gZo_spec hz
    obtain ⟨rfl, rfl⟩ := gpi hden
    exact g_zret X hr hz2 d_Rd_takes_9
/-! PlanText$Reader.isDigit(I)Z -/
abbrev y_Rd_isDigit : MethodName := ⟨"PlanText$Reader", "isDigit", "(I)Z"⟩
theorem d_Rd_isDigit_0 : decode prog_8_method_16_code 0 = .ok (.iload_n 0, 1) := by decide +kernel
theorem d_Rd_isDigit_1 : decode prog_8_method_16_code 1 = .ok (.bipush 48, 2) := by decide +kernel
theorem d_Rd_isDigit_3 : decode prog_8_method_16_code 3 = .ok (.if_icmp .lt 13, 3) := by decide +kernel
theorem d_Rd_isDigit_6 : decode prog_8_method_16_code 6 = .ok (.iload_n 0, 1) := by decide +kernel
theorem d_Rd_isDigit_7 : decode prog_8_method_16_code 7 = .ok (.bipush 57, 2) := by decide +kernel
theorem d_Rd_isDigit_9 : decode prog_8_method_16_code 9 = .ok (.if_icmp .gt 7, 3) := by decide +kernel
theorem d_Rd_isDigit_12 : decode prog_8_method_16_code 12 = .ok (.iconst 1, 1) := by decide +kernel
theorem d_Rd_isDigit_13 : decode prog_8_method_16_code 13 = .ok (.goto 4, 3) := by decide +kernel
theorem d_Rd_isDigit_16 : decode prog_8_method_16_code 16 = .ok (.iconst 0, 1) := by decide +kernel
theorem d_Rd_isDigit_17 : decode prog_8_method_16_code 17 = .ok (.ireturn, 1) := by decide +kernel
def B_Rd_isDigit_17  (t0 : Int32) (S : gS) : Option (Int32 × gS) := Option.bind (gZo t0) (fun v1 => some (v1, S))
set_option maxRecDepth 100000 in
set_option maxHeartbeats 4000000 in
theorem w_Rd_isDigit_17 {D : va_G} {cT : Nat → ClassId} {H0 : Heap} {l : Launch} {p : Program} {e : Env} {s : State} {m : MethodId} {args : Array Value} {below : List Frame} {meth : Method} {c : Code} {S0 : gS} {S' : gS} {r : Int32} (Y : gY D cT H0 p s m args meth c prog_8_method_16_code 1 "PlanText$Reader" 0 0 S0 (Option.some Jvm.ClassFile.FieldType.boolean))  (t0 : Int32) (S : gS) (hden : B_Rd_isDigit_17  t0 S = some (r, S')) {ls : Array Slot} (hl : lv_has ls 1 []) : gV D cT H0 p l e (gRm 0 0 S0) s m args below meth c (gQ D cT H0 below S0 S' (.inr (some (.int r))) s) S0 S (F0 m 17 ls [.int t0]) := by
  obtain ⟨X, hZ, hex, hr, hE⟩ := id Y
  have hx := X.1
  have hb := X.2.1
  unfold B_Rd_isDigit_17 at hden
  replace hden := gb hden
  obtain ⟨v1, hz, hden⟩ := hden
  obtain ⟨rfl, hz2, -⟩ := gZo_spec hz
  obtain ⟨rfl, rfl⟩ := gpi hden
  exact g_zret X hr hz2 d_Rd_isDigit_17
def B_Rd_isDigit_16   (S : gS) : Option (Int32 × gS) := B_Rd_isDigit_17  0 S
set_option maxRecDepth 100000 in
set_option maxHeartbeats 4000000 in
theorem w_Rd_isDigit_16 {D : va_G} {cT : Nat → ClassId} {H0 : Heap} {l : Launch} {p : Program} {e : Env} {s : State} {m : MethodId} {args : Array Value} {below : List Frame} {meth : Method} {c : Code} {S0 : gS} {S' : gS} {r : Int32} (Y : gY D cT H0 p s m args meth c prog_8_method_16_code 1 "PlanText$Reader" 0 0 S0 (Option.some Jvm.ClassFile.FieldType.boolean))   (S : gS) (hden : B_Rd_isDigit_16   S = some (r, S')) {ls : Array Slot} (hl : lv_has ls 1 []) : gV D cT H0 p l e (gRm 0 0 S0) s m args below meth c (gQ D cT H0 below S0 S' (.inr (some (.int r))) s) S0 S (F0 m 16 ls []) := by
  obtain ⟨X, hZ, hex, hr, hE⟩ := id Y
  have hx := X.1
  have hb := X.2.1
  unfold B_Rd_isDigit_16 at hden
  refine gV.lift (fun _ _ _ _ => lv_iconst (v := 0) hx hb d_Rd_isDigit_16 (by decide)) ?_
  exact w_Rd_isDigit_17 Y  0 S hden (lv_sub hl [] rfl)
def D_Rd_isDigit (p0 : Int32) (S : gS) : Option (Int32 × gS) := (if p0 < 48 then B_Rd_isDigit_16  S else (if 57 < p0 then B_Rd_isDigit_16  S else B_Rd_isDigit_17  1 S))
set_option maxRecDepth 100000 in
set_option maxHeartbeats 4000000 in
theorem c_Rd_isDigit {D : va_G} {cT : Nat → ClassId} {H0 : Heap} {l : Launch} {S : gS} {S' : gS} {p0 : Int32} {r : Int32} (hden : D_Rd_isDigit p0 S = some (r, S')) : gM D cT H0 l y_Rd_isDigit (Cond.code y_Rd_isDigit prog_8_method_16_code 1 (Option.some Jvm.ClassFile.FieldType.boolean)) 0 0 [.int p0] S S' (.inr (some (.int r))) := by
  refine gM.ofV (by decide) ?_
  intro p e s m args below meth c s₁ B hml ea X hZ hex hr hE
  subst ea
  have Y : gY D cT H0 p s m _ meth c prog_8_method_16_code 1 "PlanText$Reader" 0 0 S (Option.some Jvm.ClassFile.FieldType.boolean) := ⟨X, hZ, hex, hr, hE⟩
  have hx := X.1
  have hb := X.2.1
  have hl := lv_entry ([.int p0]) (n := 1) (Nat.le_of_ble_eq_true rfl)
  rw [lg_entry_eq]
  generalize (lg_sl ([.int p0]) ++ List.replicate (1 - (lg_sl ([.int p0])).length) Slot.unset).toArray = ls at hl ⊢
  have hl : lv_has ls 1 [(0, .int p0)] := hl
  unfold D_Rd_isDigit at hden
  refine gV.lift (fun _ _ _ _ => lv_iload_n hx hb d_Rd_isDigit_0 rfl (lv_at hl 0 rfl)) ?_
  refine gV.lift (fun _ _ _ _ => lv_bipush (v := 48) hx hb d_Rd_isDigit_1 (by decide)) ?_
  refine gV.lift2 (fun _ _ _ _ => lv_icmp_lt (tgt := 16) hx hb d_Rd_isDigit_3 (by decide)) (fun hc1 => ?_) (fun hc1 => ?_)
  · replace hden := gip hc1 hden
    exact w_Rd_isDigit_16 Y  S hden (lv_sub hl [] rfl)
  · replace hden := gin hc1 hden
    refine gV.lift (fun _ _ _ _ => lv_iload_n hx hb d_Rd_isDigit_6 rfl (lv_at hl 0 rfl)) ?_
    refine gV.lift (fun _ _ _ _ => lv_bipush (v := 57) hx hb d_Rd_isDigit_7 (by decide)) ?_
    refine gV.lift2 (fun _ _ _ _ => lv_icmp_gt (tgt := 16) hx hb d_Rd_isDigit_9 (by decide)) (fun hc2 => ?_) (fun hc2 => ?_)
    · replace hden := gip hc2 hden
      exact w_Rd_isDigit_16 Y  S hden (lv_sub hl [] rfl)
    · replace hden := gin hc2 hden
      refine gV.lift (fun _ _ _ _ => lv_iconst (v := 1) hx hb d_Rd_isDigit_12 (by decide)) ?_
      refine gV.lift (fun _ _ _ _ => lv_goto (tgt := 17) hx hb d_Rd_isDigit_13 (by decide)) ?_
      exact w_Rd_isDigit_17 Y  1 S hden (lv_sub hl [] rfl)
/-! PlanText$Reader.fail(I)V -/
abbrev y_Rd_fail : MethodName := ⟨"PlanText$Reader", "fail", "(I)V"⟩
theorem d_Rd_fail_0 : decode prog_8_method_17_code 0 = .ok (.aload_n 0, 1) := by decide +kernel
theorem d_Rd_fail_1 : decode prog_8_method_17_code 1 = .ok (.getfield 15, 3) := by decide +kernel
theorem d_Rd_fail_4 : decode prog_8_method_17_code 4 = .ok (.iconst (-1), 1) := by decide +kernel
theorem d_Rd_fail_5 : decode prog_8_method_17_code 5 = .ok (.if_icmp .ne 8, 3) := by decide +kernel
theorem d_Rd_fail_8 : decode prog_8_method_17_code 8 = .ok (.aload_n 0, 1) := by decide +kernel
theorem d_Rd_fail_9 : decode prog_8_method_17_code 9 = .ok (.iload_n 1, 1) := by decide +kernel
theorem d_Rd_fail_10 : decode prog_8_method_17_code 10 = .ok (.putfield 15, 3) := by decide +kernel
theorem d_Rd_fail_13 : decode prog_8_method_17_code 13 = .ok (.return_, 1) := by decide +kernel
def B_Rd_fail_13   (S : gS) : Option gS := some S
set_option maxRecDepth 100000 in
set_option maxHeartbeats 4000000 in
theorem w_Rd_fail_13 {D : va_G} {cT : Nat → ClassId} {H0 : Heap} {l : Launch} {p : Program} {e : Env} {s : State} {m : MethodId} {args : Array Value} {below : List Frame} {meth : Method} {c : Code} {S0 : gS} {S' : gS} (Y : gY D cT H0 p s m args meth c prog_8_method_17_code 2 "PlanText$Reader" 0 0 S0 (Option.none : Option Jvm.ClassFile.FieldType))   (S : gS) (hden : B_Rd_fail_13   S = some S') {ls : Array Slot} (hl : lv_has ls 2 []) : gV D cT H0 p l e (gRm 0 0 S0) s m args below meth c (gQ D cT H0 below S0 S' (.inr none) s) S0 S (F0 m 13 ls []) := by
  obtain ⟨X, hZ, hex, hr, hE⟩ := id Y
  have hx := X.1
  have hb := X.2.1
  unfold B_Rd_fail_13 at hden
  obtain rfl := gsi hden
  exact g_vret X hr d_Rd_fail_13
def D_Rd_fail (h0 : Nat) (p0 : Int32) (S : gS) : Option gS := Option.bind (gI S h0 7 3) (fun v1 => (if v1 = (-1) then Option.bind (gPut S h0 7 3 (.int p0)) (fun S3 => B_Rd_fail_13  S3) else B_Rd_fail_13  S))
set_option maxRecDepth 100000 in
set_option maxHeartbeats 4000000 in
theorem c_Rd_fail {D : va_G} {cT : Nat → ClassId} {H0 : Heap} {l : Launch} {S : gS} {S' : gS} {h0 : Nat} {p0 : Int32} (hden : D_Rd_fail h0 p0 S = some S') : gM D cT H0 l y_Rd_fail (Cond.code y_Rd_fail prog_8_method_17_code 2 (Option.none : Option Jvm.ClassFile.FieldType)) 0 0 [va_rf (some h0), .int p0] S S' (.inr none) := by
  refine gM.ofV (by decide) ?_
  intro p e s m args below meth c s₁ B hml ea X hZ hex hr hE
  subst ea
  have Y : gY D cT H0 p s m _ meth c prog_8_method_17_code 2 "PlanText$Reader" 0 0 S (Option.none : Option Jvm.ClassFile.FieldType) := ⟨X, hZ, hex, hr, hE⟩
  have hx := X.1
  have hb := X.2.1
  have hl := lv_entry ([va_rf (some h0), .int p0]) (n := 2) (Nat.le_of_ble_eq_true rfl)
  rw [lg_entry_eq]
  generalize (lg_sl ([va_rf (some h0), .int p0]) ++ List.replicate (2 - (lg_sl ([va_rf (some h0), .int p0])).length) Slot.unset).toArray = ls at hl ⊢
  have hl : lv_has ls 2 [(0, va_rf (some h0)), (1, .int p0)] := hl
  unfold D_Rd_fail at hden
  refine gV.lift (fun _ _ _ _ => g_aload_n hx hb d_Rd_fail_0 rfl (lv_at hl 0 rfl)) ?_
  replace hden := gb hden
  obtain ⟨v1, hv, hden⟩ := hden
  refine r_getI X cl_Rd (k := 3) hv (by decide) q_256 d_Rd_fail_1 ?_
  refine gV.lift (fun _ _ _ _ => lv_iconst (v := (-1)) hx hb d_Rd_fail_4 (by decide)) ?_
  refine gV.lift2 (fun _ _ _ _ => lv_icmp_ne (tgt := 13) hx hb d_Rd_fail_5 (by decide)) (fun hc2 => ?_) (fun hc2 => ?_)
  · replace hden := gin hc2 hden
    exact w_Rd_fail_13 Y  S hden (lv_sub hl [] rfl)
  · replace hden := gip hc2 hden
    refine gV.lift (fun _ _ _ _ => g_aload_n hx hb d_Rd_fail_8 rfl (lv_at hl 0 rfl)) ?_
    refine gV.lift (fun _ _ _ _ => lv_iload_n hx hb d_Rd_fail_9 rfl (lv_at hl 1 rfl)) ?_
    replace hden := gb hden
    obtain ⟨S3, hv, hden⟩ := hden
    refine r_put X cl_Rd (k := 3) hv (by decide) q_256 rfl rfl rfl d_Rd_fail_10 ?_
    exact w_Rd_fail_13 Y  S3 hden (lv_sub hl [] rfl)
/-! PlanText$Reader.byteAt(I)I -/
abbrev y_Rd_byteAt : MethodName := ⟨"PlanText$Reader", "byteAt", "(I)I"⟩
theorem d_Rd_byteAt_0 : decode prog_8_method_15_code 0 = .ok (.iload_n 1, 1) := by decide +kernel
theorem d_Rd_byteAt_1 : decode prog_8_method_15_code 1 = .ok (.ifCond .lt 24, 3) := by decide +kernel
theorem d_Rd_byteAt_4 : decode prog_8_method_15_code 4 = .ok (.iload_n 1, 1) := by decide +kernel
theorem d_Rd_byteAt_5 : decode prog_8_method_15_code 5 = .ok (.aload_n 0, 1) := by decide +kernel
theorem d_Rd_byteAt_6 : decode prog_8_method_15_code 6 = .ok (.getfield 28, 3) := by decide +kernel
theorem d_Rd_byteAt_9 : decode prog_8_method_15_code 9 = .ok (.if_icmp .ge 16, 3) := by decide +kernel
theorem d_Rd_byteAt_12 : decode prog_8_method_15_code 12 = .ok (.aload_n 0, 1) := by decide +kernel
theorem d_Rd_byteAt_13 : decode prog_8_method_15_code 13 = .ok (.getfield 18, 3) := by decide +kernel
theorem d_Rd_byteAt_16 : decode prog_8_method_15_code 16 = .ok (.iload_n 1, 1) := by decide +kernel
theorem d_Rd_byteAt_17 : decode prog_8_method_15_code 17 = .ok (.baload, 1) := by decide +kernel
theorem d_Rd_byteAt_18 : decode prog_8_method_15_code 18 = .ok (.sipush 255, 3) := by decide +kernel
theorem d_Rd_byteAt_21 : decode prog_8_method_15_code 21 = .ok (.iand, 1) := by decide +kernel
theorem d_Rd_byteAt_22 : decode prog_8_method_15_code 22 = .ok (.goto 4, 3) := by decide +kernel
theorem d_Rd_byteAt_25 : decode prog_8_method_15_code 25 = .ok (.iconst (-1), 1) := by decide +kernel
theorem d_Rd_byteAt_26 : decode prog_8_method_15_code 26 = .ok (.ireturn, 1) := by decide +kernel
def B_Rd_byteAt_26  (t0 : Int32) (S : gS) : Option (Int32 × gS) := some (t0, S)
set_option maxRecDepth 100000 in
set_option maxHeartbeats 4000000 in
theorem w_Rd_byteAt_26 {D : va_G} {cT : Nat → ClassId} {H0 : Heap} {l : Launch} {p : Program} {e : Env} {s : State} {m : MethodId} {args : Array Value} {below : List Frame} {meth : Method} {c : Code} {S0 : gS} {S' : gS} {r : Int32} (Y : gY D cT H0 p s m args meth c prog_8_method_15_code 2 "PlanText$Reader" 0 0 S0 (Option.some Jvm.ClassFile.FieldType.int))  (t0 : Int32) (S : gS) (hden : B_Rd_byteAt_26  t0 S = some (r, S')) {ls : Array Slot} (hl : lv_has ls 2 []) : gV D cT H0 p l e (gRm 0 0 S0) s m args below meth c (gQ D cT H0 below S0 S' (.inr (some (.int r))) s) S0 S (F0 m 26 ls [.int t0]) := by
  obtain ⟨X, hZ, hex, hr, hE⟩ := id Y
  have hx := X.1
  have hb := X.2.1
  unfold B_Rd_byteAt_26 at hden
  obtain ⟨rfl, rfl⟩ := gpi hden
  exact g_iret X hr d_Rd_byteAt_26
def B_Rd_byteAt_25   (S : gS) : Option (Int32 × gS) := B_Rd_byteAt_26  (-1) S
set_option maxRecDepth 100000 in
set_option maxHeartbeats 4000000 in
theorem w_Rd_byteAt_25 {D : va_G} {cT : Nat → ClassId} {H0 : Heap} {l : Launch} {p : Program} {e : Env} {s : State} {m : MethodId} {args : Array Value} {below : List Frame} {meth : Method} {c : Code} {S0 : gS} {S' : gS} {r : Int32} (Y : gY D cT H0 p s m args meth c prog_8_method_15_code 2 "PlanText$Reader" 0 0 S0 (Option.some Jvm.ClassFile.FieldType.int))   (S : gS) (hden : B_Rd_byteAt_25   S = some (r, S')) {ls : Array Slot} (hl : lv_has ls 2 []) : gV D cT H0 p l e (gRm 0 0 S0) s m args below meth c (gQ D cT H0 below S0 S' (.inr (some (.int r))) s) S0 S (F0 m 25 ls []) := by
  obtain ⟨X, hZ, hex, hr, hE⟩ := id Y
  have hx := X.1
  have hb := X.2.1
  unfold B_Rd_byteAt_25 at hden
  refine gV.lift (fun _ _ _ _ => lv_iconst (v := (-1)) hx hb d_Rd_byteAt_25 (by decide)) ?_
  exact w_Rd_byteAt_26 Y  (-1) S hden (lv_sub hl [] rfl)
def D_Rd_byteAt (h0 : Nat) (p0 : Int32) (S : gS) : Option (Int32 × gS) := (if p0 < 0 then B_Rd_byteAt_25  S else Option.bind (gI S h0 7 1) (fun v2 => (if v2 ≤ p0 then B_Rd_byteAt_25  S else Option.bind (gRf S h0 7 0) (fun r4 => Option.bind r4 (fun a5 => Option.bind (gAI S a5 2 p0) (fun v6 => B_Rd_byteAt_26  (v6 &&& 255) S))))))
set_option maxRecDepth 100000 in
set_option maxHeartbeats 4000000 in
theorem c_Rd_byteAt {D : va_G} {cT : Nat → ClassId} {H0 : Heap} {l : Launch} {S : gS} {S' : gS} {h0 : Nat} {p0 : Int32} {r : Int32} (hden : D_Rd_byteAt h0 p0 S = some (r, S')) : gM D cT H0 l y_Rd_byteAt (Cond.code y_Rd_byteAt prog_8_method_15_code 2 (Option.some Jvm.ClassFile.FieldType.int)) 0 0 [va_rf (some h0), .int p0] S S' (.inr (some (.int r))) := by
  refine gM.ofV (by decide) ?_
  intro p e s m args below meth c s₁ B hml ea X hZ hex hr hE
  subst ea
  have Y : gY D cT H0 p s m _ meth c prog_8_method_15_code 2 "PlanText$Reader" 0 0 S (Option.some Jvm.ClassFile.FieldType.int) := ⟨X, hZ, hex, hr, hE⟩
  have hx := X.1
  have hb := X.2.1
  have hl := lv_entry ([va_rf (some h0), .int p0]) (n := 2) (Nat.le_of_ble_eq_true rfl)
  rw [lg_entry_eq]
  generalize (lg_sl ([va_rf (some h0), .int p0]) ++ List.replicate (2 - (lg_sl ([va_rf (some h0), .int p0])).length) Slot.unset).toArray = ls at hl ⊢
  have hl : lv_has ls 2 [(0, va_rf (some h0)), (1, .int p0)] := hl
  unfold D_Rd_byteAt at hden
  refine gV.lift (fun _ _ _ _ => lv_iload_n hx hb d_Rd_byteAt_0 rfl (lv_at hl 1 rfl)) ?_
  refine gV.lift2 (fun _ _ _ _ => lv_if_lt (tgt := 25) hx hb d_Rd_byteAt_1 (by decide)) (fun hc1 => ?_) (fun hc1 => ?_)
  · replace hden := gip hc1 hden
    exact w_Rd_byteAt_25 Y  S hden (lv_sub hl [] rfl)
  · replace hden := gin hc1 hden
    refine gV.lift (fun _ _ _ _ => lv_iload_n hx hb d_Rd_byteAt_4 rfl (lv_at hl 1 rfl)) ?_
    refine gV.lift (fun _ _ _ _ => g_aload_n hx hb d_Rd_byteAt_5 rfl (lv_at hl 0 rfl)) ?_
    replace hden := gb hden
    obtain ⟨v2, hv, hden⟩ := hden
    refine r_getI X cl_Rd (k := 1) hv (by decide) q_254 d_Rd_byteAt_6 ?_
    refine gV.lift2 (fun _ _ _ _ => lv_icmp_ge (tgt := 25) hx hb d_Rd_byteAt_9 (by decide)) (fun hc3 => ?_) (fun hc3 => ?_)
    · replace hden := gip hc3 hden
      exact w_Rd_byteAt_25 Y  S hden (lv_sub hl [] rfl)
    · replace hden := gin hc3 hden
      refine gV.lift (fun _ _ _ _ => g_aload_n hx hb d_Rd_byteAt_12 rfl (lv_at hl 0 rfl)) ?_
      replace hden := gb hden
      obtain ⟨r4, hv, hden⟩ := hden
      refine r_getR X cl_Rd (k := 0) hv (by decide) q_253 d_Rd_byteAt_13 ?_
      refine gV.lift (fun _ _ _ _ => lv_iload_n hx hb d_Rd_byteAt_16 rfl (lv_at hl 1 rfl)) ?_
      replace hden := gb hden
      obtain ⟨a5, rfl, hden⟩ := hden
      replace hden := gb hden
      obtain ⟨v6, hv, hden⟩ := hden
      refine r_bald X (t := 2) rfl hv d_Rd_byteAt_17 ?_
      refine gV.lift (fun _ _ _ _ => lv_sipush (v := 255) hx hb d_Rd_byteAt_18 (by decide)) ?_
      refine gV.lift (fun _ _ _ _ => lv_iand hx hb d_Rd_byteAt_21) ?_
      refine gV.lift (fun _ _ _ _ => lv_goto (tgt := 26) hx hb d_Rd_byteAt_22 (by decide)) ?_
      exact w_Rd_byteAt_26 Y  (v6 &&& 255) S hden (lv_sub hl [] rfl)
/-! PlanText$Reader.readNumber(II)I -/
abbrev y_Rd_readNumber : MethodName := ⟨"PlanText$Reader", "readNumber", "(II)I"⟩
theorem d_Rd_readNumber_0 : decode prog_8_method_11_code 0 = .ok (.aload_n 0, 1) := by decide +kernel
theorem d_Rd_readNumber_1 : decode prog_8_method_11_code 1 = .ok (.invokevirtual 36, 3) := by decide +kernel
theorem d_Rd_readNumber_4 : decode prog_8_method_11_code 4 = .ok (.istore_n 3, 1) := by decide +kernel
theorem d_Rd_readNumber_5 : decode prog_8_method_11_code 5 = .ok (.iload_n 3, 1) := by decide +kernel
theorem d_Rd_readNumber_6 : decode prog_8_method_11_code 6 = .ok (.invokestatic 140, 3) := by decide +kernel
theorem d_Rd_readNumber_9 : decode prog_8_method_11_code 9 = .ok (.ifCond .ne 13, 3) := by decide +kernel
theorem d_Rd_readNumber_12 : decode prog_8_method_11_code 12 = .ok (.aload_n 0, 1) := by decide +kernel
theorem d_Rd_readNumber_13 : decode prog_8_method_11_code 13 = .ok (.aload_n 0, 1) := by decide +kernel
theorem d_Rd_readNumber_14 : decode prog_8_method_11_code 14 = .ok (.getfield 9, 3) := by decide +kernel
theorem d_Rd_readNumber_17 : decode prog_8_method_11_code 17 = .ok (.invokevirtual 58, 3) := by decide +kernel
theorem d_Rd_readNumber_20 : decode prog_8_method_11_code 20 = .ok (.iload_n 1, 1) := by decide +kernel
theorem d_Rd_readNumber_21 : decode prog_8_method_11_code 21 = .ok (.ireturn, 1) := by decide +kernel
theorem d_Rd_readNumber_22 : decode prog_8_method_11_code 22 = .ok (.iload_n 3, 1) := by decide +kernel
theorem d_Rd_readNumber_23 : decode prog_8_method_11_code 23 = .ok (.bipush 48, 2) := by decide +kernel
theorem d_Rd_readNumber_25 : decode prog_8_method_11_code 25 = .ok (.if_icmp .ne 42, 3) := by decide +kernel
theorem d_Rd_readNumber_28 : decode prog_8_method_11_code 28 = .ok (.aload_n 0, 1) := by decide +kernel
theorem d_Rd_readNumber_29 : decode prog_8_method_11_code 29 = .ok (.aload_n 0, 1) := by decide +kernel
theorem d_Rd_readNumber_30 : decode prog_8_method_11_code 30 = .ok (.getfield 9, 3) := by decide +kernel
theorem d_Rd_readNumber_33 : decode prog_8_method_11_code 33 = .ok (.iconst 1, 1) := by decide +kernel
theorem d_Rd_readNumber_34 : decode prog_8_method_11_code 34 = .ok (.iadd, 1) := by decide +kernel
theorem d_Rd_readNumber_35 : decode prog_8_method_11_code 35 = .ok (.invokevirtual 144, 3) := by decide +kernel
theorem d_Rd_readNumber_38 : decode prog_8_method_11_code 38 = .ok (.invokestatic 140, 3) := by decide +kernel
theorem d_Rd_readNumber_41 : decode prog_8_method_11_code 41 = .ok (.ifCond .eq 26, 3) := by decide +kernel
theorem d_Rd_readNumber_44 : decode prog_8_method_11_code 44 = .ok (.aload_n 0, 1) := by decide +kernel
theorem d_Rd_readNumber_45 : decode prog_8_method_11_code 45 = .ok (.iload_n 1, 1) := by decide +kernel
theorem d_Rd_readNumber_46 : decode prog_8_method_11_code 46 = .ok (.ifCond .ne 12, 3) := by decide +kernel
theorem d_Rd_readNumber_49 : decode prog_8_method_11_code 49 = .ok (.aload_n 0, 1) := by decide +kernel
theorem d_Rd_readNumber_50 : decode prog_8_method_11_code 50 = .ok (.getfield 9, 3) := by decide +kernel
theorem d_Rd_readNumber_53 : decode prog_8_method_11_code 53 = .ok (.iconst 1, 1) := by decide +kernel
theorem d_Rd_readNumber_54 : decode prog_8_method_11_code 54 = .ok (.iadd, 1) := by decide +kernel
theorem d_Rd_readNumber_55 : decode prog_8_method_11_code 55 = .ok (.goto 7, 3) := by decide +kernel
theorem d_Rd_readNumber_58 : decode prog_8_method_11_code 58 = .ok (.aload_n 0, 1) := by decide +kernel
theorem d_Rd_readNumber_59 : decode prog_8_method_11_code 59 = .ok (.getfield 9, 3) := by decide +kernel
theorem d_Rd_readNumber_62 : decode prog_8_method_11_code 62 = .ok (.invokevirtual 58, 3) := by decide +kernel
theorem d_Rd_readNumber_65 : decode prog_8_method_11_code 65 = .ok (.iload_n 1, 1) := by decide +kernel
theorem d_Rd_readNumber_66 : decode prog_8_method_11_code 66 = .ok (.ireturn, 1) := by decide +kernel
theorem d_Rd_readNumber_67 : decode prog_8_method_11_code 67 = .ok (.iconst 0, 1) := by decide +kernel
theorem d_Rd_readNumber_68 : decode prog_8_method_11_code 68 = .ok (.istore 4, 2) := by decide +kernel
theorem d_Rd_readNumber_70 : decode prog_8_method_11_code 70 = .ok (.iconst 0, 1) := by decide +kernel
theorem d_Rd_readNumber_71 : decode prog_8_method_11_code 71 = .ok (.istore 5, 2) := by decide +kernel
theorem d_Rd_readNumber_73 : decode prog_8_method_11_code 73 = .ok (.iload 5, 2) := by decide +kernel
theorem d_Rd_readNumber_75 : decode prog_8_method_11_code 75 = .ok (.iconst 3, 1) := by decide +kernel
theorem d_Rd_readNumber_76 : decode prog_8_method_11_code 76 = .ok (.if_icmp .ge 52, 3) := by decide +kernel
theorem d_Rd_readNumber_79 : decode prog_8_method_11_code 79 = .ok (.aload_n 0, 1) := by decide +kernel
theorem d_Rd_readNumber_80 : decode prog_8_method_11_code 80 = .ok (.aload_n 0, 1) := by decide +kernel
theorem d_Rd_readNumber_81 : decode prog_8_method_11_code 81 = .ok (.getfield 9, 3) := by decide +kernel
theorem d_Rd_readNumber_84 : decode prog_8_method_11_code 84 = .ok (.invokevirtual 144, 3) := by decide +kernel
theorem d_Rd_readNumber_87 : decode prog_8_method_11_code 87 = .ok (.invokestatic 140, 3) := by decide +kernel
theorem d_Rd_readNumber_90 : decode prog_8_method_11_code 90 = .ok (.ifCond .eq 38, 3) := by decide +kernel
theorem d_Rd_readNumber_93 : decode prog_8_method_11_code 93 = .ok (.bipush 10, 2) := by decide +kernel
theorem d_Rd_readNumber_95 : decode prog_8_method_11_code 95 = .ok (.iload 4, 2) := by decide +kernel
theorem d_Rd_readNumber_97 : decode prog_8_method_11_code 97 = .ok (.imul, 1) := by decide +kernel
theorem d_Rd_readNumber_98 : decode prog_8_method_11_code 98 = .ok (.aload_n 0, 1) := by decide +kernel
theorem d_Rd_readNumber_99 : decode prog_8_method_11_code 99 = .ok (.aload_n 0, 1) := by decide +kernel
theorem d_Rd_readNumber_100 : decode prog_8_method_11_code 100 = .ok (.getfield 9, 3) := by decide +kernel
theorem d_Rd_readNumber_103 : decode prog_8_method_11_code 103 = .ok (.invokevirtual 144, 3) := by decide +kernel
theorem d_Rd_readNumber_106 : decode prog_8_method_11_code 106 = .ok (.iadd, 1) := by decide +kernel
theorem d_Rd_readNumber_107 : decode prog_8_method_11_code 107 = .ok (.bipush 48, 2) := by decide +kernel
theorem d_Rd_readNumber_109 : decode prog_8_method_11_code 109 = .ok (.isub, 1) := by decide +kernel
theorem d_Rd_readNumber_110 : decode prog_8_method_11_code 110 = .ok (.istore 4, 2) := by decide +kernel
theorem d_Rd_readNumber_112 : decode prog_8_method_11_code 112 = .ok (.aload_n 0, 1) := by decide +kernel
theorem d_Rd_readNumber_113 : decode prog_8_method_11_code 113 = .ok (.dup, 1) := by decide +kernel
theorem d_Rd_readNumber_114 : decode prog_8_method_11_code 114 = .ok (.getfield 9, 3) := by decide +kernel
theorem d_Rd_readNumber_117 : decode prog_8_method_11_code 117 = .ok (.iconst 1, 1) := by decide +kernel
theorem d_Rd_readNumber_118 : decode prog_8_method_11_code 118 = .ok (.iadd, 1) := by decide +kernel
theorem d_Rd_readNumber_119 : decode prog_8_method_11_code 119 = .ok (.putfield 9, 3) := by decide +kernel
theorem d_Rd_readNumber_122 : decode prog_8_method_11_code 122 = .ok (.iinc 5 1, 3) := by decide +kernel
theorem d_Rd_readNumber_125 : decode prog_8_method_11_code 125 = .ok (.goto (-52), 3) := by decide +kernel
theorem d_Rd_readNumber_128 : decode prog_8_method_11_code 128 = .ok (.iload 4, 2) := by decide +kernel
theorem d_Rd_readNumber_130 : decode prog_8_method_11_code 130 = .ok (.iload_n 1, 1) := by decide +kernel
theorem d_Rd_readNumber_131 : decode prog_8_method_11_code 131 = .ok (.if_icmp .lt 9, 3) := by decide +kernel
theorem d_Rd_readNumber_134 : decode prog_8_method_11_code 134 = .ok (.iload 4, 2) := by decide +kernel
theorem d_Rd_readNumber_136 : decode prog_8_method_11_code 136 = .ok (.iload_n 2, 1) := by decide +kernel
theorem d_Rd_readNumber_137 : decode prog_8_method_11_code 137 = .ok (.if_icmp .le 15, 3) := by decide +kernel
theorem d_Rd_readNumber_140 : decode prog_8_method_11_code 140 = .ok (.aload_n 0, 1) := by decide +kernel
theorem d_Rd_readNumber_141 : decode prog_8_method_11_code 141 = .ok (.aload_n 0, 1) := by decide +kernel
theorem d_Rd_readNumber_142 : decode prog_8_method_11_code 142 = .ok (.getfield 9, 3) := by decide +kernel
theorem d_Rd_readNumber_145 : decode prog_8_method_11_code 145 = .ok (.iconst 1, 1) := by decide +kernel
theorem d_Rd_readNumber_146 : decode prog_8_method_11_code 146 = .ok (.isub, 1) := by decide +kernel
theorem d_Rd_readNumber_147 : decode prog_8_method_11_code 147 = .ok (.invokevirtual 58, 3) := by decide +kernel
theorem d_Rd_readNumber_150 : decode prog_8_method_11_code 150 = .ok (.iload_n 1, 1) := by decide +kernel
theorem d_Rd_readNumber_151 : decode prog_8_method_11_code 151 = .ok (.ireturn, 1) := by decide +kernel
theorem d_Rd_readNumber_152 : decode prog_8_method_11_code 152 = .ok (.aload_n 0, 1) := by decide +kernel
theorem d_Rd_readNumber_153 : decode prog_8_method_11_code 153 = .ok (.aload_n 0, 1) := by decide +kernel
theorem d_Rd_readNumber_154 : decode prog_8_method_11_code 154 = .ok (.getfield 9, 3) := by decide +kernel
theorem d_Rd_readNumber_157 : decode prog_8_method_11_code 157 = .ok (.invokevirtual 144, 3) := by decide +kernel
theorem d_Rd_readNumber_160 : decode prog_8_method_11_code 160 = .ok (.invokestatic 140, 3) := by decide +kernel
theorem d_Rd_readNumber_163 : decode prog_8_method_11_code 163 = .ok (.ifCond .eq 11, 3) := by decide +kernel
theorem d_Rd_readNumber_166 : decode prog_8_method_11_code 166 = .ok (.aload_n 0, 1) := by decide +kernel
theorem d_Rd_readNumber_167 : decode prog_8_method_11_code 167 = .ok (.aload_n 0, 1) := by decide +kernel
theorem d_Rd_readNumber_168 : decode prog_8_method_11_code 168 = .ok (.getfield 9, 3) := by decide +kernel
theorem d_Rd_readNumber_171 : decode prog_8_method_11_code 171 = .ok (.invokevirtual 58, 3) := by decide +kernel
theorem d_Rd_readNumber_174 : decode prog_8_method_11_code 174 = .ok (.iload 4, 2) := by decide +kernel
theorem d_Rd_readNumber_176 : decode prog_8_method_11_code 176 = .ok (.ireturn, 1) := by decide +kernel
def B_Rd_readNumber_174  (x4 : Int32) (S : gS) : Option (Int32 × gS) := some (x4, S)
set_option maxRecDepth 100000 in
set_option maxHeartbeats 4000000 in
theorem w_Rd_readNumber_174 {D : va_G} {cT : Nat → ClassId} {H0 : Heap} {l : Launch} {p : Program} {e : Env} {s : State} {m : MethodId} {args : Array Value} {below : List Frame} {meth : Method} {c : Code} {S0 : gS} {S' : gS} {r : Int32} (Y : gY D cT H0 p s m args meth c prog_8_method_11_code 6 "PlanText$Reader" 1 21 S0 (Option.some Jvm.ClassFile.FieldType.int))  (x4 : Int32) (S : gS) (hden : B_Rd_readNumber_174  x4 S = some (r, S')) {ls : Array Slot} (hl : lv_has ls 6 [(4, .int x4)]) : gV D cT H0 p l e (gRm 1 21 S0) s m args below meth c (gQ D cT H0 below S0 S' (.inr (some (.int r))) s) S0 S (F0 m 174 ls []) := by
  obtain ⟨X, hZ, hex, hr, hE⟩ := id Y
  have hx := X.1
  have hb := X.2.1
  unfold B_Rd_readNumber_174 at hden
  refine gV.lift (fun _ _ _ _ => lv_iload hx hb d_Rd_readNumber_174 (lv_at hl 0 rfl)) ?_
  obtain ⟨rfl, rfl⟩ := gpi hden
  exact g_iret X hr d_Rd_readNumber_176
def B_Rd_readNumber_140  (x0 : Nat) (x1 : Int32) (S : gS) : Option (Int32 × gS) := Option.bind (gI S x0 7 2) (fun v1 => Option.bind (gOb S x0 7) (fun fs3 => Option.bind (D_Rd_fail x0 (v1 - 1) S) (fun S2 => some (x1, S2))))
set_option maxRecDepth 100000 in
set_option maxHeartbeats 4000000 in
theorem w_Rd_readNumber_140 {D : va_G} {cT : Nat → ClassId} {H0 : Heap} {l : Launch} {p : Program} {e : Env} {s : State} {m : MethodId} {args : Array Value} {below : List Frame} {meth : Method} {c : Code} {S0 : gS} {S' : gS} {r : Int32} (Y : gY D cT H0 p s m args meth c prog_8_method_11_code 6 "PlanText$Reader" 1 21 S0 (Option.some Jvm.ClassFile.FieldType.int))  (x0 : Nat) (x1 : Int32) (S : gS) (hden : B_Rd_readNumber_140  x0 x1 S = some (r, S')) {ls : Array Slot} (hl : lv_has ls 6 [(0, va_rf (some x0)), (1, .int x1)]) : gV D cT H0 p l e (gRm 1 21 S0) s m args below meth c (gQ D cT H0 below S0 S' (.inr (some (.int r))) s) S0 S (F0 m 140 ls []) := by
  obtain ⟨X, hZ, hex, hr, hE⟩ := id Y
  have hx := X.1
  have hb := X.2.1
  unfold B_Rd_readNumber_140 at hden
  refine gV.lift (fun _ _ _ _ => g_aload_n hx hb d_Rd_readNumber_140 rfl (lv_at hl 0 rfl)) ?_
  refine gV.lift (fun _ _ _ _ => g_aload_n hx hb d_Rd_readNumber_141 rfl (lv_at hl 0 rfl)) ?_
  replace hden := gb hden
  obtain ⟨v1, hv, hden⟩ := hden
  refine r_getI X cl_Rd (k := 2) hv (by decide) q_255 d_Rd_readNumber_142 ?_
  refine gV.lift (fun _ _ _ _ => lv_iconst (v := 1) hx hb d_Rd_readNumber_145 (by decide)) ?_
  refine gV.lift (fun _ _ _ _ => lv_isub hx hb d_Rd_readNumber_146) ?_
  replace hden := gb hden
  obtain ⟨fs3, ho, hden⟩ := hden
  replace hden := gb hden
  obtain ⟨S2, hz, hden⟩ := hden
  refine g_callV (As := [.int (v1 - 1)]) (rest := []) X hZ (c_Rd_fail hz) cl_Rd (gOb_spec ho) q_295 q_11 q_292 q_294 qp_5 ⟨by decide, by decide, by show _ = some 1; decide +kernel⟩ ⟨by decide, by decide⟩ hl.1 (Nat.le_of_ble_eq_true rfl) d_Rd_readNumber_147 rfl rfl ?_
  refine gV.lift (fun _ _ _ _ => lv_iload_n hx hb d_Rd_readNumber_150 rfl (lv_at hl 1 rfl)) ?_
  obtain ⟨rfl, rfl⟩ := gpi hden
  exact g_iret X hr d_Rd_readNumber_151
def B_Rd_readNumber_128  (x0 : Nat) (x1 : Int32) (x2 : Int32) (x4 : Int32) (S : gS) : Option (Int32 × gS) := (if x4 < x1 then B_Rd_readNumber_140  x0 x1 S else (if x4 ≤ x2 then Option.bind (gI S x0 7 2) (fun v3 => Option.bind (gOb S x0 7) (fun fs6 => gB2 (D_Rd_byteAt x0 v3 S) (fun v5 S4 => gB2 (D_Rd_isDigit v5 S4) (fun v8 S7 => (if v8 = 0 then B_Rd_readNumber_174  x4 S7 else Option.bind (gI S7 x0 7 2) (fun v10 => Option.bind (gOb S7 x0 7) (fun fs12 => Option.bind (D_Rd_fail x0 v10 S7) (fun S11 => B_Rd_readNumber_174  x4 S11)))))))) else B_Rd_readNumber_140  x0 x1 S))
set_option maxRecDepth 100000 in
set_option maxHeartbeats 4000000 in
theorem w_Rd_readNumber_128 {D : va_G} {cT : Nat → ClassId} {H0 : Heap} {l : Launch} {p : Program} {e : Env} {s : State} {m : MethodId} {args : Array Value} {below : List Frame} {meth : Method} {c : Code} {S0 : gS} {S' : gS} {r : Int32} (Y : gY D cT H0 p s m args meth c prog_8_method_11_code 6 "PlanText$Reader" 1 21 S0 (Option.some Jvm.ClassFile.FieldType.int))  (x0 : Nat) (x1 : Int32) (x2 : Int32) (x4 : Int32) (S : gS) (hden : B_Rd_readNumber_128  x0 x1 x2 x4 S = some (r, S')) {ls : Array Slot} (hl : lv_has ls 6 [(0, va_rf (some x0)), (1, .int x1), (2, .int x2), (4, .int x4)]) : gV D cT H0 p l e (gRm 1 21 S0) s m args below meth c (gQ D cT H0 below S0 S' (.inr (some (.int r))) s) S0 S (F0 m 128 ls []) := by
  obtain ⟨X, hZ, hex, hr, hE⟩ := id Y
  have hx := X.1
  have hb := X.2.1
  unfold B_Rd_readNumber_128 at hden
  refine gV.lift (fun _ _ _ _ => lv_iload hx hb d_Rd_readNumber_128 (lv_at hl 3 rfl)) ?_
  refine gV.lift (fun _ _ _ _ => lv_iload_n hx hb d_Rd_readNumber_130 rfl (lv_at hl 1 rfl)) ?_
  refine gV.lift2 (fun _ _ _ _ => lv_icmp_lt (tgt := 140) hx hb d_Rd_readNumber_131 (by decide)) (fun hc1 => ?_) (fun hc1 => ?_)
  · replace hden := gip hc1 hden
    exact w_Rd_readNumber_140 Y  x0 x1 S hden (lv_sub hl [0, 1] rfl)
  · replace hden := gin hc1 hden
    refine gV.lift (fun _ _ _ _ => lv_iload hx hb d_Rd_readNumber_134 (lv_at hl 3 rfl)) ?_
    refine gV.lift (fun _ _ _ _ => lv_iload_n hx hb d_Rd_readNumber_136 rfl (lv_at hl 2 rfl)) ?_
    refine gV.lift2 (fun _ _ _ _ => lv_icmp_le (tgt := 152) hx hb d_Rd_readNumber_137 (by decide)) (fun hc2 => ?_) (fun hc2 => ?_)
    · replace hden := gip hc2 hden
      refine gV.lift (fun _ _ _ _ => g_aload_n hx hb d_Rd_readNumber_152 rfl (lv_at hl 0 rfl)) ?_
      refine gV.lift (fun _ _ _ _ => g_aload_n hx hb d_Rd_readNumber_153 rfl (lv_at hl 0 rfl)) ?_
      replace hden := gb hden
      obtain ⟨v3, hv, hden⟩ := hden
      refine r_getI X cl_Rd (k := 2) hv (by decide) q_255 d_Rd_readNumber_154 ?_
      replace hden := gb hden
      obtain ⟨fs6, ho, hden⟩ := hden
      replace hden := gb2 hden
      obtain ⟨v5, S4, hz, hden⟩ := hden
      refine g_callV (As := [.int v3]) (rest := []) X hZ (c_Rd_byteAt hz) cl_Rd (gOb_spec ho) q_299 q_11 q_296 q_298 qp_6 ⟨by decide, by decide, by show _ = some 1; decide +kernel⟩ ⟨by decide, by decide⟩ hl.1 (Nat.le_of_ble_eq_true rfl) d_Rd_readNumber_157 rfl rfl ?_
      replace hden := gb2 hden
      obtain ⟨v8, S7, hz, hden⟩ := hden
      refine g_callS (As := [.int v5]) (rest := []) X hZ (c_Rd_isDigit hz) q_291 q_11 q_289 q_290 ⟨by decide, by decide, by show _ = some 1; decide +kernel⟩ ⟨by decide, by decide⟩ hl.1 (Nat.le_of_ble_eq_true rfl) d_Rd_readNumber_160 rfl rfl ?_
      refine gV.lift2 (fun _ _ _ _ => lv_if_eq (tgt := 174) hx hb d_Rd_readNumber_163 (by decide)) (fun hc9 => ?_) (fun hc9 => ?_)
      · replace hden := gip hc9 hden
        exact w_Rd_readNumber_174 Y  x4 S7 hden (lv_sub hl [3] rfl)
      · replace hden := gin hc9 hden
        refine gV.lift (fun _ _ _ _ => g_aload_n hx hb d_Rd_readNumber_166 rfl (lv_at hl 0 rfl)) ?_
        refine gV.lift (fun _ _ _ _ => g_aload_n hx hb d_Rd_readNumber_167 rfl (lv_at hl 0 rfl)) ?_
        replace hden := gb hden
        obtain ⟨v10, hv, hden⟩ := hden
        refine r_getI X cl_Rd (k := 2) hv (by decide) q_255 d_Rd_readNumber_168 ?_
        replace hden := gb hden
        obtain ⟨fs12, ho, hden⟩ := hden
        replace hden := gb hden
        obtain ⟨S11, hz, hden⟩ := hden
        refine g_callV (As := [.int v10]) (rest := []) X hZ (c_Rd_fail hz) cl_Rd (gOb_spec ho) q_295 q_11 q_292 q_294 qp_5 ⟨by decide, by decide, by show _ = some 1; decide +kernel⟩ ⟨by decide, by decide⟩ hl.1 (Nat.le_of_ble_eq_true rfl) d_Rd_readNumber_171 rfl rfl ?_
        exact w_Rd_readNumber_174 Y  x4 S11 hden (lv_sub hl [3] rfl)
    · replace hden := gin hc2 hden
      exact w_Rd_readNumber_140 Y  x0 x1 S hden (lv_sub hl [0, 1] rfl)
def B_Rd_readNumber_73 (k73 : Nat → Int32 → Int32 → Int32 → Int32 → gS → Option (Int32 × gS)) (x0 : Nat) (x1 : Int32) (x2 : Int32) (x4 : Int32) (x5 : Int32) (S : gS) : Option (Int32 × gS) := (if 3 ≤ x5 then B_Rd_readNumber_128  x0 x1 x2 x4 S else Option.bind (gI S x0 7 2) (fun v2 => Option.bind (gOb S x0 7) (fun fs5 => gB2 (D_Rd_byteAt x0 v2 S) (fun v4 S3 => gB2 (D_Rd_isDigit v4 S3) (fun v7 S6 => (if v7 = 0 then B_Rd_readNumber_128  x0 x1 x2 x4 S6 else Option.bind (gI S6 x0 7 2) (fun v9 => Option.bind (gOb S6 x0 7) (fun fs12 => gB2 (D_Rd_byteAt x0 v9 S6) (fun v11 S10 => Option.bind (gI S10 x0 7 2) (fun v13 => Option.bind (gPut S10 x0 7 2 (.int (v13 + 1))) (fun S14 => k73 x0 x1 x2 (((10 * x4) + v11) - 48) (x5 + 1) S14)))))))))))
set_option maxRecDepth 100000 in
set_option maxHeartbeats 4000000 in
theorem w_Rd_readNumber_73 {D : va_G} {cT : Nat → ClassId} {H0 : Heap} {l : Launch} {p : Program} {e : Env} {s : State} {m : MethodId} {args : Array Value} {below : List Frame} {meth : Method} {c : Code} {S0 : gS} {S' : gS} {r : Int32} (Y : gY D cT H0 p s m args meth c prog_8_method_11_code 6 "PlanText$Reader" 1 21 S0 (Option.some Jvm.ClassFile.FieldType.int)) {k73 : Nat → Int32 → Int32 → Int32 → Int32 → gS → Option (Int32 × gS)} (hk73 : ∀ (x0 : Nat) (x1 : Int32) (x2 : Int32) (x4 : Int32) (x5 : Int32) (S : gS) (ls : Array Slot), k73 x0 x1 x2 x4 x5 S = some (r, S') → lv_has ls 6 [(0, va_rf (some x0)), (1, .int x1), (2, .int x2), (4, .int x4), (5, .int x5)] → gV D cT H0 p l e (gRm 1 21 S0) s m args below meth c (gQ D cT H0 below S0 S' (.inr (some (.int r))) s) S0 S (F0 m 73 ls [])) (x0 : Nat) (x1 : Int32) (x2 : Int32) (x4 : Int32) (x5 : Int32) (S : gS) (hden : B_Rd_readNumber_73 k73 x0 x1 x2 x4 x5 S = some (r, S')) {ls : Array Slot} (hl : lv_has ls 6 [(0, va_rf (some x0)), (1, .int x1), (2, .int x2), (4, .int x4), (5, .int x5)]) : gV D cT H0 p l e (gRm 1 21 S0) s m args below meth c (gQ D cT H0 below S0 S' (.inr (some (.int r))) s) S0 S (F0 m 73 ls []) := by
  obtain ⟨X, hZ, hex, hr, hE⟩ := id Y
  have hx := X.1
  have hb := X.2.1
  unfold B_Rd_readNumber_73 at hden
  refine gV.lift (fun _ _ _ _ => lv_iload hx hb d_Rd_readNumber_73 (lv_at hl 4 rfl)) ?_
  refine gV.lift (fun _ _ _ _ => lv_iconst (v := 3) hx hb d_Rd_readNumber_75 (by decide)) ?_
  refine gV.lift2 (fun _ _ _ _ => lv_icmp_ge (tgt := 128) hx hb d_Rd_readNumber_76 (by decide)) (fun hc1 => ?_) (fun hc1 => ?_)
  · replace hden := gip hc1 hden
    exact w_Rd_readNumber_128 Y  x0 x1 x2 x4 S hden (lv_sub hl [0, 1, 2, 3] rfl)
  · replace hden := gin hc1 hden
    refine gV.lift (fun _ _ _ _ => g_aload_n hx hb d_Rd_readNumber_79 rfl (lv_at hl 0 rfl)) ?_
    refine gV.lift (fun _ _ _ _ => g_aload_n hx hb d_Rd_readNumber_80 rfl (lv_at hl 0 rfl)) ?_
    replace hden := gb hden
    obtain ⟨v2, hv, hden⟩ := hden
    refine r_getI X cl_Rd (k := 2) hv (by decide) q_255 d_Rd_readNumber_81 ?_
    replace hden := gb hden
    obtain ⟨fs5, ho, hden⟩ := hden
    replace hden := gb2 hden
    obtain ⟨v4, S3, hz, hden⟩ := hden
    refine g_callV (As := [.int v2]) (rest := []) X hZ (c_Rd_byteAt hz) cl_Rd (gOb_spec ho) q_299 q_11 q_296 q_298 qp_6 ⟨by decide, by decide, by show _ = some 1; decide +kernel⟩ ⟨by decide, by decide⟩ hl.1 (Nat.le_of_ble_eq_true rfl) d_Rd_readNumber_84 rfl rfl ?_
    replace hden := gb2 hden
    obtain ⟨v7, S6, hz, hden⟩ := hden
    refine g_callS (As := [.int v4]) (rest := []) X hZ (c_Rd_isDigit hz) q_291 q_11 q_289 q_290 ⟨by decide, by decide, by show _ = some 1; decide +kernel⟩ ⟨by decide, by decide⟩ hl.1 (Nat.le_of_ble_eq_true rfl) d_Rd_readNumber_87 rfl rfl ?_
    refine gV.lift2 (fun _ _ _ _ => lv_if_eq (tgt := 128) hx hb d_Rd_readNumber_90 (by decide)) (fun hc8 => ?_) (fun hc8 => ?_)
    · replace hden := gip hc8 hden
      exact w_Rd_readNumber_128 Y  x0 x1 x2 x4 S6 hden (lv_sub hl [0, 1, 2, 3] rfl)
    · replace hden := gin hc8 hden
      refine gV.lift (fun _ _ _ _ => lv_bipush (v := 10) hx hb d_Rd_readNumber_93 (by decide)) ?_
      refine gV.lift (fun _ _ _ _ => lv_iload hx hb d_Rd_readNumber_95 (lv_at hl 3 rfl)) ?_
      refine gV.lift (fun _ _ _ _ => lv_imul hx hb d_Rd_readNumber_97) ?_
      refine gV.lift (fun _ _ _ _ => g_aload_n hx hb d_Rd_readNumber_98 rfl (lv_at hl 0 rfl)) ?_
      refine gV.lift (fun _ _ _ _ => g_aload_n hx hb d_Rd_readNumber_99 rfl (lv_at hl 0 rfl)) ?_
      replace hden := gb hden
      obtain ⟨v9, hv, hden⟩ := hden
      refine r_getI X cl_Rd (k := 2) hv (by decide) q_255 d_Rd_readNumber_100 ?_
      replace hden := gb hden
      obtain ⟨fs12, ho, hden⟩ := hden
      replace hden := gb2 hden
      obtain ⟨v11, S10, hz, hden⟩ := hden
      refine g_callV (As := [.int v9]) (rest := [.int (10 * x4)]) X hZ (c_Rd_byteAt hz) cl_Rd (gOb_spec ho) q_299 q_11 q_296 q_298 qp_6 ⟨by decide, by decide, by show _ = some 1; decide +kernel⟩ ⟨by decide, by decide⟩ hl.1 (Nat.le_of_ble_eq_true rfl) d_Rd_readNumber_103 rfl rfl ?_
      refine gV.lift (fun _ _ _ _ => lv_iadd hx hb d_Rd_readNumber_106) ?_
      refine gV.lift (fun _ _ _ _ => lv_bipush (v := 48) hx hb d_Rd_readNumber_107 (by decide)) ?_
      refine gV.lift (fun _ _ _ _ => lv_isub hx hb d_Rd_readNumber_109) ?_
      refine gV.liftS (nL := 6) (lv' := [(4, .int (((10 * x4) + v11) - 48)), (0, va_rf (some x0)), (1, .int x1), (2, .int x2), (5, .int x5)]) (fun _ _ _ _ => lv_istore hx hb d_Rd_readNumber_110 hl (by decide) rfl) (fun ls hl => ?_)
      refine gV.lift (fun _ _ _ _ => g_aload_n hx hb d_Rd_readNumber_112 rfl (lv_at hl 1 rfl)) ?_
      refine gV.lift (fun _ _ _ _ => lv_dup hx hb d_Rd_readNumber_113 g_cat) ?_
      replace hden := gb hden
      obtain ⟨v13, hv, hden⟩ := hden
      refine r_getI X cl_Rd (k := 2) hv (by decide) q_255 d_Rd_readNumber_114 ?_
      refine gV.lift (fun _ _ _ _ => lv_iconst (v := 1) hx hb d_Rd_readNumber_117 (by decide)) ?_
      refine gV.lift (fun _ _ _ _ => lv_iadd hx hb d_Rd_readNumber_118) ?_
      replace hden := gb hden
      obtain ⟨S14, hv, hden⟩ := hden
      refine r_put X cl_Rd (k := 2) hv (by decide) q_255 rfl rfl rfl d_Rd_readNumber_119 ?_
      refine gV.liftS (nL := 6) (lv' := [(5, .int (x5 + 1)), (4, .int (((10 * x4) + v11) - 48)), (0, va_rf (some x0)), (1, .int x1), (2, .int x2)]) (fun _ _ _ _ => lv_iinc (v := (x5 + 1)) hx hb d_Rd_readNumber_122 hl (k := 4) rfl rfl (by decide) rfl) (fun ls hl => ?_)
      refine gV.lift (fun _ _ _ _ => lv_goto (tgt := 73) hx hb d_Rd_readNumber_125 (by decide)) ?_
      exact hk73 x0 x1 x2 (((10 * x4) + v11) - 48) (x5 + 1) S14 _ hden (lv_sub hl [2, 3, 4, 1, 0] rfl)
def L_Rd_readNumber_73  : Nat → Nat → Int32 → Int32 → Int32 → Int32 → gS → Option (Int32 × gS)
  | 0 => fun _ _ _ _ _ _ => none
  | n + 1 => fun x0 x1 x2 x4 x5 S => B_Rd_readNumber_73  (L_Rd_readNumber_73  n) x0 x1 x2 x4 x5 S
theorem wL_Rd_readNumber_73 {D : va_G} {cT : Nat → ClassId} {H0 : Heap} {l : Launch} {p : Program} {e : Env} {s : State} {m : MethodId} {args : Array Value} {below : List Frame} {meth : Method} {c : Code} {S0 : gS} {S' : gS} {r : Int32} (Y : gY D cT H0 p s m args meth c prog_8_method_11_code 6 "PlanText$Reader" 1 21 S0 (Option.some Jvm.ClassFile.FieldType.int))  : ∀ (n : Nat) (x0 : Nat) (x1 : Int32) (x2 : Int32) (x4 : Int32) (x5 : Int32) (S : gS) (ls : Array Slot), L_Rd_readNumber_73  n x0 x1 x2 x4 x5 S = some (r, S') → lv_has ls 6 [(0, va_rf (some x0)), (1, .int x1), (2, .int x2), (4, .int x4), (5, .int x5)] → gV D cT H0 p l e (gRm 1 21 S0) s m args below meth c (gQ D cT H0 below S0 S' (.inr (some (.int r))) s) S0 S (F0 m 73 ls []) := by
  intro n
  induction n with
  | zero => intro x0 x1 x2 x4 x5 S ls h hl; cases h
  | succ n ih => intro x0 x1 x2 x4 x5 S ls h hl; exact w_Rd_readNumber_73 Y ih x0 x1 x2 x4 x5 S h hl
def B_Rd_readNumber_67  (x0 : Nat) (x1 : Int32) (x2 : Int32) (S : gS) : Option (Int32 × gS) := L_Rd_readNumber_73  gF x0 x1 x2 0 0 S
set_option maxRecDepth 100000 in
set_option maxHeartbeats 4000000 in
theorem w_Rd_readNumber_67 {D : va_G} {cT : Nat → ClassId} {H0 : Heap} {l : Launch} {p : Program} {e : Env} {s : State} {m : MethodId} {args : Array Value} {below : List Frame} {meth : Method} {c : Code} {S0 : gS} {S' : gS} {r : Int32} (Y : gY D cT H0 p s m args meth c prog_8_method_11_code 6 "PlanText$Reader" 1 21 S0 (Option.some Jvm.ClassFile.FieldType.int))  (x0 : Nat) (x1 : Int32) (x2 : Int32) (S : gS) (hden : B_Rd_readNumber_67  x0 x1 x2 S = some (r, S')) {ls : Array Slot} (hl : lv_has ls 6 [(0, va_rf (some x0)), (1, .int x1), (2, .int x2)]) : gV D cT H0 p l e (gRm 1 21 S0) s m args below meth c (gQ D cT H0 below S0 S' (.inr (some (.int r))) s) S0 S (F0 m 67 ls []) := by
  obtain ⟨X, hZ, hex, hr, hE⟩ := id Y
  have hx := X.1
  have hb := X.2.1
  unfold B_Rd_readNumber_67 at hden
  refine gV.lift (fun _ _ _ _ => lv_iconst (v := 0) hx hb d_Rd_readNumber_67 (by decide)) ?_
  refine gV.liftS (nL := 6) (lv' := [(4, .int 0), (0, va_rf (some x0)), (1, .int x1), (2, .int x2)]) (fun _ _ _ _ => lv_istore hx hb d_Rd_readNumber_68 hl (by decide) rfl) (fun ls hl => ?_)
  refine gV.lift (fun _ _ _ _ => lv_iconst (v := 0) hx hb d_Rd_readNumber_70 (by decide)) ?_
  refine gV.liftS (nL := 6) (lv' := [(5, .int 0), (4, .int 0), (0, va_rf (some x0)), (1, .int x1), (2, .int x2)]) (fun _ _ _ _ => lv_istore hx hb d_Rd_readNumber_71 hl (by decide) rfl) (fun ls hl => ?_)
  exact wL_Rd_readNumber_73 Y  gF x0 x1 x2 0 0 S _ hden (lv_sub hl [2, 3, 4, 1, 0] rfl)
def B_Rd_readNumber_62  (x1 : Int32) (t0 : Int32) (t1 : Nat) (S : gS) : Option (Int32 × gS) := Option.bind (gOb S t1 7) (fun fs2 => Option.bind (D_Rd_fail t1 t0 S) (fun S1 => some (x1, S1)))
set_option maxRecDepth 100000 in
set_option maxHeartbeats 4000000 in
theorem w_Rd_readNumber_62 {D : va_G} {cT : Nat → ClassId} {H0 : Heap} {l : Launch} {p : Program} {e : Env} {s : State} {m : MethodId} {args : Array Value} {below : List Frame} {meth : Method} {c : Code} {S0 : gS} {S' : gS} {r : Int32} (Y : gY D cT H0 p s m args meth c prog_8_method_11_code 6 "PlanText$Reader" 1 21 S0 (Option.some Jvm.ClassFile.FieldType.int))  (x1 : Int32) (t0 : Int32) (t1 : Nat) (S : gS) (hden : B_Rd_readNumber_62  x1 t0 t1 S = some (r, S')) {ls : Array Slot} (hl : lv_has ls 6 [(1, .int x1)]) : gV D cT H0 p l e (gRm 1 21 S0) s m args below meth c (gQ D cT H0 below S0 S' (.inr (some (.int r))) s) S0 S (F0 m 62 ls [.int t0, va_rf (some t1)]) := by
  obtain ⟨X, hZ, hex, hr, hE⟩ := id Y
  have hx := X.1
  have hb := X.2.1
  unfold B_Rd_readNumber_62 at hden
  replace hden := gb hden
  obtain ⟨fs2, ho, hden⟩ := hden
  replace hden := gb hden
  obtain ⟨S1, hz, hden⟩ := hden
  refine g_callV (As := [.int t0]) (rest := []) X hZ (c_Rd_fail hz) cl_Rd (gOb_spec ho) q_295 q_11 q_292 q_294 qp_5 ⟨by decide, by decide, by show _ = some 1; decide +kernel⟩ ⟨by decide, by decide⟩ hl.1 (Nat.le_of_ble_eq_true rfl) d_Rd_readNumber_62 rfl rfl ?_
  refine gV.lift (fun _ _ _ _ => lv_iload_n hx hb d_Rd_readNumber_65 rfl (lv_at hl 0 rfl)) ?_
  obtain ⟨rfl, rfl⟩ := gpi hden
  exact g_iret X hr d_Rd_readNumber_66
def D_Rd_readNumber (h0 : Nat) (p0 : Int32) (p1 : Int32) (S : gS) : Option (Int32 × gS) := Option.bind (gOb S h0 7) (fun fs3 => gB2 (D_Rd_nextSign h0 S) (fun v2 S1 => gB2 (D_Rd_isDigit v2 S1) (fun v5 S4 => (if v5 = 0 then Option.bind (gI S4 h0 7 2) (fun v18 => Option.bind (gOb S4 h0 7) (fun fs20 => Option.bind (D_Rd_fail h0 v18 S4) (fun S19 => some (p0, S19)))) else (if v2 = 48 then Option.bind (gI S4 h0 7 2) (fun v8 => Option.bind (gOb S4 h0 7) (fun fs11 => gB2 (D_Rd_byteAt h0 (v8 + 1) S4) (fun v10 S9 => gB2 (D_Rd_isDigit v10 S9) (fun v13 S12 => (if v13 = 0 then B_Rd_readNumber_67  h0 p0 p1 S12 else (if p0 = 0 then Option.bind (gI S12 h0 7 2) (fun v17 => B_Rd_readNumber_62  p0 (v17 + 1) h0 S12) else Option.bind (gI S12 h0 7 2) (fun v16 => B_Rd_readNumber_62  p0 v16 h0 S12))))))) else B_Rd_readNumber_67  h0 p0 p1 S4)))))
set_option maxRecDepth 100000 in
set_option maxHeartbeats 4000000 in
theorem c_Rd_readNumber {D : va_G} {cT : Nat → ClassId} {H0 : Heap} {l : Launch} {S : gS} {S' : gS} {h0 : Nat} {p0 : Int32} {p1 : Int32} {r : Int32} (hden : D_Rd_readNumber h0 p0 p1 S = some (r, S')) : gM D cT H0 l y_Rd_readNumber (Cond.code y_Rd_readNumber prog_8_method_11_code 6 (Option.some Jvm.ClassFile.FieldType.int)) 1 21 [va_rf (some h0), .int p0, .int p1] S S' (.inr (some (.int r))) := by
  refine gM.ofV (by decide) ?_
  intro p e s m args below meth c s₁ B hml ea X hZ hex hr hE
  subst ea
  have Y : gY D cT H0 p s m _ meth c prog_8_method_11_code 6 "PlanText$Reader" 1 21 S (Option.some Jvm.ClassFile.FieldType.int) := ⟨X, hZ, hex, hr, hE⟩
  have hx := X.1
  have hb := X.2.1
  have hl := lv_entry ([va_rf (some h0), .int p0, .int p1]) (n := 6) (Nat.le_of_ble_eq_true rfl)
  rw [lg_entry_eq]
  generalize (lg_sl ([va_rf (some h0), .int p0, .int p1]) ++ List.replicate (6 - (lg_sl ([va_rf (some h0), .int p0, .int p1])).length) Slot.unset).toArray = ls at hl ⊢
  have hl : lv_has ls 6 [(0, va_rf (some h0)), (1, .int p0), (2, .int p1)] := hl
  unfold D_Rd_readNumber at hden
  refine gV.lift (fun _ _ _ _ => g_aload_n hx hb d_Rd_readNumber_0 rfl (lv_at hl 0 rfl)) ?_
  replace hden := gb hden
  obtain ⟨fs3, ho, hden⟩ := hden
  replace hden := gb2 hden
  obtain ⟨v2, S1, hz, hden⟩ := hden
  refine g_callV (As := []) (rest := []) X hZ (c_Rd_nextSign hz) cl_Rd (gOb_spec ho) q_276 q_11 q_273 q_275 qp_1 ⟨by decide, by decide, by show _ = some 0; decide +kernel⟩ ⟨by decide, by decide⟩ hl.1 (Nat.le_of_ble_eq_true rfl) d_Rd_readNumber_1 rfl rfl ?_
  refine gV.liftS (nL := 6) (lv' := [(3, .int v2), (0, va_rf (some h0)), (1, .int p0), (2, .int p1)]) (fun _ _ _ _ => lv_istore_n hx hb d_Rd_readNumber_4 rfl hl (by decide) rfl) (fun ls hl => ?_)
  refine gV.lift (fun _ _ _ _ => lv_iload_n hx hb d_Rd_readNumber_5 rfl (lv_at hl 0 rfl)) ?_
  replace hden := gb2 hden
  obtain ⟨v5, S4, hz, hden⟩ := hden
  refine g_callS (As := [.int v2]) (rest := []) X hZ (c_Rd_isDigit hz) q_291 q_11 q_289 q_290 ⟨by decide, by decide, by show _ = some 1; decide +kernel⟩ ⟨by decide, by decide⟩ hl.1 (Nat.le_of_ble_eq_true rfl) d_Rd_readNumber_6 rfl rfl ?_
  refine gV.lift2 (fun _ _ _ _ => lv_if_ne (tgt := 22) hx hb d_Rd_readNumber_9 (by decide)) (fun hc6 => ?_) (fun hc6 => ?_)
  · replace hden := gin hc6 hden
    refine gV.lift (fun _ _ _ _ => lv_iload_n hx hb d_Rd_readNumber_22 rfl (lv_at hl 0 rfl)) ?_
    refine gV.lift (fun _ _ _ _ => lv_bipush (v := 48) hx hb d_Rd_readNumber_23 (by decide)) ?_
    refine gV.lift2 (fun _ _ _ _ => lv_icmp_ne (tgt := 67) hx hb d_Rd_readNumber_25 (by decide)) (fun hc7 => ?_) (fun hc7 => ?_)
    · replace hden := gin hc7 hden
      exact w_Rd_readNumber_67 Y  h0 p0 p1 S4 hden (lv_sub hl [1, 2, 3] rfl)
    · replace hden := gip hc7 hden
      refine gV.lift (fun _ _ _ _ => g_aload_n hx hb d_Rd_readNumber_28 rfl (lv_at hl 1 rfl)) ?_
      refine gV.lift (fun _ _ _ _ => g_aload_n hx hb d_Rd_readNumber_29 rfl (lv_at hl 1 rfl)) ?_
      replace hden := gb hden
      obtain ⟨v8, hv, hden⟩ := hden
      refine r_getI X cl_Rd (k := 2) hv (by decide) q_255 d_Rd_readNumber_30 ?_
      refine gV.lift (fun _ _ _ _ => lv_iconst (v := 1) hx hb d_Rd_readNumber_33 (by decide)) ?_
      refine gV.lift (fun _ _ _ _ => lv_iadd hx hb d_Rd_readNumber_34) ?_
      replace hden := gb hden
      obtain ⟨fs11, ho, hden⟩ := hden
      replace hden := gb2 hden
      obtain ⟨v10, S9, hz, hden⟩ := hden
      refine g_callV (As := [.int (v8 + 1)]) (rest := []) X hZ (c_Rd_byteAt hz) cl_Rd (gOb_spec ho) q_299 q_11 q_296 q_298 qp_6 ⟨by decide, by decide, by show _ = some 1; decide +kernel⟩ ⟨by decide, by decide⟩ hl.1 (Nat.le_of_ble_eq_true rfl) d_Rd_readNumber_35 rfl rfl ?_
      replace hden := gb2 hden
      obtain ⟨v13, S12, hz, hden⟩ := hden
      refine g_callS (As := [.int v10]) (rest := []) X hZ (c_Rd_isDigit hz) q_291 q_11 q_289 q_290 ⟨by decide, by decide, by show _ = some 1; decide +kernel⟩ ⟨by decide, by decide⟩ hl.1 (Nat.le_of_ble_eq_true rfl) d_Rd_readNumber_38 rfl rfl ?_
      refine gV.lift2 (fun _ _ _ _ => lv_if_eq (tgt := 67) hx hb d_Rd_readNumber_41 (by decide)) (fun hc14 => ?_) (fun hc14 => ?_)
      · replace hden := gip hc14 hden
        exact w_Rd_readNumber_67 Y  h0 p0 p1 S12 hden (lv_sub hl [1, 2, 3] rfl)
      · replace hden := gin hc14 hden
        refine gV.lift (fun _ _ _ _ => g_aload_n hx hb d_Rd_readNumber_44 rfl (lv_at hl 1 rfl)) ?_
        refine gV.lift (fun _ _ _ _ => lv_iload_n hx hb d_Rd_readNumber_45 rfl (lv_at hl 2 rfl)) ?_
        refine gV.lift2 (fun _ _ _ _ => lv_if_ne (tgt := 58) hx hb d_Rd_readNumber_46 (by decide)) (fun hc15 => ?_) (fun hc15 => ?_)
        · replace hden := gin hc15 hden
          refine gV.lift (fun _ _ _ _ => g_aload_n hx hb d_Rd_readNumber_58 rfl (lv_at hl 1 rfl)) ?_
          replace hden := gb hden
          obtain ⟨v16, hv, hden⟩ := hden
          refine r_getI X cl_Rd (k := 2) hv (by decide) q_255 d_Rd_readNumber_59 ?_
          exact w_Rd_readNumber_62 Y  p0 v16 h0 S12 hden (lv_sub hl [2] rfl)
        · replace hden := gip hc15 hden
          refine gV.lift (fun _ _ _ _ => g_aload_n hx hb d_Rd_readNumber_49 rfl (lv_at hl 1 rfl)) ?_
          replace hden := gb hden
          obtain ⟨v17, hv, hden⟩ := hden
          refine r_getI X cl_Rd (k := 2) hv (by decide) q_255 d_Rd_readNumber_50 ?_
          refine gV.lift (fun _ _ _ _ => lv_iconst (v := 1) hx hb d_Rd_readNumber_53 (by decide)) ?_
          refine gV.lift (fun _ _ _ _ => lv_iadd hx hb d_Rd_readNumber_54) ?_
          refine gV.lift (fun _ _ _ _ => lv_goto (tgt := 62) hx hb d_Rd_readNumber_55 (by decide)) ?_
          exact w_Rd_readNumber_62 Y  p0 (v17 + 1) h0 S12 hden (lv_sub hl [2] rfl)
  · replace hden := gip hc6 hden
    refine gV.lift (fun _ _ _ _ => g_aload_n hx hb d_Rd_readNumber_12 rfl (lv_at hl 1 rfl)) ?_
    refine gV.lift (fun _ _ _ _ => g_aload_n hx hb d_Rd_readNumber_13 rfl (lv_at hl 1 rfl)) ?_
    replace hden := gb hden
    obtain ⟨v18, hv, hden⟩ := hden
    refine r_getI X cl_Rd (k := 2) hv (by decide) q_255 d_Rd_readNumber_14 ?_
    replace hden := gb hden
    obtain ⟨fs20, ho, hden⟩ := hden
    replace hden := gb hden
    obtain ⟨S19, hz, hden⟩ := hden
    refine g_callV (As := [.int v18]) (rest := []) X hZ (c_Rd_fail hz) cl_Rd (gOb_spec ho) q_295 q_11 q_292 q_294 qp_5 ⟨by decide, by decide, by show _ = some 1; decide +kernel⟩ ⟨by decide, by decide⟩ hl.1 (Nat.le_of_ble_eq_true rfl) d_Rd_readNumber_17 rfl rfl ?_
    refine gV.lift (fun _ _ _ _ => lv_iload_n hx hb d_Rd_readNumber_20 rfl (lv_at hl 2 rfl)) ?_
    obtain ⟨rfl, rfl⟩ := gpi hden
    exact g_iret X hr d_Rd_readNumber_21
/-! PlanText$Reader.expect(C)V -/
abbrev y_Rd_expect : MethodName := ⟨"PlanText$Reader", "expect", "(C)V"⟩
theorem d_Rd_expect_0 : decode prog_8_method_12_code 0 = .ok (.aload_n 0, 1) := by decide +kernel
theorem d_Rd_expect_1 : decode prog_8_method_12_code 1 = .ok (.iload_n 1, 1) := by decide +kernel
theorem d_Rd_expect_2 : decode prog_8_method_12_code 2 = .ok (.invokevirtual 40, 3) := by decide +kernel
theorem d_Rd_expect_5 : decode prog_8_method_12_code 5 = .ok (.ifCond .ne 11, 3) := by decide +kernel
theorem d_Rd_expect_8 : decode prog_8_method_12_code 8 = .ok (.aload_n 0, 1) := by decide +kernel
theorem d_Rd_expect_9 : decode prog_8_method_12_code 9 = .ok (.aload_n 0, 1) := by decide +kernel
theorem d_Rd_expect_10 : decode prog_8_method_12_code 10 = .ok (.getfield 9, 3) := by decide +kernel
theorem d_Rd_expect_13 : decode prog_8_method_12_code 13 = .ok (.invokevirtual 58, 3) := by decide +kernel
theorem d_Rd_expect_16 : decode prog_8_method_12_code 16 = .ok (.return_, 1) := by decide +kernel
def B_Rd_expect_16   (S : gS) : Option gS := some S
set_option maxRecDepth 100000 in
set_option maxHeartbeats 4000000 in
theorem w_Rd_expect_16 {D : va_G} {cT : Nat → ClassId} {H0 : Heap} {l : Launch} {p : Program} {e : Env} {s : State} {m : MethodId} {args : Array Value} {below : List Frame} {meth : Method} {c : Code} {S0 : gS} {S' : gS} (Y : gY D cT H0 p s m args meth c prog_8_method_12_code 2 "PlanText$Reader" 2 41 S0 (Option.none : Option Jvm.ClassFile.FieldType))   (S : gS) (hden : B_Rd_expect_16   S = some S') {ls : Array Slot} (hl : lv_has ls 2 []) : gV D cT H0 p l e (gRm 2 41 S0) s m args below meth c (gQ D cT H0 below S0 S' (.inr none) s) S0 S (F0 m 16 ls []) := by
  obtain ⟨X, hZ, hex, hr, hE⟩ := id Y
  have hx := X.1
  have hb := X.2.1
  unfold B_Rd_expect_16 at hden
  obtain rfl := gsi hden
  exact g_vret X hr d_Rd_expect_16
def D_Rd_expect (h0 : Nat) (p0 : Int32) (S : gS) : Option gS := Option.bind (gOb S h0 7) (fun fs3 => gB2 (D_Rd_takes h0 p0 S) (fun v2 S1 => (if v2 = 0 then Option.bind (gI S1 h0 7 2) (fun v5 => Option.bind (gOb S1 h0 7) (fun fs7 => Option.bind (D_Rd_fail h0 v5 S1) (fun S6 => B_Rd_expect_16  S6))) else B_Rd_expect_16  S1)))
set_option maxRecDepth 100000 in
set_option maxHeartbeats 4000000 in
theorem c_Rd_expect {D : va_G} {cT : Nat → ClassId} {H0 : Heap} {l : Launch} {S : gS} {S' : gS} {h0 : Nat} {p0 : Int32} (hden : D_Rd_expect h0 p0 S = some S') : gM D cT H0 l y_Rd_expect (Cond.code y_Rd_expect prog_8_method_12_code 2 (Option.none : Option Jvm.ClassFile.FieldType)) 2 41 [va_rf (some h0), .int p0] S S' (.inr none) := by
  refine gM.ofV (by decide) ?_
  intro p e s m args below meth c s₁ B hml ea X hZ hex hr hE
  subst ea
  have Y : gY D cT H0 p s m _ meth c prog_8_method_12_code 2 "PlanText$Reader" 2 41 S (Option.none : Option Jvm.ClassFile.FieldType) := ⟨X, hZ, hex, hr, hE⟩
  have hx := X.1
  have hb := X.2.1
  have hl := lv_entry ([va_rf (some h0), .int p0]) (n := 2) (Nat.le_of_ble_eq_true rfl)
  rw [lg_entry_eq]
  generalize (lg_sl ([va_rf (some h0), .int p0]) ++ List.replicate (2 - (lg_sl ([va_rf (some h0), .int p0])).length) Slot.unset).toArray = ls at hl ⊢
  have hl : lv_has ls 2 [(0, va_rf (some h0)), (1, .int p0)] := hl
  unfold D_Rd_expect at hden
  refine gV.lift (fun _ _ _ _ => g_aload_n hx hb d_Rd_expect_0 rfl (lv_at hl 0 rfl)) ?_
  refine gV.lift (fun _ _ _ _ => lv_iload_n hx hb d_Rd_expect_1 rfl (lv_at hl 1 rfl)) ?_
  replace hden := gb hden
  obtain ⟨fs3, ho, hden⟩ := hden
  replace hden := gb2 hden
  obtain ⟨v2, S1, hz, hden⟩ := hden
  refine g_callV (As := [.int p0]) (rest := []) X hZ (c_Rd_takes hz) cl_Rd (gOb_spec ho) q_280 q_11 q_277 q_279 qp_2 ⟨by decide, by decide, by show _ = some 1; decide +kernel⟩ ⟨by decide, by decide⟩ hl.1 (Nat.le_of_ble_eq_true rfl) d_Rd_expect_2 rfl rfl ?_
  refine gV.lift2 (fun _ _ _ _ => lv_if_ne (tgt := 16) hx hb d_Rd_expect_5 (by decide)) (fun hc4 => ?_) (fun hc4 => ?_)
  · replace hden := gin hc4 hden
    exact w_Rd_expect_16 Y  S1 hden (lv_sub hl [] rfl)
  · replace hden := gip hc4 hden
    refine gV.lift (fun _ _ _ _ => g_aload_n hx hb d_Rd_expect_8 rfl (lv_at hl 0 rfl)) ?_
    refine gV.lift (fun _ _ _ _ => g_aload_n hx hb d_Rd_expect_9 rfl (lv_at hl 0 rfl)) ?_
    replace hden := gb hden
    obtain ⟨v5, hv, hden⟩ := hden
    refine r_getI X cl_Rd (k := 2) hv (by decide) q_255 d_Rd_expect_10 ?_
    replace hden := gb hden
    obtain ⟨fs7, ho, hden⟩ := hden
    replace hden := gb hden
    obtain ⟨S6, hz, hden⟩ := hden
    refine g_callV (As := [.int v5]) (rest := []) X hZ (c_Rd_fail hz) cl_Rd (gOb_spec ho) q_295 q_11 q_292 q_294 qp_5 ⟨by decide, by decide, by show _ = some 1; decide +kernel⟩ ⟨by decide, by decide⟩ hl.1 (Nat.le_of_ble_eq_true rfl) d_Rd_expect_13 rfl rfl ?_
    exact w_Rd_expect_16 Y  S6 hden (lv_sub hl [] rfl)
/-! PlanText$Reader.readStretch()LPlanText$Stretch; -/
abbrev y_Rd_readStretch : MethodName := ⟨"PlanText$Reader", "readStretch", "()LPlanText$Stretch;"⟩
theorem d_Rd_readStretch_0 : decode prog_8_method_6_code 0 = .ok (.aload_n 0, 1) := by decide +kernel
theorem d_Rd_readStretch_1 : decode prog_8_method_6_code 1 = .ok (.iconst 1, 1) := by decide +kernel
theorem d_Rd_readStretch_2 : decode prog_8_method_6_code 2 = .ok (.bipush 99, 2) := by decide +kernel
theorem d_Rd_readStretch_4 : decode prog_8_method_6_code 4 = .ok (.invokevirtual 65, 3) := by decide +kernel
theorem d_Rd_readStretch_7 : decode prog_8_method_6_code 7 = .ok (.istore_n 1, 1) := by decide +kernel
theorem d_Rd_readStretch_8 : decode prog_8_method_6_code 8 = .ok (.aload_n 0, 1) := by decide +kernel
theorem d_Rd_readStretch_9 : decode prog_8_method_6_code 9 = .ok (.bipush 35, 2) := by decide +kernel
theorem d_Rd_readStretch_11 : decode prog_8_method_6_code 11 = .ok (.invokevirtual 61, 3) := by decide +kernel
theorem d_Rd_readStretch_14 : decode prog_8_method_6_code 14 = .ok (.aload_n 0, 1) := by decide +kernel
theorem d_Rd_readStretch_15 : decode prog_8_method_6_code 15 = .ok (.iconst 1, 1) := by decide +kernel
theorem d_Rd_readStretch_16 : decode prog_8_method_6_code 16 = .ok (.sipush 999, 3) := by decide +kernel
theorem d_Rd_readStretch_19 : decode prog_8_method_6_code 19 = .ok (.invokevirtual 65, 3) := by decide +kernel
theorem d_Rd_readStretch_22 : decode prog_8_method_6_code 22 = .ok (.istore_n 2, 1) := by decide +kernel
theorem d_Rd_readStretch_23 : decode prog_8_method_6_code 23 = .ok (.aload_n 0, 1) := by decide +kernel
theorem d_Rd_readStretch_24 : decode prog_8_method_6_code 24 = .ok (.bipush 45, 2) := by decide +kernel
theorem d_Rd_readStretch_26 : decode prog_8_method_6_code 26 = .ok (.invokevirtual 61, 3) := by decide +kernel
theorem d_Rd_readStretch_29 : decode prog_8_method_6_code 29 = .ok (.new 76, 3) := by decide +kernel
theorem d_Rd_readStretch_32 : decode prog_8_method_6_code 32 = .ok (.dup, 1) := by decide +kernel
theorem d_Rd_readStretch_33 : decode prog_8_method_6_code 33 = .ok (.iload_n 1, 1) := by decide +kernel
theorem d_Rd_readStretch_34 : decode prog_8_method_6_code 34 = .ok (.iload_n 2, 1) := by decide +kernel
theorem d_Rd_readStretch_35 : decode prog_8_method_6_code 35 = .ok (.aload_n 0, 1) := by decide +kernel
theorem d_Rd_readStretch_36 : decode prog_8_method_6_code 36 = .ok (.iload_n 2, 1) := by decide +kernel
theorem d_Rd_readStretch_37 : decode prog_8_method_6_code 37 = .ok (.sipush 999, 3) := by decide +kernel
theorem d_Rd_readStretch_40 : decode prog_8_method_6_code 40 = .ok (.invokevirtual 65, 3) := by decide +kernel
theorem d_Rd_readStretch_43 : decode prog_8_method_6_code 43 = .ok (.invokespecial 78, 3) := by decide +kernel
theorem d_Rd_readStretch_46 : decode prog_8_method_6_code 46 = .ok (.areturn, 1) := by decide +kernel
def D_Rd_readStretch (h0 : Nat) (S : gS) : Option ((Option Nat) × gS) := Option.bind (gOb S h0 7) (fun fs3 => gB2 (D_Rd_readNumber h0 1 99 S) (fun v2 S1 => Option.bind (gOb S1 h0 7) (fun fs5 => Option.bind (D_Rd_expect h0 35 S1) (fun S4 => Option.bind (gOb S4 h0 7) (fun fs8 => gB2 (D_Rd_readNumber h0 1 999 S4) (fun v7 S6 => Option.bind (gOb S6 h0 7) (fun fs10 => Option.bind (D_Rd_expect h0 45 S6) (fun S9 => Option.bind (gNw S9 9 [.int 0, .int 0, .int 0]) (fun S11 => Option.bind (gOb S11 h0 7) (fun fs14 => gB2 (D_Rd_readNumber h0 v7 999 S11) (fun v13 S12 => Option.bind (D_Sx_init S9.2.1 v2 v7 v13 S12) (fun S15 => some ((some S9.2.1), S15)))))))))))))
set_option maxRecDepth 100000 in
set_option maxHeartbeats 4000000 in
theorem c_Rd_readStretch {D : va_G} {cT : Nat → ClassId} {H0 : Heap} {l : Launch} {S : gS} {S' : gS} {h0 : Nat} {r : Option Nat} (hden : D_Rd_readStretch h0 S = some (r, S')) : gM D cT H0 l y_Rd_readStretch (Cond.code y_Rd_readStretch prog_8_method_6_code 3 (Option.some (Jvm.ClassFile.FieldType.object "PlanText$Stretch"))) 3 62 [va_rf (some h0)] S S' (.inr (some (va_rf r))) := by
  refine gM.ofV (by decide) ?_
  intro p e s m args below meth c s₁ B hml ea X hZ hex hr hE
  subst ea
  have Y : gY D cT H0 p s m _ meth c prog_8_method_6_code 3 "PlanText$Reader" 3 62 S (Option.some (Jvm.ClassFile.FieldType.object "PlanText$Stretch")) := ⟨X, hZ, hex, hr, hE⟩
  have hx := X.1
  have hb := X.2.1
  have hl := lv_entry ([va_rf (some h0)]) (n := 3) (Nat.le_of_ble_eq_true rfl)
  rw [lg_entry_eq]
  generalize (lg_sl ([va_rf (some h0)]) ++ List.replicate (3 - (lg_sl ([va_rf (some h0)])).length) Slot.unset).toArray = ls at hl ⊢
  have hl : lv_has ls 3 [(0, va_rf (some h0))] := hl
  unfold D_Rd_readStretch at hden
  refine gV.lift (fun _ _ _ _ => g_aload_n hx hb d_Rd_readStretch_0 rfl (lv_at hl 0 rfl)) ?_
  refine gV.lift (fun _ _ _ _ => lv_iconst (v := 1) hx hb d_Rd_readStretch_1 (by decide)) ?_
  refine gV.lift (fun _ _ _ _ => lv_bipush (v := 99) hx hb d_Rd_readStretch_2 (by decide)) ?_
  replace hden := gb hden
  obtain ⟨fs3, ho, hden⟩ := hden
  replace hden := gb2 hden
  obtain ⟨v2, S1, hz, hden⟩ := hden
  refine g_callV (As := [.int 1, .int 99]) (rest := []) X hZ (c_Rd_readNumber hz) cl_Rd (gOb_spec ho) q_288 q_11 q_285 q_287 qp_4 ⟨by decide, by decide, by show _ = some 2; decide +kernel⟩ ⟨by decide, by decide⟩ hl.1 (Nat.le_of_ble_eq_true rfl) d_Rd_readStretch_4 rfl rfl ?_
  refine gV.liftS (nL := 3) (lv' := [(1, .int v2), (0, va_rf (some h0))]) (fun _ _ _ _ => lv_istore_n hx hb d_Rd_readStretch_7 rfl hl (by decide) rfl) (fun ls hl => ?_)
  refine gV.lift (fun _ _ _ _ => g_aload_n hx hb d_Rd_readStretch_8 rfl (lv_at hl 1 rfl)) ?_
  refine gV.lift (fun _ _ _ _ => lv_bipush (v := 35) hx hb d_Rd_readStretch_9 (by decide)) ?_
  replace hden := gb hden
  obtain ⟨fs5, ho, hden⟩ := hden
  replace hden := gb hden
  obtain ⟨S4, hz, hden⟩ := hden
  refine g_callV (As := [.int 35]) (rest := []) X hZ (c_Rd_expect hz) cl_Rd (gOb_spec ho) q_307 q_11 q_304 q_306 qp_7 ⟨by decide, by decide, by show _ = some 1; decide +kernel⟩ ⟨by decide, by decide⟩ hl.1 (Nat.le_of_ble_eq_true rfl) d_Rd_readStretch_11 rfl rfl ?_
  refine gV.lift (fun _ _ _ _ => g_aload_n hx hb d_Rd_readStretch_14 rfl (lv_at hl 1 rfl)) ?_
  refine gV.lift (fun _ _ _ _ => lv_iconst (v := 1) hx hb d_Rd_readStretch_15 (by decide)) ?_
  refine gV.lift (fun _ _ _ _ => lv_sipush (v := 999) hx hb d_Rd_readStretch_16 (by decide)) ?_
  replace hden := gb hden
  obtain ⟨fs8, ho, hden⟩ := hden
  replace hden := gb2 hden
  obtain ⟨v7, S6, hz, hden⟩ := hden
  refine g_callV (As := [.int 1, .int 999]) (rest := []) X hZ (c_Rd_readNumber hz) cl_Rd (gOb_spec ho) q_288 q_11 q_285 q_287 qp_4 ⟨by decide, by decide, by show _ = some 2; decide +kernel⟩ ⟨by decide, by decide⟩ hl.1 (Nat.le_of_ble_eq_true rfl) d_Rd_readStretch_19 rfl rfl ?_
  refine gV.liftS (nL := 3) (lv' := [(2, .int v7), (1, .int v2), (0, va_rf (some h0))]) (fun _ _ _ _ => lv_istore_n hx hb d_Rd_readStretch_22 rfl hl (by decide) rfl) (fun ls hl => ?_)
  refine gV.lift (fun _ _ _ _ => g_aload_n hx hb d_Rd_readStretch_23 rfl (lv_at hl 2 rfl)) ?_
  refine gV.lift (fun _ _ _ _ => lv_bipush (v := 45) hx hb d_Rd_readStretch_24 (by decide)) ?_
  replace hden := gb hden
  obtain ⟨fs10, ho, hden⟩ := hden
  replace hden := gb hden
  obtain ⟨S9, hz, hden⟩ := hden
  refine g_callV (As := [.int 45]) (rest := []) X hZ (c_Rd_expect hz) cl_Rd (gOb_spec ho) q_307 q_11 q_304 q_306 qp_7 ⟨by decide, by decide, by show _ = some 1; decide +kernel⟩ ⟨by decide, by decide⟩ hl.1 (Nat.le_of_ble_eq_true rfl) d_Rd_readStretch_26 rfl rfl ?_
  replace hden := gb hden
  obtain ⟨S11, hv, hden⟩ := hden
  refine r_new X cl_Sx rfl hv (fun j hj => bl_Sx j hj) q_312 q_313 q_13 d_Rd_readStretch_29 ?_
  refine gV.lift (fun _ _ _ _ => lv_dup hx hb d_Rd_readStretch_32 g_cat) ?_
  refine gV.lift (fun _ _ _ _ => lv_iload_n hx hb d_Rd_readStretch_33 rfl (lv_at hl 1 rfl)) ?_
  refine gV.lift (fun _ _ _ _ => lv_iload_n hx hb d_Rd_readStretch_34 rfl (lv_at hl 0 rfl)) ?_
  refine gV.lift (fun _ _ _ _ => g_aload_n hx hb d_Rd_readStretch_35 rfl (lv_at hl 2 rfl)) ?_
  refine gV.lift (fun _ _ _ _ => lv_iload_n hx hb d_Rd_readStretch_36 rfl (lv_at hl 0 rfl)) ?_
  refine gV.lift (fun _ _ _ _ => lv_sipush (v := 999) hx hb d_Rd_readStretch_37 (by decide)) ?_
  replace hden := gb hden
  obtain ⟨fs14, ho, hden⟩ := hden
  replace hden := gb2 hden
  obtain ⟨v13, S12, hz, hden⟩ := hden
  refine g_callV (As := [.int v7, .int 999]) (rest := [.int v7, .int v2, va_rf (some S9.2.1), va_rf (some S9.2.1)]) X hZ (c_Rd_readNumber hz) cl_Rd (gOb_spec ho) q_288 q_11 q_285 q_287 qp_4 ⟨by decide, by decide, by show _ = some 2; decide +kernel⟩ ⟨by decide, by decide⟩ hl.1 (Nat.le_of_ble_eq_true rfl) d_Rd_readStretch_40 rfl rfl ?_
  replace hden := gb hden
  obtain ⟨S15, hz, hden⟩ := hden
  refine g_callI (As := [.int v2, .int v7, .int v13]) (rest := [va_rf (some S9.2.1)]) X hZ (c_Sx_init hz) q_316 q_13 q_314 q_315 rfl ⟨by decide, by decide, by show _ = some 3; decide +kernel⟩ ⟨by decide, by decide⟩ hl.1 (Nat.le_of_ble_eq_true rfl) d_Rd_readStretch_43 rfl ?_
  obtain ⟨rfl, rfl⟩ := gpi hden
  exact g_aret X hr d_Rd_readStretch_46
/-! PlanText$Reader.readHours()LPlanText$Hours; -/
abbrev y_Rd_readHours : MethodName := ⟨"PlanText$Reader", "readHours", "()LPlanText$Hours;"⟩
theorem d_Rd_readHours_0 : decode prog_8_method_7_code 0 = .ok (.aload_n 0, 1) := by decide +kernel
theorem d_Rd_readHours_1 : decode prog_8_method_7_code 1 = .ok (.iconst 0, 1) := by decide +kernel
theorem d_Rd_readHours_2 : decode prog_8_method_7_code 2 = .ok (.bipush 23, 2) := by decide +kernel
theorem d_Rd_readHours_4 : decode prog_8_method_7_code 4 = .ok (.invokevirtual 65, 3) := by decide +kernel
theorem d_Rd_readHours_7 : decode prog_8_method_7_code 7 = .ok (.istore_n 1, 1) := by decide +kernel
theorem d_Rd_readHours_8 : decode prog_8_method_7_code 8 = .ok (.aload_n 0, 1) := by decide +kernel
theorem d_Rd_readHours_9 : decode prog_8_method_7_code 9 = .ok (.bipush 45, 2) := by decide +kernel
theorem d_Rd_readHours_11 : decode prog_8_method_7_code 11 = .ok (.invokevirtual 61, 3) := by decide +kernel
theorem d_Rd_readHours_14 : decode prog_8_method_7_code 14 = .ok (.aload_n 0, 1) := by decide +kernel
theorem d_Rd_readHours_15 : decode prog_8_method_7_code 15 = .ok (.iconst 0, 1) := by decide +kernel
theorem d_Rd_readHours_16 : decode prog_8_method_7_code 16 = .ok (.bipush 23, 2) := by decide +kernel
theorem d_Rd_readHours_18 : decode prog_8_method_7_code 18 = .ok (.invokevirtual 65, 3) := by decide +kernel
theorem d_Rd_readHours_21 : decode prog_8_method_7_code 21 = .ok (.istore_n 2, 1) := by decide +kernel
theorem d_Rd_readHours_22 : decode prog_8_method_7_code 22 = .ok (.aload_n 0, 1) := by decide +kernel
theorem d_Rd_readHours_23 : decode prog_8_method_7_code 23 = .ok (.bipush 93, 2) := by decide +kernel
theorem d_Rd_readHours_25 : decode prog_8_method_7_code 25 = .ok (.invokevirtual 61, 3) := by decide +kernel
theorem d_Rd_readHours_28 : decode prog_8_method_7_code 28 = .ok (.new 85, 3) := by decide +kernel
theorem d_Rd_readHours_31 : decode prog_8_method_7_code 31 = .ok (.dup, 1) := by decide +kernel
theorem d_Rd_readHours_32 : decode prog_8_method_7_code 32 = .ok (.iconst 1, 1) := by decide +kernel
theorem d_Rd_readHours_33 : decode prog_8_method_7_code 33 = .ok (.iload_n 1, 1) := by decide +kernel
theorem d_Rd_readHours_34 : decode prog_8_method_7_code 34 = .ok (.iload_n 2, 1) := by decide +kernel
theorem d_Rd_readHours_35 : decode prog_8_method_7_code 35 = .ok (.invokespecial 87, 3) := by decide +kernel
theorem d_Rd_readHours_38 : decode prog_8_method_7_code 38 = .ok (.areturn, 1) := by decide +kernel
def D_Rd_readHours (h0 : Nat) (S : gS) : Option ((Option Nat) × gS) := Option.bind (gOb S h0 7) (fun fs3 => gB2 (D_Rd_readNumber h0 0 23 S) (fun v2 S1 => Option.bind (gOb S1 h0 7) (fun fs5 => Option.bind (D_Rd_expect h0 45 S1) (fun S4 => Option.bind (gOb S4 h0 7) (fun fs8 => gB2 (D_Rd_readNumber h0 0 23 S4) (fun v7 S6 => Option.bind (gOb S6 h0 7) (fun fs10 => Option.bind (D_Rd_expect h0 93 S6) (fun S9 => Option.bind (gNw S9 2 [.int 0, .int 0, .int 0, .int 0]) (fun S11 => Option.bind (D_Hr_init S9.2.1 1 v2 v7 S11) (fun S12 => some ((some S9.2.1), S12)))))))))))
set_option maxRecDepth 100000 in
set_option maxHeartbeats 4000000 in
theorem c_Rd_readHours {D : va_G} {cT : Nat → ClassId} {H0 : Heap} {l : Launch} {S : gS} {S' : gS} {h0 : Nat} {r : Option Nat} (hden : D_Rd_readHours h0 S = some (r, S')) : gM D cT H0 l y_Rd_readHours (Cond.code y_Rd_readHours prog_8_method_7_code 3 (Option.some (Jvm.ClassFile.FieldType.object "PlanText$Hours"))) 3 62 [va_rf (some h0)] S S' (.inr (some (va_rf r))) := by
  refine gM.ofV (by decide) ?_
  intro p e s m args below meth c s₁ B hml ea X hZ hex hr hE
  subst ea
  have Y : gY D cT H0 p s m _ meth c prog_8_method_7_code 3 "PlanText$Reader" 3 62 S (Option.some (Jvm.ClassFile.FieldType.object "PlanText$Hours")) := ⟨X, hZ, hex, hr, hE⟩
  have hx := X.1
  have hb := X.2.1
  have hl := lv_entry ([va_rf (some h0)]) (n := 3) (Nat.le_of_ble_eq_true rfl)
  rw [lg_entry_eq]
  generalize (lg_sl ([va_rf (some h0)]) ++ List.replicate (3 - (lg_sl ([va_rf (some h0)])).length) Slot.unset).toArray = ls at hl ⊢
  have hl : lv_has ls 3 [(0, va_rf (some h0))] := hl
  unfold D_Rd_readHours at hden
  refine gV.lift (fun _ _ _ _ => g_aload_n hx hb d_Rd_readHours_0 rfl (lv_at hl 0 rfl)) ?_
  refine gV.lift (fun _ _ _ _ => lv_iconst (v := 0) hx hb d_Rd_readHours_1 (by decide)) ?_
  refine gV.lift (fun _ _ _ _ => lv_bipush (v := 23) hx hb d_Rd_readHours_2 (by decide)) ?_
  replace hden := gb hden
  obtain ⟨fs3, ho, hden⟩ := hden
  replace hden := gb2 hden
  obtain ⟨v2, S1, hz, hden⟩ := hden
  refine g_callV (As := [.int 0, .int 23]) (rest := []) X hZ (c_Rd_readNumber hz) cl_Rd (gOb_spec ho) q_288 q_11 q_285 q_287 qp_4 ⟨by decide, by decide, by show _ = some 2; decide +kernel⟩ ⟨by decide, by decide⟩ hl.1 (Nat.le_of_ble_eq_true rfl) d_Rd_readHours_4 rfl rfl ?_
  refine gV.liftS (nL := 3) (lv' := [(1, .int v2), (0, va_rf (some h0))]) (fun _ _ _ _ => lv_istore_n hx hb d_Rd_readHours_7 rfl hl (by decide) rfl) (fun ls hl => ?_)
  refine gV.lift (fun _ _ _ _ => g_aload_n hx hb d_Rd_readHours_8 rfl (lv_at hl 1 rfl)) ?_
  refine gV.lift (fun _ _ _ _ => lv_bipush (v := 45) hx hb d_Rd_readHours_9 (by decide)) ?_
  replace hden := gb hden
  obtain ⟨fs5, ho, hden⟩ := hden
  replace hden := gb hden
  obtain ⟨S4, hz, hden⟩ := hden
  refine g_callV (As := [.int 45]) (rest := []) X hZ (c_Rd_expect hz) cl_Rd (gOb_spec ho) q_307 q_11 q_304 q_306 qp_7 ⟨by decide, by decide, by show _ = some 1; decide +kernel⟩ ⟨by decide, by decide⟩ hl.1 (Nat.le_of_ble_eq_true rfl) d_Rd_readHours_11 rfl rfl ?_
  refine gV.lift (fun _ _ _ _ => g_aload_n hx hb d_Rd_readHours_14 rfl (lv_at hl 1 rfl)) ?_
  refine gV.lift (fun _ _ _ _ => lv_iconst (v := 0) hx hb d_Rd_readHours_15 (by decide)) ?_
  refine gV.lift (fun _ _ _ _ => lv_bipush (v := 23) hx hb d_Rd_readHours_16 (by decide)) ?_
  replace hden := gb hden
  obtain ⟨fs8, ho, hden⟩ := hden
  replace hden := gb2 hden
  obtain ⟨v7, S6, hz, hden⟩ := hden
  refine g_callV (As := [.int 0, .int 23]) (rest := []) X hZ (c_Rd_readNumber hz) cl_Rd (gOb_spec ho) q_288 q_11 q_285 q_287 qp_4 ⟨by decide, by decide, by show _ = some 2; decide +kernel⟩ ⟨by decide, by decide⟩ hl.1 (Nat.le_of_ble_eq_true rfl) d_Rd_readHours_18 rfl rfl ?_
  refine gV.liftS (nL := 3) (lv' := [(2, .int v7), (1, .int v2), (0, va_rf (some h0))]) (fun _ _ _ _ => lv_istore_n hx hb d_Rd_readHours_21 rfl hl (by decide) rfl) (fun ls hl => ?_)
  refine gV.lift (fun _ _ _ _ => g_aload_n hx hb d_Rd_readHours_22 rfl (lv_at hl 2 rfl)) ?_
  refine gV.lift (fun _ _ _ _ => lv_bipush (v := 93) hx hb d_Rd_readHours_23 (by decide)) ?_
  replace hden := gb hden
  obtain ⟨fs10, ho, hden⟩ := hden
  replace hden := gb hden
  obtain ⟨S9, hz, hden⟩ := hden
  refine g_callV (As := [.int 93]) (rest := []) X hZ (c_Rd_expect hz) cl_Rd (gOb_spec ho) q_307 q_11 q_304 q_306 qp_7 ⟨by decide, by decide, by show _ = some 1; decide +kernel⟩ ⟨by decide, by decide⟩ hl.1 (Nat.le_of_ble_eq_true rfl) d_Rd_readHours_25 rfl rfl ?_
  replace hden := gb hden
  obtain ⟨S11, hv, hden⟩ := hden
  refine r_new X cl_Hr rfl hv (fun j hj => bl_Hr j hj) q_338 q_339 q_14 d_Rd_readHours_28 ?_
  refine gV.lift (fun _ _ _ _ => lv_dup hx hb d_Rd_readHours_31 g_cat) ?_
  refine gV.lift (fun _ _ _ _ => lv_iconst (v := 1) hx hb d_Rd_readHours_32 (by decide)) ?_
  refine gV.lift (fun _ _ _ _ => lv_iload_n hx hb d_Rd_readHours_33 rfl (lv_at hl 1 rfl)) ?_
  refine gV.lift (fun _ _ _ _ => lv_iload_n hx hb d_Rd_readHours_34 rfl (lv_at hl 0 rfl)) ?_
  replace hden := gb hden
  obtain ⟨S12, hz, hden⟩ := hden
  refine g_callI (As := [.int 1, .int v2, .int v7]) (rest := [va_rf (some S9.2.1)]) X hZ (c_Hr_init hz) q_342 q_14 q_340 q_341 rfl ⟨by decide, by decide, by show _ = some 3; decide +kernel⟩ ⟨by decide, by decide⟩ hl.1 (Nat.le_of_ble_eq_true rfl) d_Rd_readHours_35 rfl ?_
  obtain ⟨rfl, rfl⟩ := gpi hden
  exact g_aret X hr d_Rd_readHours_38
/-! PlanText$Reader.readSkill(I)I -/
abbrev y_Rd_readSkill : MethodName := ⟨"PlanText$Reader", "readSkill", "(I)I"⟩
theorem d_Rd_readSkill_0 : decode prog_8_method_10_code 0 = .ok (.aload_n 0, 1) := by decide +kernel
theorem d_Rd_readSkill_1 : decode prog_8_method_10_code 1 = .ok (.invokevirtual 36, 3) := by decide +kernel
theorem d_Rd_readSkill_4 : decode prog_8_method_10_code 4 = .ok (.bipush 97, 2) := by decide +kernel
theorem d_Rd_readSkill_6 : decode prog_8_method_10_code 6 = .ok (.isub, 1) := by decide +kernel
theorem d_Rd_readSkill_7 : decode prog_8_method_10_code 7 = .ok (.istore_n 2, 1) := by decide +kernel
theorem d_Rd_readSkill_8 : decode prog_8_method_10_code 8 = .ok (.iload_n 2, 1) := by decide +kernel
theorem d_Rd_readSkill_9 : decode prog_8_method_10_code 9 = .ok (.ifCond .lt 17, 3) := by decide +kernel
theorem d_Rd_readSkill_12 : decode prog_8_method_10_code 12 = .ok (.iload_n 2, 1) := by decide +kernel
theorem d_Rd_readSkill_13 : decode prog_8_method_10_code 13 = .ok (.bipush 8, 2) := by decide +kernel
theorem d_Rd_readSkill_15 : decode prog_8_method_10_code 15 = .ok (.if_icmp .ge 11, 3) := by decide +kernel
theorem d_Rd_readSkill_18 : decode prog_8_method_10_code 18 = .ok (.iload_n 1, 1) := by decide +kernel
theorem d_Rd_readSkill_19 : decode prog_8_method_10_code 19 = .ok (.iload_n 2, 1) := by decide +kernel
theorem d_Rd_readSkill_20 : decode prog_8_method_10_code 20 = .ok (.ishr, 1) := by decide +kernel
theorem d_Rd_readSkill_21 : decode prog_8_method_10_code 21 = .ok (.iconst 1, 1) := by decide +kernel
theorem d_Rd_readSkill_22 : decode prog_8_method_10_code 22 = .ok (.iand, 1) := by decide +kernel
theorem d_Rd_readSkill_23 : decode prog_8_method_10_code 23 = .ok (.ifCond .eq 13, 3) := by decide +kernel
theorem d_Rd_readSkill_26 : decode prog_8_method_10_code 26 = .ok (.aload_n 0, 1) := by decide +kernel
theorem d_Rd_readSkill_27 : decode prog_8_method_10_code 27 = .ok (.aload_n 0, 1) := by decide +kernel
theorem d_Rd_readSkill_28 : decode prog_8_method_10_code 28 = .ok (.getfield 9, 3) := by decide +kernel
theorem d_Rd_readSkill_31 : decode prog_8_method_10_code 31 = .ok (.invokevirtual 58, 3) := by decide +kernel
theorem d_Rd_readSkill_34 : decode prog_8_method_10_code 34 = .ok (.iconst 0, 1) := by decide +kernel
theorem d_Rd_readSkill_35 : decode prog_8_method_10_code 35 = .ok (.ireturn, 1) := by decide +kernel
theorem d_Rd_readSkill_36 : decode prog_8_method_10_code 36 = .ok (.aload_n 0, 1) := by decide +kernel
theorem d_Rd_readSkill_37 : decode prog_8_method_10_code 37 = .ok (.dup, 1) := by decide +kernel
theorem d_Rd_readSkill_38 : decode prog_8_method_10_code 38 = .ok (.getfield 9, 3) := by decide +kernel
theorem d_Rd_readSkill_41 : decode prog_8_method_10_code 41 = .ok (.iconst 1, 1) := by decide +kernel
theorem d_Rd_readSkill_42 : decode prog_8_method_10_code 42 = .ok (.iadd, 1) := by decide +kernel
theorem d_Rd_readSkill_43 : decode prog_8_method_10_code 43 = .ok (.putfield 9, 3) := by decide +kernel
theorem d_Rd_readSkill_46 : decode prog_8_method_10_code 46 = .ok (.iload_n 2, 1) := by decide +kernel
theorem d_Rd_readSkill_47 : decode prog_8_method_10_code 47 = .ok (.ireturn, 1) := by decide +kernel
def B_Rd_readSkill_26  (x0 : Nat) (S : gS) : Option (Int32 × gS) := Option.bind (gI S x0 7 2) (fun v1 => Option.bind (gOb S x0 7) (fun fs3 => Option.bind (D_Rd_fail x0 v1 S) (fun S2 => some (0, S2))))
set_option maxRecDepth 100000 in
set_option maxHeartbeats 4000000 in
theorem w_Rd_readSkill_26 {D : va_G} {cT : Nat → ClassId} {H0 : Heap} {l : Launch} {p : Program} {e : Env} {s : State} {m : MethodId} {args : Array Value} {below : List Frame} {meth : Method} {c : Code} {S0 : gS} {S' : gS} {r : Int32} (Y : gY D cT H0 p s m args meth c prog_8_method_10_code 3 "PlanText$Reader" 1 21 S0 (Option.some Jvm.ClassFile.FieldType.int))  (x0 : Nat) (S : gS) (hden : B_Rd_readSkill_26  x0 S = some (r, S')) {ls : Array Slot} (hl : lv_has ls 3 [(0, va_rf (some x0))]) : gV D cT H0 p l e (gRm 1 21 S0) s m args below meth c (gQ D cT H0 below S0 S' (.inr (some (.int r))) s) S0 S (F0 m 26 ls []) := by
  obtain ⟨X, hZ, hex, hr, hE⟩ := id Y
  have hx := X.1
  have hb := X.2.1
  unfold B_Rd_readSkill_26 at hden
  refine gV.lift (fun _ _ _ _ => g_aload_n hx hb d_Rd_readSkill_26 rfl (lv_at hl 0 rfl)) ?_
  refine gV.lift (fun _ _ _ _ => g_aload_n hx hb d_Rd_readSkill_27 rfl (lv_at hl 0 rfl)) ?_
  replace hden := gb hden
  obtain ⟨v1, hv, hden⟩ := hden
  refine r_getI X cl_Rd (k := 2) hv (by decide) q_255 d_Rd_readSkill_28 ?_
  replace hden := gb hden
  obtain ⟨fs3, ho, hden⟩ := hden
  replace hden := gb hden
  obtain ⟨S2, hz, hden⟩ := hden
  refine g_callV (As := [.int v1]) (rest := []) X hZ (c_Rd_fail hz) cl_Rd (gOb_spec ho) q_295 q_11 q_292 q_294 qp_5 ⟨by decide, by decide, by show _ = some 1; decide +kernel⟩ ⟨by decide, by decide⟩ hl.1 (Nat.le_of_ble_eq_true rfl) d_Rd_readSkill_31 rfl rfl ?_
  refine gV.lift (fun _ _ _ _ => lv_iconst (v := 0) hx hb d_Rd_readSkill_34 (by decide)) ?_
  obtain ⟨rfl, rfl⟩ := gpi hden
  exact g_iret X hr d_Rd_readSkill_35
def D_Rd_readSkill (h0 : Nat) (p0 : Int32) (S : gS) : Option (Int32 × gS) := Option.bind (gOb S h0 7) (fun fs3 => gB2 (D_Rd_nextSign h0 S) (fun v2 S1 => (if (v2 - 97) < 0 then B_Rd_readSkill_26  h0 S1 else (if 8 ≤ (v2 - 97) then B_Rd_readSkill_26  h0 S1 else (if ((p0 >>> ((v2 - 97) &&& 31)) &&& 1) = 0 then Option.bind (gI S1 h0 7 2) (fun v7 => Option.bind (gPut S1 h0 7 2 (.int (v7 + 1))) (fun S8 => some ((v2 - 97), S8))) else B_Rd_readSkill_26  h0 S1)))))
set_option maxRecDepth 100000 in
set_option maxHeartbeats 4000000 in
theorem c_Rd_readSkill {D : va_G} {cT : Nat → ClassId} {H0 : Heap} {l : Launch} {S : gS} {S' : gS} {h0 : Nat} {p0 : Int32} {r : Int32} (hden : D_Rd_readSkill h0 p0 S = some (r, S')) : gM D cT H0 l y_Rd_readSkill (Cond.code y_Rd_readSkill prog_8_method_10_code 3 (Option.some Jvm.ClassFile.FieldType.int)) 1 21 [va_rf (some h0), .int p0] S S' (.inr (some (.int r))) := by
  refine gM.ofV (by decide) ?_
  intro p e s m args below meth c s₁ B hml ea X hZ hex hr hE
  subst ea
  have Y : gY D cT H0 p s m _ meth c prog_8_method_10_code 3 "PlanText$Reader" 1 21 S (Option.some Jvm.ClassFile.FieldType.int) := ⟨X, hZ, hex, hr, hE⟩
  have hx := X.1
  have hb := X.2.1
  have hl := lv_entry ([va_rf (some h0), .int p0]) (n := 3) (Nat.le_of_ble_eq_true rfl)
  rw [lg_entry_eq]
  generalize (lg_sl ([va_rf (some h0), .int p0]) ++ List.replicate (3 - (lg_sl ([va_rf (some h0), .int p0])).length) Slot.unset).toArray = ls at hl ⊢
  have hl : lv_has ls 3 [(0, va_rf (some h0)), (1, .int p0)] := hl
  unfold D_Rd_readSkill at hden
  refine gV.lift (fun _ _ _ _ => g_aload_n hx hb d_Rd_readSkill_0 rfl (lv_at hl 0 rfl)) ?_
  replace hden := gb hden
  obtain ⟨fs3, ho, hden⟩ := hden
  replace hden := gb2 hden
  obtain ⟨v2, S1, hz, hden⟩ := hden
  refine g_callV (As := []) (rest := []) X hZ (c_Rd_nextSign hz) cl_Rd (gOb_spec ho) q_276 q_11 q_273 q_275 qp_1 ⟨by decide, by decide, by show _ = some 0; decide +kernel⟩ ⟨by decide, by decide⟩ hl.1 (Nat.le_of_ble_eq_true rfl) d_Rd_readSkill_1 rfl rfl ?_
  refine gV.lift (fun _ _ _ _ => lv_bipush (v := 97) hx hb d_Rd_readSkill_4 (by decide)) ?_
  refine gV.lift (fun _ _ _ _ => lv_isub hx hb d_Rd_readSkill_6) ?_
  refine gV.liftS (nL := 3) (lv' := [(2, .int (v2 - 97)), (0, va_rf (some h0)), (1, .int p0)]) (fun _ _ _ _ => lv_istore_n hx hb d_Rd_readSkill_7 rfl hl (by decide) rfl) (fun ls hl => ?_)
  refine gV.lift (fun _ _ _ _ => lv_iload_n hx hb d_Rd_readSkill_8 rfl (lv_at hl 0 rfl)) ?_
  refine gV.lift2 (fun _ _ _ _ => lv_if_lt (tgt := 26) hx hb d_Rd_readSkill_9 (by decide)) (fun hc4 => ?_) (fun hc4 => ?_)
  · replace hden := gip hc4 hden
    exact w_Rd_readSkill_26 Y  h0 S1 hden (lv_sub hl [1] rfl)
  · replace hden := gin hc4 hden
    refine gV.lift (fun _ _ _ _ => lv_iload_n hx hb d_Rd_readSkill_12 rfl (lv_at hl 0 rfl)) ?_
    refine gV.lift (fun _ _ _ _ => lv_bipush (v := 8) hx hb d_Rd_readSkill_13 (by decide)) ?_
    refine gV.lift2 (fun _ _ _ _ => lv_icmp_ge (tgt := 26) hx hb d_Rd_readSkill_15 (by decide)) (fun hc5 => ?_) (fun hc5 => ?_)
    · replace hden := gip hc5 hden
      exact w_Rd_readSkill_26 Y  h0 S1 hden (lv_sub hl [1] rfl)
    · replace hden := gin hc5 hden
      refine gV.lift (fun _ _ _ _ => lv_iload_n hx hb d_Rd_readSkill_18 rfl (lv_at hl 2 rfl)) ?_
      refine gV.lift (fun _ _ _ _ => lv_iload_n hx hb d_Rd_readSkill_19 rfl (lv_at hl 0 rfl)) ?_
      refine gV.lift (fun _ _ _ _ => lv_ishr hx hb d_Rd_readSkill_20) ?_
      refine gV.lift (fun _ _ _ _ => lv_iconst (v := 1) hx hb d_Rd_readSkill_21 (by decide)) ?_
      refine gV.lift (fun _ _ _ _ => lv_iand hx hb d_Rd_readSkill_22) ?_
      refine gV.lift2 (fun _ _ _ _ => lv_if_eq (tgt := 36) hx hb d_Rd_readSkill_23 (by decide)) (fun hc6 => ?_) (fun hc6 => ?_)
      · replace hden := gip hc6 hden
        refine gV.lift (fun _ _ _ _ => g_aload_n hx hb d_Rd_readSkill_36 rfl (lv_at hl 1 rfl)) ?_
        refine gV.lift (fun _ _ _ _ => lv_dup hx hb d_Rd_readSkill_37 g_cat) ?_
        replace hden := gb hden
        obtain ⟨v7, hv, hden⟩ := hden
        refine r_getI X cl_Rd (k := 2) hv (by decide) q_255 d_Rd_readSkill_38 ?_
        refine gV.lift (fun _ _ _ _ => lv_iconst (v := 1) hx hb d_Rd_readSkill_41 (by decide)) ?_
        refine gV.lift (fun _ _ _ _ => lv_iadd hx hb d_Rd_readSkill_42) ?_
        replace hden := gb hden
        obtain ⟨S8, hv, hden⟩ := hden
        refine r_put X cl_Rd (k := 2) hv (by decide) q_255 rfl rfl rfl d_Rd_readSkill_43 ?_
        refine gV.lift (fun _ _ _ _ => lv_iload_n hx hb d_Rd_readSkill_46 rfl (lv_at hl 0 rfl)) ?_
        obtain ⟨rfl, rfl⟩ := gpi hden
        exact g_iret X hr d_Rd_readSkill_47
      · replace hden := gin hc6 hden
        exact w_Rd_readSkill_26 Y  h0 S1 hden (lv_sub hl [1] rfl)
/-! PlanText$Reader.readNeed()LPlanText$Need; -/
abbrev y_Rd_readNeed : MethodName := ⟨"PlanText$Reader", "readNeed", "()LPlanText$Need;"⟩
theorem d_Rd_readNeed_0 : decode prog_8_method_9_code 0 = .ok (.aload_n 0, 1) := by decide +kernel
theorem d_Rd_readNeed_1 : decode prog_8_method_9_code 1 = .ok (.iconst 1, 1) := by decide +kernel
theorem d_Rd_readNeed_2 : decode prog_8_method_9_code 2 = .ok (.bipush 9, 2) := by decide +kernel
theorem d_Rd_readNeed_4 : decode prog_8_method_9_code 4 = .ok (.invokevirtual 65, 3) := by decide +kernel
theorem d_Rd_readNeed_7 : decode prog_8_method_9_code 7 = .ok (.istore_n 1, 1) := by decide +kernel
theorem d_Rd_readNeed_8 : decode prog_8_method_9_code 8 = .ok (.aload_n 0, 1) := by decide +kernel
theorem d_Rd_readNeed_9 : decode prog_8_method_9_code 9 = .ok (.iconst 0, 1) := by decide +kernel
theorem d_Rd_readNeed_10 : decode prog_8_method_9_code 10 = .ok (.invokevirtual 113, 3) := by decide +kernel
theorem d_Rd_readNeed_13 : decode prog_8_method_9_code 13 = .ok (.istore_n 2, 1) := by decide +kernel
theorem d_Rd_readNeed_14 : decode prog_8_method_9_code 14 = .ok (.iconst (-1), 1) := by decide +kernel
theorem d_Rd_readNeed_15 : decode prog_8_method_9_code 15 = .ok (.istore_n 3, 1) := by decide +kernel
theorem d_Rd_readNeed_16 : decode prog_8_method_9_code 16 = .ok (.iconst (-1), 1) := by decide +kernel
theorem d_Rd_readNeed_17 : decode prog_8_method_9_code 17 = .ok (.istore 4, 2) := by decide +kernel
theorem d_Rd_readNeed_19 : decode prog_8_method_9_code 19 = .ok (.aload_n 0, 1) := by decide +kernel
theorem d_Rd_readNeed_20 : decode prog_8_method_9_code 20 = .ok (.bipush 47, 2) := by decide +kernel
theorem d_Rd_readNeed_22 : decode prog_8_method_9_code 22 = .ok (.invokevirtual 40, 3) := by decide +kernel
theorem d_Rd_readNeed_25 : decode prog_8_method_9_code 25 = .ok (.ifCond .eq 33, 3) := by decide +kernel
theorem d_Rd_readNeed_28 : decode prog_8_method_9_code 28 = .ok (.aload_n 0, 1) := by decide +kernel
theorem d_Rd_readNeed_29 : decode prog_8_method_9_code 29 = .ok (.iconst 1, 1) := by decide +kernel
theorem d_Rd_readNeed_30 : decode prog_8_method_9_code 30 = .ok (.iload_n 2, 1) := by decide +kernel
theorem d_Rd_readNeed_31 : decode prog_8_method_9_code 31 = .ok (.ishl, 1) := by decide +kernel
theorem d_Rd_readNeed_32 : decode prog_8_method_9_code 32 = .ok (.invokevirtual 113, 3) := by decide +kernel
theorem d_Rd_readNeed_35 : decode prog_8_method_9_code 35 = .ok (.istore_n 3, 1) := by decide +kernel
theorem d_Rd_readNeed_36 : decode prog_8_method_9_code 36 = .ok (.aload_n 0, 1) := by decide +kernel
theorem d_Rd_readNeed_37 : decode prog_8_method_9_code 37 = .ok (.bipush 47, 2) := by decide +kernel
theorem d_Rd_readNeed_39 : decode prog_8_method_9_code 39 = .ok (.invokevirtual 40, 3) := by decide +kernel
theorem d_Rd_readNeed_42 : decode prog_8_method_9_code 42 = .ok (.ifCond .eq 16, 3) := by decide +kernel
theorem d_Rd_readNeed_45 : decode prog_8_method_9_code 45 = .ok (.aload_n 0, 1) := by decide +kernel
theorem d_Rd_readNeed_46 : decode prog_8_method_9_code 46 = .ok (.iconst 1, 1) := by decide +kernel
theorem d_Rd_readNeed_47 : decode prog_8_method_9_code 47 = .ok (.iload_n 2, 1) := by decide +kernel
theorem d_Rd_readNeed_48 : decode prog_8_method_9_code 48 = .ok (.ishl, 1) := by decide +kernel
theorem d_Rd_readNeed_49 : decode prog_8_method_9_code 49 = .ok (.iconst 1, 1) := by decide +kernel
theorem d_Rd_readNeed_50 : decode prog_8_method_9_code 50 = .ok (.iload_n 3, 1) := by decide +kernel
theorem d_Rd_readNeed_51 : decode prog_8_method_9_code 51 = .ok (.ishl, 1) := by decide +kernel
theorem d_Rd_readNeed_52 : decode prog_8_method_9_code 52 = .ok (.ior, 1) := by decide +kernel
theorem d_Rd_readNeed_53 : decode prog_8_method_9_code 53 = .ok (.invokevirtual 113, 3) := by decide +kernel
theorem d_Rd_readNeed_56 : decode prog_8_method_9_code 56 = .ok (.istore 4, 2) := by decide +kernel
theorem d_Rd_readNeed_58 : decode prog_8_method_9_code 58 = .ok (.aload_n 0, 1) := by decide +kernel
theorem d_Rd_readNeed_59 : decode prog_8_method_9_code 59 = .ok (.bipush 126, 2) := by decide +kernel
theorem d_Rd_readNeed_61 : decode prog_8_method_9_code 61 = .ok (.invokevirtual 40, 3) := by decide +kernel
theorem d_Rd_readNeed_64 : decode prog_8_method_9_code 64 = .ok (.ifCond .eq 13, 3) := by decide +kernel
theorem d_Rd_readNeed_67 : decode prog_8_method_9_code 67 = .ok (.aload_n 0, 1) := by decide +kernel
theorem d_Rd_readNeed_68 : decode prog_8_method_9_code 68 = .ok (.iconst 1, 1) := by decide +kernel
theorem d_Rd_readNeed_69 : decode prog_8_method_9_code 69 = .ok (.bipush 99, 2) := by decide +kernel
theorem d_Rd_readNeed_71 : decode prog_8_method_9_code 71 = .ok (.invokevirtual 65, 3) := by decide +kernel
theorem d_Rd_readNeed_74 : decode prog_8_method_9_code 74 = .ok (.goto 4, 3) := by decide +kernel
theorem d_Rd_readNeed_77 : decode prog_8_method_9_code 77 = .ok (.iconst (-1), 1) := by decide +kernel
theorem d_Rd_readNeed_78 : decode prog_8_method_9_code 78 = .ok (.istore 5, 2) := by decide +kernel
theorem d_Rd_readNeed_80 : decode prog_8_method_9_code 80 = .ok (.new 135, 3) := by decide +kernel
theorem d_Rd_readNeed_83 : decode prog_8_method_9_code 83 = .ok (.dup, 1) := by decide +kernel
theorem d_Rd_readNeed_84 : decode prog_8_method_9_code 84 = .ok (.iload_n 1, 1) := by decide +kernel
theorem d_Rd_readNeed_85 : decode prog_8_method_9_code 85 = .ok (.iload_n 2, 1) := by decide +kernel
theorem d_Rd_readNeed_86 : decode prog_8_method_9_code 86 = .ok (.iload_n 3, 1) := by decide +kernel
theorem d_Rd_readNeed_87 : decode prog_8_method_9_code 87 = .ok (.iload 4, 2) := by decide +kernel
theorem d_Rd_readNeed_89 : decode prog_8_method_9_code 89 = .ok (.iload 5, 2) := by decide +kernel
theorem d_Rd_readNeed_91 : decode prog_8_method_9_code 91 = .ok (.invokespecial 137, 3) := by decide +kernel
theorem d_Rd_readNeed_94 : decode prog_8_method_9_code 94 = .ok (.areturn, 1) := by decide +kernel
def B_Rd_readNeed_78  (x1 : Int32) (x2 : Int32) (x3 : Int32) (x4 : Int32) (t0 : Int32) (S : gS) : Option ((Option Nat) × gS) := Option.bind (gNw S 3 [.int 0, .int 0, .int 0, .int 0, .int 0]) (fun S1 => Option.bind (D_Nd_init S.2.1 x1 x2 x3 x4 t0 S1) (fun S2 => some ((some S.2.1), S2)))
set_option maxRecDepth 100000 in
set_option maxHeartbeats 4000000 in
theorem w_Rd_readNeed_78 {D : va_G} {cT : Nat → ClassId} {H0 : Heap} {l : Launch} {p : Program} {e : Env} {s : State} {m : MethodId} {args : Array Value} {below : List Frame} {meth : Method} {c : Code} {S0 : gS} {S' : gS} {r : Option Nat} (Y : gY D cT H0 p s m args meth c prog_8_method_9_code 6 "PlanText$Reader" 2 49 S0 (Option.some (Jvm.ClassFile.FieldType.object "PlanText$Need")))  (x1 : Int32) (x2 : Int32) (x3 : Int32) (x4 : Int32) (t0 : Int32) (S : gS) (hden : B_Rd_readNeed_78  x1 x2 x3 x4 t0 S = some (r, S')) {ls : Array Slot} (hl : lv_has ls 6 [(1, .int x1), (2, .int x2), (3, .int x3), (4, .int x4)]) : gV D cT H0 p l e (gRm 2 49 S0) s m args below meth c (gQ D cT H0 below S0 S' (.inr (some (va_rf r))) s) S0 S (F0 m 78 ls [.int t0]) := by
  obtain ⟨X, hZ, hex, hr, hE⟩ := id Y
  have hx := X.1
  have hb := X.2.1
  unfold B_Rd_readNeed_78 at hden
  refine gV.liftS (nL := 6) (lv' := [(5, .int t0), (1, .int x1), (2, .int x2), (3, .int x3), (4, .int x4)]) (fun _ _ _ _ => lv_istore hx hb d_Rd_readNeed_78 hl (by decide) rfl) (fun ls hl => ?_)
  replace hden := gb hden
  obtain ⟨S1, hv, hden⟩ := hden
  refine r_new X cl_Nd rfl hv (fun j hj => bl_Nd j hj) q_381 q_382 q_16 d_Rd_readNeed_80 ?_
  refine gV.lift (fun _ _ _ _ => lv_dup hx hb d_Rd_readNeed_83 g_cat) ?_
  refine gV.lift (fun _ _ _ _ => lv_iload_n hx hb d_Rd_readNeed_84 rfl (lv_at hl 1 rfl)) ?_
  refine gV.lift (fun _ _ _ _ => lv_iload_n hx hb d_Rd_readNeed_85 rfl (lv_at hl 2 rfl)) ?_
  refine gV.lift (fun _ _ _ _ => lv_iload_n hx hb d_Rd_readNeed_86 rfl (lv_at hl 3 rfl)) ?_
  refine gV.lift (fun _ _ _ _ => lv_iload hx hb d_Rd_readNeed_87 (lv_at hl 4 rfl)) ?_
  refine gV.lift (fun _ _ _ _ => lv_iload hx hb d_Rd_readNeed_89 (lv_at hl 0 rfl)) ?_
  replace hden := gb hden
  obtain ⟨S2, hz, hden⟩ := hden
  refine g_callI (As := [.int x1, .int x2, .int x3, .int x4, .int t0]) (rest := [va_rf (some S.2.1)]) X hZ (c_Nd_init hz) q_385 q_16 q_383 q_384 rfl ⟨by decide, by decide, by show _ = some 5; decide +kernel⟩ ⟨by decide, by decide⟩ hl.1 (Nat.le_of_ble_eq_true rfl) d_Rd_readNeed_91 rfl ?_
  obtain ⟨rfl, rfl⟩ := gpi hden
  exact g_aret X hr d_Rd_readNeed_94
def B_Rd_readNeed_58  (x0 : Nat) (x1 : Int32) (x2 : Int32) (x3 : Int32) (x4 : Int32) (S : gS) : Option ((Option Nat) × gS) := Option.bind (gOb S x0 7) (fun fs3 => gB2 (D_Rd_takes x0 126 S) (fun v2 S1 => (if v2 = 0 then B_Rd_readNeed_78  x1 x2 x3 x4 (-1) S1 else Option.bind (gOb S1 x0 7) (fun fs7 => gB2 (D_Rd_readNumber x0 1 99 S1) (fun v6 S5 => B_Rd_readNeed_78  x1 x2 x3 x4 v6 S5)))))
set_option maxRecDepth 100000 in
set_option maxHeartbeats 4000000 in
theorem w_Rd_readNeed_58 {D : va_G} {cT : Nat → ClassId} {H0 : Heap} {l : Launch} {p : Program} {e : Env} {s : State} {m : MethodId} {args : Array Value} {below : List Frame} {meth : Method} {c : Code} {S0 : gS} {S' : gS} {r : Option Nat} (Y : gY D cT H0 p s m args meth c prog_8_method_9_code 6 "PlanText$Reader" 2 49 S0 (Option.some (Jvm.ClassFile.FieldType.object "PlanText$Need")))  (x0 : Nat) (x1 : Int32) (x2 : Int32) (x3 : Int32) (x4 : Int32) (S : gS) (hden : B_Rd_readNeed_58  x0 x1 x2 x3 x4 S = some (r, S')) {ls : Array Slot} (hl : lv_has ls 6 [(0, va_rf (some x0)), (1, .int x1), (2, .int x2), (3, .int x3), (4, .int x4)]) : gV D cT H0 p l e (gRm 2 49 S0) s m args below meth c (gQ D cT H0 below S0 S' (.inr (some (va_rf r))) s) S0 S (F0 m 58 ls []) := by
  obtain ⟨X, hZ, hex, hr, hE⟩ := id Y
  have hx := X.1
  have hb := X.2.1
  unfold B_Rd_readNeed_58 at hden
  refine gV.lift (fun _ _ _ _ => g_aload_n hx hb d_Rd_readNeed_58 rfl (lv_at hl 0 rfl)) ?_
  refine gV.lift (fun _ _ _ _ => lv_bipush (v := 126) hx hb d_Rd_readNeed_59 (by decide)) ?_
  replace hden := gb hden
  obtain ⟨fs3, ho, hden⟩ := hden
  replace hden := gb2 hden
  obtain ⟨v2, S1, hz, hden⟩ := hden
  refine g_callV (As := [.int 126]) (rest := []) X hZ (c_Rd_takes hz) cl_Rd (gOb_spec ho) q_280 q_11 q_277 q_279 qp_2 ⟨by decide, by decide, by show _ = some 1; decide +kernel⟩ ⟨by decide, by decide⟩ hl.1 (Nat.le_of_ble_eq_true rfl) d_Rd_readNeed_61 rfl rfl ?_
  refine gV.lift2 (fun _ _ _ _ => lv_if_eq (tgt := 77) hx hb d_Rd_readNeed_64 (by decide)) (fun hc4 => ?_) (fun hc4 => ?_)
  · replace hden := gip hc4 hden
    refine gV.lift (fun _ _ _ _ => lv_iconst (v := (-1)) hx hb d_Rd_readNeed_77 (by decide)) ?_
    exact w_Rd_readNeed_78 Y  x1 x2 x3 x4 (-1) S1 hden (lv_sub hl [1, 2, 3, 4] rfl)
  · replace hden := gin hc4 hden
    refine gV.lift (fun _ _ _ _ => g_aload_n hx hb d_Rd_readNeed_67 rfl (lv_at hl 0 rfl)) ?_
    refine gV.lift (fun _ _ _ _ => lv_iconst (v := 1) hx hb d_Rd_readNeed_68 (by decide)) ?_
    refine gV.lift (fun _ _ _ _ => lv_bipush (v := 99) hx hb d_Rd_readNeed_69 (by decide)) ?_
    replace hden := gb hden
    obtain ⟨fs7, ho, hden⟩ := hden
    replace hden := gb2 hden
    obtain ⟨v6, S5, hz, hden⟩ := hden
    refine g_callV (As := [.int 1, .int 99]) (rest := []) X hZ (c_Rd_readNumber hz) cl_Rd (gOb_spec ho) q_288 q_11 q_285 q_287 qp_4 ⟨by decide, by decide, by show _ = some 2; decide +kernel⟩ ⟨by decide, by decide⟩ hl.1 (Nat.le_of_ble_eq_true rfl) d_Rd_readNeed_71 rfl rfl ?_
    refine gV.lift (fun _ _ _ _ => lv_goto (tgt := 78) hx hb d_Rd_readNeed_74 (by decide)) ?_
    exact w_Rd_readNeed_78 Y  x1 x2 x3 x4 v6 S5 hden (lv_sub hl [1, 2, 3, 4] rfl)
def D_Rd_readNeed (h0 : Nat) (S : gS) : Option ((Option Nat) × gS) := Option.bind (gOb S h0 7) (fun fs3 => gB2 (D_Rd_readNumber h0 1 9 S) (fun v2 S1 => Option.bind (gOb S1 h0 7) (fun fs6 => gB2 (D_Rd_readSkill h0 0 S1) (fun v5 S4 => Option.bind (gOb S4 h0 7) (fun fs9 => gB2 (D_Rd_takes h0 47 S4) (fun v8 S7 => (if v8 = 0 then B_Rd_readNeed_58  h0 v2 v5 (-1) (-1) S7 else Option.bind (gOb S7 h0 7) (fun fs13 => gB2 (D_Rd_readSkill h0 (1 <<< (v5 &&& 31)) S7) (fun v12 S11 => Option.bind (gOb S11 h0 7) (fun fs16 => gB2 (D_Rd_takes h0 47 S11) (fun v15 S14 => (if v15 = 0 then B_Rd_readNeed_58  h0 v2 v5 v12 (-1) S14 else Option.bind (gOb S14 h0 7) (fun fs20 => gB2 (D_Rd_readSkill h0 ((1 <<< (v5 &&& 31)) ||| (1 <<< (v12 &&& 31))) S14) (fun v19 S18 => B_Rd_readNeed_58  h0 v2 v5 v12 v19 S18))))))))))))))
set_option maxRecDepth 100000 in
set_option maxHeartbeats 4000000 in
theorem c_Rd_readNeed {D : va_G} {cT : Nat → ClassId} {H0 : Heap} {l : Launch} {S : gS} {S' : gS} {h0 : Nat} {r : Option Nat} (hden : D_Rd_readNeed h0 S = some (r, S')) : gM D cT H0 l y_Rd_readNeed (Cond.code y_Rd_readNeed prog_8_method_9_code 6 (Option.some (Jvm.ClassFile.FieldType.object "PlanText$Need"))) 2 49 [va_rf (some h0)] S S' (.inr (some (va_rf r))) := by
  refine gM.ofV (by decide) ?_
  intro p e s m args below meth c s₁ B hml ea X hZ hex hr hE
  subst ea
  have Y : gY D cT H0 p s m _ meth c prog_8_method_9_code 6 "PlanText$Reader" 2 49 S (Option.some (Jvm.ClassFile.FieldType.object "PlanText$Need")) := ⟨X, hZ, hex, hr, hE⟩
  have hx := X.1
  have hb := X.2.1
  have hl := lv_entry ([va_rf (some h0)]) (n := 6) (Nat.le_of_ble_eq_true rfl)
  rw [lg_entry_eq]
  generalize (lg_sl ([va_rf (some h0)]) ++ List.replicate (6 - (lg_sl ([va_rf (some h0)])).length) Slot.unset).toArray = ls at hl ⊢
  have hl : lv_has ls 6 [(0, va_rf (some h0))] := hl
  unfold D_Rd_readNeed at hden
  refine gV.lift (fun _ _ _ _ => g_aload_n hx hb d_Rd_readNeed_0 rfl (lv_at hl 0 rfl)) ?_
  refine gV.lift (fun _ _ _ _ => lv_iconst (v := 1) hx hb d_Rd_readNeed_1 (by decide)) ?_
  refine gV.lift (fun _ _ _ _ => lv_bipush (v := 9) hx hb d_Rd_readNeed_2 (by decide)) ?_
  replace hden := gb hden
  obtain ⟨fs3, ho, hden⟩ := hden
  replace hden := gb2 hden
  obtain ⟨v2, S1, hz, hden⟩ := hden
  refine g_callV (As := [.int 1, .int 9]) (rest := []) X hZ (c_Rd_readNumber hz) cl_Rd (gOb_spec ho) q_288 q_11 q_285 q_287 qp_4 ⟨by decide, by decide, by show _ = some 2; decide +kernel⟩ ⟨by decide, by decide⟩ hl.1 (Nat.le_of_ble_eq_true rfl) d_Rd_readNeed_4 rfl rfl ?_
  refine gV.liftS (nL := 6) (lv' := [(1, .int v2), (0, va_rf (some h0))]) (fun _ _ _ _ => lv_istore_n hx hb d_Rd_readNeed_7 rfl hl (by decide) rfl) (fun ls hl => ?_)
  refine gV.lift (fun _ _ _ _ => g_aload_n hx hb d_Rd_readNeed_8 rfl (lv_at hl 1 rfl)) ?_
  refine gV.lift (fun _ _ _ _ => lv_iconst (v := 0) hx hb d_Rd_readNeed_9 (by decide)) ?_
  replace hden := gb hden
  obtain ⟨fs6, ho, hden⟩ := hden
  replace hden := gb2 hden
  obtain ⟨v5, S4, hz, hden⟩ := hden
  refine g_callV (As := [.int 0]) (rest := []) X hZ (c_Rd_readSkill hz) cl_Rd (gOb_spec ho) q_380 q_11 q_377 q_379 qp_12 ⟨by decide, by decide, by show _ = some 1; decide +kernel⟩ ⟨by decide, by decide⟩ hl.1 (Nat.le_of_ble_eq_true rfl) d_Rd_readNeed_10 rfl rfl ?_
  refine gV.liftS (nL := 6) (lv' := [(2, .int v5), (1, .int v2), (0, va_rf (some h0))]) (fun _ _ _ _ => lv_istore_n hx hb d_Rd_readNeed_13 rfl hl (by decide) rfl) (fun ls hl => ?_)
  refine gV.lift (fun _ _ _ _ => lv_iconst (v := (-1)) hx hb d_Rd_readNeed_14 (by decide)) ?_
  refine gV.liftS (nL := 6) (lv' := [(3, .int (-1)), (2, .int v5), (1, .int v2), (0, va_rf (some h0))]) (fun _ _ _ _ => lv_istore_n hx hb d_Rd_readNeed_15 rfl hl (by decide) rfl) (fun ls hl => ?_)
  refine gV.lift (fun _ _ _ _ => lv_iconst (v := (-1)) hx hb d_Rd_readNeed_16 (by decide)) ?_
  refine gV.liftS (nL := 6) (lv' := [(4, .int (-1)), (3, .int (-1)), (2, .int v5), (1, .int v2), (0, va_rf (some h0))]) (fun _ _ _ _ => lv_istore hx hb d_Rd_readNeed_17 hl (by decide) rfl) (fun ls hl => ?_)
  refine gV.lift (fun _ _ _ _ => g_aload_n hx hb d_Rd_readNeed_19 rfl (lv_at hl 4 rfl)) ?_
  refine gV.lift (fun _ _ _ _ => lv_bipush (v := 47) hx hb d_Rd_readNeed_20 (by decide)) ?_
  replace hden := gb hden
  obtain ⟨fs9, ho, hden⟩ := hden
  replace hden := gb2 hden
  obtain ⟨v8, S7, hz, hden⟩ := hden
  refine g_callV (As := [.int 47]) (rest := []) X hZ (c_Rd_takes hz) cl_Rd (gOb_spec ho) q_280 q_11 q_277 q_279 qp_2 ⟨by decide, by decide, by show _ = some 1; decide +kernel⟩ ⟨by decide, by decide⟩ hl.1 (Nat.le_of_ble_eq_true rfl) d_Rd_readNeed_22 rfl rfl ?_
  refine gV.lift2 (fun _ _ _ _ => lv_if_eq (tgt := 58) hx hb d_Rd_readNeed_25 (by decide)) (fun hc10 => ?_) (fun hc10 => ?_)
  · replace hden := gip hc10 hden
    exact w_Rd_readNeed_58 Y  h0 v2 v5 (-1) (-1) S7 hden (lv_sub hl [4, 3, 2, 1, 0] rfl)
  · replace hden := gin hc10 hden
    refine gV.lift (fun _ _ _ _ => g_aload_n hx hb d_Rd_readNeed_28 rfl (lv_at hl 4 rfl)) ?_
    refine gV.lift (fun _ _ _ _ => lv_iconst (v := 1) hx hb d_Rd_readNeed_29 (by decide)) ?_
    refine gV.lift (fun _ _ _ _ => lv_iload_n hx hb d_Rd_readNeed_30 rfl (lv_at hl 2 rfl)) ?_
    refine gV.lift (fun _ _ _ _ => lv_ishl hx hb d_Rd_readNeed_31) ?_
    replace hden := gb hden
    obtain ⟨fs13, ho, hden⟩ := hden
    replace hden := gb2 hden
    obtain ⟨v12, S11, hz, hden⟩ := hden
    refine g_callV (As := [.int (1 <<< (v5 &&& 31))]) (rest := []) X hZ (c_Rd_readSkill hz) cl_Rd (gOb_spec ho) q_380 q_11 q_377 q_379 qp_12 ⟨by decide, by decide, by show _ = some 1; decide +kernel⟩ ⟨by decide, by decide⟩ hl.1 (Nat.le_of_ble_eq_true rfl) d_Rd_readNeed_32 rfl rfl ?_
    refine gV.liftS (nL := 6) (lv' := [(3, .int v12), (4, .int (-1)), (2, .int v5), (1, .int v2), (0, va_rf (some h0))]) (fun _ _ _ _ => lv_istore_n hx hb d_Rd_readNeed_35 rfl hl (by decide) rfl) (fun ls hl => ?_)
    refine gV.lift (fun _ _ _ _ => g_aload_n hx hb d_Rd_readNeed_36 rfl (lv_at hl 4 rfl)) ?_
    refine gV.lift (fun _ _ _ _ => lv_bipush (v := 47) hx hb d_Rd_readNeed_37 (by decide)) ?_
    replace hden := gb hden
    obtain ⟨fs16, ho, hden⟩ := hden
    replace hden := gb2 hden
    obtain ⟨v15, S14, hz, hden⟩ := hden
    refine g_callV (As := [.int 47]) (rest := []) X hZ (c_Rd_takes hz) cl_Rd (gOb_spec ho) q_280 q_11 q_277 q_279 qp_2 ⟨by decide, by decide, by show _ = some 1; decide +kernel⟩ ⟨by decide, by decide⟩ hl.1 (Nat.le_of_ble_eq_true rfl) d_Rd_readNeed_39 rfl rfl ?_
    refine gV.lift2 (fun _ _ _ _ => lv_if_eq (tgt := 58) hx hb d_Rd_readNeed_42 (by decide)) (fun hc17 => ?_) (fun hc17 => ?_)
    · replace hden := gip hc17 hden
      exact w_Rd_readNeed_58 Y  h0 v2 v5 v12 (-1) S14 hden (lv_sub hl [4, 3, 2, 0, 1] rfl)
    · replace hden := gin hc17 hden
      refine gV.lift (fun _ _ _ _ => g_aload_n hx hb d_Rd_readNeed_45 rfl (lv_at hl 4 rfl)) ?_
      refine gV.lift (fun _ _ _ _ => lv_iconst (v := 1) hx hb d_Rd_readNeed_46 (by decide)) ?_
      refine gV.lift (fun _ _ _ _ => lv_iload_n hx hb d_Rd_readNeed_47 rfl (lv_at hl 2 rfl)) ?_
      refine gV.lift (fun _ _ _ _ => lv_ishl hx hb d_Rd_readNeed_48) ?_
      refine gV.lift (fun _ _ _ _ => lv_iconst (v := 1) hx hb d_Rd_readNeed_49 (by decide)) ?_
      refine gV.lift (fun _ _ _ _ => lv_iload_n hx hb d_Rd_readNeed_50 rfl (lv_at hl 0 rfl)) ?_
      refine gV.lift (fun _ _ _ _ => lv_ishl hx hb d_Rd_readNeed_51) ?_
      refine gV.lift (fun _ _ _ _ => lv_ior hx hb d_Rd_readNeed_52) ?_
      replace hden := gb hden
      obtain ⟨fs20, ho, hden⟩ := hden
      replace hden := gb2 hden
      obtain ⟨v19, S18, hz, hden⟩ := hden
      refine g_callV (As := [.int ((1 <<< (v5 &&& 31)) ||| (1 <<< (v12 &&& 31)))]) (rest := []) X hZ (c_Rd_readSkill hz) cl_Rd (gOb_spec ho) q_380 q_11 q_377 q_379 qp_12 ⟨by decide, by decide, by show _ = some 1; decide +kernel⟩ ⟨by decide, by decide⟩ hl.1 (Nat.le_of_ble_eq_true rfl) d_Rd_readNeed_53 rfl rfl ?_
      refine gV.liftS (nL := 6) (lv' := [(4, .int v19), (3, .int v12), (2, .int v5), (1, .int v2), (0, va_rf (some h0))]) (fun _ _ _ _ => lv_istore hx hb d_Rd_readNeed_56 hl (by decide) rfl) (fun ls hl => ?_)
      exact w_Rd_readNeed_58 Y  h0 v2 v5 v12 v19 S18 hden (lv_sub hl [4, 3, 2, 1, 0] rfl)
/-! PlanText$Reader.readNeeds()LPlanText$NeedList; -/
abbrev y_Rd_readNeeds : MethodName := ⟨"PlanText$Reader", "readNeeds", "()LPlanText$NeedList;"⟩
theorem d_Rd_readNeeds_0 : decode prog_8_method_8_code 0 = .ok (.new 124, 3) := by decide +kernel
theorem d_Rd_readNeeds_3 : decode prog_8_method_8_code 3 = .ok (.dup, 1) := by decide +kernel
theorem d_Rd_readNeeds_4 : decode prog_8_method_8_code 4 = .ok (.invokespecial 126, 3) := by decide +kernel
theorem d_Rd_readNeeds_7 : decode prog_8_method_8_code 7 = .ok (.astore_n 1, 1) := by decide +kernel
theorem d_Rd_readNeeds_8 : decode prog_8_method_8_code 8 = .ok (.aload_n 1, 1) := by decide +kernel
theorem d_Rd_readNeeds_9 : decode prog_8_method_8_code 9 = .ok (.aload_n 0, 1) := by decide +kernel
theorem d_Rd_readNeeds_10 : decode prog_8_method_8_code 10 = .ok (.invokevirtual 127, 3) := by decide +kernel
theorem d_Rd_readNeeds_13 : decode prog_8_method_8_code 13 = .ok (.invokevirtual 131, 3) := by decide +kernel
theorem d_Rd_readNeeds_16 : decode prog_8_method_8_code 16 = .ok (.iconst 1, 1) := by decide +kernel
theorem d_Rd_readNeeds_17 : decode prog_8_method_8_code 17 = .ok (.istore_n 2, 1) := by decide +kernel
theorem d_Rd_readNeeds_18 : decode prog_8_method_8_code 18 = .ok (.iload_n 2, 1) := by decide +kernel
theorem d_Rd_readNeeds_19 : decode prog_8_method_8_code 19 = .ok (.iconst 5, 1) := by decide +kernel
theorem d_Rd_readNeeds_20 : decode prog_8_method_8_code 20 = .ok (.if_icmp .ge 26, 3) := by decide +kernel
theorem d_Rd_readNeeds_23 : decode prog_8_method_8_code 23 = .ok (.aload_n 0, 1) := by decide +kernel
theorem d_Rd_readNeeds_24 : decode prog_8_method_8_code 24 = .ok (.bipush 44, 2) := by decide +kernel
theorem d_Rd_readNeeds_26 : decode prog_8_method_8_code 26 = .ok (.invokevirtual 40, 3) := by decide +kernel
theorem d_Rd_readNeeds_29 : decode prog_8_method_8_code 29 = .ok (.ifCond .eq 17, 3) := by decide +kernel
theorem d_Rd_readNeeds_32 : decode prog_8_method_8_code 32 = .ok (.aload_n 1, 1) := by decide +kernel
theorem d_Rd_readNeeds_33 : decode prog_8_method_8_code 33 = .ok (.aload_n 0, 1) := by decide +kernel
theorem d_Rd_readNeeds_34 : decode prog_8_method_8_code 34 = .ok (.invokevirtual 127, 3) := by decide +kernel
theorem d_Rd_readNeeds_37 : decode prog_8_method_8_code 37 = .ok (.invokevirtual 131, 3) := by decide +kernel
theorem d_Rd_readNeeds_40 : decode prog_8_method_8_code 40 = .ok (.iinc 2 1, 3) := by decide +kernel
theorem d_Rd_readNeeds_43 : decode prog_8_method_8_code 43 = .ok (.goto (-25), 3) := by decide +kernel
theorem d_Rd_readNeeds_46 : decode prog_8_method_8_code 46 = .ok (.aload_n 1, 1) := by decide +kernel
theorem d_Rd_readNeeds_47 : decode prog_8_method_8_code 47 = .ok (.areturn, 1) := by decide +kernel
def B_Rd_readNeeds_46  (x1 : Nat) (S : gS) : Option ((Option Nat) × gS) := some ((some x1), S)
set_option maxRecDepth 100000 in
set_option maxHeartbeats 4000000 in
theorem w_Rd_readNeeds_46 {D : va_G} {cT : Nat → ClassId} {H0 : Heap} {l : Launch} {p : Program} {e : Env} {s : State} {m : MethodId} {args : Array Value} {below : List Frame} {meth : Method} {c : Code} {S0 : gS} {S' : gS} {r : Option Nat} (Y : gY D cT H0 p s m args meth c prog_8_method_8_code 3 "PlanText$Reader" 3 74 S0 (Option.some (Jvm.ClassFile.FieldType.object "PlanText$NeedList")))  (x1 : Nat) (S : gS) (hden : B_Rd_readNeeds_46  x1 S = some (r, S')) {ls : Array Slot} (hl : lv_has ls 3 [(1, va_rf (some x1))]) : gV D cT H0 p l e (gRm 3 74 S0) s m args below meth c (gQ D cT H0 below S0 S' (.inr (some (va_rf r))) s) S0 S (F0 m 46 ls []) := by
  obtain ⟨X, hZ, hex, hr, hE⟩ := id Y
  have hx := X.1
  have hb := X.2.1
  unfold B_Rd_readNeeds_46 at hden
  refine gV.lift (fun _ _ _ _ => g_aload_n hx hb d_Rd_readNeeds_46 rfl (lv_at hl 0 rfl)) ?_
  obtain ⟨rfl, rfl⟩ := gpi hden
  exact g_aret X hr d_Rd_readNeeds_47
def B_Rd_readNeeds_18 (k18 : Nat → Nat → Int32 → gS → Option ((Option Nat) × gS)) (x0 : Nat) (x1 : Nat) (x2 : Int32) (S : gS) : Option ((Option Nat) × gS) := (if 5 ≤ x2 then B_Rd_readNeeds_46  x1 S else Option.bind (gOb S x0 7) (fun fs4 => gB2 (D_Rd_takes x0 44 S) (fun v3 S2 => (if v3 = 0 then B_Rd_readNeeds_46  x1 S2 else Option.bind (gOb S2 x0 7) (fun fs8 => gB2 (D_Rd_readNeed x0 S2) (fun r7 S6 => Option.bind (gOb S6 x1 4) (fun fs10 => Option.bind (D_NL_add x1 r7 S6) (fun S9 => k18 x0 x1 (x2 + 1) S9))))))))
set_option maxRecDepth 100000 in
set_option maxHeartbeats 4000000 in
theorem w_Rd_readNeeds_18 {D : va_G} {cT : Nat → ClassId} {H0 : Heap} {l : Launch} {p : Program} {e : Env} {s : State} {m : MethodId} {args : Array Value} {below : List Frame} {meth : Method} {c : Code} {S0 : gS} {S' : gS} {r : Option Nat} (Y : gY D cT H0 p s m args meth c prog_8_method_8_code 3 "PlanText$Reader" 3 74 S0 (Option.some (Jvm.ClassFile.FieldType.object "PlanText$NeedList"))) {k18 : Nat → Nat → Int32 → gS → Option ((Option Nat) × gS)} (hk18 : ∀ (x0 : Nat) (x1 : Nat) (x2 : Int32) (S : gS) (ls : Array Slot), k18 x0 x1 x2 S = some (r, S') → lv_has ls 3 [(0, va_rf (some x0)), (1, va_rf (some x1)), (2, .int x2)] → gV D cT H0 p l e (gRm 3 74 S0) s m args below meth c (gQ D cT H0 below S0 S' (.inr (some (va_rf r))) s) S0 S (F0 m 18 ls [])) (x0 : Nat) (x1 : Nat) (x2 : Int32) (S : gS) (hden : B_Rd_readNeeds_18 k18 x0 x1 x2 S = some (r, S')) {ls : Array Slot} (hl : lv_has ls 3 [(0, va_rf (some x0)), (1, va_rf (some x1)), (2, .int x2)]) : gV D cT H0 p l e (gRm 3 74 S0) s m args below meth c (gQ D cT H0 below S0 S' (.inr (some (va_rf r))) s) S0 S (F0 m 18 ls []) := by
  obtain ⟨X, hZ, hex, hr, hE⟩ := id Y
  have hx := X.1
  have hb := X.2.1
  unfold B_Rd_readNeeds_18 at hden
  refine gV.lift (fun _ _ _ _ => lv_iload_n hx hb d_Rd_readNeeds_18 rfl (lv_at hl 2 rfl)) ?_
  refine gV.lift (fun _ _ _ _ => lv_iconst (v := 5) hx hb d_Rd_readNeeds_19 (by decide)) ?_
  refine gV.lift2 (fun _ _ _ _ => lv_icmp_ge (tgt := 46) hx hb d_Rd_readNeeds_20 (by decide)) (fun hc1 => ?_) (fun hc1 => ?_)
  · replace hden := gip hc1 hden
    exact w_Rd_readNeeds_46 Y  x1 S hden (lv_sub hl [1] rfl)
  · replace hden := gin hc1 hden
    refine gV.lift (fun _ _ _ _ => g_aload_n hx hb d_Rd_readNeeds_23 rfl (lv_at hl 0 rfl)) ?_
    refine gV.lift (fun _ _ _ _ => lv_bipush (v := 44) hx hb d_Rd_readNeeds_24 (by decide)) ?_
    replace hden := gb hden
    obtain ⟨fs4, ho, hden⟩ := hden
    replace hden := gb2 hden
    obtain ⟨v3, S2, hz, hden⟩ := hden
    refine g_callV (As := [.int 44]) (rest := []) X hZ (c_Rd_takes hz) cl_Rd (gOb_spec ho) q_280 q_11 q_277 q_279 qp_2 ⟨by decide, by decide, by show _ = some 1; decide +kernel⟩ ⟨by decide, by decide⟩ hl.1 (Nat.le_of_ble_eq_true rfl) d_Rd_readNeeds_26 rfl rfl ?_
    refine gV.lift2 (fun _ _ _ _ => lv_if_eq (tgt := 46) hx hb d_Rd_readNeeds_29 (by decide)) (fun hc5 => ?_) (fun hc5 => ?_)
    · replace hden := gip hc5 hden
      exact w_Rd_readNeeds_46 Y  x1 S2 hden (lv_sub hl [1] rfl)
    · replace hden := gin hc5 hden
      refine gV.lift (fun _ _ _ _ => g_aload_n hx hb d_Rd_readNeeds_32 rfl (lv_at hl 1 rfl)) ?_
      refine gV.lift (fun _ _ _ _ => g_aload_n hx hb d_Rd_readNeeds_33 rfl (lv_at hl 0 rfl)) ?_
      replace hden := gb hden
      obtain ⟨fs8, ho, hden⟩ := hden
      replace hden := gb2 hden
      obtain ⟨r7, S6, hz, hden⟩ := hden
      refine g_callV (As := []) (rest := [va_rf (some x1)]) X hZ (c_Rd_readNeed hz) cl_Rd (gOb_spec ho) q_376 q_11 q_373 q_375 qp_11 ⟨by decide, by decide, by show _ = some 0; decide +kernel⟩ ⟨by decide, by decide⟩ hl.1 (Nat.le_of_ble_eq_true rfl) d_Rd_readNeeds_34 rfl rfl ?_
      replace hden := gb hden
      obtain ⟨fs10, ho, hden⟩ := hden
      replace hden := gb hden
      obtain ⟨S9, hz, hden⟩ := hden
      refine g_callV (As := [va_rf r7]) (rest := []) X hZ (c_NL_add hz) cl_NL (gOb_spec ho) q_416 q_3 q_413 q_414 q_415 ⟨by decide, by decide, by show _ = some 1; decide +kernel⟩ ⟨by decide, by decide⟩ hl.1 (Nat.le_of_ble_eq_true rfl) d_Rd_readNeeds_37 rfl rfl ?_
      refine gV.liftS (nL := 3) (lv' := [(2, .int (x2 + 1)), (0, va_rf (some x0)), (1, va_rf (some x1))]) (fun _ _ _ _ => lv_iinc (v := (x2 + 1)) hx hb d_Rd_readNeeds_40 hl (k := 2) rfl rfl (by decide) rfl) (fun ls hl => ?_)
      refine gV.lift (fun _ _ _ _ => lv_goto (tgt := 18) hx hb d_Rd_readNeeds_43 (by decide)) ?_
      exact hk18 x0 x1 (x2 + 1) S9 _ hden (lv_sub hl [1, 2, 0] rfl)
def L_Rd_readNeeds_18  : Nat → Nat → Nat → Int32 → gS → Option ((Option Nat) × gS)
  | 0 => fun _ _ _ _ => none
  | n + 1 => fun x0 x1 x2 S => B_Rd_readNeeds_18  (L_Rd_readNeeds_18  n) x0 x1 x2 S
theorem wL_Rd_readNeeds_18 {D : va_G} {cT : Nat → ClassId} {H0 : Heap} {l : Launch} {p : Program} {e : Env} {s : State} {m : MethodId} {args : Array Value} {below : List Frame} {meth : Method} {c : Code} {S0 : gS} {S' : gS} {r : Option Nat} (Y : gY D cT H0 p s m args meth c prog_8_method_8_code 3 "PlanText$Reader" 3 74 S0 (Option.some (Jvm.ClassFile.FieldType.object "PlanText$NeedList")))  : ∀ (n : Nat) (x0 : Nat) (x1 : Nat) (x2 : Int32) (S : gS) (ls : Array Slot), L_Rd_readNeeds_18  n x0 x1 x2 S = some (r, S') → lv_has ls 3 [(0, va_rf (some x0)), (1, va_rf (some x1)), (2, .int x2)] → gV D cT H0 p l e (gRm 3 74 S0) s m args below meth c (gQ D cT H0 below S0 S' (.inr (some (va_rf r))) s) S0 S (F0 m 18 ls []) := by
  intro n
  induction n with
  | zero => intro x0 x1 x2 S ls h hl; cases h
  | succ n ih => intro x0 x1 x2 S ls h hl; exact w_Rd_readNeeds_18 Y ih x0 x1 x2 S h hl
def D_Rd_readNeeds (h0 : Nat) (S : gS) : Option ((Option Nat) × gS) := Option.bind (gNw S 4 [.null, .int 0]) (fun S1 => Option.bind (D_NL_init S.2.1 S1) (fun S2 => Option.bind (gOb S2 h0 7) (fun fs5 => gB2 (D_Rd_readNeed h0 S2) (fun r4 S3 => Option.bind (gOb S3 S.2.1 4) (fun fs7 => Option.bind (D_NL_add S.2.1 r4 S3) (fun S6 => L_Rd_readNeeds_18  gF h0 S.2.1 1 S6))))))
set_option maxRecDepth 100000 in
set_option maxHeartbeats 4000000 in
theorem c_Rd_readNeeds {D : va_G} {cT : Nat → ClassId} {H0 : Heap} {l : Launch} {S : gS} {S' : gS} {h0 : Nat} {r : Option Nat} (hden : D_Rd_readNeeds h0 S = some (r, S')) : gM D cT H0 l y_Rd_readNeeds (Cond.code y_Rd_readNeeds prog_8_method_8_code 3 (Option.some (Jvm.ClassFile.FieldType.object "PlanText$NeedList"))) 3 74 [va_rf (some h0)] S S' (.inr (some (va_rf r))) := by
  refine gM.ofV (by decide) ?_
  intro p e s m args below meth c s₁ B hml ea X hZ hex hr hE
  subst ea
  have Y : gY D cT H0 p s m _ meth c prog_8_method_8_code 3 "PlanText$Reader" 3 74 S (Option.some (Jvm.ClassFile.FieldType.object "PlanText$NeedList")) := ⟨X, hZ, hex, hr, hE⟩
  have hx := X.1
  have hb := X.2.1
  have hl := lv_entry ([va_rf (some h0)]) (n := 3) (Nat.le_of_ble_eq_true rfl)
  rw [lg_entry_eq]
  generalize (lg_sl ([va_rf (some h0)]) ++ List.replicate (3 - (lg_sl ([va_rf (some h0)])).length) Slot.unset).toArray = ls at hl ⊢
  have hl : lv_has ls 3 [(0, va_rf (some h0))] := hl
  unfold D_Rd_readNeeds at hden
  replace hden := gb hden
  obtain ⟨S1, hv, hden⟩ := hden
  refine r_new X cl_NL rfl hv (fun j hj => bl_NL j hj) q_371 q_70 q_3 d_Rd_readNeeds_0 ?_
  refine gV.lift (fun _ _ _ _ => lv_dup hx hb d_Rd_readNeeds_3 g_cat) ?_
  replace hden := gb hden
  obtain ⟨S2, hz, hden⟩ := hden
  refine g_callIN (As := []) (rest := [va_rf (some S.2.1)]) X hZ (c_NL_init hz) q_73 q_3 (host := "PlanText") (by decide +kernel) q_72 rfl ⟨by decide, by decide, by show _ = some 0; decide +kernel⟩ ⟨by decide, by decide⟩ hl.1 (Nat.le_of_ble_eq_true rfl) d_Rd_readNeeds_4 rfl ?_
  refine gV.liftS (nL := 3) (lv' := [(1, va_rf (some S.2.1)), (0, va_rf (some h0))]) (fun _ _ _ _ => g_astore_n hx hb d_Rd_readNeeds_7 rfl hl (by decide) rfl) (fun ls hl => ?_)
  refine gV.lift (fun _ _ _ _ => g_aload_n hx hb d_Rd_readNeeds_8 rfl (lv_at hl 0 rfl)) ?_
  refine gV.lift (fun _ _ _ _ => g_aload_n hx hb d_Rd_readNeeds_9 rfl (lv_at hl 1 rfl)) ?_
  replace hden := gb hden
  obtain ⟨fs5, ho, hden⟩ := hden
  replace hden := gb2 hden
  obtain ⟨r4, S3, hz, hden⟩ := hden
  refine g_callV (As := []) (rest := [va_rf (some S.2.1)]) X hZ (c_Rd_readNeed hz) cl_Rd (gOb_spec ho) q_376 q_11 q_373 q_375 qp_11 ⟨by decide, by decide, by show _ = some 0; decide +kernel⟩ ⟨by decide, by decide⟩ hl.1 (Nat.le_of_ble_eq_true rfl) d_Rd_readNeeds_10 rfl rfl ?_
  replace hden := gb hden
  obtain ⟨fs7, ho, hden⟩ := hden
  replace hden := gb hden
  obtain ⟨S6, hz, hden⟩ := hden
  refine g_callV (As := [va_rf r4]) (rest := []) X hZ (c_NL_add hz) cl_NL (gOb_spec ho) q_416 q_3 q_413 q_414 q_415 ⟨by decide, by decide, by show _ = some 1; decide +kernel⟩ ⟨by decide, by decide⟩ hl.1 (Nat.le_of_ble_eq_true rfl) d_Rd_readNeeds_13 rfl rfl ?_
  refine gV.lift (fun _ _ _ _ => lv_iconst (v := 1) hx hb d_Rd_readNeeds_16 (by decide)) ?_
  refine gV.liftS (nL := 3) (lv' := [(2, .int 1), (1, va_rf (some S.2.1)), (0, va_rf (some h0))]) (fun _ _ _ _ => lv_istore_n hx hb d_Rd_readNeeds_17 rfl hl (by decide) rfl) (fun ls hl => ?_)
  exact wL_Rd_readNeeds_18 Y  gF h0 S.2.1 1 S6 _ hden (lv_sub hl [2, 1, 0] rfl)
/-! PlanText$Reader.readPlan(LPlanText$Edition;)V -/
abbrev y_Rd_readPlan : MethodName := ⟨"PlanText$Reader", "readPlan", "(LPlanText$Edition;)V"⟩
theorem d_Rd_readPlan_0 : decode prog_8_method_3_code 0 = .ok (.aload_n 0, 1) := by decide +kernel
theorem d_Rd_readPlan_1 : decode prog_8_method_3_code 1 = .ok (.iconst 1, 1) := by decide +kernel
theorem d_Rd_readPlan_2 : decode prog_8_method_3_code 2 = .ok (.bipush 40, 2) := by decide +kernel
theorem d_Rd_readPlan_4 : decode prog_8_method_3_code 4 = .ok (.invokevirtual 65, 3) := by decide +kernel
theorem d_Rd_readPlan_7 : decode prog_8_method_3_code 7 = .ok (.istore_n 2, 1) := by decide +kernel
theorem d_Rd_readPlan_8 : decode prog_8_method_3_code 8 = .ok (.aload_n 1, 1) := by decide +kernel
theorem d_Rd_readPlan_9 : decode prog_8_method_3_code 9 = .ok (.iload_n 2, 1) := by decide +kernel
theorem d_Rd_readPlan_10 : decode prog_8_method_3_code 10 = .ok (.invokevirtual 68, 3) := by decide +kernel
theorem d_Rd_readPlan_13 : decode prog_8_method_3_code 13 = .ok (.ifnull 13, 3) := by decide +kernel
theorem d_Rd_readPlan_16 : decode prog_8_method_3_code 16 = .ok (.aload_n 0, 1) := by decide +kernel
theorem d_Rd_readPlan_17 : decode prog_8_method_3_code 17 = .ok (.aload_n 0, 1) := by decide +kernel
theorem d_Rd_readPlan_18 : decode prog_8_method_3_code 18 = .ok (.getfield 9, 3) := by decide +kernel
theorem d_Rd_readPlan_21 : decode prog_8_method_3_code 21 = .ok (.iconst 1, 1) := by decide +kernel
theorem d_Rd_readPlan_22 : decode prog_8_method_3_code 22 = .ok (.isub, 1) := by decide +kernel
theorem d_Rd_readPlan_23 : decode prog_8_method_3_code 23 = .ok (.invokevirtual 58, 3) := by decide +kernel
theorem d_Rd_readPlan_26 : decode prog_8_method_3_code 26 = .ok (.aload_n 0, 1) := by decide +kernel
theorem d_Rd_readPlan_27 : decode prog_8_method_3_code 27 = .ok (.bipush 107, 2) := by decide +kernel
theorem d_Rd_readPlan_29 : decode prog_8_method_3_code 29 = .ok (.invokevirtual 61, 3) := by decide +kernel
theorem d_Rd_readPlan_32 : decode prog_8_method_3_code 32 = .ok (.aload_n 0, 1) := by decide +kernel
theorem d_Rd_readPlan_33 : decode prog_8_method_3_code 33 = .ok (.iconst 1, 1) := by decide +kernel
theorem d_Rd_readPlan_34 : decode prog_8_method_3_code 34 = .ok (.bipush 9, 2) := by decide +kernel
theorem d_Rd_readPlan_36 : decode prog_8_method_3_code 36 = .ok (.invokevirtual 65, 3) := by decide +kernel
theorem d_Rd_readPlan_39 : decode prog_8_method_3_code 39 = .ok (.istore_n 3, 1) := by decide +kernel
theorem d_Rd_readPlan_40 : decode prog_8_method_3_code 40 = .ok (.aload_n 0, 1) := by decide +kernel
theorem d_Rd_readPlan_41 : decode prog_8_method_3_code 41 = .ok (.bipush 64, 2) := by decide +kernel
theorem d_Rd_readPlan_43 : decode prog_8_method_3_code 43 = .ok (.invokevirtual 40, 3) := by decide +kernel
theorem d_Rd_readPlan_46 : decode prog_8_method_3_code 46 = .ok (.ifCond .eq 10, 3) := by decide +kernel
theorem d_Rd_readPlan_49 : decode prog_8_method_3_code 49 = .ok (.aload_n 0, 1) := by decide +kernel
theorem d_Rd_readPlan_50 : decode prog_8_method_3_code 50 = .ok (.invokevirtual 72, 3) := by decide +kernel
theorem d_Rd_readPlan_53 : decode prog_8_method_3_code 53 = .ok (.goto 15, 3) := by decide +kernel
theorem d_Rd_readPlan_56 : decode prog_8_method_3_code 56 = .ok (.new 76, 3) := by decide +kernel
theorem d_Rd_readPlan_59 : decode prog_8_method_3_code 59 = .ok (.dup, 1) := by decide +kernel
theorem d_Rd_readPlan_60 : decode prog_8_method_3_code 60 = .ok (.iconst 0, 1) := by decide +kernel
theorem d_Rd_readPlan_61 : decode prog_8_method_3_code 61 = .ok (.iconst 1, 1) := by decide +kernel
theorem d_Rd_readPlan_62 : decode prog_8_method_3_code 62 = .ok (.sipush 999, 3) := by decide +kernel
theorem d_Rd_readPlan_65 : decode prog_8_method_3_code 65 = .ok (.invokespecial 78, 3) := by decide +kernel
theorem d_Rd_readPlan_68 : decode prog_8_method_3_code 68 = .ok (.astore 4, 2) := by decide +kernel
theorem d_Rd_readPlan_70 : decode prog_8_method_3_code 70 = .ok (.aload_n 0, 1) := by decide +kernel
theorem d_Rd_readPlan_71 : decode prog_8_method_3_code 71 = .ok (.bipush 91, 2) := by decide +kernel
theorem d_Rd_readPlan_73 : decode prog_8_method_3_code 73 = .ok (.invokevirtual 40, 3) := by decide +kernel
theorem d_Rd_readPlan_76 : decode prog_8_method_3_code 76 = .ok (.ifCond .eq 10, 3) := by decide +kernel
theorem d_Rd_readPlan_79 : decode prog_8_method_3_code 79 = .ok (.aload_n 0, 1) := by decide +kernel
theorem d_Rd_readPlan_80 : decode prog_8_method_3_code 80 = .ok (.invokevirtual 81, 3) := by decide +kernel
theorem d_Rd_readPlan_83 : decode prog_8_method_3_code 83 = .ok (.goto 14, 3) := by decide +kernel
theorem d_Rd_readPlan_86 : decode prog_8_method_3_code 86 = .ok (.new 85, 3) := by decide +kernel
theorem d_Rd_readPlan_89 : decode prog_8_method_3_code 89 = .ok (.dup, 1) := by decide +kernel
theorem d_Rd_readPlan_90 : decode prog_8_method_3_code 90 = .ok (.iconst 0, 1) := by decide +kernel
theorem d_Rd_readPlan_91 : decode prog_8_method_3_code 91 = .ok (.iconst 0, 1) := by decide +kernel
theorem d_Rd_readPlan_92 : decode prog_8_method_3_code 92 = .ok (.bipush 23, 2) := by decide +kernel
theorem d_Rd_readPlan_94 : decode prog_8_method_3_code 94 = .ok (.invokespecial 87, 3) := by decide +kernel
theorem d_Rd_readPlan_97 : decode prog_8_method_3_code 97 = .ok (.astore 5, 2) := by decide +kernel
theorem d_Rd_readPlan_99 : decode prog_8_method_3_code 99 = .ok (.aload_n 0, 1) := by decide +kernel
theorem d_Rd_readPlan_100 : decode prog_8_method_3_code 100 = .ok (.bipush 114, 2) := by decide +kernel
theorem d_Rd_readPlan_102 : decode prog_8_method_3_code 102 = .ok (.invokevirtual 61, 3) := by decide +kernel
theorem d_Rd_readPlan_105 : decode prog_8_method_3_code 105 = .ok (.aload_n 0, 1) := by decide +kernel
theorem d_Rd_readPlan_106 : decode prog_8_method_3_code 106 = .ok (.iconst 0, 1) := by decide +kernel
theorem d_Rd_readPlan_107 : decode prog_8_method_3_code 107 = .ok (.bipush 9, 2) := by decide +kernel
theorem d_Rd_readPlan_109 : decode prog_8_method_3_code 109 = .ok (.invokevirtual 65, 3) := by decide +kernel
theorem d_Rd_readPlan_112 : decode prog_8_method_3_code 112 = .ok (.istore 6, 2) := by decide +kernel
theorem d_Rd_readPlan_114 : decode prog_8_method_3_code 114 = .ok (.aload_n 0, 1) := by decide +kernel
theorem d_Rd_readPlan_115 : decode prog_8_method_3_code 115 = .ok (.bipush 58, 2) := by decide +kernel
theorem d_Rd_readPlan_117 : decode prog_8_method_3_code 117 = .ok (.invokevirtual 61, 3) := by decide +kernel
theorem d_Rd_readPlan_120 : decode prog_8_method_3_code 120 = .ok (.aload_n 1, 1) := by decide +kernel
theorem d_Rd_readPlan_121 : decode prog_8_method_3_code 121 = .ok (.new 90, 3) := by decide +kernel
theorem d_Rd_readPlan_124 : decode prog_8_method_3_code 124 = .ok (.dup, 1) := by decide +kernel
theorem d_Rd_readPlan_125 : decode prog_8_method_3_code 125 = .ok (.iload_n 2, 1) := by decide +kernel
theorem d_Rd_readPlan_126 : decode prog_8_method_3_code 126 = .ok (.iload_n 3, 1) := by decide +kernel
theorem d_Rd_readPlan_127 : decode prog_8_method_3_code 127 = .ok (.aload 4, 2) := by decide +kernel
theorem d_Rd_readPlan_129 : decode prog_8_method_3_code 129 = .ok (.aload 5, 2) := by decide +kernel
theorem d_Rd_readPlan_131 : decode prog_8_method_3_code 131 = .ok (.iload 6, 2) := by decide +kernel
theorem d_Rd_readPlan_133 : decode prog_8_method_3_code 133 = .ok (.aload_n 0, 1) := by decide +kernel
theorem d_Rd_readPlan_134 : decode prog_8_method_3_code 134 = .ok (.invokevirtual 92, 3) := by decide +kernel
theorem d_Rd_readPlan_137 : decode prog_8_method_3_code 137 = .ok (.invokespecial 96, 3) := by decide +kernel
theorem d_Rd_readPlan_140 : decode prog_8_method_3_code 140 = .ok (.invokevirtual 99, 3) := by decide +kernel
theorem d_Rd_readPlan_143 : decode prog_8_method_3_code 143 = .ok (.return_, 1) := by decide +kernel
def B_Rd_readPlan_97  (x0 : Nat) (x1 : Option Nat) (x2 : Int32) (x3 : Int32) (x4 : Option Nat) (t0 : Option Nat) (S : gS) : Option gS := Option.bind (gOb S x0 7) (fun fs2 => Option.bind (D_Rd_expect x0 114 S) (fun S1 => Option.bind (gOb S1 x0 7) (fun fs5 => gB2 (D_Rd_readNumber x0 0 9 S1) (fun v4 S3 => Option.bind (gOb S3 x0 7) (fun fs7 => Option.bind (D_Rd_expect x0 58 S3) (fun S6 => Option.bind (gNw S6 5 [.int 0, .int 0, .null, .null, .int 0, .null]) (fun S8 => Option.bind (gOb S8 x0 7) (fun fs11 => gB2 (D_Rd_readNeeds x0 S8) (fun r10 S9 => Option.bind (D_Pl_init S6.2.1 x2 x3 x4 t0 v4 r10 S9) (fun S12 => Option.bind x1 (fun a13 => Option.bind (gOb S12 a13 1) (fun fs15 => Option.bind (D_Ed_addPlan a13 (some S6.2.1) S12) (fun S14 => some S14)))))))))))))
set_option maxRecDepth 100000 in
set_option maxHeartbeats 4000000 in
theorem w_Rd_readPlan_97 {D : va_G} {cT : Nat → ClassId} {H0 : Heap} {l : Launch} {p : Program} {e : Env} {s : State} {m : MethodId} {args : Array Value} {below : List Frame} {meth : Method} {c : Code} {S0 : gS} {S' : gS} (Y : gY D cT H0 p s m args meth c prog_8_method_3_code 7 "PlanText$Reader" 4 96 S0 (Option.none : Option Jvm.ClassFile.FieldType))  (x0 : Nat) (x1 : Option Nat) (x2 : Int32) (x3 : Int32) (x4 : Option Nat) (t0 : Option Nat) (S : gS) (hden : B_Rd_readPlan_97  x0 x1 x2 x3 x4 t0 S = some S') {ls : Array Slot} (hl : lv_has ls 7 [(0, va_rf (some x0)), (1, va_rf x1), (2, .int x2), (3, .int x3), (4, va_rf x4)]) : gV D cT H0 p l e (gRm 4 96 S0) s m args below meth c (gQ D cT H0 below S0 S' (.inr none) s) S0 S (F0 m 97 ls [va_rf t0]) := by
  obtain ⟨X, hZ, hex, hr, hE⟩ := id Y
  have hx := X.1
  have hb := X.2.1
  unfold B_Rd_readPlan_97 at hden
  refine gV.liftS (nL := 7) (lv' := [(5, va_rf t0), (0, va_rf (some x0)), (1, va_rf x1), (2, .int x2), (3, .int x3), (4, va_rf x4)]) (fun _ _ _ _ => g_astore hx hb d_Rd_readPlan_97 hl (by decide) (by cases x4 <;> rfl)) (fun ls hl => ?_)
  refine gV.lift (fun _ _ _ _ => g_aload_n hx hb d_Rd_readPlan_99 rfl (lv_at hl 1 rfl)) ?_
  refine gV.lift (fun _ _ _ _ => lv_bipush (v := 114) hx hb d_Rd_readPlan_100 (by decide)) ?_
  replace hden := gb hden
  obtain ⟨fs2, ho, hden⟩ := hden
  replace hden := gb hden
  obtain ⟨S1, hz, hden⟩ := hden
  refine g_callV (As := [.int 114]) (rest := []) X hZ (c_Rd_expect hz) cl_Rd (gOb_spec ho) q_307 q_11 q_304 q_306 qp_7 ⟨by decide, by decide, by show _ = some 1; decide +kernel⟩ ⟨by decide, by decide⟩ hl.1 (Nat.le_of_ble_eq_true rfl) d_Rd_readPlan_102 rfl rfl ?_
  refine gV.lift (fun _ _ _ _ => g_aload_n hx hb d_Rd_readPlan_105 rfl (lv_at hl 1 rfl)) ?_
  refine gV.lift (fun _ _ _ _ => lv_iconst (v := 0) hx hb d_Rd_readPlan_106 (by decide)) ?_
  refine gV.lift (fun _ _ _ _ => lv_bipush (v := 9) hx hb d_Rd_readPlan_107 (by decide)) ?_
  replace hden := gb hden
  obtain ⟨fs5, ho, hden⟩ := hden
  replace hden := gb2 hden
  obtain ⟨v4, S3, hz, hden⟩ := hden
  refine g_callV (As := [.int 0, .int 9]) (rest := []) X hZ (c_Rd_readNumber hz) cl_Rd (gOb_spec ho) q_288 q_11 q_285 q_287 qp_4 ⟨by decide, by decide, by show _ = some 2; decide +kernel⟩ ⟨by decide, by decide⟩ hl.1 (Nat.le_of_ble_eq_true rfl) d_Rd_readPlan_109 rfl rfl ?_
  refine gV.liftS (nL := 7) (lv' := [(6, .int v4), (5, va_rf t0), (0, va_rf (some x0)), (1, va_rf x1), (2, .int x2), (3, .int x3), (4, va_rf x4)]) (fun _ _ _ _ => lv_istore hx hb d_Rd_readPlan_112 hl (by decide) (by cases t0 <;> rfl)) (fun ls hl => ?_)
  refine gV.lift (fun _ _ _ _ => g_aload_n hx hb d_Rd_readPlan_114 rfl (lv_at hl 2 rfl)) ?_
  refine gV.lift (fun _ _ _ _ => lv_bipush (v := 58) hx hb d_Rd_readPlan_115 (by decide)) ?_
  replace hden := gb hden
  obtain ⟨fs7, ho, hden⟩ := hden
  replace hden := gb hden
  obtain ⟨S6, hz, hden⟩ := hden
  refine g_callV (As := [.int 58]) (rest := []) X hZ (c_Rd_expect hz) cl_Rd (gOb_spec ho) q_307 q_11 q_304 q_306 qp_7 ⟨by decide, by decide, by show _ = some 1; decide +kernel⟩ ⟨by decide, by decide⟩ hl.1 (Nat.le_of_ble_eq_true rfl) d_Rd_readPlan_117 rfl rfl ?_
  refine gV.lift (fun _ _ _ _ => g_aload_n hx hb d_Rd_readPlan_120 rfl (lv_at hl 3 rfl)) ?_
  replace hden := gb hden
  obtain ⟨S8, hv, hden⟩ := hden
  refine r_new X cl_Pl rfl hv (fun j hj => bl_Pl j hj) q_365 q_366 q_15 d_Rd_readPlan_121 ?_
  refine gV.lift (fun _ _ _ _ => lv_dup hx hb d_Rd_readPlan_124 g_cat) ?_
  refine gV.lift (fun _ _ _ _ => lv_iload_n hx hb d_Rd_readPlan_125 rfl (lv_at hl 4 rfl)) ?_
  refine gV.lift (fun _ _ _ _ => lv_iload_n hx hb d_Rd_readPlan_126 rfl (lv_at hl 5 rfl)) ?_
  refine gV.lift (fun _ _ _ _ => g_aload hx hb d_Rd_readPlan_127 (lv_at hl 6 rfl)) ?_
  refine gV.lift (fun _ _ _ _ => g_aload hx hb d_Rd_readPlan_129 (lv_at hl 1 rfl)) ?_
  refine gV.lift (fun _ _ _ _ => lv_iload hx hb d_Rd_readPlan_131 (lv_at hl 0 rfl)) ?_
  refine gV.lift (fun _ _ _ _ => g_aload_n hx hb d_Rd_readPlan_133 rfl (lv_at hl 2 rfl)) ?_
  replace hden := gb hden
  obtain ⟨fs11, ho, hden⟩ := hden
  replace hden := gb2 hden
  obtain ⟨r10, S9, hz, hden⟩ := hden
  refine g_callV (As := []) (rest := [.int v4, va_rf t0, va_rf x4, .int x3, .int x2, va_rf (some S6.2.1), va_rf (some S6.2.1), va_rf x1]) X hZ (c_Rd_readNeeds hz) cl_Rd (gOb_spec ho) q_370 q_11 q_367 q_369 qp_10 ⟨by decide, by decide, by show _ = some 0; decide +kernel⟩ ⟨by decide, by decide⟩ hl.1 (by cases t0 <;> cases x4 <;> cases x1 <;> exact Nat.le_of_ble_eq_true rfl) d_Rd_readPlan_134 rfl rfl ?_
  replace hden := gb hden
  obtain ⟨S12, hz, hden⟩ := hden
  refine g_callI (As := [.int x2, .int x3, va_rf x4, va_rf t0, .int v4, va_rf r10]) (rest := [va_rf (some S6.2.1), va_rf x1]) X hZ (c_Pl_init hz) q_419 q_15 q_417 q_418 rfl ⟨by decide, by decide, by show _ = some 6; decide +kernel⟩ ⟨by decide, by decide⟩ hl.1 (by cases x1 <;> exact Nat.le_of_ble_eq_true rfl) d_Rd_readPlan_137 rfl ?_
  replace hden := gb hden
  obtain ⟨a13, rfl, hden⟩ := hden
  replace hden := gb hden
  obtain ⟨fs15, ho, hden⟩ := hden
  replace hden := gb hden
  obtain ⟨S14, hz, hden⟩ := hden
  refine g_callV (As := [va_rf (some S6.2.1)]) (rest := []) X hZ (c_Ed_addPlan hz) cl_Ed (gOb_spec ho) q_455 q_2 q_452 q_453 q_454 ⟨by decide, by decide, by show _ = some 1; decide +kernel⟩ ⟨by decide, by decide⟩ hl.1 (Nat.le_of_ble_eq_true rfl) d_Rd_readPlan_140 rfl rfl ?_
  obtain rfl := gsi hden
  exact g_vret X hr d_Rd_readPlan_143
def B_Rd_readPlan_68  (x0 : Nat) (x1 : Option Nat) (x2 : Int32) (x3 : Int32) (t0 : Option Nat) (S : gS) : Option gS := Option.bind (gOb S x0 7) (fun fs3 => gB2 (D_Rd_takes x0 91 S) (fun v2 S1 => (if v2 = 0 then Option.bind (gNw S1 2 [.int 0, .int 0, .int 0, .int 0]) (fun S5 => Option.bind (D_Hr_init S1.2.1 0 0 23 S5) (fun S6 => B_Rd_readPlan_97  x0 x1 x2 x3 t0 (some S1.2.1) S6)) else Option.bind (gOb S1 x0 7) (fun fs9 => gB2 (D_Rd_readHours x0 S1) (fun r8 S7 => B_Rd_readPlan_97  x0 x1 x2 x3 t0 r8 S7)))))
set_option maxRecDepth 100000 in
set_option maxHeartbeats 4000000 in
theorem w_Rd_readPlan_68 {D : va_G} {cT : Nat → ClassId} {H0 : Heap} {l : Launch} {p : Program} {e : Env} {s : State} {m : MethodId} {args : Array Value} {below : List Frame} {meth : Method} {c : Code} {S0 : gS} {S' : gS} (Y : gY D cT H0 p s m args meth c prog_8_method_3_code 7 "PlanText$Reader" 4 96 S0 (Option.none : Option Jvm.ClassFile.FieldType))  (x0 : Nat) (x1 : Option Nat) (x2 : Int32) (x3 : Int32) (t0 : Option Nat) (S : gS) (hden : B_Rd_readPlan_68  x0 x1 x2 x3 t0 S = some S') {ls : Array Slot} (hl : lv_has ls 7 [(0, va_rf (some x0)), (1, va_rf x1), (2, .int x2), (3, .int x3)]) : gV D cT H0 p l e (gRm 4 96 S0) s m args below meth c (gQ D cT H0 below S0 S' (.inr none) s) S0 S (F0 m 68 ls [va_rf t0]) := by
  obtain ⟨X, hZ, hex, hr, hE⟩ := id Y
  have hx := X.1
  have hb := X.2.1
  unfold B_Rd_readPlan_68 at hden
  refine gV.liftS (nL := 7) (lv' := [(4, va_rf t0), (0, va_rf (some x0)), (1, va_rf x1), (2, .int x2), (3, .int x3)]) (fun _ _ _ _ => g_astore hx hb d_Rd_readPlan_68 hl (by decide) rfl) (fun ls hl => ?_)
  refine gV.lift (fun _ _ _ _ => g_aload_n hx hb d_Rd_readPlan_70 rfl (lv_at hl 1 rfl)) ?_
  refine gV.lift (fun _ _ _ _ => lv_bipush (v := 91) hx hb d_Rd_readPlan_71 (by decide)) ?_
  replace hden := gb hden
  obtain ⟨fs3, ho, hden⟩ := hden
  replace hden := gb2 hden
  obtain ⟨v2, S1, hz, hden⟩ := hden
  refine g_callV (As := [.int 91]) (rest := []) X hZ (c_Rd_takes hz) cl_Rd (gOb_spec ho) q_280 q_11 q_277 q_279 qp_2 ⟨by decide, by decide, by show _ = some 1; decide +kernel⟩ ⟨by decide, by decide⟩ hl.1 (Nat.le_of_ble_eq_true rfl) d_Rd_readPlan_73 rfl rfl ?_
  refine gV.lift2 (fun _ _ _ _ => lv_if_eq (tgt := 86) hx hb d_Rd_readPlan_76 (by decide)) (fun hc4 => ?_) (fun hc4 => ?_)
  · replace hden := gip hc4 hden
    replace hden := gb hden
    obtain ⟨S5, hv, hden⟩ := hden
    refine r_new X cl_Hr rfl hv (fun j hj => bl_Hr j hj) q_338 q_339 q_14 d_Rd_readPlan_86 ?_
    refine gV.lift (fun _ _ _ _ => lv_dup hx hb d_Rd_readPlan_89 g_cat) ?_
    refine gV.lift (fun _ _ _ _ => lv_iconst (v := 0) hx hb d_Rd_readPlan_90 (by decide)) ?_
    refine gV.lift (fun _ _ _ _ => lv_iconst (v := 0) hx hb d_Rd_readPlan_91 (by decide)) ?_
    refine gV.lift (fun _ _ _ _ => lv_bipush (v := 23) hx hb d_Rd_readPlan_92 (by decide)) ?_
    replace hden := gb hden
    obtain ⟨S6, hz, hden⟩ := hden
    refine g_callI (As := [.int 0, .int 0, .int 23]) (rest := [va_rf (some S1.2.1)]) X hZ (c_Hr_init hz) q_342 q_14 q_340 q_341 rfl ⟨by decide, by decide, by show _ = some 3; decide +kernel⟩ ⟨by decide, by decide⟩ hl.1 (Nat.le_of_ble_eq_true rfl) d_Rd_readPlan_94 rfl ?_
    exact w_Rd_readPlan_97 Y  x0 x1 x2 x3 t0 (some S1.2.1) S6 hden (lv_sub hl [1, 2, 3, 4, 0] rfl)
  · replace hden := gin hc4 hden
    refine gV.lift (fun _ _ _ _ => g_aload_n hx hb d_Rd_readPlan_79 rfl (lv_at hl 1 rfl)) ?_
    replace hden := gb hden
    obtain ⟨fs9, ho, hden⟩ := hden
    replace hden := gb2 hden
    obtain ⟨r8, S7, hz, hden⟩ := hden
    refine g_callV (As := []) (rest := []) X hZ (c_Rd_readHours hz) cl_Rd (gOb_spec ho) q_337 q_11 q_334 q_336 qp_9 ⟨by decide, by decide, by show _ = some 0; decide +kernel⟩ ⟨by decide, by decide⟩ hl.1 (Nat.le_of_ble_eq_true rfl) d_Rd_readPlan_80 rfl rfl ?_
    refine gV.lift (fun _ _ _ _ => lv_goto (tgt := 97) hx hb d_Rd_readPlan_83 (by decide)) ?_
    exact w_Rd_readPlan_97 Y  x0 x1 x2 x3 t0 r8 S7 hden (lv_sub hl [1, 2, 3, 4, 0] rfl)
def B_Rd_readPlan_26  (x0 : Nat) (x1 : Option Nat) (x2 : Int32) (S : gS) : Option gS := Option.bind (gOb S x0 7) (fun fs2 => Option.bind (D_Rd_expect x0 107 S) (fun S1 => Option.bind (gOb S1 x0 7) (fun fs5 => gB2 (D_Rd_readNumber x0 1 9 S1) (fun v4 S3 => Option.bind (gOb S3 x0 7) (fun fs8 => gB2 (D_Rd_takes x0 64 S3) (fun v7 S6 => (if v7 = 0 then Option.bind (gNw S6 9 [.int 0, .int 0, .int 0]) (fun S10 => Option.bind (D_Sx_init S6.2.1 0 1 999 S10) (fun S11 => B_Rd_readPlan_68  x0 x1 x2 v4 (some S6.2.1) S11)) else Option.bind (gOb S6 x0 7) (fun fs14 => gB2 (D_Rd_readStretch x0 S6) (fun r13 S12 => B_Rd_readPlan_68  x0 x1 x2 v4 r13 S12)))))))))
set_option maxRecDepth 100000 in
set_option maxHeartbeats 4000000 in
theorem w_Rd_readPlan_26 {D : va_G} {cT : Nat → ClassId} {H0 : Heap} {l : Launch} {p : Program} {e : Env} {s : State} {m : MethodId} {args : Array Value} {below : List Frame} {meth : Method} {c : Code} {S0 : gS} {S' : gS} (Y : gY D cT H0 p s m args meth c prog_8_method_3_code 7 "PlanText$Reader" 4 96 S0 (Option.none : Option Jvm.ClassFile.FieldType))  (x0 : Nat) (x1 : Option Nat) (x2 : Int32) (S : gS) (hden : B_Rd_readPlan_26  x0 x1 x2 S = some S') {ls : Array Slot} (hl : lv_has ls 7 [(0, va_rf (some x0)), (1, va_rf x1), (2, .int x2)]) : gV D cT H0 p l e (gRm 4 96 S0) s m args below meth c (gQ D cT H0 below S0 S' (.inr none) s) S0 S (F0 m 26 ls []) := by
  obtain ⟨X, hZ, hex, hr, hE⟩ := id Y
  have hx := X.1
  have hb := X.2.1
  unfold B_Rd_readPlan_26 at hden
  refine gV.lift (fun _ _ _ _ => g_aload_n hx hb d_Rd_readPlan_26 rfl (lv_at hl 0 rfl)) ?_
  refine gV.lift (fun _ _ _ _ => lv_bipush (v := 107) hx hb d_Rd_readPlan_27 (by decide)) ?_
  replace hden := gb hden
  obtain ⟨fs2, ho, hden⟩ := hden
  replace hden := gb hden
  obtain ⟨S1, hz, hden⟩ := hden
  refine g_callV (As := [.int 107]) (rest := []) X hZ (c_Rd_expect hz) cl_Rd (gOb_spec ho) q_307 q_11 q_304 q_306 qp_7 ⟨by decide, by decide, by show _ = some 1; decide +kernel⟩ ⟨by decide, by decide⟩ hl.1 (Nat.le_of_ble_eq_true rfl) d_Rd_readPlan_29 rfl rfl ?_
  refine gV.lift (fun _ _ _ _ => g_aload_n hx hb d_Rd_readPlan_32 rfl (lv_at hl 0 rfl)) ?_
  refine gV.lift (fun _ _ _ _ => lv_iconst (v := 1) hx hb d_Rd_readPlan_33 (by decide)) ?_
  refine gV.lift (fun _ _ _ _ => lv_bipush (v := 9) hx hb d_Rd_readPlan_34 (by decide)) ?_
  replace hden := gb hden
  obtain ⟨fs5, ho, hden⟩ := hden
  replace hden := gb2 hden
  obtain ⟨v4, S3, hz, hden⟩ := hden
  refine g_callV (As := [.int 1, .int 9]) (rest := []) X hZ (c_Rd_readNumber hz) cl_Rd (gOb_spec ho) q_288 q_11 q_285 q_287 qp_4 ⟨by decide, by decide, by show _ = some 2; decide +kernel⟩ ⟨by decide, by decide⟩ hl.1 (Nat.le_of_ble_eq_true rfl) d_Rd_readPlan_36 rfl rfl ?_
  refine gV.liftS (nL := 7) (lv' := [(3, .int v4), (0, va_rf (some x0)), (1, va_rf x1), (2, .int x2)]) (fun _ _ _ _ => lv_istore_n hx hb d_Rd_readPlan_39 rfl hl (by decide) rfl) (fun ls hl => ?_)
  refine gV.lift (fun _ _ _ _ => g_aload_n hx hb d_Rd_readPlan_40 rfl (lv_at hl 1 rfl)) ?_
  refine gV.lift (fun _ _ _ _ => lv_bipush (v := 64) hx hb d_Rd_readPlan_41 (by decide)) ?_
  replace hden := gb hden
  obtain ⟨fs8, ho, hden⟩ := hden
  replace hden := gb2 hden
  obtain ⟨v7, S6, hz, hden⟩ := hden
  refine g_callV (As := [.int 64]) (rest := []) X hZ (c_Rd_takes hz) cl_Rd (gOb_spec ho) q_280 q_11 q_277 q_279 qp_2 ⟨by decide, by decide, by show _ = some 1; decide +kernel⟩ ⟨by decide, by decide⟩ hl.1 (Nat.le_of_ble_eq_true rfl) d_Rd_readPlan_43 rfl rfl ?_
  refine gV.lift2 (fun _ _ _ _ => lv_if_eq (tgt := 56) hx hb d_Rd_readPlan_46 (by decide)) (fun hc9 => ?_) (fun hc9 => ?_)
  · replace hden := gip hc9 hden
    replace hden := gb hden
    obtain ⟨S10, hv, hden⟩ := hden
    refine r_new X cl_Sx rfl hv (fun j hj => bl_Sx j hj) q_312 q_313 q_13 d_Rd_readPlan_56 ?_
    refine gV.lift (fun _ _ _ _ => lv_dup hx hb d_Rd_readPlan_59 g_cat) ?_
    refine gV.lift (fun _ _ _ _ => lv_iconst (v := 0) hx hb d_Rd_readPlan_60 (by decide)) ?_
    refine gV.lift (fun _ _ _ _ => lv_iconst (v := 1) hx hb d_Rd_readPlan_61 (by decide)) ?_
    refine gV.lift (fun _ _ _ _ => lv_sipush (v := 999) hx hb d_Rd_readPlan_62 (by decide)) ?_
    replace hden := gb hden
    obtain ⟨S11, hz, hden⟩ := hden
    refine g_callI (As := [.int 0, .int 1, .int 999]) (rest := [va_rf (some S6.2.1)]) X hZ (c_Sx_init hz) q_316 q_13 q_314 q_315 rfl ⟨by decide, by decide, by show _ = some 3; decide +kernel⟩ ⟨by decide, by decide⟩ hl.1 (Nat.le_of_ble_eq_true rfl) d_Rd_readPlan_65 rfl ?_
    exact w_Rd_readPlan_68 Y  x0 x1 x2 v4 (some S6.2.1) S11 hden (lv_sub hl [1, 2, 3, 0] rfl)
  · replace hden := gin hc9 hden
    refine gV.lift (fun _ _ _ _ => g_aload_n hx hb d_Rd_readPlan_49 rfl (lv_at hl 1 rfl)) ?_
    replace hden := gb hden
    obtain ⟨fs14, ho, hden⟩ := hden
    replace hden := gb2 hden
    obtain ⟨r13, S12, hz, hden⟩ := hden
    refine g_callV (As := []) (rest := []) X hZ (c_Rd_readStretch hz) cl_Rd (gOb_spec ho) q_311 q_11 q_308 q_310 qp_8 ⟨by decide, by decide, by show _ = some 0; decide +kernel⟩ ⟨by decide, by decide⟩ hl.1 (Nat.le_of_ble_eq_true rfl) d_Rd_readPlan_50 rfl rfl ?_
    refine gV.lift (fun _ _ _ _ => lv_goto (tgt := 68) hx hb d_Rd_readPlan_53 (by decide)) ?_
    exact w_Rd_readPlan_68 Y  x0 x1 x2 v4 r13 S12 hden (lv_sub hl [1, 2, 3, 0] rfl)
def D_Rd_readPlan (h0 : Nat) (p0 : Option Nat) (S : gS) : Option gS := Option.bind (gOb S h0 7) (fun fs3 => gB2 (D_Rd_readNumber h0 1 40 S) (fun v2 S1 => Option.bind p0 (fun a4 => Option.bind (gOb S1 a4 1) (fun fs7 => gB2 (D_Ed_planNumbered a4 v2 S1) (fun r6 S5 => gNul r6 (B_Rd_readPlan_26  h0 (some a4) v2 S5) (fun a8 => Option.bind (gI S5 h0 7 2) (fun v9 => Option.bind (gOb S5 h0 7) (fun fs11 => Option.bind (D_Rd_fail h0 (v9 - 1) S5) (fun S10 => B_Rd_readPlan_26  h0 (some a4) v2 S10)))))))))
set_option maxRecDepth 100000 in
set_option maxHeartbeats 4000000 in
theorem c_Rd_readPlan {D : va_G} {cT : Nat → ClassId} {H0 : Heap} {l : Launch} {S : gS} {S' : gS} {h0 : Nat} {p0 : Option Nat} (hden : D_Rd_readPlan h0 p0 S = some S') : gM D cT H0 l y_Rd_readPlan (Cond.code y_Rd_readPlan prog_8_method_3_code 7 (Option.none : Option Jvm.ClassFile.FieldType)) 4 96 [va_rf (some h0), va_rf p0] S S' (.inr none) := by
  refine gM.ofV (by decide) ?_
  intro p e s m args below meth c s₁ B hml ea X hZ hex hr hE
  subst ea
  have Y : gY D cT H0 p s m _ meth c prog_8_method_3_code 7 "PlanText$Reader" 4 96 S (Option.none : Option Jvm.ClassFile.FieldType) := ⟨X, hZ, hex, hr, hE⟩
  have hx := X.1
  have hb := X.2.1
  have hl := lv_entry ([va_rf (some h0), va_rf p0]) (n := 7) (by cases p0 <;> exact Nat.le_of_ble_eq_true rfl)
  rw [lg_entry_eq]
  generalize (lg_sl ([va_rf (some h0), va_rf p0]) ++ List.replicate (7 - (lg_sl ([va_rf (some h0), va_rf p0])).length) Slot.unset).toArray = ls at hl ⊢
  have hl : lv_has ls 7 [(0, va_rf (some h0)), (1, va_rf p0)] := by cases p0 <;> exact hl
  unfold D_Rd_readPlan at hden
  refine gV.lift (fun _ _ _ _ => g_aload_n hx hb d_Rd_readPlan_0 rfl (lv_at hl 0 rfl)) ?_
  refine gV.lift (fun _ _ _ _ => lv_iconst (v := 1) hx hb d_Rd_readPlan_1 (by decide)) ?_
  refine gV.lift (fun _ _ _ _ => lv_bipush (v := 40) hx hb d_Rd_readPlan_2 (by decide)) ?_
  replace hden := gb hden
  obtain ⟨fs3, ho, hden⟩ := hden
  replace hden := gb2 hden
  obtain ⟨v2, S1, hz, hden⟩ := hden
  refine g_callV (As := [.int 1, .int 40]) (rest := []) X hZ (c_Rd_readNumber hz) cl_Rd (gOb_spec ho) q_288 q_11 q_285 q_287 qp_4 ⟨by decide, by decide, by show _ = some 2; decide +kernel⟩ ⟨by decide, by decide⟩ hl.1 (Nat.le_of_ble_eq_true rfl) d_Rd_readPlan_4 rfl rfl ?_
  refine gV.liftS (nL := 7) (lv' := [(2, .int v2), (0, va_rf (some h0)), (1, va_rf p0)]) (fun _ _ _ _ => lv_istore_n hx hb d_Rd_readPlan_7 rfl hl (by decide) (by cases p0 <;> rfl)) (fun ls hl => ?_)
  refine gV.lift (fun _ _ _ _ => g_aload_n hx hb d_Rd_readPlan_8 rfl (lv_at hl 2 rfl)) ?_
  refine gV.lift (fun _ _ _ _ => lv_iload_n hx hb d_Rd_readPlan_9 rfl (lv_at hl 0 rfl)) ?_
  replace hden := gb hden
  obtain ⟨a4, rfl, hden⟩ := hden
  replace hden := gb hden
  obtain ⟨fs7, ho, hden⟩ := hden
  replace hden := gb2 hden
  obtain ⟨r6, S5, hz, hden⟩ := hden
  refine g_callV (As := [.int v2]) (rest := []) X hZ (c_Ed_planNumbered hz) cl_Ed (gOb_spec ho) q_303 q_2 q_300 q_301 q_302 ⟨by decide, by decide, by show _ = some 1; decide +kernel⟩ ⟨by decide, by decide⟩ hl.1 (Nat.le_of_ble_eq_true rfl) d_Rd_readPlan_10 rfl rfl ?_
  rcases r6 with _ | a8
  · replace hden := gN0 hden
    refine gV.lift (fun _ _ _ _ => lv_ifnullN (tgt := 26) hx hb d_Rd_readPlan_13 (by decide)) ?_
    exact w_Rd_readPlan_26 Y  h0 (some a4) v2 S5 hden (lv_sub hl [1, 2, 0] rfl)
  · replace hden := gN1 hden
    refine gV.lift (fun _ _ _ _ => lv_ifnull hx hb d_Rd_readPlan_13) ?_
    refine gV.lift (fun _ _ _ _ => g_aload_n hx hb d_Rd_readPlan_16 rfl (lv_at hl 1 rfl)) ?_
    refine gV.lift (fun _ _ _ _ => g_aload_n hx hb d_Rd_readPlan_17 rfl (lv_at hl 1 rfl)) ?_
    replace hden := gb hden
    obtain ⟨v9, hv, hden⟩ := hden
    refine r_getI X cl_Rd (k := 2) hv (by decide) q_255 d_Rd_readPlan_18 ?_
    refine gV.lift (fun _ _ _ _ => lv_iconst (v := 1) hx hb d_Rd_readPlan_21 (by decide)) ?_
    refine gV.lift (fun _ _ _ _ => lv_isub hx hb d_Rd_readPlan_22) ?_
    replace hden := gb hden
    obtain ⟨fs11, ho, hden⟩ := hden
    replace hden := gb hden
    obtain ⟨S10, hz, hden⟩ := hden
    refine g_callV (As := [.int (v9 - 1)]) (rest := []) X hZ (c_Rd_fail hz) cl_Rd (gOb_spec ho) q_295 q_11 q_292 q_294 qp_5 ⟨by decide, by decide, by show _ = some 1; decide +kernel⟩ ⟨by decide, by decide⟩ hl.1 (Nat.le_of_ble_eq_true rfl) d_Rd_readPlan_23 rfl rfl ?_
    exact w_Rd_readPlan_26 Y  h0 (some a4) v2 S10 hden (lv_sub hl [1, 2, 0] rfl)
/-! PlanText$Reader.readDefault(LPlanText$Edition;)V -/
abbrev y_Rd_readDefault : MethodName := ⟨"PlanText$Reader", "readDefault", "(LPlanText$Edition;)V"⟩
theorem d_Rd_readDefault_0 : decode prog_8_method_4_code 0 = .ok (.aload_n 0, 1) := by decide +kernel
theorem d_Rd_readDefault_1 : decode prog_8_method_4_code 1 = .ok (.iconst 1, 1) := by decide +kernel
theorem d_Rd_readDefault_2 : decode prog_8_method_4_code 2 = .ok (.bipush 9, 2) := by decide +kernel
theorem d_Rd_readDefault_4 : decode prog_8_method_4_code 4 = .ok (.invokevirtual 65, 3) := by decide +kernel
theorem d_Rd_readDefault_7 : decode prog_8_method_4_code 7 = .ok (.istore_n 2, 1) := by decide +kernel
theorem d_Rd_readDefault_8 : decode prog_8_method_4_code 8 = .ok (.aload_n 1, 1) := by decide +kernel
theorem d_Rd_readDefault_9 : decode prog_8_method_4_code 9 = .ok (.iload_n 2, 1) := by decide +kernel
theorem d_Rd_readDefault_10 : decode prog_8_method_4_code 10 = .ok (.invokevirtual 103, 3) := by decide +kernel
theorem d_Rd_readDefault_13 : decode prog_8_method_4_code 13 = .ok (.ifnull 13, 3) := by decide +kernel
theorem d_Rd_readDefault_16 : decode prog_8_method_4_code 16 = .ok (.aload_n 0, 1) := by decide +kernel
theorem d_Rd_readDefault_17 : decode prog_8_method_4_code 17 = .ok (.aload_n 0, 1) := by decide +kernel
theorem d_Rd_readDefault_18 : decode prog_8_method_4_code 18 = .ok (.getfield 9, 3) := by decide +kernel
theorem d_Rd_readDefault_21 : decode prog_8_method_4_code 21 = .ok (.iconst 1, 1) := by decide +kernel
theorem d_Rd_readDefault_22 : decode prog_8_method_4_code 22 = .ok (.isub, 1) := by decide +kernel
theorem d_Rd_readDefault_23 : decode prog_8_method_4_code 23 = .ok (.invokevirtual 58, 3) := by decide +kernel
theorem d_Rd_readDefault_26 : decode prog_8_method_4_code 26 = .ok (.aload_n 0, 1) := by decide +kernel
theorem d_Rd_readDefault_27 : decode prog_8_method_4_code 27 = .ok (.bipush 58, 2) := by decide +kernel
theorem d_Rd_readDefault_29 : decode prog_8_method_4_code 29 = .ok (.invokevirtual 61, 3) := by decide +kernel
theorem d_Rd_readDefault_32 : decode prog_8_method_4_code 32 = .ok (.aload_n 1, 1) := by decide +kernel
theorem d_Rd_readDefault_33 : decode prog_8_method_4_code 33 = .ok (.iload_n 2, 1) := by decide +kernel
theorem d_Rd_readDefault_34 : decode prog_8_method_4_code 34 = .ok (.aload_n 0, 1) := by decide +kernel
theorem d_Rd_readDefault_35 : decode prog_8_method_4_code 35 = .ok (.invokevirtual 92, 3) := by decide +kernel
theorem d_Rd_readDefault_38 : decode prog_8_method_4_code 38 = .ok (.invokevirtual 107, 3) := by decide +kernel
theorem d_Rd_readDefault_41 : decode prog_8_method_4_code 41 = .ok (.return_, 1) := by decide +kernel
def B_Rd_readDefault_26  (x0 : Nat) (x1 : Option Nat) (x2 : Int32) (S : gS) : Option gS := Option.bind (gOb S x0 7) (fun fs2 => Option.bind (D_Rd_expect x0 58 S) (fun S1 => Option.bind (gOb S1 x0 7) (fun fs5 => gB2 (D_Rd_readNeeds x0 S1) (fun r4 S3 => Option.bind x1 (fun a6 => Option.bind (gOb S3 a6 1) (fun fs8 => Option.bind (D_Ed_addDefault a6 x2 r4 S3) (fun S7 => some S7)))))))
set_option maxRecDepth 100000 in
set_option maxHeartbeats 4000000 in
theorem w_Rd_readDefault_26 {D : va_G} {cT : Nat → ClassId} {H0 : Heap} {l : Launch} {p : Program} {e : Env} {s : State} {m : MethodId} {args : Array Value} {below : List Frame} {meth : Method} {c : Code} {S0 : gS} {S' : gS} (Y : gY D cT H0 p s m args meth c prog_8_method_4_code 3 "PlanText$Reader" 4 96 S0 (Option.none : Option Jvm.ClassFile.FieldType))  (x0 : Nat) (x1 : Option Nat) (x2 : Int32) (S : gS) (hden : B_Rd_readDefault_26  x0 x1 x2 S = some S') {ls : Array Slot} (hl : lv_has ls 3 [(0, va_rf (some x0)), (1, va_rf x1), (2, .int x2)]) : gV D cT H0 p l e (gRm 4 96 S0) s m args below meth c (gQ D cT H0 below S0 S' (.inr none) s) S0 S (F0 m 26 ls []) := by
  obtain ⟨X, hZ, hex, hr, hE⟩ := id Y
  have hx := X.1
  have hb := X.2.1
  unfold B_Rd_readDefault_26 at hden
  refine gV.lift (fun _ _ _ _ => g_aload_n hx hb d_Rd_readDefault_26 rfl (lv_at hl 0 rfl)) ?_
  refine gV.lift (fun _ _ _ _ => lv_bipush (v := 58) hx hb d_Rd_readDefault_27 (by decide)) ?_
  replace hden := gb hden
  obtain ⟨fs2, ho, hden⟩ := hden
  replace hden := gb hden
  obtain ⟨S1, hz, hden⟩ := hden
  refine g_callV (As := [.int 58]) (rest := []) X hZ (c_Rd_expect hz) cl_Rd (gOb_spec ho) q_307 q_11 q_304 q_306 qp_7 ⟨by decide, by decide, by show _ = some 1; decide +kernel⟩ ⟨by decide, by decide⟩ hl.1 (Nat.le_of_ble_eq_true rfl) d_Rd_readDefault_29 rfl rfl ?_
  refine gV.lift (fun _ _ _ _ => g_aload_n hx hb d_Rd_readDefault_32 rfl (lv_at hl 1 rfl)) ?_
  refine gV.lift (fun _ _ _ _ => lv_iload_n hx hb d_Rd_readDefault_33 rfl (lv_at hl 2 rfl)) ?_
  refine gV.lift (fun _ _ _ _ => g_aload_n hx hb d_Rd_readDefault_34 rfl (lv_at hl 0 rfl)) ?_
  replace hden := gb hden
  obtain ⟨fs5, ho, hden⟩ := hden
  replace hden := gb2 hden
  obtain ⟨r4, S3, hz, hden⟩ := hden
  refine g_callV (As := []) (rest := [.int x2, va_rf x1]) X hZ (c_Rd_readNeeds hz) cl_Rd (gOb_spec ho) q_370 q_11 q_367 q_369 qp_10 ⟨by decide, by decide, by show _ = some 0; decide +kernel⟩ ⟨by decide, by decide⟩ hl.1 (by cases x1 <;> exact Nat.le_of_ble_eq_true rfl) d_Rd_readDefault_35 rfl rfl ?_
  replace hden := gb hden
  obtain ⟨a6, rfl, hden⟩ := hden
  replace hden := gb hden
  obtain ⟨fs8, ho, hden⟩ := hden
  replace hden := gb hden
  obtain ⟨S7, hz, hden⟩ := hden
  refine g_callV (As := [.int x2, va_rf r4]) (rest := []) X hZ (c_Ed_addDefault hz) cl_Ed (gOb_spec ho) q_467 q_2 q_464 q_465 q_466 ⟨by decide, by decide, by show _ = some 2; decide +kernel⟩ ⟨by decide, by decide⟩ hl.1 (Nat.le_of_ble_eq_true rfl) d_Rd_readDefault_38 rfl rfl ?_
  obtain rfl := gsi hden
  exact g_vret X hr d_Rd_readDefault_41
def D_Rd_readDefault (h0 : Nat) (p0 : Option Nat) (S : gS) : Option gS := Option.bind (gOb S h0 7) (fun fs3 => gB2 (D_Rd_readNumber h0 1 9 S) (fun v2 S1 => Option.bind p0 (fun a4 => Option.bind (gOb S1 a4 1) (fun fs7 => gB2 (D_Ed_defaultNeeds a4 v2 S1) (fun r6 S5 => gNul r6 (B_Rd_readDefault_26  h0 (some a4) v2 S5) (fun a8 => Option.bind (gI S5 h0 7 2) (fun v9 => Option.bind (gOb S5 h0 7) (fun fs11 => Option.bind (D_Rd_fail h0 (v9 - 1) S5) (fun S10 => B_Rd_readDefault_26  h0 (some a4) v2 S10)))))))))
set_option maxRecDepth 100000 in
set_option maxHeartbeats 4000000 in
theorem c_Rd_readDefault {D : va_G} {cT : Nat → ClassId} {H0 : Heap} {l : Launch} {S : gS} {S' : gS} {h0 : Nat} {p0 : Option Nat} (hden : D_Rd_readDefault h0 p0 S = some S') : gM D cT H0 l y_Rd_readDefault (Cond.code y_Rd_readDefault prog_8_method_4_code 3 (Option.none : Option Jvm.ClassFile.FieldType)) 4 96 [va_rf (some h0), va_rf p0] S S' (.inr none) := by
  refine gM.ofV (by decide) ?_
  intro p e s m args below meth c s₁ B hml ea X hZ hex hr hE
  subst ea
  have Y : gY D cT H0 p s m _ meth c prog_8_method_4_code 3 "PlanText$Reader" 4 96 S (Option.none : Option Jvm.ClassFile.FieldType) := ⟨X, hZ, hex, hr, hE⟩
  have hx := X.1
  have hb := X.2.1
  have hl := lv_entry ([va_rf (some h0), va_rf p0]) (n := 3) (by cases p0 <;> exact Nat.le_of_ble_eq_true rfl)
  rw [lg_entry_eq]
  generalize (lg_sl ([va_rf (some h0), va_rf p0]) ++ List.replicate (3 - (lg_sl ([va_rf (some h0), va_rf p0])).length) Slot.unset).toArray = ls at hl ⊢
  have hl : lv_has ls 3 [(0, va_rf (some h0)), (1, va_rf p0)] := by cases p0 <;> exact hl
  unfold D_Rd_readDefault at hden
  refine gV.lift (fun _ _ _ _ => g_aload_n hx hb d_Rd_readDefault_0 rfl (lv_at hl 0 rfl)) ?_
  refine gV.lift (fun _ _ _ _ => lv_iconst (v := 1) hx hb d_Rd_readDefault_1 (by decide)) ?_
  refine gV.lift (fun _ _ _ _ => lv_bipush (v := 9) hx hb d_Rd_readDefault_2 (by decide)) ?_
  replace hden := gb hden
  obtain ⟨fs3, ho, hden⟩ := hden
  replace hden := gb2 hden
  obtain ⟨v2, S1, hz, hden⟩ := hden
  refine g_callV (As := [.int 1, .int 9]) (rest := []) X hZ (c_Rd_readNumber hz) cl_Rd (gOb_spec ho) q_288 q_11 q_285 q_287 qp_4 ⟨by decide, by decide, by show _ = some 2; decide +kernel⟩ ⟨by decide, by decide⟩ hl.1 (Nat.le_of_ble_eq_true rfl) d_Rd_readDefault_4 rfl rfl ?_
  refine gV.liftS (nL := 3) (lv' := [(2, .int v2), (0, va_rf (some h0)), (1, va_rf p0)]) (fun _ _ _ _ => lv_istore_n hx hb d_Rd_readDefault_7 rfl hl (by decide) (by cases p0 <;> rfl)) (fun ls hl => ?_)
  refine gV.lift (fun _ _ _ _ => g_aload_n hx hb d_Rd_readDefault_8 rfl (lv_at hl 2 rfl)) ?_
  refine gV.lift (fun _ _ _ _ => lv_iload_n hx hb d_Rd_readDefault_9 rfl (lv_at hl 0 rfl)) ?_
  replace hden := gb hden
  obtain ⟨a4, rfl, hden⟩ := hden
  replace hden := gb hden
  obtain ⟨fs7, ho, hden⟩ := hden
  replace hden := gb2 hden
  obtain ⟨r6, S5, hz, hden⟩ := hden
  refine g_callV (As := [.int v2]) (rest := []) X hZ (c_Ed_defaultNeeds hz) cl_Ed (gOb_spec ho) q_463 q_2 q_460 q_461 q_462 ⟨by decide, by decide, by show _ = some 1; decide +kernel⟩ ⟨by decide, by decide⟩ hl.1 (Nat.le_of_ble_eq_true rfl) d_Rd_readDefault_10 rfl rfl ?_
  rcases r6 with _ | a8
  · replace hden := gN0 hden
    refine gV.lift (fun _ _ _ _ => lv_ifnullN (tgt := 26) hx hb d_Rd_readDefault_13 (by decide)) ?_
    exact w_Rd_readDefault_26 Y  h0 (some a4) v2 S5 hden (lv_sub hl [1, 2, 0] rfl)
  · replace hden := gN1 hden
    refine gV.lift (fun _ _ _ _ => lv_ifnull hx hb d_Rd_readDefault_13) ?_
    refine gV.lift (fun _ _ _ _ => g_aload_n hx hb d_Rd_readDefault_16 rfl (lv_at hl 1 rfl)) ?_
    refine gV.lift (fun _ _ _ _ => g_aload_n hx hb d_Rd_readDefault_17 rfl (lv_at hl 1 rfl)) ?_
    replace hden := gb hden
    obtain ⟨v9, hv, hden⟩ := hden
    refine r_getI X cl_Rd (k := 2) hv (by decide) q_255 d_Rd_readDefault_18 ?_
    refine gV.lift (fun _ _ _ _ => lv_iconst (v := 1) hx hb d_Rd_readDefault_21 (by decide)) ?_
    refine gV.lift (fun _ _ _ _ => lv_isub hx hb d_Rd_readDefault_22) ?_
    replace hden := gb hden
    obtain ⟨fs11, ho, hden⟩ := hden
    replace hden := gb hden
    obtain ⟨S10, hz, hden⟩ := hden
    refine g_callV (As := [.int (v9 - 1)]) (rest := []) X hZ (c_Rd_fail hz) cl_Rd (gOb_spec ho) q_295 q_11 q_292 q_294 qp_5 ⟨by decide, by decide, by show _ = some 1; decide +kernel⟩ ⟨by decide, by decide⟩ hl.1 (Nat.le_of_ble_eq_true rfl) d_Rd_readDefault_23 rfl rfl ?_
    exact w_Rd_readDefault_26 Y  h0 (some a4) v2 S10 hden (lv_sub hl [1, 2, 0] rfl)
/-! PlanText$Reader.readStandby(LPlanText$Edition;)V -/
abbrev y_Rd_readStandby : MethodName := ⟨"PlanText$Reader", "readStandby", "(LPlanText$Edition;)V"⟩
theorem d_Rd_readStandby_0 : decode prog_8_method_5_code 0 = .ok (.aload_n 0, 1) := by decide +kernel
theorem d_Rd_readStandby_1 : decode prog_8_method_5_code 1 = .ok (.bipush 91, 2) := by decide +kernel
theorem d_Rd_readStandby_3 : decode prog_8_method_5_code 3 = .ok (.invokevirtual 61, 3) := by decide +kernel
theorem d_Rd_readStandby_6 : decode prog_8_method_5_code 6 = .ok (.aload_n 0, 1) := by decide +kernel
theorem d_Rd_readStandby_7 : decode prog_8_method_5_code 7 = .ok (.invokevirtual 81, 3) := by decide +kernel
theorem d_Rd_readStandby_10 : decode prog_8_method_5_code 10 = .ok (.astore_n 2, 1) := by decide +kernel
theorem d_Rd_readStandby_11 : decode prog_8_method_5_code 11 = .ok (.aload_n 0, 1) := by decide +kernel
theorem d_Rd_readStandby_12 : decode prog_8_method_5_code 12 = .ok (.iconst 1, 1) := by decide +kernel
theorem d_Rd_readStandby_13 : decode prog_8_method_5_code 13 = .ok (.bipush 9, 2) := by decide +kernel
theorem d_Rd_readStandby_15 : decode prog_8_method_5_code 15 = .ok (.invokevirtual 65, 3) := by decide +kernel
theorem d_Rd_readStandby_18 : decode prog_8_method_5_code 18 = .ok (.istore_n 3, 1) := by decide +kernel
theorem d_Rd_readStandby_19 : decode prog_8_method_5_code 19 = .ok (.aload_n 0, 1) := by decide +kernel
theorem d_Rd_readStandby_20 : decode prog_8_method_5_code 20 = .ok (.bipush 58, 2) := by decide +kernel
theorem d_Rd_readStandby_22 : decode prog_8_method_5_code 22 = .ok (.invokevirtual 61, 3) := by decide +kernel
theorem d_Rd_readStandby_25 : decode prog_8_method_5_code 25 = .ok (.aload_n 0, 1) := by decide +kernel
theorem d_Rd_readStandby_26 : decode prog_8_method_5_code 26 = .ok (.iconst 1, 1) := by decide +kernel
theorem d_Rd_readStandby_27 : decode prog_8_method_5_code 27 = .ok (.bipush 9, 2) := by decide +kernel
theorem d_Rd_readStandby_29 : decode prog_8_method_5_code 29 = .ok (.invokevirtual 65, 3) := by decide +kernel
theorem d_Rd_readStandby_32 : decode prog_8_method_5_code 32 = .ok (.istore 4, 2) := by decide +kernel
theorem d_Rd_readStandby_34 : decode prog_8_method_5_code 34 = .ok (.aload_n 1, 1) := by decide +kernel
theorem d_Rd_readStandby_35 : decode prog_8_method_5_code 35 = .ok (.new 111, 3) := by decide +kernel
theorem d_Rd_readStandby_38 : decode prog_8_method_5_code 38 = .ok (.dup, 1) := by decide +kernel
theorem d_Rd_readStandby_39 : decode prog_8_method_5_code 39 = .ok (.aload_n 2, 1) := by decide +kernel
theorem d_Rd_readStandby_40 : decode prog_8_method_5_code 40 = .ok (.iload_n 3, 1) := by decide +kernel
theorem d_Rd_readStandby_41 : decode prog_8_method_5_code 41 = .ok (.iload 4, 2) := by decide +kernel
theorem d_Rd_readStandby_43 : decode prog_8_method_5_code 43 = .ok (.aload_n 0, 1) := by decide +kernel
theorem d_Rd_readStandby_44 : decode prog_8_method_5_code 44 = .ok (.iconst 0, 1) := by decide +kernel
theorem d_Rd_readStandby_45 : decode prog_8_method_5_code 45 = .ok (.invokevirtual 113, 3) := by decide +kernel
theorem d_Rd_readStandby_48 : decode prog_8_method_5_code 48 = .ok (.invokespecial 117, 3) := by decide +kernel
theorem d_Rd_readStandby_51 : decode prog_8_method_5_code 51 = .ok (.invokevirtual 120, 3) := by decide +kernel
theorem d_Rd_readStandby_54 : decode prog_8_method_5_code 54 = .ok (.return_, 1) := by decide +kernel
def D_Rd_readStandby (h0 : Nat) (p0 : Option Nat) (S : gS) : Option gS := Option.bind (gOb S h0 7) (fun fs2 => Option.bind (D_Rd_expect h0 91 S) (fun S1 => Option.bind (gOb S1 h0 7) (fun fs5 => gB2 (D_Rd_readHours h0 S1) (fun r4 S3 => Option.bind (gOb S3 h0 7) (fun fs8 => gB2 (D_Rd_readNumber h0 1 9 S3) (fun v7 S6 => Option.bind (gOb S6 h0 7) (fun fs10 => Option.bind (D_Rd_expect h0 58 S6) (fun S9 => Option.bind (gOb S9 h0 7) (fun fs13 => gB2 (D_Rd_readNumber h0 1 9 S9) (fun v12 S11 => Option.bind (gNw S11 8 [.null, .int 0, .int 0, .int 0]) (fun S14 => Option.bind (gOb S14 h0 7) (fun fs17 => gB2 (D_Rd_readSkill h0 0 S14) (fun v16 S15 => Option.bind (D_Sb_init S11.2.1 r4 v7 v12 v16 S15) (fun S18 => Option.bind p0 (fun a19 => Option.bind (gOb S18 a19 1) (fun fs21 => Option.bind (D_Ed_addStandby a19 (some S11.2.1) S18) (fun S20 => some S20)))))))))))))))))
set_option maxRecDepth 100000 in
set_option maxHeartbeats 4000000 in
theorem c_Rd_readStandby {D : va_G} {cT : Nat → ClassId} {H0 : Heap} {l : Launch} {S : gS} {S' : gS} {h0 : Nat} {p0 : Option Nat} (hden : D_Rd_readStandby h0 p0 S = some S') : gM D cT H0 l y_Rd_readStandby (Cond.code y_Rd_readStandby prog_8_method_5_code 5 (Option.none : Option Jvm.ClassFile.FieldType)) 4 84 [va_rf (some h0), va_rf p0] S S' (.inr none) := by
  refine gM.ofV (by decide) ?_
  intro p e s m args below meth c s₁ B hml ea X hZ hex hr hE
  subst ea
  have Y : gY D cT H0 p s m _ meth c prog_8_method_5_code 5 "PlanText$Reader" 4 84 S (Option.none : Option Jvm.ClassFile.FieldType) := ⟨X, hZ, hex, hr, hE⟩
  have hx := X.1
  have hb := X.2.1
  have hl := lv_entry ([va_rf (some h0), va_rf p0]) (n := 5) (by cases p0 <;> exact Nat.le_of_ble_eq_true rfl)
  rw [lg_entry_eq]
  generalize (lg_sl ([va_rf (some h0), va_rf p0]) ++ List.replicate (5 - (lg_sl ([va_rf (some h0), va_rf p0])).length) Slot.unset).toArray = ls at hl ⊢
  have hl : lv_has ls 5 [(0, va_rf (some h0)), (1, va_rf p0)] := by cases p0 <;> exact hl
  unfold D_Rd_readStandby at hden
  refine gV.lift (fun _ _ _ _ => g_aload_n hx hb d_Rd_readStandby_0 rfl (lv_at hl 0 rfl)) ?_
  refine gV.lift (fun _ _ _ _ => lv_bipush (v := 91) hx hb d_Rd_readStandby_1 (by decide)) ?_
  replace hden := gb hden
  obtain ⟨fs2, ho, hden⟩ := hden
  replace hden := gb hden
  obtain ⟨S1, hz, hden⟩ := hden
  refine g_callV (As := [.int 91]) (rest := []) X hZ (c_Rd_expect hz) cl_Rd (gOb_spec ho) q_307 q_11 q_304 q_306 qp_7 ⟨by decide, by decide, by show _ = some 1; decide +kernel⟩ ⟨by decide, by decide⟩ hl.1 (Nat.le_of_ble_eq_true rfl) d_Rd_readStandby_3 rfl rfl ?_
  refine gV.lift (fun _ _ _ _ => g_aload_n hx hb d_Rd_readStandby_6 rfl (lv_at hl 0 rfl)) ?_
  replace hden := gb hden
  obtain ⟨fs5, ho, hden⟩ := hden
  replace hden := gb2 hden
  obtain ⟨r4, S3, hz, hden⟩ := hden
  refine g_callV (As := []) (rest := []) X hZ (c_Rd_readHours hz) cl_Rd (gOb_spec ho) q_337 q_11 q_334 q_336 qp_9 ⟨by decide, by decide, by show _ = some 0; decide +kernel⟩ ⟨by decide, by decide⟩ hl.1 (Nat.le_of_ble_eq_true rfl) d_Rd_readStandby_7 rfl rfl ?_
  refine gV.liftS (nL := 5) (lv' := [(2, va_rf r4), (0, va_rf (some h0)), (1, va_rf p0)]) (fun _ _ _ _ => g_astore_n hx hb d_Rd_readStandby_10 rfl hl (by decide) (by cases p0 <;> rfl)) (fun ls hl => ?_)
  refine gV.lift (fun _ _ _ _ => g_aload_n hx hb d_Rd_readStandby_11 rfl (lv_at hl 1 rfl)) ?_
  refine gV.lift (fun _ _ _ _ => lv_iconst (v := 1) hx hb d_Rd_readStandby_12 (by decide)) ?_
  refine gV.lift (fun _ _ _ _ => lv_bipush (v := 9) hx hb d_Rd_readStandby_13 (by decide)) ?_
  replace hden := gb hden
  obtain ⟨fs8, ho, hden⟩ := hden
  replace hden := gb2 hden
  obtain ⟨v7, S6, hz, hden⟩ := hden
  refine g_callV (As := [.int 1, .int 9]) (rest := []) X hZ (c_Rd_readNumber hz) cl_Rd (gOb_spec ho) q_288 q_11 q_285 q_287 qp_4 ⟨by decide, by decide, by show _ = some 2; decide +kernel⟩ ⟨by decide, by decide⟩ hl.1 (Nat.le_of_ble_eq_true rfl) d_Rd_readStandby_15 rfl rfl ?_
  refine gV.liftS (nL := 5) (lv' := [(3, .int v7), (2, va_rf r4), (0, va_rf (some h0)), (1, va_rf p0)]) (fun _ _ _ _ => lv_istore_n hx hb d_Rd_readStandby_18 rfl hl (by decide) (by cases r4 <;> rfl)) (fun ls hl => ?_)
  refine gV.lift (fun _ _ _ _ => g_aload_n hx hb d_Rd_readStandby_19 rfl (lv_at hl 2 rfl)) ?_
  refine gV.lift (fun _ _ _ _ => lv_bipush (v := 58) hx hb d_Rd_readStandby_20 (by decide)) ?_
  replace hden := gb hden
  obtain ⟨fs10, ho, hden⟩ := hden
  replace hden := gb hden
  obtain ⟨S9, hz, hden⟩ := hden
  refine g_callV (As := [.int 58]) (rest := []) X hZ (c_Rd_expect hz) cl_Rd (gOb_spec ho) q_307 q_11 q_304 q_306 qp_7 ⟨by decide, by decide, by show _ = some 1; decide +kernel⟩ ⟨by decide, by decide⟩ hl.1 (Nat.le_of_ble_eq_true rfl) d_Rd_readStandby_22 rfl rfl ?_
  refine gV.lift (fun _ _ _ _ => g_aload_n hx hb d_Rd_readStandby_25 rfl (lv_at hl 2 rfl)) ?_
  refine gV.lift (fun _ _ _ _ => lv_iconst (v := 1) hx hb d_Rd_readStandby_26 (by decide)) ?_
  refine gV.lift (fun _ _ _ _ => lv_bipush (v := 9) hx hb d_Rd_readStandby_27 (by decide)) ?_
  replace hden := gb hden
  obtain ⟨fs13, ho, hden⟩ := hden
  replace hden := gb2 hden
  obtain ⟨v12, S11, hz, hden⟩ := hden
  refine g_callV (As := [.int 1, .int 9]) (rest := []) X hZ (c_Rd_readNumber hz) cl_Rd (gOb_spec ho) q_288 q_11 q_285 q_287 qp_4 ⟨by decide, by decide, by show _ = some 2; decide +kernel⟩ ⟨by decide, by decide⟩ hl.1 (Nat.le_of_ble_eq_true rfl) d_Rd_readStandby_29 rfl rfl ?_
  refine gV.liftS (nL := 5) (lv' := [(4, .int v12), (3, .int v7), (2, va_rf r4), (0, va_rf (some h0)), (1, va_rf p0)]) (fun _ _ _ _ => lv_istore hx hb d_Rd_readStandby_32 hl (by decide) rfl) (fun ls hl => ?_)
  refine gV.lift (fun _ _ _ _ => g_aload_n hx hb d_Rd_readStandby_34 rfl (lv_at hl 4 rfl)) ?_
  replace hden := gb hden
  obtain ⟨S14, hv, hden⟩ := hden
  refine r_new X cl_Sb rfl hv (fun j hj => bl_Sb j hj) q_476 q_477 q_17 d_Rd_readStandby_35 ?_
  refine gV.lift (fun _ _ _ _ => lv_dup hx hb d_Rd_readStandby_38 g_cat) ?_
  refine gV.lift (fun _ _ _ _ => g_aload_n hx hb d_Rd_readStandby_39 rfl (lv_at hl 2 rfl)) ?_
  refine gV.lift (fun _ _ _ _ => lv_iload_n hx hb d_Rd_readStandby_40 rfl (lv_at hl 1 rfl)) ?_
  refine gV.lift (fun _ _ _ _ => lv_iload hx hb d_Rd_readStandby_41 (lv_at hl 0 rfl)) ?_
  refine gV.lift (fun _ _ _ _ => g_aload_n hx hb d_Rd_readStandby_43 rfl (lv_at hl 3 rfl)) ?_
  refine gV.lift (fun _ _ _ _ => lv_iconst (v := 0) hx hb d_Rd_readStandby_44 (by decide)) ?_
  replace hden := gb hden
  obtain ⟨fs17, ho, hden⟩ := hden
  replace hden := gb2 hden
  obtain ⟨v16, S15, hz, hden⟩ := hden
  refine g_callV (As := [.int 0]) (rest := [.int v12, .int v7, va_rf r4, va_rf (some S11.2.1), va_rf (some S11.2.1), va_rf p0]) X hZ (c_Rd_readSkill hz) cl_Rd (gOb_spec ho) q_380 q_11 q_377 q_379 qp_12 ⟨by decide, by decide, by show _ = some 1; decide +kernel⟩ ⟨by decide, by decide⟩ hl.1 (by cases r4 <;> cases p0 <;> exact Nat.le_of_ble_eq_true rfl) d_Rd_readStandby_45 rfl rfl ?_
  replace hden := gb hden
  obtain ⟨S18, hz, hden⟩ := hden
  refine g_callI (As := [va_rf r4, .int v7, .int v12, .int v16]) (rest := [va_rf (some S11.2.1), va_rf p0]) X hZ (c_Sb_init hz) q_480 q_17 q_478 q_479 rfl ⟨by decide, by decide, by show _ = some 4; decide +kernel⟩ ⟨by decide, by decide⟩ hl.1 (by cases p0 <;> exact Nat.le_of_ble_eq_true rfl) d_Rd_readStandby_48 rfl ?_
  replace hden := gb hden
  obtain ⟨a19, rfl, hden⟩ := hden
  replace hden := gb hden
  obtain ⟨fs21, ho, hden⟩ := hden
  replace hden := gb hden
  obtain ⟨S20, hz, hden⟩ := hden
  refine g_callV (As := [va_rf (some S11.2.1)]) (rest := []) X hZ (c_Ed_addStandby hz) cl_Ed (gOb_spec ho) q_503 q_2 q_500 q_501 q_502 ⟨by decide, by decide, by show _ = some 1; decide +kernel⟩ ⟨by decide, by decide⟩ hl.1 (Nat.le_of_ble_eq_true rfl) d_Rd_readStandby_51 rfl rfl ?_
  obtain rfl := gsi hden
  exact g_vret X hr d_Rd_readStandby_54
