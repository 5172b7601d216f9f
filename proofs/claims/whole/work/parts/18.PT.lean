/-! PlanText.<init>()V -/
abbrev y_PT_init : MethodName := ⟨"PlanText", "<init>", "()V"⟩
theorem d_PT_init_0 : decode prog_1_method_1_code 0 = .ok (.aload_n 0, 1) := by decide +kernel
theorem d_PT_init_1 : decode prog_1_method_1_code 1 = .ok (.invokespecial 1, 3) := by decide +kernel
theorem d_PT_init_4 : decode prog_1_method_1_code 4 = .ok (.aload_n 0, 1) := by decide +kernel
theorem d_PT_init_5 : decode prog_1_method_1_code 5 = .ok (.sipush 400, 3) := by decide +kernel
theorem d_PT_init_8 : decode prog_1_method_1_code 8 = .ok (.newarray .byte, 2) := by decide +kernel
theorem d_PT_init_10 : decode prog_1_method_1_code 10 = .ok (.putfield 9, 3) := by decide +kernel
theorem d_PT_init_13 : decode prog_1_method_1_code 13 = .ok (.aload_n 0, 1) := by decide +kernel
theorem d_PT_init_14 : decode prog_1_method_1_code 14 = .ok (.iconst 0, 1) := by decide +kernel
theorem d_PT_init_15 : decode prog_1_method_1_code 15 = .ok (.putfield 13, 3) := by decide +kernel
theorem d_PT_init_18 : decode prog_1_method_1_code 18 = .ok (.aload_n 0, 1) := by decide +kernel
theorem d_PT_init_19 : decode prog_1_method_1_code 19 = .ok (.iconst (-1), 1) := by decide +kernel
theorem d_PT_init_20 : decode prog_1_method_1_code 20 = .ok (.putfield 17, 3) := by decide +kernel
theorem d_PT_init_23 : decode prog_1_method_1_code 23 = .ok (.aload_n 0, 1) := by decide +kernel
theorem d_PT_init_24 : decode prog_1_method_1_code 24 = .ok (.bipush 8, 2) := by decide +kernel
theorem d_PT_init_26 : decode prog_1_method_1_code 26 = .ok (.newarray .int, 2) := by decide +kernel
theorem d_PT_init_28 : decode prog_1_method_1_code 28 = .ok (.putfield 20, 3) := by decide +kernel
theorem d_PT_init_31 : decode prog_1_method_1_code 31 = .ok (.aload_n 0, 1) := by decide +kernel
theorem d_PT_init_32 : decode prog_1_method_1_code 32 = .ok (.bipush 6, 2) := by decide +kernel
theorem d_PT_init_34 : decode prog_1_method_1_code 34 = .ok (.anewarray 24, 3) := by decide +kernel
theorem d_PT_init_37 : decode prog_1_method_1_code 37 = .ok (.putfield 26, 3) := by decide +kernel
theorem d_PT_init_40 : decode prog_1_method_1_code 40 = .ok (.aload_n 0, 1) := by decide +kernel
theorem d_PT_init_41 : decode prog_1_method_1_code 41 = .ok (.iconst 0, 1) := by decide +kernel
theorem d_PT_init_42 : decode prog_1_method_1_code 42 = .ok (.putfield 30, 3) := by decide +kernel
theorem d_PT_init_45 : decode prog_1_method_1_code 45 = .ok (.aload_n 0, 1) := by decide +kernel
theorem d_PT_init_46 : decode prog_1_method_1_code 46 = .ok (.new 24, 3) := by decide +kernel
theorem d_PT_init_49 : decode prog_1_method_1_code 49 = .ok (.dup, 1) := by decide +kernel
theorem d_PT_init_50 : decode prog_1_method_1_code 50 = .ok (.iconst (-1), 1) := by decide +kernel
theorem d_PT_init_51 : decode prog_1_method_1_code 51 = .ok (.invokespecial 33, 3) := by decide +kernel
theorem d_PT_init_54 : decode prog_1_method_1_code 54 = .ok (.putfield 36, 3) := by decide +kernel
theorem d_PT_init_57 : decode prog_1_method_1_code 57 = .ok (.aload_n 0, 1) := by decide +kernel
theorem d_PT_init_58 : decode prog_1_method_1_code 58 = .ok (.aload_n 0, 1) := by decide +kernel
theorem d_PT_init_59 : decode prog_1_method_1_code 59 = .ok (.getfield 36, 3) := by decide +kernel
theorem d_PT_init_62 : decode prog_1_method_1_code 62 = .ok (.putfield 40, 3) := by decide +kernel
theorem d_PT_init_65 : decode prog_1_method_1_code 65 = .ok (.aload_n 0, 1) := by decide +kernel
theorem d_PT_init_66 : decode prog_1_method_1_code 66 = .ok (.new 43, 3) := by decide +kernel
theorem d_PT_init_69 : decode prog_1_method_1_code 69 = .ok (.dup, 1) := by decide +kernel
theorem d_PT_init_70 : decode prog_1_method_1_code 70 = .ok (.invokespecial 45, 3) := by decide +kernel
theorem d_PT_init_73 : decode prog_1_method_1_code 73 = .ok (.putfield 46, 3) := by decide +kernel
theorem d_PT_init_76 : decode prog_1_method_1_code 76 = .ok (.aload_n 0, 1) := by decide +kernel
theorem d_PT_init_77 : decode prog_1_method_1_code 77 = .ok (.aload_n 0, 1) := by decide +kernel
theorem d_PT_init_78 : decode prog_1_method_1_code 78 = .ok (.getfield 46, 3) := by decide +kernel
theorem d_PT_init_81 : decode prog_1_method_1_code 81 = .ok (.putfield 50, 3) := by decide +kernel
theorem d_PT_init_84 : decode prog_1_method_1_code 84 = .ok (.aload_n 0, 1) := by decide +kernel
theorem d_PT_init_85 : decode prog_1_method_1_code 85 = .ok (.new 53, 3) := by decide +kernel
theorem d_PT_init_88 : decode prog_1_method_1_code 88 = .ok (.dup, 1) := by decide +kernel
theorem d_PT_init_89 : decode prog_1_method_1_code 89 = .ok (.invokespecial 55, 3) := by decide +kernel
theorem d_PT_init_92 : decode prog_1_method_1_code 92 = .ok (.putfield 56, 3) := by decide +kernel
theorem d_PT_init_95 : decode prog_1_method_1_code 95 = .ok (.return_, 1) := by decide +kernel
def D_PT_init (h0 : Nat) (S : gS) : Option gS := Option.bind (gNA S 2 400 (.inl (fun _ => 0))) (fun S1 => Option.bind (gPut S1 h0 0 0 (va_rf (some S.2.1))) (fun S2 => Option.bind (gPut S2 h0 0 1 (.int 0)) (fun S3 => Option.bind (gPut S3 h0 0 2 (.int (-1))) (fun S4 => Option.bind (gNA S4 0 8 (.inl (fun _ => 0))) (fun S5 => Option.bind (gPut S5 h0 0 3 (va_rf (some S4.2.1))) (fun S6 => Option.bind (gNA S6 4 6 (.inr (.inr (.inr (.inr (fun _ => none)))))) (fun S7 => Option.bind (gPut S7 h0 0 4 (va_rf (some S6.2.1))) (fun S8 => Option.bind (gPut S8 h0 0 5 (.int 0)) (fun S9 => Option.bind (gNw S9 1 [.int 0, .null, .null, .null, .int 0, .int 0, .int 0]) (fun S10 => Option.bind (D_Ed_init S9.2.1 (-1) S10) (fun S11 => Option.bind (gPut S11 h0 0 6 (va_rf (some S9.2.1))) (fun S12 => Option.bind (gRf S12 h0 0 6) (fun r13 => Option.bind (gPut S12 h0 0 7 (va_rf r13)) (fun S14 => Option.bind (gNw S14 4 [.null, .int 0]) (fun S15 => Option.bind (D_NL_init S14.2.1 S15) (fun S16 => Option.bind (gPut S16 h0 0 8 (va_rf (some S14.2.1))) (fun S17 => Option.bind (gRf S17 h0 0 8) (fun r18 => Option.bind (gPut S17 h0 0 9 (va_rf r18)) (fun S19 => Option.bind (gNw S19 6 [.null, .int 0]) (fun S20 => Option.bind (D_Pr_init S19.2.1 S20) (fun S21 => Option.bind (gPut S21 h0 0 10 (va_rf (some S19.2.1))) (fun S22 => some S22))))))))))))))))))))))
set_option maxRecDepth 100000 in
set_option maxHeartbeats 4000000 in
theorem c_PT_init {D : va_G} {cT : Nat → ClassId} {H0 : Heap} {l : Launch} {S : gS} {S' : gS} {h0 : Nat} (hden : D_PT_init h0 S = some S') : gM D cT H0 l y_PT_init (Cond.code y_PT_init prog_1_method_1_code 1 (Option.none : Option Jvm.ClassFile.FieldType)) 2 45 [va_rf (some h0)] S S' (.inr none) := by
  refine gM.ofV (by decide) ?_
  intro p e s m args below meth c s₁ B hml ea X hZ hex hr hE
  subst ea
  have Y : gY D cT H0 p s m _ meth c prog_1_method_1_code 1 "PlanText" 2 45 S (Option.none : Option Jvm.ClassFile.FieldType) := ⟨X, hZ, hex, hr, hE⟩
  have hin : meth.name = "<init>" := (name_of_methodNamed B.named B.method).1
  have hx := X.1
  have hb := X.2.1
  have hl := lv_entry ([va_rf (some h0)]) (n := 1) (Nat.le_of_ble_eq_true rfl)
  rw [lg_entry_eq]
  generalize (lg_sl ([va_rf (some h0)]) ++ List.replicate (1 - (lg_sl ([va_rf (some h0)])).length) Slot.unset).toArray = ls at hl ⊢
  have hl : lv_has ls 1 [(0, va_rf (some h0))] := hl
  unfold D_PT_init at hden
  refine gV.lift (fun _ _ _ _ => g_aload_n hx hb d_PT_init_0 rfl (lv_at hl 0 rfl)) ?_
  refine g_objInit X q_25 q_26 q_27 hl.1 d_PT_init_1 ⟨by decide, Nat.le_of_ble_eq_true rfl⟩ ?_
  refine gV.lift (fun _ _ _ _ => g_aload_n hx hb d_PT_init_4 rfl (lv_at hl 0 rfl)) ?_
  refine gV.lift (fun _ _ _ _ => lv_sipush (v := 400) hx hb d_PT_init_5 (by decide)) ?_
  replace hden := gb hden
  obtain ⟨S1, hv, hden⟩ := hden
  refine r_newa X (atype := .byte) (t := 2) (ty := .byte) rfl rfl rfl q_67 hv (fun _ => rfl) (by decide) d_PT_init_8 ?_
  replace hden := gb hden
  obtain ⟨S2, hv, hden⟩ := hden
  refine r_putF X cl_PT (k := 0) hv (by decide) q_98 rfl hin rfl g_narA g_fitA d_PT_init_10 ?_
  refine gV.lift (fun _ _ _ _ => g_aload_n hx hb d_PT_init_13 rfl (lv_at hl 0 rfl)) ?_
  refine gV.lift (fun _ _ _ _ => lv_iconst (v := 0) hx hb d_PT_init_14 (by decide)) ?_
  replace hden := gb hden
  obtain ⟨S3, hv, hden⟩ := hden
  refine r_put X cl_PT (k := 1) hv (by decide) q_99 rfl rfl rfl d_PT_init_15 ?_
  refine gV.lift (fun _ _ _ _ => g_aload_n hx hb d_PT_init_18 rfl (lv_at hl 0 rfl)) ?_
  refine gV.lift (fun _ _ _ _ => lv_iconst (v := (-1)) hx hb d_PT_init_19 (by decide)) ?_
  replace hden := gb hden
  obtain ⟨S4, hv, hden⟩ := hden
  refine r_put X cl_PT (k := 2) hv (by decide) q_100 rfl rfl rfl d_PT_init_20 ?_
  refine gV.lift (fun _ _ _ _ => g_aload_n hx hb d_PT_init_23 rfl (lv_at hl 0 rfl)) ?_
  refine gV.lift (fun _ _ _ _ => lv_bipush (v := 8) hx hb d_PT_init_24 (by decide)) ?_
  replace hden := gb hden
  obtain ⟨S5, hv, hden⟩ := hden
  refine r_newa X (atype := .int) (t := 0) (ty := .int) rfl rfl rfl q_68 hv (fun _ => rfl) (by decide) d_PT_init_26 ?_
  replace hden := gb hden
  obtain ⟨S6, hv, hden⟩ := hden
  refine r_putF X cl_PT (k := 3) hv (by decide) q_101 rfl hin rfl g_narA g_fitA d_PT_init_28 ?_
  refine gV.lift (fun _ _ _ _ => g_aload_n hx hb d_PT_init_31 rfl (lv_at hl 0 rfl)) ?_
  refine gV.lift (fun _ _ _ _ => lv_bipush (v := 6) hx hb d_PT_init_32 (by decide)) ?_
  replace hden := gb hden
  obtain ⟨S7, hv, hden⟩ := hden
  refine r_anew X hZ (t := 4) rfl q_28 (by decide) hv d_PT_init_34 ?_
  replace hden := gb hden
  obtain ⟨S8, hv, hden⟩ := hden
  refine r_putF X cl_PT (k := 4) hv (by decide) q_102 rfl hin rfl g_narA g_fitA d_PT_init_37 ?_
  refine gV.lift (fun _ _ _ _ => g_aload_n hx hb d_PT_init_40 rfl (lv_at hl 0 rfl)) ?_
  refine gV.lift (fun _ _ _ _ => lv_iconst (v := 0) hx hb d_PT_init_41 (by decide)) ?_
  replace hden := gb hden
  obtain ⟨S9, hv, hden⟩ := hden
  refine r_put X cl_PT (k := 5) hv (by decide) q_103 rfl rfl rfl d_PT_init_42 ?_
  refine gV.lift (fun _ _ _ _ => g_aload_n hx hb d_PT_init_45 rfl (lv_at hl 0 rfl)) ?_
  replace hden := gb hden
  obtain ⟨S10, hv, hden⟩ := hden
  refine r_new X cl_Ed rfl hv (fun j hj => bl_Ed j hj) q_28 q_30 q_2 d_PT_init_46 ?_
  refine gV.lift (fun _ _ _ _ => lv_dup hx hb d_PT_init_49 g_cat) ?_
  refine gV.lift (fun _ _ _ _ => lv_iconst (v := (-1)) hx hb d_PT_init_50 (by decide)) ?_
  replace hden := gb hden
  obtain ⟨S11, hz, hden⟩ := hden
  refine g_callI (As := [.int (-1)]) (rest := [va_rf (some S9.2.1), va_rf (some h0)]) X hZ (c_Ed_init hz) q_33 q_2 q_31 q_32 rfl ⟨by decide, by decide, by show _ = some 1; decide +kernel⟩ ⟨by decide, by decide⟩ hl.1 (Nat.le_of_ble_eq_true rfl) d_PT_init_51 rfl ?_
  replace hden := gb hden
  obtain ⟨S12, hv, hden⟩ := hden
  refine r_putF X cl_PT (k := 6) hv (by decide) q_104 rfl hin rfl g_nar g_fit d_PT_init_54 ?_
  refine gV.lift (fun _ _ _ _ => g_aload_n hx hb d_PT_init_57 rfl (lv_at hl 0 rfl)) ?_
  refine gV.lift (fun _ _ _ _ => g_aload_n hx hb d_PT_init_58 rfl (lv_at hl 0 rfl)) ?_
  replace hden := gb hden
  obtain ⟨r13, hv, hden⟩ := hden
  refine r_getR X cl_PT (k := 6) hv (by decide) q_104 d_PT_init_59 ?_
  replace hden := gb hden
  obtain ⟨S14, hv, hden⟩ := hden
  refine r_put X cl_PT (k := 7) hv (by decide) q_105 rfl g_nar g_fit d_PT_init_62 ?_
  refine gV.lift (fun _ _ _ _ => g_aload_n hx hb d_PT_init_65 rfl (lv_at hl 0 rfl)) ?_
  replace hden := gb hden
  obtain ⟨S15, hv, hden⟩ := hden
  refine r_new X cl_NL rfl hv (fun j hj => bl_NL j hj) q_69 q_70 q_3 d_PT_init_66 ?_
  refine gV.lift (fun _ _ _ _ => lv_dup hx hb d_PT_init_69 g_cat) ?_
  replace hden := gb hden
  obtain ⟨S16, hz, hden⟩ := hden
  refine g_callIN (As := []) (rest := [va_rf (some S14.2.1), va_rf (some h0)]) X hZ (c_NL_init hz) q_73 q_3 (host := "PlanText") (by decide +kernel) q_72 rfl ⟨by decide, by decide, by show _ = some 0; decide +kernel⟩ ⟨by decide, by decide⟩ hl.1 (Nat.le_of_ble_eq_true rfl) d_PT_init_70 rfl ?_
  replace hden := gb hden
  obtain ⟨S17, hv, hden⟩ := hden
  refine r_putF X cl_PT (k := 8) hv (by decide) q_106 rfl hin rfl g_nar g_fit d_PT_init_73 ?_
  refine gV.lift (fun _ _ _ _ => g_aload_n hx hb d_PT_init_76 rfl (lv_at hl 0 rfl)) ?_
  refine gV.lift (fun _ _ _ _ => g_aload_n hx hb d_PT_init_77 rfl (lv_at hl 0 rfl)) ?_
  replace hden := gb hden
  obtain ⟨r18, hv, hden⟩ := hden
  refine r_getR X cl_PT (k := 8) hv (by decide) q_106 d_PT_init_78 ?_
  replace hden := gb hden
  obtain ⟨S19, hv, hden⟩ := hden
  refine r_put X cl_PT (k := 9) hv (by decide) q_107 rfl g_nar g_fit d_PT_init_81 ?_
  refine gV.lift (fun _ _ _ _ => g_aload_n hx hb d_PT_init_84 rfl (lv_at hl 0 rfl)) ?_
  replace hden := gb hden
  obtain ⟨S20, hv, hden⟩ := hden
  refine r_new X cl_Pr rfl hv (fun j hj => bl_Pr j hj) q_84 q_85 q_4 d_PT_init_85 ?_
  refine gV.lift (fun _ _ _ _ => lv_dup hx hb d_PT_init_88 g_cat) ?_
  replace hden := gb hden
  obtain ⟨S21, hz, hden⟩ := hden
  refine g_callIN (As := []) (rest := [va_rf (some S19.2.1), va_rf (some h0)]) X hZ (c_Pr_init hz) q_88 q_4 (host := "PlanText") (by decide +kernel) q_87 rfl ⟨by decide, by decide, by show _ = some 0; decide +kernel⟩ ⟨by decide, by decide⟩ hl.1 (Nat.le_of_ble_eq_true rfl) d_PT_init_89 rfl ?_
  replace hden := gb hden
  obtain ⟨S22, hv, hden⟩ := hden
  refine r_putF X cl_PT (k := 10) hv (by decide) q_108 rfl hin rfl g_nar g_fit d_PT_init_92 ?_
  obtain rfl := gsi hden
  exact g_vret X hr d_PT_init_95
/-! PlanText.sign(JI)I -/
abbrev y_PT_sign : MethodName := ⟨"PlanText", "sign", "(JI)I"⟩
theorem d_PT_sign_0 : decode prog_1_method_2_code 0 = .ok (.iload_n 3, 1) := by decide +kernel
theorem d_PT_sign_1 : decode prog_1_method_2_code 1 = .ok (.iconst 1, 1) := by decide +kernel
theorem d_PT_sign_2 : decode prog_1_method_2_code 2 = .ok (.if_icmp .lt 9, 3) := by decide +kernel
theorem d_PT_sign_5 : decode prog_1_method_2_code 5 = .ok (.iload_n 3, 1) := by decide +kernel
theorem d_PT_sign_6 : decode prog_1_method_2_code 6 = .ok (.bipush 8, 2) := by decide +kernel
theorem d_PT_sign_8 : decode prog_1_method_2_code 8 = .ok (.if_icmp .le 13, 3) := by decide +kernel
theorem d_PT_sign_11 : decode prog_1_method_2_code 11 = .ok (.new 60, 3) := by decide +kernel
theorem d_PT_sign_14 : decode prog_1_method_2_code 14 = .ok (.dup, 1) := by decide +kernel
theorem d_PT_sign_15 : decode prog_1_method_2_code 15 = .ok (.ldc 62, 2) := by decide +kernel
theorem d_PT_sign_17 : decode prog_1_method_2_code 17 = .ok (.invokespecial 64, 3) := by decide +kernel
theorem d_PT_sign_20 : decode prog_1_method_2_code 20 = .ok (.athrow, 1) := by decide +kernel
theorem d_PT_sign_21 : decode prog_1_method_2_code 21 = .ok (.aload_n 0, 1) := by decide +kernel
theorem d_PT_sign_22 : decode prog_1_method_2_code 22 = .ok (.getfield 13, 3) := by decide +kernel
theorem d_PT_sign_25 : decode prog_1_method_2_code 25 = .ok (.iload_n 3, 1) := by decide +kernel
theorem d_PT_sign_26 : decode prog_1_method_2_code 26 = .ok (.iadd, 1) := by decide +kernel
theorem d_PT_sign_27 : decode prog_1_method_2_code 27 = .ok (.sipush 400, 3) := by decide +kernel
theorem d_PT_sign_30 : decode prog_1_method_2_code 30 = .ok (.if_icmp .le 13, 3) := by decide +kernel
theorem d_PT_sign_33 : decode prog_1_method_2_code 33 = .ok (.new 67, 3) := by decide +kernel
theorem d_PT_sign_36 : decode prog_1_method_2_code 36 = .ok (.dup, 1) := by decide +kernel
theorem d_PT_sign_37 : decode prog_1_method_2_code 37 = .ok (.ldc 69, 2) := by decide +kernel
theorem d_PT_sign_39 : decode prog_1_method_2_code 39 = .ok (.invokespecial 71, 3) := by decide +kernel
theorem d_PT_sign_42 : decode prog_1_method_2_code 42 = .ok (.athrow, 1) := by decide +kernel
theorem d_PT_sign_43 : decode prog_1_method_2_code 43 = .ok (.iload_n 3, 1) := by decide +kernel
theorem d_PT_sign_44 : decode prog_1_method_2_code 44 = .ok (.iconst 1, 1) := by decide +kernel
theorem d_PT_sign_45 : decode prog_1_method_2_code 45 = .ok (.isub, 1) := by decide +kernel
theorem d_PT_sign_46 : decode prog_1_method_2_code 46 = .ok (.istore 4, 2) := by decide +kernel
theorem d_PT_sign_48 : decode prog_1_method_2_code 48 = .ok (.iload 4, 2) := by decide +kernel
theorem d_PT_sign_50 : decode prog_1_method_2_code 50 = .ok (.ifCond .lt 37, 3) := by decide +kernel
theorem d_PT_sign_53 : decode prog_1_method_2_code 53 = .ok (.aload_n 0, 1) := by decide +kernel
theorem d_PT_sign_54 : decode prog_1_method_2_code 54 = .ok (.getfield 9, 3) := by decide +kernel
theorem d_PT_sign_57 : decode prog_1_method_2_code 57 = .ok (.aload_n 0, 1) := by decide +kernel
theorem d_PT_sign_58 : decode prog_1_method_2_code 58 = .ok (.getfield 13, 3) := by decide +kernel
theorem d_PT_sign_61 : decode prog_1_method_2_code 61 = .ok (.lload_n 1, 1) := by decide +kernel
theorem d_PT_sign_62 : decode prog_1_method_2_code 62 = .ok (.bipush 8, 2) := by decide +kernel
theorem d_PT_sign_64 : decode prog_1_method_2_code 64 = .ok (.iload 4, 2) := by decide +kernel
theorem d_PT_sign_66 : decode prog_1_method_2_code 66 = .ok (.imul, 1) := by decide +kernel
theorem d_PT_sign_67 : decode prog_1_method_2_code 67 = .ok (.lushr, 1) := by decide +kernel
theorem d_PT_sign_68 : decode prog_1_method_2_code 68 = .ok (.l2i, 1) := by decide +kernel
theorem d_PT_sign_69 : decode prog_1_method_2_code 69 = .ok (.i2b, 1) := by decide +kernel
theorem d_PT_sign_70 : decode prog_1_method_2_code 70 = .ok (.bastore, 1) := by decide +kernel
theorem d_PT_sign_71 : decode prog_1_method_2_code 71 = .ok (.aload_n 0, 1) := by decide +kernel
theorem d_PT_sign_72 : decode prog_1_method_2_code 72 = .ok (.dup, 1) := by decide +kernel
theorem d_PT_sign_73 : decode prog_1_method_2_code 73 = .ok (.getfield 13, 3) := by decide +kernel
theorem d_PT_sign_76 : decode prog_1_method_2_code 76 = .ok (.iconst 1, 1) := by decide +kernel
theorem d_PT_sign_77 : decode prog_1_method_2_code 77 = .ok (.iadd, 1) := by decide +kernel
theorem d_PT_sign_78 : decode prog_1_method_2_code 78 = .ok (.putfield 13, 3) := by decide +kernel
theorem d_PT_sign_81 : decode prog_1_method_2_code 81 = .ok (.iinc 4 (-1), 3) := by decide +kernel
theorem d_PT_sign_84 : decode prog_1_method_2_code 84 = .ok (.goto (-36), 3) := by decide +kernel
theorem d_PT_sign_87 : decode prog_1_method_2_code 87 = .ok (.aload_n 0, 1) := by decide +kernel
theorem d_PT_sign_88 : decode prog_1_method_2_code 88 = .ok (.getfield 13, 3) := by decide +kernel
theorem d_PT_sign_91 : decode prog_1_method_2_code 91 = .ok (.ireturn, 1) := by decide +kernel
def B_PT_sign_48 (k48 : Nat → Int64 → Int32 → gS → Option ((String ⊕ Int32) × gS)) (x0 : Nat) (x1 : Int64) (x4 : Int32) (S : gS) : Option ((String ⊕ Int32) × gS) := (if x4 < 0 then Option.bind (gI S x0 0 1) (fun v2 => some (.inr v2, S)) else Option.bind (gRf S x0 0 0) (fun r3 => Option.bind (gI S x0 0 1) (fun v4 => Option.bind r3 (fun a5 => Option.bind (gSI S a5 2 v4 (((((x1.toUInt64 >>> ((8 * x4).toInt64.toUInt64 &&& Int64.toUInt64 63)).toInt64).toInt32).toInt8.toInt32).toInt8.toInt32)) (fun S6 => Option.bind (gI S6 x0 0 1) (fun v7 => Option.bind (gPut S6 x0 0 1 (.int (v7 + 1))) (fun S8 => k48 x0 x1 (x4 + (-1)) S8)))))))
set_option maxRecDepth 100000 in
set_option maxHeartbeats 4000000 in
theorem w_PT_sign_48 {D : va_G} {cT : Nat → ClassId} {H0 : Heap} {l : Launch} {p : Program} {e : Env} {s : State} {m : MethodId} {args : Array Value} {below : List Frame} {meth : Method} {c : Code} {S0 : gS} {S' : gS} {r : String ⊕ Int32} (hst : l.stackTraces = false) (Y : gY D cT H0 p s m args meth c prog_1_method_2_code 5 "PlanText" 6 90 S0 (Option.some Jvm.ClassFile.FieldType.int)) {k48 : Nat → Int64 → Int32 → gS → Option ((String ⊕ Int32) × gS)} (hk48 : ∀ (x0 : Nat) (x1 : Int64) (x4 : Int32) (S : gS) (ls : Array Slot), k48 x0 x1 x4 S = some (r, S') → lv_has ls 5 [(0, va_rf (some x0)), (1, .long x1), (4, .int x4)] → gV D cT H0 p l e (gRm 6 90 S0) s m args below meth c (gQ D cT H0 below S0 S' (gRi r) s) S0 S (F0 m 48 ls [])) (x0 : Nat) (x1 : Int64) (x4 : Int32) (S : gS) (hden : B_PT_sign_48 k48 x0 x1 x4 S = some (r, S')) {ls : Array Slot} (hl : lv_has ls 5 [(0, va_rf (some x0)), (1, .long x1), (4, .int x4)]) : gV D cT H0 p l e (gRm 6 90 S0) s m args below meth c (gQ D cT H0 below S0 S' (gRi r) s) S0 S (F0 m 48 ls []) := by
  obtain ⟨X, hZ, hex, hr, hE⟩ := id Y
  have hx := X.1
  have hb := X.2.1
  unfold B_PT_sign_48 at hden
  refine gV.lift (fun _ _ _ _ => lv_iload hx hb d_PT_sign_48 (lv_at hl 2 rfl)) ?_
  refine gV.lift2 (fun _ _ _ _ => lv_if_lt (tgt := 87) hx hb d_PT_sign_50 (by decide)) (fun hc1 => ?_) (fun hc1 => ?_)
  · replace hden := gip hc1 hden
    refine gV.lift (fun _ _ _ _ => g_aload_n hx hb d_PT_sign_87 rfl (lv_at hl 0 rfl)) ?_
    replace hden := gb hden
    obtain ⟨v2, hv, hden⟩ := hden
    refine r_getI X cl_PT (k := 1) hv (by decide) q_99 d_PT_sign_88 ?_
    obtain ⟨rfl, rfl⟩ := gpi hden
    exact g_iret X hr d_PT_sign_91
  · replace hden := gin hc1 hden
    refine gV.lift (fun _ _ _ _ => g_aload_n hx hb d_PT_sign_53 rfl (lv_at hl 0 rfl)) ?_
    replace hden := gb hden
    obtain ⟨r3, hv, hden⟩ := hden
    refine r_getR X cl_PT (k := 0) hv (by decide) q_98 d_PT_sign_54 ?_
    refine gV.lift (fun _ _ _ _ => g_aload_n hx hb d_PT_sign_57 rfl (lv_at hl 0 rfl)) ?_
    replace hden := gb hden
    obtain ⟨v4, hv, hden⟩ := hden
    refine r_getI X cl_PT (k := 1) hv (by decide) q_99 d_PT_sign_58 ?_
    refine gV.lift (fun _ _ _ _ => lv_lload_n hx hb d_PT_sign_61 rfl (lv_at hl 1 rfl)) ?_
    refine gV.lift (fun _ _ _ _ => lv_bipush (v := 8) hx hb d_PT_sign_62 (by decide)) ?_
    refine gV.lift (fun _ _ _ _ => lv_iload hx hb d_PT_sign_64 (lv_at hl 2 rfl)) ?_
    refine gV.lift (fun _ _ _ _ => lv_imul hx hb d_PT_sign_66) ?_
    refine gV.lift (fun _ _ _ _ => lv_lushr (v := (x1.toUInt64 >>> ((8 * x4).toInt64.toUInt64 &&& Int64.toUInt64 63)).toInt64) hx hb d_PT_sign_67 rfl) ?_
    refine gV.lift (fun _ _ _ _ => lv_l2i (v := ((x1.toUInt64 >>> ((8 * x4).toInt64.toUInt64 &&& Int64.toUInt64 63)).toInt64).toInt32) hx hb d_PT_sign_68 rfl) ?_
    refine gV.lift (fun _ _ _ _ => lv_i2b (v := (((x1.toUInt64 >>> ((8 * x4).toInt64.toUInt64 &&& Int64.toUInt64 63)).toInt64).toInt32).toInt8.toInt32) hx hb d_PT_sign_69 rfl) ?_
    replace hden := gb hden
    obtain ⟨a5, rfl, hden⟩ := hden
    replace hden := gb hden
    obtain ⟨S6, hv, hden⟩ := hden
    refine r_bast X (t := 2) rfl hv d_PT_sign_70 ?_
    refine gV.lift (fun _ _ _ _ => g_aload_n hx hb d_PT_sign_71 rfl (lv_at hl 0 rfl)) ?_
    refine gV.lift (fun _ _ _ _ => lv_dup hx hb d_PT_sign_72 g_cat) ?_
    replace hden := gb hden
    obtain ⟨v7, hv, hden⟩ := hden
    refine r_getI X cl_PT (k := 1) hv (by decide) q_99 d_PT_sign_73 ?_
    refine gV.lift (fun _ _ _ _ => lv_iconst (v := 1) hx hb d_PT_sign_76 (by decide)) ?_
    refine gV.lift (fun _ _ _ _ => lv_iadd hx hb d_PT_sign_77) ?_
    replace hden := gb hden
    obtain ⟨S8, hv, hden⟩ := hden
    refine r_put X cl_PT (k := 1) hv (by decide) q_99 rfl rfl rfl d_PT_sign_78 ?_
    refine gV.liftS (nL := 5) (lv' := [(4, .int (x4 + (-1))), (0, va_rf (some x0)), (1, .long x1)]) (fun _ _ _ _ => lv_iinc (v := (x4 + (-1))) hx hb d_PT_sign_81 hl (k := 2) rfl rfl (by decide) rfl) (fun ls hl => ?_)
    refine gV.lift (fun _ _ _ _ => lv_goto (tgt := 48) hx hb d_PT_sign_84 (by decide)) ?_
    exact hk48 x0 x1 (x4 + (-1)) S8 _ hden (lv_sub hl [1, 2, 0] rfl)
def L_PT_sign_48  : Nat → Nat → Int64 → Int32 → gS → Option ((String ⊕ Int32) × gS)
  | 0 => fun _ _ _ _ => none
  | n + 1 => fun x0 x1 x4 S => B_PT_sign_48  (L_PT_sign_48  n) x0 x1 x4 S
theorem wL_PT_sign_48 {D : va_G} {cT : Nat → ClassId} {H0 : Heap} {l : Launch} {p : Program} {e : Env} {s : State} {m : MethodId} {args : Array Value} {below : List Frame} {meth : Method} {c : Code} {S0 : gS} {S' : gS} {r : String ⊕ Int32} (hst : l.stackTraces = false) (Y : gY D cT H0 p s m args meth c prog_1_method_2_code 5 "PlanText" 6 90 S0 (Option.some Jvm.ClassFile.FieldType.int))  : ∀ (n : Nat) (x0 : Nat) (x1 : Int64) (x4 : Int32) (S : gS) (ls : Array Slot), L_PT_sign_48  n x0 x1 x4 S = some (r, S') → lv_has ls 5 [(0, va_rf (some x0)), (1, .long x1), (4, .int x4)] → gV D cT H0 p l e (gRm 6 90 S0) s m args below meth c (gQ D cT H0 below S0 S' (gRi r) s) S0 S (F0 m 48 ls []) := by
  intro n
  induction n with
  | zero => intro x0 x1 x4 S ls h hl; cases h
  | succ n ih => intro x0 x1 x4 S ls h hl; exact w_PT_sign_48 hst Y ih x0 x1 x4 S h hl
def B_PT_sign_11   (S : gS) : Option ((String ⊕ Int32) × gS) := Option.bind (gThr S) (fun S1 => some (.inl "java/lang/IndexOutOfBoundsException", S1))
set_option maxRecDepth 100000 in
set_option maxHeartbeats 4000000 in
theorem w_PT_sign_11 {D : va_G} {cT : Nat → ClassId} {H0 : Heap} {l : Launch} {p : Program} {e : Env} {s : State} {m : MethodId} {args : Array Value} {below : List Frame} {meth : Method} {c : Code} {S0 : gS} {S' : gS} {r : String ⊕ Int32} (hst : l.stackTraces = false) (Y : gY D cT H0 p s m args meth c prog_1_method_2_code 5 "PlanText" 6 90 S0 (Option.some Jvm.ClassFile.FieldType.int))   (S : gS) (hden : B_PT_sign_11   S = some (r, S')) {ls : Array Slot} (hl : lv_has ls 5 []) : gV D cT H0 p l e (gRm 6 90 S0) s m args below meth c (gQ D cT H0 below S0 S' (gRi r) s) S0 S (F0 m 11 ls []) := by
  obtain ⟨X, hZ, hex, hr, hE⟩ := id Y
  have hx := X.1
  have hb := X.2.1
  unfold B_PT_sign_11 at hden
  replace hden := gb hden
  obtain ⟨S1, ht, hden⟩ := hden
  obtain ⟨hroom, rfl⟩ := gThr_spec ht
  obtain ⟨rfl, rfl⟩ := gpi hden
  exact g_throw (text := "1 to 8 bytes at once") X hZ hex hE hst (by decide +kernel) q_145 q_9 (by decide) at_IndexOutOfBoundsException_64 ot_IndexOutOfBoundsException_64 hl.1 d_PT_sign_11 d_PT_sign_14 d_PT_sign_15 d_PT_sign_17 d_PT_sign_20 ⟨by decide, Nat.le_of_ble_eq_true rfl⟩ hroom
def D_PT_sign (h0 : Nat) (p0 : Int64) (p1 : Int32) (S : gS) : Option ((String ⊕ Int32) × gS) := (if p1 < 1 then B_PT_sign_11  S else (if p1 ≤ 8 then Option.bind (gI S h0 0 1) (fun v3 => (if (v3 + p1) ≤ 400 then L_PT_sign_48  gF h0 p0 (p1 - 1) S else Option.bind (gThr S) (fun S5 => some (.inl "java/lang/UnsupportedOperationException", S5)))) else B_PT_sign_11  S))
set_option maxRecDepth 100000 in
set_option maxHeartbeats 4000000 in
theorem c_PT_sign {D : va_G} {cT : Nat → ClassId} {H0 : Heap} {l : Launch} {S : gS} {S' : gS} {h0 : Nat} {p0 : Int64} {p1 : Int32} {r : String ⊕ Int32} (hst : l.stackTraces = false) (hden : D_PT_sign h0 p0 p1 S = some (r, S')) : gM D cT H0 l y_PT_sign (Cond.code y_PT_sign prog_1_method_2_code 5 (Option.some Jvm.ClassFile.FieldType.int)) 6 90 [va_rf (some h0), .long p0, .int p1] S S' (gRi r) := by
  refine gM.ofV (by decide) ?_
  intro p e s m args below meth c s₁ B hml ea X hZ hex hr hE
  subst ea
  have Y : gY D cT H0 p s m _ meth c prog_1_method_2_code 5 "PlanText" 6 90 S (Option.some Jvm.ClassFile.FieldType.int) := ⟨X, hZ, hex, hr, hE⟩
  have hx := X.1
  have hb := X.2.1
  have hl := lv_entry ([va_rf (some h0), .long p0, .int p1]) (n := 5) (Nat.le_of_ble_eq_true rfl)
  rw [lg_entry_eq]
  generalize (lg_sl ([va_rf (some h0), .long p0, .int p1]) ++ List.replicate (5 - (lg_sl ([va_rf (some h0), .long p0, .int p1])).length) Slot.unset).toArray = ls at hl ⊢
  have hl : lv_has ls 5 [(0, va_rf (some h0)), (1, .long p0), (3, .int p1)] := hl
  unfold D_PT_sign at hden
  refine gV.lift (fun _ _ _ _ => lv_iload_n hx hb d_PT_sign_0 rfl (lv_at hl 2 rfl)) ?_
  refine gV.lift (fun _ _ _ _ => lv_iconst (v := 1) hx hb d_PT_sign_1 (by decide)) ?_
  refine gV.lift2 (fun _ _ _ _ => lv_icmp_lt (tgt := 11) hx hb d_PT_sign_2 (by decide)) (fun hc1 => ?_) (fun hc1 => ?_)
  · replace hden := gip hc1 hden
    exact w_PT_sign_11 hst Y  S hden (lv_sub hl [] rfl)
  · replace hden := gin hc1 hden
    refine gV.lift (fun _ _ _ _ => lv_iload_n hx hb d_PT_sign_5 rfl (lv_at hl 2 rfl)) ?_
    refine gV.lift (fun _ _ _ _ => lv_bipush (v := 8) hx hb d_PT_sign_6 (by decide)) ?_
    refine gV.lift2 (fun _ _ _ _ => lv_icmp_le (tgt := 21) hx hb d_PT_sign_8 (by decide)) (fun hc2 => ?_) (fun hc2 => ?_)
    · replace hden := gip hc2 hden
      refine gV.lift (fun _ _ _ _ => g_aload_n hx hb d_PT_sign_21 rfl (lv_at hl 0 rfl)) ?_
      replace hden := gb hden
      obtain ⟨v3, hv, hden⟩ := hden
      refine r_getI X cl_PT (k := 1) hv (by decide) q_99 d_PT_sign_22 ?_
      refine gV.lift (fun _ _ _ _ => lv_iload_n hx hb d_PT_sign_25 rfl (lv_at hl 2 rfl)) ?_
      refine gV.lift (fun _ _ _ _ => lv_iadd hx hb d_PT_sign_26) ?_
      refine gV.lift (fun _ _ _ _ => lv_sipush (v := 400) hx hb d_PT_sign_27 (by decide)) ?_
      refine gV.lift2 (fun _ _ _ _ => lv_icmp_le (tgt := 43) hx hb d_PT_sign_30 (by decide)) (fun hc4 => ?_) (fun hc4 => ?_)
      · replace hden := gip hc4 hden
        refine gV.lift (fun _ _ _ _ => lv_iload_n hx hb d_PT_sign_43 rfl (lv_at hl 2 rfl)) ?_
        refine gV.lift (fun _ _ _ _ => lv_iconst (v := 1) hx hb d_PT_sign_44 (by decide)) ?_
        refine gV.lift (fun _ _ _ _ => lv_isub hx hb d_PT_sign_45) ?_
        refine gV.liftS (nL := 5) (lv' := [(4, .int (p1 - 1)), (0, va_rf (some h0)), (1, .long p0), (3, .int p1)]) (fun _ _ _ _ => lv_istore hx hb d_PT_sign_46 hl (by decide) rfl) (fun ls hl => ?_)
        exact wL_PT_sign_48 hst Y  gF h0 p0 (p1 - 1) S _ hden (lv_sub hl [1, 2, 0] rfl)
      · replace hden := gin hc4 hden
        replace hden := gb hden
        obtain ⟨S5, ht, hden⟩ := hden
        obtain ⟨hroom, rfl⟩ := gThr_spec ht
        obtain ⟨rfl, rfl⟩ := gpi hden
        exact g_throw (text := "the tape has 400 bytes at most") X hZ hex hE hst (by decide +kernel) q_213 q_10 (by decide) at_UnsupportedOperationException_71 ot_UnsupportedOperationException_71 hl.1 d_PT_sign_33 d_PT_sign_36 d_PT_sign_37 d_PT_sign_39 d_PT_sign_42 ⟨by decide, Nat.le_of_ble_eq_true rfl⟩ hroom
    · replace hden := gin hc2 hden
      exact w_PT_sign_11 hst Y  S hden (lv_sub hl [] rfl)
/-! PlanText.requireWithin(III)V -/
abbrev y_PT_requireWithin : MethodName := ⟨"PlanText", "requireWithin", "(III)V"⟩
theorem d_PT_requireWithin_0 : decode prog_1_method_20_code 0 = .ok (.iload_n 0, 1) := by decide +kernel
theorem d_PT_requireWithin_1 : decode prog_1_method_20_code 1 = .ok (.iload_n 1, 1) := by decide +kernel
theorem d_PT_requireWithin_2 : decode prog_1_method_20_code 2 = .ok (.if_icmp .lt 8, 3) := by decide +kernel
theorem d_PT_requireWithin_5 : decode prog_1_method_20_code 5 = .ok (.iload_n 0, 1) := by decide +kernel
theorem d_PT_requireWithin_6 : decode prog_1_method_20_code 6 = .ok (.iload_n 2, 1) := by decide +kernel
theorem d_PT_requireWithin_7 : decode prog_1_method_20_code 7 = .ok (.if_icmp .le 13, 3) := by decide +kernel
theorem d_PT_requireWithin_10 : decode prog_1_method_20_code 10 = .ok (.new 60, 3) := by decide +kernel
theorem d_PT_requireWithin_13 : decode prog_1_method_20_code 13 = .ok (.dup, 1) := by decide +kernel
theorem d_PT_requireWithin_14 : decode prog_1_method_20_code 14 = .ok (.ldc 198, 2) := by decide +kernel
theorem d_PT_requireWithin_16 : decode prog_1_method_20_code 16 = .ok (.invokespecial 64, 3) := by decide +kernel
theorem d_PT_requireWithin_19 : decode prog_1_method_20_code 19 = .ok (.athrow, 1) := by decide +kernel
theorem d_PT_requireWithin_20 : decode prog_1_method_20_code 20 = .ok (.return_, 1) := by decide +kernel
def B_PT_requireWithin_10   (S : gS) : Option ((String ⊕ Unit) × gS) := Option.bind (gThr S) (fun S1 => some (.inl "java/lang/IndexOutOfBoundsException", S1))
set_option maxRecDepth 100000 in
set_option maxHeartbeats 4000000 in
theorem w_PT_requireWithin_10 {D : va_G} {cT : Nat → ClassId} {H0 : Heap} {l : Launch} {p : Program} {e : Env} {s : State} {m : MethodId} {args : Array Value} {below : List Frame} {meth : Method} {c : Code} {S0 : gS} {S' : gS} {r : String ⊕ Unit} (hst : l.stackTraces = false) (Y : gY D cT H0 p s m args meth c prog_1_method_20_code 3 "PlanText" 6 90 S0 (Option.none : Option Jvm.ClassFile.FieldType))   (S : gS) (hden : B_PT_requireWithin_10   S = some (r, S')) {ls : Array Slot} (hl : lv_has ls 3 []) : gV D cT H0 p l e (gRm 6 90 S0) s m args below meth c (gQ D cT H0 below S0 S' (gRv r) s) S0 S (F0 m 10 ls []) := by
  obtain ⟨X, hZ, hex, hr, hE⟩ := id Y
  have hx := X.1
  have hb := X.2.1
  unfold B_PT_requireWithin_10 at hden
  replace hden := gb hden
  obtain ⟨S1, ht, hden⟩ := hden
  obtain ⟨hroom, rfl⟩ := gThr_spec ht
  obtain ⟨rfl, rfl⟩ := gpi hden
  exact g_throw (text := "a number outside its range") X hZ hex hE hst (by decide +kernel) q_145 q_9 (by decide) at_IndexOutOfBoundsException_64 ot_IndexOutOfBoundsException_64 hl.1 d_PT_requireWithin_10 d_PT_requireWithin_13 d_PT_requireWithin_14 d_PT_requireWithin_16 d_PT_requireWithin_19 ⟨by decide, Nat.le_of_ble_eq_true rfl⟩ hroom
def D_PT_requireWithin (p0 : Int32) (p1 : Int32) (p2 : Int32) (S : gS) : Option ((String ⊕ Unit) × gS) := (if p0 < p1 then B_PT_requireWithin_10  S else (if p0 ≤ p2 then some (.inr (), S) else B_PT_requireWithin_10  S))
set_option maxRecDepth 100000 in
set_option maxHeartbeats 4000000 in
theorem c_PT_requireWithin {D : va_G} {cT : Nat → ClassId} {H0 : Heap} {l : Launch} {S : gS} {S' : gS} {p0 : Int32} {p1 : Int32} {p2 : Int32} {r : String ⊕ Unit} (hst : l.stackTraces = false) (hden : D_PT_requireWithin p0 p1 p2 S = some (r, S')) : gM D cT H0 l y_PT_requireWithin (Cond.code y_PT_requireWithin prog_1_method_20_code 3 (Option.none : Option Jvm.ClassFile.FieldType)) 6 90 [.int p0, .int p1, .int p2] S S' (gRv r) := by
  refine gM.ofV (by decide) ?_
  intro p e s m args below meth c s₁ B hml ea X hZ hex hr hE
  subst ea
  have Y : gY D cT H0 p s m _ meth c prog_1_method_20_code 3 "PlanText" 6 90 S (Option.none : Option Jvm.ClassFile.FieldType) := ⟨X, hZ, hex, hr, hE⟩
  have hx := X.1
  have hb := X.2.1
  have hl := lv_entry ([.int p0, .int p1, .int p2]) (n := 3) (Nat.le_of_ble_eq_true rfl)
  rw [lg_entry_eq]
  generalize (lg_sl ([.int p0, .int p1, .int p2]) ++ List.replicate (3 - (lg_sl ([.int p0, .int p1, .int p2])).length) Slot.unset).toArray = ls at hl ⊢
  have hl : lv_has ls 3 [(0, .int p0), (1, .int p1), (2, .int p2)] := hl
  unfold D_PT_requireWithin at hden
  refine gV.lift (fun _ _ _ _ => lv_iload_n hx hb d_PT_requireWithin_0 rfl (lv_at hl 0 rfl)) ?_
  refine gV.lift (fun _ _ _ _ => lv_iload_n hx hb d_PT_requireWithin_1 rfl (lv_at hl 1 rfl)) ?_
  refine gV.lift2 (fun _ _ _ _ => lv_icmp_lt (tgt := 10) hx hb d_PT_requireWithin_2 (by decide)) (fun hc1 => ?_) (fun hc1 => ?_)
  · replace hden := gip hc1 hden
    exact w_PT_requireWithin_10 hst Y  S hden (lv_sub hl [] rfl)
  · replace hden := gin hc1 hden
    refine gV.lift (fun _ _ _ _ => lv_iload_n hx hb d_PT_requireWithin_5 rfl (lv_at hl 0 rfl)) ?_
    refine gV.lift (fun _ _ _ _ => lv_iload_n hx hb d_PT_requireWithin_6 rfl (lv_at hl 2 rfl)) ?_
    refine gV.lift2 (fun _ _ _ _ => lv_icmp_le (tgt := 20) hx hb d_PT_requireWithin_7 (by decide)) (fun hc2 => ?_) (fun hc2 => ?_)
    · replace hden := gip hc2 hden
      obtain ⟨rfl, rfl⟩ := gpi hden
      exact g_vret X hr d_PT_requireWithin_20
    · replace hden := gin hc2 hden
      exact w_PT_requireWithin_10 hst Y  S hden (lv_sub hl [] rfl)
/-! PlanText.requireDay(I)V -/
abbrev y_PT_requireDay : MethodName := ⟨"PlanText", "requireDay", "(I)V"⟩
theorem d_PT_requireDay_0 : decode prog_1_method_18_code 0 = .ok (.iload_n 0, 1) := by decide +kernel
theorem d_PT_requireDay_1 : decode prog_1_method_18_code 1 = .ok (.iconst 0, 1) := by decide +kernel
theorem d_PT_requireDay_2 : decode prog_1_method_18_code 2 = .ok (.sipush 9999, 3) := by decide +kernel
theorem d_PT_requireDay_5 : decode prog_1_method_18_code 5 = .ok (.invokestatic 100, 3) := by decide +kernel
theorem d_PT_requireDay_8 : decode prog_1_method_18_code 8 = .ok (.return_, 1) := by decide +kernel
def D_PT_requireDay (p0 : Int32) (S : gS) : Option ((String ⊕ Unit) × gS) := gTry (D_PT_requireWithin p0 0 9999 S) (fun v2 S3 => some (.inr (), S3))
set_option maxRecDepth 100000 in
set_option maxHeartbeats 4000000 in
theorem c_PT_requireDay {D : va_G} {cT : Nat → ClassId} {H0 : Heap} {l : Launch} {S : gS} {S' : gS} {p0 : Int32} {r : String ⊕ Unit} (hst : l.stackTraces = false) (hden : D_PT_requireDay p0 S = some (r, S')) : gM D cT H0 l y_PT_requireDay (Cond.code y_PT_requireDay prog_1_method_18_code 1 (Option.none : Option Jvm.ClassFile.FieldType)) 7 112 [.int p0] S S' (gRv r) := by
  refine gM.ofV (by decide) ?_
  intro p e s m args below meth c s₁ B hml ea X hZ hex hr hE
  subst ea
  have Y : gY D cT H0 p s m _ meth c prog_1_method_18_code 1 "PlanText" 7 112 S (Option.none : Option Jvm.ClassFile.FieldType) := ⟨X, hZ, hex, hr, hE⟩
  have hx := X.1
  have hb := X.2.1
  have hl := lv_entry ([.int p0]) (n := 1) (Nat.le_of_ble_eq_true rfl)
  rw [lg_entry_eq]
  generalize (lg_sl ([.int p0]) ++ List.replicate (1 - (lg_sl ([.int p0])).length) Slot.unset).toArray = ls at hl ⊢
  have hl : lv_has ls 1 [(0, .int p0)] := hl
  unfold D_PT_requireDay at hden
  refine gV.lift (fun _ _ _ _ => lv_iload_n hx hb d_PT_requireDay_0 rfl (lv_at hl 0 rfl)) ?_
  refine gV.lift (fun _ _ _ _ => lv_iconst (v := 0) hx hb d_PT_requireDay_1 (by decide)) ?_
  refine gV.lift (fun _ _ _ _ => lv_sipush (v := 9999) hx hb d_PT_requireDay_2 (by decide)) ?_
  replace hden := gty hden
  rcases hden with ⟨E1, hz, rfl⟩ | ⟨v2, S3, hz, hden⟩
  · exact g_outS (As := [.int p0, .int 0, .int 9999]) (rest := []) X hZ hex (c_PT_requireWithin hst hz) q_242 q_1 q_240 q_241 ⟨by decide, by decide, by show _ = some 3; decide +kernel⟩ ⟨by decide, by decide⟩ hl.1 (Nat.le_of_ble_eq_true rfl) d_PT_requireDay_5 rfl
  refine g_callS (As := [.int p0, .int 0, .int 9999]) (rest := []) X hZ (c_PT_requireWithin hst hz) q_242 q_1 q_240 q_241 ⟨by decide, by decide, by show _ = some 3; decide +kernel⟩ ⟨by decide, by decide⟩ hl.1 (Nat.le_of_ble_eq_true rfl) d_PT_requireDay_5 rfl rfl ?_
  obtain ⟨rfl, rfl⟩ := gpi hden
  exact g_vret X hr d_PT_requireDay_8
/-! PlanText.read(I)I -/
abbrev y_PT_read : MethodName := ⟨"PlanText", "read", "(I)I"⟩
theorem d_PT_read_0 : decode prog_1_method_3_code 0 = .ok (.iload_n 1, 1) := by decide +kernel
theorem d_PT_read_1 : decode prog_1_method_3_code 1 = .ok (.invokestatic 72, 3) := by decide +kernel
theorem d_PT_read_4 : decode prog_1_method_3_code 4 = .ok (.new 75, 3) := by decide +kernel
theorem d_PT_read_7 : decode prog_1_method_3_code 7 = .ok (.dup, 1) := by decide +kernel
theorem d_PT_read_8 : decode prog_1_method_3_code 8 = .ok (.aload_n 0, 1) := by decide +kernel
theorem d_PT_read_9 : decode prog_1_method_3_code 9 = .ok (.getfield 9, 3) := by decide +kernel
theorem d_PT_read_12 : decode prog_1_method_3_code 12 = .ok (.aload_n 0, 1) := by decide +kernel
theorem d_PT_read_13 : decode prog_1_method_3_code 13 = .ok (.getfield 13, 3) := by decide +kernel
theorem d_PT_read_16 : decode prog_1_method_3_code 16 = .ok (.invokespecial 77, 3) := by decide +kernel
theorem d_PT_read_19 : decode prog_1_method_3_code 19 = .ok (.astore_n 2, 1) := by decide +kernel
theorem d_PT_read_20 : decode prog_1_method_3_code 20 = .ok (.aload_n 2, 1) := by decide +kernel
theorem d_PT_read_21 : decode prog_1_method_3_code 21 = .ok (.iload_n 1, 1) := by decide +kernel
theorem d_PT_read_22 : decode prog_1_method_3_code 22 = .ok (.invokevirtual 80, 3) := by decide +kernel
theorem d_PT_read_25 : decode prog_1_method_3_code 25 = .ok (.astore_n 3, 1) := by decide +kernel
theorem d_PT_read_26 : decode prog_1_method_3_code 26 = .ok (.aload_n 0, 1) := by decide +kernel
theorem d_PT_read_27 : decode prog_1_method_3_code 27 = .ok (.iconst 0, 1) := by decide +kernel
theorem d_PT_read_28 : decode prog_1_method_3_code 28 = .ok (.putfield 13, 3) := by decide +kernel
theorem d_PT_read_31 : decode prog_1_method_3_code 31 = .ok (.aload_n 0, 1) := by decide +kernel
theorem d_PT_read_32 : decode prog_1_method_3_code 32 = .ok (.aload_n 2, 1) := by decide +kernel
theorem d_PT_read_33 : decode prog_1_method_3_code 33 = .ok (.getfield 84, 3) := by decide +kernel
theorem d_PT_read_36 : decode prog_1_method_3_code 36 = .ok (.putfield 17, 3) := by decide +kernel
theorem d_PT_read_39 : decode prog_1_method_3_code 39 = .ok (.aload_n 0, 1) := by decide +kernel
theorem d_PT_read_40 : decode prog_1_method_3_code 40 = .ok (.getfield 17, 3) := by decide +kernel
theorem d_PT_read_43 : decode prog_1_method_3_code 43 = .ok (.iconst (-1), 1) := by decide +kernel
theorem d_PT_read_44 : decode prog_1_method_3_code 44 = .ok (.if_icmp .eq 13, 3) := by decide +kernel
theorem d_PT_read_47 : decode prog_1_method_3_code 47 = .ok (.new 87, 3) := by decide +kernel
theorem d_PT_read_50 : decode prog_1_method_3_code 50 = .ok (.dup, 1) := by decide +kernel
theorem d_PT_read_51 : decode prog_1_method_3_code 51 = .ok (.ldc 89, 2) := by decide +kernel
theorem d_PT_read_53 : decode prog_1_method_3_code 53 = .ok (.invokespecial 91, 3) := by decide +kernel
theorem d_PT_read_56 : decode prog_1_method_3_code 56 = .ok (.athrow, 1) := by decide +kernel
theorem d_PT_read_57 : decode prog_1_method_3_code 57 = .ok (.aload_n 0, 1) := by decide +kernel
theorem d_PT_read_58 : decode prog_1_method_3_code 58 = .ok (.getfield 30, 3) := by decide +kernel
theorem d_PT_read_61 : decode prog_1_method_3_code 61 = .ok (.bipush 6, 2) := by decide +kernel
theorem d_PT_read_63 : decode prog_1_method_3_code 63 = .ok (.if_icmp .lt 13, 3) := by decide +kernel
theorem d_PT_read_66 : decode prog_1_method_3_code 66 = .ok (.new 67, 3) := by decide +kernel
theorem d_PT_read_69 : decode prog_1_method_3_code 69 = .ok (.dup, 1) := by decide +kernel
theorem d_PT_read_70 : decode prog_1_method_3_code 70 = .ok (.ldc 92, 2) := by decide +kernel
theorem d_PT_read_72 : decode prog_1_method_3_code 72 = .ok (.invokespecial 71, 3) := by decide +kernel
theorem d_PT_read_75 : decode prog_1_method_3_code 75 = .ok (.athrow, 1) := by decide +kernel
theorem d_PT_read_76 : decode prog_1_method_3_code 76 = .ok (.aload_n 0, 1) := by decide +kernel
theorem d_PT_read_77 : decode prog_1_method_3_code 77 = .ok (.getfield 26, 3) := by decide +kernel
theorem d_PT_read_80 : decode prog_1_method_3_code 80 = .ok (.aload_n 0, 1) := by decide +kernel
theorem d_PT_read_81 : decode prog_1_method_3_code 81 = .ok (.getfield 30, 3) := by decide +kernel
theorem d_PT_read_84 : decode prog_1_method_3_code 84 = .ok (.aload_n 3, 1) := by decide +kernel
theorem d_PT_read_85 : decode prog_1_method_3_code 85 = .ok (.aastore, 1) := by decide +kernel
theorem d_PT_read_86 : decode prog_1_method_3_code 86 = .ok (.aload_n 0, 1) := by decide +kernel
theorem d_PT_read_87 : decode prog_1_method_3_code 87 = .ok (.dup, 1) := by decide +kernel
theorem d_PT_read_88 : decode prog_1_method_3_code 88 = .ok (.getfield 30, 3) := by decide +kernel
theorem d_PT_read_91 : decode prog_1_method_3_code 91 = .ok (.iconst 1, 1) := by decide +kernel
theorem d_PT_read_92 : decode prog_1_method_3_code 92 = .ok (.iadd, 1) := by decide +kernel
theorem d_PT_read_93 : decode prog_1_method_3_code 93 = .ok (.putfield 30, 3) := by decide +kernel
theorem d_PT_read_96 : decode prog_1_method_3_code 96 = .ok (.aload_n 0, 1) := by decide +kernel
theorem d_PT_read_97 : decode prog_1_method_3_code 97 = .ok (.aload_n 3, 1) := by decide +kernel
theorem d_PT_read_98 : decode prog_1_method_3_code 98 = .ok (.putfield 40, 3) := by decide +kernel
theorem d_PT_read_101 : decode prog_1_method_3_code 101 = .ok (.aload_n 3, 1) := by decide +kernel
theorem d_PT_read_102 : decode prog_1_method_3_code 102 = .ok (.getfield 94, 3) := by decide +kernel
theorem d_PT_read_105 : decode prog_1_method_3_code 105 = .ok (.ireturn, 1) := by decide +kernel
def D_PT_read (h0 : Nat) (p0 : Int32) (S : gS) : Option ((String ⊕ Int32) × gS) := gTry (D_PT_requireDay p0 S) (fun v2 S3 => Option.bind (gNw S3 7 [.null, .int 0, .int 0, .int 0]) (fun S4 => Option.bind (gRf S4 h0 0 0) (fun r5 => Option.bind (gI S4 h0 0 1) (fun v6 => Option.bind (D_Rd_init S3.2.1 r5 v6 S4) (fun S7 => Option.bind (gOb S7 S3.2.1 7) (fun fs10 => gB2 (D_Rd_readEdition S3.2.1 p0 S7) (fun r9 S8 => Option.bind (gPut S8 h0 0 1 (.int 0)) (fun S11 => Option.bind (gI S11 S3.2.1 7 3) (fun v12 => Option.bind (gPut S11 h0 0 2 (.int v12)) (fun S13 => Option.bind (gI S13 h0 0 2) (fun v14 => (if v14 = (-1) then Option.bind (gI S13 h0 0 5) (fun v16 => (if v16 < 6 then Option.bind (gRf S13 h0 0 4) (fun r18 => Option.bind (gI S13 h0 0 5) (fun v19 => Option.bind r18 (fun a20 => Option.bind r9 (fun a22 => Option.bind (gSR S13 a20 4 v19 a22 1) (fun S21 => Option.bind (gI S21 h0 0 5) (fun v23 => Option.bind (gPut S21 h0 0 5 (.int (v23 + 1))) (fun S24 => Option.bind (gPut S24 h0 0 7 (va_rf (some a22))) (fun S25 => Option.bind (gI S25 a22 1 4) (fun v26 => some (.inr v26, S25)))))))))) else Option.bind (gThr S13) (fun S27 => some (.inl "java/lang/UnsupportedOperationException", S27)))) else Option.bind (gThr S13) (fun S28 => some (.inl "java/lang/IllegalStateException", S28))))))))))))))
set_option maxRecDepth 100000 in
set_option maxHeartbeats 4000000 in
theorem c_PT_read {D : va_G} {cT : Nat → ClassId} {H0 : Heap} {l : Launch} {S : gS} {S' : gS} {h0 : Nat} {p0 : Int32} {r : String ⊕ Int32} (hst : l.stackTraces = false) (hden : D_PT_read h0 p0 S = some (r, S')) : gM D cT H0 l y_PT_read (Cond.code y_PT_read prog_1_method_3_code 4 (Option.some Jvm.ClassFile.FieldType.int)) 8 145 [va_rf (some h0), .int p0] S S' (gRi r) := by
  refine gM.ofV (by decide) ?_
  intro p e s m args below meth c s₁ B hml ea X hZ hex hr hE
  subst ea
  have Y : gY D cT H0 p s m _ meth c prog_1_method_3_code 4 "PlanText" 8 145 S (Option.some Jvm.ClassFile.FieldType.int) := ⟨X, hZ, hex, hr, hE⟩
  have hx := X.1
  have hb := X.2.1
  have hl := lv_entry ([va_rf (some h0), .int p0]) (n := 4) (Nat.le_of_ble_eq_true rfl)
  rw [lg_entry_eq]
  generalize (lg_sl ([va_rf (some h0), .int p0]) ++ List.replicate (4 - (lg_sl ([va_rf (some h0), .int p0])).length) Slot.unset).toArray = ls at hl ⊢
  have hl : lv_has ls 4 [(0, va_rf (some h0)), (1, .int p0)] := hl
  unfold D_PT_read at hden
  refine gV.lift (fun _ _ _ _ => lv_iload_n hx hb d_PT_read_0 rfl (lv_at hl 1 rfl)) ?_
  replace hden := gty hden
  rcases hden with ⟨E1, hz, rfl⟩ | ⟨v2, S3, hz, hden⟩
  · exact g_outS (As := [.int p0]) (rest := []) X hZ hex (c_PT_requireDay hst hz) q_239 q_1 q_237 q_238 ⟨by decide, by decide, by show _ = some 1; decide +kernel⟩ ⟨by decide, by decide⟩ hl.1 (Nat.le_of_ble_eq_true rfl) d_PT_read_1 rfl
  refine g_callS (As := [.int p0]) (rest := []) X hZ (c_PT_requireDay hst hz) q_239 q_1 q_237 q_238 ⟨by decide, by decide, by show _ = some 1; decide +kernel⟩ ⟨by decide, by decide⟩ hl.1 (Nat.le_of_ble_eq_true rfl) d_PT_read_1 rfl rfl ?_
  replace hden := gb hden
  obtain ⟨S4, hv, hden⟩ := hden
  refine r_new X cl_Rd rfl hv (fun j hj => bl_Rd j hj) q_244 q_245 q_11 d_PT_read_4 ?_
  refine gV.lift (fun _ _ _ _ => lv_dup hx hb d_PT_read_7 g_cat) ?_
  refine gV.lift (fun _ _ _ _ => g_aload_n hx hb d_PT_read_8 rfl (lv_at hl 0 rfl)) ?_
  replace hden := gb hden
  obtain ⟨r5, hv, hden⟩ := hden
  refine r_getR X cl_PT (k := 0) hv (by decide) q_98 d_PT_read_9 ?_
  refine gV.lift (fun _ _ _ _ => g_aload_n hx hb d_PT_read_12 rfl (lv_at hl 0 rfl)) ?_
  replace hden := gb hden
  obtain ⟨v6, hv, hden⟩ := hden
  refine r_getI X cl_PT (k := 1) hv (by decide) q_99 d_PT_read_13 ?_
  replace hden := gb hden
  obtain ⟨S7, hz, hden⟩ := hden
  refine g_callI (As := [va_rf r5, .int v6]) (rest := [va_rf (some S3.2.1)]) X hZ (c_Rd_init hz) q_248 q_11 q_246 q_247 rfl ⟨by decide, by decide, by show _ = some 2; decide +kernel⟩ ⟨by decide, by decide⟩ hl.1 (Nat.le_of_ble_eq_true rfl) d_PT_read_16 rfl ?_
  refine gV.liftS (nL := 4) (lv' := [(2, va_rf (some S3.2.1)), (0, va_rf (some h0)), (1, .int p0)]) (fun _ _ _ _ => g_astore_n hx hb d_PT_read_19 rfl hl (by decide) rfl) (fun ls hl => ?_)
  refine gV.lift (fun _ _ _ _ => g_aload_n hx hb d_PT_read_20 rfl (lv_at hl 0 rfl)) ?_
  refine gV.lift (fun _ _ _ _ => lv_iload_n hx hb d_PT_read_21 rfl (lv_at hl 2 rfl)) ?_
  replace hden := gb hden
  obtain ⟨fs10, ho, hden⟩ := hden
  replace hden := gb2 hden
  obtain ⟨r9, S8, hz, hden⟩ := hden
  refine g_callV (As := [.int p0]) (rest := []) X hZ (c_Rd_readEdition hz) cl_Rd (gOb_spec ho) q_270 q_11 q_267 q_268 q_269 ⟨by decide, by decide, by show _ = some 1; decide +kernel⟩ ⟨by decide, by decide⟩ hl.1 (Nat.le_of_ble_eq_true rfl) d_PT_read_22 rfl rfl ?_
  refine gV.liftS (nL := 4) (lv' := [(3, va_rf r9), (2, va_rf (some S3.2.1)), (0, va_rf (some h0)), (1, .int p0)]) (fun _ _ _ _ => g_astore_n hx hb d_PT_read_25 rfl hl (by decide) rfl) (fun ls hl => ?_)
  refine gV.lift (fun _ _ _ _ => g_aload_n hx hb d_PT_read_26 rfl (lv_at hl 2 rfl)) ?_
  refine gV.lift (fun _ _ _ _ => lv_iconst (v := 0) hx hb d_PT_read_27 (by decide)) ?_
  replace hden := gb hden
  obtain ⟨S11, hv, hden⟩ := hden
  refine r_put X cl_PT (k := 1) hv (by decide) q_99 rfl rfl rfl d_PT_read_28 ?_
  refine gV.lift (fun _ _ _ _ => g_aload_n hx hb d_PT_read_31 rfl (lv_at hl 2 rfl)) ?_
  refine gV.lift (fun _ _ _ _ => g_aload_n hx hb d_PT_read_32 rfl (lv_at hl 1 rfl)) ?_
  replace hden := gb hden
  obtain ⟨v12, hv, hden⟩ := hden
  refine r_getI X cl_Rd (k := 3) hv (by decide) q_257 d_PT_read_33 ?_
  replace hden := gb hden
  obtain ⟨S13, hv, hden⟩ := hden
  refine r_put X cl_PT (k := 2) hv (by decide) q_100 rfl rfl rfl d_PT_read_36 ?_
  refine gV.lift (fun _ _ _ _ => g_aload_n hx hb d_PT_read_39 rfl (lv_at hl 2 rfl)) ?_
  replace hden := gb hden
  obtain ⟨v14, hv, hden⟩ := hden
  refine r_getI X cl_PT (k := 2) hv (by decide) q_100 d_PT_read_40 ?_
  refine gV.lift (fun _ _ _ _ => lv_iconst (v := (-1)) hx hb d_PT_read_43 (by decide)) ?_
  refine gV.lift2 (fun _ _ _ _ => lv_icmp_eq (tgt := 57) hx hb d_PT_read_44 (by decide)) (fun hc15 => ?_) (fun hc15 => ?_)
  · replace hden := gip hc15 hden
    refine gV.lift (fun _ _ _ _ => g_aload_n hx hb d_PT_read_57 rfl (lv_at hl 2 rfl)) ?_
    replace hden := gb hden
    obtain ⟨v16, hv, hden⟩ := hden
    refine r_getI X cl_PT (k := 5) hv (by decide) q_103 d_PT_read_58 ?_
    refine gV.lift (fun _ _ _ _ => lv_bipush (v := 6) hx hb d_PT_read_61 (by decide)) ?_
    refine gV.lift2 (fun _ _ _ _ => lv_icmp_lt (tgt := 76) hx hb d_PT_read_63 (by decide)) (fun hc17 => ?_) (fun hc17 => ?_)
    · replace hden := gip hc17 hden
      refine gV.lift (fun _ _ _ _ => g_aload_n hx hb d_PT_read_76 rfl (lv_at hl 2 rfl)) ?_
      replace hden := gb hden
      obtain ⟨r18, hv, hden⟩ := hden
      refine r_getR X cl_PT (k := 4) hv (by decide) q_102 d_PT_read_77 ?_
      refine gV.lift (fun _ _ _ _ => g_aload_n hx hb d_PT_read_80 rfl (lv_at hl 2 rfl)) ?_
      replace hden := gb hden
      obtain ⟨v19, hv, hden⟩ := hden
      refine r_getI X cl_PT (k := 5) hv (by decide) q_103 d_PT_read_81 ?_
      refine gV.lift (fun _ _ _ _ => g_aload_n hx hb d_PT_read_84 rfl (lv_at hl 0 rfl)) ?_
      replace hden := gb hden
      obtain ⟨a20, rfl, hden⟩ := hden
      replace hden := gb hden
      obtain ⟨a22, rfl, hden⟩ := hden
      replace hden := gb hden
      obtain ⟨S21, hv, hden⟩ := hden
      refine r_aast X cl_Ed (t := 4) rfl hv d_PT_read_85 ?_
      refine gV.lift (fun _ _ _ _ => g_aload_n hx hb d_PT_read_86 rfl (lv_at hl 2 rfl)) ?_
      refine gV.lift (fun _ _ _ _ => lv_dup hx hb d_PT_read_87 g_cat) ?_
      replace hden := gb hden
      obtain ⟨v23, hv, hden⟩ := hden
      refine r_getI X cl_PT (k := 5) hv (by decide) q_103 d_PT_read_88 ?_
      refine gV.lift (fun _ _ _ _ => lv_iconst (v := 1) hx hb d_PT_read_91 (by decide)) ?_
      refine gV.lift (fun _ _ _ _ => lv_iadd hx hb d_PT_read_92) ?_
      replace hden := gb hden
      obtain ⟨S24, hv, hden⟩ := hden
      refine r_put X cl_PT (k := 5) hv (by decide) q_103 rfl rfl rfl d_PT_read_93 ?_
      refine gV.lift (fun _ _ _ _ => g_aload_n hx hb d_PT_read_96 rfl (lv_at hl 2 rfl)) ?_
      refine gV.lift (fun _ _ _ _ => g_aload_n hx hb d_PT_read_97 rfl (lv_at hl 0 rfl)) ?_
      replace hden := gb hden
      obtain ⟨S25, hv, hden⟩ := hden
      refine r_put X cl_PT (k := 7) hv (by decide) q_105 rfl g_nar g_fit d_PT_read_98 ?_
      refine gV.lift (fun _ _ _ _ => g_aload_n hx hb d_PT_read_101 rfl (lv_at hl 0 rfl)) ?_
      replace hden := gb hden
      obtain ⟨v26, hv, hden⟩ := hden
      refine r_getI X cl_Ed (k := 4) hv (by decide) q_47 d_PT_read_102 ?_
      obtain ⟨rfl, rfl⟩ := gpi hden
      exact g_iret X hr d_PT_read_105
    · replace hden := gin hc17 hden
      replace hden := gb hden
      obtain ⟨S27, ht, hden⟩ := hden
      obtain ⟨hroom, rfl⟩ := gThr_spec ht
      obtain ⟨rfl, rfl⟩ := gpi hden
      exact g_throw (text := "there are 6 editions") X hZ hex hE hst (by decide +kernel) q_213 q_10 (by decide) at_UnsupportedOperationException_71 ot_UnsupportedOperationException_71 hl.1 d_PT_read_66 d_PT_read_69 d_PT_read_70 d_PT_read_72 d_PT_read_75 ⟨by decide, Nat.le_of_ble_eq_true rfl⟩ hroom
  · replace hden := gin hc15 hden
    replace hden := gb hden
    obtain ⟨S28, ht, hden⟩ := hden
    obtain ⟨hroom, rfl⟩ := gThr_spec ht
    obtain ⟨rfl, rfl⟩ := gpi hden
    exact g_throw (text := "the text is wrong") X hZ hex hE hst (by decide +kernel) q_505 q_18 (by decide) at_IllegalStateException_91 ot_IllegalStateException_91 hl.1 d_PT_read_47 d_PT_read_50 d_PT_read_51 d_PT_read_53 d_PT_read_56 ⟨by decide, Nat.le_of_ble_eq_true rfl⟩ hroom
/-! PlanText.place()I -/
abbrev y_PT_place : MethodName := ⟨"PlanText", "place", "()I"⟩
theorem d_PT_place_0 : decode prog_1_method_4_code 0 = .ok (.aload_n 0, 1) := by decide +kernel
theorem d_PT_place_1 : decode prog_1_method_4_code 1 = .ok (.getfield 17, 3) := by decide +kernel
theorem d_PT_place_4 : decode prog_1_method_4_code 4 = .ok (.ireturn, 1) := by decide +kernel
def D_PT_place (h0 : Nat) (S : gS) : Option (Int32 × gS) := Option.bind (gI S h0 0 2) (fun v1 => some (v1, S))
set_option maxRecDepth 100000 in
set_option maxHeartbeats 4000000 in
theorem c_PT_place {D : va_G} {cT : Nat → ClassId} {H0 : Heap} {l : Launch} {S : gS} {S' : gS} {h0 : Nat} {r : Int32} (hden : D_PT_place h0 S = some (r, S')) : gM D cT H0 l y_PT_place (Cond.code y_PT_place prog_1_method_4_code 1 (Option.some Jvm.ClassFile.FieldType.int)) 0 0 [va_rf (some h0)] S S' (.inr (some (.int r))) := by
  refine gM.ofV (by decide) ?_
  intro p e s m args below meth c s₁ B hml ea X hZ hex hr hE
  subst ea
  have Y : gY D cT H0 p s m _ meth c prog_1_method_4_code 1 "PlanText" 0 0 S (Option.some Jvm.ClassFile.FieldType.int) := ⟨X, hZ, hex, hr, hE⟩
  have hx := X.1
  have hb := X.2.1
  have hl := lv_entry ([va_rf (some h0)]) (n := 1) (Nat.le_of_ble_eq_true rfl)
  rw [lg_entry_eq]
  generalize (lg_sl ([va_rf (some h0)]) ++ List.replicate (1 - (lg_sl ([va_rf (some h0)])).length) Slot.unset).toArray = ls at hl ⊢
  have hl : lv_has ls 1 [(0, va_rf (some h0))] := hl
  unfold D_PT_place at hden
  refine gV.lift (fun _ _ _ _ => g_aload_n hx hb d_PT_place_0 rfl (lv_at hl 0 rfl)) ?_
  replace hden := gb hden
  obtain ⟨v1, hv, hden⟩ := hden
  refine r_getI X cl_PT (k := 2) hv (by decide) q_100 d_PT_place_1 ?_
  obtain ⟨rfl, rfl⟩ := gpi hden
  exact g_iret X hr d_PT_place_4
/-! PlanText.requireSkill(I)V -/
abbrev y_PT_requireSkill : MethodName := ⟨"PlanText", "requireSkill", "(I)V"⟩
theorem d_PT_requireSkill_0 : decode prog_1_method_17_code 0 = .ok (.iload_n 0, 1) := by decide +kernel
theorem d_PT_requireSkill_1 : decode prog_1_method_17_code 1 = .ok (.ifCond .lt 9, 3) := by decide +kernel
theorem d_PT_requireSkill_4 : decode prog_1_method_17_code 4 = .ok (.iload_n 0, 1) := by decide +kernel
theorem d_PT_requireSkill_5 : decode prog_1_method_17_code 5 = .ok (.bipush 8, 2) := by decide +kernel
theorem d_PT_requireSkill_7 : decode prog_1_method_17_code 7 = .ok (.if_icmp .lt 13, 3) := by decide +kernel
theorem d_PT_requireSkill_10 : decode prog_1_method_17_code 10 = .ok (.new 104, 3) := by decide +kernel
theorem d_PT_requireSkill_13 : decode prog_1_method_17_code 13 = .ok (.dup, 1) := by decide +kernel
theorem d_PT_requireSkill_14 : decode prog_1_method_17_code 14 = .ok (.ldc 194, 2) := by decide +kernel
theorem d_PT_requireSkill_16 : decode prog_1_method_17_code 16 = .ok (.invokespecial 108, 3) := by decide +kernel
theorem d_PT_requireSkill_19 : decode prog_1_method_17_code 19 = .ok (.athrow, 1) := by decide +kernel
theorem d_PT_requireSkill_20 : decode prog_1_method_17_code 20 = .ok (.return_, 1) := by decide +kernel
def B_PT_requireSkill_10   (S : gS) : Option ((String ⊕ Unit) × gS) := Option.bind (gThr S) (fun S1 => some (.inl "java/lang/IllegalArgumentException", S1))
set_option maxRecDepth 100000 in
set_option maxHeartbeats 4000000 in
theorem w_PT_requireSkill_10 {D : va_G} {cT : Nat → ClassId} {H0 : Heap} {l : Launch} {p : Program} {e : Env} {s : State} {m : MethodId} {args : Array Value} {below : List Frame} {meth : Method} {c : Code} {S0 : gS} {S' : gS} {r : String ⊕ Unit} (hst : l.stackTraces = false) (Y : gY D cT H0 p s m args meth c prog_1_method_17_code 1 "PlanText" 6 90 S0 (Option.none : Option Jvm.ClassFile.FieldType))   (S : gS) (hden : B_PT_requireSkill_10   S = some (r, S')) {ls : Array Slot} (hl : lv_has ls 1 []) : gV D cT H0 p l e (gRm 6 90 S0) s m args below meth c (gQ D cT H0 below S0 S' (gRv r) s) S0 S (F0 m 10 ls []) := by
  obtain ⟨X, hZ, hex, hr, hE⟩ := id Y
  have hx := X.1
  have hb := X.2.1
  unfold B_PT_requireSkill_10 at hden
  replace hden := gb hden
  obtain ⟨S1, ht, hden⟩ := hden
  obtain ⟨hroom, rfl⟩ := gThr_spec ht
  obtain ⟨rfl, rfl⟩ := gpi hden
  exact g_throw (text := "no such skill") X hZ hex hE hst (by decide +kernel) q_533 q_19 (by decide) at_IllegalArgumentException_108 ot_IllegalArgumentException_108 hl.1 d_PT_requireSkill_10 d_PT_requireSkill_13 d_PT_requireSkill_14 d_PT_requireSkill_16 d_PT_requireSkill_19 ⟨by decide, Nat.le_of_ble_eq_true rfl⟩ hroom
def D_PT_requireSkill (p0 : Int32) (S : gS) : Option ((String ⊕ Unit) × gS) := (if p0 < 0 then B_PT_requireSkill_10  S else (if p0 < 8 then some (.inr (), S) else B_PT_requireSkill_10  S))
set_option maxRecDepth 100000 in
set_option maxHeartbeats 4000000 in
theorem c_PT_requireSkill {D : va_G} {cT : Nat → ClassId} {H0 : Heap} {l : Launch} {S : gS} {S' : gS} {p0 : Int32} {r : String ⊕ Unit} (hst : l.stackTraces = false) (hden : D_PT_requireSkill p0 S = some (r, S')) : gM D cT H0 l y_PT_requireSkill (Cond.code y_PT_requireSkill prog_1_method_17_code 1 (Option.none : Option Jvm.ClassFile.FieldType)) 6 90 [.int p0] S S' (gRv r) := by
  refine gM.ofV (by decide) ?_
  intro p e s m args below meth c s₁ B hml ea X hZ hex hr hE
  subst ea
  have Y : gY D cT H0 p s m _ meth c prog_1_method_17_code 1 "PlanText" 6 90 S (Option.none : Option Jvm.ClassFile.FieldType) := ⟨X, hZ, hex, hr, hE⟩
  have hx := X.1
  have hb := X.2.1
  have hl := lv_entry ([.int p0]) (n := 1) (Nat.le_of_ble_eq_true rfl)
  rw [lg_entry_eq]
  generalize (lg_sl ([.int p0]) ++ List.replicate (1 - (lg_sl ([.int p0])).length) Slot.unset).toArray = ls at hl ⊢
  have hl : lv_has ls 1 [(0, .int p0)] := hl
  unfold D_PT_requireSkill at hden
  refine gV.lift (fun _ _ _ _ => lv_iload_n hx hb d_PT_requireSkill_0 rfl (lv_at hl 0 rfl)) ?_
  refine gV.lift2 (fun _ _ _ _ => lv_if_lt (tgt := 10) hx hb d_PT_requireSkill_1 (by decide)) (fun hc1 => ?_) (fun hc1 => ?_)
  · replace hden := gip hc1 hden
    exact w_PT_requireSkill_10 hst Y  S hden (lv_sub hl [] rfl)
  · replace hden := gin hc1 hden
    refine gV.lift (fun _ _ _ _ => lv_iload_n hx hb d_PT_requireSkill_4 rfl (lv_at hl 0 rfl)) ?_
    refine gV.lift (fun _ _ _ _ => lv_bipush (v := 8) hx hb d_PT_requireSkill_5 (by decide)) ?_
    refine gV.lift2 (fun _ _ _ _ => lv_icmp_lt (tgt := 20) hx hb d_PT_requireSkill_7 (by decide)) (fun hc2 => ?_) (fun hc2 => ?_)
    · replace hden := gip hc2 hden
      obtain ⟨rfl, rfl⟩ := gpi hden
      exact g_vret X hr d_PT_requireSkill_20
    · replace hden := gin hc2 hden
      exact w_PT_requireSkill_10 hst Y  S hden (lv_sub hl [] rfl)
/-! PlanText.town(II)V -/
abbrev y_PT_town : MethodName := ⟨"PlanText", "town", "(II)V"⟩
theorem d_PT_town_0 : decode prog_1_method_5_code 0 = .ok (.iload_n 1, 1) := by decide +kernel
theorem d_PT_town_1 : decode prog_1_method_5_code 1 = .ok (.invokestatic 97, 3) := by decide +kernel
theorem d_PT_town_4 : decode prog_1_method_5_code 4 = .ok (.iload_n 2, 1) := by decide +kernel
theorem d_PT_town_5 : decode prog_1_method_5_code 5 = .ok (.iconst 0, 1) := by decide +kernel
theorem d_PT_town_6 : decode prog_1_method_5_code 6 = .ok (.bipush 99, 2) := by decide +kernel
theorem d_PT_town_8 : decode prog_1_method_5_code 8 = .ok (.invokestatic 100, 3) := by decide +kernel
theorem d_PT_town_11 : decode prog_1_method_5_code 11 = .ok (.aload_n 0, 1) := by decide +kernel
theorem d_PT_town_12 : decode prog_1_method_5_code 12 = .ok (.getfield 20, 3) := by decide +kernel
theorem d_PT_town_15 : decode prog_1_method_5_code 15 = .ok (.iload_n 1, 1) := by decide +kernel
theorem d_PT_town_16 : decode prog_1_method_5_code 16 = .ok (.iload_n 2, 1) := by decide +kernel
theorem d_PT_town_17 : decode prog_1_method_5_code 17 = .ok (.iastore, 1) := by decide +kernel
theorem d_PT_town_18 : decode prog_1_method_5_code 18 = .ok (.return_, 1) := by decide +kernel
def D_PT_town (h0 : Nat) (p0 : Int32) (p1 : Int32) (S : gS) : Option ((String ⊕ Unit) × gS) := gTry (D_PT_requireSkill p0 S) (fun v2 S3 => gTry (D_PT_requireWithin p1 0 99 S3) (fun v5 S6 => Option.bind (gRf S6 h0 0 3) (fun r7 => Option.bind r7 (fun a8 => Option.bind (gSI S6 a8 0 p0 p1) (fun S9 => some (.inr (), S9))))))
set_option maxRecDepth 100000 in
set_option maxHeartbeats 4000000 in
theorem c_PT_town {D : va_G} {cT : Nat → ClassId} {H0 : Heap} {l : Launch} {S : gS} {S' : gS} {h0 : Nat} {p0 : Int32} {p1 : Int32} {r : String ⊕ Unit} (hst : l.stackTraces = false) (hden : D_PT_town h0 p0 p1 S = some (r, S')) : gM D cT H0 l y_PT_town (Cond.code y_PT_town prog_1_method_5_code 3 (Option.none : Option Jvm.ClassFile.FieldType)) 7 112 [va_rf (some h0), .int p0, .int p1] S S' (gRv r) := by
  refine gM.ofV (by decide) ?_
  intro p e s m args below meth c s₁ B hml ea X hZ hex hr hE
  subst ea
  have Y : gY D cT H0 p s m _ meth c prog_1_method_5_code 3 "PlanText" 7 112 S (Option.none : Option Jvm.ClassFile.FieldType) := ⟨X, hZ, hex, hr, hE⟩
  have hx := X.1
  have hb := X.2.1
  have hl := lv_entry ([va_rf (some h0), .int p0, .int p1]) (n := 3) (Nat.le_of_ble_eq_true rfl)
  rw [lg_entry_eq]
  generalize (lg_sl ([va_rf (some h0), .int p0, .int p1]) ++ List.replicate (3 - (lg_sl ([va_rf (some h0), .int p0, .int p1])).length) Slot.unset).toArray = ls at hl ⊢
  have hl : lv_has ls 3 [(0, va_rf (some h0)), (1, .int p0), (2, .int p1)] := hl
  unfold D_PT_town at hden
  refine gV.lift (fun _ _ _ _ => lv_iload_n hx hb d_PT_town_0 rfl (lv_at hl 1 rfl)) ?_
  replace hden := gty hden
  rcases hden with ⟨E1, hz, rfl⟩ | ⟨v2, S3, hz, hden⟩
  · exact g_outS (As := [.int p0]) (rest := []) X hZ hex (c_PT_requireSkill hst hz) q_532 q_1 q_530 q_531 ⟨by decide, by decide, by show _ = some 1; decide +kernel⟩ ⟨by decide, by decide⟩ hl.1 (Nat.le_of_ble_eq_true rfl) d_PT_town_1 rfl
  refine g_callS (As := [.int p0]) (rest := []) X hZ (c_PT_requireSkill hst hz) q_532 q_1 q_530 q_531 ⟨by decide, by decide, by show _ = some 1; decide +kernel⟩ ⟨by decide, by decide⟩ hl.1 (Nat.le_of_ble_eq_true rfl) d_PT_town_1 rfl rfl ?_
  refine gV.lift (fun _ _ _ _ => lv_iload_n hx hb d_PT_town_4 rfl (lv_at hl 2 rfl)) ?_
  refine gV.lift (fun _ _ _ _ => lv_iconst (v := 0) hx hb d_PT_town_5 (by decide)) ?_
  refine gV.lift (fun _ _ _ _ => lv_bipush (v := 99) hx hb d_PT_town_6 (by decide)) ?_
  replace hden := gty hden
  rcases hden with ⟨E4, hz, rfl⟩ | ⟨v5, S6, hz, hden⟩
  · exact g_outS (As := [.int p1, .int 0, .int 99]) (rest := []) X hZ hex (c_PT_requireWithin hst hz) q_242 q_1 q_240 q_241 ⟨by decide, by decide, by show _ = some 3; decide +kernel⟩ ⟨by decide, by decide⟩ hl.1 (Nat.le_of_ble_eq_true rfl) d_PT_town_8 rfl
  refine g_callS (As := [.int p1, .int 0, .int 99]) (rest := []) X hZ (c_PT_requireWithin hst hz) q_242 q_1 q_240 q_241 ⟨by decide, by decide, by show _ = some 3; decide +kernel⟩ ⟨by decide, by decide⟩ hl.1 (Nat.le_of_ble_eq_true rfl) d_PT_town_8 rfl rfl ?_
  refine gV.lift (fun _ _ _ _ => g_aload_n hx hb d_PT_town_11 rfl (lv_at hl 0 rfl)) ?_
  replace hden := gb hden
  obtain ⟨r7, hv, hden⟩ := hden
  refine r_getR X cl_PT (k := 3) hv (by decide) q_101 d_PT_town_12 ?_
  refine gV.lift (fun _ _ _ _ => lv_iload_n hx hb d_PT_town_15 rfl (lv_at hl 1 rfl)) ?_
  refine gV.lift (fun _ _ _ _ => lv_iload_n hx hb d_PT_town_16 rfl (lv_at hl 2 rfl)) ?_
  replace hden := gb hden
  obtain ⟨a8, rfl, hden⟩ := hden
  replace hden := gb hden
  obtain ⟨S9, hv, hden⟩ := hden
  refine r_iast X (t := 0) rfl hv d_PT_town_17 ?_
  obtain ⟨rfl, rfl⟩ := gpi hden
  exact g_vret X hr d_PT_town_18
/-! PlanText.editionOf(I)LPlanText$Edition; -/
abbrev y_PT_editionOf : MethodName := ⟨"PlanText", "editionOf", "(I)LPlanText$Edition;"⟩
theorem d_PT_editionOf_0 : decode prog_1_method_15_code 0 = .ok (.aload_n 0, 1) := by decide +kernel
theorem d_PT_editionOf_1 : decode prog_1_method_15_code 1 = .ok (.getfield 36, 3) := by decide +kernel
theorem d_PT_editionOf_4 : decode prog_1_method_15_code 4 = .ok (.astore_n 2, 1) := by decide +kernel
theorem d_PT_editionOf_5 : decode prog_1_method_15_code 5 = .ok (.iconst 0, 1) := by decide +kernel
theorem d_PT_editionOf_6 : decode prog_1_method_15_code 6 = .ok (.istore_n 3, 1) := by decide +kernel
theorem d_PT_editionOf_7 : decode prog_1_method_15_code 7 = .ok (.iload_n 3, 1) := by decide +kernel
theorem d_PT_editionOf_8 : decode prog_1_method_15_code 8 = .ok (.aload_n 0, 1) := by decide +kernel
theorem d_PT_editionOf_9 : decode prog_1_method_15_code 9 = .ok (.getfield 30, 3) := by decide +kernel
theorem d_PT_editionOf_12 : decode prog_1_method_15_code 12 = .ok (.if_icmp .ge 52, 3) := by decide +kernel
theorem d_PT_editionOf_15 : decode prog_1_method_15_code 15 = .ok (.iload_n 3, 1) := by decide +kernel
theorem d_PT_editionOf_16 : decode prog_1_method_15_code 16 = .ok (.bipush 6, 2) := by decide +kernel
theorem d_PT_editionOf_18 : decode prog_1_method_15_code 18 = .ok (.if_icmp .ge 46, 3) := by decide +kernel
theorem d_PT_editionOf_21 : decode prog_1_method_15_code 21 = .ok (.aload_n 0, 1) := by decide +kernel
theorem d_PT_editionOf_22 : decode prog_1_method_15_code 22 = .ok (.getfield 26, 3) := by decide +kernel
theorem d_PT_editionOf_25 : decode prog_1_method_15_code 25 = .ok (.iload_n 3, 1) := by decide +kernel
theorem d_PT_editionOf_26 : decode prog_1_method_15_code 26 = .ok (.aaload, 1) := by decide +kernel
theorem d_PT_editionOf_27 : decode prog_1_method_15_code 27 = .ok (.astore 4, 2) := by decide +kernel
theorem d_PT_editionOf_29 : decode prog_1_method_15_code 29 = .ok (.aload 4, 2) := by decide +kernel
theorem d_PT_editionOf_31 : decode prog_1_method_15_code 31 = .ok (.ifnull 27, 3) := by decide +kernel
theorem d_PT_editionOf_34 : decode prog_1_method_15_code 34 = .ok (.aload 4, 2) := by decide +kernel
theorem d_PT_editionOf_36 : decode prog_1_method_15_code 36 = .ok (.getfield 191, 3) := by decide +kernel
theorem d_PT_editionOf_39 : decode prog_1_method_15_code 39 = .ok (.iload_n 1, 1) := by decide +kernel
theorem d_PT_editionOf_40 : decode prog_1_method_15_code 40 = .ok (.if_icmp .gt 18, 3) := by decide +kernel
theorem d_PT_editionOf_43 : decode prog_1_method_15_code 43 = .ok (.aload 4, 2) := by decide +kernel
theorem d_PT_editionOf_45 : decode prog_1_method_15_code 45 = .ok (.getfield 191, 3) := by decide +kernel
theorem d_PT_editionOf_48 : decode prog_1_method_15_code 48 = .ok (.aload_n 2, 1) := by decide +kernel
theorem d_PT_editionOf_49 : decode prog_1_method_15_code 49 = .ok (.getfield 191, 3) := by decide +kernel
theorem d_PT_editionOf_52 : decode prog_1_method_15_code 52 = .ok (.if_icmp .lt 6, 3) := by decide +kernel
theorem d_PT_editionOf_55 : decode prog_1_method_15_code 55 = .ok (.aload 4, 2) := by decide +kernel
theorem d_PT_editionOf_57 : decode prog_1_method_15_code 57 = .ok (.astore_n 2, 1) := by decide +kernel
theorem d_PT_editionOf_58 : decode prog_1_method_15_code 58 = .ok (.iinc 3 1, 3) := by decide +kernel
theorem d_PT_editionOf_61 : decode prog_1_method_15_code 61 = .ok (.goto (-54), 3) := by decide +kernel
theorem d_PT_editionOf_64 : decode prog_1_method_15_code 64 = .ok (.aload_n 2, 1) := by decide +kernel
theorem d_PT_editionOf_65 : decode prog_1_method_15_code 65 = .ok (.areturn, 1) := by decide +kernel
def B_PT_editionOf_64  (x2 : Option Nat) (S : gS) : Option ((Option Nat) × gS) := some (x2, S)
set_option maxRecDepth 100000 in
set_option maxHeartbeats 4000000 in
theorem w_PT_editionOf_64 {D : va_G} {cT : Nat → ClassId} {H0 : Heap} {l : Launch} {p : Program} {e : Env} {s : State} {m : MethodId} {args : Array Value} {below : List Frame} {meth : Method} {c : Code} {S0 : gS} {S' : gS} {r : Option Nat} (Y : gY D cT H0 p s m args meth c prog_1_method_15_code 5 "PlanText" 0 0 S0 (Option.some (Jvm.ClassFile.FieldType.object "PlanText$Edition")))  (x2 : Option Nat) (S : gS) (hden : B_PT_editionOf_64  x2 S = some (r, S')) {ls : Array Slot} (hl : lv_has ls 5 [(2, va_rf x2)]) : gV D cT H0 p l e (gRm 0 0 S0) s m args below meth c (gQ D cT H0 below S0 S' (.inr (some (va_rf r))) s) S0 S (F0 m 64 ls []) := by
  obtain ⟨X, hZ, hex, hr, hE⟩ := id Y
  have hx := X.1
  have hb := X.2.1
  unfold B_PT_editionOf_64 at hden
  refine gV.lift (fun _ _ _ _ => g_aload_n hx hb d_PT_editionOf_64 rfl (lv_at hl 0 rfl)) ?_
  obtain ⟨rfl, rfl⟩ := gpi hden
  exact g_aret X hr d_PT_editionOf_65
def B_PT_editionOf_58 (k7 : Nat → Int32 → Option Nat → Int32 → gS → Option ((Option Nat) × gS)) (x0 : Nat) (x1 : Int32) (x2 : Option Nat) (x3 : Int32) (S : gS) : Option ((Option Nat) × gS) := k7 x0 x1 x2 (x3 + 1) S
set_option maxRecDepth 100000 in
set_option maxHeartbeats 4000000 in
theorem w_PT_editionOf_58 {D : va_G} {cT : Nat → ClassId} {H0 : Heap} {l : Launch} {p : Program} {e : Env} {s : State} {m : MethodId} {args : Array Value} {below : List Frame} {meth : Method} {c : Code} {S0 : gS} {S' : gS} {r : Option Nat} (Y : gY D cT H0 p s m args meth c prog_1_method_15_code 5 "PlanText" 0 0 S0 (Option.some (Jvm.ClassFile.FieldType.object "PlanText$Edition"))) {k7 : Nat → Int32 → Option Nat → Int32 → gS → Option ((Option Nat) × gS)} (hk7 : ∀ (x0 : Nat) (x1 : Int32) (x2 : Option Nat) (x3 : Int32) (S : gS) (ls : Array Slot), k7 x0 x1 x2 x3 S = some (r, S') → lv_has ls 5 [(0, va_rf (some x0)), (1, .int x1), (2, va_rf x2), (3, .int x3)] → gV D cT H0 p l e (gRm 0 0 S0) s m args below meth c (gQ D cT H0 below S0 S' (.inr (some (va_rf r))) s) S0 S (F0 m 7 ls [])) (x0 : Nat) (x1 : Int32) (x2 : Option Nat) (x3 : Int32) (S : gS) (hden : B_PT_editionOf_58 k7 x0 x1 x2 x3 S = some (r, S')) {ls : Array Slot} (hl : lv_has ls 5 [(0, va_rf (some x0)), (1, .int x1), (2, va_rf x2), (3, .int x3)]) : gV D cT H0 p l e (gRm 0 0 S0) s m args below meth c (gQ D cT H0 below S0 S' (.inr (some (va_rf r))) s) S0 S (F0 m 58 ls []) := by
  obtain ⟨X, hZ, hex, hr, hE⟩ := id Y
  have hx := X.1
  have hb := X.2.1
  unfold B_PT_editionOf_58 at hden
  refine gV.liftS (nL := 5) (lv' := [(3, .int (x3 + 1)), (0, va_rf (some x0)), (1, .int x1), (2, va_rf x2)]) (fun _ _ _ _ => lv_iinc (v := (x3 + 1)) hx hb d_PT_editionOf_58 hl (k := 3) rfl rfl (by decide) (by cases x2 <;> rfl)) (fun ls hl => ?_)
  refine gV.lift (fun _ _ _ _ => lv_goto (tgt := 7) hx hb d_PT_editionOf_61 (by decide)) ?_
  exact hk7 x0 x1 x2 (x3 + 1) S _ hden (lv_sub hl [1, 2, 3, 0] rfl)
def B_PT_editionOf_7 (k7 : Nat → Int32 → Option Nat → Int32 → gS → Option ((Option Nat) × gS)) (x0 : Nat) (x1 : Int32) (x2 : Option Nat) (x3 : Int32) (S : gS) : Option ((Option Nat) × gS) := Option.bind (gI S x0 0 5) (fun v1 => (if v1 ≤ x3 then B_PT_editionOf_64  x2 S else (if 6 ≤ x3 then B_PT_editionOf_64  x2 S else Option.bind (gRf S x0 0 4) (fun r4 => Option.bind r4 (fun a5 => Option.bind (gAR S a5 4 x3) (fun r6 => gNul r6 (B_PT_editionOf_58 k7 x0 x1 x2 x3 S) (fun a7 => Option.bind (gI S a7 1 0) (fun v8 => (if x1 < v8 then B_PT_editionOf_58 k7 x0 x1 x2 x3 S else Option.bind (gI S a7 1 0) (fun v10 => Option.bind x2 (fun a11 => Option.bind (gI S a11 1 0) (fun v12 => (if v10 < v12 then B_PT_editionOf_58 k7 x0 x1 (some a11) x3 S else B_PT_editionOf_58 k7 x0 x1 (some a7) x3 S)))))))))))))
set_option maxRecDepth 100000 in
set_option maxHeartbeats 4000000 in
theorem w_PT_editionOf_7 {D : va_G} {cT : Nat → ClassId} {H0 : Heap} {l : Launch} {p : Program} {e : Env} {s : State} {m : MethodId} {args : Array Value} {below : List Frame} {meth : Method} {c : Code} {S0 : gS} {S' : gS} {r : Option Nat} (Y : gY D cT H0 p s m args meth c prog_1_method_15_code 5 "PlanText" 0 0 S0 (Option.some (Jvm.ClassFile.FieldType.object "PlanText$Edition"))) {k7 : Nat → Int32 → Option Nat → Int32 → gS → Option ((Option Nat) × gS)} (hk7 : ∀ (x0 : Nat) (x1 : Int32) (x2 : Option Nat) (x3 : Int32) (S : gS) (ls : Array Slot), k7 x0 x1 x2 x3 S = some (r, S') → lv_has ls 5 [(0, va_rf (some x0)), (1, .int x1), (2, va_rf x2), (3, .int x3)] → gV D cT H0 p l e (gRm 0 0 S0) s m args below meth c (gQ D cT H0 below S0 S' (.inr (some (va_rf r))) s) S0 S (F0 m 7 ls [])) (x0 : Nat) (x1 : Int32) (x2 : Option Nat) (x3 : Int32) (S : gS) (hden : B_PT_editionOf_7 k7 x0 x1 x2 x3 S = some (r, S')) {ls : Array Slot} (hl : lv_has ls 5 [(0, va_rf (some x0)), (1, .int x1), (2, va_rf x2), (3, .int x3)]) : gV D cT H0 p l e (gRm 0 0 S0) s m args below meth c (gQ D cT H0 below S0 S' (.inr (some (va_rf r))) s) S0 S (F0 m 7 ls []) := by
  obtain ⟨X, hZ, hex, hr, hE⟩ := id Y
  have hx := X.1
  have hb := X.2.1
  unfold B_PT_editionOf_7 at hden
  refine gV.lift (fun _ _ _ _ => lv_iload_n hx hb d_PT_editionOf_7 rfl (lv_at hl 3 rfl)) ?_
  refine gV.lift (fun _ _ _ _ => g_aload_n hx hb d_PT_editionOf_8 rfl (lv_at hl 0 rfl)) ?_
  replace hden := gb hden
  obtain ⟨v1, hv, hden⟩ := hden
  refine r_getI X cl_PT (k := 5) hv (by decide) q_103 d_PT_editionOf_9 ?_
  refine gV.lift2 (fun _ _ _ _ => lv_icmp_ge (tgt := 64) hx hb d_PT_editionOf_12 (by decide)) (fun hc2 => ?_) (fun hc2 => ?_)
  · replace hden := gip hc2 hden
    exact w_PT_editionOf_64 Y  x2 S hden (lv_sub hl [2] rfl)
  · replace hden := gin hc2 hden
    refine gV.lift (fun _ _ _ _ => lv_iload_n hx hb d_PT_editionOf_15 rfl (lv_at hl 3 rfl)) ?_
    refine gV.lift (fun _ _ _ _ => lv_bipush (v := 6) hx hb d_PT_editionOf_16 (by decide)) ?_
    refine gV.lift2 (fun _ _ _ _ => lv_icmp_ge (tgt := 64) hx hb d_PT_editionOf_18 (by decide)) (fun hc3 => ?_) (fun hc3 => ?_)
    · replace hden := gip hc3 hden
      exact w_PT_editionOf_64 Y  x2 S hden (lv_sub hl [2] rfl)
    · replace hden := gin hc3 hden
      refine gV.lift (fun _ _ _ _ => g_aload_n hx hb d_PT_editionOf_21 rfl (lv_at hl 0 rfl)) ?_
      replace hden := gb hden
      obtain ⟨r4, hv, hden⟩ := hden
      refine r_getR X cl_PT (k := 4) hv (by decide) q_102 d_PT_editionOf_22 ?_
      refine gV.lift (fun _ _ _ _ => lv_iload_n hx hb d_PT_editionOf_25 rfl (lv_at hl 3 rfl)) ?_
      replace hden := gb hden
      obtain ⟨a5, rfl, hden⟩ := hden
      replace hden := gb hden
      obtain ⟨r6, hv, hden⟩ := hden
      refine r_aald X (t := 4) rfl hv d_PT_editionOf_26 ?_
      refine gV.liftS (nL := 5) (lv' := [(4, va_rf r6), (0, va_rf (some x0)), (1, .int x1), (2, va_rf x2), (3, .int x3)]) (fun _ _ _ _ => g_astore hx hb d_PT_editionOf_27 hl (by decide) rfl) (fun ls hl => ?_)
      refine gV.lift (fun _ _ _ _ => g_aload hx hb d_PT_editionOf_29 (lv_at hl 0 rfl)) ?_
      rcases r6 with _ | a7
      · replace hden := gN0 hden
        refine gV.lift (fun _ _ _ _ => lv_ifnullN (tgt := 58) hx hb d_PT_editionOf_31 (by decide)) ?_
        exact w_PT_editionOf_58 Y hk7 x0 x1 x2 x3 S hden (lv_sub hl [1, 2, 3, 4] rfl)
      · replace hden := gN1 hden
        refine gV.lift (fun _ _ _ _ => lv_ifnull hx hb d_PT_editionOf_31) ?_
        refine gV.lift (fun _ _ _ _ => g_aload hx hb d_PT_editionOf_34 (lv_at hl 0 rfl)) ?_
        replace hden := gb hden
        obtain ⟨v8, hv, hden⟩ := hden
        refine r_getI X cl_Ed (k := 0) hv (by decide) q_42 d_PT_editionOf_36 ?_
        refine gV.lift (fun _ _ _ _ => lv_iload_n hx hb d_PT_editionOf_39 rfl (lv_at hl 2 rfl)) ?_
        refine gV.lift2 (fun _ _ _ _ => lv_icmp_gt (tgt := 58) hx hb d_PT_editionOf_40 (by decide)) (fun hc9 => ?_) (fun hc9 => ?_)
        · replace hden := gip hc9 hden
          exact w_PT_editionOf_58 Y hk7 x0 x1 x2 x3 S hden (lv_sub hl [1, 2, 3, 4] rfl)
        · replace hden := gin hc9 hden
          refine gV.lift (fun _ _ _ _ => g_aload hx hb d_PT_editionOf_43 (lv_at hl 0 rfl)) ?_
          replace hden := gb hden
          obtain ⟨v10, hv, hden⟩ := hden
          refine r_getI X cl_Ed (k := 0) hv (by decide) q_42 d_PT_editionOf_45 ?_
          refine gV.lift (fun _ _ _ _ => g_aload_n hx hb d_PT_editionOf_48 rfl (lv_at hl 3 rfl)) ?_
          replace hden := gb hden
          obtain ⟨a11, rfl, hden⟩ := hden
          replace hden := gb hden
          obtain ⟨v12, hv, hden⟩ := hden
          refine r_getI X cl_Ed (k := 0) hv (by decide) q_42 d_PT_editionOf_49 ?_
          refine gV.lift2 (fun _ _ _ _ => lv_icmp_lt (tgt := 58) hx hb d_PT_editionOf_52 (by decide)) (fun hc13 => ?_) (fun hc13 => ?_)
          · replace hden := gip hc13 hden
            exact w_PT_editionOf_58 Y hk7 x0 x1 (some a11) x3 S hden (lv_sub hl [1, 2, 3, 4] rfl)
          · replace hden := gin hc13 hden
            refine gV.lift (fun _ _ _ _ => g_aload hx hb d_PT_editionOf_55 (lv_at hl 0 rfl)) ?_
            refine gV.liftS (nL := 5) (lv' := [(2, va_rf (some a7)), (4, va_rf (some a7)), (0, va_rf (some x0)), (1, .int x1), (3, .int x3)]) (fun _ _ _ _ => g_astore_n hx hb d_PT_editionOf_57 rfl hl (by decide) rfl) (fun ls hl => ?_)
            exact w_PT_editionOf_58 Y hk7 x0 x1 (some a7) x3 S hden (lv_sub hl [2, 3, 0, 4] rfl)
def L_PT_editionOf_7  : Nat → Nat → Int32 → Option Nat → Int32 → gS → Option ((Option Nat) × gS)
  | 0 => fun _ _ _ _ _ => none
  | n + 1 => fun x0 x1 x2 x3 S => B_PT_editionOf_7  (L_PT_editionOf_7  n) x0 x1 x2 x3 S
theorem wL_PT_editionOf_7 {D : va_G} {cT : Nat → ClassId} {H0 : Heap} {l : Launch} {p : Program} {e : Env} {s : State} {m : MethodId} {args : Array Value} {below : List Frame} {meth : Method} {c : Code} {S0 : gS} {S' : gS} {r : Option Nat} (Y : gY D cT H0 p s m args meth c prog_1_method_15_code 5 "PlanText" 0 0 S0 (Option.some (Jvm.ClassFile.FieldType.object "PlanText$Edition")))  : ∀ (n : Nat) (x0 : Nat) (x1 : Int32) (x2 : Option Nat) (x3 : Int32) (S : gS) (ls : Array Slot), L_PT_editionOf_7  n x0 x1 x2 x3 S = some (r, S') → lv_has ls 5 [(0, va_rf (some x0)), (1, .int x1), (2, va_rf x2), (3, .int x3)] → gV D cT H0 p l e (gRm 0 0 S0) s m args below meth c (gQ D cT H0 below S0 S' (.inr (some (va_rf r))) s) S0 S (F0 m 7 ls []) := by
  intro n
  induction n with
  | zero => intro x0 x1 x2 x3 S ls h hl; cases h
  | succ n ih => intro x0 x1 x2 x3 S ls h hl; exact w_PT_editionOf_7 Y ih x0 x1 x2 x3 S h hl
def D_PT_editionOf (h0 : Nat) (p0 : Int32) (S : gS) : Option ((Option Nat) × gS) := Option.bind (gRf S h0 0 6) (fun r1 => L_PT_editionOf_7  gF h0 p0 r1 0 S)
set_option maxRecDepth 100000 in
set_option maxHeartbeats 4000000 in
theorem c_PT_editionOf {D : va_G} {cT : Nat → ClassId} {H0 : Heap} {l : Launch} {S : gS} {S' : gS} {h0 : Nat} {p0 : Int32} {r : Option Nat} (hden : D_PT_editionOf h0 p0 S = some (r, S')) : gM D cT H0 l y_PT_editionOf (Cond.code y_PT_editionOf prog_1_method_15_code 5 (Option.some (Jvm.ClassFile.FieldType.object "PlanText$Edition"))) 0 0 [va_rf (some h0), .int p0] S S' (.inr (some (va_rf r))) := by
  refine gM.ofV (by decide) ?_
  intro p e s m args below meth c s₁ B hml ea X hZ hex hr hE
  subst ea
  have Y : gY D cT H0 p s m _ meth c prog_1_method_15_code 5 "PlanText" 0 0 S (Option.some (Jvm.ClassFile.FieldType.object "PlanText$Edition")) := ⟨X, hZ, hex, hr, hE⟩
  have hx := X.1
  have hb := X.2.1
  have hl := lv_entry ([va_rf (some h0), .int p0]) (n := 5) (Nat.le_of_ble_eq_true rfl)
  rw [lg_entry_eq]
  generalize (lg_sl ([va_rf (some h0), .int p0]) ++ List.replicate (5 - (lg_sl ([va_rf (some h0), .int p0])).length) Slot.unset).toArray = ls at hl ⊢
  have hl : lv_has ls 5 [(0, va_rf (some h0)), (1, .int p0)] := hl
  unfold D_PT_editionOf at hden
  refine gV.lift (fun _ _ _ _ => g_aload_n hx hb d_PT_editionOf_0 rfl (lv_at hl 0 rfl)) ?_
  replace hden := gb hden
  obtain ⟨r1, hv, hden⟩ := hden
  refine r_getR X cl_PT (k := 6) hv (by decide) q_104 d_PT_editionOf_1 ?_
  refine gV.liftS (nL := 5) (lv' := [(2, va_rf r1), (0, va_rf (some h0)), (1, .int p0)]) (fun _ _ _ _ => g_astore_n hx hb d_PT_editionOf_4 rfl hl (by decide) rfl) (fun ls hl => ?_)
  refine gV.lift (fun _ _ _ _ => lv_iconst (v := 0) hx hb d_PT_editionOf_5 (by decide)) ?_
  refine gV.liftS (nL := 5) (lv' := [(3, .int 0), (2, va_rf r1), (0, va_rf (some h0)), (1, .int p0)]) (fun _ _ _ _ => lv_istore_n hx hb d_PT_editionOf_6 rfl hl (by decide) (by cases r1 <;> rfl)) (fun ls hl => ?_)
  exact wL_PT_editionOf_7 Y  gF h0 p0 r1 0 S _ hden (lv_sub hl [2, 3, 1, 0] rfl)
/-! PlanText.plan(IIIII)I -/
abbrev y_PT_plan : MethodName := ⟨"PlanText", "plan", "(IIIII)I"⟩
theorem d_PT_plan_0 : decode prog_1_method_6_code 0 = .ok (.iload_n 1, 1) := by decide +kernel
theorem d_PT_plan_1 : decode prog_1_method_6_code 1 = .ok (.iconst 1, 1) := by decide +kernel
theorem d_PT_plan_2 : decode prog_1_method_6_code 2 = .ok (.if_icmp .lt 9, 3) := by decide +kernel
theorem d_PT_plan_5 : decode prog_1_method_6_code 5 = .ok (.iload_n 1, 1) := by decide +kernel
theorem d_PT_plan_6 : decode prog_1_method_6_code 6 = .ok (.bipush 9, 2) := by decide +kernel
theorem d_PT_plan_8 : decode prog_1_method_6_code 8 = .ok (.if_icmp .le 13, 3) := by decide +kernel
theorem d_PT_plan_11 : decode prog_1_method_6_code 11 = .ok (.new 104, 3) := by decide +kernel
theorem d_PT_plan_14 : decode prog_1_method_6_code 14 = .ok (.dup, 1) := by decide +kernel
theorem d_PT_plan_15 : decode prog_1_method_6_code 15 = .ok (.ldc 106, 2) := by decide +kernel
theorem d_PT_plan_17 : decode prog_1_method_6_code 17 = .ok (.invokespecial 108, 3) := by decide +kernel
theorem d_PT_plan_20 : decode prog_1_method_6_code 20 = .ok (.athrow, 1) := by decide +kernel
theorem d_PT_plan_21 : decode prog_1_method_6_code 21 = .ok (.iload_n 2, 1) := by decide +kernel
theorem d_PT_plan_22 : decode prog_1_method_6_code 22 = .ok (.iconst 1, 1) := by decide +kernel
theorem d_PT_plan_23 : decode prog_1_method_6_code 23 = .ok (.bipush 99, 2) := by decide +kernel
theorem d_PT_plan_25 : decode prog_1_method_6_code 25 = .ok (.invokestatic 100, 3) := by decide +kernel
theorem d_PT_plan_28 : decode prog_1_method_6_code 28 = .ok (.iload_n 3, 1) := by decide +kernel
theorem d_PT_plan_29 : decode prog_1_method_6_code 29 = .ok (.iconst 1, 1) := by decide +kernel
theorem d_PT_plan_30 : decode prog_1_method_6_code 30 = .ok (.sipush 999, 3) := by decide +kernel
theorem d_PT_plan_33 : decode prog_1_method_6_code 33 = .ok (.invokestatic 100, 3) := by decide +kernel
theorem d_PT_plan_36 : decode prog_1_method_6_code 36 = .ok (.iload 4, 2) := by decide +kernel
theorem d_PT_plan_38 : decode prog_1_method_6_code 38 = .ok (.iconst 0, 1) := by decide +kernel
theorem d_PT_plan_39 : decode prog_1_method_6_code 39 = .ok (.bipush 23, 2) := by decide +kernel
theorem d_PT_plan_41 : decode prog_1_method_6_code 41 = .ok (.invokestatic 100, 3) := by decide +kernel
theorem d_PT_plan_44 : decode prog_1_method_6_code 44 = .ok (.iload 5, 2) := by decide +kernel
theorem d_PT_plan_46 : decode prog_1_method_6_code 46 = .ok (.invokestatic 72, 3) := by decide +kernel
theorem d_PT_plan_49 : decode prog_1_method_6_code 49 = .ok (.aload_n 0, 1) := by decide +kernel
theorem d_PT_plan_50 : decode prog_1_method_6_code 50 = .ok (.iload 5, 2) := by decide +kernel
theorem d_PT_plan_52 : decode prog_1_method_6_code 52 = .ok (.invokevirtual 109, 3) := by decide +kernel
theorem d_PT_plan_55 : decode prog_1_method_6_code 55 = .ok (.astore 6, 2) := by decide +kernel
theorem d_PT_plan_57 : decode prog_1_method_6_code 57 = .ok (.aload 6, 2) := by decide +kernel
theorem d_PT_plan_59 : decode prog_1_method_6_code 59 = .ok (.iload_n 1, 1) := by decide +kernel
theorem d_PT_plan_60 : decode prog_1_method_6_code 60 = .ok (.iload_n 2, 1) := by decide +kernel
theorem d_PT_plan_61 : decode prog_1_method_6_code 61 = .ok (.iload_n 3, 1) := by decide +kernel
theorem d_PT_plan_62 : decode prog_1_method_6_code 62 = .ok (.iload 4, 2) := by decide +kernel
theorem d_PT_plan_64 : decode prog_1_method_6_code 64 = .ok (.invokevirtual 112, 3) := by decide +kernel
theorem d_PT_plan_67 : decode prog_1_method_6_code 67 = .ok (.astore 7, 2) := by decide +kernel
theorem d_PT_plan_69 : decode prog_1_method_6_code 69 = .ok (.aload 7, 2) := by decide +kernel
theorem d_PT_plan_71 : decode prog_1_method_6_code 71 = .ok (.ifnull 18, 3) := by decide +kernel
theorem d_PT_plan_74 : decode prog_1_method_6_code 74 = .ok (.aload_n 0, 1) := by decide +kernel
theorem d_PT_plan_75 : decode prog_1_method_6_code 75 = .ok (.aload 7, 2) := by decide +kernel
theorem d_PT_plan_77 : decode prog_1_method_6_code 77 = .ok (.getfield 116, 3) := by decide +kernel
theorem d_PT_plan_80 : decode prog_1_method_6_code 80 = .ok (.putfield 50, 3) := by decide +kernel
theorem d_PT_plan_83 : decode prog_1_method_6_code 83 = .ok (.aload 7, 2) := by decide +kernel
theorem d_PT_plan_85 : decode prog_1_method_6_code 85 = .ok (.getfield 121, 3) := by decide +kernel
theorem d_PT_plan_88 : decode prog_1_method_6_code 88 = .ok (.ireturn, 1) := by decide +kernel
theorem d_PT_plan_89 : decode prog_1_method_6_code 89 = .ok (.aload 6, 2) := by decide +kernel
theorem d_PT_plan_91 : decode prog_1_method_6_code 91 = .ok (.iload_n 1, 1) := by decide +kernel
theorem d_PT_plan_92 : decode prog_1_method_6_code 92 = .ok (.invokevirtual 124, 3) := by decide +kernel
theorem d_PT_plan_95 : decode prog_1_method_6_code 95 = .ok (.astore 8, 2) := by decide +kernel
theorem d_PT_plan_97 : decode prog_1_method_6_code 97 = .ok (.aload_n 0, 1) := by decide +kernel
theorem d_PT_plan_98 : decode prog_1_method_6_code 98 = .ok (.aload 8, 2) := by decide +kernel
theorem d_PT_plan_100 : decode prog_1_method_6_code 100 = .ok (.ifnull 8, 3) := by decide +kernel
theorem d_PT_plan_103 : decode prog_1_method_6_code 103 = .ok (.aload 8, 2) := by decide +kernel
theorem d_PT_plan_105 : decode prog_1_method_6_code 105 = .ok (.goto 7, 3) := by decide +kernel
theorem d_PT_plan_108 : decode prog_1_method_6_code 108 = .ok (.aload_n 0, 1) := by decide +kernel
theorem d_PT_plan_109 : decode prog_1_method_6_code 109 = .ok (.getfield 46, 3) := by decide +kernel
theorem d_PT_plan_112 : decode prog_1_method_6_code 112 = .ok (.putfield 50, 3) := by decide +kernel
theorem d_PT_plan_115 : decode prog_1_method_6_code 115 = .ok (.aload 8, 2) := by decide +kernel
theorem d_PT_plan_117 : decode prog_1_method_6_code 117 = .ok (.ifnull 7, 3) := by decide +kernel
theorem d_PT_plan_120 : decode prog_1_method_6_code 120 = .ok (.iconst 0, 1) := by decide +kernel
theorem d_PT_plan_121 : decode prog_1_method_6_code 121 = .ok (.goto 4, 3) := by decide +kernel
theorem d_PT_plan_124 : decode prog_1_method_6_code 124 = .ok (.iconst (-1), 1) := by decide +kernel
theorem d_PT_plan_125 : decode prog_1_method_6_code 125 = .ok (.ireturn, 1) := by decide +kernel
def B_PT_plan_125  (t0 : Int32) (S : gS) : Option ((String ⊕ Int32) × gS) := some (.inr t0, S)
set_option maxRecDepth 100000 in
set_option maxHeartbeats 4000000 in
theorem w_PT_plan_125 {D : va_G} {cT : Nat → ClassId} {H0 : Heap} {l : Launch} {p : Program} {e : Env} {s : State} {m : MethodId} {args : Array Value} {below : List Frame} {meth : Method} {c : Code} {S0 : gS} {S' : gS} {r : String ⊕ Int32} (hst : l.stackTraces = false) (Y : gY D cT H0 p s m args meth c prog_1_method_6_code 9 "PlanText" 8 132 S0 (Option.some Jvm.ClassFile.FieldType.int))  (t0 : Int32) (S : gS) (hden : B_PT_plan_125  t0 S = some (r, S')) {ls : Array Slot} (hl : lv_has ls 9 []) : gV D cT H0 p l e (gRm 8 132 S0) s m args below meth c (gQ D cT H0 below S0 S' (gRi r) s) S0 S (F0 m 125 ls [.int t0]) := by
  obtain ⟨X, hZ, hex, hr, hE⟩ := id Y
  have hx := X.1
  have hb := X.2.1
  unfold B_PT_plan_125 at hden
  obtain ⟨rfl, rfl⟩ := gpi hden
  exact g_iret X hr d_PT_plan_125
def B_PT_plan_112  (x8 : Option Nat) (t0 : Option Nat) (t1 : Nat) (S : gS) : Option ((String ⊕ Int32) × gS) := Option.bind (gPut S t1 0 9 (va_rf t0)) (fun S1 => gNul x8 (B_PT_plan_125  (-1) S1) (fun a2 => B_PT_plan_125  0 S1))
set_option maxRecDepth 100000 in
set_option maxHeartbeats 4000000 in
theorem w_PT_plan_112 {D : va_G} {cT : Nat → ClassId} {H0 : Heap} {l : Launch} {p : Program} {e : Env} {s : State} {m : MethodId} {args : Array Value} {below : List Frame} {meth : Method} {c : Code} {S0 : gS} {S' : gS} {r : String ⊕ Int32} (hst : l.stackTraces = false) (Y : gY D cT H0 p s m args meth c prog_1_method_6_code 9 "PlanText" 8 132 S0 (Option.some Jvm.ClassFile.FieldType.int))  (x8 : Option Nat) (t0 : Option Nat) (t1 : Nat) (S : gS) (hden : B_PT_plan_112  x8 t0 t1 S = some (r, S')) {ls : Array Slot} (hl : lv_has ls 9 [(8, va_rf x8)]) : gV D cT H0 p l e (gRm 8 132 S0) s m args below meth c (gQ D cT H0 below S0 S' (gRi r) s) S0 S (F0 m 112 ls [va_rf t0, va_rf (some t1)]) := by
  obtain ⟨X, hZ, hex, hr, hE⟩ := id Y
  have hx := X.1
  have hb := X.2.1
  unfold B_PT_plan_112 at hden
  replace hden := gb hden
  obtain ⟨S1, hv, hden⟩ := hden
  refine r_put X cl_PT (k := 9) hv (by decide) q_107 rfl g_nar g_fit d_PT_plan_112 ?_
  refine gV.lift (fun _ _ _ _ => g_aload hx hb d_PT_plan_115 (lv_at hl 0 rfl)) ?_
  rcases x8 with _ | a2
  · replace hden := gN0 hden
    refine gV.lift (fun _ _ _ _ => lv_ifnullN (tgt := 124) hx hb d_PT_plan_117 (by decide)) ?_
    refine gV.lift (fun _ _ _ _ => lv_iconst (v := (-1)) hx hb d_PT_plan_124 (by decide)) ?_
    exact w_PT_plan_125 hst Y  (-1) S1 hden (lv_sub hl [] rfl)
  · replace hden := gN1 hden
    refine gV.lift (fun _ _ _ _ => lv_ifnull hx hb d_PT_plan_117) ?_
    refine gV.lift (fun _ _ _ _ => lv_iconst (v := 0) hx hb d_PT_plan_120 (by decide)) ?_
    refine gV.lift (fun _ _ _ _ => lv_goto (tgt := 125) hx hb d_PT_plan_121 (by decide)) ?_
    exact w_PT_plan_125 hst Y  0 S1 hden (lv_sub hl [] rfl)
def B_PT_plan_11   (S : gS) : Option ((String ⊕ Int32) × gS) := Option.bind (gThr S) (fun S1 => some (.inl "java/lang/IllegalArgumentException", S1))
set_option maxRecDepth 100000 in
set_option maxHeartbeats 4000000 in
theorem w_PT_plan_11 {D : va_G} {cT : Nat → ClassId} {H0 : Heap} {l : Launch} {p : Program} {e : Env} {s : State} {m : MethodId} {args : Array Value} {below : List Frame} {meth : Method} {c : Code} {S0 : gS} {S' : gS} {r : String ⊕ Int32} (hst : l.stackTraces = false) (Y : gY D cT H0 p s m args meth c prog_1_method_6_code 9 "PlanText" 8 132 S0 (Option.some Jvm.ClassFile.FieldType.int))   (S : gS) (hden : B_PT_plan_11   S = some (r, S')) {ls : Array Slot} (hl : lv_has ls 9 []) : gV D cT H0 p l e (gRm 8 132 S0) s m args below meth c (gQ D cT H0 below S0 S' (gRi r) s) S0 S (F0 m 11 ls []) := by
  obtain ⟨X, hZ, hex, hr, hE⟩ := id Y
  have hx := X.1
  have hb := X.2.1
  unfold B_PT_plan_11 at hden
  replace hden := gb hden
  obtain ⟨S1, ht, hden⟩ := hden
  obtain ⟨hroom, rfl⟩ := gThr_spec ht
  obtain ⟨rfl, rfl⟩ := gpi hden
  exact g_throw (text := "no such kind") X hZ hex hE hst (by decide +kernel) q_533 q_19 (by decide) at_IllegalArgumentException_108 ot_IllegalArgumentException_108 hl.1 d_PT_plan_11 d_PT_plan_14 d_PT_plan_15 d_PT_plan_17 d_PT_plan_20 ⟨by decide, Nat.le_of_ble_eq_true rfl⟩ hroom
def D_PT_plan (h0 : Nat) (p0 : Int32) (p1 : Int32) (p2 : Int32) (p3 : Int32) (p4 : Int32) (S : gS) : Option ((String ⊕ Int32) × gS) := (if p0 < 1 then B_PT_plan_11  S else (if p0 ≤ 9 then gTry (D_PT_requireWithin p1 1 99 S) (fun v4 S5 => gTry (D_PT_requireWithin p2 1 999 S5) (fun v7 S8 => gTry (D_PT_requireWithin p3 0 23 S8) (fun v10 S11 => gTry (D_PT_requireDay p4 S11) (fun v13 S14 => Option.bind (gOb S14 h0 0) (fun fs17 => gB2 (D_PT_editionOf h0 p4 S14) (fun r16 S15 => Option.bind r16 (fun a18 => Option.bind (gOb S15 a18 1) (fun fs21 => gB2 (D_Ed_bestPlan a18 p0 p1 p2 p3 S15) (fun r20 S19 => gNul r20 (Option.bind (gOb S19 a18 1) (fun fs25 => gB2 (D_Ed_defaultNeeds a18 p0 S19) (fun r24 S23 => gNul r24 (Option.bind (gRf S23 h0 0 8) (fun r27 => B_PT_plan_112  none r27 h0 S23)) (fun a26 => B_PT_plan_112  (some a26) (some a26) h0 S23)))) (fun a22 => Option.bind (gRf S19 a22 5 5) (fun r28 => Option.bind (gPut S19 h0 0 9 (va_rf r28)) (fun S29 => Option.bind (gI S29 a22 5 0) (fun v30 => some (.inr v30, S29)))))))))))))) else B_PT_plan_11  S))
set_option maxRecDepth 100000 in
set_option maxHeartbeats 4000000 in
theorem c_PT_plan {D : va_G} {cT : Nat → ClassId} {H0 : Heap} {l : Launch} {S : gS} {S' : gS} {h0 : Nat} {p0 : Int32} {p1 : Int32} {p2 : Int32} {p3 : Int32} {p4 : Int32} {r : String ⊕ Int32} (hst : l.stackTraces = false) (hden : D_PT_plan h0 p0 p1 p2 p3 p4 S = some (r, S')) : gM D cT H0 l y_PT_plan (Cond.code y_PT_plan prog_1_method_6_code 9 (Option.some Jvm.ClassFile.FieldType.int)) 8 132 [va_rf (some h0), .int p0, .int p1, .int p2, .int p3, .int p4] S S' (gRi r) := by
  refine gM.ofV (by decide) ?_
  intro p e s m args below meth c s₁ B hml ea X hZ hex hr hE
  subst ea
  have Y : gY D cT H0 p s m _ meth c prog_1_method_6_code 9 "PlanText" 8 132 S (Option.some Jvm.ClassFile.FieldType.int) := ⟨X, hZ, hex, hr, hE⟩
  have hx := X.1
  have hb := X.2.1
  have hl := lv_entry ([va_rf (some h0), .int p0, .int p1, .int p2, .int p3, .int p4]) (n := 9) (Nat.le_of_ble_eq_true rfl)
  rw [lg_entry_eq]
  generalize (lg_sl ([va_rf (some h0), .int p0, .int p1, .int p2, .int p3, .int p4]) ++ List.replicate (9 - (lg_sl ([va_rf (some h0), .int p0, .int p1, .int p2, .int p3, .int p4])).length) Slot.unset).toArray = ls at hl ⊢
  have hl : lv_has ls 9 [(0, va_rf (some h0)), (1, .int p0), (2, .int p1), (3, .int p2), (4, .int p3), (5, .int p4)] := hl
  unfold D_PT_plan at hden
  refine gV.lift (fun _ _ _ _ => lv_iload_n hx hb d_PT_plan_0 rfl (lv_at hl 1 rfl)) ?_
  refine gV.lift (fun _ _ _ _ => lv_iconst (v := 1) hx hb d_PT_plan_1 (by decide)) ?_
  refine gV.lift2 (fun _ _ _ _ => lv_icmp_lt (tgt := 11) hx hb d_PT_plan_2 (by decide)) (fun hc1 => ?_) (fun hc1 => ?_)
  · replace hden := gip hc1 hden
    exact w_PT_plan_11 hst Y  S hden (lv_sub hl [] rfl)
  · replace hden := gin hc1 hden
    refine gV.lift (fun _ _ _ _ => lv_iload_n hx hb d_PT_plan_5 rfl (lv_at hl 1 rfl)) ?_
    refine gV.lift (fun _ _ _ _ => lv_bipush (v := 9) hx hb d_PT_plan_6 (by decide)) ?_
    refine gV.lift2 (fun _ _ _ _ => lv_icmp_le (tgt := 21) hx hb d_PT_plan_8 (by decide)) (fun hc2 => ?_) (fun hc2 => ?_)
    · replace hden := gip hc2 hden
      refine gV.lift (fun _ _ _ _ => lv_iload_n hx hb d_PT_plan_21 rfl (lv_at hl 2 rfl)) ?_
      refine gV.lift (fun _ _ _ _ => lv_iconst (v := 1) hx hb d_PT_plan_22 (by decide)) ?_
      refine gV.lift (fun _ _ _ _ => lv_bipush (v := 99) hx hb d_PT_plan_23 (by decide)) ?_
      replace hden := gty hden
      rcases hden with ⟨E3, hz, rfl⟩ | ⟨v4, S5, hz, hden⟩
      · exact g_outS (As := [.int p1, .int 1, .int 99]) (rest := []) X hZ hex (c_PT_requireWithin hst hz) q_242 q_1 q_240 q_241 ⟨by decide, by decide, by show _ = some 3; decide +kernel⟩ ⟨by decide, by decide⟩ hl.1 (Nat.le_of_ble_eq_true rfl) d_PT_plan_25 rfl
      refine g_callS (As := [.int p1, .int 1, .int 99]) (rest := []) X hZ (c_PT_requireWithin hst hz) q_242 q_1 q_240 q_241 ⟨by decide, by decide, by show _ = some 3; decide +kernel⟩ ⟨by decide, by decide⟩ hl.1 (Nat.le_of_ble_eq_true rfl) d_PT_plan_25 rfl rfl ?_
      refine gV.lift (fun _ _ _ _ => lv_iload_n hx hb d_PT_plan_28 rfl (lv_at hl 3 rfl)) ?_
      refine gV.lift (fun _ _ _ _ => lv_iconst (v := 1) hx hb d_PT_plan_29 (by decide)) ?_
      refine gV.lift (fun _ _ _ _ => lv_sipush (v := 999) hx hb d_PT_plan_30 (by decide)) ?_
      replace hden := gty hden
      rcases hden with ⟨E6, hz, rfl⟩ | ⟨v7, S8, hz, hden⟩
      · exact g_outS (As := [.int p2, .int 1, .int 999]) (rest := []) X hZ hex (c_PT_requireWithin hst hz) q_242 q_1 q_240 q_241 ⟨by decide, by decide, by show _ = some 3; decide +kernel⟩ ⟨by decide, by decide⟩ hl.1 (Nat.le_of_ble_eq_true rfl) d_PT_plan_33 rfl
      refine g_callS (As := [.int p2, .int 1, .int 999]) (rest := []) X hZ (c_PT_requireWithin hst hz) q_242 q_1 q_240 q_241 ⟨by decide, by decide, by show _ = some 3; decide +kernel⟩ ⟨by decide, by decide⟩ hl.1 (Nat.le_of_ble_eq_true rfl) d_PT_plan_33 rfl rfl ?_
      refine gV.lift (fun _ _ _ _ => lv_iload hx hb d_PT_plan_36 (lv_at hl 4 rfl)) ?_
      refine gV.lift (fun _ _ _ _ => lv_iconst (v := 0) hx hb d_PT_plan_38 (by decide)) ?_
      refine gV.lift (fun _ _ _ _ => lv_bipush (v := 23) hx hb d_PT_plan_39 (by decide)) ?_
      replace hden := gty hden
      rcases hden with ⟨E9, hz, rfl⟩ | ⟨v10, S11, hz, hden⟩
      · exact g_outS (As := [.int p3, .int 0, .int 23]) (rest := []) X hZ hex (c_PT_requireWithin hst hz) q_242 q_1 q_240 q_241 ⟨by decide, by decide, by show _ = some 3; decide +kernel⟩ ⟨by decide, by decide⟩ hl.1 (Nat.le_of_ble_eq_true rfl) d_PT_plan_41 rfl
      refine g_callS (As := [.int p3, .int 0, .int 23]) (rest := []) X hZ (c_PT_requireWithin hst hz) q_242 q_1 q_240 q_241 ⟨by decide, by decide, by show _ = some 3; decide +kernel⟩ ⟨by decide, by decide⟩ hl.1 (Nat.le_of_ble_eq_true rfl) d_PT_plan_41 rfl rfl ?_
      refine gV.lift (fun _ _ _ _ => lv_iload hx hb d_PT_plan_44 (lv_at hl 5 rfl)) ?_
      replace hden := gty hden
      rcases hden with ⟨E12, hz, rfl⟩ | ⟨v13, S14, hz, hden⟩
      · exact g_outS (As := [.int p4]) (rest := []) X hZ hex (c_PT_requireDay hst hz) q_239 q_1 q_237 q_238 ⟨by decide, by decide, by show _ = some 1; decide +kernel⟩ ⟨by decide, by decide⟩ hl.1 (Nat.le_of_ble_eq_true rfl) d_PT_plan_46 rfl
      refine g_callS (As := [.int p4]) (rest := []) X hZ (c_PT_requireDay hst hz) q_239 q_1 q_237 q_238 ⟨by decide, by decide, by show _ = some 1; decide +kernel⟩ ⟨by decide, by decide⟩ hl.1 (Nat.le_of_ble_eq_true rfl) d_PT_plan_46 rfl rfl ?_
      refine gV.lift (fun _ _ _ _ => g_aload_n hx hb d_PT_plan_49 rfl (lv_at hl 0 rfl)) ?_
      refine gV.lift (fun _ _ _ _ => lv_iload hx hb d_PT_plan_50 (lv_at hl 5 rfl)) ?_
      replace hden := gb hden
      obtain ⟨fs17, ho, hden⟩ := hden
      replace hden := gb2 hden
      obtain ⟨r16, S15, hz, hden⟩ := hden
      refine g_callV (As := [.int p4]) (rest := []) X hZ (c_PT_editionOf hz) cl_PT (gOb_spec ho) q_560 q_1 q_557 q_559 qp_15 ⟨by decide, by decide, by show _ = some 1; decide +kernel⟩ ⟨by decide, by decide⟩ hl.1 (Nat.le_of_ble_eq_true rfl) d_PT_plan_52 rfl rfl ?_
      refine gV.liftS (nL := 9) (lv' := [(6, va_rf r16), (0, va_rf (some h0)), (1, .int p0), (2, .int p1), (3, .int p2), (4, .int p3), (5, .int p4)]) (fun _ _ _ _ => g_astore hx hb d_PT_plan_55 hl (by decide) rfl) (fun ls hl => ?_)
      refine gV.lift (fun _ _ _ _ => g_aload hx hb d_PT_plan_57 (lv_at hl 0 rfl)) ?_
      refine gV.lift (fun _ _ _ _ => lv_iload_n hx hb d_PT_plan_59 rfl (lv_at hl 2 rfl)) ?_
      refine gV.lift (fun _ _ _ _ => lv_iload_n hx hb d_PT_plan_60 rfl (lv_at hl 3 rfl)) ?_
      refine gV.lift (fun _ _ _ _ => lv_iload_n hx hb d_PT_plan_61 rfl (lv_at hl 4 rfl)) ?_
      refine gV.lift (fun _ _ _ _ => lv_iload hx hb d_PT_plan_62 (lv_at hl 5 rfl)) ?_
      replace hden := gb hden
      obtain ⟨a18, rfl, hden⟩ := hden
      replace hden := gb hden
      obtain ⟨fs21, ho, hden⟩ := hden
      replace hden := gb2 hden
      obtain ⟨r20, S19, hz, hden⟩ := hden
      refine g_callV (As := [.int p0, .int p1, .int p2, .int p3]) (rest := []) X hZ (c_Ed_bestPlan hz) cl_Ed (gOb_spec ho) q_564 q_2 q_561 q_562 q_563 ⟨by decide, by decide, by show _ = some 4; decide +kernel⟩ ⟨by decide, by decide⟩ hl.1 (Nat.le_of_ble_eq_true rfl) d_PT_plan_64 rfl rfl ?_
      refine gV.liftS (nL := 9) (lv' := [(7, va_rf r20), (6, va_rf (some a18)), (0, va_rf (some h0)), (1, .int p0), (2, .int p1), (3, .int p2), (4, .int p3), (5, .int p4)]) (fun _ _ _ _ => g_astore hx hb d_PT_plan_67 hl (by decide) rfl) (fun ls hl => ?_)
      refine gV.lift (fun _ _ _ _ => g_aload hx hb d_PT_plan_69 (lv_at hl 0 rfl)) ?_
      rcases r20 with _ | a22
      · replace hden := gN0 hden
        refine gV.lift (fun _ _ _ _ => lv_ifnullN (tgt := 89) hx hb d_PT_plan_71 (by decide)) ?_
        refine gV.lift (fun _ _ _ _ => g_aload hx hb d_PT_plan_89 (lv_at hl 1 rfl)) ?_
        refine gV.lift (fun _ _ _ _ => lv_iload_n hx hb d_PT_plan_91 rfl (lv_at hl 3 rfl)) ?_
        replace hden := gb hden
        obtain ⟨fs25, ho, hden⟩ := hden
        replace hden := gb2 hden
        obtain ⟨r24, S23, hz, hden⟩ := hden
        refine g_callV (As := [.int p0]) (rest := []) X hZ (c_Ed_defaultNeeds hz) cl_Ed (gOb_spec ho) q_463 q_2 q_586 q_461 q_462 ⟨by decide, by decide, by show _ = some 1; decide +kernel⟩ ⟨by decide, by decide⟩ hl.1 (Nat.le_of_ble_eq_true rfl) d_PT_plan_92 rfl rfl ?_
        refine gV.liftS (nL := 9) (lv' := [(8, va_rf r24), (7, va_rf none), (6, va_rf (some a18)), (0, va_rf (some h0)), (1, .int p0), (2, .int p1), (3, .int p2), (4, .int p3), (5, .int p4)]) (fun _ _ _ _ => g_astore hx hb d_PT_plan_95 hl (by decide) rfl) (fun ls hl => ?_)
        refine gV.lift (fun _ _ _ _ => g_aload_n hx hb d_PT_plan_97 rfl (lv_at hl 3 rfl)) ?_
        refine gV.lift (fun _ _ _ _ => g_aload hx hb d_PT_plan_98 (lv_at hl 0 rfl)) ?_
        rcases r24 with _ | a26
        · replace hden := gN0 hden
          refine gV.lift (fun _ _ _ _ => lv_ifnullN (tgt := 108) hx hb d_PT_plan_100 (by decide)) ?_
          refine gV.lift (fun _ _ _ _ => g_aload_n hx hb d_PT_plan_108 rfl (lv_at hl 3 rfl)) ?_
          replace hden := gb hden
          obtain ⟨r27, hv, hden⟩ := hden
          refine r_getR X cl_PT (k := 8) hv (by decide) q_106 d_PT_plan_109 ?_
          exact w_PT_plan_112 hst Y  none r27 h0 S23 hden (lv_sub hl [0] rfl)
        · replace hden := gN1 hden
          refine gV.lift (fun _ _ _ _ => lv_ifnull hx hb d_PT_plan_100) ?_
          refine gV.lift (fun _ _ _ _ => g_aload hx hb d_PT_plan_103 (lv_at hl 0 rfl)) ?_
          refine gV.lift (fun _ _ _ _ => lv_goto (tgt := 112) hx hb d_PT_plan_105 (by decide)) ?_
          exact w_PT_plan_112 hst Y  (some a26) (some a26) h0 S23 hden (lv_sub hl [0] rfl)
      · replace hden := gN1 hden
        refine gV.lift (fun _ _ _ _ => lv_ifnull hx hb d_PT_plan_71) ?_
        refine gV.lift (fun _ _ _ _ => g_aload_n hx hb d_PT_plan_74 rfl (lv_at hl 2 rfl)) ?_
        refine gV.lift (fun _ _ _ _ => g_aload hx hb d_PT_plan_75 (lv_at hl 0 rfl)) ?_
        replace hden := gb hden
        obtain ⟨r28, hv, hden⟩ := hden
        refine r_getR X cl_Pl (k := 5) hv (by decide) q_437 d_PT_plan_77 ?_
        replace hden := gb hden
        obtain ⟨S29, hv, hden⟩ := hden
        refine r_put X cl_PT (k := 9) hv (by decide) q_107 rfl g_nar g_fit d_PT_plan_80 ?_
        refine gV.lift (fun _ _ _ _ => g_aload hx hb d_PT_plan_83 (lv_at hl 0 rfl)) ?_
        replace hden := gb hden
        obtain ⟨v30, hv, hden⟩ := hden
        refine r_getI X cl_Pl (k := 0) hv (by decide) q_424 d_PT_plan_85 ?_
        obtain ⟨rfl, rfl⟩ := gpi hden
        exact g_iret X hr d_PT_plan_88
    · replace hden := gin hc2 hden
      exact w_PT_plan_11 hst Y  S hden (lv_sub hl [] rfl)
/-! PlanText.need(II)I -/
abbrev y_PT_need : MethodName := ⟨"PlanText", "need", "(II)I"⟩
theorem d_PT_need_0 : decode prog_1_method_7_code 0 = .ok (.aload_n 0, 1) := by decide +kernel
theorem d_PT_need_1 : decode prog_1_method_7_code 1 = .ok (.getfield 50, 3) := by decide +kernel
theorem d_PT_need_4 : decode prog_1_method_7_code 4 = .ok (.iload_n 1, 1) := by decide +kernel
theorem d_PT_need_5 : decode prog_1_method_7_code 5 = .ok (.invokevirtual 128, 3) := by decide +kernel
theorem d_PT_need_8 : decode prog_1_method_7_code 8 = .ok (.astore_n 3, 1) := by decide +kernel
theorem d_PT_need_9 : decode prog_1_method_7_code 9 = .ok (.aload_n 3, 1) := by decide +kernel
theorem d_PT_need_10 : decode prog_1_method_7_code 10 = .ok (.ifnonnull 13, 3) := by decide +kernel
theorem d_PT_need_13 : decode prog_1_method_7_code 13 = .ok (.new 104, 3) := by decide +kernel
theorem d_PT_need_16 : decode prog_1_method_7_code 16 = .ok (.dup, 1) := by decide +kernel
theorem d_PT_need_17 : decode prog_1_method_7_code 17 = .ok (.ldc 132, 2) := by decide +kernel
theorem d_PT_need_19 : decode prog_1_method_7_code 19 = .ok (.invokespecial 108, 3) := by decide +kernel
theorem d_PT_need_22 : decode prog_1_method_7_code 22 = .ok (.athrow, 1) := by decide +kernel
theorem d_PT_need_23 : decode prog_1_method_7_code 23 = .ok (.iload_n 2, 1) := by decide +kernel
theorem d_PT_need_24 : decode prog_1_method_7_code 24 = .ok (.tableswitch 61 0 4 #[36, 41, 46, 51, 56], 36) := by decide +kernel
theorem d_PT_need_60 : decode prog_1_method_7_code 60 = .ok (.aload_n 3, 1) := by decide +kernel
theorem d_PT_need_61 : decode prog_1_method_7_code 61 = .ok (.getfield 134, 3) := by decide +kernel
theorem d_PT_need_64 : decode prog_1_method_7_code 64 = .ok (.ireturn, 1) := by decide +kernel
theorem d_PT_need_65 : decode prog_1_method_7_code 65 = .ok (.aload_n 3, 1) := by decide +kernel
theorem d_PT_need_66 : decode prog_1_method_7_code 66 = .ok (.getfield 138, 3) := by decide +kernel
theorem d_PT_need_69 : decode prog_1_method_7_code 69 = .ok (.ireturn, 1) := by decide +kernel
theorem d_PT_need_70 : decode prog_1_method_7_code 70 = .ok (.aload_n 3, 1) := by decide +kernel
theorem d_PT_need_71 : decode prog_1_method_7_code 71 = .ok (.getfield 141, 3) := by decide +kernel
theorem d_PT_need_74 : decode prog_1_method_7_code 74 = .ok (.ireturn, 1) := by decide +kernel
theorem d_PT_need_75 : decode prog_1_method_7_code 75 = .ok (.aload_n 3, 1) := by decide +kernel
theorem d_PT_need_76 : decode prog_1_method_7_code 76 = .ok (.getfield 144, 3) := by decide +kernel
theorem d_PT_need_79 : decode prog_1_method_7_code 79 = .ok (.ireturn, 1) := by decide +kernel
theorem d_PT_need_80 : decode prog_1_method_7_code 80 = .ok (.aload_n 3, 1) := by decide +kernel
theorem d_PT_need_81 : decode prog_1_method_7_code 81 = .ok (.getfield 147, 3) := by decide +kernel
theorem d_PT_need_84 : decode prog_1_method_7_code 84 = .ok (.ireturn, 1) := by decide +kernel
theorem d_PT_need_85 : decode prog_1_method_7_code 85 = .ok (.new 104, 3) := by decide +kernel
theorem d_PT_need_88 : decode prog_1_method_7_code 88 = .ok (.dup, 1) := by decide +kernel
theorem d_PT_need_89 : decode prog_1_method_7_code 89 = .ok (.ldc 150, 2) := by decide +kernel
theorem d_PT_need_91 : decode prog_1_method_7_code 91 = .ok (.invokespecial 108, 3) := by decide +kernel
theorem d_PT_need_94 : decode prog_1_method_7_code 94 = .ok (.athrow, 1) := by decide +kernel
def D_PT_need (h0 : Nat) (p0 : Int32) (p1 : Int32) (S : gS) : Option ((String ⊕ Int32) × gS) := Option.bind (gRf S h0 0 9) (fun r1 => Option.bind r1 (fun a2 => Option.bind (gOb S a2 4) (fun fs5 => gB2 (D_NL_needAt a2 p0 S) (fun r4 S3 => gNul r4 (Option.bind (gThr S3) (fun S7 => some (.inl "java/lang/IllegalArgumentException", S7))) (fun a6 => (if p1 = 0 then Option.bind (gI S3 a6 3 0) (fun v9 => some (.inr v9, S3)) else (if p1 = 1 then Option.bind (gI S3 a6 3 1) (fun v11 => some (.inr v11, S3)) else (if p1 = 2 then Option.bind (gI S3 a6 3 2) (fun v13 => some (.inr v13, S3)) else (if p1 = 3 then Option.bind (gI S3 a6 3 3) (fun v15 => some (.inr v15, S3)) else (if p1 = 4 then Option.bind (gI S3 a6 3 4) (fun v17 => some (.inr v17, S3)) else Option.bind (gThr S3) (fun S18 => some (.inl "java/lang/IllegalArgumentException", S18))))))))))))
set_option maxRecDepth 100000 in
set_option maxHeartbeats 4000000 in
theorem c_PT_need {D : va_G} {cT : Nat → ClassId} {H0 : Heap} {l : Launch} {S : gS} {S' : gS} {h0 : Nat} {p0 : Int32} {p1 : Int32} {r : String ⊕ Int32} (hst : l.stackTraces = false) (hden : D_PT_need h0 p0 p1 S = some (r, S')) : gM D cT H0 l y_PT_need (Cond.code y_PT_need prog_1_method_7_code 4 (Option.some Jvm.ClassFile.FieldType.int)) 6 90 [va_rf (some h0), .int p0, .int p1] S S' (gRi r) := by
  refine gM.ofV (by decide) ?_
  intro p e s m args below meth c s₁ B hml ea X hZ hex hr hE
  subst ea
  have Y : gY D cT H0 p s m _ meth c prog_1_method_7_code 4 "PlanText" 6 90 S (Option.some Jvm.ClassFile.FieldType.int) := ⟨X, hZ, hex, hr, hE⟩
  have hx := X.1
  have hb := X.2.1
  have hl := lv_entry ([va_rf (some h0), .int p0, .int p1]) (n := 4) (Nat.le_of_ble_eq_true rfl)
  rw [lg_entry_eq]
  generalize (lg_sl ([va_rf (some h0), .int p0, .int p1]) ++ List.replicate (4 - (lg_sl ([va_rf (some h0), .int p0, .int p1])).length) Slot.unset).toArray = ls at hl ⊢
  have hl : lv_has ls 4 [(0, va_rf (some h0)), (1, .int p0), (2, .int p1)] := hl
  unfold D_PT_need at hden
  refine gV.lift (fun _ _ _ _ => g_aload_n hx hb d_PT_need_0 rfl (lv_at hl 0 rfl)) ?_
  replace hden := gb hden
  obtain ⟨r1, hv, hden⟩ := hden
  refine r_getR X cl_PT (k := 9) hv (by decide) q_107 d_PT_need_1 ?_
  refine gV.lift (fun _ _ _ _ => lv_iload_n hx hb d_PT_need_4 rfl (lv_at hl 1 rfl)) ?_
  replace hden := gb hden
  obtain ⟨a2, rfl, hden⟩ := hden
  replace hden := gb hden
  obtain ⟨fs5, ho, hden⟩ := hden
  replace hden := gb2 hden
  obtain ⟨r4, S3, hz, hden⟩ := hden
  refine g_callV (As := [.int p0]) (rest := []) X hZ (c_NL_needAt hz) cl_NL (gOb_spec ho) q_597 q_3 q_594 q_595 q_596 ⟨by decide, by decide, by show _ = some 1; decide +kernel⟩ ⟨by decide, by decide⟩ hl.1 (Nat.le_of_ble_eq_true rfl) d_PT_need_5 rfl rfl ?_
  refine gV.liftS (nL := 4) (lv' := [(3, va_rf r4), (0, va_rf (some h0)), (1, .int p0), (2, .int p1)]) (fun _ _ _ _ => g_astore_n hx hb d_PT_need_8 rfl hl (by decide) rfl) (fun ls hl => ?_)
  refine gV.lift (fun _ _ _ _ => g_aload_n hx hb d_PT_need_9 rfl (lv_at hl 0 rfl)) ?_
  rcases r4 with _ | a6
  · replace hden := gN0 hden
    refine gV.lift (fun _ _ _ _ => lv_ifnonnullN hx hb d_PT_need_10) ?_
    replace hden := gb hden
    obtain ⟨S7, ht, hden⟩ := hden
    obtain ⟨hroom, rfl⟩ := gThr_spec ht
    obtain ⟨rfl, rfl⟩ := gpi hden
    exact g_throw (text := "no such need") X hZ hex hE hst (by decide +kernel) q_533 q_19 (by decide) at_IllegalArgumentException_108 ot_IllegalArgumentException_108 hl.1 d_PT_need_13 d_PT_need_16 d_PT_need_17 d_PT_need_19 d_PT_need_22 ⟨by decide, Nat.le_of_ble_eq_true rfl⟩ hroom
  · replace hden := gN1 hden
    refine gV.lift (fun _ _ _ _ => lv_ifnonnull (tgt := 23) hx hb d_PT_need_10 (by decide)) ?_
    refine gV.lift (fun _ _ _ _ => lv_iload_n hx hb d_PT_need_23 rfl (lv_at hl 3 rfl)) ?_
    by_cases hc8 : p1 = 0
    · replace hden := gip hc8 hden
      refine gV.lift (fun _ _ _ _ => lv_tableIn (tgt := 60) hx hb d_PT_need_24 (by rw [hc8]; decide) (by rw [hc8]; decide) (by rw [hc8]; rfl) (by decide)) ?_
      refine gV.lift (fun _ _ _ _ => g_aload_n hx hb d_PT_need_60 rfl (lv_at hl 0 rfl)) ?_
      replace hden := gb hden
      obtain ⟨v9, hv, hden⟩ := hden
      refine r_getI X cl_Nd (k := 0) hv (by decide) q_389 d_PT_need_61 ?_
      obtain ⟨rfl, rfl⟩ := gpi hden
      exact g_iret X hr d_PT_need_64
    replace hden := gin hc8 hden
    by_cases hc10 : p1 = 1
    · replace hden := gip hc10 hden
      refine gV.lift (fun _ _ _ _ => lv_tableIn (tgt := 65) hx hb d_PT_need_24 (by rw [hc10]; decide) (by rw [hc10]; decide) (by rw [hc10]; rfl) (by decide)) ?_
      refine gV.lift (fun _ _ _ _ => g_aload_n hx hb d_PT_need_65 rfl (lv_at hl 0 rfl)) ?_
      replace hden := gb hden
      obtain ⟨v11, hv, hden⟩ := hden
      refine r_getI X cl_Nd (k := 1) hv (by decide) q_391 d_PT_need_66 ?_
      obtain ⟨rfl, rfl⟩ := gpi hden
      exact g_iret X hr d_PT_need_69
    replace hden := gin hc10 hden
    by_cases hc12 : p1 = 2
    · replace hden := gip hc12 hden
      refine gV.lift (fun _ _ _ _ => lv_tableIn (tgt := 70) hx hb d_PT_need_24 (by rw [hc12]; decide) (by rw [hc12]; decide) (by rw [hc12]; rfl) (by decide)) ?_
      refine gV.lift (fun _ _ _ _ => g_aload_n hx hb d_PT_need_70 rfl (lv_at hl 0 rfl)) ?_
      replace hden := gb hden
      obtain ⟨v13, hv, hden⟩ := hden
      refine r_getI X cl_Nd (k := 2) hv (by decide) q_394 d_PT_need_71 ?_
      obtain ⟨rfl, rfl⟩ := gpi hden
      exact g_iret X hr d_PT_need_74
    replace hden := gin hc12 hden
    by_cases hc14 : p1 = 3
    · replace hden := gip hc14 hden
      refine gV.lift (fun _ _ _ _ => lv_tableIn (tgt := 75) hx hb d_PT_need_24 (by rw [hc14]; decide) (by rw [hc14]; decide) (by rw [hc14]; rfl) (by decide)) ?_
      refine gV.lift (fun _ _ _ _ => g_aload_n hx hb d_PT_need_75 rfl (lv_at hl 0 rfl)) ?_
      replace hden := gb hden
      obtain ⟨v15, hv, hden⟩ := hden
      refine r_getI X cl_Nd (k := 3) hv (by decide) q_397 d_PT_need_76 ?_
      obtain ⟨rfl, rfl⟩ := gpi hden
      exact g_iret X hr d_PT_need_79
    replace hden := gin hc14 hden
    by_cases hc16 : p1 = 4
    · replace hden := gip hc16 hden
      refine gV.lift (fun _ _ _ _ => lv_tableIn (tgt := 80) hx hb d_PT_need_24 (by rw [hc16]; decide) (by rw [hc16]; decide) (by rw [hc16]; rfl) (by decide)) ?_
      refine gV.lift (fun _ _ _ _ => g_aload_n hx hb d_PT_need_80 rfl (lv_at hl 0 rfl)) ?_
      replace hden := gb hden
      obtain ⟨v17, hv, hden⟩ := hden
      refine r_getI X cl_Nd (k := 4) hv (by decide) q_400 d_PT_need_81 ?_
      obtain ⟨rfl, rfl⟩ := gpi hden
      exact g_iret X hr d_PT_need_84
    replace hden := gin hc16 hden
    refine gV.lift (fun _ _ _ _ => lv_tableOut (tgt := 85) hx hb d_PT_need_24 (g_swOut (n := 5) (by decide) (fun k hk => by rcases (show k = 0 ∨ k = 1 ∨ k = 2 ∨ k = 3 ∨ k = 4 by omega) with rfl | rfl | rfl | rfl | rfl <;> assumption)) (by decide)) ?_
    replace hden := gb hden
    obtain ⟨S18, ht, hden⟩ := hden
    obtain ⟨hroom, rfl⟩ := gThr_spec ht
    obtain ⟨rfl, rfl⟩ := gpi hden
    exact g_throw (text := "no such what") X hZ hex hE hst (by decide +kernel) q_533 q_19 (by decide) at_IllegalArgumentException_108 ot_IllegalArgumentException_108 hl.1 d_PT_need_85 d_PT_need_88 d_PT_need_89 d_PT_need_91 d_PT_need_94 ⟨by decide, Nat.le_of_ble_eq_true rfl⟩ hroom
/-! PlanText.standby(IIII)I -/
abbrev y_PT_standby : MethodName := ⟨"PlanText", "standby", "(IIII)I"⟩
theorem d_PT_standby_0 : decode prog_1_method_8_code 0 = .ok (.iload_n 1, 1) := by decide +kernel
theorem d_PT_standby_1 : decode prog_1_method_8_code 1 = .ok (.invokestatic 97, 3) := by decide +kernel
theorem d_PT_standby_4 : decode prog_1_method_8_code 4 = .ok (.iload_n 2, 1) := by decide +kernel
theorem d_PT_standby_5 : decode prog_1_method_8_code 5 = .ok (.iconst 0, 1) := by decide +kernel
theorem d_PT_standby_6 : decode prog_1_method_8_code 6 = .ok (.bipush 23, 2) := by decide +kernel
theorem d_PT_standby_8 : decode prog_1_method_8_code 8 = .ok (.invokestatic 100, 3) := by decide +kernel
theorem d_PT_standby_11 : decode prog_1_method_8_code 11 = .ok (.iload_n 3, 1) := by decide +kernel
theorem d_PT_standby_12 : decode prog_1_method_8_code 12 = .ok (.iconst 0, 1) := by decide +kernel
theorem d_PT_standby_13 : decode prog_1_method_8_code 13 = .ok (.bipush 99, 2) := by decide +kernel
theorem d_PT_standby_15 : decode prog_1_method_8_code 15 = .ok (.invokestatic 100, 3) := by decide +kernel
theorem d_PT_standby_18 : decode prog_1_method_8_code 18 = .ok (.iload 4, 2) := by decide +kernel
theorem d_PT_standby_20 : decode prog_1_method_8_code 20 = .ok (.invokestatic 72, 3) := by decide +kernel
theorem d_PT_standby_23 : decode prog_1_method_8_code 23 = .ok (.aload_n 0, 1) := by decide +kernel
theorem d_PT_standby_24 : decode prog_1_method_8_code 24 = .ok (.iload 4, 2) := by decide +kernel
theorem d_PT_standby_26 : decode prog_1_method_8_code 26 = .ok (.invokevirtual 109, 3) := by decide +kernel
theorem d_PT_standby_29 : decode prog_1_method_8_code 29 = .ok (.iload_n 1, 1) := by decide +kernel
theorem d_PT_standby_30 : decode prog_1_method_8_code 30 = .ok (.iload_n 2, 1) := by decide +kernel
theorem d_PT_standby_31 : decode prog_1_method_8_code 31 = .ok (.iload_n 3, 1) := by decide +kernel
theorem d_PT_standby_32 : decode prog_1_method_8_code 32 = .ok (.invokevirtual 152, 3) := by decide +kernel
theorem d_PT_standby_35 : decode prog_1_method_8_code 35 = .ok (.ireturn, 1) := by decide +kernel
def D_PT_standby (h0 : Nat) (p0 : Int32) (p1 : Int32) (p2 : Int32) (p3 : Int32) (S : gS) : Option ((String ⊕ Int32) × gS) := gTry (D_PT_requireSkill p0 S) (fun v2 S3 => gTry (D_PT_requireWithin p1 0 23 S3) (fun v5 S6 => gTry (D_PT_requireWithin p2 0 99 S6) (fun v8 S9 => gTry (D_PT_requireDay p3 S9) (fun v11 S12 => Option.bind (gOb S12 h0 0) (fun fs15 => gB2 (D_PT_editionOf h0 p3 S12) (fun r14 S13 => Option.bind r14 (fun a16 => Option.bind (gOb S13 a16 1) (fun fs19 => gB2 (D_Ed_standbyUnits a16 p0 p1 p2 S13) (fun v18 S17 => some (.inr v18, S17))))))))))
set_option maxRecDepth 100000 in
set_option maxHeartbeats 4000000 in
theorem c_PT_standby {D : va_G} {cT : Nat → ClassId} {H0 : Heap} {l : Launch} {S : gS} {S' : gS} {h0 : Nat} {p0 : Int32} {p1 : Int32} {p2 : Int32} {p3 : Int32} {r : String ⊕ Int32} (hst : l.stackTraces = false) (hden : D_PT_standby h0 p0 p1 p2 p3 S = some (r, S')) : gM D cT H0 l y_PT_standby (Cond.code y_PT_standby prog_1_method_8_code 5 (Option.some Jvm.ClassFile.FieldType.int)) 8 132 [va_rf (some h0), .int p0, .int p1, .int p2, .int p3] S S' (gRi r) := by
  refine gM.ofV (by decide) ?_
  intro p e s m args below meth c s₁ B hml ea X hZ hex hr hE
  subst ea
  have Y : gY D cT H0 p s m _ meth c prog_1_method_8_code 5 "PlanText" 8 132 S (Option.some Jvm.ClassFile.FieldType.int) := ⟨X, hZ, hex, hr, hE⟩
  have hx := X.1
  have hb := X.2.1
  have hl := lv_entry ([va_rf (some h0), .int p0, .int p1, .int p2, .int p3]) (n := 5) (Nat.le_of_ble_eq_true rfl)
  rw [lg_entry_eq]
  generalize (lg_sl ([va_rf (some h0), .int p0, .int p1, .int p2, .int p3]) ++ List.replicate (5 - (lg_sl ([va_rf (some h0), .int p0, .int p1, .int p2, .int p3])).length) Slot.unset).toArray = ls at hl ⊢
  have hl : lv_has ls 5 [(0, va_rf (some h0)), (1, .int p0), (2, .int p1), (3, .int p2), (4, .int p3)] := hl
  unfold D_PT_standby at hden
  refine gV.lift (fun _ _ _ _ => lv_iload_n hx hb d_PT_standby_0 rfl (lv_at hl 1 rfl)) ?_
  replace hden := gty hden
  rcases hden with ⟨E1, hz, rfl⟩ | ⟨v2, S3, hz, hden⟩
  · exact g_outS (As := [.int p0]) (rest := []) X hZ hex (c_PT_requireSkill hst hz) q_532 q_1 q_530 q_531 ⟨by decide, by decide, by show _ = some 1; decide +kernel⟩ ⟨by decide, by decide⟩ hl.1 (Nat.le_of_ble_eq_true rfl) d_PT_standby_1 rfl
  refine g_callS (As := [.int p0]) (rest := []) X hZ (c_PT_requireSkill hst hz) q_532 q_1 q_530 q_531 ⟨by decide, by decide, by show _ = some 1; decide +kernel⟩ ⟨by decide, by decide⟩ hl.1 (Nat.le_of_ble_eq_true rfl) d_PT_standby_1 rfl rfl ?_
  refine gV.lift (fun _ _ _ _ => lv_iload_n hx hb d_PT_standby_4 rfl (lv_at hl 2 rfl)) ?_
  refine gV.lift (fun _ _ _ _ => lv_iconst (v := 0) hx hb d_PT_standby_5 (by decide)) ?_
  refine gV.lift (fun _ _ _ _ => lv_bipush (v := 23) hx hb d_PT_standby_6 (by decide)) ?_
  replace hden := gty hden
  rcases hden with ⟨E4, hz, rfl⟩ | ⟨v5, S6, hz, hden⟩
  · exact g_outS (As := [.int p1, .int 0, .int 23]) (rest := []) X hZ hex (c_PT_requireWithin hst hz) q_242 q_1 q_240 q_241 ⟨by decide, by decide, by show _ = some 3; decide +kernel⟩ ⟨by decide, by decide⟩ hl.1 (Nat.le_of_ble_eq_true rfl) d_PT_standby_8 rfl
  refine g_callS (As := [.int p1, .int 0, .int 23]) (rest := []) X hZ (c_PT_requireWithin hst hz) q_242 q_1 q_240 q_241 ⟨by decide, by decide, by show _ = some 3; decide +kernel⟩ ⟨by decide, by decide⟩ hl.1 (Nat.le_of_ble_eq_true rfl) d_PT_standby_8 rfl rfl ?_
  refine gV.lift (fun _ _ _ _ => lv_iload_n hx hb d_PT_standby_11 rfl (lv_at hl 3 rfl)) ?_
  refine gV.lift (fun _ _ _ _ => lv_iconst (v := 0) hx hb d_PT_standby_12 (by decide)) ?_
  refine gV.lift (fun _ _ _ _ => lv_bipush (v := 99) hx hb d_PT_standby_13 (by decide)) ?_
  replace hden := gty hden
  rcases hden with ⟨E7, hz, rfl⟩ | ⟨v8, S9, hz, hden⟩
  · exact g_outS (As := [.int p2, .int 0, .int 99]) (rest := []) X hZ hex (c_PT_requireWithin hst hz) q_242 q_1 q_240 q_241 ⟨by decide, by decide, by show _ = some 3; decide +kernel⟩ ⟨by decide, by decide⟩ hl.1 (Nat.le_of_ble_eq_true rfl) d_PT_standby_15 rfl
  refine g_callS (As := [.int p2, .int 0, .int 99]) (rest := []) X hZ (c_PT_requireWithin hst hz) q_242 q_1 q_240 q_241 ⟨by decide, by decide, by show _ = some 3; decide +kernel⟩ ⟨by decide, by decide⟩ hl.1 (Nat.le_of_ble_eq_true rfl) d_PT_standby_15 rfl rfl ?_
  refine gV.lift (fun _ _ _ _ => lv_iload hx hb d_PT_standby_18 (lv_at hl 4 rfl)) ?_
  replace hden := gty hden
  rcases hden with ⟨E10, hz, rfl⟩ | ⟨v11, S12, hz, hden⟩
  · exact g_outS (As := [.int p3]) (rest := []) X hZ hex (c_PT_requireDay hst hz) q_239 q_1 q_237 q_238 ⟨by decide, by decide, by show _ = some 1; decide +kernel⟩ ⟨by decide, by decide⟩ hl.1 (Nat.le_of_ble_eq_true rfl) d_PT_standby_20 rfl
  refine g_callS (As := [.int p3]) (rest := []) X hZ (c_PT_requireDay hst hz) q_239 q_1 q_237 q_238 ⟨by decide, by decide, by show _ = some 1; decide +kernel⟩ ⟨by decide, by decide⟩ hl.1 (Nat.le_of_ble_eq_true rfl) d_PT_standby_20 rfl rfl ?_
  refine gV.lift (fun _ _ _ _ => g_aload_n hx hb d_PT_standby_23 rfl (lv_at hl 0 rfl)) ?_
  refine gV.lift (fun _ _ _ _ => lv_iload hx hb d_PT_standby_24 (lv_at hl 4 rfl)) ?_
  replace hden := gb hden
  obtain ⟨fs15, ho, hden⟩ := hden
  replace hden := gb2 hden
  obtain ⟨r14, S13, hz, hden⟩ := hden
  refine g_callV (As := [.int p3]) (rest := []) X hZ (c_PT_editionOf hz) cl_PT (gOb_spec ho) q_560 q_1 q_557 q_559 qp_15 ⟨by decide, by decide, by show _ = some 1; decide +kernel⟩ ⟨by decide, by decide⟩ hl.1 (Nat.le_of_ble_eq_true rfl) d_PT_standby_26 rfl rfl ?_
  refine gV.lift (fun _ _ _ _ => lv_iload_n hx hb d_PT_standby_29 rfl (lv_at hl 1 rfl)) ?_
  refine gV.lift (fun _ _ _ _ => lv_iload_n hx hb d_PT_standby_30 rfl (lv_at hl 2 rfl)) ?_
  refine gV.lift (fun _ _ _ _ => lv_iload_n hx hb d_PT_standby_31 rfl (lv_at hl 3 rfl)) ?_
  replace hden := gb hden
  obtain ⟨a16, rfl, hden⟩ := hden
  replace hden := gb hden
  obtain ⟨fs19, ho, hden⟩ := hden
  replace hden := gb2 hden
  obtain ⟨v18, S17, hz, hden⟩ := hden
  refine g_callV (As := [.int p0, .int p1, .int p2]) (rest := []) X hZ (c_Ed_standbyUnits hz) cl_Ed (gOb_spec ho) q_610 q_2 q_607 q_608 q_609 ⟨by decide, by decide, by show _ = some 3; decide +kernel⟩ ⟨by decide, by decide⟩ hl.1 (Nat.le_of_ble_eq_true rfl) d_PT_standby_32 rfl rfl ?_
  obtain ⟨rfl, rfl⟩ := gpi hden
  exact g_iret X hr d_PT_standby_35
/-! PlanText.requireIndex(I)V -/
abbrev y_PT_requireIndex : MethodName := ⟨"PlanText", "requireIndex", "(I)V"⟩
theorem d_PT_requireIndex_0 : decode prog_1_method_19_code 0 = .ok (.iload_n 0, 1) := by decide +kernel
theorem d_PT_requireIndex_1 : decode prog_1_method_19_code 1 = .ok (.ifCond .ge 13, 3) := by decide +kernel
theorem d_PT_requireIndex_4 : decode prog_1_method_19_code 4 = .ok (.new 60, 3) := by decide +kernel
theorem d_PT_requireIndex_7 : decode prog_1_method_19_code 7 = .ok (.dup, 1) := by decide +kernel
theorem d_PT_requireIndex_8 : decode prog_1_method_19_code 8 = .ok (.ldc 196, 2) := by decide +kernel
theorem d_PT_requireIndex_10 : decode prog_1_method_19_code 10 = .ok (.invokespecial 64, 3) := by decide +kernel
theorem d_PT_requireIndex_13 : decode prog_1_method_19_code 13 = .ok (.athrow, 1) := by decide +kernel
theorem d_PT_requireIndex_14 : decode prog_1_method_19_code 14 = .ok (.return_, 1) := by decide +kernel
def D_PT_requireIndex (p0 : Int32) (S : gS) : Option ((String ⊕ Unit) × gS) := (if 0 ≤ p0 then some (.inr (), S) else Option.bind (gThr S) (fun S2 => some (.inl "java/lang/IndexOutOfBoundsException", S2)))
set_option maxRecDepth 100000 in
set_option maxHeartbeats 4000000 in
theorem c_PT_requireIndex {D : va_G} {cT : Nat → ClassId} {H0 : Heap} {l : Launch} {S : gS} {S' : gS} {p0 : Int32} {r : String ⊕ Unit} (hst : l.stackTraces = false) (hden : D_PT_requireIndex p0 S = some (r, S')) : gM D cT H0 l y_PT_requireIndex (Cond.code y_PT_requireIndex prog_1_method_19_code 1 (Option.none : Option Jvm.ClassFile.FieldType)) 6 90 [.int p0] S S' (gRv r) := by
  refine gM.ofV (by decide) ?_
  intro p e s m args below meth c s₁ B hml ea X hZ hex hr hE
  subst ea
  have Y : gY D cT H0 p s m _ meth c prog_1_method_19_code 1 "PlanText" 6 90 S (Option.none : Option Jvm.ClassFile.FieldType) := ⟨X, hZ, hex, hr, hE⟩
  have hx := X.1
  have hb := X.2.1
  have hl := lv_entry ([.int p0]) (n := 1) (Nat.le_of_ble_eq_true rfl)
  rw [lg_entry_eq]
  generalize (lg_sl ([.int p0]) ++ List.replicate (1 - (lg_sl ([.int p0])).length) Slot.unset).toArray = ls at hl ⊢
  have hl : lv_has ls 1 [(0, .int p0)] := hl
  unfold D_PT_requireIndex at hden
  refine gV.lift (fun _ _ _ _ => lv_iload_n hx hb d_PT_requireIndex_0 rfl (lv_at hl 0 rfl)) ?_
  refine gV.lift2 (fun _ _ _ _ => lv_if_ge (tgt := 14) hx hb d_PT_requireIndex_1 (by decide)) (fun hc1 => ?_) (fun hc1 => ?_)
  · replace hden := gip hc1 hden
    obtain ⟨rfl, rfl⟩ := gpi hden
    exact g_vret X hr d_PT_requireIndex_14
  · replace hden := gin hc1 hden
    replace hden := gb hden
    obtain ⟨S2, ht, hden⟩ := hden
    obtain ⟨hroom, rfl⟩ := gThr_spec ht
    obtain ⟨rfl, rfl⟩ := gpi hden
    exact g_throw (text := "an index below 0") X hZ hex hE hst (by decide +kernel) q_145 q_9 (by decide) at_IndexOutOfBoundsException_64 ot_IndexOutOfBoundsException_64 hl.1 d_PT_requireIndex_4 d_PT_requireIndex_7 d_PT_requireIndex_8 d_PT_requireIndex_10 d_PT_requireIndex_13 ⟨by decide, Nat.le_of_ble_eq_true rfl⟩ hroom
/-! PlanText.clash(II)I -/
abbrev y_PT_clash : MethodName := ⟨"PlanText", "clash", "(II)I"⟩
theorem d_PT_clash_0 : decode prog_1_method_9_code 0 = .ok (.iload_n 1, 1) := by decide +kernel
theorem d_PT_clash_1 : decode prog_1_method_9_code 1 = .ok (.invokestatic 72, 3) := by decide +kernel
theorem d_PT_clash_4 : decode prog_1_method_9_code 4 = .ok (.iload_n 2, 1) := by decide +kernel
theorem d_PT_clash_5 : decode prog_1_method_9_code 5 = .ok (.invokestatic 156, 3) := by decide +kernel
theorem d_PT_clash_8 : decode prog_1_method_9_code 8 = .ok (.aload_n 0, 1) := by decide +kernel
theorem d_PT_clash_9 : decode prog_1_method_9_code 9 = .ok (.iload_n 1, 1) := by decide +kernel
theorem d_PT_clash_10 : decode prog_1_method_9_code 10 = .ok (.invokevirtual 109, 3) := by decide +kernel
theorem d_PT_clash_13 : decode prog_1_method_9_code 13 = .ok (.iload_n 2, 1) := by decide +kernel
theorem d_PT_clash_14 : decode prog_1_method_9_code 14 = .ok (.invokevirtual 159, 3) := by decide +kernel
theorem d_PT_clash_17 : decode prog_1_method_9_code 17 = .ok (.ireturn, 1) := by decide +kernel
def D_PT_clash (h0 : Nat) (p0 : Int32) (p1 : Int32) (S : gS) : Option ((String ⊕ Int32) × gS) := gTry (D_PT_requireDay p0 S) (fun v2 S3 => gTry (D_PT_requireIndex p1 S3) (fun v5 S6 => Option.bind (gOb S6 h0 0) (fun fs9 => gB2 (D_PT_editionOf h0 p0 S6) (fun r8 S7 => Option.bind r8 (fun a10 => Option.bind (gOb S7 a10 1) (fun fs13 => gB2 (D_Ed_clashingPair a10 p1 S7) (fun v12 S11 => some (.inr v12, S11))))))))
set_option maxRecDepth 100000 in
set_option maxHeartbeats 4000000 in
theorem c_PT_clash {D : va_G} {cT : Nat → ClassId} {H0 : Heap} {l : Launch} {S : gS} {S' : gS} {h0 : Nat} {p0 : Int32} {p1 : Int32} {r : String ⊕ Int32} (hst : l.stackTraces = false) (hden : D_PT_clash h0 p0 p1 S = some (r, S')) : gM D cT H0 l y_PT_clash (Cond.code y_PT_clash prog_1_method_9_code 3 (Option.some Jvm.ClassFile.FieldType.int)) 8 132 [va_rf (some h0), .int p0, .int p1] S S' (gRi r) := by
  refine gM.ofV (by decide) ?_
  intro p e s m args below meth c s₁ B hml ea X hZ hex hr hE
  subst ea
  have Y : gY D cT H0 p s m _ meth c prog_1_method_9_code 3 "PlanText" 8 132 S (Option.some Jvm.ClassFile.FieldType.int) := ⟨X, hZ, hex, hr, hE⟩
  have hx := X.1
  have hb := X.2.1
  have hl := lv_entry ([va_rf (some h0), .int p0, .int p1]) (n := 3) (Nat.le_of_ble_eq_true rfl)
  rw [lg_entry_eq]
  generalize (lg_sl ([va_rf (some h0), .int p0, .int p1]) ++ List.replicate (3 - (lg_sl ([va_rf (some h0), .int p0, .int p1])).length) Slot.unset).toArray = ls at hl ⊢
  have hl : lv_has ls 3 [(0, va_rf (some h0)), (1, .int p0), (2, .int p1)] := hl
  unfold D_PT_clash at hden
  refine gV.lift (fun _ _ _ _ => lv_iload_n hx hb d_PT_clash_0 rfl (lv_at hl 1 rfl)) ?_
  replace hden := gty hden
  rcases hden with ⟨E1, hz, rfl⟩ | ⟨v2, S3, hz, hden⟩
  · exact g_outS (As := [.int p0]) (rest := []) X hZ hex (c_PT_requireDay hst hz) q_239 q_1 q_237 q_238 ⟨by decide, by decide, by show _ = some 1; decide +kernel⟩ ⟨by decide, by decide⟩ hl.1 (Nat.le_of_ble_eq_true rfl) d_PT_clash_1 rfl
  refine g_callS (As := [.int p0]) (rest := []) X hZ (c_PT_requireDay hst hz) q_239 q_1 q_237 q_238 ⟨by decide, by decide, by show _ = some 1; decide +kernel⟩ ⟨by decide, by decide⟩ hl.1 (Nat.le_of_ble_eq_true rfl) d_PT_clash_1 rfl rfl ?_
  refine gV.lift (fun _ _ _ _ => lv_iload_n hx hb d_PT_clash_4 rfl (lv_at hl 2 rfl)) ?_
  replace hden := gty hden
  rcases hden with ⟨E4, hz, rfl⟩ | ⟨v5, S6, hz, hden⟩
  · exact g_outS (As := [.int p1]) (rest := []) X hZ hex (c_PT_requireIndex hst hz) q_629 q_1 q_627 q_628 ⟨by decide, by decide, by show _ = some 1; decide +kernel⟩ ⟨by decide, by decide⟩ hl.1 (Nat.le_of_ble_eq_true rfl) d_PT_clash_5 rfl
  refine g_callS (As := [.int p1]) (rest := []) X hZ (c_PT_requireIndex hst hz) q_629 q_1 q_627 q_628 ⟨by decide, by decide, by show _ = some 1; decide +kernel⟩ ⟨by decide, by decide⟩ hl.1 (Nat.le_of_ble_eq_true rfl) d_PT_clash_5 rfl rfl ?_
  refine gV.lift (fun _ _ _ _ => g_aload_n hx hb d_PT_clash_8 rfl (lv_at hl 0 rfl)) ?_
  refine gV.lift (fun _ _ _ _ => lv_iload_n hx hb d_PT_clash_9 rfl (lv_at hl 1 rfl)) ?_
  replace hden := gb hden
  obtain ⟨fs9, ho, hden⟩ := hden
  replace hden := gb2 hden
  obtain ⟨r8, S7, hz, hden⟩ := hden
  refine g_callV (As := [.int p0]) (rest := []) X hZ (c_PT_editionOf hz) cl_PT (gOb_spec ho) q_560 q_1 q_557 q_559 qp_15 ⟨by decide, by decide, by show _ = some 1; decide +kernel⟩ ⟨by decide, by decide⟩ hl.1 (Nat.le_of_ble_eq_true rfl) d_PT_clash_10 rfl rfl ?_
  refine gV.lift (fun _ _ _ _ => lv_iload_n hx hb d_PT_clash_13 rfl (lv_at hl 2 rfl)) ?_
  replace hden := gb hden
  obtain ⟨a10, rfl, hden⟩ := hden
  replace hden := gb hden
  obtain ⟨fs13, ho, hden⟩ := hden
  replace hden := gb2 hden
  obtain ⟨v12, S11, hz, hden⟩ := hden
  refine g_callV (As := [.int p1]) (rest := []) X hZ (c_Ed_clashingPair hz) cl_Ed (gOb_spec ho) q_634 q_2 q_631 q_632 q_633 ⟨by decide, by decide, by show _ = some 1; decide +kernel⟩ ⟨by decide, by decide⟩ hl.1 (Nat.le_of_ble_eq_true rfl) d_PT_clash_14 rfl rfl ?_
  obtain ⟨rfl, rfl⟩ := gpi hden
  exact g_iret X hr d_PT_clash_17
/-! PlanText.numberAmong(JI)I -/
abbrev y_PT_numberAmong : MethodName := ⟨"PlanText", "numberAmong", "(JI)I"⟩
theorem d_PT_numberAmong_0 : decode prog_1_method_16_code 0 = .ok (.iload_n 2, 1) := by decide +kernel
theorem d_PT_numberAmong_1 : decode prog_1_method_16_code 1 = .ok (.istore_n 3, 1) := by decide +kernel
theorem d_PT_numberAmong_2 : decode prog_1_method_16_code 2 = .ok (.iconst 1, 1) := by decide +kernel
theorem d_PT_numberAmong_3 : decode prog_1_method_16_code 3 = .ok (.istore 4, 2) := by decide +kernel
theorem d_PT_numberAmong_5 : decode prog_1_method_16_code 5 = .ok (.iload 4, 2) := by decide +kernel
theorem d_PT_numberAmong_7 : decode prog_1_method_16_code 7 = .ok (.bipush 40, 2) := by decide +kernel
theorem d_PT_numberAmong_9 : decode prog_1_method_16_code 9 = .ok (.if_icmp .gt 30, 3) := by decide +kernel
theorem d_PT_numberAmong_12 : decode prog_1_method_16_code 12 = .ok (.lload_n 0, 1) := by decide +kernel
theorem d_PT_numberAmong_13 : decode prog_1_method_16_code 13 = .ok (.iload 4, 2) := by decide +kernel
theorem d_PT_numberAmong_15 : decode prog_1_method_16_code 15 = .ok (.lshr, 1) := by decide +kernel
theorem d_PT_numberAmong_16 : decode prog_1_method_16_code 16 = .ok (.lconst 1, 1) := by decide +kernel
theorem d_PT_numberAmong_17 : decode prog_1_method_16_code 17 = .ok (.land, 1) := by decide +kernel
theorem d_PT_numberAmong_18 : decode prog_1_method_16_code 18 = .ok (.lconst 0, 1) := by decide +kernel
theorem d_PT_numberAmong_19 : decode prog_1_method_16_code 19 = .ok (.lcmp, 1) := by decide +kernel
theorem d_PT_numberAmong_20 : decode prog_1_method_16_code 20 = .ok (.ifCond .eq 13, 3) := by decide +kernel
theorem d_PT_numberAmong_23 : decode prog_1_method_16_code 23 = .ok (.iload_n 3, 1) := by decide +kernel
theorem d_PT_numberAmong_24 : decode prog_1_method_16_code 24 = .ok (.ifCond .ne 6, 3) := by decide +kernel
theorem d_PT_numberAmong_27 : decode prog_1_method_16_code 27 = .ok (.iload 4, 2) := by decide +kernel
theorem d_PT_numberAmong_29 : decode prog_1_method_16_code 29 = .ok (.ireturn, 1) := by decide +kernel
theorem d_PT_numberAmong_30 : decode prog_1_method_16_code 30 = .ok (.iinc 3 (-1), 3) := by decide +kernel
theorem d_PT_numberAmong_33 : decode prog_1_method_16_code 33 = .ok (.iinc 4 1, 3) := by decide +kernel
theorem d_PT_numberAmong_36 : decode prog_1_method_16_code 36 = .ok (.goto (-31), 3) := by decide +kernel
theorem d_PT_numberAmong_39 : decode prog_1_method_16_code 39 = .ok (.iconst (-1), 1) := by decide +kernel
theorem d_PT_numberAmong_40 : decode prog_1_method_16_code 40 = .ok (.ireturn, 1) := by decide +kernel
def B_PT_numberAmong_33 (k5 : Int64 → Int32 → Int32 → gS → Option (Int32 × gS)) (x0 : Int64) (x3 : Int32) (x4 : Int32) (S : gS) : Option (Int32 × gS) := k5 x0 x3 (x4 + 1) S
set_option maxRecDepth 100000 in
set_option maxHeartbeats 4000000 in
theorem w_PT_numberAmong_33 {D : va_G} {cT : Nat → ClassId} {H0 : Heap} {l : Launch} {p : Program} {e : Env} {s : State} {m : MethodId} {args : Array Value} {below : List Frame} {meth : Method} {c : Code} {S0 : gS} {S' : gS} {r : Int32} (Y : gY D cT H0 p s m args meth c prog_1_method_16_code 5 "PlanText" 0 0 S0 (Option.some Jvm.ClassFile.FieldType.int)) {k5 : Int64 → Int32 → Int32 → gS → Option (Int32 × gS)} (hk5 : ∀ (x0 : Int64) (x3 : Int32) (x4 : Int32) (S : gS) (ls : Array Slot), k5 x0 x3 x4 S = some (r, S') → lv_has ls 5 [(0, .long x0), (3, .int x3), (4, .int x4)] → gV D cT H0 p l e (gRm 0 0 S0) s m args below meth c (gQ D cT H0 below S0 S' (.inr (some (.int r))) s) S0 S (F0 m 5 ls [])) (x0 : Int64) (x3 : Int32) (x4 : Int32) (S : gS) (hden : B_PT_numberAmong_33 k5 x0 x3 x4 S = some (r, S')) {ls : Array Slot} (hl : lv_has ls 5 [(0, .long x0), (3, .int x3), (4, .int x4)]) : gV D cT H0 p l e (gRm 0 0 S0) s m args below meth c (gQ D cT H0 below S0 S' (.inr (some (.int r))) s) S0 S (F0 m 33 ls []) := by
  obtain ⟨X, hZ, hex, hr, hE⟩ := id Y
  have hx := X.1
  have hb := X.2.1
  unfold B_PT_numberAmong_33 at hden
  refine gV.liftS (nL := 5) (lv' := [(4, .int (x4 + 1)), (0, .long x0), (3, .int x3)]) (fun _ _ _ _ => lv_iinc (v := (x4 + 1)) hx hb d_PT_numberAmong_33 hl (k := 2) rfl rfl (by decide) rfl) (fun ls hl => ?_)
  refine gV.lift (fun _ _ _ _ => lv_goto (tgt := 5) hx hb d_PT_numberAmong_36 (by decide)) ?_
  exact hk5 x0 x3 (x4 + 1) S _ hden (lv_sub hl [1, 2, 0] rfl)
def B_PT_numberAmong_5 (k5 : Int64 → Int32 → Int32 → gS → Option (Int32 × gS)) (x0 : Int64) (x3 : Int32) (x4 : Int32) (S : gS) : Option (Int32 × gS) := (if 40 < x4 then some ((-1), S) else (if (lg_cmp ((x0 >>> (x4.toInt64 &&& 63)) &&& 1) 0) = 0 then B_PT_numberAmong_33 k5 x0 x3 x4 S else (if x3 = 0 then some (x4, S) else B_PT_numberAmong_33 k5 x0 (x3 + (-1)) x4 S)))
set_option maxRecDepth 100000 in
set_option maxHeartbeats 4000000 in
theorem w_PT_numberAmong_5 {D : va_G} {cT : Nat → ClassId} {H0 : Heap} {l : Launch} {p : Program} {e : Env} {s : State} {m : MethodId} {args : Array Value} {below : List Frame} {meth : Method} {c : Code} {S0 : gS} {S' : gS} {r : Int32} (Y : gY D cT H0 p s m args meth c prog_1_method_16_code 5 "PlanText" 0 0 S0 (Option.some Jvm.ClassFile.FieldType.int)) {k5 : Int64 → Int32 → Int32 → gS → Option (Int32 × gS)} (hk5 : ∀ (x0 : Int64) (x3 : Int32) (x4 : Int32) (S : gS) (ls : Array Slot), k5 x0 x3 x4 S = some (r, S') → lv_has ls 5 [(0, .long x0), (3, .int x3), (4, .int x4)] → gV D cT H0 p l e (gRm 0 0 S0) s m args below meth c (gQ D cT H0 below S0 S' (.inr (some (.int r))) s) S0 S (F0 m 5 ls [])) (x0 : Int64) (x3 : Int32) (x4 : Int32) (S : gS) (hden : B_PT_numberAmong_5 k5 x0 x3 x4 S = some (r, S')) {ls : Array Slot} (hl : lv_has ls 5 [(0, .long x0), (3, .int x3), (4, .int x4)]) : gV D cT H0 p l e (gRm 0 0 S0) s m args below meth c (gQ D cT H0 below S0 S' (.inr (some (.int r))) s) S0 S (F0 m 5 ls []) := by
  obtain ⟨X, hZ, hex, hr, hE⟩ := id Y
  have hx := X.1
  have hb := X.2.1
  unfold B_PT_numberAmong_5 at hden
  refine gV.lift (fun _ _ _ _ => lv_iload hx hb d_PT_numberAmong_5 (lv_at hl 2 rfl)) ?_
  refine gV.lift (fun _ _ _ _ => lv_bipush (v := 40) hx hb d_PT_numberAmong_7 (by decide)) ?_
  refine gV.lift2 (fun _ _ _ _ => lv_icmp_gt (tgt := 39) hx hb d_PT_numberAmong_9 (by decide)) (fun hc1 => ?_) (fun hc1 => ?_)
  · replace hden := gip hc1 hden
    refine gV.lift (fun _ _ _ _ => lv_iconst (v := (-1)) hx hb d_PT_numberAmong_39 (by decide)) ?_
    obtain ⟨rfl, rfl⟩ := gpi hden
    exact g_iret X hr d_PT_numberAmong_40
  · replace hden := gin hc1 hden
    refine gV.lift (fun _ _ _ _ => lv_lload_n hx hb d_PT_numberAmong_12 rfl (lv_at hl 0 rfl)) ?_
    refine gV.lift (fun _ _ _ _ => lv_iload hx hb d_PT_numberAmong_13 (lv_at hl 2 rfl)) ?_
    refine gV.lift (fun _ _ _ _ => lv_lshr (v := (x0 >>> (x4.toInt64 &&& 63))) hx hb d_PT_numberAmong_15 rfl) ?_
    refine gV.lift (fun _ _ _ _ => lv_lconst (v := 1) hx hb d_PT_numberAmong_16 (by decide)) ?_
    refine gV.lift (fun _ _ _ _ => lv_land hx hb d_PT_numberAmong_17) ?_
    refine gV.lift (fun _ _ _ _ => lv_lconst (v := 0) hx hb d_PT_numberAmong_18 (by decide)) ?_
    refine gV.lift (fun _ _ _ _ => W.lcmp hx hb d_PT_numberAmong_19) ?_
    refine gV.lift2 (fun _ _ _ _ => lv_if_eq (tgt := 33) hx hb d_PT_numberAmong_20 (by decide)) (fun hc2 => ?_) (fun hc2 => ?_)
    · replace hden := gip hc2 hden
      exact w_PT_numberAmong_33 Y hk5 x0 x3 x4 S hden (lv_sub hl [0, 1, 2] rfl)
    · replace hden := gin hc2 hden
      refine gV.lift (fun _ _ _ _ => lv_iload_n hx hb d_PT_numberAmong_23 rfl (lv_at hl 1 rfl)) ?_
      refine gV.lift2 (fun _ _ _ _ => lv_if_ne (tgt := 30) hx hb d_PT_numberAmong_24 (by decide)) (fun hc3 => ?_) (fun hc3 => ?_)
      · replace hden := gin hc3 hden
        refine gV.liftS (nL := 5) (lv' := [(3, .int (x3 + (-1))), (0, .long x0), (4, .int x4)]) (fun _ _ _ _ => lv_iinc (v := (x3 + (-1))) hx hb d_PT_numberAmong_30 hl (k := 1) rfl rfl (by decide) rfl) (fun ls hl => ?_)
        exact w_PT_numberAmong_33 Y hk5 x0 (x3 + (-1)) x4 S hden (lv_sub hl [1, 0, 2] rfl)
      · replace hden := gip hc3 hden
        refine gV.lift (fun _ _ _ _ => lv_iload hx hb d_PT_numberAmong_27 (lv_at hl 2 rfl)) ?_
        obtain ⟨rfl, rfl⟩ := gpi hden
        exact g_iret X hr d_PT_numberAmong_29
def L_PT_numberAmong_5  : Nat → Int64 → Int32 → Int32 → gS → Option (Int32 × gS)
  | 0 => fun _ _ _ _ => none
  | n + 1 => fun x0 x3 x4 S => B_PT_numberAmong_5  (L_PT_numberAmong_5  n) x0 x3 x4 S
theorem wL_PT_numberAmong_5 {D : va_G} {cT : Nat → ClassId} {H0 : Heap} {l : Launch} {p : Program} {e : Env} {s : State} {m : MethodId} {args : Array Value} {below : List Frame} {meth : Method} {c : Code} {S0 : gS} {S' : gS} {r : Int32} (Y : gY D cT H0 p s m args meth c prog_1_method_16_code 5 "PlanText" 0 0 S0 (Option.some Jvm.ClassFile.FieldType.int))  : ∀ (n : Nat) (x0 : Int64) (x3 : Int32) (x4 : Int32) (S : gS) (ls : Array Slot), L_PT_numberAmong_5  n x0 x3 x4 S = some (r, S') → lv_has ls 5 [(0, .long x0), (3, .int x3), (4, .int x4)] → gV D cT H0 p l e (gRm 0 0 S0) s m args below meth c (gQ D cT H0 below S0 S' (.inr (some (.int r))) s) S0 S (F0 m 5 ls []) := by
  intro n
  induction n with
  | zero => intro x0 x3 x4 S ls h hl; cases h
  | succ n ih => intro x0 x3 x4 S ls h hl; exact w_PT_numberAmong_5 Y ih x0 x3 x4 S h hl
def D_PT_numberAmong (p0 : Int64) (p1 : Int32) (S : gS) : Option (Int32 × gS) := L_PT_numberAmong_5  gF p0 p1 1 S
set_option maxRecDepth 100000 in
set_option maxHeartbeats 4000000 in
theorem c_PT_numberAmong {D : va_G} {cT : Nat → ClassId} {H0 : Heap} {l : Launch} {S : gS} {S' : gS} {p0 : Int64} {p1 : Int32} {r : Int32} (hden : D_PT_numberAmong p0 p1 S = some (r, S')) : gM D cT H0 l y_PT_numberAmong (Cond.code y_PT_numberAmong prog_1_method_16_code 5 (Option.some Jvm.ClassFile.FieldType.int)) 0 0 [.long p0, .int p1] S S' (.inr (some (.int r))) := by
  refine gM.ofV (by decide) ?_
  intro p e s m args below meth c s₁ B hml ea X hZ hex hr hE
  subst ea
  have Y : gY D cT H0 p s m _ meth c prog_1_method_16_code 5 "PlanText" 0 0 S (Option.some Jvm.ClassFile.FieldType.int) := ⟨X, hZ, hex, hr, hE⟩
  have hx := X.1
  have hb := X.2.1
  have hl := lv_entry ([.long p0, .int p1]) (n := 5) (Nat.le_of_ble_eq_true rfl)
  rw [lg_entry_eq]
  generalize (lg_sl ([.long p0, .int p1]) ++ List.replicate (5 - (lg_sl ([.long p0, .int p1])).length) Slot.unset).toArray = ls at hl ⊢
  have hl : lv_has ls 5 [(0, .long p0), (2, .int p1)] := hl
  unfold D_PT_numberAmong at hden
  refine gV.lift (fun _ _ _ _ => lv_iload_n hx hb d_PT_numberAmong_0 rfl (lv_at hl 1 rfl)) ?_
  refine gV.liftS (nL := 5) (lv' := [(3, .int p1), (0, .long p0), (2, .int p1)]) (fun _ _ _ _ => lv_istore_n hx hb d_PT_numberAmong_1 rfl hl (by decide) rfl) (fun ls hl => ?_)
  refine gV.lift (fun _ _ _ _ => lv_iconst (v := 1) hx hb d_PT_numberAmong_2 (by decide)) ?_
  refine gV.liftS (nL := 5) (lv' := [(4, .int 1), (3, .int p1), (0, .long p0), (2, .int p1)]) (fun _ _ _ _ => lv_istore hx hb d_PT_numberAmong_3 hl (by decide) rfl) (fun ls hl => ?_)
  exact wL_PT_numberAmong_5 Y  gF p0 p1 1 S _ hden (lv_sub hl [2, 1, 0] rfl)
/-! PlanText.never(II)I -/
abbrev y_PT_never : MethodName := ⟨"PlanText", "never", "(II)I"⟩
theorem d_PT_never_0 : decode prog_1_method_10_code 0 = .ok (.iload_n 1, 1) := by decide +kernel
theorem d_PT_never_1 : decode prog_1_method_10_code 1 = .ok (.invokestatic 72, 3) := by decide +kernel
theorem d_PT_never_4 : decode prog_1_method_10_code 4 = .ok (.iload_n 2, 1) := by decide +kernel
theorem d_PT_never_5 : decode prog_1_method_10_code 5 = .ok (.invokestatic 156, 3) := by decide +kernel
theorem d_PT_never_8 : decode prog_1_method_10_code 8 = .ok (.aload_n 0, 1) := by decide +kernel
theorem d_PT_never_9 : decode prog_1_method_10_code 9 = .ok (.iload_n 1, 1) := by decide +kernel
theorem d_PT_never_10 : decode prog_1_method_10_code 10 = .ok (.invokevirtual 109, 3) := by decide +kernel
theorem d_PT_never_13 : decode prog_1_method_10_code 13 = .ok (.invokevirtual 163, 3) := by decide +kernel
theorem d_PT_never_16 : decode prog_1_method_10_code 16 = .ok (.iload_n 2, 1) := by decide +kernel
theorem d_PT_never_17 : decode prog_1_method_10_code 17 = .ok (.invokestatic 167, 3) := by decide +kernel
theorem d_PT_never_20 : decode prog_1_method_10_code 20 = .ok (.ireturn, 1) := by decide +kernel
def D_PT_never (h0 : Nat) (p0 : Int32) (p1 : Int32) (S : gS) : Option ((String ⊕ Int32) × gS) := gTry (D_PT_requireDay p0 S) (fun v2 S3 => gTry (D_PT_requireIndex p1 S3) (fun v5 S6 => Option.bind (gOb S6 h0 0) (fun fs9 => gB2 (D_PT_editionOf h0 p0 S6) (fun r8 S7 => Option.bind r8 (fun a10 => Option.bind (gOb S7 a10 1) (fun fs13 => gB2 (D_Ed_plansNeverMet a10 S7) (fun v12 S11 => gB2 (D_PT_numberAmong v12 p1 S11) (fun v15 S14 => some (.inr v15, S14)))))))))
set_option maxRecDepth 100000 in
set_option maxHeartbeats 4000000 in
theorem c_PT_never {D : va_G} {cT : Nat → ClassId} {H0 : Heap} {l : Launch} {S : gS} {S' : gS} {h0 : Nat} {p0 : Int32} {p1 : Int32} {r : String ⊕ Int32} (hst : l.stackTraces = false) (hden : D_PT_never h0 p0 p1 S = some (r, S')) : gM D cT H0 l y_PT_never (Cond.code y_PT_never prog_1_method_10_code 3 (Option.some Jvm.ClassFile.FieldType.int)) 8 132 [va_rf (some h0), .int p0, .int p1] S S' (gRi r) := by
  refine gM.ofV (by decide) ?_
  intro p e s m args below meth c s₁ B hml ea X hZ hex hr hE
  subst ea
  have Y : gY D cT H0 p s m _ meth c prog_1_method_10_code 3 "PlanText" 8 132 S (Option.some Jvm.ClassFile.FieldType.int) := ⟨X, hZ, hex, hr, hE⟩
  have hx := X.1
  have hb := X.2.1
  have hl := lv_entry ([va_rf (some h0), .int p0, .int p1]) (n := 3) (Nat.le_of_ble_eq_true rfl)
  rw [lg_entry_eq]
  generalize (lg_sl ([va_rf (some h0), .int p0, .int p1]) ++ List.replicate (3 - (lg_sl ([va_rf (some h0), .int p0, .int p1])).length) Slot.unset).toArray = ls at hl ⊢
  have hl : lv_has ls 3 [(0, va_rf (some h0)), (1, .int p0), (2, .int p1)] := hl
  unfold D_PT_never at hden
  refine gV.lift (fun _ _ _ _ => lv_iload_n hx hb d_PT_never_0 rfl (lv_at hl 1 rfl)) ?_
  replace hden := gty hden
  rcases hden with ⟨E1, hz, rfl⟩ | ⟨v2, S3, hz, hden⟩
  · exact g_outS (As := [.int p0]) (rest := []) X hZ hex (c_PT_requireDay hst hz) q_239 q_1 q_237 q_238 ⟨by decide, by decide, by show _ = some 1; decide +kernel⟩ ⟨by decide, by decide⟩ hl.1 (Nat.le_of_ble_eq_true rfl) d_PT_never_1 rfl
  refine g_callS (As := [.int p0]) (rest := []) X hZ (c_PT_requireDay hst hz) q_239 q_1 q_237 q_238 ⟨by decide, by decide, by show _ = some 1; decide +kernel⟩ ⟨by decide, by decide⟩ hl.1 (Nat.le_of_ble_eq_true rfl) d_PT_never_1 rfl rfl ?_
  refine gV.lift (fun _ _ _ _ => lv_iload_n hx hb d_PT_never_4 rfl (lv_at hl 2 rfl)) ?_
  replace hden := gty hden
  rcases hden with ⟨E4, hz, rfl⟩ | ⟨v5, S6, hz, hden⟩
  · exact g_outS (As := [.int p1]) (rest := []) X hZ hex (c_PT_requireIndex hst hz) q_629 q_1 q_627 q_628 ⟨by decide, by decide, by show _ = some 1; decide +kernel⟩ ⟨by decide, by decide⟩ hl.1 (Nat.le_of_ble_eq_true rfl) d_PT_never_5 rfl
  refine g_callS (As := [.int p1]) (rest := []) X hZ (c_PT_requireIndex hst hz) q_629 q_1 q_627 q_628 ⟨by decide, by decide, by show _ = some 1; decide +kernel⟩ ⟨by decide, by decide⟩ hl.1 (Nat.le_of_ble_eq_true rfl) d_PT_never_5 rfl rfl ?_
  refine gV.lift (fun _ _ _ _ => g_aload_n hx hb d_PT_never_8 rfl (lv_at hl 0 rfl)) ?_
  refine gV.lift (fun _ _ _ _ => lv_iload_n hx hb d_PT_never_9 rfl (lv_at hl 1 rfl)) ?_
  replace hden := gb hden
  obtain ⟨fs9, ho, hden⟩ := hden
  replace hden := gb2 hden
  obtain ⟨r8, S7, hz, hden⟩ := hden
  refine g_callV (As := [.int p0]) (rest := []) X hZ (c_PT_editionOf hz) cl_PT (gOb_spec ho) q_560 q_1 q_557 q_559 qp_15 ⟨by decide, by decide, by show _ = some 1; decide +kernel⟩ ⟨by decide, by decide⟩ hl.1 (Nat.le_of_ble_eq_true rfl) d_PT_never_10 rfl rfl ?_
  replace hden := gb hden
  obtain ⟨a10, rfl, hden⟩ := hden
  replace hden := gb hden
  obtain ⟨fs13, ho, hden⟩ := hden
  replace hden := gb2 hden
  obtain ⟨v12, S11, hz, hden⟩ := hden
  refine g_callV (As := []) (rest := []) X hZ (c_Ed_plansNeverMet hz) cl_Ed (gOb_spec ho) q_653 q_2 q_650 q_651 q_652 ⟨by decide, by decide, by show _ = some 0; decide +kernel⟩ ⟨by decide, by decide⟩ hl.1 (Nat.le_of_ble_eq_true rfl) d_PT_never_13 rfl rfl ?_
  refine gV.lift (fun _ _ _ _ => lv_iload_n hx hb d_PT_never_16 rfl (lv_at hl 2 rfl)) ?_
  replace hden := gb2 hden
  obtain ⟨v15, S14, hz, hden⟩ := hden
  refine g_callS (As := [.long v12, .int p1]) (rest := []) X hZ (c_PT_numberAmong hz) q_669 q_1 q_667 q_668 ⟨by decide, by decide, by show _ = some 2; decide +kernel⟩ ⟨by decide, by decide⟩ hl.1 (Nat.le_of_ble_eq_true rfl) d_PT_never_17 rfl rfl ?_
  obtain ⟨rfl, rfl⟩ := gpi hden
  exact g_iret X hr d_PT_never_20
/-! PlanText.lacks(II)I -/
abbrev y_PT_lacks : MethodName := ⟨"PlanText", "lacks", "(II)I"⟩
theorem d_PT_lacks_0 : decode prog_1_method_11_code 0 = .ok (.iload_n 1, 1) := by decide +kernel
theorem d_PT_lacks_1 : decode prog_1_method_11_code 1 = .ok (.invokestatic 72, 3) := by decide +kernel
theorem d_PT_lacks_4 : decode prog_1_method_11_code 4 = .ok (.iload_n 2, 1) := by decide +kernel
theorem d_PT_lacks_5 : decode prog_1_method_11_code 5 = .ok (.invokestatic 156, 3) := by decide +kernel
theorem d_PT_lacks_8 : decode prog_1_method_11_code 8 = .ok (.aload_n 0, 1) := by decide +kernel
theorem d_PT_lacks_9 : decode prog_1_method_11_code 9 = .ok (.iload_n 1, 1) := by decide +kernel
theorem d_PT_lacks_10 : decode prog_1_method_11_code 10 = .ok (.invokevirtual 109, 3) := by decide +kernel
theorem d_PT_lacks_13 : decode prog_1_method_11_code 13 = .ok (.aload_n 0, 1) := by decide +kernel
theorem d_PT_lacks_14 : decode prog_1_method_11_code 14 = .ok (.getfield 20, 3) := by decide +kernel
theorem d_PT_lacks_17 : decode prog_1_method_11_code 17 = .ok (.invokevirtual 171, 3) := by decide +kernel
theorem d_PT_lacks_20 : decode prog_1_method_11_code 20 = .ok (.iload_n 2, 1) := by decide +kernel
theorem d_PT_lacks_21 : decode prog_1_method_11_code 21 = .ok (.invokestatic 167, 3) := by decide +kernel
theorem d_PT_lacks_24 : decode prog_1_method_11_code 24 = .ok (.ireturn, 1) := by decide +kernel
def D_PT_lacks (h0 : Nat) (p0 : Int32) (p1 : Int32) (S : gS) : Option ((String ⊕ Int32) × gS) := gTry (D_PT_requireDay p0 S) (fun v2 S3 => gTry (D_PT_requireIndex p1 S3) (fun v5 S6 => Option.bind (gOb S6 h0 0) (fun fs9 => gB2 (D_PT_editionOf h0 p0 S6) (fun r8 S7 => Option.bind (gRf S7 h0 0 3) (fun r10 => Option.bind r8 (fun a11 => Option.bind (gOb S7 a11 1) (fun fs14 => gB2 (D_Ed_plansLacking a11 r10 S7) (fun v13 S12 => gB2 (D_PT_numberAmong v13 p1 S12) (fun v16 S15 => some (.inr v16, S15))))))))))
set_option maxRecDepth 100000 in
set_option maxHeartbeats 4000000 in
theorem c_PT_lacks {D : va_G} {cT : Nat → ClassId} {H0 : Heap} {l : Launch} {S : gS} {S' : gS} {h0 : Nat} {p0 : Int32} {p1 : Int32} {r : String ⊕ Int32} (hst : l.stackTraces = false) (hden : D_PT_lacks h0 p0 p1 S = some (r, S')) : gM D cT H0 l y_PT_lacks (Cond.code y_PT_lacks prog_1_method_11_code 3 (Option.some Jvm.ClassFile.FieldType.int)) 8 132 [va_rf (some h0), .int p0, .int p1] S S' (gRi r) := by
  refine gM.ofV (by decide) ?_
  intro p e s m args below meth c s₁ B hml ea X hZ hex hr hE
  subst ea
  have Y : gY D cT H0 p s m _ meth c prog_1_method_11_code 3 "PlanText" 8 132 S (Option.some Jvm.ClassFile.FieldType.int) := ⟨X, hZ, hex, hr, hE⟩
  have hx := X.1
  have hb := X.2.1
  have hl := lv_entry ([va_rf (some h0), .int p0, .int p1]) (n := 3) (Nat.le_of_ble_eq_true rfl)
  rw [lg_entry_eq]
  generalize (lg_sl ([va_rf (some h0), .int p0, .int p1]) ++ List.replicate (3 - (lg_sl ([va_rf (some h0), .int p0, .int p1])).length) Slot.unset).toArray = ls at hl ⊢
  have hl : lv_has ls 3 [(0, va_rf (some h0)), (1, .int p0), (2, .int p1)] := hl
  unfold D_PT_lacks at hden
  refine gV.lift (fun _ _ _ _ => lv_iload_n hx hb d_PT_lacks_0 rfl (lv_at hl 1 rfl)) ?_
  replace hden := gty hden
  rcases hden with ⟨E1, hz, rfl⟩ | ⟨v2, S3, hz, hden⟩
  · exact g_outS (As := [.int p0]) (rest := []) X hZ hex (c_PT_requireDay hst hz) q_239 q_1 q_237 q_238 ⟨by decide, by decide, by show _ = some 1; decide +kernel⟩ ⟨by decide, by decide⟩ hl.1 (Nat.le_of_ble_eq_true rfl) d_PT_lacks_1 rfl
  refine g_callS (As := [.int p0]) (rest := []) X hZ (c_PT_requireDay hst hz) q_239 q_1 q_237 q_238 ⟨by decide, by decide, by show _ = some 1; decide +kernel⟩ ⟨by decide, by decide⟩ hl.1 (Nat.le_of_ble_eq_true rfl) d_PT_lacks_1 rfl rfl ?_
  refine gV.lift (fun _ _ _ _ => lv_iload_n hx hb d_PT_lacks_4 rfl (lv_at hl 2 rfl)) ?_
  replace hden := gty hden
  rcases hden with ⟨E4, hz, rfl⟩ | ⟨v5, S6, hz, hden⟩
  · exact g_outS (As := [.int p1]) (rest := []) X hZ hex (c_PT_requireIndex hst hz) q_629 q_1 q_627 q_628 ⟨by decide, by decide, by show _ = some 1; decide +kernel⟩ ⟨by decide, by decide⟩ hl.1 (Nat.le_of_ble_eq_true rfl) d_PT_lacks_5 rfl
  refine g_callS (As := [.int p1]) (rest := []) X hZ (c_PT_requireIndex hst hz) q_629 q_1 q_627 q_628 ⟨by decide, by decide, by show _ = some 1; decide +kernel⟩ ⟨by decide, by decide⟩ hl.1 (Nat.le_of_ble_eq_true rfl) d_PT_lacks_5 rfl rfl ?_
  refine gV.lift (fun _ _ _ _ => g_aload_n hx hb d_PT_lacks_8 rfl (lv_at hl 0 rfl)) ?_
  refine gV.lift (fun _ _ _ _ => lv_iload_n hx hb d_PT_lacks_9 rfl (lv_at hl 1 rfl)) ?_
  replace hden := gb hden
  obtain ⟨fs9, ho, hden⟩ := hden
  replace hden := gb2 hden
  obtain ⟨r8, S7, hz, hden⟩ := hden
  refine g_callV (As := [.int p0]) (rest := []) X hZ (c_PT_editionOf hz) cl_PT (gOb_spec ho) q_560 q_1 q_557 q_559 qp_15 ⟨by decide, by decide, by show _ = some 1; decide +kernel⟩ ⟨by decide, by decide⟩ hl.1 (Nat.le_of_ble_eq_true rfl) d_PT_lacks_10 rfl rfl ?_
  refine gV.lift (fun _ _ _ _ => g_aload_n hx hb d_PT_lacks_13 rfl (lv_at hl 0 rfl)) ?_
  replace hden := gb hden
  obtain ⟨r10, hv, hden⟩ := hden
  refine r_getR X cl_PT (k := 3) hv (by decide) q_101 d_PT_lacks_14 ?_
  replace hden := gb hden
  obtain ⟨a11, rfl, hden⟩ := hden
  replace hden := gb hden
  obtain ⟨fs14, ho, hden⟩ := hden
  replace hden := gb2 hden
  obtain ⟨v13, S12, hz, hden⟩ := hden
  refine g_callV (As := [va_rf r10]) (rest := []) X hZ (c_Ed_plansLacking hz) cl_Ed (gOb_spec ho) q_680 q_2 q_677 q_678 q_679 ⟨by decide, by decide, by show _ = some 1; decide +kernel⟩ ⟨by decide, by decide⟩ hl.1 (Nat.le_of_ble_eq_true rfl) d_PT_lacks_17 rfl rfl ?_
  refine gV.lift (fun _ _ _ _ => lv_iload_n hx hb d_PT_lacks_20 rfl (lv_at hl 2 rfl)) ?_
  replace hden := gb2 hden
  obtain ⟨v16, S15, hz, hden⟩ := hden
  refine g_callS (As := [.long v13, .int p1]) (rest := []) X hZ (c_PT_numberAmong hz) q_669 q_1 q_667 q_668 ⟨by decide, by decide, by show _ = some 2; decide +kernel⟩ ⟨by decide, by decide⟩ hl.1 (Nat.le_of_ble_eq_true rfl) d_PT_lacks_21 rfl rfl ?_
  obtain ⟨rfl, rfl⟩ := gpi hden
  exact g_iret X hr d_PT_lacks_24
/-! PlanText.print(I)I -/
abbrev y_PT_print : MethodName := ⟨"PlanText", "print", "(I)I"⟩
theorem d_PT_print_0 : decode prog_1_method_12_code 0 = .ok (.iload_n 1, 1) := by decide +kernel
theorem d_PT_print_1 : decode prog_1_method_12_code 1 = .ok (.invokestatic 72, 3) := by decide +kernel
theorem d_PT_print_4 : decode prog_1_method_12_code 4 = .ok (.aload_n 0, 1) := by decide +kernel
theorem d_PT_print_5 : decode prog_1_method_12_code 5 = .ok (.getfield 56, 3) := by decide +kernel
theorem d_PT_print_8 : decode prog_1_method_12_code 8 = .ok (.aload_n 0, 1) := by decide +kernel
theorem d_PT_print_9 : decode prog_1_method_12_code 9 = .ok (.iload_n 1, 1) := by decide +kernel
theorem d_PT_print_10 : decode prog_1_method_12_code 10 = .ok (.invokevirtual 109, 3) := by decide +kernel
theorem d_PT_print_13 : decode prog_1_method_12_code 13 = .ok (.invokevirtual 175, 3) := by decide +kernel
theorem d_PT_print_16 : decode prog_1_method_12_code 16 = .ok (.aload_n 0, 1) := by decide +kernel
theorem d_PT_print_17 : decode prog_1_method_12_code 17 = .ok (.getfield 56, 3) := by decide +kernel
theorem d_PT_print_20 : decode prog_1_method_12_code 20 = .ok (.getfield 179, 3) := by decide +kernel
theorem d_PT_print_23 : decode prog_1_method_12_code 23 = .ok (.ireturn, 1) := by decide +kernel
def D_PT_print (h0 : Nat) (p0 : Int32) (S : gS) : Option ((String ⊕ Int32) × gS) := gTry (D_PT_requireDay p0 S) (fun v2 S3 => Option.bind (gRf S3 h0 0 10) (fun r4 => Option.bind (gOb S3 h0 0) (fun fs7 => gB2 (D_PT_editionOf h0 p0 S3) (fun r6 S5 => Option.bind r4 (fun a8 => Option.bind (gOb S5 a8 6) (fun fs10 => Option.bind (D_Pr_writeEdition a8 r6 S5) (fun S9 => Option.bind (gRf S9 h0 0 10) (fun r11 => Option.bind r11 (fun a12 => Option.bind (gI S9 a12 6 1) (fun v13 => some (.inr v13, S9)))))))))))
set_option maxRecDepth 100000 in
set_option maxHeartbeats 4000000 in
theorem c_PT_print {D : va_G} {cT : Nat → ClassId} {H0 : Heap} {l : Launch} {S : gS} {S' : gS} {h0 : Nat} {p0 : Int32} {r : String ⊕ Int32} (hst : l.stackTraces = false) (hden : D_PT_print h0 p0 S = some (r, S')) : gM D cT H0 l y_PT_print (Cond.code y_PT_print prog_1_method_12_code 2 (Option.some Jvm.ClassFile.FieldType.int)) 8 132 [va_rf (some h0), .int p0] S S' (gRi r) := by
  refine gM.ofV (by decide) ?_
  intro p e s m args below meth c s₁ B hml ea X hZ hex hr hE
  subst ea
  have Y : gY D cT H0 p s m _ meth c prog_1_method_12_code 2 "PlanText" 8 132 S (Option.some Jvm.ClassFile.FieldType.int) := ⟨X, hZ, hex, hr, hE⟩
  have hx := X.1
  have hb := X.2.1
  have hl := lv_entry ([va_rf (some h0), .int p0]) (n := 2) (Nat.le_of_ble_eq_true rfl)
  rw [lg_entry_eq]
  generalize (lg_sl ([va_rf (some h0), .int p0]) ++ List.replicate (2 - (lg_sl ([va_rf (some h0), .int p0])).length) Slot.unset).toArray = ls at hl ⊢
  have hl : lv_has ls 2 [(0, va_rf (some h0)), (1, .int p0)] := hl
  unfold D_PT_print at hden
  refine gV.lift (fun _ _ _ _ => lv_iload_n hx hb d_PT_print_0 rfl (lv_at hl 1 rfl)) ?_
  replace hden := gty hden
  rcases hden with ⟨E1, hz, rfl⟩ | ⟨v2, S3, hz, hden⟩
  · exact g_outS (As := [.int p0]) (rest := []) X hZ hex (c_PT_requireDay hst hz) q_239 q_1 q_237 q_238 ⟨by decide, by decide, by show _ = some 1; decide +kernel⟩ ⟨by decide, by decide⟩ hl.1 (Nat.le_of_ble_eq_true rfl) d_PT_print_1 rfl
  refine g_callS (As := [.int p0]) (rest := []) X hZ (c_PT_requireDay hst hz) q_239 q_1 q_237 q_238 ⟨by decide, by decide, by show _ = some 1; decide +kernel⟩ ⟨by decide, by decide⟩ hl.1 (Nat.le_of_ble_eq_true rfl) d_PT_print_1 rfl rfl ?_
  refine gV.lift (fun _ _ _ _ => g_aload_n hx hb d_PT_print_4 rfl (lv_at hl 0 rfl)) ?_
  replace hden := gb hden
  obtain ⟨r4, hv, hden⟩ := hden
  refine r_getR X cl_PT (k := 10) hv (by decide) q_108 d_PT_print_5 ?_
  refine gV.lift (fun _ _ _ _ => g_aload_n hx hb d_PT_print_8 rfl (lv_at hl 0 rfl)) ?_
  refine gV.lift (fun _ _ _ _ => lv_iload_n hx hb d_PT_print_9 rfl (lv_at hl 1 rfl)) ?_
  replace hden := gb hden
  obtain ⟨fs7, ho, hden⟩ := hden
  replace hden := gb2 hden
  obtain ⟨r6, S5, hz, hden⟩ := hden
  refine g_callV (As := [.int p0]) (rest := [va_rf r4]) X hZ (c_PT_editionOf hz) cl_PT (gOb_spec ho) q_560 q_1 q_557 q_559 qp_15 ⟨by decide, by decide, by show _ = some 1; decide +kernel⟩ ⟨by decide, by decide⟩ hl.1 (by cases r4 <;> exact Nat.le_of_ble_eq_true rfl) d_PT_print_10 rfl rfl ?_
  replace hden := gb hden
  obtain ⟨a8, rfl, hden⟩ := hden
  replace hden := gb hden
  obtain ⟨fs10, ho, hden⟩ := hden
  replace hden := gb hden
  obtain ⟨S9, hz, hden⟩ := hden
  refine g_callV (As := [va_rf r6]) (rest := []) X hZ (c_Pr_writeEdition hz) cl_Pr (gOb_spec ho) q_703 q_4 q_700 q_701 q_702 ⟨by decide, by decide, by show _ = some 1; decide +kernel⟩ ⟨by decide, by decide⟩ hl.1 (Nat.le_of_ble_eq_true rfl) d_PT_print_13 rfl rfl ?_
  refine gV.lift (fun _ _ _ _ => g_aload_n hx hb d_PT_print_16 rfl (lv_at hl 0 rfl)) ?_
  replace hden := gb hden
  obtain ⟨r11, hv, hden⟩ := hden
  refine r_getR X cl_PT (k := 10) hv (by decide) q_108 d_PT_print_17 ?_
  replace hden := gb hden
  obtain ⟨a12, rfl, hden⟩ := hden
  replace hden := gb hden
  obtain ⟨v13, hv, hden⟩ := hden
  refine r_getI X cl_Pr (k := 1) hv (by decide) q_92 d_PT_print_20 ?_
  obtain ⟨rfl, rfl⟩ := gpi hden
  exact g_iret X hr d_PT_print_23
/-! PlanText.at(I)I -/
abbrev y_PT_at : MethodName := ⟨"PlanText", "at", "(I)I"⟩
theorem d_PT_at_0 : decode prog_1_method_13_code 0 = .ok (.iload_n 1, 1) := by decide +kernel
theorem d_PT_at_1 : decode prog_1_method_13_code 1 = .ok (.invokestatic 156, 3) := by decide +kernel
theorem d_PT_at_4 : decode prog_1_method_13_code 4 = .ok (.aload_n 0, 1) := by decide +kernel
theorem d_PT_at_5 : decode prog_1_method_13_code 5 = .ok (.getfield 56, 3) := by decide +kernel
theorem d_PT_at_8 : decode prog_1_method_13_code 8 = .ok (.iload_n 1, 1) := by decide +kernel
theorem d_PT_at_9 : decode prog_1_method_13_code 9 = .ok (.invokevirtual 182, 3) := by decide +kernel
theorem d_PT_at_12 : decode prog_1_method_13_code 12 = .ok (.ireturn, 1) := by decide +kernel
def D_PT_at (h0 : Nat) (p0 : Int32) (S : gS) : Option ((String ⊕ Int32) × gS) := gTry (D_PT_requireIndex p0 S) (fun v2 S3 => Option.bind (gRf S3 h0 0 10) (fun r4 => Option.bind r4 (fun a5 => Option.bind (gOb S3 a5 6) (fun fs8 => gB2 (D_Pr_byteAt a5 p0 S3) (fun v7 S6 => some (.inr v7, S6))))))
set_option maxRecDepth 100000 in
set_option maxHeartbeats 4000000 in
theorem c_PT_at {D : va_G} {cT : Nat → ClassId} {H0 : Heap} {l : Launch} {S : gS} {S' : gS} {h0 : Nat} {p0 : Int32} {r : String ⊕ Int32} (hst : l.stackTraces = false) (hden : D_PT_at h0 p0 S = some (r, S')) : gM D cT H0 l y_PT_at (Cond.code y_PT_at prog_1_method_13_code 2 (Option.some Jvm.ClassFile.FieldType.int)) 7 110 [va_rf (some h0), .int p0] S S' (gRi r) := by
  refine gM.ofV (by decide) ?_
  intro p e s m args below meth c s₁ B hml ea X hZ hex hr hE
  subst ea
  have Y : gY D cT H0 p s m _ meth c prog_1_method_13_code 2 "PlanText" 7 110 S (Option.some Jvm.ClassFile.FieldType.int) := ⟨X, hZ, hex, hr, hE⟩
  have hx := X.1
  have hb := X.2.1
  have hl := lv_entry ([va_rf (some h0), .int p0]) (n := 2) (Nat.le_of_ble_eq_true rfl)
  rw [lg_entry_eq]
  generalize (lg_sl ([va_rf (some h0), .int p0]) ++ List.replicate (2 - (lg_sl ([va_rf (some h0), .int p0])).length) Slot.unset).toArray = ls at hl ⊢
  have hl : lv_has ls 2 [(0, va_rf (some h0)), (1, .int p0)] := hl
  unfold D_PT_at at hden
  refine gV.lift (fun _ _ _ _ => lv_iload_n hx hb d_PT_at_0 rfl (lv_at hl 1 rfl)) ?_
  replace hden := gty hden
  rcases hden with ⟨E1, hz, rfl⟩ | ⟨v2, S3, hz, hden⟩
  · exact g_outS (As := [.int p0]) (rest := []) X hZ hex (c_PT_requireIndex hst hz) q_629 q_1 q_627 q_628 ⟨by decide, by decide, by show _ = some 1; decide +kernel⟩ ⟨by decide, by decide⟩ hl.1 (Nat.le_of_ble_eq_true rfl) d_PT_at_1 rfl
  refine g_callS (As := [.int p0]) (rest := []) X hZ (c_PT_requireIndex hst hz) q_629 q_1 q_627 q_628 ⟨by decide, by decide, by show _ = some 1; decide +kernel⟩ ⟨by decide, by decide⟩ hl.1 (Nat.le_of_ble_eq_true rfl) d_PT_at_1 rfl rfl ?_
  refine gV.lift (fun _ _ _ _ => g_aload_n hx hb d_PT_at_4 rfl (lv_at hl 0 rfl)) ?_
  replace hden := gb hden
  obtain ⟨r4, hv, hden⟩ := hden
  refine r_getR X cl_PT (k := 10) hv (by decide) q_108 d_PT_at_5 ?_
  refine gV.lift (fun _ _ _ _ => lv_iload_n hx hb d_PT_at_8 rfl (lv_at hl 1 rfl)) ?_
  replace hden := gb hden
  obtain ⟨a5, rfl, hden⟩ := hden
  replace hden := gb hden
  obtain ⟨fs8, ho, hden⟩ := hden
  replace hden := gb2 hden
  obtain ⟨v7, S6, hz, hden⟩ := hden
  refine g_callV (As := [.int p0]) (rest := []) X hZ (c_Pr_byteAt hz) cl_Pr (gOb_spec ho) q_751 q_4 q_748 q_749 q_750 ⟨by decide, by decide, by show _ = some 1; decide +kernel⟩ ⟨by decide, by decide⟩ hl.1 (Nat.le_of_ble_eq_true rfl) d_PT_at_9 rfl rfl ?_
  obtain ⟨rfl, rfl⟩ := gpi hden
  exact g_iret X hr d_PT_at_12
/-! PlanText.count(I)I -/
abbrev y_PT_count : MethodName := ⟨"PlanText", "count", "(I)I"⟩
theorem d_PT_count_0 : decode prog_1_method_14_code 0 = .ok (.iload_n 1, 1) := by decide +kernel
theorem d_PT_count_1 : decode prog_1_method_14_code 1 = .ok (.tableswitch 60 0 3 #[31, 36, 44, 52], 31) := by decide +kernel
theorem d_PT_count_32 : decode prog_1_method_14_code 32 = .ok (.aload_n 0, 1) := by decide +kernel
theorem d_PT_count_33 : decode prog_1_method_14_code 33 = .ok (.getfield 30, 3) := by decide +kernel
theorem d_PT_count_36 : decode prog_1_method_14_code 36 = .ok (.ireturn, 1) := by decide +kernel
theorem d_PT_count_37 : decode prog_1_method_14_code 37 = .ok (.aload_n 0, 1) := by decide +kernel
theorem d_PT_count_38 : decode prog_1_method_14_code 38 = .ok (.getfield 40, 3) := by decide +kernel
theorem d_PT_count_41 : decode prog_1_method_14_code 41 = .ok (.getfield 94, 3) := by decide +kernel
theorem d_PT_count_44 : decode prog_1_method_14_code 44 = .ok (.ireturn, 1) := by decide +kernel
theorem d_PT_count_45 : decode prog_1_method_14_code 45 = .ok (.aload_n 0, 1) := by decide +kernel
theorem d_PT_count_46 : decode prog_1_method_14_code 46 = .ok (.getfield 40, 3) := by decide +kernel
theorem d_PT_count_49 : decode prog_1_method_14_code 49 = .ok (.getfield 185, 3) := by decide +kernel
theorem d_PT_count_52 : decode prog_1_method_14_code 52 = .ok (.ireturn, 1) := by decide +kernel
theorem d_PT_count_53 : decode prog_1_method_14_code 53 = .ok (.aload_n 0, 1) := by decide +kernel
theorem d_PT_count_54 : decode prog_1_method_14_code 54 = .ok (.getfield 40, 3) := by decide +kernel
theorem d_PT_count_57 : decode prog_1_method_14_code 57 = .ok (.getfield 188, 3) := by decide +kernel
theorem d_PT_count_60 : decode prog_1_method_14_code 60 = .ok (.ireturn, 1) := by decide +kernel
theorem d_PT_count_61 : decode prog_1_method_14_code 61 = .ok (.new 104, 3) := by decide +kernel
theorem d_PT_count_64 : decode prog_1_method_14_code 64 = .ok (.dup, 1) := by decide +kernel
theorem d_PT_count_65 : decode prog_1_method_14_code 65 = .ok (.ldc 150, 2) := by decide +kernel
theorem d_PT_count_67 : decode prog_1_method_14_code 67 = .ok (.invokespecial 108, 3) := by decide +kernel
theorem d_PT_count_70 : decode prog_1_method_14_code 70 = .ok (.athrow, 1) := by decide +kernel
def D_PT_count (h0 : Nat) (p0 : Int32) (S : gS) : Option ((String ⊕ Int32) × gS) := (if p0 = 0 then Option.bind (gI S h0 0 5) (fun v2 => some (.inr v2, S)) else (if p0 = 1 then Option.bind (gRf S h0 0 7) (fun r4 => Option.bind r4 (fun a5 => Option.bind (gI S a5 1 4) (fun v6 => some (.inr v6, S)))) else (if p0 = 2 then Option.bind (gRf S h0 0 7) (fun r8 => Option.bind r8 (fun a9 => Option.bind (gI S a9 1 5) (fun v10 => some (.inr v10, S)))) else (if p0 = 3 then Option.bind (gRf S h0 0 7) (fun r12 => Option.bind r12 (fun a13 => Option.bind (gI S a13 1 6) (fun v14 => some (.inr v14, S)))) else Option.bind (gThr S) (fun S15 => some (.inl "java/lang/IllegalArgumentException", S15))))))
set_option maxRecDepth 100000 in
set_option maxHeartbeats 4000000 in
theorem c_PT_count {D : va_G} {cT : Nat → ClassId} {H0 : Heap} {l : Launch} {S : gS} {S' : gS} {h0 : Nat} {p0 : Int32} {r : String ⊕ Int32} (hst : l.stackTraces = false) (hden : D_PT_count h0 p0 S = some (r, S')) : gM D cT H0 l y_PT_count (Cond.code y_PT_count prog_1_method_14_code 2 (Option.some Jvm.ClassFile.FieldType.int)) 6 90 [va_rf (some h0), .int p0] S S' (gRi r) := by
  refine gM.ofV (by decide) ?_
  intro p e s m args below meth c s₁ B hml ea X hZ hex hr hE
  subst ea
  have Y : gY D cT H0 p s m _ meth c prog_1_method_14_code 2 "PlanText" 6 90 S (Option.some Jvm.ClassFile.FieldType.int) := ⟨X, hZ, hex, hr, hE⟩
  have hx := X.1
  have hb := X.2.1
  have hl := lv_entry ([va_rf (some h0), .int p0]) (n := 2) (Nat.le_of_ble_eq_true rfl)
  rw [lg_entry_eq]
  generalize (lg_sl ([va_rf (some h0), .int p0]) ++ List.replicate (2 - (lg_sl ([va_rf (some h0), .int p0])).length) Slot.unset).toArray = ls at hl ⊢
  have hl : lv_has ls 2 [(0, va_rf (some h0)), (1, .int p0)] := hl
  unfold D_PT_count at hden
  refine gV.lift (fun _ _ _ _ => lv_iload_n hx hb d_PT_count_0 rfl (lv_at hl 1 rfl)) ?_
  by_cases hc1 : p0 = 0
  · replace hden := gip hc1 hden
    refine gV.lift (fun _ _ _ _ => lv_tableIn (tgt := 32) hx hb d_PT_count_1 (by rw [hc1]; decide) (by rw [hc1]; decide) (by rw [hc1]; rfl) (by decide)) ?_
    refine gV.lift (fun _ _ _ _ => g_aload_n hx hb d_PT_count_32 rfl (lv_at hl 0 rfl)) ?_
    replace hden := gb hden
    obtain ⟨v2, hv, hden⟩ := hden
    refine r_getI X cl_PT (k := 5) hv (by decide) q_103 d_PT_count_33 ?_
    obtain ⟨rfl, rfl⟩ := gpi hden
    exact g_iret X hr d_PT_count_36
  replace hden := gin hc1 hden
  by_cases hc3 : p0 = 1
  · replace hden := gip hc3 hden
    refine gV.lift (fun _ _ _ _ => lv_tableIn (tgt := 37) hx hb d_PT_count_1 (by rw [hc3]; decide) (by rw [hc3]; decide) (by rw [hc3]; rfl) (by decide)) ?_
    refine gV.lift (fun _ _ _ _ => g_aload_n hx hb d_PT_count_37 rfl (lv_at hl 0 rfl)) ?_
    replace hden := gb hden
    obtain ⟨r4, hv, hden⟩ := hden
    refine r_getR X cl_PT (k := 7) hv (by decide) q_105 d_PT_count_38 ?_
    replace hden := gb hden
    obtain ⟨a5, rfl, hden⟩ := hden
    replace hden := gb hden
    obtain ⟨v6, hv, hden⟩ := hden
    refine r_getI X cl_Ed (k := 4) hv (by decide) q_47 d_PT_count_41 ?_
    obtain ⟨rfl, rfl⟩ := gpi hden
    exact g_iret X hr d_PT_count_44
  replace hden := gin hc3 hden
  by_cases hc7 : p0 = 2
  · replace hden := gip hc7 hden
    refine gV.lift (fun _ _ _ _ => lv_tableIn (tgt := 45) hx hb d_PT_count_1 (by rw [hc7]; decide) (by rw [hc7]; decide) (by rw [hc7]; rfl) (by decide)) ?_
    refine gV.lift (fun _ _ _ _ => g_aload_n hx hb d_PT_count_45 rfl (lv_at hl 0 rfl)) ?_
    replace hden := gb hden
    obtain ⟨r8, hv, hden⟩ := hden
    refine r_getR X cl_PT (k := 7) hv (by decide) q_105 d_PT_count_46 ?_
    replace hden := gb hden
    obtain ⟨a9, rfl, hden⟩ := hden
    replace hden := gb hden
    obtain ⟨v10, hv, hden⟩ := hden
    refine r_getI X cl_Ed (k := 5) hv (by decide) q_49 d_PT_count_49 ?_
    obtain ⟨rfl, rfl⟩ := gpi hden
    exact g_iret X hr d_PT_count_52
  replace hden := gin hc7 hden
  by_cases hc11 : p0 = 3
  · replace hden := gip hc11 hden
    refine gV.lift (fun _ _ _ _ => lv_tableIn (tgt := 53) hx hb d_PT_count_1 (by rw [hc11]; decide) (by rw [hc11]; decide) (by rw [hc11]; rfl) (by decide)) ?_
    refine gV.lift (fun _ _ _ _ => g_aload_n hx hb d_PT_count_53 rfl (lv_at hl 0 rfl)) ?_
    replace hden := gb hden
    obtain ⟨r12, hv, hden⟩ := hden
    refine r_getR X cl_PT (k := 7) hv (by decide) q_105 d_PT_count_54 ?_
    replace hden := gb hden
    obtain ⟨a13, rfl, hden⟩ := hden
    replace hden := gb hden
    obtain ⟨v14, hv, hden⟩ := hden
    refine r_getI X cl_Ed (k := 6) hv (by decide) q_51 d_PT_count_57 ?_
    obtain ⟨rfl, rfl⟩ := gpi hden
    exact g_iret X hr d_PT_count_60
  replace hden := gin hc11 hden
  refine gV.lift (fun _ _ _ _ => lv_tableOut (tgt := 61) hx hb d_PT_count_1 (g_swOut (n := 4) (by decide) (fun k hk => by rcases (show k = 0 ∨ k = 1 ∨ k = 2 ∨ k = 3 by omega) with rfl | rfl | rfl | rfl <;> assumption)) (by decide)) ?_
  replace hden := gb hden
  obtain ⟨S15, ht, hden⟩ := hden
  obtain ⟨hroom, rfl⟩ := gThr_spec ht
  obtain ⟨rfl, rfl⟩ := gpi hden
  exact g_throw (text := "no such what") X hZ hex hE hst (by decide +kernel) q_533 q_19 (by decide) at_IllegalArgumentException_108 ot_IllegalArgumentException_108 hl.1 d_PT_count_61 d_PT_count_64 d_PT_count_65 d_PT_count_67 d_PT_count_70 ⟨by decide, Nat.le_of_ble_eq_true rfl⟩ hroom
