/-! PlanTextModel.<init>()V -/
abbrev y_Mo_init : MethodName := ⟨"PlanTextModel", "<init>", "()V"⟩
theorem d_Mo_init_0 : decode prog_12_method_1_code 0 = .ok (.aload_n 0, 1) := by decide +kernel
theorem d_Mo_init_1 : decode prog_12_method_1_code 1 = .ok (.invokespecial 1, 3) := by decide +kernel
theorem d_Mo_init_4 : decode prog_12_method_1_code 4 = .ok (.aload_n 0, 1) := by decide +kernel
theorem d_Mo_init_5 : decode prog_12_method_1_code 5 = .ok (.sipush 400, 3) := by decide +kernel
theorem d_Mo_init_8 : decode prog_12_method_1_code 8 = .ok (.newarray .int, 2) := by decide +kernel
theorem d_Mo_init_10 : decode prog_12_method_1_code 10 = .ok (.putfield 7, 3) := by decide +kernel
theorem d_Mo_init_13 : decode prog_12_method_1_code 13 = .ok (.aload_n 0, 1) := by decide +kernel
theorem d_Mo_init_14 : decode prog_12_method_1_code 14 = .ok (.iconst (-1), 1) := by decide +kernel
theorem d_Mo_init_15 : decode prog_12_method_1_code 15 = .ok (.putfield 13, 3) := by decide +kernel
theorem d_Mo_init_18 : decode prog_12_method_1_code 18 = .ok (.aload_n 0, 1) := by decide +kernel
theorem d_Mo_init_19 : decode prog_12_method_1_code 19 = .ok (.bipush 7, 2) := by decide +kernel
theorem d_Mo_init_21 : decode prog_12_method_1_code 21 = .ok (.newarray .int, 2) := by decide +kernel
theorem d_Mo_init_23 : decode prog_12_method_1_code 23 = .ok (.putfield 17, 3) := by decide +kernel
theorem d_Mo_init_26 : decode prog_12_method_1_code 26 = .ok (.aload_n 0, 1) := by decide +kernel
theorem d_Mo_init_27 : decode prog_12_method_1_code 27 = .ok (.sipush 350, 3) := by decide +kernel
theorem d_Mo_init_30 : decode prog_12_method_1_code 30 = .ok (.newarray .boolean, 2) := by decide +kernel
theorem d_Mo_init_32 : decode prog_12_method_1_code 32 = .ok (.putfield 20, 3) := by decide +kernel
theorem d_Mo_init_35 : decode prog_12_method_1_code 35 = .ok (.aload_n 0, 1) := by decide +kernel
theorem d_Mo_init_36 : decode prog_12_method_1_code 36 = .ok (.sipush 350, 3) := by decide +kernel
theorem d_Mo_init_39 : decode prog_12_method_1_code 39 = .ok (.newarray .int, 2) := by decide +kernel
theorem d_Mo_init_41 : decode prog_12_method_1_code 41 = .ok (.putfield 24, 3) := by decide +kernel
theorem d_Mo_init_44 : decode prog_12_method_1_code 44 = .ok (.aload_n 0, 1) := by decide +kernel
theorem d_Mo_init_45 : decode prog_12_method_1_code 45 = .ok (.sipush 350, 3) := by decide +kernel
theorem d_Mo_init_48 : decode prog_12_method_1_code 48 = .ok (.newarray .int, 2) := by decide +kernel
theorem d_Mo_init_50 : decode prog_12_method_1_code 50 = .ok (.putfield 27, 3) := by decide +kernel
theorem d_Mo_init_53 : decode prog_12_method_1_code 53 = .ok (.aload_n 0, 1) := by decide +kernel
theorem d_Mo_init_54 : decode prog_12_method_1_code 54 = .ok (.sipush 350, 3) := by decide +kernel
theorem d_Mo_init_57 : decode prog_12_method_1_code 57 = .ok (.newarray .int, 2) := by decide +kernel
theorem d_Mo_init_59 : decode prog_12_method_1_code 59 = .ok (.putfield 30, 3) := by decide +kernel
theorem d_Mo_init_62 : decode prog_12_method_1_code 62 = .ok (.aload_n 0, 1) := by decide +kernel
theorem d_Mo_init_63 : decode prog_12_method_1_code 63 = .ok (.sipush 350, 3) := by decide +kernel
theorem d_Mo_init_66 : decode prog_12_method_1_code 66 = .ok (.newarray .int, 2) := by decide +kernel
theorem d_Mo_init_68 : decode prog_12_method_1_code 68 = .ok (.putfield 33, 3) := by decide +kernel
theorem d_Mo_init_71 : decode prog_12_method_1_code 71 = .ok (.aload_n 0, 1) := by decide +kernel
theorem d_Mo_init_72 : decode prog_12_method_1_code 72 = .ok (.sipush 350, 3) := by decide +kernel
theorem d_Mo_init_75 : decode prog_12_method_1_code 75 = .ok (.newarray .int, 2) := by decide +kernel
theorem d_Mo_init_77 : decode prog_12_method_1_code 77 = .ok (.putfield 36, 3) := by decide +kernel
theorem d_Mo_init_80 : decode prog_12_method_1_code 80 = .ok (.aload_n 0, 1) := by decide +kernel
theorem d_Mo_init_81 : decode prog_12_method_1_code 81 = .ok (.sipush 350, 3) := by decide +kernel
theorem d_Mo_init_84 : decode prog_12_method_1_code 84 = .ok (.newarray .int, 2) := by decide +kernel
theorem d_Mo_init_86 : decode prog_12_method_1_code 86 = .ok (.putfield 39, 3) := by decide +kernel
theorem d_Mo_init_89 : decode prog_12_method_1_code 89 = .ok (.aload_n 0, 1) := by decide +kernel
theorem d_Mo_init_90 : decode prog_12_method_1_code 90 = .ok (.sipush 350, 3) := by decide +kernel
theorem d_Mo_init_93 : decode prog_12_method_1_code 93 = .ok (.newarray .int, 2) := by decide +kernel
theorem d_Mo_init_95 : decode prog_12_method_1_code 95 = .ok (.putfield 42, 3) := by decide +kernel
theorem d_Mo_init_98 : decode prog_12_method_1_code 98 = .ok (.aload_n 0, 1) := by decide +kernel
theorem d_Mo_init_99 : decode prog_12_method_1_code 99 = .ok (.sipush 350, 3) := by decide +kernel
theorem d_Mo_init_102 : decode prog_12_method_1_code 102 = .ok (.newarray .int, 2) := by decide +kernel
theorem d_Mo_init_104 : decode prog_12_method_1_code 104 = .ok (.putfield 45, 3) := by decide +kernel
theorem d_Mo_init_107 : decode prog_12_method_1_code 107 = .ok (.aload_n 0, 1) := by decide +kernel
theorem d_Mo_init_108 : decode prog_12_method_1_code 108 = .ok (.sipush 8750, 3) := by decide +kernel
theorem d_Mo_init_111 : decode prog_12_method_1_code 111 = .ok (.newarray .int, 2) := by decide +kernel
theorem d_Mo_init_113 : decode prog_12_method_1_code 113 = .ok (.putfield 48, 3) := by decide +kernel
theorem d_Mo_init_116 : decode prog_12_method_1_code 116 = .ok (.aload_n 0, 1) := by decide +kernel
theorem d_Mo_init_117 : decode prog_12_method_1_code 117 = .ok (.bipush 7, 2) := by decide +kernel
theorem d_Mo_init_119 : decode prog_12_method_1_code 119 = .ok (.newarray .int, 2) := by decide +kernel
theorem d_Mo_init_121 : decode prog_12_method_1_code 121 = .ok (.putfield 51, 3) := by decide +kernel
theorem d_Mo_init_124 : decode prog_12_method_1_code 124 = .ok (.aload_n 0, 1) := by decide +kernel
theorem d_Mo_init_125 : decode prog_12_method_1_code 125 = .ok (.sipush 280, 3) := by decide +kernel
theorem d_Mo_init_128 : decode prog_12_method_1_code 128 = .ok (.newarray .int, 2) := by decide +kernel
theorem d_Mo_init_130 : decode prog_12_method_1_code 130 = .ok (.putfield 54, 3) := by decide +kernel
theorem d_Mo_init_133 : decode prog_12_method_1_code 133 = .ok (.aload_n 0, 1) := by decide +kernel
theorem d_Mo_init_134 : decode prog_12_method_1_code 134 = .ok (.bipush 8, 2) := by decide +kernel
theorem d_Mo_init_136 : decode prog_12_method_1_code 136 = .ok (.newarray .int, 2) := by decide +kernel
theorem d_Mo_init_138 : decode prog_12_method_1_code 138 = .ok (.putfield 57, 3) := by decide +kernel
theorem d_Mo_init_141 : decode prog_12_method_1_code 141 = .ok (.aload_n 0, 1) := by decide +kernel
theorem d_Mo_init_142 : decode prog_12_method_1_code 142 = .ok (.iconst (-1), 1) := by decide +kernel
theorem d_Mo_init_143 : decode prog_12_method_1_code 143 = .ok (.putfield 60, 3) := by decide +kernel
theorem d_Mo_init_146 : decode prog_12_method_1_code 146 = .ok (.aload_n 0, 1) := by decide +kernel
theorem d_Mo_init_147 : decode prog_12_method_1_code 147 = .ok (.sipush 500, 3) := by decide +kernel
theorem d_Mo_init_150 : decode prog_12_method_1_code 150 = .ok (.newarray .int, 2) := by decide +kernel
theorem d_Mo_init_152 : decode prog_12_method_1_code 152 = .ok (.putfield 63, 3) := by decide +kernel
theorem d_Mo_init_155 : decode prog_12_method_1_code 155 = .ok (.aload_n 0, 1) := by decide +kernel
theorem d_Mo_init_156 : decode prog_12_method_1_code 156 = .ok (.iconst (-1), 1) := by decide +kernel
theorem d_Mo_init_157 : decode prog_12_method_1_code 157 = .ok (.putfield 66, 3) := by decide +kernel
theorem d_Mo_init_160 : decode prog_12_method_1_code 160 = .ok (.return_, 1) := by decide +kernel
def D_Mo_init (h0 : Nat) (S : gS) : Option gS := Option.bind (gNA S 0 400 (.inl (fun _ => 0))) (fun S1 => Option.bind (gPut S1 h0 10 1 (va_rf (some S.2.1))) (fun S2 => Option.bind (gPut S2 h0 10 6 (.int (-1))) (fun S3 => Option.bind (gNA S3 0 7 (.inl (fun _ => 0))) (fun S4 => Option.bind (gPut S4 h0 10 9 (va_rf (some S3.2.1))) (fun S5 => Option.bind (gNA S5 3 350 (.inl (fun _ => 0))) (fun S6 => Option.bind (gPut S6 h0 10 10 (va_rf (some S5.2.1))) (fun S7 => Option.bind (gNA S7 0 350 (.inl (fun _ => 0))) (fun S8 => Option.bind (gPut S8 h0 10 11 (va_rf (some S7.2.1))) (fun S9 => Option.bind (gNA S9 0 350 (.inl (fun _ => 0))) (fun S10 => Option.bind (gPut S10 h0 10 12 (va_rf (some S9.2.1))) (fun S11 => Option.bind (gNA S11 0 350 (.inl (fun _ => 0))) (fun S12 => Option.bind (gPut S12 h0 10 13 (va_rf (some S11.2.1))) (fun S13 => Option.bind (gNA S13 0 350 (.inl (fun _ => 0))) (fun S14 => Option.bind (gPut S14 h0 10 14 (va_rf (some S13.2.1))) (fun S15 => Option.bind (gNA S15 0 350 (.inl (fun _ => 0))) (fun S16 => Option.bind (gPut S16 h0 10 15 (va_rf (some S15.2.1))) (fun S17 => Option.bind (gNA S17 0 350 (.inl (fun _ => 0))) (fun S18 => Option.bind (gPut S18 h0 10 16 (va_rf (some S17.2.1))) (fun S19 => Option.bind (gNA S19 0 350 (.inl (fun _ => 0))) (fun S20 => Option.bind (gPut S20 h0 10 17 (va_rf (some S19.2.1))) (fun S21 => Option.bind (gNA S21 0 350 (.inl (fun _ => 0))) (fun S22 => Option.bind (gPut S22 h0 10 18 (va_rf (some S21.2.1))) (fun S23 => Option.bind (gNA S23 0 8750 (.inl (fun _ => 0))) (fun S24 => Option.bind (gPut S24 h0 10 19 (va_rf (some S23.2.1))) (fun S25 => Option.bind (gNA S25 0 7 (.inl (fun _ => 0))) (fun S26 => Option.bind (gPut S26 h0 10 20 (va_rf (some S25.2.1))) (fun S27 => Option.bind (gNA S27 0 280 (.inl (fun _ => 0))) (fun S28 => Option.bind (gPut S28 h0 10 21 (va_rf (some S27.2.1))) (fun S29 => Option.bind (gNA S29 0 8 (.inl (fun _ => 0))) (fun S30 => Option.bind (gPut S30 h0 10 22 (va_rf (some S29.2.1))) (fun S31 => Option.bind (gPut S31 h0 10 23 (.int (-1))) (fun S32 => Option.bind (gNA S32 0 500 (.inl (fun _ => 0))) (fun S33 => Option.bind (gPut S33 h0 10 24 (va_rf (some S32.2.1))) (fun S34 => Option.bind (gPut S34 h0 10 8 (.int (-1))) (fun S35 => some S35)))))))))))))))))))))))))))))))))))
set_option maxRecDepth 100000 in
set_option maxHeartbeats 4000000 in
theorem c_Mo_init {D : va_G} {cT : Nat → ClassId} {H0 : Heap} {l : Launch} {S : gS} {S' : gS} {h0 : Nat} (hden : D_Mo_init h0 S = some S') : gM D cT H0 l y_Mo_init (Cond.code y_Mo_init prog_12_method_1_code 1 (Option.none : Option Jvm.ClassFile.FieldType)) 1 24 [va_rf (some h0)] S S' (.inr none) := by
  refine gM.ofV (by decide) ?_
  intro p e s m args below meth c s₁ B hml ea X hZ hex hr hE
  subst ea
  have Y : gY D cT H0 p s m _ meth c prog_12_method_1_code 1 "PlanTextModel" 1 24 S (Option.none : Option Jvm.ClassFile.FieldType) := ⟨X, hZ, hex, hr, hE⟩
  have hin : meth.name = "<init>" := (name_of_methodNamed B.named B.method).1
  have hx := X.1
  have hb := X.2.1
  have hl := lv_entry ([va_rf (some h0)]) (n := 1) (Nat.le_of_ble_eq_true rfl)
  rw [lg_entry_eq]
  generalize (lg_sl ([va_rf (some h0)]) ++ List.replicate (1 - (lg_sl ([va_rf (some h0)])).length) Slot.unset).toArray = ls at hl ⊢
  have hl : lv_has ls 1 [(0, va_rf (some h0))] := hl
  unfold D_Mo_init at hden
  refine gV.lift (fun _ _ _ _ => g_aload_n hx hb d_Mo_init_0 rfl (lv_at hl 0 rfl)) ?_
  refine g_objInit X q_764 q_26 q_27 hl.1 d_Mo_init_1 ⟨by decide, Nat.le_of_ble_eq_true rfl⟩ ?_
  refine gV.lift (fun _ _ _ _ => g_aload_n hx hb d_Mo_init_4 rfl (lv_at hl 0 rfl)) ?_
  refine gV.lift (fun _ _ _ _ => lv_sipush (v := 400) hx hb d_Mo_init_5 (by decide)) ?_
  replace hden := gb hden
  obtain ⟨S1, hv, hden⟩ := hden
  refine r_newa X (atype := .int) (t := 0) (ty := .int) rfl rfl rfl q_68 hv (fun _ => rfl) (by decide) d_Mo_init_8 ?_
  replace hden := gb hden
  obtain ⟨S2, hv, hden⟩ := hden
  refine r_putF X cl_Mo (k := 1) hv (by decide) q_766 rfl hin rfl g_narA g_fitA d_Mo_init_10 ?_
  refine gV.lift (fun _ _ _ _ => g_aload_n hx hb d_Mo_init_13 rfl (lv_at hl 0 rfl)) ?_
  refine gV.lift (fun _ _ _ _ => lv_iconst (v := (-1)) hx hb d_Mo_init_14 (by decide)) ?_
  replace hden := gb hden
  obtain ⟨S3, hv, hden⟩ := hden
  refine r_put X cl_Mo (k := 6) hv (by decide) q_771 rfl rfl rfl d_Mo_init_15 ?_
  refine gV.lift (fun _ _ _ _ => g_aload_n hx hb d_Mo_init_18 rfl (lv_at hl 0 rfl)) ?_
  refine gV.lift (fun _ _ _ _ => lv_bipush (v := 7) hx hb d_Mo_init_19 (by decide)) ?_
  replace hden := gb hden
  obtain ⟨S4, hv, hden⟩ := hden
  refine r_newa X (atype := .int) (t := 0) (ty := .int) rfl rfl rfl q_68 hv (fun _ => rfl) (by decide) d_Mo_init_21 ?_
  replace hden := gb hden
  obtain ⟨S5, hv, hden⟩ := hden
  refine r_putF X cl_Mo (k := 9) hv (by decide) q_774 rfl hin rfl g_narA g_fitA d_Mo_init_23 ?_
  refine gV.lift (fun _ _ _ _ => g_aload_n hx hb d_Mo_init_26 rfl (lv_at hl 0 rfl)) ?_
  refine gV.lift (fun _ _ _ _ => lv_sipush (v := 350) hx hb d_Mo_init_27 (by decide)) ?_
  replace hden := gb hden
  obtain ⟨S6, hv, hden⟩ := hden
  refine r_newa X (atype := .boolean) (t := 3) (ty := .boolean) rfl rfl rfl q_844 hv (fun _ => rfl) (by decide) d_Mo_init_30 ?_
  replace hden := gb hden
  obtain ⟨S7, hv, hden⟩ := hden
  refine r_putF X cl_Mo (k := 10) hv (by decide) q_775 rfl hin rfl g_narA g_fitA d_Mo_init_32 ?_
  refine gV.lift (fun _ _ _ _ => g_aload_n hx hb d_Mo_init_35 rfl (lv_at hl 0 rfl)) ?_
  refine gV.lift (fun _ _ _ _ => lv_sipush (v := 350) hx hb d_Mo_init_36 (by decide)) ?_
  replace hden := gb hden
  obtain ⟨S8, hv, hden⟩ := hden
  refine r_newa X (atype := .int) (t := 0) (ty := .int) rfl rfl rfl q_68 hv (fun _ => rfl) (by decide) d_Mo_init_39 ?_
  replace hden := gb hden
  obtain ⟨S9, hv, hden⟩ := hden
  refine r_putF X cl_Mo (k := 11) hv (by decide) q_776 rfl hin rfl g_narA g_fitA d_Mo_init_41 ?_
  refine gV.lift (fun _ _ _ _ => g_aload_n hx hb d_Mo_init_44 rfl (lv_at hl 0 rfl)) ?_
  refine gV.lift (fun _ _ _ _ => lv_sipush (v := 350) hx hb d_Mo_init_45 (by decide)) ?_
  replace hden := gb hden
  obtain ⟨S10, hv, hden⟩ := hden
  refine r_newa X (atype := .int) (t := 0) (ty := .int) rfl rfl rfl q_68 hv (fun _ => rfl) (by decide) d_Mo_init_48 ?_
  replace hden := gb hden
  obtain ⟨S11, hv, hden⟩ := hden
  refine r_putF X cl_Mo (k := 12) hv (by decide) q_777 rfl hin rfl g_narA g_fitA d_Mo_init_50 ?_
  refine gV.lift (fun _ _ _ _ => g_aload_n hx hb d_Mo_init_53 rfl (lv_at hl 0 rfl)) ?_
  refine gV.lift (fun _ _ _ _ => lv_sipush (v := 350) hx hb d_Mo_init_54 (by decide)) ?_
  replace hden := gb hden
  obtain ⟨S12, hv, hden⟩ := hden
  refine r_newa X (atype := .int) (t := 0) (ty := .int) rfl rfl rfl q_68 hv (fun _ => rfl) (by decide) d_Mo_init_57 ?_
  replace hden := gb hden
  obtain ⟨S13, hv, hden⟩ := hden
  refine r_putF X cl_Mo (k := 13) hv (by decide) q_778 rfl hin rfl g_narA g_fitA d_Mo_init_59 ?_
  refine gV.lift (fun _ _ _ _ => g_aload_n hx hb d_Mo_init_62 rfl (lv_at hl 0 rfl)) ?_
  refine gV.lift (fun _ _ _ _ => lv_sipush (v := 350) hx hb d_Mo_init_63 (by decide)) ?_
  replace hden := gb hden
  obtain ⟨S14, hv, hden⟩ := hden
  refine r_newa X (atype := .int) (t := 0) (ty := .int) rfl rfl rfl q_68 hv (fun _ => rfl) (by decide) d_Mo_init_66 ?_
  replace hden := gb hden
  obtain ⟨S15, hv, hden⟩ := hden
  refine r_putF X cl_Mo (k := 14) hv (by decide) q_779 rfl hin rfl g_narA g_fitA d_Mo_init_68 ?_
  refine gV.lift (fun _ _ _ _ => g_aload_n hx hb d_Mo_init_71 rfl (lv_at hl 0 rfl)) ?_
  refine gV.lift (fun _ _ _ _ => lv_sipush (v := 350) hx hb d_Mo_init_72 (by decide)) ?_
  replace hden := gb hden
  obtain ⟨S16, hv, hden⟩ := hden
  refine r_newa X (atype := .int) (t := 0) (ty := .int) rfl rfl rfl q_68 hv (fun _ => rfl) (by decide) d_Mo_init_75 ?_
  replace hden := gb hden
  obtain ⟨S17, hv, hden⟩ := hden
  refine r_putF X cl_Mo (k := 15) hv (by decide) q_780 rfl hin rfl g_narA g_fitA d_Mo_init_77 ?_
  refine gV.lift (fun _ _ _ _ => g_aload_n hx hb d_Mo_init_80 rfl (lv_at hl 0 rfl)) ?_
  refine gV.lift (fun _ _ _ _ => lv_sipush (v := 350) hx hb d_Mo_init_81 (by decide)) ?_
  replace hden := gb hden
  obtain ⟨S18, hv, hden⟩ := hden
  refine r_newa X (atype := .int) (t := 0) (ty := .int) rfl rfl rfl q_68 hv (fun _ => rfl) (by decide) d_Mo_init_84 ?_
  replace hden := gb hden
  obtain ⟨S19, hv, hden⟩ := hden
  refine r_putF X cl_Mo (k := 16) hv (by decide) q_781 rfl hin rfl g_narA g_fitA d_Mo_init_86 ?_
  refine gV.lift (fun _ _ _ _ => g_aload_n hx hb d_Mo_init_89 rfl (lv_at hl 0 rfl)) ?_
  refine gV.lift (fun _ _ _ _ => lv_sipush (v := 350) hx hb d_Mo_init_90 (by decide)) ?_
  replace hden := gb hden
  obtain ⟨S20, hv, hden⟩ := hden
  refine r_newa X (atype := .int) (t := 0) (ty := .int) rfl rfl rfl q_68 hv (fun _ => rfl) (by decide) d_Mo_init_93 ?_
  replace hden := gb hden
  obtain ⟨S21, hv, hden⟩ := hden
  refine r_putF X cl_Mo (k := 17) hv (by decide) q_782 rfl hin rfl g_narA g_fitA d_Mo_init_95 ?_
  refine gV.lift (fun _ _ _ _ => g_aload_n hx hb d_Mo_init_98 rfl (lv_at hl 0 rfl)) ?_
  refine gV.lift (fun _ _ _ _ => lv_sipush (v := 350) hx hb d_Mo_init_99 (by decide)) ?_
  replace hden := gb hden
  obtain ⟨S22, hv, hden⟩ := hden
  refine r_newa X (atype := .int) (t := 0) (ty := .int) rfl rfl rfl q_68 hv (fun _ => rfl) (by decide) d_Mo_init_102 ?_
  replace hden := gb hden
  obtain ⟨S23, hv, hden⟩ := hden
  refine r_putF X cl_Mo (k := 18) hv (by decide) q_783 rfl hin rfl g_narA g_fitA d_Mo_init_104 ?_
  refine gV.lift (fun _ _ _ _ => g_aload_n hx hb d_Mo_init_107 rfl (lv_at hl 0 rfl)) ?_
  refine gV.lift (fun _ _ _ _ => lv_sipush (v := 8750) hx hb d_Mo_init_108 (by decide)) ?_
  replace hden := gb hden
  obtain ⟨S24, hv, hden⟩ := hden
  refine r_newa X (atype := .int) (t := 0) (ty := .int) rfl rfl rfl q_68 hv (fun _ => rfl) (by decide) d_Mo_init_111 ?_
  replace hden := gb hden
  obtain ⟨S25, hv, hden⟩ := hden
  refine r_putF X cl_Mo (k := 19) hv (by decide) q_784 rfl hin rfl g_narA g_fitA d_Mo_init_113 ?_
  refine gV.lift (fun _ _ _ _ => g_aload_n hx hb d_Mo_init_116 rfl (lv_at hl 0 rfl)) ?_
  refine gV.lift (fun _ _ _ _ => lv_bipush (v := 7) hx hb d_Mo_init_117 (by decide)) ?_
  replace hden := gb hden
  obtain ⟨S26, hv, hden⟩ := hden
  refine r_newa X (atype := .int) (t := 0) (ty := .int) rfl rfl rfl q_68 hv (fun _ => rfl) (by decide) d_Mo_init_119 ?_
  replace hden := gb hden
  obtain ⟨S27, hv, hden⟩ := hden
  refine r_putF X cl_Mo (k := 20) hv (by decide) q_785 rfl hin rfl g_narA g_fitA d_Mo_init_121 ?_
  refine gV.lift (fun _ _ _ _ => g_aload_n hx hb d_Mo_init_124 rfl (lv_at hl 0 rfl)) ?_
  refine gV.lift (fun _ _ _ _ => lv_sipush (v := 280) hx hb d_Mo_init_125 (by decide)) ?_
  replace hden := gb hden
  obtain ⟨S28, hv, hden⟩ := hden
  refine r_newa X (atype := .int) (t := 0) (ty := .int) rfl rfl rfl q_68 hv (fun _ => rfl) (by decide) d_Mo_init_128 ?_
  replace hden := gb hden
  obtain ⟨S29, hv, hden⟩ := hden
  refine r_putF X cl_Mo (k := 21) hv (by decide) q_786 rfl hin rfl g_narA g_fitA d_Mo_init_130 ?_
  refine gV.lift (fun _ _ _ _ => g_aload_n hx hb d_Mo_init_133 rfl (lv_at hl 0 rfl)) ?_
  refine gV.lift (fun _ _ _ _ => lv_bipush (v := 8) hx hb d_Mo_init_134 (by decide)) ?_
  replace hden := gb hden
  obtain ⟨S30, hv, hden⟩ := hden
  refine r_newa X (atype := .int) (t := 0) (ty := .int) rfl rfl rfl q_68 hv (fun _ => rfl) (by decide) d_Mo_init_136 ?_
  replace hden := gb hden
  obtain ⟨S31, hv, hden⟩ := hden
  refine r_putF X cl_Mo (k := 22) hv (by decide) q_787 rfl hin rfl g_narA g_fitA d_Mo_init_138 ?_
  refine gV.lift (fun _ _ _ _ => g_aload_n hx hb d_Mo_init_141 rfl (lv_at hl 0 rfl)) ?_
  refine gV.lift (fun _ _ _ _ => lv_iconst (v := (-1)) hx hb d_Mo_init_142 (by decide)) ?_
  replace hden := gb hden
  obtain ⟨S32, hv, hden⟩ := hden
  refine r_put X cl_Mo (k := 23) hv (by decide) q_788 rfl rfl rfl d_Mo_init_143 ?_
  refine gV.lift (fun _ _ _ _ => g_aload_n hx hb d_Mo_init_146 rfl (lv_at hl 0 rfl)) ?_
  refine gV.lift (fun _ _ _ _ => lv_sipush (v := 500) hx hb d_Mo_init_147 (by decide)) ?_
  replace hden := gb hden
  obtain ⟨S33, hv, hden⟩ := hden
  refine r_newa X (atype := .int) (t := 0) (ty := .int) rfl rfl rfl q_68 hv (fun _ => rfl) (by decide) d_Mo_init_150 ?_
  replace hden := gb hden
  obtain ⟨S34, hv, hden⟩ := hden
  refine r_putF X cl_Mo (k := 24) hv (by decide) q_789 rfl hin rfl g_narA g_fitA d_Mo_init_152 ?_
  refine gV.lift (fun _ _ _ _ => g_aload_n hx hb d_Mo_init_155 rfl (lv_at hl 0 rfl)) ?_
  refine gV.lift (fun _ _ _ _ => lv_iconst (v := (-1)) hx hb d_Mo_init_156 (by decide)) ?_
  replace hden := gb hden
  obtain ⟨S35, hv, hden⟩ := hden
  refine r_put X cl_Mo (k := 8) hv (by decide) q_773 rfl rfl rfl d_Mo_init_157 ?_
  obtain rfl := gsi hden
  exact g_vret X hr d_Mo_init_160
/-! PlanTextModel.thrown()I -/
abbrev y_Mo_thrown : MethodName := ⟨"PlanTextModel", "thrown", "()I"⟩
theorem d_Mo_thrown_0 : decode prog_12_method_2_code 0 = .ok (.aload_n 0, 1) := by decide +kernel
theorem d_Mo_thrown_1 : decode prog_12_method_2_code 1 = .ok (.getfield 69, 3) := by decide +kernel
theorem d_Mo_thrown_4 : decode prog_12_method_2_code 4 = .ok (.ireturn, 1) := by decide +kernel
def D_Mo_thrown (h0 : Nat) (S : gS) : Option (Int32 × gS) := Option.bind (gI S h0 10 0) (fun v1 => some (v1, S))
set_option maxRecDepth 100000 in
set_option maxHeartbeats 4000000 in
theorem c_Mo_thrown {D : va_G} {cT : Nat → ClassId} {H0 : Heap} {l : Launch} {S : gS} {S' : gS} {h0 : Nat} {r : Int32} (hden : D_Mo_thrown h0 S = some (r, S')) : gM D cT H0 l y_Mo_thrown (Cond.code y_Mo_thrown prog_12_method_2_code 1 (Option.some Jvm.ClassFile.FieldType.int)) 0 0 [va_rf (some h0)] S S' (.inr (some (.int r))) := by
  refine gM.ofV (by decide) ?_
  intro p e s m args below meth c s₁ B hml ea X hZ hex hr hE
  subst ea
  have Y : gY D cT H0 p s m _ meth c prog_12_method_2_code 1 "PlanTextModel" 0 0 S (Option.some Jvm.ClassFile.FieldType.int) := ⟨X, hZ, hex, hr, hE⟩
  have hx := X.1
  have hb := X.2.1
  have hl := lv_entry ([va_rf (some h0)]) (n := 1) (Nat.le_of_ble_eq_true rfl)
  rw [lg_entry_eq]
  generalize (lg_sl ([va_rf (some h0)]) ++ List.replicate (1 - (lg_sl ([va_rf (some h0)])).length) Slot.unset).toArray = ls at hl ⊢
  have hl : lv_has ls 1 [(0, va_rf (some h0))] := hl
  unfold D_Mo_thrown at hden
  refine gV.lift (fun _ _ _ _ => g_aload_n hx hb d_Mo_thrown_0 rfl (lv_at hl 0 rfl)) ?_
  replace hden := gb hden
  obtain ⟨v1, hv, hden⟩ := hden
  refine r_getI X cl_Mo (k := 0) hv (by decide) q_765 d_Mo_thrown_1 ?_
  obtain ⟨rfl, rfl⟩ := gpi hden
  exact g_iret X hr d_Mo_thrown_4
/-! PlanTextModel.throwing(ZZZ)Z -/
abbrev y_Mo_throwing : MethodName := ⟨"PlanTextModel", "throwing", "(ZZZ)Z"⟩
theorem d_Mo_throwing_0 : decode prog_12_method_3_code 0 = .ok (.aload_n 0, 1) := by decide +kernel
theorem d_Mo_throwing_1 : decode prog_12_method_3_code 1 = .ok (.iload_n 1, 1) := by decide +kernel
theorem d_Mo_throwing_2 : decode prog_12_method_3_code 2 = .ok (.ifCond .eq 7, 3) := by decide +kernel
theorem d_Mo_throwing_5 : decode prog_12_method_3_code 5 = .ok (.iconst 1, 1) := by decide +kernel
theorem d_Mo_throwing_6 : decode prog_12_method_3_code 6 = .ok (.goto 20, 3) := by decide +kernel
theorem d_Mo_throwing_9 : decode prog_12_method_3_code 9 = .ok (.iload_n 2, 1) := by decide +kernel
theorem d_Mo_throwing_10 : decode prog_12_method_3_code 10 = .ok (.ifCond .eq 7, 3) := by decide +kernel
theorem d_Mo_throwing_13 : decode prog_12_method_3_code 13 = .ok (.iconst 2, 1) := by decide +kernel
theorem d_Mo_throwing_14 : decode prog_12_method_3_code 14 = .ok (.goto 12, 3) := by decide +kernel
theorem d_Mo_throwing_17 : decode prog_12_method_3_code 17 = .ok (.iload_n 3, 1) := by decide +kernel
theorem d_Mo_throwing_18 : decode prog_12_method_3_code 18 = .ok (.ifCond .eq 7, 3) := by decide +kernel
theorem d_Mo_throwing_21 : decode prog_12_method_3_code 21 = .ok (.iconst 3, 1) := by decide +kernel
theorem d_Mo_throwing_22 : decode prog_12_method_3_code 22 = .ok (.goto 4, 3) := by decide +kernel
theorem d_Mo_throwing_25 : decode prog_12_method_3_code 25 = .ok (.iconst 0, 1) := by decide +kernel
theorem d_Mo_throwing_26 : decode prog_12_method_3_code 26 = .ok (.putfield 69, 3) := by decide +kernel
theorem d_Mo_throwing_29 : decode prog_12_method_3_code 29 = .ok (.aload_n 0, 1) := by decide +kernel
theorem d_Mo_throwing_30 : decode prog_12_method_3_code 30 = .ok (.getfield 69, 3) := by decide +kernel
theorem d_Mo_throwing_33 : decode prog_12_method_3_code 33 = .ok (.ifCond .le 7, 3) := by decide +kernel
theorem d_Mo_throwing_36 : decode prog_12_method_3_code 36 = .ok (.iconst 1, 1) := by decide +kernel
theorem d_Mo_throwing_37 : decode prog_12_method_3_code 37 = .ok (.goto 4, 3) := by decide +kernel
theorem d_Mo_throwing_40 : decode prog_12_method_3_code 40 = .ok (.iconst 0, 1) := by decide +kernel
theorem d_Mo_throwing_41 : decode prog_12_method_3_code 41 = .ok (.ireturn, 1) := by decide +kernel
def B_Mo_throwing_41  (t0 : Int32) (S : gS) : Option (Int32 × gS) := Option.bind (gZo t0) (fun v1 => some (v1, S))
set_option maxRecDepth 100000 in
set_option maxHeartbeats 4000000 in
theorem w_Mo_throwing_41 {D : va_G} {cT : Nat → ClassId} {H0 : Heap} {l : Launch} {p : Program} {e : Env} {s : State} {m : MethodId} {args : Array Value} {below : List Frame} {meth : Method} {c : Code} {S0 : gS} {S' : gS} {r : Int32} (Y : gY D cT H0 p s m args meth c prog_12_method_3_code 4 "PlanTextModel" 0 0 S0 (Option.some Jvm.ClassFile.FieldType.boolean))  (t0 : Int32) (S : gS) (hden : B_Mo_throwing_41  t0 S = some (r, S')) {ls : Array Slot} (hl : lv_has ls 4 []) : gV D cT H0 p l e (gRm 0 0 S0) s m args below meth c (gQ D cT H0 below S0 S' (.inr (some (.int r))) s) S0 S (F0 m 41 ls [.int t0]) := by
  obtain ⟨X, hZ, hex, hr, hE⟩ := id Y
  have hx := X.1
  have hb := X.2.1
  unfold B_Mo_throwing_41 at hden
  replace hden := gb hden
  obtain ⟨v1, hz, hden⟩ := hden
  obtain ⟨rfl, hz2, -⟩ := gZo_spec hz
  obtain ⟨rfl, rfl⟩ := gpi hden
  exact g_zret X hr hz2 d_Mo_throwing_41
def B_Mo_throwing_26  (x0 : Nat) (t0 : Int32) (t1 : Nat) (S : gS) : Option (Int32 × gS) := Option.bind (gPut S t1 10 0 (.int t0)) (fun S1 => Option.bind (gI S1 x0 10 0) (fun v2 => (if v2 ≤ 0 then B_Mo_throwing_41  0 S1 else B_Mo_throwing_41  1 S1)))
set_option maxRecDepth 100000 in
set_option maxHeartbeats 4000000 in
theorem w_Mo_throwing_26 {D : va_G} {cT : Nat → ClassId} {H0 : Heap} {l : Launch} {p : Program} {e : Env} {s : State} {m : MethodId} {args : Array Value} {below : List Frame} {meth : Method} {c : Code} {S0 : gS} {S' : gS} {r : Int32} (Y : gY D cT H0 p s m args meth c prog_12_method_3_code 4 "PlanTextModel" 0 0 S0 (Option.some Jvm.ClassFile.FieldType.boolean))  (x0 : Nat) (t0 : Int32) (t1 : Nat) (S : gS) (hden : B_Mo_throwing_26  x0 t0 t1 S = some (r, S')) {ls : Array Slot} (hl : lv_has ls 4 [(0, va_rf (some x0))]) : gV D cT H0 p l e (gRm 0 0 S0) s m args below meth c (gQ D cT H0 below S0 S' (.inr (some (.int r))) s) S0 S (F0 m 26 ls [.int t0, va_rf (some t1)]) := by
  obtain ⟨X, hZ, hex, hr, hE⟩ := id Y
  have hx := X.1
  have hb := X.2.1
  unfold B_Mo_throwing_26 at hden
  replace hden := gb hden
  obtain ⟨S1, hv, hden⟩ := hden
  refine r_put X cl_Mo (k := 0) hv (by decide) q_765 rfl rfl rfl d_Mo_throwing_26 ?_
  refine gV.lift (fun _ _ _ _ => g_aload_n hx hb d_Mo_throwing_29 rfl (lv_at hl 0 rfl)) ?_
  replace hden := gb hden
  obtain ⟨v2, hv, hden⟩ := hden
  refine r_getI X cl_Mo (k := 0) hv (by decide) q_765 d_Mo_throwing_30 ?_
  refine gV.lift2 (fun _ _ _ _ => lv_if_le (tgt := 40) hx hb d_Mo_throwing_33 (by decide)) (fun hc3 => ?_) (fun hc3 => ?_)
  · replace hden := gip hc3 hden
    refine gV.lift (fun _ _ _ _ => lv_iconst (v := 0) hx hb d_Mo_throwing_40 (by decide)) ?_
    exact w_Mo_throwing_41 Y  0 S1 hden (lv_sub hl [] rfl)
  · replace hden := gin hc3 hden
    refine gV.lift (fun _ _ _ _ => lv_iconst (v := 1) hx hb d_Mo_throwing_36 (by decide)) ?_
    refine gV.lift (fun _ _ _ _ => lv_goto (tgt := 41) hx hb d_Mo_throwing_37 (by decide)) ?_
    exact w_Mo_throwing_41 Y  1 S1 hden (lv_sub hl [] rfl)
def D_Mo_throwing (h0 : Nat) (p0 : Int32) (p1 : Int32) (p2 : Int32) (S : gS) : Option (Int32 × gS) := (if p0 = 0 then (if p1 = 0 then (if p2 = 0 then B_Mo_throwing_26  h0 0 h0 S else B_Mo_throwing_26  h0 3 h0 S) else B_Mo_throwing_26  h0 2 h0 S) else B_Mo_throwing_26  h0 1 h0 S)
set_option maxRecDepth 100000 in
set_option maxHeartbeats 4000000 in
theorem c_Mo_throwing {D : va_G} {cT : Nat → ClassId} {H0 : Heap} {l : Launch} {S : gS} {S' : gS} {h0 : Nat} {p0 : Int32} {p1 : Int32} {p2 : Int32} {r : Int32} (hden : D_Mo_throwing h0 p0 p1 p2 S = some (r, S')) : gM D cT H0 l y_Mo_throwing (Cond.code y_Mo_throwing prog_12_method_3_code 4 (Option.some Jvm.ClassFile.FieldType.boolean)) 0 0 [va_rf (some h0), .int p0, .int p1, .int p2] S S' (.inr (some (.int r))) := by
  refine gM.ofV (by decide) ?_
  intro p e s m args below meth c s₁ B hml ea X hZ hex hr hE
  subst ea
  have Y : gY D cT H0 p s m _ meth c prog_12_method_3_code 4 "PlanTextModel" 0 0 S (Option.some Jvm.ClassFile.FieldType.boolean) := ⟨X, hZ, hex, hr, hE⟩
  have hx := X.1
  have hb := X.2.1
  have hl := lv_entry ([va_rf (some h0), .int p0, .int p1, .int p2]) (n := 4) (Nat.le_of_ble_eq_true rfl)
  rw [lg_entry_eq]
  generalize (lg_sl ([va_rf (some h0), .int p0, .int p1, .int p2]) ++ List.replicate (4 - (lg_sl ([va_rf (some h0), .int p0, .int p1, .int p2])).length) Slot.unset).toArray = ls at hl ⊢
  have hl : lv_has ls 4 [(0, va_rf (some h0)), (1, .int p0), (2, .int p1), (3, .int p2)] := hl
  unfold D_Mo_throwing at hden
  refine gV.lift (fun _ _ _ _ => g_aload_n hx hb d_Mo_throwing_0 rfl (lv_at hl 0 rfl)) ?_
  refine gV.lift (fun _ _ _ _ => lv_iload_n hx hb d_Mo_throwing_1 rfl (lv_at hl 1 rfl)) ?_
  refine gV.lift2 (fun _ _ _ _ => lv_if_eq (tgt := 9) hx hb d_Mo_throwing_2 (by decide)) (fun hc1 => ?_) (fun hc1 => ?_)
  · replace hden := gip hc1 hden
    refine gV.lift (fun _ _ _ _ => lv_iload_n hx hb d_Mo_throwing_9 rfl (lv_at hl 2 rfl)) ?_
    refine gV.lift2 (fun _ _ _ _ => lv_if_eq (tgt := 17) hx hb d_Mo_throwing_10 (by decide)) (fun hc2 => ?_) (fun hc2 => ?_)
    · replace hden := gip hc2 hden
      refine gV.lift (fun _ _ _ _ => lv_iload_n hx hb d_Mo_throwing_17 rfl (lv_at hl 3 rfl)) ?_
      refine gV.lift2 (fun _ _ _ _ => lv_if_eq (tgt := 25) hx hb d_Mo_throwing_18 (by decide)) (fun hc3 => ?_) (fun hc3 => ?_)
      · replace hden := gip hc3 hden
        refine gV.lift (fun _ _ _ _ => lv_iconst (v := 0) hx hb d_Mo_throwing_25 (by decide)) ?_
        exact w_Mo_throwing_26 Y  h0 0 h0 S hden (lv_sub hl [0] rfl)
      · replace hden := gin hc3 hden
        refine gV.lift (fun _ _ _ _ => lv_iconst (v := 3) hx hb d_Mo_throwing_21 (by decide)) ?_
        refine gV.lift (fun _ _ _ _ => lv_goto (tgt := 26) hx hb d_Mo_throwing_22 (by decide)) ?_
        exact w_Mo_throwing_26 Y  h0 3 h0 S hden (lv_sub hl [0] rfl)
    · replace hden := gin hc2 hden
      refine gV.lift (fun _ _ _ _ => lv_iconst (v := 2) hx hb d_Mo_throwing_13 (by decide)) ?_
      refine gV.lift (fun _ _ _ _ => lv_goto (tgt := 26) hx hb d_Mo_throwing_14 (by decide)) ?_
      exact w_Mo_throwing_26 Y  h0 2 h0 S hden (lv_sub hl [0] rfl)
  · replace hden := gin hc1 hden
    refine gV.lift (fun _ _ _ _ => lv_iconst (v := 1) hx hb d_Mo_throwing_5 (by decide)) ?_
    refine gV.lift (fun _ _ _ _ => lv_goto (tgt := 26) hx hb d_Mo_throwing_6 (by decide)) ?_
    exact w_Mo_throwing_26 Y  h0 1 h0 S hden (lv_sub hl [0] rfl)
/-! PlanTextModel.in(III)Z -/
abbrev y_Mo_in : MethodName := ⟨"PlanTextModel", "in", "(III)Z"⟩
theorem d_Mo_in_0 : decode prog_12_method_4_code 0 = .ok (.iload_n 0, 1) := by decide +kernel
theorem d_Mo_in_1 : decode prog_12_method_4_code 1 = .ok (.iload_n 1, 1) := by decide +kernel
theorem d_Mo_in_2 : decode prog_12_method_4_code 2 = .ok (.if_icmp .lt 12, 3) := by decide +kernel
theorem d_Mo_in_5 : decode prog_12_method_4_code 5 = .ok (.iload_n 0, 1) := by decide +kernel
theorem d_Mo_in_6 : decode prog_12_method_4_code 6 = .ok (.iload_n 2, 1) := by decide +kernel
theorem d_Mo_in_7 : decode prog_12_method_4_code 7 = .ok (.if_icmp .gt 7, 3) := by decide +kernel
theorem d_Mo_in_10 : decode prog_12_method_4_code 10 = .ok (.iconst 1, 1) := by decide +kernel
theorem d_Mo_in_11 : decode prog_12_method_4_code 11 = .ok (.goto 4, 3) := by decide +kernel
theorem d_Mo_in_14 : decode prog_12_method_4_code 14 = .ok (.iconst 0, 1) := by decide +kernel
theorem d_Mo_in_15 : decode prog_12_method_4_code 15 = .ok (.ireturn, 1) := by decide +kernel
def B_Mo_in_15  (t0 : Int32) (S : gS) : Option (Int32 × gS) := Option.bind (gZo t0) (fun v1 => some (v1, S))
set_option maxRecDepth 100000 in
set_option maxHeartbeats 4000000 in
theorem w_Mo_in_15 {D : va_G} {cT : Nat → ClassId} {H0 : Heap} {l : Launch} {p : Program} {e : Env} {s : State} {m : MethodId} {args : Array Value} {below : List Frame} {meth : Method} {c : Code} {S0 : gS} {S' : gS} {r : Int32} (Y : gY D cT H0 p s m args meth c prog_12_method_4_code 3 "PlanTextModel" 0 0 S0 (Option.some Jvm.ClassFile.FieldType.boolean))  (t0 : Int32) (S : gS) (hden : B_Mo_in_15  t0 S = some (r, S')) {ls : Array Slot} (hl : lv_has ls 3 []) : gV D cT H0 p l e (gRm 0 0 S0) s m args below meth c (gQ D cT H0 below S0 S' (.inr (some (.int r))) s) S0 S (F0 m 15 ls [.int t0]) := by
  obtain ⟨X, hZ, hex, hr, hE⟩ := id Y
  have hx := X.1
  have hb := X.2.1
  unfold B_Mo_in_15 at hden
  replace hden := gb hden
  obtain ⟨v1, hz, hden⟩ := hden
  obtain ⟨rfl, hz2, -⟩ := gZo_spec hz
  obtain ⟨rfl, rfl⟩ := gpi hden
  exact g_zret X hr hz2 d_Mo_in_15
def B_Mo_in_14   (S : gS) : Option (Int32 × gS) := B_Mo_in_15  0 S
set_option maxRecDepth 100000 in
set_option maxHeartbeats 4000000 in
theorem w_Mo_in_14 {D : va_G} {cT : Nat → ClassId} {H0 : Heap} {l : Launch} {p : Program} {e : Env} {s : State} {m : MethodId} {args : Array Value} {below : List Frame} {meth : Method} {c : Code} {S0 : gS} {S' : gS} {r : Int32} (Y : gY D cT H0 p s m args meth c prog_12_method_4_code 3 "PlanTextModel" 0 0 S0 (Option.some Jvm.ClassFile.FieldType.boolean))   (S : gS) (hden : B_Mo_in_14   S = some (r, S')) {ls : Array Slot} (hl : lv_has ls 3 []) : gV D cT H0 p l e (gRm 0 0 S0) s m args below meth c (gQ D cT H0 below S0 S' (.inr (some (.int r))) s) S0 S (F0 m 14 ls []) := by
  obtain ⟨X, hZ, hex, hr, hE⟩ := id Y
  have hx := X.1
  have hb := X.2.1
  unfold B_Mo_in_14 at hden
  refine gV.lift (fun _ _ _ _ => lv_iconst (v := 0) hx hb d_Mo_in_14 (by decide)) ?_
  exact w_Mo_in_15 Y  0 S hden (lv_sub hl [] rfl)
def D_Mo_in (p0 : Int32) (p1 : Int32) (p2 : Int32) (S : gS) : Option (Int32 × gS) := (if p0 < p1 then B_Mo_in_14  S else (if p2 < p0 then B_Mo_in_14  S else B_Mo_in_15  1 S))
set_option maxRecDepth 100000 in
set_option maxHeartbeats 4000000 in
theorem c_Mo_in {D : va_G} {cT : Nat → ClassId} {H0 : Heap} {l : Launch} {S : gS} {S' : gS} {p0 : Int32} {p1 : Int32} {p2 : Int32} {r : Int32} (hden : D_Mo_in p0 p1 p2 S = some (r, S')) : gM D cT H0 l y_Mo_in (Cond.code y_Mo_in prog_12_method_4_code 3 (Option.some Jvm.ClassFile.FieldType.boolean)) 0 0 [.int p0, .int p1, .int p2] S S' (.inr (some (.int r))) := by
  refine gM.ofV (by decide) ?_
  intro p e s m args below meth c s₁ B hml ea X hZ hex hr hE
  subst ea
  have Y : gY D cT H0 p s m _ meth c prog_12_method_4_code 3 "PlanTextModel" 0 0 S (Option.some Jvm.ClassFile.FieldType.boolean) := ⟨X, hZ, hex, hr, hE⟩
  have hx := X.1
  have hb := X.2.1
  have hl := lv_entry ([.int p0, .int p1, .int p2]) (n := 3) (Nat.le_of_ble_eq_true rfl)
  rw [lg_entry_eq]
  generalize (lg_sl ([.int p0, .int p1, .int p2]) ++ List.replicate (3 - (lg_sl ([.int p0, .int p1, .int p2])).length) Slot.unset).toArray = ls at hl ⊢
  have hl : lv_has ls 3 [(0, .int p0), (1, .int p1), (2, .int p2)] := hl
  unfold D_Mo_in at hden
  refine gV.lift (fun _ _ _ _ => lv_iload_n hx hb d_Mo_in_0 rfl (lv_at hl 0 rfl)) ?_
  refine gV.lift (fun _ _ _ _ => lv_iload_n hx hb d_Mo_in_1 rfl (lv_at hl 1 rfl)) ?_
  refine gV.lift2 (fun _ _ _ _ => lv_icmp_lt (tgt := 14) hx hb d_Mo_in_2 (by decide)) (fun hc1 => ?_) (fun hc1 => ?_)
  · replace hden := gip hc1 hden
    exact w_Mo_in_14 Y  S hden (lv_sub hl [] rfl)
  · replace hden := gin hc1 hden
    refine gV.lift (fun _ _ _ _ => lv_iload_n hx hb d_Mo_in_5 rfl (lv_at hl 0 rfl)) ?_
    refine gV.lift (fun _ _ _ _ => lv_iload_n hx hb d_Mo_in_6 rfl (lv_at hl 2 rfl)) ?_
    refine gV.lift2 (fun _ _ _ _ => lv_icmp_gt (tgt := 14) hx hb d_Mo_in_7 (by decide)) (fun hc2 => ?_) (fun hc2 => ?_)
    · replace hden := gip hc2 hden
      exact w_Mo_in_14 Y  S hden (lv_sub hl [] rfl)
    · replace hden := gin hc2 hden
      refine gV.lift (fun _ _ _ _ => lv_iconst (v := 1) hx hb d_Mo_in_10 (by decide)) ?_
      refine gV.lift (fun _ _ _ _ => lv_goto (tgt := 15) hx hb d_Mo_in_11 (by decide)) ?_
      exact w_Mo_in_15 Y  1 S hden (lv_sub hl [] rfl)
/-! PlanTextModel.sign(JI)I -/
abbrev y_Mo_sign : MethodName := ⟨"PlanTextModel", "sign", "(JI)I"⟩
theorem d_Mo_sign_0 : decode prog_12_method_5_code 0 = .ok (.iload_n 3, 1) := by decide +kernel
theorem d_Mo_sign_1 : decode prog_12_method_5_code 1 = .ok (.iconst 1, 1) := by decide +kernel
theorem d_Mo_sign_2 : decode prog_12_method_5_code 2 = .ok (.bipush 8, 2) := by decide +kernel
theorem d_Mo_sign_4 : decode prog_12_method_5_code 4 = .ok (.invokestatic 72, 3) := by decide +kernel
theorem d_Mo_sign_7 : decode prog_12_method_5_code 7 = .ok (.ifCond .ne 7, 3) := by decide +kernel
theorem d_Mo_sign_10 : decode prog_12_method_5_code 10 = .ok (.iconst 1, 1) := by decide +kernel
theorem d_Mo_sign_11 : decode prog_12_method_5_code 11 = .ok (.goto 4, 3) := by decide +kernel
theorem d_Mo_sign_14 : decode prog_12_method_5_code 14 = .ok (.iconst 0, 1) := by decide +kernel
theorem d_Mo_sign_15 : decode prog_12_method_5_code 15 = .ok (.istore 4, 2) := by decide +kernel
theorem d_Mo_sign_17 : decode prog_12_method_5_code 17 = .ok (.aload_n 0, 1) := by decide +kernel
theorem d_Mo_sign_18 : decode prog_12_method_5_code 18 = .ok (.iload 4, 2) := by decide +kernel
theorem d_Mo_sign_20 : decode prog_12_method_5_code 20 = .ok (.iload 4, 2) := by decide +kernel
theorem d_Mo_sign_22 : decode prog_12_method_5_code 22 = .ok (.ifCond .ne 19, 3) := by decide +kernel
theorem d_Mo_sign_25 : decode prog_12_method_5_code 25 = .ok (.aload_n 0, 1) := by decide +kernel
theorem d_Mo_sign_26 : decode prog_12_method_5_code 26 = .ok (.getfield 76, 3) := by decide +kernel
theorem d_Mo_sign_29 : decode prog_12_method_5_code 29 = .ok (.iload_n 3, 1) := by decide +kernel
theorem d_Mo_sign_30 : decode prog_12_method_5_code 30 = .ok (.iadd, 1) := by decide +kernel
theorem d_Mo_sign_31 : decode prog_12_method_5_code 31 = .ok (.sipush 400, 3) := by decide +kernel
theorem d_Mo_sign_34 : decode prog_12_method_5_code 34 = .ok (.if_icmp .le 7, 3) := by decide +kernel
theorem d_Mo_sign_37 : decode prog_12_method_5_code 37 = .ok (.iconst 1, 1) := by decide +kernel
theorem d_Mo_sign_38 : decode prog_12_method_5_code 38 = .ok (.goto 4, 3) := by decide +kernel
theorem d_Mo_sign_41 : decode prog_12_method_5_code 41 = .ok (.iconst 0, 1) := by decide +kernel
theorem d_Mo_sign_42 : decode prog_12_method_5_code 42 = .ok (.iconst 0, 1) := by decide +kernel
theorem d_Mo_sign_43 : decode prog_12_method_5_code 43 = .ok (.invokevirtual 79, 3) := by decide +kernel
theorem d_Mo_sign_46 : decode prog_12_method_5_code 46 = .ok (.ifCond .eq 5, 3) := by decide +kernel
theorem d_Mo_sign_49 : decode prog_12_method_5_code 49 = .ok (.iconst 0, 1) := by decide +kernel
theorem d_Mo_sign_50 : decode prog_12_method_5_code 50 = .ok (.ireturn, 1) := by decide +kernel
theorem d_Mo_sign_51 : decode prog_12_method_5_code 51 = .ok (.iload_n 3, 1) := by decide +kernel
theorem d_Mo_sign_52 : decode prog_12_method_5_code 52 = .ok (.iconst 1, 1) := by decide +kernel
theorem d_Mo_sign_53 : decode prog_12_method_5_code 53 = .ok (.isub, 1) := by decide +kernel
theorem d_Mo_sign_54 : decode prog_12_method_5_code 54 = .ok (.istore 5, 2) := by decide +kernel
theorem d_Mo_sign_56 : decode prog_12_method_5_code 56 = .ok (.iload 5, 2) := by decide +kernel
theorem d_Mo_sign_58 : decode prog_12_method_5_code 58 = .ok (.ifCond .lt 40, 3) := by decide +kernel
theorem d_Mo_sign_61 : decode prog_12_method_5_code 61 = .ok (.aload_n 0, 1) := by decide +kernel
theorem d_Mo_sign_62 : decode prog_12_method_5_code 62 = .ok (.getfield 7, 3) := by decide +kernel
theorem d_Mo_sign_65 : decode prog_12_method_5_code 65 = .ok (.aload_n 0, 1) := by decide +kernel
theorem d_Mo_sign_66 : decode prog_12_method_5_code 66 = .ok (.getfield 76, 3) := by decide +kernel
theorem d_Mo_sign_69 : decode prog_12_method_5_code 69 = .ok (.lload_n 1, 1) := by decide +kernel
theorem d_Mo_sign_70 : decode prog_12_method_5_code 70 = .ok (.bipush 8, 2) := by decide +kernel
theorem d_Mo_sign_72 : decode prog_12_method_5_code 72 = .ok (.iload 5, 2) := by decide +kernel
theorem d_Mo_sign_74 : decode prog_12_method_5_code 74 = .ok (.imul, 1) := by decide +kernel
theorem d_Mo_sign_75 : decode prog_12_method_5_code 75 = .ok (.lshr, 1) := by decide +kernel
theorem d_Mo_sign_76 : decode prog_12_method_5_code 76 = .ok (.l2i, 1) := by decide +kernel
theorem d_Mo_sign_77 : decode prog_12_method_5_code 77 = .ok (.sipush 255, 3) := by decide +kernel
theorem d_Mo_sign_80 : decode prog_12_method_5_code 80 = .ok (.iand, 1) := by decide +kernel
theorem d_Mo_sign_81 : decode prog_12_method_5_code 81 = .ok (.iastore, 1) := by decide +kernel
theorem d_Mo_sign_82 : decode prog_12_method_5_code 82 = .ok (.aload_n 0, 1) := by decide +kernel
theorem d_Mo_sign_83 : decode prog_12_method_5_code 83 = .ok (.dup, 1) := by decide +kernel
theorem d_Mo_sign_84 : decode prog_12_method_5_code 84 = .ok (.getfield 76, 3) := by decide +kernel
theorem d_Mo_sign_87 : decode prog_12_method_5_code 87 = .ok (.iconst 1, 1) := by decide +kernel
theorem d_Mo_sign_88 : decode prog_12_method_5_code 88 = .ok (.iadd, 1) := by decide +kernel
theorem d_Mo_sign_89 : decode prog_12_method_5_code 89 = .ok (.putfield 76, 3) := by decide +kernel
theorem d_Mo_sign_92 : decode prog_12_method_5_code 92 = .ok (.iinc 5 (-1), 3) := by decide +kernel
theorem d_Mo_sign_95 : decode prog_12_method_5_code 95 = .ok (.goto (-39), 3) := by decide +kernel
theorem d_Mo_sign_98 : decode prog_12_method_5_code 98 = .ok (.aload_n 0, 1) := by decide +kernel
theorem d_Mo_sign_99 : decode prog_12_method_5_code 99 = .ok (.getfield 76, 3) := by decide +kernel
theorem d_Mo_sign_102 : decode prog_12_method_5_code 102 = .ok (.ireturn, 1) := by decide +kernel
def B_Mo_sign_56 (k56 : Nat → Int64 → Int32 → gS → Option (Int32 × gS)) (x0 : Nat) (x1 : Int64) (x5 : Int32) (S : gS) : Option (Int32 × gS) := (if x5 < 0 then Option.bind (gI S x0 10 2) (fun v2 => some (v2, S)) else Option.bind (gRf S x0 10 1) (fun r3 => Option.bind (gI S x0 10 2) (fun v4 => Option.bind r3 (fun a5 => Option.bind (gSI S a5 0 v4 (((x1 >>> ((8 * x5).toInt64 &&& 63)).toInt32) &&& 255)) (fun S6 => Option.bind (gI S6 x0 10 2) (fun v7 => Option.bind (gPut S6 x0 10 2 (.int (v7 + 1))) (fun S8 => k56 x0 x1 (x5 + (-1)) S8)))))))
set_option maxRecDepth 100000 in
set_option maxHeartbeats 4000000 in
theorem w_Mo_sign_56 {D : va_G} {cT : Nat → ClassId} {H0 : Heap} {l : Launch} {p : Program} {e : Env} {s : State} {m : MethodId} {args : Array Value} {below : List Frame} {meth : Method} {c : Code} {S0 : gS} {S' : gS} {r : Int32} (Y : gY D cT H0 p s m args meth c prog_12_method_5_code 6 "PlanTextModel" 1 23 S0 (Option.some Jvm.ClassFile.FieldType.int)) {k56 : Nat → Int64 → Int32 → gS → Option (Int32 × gS)} (hk56 : ∀ (x0 : Nat) (x1 : Int64) (x5 : Int32) (S : gS) (ls : Array Slot), k56 x0 x1 x5 S = some (r, S') → lv_has ls 6 [(0, va_rf (some x0)), (1, .long x1), (5, .int x5)] → gV D cT H0 p l e (gRm 1 23 S0) s m args below meth c (gQ D cT H0 below S0 S' (.inr (some (.int r))) s) S0 S (F0 m 56 ls [])) (x0 : Nat) (x1 : Int64) (x5 : Int32) (S : gS) (hden : B_Mo_sign_56 k56 x0 x1 x5 S = some (r, S')) {ls : Array Slot} (hl : lv_has ls 6 [(0, va_rf (some x0)), (1, .long x1), (5, .int x5)]) : gV D cT H0 p l e (gRm 1 23 S0) s m args below meth c (gQ D cT H0 below S0 S' (.inr (some (.int r))) s) S0 S (F0 m 56 ls []) := by
  obtain ⟨X, hZ, hex, hr, hE⟩ := id Y
  have hx := X.1
  have hb := X.2.1
  unfold B_Mo_sign_56 at hden
  refine gV.lift (fun _ _ _ _ => lv_iload hx hb d_Mo_sign_56 (lv_at hl 2 rfl)) ?_
  refine gV.lift2 (fun _ _ _ _ => lv_if_lt (tgt := 98) hx hb d_Mo_sign_58 (by decide)) (fun hc1 => ?_) (fun hc1 => ?_)
  · replace hden := gip hc1 hden
    refine gV.lift (fun _ _ _ _ => g_aload_n hx hb d_Mo_sign_98 rfl (lv_at hl 0 rfl)) ?_
    replace hden := gb hden
    obtain ⟨v2, hv, hden⟩ := hden
    refine r_getI X cl_Mo (k := 2) hv (by decide) q_767 d_Mo_sign_99 ?_
    obtain ⟨rfl, rfl⟩ := gpi hden
    exact g_iret X hr d_Mo_sign_102
  · replace hden := gin hc1 hden
    refine gV.lift (fun _ _ _ _ => g_aload_n hx hb d_Mo_sign_61 rfl (lv_at hl 0 rfl)) ?_
    replace hden := gb hden
    obtain ⟨r3, hv, hden⟩ := hden
    refine r_getR X cl_Mo (k := 1) hv (by decide) q_766 d_Mo_sign_62 ?_
    refine gV.lift (fun _ _ _ _ => g_aload_n hx hb d_Mo_sign_65 rfl (lv_at hl 0 rfl)) ?_
    replace hden := gb hden
    obtain ⟨v4, hv, hden⟩ := hden
    refine r_getI X cl_Mo (k := 2) hv (by decide) q_767 d_Mo_sign_66 ?_
    refine gV.lift (fun _ _ _ _ => lv_lload_n hx hb d_Mo_sign_69 rfl (lv_at hl 1 rfl)) ?_
    refine gV.lift (fun _ _ _ _ => lv_bipush (v := 8) hx hb d_Mo_sign_70 (by decide)) ?_
    refine gV.lift (fun _ _ _ _ => lv_iload hx hb d_Mo_sign_72 (lv_at hl 2 rfl)) ?_
    refine gV.lift (fun _ _ _ _ => lv_imul hx hb d_Mo_sign_74) ?_
    refine gV.lift (fun _ _ _ _ => lv_lshr (v := (x1 >>> ((8 * x5).toInt64 &&& 63))) hx hb d_Mo_sign_75 rfl) ?_
    refine gV.lift (fun _ _ _ _ => lv_l2i (v := (x1 >>> ((8 * x5).toInt64 &&& 63)).toInt32) hx hb d_Mo_sign_76 rfl) ?_
    refine gV.lift (fun _ _ _ _ => lv_sipush (v := 255) hx hb d_Mo_sign_77 (by decide)) ?_
    refine gV.lift (fun _ _ _ _ => lv_iand hx hb d_Mo_sign_80) ?_
    replace hden := gb hden
    obtain ⟨a5, rfl, hden⟩ := hden
    replace hden := gb hden
    obtain ⟨S6, hv, hden⟩ := hden
    refine r_iast X (t := 0) rfl hv d_Mo_sign_81 ?_
    refine gV.lift (fun _ _ _ _ => g_aload_n hx hb d_Mo_sign_82 rfl (lv_at hl 0 rfl)) ?_
    refine gV.lift (fun _ _ _ _ => lv_dup hx hb d_Mo_sign_83 g_cat) ?_
    replace hden := gb hden
    obtain ⟨v7, hv, hden⟩ := hden
    refine r_getI X cl_Mo (k := 2) hv (by decide) q_767 d_Mo_sign_84 ?_
    refine gV.lift (fun _ _ _ _ => lv_iconst (v := 1) hx hb d_Mo_sign_87 (by decide)) ?_
    refine gV.lift (fun _ _ _ _ => lv_iadd hx hb d_Mo_sign_88) ?_
    replace hden := gb hden
    obtain ⟨S8, hv, hden⟩ := hden
    refine r_put X cl_Mo (k := 2) hv (by decide) q_767 rfl rfl rfl d_Mo_sign_89 ?_
    refine gV.liftS (nL := 6) (lv' := [(5, .int (x5 + (-1))), (0, va_rf (some x0)), (1, .long x1)]) (fun _ _ _ _ => lv_iinc (v := (x5 + (-1))) hx hb d_Mo_sign_92 hl (k := 2) rfl rfl (by decide) rfl) (fun ls hl => ?_)
    refine gV.lift (fun _ _ _ _ => lv_goto (tgt := 56) hx hb d_Mo_sign_95 (by decide)) ?_
    exact hk56 x0 x1 (x5 + (-1)) S8 _ hden (lv_sub hl [1, 2, 0] rfl)
def L_Mo_sign_56  : Nat → Nat → Int64 → Int32 → gS → Option (Int32 × gS)
  | 0 => fun _ _ _ _ => none
  | n + 1 => fun x0 x1 x5 S => B_Mo_sign_56  (L_Mo_sign_56  n) x0 x1 x5 S
theorem wL_Mo_sign_56 {D : va_G} {cT : Nat → ClassId} {H0 : Heap} {l : Launch} {p : Program} {e : Env} {s : State} {m : MethodId} {args : Array Value} {below : List Frame} {meth : Method} {c : Code} {S0 : gS} {S' : gS} {r : Int32} (Y : gY D cT H0 p s m args meth c prog_12_method_5_code 6 "PlanTextModel" 1 23 S0 (Option.some Jvm.ClassFile.FieldType.int))  : ∀ (n : Nat) (x0 : Nat) (x1 : Int64) (x5 : Int32) (S : gS) (ls : Array Slot), L_Mo_sign_56  n x0 x1 x5 S = some (r, S') → lv_has ls 6 [(0, va_rf (some x0)), (1, .long x1), (5, .int x5)] → gV D cT H0 p l e (gRm 1 23 S0) s m args below meth c (gQ D cT H0 below S0 S' (.inr (some (.int r))) s) S0 S (F0 m 56 ls []) := by
  intro n
  induction n with
  | zero => intro x0 x1 x5 S ls h hl; cases h
  | succ n ih => intro x0 x1 x5 S ls h hl; exact w_Mo_sign_56 Y ih x0 x1 x5 S h hl
def B_Mo_sign_42  (x0 : Nat) (x1 : Int64) (x3 : Int32) (t0 : Int32) (t1 : Int32) (t2 : Nat) (S : gS) : Option (Int32 × gS) := Option.bind (gOb S t2 10) (fun fs3 => gB2 (D_Mo_throwing t2 t1 t0 0 S) (fun v2 S1 => (if v2 = 0 then L_Mo_sign_56  gF x0 x1 (x3 - 1) S1 else some (0, S1))))
set_option maxRecDepth 100000 in
set_option maxHeartbeats 4000000 in
theorem w_Mo_sign_42 {D : va_G} {cT : Nat → ClassId} {H0 : Heap} {l : Launch} {p : Program} {e : Env} {s : State} {m : MethodId} {args : Array Value} {below : List Frame} {meth : Method} {c : Code} {S0 : gS} {S' : gS} {r : Int32} (Y : gY D cT H0 p s m args meth c prog_12_method_5_code 6 "PlanTextModel" 1 23 S0 (Option.some Jvm.ClassFile.FieldType.int))  (x0 : Nat) (x1 : Int64) (x3 : Int32) (t0 : Int32) (t1 : Int32) (t2 : Nat) (S : gS) (hden : B_Mo_sign_42  x0 x1 x3 t0 t1 t2 S = some (r, S')) {ls : Array Slot} (hl : lv_has ls 6 [(0, va_rf (some x0)), (1, .long x1), (3, .int x3)]) : gV D cT H0 p l e (gRm 1 23 S0) s m args below meth c (gQ D cT H0 below S0 S' (.inr (some (.int r))) s) S0 S (F0 m 42 ls [.int t0, .int t1, va_rf (some t2)]) := by
  obtain ⟨X, hZ, hex, hr, hE⟩ := id Y
  have hx := X.1
  have hb := X.2.1
  unfold B_Mo_sign_42 at hden
  refine gV.lift (fun _ _ _ _ => lv_iconst (v := 0) hx hb d_Mo_sign_42 (by decide)) ?_
  replace hden := gb hden
  obtain ⟨fs3, ho, hden⟩ := hden
  replace hden := gb2 hden
  obtain ⟨v2, S1, hz, hden⟩ := hden
  refine g_callV (As := [.int t1, .int t0, .int 0]) (rest := []) X hZ (c_Mo_throwing hz) cl_Mo (gOb_spec ho) q_859 q_5 q_856 q_858 qp_26 ⟨by decide, by decide, by show _ = some 3; decide +kernel⟩ ⟨by decide, by decide⟩ hl.1 (Nat.le_of_ble_eq_true rfl) d_Mo_sign_43 rfl rfl ?_
  refine gV.lift2 (fun _ _ _ _ => lv_if_eq (tgt := 51) hx hb d_Mo_sign_46 (by decide)) (fun hc4 => ?_) (fun hc4 => ?_)
  · replace hden := gip hc4 hden
    refine gV.lift (fun _ _ _ _ => lv_iload_n hx hb d_Mo_sign_51 rfl (lv_at hl 2 rfl)) ?_
    refine gV.lift (fun _ _ _ _ => lv_iconst (v := 1) hx hb d_Mo_sign_52 (by decide)) ?_
    refine gV.lift (fun _ _ _ _ => lv_isub hx hb d_Mo_sign_53) ?_
    refine gV.liftS (nL := 6) (lv' := [(5, .int (x3 - 1)), (0, va_rf (some x0)), (1, .long x1), (3, .int x3)]) (fun _ _ _ _ => lv_istore hx hb d_Mo_sign_54 hl (by decide) rfl) (fun ls hl => ?_)
    exact wL_Mo_sign_56 Y  gF x0 x1 (x3 - 1) S1 _ hden (lv_sub hl [1, 2, 0] rfl)
  · replace hden := gin hc4 hden
    refine gV.lift (fun _ _ _ _ => lv_iconst (v := 0) hx hb d_Mo_sign_49 (by decide)) ?_
    obtain ⟨rfl, rfl⟩ := gpi hden
    exact g_iret X hr d_Mo_sign_50
def B_Mo_sign_41  (x0 : Nat) (x1 : Int64) (x3 : Int32) (t0 : Int32) (t1 : Nat) (S : gS) : Option (Int32 × gS) := B_Mo_sign_42  x0 x1 x3 0 t0 t1 S
set_option maxRecDepth 100000 in
set_option maxHeartbeats 4000000 in
theorem w_Mo_sign_41 {D : va_G} {cT : Nat → ClassId} {H0 : Heap} {l : Launch} {p : Program} {e : Env} {s : State} {m : MethodId} {args : Array Value} {below : List Frame} {meth : Method} {c : Code} {S0 : gS} {S' : gS} {r : Int32} (Y : gY D cT H0 p s m args meth c prog_12_method_5_code 6 "PlanTextModel" 1 23 S0 (Option.some Jvm.ClassFile.FieldType.int))  (x0 : Nat) (x1 : Int64) (x3 : Int32) (t0 : Int32) (t1 : Nat) (S : gS) (hden : B_Mo_sign_41  x0 x1 x3 t0 t1 S = some (r, S')) {ls : Array Slot} (hl : lv_has ls 6 [(0, va_rf (some x0)), (1, .long x1), (3, .int x3)]) : gV D cT H0 p l e (gRm 1 23 S0) s m args below meth c (gQ D cT H0 below S0 S' (.inr (some (.int r))) s) S0 S (F0 m 41 ls [.int t0, va_rf (some t1)]) := by
  obtain ⟨X, hZ, hex, hr, hE⟩ := id Y
  have hx := X.1
  have hb := X.2.1
  unfold B_Mo_sign_41 at hden
  refine gV.lift (fun _ _ _ _ => lv_iconst (v := 0) hx hb d_Mo_sign_41 (by decide)) ?_
  exact w_Mo_sign_42 Y  x0 x1 x3 0 t0 t1 S hden (lv_sub hl [0, 1, 2] rfl)
def B_Mo_sign_15  (x0 : Nat) (x1 : Int64) (x3 : Int32) (t0 : Int32) (S : gS) : Option (Int32 × gS) := (if t0 = 0 then Option.bind (gI S x0 10 2) (fun v2 => (if (v2 + x3) ≤ 400 then B_Mo_sign_41  x0 x1 x3 t0 x0 S else B_Mo_sign_42  x0 x1 x3 1 t0 x0 S)) else B_Mo_sign_41  x0 x1 x3 t0 x0 S)
set_option maxRecDepth 100000 in
set_option maxHeartbeats 4000000 in
theorem w_Mo_sign_15 {D : va_G} {cT : Nat → ClassId} {H0 : Heap} {l : Launch} {p : Program} {e : Env} {s : State} {m : MethodId} {args : Array Value} {below : List Frame} {meth : Method} {c : Code} {S0 : gS} {S' : gS} {r : Int32} (Y : gY D cT H0 p s m args meth c prog_12_method_5_code 6 "PlanTextModel" 1 23 S0 (Option.some Jvm.ClassFile.FieldType.int))  (x0 : Nat) (x1 : Int64) (x3 : Int32) (t0 : Int32) (S : gS) (hden : B_Mo_sign_15  x0 x1 x3 t0 S = some (r, S')) {ls : Array Slot} (hl : lv_has ls 6 [(0, va_rf (some x0)), (1, .long x1), (3, .int x3)]) : gV D cT H0 p l e (gRm 1 23 S0) s m args below meth c (gQ D cT H0 below S0 S' (.inr (some (.int r))) s) S0 S (F0 m 15 ls [.int t0]) := by
  obtain ⟨X, hZ, hex, hr, hE⟩ := id Y
  have hx := X.1
  have hb := X.2.1
  unfold B_Mo_sign_15 at hden
  refine gV.liftS (nL := 6) (lv' := [(4, .int t0), (0, va_rf (some x0)), (1, .long x1), (3, .int x3)]) (fun _ _ _ _ => lv_istore hx hb d_Mo_sign_15 hl (by decide) rfl) (fun ls hl => ?_)
  refine gV.lift (fun _ _ _ _ => g_aload_n hx hb d_Mo_sign_17 rfl (lv_at hl 1 rfl)) ?_
  refine gV.lift (fun _ _ _ _ => lv_iload hx hb d_Mo_sign_18 (lv_at hl 0 rfl)) ?_
  refine gV.lift (fun _ _ _ _ => lv_iload hx hb d_Mo_sign_20 (lv_at hl 0 rfl)) ?_
  refine gV.lift2 (fun _ _ _ _ => lv_if_ne (tgt := 41) hx hb d_Mo_sign_22 (by decide)) (fun hc1 => ?_) (fun hc1 => ?_)
  · replace hden := gin hc1 hden
    exact w_Mo_sign_41 Y  x0 x1 x3 t0 x0 S hden (lv_sub hl [1, 2, 3] rfl)
  · replace hden := gip hc1 hden
    refine gV.lift (fun _ _ _ _ => g_aload_n hx hb d_Mo_sign_25 rfl (lv_at hl 1 rfl)) ?_
    replace hden := gb hden
    obtain ⟨v2, hv, hden⟩ := hden
    refine r_getI X cl_Mo (k := 2) hv (by decide) q_767 d_Mo_sign_26 ?_
    refine gV.lift (fun _ _ _ _ => lv_iload_n hx hb d_Mo_sign_29 rfl (lv_at hl 3 rfl)) ?_
    refine gV.lift (fun _ _ _ _ => lv_iadd hx hb d_Mo_sign_30) ?_
    refine gV.lift (fun _ _ _ _ => lv_sipush (v := 400) hx hb d_Mo_sign_31 (by decide)) ?_
    refine gV.lift2 (fun _ _ _ _ => lv_icmp_le (tgt := 41) hx hb d_Mo_sign_34 (by decide)) (fun hc3 => ?_) (fun hc3 => ?_)
    · replace hden := gip hc3 hden
      exact w_Mo_sign_41 Y  x0 x1 x3 t0 x0 S hden (lv_sub hl [1, 2, 3] rfl)
    · replace hden := gin hc3 hden
      refine gV.lift (fun _ _ _ _ => lv_iconst (v := 1) hx hb d_Mo_sign_37 (by decide)) ?_
      refine gV.lift (fun _ _ _ _ => lv_goto (tgt := 42) hx hb d_Mo_sign_38 (by decide)) ?_
      exact w_Mo_sign_42 Y  x0 x1 x3 1 t0 x0 S hden (lv_sub hl [1, 2, 3] rfl)
def D_Mo_sign (h0 : Nat) (p0 : Int64) (p1 : Int32) (S : gS) : Option (Int32 × gS) := gB2 (D_Mo_in p1 1 8 S) (fun v2 S1 => (if v2 = 0 then B_Mo_sign_15  h0 p0 p1 1 S1 else B_Mo_sign_15  h0 p0 p1 0 S1))
set_option maxRecDepth 100000 in
set_option maxHeartbeats 4000000 in
theorem c_Mo_sign {D : va_G} {cT : Nat → ClassId} {H0 : Heap} {l : Launch} {S : gS} {S' : gS} {h0 : Nat} {p0 : Int64} {p1 : Int32} {r : Int32} (hden : D_Mo_sign h0 p0 p1 S = some (r, S')) : gM D cT H0 l y_Mo_sign (Cond.code y_Mo_sign prog_12_method_5_code 6 (Option.some Jvm.ClassFile.FieldType.int)) 1 23 [va_rf (some h0), .long p0, .int p1] S S' (.inr (some (.int r))) := by
  refine gM.ofV (by decide) ?_
  intro p e s m args below meth c s₁ B hml ea X hZ hex hr hE
  subst ea
  have Y : gY D cT H0 p s m _ meth c prog_12_method_5_code 6 "PlanTextModel" 1 23 S (Option.some Jvm.ClassFile.FieldType.int) := ⟨X, hZ, hex, hr, hE⟩
  have hx := X.1
  have hb := X.2.1
  have hl := lv_entry ([va_rf (some h0), .long p0, .int p1]) (n := 6) (Nat.le_of_ble_eq_true rfl)
  rw [lg_entry_eq]
  generalize (lg_sl ([va_rf (some h0), .long p0, .int p1]) ++ List.replicate (6 - (lg_sl ([va_rf (some h0), .long p0, .int p1])).length) Slot.unset).toArray = ls at hl ⊢
  have hl : lv_has ls 6 [(0, va_rf (some h0)), (1, .long p0), (3, .int p1)] := hl
  unfold D_Mo_sign at hden
  refine gV.lift (fun _ _ _ _ => lv_iload_n hx hb d_Mo_sign_0 rfl (lv_at hl 2 rfl)) ?_
  refine gV.lift (fun _ _ _ _ => lv_iconst (v := 1) hx hb d_Mo_sign_1 (by decide)) ?_
  refine gV.lift (fun _ _ _ _ => lv_bipush (v := 8) hx hb d_Mo_sign_2 (by decide)) ?_
  replace hden := gb2 hden
  obtain ⟨v2, S1, hz, hden⟩ := hden
  refine g_callS (As := [.int p1, .int 1, .int 8]) (rest := []) X hZ (c_Mo_in hz) q_855 q_5 q_853 q_854 ⟨by decide, by decide, by show _ = some 3; decide +kernel⟩ ⟨by decide, by decide⟩ hl.1 (Nat.le_of_ble_eq_true rfl) d_Mo_sign_4 rfl rfl ?_
  refine gV.lift2 (fun _ _ _ _ => lv_if_ne (tgt := 14) hx hb d_Mo_sign_7 (by decide)) (fun hc3 => ?_) (fun hc3 => ?_)
  · replace hden := gin hc3 hden
    refine gV.lift (fun _ _ _ _ => lv_iconst (v := 0) hx hb d_Mo_sign_14 (by decide)) ?_
    exact w_Mo_sign_15 Y  h0 p0 p1 0 S1 hden (lv_sub hl [0, 1, 2] rfl)
  · replace hden := gip hc3 hden
    refine gV.lift (fun _ _ _ _ => lv_iconst (v := 1) hx hb d_Mo_sign_10 (by decide)) ?_
    refine gV.lift (fun _ _ _ _ => lv_goto (tgt := 15) hx hb d_Mo_sign_11 (by decide)) ?_
    exact w_Mo_sign_15 Y  h0 p0 p1 1 S1 hden (lv_sub hl [0, 1, 2] rfl)
/-! PlanTextModel.fail(I)V -/
abbrev y_Mo_fail : MethodName := ⟨"PlanTextModel", "fail", "(I)V"⟩
theorem d_Mo_fail_0 : decode prog_12_method_6_code 0 = .ok (.aload_n 0, 1) := by decide +kernel
theorem d_Mo_fail_1 : decode prog_12_method_6_code 1 = .ok (.getfield 83, 3) := by decide +kernel
theorem d_Mo_fail_4 : decode prog_12_method_6_code 4 = .ok (.ifCond .eq 4, 3) := by decide +kernel
theorem d_Mo_fail_7 : decode prog_12_method_6_code 7 = .ok (.return_, 1) := by decide +kernel
theorem d_Mo_fail_8 : decode prog_12_method_6_code 8 = .ok (.aload_n 0, 1) := by decide +kernel
theorem d_Mo_fail_9 : decode prog_12_method_6_code 9 = .ok (.iconst 1, 1) := by decide +kernel
theorem d_Mo_fail_10 : decode prog_12_method_6_code 10 = .ok (.putfield 83, 3) := by decide +kernel
theorem d_Mo_fail_13 : decode prog_12_method_6_code 13 = .ok (.aload_n 0, 1) := by decide +kernel
theorem d_Mo_fail_14 : decode prog_12_method_6_code 14 = .ok (.iload_n 1, 1) := by decide +kernel
theorem d_Mo_fail_15 : decode prog_12_method_6_code 15 = .ok (.putfield 13, 3) := by decide +kernel
theorem d_Mo_fail_18 : decode prog_12_method_6_code 18 = .ok (.return_, 1) := by decide +kernel
def D_Mo_fail (h0 : Nat) (p0 : Int32) (S : gS) : Option gS := Option.bind (gI S h0 10 5) (fun v1 => (if v1 = 0 then Option.bind (gZo 1) (fun v4 => Option.bind (gPut S h0 10 5 (.int v4)) (fun S3 => Option.bind (gPut S3 h0 10 6 (.int p0)) (fun S5 => some S5))) else some S))
set_option maxRecDepth 100000 in
set_option maxHeartbeats 4000000 in
theorem c_Mo_fail {D : va_G} {cT : Nat → ClassId} {H0 : Heap} {l : Launch} {S : gS} {S' : gS} {h0 : Nat} {p0 : Int32} (hden : D_Mo_fail h0 p0 S = some S') : gM D cT H0 l y_Mo_fail (Cond.code y_Mo_fail prog_12_method_6_code 2 (Option.none : Option Jvm.ClassFile.FieldType)) 0 0 [va_rf (some h0), .int p0] S S' (.inr none) := by
  refine gM.ofV (by decide) ?_
  intro p e s m args below meth c s₁ B hml ea X hZ hex hr hE
  subst ea
  have Y : gY D cT H0 p s m _ meth c prog_12_method_6_code 2 "PlanTextModel" 0 0 S (Option.none : Option Jvm.ClassFile.FieldType) := ⟨X, hZ, hex, hr, hE⟩
  have hx := X.1
  have hb := X.2.1
  have hl := lv_entry ([va_rf (some h0), .int p0]) (n := 2) (Nat.le_of_ble_eq_true rfl)
  rw [lg_entry_eq]
  generalize (lg_sl ([va_rf (some h0), .int p0]) ++ List.replicate (2 - (lg_sl ([va_rf (some h0), .int p0])).length) Slot.unset).toArray = ls at hl ⊢
  have hl : lv_has ls 2 [(0, va_rf (some h0)), (1, .int p0)] := hl
  unfold D_Mo_fail at hden
  refine gV.lift (fun _ _ _ _ => g_aload_n hx hb d_Mo_fail_0 rfl (lv_at hl 0 rfl)) ?_
  replace hden := gb hden
  obtain ⟨v1, hv, hden⟩ := hden
  refine r_getI X cl_Mo (k := 5) hv (by decide) q_770 d_Mo_fail_1 ?_
  refine gV.lift2 (fun _ _ _ _ => lv_if_eq (tgt := 8) hx hb d_Mo_fail_4 (by decide)) (fun hc2 => ?_) (fun hc2 => ?_)
  · replace hden := gip hc2 hden
    refine gV.lift (fun _ _ _ _ => g_aload_n hx hb d_Mo_fail_8 rfl (lv_at hl 0 rfl)) ?_
    refine gV.lift (fun _ _ _ _ => lv_iconst (v := 1) hx hb d_Mo_fail_9 (by decide)) ?_
    replace hden := gb hden
    obtain ⟨v4, hz, hden⟩ := hden
    obtain ⟨rfl, hz2, hz3⟩ := gZo_spec hz
    replace hden := gb hden
    obtain ⟨S3, hv, hden⟩ := hden
    refine r_put X cl_Mo (k := 5) hv (by decide) q_770 rfl hz2 hz3 d_Mo_fail_10 ?_
    refine gV.lift (fun _ _ _ _ => g_aload_n hx hb d_Mo_fail_13 rfl (lv_at hl 0 rfl)) ?_
    refine gV.lift (fun _ _ _ _ => lv_iload_n hx hb d_Mo_fail_14 rfl (lv_at hl 1 rfl)) ?_
    replace hden := gb hden
    obtain ⟨S5, hv, hden⟩ := hden
    refine r_put X cl_Mo (k := 6) hv (by decide) q_771 rfl rfl rfl d_Mo_fail_15 ?_
    obtain rfl := gsi hden
    exact g_vret X hr d_Mo_fail_18
  · replace hden := gin hc2 hden
    obtain rfl := gsi hden
    exact g_vret X hr d_Mo_fail_7
/-! PlanTextModel.see()I -/
abbrev y_Mo_see : MethodName := ⟨"PlanTextModel", "see", "()I"⟩
theorem d_Mo_see_0 : decode prog_12_method_7_code 0 = .ok (.aload_n 0, 1) := by decide +kernel
theorem d_Mo_see_1 : decode prog_12_method_7_code 1 = .ok (.getfield 87, 3) := by decide +kernel
theorem d_Mo_see_4 : decode prog_12_method_7_code 4 = .ok (.aload_n 0, 1) := by decide +kernel
theorem d_Mo_see_5 : decode prog_12_method_7_code 5 = .ok (.getfield 90, 3) := by decide +kernel
theorem d_Mo_see_8 : decode prog_12_method_7_code 8 = .ok (.if_icmp .ge 30, 3) := by decide +kernel
theorem d_Mo_see_11 : decode prog_12_method_7_code 11 = .ok (.aload_n 0, 1) := by decide +kernel
theorem d_Mo_see_12 : decode prog_12_method_7_code 12 = .ok (.getfield 7, 3) := by decide +kernel
theorem d_Mo_see_15 : decode prog_12_method_7_code 15 = .ok (.aload_n 0, 1) := by decide +kernel
theorem d_Mo_see_16 : decode prog_12_method_7_code 16 = .ok (.getfield 87, 3) := by decide +kernel
theorem d_Mo_see_19 : decode prog_12_method_7_code 19 = .ok (.iaload, 1) := by decide +kernel
theorem d_Mo_see_20 : decode prog_12_method_7_code 20 = .ok (.bipush 32, 2) := by decide +kernel
theorem d_Mo_see_22 : decode prog_12_method_7_code 22 = .ok (.if_icmp .ne 16, 3) := by decide +kernel
theorem d_Mo_see_25 : decode prog_12_method_7_code 25 = .ok (.aload_n 0, 1) := by decide +kernel
theorem d_Mo_see_26 : decode prog_12_method_7_code 26 = .ok (.dup, 1) := by decide +kernel
theorem d_Mo_see_27 : decode prog_12_method_7_code 27 = .ok (.getfield 87, 3) := by decide +kernel
theorem d_Mo_see_30 : decode prog_12_method_7_code 30 = .ok (.iconst 1, 1) := by decide +kernel
theorem d_Mo_see_31 : decode prog_12_method_7_code 31 = .ok (.iadd, 1) := by decide +kernel
theorem d_Mo_see_32 : decode prog_12_method_7_code 32 = .ok (.putfield 87, 3) := by decide +kernel
theorem d_Mo_see_35 : decode prog_12_method_7_code 35 = .ok (.goto (-35), 3) := by decide +kernel
theorem d_Mo_see_38 : decode prog_12_method_7_code 38 = .ok (.aload_n 0, 1) := by decide +kernel
theorem d_Mo_see_39 : decode prog_12_method_7_code 39 = .ok (.getfield 87, 3) := by decide +kernel
theorem d_Mo_see_42 : decode prog_12_method_7_code 42 = .ok (.aload_n 0, 1) := by decide +kernel
theorem d_Mo_see_43 : decode prog_12_method_7_code 43 = .ok (.getfield 90, 3) := by decide +kernel
theorem d_Mo_see_46 : decode prog_12_method_7_code 46 = .ok (.if_icmp .ge 15, 3) := by decide +kernel
theorem d_Mo_see_49 : decode prog_12_method_7_code 49 = .ok (.aload_n 0, 1) := by decide +kernel
theorem d_Mo_see_50 : decode prog_12_method_7_code 50 = .ok (.getfield 7, 3) := by decide +kernel
theorem d_Mo_see_53 : decode prog_12_method_7_code 53 = .ok (.aload_n 0, 1) := by decide +kernel
theorem d_Mo_see_54 : decode prog_12_method_7_code 54 = .ok (.getfield 87, 3) := by decide +kernel
theorem d_Mo_see_57 : decode prog_12_method_7_code 57 = .ok (.iaload, 1) := by decide +kernel
theorem d_Mo_see_58 : decode prog_12_method_7_code 58 = .ok (.goto 4, 3) := by decide +kernel
theorem d_Mo_see_61 : decode prog_12_method_7_code 61 = .ok (.iconst (-1), 1) := by decide +kernel
theorem d_Mo_see_62 : decode prog_12_method_7_code 62 = .ok (.ireturn, 1) := by decide +kernel
def B_Mo_see_62  (t0 : Int32) (S : gS) : Option (Int32 × gS) := some (t0, S)
set_option maxRecDepth 100000 in
set_option maxHeartbeats 4000000 in
theorem w_Mo_see_62 {D : va_G} {cT : Nat → ClassId} {H0 : Heap} {l : Launch} {p : Program} {e : Env} {s : State} {m : MethodId} {args : Array Value} {below : List Frame} {meth : Method} {c : Code} {S0 : gS} {S' : gS} {r : Int32} (Y : gY D cT H0 p s m args meth c prog_12_method_7_code 1 "PlanTextModel" 0 0 S0 (Option.some Jvm.ClassFile.FieldType.int))  (t0 : Int32) (S : gS) (hden : B_Mo_see_62  t0 S = some (r, S')) {ls : Array Slot} (hl : lv_has ls 1 []) : gV D cT H0 p l e (gRm 0 0 S0) s m args below meth c (gQ D cT H0 below S0 S' (.inr (some (.int r))) s) S0 S (F0 m 62 ls [.int t0]) := by
  obtain ⟨X, hZ, hex, hr, hE⟩ := id Y
  have hx := X.1
  have hb := X.2.1
  unfold B_Mo_see_62 at hden
  obtain ⟨rfl, rfl⟩ := gpi hden
  exact g_iret X hr d_Mo_see_62
def B_Mo_see_38  (x0 : Nat) (S : gS) : Option (Int32 × gS) := Option.bind (gI S x0 10 4) (fun v1 => Option.bind (gI S x0 10 3) (fun v2 => (if v2 ≤ v1 then B_Mo_see_62  (-1) S else Option.bind (gRf S x0 10 1) (fun r4 => Option.bind (gI S x0 10 4) (fun v5 => Option.bind r4 (fun a6 => Option.bind (gAI S a6 0 v5) (fun v7 => B_Mo_see_62  v7 S)))))))
set_option maxRecDepth 100000 in
set_option maxHeartbeats 4000000 in
theorem w_Mo_see_38 {D : va_G} {cT : Nat → ClassId} {H0 : Heap} {l : Launch} {p : Program} {e : Env} {s : State} {m : MethodId} {args : Array Value} {below : List Frame} {meth : Method} {c : Code} {S0 : gS} {S' : gS} {r : Int32} (Y : gY D cT H0 p s m args meth c prog_12_method_7_code 1 "PlanTextModel" 0 0 S0 (Option.some Jvm.ClassFile.FieldType.int))  (x0 : Nat) (S : gS) (hden : B_Mo_see_38  x0 S = some (r, S')) {ls : Array Slot} (hl : lv_has ls 1 [(0, va_rf (some x0))]) : gV D cT H0 p l e (gRm 0 0 S0) s m args below meth c (gQ D cT H0 below S0 S' (.inr (some (.int r))) s) S0 S (F0 m 38 ls []) := by
  obtain ⟨X, hZ, hex, hr, hE⟩ := id Y
  have hx := X.1
  have hb := X.2.1
  unfold B_Mo_see_38 at hden
  refine gV.lift (fun _ _ _ _ => g_aload_n hx hb d_Mo_see_38 rfl (lv_at hl 0 rfl)) ?_
  replace hden := gb hden
  obtain ⟨v1, hv, hden⟩ := hden
  refine r_getI X cl_Mo (k := 4) hv (by decide) q_769 d_Mo_see_39 ?_
  refine gV.lift (fun _ _ _ _ => g_aload_n hx hb d_Mo_see_42 rfl (lv_at hl 0 rfl)) ?_
  replace hden := gb hden
  obtain ⟨v2, hv, hden⟩ := hden
  refine r_getI X cl_Mo (k := 3) hv (by decide) q_768 d_Mo_see_43 ?_
  refine gV.lift2 (fun _ _ _ _ => lv_icmp_ge (tgt := 61) hx hb d_Mo_see_46 (by decide)) (fun hc3 => ?_) (fun hc3 => ?_)
  · replace hden := gip hc3 hden
    refine gV.lift (fun _ _ _ _ => lv_iconst (v := (-1)) hx hb d_Mo_see_61 (by decide)) ?_
    exact w_Mo_see_62 Y  (-1) S hden (lv_sub hl [] rfl)
  · replace hden := gin hc3 hden
    refine gV.lift (fun _ _ _ _ => g_aload_n hx hb d_Mo_see_49 rfl (lv_at hl 0 rfl)) ?_
    replace hden := gb hden
    obtain ⟨r4, hv, hden⟩ := hden
    refine r_getR X cl_Mo (k := 1) hv (by decide) q_766 d_Mo_see_50 ?_
    refine gV.lift (fun _ _ _ _ => g_aload_n hx hb d_Mo_see_53 rfl (lv_at hl 0 rfl)) ?_
    replace hden := gb hden
    obtain ⟨v5, hv, hden⟩ := hden
    refine r_getI X cl_Mo (k := 4) hv (by decide) q_769 d_Mo_see_54 ?_
    replace hden := gb hden
    obtain ⟨a6, rfl, hden⟩ := hden
    replace hden := gb hden
    obtain ⟨v7, hv, hden⟩ := hden
    refine r_iald X (t := 0) rfl hv d_Mo_see_57 ?_
    refine gV.lift (fun _ _ _ _ => lv_goto (tgt := 62) hx hb d_Mo_see_58 (by decide)) ?_
    exact w_Mo_see_62 Y  v7 S hden (lv_sub hl [] rfl)
def B_Mo_see_0 (k0 : Nat → gS → Option (Int32 × gS)) (x0 : Nat) (S : gS) : Option (Int32 × gS) := Option.bind (gI S x0 10 4) (fun v1 => Option.bind (gI S x0 10 3) (fun v2 => (if v2 ≤ v1 then B_Mo_see_38  x0 S else Option.bind (gRf S x0 10 1) (fun r4 => Option.bind (gI S x0 10 4) (fun v5 => Option.bind r4 (fun a6 => Option.bind (gAI S a6 0 v5) (fun v7 => (if v7 = 32 then Option.bind (gI S x0 10 4) (fun v9 => Option.bind (gPut S x0 10 4 (.int (v9 + 1))) (fun S10 => k0 x0 S10)) else B_Mo_see_38  x0 S))))))))
set_option maxRecDepth 100000 in
set_option maxHeartbeats 4000000 in
theorem w_Mo_see_0 {D : va_G} {cT : Nat → ClassId} {H0 : Heap} {l : Launch} {p : Program} {e : Env} {s : State} {m : MethodId} {args : Array Value} {below : List Frame} {meth : Method} {c : Code} {S0 : gS} {S' : gS} {r : Int32} (Y : gY D cT H0 p s m args meth c prog_12_method_7_code 1 "PlanTextModel" 0 0 S0 (Option.some Jvm.ClassFile.FieldType.int)) {k0 : Nat → gS → Option (Int32 × gS)} (hk0 : ∀ (x0 : Nat) (S : gS) (ls : Array Slot), k0 x0 S = some (r, S') → lv_has ls 1 [(0, va_rf (some x0))] → gV D cT H0 p l e (gRm 0 0 S0) s m args below meth c (gQ D cT H0 below S0 S' (.inr (some (.int r))) s) S0 S (F0 m 0 ls [])) (x0 : Nat) (S : gS) (hden : B_Mo_see_0 k0 x0 S = some (r, S')) {ls : Array Slot} (hl : lv_has ls 1 [(0, va_rf (some x0))]) : gV D cT H0 p l e (gRm 0 0 S0) s m args below meth c (gQ D cT H0 below S0 S' (.inr (some (.int r))) s) S0 S (F0 m 0 ls []) := by
  obtain ⟨X, hZ, hex, hr, hE⟩ := id Y
  have hx := X.1
  have hb := X.2.1
  unfold B_Mo_see_0 at hden
  refine gV.lift (fun _ _ _ _ => g_aload_n hx hb d_Mo_see_0 rfl (lv_at hl 0 rfl)) ?_
  replace hden := gb hden
  obtain ⟨v1, hv, hden⟩ := hden
  refine r_getI X cl_Mo (k := 4) hv (by decide) q_769 d_Mo_see_1 ?_
  refine gV.lift (fun _ _ _ _ => g_aload_n hx hb d_Mo_see_4 rfl (lv_at hl 0 rfl)) ?_
  replace hden := gb hden
  obtain ⟨v2, hv, hden⟩ := hden
  refine r_getI X cl_Mo (k := 3) hv (by decide) q_768 d_Mo_see_5 ?_
  refine gV.lift2 (fun _ _ _ _ => lv_icmp_ge (tgt := 38) hx hb d_Mo_see_8 (by decide)) (fun hc3 => ?_) (fun hc3 => ?_)
  · replace hden := gip hc3 hden
    exact w_Mo_see_38 Y  x0 S hden (lv_sub hl [0] rfl)
  · replace hden := gin hc3 hden
    refine gV.lift (fun _ _ _ _ => g_aload_n hx hb d_Mo_see_11 rfl (lv_at hl 0 rfl)) ?_
    replace hden := gb hden
    obtain ⟨r4, hv, hden⟩ := hden
    refine r_getR X cl_Mo (k := 1) hv (by decide) q_766 d_Mo_see_12 ?_
    refine gV.lift (fun _ _ _ _ => g_aload_n hx hb d_Mo_see_15 rfl (lv_at hl 0 rfl)) ?_
    replace hden := gb hden
    obtain ⟨v5, hv, hden⟩ := hden
    refine r_getI X cl_Mo (k := 4) hv (by decide) q_769 d_Mo_see_16 ?_
    replace hden := gb hden
    obtain ⟨a6, rfl, hden⟩ := hden
    replace hden := gb hden
    obtain ⟨v7, hv, hden⟩ := hden
    refine r_iald X (t := 0) rfl hv d_Mo_see_19 ?_
    refine gV.lift (fun _ _ _ _ => lv_bipush (v := 32) hx hb d_Mo_see_20 (by decide)) ?_
    refine gV.lift2 (fun _ _ _ _ => lv_icmp_ne (tgt := 38) hx hb d_Mo_see_22 (by decide)) (fun hc8 => ?_) (fun hc8 => ?_)
    · replace hden := gin hc8 hden
      exact w_Mo_see_38 Y  x0 S hden (lv_sub hl [0] rfl)
    · replace hden := gip hc8 hden
      refine gV.lift (fun _ _ _ _ => g_aload_n hx hb d_Mo_see_25 rfl (lv_at hl 0 rfl)) ?_
      refine gV.lift (fun _ _ _ _ => lv_dup hx hb d_Mo_see_26 g_cat) ?_
      replace hden := gb hden
      obtain ⟨v9, hv, hden⟩ := hden
      refine r_getI X cl_Mo (k := 4) hv (by decide) q_769 d_Mo_see_27 ?_
      refine gV.lift (fun _ _ _ _ => lv_iconst (v := 1) hx hb d_Mo_see_30 (by decide)) ?_
      refine gV.lift (fun _ _ _ _ => lv_iadd hx hb d_Mo_see_31) ?_
      replace hden := gb hden
      obtain ⟨S10, hv, hden⟩ := hden
      refine r_put X cl_Mo (k := 4) hv (by decide) q_769 rfl rfl rfl d_Mo_see_32 ?_
      refine gV.lift (fun _ _ _ _ => lv_goto (tgt := 0) hx hb d_Mo_see_35 (by decide)) ?_
      exact hk0 x0 S10 _ hden (lv_sub hl [0] rfl)
def L_Mo_see_0  : Nat → Nat → gS → Option (Int32 × gS)
  | 0 => fun _ _ => none
  | n + 1 => fun x0 S => B_Mo_see_0  (L_Mo_see_0  n) x0 S
theorem wL_Mo_see_0 {D : va_G} {cT : Nat → ClassId} {H0 : Heap} {l : Launch} {p : Program} {e : Env} {s : State} {m : MethodId} {args : Array Value} {below : List Frame} {meth : Method} {c : Code} {S0 : gS} {S' : gS} {r : Int32} (Y : gY D cT H0 p s m args meth c prog_12_method_7_code 1 "PlanTextModel" 0 0 S0 (Option.some Jvm.ClassFile.FieldType.int))  : ∀ (n : Nat) (x0 : Nat) (S : gS) (ls : Array Slot), L_Mo_see_0  n x0 S = some (r, S') → lv_has ls 1 [(0, va_rf (some x0))] → gV D cT H0 p l e (gRm 0 0 S0) s m args below meth c (gQ D cT H0 below S0 S' (.inr (some (.int r))) s) S0 S (F0 m 0 ls []) := by
  intro n
  induction n with
  | zero => intro x0 S ls h hl; cases h
  | succ n ih => intro x0 S ls h hl; exact w_Mo_see_0 Y ih x0 S h hl
def D_Mo_see (h0 : Nat) (S : gS) : Option (Int32 × gS) := L_Mo_see_0  gF h0 S
set_option maxRecDepth 100000 in
set_option maxHeartbeats 4000000 in
theorem c_Mo_see {D : va_G} {cT : Nat → ClassId} {H0 : Heap} {l : Launch} {S : gS} {S' : gS} {h0 : Nat} {r : Int32} (hden : D_Mo_see h0 S = some (r, S')) : gM D cT H0 l y_Mo_see (Cond.code y_Mo_see prog_12_method_7_code 1 (Option.some Jvm.ClassFile.FieldType.int)) 0 0 [va_rf (some h0)] S S' (.inr (some (.int r))) := by
  refine gM.ofV (by decide) ?_
  intro p e s m args below meth c s₁ B hml ea X hZ hex hr hE
  subst ea
  have Y : gY D cT H0 p s m _ meth c prog_12_method_7_code 1 "PlanTextModel" 0 0 S (Option.some Jvm.ClassFile.FieldType.int) := ⟨X, hZ, hex, hr, hE⟩
  have hx := X.1
  have hb := X.2.1
  have hl := lv_entry ([va_rf (some h0)]) (n := 1) (Nat.le_of_ble_eq_true rfl)
  rw [lg_entry_eq]
  generalize (lg_sl ([va_rf (some h0)]) ++ List.replicate (1 - (lg_sl ([va_rf (some h0)])).length) Slot.unset).toArray = ls at hl ⊢
  have hl : lv_has ls 1 [(0, va_rf (some h0))] := hl
  unfold D_Mo_see at hden
  exact wL_Mo_see_0 Y  gF h0 S _ hden (lv_sub hl [0] rfl)
/-! PlanTextModel.expect(I)V -/
abbrev y_Mo_expect : MethodName := ⟨"PlanTextModel", "expect", "(I)V"⟩
theorem d_Mo_expect_0 : decode prog_12_method_8_code 0 = .ok (.aload_n 0, 1) := by decide +kernel
theorem d_Mo_expect_1 : decode prog_12_method_8_code 1 = .ok (.invokevirtual 93, 3) := by decide +kernel
theorem d_Mo_expect_4 : decode prog_12_method_8_code 4 = .ok (.iload_n 1, 1) := by decide +kernel
theorem d_Mo_expect_5 : decode prog_12_method_8_code 5 = .ok (.if_icmp .eq 11, 3) := by decide +kernel
theorem d_Mo_expect_8 : decode prog_12_method_8_code 8 = .ok (.aload_n 0, 1) := by decide +kernel
theorem d_Mo_expect_9 : decode prog_12_method_8_code 9 = .ok (.aload_n 0, 1) := by decide +kernel
theorem d_Mo_expect_10 : decode prog_12_method_8_code 10 = .ok (.getfield 87, 3) := by decide +kernel
theorem d_Mo_expect_13 : decode prog_12_method_8_code 13 = .ok (.invokevirtual 97, 3) := by decide +kernel
theorem d_Mo_expect_16 : decode prog_12_method_8_code 16 = .ok (.aload_n 0, 1) := by decide +kernel
theorem d_Mo_expect_17 : decode prog_12_method_8_code 17 = .ok (.dup, 1) := by decide +kernel
theorem d_Mo_expect_18 : decode prog_12_method_8_code 18 = .ok (.getfield 87, 3) := by decide +kernel
theorem d_Mo_expect_21 : decode prog_12_method_8_code 21 = .ok (.iconst 1, 1) := by decide +kernel
theorem d_Mo_expect_22 : decode prog_12_method_8_code 22 = .ok (.iadd, 1) := by decide +kernel
theorem d_Mo_expect_23 : decode prog_12_method_8_code 23 = .ok (.putfield 87, 3) := by decide +kernel
theorem d_Mo_expect_26 : decode prog_12_method_8_code 26 = .ok (.return_, 1) := by decide +kernel
def B_Mo_expect_16  (x0 : Nat) (S : gS) : Option gS := Option.bind (gI S x0 10 4) (fun v1 => Option.bind (gPut S x0 10 4 (.int (v1 + 1))) (fun S2 => some S2))
set_option maxRecDepth 100000 in
set_option maxHeartbeats 4000000 in
theorem w_Mo_expect_16 {D : va_G} {cT : Nat → ClassId} {H0 : Heap} {l : Launch} {p : Program} {e : Env} {s : State} {m : MethodId} {args : Array Value} {below : List Frame} {meth : Method} {c : Code} {S0 : gS} {S' : gS} (Y : gY D cT H0 p s m args meth c prog_12_method_8_code 2 "PlanTextModel" 1 21 S0 (Option.none : Option Jvm.ClassFile.FieldType))  (x0 : Nat) (S : gS) (hden : B_Mo_expect_16  x0 S = some S') {ls : Array Slot} (hl : lv_has ls 2 [(0, va_rf (some x0))]) : gV D cT H0 p l e (gRm 1 21 S0) s m args below meth c (gQ D cT H0 below S0 S' (.inr none) s) S0 S (F0 m 16 ls []) := by
  obtain ⟨X, hZ, hex, hr, hE⟩ := id Y
  have hx := X.1
  have hb := X.2.1
  unfold B_Mo_expect_16 at hden
  refine gV.lift (fun _ _ _ _ => g_aload_n hx hb d_Mo_expect_16 rfl (lv_at hl 0 rfl)) ?_
  refine gV.lift (fun _ _ _ _ => lv_dup hx hb d_Mo_expect_17 g_cat) ?_
  replace hden := gb hden
  obtain ⟨v1, hv, hden⟩ := hden
  refine r_getI X cl_Mo (k := 4) hv (by decide) q_769 d_Mo_expect_18 ?_
  refine gV.lift (fun _ _ _ _ => lv_iconst (v := 1) hx hb d_Mo_expect_21 (by decide)) ?_
  refine gV.lift (fun _ _ _ _ => lv_iadd hx hb d_Mo_expect_22) ?_
  replace hden := gb hden
  obtain ⟨S2, hv, hden⟩ := hden
  refine r_put X cl_Mo (k := 4) hv (by decide) q_769 rfl rfl rfl d_Mo_expect_23 ?_
  obtain rfl := gsi hden
  exact g_vret X hr d_Mo_expect_26
def D_Mo_expect (h0 : Nat) (p0 : Int32) (S : gS) : Option gS := Option.bind (gOb S h0 10) (fun fs3 => gB2 (D_Mo_see h0 S) (fun v2 S1 => (if v2 = p0 then B_Mo_expect_16  h0 S1 else Option.bind (gI S1 h0 10 4) (fun v5 => Option.bind (gOb S1 h0 10) (fun fs7 => Option.bind (D_Mo_fail h0 v5 S1) (fun S6 => B_Mo_expect_16  h0 S6))))))
set_option maxRecDepth 100000 in
set_option maxHeartbeats 4000000 in
theorem c_Mo_expect {D : va_G} {cT : Nat → ClassId} {H0 : Heap} {l : Launch} {S : gS} {S' : gS} {h0 : Nat} {p0 : Int32} (hden : D_Mo_expect h0 p0 S = some S') : gM D cT H0 l y_Mo_expect (Cond.code y_Mo_expect prog_12_method_8_code 2 (Option.none : Option Jvm.ClassFile.FieldType)) 1 21 [va_rf (some h0), .int p0] S S' (.inr none) := by
  refine gM.ofV (by decide) ?_
  intro p e s m args below meth c s₁ B hml ea X hZ hex hr hE
  subst ea
  have Y : gY D cT H0 p s m _ meth c prog_12_method_8_code 2 "PlanTextModel" 1 21 S (Option.none : Option Jvm.ClassFile.FieldType) := ⟨X, hZ, hex, hr, hE⟩
  have hx := X.1
  have hb := X.2.1
  have hl := lv_entry ([va_rf (some h0), .int p0]) (n := 2) (Nat.le_of_ble_eq_true rfl)
  rw [lg_entry_eq]
  generalize (lg_sl ([va_rf (some h0), .int p0]) ++ List.replicate (2 - (lg_sl ([va_rf (some h0), .int p0])).length) Slot.unset).toArray = ls at hl ⊢
  have hl : lv_has ls 2 [(0, va_rf (some h0)), (1, .int p0)] := hl
  unfold D_Mo_expect at hden
  refine gV.lift (fun _ _ _ _ => g_aload_n hx hb d_Mo_expect_0 rfl (lv_at hl 0 rfl)) ?_
  replace hden := gb hden
  obtain ⟨fs3, ho, hden⟩ := hden
  replace hden := gb2 hden
  obtain ⟨v2, S1, hz, hden⟩ := hden
  refine g_callV (As := []) (rest := []) X hZ (c_Mo_see hz) cl_Mo (gOb_spec ho) q_871 q_5 q_868 q_870 qp_28 ⟨by decide, by decide, by show _ = some 0; decide +kernel⟩ ⟨by decide, by decide⟩ hl.1 (Nat.le_of_ble_eq_true rfl) d_Mo_expect_1 rfl rfl ?_
  refine gV.lift (fun _ _ _ _ => lv_iload_n hx hb d_Mo_expect_4 rfl (lv_at hl 1 rfl)) ?_
  refine gV.lift2 (fun _ _ _ _ => lv_icmp_eq (tgt := 16) hx hb d_Mo_expect_5 (by decide)) (fun hc4 => ?_) (fun hc4 => ?_)
  · replace hden := gip hc4 hden
    exact w_Mo_expect_16 Y  h0 S1 hden (lv_sub hl [0] rfl)
  · replace hden := gin hc4 hden
    refine gV.lift (fun _ _ _ _ => g_aload_n hx hb d_Mo_expect_8 rfl (lv_at hl 0 rfl)) ?_
    refine gV.lift (fun _ _ _ _ => g_aload_n hx hb d_Mo_expect_9 rfl (lv_at hl 0 rfl)) ?_
    replace hden := gb hden
    obtain ⟨v5, hv, hden⟩ := hden
    refine r_getI X cl_Mo (k := 4) hv (by decide) q_769 d_Mo_expect_10 ?_
    replace hden := gb hden
    obtain ⟨fs7, ho, hden⟩ := hden
    replace hden := gb hden
    obtain ⟨S6, hz, hden⟩ := hden
    refine g_callV (As := [.int v5]) (rest := []) X hZ (c_Mo_fail hz) cl_Mo (gOb_spec ho) q_875 q_5 q_872 q_874 qp_29 ⟨by decide, by decide, by show _ = some 1; decide +kernel⟩ ⟨by decide, by decide⟩ hl.1 (Nat.le_of_ble_eq_true rfl) d_Mo_expect_13 rfl rfl ?_
    exact w_Mo_expect_16 Y  h0 S6 hden (lv_sub hl [0] rfl)
/-! PlanTextModel.goesOn(I)Z -/
abbrev y_Mo_goesOn : MethodName := ⟨"PlanTextModel", "goesOn", "(I)Z"⟩
theorem d_Mo_goesOn_0 : decode prog_12_method_9_code 0 = .ok (.aload_n 0, 1) := by decide +kernel
theorem d_Mo_goesOn_1 : decode prog_12_method_9_code 1 = .ok (.getfield 83, 3) := by decide +kernel
theorem d_Mo_goesOn_4 : decode prog_12_method_9_code 4 = .ok (.ifCond .ne 11, 3) := by decide +kernel
theorem d_Mo_goesOn_7 : decode prog_12_method_9_code 7 = .ok (.aload_n 0, 1) := by decide +kernel
theorem d_Mo_goesOn_8 : decode prog_12_method_9_code 8 = .ok (.invokevirtual 93, 3) := by decide +kernel
theorem d_Mo_goesOn_11 : decode prog_12_method_9_code 11 = .ok (.iload_n 1, 1) := by decide +kernel
theorem d_Mo_goesOn_12 : decode prog_12_method_9_code 12 = .ok (.if_icmp .eq 5, 3) := by decide +kernel
theorem d_Mo_goesOn_15 : decode prog_12_method_9_code 15 = .ok (.iconst 0, 1) := by decide +kernel
theorem d_Mo_goesOn_16 : decode prog_12_method_9_code 16 = .ok (.ireturn, 1) := by decide +kernel
theorem d_Mo_goesOn_17 : decode prog_12_method_9_code 17 = .ok (.aload_n 0, 1) := by decide +kernel
theorem d_Mo_goesOn_18 : decode prog_12_method_9_code 18 = .ok (.dup, 1) := by decide +kernel
theorem d_Mo_goesOn_19 : decode prog_12_method_9_code 19 = .ok (.getfield 87, 3) := by decide +kernel
theorem d_Mo_goesOn_22 : decode prog_12_method_9_code 22 = .ok (.iconst 1, 1) := by decide +kernel
theorem d_Mo_goesOn_23 : decode prog_12_method_9_code 23 = .ok (.iadd, 1) := by decide +kernel
theorem d_Mo_goesOn_24 : decode prog_12_method_9_code 24 = .ok (.putfield 87, 3) := by decide +kernel
theorem d_Mo_goesOn_27 : decode prog_12_method_9_code 27 = .ok (.iconst 1, 1) := by decide +kernel
theorem d_Mo_goesOn_28 : decode prog_12_method_9_code 28 = .ok (.ireturn, 1) := by decide +kernel
def B_Mo_goesOn_15   (S : gS) : Option (Int32 × gS) := Option.bind (gZo 0) (fun v1 => some (v1, S))
set_option maxRecDepth 100000 in
set_option maxHeartbeats 4000000 in
theorem w_Mo_goesOn_15 {D : va_G} {cT : Nat → ClassId} {H0 : Heap} {l : Launch} {p : Program} {e : Env} {s : State} {m : MethodId} {args : Array Value} {below : List Frame} {meth : Method} {c : Code} {S0 : gS} {S' : gS} {r : Int32} (Y : gY D cT H0 p s m args meth c prog_12_method_9_code 2 "PlanTextModel" 1 20 S0 (Option.some Jvm.ClassFile.FieldType.boolean))   (S : gS) (hden : B_Mo_goesOn_15   S = some (r, S')) {ls : Array Slot} (hl : lv_has ls 2 []) : gV D cT H0 p l e (gRm 1 20 S0) s m args below meth c (gQ D cT H0 below S0 S' (.inr (some (.int r))) s) S0 S (F0 m 15 ls []) := by
  obtain ⟨X, hZ, hex, hr, hE⟩ := id Y
  have hx := X.1
  have hb := X.2.1
  unfold B_Mo_goesOn_15 at hden
  refine gV.lift (fun _ _ _ _ => lv_iconst (v := 0) hx hb d_Mo_goesOn_15 (by decide)) ?_
  replace hden := gb hden
  obtain ⟨v1, hz, hden⟩ := hden
  obtain ⟨rfl, hz2, -⟩ := gZo_spec hz
  obtain ⟨rfl, rfl⟩ := gpi hden
  exact g_zret X hr hz2 d_Mo_goesOn_16
def D_Mo_goesOn (h0 : Nat) (p0 : Int32) (S : gS) : Option (Int32 × gS) := Option.bind (gI S h0 10 5) (fun v1 => (if v1 = 0 then Option.bind (gOb S h0 10) (fun fs5 => gB2 (D_Mo_see h0 S) (fun v4 S3 => (if v4 = p0 then Option.bind (gI S3 h0 10 4) (fun v7 => Option.bind (gPut S3 h0 10 4 (.int (v7 + 1))) (fun S8 => Option.bind (gZo 1) (fun v9 => some (v9, S8)))) else B_Mo_goesOn_15  S3))) else B_Mo_goesOn_15  S))
set_option maxRecDepth 100000 in
set_option maxHeartbeats 4000000 in
theorem c_Mo_goesOn {D : va_G} {cT : Nat → ClassId} {H0 : Heap} {l : Launch} {S : gS} {S' : gS} {h0 : Nat} {p0 : Int32} {r : Int32} (hden : D_Mo_goesOn h0 p0 S = some (r, S')) : gM D cT H0 l y_Mo_goesOn (Cond.code y_Mo_goesOn prog_12_method_9_code 2 (Option.some Jvm.ClassFile.FieldType.boolean)) 1 20 [va_rf (some h0), .int p0] S S' (.inr (some (.int r))) := by
  refine gM.ofV (by decide) ?_
  intro p e s m args below meth c s₁ B hml ea X hZ hex hr hE
  subst ea
  have Y : gY D cT H0 p s m _ meth c prog_12_method_9_code 2 "PlanTextModel" 1 20 S (Option.some Jvm.ClassFile.FieldType.boolean) := ⟨X, hZ, hex, hr, hE⟩
  have hx := X.1
  have hb := X.2.1
  have hl := lv_entry ([va_rf (some h0), .int p0]) (n := 2) (Nat.le_of_ble_eq_true rfl)
  rw [lg_entry_eq]
  generalize (lg_sl ([va_rf (some h0), .int p0]) ++ List.replicate (2 - (lg_sl ([va_rf (some h0), .int p0])).length) Slot.unset).toArray = ls at hl ⊢
  have hl : lv_has ls 2 [(0, va_rf (some h0)), (1, .int p0)] := hl
  unfold D_Mo_goesOn at hden
  refine gV.lift (fun _ _ _ _ => g_aload_n hx hb d_Mo_goesOn_0 rfl (lv_at hl 0 rfl)) ?_
  replace hden := gb hden
  obtain ⟨v1, hv, hden⟩ := hden
  refine r_getI X cl_Mo (k := 5) hv (by decide) q_770 d_Mo_goesOn_1 ?_
  refine gV.lift2 (fun _ _ _ _ => lv_if_ne (tgt := 15) hx hb d_Mo_goesOn_4 (by decide)) (fun hc2 => ?_) (fun hc2 => ?_)
  · replace hden := gin hc2 hden
    exact w_Mo_goesOn_15 Y  S hden (lv_sub hl [] rfl)
  · replace hden := gip hc2 hden
    refine gV.lift (fun _ _ _ _ => g_aload_n hx hb d_Mo_goesOn_7 rfl (lv_at hl 0 rfl)) ?_
    replace hden := gb hden
    obtain ⟨fs5, ho, hden⟩ := hden
    replace hden := gb2 hden
    obtain ⟨v4, S3, hz, hden⟩ := hden
    refine g_callV (As := []) (rest := []) X hZ (c_Mo_see hz) cl_Mo (gOb_spec ho) q_871 q_5 q_868 q_870 qp_28 ⟨by decide, by decide, by show _ = some 0; decide +kernel⟩ ⟨by decide, by decide⟩ hl.1 (Nat.le_of_ble_eq_true rfl) d_Mo_goesOn_8 rfl rfl ?_
    refine gV.lift (fun _ _ _ _ => lv_iload_n hx hb d_Mo_goesOn_11 rfl (lv_at hl 1 rfl)) ?_
    refine gV.lift2 (fun _ _ _ _ => lv_icmp_eq (tgt := 17) hx hb d_Mo_goesOn_12 (by decide)) (fun hc6 => ?_) (fun hc6 => ?_)
    · replace hden := gip hc6 hden
      refine gV.lift (fun _ _ _ _ => g_aload_n hx hb d_Mo_goesOn_17 rfl (lv_at hl 0 rfl)) ?_
      refine gV.lift (fun _ _ _ _ => lv_dup hx hb d_Mo_goesOn_18 g_cat) ?_
      replace hden := gb hden
      obtain ⟨v7, hv, hden⟩ := hden
      refine r_getI X cl_Mo (k := 4) hv (by decide) q_769 d_Mo_goesOn_19 ?_
      refine gV.lift (fun _ _ _ _ => lv_iconst (v := 1) hx hb d_Mo_goesOn_22 (by decide)) ?_
      refine gV.lift (fun _ _ _ _ => lv_iadd hx hb d_Mo_goesOn_23) ?_
      replace hden := gb hden
      obtain ⟨S8, hv, hden⟩ := hden
      refine r_put X cl_Mo (k := 4) hv (by decide) q_769 rfl rfl rfl d_Mo_goesOn_24 ?_
      refine gV.lift (fun _ _ _ _ => lv_iconst (v := 1) hx hb d_Mo_goesOn_27 (by decide)) ?_
      replace hden := gb hden
      obtain ⟨v9, hz, hden⟩ := hden
      obtain ⟨rfl, hz2, -⟩ := gZo_spec hz
      obtain ⟨rfl, rfl⟩ := gpi hden
      exact g_zret X hr hz2 d_Mo_goesOn_28
    · replace hden := gin hc6 hden
      exact w_Mo_goesOn_15 Y  S3 hden (lv_sub hl [] rfl)
/-! PlanTextModel.isDigit(I)Z -/
abbrev y_Mo_isDigit : MethodName := ⟨"PlanTextModel", "isDigit", "(I)Z"⟩
theorem d_Mo_isDigit_0 : decode prog_12_method_10_code 0 = .ok (.iload_n 1, 1) := by decide +kernel
theorem d_Mo_isDigit_1 : decode prog_12_method_10_code 1 = .ok (.aload_n 0, 1) := by decide +kernel
theorem d_Mo_isDigit_2 : decode prog_12_method_10_code 2 = .ok (.getfield 90, 3) := by decide +kernel
theorem d_Mo_isDigit_5 : decode prog_12_method_10_code 5 = .ok (.if_icmp .ge 23, 3) := by decide +kernel
theorem d_Mo_isDigit_8 : decode prog_12_method_10_code 8 = .ok (.aload_n 0, 1) := by decide +kernel
theorem d_Mo_isDigit_9 : decode prog_12_method_10_code 9 = .ok (.getfield 7, 3) := by decide +kernel
theorem d_Mo_isDigit_12 : decode prog_12_method_10_code 12 = .ok (.iload_n 1, 1) := by decide +kernel
theorem d_Mo_isDigit_13 : decode prog_12_method_10_code 13 = .ok (.iaload, 1) := by decide +kernel
theorem d_Mo_isDigit_14 : decode prog_12_method_10_code 14 = .ok (.bipush 48, 2) := by decide +kernel
theorem d_Mo_isDigit_16 : decode prog_12_method_10_code 16 = .ok (.bipush 57, 2) := by decide +kernel
theorem d_Mo_isDigit_18 : decode prog_12_method_10_code 18 = .ok (.invokestatic 72, 3) := by decide +kernel
theorem d_Mo_isDigit_21 : decode prog_12_method_10_code 21 = .ok (.ifCond .eq 7, 3) := by decide +kernel
theorem d_Mo_isDigit_24 : decode prog_12_method_10_code 24 = .ok (.iconst 1, 1) := by decide +kernel
theorem d_Mo_isDigit_25 : decode prog_12_method_10_code 25 = .ok (.goto 4, 3) := by decide +kernel
theorem d_Mo_isDigit_28 : decode prog_12_method_10_code 28 = .ok (.iconst 0, 1) := by decide +kernel
theorem d_Mo_isDigit_29 : decode prog_12_method_10_code 29 = .ok (.ireturn, 1) := by decide +kernel
def B_Mo_isDigit_29  (t0 : Int32) (S : gS) : Option (Int32 × gS) := Option.bind (gZo t0) (fun v1 => some (v1, S))
set_option maxRecDepth 100000 in
set_option maxHeartbeats 4000000 in
theorem w_Mo_isDigit_29 {D : va_G} {cT : Nat → ClassId} {H0 : Heap} {l : Launch} {p : Program} {e : Env} {s : State} {m : MethodId} {args : Array Value} {below : List Frame} {meth : Method} {c : Code} {S0 : gS} {S' : gS} {r : Int32} (Y : gY D cT H0 p s m args meth c prog_12_method_10_code 2 "PlanTextModel" 1 22 S0 (Option.some Jvm.ClassFile.FieldType.boolean))  (t0 : Int32) (S : gS) (hden : B_Mo_isDigit_29  t0 S = some (r, S')) {ls : Array Slot} (hl : lv_has ls 2 []) : gV D cT H0 p l e (gRm 1 22 S0) s m args below meth c (gQ D cT H0 below S0 S' (.inr (some (.int r))) s) S0 S (F0 m 29 ls [.int t0]) := by
  obtain ⟨X, hZ, hex, hr, hE⟩ := id Y
  have hx := X.1
  have hb := X.2.1
  unfold B_Mo_isDigit_29 at hden
  replace hden := gb hden
  obtain ⟨v1, hz, hden⟩ := hden
  obtain ⟨rfl, hz2, -⟩ := gZo_spec hz
  obtain ⟨rfl, rfl⟩ := gpi hden
  exact g_zret X hr hz2 d_Mo_isDigit_29
def B_Mo_isDigit_28   (S : gS) : Option (Int32 × gS) := B_Mo_isDigit_29  0 S
set_option maxRecDepth 100000 in
set_option maxHeartbeats 4000000 in
theorem w_Mo_isDigit_28 {D : va_G} {cT : Nat → ClassId} {H0 : Heap} {l : Launch} {p : Program} {e : Env} {s : State} {m : MethodId} {args : Array Value} {below : List Frame} {meth : Method} {c : Code} {S0 : gS} {S' : gS} {r : Int32} (Y : gY D cT H0 p s m args meth c prog_12_method_10_code 2 "PlanTextModel" 1 22 S0 (Option.some Jvm.ClassFile.FieldType.boolean))   (S : gS) (hden : B_Mo_isDigit_28   S = some (r, S')) {ls : Array Slot} (hl : lv_has ls 2 []) : gV D cT H0 p l e (gRm 1 22 S0) s m args below meth c (gQ D cT H0 below S0 S' (.inr (some (.int r))) s) S0 S (F0 m 28 ls []) := by
  obtain ⟨X, hZ, hex, hr, hE⟩ := id Y
  have hx := X.1
  have hb := X.2.1
  unfold B_Mo_isDigit_28 at hden
  refine gV.lift (fun _ _ _ _ => lv_iconst (v := 0) hx hb d_Mo_isDigit_28 (by decide)) ?_
  exact w_Mo_isDigit_29 Y  0 S hden (lv_sub hl [] rfl)
def D_Mo_isDigit (h0 : Nat) (p0 : Int32) (S : gS) : Option (Int32 × gS) := Option.bind (gI S h0 10 3) (fun v1 => (if v1 ≤ p0 then B_Mo_isDigit_28  S else Option.bind (gRf S h0 10 1) (fun r3 => Option.bind r3 (fun a4 => Option.bind (gAI S a4 0 p0) (fun v5 => gB2 (D_Mo_in v5 48 57 S) (fun v7 S6 => (if v7 = 0 then B_Mo_isDigit_28  S6 else B_Mo_isDigit_29  1 S6)))))))
set_option maxRecDepth 100000 in
set_option maxHeartbeats 4000000 in
theorem c_Mo_isDigit {D : va_G} {cT : Nat → ClassId} {H0 : Heap} {l : Launch} {S : gS} {S' : gS} {h0 : Nat} {p0 : Int32} {r : Int32} (hden : D_Mo_isDigit h0 p0 S = some (r, S')) : gM D cT H0 l y_Mo_isDigit (Cond.code y_Mo_isDigit prog_12_method_10_code 2 (Option.some Jvm.ClassFile.FieldType.boolean)) 1 22 [va_rf (some h0), .int p0] S S' (.inr (some (.int r))) := by
  refine gM.ofV (by decide) ?_
  intro p e s m args below meth c s₁ B hml ea X hZ hex hr hE
  subst ea
  have Y : gY D cT H0 p s m _ meth c prog_12_method_10_code 2 "PlanTextModel" 1 22 S (Option.some Jvm.ClassFile.FieldType.boolean) := ⟨X, hZ, hex, hr, hE⟩
  have hx := X.1
  have hb := X.2.1
  have hl := lv_entry ([va_rf (some h0), .int p0]) (n := 2) (Nat.le_of_ble_eq_true rfl)
  rw [lg_entry_eq]
  generalize (lg_sl ([va_rf (some h0), .int p0]) ++ List.replicate (2 - (lg_sl ([va_rf (some h0), .int p0])).length) Slot.unset).toArray = ls at hl ⊢
  have hl : lv_has ls 2 [(0, va_rf (some h0)), (1, .int p0)] := hl
  unfold D_Mo_isDigit at hden
  refine gV.lift (fun _ _ _ _ => lv_iload_n hx hb d_Mo_isDigit_0 rfl (lv_at hl 1 rfl)) ?_
  refine gV.lift (fun _ _ _ _ => g_aload_n hx hb d_Mo_isDigit_1 rfl (lv_at hl 0 rfl)) ?_
  replace hden := gb hden
  obtain ⟨v1, hv, hden⟩ := hden
  refine r_getI X cl_Mo (k := 3) hv (by decide) q_768 d_Mo_isDigit_2 ?_
  refine gV.lift2 (fun _ _ _ _ => lv_icmp_ge (tgt := 28) hx hb d_Mo_isDigit_5 (by decide)) (fun hc2 => ?_) (fun hc2 => ?_)
  · replace hden := gip hc2 hden
    exact w_Mo_isDigit_28 Y  S hden (lv_sub hl [] rfl)
  · replace hden := gin hc2 hden
    refine gV.lift (fun _ _ _ _ => g_aload_n hx hb d_Mo_isDigit_8 rfl (lv_at hl 0 rfl)) ?_
    replace hden := gb hden
    obtain ⟨r3, hv, hden⟩ := hden
    refine r_getR X cl_Mo (k := 1) hv (by decide) q_766 d_Mo_isDigit_9 ?_
    refine gV.lift (fun _ _ _ _ => lv_iload_n hx hb d_Mo_isDigit_12 rfl (lv_at hl 1 rfl)) ?_
    replace hden := gb hden
    obtain ⟨a4, rfl, hden⟩ := hden
    replace hden := gb hden
    obtain ⟨v5, hv, hden⟩ := hden
    refine r_iald X (t := 0) rfl hv d_Mo_isDigit_13 ?_
    refine gV.lift (fun _ _ _ _ => lv_bipush (v := 48) hx hb d_Mo_isDigit_14 (by decide)) ?_
    refine gV.lift (fun _ _ _ _ => lv_bipush (v := 57) hx hb d_Mo_isDigit_16 (by decide)) ?_
    replace hden := gb2 hden
    obtain ⟨v7, S6, hz, hden⟩ := hden
    refine g_callS (As := [.int v5, .int 48, .int 57]) (rest := []) X hZ (c_Mo_in hz) q_855 q_5 q_853 q_854 ⟨by decide, by decide, by show _ = some 3; decide +kernel⟩ ⟨by decide, by decide⟩ hl.1 (Nat.le_of_ble_eq_true rfl) d_Mo_isDigit_18 rfl rfl ?_
    refine gV.lift2 (fun _ _ _ _ => lv_if_eq (tgt := 28) hx hb d_Mo_isDigit_21 (by decide)) (fun hc8 => ?_) (fun hc8 => ?_)
    · replace hden := gip hc8 hden
      exact w_Mo_isDigit_28 Y  S6 hden (lv_sub hl [] rfl)
    · replace hden := gin hc8 hden
      refine gV.lift (fun _ _ _ _ => lv_iconst (v := 1) hx hb d_Mo_isDigit_24 (by decide)) ?_
      refine gV.lift (fun _ _ _ _ => lv_goto (tgt := 29) hx hb d_Mo_isDigit_25 (by decide)) ?_
      exact w_Mo_isDigit_29 Y  1 S6 hden (lv_sub hl [] rfl)
/-! PlanTextModel.number(II)I -/
abbrev y_Mo_number : MethodName := ⟨"PlanTextModel", "number", "(II)I"⟩
theorem d_Mo_number_0 : decode prog_12_method_11_code 0 = .ok (.aload_n 0, 1) := by decide +kernel
theorem d_Mo_number_1 : decode prog_12_method_11_code 1 = .ok (.invokevirtual 93, 3) := by decide +kernel
theorem d_Mo_number_4 : decode prog_12_method_11_code 4 = .ok (.pop, 1) := by decide +kernel
theorem d_Mo_number_5 : decode prog_12_method_11_code 5 = .ok (.aload_n 0, 1) := by decide +kernel
theorem d_Mo_number_6 : decode prog_12_method_11_code 6 = .ok (.getfield 83, 3) := by decide +kernel
theorem d_Mo_number_9 : decode prog_12_method_11_code 9 = .ok (.ifCond .ne 14, 3) := by decide +kernel
theorem d_Mo_number_12 : decode prog_12_method_11_code 12 = .ok (.aload_n 0, 1) := by decide +kernel
theorem d_Mo_number_13 : decode prog_12_method_11_code 13 = .ok (.aload_n 0, 1) := by decide +kernel
theorem d_Mo_number_14 : decode prog_12_method_11_code 14 = .ok (.getfield 87, 3) := by decide +kernel
theorem d_Mo_number_17 : decode prog_12_method_11_code 17 = .ok (.invokevirtual 101, 3) := by decide +kernel
theorem d_Mo_number_20 : decode prog_12_method_11_code 20 = .ok (.ifCond .ne 13, 3) := by decide +kernel
theorem d_Mo_number_23 : decode prog_12_method_11_code 23 = .ok (.aload_n 0, 1) := by decide +kernel
theorem d_Mo_number_24 : decode prog_12_method_11_code 24 = .ok (.aload_n 0, 1) := by decide +kernel
theorem d_Mo_number_25 : decode prog_12_method_11_code 25 = .ok (.getfield 87, 3) := by decide +kernel
theorem d_Mo_number_28 : decode prog_12_method_11_code 28 = .ok (.invokevirtual 97, 3) := by decide +kernel
theorem d_Mo_number_31 : decode prog_12_method_11_code 31 = .ok (.iload_n 1, 1) := by decide +kernel
theorem d_Mo_number_32 : decode prog_12_method_11_code 32 = .ok (.ireturn, 1) := by decide +kernel
theorem d_Mo_number_33 : decode prog_12_method_11_code 33 = .ok (.aload_n 0, 1) := by decide +kernel
theorem d_Mo_number_34 : decode prog_12_method_11_code 34 = .ok (.getfield 7, 3) := by decide +kernel
theorem d_Mo_number_37 : decode prog_12_method_11_code 37 = .ok (.aload_n 0, 1) := by decide +kernel
theorem d_Mo_number_38 : decode prog_12_method_11_code 38 = .ok (.getfield 87, 3) := by decide +kernel
theorem d_Mo_number_41 : decode prog_12_method_11_code 41 = .ok (.iaload, 1) := by decide +kernel
theorem d_Mo_number_42 : decode prog_12_method_11_code 42 = .ok (.bipush 48, 2) := by decide +kernel
theorem d_Mo_number_44 : decode prog_12_method_11_code 44 = .ok (.isub, 1) := by decide +kernel
theorem d_Mo_number_45 : decode prog_12_method_11_code 45 = .ok (.istore_n 3, 1) := by decide +kernel
theorem d_Mo_number_46 : decode prog_12_method_11_code 46 = .ok (.aload_n 0, 1) := by decide +kernel
theorem d_Mo_number_47 : decode prog_12_method_11_code 47 = .ok (.dup, 1) := by decide +kernel
theorem d_Mo_number_48 : decode prog_12_method_11_code 48 = .ok (.getfield 87, 3) := by decide +kernel
theorem d_Mo_number_51 : decode prog_12_method_11_code 51 = .ok (.iconst 1, 1) := by decide +kernel
theorem d_Mo_number_52 : decode prog_12_method_11_code 52 = .ok (.iadd, 1) := by decide +kernel
theorem d_Mo_number_53 : decode prog_12_method_11_code 53 = .ok (.putfield 87, 3) := by decide +kernel
theorem d_Mo_number_56 : decode prog_12_method_11_code 56 = .ok (.iload_n 3, 1) := by decide +kernel
theorem d_Mo_number_57 : decode prog_12_method_11_code 57 = .ok (.ifCond .ne 17, 3) := by decide +kernel
theorem d_Mo_number_60 : decode prog_12_method_11_code 60 = .ok (.iload_n 1, 1) := by decide +kernel
theorem d_Mo_number_61 : decode prog_12_method_11_code 61 = .ok (.ifCond .le 13, 3) := by decide +kernel
theorem d_Mo_number_64 : decode prog_12_method_11_code 64 = .ok (.aload_n 0, 1) := by decide +kernel
theorem d_Mo_number_65 : decode prog_12_method_11_code 65 = .ok (.aload_n 0, 1) := by decide +kernel
theorem d_Mo_number_66 : decode prog_12_method_11_code 66 = .ok (.getfield 87, 3) := by decide +kernel
theorem d_Mo_number_69 : decode prog_12_method_11_code 69 = .ok (.iconst 1, 1) := by decide +kernel
theorem d_Mo_number_70 : decode prog_12_method_11_code 70 = .ok (.isub, 1) := by decide +kernel
theorem d_Mo_number_71 : decode prog_12_method_11_code 71 = .ok (.invokevirtual 97, 3) := by decide +kernel
theorem d_Mo_number_74 : decode prog_12_method_11_code 74 = .ok (.iconst 0, 1) := by decide +kernel
theorem d_Mo_number_75 : decode prog_12_method_11_code 75 = .ok (.istore 4, 2) := by decide +kernel
theorem d_Mo_number_77 : decode prog_12_method_11_code 77 = .ok (.iload 4, 2) := by decide +kernel
theorem d_Mo_number_79 : decode prog_12_method_11_code 79 = .ok (.iconst 2, 1) := by decide +kernel
theorem d_Mo_number_80 : decode prog_12_method_11_code 80 = .ok (.if_icmp .ge 52, 3) := by decide +kernel
theorem d_Mo_number_83 : decode prog_12_method_11_code 83 = .ok (.iload_n 3, 1) := by decide +kernel
theorem d_Mo_number_84 : decode prog_12_method_11_code 84 = .ok (.ifCond .le 48, 3) := by decide +kernel
theorem d_Mo_number_87 : decode prog_12_method_11_code 87 = .ok (.aload_n 0, 1) := by decide +kernel
theorem d_Mo_number_88 : decode prog_12_method_11_code 88 = .ok (.aload_n 0, 1) := by decide +kernel
theorem d_Mo_number_89 : decode prog_12_method_11_code 89 = .ok (.getfield 87, 3) := by decide +kernel
theorem d_Mo_number_92 : decode prog_12_method_11_code 92 = .ok (.invokevirtual 101, 3) := by decide +kernel
theorem d_Mo_number_95 : decode prog_12_method_11_code 95 = .ok (.ifCond .eq 37, 3) := by decide +kernel
theorem d_Mo_number_98 : decode prog_12_method_11_code 98 = .ok (.bipush 10, 2) := by decide +kernel
theorem d_Mo_number_100 : decode prog_12_method_11_code 100 = .ok (.iload_n 3, 1) := by decide +kernel
theorem d_Mo_number_101 : decode prog_12_method_11_code 101 = .ok (.imul, 1) := by decide +kernel
theorem d_Mo_number_102 : decode prog_12_method_11_code 102 = .ok (.aload_n 0, 1) := by decide +kernel
theorem d_Mo_number_103 : decode prog_12_method_11_code 103 = .ok (.getfield 7, 3) := by decide +kernel
theorem d_Mo_number_106 : decode prog_12_method_11_code 106 = .ok (.aload_n 0, 1) := by decide +kernel
theorem d_Mo_number_107 : decode prog_12_method_11_code 107 = .ok (.getfield 87, 3) := by decide +kernel
theorem d_Mo_number_110 : decode prog_12_method_11_code 110 = .ok (.iaload, 1) := by decide +kernel
theorem d_Mo_number_111 : decode prog_12_method_11_code 111 = .ok (.iadd, 1) := by decide +kernel
theorem d_Mo_number_112 : decode prog_12_method_11_code 112 = .ok (.bipush 48, 2) := by decide +kernel
theorem d_Mo_number_114 : decode prog_12_method_11_code 114 = .ok (.isub, 1) := by decide +kernel
theorem d_Mo_number_115 : decode prog_12_method_11_code 115 = .ok (.istore_n 3, 1) := by decide +kernel
theorem d_Mo_number_116 : decode prog_12_method_11_code 116 = .ok (.aload_n 0, 1) := by decide +kernel
theorem d_Mo_number_117 : decode prog_12_method_11_code 117 = .ok (.dup, 1) := by decide +kernel
theorem d_Mo_number_118 : decode prog_12_method_11_code 118 = .ok (.getfield 87, 3) := by decide +kernel
theorem d_Mo_number_121 : decode prog_12_method_11_code 121 = .ok (.iconst 1, 1) := by decide +kernel
theorem d_Mo_number_122 : decode prog_12_method_11_code 122 = .ok (.iadd, 1) := by decide +kernel
theorem d_Mo_number_123 : decode prog_12_method_11_code 123 = .ok (.putfield 87, 3) := by decide +kernel
theorem d_Mo_number_126 : decode prog_12_method_11_code 126 = .ok (.iinc 4 1, 3) := by decide +kernel
theorem d_Mo_number_129 : decode prog_12_method_11_code 129 = .ok (.goto (-52), 3) := by decide +kernel
theorem d_Mo_number_132 : decode prog_12_method_11_code 132 = .ok (.iload_n 3, 1) := by decide +kernel
theorem d_Mo_number_133 : decode prog_12_method_11_code 133 = .ok (.iload_n 1, 1) := by decide +kernel
theorem d_Mo_number_134 : decode prog_12_method_11_code 134 = .ok (.iload_n 2, 1) := by decide +kernel
theorem d_Mo_number_135 : decode prog_12_method_11_code 135 = .ok (.invokestatic 72, 3) := by decide +kernel
theorem d_Mo_number_138 : decode prog_12_method_11_code 138 = .ok (.ifCond .ne 13, 3) := by decide +kernel
theorem d_Mo_number_141 : decode prog_12_method_11_code 141 = .ok (.aload_n 0, 1) := by decide +kernel
theorem d_Mo_number_142 : decode prog_12_method_11_code 142 = .ok (.aload_n 0, 1) := by decide +kernel
theorem d_Mo_number_143 : decode prog_12_method_11_code 143 = .ok (.getfield 87, 3) := by decide +kernel
theorem d_Mo_number_146 : decode prog_12_method_11_code 146 = .ok (.iconst 1, 1) := by decide +kernel
theorem d_Mo_number_147 : decode prog_12_method_11_code 147 = .ok (.isub, 1) := by decide +kernel
theorem d_Mo_number_148 : decode prog_12_method_11_code 148 = .ok (.invokevirtual 97, 3) := by decide +kernel
theorem d_Mo_number_151 : decode prog_12_method_11_code 151 = .ok (.aload_n 0, 1) := by decide +kernel
theorem d_Mo_number_152 : decode prog_12_method_11_code 152 = .ok (.aload_n 0, 1) := by decide +kernel
theorem d_Mo_number_153 : decode prog_12_method_11_code 153 = .ok (.getfield 87, 3) := by decide +kernel
theorem d_Mo_number_156 : decode prog_12_method_11_code 156 = .ok (.invokevirtual 101, 3) := by decide +kernel
theorem d_Mo_number_159 : decode prog_12_method_11_code 159 = .ok (.ifCond .eq 11, 3) := by decide +kernel
theorem d_Mo_number_162 : decode prog_12_method_11_code 162 = .ok (.aload_n 0, 1) := by decide +kernel
theorem d_Mo_number_163 : decode prog_12_method_11_code 163 = .ok (.aload_n 0, 1) := by decide +kernel
theorem d_Mo_number_164 : decode prog_12_method_11_code 164 = .ok (.getfield 87, 3) := by decide +kernel
theorem d_Mo_number_167 : decode prog_12_method_11_code 167 = .ok (.invokevirtual 97, 3) := by decide +kernel
theorem d_Mo_number_170 : decode prog_12_method_11_code 170 = .ok (.iload_n 3, 1) := by decide +kernel
theorem d_Mo_number_171 : decode prog_12_method_11_code 171 = .ok (.ireturn, 1) := by decide +kernel
def B_Mo_number_170  (x3 : Int32) (S : gS) : Option (Int32 × gS) := some (x3, S)
set_option maxRecDepth 100000 in
set_option maxHeartbeats 4000000 in
theorem w_Mo_number_170 {D : va_G} {cT : Nat → ClassId} {H0 : Heap} {l : Launch} {p : Program} {e : Env} {s : State} {m : MethodId} {args : Array Value} {below : List Frame} {meth : Method} {c : Code} {S0 : gS} {S' : gS} {r : Int32} (Y : gY D cT H0 p s m args meth c prog_12_method_11_code 5 "PlanTextModel" 2 43 S0 (Option.some Jvm.ClassFile.FieldType.int))  (x3 : Int32) (S : gS) (hden : B_Mo_number_170  x3 S = some (r, S')) {ls : Array Slot} (hl : lv_has ls 5 [(3, .int x3)]) : gV D cT H0 p l e (gRm 2 43 S0) s m args below meth c (gQ D cT H0 below S0 S' (.inr (some (.int r))) s) S0 S (F0 m 170 ls []) := by
  obtain ⟨X, hZ, hex, hr, hE⟩ := id Y
  have hx := X.1
  have hb := X.2.1
  unfold B_Mo_number_170 at hden
  refine gV.lift (fun _ _ _ _ => lv_iload_n hx hb d_Mo_number_170 rfl (lv_at hl 0 rfl)) ?_
  obtain ⟨rfl, rfl⟩ := gpi hden
  exact g_iret X hr d_Mo_number_171
def B_Mo_number_151  (x0 : Nat) (x3 : Int32) (S : gS) : Option (Int32 × gS) := Option.bind (gI S x0 10 4) (fun v1 => Option.bind (gOb S x0 10) (fun fs4 => gB2 (D_Mo_isDigit x0 v1 S) (fun v3 S2 => (if v3 = 0 then B_Mo_number_170  x3 S2 else Option.bind (gI S2 x0 10 4) (fun v6 => Option.bind (gOb S2 x0 10) (fun fs8 => Option.bind (D_Mo_fail x0 v6 S2) (fun S7 => B_Mo_number_170  x3 S7)))))))
set_option maxRecDepth 100000 in
set_option maxHeartbeats 4000000 in
theorem w_Mo_number_151 {D : va_G} {cT : Nat → ClassId} {H0 : Heap} {l : Launch} {p : Program} {e : Env} {s : State} {m : MethodId} {args : Array Value} {below : List Frame} {meth : Method} {c : Code} {S0 : gS} {S' : gS} {r : Int32} (Y : gY D cT H0 p s m args meth c prog_12_method_11_code 5 "PlanTextModel" 2 43 S0 (Option.some Jvm.ClassFile.FieldType.int))  (x0 : Nat) (x3 : Int32) (S : gS) (hden : B_Mo_number_151  x0 x3 S = some (r, S')) {ls : Array Slot} (hl : lv_has ls 5 [(0, va_rf (some x0)), (3, .int x3)]) : gV D cT H0 p l e (gRm 2 43 S0) s m args below meth c (gQ D cT H0 below S0 S' (.inr (some (.int r))) s) S0 S (F0 m 151 ls []) := by
  obtain ⟨X, hZ, hex, hr, hE⟩ := id Y
  have hx := X.1
  have hb := X.2.1
  unfold B_Mo_number_151 at hden
  refine gV.lift (fun _ _ _ _ => g_aload_n hx hb d_Mo_number_151 rfl (lv_at hl 0 rfl)) ?_
  refine gV.lift (fun _ _ _ _ => g_aload_n hx hb d_Mo_number_152 rfl (lv_at hl 0 rfl)) ?_
  replace hden := gb hden
  obtain ⟨v1, hv, hden⟩ := hden
  refine r_getI X cl_Mo (k := 4) hv (by decide) q_769 d_Mo_number_153 ?_
  replace hden := gb hden
  obtain ⟨fs4, ho, hden⟩ := hden
  replace hden := gb2 hden
  obtain ⟨v3, S2, hz, hden⟩ := hden
  refine g_callV (As := [.int v1]) (rest := []) X hZ (c_Mo_isDigit hz) cl_Mo (gOb_spec ho) q_887 q_5 q_884 q_886 qp_32 ⟨by decide, by decide, by show _ = some 1; decide +kernel⟩ ⟨by decide, by decide⟩ hl.1 (Nat.le_of_ble_eq_true rfl) d_Mo_number_156 rfl rfl ?_
  refine gV.lift2 (fun _ _ _ _ => lv_if_eq (tgt := 170) hx hb d_Mo_number_159 (by decide)) (fun hc5 => ?_) (fun hc5 => ?_)
  · replace hden := gip hc5 hden
    exact w_Mo_number_170 Y  x3 S2 hden (lv_sub hl [1] rfl)
  · replace hden := gin hc5 hden
    refine gV.lift (fun _ _ _ _ => g_aload_n hx hb d_Mo_number_162 rfl (lv_at hl 0 rfl)) ?_
    refine gV.lift (fun _ _ _ _ => g_aload_n hx hb d_Mo_number_163 rfl (lv_at hl 0 rfl)) ?_
    replace hden := gb hden
    obtain ⟨v6, hv, hden⟩ := hden
    refine r_getI X cl_Mo (k := 4) hv (by decide) q_769 d_Mo_number_164 ?_
    replace hden := gb hden
    obtain ⟨fs8, ho, hden⟩ := hden
    replace hden := gb hden
    obtain ⟨S7, hz, hden⟩ := hden
    refine g_callV (As := [.int v6]) (rest := []) X hZ (c_Mo_fail hz) cl_Mo (gOb_spec ho) q_875 q_5 q_872 q_874 qp_29 ⟨by decide, by decide, by show _ = some 1; decide +kernel⟩ ⟨by decide, by decide⟩ hl.1 (Nat.le_of_ble_eq_true rfl) d_Mo_number_167 rfl rfl ?_
    exact w_Mo_number_170 Y  x3 S7 hden (lv_sub hl [1] rfl)
def B_Mo_number_132  (x0 : Nat) (x1 : Int32) (x2 : Int32) (x3 : Int32) (S : gS) : Option (Int32 × gS) := gB2 (D_Mo_in x3 x1 x2 S) (fun v2 S1 => (if v2 = 0 then Option.bind (gI S1 x0 10 4) (fun v4 => Option.bind (gOb S1 x0 10) (fun fs6 => Option.bind (D_Mo_fail x0 (v4 - 1) S1) (fun S5 => B_Mo_number_151  x0 x3 S5))) else B_Mo_number_151  x0 x3 S1))
set_option maxRecDepth 100000 in
set_option maxHeartbeats 4000000 in
theorem w_Mo_number_132 {D : va_G} {cT : Nat → ClassId} {H0 : Heap} {l : Launch} {p : Program} {e : Env} {s : State} {m : MethodId} {args : Array Value} {below : List Frame} {meth : Method} {c : Code} {S0 : gS} {S' : gS} {r : Int32} (Y : gY D cT H0 p s m args meth c prog_12_method_11_code 5 "PlanTextModel" 2 43 S0 (Option.some Jvm.ClassFile.FieldType.int))  (x0 : Nat) (x1 : Int32) (x2 : Int32) (x3 : Int32) (S : gS) (hden : B_Mo_number_132  x0 x1 x2 x3 S = some (r, S')) {ls : Array Slot} (hl : lv_has ls 5 [(0, va_rf (some x0)), (1, .int x1), (2, .int x2), (3, .int x3)]) : gV D cT H0 p l e (gRm 2 43 S0) s m args below meth c (gQ D cT H0 below S0 S' (.inr (some (.int r))) s) S0 S (F0 m 132 ls []) := by
  obtain ⟨X, hZ, hex, hr, hE⟩ := id Y
  have hx := X.1
  have hb := X.2.1
  unfold B_Mo_number_132 at hden
  refine gV.lift (fun _ _ _ _ => lv_iload_n hx hb d_Mo_number_132 rfl (lv_at hl 3 rfl)) ?_
  refine gV.lift (fun _ _ _ _ => lv_iload_n hx hb d_Mo_number_133 rfl (lv_at hl 1 rfl)) ?_
  refine gV.lift (fun _ _ _ _ => lv_iload_n hx hb d_Mo_number_134 rfl (lv_at hl 2 rfl)) ?_
  replace hden := gb2 hden
  obtain ⟨v2, S1, hz, hden⟩ := hden
  refine g_callS (As := [.int x3, .int x1, .int x2]) (rest := []) X hZ (c_Mo_in hz) q_855 q_5 q_853 q_854 ⟨by decide, by decide, by show _ = some 3; decide +kernel⟩ ⟨by decide, by decide⟩ hl.1 (Nat.le_of_ble_eq_true rfl) d_Mo_number_135 rfl rfl ?_
  refine gV.lift2 (fun _ _ _ _ => lv_if_ne (tgt := 151) hx hb d_Mo_number_138 (by decide)) (fun hc3 => ?_) (fun hc3 => ?_)
  · replace hden := gin hc3 hden
    exact w_Mo_number_151 Y  x0 x3 S1 hden (lv_sub hl [0, 3] rfl)
  · replace hden := gip hc3 hden
    refine gV.lift (fun _ _ _ _ => g_aload_n hx hb d_Mo_number_141 rfl (lv_at hl 0 rfl)) ?_
    refine gV.lift (fun _ _ _ _ => g_aload_n hx hb d_Mo_number_142 rfl (lv_at hl 0 rfl)) ?_
    replace hden := gb hden
    obtain ⟨v4, hv, hden⟩ := hden
    refine r_getI X cl_Mo (k := 4) hv (by decide) q_769 d_Mo_number_143 ?_
    refine gV.lift (fun _ _ _ _ => lv_iconst (v := 1) hx hb d_Mo_number_146 (by decide)) ?_
    refine gV.lift (fun _ _ _ _ => lv_isub hx hb d_Mo_number_147) ?_
    replace hden := gb hden
    obtain ⟨fs6, ho, hden⟩ := hden
    replace hden := gb hden
    obtain ⟨S5, hz, hden⟩ := hden
    refine g_callV (As := [.int (v4 - 1)]) (rest := []) X hZ (c_Mo_fail hz) cl_Mo (gOb_spec ho) q_875 q_5 q_872 q_874 qp_29 ⟨by decide, by decide, by show _ = some 1; decide +kernel⟩ ⟨by decide, by decide⟩ hl.1 (Nat.le_of_ble_eq_true rfl) d_Mo_number_148 rfl rfl ?_
    exact w_Mo_number_151 Y  x0 x3 S5 hden (lv_sub hl [0, 3] rfl)
def B_Mo_number_77 (k77 : Nat → Int32 → Int32 → Int32 → Int32 → gS → Option (Int32 × gS)) (x0 : Nat) (x1 : Int32) (x2 : Int32) (x3 : Int32) (x4 : Int32) (S : gS) : Option (Int32 × gS) := (if 2 ≤ x4 then B_Mo_number_132  x0 x1 x2 x3 S else (if x3 ≤ 0 then B_Mo_number_132  x0 x1 x2 x3 S else Option.bind (gI S x0 10 4) (fun v3 => Option.bind (gOb S x0 10) (fun fs6 => gB2 (D_Mo_isDigit x0 v3 S) (fun v5 S4 => (if v5 = 0 then B_Mo_number_132  x0 x1 x2 x3 S4 else Option.bind (gRf S4 x0 10 1) (fun r8 => Option.bind (gI S4 x0 10 4) (fun v9 => Option.bind r8 (fun a10 => Option.bind (gAI S4 a10 0 v9) (fun v11 => Option.bind (gI S4 x0 10 4) (fun v12 => Option.bind (gPut S4 x0 10 4 (.int (v12 + 1))) (fun S13 => k77 x0 x1 x2 (((10 * x3) + v11) - 48) (x4 + 1) S13))))))))))))
set_option maxRecDepth 100000 in
set_option maxHeartbeats 4000000 in
theorem w_Mo_number_77 {D : va_G} {cT : Nat → ClassId} {H0 : Heap} {l : Launch} {p : Program} {e : Env} {s : State} {m : MethodId} {args : Array Value} {below : List Frame} {meth : Method} {c : Code} {S0 : gS} {S' : gS} {r : Int32} (Y : gY D cT H0 p s m args meth c prog_12_method_11_code 5 "PlanTextModel" 2 43 S0 (Option.some Jvm.ClassFile.FieldType.int)) {k77 : Nat → Int32 → Int32 → Int32 → Int32 → gS → Option (Int32 × gS)} (hk77 : ∀ (x0 : Nat) (x1 : Int32) (x2 : Int32) (x3 : Int32) (x4 : Int32) (S : gS) (ls : Array Slot), k77 x0 x1 x2 x3 x4 S = some (r, S') → lv_has ls 5 [(0, va_rf (some x0)), (1, .int x1), (2, .int x2), (3, .int x3), (4, .int x4)] → gV D cT H0 p l e (gRm 2 43 S0) s m args below meth c (gQ D cT H0 below S0 S' (.inr (some (.int r))) s) S0 S (F0 m 77 ls [])) (x0 : Nat) (x1 : Int32) (x2 : Int32) (x3 : Int32) (x4 : Int32) (S : gS) (hden : B_Mo_number_77 k77 x0 x1 x2 x3 x4 S = some (r, S')) {ls : Array Slot} (hl : lv_has ls 5 [(0, va_rf (some x0)), (1, .int x1), (2, .int x2), (3, .int x3), (4, .int x4)]) : gV D cT H0 p l e (gRm 2 43 S0) s m args below meth c (gQ D cT H0 below S0 S' (.inr (some (.int r))) s) S0 S (F0 m 77 ls []) := by
  obtain ⟨X, hZ, hex, hr, hE⟩ := id Y
  have hx := X.1
  have hb := X.2.1
  unfold B_Mo_number_77 at hden
  refine gV.lift (fun _ _ _ _ => lv_iload hx hb d_Mo_number_77 (lv_at hl 4 rfl)) ?_
  refine gV.lift (fun _ _ _ _ => lv_iconst (v := 2) hx hb d_Mo_number_79 (by decide)) ?_
  refine gV.lift2 (fun _ _ _ _ => lv_icmp_ge (tgt := 132) hx hb d_Mo_number_80 (by decide)) (fun hc1 => ?_) (fun hc1 => ?_)
  · replace hden := gip hc1 hden
    exact w_Mo_number_132 Y  x0 x1 x2 x3 S hden (lv_sub hl [0, 1, 2, 3] rfl)
  · replace hden := gin hc1 hden
    refine gV.lift (fun _ _ _ _ => lv_iload_n hx hb d_Mo_number_83 rfl (lv_at hl 3 rfl)) ?_
    refine gV.lift2 (fun _ _ _ _ => lv_if_le (tgt := 132) hx hb d_Mo_number_84 (by decide)) (fun hc2 => ?_) (fun hc2 => ?_)
    · replace hden := gip hc2 hden
      exact w_Mo_number_132 Y  x0 x1 x2 x3 S hden (lv_sub hl [0, 1, 2, 3] rfl)
    · replace hden := gin hc2 hden
      refine gV.lift (fun _ _ _ _ => g_aload_n hx hb d_Mo_number_87 rfl (lv_at hl 0 rfl)) ?_
      refine gV.lift (fun _ _ _ _ => g_aload_n hx hb d_Mo_number_88 rfl (lv_at hl 0 rfl)) ?_
      replace hden := gb hden
      obtain ⟨v3, hv, hden⟩ := hden
      refine r_getI X cl_Mo (k := 4) hv (by decide) q_769 d_Mo_number_89 ?_
      replace hden := gb hden
      obtain ⟨fs6, ho, hden⟩ := hden
      replace hden := gb2 hden
      obtain ⟨v5, S4, hz, hden⟩ := hden
      refine g_callV (As := [.int v3]) (rest := []) X hZ (c_Mo_isDigit hz) cl_Mo (gOb_spec ho) q_887 q_5 q_884 q_886 qp_32 ⟨by decide, by decide, by show _ = some 1; decide +kernel⟩ ⟨by decide, by decide⟩ hl.1 (Nat.le_of_ble_eq_true rfl) d_Mo_number_92 rfl rfl ?_
      refine gV.lift2 (fun _ _ _ _ => lv_if_eq (tgt := 132) hx hb d_Mo_number_95 (by decide)) (fun hc7 => ?_) (fun hc7 => ?_)
      · replace hden := gip hc7 hden
        exact w_Mo_number_132 Y  x0 x1 x2 x3 S4 hden (lv_sub hl [0, 1, 2, 3] rfl)
      · replace hden := gin hc7 hden
        refine gV.lift (fun _ _ _ _ => lv_bipush (v := 10) hx hb d_Mo_number_98 (by decide)) ?_
        refine gV.lift (fun _ _ _ _ => lv_iload_n hx hb d_Mo_number_100 rfl (lv_at hl 3 rfl)) ?_
        refine gV.lift (fun _ _ _ _ => lv_imul hx hb d_Mo_number_101) ?_
        refine gV.lift (fun _ _ _ _ => g_aload_n hx hb d_Mo_number_102 rfl (lv_at hl 0 rfl)) ?_
        replace hden := gb hden
        obtain ⟨r8, hv, hden⟩ := hden
        refine r_getR X cl_Mo (k := 1) hv (by decide) q_766 d_Mo_number_103 ?_
        refine gV.lift (fun _ _ _ _ => g_aload_n hx hb d_Mo_number_106 rfl (lv_at hl 0 rfl)) ?_
        replace hden := gb hden
        obtain ⟨v9, hv, hden⟩ := hden
        refine r_getI X cl_Mo (k := 4) hv (by decide) q_769 d_Mo_number_107 ?_
        replace hden := gb hden
        obtain ⟨a10, rfl, hden⟩ := hden
        replace hden := gb hden
        obtain ⟨v11, hv, hden⟩ := hden
        refine r_iald X (t := 0) rfl hv d_Mo_number_110 ?_
        refine gV.lift (fun _ _ _ _ => lv_iadd hx hb d_Mo_number_111) ?_
        refine gV.lift (fun _ _ _ _ => lv_bipush (v := 48) hx hb d_Mo_number_112 (by decide)) ?_
        refine gV.lift (fun _ _ _ _ => lv_isub hx hb d_Mo_number_114) ?_
        refine gV.liftS (nL := 5) (lv' := [(3, .int (((10 * x3) + v11) - 48)), (0, va_rf (some x0)), (1, .int x1), (2, .int x2), (4, .int x4)]) (fun _ _ _ _ => lv_istore_n hx hb d_Mo_number_115 rfl hl (by decide) rfl) (fun ls hl => ?_)
        refine gV.lift (fun _ _ _ _ => g_aload_n hx hb d_Mo_number_116 rfl (lv_at hl 1 rfl)) ?_
        refine gV.lift (fun _ _ _ _ => lv_dup hx hb d_Mo_number_117 g_cat) ?_
        replace hden := gb hden
        obtain ⟨v12, hv, hden⟩ := hden
        refine r_getI X cl_Mo (k := 4) hv (by decide) q_769 d_Mo_number_118 ?_
        refine gV.lift (fun _ _ _ _ => lv_iconst (v := 1) hx hb d_Mo_number_121 (by decide)) ?_
        refine gV.lift (fun _ _ _ _ => lv_iadd hx hb d_Mo_number_122) ?_
        replace hden := gb hden
        obtain ⟨S13, hv, hden⟩ := hden
        refine r_put X cl_Mo (k := 4) hv (by decide) q_769 rfl rfl rfl d_Mo_number_123 ?_
        refine gV.liftS (nL := 5) (lv' := [(4, .int (x4 + 1)), (3, .int (((10 * x3) + v11) - 48)), (0, va_rf (some x0)), (1, .int x1), (2, .int x2)]) (fun _ _ _ _ => lv_iinc (v := (x4 + 1)) hx hb d_Mo_number_126 hl (k := 4) rfl rfl (by decide) rfl) (fun ls hl => ?_)
        refine gV.lift (fun _ _ _ _ => lv_goto (tgt := 77) hx hb d_Mo_number_129 (by decide)) ?_
        exact hk77 x0 x1 x2 (((10 * x3) + v11) - 48) (x4 + 1) S13 _ hden (lv_sub hl [2, 3, 4, 1, 0] rfl)
def L_Mo_number_77  : Nat → Nat → Int32 → Int32 → Int32 → Int32 → gS → Option (Int32 × gS)
  | 0 => fun _ _ _ _ _ _ => none
  | n + 1 => fun x0 x1 x2 x3 x4 S => B_Mo_number_77  (L_Mo_number_77  n) x0 x1 x2 x3 x4 S
theorem wL_Mo_number_77 {D : va_G} {cT : Nat → ClassId} {H0 : Heap} {l : Launch} {p : Program} {e : Env} {s : State} {m : MethodId} {args : Array Value} {below : List Frame} {meth : Method} {c : Code} {S0 : gS} {S' : gS} {r : Int32} (Y : gY D cT H0 p s m args meth c prog_12_method_11_code 5 "PlanTextModel" 2 43 S0 (Option.some Jvm.ClassFile.FieldType.int))  : ∀ (n : Nat) (x0 : Nat) (x1 : Int32) (x2 : Int32) (x3 : Int32) (x4 : Int32) (S : gS) (ls : Array Slot), L_Mo_number_77  n x0 x1 x2 x3 x4 S = some (r, S') → lv_has ls 5 [(0, va_rf (some x0)), (1, .int x1), (2, .int x2), (3, .int x3), (4, .int x4)] → gV D cT H0 p l e (gRm 2 43 S0) s m args below meth c (gQ D cT H0 below S0 S' (.inr (some (.int r))) s) S0 S (F0 m 77 ls []) := by
  intro n
  induction n with
  | zero => intro x0 x1 x2 x3 x4 S ls h hl; cases h
  | succ n ih => intro x0 x1 x2 x3 x4 S ls h hl; exact w_Mo_number_77 Y ih x0 x1 x2 x3 x4 S h hl
def B_Mo_number_74  (x0 : Nat) (x1 : Int32) (x2 : Int32) (x3 : Int32) (S : gS) : Option (Int32 × gS) := L_Mo_number_77  gF x0 x1 x2 x3 0 S
set_option maxRecDepth 100000 in
set_option maxHeartbeats 4000000 in
theorem w_Mo_number_74 {D : va_G} {cT : Nat → ClassId} {H0 : Heap} {l : Launch} {p : Program} {e : Env} {s : State} {m : MethodId} {args : Array Value} {below : List Frame} {meth : Method} {c : Code} {S0 : gS} {S' : gS} {r : Int32} (Y : gY D cT H0 p s m args meth c prog_12_method_11_code 5 "PlanTextModel" 2 43 S0 (Option.some Jvm.ClassFile.FieldType.int))  (x0 : Nat) (x1 : Int32) (x2 : Int32) (x3 : Int32) (S : gS) (hden : B_Mo_number_74  x0 x1 x2 x3 S = some (r, S')) {ls : Array Slot} (hl : lv_has ls 5 [(0, va_rf (some x0)), (1, .int x1), (2, .int x2), (3, .int x3)]) : gV D cT H0 p l e (gRm 2 43 S0) s m args below meth c (gQ D cT H0 below S0 S' (.inr (some (.int r))) s) S0 S (F0 m 74 ls []) := by
  obtain ⟨X, hZ, hex, hr, hE⟩ := id Y
  have hx := X.1
  have hb := X.2.1
  unfold B_Mo_number_74 at hden
  refine gV.lift (fun _ _ _ _ => lv_iconst (v := 0) hx hb d_Mo_number_74 (by decide)) ?_
  refine gV.liftS (nL := 5) (lv' := [(4, .int 0), (0, va_rf (some x0)), (1, .int x1), (2, .int x2), (3, .int x3)]) (fun _ _ _ _ => lv_istore hx hb d_Mo_number_75 hl (by decide) rfl) (fun ls hl => ?_)
  exact wL_Mo_number_77 Y  gF x0 x1 x2 x3 0 S _ hden (lv_sub hl [1, 2, 3, 4, 0] rfl)
def B_Mo_number_23  (x0 : Nat) (x1 : Int32) (S : gS) : Option (Int32 × gS) := Option.bind (gI S x0 10 4) (fun v1 => Option.bind (gOb S x0 10) (fun fs3 => Option.bind (D_Mo_fail x0 v1 S) (fun S2 => some (x1, S2))))
set_option maxRecDepth 100000 in
set_option maxHeartbeats 4000000 in
theorem w_Mo_number_23 {D : va_G} {cT : Nat → ClassId} {H0 : Heap} {l : Launch} {p : Program} {e : Env} {s : State} {m : MethodId} {args : Array Value} {below : List Frame} {meth : Method} {c : Code} {S0 : gS} {S' : gS} {r : Int32} (Y : gY D cT H0 p s m args meth c prog_12_method_11_code 5 "PlanTextModel" 2 43 S0 (Option.some Jvm.ClassFile.FieldType.int))  (x0 : Nat) (x1 : Int32) (S : gS) (hden : B_Mo_number_23  x0 x1 S = some (r, S')) {ls : Array Slot} (hl : lv_has ls 5 [(0, va_rf (some x0)), (1, .int x1)]) : gV D cT H0 p l e (gRm 2 43 S0) s m args below meth c (gQ D cT H0 below S0 S' (.inr (some (.int r))) s) S0 S (F0 m 23 ls []) := by
  obtain ⟨X, hZ, hex, hr, hE⟩ := id Y
  have hx := X.1
  have hb := X.2.1
  unfold B_Mo_number_23 at hden
  refine gV.lift (fun _ _ _ _ => g_aload_n hx hb d_Mo_number_23 rfl (lv_at hl 0 rfl)) ?_
  refine gV.lift (fun _ _ _ _ => g_aload_n hx hb d_Mo_number_24 rfl (lv_at hl 0 rfl)) ?_
  replace hden := gb hden
  obtain ⟨v1, hv, hden⟩ := hden
  refine r_getI X cl_Mo (k := 4) hv (by decide) q_769 d_Mo_number_25 ?_
  replace hden := gb hden
  obtain ⟨fs3, ho, hden⟩ := hden
  replace hden := gb hden
  obtain ⟨S2, hz, hden⟩ := hden
  refine g_callV (As := [.int v1]) (rest := []) X hZ (c_Mo_fail hz) cl_Mo (gOb_spec ho) q_875 q_5 q_872 q_874 qp_29 ⟨by decide, by decide, by show _ = some 1; decide +kernel⟩ ⟨by decide, by decide⟩ hl.1 (Nat.le_of_ble_eq_true rfl) d_Mo_number_28 rfl rfl ?_
  refine gV.lift (fun _ _ _ _ => lv_iload_n hx hb d_Mo_number_31 rfl (lv_at hl 1 rfl)) ?_
  obtain ⟨rfl, rfl⟩ := gpi hden
  exact g_iret X hr d_Mo_number_32
def D_Mo_number (h0 : Nat) (p0 : Int32) (p1 : Int32) (S : gS) : Option (Int32 × gS) := Option.bind (gOb S h0 10) (fun fs3 => gB2 (D_Mo_see h0 S) (fun v2 S1 => Option.bind (gI S1 h0 10 5) (fun v4 => (if v4 = 0 then Option.bind (gI S1 h0 10 4) (fun v6 => Option.bind (gOb S1 h0 10) (fun fs9 => gB2 (D_Mo_isDigit h0 v6 S1) (fun v8 S7 => (if v8 = 0 then B_Mo_number_23  h0 p0 S7 else Option.bind (gRf S7 h0 10 1) (fun r11 => Option.bind (gI S7 h0 10 4) (fun v12 => Option.bind r11 (fun a13 => Option.bind (gAI S7 a13 0 v12) (fun v14 => Option.bind (gI S7 h0 10 4) (fun v15 => Option.bind (gPut S7 h0 10 4 (.int (v15 + 1))) (fun S16 => (if (v14 - 48) = 0 then (if p0 ≤ 0 then B_Mo_number_74  h0 p0 p1 (v14 - 48) S16 else Option.bind (gI S16 h0 10 4) (fun v19 => Option.bind (gOb S16 h0 10) (fun fs21 => Option.bind (D_Mo_fail h0 (v19 - 1) S16) (fun S20 => B_Mo_number_74  h0 p0 p1 (v14 - 48) S20)))) else B_Mo_number_74  h0 p0 p1 (v14 - 48) S16))))))))))) else B_Mo_number_23  h0 p0 S1))))
set_option maxRecDepth 100000 in
set_option maxHeartbeats 4000000 in
theorem c_Mo_number {D : va_G} {cT : Nat → ClassId} {H0 : Heap} {l : Launch} {S : gS} {S' : gS} {h0 : Nat} {p0 : Int32} {p1 : Int32} {r : Int32} (hden : D_Mo_number h0 p0 p1 S = some (r, S')) : gM D cT H0 l y_Mo_number (Cond.code y_Mo_number prog_12_method_11_code 5 (Option.some Jvm.ClassFile.FieldType.int)) 2 43 [va_rf (some h0), .int p0, .int p1] S S' (.inr (some (.int r))) := by
  refine gM.ofV (by decide) ?_
  intro p e s m args below meth c s₁ B hml ea X hZ hex hr hE
  subst ea
  have Y : gY D cT H0 p s m _ meth c prog_12_method_11_code 5 "PlanTextModel" 2 43 S (Option.some Jvm.ClassFile.FieldType.int) := ⟨X, hZ, hex, hr, hE⟩
  have hx := X.1
  have hb := X.2.1
  have hl := lv_entry ([va_rf (some h0), .int p0, .int p1]) (n := 5) (Nat.le_of_ble_eq_true rfl)
  rw [lg_entry_eq]
  generalize (lg_sl ([va_rf (some h0), .int p0, .int p1]) ++ List.replicate (5 - (lg_sl ([va_rf (some h0), .int p0, .int p1])).length) Slot.unset).toArray = ls at hl ⊢
  have hl : lv_has ls 5 [(0, va_rf (some h0)), (1, .int p0), (2, .int p1)] := hl
  unfold D_Mo_number at hden
  refine gV.lift (fun _ _ _ _ => g_aload_n hx hb d_Mo_number_0 rfl (lv_at hl 0 rfl)) ?_
  replace hden := gb hden
  obtain ⟨fs3, ho, hden⟩ := hden
  replace hden := gb2 hden
  obtain ⟨v2, S1, hz, hden⟩ := hden
  refine g_callV (As := []) (rest := []) X hZ (c_Mo_see hz) cl_Mo (gOb_spec ho) q_871 q_5 q_868 q_870 qp_28 ⟨by decide, by decide, by show _ = some 0; decide +kernel⟩ ⟨by decide, by decide⟩ hl.1 (Nat.le_of_ble_eq_true rfl) d_Mo_number_1 rfl rfl ?_
  refine gV.lift (fun _ _ _ _ => lv_pop hx hb d_Mo_number_4 rfl) ?_
  refine gV.lift (fun _ _ _ _ => g_aload_n hx hb d_Mo_number_5 rfl (lv_at hl 0 rfl)) ?_
  replace hden := gb hden
  obtain ⟨v4, hv, hden⟩ := hden
  refine r_getI X cl_Mo (k := 5) hv (by decide) q_770 d_Mo_number_6 ?_
  refine gV.lift2 (fun _ _ _ _ => lv_if_ne (tgt := 23) hx hb d_Mo_number_9 (by decide)) (fun hc5 => ?_) (fun hc5 => ?_)
  · replace hden := gin hc5 hden
    exact w_Mo_number_23 Y  h0 p0 S1 hden (lv_sub hl [0, 1] rfl)
  · replace hden := gip hc5 hden
    refine gV.lift (fun _ _ _ _ => g_aload_n hx hb d_Mo_number_12 rfl (lv_at hl 0 rfl)) ?_
    refine gV.lift (fun _ _ _ _ => g_aload_n hx hb d_Mo_number_13 rfl (lv_at hl 0 rfl)) ?_
    replace hden := gb hden
    obtain ⟨v6, hv, hden⟩ := hden
    refine r_getI X cl_Mo (k := 4) hv (by decide) q_769 d_Mo_number_14 ?_
    replace hden := gb hden
    obtain ⟨fs9, ho, hden⟩ := hden
    replace hden := gb2 hden
    obtain ⟨v8, S7, hz, hden⟩ := hden
    refine g_callV (As := [.int v6]) (rest := []) X hZ (c_Mo_isDigit hz) cl_Mo (gOb_spec ho) q_887 q_5 q_884 q_886 qp_32 ⟨by decide, by decide, by show _ = some 1; decide +kernel⟩ ⟨by decide, by decide⟩ hl.1 (Nat.le_of_ble_eq_true rfl) d_Mo_number_17 rfl rfl ?_
    refine gV.lift2 (fun _ _ _ _ => lv_if_ne (tgt := 33) hx hb d_Mo_number_20 (by decide)) (fun hc10 => ?_) (fun hc10 => ?_)
    · replace hden := gin hc10 hden
      refine gV.lift (fun _ _ _ _ => g_aload_n hx hb d_Mo_number_33 rfl (lv_at hl 0 rfl)) ?_
      replace hden := gb hden
      obtain ⟨r11, hv, hden⟩ := hden
      refine r_getR X cl_Mo (k := 1) hv (by decide) q_766 d_Mo_number_34 ?_
      refine gV.lift (fun _ _ _ _ => g_aload_n hx hb d_Mo_number_37 rfl (lv_at hl 0 rfl)) ?_
      replace hden := gb hden
      obtain ⟨v12, hv, hden⟩ := hden
      refine r_getI X cl_Mo (k := 4) hv (by decide) q_769 d_Mo_number_38 ?_
      replace hden := gb hden
      obtain ⟨a13, rfl, hden⟩ := hden
      replace hden := gb hden
      obtain ⟨v14, hv, hden⟩ := hden
      refine r_iald X (t := 0) rfl hv d_Mo_number_41 ?_
      refine gV.lift (fun _ _ _ _ => lv_bipush (v := 48) hx hb d_Mo_number_42 (by decide)) ?_
      refine gV.lift (fun _ _ _ _ => lv_isub hx hb d_Mo_number_44) ?_
      refine gV.liftS (nL := 5) (lv' := [(3, .int (v14 - 48)), (0, va_rf (some h0)), (1, .int p0), (2, .int p1)]) (fun _ _ _ _ => lv_istore_n hx hb d_Mo_number_45 rfl hl (by decide) rfl) (fun ls hl => ?_)
      refine gV.lift (fun _ _ _ _ => g_aload_n hx hb d_Mo_number_46 rfl (lv_at hl 1 rfl)) ?_
      refine gV.lift (fun _ _ _ _ => lv_dup hx hb d_Mo_number_47 g_cat) ?_
      replace hden := gb hden
      obtain ⟨v15, hv, hden⟩ := hden
      refine r_getI X cl_Mo (k := 4) hv (by decide) q_769 d_Mo_number_48 ?_
      refine gV.lift (fun _ _ _ _ => lv_iconst (v := 1) hx hb d_Mo_number_51 (by decide)) ?_
      refine gV.lift (fun _ _ _ _ => lv_iadd hx hb d_Mo_number_52) ?_
      replace hden := gb hden
      obtain ⟨S16, hv, hden⟩ := hden
      refine r_put X cl_Mo (k := 4) hv (by decide) q_769 rfl rfl rfl d_Mo_number_53 ?_
      refine gV.lift (fun _ _ _ _ => lv_iload_n hx hb d_Mo_number_56 rfl (lv_at hl 0 rfl)) ?_
      refine gV.lift2 (fun _ _ _ _ => lv_if_ne (tgt := 74) hx hb d_Mo_number_57 (by decide)) (fun hc17 => ?_) (fun hc17 => ?_)
      · replace hden := gin hc17 hden
        exact w_Mo_number_74 Y  h0 p0 p1 (v14 - 48) S16 hden (lv_sub hl [1, 2, 3, 0] rfl)
      · replace hden := gip hc17 hden
        refine gV.lift (fun _ _ _ _ => lv_iload_n hx hb d_Mo_number_60 rfl (lv_at hl 2 rfl)) ?_
        refine gV.lift2 (fun _ _ _ _ => lv_if_le (tgt := 74) hx hb d_Mo_number_61 (by decide)) (fun hc18 => ?_) (fun hc18 => ?_)
        · replace hden := gip hc18 hden
          exact w_Mo_number_74 Y  h0 p0 p1 (v14 - 48) S16 hden (lv_sub hl [1, 2, 3, 0] rfl)
        · replace hden := gin hc18 hden
          refine gV.lift (fun _ _ _ _ => g_aload_n hx hb d_Mo_number_64 rfl (lv_at hl 1 rfl)) ?_
          refine gV.lift (fun _ _ _ _ => g_aload_n hx hb d_Mo_number_65 rfl (lv_at hl 1 rfl)) ?_
          replace hden := gb hden
          obtain ⟨v19, hv, hden⟩ := hden
          refine r_getI X cl_Mo (k := 4) hv (by decide) q_769 d_Mo_number_66 ?_
          refine gV.lift (fun _ _ _ _ => lv_iconst (v := 1) hx hb d_Mo_number_69 (by decide)) ?_
          refine gV.lift (fun _ _ _ _ => lv_isub hx hb d_Mo_number_70) ?_
          replace hden := gb hden
          obtain ⟨fs21, ho, hden⟩ := hden
          replace hden := gb hden
          obtain ⟨S20, hz, hden⟩ := hden
          refine g_callV (As := [.int (v19 - 1)]) (rest := []) X hZ (c_Mo_fail hz) cl_Mo (gOb_spec ho) q_875 q_5 q_872 q_874 qp_29 ⟨by decide, by decide, by show _ = some 1; decide +kernel⟩ ⟨by decide, by decide⟩ hl.1 (Nat.le_of_ble_eq_true rfl) d_Mo_number_71 rfl rfl ?_
          exact w_Mo_number_74 Y  h0 p0 p1 (v14 - 48) S20 hden (lv_sub hl [1, 2, 3, 0] rfl)
    · replace hden := gip hc10 hden
      exact w_Mo_number_23 Y  h0 p0 S7 hden (lv_sub hl [0, 1] rfl)
/-! PlanTextModel.letter()I -/
abbrev y_Mo_letter : MethodName := ⟨"PlanTextModel", "letter", "()I"⟩
theorem d_Mo_letter_0 : decode prog_12_method_12_code 0 = .ok (.aload_n 0, 1) := by decide +kernel
theorem d_Mo_letter_1 : decode prog_12_method_12_code 1 = .ok (.invokevirtual 93, 3) := by decide +kernel
theorem d_Mo_letter_4 : decode prog_12_method_12_code 4 = .ok (.istore_n 1, 1) := by decide +kernel
theorem d_Mo_letter_5 : decode prog_12_method_12_code 5 = .ok (.aload_n 0, 1) := by decide +kernel
theorem d_Mo_letter_6 : decode prog_12_method_12_code 6 = .ok (.getfield 83, 3) := by decide +kernel
theorem d_Mo_letter_9 : decode prog_12_method_12_code 9 = .ok (.ifCond .ne 14, 3) := by decide +kernel
theorem d_Mo_letter_12 : decode prog_12_method_12_code 12 = .ok (.iload_n 1, 1) := by decide +kernel
theorem d_Mo_letter_13 : decode prog_12_method_12_code 13 = .ok (.bipush 97, 2) := by decide +kernel
theorem d_Mo_letter_15 : decode prog_12_method_12_code 15 = .ok (.bipush 104, 2) := by decide +kernel
theorem d_Mo_letter_17 : decode prog_12_method_12_code 17 = .ok (.invokestatic 72, 3) := by decide +kernel
theorem d_Mo_letter_20 : decode prog_12_method_12_code 20 = .ok (.ifCond .ne 13, 3) := by decide +kernel
theorem d_Mo_letter_23 : decode prog_12_method_12_code 23 = .ok (.aload_n 0, 1) := by decide +kernel
theorem d_Mo_letter_24 : decode prog_12_method_12_code 24 = .ok (.aload_n 0, 1) := by decide +kernel
theorem d_Mo_letter_25 : decode prog_12_method_12_code 25 = .ok (.getfield 87, 3) := by decide +kernel
theorem d_Mo_letter_28 : decode prog_12_method_12_code 28 = .ok (.invokevirtual 97, 3) := by decide +kernel
theorem d_Mo_letter_31 : decode prog_12_method_12_code 31 = .ok (.iconst 0, 1) := by decide +kernel
theorem d_Mo_letter_32 : decode prog_12_method_12_code 32 = .ok (.ireturn, 1) := by decide +kernel
theorem d_Mo_letter_33 : decode prog_12_method_12_code 33 = .ok (.aload_n 0, 1) := by decide +kernel
theorem d_Mo_letter_34 : decode prog_12_method_12_code 34 = .ok (.dup, 1) := by decide +kernel
theorem d_Mo_letter_35 : decode prog_12_method_12_code 35 = .ok (.getfield 87, 3) := by decide +kernel
theorem d_Mo_letter_38 : decode prog_12_method_12_code 38 = .ok (.iconst 1, 1) := by decide +kernel
theorem d_Mo_letter_39 : decode prog_12_method_12_code 39 = .ok (.iadd, 1) := by decide +kernel
theorem d_Mo_letter_40 : decode prog_12_method_12_code 40 = .ok (.putfield 87, 3) := by decide +kernel
theorem d_Mo_letter_43 : decode prog_12_method_12_code 43 = .ok (.iload_n 1, 1) := by decide +kernel
theorem d_Mo_letter_44 : decode prog_12_method_12_code 44 = .ok (.bipush 97, 2) := by decide +kernel
theorem d_Mo_letter_46 : decode prog_12_method_12_code 46 = .ok (.isub, 1) := by decide +kernel
theorem d_Mo_letter_47 : decode prog_12_method_12_code 47 = .ok (.ireturn, 1) := by decide +kernel
def B_Mo_letter_23  (x0 : Nat) (S : gS) : Option (Int32 × gS) := Option.bind (gI S x0 10 4) (fun v1 => Option.bind (gOb S x0 10) (fun fs3 => Option.bind (D_Mo_fail x0 v1 S) (fun S2 => some (0, S2))))
set_option maxRecDepth 100000 in
set_option maxHeartbeats 4000000 in
theorem w_Mo_letter_23 {D : va_G} {cT : Nat → ClassId} {H0 : Heap} {l : Launch} {p : Program} {e : Env} {s : State} {m : MethodId} {args : Array Value} {below : List Frame} {meth : Method} {c : Code} {S0 : gS} {S' : gS} {r : Int32} (Y : gY D cT H0 p s m args meth c prog_12_method_12_code 2 "PlanTextModel" 1 22 S0 (Option.some Jvm.ClassFile.FieldType.int))  (x0 : Nat) (S : gS) (hden : B_Mo_letter_23  x0 S = some (r, S')) {ls : Array Slot} (hl : lv_has ls 2 [(0, va_rf (some x0))]) : gV D cT H0 p l e (gRm 1 22 S0) s m args below meth c (gQ D cT H0 below S0 S' (.inr (some (.int r))) s) S0 S (F0 m 23 ls []) := by
  obtain ⟨X, hZ, hex, hr, hE⟩ := id Y
  have hx := X.1
  have hb := X.2.1
  unfold B_Mo_letter_23 at hden
  refine gV.lift (fun _ _ _ _ => g_aload_n hx hb d_Mo_letter_23 rfl (lv_at hl 0 rfl)) ?_
  refine gV.lift (fun _ _ _ _ => g_aload_n hx hb d_Mo_letter_24 rfl (lv_at hl 0 rfl)) ?_
  replace hden := gb hden
  obtain ⟨v1, hv, hden⟩ := hden
  refine r_getI X cl_Mo (k := 4) hv (by decide) q_769 d_Mo_letter_25 ?_
  replace hden := gb hden
  obtain ⟨fs3, ho, hden⟩ := hden
  replace hden := gb hden
  obtain ⟨S2, hz, hden⟩ := hden
  refine g_callV (As := [.int v1]) (rest := []) X hZ (c_Mo_fail hz) cl_Mo (gOb_spec ho) q_875 q_5 q_872 q_874 qp_29 ⟨by decide, by decide, by show _ = some 1; decide +kernel⟩ ⟨by decide, by decide⟩ hl.1 (Nat.le_of_ble_eq_true rfl) d_Mo_letter_28 rfl rfl ?_
  refine gV.lift (fun _ _ _ _ => lv_iconst (v := 0) hx hb d_Mo_letter_31 (by decide)) ?_
  obtain ⟨rfl, rfl⟩ := gpi hden
  exact g_iret X hr d_Mo_letter_32
def D_Mo_letter (h0 : Nat) (S : gS) : Option (Int32 × gS) := Option.bind (gOb S h0 10) (fun fs3 => gB2 (D_Mo_see h0 S) (fun v2 S1 => Option.bind (gI S1 h0 10 5) (fun v4 => (if v4 = 0 then gB2 (D_Mo_in v2 97 104 S1) (fun v7 S6 => (if v7 = 0 then B_Mo_letter_23  h0 S6 else Option.bind (gI S6 h0 10 4) (fun v9 => Option.bind (gPut S6 h0 10 4 (.int (v9 + 1))) (fun S10 => some ((v2 - 97), S10))))) else B_Mo_letter_23  h0 S1))))
set_option maxRecDepth 100000 in
set_option maxHeartbeats 4000000 in
theorem c_Mo_letter {D : va_G} {cT : Nat → ClassId} {H0 : Heap} {l : Launch} {S : gS} {S' : gS} {h0 : Nat} {r : Int32} (hden : D_Mo_letter h0 S = some (r, S')) : gM D cT H0 l y_Mo_letter (Cond.code y_Mo_letter prog_12_method_12_code 2 (Option.some Jvm.ClassFile.FieldType.int)) 1 22 [va_rf (some h0)] S S' (.inr (some (.int r))) := by
  refine gM.ofV (by decide) ?_
  intro p e s m args below meth c s₁ B hml ea X hZ hex hr hE
  subst ea
  have Y : gY D cT H0 p s m _ meth c prog_12_method_12_code 2 "PlanTextModel" 1 22 S (Option.some Jvm.ClassFile.FieldType.int) := ⟨X, hZ, hex, hr, hE⟩
  have hx := X.1
  have hb := X.2.1
  have hl := lv_entry ([va_rf (some h0)]) (n := 2) (Nat.le_of_ble_eq_true rfl)
  rw [lg_entry_eq]
  generalize (lg_sl ([va_rf (some h0)]) ++ List.replicate (2 - (lg_sl ([va_rf (some h0)])).length) Slot.unset).toArray = ls at hl ⊢
  have hl : lv_has ls 2 [(0, va_rf (some h0))] := hl
  unfold D_Mo_letter at hden
  refine gV.lift (fun _ _ _ _ => g_aload_n hx hb d_Mo_letter_0 rfl (lv_at hl 0 rfl)) ?_
  replace hden := gb hden
  obtain ⟨fs3, ho, hden⟩ := hden
  replace hden := gb2 hden
  obtain ⟨v2, S1, hz, hden⟩ := hden
  refine g_callV (As := []) (rest := []) X hZ (c_Mo_see hz) cl_Mo (gOb_spec ho) q_871 q_5 q_868 q_870 qp_28 ⟨by decide, by decide, by show _ = some 0; decide +kernel⟩ ⟨by decide, by decide⟩ hl.1 (Nat.le_of_ble_eq_true rfl) d_Mo_letter_1 rfl rfl ?_
  refine gV.liftS (nL := 2) (lv' := [(1, .int v2), (0, va_rf (some h0))]) (fun _ _ _ _ => lv_istore_n hx hb d_Mo_letter_4 rfl hl (by decide) rfl) (fun ls hl => ?_)
  refine gV.lift (fun _ _ _ _ => g_aload_n hx hb d_Mo_letter_5 rfl (lv_at hl 1 rfl)) ?_
  replace hden := gb hden
  obtain ⟨v4, hv, hden⟩ := hden
  refine r_getI X cl_Mo (k := 5) hv (by decide) q_770 d_Mo_letter_6 ?_
  refine gV.lift2 (fun _ _ _ _ => lv_if_ne (tgt := 23) hx hb d_Mo_letter_9 (by decide)) (fun hc5 => ?_) (fun hc5 => ?_)
  · replace hden := gin hc5 hden
    exact w_Mo_letter_23 Y  h0 S1 hden (lv_sub hl [1] rfl)
  · replace hden := gip hc5 hden
    refine gV.lift (fun _ _ _ _ => lv_iload_n hx hb d_Mo_letter_12 rfl (lv_at hl 0 rfl)) ?_
    refine gV.lift (fun _ _ _ _ => lv_bipush (v := 97) hx hb d_Mo_letter_13 (by decide)) ?_
    refine gV.lift (fun _ _ _ _ => lv_bipush (v := 104) hx hb d_Mo_letter_15 (by decide)) ?_
    replace hden := gb2 hden
    obtain ⟨v7, S6, hz, hden⟩ := hden
    refine g_callS (As := [.int v2, .int 97, .int 104]) (rest := []) X hZ (c_Mo_in hz) q_855 q_5 q_853 q_854 ⟨by decide, by decide, by show _ = some 3; decide +kernel⟩ ⟨by decide, by decide⟩ hl.1 (Nat.le_of_ble_eq_true rfl) d_Mo_letter_17 rfl rfl ?_
    refine gV.lift2 (fun _ _ _ _ => lv_if_ne (tgt := 33) hx hb d_Mo_letter_20 (by decide)) (fun hc8 => ?_) (fun hc8 => ?_)
    · replace hden := gin hc8 hden
      refine gV.lift (fun _ _ _ _ => g_aload_n hx hb d_Mo_letter_33 rfl (lv_at hl 1 rfl)) ?_
      refine gV.lift (fun _ _ _ _ => lv_dup hx hb d_Mo_letter_34 g_cat) ?_
      replace hden := gb hden
      obtain ⟨v9, hv, hden⟩ := hden
      refine r_getI X cl_Mo (k := 4) hv (by decide) q_769 d_Mo_letter_35 ?_
      refine gV.lift (fun _ _ _ _ => lv_iconst (v := 1) hx hb d_Mo_letter_38 (by decide)) ?_
      refine gV.lift (fun _ _ _ _ => lv_iadd hx hb d_Mo_letter_39) ?_
      replace hden := gb hden
      obtain ⟨S10, hv, hden⟩ := hden
      refine r_put X cl_Mo (k := 4) hv (by decide) q_769 rfl rfl rfl d_Mo_letter_40 ?_
      refine gV.lift (fun _ _ _ _ => lv_iload_n hx hb d_Mo_letter_43 rfl (lv_at hl 0 rfl)) ?_
      refine gV.lift (fun _ _ _ _ => lv_bipush (v := 97) hx hb d_Mo_letter_44 (by decide)) ?_
      refine gV.lift (fun _ _ _ _ => lv_isub hx hb d_Mo_letter_46) ?_
      obtain ⟨rfl, rfl⟩ := gpi hden
      exact g_iret X hr d_Mo_letter_47
    · replace hden := gip hc8 hden
      exact w_Mo_letter_23 Y  h0 S6 hden (lv_sub hl [1] rfl)
/-! PlanTextModel.hours(I)V -/
abbrev y_Mo_hours : MethodName := ⟨"PlanTextModel", "hours", "(I)V"⟩
theorem d_Mo_hours_0 : decode prog_12_method_13_code 0 = .ok (.aload_n 0, 1) := by decide +kernel
theorem d_Mo_hours_1 : decode prog_12_method_13_code 1 = .ok (.getfield 36, 3) := by decide +kernel
theorem d_Mo_hours_4 : decode prog_12_method_13_code 4 = .ok (.iload_n 1, 1) := by decide +kernel
theorem d_Mo_hours_5 : decode prog_12_method_13_code 5 = .ok (.aload_n 0, 1) := by decide +kernel
theorem d_Mo_hours_6 : decode prog_12_method_13_code 6 = .ok (.iconst 0, 1) := by decide +kernel
theorem d_Mo_hours_7 : decode prog_12_method_13_code 7 = .ok (.bipush 23, 2) := by decide +kernel
theorem d_Mo_hours_9 : decode prog_12_method_13_code 9 = .ok (.invokevirtual 105, 3) := by decide +kernel
theorem d_Mo_hours_12 : decode prog_12_method_13_code 12 = .ok (.iastore, 1) := by decide +kernel
theorem d_Mo_hours_13 : decode prog_12_method_13_code 13 = .ok (.aload_n 0, 1) := by decide +kernel
theorem d_Mo_hours_14 : decode prog_12_method_13_code 14 = .ok (.bipush 45, 2) := by decide +kernel
theorem d_Mo_hours_16 : decode prog_12_method_13_code 16 = .ok (.invokevirtual 109, 3) := by decide +kernel
theorem d_Mo_hours_19 : decode prog_12_method_13_code 19 = .ok (.aload_n 0, 1) := by decide +kernel
theorem d_Mo_hours_20 : decode prog_12_method_13_code 20 = .ok (.getfield 39, 3) := by decide +kernel
theorem d_Mo_hours_23 : decode prog_12_method_13_code 23 = .ok (.iload_n 1, 1) := by decide +kernel
theorem d_Mo_hours_24 : decode prog_12_method_13_code 24 = .ok (.aload_n 0, 1) := by decide +kernel
theorem d_Mo_hours_25 : decode prog_12_method_13_code 25 = .ok (.iconst 0, 1) := by decide +kernel
theorem d_Mo_hours_26 : decode prog_12_method_13_code 26 = .ok (.bipush 23, 2) := by decide +kernel
theorem d_Mo_hours_28 : decode prog_12_method_13_code 28 = .ok (.invokevirtual 105, 3) := by decide +kernel
theorem d_Mo_hours_31 : decode prog_12_method_13_code 31 = .ok (.iastore, 1) := by decide +kernel
theorem d_Mo_hours_32 : decode prog_12_method_13_code 32 = .ok (.aload_n 0, 1) := by decide +kernel
theorem d_Mo_hours_33 : decode prog_12_method_13_code 33 = .ok (.bipush 93, 2) := by decide +kernel
theorem d_Mo_hours_35 : decode prog_12_method_13_code 35 = .ok (.invokevirtual 109, 3) := by decide +kernel
theorem d_Mo_hours_38 : decode prog_12_method_13_code 38 = .ok (.return_, 1) := by decide +kernel
def D_Mo_hours (h0 : Nat) (p0 : Int32) (S : gS) : Option gS := Option.bind (gRf S h0 10 15) (fun r1 => Option.bind (gOb S h0 10) (fun fs4 => gB2 (D_Mo_number h0 0 23 S) (fun v3 S2 => Option.bind r1 (fun a5 => Option.bind (gSI S2 a5 0 p0 v3) (fun S6 => Option.bind (gOb S6 h0 10) (fun fs8 => Option.bind (D_Mo_expect h0 45 S6) (fun S7 => Option.bind (gRf S7 h0 10 16) (fun r9 => Option.bind (gOb S7 h0 10) (fun fs12 => gB2 (D_Mo_number h0 0 23 S7) (fun v11 S10 => Option.bind r9 (fun a13 => Option.bind (gSI S10 a13 0 p0 v11) (fun S14 => Option.bind (gOb S14 h0 10) (fun fs16 => Option.bind (D_Mo_expect h0 93 S14) (fun S15 => some S15))))))))))))))
set_option maxRecDepth 100000 in
set_option maxHeartbeats 4000000 in
theorem c_Mo_hours {D : va_G} {cT : Nat → ClassId} {H0 : Heap} {l : Launch} {S : gS} {S' : gS} {h0 : Nat} {p0 : Int32} (hden : D_Mo_hours h0 p0 S = some S') : gM D cT H0 l y_Mo_hours (Cond.code y_Mo_hours prog_12_method_13_code 2 (Option.none : Option Jvm.ClassFile.FieldType)) 3 67 [va_rf (some h0), .int p0] S S' (.inr none) := by
  refine gM.ofV (by decide) ?_
  intro p e s m args below meth c s₁ B hml ea X hZ hex hr hE
  subst ea
  have Y : gY D cT H0 p s m _ meth c prog_12_method_13_code 2 "PlanTextModel" 3 67 S (Option.none : Option Jvm.ClassFile.FieldType) := ⟨X, hZ, hex, hr, hE⟩
  have hx := X.1
  have hb := X.2.1
  have hl := lv_entry ([va_rf (some h0), .int p0]) (n := 2) (Nat.le_of_ble_eq_true rfl)
  rw [lg_entry_eq]
  generalize (lg_sl ([va_rf (some h0), .int p0]) ++ List.replicate (2 - (lg_sl ([va_rf (some h0), .int p0])).length) Slot.unset).toArray = ls at hl ⊢
  have hl : lv_has ls 2 [(0, va_rf (some h0)), (1, .int p0)] := hl
  unfold D_Mo_hours at hden
  refine gV.lift (fun _ _ _ _ => g_aload_n hx hb d_Mo_hours_0 rfl (lv_at hl 0 rfl)) ?_
  replace hden := gb hden
  obtain ⟨r1, hv, hden⟩ := hden
  refine r_getR X cl_Mo (k := 15) hv (by decide) q_780 d_Mo_hours_1 ?_
  refine gV.lift (fun _ _ _ _ => lv_iload_n hx hb d_Mo_hours_4 rfl (lv_at hl 1 rfl)) ?_
  refine gV.lift (fun _ _ _ _ => g_aload_n hx hb d_Mo_hours_5 rfl (lv_at hl 0 rfl)) ?_
  refine gV.lift (fun _ _ _ _ => lv_iconst (v := 0) hx hb d_Mo_hours_6 (by decide)) ?_
  refine gV.lift (fun _ _ _ _ => lv_bipush (v := 23) hx hb d_Mo_hours_7 (by decide)) ?_
  replace hden := gb hden
  obtain ⟨fs4, ho, hden⟩ := hden
  replace hden := gb2 hden
  obtain ⟨v3, S2, hz, hden⟩ := hden
  refine g_callV (As := [.int 0, .int 23]) (rest := [.int p0, va_rf r1]) X hZ (c_Mo_number hz) cl_Mo (gOb_spec ho) q_883 q_5 q_880 q_882 qp_31 ⟨by decide, by decide, by show _ = some 2; decide +kernel⟩ ⟨by decide, by decide⟩ hl.1 (by cases r1 <;> exact Nat.le_of_ble_eq_true rfl) d_Mo_hours_9 rfl rfl ?_
  replace hden := gb hden
  obtain ⟨a5, rfl, hden⟩ := hden
  replace hden := gb hden
  obtain ⟨S6, hv, hden⟩ := hden
  refine r_iast X (t := 0) rfl hv d_Mo_hours_12 ?_
  refine gV.lift (fun _ _ _ _ => g_aload_n hx hb d_Mo_hours_13 rfl (lv_at hl 0 rfl)) ?_
  refine gV.lift (fun _ _ _ _ => lv_bipush (v := 45) hx hb d_Mo_hours_14 (by decide)) ?_
  replace hden := gb hden
  obtain ⟨fs8, ho, hden⟩ := hden
  replace hden := gb hden
  obtain ⟨S7, hz, hden⟩ := hden
  refine g_callV (As := [.int 45]) (rest := []) X hZ (c_Mo_expect hz) cl_Mo (gOb_spec ho) q_891 q_5 q_888 q_890 qp_33 ⟨by decide, by decide, by show _ = some 1; decide +kernel⟩ ⟨by decide, by decide⟩ hl.1 (Nat.le_of_ble_eq_true rfl) d_Mo_hours_16 rfl rfl ?_
  refine gV.lift (fun _ _ _ _ => g_aload_n hx hb d_Mo_hours_19 rfl (lv_at hl 0 rfl)) ?_
  replace hden := gb hden
  obtain ⟨r9, hv, hden⟩ := hden
  refine r_getR X cl_Mo (k := 16) hv (by decide) q_781 d_Mo_hours_20 ?_
  refine gV.lift (fun _ _ _ _ => lv_iload_n hx hb d_Mo_hours_23 rfl (lv_at hl 1 rfl)) ?_
  refine gV.lift (fun _ _ _ _ => g_aload_n hx hb d_Mo_hours_24 rfl (lv_at hl 0 rfl)) ?_
  refine gV.lift (fun _ _ _ _ => lv_iconst (v := 0) hx hb d_Mo_hours_25 (by decide)) ?_
  refine gV.lift (fun _ _ _ _ => lv_bipush (v := 23) hx hb d_Mo_hours_26 (by decide)) ?_
  replace hden := gb hden
  obtain ⟨fs12, ho, hden⟩ := hden
  replace hden := gb2 hden
  obtain ⟨v11, S10, hz, hden⟩ := hden
  refine g_callV (As := [.int 0, .int 23]) (rest := [.int p0, va_rf r9]) X hZ (c_Mo_number hz) cl_Mo (gOb_spec ho) q_883 q_5 q_880 q_882 qp_31 ⟨by decide, by decide, by show _ = some 2; decide +kernel⟩ ⟨by decide, by decide⟩ hl.1 (by cases r9 <;> exact Nat.le_of_ble_eq_true rfl) d_Mo_hours_28 rfl rfl ?_
  replace hden := gb hden
  obtain ⟨a13, rfl, hden⟩ := hden
  replace hden := gb hden
  obtain ⟨S14, hv, hden⟩ := hden
  refine r_iast X (t := 0) rfl hv d_Mo_hours_31 ?_
  refine gV.lift (fun _ _ _ _ => g_aload_n hx hb d_Mo_hours_32 rfl (lv_at hl 0 rfl)) ?_
  refine gV.lift (fun _ _ _ _ => lv_bipush (v := 93) hx hb d_Mo_hours_33 (by decide)) ?_
  replace hden := gb hden
  obtain ⟨fs16, ho, hden⟩ := hden
  replace hden := gb hden
  obtain ⟨S15, hz, hden⟩ := hden
  refine g_callV (As := [.int 93]) (rest := []) X hZ (c_Mo_expect hz) cl_Mo (gOb_spec ho) q_891 q_5 q_888 q_890 qp_33 ⟨by decide, by decide, by show _ = some 1; decide +kernel⟩ ⟨by decide, by decide⟩ hl.1 (Nat.le_of_ble_eq_true rfl) d_Mo_hours_35 rfl rfl ?_
  obtain rfl := gsi hden
  exact g_vret X hr d_Mo_hours_38
