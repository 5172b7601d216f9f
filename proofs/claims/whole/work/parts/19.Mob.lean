/-! PlanTextModel.oneNeed(I)V -/
abbrev y_Mo_oneNeed : MethodName := ⟨"PlanTextModel", "oneNeed", "(I)V"⟩
theorem d_Mo_oneNeed_0 : decode prog_12_method_14_code 0 = .ok (.aload_n 0, 1) := by decide +kernel
theorem d_Mo_oneNeed_1 : decode prog_12_method_14_code 1 = .ok (.getfield 48, 3) := by decide +kernel
theorem d_Mo_oneNeed_4 : decode prog_12_method_14_code 4 = .ok (.iload_n 1, 1) := by decide +kernel
theorem d_Mo_oneNeed_5 : decode prog_12_method_14_code 5 = .ok (.aload_n 0, 1) := by decide +kernel
theorem d_Mo_oneNeed_6 : decode prog_12_method_14_code 6 = .ok (.iconst 1, 1) := by decide +kernel
theorem d_Mo_oneNeed_7 : decode prog_12_method_14_code 7 = .ok (.bipush 9, 2) := by decide +kernel
theorem d_Mo_oneNeed_9 : decode prog_12_method_14_code 9 = .ok (.invokevirtual 105, 3) := by decide +kernel
theorem d_Mo_oneNeed_12 : decode prog_12_method_14_code 12 = .ok (.iastore, 1) := by decide +kernel
theorem d_Mo_oneNeed_13 : decode prog_12_method_14_code 13 = .ok (.aload_n 0, 1) := by decide +kernel
theorem d_Mo_oneNeed_14 : decode prog_12_method_14_code 14 = .ok (.getfield 48, 3) := by decide +kernel
theorem d_Mo_oneNeed_17 : decode prog_12_method_14_code 17 = .ok (.iload_n 1, 1) := by decide +kernel
theorem d_Mo_oneNeed_18 : decode prog_12_method_14_code 18 = .ok (.iconst 1, 1) := by decide +kernel
theorem d_Mo_oneNeed_19 : decode prog_12_method_14_code 19 = .ok (.iadd, 1) := by decide +kernel
theorem d_Mo_oneNeed_20 : decode prog_12_method_14_code 20 = .ok (.aload_n 0, 1) := by decide +kernel
theorem d_Mo_oneNeed_21 : decode prog_12_method_14_code 21 = .ok (.invokevirtual 112, 3) := by decide +kernel
theorem d_Mo_oneNeed_24 : decode prog_12_method_14_code 24 = .ok (.iastore, 1) := by decide +kernel
theorem d_Mo_oneNeed_25 : decode prog_12_method_14_code 25 = .ok (.aload_n 0, 1) := by decide +kernel
theorem d_Mo_oneNeed_26 : decode prog_12_method_14_code 26 = .ok (.getfield 48, 3) := by decide +kernel
theorem d_Mo_oneNeed_29 : decode prog_12_method_14_code 29 = .ok (.iload_n 1, 1) := by decide +kernel
theorem d_Mo_oneNeed_30 : decode prog_12_method_14_code 30 = .ok (.iconst 2, 1) := by decide +kernel
theorem d_Mo_oneNeed_31 : decode prog_12_method_14_code 31 = .ok (.iadd, 1) := by decide +kernel
theorem d_Mo_oneNeed_32 : decode prog_12_method_14_code 32 = .ok (.iconst (-1), 1) := by decide +kernel
theorem d_Mo_oneNeed_33 : decode prog_12_method_14_code 33 = .ok (.iastore, 1) := by decide +kernel
theorem d_Mo_oneNeed_34 : decode prog_12_method_14_code 34 = .ok (.aload_n 0, 1) := by decide +kernel
theorem d_Mo_oneNeed_35 : decode prog_12_method_14_code 35 = .ok (.getfield 48, 3) := by decide +kernel
theorem d_Mo_oneNeed_38 : decode prog_12_method_14_code 38 = .ok (.iload_n 1, 1) := by decide +kernel
theorem d_Mo_oneNeed_39 : decode prog_12_method_14_code 39 = .ok (.iconst 3, 1) := by decide +kernel
theorem d_Mo_oneNeed_40 : decode prog_12_method_14_code 40 = .ok (.iadd, 1) := by decide +kernel
theorem d_Mo_oneNeed_41 : decode prog_12_method_14_code 41 = .ok (.iconst (-1), 1) := by decide +kernel
theorem d_Mo_oneNeed_42 : decode prog_12_method_14_code 42 = .ok (.iastore, 1) := by decide +kernel
theorem d_Mo_oneNeed_43 : decode prog_12_method_14_code 43 = .ok (.aload_n 0, 1) := by decide +kernel
theorem d_Mo_oneNeed_44 : decode prog_12_method_14_code 44 = .ok (.getfield 48, 3) := by decide +kernel
theorem d_Mo_oneNeed_47 : decode prog_12_method_14_code 47 = .ok (.iload_n 1, 1) := by decide +kernel
theorem d_Mo_oneNeed_48 : decode prog_12_method_14_code 48 = .ok (.iconst 4, 1) := by decide +kernel
theorem d_Mo_oneNeed_49 : decode prog_12_method_14_code 49 = .ok (.iadd, 1) := by decide +kernel
theorem d_Mo_oneNeed_50 : decode prog_12_method_14_code 50 = .ok (.iconst (-1), 1) := by decide +kernel
theorem d_Mo_oneNeed_51 : decode prog_12_method_14_code 51 = .ok (.iastore, 1) := by decide +kernel
theorem d_Mo_oneNeed_52 : decode prog_12_method_14_code 52 = .ok (.iconst 2, 1) := by decide +kernel
theorem d_Mo_oneNeed_53 : decode prog_12_method_14_code 53 = .ok (.istore_n 2, 1) := by decide +kernel
theorem d_Mo_oneNeed_54 : decode prog_12_method_14_code 54 = .ok (.iload_n 2, 1) := by decide +kernel
theorem d_Mo_oneNeed_55 : decode prog_12_method_14_code 55 = .ok (.iconst 4, 1) := by decide +kernel
theorem d_Mo_oneNeed_56 : decode prog_12_method_14_code 56 = .ok (.if_icmp .ge 82, 3) := by decide +kernel
theorem d_Mo_oneNeed_59 : decode prog_12_method_14_code 59 = .ok (.aload_n 0, 1) := by decide +kernel
theorem d_Mo_oneNeed_60 : decode prog_12_method_14_code 60 = .ok (.bipush 47, 2) := by decide +kernel
theorem d_Mo_oneNeed_62 : decode prog_12_method_14_code 62 = .ok (.invokevirtual 115, 3) := by decide +kernel
theorem d_Mo_oneNeed_65 : decode prog_12_method_14_code 65 = .ok (.ifCond .eq 73, 3) := by decide +kernel
theorem d_Mo_oneNeed_68 : decode prog_12_method_14_code 68 = .ok (.aload_n 0, 1) := by decide +kernel
theorem d_Mo_oneNeed_69 : decode prog_12_method_14_code 69 = .ok (.invokevirtual 93, 3) := by decide +kernel
theorem d_Mo_oneNeed_72 : decode prog_12_method_14_code 72 = .ok (.pop, 1) := by decide +kernel
theorem d_Mo_oneNeed_73 : decode prog_12_method_14_code 73 = .ok (.aload_n 0, 1) := by decide +kernel
theorem d_Mo_oneNeed_74 : decode prog_12_method_14_code 74 = .ok (.getfield 87, 3) := by decide +kernel
theorem d_Mo_oneNeed_77 : decode prog_12_method_14_code 77 = .ok (.istore_n 3, 1) := by decide +kernel
theorem d_Mo_oneNeed_78 : decode prog_12_method_14_code 78 = .ok (.aload_n 0, 1) := by decide +kernel
theorem d_Mo_oneNeed_79 : decode prog_12_method_14_code 79 = .ok (.invokevirtual 112, 3) := by decide +kernel
theorem d_Mo_oneNeed_82 : decode prog_12_method_14_code 82 = .ok (.istore 4, 2) := by decide +kernel
theorem d_Mo_oneNeed_84 : decode prog_12_method_14_code 84 = .ok (.aload_n 0, 1) := by decide +kernel
theorem d_Mo_oneNeed_85 : decode prog_12_method_14_code 85 = .ok (.getfield 83, 3) := by decide +kernel
theorem d_Mo_oneNeed_88 : decode prog_12_method_14_code 88 = .ok (.ifCond .ne 34, 3) := by decide +kernel
theorem d_Mo_oneNeed_91 : decode prog_12_method_14_code 91 = .ok (.iload 4, 2) := by decide +kernel
theorem d_Mo_oneNeed_93 : decode prog_12_method_14_code 93 = .ok (.aload_n 0, 1) := by decide +kernel
theorem d_Mo_oneNeed_94 : decode prog_12_method_14_code 94 = .ok (.getfield 48, 3) := by decide +kernel
theorem d_Mo_oneNeed_97 : decode prog_12_method_14_code 97 = .ok (.iload_n 1, 1) := by decide +kernel
theorem d_Mo_oneNeed_98 : decode prog_12_method_14_code 98 = .ok (.iconst 1, 1) := by decide +kernel
theorem d_Mo_oneNeed_99 : decode prog_12_method_14_code 99 = .ok (.iadd, 1) := by decide +kernel
theorem d_Mo_oneNeed_100 : decode prog_12_method_14_code 100 = .ok (.iaload, 1) := by decide +kernel
theorem d_Mo_oneNeed_101 : decode prog_12_method_14_code 101 = .ok (.if_icmp .eq 16, 3) := by decide +kernel
theorem d_Mo_oneNeed_104 : decode prog_12_method_14_code 104 = .ok (.iload 4, 2) := by decide +kernel
theorem d_Mo_oneNeed_106 : decode prog_12_method_14_code 106 = .ok (.aload_n 0, 1) := by decide +kernel
theorem d_Mo_oneNeed_107 : decode prog_12_method_14_code 107 = .ok (.getfield 48, 3) := by decide +kernel
theorem d_Mo_oneNeed_110 : decode prog_12_method_14_code 110 = .ok (.iload_n 1, 1) := by decide +kernel
theorem d_Mo_oneNeed_111 : decode prog_12_method_14_code 111 = .ok (.iconst 2, 1) := by decide +kernel
theorem d_Mo_oneNeed_112 : decode prog_12_method_14_code 112 = .ok (.iadd, 1) := by decide +kernel
theorem d_Mo_oneNeed_113 : decode prog_12_method_14_code 113 = .ok (.iaload, 1) := by decide +kernel
theorem d_Mo_oneNeed_114 : decode prog_12_method_14_code 114 = .ok (.if_icmp .ne 8, 3) := by decide +kernel
theorem d_Mo_oneNeed_117 : decode prog_12_method_14_code 117 = .ok (.aload_n 0, 1) := by decide +kernel
theorem d_Mo_oneNeed_118 : decode prog_12_method_14_code 118 = .ok (.iload_n 3, 1) := by decide +kernel
theorem d_Mo_oneNeed_119 : decode prog_12_method_14_code 119 = .ok (.invokevirtual 97, 3) := by decide +kernel
theorem d_Mo_oneNeed_122 : decode prog_12_method_14_code 122 = .ok (.aload_n 0, 1) := by decide +kernel
theorem d_Mo_oneNeed_123 : decode prog_12_method_14_code 123 = .ok (.getfield 48, 3) := by decide +kernel
theorem d_Mo_oneNeed_126 : decode prog_12_method_14_code 126 = .ok (.iload_n 1, 1) := by decide +kernel
theorem d_Mo_oneNeed_127 : decode prog_12_method_14_code 127 = .ok (.iload_n 2, 1) := by decide +kernel
theorem d_Mo_oneNeed_128 : decode prog_12_method_14_code 128 = .ok (.iadd, 1) := by decide +kernel
theorem d_Mo_oneNeed_129 : decode prog_12_method_14_code 129 = .ok (.iload 4, 2) := by decide +kernel
theorem d_Mo_oneNeed_131 : decode prog_12_method_14_code 131 = .ok (.iastore, 1) := by decide +kernel
theorem d_Mo_oneNeed_132 : decode prog_12_method_14_code 132 = .ok (.iinc 2 1, 3) := by decide +kernel
theorem d_Mo_oneNeed_135 : decode prog_12_method_14_code 135 = .ok (.goto (-81), 3) := by decide +kernel
theorem d_Mo_oneNeed_138 : decode prog_12_method_14_code 138 = .ok (.aload_n 0, 1) := by decide +kernel
theorem d_Mo_oneNeed_139 : decode prog_12_method_14_code 139 = .ok (.bipush 126, 2) := by decide +kernel
theorem d_Mo_oneNeed_141 : decode prog_12_method_14_code 141 = .ok (.invokevirtual 115, 3) := by decide +kernel
theorem d_Mo_oneNeed_144 : decode prog_12_method_14_code 144 = .ok (.ifCond .eq 18, 3) := by decide +kernel
theorem d_Mo_oneNeed_147 : decode prog_12_method_14_code 147 = .ok (.aload_n 0, 1) := by decide +kernel
theorem d_Mo_oneNeed_148 : decode prog_12_method_14_code 148 = .ok (.getfield 48, 3) := by decide +kernel
theorem d_Mo_oneNeed_151 : decode prog_12_method_14_code 151 = .ok (.iload_n 1, 1) := by decide +kernel
theorem d_Mo_oneNeed_152 : decode prog_12_method_14_code 152 = .ok (.iconst 4, 1) := by decide +kernel
theorem d_Mo_oneNeed_153 : decode prog_12_method_14_code 153 = .ok (.iadd, 1) := by decide +kernel
theorem d_Mo_oneNeed_154 : decode prog_12_method_14_code 154 = .ok (.aload_n 0, 1) := by decide +kernel
theorem d_Mo_oneNeed_155 : decode prog_12_method_14_code 155 = .ok (.iconst 1, 1) := by decide +kernel
theorem d_Mo_oneNeed_156 : decode prog_12_method_14_code 156 = .ok (.bipush 99, 2) := by decide +kernel
theorem d_Mo_oneNeed_158 : decode prog_12_method_14_code 158 = .ok (.invokevirtual 105, 3) := by decide +kernel
theorem d_Mo_oneNeed_161 : decode prog_12_method_14_code 161 = .ok (.iastore, 1) := by decide +kernel
theorem d_Mo_oneNeed_162 : decode prog_12_method_14_code 162 = .ok (.return_, 1) := by decide +kernel
def B_Mo_oneNeed_162   (S : gS) : Option gS := some S
set_option maxRecDepth 100000 in
set_option maxHeartbeats 4000000 in
theorem w_Mo_oneNeed_162 {D : va_G} {cT : Nat → ClassId} {H0 : Heap} {l : Launch} {p : Program} {e : Env} {s : State} {m : MethodId} {args : Array Value} {below : List Frame} {meth : Method} {c : Code} {S0 : gS} {S' : gS} (Y : gY D cT H0 p s m args meth c prog_12_method_14_code 5 "PlanTextModel" 3 67 S0 (Option.none : Option Jvm.ClassFile.FieldType))   (S : gS) (hden : B_Mo_oneNeed_162   S = some S') {ls : Array Slot} (hl : lv_has ls 5 []) : gV D cT H0 p l e (gRm 3 67 S0) s m args below meth c (gQ D cT H0 below S0 S' (.inr none) s) S0 S (F0 m 162 ls []) := by
  obtain ⟨X, hZ, hex, hr, hE⟩ := id Y
  have hx := X.1
  have hb := X.2.1
  unfold B_Mo_oneNeed_162 at hden
  obtain rfl := gsi hden
  exact g_vret X hr d_Mo_oneNeed_162
def B_Mo_oneNeed_138  (x0 : Nat) (x1 : Int32) (S : gS) : Option gS := Option.bind (gOb S x0 10) (fun fs3 => gB2 (D_Mo_goesOn x0 126 S) (fun v2 S1 => (if v2 = 0 then B_Mo_oneNeed_162  S1 else Option.bind (gRf S1 x0 10 19) (fun r5 => Option.bind (gOb S1 x0 10) (fun fs8 => gB2 (D_Mo_number x0 1 99 S1) (fun v7 S6 => Option.bind r5 (fun a9 => Option.bind (gSI S6 a9 0 (x1 + 4) v7) (fun S10 => B_Mo_oneNeed_162  S10))))))))
set_option maxRecDepth 100000 in
set_option maxHeartbeats 4000000 in
theorem w_Mo_oneNeed_138 {D : va_G} {cT : Nat → ClassId} {H0 : Heap} {l : Launch} {p : Program} {e : Env} {s : State} {m : MethodId} {args : Array Value} {below : List Frame} {meth : Method} {c : Code} {S0 : gS} {S' : gS} (Y : gY D cT H0 p s m args meth c prog_12_method_14_code 5 "PlanTextModel" 3 67 S0 (Option.none : Option Jvm.ClassFile.FieldType))  (x0 : Nat) (x1 : Int32) (S : gS) (hden : B_Mo_oneNeed_138  x0 x1 S = some S') {ls : Array Slot} (hl : lv_has ls 5 [(0, va_rf (some x0)), (1, .int x1)]) : gV D cT H0 p l e (gRm 3 67 S0) s m args below meth c (gQ D cT H0 below S0 S' (.inr none) s) S0 S (F0 m 138 ls []) := by
  obtain ⟨X, hZ, hex, hr, hE⟩ := id Y
  have hx := X.1
  have hb := X.2.1
  unfold B_Mo_oneNeed_138 at hden
  refine gV.lift (fun _ _ _ _ => g_aload_n hx hb d_Mo_oneNeed_138 rfl (lv_at hl 0 rfl)) ?_
  refine gV.lift (fun _ _ _ _ => lv_bipush (v := 126) hx hb d_Mo_oneNeed_139 (by decide)) ?_
  replace hden := gb hden
  obtain ⟨fs3, ho, hden⟩ := hden
  replace hden := gb2 hden
  obtain ⟨v2, S1, hz, hden⟩ := hden
  refine g_callV (As := [.int 126]) (rest := []) X hZ (c_Mo_goesOn hz) cl_Mo (gOb_spec ho) q_895 q_5 q_892 q_894 qp_34 ⟨by decide, by decide, by show _ = some 1; decide +kernel⟩ ⟨by decide, by decide⟩ hl.1 (Nat.le_of_ble_eq_true rfl) d_Mo_oneNeed_141 rfl rfl ?_
  refine gV.lift2 (fun _ _ _ _ => lv_if_eq (tgt := 162) hx hb d_Mo_oneNeed_144 (by decide)) (fun hc4 => ?_) (fun hc4 => ?_)
  · replace hden := gip hc4 hden
    exact w_Mo_oneNeed_162 Y  S1 hden (lv_sub hl [] rfl)
  · replace hden := gin hc4 hden
    refine gV.lift (fun _ _ _ _ => g_aload_n hx hb d_Mo_oneNeed_147 rfl (lv_at hl 0 rfl)) ?_
    replace hden := gb hden
    obtain ⟨r5, hv, hden⟩ := hden
    refine r_getR X cl_Mo (k := 19) hv (by decide) q_784 d_Mo_oneNeed_148 ?_
    refine gV.lift (fun _ _ _ _ => lv_iload_n hx hb d_Mo_oneNeed_151 rfl (lv_at hl 1 rfl)) ?_
    refine gV.lift (fun _ _ _ _ => lv_iconst (v := 4) hx hb d_Mo_oneNeed_152 (by decide)) ?_
    refine gV.lift (fun _ _ _ _ => lv_iadd hx hb d_Mo_oneNeed_153) ?_
    refine gV.lift (fun _ _ _ _ => g_aload_n hx hb d_Mo_oneNeed_154 rfl (lv_at hl 0 rfl)) ?_
    refine gV.lift (fun _ _ _ _ => lv_iconst (v := 1) hx hb d_Mo_oneNeed_155 (by decide)) ?_
    refine gV.lift (fun _ _ _ _ => lv_bipush (v := 99) hx hb d_Mo_oneNeed_156 (by decide)) ?_
    replace hden := gb hden
    obtain ⟨fs8, ho, hden⟩ := hden
    replace hden := gb2 hden
    obtain ⟨v7, S6, hz, hden⟩ := hden
    refine g_callV (As := [.int 1, .int 99]) (rest := [.int (x1 + 4), va_rf r5]) X hZ (c_Mo_number hz) cl_Mo (gOb_spec ho) q_883 q_5 q_880 q_882 qp_31 ⟨by decide, by decide, by show _ = some 2; decide +kernel⟩ ⟨by decide, by decide⟩ hl.1 (by cases r5 <;> exact Nat.le_of_ble_eq_true rfl) d_Mo_oneNeed_158 rfl rfl ?_
    replace hden := gb hden
    obtain ⟨a9, rfl, hden⟩ := hden
    replace hden := gb hden
    obtain ⟨S10, hv, hden⟩ := hden
    refine r_iast X (t := 0) rfl hv d_Mo_oneNeed_161 ?_
    exact w_Mo_oneNeed_162 Y  S10 hden (lv_sub hl [] rfl)
def B_Mo_oneNeed_122 (k54 : Nat → Int32 → Int32 → gS → Option gS) (x0 : Nat) (x1 : Int32) (x2 : Int32) (x4 : Int32) (S : gS) : Option gS := Option.bind (gRf S x0 10 19) (fun r1 => Option.bind r1 (fun a2 => Option.bind (gSI S a2 0 (x1 + x2) x4) (fun S3 => k54 x0 x1 (x2 + 1) S3)))
set_option maxRecDepth 100000 in
set_option maxHeartbeats 4000000 in
theorem w_Mo_oneNeed_122 {D : va_G} {cT : Nat → ClassId} {H0 : Heap} {l : Launch} {p : Program} {e : Env} {s : State} {m : MethodId} {args : Array Value} {below : List Frame} {meth : Method} {c : Code} {S0 : gS} {S' : gS} (Y : gY D cT H0 p s m args meth c prog_12_method_14_code 5 "PlanTextModel" 3 67 S0 (Option.none : Option Jvm.ClassFile.FieldType)) {k54 : Nat → Int32 → Int32 → gS → Option gS} (hk54 : ∀ (x0 : Nat) (x1 : Int32) (x2 : Int32) (S : gS) (ls : Array Slot), k54 x0 x1 x2 S = some S' → lv_has ls 5 [(0, va_rf (some x0)), (1, .int x1), (2, .int x2)] → gV D cT H0 p l e (gRm 3 67 S0) s m args below meth c (gQ D cT H0 below S0 S' (.inr none) s) S0 S (F0 m 54 ls [])) (x0 : Nat) (x1 : Int32) (x2 : Int32) (x4 : Int32) (S : gS) (hden : B_Mo_oneNeed_122 k54 x0 x1 x2 x4 S = some S') {ls : Array Slot} (hl : lv_has ls 5 [(0, va_rf (some x0)), (1, .int x1), (2, .int x2), (4, .int x4)]) : gV D cT H0 p l e (gRm 3 67 S0) s m args below meth c (gQ D cT H0 below S0 S' (.inr none) s) S0 S (F0 m 122 ls []) := by
  obtain ⟨X, hZ, hex, hr, hE⟩ := id Y
  have hx := X.1
  have hb := X.2.1
  unfold B_Mo_oneNeed_122 at hden
  refine gV.lift (fun _ _ _ _ => g_aload_n hx hb d_Mo_oneNeed_122 rfl (lv_at hl 0 rfl)) ?_
  replace hden := gb hden
  obtain ⟨r1, hv, hden⟩ := hden
  refine r_getR X cl_Mo (k := 19) hv (by decide) q_784 d_Mo_oneNeed_123 ?_
  refine gV.lift (fun _ _ _ _ => lv_iload_n hx hb d_Mo_oneNeed_126 rfl (lv_at hl 1 rfl)) ?_
  refine gV.lift (fun _ _ _ _ => lv_iload_n hx hb d_Mo_oneNeed_127 rfl (lv_at hl 2 rfl)) ?_
  refine gV.lift (fun _ _ _ _ => lv_iadd hx hb d_Mo_oneNeed_128) ?_
  refine gV.lift (fun _ _ _ _ => lv_iload hx hb d_Mo_oneNeed_129 (lv_at hl 3 rfl)) ?_
  replace hden := gb hden
  obtain ⟨a2, rfl, hden⟩ := hden
  replace hden := gb hden
  obtain ⟨S3, hv, hden⟩ := hden
  refine r_iast X (t := 0) rfl hv d_Mo_oneNeed_131 ?_
  refine gV.liftS (nL := 5) (lv' := [(2, .int (x2 + 1)), (0, va_rf (some x0)), (1, .int x1), (4, .int x4)]) (fun _ _ _ _ => lv_iinc (v := (x2 + 1)) hx hb d_Mo_oneNeed_132 hl (k := 2) rfl rfl (by decide) rfl) (fun ls hl => ?_)
  refine gV.lift (fun _ _ _ _ => lv_goto (tgt := 54) hx hb d_Mo_oneNeed_135 (by decide)) ?_
  exact hk54 x0 x1 (x2 + 1) S3 _ hden (lv_sub hl [1, 2, 0] rfl)
def B_Mo_oneNeed_117 (k54 : Nat → Int32 → Int32 → gS → Option gS) (x0 : Nat) (x1 : Int32) (x2 : Int32) (x3 : Int32) (x4 : Int32) (S : gS) : Option gS := Option.bind (gOb S x0 10) (fun fs2 => Option.bind (D_Mo_fail x0 x3 S) (fun S1 => B_Mo_oneNeed_122 k54 x0 x1 x2 x4 S1))
set_option maxRecDepth 100000 in
set_option maxHeartbeats 4000000 in
theorem w_Mo_oneNeed_117 {D : va_G} {cT : Nat → ClassId} {H0 : Heap} {l : Launch} {p : Program} {e : Env} {s : State} {m : MethodId} {args : Array Value} {below : List Frame} {meth : Method} {c : Code} {S0 : gS} {S' : gS} (Y : gY D cT H0 p s m args meth c prog_12_method_14_code 5 "PlanTextModel" 3 67 S0 (Option.none : Option Jvm.ClassFile.FieldType)) {k54 : Nat → Int32 → Int32 → gS → Option gS} (hk54 : ∀ (x0 : Nat) (x1 : Int32) (x2 : Int32) (S : gS) (ls : Array Slot), k54 x0 x1 x2 S = some S' → lv_has ls 5 [(0, va_rf (some x0)), (1, .int x1), (2, .int x2)] → gV D cT H0 p l e (gRm 3 67 S0) s m args below meth c (gQ D cT H0 below S0 S' (.inr none) s) S0 S (F0 m 54 ls [])) (x0 : Nat) (x1 : Int32) (x2 : Int32) (x3 : Int32) (x4 : Int32) (S : gS) (hden : B_Mo_oneNeed_117 k54 x0 x1 x2 x3 x4 S = some S') {ls : Array Slot} (hl : lv_has ls 5 [(0, va_rf (some x0)), (1, .int x1), (2, .int x2), (3, .int x3), (4, .int x4)]) : gV D cT H0 p l e (gRm 3 67 S0) s m args below meth c (gQ D cT H0 below S0 S' (.inr none) s) S0 S (F0 m 117 ls []) := by
  obtain ⟨X, hZ, hex, hr, hE⟩ := id Y
  have hx := X.1
  have hb := X.2.1
  unfold B_Mo_oneNeed_117 at hden
  refine gV.lift (fun _ _ _ _ => g_aload_n hx hb d_Mo_oneNeed_117 rfl (lv_at hl 0 rfl)) ?_
  refine gV.lift (fun _ _ _ _ => lv_iload_n hx hb d_Mo_oneNeed_118 rfl (lv_at hl 3 rfl)) ?_
  replace hden := gb hden
  obtain ⟨fs2, ho, hden⟩ := hden
  replace hden := gb hden
  obtain ⟨S1, hz, hden⟩ := hden
  refine g_callV (As := [.int x3]) (rest := []) X hZ (c_Mo_fail hz) cl_Mo (gOb_spec ho) q_875 q_5 q_872 q_874 qp_29 ⟨by decide, by decide, by show _ = some 1; decide +kernel⟩ ⟨by decide, by decide⟩ hl.1 (Nat.le_of_ble_eq_true rfl) d_Mo_oneNeed_119 rfl rfl ?_
  exact w_Mo_oneNeed_122 Y hk54 x0 x1 x2 x4 S1 hden (lv_sub hl [0, 1, 2, 4] rfl)
def B_Mo_oneNeed_54 (k54 : Nat → Int32 → Int32 → gS → Option gS) (x0 : Nat) (x1 : Int32) (x2 : Int32) (S : gS) : Option gS := (if 4 ≤ x2 then B_Mo_oneNeed_138  x0 x1 S else Option.bind (gOb S x0 10) (fun fs4 => gB2 (D_Mo_goesOn x0 47 S) (fun v3 S2 => (if v3 = 0 then B_Mo_oneNeed_138  x0 x1 S2 else Option.bind (gOb S2 x0 10) (fun fs8 => gB2 (D_Mo_see x0 S2) (fun v7 S6 => Option.bind (gI S6 x0 10 4) (fun v9 => Option.bind (gOb S6 x0 10) (fun fs12 => gB2 (D_Mo_letter x0 S6) (fun v11 S10 => Option.bind (gI S10 x0 10 5) (fun v13 => (if v13 = 0 then Option.bind (gRf S10 x0 10 19) (fun r15 => Option.bind r15 (fun a16 => Option.bind (gAI S10 a16 0 (x1 + 1)) (fun v17 => (if v11 = v17 then B_Mo_oneNeed_117 k54 x0 x1 x2 v9 v11 S10 else Option.bind (gRf S10 x0 10 19) (fun r19 => Option.bind r19 (fun a20 => Option.bind (gAI S10 a20 0 (x1 + 2)) (fun v21 => (if v11 = v21 then B_Mo_oneNeed_117 k54 x0 x1 x2 v9 v11 S10 else B_Mo_oneNeed_122 k54 x0 x1 x2 v11 S10)))))))) else B_Mo_oneNeed_122 k54 x0 x1 x2 v11 S10)))))))))))
set_option maxRecDepth 100000 in
set_option maxHeartbeats 4000000 in
theorem w_Mo_oneNeed_54 {D : va_G} {cT : Nat → ClassId} {H0 : Heap} {l : Launch} {p : Program} {e : Env} {s : State} {m : MethodId} {args : Array Value} {below : List Frame} {meth : Method} {c : Code} {S0 : gS} {S' : gS} (Y : gY D cT H0 p s m args meth c prog_12_method_14_code 5 "PlanTextModel" 3 67 S0 (Option.none : Option Jvm.ClassFile.FieldType)) {k54 : Nat → Int32 → Int32 → gS → Option gS} (hk54 : ∀ (x0 : Nat) (x1 : Int32) (x2 : Int32) (S : gS) (ls : Array Slot), k54 x0 x1 x2 S = some S' → lv_has ls 5 [(0, va_rf (some x0)), (1, .int x1), (2, .int x2)] → gV D cT H0 p l e (gRm 3 67 S0) s m args below meth c (gQ D cT H0 below S0 S' (.inr none) s) S0 S (F0 m 54 ls [])) (x0 : Nat) (x1 : Int32) (x2 : Int32) (S : gS) (hden : B_Mo_oneNeed_54 k54 x0 x1 x2 S = some S') {ls : Array Slot} (hl : lv_has ls 5 [(0, va_rf (some x0)), (1, .int x1), (2, .int x2)]) : gV D cT H0 p l e (gRm 3 67 S0) s m args below meth c (gQ D cT H0 below S0 S' (.inr none) s) S0 S (F0 m 54 ls []) := by
  obtain ⟨X, hZ, hex, hr, hE⟩ := id Y
  have hx := X.1
  have hb := X.2.1
  unfold B_Mo_oneNeed_54 at hden
  refine gV.lift (fun _ _ _ _ => lv_iload_n hx hb d_Mo_oneNeed_54 rfl (lv_at hl 2 rfl)) ?_
  refine gV.lift (fun _ _ _ _ => lv_iconst (v := 4) hx hb d_Mo_oneNeed_55 (by decide)) ?_
  refine gV.lift2 (fun _ _ _ _ => lv_icmp_ge (tgt := 138) hx hb d_Mo_oneNeed_56 (by decide)) (fun hc1 => ?_) (fun hc1 => ?_)
  · replace hden := gip hc1 hden
    exact w_Mo_oneNeed_138 Y  x0 x1 S hden (lv_sub hl [0, 1] rfl)
  · replace hden := gin hc1 hden
    refine gV.lift (fun _ _ _ _ => g_aload_n hx hb d_Mo_oneNeed_59 rfl (lv_at hl 0 rfl)) ?_
    refine gV.lift (fun _ _ _ _ => lv_bipush (v := 47) hx hb d_Mo_oneNeed_60 (by decide)) ?_
    replace hden := gb hden
    obtain ⟨fs4, ho, hden⟩ := hden
    replace hden := gb2 hden
    obtain ⟨v3, S2, hz, hden⟩ := hden
    refine g_callV (As := [.int 47]) (rest := []) X hZ (c_Mo_goesOn hz) cl_Mo (gOb_spec ho) q_895 q_5 q_892 q_894 qp_34 ⟨by decide, by decide, by show _ = some 1; decide +kernel⟩ ⟨by decide, by decide⟩ hl.1 (Nat.le_of_ble_eq_true rfl) d_Mo_oneNeed_62 rfl rfl ?_
    refine gV.lift2 (fun _ _ _ _ => lv_if_eq (tgt := 138) hx hb d_Mo_oneNeed_65 (by decide)) (fun hc5 => ?_) (fun hc5 => ?_)
    · replace hden := gip hc5 hden
      exact w_Mo_oneNeed_138 Y  x0 x1 S2 hden (lv_sub hl [0, 1] rfl)
    · replace hden := gin hc5 hden
      refine gV.lift (fun _ _ _ _ => g_aload_n hx hb d_Mo_oneNeed_68 rfl (lv_at hl 0 rfl)) ?_
      replace hden := gb hden
      obtain ⟨fs8, ho, hden⟩ := hden
      replace hden := gb2 hden
      obtain ⟨v7, S6, hz, hden⟩ := hden
      refine g_callV (As := []) (rest := []) X hZ (c_Mo_see hz) cl_Mo (gOb_spec ho) q_871 q_5 q_868 q_870 qp_28 ⟨by decide, by decide, by show _ = some 0; decide +kernel⟩ ⟨by decide, by decide⟩ hl.1 (Nat.le_of_ble_eq_true rfl) d_Mo_oneNeed_69 rfl rfl ?_
      refine gV.lift (fun _ _ _ _ => lv_pop hx hb d_Mo_oneNeed_72 rfl) ?_
      refine gV.lift (fun _ _ _ _ => g_aload_n hx hb d_Mo_oneNeed_73 rfl (lv_at hl 0 rfl)) ?_
      replace hden := gb hden
      obtain ⟨v9, hv, hden⟩ := hden
      refine r_getI X cl_Mo (k := 4) hv (by decide) q_769 d_Mo_oneNeed_74 ?_
      refine gV.liftS (nL := 5) (lv' := [(3, .int v9), (0, va_rf (some x0)), (1, .int x1), (2, .int x2)]) (fun _ _ _ _ => lv_istore_n hx hb d_Mo_oneNeed_77 rfl hl (by decide) rfl) (fun ls hl => ?_)
      refine gV.lift (fun _ _ _ _ => g_aload_n hx hb d_Mo_oneNeed_78 rfl (lv_at hl 1 rfl)) ?_
      replace hden := gb hden
      obtain ⟨fs12, ho, hden⟩ := hden
      replace hden := gb2 hden
      obtain ⟨v11, S10, hz, hden⟩ := hden
      refine g_callV (As := []) (rest := []) X hZ (c_Mo_letter hz) cl_Mo (gOb_spec ho) q_911 q_5 q_908 q_910 qp_38 ⟨by decide, by decide, by show _ = some 0; decide +kernel⟩ ⟨by decide, by decide⟩ hl.1 (Nat.le_of_ble_eq_true rfl) d_Mo_oneNeed_79 rfl rfl ?_
      refine gV.liftS (nL := 5) (lv' := [(4, .int v11), (3, .int v9), (0, va_rf (some x0)), (1, .int x1), (2, .int x2)]) (fun _ _ _ _ => lv_istore hx hb d_Mo_oneNeed_82 hl (by decide) rfl) (fun ls hl => ?_)
      refine gV.lift (fun _ _ _ _ => g_aload_n hx hb d_Mo_oneNeed_84 rfl (lv_at hl 2 rfl)) ?_
      replace hden := gb hden
      obtain ⟨v13, hv, hden⟩ := hden
      refine r_getI X cl_Mo (k := 5) hv (by decide) q_770 d_Mo_oneNeed_85 ?_
      refine gV.lift2 (fun _ _ _ _ => lv_if_ne (tgt := 122) hx hb d_Mo_oneNeed_88 (by decide)) (fun hc14 => ?_) (fun hc14 => ?_)
      · replace hden := gin hc14 hden
        exact w_Mo_oneNeed_122 Y hk54 x0 x1 x2 v11 S10 hden (lv_sub hl [2, 3, 4, 0] rfl)
      · replace hden := gip hc14 hden
        refine gV.lift (fun _ _ _ _ => lv_iload hx hb d_Mo_oneNeed_91 (lv_at hl 0 rfl)) ?_
        refine gV.lift (fun _ _ _ _ => g_aload_n hx hb d_Mo_oneNeed_93 rfl (lv_at hl 2 rfl)) ?_
        replace hden := gb hden
        obtain ⟨r15, hv, hden⟩ := hden
        refine r_getR X cl_Mo (k := 19) hv (by decide) q_784 d_Mo_oneNeed_94 ?_
        refine gV.lift (fun _ _ _ _ => lv_iload_n hx hb d_Mo_oneNeed_97 rfl (lv_at hl 3 rfl)) ?_
        refine gV.lift (fun _ _ _ _ => lv_iconst (v := 1) hx hb d_Mo_oneNeed_98 (by decide)) ?_
        refine gV.lift (fun _ _ _ _ => lv_iadd hx hb d_Mo_oneNeed_99) ?_
        replace hden := gb hden
        obtain ⟨a16, rfl, hden⟩ := hden
        replace hden := gb hden
        obtain ⟨v17, hv, hden⟩ := hden
        refine r_iald X (t := 0) rfl hv d_Mo_oneNeed_100 ?_
        refine gV.lift2 (fun _ _ _ _ => lv_icmp_eq (tgt := 117) hx hb d_Mo_oneNeed_101 (by decide)) (fun hc18 => ?_) (fun hc18 => ?_)
        · replace hden := gip hc18 hden
          exact w_Mo_oneNeed_117 Y hk54 x0 x1 x2 v9 v11 S10 hden (lv_sub hl [2, 3, 4, 1, 0] rfl)
        · replace hden := gin hc18 hden
          refine gV.lift (fun _ _ _ _ => lv_iload hx hb d_Mo_oneNeed_104 (lv_at hl 0 rfl)) ?_
          refine gV.lift (fun _ _ _ _ => g_aload_n hx hb d_Mo_oneNeed_106 rfl (lv_at hl 2 rfl)) ?_
          replace hden := gb hden
          obtain ⟨r19, hv, hden⟩ := hden
          refine r_getR X cl_Mo (k := 19) hv (by decide) q_784 d_Mo_oneNeed_107 ?_
          refine gV.lift (fun _ _ _ _ => lv_iload_n hx hb d_Mo_oneNeed_110 rfl (lv_at hl 3 rfl)) ?_
          refine gV.lift (fun _ _ _ _ => lv_iconst (v := 2) hx hb d_Mo_oneNeed_111 (by decide)) ?_
          refine gV.lift (fun _ _ _ _ => lv_iadd hx hb d_Mo_oneNeed_112) ?_
          replace hden := gb hden
          obtain ⟨a20, rfl, hden⟩ := hden
          replace hden := gb hden
          obtain ⟨v21, hv, hden⟩ := hden
          refine r_iald X (t := 0) rfl hv d_Mo_oneNeed_113 ?_
          refine gV.lift2 (fun _ _ _ _ => lv_icmp_ne (tgt := 122) hx hb d_Mo_oneNeed_114 (by decide)) (fun hc22 => ?_) (fun hc22 => ?_)
          · replace hden := gin hc22 hden
            exact w_Mo_oneNeed_122 Y hk54 x0 x1 x2 v11 S10 hden (lv_sub hl [2, 3, 4, 0] rfl)
          · replace hden := gip hc22 hden
            exact w_Mo_oneNeed_117 Y hk54 x0 x1 x2 v9 v11 S10 hden (lv_sub hl [2, 3, 4, 1, 0] rfl)
def L_Mo_oneNeed_54  : Nat → Nat → Int32 → Int32 → gS → Option gS
  | 0 => fun _ _ _ _ => none
  | n + 1 => fun x0 x1 x2 S => B_Mo_oneNeed_54  (L_Mo_oneNeed_54  n) x0 x1 x2 S
theorem wL_Mo_oneNeed_54 {D : va_G} {cT : Nat → ClassId} {H0 : Heap} {l : Launch} {p : Program} {e : Env} {s : State} {m : MethodId} {args : Array Value} {below : List Frame} {meth : Method} {c : Code} {S0 : gS} {S' : gS} (Y : gY D cT H0 p s m args meth c prog_12_method_14_code 5 "PlanTextModel" 3 67 S0 (Option.none : Option Jvm.ClassFile.FieldType))  : ∀ (n : Nat) (x0 : Nat) (x1 : Int32) (x2 : Int32) (S : gS) (ls : Array Slot), L_Mo_oneNeed_54  n x0 x1 x2 S = some S' → lv_has ls 5 [(0, va_rf (some x0)), (1, .int x1), (2, .int x2)] → gV D cT H0 p l e (gRm 3 67 S0) s m args below meth c (gQ D cT H0 below S0 S' (.inr none) s) S0 S (F0 m 54 ls []) := by
  intro n
  induction n with
  | zero => intro x0 x1 x2 S ls h hl; cases h
  | succ n ih => intro x0 x1 x2 S ls h hl; exact w_Mo_oneNeed_54 Y ih x0 x1 x2 S h hl
def D_Mo_oneNeed (h0 : Nat) (p0 : Int32) (S : gS) : Option gS := Option.bind (gRf S h0 10 19) (fun r1 => Option.bind (gOb S h0 10) (fun fs4 => gB2 (D_Mo_number h0 1 9 S) (fun v3 S2 => Option.bind r1 (fun a5 => Option.bind (gSI S2 a5 0 p0 v3) (fun S6 => Option.bind (gRf S6 h0 10 19) (fun r7 => Option.bind (gOb S6 h0 10) (fun fs10 => gB2 (D_Mo_letter h0 S6) (fun v9 S8 => Option.bind r7 (fun a11 => Option.bind (gSI S8 a11 0 (p0 + 1) v9) (fun S12 => Option.bind (gRf S12 h0 10 19) (fun r13 => Option.bind r13 (fun a14 => Option.bind (gSI S12 a14 0 (p0 + 2) (-1)) (fun S15 => Option.bind (gRf S15 h0 10 19) (fun r16 => Option.bind r16 (fun a17 => Option.bind (gSI S15 a17 0 (p0 + 3) (-1)) (fun S18 => Option.bind (gRf S18 h0 10 19) (fun r19 => Option.bind r19 (fun a20 => Option.bind (gSI S18 a20 0 (p0 + 4) (-1)) (fun S21 => L_Mo_oneNeed_54  gF h0 p0 2 S21)))))))))))))))))))
set_option maxRecDepth 100000 in
set_option maxHeartbeats 4000000 in
theorem c_Mo_oneNeed {D : va_G} {cT : Nat → ClassId} {H0 : Heap} {l : Launch} {S : gS} {S' : gS} {h0 : Nat} {p0 : Int32} (hden : D_Mo_oneNeed h0 p0 S = some S') : gM D cT H0 l y_Mo_oneNeed (Cond.code y_Mo_oneNeed prog_12_method_14_code 5 (Option.none : Option Jvm.ClassFile.FieldType)) 3 67 [va_rf (some h0), .int p0] S S' (.inr none) := by
  refine gM.ofV (by decide) ?_
  intro p e s m args below meth c s₁ B hml ea X hZ hex hr hE
  subst ea
  have Y : gY D cT H0 p s m _ meth c prog_12_method_14_code 5 "PlanTextModel" 3 67 S (Option.none : Option Jvm.ClassFile.FieldType) := ⟨X, hZ, hex, hr, hE⟩
  have hx := X.1
  have hb := X.2.1
  have hl := lv_entry ([va_rf (some h0), .int p0]) (n := 5) (Nat.le_of_ble_eq_true rfl)
  rw [lg_entry_eq]
  generalize (lg_sl ([va_rf (some h0), .int p0]) ++ List.replicate (5 - (lg_sl ([va_rf (some h0), .int p0])).length) Slot.unset).toArray = ls at hl ⊢
  have hl : lv_has ls 5 [(0, va_rf (some h0)), (1, .int p0)] := hl
  unfold D_Mo_oneNeed at hden
  refine gV.lift (fun _ _ _ _ => g_aload_n hx hb d_Mo_oneNeed_0 rfl (lv_at hl 0 rfl)) ?_
  replace hden := gb hden
  obtain ⟨r1, hv, hden⟩ := hden
  refine r_getR X cl_Mo (k := 19) hv (by decide) q_784 d_Mo_oneNeed_1 ?_
  refine gV.lift (fun _ _ _ _ => lv_iload_n hx hb d_Mo_oneNeed_4 rfl (lv_at hl 1 rfl)) ?_
  refine gV.lift (fun _ _ _ _ => g_aload_n hx hb d_Mo_oneNeed_5 rfl (lv_at hl 0 rfl)) ?_
  refine gV.lift (fun _ _ _ _ => lv_iconst (v := 1) hx hb d_Mo_oneNeed_6 (by decide)) ?_
  refine gV.lift (fun _ _ _ _ => lv_bipush (v := 9) hx hb d_Mo_oneNeed_7 (by decide)) ?_
  replace hden := gb hden
  obtain ⟨fs4, ho, hden⟩ := hden
  replace hden := gb2 hden
  obtain ⟨v3, S2, hz, hden⟩ := hden
  refine g_callV (As := [.int 1, .int 9]) (rest := [.int p0, va_rf r1]) X hZ (c_Mo_number hz) cl_Mo (gOb_spec ho) q_883 q_5 q_880 q_882 qp_31 ⟨by decide, by decide, by show _ = some 2; decide +kernel⟩ ⟨by decide, by decide⟩ hl.1 (by cases r1 <;> exact Nat.le_of_ble_eq_true rfl) d_Mo_oneNeed_9 rfl rfl ?_
  replace hden := gb hden
  obtain ⟨a5, rfl, hden⟩ := hden
  replace hden := gb hden
  obtain ⟨S6, hv, hden⟩ := hden
  refine r_iast X (t := 0) rfl hv d_Mo_oneNeed_12 ?_
  refine gV.lift (fun _ _ _ _ => g_aload_n hx hb d_Mo_oneNeed_13 rfl (lv_at hl 0 rfl)) ?_
  replace hden := gb hden
  obtain ⟨r7, hv, hden⟩ := hden
  refine r_getR X cl_Mo (k := 19) hv (by decide) q_784 d_Mo_oneNeed_14 ?_
  refine gV.lift (fun _ _ _ _ => lv_iload_n hx hb d_Mo_oneNeed_17 rfl (lv_at hl 1 rfl)) ?_
  refine gV.lift (fun _ _ _ _ => lv_iconst (v := 1) hx hb d_Mo_oneNeed_18 (by decide)) ?_
  refine gV.lift (fun _ _ _ _ => lv_iadd hx hb d_Mo_oneNeed_19) ?_
  refine gV.lift (fun _ _ _ _ => g_aload_n hx hb d_Mo_oneNeed_20 rfl (lv_at hl 0 rfl)) ?_
  replace hden := gb hden
  obtain ⟨fs10, ho, hden⟩ := hden
  replace hden := gb2 hden
  obtain ⟨v9, S8, hz, hden⟩ := hden
  refine g_callV (As := []) (rest := [.int (p0 + 1), va_rf r7]) X hZ (c_Mo_letter hz) cl_Mo (gOb_spec ho) q_911 q_5 q_908 q_910 qp_38 ⟨by decide, by decide, by show _ = some 0; decide +kernel⟩ ⟨by decide, by decide⟩ hl.1 (by cases r7 <;> exact Nat.le_of_ble_eq_true rfl) d_Mo_oneNeed_21 rfl rfl ?_
  replace hden := gb hden
  obtain ⟨a11, rfl, hden⟩ := hden
  replace hden := gb hden
  obtain ⟨S12, hv, hden⟩ := hden
  refine r_iast X (t := 0) rfl hv d_Mo_oneNeed_24 ?_
  refine gV.lift (fun _ _ _ _ => g_aload_n hx hb d_Mo_oneNeed_25 rfl (lv_at hl 0 rfl)) ?_
  replace hden := gb hden
  obtain ⟨r13, hv, hden⟩ := hden
  refine r_getR X cl_Mo (k := 19) hv (by decide) q_784 d_Mo_oneNeed_26 ?_
  refine gV.lift (fun _ _ _ _ => lv_iload_n hx hb d_Mo_oneNeed_29 rfl (lv_at hl 1 rfl)) ?_
  refine gV.lift (fun _ _ _ _ => lv_iconst (v := 2) hx hb d_Mo_oneNeed_30 (by decide)) ?_
  refine gV.lift (fun _ _ _ _ => lv_iadd hx hb d_Mo_oneNeed_31) ?_
  refine gV.lift (fun _ _ _ _ => lv_iconst (v := (-1)) hx hb d_Mo_oneNeed_32 (by decide)) ?_
  replace hden := gb hden
  obtain ⟨a14, rfl, hden⟩ := hden
  replace hden := gb hden
  obtain ⟨S15, hv, hden⟩ := hden
  refine r_iast X (t := 0) rfl hv d_Mo_oneNeed_33 ?_
  refine gV.lift (fun _ _ _ _ => g_aload_n hx hb d_Mo_oneNeed_34 rfl (lv_at hl 0 rfl)) ?_
  replace hden := gb hden
  obtain ⟨r16, hv, hden⟩ := hden
  refine r_getR X cl_Mo (k := 19) hv (by decide) q_784 d_Mo_oneNeed_35 ?_
  refine gV.lift (fun _ _ _ _ => lv_iload_n hx hb d_Mo_oneNeed_38 rfl (lv_at hl 1 rfl)) ?_
  refine gV.lift (fun _ _ _ _ => lv_iconst (v := 3) hx hb d_Mo_oneNeed_39 (by decide)) ?_
  refine gV.lift (fun _ _ _ _ => lv_iadd hx hb d_Mo_oneNeed_40) ?_
  refine gV.lift (fun _ _ _ _ => lv_iconst (v := (-1)) hx hb d_Mo_oneNeed_41 (by decide)) ?_
  replace hden := gb hden
  obtain ⟨a17, rfl, hden⟩ := hden
  replace hden := gb hden
  obtain ⟨S18, hv, hden⟩ := hden
  refine r_iast X (t := 0) rfl hv d_Mo_oneNeed_42 ?_
  refine gV.lift (fun _ _ _ _ => g_aload_n hx hb d_Mo_oneNeed_43 rfl (lv_at hl 0 rfl)) ?_
  replace hden := gb hden
  obtain ⟨r19, hv, hden⟩ := hden
  refine r_getR X cl_Mo (k := 19) hv (by decide) q_784 d_Mo_oneNeed_44 ?_
  refine gV.lift (fun _ _ _ _ => lv_iload_n hx hb d_Mo_oneNeed_47 rfl (lv_at hl 1 rfl)) ?_
  refine gV.lift (fun _ _ _ _ => lv_iconst (v := 4) hx hb d_Mo_oneNeed_48 (by decide)) ?_
  refine gV.lift (fun _ _ _ _ => lv_iadd hx hb d_Mo_oneNeed_49) ?_
  refine gV.lift (fun _ _ _ _ => lv_iconst (v := (-1)) hx hb d_Mo_oneNeed_50 (by decide)) ?_
  replace hden := gb hden
  obtain ⟨a20, rfl, hden⟩ := hden
  replace hden := gb hden
  obtain ⟨S21, hv, hden⟩ := hden
  refine r_iast X (t := 0) rfl hv d_Mo_oneNeed_51 ?_
  refine gV.lift (fun _ _ _ _ => lv_iconst (v := 2) hx hb d_Mo_oneNeed_52 (by decide)) ?_
  refine gV.liftS (nL := 5) (lv' := [(2, .int 2), (0, va_rf (some h0)), (1, .int p0)]) (fun _ _ _ _ => lv_istore_n hx hb d_Mo_oneNeed_53 rfl hl (by decide) rfl) (fun ls hl => ?_)
  exact wL_Mo_oneNeed_54 Y  gF h0 p0 2 S21 _ hden (lv_sub hl [1, 2, 0] rfl)
/-! PlanTextModel.needsOf(I)V -/
abbrev y_Mo_needsOf : MethodName := ⟨"PlanTextModel", "needsOf", "(I)V"⟩
theorem d_Mo_needsOf_0 : decode prog_12_method_15_code 0 = .ok (.aload_n 0, 1) := by decide +kernel
theorem d_Mo_needsOf_1 : decode prog_12_method_15_code 1 = .ok (.getfield 45, 3) := by decide +kernel
theorem d_Mo_needsOf_4 : decode prog_12_method_15_code 4 = .ok (.iload_n 1, 1) := by decide +kernel
theorem d_Mo_needsOf_5 : decode prog_12_method_15_code 5 = .ok (.iconst 0, 1) := by decide +kernel
theorem d_Mo_needsOf_6 : decode prog_12_method_15_code 6 = .ok (.iastore, 1) := by decide +kernel
theorem d_Mo_needsOf_7 : decode prog_12_method_15_code 7 = .ok (.aload_n 0, 1) := by decide +kernel
theorem d_Mo_needsOf_8 : decode prog_12_method_15_code 8 = .ok (.getfield 83, 3) := by decide +kernel
theorem d_Mo_needsOf_11 : decode prog_12_method_15_code 11 = .ok (.ifCond .ne 7, 3) := by decide +kernel
theorem d_Mo_needsOf_14 : decode prog_12_method_15_code 14 = .ok (.iconst 1, 1) := by decide +kernel
theorem d_Mo_needsOf_15 : decode prog_12_method_15_code 15 = .ok (.goto 4, 3) := by decide +kernel
theorem d_Mo_needsOf_18 : decode prog_12_method_15_code 18 = .ok (.iconst 0, 1) := by decide +kernel
theorem d_Mo_needsOf_19 : decode prog_12_method_15_code 19 = .ok (.istore_n 2, 1) := by decide +kernel
theorem d_Mo_needsOf_20 : decode prog_12_method_15_code 20 = .ok (.iload_n 2, 1) := by decide +kernel
theorem d_Mo_needsOf_21 : decode prog_12_method_15_code 21 = .ok (.ifCond .eq 65, 3) := by decide +kernel
theorem d_Mo_needsOf_24 : decode prog_12_method_15_code 24 = .ok (.aload_n 0, 1) := by decide +kernel
theorem d_Mo_needsOf_25 : decode prog_12_method_15_code 25 = .ok (.bipush 25, 2) := by decide +kernel
theorem d_Mo_needsOf_27 : decode prog_12_method_15_code 27 = .ok (.iload_n 1, 1) := by decide +kernel
theorem d_Mo_needsOf_28 : decode prog_12_method_15_code 28 = .ok (.imul, 1) := by decide +kernel
theorem d_Mo_needsOf_29 : decode prog_12_method_15_code 29 = .ok (.iconst 5, 1) := by decide +kernel
theorem d_Mo_needsOf_30 : decode prog_12_method_15_code 30 = .ok (.aload_n 0, 1) := by decide +kernel
theorem d_Mo_needsOf_31 : decode prog_12_method_15_code 31 = .ok (.getfield 45, 3) := by decide +kernel
theorem d_Mo_needsOf_34 : decode prog_12_method_15_code 34 = .ok (.iload_n 1, 1) := by decide +kernel
theorem d_Mo_needsOf_35 : decode prog_12_method_15_code 35 = .ok (.iaload, 1) := by decide +kernel
theorem d_Mo_needsOf_36 : decode prog_12_method_15_code 36 = .ok (.imul, 1) := by decide +kernel
theorem d_Mo_needsOf_37 : decode prog_12_method_15_code 37 = .ok (.iadd, 1) := by decide +kernel
theorem d_Mo_needsOf_38 : decode prog_12_method_15_code 38 = .ok (.invokevirtual 118, 3) := by decide +kernel
theorem d_Mo_needsOf_41 : decode prog_12_method_15_code 41 = .ok (.aload_n 0, 1) := by decide +kernel
theorem d_Mo_needsOf_42 : decode prog_12_method_15_code 42 = .ok (.getfield 45, 3) := by decide +kernel
theorem d_Mo_needsOf_45 : decode prog_12_method_15_code 45 = .ok (.iload_n 1, 1) := by decide +kernel
theorem d_Mo_needsOf_46 : decode prog_12_method_15_code 46 = .ok (.dup2, 1) := by decide +kernel
theorem d_Mo_needsOf_47 : decode prog_12_method_15_code 47 = .ok (.iaload, 1) := by decide +kernel
theorem d_Mo_needsOf_48 : decode prog_12_method_15_code 48 = .ok (.iconst 1, 1) := by decide +kernel
theorem d_Mo_needsOf_49 : decode prog_12_method_15_code 49 = .ok (.iadd, 1) := by decide +kernel
theorem d_Mo_needsOf_50 : decode prog_12_method_15_code 50 = .ok (.iastore, 1) := by decide +kernel
theorem d_Mo_needsOf_51 : decode prog_12_method_15_code 51 = .ok (.aload_n 0, 1) := by decide +kernel
theorem d_Mo_needsOf_52 : decode prog_12_method_15_code 52 = .ok (.getfield 83, 3) := by decide +kernel
theorem d_Mo_needsOf_55 : decode prog_12_method_15_code 55 = .ok (.ifCond .ne 26, 3) := by decide +kernel
theorem d_Mo_needsOf_58 : decode prog_12_method_15_code 58 = .ok (.aload_n 0, 1) := by decide +kernel
theorem d_Mo_needsOf_59 : decode prog_12_method_15_code 59 = .ok (.getfield 45, 3) := by decide +kernel
theorem d_Mo_needsOf_62 : decode prog_12_method_15_code 62 = .ok (.iload_n 1, 1) := by decide +kernel
theorem d_Mo_needsOf_63 : decode prog_12_method_15_code 63 = .ok (.iaload, 1) := by decide +kernel
theorem d_Mo_needsOf_64 : decode prog_12_method_15_code 64 = .ok (.iconst 5, 1) := by decide +kernel
theorem d_Mo_needsOf_65 : decode prog_12_method_15_code 65 = .ok (.if_icmp .ge 16, 3) := by decide +kernel
theorem d_Mo_needsOf_68 : decode prog_12_method_15_code 68 = .ok (.aload_n 0, 1) := by decide +kernel
theorem d_Mo_needsOf_69 : decode prog_12_method_15_code 69 = .ok (.bipush 44, 2) := by decide +kernel
theorem d_Mo_needsOf_71 : decode prog_12_method_15_code 71 = .ok (.invokevirtual 115, 3) := by decide +kernel
theorem d_Mo_needsOf_74 : decode prog_12_method_15_code 74 = .ok (.ifCond .eq 7, 3) := by decide +kernel
theorem d_Mo_needsOf_77 : decode prog_12_method_15_code 77 = .ok (.iconst 1, 1) := by decide +kernel
theorem d_Mo_needsOf_78 : decode prog_12_method_15_code 78 = .ok (.goto 4, 3) := by decide +kernel
theorem d_Mo_needsOf_81 : decode prog_12_method_15_code 81 = .ok (.iconst 0, 1) := by decide +kernel
theorem d_Mo_needsOf_82 : decode prog_12_method_15_code 82 = .ok (.istore_n 2, 1) := by decide +kernel
theorem d_Mo_needsOf_83 : decode prog_12_method_15_code 83 = .ok (.goto (-63), 3) := by decide +kernel
theorem d_Mo_needsOf_86 : decode prog_12_method_15_code 86 = .ok (.return_, 1) := by decide +kernel
def B_Mo_needsOf_82 (k20 : Nat → Int32 → Int32 → gS → Option gS) (x0 : Nat) (x1 : Int32) (t0 : Int32) (S : gS) : Option gS := k20 x0 x1 t0 S
set_option maxRecDepth 100000 in
set_option maxHeartbeats 4000000 in
theorem w_Mo_needsOf_82 {D : va_G} {cT : Nat → ClassId} {H0 : Heap} {l : Launch} {p : Program} {e : Env} {s : State} {m : MethodId} {args : Array Value} {below : List Frame} {meth : Method} {c : Code} {S0 : gS} {S' : gS} (Y : gY D cT H0 p s m args meth c prog_12_method_15_code 3 "PlanTextModel" 4 91 S0 (Option.none : Option Jvm.ClassFile.FieldType)) {k20 : Nat → Int32 → Int32 → gS → Option gS} (hk20 : ∀ (x0 : Nat) (x1 : Int32) (x2 : Int32) (S : gS) (ls : Array Slot), k20 x0 x1 x2 S = some S' → lv_has ls 3 [(0, va_rf (some x0)), (1, .int x1), (2, .int x2)] → gV D cT H0 p l e (gRm 4 91 S0) s m args below meth c (gQ D cT H0 below S0 S' (.inr none) s) S0 S (F0 m 20 ls [])) (x0 : Nat) (x1 : Int32) (t0 : Int32) (S : gS) (hden : B_Mo_needsOf_82 k20 x0 x1 t0 S = some S') {ls : Array Slot} (hl : lv_has ls 3 [(0, va_rf (some x0)), (1, .int x1)]) : gV D cT H0 p l e (gRm 4 91 S0) s m args below meth c (gQ D cT H0 below S0 S' (.inr none) s) S0 S (F0 m 82 ls [.int t0]) := by
  obtain ⟨X, hZ, hex, hr, hE⟩ := id Y
  have hx := X.1
  have hb := X.2.1
  unfold B_Mo_needsOf_82 at hden
  refine gV.liftS (nL := 3) (lv' := [(2, .int t0), (0, va_rf (some x0)), (1, .int x1)]) (fun _ _ _ _ => lv_istore_n hx hb d_Mo_needsOf_82 rfl hl (by decide) rfl) (fun ls hl => ?_)
  refine gV.lift (fun _ _ _ _ => lv_goto (tgt := 20) hx hb d_Mo_needsOf_83 (by decide)) ?_
  exact hk20 x0 x1 t0 S _ hden (lv_sub hl [1, 2, 0] rfl)
def B_Mo_needsOf_81 (k20 : Nat → Int32 → Int32 → gS → Option gS) (x0 : Nat) (x1 : Int32) (S : gS) : Option gS := B_Mo_needsOf_82 k20 x0 x1 0 S
set_option maxRecDepth 100000 in
set_option maxHeartbeats 4000000 in
theorem w_Mo_needsOf_81 {D : va_G} {cT : Nat → ClassId} {H0 : Heap} {l : Launch} {p : Program} {e : Env} {s : State} {m : MethodId} {args : Array Value} {below : List Frame} {meth : Method} {c : Code} {S0 : gS} {S' : gS} (Y : gY D cT H0 p s m args meth c prog_12_method_15_code 3 "PlanTextModel" 4 91 S0 (Option.none : Option Jvm.ClassFile.FieldType)) {k20 : Nat → Int32 → Int32 → gS → Option gS} (hk20 : ∀ (x0 : Nat) (x1 : Int32) (x2 : Int32) (S : gS) (ls : Array Slot), k20 x0 x1 x2 S = some S' → lv_has ls 3 [(0, va_rf (some x0)), (1, .int x1), (2, .int x2)] → gV D cT H0 p l e (gRm 4 91 S0) s m args below meth c (gQ D cT H0 below S0 S' (.inr none) s) S0 S (F0 m 20 ls [])) (x0 : Nat) (x1 : Int32) (S : gS) (hden : B_Mo_needsOf_81 k20 x0 x1 S = some S') {ls : Array Slot} (hl : lv_has ls 3 [(0, va_rf (some x0)), (1, .int x1)]) : gV D cT H0 p l e (gRm 4 91 S0) s m args below meth c (gQ D cT H0 below S0 S' (.inr none) s) S0 S (F0 m 81 ls []) := by
  obtain ⟨X, hZ, hex, hr, hE⟩ := id Y
  have hx := X.1
  have hb := X.2.1
  unfold B_Mo_needsOf_81 at hden
  refine gV.lift (fun _ _ _ _ => lv_iconst (v := 0) hx hb d_Mo_needsOf_81 (by decide)) ?_
  exact w_Mo_needsOf_82 Y hk20 x0 x1 0 S hden (lv_sub hl [0, 1] rfl)
def B_Mo_needsOf_20 (k20 : Nat → Int32 → Int32 → gS → Option gS) (x0 : Nat) (x1 : Int32) (x2 : Int32) (S : gS) : Option gS := (if x2 = 0 then some S else Option.bind (gRf S x0 10 18) (fun r2 => Option.bind r2 (fun a3 => Option.bind (gAI S a3 0 x1) (fun v4 => Option.bind (gOb S x0 10) (fun fs6 => Option.bind (D_Mo_oneNeed x0 ((25 * x1) + (5 * v4)) S) (fun S5 => Option.bind (gRf S5 x0 10 18) (fun r7 => Option.bind r7 (fun a8 => Option.bind (gAI S5 a8 0 x1) (fun v9 => Option.bind (gSI S5 a8 0 x1 (v9 + 1)) (fun S10 => Option.bind (gI S10 x0 10 5) (fun v11 => (if v11 = 0 then Option.bind (gRf S10 x0 10 18) (fun r13 => Option.bind r13 (fun a14 => Option.bind (gAI S10 a14 0 x1) (fun v15 => (if 5 ≤ v15 then B_Mo_needsOf_81 k20 x0 x1 S10 else Option.bind (gOb S10 x0 10) (fun fs19 => gB2 (D_Mo_goesOn x0 44 S10) (fun v18 S17 => (if v18 = 0 then B_Mo_needsOf_81 k20 x0 x1 S17 else B_Mo_needsOf_82 k20 x0 x1 1 S17))))))) else B_Mo_needsOf_81 k20 x0 x1 S10))))))))))))
set_option maxRecDepth 100000 in
set_option maxHeartbeats 4000000 in
theorem w_Mo_needsOf_20 {D : va_G} {cT : Nat → ClassId} {H0 : Heap} {l : Launch} {p : Program} {e : Env} {s : State} {m : MethodId} {args : Array Value} {below : List Frame} {meth : Method} {c : Code} {S0 : gS} {S' : gS} (Y : gY D cT H0 p s m args meth c prog_12_method_15_code 3 "PlanTextModel" 4 91 S0 (Option.none : Option Jvm.ClassFile.FieldType)) {k20 : Nat → Int32 → Int32 → gS → Option gS} (hk20 : ∀ (x0 : Nat) (x1 : Int32) (x2 : Int32) (S : gS) (ls : Array Slot), k20 x0 x1 x2 S = some S' → lv_has ls 3 [(0, va_rf (some x0)), (1, .int x1), (2, .int x2)] → gV D cT H0 p l e (gRm 4 91 S0) s m args below meth c (gQ D cT H0 below S0 S' (.inr none) s) S0 S (F0 m 20 ls [])) (x0 : Nat) (x1 : Int32) (x2 : Int32) (S : gS) (hden : B_Mo_needsOf_20 k20 x0 x1 x2 S = some S') {ls : Array Slot} (hl : lv_has ls 3 [(0, va_rf (some x0)), (1, .int x1), (2, .int x2)]) : gV D cT H0 p l e (gRm 4 91 S0) s m args below meth c (gQ D cT H0 below S0 S' (.inr none) s) S0 S (F0 m 20 ls []) := by
  obtain ⟨X, hZ, hex, hr, hE⟩ := id Y
  have hx := X.1
  have hb := X.2.1
  unfold B_Mo_needsOf_20 at hden
  refine gV.lift (fun _ _ _ _ => lv_iload_n hx hb d_Mo_needsOf_20 rfl (lv_at hl 2 rfl)) ?_
  refine gV.lift2 (fun _ _ _ _ => lv_if_eq (tgt := 86) hx hb d_Mo_needsOf_21 (by decide)) (fun hc1 => ?_) (fun hc1 => ?_)
  · replace hden := gip hc1 hden
    obtain rfl := gsi hden
    exact g_vret X hr d_Mo_needsOf_86
  · replace hden := gin hc1 hden
    refine gV.lift (fun _ _ _ _ => g_aload_n hx hb d_Mo_needsOf_24 rfl (lv_at hl 0 rfl)) ?_
    refine gV.lift (fun _ _ _ _ => lv_bipush (v := 25) hx hb d_Mo_needsOf_25 (by decide)) ?_
    refine gV.lift (fun _ _ _ _ => lv_iload_n hx hb d_Mo_needsOf_27 rfl (lv_at hl 1 rfl)) ?_
    refine gV.lift (fun _ _ _ _ => lv_imul hx hb d_Mo_needsOf_28) ?_
    refine gV.lift (fun _ _ _ _ => lv_iconst (v := 5) hx hb d_Mo_needsOf_29 (by decide)) ?_
    refine gV.lift (fun _ _ _ _ => g_aload_n hx hb d_Mo_needsOf_30 rfl (lv_at hl 0 rfl)) ?_
    replace hden := gb hden
    obtain ⟨r2, hv, hden⟩ := hden
    refine r_getR X cl_Mo (k := 18) hv (by decide) q_783 d_Mo_needsOf_31 ?_
    refine gV.lift (fun _ _ _ _ => lv_iload_n hx hb d_Mo_needsOf_34 rfl (lv_at hl 1 rfl)) ?_
    replace hden := gb hden
    obtain ⟨a3, rfl, hden⟩ := hden
    replace hden := gb hden
    obtain ⟨v4, hv, hden⟩ := hden
    refine r_iald X (t := 0) rfl hv d_Mo_needsOf_35 ?_
    refine gV.lift (fun _ _ _ _ => lv_imul hx hb d_Mo_needsOf_36) ?_
    refine gV.lift (fun _ _ _ _ => lv_iadd hx hb d_Mo_needsOf_37) ?_
    replace hden := gb hden
    obtain ⟨fs6, ho, hden⟩ := hden
    replace hden := gb hden
    obtain ⟨S5, hz, hden⟩ := hden
    refine g_callV (As := [.int ((25 * x1) + (5 * v4))]) (rest := []) X hZ (c_Mo_oneNeed hz) cl_Mo (gOb_spec ho) q_907 q_5 q_904 q_906 qp_37 ⟨by decide, by decide, by show _ = some 1; decide +kernel⟩ ⟨by decide, by decide⟩ hl.1 (Nat.le_of_ble_eq_true rfl) d_Mo_needsOf_38 rfl rfl ?_
    refine gV.lift (fun _ _ _ _ => g_aload_n hx hb d_Mo_needsOf_41 rfl (lv_at hl 0 rfl)) ?_
    replace hden := gb hden
    obtain ⟨r7, hv, hden⟩ := hden
    refine r_getR X cl_Mo (k := 18) hv (by decide) q_783 d_Mo_needsOf_42 ?_
    refine gV.lift (fun _ _ _ _ => lv_iload_n hx hb d_Mo_needsOf_45 rfl (lv_at hl 1 rfl)) ?_
    refine gV.lift (fun _ _ _ _ => lv_dup2_11 hx hb d_Mo_needsOf_46 rfl g_cat) ?_
    replace hden := gb hden
    obtain ⟨a8, rfl, hden⟩ := hden
    replace hden := gb hden
    obtain ⟨v9, hv, hden⟩ := hden
    refine r_iald X (t := 0) rfl hv d_Mo_needsOf_47 ?_
    refine gV.lift (fun _ _ _ _ => lv_iconst (v := 1) hx hb d_Mo_needsOf_48 (by decide)) ?_
    refine gV.lift (fun _ _ _ _ => lv_iadd hx hb d_Mo_needsOf_49) ?_
    replace hden := gb hden
    obtain ⟨S10, hv, hden⟩ := hden
    refine r_iast X (t := 0) rfl hv d_Mo_needsOf_50 ?_
    refine gV.lift (fun _ _ _ _ => g_aload_n hx hb d_Mo_needsOf_51 rfl (lv_at hl 0 rfl)) ?_
    replace hden := gb hden
    obtain ⟨v11, hv, hden⟩ := hden
    refine r_getI X cl_Mo (k := 5) hv (by decide) q_770 d_Mo_needsOf_52 ?_
    refine gV.lift2 (fun _ _ _ _ => lv_if_ne (tgt := 81) hx hb d_Mo_needsOf_55 (by decide)) (fun hc12 => ?_) (fun hc12 => ?_)
    · replace hden := gin hc12 hden
      exact w_Mo_needsOf_81 Y hk20 x0 x1 S10 hden (lv_sub hl [0, 1] rfl)
    · replace hden := gip hc12 hden
      refine gV.lift (fun _ _ _ _ => g_aload_n hx hb d_Mo_needsOf_58 rfl (lv_at hl 0 rfl)) ?_
      replace hden := gb hden
      obtain ⟨r13, hv, hden⟩ := hden
      refine r_getR X cl_Mo (k := 18) hv (by decide) q_783 d_Mo_needsOf_59 ?_
      refine gV.lift (fun _ _ _ _ => lv_iload_n hx hb d_Mo_needsOf_62 rfl (lv_at hl 1 rfl)) ?_
      replace hden := gb hden
      obtain ⟨a14, rfl, hden⟩ := hden
      replace hden := gb hden
      obtain ⟨v15, hv, hden⟩ := hden
      refine r_iald X (t := 0) rfl hv d_Mo_needsOf_63 ?_
      refine gV.lift (fun _ _ _ _ => lv_iconst (v := 5) hx hb d_Mo_needsOf_64 (by decide)) ?_
      refine gV.lift2 (fun _ _ _ _ => lv_icmp_ge (tgt := 81) hx hb d_Mo_needsOf_65 (by decide)) (fun hc16 => ?_) (fun hc16 => ?_)
      · replace hden := gip hc16 hden
        exact w_Mo_needsOf_81 Y hk20 x0 x1 S10 hden (lv_sub hl [0, 1] rfl)
      · replace hden := gin hc16 hden
        refine gV.lift (fun _ _ _ _ => g_aload_n hx hb d_Mo_needsOf_68 rfl (lv_at hl 0 rfl)) ?_
        refine gV.lift (fun _ _ _ _ => lv_bipush (v := 44) hx hb d_Mo_needsOf_69 (by decide)) ?_
        replace hden := gb hden
        obtain ⟨fs19, ho, hden⟩ := hden
        replace hden := gb2 hden
        obtain ⟨v18, S17, hz, hden⟩ := hden
        refine g_callV (As := [.int 44]) (rest := []) X hZ (c_Mo_goesOn hz) cl_Mo (gOb_spec ho) q_895 q_5 q_892 q_894 qp_34 ⟨by decide, by decide, by show _ = some 1; decide +kernel⟩ ⟨by decide, by decide⟩ hl.1 (Nat.le_of_ble_eq_true rfl) d_Mo_needsOf_71 rfl rfl ?_
        refine gV.lift2 (fun _ _ _ _ => lv_if_eq (tgt := 81) hx hb d_Mo_needsOf_74 (by decide)) (fun hc20 => ?_) (fun hc20 => ?_)
        · replace hden := gip hc20 hden
          exact w_Mo_needsOf_81 Y hk20 x0 x1 S17 hden (lv_sub hl [0, 1] rfl)
        · replace hden := gin hc20 hden
          refine gV.lift (fun _ _ _ _ => lv_iconst (v := 1) hx hb d_Mo_needsOf_77 (by decide)) ?_
          refine gV.lift (fun _ _ _ _ => lv_goto (tgt := 82) hx hb d_Mo_needsOf_78 (by decide)) ?_
          exact w_Mo_needsOf_82 Y hk20 x0 x1 1 S17 hden (lv_sub hl [0, 1] rfl)
def L_Mo_needsOf_20  : Nat → Nat → Int32 → Int32 → gS → Option gS
  | 0 => fun _ _ _ _ => none
  | n + 1 => fun x0 x1 x2 S => B_Mo_needsOf_20  (L_Mo_needsOf_20  n) x0 x1 x2 S
theorem wL_Mo_needsOf_20 {D : va_G} {cT : Nat → ClassId} {H0 : Heap} {l : Launch} {p : Program} {e : Env} {s : State} {m : MethodId} {args : Array Value} {below : List Frame} {meth : Method} {c : Code} {S0 : gS} {S' : gS} (Y : gY D cT H0 p s m args meth c prog_12_method_15_code 3 "PlanTextModel" 4 91 S0 (Option.none : Option Jvm.ClassFile.FieldType))  : ∀ (n : Nat) (x0 : Nat) (x1 : Int32) (x2 : Int32) (S : gS) (ls : Array Slot), L_Mo_needsOf_20  n x0 x1 x2 S = some S' → lv_has ls 3 [(0, va_rf (some x0)), (1, .int x1), (2, .int x2)] → gV D cT H0 p l e (gRm 4 91 S0) s m args below meth c (gQ D cT H0 below S0 S' (.inr none) s) S0 S (F0 m 20 ls []) := by
  intro n
  induction n with
  | zero => intro x0 x1 x2 S ls h hl; cases h
  | succ n ih => intro x0 x1 x2 S ls h hl; exact w_Mo_needsOf_20 Y ih x0 x1 x2 S h hl
def B_Mo_needsOf_19  (x0 : Nat) (x1 : Int32) (t0 : Int32) (S : gS) : Option gS := L_Mo_needsOf_20  gF x0 x1 t0 S
set_option maxRecDepth 100000 in
set_option maxHeartbeats 4000000 in
theorem w_Mo_needsOf_19 {D : va_G} {cT : Nat → ClassId} {H0 : Heap} {l : Launch} {p : Program} {e : Env} {s : State} {m : MethodId} {args : Array Value} {below : List Frame} {meth : Method} {c : Code} {S0 : gS} {S' : gS} (Y : gY D cT H0 p s m args meth c prog_12_method_15_code 3 "PlanTextModel" 4 91 S0 (Option.none : Option Jvm.ClassFile.FieldType))  (x0 : Nat) (x1 : Int32) (t0 : Int32) (S : gS) (hden : B_Mo_needsOf_19  x0 x1 t0 S = some S') {ls : Array Slot} (hl : lv_has ls 3 [(0, va_rf (some x0)), (1, .int x1)]) : gV D cT H0 p l e (gRm 4 91 S0) s m args below meth c (gQ D cT H0 below S0 S' (.inr none) s) S0 S (F0 m 19 ls [.int t0]) := by
  obtain ⟨X, hZ, hex, hr, hE⟩ := id Y
  have hx := X.1
  have hb := X.2.1
  unfold B_Mo_needsOf_19 at hden
  refine gV.liftS (nL := 3) (lv' := [(2, .int t0), (0, va_rf (some x0)), (1, .int x1)]) (fun _ _ _ _ => lv_istore_n hx hb d_Mo_needsOf_19 rfl hl (by decide) rfl) (fun ls hl => ?_)
  exact wL_Mo_needsOf_20 Y  gF x0 x1 t0 S _ hden (lv_sub hl [1, 2, 0] rfl)
def D_Mo_needsOf (h0 : Nat) (p0 : Int32) (S : gS) : Option gS := Option.bind (gRf S h0 10 18) (fun r1 => Option.bind r1 (fun a2 => Option.bind (gSI S a2 0 p0 0) (fun S3 => Option.bind (gI S3 h0 10 5) (fun v4 => (if v4 = 0 then B_Mo_needsOf_19  h0 p0 1 S3 else B_Mo_needsOf_19  h0 p0 0 S3)))))
set_option maxRecDepth 100000 in
set_option maxHeartbeats 4000000 in
theorem c_Mo_needsOf {D : va_G} {cT : Nat → ClassId} {H0 : Heap} {l : Launch} {S : gS} {S' : gS} {h0 : Nat} {p0 : Int32} (hden : D_Mo_needsOf h0 p0 S = some S') : gM D cT H0 l y_Mo_needsOf (Cond.code y_Mo_needsOf prog_12_method_15_code 3 (Option.none : Option Jvm.ClassFile.FieldType)) 4 91 [va_rf (some h0), .int p0] S S' (.inr none) := by
  refine gM.ofV (by decide) ?_
  intro p e s m args below meth c s₁ B hml ea X hZ hex hr hE
  subst ea
  have Y : gY D cT H0 p s m _ meth c prog_12_method_15_code 3 "PlanTextModel" 4 91 S (Option.none : Option Jvm.ClassFile.FieldType) := ⟨X, hZ, hex, hr, hE⟩
  have hx := X.1
  have hb := X.2.1
  have hl := lv_entry ([va_rf (some h0), .int p0]) (n := 3) (Nat.le_of_ble_eq_true rfl)
  rw [lg_entry_eq]
  generalize (lg_sl ([va_rf (some h0), .int p0]) ++ List.replicate (3 - (lg_sl ([va_rf (some h0), .int p0])).length) Slot.unset).toArray = ls at hl ⊢
  have hl : lv_has ls 3 [(0, va_rf (some h0)), (1, .int p0)] := hl
  unfold D_Mo_needsOf at hden
  refine gV.lift (fun _ _ _ _ => g_aload_n hx hb d_Mo_needsOf_0 rfl (lv_at hl 0 rfl)) ?_
  replace hden := gb hden
  obtain ⟨r1, hv, hden⟩ := hden
  refine r_getR X cl_Mo (k := 18) hv (by decide) q_783 d_Mo_needsOf_1 ?_
  refine gV.lift (fun _ _ _ _ => lv_iload_n hx hb d_Mo_needsOf_4 rfl (lv_at hl 1 rfl)) ?_
  refine gV.lift (fun _ _ _ _ => lv_iconst (v := 0) hx hb d_Mo_needsOf_5 (by decide)) ?_
  replace hden := gb hden
  obtain ⟨a2, rfl, hden⟩ := hden
  replace hden := gb hden
  obtain ⟨S3, hv, hden⟩ := hden
  refine r_iast X (t := 0) rfl hv d_Mo_needsOf_6 ?_
  refine gV.lift (fun _ _ _ _ => g_aload_n hx hb d_Mo_needsOf_7 rfl (lv_at hl 0 rfl)) ?_
  replace hden := gb hden
  obtain ⟨v4, hv, hden⟩ := hden
  refine r_getI X cl_Mo (k := 5) hv (by decide) q_770 d_Mo_needsOf_8 ?_
  refine gV.lift2 (fun _ _ _ _ => lv_if_ne (tgt := 18) hx hb d_Mo_needsOf_11 (by decide)) (fun hc5 => ?_) (fun hc5 => ?_)
  · replace hden := gin hc5 hden
    refine gV.lift (fun _ _ _ _ => lv_iconst (v := 0) hx hb d_Mo_needsOf_18 (by decide)) ?_
    exact w_Mo_needsOf_19 Y  h0 p0 0 S3 hden (lv_sub hl [0, 1] rfl)
  · replace hden := gip hc5 hden
    refine gV.lift (fun _ _ _ _ => lv_iconst (v := 1) hx hb d_Mo_needsOf_14 (by decide)) ?_
    refine gV.lift (fun _ _ _ _ => lv_goto (tgt := 19) hx hb d_Mo_needsOf_15 (by decide)) ?_
    exact w_Mo_needsOf_19 Y  h0 p0 1 S3 hden (lv_sub hl [0, 1] rfl)
/-! PlanTextModel.planRow()V -/
abbrev y_Mo_planRow : MethodName := ⟨"PlanTextModel", "planRow", "()V"⟩
theorem d_Mo_planRow_0 : decode prog_12_method_16_code 0 = .ok (.aload_n 0, 1) := by decide +kernel
theorem d_Mo_planRow_1 : decode prog_12_method_16_code 1 = .ok (.iconst 1, 1) := by decide +kernel
theorem d_Mo_planRow_2 : decode prog_12_method_16_code 2 = .ok (.bipush 40, 2) := by decide +kernel
theorem d_Mo_planRow_4 : decode prog_12_method_16_code 4 = .ok (.invokevirtual 105, 3) := by decide +kernel
theorem d_Mo_planRow_7 : decode prog_12_method_16_code 7 = .ok (.istore_n 1, 1) := by decide +kernel
theorem d_Mo_planRow_8 : decode prog_12_method_16_code 8 = .ok (.sipush 300, 3) := by decide +kernel
theorem d_Mo_planRow_11 : decode prog_12_method_16_code 11 = .ok (.iload_n 1, 1) := by decide +kernel
theorem d_Mo_planRow_12 : decode prog_12_method_16_code 12 = .ok (.iadd, 1) := by decide +kernel
theorem d_Mo_planRow_13 : decode prog_12_method_16_code 13 = .ok (.istore_n 2, 1) := by decide +kernel
theorem d_Mo_planRow_14 : decode prog_12_method_16_code 14 = .ok (.aload_n 0, 1) := by decide +kernel
theorem d_Mo_planRow_15 : decode prog_12_method_16_code 15 = .ok (.getfield 83, 3) := by decide +kernel
theorem d_Mo_planRow_18 : decode prog_12_method_16_code 18 = .ok (.ifCond .ne 22, 3) := by decide +kernel
theorem d_Mo_planRow_21 : decode prog_12_method_16_code 21 = .ok (.aload_n 0, 1) := by decide +kernel
theorem d_Mo_planRow_22 : decode prog_12_method_16_code 22 = .ok (.getfield 20, 3) := by decide +kernel
theorem d_Mo_planRow_25 : decode prog_12_method_16_code 25 = .ok (.iload_n 2, 1) := by decide +kernel
theorem d_Mo_planRow_26 : decode prog_12_method_16_code 26 = .ok (.baload, 1) := by decide +kernel
theorem d_Mo_planRow_27 : decode prog_12_method_16_code 27 = .ok (.ifCond .eq 13, 3) := by decide +kernel
theorem d_Mo_planRow_30 : decode prog_12_method_16_code 30 = .ok (.aload_n 0, 1) := by decide +kernel
theorem d_Mo_planRow_31 : decode prog_12_method_16_code 31 = .ok (.aload_n 0, 1) := by decide +kernel
theorem d_Mo_planRow_32 : decode prog_12_method_16_code 32 = .ok (.getfield 87, 3) := by decide +kernel
theorem d_Mo_planRow_35 : decode prog_12_method_16_code 35 = .ok (.iconst 1, 1) := by decide +kernel
theorem d_Mo_planRow_36 : decode prog_12_method_16_code 36 = .ok (.isub, 1) := by decide +kernel
theorem d_Mo_planRow_37 : decode prog_12_method_16_code 37 = .ok (.invokevirtual 97, 3) := by decide +kernel
theorem d_Mo_planRow_40 : decode prog_12_method_16_code 40 = .ok (.aload_n 0, 1) := by decide +kernel
theorem d_Mo_planRow_41 : decode prog_12_method_16_code 41 = .ok (.getfield 83, 3) := by decide +kernel
theorem d_Mo_planRow_44 : decode prog_12_method_16_code 44 = .ok (.ifCond .eq 4, 3) := by decide +kernel
theorem d_Mo_planRow_47 : decode prog_12_method_16_code 47 = .ok (.return_, 1) := by decide +kernel
theorem d_Mo_planRow_48 : decode prog_12_method_16_code 48 = .ok (.aload_n 0, 1) := by decide +kernel
theorem d_Mo_planRow_49 : decode prog_12_method_16_code 49 = .ok (.getfield 20, 3) := by decide +kernel
theorem d_Mo_planRow_52 : decode prog_12_method_16_code 52 = .ok (.iload_n 2, 1) := by decide +kernel
theorem d_Mo_planRow_53 : decode prog_12_method_16_code 53 = .ok (.iconst 1, 1) := by decide +kernel
theorem d_Mo_planRow_54 : decode prog_12_method_16_code 54 = .ok (.bastore, 1) := by decide +kernel
theorem d_Mo_planRow_55 : decode prog_12_method_16_code 55 = .ok (.aload_n 0, 1) := by decide +kernel
theorem d_Mo_planRow_56 : decode prog_12_method_16_code 56 = .ok (.getfield 27, 3) := by decide +kernel
theorem d_Mo_planRow_59 : decode prog_12_method_16_code 59 = .ok (.iload_n 2, 1) := by decide +kernel
theorem d_Mo_planRow_60 : decode prog_12_method_16_code 60 = .ok (.iconst 0, 1) := by decide +kernel
theorem d_Mo_planRow_61 : decode prog_12_method_16_code 61 = .ok (.iastore, 1) := by decide +kernel
theorem d_Mo_planRow_62 : decode prog_12_method_16_code 62 = .ok (.aload_n 0, 1) := by decide +kernel
theorem d_Mo_planRow_63 : decode prog_12_method_16_code 63 = .ok (.getfield 36, 3) := by decide +kernel
theorem d_Mo_planRow_66 : decode prog_12_method_16_code 66 = .ok (.iload_n 2, 1) := by decide +kernel
theorem d_Mo_planRow_67 : decode prog_12_method_16_code 67 = .ok (.iconst (-1), 1) := by decide +kernel
theorem d_Mo_planRow_68 : decode prog_12_method_16_code 68 = .ok (.iastore, 1) := by decide +kernel
theorem d_Mo_planRow_69 : decode prog_12_method_16_code 69 = .ok (.aload_n 0, 1) := by decide +kernel
theorem d_Mo_planRow_70 : decode prog_12_method_16_code 70 = .ok (.bipush 107, 2) := by decide +kernel
theorem d_Mo_planRow_72 : decode prog_12_method_16_code 72 = .ok (.invokevirtual 109, 3) := by decide +kernel
theorem d_Mo_planRow_75 : decode prog_12_method_16_code 75 = .ok (.aload_n 0, 1) := by decide +kernel
theorem d_Mo_planRow_76 : decode prog_12_method_16_code 76 = .ok (.getfield 83, 3) := by decide +kernel
theorem d_Mo_planRow_79 : decode prog_12_method_16_code 79 = .ok (.ifCond .ne 16, 3) := by decide +kernel
theorem d_Mo_planRow_82 : decode prog_12_method_16_code 82 = .ok (.aload_n 0, 1) := by decide +kernel
theorem d_Mo_planRow_83 : decode prog_12_method_16_code 83 = .ok (.getfield 24, 3) := by decide +kernel
theorem d_Mo_planRow_86 : decode prog_12_method_16_code 86 = .ok (.iload_n 2, 1) := by decide +kernel
theorem d_Mo_planRow_87 : decode prog_12_method_16_code 87 = .ok (.aload_n 0, 1) := by decide +kernel
theorem d_Mo_planRow_88 : decode prog_12_method_16_code 88 = .ok (.iconst 1, 1) := by decide +kernel
theorem d_Mo_planRow_89 : decode prog_12_method_16_code 89 = .ok (.bipush 9, 2) := by decide +kernel
theorem d_Mo_planRow_91 : decode prog_12_method_16_code 91 = .ok (.invokevirtual 105, 3) := by decide +kernel
theorem d_Mo_planRow_94 : decode prog_12_method_16_code 94 = .ok (.iastore, 1) := by decide +kernel
theorem d_Mo_planRow_95 : decode prog_12_method_16_code 95 = .ok (.aload_n 0, 1) := by decide +kernel
theorem d_Mo_planRow_96 : decode prog_12_method_16_code 96 = .ok (.bipush 64, 2) := by decide +kernel
theorem d_Mo_planRow_98 : decode prog_12_method_16_code 98 = .ok (.invokevirtual 115, 3) := by decide +kernel
theorem d_Mo_planRow_101 : decode prog_12_method_16_code 101 = .ok (.ifCond .eq 75, 3) := by decide +kernel
theorem d_Mo_planRow_104 : decode prog_12_method_16_code 104 = .ok (.aload_n 0, 1) := by decide +kernel
theorem d_Mo_planRow_105 : decode prog_12_method_16_code 105 = .ok (.getfield 27, 3) := by decide +kernel
theorem d_Mo_planRow_108 : decode prog_12_method_16_code 108 = .ok (.iload_n 2, 1) := by decide +kernel
theorem d_Mo_planRow_109 : decode prog_12_method_16_code 109 = .ok (.aload_n 0, 1) := by decide +kernel
theorem d_Mo_planRow_110 : decode prog_12_method_16_code 110 = .ok (.iconst 1, 1) := by decide +kernel
theorem d_Mo_planRow_111 : decode prog_12_method_16_code 111 = .ok (.bipush 99, 2) := by decide +kernel
theorem d_Mo_planRow_113 : decode prog_12_method_16_code 113 = .ok (.invokevirtual 105, 3) := by decide +kernel
theorem d_Mo_planRow_116 : decode prog_12_method_16_code 116 = .ok (.iastore, 1) := by decide +kernel
theorem d_Mo_planRow_117 : decode prog_12_method_16_code 117 = .ok (.aload_n 0, 1) := by decide +kernel
theorem d_Mo_planRow_118 : decode prog_12_method_16_code 118 = .ok (.bipush 35, 2) := by decide +kernel
theorem d_Mo_planRow_120 : decode prog_12_method_16_code 120 = .ok (.invokevirtual 109, 3) := by decide +kernel
theorem d_Mo_planRow_123 : decode prog_12_method_16_code 123 = .ok (.aload_n 0, 1) := by decide +kernel
theorem d_Mo_planRow_124 : decode prog_12_method_16_code 124 = .ok (.getfield 83, 3) := by decide +kernel
theorem d_Mo_planRow_127 : decode prog_12_method_16_code 127 = .ok (.ifCond .ne 17, 3) := by decide +kernel
theorem d_Mo_planRow_130 : decode prog_12_method_16_code 130 = .ok (.aload_n 0, 1) := by decide +kernel
theorem d_Mo_planRow_131 : decode prog_12_method_16_code 131 = .ok (.getfield 30, 3) := by decide +kernel
theorem d_Mo_planRow_134 : decode prog_12_method_16_code 134 = .ok (.iload_n 2, 1) := by decide +kernel
theorem d_Mo_planRow_135 : decode prog_12_method_16_code 135 = .ok (.aload_n 0, 1) := by decide +kernel
theorem d_Mo_planRow_136 : decode prog_12_method_16_code 136 = .ok (.iconst 1, 1) := by decide +kernel
theorem d_Mo_planRow_137 : decode prog_12_method_16_code 137 = .ok (.sipush 999, 3) := by decide +kernel
theorem d_Mo_planRow_140 : decode prog_12_method_16_code 140 = .ok (.invokevirtual 105, 3) := by decide +kernel
theorem d_Mo_planRow_143 : decode prog_12_method_16_code 143 = .ok (.iastore, 1) := by decide +kernel
theorem d_Mo_planRow_144 : decode prog_12_method_16_code 144 = .ok (.aload_n 0, 1) := by decide +kernel
theorem d_Mo_planRow_145 : decode prog_12_method_16_code 145 = .ok (.bipush 45, 2) := by decide +kernel
theorem d_Mo_planRow_147 : decode prog_12_method_16_code 147 = .ok (.invokevirtual 109, 3) := by decide +kernel
theorem d_Mo_planRow_150 : decode prog_12_method_16_code 150 = .ok (.aload_n 0, 1) := by decide +kernel
theorem d_Mo_planRow_151 : decode prog_12_method_16_code 151 = .ok (.getfield 83, 3) := by decide +kernel
theorem d_Mo_planRow_154 : decode prog_12_method_16_code 154 = .ok (.ifCond .ne 22, 3) := by decide +kernel
theorem d_Mo_planRow_157 : decode prog_12_method_16_code 157 = .ok (.aload_n 0, 1) := by decide +kernel
theorem d_Mo_planRow_158 : decode prog_12_method_16_code 158 = .ok (.getfield 33, 3) := by decide +kernel
theorem d_Mo_planRow_161 : decode prog_12_method_16_code 161 = .ok (.iload_n 2, 1) := by decide +kernel
theorem d_Mo_planRow_162 : decode prog_12_method_16_code 162 = .ok (.aload_n 0, 1) := by decide +kernel
theorem d_Mo_planRow_163 : decode prog_12_method_16_code 163 = .ok (.aload_n 0, 1) := by decide +kernel
theorem d_Mo_planRow_164 : decode prog_12_method_16_code 164 = .ok (.getfield 30, 3) := by decide +kernel
theorem d_Mo_planRow_167 : decode prog_12_method_16_code 167 = .ok (.iload_n 2, 1) := by decide +kernel
theorem d_Mo_planRow_168 : decode prog_12_method_16_code 168 = .ok (.iaload, 1) := by decide +kernel
theorem d_Mo_planRow_169 : decode prog_12_method_16_code 169 = .ok (.sipush 999, 3) := by decide +kernel
theorem d_Mo_planRow_172 : decode prog_12_method_16_code 172 = .ok (.invokevirtual 105, 3) := by decide +kernel
theorem d_Mo_planRow_175 : decode prog_12_method_16_code 175 = .ok (.iastore, 1) := by decide +kernel
theorem d_Mo_planRow_176 : decode prog_12_method_16_code 176 = .ok (.aload_n 0, 1) := by decide +kernel
theorem d_Mo_planRow_177 : decode prog_12_method_16_code 177 = .ok (.bipush 91, 2) := by decide +kernel
theorem d_Mo_planRow_179 : decode prog_12_method_16_code 179 = .ok (.invokevirtual 115, 3) := by decide +kernel
theorem d_Mo_planRow_182 : decode prog_12_method_16_code 182 = .ok (.ifCond .eq 8, 3) := by decide +kernel
theorem d_Mo_planRow_185 : decode prog_12_method_16_code 185 = .ok (.aload_n 0, 1) := by decide +kernel
theorem d_Mo_planRow_186 : decode prog_12_method_16_code 186 = .ok (.iload_n 2, 1) := by decide +kernel
theorem d_Mo_planRow_187 : decode prog_12_method_16_code 187 = .ok (.invokevirtual 121, 3) := by decide +kernel
theorem d_Mo_planRow_190 : decode prog_12_method_16_code 190 = .ok (.aload_n 0, 1) := by decide +kernel
theorem d_Mo_planRow_191 : decode prog_12_method_16_code 191 = .ok (.bipush 114, 2) := by decide +kernel
theorem d_Mo_planRow_193 : decode prog_12_method_16_code 193 = .ok (.invokevirtual 109, 3) := by decide +kernel
theorem d_Mo_planRow_196 : decode prog_12_method_16_code 196 = .ok (.aload_n 0, 1) := by decide +kernel
theorem d_Mo_planRow_197 : decode prog_12_method_16_code 197 = .ok (.getfield 83, 3) := by decide +kernel
theorem d_Mo_planRow_200 : decode prog_12_method_16_code 200 = .ok (.ifCond .ne 16, 3) := by decide +kernel
theorem d_Mo_planRow_203 : decode prog_12_method_16_code 203 = .ok (.aload_n 0, 1) := by decide +kernel
theorem d_Mo_planRow_204 : decode prog_12_method_16_code 204 = .ok (.getfield 42, 3) := by decide +kernel
theorem d_Mo_planRow_207 : decode prog_12_method_16_code 207 = .ok (.iload_n 2, 1) := by decide +kernel
theorem d_Mo_planRow_208 : decode prog_12_method_16_code 208 = .ok (.aload_n 0, 1) := by decide +kernel
theorem d_Mo_planRow_209 : decode prog_12_method_16_code 209 = .ok (.iconst 0, 1) := by decide +kernel
theorem d_Mo_planRow_210 : decode prog_12_method_16_code 210 = .ok (.bipush 9, 2) := by decide +kernel
theorem d_Mo_planRow_212 : decode prog_12_method_16_code 212 = .ok (.invokevirtual 105, 3) := by decide +kernel
theorem d_Mo_planRow_215 : decode prog_12_method_16_code 215 = .ok (.iastore, 1) := by decide +kernel
theorem d_Mo_planRow_216 : decode prog_12_method_16_code 216 = .ok (.aload_n 0, 1) := by decide +kernel
theorem d_Mo_planRow_217 : decode prog_12_method_16_code 217 = .ok (.bipush 58, 2) := by decide +kernel
theorem d_Mo_planRow_219 : decode prog_12_method_16_code 219 = .ok (.invokevirtual 109, 3) := by decide +kernel
theorem d_Mo_planRow_222 : decode prog_12_method_16_code 222 = .ok (.aload_n 0, 1) := by decide +kernel
theorem d_Mo_planRow_223 : decode prog_12_method_16_code 223 = .ok (.iload_n 2, 1) := by decide +kernel
theorem d_Mo_planRow_224 : decode prog_12_method_16_code 224 = .ok (.invokevirtual 124, 3) := by decide +kernel
theorem d_Mo_planRow_227 : decode prog_12_method_16_code 227 = .ok (.return_, 1) := by decide +kernel
def B_Mo_planRow_216  (x0 : Nat) (x2 : Int32) (S : gS) : Option gS := Option.bind (gOb S x0 10) (fun fs2 => Option.bind (D_Mo_expect x0 58 S) (fun S1 => Option.bind (gOb S1 x0 10) (fun fs4 => Option.bind (D_Mo_needsOf x0 x2 S1) (fun S3 => some S3))))
set_option maxRecDepth 100000 in
set_option maxHeartbeats 4000000 in
theorem w_Mo_planRow_216 {D : va_G} {cT : Nat → ClassId} {H0 : Heap} {l : Launch} {p : Program} {e : Env} {s : State} {m : MethodId} {args : Array Value} {below : List Frame} {meth : Method} {c : Code} {S0 : gS} {S' : gS} (Y : gY D cT H0 p s m args meth c prog_12_method_16_code 3 "PlanTextModel" 5 113 S0 (Option.none : Option Jvm.ClassFile.FieldType))  (x0 : Nat) (x2 : Int32) (S : gS) (hden : B_Mo_planRow_216  x0 x2 S = some S') {ls : Array Slot} (hl : lv_has ls 3 [(0, va_rf (some x0)), (2, .int x2)]) : gV D cT H0 p l e (gRm 5 113 S0) s m args below meth c (gQ D cT H0 below S0 S' (.inr none) s) S0 S (F0 m 216 ls []) := by
  obtain ⟨X, hZ, hex, hr, hE⟩ := id Y
  have hx := X.1
  have hb := X.2.1
  unfold B_Mo_planRow_216 at hden
  refine gV.lift (fun _ _ _ _ => g_aload_n hx hb d_Mo_planRow_216 rfl (lv_at hl 0 rfl)) ?_
  refine gV.lift (fun _ _ _ _ => lv_bipush (v := 58) hx hb d_Mo_planRow_217 (by decide)) ?_
  replace hden := gb hden
  obtain ⟨fs2, ho, hden⟩ := hden
  replace hden := gb hden
  obtain ⟨S1, hz, hden⟩ := hden
  refine g_callV (As := [.int 58]) (rest := []) X hZ (c_Mo_expect hz) cl_Mo (gOb_spec ho) q_891 q_5 q_888 q_890 qp_33 ⟨by decide, by decide, by show _ = some 1; decide +kernel⟩ ⟨by decide, by decide⟩ hl.1 (Nat.le_of_ble_eq_true rfl) d_Mo_planRow_219 rfl rfl ?_
  refine gV.lift (fun _ _ _ _ => g_aload_n hx hb d_Mo_planRow_222 rfl (lv_at hl 0 rfl)) ?_
  refine gV.lift (fun _ _ _ _ => lv_iload_n hx hb d_Mo_planRow_223 rfl (lv_at hl 1 rfl)) ?_
  replace hden := gb hden
  obtain ⟨fs4, ho, hden⟩ := hden
  replace hden := gb hden
  obtain ⟨S3, hz, hden⟩ := hden
  refine g_callV (As := [.int x2]) (rest := []) X hZ (c_Mo_needsOf hz) cl_Mo (gOb_spec ho) q_903 q_5 q_900 q_902 qp_36 ⟨by decide, by decide, by show _ = some 1; decide +kernel⟩ ⟨by decide, by decide⟩ hl.1 (Nat.le_of_ble_eq_true rfl) d_Mo_planRow_224 rfl rfl ?_
  obtain rfl := gsi hden
  exact g_vret X hr d_Mo_planRow_227
def B_Mo_planRow_190  (x0 : Nat) (x2 : Int32) (S : gS) : Option gS := Option.bind (gOb S x0 10) (fun fs2 => Option.bind (D_Mo_expect x0 114 S) (fun S1 => Option.bind (gI S1 x0 10 5) (fun v3 => (if v3 = 0 then Option.bind (gRf S1 x0 10 17) (fun r5 => Option.bind (gOb S1 x0 10) (fun fs8 => gB2 (D_Mo_number x0 0 9 S1) (fun v7 S6 => Option.bind r5 (fun a9 => Option.bind (gSI S6 a9 0 x2 v7) (fun S10 => B_Mo_planRow_216  x0 x2 S10))))) else B_Mo_planRow_216  x0 x2 S1))))
set_option maxRecDepth 100000 in
set_option maxHeartbeats 4000000 in
theorem w_Mo_planRow_190 {D : va_G} {cT : Nat → ClassId} {H0 : Heap} {l : Launch} {p : Program} {e : Env} {s : State} {m : MethodId} {args : Array Value} {below : List Frame} {meth : Method} {c : Code} {S0 : gS} {S' : gS} (Y : gY D cT H0 p s m args meth c prog_12_method_16_code 3 "PlanTextModel" 5 113 S0 (Option.none : Option Jvm.ClassFile.FieldType))  (x0 : Nat) (x2 : Int32) (S : gS) (hden : B_Mo_planRow_190  x0 x2 S = some S') {ls : Array Slot} (hl : lv_has ls 3 [(0, va_rf (some x0)), (2, .int x2)]) : gV D cT H0 p l e (gRm 5 113 S0) s m args below meth c (gQ D cT H0 below S0 S' (.inr none) s) S0 S (F0 m 190 ls []) := by
  obtain ⟨X, hZ, hex, hr, hE⟩ := id Y
  have hx := X.1
  have hb := X.2.1
  unfold B_Mo_planRow_190 at hden
  refine gV.lift (fun _ _ _ _ => g_aload_n hx hb d_Mo_planRow_190 rfl (lv_at hl 0 rfl)) ?_
  refine gV.lift (fun _ _ _ _ => lv_bipush (v := 114) hx hb d_Mo_planRow_191 (by decide)) ?_
  replace hden := gb hden
  obtain ⟨fs2, ho, hden⟩ := hden
  replace hden := gb hden
  obtain ⟨S1, hz, hden⟩ := hden
  refine g_callV (As := [.int 114]) (rest := []) X hZ (c_Mo_expect hz) cl_Mo (gOb_spec ho) q_891 q_5 q_888 q_890 qp_33 ⟨by decide, by decide, by show _ = some 1; decide +kernel⟩ ⟨by decide, by decide⟩ hl.1 (Nat.le_of_ble_eq_true rfl) d_Mo_planRow_193 rfl rfl ?_
  refine gV.lift (fun _ _ _ _ => g_aload_n hx hb d_Mo_planRow_196 rfl (lv_at hl 0 rfl)) ?_
  replace hden := gb hden
  obtain ⟨v3, hv, hden⟩ := hden
  refine r_getI X cl_Mo (k := 5) hv (by decide) q_770 d_Mo_planRow_197 ?_
  refine gV.lift2 (fun _ _ _ _ => lv_if_ne (tgt := 216) hx hb d_Mo_planRow_200 (by decide)) (fun hc4 => ?_) (fun hc4 => ?_)
  · replace hden := gin hc4 hden
    exact w_Mo_planRow_216 Y  x0 x2 S1 hden (lv_sub hl [0, 1] rfl)
  · replace hden := gip hc4 hden
    refine gV.lift (fun _ _ _ _ => g_aload_n hx hb d_Mo_planRow_203 rfl (lv_at hl 0 rfl)) ?_
    replace hden := gb hden
    obtain ⟨r5, hv, hden⟩ := hden
    refine r_getR X cl_Mo (k := 17) hv (by decide) q_782 d_Mo_planRow_204 ?_
    refine gV.lift (fun _ _ _ _ => lv_iload_n hx hb d_Mo_planRow_207 rfl (lv_at hl 1 rfl)) ?_
    refine gV.lift (fun _ _ _ _ => g_aload_n hx hb d_Mo_planRow_208 rfl (lv_at hl 0 rfl)) ?_
    refine gV.lift (fun _ _ _ _ => lv_iconst (v := 0) hx hb d_Mo_planRow_209 (by decide)) ?_
    refine gV.lift (fun _ _ _ _ => lv_bipush (v := 9) hx hb d_Mo_planRow_210 (by decide)) ?_
    replace hden := gb hden
    obtain ⟨fs8, ho, hden⟩ := hden
    replace hden := gb2 hden
    obtain ⟨v7, S6, hz, hden⟩ := hden
    refine g_callV (As := [.int 0, .int 9]) (rest := [.int x2, va_rf r5]) X hZ (c_Mo_number hz) cl_Mo (gOb_spec ho) q_883 q_5 q_880 q_882 qp_31 ⟨by decide, by decide, by show _ = some 2; decide +kernel⟩ ⟨by decide, by decide⟩ hl.1 (by cases r5 <;> exact Nat.le_of_ble_eq_true rfl) d_Mo_planRow_212 rfl rfl ?_
    replace hden := gb hden
    obtain ⟨a9, rfl, hden⟩ := hden
    replace hden := gb hden
    obtain ⟨S10, hv, hden⟩ := hden
    refine r_iast X (t := 0) rfl hv d_Mo_planRow_215 ?_
    exact w_Mo_planRow_216 Y  x0 x2 S10 hden (lv_sub hl [0, 1] rfl)
def B_Mo_planRow_176  (x0 : Nat) (x2 : Int32) (S : gS) : Option gS := Option.bind (gOb S x0 10) (fun fs3 => gB2 (D_Mo_goesOn x0 91 S) (fun v2 S1 => (if v2 = 0 then B_Mo_planRow_190  x0 x2 S1 else Option.bind (gOb S1 x0 10) (fun fs6 => Option.bind (D_Mo_hours x0 x2 S1) (fun S5 => B_Mo_planRow_190  x0 x2 S5)))))
set_option maxRecDepth 100000 in
set_option maxHeartbeats 4000000 in
theorem w_Mo_planRow_176 {D : va_G} {cT : Nat → ClassId} {H0 : Heap} {l : Launch} {p : Program} {e : Env} {s : State} {m : MethodId} {args : Array Value} {below : List Frame} {meth : Method} {c : Code} {S0 : gS} {S' : gS} (Y : gY D cT H0 p s m args meth c prog_12_method_16_code 3 "PlanTextModel" 5 113 S0 (Option.none : Option Jvm.ClassFile.FieldType))  (x0 : Nat) (x2 : Int32) (S : gS) (hden : B_Mo_planRow_176  x0 x2 S = some S') {ls : Array Slot} (hl : lv_has ls 3 [(0, va_rf (some x0)), (2, .int x2)]) : gV D cT H0 p l e (gRm 5 113 S0) s m args below meth c (gQ D cT H0 below S0 S' (.inr none) s) S0 S (F0 m 176 ls []) := by
  obtain ⟨X, hZ, hex, hr, hE⟩ := id Y
  have hx := X.1
  have hb := X.2.1
  unfold B_Mo_planRow_176 at hden
  refine gV.lift (fun _ _ _ _ => g_aload_n hx hb d_Mo_planRow_176 rfl (lv_at hl 0 rfl)) ?_
  refine gV.lift (fun _ _ _ _ => lv_bipush (v := 91) hx hb d_Mo_planRow_177 (by decide)) ?_
  replace hden := gb hden
  obtain ⟨fs3, ho, hden⟩ := hden
  replace hden := gb2 hden
  obtain ⟨v2, S1, hz, hden⟩ := hden
  refine g_callV (As := [.int 91]) (rest := []) X hZ (c_Mo_goesOn hz) cl_Mo (gOb_spec ho) q_895 q_5 q_892 q_894 qp_34 ⟨by decide, by decide, by show _ = some 1; decide +kernel⟩ ⟨by decide, by decide⟩ hl.1 (Nat.le_of_ble_eq_true rfl) d_Mo_planRow_179 rfl rfl ?_
  refine gV.lift2 (fun _ _ _ _ => lv_if_eq (tgt := 190) hx hb d_Mo_planRow_182 (by decide)) (fun hc4 => ?_) (fun hc4 => ?_)
  · replace hden := gip hc4 hden
    exact w_Mo_planRow_190 Y  x0 x2 S1 hden (lv_sub hl [0, 1] rfl)
  · replace hden := gin hc4 hden
    refine gV.lift (fun _ _ _ _ => g_aload_n hx hb d_Mo_planRow_185 rfl (lv_at hl 0 rfl)) ?_
    refine gV.lift (fun _ _ _ _ => lv_iload_n hx hb d_Mo_planRow_186 rfl (lv_at hl 1 rfl)) ?_
    replace hden := gb hden
    obtain ⟨fs6, ho, hden⟩ := hden
    replace hden := gb hden
    obtain ⟨S5, hz, hden⟩ := hden
    refine g_callV (As := [.int x2]) (rest := []) X hZ (c_Mo_hours hz) cl_Mo (gOb_spec ho) q_899 q_5 q_896 q_898 qp_35 ⟨by decide, by decide, by show _ = some 1; decide +kernel⟩ ⟨by decide, by decide⟩ hl.1 (Nat.le_of_ble_eq_true rfl) d_Mo_planRow_187 rfl rfl ?_
    exact w_Mo_planRow_190 Y  x0 x2 S5 hden (lv_sub hl [0, 1] rfl)
def B_Mo_planRow_144  (x0 : Nat) (x2 : Int32) (S : gS) : Option gS := Option.bind (gOb S x0 10) (fun fs2 => Option.bind (D_Mo_expect x0 45 S) (fun S1 => Option.bind (gI S1 x0 10 5) (fun v3 => (if v3 = 0 then Option.bind (gRf S1 x0 10 14) (fun r5 => Option.bind (gRf S1 x0 10 13) (fun r6 => Option.bind r6 (fun a7 => Option.bind (gAI S1 a7 0 x2) (fun v8 => Option.bind (gOb S1 x0 10) (fun fs11 => gB2 (D_Mo_number x0 v8 999 S1) (fun v10 S9 => Option.bind r5 (fun a12 => Option.bind (gSI S9 a12 0 x2 v10) (fun S13 => B_Mo_planRow_176  x0 x2 S13)))))))) else B_Mo_planRow_176  x0 x2 S1))))
set_option maxRecDepth 100000 in
set_option maxHeartbeats 4000000 in
theorem w_Mo_planRow_144 {D : va_G} {cT : Nat → ClassId} {H0 : Heap} {l : Launch} {p : Program} {e : Env} {s : State} {m : MethodId} {args : Array Value} {below : List Frame} {meth : Method} {c : Code} {S0 : gS} {S' : gS} (Y : gY D cT H0 p s m args meth c prog_12_method_16_code 3 "PlanTextModel" 5 113 S0 (Option.none : Option Jvm.ClassFile.FieldType))  (x0 : Nat) (x2 : Int32) (S : gS) (hden : B_Mo_planRow_144  x0 x2 S = some S') {ls : Array Slot} (hl : lv_has ls 3 [(0, va_rf (some x0)), (2, .int x2)]) : gV D cT H0 p l e (gRm 5 113 S0) s m args below meth c (gQ D cT H0 below S0 S' (.inr none) s) S0 S (F0 m 144 ls []) := by
  obtain ⟨X, hZ, hex, hr, hE⟩ := id Y
  have hx := X.1
  have hb := X.2.1
  unfold B_Mo_planRow_144 at hden
  refine gV.lift (fun _ _ _ _ => g_aload_n hx hb d_Mo_planRow_144 rfl (lv_at hl 0 rfl)) ?_
  refine gV.lift (fun _ _ _ _ => lv_bipush (v := 45) hx hb d_Mo_planRow_145 (by decide)) ?_
  replace hden := gb hden
  obtain ⟨fs2, ho, hden⟩ := hden
  replace hden := gb hden
  obtain ⟨S1, hz, hden⟩ := hden
  refine g_callV (As := [.int 45]) (rest := []) X hZ (c_Mo_expect hz) cl_Mo (gOb_spec ho) q_891 q_5 q_888 q_890 qp_33 ⟨by decide, by decide, by show _ = some 1; decide +kernel⟩ ⟨by decide, by decide⟩ hl.1 (Nat.le_of_ble_eq_true rfl) d_Mo_planRow_147 rfl rfl ?_
  refine gV.lift (fun _ _ _ _ => g_aload_n hx hb d_Mo_planRow_150 rfl (lv_at hl 0 rfl)) ?_
  replace hden := gb hden
  obtain ⟨v3, hv, hden⟩ := hden
  refine r_getI X cl_Mo (k := 5) hv (by decide) q_770 d_Mo_planRow_151 ?_
  refine gV.lift2 (fun _ _ _ _ => lv_if_ne (tgt := 176) hx hb d_Mo_planRow_154 (by decide)) (fun hc4 => ?_) (fun hc4 => ?_)
  · replace hden := gin hc4 hden
    exact w_Mo_planRow_176 Y  x0 x2 S1 hden (lv_sub hl [0, 1] rfl)
  · replace hden := gip hc4 hden
    refine gV.lift (fun _ _ _ _ => g_aload_n hx hb d_Mo_planRow_157 rfl (lv_at hl 0 rfl)) ?_
    replace hden := gb hden
    obtain ⟨r5, hv, hden⟩ := hden
    refine r_getR X cl_Mo (k := 14) hv (by decide) q_779 d_Mo_planRow_158 ?_
    refine gV.lift (fun _ _ _ _ => lv_iload_n hx hb d_Mo_planRow_161 rfl (lv_at hl 1 rfl)) ?_
    refine gV.lift (fun _ _ _ _ => g_aload_n hx hb d_Mo_planRow_162 rfl (lv_at hl 0 rfl)) ?_
    refine gV.lift (fun _ _ _ _ => g_aload_n hx hb d_Mo_planRow_163 rfl (lv_at hl 0 rfl)) ?_
    replace hden := gb hden
    obtain ⟨r6, hv, hden⟩ := hden
    refine r_getR X cl_Mo (k := 13) hv (by decide) q_778 d_Mo_planRow_164 ?_
    refine gV.lift (fun _ _ _ _ => lv_iload_n hx hb d_Mo_planRow_167 rfl (lv_at hl 1 rfl)) ?_
    replace hden := gb hden
    obtain ⟨a7, rfl, hden⟩ := hden
    replace hden := gb hden
    obtain ⟨v8, hv, hden⟩ := hden
    refine r_iald X (t := 0) rfl hv d_Mo_planRow_168 ?_
    refine gV.lift (fun _ _ _ _ => lv_sipush (v := 999) hx hb d_Mo_planRow_169 (by decide)) ?_
    replace hden := gb hden
    obtain ⟨fs11, ho, hden⟩ := hden
    replace hden := gb2 hden
    obtain ⟨v10, S9, hz, hden⟩ := hden
    refine g_callV (As := [.int v8, .int 999]) (rest := [.int x2, va_rf r5]) X hZ (c_Mo_number hz) cl_Mo (gOb_spec ho) q_883 q_5 q_880 q_882 qp_31 ⟨by decide, by decide, by show _ = some 2; decide +kernel⟩ ⟨by decide, by decide⟩ hl.1 (by cases r5 <;> exact Nat.le_of_ble_eq_true rfl) d_Mo_planRow_172 rfl rfl ?_
    replace hden := gb hden
    obtain ⟨a12, rfl, hden⟩ := hden
    replace hden := gb hden
    obtain ⟨S13, hv, hden⟩ := hden
    refine r_iast X (t := 0) rfl hv d_Mo_planRow_175 ?_
    exact w_Mo_planRow_176 Y  x0 x2 S13 hden (lv_sub hl [0, 1] rfl)
def B_Mo_planRow_95  (x0 : Nat) (x2 : Int32) (S : gS) : Option gS := Option.bind (gOb S x0 10) (fun fs3 => gB2 (D_Mo_goesOn x0 64 S) (fun v2 S1 => (if v2 = 0 then B_Mo_planRow_176  x0 x2 S1 else Option.bind (gRf S1 x0 10 12) (fun r5 => Option.bind (gOb S1 x0 10) (fun fs8 => gB2 (D_Mo_number x0 1 99 S1) (fun v7 S6 => Option.bind r5 (fun a9 => Option.bind (gSI S6 a9 0 x2 v7) (fun S10 => Option.bind (gOb S10 x0 10) (fun fs12 => Option.bind (D_Mo_expect x0 35 S10) (fun S11 => Option.bind (gI S11 x0 10 5) (fun v13 => (if v13 = 0 then Option.bind (gRf S11 x0 10 13) (fun r15 => Option.bind (gOb S11 x0 10) (fun fs18 => gB2 (D_Mo_number x0 1 999 S11) (fun v17 S16 => Option.bind r15 (fun a19 => Option.bind (gSI S16 a19 0 x2 v17) (fun S20 => B_Mo_planRow_144  x0 x2 S20))))) else B_Mo_planRow_144  x0 x2 S11))))))))))))
set_option maxRecDepth 100000 in
set_option maxHeartbeats 4000000 in
theorem w_Mo_planRow_95 {D : va_G} {cT : Nat → ClassId} {H0 : Heap} {l : Launch} {p : Program} {e : Env} {s : State} {m : MethodId} {args : Array Value} {below : List Frame} {meth : Method} {c : Code} {S0 : gS} {S' : gS} (Y : gY D cT H0 p s m args meth c prog_12_method_16_code 3 "PlanTextModel" 5 113 S0 (Option.none : Option Jvm.ClassFile.FieldType))  (x0 : Nat) (x2 : Int32) (S : gS) (hden : B_Mo_planRow_95  x0 x2 S = some S') {ls : Array Slot} (hl : lv_has ls 3 [(0, va_rf (some x0)), (2, .int x2)]) : gV D cT H0 p l e (gRm 5 113 S0) s m args below meth c (gQ D cT H0 below S0 S' (.inr none) s) S0 S (F0 m 95 ls []) := by
  obtain ⟨X, hZ, hex, hr, hE⟩ := id Y
  have hx := X.1
  have hb := X.2.1
  unfold B_Mo_planRow_95 at hden
  refine gV.lift (fun _ _ _ _ => g_aload_n hx hb d_Mo_planRow_95 rfl (lv_at hl 0 rfl)) ?_
  refine gV.lift (fun _ _ _ _ => lv_bipush (v := 64) hx hb d_Mo_planRow_96 (by decide)) ?_
  replace hden := gb hden
  obtain ⟨fs3, ho, hden⟩ := hden
  replace hden := gb2 hden
  obtain ⟨v2, S1, hz, hden⟩ := hden
  refine g_callV (As := [.int 64]) (rest := []) X hZ (c_Mo_goesOn hz) cl_Mo (gOb_spec ho) q_895 q_5 q_892 q_894 qp_34 ⟨by decide, by decide, by show _ = some 1; decide +kernel⟩ ⟨by decide, by decide⟩ hl.1 (Nat.le_of_ble_eq_true rfl) d_Mo_planRow_98 rfl rfl ?_
  refine gV.lift2 (fun _ _ _ _ => lv_if_eq (tgt := 176) hx hb d_Mo_planRow_101 (by decide)) (fun hc4 => ?_) (fun hc4 => ?_)
  · replace hden := gip hc4 hden
    exact w_Mo_planRow_176 Y  x0 x2 S1 hden (lv_sub hl [0, 1] rfl)
  · replace hden := gin hc4 hden
    refine gV.lift (fun _ _ _ _ => g_aload_n hx hb d_Mo_planRow_104 rfl (lv_at hl 0 rfl)) ?_
    replace hden := gb hden
    obtain ⟨r5, hv, hden⟩ := hden
    refine r_getR X cl_Mo (k := 12) hv (by decide) q_777 d_Mo_planRow_105 ?_
    refine gV.lift (fun _ _ _ _ => lv_iload_n hx hb d_Mo_planRow_108 rfl (lv_at hl 1 rfl)) ?_
    refine gV.lift (fun _ _ _ _ => g_aload_n hx hb d_Mo_planRow_109 rfl (lv_at hl 0 rfl)) ?_
    refine gV.lift (fun _ _ _ _ => lv_iconst (v := 1) hx hb d_Mo_planRow_110 (by decide)) ?_
    refine gV.lift (fun _ _ _ _ => lv_bipush (v := 99) hx hb d_Mo_planRow_111 (by decide)) ?_
    replace hden := gb hden
    obtain ⟨fs8, ho, hden⟩ := hden
    replace hden := gb2 hden
    obtain ⟨v7, S6, hz, hden⟩ := hden
    refine g_callV (As := [.int 1, .int 99]) (rest := [.int x2, va_rf r5]) X hZ (c_Mo_number hz) cl_Mo (gOb_spec ho) q_883 q_5 q_880 q_882 qp_31 ⟨by decide, by decide, by show _ = some 2; decide +kernel⟩ ⟨by decide, by decide⟩ hl.1 (by cases r5 <;> exact Nat.le_of_ble_eq_true rfl) d_Mo_planRow_113 rfl rfl ?_
    replace hden := gb hden
    obtain ⟨a9, rfl, hden⟩ := hden
    replace hden := gb hden
    obtain ⟨S10, hv, hden⟩ := hden
    refine r_iast X (t := 0) rfl hv d_Mo_planRow_116 ?_
    refine gV.lift (fun _ _ _ _ => g_aload_n hx hb d_Mo_planRow_117 rfl (lv_at hl 0 rfl)) ?_
    refine gV.lift (fun _ _ _ _ => lv_bipush (v := 35) hx hb d_Mo_planRow_118 (by decide)) ?_
    replace hden := gb hden
    obtain ⟨fs12, ho, hden⟩ := hden
    replace hden := gb hden
    obtain ⟨S11, hz, hden⟩ := hden
    refine g_callV (As := [.int 35]) (rest := []) X hZ (c_Mo_expect hz) cl_Mo (gOb_spec ho) q_891 q_5 q_888 q_890 qp_33 ⟨by decide, by decide, by show _ = some 1; decide +kernel⟩ ⟨by decide, by decide⟩ hl.1 (Nat.le_of_ble_eq_true rfl) d_Mo_planRow_120 rfl rfl ?_
    refine gV.lift (fun _ _ _ _ => g_aload_n hx hb d_Mo_planRow_123 rfl (lv_at hl 0 rfl)) ?_
    replace hden := gb hden
    obtain ⟨v13, hv, hden⟩ := hden
    refine r_getI X cl_Mo (k := 5) hv (by decide) q_770 d_Mo_planRow_124 ?_
    refine gV.lift2 (fun _ _ _ _ => lv_if_ne (tgt := 144) hx hb d_Mo_planRow_127 (by decide)) (fun hc14 => ?_) (fun hc14 => ?_)
    · replace hden := gin hc14 hden
      exact w_Mo_planRow_144 Y  x0 x2 S11 hden (lv_sub hl [0, 1] rfl)
    · replace hden := gip hc14 hden
      refine gV.lift (fun _ _ _ _ => g_aload_n hx hb d_Mo_planRow_130 rfl (lv_at hl 0 rfl)) ?_
      replace hden := gb hden
      obtain ⟨r15, hv, hden⟩ := hden
      refine r_getR X cl_Mo (k := 13) hv (by decide) q_778 d_Mo_planRow_131 ?_
      refine gV.lift (fun _ _ _ _ => lv_iload_n hx hb d_Mo_planRow_134 rfl (lv_at hl 1 rfl)) ?_
      refine gV.lift (fun _ _ _ _ => g_aload_n hx hb d_Mo_planRow_135 rfl (lv_at hl 0 rfl)) ?_
      refine gV.lift (fun _ _ _ _ => lv_iconst (v := 1) hx hb d_Mo_planRow_136 (by decide)) ?_
      refine gV.lift (fun _ _ _ _ => lv_sipush (v := 999) hx hb d_Mo_planRow_137 (by decide)) ?_
      replace hden := gb hden
      obtain ⟨fs18, ho, hden⟩ := hden
      replace hden := gb2 hden
      obtain ⟨v17, S16, hz, hden⟩ := hden
      refine g_callV (As := [.int 1, .int 999]) (rest := [.int x2, va_rf r15]) X hZ (c_Mo_number hz) cl_Mo (gOb_spec ho) q_883 q_5 q_880 q_882 qp_31 ⟨by decide, by decide, by show _ = some 2; decide +kernel⟩ ⟨by decide, by decide⟩ hl.1 (by cases r15 <;> exact Nat.le_of_ble_eq_true rfl) d_Mo_planRow_140 rfl rfl ?_
      replace hden := gb hden
      obtain ⟨a19, rfl, hden⟩ := hden
      replace hden := gb hden
      obtain ⟨S20, hv, hden⟩ := hden
      refine r_iast X (t := 0) rfl hv d_Mo_planRow_143 ?_
      exact w_Mo_planRow_144 Y  x0 x2 S20 hden (lv_sub hl [0, 1] rfl)
def B_Mo_planRow_40  (x0 : Nat) (x2 : Int32) (S : gS) : Option gS := Option.bind (gI S x0 10 5) (fun v1 => (if v1 = 0 then Option.bind (gRf S x0 10 10) (fun r3 => Option.bind r3 (fun a4 => Option.bind (gZo 1) (fun v6 => Option.bind (gSI S a4 3 x2 v6) (fun S5 => Option.bind (gRf S5 x0 10 12) (fun r7 => Option.bind r7 (fun a8 => Option.bind (gSI S5 a8 0 x2 0) (fun S9 => Option.bind (gRf S9 x0 10 15) (fun r10 => Option.bind r10 (fun a11 => Option.bind (gSI S9 a11 0 x2 (-1)) (fun S12 => Option.bind (gOb S12 x0 10) (fun fs14 => Option.bind (D_Mo_expect x0 107 S12) (fun S13 => Option.bind (gI S13 x0 10 5) (fun v15 => (if v15 = 0 then Option.bind (gRf S13 x0 10 11) (fun r17 => Option.bind (gOb S13 x0 10) (fun fs20 => gB2 (D_Mo_number x0 1 9 S13) (fun v19 S18 => Option.bind r17 (fun a21 => Option.bind (gSI S18 a21 0 x2 v19) (fun S22 => B_Mo_planRow_95  x0 x2 S22))))) else B_Mo_planRow_95  x0 x2 S13)))))))))))))) else some S))
set_option maxRecDepth 100000 in
set_option maxHeartbeats 4000000 in
theorem w_Mo_planRow_40 {D : va_G} {cT : Nat → ClassId} {H0 : Heap} {l : Launch} {p : Program} {e : Env} {s : State} {m : MethodId} {args : Array Value} {below : List Frame} {meth : Method} {c : Code} {S0 : gS} {S' : gS} (Y : gY D cT H0 p s m args meth c prog_12_method_16_code 3 "PlanTextModel" 5 113 S0 (Option.none : Option Jvm.ClassFile.FieldType))  (x0 : Nat) (x2 : Int32) (S : gS) (hden : B_Mo_planRow_40  x0 x2 S = some S') {ls : Array Slot} (hl : lv_has ls 3 [(0, va_rf (some x0)), (2, .int x2)]) : gV D cT H0 p l e (gRm 5 113 S0) s m args below meth c (gQ D cT H0 below S0 S' (.inr none) s) S0 S (F0 m 40 ls []) := by
  obtain ⟨X, hZ, hex, hr, hE⟩ := id Y
  have hx := X.1
  have hb := X.2.1
  unfold B_Mo_planRow_40 at hden
  refine gV.lift (fun _ _ _ _ => g_aload_n hx hb d_Mo_planRow_40 rfl (lv_at hl 0 rfl)) ?_
  replace hden := gb hden
  obtain ⟨v1, hv, hden⟩ := hden
  refine r_getI X cl_Mo (k := 5) hv (by decide) q_770 d_Mo_planRow_41 ?_
  refine gV.lift2 (fun _ _ _ _ => lv_if_eq (tgt := 48) hx hb d_Mo_planRow_44 (by decide)) (fun hc2 => ?_) (fun hc2 => ?_)
  · replace hden := gip hc2 hden
    refine gV.lift (fun _ _ _ _ => g_aload_n hx hb d_Mo_planRow_48 rfl (lv_at hl 0 rfl)) ?_
    replace hden := gb hden
    obtain ⟨r3, hv, hden⟩ := hden
    refine r_getR X cl_Mo (k := 10) hv (by decide) q_775 d_Mo_planRow_49 ?_
    refine gV.lift (fun _ _ _ _ => lv_iload_n hx hb d_Mo_planRow_52 rfl (lv_at hl 1 rfl)) ?_
    refine gV.lift (fun _ _ _ _ => lv_iconst (v := 1) hx hb d_Mo_planRow_53 (by decide)) ?_
    replace hden := gb hden
    obtain ⟨a4, rfl, hden⟩ := hden
    replace hden := gb hden
    obtain ⟨v6, hz, hden⟩ := hden
    replace hden := gb hden
    obtain ⟨S5, hv, hden⟩ := hden
    refine r_zast X (t := 3) rfl hz hv d_Mo_planRow_54 ?_
    refine gV.lift (fun _ _ _ _ => g_aload_n hx hb d_Mo_planRow_55 rfl (lv_at hl 0 rfl)) ?_
    replace hden := gb hden
    obtain ⟨r7, hv, hden⟩ := hden
    refine r_getR X cl_Mo (k := 12) hv (by decide) q_777 d_Mo_planRow_56 ?_
    refine gV.lift (fun _ _ _ _ => lv_iload_n hx hb d_Mo_planRow_59 rfl (lv_at hl 1 rfl)) ?_
    refine gV.lift (fun _ _ _ _ => lv_iconst (v := 0) hx hb d_Mo_planRow_60 (by decide)) ?_
    replace hden := gb hden
    obtain ⟨a8, rfl, hden⟩ := hden
    replace hden := gb hden
    obtain ⟨S9, hv, hden⟩ := hden
    refine r_iast X (t := 0) rfl hv d_Mo_planRow_61 ?_
    refine gV.lift (fun _ _ _ _ => g_aload_n hx hb d_Mo_planRow_62 rfl (lv_at hl 0 rfl)) ?_
    replace hden := gb hden
    obtain ⟨r10, hv, hden⟩ := hden
    refine r_getR X cl_Mo (k := 15) hv (by decide) q_780 d_Mo_planRow_63 ?_
    refine gV.lift (fun _ _ _ _ => lv_iload_n hx hb d_Mo_planRow_66 rfl (lv_at hl 1 rfl)) ?_
    refine gV.lift (fun _ _ _ _ => lv_iconst (v := (-1)) hx hb d_Mo_planRow_67 (by decide)) ?_
    replace hden := gb hden
    obtain ⟨a11, rfl, hden⟩ := hden
    replace hden := gb hden
    obtain ⟨S12, hv, hden⟩ := hden
    refine r_iast X (t := 0) rfl hv d_Mo_planRow_68 ?_
    refine gV.lift (fun _ _ _ _ => g_aload_n hx hb d_Mo_planRow_69 rfl (lv_at hl 0 rfl)) ?_
    refine gV.lift (fun _ _ _ _ => lv_bipush (v := 107) hx hb d_Mo_planRow_70 (by decide)) ?_
    replace hden := gb hden
    obtain ⟨fs14, ho, hden⟩ := hden
    replace hden := gb hden
    obtain ⟨S13, hz, hden⟩ := hden
    refine g_callV (As := [.int 107]) (rest := []) X hZ (c_Mo_expect hz) cl_Mo (gOb_spec ho) q_891 q_5 q_888 q_890 qp_33 ⟨by decide, by decide, by show _ = some 1; decide +kernel⟩ ⟨by decide, by decide⟩ hl.1 (Nat.le_of_ble_eq_true rfl) d_Mo_planRow_72 rfl rfl ?_
    refine gV.lift (fun _ _ _ _ => g_aload_n hx hb d_Mo_planRow_75 rfl (lv_at hl 0 rfl)) ?_
    replace hden := gb hden
    obtain ⟨v15, hv, hden⟩ := hden
    refine r_getI X cl_Mo (k := 5) hv (by decide) q_770 d_Mo_planRow_76 ?_
    refine gV.lift2 (fun _ _ _ _ => lv_if_ne (tgt := 95) hx hb d_Mo_planRow_79 (by decide)) (fun hc16 => ?_) (fun hc16 => ?_)
    · replace hden := gin hc16 hden
      exact w_Mo_planRow_95 Y  x0 x2 S13 hden (lv_sub hl [0, 1] rfl)
    · replace hden := gip hc16 hden
      refine gV.lift (fun _ _ _ _ => g_aload_n hx hb d_Mo_planRow_82 rfl (lv_at hl 0 rfl)) ?_
      replace hden := gb hden
      obtain ⟨r17, hv, hden⟩ := hden
      refine r_getR X cl_Mo (k := 11) hv (by decide) q_776 d_Mo_planRow_83 ?_
      refine gV.lift (fun _ _ _ _ => lv_iload_n hx hb d_Mo_planRow_86 rfl (lv_at hl 1 rfl)) ?_
      refine gV.lift (fun _ _ _ _ => g_aload_n hx hb d_Mo_planRow_87 rfl (lv_at hl 0 rfl)) ?_
      refine gV.lift (fun _ _ _ _ => lv_iconst (v := 1) hx hb d_Mo_planRow_88 (by decide)) ?_
      refine gV.lift (fun _ _ _ _ => lv_bipush (v := 9) hx hb d_Mo_planRow_89 (by decide)) ?_
      replace hden := gb hden
      obtain ⟨fs20, ho, hden⟩ := hden
      replace hden := gb2 hden
      obtain ⟨v19, S18, hz, hden⟩ := hden
      refine g_callV (As := [.int 1, .int 9]) (rest := [.int x2, va_rf r17]) X hZ (c_Mo_number hz) cl_Mo (gOb_spec ho) q_883 q_5 q_880 q_882 qp_31 ⟨by decide, by decide, by show _ = some 2; decide +kernel⟩ ⟨by decide, by decide⟩ hl.1 (by cases r17 <;> exact Nat.le_of_ble_eq_true rfl) d_Mo_planRow_91 rfl rfl ?_
      replace hden := gb hden
      obtain ⟨a21, rfl, hden⟩ := hden
      replace hden := gb hden
      obtain ⟨S22, hv, hden⟩ := hden
      refine r_iast X (t := 0) rfl hv d_Mo_planRow_94 ?_
      exact w_Mo_planRow_95 Y  x0 x2 S22 hden (lv_sub hl [0, 1] rfl)
  · replace hden := gin hc2 hden
    obtain rfl := gsi hden
    exact g_vret X hr d_Mo_planRow_47
def D_Mo_planRow (h0 : Nat) (S : gS) : Option gS := Option.bind (gOb S h0 10) (fun fs3 => gB2 (D_Mo_number h0 1 40 S) (fun v2 S1 => Option.bind (gI S1 h0 10 5) (fun v4 => (if v4 = 0 then Option.bind (gRf S1 h0 10 10) (fun r6 => Option.bind r6 (fun a7 => Option.bind (gAI S1 a7 3 (300 + v2)) (fun v8 => (if v8 = 0 then B_Mo_planRow_40  h0 (300 + v2) S1 else Option.bind (gI S1 h0 10 4) (fun v10 => Option.bind (gOb S1 h0 10) (fun fs12 => Option.bind (D_Mo_fail h0 (v10 - 1) S1) (fun S11 => B_Mo_planRow_40  h0 (300 + v2) S11))))))) else B_Mo_planRow_40  h0 (300 + v2) S1))))
set_option maxRecDepth 100000 in
set_option maxHeartbeats 4000000 in
theorem c_Mo_planRow {D : va_G} {cT : Nat → ClassId} {H0 : Heap} {l : Launch} {S : gS} {S' : gS} {h0 : Nat} (hden : D_Mo_planRow h0 S = some S') : gM D cT H0 l y_Mo_planRow (Cond.code y_Mo_planRow prog_12_method_16_code 3 (Option.none : Option Jvm.ClassFile.FieldType)) 5 113 [va_rf (some h0)] S S' (.inr none) := by
  refine gM.ofV (by decide) ?_
  intro p e s m args below meth c s₁ B hml ea X hZ hex hr hE
  subst ea
  have Y : gY D cT H0 p s m _ meth c prog_12_method_16_code 3 "PlanTextModel" 5 113 S (Option.none : Option Jvm.ClassFile.FieldType) := ⟨X, hZ, hex, hr, hE⟩
  have hx := X.1
  have hb := X.2.1
  have hl := lv_entry ([va_rf (some h0)]) (n := 3) (Nat.le_of_ble_eq_true rfl)
  rw [lg_entry_eq]
  generalize (lg_sl ([va_rf (some h0)]) ++ List.replicate (3 - (lg_sl ([va_rf (some h0)])).length) Slot.unset).toArray = ls at hl ⊢
  have hl : lv_has ls 3 [(0, va_rf (some h0))] := hl
  unfold D_Mo_planRow at hden
  refine gV.lift (fun _ _ _ _ => g_aload_n hx hb d_Mo_planRow_0 rfl (lv_at hl 0 rfl)) ?_
  refine gV.lift (fun _ _ _ _ => lv_iconst (v := 1) hx hb d_Mo_planRow_1 (by decide)) ?_
  refine gV.lift (fun _ _ _ _ => lv_bipush (v := 40) hx hb d_Mo_planRow_2 (by decide)) ?_
  replace hden := gb hden
  obtain ⟨fs3, ho, hden⟩ := hden
  replace hden := gb2 hden
  obtain ⟨v2, S1, hz, hden⟩ := hden
  refine g_callV (As := [.int 1, .int 40]) (rest := []) X hZ (c_Mo_number hz) cl_Mo (gOb_spec ho) q_883 q_5 q_880 q_882 qp_31 ⟨by decide, by decide, by show _ = some 2; decide +kernel⟩ ⟨by decide, by decide⟩ hl.1 (Nat.le_of_ble_eq_true rfl) d_Mo_planRow_4 rfl rfl ?_
  refine gV.liftS (nL := 3) (lv' := [(1, .int v2), (0, va_rf (some h0))]) (fun _ _ _ _ => lv_istore_n hx hb d_Mo_planRow_7 rfl hl (by decide) rfl) (fun ls hl => ?_)
  refine gV.lift (fun _ _ _ _ => lv_sipush (v := 300) hx hb d_Mo_planRow_8 (by decide)) ?_
  refine gV.lift (fun _ _ _ _ => lv_iload_n hx hb d_Mo_planRow_11 rfl (lv_at hl 0 rfl)) ?_
  refine gV.lift (fun _ _ _ _ => lv_iadd hx hb d_Mo_planRow_12) ?_
  refine gV.liftS (nL := 3) (lv' := [(2, .int (300 + v2)), (1, .int v2), (0, va_rf (some h0))]) (fun _ _ _ _ => lv_istore_n hx hb d_Mo_planRow_13 rfl hl (by decide) rfl) (fun ls hl => ?_)
  refine gV.lift (fun _ _ _ _ => g_aload_n hx hb d_Mo_planRow_14 rfl (lv_at hl 2 rfl)) ?_
  replace hden := gb hden
  obtain ⟨v4, hv, hden⟩ := hden
  refine r_getI X cl_Mo (k := 5) hv (by decide) q_770 d_Mo_planRow_15 ?_
  refine gV.lift2 (fun _ _ _ _ => lv_if_ne (tgt := 40) hx hb d_Mo_planRow_18 (by decide)) (fun hc5 => ?_) (fun hc5 => ?_)
  · replace hden := gin hc5 hden
    exact w_Mo_planRow_40 Y  h0 (300 + v2) S1 hden (lv_sub hl [2, 0] rfl)
  · replace hden := gip hc5 hden
    refine gV.lift (fun _ _ _ _ => g_aload_n hx hb d_Mo_planRow_21 rfl (lv_at hl 2 rfl)) ?_
    replace hden := gb hden
    obtain ⟨r6, hv, hden⟩ := hden
    refine r_getR X cl_Mo (k := 10) hv (by decide) q_775 d_Mo_planRow_22 ?_
    refine gV.lift (fun _ _ _ _ => lv_iload_n hx hb d_Mo_planRow_25 rfl (lv_at hl 0 rfl)) ?_
    replace hden := gb hden
    obtain ⟨a7, rfl, hden⟩ := hden
    replace hden := gb hden
    obtain ⟨v8, hv, hden⟩ := hden
    refine r_zald X (t := 3) rfl hv d_Mo_planRow_26 ?_
    refine gV.lift2 (fun _ _ _ _ => lv_if_eq (tgt := 40) hx hb d_Mo_planRow_27 (by decide)) (fun hc9 => ?_) (fun hc9 => ?_)
    · replace hden := gip hc9 hden
      exact w_Mo_planRow_40 Y  h0 (300 + v2) S1 hden (lv_sub hl [2, 0] rfl)
    · replace hden := gin hc9 hden
      refine gV.lift (fun _ _ _ _ => g_aload_n hx hb d_Mo_planRow_30 rfl (lv_at hl 2 rfl)) ?_
      refine gV.lift (fun _ _ _ _ => g_aload_n hx hb d_Mo_planRow_31 rfl (lv_at hl 2 rfl)) ?_
      replace hden := gb hden
      obtain ⟨v10, hv, hden⟩ := hden
      refine r_getI X cl_Mo (k := 4) hv (by decide) q_769 d_Mo_planRow_32 ?_
      refine gV.lift (fun _ _ _ _ => lv_iconst (v := 1) hx hb d_Mo_planRow_35 (by decide)) ?_
      refine gV.lift (fun _ _ _ _ => lv_isub hx hb d_Mo_planRow_36) ?_
      replace hden := gb hden
      obtain ⟨fs12, ho, hden⟩ := hden
      replace hden := gb hden
      obtain ⟨S11, hz, hden⟩ := hden
      refine g_callV (As := [.int (v10 - 1)]) (rest := []) X hZ (c_Mo_fail hz) cl_Mo (gOb_spec ho) q_875 q_5 q_872 q_874 qp_29 ⟨by decide, by decide, by show _ = some 1; decide +kernel⟩ ⟨by decide, by decide⟩ hl.1 (Nat.le_of_ble_eq_true rfl) d_Mo_planRow_37 rfl rfl ?_
      exact w_Mo_planRow_40 Y  h0 (300 + v2) S11 hden (lv_sub hl [2, 0] rfl)
/-! PlanTextModel.defaultRow()V -/
abbrev y_Mo_defaultRow : MethodName := ⟨"PlanTextModel", "defaultRow", "()V"⟩
theorem d_Mo_defaultRow_0 : decode prog_12_method_17_code 0 = .ok (.aload_n 0, 1) := by decide +kernel
theorem d_Mo_defaultRow_1 : decode prog_12_method_17_code 1 = .ok (.iconst 1, 1) := by decide +kernel
theorem d_Mo_defaultRow_2 : decode prog_12_method_17_code 2 = .ok (.bipush 9, 2) := by decide +kernel
theorem d_Mo_defaultRow_4 : decode prog_12_method_17_code 4 = .ok (.invokevirtual 105, 3) := by decide +kernel
theorem d_Mo_defaultRow_7 : decode prog_12_method_17_code 7 = .ok (.istore_n 1, 1) := by decide +kernel
theorem d_Mo_defaultRow_8 : decode prog_12_method_17_code 8 = .ok (.sipush 340, 3) := by decide +kernel
theorem d_Mo_defaultRow_11 : decode prog_12_method_17_code 11 = .ok (.iload_n 1, 1) := by decide +kernel
theorem d_Mo_defaultRow_12 : decode prog_12_method_17_code 12 = .ok (.iadd, 1) := by decide +kernel
theorem d_Mo_defaultRow_13 : decode prog_12_method_17_code 13 = .ok (.istore_n 2, 1) := by decide +kernel
theorem d_Mo_defaultRow_14 : decode prog_12_method_17_code 14 = .ok (.aload_n 0, 1) := by decide +kernel
theorem d_Mo_defaultRow_15 : decode prog_12_method_17_code 15 = .ok (.getfield 83, 3) := by decide +kernel
theorem d_Mo_defaultRow_18 : decode prog_12_method_17_code 18 = .ok (.ifCond .ne 22, 3) := by decide +kernel
theorem d_Mo_defaultRow_21 : decode prog_12_method_17_code 21 = .ok (.aload_n 0, 1) := by decide +kernel
theorem d_Mo_defaultRow_22 : decode prog_12_method_17_code 22 = .ok (.getfield 20, 3) := by decide +kernel
theorem d_Mo_defaultRow_25 : decode prog_12_method_17_code 25 = .ok (.iload_n 2, 1) := by decide +kernel
theorem d_Mo_defaultRow_26 : decode prog_12_method_17_code 26 = .ok (.baload, 1) := by decide +kernel
theorem d_Mo_defaultRow_27 : decode prog_12_method_17_code 27 = .ok (.ifCond .eq 13, 3) := by decide +kernel
theorem d_Mo_defaultRow_30 : decode prog_12_method_17_code 30 = .ok (.aload_n 0, 1) := by decide +kernel
theorem d_Mo_defaultRow_31 : decode prog_12_method_17_code 31 = .ok (.aload_n 0, 1) := by decide +kernel
theorem d_Mo_defaultRow_32 : decode prog_12_method_17_code 32 = .ok (.getfield 87, 3) := by decide +kernel
theorem d_Mo_defaultRow_35 : decode prog_12_method_17_code 35 = .ok (.iconst 1, 1) := by decide +kernel
theorem d_Mo_defaultRow_36 : decode prog_12_method_17_code 36 = .ok (.isub, 1) := by decide +kernel
theorem d_Mo_defaultRow_37 : decode prog_12_method_17_code 37 = .ok (.invokevirtual 97, 3) := by decide +kernel
theorem d_Mo_defaultRow_40 : decode prog_12_method_17_code 40 = .ok (.aload_n 0, 1) := by decide +kernel
theorem d_Mo_defaultRow_41 : decode prog_12_method_17_code 41 = .ok (.getfield 83, 3) := by decide +kernel
theorem d_Mo_defaultRow_44 : decode prog_12_method_17_code 44 = .ok (.ifCond .eq 4, 3) := by decide +kernel
theorem d_Mo_defaultRow_47 : decode prog_12_method_17_code 47 = .ok (.return_, 1) := by decide +kernel
theorem d_Mo_defaultRow_48 : decode prog_12_method_17_code 48 = .ok (.aload_n 0, 1) := by decide +kernel
theorem d_Mo_defaultRow_49 : decode prog_12_method_17_code 49 = .ok (.getfield 20, 3) := by decide +kernel
theorem d_Mo_defaultRow_52 : decode prog_12_method_17_code 52 = .ok (.iload_n 2, 1) := by decide +kernel
theorem d_Mo_defaultRow_53 : decode prog_12_method_17_code 53 = .ok (.iconst 1, 1) := by decide +kernel
theorem d_Mo_defaultRow_54 : decode prog_12_method_17_code 54 = .ok (.bastore, 1) := by decide +kernel
theorem d_Mo_defaultRow_55 : decode prog_12_method_17_code 55 = .ok (.aload_n 0, 1) := by decide +kernel
theorem d_Mo_defaultRow_56 : decode prog_12_method_17_code 56 = .ok (.bipush 58, 2) := by decide +kernel
theorem d_Mo_defaultRow_58 : decode prog_12_method_17_code 58 = .ok (.invokevirtual 109, 3) := by decide +kernel
theorem d_Mo_defaultRow_61 : decode prog_12_method_17_code 61 = .ok (.aload_n 0, 1) := by decide +kernel
theorem d_Mo_defaultRow_62 : decode prog_12_method_17_code 62 = .ok (.iload_n 2, 1) := by decide +kernel
theorem d_Mo_defaultRow_63 : decode prog_12_method_17_code 63 = .ok (.invokevirtual 124, 3) := by decide +kernel
theorem d_Mo_defaultRow_66 : decode prog_12_method_17_code 66 = .ok (.return_, 1) := by decide +kernel
def B_Mo_defaultRow_40  (x0 : Nat) (x2 : Int32) (S : gS) : Option gS := Option.bind (gI S x0 10 5) (fun v1 => (if v1 = 0 then Option.bind (gRf S x0 10 10) (fun r3 => Option.bind r3 (fun a4 => Option.bind (gZo 1) (fun v6 => Option.bind (gSI S a4 3 x2 v6) (fun S5 => Option.bind (gOb S5 x0 10) (fun fs8 => Option.bind (D_Mo_expect x0 58 S5) (fun S7 => Option.bind (gOb S7 x0 10) (fun fs10 => Option.bind (D_Mo_needsOf x0 x2 S7) (fun S9 => some S9)))))))) else some S))
set_option maxRecDepth 100000 in
set_option maxHeartbeats 4000000 in
theorem w_Mo_defaultRow_40 {D : va_G} {cT : Nat → ClassId} {H0 : Heap} {l : Launch} {p : Program} {e : Env} {s : State} {m : MethodId} {args : Array Value} {below : List Frame} {meth : Method} {c : Code} {S0 : gS} {S' : gS} (Y : gY D cT H0 p s m args meth c prog_12_method_17_code 3 "PlanTextModel" 5 113 S0 (Option.none : Option Jvm.ClassFile.FieldType))  (x0 : Nat) (x2 : Int32) (S : gS) (hden : B_Mo_defaultRow_40  x0 x2 S = some S') {ls : Array Slot} (hl : lv_has ls 3 [(0, va_rf (some x0)), (2, .int x2)]) : gV D cT H0 p l e (gRm 5 113 S0) s m args below meth c (gQ D cT H0 below S0 S' (.inr none) s) S0 S (F0 m 40 ls []) := by
  obtain ⟨X, hZ, hex, hr, hE⟩ := id Y
  have hx := X.1
  have hb := X.2.1
  unfold B_Mo_defaultRow_40 at hden
  refine gV.lift (fun _ _ _ _ => g_aload_n hx hb d_Mo_defaultRow_40 rfl (lv_at hl 0 rfl)) ?_
  replace hden := gb hden
  obtain ⟨v1, hv, hden⟩ := hden
  refine r_getI X cl_Mo (k := 5) hv (by decide) q_770 d_Mo_defaultRow_41 ?_
  refine gV.lift2 (fun _ _ _ _ => lv_if_eq (tgt := 48) hx hb d_Mo_defaultRow_44 (by decide)) (fun hc2 => ?_) (fun hc2 => ?_)
  · replace hden := gip hc2 hden
    refine gV.lift (fun _ _ _ _ => g_aload_n hx hb d_Mo_defaultRow_48 rfl (lv_at hl 0 rfl)) ?_
    replace hden := gb hden
    obtain ⟨r3, hv, hden⟩ := hden
    refine r_getR X cl_Mo (k := 10) hv (by decide) q_775 d_Mo_defaultRow_49 ?_
    refine gV.lift (fun _ _ _ _ => lv_iload_n hx hb d_Mo_defaultRow_52 rfl (lv_at hl 1 rfl)) ?_
    refine gV.lift (fun _ _ _ _ => lv_iconst (v := 1) hx hb d_Mo_defaultRow_53 (by decide)) ?_
    replace hden := gb hden
    obtain ⟨a4, rfl, hden⟩ := hden
    replace hden := gb hden
    obtain ⟨v6, hz, hden⟩ := hden
    replace hden := gb hden
    obtain ⟨S5, hv, hden⟩ := hden
    refine r_zast X (t := 3) rfl hz hv d_Mo_defaultRow_54 ?_
    refine gV.lift (fun _ _ _ _ => g_aload_n hx hb d_Mo_defaultRow_55 rfl (lv_at hl 0 rfl)) ?_
    refine gV.lift (fun _ _ _ _ => lv_bipush (v := 58) hx hb d_Mo_defaultRow_56 (by decide)) ?_
    replace hden := gb hden
    obtain ⟨fs8, ho, hden⟩ := hden
    replace hden := gb hden
    obtain ⟨S7, hz, hden⟩ := hden
    refine g_callV (As := [.int 58]) (rest := []) X hZ (c_Mo_expect hz) cl_Mo (gOb_spec ho) q_891 q_5 q_888 q_890 qp_33 ⟨by decide, by decide, by show _ = some 1; decide +kernel⟩ ⟨by decide, by decide⟩ hl.1 (Nat.le_of_ble_eq_true rfl) d_Mo_defaultRow_58 rfl rfl ?_
    refine gV.lift (fun _ _ _ _ => g_aload_n hx hb d_Mo_defaultRow_61 rfl (lv_at hl 0 rfl)) ?_
    refine gV.lift (fun _ _ _ _ => lv_iload_n hx hb d_Mo_defaultRow_62 rfl (lv_at hl 1 rfl)) ?_
    replace hden := gb hden
    obtain ⟨fs10, ho, hden⟩ := hden
    replace hden := gb hden
    obtain ⟨S9, hz, hden⟩ := hden
    refine g_callV (As := [.int x2]) (rest := []) X hZ (c_Mo_needsOf hz) cl_Mo (gOb_spec ho) q_903 q_5 q_900 q_902 qp_36 ⟨by decide, by decide, by show _ = some 1; decide +kernel⟩ ⟨by decide, by decide⟩ hl.1 (Nat.le_of_ble_eq_true rfl) d_Mo_defaultRow_63 rfl rfl ?_
    obtain rfl := gsi hden
    exact g_vret X hr d_Mo_defaultRow_66
  · replace hden := gin hc2 hden
    obtain rfl := gsi hden
    exact g_vret X hr d_Mo_defaultRow_47
def D_Mo_defaultRow (h0 : Nat) (S : gS) : Option gS := Option.bind (gOb S h0 10) (fun fs3 => gB2 (D_Mo_number h0 1 9 S) (fun v2 S1 => Option.bind (gI S1 h0 10 5) (fun v4 => (if v4 = 0 then Option.bind (gRf S1 h0 10 10) (fun r6 => Option.bind r6 (fun a7 => Option.bind (gAI S1 a7 3 (340 + v2)) (fun v8 => (if v8 = 0 then B_Mo_defaultRow_40  h0 (340 + v2) S1 else Option.bind (gI S1 h0 10 4) (fun v10 => Option.bind (gOb S1 h0 10) (fun fs12 => Option.bind (D_Mo_fail h0 (v10 - 1) S1) (fun S11 => B_Mo_defaultRow_40  h0 (340 + v2) S11))))))) else B_Mo_defaultRow_40  h0 (340 + v2) S1))))
set_option maxRecDepth 100000 in
set_option maxHeartbeats 4000000 in
theorem c_Mo_defaultRow {D : va_G} {cT : Nat → ClassId} {H0 : Heap} {l : Launch} {S : gS} {S' : gS} {h0 : Nat} (hden : D_Mo_defaultRow h0 S = some S') : gM D cT H0 l y_Mo_defaultRow (Cond.code y_Mo_defaultRow prog_12_method_17_code 3 (Option.none : Option Jvm.ClassFile.FieldType)) 5 113 [va_rf (some h0)] S S' (.inr none) := by
  refine gM.ofV (by decide) ?_
  intro p e s m args below meth c s₁ B hml ea X hZ hex hr hE
  subst ea
  have Y : gY D cT H0 p s m _ meth c prog_12_method_17_code 3 "PlanTextModel" 5 113 S (Option.none : Option Jvm.ClassFile.FieldType) := ⟨X, hZ, hex, hr, hE⟩
  have hx := X.1
  have hb := X.2.1
  have hl := lv_entry ([va_rf (some h0)]) (n := 3) (Nat.le_of_ble_eq_true rfl)
  rw [lg_entry_eq]
  generalize (lg_sl ([va_rf (some h0)]) ++ List.replicate (3 - (lg_sl ([va_rf (some h0)])).length) Slot.unset).toArray = ls at hl ⊢
  have hl : lv_has ls 3 [(0, va_rf (some h0))] := hl
  unfold D_Mo_defaultRow at hden
  refine gV.lift (fun _ _ _ _ => g_aload_n hx hb d_Mo_defaultRow_0 rfl (lv_at hl 0 rfl)) ?_
  refine gV.lift (fun _ _ _ _ => lv_iconst (v := 1) hx hb d_Mo_defaultRow_1 (by decide)) ?_
  refine gV.lift (fun _ _ _ _ => lv_bipush (v := 9) hx hb d_Mo_defaultRow_2 (by decide)) ?_
  replace hden := gb hden
  obtain ⟨fs3, ho, hden⟩ := hden
  replace hden := gb2 hden
  obtain ⟨v2, S1, hz, hden⟩ := hden
  refine g_callV (As := [.int 1, .int 9]) (rest := []) X hZ (c_Mo_number hz) cl_Mo (gOb_spec ho) q_883 q_5 q_880 q_882 qp_31 ⟨by decide, by decide, by show _ = some 2; decide +kernel⟩ ⟨by decide, by decide⟩ hl.1 (Nat.le_of_ble_eq_true rfl) d_Mo_defaultRow_4 rfl rfl ?_
  refine gV.liftS (nL := 3) (lv' := [(1, .int v2), (0, va_rf (some h0))]) (fun _ _ _ _ => lv_istore_n hx hb d_Mo_defaultRow_7 rfl hl (by decide) rfl) (fun ls hl => ?_)
  refine gV.lift (fun _ _ _ _ => lv_sipush (v := 340) hx hb d_Mo_defaultRow_8 (by decide)) ?_
  refine gV.lift (fun _ _ _ _ => lv_iload_n hx hb d_Mo_defaultRow_11 rfl (lv_at hl 0 rfl)) ?_
  refine gV.lift (fun _ _ _ _ => lv_iadd hx hb d_Mo_defaultRow_12) ?_
  refine gV.liftS (nL := 3) (lv' := [(2, .int (340 + v2)), (1, .int v2), (0, va_rf (some h0))]) (fun _ _ _ _ => lv_istore_n hx hb d_Mo_defaultRow_13 rfl hl (by decide) rfl) (fun ls hl => ?_)
  refine gV.lift (fun _ _ _ _ => g_aload_n hx hb d_Mo_defaultRow_14 rfl (lv_at hl 2 rfl)) ?_
  replace hden := gb hden
  obtain ⟨v4, hv, hden⟩ := hden
  refine r_getI X cl_Mo (k := 5) hv (by decide) q_770 d_Mo_defaultRow_15 ?_
  refine gV.lift2 (fun _ _ _ _ => lv_if_ne (tgt := 40) hx hb d_Mo_defaultRow_18 (by decide)) (fun hc5 => ?_) (fun hc5 => ?_)
  · replace hden := gin hc5 hden
    exact w_Mo_defaultRow_40 Y  h0 (340 + v2) S1 hden (lv_sub hl [2, 0] rfl)
  · replace hden := gip hc5 hden
    refine gV.lift (fun _ _ _ _ => g_aload_n hx hb d_Mo_defaultRow_21 rfl (lv_at hl 2 rfl)) ?_
    replace hden := gb hden
    obtain ⟨r6, hv, hden⟩ := hden
    refine r_getR X cl_Mo (k := 10) hv (by decide) q_775 d_Mo_defaultRow_22 ?_
    refine gV.lift (fun _ _ _ _ => lv_iload_n hx hb d_Mo_defaultRow_25 rfl (lv_at hl 0 rfl)) ?_
    replace hden := gb hden
    obtain ⟨a7, rfl, hden⟩ := hden
    replace hden := gb hden
    obtain ⟨v8, hv, hden⟩ := hden
    refine r_zald X (t := 3) rfl hv d_Mo_defaultRow_26 ?_
    refine gV.lift2 (fun _ _ _ _ => lv_if_eq (tgt := 40) hx hb d_Mo_defaultRow_27 (by decide)) (fun hc9 => ?_) (fun hc9 => ?_)
    · replace hden := gip hc9 hden
      exact w_Mo_defaultRow_40 Y  h0 (340 + v2) S1 hden (lv_sub hl [2, 0] rfl)
    · replace hden := gin hc9 hden
      refine gV.lift (fun _ _ _ _ => g_aload_n hx hb d_Mo_defaultRow_30 rfl (lv_at hl 2 rfl)) ?_
      refine gV.lift (fun _ _ _ _ => g_aload_n hx hb d_Mo_defaultRow_31 rfl (lv_at hl 2 rfl)) ?_
      replace hden := gb hden
      obtain ⟨v10, hv, hden⟩ := hden
      refine r_getI X cl_Mo (k := 4) hv (by decide) q_769 d_Mo_defaultRow_32 ?_
      refine gV.lift (fun _ _ _ _ => lv_iconst (v := 1) hx hb d_Mo_defaultRow_35 (by decide)) ?_
      refine gV.lift (fun _ _ _ _ => lv_isub hx hb d_Mo_defaultRow_36) ?_
      replace hden := gb hden
      obtain ⟨fs12, ho, hden⟩ := hden
      replace hden := gb hden
      obtain ⟨S11, hz, hden⟩ := hden
      refine g_callV (As := [.int (v10 - 1)]) (rest := []) X hZ (c_Mo_fail hz) cl_Mo (gOb_spec ho) q_875 q_5 q_872 q_874 qp_29 ⟨by decide, by decide, by show _ = some 1; decide +kernel⟩ ⟨by decide, by decide⟩ hl.1 (Nat.le_of_ble_eq_true rfl) d_Mo_defaultRow_37 rfl rfl ?_
      exact w_Mo_defaultRow_40 Y  h0 (340 + v2) S11 hden (lv_sub hl [2, 0] rfl)
/-! PlanTextModel.standbyRow()V -/
abbrev y_Mo_standbyRow : MethodName := ⟨"PlanTextModel", "standbyRow", "()V"⟩
theorem d_Mo_standbyRow_0 : decode prog_12_method_18_code 0 = .ok (.sipush 240, 3) := by decide +kernel
theorem d_Mo_standbyRow_3 : decode prog_12_method_18_code 3 = .ok (.iconst 5, 1) := by decide +kernel
theorem d_Mo_standbyRow_4 : decode prog_12_method_18_code 4 = .ok (.aload_n 0, 1) := by decide +kernel
theorem d_Mo_standbyRow_5 : decode prog_12_method_18_code 5 = .ok (.getfield 51, 3) := by decide +kernel
theorem d_Mo_standbyRow_8 : decode prog_12_method_18_code 8 = .ok (.bipush 6, 2) := by decide +kernel
theorem d_Mo_standbyRow_10 : decode prog_12_method_18_code 10 = .ok (.iaload, 1) := by decide +kernel
theorem d_Mo_standbyRow_11 : decode prog_12_method_18_code 11 = .ok (.imul, 1) := by decide +kernel
theorem d_Mo_standbyRow_12 : decode prog_12_method_18_code 12 = .ok (.iadd, 1) := by decide +kernel
theorem d_Mo_standbyRow_13 : decode prog_12_method_18_code 13 = .ok (.istore_n 1, 1) := by decide +kernel
theorem d_Mo_standbyRow_14 : decode prog_12_method_18_code 14 = .ok (.aload_n 0, 1) := by decide +kernel
theorem d_Mo_standbyRow_15 : decode prog_12_method_18_code 15 = .ok (.bipush 91, 2) := by decide +kernel
theorem d_Mo_standbyRow_17 : decode prog_12_method_18_code 17 = .ok (.invokevirtual 109, 3) := by decide +kernel
theorem d_Mo_standbyRow_20 : decode prog_12_method_18_code 20 = .ok (.aload_n 0, 1) := by decide +kernel
theorem d_Mo_standbyRow_21 : decode prog_12_method_18_code 21 = .ok (.getfield 83, 3) := by decide +kernel
theorem d_Mo_standbyRow_24 : decode prog_12_method_18_code 24 = .ok (.ifCond .ne 16, 3) := by decide +kernel
theorem d_Mo_standbyRow_27 : decode prog_12_method_18_code 27 = .ok (.aload_n 0, 1) := by decide +kernel
theorem d_Mo_standbyRow_28 : decode prog_12_method_18_code 28 = .ok (.getfield 54, 3) := by decide +kernel
theorem d_Mo_standbyRow_31 : decode prog_12_method_18_code 31 = .ok (.iload_n 1, 1) := by decide +kernel
theorem d_Mo_standbyRow_32 : decode prog_12_method_18_code 32 = .ok (.aload_n 0, 1) := by decide +kernel
theorem d_Mo_standbyRow_33 : decode prog_12_method_18_code 33 = .ok (.iconst 0, 1) := by decide +kernel
theorem d_Mo_standbyRow_34 : decode prog_12_method_18_code 34 = .ok (.bipush 23, 2) := by decide +kernel
theorem d_Mo_standbyRow_36 : decode prog_12_method_18_code 36 = .ok (.invokevirtual 105, 3) := by decide +kernel
theorem d_Mo_standbyRow_39 : decode prog_12_method_18_code 39 = .ok (.iastore, 1) := by decide +kernel
theorem d_Mo_standbyRow_40 : decode prog_12_method_18_code 40 = .ok (.aload_n 0, 1) := by decide +kernel
theorem d_Mo_standbyRow_41 : decode prog_12_method_18_code 41 = .ok (.bipush 45, 2) := by decide +kernel
theorem d_Mo_standbyRow_43 : decode prog_12_method_18_code 43 = .ok (.invokevirtual 109, 3) := by decide +kernel
theorem d_Mo_standbyRow_46 : decode prog_12_method_18_code 46 = .ok (.aload_n 0, 1) := by decide +kernel
theorem d_Mo_standbyRow_47 : decode prog_12_method_18_code 47 = .ok (.getfield 83, 3) := by decide +kernel
theorem d_Mo_standbyRow_50 : decode prog_12_method_18_code 50 = .ok (.ifCond .ne 18, 3) := by decide +kernel
theorem d_Mo_standbyRow_53 : decode prog_12_method_18_code 53 = .ok (.aload_n 0, 1) := by decide +kernel
theorem d_Mo_standbyRow_54 : decode prog_12_method_18_code 54 = .ok (.getfield 54, 3) := by decide +kernel
theorem d_Mo_standbyRow_57 : decode prog_12_method_18_code 57 = .ok (.iload_n 1, 1) := by decide +kernel
theorem d_Mo_standbyRow_58 : decode prog_12_method_18_code 58 = .ok (.iconst 1, 1) := by decide +kernel
theorem d_Mo_standbyRow_59 : decode prog_12_method_18_code 59 = .ok (.iadd, 1) := by decide +kernel
theorem d_Mo_standbyRow_60 : decode prog_12_method_18_code 60 = .ok (.aload_n 0, 1) := by decide +kernel
theorem d_Mo_standbyRow_61 : decode prog_12_method_18_code 61 = .ok (.iconst 0, 1) := by decide +kernel
theorem d_Mo_standbyRow_62 : decode prog_12_method_18_code 62 = .ok (.bipush 23, 2) := by decide +kernel
theorem d_Mo_standbyRow_64 : decode prog_12_method_18_code 64 = .ok (.invokevirtual 105, 3) := by decide +kernel
theorem d_Mo_standbyRow_67 : decode prog_12_method_18_code 67 = .ok (.iastore, 1) := by decide +kernel
theorem d_Mo_standbyRow_68 : decode prog_12_method_18_code 68 = .ok (.aload_n 0, 1) := by decide +kernel
theorem d_Mo_standbyRow_69 : decode prog_12_method_18_code 69 = .ok (.bipush 93, 2) := by decide +kernel
theorem d_Mo_standbyRow_71 : decode prog_12_method_18_code 71 = .ok (.invokevirtual 109, 3) := by decide +kernel
theorem d_Mo_standbyRow_74 : decode prog_12_method_18_code 74 = .ok (.aload_n 0, 1) := by decide +kernel
theorem d_Mo_standbyRow_75 : decode prog_12_method_18_code 75 = .ok (.getfield 83, 3) := by decide +kernel
theorem d_Mo_standbyRow_78 : decode prog_12_method_18_code 78 = .ok (.ifCond .ne 18, 3) := by decide +kernel
theorem d_Mo_standbyRow_81 : decode prog_12_method_18_code 81 = .ok (.aload_n 0, 1) := by decide +kernel
theorem d_Mo_standbyRow_82 : decode prog_12_method_18_code 82 = .ok (.getfield 54, 3) := by decide +kernel
theorem d_Mo_standbyRow_85 : decode prog_12_method_18_code 85 = .ok (.iload_n 1, 1) := by decide +kernel
theorem d_Mo_standbyRow_86 : decode prog_12_method_18_code 86 = .ok (.iconst 2, 1) := by decide +kernel
theorem d_Mo_standbyRow_87 : decode prog_12_method_18_code 87 = .ok (.iadd, 1) := by decide +kernel
theorem d_Mo_standbyRow_88 : decode prog_12_method_18_code 88 = .ok (.aload_n 0, 1) := by decide +kernel
theorem d_Mo_standbyRow_89 : decode prog_12_method_18_code 89 = .ok (.iconst 1, 1) := by decide +kernel
theorem d_Mo_standbyRow_90 : decode prog_12_method_18_code 90 = .ok (.bipush 9, 2) := by decide +kernel
theorem d_Mo_standbyRow_92 : decode prog_12_method_18_code 92 = .ok (.invokevirtual 105, 3) := by decide +kernel
theorem d_Mo_standbyRow_95 : decode prog_12_method_18_code 95 = .ok (.iastore, 1) := by decide +kernel
theorem d_Mo_standbyRow_96 : decode prog_12_method_18_code 96 = .ok (.aload_n 0, 1) := by decide +kernel
theorem d_Mo_standbyRow_97 : decode prog_12_method_18_code 97 = .ok (.bipush 58, 2) := by decide +kernel
theorem d_Mo_standbyRow_99 : decode prog_12_method_18_code 99 = .ok (.invokevirtual 109, 3) := by decide +kernel
theorem d_Mo_standbyRow_102 : decode prog_12_method_18_code 102 = .ok (.aload_n 0, 1) := by decide +kernel
theorem d_Mo_standbyRow_103 : decode prog_12_method_18_code 103 = .ok (.getfield 83, 3) := by decide +kernel
theorem d_Mo_standbyRow_106 : decode prog_12_method_18_code 106 = .ok (.ifCond .ne 18, 3) := by decide +kernel
theorem d_Mo_standbyRow_109 : decode prog_12_method_18_code 109 = .ok (.aload_n 0, 1) := by decide +kernel
theorem d_Mo_standbyRow_110 : decode prog_12_method_18_code 110 = .ok (.getfield 54, 3) := by decide +kernel
theorem d_Mo_standbyRow_113 : decode prog_12_method_18_code 113 = .ok (.iload_n 1, 1) := by decide +kernel
theorem d_Mo_standbyRow_114 : decode prog_12_method_18_code 114 = .ok (.iconst 3, 1) := by decide +kernel
theorem d_Mo_standbyRow_115 : decode prog_12_method_18_code 115 = .ok (.iadd, 1) := by decide +kernel
theorem d_Mo_standbyRow_116 : decode prog_12_method_18_code 116 = .ok (.aload_n 0, 1) := by decide +kernel
theorem d_Mo_standbyRow_117 : decode prog_12_method_18_code 117 = .ok (.iconst 1, 1) := by decide +kernel
theorem d_Mo_standbyRow_118 : decode prog_12_method_18_code 118 = .ok (.bipush 9, 2) := by decide +kernel
theorem d_Mo_standbyRow_120 : decode prog_12_method_18_code 120 = .ok (.invokevirtual 105, 3) := by decide +kernel
theorem d_Mo_standbyRow_123 : decode prog_12_method_18_code 123 = .ok (.iastore, 1) := by decide +kernel
theorem d_Mo_standbyRow_124 : decode prog_12_method_18_code 124 = .ok (.aload_n 0, 1) := by decide +kernel
theorem d_Mo_standbyRow_125 : decode prog_12_method_18_code 125 = .ok (.getfield 83, 3) := by decide +kernel
theorem d_Mo_standbyRow_128 : decode prog_12_method_18_code 128 = .ok (.ifCond .ne 15, 3) := by decide +kernel
theorem d_Mo_standbyRow_131 : decode prog_12_method_18_code 131 = .ok (.aload_n 0, 1) := by decide +kernel
theorem d_Mo_standbyRow_132 : decode prog_12_method_18_code 132 = .ok (.getfield 54, 3) := by decide +kernel
theorem d_Mo_standbyRow_135 : decode prog_12_method_18_code 135 = .ok (.iload_n 1, 1) := by decide +kernel
theorem d_Mo_standbyRow_136 : decode prog_12_method_18_code 136 = .ok (.iconst 4, 1) := by decide +kernel
theorem d_Mo_standbyRow_137 : decode prog_12_method_18_code 137 = .ok (.iadd, 1) := by decide +kernel
theorem d_Mo_standbyRow_138 : decode prog_12_method_18_code 138 = .ok (.aload_n 0, 1) := by decide +kernel
theorem d_Mo_standbyRow_139 : decode prog_12_method_18_code 139 = .ok (.invokevirtual 112, 3) := by decide +kernel
theorem d_Mo_standbyRow_142 : decode prog_12_method_18_code 142 = .ok (.iastore, 1) := by decide +kernel
theorem d_Mo_standbyRow_143 : decode prog_12_method_18_code 143 = .ok (.aload_n 0, 1) := by decide +kernel
theorem d_Mo_standbyRow_144 : decode prog_12_method_18_code 144 = .ok (.getfield 51, 3) := by decide +kernel
theorem d_Mo_standbyRow_147 : decode prog_12_method_18_code 147 = .ok (.bipush 6, 2) := by decide +kernel
theorem d_Mo_standbyRow_149 : decode prog_12_method_18_code 149 = .ok (.dup2, 1) := by decide +kernel
theorem d_Mo_standbyRow_150 : decode prog_12_method_18_code 150 = .ok (.iaload, 1) := by decide +kernel
theorem d_Mo_standbyRow_151 : decode prog_12_method_18_code 151 = .ok (.iconst 1, 1) := by decide +kernel
theorem d_Mo_standbyRow_152 : decode prog_12_method_18_code 152 = .ok (.iadd, 1) := by decide +kernel
theorem d_Mo_standbyRow_153 : decode prog_12_method_18_code 153 = .ok (.iastore, 1) := by decide +kernel
theorem d_Mo_standbyRow_154 : decode prog_12_method_18_code 154 = .ok (.return_, 1) := by decide +kernel
def B_Mo_standbyRow_143  (x0 : Nat) (S : gS) : Option gS := Option.bind (gRf S x0 10 20) (fun r1 => Option.bind r1 (fun a2 => Option.bind (gAI S a2 0 6) (fun v3 => Option.bind (gSI S a2 0 6 (v3 + 1)) (fun S4 => some S4))))
set_option maxRecDepth 100000 in
set_option maxHeartbeats 4000000 in
theorem w_Mo_standbyRow_143 {D : va_G} {cT : Nat → ClassId} {H0 : Heap} {l : Launch} {p : Program} {e : Env} {s : State} {m : MethodId} {args : Array Value} {below : List Frame} {meth : Method} {c : Code} {S0 : gS} {S' : gS} (Y : gY D cT H0 p s m args meth c prog_12_method_18_code 2 "PlanTextModel" 3 67 S0 (Option.none : Option Jvm.ClassFile.FieldType))  (x0 : Nat) (S : gS) (hden : B_Mo_standbyRow_143  x0 S = some S') {ls : Array Slot} (hl : lv_has ls 2 [(0, va_rf (some x0))]) : gV D cT H0 p l e (gRm 3 67 S0) s m args below meth c (gQ D cT H0 below S0 S' (.inr none) s) S0 S (F0 m 143 ls []) := by
  obtain ⟨X, hZ, hex, hr, hE⟩ := id Y
  have hx := X.1
  have hb := X.2.1
  unfold B_Mo_standbyRow_143 at hden
  refine gV.lift (fun _ _ _ _ => g_aload_n hx hb d_Mo_standbyRow_143 rfl (lv_at hl 0 rfl)) ?_
  replace hden := gb hden
  obtain ⟨r1, hv, hden⟩ := hden
  refine r_getR X cl_Mo (k := 20) hv (by decide) q_785 d_Mo_standbyRow_144 ?_
  refine gV.lift (fun _ _ _ _ => lv_bipush (v := 6) hx hb d_Mo_standbyRow_147 (by decide)) ?_
  refine gV.lift (fun _ _ _ _ => lv_dup2_11 hx hb d_Mo_standbyRow_149 rfl g_cat) ?_
  replace hden := gb hden
  obtain ⟨a2, rfl, hden⟩ := hden
  replace hden := gb hden
  obtain ⟨v3, hv, hden⟩ := hden
  refine r_iald X (t := 0) rfl hv d_Mo_standbyRow_150 ?_
  refine gV.lift (fun _ _ _ _ => lv_iconst (v := 1) hx hb d_Mo_standbyRow_151 (by decide)) ?_
  refine gV.lift (fun _ _ _ _ => lv_iadd hx hb d_Mo_standbyRow_152) ?_
  replace hden := gb hden
  obtain ⟨S4, hv, hden⟩ := hden
  refine r_iast X (t := 0) rfl hv d_Mo_standbyRow_153 ?_
  obtain rfl := gsi hden
  exact g_vret X hr d_Mo_standbyRow_154
def B_Mo_standbyRow_124  (x0 : Nat) (x1 : Int32) (S : gS) : Option gS := Option.bind (gI S x0 10 5) (fun v1 => (if v1 = 0 then Option.bind (gRf S x0 10 21) (fun r3 => Option.bind (gOb S x0 10) (fun fs6 => gB2 (D_Mo_letter x0 S) (fun v5 S4 => Option.bind r3 (fun a7 => Option.bind (gSI S4 a7 0 (x1 + 4) v5) (fun S8 => B_Mo_standbyRow_143  x0 S8))))) else B_Mo_standbyRow_143  x0 S))
set_option maxRecDepth 100000 in
set_option maxHeartbeats 4000000 in
theorem w_Mo_standbyRow_124 {D : va_G} {cT : Nat → ClassId} {H0 : Heap} {l : Launch} {p : Program} {e : Env} {s : State} {m : MethodId} {args : Array Value} {below : List Frame} {meth : Method} {c : Code} {S0 : gS} {S' : gS} (Y : gY D cT H0 p s m args meth c prog_12_method_18_code 2 "PlanTextModel" 3 67 S0 (Option.none : Option Jvm.ClassFile.FieldType))  (x0 : Nat) (x1 : Int32) (S : gS) (hden : B_Mo_standbyRow_124  x0 x1 S = some S') {ls : Array Slot} (hl : lv_has ls 2 [(0, va_rf (some x0)), (1, .int x1)]) : gV D cT H0 p l e (gRm 3 67 S0) s m args below meth c (gQ D cT H0 below S0 S' (.inr none) s) S0 S (F0 m 124 ls []) := by
  obtain ⟨X, hZ, hex, hr, hE⟩ := id Y
  have hx := X.1
  have hb := X.2.1
  unfold B_Mo_standbyRow_124 at hden
  refine gV.lift (fun _ _ _ _ => g_aload_n hx hb d_Mo_standbyRow_124 rfl (lv_at hl 0 rfl)) ?_
  replace hden := gb hden
  obtain ⟨v1, hv, hden⟩ := hden
  refine r_getI X cl_Mo (k := 5) hv (by decide) q_770 d_Mo_standbyRow_125 ?_
  refine gV.lift2 (fun _ _ _ _ => lv_if_ne (tgt := 143) hx hb d_Mo_standbyRow_128 (by decide)) (fun hc2 => ?_) (fun hc2 => ?_)
  · replace hden := gin hc2 hden
    exact w_Mo_standbyRow_143 Y  x0 S hden (lv_sub hl [0] rfl)
  · replace hden := gip hc2 hden
    refine gV.lift (fun _ _ _ _ => g_aload_n hx hb d_Mo_standbyRow_131 rfl (lv_at hl 0 rfl)) ?_
    replace hden := gb hden
    obtain ⟨r3, hv, hden⟩ := hden
    refine r_getR X cl_Mo (k := 21) hv (by decide) q_786 d_Mo_standbyRow_132 ?_
    refine gV.lift (fun _ _ _ _ => lv_iload_n hx hb d_Mo_standbyRow_135 rfl (lv_at hl 1 rfl)) ?_
    refine gV.lift (fun _ _ _ _ => lv_iconst (v := 4) hx hb d_Mo_standbyRow_136 (by decide)) ?_
    refine gV.lift (fun _ _ _ _ => lv_iadd hx hb d_Mo_standbyRow_137) ?_
    refine gV.lift (fun _ _ _ _ => g_aload_n hx hb d_Mo_standbyRow_138 rfl (lv_at hl 0 rfl)) ?_
    replace hden := gb hden
    obtain ⟨fs6, ho, hden⟩ := hden
    replace hden := gb2 hden
    obtain ⟨v5, S4, hz, hden⟩ := hden
    refine g_callV (As := []) (rest := [.int (x1 + 4), va_rf r3]) X hZ (c_Mo_letter hz) cl_Mo (gOb_spec ho) q_911 q_5 q_908 q_910 qp_38 ⟨by decide, by decide, by show _ = some 0; decide +kernel⟩ ⟨by decide, by decide⟩ hl.1 (by cases r3 <;> exact Nat.le_of_ble_eq_true rfl) d_Mo_standbyRow_139 rfl rfl ?_
    replace hden := gb hden
    obtain ⟨a7, rfl, hden⟩ := hden
    replace hden := gb hden
    obtain ⟨S8, hv, hden⟩ := hden
    refine r_iast X (t := 0) rfl hv d_Mo_standbyRow_142 ?_
    exact w_Mo_standbyRow_143 Y  x0 S8 hden (lv_sub hl [0] rfl)
def B_Mo_standbyRow_96  (x0 : Nat) (x1 : Int32) (S : gS) : Option gS := Option.bind (gOb S x0 10) (fun fs2 => Option.bind (D_Mo_expect x0 58 S) (fun S1 => Option.bind (gI S1 x0 10 5) (fun v3 => (if v3 = 0 then Option.bind (gRf S1 x0 10 21) (fun r5 => Option.bind (gOb S1 x0 10) (fun fs8 => gB2 (D_Mo_number x0 1 9 S1) (fun v7 S6 => Option.bind r5 (fun a9 => Option.bind (gSI S6 a9 0 (x1 + 3) v7) (fun S10 => B_Mo_standbyRow_124  x0 x1 S10))))) else B_Mo_standbyRow_124  x0 x1 S1))))
set_option maxRecDepth 100000 in
set_option maxHeartbeats 4000000 in
theorem w_Mo_standbyRow_96 {D : va_G} {cT : Nat → ClassId} {H0 : Heap} {l : Launch} {p : Program} {e : Env} {s : State} {m : MethodId} {args : Array Value} {below : List Frame} {meth : Method} {c : Code} {S0 : gS} {S' : gS} (Y : gY D cT H0 p s m args meth c prog_12_method_18_code 2 "PlanTextModel" 3 67 S0 (Option.none : Option Jvm.ClassFile.FieldType))  (x0 : Nat) (x1 : Int32) (S : gS) (hden : B_Mo_standbyRow_96  x0 x1 S = some S') {ls : Array Slot} (hl : lv_has ls 2 [(0, va_rf (some x0)), (1, .int x1)]) : gV D cT H0 p l e (gRm 3 67 S0) s m args below meth c (gQ D cT H0 below S0 S' (.inr none) s) S0 S (F0 m 96 ls []) := by
  obtain ⟨X, hZ, hex, hr, hE⟩ := id Y
  have hx := X.1
  have hb := X.2.1
  unfold B_Mo_standbyRow_96 at hden
  refine gV.lift (fun _ _ _ _ => g_aload_n hx hb d_Mo_standbyRow_96 rfl (lv_at hl 0 rfl)) ?_
  refine gV.lift (fun _ _ _ _ => lv_bipush (v := 58) hx hb d_Mo_standbyRow_97 (by decide)) ?_
  replace hden := gb hden
  obtain ⟨fs2, ho, hden⟩ := hden
  replace hden := gb hden
  obtain ⟨S1, hz, hden⟩ := hden
  refine g_callV (As := [.int 58]) (rest := []) X hZ (c_Mo_expect hz) cl_Mo (gOb_spec ho) q_891 q_5 q_888 q_890 qp_33 ⟨by decide, by decide, by show _ = some 1; decide +kernel⟩ ⟨by decide, by decide⟩ hl.1 (Nat.le_of_ble_eq_true rfl) d_Mo_standbyRow_99 rfl rfl ?_
  refine gV.lift (fun _ _ _ _ => g_aload_n hx hb d_Mo_standbyRow_102 rfl (lv_at hl 0 rfl)) ?_
  replace hden := gb hden
  obtain ⟨v3, hv, hden⟩ := hden
  refine r_getI X cl_Mo (k := 5) hv (by decide) q_770 d_Mo_standbyRow_103 ?_
  refine gV.lift2 (fun _ _ _ _ => lv_if_ne (tgt := 124) hx hb d_Mo_standbyRow_106 (by decide)) (fun hc4 => ?_) (fun hc4 => ?_)
  · replace hden := gin hc4 hden
    exact w_Mo_standbyRow_124 Y  x0 x1 S1 hden (lv_sub hl [0, 1] rfl)
  · replace hden := gip hc4 hden
    refine gV.lift (fun _ _ _ _ => g_aload_n hx hb d_Mo_standbyRow_109 rfl (lv_at hl 0 rfl)) ?_
    replace hden := gb hden
    obtain ⟨r5, hv, hden⟩ := hden
    refine r_getR X cl_Mo (k := 21) hv (by decide) q_786 d_Mo_standbyRow_110 ?_
    refine gV.lift (fun _ _ _ _ => lv_iload_n hx hb d_Mo_standbyRow_113 rfl (lv_at hl 1 rfl)) ?_
    refine gV.lift (fun _ _ _ _ => lv_iconst (v := 3) hx hb d_Mo_standbyRow_114 (by decide)) ?_
    refine gV.lift (fun _ _ _ _ => lv_iadd hx hb d_Mo_standbyRow_115) ?_
    refine gV.lift (fun _ _ _ _ => g_aload_n hx hb d_Mo_standbyRow_116 rfl (lv_at hl 0 rfl)) ?_
    refine gV.lift (fun _ _ _ _ => lv_iconst (v := 1) hx hb d_Mo_standbyRow_117 (by decide)) ?_
    refine gV.lift (fun _ _ _ _ => lv_bipush (v := 9) hx hb d_Mo_standbyRow_118 (by decide)) ?_
    replace hden := gb hden
    obtain ⟨fs8, ho, hden⟩ := hden
    replace hden := gb2 hden
    obtain ⟨v7, S6, hz, hden⟩ := hden
    refine g_callV (As := [.int 1, .int 9]) (rest := [.int (x1 + 3), va_rf r5]) X hZ (c_Mo_number hz) cl_Mo (gOb_spec ho) q_883 q_5 q_880 q_882 qp_31 ⟨by decide, by decide, by show _ = some 2; decide +kernel⟩ ⟨by decide, by decide⟩ hl.1 (by cases r5 <;> exact Nat.le_of_ble_eq_true rfl) d_Mo_standbyRow_120 rfl rfl ?_
    replace hden := gb hden
    obtain ⟨a9, rfl, hden⟩ := hden
    replace hden := gb hden
    obtain ⟨S10, hv, hden⟩ := hden
    refine r_iast X (t := 0) rfl hv d_Mo_standbyRow_123 ?_
    exact w_Mo_standbyRow_124 Y  x0 x1 S10 hden (lv_sub hl [0, 1] rfl)
def B_Mo_standbyRow_68  (x0 : Nat) (x1 : Int32) (S : gS) : Option gS := Option.bind (gOb S x0 10) (fun fs2 => Option.bind (D_Mo_expect x0 93 S) (fun S1 => Option.bind (gI S1 x0 10 5) (fun v3 => (if v3 = 0 then Option.bind (gRf S1 x0 10 21) (fun r5 => Option.bind (gOb S1 x0 10) (fun fs8 => gB2 (D_Mo_number x0 1 9 S1) (fun v7 S6 => Option.bind r5 (fun a9 => Option.bind (gSI S6 a9 0 (x1 + 2) v7) (fun S10 => B_Mo_standbyRow_96  x0 x1 S10))))) else B_Mo_standbyRow_96  x0 x1 S1))))
set_option maxRecDepth 100000 in
set_option maxHeartbeats 4000000 in
theorem w_Mo_standbyRow_68 {D : va_G} {cT : Nat → ClassId} {H0 : Heap} {l : Launch} {p : Program} {e : Env} {s : State} {m : MethodId} {args : Array Value} {below : List Frame} {meth : Method} {c : Code} {S0 : gS} {S' : gS} (Y : gY D cT H0 p s m args meth c prog_12_method_18_code 2 "PlanTextModel" 3 67 S0 (Option.none : Option Jvm.ClassFile.FieldType))  (x0 : Nat) (x1 : Int32) (S : gS) (hden : B_Mo_standbyRow_68  x0 x1 S = some S') {ls : Array Slot} (hl : lv_has ls 2 [(0, va_rf (some x0)), (1, .int x1)]) : gV D cT H0 p l e (gRm 3 67 S0) s m args below meth c (gQ D cT H0 below S0 S' (.inr none) s) S0 S (F0 m 68 ls []) := by
  obtain ⟨X, hZ, hex, hr, hE⟩ := id Y
  have hx := X.1
  have hb := X.2.1
  unfold B_Mo_standbyRow_68 at hden
  refine gV.lift (fun _ _ _ _ => g_aload_n hx hb d_Mo_standbyRow_68 rfl (lv_at hl 0 rfl)) ?_
  refine gV.lift (fun _ _ _ _ => lv_bipush (v := 93) hx hb d_Mo_standbyRow_69 (by decide)) ?_
  replace hden := gb hden
  obtain ⟨fs2, ho, hden⟩ := hden
  replace hden := gb hden
  obtain ⟨S1, hz, hden⟩ := hden
  refine g_callV (As := [.int 93]) (rest := []) X hZ (c_Mo_expect hz) cl_Mo (gOb_spec ho) q_891 q_5 q_888 q_890 qp_33 ⟨by decide, by decide, by show _ = some 1; decide +kernel⟩ ⟨by decide, by decide⟩ hl.1 (Nat.le_of_ble_eq_true rfl) d_Mo_standbyRow_71 rfl rfl ?_
  refine gV.lift (fun _ _ _ _ => g_aload_n hx hb d_Mo_standbyRow_74 rfl (lv_at hl 0 rfl)) ?_
  replace hden := gb hden
  obtain ⟨v3, hv, hden⟩ := hden
  refine r_getI X cl_Mo (k := 5) hv (by decide) q_770 d_Mo_standbyRow_75 ?_
  refine gV.lift2 (fun _ _ _ _ => lv_if_ne (tgt := 96) hx hb d_Mo_standbyRow_78 (by decide)) (fun hc4 => ?_) (fun hc4 => ?_)
  · replace hden := gin hc4 hden
    exact w_Mo_standbyRow_96 Y  x0 x1 S1 hden (lv_sub hl [0, 1] rfl)
  · replace hden := gip hc4 hden
    refine gV.lift (fun _ _ _ _ => g_aload_n hx hb d_Mo_standbyRow_81 rfl (lv_at hl 0 rfl)) ?_
    replace hden := gb hden
    obtain ⟨r5, hv, hden⟩ := hden
    refine r_getR X cl_Mo (k := 21) hv (by decide) q_786 d_Mo_standbyRow_82 ?_
    refine gV.lift (fun _ _ _ _ => lv_iload_n hx hb d_Mo_standbyRow_85 rfl (lv_at hl 1 rfl)) ?_
    refine gV.lift (fun _ _ _ _ => lv_iconst (v := 2) hx hb d_Mo_standbyRow_86 (by decide)) ?_
    refine gV.lift (fun _ _ _ _ => lv_iadd hx hb d_Mo_standbyRow_87) ?_
    refine gV.lift (fun _ _ _ _ => g_aload_n hx hb d_Mo_standbyRow_88 rfl (lv_at hl 0 rfl)) ?_
    refine gV.lift (fun _ _ _ _ => lv_iconst (v := 1) hx hb d_Mo_standbyRow_89 (by decide)) ?_
    refine gV.lift (fun _ _ _ _ => lv_bipush (v := 9) hx hb d_Mo_standbyRow_90 (by decide)) ?_
    replace hden := gb hden
    obtain ⟨fs8, ho, hden⟩ := hden
    replace hden := gb2 hden
    obtain ⟨v7, S6, hz, hden⟩ := hden
    refine g_callV (As := [.int 1, .int 9]) (rest := [.int (x1 + 2), va_rf r5]) X hZ (c_Mo_number hz) cl_Mo (gOb_spec ho) q_883 q_5 q_880 q_882 qp_31 ⟨by decide, by decide, by show _ = some 2; decide +kernel⟩ ⟨by decide, by decide⟩ hl.1 (by cases r5 <;> exact Nat.le_of_ble_eq_true rfl) d_Mo_standbyRow_92 rfl rfl ?_
    replace hden := gb hden
    obtain ⟨a9, rfl, hden⟩ := hden
    replace hden := gb hden
    obtain ⟨S10, hv, hden⟩ := hden
    refine r_iast X (t := 0) rfl hv d_Mo_standbyRow_95 ?_
    exact w_Mo_standbyRow_96 Y  x0 x1 S10 hden (lv_sub hl [0, 1] rfl)
def B_Mo_standbyRow_40  (x0 : Nat) (x1 : Int32) (S : gS) : Option gS := Option.bind (gOb S x0 10) (fun fs2 => Option.bind (D_Mo_expect x0 45 S) (fun S1 => Option.bind (gI S1 x0 10 5) (fun v3 => (if v3 = 0 then Option.bind (gRf S1 x0 10 21) (fun r5 => Option.bind (gOb S1 x0 10) (fun fs8 => gB2 (D_Mo_number x0 0 23 S1) (fun v7 S6 => Option.bind r5 (fun a9 => Option.bind (gSI S6 a9 0 (x1 + 1) v7) (fun S10 => B_Mo_standbyRow_68  x0 x1 S10))))) else B_Mo_standbyRow_68  x0 x1 S1))))
set_option maxRecDepth 100000 in
set_option maxHeartbeats 4000000 in
theorem w_Mo_standbyRow_40 {D : va_G} {cT : Nat → ClassId} {H0 : Heap} {l : Launch} {p : Program} {e : Env} {s : State} {m : MethodId} {args : Array Value} {below : List Frame} {meth : Method} {c : Code} {S0 : gS} {S' : gS} (Y : gY D cT H0 p s m args meth c prog_12_method_18_code 2 "PlanTextModel" 3 67 S0 (Option.none : Option Jvm.ClassFile.FieldType))  (x0 : Nat) (x1 : Int32) (S : gS) (hden : B_Mo_standbyRow_40  x0 x1 S = some S') {ls : Array Slot} (hl : lv_has ls 2 [(0, va_rf (some x0)), (1, .int x1)]) : gV D cT H0 p l e (gRm 3 67 S0) s m args below meth c (gQ D cT H0 below S0 S' (.inr none) s) S0 S (F0 m 40 ls []) := by
  obtain ⟨X, hZ, hex, hr, hE⟩ := id Y
  have hx := X.1
  have hb := X.2.1
  unfold B_Mo_standbyRow_40 at hden
  refine gV.lift (fun _ _ _ _ => g_aload_n hx hb d_Mo_standbyRow_40 rfl (lv_at hl 0 rfl)) ?_
  refine gV.lift (fun _ _ _ _ => lv_bipush (v := 45) hx hb d_Mo_standbyRow_41 (by decide)) ?_
  replace hden := gb hden
  obtain ⟨fs2, ho, hden⟩ := hden
  replace hden := gb hden
  obtain ⟨S1, hz, hden⟩ := hden
  refine g_callV (As := [.int 45]) (rest := []) X hZ (c_Mo_expect hz) cl_Mo (gOb_spec ho) q_891 q_5 q_888 q_890 qp_33 ⟨by decide, by decide, by show _ = some 1; decide +kernel⟩ ⟨by decide, by decide⟩ hl.1 (Nat.le_of_ble_eq_true rfl) d_Mo_standbyRow_43 rfl rfl ?_
  refine gV.lift (fun _ _ _ _ => g_aload_n hx hb d_Mo_standbyRow_46 rfl (lv_at hl 0 rfl)) ?_
  replace hden := gb hden
  obtain ⟨v3, hv, hden⟩ := hden
  refine r_getI X cl_Mo (k := 5) hv (by decide) q_770 d_Mo_standbyRow_47 ?_
  refine gV.lift2 (fun _ _ _ _ => lv_if_ne (tgt := 68) hx hb d_Mo_standbyRow_50 (by decide)) (fun hc4 => ?_) (fun hc4 => ?_)
  · replace hden := gin hc4 hden
    exact w_Mo_standbyRow_68 Y  x0 x1 S1 hden (lv_sub hl [0, 1] rfl)
  · replace hden := gip hc4 hden
    refine gV.lift (fun _ _ _ _ => g_aload_n hx hb d_Mo_standbyRow_53 rfl (lv_at hl 0 rfl)) ?_
    replace hden := gb hden
    obtain ⟨r5, hv, hden⟩ := hden
    refine r_getR X cl_Mo (k := 21) hv (by decide) q_786 d_Mo_standbyRow_54 ?_
    refine gV.lift (fun _ _ _ _ => lv_iload_n hx hb d_Mo_standbyRow_57 rfl (lv_at hl 1 rfl)) ?_
    refine gV.lift (fun _ _ _ _ => lv_iconst (v := 1) hx hb d_Mo_standbyRow_58 (by decide)) ?_
    refine gV.lift (fun _ _ _ _ => lv_iadd hx hb d_Mo_standbyRow_59) ?_
    refine gV.lift (fun _ _ _ _ => g_aload_n hx hb d_Mo_standbyRow_60 rfl (lv_at hl 0 rfl)) ?_
    refine gV.lift (fun _ _ _ _ => lv_iconst (v := 0) hx hb d_Mo_standbyRow_61 (by decide)) ?_
    refine gV.lift (fun _ _ _ _ => lv_bipush (v := 23) hx hb d_Mo_standbyRow_62 (by decide)) ?_
    replace hden := gb hden
    obtain ⟨fs8, ho, hden⟩ := hden
    replace hden := gb2 hden
    obtain ⟨v7, S6, hz, hden⟩ := hden
    refine g_callV (As := [.int 0, .int 23]) (rest := [.int (x1 + 1), va_rf r5]) X hZ (c_Mo_number hz) cl_Mo (gOb_spec ho) q_883 q_5 q_880 q_882 qp_31 ⟨by decide, by decide, by show _ = some 2; decide +kernel⟩ ⟨by decide, by decide⟩ hl.1 (by cases r5 <;> exact Nat.le_of_ble_eq_true rfl) d_Mo_standbyRow_64 rfl rfl ?_
    replace hden := gb hden
    obtain ⟨a9, rfl, hden⟩ := hden
    replace hden := gb hden
    obtain ⟨S10, hv, hden⟩ := hden
    refine r_iast X (t := 0) rfl hv d_Mo_standbyRow_67 ?_
    exact w_Mo_standbyRow_68 Y  x0 x1 S10 hden (lv_sub hl [0, 1] rfl)
def D_Mo_standbyRow (h0 : Nat) (S : gS) : Option gS := Option.bind (gRf S h0 10 20) (fun r1 => Option.bind r1 (fun a2 => Option.bind (gAI S a2 0 6) (fun v3 => Option.bind (gOb S h0 10) (fun fs5 => Option.bind (D_Mo_expect h0 91 S) (fun S4 => Option.bind (gI S4 h0 10 5) (fun v6 => (if v6 = 0 then Option.bind (gRf S4 h0 10 21) (fun r8 => Option.bind (gOb S4 h0 10) (fun fs11 => gB2 (D_Mo_number h0 0 23 S4) (fun v10 S9 => Option.bind r8 (fun a12 => Option.bind (gSI S9 a12 0 (240 + (5 * v3)) v10) (fun S13 => B_Mo_standbyRow_40  h0 (240 + (5 * v3)) S13))))) else B_Mo_standbyRow_40  h0 (240 + (5 * v3)) S4)))))))
set_option maxRecDepth 100000 in
set_option maxHeartbeats 4000000 in
theorem c_Mo_standbyRow {D : va_G} {cT : Nat → ClassId} {H0 : Heap} {l : Launch} {S : gS} {S' : gS} {h0 : Nat} (hden : D_Mo_standbyRow h0 S = some S') : gM D cT H0 l y_Mo_standbyRow (Cond.code y_Mo_standbyRow prog_12_method_18_code 2 (Option.none : Option Jvm.ClassFile.FieldType)) 3 67 [va_rf (some h0)] S S' (.inr none) := by
  refine gM.ofV (by decide) ?_
  intro p e s m args below meth c s₁ B hml ea X hZ hex hr hE
  subst ea
  have Y : gY D cT H0 p s m _ meth c prog_12_method_18_code 2 "PlanTextModel" 3 67 S (Option.none : Option Jvm.ClassFile.FieldType) := ⟨X, hZ, hex, hr, hE⟩
  have hx := X.1
  have hb := X.2.1
  have hl := lv_entry ([va_rf (some h0)]) (n := 2) (Nat.le_of_ble_eq_true rfl)
  rw [lg_entry_eq]
  generalize (lg_sl ([va_rf (some h0)]) ++ List.replicate (2 - (lg_sl ([va_rf (some h0)])).length) Slot.unset).toArray = ls at hl ⊢
  have hl : lv_has ls 2 [(0, va_rf (some h0))] := hl
  unfold D_Mo_standbyRow at hden
  refine gV.lift (fun _ _ _ _ => lv_sipush (v := 240) hx hb d_Mo_standbyRow_0 (by decide)) ?_
  refine gV.lift (fun _ _ _ _ => lv_iconst (v := 5) hx hb d_Mo_standbyRow_3 (by decide)) ?_
  refine gV.lift (fun _ _ _ _ => g_aload_n hx hb d_Mo_standbyRow_4 rfl (lv_at hl 0 rfl)) ?_
  replace hden := gb hden
  obtain ⟨r1, hv, hden⟩ := hden
  refine r_getR X cl_Mo (k := 20) hv (by decide) q_785 d_Mo_standbyRow_5 ?_
  refine gV.lift (fun _ _ _ _ => lv_bipush (v := 6) hx hb d_Mo_standbyRow_8 (by decide)) ?_
  replace hden := gb hden
  obtain ⟨a2, rfl, hden⟩ := hden
  replace hden := gb hden
  obtain ⟨v3, hv, hden⟩ := hden
  refine r_iald X (t := 0) rfl hv d_Mo_standbyRow_10 ?_
  refine gV.lift (fun _ _ _ _ => lv_imul hx hb d_Mo_standbyRow_11) ?_
  refine gV.lift (fun _ _ _ _ => lv_iadd hx hb d_Mo_standbyRow_12) ?_
  refine gV.liftS (nL := 2) (lv' := [(1, .int (240 + (5 * v3))), (0, va_rf (some h0))]) (fun _ _ _ _ => lv_istore_n hx hb d_Mo_standbyRow_13 rfl hl (by decide) rfl) (fun ls hl => ?_)
  refine gV.lift (fun _ _ _ _ => g_aload_n hx hb d_Mo_standbyRow_14 rfl (lv_at hl 1 rfl)) ?_
  refine gV.lift (fun _ _ _ _ => lv_bipush (v := 91) hx hb d_Mo_standbyRow_15 (by decide)) ?_
  replace hden := gb hden
  obtain ⟨fs5, ho, hden⟩ := hden
  replace hden := gb hden
  obtain ⟨S4, hz, hden⟩ := hden
  refine g_callV (As := [.int 91]) (rest := []) X hZ (c_Mo_expect hz) cl_Mo (gOb_spec ho) q_891 q_5 q_888 q_890 qp_33 ⟨by decide, by decide, by show _ = some 1; decide +kernel⟩ ⟨by decide, by decide⟩ hl.1 (Nat.le_of_ble_eq_true rfl) d_Mo_standbyRow_17 rfl rfl ?_
  refine gV.lift (fun _ _ _ _ => g_aload_n hx hb d_Mo_standbyRow_20 rfl (lv_at hl 1 rfl)) ?_
  replace hden := gb hden
  obtain ⟨v6, hv, hden⟩ := hden
  refine r_getI X cl_Mo (k := 5) hv (by decide) q_770 d_Mo_standbyRow_21 ?_
  refine gV.lift2 (fun _ _ _ _ => lv_if_ne (tgt := 40) hx hb d_Mo_standbyRow_24 (by decide)) (fun hc7 => ?_) (fun hc7 => ?_)
  · replace hden := gin hc7 hden
    exact w_Mo_standbyRow_40 Y  h0 (240 + (5 * v3)) S4 hden (lv_sub hl [1, 0] rfl)
  · replace hden := gip hc7 hden
    refine gV.lift (fun _ _ _ _ => g_aload_n hx hb d_Mo_standbyRow_27 rfl (lv_at hl 1 rfl)) ?_
    replace hden := gb hden
    obtain ⟨r8, hv, hden⟩ := hden
    refine r_getR X cl_Mo (k := 21) hv (by decide) q_786 d_Mo_standbyRow_28 ?_
    refine gV.lift (fun _ _ _ _ => lv_iload_n hx hb d_Mo_standbyRow_31 rfl (lv_at hl 0 rfl)) ?_
    refine gV.lift (fun _ _ _ _ => g_aload_n hx hb d_Mo_standbyRow_32 rfl (lv_at hl 1 rfl)) ?_
    refine gV.lift (fun _ _ _ _ => lv_iconst (v := 0) hx hb d_Mo_standbyRow_33 (by decide)) ?_
    refine gV.lift (fun _ _ _ _ => lv_bipush (v := 23) hx hb d_Mo_standbyRow_34 (by decide)) ?_
    replace hden := gb hden
    obtain ⟨fs11, ho, hden⟩ := hden
    replace hden := gb2 hden
    obtain ⟨v10, S9, hz, hden⟩ := hden
    refine g_callV (As := [.int 0, .int 23]) (rest := [.int (240 + (5 * v3)), va_rf r8]) X hZ (c_Mo_number hz) cl_Mo (gOb_spec ho) q_883 q_5 q_880 q_882 qp_31 ⟨by decide, by decide, by show _ = some 2; decide +kernel⟩ ⟨by decide, by decide⟩ hl.1 (by cases r8 <;> exact Nat.le_of_ble_eq_true rfl) d_Mo_standbyRow_36 rfl rfl ?_
    replace hden := gb hden
    obtain ⟨a12, rfl, hden⟩ := hden
    replace hden := gb hden
    obtain ⟨S13, hv, hden⟩ := hden
    refine r_iast X (t := 0) rfl hv d_Mo_standbyRow_39 ?_
    exact w_Mo_standbyRow_40 Y  h0 (240 + (5 * v3)) S13 hden (lv_sub hl [1, 0] rfl)
