/-! PlanTextModel.readAll()V -/
abbrev y_Mo_readAll : MethodName := ⟨"PlanTextModel", "readAll", "()V"⟩
theorem d_Mo_readAll_0 : decode prog_12_method_19_code 0 = .ok (.sipush 300, 3) := by decide +kernel
theorem d_Mo_readAll_3 : decode prog_12_method_19_code 3 = .ok (.istore_n 1, 1) := by decide +kernel
theorem d_Mo_readAll_4 : decode prog_12_method_19_code 4 = .ok (.iload_n 1, 1) := by decide +kernel
theorem d_Mo_readAll_5 : decode prog_12_method_19_code 5 = .ok (.sipush 350, 3) := by decide +kernel
theorem d_Mo_readAll_8 : decode prog_12_method_19_code 8 = .ok (.if_icmp .ge 16, 3) := by decide +kernel
theorem d_Mo_readAll_11 : decode prog_12_method_19_code 11 = .ok (.aload_n 0, 1) := by decide +kernel
theorem d_Mo_readAll_12 : decode prog_12_method_19_code 12 = .ok (.getfield 20, 3) := by decide +kernel
theorem d_Mo_readAll_15 : decode prog_12_method_19_code 15 = .ok (.iload_n 1, 1) := by decide +kernel
theorem d_Mo_readAll_16 : decode prog_12_method_19_code 16 = .ok (.iconst 0, 1) := by decide +kernel
theorem d_Mo_readAll_17 : decode prog_12_method_19_code 17 = .ok (.bastore, 1) := by decide +kernel
theorem d_Mo_readAll_18 : decode prog_12_method_19_code 18 = .ok (.iinc 1 1, 3) := by decide +kernel
theorem d_Mo_readAll_21 : decode prog_12_method_19_code 21 = .ok (.goto (-17), 3) := by decide +kernel
theorem d_Mo_readAll_24 : decode prog_12_method_19_code 24 = .ok (.aload_n 0, 1) := by decide +kernel
theorem d_Mo_readAll_25 : decode prog_12_method_19_code 25 = .ok (.getfield 51, 3) := by decide +kernel
theorem d_Mo_readAll_28 : decode prog_12_method_19_code 28 = .ok (.bipush 6, 2) := by decide +kernel
theorem d_Mo_readAll_30 : decode prog_12_method_19_code 30 = .ok (.iconst 0, 1) := by decide +kernel
theorem d_Mo_readAll_31 : decode prog_12_method_19_code 31 = .ok (.iastore, 1) := by decide +kernel
theorem d_Mo_readAll_32 : decode prog_12_method_19_code 32 = .ok (.aload_n 0, 1) := by decide +kernel
theorem d_Mo_readAll_33 : decode prog_12_method_19_code 33 = .ok (.iconst 0, 1) := by decide +kernel
theorem d_Mo_readAll_34 : decode prog_12_method_19_code 34 = .ok (.putfield 87, 3) := by decide +kernel
theorem d_Mo_readAll_37 : decode prog_12_method_19_code 37 = .ok (.aload_n 0, 1) := by decide +kernel
theorem d_Mo_readAll_38 : decode prog_12_method_19_code 38 = .ok (.iconst 0, 1) := by decide +kernel
theorem d_Mo_readAll_39 : decode prog_12_method_19_code 39 = .ok (.putfield 83, 3) := by decide +kernel
theorem d_Mo_readAll_42 : decode prog_12_method_19_code 42 = .ok (.aload_n 0, 1) := by decide +kernel
theorem d_Mo_readAll_43 : decode prog_12_method_19_code 43 = .ok (.iconst (-1), 1) := by decide +kernel
theorem d_Mo_readAll_44 : decode prog_12_method_19_code 44 = .ok (.putfield 13, 3) := by decide +kernel
theorem d_Mo_readAll_47 : decode prog_12_method_19_code 47 = .ok (.aload_n 0, 1) := by decide +kernel
theorem d_Mo_readAll_48 : decode prog_12_method_19_code 48 = .ok (.invokevirtual 93, 3) := by decide +kernel
theorem d_Mo_readAll_51 : decode prog_12_method_19_code 51 = .ok (.istore_n 1, 1) := by decide +kernel
theorem d_Mo_readAll_52 : decode prog_12_method_19_code 52 = .ok (.aload_n 0, 1) := by decide +kernel
theorem d_Mo_readAll_53 : decode prog_12_method_19_code 53 = .ok (.getfield 83, 3) := by decide +kernel
theorem d_Mo_readAll_56 : decode prog_12_method_19_code 56 = .ok (.ifCond .ne 133, 3) := by decide +kernel
theorem d_Mo_readAll_59 : decode prog_12_method_19_code 59 = .ok (.iload_n 1, 1) := by decide +kernel
theorem d_Mo_readAll_60 : decode prog_12_method_19_code 60 = .ok (.iconst (-1), 1) := by decide +kernel
theorem d_Mo_readAll_61 : decode prog_12_method_19_code 61 = .ok (.if_icmp .eq 128, 3) := by decide +kernel
theorem d_Mo_readAll_64 : decode prog_12_method_19_code 64 = .ok (.iload_n 1, 1) := by decide +kernel
theorem d_Mo_readAll_65 : decode prog_12_method_19_code 65 = .ok (.bipush 112, 2) := by decide +kernel
theorem d_Mo_readAll_67 : decode prog_12_method_19_code 67 = .ok (.if_icmp .eq 27, 3) := by decide +kernel
theorem d_Mo_readAll_70 : decode prog_12_method_19_code 70 = .ok (.iload_n 1, 1) := by decide +kernel
theorem d_Mo_readAll_71 : decode prog_12_method_19_code 71 = .ok (.bipush 100, 2) := by decide +kernel
theorem d_Mo_readAll_73 : decode prog_12_method_19_code 73 = .ok (.if_icmp .eq 21, 3) := by decide +kernel
theorem d_Mo_readAll_76 : decode prog_12_method_19_code 76 = .ok (.iload_n 1, 1) := by decide +kernel
theorem d_Mo_readAll_77 : decode prog_12_method_19_code 77 = .ok (.bipush 115, 2) := by decide +kernel
theorem d_Mo_readAll_79 : decode prog_12_method_19_code 79 = .ok (.if_icmp .ne 19, 3) := by decide +kernel
theorem d_Mo_readAll_82 : decode prog_12_method_19_code 82 = .ok (.aload_n 0, 1) := by decide +kernel
theorem d_Mo_readAll_83 : decode prog_12_method_19_code 83 = .ok (.getfield 51, 3) := by decide +kernel
theorem d_Mo_readAll_86 : decode prog_12_method_19_code 86 = .ok (.bipush 6, 2) := by decide +kernel
theorem d_Mo_readAll_88 : decode prog_12_method_19_code 88 = .ok (.iaload, 1) := by decide +kernel
theorem d_Mo_readAll_89 : decode prog_12_method_19_code 89 = .ok (.bipush 8, 2) := by decide +kernel
theorem d_Mo_readAll_91 : decode prog_12_method_19_code 91 = .ok (.if_icmp .ge 7, 3) := by decide +kernel
theorem d_Mo_readAll_94 : decode prog_12_method_19_code 94 = .ok (.iconst 1, 1) := by decide +kernel
theorem d_Mo_readAll_95 : decode prog_12_method_19_code 95 = .ok (.goto 4, 3) := by decide +kernel
theorem d_Mo_readAll_98 : decode prog_12_method_19_code 98 = .ok (.iconst 0, 1) := by decide +kernel
theorem d_Mo_readAll_99 : decode prog_12_method_19_code 99 = .ok (.istore_n 2, 1) := by decide +kernel
theorem d_Mo_readAll_100 : decode prog_12_method_19_code 100 = .ok (.iload_n 2, 1) := by decide +kernel
theorem d_Mo_readAll_101 : decode prog_12_method_19_code 101 = .ok (.ifCond .ne 11, 3) := by decide +kernel
theorem d_Mo_readAll_104 : decode prog_12_method_19_code 104 = .ok (.aload_n 0, 1) := by decide +kernel
theorem d_Mo_readAll_105 : decode prog_12_method_19_code 105 = .ok (.aload_n 0, 1) := by decide +kernel
theorem d_Mo_readAll_106 : decode prog_12_method_19_code 106 = .ok (.getfield 87, 3) := by decide +kernel
theorem d_Mo_readAll_109 : decode prog_12_method_19_code 109 = .ok (.invokevirtual 97, 3) := by decide +kernel
theorem d_Mo_readAll_112 : decode prog_12_method_19_code 112 = .ok (.aload_n 0, 1) := by decide +kernel
theorem d_Mo_readAll_113 : decode prog_12_method_19_code 113 = .ok (.dup, 1) := by decide +kernel
theorem d_Mo_readAll_114 : decode prog_12_method_19_code 114 = .ok (.getfield 87, 3) := by decide +kernel
theorem d_Mo_readAll_117 : decode prog_12_method_19_code 117 = .ok (.iconst 1, 1) := by decide +kernel
theorem d_Mo_readAll_118 : decode prog_12_method_19_code 118 = .ok (.iadd, 1) := by decide +kernel
theorem d_Mo_readAll_119 : decode prog_12_method_19_code 119 = .ok (.putfield 87, 3) := by decide +kernel
theorem d_Mo_readAll_122 : decode prog_12_method_19_code 122 = .ok (.iload_n 2, 1) := by decide +kernel
theorem d_Mo_readAll_123 : decode prog_12_method_19_code 123 = .ok (.ifCond .eq 13, 3) := by decide +kernel
theorem d_Mo_readAll_126 : decode prog_12_method_19_code 126 = .ok (.iload_n 1, 1) := by decide +kernel
theorem d_Mo_readAll_127 : decode prog_12_method_19_code 127 = .ok (.bipush 112, 2) := by decide +kernel
theorem d_Mo_readAll_129 : decode prog_12_method_19_code 129 = .ok (.if_icmp .ne 7, 3) := by decide +kernel
theorem d_Mo_readAll_132 : decode prog_12_method_19_code 132 = .ok (.aload_n 0, 1) := by decide +kernel
theorem d_Mo_readAll_133 : decode prog_12_method_19_code 133 = .ok (.invokevirtual 127, 3) := by decide +kernel
theorem d_Mo_readAll_136 : decode prog_12_method_19_code 136 = .ok (.iload_n 2, 1) := by decide +kernel
theorem d_Mo_readAll_137 : decode prog_12_method_19_code 137 = .ok (.ifCond .eq 13, 3) := by decide +kernel
theorem d_Mo_readAll_140 : decode prog_12_method_19_code 140 = .ok (.iload_n 1, 1) := by decide +kernel
theorem d_Mo_readAll_141 : decode prog_12_method_19_code 141 = .ok (.bipush 100, 2) := by decide +kernel
theorem d_Mo_readAll_143 : decode prog_12_method_19_code 143 = .ok (.if_icmp .ne 7, 3) := by decide +kernel
theorem d_Mo_readAll_146 : decode prog_12_method_19_code 146 = .ok (.aload_n 0, 1) := by decide +kernel
theorem d_Mo_readAll_147 : decode prog_12_method_19_code 147 = .ok (.invokevirtual 130, 3) := by decide +kernel
theorem d_Mo_readAll_150 : decode prog_12_method_19_code 150 = .ok (.iload_n 2, 1) := by decide +kernel
theorem d_Mo_readAll_151 : decode prog_12_method_19_code 151 = .ok (.ifCond .eq 13, 3) := by decide +kernel
theorem d_Mo_readAll_154 : decode prog_12_method_19_code 154 = .ok (.iload_n 1, 1) := by decide +kernel
theorem d_Mo_readAll_155 : decode prog_12_method_19_code 155 = .ok (.bipush 115, 2) := by decide +kernel
theorem d_Mo_readAll_157 : decode prog_12_method_19_code 157 = .ok (.if_icmp .ne 7, 3) := by decide +kernel
theorem d_Mo_readAll_160 : decode prog_12_method_19_code 160 = .ok (.aload_n 0, 1) := by decide +kernel
theorem d_Mo_readAll_161 : decode prog_12_method_19_code 161 = .ok (.invokevirtual 133, 3) := by decide +kernel
theorem d_Mo_readAll_164 : decode prog_12_method_19_code 164 = .ok (.aload_n 0, 1) := by decide +kernel
theorem d_Mo_readAll_165 : decode prog_12_method_19_code 165 = .ok (.bipush 59, 2) := by decide +kernel
theorem d_Mo_readAll_167 : decode prog_12_method_19_code 167 = .ok (.invokevirtual 109, 3) := by decide +kernel
theorem d_Mo_readAll_170 : decode prog_12_method_19_code 170 = .ok (.aload_n 0, 1) := by decide +kernel
theorem d_Mo_readAll_171 : decode prog_12_method_19_code 171 = .ok (.getfield 83, 3) := by decide +kernel
theorem d_Mo_readAll_174 : decode prog_12_method_19_code 174 = .ok (.ifCond .eq 7, 3) := by decide +kernel
theorem d_Mo_readAll_177 : decode prog_12_method_19_code 177 = .ok (.iconst (-1), 1) := by decide +kernel
theorem d_Mo_readAll_178 : decode prog_12_method_19_code 178 = .ok (.goto 7, 3) := by decide +kernel
theorem d_Mo_readAll_181 : decode prog_12_method_19_code 181 = .ok (.aload_n 0, 1) := by decide +kernel
theorem d_Mo_readAll_182 : decode prog_12_method_19_code 182 = .ok (.invokevirtual 93, 3) := by decide +kernel
theorem d_Mo_readAll_185 : decode prog_12_method_19_code 185 = .ok (.istore_n 1, 1) := by decide +kernel
theorem d_Mo_readAll_186 : decode prog_12_method_19_code 186 = .ok (.goto (-134), 3) := by decide +kernel
theorem d_Mo_readAll_189 : decode prog_12_method_19_code 189 = .ok (.return_, 1) := by decide +kernel
def B_Mo_readAll_189   (S : gS) : Option gS := some S
set_option maxRecDepth 100000 in
set_option maxHeartbeats 4000000 in
theorem w_Mo_readAll_189 {D : va_G} {cT : Nat → ClassId} {H0 : Heap} {l : Launch} {p : Program} {e : Env} {s : State} {m : MethodId} {args : Array Value} {below : List Frame} {meth : Method} {c : Code} {S0 : gS} {S' : gS} (Y : gY D cT H0 p s m args meth c prog_12_method_19_code 3 "PlanTextModel" 6 135 S0 (Option.none : Option Jvm.ClassFile.FieldType))   (S : gS) (hden : B_Mo_readAll_189   S = some S') {ls : Array Slot} (hl : lv_has ls 3 []) : gV D cT H0 p l e (gRm 6 135 S0) s m args below meth c (gQ D cT H0 below S0 S' (.inr none) s) S0 S (F0 m 189 ls []) := by
  obtain ⟨X, hZ, hex, hr, hE⟩ := id Y
  have hx := X.1
  have hb := X.2.1
  unfold B_Mo_readAll_189 at hden
  obtain rfl := gsi hden
  exact g_vret X hr d_Mo_readAll_189
def B_Mo_readAll_185 (k52 : Nat → Int32 → gS → Option gS) (x0 : Nat) (t0 : Int32) (S : gS) : Option gS := k52 x0 t0 S
set_option maxRecDepth 100000 in
set_option maxHeartbeats 4000000 in
theorem w_Mo_readAll_185 {D : va_G} {cT : Nat → ClassId} {H0 : Heap} {l : Launch} {p : Program} {e : Env} {s : State} {m : MethodId} {args : Array Value} {below : List Frame} {meth : Method} {c : Code} {S0 : gS} {S' : gS} (Y : gY D cT H0 p s m args meth c prog_12_method_19_code 3 "PlanTextModel" 6 135 S0 (Option.none : Option Jvm.ClassFile.FieldType)) {k52 : Nat → Int32 → gS → Option gS} (hk52 : ∀ (x0 : Nat) (x1 : Int32) (S : gS) (ls : Array Slot), k52 x0 x1 S = some S' → lv_has ls 3 [(0, va_rf (some x0)), (1, .int x1)] → gV D cT H0 p l e (gRm 6 135 S0) s m args below meth c (gQ D cT H0 below S0 S' (.inr none) s) S0 S (F0 m 52 ls [])) (x0 : Nat) (t0 : Int32) (S : gS) (hden : B_Mo_readAll_185 k52 x0 t0 S = some S') {ls : Array Slot} (hl : lv_has ls 3 [(0, va_rf (some x0))]) : gV D cT H0 p l e (gRm 6 135 S0) s m args below meth c (gQ D cT H0 below S0 S' (.inr none) s) S0 S (F0 m 185 ls [.int t0]) := by
  obtain ⟨X, hZ, hex, hr, hE⟩ := id Y
  have hx := X.1
  have hb := X.2.1
  unfold B_Mo_readAll_185 at hden
  refine gV.liftS (nL := 3) (lv' := [(1, .int t0), (0, va_rf (some x0))]) (fun _ _ _ _ => lv_istore_n hx hb d_Mo_readAll_185 rfl hl (by decide) rfl) (fun ls hl => ?_)
  refine gV.lift (fun _ _ _ _ => lv_goto (tgt := 52) hx hb d_Mo_readAll_186 (by decide)) ?_
  exact hk52 x0 t0 S _ hden (lv_sub hl [1, 0] rfl)
def B_Mo_readAll_164 (k52 : Nat → Int32 → gS → Option gS) (x0 : Nat) (S : gS) : Option gS := Option.bind (gOb S x0 10) (fun fs2 => Option.bind (D_Mo_expect x0 59 S) (fun S1 => Option.bind (gI S1 x0 10 5) (fun v3 => (if v3 = 0 then Option.bind (gOb S1 x0 10) (fun fs7 => gB2 (D_Mo_see x0 S1) (fun v6 S5 => B_Mo_readAll_185 k52 x0 v6 S5)) else B_Mo_readAll_185 k52 x0 (-1) S1))))
set_option maxRecDepth 100000 in
set_option maxHeartbeats 4000000 in
theorem w_Mo_readAll_164 {D : va_G} {cT : Nat → ClassId} {H0 : Heap} {l : Launch} {p : Program} {e : Env} {s : State} {m : MethodId} {args : Array Value} {below : List Frame} {meth : Method} {c : Code} {S0 : gS} {S' : gS} (Y : gY D cT H0 p s m args meth c prog_12_method_19_code 3 "PlanTextModel" 6 135 S0 (Option.none : Option Jvm.ClassFile.FieldType)) {k52 : Nat → Int32 → gS → Option gS} (hk52 : ∀ (x0 : Nat) (x1 : Int32) (S : gS) (ls : Array Slot), k52 x0 x1 S = some S' → lv_has ls 3 [(0, va_rf (some x0)), (1, .int x1)] → gV D cT H0 p l e (gRm 6 135 S0) s m args below meth c (gQ D cT H0 below S0 S' (.inr none) s) S0 S (F0 m 52 ls [])) (x0 : Nat) (S : gS) (hden : B_Mo_readAll_164 k52 x0 S = some S') {ls : Array Slot} (hl : lv_has ls 3 [(0, va_rf (some x0))]) : gV D cT H0 p l e (gRm 6 135 S0) s m args below meth c (gQ D cT H0 below S0 S' (.inr none) s) S0 S (F0 m 164 ls []) := by
  obtain ⟨X, hZ, hex, hr, hE⟩ := id Y
  have hx := X.1
  have hb := X.2.1
  unfold B_Mo_readAll_164 at hden
  refine gV.lift (fun _ _ _ _ => g_aload_n hx hb d_Mo_readAll_164 rfl (lv_at hl 0 rfl)) ?_
  refine gV.lift (fun _ _ _ _ => lv_bipush (v := 59) hx hb d_Mo_readAll_165 (by decide)) ?_
  replace hden := gb hden
  obtain ⟨fs2, ho, hden⟩ := hden
  replace hden := gb hden
  obtain ⟨S1, hz, hden⟩ := hden
  refine g_callV (As := [.int 59]) (rest := []) X hZ (c_Mo_expect hz) cl_Mo (gOb_spec ho) q_891 q_5 q_888 q_890 qp_33 ⟨by decide, by decide, by show _ = some 1; decide +kernel⟩ ⟨by decide, by decide⟩ hl.1 (Nat.le_of_ble_eq_true rfl) d_Mo_readAll_167 rfl rfl ?_
  refine gV.lift (fun _ _ _ _ => g_aload_n hx hb d_Mo_readAll_170 rfl (lv_at hl 0 rfl)) ?_
  replace hden := gb hden
  obtain ⟨v3, hv, hden⟩ := hden
  refine r_getI X cl_Mo (k := 5) hv (by decide) q_770 d_Mo_readAll_171 ?_
  refine gV.lift2 (fun _ _ _ _ => lv_if_eq (tgt := 181) hx hb d_Mo_readAll_174 (by decide)) (fun hc4 => ?_) (fun hc4 => ?_)
  · replace hden := gip hc4 hden
    refine gV.lift (fun _ _ _ _ => g_aload_n hx hb d_Mo_readAll_181 rfl (lv_at hl 0 rfl)) ?_
    replace hden := gb hden
    obtain ⟨fs7, ho, hden⟩ := hden
    replace hden := gb2 hden
    obtain ⟨v6, S5, hz, hden⟩ := hden
    refine g_callV (As := []) (rest := []) X hZ (c_Mo_see hz) cl_Mo (gOb_spec ho) q_871 q_5 q_868 q_870 qp_28 ⟨by decide, by decide, by show _ = some 0; decide +kernel⟩ ⟨by decide, by decide⟩ hl.1 (Nat.le_of_ble_eq_true rfl) d_Mo_readAll_182 rfl rfl ?_
    exact w_Mo_readAll_185 Y hk52 x0 v6 S5 hden (lv_sub hl [0] rfl)
  · replace hden := gin hc4 hden
    refine gV.lift (fun _ _ _ _ => lv_iconst (v := (-1)) hx hb d_Mo_readAll_177 (by decide)) ?_
    refine gV.lift (fun _ _ _ _ => lv_goto (tgt := 185) hx hb d_Mo_readAll_178 (by decide)) ?_
    exact w_Mo_readAll_185 Y hk52 x0 (-1) S1 hden (lv_sub hl [0] rfl)
def B_Mo_readAll_150 (k52 : Nat → Int32 → gS → Option gS) (x0 : Nat) (x1 : Int32) (x2 : Int32) (S : gS) : Option gS := (if x2 = 0 then B_Mo_readAll_164 k52 x0 S else (if x1 = 115 then Option.bind (gOb S x0 10) (fun fs4 => Option.bind (D_Mo_standbyRow x0 S) (fun S3 => B_Mo_readAll_164 k52 x0 S3)) else B_Mo_readAll_164 k52 x0 S))
set_option maxRecDepth 100000 in
set_option maxHeartbeats 4000000 in
theorem w_Mo_readAll_150 {D : va_G} {cT : Nat → ClassId} {H0 : Heap} {l : Launch} {p : Program} {e : Env} {s : State} {m : MethodId} {args : Array Value} {below : List Frame} {meth : Method} {c : Code} {S0 : gS} {S' : gS} (Y : gY D cT H0 p s m args meth c prog_12_method_19_code 3 "PlanTextModel" 6 135 S0 (Option.none : Option Jvm.ClassFile.FieldType)) {k52 : Nat → Int32 → gS → Option gS} (hk52 : ∀ (x0 : Nat) (x1 : Int32) (S : gS) (ls : Array Slot), k52 x0 x1 S = some S' → lv_has ls 3 [(0, va_rf (some x0)), (1, .int x1)] → gV D cT H0 p l e (gRm 6 135 S0) s m args below meth c (gQ D cT H0 below S0 S' (.inr none) s) S0 S (F0 m 52 ls [])) (x0 : Nat) (x1 : Int32) (x2 : Int32) (S : gS) (hden : B_Mo_readAll_150 k52 x0 x1 x2 S = some S') {ls : Array Slot} (hl : lv_has ls 3 [(0, va_rf (some x0)), (1, .int x1), (2, .int x2)]) : gV D cT H0 p l e (gRm 6 135 S0) s m args below meth c (gQ D cT H0 below S0 S' (.inr none) s) S0 S (F0 m 150 ls []) := by
  obtain ⟨X, hZ, hex, hr, hE⟩ := id Y
  have hx := X.1
  have hb := X.2.1
  unfold B_Mo_readAll_150 at hden
  refine gV.lift (fun _ _ _ _ => lv_iload_n hx hb d_Mo_readAll_150 rfl (lv_at hl 2 rfl)) ?_
  refine gV.lift2 (fun _ _ _ _ => lv_if_eq (tgt := 164) hx hb d_Mo_readAll_151 (by decide)) (fun hc1 => ?_) (fun hc1 => ?_)
  · replace hden := gip hc1 hden
    exact w_Mo_readAll_164 Y hk52 x0 S hden (lv_sub hl [0] rfl)
  · replace hden := gin hc1 hden
    refine gV.lift (fun _ _ _ _ => lv_iload_n hx hb d_Mo_readAll_154 rfl (lv_at hl 1 rfl)) ?_
    refine gV.lift (fun _ _ _ _ => lv_bipush (v := 115) hx hb d_Mo_readAll_155 (by decide)) ?_
    refine gV.lift2 (fun _ _ _ _ => lv_icmp_ne (tgt := 164) hx hb d_Mo_readAll_157 (by decide)) (fun hc2 => ?_) (fun hc2 => ?_)
    · replace hden := gin hc2 hden
      exact w_Mo_readAll_164 Y hk52 x0 S hden (lv_sub hl [0] rfl)
    · replace hden := gip hc2 hden
      refine gV.lift (fun _ _ _ _ => g_aload_n hx hb d_Mo_readAll_160 rfl (lv_at hl 0 rfl)) ?_
      replace hden := gb hden
      obtain ⟨fs4, ho, hden⟩ := hden
      replace hden := gb hden
      obtain ⟨S3, hz, hden⟩ := hden
      refine g_callV (As := []) (rest := []) X hZ (c_Mo_standbyRow hz) cl_Mo (gOb_spec ho) q_919 q_5 q_916 q_918 qp_40 ⟨by decide, by decide, by show _ = some 0; decide +kernel⟩ ⟨by decide, by decide⟩ hl.1 (Nat.le_of_ble_eq_true rfl) d_Mo_readAll_161 rfl rfl ?_
      exact w_Mo_readAll_164 Y hk52 x0 S3 hden (lv_sub hl [0] rfl)
def B_Mo_readAll_136 (k52 : Nat → Int32 → gS → Option gS) (x0 : Nat) (x1 : Int32) (x2 : Int32) (S : gS) : Option gS := (if x2 = 0 then B_Mo_readAll_150 k52 x0 x1 x2 S else (if x1 = 100 then Option.bind (gOb S x0 10) (fun fs4 => Option.bind (D_Mo_defaultRow x0 S) (fun S3 => B_Mo_readAll_150 k52 x0 x1 x2 S3)) else B_Mo_readAll_150 k52 x0 x1 x2 S))
set_option maxRecDepth 100000 in
set_option maxHeartbeats 4000000 in
theorem w_Mo_readAll_136 {D : va_G} {cT : Nat → ClassId} {H0 : Heap} {l : Launch} {p : Program} {e : Env} {s : State} {m : MethodId} {args : Array Value} {below : List Frame} {meth : Method} {c : Code} {S0 : gS} {S' : gS} (Y : gY D cT H0 p s m args meth c prog_12_method_19_code 3 "PlanTextModel" 6 135 S0 (Option.none : Option Jvm.ClassFile.FieldType)) {k52 : Nat → Int32 → gS → Option gS} (hk52 : ∀ (x0 : Nat) (x1 : Int32) (S : gS) (ls : Array Slot), k52 x0 x1 S = some S' → lv_has ls 3 [(0, va_rf (some x0)), (1, .int x1)] → gV D cT H0 p l e (gRm 6 135 S0) s m args below meth c (gQ D cT H0 below S0 S' (.inr none) s) S0 S (F0 m 52 ls [])) (x0 : Nat) (x1 : Int32) (x2 : Int32) (S : gS) (hden : B_Mo_readAll_136 k52 x0 x1 x2 S = some S') {ls : Array Slot} (hl : lv_has ls 3 [(0, va_rf (some x0)), (1, .int x1), (2, .int x2)]) : gV D cT H0 p l e (gRm 6 135 S0) s m args below meth c (gQ D cT H0 below S0 S' (.inr none) s) S0 S (F0 m 136 ls []) := by
  obtain ⟨X, hZ, hex, hr, hE⟩ := id Y
  have hx := X.1
  have hb := X.2.1
  unfold B_Mo_readAll_136 at hden
  refine gV.lift (fun _ _ _ _ => lv_iload_n hx hb d_Mo_readAll_136 rfl (lv_at hl 2 rfl)) ?_
  refine gV.lift2 (fun _ _ _ _ => lv_if_eq (tgt := 150) hx hb d_Mo_readAll_137 (by decide)) (fun hc1 => ?_) (fun hc1 => ?_)
  · replace hden := gip hc1 hden
    exact w_Mo_readAll_150 Y hk52 x0 x1 x2 S hden (lv_sub hl [0, 1, 2] rfl)
  · replace hden := gin hc1 hden
    refine gV.lift (fun _ _ _ _ => lv_iload_n hx hb d_Mo_readAll_140 rfl (lv_at hl 1 rfl)) ?_
    refine gV.lift (fun _ _ _ _ => lv_bipush (v := 100) hx hb d_Mo_readAll_141 (by decide)) ?_
    refine gV.lift2 (fun _ _ _ _ => lv_icmp_ne (tgt := 150) hx hb d_Mo_readAll_143 (by decide)) (fun hc2 => ?_) (fun hc2 => ?_)
    · replace hden := gin hc2 hden
      exact w_Mo_readAll_150 Y hk52 x0 x1 x2 S hden (lv_sub hl [0, 1, 2] rfl)
    · replace hden := gip hc2 hden
      refine gV.lift (fun _ _ _ _ => g_aload_n hx hb d_Mo_readAll_146 rfl (lv_at hl 0 rfl)) ?_
      replace hden := gb hden
      obtain ⟨fs4, ho, hden⟩ := hden
      replace hden := gb hden
      obtain ⟨S3, hz, hden⟩ := hden
      refine g_callV (As := []) (rest := []) X hZ (c_Mo_defaultRow hz) cl_Mo (gOb_spec ho) q_915 q_5 q_912 q_914 qp_39 ⟨by decide, by decide, by show _ = some 0; decide +kernel⟩ ⟨by decide, by decide⟩ hl.1 (Nat.le_of_ble_eq_true rfl) d_Mo_readAll_147 rfl rfl ?_
      exact w_Mo_readAll_150 Y hk52 x0 x1 x2 S3 hden (lv_sub hl [0, 1, 2] rfl)
def B_Mo_readAll_112 (k52 : Nat → Int32 → gS → Option gS) (x0 : Nat) (x1 : Int32) (x2 : Int32) (S : gS) : Option gS := Option.bind (gI S x0 10 4) (fun v1 => Option.bind (gPut S x0 10 4 (.int (v1 + 1))) (fun S2 => (if x2 = 0 then B_Mo_readAll_136 k52 x0 x1 x2 S2 else (if x1 = 112 then Option.bind (gOb S2 x0 10) (fun fs6 => Option.bind (D_Mo_planRow x0 S2) (fun S5 => B_Mo_readAll_136 k52 x0 x1 x2 S5)) else B_Mo_readAll_136 k52 x0 x1 x2 S2))))
set_option maxRecDepth 100000 in
set_option maxHeartbeats 4000000 in
theorem w_Mo_readAll_112 {D : va_G} {cT : Nat → ClassId} {H0 : Heap} {l : Launch} {p : Program} {e : Env} {s : State} {m : MethodId} {args : Array Value} {below : List Frame} {meth : Method} {c : Code} {S0 : gS} {S' : gS} (Y : gY D cT H0 p s m args meth c prog_12_method_19_code 3 "PlanTextModel" 6 135 S0 (Option.none : Option Jvm.ClassFile.FieldType)) {k52 : Nat → Int32 → gS → Option gS} (hk52 : ∀ (x0 : Nat) (x1 : Int32) (S : gS) (ls : Array Slot), k52 x0 x1 S = some S' → lv_has ls 3 [(0, va_rf (some x0)), (1, .int x1)] → gV D cT H0 p l e (gRm 6 135 S0) s m args below meth c (gQ D cT H0 below S0 S' (.inr none) s) S0 S (F0 m 52 ls [])) (x0 : Nat) (x1 : Int32) (x2 : Int32) (S : gS) (hden : B_Mo_readAll_112 k52 x0 x1 x2 S = some S') {ls : Array Slot} (hl : lv_has ls 3 [(0, va_rf (some x0)), (1, .int x1), (2, .int x2)]) : gV D cT H0 p l e (gRm 6 135 S0) s m args below meth c (gQ D cT H0 below S0 S' (.inr none) s) S0 S (F0 m 112 ls []) := by
  obtain ⟨X, hZ, hex, hr, hE⟩ := id Y
  have hx := X.1
  have hb := X.2.1
  unfold B_Mo_readAll_112 at hden
  refine gV.lift (fun _ _ _ _ => g_aload_n hx hb d_Mo_readAll_112 rfl (lv_at hl 0 rfl)) ?_
  refine gV.lift (fun _ _ _ _ => lv_dup hx hb d_Mo_readAll_113 g_cat) ?_
  replace hden := gb hden
  obtain ⟨v1, hv, hden⟩ := hden
  refine r_getI X cl_Mo (k := 4) hv (by decide) q_769 d_Mo_readAll_114 ?_
  refine gV.lift (fun _ _ _ _ => lv_iconst (v := 1) hx hb d_Mo_readAll_117 (by decide)) ?_
  refine gV.lift (fun _ _ _ _ => lv_iadd hx hb d_Mo_readAll_118) ?_
  replace hden := gb hden
  obtain ⟨S2, hv, hden⟩ := hden
  refine r_put X cl_Mo (k := 4) hv (by decide) q_769 rfl rfl rfl d_Mo_readAll_119 ?_
  refine gV.lift (fun _ _ _ _ => lv_iload_n hx hb d_Mo_readAll_122 rfl (lv_at hl 2 rfl)) ?_
  refine gV.lift2 (fun _ _ _ _ => lv_if_eq (tgt := 136) hx hb d_Mo_readAll_123 (by decide)) (fun hc3 => ?_) (fun hc3 => ?_)
  · replace hden := gip hc3 hden
    exact w_Mo_readAll_136 Y hk52 x0 x1 x2 S2 hden (lv_sub hl [0, 1, 2] rfl)
  · replace hden := gin hc3 hden
    refine gV.lift (fun _ _ _ _ => lv_iload_n hx hb d_Mo_readAll_126 rfl (lv_at hl 1 rfl)) ?_
    refine gV.lift (fun _ _ _ _ => lv_bipush (v := 112) hx hb d_Mo_readAll_127 (by decide)) ?_
    refine gV.lift2 (fun _ _ _ _ => lv_icmp_ne (tgt := 136) hx hb d_Mo_readAll_129 (by decide)) (fun hc4 => ?_) (fun hc4 => ?_)
    · replace hden := gin hc4 hden
      exact w_Mo_readAll_136 Y hk52 x0 x1 x2 S2 hden (lv_sub hl [0, 1, 2] rfl)
    · replace hden := gip hc4 hden
      refine gV.lift (fun _ _ _ _ => g_aload_n hx hb d_Mo_readAll_132 rfl (lv_at hl 0 rfl)) ?_
      replace hden := gb hden
      obtain ⟨fs6, ho, hden⟩ := hden
      replace hden := gb hden
      obtain ⟨S5, hz, hden⟩ := hden
      refine g_callV (As := []) (rest := []) X hZ (c_Mo_planRow hz) cl_Mo (gOb_spec ho) q_879 q_5 q_876 q_878 qp_30 ⟨by decide, by decide, by show _ = some 0; decide +kernel⟩ ⟨by decide, by decide⟩ hl.1 (Nat.le_of_ble_eq_true rfl) d_Mo_readAll_133 rfl rfl ?_
      exact w_Mo_readAll_136 Y hk52 x0 x1 x2 S5 hden (lv_sub hl [0, 1, 2] rfl)
def B_Mo_readAll_99 (k52 : Nat → Int32 → gS → Option gS) (x0 : Nat) (x1 : Int32) (t0 : Int32) (S : gS) : Option gS := (if t0 = 0 then Option.bind (gI S x0 10 4) (fun v2 => Option.bind (gOb S x0 10) (fun fs4 => Option.bind (D_Mo_fail x0 v2 S) (fun S3 => B_Mo_readAll_112 k52 x0 x1 t0 S3))) else B_Mo_readAll_112 k52 x0 x1 t0 S)
set_option maxRecDepth 100000 in
set_option maxHeartbeats 4000000 in
theorem w_Mo_readAll_99 {D : va_G} {cT : Nat → ClassId} {H0 : Heap} {l : Launch} {p : Program} {e : Env} {s : State} {m : MethodId} {args : Array Value} {below : List Frame} {meth : Method} {c : Code} {S0 : gS} {S' : gS} (Y : gY D cT H0 p s m args meth c prog_12_method_19_code 3 "PlanTextModel" 6 135 S0 (Option.none : Option Jvm.ClassFile.FieldType)) {k52 : Nat → Int32 → gS → Option gS} (hk52 : ∀ (x0 : Nat) (x1 : Int32) (S : gS) (ls : Array Slot), k52 x0 x1 S = some S' → lv_has ls 3 [(0, va_rf (some x0)), (1, .int x1)] → gV D cT H0 p l e (gRm 6 135 S0) s m args below meth c (gQ D cT H0 below S0 S' (.inr none) s) S0 S (F0 m 52 ls [])) (x0 : Nat) (x1 : Int32) (t0 : Int32) (S : gS) (hden : B_Mo_readAll_99 k52 x0 x1 t0 S = some S') {ls : Array Slot} (hl : lv_has ls 3 [(0, va_rf (some x0)), (1, .int x1)]) : gV D cT H0 p l e (gRm 6 135 S0) s m args below meth c (gQ D cT H0 below S0 S' (.inr none) s) S0 S (F0 m 99 ls [.int t0]) := by
  obtain ⟨X, hZ, hex, hr, hE⟩ := id Y
  have hx := X.1
  have hb := X.2.1
  unfold B_Mo_readAll_99 at hden
  refine gV.liftS (nL := 3) (lv' := [(2, .int t0), (0, va_rf (some x0)), (1, .int x1)]) (fun _ _ _ _ => lv_istore_n hx hb d_Mo_readAll_99 rfl hl (by decide) rfl) (fun ls hl => ?_)
  refine gV.lift (fun _ _ _ _ => lv_iload_n hx hb d_Mo_readAll_100 rfl (lv_at hl 0 rfl)) ?_
  refine gV.lift2 (fun _ _ _ _ => lv_if_ne (tgt := 112) hx hb d_Mo_readAll_101 (by decide)) (fun hc1 => ?_) (fun hc1 => ?_)
  · replace hden := gin hc1 hden
    exact w_Mo_readAll_112 Y hk52 x0 x1 t0 S hden (lv_sub hl [1, 2, 0] rfl)
  · replace hden := gip hc1 hden
    refine gV.lift (fun _ _ _ _ => g_aload_n hx hb d_Mo_readAll_104 rfl (lv_at hl 1 rfl)) ?_
    refine gV.lift (fun _ _ _ _ => g_aload_n hx hb d_Mo_readAll_105 rfl (lv_at hl 1 rfl)) ?_
    replace hden := gb hden
    obtain ⟨v2, hv, hden⟩ := hden
    refine r_getI X cl_Mo (k := 4) hv (by decide) q_769 d_Mo_readAll_106 ?_
    replace hden := gb hden
    obtain ⟨fs4, ho, hden⟩ := hden
    replace hden := gb hden
    obtain ⟨S3, hz, hden⟩ := hden
    refine g_callV (As := [.int v2]) (rest := []) X hZ (c_Mo_fail hz) cl_Mo (gOb_spec ho) q_875 q_5 q_872 q_874 qp_29 ⟨by decide, by decide, by show _ = some 1; decide +kernel⟩ ⟨by decide, by decide⟩ hl.1 (Nat.le_of_ble_eq_true rfl) d_Mo_readAll_109 rfl rfl ?_
    exact w_Mo_readAll_112 Y hk52 x0 x1 t0 S3 hden (lv_sub hl [1, 2, 0] rfl)
def B_Mo_readAll_98 (k52 : Nat → Int32 → gS → Option gS) (x0 : Nat) (x1 : Int32) (S : gS) : Option gS := B_Mo_readAll_99 k52 x0 x1 0 S
set_option maxRecDepth 100000 in
set_option maxHeartbeats 4000000 in
theorem w_Mo_readAll_98 {D : va_G} {cT : Nat → ClassId} {H0 : Heap} {l : Launch} {p : Program} {e : Env} {s : State} {m : MethodId} {args : Array Value} {below : List Frame} {meth : Method} {c : Code} {S0 : gS} {S' : gS} (Y : gY D cT H0 p s m args meth c prog_12_method_19_code 3 "PlanTextModel" 6 135 S0 (Option.none : Option Jvm.ClassFile.FieldType)) {k52 : Nat → Int32 → gS → Option gS} (hk52 : ∀ (x0 : Nat) (x1 : Int32) (S : gS) (ls : Array Slot), k52 x0 x1 S = some S' → lv_has ls 3 [(0, va_rf (some x0)), (1, .int x1)] → gV D cT H0 p l e (gRm 6 135 S0) s m args below meth c (gQ D cT H0 below S0 S' (.inr none) s) S0 S (F0 m 52 ls [])) (x0 : Nat) (x1 : Int32) (S : gS) (hden : B_Mo_readAll_98 k52 x0 x1 S = some S') {ls : Array Slot} (hl : lv_has ls 3 [(0, va_rf (some x0)), (1, .int x1)]) : gV D cT H0 p l e (gRm 6 135 S0) s m args below meth c (gQ D cT H0 below S0 S' (.inr none) s) S0 S (F0 m 98 ls []) := by
  obtain ⟨X, hZ, hex, hr, hE⟩ := id Y
  have hx := X.1
  have hb := X.2.1
  unfold B_Mo_readAll_98 at hden
  refine gV.lift (fun _ _ _ _ => lv_iconst (v := 0) hx hb d_Mo_readAll_98 (by decide)) ?_
  exact w_Mo_readAll_99 Y hk52 x0 x1 0 S hden (lv_sub hl [0, 1] rfl)
def B_Mo_readAll_94 (k52 : Nat → Int32 → gS → Option gS) (x0 : Nat) (x1 : Int32) (S : gS) : Option gS := B_Mo_readAll_99 k52 x0 x1 1 S
set_option maxRecDepth 100000 in
set_option maxHeartbeats 4000000 in
theorem w_Mo_readAll_94 {D : va_G} {cT : Nat → ClassId} {H0 : Heap} {l : Launch} {p : Program} {e : Env} {s : State} {m : MethodId} {args : Array Value} {below : List Frame} {meth : Method} {c : Code} {S0 : gS} {S' : gS} (Y : gY D cT H0 p s m args meth c prog_12_method_19_code 3 "PlanTextModel" 6 135 S0 (Option.none : Option Jvm.ClassFile.FieldType)) {k52 : Nat → Int32 → gS → Option gS} (hk52 : ∀ (x0 : Nat) (x1 : Int32) (S : gS) (ls : Array Slot), k52 x0 x1 S = some S' → lv_has ls 3 [(0, va_rf (some x0)), (1, .int x1)] → gV D cT H0 p l e (gRm 6 135 S0) s m args below meth c (gQ D cT H0 below S0 S' (.inr none) s) S0 S (F0 m 52 ls [])) (x0 : Nat) (x1 : Int32) (S : gS) (hden : B_Mo_readAll_94 k52 x0 x1 S = some S') {ls : Array Slot} (hl : lv_has ls 3 [(0, va_rf (some x0)), (1, .int x1)]) : gV D cT H0 p l e (gRm 6 135 S0) s m args below meth c (gQ D cT H0 below S0 S' (.inr none) s) S0 S (F0 m 94 ls []) := by
  obtain ⟨X, hZ, hex, hr, hE⟩ := id Y
  have hx := X.1
  have hb := X.2.1
  unfold B_Mo_readAll_94 at hden
  refine gV.lift (fun _ _ _ _ => lv_iconst (v := 1) hx hb d_Mo_readAll_94 (by decide)) ?_
  refine gV.lift (fun _ _ _ _ => lv_goto (tgt := 99) hx hb d_Mo_readAll_95 (by decide)) ?_
  exact w_Mo_readAll_99 Y hk52 x0 x1 1 S hden (lv_sub hl [0, 1] rfl)
def B_Mo_readAll_52 (k52 : Nat → Int32 → gS → Option gS) (x0 : Nat) (x1 : Int32) (S : gS) : Option gS := Option.bind (gI S x0 10 5) (fun v1 => (if v1 = 0 then (if x1 = (-1) then B_Mo_readAll_189  S else (if x1 = 112 then B_Mo_readAll_94 k52 x0 x1 S else (if x1 = 100 then B_Mo_readAll_94 k52 x0 x1 S else (if x1 = 115 then Option.bind (gRf S x0 10 20) (fun r7 => Option.bind r7 (fun a8 => Option.bind (gAI S a8 0 6) (fun v9 => (if 8 ≤ v9 then B_Mo_readAll_98 k52 x0 x1 S else B_Mo_readAll_94 k52 x0 x1 S)))) else B_Mo_readAll_98 k52 x0 x1 S)))) else B_Mo_readAll_189  S))
set_option maxRecDepth 100000 in
set_option maxHeartbeats 4000000 in
theorem w_Mo_readAll_52 {D : va_G} {cT : Nat → ClassId} {H0 : Heap} {l : Launch} {p : Program} {e : Env} {s : State} {m : MethodId} {args : Array Value} {below : List Frame} {meth : Method} {c : Code} {S0 : gS} {S' : gS} (Y : gY D cT H0 p s m args meth c prog_12_method_19_code 3 "PlanTextModel" 6 135 S0 (Option.none : Option Jvm.ClassFile.FieldType)) {k52 : Nat → Int32 → gS → Option gS} (hk52 : ∀ (x0 : Nat) (x1 : Int32) (S : gS) (ls : Array Slot), k52 x0 x1 S = some S' → lv_has ls 3 [(0, va_rf (some x0)), (1, .int x1)] → gV D cT H0 p l e (gRm 6 135 S0) s m args below meth c (gQ D cT H0 below S0 S' (.inr none) s) S0 S (F0 m 52 ls [])) (x0 : Nat) (x1 : Int32) (S : gS) (hden : B_Mo_readAll_52 k52 x0 x1 S = some S') {ls : Array Slot} (hl : lv_has ls 3 [(0, va_rf (some x0)), (1, .int x1)]) : gV D cT H0 p l e (gRm 6 135 S0) s m args below meth c (gQ D cT H0 below S0 S' (.inr none) s) S0 S (F0 m 52 ls []) := by
  obtain ⟨X, hZ, hex, hr, hE⟩ := id Y
  have hx := X.1
  have hb := X.2.1
  unfold B_Mo_readAll_52 at hden
  refine gV.lift (fun _ _ _ _ => g_aload_n hx hb d_Mo_readAll_52 rfl (lv_at hl 0 rfl)) ?_
  replace hden := gb hden
  obtain ⟨v1, hv, hden⟩ := hden
  refine r_getI X cl_Mo (k := 5) hv (by decide) q_770 d_Mo_readAll_53 ?_
  refine gV.lift2 (fun _ _ _ _ => lv_if_ne (tgt := 189) hx hb d_Mo_readAll_56 (by decide)) (fun hc2 => ?_) (fun hc2 => ?_)
  · replace hden := gin hc2 hden
    exact w_Mo_readAll_189 Y  S hden (lv_sub hl [] rfl)
  · replace hden := gip hc2 hden
    refine gV.lift (fun _ _ _ _ => lv_iload_n hx hb d_Mo_readAll_59 rfl (lv_at hl 1 rfl)) ?_
    refine gV.lift (fun _ _ _ _ => lv_iconst (v := (-1)) hx hb d_Mo_readAll_60 (by decide)) ?_
    refine gV.lift2 (fun _ _ _ _ => lv_icmp_eq (tgt := 189) hx hb d_Mo_readAll_61 (by decide)) (fun hc3 => ?_) (fun hc3 => ?_)
    · replace hden := gip hc3 hden
      exact w_Mo_readAll_189 Y  S hden (lv_sub hl [] rfl)
    · replace hden := gin hc3 hden
      refine gV.lift (fun _ _ _ _ => lv_iload_n hx hb d_Mo_readAll_64 rfl (lv_at hl 1 rfl)) ?_
      refine gV.lift (fun _ _ _ _ => lv_bipush (v := 112) hx hb d_Mo_readAll_65 (by decide)) ?_
      refine gV.lift2 (fun _ _ _ _ => lv_icmp_eq (tgt := 94) hx hb d_Mo_readAll_67 (by decide)) (fun hc4 => ?_) (fun hc4 => ?_)
      · replace hden := gip hc4 hden
        exact w_Mo_readAll_94 Y hk52 x0 x1 S hden (lv_sub hl [0, 1] rfl)
      · replace hden := gin hc4 hden
        refine gV.lift (fun _ _ _ _ => lv_iload_n hx hb d_Mo_readAll_70 rfl (lv_at hl 1 rfl)) ?_
        refine gV.lift (fun _ _ _ _ => lv_bipush (v := 100) hx hb d_Mo_readAll_71 (by decide)) ?_
        refine gV.lift2 (fun _ _ _ _ => lv_icmp_eq (tgt := 94) hx hb d_Mo_readAll_73 (by decide)) (fun hc5 => ?_) (fun hc5 => ?_)
        · replace hden := gip hc5 hden
          exact w_Mo_readAll_94 Y hk52 x0 x1 S hden (lv_sub hl [0, 1] rfl)
        · replace hden := gin hc5 hden
          refine gV.lift (fun _ _ _ _ => lv_iload_n hx hb d_Mo_readAll_76 rfl (lv_at hl 1 rfl)) ?_
          refine gV.lift (fun _ _ _ _ => lv_bipush (v := 115) hx hb d_Mo_readAll_77 (by decide)) ?_
          refine gV.lift2 (fun _ _ _ _ => lv_icmp_ne (tgt := 98) hx hb d_Mo_readAll_79 (by decide)) (fun hc6 => ?_) (fun hc6 => ?_)
          · replace hden := gin hc6 hden
            exact w_Mo_readAll_98 Y hk52 x0 x1 S hden (lv_sub hl [0, 1] rfl)
          · replace hden := gip hc6 hden
            refine gV.lift (fun _ _ _ _ => g_aload_n hx hb d_Mo_readAll_82 rfl (lv_at hl 0 rfl)) ?_
            replace hden := gb hden
            obtain ⟨r7, hv, hden⟩ := hden
            refine r_getR X cl_Mo (k := 20) hv (by decide) q_785 d_Mo_readAll_83 ?_
            refine gV.lift (fun _ _ _ _ => lv_bipush (v := 6) hx hb d_Mo_readAll_86 (by decide)) ?_
            replace hden := gb hden
            obtain ⟨a8, rfl, hden⟩ := hden
            replace hden := gb hden
            obtain ⟨v9, hv, hden⟩ := hden
            refine r_iald X (t := 0) rfl hv d_Mo_readAll_88 ?_
            refine gV.lift (fun _ _ _ _ => lv_bipush (v := 8) hx hb d_Mo_readAll_89 (by decide)) ?_
            refine gV.lift2 (fun _ _ _ _ => lv_icmp_ge (tgt := 98) hx hb d_Mo_readAll_91 (by decide)) (fun hc10 => ?_) (fun hc10 => ?_)
            · replace hden := gip hc10 hden
              exact w_Mo_readAll_98 Y hk52 x0 x1 S hden (lv_sub hl [0, 1] rfl)
            · replace hden := gin hc10 hden
              exact w_Mo_readAll_94 Y hk52 x0 x1 S hden (lv_sub hl [0, 1] rfl)
def L_Mo_readAll_52  : Nat → Nat → Int32 → gS → Option gS
  | 0 => fun _ _ _ => none
  | n + 1 => fun x0 x1 S => B_Mo_readAll_52  (L_Mo_readAll_52  n) x0 x1 S
theorem wL_Mo_readAll_52 {D : va_G} {cT : Nat → ClassId} {H0 : Heap} {l : Launch} {p : Program} {e : Env} {s : State} {m : MethodId} {args : Array Value} {below : List Frame} {meth : Method} {c : Code} {S0 : gS} {S' : gS} (Y : gY D cT H0 p s m args meth c prog_12_method_19_code 3 "PlanTextModel" 6 135 S0 (Option.none : Option Jvm.ClassFile.FieldType))  : ∀ (n : Nat) (x0 : Nat) (x1 : Int32) (S : gS) (ls : Array Slot), L_Mo_readAll_52  n x0 x1 S = some S' → lv_has ls 3 [(0, va_rf (some x0)), (1, .int x1)] → gV D cT H0 p l e (gRm 6 135 S0) s m args below meth c (gQ D cT H0 below S0 S' (.inr none) s) S0 S (F0 m 52 ls []) := by
  intro n
  induction n with
  | zero => intro x0 x1 S ls h hl; cases h
  | succ n ih => intro x0 x1 S ls h hl; exact w_Mo_readAll_52 Y ih x0 x1 S h hl
def B_Mo_readAll_4 (k4 : Nat → Int32 → gS → Option gS) (x0 : Nat) (x1 : Int32) (S : gS) : Option gS := (if 350 ≤ x1 then Option.bind (gRf S x0 10 20) (fun r2 => Option.bind r2 (fun a3 => Option.bind (gSI S a3 0 6 0) (fun S4 => Option.bind (gPut S4 x0 10 4 (.int 0)) (fun S5 => Option.bind (gZo 0) (fun v7 => Option.bind (gPut S5 x0 10 5 (.int v7)) (fun S6 => Option.bind (gPut S6 x0 10 6 (.int (-1))) (fun S8 => Option.bind (gOb S8 x0 10) (fun fs11 => gB2 (D_Mo_see x0 S8) (fun v10 S9 => L_Mo_readAll_52  gF x0 v10 S9))))))))) else Option.bind (gRf S x0 10 10) (fun r12 => Option.bind r12 (fun a13 => Option.bind (gZo 0) (fun v15 => Option.bind (gSI S a13 3 x1 v15) (fun S14 => k4 x0 (x1 + 1) S14)))))
set_option maxRecDepth 100000 in
set_option maxHeartbeats 4000000 in
theorem w_Mo_readAll_4 {D : va_G} {cT : Nat → ClassId} {H0 : Heap} {l : Launch} {p : Program} {e : Env} {s : State} {m : MethodId} {args : Array Value} {below : List Frame} {meth : Method} {c : Code} {S0 : gS} {S' : gS} (Y : gY D cT H0 p s m args meth c prog_12_method_19_code 3 "PlanTextModel" 6 135 S0 (Option.none : Option Jvm.ClassFile.FieldType)) {k4 : Nat → Int32 → gS → Option gS} (hk4 : ∀ (x0 : Nat) (x1 : Int32) (S : gS) (ls : Array Slot), k4 x0 x1 S = some S' → lv_has ls 3 [(0, va_rf (some x0)), (1, .int x1)] → gV D cT H0 p l e (gRm 6 135 S0) s m args below meth c (gQ D cT H0 below S0 S' (.inr none) s) S0 S (F0 m 4 ls [])) (x0 : Nat) (x1 : Int32) (S : gS) (hden : B_Mo_readAll_4 k4 x0 x1 S = some S') {ls : Array Slot} (hl : lv_has ls 3 [(0, va_rf (some x0)), (1, .int x1)]) : gV D cT H0 p l e (gRm 6 135 S0) s m args below meth c (gQ D cT H0 below S0 S' (.inr none) s) S0 S (F0 m 4 ls []) := by
  obtain ⟨X, hZ, hex, hr, hE⟩ := id Y
  have hx := X.1
  have hb := X.2.1
  unfold B_Mo_readAll_4 at hden
  refine gV.lift (fun _ _ _ _ => lv_iload_n hx hb d_Mo_readAll_4 rfl (lv_at hl 1 rfl)) ?_
  refine gV.lift (fun _ _ _ _ => lv_sipush (v := 350) hx hb d_Mo_readAll_5 (by decide)) ?_
  refine gV.lift2 (fun _ _ _ _ => lv_icmp_ge (tgt := 24) hx hb d_Mo_readAll_8 (by decide)) (fun hc1 => ?_) (fun hc1 => ?_)
  · replace hden := gip hc1 hden
    refine gV.lift (fun _ _ _ _ => g_aload_n hx hb d_Mo_readAll_24 rfl (lv_at hl 0 rfl)) ?_
    replace hden := gb hden
    obtain ⟨r2, hv, hden⟩ := hden
    refine r_getR X cl_Mo (k := 20) hv (by decide) q_785 d_Mo_readAll_25 ?_
    refine gV.lift (fun _ _ _ _ => lv_bipush (v := 6) hx hb d_Mo_readAll_28 (by decide)) ?_
    refine gV.lift (fun _ _ _ _ => lv_iconst (v := 0) hx hb d_Mo_readAll_30 (by decide)) ?_
    replace hden := gb hden
    obtain ⟨a3, rfl, hden⟩ := hden
    replace hden := gb hden
    obtain ⟨S4, hv, hden⟩ := hden
    refine r_iast X (t := 0) rfl hv d_Mo_readAll_31 ?_
    refine gV.lift (fun _ _ _ _ => g_aload_n hx hb d_Mo_readAll_32 rfl (lv_at hl 0 rfl)) ?_
    refine gV.lift (fun _ _ _ _ => lv_iconst (v := 0) hx hb d_Mo_readAll_33 (by decide)) ?_
    replace hden := gb hden
    obtain ⟨S5, hv, hden⟩ := hden
    refine r_put X cl_Mo (k := 4) hv (by decide) q_769 rfl rfl rfl d_Mo_readAll_34 ?_
    refine gV.lift (fun _ _ _ _ => g_aload_n hx hb d_Mo_readAll_37 rfl (lv_at hl 0 rfl)) ?_
    refine gV.lift (fun _ _ _ _ => lv_iconst (v := 0) hx hb d_Mo_readAll_38 (by decide)) ?_
    replace hden := gb hden
    obtain ⟨v7, hz, hden⟩ := hden
    obtain ⟨rfl, hz2, hz3⟩ := gZo_spec hz
    replace hden := gb hden
    obtain ⟨S6, hv, hden⟩ := hden
    refine r_put X cl_Mo (k := 5) hv (by decide) q_770 rfl hz2 hz3 d_Mo_readAll_39 ?_
    refine gV.lift (fun _ _ _ _ => g_aload_n hx hb d_Mo_readAll_42 rfl (lv_at hl 0 rfl)) ?_
    refine gV.lift (fun _ _ _ _ => lv_iconst (v := (-1)) hx hb d_Mo_readAll_43 (by decide)) ?_
    replace hden := gb hden
    obtain ⟨S8, hv, hden⟩ := hden
    refine r_put X cl_Mo (k := 6) hv (by decide) q_771 rfl rfl rfl d_Mo_readAll_44 ?_
    refine gV.lift (fun _ _ _ _ => g_aload_n hx hb d_Mo_readAll_47 rfl (lv_at hl 0 rfl)) ?_
    replace hden := gb hden
    obtain ⟨fs11, ho, hden⟩ := hden
    replace hden := gb2 hden
    obtain ⟨v10, S9, hz, hden⟩ := hden
    refine g_callV (As := []) (rest := []) X hZ (c_Mo_see hz) cl_Mo (gOb_spec ho) q_871 q_5 q_868 q_870 qp_28 ⟨by decide, by decide, by show _ = some 0; decide +kernel⟩ ⟨by decide, by decide⟩ hl.1 (Nat.le_of_ble_eq_true rfl) d_Mo_readAll_48 rfl rfl ?_
    refine gV.liftS (nL := 3) (lv' := [(1, .int v10), (0, va_rf (some x0))]) (fun _ _ _ _ => lv_istore_n hx hb d_Mo_readAll_51 rfl hl (by decide) rfl) (fun ls hl => ?_)
    exact wL_Mo_readAll_52 Y  gF x0 v10 S9 _ hden (lv_sub hl [1, 0] rfl)
  · replace hden := gin hc1 hden
    refine gV.lift (fun _ _ _ _ => g_aload_n hx hb d_Mo_readAll_11 rfl (lv_at hl 0 rfl)) ?_
    replace hden := gb hden
    obtain ⟨r12, hv, hden⟩ := hden
    refine r_getR X cl_Mo (k := 10) hv (by decide) q_775 d_Mo_readAll_12 ?_
    refine gV.lift (fun _ _ _ _ => lv_iload_n hx hb d_Mo_readAll_15 rfl (lv_at hl 1 rfl)) ?_
    refine gV.lift (fun _ _ _ _ => lv_iconst (v := 0) hx hb d_Mo_readAll_16 (by decide)) ?_
    replace hden := gb hden
    obtain ⟨a13, rfl, hden⟩ := hden
    replace hden := gb hden
    obtain ⟨v15, hz, hden⟩ := hden
    replace hden := gb hden
    obtain ⟨S14, hv, hden⟩ := hden
    refine r_zast X (t := 3) rfl hz hv d_Mo_readAll_17 ?_
    refine gV.liftS (nL := 3) (lv' := [(1, .int (x1 + 1)), (0, va_rf (some x0))]) (fun _ _ _ _ => lv_iinc (v := (x1 + 1)) hx hb d_Mo_readAll_18 hl (k := 1) rfl rfl (by decide) rfl) (fun ls hl => ?_)
    refine gV.lift (fun _ _ _ _ => lv_goto (tgt := 4) hx hb d_Mo_readAll_21 (by decide)) ?_
    exact hk4 x0 (x1 + 1) S14 _ hden (lv_sub hl [1, 0] rfl)
def L_Mo_readAll_4  : Nat → Nat → Int32 → gS → Option gS
  | 0 => fun _ _ _ => none
  | n + 1 => fun x0 x1 S => B_Mo_readAll_4  (L_Mo_readAll_4  n) x0 x1 S
theorem wL_Mo_readAll_4 {D : va_G} {cT : Nat → ClassId} {H0 : Heap} {l : Launch} {p : Program} {e : Env} {s : State} {m : MethodId} {args : Array Value} {below : List Frame} {meth : Method} {c : Code} {S0 : gS} {S' : gS} (Y : gY D cT H0 p s m args meth c prog_12_method_19_code 3 "PlanTextModel" 6 135 S0 (Option.none : Option Jvm.ClassFile.FieldType))  : ∀ (n : Nat) (x0 : Nat) (x1 : Int32) (S : gS) (ls : Array Slot), L_Mo_readAll_4  n x0 x1 S = some S' → lv_has ls 3 [(0, va_rf (some x0)), (1, .int x1)] → gV D cT H0 p l e (gRm 6 135 S0) s m args below meth c (gQ D cT H0 below S0 S' (.inr none) s) S0 S (F0 m 4 ls []) := by
  intro n
  induction n with
  | zero => intro x0 x1 S ls h hl; cases h
  | succ n ih => intro x0 x1 S ls h hl; exact w_Mo_readAll_4 Y ih x0 x1 S h hl
def D_Mo_readAll (h0 : Nat) (S : gS) : Option gS := L_Mo_readAll_4  gF h0 300 S
set_option maxRecDepth 100000 in
set_option maxHeartbeats 4000000 in
theorem c_Mo_readAll {D : va_G} {cT : Nat → ClassId} {H0 : Heap} {l : Launch} {S : gS} {S' : gS} {h0 : Nat} (hden : D_Mo_readAll h0 S = some S') : gM D cT H0 l y_Mo_readAll (Cond.code y_Mo_readAll prog_12_method_19_code 3 (Option.none : Option Jvm.ClassFile.FieldType)) 6 135 [va_rf (some h0)] S S' (.inr none) := by
  refine gM.ofV (by decide) ?_
  intro p e s m args below meth c s₁ B hml ea X hZ hex hr hE
  subst ea
  have Y : gY D cT H0 p s m _ meth c prog_12_method_19_code 3 "PlanTextModel" 6 135 S (Option.none : Option Jvm.ClassFile.FieldType) := ⟨X, hZ, hex, hr, hE⟩
  have hx := X.1
  have hb := X.2.1
  have hl := lv_entry ([va_rf (some h0)]) (n := 3) (Nat.le_of_ble_eq_true rfl)
  rw [lg_entry_eq]
  generalize (lg_sl ([va_rf (some h0)]) ++ List.replicate (3 - (lg_sl ([va_rf (some h0)])).length) Slot.unset).toArray = ls at hl ⊢
  have hl : lv_has ls 3 [(0, va_rf (some h0))] := hl
  unfold D_Mo_readAll at hden
  refine gV.lift (fun _ _ _ _ => lv_sipush (v := 300) hx hb d_Mo_readAll_0 (by decide)) ?_
  refine gV.liftS (nL := 3) (lv' := [(1, .int 300), (0, va_rf (some h0))]) (fun _ _ _ _ => lv_istore_n hx hb d_Mo_readAll_3 rfl hl (by decide) rfl) (fun ls hl => ?_)
  exact wL_Mo_readAll_4 Y  gF h0 300 S _ hden (lv_sub hl [1, 0] rfl)
/-! PlanTextModel.plansOf(I)I -/
abbrev y_Mo_plansOf : MethodName := ⟨"PlanTextModel", "plansOf", "(I)I"⟩
theorem d_Mo_plansOf_0 : decode prog_12_method_20_code 0 = .ok (.iconst 0, 1) := by decide +kernel
theorem d_Mo_plansOf_1 : decode prog_12_method_20_code 1 = .ok (.istore_n 2, 1) := by decide +kernel
theorem d_Mo_plansOf_2 : decode prog_12_method_20_code 2 = .ok (.iconst 1, 1) := by decide +kernel
theorem d_Mo_plansOf_3 : decode prog_12_method_20_code 3 = .ok (.istore_n 3, 1) := by decide +kernel
theorem d_Mo_plansOf_4 : decode prog_12_method_20_code 4 = .ok (.iload_n 3, 1) := by decide +kernel
theorem d_Mo_plansOf_5 : decode prog_12_method_20_code 5 = .ok (.bipush 40, 2) := by decide +kernel
theorem d_Mo_plansOf_7 : decode prog_12_method_20_code 7 = .ok (.if_icmp .gt 31, 3) := by decide +kernel
theorem d_Mo_plansOf_10 : decode prog_12_method_20_code 10 = .ok (.iload_n 2, 1) := by decide +kernel
theorem d_Mo_plansOf_11 : decode prog_12_method_20_code 11 = .ok (.aload_n 0, 1) := by decide +kernel
theorem d_Mo_plansOf_12 : decode prog_12_method_20_code 12 = .ok (.getfield 20, 3) := by decide +kernel
theorem d_Mo_plansOf_15 : decode prog_12_method_20_code 15 = .ok (.bipush 50, 2) := by decide +kernel
theorem d_Mo_plansOf_17 : decode prog_12_method_20_code 17 = .ok (.iload_n 1, 1) := by decide +kernel
theorem d_Mo_plansOf_18 : decode prog_12_method_20_code 18 = .ok (.imul, 1) := by decide +kernel
theorem d_Mo_plansOf_19 : decode prog_12_method_20_code 19 = .ok (.iload_n 3, 1) := by decide +kernel
theorem d_Mo_plansOf_20 : decode prog_12_method_20_code 20 = .ok (.iadd, 1) := by decide +kernel
theorem d_Mo_plansOf_21 : decode prog_12_method_20_code 21 = .ok (.baload, 1) := by decide +kernel
theorem d_Mo_plansOf_22 : decode prog_12_method_20_code 22 = .ok (.ifCond .eq 7, 3) := by decide +kernel
theorem d_Mo_plansOf_25 : decode prog_12_method_20_code 25 = .ok (.iconst 1, 1) := by decide +kernel
theorem d_Mo_plansOf_26 : decode prog_12_method_20_code 26 = .ok (.goto 4, 3) := by decide +kernel
theorem d_Mo_plansOf_29 : decode prog_12_method_20_code 29 = .ok (.iconst 0, 1) := by decide +kernel
theorem d_Mo_plansOf_30 : decode prog_12_method_20_code 30 = .ok (.iadd, 1) := by decide +kernel
theorem d_Mo_plansOf_31 : decode prog_12_method_20_code 31 = .ok (.istore_n 2, 1) := by decide +kernel
theorem d_Mo_plansOf_32 : decode prog_12_method_20_code 32 = .ok (.iinc 3 1, 3) := by decide +kernel
theorem d_Mo_plansOf_35 : decode prog_12_method_20_code 35 = .ok (.goto (-31), 3) := by decide +kernel
theorem d_Mo_plansOf_38 : decode prog_12_method_20_code 38 = .ok (.iload_n 2, 1) := by decide +kernel
theorem d_Mo_plansOf_39 : decode prog_12_method_20_code 39 = .ok (.ireturn, 1) := by decide +kernel
def B_Mo_plansOf_30 (k4 : Nat → Int32 → Int32 → Int32 → gS → Option (Int32 × gS)) (x0 : Nat) (x1 : Int32) (x3 : Int32) (t0 : Int32) (t1 : Int32) (S : gS) : Option (Int32 × gS) := k4 x0 x1 (t1 + t0) (x3 + 1) S
set_option maxRecDepth 100000 in
set_option maxHeartbeats 4000000 in
theorem w_Mo_plansOf_30 {D : va_G} {cT : Nat → ClassId} {H0 : Heap} {l : Launch} {p : Program} {e : Env} {s : State} {m : MethodId} {args : Array Value} {below : List Frame} {meth : Method} {c : Code} {S0 : gS} {S' : gS} {r : Int32} (Y : gY D cT H0 p s m args meth c prog_12_method_20_code 4 "PlanTextModel" 0 0 S0 (Option.some Jvm.ClassFile.FieldType.int)) {k4 : Nat → Int32 → Int32 → Int32 → gS → Option (Int32 × gS)} (hk4 : ∀ (x0 : Nat) (x1 : Int32) (x2 : Int32) (x3 : Int32) (S : gS) (ls : Array Slot), k4 x0 x1 x2 x3 S = some (r, S') → lv_has ls 4 [(0, va_rf (some x0)), (1, .int x1), (2, .int x2), (3, .int x3)] → gV D cT H0 p l e (gRm 0 0 S0) s m args below meth c (gQ D cT H0 below S0 S' (.inr (some (.int r))) s) S0 S (F0 m 4 ls [])) (x0 : Nat) (x1 : Int32) (x3 : Int32) (t0 : Int32) (t1 : Int32) (S : gS) (hden : B_Mo_plansOf_30 k4 x0 x1 x3 t0 t1 S = some (r, S')) {ls : Array Slot} (hl : lv_has ls 4 [(0, va_rf (some x0)), (1, .int x1), (3, .int x3)]) : gV D cT H0 p l e (gRm 0 0 S0) s m args below meth c (gQ D cT H0 below S0 S' (.inr (some (.int r))) s) S0 S (F0 m 30 ls [.int t0, .int t1]) := by
  obtain ⟨X, hZ, hex, hr, hE⟩ := id Y
  have hx := X.1
  have hb := X.2.1
  unfold B_Mo_plansOf_30 at hden
  refine gV.lift (fun _ _ _ _ => lv_iadd hx hb d_Mo_plansOf_30) ?_
  refine gV.liftS (nL := 4) (lv' := [(2, .int (t1 + t0)), (0, va_rf (some x0)), (1, .int x1), (3, .int x3)]) (fun _ _ _ _ => lv_istore_n hx hb d_Mo_plansOf_31 rfl hl (by decide) rfl) (fun ls hl => ?_)
  refine gV.liftS (nL := 4) (lv' := [(3, .int (x3 + 1)), (2, .int (t1 + t0)), (0, va_rf (some x0)), (1, .int x1)]) (fun _ _ _ _ => lv_iinc (v := (x3 + 1)) hx hb d_Mo_plansOf_32 hl (k := 3) rfl rfl (by decide) rfl) (fun ls hl => ?_)
  refine gV.lift (fun _ _ _ _ => lv_goto (tgt := 4) hx hb d_Mo_plansOf_35 (by decide)) ?_
  exact hk4 x0 x1 (t1 + t0) (x3 + 1) S _ hden (lv_sub hl [2, 3, 1, 0] rfl)
def B_Mo_plansOf_4 (k4 : Nat → Int32 → Int32 → Int32 → gS → Option (Int32 × gS)) (x0 : Nat) (x1 : Int32) (x2 : Int32) (x3 : Int32) (S : gS) : Option (Int32 × gS) := (if 40 < x3 then some (x2, S) else Option.bind (gRf S x0 10 10) (fun r2 => Option.bind r2 (fun a3 => Option.bind (gAI S a3 3 ((50 * x1) + x3)) (fun v4 => (if v4 = 0 then B_Mo_plansOf_30 k4 x0 x1 x3 0 x2 S else B_Mo_plansOf_30 k4 x0 x1 x3 1 x2 S)))))
set_option maxRecDepth 100000 in
set_option maxHeartbeats 4000000 in
theorem w_Mo_plansOf_4 {D : va_G} {cT : Nat → ClassId} {H0 : Heap} {l : Launch} {p : Program} {e : Env} {s : State} {m : MethodId} {args : Array Value} {below : List Frame} {meth : Method} {c : Code} {S0 : gS} {S' : gS} {r : Int32} (Y : gY D cT H0 p s m args meth c prog_12_method_20_code 4 "PlanTextModel" 0 0 S0 (Option.some Jvm.ClassFile.FieldType.int)) {k4 : Nat → Int32 → Int32 → Int32 → gS → Option (Int32 × gS)} (hk4 : ∀ (x0 : Nat) (x1 : Int32) (x2 : Int32) (x3 : Int32) (S : gS) (ls : Array Slot), k4 x0 x1 x2 x3 S = some (r, S') → lv_has ls 4 [(0, va_rf (some x0)), (1, .int x1), (2, .int x2), (3, .int x3)] → gV D cT H0 p l e (gRm 0 0 S0) s m args below meth c (gQ D cT H0 below S0 S' (.inr (some (.int r))) s) S0 S (F0 m 4 ls [])) (x0 : Nat) (x1 : Int32) (x2 : Int32) (x3 : Int32) (S : gS) (hden : B_Mo_plansOf_4 k4 x0 x1 x2 x3 S = some (r, S')) {ls : Array Slot} (hl : lv_has ls 4 [(0, va_rf (some x0)), (1, .int x1), (2, .int x2), (3, .int x3)]) : gV D cT H0 p l e (gRm 0 0 S0) s m args below meth c (gQ D cT H0 below S0 S' (.inr (some (.int r))) s) S0 S (F0 m 4 ls []) := by
  obtain ⟨X, hZ, hex, hr, hE⟩ := id Y
  have hx := X.1
  have hb := X.2.1
  unfold B_Mo_plansOf_4 at hden
  refine gV.lift (fun _ _ _ _ => lv_iload_n hx hb d_Mo_plansOf_4 rfl (lv_at hl 3 rfl)) ?_
  refine gV.lift (fun _ _ _ _ => lv_bipush (v := 40) hx hb d_Mo_plansOf_5 (by decide)) ?_
  refine gV.lift2 (fun _ _ _ _ => lv_icmp_gt (tgt := 38) hx hb d_Mo_plansOf_7 (by decide)) (fun hc1 => ?_) (fun hc1 => ?_)
  · replace hden := gip hc1 hden
    refine gV.lift (fun _ _ _ _ => lv_iload_n hx hb d_Mo_plansOf_38 rfl (lv_at hl 2 rfl)) ?_
    obtain ⟨rfl, rfl⟩ := gpi hden
    exact g_iret X hr d_Mo_plansOf_39
  · replace hden := gin hc1 hden
    refine gV.lift (fun _ _ _ _ => lv_iload_n hx hb d_Mo_plansOf_10 rfl (lv_at hl 2 rfl)) ?_
    refine gV.lift (fun _ _ _ _ => g_aload_n hx hb d_Mo_plansOf_11 rfl (lv_at hl 0 rfl)) ?_
    replace hden := gb hden
    obtain ⟨r2, hv, hden⟩ := hden
    refine r_getR X cl_Mo (k := 10) hv (by decide) q_775 d_Mo_plansOf_12 ?_
    refine gV.lift (fun _ _ _ _ => lv_bipush (v := 50) hx hb d_Mo_plansOf_15 (by decide)) ?_
    refine gV.lift (fun _ _ _ _ => lv_iload_n hx hb d_Mo_plansOf_17 rfl (lv_at hl 1 rfl)) ?_
    refine gV.lift (fun _ _ _ _ => lv_imul hx hb d_Mo_plansOf_18) ?_
    refine gV.lift (fun _ _ _ _ => lv_iload_n hx hb d_Mo_plansOf_19 rfl (lv_at hl 3 rfl)) ?_
    refine gV.lift (fun _ _ _ _ => lv_iadd hx hb d_Mo_plansOf_20) ?_
    replace hden := gb hden
    obtain ⟨a3, rfl, hden⟩ := hden
    replace hden := gb hden
    obtain ⟨v4, hv, hden⟩ := hden
    refine r_zald X (t := 3) rfl hv d_Mo_plansOf_21 ?_
    refine gV.lift2 (fun _ _ _ _ => lv_if_eq (tgt := 29) hx hb d_Mo_plansOf_22 (by decide)) (fun hc5 => ?_) (fun hc5 => ?_)
    · replace hden := gip hc5 hden
      refine gV.lift (fun _ _ _ _ => lv_iconst (v := 0) hx hb d_Mo_plansOf_29 (by decide)) ?_
      exact w_Mo_plansOf_30 Y hk4 x0 x1 x3 0 x2 S hden (lv_sub hl [0, 1, 3] rfl)
    · replace hden := gin hc5 hden
      refine gV.lift (fun _ _ _ _ => lv_iconst (v := 1) hx hb d_Mo_plansOf_25 (by decide)) ?_
      refine gV.lift (fun _ _ _ _ => lv_goto (tgt := 30) hx hb d_Mo_plansOf_26 (by decide)) ?_
      exact w_Mo_plansOf_30 Y hk4 x0 x1 x3 1 x2 S hden (lv_sub hl [0, 1, 3] rfl)
def L_Mo_plansOf_4  : Nat → Nat → Int32 → Int32 → Int32 → gS → Option (Int32 × gS)
  | 0 => fun _ _ _ _ _ => none
  | n + 1 => fun x0 x1 x2 x3 S => B_Mo_plansOf_4  (L_Mo_plansOf_4  n) x0 x1 x2 x3 S
theorem wL_Mo_plansOf_4 {D : va_G} {cT : Nat → ClassId} {H0 : Heap} {l : Launch} {p : Program} {e : Env} {s : State} {m : MethodId} {args : Array Value} {below : List Frame} {meth : Method} {c : Code} {S0 : gS} {S' : gS} {r : Int32} (Y : gY D cT H0 p s m args meth c prog_12_method_20_code 4 "PlanTextModel" 0 0 S0 (Option.some Jvm.ClassFile.FieldType.int))  : ∀ (n : Nat) (x0 : Nat) (x1 : Int32) (x2 : Int32) (x3 : Int32) (S : gS) (ls : Array Slot), L_Mo_plansOf_4  n x0 x1 x2 x3 S = some (r, S') → lv_has ls 4 [(0, va_rf (some x0)), (1, .int x1), (2, .int x2), (3, .int x3)] → gV D cT H0 p l e (gRm 0 0 S0) s m args below meth c (gQ D cT H0 below S0 S' (.inr (some (.int r))) s) S0 S (F0 m 4 ls []) := by
  intro n
  induction n with
  | zero => intro x0 x1 x2 x3 S ls h hl; cases h
  | succ n ih => intro x0 x1 x2 x3 S ls h hl; exact w_Mo_plansOf_4 Y ih x0 x1 x2 x3 S h hl
def D_Mo_plansOf (h0 : Nat) (p0 : Int32) (S : gS) : Option (Int32 × gS) := L_Mo_plansOf_4  gF h0 p0 0 1 S
set_option maxRecDepth 100000 in
set_option maxHeartbeats 4000000 in
theorem c_Mo_plansOf {D : va_G} {cT : Nat → ClassId} {H0 : Heap} {l : Launch} {S : gS} {S' : gS} {h0 : Nat} {p0 : Int32} {r : Int32} (hden : D_Mo_plansOf h0 p0 S = some (r, S')) : gM D cT H0 l y_Mo_plansOf (Cond.code y_Mo_plansOf prog_12_method_20_code 4 (Option.some Jvm.ClassFile.FieldType.int)) 0 0 [va_rf (some h0), .int p0] S S' (.inr (some (.int r))) := by
  refine gM.ofV (by decide) ?_
  intro p e s m args below meth c s₁ B hml ea X hZ hex hr hE
  subst ea
  have Y : gY D cT H0 p s m _ meth c prog_12_method_20_code 4 "PlanTextModel" 0 0 S (Option.some Jvm.ClassFile.FieldType.int) := ⟨X, hZ, hex, hr, hE⟩
  have hx := X.1
  have hb := X.2.1
  have hl := lv_entry ([va_rf (some h0), .int p0]) (n := 4) (Nat.le_of_ble_eq_true rfl)
  rw [lg_entry_eq]
  generalize (lg_sl ([va_rf (some h0), .int p0]) ++ List.replicate (4 - (lg_sl ([va_rf (some h0), .int p0])).length) Slot.unset).toArray = ls at hl ⊢
  have hl : lv_has ls 4 [(0, va_rf (some h0)), (1, .int p0)] := hl
  unfold D_Mo_plansOf at hden
  refine gV.lift (fun _ _ _ _ => lv_iconst (v := 0) hx hb d_Mo_plansOf_0 (by decide)) ?_
  refine gV.liftS (nL := 4) (lv' := [(2, .int 0), (0, va_rf (some h0)), (1, .int p0)]) (fun _ _ _ _ => lv_istore_n hx hb d_Mo_plansOf_1 rfl hl (by decide) rfl) (fun ls hl => ?_)
  refine gV.lift (fun _ _ _ _ => lv_iconst (v := 1) hx hb d_Mo_plansOf_2 (by decide)) ?_
  refine gV.liftS (nL := 4) (lv' := [(3, .int 1), (2, .int 0), (0, va_rf (some h0)), (1, .int p0)]) (fun _ _ _ _ => lv_istore_n hx hb d_Mo_plansOf_3 rfl hl (by decide) rfl) (fun ls hl => ?_)
  exact wL_Mo_plansOf_4 Y  gF h0 p0 0 1 S _ hden (lv_sub hl [2, 3, 1, 0] rfl)
/-! PlanTextModel.read(I)I -/
abbrev y_Mo_read : MethodName := ⟨"PlanTextModel", "read", "(I)I"⟩
theorem d_Mo_read_0 : decode prog_12_method_21_code 0 = .ok (.aload_n 0, 1) := by decide +kernel
theorem d_Mo_read_1 : decode prog_12_method_21_code 1 = .ok (.iload_n 1, 1) := by decide +kernel
theorem d_Mo_read_2 : decode prog_12_method_21_code 2 = .ok (.iconst 0, 1) := by decide +kernel
theorem d_Mo_read_3 : decode prog_12_method_21_code 3 = .ok (.sipush 9999, 3) := by decide +kernel
theorem d_Mo_read_6 : decode prog_12_method_21_code 6 = .ok (.invokestatic 72, 3) := by decide +kernel
theorem d_Mo_read_9 : decode prog_12_method_21_code 9 = .ok (.ifCond .ne 7, 3) := by decide +kernel
theorem d_Mo_read_12 : decode prog_12_method_21_code 12 = .ok (.iconst 1, 1) := by decide +kernel
theorem d_Mo_read_13 : decode prog_12_method_21_code 13 = .ok (.goto 4, 3) := by decide +kernel
theorem d_Mo_read_16 : decode prog_12_method_21_code 16 = .ok (.iconst 0, 1) := by decide +kernel
theorem d_Mo_read_17 : decode prog_12_method_21_code 17 = .ok (.iconst 0, 1) := by decide +kernel
theorem d_Mo_read_18 : decode prog_12_method_21_code 18 = .ok (.iconst 0, 1) := by decide +kernel
theorem d_Mo_read_19 : decode prog_12_method_21_code 19 = .ok (.invokevirtual 79, 3) := by decide +kernel
theorem d_Mo_read_22 : decode prog_12_method_21_code 22 = .ok (.ifCond .eq 5, 3) := by decide +kernel
theorem d_Mo_read_25 : decode prog_12_method_21_code 25 = .ok (.iconst 0, 1) := by decide +kernel
theorem d_Mo_read_26 : decode prog_12_method_21_code 26 = .ok (.ireturn, 1) := by decide +kernel
theorem d_Mo_read_27 : decode prog_12_method_21_code 27 = .ok (.aload_n 0, 1) := by decide +kernel
theorem d_Mo_read_28 : decode prog_12_method_21_code 28 = .ok (.aload_n 0, 1) := by decide +kernel
theorem d_Mo_read_29 : decode prog_12_method_21_code 29 = .ok (.getfield 76, 3) := by decide +kernel
theorem d_Mo_read_32 : decode prog_12_method_21_code 32 = .ok (.putfield 90, 3) := by decide +kernel
theorem d_Mo_read_35 : decode prog_12_method_21_code 35 = .ok (.aload_n 0, 1) := by decide +kernel
theorem d_Mo_read_36 : decode prog_12_method_21_code 36 = .ok (.iconst 0, 1) := by decide +kernel
theorem d_Mo_read_37 : decode prog_12_method_21_code 37 = .ok (.putfield 76, 3) := by decide +kernel
theorem d_Mo_read_40 : decode prog_12_method_21_code 40 = .ok (.aload_n 0, 1) := by decide +kernel
theorem d_Mo_read_41 : decode prog_12_method_21_code 41 = .ok (.invokevirtual 136, 3) := by decide +kernel
theorem d_Mo_read_44 : decode prog_12_method_21_code 44 = .ok (.aload_n 0, 1) := by decide +kernel
theorem d_Mo_read_45 : decode prog_12_method_21_code 45 = .ok (.iconst 0, 1) := by decide +kernel
theorem d_Mo_read_46 : decode prog_12_method_21_code 46 = .ok (.aload_n 0, 1) := by decide +kernel
theorem d_Mo_read_47 : decode prog_12_method_21_code 47 = .ok (.getfield 83, 3) := by decide +kernel
theorem d_Mo_read_50 : decode prog_12_method_21_code 50 = .ok (.aload_n 0, 1) := by decide +kernel
theorem d_Mo_read_51 : decode prog_12_method_21_code 51 = .ok (.getfield 139, 3) := by decide +kernel
theorem d_Mo_read_54 : decode prog_12_method_21_code 54 = .ok (.bipush 6, 2) := by decide +kernel
theorem d_Mo_read_56 : decode prog_12_method_21_code 56 = .ok (.if_icmp .ne 7, 3) := by decide +kernel
theorem d_Mo_read_59 : decode prog_12_method_21_code 59 = .ok (.iconst 1, 1) := by decide +kernel
theorem d_Mo_read_60 : decode prog_12_method_21_code 60 = .ok (.goto 4, 3) := by decide +kernel
theorem d_Mo_read_63 : decode prog_12_method_21_code 63 = .ok (.iconst 0, 1) := by decide +kernel
theorem d_Mo_read_64 : decode prog_12_method_21_code 64 = .ok (.invokevirtual 79, 3) := by decide +kernel
theorem d_Mo_read_67 : decode prog_12_method_21_code 67 = .ok (.ifCond .eq 5, 3) := by decide +kernel
theorem d_Mo_read_70 : decode prog_12_method_21_code 70 = .ok (.iconst 0, 1) := by decide +kernel
theorem d_Mo_read_71 : decode prog_12_method_21_code 71 = .ok (.ireturn, 1) := by decide +kernel
theorem d_Mo_read_72 : decode prog_12_method_21_code 72 = .ok (.aload_n 0, 1) := by decide +kernel
theorem d_Mo_read_73 : decode prog_12_method_21_code 73 = .ok (.getfield 139, 3) := by decide +kernel
theorem d_Mo_read_76 : decode prog_12_method_21_code 76 = .ok (.istore_n 2, 1) := by decide +kernel
theorem d_Mo_read_77 : decode prog_12_method_21_code 77 = .ok (.aload_n 0, 1) := by decide +kernel
theorem d_Mo_read_78 : decode prog_12_method_21_code 78 = .ok (.getfield 17, 3) := by decide +kernel
theorem d_Mo_read_81 : decode prog_12_method_21_code 81 = .ok (.iload_n 2, 1) := by decide +kernel
theorem d_Mo_read_82 : decode prog_12_method_21_code 82 = .ok (.iload_n 1, 1) := by decide +kernel
theorem d_Mo_read_83 : decode prog_12_method_21_code 83 = .ok (.iastore, 1) := by decide +kernel
theorem d_Mo_read_84 : decode prog_12_method_21_code 84 = .ok (.iconst 0, 1) := by decide +kernel
theorem d_Mo_read_85 : decode prog_12_method_21_code 85 = .ok (.istore_n 3, 1) := by decide +kernel
theorem d_Mo_read_86 : decode prog_12_method_21_code 86 = .ok (.iload_n 3, 1) := by decide +kernel
theorem d_Mo_read_87 : decode prog_12_method_21_code 87 = .ok (.bipush 50, 2) := by decide +kernel
theorem d_Mo_read_89 : decode prog_12_method_21_code 89 = .ok (.if_icmp .ge 192, 3) := by decide +kernel
theorem d_Mo_read_92 : decode prog_12_method_21_code 92 = .ok (.bipush 50, 2) := by decide +kernel
theorem d_Mo_read_94 : decode prog_12_method_21_code 94 = .ok (.iload_n 2, 1) := by decide +kernel
theorem d_Mo_read_95 : decode prog_12_method_21_code 95 = .ok (.imul, 1) := by decide +kernel
theorem d_Mo_read_96 : decode prog_12_method_21_code 96 = .ok (.iload_n 3, 1) := by decide +kernel
theorem d_Mo_read_97 : decode prog_12_method_21_code 97 = .ok (.iadd, 1) := by decide +kernel
theorem d_Mo_read_98 : decode prog_12_method_21_code 98 = .ok (.istore 4, 2) := by decide +kernel
theorem d_Mo_read_100 : decode prog_12_method_21_code 100 = .ok (.sipush 300, 3) := by decide +kernel
theorem d_Mo_read_103 : decode prog_12_method_21_code 103 = .ok (.iload_n 3, 1) := by decide +kernel
theorem d_Mo_read_104 : decode prog_12_method_21_code 104 = .ok (.iadd, 1) := by decide +kernel
theorem d_Mo_read_105 : decode prog_12_method_21_code 105 = .ok (.istore 5, 2) := by decide +kernel
theorem d_Mo_read_107 : decode prog_12_method_21_code 107 = .ok (.aload_n 0, 1) := by decide +kernel
theorem d_Mo_read_108 : decode prog_12_method_21_code 108 = .ok (.getfield 20, 3) := by decide +kernel
theorem d_Mo_read_111 : decode prog_12_method_21_code 111 = .ok (.iload 4, 2) := by decide +kernel
theorem d_Mo_read_113 : decode prog_12_method_21_code 113 = .ok (.aload_n 0, 1) := by decide +kernel
theorem d_Mo_read_114 : decode prog_12_method_21_code 114 = .ok (.getfield 20, 3) := by decide +kernel
theorem d_Mo_read_117 : decode prog_12_method_21_code 117 = .ok (.iload 5, 2) := by decide +kernel
theorem d_Mo_read_119 : decode prog_12_method_21_code 119 = .ok (.baload, 1) := by decide +kernel
theorem d_Mo_read_120 : decode prog_12_method_21_code 120 = .ok (.bastore, 1) := by decide +kernel
theorem d_Mo_read_121 : decode prog_12_method_21_code 121 = .ok (.aload_n 0, 1) := by decide +kernel
theorem d_Mo_read_122 : decode prog_12_method_21_code 122 = .ok (.getfield 24, 3) := by decide +kernel
theorem d_Mo_read_125 : decode prog_12_method_21_code 125 = .ok (.iload 4, 2) := by decide +kernel
theorem d_Mo_read_127 : decode prog_12_method_21_code 127 = .ok (.aload_n 0, 1) := by decide +kernel
theorem d_Mo_read_128 : decode prog_12_method_21_code 128 = .ok (.getfield 24, 3) := by decide +kernel
theorem d_Mo_read_131 : decode prog_12_method_21_code 131 = .ok (.iload 5, 2) := by decide +kernel
theorem d_Mo_read_133 : decode prog_12_method_21_code 133 = .ok (.iaload, 1) := by decide +kernel
theorem d_Mo_read_134 : decode prog_12_method_21_code 134 = .ok (.iastore, 1) := by decide +kernel
theorem d_Mo_read_135 : decode prog_12_method_21_code 135 = .ok (.aload_n 0, 1) := by decide +kernel
theorem d_Mo_read_136 : decode prog_12_method_21_code 136 = .ok (.getfield 27, 3) := by decide +kernel
theorem d_Mo_read_139 : decode prog_12_method_21_code 139 = .ok (.iload 4, 2) := by decide +kernel
theorem d_Mo_read_141 : decode prog_12_method_21_code 141 = .ok (.aload_n 0, 1) := by decide +kernel
theorem d_Mo_read_142 : decode prog_12_method_21_code 142 = .ok (.getfield 27, 3) := by decide +kernel
theorem d_Mo_read_145 : decode prog_12_method_21_code 145 = .ok (.iload 5, 2) := by decide +kernel
theorem d_Mo_read_147 : decode prog_12_method_21_code 147 = .ok (.iaload, 1) := by decide +kernel
theorem d_Mo_read_148 : decode prog_12_method_21_code 148 = .ok (.iastore, 1) := by decide +kernel
theorem d_Mo_read_149 : decode prog_12_method_21_code 149 = .ok (.aload_n 0, 1) := by decide +kernel
theorem d_Mo_read_150 : decode prog_12_method_21_code 150 = .ok (.getfield 30, 3) := by decide +kernel
theorem d_Mo_read_153 : decode prog_12_method_21_code 153 = .ok (.iload 4, 2) := by decide +kernel
theorem d_Mo_read_155 : decode prog_12_method_21_code 155 = .ok (.aload_n 0, 1) := by decide +kernel
theorem d_Mo_read_156 : decode prog_12_method_21_code 156 = .ok (.getfield 30, 3) := by decide +kernel
theorem d_Mo_read_159 : decode prog_12_method_21_code 159 = .ok (.iload 5, 2) := by decide +kernel
theorem d_Mo_read_161 : decode prog_12_method_21_code 161 = .ok (.iaload, 1) := by decide +kernel
theorem d_Mo_read_162 : decode prog_12_method_21_code 162 = .ok (.iastore, 1) := by decide +kernel
theorem d_Mo_read_163 : decode prog_12_method_21_code 163 = .ok (.aload_n 0, 1) := by decide +kernel
theorem d_Mo_read_164 : decode prog_12_method_21_code 164 = .ok (.getfield 33, 3) := by decide +kernel
theorem d_Mo_read_167 : decode prog_12_method_21_code 167 = .ok (.iload 4, 2) := by decide +kernel
theorem d_Mo_read_169 : decode prog_12_method_21_code 169 = .ok (.aload_n 0, 1) := by decide +kernel
theorem d_Mo_read_170 : decode prog_12_method_21_code 170 = .ok (.getfield 33, 3) := by decide +kernel
theorem d_Mo_read_173 : decode prog_12_method_21_code 173 = .ok (.iload 5, 2) := by decide +kernel
theorem d_Mo_read_175 : decode prog_12_method_21_code 175 = .ok (.iaload, 1) := by decide +kernel
theorem d_Mo_read_176 : decode prog_12_method_21_code 176 = .ok (.iastore, 1) := by decide +kernel
theorem d_Mo_read_177 : decode prog_12_method_21_code 177 = .ok (.aload_n 0, 1) := by decide +kernel
theorem d_Mo_read_178 : decode prog_12_method_21_code 178 = .ok (.getfield 36, 3) := by decide +kernel
theorem d_Mo_read_181 : decode prog_12_method_21_code 181 = .ok (.iload 4, 2) := by decide +kernel
theorem d_Mo_read_183 : decode prog_12_method_21_code 183 = .ok (.aload_n 0, 1) := by decide +kernel
theorem d_Mo_read_184 : decode prog_12_method_21_code 184 = .ok (.getfield 36, 3) := by decide +kernel
theorem d_Mo_read_187 : decode prog_12_method_21_code 187 = .ok (.iload 5, 2) := by decide +kernel
theorem d_Mo_read_189 : decode prog_12_method_21_code 189 = .ok (.iaload, 1) := by decide +kernel
theorem d_Mo_read_190 : decode prog_12_method_21_code 190 = .ok (.iastore, 1) := by decide +kernel
theorem d_Mo_read_191 : decode prog_12_method_21_code 191 = .ok (.aload_n 0, 1) := by decide +kernel
theorem d_Mo_read_192 : decode prog_12_method_21_code 192 = .ok (.getfield 39, 3) := by decide +kernel
theorem d_Mo_read_195 : decode prog_12_method_21_code 195 = .ok (.iload 4, 2) := by decide +kernel
theorem d_Mo_read_197 : decode prog_12_method_21_code 197 = .ok (.aload_n 0, 1) := by decide +kernel
theorem d_Mo_read_198 : decode prog_12_method_21_code 198 = .ok (.getfield 39, 3) := by decide +kernel
theorem d_Mo_read_201 : decode prog_12_method_21_code 201 = .ok (.iload 5, 2) := by decide +kernel
theorem d_Mo_read_203 : decode prog_12_method_21_code 203 = .ok (.iaload, 1) := by decide +kernel
theorem d_Mo_read_204 : decode prog_12_method_21_code 204 = .ok (.iastore, 1) := by decide +kernel
theorem d_Mo_read_205 : decode prog_12_method_21_code 205 = .ok (.aload_n 0, 1) := by decide +kernel
theorem d_Mo_read_206 : decode prog_12_method_21_code 206 = .ok (.getfield 42, 3) := by decide +kernel
theorem d_Mo_read_209 : decode prog_12_method_21_code 209 = .ok (.iload 4, 2) := by decide +kernel
theorem d_Mo_read_211 : decode prog_12_method_21_code 211 = .ok (.aload_n 0, 1) := by decide +kernel
theorem d_Mo_read_212 : decode prog_12_method_21_code 212 = .ok (.getfield 42, 3) := by decide +kernel
theorem d_Mo_read_215 : decode prog_12_method_21_code 215 = .ok (.iload 5, 2) := by decide +kernel
theorem d_Mo_read_217 : decode prog_12_method_21_code 217 = .ok (.iaload, 1) := by decide +kernel
theorem d_Mo_read_218 : decode prog_12_method_21_code 218 = .ok (.iastore, 1) := by decide +kernel
theorem d_Mo_read_219 : decode prog_12_method_21_code 219 = .ok (.aload_n 0, 1) := by decide +kernel
theorem d_Mo_read_220 : decode prog_12_method_21_code 220 = .ok (.getfield 45, 3) := by decide +kernel
theorem d_Mo_read_223 : decode prog_12_method_21_code 223 = .ok (.iload 4, 2) := by decide +kernel
theorem d_Mo_read_225 : decode prog_12_method_21_code 225 = .ok (.aload_n 0, 1) := by decide +kernel
theorem d_Mo_read_226 : decode prog_12_method_21_code 226 = .ok (.getfield 45, 3) := by decide +kernel
theorem d_Mo_read_229 : decode prog_12_method_21_code 229 = .ok (.iload 5, 2) := by decide +kernel
theorem d_Mo_read_231 : decode prog_12_method_21_code 231 = .ok (.iaload, 1) := by decide +kernel
theorem d_Mo_read_232 : decode prog_12_method_21_code 232 = .ok (.iastore, 1) := by decide +kernel
theorem d_Mo_read_233 : decode prog_12_method_21_code 233 = .ok (.iconst 0, 1) := by decide +kernel
theorem d_Mo_read_234 : decode prog_12_method_21_code 234 = .ok (.istore 6, 2) := by decide +kernel
theorem d_Mo_read_236 : decode prog_12_method_21_code 236 = .ok (.iload 6, 2) := by decide +kernel
theorem d_Mo_read_238 : decode prog_12_method_21_code 238 = .ok (.bipush 25, 2) := by decide +kernel
theorem d_Mo_read_240 : decode prog_12_method_21_code 240 = .ok (.if_icmp .ge 35, 3) := by decide +kernel
theorem d_Mo_read_243 : decode prog_12_method_21_code 243 = .ok (.aload_n 0, 1) := by decide +kernel
theorem d_Mo_read_244 : decode prog_12_method_21_code 244 = .ok (.getfield 48, 3) := by decide +kernel
theorem d_Mo_read_247 : decode prog_12_method_21_code 247 = .ok (.bipush 25, 2) := by decide +kernel
theorem d_Mo_read_249 : decode prog_12_method_21_code 249 = .ok (.iload 4, 2) := by decide +kernel
theorem d_Mo_read_251 : decode prog_12_method_21_code 251 = .ok (.imul, 1) := by decide +kernel
theorem d_Mo_read_252 : decode prog_12_method_21_code 252 = .ok (.iload 6, 2) := by decide +kernel
theorem d_Mo_read_254 : decode prog_12_method_21_code 254 = .ok (.iadd, 1) := by decide +kernel
theorem d_Mo_read_255 : decode prog_12_method_21_code 255 = .ok (.aload_n 0, 1) := by decide +kernel
theorem d_Mo_read_256 : decode prog_12_method_21_code 256 = .ok (.getfield 48, 3) := by decide +kernel
theorem d_Mo_read_259 : decode prog_12_method_21_code 259 = .ok (.bipush 25, 2) := by decide +kernel
theorem d_Mo_read_261 : decode prog_12_method_21_code 261 = .ok (.iload 5, 2) := by decide +kernel
theorem d_Mo_read_263 : decode prog_12_method_21_code 263 = .ok (.imul, 1) := by decide +kernel
theorem d_Mo_read_264 : decode prog_12_method_21_code 264 = .ok (.iload 6, 2) := by decide +kernel
theorem d_Mo_read_266 : decode prog_12_method_21_code 266 = .ok (.iadd, 1) := by decide +kernel
theorem d_Mo_read_267 : decode prog_12_method_21_code 267 = .ok (.iaload, 1) := by decide +kernel
theorem d_Mo_read_268 : decode prog_12_method_21_code 268 = .ok (.iastore, 1) := by decide +kernel
theorem d_Mo_read_269 : decode prog_12_method_21_code 269 = .ok (.iinc 6 1, 3) := by decide +kernel
theorem d_Mo_read_272 : decode prog_12_method_21_code 272 = .ok (.goto (-36), 3) := by decide +kernel
theorem d_Mo_read_275 : decode prog_12_method_21_code 275 = .ok (.iinc 3 1, 3) := by decide +kernel
theorem d_Mo_read_278 : decode prog_12_method_21_code 278 = .ok (.goto (-192), 3) := by decide +kernel
theorem d_Mo_read_281 : decode prog_12_method_21_code 281 = .ok (.iconst 0, 1) := by decide +kernel
theorem d_Mo_read_282 : decode prog_12_method_21_code 282 = .ok (.istore_n 3, 1) := by decide +kernel
theorem d_Mo_read_283 : decode prog_12_method_21_code 283 = .ok (.iload_n 3, 1) := by decide +kernel
theorem d_Mo_read_284 : decode prog_12_method_21_code 284 = .ok (.bipush 40, 2) := by decide +kernel
theorem d_Mo_read_286 : decode prog_12_method_21_code 286 = .ok (.if_icmp .ge 30, 3) := by decide +kernel
theorem d_Mo_read_289 : decode prog_12_method_21_code 289 = .ok (.aload_n 0, 1) := by decide +kernel
theorem d_Mo_read_290 : decode prog_12_method_21_code 290 = .ok (.getfield 54, 3) := by decide +kernel
theorem d_Mo_read_293 : decode prog_12_method_21_code 293 = .ok (.bipush 40, 2) := by decide +kernel
theorem d_Mo_read_295 : decode prog_12_method_21_code 295 = .ok (.iload_n 2, 1) := by decide +kernel
theorem d_Mo_read_296 : decode prog_12_method_21_code 296 = .ok (.imul, 1) := by decide +kernel
theorem d_Mo_read_297 : decode prog_12_method_21_code 297 = .ok (.iload_n 3, 1) := by decide +kernel
theorem d_Mo_read_298 : decode prog_12_method_21_code 298 = .ok (.iadd, 1) := by decide +kernel
theorem d_Mo_read_299 : decode prog_12_method_21_code 299 = .ok (.aload_n 0, 1) := by decide +kernel
theorem d_Mo_read_300 : decode prog_12_method_21_code 300 = .ok (.getfield 54, 3) := by decide +kernel
theorem d_Mo_read_303 : decode prog_12_method_21_code 303 = .ok (.sipush 240, 3) := by decide +kernel
theorem d_Mo_read_306 : decode prog_12_method_21_code 306 = .ok (.iload_n 3, 1) := by decide +kernel
theorem d_Mo_read_307 : decode prog_12_method_21_code 307 = .ok (.iadd, 1) := by decide +kernel
theorem d_Mo_read_308 : decode prog_12_method_21_code 308 = .ok (.iaload, 1) := by decide +kernel
theorem d_Mo_read_309 : decode prog_12_method_21_code 309 = .ok (.iastore, 1) := by decide +kernel
theorem d_Mo_read_310 : decode prog_12_method_21_code 310 = .ok (.iinc 3 1, 3) := by decide +kernel
theorem d_Mo_read_313 : decode prog_12_method_21_code 313 = .ok (.goto (-30), 3) := by decide +kernel
theorem d_Mo_read_316 : decode prog_12_method_21_code 316 = .ok (.aload_n 0, 1) := by decide +kernel
theorem d_Mo_read_317 : decode prog_12_method_21_code 317 = .ok (.getfield 51, 3) := by decide +kernel
theorem d_Mo_read_320 : decode prog_12_method_21_code 320 = .ok (.iload_n 2, 1) := by decide +kernel
theorem d_Mo_read_321 : decode prog_12_method_21_code 321 = .ok (.aload_n 0, 1) := by decide +kernel
theorem d_Mo_read_322 : decode prog_12_method_21_code 322 = .ok (.getfield 51, 3) := by decide +kernel
theorem d_Mo_read_325 : decode prog_12_method_21_code 325 = .ok (.bipush 6, 2) := by decide +kernel
theorem d_Mo_read_327 : decode prog_12_method_21_code 327 = .ok (.iaload, 1) := by decide +kernel
theorem d_Mo_read_328 : decode prog_12_method_21_code 328 = .ok (.iastore, 1) := by decide +kernel
theorem d_Mo_read_329 : decode prog_12_method_21_code 329 = .ok (.aload_n 0, 1) := by decide +kernel
theorem d_Mo_read_330 : decode prog_12_method_21_code 330 = .ok (.iload_n 2, 1) := by decide +kernel
theorem d_Mo_read_331 : decode prog_12_method_21_code 331 = .ok (.putfield 66, 3) := by decide +kernel
theorem d_Mo_read_334 : decode prog_12_method_21_code 334 = .ok (.aload_n 0, 1) := by decide +kernel
theorem d_Mo_read_335 : decode prog_12_method_21_code 335 = .ok (.dup, 1) := by decide +kernel
theorem d_Mo_read_336 : decode prog_12_method_21_code 336 = .ok (.getfield 139, 3) := by decide +kernel
theorem d_Mo_read_339 : decode prog_12_method_21_code 339 = .ok (.iconst 1, 1) := by decide +kernel
theorem d_Mo_read_340 : decode prog_12_method_21_code 340 = .ok (.iadd, 1) := by decide +kernel
theorem d_Mo_read_341 : decode prog_12_method_21_code 341 = .ok (.putfield 139, 3) := by decide +kernel
theorem d_Mo_read_344 : decode prog_12_method_21_code 344 = .ok (.aload_n 0, 1) := by decide +kernel
theorem d_Mo_read_345 : decode prog_12_method_21_code 345 = .ok (.iload_n 2, 1) := by decide +kernel
theorem d_Mo_read_346 : decode prog_12_method_21_code 346 = .ok (.invokevirtual 142, 3) := by decide +kernel
theorem d_Mo_read_349 : decode prog_12_method_21_code 349 = .ok (.ireturn, 1) := by decide +kernel
def B_Mo_read_283 (k283 : Nat → Int32 → Int32 → gS → Option (Int32 × gS)) (x0 : Nat) (x2 : Int32) (x3 : Int32) (S : gS) : Option (Int32 × gS) := (if 40 ≤ x3 then Option.bind (gRf S x0 10 20) (fun r2 => Option.bind (gRf S x0 10 20) (fun r3 => Option.bind r3 (fun a4 => Option.bind (gAI S a4 0 6) (fun v5 => Option.bind r2 (fun a6 => Option.bind (gSI S a6 0 x2 v5) (fun S7 => Option.bind (gPut S7 x0 10 8 (.int x2)) (fun S8 => Option.bind (gI S8 x0 10 7) (fun v9 => Option.bind (gPut S8 x0 10 7 (.int (v9 + 1))) (fun S10 => Option.bind (gOb S10 x0 10) (fun fs13 => gB2 (D_Mo_plansOf x0 x2 S10) (fun v12 S11 => some (v12, S11)))))))))))) else Option.bind (gRf S x0 10 21) (fun r14 => Option.bind (gRf S x0 10 21) (fun r15 => Option.bind r15 (fun a16 => Option.bind (gAI S a16 0 (240 + x3)) (fun v17 => Option.bind r14 (fun a18 => Option.bind (gSI S a18 0 ((40 * x2) + x3) v17) (fun S19 => k283 x0 x2 (x3 + 1) S19)))))))
set_option maxRecDepth 100000 in
set_option maxHeartbeats 4000000 in
theorem w_Mo_read_283 {D : va_G} {cT : Nat → ClassId} {H0 : Heap} {l : Launch} {p : Program} {e : Env} {s : State} {m : MethodId} {args : Array Value} {below : List Frame} {meth : Method} {c : Code} {S0 : gS} {S' : gS} {r : Int32} (Y : gY D cT H0 p s m args meth c prog_12_method_21_code 7 "PlanTextModel" 7 157 S0 (Option.some Jvm.ClassFile.FieldType.int)) {k283 : Nat → Int32 → Int32 → gS → Option (Int32 × gS)} (hk283 : ∀ (x0 : Nat) (x2 : Int32) (x3 : Int32) (S : gS) (ls : Array Slot), k283 x0 x2 x3 S = some (r, S') → lv_has ls 7 [(0, va_rf (some x0)), (2, .int x2), (3, .int x3)] → gV D cT H0 p l e (gRm 7 157 S0) s m args below meth c (gQ D cT H0 below S0 S' (.inr (some (.int r))) s) S0 S (F0 m 283 ls [])) (x0 : Nat) (x2 : Int32) (x3 : Int32) (S : gS) (hden : B_Mo_read_283 k283 x0 x2 x3 S = some (r, S')) {ls : Array Slot} (hl : lv_has ls 7 [(0, va_rf (some x0)), (2, .int x2), (3, .int x3)]) : gV D cT H0 p l e (gRm 7 157 S0) s m args below meth c (gQ D cT H0 below S0 S' (.inr (some (.int r))) s) S0 S (F0 m 283 ls []) := by
  obtain ⟨X, hZ, hex, hr, hE⟩ := id Y
  have hx := X.1
  have hb := X.2.1
  unfold B_Mo_read_283 at hden
  refine gV.lift (fun _ _ _ _ => lv_iload_n hx hb d_Mo_read_283 rfl (lv_at hl 2 rfl)) ?_
  refine gV.lift (fun _ _ _ _ => lv_bipush (v := 40) hx hb d_Mo_read_284 (by decide)) ?_
  refine gV.lift2 (fun _ _ _ _ => lv_icmp_ge (tgt := 316) hx hb d_Mo_read_286 (by decide)) (fun hc1 => ?_) (fun hc1 => ?_)
  · replace hden := gip hc1 hden
    refine gV.lift (fun _ _ _ _ => g_aload_n hx hb d_Mo_read_316 rfl (lv_at hl 0 rfl)) ?_
    replace hden := gb hden
    obtain ⟨r2, hv, hden⟩ := hden
    refine r_getR X cl_Mo (k := 20) hv (by decide) q_785 d_Mo_read_317 ?_
    refine gV.lift (fun _ _ _ _ => lv_iload_n hx hb d_Mo_read_320 rfl (lv_at hl 1 rfl)) ?_
    refine gV.lift (fun _ _ _ _ => g_aload_n hx hb d_Mo_read_321 rfl (lv_at hl 0 rfl)) ?_
    replace hden := gb hden
    obtain ⟨r3, hv, hden⟩ := hden
    refine r_getR X cl_Mo (k := 20) hv (by decide) q_785 d_Mo_read_322 ?_
    refine gV.lift (fun _ _ _ _ => lv_bipush (v := 6) hx hb d_Mo_read_325 (by decide)) ?_
    replace hden := gb hden
    obtain ⟨a4, rfl, hden⟩ := hden
    replace hden := gb hden
    obtain ⟨v5, hv, hden⟩ := hden
    refine r_iald X (t := 0) rfl hv d_Mo_read_327 ?_
    replace hden := gb hden
    obtain ⟨a6, rfl, hden⟩ := hden
    replace hden := gb hden
    obtain ⟨S7, hv, hden⟩ := hden
    refine r_iast X (t := 0) rfl hv d_Mo_read_328 ?_
    refine gV.lift (fun _ _ _ _ => g_aload_n hx hb d_Mo_read_329 rfl (lv_at hl 0 rfl)) ?_
    refine gV.lift (fun _ _ _ _ => lv_iload_n hx hb d_Mo_read_330 rfl (lv_at hl 1 rfl)) ?_
    replace hden := gb hden
    obtain ⟨S8, hv, hden⟩ := hden
    refine r_put X cl_Mo (k := 8) hv (by decide) q_773 rfl rfl rfl d_Mo_read_331 ?_
    refine gV.lift (fun _ _ _ _ => g_aload_n hx hb d_Mo_read_334 rfl (lv_at hl 0 rfl)) ?_
    refine gV.lift (fun _ _ _ _ => lv_dup hx hb d_Mo_read_335 g_cat) ?_
    replace hden := gb hden
    obtain ⟨v9, hv, hden⟩ := hden
    refine r_getI X cl_Mo (k := 7) hv (by decide) q_772 d_Mo_read_336 ?_
    refine gV.lift (fun _ _ _ _ => lv_iconst (v := 1) hx hb d_Mo_read_339 (by decide)) ?_
    refine gV.lift (fun _ _ _ _ => lv_iadd hx hb d_Mo_read_340) ?_
    replace hden := gb hden
    obtain ⟨S10, hv, hden⟩ := hden
    refine r_put X cl_Mo (k := 7) hv (by decide) q_772 rfl rfl rfl d_Mo_read_341 ?_
    refine gV.lift (fun _ _ _ _ => g_aload_n hx hb d_Mo_read_344 rfl (lv_at hl 0 rfl)) ?_
    refine gV.lift (fun _ _ _ _ => lv_iload_n hx hb d_Mo_read_345 rfl (lv_at hl 1 rfl)) ?_
    replace hden := gb hden
    obtain ⟨fs13, ho, hden⟩ := hden
    replace hden := gb2 hden
    obtain ⟨v12, S11, hz, hden⟩ := hden
    refine g_callV (As := [.int x2]) (rest := []) X hZ (c_Mo_plansOf hz) cl_Mo (gOb_spec ho) q_923 q_5 q_920 q_922 qp_41 ⟨by decide, by decide, by show _ = some 1; decide +kernel⟩ ⟨by decide, by decide⟩ hl.1 (Nat.le_of_ble_eq_true rfl) d_Mo_read_346 rfl rfl ?_
    obtain ⟨rfl, rfl⟩ := gpi hden
    exact g_iret X hr d_Mo_read_349
  · replace hden := gin hc1 hden
    refine gV.lift (fun _ _ _ _ => g_aload_n hx hb d_Mo_read_289 rfl (lv_at hl 0 rfl)) ?_
    replace hden := gb hden
    obtain ⟨r14, hv, hden⟩ := hden
    refine r_getR X cl_Mo (k := 21) hv (by decide) q_786 d_Mo_read_290 ?_
    refine gV.lift (fun _ _ _ _ => lv_bipush (v := 40) hx hb d_Mo_read_293 (by decide)) ?_
    refine gV.lift (fun _ _ _ _ => lv_iload_n hx hb d_Mo_read_295 rfl (lv_at hl 1 rfl)) ?_
    refine gV.lift (fun _ _ _ _ => lv_imul hx hb d_Mo_read_296) ?_
    refine gV.lift (fun _ _ _ _ => lv_iload_n hx hb d_Mo_read_297 rfl (lv_at hl 2 rfl)) ?_
    refine gV.lift (fun _ _ _ _ => lv_iadd hx hb d_Mo_read_298) ?_
    refine gV.lift (fun _ _ _ _ => g_aload_n hx hb d_Mo_read_299 rfl (lv_at hl 0 rfl)) ?_
    replace hden := gb hden
    obtain ⟨r15, hv, hden⟩ := hden
    refine r_getR X cl_Mo (k := 21) hv (by decide) q_786 d_Mo_read_300 ?_
    refine gV.lift (fun _ _ _ _ => lv_sipush (v := 240) hx hb d_Mo_read_303 (by decide)) ?_
    refine gV.lift (fun _ _ _ _ => lv_iload_n hx hb d_Mo_read_306 rfl (lv_at hl 2 rfl)) ?_
    refine gV.lift (fun _ _ _ _ => lv_iadd hx hb d_Mo_read_307) ?_
    replace hden := gb hden
    obtain ⟨a16, rfl, hden⟩ := hden
    replace hden := gb hden
    obtain ⟨v17, hv, hden⟩ := hden
    refine r_iald X (t := 0) rfl hv d_Mo_read_308 ?_
    replace hden := gb hden
    obtain ⟨a18, rfl, hden⟩ := hden
    replace hden := gb hden
    obtain ⟨S19, hv, hden⟩ := hden
    refine r_iast X (t := 0) rfl hv d_Mo_read_309 ?_
    refine gV.liftS (nL := 7) (lv' := [(3, .int (x3 + 1)), (0, va_rf (some x0)), (2, .int x2)]) (fun _ _ _ _ => lv_iinc (v := (x3 + 1)) hx hb d_Mo_read_310 hl (k := 2) rfl rfl (by decide) rfl) (fun ls hl => ?_)
    refine gV.lift (fun _ _ _ _ => lv_goto (tgt := 283) hx hb d_Mo_read_313 (by decide)) ?_
    exact hk283 x0 x2 (x3 + 1) S19 _ hden (lv_sub hl [1, 2, 0] rfl)
def L_Mo_read_283  : Nat → Nat → Int32 → Int32 → gS → Option (Int32 × gS)
  | 0 => fun _ _ _ _ => none
  | n + 1 => fun x0 x2 x3 S => B_Mo_read_283  (L_Mo_read_283  n) x0 x2 x3 S
theorem wL_Mo_read_283 {D : va_G} {cT : Nat → ClassId} {H0 : Heap} {l : Launch} {p : Program} {e : Env} {s : State} {m : MethodId} {args : Array Value} {below : List Frame} {meth : Method} {c : Code} {S0 : gS} {S' : gS} {r : Int32} (Y : gY D cT H0 p s m args meth c prog_12_method_21_code 7 "PlanTextModel" 7 157 S0 (Option.some Jvm.ClassFile.FieldType.int))  : ∀ (n : Nat) (x0 : Nat) (x2 : Int32) (x3 : Int32) (S : gS) (ls : Array Slot), L_Mo_read_283  n x0 x2 x3 S = some (r, S') → lv_has ls 7 [(0, va_rf (some x0)), (2, .int x2), (3, .int x3)] → gV D cT H0 p l e (gRm 7 157 S0) s m args below meth c (gQ D cT H0 below S0 S' (.inr (some (.int r))) s) S0 S (F0 m 283 ls []) := by
  intro n
  induction n with
  | zero => intro x0 x2 x3 S ls h hl; cases h
  | succ n ih => intro x0 x2 x3 S ls h hl; exact w_Mo_read_283 Y ih x0 x2 x3 S h hl
def B_Mo_read_236 (k86 : Nat → Int32 → Int32 → gS → Option (Int32 × gS)) (k236 : Nat → Int32 → Int32 → Int32 → Int32 → Int32 → gS → Option (Int32 × gS)) (x0 : Nat) (x2 : Int32) (x3 : Int32) (x4 : Int32) (x5 : Int32) (x6 : Int32) (S : gS) : Option (Int32 × gS) := (if 25 ≤ x6 then k86 x0 x2 (x3 + 1) S else Option.bind (gRf S x0 10 19) (fun r2 => Option.bind (gRf S x0 10 19) (fun r3 => Option.bind r3 (fun a4 => Option.bind (gAI S a4 0 ((25 * x5) + x6)) (fun v5 => Option.bind r2 (fun a6 => Option.bind (gSI S a6 0 ((25 * x4) + x6) v5) (fun S7 => k236 x0 x2 x3 x4 x5 (x6 + 1) S7)))))))
set_option maxRecDepth 100000 in
set_option maxHeartbeats 4000000 in
theorem w_Mo_read_236 {D : va_G} {cT : Nat → ClassId} {H0 : Heap} {l : Launch} {p : Program} {e : Env} {s : State} {m : MethodId} {args : Array Value} {below : List Frame} {meth : Method} {c : Code} {S0 : gS} {S' : gS} {r : Int32} (Y : gY D cT H0 p s m args meth c prog_12_method_21_code 7 "PlanTextModel" 7 157 S0 (Option.some Jvm.ClassFile.FieldType.int)) {k86 : Nat → Int32 → Int32 → gS → Option (Int32 × gS)} {k236 : Nat → Int32 → Int32 → Int32 → Int32 → Int32 → gS → Option (Int32 × gS)} (hk86 : ∀ (x0 : Nat) (x2 : Int32) (x3 : Int32) (S : gS) (ls : Array Slot), k86 x0 x2 x3 S = some (r, S') → lv_has ls 7 [(0, va_rf (some x0)), (2, .int x2), (3, .int x3)] → gV D cT H0 p l e (gRm 7 157 S0) s m args below meth c (gQ D cT H0 below S0 S' (.inr (some (.int r))) s) S0 S (F0 m 86 ls [])) (hk236 : ∀ (x0 : Nat) (x2 : Int32) (x3 : Int32) (x4 : Int32) (x5 : Int32) (x6 : Int32) (S : gS) (ls : Array Slot), k236 x0 x2 x3 x4 x5 x6 S = some (r, S') → lv_has ls 7 [(0, va_rf (some x0)), (2, .int x2), (3, .int x3), (4, .int x4), (5, .int x5), (6, .int x6)] → gV D cT H0 p l e (gRm 7 157 S0) s m args below meth c (gQ D cT H0 below S0 S' (.inr (some (.int r))) s) S0 S (F0 m 236 ls [])) (x0 : Nat) (x2 : Int32) (x3 : Int32) (x4 : Int32) (x5 : Int32) (x6 : Int32) (S : gS) (hden : B_Mo_read_236 k86 k236 x0 x2 x3 x4 x5 x6 S = some (r, S')) {ls : Array Slot} (hl : lv_has ls 7 [(0, va_rf (some x0)), (2, .int x2), (3, .int x3), (4, .int x4), (5, .int x5), (6, .int x6)]) : gV D cT H0 p l e (gRm 7 157 S0) s m args below meth c (gQ D cT H0 below S0 S' (.inr (some (.int r))) s) S0 S (F0 m 236 ls []) := by
  obtain ⟨X, hZ, hex, hr, hE⟩ := id Y
  have hx := X.1
  have hb := X.2.1
  unfold B_Mo_read_236 at hden
  refine gV.lift (fun _ _ _ _ => lv_iload hx hb d_Mo_read_236 (lv_at hl 5 rfl)) ?_
  refine gV.lift (fun _ _ _ _ => lv_bipush (v := 25) hx hb d_Mo_read_238 (by decide)) ?_
  refine gV.lift2 (fun _ _ _ _ => lv_icmp_ge (tgt := 275) hx hb d_Mo_read_240 (by decide)) (fun hc1 => ?_) (fun hc1 => ?_)
  · replace hden := gip hc1 hden
    refine gV.liftS (nL := 7) (lv' := [(3, .int (x3 + 1)), (0, va_rf (some x0)), (2, .int x2), (4, .int x4), (5, .int x5), (6, .int x6)]) (fun _ _ _ _ => lv_iinc (v := (x3 + 1)) hx hb d_Mo_read_275 hl (k := 2) rfl rfl (by decide) rfl) (fun ls hl => ?_)
    refine gV.lift (fun _ _ _ _ => lv_goto (tgt := 86) hx hb d_Mo_read_278 (by decide)) ?_
    exact hk86 x0 x2 (x3 + 1) S _ hden (lv_sub hl [1, 2, 0] rfl)
  · replace hden := gin hc1 hden
    refine gV.lift (fun _ _ _ _ => g_aload_n hx hb d_Mo_read_243 rfl (lv_at hl 0 rfl)) ?_
    replace hden := gb hden
    obtain ⟨r2, hv, hden⟩ := hden
    refine r_getR X cl_Mo (k := 19) hv (by decide) q_784 d_Mo_read_244 ?_
    refine gV.lift (fun _ _ _ _ => lv_bipush (v := 25) hx hb d_Mo_read_247 (by decide)) ?_
    refine gV.lift (fun _ _ _ _ => lv_iload hx hb d_Mo_read_249 (lv_at hl 3 rfl)) ?_
    refine gV.lift (fun _ _ _ _ => lv_imul hx hb d_Mo_read_251) ?_
    refine gV.lift (fun _ _ _ _ => lv_iload hx hb d_Mo_read_252 (lv_at hl 5 rfl)) ?_
    refine gV.lift (fun _ _ _ _ => lv_iadd hx hb d_Mo_read_254) ?_
    refine gV.lift (fun _ _ _ _ => g_aload_n hx hb d_Mo_read_255 rfl (lv_at hl 0 rfl)) ?_
    replace hden := gb hden
    obtain ⟨r3, hv, hden⟩ := hden
    refine r_getR X cl_Mo (k := 19) hv (by decide) q_784 d_Mo_read_256 ?_
    refine gV.lift (fun _ _ _ _ => lv_bipush (v := 25) hx hb d_Mo_read_259 (by decide)) ?_
    refine gV.lift (fun _ _ _ _ => lv_iload hx hb d_Mo_read_261 (lv_at hl 4 rfl)) ?_
    refine gV.lift (fun _ _ _ _ => lv_imul hx hb d_Mo_read_263) ?_
    refine gV.lift (fun _ _ _ _ => lv_iload hx hb d_Mo_read_264 (lv_at hl 5 rfl)) ?_
    refine gV.lift (fun _ _ _ _ => lv_iadd hx hb d_Mo_read_266) ?_
    replace hden := gb hden
    obtain ⟨a4, rfl, hden⟩ := hden
    replace hden := gb hden
    obtain ⟨v5, hv, hden⟩ := hden
    refine r_iald X (t := 0) rfl hv d_Mo_read_267 ?_
    replace hden := gb hden
    obtain ⟨a6, rfl, hden⟩ := hden
    replace hden := gb hden
    obtain ⟨S7, hv, hden⟩ := hden
    refine r_iast X (t := 0) rfl hv d_Mo_read_268 ?_
    refine gV.liftS (nL := 7) (lv' := [(6, .int (x6 + 1)), (0, va_rf (some x0)), (2, .int x2), (3, .int x3), (4, .int x4), (5, .int x5)]) (fun _ _ _ _ => lv_iinc (v := (x6 + 1)) hx hb d_Mo_read_269 hl (k := 5) rfl rfl (by decide) rfl) (fun ls hl => ?_)
    refine gV.lift (fun _ _ _ _ => lv_goto (tgt := 236) hx hb d_Mo_read_272 (by decide)) ?_
    exact hk236 x0 x2 x3 x4 x5 (x6 + 1) S7 _ hden (lv_sub hl [1, 2, 3, 4, 5, 0] rfl)
def L_Mo_read_236 (k86 : Nat → Int32 → Int32 → gS → Option (Int32 × gS)) : Nat → Nat → Int32 → Int32 → Int32 → Int32 → Int32 → gS → Option (Int32 × gS)
  | 0 => fun _ _ _ _ _ _ _ => none
  | n + 1 => fun x0 x2 x3 x4 x5 x6 S => B_Mo_read_236 k86 (L_Mo_read_236 k86 n) x0 x2 x3 x4 x5 x6 S
theorem wL_Mo_read_236 {D : va_G} {cT : Nat → ClassId} {H0 : Heap} {l : Launch} {p : Program} {e : Env} {s : State} {m : MethodId} {args : Array Value} {below : List Frame} {meth : Method} {c : Code} {S0 : gS} {S' : gS} {r : Int32} (Y : gY D cT H0 p s m args meth c prog_12_method_21_code 7 "PlanTextModel" 7 157 S0 (Option.some Jvm.ClassFile.FieldType.int)) {k86 : Nat → Int32 → Int32 → gS → Option (Int32 × gS)} (hk86 : ∀ (x0 : Nat) (x2 : Int32) (x3 : Int32) (S : gS) (ls : Array Slot), k86 x0 x2 x3 S = some (r, S') → lv_has ls 7 [(0, va_rf (some x0)), (2, .int x2), (3, .int x3)] → gV D cT H0 p l e (gRm 7 157 S0) s m args below meth c (gQ D cT H0 below S0 S' (.inr (some (.int r))) s) S0 S (F0 m 86 ls [])) : ∀ (n : Nat) (x0 : Nat) (x2 : Int32) (x3 : Int32) (x4 : Int32) (x5 : Int32) (x6 : Int32) (S : gS) (ls : Array Slot), L_Mo_read_236 k86 n x0 x2 x3 x4 x5 x6 S = some (r, S') → lv_has ls 7 [(0, va_rf (some x0)), (2, .int x2), (3, .int x3), (4, .int x4), (5, .int x5), (6, .int x6)] → gV D cT H0 p l e (gRm 7 157 S0) s m args below meth c (gQ D cT H0 below S0 S' (.inr (some (.int r))) s) S0 S (F0 m 236 ls []) := by
  intro n
  induction n with
  | zero => intro x0 x2 x3 x4 x5 x6 S ls h hl; cases h
  | succ n ih => intro x0 x2 x3 x4 x5 x6 S ls h hl; exact w_Mo_read_236 Y hk86 ih x0 x2 x3 x4 x5 x6 S h hl
def B_Mo_read_86 (k86 : Nat → Int32 → Int32 → gS → Option (Int32 × gS)) (x0 : Nat) (x2 : Int32) (x3 : Int32) (S : gS) : Option (Int32 × gS) := (if 50 ≤ x3 then L_Mo_read_283  gF x0 x2 0 S else Option.bind (gRf S x0 10 10) (fun r2 => Option.bind (gRf S x0 10 10) (fun r3 => Option.bind r3 (fun a4 => Option.bind (gAI S a4 3 (300 + x3)) (fun v5 => Option.bind r2 (fun a6 => Option.bind (gZo v5) (fun v8 => Option.bind (gSI S a6 3 ((50 * x2) + x3) v8) (fun S7 => Option.bind (gRf S7 x0 10 11) (fun r9 => Option.bind (gRf S7 x0 10 11) (fun r10 => Option.bind r10 (fun a11 => Option.bind (gAI S7 a11 0 (300 + x3)) (fun v12 => Option.bind r9 (fun a13 => Option.bind (gSI S7 a13 0 ((50 * x2) + x3) v12) (fun S14 => Option.bind (gRf S14 x0 10 12) (fun r15 => Option.bind (gRf S14 x0 10 12) (fun r16 => Option.bind r16 (fun a17 => Option.bind (gAI S14 a17 0 (300 + x3)) (fun v18 => Option.bind r15 (fun a19 => Option.bind (gSI S14 a19 0 ((50 * x2) + x3) v18) (fun S20 => Option.bind (gRf S20 x0 10 13) (fun r21 => Option.bind (gRf S20 x0 10 13) (fun r22 => Option.bind r22 (fun a23 => Option.bind (gAI S20 a23 0 (300 + x3)) (fun v24 => Option.bind r21 (fun a25 => Option.bind (gSI S20 a25 0 ((50 * x2) + x3) v24) (fun S26 => Option.bind (gRf S26 x0 10 14) (fun r27 => Option.bind (gRf S26 x0 10 14) (fun r28 => Option.bind r28 (fun a29 => Option.bind (gAI S26 a29 0 (300 + x3)) (fun v30 => Option.bind r27 (fun a31 => Option.bind (gSI S26 a31 0 ((50 * x2) + x3) v30) (fun S32 => Option.bind (gRf S32 x0 10 15) (fun r33 => Option.bind (gRf S32 x0 10 15) (fun r34 => Option.bind r34 (fun a35 => Option.bind (gAI S32 a35 0 (300 + x3)) (fun v36 => Option.bind r33 (fun a37 => Option.bind (gSI S32 a37 0 ((50 * x2) + x3) v36) (fun S38 => Option.bind (gRf S38 x0 10 16) (fun r39 => Option.bind (gRf S38 x0 10 16) (fun r40 => Option.bind r40 (fun a41 => Option.bind (gAI S38 a41 0 (300 + x3)) (fun v42 => Option.bind r39 (fun a43 => Option.bind (gSI S38 a43 0 ((50 * x2) + x3) v42) (fun S44 => Option.bind (gRf S44 x0 10 17) (fun r45 => Option.bind (gRf S44 x0 10 17) (fun r46 => Option.bind r46 (fun a47 => Option.bind (gAI S44 a47 0 (300 + x3)) (fun v48 => Option.bind r45 (fun a49 => Option.bind (gSI S44 a49 0 ((50 * x2) + x3) v48) (fun S50 => Option.bind (gRf S50 x0 10 18) (fun r51 => Option.bind (gRf S50 x0 10 18) (fun r52 => Option.bind r52 (fun a53 => Option.bind (gAI S50 a53 0 (300 + x3)) (fun v54 => Option.bind r51 (fun a55 => Option.bind (gSI S50 a55 0 ((50 * x2) + x3) v54) (fun S56 => L_Mo_read_236 k86 gF x0 x2 x3 ((50 * x2) + x3) (300 + x3) 0 S56))))))))))))))))))))))))))))))))))))))))))))))))))))))))
set_option maxRecDepth 100000 in
set_option maxHeartbeats 4000000 in
theorem w_Mo_read_86 {D : va_G} {cT : Nat → ClassId} {H0 : Heap} {l : Launch} {p : Program} {e : Env} {s : State} {m : MethodId} {args : Array Value} {below : List Frame} {meth : Method} {c : Code} {S0 : gS} {S' : gS} {r : Int32} (Y : gY D cT H0 p s m args meth c prog_12_method_21_code 7 "PlanTextModel" 7 157 S0 (Option.some Jvm.ClassFile.FieldType.int)) {k86 : Nat → Int32 → Int32 → gS → Option (Int32 × gS)} (hk86 : ∀ (x0 : Nat) (x2 : Int32) (x3 : Int32) (S : gS) (ls : Array Slot), k86 x0 x2 x3 S = some (r, S') → lv_has ls 7 [(0, va_rf (some x0)), (2, .int x2), (3, .int x3)] → gV D cT H0 p l e (gRm 7 157 S0) s m args below meth c (gQ D cT H0 below S0 S' (.inr (some (.int r))) s) S0 S (F0 m 86 ls [])) (x0 : Nat) (x2 : Int32) (x3 : Int32) (S : gS) (hden : B_Mo_read_86 k86 x0 x2 x3 S = some (r, S')) {ls : Array Slot} (hl : lv_has ls 7 [(0, va_rf (some x0)), (2, .int x2), (3, .int x3)]) : gV D cT H0 p l e (gRm 7 157 S0) s m args below meth c (gQ D cT H0 below S0 S' (.inr (some (.int r))) s) S0 S (F0 m 86 ls []) := by
  obtain ⟨X, hZ, hex, hr, hE⟩ := id Y
  have hx := X.1
  have hb := X.2.1
  unfold B_Mo_read_86 at hden
  refine gV.lift (fun _ _ _ _ => lv_iload_n hx hb d_Mo_read_86 rfl (lv_at hl 2 rfl)) ?_
  refine gV.lift (fun _ _ _ _ => lv_bipush (v := 50) hx hb d_Mo_read_87 (by decide)) ?_
  refine gV.lift2 (fun _ _ _ _ => lv_icmp_ge (tgt := 281) hx hb d_Mo_read_89 (by decide)) (fun hc1 => ?_) (fun hc1 => ?_)
  · replace hden := gip hc1 hden
    refine gV.lift (fun _ _ _ _ => lv_iconst (v := 0) hx hb d_Mo_read_281 (by decide)) ?_
    refine gV.liftS (nL := 7) (lv' := [(3, .int 0), (0, va_rf (some x0)), (2, .int x2)]) (fun _ _ _ _ => lv_istore_n hx hb d_Mo_read_282 rfl hl (by decide) rfl) (fun ls hl => ?_)
    exact wL_Mo_read_283 Y  gF x0 x2 0 S _ hden (lv_sub hl [1, 2, 0] rfl)
  · replace hden := gin hc1 hden
    refine gV.lift (fun _ _ _ _ => lv_bipush (v := 50) hx hb d_Mo_read_92 (by decide)) ?_
    refine gV.lift (fun _ _ _ _ => lv_iload_n hx hb d_Mo_read_94 rfl (lv_at hl 1 rfl)) ?_
    refine gV.lift (fun _ _ _ _ => lv_imul hx hb d_Mo_read_95) ?_
    refine gV.lift (fun _ _ _ _ => lv_iload_n hx hb d_Mo_read_96 rfl (lv_at hl 2 rfl)) ?_
    refine gV.lift (fun _ _ _ _ => lv_iadd hx hb d_Mo_read_97) ?_
    refine gV.liftS (nL := 7) (lv' := [(4, .int ((50 * x2) + x3)), (0, va_rf (some x0)), (2, .int x2), (3, .int x3)]) (fun _ _ _ _ => lv_istore hx hb d_Mo_read_98 hl (by decide) rfl) (fun ls hl => ?_)
    refine gV.lift (fun _ _ _ _ => lv_sipush (v := 300) hx hb d_Mo_read_100 (by decide)) ?_
    refine gV.lift (fun _ _ _ _ => lv_iload_n hx hb d_Mo_read_103 rfl (lv_at hl 3 rfl)) ?_
    refine gV.lift (fun _ _ _ _ => lv_iadd hx hb d_Mo_read_104) ?_
    refine gV.liftS (nL := 7) (lv' := [(5, .int (300 + x3)), (4, .int ((50 * x2) + x3)), (0, va_rf (some x0)), (2, .int x2), (3, .int x3)]) (fun _ _ _ _ => lv_istore hx hb d_Mo_read_105 hl (by decide) rfl) (fun ls hl => ?_)
    refine gV.lift (fun _ _ _ _ => g_aload_n hx hb d_Mo_read_107 rfl (lv_at hl 2 rfl)) ?_
    replace hden := gb hden
    obtain ⟨r2, hv, hden⟩ := hden
    refine r_getR X cl_Mo (k := 10) hv (by decide) q_775 d_Mo_read_108 ?_
    refine gV.lift (fun _ _ _ _ => lv_iload hx hb d_Mo_read_111 (lv_at hl 1 rfl)) ?_
    refine gV.lift (fun _ _ _ _ => g_aload_n hx hb d_Mo_read_113 rfl (lv_at hl 2 rfl)) ?_
    replace hden := gb hden
    obtain ⟨r3, hv, hden⟩ := hden
    refine r_getR X cl_Mo (k := 10) hv (by decide) q_775 d_Mo_read_114 ?_
    refine gV.lift (fun _ _ _ _ => lv_iload hx hb d_Mo_read_117 (lv_at hl 0 rfl)) ?_
    replace hden := gb hden
    obtain ⟨a4, rfl, hden⟩ := hden
    replace hden := gb hden
    obtain ⟨v5, hv, hden⟩ := hden
    refine r_zald X (t := 3) rfl hv d_Mo_read_119 ?_
    replace hden := gb hden
    obtain ⟨a6, rfl, hden⟩ := hden
    replace hden := gb hden
    obtain ⟨v8, hz, hden⟩ := hden
    replace hden := gb hden
    obtain ⟨S7, hv, hden⟩ := hden
    refine r_zast X (t := 3) rfl hz hv d_Mo_read_120 ?_
    refine gV.lift (fun _ _ _ _ => g_aload_n hx hb d_Mo_read_121 rfl (lv_at hl 2 rfl)) ?_
    replace hden := gb hden
    obtain ⟨r9, hv, hden⟩ := hden
    refine r_getR X cl_Mo (k := 11) hv (by decide) q_776 d_Mo_read_122 ?_
    refine gV.lift (fun _ _ _ _ => lv_iload hx hb d_Mo_read_125 (lv_at hl 1 rfl)) ?_
    refine gV.lift (fun _ _ _ _ => g_aload_n hx hb d_Mo_read_127 rfl (lv_at hl 2 rfl)) ?_
    replace hden := gb hden
    obtain ⟨r10, hv, hden⟩ := hden
    refine r_getR X cl_Mo (k := 11) hv (by decide) q_776 d_Mo_read_128 ?_
    refine gV.lift (fun _ _ _ _ => lv_iload hx hb d_Mo_read_131 (lv_at hl 0 rfl)) ?_
    replace hden := gb hden
    obtain ⟨a11, rfl, hden⟩ := hden
    replace hden := gb hden
    obtain ⟨v12, hv, hden⟩ := hden
    refine r_iald X (t := 0) rfl hv d_Mo_read_133 ?_
    replace hden := gb hden
    obtain ⟨a13, rfl, hden⟩ := hden
    replace hden := gb hden
    obtain ⟨S14, hv, hden⟩ := hden
    refine r_iast X (t := 0) rfl hv d_Mo_read_134 ?_
    refine gV.lift (fun _ _ _ _ => g_aload_n hx hb d_Mo_read_135 rfl (lv_at hl 2 rfl)) ?_
    replace hden := gb hden
    obtain ⟨r15, hv, hden⟩ := hden
    refine r_getR X cl_Mo (k := 12) hv (by decide) q_777 d_Mo_read_136 ?_
    refine gV.lift (fun _ _ _ _ => lv_iload hx hb d_Mo_read_139 (lv_at hl 1 rfl)) ?_
    refine gV.lift (fun _ _ _ _ => g_aload_n hx hb d_Mo_read_141 rfl (lv_at hl 2 rfl)) ?_
    replace hden := gb hden
    obtain ⟨r16, hv, hden⟩ := hden
    refine r_getR X cl_Mo (k := 12) hv (by decide) q_777 d_Mo_read_142 ?_
    refine gV.lift (fun _ _ _ _ => lv_iload hx hb d_Mo_read_145 (lv_at hl 0 rfl)) ?_
    replace hden := gb hden
    obtain ⟨a17, rfl, hden⟩ := hden
    replace hden := gb hden
    obtain ⟨v18, hv, hden⟩ := hden
    refine r_iald X (t := 0) rfl hv d_Mo_read_147 ?_
    replace hden := gb hden
    obtain ⟨a19, rfl, hden⟩ := hden
    replace hden := gb hden
    obtain ⟨S20, hv, hden⟩ := hden
    refine r_iast X (t := 0) rfl hv d_Mo_read_148 ?_
    refine gV.lift (fun _ _ _ _ => g_aload_n hx hb d_Mo_read_149 rfl (lv_at hl 2 rfl)) ?_
    replace hden := gb hden
    obtain ⟨r21, hv, hden⟩ := hden
    refine r_getR X cl_Mo (k := 13) hv (by decide) q_778 d_Mo_read_150 ?_
    refine gV.lift (fun _ _ _ _ => lv_iload hx hb d_Mo_read_153 (lv_at hl 1 rfl)) ?_
    refine gV.lift (fun _ _ _ _ => g_aload_n hx hb d_Mo_read_155 rfl (lv_at hl 2 rfl)) ?_
    replace hden := gb hden
    obtain ⟨r22, hv, hden⟩ := hden
    refine r_getR X cl_Mo (k := 13) hv (by decide) q_778 d_Mo_read_156 ?_
    refine gV.lift (fun _ _ _ _ => lv_iload hx hb d_Mo_read_159 (lv_at hl 0 rfl)) ?_
    replace hden := gb hden
    obtain ⟨a23, rfl, hden⟩ := hden
    replace hden := gb hden
    obtain ⟨v24, hv, hden⟩ := hden
    refine r_iald X (t := 0) rfl hv d_Mo_read_161 ?_
    replace hden := gb hden
    obtain ⟨a25, rfl, hden⟩ := hden
    replace hden := gb hden
    obtain ⟨S26, hv, hden⟩ := hden
    refine r_iast X (t := 0) rfl hv d_Mo_read_162 ?_
    refine gV.lift (fun _ _ _ _ => g_aload_n hx hb d_Mo_read_163 rfl (lv_at hl 2 rfl)) ?_
    replace hden := gb hden
    obtain ⟨r27, hv, hden⟩ := hden
    refine r_getR X cl_Mo (k := 14) hv (by decide) q_779 d_Mo_read_164 ?_
    refine gV.lift (fun _ _ _ _ => lv_iload hx hb d_Mo_read_167 (lv_at hl 1 rfl)) ?_
    refine gV.lift (fun _ _ _ _ => g_aload_n hx hb d_Mo_read_169 rfl (lv_at hl 2 rfl)) ?_
    replace hden := gb hden
    obtain ⟨r28, hv, hden⟩ := hden
    refine r_getR X cl_Mo (k := 14) hv (by decide) q_779 d_Mo_read_170 ?_
    refine gV.lift (fun _ _ _ _ => lv_iload hx hb d_Mo_read_173 (lv_at hl 0 rfl)) ?_
    replace hden := gb hden
    obtain ⟨a29, rfl, hden⟩ := hden
    replace hden := gb hden
    obtain ⟨v30, hv, hden⟩ := hden
    refine r_iald X (t := 0) rfl hv d_Mo_read_175 ?_
    replace hden := gb hden
    obtain ⟨a31, rfl, hden⟩ := hden
    replace hden := gb hden
    obtain ⟨S32, hv, hden⟩ := hden
    refine r_iast X (t := 0) rfl hv d_Mo_read_176 ?_
    refine gV.lift (fun _ _ _ _ => g_aload_n hx hb d_Mo_read_177 rfl (lv_at hl 2 rfl)) ?_
    replace hden := gb hden
    obtain ⟨r33, hv, hden⟩ := hden
    refine r_getR X cl_Mo (k := 15) hv (by decide) q_780 d_Mo_read_178 ?_
    refine gV.lift (fun _ _ _ _ => lv_iload hx hb d_Mo_read_181 (lv_at hl 1 rfl)) ?_
    refine gV.lift (fun _ _ _ _ => g_aload_n hx hb d_Mo_read_183 rfl (lv_at hl 2 rfl)) ?_
    replace hden := gb hden
    obtain ⟨r34, hv, hden⟩ := hden
    refine r_getR X cl_Mo (k := 15) hv (by decide) q_780 d_Mo_read_184 ?_
    refine gV.lift (fun _ _ _ _ => lv_iload hx hb d_Mo_read_187 (lv_at hl 0 rfl)) ?_
    replace hden := gb hden
    obtain ⟨a35, rfl, hden⟩ := hden
    replace hden := gb hden
    obtain ⟨v36, hv, hden⟩ := hden
    refine r_iald X (t := 0) rfl hv d_Mo_read_189 ?_
    replace hden := gb hden
    obtain ⟨a37, rfl, hden⟩ := hden
    replace hden := gb hden
    obtain ⟨S38, hv, hden⟩ := hden
    refine r_iast X (t := 0) rfl hv d_Mo_read_190 ?_
    refine gV.lift (fun _ _ _ _ => g_aload_n hx hb d_Mo_read_191 rfl (lv_at hl 2 rfl)) ?_
    replace hden := gb hden
    obtain ⟨r39, hv, hden⟩ := hden
    refine r_getR X cl_Mo (k := 16) hv (by decide) q_781 d_Mo_read_192 ?_
    refine gV.lift (fun _ _ _ _ => lv_iload hx hb d_Mo_read_195 (lv_at hl 1 rfl)) ?_
    refine gV.lift (fun _ _ _ _ => g_aload_n hx hb d_Mo_read_197 rfl (lv_at hl 2 rfl)) ?_
    replace hden := gb hden
    obtain ⟨r40, hv, hden⟩ := hden
    refine r_getR X cl_Mo (k := 16) hv (by decide) q_781 d_Mo_read_198 ?_
    refine gV.lift (fun _ _ _ _ => lv_iload hx hb d_Mo_read_201 (lv_at hl 0 rfl)) ?_
    replace hden := gb hden
    obtain ⟨a41, rfl, hden⟩ := hden
    replace hden := gb hden
    obtain ⟨v42, hv, hden⟩ := hden
    refine r_iald X (t := 0) rfl hv d_Mo_read_203 ?_
    replace hden := gb hden
    obtain ⟨a43, rfl, hden⟩ := hden
    replace hden := gb hden
    obtain ⟨S44, hv, hden⟩ := hden
    refine r_iast X (t := 0) rfl hv d_Mo_read_204 ?_
    refine gV.lift (fun _ _ _ _ => g_aload_n hx hb d_Mo_read_205 rfl (lv_at hl 2 rfl)) ?_
    replace hden := gb hden
    obtain ⟨r45, hv, hden⟩ := hden
    refine r_getR X cl_Mo (k := 17) hv (by decide) q_782 d_Mo_read_206 ?_
    refine gV.lift (fun _ _ _ _ => lv_iload hx hb d_Mo_read_209 (lv_at hl 1 rfl)) ?_
    refine gV.lift (fun _ _ _ _ => g_aload_n hx hb d_Mo_read_211 rfl (lv_at hl 2 rfl)) ?_
    replace hden := gb hden
    obtain ⟨r46, hv, hden⟩ := hden
    refine r_getR X cl_Mo (k := 17) hv (by decide) q_782 d_Mo_read_212 ?_
    refine gV.lift (fun _ _ _ _ => lv_iload hx hb d_Mo_read_215 (lv_at hl 0 rfl)) ?_
    replace hden := gb hden
    obtain ⟨a47, rfl, hden⟩ := hden
    replace hden := gb hden
    obtain ⟨v48, hv, hden⟩ := hden
    refine r_iald X (t := 0) rfl hv d_Mo_read_217 ?_
    replace hden := gb hden
    obtain ⟨a49, rfl, hden⟩ := hden
    replace hden := gb hden
    obtain ⟨S50, hv, hden⟩ := hden
    refine r_iast X (t := 0) rfl hv d_Mo_read_218 ?_
    refine gV.lift (fun _ _ _ _ => g_aload_n hx hb d_Mo_read_219 rfl (lv_at hl 2 rfl)) ?_
    replace hden := gb hden
    obtain ⟨r51, hv, hden⟩ := hden
    refine r_getR X cl_Mo (k := 18) hv (by decide) q_783 d_Mo_read_220 ?_
    refine gV.lift (fun _ _ _ _ => lv_iload hx hb d_Mo_read_223 (lv_at hl 1 rfl)) ?_
    refine gV.lift (fun _ _ _ _ => g_aload_n hx hb d_Mo_read_225 rfl (lv_at hl 2 rfl)) ?_
    replace hden := gb hden
    obtain ⟨r52, hv, hden⟩ := hden
    refine r_getR X cl_Mo (k := 18) hv (by decide) q_783 d_Mo_read_226 ?_
    refine gV.lift (fun _ _ _ _ => lv_iload hx hb d_Mo_read_229 (lv_at hl 0 rfl)) ?_
    replace hden := gb hden
    obtain ⟨a53, rfl, hden⟩ := hden
    replace hden := gb hden
    obtain ⟨v54, hv, hden⟩ := hden
    refine r_iald X (t := 0) rfl hv d_Mo_read_231 ?_
    replace hden := gb hden
    obtain ⟨a55, rfl, hden⟩ := hden
    replace hden := gb hden
    obtain ⟨S56, hv, hden⟩ := hden
    refine r_iast X (t := 0) rfl hv d_Mo_read_232 ?_
    refine gV.lift (fun _ _ _ _ => lv_iconst (v := 0) hx hb d_Mo_read_233 (by decide)) ?_
    refine gV.liftS (nL := 7) (lv' := [(6, .int 0), (5, .int (300 + x3)), (4, .int ((50 * x2) + x3)), (0, va_rf (some x0)), (2, .int x2), (3, .int x3)]) (fun _ _ _ _ => lv_istore hx hb d_Mo_read_234 hl (by decide) rfl) (fun ls hl => ?_)
    exact wL_Mo_read_236 Y hk86 gF x0 x2 x3 ((50 * x2) + x3) (300 + x3) 0 S56 _ hden (lv_sub hl [3, 4, 5, 2, 1, 0] rfl)
def L_Mo_read_86  : Nat → Nat → Int32 → Int32 → gS → Option (Int32 × gS)
  | 0 => fun _ _ _ _ => none
  | n + 1 => fun x0 x2 x3 S => B_Mo_read_86  (L_Mo_read_86  n) x0 x2 x3 S
theorem wL_Mo_read_86 {D : va_G} {cT : Nat → ClassId} {H0 : Heap} {l : Launch} {p : Program} {e : Env} {s : State} {m : MethodId} {args : Array Value} {below : List Frame} {meth : Method} {c : Code} {S0 : gS} {S' : gS} {r : Int32} (Y : gY D cT H0 p s m args meth c prog_12_method_21_code 7 "PlanTextModel" 7 157 S0 (Option.some Jvm.ClassFile.FieldType.int))  : ∀ (n : Nat) (x0 : Nat) (x2 : Int32) (x3 : Int32) (S : gS) (ls : Array Slot), L_Mo_read_86  n x0 x2 x3 S = some (r, S') → lv_has ls 7 [(0, va_rf (some x0)), (2, .int x2), (3, .int x3)] → gV D cT H0 p l e (gRm 7 157 S0) s m args below meth c (gQ D cT H0 below S0 S' (.inr (some (.int r))) s) S0 S (F0 m 86 ls []) := by
  intro n
  induction n with
  | zero => intro x0 x2 x3 S ls h hl; cases h
  | succ n ih => intro x0 x2 x3 S ls h hl; exact w_Mo_read_86 Y ih x0 x2 x3 S h hl
def B_Mo_read_64  (x0 : Nat) (x1 : Int32) (t0 : Int32) (t1 : Int32) (t2 : Int32) (t3 : Nat) (S : gS) : Option (Int32 × gS) := Option.bind (gOb S t3 10) (fun fs3 => gB2 (D_Mo_throwing t3 t2 t1 t0 S) (fun v2 S1 => (if v2 = 0 then Option.bind (gI S1 x0 10 7) (fun v5 => Option.bind (gRf S1 x0 10 9) (fun r6 => Option.bind r6 (fun a7 => Option.bind (gSI S1 a7 0 v5 x1) (fun S8 => L_Mo_read_86  gF x0 v5 0 S8)))) else some (0, S1))))
set_option maxRecDepth 100000 in
set_option maxHeartbeats 4000000 in
theorem w_Mo_read_64 {D : va_G} {cT : Nat → ClassId} {H0 : Heap} {l : Launch} {p : Program} {e : Env} {s : State} {m : MethodId} {args : Array Value} {below : List Frame} {meth : Method} {c : Code} {S0 : gS} {S' : gS} {r : Int32} (Y : gY D cT H0 p s m args meth c prog_12_method_21_code 7 "PlanTextModel" 7 157 S0 (Option.some Jvm.ClassFile.FieldType.int))  (x0 : Nat) (x1 : Int32) (t0 : Int32) (t1 : Int32) (t2 : Int32) (t3 : Nat) (S : gS) (hden : B_Mo_read_64  x0 x1 t0 t1 t2 t3 S = some (r, S')) {ls : Array Slot} (hl : lv_has ls 7 [(0, va_rf (some x0)), (1, .int x1)]) : gV D cT H0 p l e (gRm 7 157 S0) s m args below meth c (gQ D cT H0 below S0 S' (.inr (some (.int r))) s) S0 S (F0 m 64 ls [.int t0, .int t1, .int t2, va_rf (some t3)]) := by
  obtain ⟨X, hZ, hex, hr, hE⟩ := id Y
  have hx := X.1
  have hb := X.2.1
  unfold B_Mo_read_64 at hden
  replace hden := gb hden
  obtain ⟨fs3, ho, hden⟩ := hden
  replace hden := gb2 hden
  obtain ⟨v2, S1, hz, hden⟩ := hden
  refine g_callV (As := [.int t2, .int t1, .int t0]) (rest := []) X hZ (c_Mo_throwing hz) cl_Mo (gOb_spec ho) q_859 q_5 q_856 q_858 qp_26 ⟨by decide, by decide, by show _ = some 3; decide +kernel⟩ ⟨by decide, by decide⟩ hl.1 (Nat.le_of_ble_eq_true rfl) d_Mo_read_64 rfl rfl ?_
  refine gV.lift2 (fun _ _ _ _ => lv_if_eq (tgt := 72) hx hb d_Mo_read_67 (by decide)) (fun hc4 => ?_) (fun hc4 => ?_)
  · replace hden := gip hc4 hden
    refine gV.lift (fun _ _ _ _ => g_aload_n hx hb d_Mo_read_72 rfl (lv_at hl 0 rfl)) ?_
    replace hden := gb hden
    obtain ⟨v5, hv, hden⟩ := hden
    refine r_getI X cl_Mo (k := 7) hv (by decide) q_772 d_Mo_read_73 ?_
    refine gV.liftS (nL := 7) (lv' := [(2, .int v5), (0, va_rf (some x0)), (1, .int x1)]) (fun _ _ _ _ => lv_istore_n hx hb d_Mo_read_76 rfl hl (by decide) rfl) (fun ls hl => ?_)
    refine gV.lift (fun _ _ _ _ => g_aload_n hx hb d_Mo_read_77 rfl (lv_at hl 1 rfl)) ?_
    replace hden := gb hden
    obtain ⟨r6, hv, hden⟩ := hden
    refine r_getR X cl_Mo (k := 9) hv (by decide) q_774 d_Mo_read_78 ?_
    refine gV.lift (fun _ _ _ _ => lv_iload_n hx hb d_Mo_read_81 rfl (lv_at hl 0 rfl)) ?_
    refine gV.lift (fun _ _ _ _ => lv_iload_n hx hb d_Mo_read_82 rfl (lv_at hl 2 rfl)) ?_
    replace hden := gb hden
    obtain ⟨a7, rfl, hden⟩ := hden
    replace hden := gb hden
    obtain ⟨S8, hv, hden⟩ := hden
    refine r_iast X (t := 0) rfl hv d_Mo_read_83 ?_
    refine gV.lift (fun _ _ _ _ => lv_iconst (v := 0) hx hb d_Mo_read_84 (by decide)) ?_
    refine gV.liftS (nL := 7) (lv' := [(3, .int 0), (2, .int v5), (0, va_rf (some x0)), (1, .int x1)]) (fun _ _ _ _ => lv_istore_n hx hb d_Mo_read_85 rfl hl (by decide) rfl) (fun ls hl => ?_)
    exact wL_Mo_read_86 Y  gF x0 v5 0 S8 _ hden (lv_sub hl [2, 1, 0] rfl)
  · replace hden := gin hc4 hden
    refine gV.lift (fun _ _ _ _ => lv_iconst (v := 0) hx hb d_Mo_read_70 (by decide)) ?_
    obtain ⟨rfl, rfl⟩ := gpi hden
    exact g_iret X hr d_Mo_read_71
def B_Mo_read_17  (x0 : Nat) (x1 : Int32) (t0 : Int32) (t1 : Nat) (S : gS) : Option (Int32 × gS) := Option.bind (gOb S t1 10) (fun fs3 => gB2 (D_Mo_throwing t1 t0 0 0 S) (fun v2 S1 => (if v2 = 0 then Option.bind (gI S1 x0 10 2) (fun v5 => Option.bind (gPut S1 x0 10 3 (.int v5)) (fun S6 => Option.bind (gPut S6 x0 10 2 (.int 0)) (fun S7 => Option.bind (gOb S7 x0 10) (fun fs9 => Option.bind (D_Mo_readAll x0 S7) (fun S8 => Option.bind (gI S8 x0 10 5) (fun v10 => Option.bind (gI S8 x0 10 7) (fun v11 => (if v11 = 6 then B_Mo_read_64  x0 x1 1 v10 0 x0 S8 else B_Mo_read_64  x0 x1 0 v10 0 x0 S8)))))))) else some (0, S1))))
set_option maxRecDepth 100000 in
set_option maxHeartbeats 4000000 in
theorem w_Mo_read_17 {D : va_G} {cT : Nat → ClassId} {H0 : Heap} {l : Launch} {p : Program} {e : Env} {s : State} {m : MethodId} {args : Array Value} {below : List Frame} {meth : Method} {c : Code} {S0 : gS} {S' : gS} {r : Int32} (Y : gY D cT H0 p s m args meth c prog_12_method_21_code 7 "PlanTextModel" 7 157 S0 (Option.some Jvm.ClassFile.FieldType.int))  (x0 : Nat) (x1 : Int32) (t0 : Int32) (t1 : Nat) (S : gS) (hden : B_Mo_read_17  x0 x1 t0 t1 S = some (r, S')) {ls : Array Slot} (hl : lv_has ls 7 [(0, va_rf (some x0)), (1, .int x1)]) : gV D cT H0 p l e (gRm 7 157 S0) s m args below meth c (gQ D cT H0 below S0 S' (.inr (some (.int r))) s) S0 S (F0 m 17 ls [.int t0, va_rf (some t1)]) := by
  obtain ⟨X, hZ, hex, hr, hE⟩ := id Y
  have hx := X.1
  have hb := X.2.1
  unfold B_Mo_read_17 at hden
  refine gV.lift (fun _ _ _ _ => lv_iconst (v := 0) hx hb d_Mo_read_17 (by decide)) ?_
  refine gV.lift (fun _ _ _ _ => lv_iconst (v := 0) hx hb d_Mo_read_18 (by decide)) ?_
  replace hden := gb hden
  obtain ⟨fs3, ho, hden⟩ := hden
  replace hden := gb2 hden
  obtain ⟨v2, S1, hz, hden⟩ := hden
  refine g_callV (As := [.int t0, .int 0, .int 0]) (rest := []) X hZ (c_Mo_throwing hz) cl_Mo (gOb_spec ho) q_859 q_5 q_856 q_858 qp_26 ⟨by decide, by decide, by show _ = some 3; decide +kernel⟩ ⟨by decide, by decide⟩ hl.1 (Nat.le_of_ble_eq_true rfl) d_Mo_read_19 rfl rfl ?_
  refine gV.lift2 (fun _ _ _ _ => lv_if_eq (tgt := 27) hx hb d_Mo_read_22 (by decide)) (fun hc4 => ?_) (fun hc4 => ?_)
  · replace hden := gip hc4 hden
    refine gV.lift (fun _ _ _ _ => g_aload_n hx hb d_Mo_read_27 rfl (lv_at hl 0 rfl)) ?_
    refine gV.lift (fun _ _ _ _ => g_aload_n hx hb d_Mo_read_28 rfl (lv_at hl 0 rfl)) ?_
    replace hden := gb hden
    obtain ⟨v5, hv, hden⟩ := hden
    refine r_getI X cl_Mo (k := 2) hv (by decide) q_767 d_Mo_read_29 ?_
    replace hden := gb hden
    obtain ⟨S6, hv, hden⟩ := hden
    refine r_put X cl_Mo (k := 3) hv (by decide) q_768 rfl rfl rfl d_Mo_read_32 ?_
    refine gV.lift (fun _ _ _ _ => g_aload_n hx hb d_Mo_read_35 rfl (lv_at hl 0 rfl)) ?_
    refine gV.lift (fun _ _ _ _ => lv_iconst (v := 0) hx hb d_Mo_read_36 (by decide)) ?_
    replace hden := gb hden
    obtain ⟨S7, hv, hden⟩ := hden
    refine r_put X cl_Mo (k := 2) hv (by decide) q_767 rfl rfl rfl d_Mo_read_37 ?_
    refine gV.lift (fun _ _ _ _ => g_aload_n hx hb d_Mo_read_40 rfl (lv_at hl 0 rfl)) ?_
    replace hden := gb hden
    obtain ⟨fs9, ho, hden⟩ := hden
    replace hden := gb hden
    obtain ⟨S8, hz, hden⟩ := hden
    refine g_callV (As := []) (rest := []) X hZ (c_Mo_readAll hz) cl_Mo (gOb_spec ho) q_867 q_5 q_864 q_866 qp_27 ⟨by decide, by decide, by show _ = some 0; decide +kernel⟩ ⟨by decide, by decide⟩ hl.1 (Nat.le_of_ble_eq_true rfl) d_Mo_read_41 rfl rfl ?_
    refine gV.lift (fun _ _ _ _ => g_aload_n hx hb d_Mo_read_44 rfl (lv_at hl 0 rfl)) ?_
    refine gV.lift (fun _ _ _ _ => lv_iconst (v := 0) hx hb d_Mo_read_45 (by decide)) ?_
    refine gV.lift (fun _ _ _ _ => g_aload_n hx hb d_Mo_read_46 rfl (lv_at hl 0 rfl)) ?_
    replace hden := gb hden
    obtain ⟨v10, hv, hden⟩ := hden
    refine r_getI X cl_Mo (k := 5) hv (by decide) q_770 d_Mo_read_47 ?_
    refine gV.lift (fun _ _ _ _ => g_aload_n hx hb d_Mo_read_50 rfl (lv_at hl 0 rfl)) ?_
    replace hden := gb hden
    obtain ⟨v11, hv, hden⟩ := hden
    refine r_getI X cl_Mo (k := 7) hv (by decide) q_772 d_Mo_read_51 ?_
    refine gV.lift (fun _ _ _ _ => lv_bipush (v := 6) hx hb d_Mo_read_54 (by decide)) ?_
    refine gV.lift2 (fun _ _ _ _ => lv_icmp_ne (tgt := 63) hx hb d_Mo_read_56 (by decide)) (fun hc12 => ?_) (fun hc12 => ?_)
    · replace hden := gin hc12 hden
      refine gV.lift (fun _ _ _ _ => lv_iconst (v := 0) hx hb d_Mo_read_63 (by decide)) ?_
      exact w_Mo_read_64 Y  x0 x1 0 v10 0 x0 S8 hden (lv_sub hl [0, 1] rfl)
    · replace hden := gip hc12 hden
      refine gV.lift (fun _ _ _ _ => lv_iconst (v := 1) hx hb d_Mo_read_59 (by decide)) ?_
      refine gV.lift (fun _ _ _ _ => lv_goto (tgt := 64) hx hb d_Mo_read_60 (by decide)) ?_
      exact w_Mo_read_64 Y  x0 x1 1 v10 0 x0 S8 hden (lv_sub hl [0, 1] rfl)
  · replace hden := gin hc4 hden
    refine gV.lift (fun _ _ _ _ => lv_iconst (v := 0) hx hb d_Mo_read_25 (by decide)) ?_
    obtain ⟨rfl, rfl⟩ := gpi hden
    exact g_iret X hr d_Mo_read_26
def D_Mo_read (h0 : Nat) (p0 : Int32) (S : gS) : Option (Int32 × gS) := gB2 (D_Mo_in p0 0 9999 S) (fun v2 S1 => (if v2 = 0 then B_Mo_read_17  h0 p0 1 h0 S1 else B_Mo_read_17  h0 p0 0 h0 S1))
set_option maxRecDepth 100000 in
set_option maxHeartbeats 4000000 in
theorem c_Mo_read {D : va_G} {cT : Nat → ClassId} {H0 : Heap} {l : Launch} {S : gS} {S' : gS} {h0 : Nat} {p0 : Int32} {r : Int32} (hden : D_Mo_read h0 p0 S = some (r, S')) : gM D cT H0 l y_Mo_read (Cond.code y_Mo_read prog_12_method_21_code 7 (Option.some Jvm.ClassFile.FieldType.int)) 7 157 [va_rf (some h0), .int p0] S S' (.inr (some (.int r))) := by
  refine gM.ofV (by decide) ?_
  intro p e s m args below meth c s₁ B hml ea X hZ hex hr hE
  subst ea
  have Y : gY D cT H0 p s m _ meth c prog_12_method_21_code 7 "PlanTextModel" 7 157 S (Option.some Jvm.ClassFile.FieldType.int) := ⟨X, hZ, hex, hr, hE⟩
  have hx := X.1
  have hb := X.2.1
  have hl := lv_entry ([va_rf (some h0), .int p0]) (n := 7) (Nat.le_of_ble_eq_true rfl)
  rw [lg_entry_eq]
  generalize (lg_sl ([va_rf (some h0), .int p0]) ++ List.replicate (7 - (lg_sl ([va_rf (some h0), .int p0])).length) Slot.unset).toArray = ls at hl ⊢
  have hl : lv_has ls 7 [(0, va_rf (some h0)), (1, .int p0)] := hl
  unfold D_Mo_read at hden
  refine gV.lift (fun _ _ _ _ => g_aload_n hx hb d_Mo_read_0 rfl (lv_at hl 0 rfl)) ?_
  refine gV.lift (fun _ _ _ _ => lv_iload_n hx hb d_Mo_read_1 rfl (lv_at hl 1 rfl)) ?_
  refine gV.lift (fun _ _ _ _ => lv_iconst (v := 0) hx hb d_Mo_read_2 (by decide)) ?_
  refine gV.lift (fun _ _ _ _ => lv_sipush (v := 9999) hx hb d_Mo_read_3 (by decide)) ?_
  replace hden := gb2 hden
  obtain ⟨v2, S1, hz, hden⟩ := hden
  refine g_callS (As := [.int p0, .int 0, .int 9999]) (rest := [va_rf (some h0)]) X hZ (c_Mo_in hz) q_855 q_5 q_853 q_854 ⟨by decide, by decide, by show _ = some 3; decide +kernel⟩ ⟨by decide, by decide⟩ hl.1 (Nat.le_of_ble_eq_true rfl) d_Mo_read_6 rfl rfl ?_
  refine gV.lift2 (fun _ _ _ _ => lv_if_ne (tgt := 16) hx hb d_Mo_read_9 (by decide)) (fun hc3 => ?_) (fun hc3 => ?_)
  · replace hden := gin hc3 hden
    refine gV.lift (fun _ _ _ _ => lv_iconst (v := 0) hx hb d_Mo_read_16 (by decide)) ?_
    exact w_Mo_read_17 Y  h0 p0 0 h0 S1 hden (lv_sub hl [0, 1] rfl)
  · replace hden := gip hc3 hden
    refine gV.lift (fun _ _ _ _ => lv_iconst (v := 1) hx hb d_Mo_read_12 (by decide)) ?_
    refine gV.lift (fun _ _ _ _ => lv_goto (tgt := 17) hx hb d_Mo_read_13 (by decide)) ?_
    exact w_Mo_read_17 Y  h0 p0 1 h0 S1 hden (lv_sub hl [0, 1] rfl)
/-! PlanTextModel.place()I -/
abbrev y_Mo_place : MethodName := ⟨"PlanTextModel", "place", "()I"⟩
theorem d_Mo_place_0 : decode prog_12_method_22_code 0 = .ok (.aload_n 0, 1) := by decide +kernel
theorem d_Mo_place_1 : decode prog_12_method_22_code 1 = .ok (.iconst 0, 1) := by decide +kernel
theorem d_Mo_place_2 : decode prog_12_method_22_code 2 = .ok (.putfield 69, 3) := by decide +kernel
theorem d_Mo_place_5 : decode prog_12_method_22_code 5 = .ok (.aload_n 0, 1) := by decide +kernel
theorem d_Mo_place_6 : decode prog_12_method_22_code 6 = .ok (.getfield 13, 3) := by decide +kernel
theorem d_Mo_place_9 : decode prog_12_method_22_code 9 = .ok (.ireturn, 1) := by decide +kernel
def D_Mo_place (h0 : Nat) (S : gS) : Option (Int32 × gS) := Option.bind (gPut S h0 10 0 (.int 0)) (fun S1 => Option.bind (gI S1 h0 10 6) (fun v2 => some (v2, S1)))
set_option maxRecDepth 100000 in
set_option maxHeartbeats 4000000 in
theorem c_Mo_place {D : va_G} {cT : Nat → ClassId} {H0 : Heap} {l : Launch} {S : gS} {S' : gS} {h0 : Nat} {r : Int32} (hden : D_Mo_place h0 S = some (r, S')) : gM D cT H0 l y_Mo_place (Cond.code y_Mo_place prog_12_method_22_code 1 (Option.some Jvm.ClassFile.FieldType.int)) 0 0 [va_rf (some h0)] S S' (.inr (some (.int r))) := by
  refine gM.ofV (by decide) ?_
  intro p e s m args below meth c s₁ B hml ea X hZ hex hr hE
  subst ea
  have Y : gY D cT H0 p s m _ meth c prog_12_method_22_code 1 "PlanTextModel" 0 0 S (Option.some Jvm.ClassFile.FieldType.int) := ⟨X, hZ, hex, hr, hE⟩
  have hx := X.1
  have hb := X.2.1
  have hl := lv_entry ([va_rf (some h0)]) (n := 1) (Nat.le_of_ble_eq_true rfl)
  rw [lg_entry_eq]
  generalize (lg_sl ([va_rf (some h0)]) ++ List.replicate (1 - (lg_sl ([va_rf (some h0)])).length) Slot.unset).toArray = ls at hl ⊢
  have hl : lv_has ls 1 [(0, va_rf (some h0))] := hl
  unfold D_Mo_place at hden
  refine gV.lift (fun _ _ _ _ => g_aload_n hx hb d_Mo_place_0 rfl (lv_at hl 0 rfl)) ?_
  refine gV.lift (fun _ _ _ _ => lv_iconst (v := 0) hx hb d_Mo_place_1 (by decide)) ?_
  replace hden := gb hden
  obtain ⟨S1, hv, hden⟩ := hden
  refine r_put X cl_Mo (k := 0) hv (by decide) q_765 rfl rfl rfl d_Mo_place_2 ?_
  refine gV.lift (fun _ _ _ _ => g_aload_n hx hb d_Mo_place_5 rfl (lv_at hl 0 rfl)) ?_
  replace hden := gb hden
  obtain ⟨v2, hv, hden⟩ := hden
  refine r_getI X cl_Mo (k := 6) hv (by decide) q_771 d_Mo_place_6 ?_
  obtain ⟨rfl, rfl⟩ := gpi hden
  exact g_iret X hr d_Mo_place_9
/-! PlanTextModel.town(II)V -/
abbrev y_Mo_town : MethodName := ⟨"PlanTextModel", "town", "(II)V"⟩
theorem d_Mo_town_0 : decode prog_12_method_23_code 0 = .ok (.aload_n 0, 1) := by decide +kernel
theorem d_Mo_town_1 : decode prog_12_method_23_code 1 = .ok (.iload_n 1, 1) := by decide +kernel
theorem d_Mo_town_2 : decode prog_12_method_23_code 2 = .ok (.iconst 0, 1) := by decide +kernel
theorem d_Mo_town_3 : decode prog_12_method_23_code 3 = .ok (.bipush 7, 2) := by decide +kernel
theorem d_Mo_town_5 : decode prog_12_method_23_code 5 = .ok (.invokestatic 72, 3) := by decide +kernel
theorem d_Mo_town_8 : decode prog_12_method_23_code 8 = .ok (.ifCond .ne 7, 3) := by decide +kernel
theorem d_Mo_town_11 : decode prog_12_method_23_code 11 = .ok (.iconst 1, 1) := by decide +kernel
theorem d_Mo_town_12 : decode prog_12_method_23_code 12 = .ok (.goto 4, 3) := by decide +kernel
theorem d_Mo_town_15 : decode prog_12_method_23_code 15 = .ok (.iconst 0, 1) := by decide +kernel
theorem d_Mo_town_16 : decode prog_12_method_23_code 16 = .ok (.iload_n 2, 1) := by decide +kernel
theorem d_Mo_town_17 : decode prog_12_method_23_code 17 = .ok (.iconst 0, 1) := by decide +kernel
theorem d_Mo_town_18 : decode prog_12_method_23_code 18 = .ok (.bipush 99, 2) := by decide +kernel
theorem d_Mo_town_20 : decode prog_12_method_23_code 20 = .ok (.invokestatic 72, 3) := by decide +kernel
theorem d_Mo_town_23 : decode prog_12_method_23_code 23 = .ok (.ifCond .ne 7, 3) := by decide +kernel
theorem d_Mo_town_26 : decode prog_12_method_23_code 26 = .ok (.iconst 1, 1) := by decide +kernel
theorem d_Mo_town_27 : decode prog_12_method_23_code 27 = .ok (.goto 4, 3) := by decide +kernel
theorem d_Mo_town_30 : decode prog_12_method_23_code 30 = .ok (.iconst 0, 1) := by decide +kernel
theorem d_Mo_town_31 : decode prog_12_method_23_code 31 = .ok (.iconst 0, 1) := by decide +kernel
theorem d_Mo_town_32 : decode prog_12_method_23_code 32 = .ok (.invokevirtual 79, 3) := by decide +kernel
theorem d_Mo_town_35 : decode prog_12_method_23_code 35 = .ok (.ifCond .eq 4, 3) := by decide +kernel
theorem d_Mo_town_38 : decode prog_12_method_23_code 38 = .ok (.return_, 1) := by decide +kernel
theorem d_Mo_town_39 : decode prog_12_method_23_code 39 = .ok (.aload_n 0, 1) := by decide +kernel
theorem d_Mo_town_40 : decode prog_12_method_23_code 40 = .ok (.getfield 57, 3) := by decide +kernel
theorem d_Mo_town_43 : decode prog_12_method_23_code 43 = .ok (.iload_n 1, 1) := by decide +kernel
theorem d_Mo_town_44 : decode prog_12_method_23_code 44 = .ok (.iload_n 2, 1) := by decide +kernel
theorem d_Mo_town_45 : decode prog_12_method_23_code 45 = .ok (.iastore, 1) := by decide +kernel
theorem d_Mo_town_46 : decode prog_12_method_23_code 46 = .ok (.return_, 1) := by decide +kernel
def B_Mo_town_31  (x0 : Nat) (x1 : Int32) (x2 : Int32) (t0 : Int32) (t1 : Int32) (t2 : Nat) (S : gS) : Option gS := Option.bind (gOb S t2 10) (fun fs3 => gB2 (D_Mo_throwing t2 t1 t0 0 S) (fun v2 S1 => (if v2 = 0 then Option.bind (gRf S1 x0 10 22) (fun r5 => Option.bind r5 (fun a6 => Option.bind (gSI S1 a6 0 x1 x2) (fun S7 => some S7))) else some S1)))
set_option maxRecDepth 100000 in
set_option maxHeartbeats 4000000 in
theorem w_Mo_town_31 {D : va_G} {cT : Nat → ClassId} {H0 : Heap} {l : Launch} {p : Program} {e : Env} {s : State} {m : MethodId} {args : Array Value} {below : List Frame} {meth : Method} {c : Code} {S0 : gS} {S' : gS} (Y : gY D cT H0 p s m args meth c prog_12_method_23_code 3 "PlanTextModel" 1 23 S0 (Option.none : Option Jvm.ClassFile.FieldType))  (x0 : Nat) (x1 : Int32) (x2 : Int32) (t0 : Int32) (t1 : Int32) (t2 : Nat) (S : gS) (hden : B_Mo_town_31  x0 x1 x2 t0 t1 t2 S = some S') {ls : Array Slot} (hl : lv_has ls 3 [(0, va_rf (some x0)), (1, .int x1), (2, .int x2)]) : gV D cT H0 p l e (gRm 1 23 S0) s m args below meth c (gQ D cT H0 below S0 S' (.inr none) s) S0 S (F0 m 31 ls [.int t0, .int t1, va_rf (some t2)]) := by
  obtain ⟨X, hZ, hex, hr, hE⟩ := id Y
  have hx := X.1
  have hb := X.2.1
  unfold B_Mo_town_31 at hden
  refine gV.lift (fun _ _ _ _ => lv_iconst (v := 0) hx hb d_Mo_town_31 (by decide)) ?_
  replace hden := gb hden
  obtain ⟨fs3, ho, hden⟩ := hden
  replace hden := gb2 hden
  obtain ⟨v2, S1, hz, hden⟩ := hden
  refine g_callV (As := [.int t1, .int t0, .int 0]) (rest := []) X hZ (c_Mo_throwing hz) cl_Mo (gOb_spec ho) q_859 q_5 q_856 q_858 qp_26 ⟨by decide, by decide, by show _ = some 3; decide +kernel⟩ ⟨by decide, by decide⟩ hl.1 (Nat.le_of_ble_eq_true rfl) d_Mo_town_32 rfl rfl ?_
  refine gV.lift2 (fun _ _ _ _ => lv_if_eq (tgt := 39) hx hb d_Mo_town_35 (by decide)) (fun hc4 => ?_) (fun hc4 => ?_)
  · replace hden := gip hc4 hden
    refine gV.lift (fun _ _ _ _ => g_aload_n hx hb d_Mo_town_39 rfl (lv_at hl 0 rfl)) ?_
    replace hden := gb hden
    obtain ⟨r5, hv, hden⟩ := hden
    refine r_getR X cl_Mo (k := 22) hv (by decide) q_787 d_Mo_town_40 ?_
    refine gV.lift (fun _ _ _ _ => lv_iload_n hx hb d_Mo_town_43 rfl (lv_at hl 1 rfl)) ?_
    refine gV.lift (fun _ _ _ _ => lv_iload_n hx hb d_Mo_town_44 rfl (lv_at hl 2 rfl)) ?_
    replace hden := gb hden
    obtain ⟨a6, rfl, hden⟩ := hden
    replace hden := gb hden
    obtain ⟨S7, hv, hden⟩ := hden
    refine r_iast X (t := 0) rfl hv d_Mo_town_45 ?_
    obtain rfl := gsi hden
    exact g_vret X hr d_Mo_town_46
  · replace hden := gin hc4 hden
    obtain rfl := gsi hden
    exact g_vret X hr d_Mo_town_38
def B_Mo_town_16  (x0 : Nat) (x1 : Int32) (x2 : Int32) (t0 : Int32) (t1 : Nat) (S : gS) : Option gS := gB2 (D_Mo_in x2 0 99 S) (fun v2 S1 => (if v2 = 0 then B_Mo_town_31  x0 x1 x2 1 t0 t1 S1 else B_Mo_town_31  x0 x1 x2 0 t0 t1 S1))
set_option maxRecDepth 100000 in
set_option maxHeartbeats 4000000 in
theorem w_Mo_town_16 {D : va_G} {cT : Nat → ClassId} {H0 : Heap} {l : Launch} {p : Program} {e : Env} {s : State} {m : MethodId} {args : Array Value} {below : List Frame} {meth : Method} {c : Code} {S0 : gS} {S' : gS} (Y : gY D cT H0 p s m args meth c prog_12_method_23_code 3 "PlanTextModel" 1 23 S0 (Option.none : Option Jvm.ClassFile.FieldType))  (x0 : Nat) (x1 : Int32) (x2 : Int32) (t0 : Int32) (t1 : Nat) (S : gS) (hden : B_Mo_town_16  x0 x1 x2 t0 t1 S = some S') {ls : Array Slot} (hl : lv_has ls 3 [(0, va_rf (some x0)), (1, .int x1), (2, .int x2)]) : gV D cT H0 p l e (gRm 1 23 S0) s m args below meth c (gQ D cT H0 below S0 S' (.inr none) s) S0 S (F0 m 16 ls [.int t0, va_rf (some t1)]) := by
  obtain ⟨X, hZ, hex, hr, hE⟩ := id Y
  have hx := X.1
  have hb := X.2.1
  unfold B_Mo_town_16 at hden
  refine gV.lift (fun _ _ _ _ => lv_iload_n hx hb d_Mo_town_16 rfl (lv_at hl 2 rfl)) ?_
  refine gV.lift (fun _ _ _ _ => lv_iconst (v := 0) hx hb d_Mo_town_17 (by decide)) ?_
  refine gV.lift (fun _ _ _ _ => lv_bipush (v := 99) hx hb d_Mo_town_18 (by decide)) ?_
  replace hden := gb2 hden
  obtain ⟨v2, S1, hz, hden⟩ := hden
  refine g_callS (As := [.int x2, .int 0, .int 99]) (rest := [.int t0, va_rf (some t1)]) X hZ (c_Mo_in hz) q_855 q_5 q_853 q_854 ⟨by decide, by decide, by show _ = some 3; decide +kernel⟩ ⟨by decide, by decide⟩ hl.1 (Nat.le_of_ble_eq_true rfl) d_Mo_town_20 rfl rfl ?_
  refine gV.lift2 (fun _ _ _ _ => lv_if_ne (tgt := 30) hx hb d_Mo_town_23 (by decide)) (fun hc3 => ?_) (fun hc3 => ?_)
  · replace hden := gin hc3 hden
    refine gV.lift (fun _ _ _ _ => lv_iconst (v := 0) hx hb d_Mo_town_30 (by decide)) ?_
    exact w_Mo_town_31 Y  x0 x1 x2 0 t0 t1 S1 hden (lv_sub hl [0, 1, 2] rfl)
  · replace hden := gip hc3 hden
    refine gV.lift (fun _ _ _ _ => lv_iconst (v := 1) hx hb d_Mo_town_26 (by decide)) ?_
    refine gV.lift (fun _ _ _ _ => lv_goto (tgt := 31) hx hb d_Mo_town_27 (by decide)) ?_
    exact w_Mo_town_31 Y  x0 x1 x2 1 t0 t1 S1 hden (lv_sub hl [0, 1, 2] rfl)
def D_Mo_town (h0 : Nat) (p0 : Int32) (p1 : Int32) (S : gS) : Option gS := gB2 (D_Mo_in p0 0 7 S) (fun v2 S1 => (if v2 = 0 then B_Mo_town_16  h0 p0 p1 1 h0 S1 else B_Mo_town_16  h0 p0 p1 0 h0 S1))
set_option maxRecDepth 100000 in
set_option maxHeartbeats 4000000 in
theorem c_Mo_town {D : va_G} {cT : Nat → ClassId} {H0 : Heap} {l : Launch} {S : gS} {S' : gS} {h0 : Nat} {p0 : Int32} {p1 : Int32} (hden : D_Mo_town h0 p0 p1 S = some S') : gM D cT H0 l y_Mo_town (Cond.code y_Mo_town prog_12_method_23_code 3 (Option.none : Option Jvm.ClassFile.FieldType)) 1 23 [va_rf (some h0), .int p0, .int p1] S S' (.inr none) := by
  refine gM.ofV (by decide) ?_
  intro p e s m args below meth c s₁ B hml ea X hZ hex hr hE
  subst ea
  have Y : gY D cT H0 p s m _ meth c prog_12_method_23_code 3 "PlanTextModel" 1 23 S (Option.none : Option Jvm.ClassFile.FieldType) := ⟨X, hZ, hex, hr, hE⟩
  have hx := X.1
  have hb := X.2.1
  have hl := lv_entry ([va_rf (some h0), .int p0, .int p1]) (n := 3) (Nat.le_of_ble_eq_true rfl)
  rw [lg_entry_eq]
  generalize (lg_sl ([va_rf (some h0), .int p0, .int p1]) ++ List.replicate (3 - (lg_sl ([va_rf (some h0), .int p0, .int p1])).length) Slot.unset).toArray = ls at hl ⊢
  have hl : lv_has ls 3 [(0, va_rf (some h0)), (1, .int p0), (2, .int p1)] := hl
  unfold D_Mo_town at hden
  refine gV.lift (fun _ _ _ _ => g_aload_n hx hb d_Mo_town_0 rfl (lv_at hl 0 rfl)) ?_
  refine gV.lift (fun _ _ _ _ => lv_iload_n hx hb d_Mo_town_1 rfl (lv_at hl 1 rfl)) ?_
  refine gV.lift (fun _ _ _ _ => lv_iconst (v := 0) hx hb d_Mo_town_2 (by decide)) ?_
  refine gV.lift (fun _ _ _ _ => lv_bipush (v := 7) hx hb d_Mo_town_3 (by decide)) ?_
  replace hden := gb2 hden
  obtain ⟨v2, S1, hz, hden⟩ := hden
  refine g_callS (As := [.int p0, .int 0, .int 7]) (rest := [va_rf (some h0)]) X hZ (c_Mo_in hz) q_855 q_5 q_853 q_854 ⟨by decide, by decide, by show _ = some 3; decide +kernel⟩ ⟨by decide, by decide⟩ hl.1 (Nat.le_of_ble_eq_true rfl) d_Mo_town_5 rfl rfl ?_
  refine gV.lift2 (fun _ _ _ _ => lv_if_ne (tgt := 15) hx hb d_Mo_town_8 (by decide)) (fun hc3 => ?_) (fun hc3 => ?_)
  · replace hden := gin hc3 hden
    refine gV.lift (fun _ _ _ _ => lv_iconst (v := 0) hx hb d_Mo_town_15 (by decide)) ?_
    exact w_Mo_town_16 Y  h0 p0 p1 0 h0 S1 hden (lv_sub hl [0, 1, 2] rfl)
  · replace hden := gip hc3 hden
    refine gV.lift (fun _ _ _ _ => lv_iconst (v := 1) hx hb d_Mo_town_11 (by decide)) ?_
    refine gV.lift (fun _ _ _ _ => lv_goto (tgt := 16) hx hb d_Mo_town_12 (by decide)) ?_
    exact w_Mo_town_16 Y  h0 p0 p1 1 h0 S1 hden (lv_sub hl [0, 1, 2] rfl)
/-! PlanTextModel.isDay(I)Z -/
abbrev y_Mo_isDay : MethodName := ⟨"PlanTextModel", "isDay", "(I)Z"⟩
theorem d_Mo_isDay_0 : decode prog_12_method_24_code 0 = .ok (.iload_n 0, 1) := by decide +kernel
theorem d_Mo_isDay_1 : decode prog_12_method_24_code 1 = .ok (.iconst 0, 1) := by decide +kernel
theorem d_Mo_isDay_2 : decode prog_12_method_24_code 2 = .ok (.sipush 9999, 3) := by decide +kernel
theorem d_Mo_isDay_5 : decode prog_12_method_24_code 5 = .ok (.invokestatic 72, 3) := by decide +kernel
theorem d_Mo_isDay_8 : decode prog_12_method_24_code 8 = .ok (.ireturn, 1) := by decide +kernel
def D_Mo_isDay (p0 : Int32) (S : gS) : Option (Int32 × gS) := gB2 (D_Mo_in p0 0 9999 S) (fun v2 S1 => Option.bind (gZo v2) (fun v3 => some (v3, S1)))
set_option maxRecDepth 100000 in
set_option maxHeartbeats 4000000 in
theorem c_Mo_isDay {D : va_G} {cT : Nat → ClassId} {H0 : Heap} {l : Launch} {S : gS} {S' : gS} {p0 : Int32} {r : Int32} (hden : D_Mo_isDay p0 S = some (r, S')) : gM D cT H0 l y_Mo_isDay (Cond.code y_Mo_isDay prog_12_method_24_code 1 (Option.some Jvm.ClassFile.FieldType.boolean)) 1 22 [.int p0] S S' (.inr (some (.int r))) := by
  refine gM.ofV (by decide) ?_
  intro p e s m args below meth c s₁ B hml ea X hZ hex hr hE
  subst ea
  have Y : gY D cT H0 p s m _ meth c prog_12_method_24_code 1 "PlanTextModel" 1 22 S (Option.some Jvm.ClassFile.FieldType.boolean) := ⟨X, hZ, hex, hr, hE⟩
  have hx := X.1
  have hb := X.2.1
  have hl := lv_entry ([.int p0]) (n := 1) (Nat.le_of_ble_eq_true rfl)
  rw [lg_entry_eq]
  generalize (lg_sl ([.int p0]) ++ List.replicate (1 - (lg_sl ([.int p0])).length) Slot.unset).toArray = ls at hl ⊢
  have hl : lv_has ls 1 [(0, .int p0)] := hl
  unfold D_Mo_isDay at hden
  refine gV.lift (fun _ _ _ _ => lv_iload_n hx hb d_Mo_isDay_0 rfl (lv_at hl 0 rfl)) ?_
  refine gV.lift (fun _ _ _ _ => lv_iconst (v := 0) hx hb d_Mo_isDay_1 (by decide)) ?_
  refine gV.lift (fun _ _ _ _ => lv_sipush (v := 9999) hx hb d_Mo_isDay_2 (by decide)) ?_
  replace hden := gb2 hden
  obtain ⟨v2, S1, hz, hden⟩ := hden
  refine g_callS (As := [.int p0, .int 0, .int 9999]) (rest := []) X hZ (c_Mo_in hz) q_855 q_5 q_853 q_854 ⟨by decide, by decide, by show _ = some 3; decide +kernel⟩ ⟨by decide, by decide⟩ hl.1 (Nat.le_of_ble_eq_true rfl) d_Mo_isDay_5 rfl rfl ?_
  replace hden := gb hden
  obtain ⟨v3, hz, hden⟩ := hden
  obtain ⟨rfl, hz2, -⟩ := gZo_spec hz
  obtain ⟨rfl, rfl⟩ := gpi hden
  exact g_zret X hr hz2 d_Mo_isDay_8
/-! PlanTextModel.editionOf(I)I -/
abbrev y_Mo_editionOf : MethodName := ⟨"PlanTextModel", "editionOf", "(I)I"⟩
theorem d_Mo_editionOf_0 : decode prog_12_method_25_code 0 = .ok (.iconst (-1), 1) := by decide +kernel
theorem d_Mo_editionOf_1 : decode prog_12_method_25_code 1 = .ok (.istore_n 2, 1) := by decide +kernel
theorem d_Mo_editionOf_2 : decode prog_12_method_25_code 2 = .ok (.iconst 0, 1) := by decide +kernel
theorem d_Mo_editionOf_3 : decode prog_12_method_25_code 3 = .ok (.istore_n 3, 1) := by decide +kernel
theorem d_Mo_editionOf_4 : decode prog_12_method_25_code 4 = .ok (.iload_n 3, 1) := by decide +kernel
theorem d_Mo_editionOf_5 : decode prog_12_method_25_code 5 = .ok (.aload_n 0, 1) := by decide +kernel
theorem d_Mo_editionOf_6 : decode prog_12_method_25_code 6 = .ok (.getfield 139, 3) := by decide +kernel
theorem d_Mo_editionOf_9 : decode prog_12_method_25_code 9 = .ok (.if_icmp .ge 40, 3) := by decide +kernel
theorem d_Mo_editionOf_12 : decode prog_12_method_25_code 12 = .ok (.aload_n 0, 1) := by decide +kernel
theorem d_Mo_editionOf_13 : decode prog_12_method_25_code 13 = .ok (.getfield 17, 3) := by decide +kernel
theorem d_Mo_editionOf_16 : decode prog_12_method_25_code 16 = .ok (.iload_n 3, 1) := by decide +kernel
theorem d_Mo_editionOf_17 : decode prog_12_method_25_code 17 = .ok (.iaload, 1) := by decide +kernel
theorem d_Mo_editionOf_18 : decode prog_12_method_25_code 18 = .ok (.iload_n 1, 1) := by decide +kernel
theorem d_Mo_editionOf_19 : decode prog_12_method_25_code 19 = .ok (.if_icmp .gt 24, 3) := by decide +kernel
theorem d_Mo_editionOf_22 : decode prog_12_method_25_code 22 = .ok (.iload_n 2, 1) := by decide +kernel
theorem d_Mo_editionOf_23 : decode prog_12_method_25_code 23 = .ok (.ifCond .lt 18, 3) := by decide +kernel
theorem d_Mo_editionOf_26 : decode prog_12_method_25_code 26 = .ok (.aload_n 0, 1) := by decide +kernel
theorem d_Mo_editionOf_27 : decode prog_12_method_25_code 27 = .ok (.getfield 17, 3) := by decide +kernel
theorem d_Mo_editionOf_30 : decode prog_12_method_25_code 30 = .ok (.iload_n 3, 1) := by decide +kernel
theorem d_Mo_editionOf_31 : decode prog_12_method_25_code 31 = .ok (.iaload, 1) := by decide +kernel
theorem d_Mo_editionOf_32 : decode prog_12_method_25_code 32 = .ok (.aload_n 0, 1) := by decide +kernel
theorem d_Mo_editionOf_33 : decode prog_12_method_25_code 33 = .ok (.getfield 17, 3) := by decide +kernel
theorem d_Mo_editionOf_36 : decode prog_12_method_25_code 36 = .ok (.iload_n 2, 1) := by decide +kernel
theorem d_Mo_editionOf_37 : decode prog_12_method_25_code 37 = .ok (.iaload, 1) := by decide +kernel
theorem d_Mo_editionOf_38 : decode prog_12_method_25_code 38 = .ok (.if_icmp .lt 5, 3) := by decide +kernel
theorem d_Mo_editionOf_41 : decode prog_12_method_25_code 41 = .ok (.iload_n 3, 1) := by decide +kernel
theorem d_Mo_editionOf_42 : decode prog_12_method_25_code 42 = .ok (.istore_n 2, 1) := by decide +kernel
theorem d_Mo_editionOf_43 : decode prog_12_method_25_code 43 = .ok (.iinc 3 1, 3) := by decide +kernel
theorem d_Mo_editionOf_46 : decode prog_12_method_25_code 46 = .ok (.goto (-42), 3) := by decide +kernel
theorem d_Mo_editionOf_49 : decode prog_12_method_25_code 49 = .ok (.iload_n 2, 1) := by decide +kernel
theorem d_Mo_editionOf_50 : decode prog_12_method_25_code 50 = .ok (.ireturn, 1) := by decide +kernel
def B_Mo_editionOf_43 (k4 : Nat → Int32 → Int32 → Int32 → gS → Option (Int32 × gS)) (x0 : Nat) (x1 : Int32) (x2 : Int32) (x3 : Int32) (S : gS) : Option (Int32 × gS) := k4 x0 x1 x2 (x3 + 1) S
set_option maxRecDepth 100000 in
set_option maxHeartbeats 4000000 in
theorem w_Mo_editionOf_43 {D : va_G} {cT : Nat → ClassId} {H0 : Heap} {l : Launch} {p : Program} {e : Env} {s : State} {m : MethodId} {args : Array Value} {below : List Frame} {meth : Method} {c : Code} {S0 : gS} {S' : gS} {r : Int32} (Y : gY D cT H0 p s m args meth c prog_12_method_25_code 4 "PlanTextModel" 0 0 S0 (Option.some Jvm.ClassFile.FieldType.int)) {k4 : Nat → Int32 → Int32 → Int32 → gS → Option (Int32 × gS)} (hk4 : ∀ (x0 : Nat) (x1 : Int32) (x2 : Int32) (x3 : Int32) (S : gS) (ls : Array Slot), k4 x0 x1 x2 x3 S = some (r, S') → lv_has ls 4 [(0, va_rf (some x0)), (1, .int x1), (2, .int x2), (3, .int x3)] → gV D cT H0 p l e (gRm 0 0 S0) s m args below meth c (gQ D cT H0 below S0 S' (.inr (some (.int r))) s) S0 S (F0 m 4 ls [])) (x0 : Nat) (x1 : Int32) (x2 : Int32) (x3 : Int32) (S : gS) (hden : B_Mo_editionOf_43 k4 x0 x1 x2 x3 S = some (r, S')) {ls : Array Slot} (hl : lv_has ls 4 [(0, va_rf (some x0)), (1, .int x1), (2, .int x2), (3, .int x3)]) : gV D cT H0 p l e (gRm 0 0 S0) s m args below meth c (gQ D cT H0 below S0 S' (.inr (some (.int r))) s) S0 S (F0 m 43 ls []) := by
  obtain ⟨X, hZ, hex, hr, hE⟩ := id Y
  have hx := X.1
  have hb := X.2.1
  unfold B_Mo_editionOf_43 at hden
  refine gV.liftS (nL := 4) (lv' := [(3, .int (x3 + 1)), (0, va_rf (some x0)), (1, .int x1), (2, .int x2)]) (fun _ _ _ _ => lv_iinc (v := (x3 + 1)) hx hb d_Mo_editionOf_43 hl (k := 3) rfl rfl (by decide) rfl) (fun ls hl => ?_)
  refine gV.lift (fun _ _ _ _ => lv_goto (tgt := 4) hx hb d_Mo_editionOf_46 (by decide)) ?_
  exact hk4 x0 x1 x2 (x3 + 1) S _ hden (lv_sub hl [1, 2, 3, 0] rfl)
def B_Mo_editionOf_41 (k4 : Nat → Int32 → Int32 → Int32 → gS → Option (Int32 × gS)) (x0 : Nat) (x1 : Int32) (x3 : Int32) (S : gS) : Option (Int32 × gS) := B_Mo_editionOf_43 k4 x0 x1 x3 x3 S
set_option maxRecDepth 100000 in
set_option maxHeartbeats 4000000 in
theorem w_Mo_editionOf_41 {D : va_G} {cT : Nat → ClassId} {H0 : Heap} {l : Launch} {p : Program} {e : Env} {s : State} {m : MethodId} {args : Array Value} {below : List Frame} {meth : Method} {c : Code} {S0 : gS} {S' : gS} {r : Int32} (Y : gY D cT H0 p s m args meth c prog_12_method_25_code 4 "PlanTextModel" 0 0 S0 (Option.some Jvm.ClassFile.FieldType.int)) {k4 : Nat → Int32 → Int32 → Int32 → gS → Option (Int32 × gS)} (hk4 : ∀ (x0 : Nat) (x1 : Int32) (x2 : Int32) (x3 : Int32) (S : gS) (ls : Array Slot), k4 x0 x1 x2 x3 S = some (r, S') → lv_has ls 4 [(0, va_rf (some x0)), (1, .int x1), (2, .int x2), (3, .int x3)] → gV D cT H0 p l e (gRm 0 0 S0) s m args below meth c (gQ D cT H0 below S0 S' (.inr (some (.int r))) s) S0 S (F0 m 4 ls [])) (x0 : Nat) (x1 : Int32) (x3 : Int32) (S : gS) (hden : B_Mo_editionOf_41 k4 x0 x1 x3 S = some (r, S')) {ls : Array Slot} (hl : lv_has ls 4 [(0, va_rf (some x0)), (1, .int x1), (3, .int x3)]) : gV D cT H0 p l e (gRm 0 0 S0) s m args below meth c (gQ D cT H0 below S0 S' (.inr (some (.int r))) s) S0 S (F0 m 41 ls []) := by
  obtain ⟨X, hZ, hex, hr, hE⟩ := id Y
  have hx := X.1
  have hb := X.2.1
  unfold B_Mo_editionOf_41 at hden
  refine gV.lift (fun _ _ _ _ => lv_iload_n hx hb d_Mo_editionOf_41 rfl (lv_at hl 2 rfl)) ?_
  refine gV.liftS (nL := 4) (lv' := [(2, .int x3), (0, va_rf (some x0)), (1, .int x1), (3, .int x3)]) (fun _ _ _ _ => lv_istore_n hx hb d_Mo_editionOf_42 rfl hl (by decide) rfl) (fun ls hl => ?_)
  exact w_Mo_editionOf_43 Y hk4 x0 x1 x3 x3 S hden (lv_sub hl [1, 2, 0, 3] rfl)
def B_Mo_editionOf_4 (k4 : Nat → Int32 → Int32 → Int32 → gS → Option (Int32 × gS)) (x0 : Nat) (x1 : Int32) (x2 : Int32) (x3 : Int32) (S : gS) : Option (Int32 × gS) := Option.bind (gI S x0 10 7) (fun v1 => (if v1 ≤ x3 then some (x2, S) else Option.bind (gRf S x0 10 9) (fun r3 => Option.bind r3 (fun a4 => Option.bind (gAI S a4 0 x3) (fun v5 => (if x1 < v5 then B_Mo_editionOf_43 k4 x0 x1 x2 x3 S else (if x2 < 0 then B_Mo_editionOf_41 k4 x0 x1 x3 S else Option.bind (gRf S x0 10 9) (fun r8 => Option.bind r8 (fun a9 => Option.bind (gAI S a9 0 x3) (fun v10 => Option.bind (gRf S x0 10 9) (fun r11 => Option.bind r11 (fun a12 => Option.bind (gAI S a12 0 x2) (fun v13 => (if v10 < v13 then B_Mo_editionOf_43 k4 x0 x1 x2 x3 S else B_Mo_editionOf_41 k4 x0 x1 x3 S))))))))))))))
set_option maxRecDepth 100000 in
set_option maxHeartbeats 4000000 in
theorem w_Mo_editionOf_4 {D : va_G} {cT : Nat → ClassId} {H0 : Heap} {l : Launch} {p : Program} {e : Env} {s : State} {m : MethodId} {args : Array Value} {below : List Frame} {meth : Method} {c : Code} {S0 : gS} {S' : gS} {r : Int32} (Y : gY D cT H0 p s m args meth c prog_12_method_25_code 4 "PlanTextModel" 0 0 S0 (Option.some Jvm.ClassFile.FieldType.int)) {k4 : Nat → Int32 → Int32 → Int32 → gS → Option (Int32 × gS)} (hk4 : ∀ (x0 : Nat) (x1 : Int32) (x2 : Int32) (x3 : Int32) (S : gS) (ls : Array Slot), k4 x0 x1 x2 x3 S = some (r, S') → lv_has ls 4 [(0, va_rf (some x0)), (1, .int x1), (2, .int x2), (3, .int x3)] → gV D cT H0 p l e (gRm 0 0 S0) s m args below meth c (gQ D cT H0 below S0 S' (.inr (some (.int r))) s) S0 S (F0 m 4 ls [])) (x0 : Nat) (x1 : Int32) (x2 : Int32) (x3 : Int32) (S : gS) (hden : B_Mo_editionOf_4 k4 x0 x1 x2 x3 S = some (r, S')) {ls : Array Slot} (hl : lv_has ls 4 [(0, va_rf (some x0)), (1, .int x1), (2, .int x2), (3, .int x3)]) : gV D cT H0 p l e (gRm 0 0 S0) s m args below meth c (gQ D cT H0 below S0 S' (.inr (some (.int r))) s) S0 S (F0 m 4 ls []) := by
  obtain ⟨X, hZ, hex, hr, hE⟩ := id Y
  have hx := X.1
  have hb := X.2.1
  unfold B_Mo_editionOf_4 at hden
  refine gV.lift (fun _ _ _ _ => lv_iload_n hx hb d_Mo_editionOf_4 rfl (lv_at hl 3 rfl)) ?_
  refine gV.lift (fun _ _ _ _ => g_aload_n hx hb d_Mo_editionOf_5 rfl (lv_at hl 0 rfl)) ?_
  replace hden := gb hden
  obtain ⟨v1, hv, hden⟩ := hden
  refine r_getI X cl_Mo (k := 7) hv (by decide) q_772 d_Mo_editionOf_6 ?_
  refine gV.lift2 (fun _ _ _ _ => lv_icmp_ge (tgt := 49) hx hb d_Mo_editionOf_9 (by decide)) (fun hc2 => ?_) (fun hc2 => ?_)
  · replace hden := gip hc2 hden
    refine gV.lift (fun _ _ _ _ => lv_iload_n hx hb d_Mo_editionOf_49 rfl (lv_at hl 2 rfl)) ?_
    obtain ⟨rfl, rfl⟩ := gpi hden
    exact g_iret X hr d_Mo_editionOf_50
  · replace hden := gin hc2 hden
    refine gV.lift (fun _ _ _ _ => g_aload_n hx hb d_Mo_editionOf_12 rfl (lv_at hl 0 rfl)) ?_
    replace hden := gb hden
    obtain ⟨r3, hv, hden⟩ := hden
    refine r_getR X cl_Mo (k := 9) hv (by decide) q_774 d_Mo_editionOf_13 ?_
    refine gV.lift (fun _ _ _ _ => lv_iload_n hx hb d_Mo_editionOf_16 rfl (lv_at hl 3 rfl)) ?_
    replace hden := gb hden
    obtain ⟨a4, rfl, hden⟩ := hden
    replace hden := gb hden
    obtain ⟨v5, hv, hden⟩ := hden
    refine r_iald X (t := 0) rfl hv d_Mo_editionOf_17 ?_
    refine gV.lift (fun _ _ _ _ => lv_iload_n hx hb d_Mo_editionOf_18 rfl (lv_at hl 1 rfl)) ?_
    refine gV.lift2 (fun _ _ _ _ => lv_icmp_gt (tgt := 43) hx hb d_Mo_editionOf_19 (by decide)) (fun hc6 => ?_) (fun hc6 => ?_)
    · replace hden := gip hc6 hden
      exact w_Mo_editionOf_43 Y hk4 x0 x1 x2 x3 S hden (lv_sub hl [0, 1, 2, 3] rfl)
    · replace hden := gin hc6 hden
      refine gV.lift (fun _ _ _ _ => lv_iload_n hx hb d_Mo_editionOf_22 rfl (lv_at hl 2 rfl)) ?_
      refine gV.lift2 (fun _ _ _ _ => lv_if_lt (tgt := 41) hx hb d_Mo_editionOf_23 (by decide)) (fun hc7 => ?_) (fun hc7 => ?_)
      · replace hden := gip hc7 hden
        exact w_Mo_editionOf_41 Y hk4 x0 x1 x3 S hden (lv_sub hl [0, 1, 3] rfl)
      · replace hden := gin hc7 hden
        refine gV.lift (fun _ _ _ _ => g_aload_n hx hb d_Mo_editionOf_26 rfl (lv_at hl 0 rfl)) ?_
        replace hden := gb hden
        obtain ⟨r8, hv, hden⟩ := hden
        refine r_getR X cl_Mo (k := 9) hv (by decide) q_774 d_Mo_editionOf_27 ?_
        refine gV.lift (fun _ _ _ _ => lv_iload_n hx hb d_Mo_editionOf_30 rfl (lv_at hl 3 rfl)) ?_
        replace hden := gb hden
        obtain ⟨a9, rfl, hden⟩ := hden
        replace hden := gb hden
        obtain ⟨v10, hv, hden⟩ := hden
        refine r_iald X (t := 0) rfl hv d_Mo_editionOf_31 ?_
        refine gV.lift (fun _ _ _ _ => g_aload_n hx hb d_Mo_editionOf_32 rfl (lv_at hl 0 rfl)) ?_
        replace hden := gb hden
        obtain ⟨r11, hv, hden⟩ := hden
        refine r_getR X cl_Mo (k := 9) hv (by decide) q_774 d_Mo_editionOf_33 ?_
        refine gV.lift (fun _ _ _ _ => lv_iload_n hx hb d_Mo_editionOf_36 rfl (lv_at hl 2 rfl)) ?_
        replace hden := gb hden
        obtain ⟨a12, rfl, hden⟩ := hden
        replace hden := gb hden
        obtain ⟨v13, hv, hden⟩ := hden
        refine r_iald X (t := 0) rfl hv d_Mo_editionOf_37 ?_
        refine gV.lift2 (fun _ _ _ _ => lv_icmp_lt (tgt := 43) hx hb d_Mo_editionOf_38 (by decide)) (fun hc14 => ?_) (fun hc14 => ?_)
        · replace hden := gip hc14 hden
          exact w_Mo_editionOf_43 Y hk4 x0 x1 x2 x3 S hden (lv_sub hl [0, 1, 2, 3] rfl)
        · replace hden := gin hc14 hden
          exact w_Mo_editionOf_41 Y hk4 x0 x1 x3 S hden (lv_sub hl [0, 1, 3] rfl)
def L_Mo_editionOf_4  : Nat → Nat → Int32 → Int32 → Int32 → gS → Option (Int32 × gS)
  | 0 => fun _ _ _ _ _ => none
  | n + 1 => fun x0 x1 x2 x3 S => B_Mo_editionOf_4  (L_Mo_editionOf_4  n) x0 x1 x2 x3 S
theorem wL_Mo_editionOf_4 {D : va_G} {cT : Nat → ClassId} {H0 : Heap} {l : Launch} {p : Program} {e : Env} {s : State} {m : MethodId} {args : Array Value} {below : List Frame} {meth : Method} {c : Code} {S0 : gS} {S' : gS} {r : Int32} (Y : gY D cT H0 p s m args meth c prog_12_method_25_code 4 "PlanTextModel" 0 0 S0 (Option.some Jvm.ClassFile.FieldType.int))  : ∀ (n : Nat) (x0 : Nat) (x1 : Int32) (x2 : Int32) (x3 : Int32) (S : gS) (ls : Array Slot), L_Mo_editionOf_4  n x0 x1 x2 x3 S = some (r, S') → lv_has ls 4 [(0, va_rf (some x0)), (1, .int x1), (2, .int x2), (3, .int x3)] → gV D cT H0 p l e (gRm 0 0 S0) s m args below meth c (gQ D cT H0 below S0 S' (.inr (some (.int r))) s) S0 S (F0 m 4 ls []) := by
  intro n
  induction n with
  | zero => intro x0 x1 x2 x3 S ls h hl; cases h
  | succ n ih => intro x0 x1 x2 x3 S ls h hl; exact w_Mo_editionOf_4 Y ih x0 x1 x2 x3 S h hl
def D_Mo_editionOf (h0 : Nat) (p0 : Int32) (S : gS) : Option (Int32 × gS) := L_Mo_editionOf_4  gF h0 p0 (-1) 0 S
set_option maxRecDepth 100000 in
set_option maxHeartbeats 4000000 in
theorem c_Mo_editionOf {D : va_G} {cT : Nat → ClassId} {H0 : Heap} {l : Launch} {S : gS} {S' : gS} {h0 : Nat} {p0 : Int32} {r : Int32} (hden : D_Mo_editionOf h0 p0 S = some (r, S')) : gM D cT H0 l y_Mo_editionOf (Cond.code y_Mo_editionOf prog_12_method_25_code 4 (Option.some Jvm.ClassFile.FieldType.int)) 0 0 [va_rf (some h0), .int p0] S S' (.inr (some (.int r))) := by
  refine gM.ofV (by decide) ?_
  intro p e s m args below meth c s₁ B hml ea X hZ hex hr hE
  subst ea
  have Y : gY D cT H0 p s m _ meth c prog_12_method_25_code 4 "PlanTextModel" 0 0 S (Option.some Jvm.ClassFile.FieldType.int) := ⟨X, hZ, hex, hr, hE⟩
  have hx := X.1
  have hb := X.2.1
  have hl := lv_entry ([va_rf (some h0), .int p0]) (n := 4) (Nat.le_of_ble_eq_true rfl)
  rw [lg_entry_eq]
  generalize (lg_sl ([va_rf (some h0), .int p0]) ++ List.replicate (4 - (lg_sl ([va_rf (some h0), .int p0])).length) Slot.unset).toArray = ls at hl ⊢
  have hl : lv_has ls 4 [(0, va_rf (some h0)), (1, .int p0)] := hl
  unfold D_Mo_editionOf at hden
  refine gV.lift (fun _ _ _ _ => lv_iconst (v := (-1)) hx hb d_Mo_editionOf_0 (by decide)) ?_
  refine gV.liftS (nL := 4) (lv' := [(2, .int (-1)), (0, va_rf (some h0)), (1, .int p0)]) (fun _ _ _ _ => lv_istore_n hx hb d_Mo_editionOf_1 rfl hl (by decide) rfl) (fun ls hl => ?_)
  refine gV.lift (fun _ _ _ _ => lv_iconst (v := 0) hx hb d_Mo_editionOf_2 (by decide)) ?_
  refine gV.liftS (nL := 4) (lv' := [(3, .int 0), (2, .int (-1)), (0, va_rf (some h0)), (1, .int p0)]) (fun _ _ _ _ => lv_istore_n hx hb d_Mo_editionOf_3 rfl hl (by decide) rfl) (fun ls hl => ?_)
  exact wL_Mo_editionOf_4 Y  gF h0 p0 (-1) 0 S _ hden (lv_sub hl [2, 3, 1, 0] rfl)
/-! PlanTextModel.isWithin(III)Z -/
abbrev y_Mo_isWithin : MethodName := ⟨"PlanTextModel", "isWithin", "(III)Z"⟩
theorem d_Mo_isWithin_0 : decode prog_12_method_26_code 0 = .ok (.iload_n 0, 1) := by decide +kernel
theorem d_Mo_isWithin_1 : decode prog_12_method_26_code 1 = .ok (.iload_n 1, 1) := by decide +kernel
theorem d_Mo_isWithin_2 : decode prog_12_method_26_code 2 = .ok (.if_icmp .gt 21, 3) := by decide +kernel
theorem d_Mo_isWithin_5 : decode prog_12_method_26_code 5 = .ok (.iload_n 2, 1) := by decide +kernel
theorem d_Mo_isWithin_6 : decode prog_12_method_26_code 6 = .ok (.iload_n 0, 1) := by decide +kernel
theorem d_Mo_isWithin_7 : decode prog_12_method_26_code 7 = .ok (.if_icmp .lt 12, 3) := by decide +kernel
theorem d_Mo_isWithin_10 : decode prog_12_method_26_code 10 = .ok (.iload_n 2, 1) := by decide +kernel
theorem d_Mo_isWithin_11 : decode prog_12_method_26_code 11 = .ok (.iload_n 1, 1) := by decide +kernel
theorem d_Mo_isWithin_12 : decode prog_12_method_26_code 12 = .ok (.if_icmp .gt 7, 3) := by decide +kernel
theorem d_Mo_isWithin_15 : decode prog_12_method_26_code 15 = .ok (.iconst 1, 1) := by decide +kernel
theorem d_Mo_isWithin_16 : decode prog_12_method_26_code 16 = .ok (.goto 22, 3) := by decide +kernel
theorem d_Mo_isWithin_19 : decode prog_12_method_26_code 19 = .ok (.iconst 0, 1) := by decide +kernel
theorem d_Mo_isWithin_20 : decode prog_12_method_26_code 20 = .ok (.goto 18, 3) := by decide +kernel
theorem d_Mo_isWithin_23 : decode prog_12_method_26_code 23 = .ok (.iload_n 2, 1) := by decide +kernel
theorem d_Mo_isWithin_24 : decode prog_12_method_26_code 24 = .ok (.iload_n 0, 1) := by decide +kernel
theorem d_Mo_isWithin_25 : decode prog_12_method_26_code 25 = .ok (.if_icmp .ge 8, 3) := by decide +kernel
theorem d_Mo_isWithin_28 : decode prog_12_method_26_code 28 = .ok (.iload_n 2, 1) := by decide +kernel
theorem d_Mo_isWithin_29 : decode prog_12_method_26_code 29 = .ok (.iload_n 1, 1) := by decide +kernel
theorem d_Mo_isWithin_30 : decode prog_12_method_26_code 30 = .ok (.if_icmp .gt 7, 3) := by decide +kernel
theorem d_Mo_isWithin_33 : decode prog_12_method_26_code 33 = .ok (.iconst 1, 1) := by decide +kernel
theorem d_Mo_isWithin_34 : decode prog_12_method_26_code 34 = .ok (.goto 4, 3) := by decide +kernel
theorem d_Mo_isWithin_37 : decode prog_12_method_26_code 37 = .ok (.iconst 0, 1) := by decide +kernel
theorem d_Mo_isWithin_38 : decode prog_12_method_26_code 38 = .ok (.ireturn, 1) := by decide +kernel
def B_Mo_isWithin_38  (t0 : Int32) (S : gS) : Option (Int32 × gS) := Option.bind (gZo t0) (fun v1 => some (v1, S))
set_option maxRecDepth 100000 in
set_option maxHeartbeats 4000000 in
theorem w_Mo_isWithin_38 {D : va_G} {cT : Nat → ClassId} {H0 : Heap} {l : Launch} {p : Program} {e : Env} {s : State} {m : MethodId} {args : Array Value} {below : List Frame} {meth : Method} {c : Code} {S0 : gS} {S' : gS} {r : Int32} (Y : gY D cT H0 p s m args meth c prog_12_method_26_code 3 "PlanTextModel" 0 0 S0 (Option.some Jvm.ClassFile.FieldType.boolean))  (t0 : Int32) (S : gS) (hden : B_Mo_isWithin_38  t0 S = some (r, S')) {ls : Array Slot} (hl : lv_has ls 3 []) : gV D cT H0 p l e (gRm 0 0 S0) s m args below meth c (gQ D cT H0 below S0 S' (.inr (some (.int r))) s) S0 S (F0 m 38 ls [.int t0]) := by
  obtain ⟨X, hZ, hex, hr, hE⟩ := id Y
  have hx := X.1
  have hb := X.2.1
  unfold B_Mo_isWithin_38 at hden
  replace hden := gb hden
  obtain ⟨v1, hz, hden⟩ := hden
  obtain ⟨rfl, hz2, -⟩ := gZo_spec hz
  obtain ⟨rfl, rfl⟩ := gpi hden
  exact g_zret X hr hz2 d_Mo_isWithin_38
def B_Mo_isWithin_33   (S : gS) : Option (Int32 × gS) := B_Mo_isWithin_38  1 S
set_option maxRecDepth 100000 in
set_option maxHeartbeats 4000000 in
theorem w_Mo_isWithin_33 {D : va_G} {cT : Nat → ClassId} {H0 : Heap} {l : Launch} {p : Program} {e : Env} {s : State} {m : MethodId} {args : Array Value} {below : List Frame} {meth : Method} {c : Code} {S0 : gS} {S' : gS} {r : Int32} (Y : gY D cT H0 p s m args meth c prog_12_method_26_code 3 "PlanTextModel" 0 0 S0 (Option.some Jvm.ClassFile.FieldType.boolean))   (S : gS) (hden : B_Mo_isWithin_33   S = some (r, S')) {ls : Array Slot} (hl : lv_has ls 3 []) : gV D cT H0 p l e (gRm 0 0 S0) s m args below meth c (gQ D cT H0 below S0 S' (.inr (some (.int r))) s) S0 S (F0 m 33 ls []) := by
  obtain ⟨X, hZ, hex, hr, hE⟩ := id Y
  have hx := X.1
  have hb := X.2.1
  unfold B_Mo_isWithin_33 at hden
  refine gV.lift (fun _ _ _ _ => lv_iconst (v := 1) hx hb d_Mo_isWithin_33 (by decide)) ?_
  refine gV.lift (fun _ _ _ _ => lv_goto (tgt := 38) hx hb d_Mo_isWithin_34 (by decide)) ?_
  exact w_Mo_isWithin_38 Y  1 S hden (lv_sub hl [] rfl)
def B_Mo_isWithin_19   (S : gS) : Option (Int32 × gS) := B_Mo_isWithin_38  0 S
set_option maxRecDepth 100000 in
set_option maxHeartbeats 4000000 in
theorem w_Mo_isWithin_19 {D : va_G} {cT : Nat → ClassId} {H0 : Heap} {l : Launch} {p : Program} {e : Env} {s : State} {m : MethodId} {args : Array Value} {below : List Frame} {meth : Method} {c : Code} {S0 : gS} {S' : gS} {r : Int32} (Y : gY D cT H0 p s m args meth c prog_12_method_26_code 3 "PlanTextModel" 0 0 S0 (Option.some Jvm.ClassFile.FieldType.boolean))   (S : gS) (hden : B_Mo_isWithin_19   S = some (r, S')) {ls : Array Slot} (hl : lv_has ls 3 []) : gV D cT H0 p l e (gRm 0 0 S0) s m args below meth c (gQ D cT H0 below S0 S' (.inr (some (.int r))) s) S0 S (F0 m 19 ls []) := by
  obtain ⟨X, hZ, hex, hr, hE⟩ := id Y
  have hx := X.1
  have hb := X.2.1
  unfold B_Mo_isWithin_19 at hden
  refine gV.lift (fun _ _ _ _ => lv_iconst (v := 0) hx hb d_Mo_isWithin_19 (by decide)) ?_
  refine gV.lift (fun _ _ _ _ => lv_goto (tgt := 38) hx hb d_Mo_isWithin_20 (by decide)) ?_
  exact w_Mo_isWithin_38 Y  0 S hden (lv_sub hl [] rfl)
def D_Mo_isWithin (p0 : Int32) (p1 : Int32) (p2 : Int32) (S : gS) : Option (Int32 × gS) := (if p1 < p0 then (if p0 ≤ p2 then B_Mo_isWithin_33  S else (if p1 < p2 then B_Mo_isWithin_38  0 S else B_Mo_isWithin_33  S)) else (if p2 < p0 then B_Mo_isWithin_19  S else (if p1 < p2 then B_Mo_isWithin_19  S else B_Mo_isWithin_38  1 S)))
set_option maxRecDepth 100000 in
set_option maxHeartbeats 4000000 in
theorem c_Mo_isWithin {D : va_G} {cT : Nat → ClassId} {H0 : Heap} {l : Launch} {S : gS} {S' : gS} {p0 : Int32} {p1 : Int32} {p2 : Int32} {r : Int32} (hden : D_Mo_isWithin p0 p1 p2 S = some (r, S')) : gM D cT H0 l y_Mo_isWithin (Cond.code y_Mo_isWithin prog_12_method_26_code 3 (Option.some Jvm.ClassFile.FieldType.boolean)) 0 0 [.int p0, .int p1, .int p2] S S' (.inr (some (.int r))) := by
  refine gM.ofV (by decide) ?_
  intro p e s m args below meth c s₁ B hml ea X hZ hex hr hE
  subst ea
  have Y : gY D cT H0 p s m _ meth c prog_12_method_26_code 3 "PlanTextModel" 0 0 S (Option.some Jvm.ClassFile.FieldType.boolean) := ⟨X, hZ, hex, hr, hE⟩
  have hx := X.1
  have hb := X.2.1
  have hl := lv_entry ([.int p0, .int p1, .int p2]) (n := 3) (Nat.le_of_ble_eq_true rfl)
  rw [lg_entry_eq]
  generalize (lg_sl ([.int p0, .int p1, .int p2]) ++ List.replicate (3 - (lg_sl ([.int p0, .int p1, .int p2])).length) Slot.unset).toArray = ls at hl ⊢
  have hl : lv_has ls 3 [(0, .int p0), (1, .int p1), (2, .int p2)] := hl
  unfold D_Mo_isWithin at hden
  refine gV.lift (fun _ _ _ _ => lv_iload_n hx hb d_Mo_isWithin_0 rfl (lv_at hl 0 rfl)) ?_
  refine gV.lift (fun _ _ _ _ => lv_iload_n hx hb d_Mo_isWithin_1 rfl (lv_at hl 1 rfl)) ?_
  refine gV.lift2 (fun _ _ _ _ => lv_icmp_gt (tgt := 23) hx hb d_Mo_isWithin_2 (by decide)) (fun hc1 => ?_) (fun hc1 => ?_)
  · replace hden := gip hc1 hden
    refine gV.lift (fun _ _ _ _ => lv_iload_n hx hb d_Mo_isWithin_23 rfl (lv_at hl 2 rfl)) ?_
    refine gV.lift (fun _ _ _ _ => lv_iload_n hx hb d_Mo_isWithin_24 rfl (lv_at hl 0 rfl)) ?_
    refine gV.lift2 (fun _ _ _ _ => lv_icmp_ge (tgt := 33) hx hb d_Mo_isWithin_25 (by decide)) (fun hc2 => ?_) (fun hc2 => ?_)
    · replace hden := gip hc2 hden
      exact w_Mo_isWithin_33 Y  S hden (lv_sub hl [] rfl)
    · replace hden := gin hc2 hden
      refine gV.lift (fun _ _ _ _ => lv_iload_n hx hb d_Mo_isWithin_28 rfl (lv_at hl 2 rfl)) ?_
      refine gV.lift (fun _ _ _ _ => lv_iload_n hx hb d_Mo_isWithin_29 rfl (lv_at hl 1 rfl)) ?_
      refine gV.lift2 (fun _ _ _ _ => lv_icmp_gt (tgt := 37) hx hb d_Mo_isWithin_30 (by decide)) (fun hc3 => ?_) (fun hc3 => ?_)
      · replace hden := gip hc3 hden
        refine gV.lift (fun _ _ _ _ => lv_iconst (v := 0) hx hb d_Mo_isWithin_37 (by decide)) ?_
        exact w_Mo_isWithin_38 Y  0 S hden (lv_sub hl [] rfl)
      · replace hden := gin hc3 hden
        exact w_Mo_isWithin_33 Y  S hden (lv_sub hl [] rfl)
  · replace hden := gin hc1 hden
    refine gV.lift (fun _ _ _ _ => lv_iload_n hx hb d_Mo_isWithin_5 rfl (lv_at hl 2 rfl)) ?_
    refine gV.lift (fun _ _ _ _ => lv_iload_n hx hb d_Mo_isWithin_6 rfl (lv_at hl 0 rfl)) ?_
    refine gV.lift2 (fun _ _ _ _ => lv_icmp_lt (tgt := 19) hx hb d_Mo_isWithin_7 (by decide)) (fun hc4 => ?_) (fun hc4 => ?_)
    · replace hden := gip hc4 hden
      exact w_Mo_isWithin_19 Y  S hden (lv_sub hl [] rfl)
    · replace hden := gin hc4 hden
      refine gV.lift (fun _ _ _ _ => lv_iload_n hx hb d_Mo_isWithin_10 rfl (lv_at hl 2 rfl)) ?_
      refine gV.lift (fun _ _ _ _ => lv_iload_n hx hb d_Mo_isWithin_11 rfl (lv_at hl 1 rfl)) ?_
      refine gV.lift2 (fun _ _ _ _ => lv_icmp_gt (tgt := 19) hx hb d_Mo_isWithin_12 (by decide)) (fun hc5 => ?_) (fun hc5 => ?_)
      · replace hden := gip hc5 hden
        exact w_Mo_isWithin_19 Y  S hden (lv_sub hl [] rfl)
      · replace hden := gin hc5 hden
        refine gV.lift (fun _ _ _ _ => lv_iconst (v := 1) hx hb d_Mo_isWithin_15 (by decide)) ?_
        refine gV.lift (fun _ _ _ _ => lv_goto (tgt := 38) hx hb d_Mo_isWithin_16 (by decide)) ?_
        exact w_Mo_isWithin_38 Y  1 S hden (lv_sub hl [] rfl)
/-! PlanTextModel.fits(IIIII)Z -/
abbrev y_Mo_fits : MethodName := ⟨"PlanTextModel", "fits", "(IIIII)Z"⟩
theorem d_Mo_fits_0 : decode prog_12_method_27_code 0 = .ok (.aload_n 0, 1) := by decide +kernel
theorem d_Mo_fits_1 : decode prog_12_method_27_code 1 = .ok (.getfield 27, 3) := by decide +kernel
theorem d_Mo_fits_4 : decode prog_12_method_27_code 4 = .ok (.iload_n 1, 1) := by decide +kernel
theorem d_Mo_fits_5 : decode prog_12_method_27_code 5 = .ok (.iaload, 1) := by decide +kernel
theorem d_Mo_fits_6 : decode prog_12_method_27_code 6 = .ok (.ifCond .eq 33, 3) := by decide +kernel
theorem d_Mo_fits_9 : decode prog_12_method_27_code 9 = .ok (.aload_n 0, 1) := by decide +kernel
theorem d_Mo_fits_10 : decode prog_12_method_27_code 10 = .ok (.getfield 27, 3) := by decide +kernel
theorem d_Mo_fits_13 : decode prog_12_method_27_code 13 = .ok (.iload_n 1, 1) := by decide +kernel
theorem d_Mo_fits_14 : decode prog_12_method_27_code 14 = .ok (.iaload, 1) := by decide +kernel
theorem d_Mo_fits_15 : decode prog_12_method_27_code 15 = .ok (.iload_n 3, 1) := by decide +kernel
theorem d_Mo_fits_16 : decode prog_12_method_27_code 16 = .ok (.if_icmp .ne 27, 3) := by decide +kernel
theorem d_Mo_fits_19 : decode prog_12_method_27_code 19 = .ok (.iload 4, 2) := by decide +kernel
theorem d_Mo_fits_21 : decode prog_12_method_27_code 21 = .ok (.aload_n 0, 1) := by decide +kernel
theorem d_Mo_fits_22 : decode prog_12_method_27_code 22 = .ok (.getfield 30, 3) := by decide +kernel
theorem d_Mo_fits_25 : decode prog_12_method_27_code 25 = .ok (.iload_n 1, 1) := by decide +kernel
theorem d_Mo_fits_26 : decode prog_12_method_27_code 26 = .ok (.iaload, 1) := by decide +kernel
theorem d_Mo_fits_27 : decode prog_12_method_27_code 27 = .ok (.aload_n 0, 1) := by decide +kernel
theorem d_Mo_fits_28 : decode prog_12_method_27_code 28 = .ok (.getfield 33, 3) := by decide +kernel
theorem d_Mo_fits_31 : decode prog_12_method_27_code 31 = .ok (.iload_n 1, 1) := by decide +kernel
theorem d_Mo_fits_32 : decode prog_12_method_27_code 32 = .ok (.iaload, 1) := by decide +kernel
theorem d_Mo_fits_33 : decode prog_12_method_27_code 33 = .ok (.invokestatic 72, 3) := by decide +kernel
theorem d_Mo_fits_36 : decode prog_12_method_27_code 36 = .ok (.ifCond .eq 7, 3) := by decide +kernel
theorem d_Mo_fits_39 : decode prog_12_method_27_code 39 = .ok (.iconst 1, 1) := by decide +kernel
theorem d_Mo_fits_40 : decode prog_12_method_27_code 40 = .ok (.goto 4, 3) := by decide +kernel
theorem d_Mo_fits_43 : decode prog_12_method_27_code 43 = .ok (.iconst 0, 1) := by decide +kernel
theorem d_Mo_fits_44 : decode prog_12_method_27_code 44 = .ok (.istore 6, 2) := by decide +kernel
theorem d_Mo_fits_46 : decode prog_12_method_27_code 46 = .ok (.aload_n 0, 1) := by decide +kernel
theorem d_Mo_fits_47 : decode prog_12_method_27_code 47 = .ok (.getfield 20, 3) := by decide +kernel
theorem d_Mo_fits_50 : decode prog_12_method_27_code 50 = .ok (.iload_n 1, 1) := by decide +kernel
theorem d_Mo_fits_51 : decode prog_12_method_27_code 51 = .ok (.baload, 1) := by decide +kernel
theorem d_Mo_fits_52 : decode prog_12_method_27_code 52 = .ok (.ifCond .eq 51, 3) := by decide +kernel
theorem d_Mo_fits_55 : decode prog_12_method_27_code 55 = .ok (.aload_n 0, 1) := by decide +kernel
theorem d_Mo_fits_56 : decode prog_12_method_27_code 56 = .ok (.getfield 24, 3) := by decide +kernel
theorem d_Mo_fits_59 : decode prog_12_method_27_code 59 = .ok (.iload_n 1, 1) := by decide +kernel
theorem d_Mo_fits_60 : decode prog_12_method_27_code 60 = .ok (.iaload, 1) := by decide +kernel
theorem d_Mo_fits_61 : decode prog_12_method_27_code 61 = .ok (.iload_n 2, 1) := by decide +kernel
theorem d_Mo_fits_62 : decode prog_12_method_27_code 62 = .ok (.if_icmp .ne 41, 3) := by decide +kernel
theorem d_Mo_fits_65 : decode prog_12_method_27_code 65 = .ok (.iload 6, 2) := by decide +kernel
theorem d_Mo_fits_67 : decode prog_12_method_27_code 67 = .ok (.ifCond .eq 36, 3) := by decide +kernel
theorem d_Mo_fits_70 : decode prog_12_method_27_code 70 = .ok (.aload_n 0, 1) := by decide +kernel
theorem d_Mo_fits_71 : decode prog_12_method_27_code 71 = .ok (.getfield 36, 3) := by decide +kernel
theorem d_Mo_fits_74 : decode prog_12_method_27_code 74 = .ok (.iload_n 1, 1) := by decide +kernel
theorem d_Mo_fits_75 : decode prog_12_method_27_code 75 = .ok (.iaload, 1) := by decide +kernel
theorem d_Mo_fits_76 : decode prog_12_method_27_code 76 = .ok (.ifCond .lt 23, 3) := by decide +kernel
theorem d_Mo_fits_79 : decode prog_12_method_27_code 79 = .ok (.aload_n 0, 1) := by decide +kernel
theorem d_Mo_fits_80 : decode prog_12_method_27_code 80 = .ok (.getfield 36, 3) := by decide +kernel
theorem d_Mo_fits_83 : decode prog_12_method_27_code 83 = .ok (.iload_n 1, 1) := by decide +kernel
theorem d_Mo_fits_84 : decode prog_12_method_27_code 84 = .ok (.iaload, 1) := by decide +kernel
theorem d_Mo_fits_85 : decode prog_12_method_27_code 85 = .ok (.aload_n 0, 1) := by decide +kernel
theorem d_Mo_fits_86 : decode prog_12_method_27_code 86 = .ok (.getfield 39, 3) := by decide +kernel
theorem d_Mo_fits_89 : decode prog_12_method_27_code 89 = .ok (.iload_n 1, 1) := by decide +kernel
theorem d_Mo_fits_90 : decode prog_12_method_27_code 90 = .ok (.iaload, 1) := by decide +kernel
theorem d_Mo_fits_91 : decode prog_12_method_27_code 91 = .ok (.iload 5, 2) := by decide +kernel
theorem d_Mo_fits_93 : decode prog_12_method_27_code 93 = .ok (.invokestatic 146, 3) := by decide +kernel
theorem d_Mo_fits_96 : decode prog_12_method_27_code 96 = .ok (.ifCond .eq 7, 3) := by decide +kernel
theorem d_Mo_fits_99 : decode prog_12_method_27_code 99 = .ok (.iconst 1, 1) := by decide +kernel
theorem d_Mo_fits_100 : decode prog_12_method_27_code 100 = .ok (.goto 4, 3) := by decide +kernel
theorem d_Mo_fits_103 : decode prog_12_method_27_code 103 = .ok (.iconst 0, 1) := by decide +kernel
theorem d_Mo_fits_104 : decode prog_12_method_27_code 104 = .ok (.ireturn, 1) := by decide +kernel
def B_Mo_fits_104  (t0 : Int32) (S : gS) : Option (Int32 × gS) := Option.bind (gZo t0) (fun v1 => some (v1, S))
set_option maxRecDepth 100000 in
set_option maxHeartbeats 4000000 in
theorem w_Mo_fits_104 {D : va_G} {cT : Nat → ClassId} {H0 : Heap} {l : Launch} {p : Program} {e : Env} {s : State} {m : MethodId} {args : Array Value} {below : List Frame} {meth : Method} {c : Code} {S0 : gS} {S' : gS} {r : Int32} (Y : gY D cT H0 p s m args meth c prog_12_method_27_code 7 "PlanTextModel" 1 22 S0 (Option.some Jvm.ClassFile.FieldType.boolean))  (t0 : Int32) (S : gS) (hden : B_Mo_fits_104  t0 S = some (r, S')) {ls : Array Slot} (hl : lv_has ls 7 []) : gV D cT H0 p l e (gRm 1 22 S0) s m args below meth c (gQ D cT H0 below S0 S' (.inr (some (.int r))) s) S0 S (F0 m 104 ls [.int t0]) := by
  obtain ⟨X, hZ, hex, hr, hE⟩ := id Y
  have hx := X.1
  have hb := X.2.1
  unfold B_Mo_fits_104 at hden
  replace hden := gb hden
  obtain ⟨v1, hz, hden⟩ := hden
  obtain ⟨rfl, hz2, -⟩ := gZo_spec hz
  obtain ⟨rfl, rfl⟩ := gpi hden
  exact g_zret X hr hz2 d_Mo_fits_104
def B_Mo_fits_103   (S : gS) : Option (Int32 × gS) := B_Mo_fits_104  0 S
set_option maxRecDepth 100000 in
set_option maxHeartbeats 4000000 in
theorem w_Mo_fits_103 {D : va_G} {cT : Nat → ClassId} {H0 : Heap} {l : Launch} {p : Program} {e : Env} {s : State} {m : MethodId} {args : Array Value} {below : List Frame} {meth : Method} {c : Code} {S0 : gS} {S' : gS} {r : Int32} (Y : gY D cT H0 p s m args meth c prog_12_method_27_code 7 "PlanTextModel" 1 22 S0 (Option.some Jvm.ClassFile.FieldType.boolean))   (S : gS) (hden : B_Mo_fits_103   S = some (r, S')) {ls : Array Slot} (hl : lv_has ls 7 []) : gV D cT H0 p l e (gRm 1 22 S0) s m args below meth c (gQ D cT H0 below S0 S' (.inr (some (.int r))) s) S0 S (F0 m 103 ls []) := by
  obtain ⟨X, hZ, hex, hr, hE⟩ := id Y
  have hx := X.1
  have hb := X.2.1
  unfold B_Mo_fits_103 at hden
  refine gV.lift (fun _ _ _ _ => lv_iconst (v := 0) hx hb d_Mo_fits_103 (by decide)) ?_
  exact w_Mo_fits_104 Y  0 S hden (lv_sub hl [] rfl)
def B_Mo_fits_99   (S : gS) : Option (Int32 × gS) := B_Mo_fits_104  1 S
set_option maxRecDepth 100000 in
set_option maxHeartbeats 4000000 in
theorem w_Mo_fits_99 {D : va_G} {cT : Nat → ClassId} {H0 : Heap} {l : Launch} {p : Program} {e : Env} {s : State} {m : MethodId} {args : Array Value} {below : List Frame} {meth : Method} {c : Code} {S0 : gS} {S' : gS} {r : Int32} (Y : gY D cT H0 p s m args meth c prog_12_method_27_code 7 "PlanTextModel" 1 22 S0 (Option.some Jvm.ClassFile.FieldType.boolean))   (S : gS) (hden : B_Mo_fits_99   S = some (r, S')) {ls : Array Slot} (hl : lv_has ls 7 []) : gV D cT H0 p l e (gRm 1 22 S0) s m args below meth c (gQ D cT H0 below S0 S' (.inr (some (.int r))) s) S0 S (F0 m 99 ls []) := by
  obtain ⟨X, hZ, hex, hr, hE⟩ := id Y
  have hx := X.1
  have hb := X.2.1
  unfold B_Mo_fits_99 at hden
  refine gV.lift (fun _ _ _ _ => lv_iconst (v := 1) hx hb d_Mo_fits_99 (by decide)) ?_
  refine gV.lift (fun _ _ _ _ => lv_goto (tgt := 104) hx hb d_Mo_fits_100 (by decide)) ?_
  exact w_Mo_fits_104 Y  1 S hden (lv_sub hl [] rfl)
def B_Mo_fits_44  (x0 : Nat) (x1 : Int32) (x2 : Int32) (x5 : Int32) (t0 : Int32) (S : gS) : Option (Int32 × gS) := Option.bind (gRf S x0 10 10) (fun r1 => Option.bind r1 (fun a2 => Option.bind (gAI S a2 3 x1) (fun v3 => (if v3 = 0 then B_Mo_fits_103  S else Option.bind (gRf S x0 10 11) (fun r5 => Option.bind r5 (fun a6 => Option.bind (gAI S a6 0 x1) (fun v7 => (if v7 = x2 then (if t0 = 0 then B_Mo_fits_103  S else Option.bind (gRf S x0 10 15) (fun r10 => Option.bind r10 (fun a11 => Option.bind (gAI S a11 0 x1) (fun v12 => (if v12 < 0 then B_Mo_fits_99  S else Option.bind (gRf S x0 10 15) (fun r14 => Option.bind r14 (fun a15 => Option.bind (gAI S a15 0 x1) (fun v16 => Option.bind (gRf S x0 10 16) (fun r17 => Option.bind r17 (fun a18 => Option.bind (gAI S a18 0 x1) (fun v19 => gB2 (D_Mo_isWithin v16 v19 x5 S) (fun v21 S20 => (if v21 = 0 then B_Mo_fits_103  S20 else B_Mo_fits_99  S20))))))))))))) else B_Mo_fits_103  S))))))))
set_option maxRecDepth 100000 in
set_option maxHeartbeats 4000000 in
theorem w_Mo_fits_44 {D : va_G} {cT : Nat → ClassId} {H0 : Heap} {l : Launch} {p : Program} {e : Env} {s : State} {m : MethodId} {args : Array Value} {below : List Frame} {meth : Method} {c : Code} {S0 : gS} {S' : gS} {r : Int32} (Y : gY D cT H0 p s m args meth c prog_12_method_27_code 7 "PlanTextModel" 1 22 S0 (Option.some Jvm.ClassFile.FieldType.boolean))  (x0 : Nat) (x1 : Int32) (x2 : Int32) (x5 : Int32) (t0 : Int32) (S : gS) (hden : B_Mo_fits_44  x0 x1 x2 x5 t0 S = some (r, S')) {ls : Array Slot} (hl : lv_has ls 7 [(0, va_rf (some x0)), (1, .int x1), (2, .int x2), (5, .int x5)]) : gV D cT H0 p l e (gRm 1 22 S0) s m args below meth c (gQ D cT H0 below S0 S' (.inr (some (.int r))) s) S0 S (F0 m 44 ls [.int t0]) := by
  obtain ⟨X, hZ, hex, hr, hE⟩ := id Y
  have hx := X.1
  have hb := X.2.1
  unfold B_Mo_fits_44 at hden
  refine gV.liftS (nL := 7) (lv' := [(6, .int t0), (0, va_rf (some x0)), (1, .int x1), (2, .int x2), (5, .int x5)]) (fun _ _ _ _ => lv_istore hx hb d_Mo_fits_44 hl (by decide) rfl) (fun ls hl => ?_)
  refine gV.lift (fun _ _ _ _ => g_aload_n hx hb d_Mo_fits_46 rfl (lv_at hl 1 rfl)) ?_
  replace hden := gb hden
  obtain ⟨r1, hv, hden⟩ := hden
  refine r_getR X cl_Mo (k := 10) hv (by decide) q_775 d_Mo_fits_47 ?_
  refine gV.lift (fun _ _ _ _ => lv_iload_n hx hb d_Mo_fits_50 rfl (lv_at hl 2 rfl)) ?_
  replace hden := gb hden
  obtain ⟨a2, rfl, hden⟩ := hden
  replace hden := gb hden
  obtain ⟨v3, hv, hden⟩ := hden
  refine r_zald X (t := 3) rfl hv d_Mo_fits_51 ?_
  refine gV.lift2 (fun _ _ _ _ => lv_if_eq (tgt := 103) hx hb d_Mo_fits_52 (by decide)) (fun hc4 => ?_) (fun hc4 => ?_)
  · replace hden := gip hc4 hden
    exact w_Mo_fits_103 Y  S hden (lv_sub hl [] rfl)
  · replace hden := gin hc4 hden
    refine gV.lift (fun _ _ _ _ => g_aload_n hx hb d_Mo_fits_55 rfl (lv_at hl 1 rfl)) ?_
    replace hden := gb hden
    obtain ⟨r5, hv, hden⟩ := hden
    refine r_getR X cl_Mo (k := 11) hv (by decide) q_776 d_Mo_fits_56 ?_
    refine gV.lift (fun _ _ _ _ => lv_iload_n hx hb d_Mo_fits_59 rfl (lv_at hl 2 rfl)) ?_
    replace hden := gb hden
    obtain ⟨a6, rfl, hden⟩ := hden
    replace hden := gb hden
    obtain ⟨v7, hv, hden⟩ := hden
    refine r_iald X (t := 0) rfl hv d_Mo_fits_60 ?_
    refine gV.lift (fun _ _ _ _ => lv_iload_n hx hb d_Mo_fits_61 rfl (lv_at hl 3 rfl)) ?_
    refine gV.lift2 (fun _ _ _ _ => lv_icmp_ne (tgt := 103) hx hb d_Mo_fits_62 (by decide)) (fun hc8 => ?_) (fun hc8 => ?_)
    · replace hden := gin hc8 hden
      exact w_Mo_fits_103 Y  S hden (lv_sub hl [] rfl)
    · replace hden := gip hc8 hden
      refine gV.lift (fun _ _ _ _ => lv_iload hx hb d_Mo_fits_65 (lv_at hl 0 rfl)) ?_
      refine gV.lift2 (fun _ _ _ _ => lv_if_eq (tgt := 103) hx hb d_Mo_fits_67 (by decide)) (fun hc9 => ?_) (fun hc9 => ?_)
      · replace hden := gip hc9 hden
        exact w_Mo_fits_103 Y  S hden (lv_sub hl [] rfl)
      · replace hden := gin hc9 hden
        refine gV.lift (fun _ _ _ _ => g_aload_n hx hb d_Mo_fits_70 rfl (lv_at hl 1 rfl)) ?_
        replace hden := gb hden
        obtain ⟨r10, hv, hden⟩ := hden
        refine r_getR X cl_Mo (k := 15) hv (by decide) q_780 d_Mo_fits_71 ?_
        refine gV.lift (fun _ _ _ _ => lv_iload_n hx hb d_Mo_fits_74 rfl (lv_at hl 2 rfl)) ?_
        replace hden := gb hden
        obtain ⟨a11, rfl, hden⟩ := hden
        replace hden := gb hden
        obtain ⟨v12, hv, hden⟩ := hden
        refine r_iald X (t := 0) rfl hv d_Mo_fits_75 ?_
        refine gV.lift2 (fun _ _ _ _ => lv_if_lt (tgt := 99) hx hb d_Mo_fits_76 (by decide)) (fun hc13 => ?_) (fun hc13 => ?_)
        · replace hden := gip hc13 hden
          exact w_Mo_fits_99 Y  S hden (lv_sub hl [] rfl)
        · replace hden := gin hc13 hden
          refine gV.lift (fun _ _ _ _ => g_aload_n hx hb d_Mo_fits_79 rfl (lv_at hl 1 rfl)) ?_
          replace hden := gb hden
          obtain ⟨r14, hv, hden⟩ := hden
          refine r_getR X cl_Mo (k := 15) hv (by decide) q_780 d_Mo_fits_80 ?_
          refine gV.lift (fun _ _ _ _ => lv_iload_n hx hb d_Mo_fits_83 rfl (lv_at hl 2 rfl)) ?_
          replace hden := gb hden
          obtain ⟨a15, rfl, hden⟩ := hden
          replace hden := gb hden
          obtain ⟨v16, hv, hden⟩ := hden
          refine r_iald X (t := 0) rfl hv d_Mo_fits_84 ?_
          refine gV.lift (fun _ _ _ _ => g_aload_n hx hb d_Mo_fits_85 rfl (lv_at hl 1 rfl)) ?_
          replace hden := gb hden
          obtain ⟨r17, hv, hden⟩ := hden
          refine r_getR X cl_Mo (k := 16) hv (by decide) q_781 d_Mo_fits_86 ?_
          refine gV.lift (fun _ _ _ _ => lv_iload_n hx hb d_Mo_fits_89 rfl (lv_at hl 2 rfl)) ?_
          replace hden := gb hden
          obtain ⟨a18, rfl, hden⟩ := hden
          replace hden := gb hden
          obtain ⟨v19, hv, hden⟩ := hden
          refine r_iald X (t := 0) rfl hv d_Mo_fits_90 ?_
          refine gV.lift (fun _ _ _ _ => lv_iload hx hb d_Mo_fits_91 (lv_at hl 4 rfl)) ?_
          replace hden := gb2 hden
          obtain ⟨v21, S20, hz, hden⟩ := hden
          refine g_callS (As := [.int v16, .int v19, .int x5]) (rest := []) X hZ (c_Mo_isWithin hz) q_953 q_5 q_951 q_952 ⟨by decide, by decide, by show _ = some 3; decide +kernel⟩ ⟨by decide, by decide⟩ hl.1 (Nat.le_of_ble_eq_true rfl) d_Mo_fits_93 rfl rfl ?_
          refine gV.lift2 (fun _ _ _ _ => lv_if_eq (tgt := 103) hx hb d_Mo_fits_96 (by decide)) (fun hc22 => ?_) (fun hc22 => ?_)
          · replace hden := gip hc22 hden
            exact w_Mo_fits_103 Y  S20 hden (lv_sub hl [] rfl)
          · replace hden := gin hc22 hden
            exact w_Mo_fits_99 Y  S20 hden (lv_sub hl [] rfl)
def B_Mo_fits_43  (x0 : Nat) (x1 : Int32) (x2 : Int32) (x5 : Int32) (S : gS) : Option (Int32 × gS) := B_Mo_fits_44  x0 x1 x2 x5 0 S
set_option maxRecDepth 100000 in
set_option maxHeartbeats 4000000 in
theorem w_Mo_fits_43 {D : va_G} {cT : Nat → ClassId} {H0 : Heap} {l : Launch} {p : Program} {e : Env} {s : State} {m : MethodId} {args : Array Value} {below : List Frame} {meth : Method} {c : Code} {S0 : gS} {S' : gS} {r : Int32} (Y : gY D cT H0 p s m args meth c prog_12_method_27_code 7 "PlanTextModel" 1 22 S0 (Option.some Jvm.ClassFile.FieldType.boolean))  (x0 : Nat) (x1 : Int32) (x2 : Int32) (x5 : Int32) (S : gS) (hden : B_Mo_fits_43  x0 x1 x2 x5 S = some (r, S')) {ls : Array Slot} (hl : lv_has ls 7 [(0, va_rf (some x0)), (1, .int x1), (2, .int x2), (5, .int x5)]) : gV D cT H0 p l e (gRm 1 22 S0) s m args below meth c (gQ D cT H0 below S0 S' (.inr (some (.int r))) s) S0 S (F0 m 43 ls []) := by
  obtain ⟨X, hZ, hex, hr, hE⟩ := id Y
  have hx := X.1
  have hb := X.2.1
  unfold B_Mo_fits_43 at hden
  refine gV.lift (fun _ _ _ _ => lv_iconst (v := 0) hx hb d_Mo_fits_43 (by decide)) ?_
  exact w_Mo_fits_44 Y  x0 x1 x2 x5 0 S hden (lv_sub hl [0, 1, 2, 3] rfl)
def B_Mo_fits_39  (x0 : Nat) (x1 : Int32) (x2 : Int32) (x5 : Int32) (S : gS) : Option (Int32 × gS) := B_Mo_fits_44  x0 x1 x2 x5 1 S
set_option maxRecDepth 100000 in
set_option maxHeartbeats 4000000 in
theorem w_Mo_fits_39 {D : va_G} {cT : Nat → ClassId} {H0 : Heap} {l : Launch} {p : Program} {e : Env} {s : State} {m : MethodId} {args : Array Value} {below : List Frame} {meth : Method} {c : Code} {S0 : gS} {S' : gS} {r : Int32} (Y : gY D cT H0 p s m args meth c prog_12_method_27_code 7 "PlanTextModel" 1 22 S0 (Option.some Jvm.ClassFile.FieldType.boolean))  (x0 : Nat) (x1 : Int32) (x2 : Int32) (x5 : Int32) (S : gS) (hden : B_Mo_fits_39  x0 x1 x2 x5 S = some (r, S')) {ls : Array Slot} (hl : lv_has ls 7 [(0, va_rf (some x0)), (1, .int x1), (2, .int x2), (5, .int x5)]) : gV D cT H0 p l e (gRm 1 22 S0) s m args below meth c (gQ D cT H0 below S0 S' (.inr (some (.int r))) s) S0 S (F0 m 39 ls []) := by
  obtain ⟨X, hZ, hex, hr, hE⟩ := id Y
  have hx := X.1
  have hb := X.2.1
  unfold B_Mo_fits_39 at hden
  refine gV.lift (fun _ _ _ _ => lv_iconst (v := 1) hx hb d_Mo_fits_39 (by decide)) ?_
  refine gV.lift (fun _ _ _ _ => lv_goto (tgt := 44) hx hb d_Mo_fits_40 (by decide)) ?_
  exact w_Mo_fits_44 Y  x0 x1 x2 x5 1 S hden (lv_sub hl [0, 1, 2, 3] rfl)
def D_Mo_fits (h0 : Nat) (p0 : Int32) (p1 : Int32) (p2 : Int32) (p3 : Int32) (p4 : Int32) (S : gS) : Option (Int32 × gS) := Option.bind (gRf S h0 10 12) (fun r1 => Option.bind r1 (fun a2 => Option.bind (gAI S a2 0 p0) (fun v3 => (if v3 = 0 then B_Mo_fits_39  h0 p0 p1 p4 S else Option.bind (gRf S h0 10 12) (fun r5 => Option.bind r5 (fun a6 => Option.bind (gAI S a6 0 p0) (fun v7 => (if v7 = p2 then Option.bind (gRf S h0 10 13) (fun r9 => Option.bind r9 (fun a10 => Option.bind (gAI S a10 0 p0) (fun v11 => Option.bind (gRf S h0 10 14) (fun r12 => Option.bind r12 (fun a13 => Option.bind (gAI S a13 0 p0) (fun v14 => gB2 (D_Mo_in p3 v11 v14 S) (fun v16 S15 => (if v16 = 0 then B_Mo_fits_43  h0 p0 p1 p4 S15 else B_Mo_fits_39  h0 p0 p1 p4 S15)))))))) else B_Mo_fits_43  h0 p0 p1 p4 S))))))))
set_option maxRecDepth 100000 in
set_option maxHeartbeats 4000000 in
theorem c_Mo_fits {D : va_G} {cT : Nat → ClassId} {H0 : Heap} {l : Launch} {S : gS} {S' : gS} {h0 : Nat} {p0 : Int32} {p1 : Int32} {p2 : Int32} {p3 : Int32} {p4 : Int32} {r : Int32} (hden : D_Mo_fits h0 p0 p1 p2 p3 p4 S = some (r, S')) : gM D cT H0 l y_Mo_fits (Cond.code y_Mo_fits prog_12_method_27_code 7 (Option.some Jvm.ClassFile.FieldType.boolean)) 1 22 [va_rf (some h0), .int p0, .int p1, .int p2, .int p3, .int p4] S S' (.inr (some (.int r))) := by
  refine gM.ofV (by decide) ?_
  intro p e s m args below meth c s₁ B hml ea X hZ hex hr hE
  subst ea
  have Y : gY D cT H0 p s m _ meth c prog_12_method_27_code 7 "PlanTextModel" 1 22 S (Option.some Jvm.ClassFile.FieldType.boolean) := ⟨X, hZ, hex, hr, hE⟩
  have hx := X.1
  have hb := X.2.1
  have hl := lv_entry ([va_rf (some h0), .int p0, .int p1, .int p2, .int p3, .int p4]) (n := 7) (Nat.le_of_ble_eq_true rfl)
  rw [lg_entry_eq]
  generalize (lg_sl ([va_rf (some h0), .int p0, .int p1, .int p2, .int p3, .int p4]) ++ List.replicate (7 - (lg_sl ([va_rf (some h0), .int p0, .int p1, .int p2, .int p3, .int p4])).length) Slot.unset).toArray = ls at hl ⊢
  have hl : lv_has ls 7 [(0, va_rf (some h0)), (1, .int p0), (2, .int p1), (3, .int p2), (4, .int p3), (5, .int p4)] := hl
  unfold D_Mo_fits at hden
  refine gV.lift (fun _ _ _ _ => g_aload_n hx hb d_Mo_fits_0 rfl (lv_at hl 0 rfl)) ?_
  replace hden := gb hden
  obtain ⟨r1, hv, hden⟩ := hden
  refine r_getR X cl_Mo (k := 12) hv (by decide) q_777 d_Mo_fits_1 ?_
  refine gV.lift (fun _ _ _ _ => lv_iload_n hx hb d_Mo_fits_4 rfl (lv_at hl 1 rfl)) ?_
  replace hden := gb hden
  obtain ⟨a2, rfl, hden⟩ := hden
  replace hden := gb hden
  obtain ⟨v3, hv, hden⟩ := hden
  refine r_iald X (t := 0) rfl hv d_Mo_fits_5 ?_
  refine gV.lift2 (fun _ _ _ _ => lv_if_eq (tgt := 39) hx hb d_Mo_fits_6 (by decide)) (fun hc4 => ?_) (fun hc4 => ?_)
  · replace hden := gip hc4 hden
    exact w_Mo_fits_39 Y  h0 p0 p1 p4 S hden (lv_sub hl [0, 1, 2, 5] rfl)
  · replace hden := gin hc4 hden
    refine gV.lift (fun _ _ _ _ => g_aload_n hx hb d_Mo_fits_9 rfl (lv_at hl 0 rfl)) ?_
    replace hden := gb hden
    obtain ⟨r5, hv, hden⟩ := hden
    refine r_getR X cl_Mo (k := 12) hv (by decide) q_777 d_Mo_fits_10 ?_
    refine gV.lift (fun _ _ _ _ => lv_iload_n hx hb d_Mo_fits_13 rfl (lv_at hl 1 rfl)) ?_
    replace hden := gb hden
    obtain ⟨a6, rfl, hden⟩ := hden
    replace hden := gb hden
    obtain ⟨v7, hv, hden⟩ := hden
    refine r_iald X (t := 0) rfl hv d_Mo_fits_14 ?_
    refine gV.lift (fun _ _ _ _ => lv_iload_n hx hb d_Mo_fits_15 rfl (lv_at hl 3 rfl)) ?_
    refine gV.lift2 (fun _ _ _ _ => lv_icmp_ne (tgt := 43) hx hb d_Mo_fits_16 (by decide)) (fun hc8 => ?_) (fun hc8 => ?_)
    · replace hden := gin hc8 hden
      exact w_Mo_fits_43 Y  h0 p0 p1 p4 S hden (lv_sub hl [0, 1, 2, 5] rfl)
    · replace hden := gip hc8 hden
      refine gV.lift (fun _ _ _ _ => lv_iload hx hb d_Mo_fits_19 (lv_at hl 4 rfl)) ?_
      refine gV.lift (fun _ _ _ _ => g_aload_n hx hb d_Mo_fits_21 rfl (lv_at hl 0 rfl)) ?_
      replace hden := gb hden
      obtain ⟨r9, hv, hden⟩ := hden
      refine r_getR X cl_Mo (k := 13) hv (by decide) q_778 d_Mo_fits_22 ?_
      refine gV.lift (fun _ _ _ _ => lv_iload_n hx hb d_Mo_fits_25 rfl (lv_at hl 1 rfl)) ?_
      replace hden := gb hden
      obtain ⟨a10, rfl, hden⟩ := hden
      replace hden := gb hden
      obtain ⟨v11, hv, hden⟩ := hden
      refine r_iald X (t := 0) rfl hv d_Mo_fits_26 ?_
      refine gV.lift (fun _ _ _ _ => g_aload_n hx hb d_Mo_fits_27 rfl (lv_at hl 0 rfl)) ?_
      replace hden := gb hden
      obtain ⟨r12, hv, hden⟩ := hden
      refine r_getR X cl_Mo (k := 14) hv (by decide) q_779 d_Mo_fits_28 ?_
      refine gV.lift (fun _ _ _ _ => lv_iload_n hx hb d_Mo_fits_31 rfl (lv_at hl 1 rfl)) ?_
      replace hden := gb hden
      obtain ⟨a13, rfl, hden⟩ := hden
      replace hden := gb hden
      obtain ⟨v14, hv, hden⟩ := hden
      refine r_iald X (t := 0) rfl hv d_Mo_fits_32 ?_
      replace hden := gb2 hden
      obtain ⟨v16, S15, hz, hden⟩ := hden
      refine g_callS (As := [.int p3, .int v11, .int v14]) (rest := []) X hZ (c_Mo_in hz) q_855 q_5 q_853 q_854 ⟨by decide, by decide, by show _ = some 3; decide +kernel⟩ ⟨by decide, by decide⟩ hl.1 (Nat.le_of_ble_eq_true rfl) d_Mo_fits_33 rfl rfl ?_
      refine gV.lift2 (fun _ _ _ _ => lv_if_eq (tgt := 43) hx hb d_Mo_fits_36 (by decide)) (fun hc17 => ?_) (fun hc17 => ?_)
      · replace hden := gip hc17 hden
        exact w_Mo_fits_43 Y  h0 p0 p1 p4 S15 hden (lv_sub hl [0, 1, 2, 5] rfl)
      · replace hden := gin hc17 hden
        exact w_Mo_fits_39 Y  h0 p0 p1 p4 S15 hden (lv_sub hl [0, 1, 2, 5] rfl)
