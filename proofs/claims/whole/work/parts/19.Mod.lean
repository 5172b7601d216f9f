/-! PlanTextModel.best(IIIII)I -/
abbrev y_Mo_best : MethodName := ⟨"PlanTextModel", "best", "(IIIII)I"⟩
theorem d_Mo_best_0 : decode prog_12_method_28_code 0 = .ok (.iconst (-1), 1) := by decide +kernel
theorem d_Mo_best_1 : decode prog_12_method_28_code 1 = .ok (.istore 6, 2) := by decide +kernel
theorem d_Mo_best_3 : decode prog_12_method_28_code 3 = .ok (.iconst 1, 1) := by decide +kernel
theorem d_Mo_best_4 : decode prog_12_method_28_code 4 = .ok (.istore 7, 2) := by decide +kernel
theorem d_Mo_best_6 : decode prog_12_method_28_code 6 = .ok (.iload 7, 2) := by decide +kernel
theorem d_Mo_best_8 : decode prog_12_method_28_code 8 = .ok (.bipush 40, 2) := by decide +kernel
theorem d_Mo_best_10 : decode prog_12_method_28_code 10 = .ok (.if_icmp .gt 59, 3) := by decide +kernel
theorem d_Mo_best_13 : decode prog_12_method_28_code 13 = .ok (.bipush 50, 2) := by decide +kernel
theorem d_Mo_best_15 : decode prog_12_method_28_code 15 = .ok (.iload_n 1, 1) := by decide +kernel
theorem d_Mo_best_16 : decode prog_12_method_28_code 16 = .ok (.imul, 1) := by decide +kernel
theorem d_Mo_best_17 : decode prog_12_method_28_code 17 = .ok (.iload 7, 2) := by decide +kernel
theorem d_Mo_best_19 : decode prog_12_method_28_code 19 = .ok (.iadd, 1) := by decide +kernel
theorem d_Mo_best_20 : decode prog_12_method_28_code 20 = .ok (.istore 8, 2) := by decide +kernel
theorem d_Mo_best_22 : decode prog_12_method_28_code 22 = .ok (.aload_n 0, 1) := by decide +kernel
theorem d_Mo_best_23 : decode prog_12_method_28_code 23 = .ok (.iload 8, 2) := by decide +kernel
theorem d_Mo_best_25 : decode prog_12_method_28_code 25 = .ok (.iload_n 2, 1) := by decide +kernel
theorem d_Mo_best_26 : decode prog_12_method_28_code 26 = .ok (.iload_n 3, 1) := by decide +kernel
theorem d_Mo_best_27 : decode prog_12_method_28_code 27 = .ok (.iload 4, 2) := by decide +kernel
theorem d_Mo_best_29 : decode prog_12_method_28_code 29 = .ok (.iload 5, 2) := by decide +kernel
theorem d_Mo_best_31 : decode prog_12_method_28_code 31 = .ok (.invokevirtual 149, 3) := by decide +kernel
theorem d_Mo_best_34 : decode prog_12_method_28_code 34 = .ok (.ifCond .eq 29, 3) := by decide +kernel
theorem d_Mo_best_37 : decode prog_12_method_28_code 37 = .ok (.iload 6, 2) := by decide +kernel
theorem d_Mo_best_39 : decode prog_12_method_28_code 39 = .ok (.ifCond .lt 20, 3) := by decide +kernel
theorem d_Mo_best_42 : decode prog_12_method_28_code 42 = .ok (.aload_n 0, 1) := by decide +kernel
theorem d_Mo_best_43 : decode prog_12_method_28_code 43 = .ok (.getfield 42, 3) := by decide +kernel
theorem d_Mo_best_46 : decode prog_12_method_28_code 46 = .ok (.iload 8, 2) := by decide +kernel
theorem d_Mo_best_48 : decode prog_12_method_28_code 48 = .ok (.iaload, 1) := by decide +kernel
theorem d_Mo_best_49 : decode prog_12_method_28_code 49 = .ok (.aload_n 0, 1) := by decide +kernel
theorem d_Mo_best_50 : decode prog_12_method_28_code 50 = .ok (.getfield 42, 3) := by decide +kernel
theorem d_Mo_best_53 : decode prog_12_method_28_code 53 = .ok (.iload 6, 2) := by decide +kernel
theorem d_Mo_best_55 : decode prog_12_method_28_code 55 = .ok (.iaload, 1) := by decide +kernel
theorem d_Mo_best_56 : decode prog_12_method_28_code 56 = .ok (.if_icmp .le 7, 3) := by decide +kernel
theorem d_Mo_best_59 : decode prog_12_method_28_code 59 = .ok (.iload 8, 2) := by decide +kernel
theorem d_Mo_best_61 : decode prog_12_method_28_code 61 = .ok (.istore 6, 2) := by decide +kernel
theorem d_Mo_best_63 : decode prog_12_method_28_code 63 = .ok (.iinc 7 1, 3) := by decide +kernel
theorem d_Mo_best_66 : decode prog_12_method_28_code 66 = .ok (.goto (-60), 3) := by decide +kernel
theorem d_Mo_best_69 : decode prog_12_method_28_code 69 = .ok (.iload 6, 2) := by decide +kernel
theorem d_Mo_best_71 : decode prog_12_method_28_code 71 = .ok (.ireturn, 1) := by decide +kernel
def B_Mo_best_63 (k6 : Nat → Int32 → Int32 → Int32 → Int32 → Int32 → Int32 → Int32 → gS → Option (Int32 × gS)) (x0 : Nat) (x1 : Int32) (x2 : Int32) (x3 : Int32) (x4 : Int32) (x5 : Int32) (x6 : Int32) (x7 : Int32) (S : gS) : Option (Int32 × gS) := k6 x0 x1 x2 x3 x4 x5 x6 (x7 + 1) S
set_option maxRecDepth 100000 in
set_option maxHeartbeats 4000000 in
theorem w_Mo_best_63 {D : va_G} {cT : Nat → ClassId} {H0 : Heap} {l : Launch} {p : Program} {e : Env} {s : State} {m : MethodId} {args : Array Value} {below : List Frame} {meth : Method} {c : Code} {S0 : gS} {S' : gS} {r : Int32} (Y : gY D cT H0 p s m args meth c prog_12_method_28_code 9 "PlanTextModel" 2 48 S0 (Option.some Jvm.ClassFile.FieldType.int)) {k6 : Nat → Int32 → Int32 → Int32 → Int32 → Int32 → Int32 → Int32 → gS → Option (Int32 × gS)} (hk6 : ∀ (x0 : Nat) (x1 : Int32) (x2 : Int32) (x3 : Int32) (x4 : Int32) (x5 : Int32) (x6 : Int32) (x7 : Int32) (S : gS) (ls : Array Slot), k6 x0 x1 x2 x3 x4 x5 x6 x7 S = some (r, S') → lv_has ls 9 [(0, va_rf (some x0)), (1, .int x1), (2, .int x2), (3, .int x3), (4, .int x4), (5, .int x5), (6, .int x6), (7, .int x7)] → gV D cT H0 p l e (gRm 2 48 S0) s m args below meth c (gQ D cT H0 below S0 S' (.inr (some (.int r))) s) S0 S (F0 m 6 ls [])) (x0 : Nat) (x1 : Int32) (x2 : Int32) (x3 : Int32) (x4 : Int32) (x5 : Int32) (x6 : Int32) (x7 : Int32) (S : gS) (hden : B_Mo_best_63 k6 x0 x1 x2 x3 x4 x5 x6 x7 S = some (r, S')) {ls : Array Slot} (hl : lv_has ls 9 [(0, va_rf (some x0)), (1, .int x1), (2, .int x2), (3, .int x3), (4, .int x4), (5, .int x5), (6, .int x6), (7, .int x7)]) : gV D cT H0 p l e (gRm 2 48 S0) s m args below meth c (gQ D cT H0 below S0 S' (.inr (some (.int r))) s) S0 S (F0 m 63 ls []) := by
  obtain ⟨X, hZ, hex, hr, hE⟩ := id Y
  have hx := X.1
  have hb := X.2.1
  unfold B_Mo_best_63 at hden
  refine gV.liftS (nL := 9) (lv' := [(7, .int (x7 + 1)), (0, va_rf (some x0)), (1, .int x1), (2, .int x2), (3, .int x3), (4, .int x4), (5, .int x5), (6, .int x6)]) (fun _ _ _ _ => lv_iinc (v := (x7 + 1)) hx hb d_Mo_best_63 hl (k := 7) rfl rfl (by decide) rfl) (fun ls hl => ?_)
  refine gV.lift (fun _ _ _ _ => lv_goto (tgt := 6) hx hb d_Mo_best_66 (by decide)) ?_
  exact hk6 x0 x1 x2 x3 x4 x5 x6 (x7 + 1) S _ hden (lv_sub hl [1, 2, 3, 4, 5, 6, 7, 0] rfl)
def B_Mo_best_59 (k6 : Nat → Int32 → Int32 → Int32 → Int32 → Int32 → Int32 → Int32 → gS → Option (Int32 × gS)) (x0 : Nat) (x1 : Int32) (x2 : Int32) (x3 : Int32) (x4 : Int32) (x5 : Int32) (x7 : Int32) (x8 : Int32) (S : gS) : Option (Int32 × gS) := B_Mo_best_63 k6 x0 x1 x2 x3 x4 x5 x8 x7 S
set_option maxRecDepth 100000 in
set_option maxHeartbeats 4000000 in
theorem w_Mo_best_59 {D : va_G} {cT : Nat → ClassId} {H0 : Heap} {l : Launch} {p : Program} {e : Env} {s : State} {m : MethodId} {args : Array Value} {below : List Frame} {meth : Method} {c : Code} {S0 : gS} {S' : gS} {r : Int32} (Y : gY D cT H0 p s m args meth c prog_12_method_28_code 9 "PlanTextModel" 2 48 S0 (Option.some Jvm.ClassFile.FieldType.int)) {k6 : Nat → Int32 → Int32 → Int32 → Int32 → Int32 → Int32 → Int32 → gS → Option (Int32 × gS)} (hk6 : ∀ (x0 : Nat) (x1 : Int32) (x2 : Int32) (x3 : Int32) (x4 : Int32) (x5 : Int32) (x6 : Int32) (x7 : Int32) (S : gS) (ls : Array Slot), k6 x0 x1 x2 x3 x4 x5 x6 x7 S = some (r, S') → lv_has ls 9 [(0, va_rf (some x0)), (1, .int x1), (2, .int x2), (3, .int x3), (4, .int x4), (5, .int x5), (6, .int x6), (7, .int x7)] → gV D cT H0 p l e (gRm 2 48 S0) s m args below meth c (gQ D cT H0 below S0 S' (.inr (some (.int r))) s) S0 S (F0 m 6 ls [])) (x0 : Nat) (x1 : Int32) (x2 : Int32) (x3 : Int32) (x4 : Int32) (x5 : Int32) (x7 : Int32) (x8 : Int32) (S : gS) (hden : B_Mo_best_59 k6 x0 x1 x2 x3 x4 x5 x7 x8 S = some (r, S')) {ls : Array Slot} (hl : lv_has ls 9 [(0, va_rf (some x0)), (1, .int x1), (2, .int x2), (3, .int x3), (4, .int x4), (5, .int x5), (7, .int x7), (8, .int x8)]) : gV D cT H0 p l e (gRm 2 48 S0) s m args below meth c (gQ D cT H0 below S0 S' (.inr (some (.int r))) s) S0 S (F0 m 59 ls []) := by
  obtain ⟨X, hZ, hex, hr, hE⟩ := id Y
  have hx := X.1
  have hb := X.2.1
  unfold B_Mo_best_59 at hden
  refine gV.lift (fun _ _ _ _ => lv_iload hx hb d_Mo_best_59 (lv_at hl 7 rfl)) ?_
  refine gV.liftS (nL := 9) (lv' := [(6, .int x8), (0, va_rf (some x0)), (1, .int x1), (2, .int x2), (3, .int x3), (4, .int x4), (5, .int x5), (7, .int x7), (8, .int x8)]) (fun _ _ _ _ => lv_istore hx hb d_Mo_best_61 hl (by decide) rfl) (fun ls hl => ?_)
  exact w_Mo_best_63 Y hk6 x0 x1 x2 x3 x4 x5 x8 x7 S hden (lv_sub hl [1, 2, 3, 4, 5, 6, 0, 7] rfl)
def B_Mo_best_6 (k6 : Nat → Int32 → Int32 → Int32 → Int32 → Int32 → Int32 → Int32 → gS → Option (Int32 × gS)) (x0 : Nat) (x1 : Int32) (x2 : Int32) (x3 : Int32) (x4 : Int32) (x5 : Int32) (x6 : Int32) (x7 : Int32) (S : gS) : Option (Int32 × gS) := (if 40 < x7 then some (x6, S) else Option.bind (gOb S x0 10) (fun fs4 => gB2 (D_Mo_fits x0 ((50 * x1) + x7) x2 x3 x4 x5 S) (fun v3 S2 => (if v3 = 0 then B_Mo_best_63 k6 x0 x1 x2 x3 x4 x5 x6 x7 S2 else (if x6 < 0 then B_Mo_best_59 k6 x0 x1 x2 x3 x4 x5 x7 ((50 * x1) + x7) S2 else Option.bind (gRf S2 x0 10 17) (fun r7 => Option.bind r7 (fun a8 => Option.bind (gAI S2 a8 0 ((50 * x1) + x7)) (fun v9 => Option.bind (gRf S2 x0 10 17) (fun r10 => Option.bind r10 (fun a11 => Option.bind (gAI S2 a11 0 x6) (fun v12 => (if v9 ≤ v12 then B_Mo_best_63 k6 x0 x1 x2 x3 x4 x5 x6 x7 S2 else B_Mo_best_59 k6 x0 x1 x2 x3 x4 x5 x7 ((50 * x1) + x7) S2))))))))))))
set_option maxRecDepth 100000 in
set_option maxHeartbeats 4000000 in
theorem w_Mo_best_6 {D : va_G} {cT : Nat → ClassId} {H0 : Heap} {l : Launch} {p : Program} {e : Env} {s : State} {m : MethodId} {args : Array Value} {below : List Frame} {meth : Method} {c : Code} {S0 : gS} {S' : gS} {r : Int32} (Y : gY D cT H0 p s m args meth c prog_12_method_28_code 9 "PlanTextModel" 2 48 S0 (Option.some Jvm.ClassFile.FieldType.int)) {k6 : Nat → Int32 → Int32 → Int32 → Int32 → Int32 → Int32 → Int32 → gS → Option (Int32 × gS)} (hk6 : ∀ (x0 : Nat) (x1 : Int32) (x2 : Int32) (x3 : Int32) (x4 : Int32) (x5 : Int32) (x6 : Int32) (x7 : Int32) (S : gS) (ls : Array Slot), k6 x0 x1 x2 x3 x4 x5 x6 x7 S = some (r, S') → lv_has ls 9 [(0, va_rf (some x0)), (1, .int x1), (2, .int x2), (3, .int x3), (4, .int x4), (5, .int x5), (6, .int x6), (7, .int x7)] → gV D cT H0 p l e (gRm 2 48 S0) s m args below meth c (gQ D cT H0 below S0 S' (.inr (some (.int r))) s) S0 S (F0 m 6 ls [])) (x0 : Nat) (x1 : Int32) (x2 : Int32) (x3 : Int32) (x4 : Int32) (x5 : Int32) (x6 : Int32) (x7 : Int32) (S : gS) (hden : B_Mo_best_6 k6 x0 x1 x2 x3 x4 x5 x6 x7 S = some (r, S')) {ls : Array Slot} (hl : lv_has ls 9 [(0, va_rf (some x0)), (1, .int x1), (2, .int x2), (3, .int x3), (4, .int x4), (5, .int x5), (6, .int x6), (7, .int x7)]) : gV D cT H0 p l e (gRm 2 48 S0) s m args below meth c (gQ D cT H0 below S0 S' (.inr (some (.int r))) s) S0 S (F0 m 6 ls []) := by
  obtain ⟨X, hZ, hex, hr, hE⟩ := id Y
  have hx := X.1
  have hb := X.2.1
  unfold B_Mo_best_6 at hden
  refine gV.lift (fun _ _ _ _ => lv_iload hx hb d_Mo_best_6 (lv_at hl 7 rfl)) ?_
  refine gV.lift (fun _ _ _ _ => lv_bipush (v := 40) hx hb d_Mo_best_8 (by decide)) ?_
  refine gV.lift2 (fun _ _ _ _ => lv_icmp_gt (tgt := 69) hx hb d_Mo_best_10 (by decide)) (fun hc1 => ?_) (fun hc1 => ?_)
  · replace hden := gip hc1 hden
    refine gV.lift (fun _ _ _ _ => lv_iload hx hb d_Mo_best_69 (lv_at hl 6 rfl)) ?_
    obtain ⟨rfl, rfl⟩ := gpi hden
    exact g_iret X hr d_Mo_best_71
  · replace hden := gin hc1 hden
    refine gV.lift (fun _ _ _ _ => lv_bipush (v := 50) hx hb d_Mo_best_13 (by decide)) ?_
    refine gV.lift (fun _ _ _ _ => lv_iload_n hx hb d_Mo_best_15 rfl (lv_at hl 1 rfl)) ?_
    refine gV.lift (fun _ _ _ _ => lv_imul hx hb d_Mo_best_16) ?_
    refine gV.lift (fun _ _ _ _ => lv_iload hx hb d_Mo_best_17 (lv_at hl 7 rfl)) ?_
    refine gV.lift (fun _ _ _ _ => lv_iadd hx hb d_Mo_best_19) ?_
    refine gV.liftS (nL := 9) (lv' := [(8, .int ((50 * x1) + x7)), (0, va_rf (some x0)), (1, .int x1), (2, .int x2), (3, .int x3), (4, .int x4), (5, .int x5), (6, .int x6), (7, .int x7)]) (fun _ _ _ _ => lv_istore hx hb d_Mo_best_20 hl (by decide) rfl) (fun ls hl => ?_)
    refine gV.lift (fun _ _ _ _ => g_aload_n hx hb d_Mo_best_22 rfl (lv_at hl 1 rfl)) ?_
    refine gV.lift (fun _ _ _ _ => lv_iload hx hb d_Mo_best_23 (lv_at hl 0 rfl)) ?_
    refine gV.lift (fun _ _ _ _ => lv_iload_n hx hb d_Mo_best_25 rfl (lv_at hl 3 rfl)) ?_
    refine gV.lift (fun _ _ _ _ => lv_iload_n hx hb d_Mo_best_26 rfl (lv_at hl 4 rfl)) ?_
    refine gV.lift (fun _ _ _ _ => lv_iload hx hb d_Mo_best_27 (lv_at hl 5 rfl)) ?_
    refine gV.lift (fun _ _ _ _ => lv_iload hx hb d_Mo_best_29 (lv_at hl 6 rfl)) ?_
    replace hden := gb hden
    obtain ⟨fs4, ho, hden⟩ := hden
    replace hden := gb2 hden
    obtain ⟨v3, S2, hz, hden⟩ := hden
    refine g_callV (As := [.int ((50 * x1) + x7), .int x2, .int x3, .int x4, .int x5]) (rest := []) X hZ (c_Mo_fits hz) cl_Mo (gOb_spec ho) q_950 q_5 q_947 q_949 qp_44 ⟨by decide, by decide, by show _ = some 5; decide +kernel⟩ ⟨by decide, by decide⟩ hl.1 (Nat.le_of_ble_eq_true rfl) d_Mo_best_31 rfl rfl ?_
    refine gV.lift2 (fun _ _ _ _ => lv_if_eq (tgt := 63) hx hb d_Mo_best_34 (by decide)) (fun hc5 => ?_) (fun hc5 => ?_)
    · replace hden := gip hc5 hden
      exact w_Mo_best_63 Y hk6 x0 x1 x2 x3 x4 x5 x6 x7 S2 hden (lv_sub hl [1, 2, 3, 4, 5, 6, 7, 8] rfl)
    · replace hden := gin hc5 hden
      refine gV.lift (fun _ _ _ _ => lv_iload hx hb d_Mo_best_37 (lv_at hl 7 rfl)) ?_
      refine gV.lift2 (fun _ _ _ _ => lv_if_lt (tgt := 59) hx hb d_Mo_best_39 (by decide)) (fun hc6 => ?_) (fun hc6 => ?_)
      · replace hden := gip hc6 hden
        exact w_Mo_best_59 Y hk6 x0 x1 x2 x3 x4 x5 x7 ((50 * x1) + x7) S2 hden (lv_sub hl [1, 2, 3, 4, 5, 6, 8, 0] rfl)
      · replace hden := gin hc6 hden
        refine gV.lift (fun _ _ _ _ => g_aload_n hx hb d_Mo_best_42 rfl (lv_at hl 1 rfl)) ?_
        replace hden := gb hden
        obtain ⟨r7, hv, hden⟩ := hden
        refine r_getR X cl_Mo (k := 17) hv (by decide) q_782 d_Mo_best_43 ?_
        refine gV.lift (fun _ _ _ _ => lv_iload hx hb d_Mo_best_46 (lv_at hl 0 rfl)) ?_
        replace hden := gb hden
        obtain ⟨a8, rfl, hden⟩ := hden
        replace hden := gb hden
        obtain ⟨v9, hv, hden⟩ := hden
        refine r_iald X (t := 0) rfl hv d_Mo_best_48 ?_
        refine gV.lift (fun _ _ _ _ => g_aload_n hx hb d_Mo_best_49 rfl (lv_at hl 1 rfl)) ?_
        replace hden := gb hden
        obtain ⟨r10, hv, hden⟩ := hden
        refine r_getR X cl_Mo (k := 17) hv (by decide) q_782 d_Mo_best_50 ?_
        refine gV.lift (fun _ _ _ _ => lv_iload hx hb d_Mo_best_53 (lv_at hl 7 rfl)) ?_
        replace hden := gb hden
        obtain ⟨a11, rfl, hden⟩ := hden
        replace hden := gb hden
        obtain ⟨v12, hv, hden⟩ := hden
        refine r_iald X (t := 0) rfl hv d_Mo_best_55 ?_
        refine gV.lift2 (fun _ _ _ _ => lv_icmp_le (tgt := 63) hx hb d_Mo_best_56 (by decide)) (fun hc13 => ?_) (fun hc13 => ?_)
        · replace hden := gip hc13 hden
          exact w_Mo_best_63 Y hk6 x0 x1 x2 x3 x4 x5 x6 x7 S2 hden (lv_sub hl [1, 2, 3, 4, 5, 6, 7, 8] rfl)
        · replace hden := gin hc13 hden
          exact w_Mo_best_59 Y hk6 x0 x1 x2 x3 x4 x5 x7 ((50 * x1) + x7) S2 hden (lv_sub hl [1, 2, 3, 4, 5, 6, 8, 0] rfl)
def L_Mo_best_6  : Nat → Nat → Int32 → Int32 → Int32 → Int32 → Int32 → Int32 → Int32 → gS → Option (Int32 × gS)
  | 0 => fun _ _ _ _ _ _ _ _ _ => none
  | n + 1 => fun x0 x1 x2 x3 x4 x5 x6 x7 S => B_Mo_best_6  (L_Mo_best_6  n) x0 x1 x2 x3 x4 x5 x6 x7 S
theorem wL_Mo_best_6 {D : va_G} {cT : Nat → ClassId} {H0 : Heap} {l : Launch} {p : Program} {e : Env} {s : State} {m : MethodId} {args : Array Value} {below : List Frame} {meth : Method} {c : Code} {S0 : gS} {S' : gS} {r : Int32} (Y : gY D cT H0 p s m args meth c prog_12_method_28_code 9 "PlanTextModel" 2 48 S0 (Option.some Jvm.ClassFile.FieldType.int))  : ∀ (n : Nat) (x0 : Nat) (x1 : Int32) (x2 : Int32) (x3 : Int32) (x4 : Int32) (x5 : Int32) (x6 : Int32) (x7 : Int32) (S : gS) (ls : Array Slot), L_Mo_best_6  n x0 x1 x2 x3 x4 x5 x6 x7 S = some (r, S') → lv_has ls 9 [(0, va_rf (some x0)), (1, .int x1), (2, .int x2), (3, .int x3), (4, .int x4), (5, .int x5), (6, .int x6), (7, .int x7)] → gV D cT H0 p l e (gRm 2 48 S0) s m args below meth c (gQ D cT H0 below S0 S' (.inr (some (.int r))) s) S0 S (F0 m 6 ls []) := by
  intro n
  induction n with
  | zero => intro x0 x1 x2 x3 x4 x5 x6 x7 S ls h hl; cases h
  | succ n ih => intro x0 x1 x2 x3 x4 x5 x6 x7 S ls h hl; exact w_Mo_best_6 Y ih x0 x1 x2 x3 x4 x5 x6 x7 S h hl
def D_Mo_best (h0 : Nat) (p0 : Int32) (p1 : Int32) (p2 : Int32) (p3 : Int32) (p4 : Int32) (S : gS) : Option (Int32 × gS) := L_Mo_best_6  gF h0 p0 p1 p2 p3 p4 (-1) 1 S
set_option maxRecDepth 100000 in
set_option maxHeartbeats 4000000 in
theorem c_Mo_best {D : va_G} {cT : Nat → ClassId} {H0 : Heap} {l : Launch} {S : gS} {S' : gS} {h0 : Nat} {p0 : Int32} {p1 : Int32} {p2 : Int32} {p3 : Int32} {p4 : Int32} {r : Int32} (hden : D_Mo_best h0 p0 p1 p2 p3 p4 S = some (r, S')) : gM D cT H0 l y_Mo_best (Cond.code y_Mo_best prog_12_method_28_code 9 (Option.some Jvm.ClassFile.FieldType.int)) 2 48 [va_rf (some h0), .int p0, .int p1, .int p2, .int p3, .int p4] S S' (.inr (some (.int r))) := by
  refine gM.ofV (by decide) ?_
  intro p e s m args below meth c s₁ B hml ea X hZ hex hr hE
  subst ea
  have Y : gY D cT H0 p s m _ meth c prog_12_method_28_code 9 "PlanTextModel" 2 48 S (Option.some Jvm.ClassFile.FieldType.int) := ⟨X, hZ, hex, hr, hE⟩
  have hx := X.1
  have hb := X.2.1
  have hl := lv_entry ([va_rf (some h0), .int p0, .int p1, .int p2, .int p3, .int p4]) (n := 9) (Nat.le_of_ble_eq_true rfl)
  rw [lg_entry_eq]
  generalize (lg_sl ([va_rf (some h0), .int p0, .int p1, .int p2, .int p3, .int p4]) ++ List.replicate (9 - (lg_sl ([va_rf (some h0), .int p0, .int p1, .int p2, .int p3, .int p4])).length) Slot.unset).toArray = ls at hl ⊢
  have hl : lv_has ls 9 [(0, va_rf (some h0)), (1, .int p0), (2, .int p1), (3, .int p2), (4, .int p3), (5, .int p4)] := hl
  unfold D_Mo_best at hden
  refine gV.lift (fun _ _ _ _ => lv_iconst (v := (-1)) hx hb d_Mo_best_0 (by decide)) ?_
  refine gV.liftS (nL := 9) (lv' := [(6, .int (-1)), (0, va_rf (some h0)), (1, .int p0), (2, .int p1), (3, .int p2), (4, .int p3), (5, .int p4)]) (fun _ _ _ _ => lv_istore hx hb d_Mo_best_1 hl (by decide) rfl) (fun ls hl => ?_)
  refine gV.lift (fun _ _ _ _ => lv_iconst (v := 1) hx hb d_Mo_best_3 (by decide)) ?_
  refine gV.liftS (nL := 9) (lv' := [(7, .int 1), (6, .int (-1)), (0, va_rf (some h0)), (1, .int p0), (2, .int p1), (3, .int p2), (4, .int p3), (5, .int p4)]) (fun _ _ _ _ => lv_istore hx hb d_Mo_best_4 hl (by decide) rfl) (fun ls hl => ?_)
  exact wL_Mo_best_6 Y  gF h0 p0 p1 p2 p3 p4 (-1) 1 S _ hden (lv_sub hl [2, 3, 4, 5, 6, 7, 1, 0] rfl)
/-! PlanTextModel.plan(IIIII)I -/
abbrev y_Mo_plan : MethodName := ⟨"PlanTextModel", "plan", "(IIIII)I"⟩
theorem d_Mo_plan_0 : decode prog_12_method_29_code 0 = .ok (.iload_n 2, 1) := by decide +kernel
theorem d_Mo_plan_1 : decode prog_12_method_29_code 1 = .ok (.iconst 1, 1) := by decide +kernel
theorem d_Mo_plan_2 : decode prog_12_method_29_code 2 = .ok (.bipush 99, 2) := by decide +kernel
theorem d_Mo_plan_4 : decode prog_12_method_29_code 4 = .ok (.invokestatic 72, 3) := by decide +kernel
theorem d_Mo_plan_7 : decode prog_12_method_29_code 7 = .ok (.ifCond .eq 33, 3) := by decide +kernel
theorem d_Mo_plan_10 : decode prog_12_method_29_code 10 = .ok (.iload_n 3, 1) := by decide +kernel
theorem d_Mo_plan_11 : decode prog_12_method_29_code 11 = .ok (.iconst 1, 1) := by decide +kernel
theorem d_Mo_plan_12 : decode prog_12_method_29_code 12 = .ok (.sipush 999, 3) := by decide +kernel
theorem d_Mo_plan_15 : decode prog_12_method_29_code 15 = .ok (.invokestatic 72, 3) := by decide +kernel
theorem d_Mo_plan_18 : decode prog_12_method_29_code 18 = .ok (.ifCond .eq 22, 3) := by decide +kernel
theorem d_Mo_plan_21 : decode prog_12_method_29_code 21 = .ok (.iload 4, 2) := by decide +kernel
theorem d_Mo_plan_23 : decode prog_12_method_29_code 23 = .ok (.iconst 0, 1) := by decide +kernel
theorem d_Mo_plan_24 : decode prog_12_method_29_code 24 = .ok (.bipush 23, 2) := by decide +kernel
theorem d_Mo_plan_26 : decode prog_12_method_29_code 26 = .ok (.invokestatic 72, 3) := by decide +kernel
theorem d_Mo_plan_29 : decode prog_12_method_29_code 29 = .ok (.ifCond .eq 11, 3) := by decide +kernel
theorem d_Mo_plan_32 : decode prog_12_method_29_code 32 = .ok (.iload 5, 2) := by decide +kernel
theorem d_Mo_plan_34 : decode prog_12_method_29_code 34 = .ok (.invokestatic 153, 3) := by decide +kernel
theorem d_Mo_plan_37 : decode prog_12_method_29_code 37 = .ok (.ifCond .ne 7, 3) := by decide +kernel
theorem d_Mo_plan_40 : decode prog_12_method_29_code 40 = .ok (.iconst 1, 1) := by decide +kernel
theorem d_Mo_plan_41 : decode prog_12_method_29_code 41 = .ok (.goto 4, 3) := by decide +kernel
theorem d_Mo_plan_44 : decode prog_12_method_29_code 44 = .ok (.iconst 0, 1) := by decide +kernel
theorem d_Mo_plan_45 : decode prog_12_method_29_code 45 = .ok (.istore 6, 2) := by decide +kernel
theorem d_Mo_plan_47 : decode prog_12_method_29_code 47 = .ok (.aload_n 0, 1) := by decide +kernel
theorem d_Mo_plan_48 : decode prog_12_method_29_code 48 = .ok (.iload_n 1, 1) := by decide +kernel
theorem d_Mo_plan_49 : decode prog_12_method_29_code 49 = .ok (.iconst 1, 1) := by decide +kernel
theorem d_Mo_plan_50 : decode prog_12_method_29_code 50 = .ok (.bipush 9, 2) := by decide +kernel
theorem d_Mo_plan_52 : decode prog_12_method_29_code 52 = .ok (.invokestatic 72, 3) := by decide +kernel
theorem d_Mo_plan_55 : decode prog_12_method_29_code 55 = .ok (.ifCond .ne 7, 3) := by decide +kernel
theorem d_Mo_plan_58 : decode prog_12_method_29_code 58 = .ok (.iconst 1, 1) := by decide +kernel
theorem d_Mo_plan_59 : decode prog_12_method_29_code 59 = .ok (.goto 4, 3) := by decide +kernel
theorem d_Mo_plan_62 : decode prog_12_method_29_code 62 = .ok (.iconst 0, 1) := by decide +kernel
theorem d_Mo_plan_63 : decode prog_12_method_29_code 63 = .ok (.iload 6, 2) := by decide +kernel
theorem d_Mo_plan_65 : decode prog_12_method_29_code 65 = .ok (.iconst 0, 1) := by decide +kernel
theorem d_Mo_plan_66 : decode prog_12_method_29_code 66 = .ok (.invokevirtual 79, 3) := by decide +kernel
theorem d_Mo_plan_69 : decode prog_12_method_29_code 69 = .ok (.ifCond .eq 5, 3) := by decide +kernel
theorem d_Mo_plan_72 : decode prog_12_method_29_code 72 = .ok (.iconst 0, 1) := by decide +kernel
theorem d_Mo_plan_73 : decode prog_12_method_29_code 73 = .ok (.ireturn, 1) := by decide +kernel
theorem d_Mo_plan_74 : decode prog_12_method_29_code 74 = .ok (.aload_n 0, 1) := by decide +kernel
theorem d_Mo_plan_75 : decode prog_12_method_29_code 75 = .ok (.iload 5, 2) := by decide +kernel
theorem d_Mo_plan_77 : decode prog_12_method_29_code 77 = .ok (.invokevirtual 156, 3) := by decide +kernel
theorem d_Mo_plan_80 : decode prog_12_method_29_code 80 = .ok (.istore 7, 2) := by decide +kernel
theorem d_Mo_plan_82 : decode prog_12_method_29_code 82 = .ok (.iload 7, 2) := by decide +kernel
theorem d_Mo_plan_84 : decode prog_12_method_29_code 84 = .ok (.ifCond .ge 7, 3) := by decide +kernel
theorem d_Mo_plan_87 : decode prog_12_method_29_code 87 = .ok (.iconst (-1), 1) := by decide +kernel
theorem d_Mo_plan_88 : decode prog_12_method_29_code 88 = .ok (.goto 14, 3) := by decide +kernel
theorem d_Mo_plan_91 : decode prog_12_method_29_code 91 = .ok (.aload_n 0, 1) := by decide +kernel
theorem d_Mo_plan_92 : decode prog_12_method_29_code 92 = .ok (.iload 7, 2) := by decide +kernel
theorem d_Mo_plan_94 : decode prog_12_method_29_code 94 = .ok (.iload_n 1, 1) := by decide +kernel
theorem d_Mo_plan_95 : decode prog_12_method_29_code 95 = .ok (.iload_n 2, 1) := by decide +kernel
theorem d_Mo_plan_96 : decode prog_12_method_29_code 96 = .ok (.iload_n 3, 1) := by decide +kernel
theorem d_Mo_plan_97 : decode prog_12_method_29_code 97 = .ok (.iload 4, 2) := by decide +kernel
theorem d_Mo_plan_99 : decode prog_12_method_29_code 99 = .ok (.invokevirtual 159, 3) := by decide +kernel
theorem d_Mo_plan_102 : decode prog_12_method_29_code 102 = .ok (.istore 8, 2) := by decide +kernel
theorem d_Mo_plan_104 : decode prog_12_method_29_code 104 = .ok (.iload 7, 2) := by decide +kernel
theorem d_Mo_plan_106 : decode prog_12_method_29_code 106 = .ok (.ifCond .lt 39, 3) := by decide +kernel
theorem d_Mo_plan_109 : decode prog_12_method_29_code 109 = .ok (.iload 8, 2) := by decide +kernel
theorem d_Mo_plan_111 : decode prog_12_method_29_code 111 = .ok (.ifCond .ge 34, 3) := by decide +kernel
theorem d_Mo_plan_114 : decode prog_12_method_29_code 114 = .ok (.aload_n 0, 1) := by decide +kernel
theorem d_Mo_plan_115 : decode prog_12_method_29_code 115 = .ok (.getfield 20, 3) := by decide +kernel
theorem d_Mo_plan_118 : decode prog_12_method_29_code 118 = .ok (.bipush 50, 2) := by decide +kernel
theorem d_Mo_plan_120 : decode prog_12_method_29_code 120 = .ok (.iload 7, 2) := by decide +kernel
theorem d_Mo_plan_122 : decode prog_12_method_29_code 122 = .ok (.ifCond .ge 7, 3) := by decide +kernel
theorem d_Mo_plan_125 : decode prog_12_method_29_code 125 = .ok (.iconst 0, 1) := by decide +kernel
theorem d_Mo_plan_126 : decode prog_12_method_29_code 126 = .ok (.goto 5, 3) := by decide +kernel
theorem d_Mo_plan_129 : decode prog_12_method_29_code 129 = .ok (.iload 7, 2) := by decide +kernel
theorem d_Mo_plan_131 : decode prog_12_method_29_code 131 = .ok (.imul, 1) := by decide +kernel
theorem d_Mo_plan_132 : decode prog_12_method_29_code 132 = .ok (.bipush 40, 2) := by decide +kernel
theorem d_Mo_plan_134 : decode prog_12_method_29_code 134 = .ok (.iadd, 1) := by decide +kernel
theorem d_Mo_plan_135 : decode prog_12_method_29_code 135 = .ok (.iload_n 1, 1) := by decide +kernel
theorem d_Mo_plan_136 : decode prog_12_method_29_code 136 = .ok (.iadd, 1) := by decide +kernel
theorem d_Mo_plan_137 : decode prog_12_method_29_code 137 = .ok (.baload, 1) := by decide +kernel
theorem d_Mo_plan_138 : decode prog_12_method_29_code 138 = .ok (.ifCond .eq 7, 3) := by decide +kernel
theorem d_Mo_plan_141 : decode prog_12_method_29_code 141 = .ok (.iconst 1, 1) := by decide +kernel
theorem d_Mo_plan_142 : decode prog_12_method_29_code 142 = .ok (.goto 4, 3) := by decide +kernel
theorem d_Mo_plan_145 : decode prog_12_method_29_code 145 = .ok (.iconst 0, 1) := by decide +kernel
theorem d_Mo_plan_146 : decode prog_12_method_29_code 146 = .ok (.istore 9, 2) := by decide +kernel
theorem d_Mo_plan_148 : decode prog_12_method_29_code 148 = .ok (.aload_n 0, 1) := by decide +kernel
theorem d_Mo_plan_149 : decode prog_12_method_29_code 149 = .ok (.iload 9, 2) := by decide +kernel
theorem d_Mo_plan_151 : decode prog_12_method_29_code 151 = .ok (.ifCond .eq 16, 3) := by decide +kernel
theorem d_Mo_plan_154 : decode prog_12_method_29_code 154 = .ok (.bipush 50, 2) := by decide +kernel
theorem d_Mo_plan_156 : decode prog_12_method_29_code 156 = .ok (.iload 7, 2) := by decide +kernel
theorem d_Mo_plan_158 : decode prog_12_method_29_code 158 = .ok (.imul, 1) := by decide +kernel
theorem d_Mo_plan_159 : decode prog_12_method_29_code 159 = .ok (.bipush 40, 2) := by decide +kernel
theorem d_Mo_plan_161 : decode prog_12_method_29_code 161 = .ok (.iadd, 1) := by decide +kernel
theorem d_Mo_plan_162 : decode prog_12_method_29_code 162 = .ok (.iload_n 1, 1) := by decide +kernel
theorem d_Mo_plan_163 : decode prog_12_method_29_code 163 = .ok (.iadd, 1) := by decide +kernel
theorem d_Mo_plan_164 : decode prog_12_method_29_code 164 = .ok (.goto 5, 3) := by decide +kernel
theorem d_Mo_plan_167 : decode prog_12_method_29_code 167 = .ok (.iload 8, 2) := by decide +kernel
theorem d_Mo_plan_169 : decode prog_12_method_29_code 169 = .ok (.putfield 60, 3) := by decide +kernel
theorem d_Mo_plan_172 : decode prog_12_method_29_code 172 = .ok (.iload 9, 2) := by decide +kernel
theorem d_Mo_plan_174 : decode prog_12_method_29_code 174 = .ok (.ifCond .eq 7, 3) := by decide +kernel
theorem d_Mo_plan_177 : decode prog_12_method_29_code 177 = .ok (.iconst 0, 1) := by decide +kernel
theorem d_Mo_plan_178 : decode prog_12_method_29_code 178 = .ok (.goto 17, 3) := by decide +kernel
theorem d_Mo_plan_181 : decode prog_12_method_29_code 181 = .ok (.iload 8, 2) := by decide +kernel
theorem d_Mo_plan_183 : decode prog_12_method_29_code 183 = .ok (.ifCond .ge 7, 3) := by decide +kernel
theorem d_Mo_plan_186 : decode prog_12_method_29_code 186 = .ok (.iconst (-1), 1) := by decide +kernel
theorem d_Mo_plan_187 : decode prog_12_method_29_code 187 = .ok (.goto 8, 3) := by decide +kernel
theorem d_Mo_plan_190 : decode prog_12_method_29_code 190 = .ok (.iload 8, 2) := by decide +kernel
theorem d_Mo_plan_192 : decode prog_12_method_29_code 192 = .ok (.bipush 50, 2) := by decide +kernel
theorem d_Mo_plan_194 : decode prog_12_method_29_code 194 = .ok (.irem, 1) := by decide +kernel
theorem d_Mo_plan_195 : decode prog_12_method_29_code 195 = .ok (.ireturn, 1) := by decide +kernel
def B_Mo_plan_195  (t0 : Int32) (S : gS) : Option (Int32 × gS) := some (t0, S)
set_option maxRecDepth 100000 in
set_option maxHeartbeats 4000000 in
theorem w_Mo_plan_195 {D : va_G} {cT : Nat → ClassId} {H0 : Heap} {l : Launch} {p : Program} {e : Env} {s : State} {m : MethodId} {args : Array Value} {below : List Frame} {meth : Method} {c : Code} {S0 : gS} {S' : gS} {r : Int32} (Y : gY D cT H0 p s m args meth c prog_12_method_29_code 10 "PlanTextModel" 3 76 S0 (Option.some Jvm.ClassFile.FieldType.int))  (t0 : Int32) (S : gS) (hden : B_Mo_plan_195  t0 S = some (r, S')) {ls : Array Slot} (hl : lv_has ls 10 []) : gV D cT H0 p l e (gRm 3 76 S0) s m args below meth c (gQ D cT H0 below S0 S' (.inr (some (.int r))) s) S0 S (F0 m 195 ls [.int t0]) := by
  obtain ⟨X, hZ, hex, hr, hE⟩ := id Y
  have hx := X.1
  have hb := X.2.1
  unfold B_Mo_plan_195 at hden
  obtain ⟨rfl, rfl⟩ := gpi hden
  exact g_iret X hr d_Mo_plan_195
def B_Mo_plan_169  (x8 : Int32) (x9 : Int32) (t0 : Int32) (t1 : Nat) (S : gS) : Option (Int32 × gS) := Option.bind (gPut S t1 10 23 (.int t0)) (fun S1 => (if x9 = 0 then (if 0 ≤ x8 then B_Mo_plan_195  (x8 - x8 / 50 * 50) S1 else B_Mo_plan_195  (-1) S1) else B_Mo_plan_195  0 S1))
set_option maxRecDepth 100000 in
set_option maxHeartbeats 4000000 in
theorem w_Mo_plan_169 {D : va_G} {cT : Nat → ClassId} {H0 : Heap} {l : Launch} {p : Program} {e : Env} {s : State} {m : MethodId} {args : Array Value} {below : List Frame} {meth : Method} {c : Code} {S0 : gS} {S' : gS} {r : Int32} (Y : gY D cT H0 p s m args meth c prog_12_method_29_code 10 "PlanTextModel" 3 76 S0 (Option.some Jvm.ClassFile.FieldType.int))  (x8 : Int32) (x9 : Int32) (t0 : Int32) (t1 : Nat) (S : gS) (hden : B_Mo_plan_169  x8 x9 t0 t1 S = some (r, S')) {ls : Array Slot} (hl : lv_has ls 10 [(8, .int x8), (9, .int x9)]) : gV D cT H0 p l e (gRm 3 76 S0) s m args below meth c (gQ D cT H0 below S0 S' (.inr (some (.int r))) s) S0 S (F0 m 169 ls [.int t0, va_rf (some t1)]) := by
  obtain ⟨X, hZ, hex, hr, hE⟩ := id Y
  have hx := X.1
  have hb := X.2.1
  unfold B_Mo_plan_169 at hden
  replace hden := gb hden
  obtain ⟨S1, hv, hden⟩ := hden
  refine r_put X cl_Mo (k := 23) hv (by decide) q_788 rfl rfl rfl d_Mo_plan_169 ?_
  refine gV.lift (fun _ _ _ _ => lv_iload hx hb d_Mo_plan_172 (lv_at hl 1 rfl)) ?_
  refine gV.lift2 (fun _ _ _ _ => lv_if_eq (tgt := 181) hx hb d_Mo_plan_174 (by decide)) (fun hc2 => ?_) (fun hc2 => ?_)
  · replace hden := gip hc2 hden
    refine gV.lift (fun _ _ _ _ => lv_iload hx hb d_Mo_plan_181 (lv_at hl 0 rfl)) ?_
    refine gV.lift2 (fun _ _ _ _ => lv_if_ge (tgt := 190) hx hb d_Mo_plan_183 (by decide)) (fun hc3 => ?_) (fun hc3 => ?_)
    · replace hden := gip hc3 hden
      refine gV.lift (fun _ _ _ _ => lv_iload hx hb d_Mo_plan_190 (lv_at hl 0 rfl)) ?_
      refine gV.lift (fun _ _ _ _ => lv_bipush (v := 50) hx hb d_Mo_plan_192 (by decide)) ?_
      refine gV.lift (fun _ _ _ _ => lv_irem hx hb d_Mo_plan_194 (by decide)) ?_
      exact w_Mo_plan_195 Y  (x8 - x8 / 50 * 50) S1 hden (lv_sub hl [] rfl)
    · replace hden := gin hc3 hden
      refine gV.lift (fun _ _ _ _ => lv_iconst (v := (-1)) hx hb d_Mo_plan_186 (by decide)) ?_
      refine gV.lift (fun _ _ _ _ => lv_goto (tgt := 195) hx hb d_Mo_plan_187 (by decide)) ?_
      exact w_Mo_plan_195 Y  (-1) S1 hden (lv_sub hl [] rfl)
  · replace hden := gin hc2 hden
    refine gV.lift (fun _ _ _ _ => lv_iconst (v := 0) hx hb d_Mo_plan_177 (by decide)) ?_
    refine gV.lift (fun _ _ _ _ => lv_goto (tgt := 195) hx hb d_Mo_plan_178 (by decide)) ?_
    exact w_Mo_plan_195 Y  0 S1 hden (lv_sub hl [] rfl)
def B_Mo_plan_146  (x0 : Nat) (x1 : Int32) (x7 : Int32) (x8 : Int32) (t0 : Int32) (S : gS) : Option (Int32 × gS) := (if t0 = 0 then B_Mo_plan_169  x8 t0 x8 x0 S else B_Mo_plan_169  x8 t0 (((50 * x7) + 40) + x1) x0 S)
set_option maxRecDepth 100000 in
set_option maxHeartbeats 4000000 in
theorem w_Mo_plan_146 {D : va_G} {cT : Nat → ClassId} {H0 : Heap} {l : Launch} {p : Program} {e : Env} {s : State} {m : MethodId} {args : Array Value} {below : List Frame} {meth : Method} {c : Code} {S0 : gS} {S' : gS} {r : Int32} (Y : gY D cT H0 p s m args meth c prog_12_method_29_code 10 "PlanTextModel" 3 76 S0 (Option.some Jvm.ClassFile.FieldType.int))  (x0 : Nat) (x1 : Int32) (x7 : Int32) (x8 : Int32) (t0 : Int32) (S : gS) (hden : B_Mo_plan_146  x0 x1 x7 x8 t0 S = some (r, S')) {ls : Array Slot} (hl : lv_has ls 10 [(0, va_rf (some x0)), (1, .int x1), (7, .int x7), (8, .int x8)]) : gV D cT H0 p l e (gRm 3 76 S0) s m args below meth c (gQ D cT H0 below S0 S' (.inr (some (.int r))) s) S0 S (F0 m 146 ls [.int t0]) := by
  obtain ⟨X, hZ, hex, hr, hE⟩ := id Y
  have hx := X.1
  have hb := X.2.1
  unfold B_Mo_plan_146 at hden
  refine gV.liftS (nL := 10) (lv' := [(9, .int t0), (0, va_rf (some x0)), (1, .int x1), (7, .int x7), (8, .int x8)]) (fun _ _ _ _ => lv_istore hx hb d_Mo_plan_146 hl (by decide) rfl) (fun ls hl => ?_)
  refine gV.lift (fun _ _ _ _ => g_aload_n hx hb d_Mo_plan_148 rfl (lv_at hl 1 rfl)) ?_
  refine gV.lift (fun _ _ _ _ => lv_iload hx hb d_Mo_plan_149 (lv_at hl 0 rfl)) ?_
  refine gV.lift2 (fun _ _ _ _ => lv_if_eq (tgt := 167) hx hb d_Mo_plan_151 (by decide)) (fun hc1 => ?_) (fun hc1 => ?_)
  · replace hden := gip hc1 hden
    refine gV.lift (fun _ _ _ _ => lv_iload hx hb d_Mo_plan_167 (lv_at hl 4 rfl)) ?_
    exact w_Mo_plan_169 Y  x8 t0 x8 x0 S hden (lv_sub hl [4, 0] rfl)
  · replace hden := gin hc1 hden
    refine gV.lift (fun _ _ _ _ => lv_bipush (v := 50) hx hb d_Mo_plan_154 (by decide)) ?_
    refine gV.lift (fun _ _ _ _ => lv_iload hx hb d_Mo_plan_156 (lv_at hl 3 rfl)) ?_
    refine gV.lift (fun _ _ _ _ => lv_imul hx hb d_Mo_plan_158) ?_
    refine gV.lift (fun _ _ _ _ => lv_bipush (v := 40) hx hb d_Mo_plan_159 (by decide)) ?_
    refine gV.lift (fun _ _ _ _ => lv_iadd hx hb d_Mo_plan_161) ?_
    refine gV.lift (fun _ _ _ _ => lv_iload_n hx hb d_Mo_plan_162 rfl (lv_at hl 2 rfl)) ?_
    refine gV.lift (fun _ _ _ _ => lv_iadd hx hb d_Mo_plan_163) ?_
    refine gV.lift (fun _ _ _ _ => lv_goto (tgt := 169) hx hb d_Mo_plan_164 (by decide)) ?_
    exact w_Mo_plan_169 Y  x8 t0 (((50 * x7) + 40) + x1) x0 S hden (lv_sub hl [4, 0] rfl)
def B_Mo_plan_145  (x0 : Nat) (x1 : Int32) (x7 : Int32) (x8 : Int32) (S : gS) : Option (Int32 × gS) := B_Mo_plan_146  x0 x1 x7 x8 0 S
set_option maxRecDepth 100000 in
set_option maxHeartbeats 4000000 in
theorem w_Mo_plan_145 {D : va_G} {cT : Nat → ClassId} {H0 : Heap} {l : Launch} {p : Program} {e : Env} {s : State} {m : MethodId} {args : Array Value} {below : List Frame} {meth : Method} {c : Code} {S0 : gS} {S' : gS} {r : Int32} (Y : gY D cT H0 p s m args meth c prog_12_method_29_code 10 "PlanTextModel" 3 76 S0 (Option.some Jvm.ClassFile.FieldType.int))  (x0 : Nat) (x1 : Int32) (x7 : Int32) (x8 : Int32) (S : gS) (hden : B_Mo_plan_145  x0 x1 x7 x8 S = some (r, S')) {ls : Array Slot} (hl : lv_has ls 10 [(0, va_rf (some x0)), (1, .int x1), (7, .int x7), (8, .int x8)]) : gV D cT H0 p l e (gRm 3 76 S0) s m args below meth c (gQ D cT H0 below S0 S' (.inr (some (.int r))) s) S0 S (F0 m 145 ls []) := by
  obtain ⟨X, hZ, hex, hr, hE⟩ := id Y
  have hx := X.1
  have hb := X.2.1
  unfold B_Mo_plan_145 at hden
  refine gV.lift (fun _ _ _ _ => lv_iconst (v := 0) hx hb d_Mo_plan_145 (by decide)) ?_
  exact w_Mo_plan_146 Y  x0 x1 x7 x8 0 S hden (lv_sub hl [0, 1, 2, 3] rfl)
def B_Mo_plan_131  (x0 : Nat) (x1 : Int32) (x7 : Int32) (x8 : Int32) (t0 : Int32) (t1 : Int32) (t2 : Option Nat) (S : gS) : Option (Int32 × gS) := Option.bind t2 (fun a1 => Option.bind (gAI S a1 3 (((t1 * t0) + 40) + x1)) (fun v2 => (if v2 = 0 then B_Mo_plan_145  x0 x1 x7 x8 S else B_Mo_plan_146  x0 x1 x7 x8 1 S)))
set_option maxRecDepth 100000 in
set_option maxHeartbeats 4000000 in
theorem w_Mo_plan_131 {D : va_G} {cT : Nat → ClassId} {H0 : Heap} {l : Launch} {p : Program} {e : Env} {s : State} {m : MethodId} {args : Array Value} {below : List Frame} {meth : Method} {c : Code} {S0 : gS} {S' : gS} {r : Int32} (Y : gY D cT H0 p s m args meth c prog_12_method_29_code 10 "PlanTextModel" 3 76 S0 (Option.some Jvm.ClassFile.FieldType.int))  (x0 : Nat) (x1 : Int32) (x7 : Int32) (x8 : Int32) (t0 : Int32) (t1 : Int32) (t2 : Option Nat) (S : gS) (hden : B_Mo_plan_131  x0 x1 x7 x8 t0 t1 t2 S = some (r, S')) {ls : Array Slot} (hl : lv_has ls 10 [(0, va_rf (some x0)), (1, .int x1), (7, .int x7), (8, .int x8)]) : gV D cT H0 p l e (gRm 3 76 S0) s m args below meth c (gQ D cT H0 below S0 S' (.inr (some (.int r))) s) S0 S (F0 m 131 ls [.int t0, .int t1, va_rf t2]) := by
  obtain ⟨X, hZ, hex, hr, hE⟩ := id Y
  have hx := X.1
  have hb := X.2.1
  unfold B_Mo_plan_131 at hden
  refine gV.lift (fun _ _ _ _ => lv_imul hx hb d_Mo_plan_131) ?_
  refine gV.lift (fun _ _ _ _ => lv_bipush (v := 40) hx hb d_Mo_plan_132 (by decide)) ?_
  refine gV.lift (fun _ _ _ _ => lv_iadd hx hb d_Mo_plan_134) ?_
  refine gV.lift (fun _ _ _ _ => lv_iload_n hx hb d_Mo_plan_135 rfl (lv_at hl 1 rfl)) ?_
  refine gV.lift (fun _ _ _ _ => lv_iadd hx hb d_Mo_plan_136) ?_
  replace hden := gb hden
  obtain ⟨a1, rfl, hden⟩ := hden
  replace hden := gb hden
  obtain ⟨v2, hv, hden⟩ := hden
  refine r_zald X (t := 3) rfl hv d_Mo_plan_137 ?_
  refine gV.lift2 (fun _ _ _ _ => lv_if_eq (tgt := 145) hx hb d_Mo_plan_138 (by decide)) (fun hc3 => ?_) (fun hc3 => ?_)
  · replace hden := gip hc3 hden
    exact w_Mo_plan_145 Y  x0 x1 x7 x8 S hden (lv_sub hl [0, 1, 2, 3] rfl)
  · replace hden := gin hc3 hden
    refine gV.lift (fun _ _ _ _ => lv_iconst (v := 1) hx hb d_Mo_plan_141 (by decide)) ?_
    refine gV.lift (fun _ _ _ _ => lv_goto (tgt := 146) hx hb d_Mo_plan_142 (by decide)) ?_
    exact w_Mo_plan_146 Y  x0 x1 x7 x8 1 S hden (lv_sub hl [0, 1, 2, 3] rfl)
def B_Mo_plan_102  (x0 : Nat) (x1 : Int32) (x7 : Int32) (t0 : Int32) (S : gS) : Option (Int32 × gS) := (if x7 < 0 then B_Mo_plan_145  x0 x1 x7 t0 S else (if 0 ≤ t0 then B_Mo_plan_145  x0 x1 x7 t0 S else Option.bind (gRf S x0 10 10) (fun r3 => (if 0 ≤ x7 then B_Mo_plan_131  x0 x1 x7 t0 x7 50 r3 S else B_Mo_plan_131  x0 x1 x7 t0 0 50 r3 S))))
set_option maxRecDepth 100000 in
set_option maxHeartbeats 4000000 in
theorem w_Mo_plan_102 {D : va_G} {cT : Nat → ClassId} {H0 : Heap} {l : Launch} {p : Program} {e : Env} {s : State} {m : MethodId} {args : Array Value} {below : List Frame} {meth : Method} {c : Code} {S0 : gS} {S' : gS} {r : Int32} (Y : gY D cT H0 p s m args meth c prog_12_method_29_code 10 "PlanTextModel" 3 76 S0 (Option.some Jvm.ClassFile.FieldType.int))  (x0 : Nat) (x1 : Int32) (x7 : Int32) (t0 : Int32) (S : gS) (hden : B_Mo_plan_102  x0 x1 x7 t0 S = some (r, S')) {ls : Array Slot} (hl : lv_has ls 10 [(0, va_rf (some x0)), (1, .int x1), (7, .int x7)]) : gV D cT H0 p l e (gRm 3 76 S0) s m args below meth c (gQ D cT H0 below S0 S' (.inr (some (.int r))) s) S0 S (F0 m 102 ls [.int t0]) := by
  obtain ⟨X, hZ, hex, hr, hE⟩ := id Y
  have hx := X.1
  have hb := X.2.1
  unfold B_Mo_plan_102 at hden
  refine gV.liftS (nL := 10) (lv' := [(8, .int t0), (0, va_rf (some x0)), (1, .int x1), (7, .int x7)]) (fun _ _ _ _ => lv_istore hx hb d_Mo_plan_102 hl (by decide) rfl) (fun ls hl => ?_)
  refine gV.lift (fun _ _ _ _ => lv_iload hx hb d_Mo_plan_104 (lv_at hl 3 rfl)) ?_
  refine gV.lift2 (fun _ _ _ _ => lv_if_lt (tgt := 145) hx hb d_Mo_plan_106 (by decide)) (fun hc1 => ?_) (fun hc1 => ?_)
  · replace hden := gip hc1 hden
    exact w_Mo_plan_145 Y  x0 x1 x7 t0 S hden (lv_sub hl [1, 2, 3, 0] rfl)
  · replace hden := gin hc1 hden
    refine gV.lift (fun _ _ _ _ => lv_iload hx hb d_Mo_plan_109 (lv_at hl 0 rfl)) ?_
    refine gV.lift2 (fun _ _ _ _ => lv_if_ge (tgt := 145) hx hb d_Mo_plan_111 (by decide)) (fun hc2 => ?_) (fun hc2 => ?_)
    · replace hden := gip hc2 hden
      exact w_Mo_plan_145 Y  x0 x1 x7 t0 S hden (lv_sub hl [1, 2, 3, 0] rfl)
    · replace hden := gin hc2 hden
      refine gV.lift (fun _ _ _ _ => g_aload_n hx hb d_Mo_plan_114 rfl (lv_at hl 1 rfl)) ?_
      replace hden := gb hden
      obtain ⟨r3, hv, hden⟩ := hden
      refine r_getR X cl_Mo (k := 10) hv (by decide) q_775 d_Mo_plan_115 ?_
      refine gV.lift (fun _ _ _ _ => lv_bipush (v := 50) hx hb d_Mo_plan_118 (by decide)) ?_
      refine gV.lift (fun _ _ _ _ => lv_iload hx hb d_Mo_plan_120 (lv_at hl 3 rfl)) ?_
      refine gV.lift2 (fun _ _ _ _ => lv_if_ge (tgt := 129) hx hb d_Mo_plan_122 (by decide)) (fun hc4 => ?_) (fun hc4 => ?_)
      · replace hden := gip hc4 hden
        refine gV.lift (fun _ _ _ _ => lv_iload hx hb d_Mo_plan_129 (lv_at hl 3 rfl)) ?_
        exact w_Mo_plan_131 Y  x0 x1 x7 t0 x7 50 r3 S hden (lv_sub hl [1, 2, 3, 0] rfl)
      · replace hden := gin hc4 hden
        refine gV.lift (fun _ _ _ _ => lv_iconst (v := 0) hx hb d_Mo_plan_125 (by decide)) ?_
        refine gV.lift (fun _ _ _ _ => lv_goto (tgt := 131) hx hb d_Mo_plan_126 (by decide)) ?_
        exact w_Mo_plan_131 Y  x0 x1 x7 t0 0 50 r3 S hden (lv_sub hl [1, 2, 3, 0] rfl)
def B_Mo_plan_63  (x0 : Nat) (x1 : Int32) (x2 : Int32) (x3 : Int32) (x4 : Int32) (x5 : Int32) (x6 : Int32) (t0 : Int32) (t1 : Nat) (S : gS) : Option (Int32 × gS) := Option.bind (gOb S t1 10) (fun fs3 => gB2 (D_Mo_throwing t1 t0 x6 0 S) (fun v2 S1 => (if v2 = 0 then Option.bind (gOb S1 x0 10) (fun fs7 => gB2 (D_Mo_editionOf x0 x5 S1) (fun v6 S5 => (if 0 ≤ v6 then Option.bind (gOb S5 x0 10) (fun fs11 => gB2 (D_Mo_best x0 v6 x1 x2 x3 x4 S5) (fun v10 S9 => B_Mo_plan_102  x0 x1 v6 v10 S9)) else B_Mo_plan_102  x0 x1 v6 (-1) S5))) else some (0, S1))))
set_option maxRecDepth 100000 in
set_option maxHeartbeats 4000000 in
theorem w_Mo_plan_63 {D : va_G} {cT : Nat → ClassId} {H0 : Heap} {l : Launch} {p : Program} {e : Env} {s : State} {m : MethodId} {args : Array Value} {below : List Frame} {meth : Method} {c : Code} {S0 : gS} {S' : gS} {r : Int32} (Y : gY D cT H0 p s m args meth c prog_12_method_29_code 10 "PlanTextModel" 3 76 S0 (Option.some Jvm.ClassFile.FieldType.int))  (x0 : Nat) (x1 : Int32) (x2 : Int32) (x3 : Int32) (x4 : Int32) (x5 : Int32) (x6 : Int32) (t0 : Int32) (t1 : Nat) (S : gS) (hden : B_Mo_plan_63  x0 x1 x2 x3 x4 x5 x6 t0 t1 S = some (r, S')) {ls : Array Slot} (hl : lv_has ls 10 [(0, va_rf (some x0)), (1, .int x1), (2, .int x2), (3, .int x3), (4, .int x4), (5, .int x5), (6, .int x6)]) : gV D cT H0 p l e (gRm 3 76 S0) s m args below meth c (gQ D cT H0 below S0 S' (.inr (some (.int r))) s) S0 S (F0 m 63 ls [.int t0, va_rf (some t1)]) := by
  obtain ⟨X, hZ, hex, hr, hE⟩ := id Y
  have hx := X.1
  have hb := X.2.1
  unfold B_Mo_plan_63 at hden
  refine gV.lift (fun _ _ _ _ => lv_iload hx hb d_Mo_plan_63 (lv_at hl 6 rfl)) ?_
  refine gV.lift (fun _ _ _ _ => lv_iconst (v := 0) hx hb d_Mo_plan_65 (by decide)) ?_
  replace hden := gb hden
  obtain ⟨fs3, ho, hden⟩ := hden
  replace hden := gb2 hden
  obtain ⟨v2, S1, hz, hden⟩ := hden
  refine g_callV (As := [.int t0, .int x6, .int 0]) (rest := []) X hZ (c_Mo_throwing hz) cl_Mo (gOb_spec ho) q_859 q_5 q_856 q_858 qp_26 ⟨by decide, by decide, by show _ = some 3; decide +kernel⟩ ⟨by decide, by decide⟩ hl.1 (Nat.le_of_ble_eq_true rfl) d_Mo_plan_66 rfl rfl ?_
  refine gV.lift2 (fun _ _ _ _ => lv_if_eq (tgt := 74) hx hb d_Mo_plan_69 (by decide)) (fun hc4 => ?_) (fun hc4 => ?_)
  · replace hden := gip hc4 hden
    refine gV.lift (fun _ _ _ _ => g_aload_n hx hb d_Mo_plan_74 rfl (lv_at hl 0 rfl)) ?_
    refine gV.lift (fun _ _ _ _ => lv_iload hx hb d_Mo_plan_75 (lv_at hl 5 rfl)) ?_
    replace hden := gb hden
    obtain ⟨fs7, ho, hden⟩ := hden
    replace hden := gb2 hden
    obtain ⟨v6, S5, hz, hden⟩ := hden
    refine g_callV (As := [.int x5]) (rest := []) X hZ (c_Mo_editionOf hz) cl_Mo (gOb_spec ho) q_942 q_5 q_939 q_941 qp_42 ⟨by decide, by decide, by show _ = some 1; decide +kernel⟩ ⟨by decide, by decide⟩ hl.1 (Nat.le_of_ble_eq_true rfl) d_Mo_plan_77 rfl rfl ?_
    refine gV.liftS (nL := 10) (lv' := [(7, .int v6), (0, va_rf (some x0)), (1, .int x1), (2, .int x2), (3, .int x3), (4, .int x4), (5, .int x5), (6, .int x6)]) (fun _ _ _ _ => lv_istore hx hb d_Mo_plan_80 hl (by decide) rfl) (fun ls hl => ?_)
    refine gV.lift (fun _ _ _ _ => lv_iload hx hb d_Mo_plan_82 (lv_at hl 0 rfl)) ?_
    refine gV.lift2 (fun _ _ _ _ => lv_if_ge (tgt := 91) hx hb d_Mo_plan_84 (by decide)) (fun hc8 => ?_) (fun hc8 => ?_)
    · replace hden := gip hc8 hden
      refine gV.lift (fun _ _ _ _ => g_aload_n hx hb d_Mo_plan_91 rfl (lv_at hl 1 rfl)) ?_
      refine gV.lift (fun _ _ _ _ => lv_iload hx hb d_Mo_plan_92 (lv_at hl 0 rfl)) ?_
      refine gV.lift (fun _ _ _ _ => lv_iload_n hx hb d_Mo_plan_94 rfl (lv_at hl 2 rfl)) ?_
      refine gV.lift (fun _ _ _ _ => lv_iload_n hx hb d_Mo_plan_95 rfl (lv_at hl 3 rfl)) ?_
      refine gV.lift (fun _ _ _ _ => lv_iload_n hx hb d_Mo_plan_96 rfl (lv_at hl 4 rfl)) ?_
      refine gV.lift (fun _ _ _ _ => lv_iload hx hb d_Mo_plan_97 (lv_at hl 5 rfl)) ?_
      replace hden := gb hden
      obtain ⟨fs11, ho, hden⟩ := hden
      replace hden := gb2 hden
      obtain ⟨v10, S9, hz, hden⟩ := hden
      refine g_callV (As := [.int v6, .int x1, .int x2, .int x3, .int x4]) (rest := []) X hZ (c_Mo_best hz) cl_Mo (gOb_spec ho) q_946 q_5 q_943 q_945 qp_43 ⟨by decide, by decide, by show _ = some 5; decide +kernel⟩ ⟨by decide, by decide⟩ hl.1 (Nat.le_of_ble_eq_true rfl) d_Mo_plan_99 rfl rfl ?_
      exact w_Mo_plan_102 Y  x0 x1 v6 v10 S9 hden (lv_sub hl [1, 2, 0] rfl)
    · replace hden := gin hc8 hden
      refine gV.lift (fun _ _ _ _ => lv_iconst (v := (-1)) hx hb d_Mo_plan_87 (by decide)) ?_
      refine gV.lift (fun _ _ _ _ => lv_goto (tgt := 102) hx hb d_Mo_plan_88 (by decide)) ?_
      exact w_Mo_plan_102 Y  x0 x1 v6 (-1) S5 hden (lv_sub hl [1, 2, 0] rfl)
  · replace hden := gin hc4 hden
    refine gV.lift (fun _ _ _ _ => lv_iconst (v := 0) hx hb d_Mo_plan_72 (by decide)) ?_
    obtain ⟨rfl, rfl⟩ := gpi hden
    exact g_iret X hr d_Mo_plan_73
def B_Mo_plan_45  (x0 : Nat) (x1 : Int32) (x2 : Int32) (x3 : Int32) (x4 : Int32) (x5 : Int32) (t0 : Int32) (S : gS) : Option (Int32 × gS) := gB2 (D_Mo_in x1 1 9 S) (fun v2 S1 => (if v2 = 0 then B_Mo_plan_63  x0 x1 x2 x3 x4 x5 t0 1 x0 S1 else B_Mo_plan_63  x0 x1 x2 x3 x4 x5 t0 0 x0 S1))
set_option maxRecDepth 100000 in
set_option maxHeartbeats 4000000 in
theorem w_Mo_plan_45 {D : va_G} {cT : Nat → ClassId} {H0 : Heap} {l : Launch} {p : Program} {e : Env} {s : State} {m : MethodId} {args : Array Value} {below : List Frame} {meth : Method} {c : Code} {S0 : gS} {S' : gS} {r : Int32} (Y : gY D cT H0 p s m args meth c prog_12_method_29_code 10 "PlanTextModel" 3 76 S0 (Option.some Jvm.ClassFile.FieldType.int))  (x0 : Nat) (x1 : Int32) (x2 : Int32) (x3 : Int32) (x4 : Int32) (x5 : Int32) (t0 : Int32) (S : gS) (hden : B_Mo_plan_45  x0 x1 x2 x3 x4 x5 t0 S = some (r, S')) {ls : Array Slot} (hl : lv_has ls 10 [(0, va_rf (some x0)), (1, .int x1), (2, .int x2), (3, .int x3), (4, .int x4), (5, .int x5)]) : gV D cT H0 p l e (gRm 3 76 S0) s m args below meth c (gQ D cT H0 below S0 S' (.inr (some (.int r))) s) S0 S (F0 m 45 ls [.int t0]) := by
  obtain ⟨X, hZ, hex, hr, hE⟩ := id Y
  have hx := X.1
  have hb := X.2.1
  unfold B_Mo_plan_45 at hden
  refine gV.liftS (nL := 10) (lv' := [(6, .int t0), (0, va_rf (some x0)), (1, .int x1), (2, .int x2), (3, .int x3), (4, .int x4), (5, .int x5)]) (fun _ _ _ _ => lv_istore hx hb d_Mo_plan_45 hl (by decide) rfl) (fun ls hl => ?_)
  refine gV.lift (fun _ _ _ _ => g_aload_n hx hb d_Mo_plan_47 rfl (lv_at hl 1 rfl)) ?_
  refine gV.lift (fun _ _ _ _ => lv_iload_n hx hb d_Mo_plan_48 rfl (lv_at hl 2 rfl)) ?_
  refine gV.lift (fun _ _ _ _ => lv_iconst (v := 1) hx hb d_Mo_plan_49 (by decide)) ?_
  refine gV.lift (fun _ _ _ _ => lv_bipush (v := 9) hx hb d_Mo_plan_50 (by decide)) ?_
  replace hden := gb2 hden
  obtain ⟨v2, S1, hz, hden⟩ := hden
  refine g_callS (As := [.int x1, .int 1, .int 9]) (rest := [va_rf (some x0)]) X hZ (c_Mo_in hz) q_855 q_5 q_853 q_854 ⟨by decide, by decide, by show _ = some 3; decide +kernel⟩ ⟨by decide, by decide⟩ hl.1 (Nat.le_of_ble_eq_true rfl) d_Mo_plan_52 rfl rfl ?_
  refine gV.lift2 (fun _ _ _ _ => lv_if_ne (tgt := 62) hx hb d_Mo_plan_55 (by decide)) (fun hc3 => ?_) (fun hc3 => ?_)
  · replace hden := gin hc3 hden
    refine gV.lift (fun _ _ _ _ => lv_iconst (v := 0) hx hb d_Mo_plan_62 (by decide)) ?_
    exact w_Mo_plan_63 Y  x0 x1 x2 x3 x4 x5 t0 0 x0 S1 hden (lv_sub hl [1, 2, 3, 4, 5, 6, 0] rfl)
  · replace hden := gip hc3 hden
    refine gV.lift (fun _ _ _ _ => lv_iconst (v := 1) hx hb d_Mo_plan_58 (by decide)) ?_
    refine gV.lift (fun _ _ _ _ => lv_goto (tgt := 63) hx hb d_Mo_plan_59 (by decide)) ?_
    exact w_Mo_plan_63 Y  x0 x1 x2 x3 x4 x5 t0 1 x0 S1 hden (lv_sub hl [1, 2, 3, 4, 5, 6, 0] rfl)
def B_Mo_plan_40  (x0 : Nat) (x1 : Int32) (x2 : Int32) (x3 : Int32) (x4 : Int32) (x5 : Int32) (S : gS) : Option (Int32 × gS) := B_Mo_plan_45  x0 x1 x2 x3 x4 x5 1 S
set_option maxRecDepth 100000 in
set_option maxHeartbeats 4000000 in
theorem w_Mo_plan_40 {D : va_G} {cT : Nat → ClassId} {H0 : Heap} {l : Launch} {p : Program} {e : Env} {s : State} {m : MethodId} {args : Array Value} {below : List Frame} {meth : Method} {c : Code} {S0 : gS} {S' : gS} {r : Int32} (Y : gY D cT H0 p s m args meth c prog_12_method_29_code 10 "PlanTextModel" 3 76 S0 (Option.some Jvm.ClassFile.FieldType.int))  (x0 : Nat) (x1 : Int32) (x2 : Int32) (x3 : Int32) (x4 : Int32) (x5 : Int32) (S : gS) (hden : B_Mo_plan_40  x0 x1 x2 x3 x4 x5 S = some (r, S')) {ls : Array Slot} (hl : lv_has ls 10 [(0, va_rf (some x0)), (1, .int x1), (2, .int x2), (3, .int x3), (4, .int x4), (5, .int x5)]) : gV D cT H0 p l e (gRm 3 76 S0) s m args below meth c (gQ D cT H0 below S0 S' (.inr (some (.int r))) s) S0 S (F0 m 40 ls []) := by
  obtain ⟨X, hZ, hex, hr, hE⟩ := id Y
  have hx := X.1
  have hb := X.2.1
  unfold B_Mo_plan_40 at hden
  refine gV.lift (fun _ _ _ _ => lv_iconst (v := 1) hx hb d_Mo_plan_40 (by decide)) ?_
  refine gV.lift (fun _ _ _ _ => lv_goto (tgt := 45) hx hb d_Mo_plan_41 (by decide)) ?_
  exact w_Mo_plan_45 Y  x0 x1 x2 x3 x4 x5 1 S hden (lv_sub hl [0, 1, 2, 3, 4, 5] rfl)
def D_Mo_plan (h0 : Nat) (p0 : Int32) (p1 : Int32) (p2 : Int32) (p3 : Int32) (p4 : Int32) (S : gS) : Option (Int32 × gS) := gB2 (D_Mo_in p1 1 99 S) (fun v2 S1 => (if v2 = 0 then B_Mo_plan_40  h0 p0 p1 p2 p3 p4 S1 else gB2 (D_Mo_in p2 1 999 S1) (fun v5 S4 => (if v5 = 0 then B_Mo_plan_40  h0 p0 p1 p2 p3 p4 S4 else gB2 (D_Mo_in p3 0 23 S4) (fun v8 S7 => (if v8 = 0 then B_Mo_plan_40  h0 p0 p1 p2 p3 p4 S7 else gB2 (D_Mo_isDay p4 S7) (fun v11 S10 => (if v11 = 0 then B_Mo_plan_40  h0 p0 p1 p2 p3 p4 S10 else B_Mo_plan_45  h0 p0 p1 p2 p3 p4 0 S10))))))))
set_option maxRecDepth 100000 in
set_option maxHeartbeats 4000000 in
theorem c_Mo_plan {D : va_G} {cT : Nat → ClassId} {H0 : Heap} {l : Launch} {S : gS} {S' : gS} {h0 : Nat} {p0 : Int32} {p1 : Int32} {p2 : Int32} {p3 : Int32} {p4 : Int32} {r : Int32} (hden : D_Mo_plan h0 p0 p1 p2 p3 p4 S = some (r, S')) : gM D cT H0 l y_Mo_plan (Cond.code y_Mo_plan prog_12_method_29_code 10 (Option.some Jvm.ClassFile.FieldType.int)) 3 76 [va_rf (some h0), .int p0, .int p1, .int p2, .int p3, .int p4] S S' (.inr (some (.int r))) := by
  refine gM.ofV (by decide) ?_
  intro p e s m args below meth c s₁ B hml ea X hZ hex hr hE
  subst ea
  have Y : gY D cT H0 p s m _ meth c prog_12_method_29_code 10 "PlanTextModel" 3 76 S (Option.some Jvm.ClassFile.FieldType.int) := ⟨X, hZ, hex, hr, hE⟩
  have hx := X.1
  have hb := X.2.1
  have hl := lv_entry ([va_rf (some h0), .int p0, .int p1, .int p2, .int p3, .int p4]) (n := 10) (Nat.le_of_ble_eq_true rfl)
  rw [lg_entry_eq]
  generalize (lg_sl ([va_rf (some h0), .int p0, .int p1, .int p2, .int p3, .int p4]) ++ List.replicate (10 - (lg_sl ([va_rf (some h0), .int p0, .int p1, .int p2, .int p3, .int p4])).length) Slot.unset).toArray = ls at hl ⊢
  have hl : lv_has ls 10 [(0, va_rf (some h0)), (1, .int p0), (2, .int p1), (3, .int p2), (4, .int p3), (5, .int p4)] := hl
  unfold D_Mo_plan at hden
  refine gV.lift (fun _ _ _ _ => lv_iload_n hx hb d_Mo_plan_0 rfl (lv_at hl 2 rfl)) ?_
  refine gV.lift (fun _ _ _ _ => lv_iconst (v := 1) hx hb d_Mo_plan_1 (by decide)) ?_
  refine gV.lift (fun _ _ _ _ => lv_bipush (v := 99) hx hb d_Mo_plan_2 (by decide)) ?_
  replace hden := gb2 hden
  obtain ⟨v2, S1, hz, hden⟩ := hden
  refine g_callS (As := [.int p1, .int 1, .int 99]) (rest := []) X hZ (c_Mo_in hz) q_855 q_5 q_853 q_854 ⟨by decide, by decide, by show _ = some 3; decide +kernel⟩ ⟨by decide, by decide⟩ hl.1 (Nat.le_of_ble_eq_true rfl) d_Mo_plan_4 rfl rfl ?_
  refine gV.lift2 (fun _ _ _ _ => lv_if_eq (tgt := 40) hx hb d_Mo_plan_7 (by decide)) (fun hc3 => ?_) (fun hc3 => ?_)
  · replace hden := gip hc3 hden
    exact w_Mo_plan_40 Y  h0 p0 p1 p2 p3 p4 S1 hden (lv_sub hl [0, 1, 2, 3, 4, 5] rfl)
  · replace hden := gin hc3 hden
    refine gV.lift (fun _ _ _ _ => lv_iload_n hx hb d_Mo_plan_10 rfl (lv_at hl 3 rfl)) ?_
    refine gV.lift (fun _ _ _ _ => lv_iconst (v := 1) hx hb d_Mo_plan_11 (by decide)) ?_
    refine gV.lift (fun _ _ _ _ => lv_sipush (v := 999) hx hb d_Mo_plan_12 (by decide)) ?_
    replace hden := gb2 hden
    obtain ⟨v5, S4, hz, hden⟩ := hden
    refine g_callS (As := [.int p2, .int 1, .int 999]) (rest := []) X hZ (c_Mo_in hz) q_855 q_5 q_853 q_854 ⟨by decide, by decide, by show _ = some 3; decide +kernel⟩ ⟨by decide, by decide⟩ hl.1 (Nat.le_of_ble_eq_true rfl) d_Mo_plan_15 rfl rfl ?_
    refine gV.lift2 (fun _ _ _ _ => lv_if_eq (tgt := 40) hx hb d_Mo_plan_18 (by decide)) (fun hc6 => ?_) (fun hc6 => ?_)
    · replace hden := gip hc6 hden
      exact w_Mo_plan_40 Y  h0 p0 p1 p2 p3 p4 S4 hden (lv_sub hl [0, 1, 2, 3, 4, 5] rfl)
    · replace hden := gin hc6 hden
      refine gV.lift (fun _ _ _ _ => lv_iload hx hb d_Mo_plan_21 (lv_at hl 4 rfl)) ?_
      refine gV.lift (fun _ _ _ _ => lv_iconst (v := 0) hx hb d_Mo_plan_23 (by decide)) ?_
      refine gV.lift (fun _ _ _ _ => lv_bipush (v := 23) hx hb d_Mo_plan_24 (by decide)) ?_
      replace hden := gb2 hden
      obtain ⟨v8, S7, hz, hden⟩ := hden
      refine g_callS (As := [.int p3, .int 0, .int 23]) (rest := []) X hZ (c_Mo_in hz) q_855 q_5 q_853 q_854 ⟨by decide, by decide, by show _ = some 3; decide +kernel⟩ ⟨by decide, by decide⟩ hl.1 (Nat.le_of_ble_eq_true rfl) d_Mo_plan_26 rfl rfl ?_
      refine gV.lift2 (fun _ _ _ _ => lv_if_eq (tgt := 40) hx hb d_Mo_plan_29 (by decide)) (fun hc9 => ?_) (fun hc9 => ?_)
      · replace hden := gip hc9 hden
        exact w_Mo_plan_40 Y  h0 p0 p1 p2 p3 p4 S7 hden (lv_sub hl [0, 1, 2, 3, 4, 5] rfl)
      · replace hden := gin hc9 hden
        refine gV.lift (fun _ _ _ _ => lv_iload hx hb d_Mo_plan_32 (lv_at hl 5 rfl)) ?_
        replace hden := gb2 hden
        obtain ⟨v11, S10, hz, hden⟩ := hden
        refine g_callS (As := [.int p4]) (rest := []) X hZ (c_Mo_isDay hz) q_938 q_5 q_936 q_937 ⟨by decide, by decide, by show _ = some 1; decide +kernel⟩ ⟨by decide, by decide⟩ hl.1 (Nat.le_of_ble_eq_true rfl) d_Mo_plan_34 rfl rfl ?_
        refine gV.lift2 (fun _ _ _ _ => lv_if_ne (tgt := 44) hx hb d_Mo_plan_37 (by decide)) (fun hc12 => ?_) (fun hc12 => ?_)
        · replace hden := gin hc12 hden
          refine gV.lift (fun _ _ _ _ => lv_iconst (v := 0) hx hb d_Mo_plan_44 (by decide)) ?_
          exact w_Mo_plan_45 Y  h0 p0 p1 p2 p3 p4 0 S10 hden (lv_sub hl [0, 1, 2, 3, 4, 5] rfl)
        · replace hden := gip hc12 hden
          exact w_Mo_plan_40 Y  h0 p0 p1 p2 p3 p4 S10 hden (lv_sub hl [0, 1, 2, 3, 4, 5] rfl)
/-! PlanTextModel.need(II)I -/
abbrev y_Mo_need : MethodName := ⟨"PlanTextModel", "need", "(II)I"⟩
theorem d_Mo_need_0 : decode prog_12_method_30_code 0 = .ok (.aload_n 0, 1) := by decide +kernel
theorem d_Mo_need_1 : decode prog_12_method_30_code 1 = .ok (.getfield 60, 3) := by decide +kernel
theorem d_Mo_need_4 : decode prog_12_method_30_code 4 = .ok (.ifCond .lt 46, 3) := by decide +kernel
theorem d_Mo_need_7 : decode prog_12_method_30_code 7 = .ok (.iload_n 1, 1) := by decide +kernel
theorem d_Mo_need_8 : decode prog_12_method_30_code 8 = .ok (.iconst 0, 1) := by decide +kernel
theorem d_Mo_need_9 : decode prog_12_method_30_code 9 = .ok (.aload_n 0, 1) := by decide +kernel
theorem d_Mo_need_10 : decode prog_12_method_30_code 10 = .ok (.getfield 45, 3) := by decide +kernel
theorem d_Mo_need_13 : decode prog_12_method_30_code 13 = .ok (.aload_n 0, 1) := by decide +kernel
theorem d_Mo_need_14 : decode prog_12_method_30_code 14 = .ok (.getfield 60, 3) := by decide +kernel
theorem d_Mo_need_17 : decode prog_12_method_30_code 17 = .ok (.ifCond .ge 7, 3) := by decide +kernel
theorem d_Mo_need_20 : decode prog_12_method_30_code 20 = .ok (.iconst 0, 1) := by decide +kernel
theorem d_Mo_need_21 : decode prog_12_method_30_code 21 = .ok (.goto 7, 3) := by decide +kernel
theorem d_Mo_need_24 : decode prog_12_method_30_code 24 = .ok (.aload_n 0, 1) := by decide +kernel
theorem d_Mo_need_25 : decode prog_12_method_30_code 25 = .ok (.getfield 60, 3) := by decide +kernel
theorem d_Mo_need_28 : decode prog_12_method_30_code 28 = .ok (.iaload, 1) := by decide +kernel
theorem d_Mo_need_29 : decode prog_12_method_30_code 29 = .ok (.iconst 1, 1) := by decide +kernel
theorem d_Mo_need_30 : decode prog_12_method_30_code 30 = .ok (.isub, 1) := by decide +kernel
theorem d_Mo_need_31 : decode prog_12_method_30_code 31 = .ok (.invokestatic 72, 3) := by decide +kernel
theorem d_Mo_need_34 : decode prog_12_method_30_code 34 = .ok (.ifCond .eq 16, 3) := by decide +kernel
theorem d_Mo_need_37 : decode prog_12_method_30_code 37 = .ok (.iload_n 2, 1) := by decide +kernel
theorem d_Mo_need_38 : decode prog_12_method_30_code 38 = .ok (.iconst 0, 1) := by decide +kernel
theorem d_Mo_need_39 : decode prog_12_method_30_code 39 = .ok (.iconst 4, 1) := by decide +kernel
theorem d_Mo_need_40 : decode prog_12_method_30_code 40 = .ok (.invokestatic 72, 3) := by decide +kernel
theorem d_Mo_need_43 : decode prog_12_method_30_code 43 = .ok (.ifCond .eq 7, 3) := by decide +kernel
theorem d_Mo_need_46 : decode prog_12_method_30_code 46 = .ok (.iconst 1, 1) := by decide +kernel
theorem d_Mo_need_47 : decode prog_12_method_30_code 47 = .ok (.goto 4, 3) := by decide +kernel
theorem d_Mo_need_50 : decode prog_12_method_30_code 50 = .ok (.iconst 0, 1) := by decide +kernel
theorem d_Mo_need_51 : decode prog_12_method_30_code 51 = .ok (.istore_n 3, 1) := by decide +kernel
theorem d_Mo_need_52 : decode prog_12_method_30_code 52 = .ok (.aload_n 0, 1) := by decide +kernel
theorem d_Mo_need_53 : decode prog_12_method_30_code 53 = .ok (.iload_n 3, 1) := by decide +kernel
theorem d_Mo_need_54 : decode prog_12_method_30_code 54 = .ok (.ifCond .ne 7, 3) := by decide +kernel
theorem d_Mo_need_57 : decode prog_12_method_30_code 57 = .ok (.iconst 1, 1) := by decide +kernel
theorem d_Mo_need_58 : decode prog_12_method_30_code 58 = .ok (.goto 4, 3) := by decide +kernel
theorem d_Mo_need_61 : decode prog_12_method_30_code 61 = .ok (.iconst 0, 1) := by decide +kernel
theorem d_Mo_need_62 : decode prog_12_method_30_code 62 = .ok (.iconst 0, 1) := by decide +kernel
theorem d_Mo_need_63 : decode prog_12_method_30_code 63 = .ok (.iconst 0, 1) := by decide +kernel
theorem d_Mo_need_64 : decode prog_12_method_30_code 64 = .ok (.invokevirtual 79, 3) := by decide +kernel
theorem d_Mo_need_67 : decode prog_12_method_30_code 67 = .ok (.ifCond .eq 5, 3) := by decide +kernel
theorem d_Mo_need_70 : decode prog_12_method_30_code 70 = .ok (.iconst 0, 1) := by decide +kernel
theorem d_Mo_need_71 : decode prog_12_method_30_code 71 = .ok (.ireturn, 1) := by decide +kernel
theorem d_Mo_need_72 : decode prog_12_method_30_code 72 = .ok (.aload_n 0, 1) := by decide +kernel
theorem d_Mo_need_73 : decode prog_12_method_30_code 73 = .ok (.getfield 48, 3) := by decide +kernel
theorem d_Mo_need_76 : decode prog_12_method_30_code 76 = .ok (.bipush 25, 2) := by decide +kernel
theorem d_Mo_need_78 : decode prog_12_method_30_code 78 = .ok (.aload_n 0, 1) := by decide +kernel
theorem d_Mo_need_79 : decode prog_12_method_30_code 79 = .ok (.getfield 60, 3) := by decide +kernel
theorem d_Mo_need_82 : decode prog_12_method_30_code 82 = .ok (.imul, 1) := by decide +kernel
theorem d_Mo_need_83 : decode prog_12_method_30_code 83 = .ok (.iconst 5, 1) := by decide +kernel
theorem d_Mo_need_84 : decode prog_12_method_30_code 84 = .ok (.iload_n 1, 1) := by decide +kernel
theorem d_Mo_need_85 : decode prog_12_method_30_code 85 = .ok (.imul, 1) := by decide +kernel
theorem d_Mo_need_86 : decode prog_12_method_30_code 86 = .ok (.iadd, 1) := by decide +kernel
theorem d_Mo_need_87 : decode prog_12_method_30_code 87 = .ok (.iload_n 2, 1) := by decide +kernel
theorem d_Mo_need_88 : decode prog_12_method_30_code 88 = .ok (.iadd, 1) := by decide +kernel
theorem d_Mo_need_89 : decode prog_12_method_30_code 89 = .ok (.iaload, 1) := by decide +kernel
theorem d_Mo_need_90 : decode prog_12_method_30_code 90 = .ok (.ireturn, 1) := by decide +kernel
def B_Mo_need_62  (x0 : Nat) (x1 : Int32) (x2 : Int32) (t0 : Int32) (t1 : Nat) (S : gS) : Option (Int32 × gS) := Option.bind (gOb S t1 10) (fun fs3 => gB2 (D_Mo_throwing t1 t0 0 0 S) (fun v2 S1 => (if v2 = 0 then Option.bind (gRf S1 x0 10 19) (fun r5 => Option.bind (gI S1 x0 10 23) (fun v6 => Option.bind r5 (fun a7 => Option.bind (gAI S1 a7 0 (((25 * v6) + (5 * x1)) + x2)) (fun v8 => some (v8, S1))))) else some (0, S1))))
set_option maxRecDepth 100000 in
set_option maxHeartbeats 4000000 in
theorem w_Mo_need_62 {D : va_G} {cT : Nat → ClassId} {H0 : Heap} {l : Launch} {p : Program} {e : Env} {s : State} {m : MethodId} {args : Array Value} {below : List Frame} {meth : Method} {c : Code} {S0 : gS} {S' : gS} {r : Int32} (Y : gY D cT H0 p s m args meth c prog_12_method_30_code 4 "PlanTextModel" 1 23 S0 (Option.some Jvm.ClassFile.FieldType.int))  (x0 : Nat) (x1 : Int32) (x2 : Int32) (t0 : Int32) (t1 : Nat) (S : gS) (hden : B_Mo_need_62  x0 x1 x2 t0 t1 S = some (r, S')) {ls : Array Slot} (hl : lv_has ls 4 [(0, va_rf (some x0)), (1, .int x1), (2, .int x2)]) : gV D cT H0 p l e (gRm 1 23 S0) s m args below meth c (gQ D cT H0 below S0 S' (.inr (some (.int r))) s) S0 S (F0 m 62 ls [.int t0, va_rf (some t1)]) := by
  obtain ⟨X, hZ, hex, hr, hE⟩ := id Y
  have hx := X.1
  have hb := X.2.1
  unfold B_Mo_need_62 at hden
  refine gV.lift (fun _ _ _ _ => lv_iconst (v := 0) hx hb d_Mo_need_62 (by decide)) ?_
  refine gV.lift (fun _ _ _ _ => lv_iconst (v := 0) hx hb d_Mo_need_63 (by decide)) ?_
  replace hden := gb hden
  obtain ⟨fs3, ho, hden⟩ := hden
  replace hden := gb2 hden
  obtain ⟨v2, S1, hz, hden⟩ := hden
  refine g_callV (As := [.int t0, .int 0, .int 0]) (rest := []) X hZ (c_Mo_throwing hz) cl_Mo (gOb_spec ho) q_859 q_5 q_856 q_858 qp_26 ⟨by decide, by decide, by show _ = some 3; decide +kernel⟩ ⟨by decide, by decide⟩ hl.1 (Nat.le_of_ble_eq_true rfl) d_Mo_need_64 rfl rfl ?_
  refine gV.lift2 (fun _ _ _ _ => lv_if_eq (tgt := 72) hx hb d_Mo_need_67 (by decide)) (fun hc4 => ?_) (fun hc4 => ?_)
  · replace hden := gip hc4 hden
    refine gV.lift (fun _ _ _ _ => g_aload_n hx hb d_Mo_need_72 rfl (lv_at hl 0 rfl)) ?_
    replace hden := gb hden
    obtain ⟨r5, hv, hden⟩ := hden
    refine r_getR X cl_Mo (k := 19) hv (by decide) q_784 d_Mo_need_73 ?_
    refine gV.lift (fun _ _ _ _ => lv_bipush (v := 25) hx hb d_Mo_need_76 (by decide)) ?_
    refine gV.lift (fun _ _ _ _ => g_aload_n hx hb d_Mo_need_78 rfl (lv_at hl 0 rfl)) ?_
    replace hden := gb hden
    obtain ⟨v6, hv, hden⟩ := hden
    refine r_getI X cl_Mo (k := 23) hv (by decide) q_788 d_Mo_need_79 ?_
    refine gV.lift (fun _ _ _ _ => lv_imul hx hb d_Mo_need_82) ?_
    refine gV.lift (fun _ _ _ _ => lv_iconst (v := 5) hx hb d_Mo_need_83 (by decide)) ?_
    refine gV.lift (fun _ _ _ _ => lv_iload_n hx hb d_Mo_need_84 rfl (lv_at hl 1 rfl)) ?_
    refine gV.lift (fun _ _ _ _ => lv_imul hx hb d_Mo_need_85) ?_
    refine gV.lift (fun _ _ _ _ => lv_iadd hx hb d_Mo_need_86) ?_
    refine gV.lift (fun _ _ _ _ => lv_iload_n hx hb d_Mo_need_87 rfl (lv_at hl 2 rfl)) ?_
    refine gV.lift (fun _ _ _ _ => lv_iadd hx hb d_Mo_need_88) ?_
    replace hden := gb hden
    obtain ⟨a7, rfl, hden⟩ := hden
    replace hden := gb hden
    obtain ⟨v8, hv, hden⟩ := hden
    refine r_iald X (t := 0) rfl hv d_Mo_need_89 ?_
    obtain ⟨rfl, rfl⟩ := gpi hden
    exact g_iret X hr d_Mo_need_90
  · replace hden := gin hc4 hden
    refine gV.lift (fun _ _ _ _ => lv_iconst (v := 0) hx hb d_Mo_need_70 (by decide)) ?_
    obtain ⟨rfl, rfl⟩ := gpi hden
    exact g_iret X hr d_Mo_need_71
def B_Mo_need_51  (x0 : Nat) (x1 : Int32) (x2 : Int32) (t0 : Int32) (S : gS) : Option (Int32 × gS) := (if t0 = 0 then B_Mo_need_62  x0 x1 x2 1 x0 S else B_Mo_need_62  x0 x1 x2 0 x0 S)
set_option maxRecDepth 100000 in
set_option maxHeartbeats 4000000 in
theorem w_Mo_need_51 {D : va_G} {cT : Nat → ClassId} {H0 : Heap} {l : Launch} {p : Program} {e : Env} {s : State} {m : MethodId} {args : Array Value} {below : List Frame} {meth : Method} {c : Code} {S0 : gS} {S' : gS} {r : Int32} (Y : gY D cT H0 p s m args meth c prog_12_method_30_code 4 "PlanTextModel" 1 23 S0 (Option.some Jvm.ClassFile.FieldType.int))  (x0 : Nat) (x1 : Int32) (x2 : Int32) (t0 : Int32) (S : gS) (hden : B_Mo_need_51  x0 x1 x2 t0 S = some (r, S')) {ls : Array Slot} (hl : lv_has ls 4 [(0, va_rf (some x0)), (1, .int x1), (2, .int x2)]) : gV D cT H0 p l e (gRm 1 23 S0) s m args below meth c (gQ D cT H0 below S0 S' (.inr (some (.int r))) s) S0 S (F0 m 51 ls [.int t0]) := by
  obtain ⟨X, hZ, hex, hr, hE⟩ := id Y
  have hx := X.1
  have hb := X.2.1
  unfold B_Mo_need_51 at hden
  refine gV.liftS (nL := 4) (lv' := [(3, .int t0), (0, va_rf (some x0)), (1, .int x1), (2, .int x2)]) (fun _ _ _ _ => lv_istore_n hx hb d_Mo_need_51 rfl hl (by decide) rfl) (fun ls hl => ?_)
  refine gV.lift (fun _ _ _ _ => g_aload_n hx hb d_Mo_need_52 rfl (lv_at hl 1 rfl)) ?_
  refine gV.lift (fun _ _ _ _ => lv_iload_n hx hb d_Mo_need_53 rfl (lv_at hl 0 rfl)) ?_
  refine gV.lift2 (fun _ _ _ _ => lv_if_ne (tgt := 61) hx hb d_Mo_need_54 (by decide)) (fun hc1 => ?_) (fun hc1 => ?_)
  · replace hden := gin hc1 hden
    refine gV.lift (fun _ _ _ _ => lv_iconst (v := 0) hx hb d_Mo_need_61 (by decide)) ?_
    exact w_Mo_need_62 Y  x0 x1 x2 0 x0 S hden (lv_sub hl [1, 2, 3] rfl)
  · replace hden := gip hc1 hden
    refine gV.lift (fun _ _ _ _ => lv_iconst (v := 1) hx hb d_Mo_need_57 (by decide)) ?_
    refine gV.lift (fun _ _ _ _ => lv_goto (tgt := 62) hx hb d_Mo_need_58 (by decide)) ?_
    exact w_Mo_need_62 Y  x0 x1 x2 1 x0 S hden (lv_sub hl [1, 2, 3] rfl)
def B_Mo_need_50  (x0 : Nat) (x1 : Int32) (x2 : Int32) (S : gS) : Option (Int32 × gS) := B_Mo_need_51  x0 x1 x2 0 S
set_option maxRecDepth 100000 in
set_option maxHeartbeats 4000000 in
theorem w_Mo_need_50 {D : va_G} {cT : Nat → ClassId} {H0 : Heap} {l : Launch} {p : Program} {e : Env} {s : State} {m : MethodId} {args : Array Value} {below : List Frame} {meth : Method} {c : Code} {S0 : gS} {S' : gS} {r : Int32} (Y : gY D cT H0 p s m args meth c prog_12_method_30_code 4 "PlanTextModel" 1 23 S0 (Option.some Jvm.ClassFile.FieldType.int))  (x0 : Nat) (x1 : Int32) (x2 : Int32) (S : gS) (hden : B_Mo_need_50  x0 x1 x2 S = some (r, S')) {ls : Array Slot} (hl : lv_has ls 4 [(0, va_rf (some x0)), (1, .int x1), (2, .int x2)]) : gV D cT H0 p l e (gRm 1 23 S0) s m args below meth c (gQ D cT H0 below S0 S' (.inr (some (.int r))) s) S0 S (F0 m 50 ls []) := by
  obtain ⟨X, hZ, hex, hr, hE⟩ := id Y
  have hx := X.1
  have hb := X.2.1
  unfold B_Mo_need_50 at hden
  refine gV.lift (fun _ _ _ _ => lv_iconst (v := 0) hx hb d_Mo_need_50 (by decide)) ?_
  exact w_Mo_need_51 Y  x0 x1 x2 0 S hden (lv_sub hl [0, 1, 2] rfl)
def B_Mo_need_28  (x0 : Nat) (x1 : Int32) (x2 : Int32) (t0 : Int32) (t1 : Option Nat) (t2 : Int32) (t3 : Int32) (S : gS) : Option (Int32 × gS) := Option.bind t1 (fun a1 => Option.bind (gAI S a1 0 t0) (fun v2 => gB2 (D_Mo_in t3 t2 (v2 - 1) S) (fun v4 S3 => (if v4 = 0 then B_Mo_need_50  x0 x1 x2 S3 else gB2 (D_Mo_in x2 0 4 S3) (fun v7 S6 => (if v7 = 0 then B_Mo_need_50  x0 x1 x2 S6 else B_Mo_need_51  x0 x1 x2 1 S6))))))
set_option maxRecDepth 100000 in
set_option maxHeartbeats 4000000 in
theorem w_Mo_need_28 {D : va_G} {cT : Nat → ClassId} {H0 : Heap} {l : Launch} {p : Program} {e : Env} {s : State} {m : MethodId} {args : Array Value} {below : List Frame} {meth : Method} {c : Code} {S0 : gS} {S' : gS} {r : Int32} (Y : gY D cT H0 p s m args meth c prog_12_method_30_code 4 "PlanTextModel" 1 23 S0 (Option.some Jvm.ClassFile.FieldType.int))  (x0 : Nat) (x1 : Int32) (x2 : Int32) (t0 : Int32) (t1 : Option Nat) (t2 : Int32) (t3 : Int32) (S : gS) (hden : B_Mo_need_28  x0 x1 x2 t0 t1 t2 t3 S = some (r, S')) {ls : Array Slot} (hl : lv_has ls 4 [(0, va_rf (some x0)), (1, .int x1), (2, .int x2)]) : gV D cT H0 p l e (gRm 1 23 S0) s m args below meth c (gQ D cT H0 below S0 S' (.inr (some (.int r))) s) S0 S (F0 m 28 ls [.int t0, va_rf t1, .int t2, .int t3]) := by
  obtain ⟨X, hZ, hex, hr, hE⟩ := id Y
  have hx := X.1
  have hb := X.2.1
  unfold B_Mo_need_28 at hden
  replace hden := gb hden
  obtain ⟨a1, rfl, hden⟩ := hden
  replace hden := gb hden
  obtain ⟨v2, hv, hden⟩ := hden
  refine r_iald X (t := 0) rfl hv d_Mo_need_28 ?_
  refine gV.lift (fun _ _ _ _ => lv_iconst (v := 1) hx hb d_Mo_need_29 (by decide)) ?_
  refine gV.lift (fun _ _ _ _ => lv_isub hx hb d_Mo_need_30) ?_
  replace hden := gb2 hden
  obtain ⟨v4, S3, hz, hden⟩ := hden
  refine g_callS (As := [.int t3, .int t2, .int (v2 - 1)]) (rest := []) X hZ (c_Mo_in hz) q_855 q_5 q_853 q_854 ⟨by decide, by decide, by show _ = some 3; decide +kernel⟩ ⟨by decide, by decide⟩ hl.1 (Nat.le_of_ble_eq_true rfl) d_Mo_need_31 rfl rfl ?_
  refine gV.lift2 (fun _ _ _ _ => lv_if_eq (tgt := 50) hx hb d_Mo_need_34 (by decide)) (fun hc5 => ?_) (fun hc5 => ?_)
  · replace hden := gip hc5 hden
    exact w_Mo_need_50 Y  x0 x1 x2 S3 hden (lv_sub hl [0, 1, 2] rfl)
  · replace hden := gin hc5 hden
    refine gV.lift (fun _ _ _ _ => lv_iload_n hx hb d_Mo_need_37 rfl (lv_at hl 2 rfl)) ?_
    refine gV.lift (fun _ _ _ _ => lv_iconst (v := 0) hx hb d_Mo_need_38 (by decide)) ?_
    refine gV.lift (fun _ _ _ _ => lv_iconst (v := 4) hx hb d_Mo_need_39 (by decide)) ?_
    replace hden := gb2 hden
    obtain ⟨v7, S6, hz, hden⟩ := hden
    refine g_callS (As := [.int x2, .int 0, .int 4]) (rest := []) X hZ (c_Mo_in hz) q_855 q_5 q_853 q_854 ⟨by decide, by decide, by show _ = some 3; decide +kernel⟩ ⟨by decide, by decide⟩ hl.1 (Nat.le_of_ble_eq_true rfl) d_Mo_need_40 rfl rfl ?_
    refine gV.lift2 (fun _ _ _ _ => lv_if_eq (tgt := 50) hx hb d_Mo_need_43 (by decide)) (fun hc8 => ?_) (fun hc8 => ?_)
    · replace hden := gip hc8 hden
      exact w_Mo_need_50 Y  x0 x1 x2 S6 hden (lv_sub hl [0, 1, 2] rfl)
    · replace hden := gin hc8 hden
      refine gV.lift (fun _ _ _ _ => lv_iconst (v := 1) hx hb d_Mo_need_46 (by decide)) ?_
      refine gV.lift (fun _ _ _ _ => lv_goto (tgt := 51) hx hb d_Mo_need_47 (by decide)) ?_
      exact w_Mo_need_51 Y  x0 x1 x2 1 S6 hden (lv_sub hl [0, 1, 2] rfl)
def D_Mo_need (h0 : Nat) (p0 : Int32) (p1 : Int32) (S : gS) : Option (Int32 × gS) := Option.bind (gI S h0 10 23) (fun v1 => (if v1 < 0 then B_Mo_need_50  h0 p0 p1 S else Option.bind (gRf S h0 10 18) (fun r3 => Option.bind (gI S h0 10 23) (fun v4 => (if 0 ≤ v4 then Option.bind (gI S h0 10 23) (fun v6 => B_Mo_need_28  h0 p0 p1 v6 r3 0 p0 S) else B_Mo_need_28  h0 p0 p1 0 r3 0 p0 S)))))
set_option maxRecDepth 100000 in
set_option maxHeartbeats 4000000 in
theorem c_Mo_need {D : va_G} {cT : Nat → ClassId} {H0 : Heap} {l : Launch} {S : gS} {S' : gS} {h0 : Nat} {p0 : Int32} {p1 : Int32} {r : Int32} (hden : D_Mo_need h0 p0 p1 S = some (r, S')) : gM D cT H0 l y_Mo_need (Cond.code y_Mo_need prog_12_method_30_code 4 (Option.some Jvm.ClassFile.FieldType.int)) 1 23 [va_rf (some h0), .int p0, .int p1] S S' (.inr (some (.int r))) := by
  refine gM.ofV (by decide) ?_
  intro p e s m args below meth c s₁ B hml ea X hZ hex hr hE
  subst ea
  have Y : gY D cT H0 p s m _ meth c prog_12_method_30_code 4 "PlanTextModel" 1 23 S (Option.some Jvm.ClassFile.FieldType.int) := ⟨X, hZ, hex, hr, hE⟩
  have hx := X.1
  have hb := X.2.1
  have hl := lv_entry ([va_rf (some h0), .int p0, .int p1]) (n := 4) (Nat.le_of_ble_eq_true rfl)
  rw [lg_entry_eq]
  generalize (lg_sl ([va_rf (some h0), .int p0, .int p1]) ++ List.replicate (4 - (lg_sl ([va_rf (some h0), .int p0, .int p1])).length) Slot.unset).toArray = ls at hl ⊢
  have hl : lv_has ls 4 [(0, va_rf (some h0)), (1, .int p0), (2, .int p1)] := hl
  unfold D_Mo_need at hden
  refine gV.lift (fun _ _ _ _ => g_aload_n hx hb d_Mo_need_0 rfl (lv_at hl 0 rfl)) ?_
  replace hden := gb hden
  obtain ⟨v1, hv, hden⟩ := hden
  refine r_getI X cl_Mo (k := 23) hv (by decide) q_788 d_Mo_need_1 ?_
  refine gV.lift2 (fun _ _ _ _ => lv_if_lt (tgt := 50) hx hb d_Mo_need_4 (by decide)) (fun hc2 => ?_) (fun hc2 => ?_)
  · replace hden := gip hc2 hden
    exact w_Mo_need_50 Y  h0 p0 p1 S hden (lv_sub hl [0, 1, 2] rfl)
  · replace hden := gin hc2 hden
    refine gV.lift (fun _ _ _ _ => lv_iload_n hx hb d_Mo_need_7 rfl (lv_at hl 1 rfl)) ?_
    refine gV.lift (fun _ _ _ _ => lv_iconst (v := 0) hx hb d_Mo_need_8 (by decide)) ?_
    refine gV.lift (fun _ _ _ _ => g_aload_n hx hb d_Mo_need_9 rfl (lv_at hl 0 rfl)) ?_
    replace hden := gb hden
    obtain ⟨r3, hv, hden⟩ := hden
    refine r_getR X cl_Mo (k := 18) hv (by decide) q_783 d_Mo_need_10 ?_
    refine gV.lift (fun _ _ _ _ => g_aload_n hx hb d_Mo_need_13 rfl (lv_at hl 0 rfl)) ?_
    replace hden := gb hden
    obtain ⟨v4, hv, hden⟩ := hden
    refine r_getI X cl_Mo (k := 23) hv (by decide) q_788 d_Mo_need_14 ?_
    refine gV.lift2 (fun _ _ _ _ => lv_if_ge (tgt := 24) hx hb d_Mo_need_17 (by decide)) (fun hc5 => ?_) (fun hc5 => ?_)
    · replace hden := gip hc5 hden
      refine gV.lift (fun _ _ _ _ => g_aload_n hx hb d_Mo_need_24 rfl (lv_at hl 0 rfl)) ?_
      replace hden := gb hden
      obtain ⟨v6, hv, hden⟩ := hden
      refine r_getI X cl_Mo (k := 23) hv (by decide) q_788 d_Mo_need_25 ?_
      exact w_Mo_need_28 Y  h0 p0 p1 v6 r3 0 p0 S hden (lv_sub hl [0, 1, 2] rfl)
    · replace hden := gin hc5 hden
      refine gV.lift (fun _ _ _ _ => lv_iconst (v := 0) hx hb d_Mo_need_20 (by decide)) ?_
      refine gV.lift (fun _ _ _ _ => lv_goto (tgt := 28) hx hb d_Mo_need_21 (by decide)) ?_
      exact w_Mo_need_28 Y  h0 p0 p1 0 r3 0 p0 S hden (lv_sub hl [0, 1, 2] rfl)
/-! PlanTextModel.standby(IIII)I -/
abbrev y_Mo_standby : MethodName := ⟨"PlanTextModel", "standby", "(IIII)I"⟩
theorem d_Mo_standby_0 : decode prog_12_method_31_code 0 = .ok (.aload_n 0, 1) := by decide +kernel
theorem d_Mo_standby_1 : decode prog_12_method_31_code 1 = .ok (.iload_n 1, 1) := by decide +kernel
theorem d_Mo_standby_2 : decode prog_12_method_31_code 2 = .ok (.iconst 0, 1) := by decide +kernel
theorem d_Mo_standby_3 : decode prog_12_method_31_code 3 = .ok (.bipush 7, 2) := by decide +kernel
theorem d_Mo_standby_5 : decode prog_12_method_31_code 5 = .ok (.invokestatic 72, 3) := by decide +kernel
theorem d_Mo_standby_8 : decode prog_12_method_31_code 8 = .ok (.ifCond .ne 7, 3) := by decide +kernel
theorem d_Mo_standby_11 : decode prog_12_method_31_code 11 = .ok (.iconst 1, 1) := by decide +kernel
theorem d_Mo_standby_12 : decode prog_12_method_31_code 12 = .ok (.goto 4, 3) := by decide +kernel
theorem d_Mo_standby_15 : decode prog_12_method_31_code 15 = .ok (.iconst 0, 1) := by decide +kernel
theorem d_Mo_standby_16 : decode prog_12_method_31_code 16 = .ok (.iload_n 2, 1) := by decide +kernel
theorem d_Mo_standby_17 : decode prog_12_method_31_code 17 = .ok (.iconst 0, 1) := by decide +kernel
theorem d_Mo_standby_18 : decode prog_12_method_31_code 18 = .ok (.bipush 23, 2) := by decide +kernel
theorem d_Mo_standby_20 : decode prog_12_method_31_code 20 = .ok (.invokestatic 72, 3) := by decide +kernel
theorem d_Mo_standby_23 : decode prog_12_method_31_code 23 = .ok (.ifCond .eq 21, 3) := by decide +kernel
theorem d_Mo_standby_26 : decode prog_12_method_31_code 26 = .ok (.iload_n 3, 1) := by decide +kernel
theorem d_Mo_standby_27 : decode prog_12_method_31_code 27 = .ok (.iconst 0, 1) := by decide +kernel
theorem d_Mo_standby_28 : decode prog_12_method_31_code 28 = .ok (.bipush 99, 2) := by decide +kernel
theorem d_Mo_standby_30 : decode prog_12_method_31_code 30 = .ok (.invokestatic 72, 3) := by decide +kernel
theorem d_Mo_standby_33 : decode prog_12_method_31_code 33 = .ok (.ifCond .eq 11, 3) := by decide +kernel
theorem d_Mo_standby_36 : decode prog_12_method_31_code 36 = .ok (.iload 4, 2) := by decide +kernel
theorem d_Mo_standby_38 : decode prog_12_method_31_code 38 = .ok (.invokestatic 153, 3) := by decide +kernel
theorem d_Mo_standby_41 : decode prog_12_method_31_code 41 = .ok (.ifCond .ne 7, 3) := by decide +kernel
theorem d_Mo_standby_44 : decode prog_12_method_31_code 44 = .ok (.iconst 1, 1) := by decide +kernel
theorem d_Mo_standby_45 : decode prog_12_method_31_code 45 = .ok (.goto 4, 3) := by decide +kernel
theorem d_Mo_standby_48 : decode prog_12_method_31_code 48 = .ok (.iconst 0, 1) := by decide +kernel
theorem d_Mo_standby_49 : decode prog_12_method_31_code 49 = .ok (.iconst 0, 1) := by decide +kernel
theorem d_Mo_standby_50 : decode prog_12_method_31_code 50 = .ok (.invokevirtual 79, 3) := by decide +kernel
theorem d_Mo_standby_53 : decode prog_12_method_31_code 53 = .ok (.ifCond .eq 5, 3) := by decide +kernel
theorem d_Mo_standby_56 : decode prog_12_method_31_code 56 = .ok (.iconst 0, 1) := by decide +kernel
theorem d_Mo_standby_57 : decode prog_12_method_31_code 57 = .ok (.ireturn, 1) := by decide +kernel
theorem d_Mo_standby_58 : decode prog_12_method_31_code 58 = .ok (.aload_n 0, 1) := by decide +kernel
theorem d_Mo_standby_59 : decode prog_12_method_31_code 59 = .ok (.iload 4, 2) := by decide +kernel
theorem d_Mo_standby_61 : decode prog_12_method_31_code 61 = .ok (.invokevirtual 156, 3) := by decide +kernel
theorem d_Mo_standby_64 : decode prog_12_method_31_code 64 = .ok (.istore 5, 2) := by decide +kernel
theorem d_Mo_standby_66 : decode prog_12_method_31_code 66 = .ok (.iconst 0, 1) := by decide +kernel
theorem d_Mo_standby_67 : decode prog_12_method_31_code 67 = .ok (.istore 6, 2) := by decide +kernel
theorem d_Mo_standby_69 : decode prog_12_method_31_code 69 = .ok (.iconst 0, 1) := by decide +kernel
theorem d_Mo_standby_70 : decode prog_12_method_31_code 70 = .ok (.istore 7, 2) := by decide +kernel
theorem d_Mo_standby_72 : decode prog_12_method_31_code 72 = .ok (.iload 5, 2) := by decide +kernel
theorem d_Mo_standby_74 : decode prog_12_method_31_code 74 = .ok (.ifCond .lt 112, 3) := by decide +kernel
theorem d_Mo_standby_77 : decode prog_12_method_31_code 77 = .ok (.iload 7, 2) := by decide +kernel
theorem d_Mo_standby_79 : decode prog_12_method_31_code 79 = .ok (.aload_n 0, 1) := by decide +kernel
theorem d_Mo_standby_80 : decode prog_12_method_31_code 80 = .ok (.getfield 51, 3) := by decide +kernel
theorem d_Mo_standby_83 : decode prog_12_method_31_code 83 = .ok (.iload 5, 2) := by decide +kernel
theorem d_Mo_standby_85 : decode prog_12_method_31_code 85 = .ok (.iaload, 1) := by decide +kernel
theorem d_Mo_standby_86 : decode prog_12_method_31_code 86 = .ok (.if_icmp .ge 100, 3) := by decide +kernel
theorem d_Mo_standby_89 : decode prog_12_method_31_code 89 = .ok (.bipush 40, 2) := by decide +kernel
theorem d_Mo_standby_91 : decode prog_12_method_31_code 91 = .ok (.iload 5, 2) := by decide +kernel
theorem d_Mo_standby_93 : decode prog_12_method_31_code 93 = .ok (.imul, 1) := by decide +kernel
theorem d_Mo_standby_94 : decode prog_12_method_31_code 94 = .ok (.iconst 5, 1) := by decide +kernel
theorem d_Mo_standby_95 : decode prog_12_method_31_code 95 = .ok (.iload 7, 2) := by decide +kernel
theorem d_Mo_standby_97 : decode prog_12_method_31_code 97 = .ok (.imul, 1) := by decide +kernel
theorem d_Mo_standby_98 : decode prog_12_method_31_code 98 = .ok (.iadd, 1) := by decide +kernel
theorem d_Mo_standby_99 : decode prog_12_method_31_code 99 = .ok (.istore 8, 2) := by decide +kernel
theorem d_Mo_standby_101 : decode prog_12_method_31_code 101 = .ok (.aload_n 0, 1) := by decide +kernel
theorem d_Mo_standby_102 : decode prog_12_method_31_code 102 = .ok (.getfield 54, 3) := by decide +kernel
theorem d_Mo_standby_105 : decode prog_12_method_31_code 105 = .ok (.iload 8, 2) := by decide +kernel
theorem d_Mo_standby_107 : decode prog_12_method_31_code 107 = .ok (.iconst 4, 1) := by decide +kernel
theorem d_Mo_standby_108 : decode prog_12_method_31_code 108 = .ok (.iadd, 1) := by decide +kernel
theorem d_Mo_standby_109 : decode prog_12_method_31_code 109 = .ok (.iaload, 1) := by decide +kernel
theorem d_Mo_standby_110 : decode prog_12_method_31_code 110 = .ok (.iload_n 1, 1) := by decide +kernel
theorem d_Mo_standby_111 : decode prog_12_method_31_code 111 = .ok (.if_icmp .ne 43, 3) := by decide +kernel
theorem d_Mo_standby_114 : decode prog_12_method_31_code 114 = .ok (.aload_n 0, 1) := by decide +kernel
theorem d_Mo_standby_115 : decode prog_12_method_31_code 115 = .ok (.getfield 54, 3) := by decide +kernel
theorem d_Mo_standby_118 : decode prog_12_method_31_code 118 = .ok (.iload 8, 2) := by decide +kernel
theorem d_Mo_standby_120 : decode prog_12_method_31_code 120 = .ok (.iaload, 1) := by decide +kernel
theorem d_Mo_standby_121 : decode prog_12_method_31_code 121 = .ok (.aload_n 0, 1) := by decide +kernel
theorem d_Mo_standby_122 : decode prog_12_method_31_code 122 = .ok (.getfield 54, 3) := by decide +kernel
theorem d_Mo_standby_125 : decode prog_12_method_31_code 125 = .ok (.iload 8, 2) := by decide +kernel
theorem d_Mo_standby_127 : decode prog_12_method_31_code 127 = .ok (.iconst 1, 1) := by decide +kernel
theorem d_Mo_standby_128 : decode prog_12_method_31_code 128 = .ok (.iadd, 1) := by decide +kernel
theorem d_Mo_standby_129 : decode prog_12_method_31_code 129 = .ok (.iaload, 1) := by decide +kernel
theorem d_Mo_standby_130 : decode prog_12_method_31_code 130 = .ok (.iload_n 2, 1) := by decide +kernel
theorem d_Mo_standby_131 : decode prog_12_method_31_code 131 = .ok (.invokestatic 146, 3) := by decide +kernel
theorem d_Mo_standby_134 : decode prog_12_method_31_code 134 = .ok (.ifCond .eq 20, 3) := by decide +kernel
theorem d_Mo_standby_137 : decode prog_12_method_31_code 137 = .ok (.aload_n 0, 1) := by decide +kernel
theorem d_Mo_standby_138 : decode prog_12_method_31_code 138 = .ok (.getfield 54, 3) := by decide +kernel
theorem d_Mo_standby_141 : decode prog_12_method_31_code 141 = .ok (.iload 8, 2) := by decide +kernel
theorem d_Mo_standby_143 : decode prog_12_method_31_code 143 = .ok (.iconst 2, 1) := by decide +kernel
theorem d_Mo_standby_144 : decode prog_12_method_31_code 144 = .ok (.iadd, 1) := by decide +kernel
theorem d_Mo_standby_145 : decode prog_12_method_31_code 145 = .ok (.iaload, 1) := by decide +kernel
theorem d_Mo_standby_146 : decode prog_12_method_31_code 146 = .ok (.iload_n 3, 1) := by decide +kernel
theorem d_Mo_standby_147 : decode prog_12_method_31_code 147 = .ok (.if_icmp .gt 7, 3) := by decide +kernel
theorem d_Mo_standby_150 : decode prog_12_method_31_code 150 = .ok (.iconst 1, 1) := by decide +kernel
theorem d_Mo_standby_151 : decode prog_12_method_31_code 151 = .ok (.goto 4, 3) := by decide +kernel
theorem d_Mo_standby_154 : decode prog_12_method_31_code 154 = .ok (.iconst 0, 1) := by decide +kernel
theorem d_Mo_standby_155 : decode prog_12_method_31_code 155 = .ok (.istore 9, 2) := by decide +kernel
theorem d_Mo_standby_157 : decode prog_12_method_31_code 157 = .ok (.iload 6, 2) := by decide +kernel
theorem d_Mo_standby_159 : decode prog_12_method_31_code 159 = .ok (.iload 9, 2) := by decide +kernel
theorem d_Mo_standby_161 : decode prog_12_method_31_code 161 = .ok (.ifCond .eq 15, 3) := by decide +kernel
theorem d_Mo_standby_164 : decode prog_12_method_31_code 164 = .ok (.aload_n 0, 1) := by decide +kernel
theorem d_Mo_standby_165 : decode prog_12_method_31_code 165 = .ok (.getfield 54, 3) := by decide +kernel
theorem d_Mo_standby_168 : decode prog_12_method_31_code 168 = .ok (.iload 8, 2) := by decide +kernel
theorem d_Mo_standby_170 : decode prog_12_method_31_code 170 = .ok (.iconst 3, 1) := by decide +kernel
theorem d_Mo_standby_171 : decode prog_12_method_31_code 171 = .ok (.iadd, 1) := by decide +kernel
theorem d_Mo_standby_172 : decode prog_12_method_31_code 172 = .ok (.iaload, 1) := by decide +kernel
theorem d_Mo_standby_173 : decode prog_12_method_31_code 173 = .ok (.goto 4, 3) := by decide +kernel
theorem d_Mo_standby_176 : decode prog_12_method_31_code 176 = .ok (.iconst 0, 1) := by decide +kernel
theorem d_Mo_standby_177 : decode prog_12_method_31_code 177 = .ok (.iadd, 1) := by decide +kernel
theorem d_Mo_standby_178 : decode prog_12_method_31_code 178 = .ok (.istore 6, 2) := by decide +kernel
theorem d_Mo_standby_180 : decode prog_12_method_31_code 180 = .ok (.iinc 7 1, 3) := by decide +kernel
theorem d_Mo_standby_183 : decode prog_12_method_31_code 183 = .ok (.goto (-111), 3) := by decide +kernel
theorem d_Mo_standby_186 : decode prog_12_method_31_code 186 = .ok (.iload 6, 2) := by decide +kernel
theorem d_Mo_standby_188 : decode prog_12_method_31_code 188 = .ok (.ireturn, 1) := by decide +kernel
def B_Mo_standby_186  (x6 : Int32) (S : gS) : Option (Int32 × gS) := some (x6, S)
set_option maxRecDepth 100000 in
set_option maxHeartbeats 4000000 in
theorem w_Mo_standby_186 {D : va_G} {cT : Nat → ClassId} {H0 : Heap} {l : Launch} {p : Program} {e : Env} {s : State} {m : MethodId} {args : Array Value} {below : List Frame} {meth : Method} {c : Code} {S0 : gS} {S' : gS} {r : Int32} (Y : gY D cT H0 p s m args meth c prog_12_method_31_code 10 "PlanTextModel" 2 42 S0 (Option.some Jvm.ClassFile.FieldType.int))  (x6 : Int32) (S : gS) (hden : B_Mo_standby_186  x6 S = some (r, S')) {ls : Array Slot} (hl : lv_has ls 10 [(6, .int x6)]) : gV D cT H0 p l e (gRm 2 42 S0) s m args below meth c (gQ D cT H0 below S0 S' (.inr (some (.int r))) s) S0 S (F0 m 186 ls []) := by
  obtain ⟨X, hZ, hex, hr, hE⟩ := id Y
  have hx := X.1
  have hb := X.2.1
  unfold B_Mo_standby_186 at hden
  refine gV.lift (fun _ _ _ _ => lv_iload hx hb d_Mo_standby_186 (lv_at hl 0 rfl)) ?_
  obtain ⟨rfl, rfl⟩ := gpi hden
  exact g_iret X hr d_Mo_standby_188
def B_Mo_standby_177 (k72 : Nat → Int32 → Int32 → Int32 → Int32 → Int32 → Int32 → gS → Option (Int32 × gS)) (x0 : Nat) (x1 : Int32) (x2 : Int32) (x3 : Int32) (x5 : Int32) (x7 : Int32) (t0 : Int32) (t1 : Int32) (S : gS) : Option (Int32 × gS) := k72 x0 x1 x2 x3 x5 (t1 + t0) (x7 + 1) S
set_option maxRecDepth 100000 in
set_option maxHeartbeats 4000000 in
theorem w_Mo_standby_177 {D : va_G} {cT : Nat → ClassId} {H0 : Heap} {l : Launch} {p : Program} {e : Env} {s : State} {m : MethodId} {args : Array Value} {below : List Frame} {meth : Method} {c : Code} {S0 : gS} {S' : gS} {r : Int32} (Y : gY D cT H0 p s m args meth c prog_12_method_31_code 10 "PlanTextModel" 2 42 S0 (Option.some Jvm.ClassFile.FieldType.int)) {k72 : Nat → Int32 → Int32 → Int32 → Int32 → Int32 → Int32 → gS → Option (Int32 × gS)} (hk72 : ∀ (x0 : Nat) (x1 : Int32) (x2 : Int32) (x3 : Int32) (x5 : Int32) (x6 : Int32) (x7 : Int32) (S : gS) (ls : Array Slot), k72 x0 x1 x2 x3 x5 x6 x7 S = some (r, S') → lv_has ls 10 [(0, va_rf (some x0)), (1, .int x1), (2, .int x2), (3, .int x3), (5, .int x5), (6, .int x6), (7, .int x7)] → gV D cT H0 p l e (gRm 2 42 S0) s m args below meth c (gQ D cT H0 below S0 S' (.inr (some (.int r))) s) S0 S (F0 m 72 ls [])) (x0 : Nat) (x1 : Int32) (x2 : Int32) (x3 : Int32) (x5 : Int32) (x7 : Int32) (t0 : Int32) (t1 : Int32) (S : gS) (hden : B_Mo_standby_177 k72 x0 x1 x2 x3 x5 x7 t0 t1 S = some (r, S')) {ls : Array Slot} (hl : lv_has ls 10 [(0, va_rf (some x0)), (1, .int x1), (2, .int x2), (3, .int x3), (5, .int x5), (7, .int x7)]) : gV D cT H0 p l e (gRm 2 42 S0) s m args below meth c (gQ D cT H0 below S0 S' (.inr (some (.int r))) s) S0 S (F0 m 177 ls [.int t0, .int t1]) := by
  obtain ⟨X, hZ, hex, hr, hE⟩ := id Y
  have hx := X.1
  have hb := X.2.1
  unfold B_Mo_standby_177 at hden
  refine gV.lift (fun _ _ _ _ => lv_iadd hx hb d_Mo_standby_177) ?_
  refine gV.liftS (nL := 10) (lv' := [(6, .int (t1 + t0)), (0, va_rf (some x0)), (1, .int x1), (2, .int x2), (3, .int x3), (5, .int x5), (7, .int x7)]) (fun _ _ _ _ => lv_istore hx hb d_Mo_standby_178 hl (by decide) rfl) (fun ls hl => ?_)
  refine gV.liftS (nL := 10) (lv' := [(7, .int (x7 + 1)), (6, .int (t1 + t0)), (0, va_rf (some x0)), (1, .int x1), (2, .int x2), (3, .int x3), (5, .int x5)]) (fun _ _ _ _ => lv_iinc (v := (x7 + 1)) hx hb d_Mo_standby_180 hl (k := 6) rfl rfl (by decide) rfl) (fun ls hl => ?_)
  refine gV.lift (fun _ _ _ _ => lv_goto (tgt := 72) hx hb d_Mo_standby_183 (by decide)) ?_
  exact hk72 x0 x1 x2 x3 x5 (t1 + t0) (x7 + 1) S _ hden (lv_sub hl [2, 3, 4, 5, 6, 1, 0] rfl)
def B_Mo_standby_155 (k72 : Nat → Int32 → Int32 → Int32 → Int32 → Int32 → Int32 → gS → Option (Int32 × gS)) (x0 : Nat) (x1 : Int32) (x2 : Int32) (x3 : Int32) (x5 : Int32) (x6 : Int32) (x7 : Int32) (x8 : Int32) (t0 : Int32) (S : gS) : Option (Int32 × gS) := (if t0 = 0 then B_Mo_standby_177 k72 x0 x1 x2 x3 x5 x7 0 x6 S else Option.bind (gRf S x0 10 21) (fun r2 => Option.bind r2 (fun a3 => Option.bind (gAI S a3 0 (x8 + 3)) (fun v4 => B_Mo_standby_177 k72 x0 x1 x2 x3 x5 x7 v4 x6 S))))
set_option maxRecDepth 100000 in
set_option maxHeartbeats 4000000 in
theorem w_Mo_standby_155 {D : va_G} {cT : Nat → ClassId} {H0 : Heap} {l : Launch} {p : Program} {e : Env} {s : State} {m : MethodId} {args : Array Value} {below : List Frame} {meth : Method} {c : Code} {S0 : gS} {S' : gS} {r : Int32} (Y : gY D cT H0 p s m args meth c prog_12_method_31_code 10 "PlanTextModel" 2 42 S0 (Option.some Jvm.ClassFile.FieldType.int)) {k72 : Nat → Int32 → Int32 → Int32 → Int32 → Int32 → Int32 → gS → Option (Int32 × gS)} (hk72 : ∀ (x0 : Nat) (x1 : Int32) (x2 : Int32) (x3 : Int32) (x5 : Int32) (x6 : Int32) (x7 : Int32) (S : gS) (ls : Array Slot), k72 x0 x1 x2 x3 x5 x6 x7 S = some (r, S') → lv_has ls 10 [(0, va_rf (some x0)), (1, .int x1), (2, .int x2), (3, .int x3), (5, .int x5), (6, .int x6), (7, .int x7)] → gV D cT H0 p l e (gRm 2 42 S0) s m args below meth c (gQ D cT H0 below S0 S' (.inr (some (.int r))) s) S0 S (F0 m 72 ls [])) (x0 : Nat) (x1 : Int32) (x2 : Int32) (x3 : Int32) (x5 : Int32) (x6 : Int32) (x7 : Int32) (x8 : Int32) (t0 : Int32) (S : gS) (hden : B_Mo_standby_155 k72 x0 x1 x2 x3 x5 x6 x7 x8 t0 S = some (r, S')) {ls : Array Slot} (hl : lv_has ls 10 [(0, va_rf (some x0)), (1, .int x1), (2, .int x2), (3, .int x3), (5, .int x5), (6, .int x6), (7, .int x7), (8, .int x8)]) : gV D cT H0 p l e (gRm 2 42 S0) s m args below meth c (gQ D cT H0 below S0 S' (.inr (some (.int r))) s) S0 S (F0 m 155 ls [.int t0]) := by
  obtain ⟨X, hZ, hex, hr, hE⟩ := id Y
  have hx := X.1
  have hb := X.2.1
  unfold B_Mo_standby_155 at hden
  refine gV.liftS (nL := 10) (lv' := [(9, .int t0), (0, va_rf (some x0)), (1, .int x1), (2, .int x2), (3, .int x3), (5, .int x5), (6, .int x6), (7, .int x7), (8, .int x8)]) (fun _ _ _ _ => lv_istore hx hb d_Mo_standby_155 hl (by decide) rfl) (fun ls hl => ?_)
  refine gV.lift (fun _ _ _ _ => lv_iload hx hb d_Mo_standby_157 (lv_at hl 6 rfl)) ?_
  refine gV.lift (fun _ _ _ _ => lv_iload hx hb d_Mo_standby_159 (lv_at hl 0 rfl)) ?_
  refine gV.lift2 (fun _ _ _ _ => lv_if_eq (tgt := 176) hx hb d_Mo_standby_161 (by decide)) (fun hc1 => ?_) (fun hc1 => ?_)
  · replace hden := gip hc1 hden
    refine gV.lift (fun _ _ _ _ => lv_iconst (v := 0) hx hb d_Mo_standby_176 (by decide)) ?_
    exact w_Mo_standby_177 Y hk72 x0 x1 x2 x3 x5 x7 0 x6 S hden (lv_sub hl [1, 2, 3, 4, 5, 7] rfl)
  · replace hden := gin hc1 hden
    refine gV.lift (fun _ _ _ _ => g_aload_n hx hb d_Mo_standby_164 rfl (lv_at hl 1 rfl)) ?_
    replace hden := gb hden
    obtain ⟨r2, hv, hden⟩ := hden
    refine r_getR X cl_Mo (k := 21) hv (by decide) q_786 d_Mo_standby_165 ?_
    refine gV.lift (fun _ _ _ _ => lv_iload hx hb d_Mo_standby_168 (lv_at hl 8 rfl)) ?_
    refine gV.lift (fun _ _ _ _ => lv_iconst (v := 3) hx hb d_Mo_standby_170 (by decide)) ?_
    refine gV.lift (fun _ _ _ _ => lv_iadd hx hb d_Mo_standby_171) ?_
    replace hden := gb hden
    obtain ⟨a3, rfl, hden⟩ := hden
    replace hden := gb hden
    obtain ⟨v4, hv, hden⟩ := hden
    refine r_iald X (t := 0) rfl hv d_Mo_standby_172 ?_
    refine gV.lift (fun _ _ _ _ => lv_goto (tgt := 177) hx hb d_Mo_standby_173 (by decide)) ?_
    exact w_Mo_standby_177 Y hk72 x0 x1 x2 x3 x5 x7 v4 x6 S hden (lv_sub hl [1, 2, 3, 4, 5, 7] rfl)
def B_Mo_standby_154 (k72 : Nat → Int32 → Int32 → Int32 → Int32 → Int32 → Int32 → gS → Option (Int32 × gS)) (x0 : Nat) (x1 : Int32) (x2 : Int32) (x3 : Int32) (x5 : Int32) (x6 : Int32) (x7 : Int32) (x8 : Int32) (S : gS) : Option (Int32 × gS) := B_Mo_standby_155 k72 x0 x1 x2 x3 x5 x6 x7 x8 0 S
set_option maxRecDepth 100000 in
set_option maxHeartbeats 4000000 in
theorem w_Mo_standby_154 {D : va_G} {cT : Nat → ClassId} {H0 : Heap} {l : Launch} {p : Program} {e : Env} {s : State} {m : MethodId} {args : Array Value} {below : List Frame} {meth : Method} {c : Code} {S0 : gS} {S' : gS} {r : Int32} (Y : gY D cT H0 p s m args meth c prog_12_method_31_code 10 "PlanTextModel" 2 42 S0 (Option.some Jvm.ClassFile.FieldType.int)) {k72 : Nat → Int32 → Int32 → Int32 → Int32 → Int32 → Int32 → gS → Option (Int32 × gS)} (hk72 : ∀ (x0 : Nat) (x1 : Int32) (x2 : Int32) (x3 : Int32) (x5 : Int32) (x6 : Int32) (x7 : Int32) (S : gS) (ls : Array Slot), k72 x0 x1 x2 x3 x5 x6 x7 S = some (r, S') → lv_has ls 10 [(0, va_rf (some x0)), (1, .int x1), (2, .int x2), (3, .int x3), (5, .int x5), (6, .int x6), (7, .int x7)] → gV D cT H0 p l e (gRm 2 42 S0) s m args below meth c (gQ D cT H0 below S0 S' (.inr (some (.int r))) s) S0 S (F0 m 72 ls [])) (x0 : Nat) (x1 : Int32) (x2 : Int32) (x3 : Int32) (x5 : Int32) (x6 : Int32) (x7 : Int32) (x8 : Int32) (S : gS) (hden : B_Mo_standby_154 k72 x0 x1 x2 x3 x5 x6 x7 x8 S = some (r, S')) {ls : Array Slot} (hl : lv_has ls 10 [(0, va_rf (some x0)), (1, .int x1), (2, .int x2), (3, .int x3), (5, .int x5), (6, .int x6), (7, .int x7), (8, .int x8)]) : gV D cT H0 p l e (gRm 2 42 S0) s m args below meth c (gQ D cT H0 below S0 S' (.inr (some (.int r))) s) S0 S (F0 m 154 ls []) := by
  obtain ⟨X, hZ, hex, hr, hE⟩ := id Y
  have hx := X.1
  have hb := X.2.1
  unfold B_Mo_standby_154 at hden
  refine gV.lift (fun _ _ _ _ => lv_iconst (v := 0) hx hb d_Mo_standby_154 (by decide)) ?_
  exact w_Mo_standby_155 Y hk72 x0 x1 x2 x3 x5 x6 x7 x8 0 S hden (lv_sub hl [0, 1, 2, 3, 4, 5, 6, 7] rfl)
def B_Mo_standby_72 (k72 : Nat → Int32 → Int32 → Int32 → Int32 → Int32 → Int32 → gS → Option (Int32 × gS)) (x0 : Nat) (x1 : Int32) (x2 : Int32) (x3 : Int32) (x5 : Int32) (x6 : Int32) (x7 : Int32) (S : gS) : Option (Int32 × gS) := (if x5 < 0 then B_Mo_standby_186  x6 S else Option.bind (gRf S x0 10 20) (fun r2 => Option.bind r2 (fun a3 => Option.bind (gAI S a3 0 x5) (fun v4 => (if v4 ≤ x7 then B_Mo_standby_186  x6 S else Option.bind (gRf S x0 10 21) (fun r6 => Option.bind r6 (fun a7 => Option.bind (gAI S a7 0 (((40 * x5) + (5 * x7)) + 4)) (fun v8 => (if v8 = x1 then Option.bind (gRf S x0 10 21) (fun r10 => Option.bind r10 (fun a11 => Option.bind (gAI S a11 0 ((40 * x5) + (5 * x7))) (fun v12 => Option.bind (gRf S x0 10 21) (fun r13 => Option.bind r13 (fun a14 => Option.bind (gAI S a14 0 (((40 * x5) + (5 * x7)) + 1)) (fun v15 => gB2 (D_Mo_isWithin v12 v15 x2 S) (fun v17 S16 => (if v17 = 0 then B_Mo_standby_154 k72 x0 x1 x2 x3 x5 x6 x7 ((40 * x5) + (5 * x7)) S16 else Option.bind (gRf S16 x0 10 21) (fun r19 => Option.bind r19 (fun a20 => Option.bind (gAI S16 a20 0 (((40 * x5) + (5 * x7)) + 2)) (fun v21 => (if x3 < v21 then B_Mo_standby_154 k72 x0 x1 x2 x3 x5 x6 x7 ((40 * x5) + (5 * x7)) S16 else B_Mo_standby_155 k72 x0 x1 x2 x3 x5 x6 x7 ((40 * x5) + (5 * x7)) 1 S16)))))))))))) else B_Mo_standby_154 k72 x0 x1 x2 x3 x5 x6 x7 ((40 * x5) + (5 * x7)) S)))))))))
set_option maxRecDepth 100000 in
set_option maxHeartbeats 4000000 in
theorem w_Mo_standby_72 {D : va_G} {cT : Nat → ClassId} {H0 : Heap} {l : Launch} {p : Program} {e : Env} {s : State} {m : MethodId} {args : Array Value} {below : List Frame} {meth : Method} {c : Code} {S0 : gS} {S' : gS} {r : Int32} (Y : gY D cT H0 p s m args meth c prog_12_method_31_code 10 "PlanTextModel" 2 42 S0 (Option.some Jvm.ClassFile.FieldType.int)) {k72 : Nat → Int32 → Int32 → Int32 → Int32 → Int32 → Int32 → gS → Option (Int32 × gS)} (hk72 : ∀ (x0 : Nat) (x1 : Int32) (x2 : Int32) (x3 : Int32) (x5 : Int32) (x6 : Int32) (x7 : Int32) (S : gS) (ls : Array Slot), k72 x0 x1 x2 x3 x5 x6 x7 S = some (r, S') → lv_has ls 10 [(0, va_rf (some x0)), (1, .int x1), (2, .int x2), (3, .int x3), (5, .int x5), (6, .int x6), (7, .int x7)] → gV D cT H0 p l e (gRm 2 42 S0) s m args below meth c (gQ D cT H0 below S0 S' (.inr (some (.int r))) s) S0 S (F0 m 72 ls [])) (x0 : Nat) (x1 : Int32) (x2 : Int32) (x3 : Int32) (x5 : Int32) (x6 : Int32) (x7 : Int32) (S : gS) (hden : B_Mo_standby_72 k72 x0 x1 x2 x3 x5 x6 x7 S = some (r, S')) {ls : Array Slot} (hl : lv_has ls 10 [(0, va_rf (some x0)), (1, .int x1), (2, .int x2), (3, .int x3), (5, .int x5), (6, .int x6), (7, .int x7)]) : gV D cT H0 p l e (gRm 2 42 S0) s m args below meth c (gQ D cT H0 below S0 S' (.inr (some (.int r))) s) S0 S (F0 m 72 ls []) := by
  obtain ⟨X, hZ, hex, hr, hE⟩ := id Y
  have hx := X.1
  have hb := X.2.1
  unfold B_Mo_standby_72 at hden
  refine gV.lift (fun _ _ _ _ => lv_iload hx hb d_Mo_standby_72 (lv_at hl 4 rfl)) ?_
  refine gV.lift2 (fun _ _ _ _ => lv_if_lt (tgt := 186) hx hb d_Mo_standby_74 (by decide)) (fun hc1 => ?_) (fun hc1 => ?_)
  · replace hden := gip hc1 hden
    exact w_Mo_standby_186 Y  x6 S hden (lv_sub hl [5] rfl)
  · replace hden := gin hc1 hden
    refine gV.lift (fun _ _ _ _ => lv_iload hx hb d_Mo_standby_77 (lv_at hl 6 rfl)) ?_
    refine gV.lift (fun _ _ _ _ => g_aload_n hx hb d_Mo_standby_79 rfl (lv_at hl 0 rfl)) ?_
    replace hden := gb hden
    obtain ⟨r2, hv, hden⟩ := hden
    refine r_getR X cl_Mo (k := 20) hv (by decide) q_785 d_Mo_standby_80 ?_
    refine gV.lift (fun _ _ _ _ => lv_iload hx hb d_Mo_standby_83 (lv_at hl 4 rfl)) ?_
    replace hden := gb hden
    obtain ⟨a3, rfl, hden⟩ := hden
    replace hden := gb hden
    obtain ⟨v4, hv, hden⟩ := hden
    refine r_iald X (t := 0) rfl hv d_Mo_standby_85 ?_
    refine gV.lift2 (fun _ _ _ _ => lv_icmp_ge (tgt := 186) hx hb d_Mo_standby_86 (by decide)) (fun hc5 => ?_) (fun hc5 => ?_)
    · replace hden := gip hc5 hden
      exact w_Mo_standby_186 Y  x6 S hden (lv_sub hl [5] rfl)
    · replace hden := gin hc5 hden
      refine gV.lift (fun _ _ _ _ => lv_bipush (v := 40) hx hb d_Mo_standby_89 (by decide)) ?_
      refine gV.lift (fun _ _ _ _ => lv_iload hx hb d_Mo_standby_91 (lv_at hl 4 rfl)) ?_
      refine gV.lift (fun _ _ _ _ => lv_imul hx hb d_Mo_standby_93) ?_
      refine gV.lift (fun _ _ _ _ => lv_iconst (v := 5) hx hb d_Mo_standby_94 (by decide)) ?_
      refine gV.lift (fun _ _ _ _ => lv_iload hx hb d_Mo_standby_95 (lv_at hl 6 rfl)) ?_
      refine gV.lift (fun _ _ _ _ => lv_imul hx hb d_Mo_standby_97) ?_
      refine gV.lift (fun _ _ _ _ => lv_iadd hx hb d_Mo_standby_98) ?_
      refine gV.liftS (nL := 10) (lv' := [(8, .int ((40 * x5) + (5 * x7))), (0, va_rf (some x0)), (1, .int x1), (2, .int x2), (3, .int x3), (5, .int x5), (6, .int x6), (7, .int x7)]) (fun _ _ _ _ => lv_istore hx hb d_Mo_standby_99 hl (by decide) rfl) (fun ls hl => ?_)
      refine gV.lift (fun _ _ _ _ => g_aload_n hx hb d_Mo_standby_101 rfl (lv_at hl 1 rfl)) ?_
      replace hden := gb hden
      obtain ⟨r6, hv, hden⟩ := hden
      refine r_getR X cl_Mo (k := 21) hv (by decide) q_786 d_Mo_standby_102 ?_
      refine gV.lift (fun _ _ _ _ => lv_iload hx hb d_Mo_standby_105 (lv_at hl 0 rfl)) ?_
      refine gV.lift (fun _ _ _ _ => lv_iconst (v := 4) hx hb d_Mo_standby_107 (by decide)) ?_
      refine gV.lift (fun _ _ _ _ => lv_iadd hx hb d_Mo_standby_108) ?_
      replace hden := gb hden
      obtain ⟨a7, rfl, hden⟩ := hden
      replace hden := gb hden
      obtain ⟨v8, hv, hden⟩ := hden
      refine r_iald X (t := 0) rfl hv d_Mo_standby_109 ?_
      refine gV.lift (fun _ _ _ _ => lv_iload_n hx hb d_Mo_standby_110 rfl (lv_at hl 2 rfl)) ?_
      refine gV.lift2 (fun _ _ _ _ => lv_icmp_ne (tgt := 154) hx hb d_Mo_standby_111 (by decide)) (fun hc9 => ?_) (fun hc9 => ?_)
      · replace hden := gin hc9 hden
        exact w_Mo_standby_154 Y hk72 x0 x1 x2 x3 x5 x6 x7 ((40 * x5) + (5 * x7)) S hden (lv_sub hl [1, 2, 3, 4, 5, 6, 7, 0] rfl)
      · replace hden := gip hc9 hden
        refine gV.lift (fun _ _ _ _ => g_aload_n hx hb d_Mo_standby_114 rfl (lv_at hl 1 rfl)) ?_
        replace hden := gb hden
        obtain ⟨r10, hv, hden⟩ := hden
        refine r_getR X cl_Mo (k := 21) hv (by decide) q_786 d_Mo_standby_115 ?_
        refine gV.lift (fun _ _ _ _ => lv_iload hx hb d_Mo_standby_118 (lv_at hl 0 rfl)) ?_
        replace hden := gb hden
        obtain ⟨a11, rfl, hden⟩ := hden
        replace hden := gb hden
        obtain ⟨v12, hv, hden⟩ := hden
        refine r_iald X (t := 0) rfl hv d_Mo_standby_120 ?_
        refine gV.lift (fun _ _ _ _ => g_aload_n hx hb d_Mo_standby_121 rfl (lv_at hl 1 rfl)) ?_
        replace hden := gb hden
        obtain ⟨r13, hv, hden⟩ := hden
        refine r_getR X cl_Mo (k := 21) hv (by decide) q_786 d_Mo_standby_122 ?_
        refine gV.lift (fun _ _ _ _ => lv_iload hx hb d_Mo_standby_125 (lv_at hl 0 rfl)) ?_
        refine gV.lift (fun _ _ _ _ => lv_iconst (v := 1) hx hb d_Mo_standby_127 (by decide)) ?_
        refine gV.lift (fun _ _ _ _ => lv_iadd hx hb d_Mo_standby_128) ?_
        replace hden := gb hden
        obtain ⟨a14, rfl, hden⟩ := hden
        replace hden := gb hden
        obtain ⟨v15, hv, hden⟩ := hden
        refine r_iald X (t := 0) rfl hv d_Mo_standby_129 ?_
        refine gV.lift (fun _ _ _ _ => lv_iload_n hx hb d_Mo_standby_130 rfl (lv_at hl 3 rfl)) ?_
        replace hden := gb2 hden
        obtain ⟨v17, S16, hz, hden⟩ := hden
        refine g_callS (As := [.int v12, .int v15, .int x2]) (rest := []) X hZ (c_Mo_isWithin hz) q_953 q_5 q_951 q_952 ⟨by decide, by decide, by show _ = some 3; decide +kernel⟩ ⟨by decide, by decide⟩ hl.1 (Nat.le_of_ble_eq_true rfl) d_Mo_standby_131 rfl rfl ?_
        refine gV.lift2 (fun _ _ _ _ => lv_if_eq (tgt := 154) hx hb d_Mo_standby_134 (by decide)) (fun hc18 => ?_) (fun hc18 => ?_)
        · replace hden := gip hc18 hden
          exact w_Mo_standby_154 Y hk72 x0 x1 x2 x3 x5 x6 x7 ((40 * x5) + (5 * x7)) S16 hden (lv_sub hl [1, 2, 3, 4, 5, 6, 7, 0] rfl)
        · replace hden := gin hc18 hden
          refine gV.lift (fun _ _ _ _ => g_aload_n hx hb d_Mo_standby_137 rfl (lv_at hl 1 rfl)) ?_
          replace hden := gb hden
          obtain ⟨r19, hv, hden⟩ := hden
          refine r_getR X cl_Mo (k := 21) hv (by decide) q_786 d_Mo_standby_138 ?_
          refine gV.lift (fun _ _ _ _ => lv_iload hx hb d_Mo_standby_141 (lv_at hl 0 rfl)) ?_
          refine gV.lift (fun _ _ _ _ => lv_iconst (v := 2) hx hb d_Mo_standby_143 (by decide)) ?_
          refine gV.lift (fun _ _ _ _ => lv_iadd hx hb d_Mo_standby_144) ?_
          replace hden := gb hden
          obtain ⟨a20, rfl, hden⟩ := hden
          replace hden := gb hden
          obtain ⟨v21, hv, hden⟩ := hden
          refine r_iald X (t := 0) rfl hv d_Mo_standby_145 ?_
          refine gV.lift (fun _ _ _ _ => lv_iload_n hx hb d_Mo_standby_146 rfl (lv_at hl 4 rfl)) ?_
          refine gV.lift2 (fun _ _ _ _ => lv_icmp_gt (tgt := 154) hx hb d_Mo_standby_147 (by decide)) (fun hc22 => ?_) (fun hc22 => ?_)
          · replace hden := gip hc22 hden
            exact w_Mo_standby_154 Y hk72 x0 x1 x2 x3 x5 x6 x7 ((40 * x5) + (5 * x7)) S16 hden (lv_sub hl [1, 2, 3, 4, 5, 6, 7, 0] rfl)
          · replace hden := gin hc22 hden
            refine gV.lift (fun _ _ _ _ => lv_iconst (v := 1) hx hb d_Mo_standby_150 (by decide)) ?_
            refine gV.lift (fun _ _ _ _ => lv_goto (tgt := 155) hx hb d_Mo_standby_151 (by decide)) ?_
            exact w_Mo_standby_155 Y hk72 x0 x1 x2 x3 x5 x6 x7 ((40 * x5) + (5 * x7)) 1 S16 hden (lv_sub hl [1, 2, 3, 4, 5, 6, 7, 0] rfl)
def L_Mo_standby_72  : Nat → Nat → Int32 → Int32 → Int32 → Int32 → Int32 → Int32 → gS → Option (Int32 × gS)
  | 0 => fun _ _ _ _ _ _ _ _ => none
  | n + 1 => fun x0 x1 x2 x3 x5 x6 x7 S => B_Mo_standby_72  (L_Mo_standby_72  n) x0 x1 x2 x3 x5 x6 x7 S
theorem wL_Mo_standby_72 {D : va_G} {cT : Nat → ClassId} {H0 : Heap} {l : Launch} {p : Program} {e : Env} {s : State} {m : MethodId} {args : Array Value} {below : List Frame} {meth : Method} {c : Code} {S0 : gS} {S' : gS} {r : Int32} (Y : gY D cT H0 p s m args meth c prog_12_method_31_code 10 "PlanTextModel" 2 42 S0 (Option.some Jvm.ClassFile.FieldType.int))  : ∀ (n : Nat) (x0 : Nat) (x1 : Int32) (x2 : Int32) (x3 : Int32) (x5 : Int32) (x6 : Int32) (x7 : Int32) (S : gS) (ls : Array Slot), L_Mo_standby_72  n x0 x1 x2 x3 x5 x6 x7 S = some (r, S') → lv_has ls 10 [(0, va_rf (some x0)), (1, .int x1), (2, .int x2), (3, .int x3), (5, .int x5), (6, .int x6), (7, .int x7)] → gV D cT H0 p l e (gRm 2 42 S0) s m args below meth c (gQ D cT H0 below S0 S' (.inr (some (.int r))) s) S0 S (F0 m 72 ls []) := by
  intro n
  induction n with
  | zero => intro x0 x1 x2 x3 x5 x6 x7 S ls h hl; cases h
  | succ n ih => intro x0 x1 x2 x3 x5 x6 x7 S ls h hl; exact w_Mo_standby_72 Y ih x0 x1 x2 x3 x5 x6 x7 S h hl
def B_Mo_standby_49  (x0 : Nat) (x1 : Int32) (x2 : Int32) (x3 : Int32) (x4 : Int32) (t0 : Int32) (t1 : Int32) (t2 : Nat) (S : gS) : Option (Int32 × gS) := Option.bind (gOb S t2 10) (fun fs3 => gB2 (D_Mo_throwing t2 t1 t0 0 S) (fun v2 S1 => (if v2 = 0 then Option.bind (gOb S1 x0 10) (fun fs7 => gB2 (D_Mo_editionOf x0 x4 S1) (fun v6 S5 => L_Mo_standby_72  gF x0 x1 x2 x3 v6 0 0 S5)) else some (0, S1))))
set_option maxRecDepth 100000 in
set_option maxHeartbeats 4000000 in
theorem w_Mo_standby_49 {D : va_G} {cT : Nat → ClassId} {H0 : Heap} {l : Launch} {p : Program} {e : Env} {s : State} {m : MethodId} {args : Array Value} {below : List Frame} {meth : Method} {c : Code} {S0 : gS} {S' : gS} {r : Int32} (Y : gY D cT H0 p s m args meth c prog_12_method_31_code 10 "PlanTextModel" 2 42 S0 (Option.some Jvm.ClassFile.FieldType.int))  (x0 : Nat) (x1 : Int32) (x2 : Int32) (x3 : Int32) (x4 : Int32) (t0 : Int32) (t1 : Int32) (t2 : Nat) (S : gS) (hden : B_Mo_standby_49  x0 x1 x2 x3 x4 t0 t1 t2 S = some (r, S')) {ls : Array Slot} (hl : lv_has ls 10 [(0, va_rf (some x0)), (1, .int x1), (2, .int x2), (3, .int x3), (4, .int x4)]) : gV D cT H0 p l e (gRm 2 42 S0) s m args below meth c (gQ D cT H0 below S0 S' (.inr (some (.int r))) s) S0 S (F0 m 49 ls [.int t0, .int t1, va_rf (some t2)]) := by
  obtain ⟨X, hZ, hex, hr, hE⟩ := id Y
  have hx := X.1
  have hb := X.2.1
  unfold B_Mo_standby_49 at hden
  refine gV.lift (fun _ _ _ _ => lv_iconst (v := 0) hx hb d_Mo_standby_49 (by decide)) ?_
  replace hden := gb hden
  obtain ⟨fs3, ho, hden⟩ := hden
  replace hden := gb2 hden
  obtain ⟨v2, S1, hz, hden⟩ := hden
  refine g_callV (As := [.int t1, .int t0, .int 0]) (rest := []) X hZ (c_Mo_throwing hz) cl_Mo (gOb_spec ho) q_859 q_5 q_856 q_858 qp_26 ⟨by decide, by decide, by show _ = some 3; decide +kernel⟩ ⟨by decide, by decide⟩ hl.1 (Nat.le_of_ble_eq_true rfl) d_Mo_standby_50 rfl rfl ?_
  refine gV.lift2 (fun _ _ _ _ => lv_if_eq (tgt := 58) hx hb d_Mo_standby_53 (by decide)) (fun hc4 => ?_) (fun hc4 => ?_)
  · replace hden := gip hc4 hden
    refine gV.lift (fun _ _ _ _ => g_aload_n hx hb d_Mo_standby_58 rfl (lv_at hl 0 rfl)) ?_
    refine gV.lift (fun _ _ _ _ => lv_iload hx hb d_Mo_standby_59 (lv_at hl 4 rfl)) ?_
    replace hden := gb hden
    obtain ⟨fs7, ho, hden⟩ := hden
    replace hden := gb2 hden
    obtain ⟨v6, S5, hz, hden⟩ := hden
    refine g_callV (As := [.int x4]) (rest := []) X hZ (c_Mo_editionOf hz) cl_Mo (gOb_spec ho) q_942 q_5 q_939 q_941 qp_42 ⟨by decide, by decide, by show _ = some 1; decide +kernel⟩ ⟨by decide, by decide⟩ hl.1 (Nat.le_of_ble_eq_true rfl) d_Mo_standby_61 rfl rfl ?_
    refine gV.liftS (nL := 10) (lv' := [(5, .int v6), (0, va_rf (some x0)), (1, .int x1), (2, .int x2), (3, .int x3), (4, .int x4)]) (fun _ _ _ _ => lv_istore hx hb d_Mo_standby_64 hl (by decide) rfl) (fun ls hl => ?_)
    refine gV.lift (fun _ _ _ _ => lv_iconst (v := 0) hx hb d_Mo_standby_66 (by decide)) ?_
    refine gV.liftS (nL := 10) (lv' := [(6, .int 0), (5, .int v6), (0, va_rf (some x0)), (1, .int x1), (2, .int x2), (3, .int x3), (4, .int x4)]) (fun _ _ _ _ => lv_istore hx hb d_Mo_standby_67 hl (by decide) rfl) (fun ls hl => ?_)
    refine gV.lift (fun _ _ _ _ => lv_iconst (v := 0) hx hb d_Mo_standby_69 (by decide)) ?_
    refine gV.liftS (nL := 10) (lv' := [(7, .int 0), (6, .int 0), (5, .int v6), (0, va_rf (some x0)), (1, .int x1), (2, .int x2), (3, .int x3), (4, .int x4)]) (fun _ _ _ _ => lv_istore hx hb d_Mo_standby_70 hl (by decide) rfl) (fun ls hl => ?_)
    exact wL_Mo_standby_72 Y  gF x0 x1 x2 x3 v6 0 0 S5 _ hden (lv_sub hl [3, 4, 5, 6, 2, 1, 0] rfl)
  · replace hden := gin hc4 hden
    refine gV.lift (fun _ _ _ _ => lv_iconst (v := 0) hx hb d_Mo_standby_56 (by decide)) ?_
    obtain ⟨rfl, rfl⟩ := gpi hden
    exact g_iret X hr d_Mo_standby_57
def B_Mo_standby_44  (x0 : Nat) (x1 : Int32) (x2 : Int32) (x3 : Int32) (x4 : Int32) (t0 : Int32) (t1 : Nat) (S : gS) : Option (Int32 × gS) := B_Mo_standby_49  x0 x1 x2 x3 x4 1 t0 t1 S
set_option maxRecDepth 100000 in
set_option maxHeartbeats 4000000 in
theorem w_Mo_standby_44 {D : va_G} {cT : Nat → ClassId} {H0 : Heap} {l : Launch} {p : Program} {e : Env} {s : State} {m : MethodId} {args : Array Value} {below : List Frame} {meth : Method} {c : Code} {S0 : gS} {S' : gS} {r : Int32} (Y : gY D cT H0 p s m args meth c prog_12_method_31_code 10 "PlanTextModel" 2 42 S0 (Option.some Jvm.ClassFile.FieldType.int))  (x0 : Nat) (x1 : Int32) (x2 : Int32) (x3 : Int32) (x4 : Int32) (t0 : Int32) (t1 : Nat) (S : gS) (hden : B_Mo_standby_44  x0 x1 x2 x3 x4 t0 t1 S = some (r, S')) {ls : Array Slot} (hl : lv_has ls 10 [(0, va_rf (some x0)), (1, .int x1), (2, .int x2), (3, .int x3), (4, .int x4)]) : gV D cT H0 p l e (gRm 2 42 S0) s m args below meth c (gQ D cT H0 below S0 S' (.inr (some (.int r))) s) S0 S (F0 m 44 ls [.int t0, va_rf (some t1)]) := by
  obtain ⟨X, hZ, hex, hr, hE⟩ := id Y
  have hx := X.1
  have hb := X.2.1
  unfold B_Mo_standby_44 at hden
  refine gV.lift (fun _ _ _ _ => lv_iconst (v := 1) hx hb d_Mo_standby_44 (by decide)) ?_
  refine gV.lift (fun _ _ _ _ => lv_goto (tgt := 49) hx hb d_Mo_standby_45 (by decide)) ?_
  exact w_Mo_standby_49 Y  x0 x1 x2 x3 x4 1 t0 t1 S hden (lv_sub hl [0, 1, 2, 3, 4] rfl)
def B_Mo_standby_16  (x0 : Nat) (x1 : Int32) (x2 : Int32) (x3 : Int32) (x4 : Int32) (t0 : Int32) (t1 : Nat) (S : gS) : Option (Int32 × gS) := gB2 (D_Mo_in x2 0 23 S) (fun v2 S1 => (if v2 = 0 then B_Mo_standby_44  x0 x1 x2 x3 x4 t0 t1 S1 else gB2 (D_Mo_in x3 0 99 S1) (fun v5 S4 => (if v5 = 0 then B_Mo_standby_44  x0 x1 x2 x3 x4 t0 t1 S4 else gB2 (D_Mo_isDay x4 S4) (fun v8 S7 => (if v8 = 0 then B_Mo_standby_44  x0 x1 x2 x3 x4 t0 t1 S7 else B_Mo_standby_49  x0 x1 x2 x3 x4 0 t0 t1 S7))))))
set_option maxRecDepth 100000 in
set_option maxHeartbeats 4000000 in
theorem w_Mo_standby_16 {D : va_G} {cT : Nat → ClassId} {H0 : Heap} {l : Launch} {p : Program} {e : Env} {s : State} {m : MethodId} {args : Array Value} {below : List Frame} {meth : Method} {c : Code} {S0 : gS} {S' : gS} {r : Int32} (Y : gY D cT H0 p s m args meth c prog_12_method_31_code 10 "PlanTextModel" 2 42 S0 (Option.some Jvm.ClassFile.FieldType.int))  (x0 : Nat) (x1 : Int32) (x2 : Int32) (x3 : Int32) (x4 : Int32) (t0 : Int32) (t1 : Nat) (S : gS) (hden : B_Mo_standby_16  x0 x1 x2 x3 x4 t0 t1 S = some (r, S')) {ls : Array Slot} (hl : lv_has ls 10 [(0, va_rf (some x0)), (1, .int x1), (2, .int x2), (3, .int x3), (4, .int x4)]) : gV D cT H0 p l e (gRm 2 42 S0) s m args below meth c (gQ D cT H0 below S0 S' (.inr (some (.int r))) s) S0 S (F0 m 16 ls [.int t0, va_rf (some t1)]) := by
  obtain ⟨X, hZ, hex, hr, hE⟩ := id Y
  have hx := X.1
  have hb := X.2.1
  unfold B_Mo_standby_16 at hden
  refine gV.lift (fun _ _ _ _ => lv_iload_n hx hb d_Mo_standby_16 rfl (lv_at hl 2 rfl)) ?_
  refine gV.lift (fun _ _ _ _ => lv_iconst (v := 0) hx hb d_Mo_standby_17 (by decide)) ?_
  refine gV.lift (fun _ _ _ _ => lv_bipush (v := 23) hx hb d_Mo_standby_18 (by decide)) ?_
  replace hden := gb2 hden
  obtain ⟨v2, S1, hz, hden⟩ := hden
  refine g_callS (As := [.int x2, .int 0, .int 23]) (rest := [.int t0, va_rf (some t1)]) X hZ (c_Mo_in hz) q_855 q_5 q_853 q_854 ⟨by decide, by decide, by show _ = some 3; decide +kernel⟩ ⟨by decide, by decide⟩ hl.1 (Nat.le_of_ble_eq_true rfl) d_Mo_standby_20 rfl rfl ?_
  refine gV.lift2 (fun _ _ _ _ => lv_if_eq (tgt := 44) hx hb d_Mo_standby_23 (by decide)) (fun hc3 => ?_) (fun hc3 => ?_)
  · replace hden := gip hc3 hden
    exact w_Mo_standby_44 Y  x0 x1 x2 x3 x4 t0 t1 S1 hden (lv_sub hl [0, 1, 2, 3, 4] rfl)
  · replace hden := gin hc3 hden
    refine gV.lift (fun _ _ _ _ => lv_iload_n hx hb d_Mo_standby_26 rfl (lv_at hl 3 rfl)) ?_
    refine gV.lift (fun _ _ _ _ => lv_iconst (v := 0) hx hb d_Mo_standby_27 (by decide)) ?_
    refine gV.lift (fun _ _ _ _ => lv_bipush (v := 99) hx hb d_Mo_standby_28 (by decide)) ?_
    replace hden := gb2 hden
    obtain ⟨v5, S4, hz, hden⟩ := hden
    refine g_callS (As := [.int x3, .int 0, .int 99]) (rest := [.int t0, va_rf (some t1)]) X hZ (c_Mo_in hz) q_855 q_5 q_853 q_854 ⟨by decide, by decide, by show _ = some 3; decide +kernel⟩ ⟨by decide, by decide⟩ hl.1 (Nat.le_of_ble_eq_true rfl) d_Mo_standby_30 rfl rfl ?_
    refine gV.lift2 (fun _ _ _ _ => lv_if_eq (tgt := 44) hx hb d_Mo_standby_33 (by decide)) (fun hc6 => ?_) (fun hc6 => ?_)
    · replace hden := gip hc6 hden
      exact w_Mo_standby_44 Y  x0 x1 x2 x3 x4 t0 t1 S4 hden (lv_sub hl [0, 1, 2, 3, 4] rfl)
    · replace hden := gin hc6 hden
      refine gV.lift (fun _ _ _ _ => lv_iload hx hb d_Mo_standby_36 (lv_at hl 4 rfl)) ?_
      replace hden := gb2 hden
      obtain ⟨v8, S7, hz, hden⟩ := hden
      refine g_callS (As := [.int x4]) (rest := [.int t0, va_rf (some t1)]) X hZ (c_Mo_isDay hz) q_938 q_5 q_936 q_937 ⟨by decide, by decide, by show _ = some 1; decide +kernel⟩ ⟨by decide, by decide⟩ hl.1 (Nat.le_of_ble_eq_true rfl) d_Mo_standby_38 rfl rfl ?_
      refine gV.lift2 (fun _ _ _ _ => lv_if_ne (tgt := 48) hx hb d_Mo_standby_41 (by decide)) (fun hc9 => ?_) (fun hc9 => ?_)
      · replace hden := gin hc9 hden
        refine gV.lift (fun _ _ _ _ => lv_iconst (v := 0) hx hb d_Mo_standby_48 (by decide)) ?_
        exact w_Mo_standby_49 Y  x0 x1 x2 x3 x4 0 t0 t1 S7 hden (lv_sub hl [0, 1, 2, 3, 4] rfl)
      · replace hden := gip hc9 hden
        exact w_Mo_standby_44 Y  x0 x1 x2 x3 x4 t0 t1 S7 hden (lv_sub hl [0, 1, 2, 3, 4] rfl)
def D_Mo_standby (h0 : Nat) (p0 : Int32) (p1 : Int32) (p2 : Int32) (p3 : Int32) (S : gS) : Option (Int32 × gS) := gB2 (D_Mo_in p0 0 7 S) (fun v2 S1 => (if v2 = 0 then B_Mo_standby_16  h0 p0 p1 p2 p3 1 h0 S1 else B_Mo_standby_16  h0 p0 p1 p2 p3 0 h0 S1))
set_option maxRecDepth 100000 in
set_option maxHeartbeats 4000000 in
theorem c_Mo_standby {D : va_G} {cT : Nat → ClassId} {H0 : Heap} {l : Launch} {S : gS} {S' : gS} {h0 : Nat} {p0 : Int32} {p1 : Int32} {p2 : Int32} {p3 : Int32} {r : Int32} (hden : D_Mo_standby h0 p0 p1 p2 p3 S = some (r, S')) : gM D cT H0 l y_Mo_standby (Cond.code y_Mo_standby prog_12_method_31_code 10 (Option.some Jvm.ClassFile.FieldType.int)) 2 42 [va_rf (some h0), .int p0, .int p1, .int p2, .int p3] S S' (.inr (some (.int r))) := by
  refine gM.ofV (by decide) ?_
  intro p e s m args below meth c s₁ B hml ea X hZ hex hr hE
  subst ea
  have Y : gY D cT H0 p s m _ meth c prog_12_method_31_code 10 "PlanTextModel" 2 42 S (Option.some Jvm.ClassFile.FieldType.int) := ⟨X, hZ, hex, hr, hE⟩
  have hx := X.1
  have hb := X.2.1
  have hl := lv_entry ([va_rf (some h0), .int p0, .int p1, .int p2, .int p3]) (n := 10) (Nat.le_of_ble_eq_true rfl)
  rw [lg_entry_eq]
  generalize (lg_sl ([va_rf (some h0), .int p0, .int p1, .int p2, .int p3]) ++ List.replicate (10 - (lg_sl ([va_rf (some h0), .int p0, .int p1, .int p2, .int p3])).length) Slot.unset).toArray = ls at hl ⊢
  have hl : lv_has ls 10 [(0, va_rf (some h0)), (1, .int p0), (2, .int p1), (3, .int p2), (4, .int p3)] := hl
  unfold D_Mo_standby at hden
  refine gV.lift (fun _ _ _ _ => g_aload_n hx hb d_Mo_standby_0 rfl (lv_at hl 0 rfl)) ?_
  refine gV.lift (fun _ _ _ _ => lv_iload_n hx hb d_Mo_standby_1 rfl (lv_at hl 1 rfl)) ?_
  refine gV.lift (fun _ _ _ _ => lv_iconst (v := 0) hx hb d_Mo_standby_2 (by decide)) ?_
  refine gV.lift (fun _ _ _ _ => lv_bipush (v := 7) hx hb d_Mo_standby_3 (by decide)) ?_
  replace hden := gb2 hden
  obtain ⟨v2, S1, hz, hden⟩ := hden
  refine g_callS (As := [.int p0, .int 0, .int 7]) (rest := [va_rf (some h0)]) X hZ (c_Mo_in hz) q_855 q_5 q_853 q_854 ⟨by decide, by decide, by show _ = some 3; decide +kernel⟩ ⟨by decide, by decide⟩ hl.1 (Nat.le_of_ble_eq_true rfl) d_Mo_standby_5 rfl rfl ?_
  refine gV.lift2 (fun _ _ _ _ => lv_if_ne (tgt := 15) hx hb d_Mo_standby_8 (by decide)) (fun hc3 => ?_) (fun hc3 => ?_)
  · replace hden := gin hc3 hden
    refine gV.lift (fun _ _ _ _ => lv_iconst (v := 0) hx hb d_Mo_standby_15 (by decide)) ?_
    exact w_Mo_standby_16 Y  h0 p0 p1 p2 p3 0 h0 S1 hden (lv_sub hl [0, 1, 2, 3, 4] rfl)
  · replace hden := gip hc3 hden
    refine gV.lift (fun _ _ _ _ => lv_iconst (v := 1) hx hb d_Mo_standby_11 (by decide)) ?_
    refine gV.lift (fun _ _ _ _ => lv_goto (tgt := 16) hx hb d_Mo_standby_12 (by decide)) ?_
    exact w_Mo_standby_16 Y  h0 p0 p1 p2 p3 1 h0 S1 hden (lv_sub hl [0, 1, 2, 3, 4] rfl)
/-! PlanTextModel.clashes(II)Z -/
abbrev y_Mo_clashes : MethodName := ⟨"PlanTextModel", "clashes", "(II)Z"⟩
theorem d_Mo_clashes_0 : decode prog_12_method_32_code 0 = .ok (.aload_n 0, 1) := by decide +kernel
theorem d_Mo_clashes_1 : decode prog_12_method_32_code 1 = .ok (.getfield 20, 3) := by decide +kernel
theorem d_Mo_clashes_4 : decode prog_12_method_32_code 4 = .ok (.iload_n 1, 1) := by decide +kernel
theorem d_Mo_clashes_5 : decode prog_12_method_32_code 5 = .ok (.baload, 1) := by decide +kernel
theorem d_Mo_clashes_6 : decode prog_12_method_32_code 6 = .ok (.ifCond .eq 42, 3) := by decide +kernel
theorem d_Mo_clashes_9 : decode prog_12_method_32_code 9 = .ok (.aload_n 0, 1) := by decide +kernel
theorem d_Mo_clashes_10 : decode prog_12_method_32_code 10 = .ok (.getfield 20, 3) := by decide +kernel
theorem d_Mo_clashes_13 : decode prog_12_method_32_code 13 = .ok (.iload_n 2, 1) := by decide +kernel
theorem d_Mo_clashes_14 : decode prog_12_method_32_code 14 = .ok (.baload, 1) := by decide +kernel
theorem d_Mo_clashes_15 : decode prog_12_method_32_code 15 = .ok (.ifCond .eq 33, 3) := by decide +kernel
theorem d_Mo_clashes_18 : decode prog_12_method_32_code 18 = .ok (.aload_n 0, 1) := by decide +kernel
theorem d_Mo_clashes_19 : decode prog_12_method_32_code 19 = .ok (.getfield 24, 3) := by decide +kernel
theorem d_Mo_clashes_22 : decode prog_12_method_32_code 22 = .ok (.iload_n 1, 1) := by decide +kernel
theorem d_Mo_clashes_23 : decode prog_12_method_32_code 23 = .ok (.iaload, 1) := by decide +kernel
theorem d_Mo_clashes_24 : decode prog_12_method_32_code 24 = .ok (.aload_n 0, 1) := by decide +kernel
theorem d_Mo_clashes_25 : decode prog_12_method_32_code 25 = .ok (.getfield 24, 3) := by decide +kernel
theorem d_Mo_clashes_28 : decode prog_12_method_32_code 28 = .ok (.iload_n 2, 1) := by decide +kernel
theorem d_Mo_clashes_29 : decode prog_12_method_32_code 29 = .ok (.iaload, 1) := by decide +kernel
theorem d_Mo_clashes_30 : decode prog_12_method_32_code 30 = .ok (.if_icmp .ne 18, 3) := by decide +kernel
theorem d_Mo_clashes_33 : decode prog_12_method_32_code 33 = .ok (.aload_n 0, 1) := by decide +kernel
theorem d_Mo_clashes_34 : decode prog_12_method_32_code 34 = .ok (.getfield 42, 3) := by decide +kernel
theorem d_Mo_clashes_37 : decode prog_12_method_32_code 37 = .ok (.iload_n 1, 1) := by decide +kernel
theorem d_Mo_clashes_38 : decode prog_12_method_32_code 38 = .ok (.iaload, 1) := by decide +kernel
theorem d_Mo_clashes_39 : decode prog_12_method_32_code 39 = .ok (.aload_n 0, 1) := by decide +kernel
theorem d_Mo_clashes_40 : decode prog_12_method_32_code 40 = .ok (.getfield 42, 3) := by decide +kernel
theorem d_Mo_clashes_43 : decode prog_12_method_32_code 43 = .ok (.iload_n 2, 1) := by decide +kernel
theorem d_Mo_clashes_44 : decode prog_12_method_32_code 44 = .ok (.iaload, 1) := by decide +kernel
theorem d_Mo_clashes_45 : decode prog_12_method_32_code 45 = .ok (.if_icmp .eq 5, 3) := by decide +kernel
theorem d_Mo_clashes_48 : decode prog_12_method_32_code 48 = .ok (.iconst 0, 1) := by decide +kernel
theorem d_Mo_clashes_49 : decode prog_12_method_32_code 49 = .ok (.ireturn, 1) := by decide +kernel
theorem d_Mo_clashes_50 : decode prog_12_method_32_code 50 = .ok (.aload_n 0, 1) := by decide +kernel
theorem d_Mo_clashes_51 : decode prog_12_method_32_code 51 = .ok (.getfield 27, 3) := by decide +kernel
theorem d_Mo_clashes_54 : decode prog_12_method_32_code 54 = .ok (.iload_n 1, 1) := by decide +kernel
theorem d_Mo_clashes_55 : decode prog_12_method_32_code 55 = .ok (.iaload, 1) := by decide +kernel
theorem d_Mo_clashes_56 : decode prog_12_method_32_code 56 = .ok (.ifCond .le 59, 3) := by decide +kernel
theorem d_Mo_clashes_59 : decode prog_12_method_32_code 59 = .ok (.aload_n 0, 1) := by decide +kernel
theorem d_Mo_clashes_60 : decode prog_12_method_32_code 60 = .ok (.getfield 27, 3) := by decide +kernel
theorem d_Mo_clashes_63 : decode prog_12_method_32_code 63 = .ok (.iload_n 2, 1) := by decide +kernel
theorem d_Mo_clashes_64 : decode prog_12_method_32_code 64 = .ok (.iaload, 1) := by decide +kernel
theorem d_Mo_clashes_65 : decode prog_12_method_32_code 65 = .ok (.ifCond .le 50, 3) := by decide +kernel
theorem d_Mo_clashes_68 : decode prog_12_method_32_code 68 = .ok (.aload_n 0, 1) := by decide +kernel
theorem d_Mo_clashes_69 : decode prog_12_method_32_code 69 = .ok (.getfield 27, 3) := by decide +kernel
theorem d_Mo_clashes_72 : decode prog_12_method_32_code 72 = .ok (.iload_n 1, 1) := by decide +kernel
theorem d_Mo_clashes_73 : decode prog_12_method_32_code 73 = .ok (.iaload, 1) := by decide +kernel
theorem d_Mo_clashes_74 : decode prog_12_method_32_code 74 = .ok (.aload_n 0, 1) := by decide +kernel
theorem d_Mo_clashes_75 : decode prog_12_method_32_code 75 = .ok (.getfield 27, 3) := by decide +kernel
theorem d_Mo_clashes_78 : decode prog_12_method_32_code 78 = .ok (.iload_n 2, 1) := by decide +kernel
theorem d_Mo_clashes_79 : decode prog_12_method_32_code 79 = .ok (.iaload, 1) := by decide +kernel
theorem d_Mo_clashes_80 : decode prog_12_method_32_code 80 = .ok (.if_icmp .ne 33, 3) := by decide +kernel
theorem d_Mo_clashes_83 : decode prog_12_method_32_code 83 = .ok (.aload_n 0, 1) := by decide +kernel
theorem d_Mo_clashes_84 : decode prog_12_method_32_code 84 = .ok (.getfield 30, 3) := by decide +kernel
theorem d_Mo_clashes_87 : decode prog_12_method_32_code 87 = .ok (.iload_n 1, 1) := by decide +kernel
theorem d_Mo_clashes_88 : decode prog_12_method_32_code 88 = .ok (.iaload, 1) := by decide +kernel
theorem d_Mo_clashes_89 : decode prog_12_method_32_code 89 = .ok (.aload_n 0, 1) := by decide +kernel
theorem d_Mo_clashes_90 : decode prog_12_method_32_code 90 = .ok (.getfield 33, 3) := by decide +kernel
theorem d_Mo_clashes_93 : decode prog_12_method_32_code 93 = .ok (.iload_n 2, 1) := by decide +kernel
theorem d_Mo_clashes_94 : decode prog_12_method_32_code 94 = .ok (.iaload, 1) := by decide +kernel
theorem d_Mo_clashes_95 : decode prog_12_method_32_code 95 = .ok (.if_icmp .gt 18, 3) := by decide +kernel
theorem d_Mo_clashes_98 : decode prog_12_method_32_code 98 = .ok (.aload_n 0, 1) := by decide +kernel
theorem d_Mo_clashes_99 : decode prog_12_method_32_code 99 = .ok (.getfield 30, 3) := by decide +kernel
theorem d_Mo_clashes_102 : decode prog_12_method_32_code 102 = .ok (.iload_n 2, 1) := by decide +kernel
theorem d_Mo_clashes_103 : decode prog_12_method_32_code 103 = .ok (.iaload, 1) := by decide +kernel
theorem d_Mo_clashes_104 : decode prog_12_method_32_code 104 = .ok (.aload_n 0, 1) := by decide +kernel
theorem d_Mo_clashes_105 : decode prog_12_method_32_code 105 = .ok (.getfield 33, 3) := by decide +kernel
theorem d_Mo_clashes_108 : decode prog_12_method_32_code 108 = .ok (.iload_n 1, 1) := by decide +kernel
theorem d_Mo_clashes_109 : decode prog_12_method_32_code 109 = .ok (.iaload, 1) := by decide +kernel
theorem d_Mo_clashes_110 : decode prog_12_method_32_code 110 = .ok (.if_icmp .le 5, 3) := by decide +kernel
theorem d_Mo_clashes_113 : decode prog_12_method_32_code 113 = .ok (.iconst 0, 1) := by decide +kernel
theorem d_Mo_clashes_114 : decode prog_12_method_32_code 114 = .ok (.ireturn, 1) := by decide +kernel
theorem d_Mo_clashes_115 : decode prog_12_method_32_code 115 = .ok (.iconst 0, 1) := by decide +kernel
theorem d_Mo_clashes_116 : decode prog_12_method_32_code 116 = .ok (.istore_n 3, 1) := by decide +kernel
theorem d_Mo_clashes_117 : decode prog_12_method_32_code 117 = .ok (.iconst 0, 1) := by decide +kernel
theorem d_Mo_clashes_118 : decode prog_12_method_32_code 118 = .ok (.istore 4, 2) := by decide +kernel
theorem d_Mo_clashes_120 : decode prog_12_method_32_code 120 = .ok (.iload 4, 2) := by decide +kernel
theorem d_Mo_clashes_122 : decode prog_12_method_32_code 122 = .ok (.bipush 24, 2) := by decide +kernel
theorem d_Mo_clashes_124 : decode prog_12_method_32_code 124 = .ok (.if_icmp .ge 77, 3) := by decide +kernel
theorem d_Mo_clashes_127 : decode prog_12_method_32_code 127 = .ok (.iload_n 3, 1) := by decide +kernel
theorem d_Mo_clashes_128 : decode prog_12_method_32_code 128 = .ok (.ifCond .ne 61, 3) := by decide +kernel
theorem d_Mo_clashes_131 : decode prog_12_method_32_code 131 = .ok (.aload_n 0, 1) := by decide +kernel
theorem d_Mo_clashes_132 : decode prog_12_method_32_code 132 = .ok (.getfield 36, 3) := by decide +kernel
theorem d_Mo_clashes_135 : decode prog_12_method_32_code 135 = .ok (.iload_n 1, 1) := by decide +kernel
theorem d_Mo_clashes_136 : decode prog_12_method_32_code 136 = .ok (.iaload, 1) := by decide +kernel
theorem d_Mo_clashes_137 : decode prog_12_method_32_code 137 = .ok (.ifCond .lt 23, 3) := by decide +kernel
theorem d_Mo_clashes_140 : decode prog_12_method_32_code 140 = .ok (.aload_n 0, 1) := by decide +kernel
theorem d_Mo_clashes_141 : decode prog_12_method_32_code 141 = .ok (.getfield 36, 3) := by decide +kernel
theorem d_Mo_clashes_144 : decode prog_12_method_32_code 144 = .ok (.iload_n 1, 1) := by decide +kernel
theorem d_Mo_clashes_145 : decode prog_12_method_32_code 145 = .ok (.iaload, 1) := by decide +kernel
theorem d_Mo_clashes_146 : decode prog_12_method_32_code 146 = .ok (.aload_n 0, 1) := by decide +kernel
theorem d_Mo_clashes_147 : decode prog_12_method_32_code 147 = .ok (.getfield 39, 3) := by decide +kernel
theorem d_Mo_clashes_150 : decode prog_12_method_32_code 150 = .ok (.iload_n 1, 1) := by decide +kernel
theorem d_Mo_clashes_151 : decode prog_12_method_32_code 151 = .ok (.iaload, 1) := by decide +kernel
theorem d_Mo_clashes_152 : decode prog_12_method_32_code 152 = .ok (.iload 4, 2) := by decide +kernel
theorem d_Mo_clashes_154 : decode prog_12_method_32_code 154 = .ok (.invokestatic 146, 3) := by decide +kernel
theorem d_Mo_clashes_157 : decode prog_12_method_32_code 157 = .ok (.ifCond .eq 36, 3) := by decide +kernel
theorem d_Mo_clashes_160 : decode prog_12_method_32_code 160 = .ok (.aload_n 0, 1) := by decide +kernel
theorem d_Mo_clashes_161 : decode prog_12_method_32_code 161 = .ok (.getfield 36, 3) := by decide +kernel
theorem d_Mo_clashes_164 : decode prog_12_method_32_code 164 = .ok (.iload_n 2, 1) := by decide +kernel
theorem d_Mo_clashes_165 : decode prog_12_method_32_code 165 = .ok (.iaload, 1) := by decide +kernel
theorem d_Mo_clashes_166 : decode prog_12_method_32_code 166 = .ok (.ifCond .lt 23, 3) := by decide +kernel
theorem d_Mo_clashes_169 : decode prog_12_method_32_code 169 = .ok (.aload_n 0, 1) := by decide +kernel
theorem d_Mo_clashes_170 : decode prog_12_method_32_code 170 = .ok (.getfield 36, 3) := by decide +kernel
theorem d_Mo_clashes_173 : decode prog_12_method_32_code 173 = .ok (.iload_n 2, 1) := by decide +kernel
theorem d_Mo_clashes_174 : decode prog_12_method_32_code 174 = .ok (.iaload, 1) := by decide +kernel
theorem d_Mo_clashes_175 : decode prog_12_method_32_code 175 = .ok (.aload_n 0, 1) := by decide +kernel
theorem d_Mo_clashes_176 : decode prog_12_method_32_code 176 = .ok (.getfield 39, 3) := by decide +kernel
theorem d_Mo_clashes_179 : decode prog_12_method_32_code 179 = .ok (.iload_n 2, 1) := by decide +kernel
theorem d_Mo_clashes_180 : decode prog_12_method_32_code 180 = .ok (.iaload, 1) := by decide +kernel
theorem d_Mo_clashes_181 : decode prog_12_method_32_code 181 = .ok (.iload 4, 2) := by decide +kernel
theorem d_Mo_clashes_183 : decode prog_12_method_32_code 183 = .ok (.invokestatic 146, 3) := by decide +kernel
theorem d_Mo_clashes_186 : decode prog_12_method_32_code 186 = .ok (.ifCond .eq 7, 3) := by decide +kernel
theorem d_Mo_clashes_189 : decode prog_12_method_32_code 189 = .ok (.iconst 1, 1) := by decide +kernel
theorem d_Mo_clashes_190 : decode prog_12_method_32_code 190 = .ok (.goto 4, 3) := by decide +kernel
theorem d_Mo_clashes_193 : decode prog_12_method_32_code 193 = .ok (.iconst 0, 1) := by decide +kernel
theorem d_Mo_clashes_194 : decode prog_12_method_32_code 194 = .ok (.istore_n 3, 1) := by decide +kernel
theorem d_Mo_clashes_195 : decode prog_12_method_32_code 195 = .ok (.iinc 4 1, 3) := by decide +kernel
theorem d_Mo_clashes_198 : decode prog_12_method_32_code 198 = .ok (.goto (-78), 3) := by decide +kernel
theorem d_Mo_clashes_201 : decode prog_12_method_32_code 201 = .ok (.iload_n 3, 1) := by decide +kernel
theorem d_Mo_clashes_202 : decode prog_12_method_32_code 202 = .ok (.ireturn, 1) := by decide +kernel
def B_Mo_clashes_194 (k120 : Nat → Int32 → Int32 → Int32 → Int32 → gS → Option (Int32 × gS)) (x0 : Nat) (x1 : Int32) (x2 : Int32) (x4 : Int32) (t0 : Int32) (S : gS) : Option (Int32 × gS) := k120 x0 x1 x2 t0 (x4 + 1) S
set_option maxRecDepth 100000 in
set_option maxHeartbeats 4000000 in
theorem w_Mo_clashes_194 {D : va_G} {cT : Nat → ClassId} {H0 : Heap} {l : Launch} {p : Program} {e : Env} {s : State} {m : MethodId} {args : Array Value} {below : List Frame} {meth : Method} {c : Code} {S0 : gS} {S' : gS} {r : Int32} (Y : gY D cT H0 p s m args meth c prog_12_method_32_code 5 "PlanTextModel" 1 22 S0 (Option.some Jvm.ClassFile.FieldType.boolean)) {k120 : Nat → Int32 → Int32 → Int32 → Int32 → gS → Option (Int32 × gS)} (hk120 : ∀ (x0 : Nat) (x1 : Int32) (x2 : Int32) (x3 : Int32) (x4 : Int32) (S : gS) (ls : Array Slot), k120 x0 x1 x2 x3 x4 S = some (r, S') → lv_has ls 5 [(0, va_rf (some x0)), (1, .int x1), (2, .int x2), (3, .int x3), (4, .int x4)] → gV D cT H0 p l e (gRm 1 22 S0) s m args below meth c (gQ D cT H0 below S0 S' (.inr (some (.int r))) s) S0 S (F0 m 120 ls [])) (x0 : Nat) (x1 : Int32) (x2 : Int32) (x4 : Int32) (t0 : Int32) (S : gS) (hden : B_Mo_clashes_194 k120 x0 x1 x2 x4 t0 S = some (r, S')) {ls : Array Slot} (hl : lv_has ls 5 [(0, va_rf (some x0)), (1, .int x1), (2, .int x2), (4, .int x4)]) : gV D cT H0 p l e (gRm 1 22 S0) s m args below meth c (gQ D cT H0 below S0 S' (.inr (some (.int r))) s) S0 S (F0 m 194 ls [.int t0]) := by
  obtain ⟨X, hZ, hex, hr, hE⟩ := id Y
  have hx := X.1
  have hb := X.2.1
  unfold B_Mo_clashes_194 at hden
  refine gV.liftS (nL := 5) (lv' := [(3, .int t0), (0, va_rf (some x0)), (1, .int x1), (2, .int x2), (4, .int x4)]) (fun _ _ _ _ => lv_istore_n hx hb d_Mo_clashes_194 rfl hl (by decide) rfl) (fun ls hl => ?_)
  refine gV.liftS (nL := 5) (lv' := [(4, .int (x4 + 1)), (3, .int t0), (0, va_rf (some x0)), (1, .int x1), (2, .int x2)]) (fun _ _ _ _ => lv_iinc (v := (x4 + 1)) hx hb d_Mo_clashes_195 hl (k := 4) rfl rfl (by decide) rfl) (fun ls hl => ?_)
  refine gV.lift (fun _ _ _ _ => lv_goto (tgt := 120) hx hb d_Mo_clashes_198 (by decide)) ?_
  exact hk120 x0 x1 x2 t0 (x4 + 1) S _ hden (lv_sub hl [2, 3, 4, 1, 0] rfl)
def B_Mo_clashes_193 (k120 : Nat → Int32 → Int32 → Int32 → Int32 → gS → Option (Int32 × gS)) (x0 : Nat) (x1 : Int32) (x2 : Int32) (x4 : Int32) (S : gS) : Option (Int32 × gS) := B_Mo_clashes_194 k120 x0 x1 x2 x4 0 S
set_option maxRecDepth 100000 in
set_option maxHeartbeats 4000000 in
theorem w_Mo_clashes_193 {D : va_G} {cT : Nat → ClassId} {H0 : Heap} {l : Launch} {p : Program} {e : Env} {s : State} {m : MethodId} {args : Array Value} {below : List Frame} {meth : Method} {c : Code} {S0 : gS} {S' : gS} {r : Int32} (Y : gY D cT H0 p s m args meth c prog_12_method_32_code 5 "PlanTextModel" 1 22 S0 (Option.some Jvm.ClassFile.FieldType.boolean)) {k120 : Nat → Int32 → Int32 → Int32 → Int32 → gS → Option (Int32 × gS)} (hk120 : ∀ (x0 : Nat) (x1 : Int32) (x2 : Int32) (x3 : Int32) (x4 : Int32) (S : gS) (ls : Array Slot), k120 x0 x1 x2 x3 x4 S = some (r, S') → lv_has ls 5 [(0, va_rf (some x0)), (1, .int x1), (2, .int x2), (3, .int x3), (4, .int x4)] → gV D cT H0 p l e (gRm 1 22 S0) s m args below meth c (gQ D cT H0 below S0 S' (.inr (some (.int r))) s) S0 S (F0 m 120 ls [])) (x0 : Nat) (x1 : Int32) (x2 : Int32) (x4 : Int32) (S : gS) (hden : B_Mo_clashes_193 k120 x0 x1 x2 x4 S = some (r, S')) {ls : Array Slot} (hl : lv_has ls 5 [(0, va_rf (some x0)), (1, .int x1), (2, .int x2), (4, .int x4)]) : gV D cT H0 p l e (gRm 1 22 S0) s m args below meth c (gQ D cT H0 below S0 S' (.inr (some (.int r))) s) S0 S (F0 m 193 ls []) := by
  obtain ⟨X, hZ, hex, hr, hE⟩ := id Y
  have hx := X.1
  have hb := X.2.1
  unfold B_Mo_clashes_193 at hden
  refine gV.lift (fun _ _ _ _ => lv_iconst (v := 0) hx hb d_Mo_clashes_193 (by decide)) ?_
  exact w_Mo_clashes_194 Y hk120 x0 x1 x2 x4 0 S hden (lv_sub hl [0, 1, 2, 3] rfl)
def B_Mo_clashes_189 (k120 : Nat → Int32 → Int32 → Int32 → Int32 → gS → Option (Int32 × gS)) (x0 : Nat) (x1 : Int32) (x2 : Int32) (x4 : Int32) (S : gS) : Option (Int32 × gS) := B_Mo_clashes_194 k120 x0 x1 x2 x4 1 S
set_option maxRecDepth 100000 in
set_option maxHeartbeats 4000000 in
theorem w_Mo_clashes_189 {D : va_G} {cT : Nat → ClassId} {H0 : Heap} {l : Launch} {p : Program} {e : Env} {s : State} {m : MethodId} {args : Array Value} {below : List Frame} {meth : Method} {c : Code} {S0 : gS} {S' : gS} {r : Int32} (Y : gY D cT H0 p s m args meth c prog_12_method_32_code 5 "PlanTextModel" 1 22 S0 (Option.some Jvm.ClassFile.FieldType.boolean)) {k120 : Nat → Int32 → Int32 → Int32 → Int32 → gS → Option (Int32 × gS)} (hk120 : ∀ (x0 : Nat) (x1 : Int32) (x2 : Int32) (x3 : Int32) (x4 : Int32) (S : gS) (ls : Array Slot), k120 x0 x1 x2 x3 x4 S = some (r, S') → lv_has ls 5 [(0, va_rf (some x0)), (1, .int x1), (2, .int x2), (3, .int x3), (4, .int x4)] → gV D cT H0 p l e (gRm 1 22 S0) s m args below meth c (gQ D cT H0 below S0 S' (.inr (some (.int r))) s) S0 S (F0 m 120 ls [])) (x0 : Nat) (x1 : Int32) (x2 : Int32) (x4 : Int32) (S : gS) (hden : B_Mo_clashes_189 k120 x0 x1 x2 x4 S = some (r, S')) {ls : Array Slot} (hl : lv_has ls 5 [(0, va_rf (some x0)), (1, .int x1), (2, .int x2), (4, .int x4)]) : gV D cT H0 p l e (gRm 1 22 S0) s m args below meth c (gQ D cT H0 below S0 S' (.inr (some (.int r))) s) S0 S (F0 m 189 ls []) := by
  obtain ⟨X, hZ, hex, hr, hE⟩ := id Y
  have hx := X.1
  have hb := X.2.1
  unfold B_Mo_clashes_189 at hden
  refine gV.lift (fun _ _ _ _ => lv_iconst (v := 1) hx hb d_Mo_clashes_189 (by decide)) ?_
  refine gV.lift (fun _ _ _ _ => lv_goto (tgt := 194) hx hb d_Mo_clashes_190 (by decide)) ?_
  exact w_Mo_clashes_194 Y hk120 x0 x1 x2 x4 1 S hden (lv_sub hl [0, 1, 2, 3] rfl)
def B_Mo_clashes_160 (k120 : Nat → Int32 → Int32 → Int32 → Int32 → gS → Option (Int32 × gS)) (x0 : Nat) (x1 : Int32) (x2 : Int32) (x4 : Int32) (S : gS) : Option (Int32 × gS) := Option.bind (gRf S x0 10 15) (fun r1 => Option.bind r1 (fun a2 => Option.bind (gAI S a2 0 x2) (fun v3 => (if v3 < 0 then B_Mo_clashes_189 k120 x0 x1 x2 x4 S else Option.bind (gRf S x0 10 15) (fun r5 => Option.bind r5 (fun a6 => Option.bind (gAI S a6 0 x2) (fun v7 => Option.bind (gRf S x0 10 16) (fun r8 => Option.bind r8 (fun a9 => Option.bind (gAI S a9 0 x2) (fun v10 => gB2 (D_Mo_isWithin v7 v10 x4 S) (fun v12 S11 => (if v12 = 0 then B_Mo_clashes_193 k120 x0 x1 x2 x4 S11 else B_Mo_clashes_189 k120 x0 x1 x2 x4 S11))))))))))))
set_option maxRecDepth 100000 in
set_option maxHeartbeats 4000000 in
theorem w_Mo_clashes_160 {D : va_G} {cT : Nat → ClassId} {H0 : Heap} {l : Launch} {p : Program} {e : Env} {s : State} {m : MethodId} {args : Array Value} {below : List Frame} {meth : Method} {c : Code} {S0 : gS} {S' : gS} {r : Int32} (Y : gY D cT H0 p s m args meth c prog_12_method_32_code 5 "PlanTextModel" 1 22 S0 (Option.some Jvm.ClassFile.FieldType.boolean)) {k120 : Nat → Int32 → Int32 → Int32 → Int32 → gS → Option (Int32 × gS)} (hk120 : ∀ (x0 : Nat) (x1 : Int32) (x2 : Int32) (x3 : Int32) (x4 : Int32) (S : gS) (ls : Array Slot), k120 x0 x1 x2 x3 x4 S = some (r, S') → lv_has ls 5 [(0, va_rf (some x0)), (1, .int x1), (2, .int x2), (3, .int x3), (4, .int x4)] → gV D cT H0 p l e (gRm 1 22 S0) s m args below meth c (gQ D cT H0 below S0 S' (.inr (some (.int r))) s) S0 S (F0 m 120 ls [])) (x0 : Nat) (x1 : Int32) (x2 : Int32) (x4 : Int32) (S : gS) (hden : B_Mo_clashes_160 k120 x0 x1 x2 x4 S = some (r, S')) {ls : Array Slot} (hl : lv_has ls 5 [(0, va_rf (some x0)), (1, .int x1), (2, .int x2), (4, .int x4)]) : gV D cT H0 p l e (gRm 1 22 S0) s m args below meth c (gQ D cT H0 below S0 S' (.inr (some (.int r))) s) S0 S (F0 m 160 ls []) := by
  obtain ⟨X, hZ, hex, hr, hE⟩ := id Y
  have hx := X.1
  have hb := X.2.1
  unfold B_Mo_clashes_160 at hden
  refine gV.lift (fun _ _ _ _ => g_aload_n hx hb d_Mo_clashes_160 rfl (lv_at hl 0 rfl)) ?_
  replace hden := gb hden
  obtain ⟨r1, hv, hden⟩ := hden
  refine r_getR X cl_Mo (k := 15) hv (by decide) q_780 d_Mo_clashes_161 ?_
  refine gV.lift (fun _ _ _ _ => lv_iload_n hx hb d_Mo_clashes_164 rfl (lv_at hl 2 rfl)) ?_
  replace hden := gb hden
  obtain ⟨a2, rfl, hden⟩ := hden
  replace hden := gb hden
  obtain ⟨v3, hv, hden⟩ := hden
  refine r_iald X (t := 0) rfl hv d_Mo_clashes_165 ?_
  refine gV.lift2 (fun _ _ _ _ => lv_if_lt (tgt := 189) hx hb d_Mo_clashes_166 (by decide)) (fun hc4 => ?_) (fun hc4 => ?_)
  · replace hden := gip hc4 hden
    exact w_Mo_clashes_189 Y hk120 x0 x1 x2 x4 S hden (lv_sub hl [0, 1, 2, 3] rfl)
  · replace hden := gin hc4 hden
    refine gV.lift (fun _ _ _ _ => g_aload_n hx hb d_Mo_clashes_169 rfl (lv_at hl 0 rfl)) ?_
    replace hden := gb hden
    obtain ⟨r5, hv, hden⟩ := hden
    refine r_getR X cl_Mo (k := 15) hv (by decide) q_780 d_Mo_clashes_170 ?_
    refine gV.lift (fun _ _ _ _ => lv_iload_n hx hb d_Mo_clashes_173 rfl (lv_at hl 2 rfl)) ?_
    replace hden := gb hden
    obtain ⟨a6, rfl, hden⟩ := hden
    replace hden := gb hden
    obtain ⟨v7, hv, hden⟩ := hden
    refine r_iald X (t := 0) rfl hv d_Mo_clashes_174 ?_
    refine gV.lift (fun _ _ _ _ => g_aload_n hx hb d_Mo_clashes_175 rfl (lv_at hl 0 rfl)) ?_
    replace hden := gb hden
    obtain ⟨r8, hv, hden⟩ := hden
    refine r_getR X cl_Mo (k := 16) hv (by decide) q_781 d_Mo_clashes_176 ?_
    refine gV.lift (fun _ _ _ _ => lv_iload_n hx hb d_Mo_clashes_179 rfl (lv_at hl 2 rfl)) ?_
    replace hden := gb hden
    obtain ⟨a9, rfl, hden⟩ := hden
    replace hden := gb hden
    obtain ⟨v10, hv, hden⟩ := hden
    refine r_iald X (t := 0) rfl hv d_Mo_clashes_180 ?_
    refine gV.lift (fun _ _ _ _ => lv_iload hx hb d_Mo_clashes_181 (lv_at hl 3 rfl)) ?_
    replace hden := gb2 hden
    obtain ⟨v12, S11, hz, hden⟩ := hden
    refine g_callS (As := [.int v7, .int v10, .int x4]) (rest := []) X hZ (c_Mo_isWithin hz) q_953 q_5 q_951 q_952 ⟨by decide, by decide, by show _ = some 3; decide +kernel⟩ ⟨by decide, by decide⟩ hl.1 (Nat.le_of_ble_eq_true rfl) d_Mo_clashes_183 rfl rfl ?_
    refine gV.lift2 (fun _ _ _ _ => lv_if_eq (tgt := 193) hx hb d_Mo_clashes_186 (by decide)) (fun hc13 => ?_) (fun hc13 => ?_)
    · replace hden := gip hc13 hden
      exact w_Mo_clashes_193 Y hk120 x0 x1 x2 x4 S11 hden (lv_sub hl [0, 1, 2, 3] rfl)
    · replace hden := gin hc13 hden
      exact w_Mo_clashes_189 Y hk120 x0 x1 x2 x4 S11 hden (lv_sub hl [0, 1, 2, 3] rfl)
def B_Mo_clashes_120 (k120 : Nat → Int32 → Int32 → Int32 → Int32 → gS → Option (Int32 × gS)) (x0 : Nat) (x1 : Int32) (x2 : Int32) (x3 : Int32) (x4 : Int32) (S : gS) : Option (Int32 × gS) := (if 24 ≤ x4 then Option.bind (gZo x3) (fun v2 => some (v2, S)) else (if x3 = 0 then Option.bind (gRf S x0 10 15) (fun r4 => Option.bind r4 (fun a5 => Option.bind (gAI S a5 0 x1) (fun v6 => (if v6 < 0 then B_Mo_clashes_160 k120 x0 x1 x2 x4 S else Option.bind (gRf S x0 10 15) (fun r8 => Option.bind r8 (fun a9 => Option.bind (gAI S a9 0 x1) (fun v10 => Option.bind (gRf S x0 10 16) (fun r11 => Option.bind r11 (fun a12 => Option.bind (gAI S a12 0 x1) (fun v13 => gB2 (D_Mo_isWithin v10 v13 x4 S) (fun v15 S14 => (if v15 = 0 then B_Mo_clashes_193 k120 x0 x1 x2 x4 S14 else B_Mo_clashes_160 k120 x0 x1 x2 x4 S14)))))))))))) else B_Mo_clashes_189 k120 x0 x1 x2 x4 S))
set_option maxRecDepth 100000 in
set_option maxHeartbeats 4000000 in
theorem w_Mo_clashes_120 {D : va_G} {cT : Nat → ClassId} {H0 : Heap} {l : Launch} {p : Program} {e : Env} {s : State} {m : MethodId} {args : Array Value} {below : List Frame} {meth : Method} {c : Code} {S0 : gS} {S' : gS} {r : Int32} (Y : gY D cT H0 p s m args meth c prog_12_method_32_code 5 "PlanTextModel" 1 22 S0 (Option.some Jvm.ClassFile.FieldType.boolean)) {k120 : Nat → Int32 → Int32 → Int32 → Int32 → gS → Option (Int32 × gS)} (hk120 : ∀ (x0 : Nat) (x1 : Int32) (x2 : Int32) (x3 : Int32) (x4 : Int32) (S : gS) (ls : Array Slot), k120 x0 x1 x2 x3 x4 S = some (r, S') → lv_has ls 5 [(0, va_rf (some x0)), (1, .int x1), (2, .int x2), (3, .int x3), (4, .int x4)] → gV D cT H0 p l e (gRm 1 22 S0) s m args below meth c (gQ D cT H0 below S0 S' (.inr (some (.int r))) s) S0 S (F0 m 120 ls [])) (x0 : Nat) (x1 : Int32) (x2 : Int32) (x3 : Int32) (x4 : Int32) (S : gS) (hden : B_Mo_clashes_120 k120 x0 x1 x2 x3 x4 S = some (r, S')) {ls : Array Slot} (hl : lv_has ls 5 [(0, va_rf (some x0)), (1, .int x1), (2, .int x2), (3, .int x3), (4, .int x4)]) : gV D cT H0 p l e (gRm 1 22 S0) s m args below meth c (gQ D cT H0 below S0 S' (.inr (some (.int r))) s) S0 S (F0 m 120 ls []) := by
  obtain ⟨X, hZ, hex, hr, hE⟩ := id Y
  have hx := X.1
  have hb := X.2.1
  unfold B_Mo_clashes_120 at hden
  refine gV.lift (fun _ _ _ _ => lv_iload hx hb d_Mo_clashes_120 (lv_at hl 4 rfl)) ?_
  refine gV.lift (fun _ _ _ _ => lv_bipush (v := 24) hx hb d_Mo_clashes_122 (by decide)) ?_
  refine gV.lift2 (fun _ _ _ _ => lv_icmp_ge (tgt := 201) hx hb d_Mo_clashes_124 (by decide)) (fun hc1 => ?_) (fun hc1 => ?_)
  · replace hden := gip hc1 hden
    refine gV.lift (fun _ _ _ _ => lv_iload_n hx hb d_Mo_clashes_201 rfl (lv_at hl 3 rfl)) ?_
    replace hden := gb hden
    obtain ⟨v2, hz, hden⟩ := hden
    obtain ⟨rfl, hz2, -⟩ := gZo_spec hz
    obtain ⟨rfl, rfl⟩ := gpi hden
    exact g_zret X hr hz2 d_Mo_clashes_202
  · replace hden := gin hc1 hden
    refine gV.lift (fun _ _ _ _ => lv_iload_n hx hb d_Mo_clashes_127 rfl (lv_at hl 3 rfl)) ?_
    refine gV.lift2 (fun _ _ _ _ => lv_if_ne (tgt := 189) hx hb d_Mo_clashes_128 (by decide)) (fun hc3 => ?_) (fun hc3 => ?_)
    · replace hden := gin hc3 hden
      exact w_Mo_clashes_189 Y hk120 x0 x1 x2 x4 S hden (lv_sub hl [0, 1, 2, 4] rfl)
    · replace hden := gip hc3 hden
      refine gV.lift (fun _ _ _ _ => g_aload_n hx hb d_Mo_clashes_131 rfl (lv_at hl 0 rfl)) ?_
      replace hden := gb hden
      obtain ⟨r4, hv, hden⟩ := hden
      refine r_getR X cl_Mo (k := 15) hv (by decide) q_780 d_Mo_clashes_132 ?_
      refine gV.lift (fun _ _ _ _ => lv_iload_n hx hb d_Mo_clashes_135 rfl (lv_at hl 1 rfl)) ?_
      replace hden := gb hden
      obtain ⟨a5, rfl, hden⟩ := hden
      replace hden := gb hden
      obtain ⟨v6, hv, hden⟩ := hden
      refine r_iald X (t := 0) rfl hv d_Mo_clashes_136 ?_
      refine gV.lift2 (fun _ _ _ _ => lv_if_lt (tgt := 160) hx hb d_Mo_clashes_137 (by decide)) (fun hc7 => ?_) (fun hc7 => ?_)
      · replace hden := gip hc7 hden
        exact w_Mo_clashes_160 Y hk120 x0 x1 x2 x4 S hden (lv_sub hl [0, 1, 2, 4] rfl)
      · replace hden := gin hc7 hden
        refine gV.lift (fun _ _ _ _ => g_aload_n hx hb d_Mo_clashes_140 rfl (lv_at hl 0 rfl)) ?_
        replace hden := gb hden
        obtain ⟨r8, hv, hden⟩ := hden
        refine r_getR X cl_Mo (k := 15) hv (by decide) q_780 d_Mo_clashes_141 ?_
        refine gV.lift (fun _ _ _ _ => lv_iload_n hx hb d_Mo_clashes_144 rfl (lv_at hl 1 rfl)) ?_
        replace hden := gb hden
        obtain ⟨a9, rfl, hden⟩ := hden
        replace hden := gb hden
        obtain ⟨v10, hv, hden⟩ := hden
        refine r_iald X (t := 0) rfl hv d_Mo_clashes_145 ?_
        refine gV.lift (fun _ _ _ _ => g_aload_n hx hb d_Mo_clashes_146 rfl (lv_at hl 0 rfl)) ?_
        replace hden := gb hden
        obtain ⟨r11, hv, hden⟩ := hden
        refine r_getR X cl_Mo (k := 16) hv (by decide) q_781 d_Mo_clashes_147 ?_
        refine gV.lift (fun _ _ _ _ => lv_iload_n hx hb d_Mo_clashes_150 rfl (lv_at hl 1 rfl)) ?_
        replace hden := gb hden
        obtain ⟨a12, rfl, hden⟩ := hden
        replace hden := gb hden
        obtain ⟨v13, hv, hden⟩ := hden
        refine r_iald X (t := 0) rfl hv d_Mo_clashes_151 ?_
        refine gV.lift (fun _ _ _ _ => lv_iload hx hb d_Mo_clashes_152 (lv_at hl 4 rfl)) ?_
        replace hden := gb2 hden
        obtain ⟨v15, S14, hz, hden⟩ := hden
        refine g_callS (As := [.int v10, .int v13, .int x4]) (rest := []) X hZ (c_Mo_isWithin hz) q_953 q_5 q_951 q_952 ⟨by decide, by decide, by show _ = some 3; decide +kernel⟩ ⟨by decide, by decide⟩ hl.1 (Nat.le_of_ble_eq_true rfl) d_Mo_clashes_154 rfl rfl ?_
        refine gV.lift2 (fun _ _ _ _ => lv_if_eq (tgt := 193) hx hb d_Mo_clashes_157 (by decide)) (fun hc16 => ?_) (fun hc16 => ?_)
        · replace hden := gip hc16 hden
          exact w_Mo_clashes_193 Y hk120 x0 x1 x2 x4 S14 hden (lv_sub hl [0, 1, 2, 4] rfl)
        · replace hden := gin hc16 hden
          exact w_Mo_clashes_160 Y hk120 x0 x1 x2 x4 S14 hden (lv_sub hl [0, 1, 2, 4] rfl)
def L_Mo_clashes_120  : Nat → Nat → Int32 → Int32 → Int32 → Int32 → gS → Option (Int32 × gS)
  | 0 => fun _ _ _ _ _ _ => none
  | n + 1 => fun x0 x1 x2 x3 x4 S => B_Mo_clashes_120  (L_Mo_clashes_120  n) x0 x1 x2 x3 x4 S
theorem wL_Mo_clashes_120 {D : va_G} {cT : Nat → ClassId} {H0 : Heap} {l : Launch} {p : Program} {e : Env} {s : State} {m : MethodId} {args : Array Value} {below : List Frame} {meth : Method} {c : Code} {S0 : gS} {S' : gS} {r : Int32} (Y : gY D cT H0 p s m args meth c prog_12_method_32_code 5 "PlanTextModel" 1 22 S0 (Option.some Jvm.ClassFile.FieldType.boolean))  : ∀ (n : Nat) (x0 : Nat) (x1 : Int32) (x2 : Int32) (x3 : Int32) (x4 : Int32) (S : gS) (ls : Array Slot), L_Mo_clashes_120  n x0 x1 x2 x3 x4 S = some (r, S') → lv_has ls 5 [(0, va_rf (some x0)), (1, .int x1), (2, .int x2), (3, .int x3), (4, .int x4)] → gV D cT H0 p l e (gRm 1 22 S0) s m args below meth c (gQ D cT H0 below S0 S' (.inr (some (.int r))) s) S0 S (F0 m 120 ls []) := by
  intro n
  induction n with
  | zero => intro x0 x1 x2 x3 x4 S ls h hl; cases h
  | succ n ih => intro x0 x1 x2 x3 x4 S ls h hl; exact w_Mo_clashes_120 Y ih x0 x1 x2 x3 x4 S h hl
def B_Mo_clashes_115  (x0 : Nat) (x1 : Int32) (x2 : Int32) (S : gS) : Option (Int32 × gS) := L_Mo_clashes_120  gF x0 x1 x2 0 0 S
set_option maxRecDepth 100000 in
set_option maxHeartbeats 4000000 in
theorem w_Mo_clashes_115 {D : va_G} {cT : Nat → ClassId} {H0 : Heap} {l : Launch} {p : Program} {e : Env} {s : State} {m : MethodId} {args : Array Value} {below : List Frame} {meth : Method} {c : Code} {S0 : gS} {S' : gS} {r : Int32} (Y : gY D cT H0 p s m args meth c prog_12_method_32_code 5 "PlanTextModel" 1 22 S0 (Option.some Jvm.ClassFile.FieldType.boolean))  (x0 : Nat) (x1 : Int32) (x2 : Int32) (S : gS) (hden : B_Mo_clashes_115  x0 x1 x2 S = some (r, S')) {ls : Array Slot} (hl : lv_has ls 5 [(0, va_rf (some x0)), (1, .int x1), (2, .int x2)]) : gV D cT H0 p l e (gRm 1 22 S0) s m args below meth c (gQ D cT H0 below S0 S' (.inr (some (.int r))) s) S0 S (F0 m 115 ls []) := by
  obtain ⟨X, hZ, hex, hr, hE⟩ := id Y
  have hx := X.1
  have hb := X.2.1
  unfold B_Mo_clashes_115 at hden
  refine gV.lift (fun _ _ _ _ => lv_iconst (v := 0) hx hb d_Mo_clashes_115 (by decide)) ?_
  refine gV.liftS (nL := 5) (lv' := [(3, .int 0), (0, va_rf (some x0)), (1, .int x1), (2, .int x2)]) (fun _ _ _ _ => lv_istore_n hx hb d_Mo_clashes_116 rfl hl (by decide) rfl) (fun ls hl => ?_)
  refine gV.lift (fun _ _ _ _ => lv_iconst (v := 0) hx hb d_Mo_clashes_117 (by decide)) ?_
  refine gV.liftS (nL := 5) (lv' := [(4, .int 0), (3, .int 0), (0, va_rf (some x0)), (1, .int x1), (2, .int x2)]) (fun _ _ _ _ => lv_istore hx hb d_Mo_clashes_118 hl (by decide) rfl) (fun ls hl => ?_)
  exact wL_Mo_clashes_120 Y  gF x0 x1 x2 0 0 S _ hden (lv_sub hl [2, 3, 4, 1, 0] rfl)
def B_Mo_clashes_113   (S : gS) : Option (Int32 × gS) := Option.bind (gZo 0) (fun v1 => some (v1, S))
set_option maxRecDepth 100000 in
set_option maxHeartbeats 4000000 in
theorem w_Mo_clashes_113 {D : va_G} {cT : Nat → ClassId} {H0 : Heap} {l : Launch} {p : Program} {e : Env} {s : State} {m : MethodId} {args : Array Value} {below : List Frame} {meth : Method} {c : Code} {S0 : gS} {S' : gS} {r : Int32} (Y : gY D cT H0 p s m args meth c prog_12_method_32_code 5 "PlanTextModel" 1 22 S0 (Option.some Jvm.ClassFile.FieldType.boolean))   (S : gS) (hden : B_Mo_clashes_113   S = some (r, S')) {ls : Array Slot} (hl : lv_has ls 5 []) : gV D cT H0 p l e (gRm 1 22 S0) s m args below meth c (gQ D cT H0 below S0 S' (.inr (some (.int r))) s) S0 S (F0 m 113 ls []) := by
  obtain ⟨X, hZ, hex, hr, hE⟩ := id Y
  have hx := X.1
  have hb := X.2.1
  unfold B_Mo_clashes_113 at hden
  refine gV.lift (fun _ _ _ _ => lv_iconst (v := 0) hx hb d_Mo_clashes_113 (by decide)) ?_
  replace hden := gb hden
  obtain ⟨v1, hz, hden⟩ := hden
  obtain ⟨rfl, hz2, -⟩ := gZo_spec hz
  obtain ⟨rfl, rfl⟩ := gpi hden
  exact g_zret X hr hz2 d_Mo_clashes_114
def B_Mo_clashes_48   (S : gS) : Option (Int32 × gS) := Option.bind (gZo 0) (fun v1 => some (v1, S))
set_option maxRecDepth 100000 in
set_option maxHeartbeats 4000000 in
theorem w_Mo_clashes_48 {D : va_G} {cT : Nat → ClassId} {H0 : Heap} {l : Launch} {p : Program} {e : Env} {s : State} {m : MethodId} {args : Array Value} {below : List Frame} {meth : Method} {c : Code} {S0 : gS} {S' : gS} {r : Int32} (Y : gY D cT H0 p s m args meth c prog_12_method_32_code 5 "PlanTextModel" 1 22 S0 (Option.some Jvm.ClassFile.FieldType.boolean))   (S : gS) (hden : B_Mo_clashes_48   S = some (r, S')) {ls : Array Slot} (hl : lv_has ls 5 []) : gV D cT H0 p l e (gRm 1 22 S0) s m args below meth c (gQ D cT H0 below S0 S' (.inr (some (.int r))) s) S0 S (F0 m 48 ls []) := by
  obtain ⟨X, hZ, hex, hr, hE⟩ := id Y
  have hx := X.1
  have hb := X.2.1
  unfold B_Mo_clashes_48 at hden
  refine gV.lift (fun _ _ _ _ => lv_iconst (v := 0) hx hb d_Mo_clashes_48 (by decide)) ?_
  replace hden := gb hden
  obtain ⟨v1, hz, hden⟩ := hden
  obtain ⟨rfl, hz2, -⟩ := gZo_spec hz
  obtain ⟨rfl, rfl⟩ := gpi hden
  exact g_zret X hr hz2 d_Mo_clashes_49
def D_Mo_clashes (h0 : Nat) (p0 : Int32) (p1 : Int32) (S : gS) : Option (Int32 × gS) := Option.bind (gRf S h0 10 10) (fun r1 => Option.bind r1 (fun a2 => Option.bind (gAI S a2 3 p0) (fun v3 => (if v3 = 0 then B_Mo_clashes_48  S else Option.bind (gRf S h0 10 10) (fun r5 => Option.bind r5 (fun a6 => Option.bind (gAI S a6 3 p1) (fun v7 => (if v7 = 0 then B_Mo_clashes_48  S else Option.bind (gRf S h0 10 11) (fun r9 => Option.bind r9 (fun a10 => Option.bind (gAI S a10 0 p0) (fun v11 => Option.bind (gRf S h0 10 11) (fun r12 => Option.bind r12 (fun a13 => Option.bind (gAI S a13 0 p1) (fun v14 => (if v11 = v14 then Option.bind (gRf S h0 10 17) (fun r16 => Option.bind r16 (fun a17 => Option.bind (gAI S a17 0 p0) (fun v18 => Option.bind (gRf S h0 10 17) (fun r19 => Option.bind r19 (fun a20 => Option.bind (gAI S a20 0 p1) (fun v21 => (if v18 = v21 then Option.bind (gRf S h0 10 12) (fun r23 => Option.bind r23 (fun a24 => Option.bind (gAI S a24 0 p0) (fun v25 => (if v25 ≤ 0 then B_Mo_clashes_115  h0 p0 p1 S else Option.bind (gRf S h0 10 12) (fun r27 => Option.bind r27 (fun a28 => Option.bind (gAI S a28 0 p1) (fun v29 => (if v29 ≤ 0 then B_Mo_clashes_115  h0 p0 p1 S else Option.bind (gRf S h0 10 12) (fun r31 => Option.bind r31 (fun a32 => Option.bind (gAI S a32 0 p0) (fun v33 => Option.bind (gRf S h0 10 12) (fun r34 => Option.bind r34 (fun a35 => Option.bind (gAI S a35 0 p1) (fun v36 => (if v33 = v36 then Option.bind (gRf S h0 10 13) (fun r38 => Option.bind r38 (fun a39 => Option.bind (gAI S a39 0 p0) (fun v40 => Option.bind (gRf S h0 10 14) (fun r41 => Option.bind r41 (fun a42 => Option.bind (gAI S a42 0 p1) (fun v43 => (if v43 < v40 then B_Mo_clashes_113  S else Option.bind (gRf S h0 10 13) (fun r45 => Option.bind r45 (fun a46 => Option.bind (gAI S a46 0 p1) (fun v47 => Option.bind (gRf S h0 10 14) (fun r48 => Option.bind r48 (fun a49 => Option.bind (gAI S a49 0 p0) (fun v50 => (if v47 ≤ v50 then B_Mo_clashes_115  h0 p0 p1 S else B_Mo_clashes_113  S)))))))))))))) else B_Mo_clashes_113  S))))))))))))))) else B_Mo_clashes_48  S))))))) else B_Mo_clashes_48  S)))))))))))))))
set_option maxRecDepth 100000 in
set_option maxHeartbeats 4000000 in
theorem c_Mo_clashes {D : va_G} {cT : Nat → ClassId} {H0 : Heap} {l : Launch} {S : gS} {S' : gS} {h0 : Nat} {p0 : Int32} {p1 : Int32} {r : Int32} (hden : D_Mo_clashes h0 p0 p1 S = some (r, S')) : gM D cT H0 l y_Mo_clashes (Cond.code y_Mo_clashes prog_12_method_32_code 5 (Option.some Jvm.ClassFile.FieldType.boolean)) 1 22 [va_rf (some h0), .int p0, .int p1] S S' (.inr (some (.int r))) := by
  refine gM.ofV (by decide) ?_
  intro p e s m args below meth c s₁ B hml ea X hZ hex hr hE
  subst ea
  have Y : gY D cT H0 p s m _ meth c prog_12_method_32_code 5 "PlanTextModel" 1 22 S (Option.some Jvm.ClassFile.FieldType.boolean) := ⟨X, hZ, hex, hr, hE⟩
  have hx := X.1
  have hb := X.2.1
  have hl := lv_entry ([va_rf (some h0), .int p0, .int p1]) (n := 5) (Nat.le_of_ble_eq_true rfl)
  rw [lg_entry_eq]
  generalize (lg_sl ([va_rf (some h0), .int p0, .int p1]) ++ List.replicate (5 - (lg_sl ([va_rf (some h0), .int p0, .int p1])).length) Slot.unset).toArray = ls at hl ⊢
  have hl : lv_has ls 5 [(0, va_rf (some h0)), (1, .int p0), (2, .int p1)] := hl
  unfold D_Mo_clashes at hden
  refine gV.lift (fun _ _ _ _ => g_aload_n hx hb d_Mo_clashes_0 rfl (lv_at hl 0 rfl)) ?_
  replace hden := gb hden
  obtain ⟨r1, hv, hden⟩ := hden
  refine r_getR X cl_Mo (k := 10) hv (by decide) q_775 d_Mo_clashes_1 ?_
  refine gV.lift (fun _ _ _ _ => lv_iload_n hx hb d_Mo_clashes_4 rfl (lv_at hl 1 rfl)) ?_
  replace hden := gb hden
  obtain ⟨a2, rfl, hden⟩ := hden
  replace hden := gb hden
  obtain ⟨v3, hv, hden⟩ := hden
  refine r_zald X (t := 3) rfl hv d_Mo_clashes_5 ?_
  refine gV.lift2 (fun _ _ _ _ => lv_if_eq (tgt := 48) hx hb d_Mo_clashes_6 (by decide)) (fun hc4 => ?_) (fun hc4 => ?_)
  · replace hden := gip hc4 hden
    exact w_Mo_clashes_48 Y  S hden (lv_sub hl [] rfl)
  · replace hden := gin hc4 hden
    refine gV.lift (fun _ _ _ _ => g_aload_n hx hb d_Mo_clashes_9 rfl (lv_at hl 0 rfl)) ?_
    replace hden := gb hden
    obtain ⟨r5, hv, hden⟩ := hden
    refine r_getR X cl_Mo (k := 10) hv (by decide) q_775 d_Mo_clashes_10 ?_
    refine gV.lift (fun _ _ _ _ => lv_iload_n hx hb d_Mo_clashes_13 rfl (lv_at hl 2 rfl)) ?_
    replace hden := gb hden
    obtain ⟨a6, rfl, hden⟩ := hden
    replace hden := gb hden
    obtain ⟨v7, hv, hden⟩ := hden
    refine r_zald X (t := 3) rfl hv d_Mo_clashes_14 ?_
    refine gV.lift2 (fun _ _ _ _ => lv_if_eq (tgt := 48) hx hb d_Mo_clashes_15 (by decide)) (fun hc8 => ?_) (fun hc8 => ?_)
    · replace hden := gip hc8 hden
      exact w_Mo_clashes_48 Y  S hden (lv_sub hl [] rfl)
    · replace hden := gin hc8 hden
      refine gV.lift (fun _ _ _ _ => g_aload_n hx hb d_Mo_clashes_18 rfl (lv_at hl 0 rfl)) ?_
      replace hden := gb hden
      obtain ⟨r9, hv, hden⟩ := hden
      refine r_getR X cl_Mo (k := 11) hv (by decide) q_776 d_Mo_clashes_19 ?_
      refine gV.lift (fun _ _ _ _ => lv_iload_n hx hb d_Mo_clashes_22 rfl (lv_at hl 1 rfl)) ?_
      replace hden := gb hden
      obtain ⟨a10, rfl, hden⟩ := hden
      replace hden := gb hden
      obtain ⟨v11, hv, hden⟩ := hden
      refine r_iald X (t := 0) rfl hv d_Mo_clashes_23 ?_
      refine gV.lift (fun _ _ _ _ => g_aload_n hx hb d_Mo_clashes_24 rfl (lv_at hl 0 rfl)) ?_
      replace hden := gb hden
      obtain ⟨r12, hv, hden⟩ := hden
      refine r_getR X cl_Mo (k := 11) hv (by decide) q_776 d_Mo_clashes_25 ?_
      refine gV.lift (fun _ _ _ _ => lv_iload_n hx hb d_Mo_clashes_28 rfl (lv_at hl 2 rfl)) ?_
      replace hden := gb hden
      obtain ⟨a13, rfl, hden⟩ := hden
      replace hden := gb hden
      obtain ⟨v14, hv, hden⟩ := hden
      refine r_iald X (t := 0) rfl hv d_Mo_clashes_29 ?_
      refine gV.lift2 (fun _ _ _ _ => lv_icmp_ne (tgt := 48) hx hb d_Mo_clashes_30 (by decide)) (fun hc15 => ?_) (fun hc15 => ?_)
      · replace hden := gin hc15 hden
        exact w_Mo_clashes_48 Y  S hden (lv_sub hl [] rfl)
      · replace hden := gip hc15 hden
        refine gV.lift (fun _ _ _ _ => g_aload_n hx hb d_Mo_clashes_33 rfl (lv_at hl 0 rfl)) ?_
        replace hden := gb hden
        obtain ⟨r16, hv, hden⟩ := hden
        refine r_getR X cl_Mo (k := 17) hv (by decide) q_782 d_Mo_clashes_34 ?_
        refine gV.lift (fun _ _ _ _ => lv_iload_n hx hb d_Mo_clashes_37 rfl (lv_at hl 1 rfl)) ?_
        replace hden := gb hden
        obtain ⟨a17, rfl, hden⟩ := hden
        replace hden := gb hden
        obtain ⟨v18, hv, hden⟩ := hden
        refine r_iald X (t := 0) rfl hv d_Mo_clashes_38 ?_
        refine gV.lift (fun _ _ _ _ => g_aload_n hx hb d_Mo_clashes_39 rfl (lv_at hl 0 rfl)) ?_
        replace hden := gb hden
        obtain ⟨r19, hv, hden⟩ := hden
        refine r_getR X cl_Mo (k := 17) hv (by decide) q_782 d_Mo_clashes_40 ?_
        refine gV.lift (fun _ _ _ _ => lv_iload_n hx hb d_Mo_clashes_43 rfl (lv_at hl 2 rfl)) ?_
        replace hden := gb hden
        obtain ⟨a20, rfl, hden⟩ := hden
        replace hden := gb hden
        obtain ⟨v21, hv, hden⟩ := hden
        refine r_iald X (t := 0) rfl hv d_Mo_clashes_44 ?_
        refine gV.lift2 (fun _ _ _ _ => lv_icmp_eq (tgt := 50) hx hb d_Mo_clashes_45 (by decide)) (fun hc22 => ?_) (fun hc22 => ?_)
        · replace hden := gip hc22 hden
          refine gV.lift (fun _ _ _ _ => g_aload_n hx hb d_Mo_clashes_50 rfl (lv_at hl 0 rfl)) ?_
          replace hden := gb hden
          obtain ⟨r23, hv, hden⟩ := hden
          refine r_getR X cl_Mo (k := 12) hv (by decide) q_777 d_Mo_clashes_51 ?_
          refine gV.lift (fun _ _ _ _ => lv_iload_n hx hb d_Mo_clashes_54 rfl (lv_at hl 1 rfl)) ?_
          replace hden := gb hden
          obtain ⟨a24, rfl, hden⟩ := hden
          replace hden := gb hden
          obtain ⟨v25, hv, hden⟩ := hden
          refine r_iald X (t := 0) rfl hv d_Mo_clashes_55 ?_
          refine gV.lift2 (fun _ _ _ _ => lv_if_le (tgt := 115) hx hb d_Mo_clashes_56 (by decide)) (fun hc26 => ?_) (fun hc26 => ?_)
          · replace hden := gip hc26 hden
            exact w_Mo_clashes_115 Y  h0 p0 p1 S hden (lv_sub hl [0, 1, 2] rfl)
          · replace hden := gin hc26 hden
            refine gV.lift (fun _ _ _ _ => g_aload_n hx hb d_Mo_clashes_59 rfl (lv_at hl 0 rfl)) ?_
            replace hden := gb hden
            obtain ⟨r27, hv, hden⟩ := hden
            refine r_getR X cl_Mo (k := 12) hv (by decide) q_777 d_Mo_clashes_60 ?_
            refine gV.lift (fun _ _ _ _ => lv_iload_n hx hb d_Mo_clashes_63 rfl (lv_at hl 2 rfl)) ?_
            replace hden := gb hden
            obtain ⟨a28, rfl, hden⟩ := hden
            replace hden := gb hden
            obtain ⟨v29, hv, hden⟩ := hden
            refine r_iald X (t := 0) rfl hv d_Mo_clashes_64 ?_
            refine gV.lift2 (fun _ _ _ _ => lv_if_le (tgt := 115) hx hb d_Mo_clashes_65 (by decide)) (fun hc30 => ?_) (fun hc30 => ?_)
            · replace hden := gip hc30 hden
              exact w_Mo_clashes_115 Y  h0 p0 p1 S hden (lv_sub hl [0, 1, 2] rfl)
            · replace hden := gin hc30 hden
              refine gV.lift (fun _ _ _ _ => g_aload_n hx hb d_Mo_clashes_68 rfl (lv_at hl 0 rfl)) ?_
              replace hden := gb hden
              obtain ⟨r31, hv, hden⟩ := hden
              refine r_getR X cl_Mo (k := 12) hv (by decide) q_777 d_Mo_clashes_69 ?_
              refine gV.lift (fun _ _ _ _ => lv_iload_n hx hb d_Mo_clashes_72 rfl (lv_at hl 1 rfl)) ?_
              replace hden := gb hden
              obtain ⟨a32, rfl, hden⟩ := hden
              replace hden := gb hden
              obtain ⟨v33, hv, hden⟩ := hden
              refine r_iald X (t := 0) rfl hv d_Mo_clashes_73 ?_
              refine gV.lift (fun _ _ _ _ => g_aload_n hx hb d_Mo_clashes_74 rfl (lv_at hl 0 rfl)) ?_
              replace hden := gb hden
              obtain ⟨r34, hv, hden⟩ := hden
              refine r_getR X cl_Mo (k := 12) hv (by decide) q_777 d_Mo_clashes_75 ?_
              refine gV.lift (fun _ _ _ _ => lv_iload_n hx hb d_Mo_clashes_78 rfl (lv_at hl 2 rfl)) ?_
              replace hden := gb hden
              obtain ⟨a35, rfl, hden⟩ := hden
              replace hden := gb hden
              obtain ⟨v36, hv, hden⟩ := hden
              refine r_iald X (t := 0) rfl hv d_Mo_clashes_79 ?_
              refine gV.lift2 (fun _ _ _ _ => lv_icmp_ne (tgt := 113) hx hb d_Mo_clashes_80 (by decide)) (fun hc37 => ?_) (fun hc37 => ?_)
              · replace hden := gin hc37 hden
                exact w_Mo_clashes_113 Y  S hden (lv_sub hl [] rfl)
              · replace hden := gip hc37 hden
                refine gV.lift (fun _ _ _ _ => g_aload_n hx hb d_Mo_clashes_83 rfl (lv_at hl 0 rfl)) ?_
                replace hden := gb hden
                obtain ⟨r38, hv, hden⟩ := hden
                refine r_getR X cl_Mo (k := 13) hv (by decide) q_778 d_Mo_clashes_84 ?_
                refine gV.lift (fun _ _ _ _ => lv_iload_n hx hb d_Mo_clashes_87 rfl (lv_at hl 1 rfl)) ?_
                replace hden := gb hden
                obtain ⟨a39, rfl, hden⟩ := hden
                replace hden := gb hden
                obtain ⟨v40, hv, hden⟩ := hden
                refine r_iald X (t := 0) rfl hv d_Mo_clashes_88 ?_
                refine gV.lift (fun _ _ _ _ => g_aload_n hx hb d_Mo_clashes_89 rfl (lv_at hl 0 rfl)) ?_
                replace hden := gb hden
                obtain ⟨r41, hv, hden⟩ := hden
                refine r_getR X cl_Mo (k := 14) hv (by decide) q_779 d_Mo_clashes_90 ?_
                refine gV.lift (fun _ _ _ _ => lv_iload_n hx hb d_Mo_clashes_93 rfl (lv_at hl 2 rfl)) ?_
                replace hden := gb hden
                obtain ⟨a42, rfl, hden⟩ := hden
                replace hden := gb hden
                obtain ⟨v43, hv, hden⟩ := hden
                refine r_iald X (t := 0) rfl hv d_Mo_clashes_94 ?_
                refine gV.lift2 (fun _ _ _ _ => lv_icmp_gt (tgt := 113) hx hb d_Mo_clashes_95 (by decide)) (fun hc44 => ?_) (fun hc44 => ?_)
                · replace hden := gip hc44 hden
                  exact w_Mo_clashes_113 Y  S hden (lv_sub hl [] rfl)
                · replace hden := gin hc44 hden
                  refine gV.lift (fun _ _ _ _ => g_aload_n hx hb d_Mo_clashes_98 rfl (lv_at hl 0 rfl)) ?_
                  replace hden := gb hden
                  obtain ⟨r45, hv, hden⟩ := hden
                  refine r_getR X cl_Mo (k := 13) hv (by decide) q_778 d_Mo_clashes_99 ?_
                  refine gV.lift (fun _ _ _ _ => lv_iload_n hx hb d_Mo_clashes_102 rfl (lv_at hl 2 rfl)) ?_
                  replace hden := gb hden
                  obtain ⟨a46, rfl, hden⟩ := hden
                  replace hden := gb hden
                  obtain ⟨v47, hv, hden⟩ := hden
                  refine r_iald X (t := 0) rfl hv d_Mo_clashes_103 ?_
                  refine gV.lift (fun _ _ _ _ => g_aload_n hx hb d_Mo_clashes_104 rfl (lv_at hl 0 rfl)) ?_
                  replace hden := gb hden
                  obtain ⟨r48, hv, hden⟩ := hden
                  refine r_getR X cl_Mo (k := 14) hv (by decide) q_779 d_Mo_clashes_105 ?_
                  refine gV.lift (fun _ _ _ _ => lv_iload_n hx hb d_Mo_clashes_108 rfl (lv_at hl 1 rfl)) ?_
                  replace hden := gb hden
                  obtain ⟨a49, rfl, hden⟩ := hden
                  replace hden := gb hden
                  obtain ⟨v50, hv, hden⟩ := hden
                  refine r_iald X (t := 0) rfl hv d_Mo_clashes_109 ?_
                  refine gV.lift2 (fun _ _ _ _ => lv_icmp_le (tgt := 115) hx hb d_Mo_clashes_110 (by decide)) (fun hc51 => ?_) (fun hc51 => ?_)
                  · replace hden := gip hc51 hden
                    exact w_Mo_clashes_115 Y  h0 p0 p1 S hden (lv_sub hl [0, 1, 2] rfl)
                  · replace hden := gin hc51 hden
                    exact w_Mo_clashes_113 Y  S hden (lv_sub hl [] rfl)
        · replace hden := gin hc22 hden
          exact w_Mo_clashes_48 Y  S hden (lv_sub hl [] rfl)
/-! PlanTextModel.clash(II)I -/
abbrev y_Mo_clash : MethodName := ⟨"PlanTextModel", "clash", "(II)I"⟩
theorem d_Mo_clash_0 : decode prog_12_method_33_code 0 = .ok (.aload_n 0, 1) := by decide +kernel
theorem d_Mo_clash_1 : decode prog_12_method_33_code 1 = .ok (.iload_n 1, 1) := by decide +kernel
theorem d_Mo_clash_2 : decode prog_12_method_33_code 2 = .ok (.invokestatic 153, 3) := by decide +kernel
theorem d_Mo_clash_5 : decode prog_12_method_33_code 5 = .ok (.ifCond .eq 7, 3) := by decide +kernel
theorem d_Mo_clash_8 : decode prog_12_method_33_code 8 = .ok (.iload_n 2, 1) := by decide +kernel
theorem d_Mo_clash_9 : decode prog_12_method_33_code 9 = .ok (.ifCond .ge 7, 3) := by decide +kernel
theorem d_Mo_clash_12 : decode prog_12_method_33_code 12 = .ok (.iconst 1, 1) := by decide +kernel
theorem d_Mo_clash_13 : decode prog_12_method_33_code 13 = .ok (.goto 4, 3) := by decide +kernel
theorem d_Mo_clash_16 : decode prog_12_method_33_code 16 = .ok (.iconst 0, 1) := by decide +kernel
theorem d_Mo_clash_17 : decode prog_12_method_33_code 17 = .ok (.iconst 0, 1) := by decide +kernel
theorem d_Mo_clash_18 : decode prog_12_method_33_code 18 = .ok (.iconst 0, 1) := by decide +kernel
theorem d_Mo_clash_19 : decode prog_12_method_33_code 19 = .ok (.invokevirtual 79, 3) := by decide +kernel
theorem d_Mo_clash_22 : decode prog_12_method_33_code 22 = .ok (.ifCond .eq 5, 3) := by decide +kernel
theorem d_Mo_clash_25 : decode prog_12_method_33_code 25 = .ok (.iconst 0, 1) := by decide +kernel
theorem d_Mo_clash_26 : decode prog_12_method_33_code 26 = .ok (.ireturn, 1) := by decide +kernel
theorem d_Mo_clash_27 : decode prog_12_method_33_code 27 = .ok (.aload_n 0, 1) := by decide +kernel
theorem d_Mo_clash_28 : decode prog_12_method_33_code 28 = .ok (.iload_n 1, 1) := by decide +kernel
theorem d_Mo_clash_29 : decode prog_12_method_33_code 29 = .ok (.invokevirtual 156, 3) := by decide +kernel
theorem d_Mo_clash_32 : decode prog_12_method_33_code 32 = .ok (.istore_n 3, 1) := by decide +kernel
theorem d_Mo_clash_33 : decode prog_12_method_33_code 33 = .ok (.iload_n 2, 1) := by decide +kernel
theorem d_Mo_clash_34 : decode prog_12_method_33_code 34 = .ok (.istore 4, 2) := by decide +kernel
theorem d_Mo_clash_36 : decode prog_12_method_33_code 36 = .ok (.iconst 1, 1) := by decide +kernel
theorem d_Mo_clash_37 : decode prog_12_method_33_code 37 = .ok (.istore 5, 2) := by decide +kernel
theorem d_Mo_clash_39 : decode prog_12_method_33_code 39 = .ok (.iload_n 3, 1) := by decide +kernel
theorem d_Mo_clash_40 : decode prog_12_method_33_code 40 = .ok (.ifCond .lt 73, 3) := by decide +kernel
theorem d_Mo_clash_43 : decode prog_12_method_33_code 43 = .ok (.iload 5, 2) := by decide +kernel
theorem d_Mo_clash_45 : decode prog_12_method_33_code 45 = .ok (.bipush 40, 2) := by decide +kernel
theorem d_Mo_clash_47 : decode prog_12_method_33_code 47 = .ok (.if_icmp .gt 66, 3) := by decide +kernel
theorem d_Mo_clash_50 : decode prog_12_method_33_code 50 = .ok (.iload 5, 2) := by decide +kernel
theorem d_Mo_clash_52 : decode prog_12_method_33_code 52 = .ok (.iconst 1, 1) := by decide +kernel
theorem d_Mo_clash_53 : decode prog_12_method_33_code 53 = .ok (.iadd, 1) := by decide +kernel
theorem d_Mo_clash_54 : decode prog_12_method_33_code 54 = .ok (.istore 6, 2) := by decide +kernel
theorem d_Mo_clash_56 : decode prog_12_method_33_code 56 = .ok (.iload 6, 2) := by decide +kernel
theorem d_Mo_clash_58 : decode prog_12_method_33_code 58 = .ok (.bipush 40, 2) := by decide +kernel
theorem d_Mo_clash_60 : decode prog_12_method_33_code 60 = .ok (.if_icmp .gt 47, 3) := by decide +kernel
theorem d_Mo_clash_63 : decode prog_12_method_33_code 63 = .ok (.aload_n 0, 1) := by decide +kernel
theorem d_Mo_clash_64 : decode prog_12_method_33_code 64 = .ok (.bipush 50, 2) := by decide +kernel
theorem d_Mo_clash_66 : decode prog_12_method_33_code 66 = .ok (.iload_n 3, 1) := by decide +kernel
theorem d_Mo_clash_67 : decode prog_12_method_33_code 67 = .ok (.imul, 1) := by decide +kernel
theorem d_Mo_clash_68 : decode prog_12_method_33_code 68 = .ok (.iload 5, 2) := by decide +kernel
theorem d_Mo_clash_70 : decode prog_12_method_33_code 70 = .ok (.iadd, 1) := by decide +kernel
theorem d_Mo_clash_71 : decode prog_12_method_33_code 71 = .ok (.bipush 50, 2) := by decide +kernel
theorem d_Mo_clash_73 : decode prog_12_method_33_code 73 = .ok (.iload_n 3, 1) := by decide +kernel
theorem d_Mo_clash_74 : decode prog_12_method_33_code 74 = .ok (.imul, 1) := by decide +kernel
theorem d_Mo_clash_75 : decode prog_12_method_33_code 75 = .ok (.iload 6, 2) := by decide +kernel
theorem d_Mo_clash_77 : decode prog_12_method_33_code 77 = .ok (.iadd, 1) := by decide +kernel
theorem d_Mo_clash_78 : decode prog_12_method_33_code 78 = .ok (.invokevirtual 163, 3) := by decide +kernel
theorem d_Mo_clash_81 : decode prog_12_method_33_code 81 = .ok (.ifCond .eq 20, 3) := by decide +kernel
theorem d_Mo_clash_84 : decode prog_12_method_33_code 84 = .ok (.iload 4, 2) := by decide +kernel
theorem d_Mo_clash_86 : decode prog_12_method_33_code 86 = .ok (.ifCond .ne 12, 3) := by decide +kernel
theorem d_Mo_clash_89 : decode prog_12_method_33_code 89 = .ok (.bipush 100, 2) := by decide +kernel
theorem d_Mo_clash_91 : decode prog_12_method_33_code 91 = .ok (.iload 5, 2) := by decide +kernel
theorem d_Mo_clash_93 : decode prog_12_method_33_code 93 = .ok (.imul, 1) := by decide +kernel
theorem d_Mo_clash_94 : decode prog_12_method_33_code 94 = .ok (.iload 6, 2) := by decide +kernel
theorem d_Mo_clash_96 : decode prog_12_method_33_code 96 = .ok (.iadd, 1) := by decide +kernel
theorem d_Mo_clash_97 : decode prog_12_method_33_code 97 = .ok (.ireturn, 1) := by decide +kernel
theorem d_Mo_clash_98 : decode prog_12_method_33_code 98 = .ok (.iinc 4 (-1), 3) := by decide +kernel
theorem d_Mo_clash_101 : decode prog_12_method_33_code 101 = .ok (.iinc 6 1, 3) := by decide +kernel
theorem d_Mo_clash_104 : decode prog_12_method_33_code 104 = .ok (.goto (-48), 3) := by decide +kernel
theorem d_Mo_clash_107 : decode prog_12_method_33_code 107 = .ok (.iinc 5 1, 3) := by decide +kernel
theorem d_Mo_clash_110 : decode prog_12_method_33_code 110 = .ok (.goto (-71), 3) := by decide +kernel
theorem d_Mo_clash_113 : decode prog_12_method_33_code 113 = .ok (.iconst (-1), 1) := by decide +kernel
theorem d_Mo_clash_114 : decode prog_12_method_33_code 114 = .ok (.ireturn, 1) := by decide +kernel
def B_Mo_clash_113   (S : gS) : Option (Int32 × gS) := some ((-1), S)
set_option maxRecDepth 100000 in
set_option maxHeartbeats 4000000 in
theorem w_Mo_clash_113 {D : va_G} {cT : Nat → ClassId} {H0 : Heap} {l : Launch} {p : Program} {e : Env} {s : State} {m : MethodId} {args : Array Value} {below : List Frame} {meth : Method} {c : Code} {S0 : gS} {S' : gS} {r : Int32} (Y : gY D cT H0 p s m args meth c prog_12_method_33_code 7 "PlanTextModel" 2 46 S0 (Option.some Jvm.ClassFile.FieldType.int))   (S : gS) (hden : B_Mo_clash_113   S = some (r, S')) {ls : Array Slot} (hl : lv_has ls 7 []) : gV D cT H0 p l e (gRm 2 46 S0) s m args below meth c (gQ D cT H0 below S0 S' (.inr (some (.int r))) s) S0 S (F0 m 113 ls []) := by
  obtain ⟨X, hZ, hex, hr, hE⟩ := id Y
  have hx := X.1
  have hb := X.2.1
  unfold B_Mo_clash_113 at hden
  refine gV.lift (fun _ _ _ _ => lv_iconst (v := (-1)) hx hb d_Mo_clash_113 (by decide)) ?_
  obtain ⟨rfl, rfl⟩ := gpi hden
  exact g_iret X hr d_Mo_clash_114
def B_Mo_clash_101 (k39 : Nat → Int32 → Int32 → Int32 → gS → Option (Int32 × gS)) (k56 : Nat → Int32 → Int32 → Int32 → Int32 → gS → Option (Int32 × gS)) (x0 : Nat) (x3 : Int32) (x4 : Int32) (x5 : Int32) (x6 : Int32) (S : gS) : Option (Int32 × gS) := k56 x0 x3 x4 x5 (x6 + 1) S
set_option maxRecDepth 100000 in
set_option maxHeartbeats 4000000 in
theorem w_Mo_clash_101 {D : va_G} {cT : Nat → ClassId} {H0 : Heap} {l : Launch} {p : Program} {e : Env} {s : State} {m : MethodId} {args : Array Value} {below : List Frame} {meth : Method} {c : Code} {S0 : gS} {S' : gS} {r : Int32} (Y : gY D cT H0 p s m args meth c prog_12_method_33_code 7 "PlanTextModel" 2 46 S0 (Option.some Jvm.ClassFile.FieldType.int)) {k39 : Nat → Int32 → Int32 → Int32 → gS → Option (Int32 × gS)} {k56 : Nat → Int32 → Int32 → Int32 → Int32 → gS → Option (Int32 × gS)} (hk39 : ∀ (x0 : Nat) (x3 : Int32) (x4 : Int32) (x5 : Int32) (S : gS) (ls : Array Slot), k39 x0 x3 x4 x5 S = some (r, S') → lv_has ls 7 [(0, va_rf (some x0)), (3, .int x3), (4, .int x4), (5, .int x5)] → gV D cT H0 p l e (gRm 2 46 S0) s m args below meth c (gQ D cT H0 below S0 S' (.inr (some (.int r))) s) S0 S (F0 m 39 ls [])) (hk56 : ∀ (x0 : Nat) (x3 : Int32) (x4 : Int32) (x5 : Int32) (x6 : Int32) (S : gS) (ls : Array Slot), k56 x0 x3 x4 x5 x6 S = some (r, S') → lv_has ls 7 [(0, va_rf (some x0)), (3, .int x3), (4, .int x4), (5, .int x5), (6, .int x6)] → gV D cT H0 p l e (gRm 2 46 S0) s m args below meth c (gQ D cT H0 below S0 S' (.inr (some (.int r))) s) S0 S (F0 m 56 ls [])) (x0 : Nat) (x3 : Int32) (x4 : Int32) (x5 : Int32) (x6 : Int32) (S : gS) (hden : B_Mo_clash_101 k39 k56 x0 x3 x4 x5 x6 S = some (r, S')) {ls : Array Slot} (hl : lv_has ls 7 [(0, va_rf (some x0)), (3, .int x3), (4, .int x4), (5, .int x5), (6, .int x6)]) : gV D cT H0 p l e (gRm 2 46 S0) s m args below meth c (gQ D cT H0 below S0 S' (.inr (some (.int r))) s) S0 S (F0 m 101 ls []) := by
  obtain ⟨X, hZ, hex, hr, hE⟩ := id Y
  have hx := X.1
  have hb := X.2.1
  unfold B_Mo_clash_101 at hden
  refine gV.liftS (nL := 7) (lv' := [(6, .int (x6 + 1)), (0, va_rf (some x0)), (3, .int x3), (4, .int x4), (5, .int x5)]) (fun _ _ _ _ => lv_iinc (v := (x6 + 1)) hx hb d_Mo_clash_101 hl (k := 4) rfl rfl (by decide) rfl) (fun ls hl => ?_)
  refine gV.lift (fun _ _ _ _ => lv_goto (tgt := 56) hx hb d_Mo_clash_104 (by decide)) ?_
  exact hk56 x0 x3 x4 x5 (x6 + 1) S _ hden (lv_sub hl [1, 2, 3, 4, 0] rfl)
def B_Mo_clash_56 (k39 : Nat → Int32 → Int32 → Int32 → gS → Option (Int32 × gS)) (k56 : Nat → Int32 → Int32 → Int32 → Int32 → gS → Option (Int32 × gS)) (x0 : Nat) (x3 : Int32) (x4 : Int32) (x5 : Int32) (x6 : Int32) (S : gS) : Option (Int32 × gS) := (if 40 < x6 then k39 x0 x3 x4 (x5 + 1) S else Option.bind (gOb S x0 10) (fun fs4 => gB2 (D_Mo_clashes x0 ((50 * x3) + x5) ((50 * x3) + x6) S) (fun v3 S2 => (if v3 = 0 then B_Mo_clash_101 k39 k56 x0 x3 x4 x5 x6 S2 else (if x4 = 0 then some (((100 * x5) + x6), S2) else B_Mo_clash_101 k39 k56 x0 x3 (x4 + (-1)) x5 x6 S2)))))
set_option maxRecDepth 100000 in
set_option maxHeartbeats 4000000 in
theorem w_Mo_clash_56 {D : va_G} {cT : Nat → ClassId} {H0 : Heap} {l : Launch} {p : Program} {e : Env} {s : State} {m : MethodId} {args : Array Value} {below : List Frame} {meth : Method} {c : Code} {S0 : gS} {S' : gS} {r : Int32} (Y : gY D cT H0 p s m args meth c prog_12_method_33_code 7 "PlanTextModel" 2 46 S0 (Option.some Jvm.ClassFile.FieldType.int)) {k39 : Nat → Int32 → Int32 → Int32 → gS → Option (Int32 × gS)} {k56 : Nat → Int32 → Int32 → Int32 → Int32 → gS → Option (Int32 × gS)} (hk39 : ∀ (x0 : Nat) (x3 : Int32) (x4 : Int32) (x5 : Int32) (S : gS) (ls : Array Slot), k39 x0 x3 x4 x5 S = some (r, S') → lv_has ls 7 [(0, va_rf (some x0)), (3, .int x3), (4, .int x4), (5, .int x5)] → gV D cT H0 p l e (gRm 2 46 S0) s m args below meth c (gQ D cT H0 below S0 S' (.inr (some (.int r))) s) S0 S (F0 m 39 ls [])) (hk56 : ∀ (x0 : Nat) (x3 : Int32) (x4 : Int32) (x5 : Int32) (x6 : Int32) (S : gS) (ls : Array Slot), k56 x0 x3 x4 x5 x6 S = some (r, S') → lv_has ls 7 [(0, va_rf (some x0)), (3, .int x3), (4, .int x4), (5, .int x5), (6, .int x6)] → gV D cT H0 p l e (gRm 2 46 S0) s m args below meth c (gQ D cT H0 below S0 S' (.inr (some (.int r))) s) S0 S (F0 m 56 ls [])) (x0 : Nat) (x3 : Int32) (x4 : Int32) (x5 : Int32) (x6 : Int32) (S : gS) (hden : B_Mo_clash_56 k39 k56 x0 x3 x4 x5 x6 S = some (r, S')) {ls : Array Slot} (hl : lv_has ls 7 [(0, va_rf (some x0)), (3, .int x3), (4, .int x4), (5, .int x5), (6, .int x6)]) : gV D cT H0 p l e (gRm 2 46 S0) s m args below meth c (gQ D cT H0 below S0 S' (.inr (some (.int r))) s) S0 S (F0 m 56 ls []) := by
  obtain ⟨X, hZ, hex, hr, hE⟩ := id Y
  have hx := X.1
  have hb := X.2.1
  unfold B_Mo_clash_56 at hden
  refine gV.lift (fun _ _ _ _ => lv_iload hx hb d_Mo_clash_56 (lv_at hl 4 rfl)) ?_
  refine gV.lift (fun _ _ _ _ => lv_bipush (v := 40) hx hb d_Mo_clash_58 (by decide)) ?_
  refine gV.lift2 (fun _ _ _ _ => lv_icmp_gt (tgt := 107) hx hb d_Mo_clash_60 (by decide)) (fun hc1 => ?_) (fun hc1 => ?_)
  · replace hden := gip hc1 hden
    refine gV.liftS (nL := 7) (lv' := [(5, .int (x5 + 1)), (0, va_rf (some x0)), (3, .int x3), (4, .int x4), (6, .int x6)]) (fun _ _ _ _ => lv_iinc (v := (x5 + 1)) hx hb d_Mo_clash_107 hl (k := 3) rfl rfl (by decide) rfl) (fun ls hl => ?_)
    refine gV.lift (fun _ _ _ _ => lv_goto (tgt := 39) hx hb d_Mo_clash_110 (by decide)) ?_
    exact hk39 x0 x3 x4 (x5 + 1) S _ hden (lv_sub hl [1, 2, 3, 0] rfl)
  · replace hden := gin hc1 hden
    refine gV.lift (fun _ _ _ _ => g_aload_n hx hb d_Mo_clash_63 rfl (lv_at hl 0 rfl)) ?_
    refine gV.lift (fun _ _ _ _ => lv_bipush (v := 50) hx hb d_Mo_clash_64 (by decide)) ?_
    refine gV.lift (fun _ _ _ _ => lv_iload_n hx hb d_Mo_clash_66 rfl (lv_at hl 1 rfl)) ?_
    refine gV.lift (fun _ _ _ _ => lv_imul hx hb d_Mo_clash_67) ?_
    refine gV.lift (fun _ _ _ _ => lv_iload hx hb d_Mo_clash_68 (lv_at hl 3 rfl)) ?_
    refine gV.lift (fun _ _ _ _ => lv_iadd hx hb d_Mo_clash_70) ?_
    refine gV.lift (fun _ _ _ _ => lv_bipush (v := 50) hx hb d_Mo_clash_71 (by decide)) ?_
    refine gV.lift (fun _ _ _ _ => lv_iload_n hx hb d_Mo_clash_73 rfl (lv_at hl 1 rfl)) ?_
    refine gV.lift (fun _ _ _ _ => lv_imul hx hb d_Mo_clash_74) ?_
    refine gV.lift (fun _ _ _ _ => lv_iload hx hb d_Mo_clash_75 (lv_at hl 4 rfl)) ?_
    refine gV.lift (fun _ _ _ _ => lv_iadd hx hb d_Mo_clash_77) ?_
    replace hden := gb hden
    obtain ⟨fs4, ho, hden⟩ := hden
    replace hden := gb2 hden
    obtain ⟨v3, S2, hz, hden⟩ := hden
    refine g_callV (As := [.int ((50 * x3) + x5), .int ((50 * x3) + x6)]) (rest := []) X hZ (c_Mo_clashes hz) cl_Mo (gOb_spec ho) q_969 q_5 q_966 q_968 qp_45 ⟨by decide, by decide, by show _ = some 2; decide +kernel⟩ ⟨by decide, by decide⟩ hl.1 (Nat.le_of_ble_eq_true rfl) d_Mo_clash_78 rfl rfl ?_
    refine gV.lift2 (fun _ _ _ _ => lv_if_eq (tgt := 101) hx hb d_Mo_clash_81 (by decide)) (fun hc5 => ?_) (fun hc5 => ?_)
    · replace hden := gip hc5 hden
      exact w_Mo_clash_101 Y hk39 hk56 x0 x3 x4 x5 x6 S2 hden (lv_sub hl [0, 1, 2, 3, 4] rfl)
    · replace hden := gin hc5 hden
      refine gV.lift (fun _ _ _ _ => lv_iload hx hb d_Mo_clash_84 (lv_at hl 2 rfl)) ?_
      refine gV.lift2 (fun _ _ _ _ => lv_if_ne (tgt := 98) hx hb d_Mo_clash_86 (by decide)) (fun hc6 => ?_) (fun hc6 => ?_)
      · replace hden := gin hc6 hden
        refine gV.liftS (nL := 7) (lv' := [(4, .int (x4 + (-1))), (0, va_rf (some x0)), (3, .int x3), (5, .int x5), (6, .int x6)]) (fun _ _ _ _ => lv_iinc (v := (x4 + (-1))) hx hb d_Mo_clash_98 hl (k := 2) rfl rfl (by decide) rfl) (fun ls hl => ?_)
        exact w_Mo_clash_101 Y hk39 hk56 x0 x3 (x4 + (-1)) x5 x6 S2 hden (lv_sub hl [1, 2, 0, 3, 4] rfl)
      · replace hden := gip hc6 hden
        refine gV.lift (fun _ _ _ _ => lv_bipush (v := 100) hx hb d_Mo_clash_89 (by decide)) ?_
        refine gV.lift (fun _ _ _ _ => lv_iload hx hb d_Mo_clash_91 (lv_at hl 3 rfl)) ?_
        refine gV.lift (fun _ _ _ _ => lv_imul hx hb d_Mo_clash_93) ?_
        refine gV.lift (fun _ _ _ _ => lv_iload hx hb d_Mo_clash_94 (lv_at hl 4 rfl)) ?_
        refine gV.lift (fun _ _ _ _ => lv_iadd hx hb d_Mo_clash_96) ?_
        obtain ⟨rfl, rfl⟩ := gpi hden
        exact g_iret X hr d_Mo_clash_97
def L_Mo_clash_56 (k39 : Nat → Int32 → Int32 → Int32 → gS → Option (Int32 × gS)) : Nat → Nat → Int32 → Int32 → Int32 → Int32 → gS → Option (Int32 × gS)
  | 0 => fun _ _ _ _ _ _ => none
  | n + 1 => fun x0 x3 x4 x5 x6 S => B_Mo_clash_56 k39 (L_Mo_clash_56 k39 n) x0 x3 x4 x5 x6 S
theorem wL_Mo_clash_56 {D : va_G} {cT : Nat → ClassId} {H0 : Heap} {l : Launch} {p : Program} {e : Env} {s : State} {m : MethodId} {args : Array Value} {below : List Frame} {meth : Method} {c : Code} {S0 : gS} {S' : gS} {r : Int32} (Y : gY D cT H0 p s m args meth c prog_12_method_33_code 7 "PlanTextModel" 2 46 S0 (Option.some Jvm.ClassFile.FieldType.int)) {k39 : Nat → Int32 → Int32 → Int32 → gS → Option (Int32 × gS)} (hk39 : ∀ (x0 : Nat) (x3 : Int32) (x4 : Int32) (x5 : Int32) (S : gS) (ls : Array Slot), k39 x0 x3 x4 x5 S = some (r, S') → lv_has ls 7 [(0, va_rf (some x0)), (3, .int x3), (4, .int x4), (5, .int x5)] → gV D cT H0 p l e (gRm 2 46 S0) s m args below meth c (gQ D cT H0 below S0 S' (.inr (some (.int r))) s) S0 S (F0 m 39 ls [])) : ∀ (n : Nat) (x0 : Nat) (x3 : Int32) (x4 : Int32) (x5 : Int32) (x6 : Int32) (S : gS) (ls : Array Slot), L_Mo_clash_56 k39 n x0 x3 x4 x5 x6 S = some (r, S') → lv_has ls 7 [(0, va_rf (some x0)), (3, .int x3), (4, .int x4), (5, .int x5), (6, .int x6)] → gV D cT H0 p l e (gRm 2 46 S0) s m args below meth c (gQ D cT H0 below S0 S' (.inr (some (.int r))) s) S0 S (F0 m 56 ls []) := by
  intro n
  induction n with
  | zero => intro x0 x3 x4 x5 x6 S ls h hl; cases h
  | succ n ih => intro x0 x3 x4 x5 x6 S ls h hl; exact w_Mo_clash_56 Y hk39 ih x0 x3 x4 x5 x6 S h hl
def B_Mo_clash_39 (k39 : Nat → Int32 → Int32 → Int32 → gS → Option (Int32 × gS)) (x0 : Nat) (x3 : Int32) (x4 : Int32) (x5 : Int32) (S : gS) : Option (Int32 × gS) := (if x3 < 0 then B_Mo_clash_113  S else (if 40 < x5 then B_Mo_clash_113  S else L_Mo_clash_56 k39 gF x0 x3 x4 x5 (x5 + 1) S))
set_option maxRecDepth 100000 in
set_option maxHeartbeats 4000000 in
theorem w_Mo_clash_39 {D : va_G} {cT : Nat → ClassId} {H0 : Heap} {l : Launch} {p : Program} {e : Env} {s : State} {m : MethodId} {args : Array Value} {below : List Frame} {meth : Method} {c : Code} {S0 : gS} {S' : gS} {r : Int32} (Y : gY D cT H0 p s m args meth c prog_12_method_33_code 7 "PlanTextModel" 2 46 S0 (Option.some Jvm.ClassFile.FieldType.int)) {k39 : Nat → Int32 → Int32 → Int32 → gS → Option (Int32 × gS)} (hk39 : ∀ (x0 : Nat) (x3 : Int32) (x4 : Int32) (x5 : Int32) (S : gS) (ls : Array Slot), k39 x0 x3 x4 x5 S = some (r, S') → lv_has ls 7 [(0, va_rf (some x0)), (3, .int x3), (4, .int x4), (5, .int x5)] → gV D cT H0 p l e (gRm 2 46 S0) s m args below meth c (gQ D cT H0 below S0 S' (.inr (some (.int r))) s) S0 S (F0 m 39 ls [])) (x0 : Nat) (x3 : Int32) (x4 : Int32) (x5 : Int32) (S : gS) (hden : B_Mo_clash_39 k39 x0 x3 x4 x5 S = some (r, S')) {ls : Array Slot} (hl : lv_has ls 7 [(0, va_rf (some x0)), (3, .int x3), (4, .int x4), (5, .int x5)]) : gV D cT H0 p l e (gRm 2 46 S0) s m args below meth c (gQ D cT H0 below S0 S' (.inr (some (.int r))) s) S0 S (F0 m 39 ls []) := by
  obtain ⟨X, hZ, hex, hr, hE⟩ := id Y
  have hx := X.1
  have hb := X.2.1
  unfold B_Mo_clash_39 at hden
  refine gV.lift (fun _ _ _ _ => lv_iload_n hx hb d_Mo_clash_39 rfl (lv_at hl 1 rfl)) ?_
  refine gV.lift2 (fun _ _ _ _ => lv_if_lt (tgt := 113) hx hb d_Mo_clash_40 (by decide)) (fun hc1 => ?_) (fun hc1 => ?_)
  · replace hden := gip hc1 hden
    exact w_Mo_clash_113 Y  S hden (lv_sub hl [] rfl)
  · replace hden := gin hc1 hden
    refine gV.lift (fun _ _ _ _ => lv_iload hx hb d_Mo_clash_43 (lv_at hl 3 rfl)) ?_
    refine gV.lift (fun _ _ _ _ => lv_bipush (v := 40) hx hb d_Mo_clash_45 (by decide)) ?_
    refine gV.lift2 (fun _ _ _ _ => lv_icmp_gt (tgt := 113) hx hb d_Mo_clash_47 (by decide)) (fun hc2 => ?_) (fun hc2 => ?_)
    · replace hden := gip hc2 hden
      exact w_Mo_clash_113 Y  S hden (lv_sub hl [] rfl)
    · replace hden := gin hc2 hden
      refine gV.lift (fun _ _ _ _ => lv_iload hx hb d_Mo_clash_50 (lv_at hl 3 rfl)) ?_
      refine gV.lift (fun _ _ _ _ => lv_iconst (v := 1) hx hb d_Mo_clash_52 (by decide)) ?_
      refine gV.lift (fun _ _ _ _ => lv_iadd hx hb d_Mo_clash_53) ?_
      refine gV.liftS (nL := 7) (lv' := [(6, .int (x5 + 1)), (0, va_rf (some x0)), (3, .int x3), (4, .int x4), (5, .int x5)]) (fun _ _ _ _ => lv_istore hx hb d_Mo_clash_54 hl (by decide) rfl) (fun ls hl => ?_)
      exact wL_Mo_clash_56 Y hk39 gF x0 x3 x4 x5 (x5 + 1) S _ hden (lv_sub hl [1, 2, 3, 4, 0] rfl)
def L_Mo_clash_39  : Nat → Nat → Int32 → Int32 → Int32 → gS → Option (Int32 × gS)
  | 0 => fun _ _ _ _ _ => none
  | n + 1 => fun x0 x3 x4 x5 S => B_Mo_clash_39  (L_Mo_clash_39  n) x0 x3 x4 x5 S
theorem wL_Mo_clash_39 {D : va_G} {cT : Nat → ClassId} {H0 : Heap} {l : Launch} {p : Program} {e : Env} {s : State} {m : MethodId} {args : Array Value} {below : List Frame} {meth : Method} {c : Code} {S0 : gS} {S' : gS} {r : Int32} (Y : gY D cT H0 p s m args meth c prog_12_method_33_code 7 "PlanTextModel" 2 46 S0 (Option.some Jvm.ClassFile.FieldType.int))  : ∀ (n : Nat) (x0 : Nat) (x3 : Int32) (x4 : Int32) (x5 : Int32) (S : gS) (ls : Array Slot), L_Mo_clash_39  n x0 x3 x4 x5 S = some (r, S') → lv_has ls 7 [(0, va_rf (some x0)), (3, .int x3), (4, .int x4), (5, .int x5)] → gV D cT H0 p l e (gRm 2 46 S0) s m args below meth c (gQ D cT H0 below S0 S' (.inr (some (.int r))) s) S0 S (F0 m 39 ls []) := by
  intro n
  induction n with
  | zero => intro x0 x3 x4 x5 S ls h hl; cases h
  | succ n ih => intro x0 x3 x4 x5 S ls h hl; exact w_Mo_clash_39 Y ih x0 x3 x4 x5 S h hl
def B_Mo_clash_17  (x0 : Nat) (x1 : Int32) (x2 : Int32) (t0 : Int32) (t1 : Nat) (S : gS) : Option (Int32 × gS) := Option.bind (gOb S t1 10) (fun fs3 => gB2 (D_Mo_throwing t1 t0 0 0 S) (fun v2 S1 => (if v2 = 0 then Option.bind (gOb S1 x0 10) (fun fs7 => gB2 (D_Mo_editionOf x0 x1 S1) (fun v6 S5 => L_Mo_clash_39  gF x0 v6 x2 1 S5)) else some (0, S1))))
set_option maxRecDepth 100000 in
set_option maxHeartbeats 4000000 in
theorem w_Mo_clash_17 {D : va_G} {cT : Nat → ClassId} {H0 : Heap} {l : Launch} {p : Program} {e : Env} {s : State} {m : MethodId} {args : Array Value} {below : List Frame} {meth : Method} {c : Code} {S0 : gS} {S' : gS} {r : Int32} (Y : gY D cT H0 p s m args meth c prog_12_method_33_code 7 "PlanTextModel" 2 46 S0 (Option.some Jvm.ClassFile.FieldType.int))  (x0 : Nat) (x1 : Int32) (x2 : Int32) (t0 : Int32) (t1 : Nat) (S : gS) (hden : B_Mo_clash_17  x0 x1 x2 t0 t1 S = some (r, S')) {ls : Array Slot} (hl : lv_has ls 7 [(0, va_rf (some x0)), (1, .int x1), (2, .int x2)]) : gV D cT H0 p l e (gRm 2 46 S0) s m args below meth c (gQ D cT H0 below S0 S' (.inr (some (.int r))) s) S0 S (F0 m 17 ls [.int t0, va_rf (some t1)]) := by
  obtain ⟨X, hZ, hex, hr, hE⟩ := id Y
  have hx := X.1
  have hb := X.2.1
  unfold B_Mo_clash_17 at hden
  refine gV.lift (fun _ _ _ _ => lv_iconst (v := 0) hx hb d_Mo_clash_17 (by decide)) ?_
  refine gV.lift (fun _ _ _ _ => lv_iconst (v := 0) hx hb d_Mo_clash_18 (by decide)) ?_
  replace hden := gb hden
  obtain ⟨fs3, ho, hden⟩ := hden
  replace hden := gb2 hden
  obtain ⟨v2, S1, hz, hden⟩ := hden
  refine g_callV (As := [.int t0, .int 0, .int 0]) (rest := []) X hZ (c_Mo_throwing hz) cl_Mo (gOb_spec ho) q_859 q_5 q_856 q_858 qp_26 ⟨by decide, by decide, by show _ = some 3; decide +kernel⟩ ⟨by decide, by decide⟩ hl.1 (Nat.le_of_ble_eq_true rfl) d_Mo_clash_19 rfl rfl ?_
  refine gV.lift2 (fun _ _ _ _ => lv_if_eq (tgt := 27) hx hb d_Mo_clash_22 (by decide)) (fun hc4 => ?_) (fun hc4 => ?_)
  · replace hden := gip hc4 hden
    refine gV.lift (fun _ _ _ _ => g_aload_n hx hb d_Mo_clash_27 rfl (lv_at hl 0 rfl)) ?_
    refine gV.lift (fun _ _ _ _ => lv_iload_n hx hb d_Mo_clash_28 rfl (lv_at hl 1 rfl)) ?_
    replace hden := gb hden
    obtain ⟨fs7, ho, hden⟩ := hden
    replace hden := gb2 hden
    obtain ⟨v6, S5, hz, hden⟩ := hden
    refine g_callV (As := [.int x1]) (rest := []) X hZ (c_Mo_editionOf hz) cl_Mo (gOb_spec ho) q_942 q_5 q_939 q_941 qp_42 ⟨by decide, by decide, by show _ = some 1; decide +kernel⟩ ⟨by decide, by decide⟩ hl.1 (Nat.le_of_ble_eq_true rfl) d_Mo_clash_29 rfl rfl ?_
    refine gV.liftS (nL := 7) (lv' := [(3, .int v6), (0, va_rf (some x0)), (1, .int x1), (2, .int x2)]) (fun _ _ _ _ => lv_istore_n hx hb d_Mo_clash_32 rfl hl (by decide) rfl) (fun ls hl => ?_)
    refine gV.lift (fun _ _ _ _ => lv_iload_n hx hb d_Mo_clash_33 rfl (lv_at hl 3 rfl)) ?_
    refine gV.liftS (nL := 7) (lv' := [(4, .int x2), (3, .int v6), (0, va_rf (some x0)), (1, .int x1), (2, .int x2)]) (fun _ _ _ _ => lv_istore hx hb d_Mo_clash_34 hl (by decide) rfl) (fun ls hl => ?_)
    refine gV.lift (fun _ _ _ _ => lv_iconst (v := 1) hx hb d_Mo_clash_36 (by decide)) ?_
    refine gV.liftS (nL := 7) (lv' := [(5, .int 1), (4, .int x2), (3, .int v6), (0, va_rf (some x0)), (1, .int x1), (2, .int x2)]) (fun _ _ _ _ => lv_istore hx hb d_Mo_clash_37 hl (by decide) rfl) (fun ls hl => ?_)
    exact wL_Mo_clash_39 Y  gF x0 v6 x2 1 S5 _ hden (lv_sub hl [3, 2, 1, 0] rfl)
  · replace hden := gin hc4 hden
    refine gV.lift (fun _ _ _ _ => lv_iconst (v := 0) hx hb d_Mo_clash_25 (by decide)) ?_
    obtain ⟨rfl, rfl⟩ := gpi hden
    exact g_iret X hr d_Mo_clash_26
def B_Mo_clash_12  (x0 : Nat) (x1 : Int32) (x2 : Int32) (t0 : Nat) (S : gS) : Option (Int32 × gS) := B_Mo_clash_17  x0 x1 x2 1 t0 S
set_option maxRecDepth 100000 in
set_option maxHeartbeats 4000000 in
theorem w_Mo_clash_12 {D : va_G} {cT : Nat → ClassId} {H0 : Heap} {l : Launch} {p : Program} {e : Env} {s : State} {m : MethodId} {args : Array Value} {below : List Frame} {meth : Method} {c : Code} {S0 : gS} {S' : gS} {r : Int32} (Y : gY D cT H0 p s m args meth c prog_12_method_33_code 7 "PlanTextModel" 2 46 S0 (Option.some Jvm.ClassFile.FieldType.int))  (x0 : Nat) (x1 : Int32) (x2 : Int32) (t0 : Nat) (S : gS) (hden : B_Mo_clash_12  x0 x1 x2 t0 S = some (r, S')) {ls : Array Slot} (hl : lv_has ls 7 [(0, va_rf (some x0)), (1, .int x1), (2, .int x2)]) : gV D cT H0 p l e (gRm 2 46 S0) s m args below meth c (gQ D cT H0 below S0 S' (.inr (some (.int r))) s) S0 S (F0 m 12 ls [va_rf (some t0)]) := by
  obtain ⟨X, hZ, hex, hr, hE⟩ := id Y
  have hx := X.1
  have hb := X.2.1
  unfold B_Mo_clash_12 at hden
  refine gV.lift (fun _ _ _ _ => lv_iconst (v := 1) hx hb d_Mo_clash_12 (by decide)) ?_
  refine gV.lift (fun _ _ _ _ => lv_goto (tgt := 17) hx hb d_Mo_clash_13 (by decide)) ?_
  exact w_Mo_clash_17 Y  x0 x1 x2 1 t0 S hden (lv_sub hl [0, 1, 2] rfl)
def D_Mo_clash (h0 : Nat) (p0 : Int32) (p1 : Int32) (S : gS) : Option (Int32 × gS) := gB2 (D_Mo_isDay p0 S) (fun v2 S1 => (if v2 = 0 then B_Mo_clash_12  h0 p0 p1 h0 S1 else (if 0 ≤ p1 then B_Mo_clash_17  h0 p0 p1 0 h0 S1 else B_Mo_clash_12  h0 p0 p1 h0 S1)))
set_option maxRecDepth 100000 in
set_option maxHeartbeats 4000000 in
theorem c_Mo_clash {D : va_G} {cT : Nat → ClassId} {H0 : Heap} {l : Launch} {S : gS} {S' : gS} {h0 : Nat} {p0 : Int32} {p1 : Int32} {r : Int32} (hden : D_Mo_clash h0 p0 p1 S = some (r, S')) : gM D cT H0 l y_Mo_clash (Cond.code y_Mo_clash prog_12_method_33_code 7 (Option.some Jvm.ClassFile.FieldType.int)) 2 46 [va_rf (some h0), .int p0, .int p1] S S' (.inr (some (.int r))) := by
  refine gM.ofV (by decide) ?_
  intro p e s m args below meth c s₁ B hml ea X hZ hex hr hE
  subst ea
  have Y : gY D cT H0 p s m _ meth c prog_12_method_33_code 7 "PlanTextModel" 2 46 S (Option.some Jvm.ClassFile.FieldType.int) := ⟨X, hZ, hex, hr, hE⟩
  have hx := X.1
  have hb := X.2.1
  have hl := lv_entry ([va_rf (some h0), .int p0, .int p1]) (n := 7) (Nat.le_of_ble_eq_true rfl)
  rw [lg_entry_eq]
  generalize (lg_sl ([va_rf (some h0), .int p0, .int p1]) ++ List.replicate (7 - (lg_sl ([va_rf (some h0), .int p0, .int p1])).length) Slot.unset).toArray = ls at hl ⊢
  have hl : lv_has ls 7 [(0, va_rf (some h0)), (1, .int p0), (2, .int p1)] := hl
  unfold D_Mo_clash at hden
  refine gV.lift (fun _ _ _ _ => g_aload_n hx hb d_Mo_clash_0 rfl (lv_at hl 0 rfl)) ?_
  refine gV.lift (fun _ _ _ _ => lv_iload_n hx hb d_Mo_clash_1 rfl (lv_at hl 1 rfl)) ?_
  replace hden := gb2 hden
  obtain ⟨v2, S1, hz, hden⟩ := hden
  refine g_callS (As := [.int p0]) (rest := [va_rf (some h0)]) X hZ (c_Mo_isDay hz) q_938 q_5 q_936 q_937 ⟨by decide, by decide, by show _ = some 1; decide +kernel⟩ ⟨by decide, by decide⟩ hl.1 (Nat.le_of_ble_eq_true rfl) d_Mo_clash_2 rfl rfl ?_
  refine gV.lift2 (fun _ _ _ _ => lv_if_eq (tgt := 12) hx hb d_Mo_clash_5 (by decide)) (fun hc3 => ?_) (fun hc3 => ?_)
  · replace hden := gip hc3 hden
    exact w_Mo_clash_12 Y  h0 p0 p1 h0 S1 hden (lv_sub hl [0, 1, 2] rfl)
  · replace hden := gin hc3 hden
    refine gV.lift (fun _ _ _ _ => lv_iload_n hx hb d_Mo_clash_8 rfl (lv_at hl 2 rfl)) ?_
    refine gV.lift2 (fun _ _ _ _ => lv_if_ge (tgt := 16) hx hb d_Mo_clash_9 (by decide)) (fun hc4 => ?_) (fun hc4 => ?_)
    · replace hden := gip hc4 hden
      refine gV.lift (fun _ _ _ _ => lv_iconst (v := 0) hx hb d_Mo_clash_16 (by decide)) ?_
      exact w_Mo_clash_17 Y  h0 p0 p1 0 h0 S1 hden (lv_sub hl [0, 1, 2] rfl)
    · replace hden := gin hc4 hden
      exact w_Mo_clash_12 Y  h0 p0 p1 h0 S1 hden (lv_sub hl [0, 1, 2] rfl)
