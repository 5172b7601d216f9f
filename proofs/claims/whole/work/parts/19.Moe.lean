/-! PlanTextModel.free(I)I -/
abbrev y_Mo_free : MethodName := ⟨"PlanTextModel", "free", "(I)I"⟩
theorem d_Mo_free_0 : decode prog_12_method_34_code 0 = .ok (.iconst 1, 1) := by decide +kernel
theorem d_Mo_free_1 : decode prog_12_method_34_code 1 = .ok (.istore_n 2, 1) := by decide +kernel
theorem d_Mo_free_2 : decode prog_12_method_34_code 2 = .ok (.iconst 1, 1) := by decide +kernel
theorem d_Mo_free_3 : decode prog_12_method_34_code 3 = .ok (.istore_n 3, 1) := by decide +kernel
theorem d_Mo_free_4 : decode prog_12_method_34_code 4 = .ok (.iload_n 3, 1) := by decide +kernel
theorem d_Mo_free_5 : decode prog_12_method_34_code 5 = .ok (.ifCond .eq 77, 3) := by decide +kernel
theorem d_Mo_free_8 : decode prog_12_method_34_code 8 = .ok (.iconst 0, 1) := by decide +kernel
theorem d_Mo_free_9 : decode prog_12_method_34_code 9 = .ok (.istore_n 3, 1) := by decide +kernel
theorem d_Mo_free_10 : decode prog_12_method_34_code 10 = .ok (.iconst 1, 1) := by decide +kernel
theorem d_Mo_free_11 : decode prog_12_method_34_code 11 = .ok (.istore 4, 2) := by decide +kernel
theorem d_Mo_free_13 : decode prog_12_method_34_code 13 = .ok (.iload 4, 2) := by decide +kernel
theorem d_Mo_free_15 : decode prog_12_method_34_code 15 = .ok (.bipush 40, 2) := by decide +kernel
theorem d_Mo_free_17 : decode prog_12_method_34_code 17 = .ok (.if_icmp .gt 50, 3) := by decide +kernel
theorem d_Mo_free_20 : decode prog_12_method_34_code 20 = .ok (.iload_n 3, 1) := by decide +kernel
theorem d_Mo_free_21 : decode prog_12_method_34_code 21 = .ok (.ifCond .ne 34, 3) := by decide +kernel
theorem d_Mo_free_24 : decode prog_12_method_34_code 24 = .ok (.aload_n 0, 1) := by decide +kernel
theorem d_Mo_free_25 : decode prog_12_method_34_code 25 = .ok (.getfield 20, 3) := by decide +kernel
theorem d_Mo_free_28 : decode prog_12_method_34_code 28 = .ok (.bipush 50, 2) := by decide +kernel
theorem d_Mo_free_30 : decode prog_12_method_34_code 30 = .ok (.iload_n 1, 1) := by decide +kernel
theorem d_Mo_free_31 : decode prog_12_method_34_code 31 = .ok (.imul, 1) := by decide +kernel
theorem d_Mo_free_32 : decode prog_12_method_34_code 32 = .ok (.iload 4, 2) := by decide +kernel
theorem d_Mo_free_34 : decode prog_12_method_34_code 34 = .ok (.iadd, 1) := by decide +kernel
theorem d_Mo_free_35 : decode prog_12_method_34_code 35 = .ok (.baload, 1) := by decide +kernel
theorem d_Mo_free_36 : decode prog_12_method_34_code 36 = .ok (.ifCond .eq 23, 3) := by decide +kernel
theorem d_Mo_free_39 : decode prog_12_method_34_code 39 = .ok (.aload_n 0, 1) := by decide +kernel
theorem d_Mo_free_40 : decode prog_12_method_34_code 40 = .ok (.getfield 27, 3) := by decide +kernel
theorem d_Mo_free_43 : decode prog_12_method_34_code 43 = .ok (.bipush 50, 2) := by decide +kernel
theorem d_Mo_free_45 : decode prog_12_method_34_code 45 = .ok (.iload_n 1, 1) := by decide +kernel
theorem d_Mo_free_46 : decode prog_12_method_34_code 46 = .ok (.imul, 1) := by decide +kernel
theorem d_Mo_free_47 : decode prog_12_method_34_code 47 = .ok (.iload 4, 2) := by decide +kernel
theorem d_Mo_free_49 : decode prog_12_method_34_code 49 = .ok (.iadd, 1) := by decide +kernel
theorem d_Mo_free_50 : decode prog_12_method_34_code 50 = .ok (.iaload, 1) := by decide +kernel
theorem d_Mo_free_51 : decode prog_12_method_34_code 51 = .ok (.iload_n 2, 1) := by decide +kernel
theorem d_Mo_free_52 : decode prog_12_method_34_code 52 = .ok (.if_icmp .ne 7, 3) := by decide +kernel
theorem d_Mo_free_55 : decode prog_12_method_34_code 55 = .ok (.iconst 1, 1) := by decide +kernel
theorem d_Mo_free_56 : decode prog_12_method_34_code 56 = .ok (.goto 4, 3) := by decide +kernel
theorem d_Mo_free_59 : decode prog_12_method_34_code 59 = .ok (.iconst 0, 1) := by decide +kernel
theorem d_Mo_free_60 : decode prog_12_method_34_code 60 = .ok (.istore_n 3, 1) := by decide +kernel
theorem d_Mo_free_61 : decode prog_12_method_34_code 61 = .ok (.iinc 4 1, 3) := by decide +kernel
theorem d_Mo_free_64 : decode prog_12_method_34_code 64 = .ok (.goto (-51), 3) := by decide +kernel
theorem d_Mo_free_67 : decode prog_12_method_34_code 67 = .ok (.iload_n 2, 1) := by decide +kernel
theorem d_Mo_free_68 : decode prog_12_method_34_code 68 = .ok (.iload_n 3, 1) := by decide +kernel
theorem d_Mo_free_69 : decode prog_12_method_34_code 69 = .ok (.ifCond .eq 7, 3) := by decide +kernel
theorem d_Mo_free_72 : decode prog_12_method_34_code 72 = .ok (.iconst 1, 1) := by decide +kernel
theorem d_Mo_free_73 : decode prog_12_method_34_code 73 = .ok (.goto 4, 3) := by decide +kernel
theorem d_Mo_free_76 : decode prog_12_method_34_code 76 = .ok (.iconst 0, 1) := by decide +kernel
theorem d_Mo_free_77 : decode prog_12_method_34_code 77 = .ok (.iadd, 1) := by decide +kernel
theorem d_Mo_free_78 : decode prog_12_method_34_code 78 = .ok (.istore_n 2, 1) := by decide +kernel
theorem d_Mo_free_79 : decode prog_12_method_34_code 79 = .ok (.goto (-75), 3) := by decide +kernel
theorem d_Mo_free_82 : decode prog_12_method_34_code 82 = .ok (.iload_n 2, 1) := by decide +kernel
theorem d_Mo_free_83 : decode prog_12_method_34_code 83 = .ok (.ireturn, 1) := by decide +kernel
def B_Mo_free_77 (k4 : Nat → Int32 → Int32 → Int32 → gS → Option (Int32 × gS)) (x0 : Nat) (x1 : Int32) (x3 : Int32) (t0 : Int32) (t1 : Int32) (S : gS) : Option (Int32 × gS) := k4 x0 x1 (t1 + t0) x3 S
set_option maxRecDepth 100000 in
set_option maxHeartbeats 4000000 in
theorem w_Mo_free_77 {D : va_G} {cT : Nat → ClassId} {H0 : Heap} {l : Launch} {p : Program} {e : Env} {s : State} {m : MethodId} {args : Array Value} {below : List Frame} {meth : Method} {c : Code} {S0 : gS} {S' : gS} {r : Int32} (Y : gY D cT H0 p s m args meth c prog_12_method_34_code 5 "PlanTextModel" 0 0 S0 (Option.some Jvm.ClassFile.FieldType.int)) {k4 : Nat → Int32 → Int32 → Int32 → gS → Option (Int32 × gS)} (hk4 : ∀ (x0 : Nat) (x1 : Int32) (x2 : Int32) (x3 : Int32) (S : gS) (ls : Array Slot), k4 x0 x1 x2 x3 S = some (r, S') → lv_has ls 5 [(0, va_rf (some x0)), (1, .int x1), (2, .int x2), (3, .int x3)] → gV D cT H0 p l e (gRm 0 0 S0) s m args below meth c (gQ D cT H0 below S0 S' (.inr (some (.int r))) s) S0 S (F0 m 4 ls [])) (x0 : Nat) (x1 : Int32) (x3 : Int32) (t0 : Int32) (t1 : Int32) (S : gS) (hden : B_Mo_free_77 k4 x0 x1 x3 t0 t1 S = some (r, S')) {ls : Array Slot} (hl : lv_has ls 5 [(0, va_rf (some x0)), (1, .int x1), (3, .int x3)]) : gV D cT H0 p l e (gRm 0 0 S0) s m args below meth c (gQ D cT H0 below S0 S' (.inr (some (.int r))) s) S0 S (F0 m 77 ls [.int t0, .int t1]) := by
  obtain ⟨X, hZ, hex, hr, hE⟩ := id Y
  have hx := X.1
  have hb := X.2.1
  unfold B_Mo_free_77 at hden
  refine gV.lift (fun _ _ _ _ => lv_iadd hx hb d_Mo_free_77) ?_
  refine gV.liftS (nL := 5) (lv' := [(2, .int (t1 + t0)), (0, va_rf (some x0)), (1, .int x1), (3, .int x3)]) (fun _ _ _ _ => lv_istore_n hx hb d_Mo_free_78 rfl hl (by decide) rfl) (fun ls hl => ?_)
  refine gV.lift (fun _ _ _ _ => lv_goto (tgt := 4) hx hb d_Mo_free_79 (by decide)) ?_
  exact hk4 x0 x1 (t1 + t0) x3 S _ hden (lv_sub hl [1, 2, 0, 3] rfl)
def B_Mo_free_60 (k4 : Nat → Int32 → Int32 → Int32 → gS → Option (Int32 × gS)) (k13 : Nat → Int32 → Int32 → Int32 → Int32 → gS → Option (Int32 × gS)) (x0 : Nat) (x1 : Int32) (x2 : Int32) (x4 : Int32) (t0 : Int32) (S : gS) : Option (Int32 × gS) := k13 x0 x1 x2 t0 (x4 + 1) S
set_option maxRecDepth 100000 in
set_option maxHeartbeats 4000000 in
theorem w_Mo_free_60 {D : va_G} {cT : Nat → ClassId} {H0 : Heap} {l : Launch} {p : Program} {e : Env} {s : State} {m : MethodId} {args : Array Value} {below : List Frame} {meth : Method} {c : Code} {S0 : gS} {S' : gS} {r : Int32} (Y : gY D cT H0 p s m args meth c prog_12_method_34_code 5 "PlanTextModel" 0 0 S0 (Option.some Jvm.ClassFile.FieldType.int)) {k4 : Nat → Int32 → Int32 → Int32 → gS → Option (Int32 × gS)} {k13 : Nat → Int32 → Int32 → Int32 → Int32 → gS → Option (Int32 × gS)} (hk4 : ∀ (x0 : Nat) (x1 : Int32) (x2 : Int32) (x3 : Int32) (S : gS) (ls : Array Slot), k4 x0 x1 x2 x3 S = some (r, S') → lv_has ls 5 [(0, va_rf (some x0)), (1, .int x1), (2, .int x2), (3, .int x3)] → gV D cT H0 p l e (gRm 0 0 S0) s m args below meth c (gQ D cT H0 below S0 S' (.inr (some (.int r))) s) S0 S (F0 m 4 ls [])) (hk13 : ∀ (x0 : Nat) (x1 : Int32) (x2 : Int32) (x3 : Int32) (x4 : Int32) (S : gS) (ls : Array Slot), k13 x0 x1 x2 x3 x4 S = some (r, S') → lv_has ls 5 [(0, va_rf (some x0)), (1, .int x1), (2, .int x2), (3, .int x3), (4, .int x4)] → gV D cT H0 p l e (gRm 0 0 S0) s m args below meth c (gQ D cT H0 below S0 S' (.inr (some (.int r))) s) S0 S (F0 m 13 ls [])) (x0 : Nat) (x1 : Int32) (x2 : Int32) (x4 : Int32) (t0 : Int32) (S : gS) (hden : B_Mo_free_60 k4 k13 x0 x1 x2 x4 t0 S = some (r, S')) {ls : Array Slot} (hl : lv_has ls 5 [(0, va_rf (some x0)), (1, .int x1), (2, .int x2), (4, .int x4)]) : gV D cT H0 p l e (gRm 0 0 S0) s m args below meth c (gQ D cT H0 below S0 S' (.inr (some (.int r))) s) S0 S (F0 m 60 ls [.int t0]) := by
  obtain ⟨X, hZ, hex, hr, hE⟩ := id Y
  have hx := X.1
  have hb := X.2.1
  unfold B_Mo_free_60 at hden
  refine gV.liftS (nL := 5) (lv' := [(3, .int t0), (0, va_rf (some x0)), (1, .int x1), (2, .int x2), (4, .int x4)]) (fun _ _ _ _ => lv_istore_n hx hb d_Mo_free_60 rfl hl (by decide) rfl) (fun ls hl => ?_)
  refine gV.liftS (nL := 5) (lv' := [(4, .int (x4 + 1)), (3, .int t0), (0, va_rf (some x0)), (1, .int x1), (2, .int x2)]) (fun _ _ _ _ => lv_iinc (v := (x4 + 1)) hx hb d_Mo_free_61 hl (k := 4) rfl rfl (by decide) rfl) (fun ls hl => ?_)
  refine gV.lift (fun _ _ _ _ => lv_goto (tgt := 13) hx hb d_Mo_free_64 (by decide)) ?_
  exact hk13 x0 x1 x2 t0 (x4 + 1) S _ hden (lv_sub hl [2, 3, 4, 1, 0] rfl)
def B_Mo_free_59 (k4 : Nat → Int32 → Int32 → Int32 → gS → Option (Int32 × gS)) (k13 : Nat → Int32 → Int32 → Int32 → Int32 → gS → Option (Int32 × gS)) (x0 : Nat) (x1 : Int32) (x2 : Int32) (x4 : Int32) (S : gS) : Option (Int32 × gS) := B_Mo_free_60 k4 k13 x0 x1 x2 x4 0 S
set_option maxRecDepth 100000 in
set_option maxHeartbeats 4000000 in
theorem w_Mo_free_59 {D : va_G} {cT : Nat → ClassId} {H0 : Heap} {l : Launch} {p : Program} {e : Env} {s : State} {m : MethodId} {args : Array Value} {below : List Frame} {meth : Method} {c : Code} {S0 : gS} {S' : gS} {r : Int32} (Y : gY D cT H0 p s m args meth c prog_12_method_34_code 5 "PlanTextModel" 0 0 S0 (Option.some Jvm.ClassFile.FieldType.int)) {k4 : Nat → Int32 → Int32 → Int32 → gS → Option (Int32 × gS)} {k13 : Nat → Int32 → Int32 → Int32 → Int32 → gS → Option (Int32 × gS)} (hk4 : ∀ (x0 : Nat) (x1 : Int32) (x2 : Int32) (x3 : Int32) (S : gS) (ls : Array Slot), k4 x0 x1 x2 x3 S = some (r, S') → lv_has ls 5 [(0, va_rf (some x0)), (1, .int x1), (2, .int x2), (3, .int x3)] → gV D cT H0 p l e (gRm 0 0 S0) s m args below meth c (gQ D cT H0 below S0 S' (.inr (some (.int r))) s) S0 S (F0 m 4 ls [])) (hk13 : ∀ (x0 : Nat) (x1 : Int32) (x2 : Int32) (x3 : Int32) (x4 : Int32) (S : gS) (ls : Array Slot), k13 x0 x1 x2 x3 x4 S = some (r, S') → lv_has ls 5 [(0, va_rf (some x0)), (1, .int x1), (2, .int x2), (3, .int x3), (4, .int x4)] → gV D cT H0 p l e (gRm 0 0 S0) s m args below meth c (gQ D cT H0 below S0 S' (.inr (some (.int r))) s) S0 S (F0 m 13 ls [])) (x0 : Nat) (x1 : Int32) (x2 : Int32) (x4 : Int32) (S : gS) (hden : B_Mo_free_59 k4 k13 x0 x1 x2 x4 S = some (r, S')) {ls : Array Slot} (hl : lv_has ls 5 [(0, va_rf (some x0)), (1, .int x1), (2, .int x2), (4, .int x4)]) : gV D cT H0 p l e (gRm 0 0 S0) s m args below meth c (gQ D cT H0 below S0 S' (.inr (some (.int r))) s) S0 S (F0 m 59 ls []) := by
  obtain ⟨X, hZ, hex, hr, hE⟩ := id Y
  have hx := X.1
  have hb := X.2.1
  unfold B_Mo_free_59 at hden
  refine gV.lift (fun _ _ _ _ => lv_iconst (v := 0) hx hb d_Mo_free_59 (by decide)) ?_
  exact w_Mo_free_60 Y hk4 hk13 x0 x1 x2 x4 0 S hden (lv_sub hl [0, 1, 2, 3] rfl)
def B_Mo_free_55 (k4 : Nat → Int32 → Int32 → Int32 → gS → Option (Int32 × gS)) (k13 : Nat → Int32 → Int32 → Int32 → Int32 → gS → Option (Int32 × gS)) (x0 : Nat) (x1 : Int32) (x2 : Int32) (x4 : Int32) (S : gS) : Option (Int32 × gS) := B_Mo_free_60 k4 k13 x0 x1 x2 x4 1 S
set_option maxRecDepth 100000 in
set_option maxHeartbeats 4000000 in
theorem w_Mo_free_55 {D : va_G} {cT : Nat → ClassId} {H0 : Heap} {l : Launch} {p : Program} {e : Env} {s : State} {m : MethodId} {args : Array Value} {below : List Frame} {meth : Method} {c : Code} {S0 : gS} {S' : gS} {r : Int32} (Y : gY D cT H0 p s m args meth c prog_12_method_34_code 5 "PlanTextModel" 0 0 S0 (Option.some Jvm.ClassFile.FieldType.int)) {k4 : Nat → Int32 → Int32 → Int32 → gS → Option (Int32 × gS)} {k13 : Nat → Int32 → Int32 → Int32 → Int32 → gS → Option (Int32 × gS)} (hk4 : ∀ (x0 : Nat) (x1 : Int32) (x2 : Int32) (x3 : Int32) (S : gS) (ls : Array Slot), k4 x0 x1 x2 x3 S = some (r, S') → lv_has ls 5 [(0, va_rf (some x0)), (1, .int x1), (2, .int x2), (3, .int x3)] → gV D cT H0 p l e (gRm 0 0 S0) s m args below meth c (gQ D cT H0 below S0 S' (.inr (some (.int r))) s) S0 S (F0 m 4 ls [])) (hk13 : ∀ (x0 : Nat) (x1 : Int32) (x2 : Int32) (x3 : Int32) (x4 : Int32) (S : gS) (ls : Array Slot), k13 x0 x1 x2 x3 x4 S = some (r, S') → lv_has ls 5 [(0, va_rf (some x0)), (1, .int x1), (2, .int x2), (3, .int x3), (4, .int x4)] → gV D cT H0 p l e (gRm 0 0 S0) s m args below meth c (gQ D cT H0 below S0 S' (.inr (some (.int r))) s) S0 S (F0 m 13 ls [])) (x0 : Nat) (x1 : Int32) (x2 : Int32) (x4 : Int32) (S : gS) (hden : B_Mo_free_55 k4 k13 x0 x1 x2 x4 S = some (r, S')) {ls : Array Slot} (hl : lv_has ls 5 [(0, va_rf (some x0)), (1, .int x1), (2, .int x2), (4, .int x4)]) : gV D cT H0 p l e (gRm 0 0 S0) s m args below meth c (gQ D cT H0 below S0 S' (.inr (some (.int r))) s) S0 S (F0 m 55 ls []) := by
  obtain ⟨X, hZ, hex, hr, hE⟩ := id Y
  have hx := X.1
  have hb := X.2.1
  unfold B_Mo_free_55 at hden
  refine gV.lift (fun _ _ _ _ => lv_iconst (v := 1) hx hb d_Mo_free_55 (by decide)) ?_
  refine gV.lift (fun _ _ _ _ => lv_goto (tgt := 60) hx hb d_Mo_free_56 (by decide)) ?_
  exact w_Mo_free_60 Y hk4 hk13 x0 x1 x2 x4 1 S hden (lv_sub hl [0, 1, 2, 3] rfl)
def B_Mo_free_13 (k4 : Nat → Int32 → Int32 → Int32 → gS → Option (Int32 × gS)) (k13 : Nat → Int32 → Int32 → Int32 → Int32 → gS → Option (Int32 × gS)) (x0 : Nat) (x1 : Int32) (x2 : Int32) (x3 : Int32) (x4 : Int32) (S : gS) : Option (Int32 × gS) := (if 40 < x4 then (if x3 = 0 then B_Mo_free_77 k4 x0 x1 x3 0 x2 S else B_Mo_free_77 k4 x0 x1 x3 1 x2 S) else (if x3 = 0 then Option.bind (gRf S x0 10 10) (fun r4 => Option.bind r4 (fun a5 => Option.bind (gAI S a5 3 ((50 * x1) + x4)) (fun v6 => (if v6 = 0 then B_Mo_free_59 k4 k13 x0 x1 x2 x4 S else Option.bind (gRf S x0 10 12) (fun r8 => Option.bind r8 (fun a9 => Option.bind (gAI S a9 0 ((50 * x1) + x4)) (fun v10 => (if v10 = x2 then B_Mo_free_55 k4 k13 x0 x1 x2 x4 S else B_Mo_free_59 k4 k13 x0 x1 x2 x4 S)))))))) else B_Mo_free_55 k4 k13 x0 x1 x2 x4 S))
set_option maxRecDepth 100000 in
set_option maxHeartbeats 4000000 in
theorem w_Mo_free_13 {D : va_G} {cT : Nat → ClassId} {H0 : Heap} {l : Launch} {p : Program} {e : Env} {s : State} {m : MethodId} {args : Array Value} {below : List Frame} {meth : Method} {c : Code} {S0 : gS} {S' : gS} {r : Int32} (Y : gY D cT H0 p s m args meth c prog_12_method_34_code 5 "PlanTextModel" 0 0 S0 (Option.some Jvm.ClassFile.FieldType.int)) {k4 : Nat → Int32 → Int32 → Int32 → gS → Option (Int32 × gS)} {k13 : Nat → Int32 → Int32 → Int32 → Int32 → gS → Option (Int32 × gS)} (hk4 : ∀ (x0 : Nat) (x1 : Int32) (x2 : Int32) (x3 : Int32) (S : gS) (ls : Array Slot), k4 x0 x1 x2 x3 S = some (r, S') → lv_has ls 5 [(0, va_rf (some x0)), (1, .int x1), (2, .int x2), (3, .int x3)] → gV D cT H0 p l e (gRm 0 0 S0) s m args below meth c (gQ D cT H0 below S0 S' (.inr (some (.int r))) s) S0 S (F0 m 4 ls [])) (hk13 : ∀ (x0 : Nat) (x1 : Int32) (x2 : Int32) (x3 : Int32) (x4 : Int32) (S : gS) (ls : Array Slot), k13 x0 x1 x2 x3 x4 S = some (r, S') → lv_has ls 5 [(0, va_rf (some x0)), (1, .int x1), (2, .int x2), (3, .int x3), (4, .int x4)] → gV D cT H0 p l e (gRm 0 0 S0) s m args below meth c (gQ D cT H0 below S0 S' (.inr (some (.int r))) s) S0 S (F0 m 13 ls [])) (x0 : Nat) (x1 : Int32) (x2 : Int32) (x3 : Int32) (x4 : Int32) (S : gS) (hden : B_Mo_free_13 k4 k13 x0 x1 x2 x3 x4 S = some (r, S')) {ls : Array Slot} (hl : lv_has ls 5 [(0, va_rf (some x0)), (1, .int x1), (2, .int x2), (3, .int x3), (4, .int x4)]) : gV D cT H0 p l e (gRm 0 0 S0) s m args below meth c (gQ D cT H0 below S0 S' (.inr (some (.int r))) s) S0 S (F0 m 13 ls []) := by
  obtain ⟨X, hZ, hex, hr, hE⟩ := id Y
  have hx := X.1
  have hb := X.2.1
  unfold B_Mo_free_13 at hden
  refine gV.lift (fun _ _ _ _ => lv_iload hx hb d_Mo_free_13 (lv_at hl 4 rfl)) ?_
  refine gV.lift (fun _ _ _ _ => lv_bipush (v := 40) hx hb d_Mo_free_15 (by decide)) ?_
  refine gV.lift2 (fun _ _ _ _ => lv_icmp_gt (tgt := 67) hx hb d_Mo_free_17 (by decide)) (fun hc1 => ?_) (fun hc1 => ?_)
  · replace hden := gip hc1 hden
    refine gV.lift (fun _ _ _ _ => lv_iload_n hx hb d_Mo_free_67 rfl (lv_at hl 2 rfl)) ?_
    refine gV.lift (fun _ _ _ _ => lv_iload_n hx hb d_Mo_free_68 rfl (lv_at hl 3 rfl)) ?_
    refine gV.lift2 (fun _ _ _ _ => lv_if_eq (tgt := 76) hx hb d_Mo_free_69 (by decide)) (fun hc2 => ?_) (fun hc2 => ?_)
    · replace hden := gip hc2 hden
      refine gV.lift (fun _ _ _ _ => lv_iconst (v := 0) hx hb d_Mo_free_76 (by decide)) ?_
      exact w_Mo_free_77 Y hk4 x0 x1 x3 0 x2 S hden (lv_sub hl [0, 1, 3] rfl)
    · replace hden := gin hc2 hden
      refine gV.lift (fun _ _ _ _ => lv_iconst (v := 1) hx hb d_Mo_free_72 (by decide)) ?_
      refine gV.lift (fun _ _ _ _ => lv_goto (tgt := 77) hx hb d_Mo_free_73 (by decide)) ?_
      exact w_Mo_free_77 Y hk4 x0 x1 x3 1 x2 S hden (lv_sub hl [0, 1, 3] rfl)
  · replace hden := gin hc1 hden
    refine gV.lift (fun _ _ _ _ => lv_iload_n hx hb d_Mo_free_20 rfl (lv_at hl 3 rfl)) ?_
    refine gV.lift2 (fun _ _ _ _ => lv_if_ne (tgt := 55) hx hb d_Mo_free_21 (by decide)) (fun hc3 => ?_) (fun hc3 => ?_)
    · replace hden := gin hc3 hden
      exact w_Mo_free_55 Y hk4 hk13 x0 x1 x2 x4 S hden (lv_sub hl [0, 1, 2, 4] rfl)
    · replace hden := gip hc3 hden
      refine gV.lift (fun _ _ _ _ => g_aload_n hx hb d_Mo_free_24 rfl (lv_at hl 0 rfl)) ?_
      replace hden := gb hden
      obtain ⟨r4, hv, hden⟩ := hden
      refine r_getR X cl_Mo (k := 10) hv (by decide) q_775 d_Mo_free_25 ?_
      refine gV.lift (fun _ _ _ _ => lv_bipush (v := 50) hx hb d_Mo_free_28 (by decide)) ?_
      refine gV.lift (fun _ _ _ _ => lv_iload_n hx hb d_Mo_free_30 rfl (lv_at hl 1 rfl)) ?_
      refine gV.lift (fun _ _ _ _ => lv_imul hx hb d_Mo_free_31) ?_
      refine gV.lift (fun _ _ _ _ => lv_iload hx hb d_Mo_free_32 (lv_at hl 4 rfl)) ?_
      refine gV.lift (fun _ _ _ _ => lv_iadd hx hb d_Mo_free_34) ?_
      replace hden := gb hden
      obtain ⟨a5, rfl, hden⟩ := hden
      replace hden := gb hden
      obtain ⟨v6, hv, hden⟩ := hden
      refine r_zald X (t := 3) rfl hv d_Mo_free_35 ?_
      refine gV.lift2 (fun _ _ _ _ => lv_if_eq (tgt := 59) hx hb d_Mo_free_36 (by decide)) (fun hc7 => ?_) (fun hc7 => ?_)
      · replace hden := gip hc7 hden
        exact w_Mo_free_59 Y hk4 hk13 x0 x1 x2 x4 S hden (lv_sub hl [0, 1, 2, 4] rfl)
      · replace hden := gin hc7 hden
        refine gV.lift (fun _ _ _ _ => g_aload_n hx hb d_Mo_free_39 rfl (lv_at hl 0 rfl)) ?_
        replace hden := gb hden
        obtain ⟨r8, hv, hden⟩ := hden
        refine r_getR X cl_Mo (k := 12) hv (by decide) q_777 d_Mo_free_40 ?_
        refine gV.lift (fun _ _ _ _ => lv_bipush (v := 50) hx hb d_Mo_free_43 (by decide)) ?_
        refine gV.lift (fun _ _ _ _ => lv_iload_n hx hb d_Mo_free_45 rfl (lv_at hl 1 rfl)) ?_
        refine gV.lift (fun _ _ _ _ => lv_imul hx hb d_Mo_free_46) ?_
        refine gV.lift (fun _ _ _ _ => lv_iload hx hb d_Mo_free_47 (lv_at hl 4 rfl)) ?_
        refine gV.lift (fun _ _ _ _ => lv_iadd hx hb d_Mo_free_49) ?_
        replace hden := gb hden
        obtain ⟨a9, rfl, hden⟩ := hden
        replace hden := gb hden
        obtain ⟨v10, hv, hden⟩ := hden
        refine r_iald X (t := 0) rfl hv d_Mo_free_50 ?_
        refine gV.lift (fun _ _ _ _ => lv_iload_n hx hb d_Mo_free_51 rfl (lv_at hl 2 rfl)) ?_
        refine gV.lift2 (fun _ _ _ _ => lv_icmp_ne (tgt := 59) hx hb d_Mo_free_52 (by decide)) (fun hc11 => ?_) (fun hc11 => ?_)
        · replace hden := gin hc11 hden
          exact w_Mo_free_59 Y hk4 hk13 x0 x1 x2 x4 S hden (lv_sub hl [0, 1, 2, 4] rfl)
        · replace hden := gip hc11 hden
          exact w_Mo_free_55 Y hk4 hk13 x0 x1 x2 x4 S hden (lv_sub hl [0, 1, 2, 4] rfl)
def L_Mo_free_13 (k4 : Nat → Int32 → Int32 → Int32 → gS → Option (Int32 × gS)) : Nat → Nat → Int32 → Int32 → Int32 → Int32 → gS → Option (Int32 × gS)
  | 0 => fun _ _ _ _ _ _ => none
  | n + 1 => fun x0 x1 x2 x3 x4 S => B_Mo_free_13 k4 (L_Mo_free_13 k4 n) x0 x1 x2 x3 x4 S
theorem wL_Mo_free_13 {D : va_G} {cT : Nat → ClassId} {H0 : Heap} {l : Launch} {p : Program} {e : Env} {s : State} {m : MethodId} {args : Array Value} {below : List Frame} {meth : Method} {c : Code} {S0 : gS} {S' : gS} {r : Int32} (Y : gY D cT H0 p s m args meth c prog_12_method_34_code 5 "PlanTextModel" 0 0 S0 (Option.some Jvm.ClassFile.FieldType.int)) {k4 : Nat → Int32 → Int32 → Int32 → gS → Option (Int32 × gS)} (hk4 : ∀ (x0 : Nat) (x1 : Int32) (x2 : Int32) (x3 : Int32) (S : gS) (ls : Array Slot), k4 x0 x1 x2 x3 S = some (r, S') → lv_has ls 5 [(0, va_rf (some x0)), (1, .int x1), (2, .int x2), (3, .int x3)] → gV D cT H0 p l e (gRm 0 0 S0) s m args below meth c (gQ D cT H0 below S0 S' (.inr (some (.int r))) s) S0 S (F0 m 4 ls [])) : ∀ (n : Nat) (x0 : Nat) (x1 : Int32) (x2 : Int32) (x3 : Int32) (x4 : Int32) (S : gS) (ls : Array Slot), L_Mo_free_13 k4 n x0 x1 x2 x3 x4 S = some (r, S') → lv_has ls 5 [(0, va_rf (some x0)), (1, .int x1), (2, .int x2), (3, .int x3), (4, .int x4)] → gV D cT H0 p l e (gRm 0 0 S0) s m args below meth c (gQ D cT H0 below S0 S' (.inr (some (.int r))) s) S0 S (F0 m 13 ls []) := by
  intro n
  induction n with
  | zero => intro x0 x1 x2 x3 x4 S ls h hl; cases h
  | succ n ih => intro x0 x1 x2 x3 x4 S ls h hl; exact w_Mo_free_13 Y hk4 ih x0 x1 x2 x3 x4 S h hl
def B_Mo_free_4 (k4 : Nat → Int32 → Int32 → Int32 → gS → Option (Int32 × gS)) (x0 : Nat) (x1 : Int32) (x2 : Int32) (x3 : Int32) (S : gS) : Option (Int32 × gS) := (if x3 = 0 then some (x2, S) else L_Mo_free_13 k4 gF x0 x1 x2 0 1 S)
set_option maxRecDepth 100000 in
set_option maxHeartbeats 4000000 in
theorem w_Mo_free_4 {D : va_G} {cT : Nat → ClassId} {H0 : Heap} {l : Launch} {p : Program} {e : Env} {s : State} {m : MethodId} {args : Array Value} {below : List Frame} {meth : Method} {c : Code} {S0 : gS} {S' : gS} {r : Int32} (Y : gY D cT H0 p s m args meth c prog_12_method_34_code 5 "PlanTextModel" 0 0 S0 (Option.some Jvm.ClassFile.FieldType.int)) {k4 : Nat → Int32 → Int32 → Int32 → gS → Option (Int32 × gS)} (hk4 : ∀ (x0 : Nat) (x1 : Int32) (x2 : Int32) (x3 : Int32) (S : gS) (ls : Array Slot), k4 x0 x1 x2 x3 S = some (r, S') → lv_has ls 5 [(0, va_rf (some x0)), (1, .int x1), (2, .int x2), (3, .int x3)] → gV D cT H0 p l e (gRm 0 0 S0) s m args below meth c (gQ D cT H0 below S0 S' (.inr (some (.int r))) s) S0 S (F0 m 4 ls [])) (x0 : Nat) (x1 : Int32) (x2 : Int32) (x3 : Int32) (S : gS) (hden : B_Mo_free_4 k4 x0 x1 x2 x3 S = some (r, S')) {ls : Array Slot} (hl : lv_has ls 5 [(0, va_rf (some x0)), (1, .int x1), (2, .int x2), (3, .int x3)]) : gV D cT H0 p l e (gRm 0 0 S0) s m args below meth c (gQ D cT H0 below S0 S' (.inr (some (.int r))) s) S0 S (F0 m 4 ls []) := by
  obtain ⟨X, hZ, hex, hr, hE⟩ := id Y
  have hx := X.1
  have hb := X.2.1
  unfold B_Mo_free_4 at hden
  refine gV.lift (fun _ _ _ _ => lv_iload_n hx hb d_Mo_free_4 rfl (lv_at hl 3 rfl)) ?_
  refine gV.lift2 (fun _ _ _ _ => lv_if_eq (tgt := 82) hx hb d_Mo_free_5 (by decide)) (fun hc1 => ?_) (fun hc1 => ?_)
  · replace hden := gip hc1 hden
    refine gV.lift (fun _ _ _ _ => lv_iload_n hx hb d_Mo_free_82 rfl (lv_at hl 2 rfl)) ?_
    obtain ⟨rfl, rfl⟩ := gpi hden
    exact g_iret X hr d_Mo_free_83
  · replace hden := gin hc1 hden
    refine gV.lift (fun _ _ _ _ => lv_iconst (v := 0) hx hb d_Mo_free_8 (by decide)) ?_
    refine gV.liftS (nL := 5) (lv' := [(3, .int 0), (0, va_rf (some x0)), (1, .int x1), (2, .int x2)]) (fun _ _ _ _ => lv_istore_n hx hb d_Mo_free_9 rfl hl (by decide) rfl) (fun ls hl => ?_)
    refine gV.lift (fun _ _ _ _ => lv_iconst (v := 1) hx hb d_Mo_free_10 (by decide)) ?_
    refine gV.liftS (nL := 5) (lv' := [(4, .int 1), (3, .int 0), (0, va_rf (some x0)), (1, .int x1), (2, .int x2)]) (fun _ _ _ _ => lv_istore hx hb d_Mo_free_11 hl (by decide) rfl) (fun ls hl => ?_)
    exact wL_Mo_free_13 Y hk4 gF x0 x1 x2 0 1 S _ hden (lv_sub hl [2, 3, 4, 1, 0] rfl)
def L_Mo_free_4  : Nat → Nat → Int32 → Int32 → Int32 → gS → Option (Int32 × gS)
  | 0 => fun _ _ _ _ _ => none
  | n + 1 => fun x0 x1 x2 x3 S => B_Mo_free_4  (L_Mo_free_4  n) x0 x1 x2 x3 S
theorem wL_Mo_free_4 {D : va_G} {cT : Nat → ClassId} {H0 : Heap} {l : Launch} {p : Program} {e : Env} {s : State} {m : MethodId} {args : Array Value} {below : List Frame} {meth : Method} {c : Code} {S0 : gS} {S' : gS} {r : Int32} (Y : gY D cT H0 p s m args meth c prog_12_method_34_code 5 "PlanTextModel" 0 0 S0 (Option.some Jvm.ClassFile.FieldType.int))  : ∀ (n : Nat) (x0 : Nat) (x1 : Int32) (x2 : Int32) (x3 : Int32) (S : gS) (ls : Array Slot), L_Mo_free_4  n x0 x1 x2 x3 S = some (r, S') → lv_has ls 5 [(0, va_rf (some x0)), (1, .int x1), (2, .int x2), (3, .int x3)] → gV D cT H0 p l e (gRm 0 0 S0) s m args below meth c (gQ D cT H0 below S0 S' (.inr (some (.int r))) s) S0 S (F0 m 4 ls []) := by
  intro n
  induction n with
  | zero => intro x0 x1 x2 x3 S ls h hl; cases h
  | succ n ih => intro x0 x1 x2 x3 S ls h hl; exact w_Mo_free_4 Y ih x0 x1 x2 x3 S h hl
def D_Mo_free (h0 : Nat) (p0 : Int32) (S : gS) : Option (Int32 × gS) := L_Mo_free_4  gF h0 p0 1 1 S
set_option maxRecDepth 100000 in
set_option maxHeartbeats 4000000 in
theorem c_Mo_free {D : va_G} {cT : Nat → ClassId} {H0 : Heap} {l : Launch} {S : gS} {S' : gS} {h0 : Nat} {p0 : Int32} {r : Int32} (hden : D_Mo_free h0 p0 S = some (r, S')) : gM D cT H0 l y_Mo_free (Cond.code y_Mo_free prog_12_method_34_code 5 (Option.some Jvm.ClassFile.FieldType.int)) 0 0 [va_rf (some h0), .int p0] S S' (.inr (some (.int r))) := by
  refine gM.ofV (by decide) ?_
  intro p e s m args below meth c s₁ B hml ea X hZ hex hr hE
  subst ea
  have Y : gY D cT H0 p s m _ meth c prog_12_method_34_code 5 "PlanTextModel" 0 0 S (Option.some Jvm.ClassFile.FieldType.int) := ⟨X, hZ, hex, hr, hE⟩
  have hx := X.1
  have hb := X.2.1
  have hl := lv_entry ([va_rf (some h0), .int p0]) (n := 5) (Nat.le_of_ble_eq_true rfl)
  rw [lg_entry_eq]
  generalize (lg_sl ([va_rf (some h0), .int p0]) ++ List.replicate (5 - (lg_sl ([va_rf (some h0), .int p0])).length) Slot.unset).toArray = ls at hl ⊢
  have hl : lv_has ls 5 [(0, va_rf (some h0)), (1, .int p0)] := hl
  unfold D_Mo_free at hden
  refine gV.lift (fun _ _ _ _ => lv_iconst (v := 1) hx hb d_Mo_free_0 (by decide)) ?_
  refine gV.liftS (nL := 5) (lv' := [(2, .int 1), (0, va_rf (some h0)), (1, .int p0)]) (fun _ _ _ _ => lv_istore_n hx hb d_Mo_free_1 rfl hl (by decide) rfl) (fun ls hl => ?_)
  refine gV.lift (fun _ _ _ _ => lv_iconst (v := 1) hx hb d_Mo_free_2 (by decide)) ?_
  refine gV.liftS (nL := 5) (lv' := [(3, .int 1), (2, .int 1), (0, va_rf (some h0)), (1, .int p0)]) (fun _ _ _ _ => lv_istore_n hx hb d_Mo_free_3 rfl hl (by decide) rfl) (fun ls hl => ?_)
  exact wL_Mo_free_4 Y  gF h0 p0 1 1 S _ hden (lv_sub hl [2, 3, 1, 0] rfl)
/-! PlanTextModel.isMet(II)Z -/
abbrev y_Mo_isMet : MethodName := ⟨"PlanTextModel", "isMet", "(II)Z"⟩
theorem d_Mo_isMet_0 : decode prog_12_method_35_code 0 = .ok (.bipush 50, 2) := by decide +kernel
theorem d_Mo_isMet_2 : decode prog_12_method_35_code 2 = .ok (.iload_n 1, 1) := by decide +kernel
theorem d_Mo_isMet_3 : decode prog_12_method_35_code 3 = .ok (.imul, 1) := by decide +kernel
theorem d_Mo_isMet_4 : decode prog_12_method_35_code 4 = .ok (.iload_n 2, 1) := by decide +kernel
theorem d_Mo_isMet_5 : decode prog_12_method_35_code 5 = .ok (.iadd, 1) := by decide +kernel
theorem d_Mo_isMet_6 : decode prog_12_method_35_code 6 = .ok (.istore_n 3, 1) := by decide +kernel
theorem d_Mo_isMet_7 : decode prog_12_method_35_code 7 = .ok (.aload_n 0, 1) := by decide +kernel
theorem d_Mo_isMet_8 : decode prog_12_method_35_code 8 = .ok (.getfield 27, 3) := by decide +kernel
theorem d_Mo_isMet_11 : decode prog_12_method_35_code 11 = .ok (.iload_n 3, 1) := by decide +kernel
theorem d_Mo_isMet_12 : decode prog_12_method_35_code 12 = .ok (.iaload, 1) := by decide +kernel
theorem d_Mo_isMet_13 : decode prog_12_method_35_code 13 = .ok (.ifCond .le 12, 3) := by decide +kernel
theorem d_Mo_isMet_16 : decode prog_12_method_35_code 16 = .ok (.aload_n 0, 1) := by decide +kernel
theorem d_Mo_isMet_17 : decode prog_12_method_35_code 17 = .ok (.getfield 27, 3) := by decide +kernel
theorem d_Mo_isMet_20 : decode prog_12_method_35_code 20 = .ok (.iload_n 3, 1) := by decide +kernel
theorem d_Mo_isMet_21 : decode prog_12_method_35_code 21 = .ok (.iaload, 1) := by decide +kernel
theorem d_Mo_isMet_22 : decode prog_12_method_35_code 22 = .ok (.goto 8, 3) := by decide +kernel
theorem d_Mo_isMet_25 : decode prog_12_method_35_code 25 = .ok (.aload_n 0, 1) := by decide +kernel
theorem d_Mo_isMet_26 : decode prog_12_method_35_code 26 = .ok (.iload_n 1, 1) := by decide +kernel
theorem d_Mo_isMet_27 : decode prog_12_method_35_code 27 = .ok (.invokevirtual 167, 3) := by decide +kernel
theorem d_Mo_isMet_30 : decode prog_12_method_35_code 30 = .ok (.istore 4, 2) := by decide +kernel
theorem d_Mo_isMet_32 : decode prog_12_method_35_code 32 = .ok (.iconst 0, 1) := by decide +kernel
theorem d_Mo_isMet_33 : decode prog_12_method_35_code 33 = .ok (.istore 5, 2) := by decide +kernel
theorem d_Mo_isMet_35 : decode prog_12_method_35_code 35 = .ok (.iload 5, 2) := by decide +kernel
theorem d_Mo_isMet_37 : decode prog_12_method_35_code 37 = .ok (.bipush 24, 2) := by decide +kernel
theorem d_Mo_isMet_39 : decode prog_12_method_35_code 39 = .ok (.if_icmp .ge 150, 3) := by decide +kernel
theorem d_Mo_isMet_42 : decode prog_12_method_35_code 42 = .ok (.iconst 0, 1) := by decide +kernel
theorem d_Mo_isMet_43 : decode prog_12_method_35_code 43 = .ok (.istore 6, 2) := by decide +kernel
theorem d_Mo_isMet_45 : decode prog_12_method_35_code 45 = .ok (.iload 6, 2) := by decide +kernel
theorem d_Mo_isMet_47 : decode prog_12_method_35_code 47 = .ok (.bipush 40, 2) := by decide +kernel
theorem d_Mo_isMet_49 : decode prog_12_method_35_code 49 = .ok (.if_icmp .gt 134, 3) := by decide +kernel
theorem d_Mo_isMet_52 : decode prog_12_method_35_code 52 = .ok (.bipush 50, 2) := by decide +kernel
theorem d_Mo_isMet_54 : decode prog_12_method_35_code 54 = .ok (.iload_n 1, 1) := by decide +kernel
theorem d_Mo_isMet_55 : decode prog_12_method_35_code 55 = .ok (.imul, 1) := by decide +kernel
theorem d_Mo_isMet_56 : decode prog_12_method_35_code 56 = .ok (.iload 6, 2) := by decide +kernel
theorem d_Mo_isMet_58 : decode prog_12_method_35_code 58 = .ok (.iadd, 1) := by decide +kernel
theorem d_Mo_isMet_59 : decode prog_12_method_35_code 59 = .ok (.istore 7, 2) := by decide +kernel
theorem d_Mo_isMet_61 : decode prog_12_method_35_code 61 = .ok (.iload 6, 2) := by decide +kernel
theorem d_Mo_isMet_63 : decode prog_12_method_35_code 63 = .ok (.ifCond .le 29, 3) := by decide +kernel
theorem d_Mo_isMet_66 : decode prog_12_method_35_code 66 = .ok (.aload_n 0, 1) := by decide +kernel
theorem d_Mo_isMet_67 : decode prog_12_method_35_code 67 = .ok (.getfield 20, 3) := by decide +kernel
theorem d_Mo_isMet_70 : decode prog_12_method_35_code 70 = .ok (.iload 7, 2) := by decide +kernel
theorem d_Mo_isMet_72 : decode prog_12_method_35_code 72 = .ok (.baload, 1) := by decide +kernel
theorem d_Mo_isMet_73 : decode prog_12_method_35_code 73 = .ok (.ifCond .eq 19, 3) := by decide +kernel
theorem d_Mo_isMet_76 : decode prog_12_method_35_code 76 = .ok (.aload_n 0, 1) := by decide +kernel
theorem d_Mo_isMet_77 : decode prog_12_method_35_code 77 = .ok (.getfield 27, 3) := by decide +kernel
theorem d_Mo_isMet_80 : decode prog_12_method_35_code 80 = .ok (.iload 7, 2) := by decide +kernel
theorem d_Mo_isMet_82 : decode prog_12_method_35_code 82 = .ok (.iaload, 1) := by decide +kernel
theorem d_Mo_isMet_83 : decode prog_12_method_35_code 83 = .ok (.iload 4, 2) := by decide +kernel
theorem d_Mo_isMet_85 : decode prog_12_method_35_code 85 = .ok (.if_icmp .ne 7, 3) := by decide +kernel
theorem d_Mo_isMet_88 : decode prog_12_method_35_code 88 = .ok (.iconst 1, 1) := by decide +kernel
theorem d_Mo_isMet_89 : decode prog_12_method_35_code 89 = .ok (.goto 4, 3) := by decide +kernel
theorem d_Mo_isMet_92 : decode prog_12_method_35_code 92 = .ok (.iconst 0, 1) := by decide +kernel
theorem d_Mo_isMet_93 : decode prog_12_method_35_code 93 = .ok (.istore 8, 2) := by decide +kernel
theorem d_Mo_isMet_95 : decode prog_12_method_35_code 95 = .ok (.iload 6, 2) := by decide +kernel
theorem d_Mo_isMet_97 : decode prog_12_method_35_code 97 = .ok (.ifCond .ne 25, 3) := by decide +kernel
theorem d_Mo_isMet_100 : decode prog_12_method_35_code 100 = .ok (.aload_n 0, 1) := by decide +kernel
theorem d_Mo_isMet_101 : decode prog_12_method_35_code 101 = .ok (.getfield 27, 3) := by decide +kernel
theorem d_Mo_isMet_104 : decode prog_12_method_35_code 104 = .ok (.iload_n 3, 1) := by decide +kernel
theorem d_Mo_isMet_105 : decode prog_12_method_35_code 105 = .ok (.iaload, 1) := by decide +kernel
theorem d_Mo_isMet_106 : decode prog_12_method_35_code 106 = .ok (.ifCond .le 12, 3) := by decide +kernel
theorem d_Mo_isMet_109 : decode prog_12_method_35_code 109 = .ok (.aload_n 0, 1) := by decide +kernel
theorem d_Mo_isMet_110 : decode prog_12_method_35_code 110 = .ok (.getfield 30, 3) := by decide +kernel
theorem d_Mo_isMet_113 : decode prog_12_method_35_code 113 = .ok (.iload_n 3, 1) := by decide +kernel
theorem d_Mo_isMet_114 : decode prog_12_method_35_code 114 = .ok (.iaload, 1) := by decide +kernel
theorem d_Mo_isMet_115 : decode prog_12_method_35_code 115 = .ok (.goto 25, 3) := by decide +kernel
theorem d_Mo_isMet_118 : decode prog_12_method_35_code 118 = .ok (.iconst 1, 1) := by decide +kernel
theorem d_Mo_isMet_119 : decode prog_12_method_35_code 119 = .ok (.goto 21, 3) := by decide +kernel
theorem d_Mo_isMet_122 : decode prog_12_method_35_code 122 = .ok (.iload 8, 2) := by decide +kernel
theorem d_Mo_isMet_124 : decode prog_12_method_35_code 124 = .ok (.ifCond .eq 15, 3) := by decide +kernel
theorem d_Mo_isMet_127 : decode prog_12_method_35_code 127 = .ok (.aload_n 0, 1) := by decide +kernel
theorem d_Mo_isMet_128 : decode prog_12_method_35_code 128 = .ok (.getfield 33, 3) := by decide +kernel
theorem d_Mo_isMet_131 : decode prog_12_method_35_code 131 = .ok (.iload 7, 2) := by decide +kernel
theorem d_Mo_isMet_133 : decode prog_12_method_35_code 133 = .ok (.iaload, 1) := by decide +kernel
theorem d_Mo_isMet_134 : decode prog_12_method_35_code 134 = .ok (.iconst 1, 1) := by decide +kernel
theorem d_Mo_isMet_135 : decode prog_12_method_35_code 135 = .ok (.iadd, 1) := by decide +kernel
theorem d_Mo_isMet_136 : decode prog_12_method_35_code 136 = .ok (.goto 4, 3) := by decide +kernel
theorem d_Mo_isMet_139 : decode prog_12_method_35_code 139 = .ok (.iconst 0, 1) := by decide +kernel
theorem d_Mo_isMet_140 : decode prog_12_method_35_code 140 = .ok (.istore 9, 2) := by decide +kernel
theorem d_Mo_isMet_142 : decode prog_12_method_35_code 142 = .ok (.iload 9, 2) := by decide +kernel
theorem d_Mo_isMet_144 : decode prog_12_method_35_code 144 = .ok (.iconst 1, 1) := by decide +kernel
theorem d_Mo_isMet_145 : decode prog_12_method_35_code 145 = .ok (.sipush 999, 3) := by decide +kernel
theorem d_Mo_isMet_148 : decode prog_12_method_35_code 148 = .ok (.invokestatic 72, 3) := by decide +kernel
theorem d_Mo_isMet_151 : decode prog_12_method_35_code 151 = .ok (.ifCond .eq 26, 3) := by decide +kernel
theorem d_Mo_isMet_154 : decode prog_12_method_35_code 154 = .ok (.aload_n 0, 1) := by decide +kernel
theorem d_Mo_isMet_155 : decode prog_12_method_35_code 155 = .ok (.iload_n 1, 1) := by decide +kernel
theorem d_Mo_isMet_156 : decode prog_12_method_35_code 156 = .ok (.aload_n 0, 1) := by decide +kernel
theorem d_Mo_isMet_157 : decode prog_12_method_35_code 157 = .ok (.getfield 24, 3) := by decide +kernel
theorem d_Mo_isMet_160 : decode prog_12_method_35_code 160 = .ok (.iload_n 3, 1) := by decide +kernel
theorem d_Mo_isMet_161 : decode prog_12_method_35_code 161 = .ok (.iaload, 1) := by decide +kernel
theorem d_Mo_isMet_162 : decode prog_12_method_35_code 162 = .ok (.iload 4, 2) := by decide +kernel
theorem d_Mo_isMet_164 : decode prog_12_method_35_code 164 = .ok (.iload 9, 2) := by decide +kernel
theorem d_Mo_isMet_166 : decode prog_12_method_35_code 166 = .ok (.iload 5, 2) := by decide +kernel
theorem d_Mo_isMet_168 : decode prog_12_method_35_code 168 = .ok (.invokevirtual 159, 3) := by decide +kernel
theorem d_Mo_isMet_171 : decode prog_12_method_35_code 171 = .ok (.iload_n 3, 1) := by decide +kernel
theorem d_Mo_isMet_172 : decode prog_12_method_35_code 172 = .ok (.if_icmp .ne 5, 3) := by decide +kernel
theorem d_Mo_isMet_175 : decode prog_12_method_35_code 175 = .ok (.iconst 1, 1) := by decide +kernel
theorem d_Mo_isMet_176 : decode prog_12_method_35_code 176 = .ok (.ireturn, 1) := by decide +kernel
theorem d_Mo_isMet_177 : decode prog_12_method_35_code 177 = .ok (.iinc 6 1, 3) := by decide +kernel
theorem d_Mo_isMet_180 : decode prog_12_method_35_code 180 = .ok (.goto (-135), 3) := by decide +kernel
theorem d_Mo_isMet_183 : decode prog_12_method_35_code 183 = .ok (.iinc 5 1, 3) := by decide +kernel
theorem d_Mo_isMet_186 : decode prog_12_method_35_code 186 = .ok (.goto (-151), 3) := by decide +kernel
theorem d_Mo_isMet_189 : decode prog_12_method_35_code 189 = .ok (.iconst 0, 1) := by decide +kernel
theorem d_Mo_isMet_190 : decode prog_12_method_35_code 190 = .ok (.ireturn, 1) := by decide +kernel
def B_Mo_isMet_177 (k35 : Nat → Int32 → Int32 → Int32 → Int32 → gS → Option (Int32 × gS)) (k45 : Nat → Int32 → Int32 → Int32 → Int32 → Int32 → gS → Option (Int32 × gS)) (x0 : Nat) (x1 : Int32) (x3 : Int32) (x4 : Int32) (x5 : Int32) (x6 : Int32) (S : gS) : Option (Int32 × gS) := k45 x0 x1 x3 x4 x5 (x6 + 1) S
set_option maxRecDepth 100000 in
set_option maxHeartbeats 4000000 in
theorem w_Mo_isMet_177 {D : va_G} {cT : Nat → ClassId} {H0 : Heap} {l : Launch} {p : Program} {e : Env} {s : State} {m : MethodId} {args : Array Value} {below : List Frame} {meth : Method} {c : Code} {S0 : gS} {S' : gS} {r : Int32} (Y : gY D cT H0 p s m args meth c prog_12_method_35_code 10 "PlanTextModel" 3 76 S0 (Option.some Jvm.ClassFile.FieldType.boolean)) {k35 : Nat → Int32 → Int32 → Int32 → Int32 → gS → Option (Int32 × gS)} {k45 : Nat → Int32 → Int32 → Int32 → Int32 → Int32 → gS → Option (Int32 × gS)} (hk35 : ∀ (x0 : Nat) (x1 : Int32) (x3 : Int32) (x4 : Int32) (x5 : Int32) (S : gS) (ls : Array Slot), k35 x0 x1 x3 x4 x5 S = some (r, S') → lv_has ls 10 [(0, va_rf (some x0)), (1, .int x1), (3, .int x3), (4, .int x4), (5, .int x5)] → gV D cT H0 p l e (gRm 3 76 S0) s m args below meth c (gQ D cT H0 below S0 S' (.inr (some (.int r))) s) S0 S (F0 m 35 ls [])) (hk45 : ∀ (x0 : Nat) (x1 : Int32) (x3 : Int32) (x4 : Int32) (x5 : Int32) (x6 : Int32) (S : gS) (ls : Array Slot), k45 x0 x1 x3 x4 x5 x6 S = some (r, S') → lv_has ls 10 [(0, va_rf (some x0)), (1, .int x1), (3, .int x3), (4, .int x4), (5, .int x5), (6, .int x6)] → gV D cT H0 p l e (gRm 3 76 S0) s m args below meth c (gQ D cT H0 below S0 S' (.inr (some (.int r))) s) S0 S (F0 m 45 ls [])) (x0 : Nat) (x1 : Int32) (x3 : Int32) (x4 : Int32) (x5 : Int32) (x6 : Int32) (S : gS) (hden : B_Mo_isMet_177 k35 k45 x0 x1 x3 x4 x5 x6 S = some (r, S')) {ls : Array Slot} (hl : lv_has ls 10 [(0, va_rf (some x0)), (1, .int x1), (3, .int x3), (4, .int x4), (5, .int x5), (6, .int x6)]) : gV D cT H0 p l e (gRm 3 76 S0) s m args below meth c (gQ D cT H0 below S0 S' (.inr (some (.int r))) s) S0 S (F0 m 177 ls []) := by
  obtain ⟨X, hZ, hex, hr, hE⟩ := id Y
  have hx := X.1
  have hb := X.2.1
  unfold B_Mo_isMet_177 at hden
  refine gV.liftS (nL := 10) (lv' := [(6, .int (x6 + 1)), (0, va_rf (some x0)), (1, .int x1), (3, .int x3), (4, .int x4), (5, .int x5)]) (fun _ _ _ _ => lv_iinc (v := (x6 + 1)) hx hb d_Mo_isMet_177 hl (k := 5) rfl rfl (by decide) rfl) (fun ls hl => ?_)
  refine gV.lift (fun _ _ _ _ => lv_goto (tgt := 45) hx hb d_Mo_isMet_180 (by decide)) ?_
  exact hk45 x0 x1 x3 x4 x5 (x6 + 1) S _ hden (lv_sub hl [1, 2, 3, 4, 5, 0] rfl)
def B_Mo_isMet_140 (k35 : Nat → Int32 → Int32 → Int32 → Int32 → gS → Option (Int32 × gS)) (k45 : Nat → Int32 → Int32 → Int32 → Int32 → Int32 → gS → Option (Int32 × gS)) (x0 : Nat) (x1 : Int32) (x3 : Int32) (x4 : Int32) (x5 : Int32) (x6 : Int32) (t0 : Int32) (S : gS) : Option (Int32 × gS) := gB2 (D_Mo_in t0 1 999 S) (fun v2 S1 => (if v2 = 0 then B_Mo_isMet_177 k35 k45 x0 x1 x3 x4 x5 x6 S1 else Option.bind (gRf S1 x0 10 11) (fun r4 => Option.bind r4 (fun a5 => Option.bind (gAI S1 a5 0 x3) (fun v6 => Option.bind (gOb S1 x0 10) (fun fs9 => gB2 (D_Mo_best x0 x1 v6 x4 t0 x5 S1) (fun v8 S7 => (if v8 = x3 then Option.bind (gZo 1) (fun v11 => some (v11, S7)) else B_Mo_isMet_177 k35 k45 x0 x1 x3 x4 x5 x6 S7))))))))
set_option maxRecDepth 100000 in
set_option maxHeartbeats 4000000 in
theorem w_Mo_isMet_140 {D : va_G} {cT : Nat → ClassId} {H0 : Heap} {l : Launch} {p : Program} {e : Env} {s : State} {m : MethodId} {args : Array Value} {below : List Frame} {meth : Method} {c : Code} {S0 : gS} {S' : gS} {r : Int32} (Y : gY D cT H0 p s m args meth c prog_12_method_35_code 10 "PlanTextModel" 3 76 S0 (Option.some Jvm.ClassFile.FieldType.boolean)) {k35 : Nat → Int32 → Int32 → Int32 → Int32 → gS → Option (Int32 × gS)} {k45 : Nat → Int32 → Int32 → Int32 → Int32 → Int32 → gS → Option (Int32 × gS)} (hk35 : ∀ (x0 : Nat) (x1 : Int32) (x3 : Int32) (x4 : Int32) (x5 : Int32) (S : gS) (ls : Array Slot), k35 x0 x1 x3 x4 x5 S = some (r, S') → lv_has ls 10 [(0, va_rf (some x0)), (1, .int x1), (3, .int x3), (4, .int x4), (5, .int x5)] → gV D cT H0 p l e (gRm 3 76 S0) s m args below meth c (gQ D cT H0 below S0 S' (.inr (some (.int r))) s) S0 S (F0 m 35 ls [])) (hk45 : ∀ (x0 : Nat) (x1 : Int32) (x3 : Int32) (x4 : Int32) (x5 : Int32) (x6 : Int32) (S : gS) (ls : Array Slot), k45 x0 x1 x3 x4 x5 x6 S = some (r, S') → lv_has ls 10 [(0, va_rf (some x0)), (1, .int x1), (3, .int x3), (4, .int x4), (5, .int x5), (6, .int x6)] → gV D cT H0 p l e (gRm 3 76 S0) s m args below meth c (gQ D cT H0 below S0 S' (.inr (some (.int r))) s) S0 S (F0 m 45 ls [])) (x0 : Nat) (x1 : Int32) (x3 : Int32) (x4 : Int32) (x5 : Int32) (x6 : Int32) (t0 : Int32) (S : gS) (hden : B_Mo_isMet_140 k35 k45 x0 x1 x3 x4 x5 x6 t0 S = some (r, S')) {ls : Array Slot} (hl : lv_has ls 10 [(0, va_rf (some x0)), (1, .int x1), (3, .int x3), (4, .int x4), (5, .int x5), (6, .int x6)]) : gV D cT H0 p l e (gRm 3 76 S0) s m args below meth c (gQ D cT H0 below S0 S' (.inr (some (.int r))) s) S0 S (F0 m 140 ls [.int t0]) := by
  obtain ⟨X, hZ, hex, hr, hE⟩ := id Y
  have hx := X.1
  have hb := X.2.1
  unfold B_Mo_isMet_140 at hden
  refine gV.liftS (nL := 10) (lv' := [(9, .int t0), (0, va_rf (some x0)), (1, .int x1), (3, .int x3), (4, .int x4), (5, .int x5), (6, .int x6)]) (fun _ _ _ _ => lv_istore hx hb d_Mo_isMet_140 hl (by decide) rfl) (fun ls hl => ?_)
  refine gV.lift (fun _ _ _ _ => lv_iload hx hb d_Mo_isMet_142 (lv_at hl 0 rfl)) ?_
  refine gV.lift (fun _ _ _ _ => lv_iconst (v := 1) hx hb d_Mo_isMet_144 (by decide)) ?_
  refine gV.lift (fun _ _ _ _ => lv_sipush (v := 999) hx hb d_Mo_isMet_145 (by decide)) ?_
  replace hden := gb2 hden
  obtain ⟨v2, S1, hz, hden⟩ := hden
  refine g_callS (As := [.int t0, .int 1, .int 999]) (rest := []) X hZ (c_Mo_in hz) q_855 q_5 q_853 q_854 ⟨by decide, by decide, by show _ = some 3; decide +kernel⟩ ⟨by decide, by decide⟩ hl.1 (Nat.le_of_ble_eq_true rfl) d_Mo_isMet_148 rfl rfl ?_
  refine gV.lift2 (fun _ _ _ _ => lv_if_eq (tgt := 177) hx hb d_Mo_isMet_151 (by decide)) (fun hc3 => ?_) (fun hc3 => ?_)
  · replace hden := gip hc3 hden
    exact w_Mo_isMet_177 Y hk35 hk45 x0 x1 x3 x4 x5 x6 S1 hden (lv_sub hl [1, 2, 3, 4, 5, 6] rfl)
  · replace hden := gin hc3 hden
    refine gV.lift (fun _ _ _ _ => g_aload_n hx hb d_Mo_isMet_154 rfl (lv_at hl 1 rfl)) ?_
    refine gV.lift (fun _ _ _ _ => lv_iload_n hx hb d_Mo_isMet_155 rfl (lv_at hl 2 rfl)) ?_
    refine gV.lift (fun _ _ _ _ => g_aload_n hx hb d_Mo_isMet_156 rfl (lv_at hl 1 rfl)) ?_
    replace hden := gb hden
    obtain ⟨r4, hv, hden⟩ := hden
    refine r_getR X cl_Mo (k := 11) hv (by decide) q_776 d_Mo_isMet_157 ?_
    refine gV.lift (fun _ _ _ _ => lv_iload_n hx hb d_Mo_isMet_160 rfl (lv_at hl 3 rfl)) ?_
    replace hden := gb hden
    obtain ⟨a5, rfl, hden⟩ := hden
    replace hden := gb hden
    obtain ⟨v6, hv, hden⟩ := hden
    refine r_iald X (t := 0) rfl hv d_Mo_isMet_161 ?_
    refine gV.lift (fun _ _ _ _ => lv_iload hx hb d_Mo_isMet_162 (lv_at hl 4 rfl)) ?_
    refine gV.lift (fun _ _ _ _ => lv_iload hx hb d_Mo_isMet_164 (lv_at hl 0 rfl)) ?_
    refine gV.lift (fun _ _ _ _ => lv_iload hx hb d_Mo_isMet_166 (lv_at hl 5 rfl)) ?_
    replace hden := gb hden
    obtain ⟨fs9, ho, hden⟩ := hden
    replace hden := gb2 hden
    obtain ⟨v8, S7, hz, hden⟩ := hden
    refine g_callV (As := [.int x1, .int v6, .int x4, .int t0, .int x5]) (rest := []) X hZ (c_Mo_best hz) cl_Mo (gOb_spec ho) q_946 q_5 q_943 q_945 qp_43 ⟨by decide, by decide, by show _ = some 5; decide +kernel⟩ ⟨by decide, by decide⟩ hl.1 (Nat.le_of_ble_eq_true rfl) d_Mo_isMet_168 rfl rfl ?_
    refine gV.lift (fun _ _ _ _ => lv_iload_n hx hb d_Mo_isMet_171 rfl (lv_at hl 3 rfl)) ?_
    refine gV.lift2 (fun _ _ _ _ => lv_icmp_ne (tgt := 177) hx hb d_Mo_isMet_172 (by decide)) (fun hc10 => ?_) (fun hc10 => ?_)
    · replace hden := gin hc10 hden
      exact w_Mo_isMet_177 Y hk35 hk45 x0 x1 x3 x4 x5 x6 S7 hden (lv_sub hl [1, 2, 3, 4, 5, 6] rfl)
    · replace hden := gip hc10 hden
      refine gV.lift (fun _ _ _ _ => lv_iconst (v := 1) hx hb d_Mo_isMet_175 (by decide)) ?_
      replace hden := gb hden
      obtain ⟨v11, hz, hden⟩ := hden
      obtain ⟨rfl, hz2, -⟩ := gZo_spec hz
      obtain ⟨rfl, rfl⟩ := gpi hden
      exact g_zret X hr hz2 d_Mo_isMet_176
def B_Mo_isMet_93 (k35 : Nat → Int32 → Int32 → Int32 → Int32 → gS → Option (Int32 × gS)) (k45 : Nat → Int32 → Int32 → Int32 → Int32 → Int32 → gS → Option (Int32 × gS)) (x0 : Nat) (x1 : Int32) (x3 : Int32) (x4 : Int32) (x5 : Int32) (x6 : Int32) (x7 : Int32) (t0 : Int32) (S : gS) : Option (Int32 × gS) := (if x6 = 0 then Option.bind (gRf S x0 10 12) (fun r6 => Option.bind r6 (fun a7 => Option.bind (gAI S a7 0 x3) (fun v8 => (if v8 ≤ 0 then B_Mo_isMet_140 k35 k45 x0 x1 x3 x4 x5 x6 1 S else Option.bind (gRf S x0 10 13) (fun r10 => Option.bind r10 (fun a11 => Option.bind (gAI S a11 0 x3) (fun v12 => B_Mo_isMet_140 k35 k45 x0 x1 x3 x4 x5 x6 v12 S))))))) else (if t0 = 0 then B_Mo_isMet_140 k35 k45 x0 x1 x3 x4 x5 x6 0 S else Option.bind (gRf S x0 10 14) (fun r3 => Option.bind r3 (fun a4 => Option.bind (gAI S a4 0 x7) (fun v5 => B_Mo_isMet_140 k35 k45 x0 x1 x3 x4 x5 x6 (v5 + 1) S)))))
set_option maxRecDepth 100000 in
set_option maxHeartbeats 4000000 in
theorem w_Mo_isMet_93 {D : va_G} {cT : Nat → ClassId} {H0 : Heap} {l : Launch} {p : Program} {e : Env} {s : State} {m : MethodId} {args : Array Value} {below : List Frame} {meth : Method} {c : Code} {S0 : gS} {S' : gS} {r : Int32} (Y : gY D cT H0 p s m args meth c prog_12_method_35_code 10 "PlanTextModel" 3 76 S0 (Option.some Jvm.ClassFile.FieldType.boolean)) {k35 : Nat → Int32 → Int32 → Int32 → Int32 → gS → Option (Int32 × gS)} {k45 : Nat → Int32 → Int32 → Int32 → Int32 → Int32 → gS → Option (Int32 × gS)} (hk35 : ∀ (x0 : Nat) (x1 : Int32) (x3 : Int32) (x4 : Int32) (x5 : Int32) (S : gS) (ls : Array Slot), k35 x0 x1 x3 x4 x5 S = some (r, S') → lv_has ls 10 [(0, va_rf (some x0)), (1, .int x1), (3, .int x3), (4, .int x4), (5, .int x5)] → gV D cT H0 p l e (gRm 3 76 S0) s m args below meth c (gQ D cT H0 below S0 S' (.inr (some (.int r))) s) S0 S (F0 m 35 ls [])) (hk45 : ∀ (x0 : Nat) (x1 : Int32) (x3 : Int32) (x4 : Int32) (x5 : Int32) (x6 : Int32) (S : gS) (ls : Array Slot), k45 x0 x1 x3 x4 x5 x6 S = some (r, S') → lv_has ls 10 [(0, va_rf (some x0)), (1, .int x1), (3, .int x3), (4, .int x4), (5, .int x5), (6, .int x6)] → gV D cT H0 p l e (gRm 3 76 S0) s m args below meth c (gQ D cT H0 below S0 S' (.inr (some (.int r))) s) S0 S (F0 m 45 ls [])) (x0 : Nat) (x1 : Int32) (x3 : Int32) (x4 : Int32) (x5 : Int32) (x6 : Int32) (x7 : Int32) (t0 : Int32) (S : gS) (hden : B_Mo_isMet_93 k35 k45 x0 x1 x3 x4 x5 x6 x7 t0 S = some (r, S')) {ls : Array Slot} (hl : lv_has ls 10 [(0, va_rf (some x0)), (1, .int x1), (3, .int x3), (4, .int x4), (5, .int x5), (6, .int x6), (7, .int x7)]) : gV D cT H0 p l e (gRm 3 76 S0) s m args below meth c (gQ D cT H0 below S0 S' (.inr (some (.int r))) s) S0 S (F0 m 93 ls [.int t0]) := by
  obtain ⟨X, hZ, hex, hr, hE⟩ := id Y
  have hx := X.1
  have hb := X.2.1
  unfold B_Mo_isMet_93 at hden
  refine gV.liftS (nL := 10) (lv' := [(8, .int t0), (0, va_rf (some x0)), (1, .int x1), (3, .int x3), (4, .int x4), (5, .int x5), (6, .int x6), (7, .int x7)]) (fun _ _ _ _ => lv_istore hx hb d_Mo_isMet_93 hl (by decide) rfl) (fun ls hl => ?_)
  refine gV.lift (fun _ _ _ _ => lv_iload hx hb d_Mo_isMet_95 (lv_at hl 6 rfl)) ?_
  refine gV.lift2 (fun _ _ _ _ => lv_if_ne (tgt := 122) hx hb d_Mo_isMet_97 (by decide)) (fun hc1 => ?_) (fun hc1 => ?_)
  · replace hden := gin hc1 hden
    refine gV.lift (fun _ _ _ _ => lv_iload hx hb d_Mo_isMet_122 (lv_at hl 0 rfl)) ?_
    refine gV.lift2 (fun _ _ _ _ => lv_if_eq (tgt := 139) hx hb d_Mo_isMet_124 (by decide)) (fun hc2 => ?_) (fun hc2 => ?_)
    · replace hden := gip hc2 hden
      refine gV.lift (fun _ _ _ _ => lv_iconst (v := 0) hx hb d_Mo_isMet_139 (by decide)) ?_
      exact w_Mo_isMet_140 Y hk35 hk45 x0 x1 x3 x4 x5 x6 0 S hden (lv_sub hl [1, 2, 3, 4, 5, 6] rfl)
    · replace hden := gin hc2 hden
      refine gV.lift (fun _ _ _ _ => g_aload_n hx hb d_Mo_isMet_127 rfl (lv_at hl 1 rfl)) ?_
      replace hden := gb hden
      obtain ⟨r3, hv, hden⟩ := hden
      refine r_getR X cl_Mo (k := 14) hv (by decide) q_779 d_Mo_isMet_128 ?_
      refine gV.lift (fun _ _ _ _ => lv_iload hx hb d_Mo_isMet_131 (lv_at hl 7 rfl)) ?_
      replace hden := gb hden
      obtain ⟨a4, rfl, hden⟩ := hden
      replace hden := gb hden
      obtain ⟨v5, hv, hden⟩ := hden
      refine r_iald X (t := 0) rfl hv d_Mo_isMet_133 ?_
      refine gV.lift (fun _ _ _ _ => lv_iconst (v := 1) hx hb d_Mo_isMet_134 (by decide)) ?_
      refine gV.lift (fun _ _ _ _ => lv_iadd hx hb d_Mo_isMet_135) ?_
      refine gV.lift (fun _ _ _ _ => lv_goto (tgt := 140) hx hb d_Mo_isMet_136 (by decide)) ?_
      exact w_Mo_isMet_140 Y hk35 hk45 x0 x1 x3 x4 x5 x6 (v5 + 1) S hden (lv_sub hl [1, 2, 3, 4, 5, 6] rfl)
  · replace hden := gip hc1 hden
    refine gV.lift (fun _ _ _ _ => g_aload_n hx hb d_Mo_isMet_100 rfl (lv_at hl 1 rfl)) ?_
    replace hden := gb hden
    obtain ⟨r6, hv, hden⟩ := hden
    refine r_getR X cl_Mo (k := 12) hv (by decide) q_777 d_Mo_isMet_101 ?_
    refine gV.lift (fun _ _ _ _ => lv_iload_n hx hb d_Mo_isMet_104 rfl (lv_at hl 3 rfl)) ?_
    replace hden := gb hden
    obtain ⟨a7, rfl, hden⟩ := hden
    replace hden := gb hden
    obtain ⟨v8, hv, hden⟩ := hden
    refine r_iald X (t := 0) rfl hv d_Mo_isMet_105 ?_
    refine gV.lift2 (fun _ _ _ _ => lv_if_le (tgt := 118) hx hb d_Mo_isMet_106 (by decide)) (fun hc9 => ?_) (fun hc9 => ?_)
    · replace hden := gip hc9 hden
      refine gV.lift (fun _ _ _ _ => lv_iconst (v := 1) hx hb d_Mo_isMet_118 (by decide)) ?_
      refine gV.lift (fun _ _ _ _ => lv_goto (tgt := 140) hx hb d_Mo_isMet_119 (by decide)) ?_
      exact w_Mo_isMet_140 Y hk35 hk45 x0 x1 x3 x4 x5 x6 1 S hden (lv_sub hl [1, 2, 3, 4, 5, 6] rfl)
    · replace hden := gin hc9 hden
      refine gV.lift (fun _ _ _ _ => g_aload_n hx hb d_Mo_isMet_109 rfl (lv_at hl 1 rfl)) ?_
      replace hden := gb hden
      obtain ⟨r10, hv, hden⟩ := hden
      refine r_getR X cl_Mo (k := 13) hv (by decide) q_778 d_Mo_isMet_110 ?_
      refine gV.lift (fun _ _ _ _ => lv_iload_n hx hb d_Mo_isMet_113 rfl (lv_at hl 3 rfl)) ?_
      replace hden := gb hden
      obtain ⟨a11, rfl, hden⟩ := hden
      replace hden := gb hden
      obtain ⟨v12, hv, hden⟩ := hden
      refine r_iald X (t := 0) rfl hv d_Mo_isMet_114 ?_
      refine gV.lift (fun _ _ _ _ => lv_goto (tgt := 140) hx hb d_Mo_isMet_115 (by decide)) ?_
      exact w_Mo_isMet_140 Y hk35 hk45 x0 x1 x3 x4 x5 x6 v12 S hden (lv_sub hl [1, 2, 3, 4, 5, 6] rfl)
def B_Mo_isMet_92 (k35 : Nat → Int32 → Int32 → Int32 → Int32 → gS → Option (Int32 × gS)) (k45 : Nat → Int32 → Int32 → Int32 → Int32 → Int32 → gS → Option (Int32 × gS)) (x0 : Nat) (x1 : Int32) (x3 : Int32) (x4 : Int32) (x5 : Int32) (x6 : Int32) (x7 : Int32) (S : gS) : Option (Int32 × gS) := B_Mo_isMet_93 k35 k45 x0 x1 x3 x4 x5 x6 x7 0 S
set_option maxRecDepth 100000 in
set_option maxHeartbeats 4000000 in
theorem w_Mo_isMet_92 {D : va_G} {cT : Nat → ClassId} {H0 : Heap} {l : Launch} {p : Program} {e : Env} {s : State} {m : MethodId} {args : Array Value} {below : List Frame} {meth : Method} {c : Code} {S0 : gS} {S' : gS} {r : Int32} (Y : gY D cT H0 p s m args meth c prog_12_method_35_code 10 "PlanTextModel" 3 76 S0 (Option.some Jvm.ClassFile.FieldType.boolean)) {k35 : Nat → Int32 → Int32 → Int32 → Int32 → gS → Option (Int32 × gS)} {k45 : Nat → Int32 → Int32 → Int32 → Int32 → Int32 → gS → Option (Int32 × gS)} (hk35 : ∀ (x0 : Nat) (x1 : Int32) (x3 : Int32) (x4 : Int32) (x5 : Int32) (S : gS) (ls : Array Slot), k35 x0 x1 x3 x4 x5 S = some (r, S') → lv_has ls 10 [(0, va_rf (some x0)), (1, .int x1), (3, .int x3), (4, .int x4), (5, .int x5)] → gV D cT H0 p l e (gRm 3 76 S0) s m args below meth c (gQ D cT H0 below S0 S' (.inr (some (.int r))) s) S0 S (F0 m 35 ls [])) (hk45 : ∀ (x0 : Nat) (x1 : Int32) (x3 : Int32) (x4 : Int32) (x5 : Int32) (x6 : Int32) (S : gS) (ls : Array Slot), k45 x0 x1 x3 x4 x5 x6 S = some (r, S') → lv_has ls 10 [(0, va_rf (some x0)), (1, .int x1), (3, .int x3), (4, .int x4), (5, .int x5), (6, .int x6)] → gV D cT H0 p l e (gRm 3 76 S0) s m args below meth c (gQ D cT H0 below S0 S' (.inr (some (.int r))) s) S0 S (F0 m 45 ls [])) (x0 : Nat) (x1 : Int32) (x3 : Int32) (x4 : Int32) (x5 : Int32) (x6 : Int32) (x7 : Int32) (S : gS) (hden : B_Mo_isMet_92 k35 k45 x0 x1 x3 x4 x5 x6 x7 S = some (r, S')) {ls : Array Slot} (hl : lv_has ls 10 [(0, va_rf (some x0)), (1, .int x1), (3, .int x3), (4, .int x4), (5, .int x5), (6, .int x6), (7, .int x7)]) : gV D cT H0 p l e (gRm 3 76 S0) s m args below meth c (gQ D cT H0 below S0 S' (.inr (some (.int r))) s) S0 S (F0 m 92 ls []) := by
  obtain ⟨X, hZ, hex, hr, hE⟩ := id Y
  have hx := X.1
  have hb := X.2.1
  unfold B_Mo_isMet_92 at hden
  refine gV.lift (fun _ _ _ _ => lv_iconst (v := 0) hx hb d_Mo_isMet_92 (by decide)) ?_
  exact w_Mo_isMet_93 Y hk35 hk45 x0 x1 x3 x4 x5 x6 x7 0 S hden (lv_sub hl [0, 1, 2, 3, 4, 5, 6] rfl)
def B_Mo_isMet_45 (k35 : Nat → Int32 → Int32 → Int32 → Int32 → gS → Option (Int32 × gS)) (k45 : Nat → Int32 → Int32 → Int32 → Int32 → Int32 → gS → Option (Int32 × gS)) (x0 : Nat) (x1 : Int32) (x3 : Int32) (x4 : Int32) (x5 : Int32) (x6 : Int32) (S : gS) : Option (Int32 × gS) := (if 40 < x6 then k35 x0 x1 x3 x4 (x5 + 1) S else (if x6 ≤ 0 then B_Mo_isMet_92 k35 k45 x0 x1 x3 x4 x5 x6 ((50 * x1) + x6) S else Option.bind (gRf S x0 10 10) (fun r3 => Option.bind r3 (fun a4 => Option.bind (gAI S a4 3 ((50 * x1) + x6)) (fun v5 => (if v5 = 0 then B_Mo_isMet_92 k35 k45 x0 x1 x3 x4 x5 x6 ((50 * x1) + x6) S else Option.bind (gRf S x0 10 12) (fun r7 => Option.bind r7 (fun a8 => Option.bind (gAI S a8 0 ((50 * x1) + x6)) (fun v9 => (if v9 = x4 then B_Mo_isMet_93 k35 k45 x0 x1 x3 x4 x5 x6 ((50 * x1) + x6) 1 S else B_Mo_isMet_92 k35 k45 x0 x1 x3 x4 x5 x6 ((50 * x1) + x6) S))))))))))
set_option maxRecDepth 100000 in
set_option maxHeartbeats 4000000 in
theorem w_Mo_isMet_45 {D : va_G} {cT : Nat → ClassId} {H0 : Heap} {l : Launch} {p : Program} {e : Env} {s : State} {m : MethodId} {args : Array Value} {below : List Frame} {meth : Method} {c : Code} {S0 : gS} {S' : gS} {r : Int32} (Y : gY D cT H0 p s m args meth c prog_12_method_35_code 10 "PlanTextModel" 3 76 S0 (Option.some Jvm.ClassFile.FieldType.boolean)) {k35 : Nat → Int32 → Int32 → Int32 → Int32 → gS → Option (Int32 × gS)} {k45 : Nat → Int32 → Int32 → Int32 → Int32 → Int32 → gS → Option (Int32 × gS)} (hk35 : ∀ (x0 : Nat) (x1 : Int32) (x3 : Int32) (x4 : Int32) (x5 : Int32) (S : gS) (ls : Array Slot), k35 x0 x1 x3 x4 x5 S = some (r, S') → lv_has ls 10 [(0, va_rf (some x0)), (1, .int x1), (3, .int x3), (4, .int x4), (5, .int x5)] → gV D cT H0 p l e (gRm 3 76 S0) s m args below meth c (gQ D cT H0 below S0 S' (.inr (some (.int r))) s) S0 S (F0 m 35 ls [])) (hk45 : ∀ (x0 : Nat) (x1 : Int32) (x3 : Int32) (x4 : Int32) (x5 : Int32) (x6 : Int32) (S : gS) (ls : Array Slot), k45 x0 x1 x3 x4 x5 x6 S = some (r, S') → lv_has ls 10 [(0, va_rf (some x0)), (1, .int x1), (3, .int x3), (4, .int x4), (5, .int x5), (6, .int x6)] → gV D cT H0 p l e (gRm 3 76 S0) s m args below meth c (gQ D cT H0 below S0 S' (.inr (some (.int r))) s) S0 S (F0 m 45 ls [])) (x0 : Nat) (x1 : Int32) (x3 : Int32) (x4 : Int32) (x5 : Int32) (x6 : Int32) (S : gS) (hden : B_Mo_isMet_45 k35 k45 x0 x1 x3 x4 x5 x6 S = some (r, S')) {ls : Array Slot} (hl : lv_has ls 10 [(0, va_rf (some x0)), (1, .int x1), (3, .int x3), (4, .int x4), (5, .int x5), (6, .int x6)]) : gV D cT H0 p l e (gRm 3 76 S0) s m args below meth c (gQ D cT H0 below S0 S' (.inr (some (.int r))) s) S0 S (F0 m 45 ls []) := by
  obtain ⟨X, hZ, hex, hr, hE⟩ := id Y
  have hx := X.1
  have hb := X.2.1
  unfold B_Mo_isMet_45 at hden
  refine gV.lift (fun _ _ _ _ => lv_iload hx hb d_Mo_isMet_45 (lv_at hl 5 rfl)) ?_
  refine gV.lift (fun _ _ _ _ => lv_bipush (v := 40) hx hb d_Mo_isMet_47 (by decide)) ?_
  refine gV.lift2 (fun _ _ _ _ => lv_icmp_gt (tgt := 183) hx hb d_Mo_isMet_49 (by decide)) (fun hc1 => ?_) (fun hc1 => ?_)
  · replace hden := gip hc1 hden
    refine gV.liftS (nL := 10) (lv' := [(5, .int (x5 + 1)), (0, va_rf (some x0)), (1, .int x1), (3, .int x3), (4, .int x4), (6, .int x6)]) (fun _ _ _ _ => lv_iinc (v := (x5 + 1)) hx hb d_Mo_isMet_183 hl (k := 4) rfl rfl (by decide) rfl) (fun ls hl => ?_)
    refine gV.lift (fun _ _ _ _ => lv_goto (tgt := 35) hx hb d_Mo_isMet_186 (by decide)) ?_
    exact hk35 x0 x1 x3 x4 (x5 + 1) S _ hden (lv_sub hl [1, 2, 3, 4, 0] rfl)
  · replace hden := gin hc1 hden
    refine gV.lift (fun _ _ _ _ => lv_bipush (v := 50) hx hb d_Mo_isMet_52 (by decide)) ?_
    refine gV.lift (fun _ _ _ _ => lv_iload_n hx hb d_Mo_isMet_54 rfl (lv_at hl 1 rfl)) ?_
    refine gV.lift (fun _ _ _ _ => lv_imul hx hb d_Mo_isMet_55) ?_
    refine gV.lift (fun _ _ _ _ => lv_iload hx hb d_Mo_isMet_56 (lv_at hl 5 rfl)) ?_
    refine gV.lift (fun _ _ _ _ => lv_iadd hx hb d_Mo_isMet_58) ?_
    refine gV.liftS (nL := 10) (lv' := [(7, .int ((50 * x1) + x6)), (0, va_rf (some x0)), (1, .int x1), (3, .int x3), (4, .int x4), (5, .int x5), (6, .int x6)]) (fun _ _ _ _ => lv_istore hx hb d_Mo_isMet_59 hl (by decide) rfl) (fun ls hl => ?_)
    refine gV.lift (fun _ _ _ _ => lv_iload hx hb d_Mo_isMet_61 (lv_at hl 6 rfl)) ?_
    refine gV.lift2 (fun _ _ _ _ => lv_if_le (tgt := 92) hx hb d_Mo_isMet_63 (by decide)) (fun hc2 => ?_) (fun hc2 => ?_)
    · replace hden := gip hc2 hden
      exact w_Mo_isMet_92 Y hk35 hk45 x0 x1 x3 x4 x5 x6 ((50 * x1) + x6) S hden (lv_sub hl [1, 2, 3, 4, 5, 6, 0] rfl)
    · replace hden := gin hc2 hden
      refine gV.lift (fun _ _ _ _ => g_aload_n hx hb d_Mo_isMet_66 rfl (lv_at hl 1 rfl)) ?_
      replace hden := gb hden
      obtain ⟨r3, hv, hden⟩ := hden
      refine r_getR X cl_Mo (k := 10) hv (by decide) q_775 d_Mo_isMet_67 ?_
      refine gV.lift (fun _ _ _ _ => lv_iload hx hb d_Mo_isMet_70 (lv_at hl 0 rfl)) ?_
      replace hden := gb hden
      obtain ⟨a4, rfl, hden⟩ := hden
      replace hden := gb hden
      obtain ⟨v5, hv, hden⟩ := hden
      refine r_zald X (t := 3) rfl hv d_Mo_isMet_72 ?_
      refine gV.lift2 (fun _ _ _ _ => lv_if_eq (tgt := 92) hx hb d_Mo_isMet_73 (by decide)) (fun hc6 => ?_) (fun hc6 => ?_)
      · replace hden := gip hc6 hden
        exact w_Mo_isMet_92 Y hk35 hk45 x0 x1 x3 x4 x5 x6 ((50 * x1) + x6) S hden (lv_sub hl [1, 2, 3, 4, 5, 6, 0] rfl)
      · replace hden := gin hc6 hden
        refine gV.lift (fun _ _ _ _ => g_aload_n hx hb d_Mo_isMet_76 rfl (lv_at hl 1 rfl)) ?_
        replace hden := gb hden
        obtain ⟨r7, hv, hden⟩ := hden
        refine r_getR X cl_Mo (k := 12) hv (by decide) q_777 d_Mo_isMet_77 ?_
        refine gV.lift (fun _ _ _ _ => lv_iload hx hb d_Mo_isMet_80 (lv_at hl 0 rfl)) ?_
        replace hden := gb hden
        obtain ⟨a8, rfl, hden⟩ := hden
        replace hden := gb hden
        obtain ⟨v9, hv, hden⟩ := hden
        refine r_iald X (t := 0) rfl hv d_Mo_isMet_82 ?_
        refine gV.lift (fun _ _ _ _ => lv_iload hx hb d_Mo_isMet_83 (lv_at hl 4 rfl)) ?_
        refine gV.lift2 (fun _ _ _ _ => lv_icmp_ne (tgt := 92) hx hb d_Mo_isMet_85 (by decide)) (fun hc10 => ?_) (fun hc10 => ?_)
        · replace hden := gin hc10 hden
          exact w_Mo_isMet_92 Y hk35 hk45 x0 x1 x3 x4 x5 x6 ((50 * x1) + x6) S hden (lv_sub hl [1, 2, 3, 4, 5, 6, 0] rfl)
        · replace hden := gip hc10 hden
          refine gV.lift (fun _ _ _ _ => lv_iconst (v := 1) hx hb d_Mo_isMet_88 (by decide)) ?_
          refine gV.lift (fun _ _ _ _ => lv_goto (tgt := 93) hx hb d_Mo_isMet_89 (by decide)) ?_
          exact w_Mo_isMet_93 Y hk35 hk45 x0 x1 x3 x4 x5 x6 ((50 * x1) + x6) 1 S hden (lv_sub hl [1, 2, 3, 4, 5, 6, 0] rfl)
def L_Mo_isMet_45 (k35 : Nat → Int32 → Int32 → Int32 → Int32 → gS → Option (Int32 × gS)) : Nat → Nat → Int32 → Int32 → Int32 → Int32 → Int32 → gS → Option (Int32 × gS)
  | 0 => fun _ _ _ _ _ _ _ => none
  | n + 1 => fun x0 x1 x3 x4 x5 x6 S => B_Mo_isMet_45 k35 (L_Mo_isMet_45 k35 n) x0 x1 x3 x4 x5 x6 S
theorem wL_Mo_isMet_45 {D : va_G} {cT : Nat → ClassId} {H0 : Heap} {l : Launch} {p : Program} {e : Env} {s : State} {m : MethodId} {args : Array Value} {below : List Frame} {meth : Method} {c : Code} {S0 : gS} {S' : gS} {r : Int32} (Y : gY D cT H0 p s m args meth c prog_12_method_35_code 10 "PlanTextModel" 3 76 S0 (Option.some Jvm.ClassFile.FieldType.boolean)) {k35 : Nat → Int32 → Int32 → Int32 → Int32 → gS → Option (Int32 × gS)} (hk35 : ∀ (x0 : Nat) (x1 : Int32) (x3 : Int32) (x4 : Int32) (x5 : Int32) (S : gS) (ls : Array Slot), k35 x0 x1 x3 x4 x5 S = some (r, S') → lv_has ls 10 [(0, va_rf (some x0)), (1, .int x1), (3, .int x3), (4, .int x4), (5, .int x5)] → gV D cT H0 p l e (gRm 3 76 S0) s m args below meth c (gQ D cT H0 below S0 S' (.inr (some (.int r))) s) S0 S (F0 m 35 ls [])) : ∀ (n : Nat) (x0 : Nat) (x1 : Int32) (x3 : Int32) (x4 : Int32) (x5 : Int32) (x6 : Int32) (S : gS) (ls : Array Slot), L_Mo_isMet_45 k35 n x0 x1 x3 x4 x5 x6 S = some (r, S') → lv_has ls 10 [(0, va_rf (some x0)), (1, .int x1), (3, .int x3), (4, .int x4), (5, .int x5), (6, .int x6)] → gV D cT H0 p l e (gRm 3 76 S0) s m args below meth c (gQ D cT H0 below S0 S' (.inr (some (.int r))) s) S0 S (F0 m 45 ls []) := by
  intro n
  induction n with
  | zero => intro x0 x1 x3 x4 x5 x6 S ls h hl; cases h
  | succ n ih => intro x0 x1 x3 x4 x5 x6 S ls h hl; exact w_Mo_isMet_45 Y hk35 ih x0 x1 x3 x4 x5 x6 S h hl
def B_Mo_isMet_35 (k35 : Nat → Int32 → Int32 → Int32 → Int32 → gS → Option (Int32 × gS)) (x0 : Nat) (x1 : Int32) (x3 : Int32) (x4 : Int32) (x5 : Int32) (S : gS) : Option (Int32 × gS) := (if 24 ≤ x5 then Option.bind (gZo 0) (fun v2 => some (v2, S)) else L_Mo_isMet_45 k35 gF x0 x1 x3 x4 x5 0 S)
set_option maxRecDepth 100000 in
set_option maxHeartbeats 4000000 in
theorem w_Mo_isMet_35 {D : va_G} {cT : Nat → ClassId} {H0 : Heap} {l : Launch} {p : Program} {e : Env} {s : State} {m : MethodId} {args : Array Value} {below : List Frame} {meth : Method} {c : Code} {S0 : gS} {S' : gS} {r : Int32} (Y : gY D cT H0 p s m args meth c prog_12_method_35_code 10 "PlanTextModel" 3 76 S0 (Option.some Jvm.ClassFile.FieldType.boolean)) {k35 : Nat → Int32 → Int32 → Int32 → Int32 → gS → Option (Int32 × gS)} (hk35 : ∀ (x0 : Nat) (x1 : Int32) (x3 : Int32) (x4 : Int32) (x5 : Int32) (S : gS) (ls : Array Slot), k35 x0 x1 x3 x4 x5 S = some (r, S') → lv_has ls 10 [(0, va_rf (some x0)), (1, .int x1), (3, .int x3), (4, .int x4), (5, .int x5)] → gV D cT H0 p l e (gRm 3 76 S0) s m args below meth c (gQ D cT H0 below S0 S' (.inr (some (.int r))) s) S0 S (F0 m 35 ls [])) (x0 : Nat) (x1 : Int32) (x3 : Int32) (x4 : Int32) (x5 : Int32) (S : gS) (hden : B_Mo_isMet_35 k35 x0 x1 x3 x4 x5 S = some (r, S')) {ls : Array Slot} (hl : lv_has ls 10 [(0, va_rf (some x0)), (1, .int x1), (3, .int x3), (4, .int x4), (5, .int x5)]) : gV D cT H0 p l e (gRm 3 76 S0) s m args below meth c (gQ D cT H0 below S0 S' (.inr (some (.int r))) s) S0 S (F0 m 35 ls []) := by
  obtain ⟨X, hZ, hex, hr, hE⟩ := id Y
  have hx := X.1
  have hb := X.2.1
  unfold B_Mo_isMet_35 at hden
  refine gV.lift (fun _ _ _ _ => lv_iload hx hb d_Mo_isMet_35 (lv_at hl 4 rfl)) ?_
  refine gV.lift (fun _ _ _ _ => lv_bipush (v := 24) hx hb d_Mo_isMet_37 (by decide)) ?_
  refine gV.lift2 (fun _ _ _ _ => lv_icmp_ge (tgt := 189) hx hb d_Mo_isMet_39 (by decide)) (fun hc1 => ?_) (fun hc1 => ?_)
  · replace hden := gip hc1 hden
    refine gV.lift (fun _ _ _ _ => lv_iconst (v := 0) hx hb d_Mo_isMet_189 (by decide)) ?_
    replace hden := gb hden
    obtain ⟨v2, hz, hden⟩ := hden
    obtain ⟨rfl, hz2, -⟩ := gZo_spec hz
    obtain ⟨rfl, rfl⟩ := gpi hden
    exact g_zret X hr hz2 d_Mo_isMet_190
  · replace hden := gin hc1 hden
    refine gV.lift (fun _ _ _ _ => lv_iconst (v := 0) hx hb d_Mo_isMet_42 (by decide)) ?_
    refine gV.liftS (nL := 10) (lv' := [(6, .int 0), (0, va_rf (some x0)), (1, .int x1), (3, .int x3), (4, .int x4), (5, .int x5)]) (fun _ _ _ _ => lv_istore hx hb d_Mo_isMet_43 hl (by decide) rfl) (fun ls hl => ?_)
    exact wL_Mo_isMet_45 Y hk35 gF x0 x1 x3 x4 x5 0 S _ hden (lv_sub hl [1, 2, 3, 4, 5, 0] rfl)
def L_Mo_isMet_35  : Nat → Nat → Int32 → Int32 → Int32 → Int32 → gS → Option (Int32 × gS)
  | 0 => fun _ _ _ _ _ _ => none
  | n + 1 => fun x0 x1 x3 x4 x5 S => B_Mo_isMet_35  (L_Mo_isMet_35  n) x0 x1 x3 x4 x5 S
theorem wL_Mo_isMet_35 {D : va_G} {cT : Nat → ClassId} {H0 : Heap} {l : Launch} {p : Program} {e : Env} {s : State} {m : MethodId} {args : Array Value} {below : List Frame} {meth : Method} {c : Code} {S0 : gS} {S' : gS} {r : Int32} (Y : gY D cT H0 p s m args meth c prog_12_method_35_code 10 "PlanTextModel" 3 76 S0 (Option.some Jvm.ClassFile.FieldType.boolean))  : ∀ (n : Nat) (x0 : Nat) (x1 : Int32) (x3 : Int32) (x4 : Int32) (x5 : Int32) (S : gS) (ls : Array Slot), L_Mo_isMet_35  n x0 x1 x3 x4 x5 S = some (r, S') → lv_has ls 10 [(0, va_rf (some x0)), (1, .int x1), (3, .int x3), (4, .int x4), (5, .int x5)] → gV D cT H0 p l e (gRm 3 76 S0) s m args below meth c (gQ D cT H0 below S0 S' (.inr (some (.int r))) s) S0 S (F0 m 35 ls []) := by
  intro n
  induction n with
  | zero => intro x0 x1 x3 x4 x5 S ls h hl; cases h
  | succ n ih => intro x0 x1 x3 x4 x5 S ls h hl; exact w_Mo_isMet_35 Y ih x0 x1 x3 x4 x5 S h hl
def B_Mo_isMet_30  (x0 : Nat) (x1 : Int32) (x3 : Int32) (t0 : Int32) (S : gS) : Option (Int32 × gS) := L_Mo_isMet_35  gF x0 x1 x3 t0 0 S
set_option maxRecDepth 100000 in
set_option maxHeartbeats 4000000 in
theorem w_Mo_isMet_30 {D : va_G} {cT : Nat → ClassId} {H0 : Heap} {l : Launch} {p : Program} {e : Env} {s : State} {m : MethodId} {args : Array Value} {below : List Frame} {meth : Method} {c : Code} {S0 : gS} {S' : gS} {r : Int32} (Y : gY D cT H0 p s m args meth c prog_12_method_35_code 10 "PlanTextModel" 3 76 S0 (Option.some Jvm.ClassFile.FieldType.boolean))  (x0 : Nat) (x1 : Int32) (x3 : Int32) (t0 : Int32) (S : gS) (hden : B_Mo_isMet_30  x0 x1 x3 t0 S = some (r, S')) {ls : Array Slot} (hl : lv_has ls 10 [(0, va_rf (some x0)), (1, .int x1), (3, .int x3)]) : gV D cT H0 p l e (gRm 3 76 S0) s m args below meth c (gQ D cT H0 below S0 S' (.inr (some (.int r))) s) S0 S (F0 m 30 ls [.int t0]) := by
  obtain ⟨X, hZ, hex, hr, hE⟩ := id Y
  have hx := X.1
  have hb := X.2.1
  unfold B_Mo_isMet_30 at hden
  refine gV.liftS (nL := 10) (lv' := [(4, .int t0), (0, va_rf (some x0)), (1, .int x1), (3, .int x3)]) (fun _ _ _ _ => lv_istore hx hb d_Mo_isMet_30 hl (by decide) rfl) (fun ls hl => ?_)
  refine gV.lift (fun _ _ _ _ => lv_iconst (v := 0) hx hb d_Mo_isMet_32 (by decide)) ?_
  refine gV.liftS (nL := 10) (lv' := [(5, .int 0), (4, .int t0), (0, va_rf (some x0)), (1, .int x1), (3, .int x3)]) (fun _ _ _ _ => lv_istore hx hb d_Mo_isMet_33 hl (by decide) rfl) (fun ls hl => ?_)
  exact wL_Mo_isMet_35 Y  gF x0 x1 x3 t0 0 S _ hden (lv_sub hl [2, 3, 4, 1, 0] rfl)
def D_Mo_isMet (h0 : Nat) (p0 : Int32) (p1 : Int32) (S : gS) : Option (Int32 × gS) := Option.bind (gRf S h0 10 12) (fun r1 => Option.bind r1 (fun a2 => Option.bind (gAI S a2 0 ((50 * p0) + p1)) (fun v3 => (if v3 ≤ 0 then Option.bind (gOb S h0 10) (fun fs7 => gB2 (D_Mo_free h0 p0 S) (fun v6 S5 => B_Mo_isMet_30  h0 p0 ((50 * p0) + p1) v6 S5)) else Option.bind (gRf S h0 10 12) (fun r8 => Option.bind r8 (fun a9 => Option.bind (gAI S a9 0 ((50 * p0) + p1)) (fun v10 => B_Mo_isMet_30  h0 p0 ((50 * p0) + p1) v10 S)))))))
set_option maxRecDepth 100000 in
set_option maxHeartbeats 4000000 in
theorem c_Mo_isMet {D : va_G} {cT : Nat → ClassId} {H0 : Heap} {l : Launch} {S : gS} {S' : gS} {h0 : Nat} {p0 : Int32} {p1 : Int32} {r : Int32} (hden : D_Mo_isMet h0 p0 p1 S = some (r, S')) : gM D cT H0 l y_Mo_isMet (Cond.code y_Mo_isMet prog_12_method_35_code 10 (Option.some Jvm.ClassFile.FieldType.boolean)) 3 76 [va_rf (some h0), .int p0, .int p1] S S' (.inr (some (.int r))) := by
  refine gM.ofV (by decide) ?_
  intro p e s m args below meth c s₁ B hml ea X hZ hex hr hE
  subst ea
  have Y : gY D cT H0 p s m _ meth c prog_12_method_35_code 10 "PlanTextModel" 3 76 S (Option.some Jvm.ClassFile.FieldType.boolean) := ⟨X, hZ, hex, hr, hE⟩
  have hx := X.1
  have hb := X.2.1
  have hl := lv_entry ([va_rf (some h0), .int p0, .int p1]) (n := 10) (Nat.le_of_ble_eq_true rfl)
  rw [lg_entry_eq]
  generalize (lg_sl ([va_rf (some h0), .int p0, .int p1]) ++ List.replicate (10 - (lg_sl ([va_rf (some h0), .int p0, .int p1])).length) Slot.unset).toArray = ls at hl ⊢
  have hl : lv_has ls 10 [(0, va_rf (some h0)), (1, .int p0), (2, .int p1)] := hl
  unfold D_Mo_isMet at hden
  refine gV.lift (fun _ _ _ _ => lv_bipush (v := 50) hx hb d_Mo_isMet_0 (by decide)) ?_
  refine gV.lift (fun _ _ _ _ => lv_iload_n hx hb d_Mo_isMet_2 rfl (lv_at hl 1 rfl)) ?_
  refine gV.lift (fun _ _ _ _ => lv_imul hx hb d_Mo_isMet_3) ?_
  refine gV.lift (fun _ _ _ _ => lv_iload_n hx hb d_Mo_isMet_4 rfl (lv_at hl 2 rfl)) ?_
  refine gV.lift (fun _ _ _ _ => lv_iadd hx hb d_Mo_isMet_5) ?_
  refine gV.liftS (nL := 10) (lv' := [(3, .int ((50 * p0) + p1)), (0, va_rf (some h0)), (1, .int p0), (2, .int p1)]) (fun _ _ _ _ => lv_istore_n hx hb d_Mo_isMet_6 rfl hl (by decide) rfl) (fun ls hl => ?_)
  refine gV.lift (fun _ _ _ _ => g_aload_n hx hb d_Mo_isMet_7 rfl (lv_at hl 1 rfl)) ?_
  replace hden := gb hden
  obtain ⟨r1, hv, hden⟩ := hden
  refine r_getR X cl_Mo (k := 12) hv (by decide) q_777 d_Mo_isMet_8 ?_
  refine gV.lift (fun _ _ _ _ => lv_iload_n hx hb d_Mo_isMet_11 rfl (lv_at hl 0 rfl)) ?_
  replace hden := gb hden
  obtain ⟨a2, rfl, hden⟩ := hden
  replace hden := gb hden
  obtain ⟨v3, hv, hden⟩ := hden
  refine r_iald X (t := 0) rfl hv d_Mo_isMet_12 ?_
  refine gV.lift2 (fun _ _ _ _ => lv_if_le (tgt := 25) hx hb d_Mo_isMet_13 (by decide)) (fun hc4 => ?_) (fun hc4 => ?_)
  · replace hden := gip hc4 hden
    refine gV.lift (fun _ _ _ _ => g_aload_n hx hb d_Mo_isMet_25 rfl (lv_at hl 1 rfl)) ?_
    refine gV.lift (fun _ _ _ _ => lv_iload_n hx hb d_Mo_isMet_26 rfl (lv_at hl 2 rfl)) ?_
    replace hden := gb hden
    obtain ⟨fs7, ho, hden⟩ := hden
    replace hden := gb2 hden
    obtain ⟨v6, S5, hz, hden⟩ := hden
    refine g_callV (As := [.int p0]) (rest := []) X hZ (c_Mo_free hz) cl_Mo (gOb_spec ho) q_981 q_5 q_978 q_980 qp_47 ⟨by decide, by decide, by show _ = some 1; decide +kernel⟩ ⟨by decide, by decide⟩ hl.1 (Nat.le_of_ble_eq_true rfl) d_Mo_isMet_27 rfl rfl ?_
    exact w_Mo_isMet_30 Y  h0 p0 ((50 * p0) + p1) v6 S5 hden (lv_sub hl [1, 2, 0] rfl)
  · replace hden := gin hc4 hden
    refine gV.lift (fun _ _ _ _ => g_aload_n hx hb d_Mo_isMet_16 rfl (lv_at hl 1 rfl)) ?_
    replace hden := gb hden
    obtain ⟨r8, hv, hden⟩ := hden
    refine r_getR X cl_Mo (k := 12) hv (by decide) q_777 d_Mo_isMet_17 ?_
    refine gV.lift (fun _ _ _ _ => lv_iload_n hx hb d_Mo_isMet_20 rfl (lv_at hl 0 rfl)) ?_
    replace hden := gb hden
    obtain ⟨a9, rfl, hden⟩ := hden
    replace hden := gb hden
    obtain ⟨v10, hv, hden⟩ := hden
    refine r_iald X (t := 0) rfl hv d_Mo_isMet_21 ?_
    refine gV.lift (fun _ _ _ _ => lv_goto (tgt := 30) hx hb d_Mo_isMet_22 (by decide)) ?_
    exact w_Mo_isMet_30 Y  h0 p0 ((50 * p0) + p1) v10 S hden (lv_sub hl [1, 2, 0] rfl)
/-! PlanTextModel.never(II)I -/
abbrev y_Mo_never : MethodName := ⟨"PlanTextModel", "never", "(II)I"⟩
theorem d_Mo_never_0 : decode prog_12_method_36_code 0 = .ok (.aload_n 0, 1) := by decide +kernel
theorem d_Mo_never_1 : decode prog_12_method_36_code 1 = .ok (.iload_n 1, 1) := by decide +kernel
theorem d_Mo_never_2 : decode prog_12_method_36_code 2 = .ok (.invokestatic 153, 3) := by decide +kernel
theorem d_Mo_never_5 : decode prog_12_method_36_code 5 = .ok (.ifCond .eq 7, 3) := by decide +kernel
theorem d_Mo_never_8 : decode prog_12_method_36_code 8 = .ok (.iload_n 2, 1) := by decide +kernel
theorem d_Mo_never_9 : decode prog_12_method_36_code 9 = .ok (.ifCond .ge 7, 3) := by decide +kernel
theorem d_Mo_never_12 : decode prog_12_method_36_code 12 = .ok (.iconst 1, 1) := by decide +kernel
theorem d_Mo_never_13 : decode prog_12_method_36_code 13 = .ok (.goto 4, 3) := by decide +kernel
theorem d_Mo_never_16 : decode prog_12_method_36_code 16 = .ok (.iconst 0, 1) := by decide +kernel
theorem d_Mo_never_17 : decode prog_12_method_36_code 17 = .ok (.iconst 0, 1) := by decide +kernel
theorem d_Mo_never_18 : decode prog_12_method_36_code 18 = .ok (.iconst 0, 1) := by decide +kernel
theorem d_Mo_never_19 : decode prog_12_method_36_code 19 = .ok (.invokevirtual 79, 3) := by decide +kernel
theorem d_Mo_never_22 : decode prog_12_method_36_code 22 = .ok (.ifCond .eq 5, 3) := by decide +kernel
theorem d_Mo_never_25 : decode prog_12_method_36_code 25 = .ok (.iconst 0, 1) := by decide +kernel
theorem d_Mo_never_26 : decode prog_12_method_36_code 26 = .ok (.ireturn, 1) := by decide +kernel
theorem d_Mo_never_27 : decode prog_12_method_36_code 27 = .ok (.aload_n 0, 1) := by decide +kernel
theorem d_Mo_never_28 : decode prog_12_method_36_code 28 = .ok (.iload_n 1, 1) := by decide +kernel
theorem d_Mo_never_29 : decode prog_12_method_36_code 29 = .ok (.invokevirtual 156, 3) := by decide +kernel
theorem d_Mo_never_32 : decode prog_12_method_36_code 32 = .ok (.istore_n 3, 1) := by decide +kernel
theorem d_Mo_never_33 : decode prog_12_method_36_code 33 = .ok (.iload_n 2, 1) := by decide +kernel
theorem d_Mo_never_34 : decode prog_12_method_36_code 34 = .ok (.istore 4, 2) := by decide +kernel
theorem d_Mo_never_36 : decode prog_12_method_36_code 36 = .ok (.iconst 1, 1) := by decide +kernel
theorem d_Mo_never_37 : decode prog_12_method_36_code 37 = .ok (.istore 5, 2) := by decide +kernel
theorem d_Mo_never_39 : decode prog_12_method_36_code 39 = .ok (.iload_n 3, 1) := by decide +kernel
theorem d_Mo_never_40 : decode prog_12_method_36_code 40 = .ok (.ifCond .lt 52, 3) := by decide +kernel
theorem d_Mo_never_43 : decode prog_12_method_36_code 43 = .ok (.iload 5, 2) := by decide +kernel
theorem d_Mo_never_45 : decode prog_12_method_36_code 45 = .ok (.bipush 40, 2) := by decide +kernel
theorem d_Mo_never_47 : decode prog_12_method_36_code 47 = .ok (.if_icmp .gt 45, 3) := by decide +kernel
theorem d_Mo_never_50 : decode prog_12_method_36_code 50 = .ok (.aload_n 0, 1) := by decide +kernel
theorem d_Mo_never_51 : decode prog_12_method_36_code 51 = .ok (.getfield 20, 3) := by decide +kernel
theorem d_Mo_never_54 : decode prog_12_method_36_code 54 = .ok (.bipush 50, 2) := by decide +kernel
theorem d_Mo_never_56 : decode prog_12_method_36_code 56 = .ok (.iload_n 3, 1) := by decide +kernel
theorem d_Mo_never_57 : decode prog_12_method_36_code 57 = .ok (.imul, 1) := by decide +kernel
theorem d_Mo_never_58 : decode prog_12_method_36_code 58 = .ok (.iload 5, 2) := by decide +kernel
theorem d_Mo_never_60 : decode prog_12_method_36_code 60 = .ok (.iadd, 1) := by decide +kernel
theorem d_Mo_never_61 : decode prog_12_method_36_code 61 = .ok (.baload, 1) := by decide +kernel
theorem d_Mo_never_62 : decode prog_12_method_36_code 62 = .ok (.ifCond .eq 24, 3) := by decide +kernel
theorem d_Mo_never_65 : decode prog_12_method_36_code 65 = .ok (.aload_n 0, 1) := by decide +kernel
theorem d_Mo_never_66 : decode prog_12_method_36_code 66 = .ok (.iload_n 3, 1) := by decide +kernel
theorem d_Mo_never_67 : decode prog_12_method_36_code 67 = .ok (.iload 5, 2) := by decide +kernel
theorem d_Mo_never_69 : decode prog_12_method_36_code 69 = .ok (.invokevirtual 170, 3) := by decide +kernel
theorem d_Mo_never_72 : decode prog_12_method_36_code 72 = .ok (.ifCond .ne 14, 3) := by decide +kernel
theorem d_Mo_never_75 : decode prog_12_method_36_code 75 = .ok (.iload 4, 2) := by decide +kernel
theorem d_Mo_never_77 : decode prog_12_method_36_code 77 = .ok (.ifCond .ne 6, 3) := by decide +kernel
theorem d_Mo_never_80 : decode prog_12_method_36_code 80 = .ok (.iload 5, 2) := by decide +kernel
theorem d_Mo_never_82 : decode prog_12_method_36_code 82 = .ok (.ireturn, 1) := by decide +kernel
theorem d_Mo_never_83 : decode prog_12_method_36_code 83 = .ok (.iinc 4 (-1), 3) := by decide +kernel
theorem d_Mo_never_86 : decode prog_12_method_36_code 86 = .ok (.iinc 5 1, 3) := by decide +kernel
theorem d_Mo_never_89 : decode prog_12_method_36_code 89 = .ok (.goto (-50), 3) := by decide +kernel
theorem d_Mo_never_92 : decode prog_12_method_36_code 92 = .ok (.iconst (-1), 1) := by decide +kernel
theorem d_Mo_never_93 : decode prog_12_method_36_code 93 = .ok (.ireturn, 1) := by decide +kernel
def B_Mo_never_92   (S : gS) : Option (Int32 × gS) := some ((-1), S)
set_option maxRecDepth 100000 in
set_option maxHeartbeats 4000000 in
theorem w_Mo_never_92 {D : va_G} {cT : Nat → ClassId} {H0 : Heap} {l : Launch} {p : Program} {e : Env} {s : State} {m : MethodId} {args : Array Value} {below : List Frame} {meth : Method} {c : Code} {S0 : gS} {S' : gS} {r : Int32} (Y : gY D cT H0 p s m args meth c prog_12_method_36_code 6 "PlanTextModel" 4 105 S0 (Option.some Jvm.ClassFile.FieldType.int))   (S : gS) (hden : B_Mo_never_92   S = some (r, S')) {ls : Array Slot} (hl : lv_has ls 6 []) : gV D cT H0 p l e (gRm 4 105 S0) s m args below meth c (gQ D cT H0 below S0 S' (.inr (some (.int r))) s) S0 S (F0 m 92 ls []) := by
  obtain ⟨X, hZ, hex, hr, hE⟩ := id Y
  have hx := X.1
  have hb := X.2.1
  unfold B_Mo_never_92 at hden
  refine gV.lift (fun _ _ _ _ => lv_iconst (v := (-1)) hx hb d_Mo_never_92 (by decide)) ?_
  obtain ⟨rfl, rfl⟩ := gpi hden
  exact g_iret X hr d_Mo_never_93
def B_Mo_never_86 (k39 : Nat → Int32 → Int32 → Int32 → gS → Option (Int32 × gS)) (x0 : Nat) (x3 : Int32) (x4 : Int32) (x5 : Int32) (S : gS) : Option (Int32 × gS) := k39 x0 x3 x4 (x5 + 1) S
set_option maxRecDepth 100000 in
set_option maxHeartbeats 4000000 in
theorem w_Mo_never_86 {D : va_G} {cT : Nat → ClassId} {H0 : Heap} {l : Launch} {p : Program} {e : Env} {s : State} {m : MethodId} {args : Array Value} {below : List Frame} {meth : Method} {c : Code} {S0 : gS} {S' : gS} {r : Int32} (Y : gY D cT H0 p s m args meth c prog_12_method_36_code 6 "PlanTextModel" 4 105 S0 (Option.some Jvm.ClassFile.FieldType.int)) {k39 : Nat → Int32 → Int32 → Int32 → gS → Option (Int32 × gS)} (hk39 : ∀ (x0 : Nat) (x3 : Int32) (x4 : Int32) (x5 : Int32) (S : gS) (ls : Array Slot), k39 x0 x3 x4 x5 S = some (r, S') → lv_has ls 6 [(0, va_rf (some x0)), (3, .int x3), (4, .int x4), (5, .int x5)] → gV D cT H0 p l e (gRm 4 105 S0) s m args below meth c (gQ D cT H0 below S0 S' (.inr (some (.int r))) s) S0 S (F0 m 39 ls [])) (x0 : Nat) (x3 : Int32) (x4 : Int32) (x5 : Int32) (S : gS) (hden : B_Mo_never_86 k39 x0 x3 x4 x5 S = some (r, S')) {ls : Array Slot} (hl : lv_has ls 6 [(0, va_rf (some x0)), (3, .int x3), (4, .int x4), (5, .int x5)]) : gV D cT H0 p l e (gRm 4 105 S0) s m args below meth c (gQ D cT H0 below S0 S' (.inr (some (.int r))) s) S0 S (F0 m 86 ls []) := by
  obtain ⟨X, hZ, hex, hr, hE⟩ := id Y
  have hx := X.1
  have hb := X.2.1
  unfold B_Mo_never_86 at hden
  refine gV.liftS (nL := 6) (lv' := [(5, .int (x5 + 1)), (0, va_rf (some x0)), (3, .int x3), (4, .int x4)]) (fun _ _ _ _ => lv_iinc (v := (x5 + 1)) hx hb d_Mo_never_86 hl (k := 3) rfl rfl (by decide) rfl) (fun ls hl => ?_)
  refine gV.lift (fun _ _ _ _ => lv_goto (tgt := 39) hx hb d_Mo_never_89 (by decide)) ?_
  exact hk39 x0 x3 x4 (x5 + 1) S _ hden (lv_sub hl [1, 2, 3, 0] rfl)
def B_Mo_never_39 (k39 : Nat → Int32 → Int32 → Int32 → gS → Option (Int32 × gS)) (x0 : Nat) (x3 : Int32) (x4 : Int32) (x5 : Int32) (S : gS) : Option (Int32 × gS) := (if x3 < 0 then B_Mo_never_92  S else (if 40 < x5 then B_Mo_never_92  S else Option.bind (gRf S x0 10 10) (fun r3 => Option.bind r3 (fun a4 => Option.bind (gAI S a4 3 ((50 * x3) + x5)) (fun v5 => (if v5 = 0 then B_Mo_never_86 k39 x0 x3 x4 x5 S else Option.bind (gOb S x0 10) (fun fs9 => gB2 (D_Mo_isMet x0 x3 x5 S) (fun v8 S7 => (if v8 = 0 then (if x4 = 0 then some (x5, S7) else B_Mo_never_86 k39 x0 x3 (x4 + (-1)) x5 S7) else B_Mo_never_86 k39 x0 x3 x4 x5 S7)))))))))
set_option maxRecDepth 100000 in
set_option maxHeartbeats 4000000 in
theorem w_Mo_never_39 {D : va_G} {cT : Nat → ClassId} {H0 : Heap} {l : Launch} {p : Program} {e : Env} {s : State} {m : MethodId} {args : Array Value} {below : List Frame} {meth : Method} {c : Code} {S0 : gS} {S' : gS} {r : Int32} (Y : gY D cT H0 p s m args meth c prog_12_method_36_code 6 "PlanTextModel" 4 105 S0 (Option.some Jvm.ClassFile.FieldType.int)) {k39 : Nat → Int32 → Int32 → Int32 → gS → Option (Int32 × gS)} (hk39 : ∀ (x0 : Nat) (x3 : Int32) (x4 : Int32) (x5 : Int32) (S : gS) (ls : Array Slot), k39 x0 x3 x4 x5 S = some (r, S') → lv_has ls 6 [(0, va_rf (some x0)), (3, .int x3), (4, .int x4), (5, .int x5)] → gV D cT H0 p l e (gRm 4 105 S0) s m args below meth c (gQ D cT H0 below S0 S' (.inr (some (.int r))) s) S0 S (F0 m 39 ls [])) (x0 : Nat) (x3 : Int32) (x4 : Int32) (x5 : Int32) (S : gS) (hden : B_Mo_never_39 k39 x0 x3 x4 x5 S = some (r, S')) {ls : Array Slot} (hl : lv_has ls 6 [(0, va_rf (some x0)), (3, .int x3), (4, .int x4), (5, .int x5)]) : gV D cT H0 p l e (gRm 4 105 S0) s m args below meth c (gQ D cT H0 below S0 S' (.inr (some (.int r))) s) S0 S (F0 m 39 ls []) := by
  obtain ⟨X, hZ, hex, hr, hE⟩ := id Y
  have hx := X.1
  have hb := X.2.1
  unfold B_Mo_never_39 at hden
  refine gV.lift (fun _ _ _ _ => lv_iload_n hx hb d_Mo_never_39 rfl (lv_at hl 1 rfl)) ?_
  refine gV.lift2 (fun _ _ _ _ => lv_if_lt (tgt := 92) hx hb d_Mo_never_40 (by decide)) (fun hc1 => ?_) (fun hc1 => ?_)
  · replace hden := gip hc1 hden
    exact w_Mo_never_92 Y  S hden (lv_sub hl [] rfl)
  · replace hden := gin hc1 hden
    refine gV.lift (fun _ _ _ _ => lv_iload hx hb d_Mo_never_43 (lv_at hl 3 rfl)) ?_
    refine gV.lift (fun _ _ _ _ => lv_bipush (v := 40) hx hb d_Mo_never_45 (by decide)) ?_
    refine gV.lift2 (fun _ _ _ _ => lv_icmp_gt (tgt := 92) hx hb d_Mo_never_47 (by decide)) (fun hc2 => ?_) (fun hc2 => ?_)
    · replace hden := gip hc2 hden
      exact w_Mo_never_92 Y  S hden (lv_sub hl [] rfl)
    · replace hden := gin hc2 hden
      refine gV.lift (fun _ _ _ _ => g_aload_n hx hb d_Mo_never_50 rfl (lv_at hl 0 rfl)) ?_
      replace hden := gb hden
      obtain ⟨r3, hv, hden⟩ := hden
      refine r_getR X cl_Mo (k := 10) hv (by decide) q_775 d_Mo_never_51 ?_
      refine gV.lift (fun _ _ _ _ => lv_bipush (v := 50) hx hb d_Mo_never_54 (by decide)) ?_
      refine gV.lift (fun _ _ _ _ => lv_iload_n hx hb d_Mo_never_56 rfl (lv_at hl 1 rfl)) ?_
      refine gV.lift (fun _ _ _ _ => lv_imul hx hb d_Mo_never_57) ?_
      refine gV.lift (fun _ _ _ _ => lv_iload hx hb d_Mo_never_58 (lv_at hl 3 rfl)) ?_
      refine gV.lift (fun _ _ _ _ => lv_iadd hx hb d_Mo_never_60) ?_
      replace hden := gb hden
      obtain ⟨a4, rfl, hden⟩ := hden
      replace hden := gb hden
      obtain ⟨v5, hv, hden⟩ := hden
      refine r_zald X (t := 3) rfl hv d_Mo_never_61 ?_
      refine gV.lift2 (fun _ _ _ _ => lv_if_eq (tgt := 86) hx hb d_Mo_never_62 (by decide)) (fun hc6 => ?_) (fun hc6 => ?_)
      · replace hden := gip hc6 hden
        exact w_Mo_never_86 Y hk39 x0 x3 x4 x5 S hden (lv_sub hl [0, 1, 2, 3] rfl)
      · replace hden := gin hc6 hden
        refine gV.lift (fun _ _ _ _ => g_aload_n hx hb d_Mo_never_65 rfl (lv_at hl 0 rfl)) ?_
        refine gV.lift (fun _ _ _ _ => lv_iload_n hx hb d_Mo_never_66 rfl (lv_at hl 1 rfl)) ?_
        refine gV.lift (fun _ _ _ _ => lv_iload hx hb d_Mo_never_67 (lv_at hl 3 rfl)) ?_
        replace hden := gb hden
        obtain ⟨fs9, ho, hden⟩ := hden
        replace hden := gb2 hden
        obtain ⟨v8, S7, hz, hden⟩ := hden
        refine g_callV (As := [.int x3, .int x5]) (rest := []) X hZ (c_Mo_isMet hz) cl_Mo (gOb_spec ho) q_977 q_5 q_974 q_976 qp_46 ⟨by decide, by decide, by show _ = some 2; decide +kernel⟩ ⟨by decide, by decide⟩ hl.1 (Nat.le_of_ble_eq_true rfl) d_Mo_never_69 rfl rfl ?_
        refine gV.lift2 (fun _ _ _ _ => lv_if_ne (tgt := 86) hx hb d_Mo_never_72 (by decide)) (fun hc10 => ?_) (fun hc10 => ?_)
        · replace hden := gin hc10 hden
          exact w_Mo_never_86 Y hk39 x0 x3 x4 x5 S7 hden (lv_sub hl [0, 1, 2, 3] rfl)
        · replace hden := gip hc10 hden
          refine gV.lift (fun _ _ _ _ => lv_iload hx hb d_Mo_never_75 (lv_at hl 2 rfl)) ?_
          refine gV.lift2 (fun _ _ _ _ => lv_if_ne (tgt := 83) hx hb d_Mo_never_77 (by decide)) (fun hc11 => ?_) (fun hc11 => ?_)
          · replace hden := gin hc11 hden
            refine gV.liftS (nL := 6) (lv' := [(4, .int (x4 + (-1))), (0, va_rf (some x0)), (3, .int x3), (5, .int x5)]) (fun _ _ _ _ => lv_iinc (v := (x4 + (-1))) hx hb d_Mo_never_83 hl (k := 2) rfl rfl (by decide) rfl) (fun ls hl => ?_)
            exact w_Mo_never_86 Y hk39 x0 x3 (x4 + (-1)) x5 S7 hden (lv_sub hl [1, 2, 0, 3] rfl)
          · replace hden := gip hc11 hden
            refine gV.lift (fun _ _ _ _ => lv_iload hx hb d_Mo_never_80 (lv_at hl 3 rfl)) ?_
            obtain ⟨rfl, rfl⟩ := gpi hden
            exact g_iret X hr d_Mo_never_82
def L_Mo_never_39  : Nat → Nat → Int32 → Int32 → Int32 → gS → Option (Int32 × gS)
  | 0 => fun _ _ _ _ _ => none
  | n + 1 => fun x0 x3 x4 x5 S => B_Mo_never_39  (L_Mo_never_39  n) x0 x3 x4 x5 S
theorem wL_Mo_never_39 {D : va_G} {cT : Nat → ClassId} {H0 : Heap} {l : Launch} {p : Program} {e : Env} {s : State} {m : MethodId} {args : Array Value} {below : List Frame} {meth : Method} {c : Code} {S0 : gS} {S' : gS} {r : Int32} (Y : gY D cT H0 p s m args meth c prog_12_method_36_code 6 "PlanTextModel" 4 105 S0 (Option.some Jvm.ClassFile.FieldType.int))  : ∀ (n : Nat) (x0 : Nat) (x3 : Int32) (x4 : Int32) (x5 : Int32) (S : gS) (ls : Array Slot), L_Mo_never_39  n x0 x3 x4 x5 S = some (r, S') → lv_has ls 6 [(0, va_rf (some x0)), (3, .int x3), (4, .int x4), (5, .int x5)] → gV D cT H0 p l e (gRm 4 105 S0) s m args below meth c (gQ D cT H0 below S0 S' (.inr (some (.int r))) s) S0 S (F0 m 39 ls []) := by
  intro n
  induction n with
  | zero => intro x0 x3 x4 x5 S ls h hl; cases h
  | succ n ih => intro x0 x3 x4 x5 S ls h hl; exact w_Mo_never_39 Y ih x0 x3 x4 x5 S h hl
def B_Mo_never_17  (x0 : Nat) (x1 : Int32) (x2 : Int32) (t0 : Int32) (t1 : Nat) (S : gS) : Option (Int32 × gS) := Option.bind (gOb S t1 10) (fun fs3 => gB2 (D_Mo_throwing t1 t0 0 0 S) (fun v2 S1 => (if v2 = 0 then Option.bind (gOb S1 x0 10) (fun fs7 => gB2 (D_Mo_editionOf x0 x1 S1) (fun v6 S5 => L_Mo_never_39  gF x0 v6 x2 1 S5)) else some (0, S1))))
set_option maxRecDepth 100000 in
set_option maxHeartbeats 4000000 in
theorem w_Mo_never_17 {D : va_G} {cT : Nat → ClassId} {H0 : Heap} {l : Launch} {p : Program} {e : Env} {s : State} {m : MethodId} {args : Array Value} {below : List Frame} {meth : Method} {c : Code} {S0 : gS} {S' : gS} {r : Int32} (Y : gY D cT H0 p s m args meth c prog_12_method_36_code 6 "PlanTextModel" 4 105 S0 (Option.some Jvm.ClassFile.FieldType.int))  (x0 : Nat) (x1 : Int32) (x2 : Int32) (t0 : Int32) (t1 : Nat) (S : gS) (hden : B_Mo_never_17  x0 x1 x2 t0 t1 S = some (r, S')) {ls : Array Slot} (hl : lv_has ls 6 [(0, va_rf (some x0)), (1, .int x1), (2, .int x2)]) : gV D cT H0 p l e (gRm 4 105 S0) s m args below meth c (gQ D cT H0 below S0 S' (.inr (some (.int r))) s) S0 S (F0 m 17 ls [.int t0, va_rf (some t1)]) := by
  obtain ⟨X, hZ, hex, hr, hE⟩ := id Y
  have hx := X.1
  have hb := X.2.1
  unfold B_Mo_never_17 at hden
  refine gV.lift (fun _ _ _ _ => lv_iconst (v := 0) hx hb d_Mo_never_17 (by decide)) ?_
  refine gV.lift (fun _ _ _ _ => lv_iconst (v := 0) hx hb d_Mo_never_18 (by decide)) ?_
  replace hden := gb hden
  obtain ⟨fs3, ho, hden⟩ := hden
  replace hden := gb2 hden
  obtain ⟨v2, S1, hz, hden⟩ := hden
  refine g_callV (As := [.int t0, .int 0, .int 0]) (rest := []) X hZ (c_Mo_throwing hz) cl_Mo (gOb_spec ho) q_859 q_5 q_856 q_858 qp_26 ⟨by decide, by decide, by show _ = some 3; decide +kernel⟩ ⟨by decide, by decide⟩ hl.1 (Nat.le_of_ble_eq_true rfl) d_Mo_never_19 rfl rfl ?_
  refine gV.lift2 (fun _ _ _ _ => lv_if_eq (tgt := 27) hx hb d_Mo_never_22 (by decide)) (fun hc4 => ?_) (fun hc4 => ?_)
  · replace hden := gip hc4 hden
    refine gV.lift (fun _ _ _ _ => g_aload_n hx hb d_Mo_never_27 rfl (lv_at hl 0 rfl)) ?_
    refine gV.lift (fun _ _ _ _ => lv_iload_n hx hb d_Mo_never_28 rfl (lv_at hl 1 rfl)) ?_
    replace hden := gb hden
    obtain ⟨fs7, ho, hden⟩ := hden
    replace hden := gb2 hden
    obtain ⟨v6, S5, hz, hden⟩ := hden
    refine g_callV (As := [.int x1]) (rest := []) X hZ (c_Mo_editionOf hz) cl_Mo (gOb_spec ho) q_942 q_5 q_939 q_941 qp_42 ⟨by decide, by decide, by show _ = some 1; decide +kernel⟩ ⟨by decide, by decide⟩ hl.1 (Nat.le_of_ble_eq_true rfl) d_Mo_never_29 rfl rfl ?_
    refine gV.liftS (nL := 6) (lv' := [(3, .int v6), (0, va_rf (some x0)), (1, .int x1), (2, .int x2)]) (fun _ _ _ _ => lv_istore_n hx hb d_Mo_never_32 rfl hl (by decide) rfl) (fun ls hl => ?_)
    refine gV.lift (fun _ _ _ _ => lv_iload_n hx hb d_Mo_never_33 rfl (lv_at hl 3 rfl)) ?_
    refine gV.liftS (nL := 6) (lv' := [(4, .int x2), (3, .int v6), (0, va_rf (some x0)), (1, .int x1), (2, .int x2)]) (fun _ _ _ _ => lv_istore hx hb d_Mo_never_34 hl (by decide) rfl) (fun ls hl => ?_)
    refine gV.lift (fun _ _ _ _ => lv_iconst (v := 1) hx hb d_Mo_never_36 (by decide)) ?_
    refine gV.liftS (nL := 6) (lv' := [(5, .int 1), (4, .int x2), (3, .int v6), (0, va_rf (some x0)), (1, .int x1), (2, .int x2)]) (fun _ _ _ _ => lv_istore hx hb d_Mo_never_37 hl (by decide) rfl) (fun ls hl => ?_)
    exact wL_Mo_never_39 Y  gF x0 v6 x2 1 S5 _ hden (lv_sub hl [3, 2, 1, 0] rfl)
  · replace hden := gin hc4 hden
    refine gV.lift (fun _ _ _ _ => lv_iconst (v := 0) hx hb d_Mo_never_25 (by decide)) ?_
    obtain ⟨rfl, rfl⟩ := gpi hden
    exact g_iret X hr d_Mo_never_26
def B_Mo_never_12  (x0 : Nat) (x1 : Int32) (x2 : Int32) (t0 : Nat) (S : gS) : Option (Int32 × gS) := B_Mo_never_17  x0 x1 x2 1 t0 S
set_option maxRecDepth 100000 in
set_option maxHeartbeats 4000000 in
theorem w_Mo_never_12 {D : va_G} {cT : Nat → ClassId} {H0 : Heap} {l : Launch} {p : Program} {e : Env} {s : State} {m : MethodId} {args : Array Value} {below : List Frame} {meth : Method} {c : Code} {S0 : gS} {S' : gS} {r : Int32} (Y : gY D cT H0 p s m args meth c prog_12_method_36_code 6 "PlanTextModel" 4 105 S0 (Option.some Jvm.ClassFile.FieldType.int))  (x0 : Nat) (x1 : Int32) (x2 : Int32) (t0 : Nat) (S : gS) (hden : B_Mo_never_12  x0 x1 x2 t0 S = some (r, S')) {ls : Array Slot} (hl : lv_has ls 6 [(0, va_rf (some x0)), (1, .int x1), (2, .int x2)]) : gV D cT H0 p l e (gRm 4 105 S0) s m args below meth c (gQ D cT H0 below S0 S' (.inr (some (.int r))) s) S0 S (F0 m 12 ls [va_rf (some t0)]) := by
  obtain ⟨X, hZ, hex, hr, hE⟩ := id Y
  have hx := X.1
  have hb := X.2.1
  unfold B_Mo_never_12 at hden
  refine gV.lift (fun _ _ _ _ => lv_iconst (v := 1) hx hb d_Mo_never_12 (by decide)) ?_
  refine gV.lift (fun _ _ _ _ => lv_goto (tgt := 17) hx hb d_Mo_never_13 (by decide)) ?_
  exact w_Mo_never_17 Y  x0 x1 x2 1 t0 S hden (lv_sub hl [0, 1, 2] rfl)
def D_Mo_never (h0 : Nat) (p0 : Int32) (p1 : Int32) (S : gS) : Option (Int32 × gS) := gB2 (D_Mo_isDay p0 S) (fun v2 S1 => (if v2 = 0 then B_Mo_never_12  h0 p0 p1 h0 S1 else (if 0 ≤ p1 then B_Mo_never_17  h0 p0 p1 0 h0 S1 else B_Mo_never_12  h0 p0 p1 h0 S1)))
set_option maxRecDepth 100000 in
set_option maxHeartbeats 4000000 in
theorem c_Mo_never {D : va_G} {cT : Nat → ClassId} {H0 : Heap} {l : Launch} {S : gS} {S' : gS} {h0 : Nat} {p0 : Int32} {p1 : Int32} {r : Int32} (hden : D_Mo_never h0 p0 p1 S = some (r, S')) : gM D cT H0 l y_Mo_never (Cond.code y_Mo_never prog_12_method_36_code 6 (Option.some Jvm.ClassFile.FieldType.int)) 4 105 [va_rf (some h0), .int p0, .int p1] S S' (.inr (some (.int r))) := by
  refine gM.ofV (by decide) ?_
  intro p e s m args below meth c s₁ B hml ea X hZ hex hr hE
  subst ea
  have Y : gY D cT H0 p s m _ meth c prog_12_method_36_code 6 "PlanTextModel" 4 105 S (Option.some Jvm.ClassFile.FieldType.int) := ⟨X, hZ, hex, hr, hE⟩
  have hx := X.1
  have hb := X.2.1
  have hl := lv_entry ([va_rf (some h0), .int p0, .int p1]) (n := 6) (Nat.le_of_ble_eq_true rfl)
  rw [lg_entry_eq]
  generalize (lg_sl ([va_rf (some h0), .int p0, .int p1]) ++ List.replicate (6 - (lg_sl ([va_rf (some h0), .int p0, .int p1])).length) Slot.unset).toArray = ls at hl ⊢
  have hl : lv_has ls 6 [(0, va_rf (some h0)), (1, .int p0), (2, .int p1)] := hl
  unfold D_Mo_never at hden
  refine gV.lift (fun _ _ _ _ => g_aload_n hx hb d_Mo_never_0 rfl (lv_at hl 0 rfl)) ?_
  refine gV.lift (fun _ _ _ _ => lv_iload_n hx hb d_Mo_never_1 rfl (lv_at hl 1 rfl)) ?_
  replace hden := gb2 hden
  obtain ⟨v2, S1, hz, hden⟩ := hden
  refine g_callS (As := [.int p0]) (rest := [va_rf (some h0)]) X hZ (c_Mo_isDay hz) q_938 q_5 q_936 q_937 ⟨by decide, by decide, by show _ = some 1; decide +kernel⟩ ⟨by decide, by decide⟩ hl.1 (Nat.le_of_ble_eq_true rfl) d_Mo_never_2 rfl rfl ?_
  refine gV.lift2 (fun _ _ _ _ => lv_if_eq (tgt := 12) hx hb d_Mo_never_5 (by decide)) (fun hc3 => ?_) (fun hc3 => ?_)
  · replace hden := gip hc3 hden
    exact w_Mo_never_12 Y  h0 p0 p1 h0 S1 hden (lv_sub hl [0, 1, 2] rfl)
  · replace hden := gin hc3 hden
    refine gV.lift (fun _ _ _ _ => lv_iload_n hx hb d_Mo_never_8 rfl (lv_at hl 2 rfl)) ?_
    refine gV.lift2 (fun _ _ _ _ => lv_if_ge (tgt := 16) hx hb d_Mo_never_9 (by decide)) (fun hc4 => ?_) (fun hc4 => ?_)
    · replace hden := gip hc4 hden
      refine gV.lift (fun _ _ _ _ => lv_iconst (v := 0) hx hb d_Mo_never_16 (by decide)) ?_
      exact w_Mo_never_17 Y  h0 p0 p1 0 h0 S1 hden (lv_sub hl [0, 1, 2] rfl)
    · replace hden := gin hc4 hden
      exact w_Mo_never_12 Y  h0 p0 p1 h0 S1 hden (lv_sub hl [0, 1, 2] rfl)
/-! PlanTextModel.isShort(I)Z -/
abbrev y_Mo_isShort : MethodName := ⟨"PlanTextModel", "isShort", "(I)Z"⟩
theorem d_Mo_isShort_0 : decode prog_12_method_37_code 0 = .ok (.iconst 0, 1) := by decide +kernel
theorem d_Mo_isShort_1 : decode prog_12_method_37_code 1 = .ok (.istore_n 2, 1) := by decide +kernel
theorem d_Mo_isShort_2 : decode prog_12_method_37_code 2 = .ok (.bipush 25, 2) := by decide +kernel
theorem d_Mo_isShort_4 : decode prog_12_method_37_code 4 = .ok (.iload_n 1, 1) := by decide +kernel
theorem d_Mo_isShort_5 : decode prog_12_method_37_code 5 = .ok (.imul, 1) := by decide +kernel
theorem d_Mo_isShort_6 : decode prog_12_method_37_code 6 = .ok (.istore_n 3, 1) := by decide +kernel
theorem d_Mo_isShort_7 : decode prog_12_method_37_code 7 = .ok (.iload_n 3, 1) := by decide +kernel
theorem d_Mo_isShort_8 : decode prog_12_method_37_code 8 = .ok (.bipush 25, 2) := by decide +kernel
theorem d_Mo_isShort_10 : decode prog_12_method_37_code 10 = .ok (.iload_n 1, 1) := by decide +kernel
theorem d_Mo_isShort_11 : decode prog_12_method_37_code 11 = .ok (.imul, 1) := by decide +kernel
theorem d_Mo_isShort_12 : decode prog_12_method_37_code 12 = .ok (.iconst 5, 1) := by decide +kernel
theorem d_Mo_isShort_13 : decode prog_12_method_37_code 13 = .ok (.aload_n 0, 1) := by decide +kernel
theorem d_Mo_isShort_14 : decode prog_12_method_37_code 14 = .ok (.getfield 45, 3) := by decide +kernel
theorem d_Mo_isShort_17 : decode prog_12_method_37_code 17 = .ok (.iload_n 1, 1) := by decide +kernel
theorem d_Mo_isShort_18 : decode prog_12_method_37_code 18 = .ok (.iaload, 1) := by decide +kernel
theorem d_Mo_isShort_19 : decode prog_12_method_37_code 19 = .ok (.imul, 1) := by decide +kernel
theorem d_Mo_isShort_20 : decode prog_12_method_37_code 20 = .ok (.iadd, 1) := by decide +kernel
theorem d_Mo_isShort_21 : decode prog_12_method_37_code 21 = .ok (.if_icmp .ge 111, 3) := by decide +kernel
theorem d_Mo_isShort_24 : decode prog_12_method_37_code 24 = .ok (.aload_n 0, 1) := by decide +kernel
theorem d_Mo_isShort_25 : decode prog_12_method_37_code 25 = .ok (.getfield 57, 3) := by decide +kernel
theorem d_Mo_isShort_28 : decode prog_12_method_37_code 28 = .ok (.aload_n 0, 1) := by decide +kernel
theorem d_Mo_isShort_29 : decode prog_12_method_37_code 29 = .ok (.getfield 48, 3) := by decide +kernel
theorem d_Mo_isShort_32 : decode prog_12_method_37_code 32 = .ok (.iload_n 3, 1) := by decide +kernel
theorem d_Mo_isShort_33 : decode prog_12_method_37_code 33 = .ok (.iconst 1, 1) := by decide +kernel
theorem d_Mo_isShort_34 : decode prog_12_method_37_code 34 = .ok (.iadd, 1) := by decide +kernel
theorem d_Mo_isShort_35 : decode prog_12_method_37_code 35 = .ok (.iaload, 1) := by decide +kernel
theorem d_Mo_isShort_36 : decode prog_12_method_37_code 36 = .ok (.iaload, 1) := by decide +kernel
theorem d_Mo_isShort_37 : decode prog_12_method_37_code 37 = .ok (.istore 4, 2) := by decide +kernel
theorem d_Mo_isShort_39 : decode prog_12_method_37_code 39 = .ok (.iload 4, 2) := by decide +kernel
theorem d_Mo_isShort_41 : decode prog_12_method_37_code 41 = .ok (.aload_n 0, 1) := by decide +kernel
theorem d_Mo_isShort_42 : decode prog_12_method_37_code 42 = .ok (.getfield 48, 3) := by decide +kernel
theorem d_Mo_isShort_45 : decode prog_12_method_37_code 45 = .ok (.iload_n 3, 1) := by decide +kernel
theorem d_Mo_isShort_46 : decode prog_12_method_37_code 46 = .ok (.iconst 2, 1) := by decide +kernel
theorem d_Mo_isShort_47 : decode prog_12_method_37_code 47 = .ok (.iadd, 1) := by decide +kernel
theorem d_Mo_isShort_48 : decode prog_12_method_37_code 48 = .ok (.iaload, 1) := by decide +kernel
theorem d_Mo_isShort_49 : decode prog_12_method_37_code 49 = .ok (.ifCond .ge 7, 3) := by decide +kernel
theorem d_Mo_isShort_52 : decode prog_12_method_37_code 52 = .ok (.iconst 0, 1) := by decide +kernel
theorem d_Mo_isShort_53 : decode prog_12_method_37_code 53 = .ok (.goto 16, 3) := by decide +kernel
theorem d_Mo_isShort_56 : decode prog_12_method_37_code 56 = .ok (.aload_n 0, 1) := by decide +kernel
theorem d_Mo_isShort_57 : decode prog_12_method_37_code 57 = .ok (.getfield 57, 3) := by decide +kernel
theorem d_Mo_isShort_60 : decode prog_12_method_37_code 60 = .ok (.aload_n 0, 1) := by decide +kernel
theorem d_Mo_isShort_61 : decode prog_12_method_37_code 61 = .ok (.getfield 48, 3) := by decide +kernel
theorem d_Mo_isShort_64 : decode prog_12_method_37_code 64 = .ok (.iload_n 3, 1) := by decide +kernel
theorem d_Mo_isShort_65 : decode prog_12_method_37_code 65 = .ok (.iconst 2, 1) := by decide +kernel
theorem d_Mo_isShort_66 : decode prog_12_method_37_code 66 = .ok (.iadd, 1) := by decide +kernel
theorem d_Mo_isShort_67 : decode prog_12_method_37_code 67 = .ok (.iaload, 1) := by decide +kernel
theorem d_Mo_isShort_68 : decode prog_12_method_37_code 68 = .ok (.iaload, 1) := by decide +kernel
theorem d_Mo_isShort_69 : decode prog_12_method_37_code 69 = .ok (.iadd, 1) := by decide +kernel
theorem d_Mo_isShort_70 : decode prog_12_method_37_code 70 = .ok (.istore 4, 2) := by decide +kernel
theorem d_Mo_isShort_72 : decode prog_12_method_37_code 72 = .ok (.iload 4, 2) := by decide +kernel
theorem d_Mo_isShort_74 : decode prog_12_method_37_code 74 = .ok (.aload_n 0, 1) := by decide +kernel
theorem d_Mo_isShort_75 : decode prog_12_method_37_code 75 = .ok (.getfield 48, 3) := by decide +kernel
theorem d_Mo_isShort_78 : decode prog_12_method_37_code 78 = .ok (.iload_n 3, 1) := by decide +kernel
theorem d_Mo_isShort_79 : decode prog_12_method_37_code 79 = .ok (.iconst 3, 1) := by decide +kernel
theorem d_Mo_isShort_80 : decode prog_12_method_37_code 80 = .ok (.iadd, 1) := by decide +kernel
theorem d_Mo_isShort_81 : decode prog_12_method_37_code 81 = .ok (.iaload, 1) := by decide +kernel
theorem d_Mo_isShort_82 : decode prog_12_method_37_code 82 = .ok (.ifCond .ge 7, 3) := by decide +kernel
theorem d_Mo_isShort_85 : decode prog_12_method_37_code 85 = .ok (.iconst 0, 1) := by decide +kernel
theorem d_Mo_isShort_86 : decode prog_12_method_37_code 86 = .ok (.goto 16, 3) := by decide +kernel
theorem d_Mo_isShort_89 : decode prog_12_method_37_code 89 = .ok (.aload_n 0, 1) := by decide +kernel
theorem d_Mo_isShort_90 : decode prog_12_method_37_code 90 = .ok (.getfield 57, 3) := by decide +kernel
theorem d_Mo_isShort_93 : decode prog_12_method_37_code 93 = .ok (.aload_n 0, 1) := by decide +kernel
theorem d_Mo_isShort_94 : decode prog_12_method_37_code 94 = .ok (.getfield 48, 3) := by decide +kernel
theorem d_Mo_isShort_97 : decode prog_12_method_37_code 97 = .ok (.iload_n 3, 1) := by decide +kernel
theorem d_Mo_isShort_98 : decode prog_12_method_37_code 98 = .ok (.iconst 3, 1) := by decide +kernel
theorem d_Mo_isShort_99 : decode prog_12_method_37_code 99 = .ok (.iadd, 1) := by decide +kernel
theorem d_Mo_isShort_100 : decode prog_12_method_37_code 100 = .ok (.iaload, 1) := by decide +kernel
theorem d_Mo_isShort_101 : decode prog_12_method_37_code 101 = .ok (.iaload, 1) := by decide +kernel
theorem d_Mo_isShort_102 : decode prog_12_method_37_code 102 = .ok (.iadd, 1) := by decide +kernel
theorem d_Mo_isShort_103 : decode prog_12_method_37_code 103 = .ok (.istore 4, 2) := by decide +kernel
theorem d_Mo_isShort_105 : decode prog_12_method_37_code 105 = .ok (.iload_n 2, 1) := by decide +kernel
theorem d_Mo_isShort_106 : decode prog_12_method_37_code 106 = .ok (.ifCond .ne 14, 3) := by decide +kernel
theorem d_Mo_isShort_109 : decode prog_12_method_37_code 109 = .ok (.aload_n 0, 1) := by decide +kernel
theorem d_Mo_isShort_110 : decode prog_12_method_37_code 110 = .ok (.getfield 48, 3) := by decide +kernel
theorem d_Mo_isShort_113 : decode prog_12_method_37_code 113 = .ok (.iload_n 3, 1) := by decide +kernel
theorem d_Mo_isShort_114 : decode prog_12_method_37_code 114 = .ok (.iaload, 1) := by decide +kernel
theorem d_Mo_isShort_115 : decode prog_12_method_37_code 115 = .ok (.iload 4, 2) := by decide +kernel
theorem d_Mo_isShort_117 : decode prog_12_method_37_code 117 = .ok (.if_icmp .le 7, 3) := by decide +kernel
theorem d_Mo_isShort_120 : decode prog_12_method_37_code 120 = .ok (.iconst 1, 1) := by decide +kernel
theorem d_Mo_isShort_121 : decode prog_12_method_37_code 121 = .ok (.goto 4, 3) := by decide +kernel
theorem d_Mo_isShort_124 : decode prog_12_method_37_code 124 = .ok (.iconst 0, 1) := by decide +kernel
theorem d_Mo_isShort_125 : decode prog_12_method_37_code 125 = .ok (.istore_n 2, 1) := by decide +kernel
theorem d_Mo_isShort_126 : decode prog_12_method_37_code 126 = .ok (.iinc 3 5, 3) := by decide +kernel
theorem d_Mo_isShort_129 : decode prog_12_method_37_code 129 = .ok (.goto (-122), 3) := by decide +kernel
theorem d_Mo_isShort_132 : decode prog_12_method_37_code 132 = .ok (.iload_n 2, 1) := by decide +kernel
theorem d_Mo_isShort_133 : decode prog_12_method_37_code 133 = .ok (.ireturn, 1) := by decide +kernel
def B_Mo_isShort_125 (k7 : Nat → Int32 → Int32 → Int32 → gS → Option (Int32 × gS)) (x0 : Nat) (x1 : Int32) (x3 : Int32) (t0 : Int32) (S : gS) : Option (Int32 × gS) := k7 x0 x1 t0 (x3 + 5) S
set_option maxRecDepth 100000 in
set_option maxHeartbeats 4000000 in
theorem w_Mo_isShort_125 {D : va_G} {cT : Nat → ClassId} {H0 : Heap} {l : Launch} {p : Program} {e : Env} {s : State} {m : MethodId} {args : Array Value} {below : List Frame} {meth : Method} {c : Code} {S0 : gS} {S' : gS} {r : Int32} (Y : gY D cT H0 p s m args meth c prog_12_method_37_code 5 "PlanTextModel" 0 0 S0 (Option.some Jvm.ClassFile.FieldType.boolean)) {k7 : Nat → Int32 → Int32 → Int32 → gS → Option (Int32 × gS)} (hk7 : ∀ (x0 : Nat) (x1 : Int32) (x2 : Int32) (x3 : Int32) (S : gS) (ls : Array Slot), k7 x0 x1 x2 x3 S = some (r, S') → lv_has ls 5 [(0, va_rf (some x0)), (1, .int x1), (2, .int x2), (3, .int x3)] → gV D cT H0 p l e (gRm 0 0 S0) s m args below meth c (gQ D cT H0 below S0 S' (.inr (some (.int r))) s) S0 S (F0 m 7 ls [])) (x0 : Nat) (x1 : Int32) (x3 : Int32) (t0 : Int32) (S : gS) (hden : B_Mo_isShort_125 k7 x0 x1 x3 t0 S = some (r, S')) {ls : Array Slot} (hl : lv_has ls 5 [(0, va_rf (some x0)), (1, .int x1), (3, .int x3)]) : gV D cT H0 p l e (gRm 0 0 S0) s m args below meth c (gQ D cT H0 below S0 S' (.inr (some (.int r))) s) S0 S (F0 m 125 ls [.int t0]) := by
  obtain ⟨X, hZ, hex, hr, hE⟩ := id Y
  have hx := X.1
  have hb := X.2.1
  unfold B_Mo_isShort_125 at hden
  refine gV.liftS (nL := 5) (lv' := [(2, .int t0), (0, va_rf (some x0)), (1, .int x1), (3, .int x3)]) (fun _ _ _ _ => lv_istore_n hx hb d_Mo_isShort_125 rfl hl (by decide) rfl) (fun ls hl => ?_)
  refine gV.liftS (nL := 5) (lv' := [(3, .int (x3 + 5)), (2, .int t0), (0, va_rf (some x0)), (1, .int x1)]) (fun _ _ _ _ => lv_iinc (v := (x3 + 5)) hx hb d_Mo_isShort_126 hl (k := 3) rfl rfl (by decide) rfl) (fun ls hl => ?_)
  refine gV.lift (fun _ _ _ _ => lv_goto (tgt := 7) hx hb d_Mo_isShort_129 (by decide)) ?_
  exact hk7 x0 x1 t0 (x3 + 5) S _ hden (lv_sub hl [2, 3, 1, 0] rfl)
def B_Mo_isShort_120 (k7 : Nat → Int32 → Int32 → Int32 → gS → Option (Int32 × gS)) (x0 : Nat) (x1 : Int32) (x3 : Int32) (S : gS) : Option (Int32 × gS) := B_Mo_isShort_125 k7 x0 x1 x3 1 S
set_option maxRecDepth 100000 in
set_option maxHeartbeats 4000000 in
theorem w_Mo_isShort_120 {D : va_G} {cT : Nat → ClassId} {H0 : Heap} {l : Launch} {p : Program} {e : Env} {s : State} {m : MethodId} {args : Array Value} {below : List Frame} {meth : Method} {c : Code} {S0 : gS} {S' : gS} {r : Int32} (Y : gY D cT H0 p s m args meth c prog_12_method_37_code 5 "PlanTextModel" 0 0 S0 (Option.some Jvm.ClassFile.FieldType.boolean)) {k7 : Nat → Int32 → Int32 → Int32 → gS → Option (Int32 × gS)} (hk7 : ∀ (x0 : Nat) (x1 : Int32) (x2 : Int32) (x3 : Int32) (S : gS) (ls : Array Slot), k7 x0 x1 x2 x3 S = some (r, S') → lv_has ls 5 [(0, va_rf (some x0)), (1, .int x1), (2, .int x2), (3, .int x3)] → gV D cT H0 p l e (gRm 0 0 S0) s m args below meth c (gQ D cT H0 below S0 S' (.inr (some (.int r))) s) S0 S (F0 m 7 ls [])) (x0 : Nat) (x1 : Int32) (x3 : Int32) (S : gS) (hden : B_Mo_isShort_120 k7 x0 x1 x3 S = some (r, S')) {ls : Array Slot} (hl : lv_has ls 5 [(0, va_rf (some x0)), (1, .int x1), (3, .int x3)]) : gV D cT H0 p l e (gRm 0 0 S0) s m args below meth c (gQ D cT H0 below S0 S' (.inr (some (.int r))) s) S0 S (F0 m 120 ls []) := by
  obtain ⟨X, hZ, hex, hr, hE⟩ := id Y
  have hx := X.1
  have hb := X.2.1
  unfold B_Mo_isShort_120 at hden
  refine gV.lift (fun _ _ _ _ => lv_iconst (v := 1) hx hb d_Mo_isShort_120 (by decide)) ?_
  refine gV.lift (fun _ _ _ _ => lv_goto (tgt := 125) hx hb d_Mo_isShort_121 (by decide)) ?_
  exact w_Mo_isShort_125 Y hk7 x0 x1 x3 1 S hden (lv_sub hl [0, 1, 2] rfl)
def B_Mo_isShort_102 (k7 : Nat → Int32 → Int32 → Int32 → gS → Option (Int32 × gS)) (x0 : Nat) (x1 : Int32) (x2 : Int32) (x3 : Int32) (t0 : Int32) (t1 : Int32) (S : gS) : Option (Int32 × gS) := (if x2 = 0 then Option.bind (gRf S x0 10 19) (fun r2 => Option.bind r2 (fun a3 => Option.bind (gAI S a3 0 x3) (fun v4 => (if v4 ≤ (t1 + t0) then B_Mo_isShort_125 k7 x0 x1 x3 0 S else B_Mo_isShort_120 k7 x0 x1 x3 S)))) else B_Mo_isShort_120 k7 x0 x1 x3 S)
set_option maxRecDepth 100000 in
set_option maxHeartbeats 4000000 in
theorem w_Mo_isShort_102 {D : va_G} {cT : Nat → ClassId} {H0 : Heap} {l : Launch} {p : Program} {e : Env} {s : State} {m : MethodId} {args : Array Value} {below : List Frame} {meth : Method} {c : Code} {S0 : gS} {S' : gS} {r : Int32} (Y : gY D cT H0 p s m args meth c prog_12_method_37_code 5 "PlanTextModel" 0 0 S0 (Option.some Jvm.ClassFile.FieldType.boolean)) {k7 : Nat → Int32 → Int32 → Int32 → gS → Option (Int32 × gS)} (hk7 : ∀ (x0 : Nat) (x1 : Int32) (x2 : Int32) (x3 : Int32) (S : gS) (ls : Array Slot), k7 x0 x1 x2 x3 S = some (r, S') → lv_has ls 5 [(0, va_rf (some x0)), (1, .int x1), (2, .int x2), (3, .int x3)] → gV D cT H0 p l e (gRm 0 0 S0) s m args below meth c (gQ D cT H0 below S0 S' (.inr (some (.int r))) s) S0 S (F0 m 7 ls [])) (x0 : Nat) (x1 : Int32) (x2 : Int32) (x3 : Int32) (t0 : Int32) (t1 : Int32) (S : gS) (hden : B_Mo_isShort_102 k7 x0 x1 x2 x3 t0 t1 S = some (r, S')) {ls : Array Slot} (hl : lv_has ls 5 [(0, va_rf (some x0)), (1, .int x1), (2, .int x2), (3, .int x3)]) : gV D cT H0 p l e (gRm 0 0 S0) s m args below meth c (gQ D cT H0 below S0 S' (.inr (some (.int r))) s) S0 S (F0 m 102 ls [.int t0, .int t1]) := by
  obtain ⟨X, hZ, hex, hr, hE⟩ := id Y
  have hx := X.1
  have hb := X.2.1
  unfold B_Mo_isShort_102 at hden
  refine gV.lift (fun _ _ _ _ => lv_iadd hx hb d_Mo_isShort_102) ?_
  refine gV.liftS (nL := 5) (lv' := [(4, .int (t1 + t0)), (0, va_rf (some x0)), (1, .int x1), (2, .int x2), (3, .int x3)]) (fun _ _ _ _ => lv_istore hx hb d_Mo_isShort_103 hl (by decide) rfl) (fun ls hl => ?_)
  refine gV.lift (fun _ _ _ _ => lv_iload_n hx hb d_Mo_isShort_105 rfl (lv_at hl 3 rfl)) ?_
  refine gV.lift2 (fun _ _ _ _ => lv_if_ne (tgt := 120) hx hb d_Mo_isShort_106 (by decide)) (fun hc1 => ?_) (fun hc1 => ?_)
  · replace hden := gin hc1 hden
    exact w_Mo_isShort_120 Y hk7 x0 x1 x3 S hden (lv_sub hl [1, 2, 4] rfl)
  · replace hden := gip hc1 hden
    refine gV.lift (fun _ _ _ _ => g_aload_n hx hb d_Mo_isShort_109 rfl (lv_at hl 1 rfl)) ?_
    replace hden := gb hden
    obtain ⟨r2, hv, hden⟩ := hden
    refine r_getR X cl_Mo (k := 19) hv (by decide) q_784 d_Mo_isShort_110 ?_
    refine gV.lift (fun _ _ _ _ => lv_iload_n hx hb d_Mo_isShort_113 rfl (lv_at hl 4 rfl)) ?_
    replace hden := gb hden
    obtain ⟨a3, rfl, hden⟩ := hden
    replace hden := gb hden
    obtain ⟨v4, hv, hden⟩ := hden
    refine r_iald X (t := 0) rfl hv d_Mo_isShort_114 ?_
    refine gV.lift (fun _ _ _ _ => lv_iload hx hb d_Mo_isShort_115 (lv_at hl 0 rfl)) ?_
    refine gV.lift2 (fun _ _ _ _ => lv_icmp_le (tgt := 124) hx hb d_Mo_isShort_117 (by decide)) (fun hc5 => ?_) (fun hc5 => ?_)
    · replace hden := gip hc5 hden
      refine gV.lift (fun _ _ _ _ => lv_iconst (v := 0) hx hb d_Mo_isShort_124 (by decide)) ?_
      exact w_Mo_isShort_125 Y hk7 x0 x1 x3 0 S hden (lv_sub hl [1, 2, 4] rfl)
    · replace hden := gin hc5 hden
      exact w_Mo_isShort_120 Y hk7 x0 x1 x3 S hden (lv_sub hl [1, 2, 4] rfl)
def B_Mo_isShort_69 (k7 : Nat → Int32 → Int32 → Int32 → gS → Option (Int32 × gS)) (x0 : Nat) (x1 : Int32) (x2 : Int32) (x3 : Int32) (t0 : Int32) (t1 : Int32) (S : gS) : Option (Int32 × gS) := Option.bind (gRf S x0 10 19) (fun r1 => Option.bind r1 (fun a2 => Option.bind (gAI S a2 0 (x3 + 3)) (fun v3 => (if 0 ≤ v3 then Option.bind (gRf S x0 10 22) (fun r5 => Option.bind (gRf S x0 10 19) (fun r6 => Option.bind r6 (fun a7 => Option.bind (gAI S a7 0 (x3 + 3)) (fun v8 => Option.bind r5 (fun a9 => Option.bind (gAI S a9 0 v8) (fun v10 => B_Mo_isShort_102 k7 x0 x1 x2 x3 v10 (t1 + t0) S)))))) else B_Mo_isShort_102 k7 x0 x1 x2 x3 0 (t1 + t0) S))))
set_option maxRecDepth 100000 in
set_option maxHeartbeats 4000000 in
theorem w_Mo_isShort_69 {D : va_G} {cT : Nat → ClassId} {H0 : Heap} {l : Launch} {p : Program} {e : Env} {s : State} {m : MethodId} {args : Array Value} {below : List Frame} {meth : Method} {c : Code} {S0 : gS} {S' : gS} {r : Int32} (Y : gY D cT H0 p s m args meth c prog_12_method_37_code 5 "PlanTextModel" 0 0 S0 (Option.some Jvm.ClassFile.FieldType.boolean)) {k7 : Nat → Int32 → Int32 → Int32 → gS → Option (Int32 × gS)} (hk7 : ∀ (x0 : Nat) (x1 : Int32) (x2 : Int32) (x3 : Int32) (S : gS) (ls : Array Slot), k7 x0 x1 x2 x3 S = some (r, S') → lv_has ls 5 [(0, va_rf (some x0)), (1, .int x1), (2, .int x2), (3, .int x3)] → gV D cT H0 p l e (gRm 0 0 S0) s m args below meth c (gQ D cT H0 below S0 S' (.inr (some (.int r))) s) S0 S (F0 m 7 ls [])) (x0 : Nat) (x1 : Int32) (x2 : Int32) (x3 : Int32) (t0 : Int32) (t1 : Int32) (S : gS) (hden : B_Mo_isShort_69 k7 x0 x1 x2 x3 t0 t1 S = some (r, S')) {ls : Array Slot} (hl : lv_has ls 5 [(0, va_rf (some x0)), (1, .int x1), (2, .int x2), (3, .int x3)]) : gV D cT H0 p l e (gRm 0 0 S0) s m args below meth c (gQ D cT H0 below S0 S' (.inr (some (.int r))) s) S0 S (F0 m 69 ls [.int t0, .int t1]) := by
  obtain ⟨X, hZ, hex, hr, hE⟩ := id Y
  have hx := X.1
  have hb := X.2.1
  unfold B_Mo_isShort_69 at hden
  refine gV.lift (fun _ _ _ _ => lv_iadd hx hb d_Mo_isShort_69) ?_
  refine gV.liftS (nL := 5) (lv' := [(4, .int (t1 + t0)), (0, va_rf (some x0)), (1, .int x1), (2, .int x2), (3, .int x3)]) (fun _ _ _ _ => lv_istore hx hb d_Mo_isShort_70 hl (by decide) rfl) (fun ls hl => ?_)
  refine gV.lift (fun _ _ _ _ => lv_iload hx hb d_Mo_isShort_72 (lv_at hl 0 rfl)) ?_
  refine gV.lift (fun _ _ _ _ => g_aload_n hx hb d_Mo_isShort_74 rfl (lv_at hl 1 rfl)) ?_
  replace hden := gb hden
  obtain ⟨r1, hv, hden⟩ := hden
  refine r_getR X cl_Mo (k := 19) hv (by decide) q_784 d_Mo_isShort_75 ?_
  refine gV.lift (fun _ _ _ _ => lv_iload_n hx hb d_Mo_isShort_78 rfl (lv_at hl 4 rfl)) ?_
  refine gV.lift (fun _ _ _ _ => lv_iconst (v := 3) hx hb d_Mo_isShort_79 (by decide)) ?_
  refine gV.lift (fun _ _ _ _ => lv_iadd hx hb d_Mo_isShort_80) ?_
  replace hden := gb hden
  obtain ⟨a2, rfl, hden⟩ := hden
  replace hden := gb hden
  obtain ⟨v3, hv, hden⟩ := hden
  refine r_iald X (t := 0) rfl hv d_Mo_isShort_81 ?_
  refine gV.lift2 (fun _ _ _ _ => lv_if_ge (tgt := 89) hx hb d_Mo_isShort_82 (by decide)) (fun hc4 => ?_) (fun hc4 => ?_)
  · replace hden := gip hc4 hden
    refine gV.lift (fun _ _ _ _ => g_aload_n hx hb d_Mo_isShort_89 rfl (lv_at hl 1 rfl)) ?_
    replace hden := gb hden
    obtain ⟨r5, hv, hden⟩ := hden
    refine r_getR X cl_Mo (k := 22) hv (by decide) q_787 d_Mo_isShort_90 ?_
    refine gV.lift (fun _ _ _ _ => g_aload_n hx hb d_Mo_isShort_93 rfl (lv_at hl 1 rfl)) ?_
    replace hden := gb hden
    obtain ⟨r6, hv, hden⟩ := hden
    refine r_getR X cl_Mo (k := 19) hv (by decide) q_784 d_Mo_isShort_94 ?_
    refine gV.lift (fun _ _ _ _ => lv_iload_n hx hb d_Mo_isShort_97 rfl (lv_at hl 4 rfl)) ?_
    refine gV.lift (fun _ _ _ _ => lv_iconst (v := 3) hx hb d_Mo_isShort_98 (by decide)) ?_
    refine gV.lift (fun _ _ _ _ => lv_iadd hx hb d_Mo_isShort_99) ?_
    replace hden := gb hden
    obtain ⟨a7, rfl, hden⟩ := hden
    replace hden := gb hden
    obtain ⟨v8, hv, hden⟩ := hden
    refine r_iald X (t := 0) rfl hv d_Mo_isShort_100 ?_
    replace hden := gb hden
    obtain ⟨a9, rfl, hden⟩ := hden
    replace hden := gb hden
    obtain ⟨v10, hv, hden⟩ := hden
    refine r_iald X (t := 0) rfl hv d_Mo_isShort_101 ?_
    exact w_Mo_isShort_102 Y hk7 x0 x1 x2 x3 v10 (t1 + t0) S hden (lv_sub hl [1, 2, 3, 4] rfl)
  · replace hden := gin hc4 hden
    refine gV.lift (fun _ _ _ _ => lv_iconst (v := 0) hx hb d_Mo_isShort_85 (by decide)) ?_
    refine gV.lift (fun _ _ _ _ => lv_goto (tgt := 102) hx hb d_Mo_isShort_86 (by decide)) ?_
    exact w_Mo_isShort_102 Y hk7 x0 x1 x2 x3 0 (t1 + t0) S hden (lv_sub hl [1, 2, 3, 4] rfl)
def B_Mo_isShort_7 (k7 : Nat → Int32 → Int32 → Int32 → gS → Option (Int32 × gS)) (x0 : Nat) (x1 : Int32) (x2 : Int32) (x3 : Int32) (S : gS) : Option (Int32 × gS) := Option.bind (gRf S x0 10 18) (fun r1 => Option.bind r1 (fun a2 => Option.bind (gAI S a2 0 x1) (fun v3 => (if ((25 * x1) + (5 * v3)) ≤ x3 then Option.bind (gZo x2) (fun v5 => some (v5, S)) else Option.bind (gRf S x0 10 22) (fun r6 => Option.bind (gRf S x0 10 19) (fun r7 => Option.bind r7 (fun a8 => Option.bind (gAI S a8 0 (x3 + 1)) (fun v9 => Option.bind r6 (fun a10 => Option.bind (gAI S a10 0 v9) (fun v11 => Option.bind (gRf S x0 10 19) (fun r12 => Option.bind r12 (fun a13 => Option.bind (gAI S a13 0 (x3 + 2)) (fun v14 => (if 0 ≤ v14 then Option.bind (gRf S x0 10 22) (fun r16 => Option.bind (gRf S x0 10 19) (fun r17 => Option.bind r17 (fun a18 => Option.bind (gAI S a18 0 (x3 + 2)) (fun v19 => Option.bind r16 (fun a20 => Option.bind (gAI S a20 0 v19) (fun v21 => B_Mo_isShort_69 k7 x0 x1 x2 x3 v21 v11 S)))))) else B_Mo_isShort_69 k7 x0 x1 x2 x3 0 v11 S))))))))))))))
set_option maxRecDepth 100000 in
set_option maxHeartbeats 4000000 in
theorem w_Mo_isShort_7 {D : va_G} {cT : Nat → ClassId} {H0 : Heap} {l : Launch} {p : Program} {e : Env} {s : State} {m : MethodId} {args : Array Value} {below : List Frame} {meth : Method} {c : Code} {S0 : gS} {S' : gS} {r : Int32} (Y : gY D cT H0 p s m args meth c prog_12_method_37_code 5 "PlanTextModel" 0 0 S0 (Option.some Jvm.ClassFile.FieldType.boolean)) {k7 : Nat → Int32 → Int32 → Int32 → gS → Option (Int32 × gS)} (hk7 : ∀ (x0 : Nat) (x1 : Int32) (x2 : Int32) (x3 : Int32) (S : gS) (ls : Array Slot), k7 x0 x1 x2 x3 S = some (r, S') → lv_has ls 5 [(0, va_rf (some x0)), (1, .int x1), (2, .int x2), (3, .int x3)] → gV D cT H0 p l e (gRm 0 0 S0) s m args below meth c (gQ D cT H0 below S0 S' (.inr (some (.int r))) s) S0 S (F0 m 7 ls [])) (x0 : Nat) (x1 : Int32) (x2 : Int32) (x3 : Int32) (S : gS) (hden : B_Mo_isShort_7 k7 x0 x1 x2 x3 S = some (r, S')) {ls : Array Slot} (hl : lv_has ls 5 [(0, va_rf (some x0)), (1, .int x1), (2, .int x2), (3, .int x3)]) : gV D cT H0 p l e (gRm 0 0 S0) s m args below meth c (gQ D cT H0 below S0 S' (.inr (some (.int r))) s) S0 S (F0 m 7 ls []) := by
  obtain ⟨X, hZ, hex, hr, hE⟩ := id Y
  have hx := X.1
  have hb := X.2.1
  unfold B_Mo_isShort_7 at hden
  refine gV.lift (fun _ _ _ _ => lv_iload_n hx hb d_Mo_isShort_7 rfl (lv_at hl 3 rfl)) ?_
  refine gV.lift (fun _ _ _ _ => lv_bipush (v := 25) hx hb d_Mo_isShort_8 (by decide)) ?_
  refine gV.lift (fun _ _ _ _ => lv_iload_n hx hb d_Mo_isShort_10 rfl (lv_at hl 1 rfl)) ?_
  refine gV.lift (fun _ _ _ _ => lv_imul hx hb d_Mo_isShort_11) ?_
  refine gV.lift (fun _ _ _ _ => lv_iconst (v := 5) hx hb d_Mo_isShort_12 (by decide)) ?_
  refine gV.lift (fun _ _ _ _ => g_aload_n hx hb d_Mo_isShort_13 rfl (lv_at hl 0 rfl)) ?_
  replace hden := gb hden
  obtain ⟨r1, hv, hden⟩ := hden
  refine r_getR X cl_Mo (k := 18) hv (by decide) q_783 d_Mo_isShort_14 ?_
  refine gV.lift (fun _ _ _ _ => lv_iload_n hx hb d_Mo_isShort_17 rfl (lv_at hl 1 rfl)) ?_
  replace hden := gb hden
  obtain ⟨a2, rfl, hden⟩ := hden
  replace hden := gb hden
  obtain ⟨v3, hv, hden⟩ := hden
  refine r_iald X (t := 0) rfl hv d_Mo_isShort_18 ?_
  refine gV.lift (fun _ _ _ _ => lv_imul hx hb d_Mo_isShort_19) ?_
  refine gV.lift (fun _ _ _ _ => lv_iadd hx hb d_Mo_isShort_20) ?_
  refine gV.lift2 (fun _ _ _ _ => lv_icmp_ge (tgt := 132) hx hb d_Mo_isShort_21 (by decide)) (fun hc4 => ?_) (fun hc4 => ?_)
  · replace hden := gip hc4 hden
    refine gV.lift (fun _ _ _ _ => lv_iload_n hx hb d_Mo_isShort_132 rfl (lv_at hl 2 rfl)) ?_
    replace hden := gb hden
    obtain ⟨v5, hz, hden⟩ := hden
    obtain ⟨rfl, hz2, -⟩ := gZo_spec hz
    obtain ⟨rfl, rfl⟩ := gpi hden
    exact g_zret X hr hz2 d_Mo_isShort_133
  · replace hden := gin hc4 hden
    refine gV.lift (fun _ _ _ _ => g_aload_n hx hb d_Mo_isShort_24 rfl (lv_at hl 0 rfl)) ?_
    replace hden := gb hden
    obtain ⟨r6, hv, hden⟩ := hden
    refine r_getR X cl_Mo (k := 22) hv (by decide) q_787 d_Mo_isShort_25 ?_
    refine gV.lift (fun _ _ _ _ => g_aload_n hx hb d_Mo_isShort_28 rfl (lv_at hl 0 rfl)) ?_
    replace hden := gb hden
    obtain ⟨r7, hv, hden⟩ := hden
    refine r_getR X cl_Mo (k := 19) hv (by decide) q_784 d_Mo_isShort_29 ?_
    refine gV.lift (fun _ _ _ _ => lv_iload_n hx hb d_Mo_isShort_32 rfl (lv_at hl 3 rfl)) ?_
    refine gV.lift (fun _ _ _ _ => lv_iconst (v := 1) hx hb d_Mo_isShort_33 (by decide)) ?_
    refine gV.lift (fun _ _ _ _ => lv_iadd hx hb d_Mo_isShort_34) ?_
    replace hden := gb hden
    obtain ⟨a8, rfl, hden⟩ := hden
    replace hden := gb hden
    obtain ⟨v9, hv, hden⟩ := hden
    refine r_iald X (t := 0) rfl hv d_Mo_isShort_35 ?_
    replace hden := gb hden
    obtain ⟨a10, rfl, hden⟩ := hden
    replace hden := gb hden
    obtain ⟨v11, hv, hden⟩ := hden
    refine r_iald X (t := 0) rfl hv d_Mo_isShort_36 ?_
    refine gV.liftS (nL := 5) (lv' := [(4, .int v11), (0, va_rf (some x0)), (1, .int x1), (2, .int x2), (3, .int x3)]) (fun _ _ _ _ => lv_istore hx hb d_Mo_isShort_37 hl (by decide) rfl) (fun ls hl => ?_)
    refine gV.lift (fun _ _ _ _ => lv_iload hx hb d_Mo_isShort_39 (lv_at hl 0 rfl)) ?_
    refine gV.lift (fun _ _ _ _ => g_aload_n hx hb d_Mo_isShort_41 rfl (lv_at hl 1 rfl)) ?_
    replace hden := gb hden
    obtain ⟨r12, hv, hden⟩ := hden
    refine r_getR X cl_Mo (k := 19) hv (by decide) q_784 d_Mo_isShort_42 ?_
    refine gV.lift (fun _ _ _ _ => lv_iload_n hx hb d_Mo_isShort_45 rfl (lv_at hl 4 rfl)) ?_
    refine gV.lift (fun _ _ _ _ => lv_iconst (v := 2) hx hb d_Mo_isShort_46 (by decide)) ?_
    refine gV.lift (fun _ _ _ _ => lv_iadd hx hb d_Mo_isShort_47) ?_
    replace hden := gb hden
    obtain ⟨a13, rfl, hden⟩ := hden
    replace hden := gb hden
    obtain ⟨v14, hv, hden⟩ := hden
    refine r_iald X (t := 0) rfl hv d_Mo_isShort_48 ?_
    refine gV.lift2 (fun _ _ _ _ => lv_if_ge (tgt := 56) hx hb d_Mo_isShort_49 (by decide)) (fun hc15 => ?_) (fun hc15 => ?_)
    · replace hden := gip hc15 hden
      refine gV.lift (fun _ _ _ _ => g_aload_n hx hb d_Mo_isShort_56 rfl (lv_at hl 1 rfl)) ?_
      replace hden := gb hden
      obtain ⟨r16, hv, hden⟩ := hden
      refine r_getR X cl_Mo (k := 22) hv (by decide) q_787 d_Mo_isShort_57 ?_
      refine gV.lift (fun _ _ _ _ => g_aload_n hx hb d_Mo_isShort_60 rfl (lv_at hl 1 rfl)) ?_
      replace hden := gb hden
      obtain ⟨r17, hv, hden⟩ := hden
      refine r_getR X cl_Mo (k := 19) hv (by decide) q_784 d_Mo_isShort_61 ?_
      refine gV.lift (fun _ _ _ _ => lv_iload_n hx hb d_Mo_isShort_64 rfl (lv_at hl 4 rfl)) ?_
      refine gV.lift (fun _ _ _ _ => lv_iconst (v := 2) hx hb d_Mo_isShort_65 (by decide)) ?_
      refine gV.lift (fun _ _ _ _ => lv_iadd hx hb d_Mo_isShort_66) ?_
      replace hden := gb hden
      obtain ⟨a18, rfl, hden⟩ := hden
      replace hden := gb hden
      obtain ⟨v19, hv, hden⟩ := hden
      refine r_iald X (t := 0) rfl hv d_Mo_isShort_67 ?_
      replace hden := gb hden
      obtain ⟨a20, rfl, hden⟩ := hden
      replace hden := gb hden
      obtain ⟨v21, hv, hden⟩ := hden
      refine r_iald X (t := 0) rfl hv d_Mo_isShort_68 ?_
      exact w_Mo_isShort_69 Y hk7 x0 x1 x2 x3 v21 v11 S hden (lv_sub hl [1, 2, 3, 4] rfl)
    · replace hden := gin hc15 hden
      refine gV.lift (fun _ _ _ _ => lv_iconst (v := 0) hx hb d_Mo_isShort_52 (by decide)) ?_
      refine gV.lift (fun _ _ _ _ => lv_goto (tgt := 69) hx hb d_Mo_isShort_53 (by decide)) ?_
      exact w_Mo_isShort_69 Y hk7 x0 x1 x2 x3 0 v11 S hden (lv_sub hl [1, 2, 3, 4] rfl)
def L_Mo_isShort_7  : Nat → Nat → Int32 → Int32 → Int32 → gS → Option (Int32 × gS)
  | 0 => fun _ _ _ _ _ => none
  | n + 1 => fun x0 x1 x2 x3 S => B_Mo_isShort_7  (L_Mo_isShort_7  n) x0 x1 x2 x3 S
theorem wL_Mo_isShort_7 {D : va_G} {cT : Nat → ClassId} {H0 : Heap} {l : Launch} {p : Program} {e : Env} {s : State} {m : MethodId} {args : Array Value} {below : List Frame} {meth : Method} {c : Code} {S0 : gS} {S' : gS} {r : Int32} (Y : gY D cT H0 p s m args meth c prog_12_method_37_code 5 "PlanTextModel" 0 0 S0 (Option.some Jvm.ClassFile.FieldType.boolean))  : ∀ (n : Nat) (x0 : Nat) (x1 : Int32) (x2 : Int32) (x3 : Int32) (S : gS) (ls : Array Slot), L_Mo_isShort_7  n x0 x1 x2 x3 S = some (r, S') → lv_has ls 5 [(0, va_rf (some x0)), (1, .int x1), (2, .int x2), (3, .int x3)] → gV D cT H0 p l e (gRm 0 0 S0) s m args below meth c (gQ D cT H0 below S0 S' (.inr (some (.int r))) s) S0 S (F0 m 7 ls []) := by
  intro n
  induction n with
  | zero => intro x0 x1 x2 x3 S ls h hl; cases h
  | succ n ih => intro x0 x1 x2 x3 S ls h hl; exact w_Mo_isShort_7 Y ih x0 x1 x2 x3 S h hl
def D_Mo_isShort (h0 : Nat) (p0 : Int32) (S : gS) : Option (Int32 × gS) := L_Mo_isShort_7  gF h0 p0 0 (25 * p0) S
set_option maxRecDepth 100000 in
set_option maxHeartbeats 4000000 in
theorem c_Mo_isShort {D : va_G} {cT : Nat → ClassId} {H0 : Heap} {l : Launch} {S : gS} {S' : gS} {h0 : Nat} {p0 : Int32} {r : Int32} (hden : D_Mo_isShort h0 p0 S = some (r, S')) : gM D cT H0 l y_Mo_isShort (Cond.code y_Mo_isShort prog_12_method_37_code 5 (Option.some Jvm.ClassFile.FieldType.boolean)) 0 0 [va_rf (some h0), .int p0] S S' (.inr (some (.int r))) := by
  refine gM.ofV (by decide) ?_
  intro p e s m args below meth c s₁ B hml ea X hZ hex hr hE
  subst ea
  have Y : gY D cT H0 p s m _ meth c prog_12_method_37_code 5 "PlanTextModel" 0 0 S (Option.some Jvm.ClassFile.FieldType.boolean) := ⟨X, hZ, hex, hr, hE⟩
  have hx := X.1
  have hb := X.2.1
  have hl := lv_entry ([va_rf (some h0), .int p0]) (n := 5) (Nat.le_of_ble_eq_true rfl)
  rw [lg_entry_eq]
  generalize (lg_sl ([va_rf (some h0), .int p0]) ++ List.replicate (5 - (lg_sl ([va_rf (some h0), .int p0])).length) Slot.unset).toArray = ls at hl ⊢
  have hl : lv_has ls 5 [(0, va_rf (some h0)), (1, .int p0)] := hl
  unfold D_Mo_isShort at hden
  refine gV.lift (fun _ _ _ _ => lv_iconst (v := 0) hx hb d_Mo_isShort_0 (by decide)) ?_
  refine gV.liftS (nL := 5) (lv' := [(2, .int 0), (0, va_rf (some h0)), (1, .int p0)]) (fun _ _ _ _ => lv_istore_n hx hb d_Mo_isShort_1 rfl hl (by decide) rfl) (fun ls hl => ?_)
  refine gV.lift (fun _ _ _ _ => lv_bipush (v := 25) hx hb d_Mo_isShort_2 (by decide)) ?_
  refine gV.lift (fun _ _ _ _ => lv_iload_n hx hb d_Mo_isShort_4 rfl (lv_at hl 2 rfl)) ?_
  refine gV.lift (fun _ _ _ _ => lv_imul hx hb d_Mo_isShort_5) ?_
  refine gV.liftS (nL := 5) (lv' := [(3, .int (25 * p0)), (2, .int 0), (0, va_rf (some h0)), (1, .int p0)]) (fun _ _ _ _ => lv_istore_n hx hb d_Mo_isShort_6 rfl hl (by decide) rfl) (fun ls hl => ?_)
  exact wL_Mo_isShort_7 Y  gF h0 p0 0 (25 * p0) S _ hden (lv_sub hl [2, 3, 1, 0] rfl)
/-! PlanTextModel.lacks(II)I -/
abbrev y_Mo_lacks : MethodName := ⟨"PlanTextModel", "lacks", "(II)I"⟩
theorem d_Mo_lacks_0 : decode prog_12_method_38_code 0 = .ok (.aload_n 0, 1) := by decide +kernel
theorem d_Mo_lacks_1 : decode prog_12_method_38_code 1 = .ok (.iload_n 1, 1) := by decide +kernel
theorem d_Mo_lacks_2 : decode prog_12_method_38_code 2 = .ok (.invokestatic 153, 3) := by decide +kernel
theorem d_Mo_lacks_5 : decode prog_12_method_38_code 5 = .ok (.ifCond .eq 7, 3) := by decide +kernel
theorem d_Mo_lacks_8 : decode prog_12_method_38_code 8 = .ok (.iload_n 2, 1) := by decide +kernel
theorem d_Mo_lacks_9 : decode prog_12_method_38_code 9 = .ok (.ifCond .ge 7, 3) := by decide +kernel
theorem d_Mo_lacks_12 : decode prog_12_method_38_code 12 = .ok (.iconst 1, 1) := by decide +kernel
theorem d_Mo_lacks_13 : decode prog_12_method_38_code 13 = .ok (.goto 4, 3) := by decide +kernel
theorem d_Mo_lacks_16 : decode prog_12_method_38_code 16 = .ok (.iconst 0, 1) := by decide +kernel
theorem d_Mo_lacks_17 : decode prog_12_method_38_code 17 = .ok (.iconst 0, 1) := by decide +kernel
theorem d_Mo_lacks_18 : decode prog_12_method_38_code 18 = .ok (.iconst 0, 1) := by decide +kernel
theorem d_Mo_lacks_19 : decode prog_12_method_38_code 19 = .ok (.invokevirtual 79, 3) := by decide +kernel
theorem d_Mo_lacks_22 : decode prog_12_method_38_code 22 = .ok (.ifCond .eq 5, 3) := by decide +kernel
theorem d_Mo_lacks_25 : decode prog_12_method_38_code 25 = .ok (.iconst 0, 1) := by decide +kernel
theorem d_Mo_lacks_26 : decode prog_12_method_38_code 26 = .ok (.ireturn, 1) := by decide +kernel
theorem d_Mo_lacks_27 : decode prog_12_method_38_code 27 = .ok (.aload_n 0, 1) := by decide +kernel
theorem d_Mo_lacks_28 : decode prog_12_method_38_code 28 = .ok (.iload_n 1, 1) := by decide +kernel
theorem d_Mo_lacks_29 : decode prog_12_method_38_code 29 = .ok (.invokevirtual 156, 3) := by decide +kernel
theorem d_Mo_lacks_32 : decode prog_12_method_38_code 32 = .ok (.istore_n 3, 1) := by decide +kernel
theorem d_Mo_lacks_33 : decode prog_12_method_38_code 33 = .ok (.iload_n 2, 1) := by decide +kernel
theorem d_Mo_lacks_34 : decode prog_12_method_38_code 34 = .ok (.istore 4, 2) := by decide +kernel
theorem d_Mo_lacks_36 : decode prog_12_method_38_code 36 = .ok (.iconst 1, 1) := by decide +kernel
theorem d_Mo_lacks_37 : decode prog_12_method_38_code 37 = .ok (.istore 5, 2) := by decide +kernel
theorem d_Mo_lacks_39 : decode prog_12_method_38_code 39 = .ok (.iload_n 3, 1) := by decide +kernel
theorem d_Mo_lacks_40 : decode prog_12_method_38_code 40 = .ok (.ifCond .lt 56, 3) := by decide +kernel
theorem d_Mo_lacks_43 : decode prog_12_method_38_code 43 = .ok (.iload 5, 2) := by decide +kernel
theorem d_Mo_lacks_45 : decode prog_12_method_38_code 45 = .ok (.bipush 40, 2) := by decide +kernel
theorem d_Mo_lacks_47 : decode prog_12_method_38_code 47 = .ok (.if_icmp .gt 49, 3) := by decide +kernel
theorem d_Mo_lacks_50 : decode prog_12_method_38_code 50 = .ok (.aload_n 0, 1) := by decide +kernel
theorem d_Mo_lacks_51 : decode prog_12_method_38_code 51 = .ok (.getfield 20, 3) := by decide +kernel
theorem d_Mo_lacks_54 : decode prog_12_method_38_code 54 = .ok (.bipush 50, 2) := by decide +kernel
theorem d_Mo_lacks_56 : decode prog_12_method_38_code 56 = .ok (.iload_n 3, 1) := by decide +kernel
theorem d_Mo_lacks_57 : decode prog_12_method_38_code 57 = .ok (.imul, 1) := by decide +kernel
theorem d_Mo_lacks_58 : decode prog_12_method_38_code 58 = .ok (.iload 5, 2) := by decide +kernel
theorem d_Mo_lacks_60 : decode prog_12_method_38_code 60 = .ok (.iadd, 1) := by decide +kernel
theorem d_Mo_lacks_61 : decode prog_12_method_38_code 61 = .ok (.baload, 1) := by decide +kernel
theorem d_Mo_lacks_62 : decode prog_12_method_38_code 62 = .ok (.ifCond .eq 28, 3) := by decide +kernel
theorem d_Mo_lacks_65 : decode prog_12_method_38_code 65 = .ok (.aload_n 0, 1) := by decide +kernel
theorem d_Mo_lacks_66 : decode prog_12_method_38_code 66 = .ok (.bipush 50, 2) := by decide +kernel
theorem d_Mo_lacks_68 : decode prog_12_method_38_code 68 = .ok (.iload_n 3, 1) := by decide +kernel
theorem d_Mo_lacks_69 : decode prog_12_method_38_code 69 = .ok (.imul, 1) := by decide +kernel
theorem d_Mo_lacks_70 : decode prog_12_method_38_code 70 = .ok (.iload 5, 2) := by decide +kernel
theorem d_Mo_lacks_72 : decode prog_12_method_38_code 72 = .ok (.iadd, 1) := by decide +kernel
theorem d_Mo_lacks_73 : decode prog_12_method_38_code 73 = .ok (.invokevirtual 173, 3) := by decide +kernel
theorem d_Mo_lacks_76 : decode prog_12_method_38_code 76 = .ok (.ifCond .eq 14, 3) := by decide +kernel
theorem d_Mo_lacks_79 : decode prog_12_method_38_code 79 = .ok (.iload 4, 2) := by decide +kernel
theorem d_Mo_lacks_81 : decode prog_12_method_38_code 81 = .ok (.ifCond .ne 6, 3) := by decide +kernel
theorem d_Mo_lacks_84 : decode prog_12_method_38_code 84 = .ok (.iload 5, 2) := by decide +kernel
theorem d_Mo_lacks_86 : decode prog_12_method_38_code 86 = .ok (.ireturn, 1) := by decide +kernel
theorem d_Mo_lacks_87 : decode prog_12_method_38_code 87 = .ok (.iinc 4 (-1), 3) := by decide +kernel
theorem d_Mo_lacks_90 : decode prog_12_method_38_code 90 = .ok (.iinc 5 1, 3) := by decide +kernel
theorem d_Mo_lacks_93 : decode prog_12_method_38_code 93 = .ok (.goto (-54), 3) := by decide +kernel
theorem d_Mo_lacks_96 : decode prog_12_method_38_code 96 = .ok (.iconst (-1), 1) := by decide +kernel
theorem d_Mo_lacks_97 : decode prog_12_method_38_code 97 = .ok (.ireturn, 1) := by decide +kernel
def B_Mo_lacks_96   (S : gS) : Option (Int32 × gS) := some ((-1), S)
set_option maxRecDepth 100000 in
set_option maxHeartbeats 4000000 in
theorem w_Mo_lacks_96 {D : va_G} {cT : Nat → ClassId} {H0 : Heap} {l : Launch} {p : Program} {e : Env} {s : State} {m : MethodId} {args : Array Value} {below : List Frame} {meth : Method} {c : Code} {S0 : gS} {S' : gS} {r : Int32} (Y : gY D cT H0 p s m args meth c prog_12_method_38_code 6 "PlanTextModel" 2 42 S0 (Option.some Jvm.ClassFile.FieldType.int))   (S : gS) (hden : B_Mo_lacks_96   S = some (r, S')) {ls : Array Slot} (hl : lv_has ls 6 []) : gV D cT H0 p l e (gRm 2 42 S0) s m args below meth c (gQ D cT H0 below S0 S' (.inr (some (.int r))) s) S0 S (F0 m 96 ls []) := by
  obtain ⟨X, hZ, hex, hr, hE⟩ := id Y
  have hx := X.1
  have hb := X.2.1
  unfold B_Mo_lacks_96 at hden
  refine gV.lift (fun _ _ _ _ => lv_iconst (v := (-1)) hx hb d_Mo_lacks_96 (by decide)) ?_
  obtain ⟨rfl, rfl⟩ := gpi hden
  exact g_iret X hr d_Mo_lacks_97
def B_Mo_lacks_90 (k39 : Nat → Int32 → Int32 → Int32 → gS → Option (Int32 × gS)) (x0 : Nat) (x3 : Int32) (x4 : Int32) (x5 : Int32) (S : gS) : Option (Int32 × gS) := k39 x0 x3 x4 (x5 + 1) S
set_option maxRecDepth 100000 in
set_option maxHeartbeats 4000000 in
theorem w_Mo_lacks_90 {D : va_G} {cT : Nat → ClassId} {H0 : Heap} {l : Launch} {p : Program} {e : Env} {s : State} {m : MethodId} {args : Array Value} {below : List Frame} {meth : Method} {c : Code} {S0 : gS} {S' : gS} {r : Int32} (Y : gY D cT H0 p s m args meth c prog_12_method_38_code 6 "PlanTextModel" 2 42 S0 (Option.some Jvm.ClassFile.FieldType.int)) {k39 : Nat → Int32 → Int32 → Int32 → gS → Option (Int32 × gS)} (hk39 : ∀ (x0 : Nat) (x3 : Int32) (x4 : Int32) (x5 : Int32) (S : gS) (ls : Array Slot), k39 x0 x3 x4 x5 S = some (r, S') → lv_has ls 6 [(0, va_rf (some x0)), (3, .int x3), (4, .int x4), (5, .int x5)] → gV D cT H0 p l e (gRm 2 42 S0) s m args below meth c (gQ D cT H0 below S0 S' (.inr (some (.int r))) s) S0 S (F0 m 39 ls [])) (x0 : Nat) (x3 : Int32) (x4 : Int32) (x5 : Int32) (S : gS) (hden : B_Mo_lacks_90 k39 x0 x3 x4 x5 S = some (r, S')) {ls : Array Slot} (hl : lv_has ls 6 [(0, va_rf (some x0)), (3, .int x3), (4, .int x4), (5, .int x5)]) : gV D cT H0 p l e (gRm 2 42 S0) s m args below meth c (gQ D cT H0 below S0 S' (.inr (some (.int r))) s) S0 S (F0 m 90 ls []) := by
  obtain ⟨X, hZ, hex, hr, hE⟩ := id Y
  have hx := X.1
  have hb := X.2.1
  unfold B_Mo_lacks_90 at hden
  refine gV.liftS (nL := 6) (lv' := [(5, .int (x5 + 1)), (0, va_rf (some x0)), (3, .int x3), (4, .int x4)]) (fun _ _ _ _ => lv_iinc (v := (x5 + 1)) hx hb d_Mo_lacks_90 hl (k := 3) rfl rfl (by decide) rfl) (fun ls hl => ?_)
  refine gV.lift (fun _ _ _ _ => lv_goto (tgt := 39) hx hb d_Mo_lacks_93 (by decide)) ?_
  exact hk39 x0 x3 x4 (x5 + 1) S _ hden (lv_sub hl [1, 2, 3, 0] rfl)
def B_Mo_lacks_39 (k39 : Nat → Int32 → Int32 → Int32 → gS → Option (Int32 × gS)) (x0 : Nat) (x3 : Int32) (x4 : Int32) (x5 : Int32) (S : gS) : Option (Int32 × gS) := (if x3 < 0 then B_Mo_lacks_96  S else (if 40 < x5 then B_Mo_lacks_96  S else Option.bind (gRf S x0 10 10) (fun r3 => Option.bind r3 (fun a4 => Option.bind (gAI S a4 3 ((50 * x3) + x5)) (fun v5 => (if v5 = 0 then B_Mo_lacks_90 k39 x0 x3 x4 x5 S else Option.bind (gOb S x0 10) (fun fs9 => gB2 (D_Mo_isShort x0 ((50 * x3) + x5) S) (fun v8 S7 => (if v8 = 0 then B_Mo_lacks_90 k39 x0 x3 x4 x5 S7 else (if x4 = 0 then some (x5, S7) else B_Mo_lacks_90 k39 x0 x3 (x4 + (-1)) x5 S7))))))))))
set_option maxRecDepth 100000 in
set_option maxHeartbeats 4000000 in
theorem w_Mo_lacks_39 {D : va_G} {cT : Nat → ClassId} {H0 : Heap} {l : Launch} {p : Program} {e : Env} {s : State} {m : MethodId} {args : Array Value} {below : List Frame} {meth : Method} {c : Code} {S0 : gS} {S' : gS} {r : Int32} (Y : gY D cT H0 p s m args meth c prog_12_method_38_code 6 "PlanTextModel" 2 42 S0 (Option.some Jvm.ClassFile.FieldType.int)) {k39 : Nat → Int32 → Int32 → Int32 → gS → Option (Int32 × gS)} (hk39 : ∀ (x0 : Nat) (x3 : Int32) (x4 : Int32) (x5 : Int32) (S : gS) (ls : Array Slot), k39 x0 x3 x4 x5 S = some (r, S') → lv_has ls 6 [(0, va_rf (some x0)), (3, .int x3), (4, .int x4), (5, .int x5)] → gV D cT H0 p l e (gRm 2 42 S0) s m args below meth c (gQ D cT H0 below S0 S' (.inr (some (.int r))) s) S0 S (F0 m 39 ls [])) (x0 : Nat) (x3 : Int32) (x4 : Int32) (x5 : Int32) (S : gS) (hden : B_Mo_lacks_39 k39 x0 x3 x4 x5 S = some (r, S')) {ls : Array Slot} (hl : lv_has ls 6 [(0, va_rf (some x0)), (3, .int x3), (4, .int x4), (5, .int x5)]) : gV D cT H0 p l e (gRm 2 42 S0) s m args below meth c (gQ D cT H0 below S0 S' (.inr (some (.int r))) s) S0 S (F0 m 39 ls []) := by
  obtain ⟨X, hZ, hex, hr, hE⟩ := id Y
  have hx := X.1
  have hb := X.2.1
  unfold B_Mo_lacks_39 at hden
  refine gV.lift (fun _ _ _ _ => lv_iload_n hx hb d_Mo_lacks_39 rfl (lv_at hl 1 rfl)) ?_
  refine gV.lift2 (fun _ _ _ _ => lv_if_lt (tgt := 96) hx hb d_Mo_lacks_40 (by decide)) (fun hc1 => ?_) (fun hc1 => ?_)
  · replace hden := gip hc1 hden
    exact w_Mo_lacks_96 Y  S hden (lv_sub hl [] rfl)
  · replace hden := gin hc1 hden
    refine gV.lift (fun _ _ _ _ => lv_iload hx hb d_Mo_lacks_43 (lv_at hl 3 rfl)) ?_
    refine gV.lift (fun _ _ _ _ => lv_bipush (v := 40) hx hb d_Mo_lacks_45 (by decide)) ?_
    refine gV.lift2 (fun _ _ _ _ => lv_icmp_gt (tgt := 96) hx hb d_Mo_lacks_47 (by decide)) (fun hc2 => ?_) (fun hc2 => ?_)
    · replace hden := gip hc2 hden
      exact w_Mo_lacks_96 Y  S hden (lv_sub hl [] rfl)
    · replace hden := gin hc2 hden
      refine gV.lift (fun _ _ _ _ => g_aload_n hx hb d_Mo_lacks_50 rfl (lv_at hl 0 rfl)) ?_
      replace hden := gb hden
      obtain ⟨r3, hv, hden⟩ := hden
      refine r_getR X cl_Mo (k := 10) hv (by decide) q_775 d_Mo_lacks_51 ?_
      refine gV.lift (fun _ _ _ _ => lv_bipush (v := 50) hx hb d_Mo_lacks_54 (by decide)) ?_
      refine gV.lift (fun _ _ _ _ => lv_iload_n hx hb d_Mo_lacks_56 rfl (lv_at hl 1 rfl)) ?_
      refine gV.lift (fun _ _ _ _ => lv_imul hx hb d_Mo_lacks_57) ?_
      refine gV.lift (fun _ _ _ _ => lv_iload hx hb d_Mo_lacks_58 (lv_at hl 3 rfl)) ?_
      refine gV.lift (fun _ _ _ _ => lv_iadd hx hb d_Mo_lacks_60) ?_
      replace hden := gb hden
      obtain ⟨a4, rfl, hden⟩ := hden
      replace hden := gb hden
      obtain ⟨v5, hv, hden⟩ := hden
      refine r_zald X (t := 3) rfl hv d_Mo_lacks_61 ?_
      refine gV.lift2 (fun _ _ _ _ => lv_if_eq (tgt := 90) hx hb d_Mo_lacks_62 (by decide)) (fun hc6 => ?_) (fun hc6 => ?_)
      · replace hden := gip hc6 hden
        exact w_Mo_lacks_90 Y hk39 x0 x3 x4 x5 S hden (lv_sub hl [0, 1, 2, 3] rfl)
      · replace hden := gin hc6 hden
        refine gV.lift (fun _ _ _ _ => g_aload_n hx hb d_Mo_lacks_65 rfl (lv_at hl 0 rfl)) ?_
        refine gV.lift (fun _ _ _ _ => lv_bipush (v := 50) hx hb d_Mo_lacks_66 (by decide)) ?_
        refine gV.lift (fun _ _ _ _ => lv_iload_n hx hb d_Mo_lacks_68 rfl (lv_at hl 1 rfl)) ?_
        refine gV.lift (fun _ _ _ _ => lv_imul hx hb d_Mo_lacks_69) ?_
        refine gV.lift (fun _ _ _ _ => lv_iload hx hb d_Mo_lacks_70 (lv_at hl 3 rfl)) ?_
        refine gV.lift (fun _ _ _ _ => lv_iadd hx hb d_Mo_lacks_72) ?_
        replace hden := gb hden
        obtain ⟨fs9, ho, hden⟩ := hden
        replace hden := gb2 hden
        obtain ⟨v8, S7, hz, hden⟩ := hden
        refine g_callV (As := [.int ((50 * x3) + x5)]) (rest := []) X hZ (c_Mo_isShort hz) cl_Mo (gOb_spec ho) q_989 q_5 q_986 q_988 qp_48 ⟨by decide, by decide, by show _ = some 1; decide +kernel⟩ ⟨by decide, by decide⟩ hl.1 (Nat.le_of_ble_eq_true rfl) d_Mo_lacks_73 rfl rfl ?_
        refine gV.lift2 (fun _ _ _ _ => lv_if_eq (tgt := 90) hx hb d_Mo_lacks_76 (by decide)) (fun hc10 => ?_) (fun hc10 => ?_)
        · replace hden := gip hc10 hden
          exact w_Mo_lacks_90 Y hk39 x0 x3 x4 x5 S7 hden (lv_sub hl [0, 1, 2, 3] rfl)
        · replace hden := gin hc10 hden
          refine gV.lift (fun _ _ _ _ => lv_iload hx hb d_Mo_lacks_79 (lv_at hl 2 rfl)) ?_
          refine gV.lift2 (fun _ _ _ _ => lv_if_ne (tgt := 87) hx hb d_Mo_lacks_81 (by decide)) (fun hc11 => ?_) (fun hc11 => ?_)
          · replace hden := gin hc11 hden
            refine gV.liftS (nL := 6) (lv' := [(4, .int (x4 + (-1))), (0, va_rf (some x0)), (3, .int x3), (5, .int x5)]) (fun _ _ _ _ => lv_iinc (v := (x4 + (-1))) hx hb d_Mo_lacks_87 hl (k := 2) rfl rfl (by decide) rfl) (fun ls hl => ?_)
            exact w_Mo_lacks_90 Y hk39 x0 x3 (x4 + (-1)) x5 S7 hden (lv_sub hl [1, 2, 0, 3] rfl)
          · replace hden := gip hc11 hden
            refine gV.lift (fun _ _ _ _ => lv_iload hx hb d_Mo_lacks_84 (lv_at hl 3 rfl)) ?_
            obtain ⟨rfl, rfl⟩ := gpi hden
            exact g_iret X hr d_Mo_lacks_86
def L_Mo_lacks_39  : Nat → Nat → Int32 → Int32 → Int32 → gS → Option (Int32 × gS)
  | 0 => fun _ _ _ _ _ => none
  | n + 1 => fun x0 x3 x4 x5 S => B_Mo_lacks_39  (L_Mo_lacks_39  n) x0 x3 x4 x5 S
theorem wL_Mo_lacks_39 {D : va_G} {cT : Nat → ClassId} {H0 : Heap} {l : Launch} {p : Program} {e : Env} {s : State} {m : MethodId} {args : Array Value} {below : List Frame} {meth : Method} {c : Code} {S0 : gS} {S' : gS} {r : Int32} (Y : gY D cT H0 p s m args meth c prog_12_method_38_code 6 "PlanTextModel" 2 42 S0 (Option.some Jvm.ClassFile.FieldType.int))  : ∀ (n : Nat) (x0 : Nat) (x3 : Int32) (x4 : Int32) (x5 : Int32) (S : gS) (ls : Array Slot), L_Mo_lacks_39  n x0 x3 x4 x5 S = some (r, S') → lv_has ls 6 [(0, va_rf (some x0)), (3, .int x3), (4, .int x4), (5, .int x5)] → gV D cT H0 p l e (gRm 2 42 S0) s m args below meth c (gQ D cT H0 below S0 S' (.inr (some (.int r))) s) S0 S (F0 m 39 ls []) := by
  intro n
  induction n with
  | zero => intro x0 x3 x4 x5 S ls h hl; cases h
  | succ n ih => intro x0 x3 x4 x5 S ls h hl; exact w_Mo_lacks_39 Y ih x0 x3 x4 x5 S h hl
def B_Mo_lacks_17  (x0 : Nat) (x1 : Int32) (x2 : Int32) (t0 : Int32) (t1 : Nat) (S : gS) : Option (Int32 × gS) := Option.bind (gOb S t1 10) (fun fs3 => gB2 (D_Mo_throwing t1 t0 0 0 S) (fun v2 S1 => (if v2 = 0 then Option.bind (gOb S1 x0 10) (fun fs7 => gB2 (D_Mo_editionOf x0 x1 S1) (fun v6 S5 => L_Mo_lacks_39  gF x0 v6 x2 1 S5)) else some (0, S1))))
set_option maxRecDepth 100000 in
set_option maxHeartbeats 4000000 in
theorem w_Mo_lacks_17 {D : va_G} {cT : Nat → ClassId} {H0 : Heap} {l : Launch} {p : Program} {e : Env} {s : State} {m : MethodId} {args : Array Value} {below : List Frame} {meth : Method} {c : Code} {S0 : gS} {S' : gS} {r : Int32} (Y : gY D cT H0 p s m args meth c prog_12_method_38_code 6 "PlanTextModel" 2 42 S0 (Option.some Jvm.ClassFile.FieldType.int))  (x0 : Nat) (x1 : Int32) (x2 : Int32) (t0 : Int32) (t1 : Nat) (S : gS) (hden : B_Mo_lacks_17  x0 x1 x2 t0 t1 S = some (r, S')) {ls : Array Slot} (hl : lv_has ls 6 [(0, va_rf (some x0)), (1, .int x1), (2, .int x2)]) : gV D cT H0 p l e (gRm 2 42 S0) s m args below meth c (gQ D cT H0 below S0 S' (.inr (some (.int r))) s) S0 S (F0 m 17 ls [.int t0, va_rf (some t1)]) := by
  obtain ⟨X, hZ, hex, hr, hE⟩ := id Y
  have hx := X.1
  have hb := X.2.1
  unfold B_Mo_lacks_17 at hden
  refine gV.lift (fun _ _ _ _ => lv_iconst (v := 0) hx hb d_Mo_lacks_17 (by decide)) ?_
  refine gV.lift (fun _ _ _ _ => lv_iconst (v := 0) hx hb d_Mo_lacks_18 (by decide)) ?_
  replace hden := gb hden
  obtain ⟨fs3, ho, hden⟩ := hden
  replace hden := gb2 hden
  obtain ⟨v2, S1, hz, hden⟩ := hden
  refine g_callV (As := [.int t0, .int 0, .int 0]) (rest := []) X hZ (c_Mo_throwing hz) cl_Mo (gOb_spec ho) q_859 q_5 q_856 q_858 qp_26 ⟨by decide, by decide, by show _ = some 3; decide +kernel⟩ ⟨by decide, by decide⟩ hl.1 (Nat.le_of_ble_eq_true rfl) d_Mo_lacks_19 rfl rfl ?_
  refine gV.lift2 (fun _ _ _ _ => lv_if_eq (tgt := 27) hx hb d_Mo_lacks_22 (by decide)) (fun hc4 => ?_) (fun hc4 => ?_)
  · replace hden := gip hc4 hden
    refine gV.lift (fun _ _ _ _ => g_aload_n hx hb d_Mo_lacks_27 rfl (lv_at hl 0 rfl)) ?_
    refine gV.lift (fun _ _ _ _ => lv_iload_n hx hb d_Mo_lacks_28 rfl (lv_at hl 1 rfl)) ?_
    replace hden := gb hden
    obtain ⟨fs7, ho, hden⟩ := hden
    replace hden := gb2 hden
    obtain ⟨v6, S5, hz, hden⟩ := hden
    refine g_callV (As := [.int x1]) (rest := []) X hZ (c_Mo_editionOf hz) cl_Mo (gOb_spec ho) q_942 q_5 q_939 q_941 qp_42 ⟨by decide, by decide, by show _ = some 1; decide +kernel⟩ ⟨by decide, by decide⟩ hl.1 (Nat.le_of_ble_eq_true rfl) d_Mo_lacks_29 rfl rfl ?_
    refine gV.liftS (nL := 6) (lv' := [(3, .int v6), (0, va_rf (some x0)), (1, .int x1), (2, .int x2)]) (fun _ _ _ _ => lv_istore_n hx hb d_Mo_lacks_32 rfl hl (by decide) rfl) (fun ls hl => ?_)
    refine gV.lift (fun _ _ _ _ => lv_iload_n hx hb d_Mo_lacks_33 rfl (lv_at hl 3 rfl)) ?_
    refine gV.liftS (nL := 6) (lv' := [(4, .int x2), (3, .int v6), (0, va_rf (some x0)), (1, .int x1), (2, .int x2)]) (fun _ _ _ _ => lv_istore hx hb d_Mo_lacks_34 hl (by decide) rfl) (fun ls hl => ?_)
    refine gV.lift (fun _ _ _ _ => lv_iconst (v := 1) hx hb d_Mo_lacks_36 (by decide)) ?_
    refine gV.liftS (nL := 6) (lv' := [(5, .int 1), (4, .int x2), (3, .int v6), (0, va_rf (some x0)), (1, .int x1), (2, .int x2)]) (fun _ _ _ _ => lv_istore hx hb d_Mo_lacks_37 hl (by decide) rfl) (fun ls hl => ?_)
    exact wL_Mo_lacks_39 Y  gF x0 v6 x2 1 S5 _ hden (lv_sub hl [3, 2, 1, 0] rfl)
  · replace hden := gin hc4 hden
    refine gV.lift (fun _ _ _ _ => lv_iconst (v := 0) hx hb d_Mo_lacks_25 (by decide)) ?_
    obtain ⟨rfl, rfl⟩ := gpi hden
    exact g_iret X hr d_Mo_lacks_26
def B_Mo_lacks_12  (x0 : Nat) (x1 : Int32) (x2 : Int32) (t0 : Nat) (S : gS) : Option (Int32 × gS) := B_Mo_lacks_17  x0 x1 x2 1 t0 S
set_option maxRecDepth 100000 in
set_option maxHeartbeats 4000000 in
theorem w_Mo_lacks_12 {D : va_G} {cT : Nat → ClassId} {H0 : Heap} {l : Launch} {p : Program} {e : Env} {s : State} {m : MethodId} {args : Array Value} {below : List Frame} {meth : Method} {c : Code} {S0 : gS} {S' : gS} {r : Int32} (Y : gY D cT H0 p s m args meth c prog_12_method_38_code 6 "PlanTextModel" 2 42 S0 (Option.some Jvm.ClassFile.FieldType.int))  (x0 : Nat) (x1 : Int32) (x2 : Int32) (t0 : Nat) (S : gS) (hden : B_Mo_lacks_12  x0 x1 x2 t0 S = some (r, S')) {ls : Array Slot} (hl : lv_has ls 6 [(0, va_rf (some x0)), (1, .int x1), (2, .int x2)]) : gV D cT H0 p l e (gRm 2 42 S0) s m args below meth c (gQ D cT H0 below S0 S' (.inr (some (.int r))) s) S0 S (F0 m 12 ls [va_rf (some t0)]) := by
  obtain ⟨X, hZ, hex, hr, hE⟩ := id Y
  have hx := X.1
  have hb := X.2.1
  unfold B_Mo_lacks_12 at hden
  refine gV.lift (fun _ _ _ _ => lv_iconst (v := 1) hx hb d_Mo_lacks_12 (by decide)) ?_
  refine gV.lift (fun _ _ _ _ => lv_goto (tgt := 17) hx hb d_Mo_lacks_13 (by decide)) ?_
  exact w_Mo_lacks_17 Y  x0 x1 x2 1 t0 S hden (lv_sub hl [0, 1, 2] rfl)
def D_Mo_lacks (h0 : Nat) (p0 : Int32) (p1 : Int32) (S : gS) : Option (Int32 × gS) := gB2 (D_Mo_isDay p0 S) (fun v2 S1 => (if v2 = 0 then B_Mo_lacks_12  h0 p0 p1 h0 S1 else (if 0 ≤ p1 then B_Mo_lacks_17  h0 p0 p1 0 h0 S1 else B_Mo_lacks_12  h0 p0 p1 h0 S1)))
set_option maxRecDepth 100000 in
set_option maxHeartbeats 4000000 in
theorem c_Mo_lacks {D : va_G} {cT : Nat → ClassId} {H0 : Heap} {l : Launch} {S : gS} {S' : gS} {h0 : Nat} {p0 : Int32} {p1 : Int32} {r : Int32} (hden : D_Mo_lacks h0 p0 p1 S = some (r, S')) : gM D cT H0 l y_Mo_lacks (Cond.code y_Mo_lacks prog_12_method_38_code 6 (Option.some Jvm.ClassFile.FieldType.int)) 2 42 [va_rf (some h0), .int p0, .int p1] S S' (.inr (some (.int r))) := by
  refine gM.ofV (by decide) ?_
  intro p e s m args below meth c s₁ B hml ea X hZ hex hr hE
  subst ea
  have Y : gY D cT H0 p s m _ meth c prog_12_method_38_code 6 "PlanTextModel" 2 42 S (Option.some Jvm.ClassFile.FieldType.int) := ⟨X, hZ, hex, hr, hE⟩
  have hx := X.1
  have hb := X.2.1
  have hl := lv_entry ([va_rf (some h0), .int p0, .int p1]) (n := 6) (Nat.le_of_ble_eq_true rfl)
  rw [lg_entry_eq]
  generalize (lg_sl ([va_rf (some h0), .int p0, .int p1]) ++ List.replicate (6 - (lg_sl ([va_rf (some h0), .int p0, .int p1])).length) Slot.unset).toArray = ls at hl ⊢
  have hl : lv_has ls 6 [(0, va_rf (some h0)), (1, .int p0), (2, .int p1)] := hl
  unfold D_Mo_lacks at hden
  refine gV.lift (fun _ _ _ _ => g_aload_n hx hb d_Mo_lacks_0 rfl (lv_at hl 0 rfl)) ?_
  refine gV.lift (fun _ _ _ _ => lv_iload_n hx hb d_Mo_lacks_1 rfl (lv_at hl 1 rfl)) ?_
  replace hden := gb2 hden
  obtain ⟨v2, S1, hz, hden⟩ := hden
  refine g_callS (As := [.int p0]) (rest := [va_rf (some h0)]) X hZ (c_Mo_isDay hz) q_938 q_5 q_936 q_937 ⟨by decide, by decide, by show _ = some 1; decide +kernel⟩ ⟨by decide, by decide⟩ hl.1 (Nat.le_of_ble_eq_true rfl) d_Mo_lacks_2 rfl rfl ?_
  refine gV.lift2 (fun _ _ _ _ => lv_if_eq (tgt := 12) hx hb d_Mo_lacks_5 (by decide)) (fun hc3 => ?_) (fun hc3 => ?_)
  · replace hden := gip hc3 hden
    exact w_Mo_lacks_12 Y  h0 p0 p1 h0 S1 hden (lv_sub hl [0, 1, 2] rfl)
  · replace hden := gin hc3 hden
    refine gV.lift (fun _ _ _ _ => lv_iload_n hx hb d_Mo_lacks_8 rfl (lv_at hl 2 rfl)) ?_
    refine gV.lift2 (fun _ _ _ _ => lv_if_ge (tgt := 16) hx hb d_Mo_lacks_9 (by decide)) (fun hc4 => ?_) (fun hc4 => ?_)
    · replace hden := gip hc4 hden
      refine gV.lift (fun _ _ _ _ => lv_iconst (v := 0) hx hb d_Mo_lacks_16 (by decide)) ?_
      exact w_Mo_lacks_17 Y  h0 p0 p1 0 h0 S1 hden (lv_sub hl [0, 1, 2] rfl)
    · replace hden := gin hc4 hden
      exact w_Mo_lacks_12 Y  h0 p0 p1 h0 S1 hden (lv_sub hl [0, 1, 2] rfl)
/-! PlanTextModel.put(I)V -/
abbrev y_Mo_put : MethodName := ⟨"PlanTextModel", "put", "(I)V"⟩
theorem d_Mo_put_0 : decode prog_12_method_39_code 0 = .ok (.aload_n 0, 1) := by decide +kernel
theorem d_Mo_put_1 : decode prog_12_method_39_code 1 = .ok (.getfield 63, 3) := by decide +kernel
theorem d_Mo_put_4 : decode prog_12_method_39_code 4 = .ok (.aload_n 0, 1) := by decide +kernel
theorem d_Mo_put_5 : decode prog_12_method_39_code 5 = .ok (.getfield 176, 3) := by decide +kernel
theorem d_Mo_put_8 : decode prog_12_method_39_code 8 = .ok (.iload_n 1, 1) := by decide +kernel
theorem d_Mo_put_9 : decode prog_12_method_39_code 9 = .ok (.iastore, 1) := by decide +kernel
theorem d_Mo_put_10 : decode prog_12_method_39_code 10 = .ok (.aload_n 0, 1) := by decide +kernel
theorem d_Mo_put_11 : decode prog_12_method_39_code 11 = .ok (.dup, 1) := by decide +kernel
theorem d_Mo_put_12 : decode prog_12_method_39_code 12 = .ok (.getfield 176, 3) := by decide +kernel
theorem d_Mo_put_15 : decode prog_12_method_39_code 15 = .ok (.iconst 1, 1) := by decide +kernel
theorem d_Mo_put_16 : decode prog_12_method_39_code 16 = .ok (.iadd, 1) := by decide +kernel
theorem d_Mo_put_17 : decode prog_12_method_39_code 17 = .ok (.putfield 176, 3) := by decide +kernel
theorem d_Mo_put_20 : decode prog_12_method_39_code 20 = .ok (.return_, 1) := by decide +kernel
def D_Mo_put (h0 : Nat) (p0 : Int32) (S : gS) : Option gS := Option.bind (gRf S h0 10 24) (fun r1 => Option.bind (gI S h0 10 25) (fun v2 => Option.bind r1 (fun a3 => Option.bind (gSI S a3 0 v2 p0) (fun S4 => Option.bind (gI S4 h0 10 25) (fun v5 => Option.bind (gPut S4 h0 10 25 (.int (v5 + 1))) (fun S6 => some S6))))))
set_option maxRecDepth 100000 in
set_option maxHeartbeats 4000000 in
theorem c_Mo_put {D : va_G} {cT : Nat → ClassId} {H0 : Heap} {l : Launch} {S : gS} {S' : gS} {h0 : Nat} {p0 : Int32} (hden : D_Mo_put h0 p0 S = some S') : gM D cT H0 l y_Mo_put (Cond.code y_Mo_put prog_12_method_39_code 2 (Option.none : Option Jvm.ClassFile.FieldType)) 0 0 [va_rf (some h0), .int p0] S S' (.inr none) := by
  refine gM.ofV (by decide) ?_
  intro p e s m args below meth c s₁ B hml ea X hZ hex hr hE
  subst ea
  have Y : gY D cT H0 p s m _ meth c prog_12_method_39_code 2 "PlanTextModel" 0 0 S (Option.none : Option Jvm.ClassFile.FieldType) := ⟨X, hZ, hex, hr, hE⟩
  have hx := X.1
  have hb := X.2.1
  have hl := lv_entry ([va_rf (some h0), .int p0]) (n := 2) (Nat.le_of_ble_eq_true rfl)
  rw [lg_entry_eq]
  generalize (lg_sl ([va_rf (some h0), .int p0]) ++ List.replicate (2 - (lg_sl ([va_rf (some h0), .int p0])).length) Slot.unset).toArray = ls at hl ⊢
  have hl : lv_has ls 2 [(0, va_rf (some h0)), (1, .int p0)] := hl
  unfold D_Mo_put at hden
  refine gV.lift (fun _ _ _ _ => g_aload_n hx hb d_Mo_put_0 rfl (lv_at hl 0 rfl)) ?_
  replace hden := gb hden
  obtain ⟨r1, hv, hden⟩ := hden
  refine r_getR X cl_Mo (k := 24) hv (by decide) q_789 d_Mo_put_1 ?_
  refine gV.lift (fun _ _ _ _ => g_aload_n hx hb d_Mo_put_4 rfl (lv_at hl 0 rfl)) ?_
  replace hden := gb hden
  obtain ⟨v2, hv, hden⟩ := hden
  refine r_getI X cl_Mo (k := 25) hv (by decide) q_790 d_Mo_put_5 ?_
  refine gV.lift (fun _ _ _ _ => lv_iload_n hx hb d_Mo_put_8 rfl (lv_at hl 1 rfl)) ?_
  replace hden := gb hden
  obtain ⟨a3, rfl, hden⟩ := hden
  replace hden := gb hden
  obtain ⟨S4, hv, hden⟩ := hden
  refine r_iast X (t := 0) rfl hv d_Mo_put_9 ?_
  refine gV.lift (fun _ _ _ _ => g_aload_n hx hb d_Mo_put_10 rfl (lv_at hl 0 rfl)) ?_
  refine gV.lift (fun _ _ _ _ => lv_dup hx hb d_Mo_put_11 g_cat) ?_
  replace hden := gb hden
  obtain ⟨v5, hv, hden⟩ := hden
  refine r_getI X cl_Mo (k := 25) hv (by decide) q_790 d_Mo_put_12 ?_
  refine gV.lift (fun _ _ _ _ => lv_iconst (v := 1) hx hb d_Mo_put_15 (by decide)) ?_
  refine gV.lift (fun _ _ _ _ => lv_iadd hx hb d_Mo_put_16) ?_
  replace hden := gb hden
  obtain ⟨S6, hv, hden⟩ := hden
  refine r_put X cl_Mo (k := 25) hv (by decide) q_790 rfl rfl rfl d_Mo_put_17 ?_
  obtain rfl := gsi hden
  exact g_vret X hr d_Mo_put_20
/-! PlanTextModel.putNumber(II)V -/
abbrev y_Mo_putNumber : MethodName := ⟨"PlanTextModel", "putNumber", "(II)V"⟩
theorem d_Mo_putNumber_0 : decode prog_12_method_40_code 0 = .ok (.aload_n 0, 1) := by decide +kernel
theorem d_Mo_putNumber_1 : decode prog_12_method_40_code 1 = .ok (.iload_n 1, 1) := by decide +kernel
theorem d_Mo_putNumber_2 : decode prog_12_method_40_code 2 = .ok (.invokevirtual 179, 3) := by decide +kernel
theorem d_Mo_putNumber_5 : decode prog_12_method_40_code 5 = .ok (.iload_n 2, 1) := by decide +kernel
theorem d_Mo_putNumber_6 : decode prog_12_method_40_code 6 = .ok (.bipush 99, 2) := by decide +kernel
theorem d_Mo_putNumber_8 : decode prog_12_method_40_code 8 = .ok (.if_icmp .le 14, 3) := by decide +kernel
theorem d_Mo_putNumber_11 : decode prog_12_method_40_code 11 = .ok (.aload_n 0, 1) := by decide +kernel
theorem d_Mo_putNumber_12 : decode prog_12_method_40_code 12 = .ok (.bipush 48, 2) := by decide +kernel
theorem d_Mo_putNumber_14 : decode prog_12_method_40_code 14 = .ok (.iload_n 2, 1) := by decide +kernel
theorem d_Mo_putNumber_15 : decode prog_12_method_40_code 15 = .ok (.bipush 100, 2) := by decide +kernel
theorem d_Mo_putNumber_17 : decode prog_12_method_40_code 17 = .ok (.idiv, 1) := by decide +kernel
theorem d_Mo_putNumber_18 : decode prog_12_method_40_code 18 = .ok (.iadd, 1) := by decide +kernel
theorem d_Mo_putNumber_19 : decode prog_12_method_40_code 19 = .ok (.invokevirtual 179, 3) := by decide +kernel
theorem d_Mo_putNumber_22 : decode prog_12_method_40_code 22 = .ok (.iload_n 2, 1) := by decide +kernel
theorem d_Mo_putNumber_23 : decode prog_12_method_40_code 23 = .ok (.bipush 9, 2) := by decide +kernel
theorem d_Mo_putNumber_25 : decode prog_12_method_40_code 25 = .ok (.if_icmp .le 17, 3) := by decide +kernel
theorem d_Mo_putNumber_28 : decode prog_12_method_40_code 28 = .ok (.aload_n 0, 1) := by decide +kernel
theorem d_Mo_putNumber_29 : decode prog_12_method_40_code 29 = .ok (.bipush 48, 2) := by decide +kernel
theorem d_Mo_putNumber_31 : decode prog_12_method_40_code 31 = .ok (.iload_n 2, 1) := by decide +kernel
theorem d_Mo_putNumber_32 : decode prog_12_method_40_code 32 = .ok (.bipush 10, 2) := by decide +kernel
theorem d_Mo_putNumber_34 : decode prog_12_method_40_code 34 = .ok (.idiv, 1) := by decide +kernel
theorem d_Mo_putNumber_35 : decode prog_12_method_40_code 35 = .ok (.bipush 10, 2) := by decide +kernel
theorem d_Mo_putNumber_37 : decode prog_12_method_40_code 37 = .ok (.irem, 1) := by decide +kernel
theorem d_Mo_putNumber_38 : decode prog_12_method_40_code 38 = .ok (.iadd, 1) := by decide +kernel
theorem d_Mo_putNumber_39 : decode prog_12_method_40_code 39 = .ok (.invokevirtual 179, 3) := by decide +kernel
theorem d_Mo_putNumber_42 : decode prog_12_method_40_code 42 = .ok (.aload_n 0, 1) := by decide +kernel
theorem d_Mo_putNumber_43 : decode prog_12_method_40_code 43 = .ok (.bipush 48, 2) := by decide +kernel
theorem d_Mo_putNumber_45 : decode prog_12_method_40_code 45 = .ok (.iload_n 2, 1) := by decide +kernel
theorem d_Mo_putNumber_46 : decode prog_12_method_40_code 46 = .ok (.bipush 10, 2) := by decide +kernel
theorem d_Mo_putNumber_48 : decode prog_12_method_40_code 48 = .ok (.irem, 1) := by decide +kernel
theorem d_Mo_putNumber_49 : decode prog_12_method_40_code 49 = .ok (.iadd, 1) := by decide +kernel
theorem d_Mo_putNumber_50 : decode prog_12_method_40_code 50 = .ok (.invokevirtual 179, 3) := by decide +kernel
theorem d_Mo_putNumber_53 : decode prog_12_method_40_code 53 = .ok (.return_, 1) := by decide +kernel
def B_Mo_putNumber_42  (x0 : Nat) (x2 : Int32) (S : gS) : Option gS := Option.bind (gOb S x0 10) (fun fs2 => Option.bind (D_Mo_put x0 (48 + (x2 - x2 / 10 * 10)) S) (fun S1 => some S1))
set_option maxRecDepth 100000 in
set_option maxHeartbeats 4000000 in
theorem w_Mo_putNumber_42 {D : va_G} {cT : Nat → ClassId} {H0 : Heap} {l : Launch} {p : Program} {e : Env} {s : State} {m : MethodId} {args : Array Value} {below : List Frame} {meth : Method} {c : Code} {S0 : gS} {S' : gS} (Y : gY D cT H0 p s m args meth c prog_12_method_40_code 3 "PlanTextModel" 1 21 S0 (Option.none : Option Jvm.ClassFile.FieldType))  (x0 : Nat) (x2 : Int32) (S : gS) (hden : B_Mo_putNumber_42  x0 x2 S = some S') {ls : Array Slot} (hl : lv_has ls 3 [(0, va_rf (some x0)), (2, .int x2)]) : gV D cT H0 p l e (gRm 1 21 S0) s m args below meth c (gQ D cT H0 below S0 S' (.inr none) s) S0 S (F0 m 42 ls []) := by
  obtain ⟨X, hZ, hex, hr, hE⟩ := id Y
  have hx := X.1
  have hb := X.2.1
  unfold B_Mo_putNumber_42 at hden
  refine gV.lift (fun _ _ _ _ => g_aload_n hx hb d_Mo_putNumber_42 rfl (lv_at hl 0 rfl)) ?_
  refine gV.lift (fun _ _ _ _ => lv_bipush (v := 48) hx hb d_Mo_putNumber_43 (by decide)) ?_
  refine gV.lift (fun _ _ _ _ => lv_iload_n hx hb d_Mo_putNumber_45 rfl (lv_at hl 1 rfl)) ?_
  refine gV.lift (fun _ _ _ _ => lv_bipush (v := 10) hx hb d_Mo_putNumber_46 (by decide)) ?_
  refine gV.lift (fun _ _ _ _ => lv_irem hx hb d_Mo_putNumber_48 (by decide)) ?_
  refine gV.lift (fun _ _ _ _ => lv_iadd hx hb d_Mo_putNumber_49) ?_
  replace hden := gb hden
  obtain ⟨fs2, ho, hden⟩ := hden
  replace hden := gb hden
  obtain ⟨S1, hz, hden⟩ := hden
  refine g_callV (As := [.int (48 + (x2 - x2 / 10 * 10))]) (rest := []) X hZ (c_Mo_put hz) cl_Mo (gOb_spec ho) q_1005 q_5 q_1002 q_1004 qp_51 ⟨by decide, by decide, by show _ = some 1; decide +kernel⟩ ⟨by decide, by decide⟩ hl.1 (Nat.le_of_ble_eq_true rfl) d_Mo_putNumber_50 rfl rfl ?_
  obtain rfl := gsi hden
  exact g_vret X hr d_Mo_putNumber_53
def B_Mo_putNumber_22  (x0 : Nat) (x2 : Int32) (S : gS) : Option gS := (if x2 ≤ 9 then B_Mo_putNumber_42  x0 x2 S else Option.bind (gOb S x0 10) (fun fs3 => Option.bind (D_Mo_put x0 (48 + ((x2 / 10) - (x2 / 10) / 10 * 10)) S) (fun S2 => B_Mo_putNumber_42  x0 x2 S2)))
set_option maxRecDepth 100000 in
set_option maxHeartbeats 4000000 in
theorem w_Mo_putNumber_22 {D : va_G} {cT : Nat → ClassId} {H0 : Heap} {l : Launch} {p : Program} {e : Env} {s : State} {m : MethodId} {args : Array Value} {below : List Frame} {meth : Method} {c : Code} {S0 : gS} {S' : gS} (Y : gY D cT H0 p s m args meth c prog_12_method_40_code 3 "PlanTextModel" 1 21 S0 (Option.none : Option Jvm.ClassFile.FieldType))  (x0 : Nat) (x2 : Int32) (S : gS) (hden : B_Mo_putNumber_22  x0 x2 S = some S') {ls : Array Slot} (hl : lv_has ls 3 [(0, va_rf (some x0)), (2, .int x2)]) : gV D cT H0 p l e (gRm 1 21 S0) s m args below meth c (gQ D cT H0 below S0 S' (.inr none) s) S0 S (F0 m 22 ls []) := by
  obtain ⟨X, hZ, hex, hr, hE⟩ := id Y
  have hx := X.1
  have hb := X.2.1
  unfold B_Mo_putNumber_22 at hden
  refine gV.lift (fun _ _ _ _ => lv_iload_n hx hb d_Mo_putNumber_22 rfl (lv_at hl 1 rfl)) ?_
  refine gV.lift (fun _ _ _ _ => lv_bipush (v := 9) hx hb d_Mo_putNumber_23 (by decide)) ?_
  refine gV.lift2 (fun _ _ _ _ => lv_icmp_le (tgt := 42) hx hb d_Mo_putNumber_25 (by decide)) (fun hc1 => ?_) (fun hc1 => ?_)
  · replace hden := gip hc1 hden
    exact w_Mo_putNumber_42 Y  x0 x2 S hden (lv_sub hl [0, 1] rfl)
  · replace hden := gin hc1 hden
    refine gV.lift (fun _ _ _ _ => g_aload_n hx hb d_Mo_putNumber_28 rfl (lv_at hl 0 rfl)) ?_
    refine gV.lift (fun _ _ _ _ => lv_bipush (v := 48) hx hb d_Mo_putNumber_29 (by decide)) ?_
    refine gV.lift (fun _ _ _ _ => lv_iload_n hx hb d_Mo_putNumber_31 rfl (lv_at hl 1 rfl)) ?_
    refine gV.lift (fun _ _ _ _ => lv_bipush (v := 10) hx hb d_Mo_putNumber_32 (by decide)) ?_
    refine gV.lift (fun _ _ _ _ => lv_idiv hx hb d_Mo_putNumber_34 (by decide)) ?_
    refine gV.lift (fun _ _ _ _ => lv_bipush (v := 10) hx hb d_Mo_putNumber_35 (by decide)) ?_
    refine gV.lift (fun _ _ _ _ => lv_irem hx hb d_Mo_putNumber_37 (by decide)) ?_
    refine gV.lift (fun _ _ _ _ => lv_iadd hx hb d_Mo_putNumber_38) ?_
    replace hden := gb hden
    obtain ⟨fs3, ho, hden⟩ := hden
    replace hden := gb hden
    obtain ⟨S2, hz, hden⟩ := hden
    refine g_callV (As := [.int (48 + ((x2 / 10) - (x2 / 10) / 10 * 10))]) (rest := []) X hZ (c_Mo_put hz) cl_Mo (gOb_spec ho) q_1005 q_5 q_1002 q_1004 qp_51 ⟨by decide, by decide, by show _ = some 1; decide +kernel⟩ ⟨by decide, by decide⟩ hl.1 (Nat.le_of_ble_eq_true rfl) d_Mo_putNumber_39 rfl rfl ?_
    exact w_Mo_putNumber_42 Y  x0 x2 S2 hden (lv_sub hl [0, 1] rfl)
def D_Mo_putNumber (h0 : Nat) (p0 : Int32) (p1 : Int32) (S : gS) : Option gS := Option.bind (gOb S h0 10) (fun fs2 => Option.bind (D_Mo_put h0 p0 S) (fun S1 => (if p1 ≤ 99 then B_Mo_putNumber_22  h0 p1 S1 else Option.bind (gOb S1 h0 10) (fun fs5 => Option.bind (D_Mo_put h0 (48 + (p1 / 100)) S1) (fun S4 => B_Mo_putNumber_22  h0 p1 S4)))))
set_option maxRecDepth 100000 in
set_option maxHeartbeats 4000000 in
theorem c_Mo_putNumber {D : va_G} {cT : Nat → ClassId} {H0 : Heap} {l : Launch} {S : gS} {S' : gS} {h0 : Nat} {p0 : Int32} {p1 : Int32} (hden : D_Mo_putNumber h0 p0 p1 S = some S') : gM D cT H0 l y_Mo_putNumber (Cond.code y_Mo_putNumber prog_12_method_40_code 3 (Option.none : Option Jvm.ClassFile.FieldType)) 1 21 [va_rf (some h0), .int p0, .int p1] S S' (.inr none) := by
  refine gM.ofV (by decide) ?_
  intro p e s m args below meth c s₁ B hml ea X hZ hex hr hE
  subst ea
  have Y : gY D cT H0 p s m _ meth c prog_12_method_40_code 3 "PlanTextModel" 1 21 S (Option.none : Option Jvm.ClassFile.FieldType) := ⟨X, hZ, hex, hr, hE⟩
  have hx := X.1
  have hb := X.2.1
  have hl := lv_entry ([va_rf (some h0), .int p0, .int p1]) (n := 3) (Nat.le_of_ble_eq_true rfl)
  rw [lg_entry_eq]
  generalize (lg_sl ([va_rf (some h0), .int p0, .int p1]) ++ List.replicate (3 - (lg_sl ([va_rf (some h0), .int p0, .int p1])).length) Slot.unset).toArray = ls at hl ⊢
  have hl : lv_has ls 3 [(0, va_rf (some h0)), (1, .int p0), (2, .int p1)] := hl
  unfold D_Mo_putNumber at hden
  refine gV.lift (fun _ _ _ _ => g_aload_n hx hb d_Mo_putNumber_0 rfl (lv_at hl 0 rfl)) ?_
  refine gV.lift (fun _ _ _ _ => lv_iload_n hx hb d_Mo_putNumber_1 rfl (lv_at hl 1 rfl)) ?_
  replace hden := gb hden
  obtain ⟨fs2, ho, hden⟩ := hden
  replace hden := gb hden
  obtain ⟨S1, hz, hden⟩ := hden
  refine g_callV (As := [.int p0]) (rest := []) X hZ (c_Mo_put hz) cl_Mo (gOb_spec ho) q_1005 q_5 q_1002 q_1004 qp_51 ⟨by decide, by decide, by show _ = some 1; decide +kernel⟩ ⟨by decide, by decide⟩ hl.1 (Nat.le_of_ble_eq_true rfl) d_Mo_putNumber_2 rfl rfl ?_
  refine gV.lift (fun _ _ _ _ => lv_iload_n hx hb d_Mo_putNumber_5 rfl (lv_at hl 2 rfl)) ?_
  refine gV.lift (fun _ _ _ _ => lv_bipush (v := 99) hx hb d_Mo_putNumber_6 (by decide)) ?_
  refine gV.lift2 (fun _ _ _ _ => lv_icmp_le (tgt := 22) hx hb d_Mo_putNumber_8 (by decide)) (fun hc3 => ?_) (fun hc3 => ?_)
  · replace hden := gip hc3 hden
    exact w_Mo_putNumber_22 Y  h0 p1 S1 hden (lv_sub hl [0, 2] rfl)
  · replace hden := gin hc3 hden
    refine gV.lift (fun _ _ _ _ => g_aload_n hx hb d_Mo_putNumber_11 rfl (lv_at hl 0 rfl)) ?_
    refine gV.lift (fun _ _ _ _ => lv_bipush (v := 48) hx hb d_Mo_putNumber_12 (by decide)) ?_
    refine gV.lift (fun _ _ _ _ => lv_iload_n hx hb d_Mo_putNumber_14 rfl (lv_at hl 2 rfl)) ?_
    refine gV.lift (fun _ _ _ _ => lv_bipush (v := 100) hx hb d_Mo_putNumber_15 (by decide)) ?_
    refine gV.lift (fun _ _ _ _ => lv_idiv hx hb d_Mo_putNumber_17 (by decide)) ?_
    refine gV.lift (fun _ _ _ _ => lv_iadd hx hb d_Mo_putNumber_18) ?_
    replace hden := gb hden
    obtain ⟨fs5, ho, hden⟩ := hden
    replace hden := gb hden
    obtain ⟨S4, hz, hden⟩ := hden
    refine g_callV (As := [.int (48 + (p1 / 100))]) (rest := []) X hZ (c_Mo_put hz) cl_Mo (gOb_spec ho) q_1005 q_5 q_1002 q_1004 qp_51 ⟨by decide, by decide, by show _ = some 1; decide +kernel⟩ ⟨by decide, by decide⟩ hl.1 (Nat.le_of_ble_eq_true rfl) d_Mo_putNumber_19 rfl rfl ?_
    exact w_Mo_putNumber_22 Y  h0 p1 S4 hden (lv_sub hl [0, 2] rfl)
/-! PlanTextModel.putNeeds(I)V -/
abbrev y_Mo_putNeeds : MethodName := ⟨"PlanTextModel", "putNeeds", "(I)V"⟩
theorem d_Mo_putNeeds_0 : decode prog_12_method_41_code 0 = .ok (.iconst 0, 1) := by decide +kernel
theorem d_Mo_putNeeds_1 : decode prog_12_method_41_code 1 = .ok (.istore_n 2, 1) := by decide +kernel
theorem d_Mo_putNeeds_2 : decode prog_12_method_41_code 2 = .ok (.iload_n 2, 1) := by decide +kernel
theorem d_Mo_putNeeds_3 : decode prog_12_method_41_code 3 = .ok (.aload_n 0, 1) := by decide +kernel
theorem d_Mo_putNeeds_4 : decode prog_12_method_41_code 4 = .ok (.getfield 45, 3) := by decide +kernel
theorem d_Mo_putNeeds_7 : decode prog_12_method_41_code 7 = .ok (.iload_n 1, 1) := by decide +kernel
theorem d_Mo_putNeeds_8 : decode prog_12_method_41_code 8 = .ok (.iaload, 1) := by decide +kernel
theorem d_Mo_putNeeds_9 : decode prog_12_method_41_code 9 = .ok (.if_icmp .ge 128, 3) := by decide +kernel
theorem d_Mo_putNeeds_12 : decode prog_12_method_41_code 12 = .ok (.bipush 25, 2) := by decide +kernel
theorem d_Mo_putNeeds_14 : decode prog_12_method_41_code 14 = .ok (.iload_n 1, 1) := by decide +kernel
theorem d_Mo_putNeeds_15 : decode prog_12_method_41_code 15 = .ok (.imul, 1) := by decide +kernel
theorem d_Mo_putNeeds_16 : decode prog_12_method_41_code 16 = .ok (.iconst 5, 1) := by decide +kernel
theorem d_Mo_putNeeds_17 : decode prog_12_method_41_code 17 = .ok (.iload_n 2, 1) := by decide +kernel
theorem d_Mo_putNeeds_18 : decode prog_12_method_41_code 18 = .ok (.imul, 1) := by decide +kernel
theorem d_Mo_putNeeds_19 : decode prog_12_method_41_code 19 = .ok (.iadd, 1) := by decide +kernel
theorem d_Mo_putNeeds_20 : decode prog_12_method_41_code 20 = .ok (.istore_n 3, 1) := by decide +kernel
theorem d_Mo_putNeeds_21 : decode prog_12_method_41_code 21 = .ok (.aload_n 0, 1) := by decide +kernel
theorem d_Mo_putNeeds_22 : decode prog_12_method_41_code 22 = .ok (.iload_n 2, 1) := by decide +kernel
theorem d_Mo_putNeeds_23 : decode prog_12_method_41_code 23 = .ok (.ifCond .ne 8, 3) := by decide +kernel
theorem d_Mo_putNeeds_26 : decode prog_12_method_41_code 26 = .ok (.bipush 58, 2) := by decide +kernel
theorem d_Mo_putNeeds_28 : decode prog_12_method_41_code 28 = .ok (.goto 5, 3) := by decide +kernel
theorem d_Mo_putNeeds_31 : decode prog_12_method_41_code 31 = .ok (.bipush 44, 2) := by decide +kernel
theorem d_Mo_putNeeds_33 : decode prog_12_method_41_code 33 = .ok (.aload_n 0, 1) := by decide +kernel
theorem d_Mo_putNeeds_34 : decode prog_12_method_41_code 34 = .ok (.getfield 48, 3) := by decide +kernel
theorem d_Mo_putNeeds_37 : decode prog_12_method_41_code 37 = .ok (.iload_n 3, 1) := by decide +kernel
theorem d_Mo_putNeeds_38 : decode prog_12_method_41_code 38 = .ok (.iaload, 1) := by decide +kernel
theorem d_Mo_putNeeds_39 : decode prog_12_method_41_code 39 = .ok (.invokevirtual 182, 3) := by decide +kernel
theorem d_Mo_putNeeds_42 : decode prog_12_method_41_code 42 = .ok (.aload_n 0, 1) := by decide +kernel
theorem d_Mo_putNeeds_43 : decode prog_12_method_41_code 43 = .ok (.bipush 97, 2) := by decide +kernel
theorem d_Mo_putNeeds_45 : decode prog_12_method_41_code 45 = .ok (.aload_n 0, 1) := by decide +kernel
theorem d_Mo_putNeeds_46 : decode prog_12_method_41_code 46 = .ok (.getfield 48, 3) := by decide +kernel
theorem d_Mo_putNeeds_49 : decode prog_12_method_41_code 49 = .ok (.iload_n 3, 1) := by decide +kernel
theorem d_Mo_putNeeds_50 : decode prog_12_method_41_code 50 = .ok (.iconst 1, 1) := by decide +kernel
theorem d_Mo_putNeeds_51 : decode prog_12_method_41_code 51 = .ok (.iadd, 1) := by decide +kernel
theorem d_Mo_putNeeds_52 : decode prog_12_method_41_code 52 = .ok (.iaload, 1) := by decide +kernel
theorem d_Mo_putNeeds_53 : decode prog_12_method_41_code 53 = .ok (.iadd, 1) := by decide +kernel
theorem d_Mo_putNeeds_54 : decode prog_12_method_41_code 54 = .ok (.invokevirtual 179, 3) := by decide +kernel
theorem d_Mo_putNeeds_57 : decode prog_12_method_41_code 57 = .ok (.iconst 2, 1) := by decide +kernel
theorem d_Mo_putNeeds_58 : decode prog_12_method_41_code 58 = .ok (.istore 4, 2) := by decide +kernel
theorem d_Mo_putNeeds_60 : decode prog_12_method_41_code 60 = .ok (.iload 4, 2) := by decide +kernel
theorem d_Mo_putNeeds_62 : decode prog_12_method_41_code 62 = .ok (.iconst 4, 1) := by decide +kernel
theorem d_Mo_putNeeds_63 : decode prog_12_method_41_code 63 = .ok (.if_icmp .ge 43, 3) := by decide +kernel
theorem d_Mo_putNeeds_66 : decode prog_12_method_41_code 66 = .ok (.aload_n 0, 1) := by decide +kernel
theorem d_Mo_putNeeds_67 : decode prog_12_method_41_code 67 = .ok (.getfield 48, 3) := by decide +kernel
theorem d_Mo_putNeeds_70 : decode prog_12_method_41_code 70 = .ok (.iload_n 3, 1) := by decide +kernel
theorem d_Mo_putNeeds_71 : decode prog_12_method_41_code 71 = .ok (.iload 4, 2) := by decide +kernel
theorem d_Mo_putNeeds_73 : decode prog_12_method_41_code 73 = .ok (.iadd, 1) := by decide +kernel
theorem d_Mo_putNeeds_74 : decode prog_12_method_41_code 74 = .ok (.iaload, 1) := by decide +kernel
theorem d_Mo_putNeeds_75 : decode prog_12_method_41_code 75 = .ok (.ifCond .lt 25, 3) := by decide +kernel
theorem d_Mo_putNeeds_78 : decode prog_12_method_41_code 78 = .ok (.aload_n 0, 1) := by decide +kernel
theorem d_Mo_putNeeds_79 : decode prog_12_method_41_code 79 = .ok (.bipush 47, 2) := by decide +kernel
theorem d_Mo_putNeeds_81 : decode prog_12_method_41_code 81 = .ok (.invokevirtual 179, 3) := by decide +kernel
theorem d_Mo_putNeeds_84 : decode prog_12_method_41_code 84 = .ok (.aload_n 0, 1) := by decide +kernel
theorem d_Mo_putNeeds_85 : decode prog_12_method_41_code 85 = .ok (.bipush 97, 2) := by decide +kernel
theorem d_Mo_putNeeds_87 : decode prog_12_method_41_code 87 = .ok (.aload_n 0, 1) := by decide +kernel
theorem d_Mo_putNeeds_88 : decode prog_12_method_41_code 88 = .ok (.getfield 48, 3) := by decide +kernel
theorem d_Mo_putNeeds_91 : decode prog_12_method_41_code 91 = .ok (.iload_n 3, 1) := by decide +kernel
theorem d_Mo_putNeeds_92 : decode prog_12_method_41_code 92 = .ok (.iload 4, 2) := by decide +kernel
theorem d_Mo_putNeeds_94 : decode prog_12_method_41_code 94 = .ok (.iadd, 1) := by decide +kernel
theorem d_Mo_putNeeds_95 : decode prog_12_method_41_code 95 = .ok (.iaload, 1) := by decide +kernel
theorem d_Mo_putNeeds_96 : decode prog_12_method_41_code 96 = .ok (.iadd, 1) := by decide +kernel
theorem d_Mo_putNeeds_97 : decode prog_12_method_41_code 97 = .ok (.invokevirtual 179, 3) := by decide +kernel
theorem d_Mo_putNeeds_100 : decode prog_12_method_41_code 100 = .ok (.iinc 4 1, 3) := by decide +kernel
theorem d_Mo_putNeeds_103 : decode prog_12_method_41_code 103 = .ok (.goto (-43), 3) := by decide +kernel
theorem d_Mo_putNeeds_106 : decode prog_12_method_41_code 106 = .ok (.aload_n 0, 1) := by decide +kernel
theorem d_Mo_putNeeds_107 : decode prog_12_method_41_code 107 = .ok (.getfield 48, 3) := by decide +kernel
theorem d_Mo_putNeeds_110 : decode prog_12_method_41_code 110 = .ok (.iload_n 3, 1) := by decide +kernel
theorem d_Mo_putNeeds_111 : decode prog_12_method_41_code 111 = .ok (.iconst 4, 1) := by decide +kernel
theorem d_Mo_putNeeds_112 : decode prog_12_method_41_code 112 = .ok (.iadd, 1) := by decide +kernel
theorem d_Mo_putNeeds_113 : decode prog_12_method_41_code 113 = .ok (.iaload, 1) := by decide +kernel
theorem d_Mo_putNeeds_114 : decode prog_12_method_41_code 114 = .ok (.ifCond .le 17, 3) := by decide +kernel
theorem d_Mo_putNeeds_117 : decode prog_12_method_41_code 117 = .ok (.aload_n 0, 1) := by decide +kernel
theorem d_Mo_putNeeds_118 : decode prog_12_method_41_code 118 = .ok (.bipush 126, 2) := by decide +kernel
theorem d_Mo_putNeeds_120 : decode prog_12_method_41_code 120 = .ok (.aload_n 0, 1) := by decide +kernel
theorem d_Mo_putNeeds_121 : decode prog_12_method_41_code 121 = .ok (.getfield 48, 3) := by decide +kernel
theorem d_Mo_putNeeds_124 : decode prog_12_method_41_code 124 = .ok (.iload_n 3, 1) := by decide +kernel
theorem d_Mo_putNeeds_125 : decode prog_12_method_41_code 125 = .ok (.iconst 4, 1) := by decide +kernel
theorem d_Mo_putNeeds_126 : decode prog_12_method_41_code 126 = .ok (.iadd, 1) := by decide +kernel
theorem d_Mo_putNeeds_127 : decode prog_12_method_41_code 127 = .ok (.iaload, 1) := by decide +kernel
theorem d_Mo_putNeeds_128 : decode prog_12_method_41_code 128 = .ok (.invokevirtual 182, 3) := by decide +kernel
theorem d_Mo_putNeeds_131 : decode prog_12_method_41_code 131 = .ok (.iinc 2 1, 3) := by decide +kernel
theorem d_Mo_putNeeds_134 : decode prog_12_method_41_code 134 = .ok (.goto (-132), 3) := by decide +kernel
theorem d_Mo_putNeeds_137 : decode prog_12_method_41_code 137 = .ok (.aload_n 0, 1) := by decide +kernel
theorem d_Mo_putNeeds_138 : decode prog_12_method_41_code 138 = .ok (.bipush 59, 2) := by decide +kernel
theorem d_Mo_putNeeds_140 : decode prog_12_method_41_code 140 = .ok (.invokevirtual 179, 3) := by decide +kernel
theorem d_Mo_putNeeds_143 : decode prog_12_method_41_code 143 = .ok (.return_, 1) := by decide +kernel
def B_Mo_putNeeds_131 (k2 : Nat → Int32 → Int32 → gS → Option gS) (x0 : Nat) (x1 : Int32) (x2 : Int32) (S : gS) : Option gS := k2 x0 x1 (x2 + 1) S
set_option maxRecDepth 100000 in
set_option maxHeartbeats 4000000 in
theorem w_Mo_putNeeds_131 {D : va_G} {cT : Nat → ClassId} {H0 : Heap} {l : Launch} {p : Program} {e : Env} {s : State} {m : MethodId} {args : Array Value} {below : List Frame} {meth : Method} {c : Code} {S0 : gS} {S' : gS} (Y : gY D cT H0 p s m args meth c prog_12_method_41_code 5 "PlanTextModel" 2 43 S0 (Option.none : Option Jvm.ClassFile.FieldType)) {k2 : Nat → Int32 → Int32 → gS → Option gS} (hk2 : ∀ (x0 : Nat) (x1 : Int32) (x2 : Int32) (S : gS) (ls : Array Slot), k2 x0 x1 x2 S = some S' → lv_has ls 5 [(0, va_rf (some x0)), (1, .int x1), (2, .int x2)] → gV D cT H0 p l e (gRm 2 43 S0) s m args below meth c (gQ D cT H0 below S0 S' (.inr none) s) S0 S (F0 m 2 ls [])) (x0 : Nat) (x1 : Int32) (x2 : Int32) (S : gS) (hden : B_Mo_putNeeds_131 k2 x0 x1 x2 S = some S') {ls : Array Slot} (hl : lv_has ls 5 [(0, va_rf (some x0)), (1, .int x1), (2, .int x2)]) : gV D cT H0 p l e (gRm 2 43 S0) s m args below meth c (gQ D cT H0 below S0 S' (.inr none) s) S0 S (F0 m 131 ls []) := by
  obtain ⟨X, hZ, hex, hr, hE⟩ := id Y
  have hx := X.1
  have hb := X.2.1
  unfold B_Mo_putNeeds_131 at hden
  refine gV.liftS (nL := 5) (lv' := [(2, .int (x2 + 1)), (0, va_rf (some x0)), (1, .int x1)]) (fun _ _ _ _ => lv_iinc (v := (x2 + 1)) hx hb d_Mo_putNeeds_131 hl (k := 2) rfl rfl (by decide) rfl) (fun ls hl => ?_)
  refine gV.lift (fun _ _ _ _ => lv_goto (tgt := 2) hx hb d_Mo_putNeeds_134 (by decide)) ?_
  exact hk2 x0 x1 (x2 + 1) S _ hden (lv_sub hl [1, 2, 0] rfl)
def B_Mo_putNeeds_100 (k2 : Nat → Int32 → Int32 → gS → Option gS) (k60 : Nat → Int32 → Int32 → Int32 → Int32 → gS → Option gS) (x0 : Nat) (x1 : Int32) (x2 : Int32) (x3 : Int32) (x4 : Int32) (S : gS) : Option gS := k60 x0 x1 x2 x3 (x4 + 1) S
set_option maxRecDepth 100000 in
set_option maxHeartbeats 4000000 in
theorem w_Mo_putNeeds_100 {D : va_G} {cT : Nat → ClassId} {H0 : Heap} {l : Launch} {p : Program} {e : Env} {s : State} {m : MethodId} {args : Array Value} {below : List Frame} {meth : Method} {c : Code} {S0 : gS} {S' : gS} (Y : gY D cT H0 p s m args meth c prog_12_method_41_code 5 "PlanTextModel" 2 43 S0 (Option.none : Option Jvm.ClassFile.FieldType)) {k2 : Nat → Int32 → Int32 → gS → Option gS} {k60 : Nat → Int32 → Int32 → Int32 → Int32 → gS → Option gS} (hk2 : ∀ (x0 : Nat) (x1 : Int32) (x2 : Int32) (S : gS) (ls : Array Slot), k2 x0 x1 x2 S = some S' → lv_has ls 5 [(0, va_rf (some x0)), (1, .int x1), (2, .int x2)] → gV D cT H0 p l e (gRm 2 43 S0) s m args below meth c (gQ D cT H0 below S0 S' (.inr none) s) S0 S (F0 m 2 ls [])) (hk60 : ∀ (x0 : Nat) (x1 : Int32) (x2 : Int32) (x3 : Int32) (x4 : Int32) (S : gS) (ls : Array Slot), k60 x0 x1 x2 x3 x4 S = some S' → lv_has ls 5 [(0, va_rf (some x0)), (1, .int x1), (2, .int x2), (3, .int x3), (4, .int x4)] → gV D cT H0 p l e (gRm 2 43 S0) s m args below meth c (gQ D cT H0 below S0 S' (.inr none) s) S0 S (F0 m 60 ls [])) (x0 : Nat) (x1 : Int32) (x2 : Int32) (x3 : Int32) (x4 : Int32) (S : gS) (hden : B_Mo_putNeeds_100 k2 k60 x0 x1 x2 x3 x4 S = some S') {ls : Array Slot} (hl : lv_has ls 5 [(0, va_rf (some x0)), (1, .int x1), (2, .int x2), (3, .int x3), (4, .int x4)]) : gV D cT H0 p l e (gRm 2 43 S0) s m args below meth c (gQ D cT H0 below S0 S' (.inr none) s) S0 S (F0 m 100 ls []) := by
  obtain ⟨X, hZ, hex, hr, hE⟩ := id Y
  have hx := X.1
  have hb := X.2.1
  unfold B_Mo_putNeeds_100 at hden
  refine gV.liftS (nL := 5) (lv' := [(4, .int (x4 + 1)), (0, va_rf (some x0)), (1, .int x1), (2, .int x2), (3, .int x3)]) (fun _ _ _ _ => lv_iinc (v := (x4 + 1)) hx hb d_Mo_putNeeds_100 hl (k := 4) rfl rfl (by decide) rfl) (fun ls hl => ?_)
  refine gV.lift (fun _ _ _ _ => lv_goto (tgt := 60) hx hb d_Mo_putNeeds_103 (by decide)) ?_
  exact hk60 x0 x1 x2 x3 (x4 + 1) S _ hden (lv_sub hl [1, 2, 3, 4, 0] rfl)
def B_Mo_putNeeds_60 (k2 : Nat → Int32 → Int32 → gS → Option gS) (k60 : Nat → Int32 → Int32 → Int32 → Int32 → gS → Option gS) (x0 : Nat) (x1 : Int32) (x2 : Int32) (x3 : Int32) (x4 : Int32) (S : gS) : Option gS := (if 4 ≤ x4 then Option.bind (gRf S x0 10 19) (fun r2 => Option.bind r2 (fun a3 => Option.bind (gAI S a3 0 (x3 + 4)) (fun v4 => (if v4 ≤ 0 then B_Mo_putNeeds_131 k2 x0 x1 x2 S else Option.bind (gRf S x0 10 19) (fun r6 => Option.bind r6 (fun a7 => Option.bind (gAI S a7 0 (x3 + 4)) (fun v8 => Option.bind (gOb S x0 10) (fun fs10 => Option.bind (D_Mo_putNumber x0 126 v8 S) (fun S9 => B_Mo_putNeeds_131 k2 x0 x1 x2 S9))))))))) else Option.bind (gRf S x0 10 19) (fun r11 => Option.bind r11 (fun a12 => Option.bind (gAI S a12 0 (x3 + x4)) (fun v13 => (if v13 < 0 then B_Mo_putNeeds_100 k2 k60 x0 x1 x2 x3 x4 S else Option.bind (gOb S x0 10) (fun fs16 => Option.bind (D_Mo_put x0 47 S) (fun S15 => Option.bind (gRf S15 x0 10 19) (fun r17 => Option.bind r17 (fun a18 => Option.bind (gAI S15 a18 0 (x3 + x4)) (fun v19 => Option.bind (gOb S15 x0 10) (fun fs21 => Option.bind (D_Mo_put x0 (97 + v19) S15) (fun S20 => B_Mo_putNeeds_100 k2 k60 x0 x1 x2 x3 x4 S20))))))))))))
set_option maxRecDepth 100000 in
set_option maxHeartbeats 4000000 in
theorem w_Mo_putNeeds_60 {D : va_G} {cT : Nat → ClassId} {H0 : Heap} {l : Launch} {p : Program} {e : Env} {s : State} {m : MethodId} {args : Array Value} {below : List Frame} {meth : Method} {c : Code} {S0 : gS} {S' : gS} (Y : gY D cT H0 p s m args meth c prog_12_method_41_code 5 "PlanTextModel" 2 43 S0 (Option.none : Option Jvm.ClassFile.FieldType)) {k2 : Nat → Int32 → Int32 → gS → Option gS} {k60 : Nat → Int32 → Int32 → Int32 → Int32 → gS → Option gS} (hk2 : ∀ (x0 : Nat) (x1 : Int32) (x2 : Int32) (S : gS) (ls : Array Slot), k2 x0 x1 x2 S = some S' → lv_has ls 5 [(0, va_rf (some x0)), (1, .int x1), (2, .int x2)] → gV D cT H0 p l e (gRm 2 43 S0) s m args below meth c (gQ D cT H0 below S0 S' (.inr none) s) S0 S (F0 m 2 ls [])) (hk60 : ∀ (x0 : Nat) (x1 : Int32) (x2 : Int32) (x3 : Int32) (x4 : Int32) (S : gS) (ls : Array Slot), k60 x0 x1 x2 x3 x4 S = some S' → lv_has ls 5 [(0, va_rf (some x0)), (1, .int x1), (2, .int x2), (3, .int x3), (4, .int x4)] → gV D cT H0 p l e (gRm 2 43 S0) s m args below meth c (gQ D cT H0 below S0 S' (.inr none) s) S0 S (F0 m 60 ls [])) (x0 : Nat) (x1 : Int32) (x2 : Int32) (x3 : Int32) (x4 : Int32) (S : gS) (hden : B_Mo_putNeeds_60 k2 k60 x0 x1 x2 x3 x4 S = some S') {ls : Array Slot} (hl : lv_has ls 5 [(0, va_rf (some x0)), (1, .int x1), (2, .int x2), (3, .int x3), (4, .int x4)]) : gV D cT H0 p l e (gRm 2 43 S0) s m args below meth c (gQ D cT H0 below S0 S' (.inr none) s) S0 S (F0 m 60 ls []) := by
  obtain ⟨X, hZ, hex, hr, hE⟩ := id Y
  have hx := X.1
  have hb := X.2.1
  unfold B_Mo_putNeeds_60 at hden
  refine gV.lift (fun _ _ _ _ => lv_iload hx hb d_Mo_putNeeds_60 (lv_at hl 4 rfl)) ?_
  refine gV.lift (fun _ _ _ _ => lv_iconst (v := 4) hx hb d_Mo_putNeeds_62 (by decide)) ?_
  refine gV.lift2 (fun _ _ _ _ => lv_icmp_ge (tgt := 106) hx hb d_Mo_putNeeds_63 (by decide)) (fun hc1 => ?_) (fun hc1 => ?_)
  · replace hden := gip hc1 hden
    refine gV.lift (fun _ _ _ _ => g_aload_n hx hb d_Mo_putNeeds_106 rfl (lv_at hl 0 rfl)) ?_
    replace hden := gb hden
    obtain ⟨r2, hv, hden⟩ := hden
    refine r_getR X cl_Mo (k := 19) hv (by decide) q_784 d_Mo_putNeeds_107 ?_
    refine gV.lift (fun _ _ _ _ => lv_iload_n hx hb d_Mo_putNeeds_110 rfl (lv_at hl 3 rfl)) ?_
    refine gV.lift (fun _ _ _ _ => lv_iconst (v := 4) hx hb d_Mo_putNeeds_111 (by decide)) ?_
    refine gV.lift (fun _ _ _ _ => lv_iadd hx hb d_Mo_putNeeds_112) ?_
    replace hden := gb hden
    obtain ⟨a3, rfl, hden⟩ := hden
    replace hden := gb hden
    obtain ⟨v4, hv, hden⟩ := hden
    refine r_iald X (t := 0) rfl hv d_Mo_putNeeds_113 ?_
    refine gV.lift2 (fun _ _ _ _ => lv_if_le (tgt := 131) hx hb d_Mo_putNeeds_114 (by decide)) (fun hc5 => ?_) (fun hc5 => ?_)
    · replace hden := gip hc5 hden
      exact w_Mo_putNeeds_131 Y hk2 x0 x1 x2 S hden (lv_sub hl [0, 1, 2] rfl)
    · replace hden := gin hc5 hden
      refine gV.lift (fun _ _ _ _ => g_aload_n hx hb d_Mo_putNeeds_117 rfl (lv_at hl 0 rfl)) ?_
      refine gV.lift (fun _ _ _ _ => lv_bipush (v := 126) hx hb d_Mo_putNeeds_118 (by decide)) ?_
      refine gV.lift (fun _ _ _ _ => g_aload_n hx hb d_Mo_putNeeds_120 rfl (lv_at hl 0 rfl)) ?_
      replace hden := gb hden
      obtain ⟨r6, hv, hden⟩ := hden
      refine r_getR X cl_Mo (k := 19) hv (by decide) q_784 d_Mo_putNeeds_121 ?_
      refine gV.lift (fun _ _ _ _ => lv_iload_n hx hb d_Mo_putNeeds_124 rfl (lv_at hl 3 rfl)) ?_
      refine gV.lift (fun _ _ _ _ => lv_iconst (v := 4) hx hb d_Mo_putNeeds_125 (by decide)) ?_
      refine gV.lift (fun _ _ _ _ => lv_iadd hx hb d_Mo_putNeeds_126) ?_
      replace hden := gb hden
      obtain ⟨a7, rfl, hden⟩ := hden
      replace hden := gb hden
      obtain ⟨v8, hv, hden⟩ := hden
      refine r_iald X (t := 0) rfl hv d_Mo_putNeeds_127 ?_
      replace hden := gb hden
      obtain ⟨fs10, ho, hden⟩ := hden
      replace hden := gb hden
      obtain ⟨S9, hz, hden⟩ := hden
      refine g_callV (As := [.int 126, .int v8]) (rest := []) X hZ (c_Mo_putNumber hz) cl_Mo (gOb_spec ho) q_1001 q_5 q_998 q_1000 qp_50 ⟨by decide, by decide, by show _ = some 2; decide +kernel⟩ ⟨by decide, by decide⟩ hl.1 (Nat.le_of_ble_eq_true rfl) d_Mo_putNeeds_128 rfl rfl ?_
      exact w_Mo_putNeeds_131 Y hk2 x0 x1 x2 S9 hden (lv_sub hl [0, 1, 2] rfl)
  · replace hden := gin hc1 hden
    refine gV.lift (fun _ _ _ _ => g_aload_n hx hb d_Mo_putNeeds_66 rfl (lv_at hl 0 rfl)) ?_
    replace hden := gb hden
    obtain ⟨r11, hv, hden⟩ := hden
    refine r_getR X cl_Mo (k := 19) hv (by decide) q_784 d_Mo_putNeeds_67 ?_
    refine gV.lift (fun _ _ _ _ => lv_iload_n hx hb d_Mo_putNeeds_70 rfl (lv_at hl 3 rfl)) ?_
    refine gV.lift (fun _ _ _ _ => lv_iload hx hb d_Mo_putNeeds_71 (lv_at hl 4 rfl)) ?_
    refine gV.lift (fun _ _ _ _ => lv_iadd hx hb d_Mo_putNeeds_73) ?_
    replace hden := gb hden
    obtain ⟨a12, rfl, hden⟩ := hden
    replace hden := gb hden
    obtain ⟨v13, hv, hden⟩ := hden
    refine r_iald X (t := 0) rfl hv d_Mo_putNeeds_74 ?_
    refine gV.lift2 (fun _ _ _ _ => lv_if_lt (tgt := 100) hx hb d_Mo_putNeeds_75 (by decide)) (fun hc14 => ?_) (fun hc14 => ?_)
    · replace hden := gip hc14 hden
      exact w_Mo_putNeeds_100 Y hk2 hk60 x0 x1 x2 x3 x4 S hden (lv_sub hl [0, 1, 2, 3, 4] rfl)
    · replace hden := gin hc14 hden
      refine gV.lift (fun _ _ _ _ => g_aload_n hx hb d_Mo_putNeeds_78 rfl (lv_at hl 0 rfl)) ?_
      refine gV.lift (fun _ _ _ _ => lv_bipush (v := 47) hx hb d_Mo_putNeeds_79 (by decide)) ?_
      replace hden := gb hden
      obtain ⟨fs16, ho, hden⟩ := hden
      replace hden := gb hden
      obtain ⟨S15, hz, hden⟩ := hden
      refine g_callV (As := [.int 47]) (rest := []) X hZ (c_Mo_put hz) cl_Mo (gOb_spec ho) q_1005 q_5 q_1002 q_1004 qp_51 ⟨by decide, by decide, by show _ = some 1; decide +kernel⟩ ⟨by decide, by decide⟩ hl.1 (Nat.le_of_ble_eq_true rfl) d_Mo_putNeeds_81 rfl rfl ?_
      refine gV.lift (fun _ _ _ _ => g_aload_n hx hb d_Mo_putNeeds_84 rfl (lv_at hl 0 rfl)) ?_
      refine gV.lift (fun _ _ _ _ => lv_bipush (v := 97) hx hb d_Mo_putNeeds_85 (by decide)) ?_
      refine gV.lift (fun _ _ _ _ => g_aload_n hx hb d_Mo_putNeeds_87 rfl (lv_at hl 0 rfl)) ?_
      replace hden := gb hden
      obtain ⟨r17, hv, hden⟩ := hden
      refine r_getR X cl_Mo (k := 19) hv (by decide) q_784 d_Mo_putNeeds_88 ?_
      refine gV.lift (fun _ _ _ _ => lv_iload_n hx hb d_Mo_putNeeds_91 rfl (lv_at hl 3 rfl)) ?_
      refine gV.lift (fun _ _ _ _ => lv_iload hx hb d_Mo_putNeeds_92 (lv_at hl 4 rfl)) ?_
      refine gV.lift (fun _ _ _ _ => lv_iadd hx hb d_Mo_putNeeds_94) ?_
      replace hden := gb hden
      obtain ⟨a18, rfl, hden⟩ := hden
      replace hden := gb hden
      obtain ⟨v19, hv, hden⟩ := hden
      refine r_iald X (t := 0) rfl hv d_Mo_putNeeds_95 ?_
      refine gV.lift (fun _ _ _ _ => lv_iadd hx hb d_Mo_putNeeds_96) ?_
      replace hden := gb hden
      obtain ⟨fs21, ho, hden⟩ := hden
      replace hden := gb hden
      obtain ⟨S20, hz, hden⟩ := hden
      refine g_callV (As := [.int (97 + v19)]) (rest := []) X hZ (c_Mo_put hz) cl_Mo (gOb_spec ho) q_1005 q_5 q_1002 q_1004 qp_51 ⟨by decide, by decide, by show _ = some 1; decide +kernel⟩ ⟨by decide, by decide⟩ hl.1 (Nat.le_of_ble_eq_true rfl) d_Mo_putNeeds_97 rfl rfl ?_
      exact w_Mo_putNeeds_100 Y hk2 hk60 x0 x1 x2 x3 x4 S20 hden (lv_sub hl [0, 1, 2, 3, 4] rfl)
def L_Mo_putNeeds_60 (k2 : Nat → Int32 → Int32 → gS → Option gS) : Nat → Nat → Int32 → Int32 → Int32 → Int32 → gS → Option gS
  | 0 => fun _ _ _ _ _ _ => none
  | n + 1 => fun x0 x1 x2 x3 x4 S => B_Mo_putNeeds_60 k2 (L_Mo_putNeeds_60 k2 n) x0 x1 x2 x3 x4 S
theorem wL_Mo_putNeeds_60 {D : va_G} {cT : Nat → ClassId} {H0 : Heap} {l : Launch} {p : Program} {e : Env} {s : State} {m : MethodId} {args : Array Value} {below : List Frame} {meth : Method} {c : Code} {S0 : gS} {S' : gS} (Y : gY D cT H0 p s m args meth c prog_12_method_41_code 5 "PlanTextModel" 2 43 S0 (Option.none : Option Jvm.ClassFile.FieldType)) {k2 : Nat → Int32 → Int32 → gS → Option gS} (hk2 : ∀ (x0 : Nat) (x1 : Int32) (x2 : Int32) (S : gS) (ls : Array Slot), k2 x0 x1 x2 S = some S' → lv_has ls 5 [(0, va_rf (some x0)), (1, .int x1), (2, .int x2)] → gV D cT H0 p l e (gRm 2 43 S0) s m args below meth c (gQ D cT H0 below S0 S' (.inr none) s) S0 S (F0 m 2 ls [])) : ∀ (n : Nat) (x0 : Nat) (x1 : Int32) (x2 : Int32) (x3 : Int32) (x4 : Int32) (S : gS) (ls : Array Slot), L_Mo_putNeeds_60 k2 n x0 x1 x2 x3 x4 S = some S' → lv_has ls 5 [(0, va_rf (some x0)), (1, .int x1), (2, .int x2), (3, .int x3), (4, .int x4)] → gV D cT H0 p l e (gRm 2 43 S0) s m args below meth c (gQ D cT H0 below S0 S' (.inr none) s) S0 S (F0 m 60 ls []) := by
  intro n
  induction n with
  | zero => intro x0 x1 x2 x3 x4 S ls h hl; cases h
  | succ n ih => intro x0 x1 x2 x3 x4 S ls h hl; exact w_Mo_putNeeds_60 Y hk2 ih x0 x1 x2 x3 x4 S h hl
def B_Mo_putNeeds_33 (k2 : Nat → Int32 → Int32 → gS → Option gS) (x0 : Nat) (x1 : Int32) (x2 : Int32) (x3 : Int32) (t0 : Int32) (t1 : Nat) (S : gS) : Option gS := Option.bind (gRf S x0 10 19) (fun r1 => Option.bind r1 (fun a2 => Option.bind (gAI S a2 0 x3) (fun v3 => Option.bind (gOb S t1 10) (fun fs5 => Option.bind (D_Mo_putNumber t1 t0 v3 S) (fun S4 => Option.bind (gRf S4 x0 10 19) (fun r6 => Option.bind r6 (fun a7 => Option.bind (gAI S4 a7 0 (x3 + 1)) (fun v8 => Option.bind (gOb S4 x0 10) (fun fs10 => Option.bind (D_Mo_put x0 (97 + v8) S4) (fun S9 => L_Mo_putNeeds_60 k2 gF x0 x1 x2 x3 2 S9))))))))))
set_option maxRecDepth 100000 in
set_option maxHeartbeats 4000000 in
theorem w_Mo_putNeeds_33 {D : va_G} {cT : Nat → ClassId} {H0 : Heap} {l : Launch} {p : Program} {e : Env} {s : State} {m : MethodId} {args : Array Value} {below : List Frame} {meth : Method} {c : Code} {S0 : gS} {S' : gS} (Y : gY D cT H0 p s m args meth c prog_12_method_41_code 5 "PlanTextModel" 2 43 S0 (Option.none : Option Jvm.ClassFile.FieldType)) {k2 : Nat → Int32 → Int32 → gS → Option gS} (hk2 : ∀ (x0 : Nat) (x1 : Int32) (x2 : Int32) (S : gS) (ls : Array Slot), k2 x0 x1 x2 S = some S' → lv_has ls 5 [(0, va_rf (some x0)), (1, .int x1), (2, .int x2)] → gV D cT H0 p l e (gRm 2 43 S0) s m args below meth c (gQ D cT H0 below S0 S' (.inr none) s) S0 S (F0 m 2 ls [])) (x0 : Nat) (x1 : Int32) (x2 : Int32) (x3 : Int32) (t0 : Int32) (t1 : Nat) (S : gS) (hden : B_Mo_putNeeds_33 k2 x0 x1 x2 x3 t0 t1 S = some S') {ls : Array Slot} (hl : lv_has ls 5 [(0, va_rf (some x0)), (1, .int x1), (2, .int x2), (3, .int x3)]) : gV D cT H0 p l e (gRm 2 43 S0) s m args below meth c (gQ D cT H0 below S0 S' (.inr none) s) S0 S (F0 m 33 ls [.int t0, va_rf (some t1)]) := by
  obtain ⟨X, hZ, hex, hr, hE⟩ := id Y
  have hx := X.1
  have hb := X.2.1
  unfold B_Mo_putNeeds_33 at hden
  refine gV.lift (fun _ _ _ _ => g_aload_n hx hb d_Mo_putNeeds_33 rfl (lv_at hl 0 rfl)) ?_
  replace hden := gb hden
  obtain ⟨r1, hv, hden⟩ := hden
  refine r_getR X cl_Mo (k := 19) hv (by decide) q_784 d_Mo_putNeeds_34 ?_
  refine gV.lift (fun _ _ _ _ => lv_iload_n hx hb d_Mo_putNeeds_37 rfl (lv_at hl 3 rfl)) ?_
  replace hden := gb hden
  obtain ⟨a2, rfl, hden⟩ := hden
  replace hden := gb hden
  obtain ⟨v3, hv, hden⟩ := hden
  refine r_iald X (t := 0) rfl hv d_Mo_putNeeds_38 ?_
  replace hden := gb hden
  obtain ⟨fs5, ho, hden⟩ := hden
  replace hden := gb hden
  obtain ⟨S4, hz, hden⟩ := hden
  refine g_callV (As := [.int t0, .int v3]) (rest := []) X hZ (c_Mo_putNumber hz) cl_Mo (gOb_spec ho) q_1001 q_5 q_998 q_1000 qp_50 ⟨by decide, by decide, by show _ = some 2; decide +kernel⟩ ⟨by decide, by decide⟩ hl.1 (Nat.le_of_ble_eq_true rfl) d_Mo_putNeeds_39 rfl rfl ?_
  refine gV.lift (fun _ _ _ _ => g_aload_n hx hb d_Mo_putNeeds_42 rfl (lv_at hl 0 rfl)) ?_
  refine gV.lift (fun _ _ _ _ => lv_bipush (v := 97) hx hb d_Mo_putNeeds_43 (by decide)) ?_
  refine gV.lift (fun _ _ _ _ => g_aload_n hx hb d_Mo_putNeeds_45 rfl (lv_at hl 0 rfl)) ?_
  replace hden := gb hden
  obtain ⟨r6, hv, hden⟩ := hden
  refine r_getR X cl_Mo (k := 19) hv (by decide) q_784 d_Mo_putNeeds_46 ?_
  refine gV.lift (fun _ _ _ _ => lv_iload_n hx hb d_Mo_putNeeds_49 rfl (lv_at hl 3 rfl)) ?_
  refine gV.lift (fun _ _ _ _ => lv_iconst (v := 1) hx hb d_Mo_putNeeds_50 (by decide)) ?_
  refine gV.lift (fun _ _ _ _ => lv_iadd hx hb d_Mo_putNeeds_51) ?_
  replace hden := gb hden
  obtain ⟨a7, rfl, hden⟩ := hden
  replace hden := gb hden
  obtain ⟨v8, hv, hden⟩ := hden
  refine r_iald X (t := 0) rfl hv d_Mo_putNeeds_52 ?_
  refine gV.lift (fun _ _ _ _ => lv_iadd hx hb d_Mo_putNeeds_53) ?_
  replace hden := gb hden
  obtain ⟨fs10, ho, hden⟩ := hden
  replace hden := gb hden
  obtain ⟨S9, hz, hden⟩ := hden
  refine g_callV (As := [.int (97 + v8)]) (rest := []) X hZ (c_Mo_put hz) cl_Mo (gOb_spec ho) q_1005 q_5 q_1002 q_1004 qp_51 ⟨by decide, by decide, by show _ = some 1; decide +kernel⟩ ⟨by decide, by decide⟩ hl.1 (Nat.le_of_ble_eq_true rfl) d_Mo_putNeeds_54 rfl rfl ?_
  refine gV.lift (fun _ _ _ _ => lv_iconst (v := 2) hx hb d_Mo_putNeeds_57 (by decide)) ?_
  refine gV.liftS (nL := 5) (lv' := [(4, .int 2), (0, va_rf (some x0)), (1, .int x1), (2, .int x2), (3, .int x3)]) (fun _ _ _ _ => lv_istore hx hb d_Mo_putNeeds_58 hl (by decide) rfl) (fun ls hl => ?_)
  exact wL_Mo_putNeeds_60 Y hk2 gF x0 x1 x2 x3 2 S9 _ hden (lv_sub hl [1, 2, 3, 4, 0] rfl)
def B_Mo_putNeeds_2 (k2 : Nat → Int32 → Int32 → gS → Option gS) (x0 : Nat) (x1 : Int32) (x2 : Int32) (S : gS) : Option gS := Option.bind (gRf S x0 10 18) (fun r1 => Option.bind r1 (fun a2 => Option.bind (gAI S a2 0 x1) (fun v3 => (if v3 ≤ x2 then Option.bind (gOb S x0 10) (fun fs6 => Option.bind (D_Mo_put x0 59 S) (fun S5 => some S5)) else (if x2 = 0 then B_Mo_putNeeds_33 k2 x0 x1 x2 ((25 * x1) + (5 * x2)) 58 x0 S else B_Mo_putNeeds_33 k2 x0 x1 x2 ((25 * x1) + (5 * x2)) 44 x0 S)))))
set_option maxRecDepth 100000 in
set_option maxHeartbeats 4000000 in
theorem w_Mo_putNeeds_2 {D : va_G} {cT : Nat → ClassId} {H0 : Heap} {l : Launch} {p : Program} {e : Env} {s : State} {m : MethodId} {args : Array Value} {below : List Frame} {meth : Method} {c : Code} {S0 : gS} {S' : gS} (Y : gY D cT H0 p s m args meth c prog_12_method_41_code 5 "PlanTextModel" 2 43 S0 (Option.none : Option Jvm.ClassFile.FieldType)) {k2 : Nat → Int32 → Int32 → gS → Option gS} (hk2 : ∀ (x0 : Nat) (x1 : Int32) (x2 : Int32) (S : gS) (ls : Array Slot), k2 x0 x1 x2 S = some S' → lv_has ls 5 [(0, va_rf (some x0)), (1, .int x1), (2, .int x2)] → gV D cT H0 p l e (gRm 2 43 S0) s m args below meth c (gQ D cT H0 below S0 S' (.inr none) s) S0 S (F0 m 2 ls [])) (x0 : Nat) (x1 : Int32) (x2 : Int32) (S : gS) (hden : B_Mo_putNeeds_2 k2 x0 x1 x2 S = some S') {ls : Array Slot} (hl : lv_has ls 5 [(0, va_rf (some x0)), (1, .int x1), (2, .int x2)]) : gV D cT H0 p l e (gRm 2 43 S0) s m args below meth c (gQ D cT H0 below S0 S' (.inr none) s) S0 S (F0 m 2 ls []) := by
  obtain ⟨X, hZ, hex, hr, hE⟩ := id Y
  have hx := X.1
  have hb := X.2.1
  unfold B_Mo_putNeeds_2 at hden
  refine gV.lift (fun _ _ _ _ => lv_iload_n hx hb d_Mo_putNeeds_2 rfl (lv_at hl 2 rfl)) ?_
  refine gV.lift (fun _ _ _ _ => g_aload_n hx hb d_Mo_putNeeds_3 rfl (lv_at hl 0 rfl)) ?_
  replace hden := gb hden
  obtain ⟨r1, hv, hden⟩ := hden
  refine r_getR X cl_Mo (k := 18) hv (by decide) q_783 d_Mo_putNeeds_4 ?_
  refine gV.lift (fun _ _ _ _ => lv_iload_n hx hb d_Mo_putNeeds_7 rfl (lv_at hl 1 rfl)) ?_
  replace hden := gb hden
  obtain ⟨a2, rfl, hden⟩ := hden
  replace hden := gb hden
  obtain ⟨v3, hv, hden⟩ := hden
  refine r_iald X (t := 0) rfl hv d_Mo_putNeeds_8 ?_
  refine gV.lift2 (fun _ _ _ _ => lv_icmp_ge (tgt := 137) hx hb d_Mo_putNeeds_9 (by decide)) (fun hc4 => ?_) (fun hc4 => ?_)
  · replace hden := gip hc4 hden
    refine gV.lift (fun _ _ _ _ => g_aload_n hx hb d_Mo_putNeeds_137 rfl (lv_at hl 0 rfl)) ?_
    refine gV.lift (fun _ _ _ _ => lv_bipush (v := 59) hx hb d_Mo_putNeeds_138 (by decide)) ?_
    replace hden := gb hden
    obtain ⟨fs6, ho, hden⟩ := hden
    replace hden := gb hden
    obtain ⟨S5, hz, hden⟩ := hden
    refine g_callV (As := [.int 59]) (rest := []) X hZ (c_Mo_put hz) cl_Mo (gOb_spec ho) q_1005 q_5 q_1002 q_1004 qp_51 ⟨by decide, by decide, by show _ = some 1; decide +kernel⟩ ⟨by decide, by decide⟩ hl.1 (Nat.le_of_ble_eq_true rfl) d_Mo_putNeeds_140 rfl rfl ?_
    obtain rfl := gsi hden
    exact g_vret X hr d_Mo_putNeeds_143
  · replace hden := gin hc4 hden
    refine gV.lift (fun _ _ _ _ => lv_bipush (v := 25) hx hb d_Mo_putNeeds_12 (by decide)) ?_
    refine gV.lift (fun _ _ _ _ => lv_iload_n hx hb d_Mo_putNeeds_14 rfl (lv_at hl 1 rfl)) ?_
    refine gV.lift (fun _ _ _ _ => lv_imul hx hb d_Mo_putNeeds_15) ?_
    refine gV.lift (fun _ _ _ _ => lv_iconst (v := 5) hx hb d_Mo_putNeeds_16 (by decide)) ?_
    refine gV.lift (fun _ _ _ _ => lv_iload_n hx hb d_Mo_putNeeds_17 rfl (lv_at hl 2 rfl)) ?_
    refine gV.lift (fun _ _ _ _ => lv_imul hx hb d_Mo_putNeeds_18) ?_
    refine gV.lift (fun _ _ _ _ => lv_iadd hx hb d_Mo_putNeeds_19) ?_
    refine gV.liftS (nL := 5) (lv' := [(3, .int ((25 * x1) + (5 * x2))), (0, va_rf (some x0)), (1, .int x1), (2, .int x2)]) (fun _ _ _ _ => lv_istore_n hx hb d_Mo_putNeeds_20 rfl hl (by decide) rfl) (fun ls hl => ?_)
    refine gV.lift (fun _ _ _ _ => g_aload_n hx hb d_Mo_putNeeds_21 rfl (lv_at hl 1 rfl)) ?_
    refine gV.lift (fun _ _ _ _ => lv_iload_n hx hb d_Mo_putNeeds_22 rfl (lv_at hl 3 rfl)) ?_
    refine gV.lift2 (fun _ _ _ _ => lv_if_ne (tgt := 31) hx hb d_Mo_putNeeds_23 (by decide)) (fun hc7 => ?_) (fun hc7 => ?_)
    · replace hden := gin hc7 hden
      refine gV.lift (fun _ _ _ _ => lv_bipush (v := 44) hx hb d_Mo_putNeeds_31 (by decide)) ?_
      exact w_Mo_putNeeds_33 Y hk2 x0 x1 x2 ((25 * x1) + (5 * x2)) 44 x0 S hden (lv_sub hl [1, 2, 3, 0] rfl)
    · replace hden := gip hc7 hden
      refine gV.lift (fun _ _ _ _ => lv_bipush (v := 58) hx hb d_Mo_putNeeds_26 (by decide)) ?_
      refine gV.lift (fun _ _ _ _ => lv_goto (tgt := 33) hx hb d_Mo_putNeeds_28 (by decide)) ?_
      exact w_Mo_putNeeds_33 Y hk2 x0 x1 x2 ((25 * x1) + (5 * x2)) 58 x0 S hden (lv_sub hl [1, 2, 3, 0] rfl)
def L_Mo_putNeeds_2  : Nat → Nat → Int32 → Int32 → gS → Option gS
  | 0 => fun _ _ _ _ => none
  | n + 1 => fun x0 x1 x2 S => B_Mo_putNeeds_2  (L_Mo_putNeeds_2  n) x0 x1 x2 S
theorem wL_Mo_putNeeds_2 {D : va_G} {cT : Nat → ClassId} {H0 : Heap} {l : Launch} {p : Program} {e : Env} {s : State} {m : MethodId} {args : Array Value} {below : List Frame} {meth : Method} {c : Code} {S0 : gS} {S' : gS} (Y : gY D cT H0 p s m args meth c prog_12_method_41_code 5 "PlanTextModel" 2 43 S0 (Option.none : Option Jvm.ClassFile.FieldType))  : ∀ (n : Nat) (x0 : Nat) (x1 : Int32) (x2 : Int32) (S : gS) (ls : Array Slot), L_Mo_putNeeds_2  n x0 x1 x2 S = some S' → lv_has ls 5 [(0, va_rf (some x0)), (1, .int x1), (2, .int x2)] → gV D cT H0 p l e (gRm 2 43 S0) s m args below meth c (gQ D cT H0 below S0 S' (.inr none) s) S0 S (F0 m 2 ls []) := by
  intro n
  induction n with
  | zero => intro x0 x1 x2 S ls h hl; cases h
  | succ n ih => intro x0 x1 x2 S ls h hl; exact w_Mo_putNeeds_2 Y ih x0 x1 x2 S h hl
def D_Mo_putNeeds (h0 : Nat) (p0 : Int32) (S : gS) : Option gS := L_Mo_putNeeds_2  gF h0 p0 0 S
set_option maxRecDepth 100000 in
set_option maxHeartbeats 4000000 in
theorem c_Mo_putNeeds {D : va_G} {cT : Nat → ClassId} {H0 : Heap} {l : Launch} {S : gS} {S' : gS} {h0 : Nat} {p0 : Int32} (hden : D_Mo_putNeeds h0 p0 S = some S') : gM D cT H0 l y_Mo_putNeeds (Cond.code y_Mo_putNeeds prog_12_method_41_code 5 (Option.none : Option Jvm.ClassFile.FieldType)) 2 43 [va_rf (some h0), .int p0] S S' (.inr none) := by
  refine gM.ofV (by decide) ?_
  intro p e s m args below meth c s₁ B hml ea X hZ hex hr hE
  subst ea
  have Y : gY D cT H0 p s m _ meth c prog_12_method_41_code 5 "PlanTextModel" 2 43 S (Option.none : Option Jvm.ClassFile.FieldType) := ⟨X, hZ, hex, hr, hE⟩
  have hx := X.1
  have hb := X.2.1
  have hl := lv_entry ([va_rf (some h0), .int p0]) (n := 5) (Nat.le_of_ble_eq_true rfl)
  rw [lg_entry_eq]
  generalize (lg_sl ([va_rf (some h0), .int p0]) ++ List.replicate (5 - (lg_sl ([va_rf (some h0), .int p0])).length) Slot.unset).toArray = ls at hl ⊢
  have hl : lv_has ls 5 [(0, va_rf (some h0)), (1, .int p0)] := hl
  unfold D_Mo_putNeeds at hden
  refine gV.lift (fun _ _ _ _ => lv_iconst (v := 0) hx hb d_Mo_putNeeds_0 (by decide)) ?_
  refine gV.liftS (nL := 5) (lv' := [(2, .int 0), (0, va_rf (some h0)), (1, .int p0)]) (fun _ _ _ _ => lv_istore_n hx hb d_Mo_putNeeds_1 rfl hl (by decide) rfl) (fun ls hl => ?_)
  exact wL_Mo_putNeeds_2 Y  gF h0 p0 0 S _ hden (lv_sub hl [1, 2, 0] rfl)
