/-! PlanText$Hours.bitsOf(II)I -/
abbrev y_Hr_bitsOf : MethodName := ⟨"PlanText$Hours", "bitsOf", "(II)I"⟩
theorem d_Hr_bitsOf_0 : decode prog_3_method_3_code 0 = .ok (.iconst 0, 1) := by decide +kernel
theorem d_Hr_bitsOf_1 : decode prog_3_method_3_code 1 = .ok (.istore_n 2, 1) := by decide +kernel
theorem d_Hr_bitsOf_2 : decode prog_3_method_3_code 2 = .ok (.iconst 0, 1) := by decide +kernel
theorem d_Hr_bitsOf_3 : decode prog_3_method_3_code 3 = .ok (.istore_n 3, 1) := by decide +kernel
theorem d_Hr_bitsOf_4 : decode prog_3_method_3_code 4 = .ok (.iload_n 3, 1) := by decide +kernel
theorem d_Hr_bitsOf_5 : decode prog_3_method_3_code 5 = .ok (.bipush 23, 2) := by decide +kernel
theorem d_Hr_bitsOf_7 : decode prog_3_method_3_code 7 = .ok (.if_icmp .gt 60, 3) := by decide +kernel
theorem d_Hr_bitsOf_10 : decode prog_3_method_3_code 10 = .ok (.iload_n 0, 1) := by decide +kernel
theorem d_Hr_bitsOf_11 : decode prog_3_method_3_code 11 = .ok (.iload_n 1, 1) := by decide +kernel
theorem d_Hr_bitsOf_12 : decode prog_3_method_3_code 12 = .ok (.if_icmp .gt 21, 3) := by decide +kernel
theorem d_Hr_bitsOf_15 : decode prog_3_method_3_code 15 = .ok (.iload_n 0, 1) := by decide +kernel
theorem d_Hr_bitsOf_16 : decode prog_3_method_3_code 16 = .ok (.iload_n 3, 1) := by decide +kernel
theorem d_Hr_bitsOf_17 : decode prog_3_method_3_code 17 = .ok (.if_icmp .gt 12, 3) := by decide +kernel
theorem d_Hr_bitsOf_20 : decode prog_3_method_3_code 20 = .ok (.iload_n 3, 1) := by decide +kernel
theorem d_Hr_bitsOf_21 : decode prog_3_method_3_code 21 = .ok (.iload_n 1, 1) := by decide +kernel
theorem d_Hr_bitsOf_22 : decode prog_3_method_3_code 22 = .ok (.if_icmp .gt 7, 3) := by decide +kernel
theorem d_Hr_bitsOf_25 : decode prog_3_method_3_code 25 = .ok (.iconst 1, 1) := by decide +kernel
theorem d_Hr_bitsOf_26 : decode prog_3_method_3_code 26 = .ok (.goto 22, 3) := by decide +kernel
theorem d_Hr_bitsOf_29 : decode prog_3_method_3_code 29 = .ok (.iconst 0, 1) := by decide +kernel
theorem d_Hr_bitsOf_30 : decode prog_3_method_3_code 30 = .ok (.goto 18, 3) := by decide +kernel
theorem d_Hr_bitsOf_33 : decode prog_3_method_3_code 33 = .ok (.iload_n 0, 1) := by decide +kernel
theorem d_Hr_bitsOf_34 : decode prog_3_method_3_code 34 = .ok (.iload_n 3, 1) := by decide +kernel
theorem d_Hr_bitsOf_35 : decode prog_3_method_3_code 35 = .ok (.if_icmp .le 8, 3) := by decide +kernel
theorem d_Hr_bitsOf_38 : decode prog_3_method_3_code 38 = .ok (.iload_n 3, 1) := by decide +kernel
theorem d_Hr_bitsOf_39 : decode prog_3_method_3_code 39 = .ok (.iload_n 1, 1) := by decide +kernel
theorem d_Hr_bitsOf_40 : decode prog_3_method_3_code 40 = .ok (.if_icmp .gt 7, 3) := by decide +kernel
theorem d_Hr_bitsOf_43 : decode prog_3_method_3_code 43 = .ok (.iconst 1, 1) := by decide +kernel
theorem d_Hr_bitsOf_44 : decode prog_3_method_3_code 44 = .ok (.goto 4, 3) := by decide +kernel
theorem d_Hr_bitsOf_47 : decode prog_3_method_3_code 47 = .ok (.iconst 0, 1) := by decide +kernel
theorem d_Hr_bitsOf_48 : decode prog_3_method_3_code 48 = .ok (.istore 4, 2) := by decide +kernel
theorem d_Hr_bitsOf_50 : decode prog_3_method_3_code 50 = .ok (.iload 4, 2) := by decide +kernel
theorem d_Hr_bitsOf_52 : decode prog_3_method_3_code 52 = .ok (.ifCond .eq 9, 3) := by decide +kernel
theorem d_Hr_bitsOf_55 : decode prog_3_method_3_code 55 = .ok (.iload_n 2, 1) := by decide +kernel
theorem d_Hr_bitsOf_56 : decode prog_3_method_3_code 56 = .ok (.iconst 1, 1) := by decide +kernel
theorem d_Hr_bitsOf_57 : decode prog_3_method_3_code 57 = .ok (.iload_n 3, 1) := by decide +kernel
theorem d_Hr_bitsOf_58 : decode prog_3_method_3_code 58 = .ok (.ishl, 1) := by decide +kernel
theorem d_Hr_bitsOf_59 : decode prog_3_method_3_code 59 = .ok (.ior, 1) := by decide +kernel
theorem d_Hr_bitsOf_60 : decode prog_3_method_3_code 60 = .ok (.istore_n 2, 1) := by decide +kernel
theorem d_Hr_bitsOf_61 : decode prog_3_method_3_code 61 = .ok (.iinc 3 1, 3) := by decide +kernel
theorem d_Hr_bitsOf_64 : decode prog_3_method_3_code 64 = .ok (.goto (-60), 3) := by decide +kernel
theorem d_Hr_bitsOf_67 : decode prog_3_method_3_code 67 = .ok (.iload_n 2, 1) := by decide +kernel
theorem d_Hr_bitsOf_68 : decode prog_3_method_3_code 68 = .ok (.ireturn, 1) := by decide +kernel
def B_Hr_bitsOf_61 (k4 : Int32 → Int32 → Int32 → Int32 → gS → Option (Int32 × gS)) (x0 : Int32) (x1 : Int32) (x2 : Int32) (x3 : Int32) (S : gS) : Option (Int32 × gS) := k4 x0 x1 x2 (x3 + 1) S
set_option maxRecDepth 100000 in
set_option maxHeartbeats 4000000 in
theorem w_Hr_bitsOf_61 {D : va_G} {cT : Nat → ClassId} {H0 : Heap} {l : Launch} {p : Program} {e : Env} {s : State} {m : MethodId} {args : Array Value} {below : List Frame} {meth : Method} {c : Code} {S0 : gS} {S' : gS} {r : Int32} (Y : gY D cT H0 p s m args meth c prog_3_method_3_code 5 "PlanText$Hours" 0 0 S0 (Option.some Jvm.ClassFile.FieldType.int)) {k4 : Int32 → Int32 → Int32 → Int32 → gS → Option (Int32 × gS)} (hk4 : ∀ (x0 : Int32) (x1 : Int32) (x2 : Int32) (x3 : Int32) (S : gS) (ls : Array Slot), k4 x0 x1 x2 x3 S = some (r, S') → lv_has ls 5 [(0, .int x0), (1, .int x1), (2, .int x2), (3, .int x3)] → gV D cT H0 p l e (gRm 0 0 S0) s m args below meth c (gQ D cT H0 below S0 S' (.inr (some (.int r))) s) S0 S (F0 m 4 ls [])) (x0 : Int32) (x1 : Int32) (x2 : Int32) (x3 : Int32) (S : gS) (hden : B_Hr_bitsOf_61 k4 x0 x1 x2 x3 S = some (r, S')) {ls : Array Slot} (hl : lv_has ls 5 [(0, .int x0), (1, .int x1), (2, .int x2), (3, .int x3)]) : gV D cT H0 p l e (gRm 0 0 S0) s m args below meth c (gQ D cT H0 below S0 S' (.inr (some (.int r))) s) S0 S (F0 m 61 ls []) := by
  obtain ⟨X, hZ, hex, hr, hE⟩ := id Y
  have hx := X.1
  have hb := X.2.1
  unfold B_Hr_bitsOf_61 at hden
  refine gV.liftS (nL := 5) (lv' := [(3, .int (x3 + 1)), (0, .int x0), (1, .int x1), (2, .int x2)]) (fun _ _ _ _ => lv_iinc (v := (x3 + 1)) hx hb d_Hr_bitsOf_61 hl (k := 3) rfl rfl (by decide) rfl) (fun ls hl => ?_)
  refine gV.lift (fun _ _ _ _ => lv_goto (tgt := 4) hx hb d_Hr_bitsOf_64 (by decide)) ?_
  exact hk4 x0 x1 x2 (x3 + 1) S _ hden (lv_sub hl [1, 2, 3, 0] rfl)
def B_Hr_bitsOf_48 (k4 : Int32 → Int32 → Int32 → Int32 → gS → Option (Int32 × gS)) (x0 : Int32) (x1 : Int32) (x2 : Int32) (x3 : Int32) (t0 : Int32) (S : gS) : Option (Int32 × gS) := (if t0 = 0 then B_Hr_bitsOf_61 k4 x0 x1 x2 x3 S else B_Hr_bitsOf_61 k4 x0 x1 (x2 ||| (1 <<< (x3 &&& 31))) x3 S)
set_option maxRecDepth 100000 in
set_option maxHeartbeats 4000000 in
theorem w_Hr_bitsOf_48 {D : va_G} {cT : Nat → ClassId} {H0 : Heap} {l : Launch} {p : Program} {e : Env} {s : State} {m : MethodId} {args : Array Value} {below : List Frame} {meth : Method} {c : Code} {S0 : gS} {S' : gS} {r : Int32} (Y : gY D cT H0 p s m args meth c prog_3_method_3_code 5 "PlanText$Hours" 0 0 S0 (Option.some Jvm.ClassFile.FieldType.int)) {k4 : Int32 → Int32 → Int32 → Int32 → gS → Option (Int32 × gS)} (hk4 : ∀ (x0 : Int32) (x1 : Int32) (x2 : Int32) (x3 : Int32) (S : gS) (ls : Array Slot), k4 x0 x1 x2 x3 S = some (r, S') → lv_has ls 5 [(0, .int x0), (1, .int x1), (2, .int x2), (3, .int x3)] → gV D cT H0 p l e (gRm 0 0 S0) s m args below meth c (gQ D cT H0 below S0 S' (.inr (some (.int r))) s) S0 S (F0 m 4 ls [])) (x0 : Int32) (x1 : Int32) (x2 : Int32) (x3 : Int32) (t0 : Int32) (S : gS) (hden : B_Hr_bitsOf_48 k4 x0 x1 x2 x3 t0 S = some (r, S')) {ls : Array Slot} (hl : lv_has ls 5 [(0, .int x0), (1, .int x1), (2, .int x2), (3, .int x3)]) : gV D cT H0 p l e (gRm 0 0 S0) s m args below meth c (gQ D cT H0 below S0 S' (.inr (some (.int r))) s) S0 S (F0 m 48 ls [.int t0]) := by
  obtain ⟨X, hZ, hex, hr, hE⟩ := id Y
  have hx := X.1
  have hb := X.2.1
  unfold B_Hr_bitsOf_48 at hden
  refine gV.liftS (nL := 5) (lv' := [(4, .int t0), (0, .int x0), (1, .int x1), (2, .int x2), (3, .int x3)]) (fun _ _ _ _ => lv_istore hx hb d_Hr_bitsOf_48 hl (by decide) rfl) (fun ls hl => ?_)
  refine gV.lift (fun _ _ _ _ => lv_iload hx hb d_Hr_bitsOf_50 (lv_at hl 0 rfl)) ?_
  refine gV.lift2 (fun _ _ _ _ => lv_if_eq (tgt := 61) hx hb d_Hr_bitsOf_52 (by decide)) (fun hc1 => ?_) (fun hc1 => ?_)
  · replace hden := gip hc1 hden
    exact w_Hr_bitsOf_61 Y hk4 x0 x1 x2 x3 S hden (lv_sub hl [1, 2, 3, 4] rfl)
  · replace hden := gin hc1 hden
    refine gV.lift (fun _ _ _ _ => lv_iload_n hx hb d_Hr_bitsOf_55 rfl (lv_at hl 3 rfl)) ?_
    refine gV.lift (fun _ _ _ _ => lv_iconst (v := 1) hx hb d_Hr_bitsOf_56 (by decide)) ?_
    refine gV.lift (fun _ _ _ _ => lv_iload_n hx hb d_Hr_bitsOf_57 rfl (lv_at hl 4 rfl)) ?_
    refine gV.lift (fun _ _ _ _ => lv_ishl hx hb d_Hr_bitsOf_58) ?_
    refine gV.lift (fun _ _ _ _ => lv_ior hx hb d_Hr_bitsOf_59) ?_
    refine gV.liftS (nL := 5) (lv' := [(2, .int (x2 ||| (1 <<< (x3 &&& 31)))), (4, .int t0), (0, .int x0), (1, .int x1), (3, .int x3)]) (fun _ _ _ _ => lv_istore_n hx hb d_Hr_bitsOf_60 rfl hl (by decide) rfl) (fun ls hl => ?_)
    exact w_Hr_bitsOf_61 Y hk4 x0 x1 (x2 ||| (1 <<< (x3 &&& 31))) x3 S hden (lv_sub hl [2, 3, 0, 4] rfl)
def B_Hr_bitsOf_43 (k4 : Int32 → Int32 → Int32 → Int32 → gS → Option (Int32 × gS)) (x0 : Int32) (x1 : Int32) (x2 : Int32) (x3 : Int32) (S : gS) : Option (Int32 × gS) := B_Hr_bitsOf_48 k4 x0 x1 x2 x3 1 S
set_option maxRecDepth 100000 in
set_option maxHeartbeats 4000000 in
theorem w_Hr_bitsOf_43 {D : va_G} {cT : Nat → ClassId} {H0 : Heap} {l : Launch} {p : Program} {e : Env} {s : State} {m : MethodId} {args : Array Value} {below : List Frame} {meth : Method} {c : Code} {S0 : gS} {S' : gS} {r : Int32} (Y : gY D cT H0 p s m args meth c prog_3_method_3_code 5 "PlanText$Hours" 0 0 S0 (Option.some Jvm.ClassFile.FieldType.int)) {k4 : Int32 → Int32 → Int32 → Int32 → gS → Option (Int32 × gS)} (hk4 : ∀ (x0 : Int32) (x1 : Int32) (x2 : Int32) (x3 : Int32) (S : gS) (ls : Array Slot), k4 x0 x1 x2 x3 S = some (r, S') → lv_has ls 5 [(0, .int x0), (1, .int x1), (2, .int x2), (3, .int x3)] → gV D cT H0 p l e (gRm 0 0 S0) s m args below meth c (gQ D cT H0 below S0 S' (.inr (some (.int r))) s) S0 S (F0 m 4 ls [])) (x0 : Int32) (x1 : Int32) (x2 : Int32) (x3 : Int32) (S : gS) (hden : B_Hr_bitsOf_43 k4 x0 x1 x2 x3 S = some (r, S')) {ls : Array Slot} (hl : lv_has ls 5 [(0, .int x0), (1, .int x1), (2, .int x2), (3, .int x3)]) : gV D cT H0 p l e (gRm 0 0 S0) s m args below meth c (gQ D cT H0 below S0 S' (.inr (some (.int r))) s) S0 S (F0 m 43 ls []) := by
  obtain ⟨X, hZ, hex, hr, hE⟩ := id Y
  have hx := X.1
  have hb := X.2.1
  unfold B_Hr_bitsOf_43 at hden
  refine gV.lift (fun _ _ _ _ => lv_iconst (v := 1) hx hb d_Hr_bitsOf_43 (by decide)) ?_
  refine gV.lift (fun _ _ _ _ => lv_goto (tgt := 48) hx hb d_Hr_bitsOf_44 (by decide)) ?_
  exact w_Hr_bitsOf_48 Y hk4 x0 x1 x2 x3 1 S hden (lv_sub hl [0, 1, 2, 3] rfl)
def B_Hr_bitsOf_29 (k4 : Int32 → Int32 → Int32 → Int32 → gS → Option (Int32 × gS)) (x0 : Int32) (x1 : Int32) (x2 : Int32) (x3 : Int32) (S : gS) : Option (Int32 × gS) := B_Hr_bitsOf_48 k4 x0 x1 x2 x3 0 S
set_option maxRecDepth 100000 in
set_option maxHeartbeats 4000000 in
theorem w_Hr_bitsOf_29 {D : va_G} {cT : Nat → ClassId} {H0 : Heap} {l : Launch} {p : Program} {e : Env} {s : State} {m : MethodId} {args : Array Value} {below : List Frame} {meth : Method} {c : Code} {S0 : gS} {S' : gS} {r : Int32} (Y : gY D cT H0 p s m args meth c prog_3_method_3_code 5 "PlanText$Hours" 0 0 S0 (Option.some Jvm.ClassFile.FieldType.int)) {k4 : Int32 → Int32 → Int32 → Int32 → gS → Option (Int32 × gS)} (hk4 : ∀ (x0 : Int32) (x1 : Int32) (x2 : Int32) (x3 : Int32) (S : gS) (ls : Array Slot), k4 x0 x1 x2 x3 S = some (r, S') → lv_has ls 5 [(0, .int x0), (1, .int x1), (2, .int x2), (3, .int x3)] → gV D cT H0 p l e (gRm 0 0 S0) s m args below meth c (gQ D cT H0 below S0 S' (.inr (some (.int r))) s) S0 S (F0 m 4 ls [])) (x0 : Int32) (x1 : Int32) (x2 : Int32) (x3 : Int32) (S : gS) (hden : B_Hr_bitsOf_29 k4 x0 x1 x2 x3 S = some (r, S')) {ls : Array Slot} (hl : lv_has ls 5 [(0, .int x0), (1, .int x1), (2, .int x2), (3, .int x3)]) : gV D cT H0 p l e (gRm 0 0 S0) s m args below meth c (gQ D cT H0 below S0 S' (.inr (some (.int r))) s) S0 S (F0 m 29 ls []) := by
  obtain ⟨X, hZ, hex, hr, hE⟩ := id Y
  have hx := X.1
  have hb := X.2.1
  unfold B_Hr_bitsOf_29 at hden
  refine gV.lift (fun _ _ _ _ => lv_iconst (v := 0) hx hb d_Hr_bitsOf_29 (by decide)) ?_
  refine gV.lift (fun _ _ _ _ => lv_goto (tgt := 48) hx hb d_Hr_bitsOf_30 (by decide)) ?_
  exact w_Hr_bitsOf_48 Y hk4 x0 x1 x2 x3 0 S hden (lv_sub hl [0, 1, 2, 3] rfl)
def B_Hr_bitsOf_4 (k4 : Int32 → Int32 → Int32 → Int32 → gS → Option (Int32 × gS)) (x0 : Int32) (x1 : Int32) (x2 : Int32) (x3 : Int32) (S : gS) : Option (Int32 × gS) := (if 23 < x3 then some (x2, S) else (if x1 < x0 then (if x0 ≤ x3 then B_Hr_bitsOf_43 k4 x0 x1 x2 x3 S else (if x1 < x3 then B_Hr_bitsOf_48 k4 x0 x1 x2 x3 0 S else B_Hr_bitsOf_43 k4 x0 x1 x2 x3 S)) else (if x3 < x0 then B_Hr_bitsOf_29 k4 x0 x1 x2 x3 S else (if x1 < x3 then B_Hr_bitsOf_29 k4 x0 x1 x2 x3 S else B_Hr_bitsOf_48 k4 x0 x1 x2 x3 1 S))))
set_option maxRecDepth 100000 in
set_option maxHeartbeats 4000000 in
theorem w_Hr_bitsOf_4 {D : va_G} {cT : Nat → ClassId} {H0 : Heap} {l : Launch} {p : Program} {e : Env} {s : State} {m : MethodId} {args : Array Value} {below : List Frame} {meth : Method} {c : Code} {S0 : gS} {S' : gS} {r : Int32} (Y : gY D cT H0 p s m args meth c prog_3_method_3_code 5 "PlanText$Hours" 0 0 S0 (Option.some Jvm.ClassFile.FieldType.int)) {k4 : Int32 → Int32 → Int32 → Int32 → gS → Option (Int32 × gS)} (hk4 : ∀ (x0 : Int32) (x1 : Int32) (x2 : Int32) (x3 : Int32) (S : gS) (ls : Array Slot), k4 x0 x1 x2 x3 S = some (r, S') → lv_has ls 5 [(0, .int x0), (1, .int x1), (2, .int x2), (3, .int x3)] → gV D cT H0 p l e (gRm 0 0 S0) s m args below meth c (gQ D cT H0 below S0 S' (.inr (some (.int r))) s) S0 S (F0 m 4 ls [])) (x0 : Int32) (x1 : Int32) (x2 : Int32) (x3 : Int32) (S : gS) (hden : B_Hr_bitsOf_4 k4 x0 x1 x2 x3 S = some (r, S')) {ls : Array Slot} (hl : lv_has ls 5 [(0, .int x0), (1, .int x1), (2, .int x2), (3, .int x3)]) : gV D cT H0 p l e (gRm 0 0 S0) s m args below meth c (gQ D cT H0 below S0 S' (.inr (some (.int r))) s) S0 S (F0 m 4 ls []) := by
  obtain ⟨X, hZ, hex, hr, hE⟩ := id Y
  have hx := X.1
  have hb := X.2.1
  unfold B_Hr_bitsOf_4 at hden
  refine gV.lift (fun _ _ _ _ => lv_iload_n hx hb d_Hr_bitsOf_4 rfl (lv_at hl 3 rfl)) ?_
  refine gV.lift (fun _ _ _ _ => lv_bipush (v := 23) hx hb d_Hr_bitsOf_5 (by decide)) ?_
  refine gV.lift2 (fun _ _ _ _ => lv_icmp_gt (tgt := 67) hx hb d_Hr_bitsOf_7 (by decide)) (fun hc1 => ?_) (fun hc1 => ?_)
  · replace hden := gip hc1 hden
    refine gV.lift (fun _ _ _ _ => lv_iload_n hx hb d_Hr_bitsOf_67 rfl (lv_at hl 2 rfl)) ?_
    obtain ⟨rfl, rfl⟩ := gpi hden
    exact g_iret X hr d_Hr_bitsOf_68
  · replace hden := gin hc1 hden
    refine gV.lift (fun _ _ _ _ => lv_iload_n hx hb d_Hr_bitsOf_10 rfl (lv_at hl 0 rfl)) ?_
    refine gV.lift (fun _ _ _ _ => lv_iload_n hx hb d_Hr_bitsOf_11 rfl (lv_at hl 1 rfl)) ?_
    refine gV.lift2 (fun _ _ _ _ => lv_icmp_gt (tgt := 33) hx hb d_Hr_bitsOf_12 (by decide)) (fun hc2 => ?_) (fun hc2 => ?_)
    · replace hden := gip hc2 hden
      refine gV.lift (fun _ _ _ _ => lv_iload_n hx hb d_Hr_bitsOf_33 rfl (lv_at hl 0 rfl)) ?_
      refine gV.lift (fun _ _ _ _ => lv_iload_n hx hb d_Hr_bitsOf_34 rfl (lv_at hl 3 rfl)) ?_
      refine gV.lift2 (fun _ _ _ _ => lv_icmp_le (tgt := 43) hx hb d_Hr_bitsOf_35 (by decide)) (fun hc3 => ?_) (fun hc3 => ?_)
      · replace hden := gip hc3 hden
        exact w_Hr_bitsOf_43 Y hk4 x0 x1 x2 x3 S hden (lv_sub hl [0, 1, 2, 3] rfl)
      · replace hden := gin hc3 hden
        refine gV.lift (fun _ _ _ _ => lv_iload_n hx hb d_Hr_bitsOf_38 rfl (lv_at hl 3 rfl)) ?_
        refine gV.lift (fun _ _ _ _ => lv_iload_n hx hb d_Hr_bitsOf_39 rfl (lv_at hl 1 rfl)) ?_
        refine gV.lift2 (fun _ _ _ _ => lv_icmp_gt (tgt := 47) hx hb d_Hr_bitsOf_40 (by decide)) (fun hc4 => ?_) (fun hc4 => ?_)
        · replace hden := gip hc4 hden
          refine gV.lift (fun _ _ _ _ => lv_iconst (v := 0) hx hb d_Hr_bitsOf_47 (by decide)) ?_
          exact w_Hr_bitsOf_48 Y hk4 x0 x1 x2 x3 0 S hden (lv_sub hl [0, 1, 2, 3] rfl)
        · replace hden := gin hc4 hden
          exact w_Hr_bitsOf_43 Y hk4 x0 x1 x2 x3 S hden (lv_sub hl [0, 1, 2, 3] rfl)
    · replace hden := gin hc2 hden
      refine gV.lift (fun _ _ _ _ => lv_iload_n hx hb d_Hr_bitsOf_15 rfl (lv_at hl 0 rfl)) ?_
      refine gV.lift (fun _ _ _ _ => lv_iload_n hx hb d_Hr_bitsOf_16 rfl (lv_at hl 3 rfl)) ?_
      refine gV.lift2 (fun _ _ _ _ => lv_icmp_gt (tgt := 29) hx hb d_Hr_bitsOf_17 (by decide)) (fun hc5 => ?_) (fun hc5 => ?_)
      · replace hden := gip hc5 hden
        exact w_Hr_bitsOf_29 Y hk4 x0 x1 x2 x3 S hden (lv_sub hl [0, 1, 2, 3] rfl)
      · replace hden := gin hc5 hden
        refine gV.lift (fun _ _ _ _ => lv_iload_n hx hb d_Hr_bitsOf_20 rfl (lv_at hl 3 rfl)) ?_
        refine gV.lift (fun _ _ _ _ => lv_iload_n hx hb d_Hr_bitsOf_21 rfl (lv_at hl 1 rfl)) ?_
        refine gV.lift2 (fun _ _ _ _ => lv_icmp_gt (tgt := 29) hx hb d_Hr_bitsOf_22 (by decide)) (fun hc6 => ?_) (fun hc6 => ?_)
        · replace hden := gip hc6 hden
          exact w_Hr_bitsOf_29 Y hk4 x0 x1 x2 x3 S hden (lv_sub hl [0, 1, 2, 3] rfl)
        · replace hden := gin hc6 hden
          refine gV.lift (fun _ _ _ _ => lv_iconst (v := 1) hx hb d_Hr_bitsOf_25 (by decide)) ?_
          refine gV.lift (fun _ _ _ _ => lv_goto (tgt := 48) hx hb d_Hr_bitsOf_26 (by decide)) ?_
          exact w_Hr_bitsOf_48 Y hk4 x0 x1 x2 x3 1 S hden (lv_sub hl [0, 1, 2, 3] rfl)
def L_Hr_bitsOf_4  : Nat → Int32 → Int32 → Int32 → Int32 → gS → Option (Int32 × gS)
  | 0 => fun _ _ _ _ _ => none
  | n + 1 => fun x0 x1 x2 x3 S => B_Hr_bitsOf_4  (L_Hr_bitsOf_4  n) x0 x1 x2 x3 S
theorem wL_Hr_bitsOf_4 {D : va_G} {cT : Nat → ClassId} {H0 : Heap} {l : Launch} {p : Program} {e : Env} {s : State} {m : MethodId} {args : Array Value} {below : List Frame} {meth : Method} {c : Code} {S0 : gS} {S' : gS} {r : Int32} (Y : gY D cT H0 p s m args meth c prog_3_method_3_code 5 "PlanText$Hours" 0 0 S0 (Option.some Jvm.ClassFile.FieldType.int))  : ∀ (n : Nat) (x0 : Int32) (x1 : Int32) (x2 : Int32) (x3 : Int32) (S : gS) (ls : Array Slot), L_Hr_bitsOf_4  n x0 x1 x2 x3 S = some (r, S') → lv_has ls 5 [(0, .int x0), (1, .int x1), (2, .int x2), (3, .int x3)] → gV D cT H0 p l e (gRm 0 0 S0) s m args below meth c (gQ D cT H0 below S0 S' (.inr (some (.int r))) s) S0 S (F0 m 4 ls []) := by
  intro n
  induction n with
  | zero => intro x0 x1 x2 x3 S ls h hl; cases h
  | succ n ih => intro x0 x1 x2 x3 S ls h hl; exact w_Hr_bitsOf_4 Y ih x0 x1 x2 x3 S h hl
def D_Hr_bitsOf (p0 : Int32) (p1 : Int32) (S : gS) : Option (Int32 × gS) := L_Hr_bitsOf_4  gF p0 p1 0 0 S
set_option maxRecDepth 100000 in
set_option maxHeartbeats 4000000 in
theorem c_Hr_bitsOf {D : va_G} {cT : Nat → ClassId} {H0 : Heap} {l : Launch} {S : gS} {S' : gS} {p0 : Int32} {p1 : Int32} {r : Int32} (hden : D_Hr_bitsOf p0 p1 S = some (r, S')) : gM D cT H0 l y_Hr_bitsOf (Cond.code y_Hr_bitsOf prog_3_method_3_code 5 (Option.some Jvm.ClassFile.FieldType.int)) 0 0 [.int p0, .int p1] S S' (.inr (some (.int r))) := by
  refine gM.ofV (by decide) ?_
  intro p e s m args below meth c s₁ B hml ea X hZ hex hr hE
  subst ea
  have Y : gY D cT H0 p s m _ meth c prog_3_method_3_code 5 "PlanText$Hours" 0 0 S (Option.some Jvm.ClassFile.FieldType.int) := ⟨X, hZ, hex, hr, hE⟩
  have hx := X.1
  have hb := X.2.1
  have hl := lv_entry ([.int p0, .int p1]) (n := 5) (Nat.le_of_ble_eq_true rfl)
  rw [lg_entry_eq]
  generalize (lg_sl ([.int p0, .int p1]) ++ List.replicate (5 - (lg_sl ([.int p0, .int p1])).length) Slot.unset).toArray = ls at hl ⊢
  have hl : lv_has ls 5 [(0, .int p0), (1, .int p1)] := hl
  unfold D_Hr_bitsOf at hden
  refine gV.lift (fun _ _ _ _ => lv_iconst (v := 0) hx hb d_Hr_bitsOf_0 (by decide)) ?_
  refine gV.liftS (nL := 5) (lv' := [(2, .int 0), (0, .int p0), (1, .int p1)]) (fun _ _ _ _ => lv_istore_n hx hb d_Hr_bitsOf_1 rfl hl (by decide) rfl) (fun ls hl => ?_)
  refine gV.lift (fun _ _ _ _ => lv_iconst (v := 0) hx hb d_Hr_bitsOf_2 (by decide)) ?_
  refine gV.liftS (nL := 5) (lv' := [(3, .int 0), (2, .int 0), (0, .int p0), (1, .int p1)]) (fun _ _ _ _ => lv_istore_n hx hb d_Hr_bitsOf_3 rfl hl (by decide) rfl) (fun ls hl => ?_)
  exact wL_Hr_bitsOf_4 Y  gF p0 p1 0 0 S _ hden (lv_sub hl [2, 3, 1, 0] rfl)
/-! PlanText$Hours.<init>(ZII)V -/
abbrev y_Hr_init : MethodName := ⟨"PlanText$Hours", "<init>", "(ZII)V"⟩
theorem d_Hr_init_0 : decode prog_3_method_1_code 0 = .ok (.aload_n 0, 1) := by decide +kernel
theorem d_Hr_init_1 : decode prog_3_method_1_code 1 = .ok (.invokespecial 3, 3) := by decide +kernel
theorem d_Hr_init_4 : decode prog_3_method_1_code 4 = .ok (.aload_n 0, 1) := by decide +kernel
theorem d_Hr_init_5 : decode prog_3_method_1_code 5 = .ok (.iload_n 1, 1) := by decide +kernel
theorem d_Hr_init_6 : decode prog_3_method_1_code 6 = .ok (.putfield 9, 3) := by decide +kernel
theorem d_Hr_init_9 : decode prog_3_method_1_code 9 = .ok (.aload_n 0, 1) := by decide +kernel
theorem d_Hr_init_10 : decode prog_3_method_1_code 10 = .ok (.iload_n 2, 1) := by decide +kernel
theorem d_Hr_init_11 : decode prog_3_method_1_code 11 = .ok (.putfield 15, 3) := by decide +kernel
theorem d_Hr_init_14 : decode prog_3_method_1_code 14 = .ok (.aload_n 0, 1) := by decide +kernel
theorem d_Hr_init_15 : decode prog_3_method_1_code 15 = .ok (.iload_n 3, 1) := by decide +kernel
theorem d_Hr_init_16 : decode prog_3_method_1_code 16 = .ok (.putfield 19, 3) := by decide +kernel
theorem d_Hr_init_19 : decode prog_3_method_1_code 19 = .ok (.aload_n 0, 1) := by decide +kernel
theorem d_Hr_init_20 : decode prog_3_method_1_code 20 = .ok (.iload_n 2, 1) := by decide +kernel
theorem d_Hr_init_21 : decode prog_3_method_1_code 21 = .ok (.iload_n 3, 1) := by decide +kernel
theorem d_Hr_init_22 : decode prog_3_method_1_code 22 = .ok (.invokestatic 22, 3) := by decide +kernel
theorem d_Hr_init_25 : decode prog_3_method_1_code 25 = .ok (.putfield 26, 3) := by decide +kernel
theorem d_Hr_init_28 : decode prog_3_method_1_code 28 = .ok (.return_, 1) := by decide +kernel
def D_Hr_init (h0 : Nat) (p0 : Int32) (p1 : Int32) (p2 : Int32) (S : gS) : Option gS := Option.bind (gZo p0) (fun v2 => Option.bind (gPut S h0 2 0 (.int v2)) (fun S1 => Option.bind (gPut S1 h0 2 1 (.int p1)) (fun S3 => Option.bind (gPut S3 h0 2 2 (.int p2)) (fun S4 => gB2 (D_Hr_bitsOf p1 p2 S4) (fun v6 S5 => Option.bind (gPut S5 h0 2 3 (.int v6)) (fun S7 => some S7))))))
set_option maxRecDepth 100000 in
set_option maxHeartbeats 4000000 in
theorem c_Hr_init {D : va_G} {cT : Nat → ClassId} {H0 : Heap} {l : Launch} {S : gS} {S' : gS} {h0 : Nat} {p0 : Int32} {p1 : Int32} {p2 : Int32} (hden : D_Hr_init h0 p0 p1 p2 S = some S') : gM D cT H0 l y_Hr_init (Cond.code y_Hr_init prog_3_method_1_code 4 (Option.none : Option Jvm.ClassFile.FieldType)) 1 24 [va_rf (some h0), .int p0, .int p1, .int p2] S S' (.inr none) := by
  refine gM.ofV (by decide) ?_
  intro p e s m args below meth c s₁ B hml ea X hZ hex hr hE
  subst ea
  have Y : gY D cT H0 p s m _ meth c prog_3_method_1_code 4 "PlanText$Hours" 1 24 S (Option.none : Option Jvm.ClassFile.FieldType) := ⟨X, hZ, hex, hr, hE⟩
  have hin : meth.name = "<init>" := (name_of_methodNamed B.named B.method).1
  have hx := X.1
  have hb := X.2.1
  have hl := lv_entry ([va_rf (some h0), .int p0, .int p1, .int p2]) (n := 4) (Nat.le_of_ble_eq_true rfl)
  rw [lg_entry_eq]
  generalize (lg_sl ([va_rf (some h0), .int p0, .int p1, .int p2]) ++ List.replicate (4 - (lg_sl ([va_rf (some h0), .int p0, .int p1, .int p2])).length) Slot.unset).toArray = ls at hl ⊢
  have hl : lv_has ls 4 [(0, va_rf (some h0)), (1, .int p0), (2, .int p1), (3, .int p2)] := hl
  unfold D_Hr_init at hden
  refine gV.lift (fun _ _ _ _ => g_aload_n hx hb d_Hr_init_0 rfl (lv_at hl 0 rfl)) ?_
  refine g_objInit X q_343 q_26 q_27 hl.1 d_Hr_init_1 ⟨by decide, Nat.le_of_ble_eq_true rfl⟩ ?_
  refine gV.lift (fun _ _ _ _ => g_aload_n hx hb d_Hr_init_4 rfl (lv_at hl 0 rfl)) ?_
  refine gV.lift (fun _ _ _ _ => lv_iload_n hx hb d_Hr_init_5 rfl (lv_at hl 1 rfl)) ?_
  replace hden := gb hden
  obtain ⟨v2, hz, hden⟩ := hden
  obtain ⟨rfl, hz2, hz3⟩ := gZo_spec hz
  replace hden := gb hden
  obtain ⟨S1, hv, hden⟩ := hden
  refine r_putF X cl_Hr (k := 0) hv (by decide) q_347 rfl hin rfl hz2 hz3 d_Hr_init_6 ?_
  refine gV.lift (fun _ _ _ _ => g_aload_n hx hb d_Hr_init_9 rfl (lv_at hl 0 rfl)) ?_
  refine gV.lift (fun _ _ _ _ => lv_iload_n hx hb d_Hr_init_10 rfl (lv_at hl 2 rfl)) ?_
  replace hden := gb hden
  obtain ⟨S3, hv, hden⟩ := hden
  refine r_putF X cl_Hr (k := 1) hv (by decide) q_349 rfl hin rfl rfl rfl d_Hr_init_11 ?_
  refine gV.lift (fun _ _ _ _ => g_aload_n hx hb d_Hr_init_14 rfl (lv_at hl 0 rfl)) ?_
  refine gV.lift (fun _ _ _ _ => lv_iload_n hx hb d_Hr_init_15 rfl (lv_at hl 3 rfl)) ?_
  replace hden := gb hden
  obtain ⟨S4, hv, hden⟩ := hden
  refine r_putF X cl_Hr (k := 2) hv (by decide) q_351 rfl hin rfl rfl rfl d_Hr_init_16 ?_
  refine gV.lift (fun _ _ _ _ => g_aload_n hx hb d_Hr_init_19 rfl (lv_at hl 0 rfl)) ?_
  refine gV.lift (fun _ _ _ _ => lv_iload_n hx hb d_Hr_init_20 rfl (lv_at hl 2 rfl)) ?_
  refine gV.lift (fun _ _ _ _ => lv_iload_n hx hb d_Hr_init_21 rfl (lv_at hl 3 rfl)) ?_
  replace hden := gb2 hden
  obtain ⟨v6, S5, hz, hden⟩ := hden
  refine g_callS (As := [.int p1, .int p2]) (rest := [va_rf (some h0)]) X hZ (c_Hr_bitsOf hz) q_346 q_14 q_344 q_345 ⟨by decide, by decide, by show _ = some 2; decide +kernel⟩ ⟨by decide, by decide⟩ hl.1 (Nat.le_of_ble_eq_true rfl) d_Hr_init_22 rfl rfl ?_
  replace hden := gb hden
  obtain ⟨S7, hv, hden⟩ := hden
  refine r_putF X cl_Hr (k := 3) hv (by decide) q_353 rfl hin rfl rfl rfl d_Hr_init_25 ?_
  obtain rfl := gsi hden
  exact g_vret X hr d_Hr_init_28
/-! PlanText$Hours.has(I)Z -/
abbrev y_Hr_has : MethodName := ⟨"PlanText$Hours", "has", "(I)Z"⟩
theorem d_Hr_has_0 : decode prog_3_method_2_code 0 = .ok (.iload_n 1, 1) := by decide +kernel
theorem d_Hr_has_1 : decode prog_3_method_2_code 1 = .ok (.ifCond .lt 24, 3) := by decide +kernel
theorem d_Hr_has_4 : decode prog_3_method_2_code 4 = .ok (.iload_n 1, 1) := by decide +kernel
theorem d_Hr_has_5 : decode prog_3_method_2_code 5 = .ok (.bipush 23, 2) := by decide +kernel
theorem d_Hr_has_7 : decode prog_3_method_2_code 7 = .ok (.if_icmp .gt 18, 3) := by decide +kernel
theorem d_Hr_has_10 : decode prog_3_method_2_code 10 = .ok (.aload_n 0, 1) := by decide +kernel
theorem d_Hr_has_11 : decode prog_3_method_2_code 11 = .ok (.getfield 26, 3) := by decide +kernel
theorem d_Hr_has_14 : decode prog_3_method_2_code 14 = .ok (.iload_n 1, 1) := by decide +kernel
theorem d_Hr_has_15 : decode prog_3_method_2_code 15 = .ok (.ishr, 1) := by decide +kernel
theorem d_Hr_has_16 : decode prog_3_method_2_code 16 = .ok (.iconst 1, 1) := by decide +kernel
theorem d_Hr_has_17 : decode prog_3_method_2_code 17 = .ok (.iand, 1) := by decide +kernel
theorem d_Hr_has_18 : decode prog_3_method_2_code 18 = .ok (.ifCond .eq 7, 3) := by decide +kernel
theorem d_Hr_has_21 : decode prog_3_method_2_code 21 = .ok (.iconst 1, 1) := by decide +kernel
theorem d_Hr_has_22 : decode prog_3_method_2_code 22 = .ok (.goto 4, 3) := by decide +kernel
theorem d_Hr_has_25 : decode prog_3_method_2_code 25 = .ok (.iconst 0, 1) := by decide +kernel
theorem d_Hr_has_26 : decode prog_3_method_2_code 26 = .ok (.ireturn, 1) := by decide +kernel
def B_Hr_has_26  (t0 : Int32) (S : gS) : Option (Int32 × gS) := Option.bind (gZo t0) (fun v1 => some (v1, S))
set_option maxRecDepth 100000 in
set_option maxHeartbeats 4000000 in
theorem w_Hr_has_26 {D : va_G} {cT : Nat → ClassId} {H0 : Heap} {l : Launch} {p : Program} {e : Env} {s : State} {m : MethodId} {args : Array Value} {below : List Frame} {meth : Method} {c : Code} {S0 : gS} {S' : gS} {r : Int32} (Y : gY D cT H0 p s m args meth c prog_3_method_2_code 2 "PlanText$Hours" 0 0 S0 (Option.some Jvm.ClassFile.FieldType.boolean))  (t0 : Int32) (S : gS) (hden : B_Hr_has_26  t0 S = some (r, S')) {ls : Array Slot} (hl : lv_has ls 2 []) : gV D cT H0 p l e (gRm 0 0 S0) s m args below meth c (gQ D cT H0 below S0 S' (.inr (some (.int r))) s) S0 S (F0 m 26 ls [.int t0]) := by
  obtain ⟨X, hZ, hex, hr, hE⟩ := id Y
  have hx := X.1
  have hb := X.2.1
  unfold B_Hr_has_26 at hden
  replace hden := gb hden
  obtain ⟨v1, hz, hden⟩ := hden
  obtain ⟨rfl, hz2, -⟩ := gZo_spec hz
  obtain ⟨rfl, rfl⟩ := gpi hden
  exact g_zret X hr hz2 d_Hr_has_26
def B_Hr_has_25   (S : gS) : Option (Int32 × gS) := B_Hr_has_26  0 S
set_option maxRecDepth 100000 in
set_option maxHeartbeats 4000000 in
theorem w_Hr_has_25 {D : va_G} {cT : Nat → ClassId} {H0 : Heap} {l : Launch} {p : Program} {e : Env} {s : State} {m : MethodId} {args : Array Value} {below : List Frame} {meth : Method} {c : Code} {S0 : gS} {S' : gS} {r : Int32} (Y : gY D cT H0 p s m args meth c prog_3_method_2_code 2 "PlanText$Hours" 0 0 S0 (Option.some Jvm.ClassFile.FieldType.boolean))   (S : gS) (hden : B_Hr_has_25   S = some (r, S')) {ls : Array Slot} (hl : lv_has ls 2 []) : gV D cT H0 p l e (gRm 0 0 S0) s m args below meth c (gQ D cT H0 below S0 S' (.inr (some (.int r))) s) S0 S (F0 m 25 ls []) := by
  obtain ⟨X, hZ, hex, hr, hE⟩ := id Y
  have hx := X.1
  have hb := X.2.1
  unfold B_Hr_has_25 at hden
  refine gV.lift (fun _ _ _ _ => lv_iconst (v := 0) hx hb d_Hr_has_25 (by decide)) ?_
  exact w_Hr_has_26 Y  0 S hden (lv_sub hl [] rfl)
def D_Hr_has (h0 : Nat) (p0 : Int32) (S : gS) : Option (Int32 × gS) := (if p0 < 0 then B_Hr_has_25  S else (if 23 < p0 then B_Hr_has_25  S else Option.bind (gI S h0 2 3) (fun v3 => (if ((v3 >>> (p0 &&& 31)) &&& 1) = 0 then B_Hr_has_25  S else B_Hr_has_26  1 S))))
set_option maxRecDepth 100000 in
set_option maxHeartbeats 4000000 in
theorem c_Hr_has {D : va_G} {cT : Nat → ClassId} {H0 : Heap} {l : Launch} {S : gS} {S' : gS} {h0 : Nat} {p0 : Int32} {r : Int32} (hden : D_Hr_has h0 p0 S = some (r, S')) : gM D cT H0 l y_Hr_has (Cond.code y_Hr_has prog_3_method_2_code 2 (Option.some Jvm.ClassFile.FieldType.boolean)) 0 0 [va_rf (some h0), .int p0] S S' (.inr (some (.int r))) := by
  refine gM.ofV (by decide) ?_
  intro p e s m args below meth c s₁ B hml ea X hZ hex hr hE
  subst ea
  have Y : gY D cT H0 p s m _ meth c prog_3_method_2_code 2 "PlanText$Hours" 0 0 S (Option.some Jvm.ClassFile.FieldType.boolean) := ⟨X, hZ, hex, hr, hE⟩
  have hx := X.1
  have hb := X.2.1
  have hl := lv_entry ([va_rf (some h0), .int p0]) (n := 2) (Nat.le_of_ble_eq_true rfl)
  rw [lg_entry_eq]
  generalize (lg_sl ([va_rf (some h0), .int p0]) ++ List.replicate (2 - (lg_sl ([va_rf (some h0), .int p0])).length) Slot.unset).toArray = ls at hl ⊢
  have hl : lv_has ls 2 [(0, va_rf (some h0)), (1, .int p0)] := hl
  unfold D_Hr_has at hden
  refine gV.lift (fun _ _ _ _ => lv_iload_n hx hb d_Hr_has_0 rfl (lv_at hl 1 rfl)) ?_
  refine gV.lift2 (fun _ _ _ _ => lv_if_lt (tgt := 25) hx hb d_Hr_has_1 (by decide)) (fun hc1 => ?_) (fun hc1 => ?_)
  · replace hden := gip hc1 hden
    exact w_Hr_has_25 Y  S hden (lv_sub hl [] rfl)
  · replace hden := gin hc1 hden
    refine gV.lift (fun _ _ _ _ => lv_iload_n hx hb d_Hr_has_4 rfl (lv_at hl 1 rfl)) ?_
    refine gV.lift (fun _ _ _ _ => lv_bipush (v := 23) hx hb d_Hr_has_5 (by decide)) ?_
    refine gV.lift2 (fun _ _ _ _ => lv_icmp_gt (tgt := 25) hx hb d_Hr_has_7 (by decide)) (fun hc2 => ?_) (fun hc2 => ?_)
    · replace hden := gip hc2 hden
      exact w_Hr_has_25 Y  S hden (lv_sub hl [] rfl)
    · replace hden := gin hc2 hden
      refine gV.lift (fun _ _ _ _ => g_aload_n hx hb d_Hr_has_10 rfl (lv_at hl 0 rfl)) ?_
      replace hden := gb hden
      obtain ⟨v3, hv, hden⟩ := hden
      refine r_getI X cl_Hr (k := 3) hv (by decide) q_353 d_Hr_has_11 ?_
      refine gV.lift (fun _ _ _ _ => lv_iload_n hx hb d_Hr_has_14 rfl (lv_at hl 1 rfl)) ?_
      refine gV.lift (fun _ _ _ _ => lv_ishr hx hb d_Hr_has_15) ?_
      refine gV.lift (fun _ _ _ _ => lv_iconst (v := 1) hx hb d_Hr_has_16 (by decide)) ?_
      refine gV.lift (fun _ _ _ _ => lv_iand hx hb d_Hr_has_17) ?_
      refine gV.lift2 (fun _ _ _ _ => lv_if_eq (tgt := 25) hx hb d_Hr_has_18 (by decide)) (fun hc4 => ?_) (fun hc4 => ?_)
      · replace hden := gip hc4 hden
        exact w_Hr_has_25 Y  S hden (lv_sub hl [] rfl)
      · replace hden := gin hc4 hden
        refine gV.lift (fun _ _ _ _ => lv_iconst (v := 1) hx hb d_Hr_has_21 (by decide)) ?_
        refine gV.lift (fun _ _ _ _ => lv_goto (tgt := 26) hx hb d_Hr_has_22 (by decide)) ?_
        exact w_Hr_has_26 Y  1 S hden (lv_sub hl [] rfl)
