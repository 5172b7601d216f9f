/-! PlanTextLaw.sign(LPlanText;JI[J)I -/
abbrev y_La_sign : MethodName := ⟨"PlanTextLaw", "sign", "(LPlanText;JI[J)I"⟩
theorem d_La_sign_0 : decode method_3_code 0 = .ok (.aload 4, 2) := by decide +kernel
theorem d_La_sign_2 : decode method_3_code 2 = .ok (.iconst 0, 1) := by decide +kernel
theorem d_La_sign_3 : decode method_3_code 3 = .ok (.aload_n 0, 1) := by decide +kernel
theorem d_La_sign_4 : decode method_3_code 4 = .ok (.lload_n 1, 1) := by decide +kernel
theorem d_La_sign_5 : decode method_3_code 5 = .ok (.iload_n 3, 1) := by decide +kernel
theorem d_La_sign_6 : decode method_3_code 6 = .ok (.invokevirtual 7, 3) := by decide +kernel
theorem d_La_sign_9 : decode method_3_code 9 = .ok (.i2l, 1) := by decide +kernel
theorem d_La_sign_10 : decode method_3_code 10 = .ok (.lastore, 1) := by decide +kernel
theorem d_La_sign_11 : decode method_3_code 11 = .ok (.goto 11, 3) := by decide +kernel
theorem d_La_sign_14 : decode method_3_code 14 = .ok (.astore 5, 2) := by decide +kernel
theorem d_La_sign_16 : decode method_3_code 16 = .ok (.iconst 1, 1) := by decide +kernel
theorem d_La_sign_17 : decode method_3_code 17 = .ok (.ireturn, 1) := by decide +kernel
theorem d_La_sign_18 : decode method_3_code 18 = .ok (.astore 5, 2) := by decide +kernel
theorem d_La_sign_20 : decode method_3_code 20 = .ok (.iconst 2, 1) := by decide +kernel
theorem d_La_sign_21 : decode method_3_code 21 = .ok (.ireturn, 1) := by decide +kernel
theorem d_La_sign_22 : decode method_3_code 22 = .ok (.iconst 0, 1) := by decide +kernel
theorem d_La_sign_23 : decode method_3_code 23 = .ok (.ireturn, 1) := by decide +kernel
def D_La_sign (p0 : Option Nat) (p1 : Int64) (p2 : Int32) (p3 : Option Nat) (S : gS) : Option (Int32 × gS) := Option.bind p0 (fun a1 => Option.bind (gOb S a1 0) (fun fs2 => gCat (D_PT_sign a1 p1 p2 S) (fun E3 S6 => (if E3 = "java/lang/IndexOutOfBoundsException" then some (1, S6) else (if E3 = "java/lang/UnsupportedOperationException" then some (2, S6) else none))) (fun v4 S5 => Option.bind p3 (fun a11 => Option.bind (gSL S5 a11 1 0 v4.toInt64) (fun S12 => some (0, S12))))))
set_option maxRecDepth 100000 in
set_option maxHeartbeats 4000000 in
theorem c_La_sign {D : va_G} {cT : Nat → ClassId} {H0 : Heap} {l : Launch} {S : gS} {S' : gS} {p0 : Option Nat} {p1 : Int64} {p2 : Int32} {p3 : Option Nat} {r : Int32} (hst : l.stackTraces = false) (hden : D_La_sign p0 p1 p2 p3 S = some (r, S')) : gM D cT H0 l y_La_sign (Cond.codeWith y_La_sign method_3_code 6 (Option.some Jvm.ClassFile.FieldType.int) [(0, 11, 14, 13), (0, 11, 18, 15)]) 7 114 [va_rf p0, .long p1, .int p2, va_rf p3] S S' (.inr (some (.int r))) := by
  refine gM.ofVW (by decide) ?_
  intro p e s m args below meth c s₁ B hml ea X hZ hex hr hE
  subst ea
  have Y : gYW D cT H0 p s m _ meth c method_3_code 6 "PlanTextLaw" 7 114 S (Option.some Jvm.ClassFile.FieldType.int) [(0, 11, 14, 13), (0, 11, 18, 15)] := ⟨X, hZ, hex, hr, hE⟩
  have hx := X.1
  have hb := X.2.1
  have hl := lv_entry ([va_rf p0, .long p1, .int p2, va_rf p3]) (n := 6) (by cases p0 <;> cases p3 <;> exact Nat.le_of_ble_eq_true rfl)
  rw [lg_entry_eq]
  generalize (lg_sl ([va_rf p0, .long p1, .int p2, va_rf p3]) ++ List.replicate (6 - (lg_sl ([va_rf p0, .long p1, .int p2, va_rf p3])).length) Slot.unset).toArray = ls at hl ⊢
  have hl : lv_has ls 6 [(0, va_rf p0), (1, .long p1), (3, .int p2), (4, va_rf p3)] := by cases p0 <;> cases p3 <;> exact hl
  unfold D_La_sign at hden
  refine gV.lift (fun _ _ _ _ => g_aload hx hb d_La_sign_0 (lv_at hl 3 rfl)) ?_
  refine gV.lift (fun _ _ _ _ => lv_iconst (v := 0) hx hb d_La_sign_2 (by decide)) ?_
  refine gV.lift (fun _ _ _ _ => g_aload_n hx hb d_La_sign_3 rfl (lv_at hl 0 rfl)) ?_
  refine gV.lift (fun _ _ _ _ => lv_lload_n hx hb d_La_sign_4 rfl (lv_at hl 1 rfl)) ?_
  refine gV.lift (fun _ _ _ _ => lv_iload_n hx hb d_La_sign_5 rfl (lv_at hl 2 rfl)) ?_
  replace hden := gb hden
  obtain ⟨a1, rfl, hden⟩ := hden
  replace hden := gb hden
  obtain ⟨fs2, ho, hden⟩ := hden
  replace hden := gcy hden
  rcases hden with ⟨E3, S6, hz, hden⟩ | ⟨v4, S5, hz, hden⟩
  ·
    by_cases hc8 : E3 = "java/lang/IndexOutOfBoundsException"
    · replace hden := gip hc8 hden
      subst hc8
      refine g_catchV (As := [.long p1, .int p2]) (rest := [.int 0, va_rf p3]) X hZ hex (c_PT_sign hst hz) cl_PT (gOb_spec ho) q_144 q_1 q_141 q_142 q_143 ⟨by decide, by decide, by show _ = some 2; decide +kernel⟩ ⟨by decide, by decide⟩ hl.1 (by cases p3 <;> exact Nat.le_of_ble_eq_true rfl) d_La_sign_6 [] ⟨0, 11, 14, 13⟩ [⟨0, 11, 18, 15⟩] rfl (fun z hz9 => by simp at hz9) (by decide) (by decide) q_139 (by decide) rfl (fun q7 => ?_)
      refine gV.liftS (nL := 6) (lv' := [(5, va_rf (some q7)), (0, va_rf (some a1)), (1, .long p1), (3, .int p2), (4, va_rf p3)]) (fun _ _ _ _ => g_astore hx hb d_La_sign_14 hl (by decide) (by cases p3 <;> rfl)) (fun ls hl => ?_)
      refine gV.lift (fun _ _ _ _ => lv_iconst (v := 1) hx hb d_La_sign_16 (by decide)) ?_
      obtain ⟨rfl, rfl⟩ := gpi hden
      exact g_iret X hr d_La_sign_17
    replace hden := gin hc8 hden
    by_cases hc10 : E3 = "java/lang/UnsupportedOperationException"
    · replace hden := gip hc10 hden
      subst hc10
      refine g_catchV (As := [.long p1, .int p2]) (rest := [.int 0, va_rf p3]) X hZ hex (c_PT_sign hst hz) cl_PT (gOb_spec ho) q_144 q_1 q_141 q_142 q_143 ⟨by decide, by decide, by show _ = some 2; decide +kernel⟩ ⟨by decide, by decide⟩ hl.1 (by cases p3 <;> exact Nat.le_of_ble_eq_true rfl) d_La_sign_6 [⟨0, 11, 14, 13⟩] ⟨0, 11, 18, 15⟩ [] rfl (fun z hz9 => by
      simp only [List.mem_cons, List.not_mem_nil, or_false] at hz9
      rcases hz9 with rfl
      · exact ⟨by decide, "java/lang/IndexOutOfBoundsException", q_139, by decide⟩) (by decide) (by decide) q_140 (by decide) rfl (fun q9 => ?_)
      refine gV.liftS (nL := 6) (lv' := [(5, va_rf (some q9)), (0, va_rf (some a1)), (1, .long p1), (3, .int p2), (4, va_rf p3)]) (fun _ _ _ _ => g_astore hx hb d_La_sign_18 hl (by decide) (by cases p3 <;> rfl)) (fun ls hl => ?_)
      refine gV.lift (fun _ _ _ _ => lv_iconst (v := 2) hx hb d_La_sign_20 (by decide)) ?_
      obtain ⟨rfl, rfl⟩ := gpi hden
      exact g_iret X hr d_La_sign_21
    replace hden := gin hc10 hden
    cases hden
  refine g_callV (As := [.long p1, .int p2]) (rest := [.int 0, va_rf p3]) X hZ (c_PT_sign hst hz) cl_PT (gOb_spec ho) q_144 q_1 q_141 q_142 q_143 ⟨by decide, by decide, by show _ = some 2; decide +kernel⟩ ⟨by decide, by decide⟩ hl.1 (by cases p3 <;> exact Nat.le_of_ble_eq_true rfl) d_La_sign_6 rfl rfl ?_
  refine gV.lift (fun _ _ _ _ => lv_i2l (v := v4.toInt64) hx hb d_La_sign_9 rfl) ?_
  replace hden := gb hden
  obtain ⟨a11, rfl, hden⟩ := hden
  replace hden := gb hden
  obtain ⟨S12, hv, hden⟩ := hden
  refine r_last X (t := 1) rfl hv d_La_sign_10 ?_
  refine gV.lift (fun _ _ _ _ => lv_goto (tgt := 22) hx hb d_La_sign_11 (by decide)) ?_
  refine gV.lift (fun _ _ _ _ => lv_iconst (v := 0) hx hb d_La_sign_22 (by decide)) ?_
  obtain ⟨rfl, rfl⟩ := gpi hden
  exact g_iret X hr d_La_sign_23
/-! PlanTextLaw.read(LPlanText;I[J)I -/
abbrev y_La_read : MethodName := ⟨"PlanTextLaw", "read", "(LPlanText;I[J)I"⟩
theorem d_La_read_0 : decode method_4_code 0 = .ok (.aload_n 2, 1) := by decide +kernel
theorem d_La_read_1 : decode method_4_code 1 = .ok (.iconst 0, 1) := by decide +kernel
theorem d_La_read_2 : decode method_4_code 2 = .ok (.aload_n 0, 1) := by decide +kernel
theorem d_La_read_3 : decode method_4_code 3 = .ok (.iload_n 1, 1) := by decide +kernel
theorem d_La_read_4 : decode method_4_code 4 = .ok (.invokevirtual 17, 3) := by decide +kernel
theorem d_La_read_7 : decode method_4_code 7 = .ok (.i2l, 1) := by decide +kernel
theorem d_La_read_8 : decode method_4_code 8 = .ok (.lastore, 1) := by decide +kernel
theorem d_La_read_9 : decode method_4_code 9 = .ok (.goto 12, 3) := by decide +kernel
theorem d_La_read_12 : decode method_4_code 12 = .ok (.astore_n 3, 1) := by decide +kernel
theorem d_La_read_13 : decode method_4_code 13 = .ok (.iconst 1, 1) := by decide +kernel
theorem d_La_read_14 : decode method_4_code 14 = .ok (.ireturn, 1) := by decide +kernel
theorem d_La_read_15 : decode method_4_code 15 = .ok (.astore_n 3, 1) := by decide +kernel
theorem d_La_read_16 : decode method_4_code 16 = .ok (.iconst 2, 1) := by decide +kernel
theorem d_La_read_17 : decode method_4_code 17 = .ok (.ireturn, 1) := by decide +kernel
theorem d_La_read_18 : decode method_4_code 18 = .ok (.astore_n 3, 1) := by decide +kernel
theorem d_La_read_19 : decode method_4_code 19 = .ok (.iconst 3, 1) := by decide +kernel
theorem d_La_read_20 : decode method_4_code 20 = .ok (.ireturn, 1) := by decide +kernel
theorem d_La_read_21 : decode method_4_code 21 = .ok (.iconst 0, 1) := by decide +kernel
theorem d_La_read_22 : decode method_4_code 22 = .ok (.ireturn, 1) := by decide +kernel
def D_La_read (p0 : Option Nat) (p1 : Int32) (p2 : Option Nat) (S : gS) : Option (Int32 × gS) := Option.bind p0 (fun a1 => Option.bind (gOb S a1 0) (fun fs2 => gCat (D_PT_read a1 p1 S) (fun E3 S6 => (if E3 = "java/lang/IndexOutOfBoundsException" then some (1, S6) else (if E3 = "java/lang/IllegalStateException" then some (2, S6) else (if E3 = "java/lang/UnsupportedOperationException" then some (3, S6) else none)))) (fun v4 S5 => Option.bind p2 (fun a13 => Option.bind (gSL S5 a13 1 0 v4.toInt64) (fun S14 => some (0, S14))))))
set_option maxRecDepth 100000 in
set_option maxHeartbeats 4000000 in
theorem c_La_read {D : va_G} {cT : Nat → ClassId} {H0 : Heap} {l : Launch} {S : gS} {S' : gS} {p0 : Option Nat} {p1 : Int32} {p2 : Option Nat} {r : Int32} (hst : l.stackTraces = false) (hden : D_La_read p0 p1 p2 S = some (r, S')) : gM D cT H0 l y_La_read (Cond.codeWith y_La_read method_4_code 4 (Option.some Jvm.ClassFile.FieldType.int) [(0, 9, 12, 13), (0, 9, 15, 21), (0, 9, 18, 15)]) 9 168 [va_rf p0, .int p1, va_rf p2] S S' (.inr (some (.int r))) := by
  refine gM.ofVW (by decide) ?_
  intro p e s m args below meth c s₁ B hml ea X hZ hex hr hE
  subst ea
  have Y : gYW D cT H0 p s m _ meth c method_4_code 4 "PlanTextLaw" 9 168 S (Option.some Jvm.ClassFile.FieldType.int) [(0, 9, 12, 13), (0, 9, 15, 21), (0, 9, 18, 15)] := ⟨X, hZ, hex, hr, hE⟩
  have hx := X.1
  have hb := X.2.1
  have hl := lv_entry ([va_rf p0, .int p1, va_rf p2]) (n := 4) (by cases p0 <;> cases p2 <;> exact Nat.le_of_ble_eq_true rfl)
  rw [lg_entry_eq]
  generalize (lg_sl ([va_rf p0, .int p1, va_rf p2]) ++ List.replicate (4 - (lg_sl ([va_rf p0, .int p1, va_rf p2])).length) Slot.unset).toArray = ls at hl ⊢
  have hl : lv_has ls 4 [(0, va_rf p0), (1, .int p1), (2, va_rf p2)] := by cases p0 <;> cases p2 <;> exact hl
  unfold D_La_read at hden
  refine gV.lift (fun _ _ _ _ => g_aload_n hx hb d_La_read_0 rfl (lv_at hl 2 rfl)) ?_
  refine gV.lift (fun _ _ _ _ => lv_iconst (v := 0) hx hb d_La_read_1 (by decide)) ?_
  refine gV.lift (fun _ _ _ _ => g_aload_n hx hb d_La_read_2 rfl (lv_at hl 0 rfl)) ?_
  refine gV.lift (fun _ _ _ _ => lv_iload_n hx hb d_La_read_3 rfl (lv_at hl 1 rfl)) ?_
  replace hden := gb hden
  obtain ⟨a1, rfl, hden⟩ := hden
  replace hden := gb hden
  obtain ⟨fs2, ho, hden⟩ := hden
  replace hden := gcy hden
  rcases hden with ⟨E3, S6, hz, hden⟩ | ⟨v4, S5, hz, hden⟩
  ·
    by_cases hc8 : E3 = "java/lang/IndexOutOfBoundsException"
    · replace hden := gip hc8 hden
      subst hc8
      refine g_catchV (As := [.int p1]) (rest := [.int 0, va_rf p2]) X hZ hex (c_PT_read hst hz) cl_PT (gOb_spec ho) q_236 q_1 q_233 q_234 q_235 ⟨by decide, by decide, by show _ = some 1; decide +kernel⟩ ⟨by decide, by decide⟩ hl.1 (by cases p2 <;> exact Nat.le_of_ble_eq_true rfl) d_La_read_4 [] ⟨0, 9, 12, 13⟩ [⟨0, 9, 15, 21⟩, ⟨0, 9, 18, 15⟩] rfl (fun z hz9 => by simp at hz9) (by decide) (by decide) q_139 (by decide) rfl (fun q7 => ?_)
      refine gV.liftS (nL := 4) (lv' := [(3, va_rf (some q7)), (0, va_rf (some a1)), (1, .int p1), (2, va_rf p2)]) (fun _ _ _ _ => g_astore_n hx hb d_La_read_12 rfl hl (by decide) (by cases p2 <;> rfl)) (fun ls hl => ?_)
      refine gV.lift (fun _ _ _ _ => lv_iconst (v := 1) hx hb d_La_read_13 (by decide)) ?_
      obtain ⟨rfl, rfl⟩ := gpi hden
      exact g_iret X hr d_La_read_14
    replace hden := gin hc8 hden
    by_cases hc10 : E3 = "java/lang/IllegalStateException"
    · replace hden := gip hc10 hden
      subst hc10
      refine g_catchV (As := [.int p1]) (rest := [.int 0, va_rf p2]) X hZ hex (c_PT_read hst hz) cl_PT (gOb_spec ho) q_236 q_1 q_233 q_234 q_235 ⟨by decide, by decide, by show _ = some 1; decide +kernel⟩ ⟨by decide, by decide⟩ hl.1 (by cases p2 <;> exact Nat.le_of_ble_eq_true rfl) d_La_read_4 [⟨0, 9, 12, 13⟩] ⟨0, 9, 15, 21⟩ [⟨0, 9, 18, 15⟩] rfl (fun z hz9 => by
      simp only [List.mem_cons, List.not_mem_nil, or_false] at hz9
      rcases hz9 with rfl
      · exact ⟨by decide, "java/lang/IndexOutOfBoundsException", q_139, by decide⟩) (by decide) (by decide) q_232 (by decide) rfl (fun q9 => ?_)
      refine gV.liftS (nL := 4) (lv' := [(3, va_rf (some q9)), (0, va_rf (some a1)), (1, .int p1), (2, va_rf p2)]) (fun _ _ _ _ => g_astore_n hx hb d_La_read_15 rfl hl (by decide) (by cases p2 <;> rfl)) (fun ls hl => ?_)
      refine gV.lift (fun _ _ _ _ => lv_iconst (v := 2) hx hb d_La_read_16 (by decide)) ?_
      obtain ⟨rfl, rfl⟩ := gpi hden
      exact g_iret X hr d_La_read_17
    replace hden := gin hc10 hden
    by_cases hc12 : E3 = "java/lang/UnsupportedOperationException"
    · replace hden := gip hc12 hden
      subst hc12
      refine g_catchV (As := [.int p1]) (rest := [.int 0, va_rf p2]) X hZ hex (c_PT_read hst hz) cl_PT (gOb_spec ho) q_236 q_1 q_233 q_234 q_235 ⟨by decide, by decide, by show _ = some 1; decide +kernel⟩ ⟨by decide, by decide⟩ hl.1 (by cases p2 <;> exact Nat.le_of_ble_eq_true rfl) d_La_read_4 [⟨0, 9, 12, 13⟩, ⟨0, 9, 15, 21⟩] ⟨0, 9, 18, 15⟩ [] rfl (fun z hz9 => by
      simp only [List.mem_cons, List.not_mem_nil, or_false] at hz9
      rcases hz9 with rfl | rfl
      · exact ⟨by decide, "java/lang/IndexOutOfBoundsException", q_139, by decide⟩
      · exact ⟨by decide, "java/lang/IllegalStateException", q_232, by decide⟩) (by decide) (by decide) q_140 (by decide) rfl (fun q11 => ?_)
      refine gV.liftS (nL := 4) (lv' := [(3, va_rf (some q11)), (0, va_rf (some a1)), (1, .int p1), (2, va_rf p2)]) (fun _ _ _ _ => g_astore_n hx hb d_La_read_18 rfl hl (by decide) (by cases p2 <;> rfl)) (fun ls hl => ?_)
      refine gV.lift (fun _ _ _ _ => lv_iconst (v := 3) hx hb d_La_read_19 (by decide)) ?_
      obtain ⟨rfl, rfl⟩ := gpi hden
      exact g_iret X hr d_La_read_20
    replace hden := gin hc12 hden
    cases hden
  refine g_callV (As := [.int p1]) (rest := [.int 0, va_rf p2]) X hZ (c_PT_read hst hz) cl_PT (gOb_spec ho) q_236 q_1 q_233 q_234 q_235 ⟨by decide, by decide, by show _ = some 1; decide +kernel⟩ ⟨by decide, by decide⟩ hl.1 (by cases p2 <;> exact Nat.le_of_ble_eq_true rfl) d_La_read_4 rfl rfl ?_
  refine gV.lift (fun _ _ _ _ => lv_i2l (v := v4.toInt64) hx hb d_La_read_7 rfl) ?_
  replace hden := gb hden
  obtain ⟨a13, rfl, hden⟩ := hden
  replace hden := gb hden
  obtain ⟨S14, hv, hden⟩ := hden
  refine r_last X (t := 1) rfl hv d_La_read_8 ?_
  refine gV.lift (fun _ _ _ _ => lv_goto (tgt := 21) hx hb d_La_read_9 (by decide)) ?_
  refine gV.lift (fun _ _ _ _ => lv_iconst (v := 0) hx hb d_La_read_21 (by decide)) ?_
  obtain ⟨rfl, rfl⟩ := gpi hden
  exact g_iret X hr d_La_read_22
/-! PlanTextLaw.town(LPlanText;II)I -/
abbrev y_La_town : MethodName := ⟨"PlanTextLaw", "town", "(LPlanText;II)I"⟩
theorem d_La_town_0 : decode method_5_code 0 = .ok (.aload_n 0, 1) := by decide +kernel
theorem d_La_town_1 : decode method_5_code 1 = .ok (.iload_n 1, 1) := by decide +kernel
theorem d_La_town_2 : decode method_5_code 2 = .ok (.iload_n 2, 1) := by decide +kernel
theorem d_La_town_3 : decode method_5_code 3 = .ok (.invokevirtual 23, 3) := by decide +kernel
theorem d_La_town_6 : decode method_5_code 6 = .ok (.goto 9, 3) := by decide +kernel
theorem d_La_town_9 : decode method_5_code 9 = .ok (.astore_n 3, 1) := by decide +kernel
theorem d_La_town_10 : decode method_5_code 10 = .ok (.iconst 1, 1) := by decide +kernel
theorem d_La_town_11 : decode method_5_code 11 = .ok (.ireturn, 1) := by decide +kernel
theorem d_La_town_12 : decode method_5_code 12 = .ok (.astore_n 3, 1) := by decide +kernel
theorem d_La_town_13 : decode method_5_code 13 = .ok (.iconst 2, 1) := by decide +kernel
theorem d_La_town_14 : decode method_5_code 14 = .ok (.ireturn, 1) := by decide +kernel
theorem d_La_town_15 : decode method_5_code 15 = .ok (.iconst 0, 1) := by decide +kernel
theorem d_La_town_16 : decode method_5_code 16 = .ok (.ireturn, 1) := by decide +kernel
def D_La_town (p0 : Option Nat) (p1 : Int32) (p2 : Int32) (S : gS) : Option (Int32 × gS) := Option.bind p0 (fun a1 => Option.bind (gOb S a1 0) (fun fs2 => gCat (D_PT_town a1 p1 p2 S) (fun E3 S6 => (if E3 = "java/lang/IllegalArgumentException" then some (1, S6) else (if E3 = "java/lang/IndexOutOfBoundsException" then some (2, S6) else none))) (fun v4 S5 => some (0, S5))))
set_option maxRecDepth 100000 in
set_option maxHeartbeats 4000000 in
theorem c_La_town {D : va_G} {cT : Nat → ClassId} {H0 : Heap} {l : Launch} {S : gS} {S' : gS} {p0 : Option Nat} {p1 : Int32} {p2 : Int32} {r : Int32} (hst : l.stackTraces = false) (hden : D_La_town p0 p1 p2 S = some (r, S')) : gM D cT H0 l y_La_town (Cond.codeWith y_La_town method_5_code 4 (Option.some Jvm.ClassFile.FieldType.int) [(0, 6, 9, 27), (0, 6, 12, 13)]) 8 134 [va_rf p0, .int p1, .int p2] S S' (.inr (some (.int r))) := by
  refine gM.ofVW (by decide) ?_
  intro p e s m args below meth c s₁ B hml ea X hZ hex hr hE
  subst ea
  have Y : gYW D cT H0 p s m _ meth c method_5_code 4 "PlanTextLaw" 8 134 S (Option.some Jvm.ClassFile.FieldType.int) [(0, 6, 9, 27), (0, 6, 12, 13)] := ⟨X, hZ, hex, hr, hE⟩
  have hx := X.1
  have hb := X.2.1
  have hl := lv_entry ([va_rf p0, .int p1, .int p2]) (n := 4) (by cases p0 <;> exact Nat.le_of_ble_eq_true rfl)
  rw [lg_entry_eq]
  generalize (lg_sl ([va_rf p0, .int p1, .int p2]) ++ List.replicate (4 - (lg_sl ([va_rf p0, .int p1, .int p2])).length) Slot.unset).toArray = ls at hl ⊢
  have hl : lv_has ls 4 [(0, va_rf p0), (1, .int p1), (2, .int p2)] := by cases p0 <;> exact hl
  unfold D_La_town at hden
  refine gV.lift (fun _ _ _ _ => g_aload_n hx hb d_La_town_0 rfl (lv_at hl 0 rfl)) ?_
  refine gV.lift (fun _ _ _ _ => lv_iload_n hx hb d_La_town_1 rfl (lv_at hl 1 rfl)) ?_
  refine gV.lift (fun _ _ _ _ => lv_iload_n hx hb d_La_town_2 rfl (lv_at hl 2 rfl)) ?_
  replace hden := gb hden
  obtain ⟨a1, rfl, hden⟩ := hden
  replace hden := gb hden
  obtain ⟨fs2, ho, hden⟩ := hden
  replace hden := gcy hden
  rcases hden with ⟨E3, S6, hz, hden⟩ | ⟨v4, S5, hz, hden⟩
  ·
    by_cases hc8 : E3 = "java/lang/IllegalArgumentException"
    · replace hden := gip hc8 hden
      subst hc8
      refine g_catchV (As := [.int p1, .int p2]) (rest := []) X hZ hex (c_PT_town hst hz) cl_PT (gOb_spec ho) q_529 q_1 q_526 q_527 q_528 ⟨by decide, by decide, by show _ = some 2; decide +kernel⟩ ⟨by decide, by decide⟩ hl.1 (Nat.le_of_ble_eq_true rfl) d_La_town_3 [] ⟨0, 6, 9, 27⟩ [⟨0, 6, 12, 13⟩] rfl (fun z hz9 => by simp at hz9) (by decide) (by decide) q_525 (by decide) rfl (fun q7 => ?_)
      refine gV.liftS (nL := 4) (lv' := [(3, va_rf (some q7)), (0, va_rf (some a1)), (1, .int p1), (2, .int p2)]) (fun _ _ _ _ => g_astore_n hx hb d_La_town_9 rfl hl (by decide) rfl) (fun ls hl => ?_)
      refine gV.lift (fun _ _ _ _ => lv_iconst (v := 1) hx hb d_La_town_10 (by decide)) ?_
      obtain ⟨rfl, rfl⟩ := gpi hden
      exact g_iret X hr d_La_town_11
    replace hden := gin hc8 hden
    by_cases hc10 : E3 = "java/lang/IndexOutOfBoundsException"
    · replace hden := gip hc10 hden
      subst hc10
      refine g_catchV (As := [.int p1, .int p2]) (rest := []) X hZ hex (c_PT_town hst hz) cl_PT (gOb_spec ho) q_529 q_1 q_526 q_527 q_528 ⟨by decide, by decide, by show _ = some 2; decide +kernel⟩ ⟨by decide, by decide⟩ hl.1 (Nat.le_of_ble_eq_true rfl) d_La_town_3 [⟨0, 6, 9, 27⟩] ⟨0, 6, 12, 13⟩ [] rfl (fun z hz9 => by
      simp only [List.mem_cons, List.not_mem_nil, or_false] at hz9
      rcases hz9 with rfl
      · exact ⟨by decide, "java/lang/IllegalArgumentException", q_525, by decide⟩) (by decide) (by decide) q_139 (by decide) rfl (fun q9 => ?_)
      refine gV.liftS (nL := 4) (lv' := [(3, va_rf (some q9)), (0, va_rf (some a1)), (1, .int p1), (2, .int p2)]) (fun _ _ _ _ => g_astore_n hx hb d_La_town_12 rfl hl (by decide) rfl) (fun ls hl => ?_)
      refine gV.lift (fun _ _ _ _ => lv_iconst (v := 2) hx hb d_La_town_13 (by decide)) ?_
      obtain ⟨rfl, rfl⟩ := gpi hden
      exact g_iret X hr d_La_town_14
    replace hden := gin hc10 hden
    cases hden
  refine g_callV (As := [.int p1, .int p2]) (rest := []) X hZ (c_PT_town hst hz) cl_PT (gOb_spec ho) q_529 q_1 q_526 q_527 q_528 ⟨by decide, by decide, by show _ = some 2; decide +kernel⟩ ⟨by decide, by decide⟩ hl.1 (Nat.le_of_ble_eq_true rfl) d_La_town_3 rfl rfl ?_
  refine gV.lift (fun _ _ _ _ => lv_goto (tgt := 15) hx hb d_La_town_6 (by decide)) ?_
  refine gV.lift (fun _ _ _ _ => lv_iconst (v := 0) hx hb d_La_town_15 (by decide)) ?_
  obtain ⟨rfl, rfl⟩ := gpi hden
  exact g_iret X hr d_La_town_16
/-! PlanTextLaw.plan(LPlanText;IIIII[J)I -/
abbrev y_La_plan : MethodName := ⟨"PlanTextLaw", "plan", "(LPlanText;IIIII[J)I"⟩
theorem d_La_plan_0 : decode method_6_code 0 = .ok (.aload 6, 2) := by decide +kernel
theorem d_La_plan_2 : decode method_6_code 2 = .ok (.iconst 0, 1) := by decide +kernel
theorem d_La_plan_3 : decode method_6_code 3 = .ok (.aload_n 0, 1) := by decide +kernel
theorem d_La_plan_4 : decode method_6_code 4 = .ok (.iload_n 1, 1) := by decide +kernel
theorem d_La_plan_5 : decode method_6_code 5 = .ok (.iload_n 2, 1) := by decide +kernel
theorem d_La_plan_6 : decode method_6_code 6 = .ok (.iload_n 3, 1) := by decide +kernel
theorem d_La_plan_7 : decode method_6_code 7 = .ok (.iload 4, 2) := by decide +kernel
theorem d_La_plan_9 : decode method_6_code 9 = .ok (.iload 5, 2) := by decide +kernel
theorem d_La_plan_11 : decode method_6_code 11 = .ok (.invokevirtual 29, 3) := by decide +kernel
theorem d_La_plan_14 : decode method_6_code 14 = .ok (.i2l, 1) := by decide +kernel
theorem d_La_plan_15 : decode method_6_code 15 = .ok (.lastore, 1) := by decide +kernel
theorem d_La_plan_16 : decode method_6_code 16 = .ok (.goto 11, 3) := by decide +kernel
theorem d_La_plan_19 : decode method_6_code 19 = .ok (.astore 7, 2) := by decide +kernel
theorem d_La_plan_21 : decode method_6_code 21 = .ok (.iconst 1, 1) := by decide +kernel
theorem d_La_plan_22 : decode method_6_code 22 = .ok (.ireturn, 1) := by decide +kernel
theorem d_La_plan_23 : decode method_6_code 23 = .ok (.astore 7, 2) := by decide +kernel
theorem d_La_plan_25 : decode method_6_code 25 = .ok (.iconst 2, 1) := by decide +kernel
theorem d_La_plan_26 : decode method_6_code 26 = .ok (.ireturn, 1) := by decide +kernel
theorem d_La_plan_27 : decode method_6_code 27 = .ok (.iconst 0, 1) := by decide +kernel
theorem d_La_plan_28 : decode method_6_code 28 = .ok (.ireturn, 1) := by decide +kernel
def D_La_plan (p0 : Option Nat) (p1 : Int32) (p2 : Int32) (p3 : Int32) (p4 : Int32) (p5 : Int32) (p6 : Option Nat) (S : gS) : Option (Int32 × gS) := Option.bind p0 (fun a1 => Option.bind (gOb S a1 0) (fun fs2 => gCat (D_PT_plan a1 p1 p2 p3 p4 p5 S) (fun E3 S6 => (if E3 = "java/lang/IllegalArgumentException" then some (1, S6) else (if E3 = "java/lang/IndexOutOfBoundsException" then some (2, S6) else none))) (fun v4 S5 => Option.bind p6 (fun a11 => Option.bind (gSL S5 a11 1 0 v4.toInt64) (fun S12 => some (0, S12))))))
set_option maxRecDepth 100000 in
set_option maxHeartbeats 4000000 in
theorem c_La_plan {D : va_G} {cT : Nat → ClassId} {H0 : Heap} {l : Launch} {S : gS} {S' : gS} {p0 : Option Nat} {p1 : Int32} {p2 : Int32} {p3 : Int32} {p4 : Int32} {p5 : Int32} {p6 : Option Nat} {r : Int32} (hst : l.stackTraces = false) (hden : D_La_plan p0 p1 p2 p3 p4 p5 p6 S = some (r, S')) : gM D cT H0 l y_La_plan (Cond.codeWith y_La_plan method_6_code 8 (Option.some Jvm.ClassFile.FieldType.int) [(0, 16, 19, 27), (0, 16, 23, 13)]) 9 160 [va_rf p0, .int p1, .int p2, .int p3, .int p4, .int p5, va_rf p6] S S' (.inr (some (.int r))) := by
  refine gM.ofVW (by decide) ?_
  intro p e s m args below meth c s₁ B hml ea X hZ hex hr hE
  subst ea
  have Y : gYW D cT H0 p s m _ meth c method_6_code 8 "PlanTextLaw" 9 160 S (Option.some Jvm.ClassFile.FieldType.int) [(0, 16, 19, 27), (0, 16, 23, 13)] := ⟨X, hZ, hex, hr, hE⟩
  have hx := X.1
  have hb := X.2.1
  have hl := lv_entry ([va_rf p0, .int p1, .int p2, .int p3, .int p4, .int p5, va_rf p6]) (n := 8) (by cases p0 <;> cases p6 <;> exact Nat.le_of_ble_eq_true rfl)
  rw [lg_entry_eq]
  generalize (lg_sl ([va_rf p0, .int p1, .int p2, .int p3, .int p4, .int p5, va_rf p6]) ++ List.replicate (8 - (lg_sl ([va_rf p0, .int p1, .int p2, .int p3, .int p4, .int p5, va_rf p6])).length) Slot.unset).toArray = ls at hl ⊢
  have hl : lv_has ls 8 [(0, va_rf p0), (1, .int p1), (2, .int p2), (3, .int p3), (4, .int p4), (5, .int p5), (6, va_rf p6)] := by cases p0 <;> cases p6 <;> exact hl
  unfold D_La_plan at hden
  refine gV.lift (fun _ _ _ _ => g_aload hx hb d_La_plan_0 (lv_at hl 6 rfl)) ?_
  refine gV.lift (fun _ _ _ _ => lv_iconst (v := 0) hx hb d_La_plan_2 (by decide)) ?_
  refine gV.lift (fun _ _ _ _ => g_aload_n hx hb d_La_plan_3 rfl (lv_at hl 0 rfl)) ?_
  refine gV.lift (fun _ _ _ _ => lv_iload_n hx hb d_La_plan_4 rfl (lv_at hl 1 rfl)) ?_
  refine gV.lift (fun _ _ _ _ => lv_iload_n hx hb d_La_plan_5 rfl (lv_at hl 2 rfl)) ?_
  refine gV.lift (fun _ _ _ _ => lv_iload_n hx hb d_La_plan_6 rfl (lv_at hl 3 rfl)) ?_
  refine gV.lift (fun _ _ _ _ => lv_iload hx hb d_La_plan_7 (lv_at hl 4 rfl)) ?_
  refine gV.lift (fun _ _ _ _ => lv_iload hx hb d_La_plan_9 (lv_at hl 5 rfl)) ?_
  replace hden := gb hden
  obtain ⟨a1, rfl, hden⟩ := hden
  replace hden := gb hden
  obtain ⟨fs2, ho, hden⟩ := hden
  replace hden := gcy hden
  rcases hden with ⟨E3, S6, hz, hden⟩ | ⟨v4, S5, hz, hden⟩
  ·
    by_cases hc8 : E3 = "java/lang/IllegalArgumentException"
    · replace hden := gip hc8 hden
      subst hc8
      refine g_catchV (As := [.int p1, .int p2, .int p3, .int p4, .int p5]) (rest := [.int 0, va_rf p6]) X hZ hex (c_PT_plan hst hz) cl_PT (gOb_spec ho) q_555 q_1 q_552 q_553 q_554 ⟨by decide, by decide, by show _ = some 5; decide +kernel⟩ ⟨by decide, by decide⟩ hl.1 (by cases p6 <;> exact Nat.le_of_ble_eq_true rfl) d_La_plan_11 [] ⟨0, 16, 19, 27⟩ [⟨0, 16, 23, 13⟩] rfl (fun z hz9 => by simp at hz9) (by decide) (by decide) q_525 (by decide) rfl (fun q7 => ?_)
      refine gV.liftS (nL := 8) (lv' := [(7, va_rf (some q7)), (0, va_rf (some a1)), (1, .int p1), (2, .int p2), (3, .int p3), (4, .int p4), (5, .int p5), (6, va_rf p6)]) (fun _ _ _ _ => g_astore hx hb d_La_plan_19 hl (by decide) (by cases p6 <;> rfl)) (fun ls hl => ?_)
      refine gV.lift (fun _ _ _ _ => lv_iconst (v := 1) hx hb d_La_plan_21 (by decide)) ?_
      obtain ⟨rfl, rfl⟩ := gpi hden
      exact g_iret X hr d_La_plan_22
    replace hden := gin hc8 hden
    by_cases hc10 : E3 = "java/lang/IndexOutOfBoundsException"
    · replace hden := gip hc10 hden
      subst hc10
      refine g_catchV (As := [.int p1, .int p2, .int p3, .int p4, .int p5]) (rest := [.int 0, va_rf p6]) X hZ hex (c_PT_plan hst hz) cl_PT (gOb_spec ho) q_555 q_1 q_552 q_553 q_554 ⟨by decide, by decide, by show _ = some 5; decide +kernel⟩ ⟨by decide, by decide⟩ hl.1 (by cases p6 <;> exact Nat.le_of_ble_eq_true rfl) d_La_plan_11 [⟨0, 16, 19, 27⟩] ⟨0, 16, 23, 13⟩ [] rfl (fun z hz9 => by
      simp only [List.mem_cons, List.not_mem_nil, or_false] at hz9
      rcases hz9 with rfl
      · exact ⟨by decide, "java/lang/IllegalArgumentException", q_525, by decide⟩) (by decide) (by decide) q_139 (by decide) rfl (fun q9 => ?_)
      refine gV.liftS (nL := 8) (lv' := [(7, va_rf (some q9)), (0, va_rf (some a1)), (1, .int p1), (2, .int p2), (3, .int p3), (4, .int p4), (5, .int p5), (6, va_rf p6)]) (fun _ _ _ _ => g_astore hx hb d_La_plan_23 hl (by decide) (by cases p6 <;> rfl)) (fun ls hl => ?_)
      refine gV.lift (fun _ _ _ _ => lv_iconst (v := 2) hx hb d_La_plan_25 (by decide)) ?_
      obtain ⟨rfl, rfl⟩ := gpi hden
      exact g_iret X hr d_La_plan_26
    replace hden := gin hc10 hden
    cases hden
  refine g_callV (As := [.int p1, .int p2, .int p3, .int p4, .int p5]) (rest := [.int 0, va_rf p6]) X hZ (c_PT_plan hst hz) cl_PT (gOb_spec ho) q_555 q_1 q_552 q_553 q_554 ⟨by decide, by decide, by show _ = some 5; decide +kernel⟩ ⟨by decide, by decide⟩ hl.1 (by cases p6 <;> exact Nat.le_of_ble_eq_true rfl) d_La_plan_11 rfl rfl ?_
  refine gV.lift (fun _ _ _ _ => lv_i2l (v := v4.toInt64) hx hb d_La_plan_14 rfl) ?_
  replace hden := gb hden
  obtain ⟨a11, rfl, hden⟩ := hden
  replace hden := gb hden
  obtain ⟨S12, hv, hden⟩ := hden
  refine r_last X (t := 1) rfl hv d_La_plan_15 ?_
  refine gV.lift (fun _ _ _ _ => lv_goto (tgt := 27) hx hb d_La_plan_16 (by decide)) ?_
  refine gV.lift (fun _ _ _ _ => lv_iconst (v := 0) hx hb d_La_plan_27 (by decide)) ?_
  obtain ⟨rfl, rfl⟩ := gpi hden
  exact g_iret X hr d_La_plan_28
/-! PlanTextLaw.need(LPlanText;II[J)I -/
abbrev y_La_need : MethodName := ⟨"PlanTextLaw", "need", "(LPlanText;II[J)I"⟩
theorem d_La_need_0 : decode method_7_code 0 = .ok (.aload_n 3, 1) := by decide +kernel
theorem d_La_need_1 : decode method_7_code 1 = .ok (.iconst 0, 1) := by decide +kernel
theorem d_La_need_2 : decode method_7_code 2 = .ok (.aload_n 0, 1) := by decide +kernel
theorem d_La_need_3 : decode method_7_code 3 = .ok (.iload_n 1, 1) := by decide +kernel
theorem d_La_need_4 : decode method_7_code 4 = .ok (.iload_n 2, 1) := by decide +kernel
theorem d_La_need_5 : decode method_7_code 5 = .ok (.invokevirtual 33, 3) := by decide +kernel
theorem d_La_need_8 : decode method_7_code 8 = .ok (.i2l, 1) := by decide +kernel
theorem d_La_need_9 : decode method_7_code 9 = .ok (.lastore, 1) := by decide +kernel
theorem d_La_need_10 : decode method_7_code 10 = .ok (.goto 7, 3) := by decide +kernel
theorem d_La_need_13 : decode method_7_code 13 = .ok (.astore 4, 2) := by decide +kernel
theorem d_La_need_15 : decode method_7_code 15 = .ok (.iconst 1, 1) := by decide +kernel
theorem d_La_need_16 : decode method_7_code 16 = .ok (.ireturn, 1) := by decide +kernel
theorem d_La_need_17 : decode method_7_code 17 = .ok (.iconst 0, 1) := by decide +kernel
theorem d_La_need_18 : decode method_7_code 18 = .ok (.ireturn, 1) := by decide +kernel
def D_La_need (p0 : Option Nat) (p1 : Int32) (p2 : Int32) (p3 : Option Nat) (S : gS) : Option (Int32 × gS) := Option.bind p0 (fun a1 => Option.bind (gOb S a1 0) (fun fs2 => gCat (D_PT_need a1 p1 p2 S) (fun E3 S6 => (if E3 = "java/lang/IllegalArgumentException" then some (1, S6) else none)) (fun v4 S5 => Option.bind p3 (fun a9 => Option.bind (gSL S5 a9 1 0 v4.toInt64) (fun S10 => some (0, S10))))))
set_option maxRecDepth 100000 in
set_option maxHeartbeats 4000000 in
theorem c_La_need {D : va_G} {cT : Nat → ClassId} {H0 : Heap} {l : Launch} {S : gS} {S' : gS} {p0 : Option Nat} {p1 : Int32} {p2 : Int32} {p3 : Option Nat} {r : Int32} (hst : l.stackTraces = false) (hden : D_La_need p0 p1 p2 p3 S = some (r, S')) : gM D cT H0 l y_La_need (Cond.codeWith y_La_need method_7_code 5 (Option.some Jvm.ClassFile.FieldType.int) [(0, 10, 13, 27)]) 7 113 [va_rf p0, .int p1, .int p2, va_rf p3] S S' (.inr (some (.int r))) := by
  refine gM.ofVW (by decide) ?_
  intro p e s m args below meth c s₁ B hml ea X hZ hex hr hE
  subst ea
  have Y : gYW D cT H0 p s m _ meth c method_7_code 5 "PlanTextLaw" 7 113 S (Option.some Jvm.ClassFile.FieldType.int) [(0, 10, 13, 27)] := ⟨X, hZ, hex, hr, hE⟩
  have hx := X.1
  have hb := X.2.1
  have hl := lv_entry ([va_rf p0, .int p1, .int p2, va_rf p3]) (n := 5) (by cases p0 <;> cases p3 <;> exact Nat.le_of_ble_eq_true rfl)
  rw [lg_entry_eq]
  generalize (lg_sl ([va_rf p0, .int p1, .int p2, va_rf p3]) ++ List.replicate (5 - (lg_sl ([va_rf p0, .int p1, .int p2, va_rf p3])).length) Slot.unset).toArray = ls at hl ⊢
  have hl : lv_has ls 5 [(0, va_rf p0), (1, .int p1), (2, .int p2), (3, va_rf p3)] := by cases p0 <;> cases p3 <;> exact hl
  unfold D_La_need at hden
  refine gV.lift (fun _ _ _ _ => g_aload_n hx hb d_La_need_0 rfl (lv_at hl 3 rfl)) ?_
  refine gV.lift (fun _ _ _ _ => lv_iconst (v := 0) hx hb d_La_need_1 (by decide)) ?_
  refine gV.lift (fun _ _ _ _ => g_aload_n hx hb d_La_need_2 rfl (lv_at hl 0 rfl)) ?_
  refine gV.lift (fun _ _ _ _ => lv_iload_n hx hb d_La_need_3 rfl (lv_at hl 1 rfl)) ?_
  refine gV.lift (fun _ _ _ _ => lv_iload_n hx hb d_La_need_4 rfl (lv_at hl 2 rfl)) ?_
  replace hden := gb hden
  obtain ⟨a1, rfl, hden⟩ := hden
  replace hden := gb hden
  obtain ⟨fs2, ho, hden⟩ := hden
  replace hden := gcy hden
  rcases hden with ⟨E3, S6, hz, hden⟩ | ⟨v4, S5, hz, hden⟩
  ·
    by_cases hc8 : E3 = "java/lang/IllegalArgumentException"
    · replace hden := gip hc8 hden
      subst hc8
      refine g_catchV (As := [.int p1, .int p2]) (rest := [.int 0, va_rf p3]) X hZ hex (c_PT_need hst hz) cl_PT (gOb_spec ho) q_593 q_1 q_590 q_591 q_592 ⟨by decide, by decide, by show _ = some 2; decide +kernel⟩ ⟨by decide, by decide⟩ hl.1 (by cases p3 <;> exact Nat.le_of_ble_eq_true rfl) d_La_need_5 [] ⟨0, 10, 13, 27⟩ [] rfl (fun z hz9 => by simp at hz9) (by decide) (by decide) q_525 (by decide) rfl (fun q7 => ?_)
      refine gV.liftS (nL := 5) (lv' := [(4, va_rf (some q7)), (0, va_rf (some a1)), (1, .int p1), (2, .int p2), (3, va_rf p3)]) (fun _ _ _ _ => g_astore hx hb d_La_need_13 hl (by decide) (by cases p3 <;> rfl)) (fun ls hl => ?_)
      refine gV.lift (fun _ _ _ _ => lv_iconst (v := 1) hx hb d_La_need_15 (by decide)) ?_
      obtain ⟨rfl, rfl⟩ := gpi hden
      exact g_iret X hr d_La_need_16
    replace hden := gin hc8 hden
    cases hden
  refine g_callV (As := [.int p1, .int p2]) (rest := [.int 0, va_rf p3]) X hZ (c_PT_need hst hz) cl_PT (gOb_spec ho) q_593 q_1 q_590 q_591 q_592 ⟨by decide, by decide, by show _ = some 2; decide +kernel⟩ ⟨by decide, by decide⟩ hl.1 (by cases p3 <;> exact Nat.le_of_ble_eq_true rfl) d_La_need_5 rfl rfl ?_
  refine gV.lift (fun _ _ _ _ => lv_i2l (v := v4.toInt64) hx hb d_La_need_8 rfl) ?_
  replace hden := gb hden
  obtain ⟨a9, rfl, hden⟩ := hden
  replace hden := gb hden
  obtain ⟨S10, hv, hden⟩ := hden
  refine r_last X (t := 1) rfl hv d_La_need_9 ?_
  refine gV.lift (fun _ _ _ _ => lv_goto (tgt := 17) hx hb d_La_need_10 (by decide)) ?_
  refine gV.lift (fun _ _ _ _ => lv_iconst (v := 0) hx hb d_La_need_17 (by decide)) ?_
  obtain ⟨rfl, rfl⟩ := gpi hden
  exact g_iret X hr d_La_need_18
/-! PlanTextLaw.standby(LPlanText;IIII[J)I -/
abbrev y_La_standby : MethodName := ⟨"PlanTextLaw", "standby", "(LPlanText;IIII[J)I"⟩
theorem d_La_standby_0 : decode method_8_code 0 = .ok (.aload 5, 2) := by decide +kernel
theorem d_La_standby_2 : decode method_8_code 2 = .ok (.iconst 0, 1) := by decide +kernel
theorem d_La_standby_3 : decode method_8_code 3 = .ok (.aload_n 0, 1) := by decide +kernel
theorem d_La_standby_4 : decode method_8_code 4 = .ok (.iload_n 1, 1) := by decide +kernel
theorem d_La_standby_5 : decode method_8_code 5 = .ok (.iload_n 2, 1) := by decide +kernel
theorem d_La_standby_6 : decode method_8_code 6 = .ok (.iload_n 3, 1) := by decide +kernel
theorem d_La_standby_7 : decode method_8_code 7 = .ok (.iload 4, 2) := by decide +kernel
theorem d_La_standby_9 : decode method_8_code 9 = .ok (.invokevirtual 37, 3) := by decide +kernel
theorem d_La_standby_12 : decode method_8_code 12 = .ok (.i2l, 1) := by decide +kernel
theorem d_La_standby_13 : decode method_8_code 13 = .ok (.lastore, 1) := by decide +kernel
theorem d_La_standby_14 : decode method_8_code 14 = .ok (.goto 11, 3) := by decide +kernel
theorem d_La_standby_17 : decode method_8_code 17 = .ok (.astore 6, 2) := by decide +kernel
theorem d_La_standby_19 : decode method_8_code 19 = .ok (.iconst 1, 1) := by decide +kernel
theorem d_La_standby_20 : decode method_8_code 20 = .ok (.ireturn, 1) := by decide +kernel
theorem d_La_standby_21 : decode method_8_code 21 = .ok (.astore 6, 2) := by decide +kernel
theorem d_La_standby_23 : decode method_8_code 23 = .ok (.iconst 2, 1) := by decide +kernel
theorem d_La_standby_24 : decode method_8_code 24 = .ok (.ireturn, 1) := by decide +kernel
theorem d_La_standby_25 : decode method_8_code 25 = .ok (.iconst 0, 1) := by decide +kernel
theorem d_La_standby_26 : decode method_8_code 26 = .ok (.ireturn, 1) := by decide +kernel
def D_La_standby (p0 : Option Nat) (p1 : Int32) (p2 : Int32) (p3 : Int32) (p4 : Int32) (p5 : Option Nat) (S : gS) : Option (Int32 × gS) := Option.bind p0 (fun a1 => Option.bind (gOb S a1 0) (fun fs2 => gCat (D_PT_standby a1 p1 p2 p3 p4 S) (fun E3 S6 => (if E3 = "java/lang/IllegalArgumentException" then some (1, S6) else (if E3 = "java/lang/IndexOutOfBoundsException" then some (2, S6) else none))) (fun v4 S5 => Option.bind p5 (fun a11 => Option.bind (gSL S5 a11 1 0 v4.toInt64) (fun S12 => some (0, S12))))))
set_option maxRecDepth 100000 in
set_option maxHeartbeats 4000000 in
theorem c_La_standby {D : va_G} {cT : Nat → ClassId} {H0 : Heap} {l : Launch} {S : gS} {S' : gS} {p0 : Option Nat} {p1 : Int32} {p2 : Int32} {p3 : Int32} {p4 : Int32} {p5 : Option Nat} {r : Int32} (hst : l.stackTraces = false) (hden : D_La_standby p0 p1 p2 p3 p4 p5 S = some (r, S')) : gM D cT H0 l y_La_standby (Cond.codeWith y_La_standby method_8_code 7 (Option.some Jvm.ClassFile.FieldType.int) [(0, 14, 17, 27), (0, 14, 21, 13)]) 9 156 [va_rf p0, .int p1, .int p2, .int p3, .int p4, va_rf p5] S S' (.inr (some (.int r))) := by
  refine gM.ofVW (by decide) ?_
  intro p e s m args below meth c s₁ B hml ea X hZ hex hr hE
  subst ea
  have Y : gYW D cT H0 p s m _ meth c method_8_code 7 "PlanTextLaw" 9 156 S (Option.some Jvm.ClassFile.FieldType.int) [(0, 14, 17, 27), (0, 14, 21, 13)] := ⟨X, hZ, hex, hr, hE⟩
  have hx := X.1
  have hb := X.2.1
  have hl := lv_entry ([va_rf p0, .int p1, .int p2, .int p3, .int p4, va_rf p5]) (n := 7) (by cases p0 <;> cases p5 <;> exact Nat.le_of_ble_eq_true rfl)
  rw [lg_entry_eq]
  generalize (lg_sl ([va_rf p0, .int p1, .int p2, .int p3, .int p4, va_rf p5]) ++ List.replicate (7 - (lg_sl ([va_rf p0, .int p1, .int p2, .int p3, .int p4, va_rf p5])).length) Slot.unset).toArray = ls at hl ⊢
  have hl : lv_has ls 7 [(0, va_rf p0), (1, .int p1), (2, .int p2), (3, .int p3), (4, .int p4), (5, va_rf p5)] := by cases p0 <;> cases p5 <;> exact hl
  unfold D_La_standby at hden
  refine gV.lift (fun _ _ _ _ => g_aload hx hb d_La_standby_0 (lv_at hl 5 rfl)) ?_
  refine gV.lift (fun _ _ _ _ => lv_iconst (v := 0) hx hb d_La_standby_2 (by decide)) ?_
  refine gV.lift (fun _ _ _ _ => g_aload_n hx hb d_La_standby_3 rfl (lv_at hl 0 rfl)) ?_
  refine gV.lift (fun _ _ _ _ => lv_iload_n hx hb d_La_standby_4 rfl (lv_at hl 1 rfl)) ?_
  refine gV.lift (fun _ _ _ _ => lv_iload_n hx hb d_La_standby_5 rfl (lv_at hl 2 rfl)) ?_
  refine gV.lift (fun _ _ _ _ => lv_iload_n hx hb d_La_standby_6 rfl (lv_at hl 3 rfl)) ?_
  refine gV.lift (fun _ _ _ _ => lv_iload hx hb d_La_standby_7 (lv_at hl 4 rfl)) ?_
  replace hden := gb hden
  obtain ⟨a1, rfl, hden⟩ := hden
  replace hden := gb hden
  obtain ⟨fs2, ho, hden⟩ := hden
  replace hden := gcy hden
  rcases hden with ⟨E3, S6, hz, hden⟩ | ⟨v4, S5, hz, hden⟩
  ·
    by_cases hc8 : E3 = "java/lang/IllegalArgumentException"
    · replace hden := gip hc8 hden
      subst hc8
      refine g_catchV (As := [.int p1, .int p2, .int p3, .int p4]) (rest := [.int 0, va_rf p5]) X hZ hex (c_PT_standby hst hz) cl_PT (gOb_spec ho) q_606 q_1 q_603 q_604 q_605 ⟨by decide, by decide, by show _ = some 4; decide +kernel⟩ ⟨by decide, by decide⟩ hl.1 (by cases p5 <;> exact Nat.le_of_ble_eq_true rfl) d_La_standby_9 [] ⟨0, 14, 17, 27⟩ [⟨0, 14, 21, 13⟩] rfl (fun z hz9 => by simp at hz9) (by decide) (by decide) q_525 (by decide) rfl (fun q7 => ?_)
      refine gV.liftS (nL := 7) (lv' := [(6, va_rf (some q7)), (0, va_rf (some a1)), (1, .int p1), (2, .int p2), (3, .int p3), (4, .int p4), (5, va_rf p5)]) (fun _ _ _ _ => g_astore hx hb d_La_standby_17 hl (by decide) (by cases p5 <;> rfl)) (fun ls hl => ?_)
      refine gV.lift (fun _ _ _ _ => lv_iconst (v := 1) hx hb d_La_standby_19 (by decide)) ?_
      obtain ⟨rfl, rfl⟩ := gpi hden
      exact g_iret X hr d_La_standby_20
    replace hden := gin hc8 hden
    by_cases hc10 : E3 = "java/lang/IndexOutOfBoundsException"
    · replace hden := gip hc10 hden
      subst hc10
      refine g_catchV (As := [.int p1, .int p2, .int p3, .int p4]) (rest := [.int 0, va_rf p5]) X hZ hex (c_PT_standby hst hz) cl_PT (gOb_spec ho) q_606 q_1 q_603 q_604 q_605 ⟨by decide, by decide, by show _ = some 4; decide +kernel⟩ ⟨by decide, by decide⟩ hl.1 (by cases p5 <;> exact Nat.le_of_ble_eq_true rfl) d_La_standby_9 [⟨0, 14, 17, 27⟩] ⟨0, 14, 21, 13⟩ [] rfl (fun z hz9 => by
      simp only [List.mem_cons, List.not_mem_nil, or_false] at hz9
      rcases hz9 with rfl
      · exact ⟨by decide, "java/lang/IllegalArgumentException", q_525, by decide⟩) (by decide) (by decide) q_139 (by decide) rfl (fun q9 => ?_)
      refine gV.liftS (nL := 7) (lv' := [(6, va_rf (some q9)), (0, va_rf (some a1)), (1, .int p1), (2, .int p2), (3, .int p3), (4, .int p4), (5, va_rf p5)]) (fun _ _ _ _ => g_astore hx hb d_La_standby_21 hl (by decide) (by cases p5 <;> rfl)) (fun ls hl => ?_)
      refine gV.lift (fun _ _ _ _ => lv_iconst (v := 2) hx hb d_La_standby_23 (by decide)) ?_
      obtain ⟨rfl, rfl⟩ := gpi hden
      exact g_iret X hr d_La_standby_24
    replace hden := gin hc10 hden
    cases hden
  refine g_callV (As := [.int p1, .int p2, .int p3, .int p4]) (rest := [.int 0, va_rf p5]) X hZ (c_PT_standby hst hz) cl_PT (gOb_spec ho) q_606 q_1 q_603 q_604 q_605 ⟨by decide, by decide, by show _ = some 4; decide +kernel⟩ ⟨by decide, by decide⟩ hl.1 (by cases p5 <;> exact Nat.le_of_ble_eq_true rfl) d_La_standby_9 rfl rfl ?_
  refine gV.lift (fun _ _ _ _ => lv_i2l (v := v4.toInt64) hx hb d_La_standby_12 rfl) ?_
  replace hden := gb hden
  obtain ⟨a11, rfl, hden⟩ := hden
  replace hden := gb hden
  obtain ⟨S12, hv, hden⟩ := hden
  refine r_last X (t := 1) rfl hv d_La_standby_13 ?_
  refine gV.lift (fun _ _ _ _ => lv_goto (tgt := 25) hx hb d_La_standby_14 (by decide)) ?_
  refine gV.lift (fun _ _ _ _ => lv_iconst (v := 0) hx hb d_La_standby_25 (by decide)) ?_
  obtain ⟨rfl, rfl⟩ := gpi hden
  exact g_iret X hr d_La_standby_26
/-! PlanTextLaw.clash(LPlanText;II[J)I -/
abbrev y_La_clash : MethodName := ⟨"PlanTextLaw", "clash", "(LPlanText;II[J)I"⟩
theorem d_La_clash_0 : decode method_9_code 0 = .ok (.aload_n 3, 1) := by decide +kernel
theorem d_La_clash_1 : decode method_9_code 1 = .ok (.iconst 0, 1) := by decide +kernel
theorem d_La_clash_2 : decode method_9_code 2 = .ok (.aload_n 0, 1) := by decide +kernel
theorem d_La_clash_3 : decode method_9_code 3 = .ok (.iload_n 1, 1) := by decide +kernel
theorem d_La_clash_4 : decode method_9_code 4 = .ok (.iload_n 2, 1) := by decide +kernel
theorem d_La_clash_5 : decode method_9_code 5 = .ok (.invokevirtual 41, 3) := by decide +kernel
theorem d_La_clash_8 : decode method_9_code 8 = .ok (.i2l, 1) := by decide +kernel
theorem d_La_clash_9 : decode method_9_code 9 = .ok (.lastore, 1) := by decide +kernel
theorem d_La_clash_10 : decode method_9_code 10 = .ok (.goto 7, 3) := by decide +kernel
theorem d_La_clash_13 : decode method_9_code 13 = .ok (.astore 4, 2) := by decide +kernel
theorem d_La_clash_15 : decode method_9_code 15 = .ok (.iconst 1, 1) := by decide +kernel
theorem d_La_clash_16 : decode method_9_code 16 = .ok (.ireturn, 1) := by decide +kernel
theorem d_La_clash_17 : decode method_9_code 17 = .ok (.iconst 0, 1) := by decide +kernel
theorem d_La_clash_18 : decode method_9_code 18 = .ok (.ireturn, 1) := by decide +kernel
def D_La_clash (p0 : Option Nat) (p1 : Int32) (p2 : Int32) (p3 : Option Nat) (S : gS) : Option (Int32 × gS) := Option.bind p0 (fun a1 => Option.bind (gOb S a1 0) (fun fs2 => gCat (D_PT_clash a1 p1 p2 S) (fun E3 S6 => (if E3 = "java/lang/IndexOutOfBoundsException" then some (1, S6) else none)) (fun v4 S5 => Option.bind p3 (fun a9 => Option.bind (gSL S5 a9 1 0 v4.toInt64) (fun S10 => some (0, S10))))))
set_option maxRecDepth 100000 in
set_option maxHeartbeats 4000000 in
theorem c_La_clash {D : va_G} {cT : Nat → ClassId} {H0 : Heap} {l : Launch} {S : gS} {S' : gS} {p0 : Option Nat} {p1 : Int32} {p2 : Int32} {p3 : Option Nat} {r : Int32} (hst : l.stackTraces = false) (hden : D_La_clash p0 p1 p2 p3 S = some (r, S')) : gM D cT H0 l y_La_clash (Cond.codeWith y_La_clash method_9_code 5 (Option.some Jvm.ClassFile.FieldType.int) [(0, 10, 13, 13)]) 9 154 [va_rf p0, .int p1, .int p2, va_rf p3] S S' (.inr (some (.int r))) := by
  refine gM.ofVW (by decide) ?_
  intro p e s m args below meth c s₁ B hml ea X hZ hex hr hE
  subst ea
  have Y : gYW D cT H0 p s m _ meth c method_9_code 5 "PlanTextLaw" 9 154 S (Option.some Jvm.ClassFile.FieldType.int) [(0, 10, 13, 13)] := ⟨X, hZ, hex, hr, hE⟩
  have hx := X.1
  have hb := X.2.1
  have hl := lv_entry ([va_rf p0, .int p1, .int p2, va_rf p3]) (n := 5) (by cases p0 <;> cases p3 <;> exact Nat.le_of_ble_eq_true rfl)
  rw [lg_entry_eq]
  generalize (lg_sl ([va_rf p0, .int p1, .int p2, va_rf p3]) ++ List.replicate (5 - (lg_sl ([va_rf p0, .int p1, .int p2, va_rf p3])).length) Slot.unset).toArray = ls at hl ⊢
  have hl : lv_has ls 5 [(0, va_rf p0), (1, .int p1), (2, .int p2), (3, va_rf p3)] := by cases p0 <;> cases p3 <;> exact hl
  unfold D_La_clash at hden
  refine gV.lift (fun _ _ _ _ => g_aload_n hx hb d_La_clash_0 rfl (lv_at hl 3 rfl)) ?_
  refine gV.lift (fun _ _ _ _ => lv_iconst (v := 0) hx hb d_La_clash_1 (by decide)) ?_
  refine gV.lift (fun _ _ _ _ => g_aload_n hx hb d_La_clash_2 rfl (lv_at hl 0 rfl)) ?_
  refine gV.lift (fun _ _ _ _ => lv_iload_n hx hb d_La_clash_3 rfl (lv_at hl 1 rfl)) ?_
  refine gV.lift (fun _ _ _ _ => lv_iload_n hx hb d_La_clash_4 rfl (lv_at hl 2 rfl)) ?_
  replace hden := gb hden
  obtain ⟨a1, rfl, hden⟩ := hden
  replace hden := gb hden
  obtain ⟨fs2, ho, hden⟩ := hden
  replace hden := gcy hden
  rcases hden with ⟨E3, S6, hz, hden⟩ | ⟨v4, S5, hz, hden⟩
  ·
    by_cases hc8 : E3 = "java/lang/IndexOutOfBoundsException"
    · replace hden := gip hc8 hden
      subst hc8
      refine g_catchV (As := [.int p1, .int p2]) (rest := [.int 0, va_rf p3]) X hZ hex (c_PT_clash hst hz) cl_PT (gOb_spec ho) q_626 q_1 q_623 q_624 q_625 ⟨by decide, by decide, by show _ = some 2; decide +kernel⟩ ⟨by decide, by decide⟩ hl.1 (by cases p3 <;> exact Nat.le_of_ble_eq_true rfl) d_La_clash_5 [] ⟨0, 10, 13, 13⟩ [] rfl (fun z hz9 => by simp at hz9) (by decide) (by decide) q_139 (by decide) rfl (fun q7 => ?_)
      refine gV.liftS (nL := 5) (lv' := [(4, va_rf (some q7)), (0, va_rf (some a1)), (1, .int p1), (2, .int p2), (3, va_rf p3)]) (fun _ _ _ _ => g_astore hx hb d_La_clash_13 hl (by decide) (by cases p3 <;> rfl)) (fun ls hl => ?_)
      refine gV.lift (fun _ _ _ _ => lv_iconst (v := 1) hx hb d_La_clash_15 (by decide)) ?_
      obtain ⟨rfl, rfl⟩ := gpi hden
      exact g_iret X hr d_La_clash_16
    replace hden := gin hc8 hden
    cases hden
  refine g_callV (As := [.int p1, .int p2]) (rest := [.int 0, va_rf p3]) X hZ (c_PT_clash hst hz) cl_PT (gOb_spec ho) q_626 q_1 q_623 q_624 q_625 ⟨by decide, by decide, by show _ = some 2; decide +kernel⟩ ⟨by decide, by decide⟩ hl.1 (by cases p3 <;> exact Nat.le_of_ble_eq_true rfl) d_La_clash_5 rfl rfl ?_
  refine gV.lift (fun _ _ _ _ => lv_i2l (v := v4.toInt64) hx hb d_La_clash_8 rfl) ?_
  replace hden := gb hden
  obtain ⟨a9, rfl, hden⟩ := hden
  replace hden := gb hden
  obtain ⟨S10, hv, hden⟩ := hden
  refine r_last X (t := 1) rfl hv d_La_clash_9 ?_
  refine gV.lift (fun _ _ _ _ => lv_goto (tgt := 17) hx hb d_La_clash_10 (by decide)) ?_
  refine gV.lift (fun _ _ _ _ => lv_iconst (v := 0) hx hb d_La_clash_17 (by decide)) ?_
  obtain ⟨rfl, rfl⟩ := gpi hden
  exact g_iret X hr d_La_clash_18
/-! PlanTextLaw.never(LPlanText;II[J)I -/
abbrev y_La_never : MethodName := ⟨"PlanTextLaw", "never", "(LPlanText;II[J)I"⟩
theorem d_La_never_0 : decode method_10_code 0 = .ok (.aload_n 3, 1) := by decide +kernel
theorem d_La_never_1 : decode method_10_code 1 = .ok (.iconst 0, 1) := by decide +kernel
theorem d_La_never_2 : decode method_10_code 2 = .ok (.aload_n 0, 1) := by decide +kernel
theorem d_La_never_3 : decode method_10_code 3 = .ok (.iload_n 1, 1) := by decide +kernel
theorem d_La_never_4 : decode method_10_code 4 = .ok (.iload_n 2, 1) := by decide +kernel
theorem d_La_never_5 : decode method_10_code 5 = .ok (.invokevirtual 44, 3) := by decide +kernel
theorem d_La_never_8 : decode method_10_code 8 = .ok (.i2l, 1) := by decide +kernel
theorem d_La_never_9 : decode method_10_code 9 = .ok (.lastore, 1) := by decide +kernel
theorem d_La_never_10 : decode method_10_code 10 = .ok (.goto 7, 3) := by decide +kernel
theorem d_La_never_13 : decode method_10_code 13 = .ok (.astore 4, 2) := by decide +kernel
theorem d_La_never_15 : decode method_10_code 15 = .ok (.iconst 1, 1) := by decide +kernel
theorem d_La_never_16 : decode method_10_code 16 = .ok (.ireturn, 1) := by decide +kernel
theorem d_La_never_17 : decode method_10_code 17 = .ok (.iconst 0, 1) := by decide +kernel
theorem d_La_never_18 : decode method_10_code 18 = .ok (.ireturn, 1) := by decide +kernel
def D_La_never (p0 : Option Nat) (p1 : Int32) (p2 : Int32) (p3 : Option Nat) (S : gS) : Option (Int32 × gS) := Option.bind p0 (fun a1 => Option.bind (gOb S a1 0) (fun fs2 => gCat (D_PT_never a1 p1 p2 S) (fun E3 S6 => (if E3 = "java/lang/IndexOutOfBoundsException" then some (1, S6) else none)) (fun v4 S5 => Option.bind p3 (fun a9 => Option.bind (gSL S5 a9 1 0 v4.toInt64) (fun S10 => some (0, S10))))))
set_option maxRecDepth 100000 in
set_option maxHeartbeats 4000000 in
theorem c_La_never {D : va_G} {cT : Nat → ClassId} {H0 : Heap} {l : Launch} {S : gS} {S' : gS} {p0 : Option Nat} {p1 : Int32} {p2 : Int32} {p3 : Option Nat} {r : Int32} (hst : l.stackTraces = false) (hden : D_La_never p0 p1 p2 p3 S = some (r, S')) : gM D cT H0 l y_La_never (Cond.codeWith y_La_never method_10_code 5 (Option.some Jvm.ClassFile.FieldType.int) [(0, 10, 13, 13)]) 9 154 [va_rf p0, .int p1, .int p2, va_rf p3] S S' (.inr (some (.int r))) := by
  refine gM.ofVW (by decide) ?_
  intro p e s m args below meth c s₁ B hml ea X hZ hex hr hE
  subst ea
  have Y : gYW D cT H0 p s m _ meth c method_10_code 5 "PlanTextLaw" 9 154 S (Option.some Jvm.ClassFile.FieldType.int) [(0, 10, 13, 13)] := ⟨X, hZ, hex, hr, hE⟩
  have hx := X.1
  have hb := X.2.1
  have hl := lv_entry ([va_rf p0, .int p1, .int p2, va_rf p3]) (n := 5) (by cases p0 <;> cases p3 <;> exact Nat.le_of_ble_eq_true rfl)
  rw [lg_entry_eq]
  generalize (lg_sl ([va_rf p0, .int p1, .int p2, va_rf p3]) ++ List.replicate (5 - (lg_sl ([va_rf p0, .int p1, .int p2, va_rf p3])).length) Slot.unset).toArray = ls at hl ⊢
  have hl : lv_has ls 5 [(0, va_rf p0), (1, .int p1), (2, .int p2), (3, va_rf p3)] := by cases p0 <;> cases p3 <;> exact hl
  unfold D_La_never at hden
  refine gV.lift (fun _ _ _ _ => g_aload_n hx hb d_La_never_0 rfl (lv_at hl 3 rfl)) ?_
  refine gV.lift (fun _ _ _ _ => lv_iconst (v := 0) hx hb d_La_never_1 (by decide)) ?_
  refine gV.lift (fun _ _ _ _ => g_aload_n hx hb d_La_never_2 rfl (lv_at hl 0 rfl)) ?_
  refine gV.lift (fun _ _ _ _ => lv_iload_n hx hb d_La_never_3 rfl (lv_at hl 1 rfl)) ?_
  refine gV.lift (fun _ _ _ _ => lv_iload_n hx hb d_La_never_4 rfl (lv_at hl 2 rfl)) ?_
  replace hden := gb hden
  obtain ⟨a1, rfl, hden⟩ := hden
  replace hden := gb hden
  obtain ⟨fs2, ho, hden⟩ := hden
  replace hden := gcy hden
  rcases hden with ⟨E3, S6, hz, hden⟩ | ⟨v4, S5, hz, hden⟩
  ·
    by_cases hc8 : E3 = "java/lang/IndexOutOfBoundsException"
    · replace hden := gip hc8 hden
      subst hc8
      refine g_catchV (As := [.int p1, .int p2]) (rest := [.int 0, va_rf p3]) X hZ hex (c_PT_never hst hz) cl_PT (gOb_spec ho) q_649 q_1 q_646 q_647 q_648 ⟨by decide, by decide, by show _ = some 2; decide +kernel⟩ ⟨by decide, by decide⟩ hl.1 (by cases p3 <;> exact Nat.le_of_ble_eq_true rfl) d_La_never_5 [] ⟨0, 10, 13, 13⟩ [] rfl (fun z hz9 => by simp at hz9) (by decide) (by decide) q_139 (by decide) rfl (fun q7 => ?_)
      refine gV.liftS (nL := 5) (lv' := [(4, va_rf (some q7)), (0, va_rf (some a1)), (1, .int p1), (2, .int p2), (3, va_rf p3)]) (fun _ _ _ _ => g_astore hx hb d_La_never_13 hl (by decide) (by cases p3 <;> rfl)) (fun ls hl => ?_)
      refine gV.lift (fun _ _ _ _ => lv_iconst (v := 1) hx hb d_La_never_15 (by decide)) ?_
      obtain ⟨rfl, rfl⟩ := gpi hden
      exact g_iret X hr d_La_never_16
    replace hden := gin hc8 hden
    cases hden
  refine g_callV (As := [.int p1, .int p2]) (rest := [.int 0, va_rf p3]) X hZ (c_PT_never hst hz) cl_PT (gOb_spec ho) q_649 q_1 q_646 q_647 q_648 ⟨by decide, by decide, by show _ = some 2; decide +kernel⟩ ⟨by decide, by decide⟩ hl.1 (by cases p3 <;> exact Nat.le_of_ble_eq_true rfl) d_La_never_5 rfl rfl ?_
  refine gV.lift (fun _ _ _ _ => lv_i2l (v := v4.toInt64) hx hb d_La_never_8 rfl) ?_
  replace hden := gb hden
  obtain ⟨a9, rfl, hden⟩ := hden
  replace hden := gb hden
  obtain ⟨S10, hv, hden⟩ := hden
  refine r_last X (t := 1) rfl hv d_La_never_9 ?_
  refine gV.lift (fun _ _ _ _ => lv_goto (tgt := 17) hx hb d_La_never_10 (by decide)) ?_
  refine gV.lift (fun _ _ _ _ => lv_iconst (v := 0) hx hb d_La_never_17 (by decide)) ?_
  obtain ⟨rfl, rfl⟩ := gpi hden
  exact g_iret X hr d_La_never_18
/-! PlanTextLaw.lacks(LPlanText;II[J)I -/
abbrev y_La_lacks : MethodName := ⟨"PlanTextLaw", "lacks", "(LPlanText;II[J)I"⟩
theorem d_La_lacks_0 : decode method_11_code 0 = .ok (.aload_n 3, 1) := by decide +kernel
theorem d_La_lacks_1 : decode method_11_code 1 = .ok (.iconst 0, 1) := by decide +kernel
theorem d_La_lacks_2 : decode method_11_code 2 = .ok (.aload_n 0, 1) := by decide +kernel
theorem d_La_lacks_3 : decode method_11_code 3 = .ok (.iload_n 1, 1) := by decide +kernel
theorem d_La_lacks_4 : decode method_11_code 4 = .ok (.iload_n 2, 1) := by decide +kernel
theorem d_La_lacks_5 : decode method_11_code 5 = .ok (.invokevirtual 47, 3) := by decide +kernel
theorem d_La_lacks_8 : decode method_11_code 8 = .ok (.i2l, 1) := by decide +kernel
theorem d_La_lacks_9 : decode method_11_code 9 = .ok (.lastore, 1) := by decide +kernel
theorem d_La_lacks_10 : decode method_11_code 10 = .ok (.goto 7, 3) := by decide +kernel
theorem d_La_lacks_13 : decode method_11_code 13 = .ok (.astore 4, 2) := by decide +kernel
theorem d_La_lacks_15 : decode method_11_code 15 = .ok (.iconst 1, 1) := by decide +kernel
theorem d_La_lacks_16 : decode method_11_code 16 = .ok (.ireturn, 1) := by decide +kernel
theorem d_La_lacks_17 : decode method_11_code 17 = .ok (.iconst 0, 1) := by decide +kernel
theorem d_La_lacks_18 : decode method_11_code 18 = .ok (.ireturn, 1) := by decide +kernel
def D_La_lacks (p0 : Option Nat) (p1 : Int32) (p2 : Int32) (p3 : Option Nat) (S : gS) : Option (Int32 × gS) := Option.bind p0 (fun a1 => Option.bind (gOb S a1 0) (fun fs2 => gCat (D_PT_lacks a1 p1 p2 S) (fun E3 S6 => (if E3 = "java/lang/IndexOutOfBoundsException" then some (1, S6) else none)) (fun v4 S5 => Option.bind p3 (fun a9 => Option.bind (gSL S5 a9 1 0 v4.toInt64) (fun S10 => some (0, S10))))))
set_option maxRecDepth 100000 in
set_option maxHeartbeats 4000000 in
theorem c_La_lacks {D : va_G} {cT : Nat → ClassId} {H0 : Heap} {l : Launch} {S : gS} {S' : gS} {p0 : Option Nat} {p1 : Int32} {p2 : Int32} {p3 : Option Nat} {r : Int32} (hst : l.stackTraces = false) (hden : D_La_lacks p0 p1 p2 p3 S = some (r, S')) : gM D cT H0 l y_La_lacks (Cond.codeWith y_La_lacks method_11_code 5 (Option.some Jvm.ClassFile.FieldType.int) [(0, 10, 13, 13)]) 9 154 [va_rf p0, .int p1, .int p2, va_rf p3] S S' (.inr (some (.int r))) := by
  refine gM.ofVW (by decide) ?_
  intro p e s m args below meth c s₁ B hml ea X hZ hex hr hE
  subst ea
  have Y : gYW D cT H0 p s m _ meth c method_11_code 5 "PlanTextLaw" 9 154 S (Option.some Jvm.ClassFile.FieldType.int) [(0, 10, 13, 13)] := ⟨X, hZ, hex, hr, hE⟩
  have hx := X.1
  have hb := X.2.1
  have hl := lv_entry ([va_rf p0, .int p1, .int p2, va_rf p3]) (n := 5) (by cases p0 <;> cases p3 <;> exact Nat.le_of_ble_eq_true rfl)
  rw [lg_entry_eq]
  generalize (lg_sl ([va_rf p0, .int p1, .int p2, va_rf p3]) ++ List.replicate (5 - (lg_sl ([va_rf p0, .int p1, .int p2, va_rf p3])).length) Slot.unset).toArray = ls at hl ⊢
  have hl : lv_has ls 5 [(0, va_rf p0), (1, .int p1), (2, .int p2), (3, va_rf p3)] := by cases p0 <;> cases p3 <;> exact hl
  unfold D_La_lacks at hden
  refine gV.lift (fun _ _ _ _ => g_aload_n hx hb d_La_lacks_0 rfl (lv_at hl 3 rfl)) ?_
  refine gV.lift (fun _ _ _ _ => lv_iconst (v := 0) hx hb d_La_lacks_1 (by decide)) ?_
  refine gV.lift (fun _ _ _ _ => g_aload_n hx hb d_La_lacks_2 rfl (lv_at hl 0 rfl)) ?_
  refine gV.lift (fun _ _ _ _ => lv_iload_n hx hb d_La_lacks_3 rfl (lv_at hl 1 rfl)) ?_
  refine gV.lift (fun _ _ _ _ => lv_iload_n hx hb d_La_lacks_4 rfl (lv_at hl 2 rfl)) ?_
  replace hden := gb hden
  obtain ⟨a1, rfl, hden⟩ := hden
  replace hden := gb hden
  obtain ⟨fs2, ho, hden⟩ := hden
  replace hden := gcy hden
  rcases hden with ⟨E3, S6, hz, hden⟩ | ⟨v4, S5, hz, hden⟩
  ·
    by_cases hc8 : E3 = "java/lang/IndexOutOfBoundsException"
    · replace hden := gip hc8 hden
      subst hc8
      refine g_catchV (As := [.int p1, .int p2]) (rest := [.int 0, va_rf p3]) X hZ hex (c_PT_lacks hst hz) cl_PT (gOb_spec ho) q_676 q_1 q_673 q_674 q_675 ⟨by decide, by decide, by show _ = some 2; decide +kernel⟩ ⟨by decide, by decide⟩ hl.1 (by cases p3 <;> exact Nat.le_of_ble_eq_true rfl) d_La_lacks_5 [] ⟨0, 10, 13, 13⟩ [] rfl (fun z hz9 => by simp at hz9) (by decide) (by decide) q_139 (by decide) rfl (fun q7 => ?_)
      refine gV.liftS (nL := 5) (lv' := [(4, va_rf (some q7)), (0, va_rf (some a1)), (1, .int p1), (2, .int p2), (3, va_rf p3)]) (fun _ _ _ _ => g_astore hx hb d_La_lacks_13 hl (by decide) (by cases p3 <;> rfl)) (fun ls hl => ?_)
      refine gV.lift (fun _ _ _ _ => lv_iconst (v := 1) hx hb d_La_lacks_15 (by decide)) ?_
      obtain ⟨rfl, rfl⟩ := gpi hden
      exact g_iret X hr d_La_lacks_16
    replace hden := gin hc8 hden
    cases hden
  refine g_callV (As := [.int p1, .int p2]) (rest := [.int 0, va_rf p3]) X hZ (c_PT_lacks hst hz) cl_PT (gOb_spec ho) q_676 q_1 q_673 q_674 q_675 ⟨by decide, by decide, by show _ = some 2; decide +kernel⟩ ⟨by decide, by decide⟩ hl.1 (by cases p3 <;> exact Nat.le_of_ble_eq_true rfl) d_La_lacks_5 rfl rfl ?_
  refine gV.lift (fun _ _ _ _ => lv_i2l (v := v4.toInt64) hx hb d_La_lacks_8 rfl) ?_
  replace hden := gb hden
  obtain ⟨a9, rfl, hden⟩ := hden
  replace hden := gb hden
  obtain ⟨S10, hv, hden⟩ := hden
  refine r_last X (t := 1) rfl hv d_La_lacks_9 ?_
  refine gV.lift (fun _ _ _ _ => lv_goto (tgt := 17) hx hb d_La_lacks_10 (by decide)) ?_
  refine gV.lift (fun _ _ _ _ => lv_iconst (v := 0) hx hb d_La_lacks_17 (by decide)) ?_
  obtain ⟨rfl, rfl⟩ := gpi hden
  exact g_iret X hr d_La_lacks_18
/-! PlanTextLaw.print(LPlanText;I[J)I -/
abbrev y_La_print : MethodName := ⟨"PlanTextLaw", "print", "(LPlanText;I[J)I"⟩
theorem d_La_print_0 : decode method_12_code 0 = .ok (.aload_n 2, 1) := by decide +kernel
theorem d_La_print_1 : decode method_12_code 1 = .ok (.iconst 0, 1) := by decide +kernel
theorem d_La_print_2 : decode method_12_code 2 = .ok (.aload_n 0, 1) := by decide +kernel
theorem d_La_print_3 : decode method_12_code 3 = .ok (.iload_n 1, 1) := by decide +kernel
theorem d_La_print_4 : decode method_12_code 4 = .ok (.invokevirtual 50, 3) := by decide +kernel
theorem d_La_print_7 : decode method_12_code 7 = .ok (.i2l, 1) := by decide +kernel
theorem d_La_print_8 : decode method_12_code 8 = .ok (.lastore, 1) := by decide +kernel
theorem d_La_print_9 : decode method_12_code 9 = .ok (.goto 6, 3) := by decide +kernel
theorem d_La_print_12 : decode method_12_code 12 = .ok (.astore_n 3, 1) := by decide +kernel
theorem d_La_print_13 : decode method_12_code 13 = .ok (.iconst 1, 1) := by decide +kernel
theorem d_La_print_14 : decode method_12_code 14 = .ok (.ireturn, 1) := by decide +kernel
theorem d_La_print_15 : decode method_12_code 15 = .ok (.iconst 0, 1) := by decide +kernel
theorem d_La_print_16 : decode method_12_code 16 = .ok (.ireturn, 1) := by decide +kernel
def D_La_print (p0 : Option Nat) (p1 : Int32) (p2 : Option Nat) (S : gS) : Option (Int32 × gS) := Option.bind p0 (fun a1 => Option.bind (gOb S a1 0) (fun fs2 => gCat (D_PT_print a1 p1 S) (fun E3 S6 => (if E3 = "java/lang/IndexOutOfBoundsException" then some (1, S6) else none)) (fun v4 S5 => Option.bind p2 (fun a9 => Option.bind (gSL S5 a9 1 0 v4.toInt64) (fun S10 => some (0, S10))))))
set_option maxRecDepth 100000 in
set_option maxHeartbeats 4000000 in
theorem c_La_print {D : va_G} {cT : Nat → ClassId} {H0 : Heap} {l : Launch} {S : gS} {S' : gS} {p0 : Option Nat} {p1 : Int32} {p2 : Option Nat} {r : Int32} (hst : l.stackTraces = false) (hden : D_La_print p0 p1 p2 S = some (r, S')) : gM D cT H0 l y_La_print (Cond.codeWith y_La_print method_12_code 4 (Option.some Jvm.ClassFile.FieldType.int) [(0, 9, 12, 13)]) 9 153 [va_rf p0, .int p1, va_rf p2] S S' (.inr (some (.int r))) := by
  refine gM.ofVW (by decide) ?_
  intro p e s m args below meth c s₁ B hml ea X hZ hex hr hE
  subst ea
  have Y : gYW D cT H0 p s m _ meth c method_12_code 4 "PlanTextLaw" 9 153 S (Option.some Jvm.ClassFile.FieldType.int) [(0, 9, 12, 13)] := ⟨X, hZ, hex, hr, hE⟩
  have hx := X.1
  have hb := X.2.1
  have hl := lv_entry ([va_rf p0, .int p1, va_rf p2]) (n := 4) (by cases p0 <;> cases p2 <;> exact Nat.le_of_ble_eq_true rfl)
  rw [lg_entry_eq]
  generalize (lg_sl ([va_rf p0, .int p1, va_rf p2]) ++ List.replicate (4 - (lg_sl ([va_rf p0, .int p1, va_rf p2])).length) Slot.unset).toArray = ls at hl ⊢
  have hl : lv_has ls 4 [(0, va_rf p0), (1, .int p1), (2, va_rf p2)] := by cases p0 <;> cases p2 <;> exact hl
  unfold D_La_print at hden
  refine gV.lift (fun _ _ _ _ => g_aload_n hx hb d_La_print_0 rfl (lv_at hl 2 rfl)) ?_
  refine gV.lift (fun _ _ _ _ => lv_iconst (v := 0) hx hb d_La_print_1 (by decide)) ?_
  refine gV.lift (fun _ _ _ _ => g_aload_n hx hb d_La_print_2 rfl (lv_at hl 0 rfl)) ?_
  refine gV.lift (fun _ _ _ _ => lv_iload_n hx hb d_La_print_3 rfl (lv_at hl 1 rfl)) ?_
  replace hden := gb hden
  obtain ⟨a1, rfl, hden⟩ := hden
  replace hden := gb hden
  obtain ⟨fs2, ho, hden⟩ := hden
  replace hden := gcy hden
  rcases hden with ⟨E3, S6, hz, hden⟩ | ⟨v4, S5, hz, hden⟩
  ·
    by_cases hc8 : E3 = "java/lang/IndexOutOfBoundsException"
    · replace hden := gip hc8 hden
      subst hc8
      refine g_catchV (As := [.int p1]) (rest := [.int 0, va_rf p2]) X hZ hex (c_PT_print hst hz) cl_PT (gOb_spec ho) q_699 q_1 q_696 q_697 q_698 ⟨by decide, by decide, by show _ = some 1; decide +kernel⟩ ⟨by decide, by decide⟩ hl.1 (by cases p2 <;> exact Nat.le_of_ble_eq_true rfl) d_La_print_4 [] ⟨0, 9, 12, 13⟩ [] rfl (fun z hz9 => by simp at hz9) (by decide) (by decide) q_139 (by decide) rfl (fun q7 => ?_)
      refine gV.liftS (nL := 4) (lv' := [(3, va_rf (some q7)), (0, va_rf (some a1)), (1, .int p1), (2, va_rf p2)]) (fun _ _ _ _ => g_astore_n hx hb d_La_print_12 rfl hl (by decide) (by cases p2 <;> rfl)) (fun ls hl => ?_)
      refine gV.lift (fun _ _ _ _ => lv_iconst (v := 1) hx hb d_La_print_13 (by decide)) ?_
      obtain ⟨rfl, rfl⟩ := gpi hden
      exact g_iret X hr d_La_print_14
    replace hden := gin hc8 hden
    cases hden
  refine g_callV (As := [.int p1]) (rest := [.int 0, va_rf p2]) X hZ (c_PT_print hst hz) cl_PT (gOb_spec ho) q_699 q_1 q_696 q_697 q_698 ⟨by decide, by decide, by show _ = some 1; decide +kernel⟩ ⟨by decide, by decide⟩ hl.1 (by cases p2 <;> exact Nat.le_of_ble_eq_true rfl) d_La_print_4 rfl rfl ?_
  refine gV.lift (fun _ _ _ _ => lv_i2l (v := v4.toInt64) hx hb d_La_print_7 rfl) ?_
  replace hden := gb hden
  obtain ⟨a9, rfl, hden⟩ := hden
  replace hden := gb hden
  obtain ⟨S10, hv, hden⟩ := hden
  refine r_last X (t := 1) rfl hv d_La_print_8 ?_
  refine gV.lift (fun _ _ _ _ => lv_goto (tgt := 15) hx hb d_La_print_9 (by decide)) ?_
  refine gV.lift (fun _ _ _ _ => lv_iconst (v := 0) hx hb d_La_print_15 (by decide)) ?_
  obtain ⟨rfl, rfl⟩ := gpi hden
  exact g_iret X hr d_La_print_16
/-! PlanTextLaw.at(LPlanText;I[J)I -/
abbrev y_La_at : MethodName := ⟨"PlanTextLaw", "at", "(LPlanText;I[J)I"⟩
theorem d_La_at_0 : decode method_13_code 0 = .ok (.aload_n 2, 1) := by decide +kernel
theorem d_La_at_1 : decode method_13_code 1 = .ok (.iconst 0, 1) := by decide +kernel
theorem d_La_at_2 : decode method_13_code 2 = .ok (.aload_n 0, 1) := by decide +kernel
theorem d_La_at_3 : decode method_13_code 3 = .ok (.iload_n 1, 1) := by decide +kernel
theorem d_La_at_4 : decode method_13_code 4 = .ok (.invokevirtual 53, 3) := by decide +kernel
theorem d_La_at_7 : decode method_13_code 7 = .ok (.i2l, 1) := by decide +kernel
theorem d_La_at_8 : decode method_13_code 8 = .ok (.lastore, 1) := by decide +kernel
theorem d_La_at_9 : decode method_13_code 9 = .ok (.goto 6, 3) := by decide +kernel
theorem d_La_at_12 : decode method_13_code 12 = .ok (.astore_n 3, 1) := by decide +kernel
theorem d_La_at_13 : decode method_13_code 13 = .ok (.iconst 1, 1) := by decide +kernel
theorem d_La_at_14 : decode method_13_code 14 = .ok (.ireturn, 1) := by decide +kernel
theorem d_La_at_15 : decode method_13_code 15 = .ok (.iconst 0, 1) := by decide +kernel
theorem d_La_at_16 : decode method_13_code 16 = .ok (.ireturn, 1) := by decide +kernel
def D_La_at (p0 : Option Nat) (p1 : Int32) (p2 : Option Nat) (S : gS) : Option (Int32 × gS) := Option.bind p0 (fun a1 => Option.bind (gOb S a1 0) (fun fs2 => gCat (D_PT_at a1 p1 S) (fun E3 S6 => (if E3 = "java/lang/IndexOutOfBoundsException" then some (1, S6) else none)) (fun v4 S5 => Option.bind p2 (fun a9 => Option.bind (gSL S5 a9 1 0 v4.toInt64) (fun S10 => some (0, S10))))))
set_option maxRecDepth 100000 in
set_option maxHeartbeats 4000000 in
theorem c_La_at {D : va_G} {cT : Nat → ClassId} {H0 : Heap} {l : Launch} {S : gS} {S' : gS} {p0 : Option Nat} {p1 : Int32} {p2 : Option Nat} {r : Int32} (hst : l.stackTraces = false) (hden : D_La_at p0 p1 p2 S = some (r, S')) : gM D cT H0 l y_La_at (Cond.codeWith y_La_at method_13_code 4 (Option.some Jvm.ClassFile.FieldType.int) [(0, 9, 12, 13)]) 8 131 [va_rf p0, .int p1, va_rf p2] S S' (.inr (some (.int r))) := by
  refine gM.ofVW (by decide) ?_
  intro p e s m args below meth c s₁ B hml ea X hZ hex hr hE
  subst ea
  have Y : gYW D cT H0 p s m _ meth c method_13_code 4 "PlanTextLaw" 8 131 S (Option.some Jvm.ClassFile.FieldType.int) [(0, 9, 12, 13)] := ⟨X, hZ, hex, hr, hE⟩
  have hx := X.1
  have hb := X.2.1
  have hl := lv_entry ([va_rf p0, .int p1, va_rf p2]) (n := 4) (by cases p0 <;> cases p2 <;> exact Nat.le_of_ble_eq_true rfl)
  rw [lg_entry_eq]
  generalize (lg_sl ([va_rf p0, .int p1, va_rf p2]) ++ List.replicate (4 - (lg_sl ([va_rf p0, .int p1, va_rf p2])).length) Slot.unset).toArray = ls at hl ⊢
  have hl : lv_has ls 4 [(0, va_rf p0), (1, .int p1), (2, va_rf p2)] := by cases p0 <;> cases p2 <;> exact hl
  unfold D_La_at at hden
  refine gV.lift (fun _ _ _ _ => g_aload_n hx hb d_La_at_0 rfl (lv_at hl 2 rfl)) ?_
  refine gV.lift (fun _ _ _ _ => lv_iconst (v := 0) hx hb d_La_at_1 (by decide)) ?_
  refine gV.lift (fun _ _ _ _ => g_aload_n hx hb d_La_at_2 rfl (lv_at hl 0 rfl)) ?_
  refine gV.lift (fun _ _ _ _ => lv_iload_n hx hb d_La_at_3 rfl (lv_at hl 1 rfl)) ?_
  replace hden := gb hden
  obtain ⟨a1, rfl, hden⟩ := hden
  replace hden := gb hden
  obtain ⟨fs2, ho, hden⟩ := hden
  replace hden := gcy hden
  rcases hden with ⟨E3, S6, hz, hden⟩ | ⟨v4, S5, hz, hden⟩
  ·
    by_cases hc8 : E3 = "java/lang/IndexOutOfBoundsException"
    · replace hden := gip hc8 hden
      subst hc8
      refine g_catchV (As := [.int p1]) (rest := [.int 0, va_rf p2]) X hZ hex (c_PT_at hst hz) cl_PT (gOb_spec ho) q_747 q_1 q_744 q_745 q_746 ⟨by decide, by decide, by show _ = some 1; decide +kernel⟩ ⟨by decide, by decide⟩ hl.1 (by cases p2 <;> exact Nat.le_of_ble_eq_true rfl) d_La_at_4 [] ⟨0, 9, 12, 13⟩ [] rfl (fun z hz9 => by simp at hz9) (by decide) (by decide) q_139 (by decide) rfl (fun q7 => ?_)
      refine gV.liftS (nL := 4) (lv' := [(3, va_rf (some q7)), (0, va_rf (some a1)), (1, .int p1), (2, va_rf p2)]) (fun _ _ _ _ => g_astore_n hx hb d_La_at_12 rfl hl (by decide) (by cases p2 <;> rfl)) (fun ls hl => ?_)
      refine gV.lift (fun _ _ _ _ => lv_iconst (v := 1) hx hb d_La_at_13 (by decide)) ?_
      obtain ⟨rfl, rfl⟩ := gpi hden
      exact g_iret X hr d_La_at_14
    replace hden := gin hc8 hden
    cases hden
  refine g_callV (As := [.int p1]) (rest := [.int 0, va_rf p2]) X hZ (c_PT_at hst hz) cl_PT (gOb_spec ho) q_747 q_1 q_744 q_745 q_746 ⟨by decide, by decide, by show _ = some 1; decide +kernel⟩ ⟨by decide, by decide⟩ hl.1 (by cases p2 <;> exact Nat.le_of_ble_eq_true rfl) d_La_at_4 rfl rfl ?_
  refine gV.lift (fun _ _ _ _ => lv_i2l (v := v4.toInt64) hx hb d_La_at_7 rfl) ?_
  replace hden := gb hden
  obtain ⟨a9, rfl, hden⟩ := hden
  replace hden := gb hden
  obtain ⟨S10, hv, hden⟩ := hden
  refine r_last X (t := 1) rfl hv d_La_at_8 ?_
  refine gV.lift (fun _ _ _ _ => lv_goto (tgt := 15) hx hb d_La_at_9 (by decide)) ?_
  refine gV.lift (fun _ _ _ _ => lv_iconst (v := 0) hx hb d_La_at_15 (by decide)) ?_
  obtain ⟨rfl, rfl⟩ := gpi hden
  exact g_iret X hr d_La_at_16
/-! PlanTextLaw.count(LPlanText;I[J)I -/
abbrev y_La_count : MethodName := ⟨"PlanTextLaw", "count", "(LPlanText;I[J)I"⟩
theorem d_La_count_0 : decode method_14_code 0 = .ok (.aload_n 2, 1) := by decide +kernel
theorem d_La_count_1 : decode method_14_code 1 = .ok (.iconst 0, 1) := by decide +kernel
theorem d_La_count_2 : decode method_14_code 2 = .ok (.aload_n 0, 1) := by decide +kernel
theorem d_La_count_3 : decode method_14_code 3 = .ok (.iload_n 1, 1) := by decide +kernel
theorem d_La_count_4 : decode method_14_code 4 = .ok (.invokevirtual 56, 3) := by decide +kernel
theorem d_La_count_7 : decode method_14_code 7 = .ok (.i2l, 1) := by decide +kernel
theorem d_La_count_8 : decode method_14_code 8 = .ok (.lastore, 1) := by decide +kernel
theorem d_La_count_9 : decode method_14_code 9 = .ok (.goto 6, 3) := by decide +kernel
theorem d_La_count_12 : decode method_14_code 12 = .ok (.astore_n 3, 1) := by decide +kernel
theorem d_La_count_13 : decode method_14_code 13 = .ok (.iconst 1, 1) := by decide +kernel
theorem d_La_count_14 : decode method_14_code 14 = .ok (.ireturn, 1) := by decide +kernel
theorem d_La_count_15 : decode method_14_code 15 = .ok (.iconst 0, 1) := by decide +kernel
theorem d_La_count_16 : decode method_14_code 16 = .ok (.ireturn, 1) := by decide +kernel
def D_La_count (p0 : Option Nat) (p1 : Int32) (p2 : Option Nat) (S : gS) : Option (Int32 × gS) := Option.bind p0 (fun a1 => Option.bind (gOb S a1 0) (fun fs2 => gCat (D_PT_count a1 p1 S) (fun E3 S6 => (if E3 = "java/lang/IllegalArgumentException" then some (1, S6) else none)) (fun v4 S5 => Option.bind p2 (fun a9 => Option.bind (gSL S5 a9 1 0 v4.toInt64) (fun S10 => some (0, S10))))))
set_option maxRecDepth 100000 in
set_option maxHeartbeats 4000000 in
theorem c_La_count {D : va_G} {cT : Nat → ClassId} {H0 : Heap} {l : Launch} {S : gS} {S' : gS} {p0 : Option Nat} {p1 : Int32} {p2 : Option Nat} {r : Int32} (hst : l.stackTraces = false) (hden : D_La_count p0 p1 p2 S = some (r, S')) : gM D cT H0 l y_La_count (Cond.codeWith y_La_count method_14_code 4 (Option.some Jvm.ClassFile.FieldType.int) [(0, 9, 12, 27)]) 7 111 [va_rf p0, .int p1, va_rf p2] S S' (.inr (some (.int r))) := by
  refine gM.ofVW (by decide) ?_
  intro p e s m args below meth c s₁ B hml ea X hZ hex hr hE
  subst ea
  have Y : gYW D cT H0 p s m _ meth c method_14_code 4 "PlanTextLaw" 7 111 S (Option.some Jvm.ClassFile.FieldType.int) [(0, 9, 12, 27)] := ⟨X, hZ, hex, hr, hE⟩
  have hx := X.1
  have hb := X.2.1
  have hl := lv_entry ([va_rf p0, .int p1, va_rf p2]) (n := 4) (by cases p0 <;> cases p2 <;> exact Nat.le_of_ble_eq_true rfl)
  rw [lg_entry_eq]
  generalize (lg_sl ([va_rf p0, .int p1, va_rf p2]) ++ List.replicate (4 - (lg_sl ([va_rf p0, .int p1, va_rf p2])).length) Slot.unset).toArray = ls at hl ⊢
  have hl : lv_has ls 4 [(0, va_rf p0), (1, .int p1), (2, va_rf p2)] := by cases p0 <;> cases p2 <;> exact hl
  unfold D_La_count at hden
  refine gV.lift (fun _ _ _ _ => g_aload_n hx hb d_La_count_0 rfl (lv_at hl 2 rfl)) ?_
  refine gV.lift (fun _ _ _ _ => lv_iconst (v := 0) hx hb d_La_count_1 (by decide)) ?_
  refine gV.lift (fun _ _ _ _ => g_aload_n hx hb d_La_count_2 rfl (lv_at hl 0 rfl)) ?_
  refine gV.lift (fun _ _ _ _ => lv_iload_n hx hb d_La_count_3 rfl (lv_at hl 1 rfl)) ?_
  replace hden := gb hden
  obtain ⟨a1, rfl, hden⟩ := hden
  replace hden := gb hden
  obtain ⟨fs2, ho, hden⟩ := hden
  replace hden := gcy hden
  rcases hden with ⟨E3, S6, hz, hden⟩ | ⟨v4, S5, hz, hden⟩
  ·
    by_cases hc8 : E3 = "java/lang/IllegalArgumentException"
    · replace hden := gip hc8 hden
      subst hc8
      refine g_catchV (As := [.int p1]) (rest := [.int 0, va_rf p2]) X hZ hex (c_PT_count hst hz) cl_PT (gOb_spec ho) q_758 q_1 q_755 q_756 q_757 ⟨by decide, by decide, by show _ = some 1; decide +kernel⟩ ⟨by decide, by decide⟩ hl.1 (by cases p2 <;> exact Nat.le_of_ble_eq_true rfl) d_La_count_4 [] ⟨0, 9, 12, 27⟩ [] rfl (fun z hz9 => by simp at hz9) (by decide) (by decide) q_525 (by decide) rfl (fun q7 => ?_)
      refine gV.liftS (nL := 4) (lv' := [(3, va_rf (some q7)), (0, va_rf (some a1)), (1, .int p1), (2, va_rf p2)]) (fun _ _ _ _ => g_astore_n hx hb d_La_count_12 rfl hl (by decide) (by cases p2 <;> rfl)) (fun ls hl => ?_)
      refine gV.lift (fun _ _ _ _ => lv_iconst (v := 1) hx hb d_La_count_13 (by decide)) ?_
      obtain ⟨rfl, rfl⟩ := gpi hden
      exact g_iret X hr d_La_count_14
    replace hden := gin hc8 hden
    cases hden
  refine g_callV (As := [.int p1]) (rest := [.int 0, va_rf p2]) X hZ (c_PT_count hst hz) cl_PT (gOb_spec ho) q_758 q_1 q_755 q_756 q_757 ⟨by decide, by decide, by show _ = some 1; decide +kernel⟩ ⟨by decide, by decide⟩ hl.1 (by cases p2 <;> exact Nat.le_of_ble_eq_true rfl) d_La_count_4 rfl rfl ?_
  refine gV.lift (fun _ _ _ _ => lv_i2l (v := v4.toInt64) hx hb d_La_count_7 rfl) ?_
  replace hden := gb hden
  obtain ⟨a9, rfl, hden⟩ := hden
  replace hden := gb hden
  obtain ⟨S10, hv, hden⟩ := hden
  refine r_last X (t := 1) rfl hv d_La_count_8 ?_
  refine gV.lift (fun _ _ _ _ => lv_goto (tgt := 15) hx hb d_La_count_9 (by decide)) ?_
  refine gV.lift (fun _ _ _ _ => lv_iconst (v := 0) hx hb d_La_count_15 (by decide)) ?_
  obtain ⟨rfl, rfl⟩ := gpi hden
  exact g_iret X hr d_La_count_16
