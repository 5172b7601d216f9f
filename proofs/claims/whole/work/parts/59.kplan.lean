/-! THE CALL PLAN -/
section KP
variable {z k n L P : Nat} {χ χ' : cS} {μ μ' : mS} {T T' : gS} {d : Int32} {a : Nat → Nat} {dd : Nat → Int32} {Ev : Nat → EV} {c : gS → Option (Int32 × gS)} {m : Nat → gS → Option (Int32 × gS)} {X : Option ((String ⊕ Int32) × gS)} {g : String → gS → Option (Int32 × gS)}
theorem K_ok {v : Int32} (hc : c (Full z χ μ T) = gCat X g (fun v4 S5 => Option.bind (gSL S5 (z + 29) 1 0 v4.toInt64) (fun S14 => some (0, S14)))) (hX : X = some (.inr v, Full z χ' μ T')) (hm : ∀ w S, m w (mput w μ S) = some (v, mput w μ' S)) (h0 : μ'.1 0 = 0) (hI : Iv z χ' μ' T' (k + 1) n a dd Ev L P) : Call z χ μ T k c m := by
  obtain ⟨T3, o1, o2, o3, o4, o5⟩ := outW (x := v.toInt64) hI.1
  refine ⟨0, v, χ', μ', T3, ?_, hm, h0, fun _ => o3, ⟨n, a, dd, Ev, L, P, hI.out o2 o4 o5⟩⟩
  rw [hc, hX]
  show Option.bind (gSL (Full z χ' μ T') (z + 29) 1 0 _) _ = _
  rw [o1]
  rfl
theorem K_th {Ex : String} {kk b : Int32} (hc : c (Full z χ μ T) = gCat X g (fun v4 S5 => Option.bind (gSL S5 (z + 29) 1 0 v4.toInt64) (fun S14 => some (0, S14)))) (hX : X = some (.inl Ex, Full z χ μ (gTh T))) (hg : ∀ S, g Ex S = some (kk, S)) (hk : kk ≠ 0) (hm : ∀ w S, m w (mput w μ S) = some (b, mput w (mI μ 0 kk) S)) (h : Iv z χ μ T k n a dd Ev L P) : Call z χ μ T k c m := by
  refine ⟨kk, b, χ, mI μ 0 kk, gTh T, ?_, hm, mI_s, fun e => absurd e hk, ⟨n, a, dd, Ev, L, P, h.same (thOk h.1) (fun q x _ hq _ => hq) (by show T.2.2.1 + 1 ≤ _; omega) (by show T.2.2.2 + 6 ≤ _; omega) rfl (fun k hk => mI_n hk)⟩⟩
  rw [hc, hX]
  exact hg _
/-- other needs are told -/
theorem Iv.told {l c : Nat} {V : Nat → Nat → Int32} {x : Int32} (h : Iv z χ μ T k n a dd Ev L P) (hc : c ≤ 5) (hl : NLat (Full z χ μ T) l c V) (hx : (x = -1 ∧ c = 0) ∨ ∃ s, s < 50 * n ∧ x = nI s ∧ ndIs μ s c V) (h2 : μ'.2 = μ.2) (h23 : μ'.1 23 = x) (h1 : ∀ k, k ≠ 0 → k ≠ 23 → μ'.1 k = μ.1 k) : Iv z (cR χ 9 (some l)) μ' T (k + 1) n a dd Ev L P := by
  obtain ⟨t, ⟨e1, e2, e3, e4⟩, ⟨t1, t2, t3, t4, t5⟩, -, ⟨p1, p2, p3, p4⟩, u, lt, pl, ⟨r1, r2⟩⟩ := h
  have K : Kp lf3 (Full z χ μ T) (Full z (cR χ 9 (some l)) μ' T) := F_kp t (fun q x _ hq _ => hq)
  refine ⟨t, ⟨e1, e2, by rw [h1 7 (by decide) (by decide)]; exact e3, fun i hi => ?_⟩, ⟨t1, t2, by rw [h1 2 (by decide) (by decide)]; exact t3, t4, by rw [h2]; exact t5⟩, ⟨l, c, V, cR_s, hc, hl.kk K.l3.l2, ?_⟩, ⟨p1, p2, by rw [h1 25 (by decide) (by decide)]; exact p3, by rw [h2]; exact p4⟩, by unfold IvU; rw [h2]; exact u, ?_, by rw [h1 6 (by decide) (by decide)]; exact pl, ⟨by omega, by omega⟩⟩
  · obtain ⟨a1, a2, a3, a4, a5, a6⟩ := e4 i hi
    exact ⟨a1, by rw [h2]; exact a2, a3, a4.k3 K, by unfold edIs plIs stIs hrIs ndIs; rw [h2]; exact a5, a6⟩
  · rw [h23]; unfold ndIs; rw [h2]; exact hx
  · unfold IvL; rw [h1 8 (by decide) (by decide), cR_n (by decide)]; exact lt
theorem bI_01 {b : Bool} : bI b = 0 ↔ b = false := by cases b <;> decide
theorem M_plan0 {w : Nat} {S : gS} {kd st h hr : Int32} : D_Mo_plan w kd st h hr d (mput w μ S) = B_Mo_plan_45 w kd st h hr d (bI (!(rng st 1 99 && (rng h 1 999 && (rng hr 0 23 && rng d 0 9999))))) (mput w μ S) := by
  unfold D_Mo_plan B_Mo_plan_40 D_Mo_isDay
  simp only [M_in, gB2_some]
  show (if bI (rng st 1 99) = 0 then _ else (if bI (rng h 1 999) = 0 then _ else (if bI (rng hr 0 23) = 0 then _ else gB2 (Option.bind (gZo (bI (rng d 0 9999))) _) _))) = _
  cases rng st 1 99
  · rfl
  cases rng h 1 999
  · rfl
  cases rng hr 0 23
  · rfl
  cases rng d 0 9999
  · rfl
  · rfl
theorem gTry_r {α β : Type} {x : Option ((String ⊕ α) × gS)} {f : α → gS → Option ((String ⊕ β) × gS)} {v : α} {S : gS} (h : x = some (.inr v, S)) : gTry x f = f v S := by rw [h]; rfl
theorem gTry_l {α β : Type} {x : Option ((String ⊕ α) × gS)} {f : α → gS → Option ((String ⊕ β) × gS)} {E : String} {S : gS} (h : x = some (.inl E, S)) : gTry x f = some (.inl E, S) := by rw [h]; rfl
theorem C_plan0 {kd st h hr : Int32} {S : gS} (hg : gRoom S) : D_PT_plan z kd st h hr d S = if rng kd 1 9 = true then (if (rng st 1 99 && (rng h 1 999 && (rng hr 0 23 && rng d 0 9999))) = true then Option.bind (gOb S z 0) (fun fs17 => gB2 (D_PT_editionOf z d S) (fun r16 S15 => Option.bind r16 (fun a18 => Option.bind (gOb S15 a18 1) (fun fs21 => gB2 (D_Ed_bestPlan a18 kd st h hr S15) (fun r20 S19 => gNul r20 (Option.bind (gOb S19 a18 1) (fun fs25 => gB2 (D_Ed_defaultNeeds a18 kd S19) (fun r24 S23 => gNul r24 (Option.bind (gRf S23 z 0 8) (fun r27 => B_PT_plan_112 none r27 z S23)) (fun a26 => B_PT_plan_112 (some a26) (some a26) z S23)))) (fun a22 => Option.bind (gRf S19 a22 5 5) (fun r28 => Option.bind (gPut S19 z 0 9 (va_rf r28)) (fun S29 => Option.bind (gI S29 a22 5 0) (fun v30 => some (.inr v30, S29))))))))) ) else some (.inl IOOBE, gTh S)) else some (.inl IAE, gTh S) := by
  unfold D_PT_plan B_PT_plan_11
  rw [gThr_ok hg]
  by_cases h0 : rng kd 1 9 = true
  · obtain ⟨k1, k2⟩ := rng_spec.mp h0
    rw [if_neg (i_len k1), if_pos k2, if_pos h0]
    by_cases h1 : rng st 1 99 = true
    · rw [gTry_r (by rw [C_within hg, if_pos h1])]
      by_cases h2 : rng h 1 999 = true
      · rw [gTry_r (by rw [C_within hg, if_pos h2])]
        by_cases h3 : rng hr 0 23 = true
        · rw [gTry_r (by rw [C_within hg, if_pos h3])]
          by_cases h4 : rng d 0 9999 = true
          · rw [gTry_r (by rw [C_day hg, if_pos h4]), if_pos (by rw [h1, h2, h3, h4]; rfl)]
          · rw [gTry_l (by rw [C_day hg, if_neg h4]), if_neg (by rw [Bool.eq_false_iff.mpr h4, h1, h2, h3]; decide)]
        · rw [gTry_l (by rw [C_within hg, if_neg h3]), if_neg (by rw [Bool.eq_false_iff.mpr h3, h1, h2]; exact fun x => by cases x)]
      · rw [gTry_l (by rw [C_within hg, if_neg h2]), if_neg (by rw [Bool.eq_false_iff.mpr h2, h1]; exact fun x => by cases x)]
    · rw [gTry_l (by rw [C_within hg, if_neg h1]), if_neg (by rw [Bool.eq_false_iff.mpr h1]; exact fun x => by cases x)]
  · rw [if_neg h0]
    by_cases k1 : kd < 1
    · rw [if_pos k1]; rfl
    · rw [if_neg k1, if_neg (fun k2 => h0 (rng_spec.mpr ⟨i_nlt k1, k2⟩))]; rfl
/-- the edition that both find: its value, where the class has it, which one it is -/
theorem fnd_ed (h : Iv z χ μ T k n a dd Ev L P) : (fnd dd d n = none ∧ EdAt (Full z χ μ T) (adr z a (fnd dd d n)) (-1) E0) ∨ ∃ i, i < n ∧ fnd dd d n = some i ∧ EdAt (Full z χ μ T) (adr z a (fnd dd d n)) (dd i) (Ev i) ∧ edIs μ i (Ev i) ∧ edLen (Ev i) ≤ 400 := by
  cases hf : fnd dd d n with
  | none => exact Or.inl ⟨rfl, F_no⟩
  | some i =>
    have hi := fnd_lt hf
    obtain ⟨-, -, -, a4, a5, a6⟩ := h.2.1.2.2.2 i hi
    exact Or.inr ⟨i, hi, rfl, a4, a5, a6⟩
theorem bst_E0 {kd st h hr : Int32} : ∀ i, bst E0 kd st h hr i = none
  | 0 => rfl
  | i + 1 => (bst_n (E := E0) (i := i) rfl).trans (bst_E0 i)
theorem K_plan {kd st h hr : Int32} (hv : Ivs z χ μ T k) (hk : k < 512) : Call z χ μ T k (fun S => D_La_plan (some z) kd st h hr d (some (z + 29)) S) (fun w S => D_Mo_plan w kd st h hr d S) := by
  obtain ⟨n, a, dd, Ev, L, P, hv⟩ := hv
  have hg : gRoom (Full z χ μ T) := hv.gRoom hk
  have hn := hv.2.1.1
  have cls : D_La_plan (some z) kd st h hr d (some (z + 29)) (Full z χ μ T) = gCat (D_PT_plan z kd st h hr d (Full z χ μ T)) (fun E3 S6 => (if E3 = "java/lang/IllegalArgumentException" then some (1, S6) else (if E3 = "java/lang/IndexOutOfBoundsException" then some (2, S6) else none))) (fun v4 S5 => Option.bind (gSL S5 (z + 29) 1 0 v4.toInt64) (fun S14 => some (0, S14))) := by
    unfold D_La_plan
    simp only [Option.bind_some]
    rw [show gOb (Full z χ μ T) z 0 = some (cfs z χ) from c_ob]
    rfl
  by_cases h0 : rng kd 1 9 = true
  · by_cases h1 : (rng st 1 99 && (rng h 1 999 && (rng hr 0 23 && rng d 0 9999))) = true
    · simp only [Bool.and_eq_true] at h1
      obtain ⟨j, hj, rfl⟩ := rng_nI (n := 23) (by decide) h1.2.2.1
      obtain ⟨kd, hkd0, hkd, rfl⟩ := rng_nat (lo := 1) (hi := 9) rfl rfl (by decide) (by decide) h0
      have hj' : j < 24 := by omega
      have h1' : (rng st 1 99 && (rng h 1 999 && (rng (nI j) 0 23 && rng d 0 9999))) = true := by simp only [Bool.and_eq_true]; exact h1
      have ref : ∀ w S, D_Mo_plan w (nI kd) st h (nI j) d (mput w μ S) = (if 0 ≤ idx (fnd dd d n) then gB2 (D_Mo_best w (idx (fnd dd d n)) (nI kd) st h (nI j) (mput w (mI μ 0 0) S)) (fun v10 S9 => B_Mo_plan_102 w (nI kd) (idx (fnd dd d n)) v10 S9) else B_Mo_plan_102 w (nI kd) (idx (fnd dd d n)) (-1) (mput w (mI μ 0 0) S)) := by
        intro w S
        rw [M_plan0, h1']
        unfold B_Mo_plan_45
        simp only [M_in, gB2_some]
        rw [show (decide ((1 : Int32) ≤ nI kd) && decide (nI kd ≤ 9)) = true from h0, if_neg (by decide)]
        unfold B_Mo_plan_63
        simp only [m_ob, Option.bind_some]
        rw [show D_Mo_throwing w 0 (bI (!true)) 0 (mput w μ S) = some (0, mput w (mI μ 0 0) S) from M_th0]
        simp only [gB2_some]
        rw [if_pos trivial]
        simp only [m_ob, Option.bind_some]
        rw [M_edOf hv.2.1 (μ' := mI μ 0 0) rfl (mI_n (by decide))]
        simp only [gB2_some, m_ob, Option.bind_some]
      have fin : ∀ (v x : Int32) (l c : Nat) (V : Nat → Nat → Int32), c ≤ 5 → NLat (Full z χ μ T) l c V → ((x = -1 ∧ c = 0) ∨ ∃ s, s < 50 * n ∧ x = nI s ∧ ndIs μ s c V) → D_PT_plan z (nI kd) st h (nI j) d (Full z χ μ T) = some (.inr v, Full z (cR χ 9 (some l)) μ T) → (∀ w S, D_Mo_plan w (nI kd) st h (nI j) d (mput w μ S) = some (v, mput w (mI (mI μ 0 0) 23 x) S)) → Call z χ μ T k (fun S => D_La_plan (some z) (nI kd) st h (nI j) d (some (z + 29)) S) (fun w S => D_Mo_plan w (nI kd) st h (nI j) d S) := by
        intro v x l c V hc hl hx hX hm
        exact K_ok cls hX hm (by rw [mI_n (by decide), mI_s]) (hv.told (μ' := mI (mI μ 0 0) 23 x) hc hl hx rfl mI_s (fun k h0 h23 => by rw [mI_n h23, mI_n h0]))
      have cl : D_PT_plan z (nI kd) st h (nI j) d (Full z χ μ T) = Option.bind (gOb (Full z χ μ T) (adr z a (fnd dd d n)) 1) (fun _ => gB2 (D_Ed_bestPlan (adr z a (fnd dd d n)) (nI kd) st h (nI j) (Full z χ μ T)) (fun r20 S19 => gNul r20 (Option.bind (gOb S19 (adr z a (fnd dd d n)) 1) (fun fs25 => gB2 (D_Ed_defaultNeeds (adr z a (fnd dd d n)) (nI kd) S19) (fun r24 S23 => gNul r24 (Option.bind (gRf S23 z 0 8) (fun r27 => B_PT_plan_112 none r27 z S23)) (fun a26 => B_PT_plan_112 (some a26) (some a26) z S23)))) (fun a22 => Option.bind (gRf S19 a22 5 5) (fun r28 => Option.bind (gPut S19 z 0 9 (va_rf r28)) (fun S29 => Option.bind (gI S29 a22 5 0) (fun v30 => some (.inr v30, S29))))))) := by
        rw [C_plan0 hg, if_pos h0, if_pos h1', show gOb (Full z χ μ T) z 0 = some (cfs z χ) from c_ob]
        simp only [Option.bind_some]
        rw [C_edOf hv.2.1]
        simp only [Option.bind_some, gB2_some]
      have p9 : ∀ r, gPut (Full z χ μ T) z 0 9 (va_rf r) = some (Full z (cR χ 9 r) μ T) := fun r => c_P9
      rcases fnd_ed (d := d) hv with ⟨hf, hE⟩ | ⟨i, hi, hf, hE, hM, -⟩
      · obtain ⟨gp, gd, gs, hF, hA, hD, -, -, z0, -⟩ := hE
        refine fin (-1) (-1) (z + 8) 0 (fun _ _ => 0) (by omega) F_nn (Or.inl ⟨rfl, rfl⟩) ?_ (fun w S => ?_)
        · rw [cl, e_O hF.1, C_best hF hA z0 hj', bst_E0]
          simp only [Option.bind_some, Option.bind_none, gB2_some, gNul]
          rw [e_O hF.1, C_defNeeds hF hkd, (hD kd hkd).1 rfl]
          simp only [Option.bind_some, gB2_some]
          rw [show gRf (Full z χ μ T) z 0 8 = some (some (z + 8)) from c_R8]
          simp only [Option.bind_some]
          unfold B_PT_plan_112 B_PT_plan_125
          rw [p9]
          rfl
        · rw [ref w S, hf, if_neg (by decide)]
          unfold B_Mo_plan_102 B_Mo_plan_145 B_Mo_plan_146 B_Mo_plan_169 B_Mo_plan_195
          rw [if_pos (show idx none < 0 by decide), if_pos rfl]
          simp only [m_P23, Option.bind_some]
          rw [if_pos trivial, if_neg (by decide)]
      · have hO := hE.ok
        obtain ⟨gp, gd, gs, hF, hA, hD, -, -, z0, -⟩ := hE
        have bM := M_best (k := nI kd) (st := st) (h := h) (μ := mI μ 0 0) (show i ≤ 6 by omega) (show edIs (mI μ 0 0) i (Ev i) from hM) hO hj'
        have ref2 : ∀ w S, D_Mo_plan w (nI kd) st h (nI j) d (mput w μ S) = B_Mo_plan_102 w (nI kd) (nI i) (sref i (bst (Ev i) (nI kd) st h (nI j) 41)) (mput w (mI μ 0 0) S) := by
          intro w S
          rw [ref w S, hf, if_pos (show (0 : Int32) ≤ idx (some i) from nI_pos' (by omega)), show idx (some i) = nI i from rfl, bM w S]
          rfl
        have i0 : ¬ nI i < 0 := nI_pos (by omega)
        cases hb : bst (Ev i) (nI kd) st h (nI j) 41 with
        | some p =>
          obtain ⟨hp, v, hpv, hfit⟩ := bst_in hb
          obtain ⟨q, q1, ⟨qa, qb, ql, s1, s2, s3, s4⟩, q3⟩ := (hA p (by omega)).2 v hpv
          have hp1 : 1 ≤ p := by
            rcases Nat.eq_zero_or_pos p with e0 | e0
            · rw [e0, z0] at hpv; cases hpv
            · exact e0
          have pi := (hM.1 p hp1 (by omega)).2 v hpv
          refine fin (nI p) (nI (50 * i + p)) ql v.2.1 v.2.2 q3.2.2.2.2.2 s4 (Or.inr ⟨50 * i + p, by omega, rfl, pi.2.2.2.2.2⟩) ?_ (fun w S => ?_)
          · rw [cl, e_O hF.1, C_best hF hA z0 hj', hb]
            simp only [Option.bind_some, gB2_some, q1, gNul]
            rw [e_R s1 (k := 5) (q := ql) rfl]
            simp only [Option.bind_some]
            rw [p9]
            simp only [Option.bind_some]
            have K : Kp lf3 (Full z χ μ T) (Full z (cR χ 9 (some ql)) μ T) := F_kp hv.1 (fun q x _ hq _ => hq)
            rw [e_I (K _ _ s1 rfl) (k := 0) (v := nI p) rfl]
            rfl
          · rw [ref2 w S, hb]
            unfold B_Mo_plan_102 B_Mo_plan_145 B_Mo_plan_146 B_Mo_plan_169 B_Mo_plan_195
            rw [if_neg i0, if_pos (show (0 : Int32) ≤ sref i (some p) from nI_pos' (by omega)), if_pos rfl, show sref i (some p) = nI (50 * i + p) from rfl]
            simp only [m_P23, Option.bind_some]
            rw [if_pos trivial, if_pos (nI_pos' (by omega)), show (50 : Int32) = nI 50 from rfl, pk_rem (by omega) (by decide) (by decide), show (50 * i + p) % 50 = p by omega]
        | none =>
          have r3 : ∀ w S, D_Mo_plan w (nI kd) st h (nI j) d (mput w μ S) = if μ.2 3 (50 * i + 40 + kd) = 0 then B_Mo_plan_145 w (nI kd) (nI i) (-1) (mput w (mI μ 0 0) S) else B_Mo_plan_146 w (nI kd) (nI i) (-1) 1 (mput w (mI μ 0 0) S) := by
            intro w S
            rw [ref2 w S, hb]
            unfold B_Mo_plan_102 B_Mo_plan_131
            rw [if_neg i0, if_neg (show ¬ (0 : Int32) ≤ sref i none from (by decide : ¬ (0 : Int32) ≤ -1))]
            simp only [m_R10, Option.bind_some]
            rw [if_pos (nI_pos' (by omega)), show (50 * nI i + 40 + nI kd : Int32) = nI (50 * i + 40 + kd) by rw [show (50 : Int32) = nI 50 from rfl, show (40 : Int32) = nI 40 from rfl, pk_mul, nI_add, nI_add], m_g3 (by omega)]
            rfl
          cases hdv : (Ev i).2.1 kd with
          | none =>
            refine fin (-1) (-1) (z + 8) 0 (fun _ _ => 0) (by omega) F_nn (Or.inl ⟨rfl, rfl⟩) ?_ (fun w S => ?_)
            · rw [cl, e_O hF.1, C_best hF hA z0 hj', hb]
              simp only [Option.bind_some, Option.bind_none, gB2_some, gNul]
              rw [e_O hF.1, C_defNeeds hF hkd, (hD kd hkd).1 hdv]
              simp only [Option.bind_some, gB2_some]
              rw [show gRf (Full z χ μ T) z 0 8 = some (some (z + 8)) from c_R8]
              simp only [Option.bind_some]
              unfold B_PT_plan_112 B_PT_plan_125
              rw [p9]
              rfl
            · rw [r3 w S, if_pos ((hM.2.1 kd hkd0 hkd).1 hdv)]
              unfold B_Mo_plan_145 B_Mo_plan_146 B_Mo_plan_169 B_Mo_plan_195
              rw [if_pos rfl]
              simp only [m_P23, Option.bind_some]
              rw [if_pos trivial, if_neg (by decide)]
          | some v =>
            obtain ⟨q, q1, q2, q3⟩ := (hD kd hkd).2 v hdv
            obtain ⟨m1, m2⟩ := (hM.2.1 kd hkd0 hkd).2 v hdv
            refine fin 0 (nI (50 * i + 40 + kd)) q v.1 v.2 q3.2 q2 (Or.inr ⟨50 * i + 40 + kd, by omega, rfl, m2⟩) ?_ (fun w S => ?_)
            · rw [cl, e_O hF.1, C_best hF hA z0 hj', hb]
              simp only [Option.bind_some, Option.bind_none, gB2_some, gNul]
              rw [e_O hF.1, C_defNeeds hF hkd, q1]
              simp only [Option.bind_some, gB2_some]
              unfold B_PT_plan_112 B_PT_plan_125
              rw [p9]
              rfl
            · rw [r3 w S, if_neg (by rw [m1]; decide)]
              unfold B_Mo_plan_146 B_Mo_plan_169 B_Mo_plan_195
              rw [if_neg (by decide), show (50 * nI i + 40 + nI kd : Int32) = nI (50 * i + 40 + kd) by rw [show (50 : Int32) = nI 50 from rfl, show (40 : Int32) = nI 40 from rfl, pk_mul, nI_add, nI_add]]
              simp only [m_P23, Option.bind_some]
              rw [if_neg (by decide)]
    · refine K_th (Ex := IOOBE) (kk := 2) (b := 0) cls (by rw [C_plan0 hg, if_pos h0, if_neg h1]; rfl) (fun S => rfl) (by decide) (fun w S => ?_) hv
      rw [M_plan0, Bool.eq_false_iff.mpr h1]
      unfold B_Mo_plan_45
      simp only [M_in, gB2_some]
      rw [show (decide ((1 : Int32) ≤ kd) && decide (kd ≤ 9)) = true from h0, if_neg (by decide)]
      unfold B_Mo_plan_63
      simp only [m_ob, Option.bind_some]
      rw [show D_Mo_throwing w 0 (bI (!false)) 0 (mput w μ S) = some (1, mput w (mI μ 0 2) S) from M_th01]
      simp only [gB2_some]
      rw [if_neg (by decide)]
  · refine K_th (Ex := IAE) (kk := 1) (b := 0) cls (by rw [C_plan0 hg, if_neg h0]; rfl) (fun S => rfl) (by decide) (fun w S => ?_) hv
    rw [M_plan0]
    unfold B_Mo_plan_45
    simp only [M_in, gB2_some]
    rw [show (decide ((1 : Int32) ≤ kd) && decide (kd ≤ 9)) = false from Bool.eq_false_iff.mpr h0, if_pos (show bI false = 0 from rfl)]
    unfold B_Mo_plan_63
    simp only [m_ob, Option.bind_some, M_th1, gB2_some]
    rw [if_neg (by decide)]
end KP
