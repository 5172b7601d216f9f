/-! THE CALL PRINT -/
section KPR
variable {z k n L P b e : Nat} {χ χ' : cS} {μ μ' μ0 : mS} {T : gS} {d : Int32} {a : Nat → Nat} {dd : Nat → Int32} {Ev : Nat → EV} {E : EV}
theorem S_edition {d' : Int32} (ht : TOk z T) (hE : EdAt (Full z χ μ0 T) e d' E) (hb : b ≤ 6) (hM : edIs μ b E) (hl : edLen E ≤ 400) (h : IvP χ μ 0) : ∃ χ' μ', L_Pr_writeEdition_7 gF (z + 10) (some e) 1 (Full z χ μ0 T) = some (Full z χ' μ0 T) ∧ (∀ w S, L_Mo_print_36 gF w (nI b) 1 (mput w μ S) = some (nI (edLen E), mput w μ' S)) ∧ IvP χ' μ' (edLen E) ∧ PF χ χ' μ μ' := by
  obtain ⟨gp, gd, gs, hF, hA, hD, hB, h8, z1, z2⟩ := hE
  have K : ∀ χ', Kp lf3 (Full z χ μ0 T) (Full z χ' μ0 T) := fun χ' => F_kp ht (fun q x _ hq _ => hq)
  have hF' := fun χ' => hF.k3 (K χ')
  have hA' := fun χ' => hA.kk (K χ').l3
  have hD' := fun χ' => hD.kk (K χ').l3
  have hB' := fun χ' => hB.kk (K χ').l3
  have el : edLen E = sm (pls E) 41 + sm (dfs E) 10 + sm (fun i => sbLen (E.2.2.2 i)) E.2.2.1 := rfl
  have p1 : sm (pls E) 1 = 0 := by
    show 0 + pls E 0 = 0
    unfold pls; rw [z1]; rfl
  have d1 : sm (dfs E) 1 = 0 := by
    show 0 + dfs E 0 = 0
    unfold dfs; rw [z2]; rfl
  obtain ⟨χ1, μ1, a1, a2, a3, a4⟩ := S_ed1 ht hF' hA' hb 40 1 gF 0 (sm (pls E) 41) χ μ rfl (by decide) (by decide) (by decide) hM (by omega) h (by omega)
  obtain ⟨χ2, μ2, b1, b2, b3, b4⟩ := S_ed2 ht hF' hD' hb 9 1 gF _ (sm (dfs E) 10) χ1 μ1 rfl (by decide) (by decide) (by decide) (a4.ed hM) (by omega) a3 (by omega)
  obtain ⟨χ3, μ3, c1, c2, c3, c4⟩ := S_ed3 ht hF' hB' h8 hb E.2.2.1 0 gF gF _ (sm (fun i => sbLen (E.2.2.2 i)) E.2.2.1) χ2 μ2 (by omega) (by omega) (by decide) (by have : gF = 1000 := rfl; omega) ((a4.tr b4).ed hM) (Nat.zero_add _) b3 (by omega)
  rw [Nat.zero_add, ← el] at c2 c3
  refine ⟨χ3, μ3, a1.trans (b1.trans c1), fun w S => ?_, c3, (a4.tr b4).tr c4⟩
  exact (a2 960 w S).trans ((b2 950 w S).trans (c2 w S))
theorem Iv.print {P' : Nat} (h : Iv z χ μ T k n a dd Ev L P) (hP : IvP χ' μ' P') (hc : (∀ k, k ≠ 11 → χ'.1 k = χ.1 k) ∧ χ'.2.1 = χ.2.1 ∧ (∀ j, j ≠ 11 → χ'.2.2.1 j = χ.2.2.1 j) ∧ χ'.2.2.2 = χ.2.2.2) (hm : ∀ k, k ≠ 0 → k ≠ 25 → μ'.1 k = μ.1 k) (hm2 : ∀ j, j ≠ 16 → μ'.2 j = μ.2 j) : Iv z χ' μ' T (k + 1) n a dd Ev L P' := by
  obtain ⟨t, ⟨e1, e2, e3, e4⟩, ⟨t1, t2, t3, t4, t5⟩, ⟨l, c, V, n1, n2, n3, n4⟩, -, u, lt, pl, ⟨r1, r2⟩⟩ := h
  have K : Kp lf3 (Full z χ μ T) (Full z χ' μ' T) := F_kp t (fun q x _ hq _ => hq)
  refine ⟨t, ⟨e1, by rw [hc.1 5 (by decide)]; exact e2, by rw [hm 7 (by decide) (by decide)]; exact e3, fun i hi => ?_⟩, ⟨t1, by rw [hc.1 1 (by decide)]; exact t2, by rw [hm 2 (by decide) (by decide)]; exact t3, by rw [hc.2.2.1 1 (by decide)]; exact t4, by rw [hc.2.2.1 1 (by decide), hm2 1 (by decide)]; exact t5⟩, ⟨l, c, V, by rw [hc.2.1]; exact n1, n2, n3.kk K.l3.l2, ?_⟩, hP, by unfold IvU; rw [hm2 15 (by decide), hc.2.2.1 2 (by decide)]; exact u, ?_, by rw [hc.1 2 (by decide), hm 6 (by decide) (by decide)]; exact pl, ⟨by omega, by omega⟩⟩
  · obtain ⟨a1, a2, a3, a4, a5, a6⟩ := e4 i hi
    refine ⟨by rw [hc.2.2.2]; exact a1, by rw [hm2 2 (by decide)]; exact a2, a3, a4.k3 K, ?_, a6⟩
    unfold edIs plIs stIs hrIs ndIs
    rw [hm2 3 (by decide), hm2 4 (by decide), hm2 5 (by decide), hm2 6 (by decide), hm2 7 (by decide), hm2 8 (by decide), hm2 9 (by decide), hm2 10 (by decide), hm2 11 (by decide), hm2 12 (by decide), hm2 13 (by decide), hm2 14 (by decide)]
    exact a5
  · rw [hm 23 (by decide) (by decide)]
    unfold ndIs
    rw [hm2 11 (by decide), hm2 12 (by decide)]
    exact n4
  · unfold IvL; rw [hm 8 (by decide) (by decide), hc.2.1]; exact lt
theorem K_print (hv : Ivs z χ μ T k) (hk : k < 512) : Call z χ μ T k (fun S => D_La_print (some z) d (some (z + 29)) S) (fun w S => D_Mo_print w d S) := by
  obtain ⟨n, a, dd, Ev, L, P, hv⟩ := hv
  have hn := hv.2.1.1
  have hg : gRoom (Full z χ μ T) := hv.gRoom hk
  have cls : D_La_print (some z) d (some (z + 29)) (Full z χ μ T) = gCat (D_PT_print z d (Full z χ μ T)) (fun E3 S6 => (if E3 = "java/lang/IndexOutOfBoundsException" then some (1, S6) else none)) (fun v4 S5 => Option.bind (gSL S5 (z + 29) 1 0 v4.toInt64) (fun S14 => some (0, S14))) := by
    unfold D_La_print
    simp only [Option.bind_some]
    rw [show gOb (Full z χ μ T) z 0 = some (cfs z χ) from c_ob]
    rfl
  have isD : ∀ S, D_Mo_isDay d S = some (bI (rng d 0 9999), S) := fun S => by
    unfold D_Mo_isDay
    simp only [M_in, gB2_some]
    show Option.bind (gZo (bI (rng d 0 9999))) _ = _
    cases rng d 0 9999 <;> rfl
  by_cases h0 : rng d 0 9999 = true
  · have cl : ∀ χ' v, L_Pr_writeEdition_7 gF (z + 10) (some (adr z a (fnd dd d n))) 1 (Full z (cI χ 11 0) μ T) = some (Full z χ' μ T) → χ'.1 11 = v → D_PT_print z d (Full z χ μ T) = some (.inr v, Full z χ' μ T) := by
      intro χ' v h1 h2
      unfold D_PT_print D_Pr_writeEdition
      rw [gTry_r (by rw [C_day hg, if_pos h0]), show gRf (Full z χ μ T) z 0 10 = some (some (z + 10)) from c_R10, show gOb (Full z χ μ T) z 0 = some (cfs z χ) from c_ob]
      simp only [Option.bind_some]
      rw [C_edOf hv.2.1]
      simp only [Option.bind_some, gB2_some]
      rw [pr_ob]
      simp only [Option.bind_some]
      rw [show gPut (Full z χ μ T) (z + 10) 6 1 (.int 0) = some (Full z (cI χ 11 0) μ T) from c_PrP]
      simp only [Option.bind_some]
      rw [h1]
      simp only [Option.bind_some]
      rw [show gRf (Full z χ' μ T) z 0 10 = some (some (z + 10)) from c_R10]
      simp only [Option.bind_some]
      rw [show gI (Full z χ' μ T) (z + 10) 6 1 = some v by rw [← h2]; exact c_Pr1]
      rfl
    have rf : ∀ w S, D_Mo_print w d (mput w μ S) = L_Mo_print_36 gF w (idx (fnd dd d n)) 1 (mput w (mI (mI μ 0 0) 25 0) S) := by
      intro w S
      unfold D_Mo_print
      rw [isD, h0]
      simp only [gB2_some]
      rw [if_neg (by decide)]
      unfold B_Mo_print_13
      simp only [m_ob, Option.bind_some, M_th0, gB2_some]
      rw [if_pos trivial]
      simp only [m_P25, m_ob, Option.bind_some]
      rw [M_edOf hv.2.1 (μ' := mI (mI μ 0 0) 25 0) rfl (by rw [mI_n (by decide), mI_n (by decide)])]
      rfl
    have chiF : ∀ {χ' μa μb}, PF (cI χ 11 0) χ' μa μb → (∀ k, k ≠ 11 → χ'.1 k = χ.1 k) ∧ χ'.2.1 = χ.2.1 ∧ (∀ j, j ≠ 11 → χ'.2.2.1 j = χ.2.2.1 j) ∧ χ'.2.2.2 = χ.2.2.2 := fun h => ⟨fun k hk => (h.1.1 k hk).trans (cI_n hk), h.1.2.1, h.1.2.2.1, h.1.2.2.2⟩
    have K : Kp lf3 (Full z χ μ T) (Full z (cI χ 11 0) μ T) := F_kp hv.1 (fun q x _ hq _ => hq)
    rcases fnd_ed (d := d) hv with ⟨hf, hE⟩ | ⟨i, hi, hf, hE, hM, hl⟩
    · have m0 : edIs ((fun _ => 0), fun _ _ => 0) 0 E0 := ⟨fun k _ _ => ⟨fun _ => rfl, fun v hv => by cases hv⟩, fun k _ _ => ⟨fun _ => rfl, fun v hv => by cases hv⟩, rfl, fun i hi => absurd hi (by show ¬ i < 0; omega)⟩
      obtain ⟨χ', μ', a1, a2, a3, a4⟩ := S_edition (χ := cI χ 11 0) (μ := ((fun _ => 0), fun _ _ => 0)) (μ0 := μ) (b := 0) hv.1 (hE.k3 K) (by omega) m0 (by rw [E0_len]; omega) ⟨by omega, cI_s, rfl, fun i hi => absurd hi (by omega)⟩
      rw [E0_len] at a3
      refine K_ok (v := nI 0) (χ' := χ') (μ' := mI (mI μ 0 0) 25 0) (T' := T) cls (cl χ' (nI 0) a1 a3.2.1) (fun w S => ?_) (by rw [mI_n (by decide), mI_s]) (hv.print (P' := 0) ⟨by omega, a3.2.1, mI_s, fun i hi => absurd hi (by omega)⟩ (chiF a4) (fun k h0 h25 => by rw [mI_n h25, mI_n h0]) (fun j hj => rfl))
      rw [rf w S, hf, show gF = 999 + 1 from rfl, L36p_s]
      unfold B_Mo_print_36 B_Mo_print_114
      rw [if_pos (show idx none < 0 by decide), show gF = 999 + 1 from rfl, L116p_s]
      unfold B_Mo_print_116 B_Mo_print_232
      rw [if_pos (show idx none < 0 by decide)]
      simp only [m_I25, Option.bind_some]
      rw [mI_s]
      rfl
    · obtain ⟨χ', μ', a1, a2, a3, a4⟩ := S_edition (χ := cI χ 11 0) (μ := mI (mI μ 0 0) 25 0) (μ0 := μ) (b := i) hv.1 (hE.k3 K) (by omega) (show edIs (mI (mI μ 0 0) 25 0) i (Ev i) from hM) hl ⟨by omega, cI_s, mI_s, fun i hi => absurd hi (by omega)⟩
      refine K_ok (v := nI (edLen (Ev i))) (χ' := χ') (μ' := μ') (T' := T) cls (cl χ' _ a1 a3.2.1) (fun w S => ?_) (by rw [a4.2.1 0 (by decide), mI_n (by decide), mI_s]) (hv.print a3 (chiF a4) (fun k h0 h25 => by rw [a4.2.1 k h25, mI_n h25, mI_n h0]) (fun j hj => a4.2.2 j hj))
      rw [rf w S, hf]
      exact a2 w S
  · refine K_th (Ex := IOOBE) (kk := 1) (b := 0) cls ?_ (fun S => rfl) (by decide) (fun w S => ?_) hv
    · unfold D_PT_print
      rw [gTry_l (by rw [C_day hg, if_neg h0])]; rfl
    · unfold D_Mo_print
      rw [isD, Bool.eq_false_iff.mpr h0]
      simp only [gB2_some]
      rw [if_pos (show bI false = 0 from rfl)]
      unfold B_Mo_print_13
      simp only [m_ob, Option.bind_some, M_th1, gB2_some]
      rw [if_neg (by decide)]
end KPR
