/-! THE CALLS NEED, AT, COUNT -/
theorem NdV_g {v : Nat → Int32} : ∀ m, m < 5 → (NdV v)[m]? = some (.int (v m))
  | 0, _ => rfl
  | 1, _ => rfl
  | 2, _ => rfl
  | 3, _ => rfl
  | 4, _ => rfl
section KN
variable {z k : Nat} {χ : cS} {μ : mS} {T : gS}
theorem K_need {i wh : Int32} (hv : Ivs z χ μ T k) (hk : k < 512) : Call z χ μ T k (fun S => D_La_need (some z) i wh (some (z + 29)) S) (fun w S => D_Mo_need w i wh S) := by
  obtain ⟨n, a, dd, Ev, L, P, hv⟩ := hv
  have hg : gRoom (Full z χ μ T) := hv.gRoom hk
  have cls : D_La_need (some z) i wh (some (z + 29)) (Full z χ μ T) = gCat (D_PT_need z i wh (Full z χ μ T)) (fun E3 S6 => (if E3 = "java/lang/IllegalArgumentException" then some (1, S6) else none)) (fun v4 S5 => Option.bind (gSL S5 (z + 29) 1 0 v4.toInt64) (fun S14 => some (0, S14))) := by
    unfold D_La_need
    simp only [Option.bind_some]
    rw [show gOb (Full z χ μ T) z 0 = some (cfs z χ) from c_ob]
    rfl
  obtain ⟨-, hE, -, ⟨l, c, V, n1, n2, n3, n4⟩, -⟩ := id hv
  obtain ⟨g, l1, l2, l3⟩ := n3
  have cl : D_PT_need z i wh (Full z χ μ T) = gB2 (D_NL_needAt l i (Full z χ μ T)) (fun r4 S3 => gNul r4 (Option.bind (gThr S3) (fun S7 => some (.inl "java/lang/IllegalArgumentException", S7))) (fun a6 => (if wh = 0 then Option.bind (gI S3 a6 3 0) (fun v9 => some (.inr v9, S3)) else (if wh = 1 then Option.bind (gI S3 a6 3 1) (fun v11 => some (.inr v11, S3)) else (if wh = 2 then Option.bind (gI S3 a6 3 2) (fun v13 => some (.inr v13, S3)) else (if wh = 3 then Option.bind (gI S3 a6 3 3) (fun v15 => some (.inr v15, S3)) else (if wh = 4 then Option.bind (gI S3 a6 3 4) (fun v17 => some (.inr v17, S3)) else Option.bind (gThr S3) (fun S18 => some (.inl "java/lang/IllegalArgumentException", S18))))))))) := by
    unfold D_PT_need
    rw [show gRf (Full z χ μ T) z 0 9 = some (χ.2.1 9) from c_R9, n1]
    simp only [Option.bind_some]
    rw [e_O l1]
    simp only [Option.bind_some]
  have bad : (∀ w S, D_Mo_need w i wh (mput w μ S) = B_Mo_need_50 w i wh (mput w μ S)) → D_PT_need z i wh (Full z χ μ T) = some (.inl IAE, Full z χ μ (gTh T)) → Call z χ μ T k (fun S => D_La_need (some z) i wh (some (z + 29)) S) (fun w S => D_Mo_need w i wh S) := by
    intro hm hX
    refine K_th (Ex := IAE) (kk := 1) (b := 0) cls hX (fun S => rfl) (by decide) (fun w S => ?_) hv
    rw [hm w S]
    unfold B_Mo_need_50 B_Mo_need_51
    rw [if_pos rfl]
    unfold B_Mo_need_62
    simp only [m_ob, Option.bind_some, M_th1, gB2_some]
    rw [if_neg (by decide)]
  by_cases hi : ∃ j, j < c ∧ i = nI j
  · obtain ⟨j, hj, rfl⟩ := hi
    obtain ⟨o1, q, o2, o3⟩ := l3 j hj
    have nA : D_NL_needAt l (nI j) (Full z χ μ T) = some (some q, Full z χ μ T) := by
      unfold D_NL_needAt B_NL_needAt_22
      rw [if_neg (nI_pos (by omega)), e_I l1 (k := 1) (v := nI c) rfl]
      simp only [Option.bind_some]
      rw [if_neg (nI_ge hj (by omega)), e_R l1 (k := 0) (q := l + 1) rfl]
      simp only [Option.bind_some]
      rw [e_AR l2 (by omega) (by decide), o2]
      rfl
    rcases n4 with ⟨-, h0⟩ | ⟨s, s1, s2, s3, s4⟩
    · omega
    · have hs : s < 350 := by have := hE.1; omega
      obtain ⟨c', rfl⟩ : ∃ c', c = c' + 1 := ⟨c - 1, by omega⟩
      have rf : ∀ w S, D_Mo_need w (nI j) wh (mput w μ S) = (if bI (rng wh 0 4) = 0 then B_Mo_need_50 w (nI j) wh (mput w μ S) else B_Mo_need_51 w (nI j) wh 1 (mput w μ S)) := by
        intro w S
        unfold D_Mo_need B_Mo_need_28
        simp only [m_I23, m_R18, Option.bind_some]
        rw [s2, if_neg (nI_pos (by omega)), if_pos (nI_pos' (by omega)), m_g11 hs, s3]
        simp only [Option.bind_some, M_in, gB2_some, nI_pred]
        rw [show (decide ((0 : Int32) ≤ nI j) && decide (nI j ≤ nI c')) = true by rw [decide_eq_true (nI_pos' (by omega)), decide_eq_true (nI_le (by omega) (by omega))]; rfl, if_neg (by decide)]
        rfl
      by_cases hw : rng wh 0 4 = true
      · obtain ⟨m, hm, rfl⟩ := rng_nI (n := 4) (by decide) hw
        refine K_ok (v := V j m) (μ' := mI μ 0 0) (T' := T) (χ' := χ) cls ?_ (fun w S => ?_) mI_s (hv.same hv.1 (fun q x _ hq _ => hq) (by omega) (by omega) rfl (fun k hk => mI_n hk))
        · rw [cl, nA]
          simp only [gB2_some, gNul]
          have f : ∀ m, m < 5 → gI (Full z χ μ T) q 3 m = some (V j m) := fun m hm => e_I o3 (NdV_g m hm)
          rcases (show m = 0 ∨ m = 1 ∨ m = 2 ∨ m = 3 ∨ m = 4 by omega) with rfl | rfl | rfl | rfl | rfl
          · rw [if_pos (by decide), f 0 (by decide)]; rfl
          · rw [if_neg (by decide), if_pos (by decide), f 1 (by decide)]; rfl
          · rw [if_neg (by decide), if_neg (by decide), if_pos (by decide), f 2 (by decide)]; rfl
          · rw [if_neg (by decide), if_neg (by decide), if_neg (by decide), if_pos (by decide), f 3 (by decide)]; rfl
          · rw [if_neg (by decide), if_neg (by decide), if_neg (by decide), if_neg (by decide), if_pos (by decide), f 4 (by decide)]; rfl
        · rw [rf w S, hw, if_neg (by decide)]
          unfold B_Mo_need_51
          rw [if_neg (by decide)]
          unfold B_Mo_need_62
          simp only [m_ob, Option.bind_some, M_th0, gB2_some]
          rw [if_pos trivial]
          simp only [m_R19, m_I23, Option.bind_some]
          rw [show (mI μ 0 0).1 23 = nI s by rw [mI_n (by decide)]; exact s2, show (25 * nI s + 5 * nI j + nI m : Int32) = nI (25 * s + 5 * j + m) by rw [show (25 : Int32) = nI 25 from rfl, show (5 : Int32) = nI 5 from rfl, pk_mul, pk_mul, nI_add, nI_add], m_g12 (by omega)]
          simp only [Option.bind_some]
          rw [show (mI μ 0 0).2 12 (25 * s + 5 * j + m) = V j m from s4 j hj m (by omega)]
      · refine bad (fun w S => ?_) ?_
        · rw [rf w S, Bool.eq_false_iff.mpr hw, if_pos (show bI false = 0 from rfl)]
        · rw [cl, nA]
          simp only [gB2_some, gNul]
          rw [if_neg (fun e => hw (by rw [e]; decide)), if_neg (fun e => hw (by rw [e]; decide)), if_neg (fun e => hw (by rw [e]; decide)), if_neg (fun e => hw (by rw [e]; decide)), if_neg (fun e => hw (by rw [e]; decide)), gThr_ok hg]
          rfl
  · have ix := pk_ix i (n := c) (by omega)
    refine bad (fun w S => ?_) ?_
    · rcases n4 with ⟨h23, -⟩ | ⟨s, s1, s2, s3, s4⟩
      · unfold D_Mo_need
        simp only [m_I23, Option.bind_some]
        rw [h23, if_pos (by decide)]
      · have hs : s < 350 := by have := hE.1; omega
        unfold D_Mo_need B_Mo_need_28
        simp only [m_I23, m_R18, Option.bind_some]
        rw [s2, if_neg (nI_pos (by omega)), if_pos (nI_pos' (by omega)), m_g11 hs, s3]
        simp only [Option.bind_some, M_in, gB2_some]
        rw [show (decide ((0 : Int32) ≤ i) && decide (i ≤ nI c - 1)) = false by
          rcases ix with h1 | h1 | h1
          · rw [decide_eq_false (i_ltn h1)]; rfl
          · cases c with
            | zero =>
              by_cases h2 : i ≤ nI 0 - 1
              · have : ¬ (0 : Int32) ≤ i := by
                  rw [Int32.le_iff_toInt_le] at h2 ⊢
                  have e1 : (nI 0 - 1).toInt = -1 := by decide
                  have e2 : (0 : Int32).toInt = 0 := by decide
                  omega
                rw [decide_eq_false this]; rfl
              · rw [decide_eq_false h2, Bool.and_false]
            | succ c' =>
              rw [nI_pred]
              have : ¬ i ≤ nI c' := by
                rw [Int32.le_iff_toInt_le] at h1 ⊢
                rw [nI_toInt (by omega)] at h1 ⊢
                omega
              rw [decide_eq_false this, Bool.and_false]
          · exact absurd h1 hi, if_pos (show bI false = 0 from rfl)]
    · rw [cl]
      have nA : D_NL_needAt l i (Full z χ μ T) = some (none, Full z χ μ T) := by
        unfold D_NL_needAt B_NL_needAt_21 B_NL_needAt_22
        rcases ix with h1 | h1 | h1
        · rw [if_pos h1]
        · by_cases h2 : i < 0
          · rw [if_pos h2]
          · rw [if_neg h2, e_I l1 (k := 1) (v := nI c) rfl]
            simp only [Option.bind_some]
            rw [if_pos h1]
        · exact absurd h1 hi
      rw [nA]
      simp only [gB2_some, gNul]
      rw [gThr_ok hg]
      rfl
theorem K_at {i : Int32} (hv : Ivs z χ μ T k) (hk : k < 512) : Call z χ μ T k (fun S => D_La_at (some z) i (some (z + 29)) S) (fun w S => D_Mo_at w i S) := by
  obtain ⟨n, a, dd, Ev, L, P, hv⟩ := hv
  have hg : gRoom (Full z χ μ T) := hv.gRoom hk
  have cls : D_La_at (some z) i (some (z + 29)) (Full z χ μ T) = gCat (D_PT_at z i (Full z χ μ T)) (fun E3 S6 => (if E3 = "java/lang/IndexOutOfBoundsException" then some (1, S6) else none)) (fun v4 S5 => Option.bind (gSL S5 (z + 29) 1 0 v4.toInt64) (fun S14 => some (0, S14))) := by
    unfold D_La_at
    simp only [Option.bind_some]
    rw [show gOb (Full z χ μ T) z 0 = some (cfs z χ) from c_ob]
    rfl
  obtain ⟨p1, p2, p3, p4⟩ := hv.2.2.2.2.1
  by_cases hi : (0 : Int32) ≤ i
  · have cl : D_PT_at z i (Full z χ μ T) = gB2 (D_Pr_byteAt (z + 10) i (Full z χ μ T)) (fun v7 S6 => some (.inr v7, S6)) := by
      unfold D_PT_at
      rw [gTry_r (by rw [C_index hg, if_pos hi]), show gRf (Full z χ μ T) z 0 10 = some (some (z + 10)) from c_R10]
      simp only [Option.bind_some]
      rw [show gOb (Full z χ μ T) (z + 10) 6 = some [.ref (z + 11), .int (χ.1 11)] from c_PrO]
      rfl
    have e1 : gI (Full z χ μ T) (z + 10) 6 1 = some (nI P) := by rw [← p2]; exact c_Pr1
    have rf : ∀ w S, D_Mo_at w i (mput w μ S) = (if nI P ≤ i then some (-1, mput w (mI μ 0 0) S) else Option.bind (gAI (mput w (mI μ 0 0) S) (w + 16) 0 i) (fun v9 => some (v9, mput w (mI μ 0 0) S))) := by
      intro w S
      unfold D_Mo_at B_Mo_at_10 B_Mo_at_38
      rw [if_pos hi]
      simp only [m_ob, Option.bind_some, M_th0, gB2_some]
      rw [if_pos trivial]
      simp only [m_I25, m_R24, Option.bind_some]
      rw [show (mI μ 0 0).1 25 = nI P by rw [mI_n (by decide)]; exact p3]
    have sm := hv.same (μ' := mI μ 0 0) hv.1 (fun q x _ hq _ => hq) (by omega) (by omega) rfl (fun k hk => mI_n hk)
    rcases pk_ix i (n := P) (by omega) with h1 | h1 | ⟨j, hj, rfl⟩
    · exact absurd hi (i_ltn h1)
    · refine K_ok (v := -1) (μ' := mI μ 0 0) (T' := T) (χ' := χ) cls ?_ (fun w S => ?_) mI_s sm
      · rw [cl]
        unfold D_Pr_byteAt B_Pr_byteAt_25 B_Pr_byteAt_26
        rw [if_neg (i_len hi), e1]
        simp only [Option.bind_some]
        rw [if_pos h1]
        rfl
      · rw [rf w S, if_pos h1]
    · refine K_ok (v := χ.2.2.1 11 j &&& 255) (μ' := mI μ 0 0) (T' := T) (χ' := χ) cls ?_ (fun w S => ?_) mI_s sm
      · rw [cl]
        unfold D_Pr_byteAt B_Pr_byteAt_26
        rw [if_neg (i_len hi), e1]
        simp only [Option.bind_some]
        rw [if_neg (nI_ge hj (by omega)), show gRf (Full z χ μ T) (z + 10) 6 0 = some (some (z + 11)) from c_Pr0]
        simp only [Option.bind_some]
        rw [show gAI (Full z χ μ T) (z + 11) 2 (nI j) = some (χ.2.2.1 11 j) from c_g11 (by omega)]
        rfl
      · rw [rf w S, if_neg (nI_ge hj (by omega)), m_g16 (by omega)]
        simp only [Option.bind_some]
        rw [show (mI μ 0 0).2 16 j = χ.2.2.1 11 j &&& 255 from p4 j hj]
  · refine K_th (Ex := IOOBE) (kk := 1) (b := 0) cls ?_ (fun S => rfl) (by decide) (fun w S => ?_) hv
    · unfold D_PT_at
      rw [gTry_l (by rw [C_index hg, if_neg hi])]
      rfl
    · unfold D_Mo_at B_Mo_at_10
      rw [if_neg hi]
      simp only [m_ob, Option.bind_some, M_th1, gB2_some]
      rw [if_neg (by decide)]
theorem Lc_s {f w : Nat} {a b x : Int32} {S : gS} : L_Mo_count_48 (f + 1) w a b x S = B_Mo_count_48 (L_Mo_count_48 f) w a b x S := rfl
def mEnd (w : Nat) (x1 x2 : Int32) (S : gS) : Option (Int32 × gS) := (if x1 = 1 then Option.bind (gI S w 10 8) (fun v8 => Option.bind (gOb S w 10) (fun fs11 => gB2 (D_Mo_plansOf w v8 S) (fun v10 S9 => B_Mo_count_119 v10 S9))) else (if x1 = 2 then B_Mo_count_119 x2 S else Option.bind (gRf S w 10 20) (fun r4 => Option.bind (gI S w 10 8) (fun v5 => Option.bind r4 (fun a6 => Option.bind (gAI S a6 0 v5) (fun v7 => B_Mo_count_119 v7 S))))))
theorem M_count_loop {e : Nat} {E : EV} {μ : mS} {x1 : Int32} (he : e ≤ 6) (h : edIs μ e E) (h8 : μ.1 8 = nI e) : ∀ (m i fuel : Nat), m = 10 - i → 1 ≤ i → i ≤ 10 → m < fuel → ∀ w S, L_Mo_count_48 fuel w x1 (nI (cn E.2.1 i)) (nI (40 + i)) (mput w μ S) = mEnd w x1 (nI (cn E.2.1 10)) (mput w μ S) := by
  intro m
  induction m with
  | zero =>
    intro i fuel hm h1 hi hf w S
    obtain ⟨fu, rfl⟩ : ∃ fu, fuel = fu + 1 := ⟨fuel - 1, by omega⟩
    obtain rfl : i = 10 := by omega
    rw [Lc_s]
    unfold B_Mo_count_48
    rw [if_pos (by decide)]
    rfl
  | succ m ih =>
    intro i fuel hm h1 hi hf w S
    obtain ⟨fu, rfl⟩ : ∃ fu, fuel = fu + 1 := ⟨fuel - 1, by omega⟩
    have IH := ih (i + 1) fu (by omega) (by omega) (by omega) (by omega) w S
    rw [Lc_s]
    unfold B_Mo_count_48 B_Mo_count_77
    rw [if_neg (show ¬ (50 : Int32) ≤ nI (40 + i) from nI_ge (a := 40 + i) (b := 50) (by omega) (by decide))]
    simp only [m_R10, m_I8, Option.bind_some]
    rw [h8, nI50, m_g3 (by omega)]
    simp only [Option.bind_some, nI_1]
    have st : cn E.2.1 (i + 1) = cn E.2.1 i + (if (E.2.1 i).isSome then 1 else 0) := rfl
    cases hv : E.2.1 i with
    | none =>
      rw [show μ.2 3 (50 * e + (40 + i)) = 0 by rw [show 50 * e + (40 + i) = 50 * e + 40 + i by omega]; exact (h.2.1 i h1 (by omega)).1 hv, if_pos rfl]
      rw [hv] at st
      rw [st] at IH
      rw [show nI (cn E.2.1 i) + 0 = nI (cn E.2.1 i + 0) from nI_add _ 0]
      exact IH
    | some v =>
      rw [show μ.2 3 (50 * e + (40 + i)) = 1 by rw [show 50 * e + (40 + i) = 50 * e + 40 + i by omega]; exact ((h.2.1 i h1 (by omega)).2 v hv).1, if_neg (by decide)]
      rw [hv] at st
      rw [st] at IH
      exact IH
theorem K_count {i : Int32} (hv : Ivs z χ μ T k) (hk : k < 512) : Call z χ μ T k (fun S => D_La_count (some z) i (some (z + 29)) S) (fun w S => D_Mo_count w i S) := by
  obtain ⟨n, a, dd, Ev, L, P, hv⟩ := hv
  have hg : gRoom (Full z χ μ T) := hv.gRoom hk
  have cls : D_La_count (some z) i (some (z + 29)) (Full z χ μ T) = gCat (D_PT_count z i (Full z χ μ T)) (fun E3 S6 => (if E3 = "java/lang/IllegalArgumentException" then some (1, S6) else none)) (fun v4 S5 => Option.bind (gSL S5 (z + 29) 1 0 v4.toInt64) (fun S14 => some (0, S14))) := by
    unfold D_La_count
    simp only [Option.bind_some]
    rw [show gOb (Full z χ μ T) z 0 = some (cfs z χ) from c_ob]
    rfl
  have sm := hv.same (μ' := mI μ 0 0) hv.1 (fun q x _ hq _ => hq) (by omega) (by omega) rfl (fun k hk => mI_n hk)
  by_cases hi : rng i 0 3 = true
  · have rf : ∀ w S, D_Mo_count w i (mput w μ S) = (if i = 0 then some (μ.1 7, mput w (mI μ 0 0) S) else (if 0 ≤ μ.1 8 then L_Mo_count_48 gF w i 0 41 (mput w (mI μ 0 0) S) else some (0, mput w (mI μ 0 0) S))) := by
      intro w S
      unfold D_Mo_count
      simp only [M_in, gB2_some]
      rw [show (decide ((0 : Int32) ≤ i) && decide (i ≤ 3)) = true from hi, if_neg (by decide)]
      unfold B_Mo_count_15
      simp only [m_ob, Option.bind_some, M_th0, gB2_some]
      rw [if_pos trivial]
      simp only [m_I7, m_I8, Option.bind_some]
      rw [mI_n (by decide), mI_n (by decide)]
    by_cases h0 : i = 0
    · refine K_ok (v := nI n) (μ' := mI μ 0 0) (T' := T) (χ' := χ) cls ?_ (fun w S => ?_) mI_s sm
      · unfold D_PT_count
        rw [if_pos h0, show gI (Full z χ μ T) z 0 5 = some (nI n) by rw [← hv.2.1.2.1]; exact c_I5]
        rfl
      · rw [rf w S, if_pos h0, hv.2.1.2.2.1]
    · obtain ⟨e, E, d, x7, hE, hmo⟩ : ∃ e E d, χ.2.1 7 = some e ∧ EdAt (Full z χ μ T) e d E ∧ ((μ.1 8 = -1 ∧ E = E0) ∨ ∃ m, m < n ∧ μ.1 8 = nI m ∧ edIs μ m E) := by
        rcases hv.2.2.2.2.2.2.1 with ⟨x1, x2, x3⟩ | ⟨m, x1, x2, x3⟩
        · exact ⟨_, E0, _, x2, F_no, Or.inl ⟨x3, rfl⟩⟩
        · obtain ⟨-, -, -, a4, a5, -⟩ := hv.2.1.2.2.2 m (by omega)
          exact ⟨_, _, _, x2, a4, Or.inr ⟨m, by omega, x3, a5⟩⟩
      have hO := hE.ok
      obtain ⟨gp, gd, gs, hF, -⟩ := id hE
      have r7 : gRf (Full z χ μ T) z 0 7 = some (some e) := by rw [← x7]; exact c_R7
      have val : ∀ v, (i = 1 → v = nI (cn E.1 41)) → (i = 2 → v = nI (cn E.2.1 10)) → (i = 3 → v = nI E.2.2.1) → D_PT_count z i (Full z χ μ T) = some (.inr v, Full z χ μ T) := by
        intro v v1 v2 v3
        unfold D_PT_count
        rw [if_neg h0, r7]
        simp only [Option.bind_some]
        by_cases h1 : i = 1
        · rw [if_pos h1, e_I hF.1 (k := 4) (v := nI (cn E.1 41)) rfl, v1 h1]; rfl
        · rw [if_neg h1]
          by_cases h2 : i = 2
          · rw [if_pos h2, e_I hF.1 (k := 5) (v := nI (cn E.2.1 10)) rfl, v2 h2]; rfl
          · rw [if_neg h2]
            by_cases h3 : i = 3
            · rw [if_pos h3, e_I hF.1 (k := 6) (v := nI E.2.2.1) rfl, v3 h3]; rfl
            · exfalso
              obtain ⟨m, hm, rfl⟩ := rng_nI (n := 3) (by decide) hi
              rcases (show m = 0 ∨ m = 1 ∨ m = 2 ∨ m = 3 by omega) with rfl | rfl | rfl | rfl
              · exact h0 rfl
              · exact h1 rfl
              · exact h2 rfl
              · exact h3 rfl
      rcases hmo with ⟨m8, rfl⟩ | ⟨m, hm, m8, hM⟩
      · refine K_ok (v := 0) (μ' := mI μ 0 0) (T' := T) (χ' := χ) cls (val 0 (fun _ => by rw [E0_c1]; rfl) (fun _ => by rw [E0_c2]; rfl) (fun _ => rfl)) (fun w S => ?_) mI_s sm
        rw [rf w S, if_neg h0, m8, if_neg (by decide)]
      · have hn := hv.2.1.1
        have cn1 : cn E.2.1 1 = 0 := by
          show 0 + (if (E.2.1 0).isSome then 1 else 0) = 0
          rw [hO.2.2.2.2.2]; rfl
        have lp := M_count_loop (x1 := i) (μ := mI μ 0 0) (show m ≤ 6 by omega) (show edIs (mI μ 0 0) m E from hM) (by rw [mI_n (by decide)]; exact m8) 9 1 gF rfl (by decide) (by decide) (by decide)
        rw [cn1] at lp
        have r8 : (mI μ 0 0).1 8 = nI m := by rw [mI_n (by decide)]; exact m8
        have fin : ∀ v, D_PT_count z i (Full z χ μ T) = some (.inr v, Full z χ μ T) → (∀ w S, mEnd w i (nI (cn E.2.1 10)) (mput w (mI μ 0 0) S) = some (v, mput w (mI μ 0 0) S)) → Call z χ μ T k (fun S => D_La_count (some z) i (some (z + 29)) S) (fun w S => D_Mo_count w i S) := by
          intro v hX hm
          refine K_ok (v := v) (μ' := mI μ 0 0) (T' := T) (χ' := χ) cls hX (fun w S => ?_) mI_s sm
          rw [rf w S, if_neg h0, m8, if_pos (nI_pos' (by omega))]
          exact (lp w S).trans (hm w S)
        by_cases h1 : i = 1
        · refine fin _ (val (nI (cn E.1 41)) (fun _ => rfl) (fun e => by rw [h1] at e; cases e) (fun e => by rw [h1] at e; cases e)) (fun w S => ?_)
          unfold mEnd B_Mo_count_119
          rw [if_pos h1]
          simp only [m_I8, m_ob, Option.bind_some]
          rw [r8, M_plansOf (by omega) (show edIs (mI μ 0 0) m E from hM) hO.2.2.2.2.1]
          rfl
        · by_cases h2 : i = 2
          · refine fin _ (val (nI (cn E.2.1 10)) (fun e => absurd e h1) (fun _ => rfl) (fun e => by rw [h2] at e; cases e)) (fun w S => ?_)
            unfold mEnd B_Mo_count_119
            rw [if_neg h1, if_pos h2]
          · refine fin _ (val (nI E.2.2.1) (fun e => absurd e h1) (fun e => absurd e h2) (fun _ => rfl)) (fun w S => ?_)
            unfold mEnd B_Mo_count_119
            rw [if_neg h1, if_neg h2]
            simp only [m_R20, m_I8, Option.bind_some]
            rw [r8, m_g13 (by omega)]
            simp only [Option.bind_some]
            rw [show (mI μ 0 0).2 13 m = nI E.2.2.1 from hM.2.2.1]
  · refine K_th (Ex := IAE) (kk := 1) (b := 0) cls ?_ (fun S => rfl) (by decide) (fun w S => ?_) hv
    · unfold D_PT_count
      rw [if_neg (fun e => hi (by rw [e]; decide)), if_neg (fun e => hi (by rw [e]; decide)), if_neg (fun e => hi (by rw [e]; decide)), if_neg (fun e => hi (by rw [e]; decide)), gThr_ok hg]
      rfl
    · unfold D_Mo_count
      simp only [M_in, gB2_some]
      rw [show (decide ((0 : Int32) ≤ i) && decide (i ≤ 3)) = false from Bool.eq_false_iff.mpr hi, if_pos (show bI false = 0 from rfl)]
      unfold B_Mo_count_15
      simp only [m_ob, Option.bind_some, M_th1, gB2_some]
      rw [if_neg (by decide)]
end KN
