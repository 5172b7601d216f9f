/-! PRINTING AN EDITION -/
theorem sm_add {g : Nat → Nat} {n : Nat} : ∀ b, sm g n ≤ sm g (n + b)
  | 0 => Nat.le_refl _
  | b + 1 => Nat.le_trans (sm_add b) (Nat.le_add_right _ _)
theorem sm_mo {g : Nat → Nat} {n k : Nat} (h : n ≤ k) : sm g n ≤ sm g k := by
  have := sm_add (g := g) (n := n) (k - n)
  rwa [show n + (k - n) = k by omega] at this
section PE
variable {z e b : Nat} {μ0 : mS} {T : gS} {E : EV} {d : Int32} {gp gd gs : Nat → Option Nat} {np nd : Int32}
theorem L7w_s {f p : Nat} {r : Option Nat} {x : Int32} {S : gS} : L_Pr_writeEdition_7 (f + 1) p r x S = B_Pr_writeEdition_7 (L_Pr_writeEdition_7 f) p r x S := rfl
theorem L36w_s {f p : Nat} {r : Option Nat} {x : Int32} {S : gS} : L_Pr_writeEdition_36 (f + 1) p r x S = B_Pr_writeEdition_36 (L_Pr_writeEdition_36 f) p r x S := rfl
theorem L72w_s {f p : Nat} {r : Option Nat} {x : Int32} {S : gS} : L_Pr_writeEdition_72 (f + 1) p r x S = B_Pr_writeEdition_72 (L_Pr_writeEdition_72 f) p r x S := rfl
theorem L36p_s {f w : Nat} {a x : Int32} {S : gS} : L_Mo_print_36 (f + 1) w a x S = B_Mo_print_36 (L_Mo_print_36 f) w a x S := rfl
theorem L116p_s {f w : Nat} {a x : Int32} {S : gS} : L_Mo_print_116 (f + 1) w a x S = B_Mo_print_116 (L_Mo_print_116 f) w a x S := rfl
theorem PF.ed {χ χ' : cS} {μ μ' : mS} (h : PF χ χ' μ μ') (g : edIs μ b E) : edIs μ' b E := by
  unfold edIs plIs stIs hrIs ndIs
  rw [h.2.2 3 (by decide), h.2.2 4 (by decide), h.2.2 5 (by decide), h.2.2 6 (by decide), h.2.2 7 (by decide), h.2.2 8 (by decide), h.2.2 9 (by decide), h.2.2 10 (by decide), h.2.2 11 (by decide), h.2.2 12 (by decide), h.2.2 13 (by decide), h.2.2 14 (by decide)]
  exact g
theorem S_ed1 (ht : TOk z T) (hF : ∀ χ, EdF (Full z χ μ0 T) e d gp gd gs np nd E.2.2.1) (hA : ∀ χ, plsAt (Full z χ μ0 T) gp E) (hb : b ≤ 6) : ∀ (m i fuel P L : Nat) (χ : cS) (μ : mS), m = 41 - i → 1 ≤ i → i ≤ 41 → m < fuel → edIs μ b E → sm (pls E) i + L = sm (pls E) 41 → IvP χ μ P → P + L ≤ 400 → ∃ χ' μ', L_Pr_writeEdition_7 fuel (z + 10) (some e) (nI i) (Full z χ μ0 T) = L_Pr_writeEdition_36 gF (z + 10) (some e) 1 (Full z χ' μ0 T) ∧ (∀ f' w S, L_Mo_print_36 (f' + m) w (nI b) (nI i) (mput w μ S) = L_Mo_print_36 f' w (nI b) (nI 41) (mput w μ' S)) ∧ IvP χ' μ' (P + L) ∧ PF χ χ' μ μ' := by
  intro m
  induction m with
  | zero =>
    intro i fuel P L χ μ hm h1 hi hf hM hL h hP
    obtain ⟨fu, rfl⟩ : ∃ fu, fuel = fu + 1 := ⟨fuel - 1, by omega⟩
    obtain rfl : i = 41 := by omega
    obtain rfl : L = 0 := by omega
    refine ⟨χ, μ, ?_, fun f' w S => rfl, h, PF.rf⟩
    rw [L7w_s]
    unfold B_Pr_writeEdition_7
    rw [if_pos (by decide)]
  | succ m ih =>
    intro i fuel P L χ μ hm h1 hi hf hM hL h hP
    obtain ⟨fu, rfl⟩ : ∃ fu, fuel = fu + 1 := ⟨fuel - 1, by omega⟩
    have st : sm (pls E) (i + 1) = sm (pls E) i + pls E i := rfl
    have mo : sm (pls E) (i + 1) ≤ sm (pls E) 41 := sm_mo (by omega)
    have cl : L_Pr_writeEdition_7 (fu + 1) (z + 10) (some e) (nI i) (Full z χ μ0 T) = gNul (gp i) (L_Pr_writeEdition_7 fu (z + 10) (some e) (nI (i + 1)) (Full z χ μ0 T)) (fun a6 => Option.bind (D_Pr_writePlan (z + 10) (some a6) (Full z χ μ0 T)) (fun S7 => L_Pr_writeEdition_7 fu (z + 10) (some e) (nI (i + 1)) S7)) := by
      rw [L7w_s]
      unfold B_Pr_writeEdition_7 B_Pr_writeEdition_28
      rw [if_neg (show ¬ (40 : Int32) < nI i from nI_nlt (a := 40) (b := i) (by omega) (by decide))]
      simp only [Option.bind_some]
      rw [e_O (hF χ).1, C_numbered (hF χ) (by omega)]
      simp only [Option.bind_some, gB2_some, nI_1, pr_ob]
    have rf : ∀ f' w S, L_Mo_print_36 (f' + (m + 1)) w (nI b) (nI i) (mput w μ S) = if μ.2 3 (50 * b + i) = 0 then L_Mo_print_36 (f' + m) w (nI b) (nI (i + 1)) (mput w μ S) else Option.bind (D_Mo_putPlan w (nI (50 * b + i)) (mput w μ S)) (fun S8 => B_Mo_print_76 (L_Mo_print_36 (f' + m)) w (nI b) (nI i) (nI (50 * b + i)) S8) := by
      intro f' w S
      rw [show f' + (m + 1) = f' + m + 1 by omega, L36p_s]
      unfold B_Mo_print_36
      rw [if_neg (nI_pos (by omega)), if_neg (show ¬ (50 : Int32) ≤ nI i from nI_ge (a := i) (b := 50) (by omega) (by decide))]
      simp only [m_R10, m_ob, Option.bind_some, nI50]
      rw [m_g3 (by omega)]
      simp only [Option.bind_some]
      by_cases c : μ.2 3 (50 * b + i) = 0
      · rw [if_pos c, if_pos c]
        unfold B_Mo_print_76 B_Mo_print_108
        simp only [m_R10, Option.bind_some]
        rw [m_g3 (by omega)]
        simp only [Option.bind_some]
        rw [if_pos c, nI_1]
      · rw [if_neg c, if_neg c, if_neg (show ¬ (40 : Int32) < nI i from nI_nlt (a := 40) (b := i) (by omega) (by decide))]
    cases hv : E.1 i with
    | none =>
      have : pls E i = 0 := by unfold pls; rw [hv]
      obtain ⟨χ', μ', a1, a2, a3, a4⟩ := ih (i + 1) fu P L χ μ (by omega) (by omega) (by omega) (by omega) hM (by omega) h hP
      refine ⟨χ', μ', ?_, fun f' w S => ?_, a3, a4⟩
      · rw [cl, (hA χ i (by omega)).1 hv]; exact a1
      · rw [rf, if_pos ((hM.1 i h1 (by omega)).1 hv)]; exact a2 f' w S
    | some v =>
      have pe : pls E i = plLen i v := by unfold pls; rw [hv]
      obtain ⟨q, q1, q2, q3⟩ := (hA χ i (by omega)).2 v hv
      have pv := (hM.1 i h1 (by omega)).2 v hv
      obtain ⟨χ1, μ1, b1, b2, b3, b4⟩ := S_wplan ht q2 q3 (by omega) hb pv h (by omega)
      have b1' : D_Pr_writePlan (z + 10) (some q) (Full z χ μ0 T) = some (Full z χ1 μ0 T) := b1
      obtain ⟨χ', μ', a1, a2, a3, a4⟩ := ih (i + 1) fu (P + plLen i v) (L - plLen i v) χ1 μ1 (by omega) (by omega) (by omega) (by omega) (b4.ed hM) (by omega) b3 (by omega)
      refine ⟨χ', μ', ?_, fun f' w S => ?_, by rw [show P + L = P + plLen i v + (L - plLen i v) by omega]; exact a3, b4.tr a4⟩
      · rw [cl, q1]
        simp only [gNul]
        rw [b1']
        exact a1
      · have b2' : D_Mo_putPlan w (nI (50 * b + i)) (mput w μ S) = some (mput w μ1 S) := b2 w S
        rw [rf, pv.1, if_neg (by decide), b2']
        simp only [Option.bind_some]
        unfold B_Mo_print_76 B_Mo_print_108
        simp only [m_R10, Option.bind_some]
        rw [m_g3 (by omega), b4.2.2 3 (by decide), pv.1]
        simp only [Option.bind_some]
        rw [if_neg (by decide), if_pos (show nI i ≤ 40 from nI_le (a := i) (b := 40) (by omega) (by decide)), nI_1]
        exact a2 f' w S
theorem S_ed2 (ht : TOk z T) (hF : ∀ χ, EdF (Full z χ μ0 T) e d gp gd gs np nd E.2.2.1) (hD : ∀ χ, dfsAt (Full z χ μ0 T) gd E) (hb : b ≤ 6) : ∀ (m i fuel P L : Nat) (χ : cS) (μ : mS), m = 10 - i → 1 ≤ i → i ≤ 10 → m < fuel → edIs μ b E → sm (dfs E) i + L = sm (dfs E) 10 → IvP χ μ P → P + L ≤ 400 → ∃ χ' μ', L_Pr_writeEdition_36 fuel (z + 10) (some e) (nI i) (Full z χ μ0 T) = L_Pr_writeEdition_72 gF (z + 10) (some e) 0 (Full z χ' μ0 T) ∧ (∀ f' w S, L_Mo_print_36 (f' + m + 1) w (nI b) (nI (40 + i)) (mput w μ S) = L_Mo_print_116 gF w (nI b) 0 (mput w μ' S)) ∧ IvP χ' μ' (P + L) ∧ PF χ χ' μ μ' := by
  intro m
  induction m with
  | zero =>
    intro i fuel P L χ μ hm h1 hi hf hM hL h hP
    obtain ⟨fu, rfl⟩ : ∃ fu, fuel = fu + 1 := ⟨fuel - 1, by omega⟩
    obtain rfl : i = 10 := by omega
    obtain rfl : L = 0 := by omega
    refine ⟨χ, μ, ?_, fun f' w S => ?_, h, PF.rf⟩
    · rw [L36w_s]
      unfold B_Pr_writeEdition_36
      rw [if_pos (by decide)]
    · rw [L36p_s]
      unfold B_Mo_print_36 B_Mo_print_114
      rw [if_neg (nI_pos (by omega)), if_pos (by decide)]
  | succ m ih =>
    intro i fuel P L χ μ hm h1 hi hf hM hL h hP
    obtain ⟨fu, rfl⟩ : ∃ fu, fuel = fu + 1 := ⟨fuel - 1, by omega⟩
    have st : sm (dfs E) (i + 1) = sm (dfs E) i + dfs E i := rfl
    have mo : sm (dfs E) (i + 1) ≤ sm (dfs E) 10 := sm_mo (by omega)
    have cl : L_Pr_writeEdition_36 (fu + 1) (z + 10) (some e) (nI i) (Full z χ μ0 T) = gNul (gd i) (L_Pr_writeEdition_36 fu (z + 10) (some e) (nI (i + 1)) (Full z χ μ0 T)) (fun a6 => Option.bind (D_Pr_writeNumber (z + 10) 100 (nI i) (Full z χ μ0 T)) (fun S7 => Option.bind (gOb S7 (z + 10) 6) (fun _ => Option.bind (D_Pr_writeNeeds (z + 10) (some a6) S7) (fun S9 => L_Pr_writeEdition_36 fu (z + 10) (some e) (nI (i + 1)) S9)))) := by
      rw [L36w_s]
      unfold B_Pr_writeEdition_36 B_Pr_writeEdition_64
      rw [if_neg (show ¬ (9 : Int32) < nI i from nI_nlt (a := 9) (b := i) (by omega) (by decide))]
      simp only [Option.bind_some]
      rw [e_O (hF χ).1, C_defNeeds (hF χ) (by omega)]
      simp only [Option.bind_some, gB2_some, nI_1, pr_ob]
    have rf : ∀ f' w S, L_Mo_print_36 (f' + (m + 1) + 1) w (nI b) (nI (40 + i)) (mput w μ S) = if μ.2 3 (50 * b + (40 + i)) = 0 then L_Mo_print_36 (f' + m + 1) w (nI b) (nI (40 + (i + 1))) (mput w μ S) else Option.bind (D_Mo_putNumber w 100 (nI i) (mput w μ S)) (fun S6 => Option.bind (gOb S6 w 10) (fun _ => Option.bind (D_Mo_putNeeds w (nI (50 * b + (40 + i))) S6) (fun S8 => L_Mo_print_36 (f' + m + 1) w (nI b) (nI (40 + (i + 1))) S8))) := by
      intro f' w S
      rw [show f' + (m + 1) + 1 = f' + m + 1 + 1 by omega, L36p_s]
      have c40 : (40 : Int32) < nI (40 + i) := nI_lt (a := 40) (b := 40 + i) (by omega) (by omega)
      have n40 : ¬ nI (40 + i) ≤ 40 := nI_ge (a := 40) (b := 40 + i) (by omega) (by omega)
      have s40 : nI (40 + i) - 40 = nI i := by rw [show (40 : Int32) = nI 40 from rfl, pk_sub (by omega), show 40 + i - 40 = i by omega]
      unfold B_Mo_print_36 B_Mo_print_76 B_Mo_print_108
      rw [if_neg (nI_pos (by omega)), if_neg (show ¬ (50 : Int32) ≤ nI (40 + i) from nI_ge (a := 40 + i) (b := 50) (by omega) (by decide))]
      simp only [m_R10, m_ob, Option.bind_some, nI50]
      rw [m_g3 (by omega)]
      simp only [Option.bind_some]
      rw [if_pos c40, if_neg n40, s40, nI_1, show 40 + i + 1 = 40 + (i + 1) by omega]
      by_cases c : μ.2 3 (50 * b + (40 + i)) = 0
      · rw [if_pos c, if_pos c]
      · rw [if_neg c, if_neg c]
    have se : 50 * b + (40 + i) = 50 * b + 40 + i := by omega
    cases hv : E.2.1 i with
    | none =>
      have : dfs E i = 0 := by unfold dfs; rw [hv]
      obtain ⟨χ', μ', a1, a2, a3, a4⟩ := ih (i + 1) fu P L χ μ (by omega) (by omega) (by omega) (by omega) hM (by omega) h hP
      refine ⟨χ', μ', ?_, fun f' w S => ?_, a3, a4⟩
      · rw [cl, (hD χ i (by omega)).1 hv]; exact a1
      · rw [rf, se, if_pos ((hM.2.1 i h1 (by omega)).1 hv)]; exact a2 f' w S
    | some v =>
      have pe0 : dfs E i = dfLen i v := by unfold dfs; rw [hv]
      have pe : dfs E i = (1 + nlen (nI i)) + (nlLen v.2 v.1 + 1) := by rw [pe0]; unfold dfLen; omega
      obtain ⟨q, q1, q2, q3⟩ := (hD χ i (by omega)).2 v hv
      obtain ⟨pv1, pv2⟩ := (hM.2.1 i h1 (by omega)).2 v hv
      obtain ⟨χ1, μ1, b1, b2, b3, b4⟩ := S_num (z := z) (μ0 := μ0) (T := T) (c := 100) (s := 100) (v := nI i) rfl (by decide) (by rw [rng_spec]; exact ⟨nI_pos' (by omega), nI_le (a := i) (b := 999) (by omega) (by decide)⟩) h (by omega)
      have nd1 : ndIs μ1 (50 * b + 40 + i) v.1 v.2 := by unfold ndIs; rw [b4.2.2 11 (by decide), b4.2.2 12 (by decide)]; exact pv2
      obtain ⟨χ2, μ2, c1, c2, c3, c4⟩ := S_wneeds (μ0 := μ0) (q2.all ht) q3.2 (show 50 * b + 40 + i < 350 by omega) nd1 b3 (by omega)
      have b1' : D_Pr_writeNumber (z + 10) 100 (nI i) (Full z χ μ0 T) = some (Full z χ1 μ0 T) := b1
      have c1' : D_Pr_writeNeeds (z + 10) (some q) (Full z χ1 μ0 T) = some (Full z χ2 μ0 T) := c1
      have f2 := b4.tr c4
      obtain ⟨χ', μ', a1, a2, a3, a4⟩ := ih (i + 1) fu (P + (1 + nlen (nI i)) + (nlLen v.2 v.1 + 1)) (L - dfs E i) χ2 μ2 (by omega) (by omega) (by omega) (by omega) (f2.ed hM) (by omega) c3 (by omega)
      refine ⟨χ', μ', ?_, fun f' w S => ?_, by rw [show P + L = P + (1 + nlen (nI i)) + (nlLen v.2 v.1 + 1) + (L - dfs E i) by omega]; exact a3, f2.tr a4⟩
      · rw [cl, q1]
        simp only [gNul]
        rw [b1']
        simp only [Option.bind_some]
        rw [pr_ob]
        simp only [Option.bind_some]
        rw [c1']
        exact a1
      · have b2' : D_Mo_putNumber w 100 (nI i) (mput w μ S) = some (mput w μ1 S) := b2 w S
        have c2' : D_Mo_putNeeds w (nI (50 * b + 40 + i)) (mput w μ1 S) = some (mput w μ2 S) := c2 w S
        rw [rf, se, pv1, if_neg (by decide), b2']
        simp only [m_ob, Option.bind_some]
        rw [c2']
        exact a2 f' w S
theorem C_sTail {χ : cS} (hF : EdF (Full z χ μ0 T) e d gp gd gs np nd E.2.2.1) (h8 : E.2.2.1 ≤ 8) : ∀ (m i fuel : Nat), m = 8 - i → E.2.2.1 ≤ i → i ≤ 8 → m < fuel → L_Pr_writeEdition_72 fuel (z + 10) (some e) (nI i) (Full z χ μ0 T) = some (Full z χ μ0 T) := by
  intro m
  induction m with
  | zero =>
    intro i fuel hm h1 h2 hf
    obtain ⟨fu, rfl⟩ : ∃ fu, fuel = fu + 1 := ⟨fuel - 1, by omega⟩
    obtain rfl : i = 8 := by omega
    rw [L72w_s]
    unfold B_Pr_writeEdition_72
    rw [if_pos (by decide)]
  | succ m ih =>
    intro i fuel hm h1 h2 hf
    obtain ⟨fu, rfl⟩ : ∃ fu, fuel = fu + 1 := ⟨fuel - 1, by omega⟩
    rw [L72w_s]
    unfold B_Pr_writeEdition_72 B_Pr_writeEdition_93 D_Ed_standbyRow B_Ed_standbyRow_21 B_Ed_standbyRow_22
    rw [if_neg (show ¬ (8 : Int32) ≤ nI i from nI_ge (a := i) (b := 8) (by omega) (by decide))]
    simp only [Option.bind_some]
    rw [e_O hF.1, if_neg (nI_pos (by omega)), e_I hF.1 (k := 6) (v := nI E.2.2.1) rfl]
    simp only [Option.bind_some]
    rw [if_pos (nI_le h1 (by omega))]
    simp only [gB2_some, gNul, nI_1]
    exact ih (i + 1) fu (by omega) (by omega) (by omega) (by omega)
theorem S_ed3 (ht : TOk z T) (hF : ∀ χ, EdF (Full z χ μ0 T) e d gp gd gs np nd E.2.2.1) (hB : ∀ χ, sbsAt (Full z χ μ0 T) gs E) (h8 : E.2.2.1 ≤ 8) (hb : b ≤ 6) : ∀ (m i fuel fuel' P L : Nat) (χ : cS) (μ : mS), m = E.2.2.1 - i → i ≤ E.2.2.1 → 9 ≤ fuel + i → m < fuel' → edIs μ b E → sm (fun i => sbLen (E.2.2.2 i)) i + L = sm (fun i => sbLen (E.2.2.2 i)) E.2.2.1 → IvP χ μ P → P + L ≤ 400 → ∃ χ' μ', L_Pr_writeEdition_72 fuel (z + 10) (some e) (nI i) (Full z χ μ0 T) = some (Full z χ' μ0 T) ∧ (∀ w S, L_Mo_print_116 fuel' w (nI b) (nI i) (mput w μ S) = some (nI (P + L), mput w μ' S)) ∧ IvP χ' μ' (P + L) ∧ PF χ χ' μ μ' := by
  intro m
  induction m with
  | zero =>
    intro i fuel fuel' P L χ μ hm hi hf hf' hM hL h hP
    obtain ⟨fu', rfl⟩ : ∃ fu, fuel' = fu + 1 := ⟨fuel' - 1, by omega⟩
    obtain rfl : i = E.2.2.1 := by omega
    obtain rfl : L = 0 := by omega
    refine ⟨χ, μ, C_sTail (hF χ) h8 (8 - E.2.2.1) _ fuel rfl (Nat.le_refl _) h8 (by omega), fun w S => ?_, h, PF.rf⟩
    rw [L116p_s]
    unfold B_Mo_print_116 B_Mo_print_232
    rw [if_neg (nI_pos (by omega))]
    simp only [m_R20, m_I25, Option.bind_some]
    rw [m_g13 (by omega), hM.2.2.1, h.2.2.1]
    simp only [Option.bind_some]
    rw [if_pos (nI_le (Nat.le_refl _) (by omega))]
    rfl
  | succ m ih =>
    intro i fuel fuel' P L χ μ hm hi hf hf' hM hL h hP
    obtain ⟨fu, rfl⟩ : ∃ fu, fuel = fu + 1 := ⟨fuel - 1, by omega⟩
    obtain ⟨fu', rfl⟩ : ∃ fu, fuel' = fu + 1 := ⟨fuel' - 1, by omega⟩
    have st : sm (fun i => sbLen (E.2.2.2 i)) (i + 1) = sm (fun i => sbLen (E.2.2.2 i)) i + sbLen (E.2.2.2 i) := rfl
    have mo : sm (fun i => sbLen (E.2.2.2 i)) (i + 1) ≤ sm (fun i => sbLen (E.2.2.2 i)) E.2.2.1 := sm_mo (by omega)
    have sl : sbLen (E.2.2.2 i) = 1 + (1 + nlen (E.2.2.2 i 0)) + (1 + nlen (E.2.2.2 i 1)) + (1 + nlen (E.2.2.2 i 2)) + (1 + nlen (E.2.2.2 i 3)) + 1 + 1 := rfl
    obtain ⟨q, hh, q1, q2, q3, o0, o1, o2, o3, o4⟩ := hB χ i (by omega)
    have q2a := F_all ht rfl q2
    have q3a := F_all ht rfl q3
    have hc := hM.2.2.2 i (by omega)
    obtain ⟨χ1, μ1, a1, a2, a3, a4⟩ := S_put (z := z) (μ0 := μ0) (T := T) (c := 115) (x := 115) rfl (by decide) h (by omega)
    obtain ⟨χ2, μ2, b1, b2, b3, b4⟩ := S_num (z := z) (μ0 := μ0) (T := T) (c := 91) (s := 91) (v := E.2.2.2 i 0) rfl (by decide) (rng_w (by decide) (by decide) o0) a3 (by omega)
    obtain ⟨χ3, μ3, c1, c2, c3, c4⟩ := S_num (z := z) (μ0 := μ0) (T := T) (c := 45) (s := 45) (v := E.2.2.2 i 1) rfl (by decide) (rng_w (by decide) (by decide) o1) b3 (by omega)
    obtain ⟨χ4, μ4, d1, d2, d3, d4⟩ := S_num (z := z) (μ0 := μ0) (T := T) (c := 93) (s := 93) (v := E.2.2.2 i 2) rfl (by decide) (rng_w (by decide) (by decide) o2) c3 (by omega)
    obtain ⟨χ5, μ5, e1, e2, e3, e4⟩ := S_num (z := z) (μ0 := μ0) (T := T) (c := 58) (s := 58) (v := E.2.2.2 i 3) rfl (by decide) (rng_w (by decide) (by decide) o3) d3 (by omega)
    obtain ⟨χ6, μ6, g1, g2, g3, g4⟩ := S_skl (z := z) (μ0 := μ0) (T := T) o4 e3 (by omega)
    obtain ⟨χ7, μ7, k1, k2, k3, k4⟩ := S_put (z := z) (μ0 := μ0) (T := T) (c := 59) (x := 59) rfl (by decide) g3 (by omega)
    have p2 := a4.tr b4
    have p3 := p2.tr c4
    have p4 := p3.tr d4
    have p5 := p4.tr e4
    have p7 := (p5.tr g4).tr k4
    obtain ⟨χ', μ', t1, t2, t3, t4⟩ := ih (i + 1) fu fu' _ (L - sbLen (E.2.2.2 i)) χ7 μ7 (by omega) (by omega) (by omega) (by omega) (p7.ed hM) (by omega) k3 (by omega)
    have pe : P + 1 + (1 + nlen (E.2.2.2 i 0)) + (1 + nlen (E.2.2.2 i 1)) + (1 + nlen (E.2.2.2 i 2)) + (1 + nlen (E.2.2.2 i 3)) + 1 + 1 + (L - sbLen (E.2.2.2 i)) = P + L := by omega
    rw [pe] at t2 t3
    have a1' : D_Pr_write (z + 10) 115 (Full z χ μ0 T) = some (Full z χ1 μ0 T) := a1
    have b1' : D_Pr_writeNumber (z + 10) 91 (E.2.2.2 i 0) (Full z χ1 μ0 T) = some (Full z χ2 μ0 T) := b1
    have c1' : D_Pr_writeNumber (z + 10) 45 (E.2.2.2 i 1) (Full z χ2 μ0 T) = some (Full z χ3 μ0 T) := c1
    have d1' : D_Pr_writeNumber (z + 10) 93 (E.2.2.2 i 2) (Full z χ3 μ0 T) = some (Full z χ4 μ0 T) := d1
    have e1' : D_Pr_writeNumber (z + 10) 58 (E.2.2.2 i 3) (Full z χ4 μ0 T) = some (Full z χ5 μ0 T) := e1
    have g1' : D_Pr_writeSkill (z + 10) (E.2.2.2 i 4) (Full z χ5 μ0 T) = some (Full z χ6 μ0 T) := g1
    have k1' : D_Pr_write (z + 10) 59 (Full z χ6 μ0 T) = some (Full z χ7 μ0 T) := k1
    refine ⟨χ', μ', ?_, fun w S => ?_, t3, p7.tr t4⟩
    · have ws : D_Pr_writeStandby (z + 10) (some q) (Full z χ μ0 T) = some (Full z χ7 μ0 T) := by
        unfold D_Pr_writeStandby D_Pr_writeHours
        rw [pr_ob]
        simp only [Option.bind_some]
        rw [a1']
        simp only [Option.bind_some]
        rw [e_R (q2a χ1) (k := 0) (q := hh) rfl, pr_ob]
        simp only [Option.bind_some]
        rw [e_I (q3a χ1) (k := 1) (v := E.2.2.2 i 0) rfl]
        simp only [Option.bind_some]
        rw [b1']
        simp only [Option.bind_some]
        rw [e_I (q3a χ2) (k := 2) (v := E.2.2.2 i 1) rfl, pr_ob]
        simp only [Option.bind_some]
        rw [c1']
        simp only [Option.bind_some]
        rw [e_I (q2a χ3) (k := 1) (v := E.2.2.2 i 2) rfl, pr_ob]
        simp only [Option.bind_some]
        rw [d1']
        simp only [Option.bind_some]
        rw [e_I (q2a χ4) (k := 2) (v := E.2.2.2 i 3) rfl, pr_ob]
        simp only [Option.bind_some]
        rw [e1']
        simp only [Option.bind_some]
        rw [e_I (q2a χ5) (k := 3) (v := E.2.2.2 i 4) rfl, pr_ob]
        simp only [Option.bind_some]
        rw [g1']
        simp only [Option.bind_some]
        rw [pr_ob]
        simp only [Option.bind_some]
        rw [k1']
        rfl
      rw [L72w_s]
      unfold B_Pr_writeEdition_72 B_Pr_writeEdition_93 D_Ed_standbyRow B_Ed_standbyRow_22
      rw [if_neg (show ¬ (8 : Int32) ≤ nI i from nI_ge (a := i) (b := 8) (by omega) (by decide))]
      simp only [Option.bind_some]
      rw [e_O (hF χ).1, if_neg (nI_pos (by omega)), e_I (hF χ).1 (k := 6) (v := nI E.2.2.1) rfl]
      simp only [Option.bind_some]
      rw [if_neg (nI_ge (a := i) (b := E.2.2.1) (by omega) (by omega)), e_R (hF χ).1 (k := 3) (q := e + 3) rfl]
      simp only [Option.bind_some]
      rw [e_AR (hF χ).2.2.2 (by omega) (by decide), q1]
      simp only [Option.bind_some, gB2_some, gNul, nI_1]
      rw [pr_ob]
      simp only [Option.bind_some]
      rw [ws]
      exact t1
    · have a2' : D_Mo_put w 115 (mput w μ S) = some (mput w μ1 S) := a2 w S
      have b2' : D_Mo_putNumber w 91 (E.2.2.2 i 0) (mput w μ1 S) = some (mput w μ2 S) := b2 w S
      have c2' : D_Mo_putNumber w 45 (E.2.2.2 i 1) (mput w μ2 S) = some (mput w μ3 S) := c2 w S
      have d2' : D_Mo_putNumber w 93 (E.2.2.2 i 2) (mput w μ3 S) = some (mput w μ4 S) := d2 w S
      have e2' : D_Mo_putNumber w 58 (E.2.2.2 i 3) (mput w μ4 S) = some (mput w μ5 S) := e2 w S
      have g2' : D_Mo_put w (97 + E.2.2.2 i 4) (mput w μ5 S) = some (mput w μ6 S) := g2 w S
      have k2' : D_Mo_put w 59 (mput w μ6 S) = some (mput w μ7 S) := k2 w S
      have bb : (40 * nI b + 5 * nI i : Int32) = nI (40 * b + 5 * i) := by rw [show (40 : Int32) = nI 40 from rfl, show (5 : Int32) = nI 5 from rfl, pk_mul, pk_mul, nI_add]
      rw [L116p_s]
      unfold B_Mo_print_116
      rw [if_neg (nI_pos (by omega))]
      simp only [m_R20, m_ob, Option.bind_some]
      rw [m_g13 (by omega), hM.2.2.1]
      simp only [Option.bind_some]
      rw [if_neg (nI_ge (a := i) (b := E.2.2.1) (by omega) (by omega)), bb, a2']
      simp only [m_R21, m_ob, Option.bind_some, nI_1, nI_p2, nI_p3, nI_p4]
      rw [m_g14 (by omega), a4.2.2 14 (by decide), show μ.2 14 (40 * b + 5 * i) = E.2.2.2 i 0 from hc 0 (by decide)]
      simp only [Option.bind_some]
      rw [b2']
      simp only [m_R21, m_ob, Option.bind_some]
      rw [m_g14 (by omega), p2.2.2 14 (by decide), hc 1 (by decide)]
      simp only [Option.bind_some]
      rw [c2']
      simp only [m_R21, m_ob, Option.bind_some]
      rw [m_g14 (by omega), p3.2.2 14 (by decide), hc 2 (by decide)]
      simp only [Option.bind_some]
      rw [d2']
      simp only [m_R21, m_ob, Option.bind_some]
      rw [m_g14 (by omega), p4.2.2 14 (by decide), hc 3 (by decide)]
      simp only [Option.bind_some]
      rw [e2']
      simp only [m_R21, m_ob, Option.bind_some]
      rw [m_g14 (by omega), p5.2.2 14 (by decide), hc 4 (by decide)]
      simp only [Option.bind_some]
      rw [g2']
      simp only [m_ob, Option.bind_some]
      rw [k2']
      exact t2 w S
end PE
