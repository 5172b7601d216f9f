/-! PRINTING NEEDS -/
theorem okA_m {x : Int32} (h : okA x) : (x = -1 ↔ x < 0) := by
  rcases h with rfl | h
  · exact ⟨fun _ => by decide, fun _ => rfl⟩
  · have := (rng_spec.mp h).1
    exact ⟨fun e => by rw [e] at this; exact absurd this (by decide), fun e => absurd this (i_ltn e)⟩
theorem okL_m {x : Int32} (h : okL x) : (x = -1 ↔ x ≤ 0) := by
  rcases h with rfl | h
  · exact ⟨fun _ => by decide, fun _ => rfl⟩
  · have := (rng_spec.mp h).1
    rw [Int32.le_iff_toInt_le] at this
    have e1 : (1 : Int32).toInt = 1 := by decide
    have e0 : (0 : Int32).toInt = 0 := by decide
    refine ⟨fun e => by rw [e]; decide, fun e => ?_⟩
    rw [Int32.le_iff_toInt_le] at e
    omega
section PN
variable {z P q : Nat} {χ : cS} {μ μ0 : mS} {T : gS} {v : Nat → Int32}
theorem S_alt {k i : Nat} {x : Int32} (hx : okA x) (hk : k < 5) (hq : ∀ χ, (Full z χ μ0 T).1 q = some (.inr (3, NdV v))) (hv : v k = x) (hi : i < 8750) (hm : μ.2 12 i = x) (h : IvP χ μ P) (hP : P + altLen x ≤ 400) : ∃ χ' μ', (∀ K : gS → Option gS, (if x = -1 then K (Full z χ μ0 T) else Option.bind (gOb (Full z χ μ0 T) (z + 10) 6) (fun _ => Option.bind (D_Pr_write (z + 10) 47 (Full z χ μ0 T)) (fun S7 => Option.bind (gI S7 q 3 k) (fun v9 => Option.bind (gOb S7 (z + 10) 6) (fun _ => Option.bind (D_Pr_writeSkill (z + 10) v9 S7) (fun S10 => K S10)))))) = K (Full z χ' μ0 T)) ∧ (∀ w S (K : gS → Option gS), (if x < 0 then K (mput w μ S) else Option.bind (gOb (mput w μ S) w 10) (fun _ => Option.bind (D_Mo_put w 47 (mput w μ S)) (fun S15 => Option.bind (gRf S15 w 10 19) (fun r17 => Option.bind r17 (fun a18 => Option.bind (gAI S15 a18 0 (nI i)) (fun v19 => Option.bind (gOb S15 w 10) (fun _ => Option.bind (D_Mo_put w (97 + v19) S15) (fun S20 => K S20)))))))) = K (mput w μ' S)) ∧ IvP χ' μ' (P + altLen x) ∧ PF χ χ' μ μ' := by
  by_cases c : x = -1
  · refine ⟨χ, μ, fun K => by rw [if_pos c], fun w S K => by rw [if_pos ((okA_m hx).mp c)], ?_, PF.rf⟩
    have : altLen x = 0 := by rw [c]; decide
    rw [this]; exact h
  · have hx' : rng x 0 7 = true := hx.resolve_left c
    have al := alt_pos hx'
    rw [al] at hP ⊢
    obtain ⟨χ1, μ1, a1, a2, a3, a4⟩ := S_put (z := z) (μ0 := μ0) (T := T) (c := 47) (x := 47) rfl (by decide) h (by omega)
    obtain ⟨χ2, μ2, b1, b2, b3, b4⟩ := S_skl (z := z) (μ0 := μ0) (T := T) hx' a3 (by omega)
    have a1' : D_Pr_write (z + 10) 47 (Full z χ μ0 T) = some (Full z χ1 μ0 T) := a1
    have b1' : D_Pr_writeSkill (z + 10) x (Full z χ1 μ0 T) = some (Full z χ2 μ0 T) := b1
    refine ⟨χ2, μ2, fun K => ?_, fun w S K => ?_, b3, a4.tr b4⟩
    · rw [if_neg c, pr_ob]
      simp only [Option.bind_some]
      rw [a1']
      simp only [Option.bind_some]
      rw [e_I (hq χ1) (NdV_g k hk), hv, pr_ob]
      simp only [Option.bind_some]
      rw [b1']
      rfl
    · have a2' : D_Mo_put w 47 (mput w μ S) = some (mput w μ1 S) := a2 w S
      have b2' : D_Mo_put w (97 + x) (mput w μ1 S) = some (mput w μ2 S) := b2 w S
      rw [if_neg (fun e => c ((okA_m hx).mpr e))]
      simp only [m_ob, Option.bind_some]
      rw [a2']
      simp only [m_R19, m_ob, Option.bind_some]
      rw [m_g12 hi, a4.2.2 12 (by decide), hm]
      simp only [Option.bind_some]
      rw [b2']
      rfl
def mNd (k2 : Nat → Int32 → Int32 → gS → Option gS) (w : Nat) (x1 x2 x3 : Int32) (S4 : gS) : Option gS := Option.bind (gRf S4 w 10 19) (fun r6 => Option.bind r6 (fun a7 => Option.bind (gAI S4 a7 0 (x3 + 1)) (fun v8 => Option.bind (gOb S4 w 10) (fun _ => Option.bind (D_Mo_put w (97 + v8) S4) (fun S9 => L_Mo_putNeeds_60 k2 gF w x1 x2 x3 2 S9)))))
theorem L60_s {k2 : Nat → Int32 → Int32 → gS → Option gS} {f w : Nat} {a b c d : Int32} {S : gS} : L_Mo_putNeeds_60 k2 (f + 1) w a b c d S = B_Mo_putNeeds_60 k2 (L_Mo_putNeeds_60 k2 f) w a b c d S := rfl
theorem S_wneed {n : Nat} (ho : ndOk v) (hq : ∀ χ, (Full z χ μ0 T).1 q = some (.inr (3, NdV v))) (hn : n + 4 < 8750) (hm : ∀ j, j < 5 → μ.2 12 (n + j) = v j) (h : IvP χ μ P) (hP : P + (1 + altLen (v 2) + altLen (v 3) + limLen (v 4)) ≤ 400) : ∃ χ' μ', D_Pr_writeNeed (z + 10) (some q) (Full z χ μ0 T) = some (Full z χ' μ0 T) ∧ (∀ k2 w x1 x2 S, mNd k2 w x1 x2 (nI n) (mput w μ S) = k2 w x1 (x2 + 1) (mput w μ' S)) ∧ IvP χ' μ' (P + (1 + altLen (v 2) + altLen (v 3) + limLen (v 4))) ∧ PF χ χ' μ μ' := by
  obtain ⟨-, o1, o2, o3, o4⟩ := ho
  obtain ⟨χ1, μ1, a1, a2, a3, a4⟩ := S_skl (z := z) (μ0 := μ0) (T := T) o1 h (by omega)
  have a1' : D_Pr_writeSkill (z + 10) (v 1) (Full z χ μ0 T) = some (Full z χ1 μ0 T) := a1
  obtain ⟨χ2, μ2, b1, b2, b3, b4⟩ := S_alt (q := q) (k := 2) (i := n + 2) (v := v) o2 (by decide) hq rfl (by omega) (by rw [a4.2.2 12 (by decide)]; exact hm 2 (by decide)) a3 (by omega)
  obtain ⟨χ3, μ3, c1, c2, c3, c4⟩ := S_alt (q := q) (k := 3) (i := n + 3) (v := v) o3 (by decide) hq rfl (by omega) (by rw [b4.2.2 12 (by decide), a4.2.2 12 (by decide)]; exact hm 3 (by decide)) b3 (by omega)
  have m4 : μ3.2 12 (n + 4) = v 4 := by rw [c4.2.2 12 (by decide), b4.2.2 12 (by decide), a4.2.2 12 (by decide)]; exact hm 4 (by decide)
  obtain ⟨χ4, μ4, d1, d2, d3, d4⟩ : ∃ χ4 μ4, (if v 4 = -1 then some (Full z χ3 μ0 T) else D_Pr_writeNumber (z + 10) 126 (v 4) (Full z χ3 μ0 T)) = some (Full z χ4 μ0 T) ∧ (∀ w S (K : gS → Option gS), (if v 4 ≤ 0 then K (mput w μ3 S) else Option.bind (D_Mo_putNumber w 126 (v 4) (mput w μ3 S)) K) = K (mput w μ4 S)) ∧ IvP χ4 μ4 (P + 1 + altLen (v 2) + altLen (v 3) + limLen (v 4)) ∧ PF χ3 χ4 μ3 μ4 := by
    by_cases c : v 4 = -1
    · refine ⟨χ3, μ3, by rw [if_pos c], fun w S K => by rw [if_pos ((okL_m o4).mp c)], ?_, PF.rf⟩
      have : limLen (v 4) = 0 := by rw [c]; decide
      rw [this]; exact c3
    · have hr := o4.resolve_left c
      have lm : limLen (v 4) = 1 + nlen (v 4) := by
        unfold limLen
        rw [if_pos (i_nle (fun e => c ((okL_m o4).mpr e)))]
      rw [lm] at hP ⊢
      have hr' : rng (v 4) 0 999 = true := by
        rw [rng_spec] at hr ⊢
        refine ⟨?_, ?_⟩
        · have := hr.1
          rw [Int32.le_iff_toInt_le] at this ⊢
          have e1 : (1 : Int32).toInt = 1 := by decide
          have e0 : (0 : Int32).toInt = 0 := by decide
          omega
        · have := hr.2
          rw [Int32.le_iff_toInt_le] at this ⊢
          have e1 : (99 : Int32).toInt = 99 := by decide
          have e0 : (999 : Int32).toInt = 999 := by decide
          omega
      obtain ⟨χ4, μ4, d1, d2, d3, d4⟩ := S_num (z := z) (μ0 := μ0) (T := T) (c := 126) (s := 126) rfl (by decide) hr' c3 (by omega)
      refine ⟨χ4, μ4, by rw [if_neg c]; exact d1, fun w S K => ?_, d3, d4⟩
      rw [if_neg (fun e => c ((okL_m o4).mpr e))]
      have d2' : D_Mo_putNumber w 126 (v 4) (mput w μ3 S) = some (mput w μ4 S) := d2 w S
      rw [d2']; rfl
  refine ⟨χ4, μ4, ?_, fun k2 w x1 x2 S => ?_, ?_, ((a4.tr b4).tr c4).tr d4⟩
  · unfold D_Pr_writeNeed
    simp only [Option.bind_some]
    rw [e_I (hq χ) (k := 1) (v := v 1) rfl, pr_ob]
    simp only [Option.bind_some]
    rw [a1']
    simp only [Option.bind_some]
    rw [e_I (hq χ1) (k := 2) (v := v 2) rfl]
    simp only [Option.bind_some]
    rw [b1]
    unfold B_Pr_writeNeed_30
    simp only [Option.bind_some]
    rw [e_I (hq χ2) (k := 3) (v := v 3) rfl]
    simp only [Option.bind_some]
    rw [c1]
    unfold B_Pr_writeNeed_52 B_Pr_writeNeed_70
    simp only [Option.bind_some]
    rw [e_I (hq χ3) (k := 4) (v := v 4) rfl, pr_ob]
    simp only [Option.bind_some]
    rw [ob_r]
    exact d1
  · have a2' : D_Mo_put w (97 + v 1) (mput w μ S) = some (mput w μ1 S) := a2 w S
    unfold mNd
    simp only [m_R19, m_ob, Option.bind_some, nI_1]
    rw [m_g12 (by omega), hm 1 (by decide)]
    simp only [Option.bind_some]
    rw [a2']
    simp only [Option.bind_some]
    rw [show gF = 997 + 1 + 1 + 1 from rfl, L60_s]
    unfold B_Mo_putNeeds_60 B_Mo_putNeeds_100
    rw [if_neg (by decide)]
    simp only [m_R19, Option.bind_some, nI_p2]
    rw [m_g12 (by omega), show μ1.2 12 (n + 2) = v 2 by rw [a4.2.2 12 (by decide)]; exact hm 2 (by decide)]
    simp only [Option.bind_some]
    rw [b2 w S, show (2 : Int32) + 1 = 3 from rfl, L60_s]
    unfold B_Mo_putNeeds_60 B_Mo_putNeeds_100
    rw [if_neg (by decide)]
    simp only [m_R19, Option.bind_some, nI_p3]
    rw [m_g12 (by omega), show μ2.2 12 (n + 3) = v 3 by rw [b4.2.2 12 (by decide), a4.2.2 12 (by decide)]; exact hm 3 (by decide)]
    simp only [Option.bind_some]
    rw [c2 w S, show (3 : Int32) + 1 = 4 from rfl, L60_s]
    unfold B_Mo_putNeeds_60 B_Mo_putNeeds_131
    rw [if_pos (by decide)]
    simp only [m_R19, m_ob, Option.bind_some, nI_p4]
    rw [m_g12 (by omega), m4]
    simp only [Option.bind_some]
    exact d2 w S (fun S9 => k2 w x1 (x2 + 1) S9)
  · rw [show P + (1 + altLen (v 2) + altLen (v 3) + limLen (v 4)) = P + 1 + altLen (v 2) + altLen (v 3) + limLen (v 4) by omega]
    exact d3
end PN
