/-! THE LAW'S LOOP -/
section LL
variable {z k : Nat} {χ : cS} {μ : mS} {T : gS}
theorem F_mc {χ' : cS} {μ' : mS} {T' : gS} : Full z χ' μ' T' = mput (z + 12) μ' (cput z χ' T') := (cm_comm (Nat.le_refl _)).symm
theorem F_AL {x : Int64} {χ' : cS} {μ' : mS} {T' : gS} (h : gAL T' (z + 29) 1 0 = some x) : gAL (Full z χ' μ' T') (z + 29) 1 0 = some x := by
  rw [← h]
  unfold gAL
  rw [F_hi (Nat.le_refl _)]
theorem K_step {c : gS → Option (Int32 × gS)} {m : Nat → gS → Option (Int32 × gS)} (h : Call z χ μ T k c m) : ∃ χ' μ' T', Ivs z χ' μ' T' (k + 1) ∧ ∀ K : gS → Option (Int32 × gS), gB2 (c (Full z χ μ T)) (fun v8 S7 => Option.bind (gOb S7 (z + 12) 10) (fun _ => gB2 (m (z + 12) S7) (fun v13 S12 => Option.bind (gOb S12 (z + 12) 10) (fun _ => gB2 (D_Mo_thrown (z + 12) S12) (fun v16 S15 => (if v16 = v8 then (if v8 = 0 then Option.bind (gAL S15 (z + 29) 1 0) (fun v20 => (if (lg_cmp v20 v13.toInt64) = 0 then K S15 else some (0, S15))) else K S15) else some (0, S15))))))) = K (Full z χ' μ' T') := by
  obtain ⟨kk, b, χ', μ', T', h1, h2, h3, h4, h5⟩ := h
  refine ⟨χ', μ', T', h5, fun K => ?_⟩
  rw [h1]
  simp only [gB2_some]
  rw [F_mc]
  simp only [m_ob, Option.bind_some]
  rw [h2]
  simp only [gB2_some, m_ob, Option.bind_some, M_thrown]
  rw [h3, if_pos rfl, ← F_mc]
  by_cases hk : kk = 0
  · rw [if_pos hk, F_AL (h4 hk)]
    simp only [Option.bind_some]
    rw [if_pos]
    unfold lg_cmp
    rw [if_neg (by rw [gt_iff_lt, Int64.lt_iff_toInt_lt]; omega), if_pos rfl]
  · rw [if_neg hk]
theorem gScr_n {xs : Nat → Int32} {L i : Nat} (h : i < L) (hL : L ≤ 3072) : gScr xs L (nI i) = some (xs i) := by
  unfold gScr
  rw [if_pos (nI_in h (by omega)), nI_clamp (by omega)]
theorem nI_p5 {n : Nat} : nI n + 5 = nI (n + 5) := nI_add n 5
theorem nI_p6 {n : Nat} : nI n + 6 = nI (n + 6) := nI_add n 6
theorem L23_s {xs : Nat → Int32} {L f a b c : Nat} {x : Int32} {S : gS} : L_La_law_23 xs L (f + 1) a b c x S = B_La_law_23 xs L (L_La_law_23 xs L f) a b c x S := rfl
theorem law_loop {xs : Nat → Int32} {L : Nat} (hL : L ≤ 3072) : ∀ (m k fuel : Nat) (χ : cS) (μ : mS) (T : gS), m = 512 - k → k ≤ 512 → m < fuel → Ivs z χ μ T k → ∃ S', L_La_law_23 xs L fuel z (z + 12) (z + 29) (nI (6 * k)) (Full z χ μ T) = some (1, S') := by
  intro m
  induction m with
  | zero =>
    intro k fuel χ μ T hm hk hf hI
    obtain ⟨fu, rfl⟩ : ∃ fu, fuel = fu + 1 := ⟨fuel - 1, by omega⟩
    refine ⟨Full z χ μ T, ?_⟩
    rw [L23_s]
    unfold B_La_law_23
    rw [if_pos]
    rw [Int32.lt_iff_toInt_lt, nI_toInt (by omega)]
    have e6 : (nI L - 6).toInt ≤ 3066 := by
      by_cases h6 : 6 ≤ L
      · rw [show (6 : Int32) = nI 6 from rfl, pk_sub h6, nI_toInt (by omega)]; omega
      · have : nI L - 6 < 0 := pk_sneg (a := L) (b := 6) (by decide) (by omega)
        rw [Int32.lt_iff_toInt_lt] at this
        have e0 : (0 : Int32).toInt = 0 := by decide
        omega
    omega
  | succ m ih =>
    intro k fuel χ μ T hm hk hf hI
    obtain ⟨fu, rfl⟩ : ∃ fu, fuel = fu + 1 := ⟨fuel - 1, by omega⟩
    have hk' : k < 512 := by omega
    rw [L23_s]
    by_cases hL6 : L < 6 * k + 6
    · refine ⟨Full z χ μ T, ?_⟩
      unfold B_La_law_23
      rw [if_pos]
      rw [Int32.lt_iff_toInt_lt, nI_toInt (by omega)]
      by_cases h6 : 6 ≤ L
      · rw [show (6 : Int32) = nI 6 from rfl, pk_sub h6, nI_toInt (by omega)]; omega
      · have : nI L - 6 < 0 := pk_sneg (a := L) (b := 6) (by decide) (by omega)
        rw [Int32.lt_iff_toInt_lt] at this
        have e0 : (0 : Int32).toInt = 0 := by decide
        omega
    · have hlt : ¬ nI L - 6 < nI (6 * k) := by
        rw [show (6 : Int32) = nI 6 from rfl, pk_sub (by omega)]
        exact nI_nlt (by omega) (by omega)
      have nxt : ∀ χ' μ' T', Ivs z χ' μ' T' (k + 1) → ∃ S', L_La_law_23 xs L fu z (z + 12) (z + 29) (nI (6 * k) + 6) (Full z χ' μ' T') = some (1, S') := by
        intro χ' μ' T' hI'
        rw [nI_p6, show 6 * k + 6 = 6 * (k + 1) by omega]
        exact ih (k + 1) fu χ' μ' T' (by omega) (by omega) (by omega) hI'
      have ok : ∀ {c m}, Call z χ μ T k c m → ∃ S', gB2 (c (Full z χ μ T)) (fun v8 S7 => Option.bind (gOb S7 (z + 12) 10) (fun _ => gB2 (m (z + 12) S7) (fun v13 S12 => Option.bind (gOb S12 (z + 12) 10) (fun _ => gB2 (D_Mo_thrown (z + 12) S12) (fun v16 S15 => (if v16 = v8 then (if v8 = 0 then Option.bind (gAL S15 (z + 29) 1 0) (fun v20 => (if (lg_cmp v20 v13.toInt64) = 0 then L_La_law_23 xs L fu z (z + 12) (z + 29) (nI (6 * k) + 6) S15 else some (0, S15))) else L_La_law_23 xs L fu z (z + 12) (z + 29) (nI (6 * k) + 6) S15) else some (0, S15))))))) = some (1, S') := by
        intro c m h
        obtain ⟨χ', μ', T', h1, h2⟩ := K_step h
        obtain ⟨S', hS⟩ := nxt χ' μ' T' h1
        exact ⟨S', (h2 _).trans hS⟩
      unfold B_La_law_23 B_La_law_205 B_La_law_261 B_La_law_426 B_La_law_494 B_La_law_586 B_La_law_654 B_La_law_722 B_La_law_790 B_La_law_846 B_La_law_902 B_La_law_958 B_La_law_961
      rw [if_neg hlt]
      simp only [nI_1, nI_p2, nI_p3, nI_p4, nI_p5, gScr_n (show 6 * k < L by omega) hL, gScr_n (show 6 * k + 1 < L by omega) hL, gScr_n (show 6 * k + 2 < L by omega) hL, gScr_n (show 6 * k + 3 < L by omega) hL, gScr_n (show 6 * k + 4 < L by omega) hL, gScr_n (show 6 * k + 5 < L by omega) hL, Option.bind_some]
      by_cases c0 : xs (6 * k) &&& 15 = 0
      · rw [if_pos c0]; exact ok (K_sign hI hk')
      rw [if_neg c0]
      by_cases c1 : xs (6 * k) &&& 15 = 1
      · rw [if_pos c1]; exact ok (K_read hI hk')
      rw [if_neg c1]
      by_cases c2 : xs (6 * k) &&& 15 = 2
      · rw [if_pos c2, show gOb (Full z χ μ T) z 0 = some (cfs z χ) from c_ob]
        obtain ⟨p1, p2⟩ := K_place hI
        simp only [Option.bind_some]
        rw [p1]
        simp only [gB2_some]
        rw [F_mc, m_ob]
        simp only [Option.bind_some, M_place, gB2_some]
        rw [if_pos trivial, ← F_mc]
        exact nxt χ (mI μ 0 0) T p2
      rw [if_neg c2]
      by_cases c3 : xs (6 * k) &&& 15 = 3
      · rw [if_pos c3]
        obtain ⟨kk, χ', μ', T', t1, t2, t3, t4⟩ := K_town (s := xs (6 * k + 1)) (m := xs (6 * k + 2)) hI hk'
        rw [t1]
        simp only [gB2_some]
        rw [F_mc, m_ob]
        simp only [Option.bind_some]
        rw [t2]
        simp only [Option.bind_some, m_ob, M_thrown, gB2_some]
        rw [t3, if_pos rfl, ← F_mc]
        exact nxt χ' μ' T' t4
      rw [if_neg c3]
      by_cases c4 : xs (6 * k) &&& 15 = 4
      · rw [if_pos c4]; exact ok (K_plan hI hk')
      rw [if_neg c4]
      by_cases c5 : xs (6 * k) &&& 15 = 5
      · rw [if_pos c5]; exact ok (K_need hI hk')
      rw [if_neg c5]
      by_cases c6 : xs (6 * k) &&& 15 = 6
      · rw [if_pos c6]; exact ok (K_standby hI hk')
      rw [if_neg c6]
      by_cases c7 : xs (6 * k) &&& 15 = 7
      · rw [if_pos c7]; exact ok (K_clash hI hk')
      rw [if_neg c7]
      by_cases c8 : xs (6 * k) &&& 15 = 8
      · rw [if_pos c8]; exact ok (K_never hI hk')
      rw [if_neg c8]
      by_cases c9 : xs (6 * k) &&& 15 = 9
      · rw [if_pos c9]; exact ok (K_lacks hI hk')
      rw [if_neg c9]
      by_cases c10 : xs (6 * k) &&& 15 = 10
      · rw [if_pos c10]; exact ok (K_print hI hk')
      rw [if_neg c10]
      by_cases c11 : xs (6 * k) &&& 15 = 11
      · rw [if_pos c11]; exact ok (K_at hI hk')
      rw [if_neg c11]
      by_cases c12 : xs (6 * k) &&& 15 = 12
      · rw [if_pos c12]; exact ok (K_count hI hk')
      rw [if_neg c12]
      have same : Ivs z χ μ T (k + 1) := by
        obtain ⟨n, a, dd, Ev, L, P, hv⟩ := hI
        exact ⟨n, a, dd, Ev, L, P, hv.same hv.1 (fun q x _ hq _ => hq) (by omega) (by omega) rfl (fun _ _ => rfl)⟩
      exact nxt χ μ T same
end LL
