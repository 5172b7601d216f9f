theorem gF3 : gF = 997 + 1 + 1 + 1 := rfl
theorem M_num_74 {w n q : Nat} {μ : mS} {S : gS} {a b : Int32} (hn : n ≤ 400) (hq : q < 10000) (e4 : μ.1 4 = nI (q + 1)) (e3 : μ.1 3 = nI n) (hd : dg (μ.2 1) q ≤ 9) :
    B_Mo_number_74 w a b (nI (dg (μ.2 1) q)) (mput w μ S) = some (nI (numV (μ.2 1) n q), mput w (mFailO (mI μ 4 (nI (numE (μ.2 1) n q))) (numF (μ.2 1) n q a b)) S) := by
  have fin : ∀ (μ' : mS) (v e : Nat), 0 < e → e < 100000 → μ'.1 4 = nI e → μ'.1 3 = nI n → μ'.2 = μ.2 → mI μ 4 (nI e) = μ' → numV (μ.2 1) n q = v → numE (μ.2 1) n q = e →
      B_Mo_number_132 w a b (nI v) (mput w μ' S) = some (nI (numV (μ.2 1) n q), mput w (mFailO (mI μ 4 (nI (numE (μ.2 1) n q))) (numF (μ.2 1) n q a b)) S) := by
    intro μ' v e h0 he f4 f3 f2 fm ev ee
    rw [M_num_132 hn h0 he f4 f3, ev, ee, fm, f2]
    unfold numF
    rw [ev, ee]
    cases rng (nI v) a b
    · rfl
    · cases dig (μ.2 1) n e <;> rfl
  unfold B_Mo_number_74
  rw [gF3, L77_s, show (0 : Int32) = nI 0 from rfl, M_num_77 hn (by omega) e4 e3 (by omega) (by omega)]
  by_cases h0 : dg (μ.2 1) q = 0
  · rw [if_neg (by rw [h0]; simp)]
    exact fin μ _ (q + 1) (by omega) (by omega) e4 e3 rfl (mI_same e4) (by unfold numV; rw [if_pos h0, h0]) (by unfold numE; rw [if_pos h0])
  · by_cases h1 : dig (μ.2 1) n (q + 1) = true
    · rw [if_pos ⟨by omega, by omega, h1⟩, L77_s]
      obtain ⟨d1, d2, d3⟩ := dig_spec h1
      rw [M_num_77 hn (e := q + 1 + 1) (by omega) (by rw [mI_s]) (by rw [mI_n (by decide), e3]) (by omega) (by omega)]
      rw [mI_2]
      by_cases h2 : dig (μ.2 1) n (q + 1 + 1) = true
      · rw [if_pos ⟨by omega, by omega, h2⟩, L77_s]
        have h2 : dig (μ.2 1) n (q + 2) = true := h2
        obtain ⟨g1, g2, g3⟩ := dig_spec h2
        rw [M_num_77 hn (e := q + 2 + 1) (i := 2) (v := 10 * (10 * dg (μ.2 1) q + dg (μ.2 1) (q + 1)) + dg (μ.2 1) (q + 2)) (by omega) (by rw [mI_s]) (by rw [mI_n (by decide), mI_n (by decide), e3]) (by omega) (by omega)]
        rw [if_neg (by omega), mI_mI]
        exact fin _ _ (q + 3) (by omega) (by omega) (by rw [mI_s]) (by rw [mI_n (by decide), e3]) rfl rfl (by unfold numV; rw [if_neg h0, if_pos h1, if_pos h2]; omega) (by unfold numE; rw [if_neg h0, if_pos h1, if_pos h2])
      · rw [if_neg (fun h => h2 h.2.2)]
        have h2 : ¬ dig (μ.2 1) n (q + 2) = true := h2
        exact fin _ _ (q + 2) (by omega) (by omega) (by rw [mI_s]) (by rw [mI_n (by decide), e3]) rfl rfl (by unfold numV; rw [if_neg h0, if_pos h1, if_neg h2]) (by unfold numE; rw [if_neg h0, if_pos h1, if_neg h2])
    · rw [if_neg (fun h => h1 h.2.2)]
      exact fin μ _ (q + 1) (by omega) (by omega) e4 e3 rfl (mI_same e4) (by unfold numV; rw [if_neg h0, if_neg h1]) (by unfold numE; rw [if_neg h0, if_neg h1])
theorem M_number_w {w n p : Nat} {μ : mS} {S : gS} {a b : Int32} (hn : n ≤ 400) (hp : p < 10000) (e4 : μ.1 4 = nI p) (e3 : μ.1 3 = nI n) (h5 : μ.1 5 ≠ 0) : D_Mo_number w a b (mput w μ S) = some (a, mput w (mSee μ n p) S) := by
  unfold D_Mo_number B_Mo_number_23
  simp only [m_ob, Option.bind_some, M_see hn (by omega) e4 e3, gB2_some, m_I5, mI_n (show 5 ≠ 4 by decide)]
  rw [if_neg h5]
  simp only [m_I4, M_fail, Option.bind_some]
  unfold mFail
  rw [mI_n (show 5 ≠ 4 by decide), if_neg h5]
  rfl
theorem M_number_n {w n p : Nat} {μ : mS} {S : gS} {a b : Int32} (hn : n ≤ 400) (hp : p ≤ 400) (e4 : μ.1 4 = nI p) (e3 : μ.1 3 = nI n) (h5 : μ.1 5 = 0) (hd : dig (μ.2 1) n (seeP (μ.2 1) n p) = false) : D_Mo_number w a b (mput w μ S) = some (a, mput w (mFail (mSee μ n p) (nI (seeP (μ.2 1) n p))) S) := by
  have hq : seeP (μ.2 1) n p ≤ 1000 := by have := (skipB_le (f := μ.2 1) (n - p) p).2; unfold seeP; omega
  unfold D_Mo_number B_Mo_number_23
  simp only [m_ob, Option.bind_some, M_see hn (show p < 100000 by omega) e4 e3, gB2_some, m_I5, mI_n (show 5 ≠ 4 by decide)]
  rw [if_pos h5]
  simp only [m_I4, mI_s, Option.bind_some]
  rw [M_isDigit hn (by omega) (by rw [mI_n (by decide), e3])]
  simp only [gB2_some, mI_2, hd]
  simp [bI, m_I4, mI_s, M_fail, mSee, m_ob]
theorem M_number_d {w n p : Nat} {μ : mS} {S : gS} {a b : Int32} (hn : n ≤ 400) (hp : p ≤ 400) (e4 : μ.1 4 = nI p) (e3 : μ.1 3 = nI n) (h5 : μ.1 5 = 0) (ha : a = 0 ∨ 0 < a) (hd : dig (μ.2 1) n (seeP (μ.2 1) n p) = true) : D_Mo_number w a b (mput w μ S) = some (nI (numV (μ.2 1) n (seeP (μ.2 1) n p)), mput w (mFailO (mI μ 4 (nI (numE (μ.2 1) n (seeP (μ.2 1) n p)))) (numF (μ.2 1) n (seeP (μ.2 1) n p) a b)) S) := by
  have hq : seeP (μ.2 1) n p ≤ 1000 := by have := (skipB_le (f := μ.2 1) (n - p) p).2; unfold seeP; omega
  generalize hqe : seeP (μ.2 1) n p = q at hd hq ⊢
  obtain ⟨d1, d2, d3⟩ := dig_spec hd
  unfold D_Mo_number
  simp only [m_ob, Option.bind_some, M_see hn (show p < 100000 by omega) e4 e3, gB2_some, m_I5, mI_n (show 5 ≠ 4 by decide), hqe]
  rw [if_pos h5]
  simp only [m_I4, mI_s, Option.bind_some]
  rw [M_isDigit hn (by omega) (by rw [mI_n (by decide), e3])]
  simp only [gB2_some, mI_2, hd]
  have ev : nI (48 + dg (μ.2 1) q) - 48 = nI (dg (μ.2 1) q) := by
    rw [show (48 : Int32) = nI 48 from rfl, pk_sub (by omega)]; congr 1; omega
  simp only [bI, m_R1, m_I4, mI_s, Option.bind_some]
  rw [if_neg (by decide), m_g1 (by omega)]
  simp only [Option.bind_some, m_P4, mI_2, d3, ev, nI_1, mI_mI]
  have B74 := fun (μ' : mS) (f4 : μ'.1 4 = nI (q + 1)) (f3 : μ'.1 3 = nI n) (f2 : μ'.2 = μ.2) => M_num_74 (w := w) (S := S) (a := a) (b := b) (μ := μ') hn (show q < 10000 by omega) f4 f3 (by rw [f2]; exact d2)
  by_cases h0 : dg (μ.2 1) q = 0
  · rw [if_pos (by rw [h0]; rfl)]
    rcases ha with rfl | ha
    · rw [if_pos (by decide)]
      have := B74 (mI μ 4 (nI (q + 1))) (by rw [mI_s]) (by rw [mI_n (by decide), e3]) rfl
      rw [mI_2] at this
      rw [this, mI_mI]
    · rw [if_neg (i_ltn ha)]
      simp only [m_I4, mI_s, Option.bind_some, m_ob, M_fail, nI_pred]
      have := B74 (mFail (mI μ 4 (nI (q + 1))) (nI q)) (by rw [mF_1 (by decide) (by decide), mI_s]) (by rw [mF_1 (by decide) (by decide), mI_n (by decide), e3]) (by rw [mF_2]; rfl)
      rw [mF_2, mI_2] at this
      rw [this, mF_4, mI_mI]
      have hv : numV (μ.2 1) n q = 0 := by unfold numV; rw [if_pos h0]
      have he : numE (μ.2 1) n q = q + 1 := by unfold numE; rw [if_pos h0]
      have hr : rng (nI (numV (μ.2 1) n q)) a b = false := by
        rw [hv]
        have : ¬ a ≤ nI 0 := i_ltn ha
        simp [rng, this]
      unfold numF
      rw [hr, he]
      show some (_, mput w (mFail (mFail _ _) _) S) = some (_, mput w (mFail _ (nI (q + 1 - 1))) S)
      rw [mF_F]
      rfl
  · rw [if_neg (nI_ne0 (by omega) (by omega))]
    have := B74 (mI μ 4 (nI (q + 1))) (by rw [mI_s]) (by rw [mI_n (by decide), e3]) rfl
    rw [mI_2] at this
    rw [this, mI_mI]
