/-! goesOn, letter of the reference -/
theorem M_goesOn_w {w : Nat} {μ : mS} {S : gS} {x : Int32} (h5 : μ.1 5 ≠ 0) : D_Mo_goesOn w x (mput w μ S) = some (0, mput w μ S) := by
  unfold D_Mo_goesOn B_Mo_goesOn_15
  simp only [m_I5, Option.bind_some, gZo_0]
  rw [if_neg h5]
theorem M_goesOn {w n p : Nat} {μ : mS} {S : gS} {x : Int32} (hn : n ≤ 400) (hp : p < 100000) (e4 : μ.1 4 = nI p) (e3 : μ.1 3 = nI n) (h5 : μ.1 5 = 0) :
    D_Mo_goesOn w x (mput w μ S) = some (if seeV (μ.2 1) n (seeP (μ.2 1) n p) = x then (1, mput w (mI μ 4 (nI (seeP (μ.2 1) n p + 1))) S) else (0, mput w (mSee μ n p) S)) := by
  unfold D_Mo_goesOn B_Mo_goesOn_15
  simp only [m_I5, Option.bind_some, gZo_0, gZo_1, m_ob]
  rw [if_pos h5]
  simp only [M_see hn hp e4 e3, gB2_some]
  by_cases h : seeV (μ.2 1) n (seeP (μ.2 1) n p) = x
  · rw [if_pos h, if_pos h]
    simp only [m_I4, mI_s, m_P4, Option.bind_some, nI_1, mI_mI]
  · rw [if_neg h, if_neg h]
    rfl
theorem M_letter_w {w n p : Nat} {μ : mS} {S : gS} (hn : n ≤ 400) (hp : p < 100000) (e4 : μ.1 4 = nI p) (e3 : μ.1 3 = nI n) (h5 : μ.1 5 ≠ 0) : D_Mo_letter w (mput w μ S) = some (0, mput w (mSee μ n p) S) := by
  unfold D_Mo_letter B_Mo_letter_23
  simp only [m_ob, Option.bind_some, M_see hn hp e4 e3, gB2_some, m_I5, mI_n (show 5 ≠ 4 by decide)]
  rw [if_neg h5]
  simp only [m_I4, M_fail, Option.bind_some]
  unfold mFail
  rw [mI_n (show 5 ≠ 4 by decide), if_neg h5]
  rfl
theorem M_letter {w n p : Nat} {μ : mS} {S : gS} (hn : n ≤ 400) (hp : p < 100000) (e4 : μ.1 4 = nI p) (e3 : μ.1 3 = nI n) (h5 : μ.1 5 = 0) :
    D_Mo_letter w (mput w μ S) = some (if rng (seeV (μ.2 1) n (seeP (μ.2 1) n p)) 97 104 then (seeV (μ.2 1) n (seeP (μ.2 1) n p) - 97, mput w (mI μ 4 (nI (seeP (μ.2 1) n p + 1))) S) else (0, mput w (mFail (mSee μ n p) (nI (seeP (μ.2 1) n p))) S)) := by
  unfold D_Mo_letter B_Mo_letter_23
  simp only [m_ob, Option.bind_some, M_see hn hp e4 e3, gB2_some, m_I5, mI_n (show 5 ≠ 4 by decide)]
  rw [if_pos h5]
  simp only [M_in, gB2_some]
  show (if bI (rng (seeV (μ.2 1) n (seeP (μ.2 1) n p)) 97 104) = 0 then _ else _) = _
  cases rng (seeV (μ.2 1) n (seeP (μ.2 1) n p)) 97 104
  · simp [bI, m_I4, mI_s, M_fail, mSee, m_ob]
  · simp [bI, m_I4, mI_s, m_P4, nI_1, mI_mI]
