/-! THE REFERENCE'S READING, AS PURE FUNCTIONS OF ITS STATE -/
/-- the first place from p on, of k at most, that is no blank -/
def skipB (f : Nat → Int32) : Nat → Nat → Nat
  | 0, p => p
  | k + 1, p => if f p = 32 then skipB f k (p + 1) else p
def seeP (f : Nat → Int32) (n p : Nat) : Nat := skipB f (n - p) p
def seeV (f : Nat → Int32) (n p : Nat) : Int32 := if p < n then f p else -1
theorem skipB_le {f : Nat → Int32} : ∀ k p, p ≤ skipB f k p ∧ skipB f k p ≤ p + k
  | 0, p => ⟨Nat.le_refl _, Nat.le_refl _⟩
  | k + 1, p => by
    unfold skipB
    split
    · have := skipB_le (f := f) k (p + 1); omega
    · omega
theorem seeP_ge {f : Nat → Int32} {n p : Nat} : p ≤ seeP f n p := (skipB_le _ _).1
theorem seeP_le {f : Nat → Int32} {n p : Nat} (h : p ≤ n) : seeP f n p ≤ n := by have := (skipB_le (f := f) (n - p) p).2; unfold seeP; omega
theorem seeP_out {f : Nat → Int32} {n p : Nat} (h : n ≤ p) : seeP f n p = p := by unfold seeP; rw [show n - p = 0 by omega]; rfl
theorem mI_same {μ : mS} {k : Nat} {v : Int32} (h : μ.1 k = v) : mI μ k v = μ := by
  refine Prod.ext ?_ rfl
  funext j
  show upd μ.1 k v j = μ.1 j
  unfold upd
  split
  · next e => rw [e, h]
  · rfl
theorem mI_mI {μ : mS} {k : Nat} {v v' : Int32} : mI (mI μ k v) k v' = mI μ k v' := by
  refine Prod.ext ?_ rfl
  funext j
  show upd (upd μ.1 k v) k v' j = upd μ.1 k v' j
  unfold upd
  split <;> rfl
theorem M_see_loop {w n : Nat} {S : gS} (hn : n ≤ 400) : ∀ (k p fuel : Nat) (μ : mS), n - p ≤ k → k < fuel → p < 100000 → μ.1 4 = nI p → μ.1 3 = nI n →
    L_Mo_see_0 fuel w (mput w μ S) = some (seeV (μ.2 1) n (seeP (μ.2 1) n p), mput w (mI μ 4 (nI (seeP (μ.2 1) n p))) S) := by
  intro k
  induction k with
  | zero =>
    intro p fuel μ hk hf hp e4 e3
    obtain ⟨fuel, rfl⟩ : ∃ m, fuel = m + 1 := ⟨fuel - 1, by omega⟩
    show B_Mo_see_0 (L_Mo_see_0 fuel) w (mput w μ S) = _
    have hle : nI n ≤ nI p := nI_le (by omega) (by omega)
    rw [seeP_out (by omega), mI_same e4]
    unfold B_Mo_see_0 B_Mo_see_38 B_Mo_see_62
    simp only [m_I4, m_I3, Option.bind_some, e4, e3]
    rw [if_pos hle, if_pos hle]
    unfold seeV
    rw [if_neg (by omega)]
  | succ k ih =>
    intro p fuel μ hk hf hp e4 e3
    obtain ⟨fuel, rfl⟩ : ∃ m, fuel = m + 1 := ⟨fuel - 1, by omega⟩
    show B_Mo_see_0 (L_Mo_see_0 fuel) w (mput w μ S) = _
    by_cases hpn : p < n
    · have hle : ¬ nI n ≤ nI p := nI_ge hpn (by omega)
      have hst : seeP (μ.2 1) n p = if μ.2 1 p = 32 then seeP (μ.2 1) n (p + 1) else p := by
        unfold seeP
        rw [show n - p = (n - (p + 1)) + 1 by omega]
        rfl
      unfold B_Mo_see_0
      simp only [m_I4, m_I3, m_R1, Option.bind_some, e4, e3]
      rw [if_neg hle, m_g1 (by omega)]
      simp only [Option.bind_some]
      by_cases h32 : μ.2 1 p = 32
      · rw [if_pos h32]
        simp only [m_P4, Option.bind_some]
        have := ih (p + 1) fuel (mI μ 4 (nI p + 1)) (by omega) (by omega) (by omega) (by rw [mI_s, nI_1]) (by rw [mI_n (by decide), e3])
        rw [this, hst, if_pos h32, mI_mI]
        rfl
      · rw [if_neg h32]
        rw [hst, if_neg h32, mI_same e4]
        unfold B_Mo_see_38 B_Mo_see_62
        simp only [m_I4, m_I3, m_R1, Option.bind_some, e4, e3]
        rw [if_neg hle, m_g1 (by omega)]
        unfold seeV
        rw [if_pos hpn]
        rfl
    · have hle : nI n ≤ nI p := nI_le (by omega) (by omega)
      rw [seeP_out (by omega), mI_same e4]
      unfold B_Mo_see_0 B_Mo_see_38 B_Mo_see_62
      simp only [m_I4, m_I3, Option.bind_some, e4, e3]
      rw [if_pos hle, if_pos hle]
      unfold seeV
      rw [if_neg (by omega)]
theorem M_see {w n p : Nat} {μ : mS} {S : gS} (hn : n ≤ 400) (hp : p < 100000) (e4 : μ.1 4 = nI p) (e3 : μ.1 3 = nI n) :
    D_Mo_see w (mput w μ S) = some (seeV (μ.2 1) n (seeP (μ.2 1) n p), mput w (mI μ 4 (nI (seeP (μ.2 1) n p))) S) :=
  M_see_loop hn (n - p) p gF μ (Nat.le_refl _) (by unfold gF; omega) hp e4 e3
/-- the reference's fail -/
def mFail (μ : mS) (v : Int32) : mS := if μ.1 5 = 0 then mI (mI μ 5 1) 6 v else μ
theorem M_fail {w : Nat} {μ : mS} {S : gS} {v : Int32} : D_Mo_fail w v (mput w μ S) = some (mput w (mFail μ v) S) := by
  unfold D_Mo_fail mFail
  simp only [m_I5, Option.bind_some, gZo_1, m_P5, m_P6]
  by_cases h : μ.1 5 = 0
  · rw [if_pos h, if_pos h]
  · rw [if_neg h, if_neg h]
def mSee (μ : mS) (n p : Nat) : mS := mI μ 4 (nI (seeP (μ.2 1) n p))
theorem M_expect {w n p : Nat} {μ : mS} {S : gS} {x : Int32} (hn : n ≤ 400) (hp : p < 100000) (e4 : μ.1 4 = nI p) (e3 : μ.1 3 = nI n) :
    D_Mo_expect w x (mput w μ S) = some (mput w (mI (if seeV (μ.2 1) n (seeP (μ.2 1) n p) = x then mSee μ n p else mFail (mSee μ n p) (nI (seeP (μ.2 1) n p))) 4 (nI (seeP (μ.2 1) n p + 1))) S) := by
  unfold D_Mo_expect B_Mo_expect_16
  simp only [m_ob, Option.bind_some, M_see hn hp e4 e3, gB2_some]
  by_cases h : seeV (μ.2 1) n (seeP (μ.2 1) n p) = x
  · rw [if_pos h, if_pos h]
    simp only [m_I4, mI_s, m_P4, Option.bind_some, nI_1]
    rfl
  · rw [if_neg h, if_neg h]
    simp only [m_I4, mI_s, m_P4, m_ob, M_fail, Option.bind_some]
    have e : (mFail (mI μ 4 (nI (seeP (μ.2 1) n p))) (nI (seeP (μ.2 1) n p))).1 4 = nI (seeP (μ.2 1) n p) := by
      unfold mFail
      split
      · rw [mI_n (by decide), mI_n (by decide), mI_s]
      · rw [mI_s]
    rw [e, nI_1]
    rfl
