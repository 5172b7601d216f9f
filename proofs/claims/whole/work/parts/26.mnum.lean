/-! NUMBERS AND LETTERS OF THE REFERENCE -/
def dig (f : Nat → Int32) (n p : Nat) : Bool := decide (p < n) && rng (f p) 48 57
def dg (f : Nat → Int32) (p : Nat) : Nat := (f p).toNatClampNeg - 48
def numV (f : Nat → Int32) (n q : Nat) : Nat := if dg f q = 0 then 0 else if dig f n (q + 1) then (if dig f n (q + 2) then 100 * dg f q + 10 * dg f (q + 1) + dg f (q + 2) else 10 * dg f q + dg f (q + 1)) else dg f q
def numE (f : Nat → Int32) (n q : Nat) : Nat := if dg f q = 0 then q + 1 else if dig f n (q + 1) then (if dig f n (q + 2) then q + 3 else q + 2) else q + 1
/-- where a number that begins at q is wrong -/
def numF (f : Nat → Int32) (n q : Nat) (a b : Int32) : Option Nat := if rng (nI (numV f n q)) a b then (if dig f n (numE f n q) then some (numE f n q) else none) else some (numE f n q - 1)
def mFailO (μ : mS) (o : Option Nat) : mS := match o with
  | none => μ
  | some x => mFail μ (nI x)
theorem rng_spec {v a b : Int32} : rng v a b = true ↔ a ≤ v ∧ v ≤ b := by simp [rng]
theorem rng_nat {x : Int32} {lo hi : Nat} {a b : Int32} (ha : a = nI lo) (hb : b = nI hi) (h1 : hi < 2 ^ 31) (h2 : lo ≤ hi) (h : rng x a b = true) : ∃ c, lo ≤ c ∧ c ≤ hi ∧ x = nI c := by
  rw [rng_spec, ha, hb] at h
  have h0 : ¬ x < 0 := by
    have := h.1
    rw [Int32.le_iff_toInt_le, nI_toInt (by omega)] at this
    rw [Int32.lt_iff_toInt_lt, Int32.toInt_zero]; omega
  obtain ⟨j, hj, rfl⟩ := nI_of h0
  exact ⟨j, (nI_leI (by omega) hj).mp h.1, (nI_leI hj (by omega)).mp h.2, rfl⟩
theorem dig_spec {f : Nat → Int32} {n p : Nat} (h : dig f n p = true) : p < n ∧ dg f p ≤ 9 ∧ f p = nI (48 + dg f p) := by
  simp only [dig, Bool.and_eq_true, decide_eq_true_eq] at h
  obtain ⟨c, h1, h2, h3⟩ := rng_nat (lo := 48) (hi := 57) rfl rfl (by decide) (by decide) h.2
  refine ⟨h.1, ?_, ?_⟩
  · unfold dg; rw [h3, nI_clamp (by omega)]; omega
  · unfold dg; rw [h3, nI_clamp (by omega), show 48 + (c - 48) = c by omega]
theorem M_isDigit {w n p : Nat} {μ : mS} {S : gS} (hn : n ≤ 400) (hp : p < 100000) (e3 : μ.1 3 = nI n) : D_Mo_isDigit w (nI p) (mput w μ S) = some (bI (dig (μ.2 1) n p), mput w μ S) := by
  unfold D_Mo_isDigit B_Mo_isDigit_28 B_Mo_isDigit_29
  simp only [m_I3, m_R1, Option.bind_some, e3]
  by_cases h : p < n
  · rw [if_neg (nI_ge h (by omega)), m_g1 (by omega)]
    simp only [Option.bind_some, M_in, gB2_some]
    show (if bI (rng (μ.2 1 p) 48 57) = 0 then _ else _) = _
    unfold dig
    cases hr : rng (μ.2 1 p) 48 57 <;> simp [bI, h, gZo_0, gZo_1]
  · rw [if_pos (nI_le (by omega) (by omega))]
    simp [dig, h, bI, gZo_0]
theorem mF_4 {μ : mS} {v x : Int32} : mI (mFail μ v) 4 x = mFail (mI μ 4 x) v := by
  unfold mFail
  rw [mI_n (by decide)]
  split
  · refine Prod.ext ?_ rfl
    funext j
    show upd (upd (upd μ.1 5 1) 6 v) 4 x j = upd (upd (upd μ.1 4 x) 5 1) 6 v j
    unfold upd
    by_cases h4 : j = 4
    · subst h4; simp
    · simp [h4]
  · rfl
theorem mF_1 {μ : mS} {v : Int32} {k : Nat} (h5 : k ≠ 5) (h6 : k ≠ 6) : (mFail μ v).1 k = μ.1 k := by
  unfold mFail
  split
  · rw [mI_n h6, mI_n h5]
  · rfl
theorem mF_2 {μ : mS} {v : Int32} : (mFail μ v).2 = μ.2 := by unfold mFail; split <;> rfl
theorem mF_w {μ : mS} {v : Int32} : (mFail μ v).1 5 ≠ 0 := by
  unfold mFail
  split
  · rw [mI_n (by decide), mI_s]; decide
  · next h => exact h
theorem mF_F {μ : mS} {v v' : Int32} : mFail (mFail μ v) v' = mFail μ v := by
  conv => lhs; unfold mFail
  rw [if_neg]
  · rfl
  · exact mF_w
theorem M_num_151 {w n e : Nat} {μ : mS} {S : gS} {v : Int32} (hn : n ≤ 400) (he : e < 100000) (e4 : μ.1 4 = nI e) (e3 : μ.1 3 = nI n) : B_Mo_number_151 w v (mput w μ S) = some (v, mput w (if dig (μ.2 1) n e then mFail μ (nI e) else μ) S) := by
  unfold B_Mo_number_151 B_Mo_number_170
  simp only [m_I4, m_ob, Option.bind_some, e4, M_isDigit hn he e3, gB2_some]
  cases dig (μ.2 1) n e
  · simp [bI]
  · simp [bI, e4, m_I4, M_fail, m_ob]
theorem M_num_132 {w n e : Nat} {μ : mS} {S : gS} {v a b : Int32} (hn : n ≤ 400) (h0 : 0 < e) (he : e < 100000) (e4 : μ.1 4 = nI e) (e3 : μ.1 3 = nI n) : B_Mo_number_132 w a b v (mput w μ S) = some (v, mput w (if rng v a b then (if dig (μ.2 1) n e then mFail μ (nI e) else μ) else mFail μ (nI (e - 1))) S) := by
  unfold B_Mo_number_132
  simp only [M_in, gB2_some]
  show (if bI (rng v a b) = 0 then _ else _) = _
  cases rng v a b
  · have em : nI e - 1 = nI (e - 1) := by
      obtain ⟨k, rfl⟩ : ∃ k, e = k + 1 := ⟨e - 1, by omega⟩
      rw [nI_pred]; rfl
    simp only [bI, m_I4, m_ob, Option.bind_some, e4, M_fail, em]
    rw [M_num_151 hn he (by rw [mF_1 (by decide) (by decide), e4]) (by rw [mF_1 (by decide) (by decide), e3])]
    simp only [mF_F, ite_self]
    rfl
  · simp only [bI]
    rw [M_num_151 hn he e4 e3]
    rfl
theorem L77_s {k w : Nat} {a b v i : Int32} {S : gS} : L_Mo_number_77 (k + 1) w a b v i S = B_Mo_number_77 (L_Mo_number_77 k) w a b v i S := rfl
/-- one turn of the loop over the digits -/
theorem M_num_77 {w n e k v i : Nat} {μ : mS} {S : gS} {a b : Int32} (hn : n ≤ 400) (he : e < 100000) (e4 : μ.1 4 = nI e) (e3 : μ.1 3 = nI n) (hv : v < 1000) (hi : i ≤ 2) : B_Mo_number_77 (L_Mo_number_77 k) w a b (nI v) (nI i) (mput w μ S) =
    if i < 2 ∧ 0 < v ∧ dig (μ.2 1) n e = true then L_Mo_number_77 k w a b (nI (10 * v + dg (μ.2 1) e)) (nI (i + 1)) (mput w (mI μ 4 (nI (e + 1))) S) else B_Mo_number_132 w a b (nI v) (mput w μ S) := by
  unfold B_Mo_number_77
  by_cases h1 : i < 2
  · rw [if_neg (show ¬ (2 : Int32) ≤ nI i from nI_ge (a := i) (b := 2) h1 (by decide))]
    by_cases h2 : 0 < v
    · rw [if_neg (nI_nle h2 (by omega))]
      simp only [m_I4, m_ob, Option.bind_some, e4, M_isDigit hn he e3, gB2_some]
      cases hd : dig (μ.2 1) n e
      · simp [bI]
      · obtain ⟨d1, d2, d3⟩ := dig_spec hd
        have ev : (10 * nI v + μ.2 1 e) - 48 = nI (10 * v + dg (μ.2 1) e) := by
          rw [d3, show (10 : Int32) = nI 10 from rfl, show (48 : Int32) = nI 48 from rfl, pk_mul, nI_add, pk_sub (by omega)]
          congr 1; omega
        simp only [bI, m_R1, m_I4, Option.bind_some, e4]
        rw [m_g1 (by omega)]
        simp only [Option.bind_some, m_P4, ev, nI_1]
        simp [h1, h2]
    · have hv0 : v = 0 := by omega
      subst hv0
      rw [if_pos (show nI 0 ≤ 0 by decide)]
      simp
  · rw [if_pos (show (2 : Int32) ≤ nI i from nI_le (a := 2) (by omega) (by omega))]
    simp [h1]
