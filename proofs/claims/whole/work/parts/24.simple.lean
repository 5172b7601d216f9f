/-! SIMPLE CALLS -/
theorem i_nlt {a b : Int32} (h : ¬ a < b) : b ≤ a := by rw [Int32.le_iff_toInt_le]; rw [Int32.lt_iff_toInt_lt] at h; omega
theorem i_nle {a b : Int32} (h : ¬ a ≤ b) : b < a := by rw [Int32.lt_iff_toInt_lt]; rw [Int32.le_iff_toInt_le] at h; omega
theorem i_ltn {a b : Int32} (h : a < b) : ¬ b ≤ a := by rw [Int32.le_iff_toInt_le]; rw [Int32.lt_iff_toInt_lt] at h; omega
theorem i_len {a b : Int32} (h : a ≤ b) : ¬ b < a := by rw [Int32.lt_iff_toInt_lt]; rw [Int32.le_iff_toInt_le] at h; omega
def rng (v a b : Int32) : Bool := decide (a ≤ v) && decide (v ≤ b)
def gTh (S : gS) : gS := (S.1, S.2.1 + 1, S.2.2.1 + 1, S.2.2.2 + 6)
def gRoom (S : gS) : Prop := S.2.2.1 + 1 ≤ gC ∧ S.2.2.2 + 6 ≤ gU
theorem gThr_ok {S : gS} (h : gRoom S) : gThr S = some (gTh S) := by unfold gThr; exact if_pos h
theorem gTh_c {z : Nat} {χ : cS} {S : gS} : gTh (cput z χ S) = cput z χ (gTh S) := rfl
theorem gTh_m {w : Nat} {μ : mS} {S : gS} : gTh (mput w μ S) = mput w μ (gTh S) := rfl
theorem gRoom_c {z : Nat} {χ : cS} {S : gS} : gRoom (cput z χ S) ↔ gRoom S := Iff.rfl
abbrev IOOBE : String := "java/lang/IndexOutOfBoundsException"
abbrev IAE : String := "java/lang/IllegalArgumentException"
abbrev ISE : String := "java/lang/IllegalStateException"
abbrev UOE : String := "java/lang/UnsupportedOperationException"
theorem C_within {v a b : Int32} {S : gS} (h : gRoom S) : D_PT_requireWithin v a b S = some (if rng v a b then (.inr (), S) else (.inl IOOBE, gTh S)) := by
  unfold D_PT_requireWithin B_PT_requireWithin_10
  rw [gThr_ok h]
  by_cases h1 : v < a
  · have := i_ltn h1
    simp [h1, rng, this]
  · have h1' := i_nlt h1
    by_cases h2 : v ≤ b <;> simp [h1, h2, rng, h1']
theorem C_day {v : Int32} {S : gS} (h : gRoom S) : D_PT_requireDay v S = some (if rng v 0 9999 then (.inr (), S) else (.inl IOOBE, gTh S)) := by
  unfold D_PT_requireDay
  rw [C_within h]
  by_cases hr : rng v 0 9999 = true
  · rw [if_pos hr]; rfl
  · rw [if_neg hr]; rfl
theorem C_skill {v : Int32} {S : gS} (h : gRoom S) : D_PT_requireSkill v S = some (if rng v 0 7 then (.inr (), S) else (.inl IAE, gTh S)) := by
  unfold D_PT_requireSkill B_PT_requireSkill_10
  rw [gThr_ok h]
  by_cases h1 : v < 0
  · have := i_ltn h1
    simp [h1, rng, this]
  · have h1' := i_nlt h1
    have e : v < 8 ↔ v ≤ 7 := by rw [Int32.lt_iff_toInt_lt, Int32.le_iff_toInt_le]; show v.toInt < 8 ↔ v.toInt ≤ 7; omega
    by_cases h2 : v ≤ 7
    · simp [h1, e, h2, rng, h1']
    · simp [h1, e, h2, rng]
theorem C_index {v : Int32} {S : gS} (h : gRoom S) : D_PT_requireIndex v S = some (if 0 ≤ v then (.inr (), S) else (.inl IOOBE, gTh S)) := by
  unfold D_PT_requireIndex
  rw [gThr_ok h]
  by_cases h1 : 0 ≤ v <;> simp [h1]
theorem rng_nI {v b : Int32} {n : Nat} (hb : b.toInt = n) (h : rng v 0 b = true) : ∃ j : Nat, j ≤ n ∧ v = nI j := by
  simp only [rng, Bool.and_eq_true, decide_eq_true_eq] at h
  exact nI_of2 hb (i_len h.1) h.2
theorem C_place {z : Nat} {χ : cS} {S : gS} : D_PT_place z (cput z χ S) = some (χ.1 2, cput z χ S) := by
  unfold D_PT_place; simp only [c_I2, Option.bind_some]
theorem M_place {w : Nat} {μ : mS} {S : gS} : D_Mo_place w (mput w μ S) = some (μ.1 6, mput w (mI μ 0 0) S) := by
  unfold D_Mo_place; simp only [m_P0, m_I6, Option.bind_some]; rfl
theorem C_town {z : Nat} {χ : cS} {S : gS} {k n : Int32} (h : gRoom S) : D_PT_town z k n (cput z χ S) = some (if rng k 0 7 then (if rng n 0 99 then (.inr (), cput z (cA χ 2 k.toNatClampNeg n) S) else (.inl IOOBE, cput z χ (gTh S))) else (.inl IAE, cput z χ (gTh S))) := by
  unfold D_PT_town
  rw [C_skill (gRoom_c.mpr h)]
  by_cases h1 : rng k 0 7 = true
  · rw [if_pos h1, if_pos h1]
    obtain ⟨j, hj, rfl⟩ := rng_nI (n := 7) (by decide) h1
    show gTry (D_PT_requireWithin n 0 99 (cput z χ S)) _ = _
    rw [C_within (gRoom_c.mpr h)]
    by_cases h2 : rng n 0 99 = true
    · rw [if_pos h2, if_pos h2]
      show Option.bind (gRf (cput z χ S) z 0 3) _ = _
      rw [c_R3]
      simp only [Option.bind_some]
      rw [c_s2 (by omega), nI_clamp (by omega)]
      rfl
    · rw [if_neg h2, if_neg h2]; rfl
  · rw [if_neg h1, if_neg h1]; rfl
theorem M_town {w : Nat} {μ : mS} {S : gS} {k n : Int32} : D_Mo_town w k n (mput w μ S) = some (if rng k 0 7 then (if rng n 0 99 then mput w (mA (mI μ 0 0) 15 k.toNatClampNeg n) S else mput w (mI μ 0 2) S) else mput w (mI μ 0 1) S) := by
  unfold D_Mo_town B_Mo_town_16
  simp only [M_in, gB2_some]
  unfold B_Mo_town_31
  show (if bI (rng k 0 7) = 0 then (if bI (rng n 0 99) = 0 then _ else _) else (if bI (rng n 0 99) = 0 then _ else _)) = _
  cases h1 : rng k 0 7 <;> cases h2 : rng n 0 99
  · simp [bI, m_ob, M_th1, gB2_some]
  · simp [bI, m_ob, M_th1, gB2_some]
  · simp [bI, m_ob, M_th01, gB2_some]
  · obtain ⟨j, hj, rfl⟩ := rng_nI (n := 7) (by decide) h1
    simp [bI, m_ob, M_th0, gB2_some, m_R22]
    rw [m_s15 (by omega), nI_clamp (by omega)]
