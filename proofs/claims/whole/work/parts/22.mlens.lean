/-! THE REFERENCE'S CELLS AS A LENS: its object at w, its sixteen arrays behind it -/
abbrev mS : Type := (Nat → Int32) × (Nat → Nat → Int32)
def mfs (w : Nat) (iv : Nat → Int32) : List Value := [.int (iv 0), .ref (w + 1), .int (iv 2), .int (iv 3), .int (iv 4), .int (iv 5), .int (iv 6), .int (iv 7), .int (iv 8), .ref (w + 2), .ref (w + 3), .ref (w + 4), .ref (w + 5), .ref (w + 6), .ref (w + 7), .ref (w + 8), .ref (w + 9), .ref (w + 10), .ref (w + 11), .ref (w + 12), .ref (w + 13), .ref (w + 14), .ref (w + 15), .int (iv 23), .ref (w + 16), .int (iv 25)]
def mlen : Nat → Nat
  | 1 => 400
  | 2 => 7
  | 12 => 8750
  | 13 => 7
  | 14 => 280
  | 15 => 8
  | 16 => 500
  | _ => 350
def mkd (j : Nat) : Nat := if j = 3 then 3 else 0
def mcell (w : Nat) (μ : mS) (d : Nat) : gE := if d = 0 then .inr (10, mfs w μ.1) else .inl (mkd d, mlen d, .inl (μ.2 d))
def mput (w : Nat) (μ : mS) (S : gS) : gS := ((fun q => if q < w then S.1 q else if q < w + 17 then some (mcell w μ (q - w)) else S.1 q), S.2)
def mI (μ : mS) (k : Nat) (v : Int32) : mS := (upd μ.1 k v, μ.2)
def mA (μ : mS) (j i : Nat) (v : Int32) : mS := (μ.1, fun a => if a = j then upd (μ.2 j) i v else μ.2 a)
section ML
variable {w : Nat} {μ : mS} {S : gS}
theorem mput_0 : (mput w μ S).1 w = some (.inr (10, mfs w μ.1)) := by
  simp [mput, mcell]
theorem mput_j {j : Nat} (h0 : 0 < j) (h : j < 17) : (mput w μ S).1 (w + j) = some (.inl (mkd j, mlen j, .inl (μ.2 j))) := by
  have h1 : ¬ w + j < w := by omega
  have h2 : w + j < w + 17 := by omega
  have h3 : w + j - w = j := by omega
  have h4 : ¬ j = 0 := by omega
  simp only [mput, if_neg h1, if_pos h2, h3, mcell, if_neg h4]
theorem mput_ne {q : Nat} (h : q < w ∨ w + 17 ≤ q) : (mput w μ S).1 q = S.1 q := by
  by_cases h1 : q < w
  · simp only [mput, if_pos h1]
  · have h2 : ¬ q < w + 17 := by omega
    simp only [mput, if_neg h1, if_neg h2]
theorem mput_2 : (mput w μ S).2 = S.2 := rfl
theorem m_ob : gOb (mput w μ S) w 10 = some (mfs w μ.1) := by simp [gOb, mput_0]
theorem m_gI {k : Nat} {v : Int32} (h : (mfs w μ.1)[k]? = some (.int v)) : gI (mput w μ S) w 10 k = some v := by simp [gI, mput_0, h]
theorem m_gR {k j : Nat} (h : (mfs w μ.1)[k]? = some (.ref (w + j))) : gRf (mput w μ S) w 10 k = some (some (w + j)) := by simp [gRf, mput_0, h]
theorem m_put {k : Nat} {v : Int32} (hk : k < 26) (h : (mfs w μ.1).set k (.int v) = mfs w (upd μ.1 k v)) : gPut (mput w μ S) w 10 k (.int v) = some (mput w (mI μ k v) S) := by
  have hl : (mfs w μ.1).length = 26 := rfl
  simp only [gPut, mput_0, hl]
  rw [if_pos ⟨trivial, hk⟩]
  congr 1
  refine Prod.ext ?_ rfl
  funext q
  show gup (mput w μ S).1 w _ q = (mput w (mI μ k v) S).1 q
  by_cases hq : q = w
  · subst hq; rw [gup_self, mput_0, h]; rfl
  · rw [gup_ne hq]
    by_cases hin : q < w ∨ w + 17 ≤ q
    · rw [mput_ne hin, mput_ne hin]
    · obtain ⟨j, rfl⟩ : ∃ j, q = w + j := ⟨q - w, by omega⟩
      rw [mput_j (by omega) (by omega), mput_j (by omega) (by omega)]; rfl
theorem m_gA {j t i : Nat} {x : Int32} (h0 : 0 < j) (h : j < 17) (ht : mkd j = t) (hx : x = nI i) (hi : i < mlen j) (hm : mlen j < 2 ^ 31) : gAI (mput w μ S) (w + j) t x = some (μ.2 j i) := by
  subst hx
  simp only [gAI, mput_j h0 h]
  rw [if_pos ⟨ht, nI_in hi hm⟩, nI_clamp (by omega)]
theorem m_sA {j t i : Nat} {x v : Int32} (h0 : 0 < j) (h : j < 17) (ht : mkd j = t) (hx : x = nI i) (hi : i < mlen j) (hm : mlen j < 2 ^ 31) : gSI (mput w μ S) (w + j) t x v = some (mput w (mA μ j i v) S) := by
  subst hx
  simp only [gSI, mput_j h0 h]
  rw [if_pos ⟨ht, nI_in hi hm⟩, nI_clamp (by omega)]
  congr 1
  refine Prod.ext ?_ rfl
  funext q
  show gup (mput w μ S).1 (w + j) _ q = (mput w (mA μ j i v) S).1 q
  by_cases hq : q = w + j
  · subst hq
    rw [gup_self, mput_j h0 h]
    subst ht
    simp [mA]
  · rw [gup_ne hq]
    by_cases hin : q < w ∨ w + 17 ≤ q
    · rw [mput_ne hin, mput_ne hin]
    · obtain ⟨d, rfl⟩ : ∃ d, q = w + d := ⟨q - w, by omega⟩
      by_cases hd : d = 0
      · subst hd; rw [Nat.add_zero, mput_0, mput_0]; rfl
      · rw [mput_j (by omega) (by omega), mput_j (by omega) (by omega)]
        have hdj : ¬ d = j := by omega
        simp [mA, hdj]
/-- the fields, by number -/
theorem m_I0 : gI (mput w μ S) w 10 0 = some (μ.1 0) := m_gI rfl
theorem m_I2 : gI (mput w μ S) w 10 2 = some (μ.1 2) := m_gI rfl
theorem m_I3 : gI (mput w μ S) w 10 3 = some (μ.1 3) := m_gI rfl
theorem m_I4 : gI (mput w μ S) w 10 4 = some (μ.1 4) := m_gI rfl
theorem m_I5 : gI (mput w μ S) w 10 5 = some (μ.1 5) := m_gI rfl
theorem m_I6 : gI (mput w μ S) w 10 6 = some (μ.1 6) := m_gI rfl
theorem m_I7 : gI (mput w μ S) w 10 7 = some (μ.1 7) := m_gI rfl
theorem m_I8 : gI (mput w μ S) w 10 8 = some (μ.1 8) := m_gI rfl
theorem m_I23 : gI (mput w μ S) w 10 23 = some (μ.1 23) := m_gI rfl
theorem m_I25 : gI (mput w μ S) w 10 25 = some (μ.1 25) := m_gI rfl
theorem m_R1 : gRf (mput w μ S) w 10 1 = some (some (w + 1)) := m_gR rfl
theorem m_R9 : gRf (mput w μ S) w 10 9 = some (some (w + 2)) := m_gR rfl
theorem m_R10 : gRf (mput w μ S) w 10 10 = some (some (w + 3)) := m_gR rfl
theorem m_R11 : gRf (mput w μ S) w 10 11 = some (some (w + 4)) := m_gR rfl
theorem m_R12 : gRf (mput w μ S) w 10 12 = some (some (w + 5)) := m_gR rfl
theorem m_R13 : gRf (mput w μ S) w 10 13 = some (some (w + 6)) := m_gR rfl
theorem m_R14 : gRf (mput w μ S) w 10 14 = some (some (w + 7)) := m_gR rfl
theorem m_R15 : gRf (mput w μ S) w 10 15 = some (some (w + 8)) := m_gR rfl
theorem m_R16 : gRf (mput w μ S) w 10 16 = some (some (w + 9)) := m_gR rfl
theorem m_R17 : gRf (mput w μ S) w 10 17 = some (some (w + 10)) := m_gR rfl
theorem m_R18 : gRf (mput w μ S) w 10 18 = some (some (w + 11)) := m_gR rfl
theorem m_R19 : gRf (mput w μ S) w 10 19 = some (some (w + 12)) := m_gR rfl
theorem m_R20 : gRf (mput w μ S) w 10 20 = some (some (w + 13)) := m_gR rfl
theorem m_R21 : gRf (mput w μ S) w 10 21 = some (some (w + 14)) := m_gR rfl
theorem m_R22 : gRf (mput w μ S) w 10 22 = some (some (w + 15)) := m_gR rfl
theorem m_R24 : gRf (mput w μ S) w 10 24 = some (some (w + 16)) := m_gR rfl
theorem m_P0 {v : Int32} : gPut (mput w μ S) w 10 0 (.int v) = some (mput w (mI μ 0 v) S) := m_put (by decide) rfl
theorem m_P2 {v : Int32} : gPut (mput w μ S) w 10 2 (.int v) = some (mput w (mI μ 2 v) S) := m_put (by decide) rfl
theorem m_P3 {v : Int32} : gPut (mput w μ S) w 10 3 (.int v) = some (mput w (mI μ 3 v) S) := m_put (by decide) rfl
theorem m_P4 {v : Int32} : gPut (mput w μ S) w 10 4 (.int v) = some (mput w (mI μ 4 v) S) := m_put (by decide) rfl
theorem m_P5 {v : Int32} : gPut (mput w μ S) w 10 5 (.int v) = some (mput w (mI μ 5 v) S) := m_put (by decide) rfl
theorem m_P6 {v : Int32} : gPut (mput w μ S) w 10 6 (.int v) = some (mput w (mI μ 6 v) S) := m_put (by decide) rfl
theorem m_P7 {v : Int32} : gPut (mput w μ S) w 10 7 (.int v) = some (mput w (mI μ 7 v) S) := m_put (by decide) rfl
theorem m_P8 {v : Int32} : gPut (mput w μ S) w 10 8 (.int v) = some (mput w (mI μ 8 v) S) := m_put (by decide) rfl
theorem m_P23 {v : Int32} : gPut (mput w μ S) w 10 23 (.int v) = some (mput w (mI μ 23 v) S) := m_put (by decide) rfl
theorem m_P25 {v : Int32} : gPut (mput w μ S) w 10 25 (.int v) = some (mput w (mI μ 25 v) S) := m_put (by decide) rfl
theorem mI_s {k : Nat} {v : Int32} : (mI μ k v).1 k = v := by simp [mI, upd]
theorem mI_n {k j : Nat} {v : Int32} (h : j ≠ k) : (mI μ k v).1 j = μ.1 j := by simp [mI, upd, h]
theorem mI_2 {k : Nat} {v : Int32} : (mI μ k v).2 = μ.2 := rfl
theorem mA_1 {j i : Nat} {v : Int32} : (mA μ j i v).1 = μ.1 := rfl
theorem mA_n {j i a : Nat} {v : Int32} (h : a ≠ j) : (mA μ j i v).2 a = μ.2 a := by simp [mA, h]
theorem mA_s {j i : Nat} {v : Int32} : (mA μ j i v).2 j = upd (μ.2 j) i v := by simp [mA]
end ML
theorem gB2_some {α β : Type} {a : α} {S : gS} {f : α → gS → Option β} : gB2 (some (a, S)) f = f a S := rfl
theorem gZo_0 : gZo 0 = some 0 := rfl
theorem gZo_1 : gZo 1 = some 1 := rfl
/-- 1 or 0 -/
def bI (b : Bool) : Int32 := if b then 1 else 0
theorem M_in {v a b : Int32} {S : gS} : D_Mo_in v a b S = some (bI (decide (a ≤ v) && decide (v ≤ b)), S) := by
  unfold D_Mo_in B_Mo_in_14 B_Mo_in_15
  by_cases h1 : v < a
  · rw [if_pos h1]
    have : ¬ a ≤ v := by rw [Int32.le_iff_toInt_le]; rw [Int32.lt_iff_toInt_lt] at h1; omega
    simp [gZo_0, bI, this]
  · rw [if_neg h1]
    have h1' : a ≤ v := by rw [Int32.le_iff_toInt_le]; rw [Int32.lt_iff_toInt_lt] at h1; omega
    by_cases h2 : b < v
    · rw [if_pos h2]
      have : ¬ v ≤ b := by rw [Int32.le_iff_toInt_le]; rw [Int32.lt_iff_toInt_lt] at h2; omega
      simp [gZo_0, bI, this]
    · rw [if_neg h2]
      have h2' : v ≤ b := by rw [Int32.le_iff_toInt_le]; rw [Int32.lt_iff_toInt_lt] at h2; omega
      simp [gZo_1, bI, h1', h2']
theorem M_thrown {w : Nat} {μ : mS} {S : gS} : D_Mo_thrown w (mput w μ S) = some (μ.1 0, mput w μ S) := by
  unfold D_Mo_thrown
  simp only [m_I0, Option.bind_some]
theorem bI_0 {b : Bool} : bI b = 0 ↔ b = false := by cases b <;> decide
theorem M_throwing {w : Nat} {μ : mS} {S : gS} {a b c : Bool} : D_Mo_throwing w (bI a) (bI b) (bI c) (mput w μ S) = some (bI (a || b || c), mput w (mI μ 0 (if a then 1 else if b then 2 else if c then 3 else 0)) S) := by
  unfold D_Mo_throwing B_Mo_throwing_26 B_Mo_throwing_41
  cases a <;> cases b <;> cases c <;> simp [bI, m_P0, m_I0, mI_s, gZo_0, gZo_1] <;> decide
