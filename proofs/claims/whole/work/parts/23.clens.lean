/-! THE CLASS'S OWN CELLS AS A LENS: the object at z and what its constructor made; ints, references, int arrays, the editions -/
abbrev cS : Type := (Nat → Int32) × (Nat → Option Nat) × (Nat → Nat → Int32) × (Nat → Option Nat)
def cfs (z : Nat) (χ : cS) : List Value := [.ref (z + 1), .int (χ.1 1), .int (χ.1 2), .ref (z + 2), .ref (z + 3), .int (χ.1 5), .ref (z + 4), va_rf (χ.2.1 7), .ref (z + 8), va_rf (χ.2.1 9), .ref (z + 10)]
def gNo : (Nat → Int32) ⊕ (Nat → Int64) ⊕ (Nat → UInt32) ⊕ (Nat → UInt64) ⊕ (Nat → Option Nat) := .inr (.inr (.inr (.inr (fun _ => none))))
def ccell (z : Nat) (χ : cS) (d : Nat) : gE := match d with
  | 0 => .inr (0, cfs z χ)
  | 1 => .inl (2, 400, .inl (χ.2.2.1 1))
  | 2 => .inl (0, 8, .inl (χ.2.2.1 2))
  | 3 => .inl (4, 6, .inr (.inr (.inr (.inr χ.2.2.2))))
  | 4 => .inr (1, [.int (-1), .ref (z + 5), .ref (z + 6), .ref (z + 7), .int 0, .int 0, .int 0])
  | 5 => .inl (5, 41, gNo)
  | 6 => .inl (6, 10, gNo)
  | 7 => .inl (7, 8, gNo)
  | 8 => .inr (4, [.ref (z + 9), .int 0])
  | 9 => .inl (8, 5, gNo)
  | 10 => .inr (6, [.ref (z + 11), .int (χ.1 11)])
  | _ => .inl (2, 400, .inl (χ.2.2.1 11))
def cput (z : Nat) (χ : cS) (S : gS) : gS := ((fun q => if q < z then S.1 q else if q < z + 12 then some (ccell z χ (q - z)) else S.1 q), S.2)
def cI (χ : cS) (k : Nat) (v : Int32) : cS := (upd χ.1 k v, χ.2)
def cR (χ : cS) (k : Nat) (r : Option Nat) : cS := (χ.1, va_up χ.2.1 k r, χ.2.2)
def cA (χ : cS) (j i : Nat) (v : Int32) : cS := (χ.1, χ.2.1, (fun a => if a = j then upd (χ.2.2.1 j) i v else χ.2.2.1 a), χ.2.2.2)
def cE (χ : cS) (i : Nat) (r : Option Nat) : cS := (χ.1, χ.2.1, χ.2.2.1, va_up χ.2.2.2 i r)
section CL
variable {z : Nat} {χ : cS} {S : gS}
theorem cput_j {j : Nat} (h : j < 12) : (cput z χ S).1 (z + j) = some (ccell z χ j) := by
  have h1 : ¬ z + j < z := by omega
  have h2 : z + j < z + 12 := by omega
  have h3 : z + j - z = j := by omega
  simp only [cput, if_neg h1, if_pos h2, h3]
theorem cput_0 : (cput z χ S).1 z = some (.inr (0, cfs z χ)) := cput_j (j := 0) (by decide)
theorem cput_ne {q : Nat} (h : q < z ∨ z + 12 ≤ q) : (cput z χ S).1 q = S.1 q := by
  by_cases h1 : q < z
  · simp only [cput, if_pos h1]
  · have h2 : ¬ q < z + 12 := by omega
    simp only [cput, if_neg h1, if_neg h2]
theorem cput_2 : (cput z χ S).2 = S.2 := rfl
theorem c_ob : gOb (cput z χ S) z 0 = some (cfs z χ) := by simp [gOb, cput_0]
theorem c_gI {k : Nat} {v : Int32} (h : (cfs z χ)[k]? = some (.int v)) : gI (cput z χ S) z 0 k = some v := by simp [gI, cput_0, h]
theorem c_gR {k : Nat} {r : Option Nat} (h : (cfs z χ)[k]? = some (va_rf r)) : gRf (cput z χ S) z 0 k = some r := by
  simp only [gRf, cput_0, h]
  cases r <;> rfl
/-- a write into one of the class's own cells -/
theorem c_gup {χ' : cS} {j : Nat} {e : gE} (h : j < 12) (he : ccell z χ' j = e) (ho : ∀ d, d < 12 → d ≠ j → ccell z χ' d = ccell z χ d) : ((gup (cput z χ S).1 (z + j) e, (cput z χ S).2) : gS) = cput z χ' S := by
  refine Prod.ext ?_ rfl
  funext q
  show gup (cput z χ S).1 (z + j) e q = (cput z χ' S).1 q
  by_cases hq : q = z + j
  · subst hq; rw [gup_self, cput_j h, he]
  · rw [gup_ne hq]
    by_cases hin : q < z ∨ z + 12 ≤ q
    · rw [cput_ne hin, cput_ne hin]
    · obtain ⟨d, rfl⟩ : ∃ d, q = z + d := ⟨q - z, by omega⟩
      rw [cput_j (by omega), cput_j (by omega), ho d (by omega) (by omega)]
theorem c_put {χ' : cS} {k : Nat} {v : Value} (hk : k < 11) (h : (cfs z χ).set k v = cfs z χ') (ho : ∀ d, d < 12 → d ≠ 0 → ccell z χ' d = ccell z χ d) : gPut (cput z χ S) z 0 k v = some (cput z χ' S) := by
  have hl : (cfs z χ).length = 11 := rfl
  simp only [gPut, cput_0, hl]
  rw [if_pos ⟨trivial, hk⟩, h]
  exact congrArg some (c_gup (z := z) (j := 0) (by decide) rfl ho)
theorem c_I1 : gI (cput z χ S) z 0 1 = some (χ.1 1) := c_gI rfl
theorem c_I2 : gI (cput z χ S) z 0 2 = some (χ.1 2) := c_gI rfl
theorem c_I5 : gI (cput z χ S) z 0 5 = some (χ.1 5) := c_gI rfl
theorem c_R0 : gRf (cput z χ S) z 0 0 = some (some (z + 1)) := c_gR rfl
theorem c_R3 : gRf (cput z χ S) z 0 3 = some (some (z + 2)) := c_gR rfl
theorem c_R4 : gRf (cput z χ S) z 0 4 = some (some (z + 3)) := c_gR rfl
theorem c_R6 : gRf (cput z χ S) z 0 6 = some (some (z + 4)) := c_gR rfl
theorem c_R7 : gRf (cput z χ S) z 0 7 = some (χ.2.1 7) := c_gR rfl
theorem c_R8 : gRf (cput z χ S) z 0 8 = some (some (z + 8)) := c_gR rfl
theorem c_R9 : gRf (cput z χ S) z 0 9 = some (χ.2.1 9) := c_gR rfl
theorem c_R10 : gRf (cput z χ S) z 0 10 = some (some (z + 10)) := c_gR rfl
theorem cc12 {P : Nat → Prop} (h0 : P 1) (h1 : P 2) (h2 : P 3) (h3 : P 4) (h4 : P 5) (h5 : P 6) (h6 : P 7) (h7 : P 8) (h8 : P 9) (h9 : P 10) (h10 : P 11) (h00 : P 0) : ∀ d, d < 12 → P d := fun d hd => by
  rcases (show d = 0 ∨ d = 1 ∨ d = 2 ∨ d = 3 ∨ d = 4 ∨ d = 5 ∨ d = 6 ∨ d = 7 ∨ d = 8 ∨ d = 9 ∨ d = 10 ∨ d = 11 by omega) with rfl | rfl | rfl | rfl | rfl | rfl | rfl | rfl | rfl | rfl | rfl | rfl <;> assumption
theorem c_P1 {v : Int32} : gPut (cput z χ S) z 0 1 (.int v) = some (cput z (cI χ 1 v) S) := c_put (by decide) rfl (fun d hd hn => by
  rcases (show d = 0 ∨ d = 1 ∨ d = 2 ∨ d = 3 ∨ d = 4 ∨ d = 5 ∨ d = 6 ∨ d = 7 ∨ d = 8 ∨ d = 9 ∨ d = 10 ∨ d = 11 by omega) with rfl | rfl | rfl | rfl | rfl | rfl | rfl | rfl | rfl | rfl | rfl | rfl <;> first | rfl | exact absurd rfl hn)
theorem c_P2 {v : Int32} : gPut (cput z χ S) z 0 2 (.int v) = some (cput z (cI χ 2 v) S) := c_put (by decide) rfl (fun d hd hn => by
  rcases (show d = 0 ∨ d = 1 ∨ d = 2 ∨ d = 3 ∨ d = 4 ∨ d = 5 ∨ d = 6 ∨ d = 7 ∨ d = 8 ∨ d = 9 ∨ d = 10 ∨ d = 11 by omega) with rfl | rfl | rfl | rfl | rfl | rfl | rfl | rfl | rfl | rfl | rfl | rfl <;> first | rfl | exact absurd rfl hn)
theorem c_P5 {v : Int32} : gPut (cput z χ S) z 0 5 (.int v) = some (cput z (cI χ 5 v) S) := c_put (by decide) rfl (fun d hd hn => by
  rcases (show d = 0 ∨ d = 1 ∨ d = 2 ∨ d = 3 ∨ d = 4 ∨ d = 5 ∨ d = 6 ∨ d = 7 ∨ d = 8 ∨ d = 9 ∨ d = 10 ∨ d = 11 by omega) with rfl | rfl | rfl | rfl | rfl | rfl | rfl | rfl | rfl | rfl | rfl | rfl <;> first | rfl | exact absurd rfl hn)
theorem c_P7 {r : Option Nat} : gPut (cput z χ S) z 0 7 (va_rf r) = some (cput z (cR χ 7 r) S) := c_put (by decide) rfl (fun d hd hn => by
  rcases (show d = 0 ∨ d = 1 ∨ d = 2 ∨ d = 3 ∨ d = 4 ∨ d = 5 ∨ d = 6 ∨ d = 7 ∨ d = 8 ∨ d = 9 ∨ d = 10 ∨ d = 11 by omega) with rfl | rfl | rfl | rfl | rfl | rfl | rfl | rfl | rfl | rfl | rfl | rfl <;> first | rfl | exact absurd rfl hn)
theorem c_P9 {r : Option Nat} : gPut (cput z χ S) z 0 9 (va_rf r) = some (cput z (cR χ 9 r) S) := c_put (by decide) rfl (fun d hd hn => by
  rcases (show d = 0 ∨ d = 1 ∨ d = 2 ∨ d = 3 ∨ d = 4 ∨ d = 5 ∨ d = 6 ∨ d = 7 ∨ d = 8 ∨ d = 9 ∨ d = 10 ∨ d = 11 by omega) with rfl | rfl | rfl | rfl | rfl | rfl | rfl | rfl | rfl | rfl | rfl | rfl <;> first | rfl | exact absurd rfl hn)
/-- the printer -/
theorem c_PrO : gOb (cput z χ S) (z + 10) 6 = some [.ref (z + 11), .int (χ.1 11)] := by simp [gOb, cput_j (z := z) (χ := χ) (S := S) (j := 10) (by decide), ccell]
theorem c_Pr0 : gRf (cput z χ S) (z + 10) 6 0 = some (some (z + 11)) := by simp [gRf, cput_j (z := z) (χ := χ) (S := S) (j := 10) (by decide), ccell]
theorem c_Pr1 : gI (cput z χ S) (z + 10) 6 1 = some (χ.1 11) := by simp [gI, cput_j (z := z) (χ := χ) (S := S) (j := 10) (by decide), ccell]
theorem c_PrP {v : Int32} : gPut (cput z χ S) (z + 10) 6 1 (.int v) = some (cput z (cI χ 11 v) S) := by
  simp only [gPut, cput_j (z := z) (χ := χ) (S := S) (j := 10) (by decide), ccell]
  rw [if_pos ⟨trivial, Nat.le_of_ble_eq_true rfl⟩]
  refine congrArg some (c_gup (z := z) (j := 10) (by decide) rfl (fun d hd hn => ?_))
  rcases (show d = 0 ∨ d = 1 ∨ d = 2 ∨ d = 3 ∨ d = 4 ∨ d = 5 ∨ d = 6 ∨ d = 7 ∨ d = 8 ∨ d = 9 ∨ d = 10 ∨ d = 11 by omega) with rfl | rfl | rfl | rfl | rfl | rfl | rfl | rfl | rfl | rfl | rfl | rfl <;> first | rfl | exact absurd rfl hn
/-- int arrays: 1 the tape, 2 the units, 11 the printer's bytes -/
def cK (j : Nat) : Nat := if j = 2 then 0 else 2
def cLen (j : Nat) : Nat := if j = 2 then 8 else 400
theorem c_arr {j : Nat} (hj : j = 1 ∨ j = 2 ∨ j = 11) : (cput z χ S).1 (z + j) = some (.inl (cK j, cLen j, .inl (χ.2.2.1 j))) := by
  rcases hj with rfl | rfl | rfl
  · rw [cput_j (by decide)]; rfl
  · rw [cput_j (by decide)]; rfl
  · rw [cput_j (by decide)]; rfl
theorem c_gA {j t i : Nat} {x : Int32} (hj : j = 1 ∨ j = 2 ∨ j = 11) (ht : cK j = t) (hx : x = nI i) (hi : i < cLen j) : gAI (cput z χ S) (z + j) t x = some (χ.2.2.1 j i) := by
  have hm : cLen j < 2 ^ 31 := by rcases hj with rfl | rfl | rfl <;> decide
  subst hx
  simp only [gAI, c_arr hj]
  rw [if_pos ⟨ht, nI_in hi hm⟩, nI_clamp (by omega)]
theorem c_sA {j t i : Nat} {x v : Int32} (hj : j = 1 ∨ j = 2 ∨ j = 11) (ht : cK j = t) (hx : x = nI i) (hi : i < cLen j) : gSI (cput z χ S) (z + j) t x v = some (cput z (cA χ j i v) S) := by
  have hm : cLen j < 2 ^ 31 := by rcases hj with rfl | rfl | rfl <;> decide
  subst hx
  simp only [gSI, c_arr hj]
  rw [if_pos ⟨ht, nI_in hi hm⟩, nI_clamp (by omega)]
  subst ht
  refine congrArg some (c_gup (z := z) (j := j) (by omega) ?_ (fun d hd hn => ?_))
  · rcases hj with rfl | rfl | rfl <;> simp [ccell, cA, cK, cLen]
  · rcases hj with rfl | rfl | rfl <;> rcases (show d = 0 ∨ d = 1 ∨ d = 2 ∨ d = 3 ∨ d = 4 ∨ d = 5 ∨ d = 6 ∨ d = 7 ∨ d = 8 ∨ d = 9 ∨ d = 10 ∨ d = 11 by omega) with rfl | rfl | rfl | rfl | rfl | rfl | rfl | rfl | rfl | rfl | rfl | rfl <;> first | rfl | exact absurd rfl hn | simp [ccell, cA, cfs]
/-- the two lenses lie apart -/
theorem cm_comm {w : Nat} {μ : mS} (h : z + 12 ≤ w) : mput w μ (cput z χ S) = cput z χ (mput w μ S) := by
  refine Prod.ext ?_ rfl
  funext q
  by_cases h1 : q < z ∨ z + 12 ≤ q
  · rw [cput_ne h1]
    by_cases h2 : q < w ∨ w + 17 ≤ q
    · rw [mput_ne h2, mput_ne h2, cput_ne h1]
    · obtain ⟨d, rfl⟩ : ∃ d, q = w + d := ⟨q - w, by omega⟩
      by_cases hd : d = 0
      · subst hd; rw [Nat.add_zero, mput_0, mput_0]
      · rw [mput_j (by omega) (by omega), mput_j (by omega) (by omega)]
  · obtain ⟨d, rfl⟩ : ∃ d, q = z + d := ⟨q - z, by omega⟩
    rw [mput_ne (Or.inl (by omega)), cput_j (by omega), cput_j (by omega)]
end CL
theorem m_g1 {w i : Nat} {μ : mS} {S : gS} (h : i < 400) : gAI (mput w μ S) (w + 1) 0 (nI i) = some (μ.2 1 i) := m_gA (by decide) (by decide) rfl rfl h (by decide)
theorem m_s1 {w i : Nat} {μ : mS} {S : gS} {v : Int32} (h : i < 400) : gSI (mput w μ S) (w + 1) 0 (nI i) v = some (mput w (mA μ 1 i v) S) := m_sA (by decide) (by decide) rfl rfl h (by decide)
theorem m_g2 {w i : Nat} {μ : mS} {S : gS} (h : i < 7) : gAI (mput w μ S) (w + 2) 0 (nI i) = some (μ.2 2 i) := m_gA (by decide) (by decide) rfl rfl h (by decide)
theorem m_s2 {w i : Nat} {μ : mS} {S : gS} {v : Int32} (h : i < 7) : gSI (mput w μ S) (w + 2) 0 (nI i) v = some (mput w (mA μ 2 i v) S) := m_sA (by decide) (by decide) rfl rfl h (by decide)
theorem m_g3 {w i : Nat} {μ : mS} {S : gS} (h : i < 350) : gAI (mput w μ S) (w + 3) 3 (nI i) = some (μ.2 3 i) := m_gA (by decide) (by decide) rfl rfl h (by decide)
theorem m_s3 {w i : Nat} {μ : mS} {S : gS} {v : Int32} (h : i < 350) : gSI (mput w μ S) (w + 3) 3 (nI i) v = some (mput w (mA μ 3 i v) S) := m_sA (by decide) (by decide) rfl rfl h (by decide)
theorem m_g4 {w i : Nat} {μ : mS} {S : gS} (h : i < 350) : gAI (mput w μ S) (w + 4) 0 (nI i) = some (μ.2 4 i) := m_gA (by decide) (by decide) rfl rfl h (by decide)
theorem m_s4 {w i : Nat} {μ : mS} {S : gS} {v : Int32} (h : i < 350) : gSI (mput w μ S) (w + 4) 0 (nI i) v = some (mput w (mA μ 4 i v) S) := m_sA (by decide) (by decide) rfl rfl h (by decide)
theorem m_g5 {w i : Nat} {μ : mS} {S : gS} (h : i < 350) : gAI (mput w μ S) (w + 5) 0 (nI i) = some (μ.2 5 i) := m_gA (by decide) (by decide) rfl rfl h (by decide)
theorem m_s5 {w i : Nat} {μ : mS} {S : gS} {v : Int32} (h : i < 350) : gSI (mput w μ S) (w + 5) 0 (nI i) v = some (mput w (mA μ 5 i v) S) := m_sA (by decide) (by decide) rfl rfl h (by decide)
theorem m_g6 {w i : Nat} {μ : mS} {S : gS} (h : i < 350) : gAI (mput w μ S) (w + 6) 0 (nI i) = some (μ.2 6 i) := m_gA (by decide) (by decide) rfl rfl h (by decide)
theorem m_s6 {w i : Nat} {μ : mS} {S : gS} {v : Int32} (h : i < 350) : gSI (mput w μ S) (w + 6) 0 (nI i) v = some (mput w (mA μ 6 i v) S) := m_sA (by decide) (by decide) rfl rfl h (by decide)
theorem m_g7 {w i : Nat} {μ : mS} {S : gS} (h : i < 350) : gAI (mput w μ S) (w + 7) 0 (nI i) = some (μ.2 7 i) := m_gA (by decide) (by decide) rfl rfl h (by decide)
theorem m_s7 {w i : Nat} {μ : mS} {S : gS} {v : Int32} (h : i < 350) : gSI (mput w μ S) (w + 7) 0 (nI i) v = some (mput w (mA μ 7 i v) S) := m_sA (by decide) (by decide) rfl rfl h (by decide)
theorem m_g8 {w i : Nat} {μ : mS} {S : gS} (h : i < 350) : gAI (mput w μ S) (w + 8) 0 (nI i) = some (μ.2 8 i) := m_gA (by decide) (by decide) rfl rfl h (by decide)
theorem m_s8 {w i : Nat} {μ : mS} {S : gS} {v : Int32} (h : i < 350) : gSI (mput w μ S) (w + 8) 0 (nI i) v = some (mput w (mA μ 8 i v) S) := m_sA (by decide) (by decide) rfl rfl h (by decide)
theorem m_g9 {w i : Nat} {μ : mS} {S : gS} (h : i < 350) : gAI (mput w μ S) (w + 9) 0 (nI i) = some (μ.2 9 i) := m_gA (by decide) (by decide) rfl rfl h (by decide)
theorem m_s9 {w i : Nat} {μ : mS} {S : gS} {v : Int32} (h : i < 350) : gSI (mput w μ S) (w + 9) 0 (nI i) v = some (mput w (mA μ 9 i v) S) := m_sA (by decide) (by decide) rfl rfl h (by decide)
theorem m_g10 {w i : Nat} {μ : mS} {S : gS} (h : i < 350) : gAI (mput w μ S) (w + 10) 0 (nI i) = some (μ.2 10 i) := m_gA (by decide) (by decide) rfl rfl h (by decide)
theorem m_s10 {w i : Nat} {μ : mS} {S : gS} {v : Int32} (h : i < 350) : gSI (mput w μ S) (w + 10) 0 (nI i) v = some (mput w (mA μ 10 i v) S) := m_sA (by decide) (by decide) rfl rfl h (by decide)
theorem m_g11 {w i : Nat} {μ : mS} {S : gS} (h : i < 350) : gAI (mput w μ S) (w + 11) 0 (nI i) = some (μ.2 11 i) := m_gA (by decide) (by decide) rfl rfl h (by decide)
theorem m_s11 {w i : Nat} {μ : mS} {S : gS} {v : Int32} (h : i < 350) : gSI (mput w μ S) (w + 11) 0 (nI i) v = some (mput w (mA μ 11 i v) S) := m_sA (by decide) (by decide) rfl rfl h (by decide)
theorem m_g12 {w i : Nat} {μ : mS} {S : gS} (h : i < 8750) : gAI (mput w μ S) (w + 12) 0 (nI i) = some (μ.2 12 i) := m_gA (by decide) (by decide) rfl rfl h (by decide)
theorem m_s12 {w i : Nat} {μ : mS} {S : gS} {v : Int32} (h : i < 8750) : gSI (mput w μ S) (w + 12) 0 (nI i) v = some (mput w (mA μ 12 i v) S) := m_sA (by decide) (by decide) rfl rfl h (by decide)
theorem m_g13 {w i : Nat} {μ : mS} {S : gS} (h : i < 7) : gAI (mput w μ S) (w + 13) 0 (nI i) = some (μ.2 13 i) := m_gA (by decide) (by decide) rfl rfl h (by decide)
theorem m_s13 {w i : Nat} {μ : mS} {S : gS} {v : Int32} (h : i < 7) : gSI (mput w μ S) (w + 13) 0 (nI i) v = some (mput w (mA μ 13 i v) S) := m_sA (by decide) (by decide) rfl rfl h (by decide)
theorem m_g14 {w i : Nat} {μ : mS} {S : gS} (h : i < 280) : gAI (mput w μ S) (w + 14) 0 (nI i) = some (μ.2 14 i) := m_gA (by decide) (by decide) rfl rfl h (by decide)
theorem m_s14 {w i : Nat} {μ : mS} {S : gS} {v : Int32} (h : i < 280) : gSI (mput w μ S) (w + 14) 0 (nI i) v = some (mput w (mA μ 14 i v) S) := m_sA (by decide) (by decide) rfl rfl h (by decide)
theorem m_g15 {w i : Nat} {μ : mS} {S : gS} (h : i < 8) : gAI (mput w μ S) (w + 15) 0 (nI i) = some (μ.2 15 i) := m_gA (by decide) (by decide) rfl rfl h (by decide)
theorem m_s15 {w i : Nat} {μ : mS} {S : gS} {v : Int32} (h : i < 8) : gSI (mput w μ S) (w + 15) 0 (nI i) v = some (mput w (mA μ 15 i v) S) := m_sA (by decide) (by decide) rfl rfl h (by decide)
theorem m_g16 {w i : Nat} {μ : mS} {S : gS} (h : i < 500) : gAI (mput w μ S) (w + 16) 0 (nI i) = some (μ.2 16 i) := m_gA (by decide) (by decide) rfl rfl h (by decide)
theorem m_s16 {w i : Nat} {μ : mS} {S : gS} {v : Int32} (h : i < 500) : gSI (mput w μ S) (w + 16) 0 (nI i) v = some (mput w (mA μ 16 i v) S) := m_sA (by decide) (by decide) rfl rfl h (by decide)
theorem c_g1 {z i : Nat} {χ : cS} {S : gS} (h : i < 400) : gAI (cput z χ S) (z + 1) 2 (nI i) = some (χ.2.2.1 1 i) := c_gA (Or.inl rfl) rfl rfl h
theorem c_s1 {z i : Nat} {χ : cS} {S : gS} {v : Int32} (h : i < 400) : gSI (cput z χ S) (z + 1) 2 (nI i) v = some (cput z (cA χ 1 i v) S) := c_sA (Or.inl rfl) rfl rfl h
theorem c_g2 {z i : Nat} {χ : cS} {S : gS} (h : i < 8) : gAI (cput z χ S) (z + 2) 0 (nI i) = some (χ.2.2.1 2 i) := c_gA (Or.inr (Or.inl rfl)) rfl rfl h
theorem c_s2 {z i : Nat} {χ : cS} {S : gS} {v : Int32} (h : i < 8) : gSI (cput z χ S) (z + 2) 0 (nI i) v = some (cput z (cA χ 2 i v) S) := c_sA (Or.inr (Or.inl rfl)) rfl rfl h
theorem c_g11 {z i : Nat} {χ : cS} {S : gS} (h : i < 400) : gAI (cput z χ S) (z + 11) 2 (nI i) = some (χ.2.2.1 11 i) := c_gA (Or.inr (Or.inr rfl)) rfl rfl h
theorem c_s11 {z i : Nat} {χ : cS} {S : gS} {v : Int32} (h : i < 400) : gSI (cput z χ S) (z + 11) 2 (nI i) v = some (cput z (cA χ 11 i v) S) := c_sA (Or.inr (Or.inr rfl)) rfl rfl h
theorem M_th1 {w : Nat} {μ : mS} {S : gS} {b c : Int32} : D_Mo_throwing w 1 b c (mput w μ S) = some (1, mput w (mI μ 0 1) S) := by
  unfold D_Mo_throwing B_Mo_throwing_26 B_Mo_throwing_41
  simp [m_P0, m_I0, mI_s, gZo_1]
theorem M_th01 {w : Nat} {μ : mS} {S : gS} {c : Int32} : D_Mo_throwing w 0 1 c (mput w μ S) = some (1, mput w (mI μ 0 2) S) := by
  unfold D_Mo_throwing B_Mo_throwing_26 B_Mo_throwing_41
  simp [m_P0, m_I0, mI_s, gZo_1]
theorem M_th001 {w : Nat} {μ : mS} {S : gS} : D_Mo_throwing w 0 0 1 (mput w μ S) = some (1, mput w (mI μ 0 3) S) := by
  unfold D_Mo_throwing B_Mo_throwing_26 B_Mo_throwing_41
  simp [m_P0, m_I0, mI_s, gZo_1]
theorem M_th0 {w : Nat} {μ : mS} {S : gS} : D_Mo_throwing w 0 0 0 (mput w μ S) = some (0, mput w (mI μ 0 0) S) := by
  unfold D_Mo_throwing B_Mo_throwing_26 B_Mo_throwing_41
  simp [m_P0, m_I0, mI_s, gZo_0]
