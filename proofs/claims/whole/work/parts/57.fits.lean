/-! THE EDITION OF A DAY; THE PLAN OF A CALL -/
def fnd (dd : Nat → Int32) (d : Int32) : Nat → Option Nat
  | 0 => none
  | i + 1 => if d < dd i then fnd dd d i else match fnd dd d i with
    | none => some i
    | some j => if dd i < dd j then some j else some i
theorem fnd_s {dd : Nat → Int32} {d : Int32} {i : Nat} : fnd dd d (i + 1) = if d < dd i then fnd dd d i else match fnd dd d i with
    | none => some i
    | some j => if dd i < dd j then some j else some i := rfl
theorem fnd_lt {dd : Nat → Int32} {d : Int32} : ∀ {i j : Nat}, fnd dd d i = some j → j < i
  | 0, j, h => by cases h
  | i + 1, j, h => by
    unfold fnd at h
    split at h
    · have := fnd_lt h; omega
    · split at h
      · cases h; omega
      · next j' hj =>
        split at h
        · cases h; have := fnd_lt hj; omega
        · cases h; omega
def adr (z : Nat) (a : Nat → Nat) : Option Nat → Nat
  | none => z + 4
  | some j => a j
def idx : Option Nat → Int32
  | none => -1
  | some j => nI j
section EO
variable {z k n L P : Nat} {χ : cS} {μ : mS} {T : gS} {d : Int32} {a : Nat → Nat} {dd : Nat → Int32} {Ev : Nat → EV}
theorem L7_s {k z : Nat} {d x : Int32} {r : Option Nat} {S : gS} : L_PT_editionOf_7 (k + 1) z d r x S = B_PT_editionOf_7 (L_PT_editionOf_7 k) z d r x S := rfl
theorem EdAt.day {S : gS} {e : Nat} {E : EV} (h : EdAt S e d E) : gI S e 1 0 = some d := by
  obtain ⟨gp, gd, gs, h1, -⟩ := h
  exact e_I h1.1 rfl
theorem C_edOf_loop (h : IvE z χ μ T n a dd Ev) : ∀ (m i fuel : Nat), m = n - i → i ≤ n → m < fuel → L_PT_editionOf_7 fuel z d (some (adr z a (fnd dd d i))) (nI i) (Full z χ μ T) = some (some (adr z a (fnd dd d n)), Full z χ μ T) := by
  obtain ⟨e1, e2, e3, e4⟩ := h
  have g5 : gI (Full z χ μ T) z 0 5 = some (nI n) := by rw [← e2]; exact c_I5
  have g4 : gRf (Full z χ μ T) z 0 4 = some (some (z + 3)) := c_R4
  have g3 : (Full z χ μ T).1 (z + 3) = some (.inl (4, 6, .inr (.inr (.inr (.inr χ.2.2.2))))) := cput_j (j := 3) (by decide)
  intro m
  induction m with
  | zero =>
    intro i fuel hm hi hf
    obtain ⟨fu, rfl⟩ : ∃ fu, fuel = fu + 1 := ⟨fuel - 1, by omega⟩
    obtain rfl : i = n := by omega
    rw [L7_s]
    unfold B_PT_editionOf_7 B_PT_editionOf_64
    rw [g5]
    simp only [Option.bind_some]
    rw [if_pos (nI_le (Nat.le_refl _) (by omega))]
  | succ m ih =>
    intro i fuel hm hi hf
    obtain ⟨fu, rfl⟩ : ∃ fu, fuel = fu + 1 := ⟨fuel - 1, by omega⟩
    obtain ⟨a1, a2, a3, a4, a5, a6⟩ := e4 i (by omega)
    have IH := ih (i + 1) fu (by omega) (by omega) (by omega)
    rw [L7_s]
    unfold B_PT_editionOf_7 B_PT_editionOf_58
    rw [g5]
    simp only [Option.bind_some]
    rw [if_neg (nI_ge (a := i) (b := n) (by omega) (by omega)), if_neg (show ¬ (6 : Int32) ≤ nI i from nI_ge (a := i) (b := 6) (by omega) (by decide)), g4]
    simp only [Option.bind_some]
    rw [e_AR g3 (by omega) (by decide), a1]
    simp only [Option.bind_some, gNul]
    rw [a4.day]
    simp only [Option.bind_some, nI_1]
    rw [fnd_s] at IH
    by_cases hd : d < dd i
    · rw [if_pos hd] at IH ⊢
      exact IH
    · rw [if_neg hd] at IH ⊢
      cases hf' : fnd dd d i with
      | none =>
        rw [hf'] at IH
        have : gI (Full z χ μ T) (adr z a none) 1 0 = some (-1) := (F_no (χ := χ) (μ := μ) (T := T)).day
        rw [this]
        simp only [Option.bind_some]
        rw [if_neg (i_len (a := (-1 : Int32)) (b := dd i) (by
          have := (rng_spec.mp a3).1
          rw [Int32.le_iff_toInt_le] at this ⊢
          have e : (-1 : Int32).toInt = -1 := by decide
          have e' : (0 : Int32).toInt = 0 := by decide
          omega))]
        exact IH
      | some j =>
        rw [hf'] at IH
        have hj := fnd_lt hf'
        obtain ⟨-, -, -, b4, -⟩ := e4 j (by omega)
        show Option.bind (gI (Full z χ μ T) (a j) 1 0) _ = _
        rw [b4.day]
        simp only [Option.bind_some]
        by_cases hjj : dd i < dd j
        · rw [if_pos hjj]
          simp only [if_pos hjj] at IH
          exact IH
        · rw [if_neg hjj]
          simp only [if_neg hjj] at IH
          exact IH
theorem C_edOf (h : IvE z χ μ T n a dd Ev) : D_PT_editionOf z d (Full z χ μ T) = some (some (adr z a (fnd dd d n)), Full z χ μ T) := by
  unfold D_PT_editionOf
  rw [show gRf (Full z χ μ T) z 0 6 = some (some (z + 4)) from c_R6]
  exact C_edOf_loop h n 0 gF (by omega) (by omega) (by have := h.1; have : gF = 1000 := rfl; omega)
theorem L4e_s {k w : Nat} {d y x : Int32} {S : gS} : L_Mo_editionOf_4 (k + 1) w d y x S = B_Mo_editionOf_4 (L_Mo_editionOf_4 k) w d y x S := rfl
theorem M_edOf_loop {μ : mS} (hn : n ≤ 6) (h7 : μ.1 7 = nI n) (h2 : ∀ i, i < n → μ.2 2 i = dd i) : ∀ (m i fuel : Nat), m = n - i → i ≤ n → m < fuel → ∀ w S, L_Mo_editionOf_4 fuel w d (idx (fnd dd d i)) (nI i) (mput w μ S) = some (idx (fnd dd d n), mput w μ S) := by
  intro m
  induction m with
  | zero =>
    intro i fuel hm hi hf w S
    obtain ⟨fu, rfl⟩ : ∃ fu, fuel = fu + 1 := ⟨fuel - 1, by omega⟩
    obtain rfl : i = n := by omega
    rw [L4e_s]
    unfold B_Mo_editionOf_4
    simp only [m_I7, Option.bind_some]
    rw [h7, if_pos (nI_le (Nat.le_refl _) (by omega))]
  | succ m ih =>
    intro i fuel hm hi hf w S
    obtain ⟨fu, rfl⟩ : ∃ fu, fuel = fu + 1 := ⟨fuel - 1, by omega⟩
    have IH := ih (i + 1) fu (by omega) (by omega) (by omega) w S
    rw [L4e_s]
    unfold B_Mo_editionOf_4 B_Mo_editionOf_41 B_Mo_editionOf_43
    simp only [m_I7, Option.bind_some, m_R9]
    rw [h7, if_neg (nI_ge (a := i) (b := n) (by omega) (by omega)), m_g2 (by omega), h2 i (by omega)]
    simp only [Option.bind_some, nI_1]
    rw [fnd_s] at IH
    by_cases hd : d < dd i
    · rw [if_pos hd] at IH ⊢
      exact IH
    · rw [if_neg hd] at IH ⊢
      cases hf' : fnd dd d i with
      | none =>
        rw [hf'] at IH
        rw [if_pos (show idx none < 0 by decide)]
        exact IH
      | some j =>
        rw [hf'] at IH
        have hj := fnd_lt hf'
        show (if nI j < 0 then _ else _) = _
        rw [if_neg (nI_pos (by omega))]
        have : gAI (mput w μ S) (w + 2) 0 (idx (some j)) = some (dd j) := by rw [← h2 j (by omega)]; exact m_g2 (by omega)
        rw [this]
        simp only [Option.bind_some]
        by_cases hjj : dd i < dd j
        · rw [if_pos hjj]
          simp only [if_pos hjj] at IH
          exact IH
        · rw [if_neg hjj]
          simp only [if_neg hjj] at IH
          exact IH
theorem M_edOf (h : IvE z χ μ T n a dd Ev) {μ' : mS} (hm2 : μ'.2 = μ.2) (hm1 : μ'.1 7 = μ.1 7) : ∀ w S, D_Mo_editionOf w d (mput w μ' S) = some (idx (fnd dd d n), mput w μ' S) := by
  obtain ⟨e1, e2, e3, e4⟩ := h
  intro w S
  exact M_edOf_loop e1 (hm1.trans e3) (fun i hi => by rw [hm2]; exact (e4 i hi).2.1) n 0 gF (by omega) (by omega) (by have : gF = 1000 := rfl; omega) w S
end EO
/-! a plan fits a call -/
def cov (v : PV) (st h : Int32) : Bool := decide (v.1 1 = 0) || (decide (v.1 1 = st) && (decide (v.1 2 ≤ h) && decide (h ≤ v.1 3)))
def fitV (v : PV) (k st h hr : Int32) : Bool := decide (v.1 0 = k) && (cov v st h && wIn (v.1 5) (v.1 6) hr)
section FI
variable {S : gS} {q p j s w : Nat} {v : PV} {k st h : Int32} {μ : mS}
theorem C_has {b : Nat} {o x y : Int32} (hS : S.1 b = some (.inr (2, HrV o x y))) (hj : j < 24) : D_Hr_has b (nI j) S = some (bI (wIn x y (nI j)), S) := by
  unfold D_Hr_has B_Hr_has_25 B_Hr_has_26
  rw [if_neg (nI_pos (by omega)), if_neg (show ¬ (23 : Int32) < nI j from nI_nlt (a := 23) (b := j) (by omega) (by decide)), e_I hS (k := 3) (v := hb x y 24) rfl]
  simp only [Option.bind_some]
  have hbt := hb_bit (a := x) (b := y) 24 j (Nat.le_refl _)
  rw [decide_eq_true hj, Bool.true_and] at hbt
  cases hw : wIn x y (nI j) with
  | true => rw [if_neg (fun e => by rw [bit_t hj, hbt, hw] at e; cases e)]; rfl
  | false => rw [if_pos (by rw [bit_t hj, hbt, hw])]; rfl
theorem C_every {a : Nat} {x y z : Int32} (hS : S.1 a = some (.inr (9, SxV x y z))) : D_Sx_isEverywhere a S = some (bI (decide (x = 0)), S) := by
  unfold D_Sx_isEverywhere B_Sx_isEverywhere_12
  rw [e_I hS (k := 0) (v := x) rfl]
  simp only [Option.bind_some]
  by_cases hx : x = 0
  · rw [if_pos hx, decide_eq_true hx]; rfl
  · rw [if_neg hx, decide_eq_false hx]; rfl
theorem C_covers {a : Nat} {x y z : Int32} (hS : S.1 a = some (.inr (9, SxV x y z))) : D_Sx_covers a st h S = some (bI (decide (x = 0) || (decide (x = st) && (decide (y ≤ h) && decide (h ≤ z)))), S) := by
  unfold D_Sx_covers B_Sx_covers_35 B_Sx_covers_31 B_Sx_covers_36
  rw [e_O hS, C_every hS]
  simp only [Option.bind_some, gB2_some, e_I hS (k := 0) (v := x) rfl, e_I hS (k := 1) (v := y) rfl, e_I hS (k := 2) (v := z) rfl]
  by_cases hx : x = 0
  · rw [decide_eq_true hx, if_neg (by decide)]; rfl
  · rw [decide_eq_false hx, if_pos (show bI false = 0 from rfl)]
    by_cases h1 : x = st
    · rw [if_pos h1, decide_eq_true h1]
      by_cases h2 : h < y
      · rw [if_pos h2, decide_eq_false (i_ltn h2)]; rfl
      · rw [if_neg h2, decide_eq_true (i_nlt h2)]
        by_cases h3 : z < h
        · rw [if_pos h3, decide_eq_false (i_ltn h3)]; rfl
        · rw [if_neg h3, decide_eq_true (i_nlt h3)]; rfl
    · rw [if_neg h1, decide_eq_false h1]; rfl
theorem C_fits (hP : PlAt S q p v) (hj : j < 24) : D_Pl_fits q k st h (nI j) S = some (bI (fitV v k st h (nI j)), S) := by
  obtain ⟨a, b, l, h1, h2, h3, h4⟩ := hP
  unfold D_Pl_fits B_Pl_fits_36 B_Pl_fits_37 fitV
  rw [e_I h1 (k := 1) (v := v.1 0) rfl]
  simp only [Option.bind_some, e_R h1 (k := 2) (q := a) rfl, e_R h1 (k := 3) (q := b) rfl, e_O h2, e_O h3, C_covers h2, C_has h3 hj, gB2_some]
  by_cases hk : v.1 0 = k
  · rw [if_pos hk, decide_eq_true hk]
    show (if bI (cov v st h) = 0 then _ else _) = _
    cases cov v st h with
    | false => rfl
    | true =>
      rw [if_neg (by decide)]
      cases wIn (v.1 5) (v.1 6) (nI j) <;> rfl
  · rw [if_neg hk, decide_eq_false hk]; rfl
theorem M_isWithin {a b x : Int32} : D_Mo_isWithin a b x S = some (bI (wIn a b x), S) := by
  unfold D_Mo_isWithin B_Mo_isWithin_33 B_Mo_isWithin_19 B_Mo_isWithin_38 wIn
  by_cases h : b < a
  · rw [if_pos h, if_neg (i_ltn h)]
    by_cases h1 : a ≤ x
    · rw [if_pos h1, decide_eq_true h1]; rfl
    · rw [if_neg h1, decide_eq_false h1]
      by_cases h2 : b < x
      · rw [if_pos h2, decide_eq_false (i_ltn h2)]; rfl
      · rw [if_neg h2, decide_eq_true (i_nlt h2)]; rfl
  · rw [if_neg h, if_pos (i_nlt h)]
    by_cases h1 : x < a
    · rw [if_pos h1, decide_eq_false (i_ltn h1)]; rfl
    · rw [if_neg h1, decide_eq_true (i_nlt h1)]
      by_cases h2 : b < x
      · rw [if_pos h2, decide_eq_false (i_ltn h2)]; rfl
      · rw [if_neg h2, decide_eq_true (i_nlt h2)]; rfl
theorem wIn_all : ∀ j, j < 24 → wIn 0 23 (nI j) = true := by decide +kernel
/-- the hours of a slot -/
theorem hrs_w {o a b : Int32} (ho : hrOk o a b) (h : hrIs μ s o a b) (hj : j < 24) : (if μ.2 8 s < 0 then true else wIn (μ.2 8 s) (μ.2 9 s) (nI j)) = wIn a b (nI j) := by
  rcases ho with ⟨rfl, rfl, rfl⟩ | ⟨rfl, h2, h3⟩
  · rw [h.1 rfl, if_pos (by decide), wIn_all j hj]
  · obtain ⟨e1, e2⟩ := h.2 (by decide)
    rw [e1, e2, if_neg (i_len (rng_spec.mp h2).1)]
theorem M_fits44 {t0 : Int32} (hs : s < 350) : B_Mo_fits_44 w (nI s) k (nI j) t0 (mput w μ S) = some (bI (decide (μ.2 3 s ≠ 0) && (decide (μ.2 4 s = k) && (decide (t0 ≠ 0) && (if μ.2 8 s < 0 then true else wIn (μ.2 8 s) (μ.2 9 s) (nI j))))), mput w μ S) := by
  unfold B_Mo_fits_44 B_Mo_fits_103 B_Mo_fits_99 B_Mo_fits_104
  simp only [m_R10, m_R11, m_R15, m_R16, Option.bind_some, m_g3 hs, m_g4 hs, m_g8 hs, m_g9 hs, M_isWithin, gB2_some]
  by_cases h1 : μ.2 3 s = 0
  · rw [if_pos h1, decide_eq_false (fun x => x h1)]; rfl
  · rw [if_neg h1, decide_eq_true h1]
    by_cases h2 : μ.2 4 s = k
    · rw [if_pos h2, decide_eq_true h2]
      by_cases h3 : t0 = 0
      · rw [if_pos h3, decide_eq_false (fun x => x h3)]; rfl
      · rw [if_neg h3, decide_eq_true h3]
        by_cases h4 : μ.2 8 s < 0
        · rw [if_pos h4, if_pos h4]; rfl
        · rw [if_neg h4, if_neg h4]
          cases wIn (μ.2 8 s) (μ.2 9 s) (nI j) <;> rfl
    · rw [if_neg h2, decide_eq_false h2]; rfl
theorem M_fits0 (hs : s < 350) (h0 : μ.2 3 s = 0) : D_Mo_fits w (nI s) k st h (nI j) (mput w μ S) = some (0, mput w μ S) := by
  unfold D_Mo_fits B_Mo_fits_43 B_Mo_fits_39
  simp only [m_R12, m_R13, m_R14, Option.bind_some, m_g5 hs, m_g6 hs, m_g7 hs, M_in, gB2_some, M_fits44 hs, h0]
  split
  · rfl
  · split
    · split <;> rfl
    · rfl
theorem M_fits (hs : s < 350) (hv : plIs μ s v) (ho : plOk v) (hj : j < 24) : D_Mo_fits w (nI s) k st h (nI j) (mput w μ S) = some (bI (fitV v k st h (nI j)), mput w μ S) := by
  obtain ⟨h3, h4, ⟨h5, h67⟩, h8, -⟩ := hv
  unfold D_Mo_fits B_Mo_fits_43 B_Mo_fits_39 fitV cov
  simp only [m_R12, m_R13, m_R14, Option.bind_some, m_g5 hs, m_g6 hs, m_g7 hs, M_in, gB2_some, M_fits44 hs, hrs_w ho.2.2.1 h8 hj, h3, h4, h5]
  rw [decide_eq_true (show (1 : Int32) ≠ 0 by decide)]
  by_cases hx : v.1 1 = 0
  · rw [if_pos hx, decide_eq_true hx]; rfl
  · rw [if_neg hx, decide_eq_false hx]
    obtain ⟨h6, h7⟩ := h67 hx
    by_cases h1 : v.1 1 = st
    · rw [if_pos h1, decide_eq_true h1, h6, h7]
      cases hb : (decide (v.1 2 ≤ h) && decide (h ≤ v.1 3)) with
      | false => rw [if_pos (show bI false = 0 from rfl)]; rfl
      | true => rw [if_neg (by decide)]; rfl
    · rw [if_neg h1, decide_eq_false h1]; rfl
end FI
