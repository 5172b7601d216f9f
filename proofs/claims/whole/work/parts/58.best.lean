/-! THE BEST PLAN -/
def rkOf (E : EV) (j : Nat) : Int32 := match E.1 j with
  | none => 0
  | some v => v.1 7
def bst (E : EV) (k st h hr : Int32) : Nat → Option Nat
  | 0 => none
  | i + 1 => match E.1 i with
    | none => bst E k st h hr i
    | some v => if fitV v k st h hr = true then (match bst E k st h hr i with
      | none => some i
      | some j => if rkOf E j < v.1 7 then some i else some j) else bst E k st h hr i
section BE
variable {E : EV} {k st h hr : Int32}
theorem bst_n {i : Nat} (hv : E.1 i = none) : bst E k st h hr (i + 1) = bst E k st h hr i := by
  show (match E.1 i with | none => _ | some v => _) = _
  rw [hv]
theorem bst_f {i : Nat} {v : PV} (hv : E.1 i = some v) (hf : fitV v k st h hr = false) : bst E k st h hr (i + 1) = bst E k st h hr i := by
  show (match E.1 i with | none => _ | some v => _) = _
  rw [hv]
  show (if fitV v k st h hr = true then _ else _) = _
  rw [hf, if_neg (by decide)]
theorem bst_t {i : Nat} {v : PV} (hv : E.1 i = some v) (hf : fitV v k st h hr = true) : bst E k st h hr (i + 1) = match bst E k st h hr i with
      | none => some i
      | some j => if rkOf E j < v.1 7 then some i else some j := by
  show (match E.1 i with | none => _ | some v => _) = _
  rw [hv]
  show (if fitV v k st h hr = true then _ else _) = _
  rw [if_pos hf]
theorem bst_in : ∀ {i j : Nat}, bst E k st h hr i = some j → j < i ∧ ∃ v, E.1 j = some v ∧ fitV v k st h hr = true
  | 0, j, hh => by cases hh
  | i + 1, j, hh => by
    cases hv : E.1 i with
    | none => rw [bst_n hv] at hh; have := bst_in hh; exact ⟨by omega, this.2⟩
    | some v =>
      cases hf : fitV v k st h hr with
      | false => rw [bst_f hv hf] at hh; have := bst_in hh; exact ⟨by omega, this.2⟩
      | true =>
        rw [bst_t hv hf] at hh
        cases hb : bst E k st h hr i with
        | none => rw [hb] at hh; cases hh; exact ⟨by omega, v, hv, hf⟩
        | some j' =>
          rw [hb] at hh
          have := bst_in hb
          simp only at hh
          split at hh
          · cases hh; exact ⟨by omega, v, hv, hf⟩
          · cases hh; exact ⟨by omega, this.2⟩
theorem fit_k {v : PV} (hf : fitV v k st h hr = true) : v.1 0 = k := by
  unfold fitV at hf
  rw [Bool.and_eq_true, decide_eq_true_eq] at hf
  exact hf.1
end BE
section CB
variable {S : gS} {e q q' p p' ns : Nat} {d np nd : Int32} {gp gd gs : Nat → Option Nat} {E : EV} {v v' : PV} {k st h : Int32} {j : Nat}
theorem PlAt.ob (hP : PlAt S q p v) : ∃ fs, gOb S q 5 = some fs := by
  obtain ⟨a, b, l, h1, -⟩ := hP
  exact ⟨_, e_O h1⟩
theorem C_ahead (hP : PlAt S q p v) (hP' : PlAt S q' p' v') (hp : p < 2 ^ 31) (hp' : p' < 2 ^ 31) : D_Pl_goesAheadOf q (some q') S = some (bI (decide (v.1 0 = v'.1 0) && (decide (v'.1 7 < v.1 7) || (decide (v.1 7 = v'.1 7) && decide (p < p')))), S) := by
  obtain ⟨a, b, l, h1, -⟩ := hP
  obtain ⟨a', b', l', h1', -⟩ := hP'
  unfold D_Pl_goesAheadOf B_Pl_goesAheadOf_48 B_Pl_goesAheadOf_44 B_Pl_goesAheadOf_49
  simp only [Option.bind_some, e_I h1 (k := 1) (v := v.1 0) rfl, e_I h1 (k := 4) (v := v.1 7) rfl, e_I h1 (k := 0) (v := nI p) rfl, e_I h1' (k := 1) (v := v'.1 0) rfl, e_I h1' (k := 4) (v := v'.1 7) rfl, e_I h1' (k := 0) (v := nI p') rfl]
  by_cases c1 : v.1 0 = v'.1 0
  · rw [if_pos c1, decide_eq_true c1]
    by_cases c2 : v'.1 7 < v.1 7
    · rw [if_pos c2, decide_eq_true c2]; rfl
    · rw [if_neg c2, decide_eq_false c2]
      by_cases c3 : v.1 7 = v'.1 7
      · rw [if_pos c3, decide_eq_true c3]
        by_cases c4 : p < p'
        · rw [if_neg (nI_ge c4 hp'), decide_eq_true c4]; rfl
        · rw [if_pos (nI_le (by omega) hp), decide_eq_false c4]; rfl
      · rw [if_neg c3, decide_eq_false c3]; rfl
  · rw [if_neg c1, decide_eq_false c1]; rfl
theorem C_numbered {p : Nat} (hF : EdF S e d gp gd gs np nd ns) (hp : p ≤ 40) : D_Ed_planNumbered e (nI p) S = some (gp p, S) := by
  unfold D_Ed_planNumbered B_Ed_planNumbered_20
  rw [if_neg (nI_pos (by omega)), if_neg (show ¬ (40 : Int32) < nI p from nI_nlt (a := 40) (b := p) hp (by decide)), e_R hF.1 (k := 1) (q := e + 1) rfl]
  simp only [Option.bind_some]
  rw [e_AR hF.2.1 (by omega) (by decide)]
  rfl
theorem C_defNeeds {p : Nat} (hF : EdF S e d gp gd gs np nd ns) (hp : p ≤ 9) : D_Ed_defaultNeeds e (nI p) S = some (gd p, S) := by
  unfold D_Ed_defaultNeeds B_Ed_defaultNeeds_20
  rw [if_neg (nI_pos (by omega)), if_neg (show ¬ (9 : Int32) < nI p from nI_nlt (a := 9) (b := p) hp (by decide)), e_R hF.1 (k := 2) (q := e + 2) rfl]
  simp only [Option.bind_some]
  rw [e_AR hF.2.2.1 (by omega) (by decide)]
  rfl
theorem L6_s {f : Nat} {a b c dd x : Int32} {r : Option Nat} : L_Ed_bestPlan_6 (f + 1) e a b c dd r x S = B_Ed_bestPlan_6 (L_Ed_bestPlan_6 f) e a b c dd r x S := rfl
theorem C_best_loop (hF : EdF S e d gp gd gs np nd ns) (hA : plsAt S gp E) (hj : j < 24) : ∀ (m i fuel : Nat), m = 41 - i → i ≤ 41 → m < fuel → L_Ed_bestPlan_6 fuel e k st h (nI j) (Option.bind (bst E k st h (nI j) i) gp) (nI i) S = some (Option.bind (bst E k st h (nI j) 41) gp, S) := by
  intro m
  induction m with
  | zero =>
    intro i fuel hm hi hf
    obtain ⟨fu, rfl⟩ : ∃ fu, fuel = fu + 1 := ⟨fuel - 1, by omega⟩
    obtain rfl : i = 41 := by omega
    rw [L6_s]
    unfold B_Ed_bestPlan_6
    rw [if_pos (by decide)]
  | succ m ih =>
    intro i fuel hm hi hf
    obtain ⟨fu, rfl⟩ : ∃ fu, fuel = fu + 1 := ⟨fuel - 1, by omega⟩
    have IH := ih (i + 1) fu (by omega) (by omega) (by omega)
    rw [L6_s]
    unfold B_Ed_bestPlan_6 B_Ed_bestPlan_54 B_Ed_bestPlan_58
    rw [if_neg (show ¬ (40 : Int32) < nI i from nI_nlt (a := 40) (b := i) (by omega) (by decide)), e_O hF.1, C_numbered hF (by omega)]
    simp only [Option.bind_some, gB2_some, nI_1]
    cases hv : E.1 i with
    | none =>
      rw [(hA i (by omega)).1 hv]
      rw [bst_n hv] at IH
      exact IH
    | some v =>
      obtain ⟨q, q1, q2, q3⟩ := (hA i (by omega)).2 v hv
      obtain ⟨fs, hob⟩ := q2.ob
      rw [q1]
      simp only [gNul]
      rw [hob, C_fits q2 hj]
      simp only [Option.bind_some, gB2_some]
      cases hf : fitV v k st h (nI j) with
      | false =>
        rw [if_pos (show bI false = 0 from rfl)]
        rw [bst_f hv hf] at IH
        exact IH
      | true =>
        rw [if_neg (by decide)]
        rw [bst_t hv hf] at IH
        cases hb : bst E k st h (nI j) i with
        | none =>
          rw [hb] at IH
          simp only [Option.bind_some, q1] at IH
          exact IH
        | some j' =>
          rw [hb] at IH
          obtain ⟨hj', v', hv', hf'⟩ := bst_in hb
          obtain ⟨q', r1, r2, r3⟩ := (hA j' (by omega)).2 v' hv'
          simp only [Option.bind_some, r1]
          rw [hob, C_ahead q2 r2 (by omega) (by omega), fit_k hf, fit_k hf', decide_eq_true (rfl : k = k), decide_eq_false (show ¬ i < j' by omega)]
          have rk : rkOf E j' = v'.1 7 := by unfold rkOf; rw [hv']
          simp only [rk] at IH
          simp only [Option.bind_some, gB2_some, Bool.and_false, Bool.or_false, Bool.true_and]
          by_cases c : v'.1 7 < v.1 7
          · rw [decide_eq_true c, if_neg (by decide)]
            rw [if_pos c] at IH
            simp only [Option.bind_some, q1] at IH
            exact IH
          · rw [decide_eq_false c, if_pos (show bI false = 0 from rfl)]
            rw [if_neg c] at IH
            simp only [Option.bind_some, r1] at IH
            exact IH
theorem bst_1 {E : EV} {hr : Int32} (h0 : E.1 0 = none) : bst E k st h hr 1 = none := bst_n h0
theorem C_best (hF : EdF S e d gp gd gs np nd ns) (hA : plsAt S gp E) (h0 : E.1 0 = none) (hj : j < 24) : D_Ed_bestPlan e k st h (nI j) S = some (Option.bind (bst E k st h (nI j) 41) gp, S) := by
  have := C_best_loop (k := k) (st := st) (h := h) hF hA hj 40 1 gF rfl (by decide) (by decide)
  rw [bst_1 h0] at this
  exact this
def sref (e : Nat) : Option Nat → Int32
  | none => -1
  | some j => nI (50 * e + j)
theorem L6m_s {f w : Nat} {a b c dd x y g : Int32} : L_Mo_best_6 (f + 1) w a b c dd x y g S = B_Mo_best_6 (L_Mo_best_6 f) w a b c dd x y g S := rfl
theorem M_best_loop {μ : mS} (he : e ≤ 6) (hM : edIs μ e E) (hO : evOk E) (hj : j < 24) : ∀ (m i fuel : Nat), m = 41 - i → 1 ≤ i → i ≤ 41 → m < fuel → ∀ w S, L_Mo_best_6 fuel w (nI e) k st h (nI j) (sref e (bst E k st h (nI j) i)) (nI i) (mput w μ S) = some (sref e (bst E k st h (nI j) 41), mput w μ S) := by
  intro m
  induction m with
  | zero =>
    intro i fuel hm h1 hi hf w S
    obtain ⟨fu, rfl⟩ : ∃ fu, fuel = fu + 1 := ⟨fuel - 1, by omega⟩
    obtain rfl : i = 41 := by omega
    rw [L6m_s]
    unfold B_Mo_best_6
    rw [if_pos (by decide)]
  | succ m ih =>
    intro i fuel hm h1 hi hf w S
    obtain ⟨fu, rfl⟩ : ∃ fu, fuel = fu + 1 := ⟨fuel - 1, by omega⟩
    have IH := ih (i + 1) fu (by omega) (by omega) (by omega) (by omega) w S
    rw [L6m_s]
    unfold B_Mo_best_6 B_Mo_best_59 B_Mo_best_63
    rw [if_neg (show ¬ (40 : Int32) < nI i from nI_nlt (a := 40) (b := i) (by omega) (by decide))]
    simp only [m_ob, Option.bind_some, nI50, nI_1]
    cases hv : E.1 i with
    | none =>
      rw [M_fits0 (by omega) ((hM.1 i h1 (by omega)).1 hv)]
      simp only [gB2_some]
      rw [if_pos trivial]
      rw [bst_n hv] at IH
      exact IH
    | some v =>
      have pv := (hM.1 i h1 (by omega)).2 v hv
      rw [M_fits (by omega) pv (hO.1 i v (by omega) hv).1 hj]
      simp only [gB2_some]
      cases hf : fitV v k st h (nI j) with
      | false =>
        rw [if_pos (show bI false = 0 from rfl)]
        rw [bst_f hv hf] at IH
        exact IH
      | true =>
        rw [if_neg (by decide)]
        rw [bst_t hv hf] at IH
        cases hb : bst E k st h (nI j) i with
        | none =>
          rw [hb] at IH
          rw [if_pos (show sref e none < 0 from (by decide : (-1 : Int32) < 0))]
          exact IH
        | some j' =>
          rw [hb] at IH
          obtain ⟨hj', v', hv', hf'⟩ := bst_in hb
          have h1' : 1 ≤ j' := by
            rcases Nat.eq_zero_or_pos j' with e0 | e0
            · rw [e0, hO.2.2.2.2.1] at hv'; cases hv'
            · exact e0
          have pv' := (hM.1 j' h1' (by omega)).2 v' hv'
          show (if nI (50 * e + j') < 0 then _ else _) = _
          rw [if_neg (nI_pos (by omega))]
          simp only [m_R17, Option.bind_some]
          rw [m_g10 (by omega), show sref e (some j') = nI (50 * e + j') from rfl, m_g10 (by omega), pv.2.2.2.2.1, pv'.2.2.2.2.1]
          have rk : rkOf E j' = v'.1 7 := by unfold rkOf; rw [hv']
          simp only [rk] at IH
          simp only [Option.bind_some]
          by_cases c : v'.1 7 < v.1 7
          · rw [if_neg (i_ltn c)]
            rw [if_pos c] at IH
            exact IH
          · rw [if_pos (i_nlt c)]
            rw [if_neg c] at IH
            exact IH
theorem M_best {μ : mS} (he : e ≤ 6) (hM : edIs μ e E) (hO : evOk E) (hj : j < 24) : ∀ w S, D_Mo_best w (nI e) k st h (nI j) (mput w μ S) = some (sref e (bst E k st h (nI j) 41), mput w μ S) := by
  intro w S
  have := M_best_loop (k := k) (st := st) (h := h) he hM hO hj 40 1 gF rfl (by decide) (by decide) (by decide) w S
  rw [bst_1 hO.2.2.2.2.1] at this
  exact this
end CB
