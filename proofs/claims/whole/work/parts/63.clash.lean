/-! THE CALL CLASH -/
def hmt (v v' : PV) : Nat → Bool
  | 0 => false
  | h + 1 => hmt v v' h || (wIn (v.1 5) (v.1 6) (nI h) && wIn (v'.1 5) (v'.1 6) (nI h))
def meetV (v v' : PV) : Bool := decide (v.1 1 = 0) || (decide (v'.1 1 = 0) || (decide (v.1 1 = v'.1 1) && (decide (v.1 2 ≤ v'.1 3) && decide (v'.1 2 ≤ v.1 3))))
def clV (v v' : PV) : Bool := decide (v.1 0 = v'.1 0) && (decide (v.1 7 = v'.1 7) && (hmt v v' 24 && meetV v v'))
theorem hmt_iff {v v' : PV} : ∀ n, hmt v v' n = true ↔ ∃ h, h < n ∧ wIn (v.1 5) (v.1 6) (nI h) = true ∧ wIn (v'.1 5) (v'.1 6) (nI h) = true
  | 0 => ⟨fun x => (by cases x), fun ⟨h, hh, _⟩ => absurd hh (by omega)⟩
  | n + 1 => by
    show (hmt v v' n || (wIn (v.1 5) (v.1 6) (nI n) && wIn (v'.1 5) (v'.1 6) (nI n))) = true ↔ _
    rw [Bool.or_eq_true, Bool.and_eq_true, hmt_iff n]
    constructor
    · rintro (⟨h, h1, h2⟩ | h)
      · exact ⟨h, by omega, h2⟩
      · exact ⟨n, by omega, h⟩
    · rintro ⟨h, h1, h2⟩
      by_cases e : h = n
      · rw [e] at h2; exact Or.inr h2
      · exact Or.inl ⟨h, by omega, h2⟩
theorem bits_meet {v v' : PV} : (hb (v.1 5) (v.1 6) 24 &&& hb (v'.1 5) (v'.1 6) 24 = 0) ↔ hmt v v' 24 = false := by
  rw [bit_0, ← Bool.not_eq_true, hmt_iff]
  constructor
  · rintro h ⟨i, hi, h1, h2⟩
    have := h i (by omega)
    rw [Int32.toBitVec_and, BitVec.getLsbD_and, hb_bit 24 i (Nat.le_refl _), hb_bit 24 i (Nat.le_refl _), h1, h2, decide_eq_true hi] at this
    cases this
  · intro h i _
    rw [Int32.toBitVec_and, BitVec.getLsbD_and, hb_bit 24 i (Nat.le_refl _), hb_bit 24 i (Nat.le_refl _)]
    by_cases hi : i < 24
    · rw [decide_eq_true hi, Bool.true_and, Bool.true_and]
      cases h1 : wIn (v.1 5) (v.1 6) (nI i) with
      | false => rfl
      | true =>
        cases h2 : wIn (v'.1 5) (v'.1 6) (nI i) with
        | false => rfl
        | true => exact absurd ⟨i, hi, h1, h2⟩ h
    · rw [decide_eq_false hi]; rfl
section KC
variable {S : gS} {e q q' p p' ns s s' w : Nat} {d np nd : Int32} {gp gd gs : Nat → Option Nat} {E : EV} {v v' : PV} {μ : mS}
theorem C_clashes (hP : PlAt S q p v) (hP' : PlAt S q' p' v') : D_Pl_clashesWith q (some q') S = some (bI (clV v v'), S) := by
  obtain ⟨a, b, l, h1, h2, h3, -⟩ := hP
  obtain ⟨a', b', l', h1', h2', h3', -⟩ := hP'
  unfold D_Pl_clashesWith B_Pl_clashesWith_58 B_Pl_clashesWith_59 clV
  simp only [Option.bind_some, e_I h1 (k := 1) (v := v.1 0) rfl, e_I h1 (k := 4) (v := v.1 7) rfl, e_I h1' (k := 1) (v := v'.1 0) rfl, e_I h1' (k := 4) (v := v'.1 7) rfl, e_R h1 (k := 3) (q := b) rfl, e_R h1' (k := 3) (q := b') rfl, e_R h1 (k := 2) (q := a) rfl, e_R h1' (k := 2) (q := a') rfl, e_I h3 (k := 3) (v := hb (v.1 5) (v.1 6) 24) rfl, e_I h3' (k := 3) (v := hb (v'.1 5) (v'.1 6) 24) rfl, e_O h2]
  have mt : D_Sx_meets a (some a') S = some (bI (meetV v v'), S) := by
    unfold D_Sx_meets B_Sx_meets_51 B_Sx_meets_47 B_Sx_meets_52 meetV
    rw [e_O h2, C_every h2]
    simp only [Option.bind_some, gB2_some, e_O h2', C_every h2', e_I h2 (k := 0) (v := v.1 1) rfl, e_I h2 (k := 1) (v := v.1 2) rfl, e_I h2 (k := 2) (v := v.1 3) rfl, e_I h2' (k := 0) (v := v'.1 1) rfl, e_I h2' (k := 1) (v := v'.1 2) rfl, e_I h2' (k := 2) (v := v'.1 3) rfl]
    by_cases c1 : v.1 1 = 0
    · rw [decide_eq_true c1, if_neg (by decide)]; rfl
    · rw [decide_eq_false c1, if_pos (show bI false = 0 from rfl)]
      by_cases c2 : v'.1 1 = 0
      · rw [decide_eq_true c2, if_neg (by decide)]; rfl
      · rw [decide_eq_false c2, if_pos (show bI false = 0 from rfl)]
        by_cases c3 : v.1 1 = v'.1 1
        · rw [if_pos c3, decide_eq_true c3]
          by_cases c4 : v'.1 3 < v.1 2
          · rw [if_pos c4, decide_eq_false (i_ltn c4)]; rfl
          · rw [if_neg c4, decide_eq_true (i_nlt c4)]
            by_cases c5 : v.1 3 < v'.1 2
            · rw [if_pos c5, decide_eq_false (i_ltn c5)]; rfl
            · rw [if_neg c5, decide_eq_true (i_nlt c5)]; rfl
        · rw [if_neg c3, decide_eq_false c3]; rfl
  by_cases c1 : v.1 0 = v'.1 0
  · rw [if_pos c1, decide_eq_true c1]
    by_cases c2 : v.1 7 = v'.1 7
    · rw [if_pos c2, decide_eq_true c2]
      cases hm : hmt v v' 24 with
      | false => rw [if_pos (bits_meet.mpr hm)]; rfl
      | true =>
        rw [if_neg (fun x => by rw [bits_meet, hm] at x; cases x), mt]
        simp only [gB2_some]
        cases meetV v v' <;> rfl
    · rw [if_neg c2, decide_eq_false c2]; rfl
  · rw [if_neg c1, decide_eq_false c1]; rfl
theorem L120_s {f : Nat} {a b x y : Int32} : L_Mo_clashes_120 (f + 1) w a b x y S = B_Mo_clashes_120 (L_Mo_clashes_120 f) w a b x y S := rfl
theorem M_meet_loop (hs : s < 350) (hs' : s' < 350) (hv : plIs μ s v) (hv' : plIs μ s' v') (ho : plOk v) (ho' : plOk v') : ∀ (m h fuel : Nat), m = 24 - h → h ≤ 24 → m < fuel → ∀ w S, L_Mo_clashes_120 fuel w (nI s) (nI s') (bI (hmt v v' h)) (nI h) (mput w μ S) = some (bI (hmt v v' 24), mput w μ S) := by
  intro m
  induction m with
  | zero =>
    intro h fuel hm hh hf w S
    obtain ⟨fu, rfl⟩ : ∃ fu, fuel = fu + 1 := ⟨fuel - 1, by omega⟩
    obtain rfl : h = 24 := by omega
    rw [L120_s]
    unfold B_Mo_clashes_120
    rw [if_pos (by decide)]
    cases hmt v v' 24 <;> rfl
  | succ m ih =>
    intro h fuel hm hh hf w S
    obtain ⟨fu, rfl⟩ : ∃ fu, fuel = fu + 1 := ⟨fuel - 1, by omega⟩
    have IH := ih (h + 1) fu (by omega) (by omega) (by omega) w S
    have st : hmt v v' (h + 1) = (hmt v v' h || (wIn (v.1 5) (v.1 6) (nI h) && wIn (v'.1 5) (v'.1 6) (nI h))) := rfl
    rw [st] at IH
    rw [L120_s]
    unfold B_Mo_clashes_120 B_Mo_clashes_160 B_Mo_clashes_189 B_Mo_clashes_193 B_Mo_clashes_194
    rw [if_neg (show ¬ (24 : Int32) ≤ nI h from nI_ge (a := h) (b := 24) (by omega) (by decide))]
    simp only [m_R15, m_R16, Option.bind_some, m_g8 hs, m_g9 hs, m_g8 hs', m_g9 hs', M_isWithin, gB2_some, nI_1]
    have w1 := hrs_w (j := h) ho.2.2.1 hv.2.2.2.1 (by omega)
    have w2 := hrs_w (j := h) ho'.2.2.1 hv'.2.2.2.1 (by omega)
    cases hb : hmt v v' h with
    | true =>
      rw [hb] at IH
      rw [if_neg (by decide)]
      exact IH
    | false =>
      rw [hb, Bool.false_or] at IH
      rw [if_pos (show bI false = 0 from rfl)]
      have sec : (if μ.2 8 s' < 0 then L_Mo_clashes_120 fu w (nI s) (nI s') 1 (nI (h + 1)) (mput w μ S) else if bI (wIn (μ.2 8 s') (μ.2 9 s') (nI h)) = 0 then L_Mo_clashes_120 fu w (nI s) (nI s') 0 (nI (h + 1)) (mput w μ S) else L_Mo_clashes_120 fu w (nI s) (nI s') 1 (nI (h + 1)) (mput w μ S)) = L_Mo_clashes_120 fu w (nI s) (nI s') (bI (wIn (v'.1 5) (v'.1 6) (nI h))) (nI (h + 1)) (mput w μ S) := by
        rw [← w2]
        by_cases c : μ.2 8 s' < 0
        · rw [if_pos c, if_pos c]; rfl
        · rw [if_neg c, if_neg c]
          cases wIn (μ.2 8 s') (μ.2 9 s') (nI h) <;> rfl
      rw [sec]
      by_cases c : μ.2 8 s < 0
      · rw [if_pos c]
        rw [if_pos c] at w1
        rw [← w1, Bool.true_and] at IH
        exact IH
      · rw [if_neg c]
        rw [if_neg c] at w1
        rw [w1]
        cases hw : wIn (v.1 5) (v.1 6) (nI h) with
        | false =>
          rw [hw, Bool.false_and] at IH
          rw [if_pos (show bI false = 0 from rfl)]
          exact IH
        | true =>
          rw [hw, Bool.true_and] at IH
          rw [if_neg (by decide)]
          exact IH
theorem st_pos {a b c : Int32} (h : stOk a b c) : a ≤ 0 ↔ a = 0 := by
  rcases h with ⟨rfl, -⟩ | ⟨h, -⟩
  · exact ⟨fun _ => rfl, fun _ => by decide⟩
  · have := (rng_spec.mp h).1
    refine ⟨fun x => ?_, fun x => by rw [x]; decide⟩
    rw [Int32.le_iff_toInt_le] at this x
    have e0 : (0 : Int32).toInt = 0 := by decide
    have e1 : (1 : Int32).toInt = 1 := by decide
    omega
theorem M_clashes (hs : s < 350) (hs' : s' < 350) (hv : plIs μ s v) (hv' : plIs μ s' v') (ho : plOk v) (ho' : plOk v') : D_Mo_clashes w (nI s) (nI s') (mput w μ S) = some (bI (clV v v'), mput w μ S) := by
  have lp := M_meet_loop hs hs' hv hv' ho ho' 24 0 gF rfl (by decide) (by decide) w S
  obtain ⟨a3, a4, ⟨a5, a67⟩, -, a10, -⟩ := hv
  obtain ⟨b3, b4, ⟨b5, b67⟩, -, b10, -⟩ := hv'
  have z0 := st_pos ho.2.1
  have z0' := st_pos ho'.2.1
  unfold D_Mo_clashes B_Mo_clashes_48 B_Mo_clashes_113 B_Mo_clashes_115
  simp only [m_R10, m_R11, m_R12, m_R13, m_R14, m_R17, Option.bind_some, m_g3 hs, m_g3 hs', m_g4 hs, m_g4 hs', m_g5 hs, m_g5 hs', m_g6 hs, m_g6 hs', m_g7 hs, m_g7 hs', m_g10 hs, m_g10 hs', a3, a4, a5, a10, b3, b4, b5, b10]
  have lp' : L_Mo_clashes_120 gF w (nI s) (nI s') 0 0 (mput w μ S) = some (bI (hmt v v' 24), mput w μ S) := lp
  rw [if_neg (by decide), if_neg (by decide), lp']
  unfold clV meetV
  by_cases c1 : v.1 0 = v'.1 0
  · rw [if_pos c1, decide_eq_true c1]
    by_cases c2 : v.1 7 = v'.1 7
    · rw [if_pos c2, decide_eq_true c2]
      by_cases c3 : v.1 1 = 0
      · rw [if_pos (z0.mpr c3), decide_eq_true c3, Bool.true_or, Bool.and_true]; rfl
      · rw [if_neg (fun x => c3 (z0.mp x)), decide_eq_false c3]
        by_cases c4 : v'.1 1 = 0
        · rw [if_pos (z0'.mpr c4), decide_eq_true c4, Bool.true_or, Bool.false_or, Bool.and_true]; rfl
        · rw [if_neg (fun x => c4 (z0'.mp x)), decide_eq_false c4]
          obtain ⟨a6, a7⟩ := a67 c3
          obtain ⟨b6, b7⟩ := b67 c4
          rw [a6, a7, b6, b7]
          by_cases c5 : v.1 1 = v'.1 1
          · rw [if_pos c5, decide_eq_true c5]
            by_cases c6 : v'.1 3 < v.1 2
            · rw [if_pos c6, decide_eq_false (i_ltn c6)]
              cases hmt v v' 24 <;> rfl
            · rw [if_neg c6, decide_eq_true (i_nlt c6)]
              by_cases c7 : v'.1 2 ≤ v.1 3
              · rw [if_pos c7, decide_eq_true c7]
                cases hmt v v' 24 <;> rfl
              · rw [if_neg c7, decide_eq_false c7]
                cases hmt v v' 24 <;> rfl
          · rw [if_neg c5, decide_eq_false c5]
            cases hmt v v' 24 <;> rfl
    · rw [if_neg c2, decide_eq_false c2]; rfl
  · rw [if_neg c1, decide_eq_false c1]; rfl
theorem M_clashes0 (hs : s < 350) (hs' : s' < 350) (h : μ.2 3 s = 0 ∨ μ.2 3 s' = 0) : D_Mo_clashes w (nI s) (nI s') (mput w μ S) = some (0, mput w μ S) := by
  unfold D_Mo_clashes B_Mo_clashes_48
  simp only [m_R10, Option.bind_some, m_g3 hs, m_g3 hs']
  by_cases c : μ.2 3 s = 0
  · rw [if_pos c]; rfl
  · rw [if_neg c, if_pos (h.resolve_left c)]; rfl
/-! pairs -/
def clE (E : EV) (a b : Nat) : Bool := match E.1 a, E.1 b with
  | some v, some v' => clV v v'
  | _, _ => false
def inn (E : EV) (a : Nat) : Nat → Int32 → Int32 ⊕ Int32
  | 0, x => .inr x
  | d + 1, x => if clE E a (40 - d) = true then (if x = 0 then .inl (100 * nI a + nI (40 - d)) else inn E a d (x + (-1))) else inn E a d x
def out (E : EV) : Nat → Int32 → Int32
  | 0, _ => -1
  | d + 1, x => match inn E (40 - d) d x with
    | .inl v => v
    | .inr y => out E d y
theorem inn_s {a d : Nat} {x : Int32} : inn E a (d + 1) x = if clE E a (40 - d) = true then (if x = 0 then .inl (100 * nI a + nI (40 - d)) else inn E a d (x + (-1))) else inn E a d x := rfl
theorem inn_0 {a : Nat} (h : E.1 a = none) : ∀ d x, inn E a d x = .inr x
  | 0, x => rfl
  | d + 1, x => by
    show (if clE E a (40 - d) = true then _ else _) = _
    have : clE E a (40 - d) = false := by unfold clE; rw [h]
    rw [this, if_neg (by decide)]
    exact inn_0 h d x
theorem L22_s {k4 : Nat → Int32 → Int32 → gS → Option (Int32 × gS)} {f : Nat} {x y b : Int32} {r : Option Nat} : L_Ed_clashingPair_22 k4 (f + 1) e x y r b S = B_Ed_clashingPair_22 k4 (L_Ed_clashingPair_22 k4 f) e x y r b S := rfl
theorem C_inn {k4 : Nat → Int32 → Int32 → gS → Option (Int32 × gS)} {a : Nat} (hF : EdF S e d gp gd gs np nd ns) (hA : plsAt S gp E) (ha : a ≤ 40) : ∀ (m fuel : Nat) (x : Int32), m ≤ 40 → m < fuel → L_Ed_clashingPair_22 k4 fuel e x (nI a) (gp a) (nI (41 - m)) S = match inn E a m x with
    | .inl v => some (v, S)
    | .inr y => k4 e y (nI (a + 1)) S := by
  cases hva : E.1 a with
  | none =>
    intro m fuel x hm hf
    obtain ⟨fu, rfl⟩ : ∃ fu, fuel = fu + 1 := ⟨fuel - 1, by omega⟩
    rw [L22_s, (hA a ha).1 hva, inn_0 hva]
    unfold B_Ed_clashingPair_22 B_Ed_clashingPair_78
    simp only [gNul, nI_1]
  | some v =>
    obtain ⟨q, q1, q2, q3⟩ := (hA a ha).2 v hva
    obtain ⟨fs, hob⟩ := q2.ob
    intro m
    induction m with
    | zero =>
      intro fuel x hm hf
      obtain ⟨fu, rfl⟩ : ∃ fu, fuel = fu + 1 := ⟨fuel - 1, by omega⟩
      rw [L22_s, q1]
      unfold B_Ed_clashingPair_22 B_Ed_clashingPair_78
      simp only [gNul, nI_1]
      rw [if_pos (by decide)]
      rfl
    | succ m ih =>
      intro fuel x hm hf
      obtain ⟨fu, rfl⟩ : ∃ fu, fuel = fu + 1 := ⟨fuel - 1, by omega⟩
      rw [L22_s, q1]
      unfold B_Ed_clashingPair_22 B_Ed_clashingPair_72
      simp only [gNul]
      rw [show 41 - (m + 1) = 40 - m by omega, if_neg (show ¬ (40 : Int32) < nI (40 - m) from nI_nlt (a := 40) (b := 40 - m) (by omega) (by decide)), e_O hF.1, C_numbered hF (by omega)]
      simp only [Option.bind_some, gB2_some, nI_1]
      rw [show 40 - m + 1 = 41 - m by omega, ← q1]
      rw [inn_s]
      cases hvb : E.1 (40 - m) with
      | none =>
        have : clE E a (40 - m) = false := by unfold clE; rw [hva, hvb]
        rw [(hA _ (by omega)).1 hvb, this, if_neg (by decide)]
        exact ih fu x (by omega) (by omega)
      | some v' =>
        obtain ⟨q', r1, r2, r3⟩ := (hA (40 - m) (by omega)).2 v' hvb
        have : clE E a (40 - m) = clV v v' := by unfold clE; rw [hva, hvb]
        rw [r1, this, q1]
        simp only []
        rw [hob, C_clashes q2 r2]
        simp only [Option.bind_some, gB2_some]
        cases clV v v' with
        | false =>
          rw [if_pos (show bI false = 0 from rfl), if_neg (by decide), ← q1]
          exact ih fu x (by omega) (by omega)
        | true =>
          rw [if_neg (by decide), if_pos rfl]
          by_cases hx : x = 0
          · rw [if_pos hx, if_pos hx]
          · rw [if_neg hx, if_neg hx, ← q1]
            exact ih fu (x + (-1)) (by omega) (by omega)
theorem L4c_s {f : Nat} {x y : Int32} : L_Ed_clashingPair_4 (f + 1) e x y S = B_Ed_clashingPair_4 (L_Ed_clashingPair_4 f) e x y S := rfl
theorem C_pairs (hF : EdF S e d gp gd gs np nd ns) (hA : plsAt S gp E) : ∀ (m fuel : Nat) (x : Int32), m ≤ 40 → m < fuel → L_Ed_clashingPair_4 fuel e x (nI (41 - m)) S = some (out E m x, S) := by
  intro m
  induction m with
  | zero =>
    intro fuel x hm hf
    obtain ⟨fu, rfl⟩ : ∃ fu, fuel = fu + 1 := ⟨fuel - 1, by omega⟩
    rw [L4c_s]
    unfold B_Ed_clashingPair_4
    rw [if_pos (by decide)]
    rfl
  | succ m ih =>
    intro fuel x hm hf
    obtain ⟨fu, rfl⟩ : ∃ fu, fuel = fu + 1 := ⟨fuel - 1, by omega⟩
    rw [L4c_s]
    unfold B_Ed_clashingPair_4
    rw [show 41 - (m + 1) = 40 - m by omega, if_neg (show ¬ (40 : Int32) < nI (40 - m) from nI_nlt (a := 40) (b := 40 - m) (by omega) (by decide)), e_O hF.1, C_numbered hF (by omega)]
    simp only [Option.bind_some, gB2_some, nI_1]
    rw [show 40 - m + 1 = 41 - m by omega, C_inn hF hA (by omega) m gF x (by omega) (by have : gF = 1000 := rfl; omega), show 40 - m + 1 = 41 - m by omega]
    show _ = some ((match inn E (40 - m) m x with | .inl v => v | .inr y => out E m y), S)
    cases inn E (40 - m) m x with
    | inl v => rfl
    | inr y => exact ih fu y (by omega) (by omega)
theorem L56c_s {k39 : Nat → Int32 → Int32 → Int32 → gS → Option (Int32 × gS)} {f : Nat} {a x y b : Int32} : L_Mo_clash_56 k39 (f + 1) w a x y b S = B_Mo_clash_56 k39 (L_Mo_clash_56 k39 f) w a x y b S := rfl
theorem M_inn {k39 : Nat → Int32 → Int32 → Int32 → gS → Option (Int32 × gS)} {a : Nat} (he : e ≤ 6) (hM : edIs μ e E) (hO : evOk E) (ha0 : 1 ≤ a) (ha : a ≤ 40) : ∀ (m fuel : Nat) (x : Int32), m ≤ 40 - a → m < fuel → ∀ w S, L_Mo_clash_56 k39 fuel w (nI e) x (nI a) (nI (41 - m)) (mput w μ S) = match inn E a m x with
    | .inl v => some (v, mput w μ S)
    | .inr y => k39 w (nI e) y (nI (a + 1)) (mput w μ S) := by
  intro m
  induction m with
  | zero =>
    intro fuel x hm hf w S
    obtain ⟨fu, rfl⟩ : ∃ fu, fuel = fu + 1 := ⟨fuel - 1, by omega⟩
    rw [L56c_s]
    unfold B_Mo_clash_56
    rw [if_pos (by decide), nI_1]
    rfl
  | succ m ih =>
    intro fuel x hm hf w S
    obtain ⟨fu, rfl⟩ : ∃ fu, fuel = fu + 1 := ⟨fuel - 1, by omega⟩
    rw [L56c_s]
    unfold B_Mo_clash_56 B_Mo_clash_101
    rw [show 41 - (m + 1) = 40 - m by omega, if_neg (show ¬ (40 : Int32) < nI (40 - m) from nI_nlt (a := 40) (b := 40 - m) (by omega) (by decide))]
    simp only [m_ob, Option.bind_some, nI50, nI_1]
    rw [show 40 - m + 1 = 41 - m by omega]
    have key : D_Mo_clashes w (nI (50 * e + a)) (nI (50 * e + (40 - m))) (mput w μ S) = some (bI (clE E a (40 - m)), mput w μ S) := by
      cases hva : E.1 a with
      | none =>
        rw [M_clashes0 (by omega) (by omega) (Or.inl ((hM.1 a ha0 ha).1 hva)), show clE E a (40 - m) = false by unfold clE; rw [hva]]; rfl
      | some v =>
        cases hvb : E.1 (40 - m) with
        | none =>
          rw [M_clashes0 (by omega) (by omega) (Or.inr ((hM.1 (40 - m) (by omega) (by omega)).1 hvb)), show clE E a (40 - m) = false by unfold clE; rw [hva, hvb]]; rfl
        | some v' =>
          rw [M_clashes (by omega) (by omega) ((hM.1 a ha0 ha).2 v hva) ((hM.1 (40 - m) (by omega) (by omega)).2 v' hvb) (hO.1 a v ha hva).1 (hO.1 _ v' (by omega) hvb).1, show clE E a (40 - m) = clV v v' by unfold clE; rw [hva, hvb]]
    rw [key]
    simp only [gB2_some]
    rw [inn_s]
    cases clE E a (40 - m) with
    | false =>
      rw [if_pos (show bI false = 0 from rfl), if_neg (by decide)]
      exact ih fu x (by omega) (by omega) w S
    | true =>
      rw [if_neg (by decide), if_pos rfl]
      by_cases hx : x = 0
      · rw [if_pos hx, if_pos hx]
      · rw [if_neg hx, if_neg hx]
        exact ih fu (x + (-1)) (by omega) (by omega) w S
theorem L39c_s {f : Nat} {a x y : Int32} : L_Mo_clash_39 (f + 1) w a x y S = B_Mo_clash_39 (L_Mo_clash_39 f) w a x y S := rfl
theorem M_pairs (he : e ≤ 6) (hM : edIs μ e E) (hO : evOk E) : ∀ (m fuel : Nat) (x : Int32), m ≤ 40 → m < fuel → ∀ w S, L_Mo_clash_39 fuel w (nI e) x (nI (41 - m)) (mput w μ S) = some (out E m x, mput w μ S) := by
  intro m
  induction m with
  | zero =>
    intro fuel x hm hf w S
    obtain ⟨fu, rfl⟩ : ∃ fu, fuel = fu + 1 := ⟨fuel - 1, by omega⟩
    rw [L39c_s]
    unfold B_Mo_clash_39 B_Mo_clash_113
    rw [if_neg (nI_pos (by omega)), if_pos (by decide)]
    rfl
  | succ m ih =>
    intro fuel x hm hf w S
    obtain ⟨fu, rfl⟩ : ∃ fu, fuel = fu + 1 := ⟨fuel - 1, by omega⟩
    rw [L39c_s]
    unfold B_Mo_clash_39
    rw [if_neg (nI_pos (by omega)), show 41 - (m + 1) = 40 - m by omega, if_neg (show ¬ (40 : Int32) < nI (40 - m) from nI_nlt (a := 40) (b := 40 - m) (by omega) (by decide)), nI_1, show 40 - m + 1 = 41 - m by omega, M_inn he hM hO (by omega) (by omega) m gF x (by omega) (by have : gF = 1000 := rfl; omega), show 40 - m + 1 = 41 - m by omega]
    show _ = some ((match inn E (40 - m) m x with | .inl v => v | .inr y => out E m y), mput w μ S)
    cases inn E (40 - m) m x with
    | inl v => rfl
    | inr y => exact ih fu y (by omega) (by omega) w S
theorem out_E0 : ∀ d x, out E0 d x = -1
  | 0, _ => rfl
  | d + 1, x => by
    show (match inn E0 (40 - d) d x with | .inl v => v | .inr y => out E0 d y) = -1
    rw [inn_0 (E := E0) rfl]
    exact out_E0 d x
end KC
