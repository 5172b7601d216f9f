/-! THE CALL LACKS -/
def uo (u : Nat → Int32) (x : Int32) : Int32 := if x < 0 then 0 else u x.toNatClampNeg
def abv (u : Nat → Int32) (v : Nat → Int32) : Bool := !decide (v 0 ≤ uo u (v 1) + uo u (v 2) + uo u (v 3))
def anyF (ab : Nat → Bool) (c : Nat) : Nat → Bool
  | 0 => false
  | d + 1 => ab (c - (d + 1)) || anyF ab c d
theorem anyF_s {ab : Nat → Bool} {c d : Nat} : anyF ab c (d + 1) = (ab (c - (d + 1)) || anyF ab c d) := rfl
def lkV (u : Nat → Int32) (E : EV) (p : Nat) : Bool := match E.1 p with
  | none => false
  | some v => anyF (fun i => abv u (v.2.2 i)) v.2.1 v.2.1
theorem okA_c {x : Int32} (h : okA x) : x = -1 ∨ ∃ j, j < 8 ∧ x = nI j := by
  rcases h with h | h
  · exact Or.inl h
  · exact Or.inr (rng07 h)
section LK
variable {z k : Nat} {χ : cS} {μ : mS} {T S : gS} {d i : Int32} {e q l c ns s w : Nat} {np nd : Int32} {gp gd gs : Nat → Option Nat} {E : EV} {V : Nat → Nat → Int32} {u : Nat → Int32}
theorem C_units {x : Int32} (hx : okA x) : D_Nd_unitsOf (some (z + 2)) x (Full z χ μ T) = some (uo (χ.2.2.1 2) x, Full z χ μ T) := by
  unfold D_Nd_unitsOf B_Nd_unitsOf_16 B_Nd_unitsOf_17 uo
  rcases okA_c hx with rfl | ⟨j, hj, rfl⟩
  · rfl
  · have e8 : gLen (Full z χ μ T) (z + 2) 0 = some (nI 8) := by
      unfold gLen Full
      rw [cput_j (j := 2) (by decide)]
      rfl
    rw [if_neg (nI_pos (by omega)), if_neg (nI_pos (by omega))]
    simp only [Option.bind_some]
    rw [e8]
    simp only [Option.bind_some]
    rw [if_neg (nI_ge (a := j) (b := 8) hj (by decide)), show gAI (Full z χ μ T) (z + 2) 0 (nI j) = some (χ.2.2.1 2 j) from c_g2 hj, nI_clamp (by omega)]
    rfl
theorem C_above {v : Nat → Int32} (hq : (Full z χ μ T).1 q = some (.inr (3, NdV v))) (ho : ndOk v) : D_Nd_isAbove q (some (z + 2)) (Full z χ μ T) = some (bI (abv (χ.2.2.1 2) v), Full z χ μ T) := by
  obtain ⟨h0, h1, h2, h3, -⟩ := ho
  unfold D_Nd_isAbove B_Nd_isAbove_40 abv
  rw [e_I hq (k := 1) (v := v 1) rfl]
  simp only [Option.bind_some]
  rw [C_units (Or.inr h1)]
  simp only [gB2_some, e_I hq (k := 2) (v := v 2) rfl, Option.bind_some]
  rw [C_units h2]
  simp only [gB2_some, e_I hq (k := 3) (v := v 3) rfl, Option.bind_some]
  rw [C_units h3]
  simp only [gB2_some, e_I hq (k := 0) (v := v 0) rfl, Option.bind_some]
  by_cases c : v 0 ≤ uo (χ.2.2.1 2) (v 1) + uo (χ.2.2.1 2) (v 2) + uo (χ.2.2.1 2) (v 3)
  · rw [if_pos c, decide_eq_true c]; rfl
  · rw [if_neg c, decide_eq_false c]; rfl
theorem L2n_s {f : Nat} {r : Option Nat} {x : Int32} : L_NL_hasOneAbove_2 (f + 1) l r x S = B_NL_hasOneAbove_2 (L_NL_hasOneAbove_2 f) l r x S := rfl
theorem C_hasAbove (hL : NLat (Full z χ μ T) l c V) (hc : c ≤ 5) : ∀ (m fuel : Nat), m ≤ c → m < fuel → L_NL_hasOneAbove_2 fuel l (some (z + 2)) (nI (c - m)) (Full z χ μ T) = some (bI (anyF (fun i => abv (χ.2.2.1 2) (V i)) c m), Full z χ μ T) := by
  obtain ⟨g, l1, l2, l3⟩ := hL
  intro m
  induction m with
  | zero =>
    intro fuel hm hf
    obtain ⟨fu, rfl⟩ : ∃ fu, fuel = fu + 1 := ⟨fuel - 1, by omega⟩
    rw [L2n_s]
    unfold B_NL_hasOneAbove_2
    rw [e_I l1 (k := 1) (v := nI c) rfl]
    simp only [Option.bind_some]
    rw [if_pos (nI_le (by omega) (by omega))]
    rfl
  | succ m ih =>
    intro fuel hm hf
    obtain ⟨fu, rfl⟩ : ∃ fu, fuel = fu + 1 := ⟨fuel - 1, by omega⟩
    obtain ⟨o1, q, o2, o3⟩ := l3 (c - (m + 1)) (by omega)
    rw [L2n_s]
    unfold B_NL_hasOneAbove_2 B_NL_hasOneAbove_30 D_NL_needAt B_NL_needAt_22
    rw [e_I l1 (k := 1) (v := nI c) rfl]
    simp only [Option.bind_some]
    rw [if_neg (nI_ge (a := c - (m + 1)) (b := c) (by omega) (by omega)), e_O l1, if_neg (nI_pos (by omega)), if_neg (nI_ge (a := c - (m + 1)) (b := c) (by omega) (by omega)), e_R l1 (k := 0) (q := l + 1) rfl]
    simp only [Option.bind_some]
    rw [e_AR l2 (by omega) (by decide), o2]
    simp only [Option.bind_some, gB2_some, gNul, nI_1]
    rw [e_O o3, C_above o3 o1, anyF_s, show c - (m + 1) + 1 = c - m by omega]
    simp only [Option.bind_some, gB2_some]
    cases abv (χ.2.2.1 2) (V (c - (m + 1))) with
    | false =>
      rw [if_pos (show bI false = 0 from rfl), Bool.false_or]
      exact ih fu (by omega) (by omega)
    | true => rw [if_neg (by decide)]; rfl
theorem L5l_s {f : Nat} {r : Option Nat} {b : Int64} {x : Int32} : L_Ed_plansLacking_5 (f + 1) e r b x S = B_Ed_plansLacking_5 (L_Ed_plansLacking_5 f) e r b x S := rfl
theorem C_lack_loop (hF : EdF (Full z χ μ T) e d gp gd gs np nd ns) (hA : plsAt (Full z χ μ T) gp E) : ∀ (m p fuel : Nat), m = 41 - p → p ≤ 41 → m < fuel → L_Ed_plansLacking_5 fuel e (some (z + 2)) (bs (lkV (χ.2.2.1 2) E) p) (nI p) (Full z χ μ T) = some (bs (lkV (χ.2.2.1 2) E) 41, Full z χ μ T) := by
  intro m
  induction m with
  | zero =>
    intro p fuel hm hp hf
    obtain ⟨fu, rfl⟩ : ∃ fu, fuel = fu + 1 := ⟨fuel - 1, by omega⟩
    obtain rfl : p = 41 := by omega
    rw [L5l_s]
    unfold B_Ed_plansLacking_5
    rw [if_pos (by decide)]
  | succ m ih =>
    intro p fuel hm hp hf
    obtain ⟨fu, rfl⟩ : ∃ fu, fuel = fu + 1 := ⟨fuel - 1, by omega⟩
    have IH := ih (p + 1) fu (by omega) (by omega) (by omega)
    have st : bs (lkV (χ.2.2.1 2) E) (p + 1) = if lkV (χ.2.2.1 2) E p = true then bs (lkV (χ.2.2.1 2) E) p ||| ((1 : Int64) <<< ((nI p).toInt64 &&& 63)) else bs (lkV (χ.2.2.1 2) E) p := rfl
    rw [st] at IH
    rw [L5l_s]
    unfold B_Ed_plansLacking_5 B_Ed_plansLacking_44
    rw [if_neg (show ¬ (40 : Int32) < nI p from nI_nlt (a := 40) (b := p) (by omega) (by decide)), e_O hF.1, C_numbered hF (by omega)]
    simp only [Option.bind_some, gB2_some, nI_1]
    cases hv : E.1 p with
    | none =>
      rw [(hA p (by omega)).1 hv]
      have : lkV (χ.2.2.1 2) E p = false := by unfold lkV; rw [hv]
      rw [this, if_neg (by decide)] at IH
      exact IH
    | some v =>
      obtain ⟨q, q1, ⟨qa, qb, ql, s1, -, -, s4⟩, q3⟩ := (hA p (by omega)).2 v hv
      rw [q1]
      simp only [gNul]
      rw [e_R s1 (k := 5) (q := ql) rfl]
      simp only [Option.bind_some]
      have hh := C_hasAbove s4 q3.2.2.2.2.2 v.2.1 gF (Nat.le_refl _) (by have : gF = 1000 := rfl; have := q3.2.2.2.2.2; omega)
      rw [Nat.sub_self] at hh
      have hh' : D_NL_hasOneAbove ql (some (z + 2)) (Full z χ μ T) = some (bI (lkV (χ.2.2.1 2) E p), Full z χ μ T) := by
        have : lkV (χ.2.2.1 2) E p = anyF (fun i => abv (χ.2.2.1 2) (v.2.2 i)) v.2.1 v.2.1 := by unfold lkV; rw [hv]
        rw [this]; exact hh
      obtain ⟨g, l1, -, -⟩ := s4
      rw [e_O l1, hh']
      simp only [Option.bind_some, gB2_some]
      cases hb : lkV (χ.2.2.1 2) E p with
      | false =>
        rw [hb, if_neg (by decide)] at IH
        rw [if_pos (show bI false = 0 from rfl)]
        exact IH
      | true =>
        rw [hb, if_pos rfl] at IH
        rw [if_neg (by decide)]
        exact IH
theorem bs_1 {Pr : Nat → Bool} (h : Pr 0 = false) : bs Pr 1 = 0 := by
  show (if Pr 0 = true then _ else _) = _
  rw [h, if_neg (by decide)]; rfl
theorem L7s_s {f : Nat} {a b x : Int32} : L_Mo_isShort_7 (f + 1) w a b x S = B_Mo_isShort_7 (L_Mo_isShort_7 f) w a b x S := rfl
theorem M_u {x : Int32} (hu : ∀ i, i < 8 → μ.2 15 i = u i) (hx : rng x 0 7 = true) : gAI (mput w μ S) (w + 15) 0 x = some (uo u x) := by
  obtain ⟨j, hj, rfl⟩ := rng07 hx
  unfold uo
  rw [m_g15 hj, if_neg (nI_pos (by omega)), nI_clamp (by omega), hu j hj]
theorem M_uc {α : Type} {x : Int32} (hu : ∀ i, i < 8 → μ.2 15 i = u i) (hx : okA x) (K : Int32 → Option α) : (if 0 ≤ x then Option.bind (gAI (mput w μ S) (w + 15) 0 x) K else K 0) = K (uo u x) := by
  rcases hx with rfl | hx
  · rw [if_neg (by decide)]; rfl
  · rw [if_pos (rng_spec.mp hx).1, M_u hu hx]; rfl
theorem M_short_loop (hs : s < 350) (hn : ndIs μ s c V) (hc : c ≤ 5) (ho : ∀ i, i < c → ndOk (V i)) (hu : ∀ i, i < 8 → μ.2 15 i = u i) : ∀ (m fuel : Nat) (x : Bool), m ≤ c → m < fuel → ∀ w S, L_Mo_isShort_7 fuel w (nI s) (bI x) (nI (25 * s + 5 * (c - m))) (mput w μ S) = some (bI (x || anyF (fun i => abv u (V i)) c m), mput w μ S) := by
  intro m
  induction m with
  | zero =>
    intro fuel x hm hf w S
    obtain ⟨fu, rfl⟩ : ∃ fu, fuel = fu + 1 := ⟨fuel - 1, by omega⟩
    rw [L7s_s]
    unfold B_Mo_isShort_7
    simp only [m_R18, Option.bind_some]
    rw [m_g11 hs, hn.1]
    simp only [Option.bind_some]
    rw [show (25 * nI s + 5 * nI c : Int32) = nI (25 * s + 5 * c) by rw [show (25 : Int32) = nI 25 from rfl, show (5 : Int32) = nI 5 from rfl, pk_mul, pk_mul, nI_add], if_pos (nI_le (by omega) (by omega))]
    show _ = some (bI (x || false), _)
    rw [Bool.or_false]
    cases x <;> rfl
  | succ m ih =>
    intro fuel x hm hf w S
    obtain ⟨fu, rfl⟩ : ∃ fu, fuel = fu + 1 := ⟨fuel - 1, by omega⟩
    obtain ⟨t, ht⟩ : ∃ t, t = c - (m + 1) := ⟨_, rfl⟩
    have hc' := hn.2 t (by omega)
    obtain ⟨o0, o1, o2, o3, -⟩ := ho t (by omega)
    have g0 : gAI (mput w μ S) (w + 12) 0 (nI (25 * s + 5 * t)) = some (V t 0) := by rw [m_g12 (by omega)]; exact congrArg some (hc' 0 (by decide))
    have g1 : gAI (mput w μ S) (w + 12) 0 (nI (25 * s + 5 * t + 1)) = some (V t 1) := by rw [m_g12 (by omega)]; exact congrArg some (hc' 1 (by decide))
    have g2 : gAI (mput w μ S) (w + 12) 0 (nI (25 * s + 5 * t + 2)) = some (V t 2) := by rw [m_g12 (by omega)]; exact congrArg some (hc' 2 (by decide))
    have g3 : gAI (mput w μ S) (w + 12) 0 (nI (25 * s + 5 * t + 3)) = some (V t 3) := by rw [m_g12 (by omega)]; exact congrArg some (hc' 3 (by decide))
    rw [L7s_s, ← ht, anyF_s, ← ht]
    unfold B_Mo_isShort_7
    simp only [m_R18, Option.bind_some]
    rw [m_g11 hs, hn.1]
    simp only [Option.bind_some]
    rw [show (25 * nI s + 5 * nI c : Int32) = nI (25 * s + 5 * c) by rw [show (25 : Int32) = nI 25 from rfl, show (5 : Int32) = nI 5 from rfl, pk_mul, pk_mul, nI_add], if_neg (nI_ge (a := 25 * s + 5 * t) (b := 25 * s + 5 * c) (by omega) (by omega))]
    simp only [m_R22, m_R19, Option.bind_some, nI_1, nI_p2, g1, g2, M_u hu o1]
    rw [M_uc (w := w) (S := S) hu o2 (fun v21 => B_Mo_isShort_69 (L_Mo_isShort_7 fu) w (nI s) (bI x) (nI (25 * s + 5 * t)) v21 (uo u (V t 1)) (mput w μ S))]
    unfold B_Mo_isShort_69
    simp only [m_R22, m_R19, Option.bind_some, nI_p3, g3]
    rw [M_uc (w := w) (S := S) hu o3 (fun v10 => B_Mo_isShort_102 (L_Mo_isShort_7 fu) w (nI s) (bI x) (nI (25 * s + 5 * t)) v10 (uo u (V t 1) + uo u (V t 2)) (mput w μ S))]
    unfold B_Mo_isShort_102 B_Mo_isShort_120 B_Mo_isShort_125
    simp only [m_R19, Option.bind_some, g0]
    rw [show nI (25 * s + 5 * t) + 5 = nI (25 * s + 5 * (c - m)) by rw [show (5 : Int32) = nI 5 from rfl, nI_add]; exact congrArg nI (by omega)]
    cases x with
    | true =>
      rw [if_neg (by decide)]
      have := ih fu true (by omega) (by omega) w S
      rw [Bool.true_or] at this ⊢
      exact this
    | false =>
      rw [if_pos (show bI false = 0 from rfl), Bool.false_or]
      unfold abv
      by_cases hc2 : V t 0 ≤ uo u (V t 1) + uo u (V t 2) + uo u (V t 3)
      · rw [if_pos hc2, decide_eq_true hc2]
        exact ih fu false (by omega) (by omega) w S
      · rw [if_neg hc2, decide_eq_false hc2]
        exact ih fu true (by omega) (by omega) w S
theorem L39l_s {f : Nat} {a x y : Int32} : L_Mo_lacks_39 (f + 1) w a x y S = B_Mo_lacks_39 (L_Mo_lacks_39 f) w a x y S := rfl
theorem M_lacks_loop (he : e ≤ 6) (hM : edIs μ e E) (hO : evOk E) (hu : ∀ i, i < 8 → μ.2 15 i = u i) : ∀ (m fuel : Nat) (x : Int32), m ≤ 40 → m < fuel → ∀ w S, L_Mo_lacks_39 fuel w (nI e) x (nI (41 - m)) (mput w μ S) = some (nth (lkV u E) m x, mput w μ S) := by
  intro m
  induction m with
  | zero =>
    intro fuel x hm hf w S
    obtain ⟨fu, rfl⟩ : ∃ fu, fuel = fu + 1 := ⟨fuel - 1, by omega⟩
    rw [L39l_s]
    unfold B_Mo_lacks_39 B_Mo_lacks_96
    rw [if_neg (nI_pos (by omega)), if_pos (by decide)]
    rfl
  | succ m ih =>
    intro fuel x hm hf w S
    obtain ⟨fu, rfl⟩ : ∃ fu, fuel = fu + 1 := ⟨fuel - 1, by omega⟩
    rw [L39l_s]
    unfold B_Mo_lacks_39 B_Mo_lacks_90
    rw [if_neg (nI_pos (by omega)), show 41 - (m + 1) = 40 - m by omega, if_neg (show ¬ (40 : Int32) < nI (40 - m) from nI_nlt (a := 40) (b := 40 - m) (by omega) (by decide)), nth_s]
    simp only [m_R10, m_ob, Option.bind_some, nI50, nI_1]
    rw [m_g3 (by omega), show 40 - m + 1 = 41 - m by omega]
    simp only [Option.bind_some]
    cases hv : E.1 (40 - m) with
    | none =>
      have : lkV u E (40 - m) = false := by unfold lkV; rw [hv]
      rw [(hM.1 (40 - m) (by omega) (by omega)).1 hv, if_pos rfl, this, if_neg (by decide)]
      exact ih fu x (by omega) (by omega) w S
    | some v =>
      have pv := (hM.1 (40 - m) (by omega) (by omega)).2 v hv
      obtain ⟨po, pn⟩ := hO.1 (40 - m) v (by omega) hv
      have : lkV u E (40 - m) = anyF (fun i => abv u (v.2.2 i)) v.2.1 v.2.1 := by unfold lkV; rw [hv]
      have sl := M_short_loop (s := 50 * e + (40 - m)) (by omega) pv.2.2.2.2.2 po.2.2.2.2.2 pn hu v.2.1 gF false (Nat.le_refl _) (by have : gF = 1000 := rfl; have := po.2.2.2.2.2; omega) w S
      rw [Nat.sub_self, Bool.false_or, ← this] at sl
      have sh : D_Mo_isShort w (nI (50 * e + (40 - m))) (mput w μ S) = some (bI (lkV u E (40 - m)), mput w μ S) := by
        unfold D_Mo_isShort
        rw [show (25 : Int32) * nI (50 * e + (40 - m)) = nI (25 * (50 * e + (40 - m)) + 5 * 0) from (pk_mul 25 _)]
        exact sl
      rw [pv.1, if_neg (by decide), sh]
      simp only [gB2_some]
      cases lkV u E (40 - m) with
      | false =>
        rw [if_pos (show bI false = 0 from rfl), if_neg (by decide)]
        exact ih fu x (by omega) (by omega) w S
      | true =>
        rw [if_neg (by decide), if_pos rfl]
        by_cases hx : x = 0
        · rw [if_pos hx, if_pos hx]
        · rw [if_neg hx, if_neg hx]
          exact ih fu (x + (-1)) (by omega) (by omega) w S
theorem K_lacks (hv : Ivs z χ μ T k) (hk : k < 512) : Call z χ μ T k (fun S => D_La_lacks (some z) d i (some (z + 29)) S) (fun w S => D_Mo_lacks w d i S) := by
  obtain ⟨n, a, dd, Ev, L, P, hv⟩ := hv
  have hn := hv.2.1.1
  obtain ⟨v, hC, hM⟩ : ∃ v, (∃ fs b, gOb (Full z χ μ T) (adr z a (fnd dd d n)) 1 = some fs ∧ D_Ed_plansLacking (adr z a (fnd dd d n)) (some (z + 2)) (Full z χ μ T) = some (b, Full z χ μ T) ∧ D_PT_numberAmong b i (Full z χ μ T) = some (v, Full z χ μ T)) ∧ ∀ w S, L_Mo_lacks_39 gF w (idx (fnd dd d n)) i 1 (mput w (mI μ 0 0) S) = some (v, mput w (mI μ 0 0) S) := by
    have lp : ∀ {e E d'}, EdAt (Full z χ μ T) e d' E → D_Ed_plansLacking e (some (z + 2)) (Full z χ μ T) = some (bs (lkV (χ.2.2.1 2) E) 41, Full z χ μ T) := by
      intro e E d' hE
      obtain ⟨gp, gd, gs, hF, hA, -, -, -, z0, -⟩ := hE
      have := C_lack_loop hF hA 40 1 gF rfl (by decide) (by decide)
      rw [bs_1 (by unfold lkV; rw [z0])] at this
      exact this
    rcases fnd_ed (d := d) hv with ⟨hf, hE⟩ | ⟨j, hj, hf, hE, hM, -⟩
    · have l0 := lp hE
      obtain ⟨gp, gd, gs, hF, hA, -⟩ := hE
      refine ⟨-1, ⟨_, _, e_O hF.1, l0, ?_⟩, fun w S => ?_⟩
      · rw [C_among, nth_0 (fun p => by unfold lkV E0; rfl)]
      · rw [hf, show gF = 999 + 1 from rfl, L39l_s]
        unfold B_Mo_lacks_39 B_Mo_lacks_96
        rw [if_pos (by decide)]
    · have hO := hE.ok
      have l0 := lp hE
      obtain ⟨gp, gd, gs, hF, hA, -⟩ := hE
      refine ⟨nth (lkV (χ.2.2.1 2) (Ev j)) 40 i, ⟨_, _, e_O hF.1, l0, C_among⟩, fun w S => ?_⟩
      rw [hf]
      exact M_lacks_loop (μ := mI μ 0 0) (u := χ.2.2.1 2) (show j ≤ 6 by omega) (show edIs (mI μ 0 0) j (Ev j) from hM) hO (fun i hi => hv.2.2.2.2.2.1 i hi) 40 gF i (Nat.le_refl _) (by decide) w S
  obtain ⟨fs, b, hC1, hC2, hC3⟩ := hC
  refine K_di (d := d) (i := i) (v := v) (cP := fun S6 => Option.bind (gOb S6 z 0) (fun fs9 => gB2 (D_PT_editionOf z d S6) (fun r8 S7 => Option.bind (gRf S7 z 0 3) (fun r10 => Option.bind r8 (fun a11 => Option.bind (gOb S7 a11 1) (fun fs14 => gB2 (D_Ed_plansLacking a11 r10 S7) (fun v13 S12 => gB2 (D_PT_numberAmong v13 i S12) (fun v16 S15 => some (.inr v16, S15))))))))) (mX := fun w S t => B_Mo_lacks_17 w d i t w S) hv hk ?_ (fun w S => rfl) (fun w S => ?_) (fun h0 h1 w S => ?_) (fun h0 h1 => ?_)
  · show D_La_lacks (some z) d i (some (z + 29)) (Full z χ μ T) = _
    unfold D_La_lacks
    simp only [Option.bind_some]
    rw [show gOb (Full z χ μ T) z 0 = some (cfs z χ) from c_ob]
    rfl
  · show B_Mo_lacks_17 w d i 1 w (mput w μ S) = _
    unfold B_Mo_lacks_17
    simp only [m_ob, Option.bind_some, M_th1, gB2_some]
    rw [if_neg (by decide)]
  · show B_Mo_lacks_17 w d i 0 w (mput w μ S) = _
    unfold B_Mo_lacks_17
    simp only [m_ob, Option.bind_some, M_th0, gB2_some]
    rw [if_pos trivial]
    rw [M_edOf hv.2.1 (μ' := mI μ 0 0) rfl (mI_n (by decide))]
    simp only [gB2_some]
    exact hM w S
  · show Option.bind (gOb (Full z χ μ T) z 0) _ = _
    rw [show gOb (Full z χ μ T) z 0 = some (cfs z χ) from c_ob]
    simp only [Option.bind_some]
    rw [C_edOf hv.2.1]
    simp only [Option.bind_some, gB2_some]
    rw [show gRf (Full z χ μ T) z 0 3 = some (some (z + 2)) from c_R3]
    simp only [Option.bind_some]
    rw [hC1]
    simp only [Option.bind_some]
    rw [hC2]
    simp only [gB2_some]
    rw [hC3]
    rfl
end LK
