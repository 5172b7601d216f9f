/-! WHICH PLAN A CALL HAS, SAID WITHOUT A LOOP; HOURS THAT ARE LEFT -/
def ahV (o : PV) (q : Nat) (v : PV) (p : Nat) : Bool := decide (o.1 0 = v.1 0) && (decide (v.1 7 < o.1 7) || (decide (o.1 7 = v.1 7) && decide (q < p)))
theorem i_tri (a b : Int32) : a < b ∨ a = b ∨ b < a := by
  rw [Int32.lt_iff_toInt_lt, Int32.lt_iff_toInt_lt, ← Int32.toInt_inj]; omega
theorem i_ltt {a b c : Int32} (h : a < b) (g : b < c) : a < c := by
  rw [Int32.lt_iff_toInt_lt] at *; omega
theorem i_irr {a : Int32} : ¬ a < a := by
  rw [Int32.lt_iff_toInt_lt]; omega
/-- the best of the plans below i -/
def isB (E : EV) (k st h hr : Int32) (i p : Nat) : Prop := p < i ∧ ∃ v, E.1 p = some v ∧ fitV v k st h hr = true ∧ ∀ q o, q < i → E.1 q = some o → fitV o k st h hr = true → o.1 7 < v.1 7 ∨ (o.1 7 = v.1 7 ∧ p ≤ q)
theorem isB_u {E : EV} {k st h hr : Int32} {i p p' : Nat} (a : isB E k st h hr i p) (b : isB E k st h hr i p') : p = p' := by
  obtain ⟨a1, v, a2, a3, a4⟩ := a
  obtain ⟨b1, v', b2, b3, b4⟩ := b
  rcases a4 p' v' b1 b2 b3 with x | ⟨x, x'⟩
  · rcases b4 p v a1 a2 a3 with y | ⟨y, y'⟩
    · exact absurd (i_ltt x y) i_irr
    · rw [y] at x; exact absurd x i_irr
  · rcases b4 p v a1 a2 a3 with y | ⟨y, y'⟩
    · rw [x] at y; exact absurd y i_irr
    · omega
theorem bst_is {E : EV} {k st h hr : Int32} : ∀ i, (∀ p, bst E k st h hr i = some p → isB E k st h hr i p) ∧ (bst E k st h hr i = none → ∀ q o, q < i → E.1 q = some o → fitV o k st h hr = false)
  | 0 => ⟨fun p hp => (by cases hp), fun _ q o hq => absurd hq (by omega)⟩
  | i + 1 => by
    obtain ⟨ih1, ih2⟩ := bst_is (E := E) (k := k) (st := st) (h := h) (hr := hr) i
    cases hv : E.1 i with
    | none =>
      rw [bst_n hv]
      refine ⟨fun p hp => ?_, fun hn q o hq ho => ?_⟩
      · obtain ⟨a1, v, a2, a3, a4⟩ := ih1 p hp
        refine ⟨by omega, v, a2, a3, fun q o hq ho hf => a4 q o ?_ ho hf⟩
        rcases Nat.lt_or_eq_of_le (Nat.le_of_lt_succ hq) with e | e
        · exact e
        · rw [e, hv] at ho; cases ho
      · rcases Nat.lt_or_eq_of_le (Nat.le_of_lt_succ hq) with e | e
        · exact ih2 hn q o e ho
        · rw [e, hv] at ho; cases ho
    | some v =>
      cases hf : fitV v k st h hr with
      | false =>
        rw [bst_f hv hf]
        refine ⟨fun p hp => ?_, fun hn q o hq ho => ?_⟩
        · obtain ⟨a1, v', a2, a3, a4⟩ := ih1 p hp
          refine ⟨by omega, v', a2, a3, fun q o hq ho hf' => a4 q o ?_ ho hf'⟩
          rcases Nat.lt_or_eq_of_le (Nat.le_of_lt_succ hq) with e | e
          · exact e
          · rw [e, hv] at ho; cases ho; rw [hf] at hf'; cases hf'
        · rcases Nat.lt_or_eq_of_le (Nat.le_of_lt_succ hq) with e | e
          · exact ih2 hn q o e ho
          · rw [e, hv] at ho; cases ho; exact hf
      | true =>
        rw [bst_t hv hf]
        cases hb : bst E k st h hr i with
        | none =>
          refine ⟨fun p hp => ?_, fun hn => by cases hn⟩
          cases hp
          refine ⟨by omega, v, hv, hf, fun q o hq ho hf' => ?_⟩
          rcases Nat.lt_or_eq_of_le (Nat.le_of_lt_succ hq) with e | e
          · rw [ih2 hb q o e ho] at hf'; cases hf'
          · rw [e, hv] at ho; cases ho; exact Or.inr ⟨rfl, by omega⟩
        | some j =>
          obtain ⟨a1, v', a2, a3, a4⟩ := ih1 j hb
          have rk : rkOf E j = v'.1 7 := by unfold rkOf; rw [a2]
          simp only [rk]
          by_cases c : v'.1 7 < v.1 7
          · rw [if_pos c]
            refine ⟨fun p hp => ?_, fun hn => by cases hn⟩
            cases hp
            refine ⟨by omega, v, hv, hf, fun q o hq ho hf' => ?_⟩
            rcases Nat.lt_or_eq_of_le (Nat.le_of_lt_succ hq) with e | e
            · rcases a4 q o e ho hf' with y | ⟨y, y'⟩
              · exact Or.inl (i_ltt y c)
              · rw [y]; exact Or.inl c
            · rw [e, hv] at ho; cases ho; exact Or.inr ⟨rfl, by omega⟩
          · rw [if_neg c]
            refine ⟨fun p hp => ?_, fun hn => by cases hn⟩
            cases hp
            refine ⟨by omega, v', a2, a3, fun q o hq ho hf' => ?_⟩
            rcases Nat.lt_or_eq_of_le (Nat.le_of_lt_succ hq) with e | e
            · exact a4 q o e ho hf'
            · rw [e, hv] at ho; cases ho
              rcases i_tri (v.1 7) (v'.1 7) with y | y | y
              · exact Or.inl y
              · exact Or.inr ⟨y, by omega⟩
              · exact absurd y c
theorem bst_iff {E : EV} {k st h hr : Int32} {i p : Nat} : bst E k st h hr i = some p ↔ isB E k st h hr i p := by
  refine ⟨(bst_is i).1 p, fun hb => ?_⟩
  cases hh : bst E k st h hr i with
  | none =>
    obtain ⟨a1, v, a2, a3, -⟩ := hb
    rw [(bst_is i).2 hh p v a1 a2] at a3; cases a3
  | some j => rw [isB_u ((bst_is i).1 j hh) hb]
/-- a plan ahead takes the call -/
def tkn (E : EV) (v : PV) (p : Nat) (st hs hr : Int32) (i : Nat) : Prop := ∃ q o, q < i ∧ E.1 q = some o ∧ ahV o q v p = true ∧ cov o st hs = true ∧ wIn (o.1 5) (o.1 6) hr = true
theorem bst_tkn {E : EV} {st hs hr : Int32} {p : Nat} {v : PV} (hp : p < 41) (hv : E.1 p = some v) : bst E (v.1 0) st hs hr 41 = some p ↔ (cov v st hs = true ∧ wIn (v.1 5) (v.1 6) hr = true) ∧ ¬ tkn E v p st hs hr 41 := by
  rw [bst_iff]
  have fv : ∀ o : PV, fitV o (v.1 0) st hs hr = true ↔ o.1 0 = v.1 0 ∧ cov o st hs = true ∧ wIn (o.1 5) (o.1 6) hr = true := fun o => by
    unfold fitV; simp only [Bool.and_eq_true, decide_eq_true_eq]
  constructor
  · rintro ⟨-, v', hv', a3, a4⟩
    rw [hv] at hv'; cases hv'
    refine ⟨((fv v).mp a3).2, ?_⟩
    rintro ⟨q, o, hq, ho, h1, h2, h3⟩
    unfold ahV at h1
    simp only [Bool.and_eq_true, Bool.or_eq_true, decide_eq_true_eq] at h1
    rcases a4 q o hq ho ((fv o).mpr ⟨h1.1, h2, h3⟩) with y | ⟨y, y'⟩
    · rcases h1.2 with x | ⟨x, -⟩
      · exact i_irr (i_ltt x y)
      · rw [x] at y; exact i_irr y
    · rcases h1.2 with x | ⟨-, x⟩
      · rw [y] at x; exact i_irr x
      · omega
  · rintro ⟨⟨c1, c2⟩, c3⟩
    refine ⟨hp, v, hv, (fv v).mpr ⟨rfl, c1, c2⟩, fun q o hq ho hf => ?_⟩
    obtain ⟨f1, f2, f3⟩ := (fv o).mp hf
    rcases i_tri (o.1 7) (v.1 7) with y | y | y
    · exact Or.inl y
    · refine Or.inr ⟨y, Nat.le_of_not_lt (fun hlt => c3 ⟨q, o, hq, ho, ?_, f2, f3⟩)⟩
      unfold ahV
      simp only [Bool.and_eq_true, Bool.or_eq_true, decide_eq_true_eq]
      exact ⟨f1, Or.inr ⟨y, hlt⟩⟩
    · refine absurd ⟨q, o, hq, ho, ?_, f2, f3⟩ c3
      unfold ahV
      simp only [Bool.and_eq_true, Bool.or_eq_true, decide_eq_true_eq]
      exact ⟨f1, Or.inl y⟩
/-- the bits of the hours that are left -/
def hlb (E : EV) (v : PV) (p : Nat) (st hs : Int32) : Nat → Int32
  | 0 => hb (v.1 5) (v.1 6) 24
  | i + 1 => match E.1 i with
    | none => hlb E v p st hs i
    | some o => if (ahV o i v p && cov o st hs) = true then hlb E v p st hs i &&& (hb (o.1 5) (o.1 6) 24 ^^^ (-1)) else hlb E v p st hs i
section HL
variable {E : EV} {v : PV} {p : Nat} {st hs : Int32}
theorem hlb_n {i : Nat} (h : E.1 i = none) : hlb E v p st hs (i + 1) = hlb E v p st hs i := by
  show (match E.1 i with | none => _ | some o => _) = _
  rw [h]
theorem hlb_s {i : Nat} {o : PV} (h : E.1 i = some o) : hlb E v p st hs (i + 1) = if (ahV o i v p && cov o st hs) = true then hlb E v p st hs i &&& (hb (o.1 5) (o.1 6) 24 ^^^ (-1)) else hlb E v p st hs i := by
  show (match E.1 i with | none => _ | some o => _) = _
  rw [h]
theorem m1_bit : ∀ i, i < 32 → (-1 : Int32).toBitVec.getLsbD i = true := by decide
theorem hlb_bit : ∀ i h, h < 32 → ((hlb E v p st hs i).toBitVec.getLsbD h = true ↔ h < 24 ∧ wIn (v.1 5) (v.1 6) (nI h) = true ∧ ¬ tkn E v p st hs (nI h) i)
  | 0, h, hh => by
    show (hb (v.1 5) (v.1 6) 24).toBitVec.getLsbD h = true ↔ _
    rw [hb_bit 24 h (Nat.le_refl _), Bool.and_eq_true, decide_eq_true_eq]
    exact ⟨fun ⟨a, b⟩ => ⟨a, b, fun ⟨q, o, hq, _⟩ => absurd hq (by omega)⟩, fun ⟨a, b, _⟩ => ⟨a, b⟩⟩
  | i + 1, h, hh => by
    have ih := hlb_bit i h hh
    cases ho : E.1 i with
    | none =>
      rw [hlb_n ho, ih]
      have : tkn E v p st hs (nI h) (i + 1) ↔ tkn E v p st hs (nI h) i := by
        constructor
        · rintro ⟨q, o, hq, h1, h2⟩
          rcases Nat.lt_or_eq_of_le (Nat.le_of_lt_succ hq) with e | e
          · exact ⟨q, o, e, h1, h2⟩
          · rw [e, ho] at h1; cases h1
        · rintro ⟨q, o, hq, h1⟩
          exact ⟨q, o, by omega, h1⟩
      rw [this]
    | some o =>
      rw [hlb_s ho]
      by_cases hc : (ahV o i v p && cov o st hs) = true
      · rw [if_pos hc, Int32.toBitVec_and, BitVec.getLsbD_and, Int32.toBitVec_xor, BitVec.getLsbD_xor, m1_bit h hh, hb_bit 24 h (Nat.le_refl _), Bool.and_eq_true, ih]
        rw [Bool.and_eq_true] at hc
        constructor
        · rintro ⟨⟨a, b, c⟩, e⟩
          refine ⟨a, b, ?_⟩
          rintro ⟨q, o', hq, h1, h2, h3, h4⟩
          rcases Nat.lt_or_eq_of_le (Nat.le_of_lt_succ hq) with e' | e'
          · exact c ⟨q, o', e', h1, h2, h3, h4⟩
          · rw [e', ho] at h1; cases h1
            rw [h4, decide_eq_true a] at e; cases e
        · rintro ⟨a, b, c⟩
          refine ⟨⟨a, b, fun ⟨q, o', hq, h1⟩ => c ⟨q, o', by omega, h1⟩⟩, ?_⟩
          rw [decide_eq_true a]
          cases hw : wIn (o.1 5) (o.1 6) (nI h) with
          | false => rfl
          | true => exact absurd ⟨i, o, by omega, ho, hc.1, hc.2, hw⟩ c
      · rw [if_neg hc, ih]
        have : tkn E v p st hs (nI h) (i + 1) ↔ tkn E v p st hs (nI h) i := by
          constructor
          · rintro ⟨q, o', hq, h1, h2, h3, h4⟩
            rcases Nat.lt_or_eq_of_le (Nat.le_of_lt_succ hq) with e | e
            · exact ⟨q, o', e, h1, h2, h3, h4⟩
            · rw [e] at h1 h2
              rw [ho] at h1; cases h1
              exact absurd (by rw [h2, h3]; rfl) hc
          · rintro ⟨q, o', hq, h1⟩
            exact ⟨q, o', by omega, h1⟩
        rw [this]
/-- some hour is left at the house -/
def lft (E : EV) (v : PV) (p : Nat) (st hs : Int32) : Prop := ∃ h, h < 24 ∧ wIn (v.1 5) (v.1 6) (nI h) = true ∧ ¬ tkn E v p st hs (nI h) 41
theorem hlb_0 : hlb E v p st hs 41 = 0 ↔ ¬ lft E v p st hs := by
  rw [bit_0]
  constructor
  · rintro h ⟨i, hi, h1, h2⟩
    have := (hlb_bit (E := E) (v := v) (p := p) (st := st) (hs := hs) 41 i (by omega)).mpr ⟨hi, h1, h2⟩
    rw [h i (by omega)] at this; cases this
  · intro h i hi
    cases hb : (hlb E v p st hs 41).toBitVec.getLsbD i with
    | false => rfl
    | true =>
      obtain ⟨a, b, c⟩ := (hlb_bit 41 i hi).mp hb
      exact absurd ⟨i, a, b, c⟩ h
end HL
/-! the class's way through it -/
def ewV (o v : PV) : Bool := decide (o.1 1 = v.1 1) && (decide (v.1 2 ≤ o.1 3) && decide (o.1 3 < v.1 3))
section CN
variable {S : gS} {e q q' p p' ns : Nat} {d np nd : Int32} {gp gd gs : Nat → Option Nat} {E : EV} {v v' : PV}
theorem L11h_s {f : Nat} {r : Option Nat} {a b c : Int32} : L_Ed_hoursLeft_11 (f + 1) e r a b c S = B_Ed_hoursLeft_11 (L_Ed_hoursLeft_11 f) e r a b c S := rfl
theorem C_left (hF : EdF S e d gp gd gs np nd ns) (hA : plsAt S gp E) (h0 : E.1 0 = none) (hP : PlAt S q p v) (hp : p ≤ 40) {hs : Int32} : D_Ed_hoursLeft e (some q) hs S = some (hlb E v p (v.1 1) hs 41, S) := by
  obtain ⟨qa, qb, ql, s1, s2, s3, s4⟩ := id hP
  have loop : ∀ (m i fuel : Nat), m = 41 - i → i ≤ 41 → m < fuel → L_Ed_hoursLeft_11 fuel e (some q) hs (hlb E v p (v.1 1) hs i) (nI i) S = some (hlb E v p (v.1 1) hs 41, S) := by
    intro m
    induction m with
    | zero =>
      intro i fuel hm hi hf
      obtain ⟨fu, rfl⟩ : ∃ fu, fuel = fu + 1 := ⟨fuel - 1, by omega⟩
      obtain rfl : i = 41 := by omega
      rw [L11h_s]
      unfold B_Ed_hoursLeft_11
      rw [if_pos (by decide)]
    | succ m ih =>
      intro i fuel hm hi hf
      obtain ⟨fu, rfl⟩ : ∃ fu, fuel = fu + 1 := ⟨fuel - 1, by omega⟩
      have IH := ih (i + 1) fu (by omega) (by omega) (by omega)
      rw [L11h_s]
      unfold B_Ed_hoursLeft_11 B_Ed_hoursLeft_72
      rw [if_neg (show ¬ (40 : Int32) < nI i from nI_nlt (a := 40) (b := i) (by omega) (by decide)), e_O hF.1, C_numbered hF (by omega)]
      simp only [Option.bind_some, gB2_some, nI_1]
      cases ho : E.1 i with
      | none =>
        rw [(hA i (by omega)).1 ho]
        rw [hlb_n ho] at IH
        exact IH
      | some o =>
        obtain ⟨qo, o1, o2, o3⟩ := (hA i (by omega)).2 o ho
        obtain ⟨fs, hob⟩ := o2.ob
        rw [o1]
        simp only [gNul]
        rw [hob, C_ahead o2 hP (by omega) (by omega)]
        simp only [Option.bind_some, gB2_some]
        rw [hlb_s ho] at IH
        show (if bI (ahV o i v p) = 0 then _ else _) = _
        cases hah : ahV o i v p with
        | false =>
          rw [if_pos (show bI false = 0 from rfl)]
          rw [hah, Bool.false_and, if_neg (by decide)] at IH
          exact IH
        | true =>
          obtain ⟨oa, ob', ol, t1, t2, t3, t4⟩ := o2
          rw [if_neg (by decide), e_R t1 (k := 2) (q := oa) rfl, e_R s1 (k := 2) (q := qa) rfl]
          simp only [Option.bind_some]
          rw [e_I s2 (k := 0) (v := v.1 1) rfl, e_O t2]
          simp only [Option.bind_some]
          rw [C_covers t2]
          simp only [gB2_some]
          rw [hah, Bool.true_and] at IH
          show (if bI (cov o (v.1 1) hs) = 0 then _ else _) = _
          cases hcv : cov o (v.1 1) hs with
          | false =>
            rw [if_pos (show bI false = 0 from rfl)]
            rw [hcv, if_neg (by decide)] at IH
            exact IH
          | true =>
            rw [if_neg (by decide), e_R t1 (k := 3) (q := ob') rfl]
            simp only [Option.bind_some]
            rw [e_I t3 (k := 3) (v := hb (o.1 5) (o.1 6) 24) rfl]
            rw [hcv, if_pos rfl] at IH
            exact IH
  unfold D_Ed_hoursLeft
  simp only [Option.bind_some]
  rw [e_R s1 (k := 3) (q := qb) rfl]
  simp only [Option.bind_some]
  rw [e_I s3 (k := 3) (v := hb (v.1 5) (v.1 6) 24) rfl]
  have := loop 40 1 gF rfl (by decide) (by decide)
  rw [hlb_n h0] at this
  exact this
theorem C_ends {a a' : Nat} (h : S.1 a = some (.inr (9, SxV (v.1 1) (v.1 2) (v.1 3)))) (h' : S.1 a' = some (.inr (9, SxV (v'.1 1) (v'.1 2) (v'.1 3)))) : D_Sx_endsWithin a (some a') S = some (bI (ewV v v'), S) := by
  unfold D_Sx_endsWithin B_Sx_endsWithin_37 B_Sx_endsWithin_38 ewV
  simp only [Option.bind_some, e_I h (k := 0) (v := v.1 1) rfl, e_I h (k := 2) (v := v.1 3) rfl, e_I h' (k := 0) (v := v'.1 1) rfl, e_I h' (k := 1) (v := v'.1 2) rfl, e_I h' (k := 2) (v := v'.1 3) rfl]
  by_cases c1 : v.1 1 = v'.1 1
  · rw [if_pos c1, decide_eq_true c1]
    by_cases c2 : v.1 3 < v'.1 2
    · rw [if_pos c2, decide_eq_false (i_ltn c2)]; rfl
    · rw [if_neg c2, decide_eq_true (i_nlt c2)]
      by_cases c3 : v'.1 3 ≤ v.1 3
      · rw [if_pos c3, decide_eq_false (i_len c3)]; rfl
      · rw [if_neg c3, decide_eq_true (i_nle c3)]; rfl
  · rw [if_neg c1, decide_eq_false c1]; rfl
theorem L19_s {f : Nat} {r : Option Nat} {a : Int32} : L_Ed_isNeverMet_19 (f + 1) e r a S = B_Ed_isNeverMet_19 (L_Ed_isNeverMet_19 f) e r a S := rfl
/-- the class finds an hour at one of its houses -/
def cMet (E : EV) (v : PV) (p : Nat) : Prop := lft E v p (v.1 1) (v.1 2) ∨ ∃ q o, q < 41 ∧ E.1 q = some o ∧ ahV o q v p = true ∧ ewV o v = true ∧ lft E v p (v.1 1) (o.1 3 + 1)
theorem C_never (hF : EdF S e d gp gd gs np nd ns) (hA : plsAt S gp E) (h0 : E.1 0 = none) (hP : PlAt S q p v) (hp : p ≤ 40) : ∃ b, D_Ed_isNeverMet e (some q) S = some (bI b, S) ∧ (b = true ↔ ¬ cMet E v p) := by
  obtain ⟨qa, qb, ql, s1, s2, s3, s4⟩ := id hP
  have loop : ∀ (m i fuel : Nat), m = 41 - i → i ≤ 41 → m < fuel → ∃ b, L_Ed_isNeverMet_19 fuel e (some q) (nI i) S = some (bI b, S) ∧ (b = true ↔ ¬ ∃ q o, i ≤ q ∧ q < 41 ∧ E.1 q = some o ∧ ahV o q v p = true ∧ ewV o v = true ∧ lft E v p (v.1 1) (o.1 3 + 1)) := by
    intro m
    induction m with
    | zero =>
      intro i fuel hm hi hf
      obtain ⟨fu, rfl⟩ : ∃ fu, fuel = fu + 1 := ⟨fuel - 1, by omega⟩
      obtain rfl : i = 41 := by omega
      refine ⟨true, ?_, ⟨fun _ ⟨q, o, h1, h2, _⟩ => by omega, fun _ => rfl⟩⟩
      rw [L19_s]
      unfold B_Ed_isNeverMet_19
      rw [if_pos (by decide)]
      rfl
    | succ m ih =>
      intro i fuel hm hi hf
      obtain ⟨fu, rfl⟩ : ∃ fu, fuel = fu + 1 := ⟨fuel - 1, by omega⟩
      obtain ⟨b, b1, b2⟩ := ih (i + 1) fu (by omega) (by omega) (by omega)
      have skip : (¬ ∃ o, E.1 i = some o ∧ ahV o i v p = true ∧ ewV o v = true ∧ lft E v p (v.1 1) (o.1 3 + 1)) → (b = true ↔ ¬ ∃ q o, i ≤ q ∧ q < 41 ∧ E.1 q = some o ∧ ahV o q v p = true ∧ ewV o v = true ∧ lft E v p (v.1 1) (o.1 3 + 1)) := by
        intro hn
        rw [b2]
        refine not_congr ⟨fun ⟨q, o, h1, h2⟩ => ⟨q, o, by omega, h2⟩, fun ⟨q, o, h1, h2, h3⟩ => ?_⟩
        by_cases e : q = i
        · rw [e] at h3; exact absurd ⟨o, h3⟩ hn
        · exact ⟨q, o, by omega, h2, h3⟩
      rw [L19_s]
      unfold B_Ed_isNeverMet_19 B_Ed_isNeverMet_76
      rw [if_neg (show ¬ (40 : Int32) < nI i from nI_nlt (a := 40) (b := i) (by omega) (by decide)), e_O hF.1, C_numbered hF (by omega)]
      simp only [Option.bind_some, gB2_some, nI_1]
      cases ho : E.1 i with
      | none =>
        rw [(hA i (by omega)).1 ho]
        exact ⟨b, b1, skip (fun ⟨o, h1, _⟩ => by rw [ho] at h1; cases h1)⟩
      | some o =>
        obtain ⟨qo, o1, o2, o3⟩ := (hA i (by omega)).2 o ho
        obtain ⟨fs, hob⟩ := o2.ob
        rw [o1]
        simp only [gNul]
        rw [hob, C_ahead o2 hP (by omega) (by omega)]
        simp only [Option.bind_some, gB2_some]
        have e1 : ∀ {o'}, some o = some o' → o = o' := fun h => by cases h; rfl
        cases hah : ahV o i v p with
        | false =>
          refine ⟨b, ?_, skip (fun ⟨o', h1, h2, _⟩ => by rw [ho] at h1; rw [← e1 h1, hah] at h2; cases h2)⟩
          show (if bI (ahV o i v p) = 0 then _ else _) = _
          rw [hah, if_pos (show bI false = 0 from rfl)]
          exact b1
        | true =>
          obtain ⟨oa, ob', ol, t1, t2, t3, t4⟩ := o2
          have go : ∀ X, (if bI (ahV o i v p) = 0 then L_Ed_isNeverMet_19 fu e (some q) (nI (i + 1)) S else X) = X := fun X => by rw [hah, if_neg (by decide)]
          cases hew : ewV o v with
          | false =>
            refine ⟨b, ?_, skip (fun ⟨o', h1, h2, h3, _⟩ => by rw [ho] at h1; rw [← e1 h1, hew] at h3; cases h3)⟩
            refine (go _).trans ?_
            rw [e_R t1 (k := 2) (q := oa) rfl, e_R s1 (k := 2) (q := qa) rfl]
            simp only [Option.bind_some]
            rw [e_O t2, C_ends t2 s2, hew]
            simp only [Option.bind_some, gB2_some]
            rw [if_pos (show bI false = 0 from rfl)]
            exact b1
          | true =>
            have cl : ∀ X Y : Option (Int32 × gS), (if hlb E v p (v.1 1) (o.1 3 + 1) 41 = 0 then X else Y) = if hlb E v p (v.1 1) (o.1 3 + 1) 41 = 0 then X else Y := fun _ _ => rfl
            by_cases hl : lft E v p (v.1 1) (o.1 3 + 1)
            · refine ⟨false, ?_, ⟨fun x => (by cases x), fun x => absurd ⟨i, o, Nat.le_refl _, by omega, ho, hah, hew, hl⟩ x⟩⟩
              refine (go _).trans ?_
              rw [e_R t1 (k := 2) (q := oa) rfl, e_R s1 (k := 2) (q := qa) rfl]
              simp only [Option.bind_some]
              rw [e_O t2, C_ends t2 s2, hew]
              simp only [Option.bind_some, gB2_some]
              rw [if_neg (by decide), e_R t1 (k := 2) (q := oa) rfl]
              simp only [Option.bind_some]
              rw [e_I t2 (k := 2) (v := o.1 3) rfl, e_O hF.1]
              simp only [Option.bind_some]
              rw [C_left hF hA h0 hP hp]
              simp only [gB2_some]
              rw [if_neg (fun x => (hlb_0.mp x) hl)]
              rfl
            · refine ⟨b, ?_, skip (fun ⟨o', h1, h2, h3, h4⟩ => by rw [ho] at h1; rw [← e1 h1] at h4; exact hl h4)⟩
              refine (go _).trans ?_
              rw [e_R t1 (k := 2) (q := oa) rfl, e_R s1 (k := 2) (q := qa) rfl]
              simp only [Option.bind_some]
              rw [e_O t2, C_ends t2 s2, hew]
              simp only [Option.bind_some, gB2_some]
              rw [if_neg (by decide), e_R t1 (k := 2) (q := oa) rfl]
              simp only [Option.bind_some]
              rw [e_I t2 (k := 2) (v := o.1 3) rfl, e_O hF.1]
              simp only [Option.bind_some]
              rw [C_left hF hA h0 hP hp]
              simp only [gB2_some]
              rw [if_pos (hlb_0.mpr hl)]
              exact b1
  obtain ⟨b, b1, b2⟩ := loop 40 1 gF rfl (by decide) (by decide)
  have base : D_Ed_isNeverMet e (some q) S = if hlb E v p (v.1 1) (v.1 2) 41 = 0 then L_Ed_isNeverMet_19 gF e (some q) 1 S else some (0, S) := by
    unfold D_Ed_isNeverMet
    simp only [Option.bind_some]
    rw [e_R s1 (k := 2) (q := qa) rfl]
    simp only [Option.bind_some]
    rw [e_I s2 (k := 1) (v := v.1 2) rfl, e_O hF.1]
    simp only [Option.bind_some]
    rw [C_left hF hA h0 hP hp]
    simp only [gB2_some, gZ0, Option.bind_some]
  by_cases hl : lft E v p (v.1 1) (v.1 2)
  · refine ⟨false, ?_, ⟨fun x => (by cases x), fun x => absurd (Or.inl hl) x⟩⟩
    rw [base, if_neg (fun x => (hlb_0.mp x) hl)]; rfl
  · refine ⟨b, ?_, ?_⟩
    · rw [base, if_pos (hlb_0.mpr hl)]; exact b1
    · rw [b2]
      refine not_congr ⟨fun ⟨q, o, h1, h2⟩ => Or.inr ⟨q, o, h2⟩, fun hm => ?_⟩
      rcases hm with hm | ⟨q, o, h2, h3, h4⟩
      · exact absurd hm hl
      · refine ⟨q, o, ?_, h2, h3, h4⟩
        rcases Nat.eq_zero_or_pos q with e0 | e0
        · rw [e0, h0] at h3; cases h3
        · exact e0
end CN
