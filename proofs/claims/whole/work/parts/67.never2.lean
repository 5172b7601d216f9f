/-! THE REFERENCE'S WAY TO NEVER, AND THAT BOTH SAY THE SAME -/
def cnd (E : EV) (v : PV) (str : Int32) (q : Nat) (hs : Int32) : Prop := (q = 0 ∧ hs = if v.1 1 = 0 then 1 else v.1 2) ∨ (1 ≤ q ∧ ∃ o, E.1 q = some o ∧ o.1 1 = str ∧ hs = o.1 3 + 1)
def chk (E : EV) (v : PV) (p : Nat) (str : Int32) (q h : Nat) : Prop := ∃ hs, cnd E v str q hs ∧ rng hs 1 999 = true ∧ bst E (v.1 0) str hs (nI h) 41 = some p
def rMet (E : EV) (v : PV) (p : Nat) (str : Int32) : Prop := ∃ h q, h < 24 ∧ q ≤ 40 ∧ chk E v p str q h
section NE
variable {E : EV} {v : PV} {p : Nat} {str : Int32}
theorem cov_iff {o : PV} {st hs : Int32} : cov o st hs = true ↔ o.1 1 = 0 ∨ (o.1 1 = st ∧ o.1 2 ≤ hs ∧ hs ≤ o.1 3) := by
  unfold cov
  simp only [Bool.or_eq_true, Bool.and_eq_true, decide_eq_true_eq]
theorem nev_A (hO : evOk E) (hp : p < 41) (hv : E.1 p = some v) (h0 : v.1 1 ≠ 0) : rMet E v p (v.1 1) ↔ cMet E v p := by
  have po := (hO.1 p v (by omega) hv).1
  have so := po.2.1
  rcases so with so | ⟨sa, sb, sc⟩
  · exact absurd so.1 h0
  obtain ⟨f, f1, f2, ef⟩ := rng_nat (lo := 1) (hi := 999) rfl rfl (by decide) (by decide) sb
  obtain ⟨t, t1, t2, et⟩ : ∃ t, f ≤ t ∧ t ≤ 999 ∧ v.1 3 = nI t := by
    rw [ef] at sc
    obtain ⟨t, t1, t2, et⟩ := rng_nat (lo := f) (hi := 999) rfl rfl (by decide) f2 sc
    exact ⟨t, t1, t2, et⟩
  have cv : ∀ x, x < 2 ^ 31 → (cov v (v.1 1) (nI x) = true ↔ f ≤ x ∧ x ≤ t) := fun x hx => by
    rw [cov_iff, ef, et]
    constructor
    · rintro (h | ⟨-, h1, h2⟩)
      · exact absurd h h0
      · exact ⟨(nI_leI (by omega) hx).mp h1, (nI_leI hx (by omega)).mp h2⟩
    · rintro ⟨h1, h2⟩
      exact Or.inr ⟨rfl, nI_le h1 hx, nI_le h2 (by omega)⟩
  constructor
  · rintro ⟨h, q, hh, -, hs, -, hr, hb⟩
    obtain ⟨⟨c1, c2⟩, c3⟩ := (bst_tkn hp hv).mp hb
    obtain ⟨x, x1, x2, ex⟩ := rng_nat (lo := 1) (hi := 999) rfl rfl (by decide) (by decide) hr
    rw [ex] at c1 c3
    obtain ⟨y1, y2⟩ := (cv x (by omega)).mp c1
    have desc : ∀ x, f ≤ x → x ≤ t → ¬ tkn E v p (v.1 1) (nI x) (nI h) 41 → cMet E v p := by
      intro x
      induction x with
      | zero => intro a _ _; omega
      | succ x ih =>
        intro a b c
        by_cases hx : x + 1 = f
        · left
          rw [ef, ← hx]
          exact ⟨h, hh, c2, c⟩
        · by_cases ht : tkn E v p (v.1 1) (nI x) (nI h) 41
          · right
            obtain ⟨q, o, q1, q2, q3, q4, q5⟩ := ht
            have no : ¬ cov o (v.1 1) (nI (x + 1)) = true := fun hc => c ⟨q, o, q1, q2, q3, hc, q5⟩
            rw [cov_iff] at q4 no
            have o0 : o.1 1 ≠ 0 := fun e => no (Or.inl e)
            obtain ⟨e1, e2, e3⟩ := q4.resolve_left o0
            have oo := (hO.1 q o (by omega) q2).1.2.1
            rcases oo with oo | ⟨ra, rb, rc⟩
            · exact absurd oo.1 o0
            obtain ⟨of, of1, of2, eof⟩ := rng_nat (lo := 1) (hi := 999) rfl rfl (by decide) (by decide) rb
            rw [eof] at rc
            obtain ⟨ot, ot1, ot2, eot⟩ := rng_nat (lo := of) (hi := 999) rfl rfl (by decide) of2 rc
            rw [eof] at e2
            rw [eot] at e3
            have l2 := (nI_leI (by omega) (by omega)).mp e2
            have l3 := (nI_leI (by omega) (by omega)).mp e3
            have : ot = x := by
              refine Nat.le_antisymm (Nat.le_of_not_lt (fun hlt => no (Or.inr ⟨e1, ?_, ?_⟩))) l3
              · rw [eof]; exact nI_le (by omega) (by omega)
              · rw [eot]; exact nI_le (by omega) (by omega)
            refine ⟨q, o, q1, q2, q3, ?_, h, hh, c2, ?_⟩
            · unfold ewV
              simp only [Bool.and_eq_true, decide_eq_true_eq]
              refine ⟨e1, ?_, ?_⟩
              · rw [ef, eot]; exact nI_le (by omega) (by omega)
              · rw [et, eot]; exact nI_lt (by omega) (by omega)
            · rw [eot, this, nI_1]; exact c
          · exact ih (by omega) (by omega) ht
    exact desc x y1 y2 c3
  · rintro (⟨h, hh, h1, h2⟩ | ⟨q, o, q1, q2, q3, q4, h, hh, h1, h2⟩)
    · refine ⟨h, 0, hh, by omega, v.1 2, Or.inl ⟨rfl, by rw [if_neg h0]⟩, sb, (bst_tkn hp hv).mpr ⟨⟨?_, h1⟩, h2⟩⟩
      rw [ef]; exact (cv f (by omega)).mpr ⟨by omega, t1⟩
    · unfold ewV at q4
      simp only [Bool.and_eq_true, decide_eq_true_eq] at q4
      obtain ⟨e1, e2, e3⟩ := q4
      have oo := (hO.1 q o (by omega) q2).1.2.1
      rcases oo with oo | ⟨ra, rb, rc⟩
      · exact absurd (e1.symm.trans oo.1) h0
      obtain ⟨of, of1, of2, eof⟩ := rng_nat (lo := 1) (hi := 999) rfl rfl (by decide) (by decide) rb
      rw [eof] at rc
      obtain ⟨ot, ot1, ot2, eot⟩ := rng_nat (lo := of) (hi := 999) rfl rfl (by decide) of2 rc
      rw [ef, eot] at e2
      rw [et, eot] at e3
      have l2 := (nI_leI (by omega) (by omega)).mp e2
      have l3 := (nI_ltI (by omega) (by omega)).mp e3
      have q0 : 1 ≤ q := by
        rcases Nat.eq_zero_or_pos q with e0 | e0
        · rw [e0, hO.2.2.2.2.1] at q2; cases q2
        · exact e0
      refine ⟨h, q, hh, by omega, o.1 3 + 1, Or.inr ⟨q0, o, q2, e1, rfl⟩, ?_, (bst_tkn hp hv).mpr ⟨⟨?_, h1⟩, h2⟩⟩
      · rw [eot, nI_1, rng_spec]
        exact ⟨nI_le (a := 1) (b := ot + 1) (by omega) (by omega), nI_le (a := ot + 1) (b := 999) (by omega) (by decide)⟩
      · rw [eot, nI_1]; exact (cv _ (by omega)).mpr ⟨by omega, by omega⟩
theorem nev_B (hO : evOk E) (hp : p < 41) (hv : E.1 p = some v) (h0 : v.1 1 = 0) (hf : ∀ q o, q < 41 → E.1 q = some o → o.1 1 ≠ str) : rMet E v p str ↔ cMet E v p := by
  have po := (hO.1 p v (by omega) hv).1
  have so := po.2.1
  have sv : v.1 2 = 1 ∧ v.1 3 = 999 := by
    rcases so with so | ⟨sa, -, -⟩
    · exact so.2
    · exact absurd h0 (rng_ne0 sa)
  have tk : ∀ hr, tkn E v p str 1 hr 41 ↔ tkn E v p (v.1 1) (v.1 2) hr 41 := fun hr => by
    constructor
    · rintro ⟨q, o, a1, a2, a3, a4, a5⟩
      refine ⟨q, o, a1, a2, a3, ?_, a5⟩
      rw [cov_iff] at a4 ⊢
      rcases a4 with a4 | a4
      · exact Or.inl a4
      · exact absurd a4.1 (hf q o a1 a2)
    · rintro ⟨q, o, a1, a2, a3, a4, a5⟩
      refine ⟨q, o, a1, a2, a3, ?_, a5⟩
      rw [cov_iff] at a4 ⊢
      rcases a4 with a4 | a4
      · exact Or.inl a4
      · exact Or.inl (a4.1.trans h0)
  constructor
  · rintro ⟨h, q, hh, hq, hs, hc, hr, hb⟩
    rcases hc with ⟨-, hc⟩ | ⟨q0, o, o1, o2, -⟩
    · rw [if_pos h0] at hc
      rw [hc] at hb
      obtain ⟨⟨c1, c2⟩, c3⟩ := (bst_tkn hp hv).mp hb
      exact Or.inl ⟨h, hh, c2, fun x => c3 ((tk _).mpr x)⟩
    · exact absurd o2 (hf q o (by omega) o1)
  · rintro (⟨h, hh, h1, h2⟩ | ⟨q, o, q1, q2, q3, q4, -⟩)
    · refine ⟨h, 0, hh, by omega, 1, Or.inl ⟨rfl, by rw [if_pos h0]⟩, by decide, (bst_tkn hp hv).mpr ⟨⟨?_, h1⟩, fun x => h2 ((tk _).mp x)⟩⟩
      rw [cov_iff]; exact Or.inl h0
    · exfalso
      unfold ewV at q4
      simp only [Bool.and_eq_true, decide_eq_true_eq] at q4
      obtain ⟨e1, e2, e3⟩ := q4
      have oo := (hO.1 q o (by omega) q2).1.2.1
      rcases oo with oo | ⟨ra, -, -⟩
      · rw [oo.2.2, sv.2] at e3; exact absurd e3 (by decide)
      · exact absurd (e1.trans h0) (rng_ne0 ra)
end NE
section MN
variable {S : gS} {e p w : Nat} {E : EV} {v : PV} {μ : mS} {str : Int32}
theorem L13_s {k4 : Nat → Int32 → Int32 → Int32 → gS → Option (Int32 × gS)} {f : Nat} {a b c d : Int32} : L_Mo_free_13 k4 (f + 1) w a b c d S = B_Mo_free_13 k4 (L_Mo_free_13 k4 f) w a b c d S := rfl
theorem L4f_s {f : Nat} {a b c : Int32} : L_Mo_free_4 (f + 1) w a b c S = B_Mo_free_4 (L_Mo_free_4 f) w a b c S := rfl
theorem M_free13 {s : Nat} (he : e ≤ 6) (hM : edIs μ e E) : ∀ (m i fuel : Nat) (x : Bool), m = 41 - i → 1 ≤ i → i ≤ 41 → m < fuel → ∃ b : Bool, (∀ k4 w S, L_Mo_free_13 k4 fuel w (nI e) (nI s) (bI x) (nI i) (mput w μ S) = if b = true then k4 w (nI e) (nI (s + 1)) 1 (mput w μ S) else k4 w (nI e) (nI s) 0 (mput w μ S)) ∧ (b = true ↔ x = true ∨ ∃ q o, i ≤ q ∧ q < 41 ∧ E.1 q = some o ∧ o.1 1 = nI s) := by
  intro m
  induction m with
  | zero =>
    intro i fuel x hm h1 hi hf
    obtain ⟨fu, rfl⟩ : ∃ fu, fuel = fu + 1 := ⟨fuel - 1, by omega⟩
    obtain rfl : i = 41 := by omega
    refine ⟨x, fun k4 w S => ?_, ⟨Or.inl, fun h => h.elim id (fun ⟨q, o, a, b, _⟩ => by omega)⟩⟩
    rw [L13_s]
    unfold B_Mo_free_13 B_Mo_free_77
    rw [if_pos (by decide)]
    cases x with
    | false => rw [if_pos (show bI false = 0 from rfl), if_neg (by decide), show nI s + 0 = nI s from i_add0]; rfl
    | true => rw [if_neg (by decide), if_pos rfl, nI_1]; rfl
  | succ m ih =>
    intro i fuel x hm h1 hi hf
    obtain ⟨fu, rfl⟩ : ∃ fu, fuel = fu + 1 := ⟨fuel - 1, by omega⟩
    have hst : ∀ o, E.1 i = some o → μ.2 3 (50 * e + i) = 1 ∧ μ.2 5 (50 * e + i) = o.1 1 := fun o ho => by
      have := (hM.1 i h1 (by omega)).2 o ho
      exact ⟨this.1, this.2.2.1.1⟩
    obtain ⟨y, hy⟩ : ∃ y : Bool, (∀ k4 w S, L_Mo_free_13 k4 (fu + 1) w (nI e) (nI s) (bI x) (nI i) (mput w μ S) = L_Mo_free_13 k4 fu w (nI e) (nI s) (bI y) (nI (i + 1)) (mput w μ S)) ∧ (y = true ↔ x = true ∨ ∃ o, E.1 i = some o ∧ o.1 1 = nI s) := by
      cases x with
      | true =>
        refine ⟨true, fun k4 w S => ?_, ⟨fun _ => Or.inl rfl, fun _ => rfl⟩⟩
        rw [L13_s]
        unfold B_Mo_free_13 B_Mo_free_55 B_Mo_free_60
        rw [if_neg (show ¬ (40 : Int32) < nI i from nI_nlt (a := 40) (b := i) (by omega) (by decide)), if_neg (by decide), nI_1]
        rfl
      | false =>
        have un : ∀ k4 w S, L_Mo_free_13 k4 (fu + 1) w (nI e) (nI s) (bI false) (nI i) (mput w μ S) = if μ.2 3 (50 * e + i) = 0 then L_Mo_free_13 k4 fu w (nI e) (nI s) 0 (nI (i + 1)) (mput w μ S) else if μ.2 5 (50 * e + i) = nI s then L_Mo_free_13 k4 fu w (nI e) (nI s) 1 (nI (i + 1)) (mput w μ S) else L_Mo_free_13 k4 fu w (nI e) (nI s) 0 (nI (i + 1)) (mput w μ S) := by
          intro k4 w S
          rw [L13_s]
          unfold B_Mo_free_13 B_Mo_free_55 B_Mo_free_59 B_Mo_free_60
          rw [if_neg (show ¬ (40 : Int32) < nI i from nI_nlt (a := 40) (b := i) (by omega) (by decide)), if_pos (show bI false = 0 from rfl)]
          simp only [m_R10, m_R12, Option.bind_some, nI50, nI_1]
          rw [m_g3 (by omega), m_g5 (by omega)]
          rfl
        cases ho : E.1 i with
        | none =>
          refine ⟨false, fun k4 w S => ?_, ⟨fun x => (by cases x), fun x => x.elim id (fun ⟨o, h, _⟩ => by cases h)⟩⟩
          rw [un, if_pos ((hM.1 i h1 (by omega)).1 ho)]; rfl
        | some o =>
          obtain ⟨s1, s2⟩ := hst o ho
          by_cases c : o.1 1 = nI s
          · refine ⟨true, fun k4 w S => ?_, ⟨fun _ => Or.inr ⟨o, rfl, c⟩, fun _ => rfl⟩⟩
            rw [un, s1, s2, if_neg (by decide), if_pos c]; rfl
          · refine ⟨false, fun k4 w S => ?_, ⟨fun x => (by cases x), fun x => x.elim id (fun ⟨o', h, h'⟩ => by cases h; exact absurd h' c)⟩⟩
            rw [un, s1, s2, if_neg (by decide), if_neg c]; rfl
    obtain ⟨hy1, hy2⟩ := hy
    obtain ⟨b, b1, b2⟩ := ih (i + 1) fu y (by omega) (by omega) (by omega) (by omega)
    refine ⟨b, fun k4 w S => (hy1 k4 w S).trans (b1 k4 w S), ?_⟩
    rw [b2, hy2]
    constructor
    · rintro ((h | ⟨o, h, h'⟩) | ⟨q, o, a1, a2⟩)
      · exact Or.inl h
      · exact Or.inr ⟨i, o, Nat.le_refl _, by omega, h, h'⟩
      · exact Or.inr ⟨q, o, by omega, a2⟩
    · rintro (h | ⟨q, o, a1, a2, a3, a4⟩)
      · exact Or.inl (Or.inl h)
      · by_cases e' : q = i
        · rw [e'] at a3; exact Or.inl (Or.inr ⟨o, a3, a4⟩)
        · exact Or.inr ⟨q, o, by omega, a2, a3, a4⟩
theorem M_free (he : e ≤ 6) (hM : edIs μ e E) (hO : evOk E) : ∀ (m s fuel : Nat), m = 100 - s → 1 ≤ s → s ≤ 100 → m + 1 < fuel → ∃ r, 1 ≤ r ∧ r ≤ 100 ∧ (∀ w S, L_Mo_free_4 fuel w (nI e) (nI s) 1 (mput w μ S) = some (nI r, mput w μ S)) ∧ ∀ q o, q < 41 → E.1 q = some o → o.1 1 ≠ nI r := by
  intro m
  induction m with
  | zero =>
    intro s fuel hm h1 hs hf
    obtain ⟨fu, rfl⟩ : ∃ fu, fuel = fu + 1 := ⟨fuel - 1, by omega⟩
    obtain ⟨fu', rfl⟩ : ∃ fu', fu = fu' + 1 := ⟨fu - 1, by omega⟩
    obtain rfl : s = 100 := by omega
    obtain ⟨b, b1, b2⟩ := M_free13 (s := 100) he hM 40 1 gF false rfl (by decide) (by decide) (by decide)
    have nb : ∀ q o, q < 41 → E.1 q = some o → o.1 1 ≠ nI 100 := fun q o hq ho e1 => by
      have oo := (hO.1 q o (by omega) ho).1.2.1
      rw [e1] at oo
      rcases oo with oo | oo
      · exact absurd oo.1 (by decide)
      · exact absurd oo.1 (by decide)
    have bf : b = false := by
      cases b with
      | false => rfl
      | true =>
        rcases b2.mp rfl with x | ⟨q, o, x1, x2, x3, x4⟩
        · cases x
        · exact absurd x4 (nb q o x2 x3)
    refine ⟨100, by decide, by decide, fun w S => ?_, nb⟩
    rw [L4f_s]
    unfold B_Mo_free_4
    rw [if_neg (by decide)]
    refine (b1 _ w S).trans ?_
    rw [bf, if_neg (by decide), L4f_s]
    unfold B_Mo_free_4
    rw [if_pos rfl]
  | succ m ih =>
    intro s fuel hm h1 hs hf
    obtain ⟨fu, rfl⟩ : ∃ fu, fuel = fu + 1 := ⟨fuel - 1, by omega⟩
    obtain ⟨b, b1, b2⟩ := M_free13 (s := s) he hM 40 1 gF false rfl (by decide) (by decide) (by decide)
    cases hb : b with
    | true =>
      obtain ⟨r, r1, r2, r3, r4⟩ := ih (s + 1) fu (by omega) (by omega) (by omega) (by omega)
      refine ⟨r, r1, r2, fun w S => ?_, r4⟩
      rw [L4f_s]
      unfold B_Mo_free_4
      rw [if_neg (by decide)]
      refine (b1 _ w S).trans ?_
      rw [hb, if_pos rfl]
      exact r3 w S
    | false =>
      obtain ⟨fu', rfl⟩ : ∃ fu', fu = fu' + 1 := ⟨fu - 1, by omega⟩
      refine ⟨s, h1, by omega, fun w S => ?_, fun q o hq ho e1 => ?_⟩
      · rw [L4f_s]
        unfold B_Mo_free_4
        rw [if_neg (by decide)]
        refine (b1 _ w S).trans ?_
        rw [hb, if_neg (by decide), L4f_s]
        unfold B_Mo_free_4
        rw [if_pos rfl]
      · have : b = true := b2.mpr (Or.inr ⟨q, o, by
          rcases Nat.eq_zero_or_pos q with e0 | e0
          · rw [e0, hO.2.2.2.2.1] at ho; cases ho
          · exact e0, hq, ho, e1⟩)
        rw [hb] at this; cases this
theorem L45_s {k35 : Nat → Int32 → Int32 → Int32 → Int32 → gS → Option (Int32 × gS)} {f : Nat} {a b c d x : Int32} : L_Mo_isMet_45 k35 (f + 1) w a b c d x S = B_Mo_isMet_45 k35 (L_Mo_isMet_45 k35 f) w a b c d x S := rfl
theorem L35_s {f : Nat} {a b c d : Int32} : L_Mo_isMet_35 (f + 1) w a b c d S = B_Mo_isMet_35 (L_Mo_isMet_35 f) w a b c d S := rfl
theorem sref_eq {o : Option Nat} (he : e ≤ 6) (hp : p < 41) (ho : ∀ j, o = some j → j < 41) : sref e o = nI (50 * e + p) ↔ o = some p := by
  cases o with
  | none => exact ⟨fun h => absurd h.symm (nI_nm (by omega)), fun h => by cases h⟩
  | some j =>
    have := ho j rfl
    show nI (50 * e + j) = nI (50 * e + p) ↔ _
    rw [nI_eq (by omega) (by omega)]
    exact ⟨fun h => by rw [show j = p by omega], fun h => by cases h; rfl⟩
theorem M_met45 (he : e ≤ 6) (hM : edIs μ e E) (hO : evOk E) (hp0 : 1 ≤ p) (hp : p < 41) (hv : E.1 p = some v) (hs0 : str ≠ 0) {h : Nat} (hh : h < 24) : ∀ (m q fuel : Nat), m = 41 - q → q ≤ 41 → m < fuel → ∃ b : Bool, (∀ k35 w S, L_Mo_isMet_45 k35 fuel w (nI e) (nI (50 * e + p)) str (nI h) (nI q) (mput w μ S) = if b = true then some (1, mput w μ S) else k35 w (nI e) (nI (50 * e + p)) str (nI (h + 1)) (mput w μ S)) ∧ (b = true ↔ ∃ q', q ≤ q' ∧ q' ≤ 40 ∧ chk E v p str q' h) := by
  have pv := (hM.1 p hp0 (by omega)).2 v hv
  have po := (hO.1 p v (by omega) hv).1
  intro m
  induction m with
  | zero =>
    intro q fuel hm hq hf
    obtain ⟨fu, rfl⟩ : ∃ fu, fuel = fu + 1 := ⟨fuel - 1, by omega⟩
    obtain rfl : q = 41 := by omega
    refine ⟨false, fun k35 w S => ?_, ⟨fun x => (by cases x), fun ⟨q', a, b, _⟩ => by omega⟩⟩
    rw [L45_s]
    unfold B_Mo_isMet_45
    rw [if_pos (by decide), if_neg (by decide), nI_1]
  | succ m ih =>
    intro q fuel hm hq hf
    obtain ⟨fu, rfl⟩ : ∃ fu, fuel = fu + 1 := ⟨fuel - 1, by omega⟩
    obtain ⟨b, b1, b2⟩ := ih (q + 1) fu (by omega) (by omega) (by omega)
    -- one house asked
    have ask : ∀ (hs : Int32), ∃ y : Bool, (∀ k35 w S, B_Mo_isMet_140 k35 (L_Mo_isMet_45 k35 fu) w (nI e) (nI (50 * e + p)) str (nI h) (nI q) hs (mput w μ S) = if y = true then some (1, mput w μ S) else L_Mo_isMet_45 k35 fu w (nI e) (nI (50 * e + p)) str (nI h) (nI (q + 1)) (mput w μ S)) ∧ (y = true ↔ rng hs 1 999 = true ∧ bst E (v.1 0) str hs (nI h) 41 = some p) := by
      intro hs
      have un : ∀ k35 w S, B_Mo_isMet_140 k35 (L_Mo_isMet_45 k35 fu) w (nI e) (nI (50 * e + p)) str (nI h) (nI q) hs (mput w μ S) = if bI (rng hs 1 999) = 0 then L_Mo_isMet_45 k35 fu w (nI e) (nI (50 * e + p)) str (nI h) (nI (q + 1)) (mput w μ S) else if sref e (bst E (v.1 0) str hs (nI h) 41) = nI (50 * e + p) then some (1, mput w μ S) else L_Mo_isMet_45 k35 fu w (nI e) (nI (50 * e + p)) str (nI h) (nI (q + 1)) (mput w μ S) := by
        intro k35 w S
        unfold B_Mo_isMet_140 B_Mo_isMet_177
        simp only [M_in, gB2_some, m_R11, Option.bind_some, nI_1, m_ob]
        rw [m_g4 (by omega), pv.2.1]
        simp only [Option.bind_some]
        rw [M_best he hM hO hh]
        rfl
      have sr := sref_eq (e := e) (p := p) (o := bst E (v.1 0) str hs (nI h) 41) he hp (fun j hj => (bst_in hj).1)
      by_cases c1 : rng hs 1 999 = true
      · by_cases c2 : bst E (v.1 0) str hs (nI h) 41 = some p
        · refine ⟨true, fun k35 w S => ?_, ⟨fun _ => ⟨c1, c2⟩, fun _ => rfl⟩⟩
          rw [un, c1, if_neg (by decide), if_pos (sr.mpr c2), if_pos rfl]
        · refine ⟨false, fun k35 w S => ?_, ⟨fun x => (by cases x), fun x => absurd x.2 c2⟩⟩
          rw [un, c1, if_neg (by decide), if_neg (fun x => c2 (sr.mp x)), if_neg (by decide)]
      · refine ⟨false, fun k35 w S => ?_, ⟨fun x => (by cases x), fun x => absurd x.1 c1⟩⟩
        rw [un, Bool.eq_false_iff.mpr c1, if_pos (show bI false = 0 from rfl), if_neg (by decide)]
    obtain ⟨hs, hhs, hcn⟩ : ∃ hs, (∀ k35 w S, B_Mo_isMet_45 k35 (L_Mo_isMet_45 k35 fu) w (nI e) (nI (50 * e + p)) str (nI h) (nI q) (mput w μ S) = B_Mo_isMet_140 k35 (L_Mo_isMet_45 k35 fu) w (nI e) (nI (50 * e + p)) str (nI h) (nI q) hs (mput w μ S)) ∧ ((rng hs 1 999 = true ∧ bst E (v.1 0) str hs (nI h) 41 = some p) ↔ chk E v p str q h) := by
      have q40 : ¬ (40 : Int32) < nI q := nI_nlt (a := 40) (b := q) (by omega) (by decide)
      by_cases hq0 : q = 0
      · subst hq0
        refine ⟨if v.1 1 = 0 then 1 else v.1 2, fun k35 w S => ?_, ⟨fun x => ⟨_, Or.inl ⟨rfl, rfl⟩, x⟩, fun ⟨hs, hc, hr⟩ => ?_⟩⟩
        · unfold B_Mo_isMet_45 B_Mo_isMet_92 B_Mo_isMet_93
          rw [if_neg q40, if_pos (by decide), if_pos (by decide)]
          simp only [m_R12, m_R13, Option.bind_some]
          rw [m_g5 (by omega), m_g6 (by omega), pv.2.2.1.1]
          simp only [Option.bind_some]
          by_cases c : v.1 1 = 0
          · rw [if_pos ((st_pos po.2.1).mpr c), if_pos c]
          · rw [if_neg (fun x => c ((st_pos po.2.1).mp x)), if_neg c, (pv.2.2.1.2 c).1]
        · rcases hc with ⟨-, hc⟩ | ⟨hc, -⟩
          · rw [← hc]; exact hr
          · omega
      · have qp : ¬ nI q ≤ 0 := nI_nle (by omega) (by omega)
        have qn : ¬ nI q = 0 := nI_ne0 (by omega) (by omega)
        have un : ∀ k35 w S, B_Mo_isMet_45 k35 (L_Mo_isMet_45 k35 fu) w (nI e) (nI (50 * e + p)) str (nI h) (nI q) (mput w μ S) = if μ.2 3 (50 * e + q) = 0 then B_Mo_isMet_140 k35 (L_Mo_isMet_45 k35 fu) w (nI e) (nI (50 * e + p)) str (nI h) (nI q) 0 (mput w μ S) else if μ.2 5 (50 * e + q) = str then B_Mo_isMet_140 k35 (L_Mo_isMet_45 k35 fu) w (nI e) (nI (50 * e + p)) str (nI h) (nI q) (μ.2 7 (50 * e + q) + 1) (mput w μ S) else B_Mo_isMet_140 k35 (L_Mo_isMet_45 k35 fu) w (nI e) (nI (50 * e + p)) str (nI h) (nI q) 0 (mput w μ S) := by
          intro k35 w S
          unfold B_Mo_isMet_45 B_Mo_isMet_92 B_Mo_isMet_93
          rw [if_neg q40, if_neg qp]
          simp only [m_R10, m_R12, m_R14, Option.bind_some, nI50, m_g3 (show 50 * e + q < 350 by omega), m_g5 (show 50 * e + q < 350 by omega), m_g7 (show 50 * e + q < 350 by omega), qn, if_false, if_true, show ¬ ((1 : Int32) = 0) by decide]
        have no : ∀ P : Prop, ((rng 0 1 999 = true ∧ P) ↔ False) := fun P => ⟨fun x => absurd x.1 (by decide), fun x => x.elim⟩
        cases ho : E.1 q with
        | none =>
          refine ⟨0, fun k35 w S => by rw [un, if_pos ((hM.1 q (by omega) (by omega)).1 ho)], (no _).trans ⟨fun x => x.elim, fun ⟨hs, hc, _⟩ => ?_⟩⟩
          rcases hc with ⟨hc, -⟩ | ⟨-, o, hc, -⟩
          · exact hq0 hc
          · rw [ho] at hc; cases hc
        | some o =>
          have ov := (hM.1 q (by omega) (by omega)).2 o ho
          by_cases c : o.1 1 = str
          · refine ⟨o.1 3 + 1, fun k35 w S => ?_, ⟨fun x => ⟨_, Or.inr ⟨by omega, o, ho, c, rfl⟩, x⟩, fun ⟨hs, hc, hr⟩ => ?_⟩⟩
            · rw [un, ov.1, if_neg (by decide), ov.2.2.1.1, if_pos c, (ov.2.2.1.2 (by rw [c]; exact hs0)).2]
            · rcases hc with ⟨hc, -⟩ | ⟨-, o', hc, -, hc3⟩
              · exact absurd hc hq0
              · rw [ho] at hc; cases hc
                rw [← hc3]; exact hr
          · refine ⟨0, fun k35 w S => by rw [un, ov.1, if_neg (by decide), ov.2.2.1.1, if_neg c], (no _).trans ⟨fun x => x.elim, fun ⟨hs, hc, _⟩ => ?_⟩⟩
            rcases hc with ⟨hc, -⟩ | ⟨-, o', hc, hc2, -⟩
            · exact hq0 hc
            · rw [ho] at hc; cases hc
              exact c hc2
    obtain ⟨y, y1, y2⟩ := ask hs
    rw [hcn] at y2
    refine ⟨y || b, fun k35 w S => ?_, ?_⟩
    · rw [L45_s, hhs, y1]
      cases y with
      | true => rfl
      | false => rw [if_neg (by decide), Bool.false_or]; exact b1 k35 w S
    · rw [Bool.or_eq_true, y2, b2]
      constructor
      · rintro (x | ⟨q', x1, x2⟩)
        · exact ⟨q, Nat.le_refl _, by omega, x⟩
        · exact ⟨q', by omega, x2⟩
      · rintro ⟨q', x1, x2, x3⟩
        by_cases e' : q' = q
        · rw [e'] at x3; exact Or.inl x3
        · exact Or.inr ⟨q', by omega, x2, x3⟩
theorem M_met35 (he : e ≤ 6) (hM : edIs μ e E) (hO : evOk E) (hp0 : 1 ≤ p) (hp : p < 41) (hv : E.1 p = some v) (hs0 : str ≠ 0) : ∀ (m h fuel : Nat), m = 24 - h → h ≤ 24 → m < fuel → ∃ b : Bool, (∀ w S, L_Mo_isMet_35 fuel w (nI e) (nI (50 * e + p)) str (nI h) (mput w μ S) = some (bI b, mput w μ S)) ∧ (b = true ↔ ∃ h' q, h ≤ h' ∧ h' < 24 ∧ q ≤ 40 ∧ chk E v p str q h') := by
  intro m
  induction m with
  | zero =>
    intro h fuel hm hh hf
    obtain ⟨fu, rfl⟩ : ∃ fu, fuel = fu + 1 := ⟨fuel - 1, by omega⟩
    obtain rfl : h = 24 := by omega
    refine ⟨false, fun w S => ?_, ⟨fun x => (by cases x), fun ⟨h', q, a, b, _⟩ => by omega⟩⟩
    rw [L35_s]
    unfold B_Mo_isMet_35
    rw [if_pos (by decide)]
    rfl
  | succ m ih =>
    intro h fuel hm hh hf
    obtain ⟨fu, rfl⟩ : ∃ fu, fuel = fu + 1 := ⟨fuel - 1, by omega⟩
    have hlt : h < 24 := by omega
    have hsc : ∀ {h'}, h + 1 ≤ h' → h ≤ h' := fun x => Nat.le_of_succ_le x
    have hsd : ∀ {h'}, h ≤ h' → h' ≠ h → h + 1 ≤ h' := fun x y => Nat.lt_of_le_of_ne x (fun z => y z.symm)
    obtain ⟨b, b1, b2⟩ := ih (h + 1) fu (by omega) (by omega) (by omega)
    obtain ⟨y, y1, y2⟩ := M_met45 he hM hO hp0 hp hv hs0 hlt 41 0 gF rfl (by decide) (by decide)
    refine ⟨y || b, fun w S => ?_, ?_⟩
    · rw [L35_s]
      unfold B_Mo_isMet_35
      rw [if_neg (show ¬ (24 : Int32) ≤ nI h from nI_ge (a := h) (b := 24) hlt (by decide))]
      refine (y1 _ w S).trans ?_
      cases y with
      | true => rfl
      | false => rw [if_neg (by decide), Bool.false_or]; exact b1 w S
    · rw [Bool.or_eq_true, y2, b2]
      constructor
      · rintro (⟨q, x1, x2, x3⟩ | ⟨h', q, x1, x2⟩)
        · exact ⟨h, q, Nat.le_refl _, hlt, x2, x3⟩
        · exact ⟨h', q, hsc x1, x2⟩
      · rintro ⟨h', q, x1, x2, x3, x4⟩
        by_cases e' : h' = h
        · rw [e'] at x4; exact Or.inl ⟨q, Nat.zero_le _, x3, x4⟩
        · exact Or.inr ⟨h', q, hsd x1 e', x2, x3, x4⟩
theorem M_isMet (he : e ≤ 6) (hM : edIs μ e E) (hO : evOk E) (hp0 : 1 ≤ p) (hp : p < 41) (hv : E.1 p = some v) : ∃ b : Bool, (∀ w S, D_Mo_isMet w (nI e) (nI p) (mput w μ S) = some (bI b, mput w μ S)) ∧ (b = true ↔ cMet E v p) := by
  have pv := (hM.1 p hp0 (by omega)).2 v hv
  have po := (hO.1 p v (by omega) hv).1
  have z0 := st_pos po.2.1
  have rw1 : ∀ {b : Bool} {str : Int32}, (b = true ↔ ∃ h' q, 0 ≤ h' ∧ h' < 24 ∧ q ≤ 40 ∧ chk E v p str q h') → (b = true ↔ rMet E v p str) := fun h => h.trans ⟨fun ⟨h', q, _, a, b, c⟩ => ⟨h', q, a, b, c⟩, fun ⟨h', q, a, b, c⟩ => ⟨h', q, Nat.zero_le _, a, b, c⟩⟩
  by_cases c : v.1 1 = 0
  · obtain ⟨r, r1, r2, r3, r4⟩ := M_free he hM hO 99 1 gF rfl (by decide) (by decide) (by decide)
    obtain ⟨b, b1, b2⟩ := M_met35 he hM hO hp0 hp hv (str := nI r) (nI_ne0 (by omega) (by omega)) 24 0 gF rfl (by decide) (by decide)
    refine ⟨b, fun w S => ?_, (rw1 b2).trans (nev_B hO hp hv c r4)⟩
    unfold D_Mo_isMet B_Mo_isMet_30
    simp only [m_R12, m_ob, Option.bind_some, nI50]
    rw [m_g5 (by omega), pv.2.2.1.1]
    simp only [Option.bind_some]
    rw [if_pos (z0.mpr c), show D_Mo_free w (nI e) (mput w μ S) = some (nI r, mput w μ S) from r3 w S]
    exact b1 w S
  · obtain ⟨b, b1, b2⟩ := M_met35 he hM hO hp0 hp hv (str := v.1 1) c 24 0 gF rfl (by decide) (by decide)
    refine ⟨b, fun w S => ?_, (rw1 b2).trans (nev_A hO hp hv c)⟩
    unfold D_Mo_isMet B_Mo_isMet_30
    simp only [m_R12, m_ob, Option.bind_some, nI50]
    rw [m_g5 (by omega), pv.2.2.1.1]
    simp only [Option.bind_some]
    rw [if_neg (fun x => c (z0.mp x))]
    exact b1 w S
end MN
