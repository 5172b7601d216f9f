/-! THE REFERENCE COPIES A SLOT -/
def cp9 (μ : mS) (s s' : Nat) : mS := (μ.1, fun j y => if 3 ≤ j ∧ j ≤ 11 ∧ y = s then μ.2 j s' else μ.2 j y)
theorem mAm {μ : mS} {j i : Nat} {v : Int32} {a b : Nat} : (mA μ j i v).2 a b = if a = j ∧ b = i then v else μ.2 a b := by
  by_cases h : a = j
  · subst h
    by_cases hb : b = i
    · subst hb; rw [if_pos ⟨rfl, rfl⟩, mA_at]
    · rw [if_neg (fun x => hb x.2), mA_an hb]
  · rw [if_neg (fun x => h x.1), mA_n h]
theorem cp9_eq {μ : mS} {s s' : Nat} : mA (mA (mA (mA (mA (mA (mA (mA (mA μ 3 s (μ.2 3 s')) 4 s (μ.2 4 s')) 5 s (μ.2 5 s')) 6 s (μ.2 6 s')) 7 s (μ.2 7 s')) 8 s (μ.2 8 s')) 9 s (μ.2 9 s')) 10 s (μ.2 10 s')) 11 s (μ.2 11 s') = cp9 μ s s' := by
  refine Prod.ext rfl ?_
  funext j y
  simp only [mAm, cp9]
  by_cases h3 : 3 ≤ j ∧ j ≤ 11 ∧ y = s
  · rw [if_pos h3]
    obtain ⟨a, b, rfl⟩ := h3
    rcases (show j = 3 ∨ j = 4 ∨ j = 5 ∨ j = 6 ∨ j = 7 ∨ j = 8 ∨ j = 9 ∨ j = 10 ∨ j = 11 by omega) with rfl | rfl | rfl | rfl | rfl | rfl | rfl | rfl | rfl <;> simp
  · rw [if_neg h3, if_neg (by omega), if_neg (by omega), if_neg (by omega), if_neg (by omega), if_neg (by omega), if_neg (by omega), if_neg (by omega), if_neg (by omega), if_neg (by omega)]
section CC
variable {w : Nat} {S : gS}
theorem L236_s {k86 : Nat → Int32 → Int32 → gS → Option (Int32 × gS)} {k : Nat} {a b c d x : Int32} : L_Mo_read_236 k86 (k + 1) w a b c d x S = B_Mo_read_236 k86 (L_Mo_read_236 k86 k) w a b c d x S := rfl
theorem L283_s {k : Nat} {a x : Int32} : L_Mo_read_283 (k + 1) w a x S = B_Mo_read_283 (L_Mo_read_283 k) w a x S := rfl
theorem L86_s {k : Nat} {a x : Int32} : L_Mo_read_86 (k + 1) w a x S = B_Mo_read_86 (L_Mo_read_86 k) w a x S := rfl
theorem nI25 {a b : Nat} : 25 * nI a + nI b = nI (25 * a + b) := by rw [show (25 : Int32) = nI 25 from rfl, pk_mul, nI_add]
theorem nI50 {a b : Nat} : 50 * nI a + nI b = nI (50 * a + b) := by rw [show (50 : Int32) = nI 50 from rfl, pk_mul, nI_add]
theorem nI40 {a b : Nat} : 40 * nI a + nI b = nI (40 * a + b) := by rw [show (40 : Int32) = nI 40 from rfl, pk_mul, nI_add]
theorem nI240 {b : Nat} : 240 + nI b = nI (240 + b) := nI_add 240 b
theorem M_cp25 {s s' : Nat} (hs : s < 300) (hs' : 300 ≤ s') (hs2 : s' < 350) : ∀ (d i fuel : Nat) (μ : mS), d = 25 - i → i ≤ 25 → d < fuel → ∃ μ', (∀ k86 w x2 x3 S, L_Mo_read_236 k86 fuel w x2 x3 (nI s) (nI s') (nI i) (mput w μ S) = k86 w x2 (x3 + 1) (mput w μ' S)) ∧ μ'.1 = μ.1 ∧ (∀ j x, ¬ (j = 12 ∧ 25 * s + i ≤ x ∧ x < 25 * s + 25) → μ'.2 j x = μ.2 j x) ∧ ∀ x, i ≤ x → x < 25 → μ'.2 12 (25 * s + x) = μ.2 12 (25 * s' + x) := by
  intro d
  induction d with
  | zero =>
    intro i fuel μ hd hi hf
    obtain ⟨fu, rfl⟩ : ∃ fu, fuel = fu + 1 := ⟨fuel - 1, by omega⟩
    obtain rfl : i = 25 := by omega
    refine ⟨μ, fun k86 w x2 x3 S => ?_, rfl, fun _ _ _ => rfl, fun x h1 h2 => absurd h2 (by omega)⟩
    rw [L236_s]
    unfold B_Mo_read_236
    rw [if_pos (by decide)]
  | succ d ih =>
    intro i fuel μ hd hi hf
    obtain ⟨fu, rfl⟩ : ∃ fu, fuel = fu + 1 := ⟨fuel - 1, by omega⟩
    obtain ⟨μ', a1, a2, a3, a4⟩ := ih (i + 1) fu (mA μ 12 (25 * s + i) (μ.2 12 (25 * s' + i))) (by omega) (by omega) (by omega)
    refine ⟨μ', fun k86 w x2 x3 S => ?_, a2, fun j x hx => ?_, fun x h1 h2 => ?_⟩
    · rw [L236_s]
      unfold B_Mo_read_236
      rw [if_neg (show ¬ (25 : Int32) ≤ nI i from nI_ge (a := i) (b := 25) (by omega) (by decide))]
      simp only [m_R19, Option.bind_some, nI25]
      rw [m_g12 (by omega)]
      simp only [Option.bind_some]
      rw [m_s12 (by omega)]
      simp only [Option.bind_some, nI_1]
      exact a1 k86 w x2 x3 S
    · rw [a3 j x (fun h => hx ⟨h.1, by omega, by omega⟩), mAm, if_neg (fun h => hx ⟨h.1, by omega, by omega⟩)]
    · by_cases hx : x = i
      · rw [hx, a3 12 _ (fun h => by omega), mA_at]
      · rw [a4 x (by omega) h2, mA_an (by omega)]
theorem M_cp50 {e : Nat} (he : e ≤ 5) : ∀ (d i fuel : Nat) (μ : mS), d = 50 - i → i ≤ 50 → d < fuel → (∀ x, x < 50 → μ.2 3 (300 + x) = 0 ∨ μ.2 3 (300 + x) = 1) → ∃ μ', (∀ w S, L_Mo_read_86 fuel w (nI e) (nI i) (mput w μ S) = L_Mo_read_283 gF w (nI e) 0 (mput w μ' S)) ∧ μ'.1 = μ.1 ∧ (∀ j x, ¬ ((3 ≤ j ∧ j ≤ 11) ∧ 50 * e ≤ x ∧ x < 50 * e + 50) → ¬ (j = 12 ∧ 1250 * e ≤ x ∧ x < 1250 * e + 1250) → μ'.2 j x = μ.2 j x) ∧ (∀ j x, 3 ≤ j → j ≤ 11 → x < 50 → μ'.2 j (50 * e + x) = if i ≤ x then μ.2 j (300 + x) else μ.2 j (50 * e + x)) ∧ ∀ x, x < 1250 → μ'.2 12 (1250 * e + x) = if 25 * i ≤ x then μ.2 12 (7500 + x) else μ.2 12 (1250 * e + x) := by
  intro d
  induction d with
  | zero =>
    intro i fuel μ hd hi hf h01
    obtain ⟨fu, rfl⟩ : ∃ fu, fuel = fu + 1 := ⟨fuel - 1, by omega⟩
    obtain rfl : i = 50 := by omega
    refine ⟨μ, fun w S => ?_, rfl, fun _ _ _ _ => rfl, fun j x h1 h2 h3 => by rw [if_neg (by omega)], fun x h1 => by rw [if_neg (by omega)]⟩
    rw [L86_s]
    unfold B_Mo_read_86
    rw [if_pos (by decide)]
  | succ d ih =>
    intro i fuel μ hd hi hf h01
    obtain ⟨fu, rfl⟩ : ∃ fu, fuel = fu + 1 := ⟨fuel - 1, by omega⟩
    obtain ⟨μ1, b1, b2, b3, b4⟩ := M_cp25 (s := 50 * e + i) (s' := 300 + i) (by omega) (by omega) (by omega) 25 0 gF (cp9 μ (50 * e + i) (300 + i)) rfl (by decide) (by decide)
    have c9 : ∀ j y, y ≠ 50 * e + i → (cp9 μ (50 * e + i) (300 + i)).2 j y = μ.2 j y := fun j y hy => by
      show (if _ then _ else _) = _
      rw [if_neg (fun h => hy h.2.2)]
    have c9j : ∀ j y, ¬ (3 ≤ j ∧ j ≤ 11) → (cp9 μ (50 * e + i) (300 + i)).2 j y = μ.2 j y := fun j y hy => by
      show (if _ then _ else _) = _
      rw [if_neg (fun h => hy ⟨h.1, h.2.1⟩)]
    have c9a : ∀ j, 3 ≤ j → j ≤ 11 → (cp9 μ (50 * e + i) (300 + i)).2 j (50 * e + i) = μ.2 j (300 + i) := fun j h1 h2 => by
      show (if _ then _ else _) = _
      rw [if_pos ⟨h1, h2, rfl⟩]
    obtain ⟨μ', a1, a2, a3, a4, a5⟩ := ih (i + 1) fu μ1 (by omega) (by omega) (by omega) (fun x hx => by rw [b3 3 _ (by omega), c9 3 _ (by omega)]; exact h01 x hx)
    refine ⟨μ', fun w S => ?_, a2.trans b2, fun j x hx hy => ?_, fun j x h1 h2 h3 => ?_, fun x hx => ?_⟩
    · rw [L86_s]
      unfold B_Mo_read_86
      rw [if_neg (show ¬ (50 : Int32) ≤ nI i from nI_ge (a := i) (b := 50) (by omega) (by decide))]
      have hz : gZo (μ.2 3 (300 + i)) = some (μ.2 3 (300 + i)) := by unfold gZo; rw [if_pos (h01 i (by omega))]
      have hn : 300 + i ≠ 50 * e + i := by omega
      simp only [m_R10, m_R11, m_R12, m_R13, m_R14, m_R15, m_R16, m_R17, m_R18, Option.bind_some, nI50, nI300, m_g3 (show 300 + i < 350 by omega), m_g4 (show 300 + i < 350 by omega), m_g5 (show 300 + i < 350 by omega), m_g6 (show 300 + i < 350 by omega), m_g7 (show 300 + i < 350 by omega), m_g8 (show 300 + i < 350 by omega), m_g9 (show 300 + i < 350 by omega), m_g10 (show 300 + i < 350 by omega), m_g11 (show 300 + i < 350 by omega), m_s3 (show 50 * e + i < 350 by omega), m_s4 (show 50 * e + i < 350 by omega), m_s5 (show 50 * e + i < 350 by omega), m_s6 (show 50 * e + i < 350 by omega), m_s7 (show 50 * e + i < 350 by omega), m_s8 (show 50 * e + i < 350 by omega), m_s9 (show 50 * e + i < 350 by omega), m_s10 (show 50 * e + i < 350 by omega), m_s11 (show 50 * e + i < 350 by omega), hz, mAm, hn, and_false, if_false]
      rw [cp9_eq]
      refine (b1 _ w (nI e) (nI i) S).trans ?_
      rw [nI_1]; exact a1 w S
    · rw [a3 j x hx hy, b3 j x (by omega)]
      by_cases hh : x = 50 * e + i
      · exact c9j j x (fun h => hx ⟨h, by omega, by omega⟩)
      · exact c9 j x hh
    · rw [a4 j x h1 h2 h3]
      by_cases hix : i + 1 ≤ x
      · rw [if_pos hix, if_pos (by omega), b3 j _ (by omega), c9 j _ (by omega)]
      · rw [if_neg hix, b3 j _ (by omega)]
        by_cases hx : x = i
        · rw [hx, if_pos (Nat.le_refl _), c9a j h1 h2]
        · rw [if_neg (by omega), c9 j _ (by omega)]
    · rw [a5 x hx]
      by_cases h1 : 25 * (i + 1) ≤ x
      · rw [if_pos h1, if_pos (by omega), b3 12 _ (by omega), c9j 12 _ (by omega)]
      · rw [if_neg h1]
        by_cases h2 : 25 * i ≤ x
        · rw [if_pos h2]
          have := b4 (x - 25 * i) (by omega) (by omega)
          rw [show 25 * (50 * e + i) + (x - 25 * i) = 1250 * e + x by omega, show 25 * (300 + i) + (x - 25 * i) = 7500 + x by omega, c9j 12 _ (by omega)] at this
          exact this
        · rw [if_neg h2, b3 12 _ (by omega), c9j 12 _ (by omega)]
theorem M_cp40 {e : Nat} (he : e ≤ 5) : ∀ (d i fuel : Nat) (μ : mS), d = 40 - i → i ≤ 40 → d < fuel → ∃ μ', (∀ w S, L_Mo_read_283 fuel w (nI e) (nI i) (mput w μ S) = B_Mo_read_283 (L_Mo_read_283 0) w (nI e) 40 (mput w μ' S)) ∧ μ'.1 = μ.1 ∧ (∀ j x, ¬ (j = 14 ∧ 40 * e ≤ x ∧ x < 40 * e + 40) → μ'.2 j x = μ.2 j x) ∧ ∀ x, x < 40 → μ'.2 14 (40 * e + x) = if i ≤ x then μ.2 14 (240 + x) else μ.2 14 (40 * e + x) := by
  intro d
  induction d with
  | zero =>
    intro i fuel μ hd hi hf
    obtain ⟨fu, rfl⟩ : ∃ fu, fuel = fu + 1 := ⟨fuel - 1, by omega⟩
    obtain rfl : i = 40 := by omega
    refine ⟨μ, fun w S => ?_, rfl, fun _ _ _ => rfl, fun x h1 => by rw [if_neg (by omega)]⟩
    rw [L283_s]
    unfold B_Mo_read_283
    rw [if_pos (show (40 : Int32) ≤ nI 40 by decide), if_pos (show (40 : Int32) ≤ 40 by decide)]
  | succ d ih =>
    intro i fuel μ hd hi hf
    obtain ⟨fu, rfl⟩ : ∃ fu, fuel = fu + 1 := ⟨fuel - 1, by omega⟩
    obtain ⟨μ', a1, a2, a3, a4⟩ := ih (i + 1) fu (mA μ 14 (40 * e + i) (μ.2 14 (240 + i))) (by omega) (by omega) (by omega)
    refine ⟨μ', fun w S => ?_, a2, fun j x hx => ?_, fun x hx => ?_⟩
    · rw [L283_s]
      conv => lhs; unfold B_Mo_read_283
      rw [if_neg (show ¬ (40 : Int32) ≤ nI i from nI_ge (a := i) (b := 40) (by omega) (by decide))]
      simp only [m_R21, Option.bind_some, nI240, nI40]
      rw [m_g14 (by omega)]
      simp only [Option.bind_some]
      rw [m_s14 (by omega)]
      simp only [Option.bind_some, nI_1]
      exact a1 w S
    · rw [a3 j x hx, mAm, if_neg (fun h => hx ⟨h.1, by omega, by omega⟩)]
    · rw [a4 x hx]
      by_cases h1 : i + 1 ≤ x
      · rw [if_pos h1, if_pos (by omega), mA_an (by omega)]
      · rw [if_neg h1]
        by_cases h2 : x = i
        · rw [h2, if_pos (Nat.le_refl _), mA_at]
        · rw [if_neg (by omega), mA_an (by omega)]
theorem LpO_s {k : Nat} {a b x : Int32} : L_Mo_plansOf_4 (k + 1) w a b x S = B_Mo_plansOf_4 (L_Mo_plansOf_4 k) w a b x S := rfl
theorem M_plansOf_loop {e : Nat} {E : EV} {μ : mS} (he : e ≤ 6) (h : edIs μ e E) (h0 : E.1 0 = none) : ∀ (d i fuel : Nat), d = 41 - i → 1 ≤ i → i ≤ 41 → d < fuel → ∀ w S, L_Mo_plansOf_4 fuel w (nI e) (nI (cn E.1 i)) (nI i) (mput w μ S) = some (nI (cn E.1 41), mput w μ S) := by
  intro d
  induction d with
  | zero =>
    intro i fuel hd h1 hi hf w S
    obtain ⟨fu, rfl⟩ : ∃ fu, fuel = fu + 1 := ⟨fuel - 1, by omega⟩
    obtain rfl : i = 41 := by omega
    rw [LpO_s]
    unfold B_Mo_plansOf_4
    rw [if_pos (by decide)]
  | succ d ih =>
    intro i fuel hd h1 hi hf w S
    obtain ⟨fu, rfl⟩ : ∃ fu, fuel = fu + 1 := ⟨fuel - 1, by omega⟩
    rw [LpO_s]
    unfold B_Mo_plansOf_4 B_Mo_plansOf_30
    rw [if_neg (show ¬ (40 : Int32) < nI i from nI_nlt (a := 40) (b := i) (by omega) (by decide))]
    simp only [m_R10, Option.bind_some, nI50]
    rw [m_g3 (by omega)]
    simp only [Option.bind_some]
    have st : cn E.1 (i + 1) = cn E.1 i + (if (E.1 i).isSome then 1 else 0) := rfl
    cases hv : E.1 i with
    | none =>
      rw [(h.1 i h1 (by omega)).1 hv, if_pos rfl, nI_1]
      rw [hv] at st
      have := ih (i + 1) fu (by omega) (by omega) (by omega) (by omega) w S
      rw [st] at this
      rw [show nI (cn E.1 i) + 0 = nI (cn E.1 i + 0) from nI_add _ 0]
      exact this
    | some v =>
      rw [((h.1 i h1 (by omega)).2 v hv).1, if_neg (by decide), nI_1, nI_1]
      rw [hv] at st
      have := ih (i + 1) fu (by omega) (by omega) (by omega) (by omega) w S
      rw [st] at this
      exact this
theorem cn_1 {E : EV} (h0 : E.1 0 = none) : cn E.1 1 = 0 := by
  show 0 + (if (E.1 0).isSome then 1 else 0) = 0
  rw [h0]; rfl
theorem M_plansOf {e : Nat} {E : EV} {μ : mS} (he : e ≤ 6) (h : edIs μ e E) (h0 : E.1 0 = none) : ∀ w S, D_Mo_plansOf w (nI e) (mput w μ S) = some (nI (cn E.1 41), mput w μ S) := by
  intro w S
  have := M_plansOf_loop he h h0 40 1 gF rfl (by decide) (by decide) (by decide) w S
  rw [cn_1 h0] at this
  exact this
/-- the whole of it: edition e is slot 6 -/
theorem M_store {e : Nat} {E : EV} {μ : mS} {d : Int32} (he : e ≤ 5) (h : edIs μ 6 E) (ho : evOk E) (h30 : μ.2 3 300 = 0) (h7 : μ.1 7 = nI e) : ∃ μ', (∀ w S, Option.bind (gSI (mput w μ S) (w + 2) 0 (nI e) d) (fun S8 => L_Mo_read_86 gF w (nI e) 0 S8) = some (nI (cn E.1 41), mput w μ' S)) ∧ edIs μ' e E ∧ μ'.2 2 e = d ∧ μ'.1 7 = nI (e + 1) ∧ μ'.1 8 = nI e ∧ (∀ k, k ≠ 7 → k ≠ 8 → μ'.1 k = μ.1 k) ∧ (∀ j x, ¬ (j = 2 ∧ x = e) → ¬ ((3 ≤ j ∧ j ≤ 11) ∧ 50 * e ≤ x ∧ x < 50 * e + 50) → ¬ (j = 12 ∧ 1250 * e ≤ x ∧ x < 1250 * e + 1250) → ¬ (j = 13 ∧ x = e) → ¬ (j = 14 ∧ 40 * e ≤ x ∧ x < 40 * e + 40) → μ'.2 j x = μ.2 j x) := by
  have m0 : ∀ j x, j ≠ 2 → (mA μ 2 e d).2 j x = μ.2 j x := fun j x hj => by rw [mA_n hj]
  have h01 : ∀ x, x < 50 → (mA μ 2 e d).2 3 (300 + x) = 0 ∨ (mA μ 2 e d).2 3 (300 + x) = 1 := by
    intro x hx
    rw [m0 _ _ (by decide)]
    by_cases hx0 : x = 0
    · left; rw [hx0]; exact h30
    by_cases hx1 : x ≤ 40
    · cases hv : E.1 x with
      | none => left; exact (h.1 x (by omega) hx1).1 hv
      | some v => right; exact ((h.1 x (by omega) hx1).2 v hv).1
    · obtain ⟨y, rfl⟩ : ∃ y, x = 40 + y := ⟨x - 40, by omega⟩
      cases hv : E.2.1 y with
      | none => left; rw [show 300 + (40 + y) = 50 * 6 + 40 + y by omega]; exact (h.2.1 y (by omega) (by omega)).1 hv
      | some v => right; rw [show 300 + (40 + y) = 50 * 6 + 40 + y by omega]; exact ((h.2.1 y (by omega) (by omega)).2 v hv).1
  obtain ⟨μ1, a1, a2, a3, a4, a5⟩ := M_cp50 he 50 0 gF (mA μ 2 e d) rfl (by decide) (by decide) h01
  obtain ⟨μ2, b1, b2, b3, b4⟩ := M_cp40 he 40 0 gF μ1 rfl (by decide) (by decide)
  obtain ⟨μ3, hμ3⟩ : ∃ μ3, μ3 = mI (mI (mA μ2 13 e (μ2.2 13 6)) 8 (nI e)) 7 (nI (e + 1)) := ⟨_, rfl⟩
  have c2 : ∀ j x, ¬ (j = 13 ∧ x = e) → μ3.2 j x = μ2.2 j x := fun j x hx => by
    rw [hμ3]; simp only [mI_2]; rw [mAm, if_neg hx]
  have hM : edIs μ3 e E := by
    refine h.mv ⟨fun j x h1 h2 h3 => ?_, fun x hx => ?_, ?_, fun x hx => ?_⟩ ho
    · rw [c2 j _ (by omega), b3 j _ (by omega), a4 j x h1 h2 h3, if_pos (Nat.zero_le _), m0 _ _ (by omega)]
    · rw [c2 12 _ (by omega), b3 12 _ (by omega), a5 x hx, if_pos (by omega), m0 _ _ (by omega)]
    · rw [hμ3]; simp only [mI_2]; rw [mA_at, b3 13 6 (by omega), a3 13 6 (by omega) (by omega), m0 _ _ (by decide)]
    · rw [c2 14 _ (by omega), b4 x hx, if_pos (Nat.zero_le _), a3 14 _ (by omega) (by omega), m0 _ _ (by decide)]
  refine ⟨μ3, fun w S => ?_, hM, ?_, ?_, ?_, fun k k7 k8 => ?_, fun j x h1 h2 h3 h4 h5 => ?_⟩
  · rw [m_s2 (by omega)]
    simp only [Option.bind_some]
    refine (a1 w S).trans ((b1 w S).trans ?_)
    unfold B_Mo_read_283
    rw [if_pos (by decide)]
    simp only [m_R20, Option.bind_some]
    rw [show gAI (mput w μ2 S) (w + 13) 0 6 = some (μ2.2 13 6) from m_g13 (i := 6) (by decide)]
    simp only [Option.bind_some]
    rw [m_s13 (by omega)]
    simp only [Option.bind_some, m_P8, m_I7]
    rw [show (mI (mA μ2 13 e (μ2.2 13 6)) 8 (nI e)).1 7 = nI e by rw [mI_n (by decide), mA_1, b2, a2, mA_1]; exact h7, nI_1]
    simp only [m_P7, Option.bind_some, m_ob]
    rw [← hμ3, M_plansOf (by omega) hM ho.2.2.2.2.1]
    rfl
  · rw [c2 2 e (by omega), b3 2 e (by omega), a3 2 e (by omega) (by omega), mA_at]
  · rw [hμ3, mI_s]
  · rw [hμ3, mI_n (by decide), mI_s]
  · rw [hμ3, mI_n k7, mI_n k8, mA_1, b2, a2, mA_1]
  · rw [c2 j x h4, b3 j x h5, a3 j x h2 h3, mAm, if_neg h1]
end CC
