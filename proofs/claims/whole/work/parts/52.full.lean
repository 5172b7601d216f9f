/-! THE LAW'S STATE: the class's cells, the reference's cells, the rest T -/
def Full (z : Nat) (χ : cS) (μ : mS) (T : gS) : gS := cput z χ (mput (z + 12) μ T)
def lf3 : gE → Bool
  | .inr (c, _) => c == 1 || c == 2 || c == 3 || c == 4 || c == 5 || c == 8 || c == 9
  | .inl (t, _) => t == 5 || t == 6 || t == 7 || t == 8
def TOk (z : Nat) (T : gS) : Prop := z + 30 ≤ T.2.1 ∧ (∀ q, q < z + 29 → T.1 q = none) ∧ Fr T ∧ ∃ g, T.1 (z + 29) = some (.inl (1, 1, .inr (.inl g)))
def E0 : EV := ((fun _ => none), (fun _ => none), 0, fun _ _ => 0)
section FU
variable {z : Nat} {χ χ' : cS} {μ μ' : mS} {T T' : gS}
theorem F_hi {q : Nat} (h : z + 29 ≤ q) : (Full z χ μ T).1 q = T.1 q := by
  unfold Full
  rw [cput_ne (by omega), mput_ne (by omega)]
theorem F_lo {q : Nat} (h : q < z) : (Full z χ μ T).1 q = T.1 q := by
  unfold Full
  rw [cput_ne (by omega), mput_ne (by omega)]
theorem F_2 : (Full z χ μ T).2 = T.2 := rfl
theorem F_fr (h : TOk z T) : Fr (Full z χ μ T) := fun q hq => by
  have : T.2.1 ≤ q := hq
  rw [F_hi (by have := h.1; omega)]; exact h.2.2.1 q this
theorem F_gup {a : Nat} {e : gE} (h : z + 29 ≤ a) : ((gup (Full z χ μ T).1 a e, (Full z χ μ T).2) : gS) = Full z χ μ (gup T.1 a e, T.2) := by
  refine Prod.ext ?_ rfl
  funext q
  show gup (Full z χ μ T).1 a e q = (Full z χ μ (gup T.1 a e, T.2)).1 q
  by_cases hq : q = a
  · subst hq; rw [gup_self, F_hi h]; exact gup_self.symm
  · rw [gup_ne hq]
    by_cases h1 : z + 29 ≤ q
    · rw [F_hi h1, F_hi h1]; exact (gup_ne hq).symm
    · unfold Full
      by_cases h2 : q < z ∨ z + 12 ≤ q
      · rw [cput_ne h2, cput_ne h2]
        by_cases h3 : q < z + 12 ∨ z + 12 + 17 ≤ q
        · rw [mput_ne h3, mput_ne h3]; exact (gup_ne hq).symm
        · obtain ⟨d, rfl⟩ : ∃ d, q = z + 12 + d := ⟨q - (z + 12), by omega⟩
          by_cases hd : d = 0
          · subst hd; rw [Nat.add_zero, mput_0, mput_0]
          · rw [mput_j (by omega) (by omega), mput_j (by omega) (by omega)]
      · obtain ⟨d, rfl⟩ : ∃ d, q = z + d := ⟨q - z, by omega⟩
        rw [cput_j (by omega), cput_j (by omega)]
theorem F_ob {a ci : Nat} {fs : List Value} (h : z + 29 ≤ a) : ob (Full z χ μ T) a ci fs = Full z χ μ (ob T a ci fs) := F_gup h
theorem F_rd {r t : Nat} {n p wr : Int32} (h : z + 29 ≤ r) : rd r t n p wr (Full z χ μ T) = Full z χ μ (rd r t n p wr T) := F_gup h
theorem F_ar {a t n : Nat} {g : Nat → Option Nat} (h : z + 29 ≤ a) : ar (Full z χ μ T) a t n g = Full z χ μ (ar T a t n g) := F_gup h
theorem F_nx {l : Nat} : nx (Full z χ μ T) l = Full z χ μ (nx T l) := rfl
theorem F_th : gTh (Full z χ μ T) = Full z χ μ (gTh T) := rfl
/-- what a growth leaves of the fixed cells -/
theorem F_grow {lo hi k u : Nat} {S1 : gS} (h : TOk z T) (hl : z + 29 ≤ lo) (g : GrowI lo hi k u (Full z χ μ T) S1) : ∃ T1, S1 = Full z χ μ T1 ∧ GrowI lo hi k u T T1 ∧ ∀ q, q < z + 29 → T1.1 q = none := by
  have hn : (Full z χ μ T).2.1 = T.2.1 := rfl
  refine ⟨((fun q => if q < z + 29 then none else S1.1 q), S1.2), ?_, ⟨fun q hq hx => ?_, g.2.1, fun q hq => ?_, g.2.2.2.1, g.2.2.2.2⟩, fun q hq => if_pos hq⟩
  · refine Prod.ext ?_ rfl
    funext q
    by_cases h1 : z + 29 ≤ q
    · rw [F_hi h1]; show _ = if _ then _ else _; rw [if_neg (by omega)]
    · rw [g.1 q (by rw [hn]; have := h.1; omega) (by omega)]
      by_cases h0 : q < z
      · rw [F_lo h0, F_lo h0, h.2.1 q (by omega)]; show _ = if _ then _ else _; rw [if_pos (by omega)]
      · unfold Full
        by_cases h2 : z + 12 ≤ q
        · rw [cput_ne (by omega), cput_ne (by omega)]
          obtain ⟨d, rfl⟩ : ∃ d, q = z + 12 + d := ⟨q - (z + 12), by omega⟩
          by_cases hd : d = 0
          · subst hd; rw [Nat.add_zero, mput_0, mput_0]
          · rw [mput_j (by omega) (by omega), mput_j (by omega) (by omega)]
        · obtain ⟨d, rfl⟩ : ∃ d, q = z + d := ⟨q - z, by omega⟩
          rw [cput_j (by omega), cput_j (by omega)]
  · show (if _ then _ else _) = _
    by_cases h1 : q < z + 29
    · rw [if_pos h1, h.2.1 q h1]
    · rw [if_neg h1, g.1 q hq hx, F_hi (by omega)]
  · show (if _ then _ else _) = _
    have : S1.2.1 ≤ q := hq
    by_cases h1 : q < z + 29
    · rw [if_pos h1]
    · rw [if_neg h1]; exact g.2.2.1 q this
/-- cells that editions are made of are kept -/
theorem F_kp (h : TOk z T) (g : ∀ q x, z + 29 ≤ q → T.1 q = some x → lf3 x = true → T'.1 q = some x) : Kp lf3 (Full z χ μ T) (Full z χ' μ' T') := by
  intro q x hq hx
  by_cases h1 : z + 29 ≤ q
  · rw [F_hi h1] at hq ⊢; exact g q x h1 hq hx
  · by_cases h0 : q < z
    · rw [F_lo h0, h.2.1 q (by omega)] at hq; cases hq
    · unfold Full at hq ⊢
      by_cases h2 : z + 12 ≤ q
      · rw [cput_ne (by omega)] at hq
        obtain ⟨d, rfl⟩ : ∃ d, q = z + 12 + d := ⟨q - (z + 12), by omega⟩
        by_cases hd : d = 0
        · subst hd; rw [Nat.add_zero, mput_0] at hq; cases hq; cases hx
        · rw [mput_j (by omega) (by omega)] at hq; cases hq
          have : mkd d = 0 ∨ mkd d = 3 := by unfold mkd; split <;> simp
          rcases this with e | e
          · simp only [lf3, e] at hx; cases hx
          · simp only [lf3, e] at hx; cases hx
      · obtain ⟨d, rfl⟩ : ∃ d, q = z + d := ⟨q - z, by omega⟩
        rw [cput_j (by omega)] at hq ⊢
        rw [← hq]
        cases hq
        rcases (show d = 0 ∨ d = 1 ∨ d = 2 ∨ d = 3 ∨ d = 4 ∨ d = 5 ∨ d = 6 ∨ d = 7 ∨ d = 8 ∨ d = 9 ∨ d = 10 ∨ d = 11 by omega) with rfl | rfl | rfl | rfl | rfl | rfl | rfl | rfl | rfl | rfl | rfl | rfl <;> first | rfl | (cases hx)
end FU
theorem Kp.l3 {S S' : gS} (h : Kp lf3 S S') : Kp lf2 S S' := fun q e hq hp => h q e hq (by
  revert hp
  cases e with
  | inl x => simp only [lf2, lf3, Bool.or_eq_true]; intro hp; exact Or.inr hp
  | inr x => simp only [lf2, lf3, Bool.or_eq_true]; intro hp; rcases hp with ((((a | a) | a) | a) | a) | a <;> simp [a])
theorem EdF.k3 {S S' : gS} {e ns : Nat} {d np nd : Int32} {gp gd gs : Nat → Option Nat} (h : EdF S e d gp gd gs np nd ns) (g : Kp lf3 S S') : EdF S' e d gp gd gs np nd ns := ⟨g _ _ h.1 rfl, g _ _ h.2.1 rfl, g _ _ h.2.2.1 rfl, g _ _ h.2.2.2 rfl⟩
theorem EdAt.k3 {S S' : gS} {e : Nat} {d : Int32} {E : EV} (h : EdAt S e d E) (g : Kp lf3 S S') : EdAt S' e d E := by
  obtain ⟨gp, gd, gs, h1, h2, h3, h4, h5⟩ := h
  exact ⟨gp, gd, gs, h1.k3 g, h2.kk g.l3, h3.kk g.l3, h4.kk g.l3, h5⟩
theorem sm_0 {g : Nat → Nat} : ∀ n, (∀ i, i < n → g i = 0) → sm g n = 0
  | 0, _ => rfl
  | n + 1, h => by
    show sm g n + g n = 0
    rw [sm_0 n (fun i hi => h i (by omega)), h n (by omega)]
theorem E0_c1 : cn E0.1 41 = 0 := sm_0 41 (fun _ _ => rfl)
theorem E0_c2 : cn E0.2.1 10 = 0 := sm_0 10 (fun _ _ => rfl)
theorem E0_len : edLen E0 = 0 := by
  show sm (pls E0) 41 + sm (dfs E0) 10 + 0 = 0
  rw [sm_0 (g := pls E0) 41 (fun _ _ => rfl), sm_0 (g := dfs E0) 10 (fun _ _ => rfl)]
theorem E0_at {S : gS} {e : Nat} {d : Int32} (h : EdF S e d (fun _ => none) (fun _ => none) (fun _ => none) 0 0 0) : EdAt S e d E0 := by
  refine ⟨fun _ => none, fun _ => none, fun _ => none, ?_, fun k _ => ⟨fun _ => rfl, fun v hv => by cases hv⟩, fun k _ => ⟨fun _ => rfl, fun v hv => by cases hv⟩, fun i hi => absurd hi (by show ¬ i < 0; omega), by show 0 ≤ 8; omega, rfl, rfl⟩
  rw [E0_c1, E0_c2]; exact h
theorem F_no {z : Nat} {χ : cS} {μ : mS} {T : gS} : EdAt (Full z χ μ T) (z + 4) (-1) E0 := E0_at ⟨cput_j (j := 4) (by decide), cput_j (j := 5) (by decide), cput_j (j := 6) (by decide), cput_j (j := 7) (by decide)⟩
theorem F_nn {z : Nat} {χ : cS} {μ : mS} {T : gS} {V : Nat → Nat → Int32} : NLat (Full z χ μ T) (z + 8) 0 V := ⟨_, cput_j (j := 8) (by decide), cput_j (j := 9) (by decide), fun i hi => absurd hi (by omega)⟩
