/-! THE HEAP BY FACTS -/
def ar (S : gS) (a t n : Nat) (g : Nat → Option Nat) : gS := (gup S.1 a (.inl (t, n, .inr (.inr (.inr (.inr g))))), S.2)
section FA
variable {S : gS} {a ci k t n r q : Nat} {fs : List Value} {g : Nat → Option Nat}
theorem e_I {v : Int32} (h : S.1 a = some (.inr (ci, fs))) (hk : fs[k]? = some (.int v)) : gI S a ci k = some v := by
  simp only [gI, h, if_pos, hk]
theorem e_R (h : S.1 a = some (.inr (ci, fs))) (hk : fs[k]? = some (.ref q)) : gRf S a ci k = some (some q) := by
  simp only [gRf, h, if_pos, hk]
theorem e_O (h : S.1 a = some (.inr (ci, fs))) : gOb S a ci = some fs := by
  simp only [gOb, h, if_pos]
theorem e_P {v : Value} (h : S.1 a = some (.inr (ci, fs))) (hk : k < fs.length) : gPut S a ci k v = some (ob S a ci (fs.set k v)) := by
  simp only [gPut, h]
  rw [if_pos ⟨trivial, hk⟩]; rfl
theorem e_AR {i : Nat} (h : S.1 a = some (.inl (t, n, .inr (.inr (.inr (.inr g)))))) (hi : i < n) (hn : n < 2 ^ 31) : gAR S a t (nI i) = some (g i) := by
  simp only [gAR, h]
  rw [if_pos ⟨trivial, nI_in hi hn⟩, nI_clamp (by omega)]
theorem e_SR {i v : Nat} {vs : List Value} (h : S.1 a = some (.inl (t, n, .inr (.inr (.inr (.inr g)))))) (hv : S.1 v = some (.inr (ci, vs))) (hi : i < n) (hn : n < 2 ^ 31) : gSR S a t (nI i) v ci = some (ar S a t n (va_up g i (some v))) := by
  simp only [gSR, h, hv]
  rw [if_pos ⟨trivial, trivial, nI_in hi hn⟩, nI_clamp (by omega)]; rfl
theorem ar_a : (ar S a t n g).1 a = some (.inl (t, n, .inr (.inr (.inr (.inr g))))) := gup_self
theorem ar_n {q : Nat} (h : q ≠ a) : (ar S a t n g).1 q = S.1 q := gup_ne h
theorem rd_ar {tt : Nat} {nn p wr : Int32} (h : a ≠ r) : ar (rd r tt nn p wr S) a t n g = rd r tt nn p wr (ar S a t n g) := by
  refine Prod.ext ?_ rfl
  exact gup_comm (fun e => h e.symm)
theorem gNA_rd {tt : Nat} {nn p wr m : Int32} (hm : m = nI n) (hn : n ≤ 10000) (hr : r < S.2.1) (h : Rm 1 n S) : gNA (rd r tt nn p wr S) t m (.inr (.inr (.inr (.inr g)))) = some (rd r tt nn p wr (ar (nx S n) S.2.1 t n g)) := by
  subst hm
  unfold gNA
  rw [nI_clamp (by omega), if_pos ⟨nI_pos (by omega), hn, h.1, h.2⟩]
  exact congrArg some (rd_ar (S := nx S n) (show S.2.1 ≠ r by omega))
end FA
def GrowI (lo hi k u : Nat) (S S' : gS) : Prop := (∀ q, q < S.2.1 → ¬ (lo ≤ q ∧ q < hi) → S'.1 q = S.1 q) ∧ S.2.1 ≤ S'.2.1 ∧ Fr S' ∧ S'.2.2.1 ≤ S.2.2.1 + k ∧ S'.2.2.2 ≤ S.2.2.2 + u
theorem Grow.gi {lo hi k u : Nat} {S S' : gS} (h : Grow k u S S') : GrowI lo hi k u S S' := ⟨fun q hq _ => h.1 q hq, h.2⟩
theorem GrowI.rf {lo hi : Nat} {S : gS} (h : Fr S) : GrowI lo hi 0 0 S S := (Grow.rf h).gi
theorem GrowI.tr {lo hi k u k' u' : Nat} {S S1 S2 : gS} (h : GrowI lo hi k u S S1) (g : GrowI lo hi k' u' S1 S2) : GrowI lo hi (k + k') (u + u') S S2 := by
  obtain ⟨h1, h2, h3, h4, h5⟩ := h
  obtain ⟨g1, g2, g3, g4, g5⟩ := g
  exact ⟨fun q hq hx => (g1 q (by omega) hx).trans (h1 q hq hx), by omega, g3, by omega, by omega⟩
theorem GrowI.le {lo hi k u k' u' : Nat} {S S1 : gS} (h : GrowI lo hi k u S S1) (hk : k ≤ k') (hu : u ≤ u') : GrowI lo hi k' u' S S1 := by
  obtain ⟨h1, h2, h3, h4, h5⟩ := h
  exact ⟨h1, h2, h3, by omega, by omega⟩
theorem GrowI.kp {lo hi k u : Nat} {S S1 : gS} (h : GrowI lo hi k u S S1) (hF : Fr S) {q : Nat} {e : gE} (hq : S.1 q = some e) (hx : ¬ (lo ≤ q ∧ q < hi)) : S1.1 q = some e := by
  rw [h.1 q (hF.lt hq) hx]; exact hq
theorem Grow.ti {lo hi k u k' u' : Nat} {S S1 S2 : gS} (h : Grow k u S S1) (g : GrowI lo hi k' u' S1 S2) (hl : S.2.1 ≤ lo) : Grow (k + k') (u + u') S S2 := by
  obtain ⟨h1, h2, h3, h4, h5⟩ := h
  obtain ⟨g1, g2, g3, g4, g5⟩ := g
  exact ⟨fun q hq => (g1 q (by omega) (by omega)).trans (h1 q hq), by omega, g3, by omega, by omega⟩
theorem Cx.gi {lo hi r t k u : Nat} {f : Nat → Int32} {S S' : gS} (h : Cx r t f S) (g : GrowI lo hi k u S S') (hr : ¬ (lo ≤ r ∧ r < hi)) (ht : ¬ (lo ≤ t ∧ t < hi)) : Cx r t f S' := by
  obtain ⟨h1, h2, ⟨gg, h3, h4⟩, h5⟩ := h
  have := h5.lt h3
  exact ⟨by rw [g.1 r h2 hr]; exact h1, Nat.lt_of_lt_of_le h2 g.2.1, ⟨gg, by rw [g.1 t this ht]; exact h3, h4⟩, g.2.2.1⟩
theorem Rm.gi {lo hi k u k' u' k2 u2 : Nat} {S S1 : gS} (h : Rm k u S) (g : GrowI lo hi k' u' S S1) (hk : k' + k2 ≤ k) (hu : u' + u2 ≤ u) : Rm k2 u2 S1 := by
  obtain ⟨h1, h2⟩ := h
  obtain ⟨-, -, -, g4, g5⟩ := g
  exact ⟨by omega, by omega⟩
/-- the list of needs at a: c of them, their numbers V -/
def NLat (S : gS) (a c : Nat) (V : Nat → Nat → Int32) : Prop := ∃ g, S.1 a = some (.inr (4, [.ref (a + 1), .int (nI c)])) ∧ S.1 (a + 1) = some (.inl (8, 5, .inr (.inr (.inr (.inr g))))) ∧ ∀ i, i < c → ndOk (V i) ∧ ∃ q, g i = some q ∧ S.1 q = some (.inr (3, NdV (V i)))
def nlLen (V : Nat → Nat → Int32) : Nat → Nat
  | 0 => 0
  | c + 1 => nlLen V c + (1 + ndLen (V c))
theorem nlLen_ext {V W : Nat → Nat → Int32} : ∀ c, (∀ i, i < c → V i = W i) → nlLen V c = nlLen W c
  | 0, _ => rfl
  | c + 1, h => by
    show nlLen V c + (1 + ndLen (V c)) = nlLen W c + (1 + ndLen (W c))
    rw [nlLen_ext c (fun i hi => h i (by omega)), h c (by omega)]
theorem upV {V : Nat → Nat → Int32} {c : Nat} {v : Nat → Int32} : ∃ W : Nat → Nat → Int32, W c = v ∧ ∀ i, i ≠ c → W i = V i := ⟨fun i => if i = c then v else V i, if_pos rfl, fun i hi => if_neg hi⟩
theorem va_ups {g : Nat → Option Nat} {i : Nat} {v : Option Nat} : va_up g i v i = v := by simp [va_up]
theorem va_upn {g : Nat → Option Nat} {i j : Nat} {v : Option Nat} (h : j ≠ i) : va_up g i v j = g j := by simp [va_up, h]
theorem NL_add {r t a c q : Nat} {n p wr : Int32} {T : gS} {V : Nat → Nat → Int32} {v : Nat → Int32} (hF : Fr T) (hr : T.1 r = none) (hL : NLat T a c V) (hc : c < 5) (hq : T.1 q = some (.inr (3, NdV v))) (hv : ndOk v) : ∃ T', D_NL_add a (some q) (rd r t n p wr T) = some (rd r t n p wr T') ∧ (∀ W : Nat → Nat → Int32, W c = v → (∀ i, i ≠ c → W i = V i) → NLat T' a (c + 1) W) ∧ GrowI a (a + 2) 0 0 T T' := by
  obtain ⟨g, h1, h2, h3⟩ := hL
  have na : a ≠ r := fun e => by rw [e, hr] at h1; cases h1
  have na1 : a + 1 ≠ r := fun e => by rw [e, hr] at h2; cases h2
  have nq : q ≠ r := fun e => by rw [e, hr] at hq; cases hq
  have k1 : (rd r t n p wr T).1 a = some (.inr (4, [.ref (a + 1), .int (nI c)])) := by rw [rd_ne na]; exact h1
  have k2 : (rd r t n p wr T).1 (a + 1) = some (.inl (8, 5, .inr (.inr (.inr (.inr g))))) := by rw [rd_ne na1]; exact h2
  have kq : (rd r t n p wr T).1 q = some (.inr (3, NdV v)) := by rw [rd_ne nq]; exact hq
  have k3 : (ar (rd r t n p wr T) (a + 1) 8 5 (va_up g c (some q))).1 a = some (.inr (4, [.ref (a + 1), .int (nI c)])) := by rw [ar_n (by omega)]; exact k1
  refine ⟨ob (ar T (a + 1) 8 5 (va_up g c (some q))) a 4 [.ref (a + 1), .int (nI (c + 1))], ?_, fun W hW hW2 => ⟨va_up g c (some q), ob_a, by rw [ob_n (by omega), ar_a], fun i hi => ?_⟩, ⟨fun x hx hn => ?_, Nat.le_refl _, fun x hx => ?_, Nat.le_refl _, Nat.le_refl _⟩⟩
  · unfold D_NL_add B_NL_add_28
    simp only [e_I k1 (k := 1) (v := nI c) rfl, e_R k1 (k := 0) (q := a + 1) rfl, Option.bind_some]
    rw [if_neg (show ¬ (5 : Int32) ≤ nI c from nI_ge (a := c) (b := 5) hc (by decide)), e_SR k2 kq hc (by decide)]
    simp only [Option.bind_some]
    rw [e_I k3 (k := 1) (v := nI c) rfl]
    simp only [Option.bind_some]
    rw [e_P k3 (Nat.le_of_ble_eq_true rfl)]
    simp only [Option.bind_some, nI_1]
    show some (ob (ar (rd r t n p wr T) (a + 1) 8 5 (va_up g c (some q))) a 4 [.ref (a + 1), .int (nI (c + 1))]) = _
    rw [rd_ar na1, rd_ob2 na]
  · by_cases hic : i = c
    · subst hic
      refine ⟨by rw [hW]; exact hv, q, va_ups, ?_⟩
      have q1 : q ≠ a := fun e => by rw [e, h1] at hq; cases hq
      have q2 : q ≠ a + 1 := fun e => by rw [e, h2] at hq; cases hq
      rw [ob_n q1, ar_n q2, hW]; exact hq
    · obtain ⟨m1, q', m2, m3⟩ := h3 i (by omega)
      refine ⟨by rw [hW2 i hic]; exact m1, q', by rw [va_upn hic]; exact m2, ?_⟩
      have q1 : q' ≠ a := fun e => by rw [e, h1] at m3; cases m3
      have q2 : q' ≠ a + 1 := fun e => by rw [e, h2] at m3; cases m3
      rw [ob_n q1, ar_n q2, hW2 i hic]; exact m3
  · rw [ob_n (by omega), ar_n (by omega)]
  · have l1 := hF.lt h1
    have l2 := hF.lt h2
    have : T.2.1 ≤ x := hx
    rw [ob_n (by omega), ar_n (by omega)]
    exact hF x this
