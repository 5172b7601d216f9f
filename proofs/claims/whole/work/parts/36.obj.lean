/-! NEW OBJECTS; ONE NEED -/
def ob (S : gS) (a ci : Nat) (fs : List Value) : gS := (gup S.1 a (.inr (ci, fs)), S.2)
def nx (S : gS) (l : Nat) : gS := (S.1, S.2.1 + 1, S.2.2.1 + 1, S.2.2.2 + l)
def Rm (k u : Nat) (S : gS) : Prop := S.2.2.1 + k ≤ gC ∧ S.2.2.2 + u ≤ gU
def Fr (S : gS) : Prop := ∀ q, S.2.1 ≤ q → S.1 q = none
def Grow (k u : Nat) (S S' : gS) : Prop := (∀ q, q < S.2.1 → S'.1 q = S.1 q) ∧ S.2.1 ≤ S'.2.1 ∧ Fr S' ∧ S'.2.2.1 ≤ S.2.2.1 + k ∧ S'.2.2.2 ≤ S.2.2.2 + u
def Cx (r t : Nat) (f : Nat → Int32) (S : gS) : Prop := S.1 r = none ∧ r < S.2.1 ∧ tapeAt t f S ∧ Fr S
theorem Fr.lt {S : gS} (h : Fr S) {q : Nat} {e : gE} (hq : S.1 q = some e) : q < S.2.1 := by
  by_cases hh : q < S.2.1
  · exact hh
  · rw [h q (by omega)] at hq; cases hq
theorem gup_comm {G : Nat → Option gE} {a b : Nat} {e e' : gE} (h : a ≠ b) : gup (gup G a e) b e' = gup (gup G b e') a e := by
  funext q
  unfold gup
  by_cases h1 : q = b
  · subst h1
    rw [if_pos rfl, if_neg (fun e => h e.symm), if_pos rfl]
  · rw [if_neg h1, if_neg h1]
theorem gNw_ob {S : gS} {ci l : Nat} {fs : List Value} (hl : fs.length = l) (h : Rm 1 l S) : gNw S ci fs = some (ob (nx S l) S.2.1 ci fs) := by
  subst hl; unfold gNw; exact if_pos h
theorem ob_a {S : gS} {a ci : Nat} {fs : List Value} : (ob S a ci fs).1 a = some (.inr (ci, fs)) := gup_self
theorem ob_n {S : gS} {a ci q : Nat} {fs : List Value} (h : q ≠ a) : (ob S a ci fs).1 q = S.1 q := gup_ne h
theorem ob_put {S : gS} {a ci k : Nat} {fs : List Value} {v : Value} (hk : k < fs.length) : gPut (ob S a ci fs) a ci k v = some (ob S a ci (fs.set k v)) := by
  simp only [gPut, ob_a]
  rw [if_pos ⟨trivial, hk⟩]
  show some ((gup (gup S.1 a _) a _, S.2) : gS) = _
  rw [gup_gup]; rfl
theorem rd_ob2 {r t a ci : Nat} {n p wr : Int32} {S : gS} {fs : List Value} (h : a ≠ r) : ob (rd r t n p wr S) a ci fs = rd r t n p wr (ob S a ci fs) := by
  refine Prod.ext ?_ rfl
  exact gup_comm (fun e => h e.symm)
theorem rd_nx {r t l : Nat} {n p wr : Int32} {S : gS} : nx (rd r t n p wr S) l = rd r t n p wr (nx S l) := rfl
theorem gNw_rd {r t ci l : Nat} {n p wr : Int32} {S : gS} {fs : List Value} (hl : fs.length = l) (hr : r < S.2.1) (h : Rm 1 l S) : gNw (rd r t n p wr S) ci fs = some (rd r t n p wr (ob (nx S l) S.2.1 ci fs)) := by
  rw [gNw_ob hl (show Rm 1 l (rd r t n p wr S) from h), rd_nx]
  exact congrArg some (rd_ob2 (show S.2.1 ≠ r by omega))
theorem rd_put {r t a ci k : Nat} {n p wr : Int32} {S : gS} {fs : List Value} {v : Value} (ha : a ≠ r) (hk : k < fs.length) : gPut (rd r t n p wr (ob S a ci fs)) a ci k v = some (rd r t n p wr (ob S a ci (fs.set k v))) := by
  rw [← rd_ob2 ha, ob_put hk, rd_ob2 ha]
theorem Cx.ne {r t : Nat} {f : Nat → Int32} {S : gS} (h : Cx r t f S) : t ≠ r := fun e => by
  obtain ⟨h1, -, ⟨g, h2, -⟩, -⟩ := h
  rw [e, h1] at h2; cases h2
theorem Cx.tp {r t : Nat} {f : Nat → Int32} {S : gS} (h : Cx r t f S) : tapeAt t f S := h.2.2.1
theorem Cx.fr {r t : Nat} {f : Nat → Int32} {S : gS} (h : Cx r t f S) : Fr S := h.2.2.2
theorem Cx.ner {r t : Nat} {f : Nat → Int32} {S : gS} (h : Cx r t f S) {q : Nat} {e : gE} (hq : S.1 q = some e) : q ≠ r := fun e => by
  rw [e, h.1] at hq; cases hq
theorem Cx.grow {r t k u : Nat} {f : Nat → Int32} {S S' : gS} (h : Cx r t f S) (g : Grow k u S S') : Cx r t f S' := by
  obtain ⟨h1, h2, ⟨gg, h3, h4⟩, h5⟩ := h
  have := h5.lt h3
  exact ⟨by rw [g.1 r h2]; exact h1, Nat.lt_of_lt_of_le h2 g.2.1, ⟨gg, by rw [g.1 t this]; exact h3, h4⟩, g.2.2.1⟩
theorem Grow.rf {S : gS} (h : Fr S) : Grow 0 0 S S := ⟨fun _ _ => rfl, Nat.le_refl _, h, Nat.le_refl _, Nat.le_refl _⟩
theorem Grow.tr {k u k' u' : Nat} {S S1 S2 : gS} (h : Grow k u S S1) (g : Grow k' u' S1 S2) : Grow (k + k') (u + u') S S2 := by
  obtain ⟨h1, h2, h3, h4, h5⟩ := h
  obtain ⟨g1, g2, g3, g4, g5⟩ := g
  exact ⟨fun q hq => (g1 q (by omega)).trans (h1 q hq), by omega, g3, by omega, by omega⟩
theorem Grow.le {k u k' u' : Nat} {S S1 : gS} (h : Grow k u S S1) (hk : k ≤ k') (hu : u ≤ u') : Grow k' u' S S1 := by
  obtain ⟨h1, h2, h3, h4, h5⟩ := h
  exact ⟨h1, h2, h3, by omega, by omega⟩
theorem Grow.kp {k u : Nat} {S S1 : gS} (h : Grow k u S S1) (hF : Fr S) {q : Nat} {e : gE} (hq : S.1 q = some e) : S1.1 q = some e := by
  rw [h.1 q (hF.lt hq)]; exact hq
theorem Grow.new {S : gS} {l ci : Nat} {fs : List Value} (h : Fr S) : Grow 1 l S (ob (nx S l) S.2.1 ci fs) := by
  refine ⟨fun q hq => ob_n (by omega), Nat.le_succ _, fun q hq => ?_, Nat.le_refl _, Nat.le_refl _⟩
  have : S.2.1 + 1 ≤ q := hq
  rw [ob_n (by omega)]
  exact h q (by omega)
theorem Rm.gr {k u k' u' k2 u2 : Nat} {S S1 : gS} (h : Rm k u S) (g : Grow k' u' S S1) (hk : k' + k2 ≤ k) (hu : u' + u2 ≤ u) : Rm k2 u2 S1 := by
  obtain ⟨h1, h2⟩ := h
  obtain ⟨-, -, -, g4, g5⟩ := g
  exact ⟨by omega, by omega⟩
theorem Rm.le {k u k2 u2 : Nat} {S : gS} (h : Rm k u S) (hk : k2 ≤ k) (hu : u2 ≤ u) : Rm k2 u2 S := by
  obtain ⟨h1, h2⟩ := h
  exact ⟨by omega, by omega⟩
def NdV (v : Nat → Int32) : List Value := [.int (v 0), .int (v 1), .int (v 2), .int (v 3), .int (v 4)]
theorem mkNd {r t : Nat} {n p wr a b c d e : Int32} {S : gS} (hr : r < S.2.1) (hR : Rm 1 5 S) : B_Rd_readNeed_78 a b c d e (rd r t n p wr S) = some (some S.2.1, rd r t n p wr (ob (nx S 5) S.2.1 3 [.int a, .int b, .int c, .int d, .int e])) := by
  have ha : S.2.1 ≠ r := by omega
  unfold B_Rd_readNeed_78 D_Nd_init
  rw [gNw_rd (l := 5) rfl hr hR]
  simp only [Option.bind_some, rd_2, rd_put ha, List.length, List.set, Nat.reduceAdd, Nat.reduceLT]
/-- only what lies in X, and the reading's own numbers, may differ -/
def mOnly (X : Nat → Nat → Prop) (μ μ' : mS) : Prop := ((∀ k, k ≠ 4 → k ≠ 5 → k ≠ 6 → μ'.1 k = μ.1 k) ∧ (μ'.1 5 = 0 → μ.1 5 = 0 ∧ μ'.1 6 = μ.1 6)) ∧ ∀ j i, ¬ X j i → μ'.2 j i = μ.2 j i
theorem mSame.on {X : Nat → Nat → Prop} {μ μ' : mS} (h : mSame μ μ') : mOnly X μ μ' := ⟨h.2, fun j i _ => by rw [h.1]⟩
theorem mOnly.tr {X : Nat → Nat → Prop} {a b c : mS} (h : mOnly X a b) (g : mOnly X b c) : mOnly X a c := ⟨⟨fun k h1 h2 h3 => (g.1.1 k h1 h2 h3).trans (h.1.1 k h1 h2 h3), fun e => ⟨(h.1.2 (g.1.2 e).1).1, (g.1.2 e).2.trans (h.1.2 (g.1.2 e).1).2⟩⟩, fun j i hx => (g.2 j i hx).trans (h.2 j i hx)⟩
theorem mOnly.mo {X Y : Nat → Nat → Prop} {a b : mS} (h : mOnly X a b) (g : ∀ j i, X j i → Y j i) : mOnly Y a b := ⟨h.1, fun j i hx => h.2 j i (fun hh => hx (g j i hh))⟩
theorem mOnly.wr {X : Nat → Nat → Prop} {μ : mS} {j i : Nat} {v : Int32} (h : X j i) : mOnly X μ (mA μ j i v) := by
  refine ⟨⟨fun _ _ _ _ => rfl, fun e => ⟨e, rfl⟩⟩, fun j' i' hx => ?_⟩
  by_cases hj : j' = j
  · subst hj
    rw [mA_s]
    exact pk_un (fun e => hx (by rw [e]; exact h))
  · rw [mA_n hj]
theorem mA_at {μ : mS} {j i : Nat} {v : Int32} : (mA μ j i v).2 j i = v := by rw [mA_s]; exact pk_us
theorem mA_an {μ : mS} {j i i' : Nat} {v : Int32} (h : i' ≠ i) : (mA μ j i v).2 j i' = μ.2 j i' := by rw [mA_s]; exact pk_un h
def okL (l : Int32) : Prop := l = -1 ∨ rng l 1 99 = true
def limLen (l : Int32) : Nat := if 0 < l then 1 + nlen l else 0
section ND
variable {f : Nat → Int32} {N B r t n : Nat} {p wr : Int32} {μ : mS} {S : gS}
theorem S_need_tail (hN : N ≤ 400) (hB : 400 ≤ B) (hB' : B ≤ 5000) (h : Sim f N B p wr μ) (hC : Cx r t f S) (hR : Rm 1 5 S) (hn : n + 4 < 8750) (h4 : μ.2 12 (n + 4) = -1) {x1 x2 x3 x4 : Int32} : ∃ l p' wr' μ', B_Rd_readNeed_58 r x1 x2 x3 x4 (rd r t (nI N) p wr S) = some (some S.2.1, rd r t (nI N) p' wr' (ob (nx S 5) S.2.1 3 [.int x1, .int x2, .int x3, .int x4, .int l])) ∧ (∀ w S', B_Mo_oneNeed_138 w (nI n) (mput w μ S') = some (mput w μ' S')) ∧ Sim f N B p' wr' μ' ∧ mOnly (fun j i => j = 12 ∧ i = n + 4) μ μ' ∧ Adv (limLen l) p wr p' wr' ∧ okL l ∧ (wr' = -1 → μ'.2 12 (n + 4) = l) := by
  obtain ⟨v, p1, μ1, a1, a2, a3, a4, a5, a6⟩ := S_takes (x := 126) hN hB' h hC.ne hC.tp (by decide)
  cases v with
  | false =>
    refine ⟨-1, p1, wr, μ1, ?_, fun w S' => ?_, a3, a4.on, a5, Or.inl rfl, fun _ => by rw [a4.1]; exact h4⟩
    · unfold B_Rd_readNeed_58
      simp only [rd_ob, Option.bind_some, a1, gB2_some]
      rw [if_pos (by decide), mkNd hC.2.1 hR]
    · unfold B_Mo_oneNeed_138 B_Mo_oneNeed_162
      simp only [m_ob, Option.bind_some, a2 w S', gB2_some]
      rw [if_pos (by decide)]
  | true =>
    obtain ⟨l, p2, wr2, l', μ2, b1, b2, b3, b4, b5, b6, b7⟩ := S_number (a := 1) (b := 99) hN hB hB' a3 hC.ne hC.tp (Or.inr (by decide)) (by decide)
    have hl : 0 < l := by
      rw [rng_spec] at b5
      have := b5.1
      rw [Int32.le_iff_toInt_le] at this
      rw [Int32.lt_iff_toInt_lt]
      exact this
    refine ⟨l, p2, wr2, mA μ2 12 (n + 4) l', ?_, fun w S' => ?_, b3.mA (by decide), (a4.on.tr b4.on).tr (mOnly.wr ⟨rfl, rfl⟩), ?_, Or.inr b5, fun e => by rw [mA_at]; exact b7 e⟩
    · unfold B_Rd_readNeed_58
      simp only [rd_ob, Option.bind_some, a1, b1, gB2_some]
      rw [if_neg (by decide), mkNd hC.2.1 hR]
    · unfold B_Mo_oneNeed_138 B_Mo_oneNeed_162
      simp only [m_ob, Option.bind_some, a2 w S', b2 w S', gB2_some, m_R19]
      rw [if_neg (by decide), nI_p4, m_s12 hn]
      rfl
    · unfold limLen
      rw [if_pos hl]
      exact a5.tr b6
end ND
