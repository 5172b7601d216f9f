/-! THE NEEDS OF A ROW, BY BOTH -/
def mMore (k20 : Nat → Int32 → Int32 → gS → Option gS) (x0 : Nat) (x1 : Int32) (S10 : gS) : Option gS :=
  Option.bind (gI S10 x0 10 5) (fun v11 => (if v11 = 0 then Option.bind (gRf S10 x0 10 18) (fun r13 => Option.bind r13 (fun a14 => Option.bind (gAI S10 a14 0 x1) (fun v15 => (if 5 ≤ v15 then B_Mo_needsOf_81 k20 x0 x1 S10 else Option.bind (gOb S10 x0 10) (fun _ => gB2 (D_Mo_goesOn x0 44 S10) (fun v18 S17 => (if v18 = 0 then B_Mo_needsOf_81 k20 x0 x1 S17 else B_Mo_needsOf_82 k20 x0 x1 1 S17))))))) else B_Mo_needsOf_81 k20 x0 x1 S10))
theorem M_needs_20 {k20 : Nat → Int32 → Int32 → gS → Option gS} {x0 : Nat} {x1 x2 : Int32} {S : gS} : B_Mo_needsOf_20 k20 x0 x1 x2 S = (if x2 = 0 then some S else Option.bind (gRf S x0 10 18) (fun r2 => Option.bind r2 (fun a3 => Option.bind (gAI S a3 0 x1) (fun v4 => Option.bind (gOb S x0 10) (fun _ => Option.bind (D_Mo_oneNeed x0 ((25 * x1) + (5 * v4)) S) (fun S5 => Option.bind (gRf S5 x0 10 18) (fun r7 => Option.bind r7 (fun a8 => Option.bind (gAI S5 a8 0 x1) (fun v9 => Option.bind (gSI S5 a8 0 x1 (v9 + 1)) (fun S10 => mMore k20 x0 x1 S10)))))))))) := rfl
theorem L20_s {k w : Nat} {x y : Int32} {S : gS} : L_Mo_needsOf_20 (k + 1) w x y S = B_Mo_needsOf_20 (L_Mo_needsOf_20 k) w x y S := rfl
theorem L18_s {k r a : Nat} {y : Int32} {S : gS} : L_Rd_readNeeds_18 (k + 1) r a y S = B_Rd_readNeeds_18 (L_Rd_readNeeds_18 k) r a y S := rfl
/-- the numbers of the needs of slot s -/
def XS (s : Nat) (j i : Nat) : Prop := (j = 11 ∧ i = s) ∨ (j = 12 ∧ 25 * s ≤ i ∧ i < 25 * s + 25)
def ndIs (μ : mS) (s c : Nat) (V : Nat → Nat → Int32) : Prop := μ.2 11 s = nI c ∧ ∀ i, i < c → ∀ k, k < 5 → μ.2 12 (25 * s + 5 * i + k) = V i k
section NS
variable {f : Nat → Int32} {N B r t s a : Nat}
theorem tape_ni {T : gS} {c : Nat} {V : Nat → Nat → Int32} (hC : Cx r t f T) (hL : NLat T a c V) : ¬ (a ≤ r ∧ r < a + 2) ∧ ¬ (a ≤ t ∧ t < a + 2) := by
  obtain ⟨g, h1, h2, -⟩ := hL
  have e1 := hC.ner h1
  have e2 := hC.ner h2
  obtain ⟨gg, h3, -⟩ := hC.tp
  refine ⟨fun h => ?_, fun h => ?_⟩
  · rcases (show r = a ∨ r = a + 1 by omega) with e | e
    · exact e1 e.symm
    · exact e2 e.symm
  · rcases (show t = a ∨ t = a + 1 by omega) with e | e
    · rw [e, h1] at h3; cases h3
    · rw [e, h2] at h3; cases h3
theorem NLat.gr {T T' : gS} {c k u : Nat} {V : Nat → Nat → Int32} (h : NLat T a c V) (hF : Fr T) (g : Grow k u T T') : NLat T' a c V := by
  obtain ⟨gg, h1, h2, h3⟩ := h
  refine ⟨gg, g.kp hF h1, g.kp hF h2, fun i hi => ?_⟩
  obtain ⟨m1, q, m2, m3⟩ := h3 i hi
  exact ⟨m1, q, m2, g.kp hF m3⟩
theorem S_more (hN : N ≤ 400) (hB : 400 ≤ B) (hB' : B ≤ 5000) (hs : s < 350) : ∀ (d c fuel fuel' : Nat) (p wr : Int32) (μ : mS) (T : gS) (V : Nat → Nat → Int32), d = 5 - c → 1 ≤ c → c ≤ 5 → d < fuel → d < fuel' → Sim f N B p wr μ → Cx r t f T → Rm d (5 * d) T → NLat T a c V → (wr = -1 → ndIs μ s c V) →
    ∃ c' V' p' wr' μ' T', L_Rd_readNeeds_18 fuel r a (nI c) (rd r t (nI N) p wr T) = some (some a, rd r t (nI N) p' wr' T') ∧ (∀ w S', mMore (L_Mo_needsOf_20 fuel') w (nI s) (mput w μ S') = some (mput w μ' S')) ∧ Sim f N B p' wr' μ' ∧ GrowI a (a + 2) d (5 * d) T T' ∧ NLat T' a c' V' ∧ c ≤ c' ∧ c' ≤ 5 ∧ mOnly (XS s) μ μ' ∧ (∃ l, Adv l p wr p' wr' ∧ nlLen V' c' = nlLen V c + l) ∧ (wr' = -1 → ndIs μ' s c' V') := by
  intro d
  induction d with
  | zero =>
    intro c fuel fuel' p wr μ T V hd h1 h5 hf hf' h hC hR hL hI
    obtain ⟨fuel, rfl⟩ : ∃ m, fuel = m + 1 := ⟨fuel - 1, by omega⟩
    obtain ⟨fuel', rfl⟩ : ∃ m, fuel' = m + 1 := ⟨fuel' - 1, by omega⟩
    obtain rfl : c = 5 := by omega
    refine ⟨5, V, p, wr, μ, T, ?_, fun w S' => ?_, h, GrowI.rf hC.fr, hL, Nat.le_refl _, Nat.le_refl _, mSame.rf.on, ⟨0, fun e => ⟨e, Nat.le_refl _⟩, rfl⟩, hI⟩
    · rw [L18_s]
      unfold B_Rd_readNeeds_18 B_Rd_readNeeds_46
      rw [if_pos (by decide)]
    · unfold mMore B_Mo_needsOf_81 B_Mo_needsOf_82
      simp only [m_I5, Option.bind_some, m_R18]
      by_cases hw : wr = -1
      · rw [if_pos (h.w5.mpr hw), m_g11 hs, (hI hw).1]
        simp only [Option.bind_some]
        rw [if_pos (by decide), L20_s, M_needs_20, if_pos rfl]
      · rw [if_neg (fun e => hw (h.w5.mp e)), L20_s, M_needs_20, if_pos rfl]
  | succ d ih =>
    intro c fuel fuel' p wr μ T V hd h1 h5 hf hf' h hC hR hL hI
    obtain ⟨fuel, rfl⟩ : ∃ m, fuel = m + 1 := ⟨fuel - 1, by omega⟩
    obtain ⟨fuel', rfl⟩ : ∃ m, fuel' = m + 1 := ⟨fuel' - 1, by omega⟩
    obtain ⟨b, p1, μ1, a1, a2, a3, a4, a5, a6⟩ := S_takes (x := 44) hN hB' h hC.ne hC.tp (by decide)
    have hc5 : ¬ (5 : Int32) ≤ nI c := nI_ge (a := c) (b := 5) (by omega) (by decide)
    have cls : ∀ X, (if bI b = 0 then some (some a, rd r t (nI N) p1 wr T) else X) = (if bI b = 0 then some (some a, rd r t (nI N) p1 wr T) else X) := fun _ => rfl
    cases b with
    | false =>
      by_cases hw : wr = -1
      · refine ⟨c, V, p1, wr, μ1, T, ?_, fun w S' => ?_, a3, (GrowI.rf hC.fr).le (by omega) (by omega), hL, Nat.le_refl _, h5, a4.on, ⟨0, a5, rfl⟩, fun e => ⟨by rw [a4.1]; exact (hI e).1, fun i hi k hk => by rw [a4.1]; exact (hI e).2 i hi k hk⟩⟩
        · rw [L18_s]
          unfold B_Rd_readNeeds_18 B_Rd_readNeeds_46
          rw [if_neg hc5]
          simp only [rd_ob, Option.bind_some, a1, gB2_some]
          rw [if_pos (by decide)]
        · unfold mMore B_Mo_needsOf_81 B_Mo_needsOf_82
          simp only [m_I5, Option.bind_some, m_R18]
          rw [if_pos (h.w5.mpr hw), m_g11 hs, (hI hw).1]
          simp only [Option.bind_some]
          rw [if_neg hc5]
          simp only [m_ob, Option.bind_some, a2 w S', gB2_some]
          rw [if_pos (by decide), L20_s, M_needs_20, if_pos rfl]
      · refine ⟨c, V, p1, wr, μ, T, ?_, fun w S' => ?_, ⟨h.1, h.2.1, Or.inr ?_⟩, (GrowI.rf hC.fr).le (by omega) (by omega), hL, Nat.le_refl _, h5, mSame.rf.on, ⟨0, fun e => absurd e hw, rfl⟩, fun e => absurd e hw⟩
        · rw [L18_s]
          unfold B_Rd_readNeeds_18 B_Rd_readNeeds_46
          rw [if_neg hc5]
          simp only [rd_ob, Option.bind_some, a1, gB2_some]
          rw [if_pos (by decide)]
        · unfold mMore B_Mo_needsOf_81 B_Mo_needsOf_82
          simp only [m_I5, Option.bind_some, m_R18]
          rw [if_neg (fun e => hw (h.w5.mp e)), L20_s, M_needs_20, if_pos rfl]
        · rcases h.2.2 with ⟨e, -⟩ | e
          · exact absurd e hw
          · exact e
    | true =>
      obtain rfl := a6 rfl
      have hn : 25 * s + 5 * c + 4 < 8750 := by omega
      obtain ⟨v, p2, wr2, μ2, T2, b1, b2, b3, b4, b5, b6, b7, b8, b9⟩ := S_need (n := 25 * s + 5 * c) hN hB hB' a3 hC (hR.le (by omega) (by omega)) hn
      have hC2 := hC.grow b4
      have hL2 := hL.gr hC.fr b4
      obtain ⟨T3, c1, c2, c3⟩ := NL_add (t := t) (n := nI N) (p := p2) (wr := wr2) hC2.fr hC2.1 hL2 (by omega) b5 b8
      obtain ⟨W, w1, w2⟩ := upV (V := V) (c := c) (v := v)
      have hni := tape_ni hC2 hL2
      have hC3 := hC2.gi c3 hni.1 hni.2
      have hI1 : μ2.2 11 s = nI c := by rw [b6.2 11 s (fun h => by cases h.1), a4.1]; exact (hI rfl).1
      obtain ⟨c', V', p', wr', μ', T', d1, d2, d3, d4, d5, d6, d7, d8, ⟨l, d9, d10⟩, d11⟩ := ih (c + 1) fuel fuel' p2 wr2 (mA μ2 11 s (nI (c + 1))) T3 W (by omega) (by omega) (by omega) (by omega) (by omega) (b3.mA (by decide)) hC3 ((hR.gr b4 (k2 := d) (u2 := 5 * d) (by omega) (by omega)).gi c3 (by omega) (by omega)) (c2 W w1 w2) (fun e => ⟨mA_at, fun i hi k hk => by
        rw [mA_n (by decide)]
        by_cases hic : i = c
        · subst hic
          rw [w1]; exact b9 e k hk
        · rw [w2 i hic, b6.2 12 _ (fun h => by have := h.2.1; omega), a4.1]
          exact (hI rfl).2 i (by omega) k hk⟩)
      refine ⟨c', V', p', wr', μ', T', ?_, fun w S' => ?_, d3, ((b4.gi.tr c3).tr d4).le (by omega) (by omega), d5, by omega, d7, ((a4.on.tr (b6.mo ?_)).tr (mOnly.wr (Or.inl ⟨rfl, rfl⟩))).tr d8, ⟨1 + ndLen v + l, (a5.tr b7).tr d9, ?_⟩, d11⟩
      · rw [L18_s]
        unfold B_Rd_readNeeds_18 B_Rd_readNeeds_46
        rw [if_neg hc5]
        simp only [rd_ob, Option.bind_some, a1, gB2_some]
        rw [if_neg (by decide)]
        simp only [b1, gB2_some]
        obtain ⟨g, h1, -, -⟩ := hL2
        rw [e_O (S := rd r t (nI N) p2 wr2 T2) (ci := 4) (by rw [rd_ne (hC2.ner h1)]; exact h1)]
        simp only [Option.bind_some, c1, nI_1]
        exact d1
      · unfold mMore B_Mo_needsOf_81 B_Mo_needsOf_82
        simp only [m_I5, Option.bind_some, m_R18]
        rw [if_pos (h.w5.mpr rfl), m_g11 hs, (hI rfl).1]
        simp only [Option.bind_some]
        rw [if_neg hc5]
        simp only [m_ob, Option.bind_some, a2 w S', gB2_some]
        rw [if_neg (by decide), L20_s, M_needs_20, if_neg (by decide)]
        simp only [m_R18, Option.bind_some, m_ob]
        rw [m_g11 hs, a4.1, (hI rfl).1]
        simp only [Option.bind_some]
        rw [show 25 * nI s + 5 * nI c = nI (25 * s + 5 * c) by rw [show (25 : Int32) = nI 25 from rfl, show (5 : Int32) = nI 5 from rfl, pk_mul, pk_mul, nI_add], b2 w S']
        simp only [m_R18, Option.bind_some]
        rw [m_g11 hs, hI1]
        simp only [Option.bind_some, nI_1]
        rw [m_s11 hs]
        exact d2 w S'
      · intro j i hx
        exact Or.inr ⟨hx.1, by have := hx.2; omega, by have := hx.2; omega⟩
      · rw [d10]
        show nlLen W c + (1 + ndLen (W c)) + l = _
        rw [w1, nlLen_ext c (W := V) (fun i hi => w2 i (by omega))]
        omega
end NS
