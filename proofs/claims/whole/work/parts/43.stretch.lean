/-! STRETCHES -/
def mSt (x0 : Nat) (x2 : Int32) (S1 : gS) : Option gS := Option.bind (gRf S1 x0 10 12) (fun r5 => Option.bind (gOb S1 x0 10) (fun _ => gB2 (D_Mo_number x0 1 99 S1) (fun v7 S6 => Option.bind r5 (fun a9 => Option.bind (gSI S6 a9 0 x2 v7) (fun S10 => Option.bind (gOb S10 x0 10) (fun _ => Option.bind (D_Mo_expect x0 35 S10) (fun S11 => mIf x0 13 1 999 x2 S11 (fun S20 => B_Mo_planRow_144 x0 x2 S20))))))))
theorem M_plan_95 {x0 : Nat} {x2 : Int32} {S : gS} : B_Mo_planRow_95 x0 x2 S = Option.bind (gOb S x0 10) (fun _ => gB2 (D_Mo_goesOn x0 64 S) (fun v2 S1 => (if v2 = 0 then B_Mo_planRow_176 x0 x2 S1 else mSt x0 x2 S1))) := rfl
section SX
variable {f : Nat → Int32} {N B r t s : Nat} {p : Int32} {μ : mS} {S : gS}
theorem S_stretch (hN : N ≤ 400) (hB : 400 ≤ B) (hB' : B ≤ 4000) (h : Sim f N B p (-1) μ) (hC : Cx r t f S) (hs : s < 350) (hR : Rm 1 3 S) : ∃ st fr to p' wr' μ' S1, D_Rd_readStretch r (rd r t (nI N) p (-1) S) = some (some S.2.1, rd r t (nI N) p' wr' S1) ∧ (∀ w S', mSt w (nI s) (mput w μ S') = B_Mo_planRow_176 w (nI s) (mput w μ' S')) ∧ Sim f N (B + 2) p' wr' μ' ∧ Grow 1 3 S S1 ∧ S1.1 S.2.1 = some (.inr (9, SxV st fr to)) ∧ mOnly (fun j i => (j = 5 ∨ j = 6 ∨ j = 7) ∧ i = s) μ μ' ∧ rng st 1 99 = true ∧ rng fr 1 999 = true ∧ rng to fr 999 = true ∧ Adv (nlen st + 1 + nlen fr + 1 + nlen to) p (-1) p' wr' ∧ (wr' = -1 → μ'.2 5 s = st ∧ μ'.2 6 s = fr ∧ μ'.2 7 s = to) := by
  obtain ⟨st, p1, wr1, st', μ1, a1, a2, a3, a4, a5, a6, a7⟩ := S_number (a := 1) (b := 99) hN hB (by omega) h hC.ne hC.tp (Or.inr (by decide)) (by decide)
  obtain ⟨p2, wr2, μ2, b1, b2, b3, b4, b5⟩ := S_expect (x := 35) hN hB (by omega) (a3.mA (j := 5) (i := s) (v := st') (by decide)) hC.ne hC.tp (by decide)
  obtain ⟨fr, p3, wr3, μ3, c1, c2, c3, c4, c5, c6, c7⟩ := S_numIf (a := 1) (b := 999) (s := s) (j := 6) (fk := 13) hN (show 400 ≤ B + 1 by omega) (by omega) b3 hC (Or.inr (by decide)) (by decide) (by decide) (fun _ _ _ => m_R13) (fun _ _ _ _ => m_s6 hs)
  obtain ⟨p4, wr4, μ4, d1, d2, d3, d4, d5⟩ := S_expect (x := 45) hN (show 400 ≤ B + 1 by omega) (by omega) c3 hC.ne hC.tp (by decide)
  have hg : Grow 1 3 S (ob (nx S 3) S.2.1 9 (SxV 0 0 0)) := Grow.new hC.fr
  have hC1 := hC.grow hg
  have hf0 : 0 < fr := by
    rw [rng_spec] at c5
    have := c5.1
    rw [Int32.le_iff_toInt_le] at this
    rw [Int32.lt_iff_toInt_lt]; exact this
  have hf1 : fr ≤ 999 := by rw [rng_spec] at c5; exact c5.2
  have hne : S.2.1 ≠ r := by have := hC.2.1; omega
  have hob : ∀ x y z, ob (ob (nx S 3) S.2.1 9 (SxV 0 0 0)) S.2.1 9 (SxV x y z) = ob (nx S 3) S.2.1 9 (SxV x y z) := fun x y z => Prod.ext gup_gup rfl
  have cls : ∀ to p5 wr5, D_Rd_readNumber r fr 999 (rd r t (nI N) p4 wr4 (ob (nx S 3) S.2.1 9 (SxV 0 0 0))) = some (to, rd r t (nI N) p5 wr5 (ob (nx S 3) S.2.1 9 (SxV 0 0 0))) → D_Rd_readStretch r (rd r t (nI N) p (-1) S) = some (some S.2.1, rd r t (nI N) p5 wr5 (ob (nx S 3) S.2.1 9 (SxV st fr to))) := by
    intro to p5 wr5 e
    unfold D_Rd_readStretch
    simp only [rd_ob, Option.bind_some, a1, gB2_some, b1, c1, d1]
    rw [mkSx0 hC.2.1 hR]
    simp only [rd_ob, Option.bind_some, e, gB2_some]
    rw [show (rd r t (nI N) p4 wr4 S).2.1 = S.2.1 from rfl, mkSx1 ob_a hne, hob]
    rfl
  have ref : ∀ w S', mSt w (nI s) (mput w μ S') = Option.bind (gI (mput w μ4 S') w 10 5) (fun v3 => (if v3 = 0 then Option.bind (gRf (mput w μ4 S') w 10 14) (fun r5 => Option.bind (gRf (mput w μ4 S') w 10 13) (fun r6 => Option.bind r6 (fun a7 => Option.bind (gAI (mput w μ4 S') a7 0 (nI s)) (fun v8 => Option.bind (gOb (mput w μ4 S') w 10) (fun _ => gB2 (D_Mo_number w v8 999 (mput w μ4 S')) (fun v10 S9 => Option.bind r5 (fun a12 => Option.bind (gSI S9 a12 0 (nI s) v10) (fun S13 => B_Mo_planRow_176 w (nI s) S13)))))))) else B_Mo_planRow_176 w (nI s) (mput w μ4 S'))) := by
    intro w S'
    unfold mSt
    simp only [m_R12, m_ob, Option.bind_some, a2 w S', gB2_some, m_s5 hs, b2 w S']
    rw [c2 w S']
    unfold B_Mo_planRow_144
    simp only [m_ob, Option.bind_some, d2 w S']
  have X5 : ∀ j i, (j = 5 ∧ i = s) → (j = 5 ∨ j = 6 ∨ j = 7) ∧ i = s := fun j i h => ⟨Or.inl h.1, h.2⟩
  have o4 : mOnly (fun j i => (j = 5 ∨ j = 6 ∨ j = 7) ∧ i = s) μ μ4 := (((a4.on.tr (mOnly.wr ⟨Or.inl rfl, rfl⟩)).tr b4.on).tr (c4.mo (fun j i h => ⟨Or.inr (Or.inl h.1), h.2⟩))).tr d4.on
  have A4 : Adv (nlen st + 1 + nlen fr + 1) p (-1) p4 wr4 := ((a6.tr b5).tr c6).tr d5
  have z4 : wr4 = -1 → μ4.2 5 s = st ∧ μ4.2 6 s = fr := fun e => by
    have w3 := (d5 e).1
    have w2 := (c6 w3).1
    have w1 := (b5 w2).1
    refine ⟨?_, by rw [d4.1]; exact c7 w3⟩
    rw [d4.1, c4.2 5 s (fun h => by cases h.1), b4.1, mA_at]; exact a7 w1
  by_cases hw : wr4 = -1
  · subst hw
    obtain ⟨to, p5, wr5, to', μ5, e1, e2, e3, e4, e5, e6, e7⟩ := S_number (a := fr) (b := 999) hN (show 400 ≤ B + 1 + 1 by omega) (by omega) d3 hC1.ne hC1.tp (Or.inr hf0) hf1
    refine ⟨st, fr, to, p5, wr5, mA μ5 7 s to', _, cls to p5 wr5 e1, fun w S' => ?_, e3.mA (by decide), Grow.new hC.fr, ob_a, (o4.tr e4.on).tr (mOnly.wr ⟨Or.inr (Or.inr rfl), rfl⟩), a5, c5, e5, A4.tr e6, fun e => ?_⟩
    · rw [ref w S']
      simp only [m_I5, m_R14, m_R13, m_ob, Option.bind_some]
      rw [if_pos (d3.w5.mpr rfl), m_g6 hs, (z4 rfl).2]
      simp only [Option.bind_some, e2 w S', gB2_some, m_s7 hs]
    · refine ⟨?_, ?_, ?_⟩
      · rw [mA_n (by decide), e4.1]; exact (z4 rfl).1
      · rw [mA_n (by decide), e4.1]; exact (z4 rfl).2
      · rw [mA_at]; exact e7 e
  · refine ⟨st, fr, fr, p4, wr4, μ4, _, cls fr p4 wr4 (R_number_w hw), fun w S' => ?_, d3, Grow.new hC.fr, ob_a, o4, a5, c5, by rw [rng_spec]; exact ⟨by rw [Int32.le_iff_toInt_le]; omega, hf1⟩, fun e => absurd e hw, fun e => absurd e hw⟩
    rw [ref w S']
    simp only [m_I5, Option.bind_some]
    rw [if_neg (fun e => hw (d3.w5.mp e))]
end SX
