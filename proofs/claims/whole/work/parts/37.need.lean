/-! ONE NEED, BY BOTH -/
def okA (x : Int32) : Prop := x = -1 ∨ rng x 0 7 = true
def altLen (x : Int32) : Nat := if 0 ≤ x then 2 else 0
def vN (a b c d e : Int32) : Nat → Int32
  | 0 => a
  | 1 => b
  | 2 => c
  | 3 => d
  | _ => e
def ndOk (v : Nat → Int32) : Prop := rng (v 0) 1 9 = true ∧ rng (v 1) 0 7 = true ∧ okA (v 2) ∧ okA (v 3) ∧ okL (v 4)
def ndLen (v : Nat → Int32) : Nat := nlen (v 0) + 1 + altLen (v 2) + altLen (v 3) + limLen (v 4)
theorem rng07 {v : Int32} (h : rng v 0 7 = true) : ∃ k, k < 8 ∧ v = nI k := by
  obtain ⟨k, h1, h2⟩ := rng_nI (n := 7) (by decide) h
  exact ⟨k, by omega, h2⟩
theorem th_1 : ∀ j, j < 8 → ∀ k, k < 8 → ((((1 : Int32) <<< (nI j &&& 31)) >>> (nI k &&& 31)) &&& 1 = 0 ↔ nI k ≠ nI j ∧ nI k ≠ -1) := by decide +kernel
theorem th_2 : ∀ j, j < 8 → ∀ i, i < 8 → ∀ k, k < 8 → (((((1 : Int32) <<< (nI j &&& 31)) ||| ((1 : Int32) <<< (nI i &&& 31))) >>> (nI k &&& 31)) &&& 1 = 0 ↔ nI k ≠ nI j ∧ nI k ≠ nI i) := by decide +kernel
theorem alt_pos {v : Int32} (h : rng v 0 7 = true) : altLen v = 2 := by
  unfold altLen
  rw [rng_spec] at h
  exact if_pos h.1
def XN (n : Nat) (j i : Nat) : Prop := j = 12 ∧ n ≤ i ∧ i < n + 5
section ND
variable {f : Nat → Int32} {N B r t n : Nat} {p wr : Int32} {μ : mS} {S : gS}
theorem L54_s {k w : Nat} {x y : Int32} {S : gS} : L_Mo_oneNeed_54 (k + 1) w x y S = B_Mo_oneNeed_54 (L_Mo_oneNeed_54 k) w x y S := rfl
theorem S_need (hN : N ≤ 400) (hB : 400 ≤ B) (hB' : B ≤ 5000) (h : Sim f N B p wr μ) (hC : Cx r t f S) (hR : Rm 1 5 S) (hn : n + 4 < 8750) : ∃ v p' wr' μ' S1, D_Rd_readNeed r (rd r t (nI N) p wr S) = some (some S.2.1, rd r t (nI N) p' wr' S1) ∧ (∀ w S', D_Mo_oneNeed w (nI n) (mput w μ S') = some (mput w μ' S')) ∧ Sim f N B p' wr' μ' ∧ Grow 1 5 S S1 ∧ S1.1 S.2.1 = some (.inr (3, NdV v)) ∧ mOnly (XN n) μ μ' ∧ Adv (ndLen v) p wr p' wr' ∧ ndOk v ∧ (wr' = -1 → ∀ c, c < 5 → μ'.2 12 (n + c) = v c) := by
  obtain ⟨v1, p1, wr1, v1', μ1, a1, a2, a3, a4, a5, a6, a7⟩ := S_number (a := 1) (b := 9) hN hB hB' h hC.ne hC.tp (Or.inr (by decide)) (by decide)
  obtain ⟨v2, p2, wr2, μ2, b1, b2, b3, b4, b5, b6⟩ := S_skill hN hB hB' (a3.mA (j := 12) (i := n) (v := v1') (by decide)) hC.ne hC.tp
  obtain ⟨μ3, hμ3⟩ : ∃ μ3, μ3 = mA (mA (mA (mA μ2 12 (n + 1) v2) 12 (n + 2) (-1)) 12 (n + 3) (-1)) 12 (n + 4) (-1) := ⟨_, rfl⟩
  have s3 : Sim f N B p2 wr2 μ3 := by
    rw [hμ3]; exact (((b3.mA (by decide)).mA (by decide)).mA (by decide)).mA (by decide)
  have r0 : μ3.2 12 n = v1' := by
    rw [hμ3, mA_an (by omega), mA_an (by omega), mA_an (by omega), mA_an (by omega), b4.1, mA_at]
  have r1 : μ3.2 12 (n + 1) = v2 := by
    rw [hμ3, mA_an (by omega), mA_an (by omega), mA_an (by omega), mA_at]
  have r2 : μ3.2 12 (n + 2) = -1 := by
    rw [hμ3, mA_an (by omega), mA_an (by omega), mA_at]
  have r3 : μ3.2 12 (n + 3) = -1 := by
    rw [hμ3, mA_an (by omega), mA_at]
  have r4 : μ3.2 12 (n + 4) = -1 := by
    rw [hμ3, mA_at]
  have o3 : mOnly (XN n) μ μ3 := by
    rw [hμ3]
    have x0 : XN n 12 n := ⟨rfl, by omega, by omega⟩
    have x1 : XN n 12 (n + 1) := ⟨rfl, by omega, by omega⟩
    have x2 : XN n 12 (n + 2) := ⟨rfl, by omega, by omega⟩
    have x3 : XN n 12 (n + 3) := ⟨rfl, by omega, by omega⟩
    have x4 : XN n 12 (n + 4) := ⟨rfl, by omega, by omega⟩
    exact ((((((a4.on).tr (mOnly.wr x0)).tr b4.on).tr (mOnly.wr x1)).tr (mOnly.wr x2)).tr (mOnly.wr x3)).tr (mOnly.wr x4)
  have A3 : Adv (nlen v1 + 1) p wr p2 wr2 := a6.tr b6
  have ref0 : ∀ w S', D_Mo_oneNeed w (nI n) (mput w μ S') = L_Mo_oneNeed_54 gF w (nI n) 2 (mput w μ3 S') := by
    intro w S'
    unfold D_Mo_oneNeed
    simp only [m_R19, m_ob, Option.bind_some, a2 w S', gB2_some, m_s12 (show n < 8750 by omega), b2 w S', nI_1, nI_p2, nI_p3, nI_p4, m_s12 (show n + 1 < 8750 by omega), m_s12 (show n + 2 < 8750 by omega), m_s12 (show n + 3 < 8750 by omega), m_s12 hn]
    rw [hμ3]
  obtain ⟨c1, p3, μ4, d1, d2, d3, d4, d5, d6⟩ := S_takes (x := 47) hN hB' s3 hC.ne hC.tp (by decide)
  have q4 : ∀ i, μ4.2 12 i = μ3.2 12 i := fun i => by rw [d4.1]
  have tl : ∀ j i, (j = 12 ∧ i = n + 4) → XN n j i := fun j i h => ⟨h.1, by omega, by omega⟩
  cases c1 with
  | false =>
    obtain ⟨l, p5, wr5, μ5, e1, e2, e3, e4, e5, e6, e7⟩ := S_need_tail (x1 := v1) (x2 := v2) (x3 := -1) (x4 := -1) hN hB hB' d3 hC hR hn (by rw [q4]; exact r4)
    refine ⟨vN v1 v2 (-1) (-1) l, p5, wr5, μ5, _, ?_, fun w S' => ?_, e3, Grow.new hC.fr, ob_a, (o3.tr d4.on).tr (e4.mo tl), ?_, ⟨a5, b5, Or.inl rfl, Or.inl rfl, e6⟩, fun e c hc => ?_⟩
    · unfold D_Rd_readNeed
      simp only [rd_ob, Option.bind_some, a1, b1, d1, gB2_some]
      rw [if_pos (by decide), e1]; rfl
    · rw [ref0 w S', gF3, L54_s, M_one_54, if_neg (by decide)]
      simp only [m_ob, Option.bind_some, d2 w S', gB2_some]
      rw [if_pos (by decide), e2 w S']
    · exact ((A3.tr d5).tr e5).le (Nat.le_of_eq rfl)
    · have w2 := (e5 e).1
      have w0 := (b6 w2).1
      have z : ∀ i, i ≠ n + 4 → μ5.2 12 i = μ3.2 12 i := fun i hi => by rw [e4.2 12 i (fun h => hi h.2), q4]
      rcases (show c = 0 ∨ c = 1 ∨ c = 2 ∨ c = 3 ∨ c = 4 by omega) with rfl | rfl | rfl | rfl | rfl
      · rw [z _ (by omega)]; exact r0.trans (a7 w0)
      · rw [z _ (by omega)]; exact r1
      · rw [z _ (by omega)]; exact r2
      · rw [z _ (by omega)]; exact r3
      · exact e7 e
  | true =>
    obtain rfl := d6 rfl
    obtain ⟨j, hj, hvj⟩ := rng07 b5
    obtain ⟨v3, p4, wr4, c3, μ5, f1, f2, f3, f4, f5, f6, f7⟩ := S_skill2 (th := 1 <<< (v2 &&& 31)) (n := n) hN hB d3 hC.ne hC.tp hn (by rw [q4, q4, r1, r2, hvj]; exact th_1 j hj)
    obtain ⟨c2, p5, μ7, g1, g2, g3, g4, g5, g6⟩ := S_takes (x := 47) hN hB' (f3.mA (j := 12) (i := n + 2) (v := c3) (by decide)) hC.ne hC.tp (by decide)
    have x2 : XN n 12 (n + 2) := ⟨rfl, by omega, by omega⟩
    have o7 : mOnly (XN n) μ μ7 := (((o3.tr d4.on).tr f4.on).tr (mOnly.wr x2)).tr g4.on
    have q7 : ∀ i, i ≠ n + 2 → μ7.2 12 i = μ3.2 12 i := fun i hi => by rw [g4.1, mA_an hi, f4.1, q4]
    have q72 : μ7.2 12 (n + 2) = c3 := by rw [g4.1, mA_at]
    have ref1 : ∀ w S', D_Mo_oneNeed w (nI n) (mput w μ S') = B_Mo_oneNeed_54 (L_Mo_oneNeed_54 998) w (nI n) 3 (mput w (mA μ5 12 (n + 2) c3) S') := by
      intro w S'
      rw [ref0 w S', gF3, L54_s, M_one_54, if_neg (by decide)]
      simp only [m_ob, Option.bind_some, d2 w S', gB2_some]
      rw [if_neg (by decide), f2]
      unfold B_Mo_oneNeed_122
      simp only [m_R19, Option.bind_some]
      rw [nI_p2, m_s12 (show n + 2 < 8750 by omega)]
      rfl
    cases c2 with
    | false =>
      obtain ⟨l, p6, wr6, μ8, e1, e2, e3, e4, e5, e6, e7⟩ := S_need_tail (x1 := v1) (x2 := v2) (x3 := v3) (x4 := -1) hN hB hB' g3 hC hR hn (by rw [q7 _ (by omega)]; exact r4)
      refine ⟨vN v1 v2 v3 (-1) l, p6, wr6, μ8, _, ?_, fun w S' => ?_, e3, Grow.new hC.fr, ob_a, o7.tr (e4.mo tl), ?_, ⟨a5, b5, Or.inr f5, Or.inl rfl, e6⟩, fun e c hc => ?_⟩
      · unfold D_Rd_readNeed
        simp only [rd_ob, Option.bind_some, a1, b1, d1, gB2_some]
        rw [if_neg (by decide)]
        simp only [rd_ob, Option.bind_some, f1, g1, gB2_some]
        rw [if_pos (by decide), e1]; rfl
      · rw [ref1 w S', M_one_54, if_neg (by decide)]
        simp only [m_ob, Option.bind_some, g2 w S', gB2_some]
        rw [if_pos (by decide), e2 w S']
      · refine ((((A3.tr d5).tr f6).tr g5).tr e5).le ?_
        show nlen v1 + 1 + altLen v3 + 0 + limLen l ≤ _
        rw [alt_pos f5]; simp
      · have w5 := (e5 e).1
        have w2 := (f6 w5).1
        have w0 := (b6 w2).1
        have z : ∀ i, i ≠ n + 4 → μ8.2 12 i = μ7.2 12 i := fun i hi => e4.2 12 i (fun h => hi h.2)
        rcases (show c = 0 ∨ c = 1 ∨ c = 2 ∨ c = 3 ∨ c = 4 by omega) with rfl | rfl | rfl | rfl | rfl
        · rw [z _ (by omega), q7 _ (by omega)]; exact r0.trans (a7 w0)
        · rw [z _ (by omega), q7 _ (by omega)]; exact r1
        · rw [z _ (by omega), q72]; exact f7 w5
        · rw [z _ (by omega), q7 _ (by omega)]; exact r3
        · exact e7 e
    | true =>
      obtain rfl := g6 rfl
      obtain ⟨i, hi, hvi⟩ := rng07 f5
      obtain ⟨v4, p6, wr6, c4, μ8, k1, k2, k3, k4, k5, k6, k7⟩ := S_skill2 (th := (1 <<< (v2 &&& 31)) ||| (1 <<< (v3 &&& 31))) (n := n) hN hB g3 hC.ne hC.tp hn (by rw [q7 _ (by omega), q72, r1, f7 rfl, hvj, hvi]; exact th_2 j hj i hi)
      have q8 : ∀ i, i ≠ n + 3 → (mA μ8 12 (n + 3) c4).2 12 i = μ7.2 12 i := fun i hi => by rw [mA_an hi, k4.1]
      obtain ⟨l, p7, wr7, μ9, e1, e2, e3, e4, e5, e6, e7⟩ := S_need_tail (x1 := v1) (x2 := v2) (x3 := v3) (x4 := v4) hN hB hB' (k3.mA (j := 12) (i := n + 3) (v := c4) (by decide)) hC hR hn (by rw [q8 _ (by omega), q7 _ (by omega)]; exact r4)
      have x3 : XN n 12 (n + 3) := ⟨rfl, by omega, by omega⟩
      refine ⟨vN v1 v2 v3 v4 l, p7, wr7, μ9, _, ?_, fun w S' => ?_, e3, Grow.new hC.fr, ob_a, ((o7.tr k4.on).tr (mOnly.wr x3)).tr (e4.mo tl), ?_, ⟨a5, b5, Or.inr f5, Or.inr k5, e6⟩, fun e c hc => ?_⟩
      · unfold D_Rd_readNeed
        simp only [rd_ob, Option.bind_some, a1, b1, d1, gB2_some]
        rw [if_neg (by decide)]
        simp only [rd_ob, Option.bind_some, f1, g1, gB2_some]
        rw [if_neg (by decide)]
        simp only [rd_ob, Option.bind_some, k1, gB2_some]
        rw [e1]; rfl
      · rw [ref1 w S', M_one_54, if_neg (by decide)]
        simp only [m_ob, Option.bind_some, g2 w S', gB2_some]
        rw [if_neg (by decide), k2]
        unfold B_Mo_oneNeed_122
        simp only [m_R19, Option.bind_some]
        rw [nI_p3, m_s12 (show n + 3 < 8750 by omega)]
        simp only [Option.bind_some]
        rw [show (998 : Nat) = 997 + 1 from rfl, L54_s, M_one_54, if_pos (by decide), e2 w S']
      · refine (((((A3.tr d5).tr f6).tr g5).tr k6).tr e5).le ?_
        show nlen v1 + 1 + altLen v3 + altLen v4 + limLen l ≤ _
        rw [alt_pos f5, alt_pos k5]; simp
      · have w6 := (e5 e).1
        have w5 := (k6 w6).1
        have w0 := (b6 rfl).1
        have z : ∀ i, i ≠ n + 4 → μ9.2 12 i = (mA μ8 12 (n + 3) c4).2 12 i := fun i hi => e4.2 12 i (fun h => hi h.2)
        rcases (show c = 0 ∨ c = 1 ∨ c = 2 ∨ c = 3 ∨ c = 4 by omega) with rfl | rfl | rfl | rfl | rfl
        · rw [z _ (by omega), q8 _ (by omega), q7 _ (by omega)]; exact r0.trans (a7 w0)
        · rw [z _ (by omega), q8 _ (by omega), q7 _ (by omega)]; exact r1
        · rw [z _ (by omega), q8 _ (by omega), q72]; exact f7 rfl
        · rw [z _ (by omega), mA_at]; exact k7 w6
        · exact e7 e
end ND
