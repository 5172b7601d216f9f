/-! SKILLS; THE TWO READERS SIDE BY SIDE -/
theorem see_byte {t N i : Nat} {f : Nat → Int32} {S : gS} (hN : N ≤ 400) (hT : tapeAt t f S) : seeV f N i = -1 ∨ ∃ k, k < 256 ∧ seeV f N i = nI k := by
  unfold seeV
  by_cases h : i < N
  · rw [if_pos h]
    obtain ⟨g, -, h2⟩ := hT
    rw [← (h2 i (by omega)).1]
    obtain ⟨j, h3, h4⟩ := pk_andE (g i) (m := 255) 8 (by decide)
    exact Or.inr ⟨j, h3, h4⟩
  · rw [if_neg h]; exact Or.inl rfl
theorem let_lo {c : Int32} (hc : c = -1 ∨ ∃ k, k < 256 ∧ c = nI k) : (c - 97 < 0 ∨ 8 ≤ c - 97) ↔ rng c 97 104 = false := by
  rcases hc with rfl | ⟨k, hk, rfl⟩
  · decide
  · revert hk; revert k; decide +kernel
theorem R_skill_w {r t : Nat} {n p wr x : Int32} {S : gS} (h : wr ≠ -1) : D_Rd_readSkill r x (rd r t n p wr S) = some (0, rd r t n p wr S) := by
  unfold D_Rd_readSkill B_Rd_readSkill_26
  simp only [rd_ob, Option.bind_some, R_next_w h, gB2_some]
  rw [if_pos (by decide)]
  simp only [rd_I2, rd_ob, R_fail, Option.bind_some]
  unfold rFail
  rw [if_neg h]
theorem R_skill {r t N q : Nat} {x : Int32} {S : gS} {f : Nat → Int32} (hN : N ≤ 400) (hne : t ≠ r) (hT : tapeAt t f S) (hq : q ≤ N) : D_Rd_readSkill r x (rd r t (nI N) (nI q) (-1) S) = some (if rng (seeV f N (seeP f N q)) 97 104 = true ∧ (x >>> ((seeV f N (seeP f N q) - 97) &&& 31)) &&& 1 = 0 then (seeV f N (seeP f N q) - 97, rd r t (nI N) (nI (seeP f N q + 1)) (-1) S) else (0, rd r t (nI N) (nI (seeP f N q)) (nI (seeP f N q)) S)) := by
  have hb := let_lo (see_byte (i := seeP f N q) hN hT)
  have e26 : B_Rd_readSkill_26 r (rd r t (nI N) (nI (seeP f N q)) (-1) S) = some (0, rd r t (nI N) (nI (seeP f N q)) (nI (seeP f N q)) S) := by
    unfold B_Rd_readSkill_26
    simp only [rd_I2, rd_ob, R_fail, Option.bind_some]
    rfl
  unfold D_Rd_readSkill
  simp only [rd_ob, Option.bind_some, R_next hN hne hT hq, gB2_some]
  generalize seeV f N (seeP f N q) = c at hb ⊢
  by_cases h1 : c - 97 < 0
  · rw [if_pos h1, e26, if_neg (fun h => by rw [hb.mp (Or.inl h1)] at h; cases h.1)]
  · rw [if_neg h1]
    by_cases h2 : 8 ≤ c - 97
    · rw [if_pos h2, e26, if_neg (fun h => by rw [hb.mp (Or.inr h2)] at h; cases h.1)]
    · rw [if_neg h2]
      have hr : rng c 97 104 = true := by
        cases h : rng c 97 104
        · rcases hb.mpr h with h3 | h3
          · exact absurd h3 h1
          · exact absurd h3 h2
        · rfl
      by_cases h3 : (x >>> ((c - 97) &&& 31)) &&& 1 = 0
      · rw [if_pos h3, if_pos ⟨hr, h3⟩]
        simp only [rd_I2, rd_P2, Option.bind_some, nI_1]
      · rw [if_neg h3, e26, if_neg (fun h => h3 h.2)]
/-- the class's reader (place p, wrong place wr) and the reference's state μ, over the text f of N bytes -/
def Sim (f : Nat → Int32) (N B : Nat) (p wr : Int32) (μ : mS) : Prop :=
  μ.1 3 = nI N ∧ (∀ i, i < N → μ.2 1 i = f i) ∧ ((wr = -1 ∧ μ.1 5 = 0 ∧ ∃ q, q ≤ N ∧ p = nI q ∧ μ.1 4 = nI q) ∨ (wr ≠ -1 ∧ μ.1 5 ≠ 0 ∧ μ.1 6 = wr ∧ ∃ q, q ≤ B ∧ μ.1 4 = nI q))
/-- only the reading's own numbers differ -/
def mSame (μ μ' : mS) : Prop := μ'.2 = μ.2 ∧ (∀ k, k ≠ 4 → k ≠ 5 → k ≠ 6 → μ'.1 k = μ.1 k) ∧ (μ'.1 5 = 0 → μ.1 5 = 0 ∧ μ'.1 6 = μ.1 6)
theorem mSame.rf {μ : mS} : mSame μ μ := ⟨rfl, fun _ _ _ _ => rfl, fun h => ⟨h, rfl⟩⟩
theorem mSame.tr {a b c : mS} (h : mSame a b) (g : mSame b c) : mSame a c := ⟨g.1.trans h.1, fun k h1 h2 h3 => (g.2.1 k h1 h2 h3).trans (h.2.1 k h1 h2 h3), fun e => ⟨(h.2.2 (g.2.2 e).1).1, (g.2.2 e).2.trans (h.2.2 (g.2.2 e).1).2⟩⟩
theorem mSame.i4 {μ : mS} {v : Int32} : mSame μ (mI μ 4 v) := ⟨rfl, fun k h1 _ _ => mI_n h1, fun e => ⟨by rw [mI_n (by decide)] at e; exact e, mI_n (by decide)⟩⟩
theorem mSame.fl {μ : mS} {v : Int32} : mSame μ (mFail μ v) := ⟨mF_2, fun k _ h2 h3 => mF_1 h2 h3, fun e => absurd e mF_w⟩
theorem skip_ext {f g : Nat → Int32} : ∀ k p, (∀ i, p ≤ i → i < p + k → f i = g i) → skipB f k p = skipB g k p
  | 0, _, _ => rfl
  | k + 1, p, h => by
    unfold skipB
    rw [h p (Nat.le_refl _) (by omega), skip_ext k (p + 1) (fun i h1 h2 => h i (by omega) (by omega))]
theorem seeP_ext {f g : Nat → Int32} {N p : Nat} (h : ∀ i, i < N → f i = g i) : seeP f N p = seeP g N p := skip_ext _ _ (fun i _ h2 => h i (by omega))
theorem seeV_ext {f g : Nat → Int32} {N p : Nat} (h : ∀ i, i < N → f i = g i) : seeV f N p = seeV g N p := by
  unfold seeV
  by_cases hp : p < N
  · rw [if_pos hp, if_pos hp, h p hp]
  · rw [if_neg hp, if_neg hp]
theorem dig_ext {f g : Nat → Int32} {N p : Nat} (h : ∀ i, i < N → f i = g i) : dig f N p = dig g N p := by
  rw [← dig_see, ← dig_see, seeV_ext h]
theorem dg_ext {f g : Nat → Int32} {N p : Nat} (h : ∀ i, i < N → f i = g i) (hd : dig f N p = true) : dg f p = dg g p := by
  unfold dg
  rw [h p (dig_spec hd).1]
theorem numV_ext {f g : Nat → Int32} {N q : Nat} (h : ∀ i, i < N → f i = g i) (hd : dig f N q = true) : numV f N q = numV g N q := by
  unfold numV
  rw [← dig_ext h, ← dig_ext h, ← dg_ext h hd]
  by_cases h0 : dg f q = 0
  · rw [if_pos h0, if_pos h0]
  · rw [if_neg h0, if_neg h0]
    by_cases h1 : dig f N (q + 1) = true
    · rw [if_pos h1, if_pos h1, ← dg_ext h h1]
      by_cases h2 : dig f N (q + 2) = true
      · rw [if_pos h2, if_pos h2, ← dg_ext h h2]
      · rw [if_neg h2, if_neg h2]
    · rw [if_neg h1, if_neg h1]
theorem numE_ext {f g : Nat → Int32} {N q : Nat} (h : ∀ i, i < N → f i = g i) (hd : dig f N q = true) : numE f N q = numE g N q := by
  unfold numE
  rw [← dig_ext h, ← dig_ext h, ← dg_ext h hd]
theorem numF_ext {f g : Nat → Int32} {N q : Nat} {a b : Int32} (h : ∀ i, i < N → f i = g i) (hd : dig f N q = true) : numF f N q a b = numF g N q a b := by
  unfold numF
  rw [← numV_ext h hd, ← numE_ext h hd, ← dig_ext h]
