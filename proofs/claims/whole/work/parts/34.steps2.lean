/-! NUMBERS AND SKILLS, SIDE BY SIDE -/
/-- the digits that a number is printed with -/
def nlen (v : Int32) : Nat := if 99 < v then 3 else if 9 < v then 2 else 1
section ST
variable {f : Nat → Int32} {N B r t : Nat} {p wr : Int32} {μ : mS} {S : gS}
theorem numE_le {q : Nat} (h : dig f N q = true) : numE f N q ≤ N ∧ q < numE f N q := by
  have h0 := (dig_spec h).1
  unfold numE
  split
  · omega
  · split
    · next h1 =>
      have := (dig_spec h1).1
      split
      · next h2 => have := (dig_spec h2).1; omega
      · omega
    · omega
theorem numE_len {q : Nat} (h : dig f N q = true) : q + nlen (nI (numV f N q)) ≤ numE f N q := by
  have h0 := dig_spec h
  unfold numE numV nlen
  by_cases hz : dg f q = 0
  · rw [if_pos hz, if_pos hz]
    rw [if_neg (by decide), if_neg (by decide)]
    omega
  · rw [if_neg hz, if_neg hz]
    by_cases h1 : dig f N (q + 1) = true
    · rw [if_pos h1, if_pos h1]
      have d1 := dig_spec h1
      by_cases h2 : dig f N (q + 2) = true
      · rw [if_pos h2, if_pos h2]
        split
        · omega
        · split <;> omega
      · rw [if_neg h2, if_neg h2]
        rw [if_neg (show ¬ (99 : Int32) < nI (10 * dg f q + dg f (q + 1)) from nI_nlt (b := 10 * dg f q + dg f (q + 1)) (a := 99) (by omega) (by decide))]
        split <;> omega
    · rw [if_neg h1, if_neg h1]
      rw [if_neg (show ¬ (99 : Int32) < nI (dg f q) from nI_nlt (b := dg f q) (a := 99) (by omega) (by decide))]
      rw [if_neg (show ¬ (9 : Int32) < nI (dg f q) from nI_nlt (b := dg f q) (a := 9) (by omega) (by decide))]
      omega
theorem numF_lt {q : Nat} {a b : Int32} {x : Nat} (h : dig f N q = true) (hx : numF f N q a b = some x) : x ≤ N := by
  have h1 := numE_le h
  unfold numF at hx
  split at hx
  · split at hx
    · cases hx; omega
    · cases hx
  · cases hx; omega
theorem S_number (hN : N ≤ 400) (hB : 400 ≤ B) (hB' : B ≤ 5000) (h : Sim f N B p wr μ) (hne : t ≠ r) (hT : tapeAt t f S) {a b : Int32} (ha : a = 0 ∨ 0 < a) (hab : a ≤ b) : ∃ v p' wr' v' μ', D_Rd_readNumber r a b (rd r t (nI N) p wr S) = some (v, rd r t (nI N) p' wr' S) ∧ (∀ w S', D_Mo_number w a b (mput w μ S') = some (v', mput w μ' S')) ∧ Sim f N B p' wr' μ' ∧ mSame μ μ' ∧ rng v a b = true ∧ Adv (nlen v) p wr p' wr' ∧ (wr' = -1 → v' = v) := by
  obtain ⟨e3, eT, hc⟩ := h
  have hs : ∀ q, seeP (μ.2 1) N q = seeP f N q := fun q => seeP_ext eT
  have hra : rng a a b = true := by rw [rng_spec]; exact ⟨by rw [Int32.le_iff_toInt_le]; omega, hab⟩
  rcases hc with ⟨rfl, h5, q, hq, rfl, e4⟩ | ⟨hw, h5, h6, q, hq, e4⟩
  · have hs1 := seeP_le (f := f) hq
    have hs0 := seeP_ge (f := f) (n := N) (p := q)
    have hdx : ∀ i, dig (μ.2 1) N i = dig f N i := fun i => dig_ext eT
    have m3 : ∀ v, (mI μ 4 v).1 3 = nI N := fun v => by rw [mI_n (by decide)]; exact e3
    have m5 : ∀ v, (mI μ 4 v).1 5 = 0 := fun v => by rw [mI_n (by decide)]; exact h5
    cases hd : dig f N (seeP f N q) with
    | false =>
      have key := fun w S' => M_number_n (w := w) (S := S') (a := a) (b := b) hN (show q ≤ 400 by omega) e4 e3 h5 (by rw [hs, hdx]; exact hd)
      simp only [hs, mSee] at key
      refine ⟨a, _, _, a, _, R_number_n hN hne hT hq hd, key, ⟨?_, ?_, ?_⟩, mSame.i4.tr mSame.fl, hra, fun e => absurd e (nI_nm (by omega)), fun _ => rfl⟩
      · rw [mF_1 (by decide) (by decide)]; exact m3 _
      · intro i hi; rw [mF_2]; exact eT i hi
      · refine Or.inr ⟨nI_nm (by omega), ?_, ?_, seeP f N q, by omega, ?_⟩
        · rw [(mF_5 (m5 _)).1]; decide
        · rw [(mF_5 (m5 _)).2]
        · rw [mF_1 (by decide) (by decide), mI_s]
    | true =>
      have hd' : dig (μ.2 1) N (seeP f N q) = true := by rw [hdx]; exact hd
      have key := fun w S' => M_number_d (w := w) (S := S') (a := a) (b := b) hN (show q ≤ 400 by omega) e4 e3 h5 ha (by rw [hs]; exact hd')
      simp only [hs] at key
      rw [numV_ext (g := f) eT hd', numE_ext (g := f) eT hd', numF_ext (g := f) eT hd'] at key
      obtain ⟨k1, k2⟩ := R_number_d (a := a) (b := b) hN hne hT hq ha hab hd
      have hE := numE_le hd
      have hL := numE_len hd
      cases hF : numF f N (seeP f N q) a b with
      | none =>
        rw [hF] at key
        have hr : rng (nI (numV f N (seeP f N q))) a b = true := by
          unfold numF at hF
          split at hF
          · next h => exact h
          · cases hF
        refine ⟨_, _, _, _, _, k1 hF, key, ⟨m3 _, eT, Or.inl ⟨rfl, m5 _, numE f N (seeP f N q), hE.1, rfl, mI_s⟩⟩, mSame.i4, hr, fun _ => ⟨rfl, ?_⟩, fun _ => rfl⟩
        rw [pn_nI (by omega), pn_nI (by omega)]; omega
      | some x =>
        rw [hF] at key
        have hxN := numF_lt hd hF
        obtain ⟨val, pos, k3, k4⟩ := k2 x hF
        refine ⟨val, pos, _, _, _, k3, key, ⟨?_, ?_, ?_⟩, mSame.i4.tr mSame.fl, k4, fun e => absurd e (nI_nm (by omega)), fun e => absurd e (nI_nm (by omega))⟩
        · show (mFail _ _).1 3 = _
          rw [mF_1 (by decide) (by decide)]; exact m3 _
        · intro i hi
          show (mFail _ _).2 1 i = _
          rw [mF_2]; exact eT i hi
        · refine Or.inr ⟨nI_nm (by omega), ?_, ?_, numE f N (seeP f N q), by omega, ?_⟩
          · show (mFail _ _).1 5 ≠ 0
            rw [(mF_5 (m5 _)).1]; decide
          · show (mFail _ _).1 6 = _
            rw [(mF_5 (m5 _)).2]
          · show (mFail _ _).1 4 = _
            rw [mF_1 (by decide) (by decide), mI_s]
  · have hs1 := seeP_max (f := f) hN hB hq
    have key := fun w S' => M_number_w (w := w) (S := S') (a := a) (b := b) hN (show q < 10000 by omega) e4 e3 h5
    simp only [hs, mSee] at key
    refine ⟨a, p, wr, a, _, R_number_w hw, key, ⟨?_, eT, Or.inr ⟨hw, ?_, ?_, seeP f N q, hs1, mI_s⟩⟩, mSame.i4, hra, fun e => absurd e hw, fun _ => rfl⟩
    · rw [mI_n (by decide)]; exact e3
    · rw [mI_n (by decide)]; exact h5
    · rw [mI_n (by decide)]; exact h6
theorem let_rng {c : Int32} (h : rng c 97 104 = true) : rng (c - 97) 0 7 = true ∧ ∃ k, k < 8 ∧ c - 97 = nI k := by
  obtain ⟨k, h1, h2, rfl⟩ := rng_nat (lo := 97) (hi := 104) rfl rfl (by decide) (by decide) h
  obtain ⟨d, rfl⟩ : ∃ d, k = 97 + d := ⟨k - 97, by omega⟩
  rw [show (97 : Int32) = nI 97 from rfl, pk_sub (by omega), show 97 + d - 97 = d by omega]
  refine ⟨?_, d, by omega, rfl⟩
  rw [rng_spec]
  exact ⟨nI_pos' (by omega), nI_le (b := 7) (by omega) (by decide)⟩
theorem S_skill (hN : N ≤ 400) (hB : 400 ≤ B) (hB' : B ≤ 5000) (h : Sim f N B p wr μ) (hne : t ≠ r) (hT : tapeAt t f S) : ∃ v p' wr' μ', D_Rd_readSkill r 0 (rd r t (nI N) p wr S) = some (v, rd r t (nI N) p' wr' S) ∧ (∀ w S', D_Mo_letter w (mput w μ S') = some (v, mput w μ' S')) ∧ Sim f N B p' wr' μ' ∧ mSame μ μ' ∧ rng v 0 7 = true ∧ Adv 1 p wr p' wr' := by
  obtain ⟨e3, eT, hc⟩ := h
  have hs : ∀ q, seeP (μ.2 1) N q = seeP f N q := fun q => seeP_ext eT
  have hv : ∀ q, seeV (μ.2 1) N q = seeV f N q := fun q => seeV_ext eT
  rcases hc with ⟨rfl, h5, q, hq, rfl, e4⟩ | ⟨hw, h5, h6, q, hq, e4⟩
  · have hs1 := seeP_le (f := f) hq
    have hs0 := seeP_ge (f := f) (n := N) (p := q)
    have m3 : ∀ v, (mI μ 4 v).1 3 = nI N := fun v => by rw [mI_n (by decide)]; exact e3
    have m5 : ∀ v, (mI μ 4 v).1 5 = 0 := fun v => by rw [mI_n (by decide)]; exact h5
    have key := fun w S' => M_letter (w := w) (S := S') hN (show q < 100000 by omega) e4 e3 h5
    simp only [hs, hv, mSee] at key
    rw [R_skill hN hne hT hq]
    by_cases hr : rng (seeV f N (seeP f N q)) 97 104 = true
    · have hlt : seeP f N q < N := by
        by_cases h : seeP f N q < N
        · exact h
        · unfold seeV at hr; rw [if_neg h] at hr; exact absurd hr (by decide)
      obtain ⟨l1, k, l2, l3⟩ := let_rng hr
      have hz : ((0 : Int32) >>> ((seeV f N (seeP f N q) - 97) &&& 31)) &&& 1 = 0 := by
        rw [l3]
        exact (show ∀ k, k < 8 → ((0 : Int32) >>> (nI k &&& 31)) &&& 1 = 0 by decide +kernel) k l2
      rw [if_pos ⟨hr, hz⟩]
      refine ⟨_, _, _, mI μ 4 (nI (seeP f N q + 1)), rfl, fun w S' => by rw [key w S', if_pos hr], ⟨m3 _, eT, Or.inl ⟨rfl, m5 _, seeP f N q + 1, by omega, rfl, mI_s⟩⟩, mSame.i4, l1, fun _ => ⟨rfl, ?_⟩⟩
      rw [pn_nI (by omega), pn_nI (by omega)]; omega
    · rw [if_neg (fun h => hr h.1)]
      refine ⟨_, _, _, mFail (mI μ 4 (nI (seeP f N q))) (nI (seeP f N q)), rfl, fun w S' => by rw [key w S', if_neg hr], ⟨?_, ?_, ?_⟩, mSame.i4.tr mSame.fl, by decide, fun e => absurd e (nI_nm (by omega))⟩
      · rw [mF_1 (by decide) (by decide)]; exact m3 _
      · intro i hi; rw [mF_2]; exact eT i hi
      · refine Or.inr ⟨nI_nm (by omega), ?_, ?_, seeP f N q, by omega, ?_⟩
        · rw [(mF_5 (m5 _)).1]; decide
        · rw [(mF_5 (m5 _)).2]
        · rw [mF_1 (by decide) (by decide), mI_s]
  · have hs1 := seeP_max (f := f) hN hB hq
    have key := fun w S' => M_letter_w (w := w) (S := S') hN (show q < 100000 by omega) e4 e3 h5
    simp only [hs, mSee] at key
    refine ⟨0, p, wr, _, R_skill_w hw, key, ⟨?_, eT, Or.inr ⟨hw, ?_, ?_, seeP f N q, hs1, mI_s⟩⟩, mSame.i4, by decide, fun e => absurd e hw⟩
    · rw [mI_n (by decide)]; exact e3
    · rw [mI_n (by decide)]; exact h5
    · rw [mI_n (by decide)]; exact h6
end ST
