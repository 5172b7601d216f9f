/-! THE TWO READERS, STEP BY STEP -/
def pn (p : Int32) : Nat := p.toNatClampNeg
/-- not wrong behind it, so not wrong ahead of it, and k bytes at least were read -/
def Adv (k : Nat) (p wr p' wr' : Int32) : Prop := wr' = -1 → wr = -1 ∧ pn p + k ≤ pn p'
theorem Adv.tr {k l : Nat} {p wr p' wr' p'' wr'' : Int32} (h : Adv k p wr p' wr') (g : Adv l p' wr' p'' wr'') : Adv (k + l) p wr p'' wr'' := fun e => by
  have h2 := g e
  have h1 := h h2.1
  exact ⟨h1.1, by omega⟩
theorem Adv.le {k l : Nat} {p wr p' wr' : Int32} (h : Adv k p wr p' wr') (hl : l ≤ k) : Adv l p wr p' wr' := fun e => by
  have h1 := h e
  exact ⟨h1.1, by omega⟩
theorem pn_nI {q : Nat} (h : q < 2 ^ 31) : pn (nI q) = q := nI_clamp h
theorem nI_nm {q : Nat} (h : q < 2 ^ 31) : nI q ≠ -1 := fun e => nI_pos h (by rw [e]; decide)
theorem Sim.same {f : Nat → Int32} {N B : Nat} {p wr : Int32} {μ μ' : mS} (h : Sim f N B p wr μ) (h2 : ∀ i, i < N → μ'.2 1 i = μ.2 1 i) (h1 : ∀ k, k = 3 ∨ k = 4 ∨ k = 5 ∨ k = 6 → μ'.1 k = μ.1 k) : Sim f N B p wr μ' := by
  obtain ⟨a, b, c⟩ := h
  refine ⟨by rw [h1 3 (by decide)]; exact a, fun i hi => by rw [h2 i hi]; exact b i hi, ?_⟩
  rw [h1 4 (by decide), h1 5 (by decide), h1 6 (by decide)]
  exact c
theorem Sim.mA {f : Nat → Int32} {N B : Nat} {p wr : Int32} {μ : mS} (h : Sim f N B p wr μ) {j i : Nat} {v : Int32} (hj : j ≠ 1) : Sim f N B p wr (mA μ j i v) :=
  h.same (fun k _ => by rw [mA_n (fun e => hj e.symm)]) (fun _ _ => rfl)
theorem Sim.up {f : Nat → Int32} {N B B' : Nat} {p wr : Int32} {μ : mS} (h : Sim f N B p wr μ) (hB : B ≤ B') : Sim f N B' p wr μ := by
  obtain ⟨a, b, c⟩ := h
  refine ⟨a, b, ?_⟩
  rcases c with c | ⟨c1, c2, c3, q, c4, c5⟩
  · exact Or.inl c
  · exact Or.inr ⟨c1, c2, c3, q, by omega, c5⟩
theorem Sim.re {f : Nat → Int32} {N B B' : Nat} {p : Int32} {μ : mS} (h : Sim f N B p (-1) μ) : Sim f N B' p (-1) μ := by
  obtain ⟨a, b, c⟩ := h
  refine ⟨a, b, ?_⟩
  rcases c with c | ⟨c1, -⟩
  · exact Or.inl c
  · exact absurd rfl c1
theorem Sim.w5 {f : Nat → Int32} {N B : Nat} {p wr : Int32} {μ : mS} (h : Sim f N B p wr μ) : μ.1 5 = 0 ↔ wr = -1 := by
  rcases h.2.2 with ⟨c1, c2, -⟩ | ⟨c1, c2, -⟩
  · exact ⟨fun _ => c1, fun _ => c2⟩
  · exact ⟨fun e => absurd e c2, fun e => absurd e c1⟩
section ST
variable {f : Nat → Int32} {N B r t : Nat} {p wr : Int32} {μ : mS} {S : gS}
theorem mF_5 {μ : mS} {v : Int32} (h : μ.1 5 = 0) : (mFail μ v).1 5 = 1 ∧ (mFail μ v).1 6 = v := by
  unfold mFail
  rw [if_pos h]
  exact ⟨by rw [mI_n (by decide), mI_s], by rw [mI_s]⟩
theorem nlt_le {q : Nat} (hN : N ≤ 400) (h : q ≤ N) : seeP f N q ≤ N := seeP_le h
theorem seeP_max {q : Nat} (hN : N ≤ 400) (hB : 400 ≤ B) (h : q ≤ B) : seeP f N q ≤ B := by
  by_cases hq : q ≤ N
  · have := seeP_le (f := f) hq; omega
  · rw [seeP_out (by omega)]; exact h
theorem S_expect (hN : N ≤ 400) (hB : 400 ≤ B) (hB' : B ≤ 5000) (h : Sim f N B p wr μ) (hne : t ≠ r) (hT : tapeAt t f S) {x : Int32} (hx : x ≠ -1) : ∃ p' wr' μ', D_Rd_expect r x (rd r t (nI N) p wr S) = some (rd r t (nI N) p' wr' S) ∧ (∀ w S', D_Mo_expect w x (mput w μ S') = some (mput w μ' S')) ∧ Sim f N (B + 1) p' wr' μ' ∧ mSame μ μ' ∧ Adv 1 p wr p' wr' := by
  obtain ⟨e3, eT, hc⟩ := h
  have hs : ∀ q, seeP (μ.2 1) N q = seeP f N q := fun q => seeP_ext eT
  have hv : ∀ q, seeV (μ.2 1) N q = seeV f N q := fun q => seeV_ext eT
  rcases hc with ⟨rfl, h5, q, hq, rfl, e4⟩ | ⟨hw, h5, h6, q, hq, e4⟩
  · have hs1 := seeP_le (f := f) hq
    have hs0 := seeP_ge (f := f) (n := N) (p := q)
    have key := fun w S' => M_expect (w := w) (S := S') (x := x) hN (show q < 100000 by omega) e4 e3
    rw [R_expect hN hne hT hq]
    simp only [hs, hv] at key
    by_cases hc : seeV f N (seeP f N q) = x
    · have hlt : seeP f N q < N := by
        unfold seeV at hc
        by_cases h : seeP f N q < N
        · exact h
        · rw [if_neg h] at hc; exact absurd hc.symm hx
      rw [if_pos hc]
      refine ⟨_, _, _, rfl, fun w S' => by rw [key w S', if_pos hc], ⟨?_, ?_, ?_⟩, ?_, ?_⟩
      · rw [mI_n (by decide)]; unfold mSee; rw [mI_n (by decide)]; exact e3
      · exact eT
      · refine Or.inl ⟨rfl, ?_, seeP f N q + 1, by omega, rfl, mI_s⟩
        rw [mI_n (by decide)]; unfold mSee; rw [mI_n (by decide)]; exact h5
      · exact (mSame.i4).tr mSame.i4
      · intro _
        refine ⟨rfl, ?_⟩
        rw [pn_nI (by omega), pn_nI (by omega)]; omega
    · rw [if_neg hc]
      have h5' : (mSee μ N q).1 5 = 0 := by unfold mSee; rw [mI_n (by decide)]; exact h5
      refine ⟨_, _, _, rfl, fun w S' => by rw [key w S', if_neg hc], ⟨?_, ?_, ?_⟩, ?_, ?_⟩
      · rw [mI_n (by decide), mF_1 (by decide) (by decide)]; unfold mSee; rw [mI_n (by decide)]; exact e3
      · intro i hi; rw [mI_2, mF_2]; exact eT i hi
      · refine Or.inr ⟨nI_nm (by omega), ?_, ?_, seeP f N q + 1, by omega, mI_s⟩
        · rw [mI_n (by decide), (mF_5 h5').1]; decide
        · rw [mI_n (by decide), (mF_5 h5').2]
      · exact (mSame.i4.tr mSame.fl).tr mSame.i4
      · intro e; exact absurd e (nI_nm (by omega))
  · have hs1 := seeP_max (f := f) hN hB hq
    have key := fun w S' => M_expect (w := w) (S := S') (x := x) hN (show q < 100000 by omega) e4 e3
    have h5' : (mSee μ N q).1 5 ≠ 0 := by unfold mSee; rw [mI_n (by decide)]; exact h5
    have hf : ∀ v, mFail (mSee μ N q) v = mSee μ N q := fun v => by unfold mFail; rw [if_neg h5']
    simp only [hs, hv, hf, ite_self] at key
    refine ⟨p, wr, _, R_expect_w hw hx, key, ⟨?_, ?_, ?_⟩, ?_, fun e => absurd e hw⟩
    · rw [mI_n (by decide)]; unfold mSee; rw [mI_n (by decide)]; exact e3
    · exact eT
    · refine Or.inr ⟨hw, ?_, ?_, seeP f N q + 1, by omega, mI_s⟩
      · rw [mI_n (by decide)]; exact h5'
      · rw [mI_n (by decide)]; unfold mSee; rw [mI_n (by decide)]; exact h6
    · exact (mSame.i4).tr mSame.i4
theorem S_takes (hN : N ≤ 400) (hB' : B ≤ 5000) (h : Sim f N B p wr μ) (hne : t ≠ r) (hT : tapeAt t f S) {x : Int32} (hx : x ≠ -1) : ∃ v p' μ', D_Rd_takes r x (rd r t (nI N) p wr S) = some (bI v, rd r t (nI N) p' wr S) ∧ (∀ w S', D_Mo_goesOn w x (mput w μ S') = some (bI v, mput w μ' S')) ∧ Sim f N B p' wr μ' ∧ mSame μ μ' ∧ Adv (if v then 1 else 0) p wr p' wr ∧ (v = true → wr = -1) := by
  obtain ⟨e3, eT, hc⟩ := h
  have hs : ∀ q, seeP (μ.2 1) N q = seeP f N q := fun q => seeP_ext eT
  have hv : ∀ q, seeV (μ.2 1) N q = seeV f N q := fun q => seeV_ext eT
  rcases hc with ⟨rfl, h5, q, hq, rfl, e4⟩ | ⟨hw, h5, h6, q, hq, e4⟩
  · have hs1 := seeP_le (f := f) hq
    have hs0 := seeP_ge (f := f) (n := N) (p := q)
    have key := fun w S' => M_goesOn (w := w) (S := S') (x := x) hN (show q < 100000 by omega) e4 e3 h5
    rw [R_takes hN hne hT hq]
    simp only [hs, hv] at key
    by_cases hc : seeV f N (seeP f N q) = x
    · have hlt : seeP f N q < N := by
        unfold seeV at hc
        by_cases h : seeP f N q < N
        · exact h
        · rw [if_neg h] at hc; exact absurd hc.symm hx
      rw [if_pos hc]
      refine ⟨true, _, mI μ 4 (nI (seeP f N q + 1)), rfl, fun w S' => by rw [key w S', if_pos hc]; rfl, ⟨?_, eT, Or.inl ⟨rfl, ?_, seeP f N q + 1, by omega, rfl, mI_s⟩⟩, mSame.i4, fun _ => ⟨rfl, ?_⟩, fun _ => rfl⟩
      · rw [mI_n (by decide)]; exact e3
      · rw [mI_n (by decide)]; exact h5
      · rw [pn_nI (by omega), pn_nI (by omega), if_pos rfl]; omega
    · rw [if_neg hc]
      refine ⟨false, _, mSee μ N q, rfl, fun w S' => by rw [key w S', if_neg hc]; rfl, ⟨?_, eT, Or.inl ⟨rfl, ?_, seeP f N q, by omega, rfl, ?_⟩⟩, mSame.i4, fun _ => ⟨rfl, ?_⟩, fun h => (by cases h)⟩
      · unfold mSee; rw [mI_n (by decide)]; exact e3
      · unfold mSee; rw [mI_n (by decide)]; exact h5
      · unfold mSee; rw [mI_s, hs]
      · rw [pn_nI (by omega), pn_nI (by omega)]; simp; omega
  · refine ⟨false, p, μ, R_takes_w hw hx, fun w S' => M_goesOn_w h5, ⟨e3, eT, Or.inr ⟨hw, h5, h6, q, hq, e4⟩⟩, mSame.rf, fun e => absurd e hw, fun h => (by cases h)⟩
end ST
