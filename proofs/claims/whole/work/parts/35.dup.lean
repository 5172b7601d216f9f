/-! A FURTHER SKILL OF A NEED -/
def mChunk (k54 : Nat → Int32 → Int32 → gS → Option gS) (x0 : Nat) (x1 x2 : Int32) (S2 : gS) : Option gS :=
  Option.bind (gOb S2 x0 10) (fun _ => gB2 (D_Mo_see x0 S2) (fun _ S6 => Option.bind (gI S6 x0 10 4) (fun v9 => Option.bind (gOb S6 x0 10) (fun _ => gB2 (D_Mo_letter x0 S6) (fun v11 S10 => Option.bind (gI S10 x0 10 5) (fun v13 => (if v13 = 0 then Option.bind (gRf S10 x0 10 19) (fun r15 => Option.bind r15 (fun a16 => Option.bind (gAI S10 a16 0 (x1 + 1)) (fun v17 => (if v11 = v17 then B_Mo_oneNeed_117 k54 x0 x1 x2 v9 v11 S10 else Option.bind (gRf S10 x0 10 19) (fun r19 => Option.bind r19 (fun a20 => Option.bind (gAI S10 a20 0 (x1 + 2)) (fun v21 => (if v11 = v21 then B_Mo_oneNeed_117 k54 x0 x1 x2 v9 v11 S10 else B_Mo_oneNeed_122 k54 x0 x1 x2 v11 S10)))))))) else B_Mo_oneNeed_122 k54 x0 x1 x2 v11 S10)))))))
theorem M_one_54 {k54 : Nat → Int32 → Int32 → gS → Option gS} {x0 : Nat} {x1 x2 : Int32} {S : gS} : B_Mo_oneNeed_54 k54 x0 x1 x2 S = (if 4 ≤ x2 then B_Mo_oneNeed_138 x0 x1 S else Option.bind (gOb S x0 10) (fun _ => gB2 (D_Mo_goesOn x0 47 S) (fun v3 S2 => (if v3 = 0 then B_Mo_oneNeed_138 x0 x1 S2 else mChunk k54 x0 x1 x2 S2)))) := rfl
theorem seeP_seeP {f : Nat → Int32} {N q : Nat} (h : q ≤ N) : seeP f N (seeP f N q) = seeP f N q := by
  have key : ∀ k q, k = N - q → q ≤ N → seeP f N (seeP f N q) = seeP f N q := by
    intro k
    induction k with
    | zero => intro q hk hq; rw [seeP_out (show N ≤ q by omega), seeP_out (show N ≤ q by omega)]
    | succ k ih =>
      intro q hk hq
      have hst : seeP f N q = if f q = 32 then seeP f N (q + 1) else q := by
        unfold seeP
        rw [show N - q = (N - (q + 1)) + 1 by omega]
        rfl
      by_cases h32 : f q = 32
      · rw [hst, if_pos h32]; exact ih (q + 1) (by omega) (by omega)
      · rw [hst, if_neg h32, hst, if_neg h32]
  exact key (N - q) q rfl h
theorem nI_p2 {n : Nat} : nI n + 2 = nI (n + 2) := nI_add n 2
theorem nI_p3 {n : Nat} : nI n + 3 = nI (n + 3) := nI_add n 3
theorem nI_p4 {n : Nat} : nI n + 4 = nI (n + 4) := nI_add n 4
theorem S_skill2 {f : Nat → Int32} {N B r t n : Nat} {p th : Int32} {μ : mS} {S : gS} (hN : N ≤ 400) (hB : 400 ≤ B) (h : Sim f N B p (-1) μ) (hne : t ≠ r) (hT : tapeAt t f S) (hn : n + 4 < 8750) (hth : ∀ k, k < 8 → ((th >>> (nI k &&& 31)) &&& 1 = 0 ↔ nI k ≠ μ.2 12 (n + 1) ∧ nI k ≠ μ.2 12 (n + 2))) : ∃ v p' wr' c μ', D_Rd_readSkill r th (rd r t (nI N) p (-1) S) = some (v, rd r t (nI N) p' wr' S) ∧ (∀ k54 w x2 S', mChunk k54 w (nI n) x2 (mput w μ S') = B_Mo_oneNeed_122 k54 w (nI n) x2 c (mput w μ' S')) ∧ Sim f N B p' wr' μ' ∧ mSame μ μ' ∧ rng v 0 7 = true ∧ Adv 1 p (-1) p' wr' ∧ (wr' = -1 → c = v) := by
  obtain ⟨e3, eT, hc⟩ := h
  have hs : ∀ q, seeP (μ.2 1) N q = seeP f N q := fun q => seeP_ext eT
  have hv : ∀ q, seeV (μ.2 1) N q = seeV f N q := fun q => seeV_ext eT
  rcases hc with ⟨-, h5, q, hq, rfl, e4⟩ | ⟨hw, -⟩
  · have hs1 := seeP_le (f := f) hq
    have hs0 := seeP_ge (f := f) (n := N) (p := q)
    have m3 : ∀ v, (mI μ 4 v).1 3 = nI N := fun v => by rw [mI_n (by decide)]; exact e3
    have m5 : ∀ v, (mI μ 4 v).1 5 = 0 := fun v => by rw [mI_n (by decide)]; exact h5
    have k1 := fun w S' => M_see (w := w) (S := S') hN (show q < 100000 by omega) e4 e3
    have k2 := fun w S' => M_letter (w := w) (S := S') (μ := mI μ 4 (nI (seeP f N q))) hN (show seeP f N q < 100000 by omega) mI_s (m3 _) (m5 _)
    have e1 : ∀ v, (mI μ 4 v).2 1 = μ.2 1 := fun _ => rfl
    simp only [hs, hv] at k1
    simp only [e1, hs, hv, seeP_seeP hq, mSee, mI_mI] at k2
    rw [R_skill hN hne hT hq]
    have ch : ∀ (k54 : Nat → Int32 → Int32 → gS → Option gS) w x2 S', mChunk k54 w (nI n) x2 (mput w μ S') = (if rng (seeV f N (seeP f N q)) 97 104 then (if seeV f N (seeP f N q) - 97 = μ.2 12 (n + 1) ∨ seeV f N (seeP f N q) - 97 = μ.2 12 (n + 2) then B_Mo_oneNeed_122 k54 w (nI n) x2 (seeV f N (seeP f N q) - 97) (mput w (mFail (mI μ 4 (nI (seeP f N q + 1))) (nI (seeP f N q))) S') else B_Mo_oneNeed_122 k54 w (nI n) x2 (seeV f N (seeP f N q) - 97) (mput w (mI μ 4 (nI (seeP f N q + 1))) S')) else B_Mo_oneNeed_122 k54 w (nI n) x2 0 (mput w (mFail (mI μ 4 (nI (seeP f N q))) (nI (seeP f N q))) S')) := by
      intro k54 w x2 S'
      unfold mChunk
      simp only [m_ob, Option.bind_some, k1 w S', gB2_some, m_I4, mI_s, k2 w S']
      by_cases hr : rng (seeV f N (seeP f N q)) 97 104 = true
      · rw [if_pos hr, if_pos hr]
        simp only [gB2_some, m_I5, Option.bind_some, m5, m_R19]
        rw [if_pos trivial, nI_1, nI_p2, m_g12 (by omega), m_g12 (by omega)]
        simp only [Option.bind_some]
        unfold B_Mo_oneNeed_117
        simp only [m_ob, Option.bind_some, M_fail]
        by_cases c1 : seeV f N (seeP f N q) - 97 = μ.2 12 (n + 1)
        · rw [if_pos (show _ = (mI μ 4 _).2 12 (n + 1) from c1), if_pos (Or.inl c1)]
        · rw [if_neg (show ¬ _ = (mI μ 4 _).2 12 (n + 1) from c1)]
          by_cases c2 : seeV f N (seeP f N q) - 97 = μ.2 12 (n + 2)
          · rw [if_pos (show _ = (mI μ 4 _).2 12 (n + 2) from c2), if_pos (Or.inr c2)]
          · rw [if_neg (show ¬ _ = (mI μ 4 _).2 12 (n + 2) from c2), if_neg (fun h => h.elim c1 c2)]
      · rw [if_neg hr, if_neg hr]
        simp only [gB2_some, m_I5, Option.bind_some]
        rw [if_neg (mF_w)]
    by_cases hr : rng (seeV f N (seeP f N q)) 97 104 = true
    · have hlt : seeP f N q < N := by
        by_cases h : seeP f N q < N
        · exact h
        · unfold seeV at hr; rw [if_neg h] at hr; exact absurd hr (by decide)
      obtain ⟨l1, k, l2, l3⟩ := let_rng hr
      have hz := hth k l2
      rw [← l3] at hz
      by_cases hcd : seeV f N (seeP f N q) - 97 = μ.2 12 (n + 1) ∨ seeV f N (seeP f N q) - 97 = μ.2 12 (n + 2)
      · have hbit : ¬ (th >>> ((seeV f N (seeP f N q) - 97) &&& 31)) &&& 1 = 0 := fun h => by
          have := hz.mp h
          rcases hcd with h1 | h1
          · exact this.1 h1
          · exact this.2 h1
        rw [if_neg (fun h => hbit h.2)]
        refine ⟨_, _, _, _, _, rfl, fun k54 w x2 S' => by rw [ch k54 w x2 S', if_pos hr, if_pos hcd], ⟨?_, ?_, ?_⟩, mSame.i4.tr mSame.fl, by decide, fun e => absurd e (nI_nm (by omega)), fun e => absurd e (nI_nm (by omega))⟩
        · rw [mF_1 (by decide) (by decide)]; exact m3 _
        · intro i hi; rw [mF_2]; exact eT i hi
        · refine Or.inr ⟨nI_nm (by omega), ?_, ?_, seeP f N q + 1, by omega, ?_⟩
          · rw [(mF_5 (m5 _)).1]; decide
          · rw [(mF_5 (m5 _)).2]
          · rw [mF_1 (by decide) (by decide), mI_s]
      · have hbit : (th >>> ((seeV f N (seeP f N q) - 97) &&& 31)) &&& 1 = 0 := hz.mpr ⟨fun h => hcd (Or.inl h), fun h => hcd (Or.inr h)⟩
        rw [if_pos ⟨hr, hbit⟩]
        refine ⟨_, _, _, _, _, rfl, fun k54 w x2 S' => by rw [ch k54 w x2 S', if_pos hr, if_neg hcd], ⟨m3 _, eT, Or.inl ⟨rfl, m5 _, seeP f N q + 1, by omega, rfl, mI_s⟩⟩, mSame.i4, l1, fun _ => ⟨rfl, ?_⟩, fun _ => rfl⟩
        rw [pn_nI (by omega), pn_nI (by omega)]; omega
    · rw [if_neg (fun h => hr h.1)]
      refine ⟨_, _, _, _, _, rfl, fun k54 w x2 S' => by rw [ch k54 w x2 S', if_neg hr], ⟨?_, ?_, ?_⟩, mSame.i4.tr mSame.fl, by decide, fun e => absurd e (nI_nm (by omega)), fun e => absurd e (nI_nm (by omega))⟩
      · rw [mF_1 (by decide) (by decide)]; exact m3 _
      · intro i hi; rw [mF_2]; exact eT i hi
      · refine Or.inr ⟨nI_nm (by omega), ?_, ?_, seeP f N q, by omega, ?_⟩
        · rw [(mF_5 (m5 _)).1]; decide
        · rw [(mF_5 (m5 _)).2]
        · rw [mF_1 (by decide) (by decide), mI_s]
  · exact absurd rfl hw
