/-! ALL ROWS OF A TEXT -/
def RdOut (e : Nat) (dd : Int32) (N a u : Nat) (μ : mS) (S : gS) (wr' : Int32) (μ' : mS) (S1 : gS) : Prop := ((wr' = -1 ∧ μ'.1 5 = 0) ∨ (wr' ≠ -1 ∧ μ'.1 5 ≠ 0 ∧ μ'.1 6 = wr')) ∧ GrowI e (e + 4) a u S S1 ∧ mOnly X6 μ μ' ∧ (wr' = -1 → ∃ E', EdAt S1 e dd E' ∧ edIs μ' 6 E' ∧ edLen E' ≤ N)
def RdP (f : Nat → Int32) (N r t e : Nat) (dd : Int32) (d : Nat) : Prop := ∀ (q k fuel fuel' : Nat) (μ : mS) (S : gS) (E : EV), N - q ≤ d → q ≤ N → k ≤ q → d + 2 ≤ fuel → d + 2 ≤ fuel' → Sim f N 400 (nI q) (-1) μ → Cx r t f S → Rm (10 * (N - q)) (45 * (N - q)) S → EdAt S e dd E → edIs μ 6 E → edLen E ≤ q → ∃ p' wr' μ' S1, L_Rd_readEdition_11 fuel r e (nI k) (rd r t (nI N) (nI q) (-1) S) = some (some e, rd r t (nI N) p' wr' S1) ∧ (∀ w S', gB2 (D_Mo_see w (mput w μ S')) (fun v6 S5 => L_Mo_readAll_52 fuel' w v6 S5) = some (mput w μ' S')) ∧ RdOut e dd N (10 * (N - q)) (45 * (N - q)) μ S wr' μ' S1
theorem L11_s {k r e : Nat} {x : Int32} {S : gS} : L_Rd_readEdition_11 (k + 1) r e x S = B_Rd_readEdition_11 (L_Rd_readEdition_11 k) r e x S := rfl
theorem L52_s {k w : Nat} {x : Int32} {S : gS} : L_Mo_readAll_52 (k + 1) w x S = B_Mo_readAll_52 (L_Mo_readAll_52 k) w x S := rfl
section RA
variable {f : Nat → Int32} {N r t e : Nat} {dd : Int32}
theorem L11_w {k fuel : Nat} {p wr : Int32} {S : gS} (hw : wr ≠ -1) : L_Rd_readEdition_11 (fuel + 1) r e (nI k) (rd r t (nI N) p wr S) = some (some e, rd r t (nI N) p wr S) := by
  rw [L11_s]
  unfold B_Rd_readEdition_11 B_Rd_readEdition_105
  simp only [rd_I1, Option.bind_some, rd_ob, R_next_w hw, gB2_some]
  split
  · rfl
  · rw [if_pos trivial]
theorem L52_w {fuel w : Nat} {x : Int32} {μ : mS} {S : gS} (h : μ.1 5 ≠ 0) : L_Mo_readAll_52 (fuel + 1) w x (mput w μ S) = some (mput w μ S) := by
  rw [L52_s]
  unfold B_Mo_readAll_52 B_Mo_readAll_189
  simp only [m_I5, Option.bind_some]
  rw [if_neg h]
theorem S_rowEnd {d q k fuel fuel' l : Nat} {p1 wr1 : Int32} {μ1 : mS} {S S1 : gS} {gp gd gs : Nat → Option Nat} {np nd : Int32} {ns L : Nat} (hN : N ≤ 400) (ih : ∀ d', d' < d → RdP f N r t e dd d') (hq : q < N) (hd : N - q ≤ d) (hk : k ≤ q) (hf : d + 1 ≤ fuel) (hf' : d + 1 ≤ fuel') (hC : Cx r t f S) (hR : Rm (10 * (N - q)) (45 * (N - q)) S) (hF : EdF S e dd gp gd gs np nd ns) (hs : Sim f N 408 p1 wr1 μ1) (g : GrowI e (e + 4) 10 45 S S1) (hE : wr1 = -1 → ∃ E', EdAt S1 e dd E' ∧ edIs μ1 6 E' ∧ q + 1 ≤ pn p1 ∧ edLen E' ≤ pn p1 + 1) : ∃ p' wr' μ' S2, B_Rd_readEdition_93 (L_Rd_readEdition_11 fuel) r e (nI k) (rd r t (nI N) p1 wr1 S1) = some (some e, rd r t (nI N) p' wr' S2) ∧ (∀ w S', B_Mo_readAll_164 (L_Mo_readAll_52 fuel') w (mput w μ1 S') = some (mput w μ' S')) ∧ RdOut e dd N (10 * (N - q)) (45 * (N - q)) μ1 S wr' μ' S2 := by
  have hni := hF.ni hC
  have hC1 := hC.gi g hni.1 hni.2
  obtain ⟨p2, wr2, μ2, a1, a2, a3, a4, a5⟩ := S_expect (x := 59) hN (show 400 ≤ 408 by omega) (by omega) hs hC1.ne hC1.tp (by decide)
  have cls : B_Rd_readEdition_93 (L_Rd_readEdition_11 fuel) r e (nI k) (rd r t (nI N) p1 wr1 S1) = L_Rd_readEdition_11 fuel r e (nI (k + 1)) (rd r t (nI N) p2 wr2 S1) := by
    unfold B_Rd_readEdition_93
    simp only [rd_ob, Option.bind_some, a1, nI_1]
  have ref : ∀ w S', B_Mo_readAll_164 (L_Mo_readAll_52 fuel') w (mput w μ1 S') = if μ2.1 5 = 0 then gB2 (D_Mo_see w (mput w μ2 S')) (fun v6 S5 => L_Mo_readAll_52 fuel' w v6 S5) else L_Mo_readAll_52 fuel' w (-1) (mput w μ2 S') := by
    intro w S'
    unfold B_Mo_readAll_164 B_Mo_readAll_185
    simp only [m_ob, Option.bind_some, a2 w S', m_I5]
  by_cases hw : wr2 = -1
  · subst hw
    obtain ⟨h1, h2⟩ := a5 rfl
    obtain ⟨E', m1, m2, m3, m4⟩ := hE h1
    obtain ⟨q2, hq2, rfl⟩ : ∃ q2, q2 ≤ N ∧ p2 = nI q2 := by
      obtain ⟨-, -, h3⟩ := a3
      rcases h3 with ⟨-, -, q, hq, h6, -⟩ | ⟨hw, -⟩
      · exact ⟨q, hq, h6⟩
      · exact absurd rfl hw
    rw [pn_nI (by omega)] at h2
    have hM2 : edIs μ2 6 E' := by unfold edIs plIs stIs hrIs ndIs; rw [a4.1]; exact m2
    obtain ⟨p', wr', μ', S2, b1, b2, b3, b4, b5, b6⟩ := ih (d - 1) (by omega) q2 (k + 1) fuel fuel' μ2 S1 E' (by omega) hq2 (by omega) (by omega) (by omega) a3.re hC1 ((hR.gi g (k2 := 10 * (N - q) - 10) (u2 := 45 * (N - q) - 45) (by omega) (by omega)).le (by omega) (by omega)) m1 hM2 (by omega)
    refine ⟨p', wr', μ', S2, cls.trans b1, fun w S' => ?_, b3, (g.tr b4).le (by omega) (by omega), a4.on.tr b5, b6⟩
    rw [ref w S', if_pos (a3.w5.mpr rfl)]
    exact b2 w S'
  · have h5 : μ2.1 5 ≠ 0 := fun e => hw (a3.w5.mp e)
    have h6 : μ2.1 6 = wr2 := by
      obtain ⟨-, -, h3⟩ := a3
      rcases h3 with ⟨e, -⟩ | ⟨-, -, h, -⟩
      · exact absurd e hw
      · exact h
    obtain ⟨fu, rfl⟩ : ∃ fu, fuel = fu + 1 := ⟨fuel - 1, by omega⟩
    obtain ⟨fu', rfl⟩ : ∃ fu, fuel' = fu + 1 := ⟨fuel' - 1, by omega⟩
    refine ⟨p2, wr2, μ2, S1, cls.trans (L11_w hw), fun w S' => ?_, Or.inr ⟨hw, h5, h6⟩, g.le (by omega) (by omega), a4.on, fun e => absurd e hw⟩
    rw [ref w S', if_neg h5]
    exact L52_w h5
theorem seeV_n {q : Nat} (h : seeV f N q ≠ -1) : q < N := by
  unfold seeV at h
  by_cases hq : q < N
  · exact hq
  · rw [if_neg hq] at h; exact absurd rfl h
theorem RdP_all (hN : N ≤ 400) : ∀ d, RdP f N r t e dd d := by
  intro d
  induction d using Nat.strongRecOn with
  | _ d ih =>
  intro q k fuel fuel' μ S E hd hq hk hf hf' h hC hR hE hM hL
  obtain ⟨fu, rfl⟩ : ∃ fu, fuel = fu + 1 := ⟨fuel - 1, by omega⟩
  obtain ⟨fu', rfl⟩ : ∃ fu, fuel' = fu + 1 := ⟨fuel' - 1, by omega⟩
  obtain ⟨e3, eT, hc⟩ := id h
  have e4 : μ.1 4 = nI q := h.w4
  have h5 : μ.1 5 = 0 := h.w5.mpr rfl
  have hsP : seeP (μ.2 1) N q = seeP f N q := seeP_ext eT
  have hsV : seeV (μ.2 1) N (seeP f N q) = seeV f N (seeP f N q) := seeV_ext eT
  obtain ⟨s, hs⟩ : ∃ s, s = seeP f N q := ⟨_, rfl⟩
  obtain ⟨v, hv⟩ : ∃ v, v = seeV f N s := ⟨_, rfl⟩
  have hs1 : s ≤ N := by rw [hs]; exact seeP_le hq
  have hs0 : q ≤ s := by rw [hs]; exact seeP_ge
  have hss : seeP f N s = s := by rw [hs]; exact seeP_seeP hq
  have see : ∀ w S', gB2 (D_Mo_see w (mput w μ S')) (fun v6 S5 => L_Mo_readAll_52 (fu' + 1) w v6 S5) = B_Mo_readAll_52 (L_Mo_readAll_52 fu') w v (mput w (mI μ 4 (nI s)) S') := by
    intro w S'
    rw [M_see hN (show q < 100000 by omega) e4 e3, hsP, hsV, ← hs, ← hv]
    simp only [gB2_some]
    exact L52_s
  have m5 : (mI μ 4 (nI s)).1 5 = 0 := by rw [mI_n (by decide)]; exact h5
  have hSs : Sim f N 400 (nI s) (-1) (mI μ 4 (nI s)) := ⟨by rw [mI_n (by decide)]; exact e3, eT, Or.inl ⟨rfl, m5, s, hs1, rfl, mI_s⟩⟩
  by_cases hv1 : v = -1
  · refine ⟨if nI N ≤ nI k then nI q else nI s, -1, mI μ 4 (nI s), S, ?_, fun w S' => ?_, Or.inl ⟨rfl, m5⟩, (GrowI.rf hC.fr).le (by omega) (by omega), mSame.i4.on, fun _ => ⟨E, hE, ?_, by omega⟩⟩
    · rw [L11_s]
      unfold B_Rd_readEdition_11 B_Rd_readEdition_105
      simp only [rd_I1, Option.bind_some, rd_ob, R_next hN hC.ne hC.tp hq, gB2_some]
      rw [← hs, ← hv, hv1]
      split
      · rfl
      · rw [if_pos rfl]
    · rw [see w S', hv1]
      unfold B_Mo_readAll_52 B_Mo_readAll_189
      simp only [m_I5, Option.bind_some]
      rw [if_pos m5, if_pos trivial]
    · exact hM
  · have hsN : s < N := seeV_n (f := f) (by rw [← hv]; exact hv1)
    have hkN : ¬ nI N ≤ nI k := nI_ge (a := k) (b := N) (by omega) (by omega)
    obtain ⟨gp, gd, gs, hF, hE'⟩ := id hE
    have hFr := fun {p wr : Int32} => hF.rd (r := r) (t := t) (n := nI N) (p := p) (wr := wr) hC.1
    have hTk : ∀ x, D_Rd_takes r x (rd r t (nI N) (nI s) (-1) S) = some (if v = x then (1, rd r t (nI N) (nI (s + 1)) (-1) S) else (0, rd r t (nI N) (nI s) (-1) S)) := fun x => by
      rw [R_takes hN hC.ne hC.tp hs1, hss, ← hv]
    have room : D_Ed_hasRoomForStandby e (rd r t (nI N) (nI s) (-1) S) = some (if 8 ≤ nI E.2.2.1 then 0 else 1, rd r t (nI N) (nI s) (-1) S) := by
      unfold D_Ed_hasRoomForStandby B_Ed_hasRoomForStandby_14
      rw [e_I hFr.1 (k := 6) (v := nI E.2.2.1) rfl]
      simp only [Option.bind_some]
      split
      · simp only [gZ0, Option.bind_some]
      · simp only [gZ1, Option.bind_some]
    have cls : L_Rd_readEdition_11 (fu + 1) r e (nI k) (rd r t (nI N) (nI q) (-1) S) = if v = 112 then Option.bind (D_Rd_readPlan r (some e) (rd r t (nI N) (nI (s + 1)) (-1) S)) (fun S27 => B_Rd_readEdition_93 (L_Rd_readEdition_11 fu) r e (nI k) S27) else if v = 100 then Option.bind (D_Rd_readDefault r (some e) (rd r t (nI N) (nI (s + 1)) (-1) S)) (fun S27 => B_Rd_readEdition_93 (L_Rd_readEdition_11 fu) r e (nI k) S27) else if v = 115 ∧ ¬ (8 : Int32) ≤ nI E.2.2.1 then Option.bind (D_Rd_readStandby r (some e) (rd r t (nI N) (nI (s + 1)) (-1) S)) (fun S27 => B_Rd_readEdition_93 (L_Rd_readEdition_11 fu) r e (nI k) S27) else B_Rd_readEdition_93 (L_Rd_readEdition_11 fu) r e (nI k) (rd r t (nI N) (nI s) (nI s) S) := by
      rw [L11_s]
      unfold B_Rd_readEdition_11 B_Rd_readEdition_85
      simp only [rd_I1, Option.bind_some, rd_ob, R_next hN hC.ne hC.tp hq, gB2_some]
      rw [← hs, ← hv, if_neg hkN, if_neg hv1, hTk 112]
      by_cases c1 : v = 112
      · rw [if_pos c1, if_pos c1]
        simp only [gB2_some]
        rw [if_neg (by decide)]
        simp only [rd_ob, Option.bind_some]
      · rw [if_neg c1, if_neg c1]
        simp only [gB2_some]
        rw [if_pos trivial]
        simp only [rd_ob, Option.bind_some]
        rw [hTk 100]
        by_cases c2 : v = 100
        · rw [if_pos c2, if_pos c2]
          simp only [gB2_some]
          rw [if_neg (by decide)]
          simp only [rd_ob, Option.bind_some]
        · rw [if_neg c2, if_neg c2]
          simp only [gB2_some]
          rw [if_pos trivial, e_O hFr.1]
          simp only [Option.bind_some]
          rw [room]
          simp only [gB2_some]
          have fl : rFail (-1) (nI s) = nI s := rfl
          by_cases c3 : (8 : Int32) ≤ nI E.2.2.1
          · rw [if_pos c3, if_pos rfl, if_neg (fun x => x.2 c3)]
            simp only [rd_I2, rd_ob, Option.bind_some, R_fail, fl]
          · rw [if_neg c3, if_neg (by decide)]
            simp only [rd_ob, Option.bind_some]
            rw [hTk 115]
            by_cases c4 : v = 115
            · rw [if_pos c4, if_pos ⟨c4, c3⟩]
              simp only [gB2_some]
              rw [if_neg (by decide)]
              simp only [rd_ob, Option.bind_some]
            · rw [if_neg c4, if_neg (fun x => c4 x.1)]
              simp only [gB2_some]
              rw [if_pos trivial]
              simp only [rd_I2, rd_ob, Option.bind_some, R_fail, fl]
    have v13 : (mI μ 4 (nI s)).2 13 6 = nI E.2.2.1 := hM.2.2.1
    have m4 : ∀ μ' : mS, μ'.1 4 = nI s → ∀ w S', gPut (mput w μ' S') w 10 4 (.int (μ'.1 4 + 1)) = some (mput w (mI μ' 4 (nI (s + 1))) S') := fun μ' e w S' => by
      rw [e, nI_1]; exact m_P4
    obtain ⟨μp, hμp⟩ : ∃ μp, μp = mI (mI μ 4 (nI s)) 4 (nI (s + 1)) := ⟨_, rfl⟩
    have ref : ∀ w S', B_Mo_readAll_52 (L_Mo_readAll_52 fu') w v (mput w (mI μ 4 (nI s)) S') = if v = 112 then Option.bind (D_Mo_planRow w (mput w μp S')) (fun S5 => B_Mo_readAll_164 (L_Mo_readAll_52 fu') w S5) else if v = 100 then Option.bind (D_Mo_defaultRow w (mput w μp S')) (fun S5 => B_Mo_readAll_164 (L_Mo_readAll_52 fu') w S5) else if v = 115 ∧ ¬ (8 : Int32) ≤ nI E.2.2.1 then Option.bind (D_Mo_standbyRow w (mput w μp S')) (fun S5 => B_Mo_readAll_164 (L_Mo_readAll_52 fu') w S5) else B_Mo_readAll_164 (L_Mo_readAll_52 fu') w (mput w (mI (mFail (mI μ 4 (nI s)) (nI s)) 4 (nI (s + 1))) S') := by
      intro w S'
      have e9 : ∀ x : Int32, x ≠ 0 → B_Mo_readAll_112 (L_Mo_readAll_52 fu') w v x (mput w (mI μ 4 (nI s)) S') = if v = 112 then Option.bind (D_Mo_planRow w (mput w μp S')) (fun S5 => B_Mo_readAll_136 (L_Mo_readAll_52 fu') w v x S5) else B_Mo_readAll_136 (L_Mo_readAll_52 fu') w v x (mput w μp S') := fun x hx => by
        unfold B_Mo_readAll_112
        simp only [m_I4, Option.bind_some]
        rw [m4 _ mI_s, ← hμp]
        simp only [Option.bind_some]
        rw [if_neg hx]
        simp only [m_ob, Option.bind_some]
      have e8 : ∀ x : Int32, x ≠ 0 → ∀ T, B_Mo_readAll_136 (L_Mo_readAll_52 fu') w 112 x T = B_Mo_readAll_164 (L_Mo_readAll_52 fu') w T := fun x hx T => by
        unfold B_Mo_readAll_136 B_Mo_readAll_150
        rw [if_neg hx, if_neg (by decide), if_neg hx, if_neg (by decide)]
      have e7 : ∀ x : Int32, x ≠ 0 → ∀ T, B_Mo_readAll_150 (L_Mo_readAll_52 fu') w 100 x T = B_Mo_readAll_164 (L_Mo_readAll_52 fu') w T := fun x hx T => by
        unfold B_Mo_readAll_150
        rw [if_neg hx, if_neg (by decide)]
      have bad : B_Mo_readAll_98 (L_Mo_readAll_52 fu') w v (mput w (mI μ 4 (nI s)) S') = B_Mo_readAll_164 (L_Mo_readAll_52 fu') w (mput w (mI (mFail (mI μ 4 (nI s)) (nI s)) 4 (nI (s + 1))) S') := by
        unfold B_Mo_readAll_98 B_Mo_readAll_99
        rw [if_pos rfl]
        simp only [m_I4, m_ob, Option.bind_some, M_fail]
        rw [show (mI μ 4 (nI s)).1 4 = nI s from mI_s]
        unfold B_Mo_readAll_112 B_Mo_readAll_136 B_Mo_readAll_150
        simp only [m_I4, Option.bind_some]
        rw [m4 _ (by rw [mF_1 (by decide) (by decide)]; exact mI_s)]
        simp only [Option.bind_some]
        rw [if_pos trivial, if_pos trivial, if_pos trivial]
      unfold B_Mo_readAll_52
      simp only [m_I5, Option.bind_some]
      rw [if_pos m5, if_neg hv1]
      by_cases c1 : v = 112
      · rw [if_pos c1, if_pos c1]
        unfold B_Mo_readAll_94 B_Mo_readAll_99
        rw [if_neg (by decide), e9 1 (by decide), if_pos c1, c1]
        simp only [e8 1 (by decide)]
      · rw [if_neg c1, if_neg c1]
        by_cases c2 : v = 100
        · rw [if_pos c2, if_pos c2]
          unfold B_Mo_readAll_94 B_Mo_readAll_99
          rw [if_neg (by decide), e9 1 (by decide), if_neg c1, c2]
          unfold B_Mo_readAll_136
          rw [if_neg (by decide), if_pos rfl]
          simp only [m_ob, Option.bind_some, e7 1 (by decide)]
        · rw [if_neg c2, if_neg c2]
          by_cases c4 : v = 115
          · rw [if_pos c4]
            simp only [m_R20, Option.bind_some]
            rw [show gAI (mput w (mI μ 4 (nI s)) S') (w + 13) 0 6 = some ((mI μ 4 (nI s)).2 13 6) from m_g13 (i := 6) (by decide), v13]
            simp only [Option.bind_some]
            by_cases c3 : (8 : Int32) ≤ nI E.2.2.1
            · rw [if_pos c3, if_neg (fun x => x.2 c3)]; exact bad
            · rw [if_neg c3, if_pos ⟨c4, c3⟩]
              unfold B_Mo_readAll_94 B_Mo_readAll_99
              rw [if_neg (by decide), e9 1 (by decide), if_neg c1]
              unfold B_Mo_readAll_136 B_Mo_readAll_150
              rw [if_neg (by decide), if_neg c2, if_neg (by decide), if_pos c4]
              simp only [m_ob, Option.bind_some]
          · rw [if_neg c4, if_neg (fun x => c4 x.1)]; exact bad
    have hSp : Sim f N 400 (nI (s + 1)) (-1) μp := by
      rw [hμp]
      exact ⟨by rw [mI_n (by decide)]; exact hSs.1, eT, Or.inl ⟨rfl, by rw [mI_n (by decide)]; exact m5, s + 1, by omega, rfl, mI_s⟩⟩
    have oP : mOnly X6 μ μp := by rw [hμp]; exact mSame.i4.on.tr mSame.i4.on
    have hMp : edIs μp 6 E := by rw [hμp]; exact hM
    have hR1 : Rm 10 45 S := hR.le (by omega) (by omega)
    have fin : ∀ {p1 wr1 μ1 S1}, (∀ w S', (if v = 112 then Option.bind (D_Mo_planRow w (mput w μp S')) (fun S5 => B_Mo_readAll_164 (L_Mo_readAll_52 fu') w S5) else if v = 100 then Option.bind (D_Mo_defaultRow w (mput w μp S')) (fun S5 => B_Mo_readAll_164 (L_Mo_readAll_52 fu') w S5) else if v = 115 ∧ ¬ (8 : Int32) ≤ nI E.2.2.1 then Option.bind (D_Mo_standbyRow w (mput w μp S')) (fun S5 => B_Mo_readAll_164 (L_Mo_readAll_52 fu') w S5) else B_Mo_readAll_164 (L_Mo_readAll_52 fu') w (mput w (mI (mFail (mI μ 4 (nI s)) (nI s)) 4 (nI (s + 1))) S')) = B_Mo_readAll_164 (L_Mo_readAll_52 fu') w (mput w μ1 S')) → L_Rd_readEdition_11 (fu + 1) r e (nI k) (rd r t (nI N) (nI q) (-1) S) = B_Rd_readEdition_93 (L_Rd_readEdition_11 fu) r e (nI k) (rd r t (nI N) p1 wr1 S1) → Sim f N 408 p1 wr1 μ1 → GrowI e (e + 4) 10 45 S S1 → mOnly X6 μ μ1 → (wr1 = -1 → ∃ E' l, EdAt S1 e dd E' ∧ edIs μ1 6 E' ∧ Adv l (nI (s + 1)) (-1) p1 wr1 ∧ edLen E' = edLen E + l + 2) → ∃ p' wr' μ' S1, L_Rd_readEdition_11 (fu + 1) r e (nI k) (rd r t (nI N) (nI q) (-1) S) = some (some e, rd r t (nI N) p' wr' S1) ∧ (∀ w S', gB2 (D_Mo_see w (mput w μ S')) (fun v6 S5 => L_Mo_readAll_52 (fu' + 1) w v6 S5) = some (mput w μ' S')) ∧ RdOut e dd N (10 * (N - q)) (45 * (N - q)) μ S wr' μ' S1 := by
      intro p1 wr1 μ1 S1 hr hcl hsi hg ho hw
      obtain ⟨p', wr', μ', S2, b1, b2, b3, b4, b5, b6⟩ := S_rowEnd (l := 0) (L := 0) (k := k) (fuel := fu) (fuel' := fu') hN ih (show q < N by omega) hd hk (by omega) (by omega) hC hR hF hsi hg (fun e => by
        obtain ⟨E', l, m1, m2, m3, m4⟩ := hw e
        have := (m3 e).2
        rw [pn_nI (by omega)] at this
        exact ⟨E', m1, m2, by omega, by omega⟩)
      refine ⟨p', wr', μ', S2, hcl.trans b1, fun w S' => ?_, b3, b4, ho.tr b5, b6⟩
      rw [see w S', ref w S', hr w S']; exact b2 w S'
    by_cases c1 : v = 112
    · obtain ⟨p1, wr1, μ1, S1, a1, a2, a3, a4, a5, a6⟩ := S_planRow hN (Nat.le_refl 400) (by omega) hSp hC hR1 hE hMp
      refine fin (fun w S' => ?_) ?_ a3 a4 (oP.tr a5) a6
      · rw [if_pos c1, a2 w S']; rfl
      · rw [cls, if_pos c1, a1]; rfl
    · by_cases c2 : v = 100
      · obtain ⟨p1, wr1, μ1, S1, a1, a2, a3, a4, a5, a6⟩ := S_defRow hN (Nat.le_refl 400) (by omega) hSp hC hR1 hE hMp
        refine fin (fun w S' => ?_) ?_ a3 a4 (oP.tr a5) a6
        · rw [if_neg c1, if_pos c2, a2 w S']; rfl
        · rw [cls, if_neg c1, if_pos c2, a1]; rfl
      · by_cases c3 : v = 115 ∧ ¬ (8 : Int32) ≤ nI E.2.2.1
        · have h8 : E.2.2.1 < 8 := by
            refine Nat.lt_of_not_le (fun hh => c3.2 ?_)
            exact nI_le (a := 8) (b := E.2.2.1) hh (by have := hE'.2.2.2.1; omega)
          obtain ⟨p1, wr1, μ1, S1, a1, a2, a3, a4, a5, a6⟩ := S_sbRow hN (Nat.le_refl 400) (by omega) hSp hC hR1 hE hMp h8
          refine fin (fun w S' => ?_) ?_ a3 a4 (oP.tr a5) a6
          · rw [if_neg c1, if_neg c2, if_pos c3, a2 w S']; rfl
          · rw [cls, if_neg c1, if_neg c2, if_pos c3, a1]; rfl
        · have hx : nI s ≠ -1 := nI_nm (by omega)
          have fs := S_failx (x := nI s) (B := 400) (Nat.le_refl 400) hN hx hSs
          refine fin (p1 := nI s) (wr1 := nI s) (μ1 := mI (mFail (mI μ 4 (nI s)) (nI s)) 4 (nI (s + 1))) (S1 := S) (fun w S' => ?_) ?_ ?_ ((GrowI.rf hC.fr).le (by omega) (by omega)) ((mSame.i4.tr mSame.fl).tr mSame.i4).on (fun e => absurd e hx)
          · rw [if_neg c1, if_neg c2, if_neg c3]
          · rw [cls, if_neg c1, if_neg c2, if_neg c3]
          · obtain ⟨f1, f2, f3⟩ := fs
            rcases f3 with ⟨x, -⟩ | ⟨-, g5, g6, -⟩
            · exact absurd x hx
            · exact ⟨by rw [mI_n (by decide)]; exact f1, f2, Or.inr ⟨hx, by rw [mI_n (by decide)]; exact g5, by rw [mI_n (by decide)]; exact g6, s + 1, by omega, mI_s⟩⟩
end RA
