/-! A DEFAULT'S ROW -/
section DR
variable {S S' : gS} {e r t q k ns N B : Nat} {d np nd n p wr : Int32} {gp gd gs : Nat → Option Nat} {f : Nat → Int32} {μ : mS} {E : EV}
theorem C_addDefault {fs : List Value} (hF : Fr S) (hr : S.1 r = none) (hE : EdF S e d gp gd gs np nd ns) (hq : S.1 q = some (.inr (4, fs))) (hk : k ≤ 9) : ∃ S', D_Ed_addDefault e (nI k) (some q) (rd r t n p wr S) = some (rd r t n p wr S') ∧ EdF S' e d gp (va_up gd k (some q)) gs np (nd + 1) ns ∧ GrowI e (e + 4) 0 0 S S' := by
  have nr : ∀ {q x}, S.1 q = some x → q ≠ r := fun hq hh => by rw [hh, hr] at hq; cases hq
  have hR := hE.rd (t := t) (n := n) (p := p) (wr := wr) hr
  have kq : (rd r t n p wr S).1 q = some (.inr (4, fs)) := by rw [rd_ne (nr hq)]; exact hq
  have k3 : (ar (rd r t n p wr S) (e + 2) 6 10 (va_up gd k (some q))).1 e = some (.inr (1, [.int d, .ref (e + 1), .ref (e + 2), .ref (e + 3), .int np, .int nd, .int (nI ns)])) := by rw [ar_n (by omega)]; exact hR.1
  refine ⟨ob (ar S (e + 2) 6 10 (va_up gd k (some q))) e 1 [.int d, .ref (e + 1), .ref (e + 2), .ref (e + 3), .int np, .int (nd + 1), .int (nI ns)], ?_, ⟨ob_a, by rw [ob_n (by omega), ar_n (by omega)]; exact hE.2.1, by rw [ob_n (by omega), ar_a], by rw [ob_n (by omega), ar_n (by omega)]; exact hE.2.2.2⟩, ⟨fun x hx hn => ?_, Nat.le_refl _, fun x hx => ?_, Nat.le_refl _, Nat.le_refl _⟩⟩
  · unfold D_Ed_addDefault B_Ed_addDefault_27
    rw [if_neg (nI_pos (by omega)), if_neg (show ¬ (9 : Int32) < nI k from nI_nlt (a := 9) (b := k) hk (by decide)), e_R hR.1 (k := 2) (q := e + 2) rfl]
    simp only [Option.bind_some]
    rw [e_SR hR.2.2.1 kq (by omega) (by decide)]
    simp only [Option.bind_some]
    rw [e_I k3 (k := 5) (v := nd) rfl]
    simp only [Option.bind_some]
    rw [e_P k3 (Nat.le_of_ble_eq_true rfl)]
    simp only [Option.bind_some]
    show some (ob (ar (Prod.mk _ _) (e + 2) 6 10 (va_up gd k (some q))) e 1 [.int d, .ref (e + 1), .ref (e + 2), .ref (e + 3), .int np, .int (nd + 1), .int (nI ns)]) = _
    rw [← rd_ob2 (nr hE.1), ← rd_ar (nr hE.2.2.1)]; rfl
  · rw [ob_n (by omega), ar_n (by omega)]
  · have l1 := hF.lt hE.1
    have l2 := hF.lt hE.2.2.1
    have : S.2.1 ≤ x := hx
    rw [ob_n (by omega), ar_n (by omega)]
    exact hF x this
theorem C_addStandby {fs : List Value} (hF : Fr S) (hr : S.1 r = none) (hE : EdF S e d gp gd gs np nd ns) (hq : S.1 q = some (.inr (8, fs))) (hk : ns < 8) : ∃ S', D_Ed_addStandby e (some q) (rd r t n p wr S) = some (rd r t n p wr S') ∧ EdF S' e d gp gd (va_up gs ns (some q)) np nd (ns + 1) ∧ GrowI e (e + 4) 0 0 S S' := by
  have nr : ∀ {q x}, S.1 q = some x → q ≠ r := fun hq hh => by rw [hh, hr] at hq; cases hq
  have hR := hE.rd (t := t) (n := n) (p := p) (wr := wr) hr
  have kq : (rd r t n p wr S).1 q = some (.inr (8, fs)) := by rw [rd_ne (nr hq)]; exact hq
  have k3 : (ar (rd r t n p wr S) (e + 3) 7 8 (va_up gs ns (some q))).1 e = some (.inr (1, [.int d, .ref (e + 1), .ref (e + 2), .ref (e + 3), .int np, .int nd, .int (nI ns)])) := by rw [ar_n (by omega)]; exact hR.1
  refine ⟨ob (ar S (e + 3) 7 8 (va_up gs ns (some q))) e 1 [.int d, .ref (e + 1), .ref (e + 2), .ref (e + 3), .int np, .int nd, .int (nI (ns + 1))], ?_, ⟨ob_a, by rw [ob_n (by omega), ar_n (by omega)]; exact hE.2.1, by rw [ob_n (by omega), ar_n (by omega)]; exact hE.2.2.1, by rw [ob_n (by omega), ar_a]⟩, ⟨fun x hx hn => ?_, Nat.le_refl _, fun x hx => ?_, Nat.le_refl _, Nat.le_refl _⟩⟩
  · unfold D_Ed_addStandby B_Ed_addStandby_27 D_Ed_hasRoomForStandby B_Ed_hasRoomForStandby_14
    rw [e_O hR.1, e_I hR.1 (k := 6) (v := nI ns) rfl]
    simp only [Option.bind_some]
    rw [if_neg (show ¬ (8 : Int32) ≤ nI ns from nI_ge (a := ns) (b := 8) hk (by decide))]
    simp only [gZ1, Option.bind_some, gB2_some]
    rw [if_neg (by decide), e_R hR.1 (k := 3) (q := e + 3) rfl, e_I hR.1 (k := 6) (v := nI ns) rfl]
    simp only [Option.bind_some]
    rw [e_SR hR.2.2.2 kq (by omega) (by decide)]
    simp only [Option.bind_some]
    rw [e_I k3 (k := 6) (v := nI ns) rfl]
    simp only [Option.bind_some]
    rw [e_P k3 (Nat.le_of_ble_eq_true rfl)]
    simp only [Option.bind_some, nI_1]
    show some (ob (ar (Prod.mk _ _) (e + 3) 7 8 (va_up gs ns (some q))) e 1 [.int d, .ref (e + 1), .ref (e + 2), .ref (e + 3), .int np, .int nd, .int (nI (ns + 1))]) = _
    rw [← rd_ob2 (nr hE.1), ← rd_ar (nr hE.2.2.2)]; rfl
  · rw [ob_n (by omega), ar_n (by omega)]
  · have l1 := hF.lt hE.1
    have l2 := hF.lt hE.2.2.2
    have : S.2.1 ≤ x := hx
    rw [ob_n (by omega), ar_n (by omega)]
    exact hF x this
theorem C_defEnd {l k c : Nat} {p' wr' : Int32} {V : Nat → Nat → Int32} {S9 : gS} (hC : Cx r t f S) (hE : EdF S e d gp gd gs np nd ns) (hk : k ≤ 9) (g : Grow 7 32 S S9) (hL : NLat S9 l c V) : ∃ S1, Option.bind (gOb (rd r t n p' wr' S9) e 1) (fun _ => Option.bind (D_Ed_addDefault e (nI k) (some l) (rd r t n p' wr' S9)) (fun S14 => some S14)) = some (rd r t n p' wr' S1) ∧ EdF S1 e d gp (va_up gd k (some l)) gs np (nd + 1) ns ∧ Kp lf2 S S1 ∧ NLat S1 l c V ∧ GrowI e (e + 4) 7 32 S S1 := by
  have hC9 := hC.grow g
  have hE9 := hE.gr hC.fr g
  obtain ⟨gg, l1, l2⟩ := hL
  obtain ⟨S1, a1, a2, a3⟩ := C_addDefault (t := t) (n := n) (p := p') (wr := wr') hC9.fr hC9.1 hE9 l1 hk
  have k1 := hE9.kk hC9.fr a3
  refine ⟨S1, ?_, a2, (g.kk hC.fr).tr k1, NLat.kk ⟨gg, l1, l2⟩ k1.l2, (g.gi.tr a3).le (by omega) (by omega)⟩
  rw [e_O (hE9.rd hC9.1).1]
  simp only [Option.bind_some, a1]
theorem S_def26 (hN : N ≤ 400) (hB : 400 ≤ B) (hB' : B ≤ 3000) (h : Sim f N B p (-1) μ) (hC : Cx r t f S) (hR : Rm 7 32 S) (hE : EdF S e d gp gd gs np nd ns) (hk : k ≤ 9) : ∃ (v : NV) (q : Nat) (p' wr' : Int32) (μ' : mS) (S1 : gS), B_Rd_readDefault_26 r (some e) (nI k) (rd r t (nI N) p (-1) S) = some (rd r t (nI N) p' wr' S1) ∧ (∀ w S', B_Mo_defaultRow_40 w (nI (340 + k)) (mput w μ S') = some (mput w μ' S')) ∧ Sim f N (B + 8) p' wr' μ' ∧ GrowI e (e + 4) 7 32 S S1 ∧ EdF S1 e d gp (va_up gd k (some q)) gs np (nd + 1) ns ∧ Kp lf2 S S1 ∧ NLat S1 q v.1 v.2 ∧ (1 ≤ v.1 ∧ v.1 ≤ 5) ∧ mOnly (XP (340 + k)) μ μ' ∧ (∃ l, Adv l p (-1) p' wr' ∧ dfLen k v = 1 + nlen (nI k) + l + 1) ∧ (wr' = -1 → μ'.2 3 (340 + k) = 1 ∧ ndIs μ' (340 + k) v.1 v.2) := by
  have hs : 340 + k < 350 := by omega
  obtain ⟨p7, wr7, μ7, i1, i2, i3, i4, i5⟩ := S_expect (x := 58) hN hB (by omega) (h.mA (j := 3) (i := 340 + k) (v := 1) (by decide)) hC.ne hC.tp (by decide)
  obtain ⟨c, V, p9, wr9, μ9, S9, j1, j2, j3, j4, j5, j6, j7, j8, ⟨l, j9, j10⟩, j11⟩ := S_needs hN (show 400 ≤ B + 1 by omega) (by omega) hs i3 hC hR
  obtain ⟨S1, y1, y2, y3, y4, y5⟩ := C_defEnd (t := t) (n := nI N) (p' := p9) (wr' := wr9) hC hE hk j4 j5
  refine ⟨(c, V), S.2.1, p9, wr9, μ9, S1, ?_, fun w S' => ?_, j3.up (by omega), y5, y2, y3, y4, ⟨j6, j7⟩, ?_, ⟨1 + l, i5.tr j9, ?_⟩, fun e => ⟨?_, j11 e⟩⟩
  · unfold B_Rd_readDefault_26
    simp only [rd_ob, Option.bind_some, i1, j1, gB2_some]
    exact y1
  · unfold B_Mo_defaultRow_40
    simp only [m_I5, Option.bind_some]
    rw [if_pos (h.w5.mpr rfl)]
    simp only [m_R10, Option.bind_some, gZ1, m_s3 hs, m_ob, i2 w S', j2 w S']
  · exact ((mOnly.wr (Or.inl ⟨by omega, rfl⟩)).tr i4.on).tr (j8.mo (fun j i hh => by
      rcases hh with hh | hh
      · exact Or.inl ⟨by omega, hh.2⟩
      · exact Or.inr hh))
  · show 1 + nlen (nI k) + nlLen V c + 1 = _
    rw [j10]
  · rw [j8.2 3 _ (fun x => by rcases x with x | x <;> omega), i4.1, mA_at]
theorem R_def26_w (hw : wr ≠ -1) (hC : Cx r t f S) (hR : Rm 7 32 S) (hE : EdF S e d gp gd gs np nd ns) (hk : k ≤ 9) : ∃ S1, B_Rd_readDefault_26 r (some e) (nI k) (rd r t n p wr S) = some (rd r t n p wr S1) ∧ GrowI e (e + 4) 7 32 S S1 := by
  obtain ⟨V, S9, j1, j2, j3⟩ := R_needs_w (n := n) (p := p) hw hC hR
  obtain ⟨S1, y1, -, -, -, y5⟩ := C_defEnd (t := t) (n := n) (p' := p) (wr' := wr) hC hE hk j2 j3
  refine ⟨S1, ?_, y5⟩
  unfold B_Rd_readDefault_26
  simp only [rd_ob, Option.bind_some, R_expect_w hw (x := 58) (by decide), j1, gB2_some]
  exact y1
theorem EdAt.def {v : NV} (h2 : plsAt S gp E) (h3 : dfsAt S gd E) (h4 : sbsAt S gs E) (h5 : E.2.2.1 ≤ 8) (h6 : E.1 0 = none) (h7 : E.2.1 0 = none) (hn : E.2.1 k = none) (hk0 : 1 ≤ k) (hk : k ≤ 9) (g : Kp lf2 S S') (hF : EdF S' e d gp (va_up gd k (some q)) gs (nI (cn E.1 41)) (nI (cn E.2.1 10) + 1) E.2.2.1) (hP : NLat S' q v.1 v.2) (hO : 1 ≤ v.1 ∧ v.1 ≤ 5) : EdAt S' e d (upD E k v) := by
  refine ⟨gp, va_up gd k (some q), gs, ?_, h2.kk g, fun i hi => ?_, h4.kk g, h5, h6, ?_⟩
  · have : cn (upD E k v).2.1 10 = cn E.2.1 10 + 1 := cn_up (by omega) hn
    rw [this, ← nI_1]; exact hF
  · by_cases hik : i = k
    · subst hik
      refine ⟨fun x => ?_, fun w hw => ⟨q, va_ups, ?_⟩⟩
      · simp [upD] at x
      · simp [upD] at hw
        rw [← hw]; exact ⟨hP, hO⟩
    · have e1 : (upD E k v).2.1 i = E.2.1 i := by simp [upD, hik]
      rw [e1]
      refine ⟨fun x => by rw [va_upn hik]; exact (h3 i hi).1 x, fun w hw => ?_⟩
      obtain ⟨q', m1, m2, m3⟩ := (h3 i hi).2 w hw
      exact ⟨q', by rw [va_upn hik]; exact m1, m2.kk g.l2, m3⟩
  · show (if 0 = k then some v else E.2.1 0) = none
    rw [if_neg (by omega)]; exact h7
theorem edIs.def {μ' : mS} {v : NV} (h : edIs μ 6 E) (o : mOnly (XP (340 + k)) μ μ') (hv : μ'.2 3 (340 + k) = 1 ∧ ndIs μ' (340 + k) v.1 v.2) (hk0 : 1 ≤ k) (hk : k ≤ 9) (hp : ∀ i w, i ≤ 40 → E.1 i = some w → w.2.1 ≤ 5) (hd : ∀ i w, i ≤ 9 → E.2.1 i = some w → w.1 ≤ 5) : edIs μ' 6 (upD E k v) := by
  obtain ⟨h1, h2, h3, h4⟩ := h
  refine ⟨fun i hi0 hi => ⟨fun x => ?_, fun w hw => ?_⟩, fun i hi0 hi => ?_, ?_, fun i hi c hc => ?_⟩
  · rw [o.2 3 _ (fun y => by rcases y with y | y <;> omega)]; exact (h1 i hi0 hi).1 x
  · exact ((h1 i hi0 hi).2 w hw).on o (by omega) (hp i w hi hw)
  · by_cases hik : i = k
    · subst hik
      refine ⟨fun x => ?_, fun w hw => ?_⟩
      · simp [upD] at x
      · simp [upD] at hw
        rw [← hw]; exact hv
    · have e1 : (upD E k v).2.1 i = E.2.1 i := by simp [upD, hik]
      rw [e1]
      refine ⟨fun x => ?_, fun w hw => ⟨?_, ?_⟩⟩
      · rw [o.2 3 _ (fun y => by rcases y with y | y <;> omega)]; exact (h2 i hi0 hi).1 x
      · rw [o.2 3 _ (fun y => by rcases y with y | y <;> omega)]; exact ((h2 i hi0 hi).2 w hw).1
      · exact ((h2 i hi0 hi).2 w hw).2.on o (by omega) (hd i w hi hw)
  · rw [o.2 13 _ (fun y => by rcases y with y | y <;> omega)]; exact h3
  · rw [o.2 14 _ (fun y => by rcases y with y | y <;> omega)]; exact h4 i hi c hc
theorem S_defRow (hN : N ≤ 400) (hB : 400 ≤ B) (hB' : B ≤ 3000) (h : Sim f N B p (-1) μ) (hC : Cx r t f S) (hR : Rm 10 45 S) (hE : EdAt S e d E) (hM : edIs μ 6 E) : ∃ (p' wr' : Int32) (μ' : mS) (S1 : gS), D_Rd_readDefault r (some e) (rd r t (nI N) p (-1) S) = some (rd r t (nI N) p' wr' S1) ∧ (∀ w S', D_Mo_defaultRow w (mput w μ S') = some (mput w μ' S')) ∧ Sim f N (B + 8) p' wr' μ' ∧ GrowI e (e + 4) 10 45 S S1 ∧ mOnly X6 μ μ' ∧ (wr' = -1 → ∃ E' l, EdAt S1 e d E' ∧ edIs μ' 6 E' ∧ Adv l p (-1) p' wr' ∧ edLen E' = edLen E + l + 2) := by
  obtain ⟨gp, gd, gs, hF, h2, h3, h4, h5, h6, h7⟩ := hE
  obtain ⟨v, p1, wr1, v', μ1, a1, a2, a3, a4, a5, a6, a7⟩ := S_number (a := 1) (b := 9) hN hB (by omega) h hC.ne hC.tp (Or.inr (by decide)) (by decide)
  obtain ⟨k, hk0, hk, rfl⟩ := rng_nat (lo := 1) (hi := 9) rfl rfl (by decide) (by decide) a5
  have hFr := hF.rd (r := r) (t := t) (n := nI N) (p := p1) (wr := wr1) hC.1
  have cls : D_Rd_readDefault r (some e) (rd r t (nI N) p (-1) S) = gNul (gd k) (B_Rd_readDefault_26 r (some e) (nI k) (rd r t (nI N) p1 wr1 S)) (fun _ => B_Rd_readDefault_26 r (some e) (nI k) (rd r t (nI N) p1 (rFail wr1 (p1 - 1)) S)) := by
    unfold D_Rd_readDefault
    simp only [rd_ob, Option.bind_some, a1, gB2_some]
    rw [e_O hFr.1]
    simp only [Option.bind_some]
    unfold D_Ed_defaultNeeds B_Ed_defaultNeeds_20
    rw [if_neg (nI_pos (by omega)), if_neg (show ¬ (9 : Int32) < nI k from nI_nlt (a := 9) (b := k) hk (by decide)), e_R hFr.1 (k := 2) (q := e + 2) rfl]
    simp only [Option.bind_some]
    rw [e_AR hFr.2.2.1 (by omega) (by decide)]
    simp only [Option.bind_some, gB2_some, rd_I2, rd_ob, R_fail]
  have ref : ∀ w S', D_Mo_defaultRow w (mput w μ S') = Option.bind (gI (mput w μ1 S') w 10 5) (fun v4 => (if v4 = 0 then Option.bind (gRf (mput w μ1 S') w 10 10) (fun r6 => Option.bind r6 (fun a7 => Option.bind (gAI (mput w μ1 S') a7 3 (340 + v')) (fun v8 => (if v8 = 0 then B_Mo_defaultRow_40 w (340 + v') (mput w μ1 S') else Option.bind (gI (mput w μ1 S') w 10 4) (fun v10 => Option.bind (gOb (mput w μ1 S') w 10) (fun _ => Option.bind (D_Mo_fail w (v10 - 1) (mput w μ1 S')) (fun S11 => B_Mo_defaultRow_40 w (340 + v') S11))))))) else B_Mo_defaultRow_40 w (340 + v') (mput w μ1 S'))) := by
    intro w S'
    unfold D_Mo_defaultRow
    simp only [m_ob, Option.bind_some, a2 w S', gB2_some]
  have wrong : ∀ {μx : mS} {wx : Int32}, wx ≠ -1 → Sim f N B p1 wx μx → ∀ w S' x, B_Mo_defaultRow_40 w x (mput w μx S') = some (mput w μx S') := by
    intro μx wx hwx hsx w S' x
    unfold B_Mo_defaultRow_40
    simp only [m_I5, Option.bind_some]
    rw [if_neg (fun e => hwx (hsx.w5.mp e))]
  have hR7 : Rm 7 32 S := hR.le (by omega) (by omega)
  by_cases hw : wr1 = -1
  · subst hw
    have ev := a7 rfl
    have hM1 : μ1.2 = μ.2 := a4.1
    cases hv : E.2.1 k with
    | some v0 =>
      obtain ⟨q, q1, -, -⟩ := (h3 k hk).2 v0 hv
      have hpn : 1 ≤ pn p1 := by have := (a6 rfl).2; have := @nlen_pos (nI k); omega
      obtain ⟨x1, x2⟩ := a3.m1 hN hpn
      have hsx := S_failx hB hN x2 a3
      obtain ⟨S1, y1, y2⟩ := R_def26_w (p := p1) (n := nI N) x2 hC hR7 hF hk
      refine ⟨p1, p1 - 1, mFail μ1 (p1 - 1), S1, ?_, fun w S' => ?_, hsx.up (by omega), y2.le (by omega) (by omega), (a4.on).tr mSame.fl.on, fun e => absurd e x2⟩
      · rw [cls, q1]
        exact y1
      · rw [ref w S', ev]
        simp only [m_I5, Option.bind_some, m_R10, nI340]
        rw [if_pos (a3.w5.mpr rfl), m_g3 (by omega), show μ1.2 3 (340 + k) = 1 by rw [hM1]; exact ((hM.2.1 k hk0 hk).2 v0 hv).1]
        simp only [Option.bind_some]
        rw [if_neg (by decide)]
        simp only [m_I4, m_ob, Option.bind_some, M_fail, x1]
        exact wrong x2 hsx w S' _
    | none =>
      obtain ⟨v, q, p', wr', μ', S1, b1, b2, b3, b4, b5, b6, b7, b8, b9, ⟨l, b10, b11⟩, b12⟩ := S_def26 hN hB hB' a3 hC hR7 hF hk
      refine ⟨p', wr', μ', S1, ?_, fun w S' => ?_, b3, b4.le (by omega) (by omega), a4.on.tr (b9.mo (fun j i hh => XP_6 (by omega) (by omega) hh)), fun e => ⟨upD E k v, nlen (nI k) + l, EdAt.def h2 h3 h4 h5 h6 h7 hv hk0 hk b6 b5 b7 b8, ?_, a6.tr b10, ?_⟩⟩
      · rw [cls, (h3 k hk).1 hv]
        exact b1
      · rw [ref w S', ev]
        simp only [m_I5, Option.bind_some, m_R10, nI340]
        rw [if_pos (a3.w5.mpr rfl), m_g3 (by omega), show μ1.2 3 (340 + k) = 0 by rw [hM1]; exact (hM.2.1 k hk0 hk).1 hv]
        simp only [Option.bind_some]
        rw [if_pos trivial]
        exact b2 w S'
      · have hM' : edIs μ1 6 E := by unfold edIs plIs stIs hrIs ndIs; rw [hM1]; exact hM
        exact hM'.def b9 (b12 e) hk0 hk (fun i w hi hw => by
          obtain ⟨-, -, -, m3⟩ := (h2 i hi).2 w hw
          exact m3.2.2.2.2.2) (fun i w hi hw => by
          obtain ⟨-, -, -, -, m3⟩ := (h3 i hi).2 w hw
          exact m3)
      · rw [upD_len (by omega) hv, b11]; omega
  · obtain ⟨S1, y1, y2⟩ := R_def26_w (p := p1) (n := nI N) hw hC hR7 hF hk
    refine ⟨p1, wr1, μ1, S1, ?_, fun w S' => ?_, a3.up (by omega), y2.le (by omega) (by omega), a4.on, fun e => absurd e hw⟩
    · rw [cls, show rFail wr1 (p1 - 1) = wr1 from if_neg hw]
      cases gd k with
      | none => exact y1
      | some _ => exact y1
    · rw [ref w S']
      simp only [m_I5, Option.bind_some]
      rw [if_neg (fun e => hw (a3.w5.mp e))]
      exact wrong hw a3 w S' _
end DR
