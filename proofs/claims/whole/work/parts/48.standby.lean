/-! A STANDBY ROW -/
def mIfL (x0 : Nat) (x : Int32) (S : gS) (K : gS → Option gS) : Option gS := Option.bind (gI S x0 10 5) (fun v1 => (if v1 = 0 then Option.bind (gRf S x0 10 21) (fun r3 => Option.bind (gOb S x0 10) (fun _ => gB2 (D_Mo_letter x0 S) (fun v5 S4 => Option.bind r3 (fun a7 => Option.bind (gSI S4 a7 0 x v5) (fun S8 => K S8))))) else K S))
theorem M_sb_124 {x0 : Nat} {x1 : Int32} {S : gS} : B_Mo_standbyRow_124 x0 x1 S = mIfL x0 (x1 + 4) S (fun S1 => B_Mo_standbyRow_143 x0 S1) := rfl
theorem M_sb_96 {x0 : Nat} {x1 : Int32} {S : gS} : B_Mo_standbyRow_96 x0 x1 S = Option.bind (gOb S x0 10) (fun _ => Option.bind (D_Mo_expect x0 58 S) (fun S1 => mIf x0 21 1 9 (x1 + 3) S1 (fun S2 => B_Mo_standbyRow_124 x0 x1 S2))) := rfl
theorem M_sb_68 {x0 : Nat} {x1 : Int32} {S : gS} : B_Mo_standbyRow_68 x0 x1 S = Option.bind (gOb S x0 10) (fun _ => Option.bind (D_Mo_expect x0 93 S) (fun S1 => mIf x0 21 1 9 (x1 + 2) S1 (fun S2 => B_Mo_standbyRow_96 x0 x1 S2))) := rfl
theorem M_sb_40 {x0 : Nat} {x1 : Int32} {S : gS} : B_Mo_standbyRow_40 x0 x1 S = Option.bind (gOb S x0 10) (fun _ => Option.bind (D_Mo_expect x0 45 S) (fun S1 => mIf x0 21 0 23 (x1 + 1) S1 (fun S2 => B_Mo_standbyRow_68 x0 x1 S2))) := rfl
theorem M_sb {x0 : Nat} {S : gS} : D_Mo_standbyRow x0 S = Option.bind (gRf S x0 10 20) (fun r1 => Option.bind r1 (fun a2 => Option.bind (gAI S a2 0 6) (fun v3 => Option.bind (gOb S x0 10) (fun _ => Option.bind (D_Mo_expect x0 91 S) (fun S4 => mIf x0 21 0 23 (240 + (5 * v3)) S4 (fun S2 => B_Mo_standbyRow_40 x0 (240 + (5 * v3)) S2)))))) := rfl
section SR
variable {S : gS} {e r t N B s : Nat} {d p wr : Int32} {f : Nat → Int32} {μ : mS} {E : EV}
theorem S_letIf (hN : N ≤ 400) (hB : 400 ≤ B) (hB' : B ≤ 5000) (h : Sim f N B p wr μ) (hC : Cx r t f S) (hs : s < 280) : ∃ v p' wr' μ', D_Rd_readSkill r 0 (rd r t (nI N) p wr S) = some (v, rd r t (nI N) p' wr' S) ∧ (∀ w S' K, mIfL w (nI s) (mput w μ S') K = K (mput w μ' S')) ∧ Sim f N B p' wr' μ' ∧ mOnly (fun j' i' => j' = 14 ∧ i' = s) μ μ' ∧ rng v 0 7 = true ∧ Adv 1 p wr p' wr' ∧ (wr' = -1 → μ'.2 14 s = v) := by
  by_cases hw : wr = -1
  · subst hw
    obtain ⟨v, p', wr', μ1, a1, a2, a3, a4, a5, a6⟩ := S_skill hN hB hB' h hC.ne hC.tp
    refine ⟨v, p', wr', mA μ1 14 s v, a1, fun w S' K => ?_, a3.mA (by decide), a4.on.tr (mOnly.wr ⟨rfl, rfl⟩), a5, a6, fun e => mA_at⟩
    unfold mIfL
    simp only [m_I5, Option.bind_some, m_R21, m_ob, a2 w S', gB2_some, m_s14 hs]
    rw [if_pos (h.w5.mpr rfl)]
  · refine ⟨0, p, wr, μ, R_skill_w hw, fun w S' K => ?_, h, mSame.rf.on, by decide, fun e => absurd e hw, fun e => absurd e hw⟩
    unfold mIfL
    simp only [m_I5, Option.bind_some]
    rw [if_neg (fun e => hw (h.w5.mp e))]
theorem mkSb {n : Int32} {q h : Nat} {a b c : Int32} (hS : S.1 q = some (.inr (8, [.null, .int 0, .int 0, .int 0]))) (hq : q ≠ r) : D_Sb_init q (some h) a b c (rd r t n p wr S) = some (rd r t n p wr (ob S q 8 [.ref h, .int a, .int b, .int c])) := by
  have e : S = ob S q 8 [.null, .int 0, .int 0, .int 0] := by
    refine Prod.ext ?_ rfl
    funext i
    show S.1 i = gup S.1 q _ i
    by_cases hi : i = q
    · subst hi; rw [gup_self]; exact hS
    · rw [gup_ne hi]
  unfold D_Sb_init
  conv => lhs; rw [e]
  simp only [va_rf, Option.bind_some, rd_put hq, List.length, List.set, Nat.reduceAdd, Nat.reduceLT]
theorem S_sbRow (hN : N ≤ 400) (hB : 400 ≤ B) (hB' : B ≤ 3000) (h : Sim f N B p (-1) μ) (hC : Cx r t f S) (hR : Rm 10 45 S) (hE : EdAt S e d E) (hM : edIs μ 6 E) (h8 : E.2.2.1 < 8) : ∃ (p' wr' : Int32) (μ' : mS) (S1 : gS), D_Rd_readStandby r (some e) (rd r t (nI N) p (-1) S) = some (rd r t (nI N) p' wr' S1) ∧ (∀ w S', D_Mo_standbyRow w (mput w μ S') = some (mput w μ' S')) ∧ Sim f N (B + 8) p' wr' μ' ∧ GrowI e (e + 4) 10 45 S S1 ∧ mOnly X6 μ μ' ∧ (wr' = -1 → ∃ E' l, EdAt S1 e d E' ∧ edIs μ' 6 E' ∧ Adv l p (-1) p' wr' ∧ edLen E' = edLen E + l + 2) := by
  obtain ⟨gp, gd, gs, hF, h2, h3, h4, h5, h6, h7⟩ := hE
  obtain ⟨n, hn⟩ : ∃ n, n = E.2.2.1 := ⟨_, rfl⟩
  rw [← hn] at h8 hF
  obtain ⟨b, hb⟩ : ∃ b, b = 240 + 5 * n := ⟨_, rfl⟩
  obtain ⟨p1, w1, μ1, a1, a2, a3, a4, a5⟩ := S_expect (x := 91) hN hB (by omega) h hC.ne hC.tp (by decide)
  obtain ⟨x, p2, w2, μ2, b1, b2, b3, b4, b5, b6, b7⟩ := S_numIf (a := 0) (b := 23) (s := b) (j := 14) (fk := 21) hN (show 400 ≤ B + 1 by omega) (by omega) a3 hC (Or.inl rfl) (by decide) (by decide) (fun _ _ _ => m_R21) (fun _ _ _ _ => m_s14 (by omega))
  obtain ⟨p3, w3, μ3, c1, c2, c3, c4, c5⟩ := S_expect (x := 45) hN (show 400 ≤ B + 1 by omega) (by omega) b3 hC.ne hC.tp (by decide)
  obtain ⟨y, p4, w4, μ4, d1, d2, d3, d4, d5, d6, d7⟩ := S_numIf (a := 0) (b := 23) (s := b + 1) (j := 14) (fk := 21) hN (show 400 ≤ B + 1 + 1 by omega) (by omega) c3 hC (Or.inl rfl) (by decide) (by decide) (fun _ _ _ => m_R21) (fun _ _ _ _ => m_s14 (by omega))
  obtain ⟨p5, w5, μ5, e1, e2, e3, e4, e5⟩ := S_expect (x := 93) hN (show 400 ≤ B + 1 + 1 by omega) (by omega) d3 hC.ne hC.tp (by decide)
  have gA : Grow 1 4 S (ob (nx S 4) S.2.1 2 (HrV 1 x y)) := Grow.new hC.fr
  obtain ⟨SA, hSA⟩ : ∃ SA, SA = ob (nx S 4) S.2.1 2 (HrV 1 x y) := ⟨_, rfl⟩
  rw [← hSA] at gA
  have hA : SA.1 S.2.1 = some (.inr (2, HrV 1 x y)) := by rw [hSA]; exact ob_a
  have hCA := hC.grow gA
  have hRA : Rm 9 41 SA := hR.gr gA (by omega) (by omega)
  obtain ⟨cl, p6, w6, μ6, f1, f2, f3, f4, f5, f6, f7⟩ := S_numIf (a := 1) (b := 9) (s := b + 2) (j := 14) (fk := 21) hN (show 400 ≤ B + 1 + 1 + 1 by omega) (by omega) e3 hCA (Or.inr (by decide)) (by decide) (by decide) (fun _ _ _ => m_R21) (fun _ _ _ _ => m_s14 (by omega))
  obtain ⟨p7, w7, μ7, i1, i2, i3, i4, i5⟩ := S_expect (x := 58) hN (show 400 ≤ B + 1 + 1 + 1 by omega) (by omega) f3 hCA.ne hCA.tp (by decide)
  obtain ⟨un, p8, w8, μ8, j1, j2, j3, j4, j5, j6, j7⟩ := S_numIf (a := 1) (b := 9) (s := b + 3) (j := 14) (fk := 21) hN (show 400 ≤ B + 1 + 1 + 1 + 1 by omega) (by omega) i3 hCA (Or.inr (by decide)) (by decide) (by decide) (fun _ _ _ => m_R21) (fun _ _ _ _ => m_s14 (by omega))
  have gB : Grow 1 4 SA (ob (nx SA 4) SA.2.1 8 [.null, .int 0, .int 0, .int 0]) := Grow.new hCA.fr
  obtain ⟨SB, hSB⟩ : ∃ SB, SB = ob (nx SA 4) SA.2.1 8 [.null, .int 0, .int 0, .int 0] := ⟨_, rfl⟩
  rw [← hSB] at gB
  have hBq : SB.1 SA.2.1 = some (.inr (8, [.null, .int 0, .int 0, .int 0])) := by rw [hSB]; exact ob_a
  have hCB := hCA.grow gB
  obtain ⟨sk, p9, w9, μ9, k1, k2, k3, k4, k5, k6, k7⟩ := S_letIf (s := b + 4) hN (show 400 ≤ B + 1 + 1 + 1 + 1 by omega) (by omega) j3 hCB (by omega)
  have hne : SA.2.1 ≠ r := by have := hCA.2.1; omega
  have lB := hCB.fr.lt hBq
  obtain ⟨SD, hSD⟩ : ∃ SD, SD = ob SB SA.2.1 8 [.ref S.2.1, .int cl, .int un, .int sk] := ⟨_, rfl⟩
  have iD : GrowI SA.2.1 (SA.2.1 + 1) 0 0 SB SD := ⟨fun x _ hn => by rw [hSD]; exact ob_n (by omega), by rw [hSD]; exact Nat.le_refl _, fun x hx => by
    have : SB.2.1 ≤ x := by rw [hSD] at hx; exact hx
    rw [hSD, ob_n (by omega)]; exact hCB.fr x this, by rw [hSD]; exact Nat.le_refl _, by rw [hSD]; exact Nat.le_refl _⟩
  have gD := ((gA.tr (gB.ti iD (Nat.le_refl _)))).le (k' := 2) (u' := 8) (by omega) (by omega)
  have hCD := hC.grow gD
  have hED := hF.gr hC.fr gD
  have hDq : SD.1 SA.2.1 = some (.inr (8, [.ref S.2.1, .int cl, .int un, .int sk])) := by rw [hSD]; exact ob_a
  have hDA : SD.1 S.2.1 = some (.inr (2, HrV 1 x y)) := ((gB.ti iD (Nat.le_refl _))).kp hCA.fr hA
  obtain ⟨S1, z1, z2, z3⟩ := C_addStandby (t := t) (n := nI N) (p := p9) (wr := w9) hCD.fr hCD.1 hED hDq h8
  have kD := hED.kk hCD.fr z3
  have kS : Kp lf2 S S1 := (gD.kk hC.fr).tr kD
  have o9 : mOnly (fun j i => j = 14 ∧ b ≤ i ∧ i < b + 5) μ μ9 := (((((((a4.on.tr (b4.mo (fun j i hh => ⟨hh.1, by omega, by omega⟩))).tr c4.on).tr (d4.mo (fun j i hh => ⟨hh.1, by omega, by omega⟩))).tr e4.on).tr (f4.mo (fun j i hh => ⟨hh.1, by omega, by omega⟩))).tr i4.on).tr (j4.mo (fun j i hh => ⟨hh.1, by omega, by omega⟩))).tr (k4.mo (fun j i hh => ⟨hh.1, by omega, by omega⟩))
  have v13 : μ.2 13 6 = nI n := by rw [hn]; exact hM.2.2.1
  have v13' : μ9.2 13 6 = nI n := by rw [o9.2 13 6 (fun x => by omega)]; exact v13
  have eb : (240 : Int32) + 5 * nI n = nI b := by
    rw [show (5 : Int32) = nI 5 from rfl, pk_mul, show (240 : Int32) = nI 240 from rfl, nI_add, hb]
  refine ⟨p9, w9, mA μ9 13 6 (nI (n + 1)), S1, ?_, fun w S' => ?_, (k3.mA (by decide)).up (by omega), (gD.gi.tr z3).le (by omega) (by omega), (o9.mo ?_).tr (mOnly.wr (Or.inr (Or.inr (Or.inl ⟨rfl, rfl⟩)))), fun ee => ?_⟩
  · unfold D_Rd_readStandby D_Rd_readHours
    simp only [rd_ob, Option.bind_some, a1, b1, gB2_some, c1, d1, e1]
    rw [show (rd r t (nI N) p5 w5 S).2.1 = S.2.1 from rfl, mkHr (Or.inr rfl) hC.2.1 (hR.le (by omega) (by omega)), ← hSA]
    simp only [gB2_some, rd_ob, Option.bind_some, f1, i1, j1]
    rw [gNw_rd (l := 4) rfl hCA.2.1 (hRA.le (by omega) (by omega)), ← hSB]
    simp only [gB2_some, rd_ob, Option.bind_some, k1]
    rw [show (rd r t (nI N) p8 w8 SA).2.1 = SA.2.1 from rfl, mkSb hBq hne, ← hSD]
    simp only [Option.bind_some]
    rw [e_O (hED.rd hCD.1).1]
    simp only [Option.bind_some, z1]
  · rw [M_sb]
    simp only [m_R20, Option.bind_some]
    rw [show gAI (mput w μ S') (w + 13) 0 6 = some (μ.2 13 6) from m_g13 (i := 6) (by decide), v13]
    simp only [Option.bind_some, m_ob, a2 w S', eb]
    rw [b2 w S', M_sb_40]
    simp only [Option.bind_some, m_ob, c2 w S', nI_1]
    rw [d2 w S', M_sb_68]
    simp only [Option.bind_some, m_ob, e2 w S', nI_p2]
    rw [f2 w S', M_sb_96]
    simp only [Option.bind_some, m_ob, i2 w S', nI_p3]
    rw [j2 w S', M_sb_124, nI_p4, k2 w S']
    unfold B_Mo_standbyRow_143
    simp only [m_R20, Option.bind_some]
    rw [show gAI (mput w μ9 S') (w + 13) 0 6 = some (μ9.2 13 6) from m_g13 (i := 6) (by decide), v13']
    simp only [Option.bind_some, nI_1]
    rw [show gSI (mput w μ9 S') (w + 13) 0 6 (nI (n + 1)) = some (mput w (mA μ9 13 6 (nI (n + 1))) S') from m_s13 (i := 6) (by decide)]
    rfl
  · intro j i hh
    exact Or.inr (Or.inr (Or.inr ⟨hh.1, by omega, by omega⟩))
  · have W8 := (k6 ee).1
    have W7 := (j6 W8).1
    have W6 := (i5 W7).1
    have W5 := (f6 W6).1
    have W4 := (e5 W5).1
    have W3 := (d6 W4).1
    have W2 := (c5 W3).1
    refine ⟨upB E (vN x y cl un sk), 1 + nlen x + 1 + nlen y + 1 + nlen cl + 1 + nlen un + 1, ⟨gp, gd, va_up gs n (some SA.2.1), ?_, h2.kk kS, h3.kk kS, fun i hi => ?_, ?_, h6, h7⟩, ⟨fun i hi0 hi => ⟨fun x => ?_, fun w hw => ?_⟩, fun i hi0 hi => ⟨fun x => ?_, fun w hw => ⟨?_, ?_⟩⟩, ?_, fun i hi c hc => ?_⟩, ?_, ?_⟩
    · show EdF S1 e d gp gd (va_up gs n (some SA.2.1)) (nI (cn E.1 41)) (nI (cn E.2.1 10)) (E.2.2.1 + 1)
      rw [← hn]; exact z2
    · by_cases hin : i = n
      · have ev : (upB E (vN x y cl un sk)).2.2.2 i = vN x y cl un sk := by show (if i = E.2.2.1 then _ else _) = _; rw [if_pos (by omega)]
        rw [ev]
        exact ⟨SA.2.1, S.2.1, by rw [hin]; exact va_ups, kD _ _ hDq rfl, kD _ _ hDA rfl, b5, d5, f5, j5, k5⟩
      · have ev : (upB E (vN x y cl un sk)).2.2.2 i = E.2.2.2 i := by show (if i = E.2.2.1 then _ else _) = _; rw [if_neg (by omega)]
        rw [ev, va_upn hin]
        have hi' : i < E.2.2.1 + 1 := hi
        exact h4.kk kS i (by omega)
    · show E.2.2.1 + 1 ≤ 8; omega
    · rw [mA_n (by decide), o9.2 3 _ (fun x => by omega)]; exact (hM.1 i hi0 hi).1 x
    · obtain ⟨m1, m2, ⟨m3, m4⟩, ⟨m5, m6⟩, m7, m8, m9⟩ := (hM.1 i hi0 hi).2 w hw
      have K : ∀ j s, j ≠ 13 → j ≠ 14 → (mA μ9 13 6 (nI (n + 1))).2 j s = μ.2 j s := fun j s hj hj2 => by rw [mA_n hj, o9.2 j _ (fun x => by omega)]
      unfold plIs stIs hrIs ndIs
      rw [K 3 _ (by decide) (by decide), K 4 _ (by decide) (by decide), K 5 _ (by decide) (by decide), K 6 _ (by decide) (by decide), K 7 _ (by decide) (by decide), K 8 _ (by decide) (by decide), K 9 _ (by decide) (by decide), K 10 _ (by decide) (by decide), K 11 _ (by decide) (by decide)]
      refine ⟨m1, m2, ⟨m3, m4⟩, ⟨m5, m6⟩, m7, m8, fun i hi k hk => ?_⟩
      rw [K 12 _ (by decide) (by decide)]; exact m9 i hi k hk
    · rw [mA_n (by decide), o9.2 3 _ (fun x => by omega)]; exact (hM.2.1 i hi0 hi).1 x
    · rw [mA_n (by decide), o9.2 3 _ (fun x => by omega)]; exact ((hM.2.1 i hi0 hi).2 w hw).1
    · obtain ⟨-, m8, m9⟩ := (hM.2.1 i hi0 hi).2 w hw
      refine ⟨by rw [mA_n (by decide), o9.2 11 _ (fun x => by omega)]; exact m8, fun i hi k hk => ?_⟩
      rw [mA_n (by decide), o9.2 12 _ (fun x => by omega)]; exact m9 i hi k hk
    · rw [mA_at]; show nI (n + 1) = nI (E.2.2.1 + 1); rw [hn]
    · rw [mA_n (by decide)]
      by_cases hin : i = n
      · have ev : (upB E (vN x y cl un sk)).2.2.2 i = vN x y cl un sk := by show (if i = E.2.2.1 then _ else _) = _; rw [if_pos (by omega)]
        rw [ev, show 40 * 6 + 5 * i + c = b + c by omega]
        have q9 : ∀ c, c < 4 → μ9.2 14 (b + c) = μ8.2 14 (b + c) := fun c hc => k4.2 14 _ (fun x => by omega)
        have q7 : ∀ c, c < 3 → μ8.2 14 (b + c) = μ6.2 14 (b + c) := fun c hc => by rw [j4.2 14 _ (fun x => by omega), i4.1]
        have q5 : ∀ c, c < 2 → μ6.2 14 (b + c) = μ4.2 14 (b + c) := fun c hc => by rw [f4.2 14 _ (fun x => by omega), e4.1]
        have q3 : μ4.2 14 (b + 0) = μ2.2 14 b := by rw [d4.2 14 _ (fun x => by omega), c4.1]; rfl
        match c, hc with
        | 0, _ => rw [q9 0 (by decide), q7 0 (by decide), q5 0 (by decide), q3]; exact b7 W2
        | 1, _ => rw [q9 1 (by decide), q7 1 (by decide), q5 1 (by decide)]; exact d7 W4
        | 2, _ => rw [q9 2 (by decide), q7 2 (by decide)]; exact f7 W6
        | 3, _ => rw [q9 3 (by decide)]; exact j7 W8
        | 4, _ => exact k7 ee
      · have ev : (upB E (vN x y cl un sk)).2.2.2 i = E.2.2.2 i := by show (if i = E.2.2.1 then _ else _) = _; rw [if_neg (by omega)]
        have hi' : i < E.2.2.1 + 1 := hi
        rw [ev, o9.2 14 _ (fun x => by omega)]; exact hM.2.2.2 i (by omega) c hc
    · exact (((((((a5.tr b6).tr c5).tr d6).tr e5).tr f6).tr i5).tr j6).tr k6
    · rw [upB_len]
      show _ + (1 + (1 + nlen x) + (1 + nlen y) + (1 + nlen cl) + (1 + nlen un) + 1 + 1) = _
      omega
end SR
