theorem R_need_w {r t : Nat} {n p wr : Int32} {S : gS} (hw : wr ≠ -1) (hr : r < S.2.1) (hR : Rm 1 5 S) : D_Rd_readNeed r (rd r t n p wr S) = some (some S.2.1, rd r t n p wr (ob (nx S 5) S.2.1 3 (NdV (vN 1 0 (-1) (-1) (-1))))) := by
  unfold D_Rd_readNeed B_Rd_readNeed_58
  simp only [rd_ob, Option.bind_some, R_number_w hw, gB2_some, R_skill_w hw, R_takes_w hw (x := 47) (by decide), R_takes_w hw (x := 126) (by decide)]
  rw [if_pos trivial, if_pos trivial, mkNd hr hR]
  rfl
theorem mkNL {r t : Nat} {f : Nat → Int32} {n p wr : Int32} {S : gS} (hC : Cx r t f S) (hR : Rm 2 7 S) (V : Nat → Nat → Int32) : ∃ T, (∀ {α : Type} (K : gS → Option α), Option.bind (gNw (rd r t n p wr S) 4 [.null, .int 0]) (fun S1 => Option.bind (D_NL_init S.2.1 S1) K) = K (rd r t n p wr T)) ∧ NLat T S.2.1 0 V ∧ Grow 2 7 S T := by
  have ha : S.2.1 ≠ r := by have := hC.2.1; omega
  have ha1 : S.2.1 + 1 ≠ r := by have := hC.2.1; omega
  refine ⟨ob (ar (nx (nx S 2) 5) (S.2.1 + 1) 8 5 (fun _ => none)) S.2.1 4 [.ref (S.2.1 + 1), .int 0], fun K => ?_, ⟨fun _ => none, ob_a, by rw [ob_n (by omega), ar_a], fun i hi => absurd hi (by omega)⟩, ⟨fun q hq => ?_, ?_, fun q hq => ?_, Nat.le_refl _, Nat.le_refl _⟩⟩
  · rw [gNw_rd (l := 2) rfl hC.2.1 (hR.le (by omega) (by omega))]
    simp only [Option.bind_some]
    unfold D_NL_init
    rw [gNA_rd (m := 5) (n := 5) rfl (by decide) (show r < S.2.1 + 1 by have := hC.2.1; omega) (show Rm 1 5 (ob (nx S 2) S.2.1 4 [.null, .int 0]) from ⟨by have := hR.1; show S.2.2.1 + 1 + 1 ≤ gC; omega, by have := hR.2; show S.2.2.2 + 2 + 5 ≤ gU; omega⟩)]
    simp only [Option.bind_some]
    have e : ar (nx (ob (nx S 2) S.2.1 4 [.null, .int 0]) 5) (ob (nx S 2) S.2.1 4 [.null, .int 0]).2.1 8 5 (fun _ => none) = ob (ar (nx (nx S 2) 5) (S.2.1 + 1) 8 5 (fun _ => none)) S.2.1 4 [.null, .int 0] := by
      refine Prod.ext ?_ rfl
      exact gup_comm (show S.2.1 ≠ S.2.1 + 1 by omega)
    rw [e, rd_put ha (Nat.le_of_ble_eq_true rfl)]
    simp only [Option.bind_some]
    rw [rd_put ha (Nat.le_of_ble_eq_true rfl)]
    rfl
  · rw [ob_n (by omega), ar_n (by omega)]; rfl
  · show S.2.1 ≤ S.2.1 + 1 + 1; omega
  · have : S.2.1 + 1 + 1 ≤ q := hq
    rw [ob_n (by omega), ar_n (by omega)]
    exact hC.fr q (by omega)
section NS
variable {f : Nat → Int32} {N B r t s : Nat} {p wr : Int32} {μ : mS} {S : gS}
theorem S_needs (hN : N ≤ 400) (hB : 400 ≤ B) (hB' : B ≤ 5000) (hs : s < 350) (h : Sim f N B p wr μ) (hC : Cx r t f S) (hR : Rm 7 32 S) : ∃ c V p' wr' μ' S1, D_Rd_readNeeds r (rd r t (nI N) p wr S) = some (some S.2.1, rd r t (nI N) p' wr' S1) ∧ (∀ w S', D_Mo_needsOf w (nI s) (mput w μ S') = some (mput w μ' S')) ∧ Sim f N B p' wr' μ' ∧ Grow 7 32 S S1 ∧ NLat S1 S.2.1 c V ∧ 1 ≤ c ∧ c ≤ 5 ∧ mOnly (XS s) μ μ' ∧ (∃ l, Adv l p wr p' wr' ∧ nlLen V c = 1 + l) ∧ (wr' = -1 → ndIs μ' s c V) := by
  obtain ⟨T0, k1, k2, k3⟩ := mkNL (n := nI N) (p := p) (wr := wr) hC (hR.le (k2 := 2) (u2 := 7) (by omega) (by omega)) (fun _ _ => 0)
  have hC0 := hC.grow k3
  have hR0 : Rm 5 25 T0 := hR.gr k3 (by omega) (by omega)
  have eO : ∀ {T : gS} {p wr : Int32} {c : Nat} {V : Nat → Nat → Int32}, Cx r t f T → NLat T S.2.1 c V → gOb (rd r t (nI N) p wr T) S.2.1 4 = some [.ref (S.2.1 + 1), .int (nI c)] := by
    intro T p wr c V hc hl
    obtain ⟨g, h1, -, -⟩ := hl
    exact e_O (by rw [rd_ne (hc.ner h1)]; exact h1)
  have cls : D_Rd_readNeeds r (rd r t (nI N) p wr S) = gB2 (D_Rd_readNeed r (rd r t (nI N) p wr T0)) (fun r4 S3 => Option.bind (gOb S3 S.2.1 4) (fun _ => Option.bind (D_NL_add S.2.1 r4 S3) (fun S6 => L_Rd_readNeeds_18 gF r S.2.1 1 S6))) := by
    unfold D_Rd_readNeeds
    rw [show (rd r t (nI N) p wr S).2.1 = S.2.1 from rfl, k1]
    simp only [rd_ob, Option.bind_some]
  by_cases hw : wr = -1
  · subst hw
    obtain ⟨v, p2, wr2, μ2, T2, b1, b2, b3, b4, b5, b6, b7, b8, b9⟩ := S_need (n := 25 * s) hN hB hB' (h.mA (j := 11) (i := s) (v := 0) (by decide)) hC0 (hR0.le (by omega) (by omega)) (by omega)
    have hC2 := hC0.grow b4
    have hL2 := k2.gr hC0.fr b4
    obtain ⟨T3, c1, c2, c3⟩ := NL_add (t := t) (n := nI N) (p := p2) (wr := wr2) hC2.fr hC2.1 hL2 (by omega) b5 b8
    obtain ⟨W, w1, w2⟩ := upV (V := fun _ _ => 0) (c := 0) (v := v)
    have hni := tape_ni hC2 hL2
    have hC3 := hC2.gi c3 hni.1 hni.2
    have hI1 : μ2.2 11 s = nI 0 := by rw [b6.2 11 s (fun h => by cases h.1), mA_at]; rfl
    obtain ⟨c', V', p', wr', μ', T', d1, d2, d3, d4, d5, d6, d7, d8, ⟨l, d9, d10⟩, d11⟩ := S_more (a := S.2.1) hN hB hB' hs 4 1 gF 999 p2 wr2 (mA μ2 11 s (nI 1)) T3 W (by omega) (by omega) (by omega) (by decide) (by decide) (b3.mA (by decide)) hC3 ((hR0.gr b4 (k2 := 4) (u2 := 5 * 4) (by omega) (by omega)).gi c3 (by omega) (by omega)) (c2 W w1 w2) (fun e => ⟨mA_at, fun i hi k hk => by
        rw [mA_n (by decide)]
        obtain rfl : i = 0 := by omega
        rw [w1]; exact b9 e k hk⟩)
    refine ⟨c', V', p', wr', μ', T', ?_, fun w S' => ?_, d3, ((k3.tr b4).ti (c3.tr d4) (Nat.le_refl _)).le (by omega) (by omega), d5, d6, d7, (((mOnly.wr (Or.inl ⟨rfl, rfl⟩)).tr (b6.mo ?_)).tr (mOnly.wr (Or.inl ⟨rfl, rfl⟩))).tr d8, ⟨ndLen v + l, b7.tr d9, ?_⟩, d11⟩
    · rw [cls, b1]
      simp only [gB2_some, eO hC2 hL2, Option.bind_some, c1]
      exact d1
    · unfold D_Mo_needsOf B_Mo_needsOf_19
      simp only [m_R18, Option.bind_some, m_s11 hs, m_I5, mA_1]
      rw [if_pos (h.w5.mpr rfl), show gF = 999 + 1 from rfl, L20_s, M_needs_20, if_neg (by decide)]
      simp only [m_R18, Option.bind_some, m_ob]
      rw [m_g11 hs, mA_at]
      simp only [Option.bind_some]
      rw [show 25 * nI s + 5 * 0 = nI (25 * s) by rw [show (25 : Int32) = nI 25 from rfl, show (5 : Int32) * 0 = nI 0 from rfl, pk_mul, nI_add]; rfl, b2 w S']
      simp only [m_R18, Option.bind_some]
      rw [m_g11 hs, hI1]
      simp only [Option.bind_some, nI_1]
      rw [m_s11 hs]
      exact d2 w S'
    · intro j i hx
      exact Or.inr ⟨hx.1, by have := hx.2; omega, by have := hx.2; omega⟩
    · rw [d10]
      show 0 + (1 + ndLen (W 0)) + l = _
      rw [w1]; omega
  · obtain ⟨T1, hT1⟩ : ∃ T1, T1 = ob (nx T0 5) T0.2.1 3 (NdV (vN 1 0 (-1) (-1) (-1))) := ⟨_, rfl⟩
    have g1 : Grow 1 5 T0 T1 := by rw [hT1]; exact Grow.new hC0.fr
    have hC1 := hC0.grow g1
    have hL1 := k2.gr hC0.fr g1
    have hok : ndOk (vN 1 0 (-1) (-1) (-1)) := ⟨by decide, by decide, Or.inl rfl, Or.inl rfl, Or.inl rfl⟩
    obtain ⟨T3, c1, c2, c3⟩ := NL_add (t := t) (n := nI N) (p := p) (wr := wr) (q := T0.2.1) (v := vN 1 0 (-1) (-1) (-1)) hC1.fr hC1.1 hL1 (by omega) (by rw [hT1]; exact ob_a) hok
    obtain ⟨W, w1, w2⟩ := upV (V := fun _ _ => 0) (c := 0) (v := vN 1 0 (-1) (-1) (-1))
    refine ⟨1, W, p, wr, mA μ 11 s 0, T3, ?_, fun w S' => ?_, h.mA (by decide), ((k3.tr g1).ti c3 (Nat.le_refl _)).le (by omega) (by omega), c2 W w1 w2, Nat.le_refl _, by omega, mOnly.wr (Or.inl ⟨rfl, rfl⟩), ⟨ndLen (W 0), fun e => absurd e hw, by show 0 + (1 + ndLen (W 0)) = _; omega⟩, fun e => absurd e hw⟩
    · rw [cls, R_need_w hw hC0.2.1 (hR0.le (by omega) (by omega)), ← hT1]
      simp only [gB2_some, eO hC1 hL1, Option.bind_some, c1]
      rw [show gF = 999 + 1 from rfl, L18_s]
      unfold B_Rd_readNeeds_18 B_Rd_readNeeds_46
      rw [if_neg (by decide)]
      simp only [rd_ob, Option.bind_some, R_takes_w hw (x := 44) (by decide), gB2_some]
      rw [if_pos trivial]
    · unfold D_Mo_needsOf B_Mo_needsOf_19
      simp only [m_R18, Option.bind_some, m_s11 hs, m_I5, mA_1]
      rw [if_neg (fun e => hw (h.w5.mp e)), show gF = 999 + 1 from rfl, L20_s, M_needs_20, if_pos rfl]
end NS
