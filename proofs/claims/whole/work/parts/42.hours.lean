/-! HOURS, STRETCHES, NUMBERS THAT ARE READ WHEN NOTHING IS WRONG -/
def HrV (o a b : Int32) : List Value := [.int o, .int a, .int b, .int (hb a b 24)]
def SxV (s a b : Int32) : List Value := [.int s, .int a, .int b]
theorem mkHr {r t : Nat} {n p wr o a b : Int32} {S : gS} (ho : o = 0 ∨ o = 1) (hr : r < S.2.1) (hR : Rm 1 4 S) {α : Type} (K : gS → Option α) : Option.bind (gNw (rd r t n p wr S) 2 [.int 0, .int 0, .int 0, .int 0]) (fun S1 => Option.bind (D_Hr_init S.2.1 o a b S1) K) = K (rd r t n p wr (ob (nx S 4) S.2.1 2 (HrV o a b))) := by
  have ha : S.2.1 ≠ r := by omega
  unfold D_Hr_init gZo
  rw [gNw_rd (l := 4) rfl hr hR, if_pos ho]
  simp only [Option.bind_some, rd_put ha, List.length, List.set, Nat.reduceAdd, Nat.reduceLT, C_bits, gB2_some]
  rfl
theorem mkSx0 {r t : Nat} {n p wr : Int32} {S : gS} (hr : r < S.2.1) (hR : Rm 1 3 S) : gNw (rd r t n p wr S) 9 [.int 0, .int 0, .int 0] = some (rd r t n p wr (ob (nx S 3) S.2.1 9 (SxV 0 0 0))) := gNw_rd (l := 3) rfl hr hR
theorem mkSx1 {r t q : Nat} {n p wr s a b x y z : Int32} {S : gS} (h : S.1 q = some (.inr (9, SxV x y z))) (hq : q ≠ r) : D_Sx_init q s a b (rd r t n p wr S) = some (rd r t n p wr (ob S q 9 (SxV s a b))) := by
  have e : S = ob S q 9 (SxV x y z) := by
    refine Prod.ext ?_ rfl
    funext i
    show S.1 i = gup S.1 q _ i
    by_cases hi : i = q
    · subst hi; rw [gup_self]; exact h
    · rw [gup_ne hi]
  unfold D_Sx_init
  conv => lhs; rw [e]
  simp only [SxV, Option.bind_some, rd_put hq, List.length, List.set, Nat.reduceAdd, Nat.reduceLT]
def mIf (x0 fk : Nat) (a b x : Int32) (S1 : gS) (K : gS → Option gS) : Option gS := Option.bind (gI S1 x0 10 5) (fun v15 => (if v15 = 0 then Option.bind (gRf S1 x0 10 fk) (fun r17 => Option.bind (gOb S1 x0 10) (fun _ => gB2 (D_Mo_number x0 a b S1) (fun v19 S18 => Option.bind r17 (fun a21 => Option.bind (gSI S18 a21 0 x v19) (fun S22 => K S22))))) else K S1))
section HR
variable {f : Nat → Int32} {N B r t s j fk : Nat} {p wr a b : Int32} {μ : mS} {S : gS}
theorem S_numIf (hN : N ≤ 400) (hB : 400 ≤ B) (hB' : B ≤ 5000) (h : Sim f N B p wr μ) (hC : Cx r t f S) (ha : a = 0 ∨ 0 < a) (hab : a ≤ b) (hj : j ≠ 1) (h1 : ∀ (w : Nat) (μ : mS) (S : gS), gRf (mput w μ S) w 10 fk = some (some (w + j))) (h2 : ∀ (w : Nat) (μ : mS) (S : gS) (v : Int32), gSI (mput w μ S) (w + j) 0 (nI s) v = some (mput w (mA μ j s v) S)) : ∃ v p' wr' μ', D_Rd_readNumber r a b (rd r t (nI N) p wr S) = some (v, rd r t (nI N) p' wr' S) ∧ (∀ w S' K, mIf w fk a b (nI s) (mput w μ S') K = K (mput w μ' S')) ∧ Sim f N B p' wr' μ' ∧ mOnly (fun j' i' => j' = j ∧ i' = s) μ μ' ∧ rng v a b = true ∧ Adv (nlen v) p wr p' wr' ∧ (wr' = -1 → μ'.2 j s = v) := by
  by_cases hw : wr = -1
  · subst hw
    obtain ⟨v, p', wr', v', μ1, a1, a2, a3, a4, a5, a6, a7⟩ := S_number hN hB hB' h hC.ne hC.tp ha hab
    refine ⟨v, p', wr', mA μ1 j s v', a1, fun w S' K => ?_, a3.mA hj, a4.on.tr (mOnly.wr ⟨rfl, rfl⟩), a5, a6, fun e => by rw [mA_at]; exact a7 e⟩
    unfold mIf
    simp only [m_I5, Option.bind_some, h1, m_ob, a2 w S', gB2_some, h2]
    rw [if_pos (h.w5.mpr rfl)]
  · refine ⟨a, p, wr, μ, R_number_w hw, fun w S' K => ?_, h, mSame.rf.on, by rw [rng_spec]; exact ⟨by rw [Int32.le_iff_toInt_le]; omega, hab⟩, fun e => absurd e hw, fun e => absurd e hw⟩
    unfold mIf
    simp only [m_I5, Option.bind_some]
    rw [if_neg (fun e => hw (h.w5.mp e))]
theorem S_hours (hN : N ≤ 400) (hB : 400 ≤ B) (hB' : B ≤ 4000) (h : Sim f N B p wr μ) (hC : Cx r t f S) (hs : s < 350) (hR : Rm 1 4 S) : ∃ x y p' wr' μ' S1, D_Rd_readHours r (rd r t (nI N) p wr S) = some (some S.2.1, rd r t (nI N) p' wr' S1) ∧ (∀ w S', D_Mo_hours w (nI s) (mput w μ S') = some (mput w μ' S')) ∧ Sim f N (B + 2) p' wr' μ' ∧ Grow 1 4 S S1 ∧ S1.1 S.2.1 = some (.inr (2, HrV 1 x y)) ∧ mOnly (fun j i => (j = 8 ∨ j = 9) ∧ i = s) μ μ' ∧ rng x 0 23 = true ∧ rng y 0 23 = true ∧ Adv (nlen x + 1 + nlen y + 1) p wr p' wr' ∧ (wr' = -1 → μ'.2 8 s = x ∧ μ'.2 9 s = y) := by
  obtain ⟨x, p1, wr1, x', μ1, a1, a2, a3, a4, a5, a6, a7⟩ := S_number (a := 0) (b := 23) hN hB (by omega) h hC.ne hC.tp (Or.inl rfl) (by decide)
  obtain ⟨p2, wr2, μ2, b1, b2, b3, b4, b5⟩ := S_expect (x := 45) hN hB (by omega) (a3.mA (j := 8) (i := s) (v := x') (by decide)) hC.ne hC.tp (by decide)
  obtain ⟨y, p3, wr3, y', μ3, c1, c2, c3, c4, c5, c6, c7⟩ := S_number (a := 0) (b := 23) hN (show 400 ≤ B + 1 by omega) (by omega) b3 hC.ne hC.tp (Or.inl rfl) (by decide)
  obtain ⟨p4, wr4, μ4, d1, d2, d3, d4, d5⟩ := S_expect (x := 93) hN (show 400 ≤ B + 1 by omega) (by omega) (c3.mA (j := 9) (i := s) (v := y') (by decide)) hC.ne hC.tp (by decide)
  refine ⟨x, y, p4, wr4, μ4, _, ?_, fun w S' => ?_, d3, Grow.new hC.fr, ob_a, ((((a4.on.tr (mOnly.wr ⟨Or.inl rfl, rfl⟩)).tr b4.on).tr c4.on).tr (mOnly.wr ⟨Or.inr rfl, rfl⟩)).tr d4.on, a5, c5, ((a6.tr b5).tr c6).tr d5, fun e => ?_⟩
  · unfold D_Rd_readHours
    simp only [rd_ob, Option.bind_some, a1, gB2_some, b1, c1, d1]
    rw [show (rd r t (nI N) p4 wr4 S).2.1 = S.2.1 from rfl, mkHr (Or.inr rfl) hC.2.1 hR]
  · unfold D_Mo_hours
    simp only [m_R15, m_R16, m_ob, Option.bind_some, a2 w S', gB2_some, m_s8 hs, b2 w S', c2 w S', m_s9 hs, d2 w S']
  · have w3 := (d5 e).1
    have w2 := (c6 w3).1
    have w1 := (b5 w2).1
    refine ⟨?_, ?_⟩
    · rw [d4.1, mA_n (by decide), c4.1, b4.1, mA_at]; exact a7 w1
    · rw [d4.1, mA_at]; exact c7 w3
end HR
