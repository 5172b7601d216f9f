/-! A PLAN'S STRETCH AND HOURS; NEEDS WHEN ALL IS WRONG -/
def lf : gE → Bool
  | .inr (c, _) => c == 2 || c == 3 || c == 4 || c == 9
  | .inl (t, _) => t == 8
def lf2 : gE → Bool
  | .inr (c, _) => c == 2 || c == 3 || c == 4 || c == 9 || c == 5 || c == 8
  | .inl (t, _) => t == 8
/-- cells of the kinds P are kept -/
def Kp (P : gE → Bool) (S S' : gS) : Prop := ∀ q e, S.1 q = some e → P e = true → S'.1 q = some e
theorem Kp.tr {P : gE → Bool} {a b c : gS} (h : Kp P a b) (g : Kp P b c) : Kp P a c := fun q e hq hp => g q e (h q e hq hp) hp
theorem Grow.kk {P : gE → Bool} {k u : Nat} {S S' : gS} (g : Grow k u S S') (hF : Fr S) : Kp P S S' := fun _ _ hq _ => g.kp hF hq
theorem Kp.l2 {S S' : gS} (h : Kp lf2 S S') : Kp lf S S' := fun q e hq hp => h q e hq (by
  revert hp
  cases e with
  | inl x => exact id
  | inr x => simp only [lf, lf2, Bool.or_eq_true]; intro hp; exact Or.inl (Or.inl hp))
theorem NLat.kk {S S' : gS} {a c : Nat} {V : Nat → Nat → Int32} (h : NLat S a c V) (g : Kp lf S S') : NLat S' a c V := by
  obtain ⟨k, h1, h2, h3⟩ := h
  refine ⟨k, g _ _ h1 rfl, g _ _ h2 rfl, fun i hi => ?_⟩
  obtain ⟨m1, q, m2, m3⟩ := h3 i hi
  exact ⟨m1, q, m2, g _ _ m3 rfl⟩
theorem R_needs_w {r t : Nat} {f : Nat → Int32} {n p wr : Int32} {S : gS} (hw : wr ≠ -1) (hC : Cx r t f S) (hR : Rm 7 32 S) : ∃ V S1, D_Rd_readNeeds r (rd r t n p wr S) = some (some S.2.1, rd r t n p wr S1) ∧ Grow 7 32 S S1 ∧ NLat S1 S.2.1 1 V := by
  obtain ⟨T0, k1, k2, k3⟩ := mkNL (n := n) (p := p) (wr := wr) hC (hR.le (k2 := 2) (u2 := 7) (by omega) (by omega)) (fun _ _ => 0)
  have hC0 := hC.grow k3
  have hR0 : Rm 5 25 T0 := hR.gr k3 (by omega) (by omega)
  obtain ⟨T1, hT1⟩ : ∃ T1, T1 = ob (nx T0 5) T0.2.1 3 (NdV (vN 1 0 (-1) (-1) (-1))) := ⟨_, rfl⟩
  have g1 : Grow 1 5 T0 T1 := by rw [hT1]; exact Grow.new hC0.fr
  have hC1 := hC0.grow g1
  have hL1 := k2.gr hC0.fr g1
  have hok : ndOk (vN 1 0 (-1) (-1) (-1)) := ⟨by decide, by decide, Or.inl rfl, Or.inl rfl, Or.inl rfl⟩
  obtain ⟨T3, c1, c2, c3⟩ := NL_add (t := t) (n := n) (p := p) (wr := wr) (q := T0.2.1) (v := vN 1 0 (-1) (-1) (-1)) hC1.fr hC1.1 hL1 (by omega) (by rw [hT1]; exact ob_a) hok
  obtain ⟨W, w1, w2⟩ := upV (V := fun _ _ => 0) (c := 0) (v := vN 1 0 (-1) (-1) (-1))
  refine ⟨W, T3, ?_, ((k3.tr g1).ti c3 (Nat.le_refl _)).le (by omega) (by omega), c2 W w1 w2⟩
  unfold D_Rd_readNeeds
  rw [show (rd r t n p wr S).2.1 = S.2.1 from rfl, k1]
  simp only [rd_ob, Option.bind_some]
  rw [R_need_w hw hC0.2.1 (hR0.le (by omega) (by omega)), ← hT1]
  obtain ⟨g, l1, -, -⟩ := hL1
  simp only [gB2_some]
  rw [e_O (by rw [rd_ne (hC1.ner l1)]; exact l1)]
  simp only [Option.bind_some, c1]
  rw [show gF = 999 + 1 from rfl, L18_s]
  unfold B_Rd_readNeeds_18 B_Rd_readNeeds_46
  rw [if_neg (by decide)]
  simp only [rd_ob, Option.bind_some, R_takes_w hw (x := 44) (by decide), gB2_some]
  rw [if_pos trivial]
/-- a stretch's numbers -/
def stOk (a b c : Int32) : Prop := (a = 0 ∧ b = 1 ∧ c = 999) ∨ (rng a 1 99 = true ∧ rng b 1 999 = true ∧ rng c b 999 = true)
def hrOk (o a b : Int32) : Prop := (o = 0 ∧ a = 0 ∧ b = 23) ∨ (o = 1 ∧ rng a 0 23 = true ∧ rng b 0 23 = true)
def stLen (a b c : Int32) : Nat := if a = 0 then 0 else 1 + (nlen a + 1 + nlen b + 1 + nlen c)
def hrLen (o a b : Int32) : Nat := if o = 0 then 0 else 1 + (nlen a + 1 + nlen b + 1)
def stIs (μ : mS) (s : Nat) (a b c : Int32) : Prop := μ.2 5 s = a ∧ (a ≠ 0 → μ.2 6 s = b ∧ μ.2 7 s = c)
def hrIs (μ : mS) (s : Nat) (o a b : Int32) : Prop := (o = 0 → μ.2 8 s = -1) ∧ (o ≠ 0 → μ.2 8 s = a ∧ μ.2 9 s = b)
def cSt (x0 : Nat) (S : gS) (K : Option Nat → gS → Option gS) : Option gS := gB2 (D_Rd_takes x0 64 S) (fun v7 S6 => (if v7 = 0 then Option.bind (gNw S6 9 [.int 0, .int 0, .int 0]) (fun S10 => Option.bind (D_Sx_init S6.2.1 0 1 999 S10) (fun S11 => K (some S6.2.1) S11)) else Option.bind (gOb S6 x0 7) (fun _ => gB2 (D_Rd_readStretch x0 S6) (fun r13 S12 => K r13 S12))))
def cHr (x0 : Nat) (S : gS) (K : Option Nat → gS → Option gS) : Option gS := gB2 (D_Rd_takes x0 91 S) (fun v2 S1 => (if v2 = 0 then Option.bind (gNw S1 2 [.int 0, .int 0, .int 0, .int 0]) (fun S5 => Option.bind (D_Hr_init S1.2.1 0 0 23 S5) (fun S6 => K (some S1.2.1) S6)) else Option.bind (gOb S1 x0 7) (fun _ => gB2 (D_Rd_readHours x0 S1) (fun r8 S7 => K r8 S7))))
theorem R_plan_26 {x0 : Nat} {x1 : Option Nat} {x2 : Int32} {S : gS} : B_Rd_readPlan_26 x0 x1 x2 S = Option.bind (gOb S x0 7) (fun _ => Option.bind (D_Rd_expect x0 107 S) (fun S1 => Option.bind (gOb S1 x0 7) (fun _ => gB2 (D_Rd_readNumber x0 1 9 S1) (fun v4 S3 => Option.bind (gOb S3 x0 7) (fun _ => cSt x0 S3 (fun t S4 => B_Rd_readPlan_68 x0 x1 x2 v4 t S4)))))) := rfl
theorem R_plan_68 {x0 : Nat} {x1 : Option Nat} {x2 x3 : Int32} {t0 : Option Nat} {S : gS} : B_Rd_readPlan_68 x0 x1 x2 x3 t0 S = Option.bind (gOb S x0 7) (fun _ => cHr x0 S (fun t S4 => B_Rd_readPlan_97 x0 x1 x2 x3 t0 t S4)) := rfl
theorem cSt_n {r t : Nat} {f : Nat → Int32} {n p p' wr : Int32} {S : gS} (hC : Cx r t f S) (hR : Rm 1 3 S) (h : D_Rd_takes r 64 (rd r t n p wr S) = some (0, rd r t n p' wr S)) (K : Option Nat → gS → Option gS) : cSt r (rd r t n p wr S) K = K (some S.2.1) (rd r t n p' wr (ob (nx S 3) S.2.1 9 (SxV 0 1 999))) := by
  unfold cSt
  rw [h]
  have hne : S.2.1 ≠ r := by have := hC.2.1; omega
  have hob : ∀ x y z, ob (ob (nx S 3) S.2.1 9 (SxV 0 0 0)) S.2.1 9 (SxV x y z) = ob (nx S 3) S.2.1 9 (SxV x y z) := fun x y z => Prod.ext gup_gup rfl
  simp only [gB2_some]
  rw [if_pos trivial, mkSx0 hC.2.1 hR]
  simp only [Option.bind_some]
  rw [show (rd r t n p' wr S).2.1 = S.2.1 from rfl, mkSx1 ob_a hne, hob]
  rfl
theorem cHr_n {r t : Nat} {f : Nat → Int32} {n p p' wr : Int32} {S : gS} (hC : Cx r t f S) (hR : Rm 1 4 S) (h : D_Rd_takes r 91 (rd r t n p wr S) = some (0, rd r t n p' wr S)) (K : Option Nat → gS → Option gS) : cHr r (rd r t n p wr S) K = K (some S.2.1) (rd r t n p' wr (ob (nx S 4) S.2.1 2 (HrV 0 0 23))) := by
  unfold cHr
  rw [h]
  simp only [gB2_some]
  rw [if_pos trivial, show (rd r t n p' wr S).2.1 = S.2.1 from rfl, mkHr (Or.inl rfl) hC.2.1 hR]
section SA
variable {f : Nat → Int32} {N B r t s : Nat} {p wr : Int32} {μ : mS} {S : gS}
theorem bI_f : bI false = 0 := rfl
theorem bI_t : bI true = 1 := rfl
theorem rng_ne0 {a b : Int32} (h : rng a 1 b = true) : a ≠ 0 := fun e => by
  rw [rng_spec, e] at h
  exact absurd h.1 (by decide)
theorem S_str (hN : N ≤ 400) (hB : 400 ≤ B) (hB' : B ≤ 4000) (hs : s < 350) (h : Sim f N B p wr μ) (hC : Cx r t f S) (hR : Rm 1 3 S) (h0 : μ.2 5 s = 0) : ∃ a b c p' wr' μ' S1, (∀ K, cSt r (rd r t (nI N) p wr S) K = K (some S.2.1) (rd r t (nI N) p' wr' S1)) ∧ (∀ w S', B_Mo_planRow_95 w (nI s) (mput w μ S') = B_Mo_planRow_176 w (nI s) (mput w μ' S')) ∧ Sim f N (B + 2) p' wr' μ' ∧ Grow 1 3 S S1 ∧ S1.1 S.2.1 = some (.inr (9, SxV a b c)) ∧ mOnly (fun j i => (j = 5 ∨ j = 6 ∨ j = 7) ∧ i = s) μ μ' ∧ stOk a b c ∧ Adv (stLen a b c) p wr p' wr' ∧ (wr' = -1 → stIs μ' s a b c) := by
  obtain ⟨v, p1, μ1, a1, a2, a3, a4, a5, a6⟩ := S_takes (x := 64) hN (by omega) h hC.ne hC.tp (by decide)
  cases v with
  | false =>
    refine ⟨0, 1, 999, p1, wr, μ1, _, fun K => cSt_n hC hR a1 K, fun w S' => ?_, a3.up (by omega), Grow.new hC.fr, ob_a, a4.on, Or.inl ⟨rfl, rfl, rfl⟩, a5, fun _ => ⟨by rw [a4.1]; exact h0, fun e => absurd rfl e⟩⟩
    rw [M_plan_95]
    simp only [m_ob, Option.bind_some, a2 w S', gB2_some, bI_f]
    rw [if_pos trivial]
  | true =>
    have hw := a6 rfl
    subst hw
    obtain ⟨st, fr, to, p2, wr2, μ2, S2, b1, b2, b3, b4, b5, b6, b7, b8, b9, b10, b11⟩ := S_stretch hN hB hB' a3 hC hs hR
    refine ⟨st, fr, to, p2, wr2, μ2, S2, fun K => ?_, fun w S' => ?_, b3, b4, b5, a4.on.tr b6, Or.inr ⟨b7, b8, b9⟩, ?_, fun e => ⟨(b11 e).1, fun _ => (b11 e).2⟩⟩
    · unfold cSt
      rw [a1]
      simp only [gB2_some, bI_t]
      rw [if_neg (by decide)]
      simp only [rd_ob, Option.bind_some, b1, gB2_some]
    · rw [M_plan_95]
      simp only [m_ob, Option.bind_some, a2 w S', gB2_some, bI_t]
      rw [if_neg (by decide)]
      exact b2 w S'
    · unfold stLen
      rw [if_neg (rng_ne0 b7)]
      exact a5.tr b10
theorem S_hrs (hN : N ≤ 400) (hB : 400 ≤ B) (hB' : B ≤ 4000) (hs : s < 350) (h : Sim f N B p wr μ) (hC : Cx r t f S) (hR : Rm 1 4 S) (h0 : μ.2 8 s = -1) : ∃ o a b p' wr' μ' S1, (∀ K, cHr r (rd r t (nI N) p wr S) K = K (some S.2.1) (rd r t (nI N) p' wr' S1)) ∧ (∀ w S', B_Mo_planRow_176 w (nI s) (mput w μ S') = B_Mo_planRow_190 w (nI s) (mput w μ' S')) ∧ Sim f N (B + 2) p' wr' μ' ∧ Grow 1 4 S S1 ∧ S1.1 S.2.1 = some (.inr (2, HrV o a b)) ∧ mOnly (fun j i => (j = 8 ∨ j = 9) ∧ i = s) μ μ' ∧ hrOk o a b ∧ Adv (hrLen o a b) p wr p' wr' ∧ (wr' = -1 → hrIs μ' s o a b) := by
  obtain ⟨v, p1, μ1, a1, a2, a3, a4, a5, a6⟩ := S_takes (x := 91) hN (by omega) h hC.ne hC.tp (by decide)
  cases v with
  | false =>
    refine ⟨0, 0, 23, p1, wr, μ1, _, fun K => cHr_n hC hR a1 K, fun w S' => ?_, a3.up (by omega), Grow.new hC.fr, ob_a, a4.on, Or.inl ⟨rfl, rfl, rfl⟩, a5, fun _ => ⟨fun _ => by rw [a4.1]; exact h0, fun e => absurd rfl e⟩⟩
    unfold B_Mo_planRow_176
    simp only [m_ob, Option.bind_some, a2 w S', gB2_some, bI_f]
    rw [if_pos trivial]
  | true =>
    have hw := a6 rfl
    subst hw
    obtain ⟨x, y, p2, wr2, μ2, S2, b1, b2, b3, b4, b5, b6, b7, b8, b9, b10⟩ := S_hours hN hB hB' a3 hC hs hR
    refine ⟨1, x, y, p2, wr2, μ2, S2, fun K => ?_, fun w S' => ?_, b3, b4, b5, a4.on.tr b6, Or.inr ⟨rfl, b7, b8⟩, ?_, fun e => ⟨fun q => absurd q (by decide), fun _ => b10 e⟩⟩
    · unfold cHr
      rw [a1]
      simp only [gB2_some, bI_t]
      rw [if_neg (by decide)]
      simp only [rd_ob, Option.bind_some, b1, gB2_some]
    · unfold B_Mo_planRow_176
      simp only [m_ob, Option.bind_some, a2 w S', gB2_some, bI_t]
      rw [if_neg (by decide)]
      simp only [m_ob, Option.bind_some, b2 w S']
    · unfold hrLen
      rw [if_neg (by decide)]
      exact a5.tr b9
end SA
