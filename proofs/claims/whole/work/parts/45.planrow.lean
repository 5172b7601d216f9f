/-! AN EDITION'S OWN CELLS; A PLAN'S ROW -/
def EdF (S : gS) (e : Nat) (d : Int32) (gp gd gs : Nat → Option Nat) (np nd : Int32) (ns : Nat) : Prop :=
  S.1 e = some (.inr (1, [.int d, .ref (e + 1), .ref (e + 2), .ref (e + 3), .int np, .int nd, .int (nI ns)])) ∧ S.1 (e + 1) = some (.inl (5, 41, .inr (.inr (.inr (.inr gp))))) ∧ S.1 (e + 2) = some (.inl (6, 10, .inr (.inr (.inr (.inr gd))))) ∧ S.1 (e + 3) = some (.inl (7, 8, .inr (.inr (.inr (.inr gs)))))
section EF
variable {S S' : gS} {e r t q k ns : Nat} {d np nd n p wr : Int32} {gp gd gs : Nat → Option Nat} {f : Nat → Int32}
theorem EdF.gr {k u : Nat} (h : EdF S e d gp gd gs np nd ns) (hF : Fr S) (g : Grow k u S S') : EdF S' e d gp gd gs np nd ns := ⟨g.kp hF h.1, g.kp hF h.2.1, g.kp hF h.2.2.1, g.kp hF h.2.2.2⟩
theorem in4 {P : Nat → Prop} (h0 : P e) (h1 : P (e + 1)) (h2 : P (e + 2)) (h3 : P (e + 3)) : ∀ q, e ≤ q ∧ q < e + 4 → P q := by
  intro q hq
  by_cases e0 : q = e
  · rw [e0]; exact h0
  by_cases e1 : q = e + 1
  · rw [e1]; exact h1
  by_cases e2 : q = e + 2
  · rw [e2]; exact h2
  have e3 : q = e + 3 := by omega
  rw [e3]; exact h3
theorem EdF.kk {k u : Nat} (h : EdF S e d gp gd gs np nd ns) (hF : Fr S) (g : GrowI e (e + 4) k u S S') : Kp lf2 S S' := by
  intro q x hq hx
  refine g.kp hF hq (fun hi => ?_)
  have := in4 (P := fun q => ∀ x, S.1 q = some x → lf2 x = false) (fun x hx => by rw [h.1] at hx; cases hx; rfl) (fun x hx => by rw [h.2.1] at hx; cases hx; rfl) (fun x hx => by rw [h.2.2.1] at hx; cases hx; rfl) (fun x hx => by rw [h.2.2.2] at hx; cases hx; rfl) q hi x hq
  rw [this] at hx; cases hx
theorem EdF.ni (h : EdF S e d gp gd gs np nd ns) (hC : Cx r t f S) : ¬ (e ≤ r ∧ r < e + 4) ∧ ¬ (e ≤ t ∧ t < e + 4) := by
  obtain ⟨h1, -, ⟨g, h3, -⟩, -⟩ := hC
  refine ⟨fun hi => ?_, fun hi => ?_⟩
  · have := in4 (P := fun q => S.1 q ≠ none) (by rw [h.1]; exact fun x => by cases x) (by rw [h.2.1]; exact fun x => by cases x) (by rw [h.2.2.1]; exact fun x => by cases x) (by rw [h.2.2.2]; exact fun x => by cases x) r hi
    exact this h1
  · have := in4 (P := fun q => S.1 q ≠ some (.inl (2, 400, .inl g))) (by rw [h.1]; exact fun x => by cases x) (by rw [h.2.1]; exact fun x => by cases x) (by rw [h.2.2.1]; exact fun x => by cases x) (by rw [h.2.2.2]; exact fun x => by cases x) t hi
    exact this h3
/-- in the state with the reader laid over it -/
theorem EdF.rd (h : EdF S e d gp gd gs np nd ns) (hr : S.1 r = none) : EdF (rd r t n p wr S) e d gp gd gs np nd ns := by
  have ne : ∀ {q x}, S.1 q = some x → q ≠ r := fun hq hh => by rw [hh, hr] at hq; cases hq
  refine ⟨?_, ?_, ?_, ?_⟩
  · rw [rd_ne (ne h.1)]; exact h.1
  · rw [rd_ne (ne h.2.1)]; exact h.2.1
  · rw [rd_ne (ne h.2.2.1)]; exact h.2.2.1
  · rw [rd_ne (ne h.2.2.2)]; exact h.2.2.2
theorem mkPl {a b l : Nat} {x kd rk : Int32} (h : S.1 q = some (.inr (5, [.int 0, .int 0, .null, .null, .int 0, .null]))) (hq : q ≠ r) : D_Pl_init q x kd (some a) (some b) rk (some l) (rd r t n p wr S) = some (rd r t n p wr (ob S q 5 [.int x, .int kd, .ref a, .ref b, .int rk, .ref l])) := by
  have e : S = ob S q 5 [.int 0, .int 0, .null, .null, .int 0, .null] := by
    refine Prod.ext ?_ rfl
    funext i
    show S.1 i = gup S.1 q _ i
    by_cases hi : i = q
    · subst hi; rw [gup_self]; exact h
    · rw [gup_ne hi]
  unfold D_Pl_init
  conv => lhs; rw [e]
  simp only [va_rf, Option.bind_some, rd_put hq, List.length, List.set, Nat.reduceAdd, Nat.reduceLT]
theorem C_addPlan {fs : List Value} (hF : Fr S) (hr : S.1 r = none) (hE : EdF S e d gp gd gs np nd ns) (hq : S.1 q = some (.inr (5, .int (nI k) :: fs))) (hk : k ≤ 40) : ∃ S', D_Ed_addPlan e (some q) (rd r t n p wr S) = some (rd r t n p wr S') ∧ EdF S' e d (va_up gp k (some q)) gd gs (np + 1) nd ns ∧ GrowI e (e + 4) 0 0 S S' := by
  have nr : ∀ {q x}, S.1 q = some x → q ≠ r := fun hq hh => by rw [hh, hr] at hq; cases hq
  have hR := hE.rd (t := t) (n := n) (p := p) (wr := wr) hr
  have kq : (rd r t n p wr S).1 q = some (.inr (5, .int (nI k) :: fs)) := by rw [rd_ne (nr hq)]; exact hq
  have k3 : (ar (rd r t n p wr S) (e + 1) 5 41 (va_up gp k (some q))).1 e = some (.inr (1, [.int d, .ref (e + 1), .ref (e + 2), .ref (e + 3), .int np, .int nd, .int (nI ns)])) := by rw [ar_n (by omega)]; exact hR.1
  refine ⟨ob (ar S (e + 1) 5 41 (va_up gp k (some q))) e 1 [.int d, .ref (e + 1), .ref (e + 2), .ref (e + 3), .int (np + 1), .int nd, .int (nI ns)], ?_, ⟨ob_a, by rw [ob_n (by omega), ar_a], by rw [ob_n (by omega), ar_n (by omega)]; exact hE.2.2.1, by rw [ob_n (by omega), ar_n (by omega)]; exact hE.2.2.2⟩, ⟨fun x hx hn => ?_, Nat.le_refl _, fun x hx => ?_, Nat.le_refl _, Nat.le_refl _⟩⟩
  · unfold D_Ed_addPlan B_Ed_addPlan_36
    simp only [e_I kq (k := 0) (v := nI k) rfl, Option.bind_some]
    rw [if_neg (nI_pos (by omega)), if_neg (show ¬ (40 : Int32) < nI k from nI_nlt (a := 40) (b := k) hk (by decide)), e_R hR.1 (k := 1) (q := e + 1) rfl]
    simp only [Option.bind_some]
    rw [e_SR hR.2.1 kq (by omega) (by decide)]
    simp only [Option.bind_some]
    rw [e_I k3 (k := 4) (v := np) rfl]
    simp only [Option.bind_some]
    rw [e_P k3 (Nat.le_of_ble_eq_true rfl)]
    simp only [Option.bind_some]
    show some (ob (ar (Prod.mk _ _) (e + 1) 5 41 (va_up gp k (some q))) e 1 [.int d, .ref (e + 1), .ref (e + 2), .ref (e + 3), .int (np + 1), .int nd, .int (nI ns)]) = _
    rw [← rd_ob2 (nr hE.1), ← rd_ar (nr hE.2.1)]; rfl
  · rw [ob_n (by omega), ar_n (by omega)]
  · have l1 := hF.lt hE.1
    have l2 := hF.lt hE.2.1
    have : S.2.1 ≤ x := hx
    rw [ob_n (by omega), ar_n (by omega)]
    exact hF x this
/-- the end of a plan's row in the class, once its needs are read -/
theorem C_planEnd {a b l k c : Nat} {kd rk p' wr' : Int32} {V : Nat → Nat → Int32} {S9 : gS} (hC : Cx r t f S) (hE : EdF S e d gp gd gs np nd ns) (hk : k ≤ 40) (hR : Rm 8 38 S) (g : Grow 7 32 (ob (nx S 6) S.2.1 5 [.int 0, .int 0, .null, .null, .int 0, .null]) S9) (hL : NLat S9 l c V) : ∃ S1, Option.bind (D_Pl_init S.2.1 (nI k) kd (some a) (some b) rk (some l) (rd r t n p' wr' S9)) (fun S12 => Option.bind (gOb S12 e 1) (fun _ => Option.bind (D_Ed_addPlan e (some S.2.1) S12) (fun S14 => some S14))) = some (rd r t n p' wr' S1) ∧ EdF S1 e d (va_up gp k (some S.2.1)) gd gs (np + 1) nd ns ∧ S1.1 S.2.1 = some (.inr (5, [.int (nI k), .int kd, .ref a, .ref b, .int rk, .ref l])) ∧ Kp lf2 S S1 ∧ NLat S1 l c V ∧ GrowI e (e + 4) 8 38 S S1 := by
  have hne : S.2.1 ≠ r := by have := hC.2.1; omega
  have g0 : Grow 1 6 S (ob (nx S 6) S.2.1 5 [.int 0, .int 0, .null, .null, .int 0, .null]) := Grow.new hC.fr
  have hq9 := g.kp g0.2.2.1 ob_a
  have hF9 : Fr S9 := g.2.2.1
  have l9 := hF9.lt hq9
  have i10 : GrowI S.2.1 (S.2.1 + 1) 0 0 S9 (ob S9 S.2.1 5 [.int (nI k), .int kd, .ref a, .ref b, .int rk, .ref l]) := ⟨fun x _ hn => ob_n (by omega), Nat.le_refl _, fun x hx => by
    have : S9.2.1 ≤ x := hx
    rw [ob_n (by omega)]; exact hF9 x this, Nat.le_refl _, Nat.le_refl _⟩
  have g10 := ((g0.tr g).ti i10 (Nat.le_refl _)).le (k' := 8) (u' := 38) (by omega) (by omega)
  have hC10 := hC.grow g10
  have hE10 := hE.gr hC.fr g10
  have hL10 : NLat (ob S9 S.2.1 5 [.int (nI k), .int kd, .ref a, .ref b, .int rk, .ref l]) l c V := hL.kk (fun x y hx hy => by
    rw [ob_n (fun hh => by rw [hh, hq9] at hx; cases hx; cases hy)]; exact hx)
  obtain ⟨S1, a1, a2, a3⟩ := C_addPlan (t := t) (n := n) (p := p') (wr := wr') hC10.fr hC10.1 hE10 ob_a hk
  have k1 := hE10.kk hC10.fr a3
  refine ⟨S1, ?_, a2, k1 _ _ ob_a rfl, (g10.kk hC.fr).tr k1, hL10.kk k1.l2, (g10.gi.tr a3).le (by omega) (by omega)⟩
  rw [mkPl hq9 hne]
  simp only [Option.bind_some]
  rw [e_O (hE10.rd hC10.1).1]
  simp only [Option.bind_some, a1]
/-- a plan: kind, street, from, to, told, first, last, rank; its needs -/
abbrev PV : Type := (Nat → Int32) × Nat × (Nat → Nat → Int32)
def PlAt (S : gS) (q k : Nat) (v : PV) : Prop := ∃ a b l, S.1 q = some (.inr (5, [.int (nI k), .int (v.1 0), .ref a, .ref b, .int (v.1 7), .ref l])) ∧ S.1 a = some (.inr (9, SxV (v.1 1) (v.1 2) (v.1 3))) ∧ S.1 b = some (.inr (2, HrV (v.1 4) (v.1 5) (v.1 6))) ∧ NLat S l v.2.1 v.2.2
def plOk (v : PV) : Prop := rng (v.1 0) 1 9 = true ∧ stOk (v.1 1) (v.1 2) (v.1 3) ∧ hrOk (v.1 4) (v.1 5) (v.1 6) ∧ rng (v.1 7) 0 9 = true ∧ 1 ≤ v.2.1 ∧ v.2.1 ≤ 5
def plLen (k : Nat) (v : PV) : Nat := 1 + nlen (nI k) + (1 + nlen (v.1 0)) + stLen (v.1 1) (v.1 2) (v.1 3) + hrLen (v.1 4) (v.1 5) (v.1 6) + (1 + nlen (v.1 7)) + nlLen v.2.2 v.2.1 + 1
def plIs (μ : mS) (s : Nat) (v : PV) : Prop := μ.2 3 s = 1 ∧ μ.2 4 s = v.1 0 ∧ stIs μ s (v.1 1) (v.1 2) (v.1 3) ∧ hrIs μ s (v.1 4) (v.1 5) (v.1 6) ∧ μ.2 10 s = v.1 7 ∧ ndIs μ s v.2.1 v.2.2
def XP (s : Nat) (j i : Nat) : Prop := ((3 ≤ j ∧ j ≤ 11) ∧ i = s) ∨ (j = 12 ∧ 25 * s ≤ i ∧ i < 25 * s + 25)
def vP (a b c d e f g h : Int32) : Nat → Int32
  | 0 => a
  | 1 => b
  | 2 => c
  | 3 => d
  | 4 => e
  | 5 => f
  | 6 => g
  | _ => h
theorem M_plan_190 {x0 : Nat} {x2 : Int32} {S : gS} : B_Mo_planRow_190 x0 x2 S = Option.bind (gOb S x0 10) (fun _ => Option.bind (D_Mo_expect x0 114 S) (fun S1 => mIf x0 17 0 9 x2 S1 (fun S2 => B_Mo_planRow_216 x0 x2 S2))) := rfl
theorem M_plan_40 {x0 : Nat} {x2 : Int32} {S : gS} : B_Mo_planRow_40 x0 x2 S = Option.bind (gI S x0 10 5) (fun v1 => (if v1 = 0 then Option.bind (gRf S x0 10 10) (fun r3 => Option.bind r3 (fun a4 => Option.bind (gZo 1) (fun v6 => Option.bind (gSI S a4 3 x2 v6) (fun S5 => Option.bind (gRf S5 x0 10 12) (fun r7 => Option.bind r7 (fun a8 => Option.bind (gSI S5 a8 0 x2 0) (fun S9 => Option.bind (gRf S9 x0 10 15) (fun r10 => Option.bind r10 (fun a11 => Option.bind (gSI S9 a11 0 x2 (-1)) (fun S12 => Option.bind (gOb S12 x0 10) (fun _ => Option.bind (D_Mo_expect x0 107 S12) (fun S13 => mIf x0 11 1 9 x2 S13 (fun S2 => B_Mo_planRow_95 x0 x2 S2))))))))))))) else some S)) := rfl
theorem gZ1 : gZo 1 = some 1 := rfl
theorem gZ0 : gZo 0 = some 0 := rfl
theorem S_plan26 {N B : Nat} {μ : mS} (hN : N ≤ 400) (hB : 400 ≤ B) (hB' : B ≤ 3000) (h : Sim f N B p (-1) μ) (hC : Cx r t f S) (hR : Rm 10 45 S) (hE : EdF S e d gp gd gs np nd ns) (hk : k ≤ 40) : ∃ (v : PV) (q : Nat) (p' wr' : Int32) (μ' : mS) (S1 : gS), B_Rd_readPlan_26 r (some e) (nI k) (rd r t (nI N) p (-1) S) = some (rd r t (nI N) p' wr' S1) ∧ (∀ w S', B_Mo_planRow_40 w (nI (300 + k)) (mput w μ S') = some (mput w μ' S')) ∧ Sim f N (B + 8) p' wr' μ' ∧ GrowI e (e + 4) 10 45 S S1 ∧ EdF S1 e d (va_up gp k (some q)) gd gs (np + 1) nd ns ∧ Kp lf2 S S1 ∧ PlAt S1 q k v ∧ plOk v ∧ mOnly (XP (300 + k)) μ μ' ∧ (∃ l, Adv l p (-1) p' wr' ∧ plLen k v = 1 + nlen (nI k) + l + 1) ∧ (wr' = -1 → plIs μ' (300 + k) v) := by
  have hs : 300 + k < 350 := by omega
  have h0 : Sim f N B p (-1) (mA (mA (mA μ 3 (300 + k) 1) 5 (300 + k) 0) 8 (300 + k) (-1)) := ((h.mA (by decide)).mA (by decide)).mA (by decide)
  obtain ⟨p1, wr1, μ1, a1, a2, a3, a4, a5⟩ := S_expect (x := 107) hN hB (by omega) h0 hC.ne hC.tp (by decide)
  obtain ⟨kd, p2, wr2, μ2, b1, b2, b3, b4, b5, b6, b7⟩ := S_numIf (a := 1) (b := 9) (s := 300 + k) (j := 4) (fk := 11) hN (show 400 ≤ B + 1 by omega) (by omega) a3 hC (Or.inr (by decide)) (by decide) (by decide) (fun _ _ _ => m_R11) (fun _ _ _ _ => m_s4 hs)
  have z5 : μ2.2 5 (300 + k) = 0 := by rw [b4.2 5 _ (fun h => by cases h.1), a4.1, mA_n (by decide), mA_at]
  have z8 : μ2.2 8 (300 + k) = -1 := by rw [b4.2 8 _ (fun h => by cases h.1), a4.1, mA_at]
  have z3 : μ2.2 3 (300 + k) = 1 := by rw [b4.2 3 _ (fun h => by cases h.1), a4.1, mA_n (by decide), mA_n (by decide), mA_at]
  obtain ⟨sa, sb, sc, p3, wr3, μ3, S3, c1, c2, c3, c4, c5, c6, c7, c8, c9⟩ := S_str hN (show 400 ≤ B + 1 by omega) (by omega) hs b3 hC (hR.le (by omega) (by omega)) z5
  have hC3 := hC.grow c4
  have hR3 : Rm 9 42 S3 := hR.gr c4 (by omega) (by omega)
  have w8 : μ3.2 8 (300 + k) = -1 := by rw [c6.2 8 _ (fun h => by rcases h.1 with q | q | q <;> cases q)]; exact z8
  obtain ⟨ho, ha, hb, p4, wr4, μ4, S4, d1, d2, d3, d4, d5, d6, d7, d8, d9⟩ := S_hrs hN (show 400 ≤ B + 1 + 2 by omega) (by omega) hs c3 hC3 (hR3.le (by omega) (by omega)) w8
  have hC4 := hC3.grow d4
  have hR4 : Rm 8 38 S4 := hR3.gr d4 (by omega) (by omega)
  obtain ⟨p5, wr5, μ5, e1, e2, e3, e4, e5⟩ := S_expect (x := 114) hN (show 400 ≤ B + 1 + 2 + 2 by omega) (by omega) d3 hC4.ne hC4.tp (by decide)
  obtain ⟨rk, p6, wr6, μ6, f1, f2, f3, f4, f5, f6, f7⟩ := S_numIf (a := 0) (b := 9) (s := 300 + k) (j := 10) (fk := 17) hN (show 400 ≤ B + 1 + 2 + 2 + 1 by omega) (by omega) e3 hC4 (Or.inl rfl) (by decide) (by decide) (fun _ _ _ => m_R17) (fun _ _ _ _ => m_s10 hs)
  obtain ⟨p7, wr7, μ7, i1, i2, i3, i4, i5⟩ := S_expect (x := 58) hN (show 400 ≤ B + 1 + 2 + 2 + 1 by omega) (by omega) f3 hC4.ne hC4.tp (by decide)
  have g8 : Grow 1 6 S4 (ob (nx S4 6) S4.2.1 5 [.int 0, .int 0, .null, .null, .int 0, .null]) := Grow.new hC4.fr
  have hC8 := hC4.grow g8
  obtain ⟨c, V, p9, wr9, μ9, S9, j1, j2, j3, j4, j5, j6, j7, j8, ⟨l, j9, j10⟩, j11⟩ := S_needs hN (show 400 ≤ B + 1 + 2 + 2 + 1 + 1 by omega) (by omega) hs i3 hC8 (hR4.gr g8 (by omega) (by omega))
  have hE4 := (hE.gr hC.fr c4).gr hC3.fr d4
  obtain ⟨S1, y1, y2, y3, y4, y5, y6⟩ := C_planEnd (t := t) (n := nI N) (p' := p9) (wr' := wr9) (a := S.2.1) (b := S3.2.1) (kd := kd) (rk := rk) hC4 hE4 hk hR4 j4 j5
  have kS : Kp lf2 S S3 := c4.kk hC.fr
  have k3 : Kp lf2 S3 S4 := d4.kk hC3.fr
  have ra : gNw (rd r t (nI N) p7 wr7 S4) 5 [.int 0, .int 0, .null, .null, .int 0, .null] = some (rd r t (nI N) p7 wr7 (ob (nx S4 6) S4.2.1 5 [.int 0, .int 0, .null, .null, .int 0, .null])) := gNw_rd (l := 6) rfl hC4.2.1 (hR4.le (by omega) (by omega))
  refine ⟨(vP kd sa sb sc ho ha hb rk, c, V), S4.2.1, p9, wr9, μ9, S1, ?_, fun w S' => ?_, j3.up (by omega), ((c4.gi.tr d4.gi).tr y6).le (by omega) (by omega), y2, (kS.tr k3).tr y4, ⟨S.2.1, S3.2.1, _, y3, y4 _ _ (k3 _ _ c5 rfl) rfl, y4 _ _ d5 rfl, y5⟩, ⟨b5, c7, d7, f5, j6, j7⟩, ?_, ⟨1 + nlen kd + stLen sa sb sc + hrLen ho ha hb + 1 + nlen rk + 1 + l, ?_, ?_⟩, fun e => ?_⟩
  · rw [R_plan_26]
    simp only [rd_ob, Option.bind_some, a1, b1, gB2_some]
    rw [c1]
    simp only [R_plan_68, rd_ob, Option.bind_some]
    rw [d1]
    unfold B_Rd_readPlan_97
    simp only [rd_ob, Option.bind_some, e1, f1, gB2_some, i1]
    rw [ra]
    simp only [rd_ob, Option.bind_some, j1, gB2_some]
    exact y1
  · rw [M_plan_40]
    simp only [m_I5, Option.bind_some]
    rw [if_pos (h.w5.mpr rfl)]
    simp only [m_R10, Option.bind_some, gZ1, m_s3 hs, m_R12, m_s5 hs, m_R15, m_s8 hs, m_ob, a2 w S']
    rw [b2 w S', c2 w S', d2 w S', M_plan_190]
    simp only [m_ob, Option.bind_some, e2 w S']
    rw [f2 w S']
    unfold B_Mo_planRow_216
    simp only [m_ob, Option.bind_some, i2 w S', j2 w S']
  · have X : ∀ j, 3 ≤ j ∧ j ≤ 11 → XP (300 + k) j (300 + k) := fun j hj => Or.inl ⟨hj, rfl⟩
    have o0 : mOnly (XP (300 + k)) μ (mA (mA (mA μ 3 (300 + k) 1) 5 (300 + k) 0) 8 (300 + k) (-1)) := ((mOnly.wr (X 3 (by omega))).tr (mOnly.wr (X 5 (by omega)))).tr (mOnly.wr (X 8 (by omega)))
    exact ((((((((o0.tr a4.on).tr (b4.mo (fun j i hh => by rw [hh.1, hh.2]; exact X 4 (by omega)))).tr (c6.mo (fun j i hh => by rw [hh.2]; exact X j (by omega)))).tr (d6.mo (fun j i hh => by rw [hh.2]; exact X j (by omega)))).tr e4.on).tr (f4.mo (fun j i hh => by rw [hh.1, hh.2]; exact X 10 (by omega)))).tr i4.on).tr (j8.mo (fun j i hh => by
      rcases hh with hh | hh
      · rw [hh.1, hh.2]; exact X 11 (by omega)
      · exact Or.inr hh)))
  · exact (((((((a5.tr b6).tr c8).tr d8).tr e5).tr f6).tr i5).tr j9)
  · show 1 + nlen (nI k) + (1 + nlen kd) + stLen sa sb sc + hrLen ho ha hb + (1 + nlen rk) + nlLen V c + 1 = _
    rw [j10]; omega
  · have w7 := (j9 e).1
    have w6 := (i5 w7).1
    have w5 := (f6 w6).1
    have w4 := (e5 w5).1
    have w3 := (d8 w4).1
    have w2 := (c8 w3).1
    have J : ∀ j, j ≠ 11 → j ≠ 12 → μ9.2 j (300 + k) = μ7.2 j (300 + k) := fun j h1 h2 => j8.2 j _ (fun hh => by rcases hh with hh | hh <;> omega)
    have I : ∀ j, j ≠ 10 → j ≠ 11 → j ≠ 12 → μ9.2 j (300 + k) = μ4.2 j (300 + k) := fun j h0 h1 h2 => by
      rw [J j h1 h2, i4.1, f4.2 j _ (fun hh => h0 hh.1), e4.1]
    have H : ∀ j, j ≠ 8 → j ≠ 9 → j ≠ 10 → j ≠ 11 → j ≠ 12 → μ9.2 j (300 + k) = μ3.2 j (300 + k) := fun j h8 h9 h0 h1 h2 => by
      rw [I j h0 h1 h2, d6.2 j _ (fun hh => by omega)]
    refine ⟨?_, ?_, ⟨?_, fun hn => ⟨?_, ?_⟩⟩, ⟨fun hn => ?_, fun hn => ⟨?_, ?_⟩⟩, ?_, j11 e⟩
    · rw [H 3 (by decide) (by decide) (by decide) (by decide) (by decide), c6.2 3 _ (fun hh => by omega)]; exact z3
    · rw [H 4 (by decide) (by decide) (by decide) (by decide) (by decide), c6.2 4 _ (fun hh => by omega)]; exact b7 w2
    · rw [H 5 (by decide) (by decide) (by decide) (by decide) (by decide)]; exact (c9 w3).1
    · rw [H 6 (by decide) (by decide) (by decide) (by decide) (by decide)]; exact ((c9 w3).2 hn).1
    · rw [H 7 (by decide) (by decide) (by decide) (by decide) (by decide)]; exact ((c9 w3).2 hn).2
    · rw [I 8 (by decide) (by decide) (by decide)]; exact (d9 w4).1 hn
    · rw [I 8 (by decide) (by decide) (by decide)]; exact ((d9 w4).2 hn).1
    · rw [I 9 (by decide) (by decide) (by decide)]; exact ((d9 w4).2 hn).2
    · rw [J 10 (by decide) (by decide), i4.1]; exact f7 w6
theorem R_plan26_w {n : Int32} (hw : wr ≠ -1) (hC : Cx r t f S) (hR : Rm 10 45 S) (hE : EdF S e d gp gd gs np nd ns) (hk : k ≤ 40) : ∃ S1, B_Rd_readPlan_26 r (some e) (nI k) (rd r t n p wr S) = some (rd r t n p wr S1) ∧ GrowI e (e + 4) 10 45 S S1 := by
  have c4 : Grow 1 3 S (ob (nx S 3) S.2.1 9 (SxV 0 1 999)) := Grow.new hC.fr
  obtain ⟨S3, hS3⟩ : ∃ S3, S3 = ob (nx S 3) S.2.1 9 (SxV 0 1 999) := ⟨_, rfl⟩
  rw [← hS3] at c4
  have hC3 := hC.grow c4
  have hR3 : Rm 9 42 S3 := hR.gr c4 (by omega) (by omega)
  have d4 : Grow 1 4 S3 (ob (nx S3 4) S3.2.1 2 (HrV 0 0 23)) := Grow.new hC3.fr
  obtain ⟨S4, hS4⟩ : ∃ S4, S4 = ob (nx S3 4) S3.2.1 2 (HrV 0 0 23) := ⟨_, rfl⟩
  rw [← hS4] at d4
  have hC4 := hC3.grow d4
  have hR4 : Rm 8 38 S4 := hR3.gr d4 (by omega) (by omega)
  have g8 : Grow 1 6 S4 (ob (nx S4 6) S4.2.1 5 [.int 0, .int 0, .null, .null, .int 0, .null]) := Grow.new hC4.fr
  have hC8 := hC4.grow g8
  obtain ⟨V, S9, j1, j2, j3⟩ := R_needs_w (n := n) (p := p) hw hC8 (hR4.gr g8 (by omega) (by omega))
  have hE4 := (hE.gr hC.fr c4).gr hC3.fr d4
  obtain ⟨S1, y1, -, -, -, -, y6⟩ := C_planEnd (t := t) (n := n) (p' := p) (wr' := wr) (a := S.2.1) (b := S3.2.1) (kd := 1) (rk := 0) hC4 hE4 hk hR4 j2 j3
  have ra : gNw (rd r t n p wr S4) 5 [.int 0, .int 0, .null, .null, .int 0, .null] = some (rd r t n p wr (ob (nx S4 6) S4.2.1 5 [.int 0, .int 0, .null, .null, .int 0, .null])) := gNw_rd (l := 6) rfl hC4.2.1 (hR4.le (by omega) (by omega))
  refine ⟨S1, ?_, ((c4.gi.tr d4.gi).tr y6).le (by omega) (by omega)⟩
  rw [R_plan_26]
  simp only [rd_ob, Option.bind_some, R_expect_w hw (x := 107) (by decide), R_number_w hw, gB2_some]
  rw [cSt_n hC (hR.le (by omega) (by omega)) (R_takes_w hw (by decide)), ← hS3]
  simp only [R_plan_68, rd_ob, Option.bind_some]
  rw [cHr_n hC3 (hR3.le (by omega) (by omega)) (R_takes_w hw (by decide)), ← hS4]
  unfold B_Rd_readPlan_97
  simp only [rd_ob, Option.bind_some, R_expect_w hw (x := 114) (by decide), R_expect_w hw (x := 58) (by decide), R_number_w hw, gB2_some]
  rw [ra]
  simp only [rd_ob, Option.bind_some, j1, gB2_some]
  exact y1
end EF
