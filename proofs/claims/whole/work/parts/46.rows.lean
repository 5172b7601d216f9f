/-! AN EDITION AS A VALUE; ROWS INTO IT -/
abbrev NV : Type := Nat × (Nat → Nat → Int32)
/-- plans, defaults, how many standby rows, their numbers -/
abbrev EV : Type := (Nat → Option PV) × (Nat → Option NV) × Nat × (Nat → Nat → Int32)
def sm (g : Nat → Nat) : Nat → Nat
  | 0 => 0
  | n + 1 => sm g n + g n
theorem sm_ext {g h : Nat → Nat} : ∀ n, (∀ i, i < n → g i = h i) → sm g n = sm h n
  | 0, _ => rfl
  | n + 1, e => by
    show sm g n + g n = sm h n + h n
    rw [sm_ext n (fun i hi => e i (by omega)), e n (by omega)]
theorem sm_up {g h : Nat → Nat} {k : Nat} : ∀ n, k < n → g k = 0 → (∀ i, i < n → i ≠ k → h i = g i) → sm h n = sm g n + h k
  | 0, hk, _, _ => absurd hk (by omega)
  | n + 1, hk, h0, e => by
    show sm h n + h n = sm g n + g n + h k
    by_cases hn : k = n
    · subst hn
      rw [sm_ext (g := h) (h := g) k (fun i hi => e i (by omega) (by omega)), h0, Nat.add_zero]
    · rw [sm_up n (by omega) h0 (fun i hi => e i (by omega)), e n (by omega) (fun x => hn x.symm)]; omega
theorem sm_le {g : Nat → Nat} {b : Nat} : ∀ n, (∀ i, i < n → g i ≤ b) → sm g n ≤ n * b
  | 0, _ => by show 0 ≤ _; omega
  | n + 1, e => by
    show sm g n + g n ≤ _
    have := sm_le n (fun i hi => e i (by omega))
    have := e n (by omega)
    rw [Nat.succ_mul]; omega
def cn {α : Type} (g : Nat → Option α) (n : Nat) : Nat := sm (fun i => if (g i).isSome then 1 else 0) n
def pls (E : EV) (k : Nat) : Nat := match E.1 k with
  | none => 0
  | some v => plLen k v
def dfLen (k : Nat) (v : NV) : Nat := 1 + nlen (nI k) + nlLen v.2 v.1 + 1
def dfs (E : EV) (k : Nat) : Nat := match E.2.1 k with
  | none => 0
  | some v => dfLen k v
def sbLen (v : Nat → Int32) : Nat := 1 + (1 + nlen (v 0)) + (1 + nlen (v 1)) + (1 + nlen (v 2)) + (1 + nlen (v 3)) + 1 + 1
def edLen (E : EV) : Nat := sm (pls E) 41 + sm (dfs E) 10 + sm (fun i => sbLen (E.2.2.2 i)) E.2.2.1
def sbOk (v : Nat → Int32) : Prop := rng (v 0) 0 23 = true ∧ rng (v 1) 0 23 = true ∧ rng (v 2) 1 9 = true ∧ rng (v 3) 1 9 = true ∧ rng (v 4) 0 7 = true
def plsAt (S : gS) (gp : Nat → Option Nat) (E : EV) : Prop := ∀ k, k ≤ 40 → (E.1 k = none → gp k = none) ∧ ∀ v, E.1 k = some v → ∃ q, gp k = some q ∧ PlAt S q k v ∧ plOk v
def dfsAt (S : gS) (gd : Nat → Option Nat) (E : EV) : Prop := ∀ k, k ≤ 9 → (E.2.1 k = none → gd k = none) ∧ ∀ v, E.2.1 k = some v → ∃ q, gd k = some q ∧ NLat S q v.1 v.2 ∧ 1 ≤ v.1 ∧ v.1 ≤ 5
def sbsAt (S : gS) (gs : Nat → Option Nat) (E : EV) : Prop := ∀ i, i < E.2.2.1 → ∃ q h, gs i = some q ∧ S.1 q = some (.inr (8, [.ref h, .int (E.2.2.2 i 2), .int (E.2.2.2 i 3), .int (E.2.2.2 i 4)])) ∧ S.1 h = some (.inr (2, HrV 1 (E.2.2.2 i 0) (E.2.2.2 i 1))) ∧ sbOk (E.2.2.2 i)
def EdAt (S : gS) (e : Nat) (d : Int32) (E : EV) : Prop := ∃ gp gd gs, EdF S e d gp gd gs (nI (cn E.1 41)) (nI (cn E.2.1 10)) E.2.2.1 ∧ plsAt S gp E ∧ dfsAt S gd E ∧ sbsAt S gs E ∧ E.2.2.1 ≤ 8 ∧ E.1 0 = none ∧ E.2.1 0 = none
def edIs (μ : mS) (b : Nat) (E : EV) : Prop := (∀ k, 1 ≤ k → k ≤ 40 → (E.1 k = none → μ.2 3 (50 * b + k) = 0) ∧ ∀ v, E.1 k = some v → plIs μ (50 * b + k) v) ∧ (∀ k, 1 ≤ k → k ≤ 9 → (E.2.1 k = none → μ.2 3 (50 * b + 40 + k) = 0) ∧ ∀ v, E.2.1 k = some v → μ.2 3 (50 * b + 40 + k) = 1 ∧ ndIs μ (50 * b + 40 + k) v.1 v.2) ∧ μ.2 13 b = nI E.2.2.1 ∧ ∀ i, i < E.2.2.1 → ∀ c, c < 5 → μ.2 14 (40 * b + 5 * i + c) = E.2.2.2 i c
section EV
variable {S S' : gS} {e : Nat} {d : Int32} {E : EV} {gp gd gs : Nat → Option Nat}
theorem PlAt.kk {q k : Nat} {v : PV} (h : PlAt S q k v) (g : Kp lf2 S S') : PlAt S' q k v := by
  obtain ⟨a, b, l, h1, h2, h3, h4⟩ := h
  exact ⟨a, b, l, g _ _ h1 rfl, g _ _ h2 rfl, g _ _ h3 rfl, h4.kk g.l2⟩
theorem plsAt.kk (h : plsAt S gp E) (g : Kp lf2 S S') : plsAt S' gp E := fun k hk => ⟨(h k hk).1, fun v hv => by
  obtain ⟨q, h1, h2, h3⟩ := (h k hk).2 v hv
  exact ⟨q, h1, h2.kk g, h3⟩⟩
theorem dfsAt.kk (h : dfsAt S gd E) (g : Kp lf2 S S') : dfsAt S' gd E := fun k hk => ⟨(h k hk).1, fun v hv => by
  obtain ⟨q, h1, h2, h3⟩ := (h k hk).2 v hv
  exact ⟨q, h1, h2.kk g.l2, h3⟩⟩
theorem sbsAt.kk (h : sbsAt S gs E) (g : Kp lf2 S S') : sbsAt S' gs E := fun i hi => by
  obtain ⟨q, hh, h1, h2, h3, h4⟩ := h i hi
  exact ⟨q, hh, h1, g _ _ h2 rfl, g _ _ h3 rfl, h4⟩
theorem EdAt.gr {k u : Nat} (h : EdAt S e d E) (hF : Fr S) (g : Grow k u S S') : EdAt S' e d E := by
  obtain ⟨gp, gd, gs, h1, h2, h3, h4, h5⟩ := h
  exact ⟨gp, gd, gs, h1.gr hF g, h2.kk (g.kk hF), h3.kk (g.kk hF), h4.kk (g.kk hF), h5⟩
/-- a further plan -/
def upP (E : EV) (k : Nat) (v : PV) : EV := ((fun i => if i = k then some v else E.1 i), E.2)
def upD (E : EV) (k : Nat) (v : NV) : EV := (E.1, (fun i => if i = k then some v else E.2.1 i), E.2.2)
def upB (E : EV) (v : Nat → Int32) : EV := (E.1, E.2.1, E.2.2.1 + 1, fun i => if i = E.2.2.1 then v else E.2.2.2 i)
theorem cn_up {α : Type} {g : Nat → Option α} {k n : Nat} {v : α} (hk : k < n) (h : g k = none) : cn (fun i => if i = k then some v else g i) n = cn g n + 1 := by
  unfold cn
  rw [sm_up (g := fun i => if (g i).isSome then 1 else 0) (k := k) n hk (by simp [h]) (fun i _ hne => by simp [hne])]
  simp
theorem upP_len {k : Nat} {v : PV} (hk : k < 41) (h : E.1 k = none) : edLen (upP E k v) = edLen E + plLen k v := by
  unfold edLen
  rw [sm_up (g := pls E) (h := pls (upP E k v)) (k := k) 41 hk (by simp [pls, h]) (fun i _ hne => by simp [pls, upP, hne])]
  have : pls (upP E k v) k = plLen k v := by simp [pls, upP]
  have h2 : sm (dfs (upP E k v)) 10 = sm (dfs E) 10 := rfl
  have h3 : sm (fun i => sbLen ((upP E k v).2.2.2 i)) (upP E k v).2.2.1 = sm (fun i => sbLen (E.2.2.2 i)) E.2.2.1 := rfl
  rw [this, h2, h3]; omega
theorem upD_len {k : Nat} {v : NV} (hk : k < 10) (h : E.2.1 k = none) : edLen (upD E k v) = edLen E + dfLen k v := by
  unfold edLen
  rw [sm_up (g := dfs E) (h := dfs (upD E k v)) (k := k) 10 hk (by simp [dfs, h]) (fun i _ hne => by simp [dfs, upD, hne])]
  have : dfs (upD E k v) k = dfLen k v := by simp [dfs, upD]
  have h2 : sm (pls (upD E k v)) 41 = sm (pls E) 41 := rfl
  have h3 : sm (fun i => sbLen ((upD E k v).2.2.2 i)) (upD E k v).2.2.1 = sm (fun i => sbLen (E.2.2.2 i)) E.2.2.1 := rfl
  rw [this, h2, h3]; omega
theorem upB_len {v : Nat → Int32} : edLen (upB E v) = edLen E + sbLen v := by
  unfold edLen
  have h2 : sm (pls (upB E v)) 41 = sm (pls E) 41 := rfl
  have h3 : sm (dfs (upB E v)) 10 = sm (dfs E) 10 := rfl
  have h4 : sm (fun i => sbLen ((upB E v).2.2.2 i)) (upB E v).2.2.1 = sm (fun i => sbLen ((upB E v).2.2.2 i)) E.2.2.1 + sbLen ((upB E v).2.2.2 E.2.2.1) := rfl
  rw [h2, h3, h4, sm_ext (g := fun i => sbLen ((upB E v).2.2.2 i)) (h := fun i => sbLen (E.2.2.2 i)) E.2.2.1 (fun i hi => by simp [upB, Nat.ne_of_lt hi])]
  have : (upB E v).2.2.2 E.2.2.1 = v := by simp [upB]
  rw [this]; omega
theorem EdAt.plan {k q : Nat} {v : PV} (h2 : plsAt S gp E) (h3 : dfsAt S gd E) (h4 : sbsAt S gs E) (h5 : E.2.2.1 ≤ 8) (h6 : E.1 0 = none) (h7 : E.2.1 0 = none) (hn : E.1 k = none) (hk0 : 1 ≤ k) (hk : k ≤ 40) (g : Kp lf2 S S') (hF : EdF S' e d (va_up gp k (some q)) gd gs (nI (cn E.1 41) + 1) (nI (cn E.2.1 10)) E.2.2.1) (hP : PlAt S' q k v) (hO : plOk v) : EdAt S' e d (upP E k v) := by
  refine ⟨va_up gp k (some q), gd, gs, ?_, fun i hi => ?_, h3.kk g, h4.kk g, h5, ?_, h7⟩
  · have : cn (upP E k v).1 41 = cn E.1 41 + 1 := cn_up (by omega) hn
    rw [this, ← nI_1]; exact hF
  · by_cases hik : i = k
    · subst hik
      refine ⟨fun x => ?_, fun w hw => ⟨q, va_ups, ?_⟩⟩
      · simp [upP] at x
      · simp [upP] at hw
        rw [← hw]; exact ⟨hP, hO⟩
    · have e1 : (upP E k v).1 i = E.1 i := by simp [upP, hik]
      rw [e1]
      refine ⟨fun x => by rw [va_upn hik]; exact (h2 i hi).1 x, fun w hw => ?_⟩
      obtain ⟨q', m1, m2, m3⟩ := (h2 i hi).2 w hw
      exact ⟨q', by rw [va_upn hik]; exact m1, m2.kk g, m3⟩
  · show (if 0 = k then some v else E.1 0) = none
    rw [if_neg (by omega)]; exact h6
end EV
def X6 (j i : Nat) : Prop := ((3 ≤ j ∧ j ≤ 11) ∧ 300 < i ∧ i < 350) ∨ (j = 12 ∧ 7500 ≤ i ∧ i < 8750) ∨ (j = 13 ∧ i = 6) ∨ (j = 14 ∧ 240 ≤ i ∧ i < 280)
theorem XP_6 {s j i : Nat} (h1 : 300 < s) (h2 : s < 350) (h : XP s j i) : X6 j i := by
  rcases h with ⟨h, rfl⟩ | h
  · exact Or.inl ⟨h, h1, h2⟩
  · exact Or.inr (Or.inl ⟨h.1, by omega, by omega⟩)
/-- what other slots hold is kept -/
theorem plIs.on {μ μ' : mS} {s s' : Nat} {v : PV} (h : plIs μ s v) (o : mOnly (XP s') μ μ') (hs : s ≠ s') (hc : v.2.1 ≤ 5) : plIs μ' s v := by
  obtain ⟨h1, h2, ⟨h3, h4⟩, ⟨h5, h6⟩, h7, h8, h9⟩ := h
  have K : ∀ j, j ≠ 12 → μ'.2 j s = μ.2 j s := fun j hj => o.2 j s (fun x => by rcases x with x | x <;> omega)
  refine ⟨by rw [K 3 (by decide)]; exact h1, by rw [K 4 (by decide)]; exact h2, ⟨by rw [K 5 (by decide)]; exact h3, fun x => ?_⟩, ⟨fun x => ?_, fun x => ?_⟩, by rw [K 10 (by decide)]; exact h7, by rw [K 11 (by decide)]; exact h8, fun i hi k hk => ?_⟩
  · rw [K 6 (by decide), K 7 (by decide)]; exact h4 x
  · rw [K 8 (by decide)]; exact h5 x
  · rw [K 8 (by decide), K 9 (by decide)]; exact h6 x
  · rw [o.2 12 _ (fun x => by rcases x with x | x <;> omega)]; exact h9 i hi k hk
theorem ndIs.on {μ μ' : mS} {s s' c : Nat} {V : Nat → Nat → Int32} (h : ndIs μ s c V) (o : mOnly (XP s') μ μ') (hs : s ≠ s') (hc : c ≤ 5) : ndIs μ' s c V := by
  refine ⟨by rw [o.2 11 s (fun x => by rcases x with x | x <;> omega)]; exact h.1, fun i hi k hk => ?_⟩
  rw [o.2 12 _ (fun x => by rcases x with x | x <;> omega)]; exact h.2 i hi k hk

theorem edIs.plan {μ μ' : mS} {E : EV} {k : Nat} {v : PV} (h : edIs μ 6 E) (o : mOnly (XP (300 + k)) μ μ') (hv : plIs μ' (300 + k) v) (hk0 : 1 ≤ k) (hk : k ≤ 40) (hp : ∀ i w, i ≤ 40 → E.1 i = some w → w.2.1 ≤ 5) (hd : ∀ i w, i ≤ 9 → E.2.1 i = some w → w.1 ≤ 5) : edIs μ' 6 (upP E k v) := by
  obtain ⟨h1, h2, h3, h4⟩ := h
  refine ⟨fun i hi0 hi => ?_, fun i hi0 hi => ⟨fun x => ?_, fun w hw => ⟨?_, ?_⟩⟩, ?_, fun i hi c hc => ?_⟩
  · by_cases hik : i = k
    · subst hik
      refine ⟨fun x => ?_, fun w hw => ?_⟩
      · simp [upP] at x
      · simp [upP] at hw
        rw [← hw]; exact hv
    · have e1 : (upP E k v).1 i = E.1 i := by simp [upP, hik]
      rw [e1]
      refine ⟨fun x => ?_, fun w hw => ?_⟩
      · rw [o.2 3 _ (fun y => by rcases y with y | y <;> omega)]; exact (h1 i hi0 hi).1 x
      · exact ((h1 i hi0 hi).2 w hw).on o (by omega) (hp i w hi hw)
  · rw [o.2 3 _ (fun y => by rcases y with y | y <;> omega)]; exact (h2 i hi0 hi).1 x
  · rw [o.2 3 _ (fun y => by rcases y with y | y <;> omega)]; exact ((h2 i hi0 hi).2 w hw).1
  · exact ((h2 i hi0 hi).2 w hw).2.on o (by omega) (hd i w hi hw)
  · rw [o.2 13 _ (fun y => by rcases y with y | y <;> omega)]; exact h3
  · rw [o.2 14 _ (fun y => by rcases y with y | y <;> omega)]; exact h4 i hi c hc
section RW
variable {S : gS} {e r t k N B : Nat} {d p : Int32} {f : Nat → Int32} {μ : mS} {E : EV}
theorem S_failx {x : Int32} (hB : 400 ≤ B) (hN : N ≤ 400) (hx : x ≠ -1) (h : Sim f N B p (-1) μ) : Sim f N B p x (mFail μ x) := by
  obtain ⟨h1, h2, h3⟩ := h
  rcases h3 with ⟨-, h5, q, hq, h6, h7⟩ | ⟨hw, -⟩
  · have := mF_5 (v := x) h5
    refine ⟨by rw [mF_1 (by decide) (by decide)]; exact h1, fun i hi => by rw [mF_2]; exact h2 i hi, Or.inr ⟨hx, by rw [this.1]; decide, this.2, q, by omega, by rw [mF_1 (by decide) (by decide)]; exact h7⟩⟩
  · exact absurd rfl hw
theorem Sim.m1 (hN : N ≤ 400) (h : Sim f N B p (-1) μ) (hp : 1 ≤ pn p) : μ.1 4 - 1 = p - 1 ∧ p - 1 ≠ -1 := by
  obtain ⟨-, -, h3⟩ := h
  rcases h3 with ⟨-, -, q, hq, h6, h7⟩ | ⟨hw, -⟩
  · rw [h7, h6]
    rw [h6, pn_nI (by omega)] at hp
    refine ⟨rfl, ?_⟩
    obtain ⟨q', rfl⟩ : ∃ q', q = q' + 1 := ⟨q - 1, by omega⟩
    rw [nI_pred]; exact nI_nm (by omega)
  · exact absurd rfl hw
theorem Sim.w4 (h : Sim f N B p (-1) μ) : μ.1 4 = p := by
  obtain ⟨-, -, h3⟩ := h
  rcases h3 with ⟨-, -, q, hq, h6, h7⟩ | ⟨hw, -⟩
  · rw [h7, h6]
  · exact absurd rfl hw
theorem nI300 : (300 : Int32) + nI k = nI (300 + k) := nI_add 300 k
theorem nI340 : (340 : Int32) + nI k = nI (340 + k) := nI_add 340 k
theorem nlen_pos {x : Int32} : 1 ≤ nlen x := by unfold nlen; split <;> (try split) <;> omega
theorem S_planRow (hN : N ≤ 400) (hB : 400 ≤ B) (hB' : B ≤ 3000) (h : Sim f N B p (-1) μ) (hC : Cx r t f S) (hR : Rm 10 45 S) (hE : EdAt S e d E) (hM : edIs μ 6 E) : ∃ (p' wr' : Int32) (μ' : mS) (S1 : gS), D_Rd_readPlan r (some e) (rd r t (nI N) p (-1) S) = some (rd r t (nI N) p' wr' S1) ∧ (∀ w S', D_Mo_planRow w (mput w μ S') = some (mput w μ' S')) ∧ Sim f N (B + 8) p' wr' μ' ∧ GrowI e (e + 4) 10 45 S S1 ∧ mOnly X6 μ μ' ∧ (wr' = -1 → ∃ E' l, EdAt S1 e d E' ∧ edIs μ' 6 E' ∧ Adv l p (-1) p' wr' ∧ edLen E' = edLen E + l + 2) := by
  obtain ⟨gp, gd, gs, hF, h2, h3, h4, h5, h6, h7⟩ := hE
  obtain ⟨v, p1, wr1, v', μ1, a1, a2, a3, a4, a5, a6, a7⟩ := S_number (a := 1) (b := 40) hN hB (by omega) h hC.ne hC.tp (Or.inr (by decide)) (by decide)
  obtain ⟨k, hk0, hk, rfl⟩ := rng_nat (lo := 1) (hi := 40) rfl rfl (by decide) (by decide) a5
  have hFr := hF.rd (r := r) (t := t) (n := nI N) (p := p1) (wr := wr1) hC.1
  have cls : D_Rd_readPlan r (some e) (rd r t (nI N) p (-1) S) = gNul (gp k) (B_Rd_readPlan_26 r (some e) (nI k) (rd r t (nI N) p1 wr1 S)) (fun _ => B_Rd_readPlan_26 r (some e) (nI k) (rd r t (nI N) p1 (rFail wr1 (p1 - 1)) S)) := by
    unfold D_Rd_readPlan
    simp only [rd_ob, Option.bind_some, a1, gB2_some]
    rw [e_O hFr.1]
    simp only [Option.bind_some]
    unfold D_Ed_planNumbered B_Ed_planNumbered_20
    rw [if_neg (nI_pos (by omega)), if_neg (show ¬ (40 : Int32) < nI k from nI_nlt (a := 40) (b := k) hk (by decide)), e_R hFr.1 (k := 1) (q := e + 1) rfl]
    simp only [Option.bind_some]
    rw [e_AR hFr.2.1 (by omega) (by decide)]
    simp only [Option.bind_some, gB2_some, rd_I2, rd_ob, R_fail]
  have ref : ∀ w S', D_Mo_planRow w (mput w μ S') = Option.bind (gI (mput w μ1 S') w 10 5) (fun v4 => (if v4 = 0 then Option.bind (gRf (mput w μ1 S') w 10 10) (fun r6 => Option.bind r6 (fun a7 => Option.bind (gAI (mput w μ1 S') a7 3 (300 + v')) (fun v8 => (if v8 = 0 then B_Mo_planRow_40 w (300 + v') (mput w μ1 S') else Option.bind (gI (mput w μ1 S') w 10 4) (fun v10 => Option.bind (gOb (mput w μ1 S') w 10) (fun _ => Option.bind (D_Mo_fail w (v10 - 1) (mput w μ1 S')) (fun S11 => B_Mo_planRow_40 w (300 + v') S11))))))) else B_Mo_planRow_40 w (300 + v') (mput w μ1 S'))) := by
    intro w S'
    unfold D_Mo_planRow
    simp only [m_ob, Option.bind_some, a2 w S', gB2_some]
  have wrong : ∀ {μx : mS} {wx : Int32}, wx ≠ -1 → Sim f N B p1 wx μx → ∀ w S' x, B_Mo_planRow_40 w x (mput w μx S') = some (mput w μx S') := by
    intro μx wx hwx hsx w S' x
    unfold B_Mo_planRow_40
    simp only [m_I5, Option.bind_some]
    rw [if_neg (fun e => hwx (hsx.w5.mp e))]
  by_cases hw : wr1 = -1
  · subst hw
    have ev := a7 rfl
    have hM1 : μ1.2 = μ.2 := a4.1
    cases hv : E.1 k with
    | some v0 =>
      obtain ⟨q, q1, -, -⟩ := (h2 k hk).2 v0 hv
      have hpn : 1 ≤ pn p1 := by have := (a6 rfl).2; have := @nlen_pos (nI k); omega
      obtain ⟨x1, x2⟩ := a3.m1 hN hpn
      have hsx := S_failx hB hN x2 a3
      obtain ⟨S1, y1, y2⟩ := R_plan26_w (p := p1) (n := nI N) x2 hC hR hF hk
      refine ⟨p1, p1 - 1, mFail μ1 (p1 - 1), S1, ?_, fun w S' => ?_, hsx.up (by omega), y2, (a4.on).tr mSame.fl.on, fun e => absurd e x2⟩
      · rw [cls, q1]
        exact y1
      · rw [ref w S', ev]
        simp only [m_I5, Option.bind_some, m_R10, nI300]
        rw [if_pos (a3.w5.mpr rfl), m_g3 (by omega), show μ1.2 3 (300 + k) = 1 by rw [hM1]; exact ((hM.1 k hk0 hk).2 v0 hv).1]
        simp only [Option.bind_some]
        rw [if_neg (by decide)]
        simp only [m_I4, m_ob, Option.bind_some, M_fail, x1]
        exact wrong x2 hsx w S' _
    | none =>
      obtain ⟨v, q, p', wr', μ', S1, b1, b2, b3, b4, b5, b6, b7, b8, b9, ⟨l, b10, b11⟩, b12⟩ := S_plan26 hN hB hB' a3 hC hR hF hk
      refine ⟨p', wr', μ', S1, ?_, fun w S' => ?_, b3, b4, a4.on.tr (b9.mo (fun j i hh => XP_6 (by omega) (by omega) hh)), fun e => ⟨upP E k v, nlen (nI k) + l, EdAt.plan h2 h3 h4 h5 h6 h7 hv hk0 hk b6 b5 b7 b8, ?_, a6.tr b10, ?_⟩⟩
      · rw [cls, (h2 k hk).1 hv]
        exact b1
      · rw [ref w S', ev]
        simp only [m_I5, Option.bind_some, m_R10, nI300]
        rw [if_pos (a3.w5.mpr rfl), m_g3 (by omega), show μ1.2 3 (300 + k) = 0 by rw [hM1]; exact (hM.1 k hk0 hk).1 hv]
        simp only [Option.bind_some]
        rw [if_pos trivial]
        exact b2 w S'
      · have hM' : edIs μ1 6 E := by unfold edIs plIs stIs hrIs ndIs; rw [hM1]; exact hM
        exact hM'.plan b9 (b12 e) hk0 hk (fun i w hi hw => by
          obtain ⟨-, -, -, m3⟩ := (h2 i hi).2 w hw
          exact m3.2.2.2.2.2) (fun i w hi hw => by
          obtain ⟨-, -, -, -, m3⟩ := (h3 i hi).2 w hw
          exact m3)
      · rw [upP_len (by omega) hv, b11]; omega
  · obtain ⟨S1, y1, y2⟩ := R_plan26_w (p := p1) (n := nI N) hw hC hR hF hk
    refine ⟨p1, wr1, μ1, S1, ?_, fun w S' => ?_, a3.up (by omega), y2, a4.on, fun e => absurd e hw⟩
    · rw [cls, show rFail wr1 (p1 - 1) = wr1 from if_neg hw]
      cases gp k with
      | none => exact y1
      | some _ => exact y1
    · rw [ref w S']
      simp only [m_I5, Option.bind_some]
      rw [if_neg (fun e => hw (a3.w5.mp e))]
      exact wrong hw a3 w S' _
end RW
