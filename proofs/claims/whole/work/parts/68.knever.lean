/-! THE CALL NEVER -/
noncomputable def nvB (E : EV) (p : Nat) : Bool := match E.1 p with
  | none => false
  | some v => @decide (¬ cMet E v p) (Classical.propDecidable _)
theorem nvB_n {E : EV} {p : Nat} (h : E.1 p = none) : nvB E p = false := by unfold nvB; rw [h]
theorem nvB_s {E : EV} {p : Nat} {v : PV} (h : E.1 p = some v) : nvB E p = true ↔ ¬ cMet E v p := by
  unfold nvB; rw [h]
  exact @decide_eq_true_iff (¬ cMet E v p) (Classical.propDecidable _)
theorem b_eq {a b : Bool} {P : Prop} (ha : a = true ↔ P) (hb : b = true ↔ P) : a = b := by
  cases a <;> cases b
  · rfl
  · exact absurd (ha.mpr (hb.mp rfl)) (by decide)
  · exact absurd (hb.mpr (ha.mp rfl)) (by decide)
  · rfl
section KV
variable {z k : Nat} {χ : cS} {μ : mS} {T S : gS} {d i : Int32} {e ns w : Nat} {dy np nd : Int32} {gp gd gs : Nat → Option Nat} {E : EV}
theorem L4n_s {f : Nat} {b : Int64} {x : Int32} : L_Ed_plansNeverMet_4 (f + 1) e b x S = B_Ed_plansNeverMet_4 (L_Ed_plansNeverMet_4 f) e b x S := rfl
theorem C_nev_loop (hF : EdF S e dy gp gd gs np nd ns) (hA : plsAt S gp E) (h0 : E.1 0 = none) : ∀ (m p fuel : Nat), m = 41 - p → p ≤ 41 → m < fuel → L_Ed_plansNeverMet_4 fuel e (bs (nvB E) p) (nI p) S = some (bs (nvB E) 41, S) := by
  intro m
  induction m with
  | zero =>
    intro p fuel hm hp hf
    obtain ⟨fu, rfl⟩ : ∃ fu, fuel = fu + 1 := ⟨fuel - 1, by omega⟩
    obtain rfl : p = 41 := by omega
    rw [L4n_s]
    unfold B_Ed_plansNeverMet_4
    rw [if_pos (by decide)]
  | succ m ih =>
    intro p fuel hm hp hf
    obtain ⟨fu, rfl⟩ : ∃ fu, fuel = fu + 1 := ⟨fuel - 1, by omega⟩
    have IH := ih (p + 1) fu (by omega) (by omega) (by omega)
    have st : bs (nvB E) (p + 1) = if nvB E p = true then bs (nvB E) p ||| ((1 : Int64) <<< ((nI p).toInt64 &&& 63)) else bs (nvB E) p := rfl
    rw [st] at IH
    rw [L4n_s]
    unfold B_Ed_plansNeverMet_4 B_Ed_plansNeverMet_37
    rw [if_neg (show ¬ (40 : Int32) < nI p from nI_nlt (a := 40) (b := p) (by omega) (by decide)), e_O hF.1, C_numbered hF (by omega)]
    simp only [Option.bind_some, gB2_some, nI_1]
    cases hv : E.1 p with
    | none =>
      rw [(hA p (by omega)).1 hv]
      rw [nvB_n hv, if_neg (by decide)] at IH
      exact IH
    | some v =>
      obtain ⟨q, q1, q2, q3⟩ := (hA p (by omega)).2 v hv
      obtain ⟨b, b1, b2⟩ := C_never hF hA h0 q2 (by omega)
      have hb : b = nvB E p := b_eq b2 (nvB_s hv)
      rw [q1]
      simp only [gNul]
      rw [e_O hF.1, b1, hb]
      simp only [Option.bind_some, gB2_some]
      cases hb : nvB E p with
      | false =>
        rw [hb, if_neg (by decide)] at IH
        rw [if_pos (show bI false = 0 from rfl)]
        exact IH
      | true =>
        rw [hb, if_pos rfl] at IH
        rw [if_neg (by decide)]
        exact IH
theorem L39n_s {f : Nat} {a x y : Int32} : L_Mo_never_39 (f + 1) w a x y S = B_Mo_never_39 (L_Mo_never_39 f) w a x y S := rfl
theorem M_nev_loop (he : e ≤ 6) (hM : edIs μ e E) (hO : evOk E) : ∀ (m fuel : Nat) (x : Int32), m ≤ 40 → m < fuel → ∀ w S, L_Mo_never_39 fuel w (nI e) x (nI (41 - m)) (mput w μ S) = some (nth (nvB E) m x, mput w μ S) := by
  intro m
  induction m with
  | zero =>
    intro fuel x hm hf w S
    obtain ⟨fu, rfl⟩ : ∃ fu, fuel = fu + 1 := ⟨fuel - 1, by omega⟩
    rw [L39n_s]
    unfold B_Mo_never_39 B_Mo_never_92
    rw [if_neg (nI_pos (by omega)), if_pos (by decide)]
    rfl
  | succ m ih =>
    intro fuel x hm hf w S
    obtain ⟨fu, rfl⟩ : ∃ fu, fuel = fu + 1 := ⟨fuel - 1, by omega⟩
    rw [L39n_s]
    unfold B_Mo_never_39 B_Mo_never_86
    rw [if_neg (nI_pos (by omega)), show 41 - (m + 1) = 40 - m by omega, if_neg (show ¬ (40 : Int32) < nI (40 - m) from nI_nlt (a := 40) (b := 40 - m) (by omega) (by decide)), nth_s]
    simp only [m_R10, m_ob, Option.bind_some, nI50, nI_1]
    rw [m_g3 (by omega), show 40 - m + 1 = 41 - m by omega]
    simp only [Option.bind_some]
    cases hv : E.1 (40 - m) with
    | none =>
      rw [(hM.1 (40 - m) (by omega) (by omega)).1 hv, if_pos rfl, nvB_n hv, if_neg (by decide)]
      exact ih fu x (by omega) (by omega) w S
    | some v =>
      have pv := (hM.1 (40 - m) (by omega) (by omega)).2 v hv
      obtain ⟨b, b1, b2⟩ := M_isMet he hM hO (show 1 ≤ 40 - m by omega) (show 40 - m < 41 by omega) hv
      rw [pv.1, if_neg (by decide), b1 w S]
      simp only [gB2_some]
      cases hb : b with
      | false =>
        have : nvB E (40 - m) = true := (nvB_s hv).mpr (fun x => by rw [b2.mpr x] at hb; cases hb)
        rw [if_pos (show bI false = 0 from rfl), this, if_pos rfl]
        by_cases hx : x = 0
        · rw [if_pos hx, if_pos hx]
        · rw [if_neg hx, if_neg hx]
          exact ih fu (x + (-1)) (by omega) (by omega) w S
      | true =>
        have : nvB E (40 - m) = false := by
          cases hn : nvB E (40 - m) with
          | false => rfl
          | true => exact absurd (b2.mp hb) ((nvB_s hv).mp hn)
        rw [if_neg (by decide), this, if_neg (by decide)]
        exact ih fu x (by omega) (by omega) w S
theorem K_never (hv : Ivs z χ μ T k) (hk : k < 512) : Call z χ μ T k (fun S => D_La_never (some z) d i (some (z + 29)) S) (fun w S => D_Mo_never w d i S) := by
  obtain ⟨n, a, dd, Ev, L, P, hv⟩ := hv
  have hn := hv.2.1.1
  obtain ⟨v, hC, hM⟩ : ∃ v, (∃ fs b, gOb (Full z χ μ T) (adr z a (fnd dd d n)) 1 = some fs ∧ D_Ed_plansNeverMet (adr z a (fnd dd d n)) (Full z χ μ T) = some (b, Full z χ μ T) ∧ D_PT_numberAmong b i (Full z χ μ T) = some (v, Full z χ μ T)) ∧ ∀ w S, L_Mo_never_39 gF w (idx (fnd dd d n)) i 1 (mput w (mI μ 0 0) S) = some (v, mput w (mI μ 0 0) S) := by
    have lp : ∀ {e E d'}, EdAt (Full z χ μ T) e d' E → D_Ed_plansNeverMet e (Full z χ μ T) = some (bs (nvB E) 41, Full z χ μ T) := by
      intro e E d' hE
      obtain ⟨gp, gd, gs, hF, hA, -, -, -, z0, -⟩ := hE
      have := C_nev_loop hF hA z0 40 1 gF rfl (by decide) (by decide)
      rw [bs_1 (nvB_n z0)] at this
      exact this
    rcases fnd_ed (d := d) hv with ⟨hf, hE⟩ | ⟨j, hj, hf, hE, hM, -⟩
    · have l0 := lp hE
      obtain ⟨gp, gd, gs, hF, hA, -⟩ := hE
      refine ⟨-1, ⟨_, _, e_O hF.1, l0, ?_⟩, fun w S => ?_⟩
      · rw [C_among, nth_0 (fun p => nvB_n rfl)]
      · rw [hf, show gF = 999 + 1 from rfl, L39n_s]
        unfold B_Mo_never_39 B_Mo_never_92
        rw [if_pos (by decide)]
    · have hO := hE.ok
      have l0 := lp hE
      obtain ⟨gp, gd, gs, hF, hA, -⟩ := hE
      refine ⟨nth (nvB (Ev j)) 40 i, ⟨_, _, e_O hF.1, l0, C_among⟩, fun w S => ?_⟩
      rw [hf]
      exact M_nev_loop (μ := mI μ 0 0) (show j ≤ 6 by omega) (show edIs (mI μ 0 0) j (Ev j) from hM) hO 40 gF i (Nat.le_refl _) (by decide) w S
  obtain ⟨fs, b, hC1, hC2, hC3⟩ := hC
  refine K_di (d := d) (i := i) (v := v) (cP := fun S6 => Option.bind (gOb S6 z 0) (fun fs9 => gB2 (D_PT_editionOf z d S6) (fun r8 S7 => Option.bind r8 (fun a10 => Option.bind (gOb S7 a10 1) (fun fs13 => gB2 (D_Ed_plansNeverMet a10 S7) (fun v12 S11 => gB2 (D_PT_numberAmong v12 i S11) (fun v15 S14 => some (.inr v15, S14)))))))) (mX := fun w S t => B_Mo_never_17 w d i t w S) hv hk ?_ (fun w S => rfl) (fun w S => ?_) (fun h0 h1 w S => ?_) (fun h0 h1 => ?_)
  · show D_La_never (some z) d i (some (z + 29)) (Full z χ μ T) = _
    unfold D_La_never
    simp only [Option.bind_some]
    rw [show gOb (Full z χ μ T) z 0 = some (cfs z χ) from c_ob]
    rfl
  · show B_Mo_never_17 w d i 1 w (mput w μ S) = _
    unfold B_Mo_never_17
    simp only [m_ob, Option.bind_some, M_th1, gB2_some]
    rw [if_neg (by decide)]
  · show B_Mo_never_17 w d i 0 w (mput w μ S) = _
    unfold B_Mo_never_17
    simp only [m_ob, Option.bind_some, M_th0, gB2_some]
    rw [if_pos trivial]
    rw [M_edOf hv.2.1 (μ' := mI μ 0 0) rfl (mI_n (by decide))]
    simp only [gB2_some]
    exact hM w S
  · show Option.bind (gOb (Full z χ μ T) z 0) _ = _
    rw [show gOb (Full z χ μ T) z 0 = some (cfs z χ) from c_ob]
    simp only [Option.bind_some]
    rw [C_edOf hv.2.1]
    simp only [Option.bind_some, gB2_some]
    rw [hC1]
    simp only [Option.bind_some]
    rw [hC2]
    simp only [gB2_some]
    rw [hC3]
    rfl
end KV
