/-! THE CALLS STANDBY, TOWN, PLACE -/
def hldV (v : Nat → Int32) (sk hr cl : Int32) : Bool := decide (v 4 = sk) && (wIn (v 0) (v 1) hr && decide (v 2 ≤ cl))
def sbS (E : EV) (sk hr cl : Int32) : Nat → Int32
  | 0 => 0
  | i + 1 => sbS E sk hr cl i + (if hldV (E.2.2.2 i) sk hr cl = true then E.2.2.2 i 3 else 0)
section KS
variable {z k : Nat} {χ : cS} {μ : mS} {T : gS} {S : gS} {e ns j : Nat} {d np nd : Int32} {gp gd gs : Nat → Option Nat} {E : EV} {sk cl : Int32}
theorem Lsu_s {f : Nat} {a b c x y : Int32} : L_Ed_standbyUnits_6 (f + 1) e a b c x y S = B_Ed_standbyUnits_6 (L_Ed_standbyUnits_6 f) e a b c x y S := rfl
theorem i_add0 {x : Int32} : x + 0 = x := by simp
theorem C_sb_loop (hF : EdF S e d gp gd gs np nd E.2.2.1) (hA : sbsAt S gs E) (h8 : E.2.2.1 ≤ 8) (hj : j < 24) : ∀ (m i fuel : Nat), m = E.2.2.1 - i → i ≤ E.2.2.1 → m < fuel → L_Ed_standbyUnits_6 fuel e sk (nI j) cl (sbS E sk (nI j) cl i) (nI i) S = some (sbS E sk (nI j) cl E.2.2.1, S) := by
  intro m
  induction m with
  | zero =>
    intro i fuel hm hi hf
    obtain ⟨fu, rfl⟩ : ∃ fu, fuel = fu + 1 := ⟨fuel - 1, by omega⟩
    obtain rfl : i = E.2.2.1 := by omega
    rw [Lsu_s]
    unfold B_Ed_standbyUnits_6
    rw [e_I hF.1 (k := 6) (v := nI E.2.2.1) rfl]
    simp only [Option.bind_some]
    rw [if_pos (nI_le (Nat.le_refl _) (by omega))]
  | succ m ih =>
    intro i fuel hm hi hf
    obtain ⟨fu, rfl⟩ : ∃ fu, fuel = fu + 1 := ⟨fuel - 1, by omega⟩
    have IH := ih (i + 1) fu (by omega) (by omega) (by omega)
    obtain ⟨q, hh, q1, q2, q3, q4⟩ := hA i (by omega)
    rw [Lsu_s]
    unfold B_Ed_standbyUnits_6 B_Ed_standbyUnits_49 D_Ed_standbyRow B_Ed_standbyRow_22
    rw [e_I hF.1 (k := 6) (v := nI E.2.2.1) rfl]
    simp only [Option.bind_some]
    rw [if_neg (nI_ge (a := i) (b := E.2.2.1) (by omega) (by omega)), e_O hF.1, if_neg (nI_pos (by omega))]
    simp only [Option.bind_some]
    rw [if_neg (nI_ge (a := i) (b := E.2.2.1) (by omega) (by omega)), e_R hF.1 (k := 3) (q := e + 3) rfl]
    simp only [Option.bind_some]
    rw [e_AR hF.2.2.2 (by omega) (by decide), q1]
    simp only [Option.bind_some, gB2_some, gNul, nI_1]
    rw [e_O q2]
    simp only [Option.bind_some]
    have hol : D_Sb_holds q sk (nI j) cl S = some (bI (hldV (E.2.2.2 i) sk (nI j) cl), S) := by
      unfold D_Sb_holds B_Sb_holds_31 B_Sb_holds_32 hldV
      rw [e_I q2 (k := 3) (v := E.2.2.2 i 4) rfl]
      simp only [Option.bind_some]
      by_cases c1 : E.2.2.2 i 4 = sk
      · rw [if_pos c1, decide_eq_true c1, e_R q2 (k := 0) (q := hh) rfl]
        simp only [Option.bind_some]
        rw [e_O q3, C_has q3 hj]
        simp only [Option.bind_some, gB2_some]
        cases wIn (E.2.2.2 i 0) (E.2.2.2 i 1) (nI j) with
        | false => rfl
        | true =>
          rw [if_neg (by decide), e_I q2 (k := 1) (v := E.2.2.2 i 2) rfl]
          simp only [Option.bind_some]
          by_cases c2 : cl < E.2.2.2 i 2
          · rw [if_pos c2, decide_eq_false (i_ltn c2)]; rfl
          · rw [if_neg c2, decide_eq_true (i_nlt c2)]; rfl
      · rw [if_neg c1, decide_eq_false c1]; rfl
    rw [hol]
    simp only [gB2_some]
    have st : sbS E sk (nI j) cl (i + 1) = sbS E sk (nI j) cl i + (if hldV (E.2.2.2 i) sk (nI j) cl = true then E.2.2.2 i 3 else 0) := rfl
    rw [st] at IH
    cases hb : hldV (E.2.2.2 i) sk (nI j) cl with
    | false =>
      rw [hb, if_neg (by decide), i_add0] at IH
      rw [if_pos (show bI false = 0 from rfl)]
      exact IH
    | true =>
      rw [hb, if_pos rfl] at IH
      rw [if_neg (by decide), e_I q2 (k := 2) (v := E.2.2.2 i 3) rfl]
      exact IH
theorem Lms_s {f w : Nat} {a b c x y g : Int32} : L_Mo_standby_72 (f + 1) w a b c x y g S = B_Mo_standby_72 (L_Mo_standby_72 f) w a b c x y g S := rfl
theorem M_sb_loop {μ : mS} (he : e ≤ 6) (hM : edIs μ e E) (h8 : E.2.2.1 ≤ 8) : ∀ (m i fuel : Nat), m = E.2.2.1 - i → i ≤ E.2.2.1 → m < fuel → ∀ w S, L_Mo_standby_72 fuel w sk (nI j) cl (nI e) (sbS E sk (nI j) cl i) (nI i) (mput w μ S) = some (sbS E sk (nI j) cl E.2.2.1, mput w μ S) := by
  intro m
  induction m with
  | zero =>
    intro i fuel hm hi hf w S
    obtain ⟨fu, rfl⟩ : ∃ fu, fuel = fu + 1 := ⟨fuel - 1, by omega⟩
    obtain rfl : i = E.2.2.1 := by omega
    rw [Lms_s]
    unfold B_Mo_standby_72 B_Mo_standby_186
    rw [if_neg (nI_pos (by omega))]
    simp only [m_R20, Option.bind_some]
    rw [m_g13 (by omega), hM.2.2.1]
    simp only [Option.bind_some]
    rw [if_pos (nI_le (Nat.le_refl _) (by omega))]
  | succ m ih =>
    intro i fuel hm hi hf w S
    obtain ⟨fu, rfl⟩ : ∃ fu, fuel = fu + 1 := ⟨fuel - 1, by omega⟩
    have IH := ih (i + 1) fu (by omega) (by omega) (by omega) w S
    have hc := hM.2.2.2 i (by omega)
    rw [Lms_s]
    unfold B_Mo_standby_72 B_Mo_standby_154 B_Mo_standby_155 B_Mo_standby_177
    rw [if_neg (nI_pos (by omega))]
    simp only [m_R20, m_R21, Option.bind_some]
    rw [m_g13 (by omega), hM.2.2.1]
    simp only [Option.bind_some, nI_1]
    have b0 : (40 * nI e + 5 * nI i : Int32) = nI (40 * e + 5 * i) := by rw [show (40 : Int32) = nI 40 from rfl, show (5 : Int32) = nI 5 from rfl, pk_mul, pk_mul, nI_add]
    rw [if_neg (nI_ge (a := i) (b := E.2.2.1) (by omega) (by omega)), b0]
    simp only [nI_1, nI_p2, nI_p3, nI_p4]
    have g0 : gAI (mput w μ S) (w + 14) 0 (nI (40 * e + 5 * i)) = some (E.2.2.2 i 0) := by rw [m_g14 (by omega)]; exact congrArg some (hc 0 (by decide))
    have g1 : gAI (mput w μ S) (w + 14) 0 (nI (40 * e + 5 * i + 1)) = some (E.2.2.2 i 1) := by rw [m_g14 (by omega)]; exact congrArg some (hc 1 (by decide))
    have g2 : gAI (mput w μ S) (w + 14) 0 (nI (40 * e + 5 * i + 2)) = some (E.2.2.2 i 2) := by rw [m_g14 (by omega)]; exact congrArg some (hc 2 (by decide))
    have g3 : gAI (mput w μ S) (w + 14) 0 (nI (40 * e + 5 * i + 3)) = some (E.2.2.2 i 3) := by rw [m_g14 (by omega)]; exact congrArg some (hc 3 (by decide))
    have g4 : gAI (mput w μ S) (w + 14) 0 (nI (40 * e + 5 * i + 4)) = some (E.2.2.2 i 4) := by rw [m_g14 (by omega)]; exact congrArg some (hc 4 (by decide))
    simp only [g4, g0, g1, M_isWithin, gB2_some, m_R21, Option.bind_some, g2, g3]
    have st : sbS E sk (nI j) cl (i + 1) = sbS E sk (nI j) cl i + (if hldV (E.2.2.2 i) sk (nI j) cl = true then E.2.2.2 i 3 else 0) := rfl
    rw [st] at IH
    unfold hldV at IH
    by_cases c1 : E.2.2.2 i 4 = sk
    · rw [decide_eq_true c1] at IH
      rw [if_pos c1]
      cases hw : wIn (E.2.2.2 i 0) (E.2.2.2 i 1) (nI j) with
      | false =>
        rw [hw] at IH
        rw [if_pos (show bI false = 0 from rfl), if_pos trivial]
        exact IH
      | true =>
        rw [hw] at IH
        rw [if_neg (by decide)]
        by_cases c2 : cl < E.2.2.2 i 2
        · rw [decide_eq_false (i_ltn c2)] at IH
          rw [if_pos c2, if_pos trivial]
          exact IH
        · rw [decide_eq_true (i_nlt c2)] at IH
          rw [if_neg c2, if_neg (by decide)]
          exact IH
    · rw [decide_eq_false c1] at IH
      rw [if_neg c1, if_pos trivial]
      exact IH
theorem K_standby {sk hr cl d : Int32} (hv : Ivs z χ μ T k) (hk : k < 512) : Call z χ μ T k (fun S => D_La_standby (some z) sk hr cl d (some (z + 29)) S) (fun w S => D_Mo_standby w sk hr cl d S) := by
  obtain ⟨n, a, dd, Ev, L, P, hv⟩ := hv
  have hg : gRoom (Full z χ μ T) := hv.gRoom hk
  have hn := hv.2.1.1
  have cls : D_La_standby (some z) sk hr cl d (some (z + 29)) (Full z χ μ T) = gCat (D_PT_standby z sk hr cl d (Full z χ μ T)) (fun E3 S6 => (if E3 = "java/lang/IllegalArgumentException" then some (1, S6) else (if E3 = "java/lang/IndexOutOfBoundsException" then some (2, S6) else none))) (fun v4 S5 => Option.bind (gSL S5 (z + 29) 1 0 v4.toInt64) (fun S14 => some (0, S14))) := by
    unfold D_La_standby
    simp only [Option.bind_some]
    rw [show gOb (Full z χ μ T) z 0 = some (cfs z χ) from c_ob]
    rfl
  have sm := hv.same (μ' := mI μ 0 0) hv.1 (fun q x _ hq _ => hq) (by omega) (by omega) rfl (fun k hk => mI_n hk)
  have rf : ∀ w S, D_Mo_standby w sk hr cl d (mput w μ S) = B_Mo_standby_49 w sk hr cl d (bI (!(rng hr 0 23 && (rng cl 0 99 && rng d 0 9999)))) (bI (!rng sk 0 7)) w (mput w μ S) := by
    intro w S
    unfold D_Mo_standby B_Mo_standby_16 B_Mo_standby_44 D_Mo_isDay
    simp only [M_in, gB2_some]
    show (if bI (rng sk 0 7) = 0 then (if bI (rng hr 0 23) = 0 then _ else (if bI (rng cl 0 99) = 0 then _ else gB2 (Option.bind (gZo (bI (rng d 0 9999))) _) _)) else (if bI (rng hr 0 23) = 0 then _ else (if bI (rng cl 0 99) = 0 then _ else gB2 (Option.bind (gZo (bI (rng d 0 9999))) _) _))) = _
    cases rng sk 0 7 <;> cases rng hr 0 23 <;> cases rng cl 0 99 <;> cases rng d 0 9999 <;> rfl
  by_cases h0 : rng sk 0 7 = true
  · by_cases h1 : (rng hr 0 23 && (rng cl 0 99 && rng d 0 9999)) = true
    · have h1' := h1
      simp only [Bool.and_eq_true] at h1'
      obtain ⟨j, hj, rfl⟩ := rng_nI (n := 23) (by decide) h1'.1
      have rf2 : ∀ w S, D_Mo_standby w sk (nI j) cl d (mput w μ S) = L_Mo_standby_72 gF w sk (nI j) cl (idx (fnd dd d n)) 0 0 (mput w (mI μ 0 0) S) := by
        intro w S
        rw [rf w S, h1, h0]
        unfold B_Mo_standby_49
        simp only [m_ob, Option.bind_some]
        rw [show D_Mo_throwing w (bI (!true)) (bI (!true)) 0 (mput w μ S) = some (0, mput w (mI μ 0 0) S) from M_th0]
        simp only [gB2_some]
        rw [if_pos trivial]
        simp only [m_ob, Option.bind_some]
        rw [M_edOf hv.2.1 (μ' := mI μ 0 0) rfl (mI_n (by decide))]
        simp only [gB2_some]
      have cl2 : D_PT_standby z sk (nI j) cl d (Full z χ μ T) = Option.bind (gOb (Full z χ μ T) (adr z a (fnd dd d n)) 1) (fun fs19 => gB2 (D_Ed_standbyUnits (adr z a (fnd dd d n)) sk (nI j) cl (Full z χ μ T)) (fun v18 S17 => some (.inr v18, S17))) := by
        unfold D_PT_standby
        rw [gTry_r (by rw [C_skill hg, if_pos h0]), gTry_r (by rw [C_within hg, if_pos h1'.1]), gTry_r (by rw [C_within hg, if_pos h1'.2.1]), gTry_r (by rw [C_day hg, if_pos h1'.2.2]), show gOb (Full z χ μ T) z 0 = some (cfs z χ) from c_ob]
        simp only [Option.bind_some]
        rw [C_edOf hv.2.1]
        simp only [Option.bind_some, gB2_some]
      rcases fnd_ed (d := d) hv with ⟨hf, hE⟩ | ⟨i, hi, hf, hE, hM, -⟩
      · obtain ⟨gp, gd, gs, hF, -, -, hA, h8, -⟩ := hE
        refine K_ok (v := 0) (μ' := mI μ 0 0) (T' := T) (χ' := χ) cls ?_ (fun w S => ?_) mI_s sm
        · rw [cl2, e_O hF.1]
          simp only [Option.bind_some]
          have := C_sb_loop (sk := sk) (cl := cl) hF hA h8 (show j < 24 by omega) 0 0 gF rfl (Nat.zero_le _) (by decide)
          unfold D_Ed_standbyUnits
          have this' : L_Ed_standbyUnits_6 gF (adr z a (fnd dd d n)) sk (nI j) cl 0 0 (Full z χ μ T) = some (0, Full z χ μ T) := this
          rw [this']
          rfl
        · rw [rf2 w S, hf, show gF = 999 + 1 from rfl, Lms_s]
          unfold B_Mo_standby_72 B_Mo_standby_186
          rw [if_pos (by decide)]
      · have hO := hE.ok
        obtain ⟨gp, gd, gs, hF, -, -, hA, h8, -⟩ := hE
        refine K_ok (v := sbS (Ev i) sk (nI j) cl (Ev i).2.2.1) (μ' := mI μ 0 0) (T' := T) (χ' := χ) cls ?_ (fun w S => ?_) mI_s sm
        · rw [cl2, e_O hF.1]
          simp only [Option.bind_some]
          have := C_sb_loop (sk := sk) (cl := cl) hF hA h8 (show j < 24 by omega) (Ev i).2.2.1 0 gF (by omega) (Nat.zero_le _) (by have : gF = 1000 := rfl; omega)
          unfold D_Ed_standbyUnits
          have this' : L_Ed_standbyUnits_6 gF (adr z a (fnd dd d n)) sk (nI j) cl 0 0 (Full z χ μ T) = some (sbS (Ev i) sk (nI j) cl (Ev i).2.2.1, Full z χ μ T) := this
          rw [this']
          rfl
        · rw [rf2 w S, hf]
          exact M_sb_loop (sk := sk) (cl := cl) (j := j) (μ := mI μ 0 0) (show i ≤ 6 by omega) (show edIs (mI μ 0 0) i (Ev i) from hM) h8 (Ev i).2.2.1 0 gF (by omega) (Nat.zero_le _) (by have : gF = 1000 := rfl; omega) w S
    · refine K_th (Ex := IOOBE) (kk := 2) (b := 0) cls ?_ (fun S => rfl) (by decide) (fun w S => ?_) hv
      · unfold D_PT_standby
        rw [gTry_r (by rw [C_skill hg, if_pos h0])]
        by_cases x1 : rng hr 0 23 = true
        · rw [gTry_r (by rw [C_within hg, if_pos x1])]
          by_cases x2 : rng cl 0 99 = true
          · rw [gTry_r (by rw [C_within hg, if_pos x2])]
            have x3 : ¬ rng d 0 9999 = true := fun x3 => h1 (by rw [x1, x2, x3]; rfl)
            rw [gTry_l (by rw [C_day hg, if_neg x3])]; rfl
          · rw [gTry_l (by rw [C_within hg, if_neg x2])]; rfl
        · rw [gTry_l (by rw [C_within hg, if_neg x1])]; rfl
      · rw [rf w S, Bool.eq_false_iff.mpr h1, h0]
        unfold B_Mo_standby_49
        simp only [m_ob, Option.bind_some]
        rw [show D_Mo_throwing w (bI (!true)) (bI (!false)) 0 (mput w μ S) = some (1, mput w (mI μ 0 2) S) from M_th01]
        simp only [gB2_some]
        rw [if_neg (by decide)]
  · refine K_th (Ex := IAE) (kk := 1) (b := 0) cls ?_ (fun S => rfl) (by decide) (fun w S => ?_) hv
    · unfold D_PT_standby
      rw [gTry_l (by rw [C_skill hg, if_neg h0])]; rfl
    · rw [rf w S, Bool.eq_false_iff.mpr h0]
      unfold B_Mo_standby_49
      simp only [m_ob, Option.bind_some]
      rw [show D_Mo_throwing w (bI (!false)) (bI (!(rng hr 0 23 && (rng cl 0 99 && rng d 0 9999)))) 0 (mput w μ S) = some (1, mput w (mI μ 0 1) S) from M_th1]
      simp only [gB2_some]
      rw [if_neg (by decide)]
end KS
