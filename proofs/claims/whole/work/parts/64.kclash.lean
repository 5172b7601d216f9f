/-! SETS OF PLANS; THE CALLS CLASH AND LACKS -/
def nth (Pr : Nat → Bool) : Nat → Int32 → Int32
  | 0, _ => -1
  | d + 1, x => if Pr (40 - d) = true then (if x = 0 then nI (40 - d) else nth Pr d (x + (-1))) else nth Pr d x
theorem nth_s {Pr : Nat → Bool} {d : Nat} {x : Int32} : nth Pr (d + 1) x = if Pr (40 - d) = true then (if x = 0 then nI (40 - d) else nth Pr d (x + (-1))) else nth Pr d x := rfl
theorem nth_0 {Pr : Nat → Bool} (h : ∀ p, Pr p = false) : ∀ d x, nth Pr d x = -1
  | 0, _ => rfl
  | d + 1, x => by rw [nth_s, h, if_neg (by decide)]; exact nth_0 h d x
theorem nth_ext {Pr Pr' : Nat → Bool} : ∀ d x, d ≤ 40 → (∀ p, 1 ≤ p → p ≤ 40 → Pr p = Pr' p) → nth Pr d x = nth Pr' d x
  | 0, _, _, _ => rfl
  | d + 1, x, hd, h => by
    rw [nth_s, nth_s, h (40 - d) (by omega) (by omega), nth_ext d x (by omega) h, nth_ext d (x + (-1)) (by omega) h]
def bs (Pr : Nat → Bool) : Nat → Int64
  | 0 => 0
  | i + 1 => if Pr i = true then bs Pr i ||| ((1 : Int64) <<< ((nI i).toInt64 &&& 63)) else bs Pr i
theorem sh_b64 : ∀ h, h < 41 → ((1 : Int64) <<< ((nI h).toInt64 &&& 63)).toBitVec = BitVec.twoPow 64 h := by decide +kernel
theorem sm_b64 : ∀ h, h < 41 → (((nI h).toInt64 &&& 63).toBitVec.smod 64).toNat = h := by decide +kernel
theorem bs_bit {Pr : Nat → Bool} : ∀ h i, h ≤ 41 → (bs Pr h).toBitVec.getLsbD i = (decide (i < h) && Pr i)
  | 0, i, _ => by
    show (0 : Int64).toBitVec.getLsbD i = _
    simp
  | h + 1, i, hh => by
    have ih := bs_bit (Pr := Pr) h i (by omega)
    show (if Pr h = true then bs Pr h ||| ((1 : Int64) <<< ((nI h).toInt64 &&& 63)) else bs Pr h).toBitVec.getLsbD i = _
    by_cases hw : Pr h = true
    · rw [if_pos hw, Int64.toBitVec_or, BitVec.getLsbD_or, ih, sh_b64 h (by omega), BitVec.getLsbD_twoPow]
      by_cases hi : i = h
      · subst hi
        simp [hw, show i < 64 by omega]
      · have e1 : decide (i < h + 1) = decide (i < h) := by rw [decide_eq_decide]; omega
        have e2 : decide (h = i) = false := by rw [decide_eq_false_iff_not]; omega
        rw [e1, e2]; simp
    · rw [if_neg hw, ih]
      by_cases hi : i = h
      · subst hi
        simp [hw]
      · have e1 : decide (i < h + 1) = decide (i < h) := by rw [decide_eq_decide]; omega
        rw [e1]
theorem bit_t64 {x : Int64} {h : Nat} (hh : h < 41) : ((x >>> ((nI h).toInt64 &&& 63)) &&& 1 = 0 ↔ x.toBitVec.getLsbD h = false) := by
  have e1 : ((x >>> ((nI h).toInt64 &&& 63)) &&& 1).toBitVec.getLsbD 0 = x.toBitVec.getLsbD h := by
    rw [Int64.toBitVec_and, BitVec.getLsbD_and]
    have : (x >>> ((nI h).toInt64 &&& 63)).toBitVec = x.toBitVec.sshiftRight h := by
      show x.toBitVec.sshiftRight' (((nI h).toInt64 &&& 63).toBitVec.smod 64) = _
      rw [BitVec.sshiftRight_eq', sm_b64 h hh]
    rw [this, BitVec.getLsbD_sshiftRight]
    simp [show h < 64 by omega]
  constructor
  · intro e
    rw [← e1, e]; rfl
  · intro e
    rw [← e1] at e
    have : ((x >>> ((nI h).toInt64 &&& 63)) &&& 1).toBitVec = 0#64 := by
      apply BitVec.eq_of_getLsbD_eq
      intro i hi
      by_cases h0 : i = 0
      · subst h0; rw [e]; rfl
      · rw [Int64.toBitVec_and, BitVec.getLsbD_and]
        have : (1 : Int64).toBitVec.getLsbD i = false := by
          show (1#64).getLsbD i = false
          rw [BitVec.getLsbD_one]; simp [h0]
        rw [this]; simp
    exact Int64.toBitVec_inj.mp this
theorem cmp_0 {y : Int64} : lg_cmp y 0 = 0 ↔ y = 0 := by
  unfold lg_cmp
  by_cases h : y > 0
  · rw [if_pos h]
    refine ⟨fun x => absurd x (by decide), fun x => ?_⟩
    rw [x] at h
    exact absurd h (by decide)
  · rw [if_neg h]
    by_cases h0 : y = 0
    · rw [if_pos h0]; exact ⟨fun _ => h0, fun _ => rfl⟩
    · rw [if_neg h0]; exact ⟨fun x => absurd x (by decide), fun x => absurd x h0⟩
theorem L5n_s {f : Nat} {b : Int64} {x p : Int32} {S : gS} : L_PT_numberAmong_5 (f + 1) b x p S = B_PT_numberAmong_5 (L_PT_numberAmong_5 f) b x p S := rfl
theorem C_among_loop {Pr : Nat → Bool} {S : gS} : ∀ (m fuel : Nat) (x : Int32), m ≤ 40 → m < fuel → L_PT_numberAmong_5 fuel (bs Pr 41) x (nI (41 - m)) S = some (nth Pr m x, S) := by
  intro m
  induction m with
  | zero =>
    intro fuel x hm hf
    obtain ⟨fu, rfl⟩ : ∃ fu, fuel = fu + 1 := ⟨fuel - 1, by omega⟩
    rw [L5n_s]
    unfold B_PT_numberAmong_5
    rw [if_pos (by decide)]
    rfl
  | succ m ih =>
    intro fuel x hm hf
    obtain ⟨fu, rfl⟩ : ∃ fu, fuel = fu + 1 := ⟨fuel - 1, by omega⟩
    rw [L5n_s]
    unfold B_PT_numberAmong_5 B_PT_numberAmong_33
    have b := bs_bit (Pr := Pr) 41 (40 - m) (Nat.le_refl _)
    rw [decide_eq_true (show 40 - m < 41 by omega), Bool.true_and] at b
    rw [show 41 - (m + 1) = 40 - m by omega, if_neg (show ¬ (40 : Int32) < nI (40 - m) from nI_nlt (a := 40) (b := 40 - m) (by omega) (by decide)), nI_1, show 40 - m + 1 = 41 - m by omega, nth_s]
    cases hp : Pr (40 - m) with
    | false =>
      rw [if_pos (by rw [cmp_0, bit_t64 (by omega), b, hp]), if_neg (by decide)]
      exact ih fu x (by omega) (by omega)
    | true =>
      rw [if_neg (by rw [cmp_0, bit_t64 (by omega), b, hp]; decide), if_pos rfl]
      by_cases hx : x = 0
      · rw [if_pos hx, if_pos hx]
      · rw [if_neg hx, if_neg hx]
        exact ih fu (x + (-1)) (by omega) (by omega)
theorem C_among {Pr : Nat → Bool} {S : gS} {x : Int32} : D_PT_numberAmong (bs Pr 41) x S = some (nth Pr 40 x, S) := C_among_loop 40 gF x (Nat.le_refl _) (by decide)
section KL
variable {z k : Nat} {χ : cS} {μ : mS} {T : gS} {d i : Int32}
/-- the frame of clash, never and lacks -/
theorem K_di {cP : gS → Option ((String ⊕ Int32) × gS)} {c : gS → Option (Int32 × gS)} {m : Nat → gS → Option (Int32 × gS)} {v : Int32} {n L P : Nat} {a : Nat → Nat} {dd : Nat → Int32} {Ev : Nat → EV} {mX : Nat → gS → Int32 → Option (Int32 × gS)} (hv : Iv z χ μ T k n a dd Ev L P) (hk : k < 512) (hc : c (Full z χ μ T) = gCat (gTry (D_PT_requireDay d (Full z χ μ T)) (fun _ S3 => gTry (D_PT_requireIndex i S3) (fun _ S6 => cP S6))) (fun E3 S6 => (if E3 = "java/lang/IndexOutOfBoundsException" then some (1, S6) else none)) (fun v4 S5 => Option.bind (gSL S5 (z + 29) 1 0 v4.toInt64) (fun S14 => some (0, S14)))) (hm : ∀ w S, m w S = gB2 (D_Mo_isDay d S) (fun v2 S1 => (if v2 = 0 then mX w S1 1 else (if 0 ≤ i then mX w S1 0 else mX w S1 1)))) (bad : ∀ w S, mX w (mput w μ S) 1 = some (0, mput w (mI μ 0 1) S)) (good : rng d 0 9999 = true → 0 ≤ i → ∀ w S, mX w (mput w μ S) 0 = some (v, mput w (mI μ 0 0) S)) (hP : rng d 0 9999 = true → 0 ≤ i → cP (Full z χ μ T) = some (.inr v, Full z χ μ T)) : Call z χ μ T k c m := by
  have hg : gRoom (Full z χ μ T) := hv.gRoom hk
  have isD : ∀ S, D_Mo_isDay d S = some (bI (rng d 0 9999), S) := fun S => by
    unfold D_Mo_isDay
    simp only [M_in, gB2_some]
    show Option.bind (gZo (bI (rng d 0 9999))) _ = _
    cases rng d 0 9999 <;> rfl
  by_cases h0 : rng d 0 9999 = true
  · by_cases h1 : (0 : Int32) ≤ i
    · refine K_ok (v := v) (μ' := mI μ 0 0) (T' := T) (χ' := χ) hc ?_ (fun w S => ?_) mI_s (hv.same hv.1 (fun q x _ hq _ => hq) (by omega) (by omega) rfl (fun k hk => mI_n hk))
      · rw [gTry_r (by rw [C_day hg, if_pos h0]), gTry_r (by rw [C_index hg, if_pos h1])]
        exact hP h0 h1
      · rw [hm, isD, h0]
        simp only [gB2_some]
        rw [if_neg (by decide), if_pos h1]
        exact good h0 h1 w S
    · refine K_th (Ex := IOOBE) (kk := 1) (b := 0) hc ?_ (fun S => rfl) (by decide) (fun w S => ?_) hv
      · rw [gTry_r (by rw [C_day hg, if_pos h0]), gTry_l (by rw [C_index hg, if_neg h1])]; rfl
      · rw [hm, isD, h0]
        simp only [gB2_some]
        rw [if_neg (by decide), if_neg h1]
        exact bad w S
  · refine K_th (Ex := IOOBE) (kk := 1) (b := 0) hc ?_ (fun S => rfl) (by decide) (fun w S => ?_) hv
    · rw [gTry_l (by rw [C_day hg, if_neg h0])]; rfl
    · rw [hm, isD, Bool.eq_false_iff.mpr h0]
      simp only [gB2_some]
      rw [if_pos (show bI false = 0 from rfl)]
      exact bad w S
theorem K_clash (hv : Ivs z χ μ T k) (hk : k < 512) : Call z χ μ T k (fun S => D_La_clash (some z) d i (some (z + 29)) S) (fun w S => D_Mo_clash w d i S) := by
  obtain ⟨n, a, dd, Ev, L, P, hv⟩ := hv
  have hn := hv.2.1.1
  obtain ⟨v, hC, hM⟩ : ∃ v, (∃ fs, gOb (Full z χ μ T) (adr z a (fnd dd d n)) 1 = some fs ∧ D_Ed_clashingPair (adr z a (fnd dd d n)) i (Full z χ μ T) = some (v, Full z χ μ T)) ∧ ∀ w S, L_Mo_clash_39 gF w (idx (fnd dd d n)) i 1 (mput w (mI μ 0 0) S) = some (v, mput w (mI μ 0 0) S) := by
    rcases fnd_ed (d := d) hv with ⟨hf, hE⟩ | ⟨j, hj, hf, hE, hM, -⟩
    · obtain ⟨gp, gd, gs, hF, hA, -⟩ := hE
      refine ⟨-1, ⟨_, e_O hF.1, ?_⟩, fun w S => ?_⟩
      · have := C_pairs hF hA 40 gF i (Nat.le_refl _) (by decide)
        rw [out_E0] at this
        exact this
      · rw [hf, show gF = 999 + 1 from rfl, L39c_s]
        unfold B_Mo_clash_39 B_Mo_clash_113
        rw [if_pos (by decide)]
    · have hO := hE.ok
      obtain ⟨gp, gd, gs, hF, hA, -⟩ := hE
      refine ⟨out (Ev j) 40 i, ⟨_, e_O hF.1, C_pairs hF hA 40 gF i (Nat.le_refl _) (by decide)⟩, fun w S => ?_⟩
      rw [hf]
      exact M_pairs (μ := mI μ 0 0) (show j ≤ 6 by omega) (show edIs (mI μ 0 0) j (Ev j) from hM) hO 40 gF i (Nat.le_refl _) (by decide) w S
  obtain ⟨fs, hC1, hC2⟩ := hC
  refine K_di (d := d) (i := i) (v := v) (cP := fun S6 => Option.bind (gOb S6 z 0) (fun fs9 => gB2 (D_PT_editionOf z d S6) (fun r8 S7 => Option.bind r8 (fun a10 => Option.bind (gOb S7 a10 1) (fun fs13 => gB2 (D_Ed_clashingPair a10 i S7) (fun v12 S11 => some (.inr v12, S11))))))) (mX := fun w S t => B_Mo_clash_17 w d i t w S) hv hk ?_ (fun w S => rfl) (fun w S => ?_) (fun h0 h1 w S => ?_) (fun h0 h1 => ?_)
  · show D_La_clash (some z) d i (some (z + 29)) (Full z χ μ T) = _
    unfold D_La_clash
    simp only [Option.bind_some]
    rw [show gOb (Full z χ μ T) z 0 = some (cfs z χ) from c_ob]
    rfl
  · show B_Mo_clash_17 w d i 1 w (mput w μ S) = _
    unfold B_Mo_clash_17
    simp only [m_ob, Option.bind_some, M_th1, gB2_some]
    rw [if_neg (by decide)]
  · show B_Mo_clash_17 w d i 0 w (mput w μ S) = _
    unfold B_Mo_clash_17
    simp only [m_ob, Option.bind_some, M_th0, gB2_some]
    rw [if_pos trivial]
    rw [M_edOf hv.2.1 (μ' := mI μ 0 0) rfl (mI_n (by decide))]
    simp only [gB2_some]
    exact hM w S
  · show Option.bind (gOb (Full z χ μ T) z 0) _ = _
    rw [show gOb (Full z χ μ T) z 0 = some (cfs z χ) from c_ob]
    simp only [Option.bind_some]
    rw [C_edOf hv.2.1]
    simp only [Option.bind_some, gB2_some]
    rw [hC1, hC2]
    rfl
end KL
