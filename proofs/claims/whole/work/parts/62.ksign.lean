/-! THE CALLS SIGN, TOWN, PLACE -/
theorem i8_and (y : Int32) : y.toInt8.toInt32 &&& 255 = y &&& 255 := by
  apply Int32.toBitVec_inj.mp
  apply BitVec.eq_of_getLsbD_eq
  intro i hi
  simp only [Int32.toBitVec_and, BitVec.getLsbD_and]
  by_cases h : i < 8
  · rw [show (y.toInt8.toInt32).toBitVec.getLsbD i = y.toBitVec.getLsbD i from ?_]
    show (BitVec.signExtend 32 (BitVec.signExtend 8 y.toBitVec)).getLsbD i = _
    simp only [BitVec.getLsbD_signExtend]
    simp [h, hi]
  · have : (255 : Int32).toBitVec.getLsbD i = false := by
      have : ∀ i, i < 32 → ¬ i < 8 → (255 : Int32).toBitVec.getLsbD i = false := by decide
      exact this i hi h
    rw [this, Bool.and_false, Bool.and_false]
theorem i8_i8 (y : Int32) : (y.toInt8.toInt32).toInt8.toInt32 = y.toInt8.toInt32 := by simp
theorem sh_amt : ∀ m, m < 8 → ((8 * nI m).toInt64.toUInt64 &&& Int64.toUInt64 63).toBitVec.toNat = 8 * m ∧ (((8 * nI m).toInt64 &&& 63).toBitVec.smod 64).toNat = 8 * m := by decide +kernel
theorem sgn_b {x : Int64} {m : Nat} (hm : m < 8) : ((x.toUInt64 >>> ((8 * nI m).toInt64.toUInt64 &&& Int64.toUInt64 63)).toInt64).toInt32 &&& 255 = ((x >>> ((8 * nI m).toInt64 &&& 63)).toInt32) &&& 255 := by
  obtain ⟨h1, h2⟩ := sh_amt m hm
  apply Int32.toBitVec_inj.mp
  apply BitVec.eq_of_getLsbD_eq
  intro i hi
  simp only [Int32.toBitVec_and, BitVec.getLsbD_and]
  by_cases h : i < 8
  · congr 1
    show (BitVec.signExtend 32 (x.toUInt64 >>> ((8 * nI m).toInt64.toUInt64 &&& Int64.toUInt64 63)).toBitVec).getLsbD i = (BitVec.signExtend 32 (x >>> ((8 * nI m).toInt64 &&& 63)).toBitVec).getLsbD i
    rw [UInt64.toBitVec_shiftRight, Int64.toBitVec_shiftRight]
    simp only [BitVec.getLsbD_signExtend, show i < 64 by omega, hi, decide_true, Bool.true_and, if_true]
    have e1 : ((x.toUInt64.toBitVec >>> (((8 * nI m).toInt64.toUInt64 &&& Int64.toUInt64 63).toBitVec % 64)).getLsbD i) = x.toBitVec.getLsbD (8 * m + i) := by
      rw [BitVec.ushiftRight_eq', BitVec.getLsbD_ushiftRight, BitVec.toNat_umod, h1]
      rw [show (64 : BitVec 64).toNat = 64 from rfl, Nat.mod_eq_of_lt (show 8 * m < 64 by omega)]
      rfl
    have e2 : ((x.toBitVec.sshiftRight' (((8 * nI m).toInt64 &&& 63).toBitVec.smod 64)).getLsbD i) = x.toBitVec.getLsbD (8 * m + i) := by
      rw [BitVec.sshiftRight', h2, BitVec.getLsbD_sshiftRight]
      simp [show ¬ 64 ≤ i by omega, show 8 * m + i < 64 by omega]
    exact e1.trans e2.symm
  · have : (255 : Int32).toBitVec.getLsbD i = false := by
      have : ∀ i, i < 32 → ¬ i < 8 → (255 : Int32).toBitVec.getLsbD i = false := by decide
      exact this i hi h
    rw [this, Bool.and_false, Bool.and_false]
def sx (m : Nat) : Int32 := nI m - 1
theorem sx_s (m : Nat) : sx (m + 1) = nI m := nI_pred m
theorem sx_m (m : Nat) : nI m + (-1) = sx m := by
  cases m with
  | zero => decide
  | succ m => rw [pk_m1, sx_s]
def ChiF (χ χ' : cS) : Prop := (∀ k, k ≠ 1 → χ'.1 k = χ.1 k) ∧ χ'.2.1 = χ.2.1 ∧ (∀ j, j ≠ 1 → χ'.2.2.1 j = χ.2.2.1 j) ∧ χ'.2.2.2 = χ.2.2.2
def MuF (μ μ' : mS) : Prop := (∀ k, k ≠ 2 → μ'.1 k = μ.1 k) ∧ ∀ j, j ≠ 1 → μ'.2 j = μ.2 j
section KG
variable {z k n L P : Nat} {χ χ' : cS} {μ μ' : mS} {T : gS} {a : Nat → Nat} {dd : Nat → Int32} {Ev : Nat → EV}
theorem L48_s {f z : Nat} {x : Int64} {y : Int32} {S : gS} : L_PT_sign_48 (f + 1) z x y S = B_PT_sign_48 (L_PT_sign_48 f) z x y S := rfl
theorem L56_s {f w : Nat} {x : Int64} {y : Int32} {S : gS} : L_Mo_sign_56 (f + 1) w x y S = B_Mo_sign_56 (L_Mo_sign_56 f) w x y S := rfl
theorem S_sign {x : Int64} : ∀ (m L fuel : Nat) (χ : cS) (μ : mS), m ≤ 8 → L + m ≤ 400 → m < fuel → IvT χ μ L → ∃ χ' μ', (∀ z μ0 T, L_PT_sign_48 fuel z x (sx m) (Full z χ μ0 T) = some (.inr (nI (L + m)), Full z χ' μ0 T)) ∧ (∀ w S, L_Mo_sign_56 fuel w x (sx m) (mput w μ S) = some (nI (L + m), mput w μ' S)) ∧ IvT χ' μ' (L + m) ∧ ChiF χ χ' ∧ MuF μ μ' := by
  intro m
  induction m with
  | zero =>
    intro L fuel χ μ hm hL hf hT
    obtain ⟨fu, rfl⟩ : ∃ fu, fuel = fu + 1 := ⟨fuel - 1, by omega⟩
    refine ⟨χ, μ, fun z μ0 T => ?_, fun w S => ?_, hT, ⟨fun _ _ => rfl, rfl, fun _ _ => rfl, rfl⟩, ⟨fun _ _ => rfl, fun _ _ => rfl⟩⟩
    · rw [L48_s]
      unfold B_PT_sign_48
      rw [if_pos (by decide), show gI (Full z χ μ0 T) z 0 1 = some (χ.1 1) from c_I1, hT.2.1]
      rfl
    · rw [L56_s]
      unfold B_Mo_sign_56
      rw [if_pos (by decide)]
      simp only [m_I2, Option.bind_some]
      rw [hT.2.2.1]
      rfl
  | succ m ih =>
    intro L fuel χ μ hm hL hf hT
    obtain ⟨fu, rfl⟩ : ∃ fu, fuel = fu + 1 := ⟨fuel - 1, by omega⟩
    obtain ⟨t1, t2, t3, t4, t5⟩ := hT
    obtain ⟨b, hb⟩ : ∃ b, b = (((((x.toUInt64 >>> ((8 * nI m).toInt64.toUInt64 &&& Int64.toUInt64 63)).toInt64).toInt32).toInt8.toInt32).toInt8.toInt32) := ⟨_, rfl⟩
    have b1 : b.toInt8.toInt32 = b := by rw [hb, i8_i8, i8_i8]
    have b2 : ((x >>> ((8 * nI m).toInt64 &&& 63)).toInt32) &&& 255 = b &&& 255 := by rw [hb, i8_and, i8_and, sgn_b (by omega)]
    have aT : ∀ i, (cI (cA χ 1 L b) 1 (nI (L + 1))).2.2.1 1 i = if i = L then b else χ.2.2.1 1 i := fun i => by
      show upd (χ.2.2.1 1) L b i = _
      rfl
    have mT : ∀ i, (mI (mA μ 1 L (((x >>> ((8 * nI m).toInt64 &&& 63)).toInt32) &&& 255)) 2 (nI (L + 1))).2 1 i = if i = L then (((x >>> ((8 * nI m).toInt64 &&& 63)).toInt32) &&& 255) else μ.2 1 i := fun i => by
      simp only [mI_2]; rw [mAm]
      simp
    have hT' : IvT (cI (cA χ 1 L b) 1 (nI (L + 1))) (mI (mA μ 1 L (((x >>> ((8 * nI m).toInt64 &&& 63)).toInt32) &&& 255)) 2 (nI (L + 1))) (L + 1) := by
      refine ⟨by omega, cI_s, mI_s, fun i hi => ?_, fun i hi => ?_⟩
      · rw [aT]
        split
        · exact b1
        · exact t4 i hi
      · rw [aT, mT]
        by_cases e : i = L
        · rw [if_pos e, if_pos e]; exact b2
        · rw [if_neg e, if_neg e]; exact t5 i (by omega)
    obtain ⟨χ', μ', a1, a2, a3, a4, a5⟩ := ih (L + 1) fu _ _ (by omega) (by omega) (by omega) hT'
    refine ⟨χ', μ', fun z μ0 T => ?_, fun w S => ?_, by rw [show L + (m + 1) = L + 1 + m by omega]; exact a3, ⟨fun k hk => ?_, a4.2.1, fun j hj => ?_, a4.2.2.2⟩, ⟨fun k hk => ?_, fun j hj => ?_⟩⟩
    · rw [L48_s]
      unfold B_PT_sign_48
      rw [sx_s, if_neg (nI_pos (by omega)), show gRf (Full z χ μ0 T) z 0 0 = some (some (z + 1)) from c_R0, show gI (Full z χ μ0 T) z 0 1 = some (χ.1 1) from c_I1, t2]
      simp only [Option.bind_some]
      rw [← hb, show gSI (Full z χ μ0 T) (z + 1) 2 (nI L) b = some (Full z (cA χ 1 L b) μ0 T) from c_s1 (by omega)]
      simp only [Option.bind_some]
      rw [show gI (Full z (cA χ 1 L b) μ0 T) z 0 1 = some (nI L) by rw [← t2]; exact c_I1]
      simp only [Option.bind_some, nI_1]
      rw [show gPut (Full z (cA χ 1 L b) μ0 T) z 0 1 (.int (nI (L + 1))) = some (Full z (cI (cA χ 1 L b) 1 (nI (L + 1))) μ0 T) from c_P1]
      simp only [Option.bind_some, sx_m]
      rw [show L + (m + 1) = L + 1 + m by omega]
      exact a1 z μ0 T
    · rw [L56_s]
      unfold B_Mo_sign_56
      rw [sx_s, if_neg (nI_pos (by omega))]
      simp only [m_R1, m_I2, Option.bind_some]
      rw [t3, m_s1 (by omega)]
      simp only [m_I2, Option.bind_some]
      rw [mA_1, t3, nI_1]
      simp only [m_P2, Option.bind_some, sx_m]
      rw [show L + (m + 1) = L + 1 + m by omega]
      exact a2 w S
    · rw [a4.1 k hk, cI_n hk]; rfl
    · rw [a4.2.2.1 j hj]
      show (if j = 1 then _ else _) = _
      rw [if_neg hj]
    · rw [a5.1 k hk, mI_n hk, mA_1]
    · rw [a5.2 j hj]
      show (if j = 1 then _ else _) = _
      rw [if_neg hj]
theorem Iv.tape {L' : Nat} (h : Iv z χ μ T k n a dd Ev L P) (hT : IvT χ' μ' L') (hL : L' ≤ L + 8) (hc : ChiF χ χ') (hm : ∀ k, k ≠ 0 → k ≠ 2 → μ'.1 k = μ.1 k) (hm2 : ∀ j, j ≠ 1 → μ'.2 j = μ.2 j) : Iv z χ' μ' T (k + 1) n a dd Ev L' P := by
  obtain ⟨t, ⟨e1, e2, e3, e4⟩, -, ⟨l, c, V, n1, n2, n3, n4⟩, ⟨p1, p2, p3, p4⟩, u, lt, pl, ⟨r1, r2⟩⟩ := h
  have K : Kp lf3 (Full z χ μ T) (Full z χ' μ' T) := F_kp t (fun q x _ hq _ => hq)
  refine ⟨t, ⟨e1, by rw [hc.1 5 (by decide)]; exact e2, by rw [hm 7 (by decide) (by decide)]; exact e3, fun i hi => ?_⟩, hT, ⟨l, c, V, by rw [hc.2.1]; exact n1, n2, n3.kk K.l3.l2, ?_⟩, ⟨p1, by rw [hc.1 11 (by decide)]; exact p2, by rw [hm 25 (by decide) (by decide)]; exact p3, by rw [hm2 16 (by decide), hc.2.2.1 11 (by decide)]; exact p4⟩, by unfold IvU; rw [hm2 15 (by decide), hc.2.2.1 2 (by decide)]; exact u, ?_, by rw [hc.1 2 (by decide), hm 6 (by decide) (by decide)]; exact pl, ⟨by omega, by omega⟩⟩
  · obtain ⟨a1, a2, a3, a4, a5, a6⟩ := e4 i hi
    refine ⟨by rw [hc.2.2.2]; exact a1, by rw [hm2 2 (by decide)]; exact a2, a3, a4.k3 K, ?_, a6⟩
    unfold edIs plIs stIs hrIs ndIs
    rw [hm2 3 (by decide), hm2 4 (by decide), hm2 5 (by decide), hm2 6 (by decide), hm2 7 (by decide), hm2 8 (by decide), hm2 9 (by decide), hm2 10 (by decide), hm2 11 (by decide), hm2 12 (by decide), hm2 13 (by decide), hm2 14 (by decide)]
    exact a5
  · rw [hm 23 (by decide) (by decide)]
    unfold ndIs
    rw [hm2 11 (by decide), hm2 12 (by decide)]
    exact n4
  · unfold IvL; rw [hm 8 (by decide) (by decide), hc.2.1]; exact lt
theorem K_sign {x : Int64} {c : Int32} (hv : Ivs z χ μ T k) (hk : k < 512) : Call z χ μ T k (fun S => D_La_sign (some z) x c (some (z + 29)) S) (fun w S => D_Mo_sign w x c S) := by
  obtain ⟨n, a, dd, Ev, L, P, hv⟩ := hv
  have hg : gRoom (Full z χ μ T) := hv.gRoom hk
  have cls : D_La_sign (some z) x c (some (z + 29)) (Full z χ μ T) = gCat (D_PT_sign z x c (Full z χ μ T)) (fun E3 S6 => (if E3 = "java/lang/IndexOutOfBoundsException" then some (1, S6) else (if E3 = "java/lang/UnsupportedOperationException" then some (2, S6) else none))) (fun v4 S5 => Option.bind (gSL S5 (z + 29) 1 0 v4.toInt64) (fun S14 => some (0, S14))) := by
    unfold D_La_sign
    simp only [Option.bind_some]
    rw [show gOb (Full z χ μ T) z 0 = some (cfs z χ) from c_ob]
    rfl
  have hT := hv.2.2.1
  obtain ⟨t1, t2, t3, t4, t5⟩ := id hT
  by_cases hc : rng c 1 8 = true
  · obtain ⟨m, hm0, hm, rfl⟩ := rng_nat (lo := 1) (hi := 8) rfl rfl (by decide) (by decide) hc
    obtain ⟨r1, r2⟩ := rng_spec.mp hc
    have cl : D_PT_sign z x (nI m) (Full z χ μ T) = if nI (L + m) ≤ 400 then L_PT_sign_48 gF z x (sx m) (Full z χ μ T) else some (.inl UOE, Full z χ μ (gTh T)) := by
      unfold D_PT_sign
      rw [if_neg (i_len r1), if_pos r2, show gI (Full z χ μ T) z 0 1 = some (χ.1 1) from c_I1, t2]
      simp only [Option.bind_some, nI_add]
      rw [gThr_ok hg]
      rfl
    have rf : ∀ w S, D_Mo_sign w x (nI m) (mput w μ S) = if nI (L + m) ≤ 400 then B_Mo_sign_42 w x (nI m) 0 0 w (mput w μ S) else B_Mo_sign_42 w x (nI m) 1 0 w (mput w μ S) := by
      intro w S
      unfold D_Mo_sign
      simp only [M_in, gB2_some]
      rw [show (decide ((1 : Int32) ≤ nI m) && decide (nI m ≤ 8)) = true from hc, if_neg (by decide)]
      unfold B_Mo_sign_15 B_Mo_sign_41
      rw [if_pos rfl]
      simp only [m_I2, Option.bind_some]
      rw [t3, nI_add]
    by_cases h4 : L + m ≤ 400
    · have h4' : nI (L + m) ≤ 400 := nI_le (a := L + m) (b := 400) h4 (by decide)
      obtain ⟨χ', μ', a1, a2, a3, a4, a5⟩ := S_sign (x := x) m L gF χ (mI μ 0 0) hm h4 (by have : gF = 1000 := rfl; omega) (show IvT χ (mI μ 0 0) L from ⟨t1, t2, by rw [mI_n (by decide)]; exact t3, t4, t5⟩)
      refine K_ok (v := nI (L + m)) (μ' := μ') (T' := T) (χ' := χ') cls ?_ (fun w S => ?_) (by rw [a5.1 0 (by decide), mI_s]) (hv.tape a3 (by omega) a4 (fun k h0 h2 => by rw [a5.1 k h2, mI_n h0]) (fun j hj => a5.2 j hj))
      · rw [cl, if_pos h4']; exact a1 z μ T
      · rw [rf w S, if_pos h4']
        unfold B_Mo_sign_42
        simp only [m_ob, Option.bind_some, M_th0, gB2_some]
        rw [if_pos trivial]
        exact a2 w S
    · have h4' : ¬ nI (L + m) ≤ 400 := nI_ge (a := 400) (b := L + m) (by omega) (by omega)
      refine K_th (Ex := UOE) (kk := 2) (b := 0) cls (by rw [cl, if_neg h4']) (fun S => rfl) (by decide) (fun w S => ?_) hv
      rw [rf w S, if_neg h4']
      unfold B_Mo_sign_42
      simp only [m_ob, Option.bind_some, M_th01, gB2_some]
      rw [if_neg (by decide)]
  · refine K_th (Ex := IOOBE) (kk := 1) (b := 0) cls ?_ (fun S => rfl) (by decide) (fun w S => ?_) hv
    · unfold D_PT_sign B_PT_sign_11
      rw [gThr_ok hg]
      by_cases k1 : c < 1
      · rw [if_pos k1]; rfl
      · rw [if_neg k1, if_neg (fun k2 => hc (rng_spec.mpr ⟨i_nlt k1, k2⟩))]; rfl
    · unfold D_Mo_sign
      simp only [M_in, gB2_some]
      rw [show (decide ((1 : Int32) ≤ c) && decide (c ≤ 8)) = false from Bool.eq_false_iff.mpr hc, if_pos (show bI false = 0 from rfl)]
      unfold B_Mo_sign_15 B_Mo_sign_41
      rw [if_neg (by decide)]
      unfold B_Mo_sign_42
      simp only [m_ob, Option.bind_some, M_th1, gB2_some]
      rw [if_neg (by decide)]
theorem K_town {s m : Int32} (hv : Ivs z χ μ T k) (hk : k < 512) : ∃ kk χ' μ' T', D_La_town (some z) s m (Full z χ μ T) = some (kk, Full z χ' μ T') ∧ (∀ w S, D_Mo_town w s m (mput w μ S) = some (mput w μ' S)) ∧ μ'.1 0 = kk ∧ Ivs z χ' μ' T' (k + 1) := by
  obtain ⟨n, a, dd, Ev, L, P, hv⟩ := hv
  have hg : gRoom (mput (z + 12) μ T) := hv.gRoom hk
  have cls : D_La_town (some z) s m (Full z χ μ T) = gCat (D_PT_town z s m (Full z χ μ T)) (fun E3 S6 => (if E3 = "java/lang/IllegalArgumentException" then some (1, S6) else (if E3 = "java/lang/IndexOutOfBoundsException" then some (2, S6) else none))) (fun _ S5 => some (0, S5)) := by
    unfold D_La_town
    simp only [Option.bind_some]
    rw [show gOb (Full z χ μ T) z 0 = some (cfs z χ) from c_ob]
    rfl
  have th : ∀ kk, Ivs z χ (mI μ 0 kk) (gTh T) (k + 1) := fun kk => ⟨n, a, dd, Ev, L, P, hv.same (thOk hv.1) (fun q x _ hq _ => hq) (by show T.2.2.1 + 1 ≤ _; omega) (by show T.2.2.2 + 6 ≤ _; omega) rfl (fun k hk => mI_n hk)⟩
  have ct := C_town (z := z) (χ := χ) (S := mput (z + 12) μ T) (k := s) (n := m) hg
  by_cases h0 : rng s 0 7 = true
  · by_cases h1 : rng m 0 99 = true
    · refine ⟨0, cA χ 2 s.toNatClampNeg m, mA (mI μ 0 0) 15 s.toNatClampNeg m, T, ?_, fun w S => by rw [M_town, if_pos h0, if_pos h1], by rw [mA_1, mI_s], n, a, dd, Ev, L, P, ?_⟩
      · rw [cls]
        show gCat (D_PT_town z s m (cput z χ (mput (z + 12) μ T))) _ _ = _
        rw [ct, if_pos h0, if_pos h1]
        rfl
      · obtain ⟨t, ⟨e1, e2, e3, e4⟩, ⟨t1, t2, t3, t4, t5⟩, ⟨l, c, V, n1, n2, n3, n4⟩, ⟨p1, p2, p3, p4⟩, u, lt, pl, ⟨r1, r2⟩⟩ := hv
        have K : Kp lf3 (Full z χ μ T) (Full z (cA χ 2 s.toNatClampNeg m) (mA (mI μ 0 0) 15 s.toNatClampNeg m) T) := F_kp t (fun q x _ hq _ => hq)
        have M : ∀ j, j ≠ 15 → (mA (mI μ 0 0) 15 s.toNatClampNeg m).2 j = μ.2 j := fun j hj => by rw [mA_n hj, mI_2]
        have X : ∀ j, j ≠ 2 → (cA χ 2 s.toNatClampNeg m).2.2.1 j = χ.2.2.1 j := fun j hj => by
          show (if j = 2 then _ else _) = _
          rw [if_neg hj]
        have M1 : ∀ j, j ≠ 0 → (mA (mI μ 0 0) 15 s.toNatClampNeg m).1 j = μ.1 j := fun j hj => by rw [mA_1, mI_n hj]
        refine ⟨t, ⟨e1, e2, by rw [M1 7 (by decide)]; exact e3, fun i hi => ?_⟩, ⟨t1, t2, by rw [M1 2 (by decide)]; exact t3, by rw [X 1 (by decide)]; exact t4, by rw [X 1 (by decide), M 1 (by decide)]; exact t5⟩, ⟨l, c, V, n1, n2, n3.kk K.l3.l2, ?_⟩, ⟨p1, p2, by rw [M1 25 (by decide)]; exact p3, by rw [M 16 (by decide), X 11 (by decide)]; exact p4⟩, fun i hi => ?_, ?_, by rw [M1 6 (by decide)]; exact pl, ⟨by omega, by omega⟩⟩
        · obtain ⟨a1, a2, a3, a4, a5, a6⟩ := e4 i hi
          refine ⟨a1, by rw [M 2 (by decide)]; exact a2, a3, a4.k3 K, ?_, a6⟩
          unfold edIs plIs stIs hrIs ndIs
          rw [M 3 (by decide), M 4 (by decide), M 5 (by decide), M 6 (by decide), M 7 (by decide), M 8 (by decide), M 9 (by decide), M 10 (by decide), M 11 (by decide), M 12 (by decide), M 13 (by decide), M 14 (by decide)]
          exact a5
        · rw [M1 23 (by decide)]
          unfold ndIs
          rw [M 11 (by decide), M 12 (by decide)]
          exact n4
        · rw [mAm]
          show _ = upd (χ.2.2.1 2) s.toNatClampNeg m i
          by_cases e : i = s.toNatClampNeg
          · rw [if_pos ⟨rfl, e⟩, e, pk_us]
          · rw [if_neg (fun h => e h.2), pk_un e]; exact u i hi
        · unfold IvL; rw [M1 8 (by decide)]; exact lt
    · refine ⟨2, χ, mI μ 0 2, gTh T, ?_, fun w S => by rw [M_town, if_pos h0, if_neg h1], mI_s, th 2⟩
      rw [cls]
      show gCat (D_PT_town z s m (cput z χ (mput (z + 12) μ T))) _ _ = _
      rw [ct, if_pos h0, if_neg h1]
      rfl
  · refine ⟨1, χ, mI μ 0 1, gTh T, ?_, fun w S => by rw [M_town, if_neg h0], mI_s, th 1⟩
    rw [cls]
    show gCat (D_PT_town z s m (cput z χ (mput (z + 12) μ T))) _ _ = _
    rw [ct, if_neg h0]
    rfl
theorem K_place (hv : Ivs z χ μ T k) : D_PT_place z (Full z χ μ T) = some (μ.1 6, Full z χ μ T) ∧ Ivs z χ (mI μ 0 0) T (k + 1) := by
  obtain ⟨n, a, dd, Ev, L, P, hv⟩ := hv
  refine ⟨?_, n, a, dd, Ev, L, P, hv.same hv.1 (fun q x _ hq _ => hq) (by omega) (by omega) rfl (fun k hk => mI_n hk)⟩
  rw [← hv.2.2.2.2.2.2.2.1]
  exact C_place
end KG
