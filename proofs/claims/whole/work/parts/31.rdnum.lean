/-! NUMBERS AND SKILLS OF THE CLASS'S READER -/
section RN
variable {r t : Nat} {S : gS} {f : Nat → Int32}
theorem R_num_128 {N e : Nat} {a b v : Int32} (hN : N ≤ 400) (hne : t ≠ r) (hT : tapeAt t f S) (h0 : 0 < e) (he : e < 100000) : B_Rd_readNumber_128 r a b v (rd r t (nI N) (nI e) (-1) S) = some (if rng v a b then (v, rd r t (nI N) (nI e) (if dig f N e then nI e else -1) S) else (a, rd r t (nI N) (nI e) (nI (e - 1)) S)) := by
  have em : nI e - 1 = nI (e - 1) := by
    obtain ⟨k, rfl⟩ : ∃ k, e = k + 1 := ⟨e - 1, by omega⟩
    rw [nI_pred]; rfl
  have e140 : B_Rd_readNumber_140 r a (rd r t (nI N) (nI e) (-1) S) = some (a, rd r t (nI N) (nI e) (nI (e - 1)) S) := by
    unfold B_Rd_readNumber_140
    simp only [rd_I2, rd_ob, R_fail, Option.bind_some, em]
    rfl
  unfold B_Rd_readNumber_128 B_Rd_readNumber_174
  by_cases h1 : v < a
  · rw [if_pos h1, e140]
    have := i_ltn h1
    simp [rng, this]
  · rw [if_neg h1]
    by_cases h2 : v ≤ b
    · rw [if_pos h2]
      simp only [rd_I2, rd_ob, Option.bind_some, R_byteAt hN he hne hT, gB2_some, R_isDigit, dig_see]
      have hr : rng v a b = true := by rw [rng_spec]; exact ⟨i_nlt h1, h2⟩
      rw [if_pos hr]
      cases hd : dig f N e
      · simp [bI]
      · simp [bI, rd_I2, rd_ob, R_fail]
        rfl
    · rw [if_neg h2, e140]
      simp [rng, h2]
theorem L73_s {k : Nat} {a b v i : Int32} {S : gS} : L_Rd_readNumber_73 (k + 1) r a b v i S = B_Rd_readNumber_73 (L_Rd_readNumber_73 k) r a b v i S := rfl
theorem R_num_73 {N e k v i : Nat} {a b : Int32} (hN : N ≤ 400) (hne : t ≠ r) (hT : tapeAt t f S) (he : e < 100000) (hv : v < 1000) (hi : i ≤ 3) : B_Rd_readNumber_73 (L_Rd_readNumber_73 k) r a b (nI v) (nI i) (rd r t (nI N) (nI e) (-1) S) =
    if i < 3 ∧ dig f N e = true then L_Rd_readNumber_73 k r a b (nI (10 * v + dg f e)) (nI (i + 1)) (rd r t (nI N) (nI (e + 1)) (-1) S) else B_Rd_readNumber_128 r a b (nI v) (rd r t (nI N) (nI e) (-1) S) := by
  unfold B_Rd_readNumber_73
  by_cases h1 : i < 3
  · rw [if_neg (show ¬ (3 : Int32) ≤ nI i from nI_ge (a := i) (b := 3) h1 (by decide))]
    simp only [rd_I2, rd_ob, Option.bind_some, R_byteAt hN he hne hT, gB2_some, R_isDigit, dig_see]
    cases hd : dig f N e
    · simp [bI]
    · obtain ⟨d1, d2, d3⟩ := dig_spec hd
      have ev : (10 * nI v + seeV f N e) - 48 = nI (10 * v + dg f e) := by
        unfold seeV
        rw [if_pos d1, d3, show (10 : Int32) = nI 10 from rfl, show (48 : Int32) = nI 48 from rfl, pk_mul, nI_add, pk_sub (by omega)]
        congr 1; omega
      simp only [bI, rd_I2, rd_ob, rd_P2, Option.bind_some, R_byteAt hN he hne hT, gB2_some, ev, nI_1]
      simp [h1]
  · rw [if_pos (show (3 : Int32) ≤ nI i from nI_le (a := 3) (by omega) (by omega))]
    simp [h1]
theorem gF4 : gF = 996 + 1 + 1 + 1 + 1 := rfl
/-- the digits from q on, none ahead of another one 0 -/
theorem R_num_67 {N q : Nat} {a b : Int32} (hN : N ≤ 400) (hne : t ≠ r) (hT : tapeAt t f S) (hd : dig f N q = true) (hz : dg f q = 0 → dig f N (q + 1) = false) : B_Rd_readNumber_67 r a b (rd r t (nI N) (nI q) (-1) S) = B_Rd_readNumber_128 r a b (nI (numV f N q)) (rd r t (nI N) (nI (numE f N q)) (-1) S) := by
  obtain ⟨d1, d2, d3⟩ := dig_spec hd
  unfold B_Rd_readNumber_67
  rw [gF4, L73_s, show (0 : Int32) = nI 0 from rfl, R_num_73 hN hne hT (by omega) (by omega) (by omega), if_pos ⟨by omega, hd⟩, L73_s, R_num_73 hN hne hT (by omega) (by omega) (by omega)]
  rw [show 10 * 0 + dg f q = dg f q by omega]
  by_cases h1 : dig f N (q + 1) = true
  · have h0 : ¬ dg f q = 0 := fun h => by rw [hz h] at h1; cases h1
    obtain ⟨g1, g2, g3⟩ := dig_spec h1
    rw [if_pos ⟨by omega, h1⟩, L73_s, R_num_73 hN hne hT (by omega) (by omega) (by omega)]
    by_cases h2 : dig f N (q + 1 + 1) = true
    · obtain ⟨k1, k2, k3⟩ := dig_spec h2
      rw [if_pos ⟨by omega, h2⟩, L73_s, R_num_73 hN hne hT (by omega) (by omega) (by omega), if_neg (by omega)]
      have h2 : dig f N (q + 2) = true := h2
      have ev : numV f N q = 10 * (10 * dg f q + dg f (q + 1)) + dg f (q + 1 + 1) := by unfold numV; rw [if_neg h0, if_pos h1, if_pos h2]; show _ = 10 * (10 * dg f q + dg f (q + 1)) + dg f (q + 2); omega
      have ee : numE f N q = q + 1 + 1 + 1 := by unfold numE; rw [if_neg h0, if_pos h1, if_pos h2]
      rw [ev, ee]
    · rw [if_neg (fun h => h2 h.2)]
      have h2 : ¬ dig f N (q + 2) = true := h2
      have ev : numV f N q = 10 * dg f q + dg f (q + 1) := by unfold numV; rw [if_neg h0, if_pos h1, if_neg h2]
      have ee : numE f N q = q + 1 + 1 := by unfold numE; rw [if_neg h0, if_pos h1, if_neg h2]
      rw [ev, ee]
  · rw [if_neg (fun h => h1 h.2)]
    have ev : numV f N q = dg f q := by
      unfold numV
      by_cases h0 : dg f q = 0
      · rw [if_pos h0, h0]
      · rw [if_neg h0, if_neg h1]
    have ee : numE f N q = q + 1 := by
      unfold numE
      by_cases h0 : dg f q = 0
      · rw [if_pos h0]
      · rw [if_neg h0, if_neg h1]
    rw [ev, ee]
theorem R_number_w {n p wr : Int32} {a b : Int32} (h : wr ≠ -1) : D_Rd_readNumber r a b (rd r t n p wr S) = some (a, rd r t n p wr S) := by
  unfold D_Rd_readNumber
  simp only [rd_ob, Option.bind_some, R_next_w h, gB2_some, R_isDigit]
  rw [show rng (-1) 48 57 = false by decide]
  simp [bI, rd_I2, rd_ob, R_fail, rFail, h]
theorem R_number_n {N q : Nat} {a b : Int32} (hN : N ≤ 400) (hne : t ≠ r) (hT : tapeAt t f S) (hq : q ≤ N) (hd : dig f N (seeP f N q) = false) : D_Rd_readNumber r a b (rd r t (nI N) (nI q) (-1) S) = some (a, rd r t (nI N) (nI (seeP f N q)) (nI (seeP f N q)) S) := by
  unfold D_Rd_readNumber
  simp only [rd_ob, Option.bind_some, R_next hN hne hT hq, gB2_some, R_isDigit, dig_see, hd]
  simp [bI, rd_I2, rd_ob, R_fail, rFail]
theorem R_number_d {N q : Nat} {a b : Int32} (hN : N ≤ 400) (hne : t ≠ r) (hT : tapeAt t f S) (hq : q ≤ N) (ha : a = 0 ∨ 0 < a) (hab : a ≤ b) (hd : dig f N (seeP f N q) = true) :
    (numF f N (seeP f N q) a b = none → D_Rd_readNumber r a b (rd r t (nI N) (nI q) (-1) S) = some (nI (numV f N (seeP f N q)), rd r t (nI N) (nI (numE f N (seeP f N q))) (-1) S)) ∧
    (∀ x, numF f N (seeP f N q) a b = some x → ∃ val pos, D_Rd_readNumber r a b (rd r t (nI N) (nI q) (-1) S) = some (val, rd r t (nI N) pos (nI x) S) ∧ rng val a b = true) := by
  have hqq : seeP f N q ≤ N := seeP_le hq
  obtain ⟨d1, d2, d3⟩ := dig_spec hd
  have key : D_Rd_readNumber r a b (rd r t (nI N) (nI q) (-1) S) = if dg f (seeP f N q) = 0 ∧ dig f N (seeP f N q + 1) = true then some (a, rd r t (nI N) (nI (seeP f N q)) (if a = 0 then nI (seeP f N q + 1) else nI (seeP f N q)) S) else B_Rd_readNumber_67 r a b (rd r t (nI N) (nI (seeP f N q)) (-1) S) := by
    unfold D_Rd_readNumber
    simp only [rd_ob, Option.bind_some, R_next hN hne hT hq, gB2_some, R_isDigit, dig_see, hd]
    rw [if_neg (show ¬ bI true = 0 by decide)]
    have e48 : seeV f N (seeP f N q) = 48 ↔ dg f (seeP f N q) = 0 := by
      unfold seeV
      rw [if_pos d1, d3, show (48 : Int32) = nI 48 from rfl, nI_eq (by omega) (by omega)]
      omega
    by_cases h0 : dg f (seeP f N q) = 0
    · rw [if_pos (e48.mpr h0)]
      simp only [rd_I2, Option.bind_some, nI_1, R_byteAt hN (show seeP f N q + 1 < 100000 by omega) hne hT, gB2_some, R_isDigit, dig_see]
      cases h1 : dig f N (seeP f N q + 1)
      · simp [bI]
      · simp only [bI, h0]
        simp only [B_Rd_readNumber_62, rd_I2, rd_ob, R_fail, Option.bind_some, nI_1]
        by_cases ha0 : a = 0
        · simp [ha0, rFail]
        · simp [ha0, rFail]
    · rw [if_neg (fun h => h0 (e48.mp h)), if_neg (fun h => h0 h.1)]
  have hra : rng a a b = true := by rw [rng_spec]; exact ⟨by rw [Int32.le_iff_toInt_le]; omega, hab⟩
  by_cases hc : dg f (seeP f N q) = 0 ∧ dig f N (seeP f N q + 1) = true
  · have hv : numV f N (seeP f N q) = 0 := by unfold numV; rw [if_pos hc.1]
    have he : numE f N (seeP f N q) = seeP f N q + 1 := by unfold numE; rw [if_pos hc.1]
    have hF : numF f N (seeP f N q) a b = some (if a = 0 then seeP f N q + 1 else seeP f N q) := by
      unfold numF
      rw [hv, he, hc.2]
      rcases ha with rfl | ha
      · rw [if_pos (show rng (nI 0) 0 b = true from hra)]; rfl
      · have h1 : ¬ a ≤ nI 0 := i_ltn ha
        have h2 : ¬ a = 0 := fun h => by rw [h] at ha; exact absurd ha (by decide)
        rw [if_neg (by simp [rng, h1]), if_neg h2]; rfl
    rw [key, if_pos hc, hF]
    refine ⟨fun h => (by cases h), fun x hx => ⟨a, nI (seeP f N q), ?_, hra⟩⟩
    cases hx
    by_cases ha0 : a = 0
    · rw [if_pos ha0, if_pos ha0]
    · rw [if_neg ha0, if_neg ha0]
  · have hz : dg f (seeP f N q) = 0 → dig f N (seeP f N q + 1) = false := fun h => by
      cases h1 : dig f N (seeP f N q + 1)
      · rfl
      · exact absurd ⟨h, h1⟩ hc
    have hE : 0 < numE f N (seeP f N q) ∧ numE f N (seeP f N q) < 100000 := by
      unfold numE
      split
      · omega
      · split
        · split <;> omega
        · omega
    rw [key, if_neg hc, R_num_67 hN hne hT hd hz, R_num_128 hN hne hT hE.1 hE.2]
    unfold numF
    cases hr : rng (nI (numV f N (seeP f N q))) a b
    · refine ⟨fun h => (by cases h), fun x hx => ⟨a, nI (numE f N (seeP f N q)), ?_, hra⟩⟩
      cases hx
      rfl
    · cases hd2 : dig f N (numE f N (seeP f N q))
      · exact ⟨fun _ => rfl, fun x hx => (by cases hx)⟩
      · refine ⟨fun h => (by cases h), fun x hx => ⟨nI (numV f N (seeP f N q)), nI (numE f N (seeP f N q)), ?_, hr⟩⟩
        cases hx
        rfl
end RN
