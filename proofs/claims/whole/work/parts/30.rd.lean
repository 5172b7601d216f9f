/-! THE CLASS'S READER -/
/-- the state S with a reader at r over the tape at t: n bytes, place p, wrong place wr -/
def rd (r t : Nat) (n p wr : Int32) (S : gS) : gS := (gup S.1 r (.inr (7, [.ref t, .int n, .int p, .int wr])), S.2)
/-- the tape at t holds the bytes f -/
def tapeAt (t : Nat) (f : Nat → Int32) (S : gS) : Prop := ∃ g : Nat → Int32, S.1 t = some (.inl (2, 400, .inl g)) ∧ ∀ i, i < 400 → g i &&& 255 = f i ∧ (g i).toInt8.toInt32 = g i
section RD
variable {r t : Nat} {n p wr : Int32} {S : gS} {f : Nat → Int32}
theorem rd_r : (rd r t n p wr S).1 r = some (.inr (7, [.ref t, .int n, .int p, .int wr])) := gup_self
theorem rd_ne {q : Nat} (h : q ≠ r) : (rd r t n p wr S).1 q = S.1 q := gup_ne h
theorem rd_2 : (rd r t n p wr S).2 = S.2 := rfl
theorem rd_ob : gOb (rd r t n p wr S) r 7 = some [.ref t, .int n, .int p, .int wr] := by simp [gOb, rd_r]
theorem rd_R0 : gRf (rd r t n p wr S) r 7 0 = some (some t) := by simp [gRf, rd_r]
theorem rd_I1 : gI (rd r t n p wr S) r 7 1 = some n := by simp [gI, rd_r]
theorem rd_I2 : gI (rd r t n p wr S) r 7 2 = some p := by simp [gI, rd_r]
theorem rd_I3 : gI (rd r t n p wr S) r 7 3 = some wr := by simp [gI, rd_r]
theorem gup_gup {G : Nat → Option gE} {a : Nat} {e e' : gE} : gup (gup G a e) a e' = gup G a e' := by
  funext q
  unfold gup
  split <;> rfl
theorem rd_P2 {v : Int32} : gPut (rd r t n p wr S) r 7 2 (.int v) = some (rd r t n v wr S) := by
  simp only [gPut, rd_r]
  rw [if_pos ⟨trivial, Nat.le_of_ble_eq_true rfl⟩]
  show some ((gup (gup S.1 r _) r _, S.2) : gS) = _
  rw [gup_gup]; rfl
theorem rd_P3 {v : Int32} : gPut (rd r t n p wr S) r 7 3 (.int v) = some (rd r t n p v S) := by
  simp only [gPut, rd_r]
  rw [if_pos ⟨trivial, Nat.le_of_ble_eq_true rfl⟩]
  show some ((gup (gup S.1 r _) r _, S.2) : gS) = _
  rw [gup_gup]; rfl
theorem rd_tape (h : tapeAt t f S) (hne : t ≠ r) : tapeAt t f (rd r t n p wr S) := by
  obtain ⟨g, h1, h2⟩ := h
  exact ⟨g, by rw [rd_ne hne]; exact h1, h2⟩
theorem tape_at {i : Nat} (h : tapeAt t f S) (hi : i < 400) : ∃ b : Int32, gAI S t 2 (nI i) = some b ∧ b &&& 255 = f i ∧ (b = 32 ↔ f i = 32) := by
  obtain ⟨g, h1, h2⟩ := h
  refine ⟨g i, ?_, (h2 i hi).1, ?_⟩
  · simp only [gAI, h1]
    rw [if_pos ⟨trivial, nI_in hi (by decide)⟩, nI_clamp (by omega)]
  · have := sc_eq (h2 i hi).2 (n := 32) (by decide)
    rw [show ((nI 32).toInt8.toInt32 : Int32) = 32 by decide] at this
    rw [this, (h2 i hi).1]
    rfl
def rFail (wr v : Int32) : Int32 := if wr = -1 then v else wr
theorem R_fail {v : Int32} : D_Rd_fail r v (rd r t n p wr S) = some (rd r t n p (rFail wr v) S) := by
  unfold D_Rd_fail B_Rd_fail_13 rFail
  simp only [rd_I3, Option.bind_some, rd_P3]
  by_cases h : wr = -1
  · rw [if_pos h, if_pos h]
  · rw [if_neg h, if_neg h]
theorem R_next_w (h : wr ≠ -1) : D_Rd_nextSign r (rd r t n p wr S) = some (-1, rd r t n p wr S) := by
  unfold D_Rd_nextSign
  simp only [rd_I3, Option.bind_some]
  rw [if_neg h]
theorem R_next_loop {N : Nat} (hN : N ≤ 400) (hne : t ≠ r) (hT : tapeAt t f S) : ∀ (k q fuel : Nat), N - q ≤ k → k < fuel → q ≤ N →
    L_Rd_nextSign_10 fuel r (rd r t (nI N) (nI q) wr S) = some (seeV f N (seeP f N q), rd r t (nI N) (nI (seeP f N q)) wr S) := by
  have hT' : ∀ q, tapeAt t f (rd r t (nI N) (nI q) wr S) := fun q => rd_tape hT hne
  have e48 : ∀ q, q ≤ N → B_Rd_nextSign_48 r (rd r t (nI N) (nI q) wr S) = some (seeV f N q, rd r t (nI N) (nI q) wr S) := by
    intro q hq
    unfold B_Rd_nextSign_48 B_Rd_nextSign_76 seeV
    simp only [rd_I1, rd_I2, rd_R0, Option.bind_some]
    by_cases h : q < N
    · obtain ⟨b, h1, h2, -⟩ := tape_at (hT' q) (show q < 400 by omega)
      rw [if_neg (nI_ge h (by omega)), h1, if_pos h]
      simp only [Option.bind_some, h2]
    · rw [if_pos (nI_le (by omega) (by omega)), if_neg h]
  intro k
  induction k with
  | zero =>
    intro q fuel hk hf hq
    obtain ⟨fuel, rfl⟩ : ∃ m, fuel = m + 1 := ⟨fuel - 1, by omega⟩
    show B_Rd_nextSign_10 (L_Rd_nextSign_10 fuel) r _ = _
    rw [seeP_out (by omega)]
    unfold B_Rd_nextSign_10
    simp only [rd_I1, rd_I2, Option.bind_some]
    rw [if_pos (nI_le (by omega) (by omega)), e48 q hq]
  | succ k ih =>
    intro q fuel hk hf hq
    obtain ⟨fuel, rfl⟩ : ∃ m, fuel = m + 1 := ⟨fuel - 1, by omega⟩
    show B_Rd_nextSign_10 (L_Rd_nextSign_10 fuel) r _ = _
    unfold B_Rd_nextSign_10
    simp only [rd_I1, rd_I2, rd_R0, Option.bind_some]
    by_cases h : q < N
    · have hst : seeP f N q = if f q = 32 then seeP f N (q + 1) else q := by
        unfold seeP
        rw [show N - q = (N - (q + 1)) + 1 by omega]
        rfl
      obtain ⟨b, h1, h2, h3⟩ := tape_at (hT' q) (show q < 400 by omega)
      rw [if_neg (nI_ge h (by omega)), h1]
      simp only [Option.bind_some, h3]
      by_cases h32 : f q = 32
      · rw [if_pos h32, hst, if_pos h32]
        simp only [rd_P2, Option.bind_some, nI_1]
        exact ih (q + 1) fuel (by omega) (by omega) (by omega)
      · rw [if_neg h32, hst, if_neg h32, e48 q hq]
    · rw [if_pos (nI_le (by omega) (by omega)), seeP_out (by omega), e48 q hq]
theorem R_next {N q : Nat} (hN : N ≤ 400) (hne : t ≠ r) (hT : tapeAt t f S) (hq : q ≤ N) : D_Rd_nextSign r (rd r t (nI N) (nI q) (-1) S) = some (seeV f N (seeP f N q), rd r t (nI N) (nI (seeP f N q)) (-1) S) := by
  unfold D_Rd_nextSign
  simp only [rd_I3, Option.bind_some]
  rw [if_pos trivial]
  exact R_next_loop hN hne hT (N - q) q gF (Nat.le_refl _) (by unfold gF; omega) hq
theorem R_takes_w {x : Int32} (h : wr ≠ -1) (hx : x ≠ -1) : D_Rd_takes r x (rd r t n p wr S) = some (0, rd r t n p wr S) := by
  unfold D_Rd_takes
  simp only [rd_ob, Option.bind_some, R_next_w h, gB2_some, gZo_0, gZo_1]
  rw [if_neg (fun e => hx e.symm)]
theorem R_takes {N q : Nat} {x : Int32} (hN : N ≤ 400) (hne : t ≠ r) (hT : tapeAt t f S) (hq : q ≤ N) : D_Rd_takes r x (rd r t (nI N) (nI q) (-1) S) = some (if seeV f N (seeP f N q) = x then (1, rd r t (nI N) (nI (seeP f N q + 1)) (-1) S) else (0, rd r t (nI N) (nI (seeP f N q)) (-1) S)) := by
  unfold D_Rd_takes
  simp only [rd_ob, Option.bind_some, R_next hN hne hT hq, gB2_some, gZo_0, gZo_1]
  by_cases h : seeV f N (seeP f N q) = x
  · rw [if_pos h, if_pos h]
    simp only [rd_I2, rd_P2, Option.bind_some, nI_1]
  · rw [if_neg h, if_neg h]
theorem R_expect_w {x : Int32} (h : wr ≠ -1) (hx : x ≠ -1) : D_Rd_expect r x (rd r t n p wr S) = some (rd r t n p wr S) := by
  unfold D_Rd_expect B_Rd_expect_16
  simp only [rd_ob, Option.bind_some, R_takes_w h hx, gB2_some]
  rw [if_pos trivial]
  simp only [rd_I2, rd_ob, R_fail, Option.bind_some]
  unfold rFail
  rw [if_neg h]
theorem R_expect {N q : Nat} {x : Int32} (hN : N ≤ 400) (hne : t ≠ r) (hT : tapeAt t f S) (hq : q ≤ N) : D_Rd_expect r x (rd r t (nI N) (nI q) (-1) S) = some (if seeV f N (seeP f N q) = x then rd r t (nI N) (nI (seeP f N q + 1)) (-1) S else rd r t (nI N) (nI (seeP f N q)) (nI (seeP f N q)) S) := by
  unfold D_Rd_expect B_Rd_expect_16
  simp only [rd_ob, Option.bind_some, R_takes hN hne hT hq]
  by_cases h : seeV f N (seeP f N q) = x
  · rw [if_pos h, if_pos h]
    simp only [gB2_some]
    rw [if_neg (by decide)]
  · rw [if_neg h, if_neg h]
    simp only [gB2_some]
    rw [if_pos trivial]
    simp only [rd_I2, rd_ob, R_fail, Option.bind_some]
    rfl
theorem R_isDigit {v : Int32} : D_Rd_isDigit v S = some (bI (rng v 48 57), S) := by
  unfold D_Rd_isDigit B_Rd_isDigit_16 B_Rd_isDigit_17
  by_cases h1 : v < 48
  · have := i_ltn h1
    simp [h1, rng, this, bI, gZo_0]
  · have h1' := i_nlt h1
    by_cases h2 : 57 < v
    · have := i_ltn h2
      simp [h1, h2, rng, this, bI, gZo_0]
    · have h2' := i_nlt h2
      simp [h1, h2, rng, h1', h2', bI, gZo_1]
theorem R_byteAt {N i : Nat} {pp : Int32} (hN : N ≤ 400) (hi : i < 100000) (hne : t ≠ r) (hT : tapeAt t f S) : D_Rd_byteAt r (nI i) (rd r t (nI N) pp wr S) = some (seeV f N i, rd r t (nI N) pp wr S) := by
  unfold D_Rd_byteAt B_Rd_byteAt_25 B_Rd_byteAt_26 seeV
  rw [if_neg (nI_pos (by omega))]
  simp only [rd_I1, rd_R0, Option.bind_some]
  by_cases h : i < N
  · obtain ⟨b, h1, h2, -⟩ := tape_at (rd_tape (r := r) (n := nI N) (p := pp) (wr := wr) hT hne) (show i < 400 by omega)
    rw [if_neg (nI_ge h (by omega)), h1, if_pos h]
    simp only [Option.bind_some, h2]
  · rw [if_pos (nI_le (by omega) (by omega)), if_neg h]
theorem dig_see {N i : Nat} : rng (seeV f N i) 48 57 = dig f N i := by
  unfold seeV dig
  by_cases h : i < N
  · rw [if_pos h]; simp [h]
  · rw [if_neg h]; simp [h]; decide
end RD
