/-! HOURS AS BITS -/
def wIn (a b x : Int32) : Bool := if a ≤ b then decide (a ≤ x) && decide (x ≤ b) else decide (a ≤ x) || decide (x ≤ b)
def hb (a b : Int32) : Nat → Int32
  | 0 => 0
  | h + 1 => if wIn a b (nI h) then hb a b h ||| (1 <<< (nI h &&& 31)) else hb a b h
theorem L4_s {k : Nat} {a b x y : Int32} {S : gS} : L_Hr_bitsOf_4 (k + 1) a b x y S = B_Hr_bitsOf_4 (L_Hr_bitsOf_4 k) a b x y S := rfl
theorem C_bits_loop {a b : Int32} {S : gS} : ∀ (d h fuel : Nat), d = 24 - h → h ≤ 24 → d < fuel → L_Hr_bitsOf_4 fuel a b (hb a b h) (nI h) S = some (hb a b 24, S) := by
  intro d
  induction d with
  | zero =>
    intro h fuel hd hh hf
    obtain ⟨fuel, rfl⟩ : ∃ m, fuel = m + 1 := ⟨fuel - 1, by omega⟩
    obtain rfl : h = 24 := by omega
    rw [L4_s]
    unfold B_Hr_bitsOf_4
    rw [if_pos (by decide)]
  | succ d ih =>
    intro h fuel hd hh hf
    obtain ⟨fuel, rfl⟩ : ∃ m, fuel = m + 1 := ⟨fuel - 1, by omega⟩
    have e := ih (h + 1) fuel (by omega) (by omega) (by omega)
    rw [L4_s]
    unfold B_Hr_bitsOf_4 B_Hr_bitsOf_43 B_Hr_bitsOf_29 B_Hr_bitsOf_48 B_Hr_bitsOf_61
    rw [if_neg (show ¬ (23 : Int32) < nI h from nI_nlt (b := h) (a := 23) (by omega) (by decide))]
    simp only [nI_1, if_true, if_neg (show ¬ (1 : Int32) = 0 by decide)]
    have hs : hb a b (h + 1) = if wIn a b (nI h) then hb a b h ||| (1 <<< (nI h &&& 31)) else hb a b h := rfl
    rw [hs] at e
    unfold wIn at e
    by_cases h1 : b < a
    · rw [if_pos h1]
      rw [if_neg (i_ltn h1)] at e
      by_cases h2 : a ≤ nI h
      · rw [if_pos h2]
        simp only [h2, decide_true, Bool.true_or, if_true] at e
        exact e
      · rw [if_neg h2]
        by_cases h3 : b < nI h
        · have := i_ltn h3
          rw [if_pos h3]
          simp only [h2, this, decide_false, Bool.or_self, if_false, Bool.false_eq_true] at e
          exact e
        · have := i_nlt h3
          rw [if_neg h3]
          simp only [this, decide_true, Bool.or_true, if_true] at e
          exact e
    · rw [if_neg h1]
      rw [if_pos (i_nlt h1)] at e
      by_cases h2 : nI h < a
      · have := i_ltn h2
        rw [if_pos h2]
        simp only [this, decide_false, Bool.false_and, if_false, Bool.false_eq_true] at e
        exact e
      · have h2' := i_nlt h2
        rw [if_neg h2]
        by_cases h3 : b < nI h
        · have := i_ltn h3
          rw [if_pos h3]
          simp only [this, decide_false, Bool.and_false, if_false, Bool.false_eq_true] at e
          exact e
        · have := i_nlt h3
          rw [if_neg h3]
          simp only [this, h2', decide_true, Bool.and_self, if_true] at e
          exact e
theorem C_bits {a b : Int32} {S : gS} : D_Hr_bitsOf a b S = some (hb a b 24, S) := C_bits_loop 24 0 gF rfl (by decide) (by decide)
theorem sh_bit : ∀ h, h < 24 → ((1 : Int32) <<< (nI h &&& 31)).toBitVec = BitVec.twoPow 32 h := by decide +kernel
theorem hb_bit {a b : Int32} : ∀ h i, h ≤ 24 → (hb a b h).toBitVec.getLsbD i = (decide (i < h) && wIn a b (nI i))
  | 0, i, _ => by
    show (0 : Int32).toBitVec.getLsbD i = _
    simp
  | h + 1, i, hh => by
    have ih := hb_bit (a := a) (b := b) h i (by omega)
    show (if wIn a b (nI h) then hb a b h ||| (1 <<< (nI h &&& 31)) else hb a b h).toBitVec.getLsbD i = _
    by_cases hw : wIn a b (nI h) = true
    · rw [if_pos hw, Int32.toBitVec_or, BitVec.getLsbD_or, ih, sh_bit h (by omega), BitVec.getLsbD_twoPow]
      by_cases hi : i = h
      · subst hi
        simp [hw, show i < 32 by omega]
      · have e1 : decide (i < h + 1) = decide (i < h) := by rw [decide_eq_decide]; omega
        have e2 : decide (h = i) = false := by rw [decide_eq_false_iff_not]; omega
        rw [e1, e2]; simp
    · rw [if_neg hw, ih]
      by_cases hi : i = h
      · subst hi
        simp [hw]
      · have e1 : decide (i < h + 1) = decide (i < h) := by rw [decide_eq_decide]; omega
        rw [e1]
theorem sm_bit : ∀ h, h < 24 → ((nI h &&& 31).toBitVec.smod 32).toNat = h := by decide +kernel
theorem bit_t {x : Int32} {h : Nat} (hh : h < 24) : ((x >>> (nI h &&& 31)) &&& 1 = 0 ↔ x.toBitVec.getLsbD h = false) := by
  have e1 : ((x >>> (nI h &&& 31)) &&& 1).toBitVec.getLsbD 0 = x.toBitVec.getLsbD h := by
    rw [Int32.toBitVec_and, BitVec.getLsbD_and]
    have : (x >>> (nI h &&& 31)).toBitVec = x.toBitVec.sshiftRight h := by
      show x.toBitVec.sshiftRight' ((nI h &&& 31).toBitVec.smod 32) = _
      rw [BitVec.sshiftRight_eq', sm_bit h hh]
    rw [this, BitVec.getLsbD_sshiftRight]
    simp [show h < 32 by omega]
  constructor
  · intro e
    rw [← e1, e]; rfl
  · intro e
    rw [← e1] at e
    have : ((x >>> (nI h &&& 31)) &&& 1).toBitVec = 0#32 := by
      apply BitVec.eq_of_getLsbD_eq
      intro i hi
      by_cases h0 : i = 0
      · subst h0; rw [e]; rfl
      · rw [Int32.toBitVec_and, BitVec.getLsbD_and]
        have : (1 : Int32).toBitVec.getLsbD i = false := by
          show (1#32).getLsbD i = false
          rw [BitVec.getLsbD_one]; simp [h0]
        rw [this]; simp
    exact Int32.toBitVec_inj.mp this
theorem bit_0 {x : Int32} : x = 0 ↔ ∀ i, i < 32 → x.toBitVec.getLsbD i = false := by
  constructor
  · intro e i _; rw [e]; simp
  · intro e
    refine Int32.toBitVec_inj.mp (BitVec.eq_of_getLsbD_eq (fun i hi => ?_))
    rw [e i hi]; simp
