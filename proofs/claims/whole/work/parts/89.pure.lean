/-- THE PURE PART: what the law computes is true -/
theorem law_true (xs : Nat → Int32) (L z : Nat) (hL : L ≤ 3072) : ∃ S', D_La_law xs L ((fun _ => none), z, 0, 0) = some (1, S') := by
  sorry
