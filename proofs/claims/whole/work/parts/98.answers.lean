/-- WHAT IS LEFT: the law's function answers 1 -/
theorem law_answers {L : Nat} {xs : Nat → Int32} (hL : L ≤ 2048) : ∃ (N : Nat) (M' : zM), fL_law N (zM0 L xs) = some (1, M') := by
  sorry
