/-- the law's function answers 1 -/
theorem law_answers {L : Nat} {xs : Nat → Int32} (hL : L ≤ 2048) : ∃ (N : Nat) (M' : zM), fL_law N (zM0 L xs) = some (1, M') := by
  obtain ⟨M', e⟩ := law_loop hL 500000 (by omega) 513 0 (zMi L xs) [] [] none none (zInv_init L xs) (by omega) (by omega)
  refine ⟨500000, M', ?_⟩
  rw [law_init, i0]
  rw [show nI 1 = (1 : Int32) from rfl] at e
  exact e
