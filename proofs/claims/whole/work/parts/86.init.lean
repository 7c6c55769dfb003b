/-! what holds behind the constructors -/
section ZINIT2
set_option maxRecDepth 100000 in
theorem Ez_a (L : Nat) (xs : Nat → Int32) : mI (zMi L xs) 2 0 = 0 ∧ mI (zMi L xs) 68 2 = 0 ∧ mI (zMi L xs) 27 0 = 0 ∧ mI (zMi L xs) 68 4 = 0 := ⟨by rfl, by rfl, by rfl, by rfl⟩
set_option maxRecDepth 100000 in
theorem Ez_b (L : Nat) (xs : Nat → Int32) : mI (zMi L xs) 2 1 = -1 ∧ mI (zMi L xs) 68 5 = -1 ∧ mI (zMi L xs) 71 0 = 0 ∧ mI (zMi L xs) 71 1 = 0 := ⟨by rfl, by rfl, by rfl, by rfl⟩
set_option maxRecDepth 100000 in
theorem Ez_c (L : Nat) (xs : Nat → Int32) : mI (zMi L xs) 27 5 = 0 ∧ mI (zMi L xs) 31 0 = 0 ∧ mI (zMi L xs) 38 0 = 0 ∧ mI (zMi L xs) 68 39 = 0 := ⟨by rfl, by rfl, by rfl, by rfl⟩
set_option maxRecDepth 100000 in
theorem Ez_d (L : Nat) (xs : Nat → Int32) (s : Nat) : mI (zMi L xs) 34 s = 0 := by rfl
theorem zInv_init (L : Nat) (xs : Nat → Int32) : zInv xs L (zMi L xs) [] [] none none := by
  obtain ⟨a1, a2, a3, a4⟩ := Ez_a L xs
  obtain ⟨b1, b2, b3, b4⟩ := Ez_b L xs
  obtain ⟨c1, c2, c3, c4⟩ := Ez_c L xs
  obtain ⟨d1, d2⟩ := Ei_0 L xs
  obtain ⟨e1, e2⟩ := Ei_cur L xs
  refine ⟨Sta_init L xs, ⟨d2, d1⟩, ⟨⟨a1, by simp, fun i hi => by simp at hi, fun c hc => by simp at hc⟩, ⟨a2, by simp, fun i hi => by simp at hi, fun c hc => by simp at hc⟩⟩, ⟨⟨a3, by simp, fun i hi => by simp at hi, fun c hc => by simp at hc⟩, ⟨a4, by simp, fun i hi => by simp at hi, fun c hc => by simp at hc⟩⟩, by rw [b1, b2], ⟨e1, b3⟩, ⟨⟨e2, b4⟩, fun _ => rfl⟩, ⟨false, c1, fun q => by cases q⟩, ⟨[], c2, by simp, fun i j hi => by simp at hi, fun i hi => by simp at hi, fun _ => 0, fun i hi => by simp at hi, fun s hs => Or.inl (Ez_d L xs s), fun i hi => by simp at hi⟩, ⟨0, by omega, c3, c4, fun i hi => by omega⟩⟩
end ZINIT2
