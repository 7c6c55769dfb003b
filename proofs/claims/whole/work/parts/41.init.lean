/-! the memory behind the constructors -/
section ZINIT
def zMi (L : Nat) (xs : Nat → Int32) : zM := match fX9_init 0 (mNew (zM0 L xs) 9 0) 1 with
  | some (_, M6) => (match fX10_init 0 (mNew M6 10 0) 68 with
    | some (_, M14) => mNew M14 12 1
    | none => M6)
  | none => zM0 L xs
set_option maxRecDepth 100000 in
theorem law_init (N L : Nat) (xs : Nat → Int32) : fL_law N (zM0 L xs) = fL_law_23 N 513 (zMi L xs) 0 1 68 102 0 := by rfl
set_option maxRecDepth 100000 in
theorem Sta_init (L : Nat) (xs : Nat → Int32) : Sta (zMi L xs) := ⟨⟨L, rfl⟩, fun q hq => of_decide_eq_true (List.all_eq_true.mp (rfl : SR.all (fun q => decide (mR (zMi L xs) q.1 q.2.1 = some q.2.2)) = true) q hq)⟩
end ZINIT
