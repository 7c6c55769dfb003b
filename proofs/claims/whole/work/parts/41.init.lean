/-! the constructors, run; by program: wip/mk_init.py -/
section ZINIT
def mAt (M : zM) (id kd len : Nat) : zM := (M.1 ++ [(kd, len)], (fun b j => if b = id then 0 else M.2.1 b j), (fun b j => if b = id then 0 else M.2.2.1 b j), fun b j => if b = id then none else M.2.2.2 b j)
theorem mAt_of {M : zM} {id : Nat} (h : M.1.length = id) (kd len : Nat) : mNew M kd len = mAt M id kd len := by unfold mNew mAt; rw [h]
theorem beq_t {a b : Nat} (h : a = b) : (a == b) = true := by rw [h]; exact beq_self_eq_true b
theorem app_e {α β : Type} {x y : α} {f : α → β} {r : β} (e : x = y) (h : f y = r) : app x f = r := by rw [e]; exact h
theorem chk_e {α : Type} {b : Bool} {k r : Option α} (c : b = true) (h : k = r) : chk b k = r := by rw [c]; exact h
theorem bnd_e {α β : Type} {x : Option α} {a : α} {f : α → Option β} {r : Option β} (e : x = some a) (h : f a = r) : bnd x f = r := by rw [e]; exact h
theorem bnd2_e {α β γ : Type} {x : Option (α × γ)} {a : α} {c : γ} {f : α → γ → Option β} {r : Option β} (e : x = some (a, c)) (h : f a c = r) : bnd2 x f = r := by rw [e]; exact h
def E0 (L : Nat) (xs : Nat → Int32) : zM := zM0 L xs
theorem Eh0 (L : Nat) (xs : Nat → Int32) : (E0 L xs).1 = (SH L).take 1 := rfl
def E1 (L : Nat) (xs : Nat → Int32) : zM := mAt (E0 L xs) 1 9 0
theorem Eh1 (L : Nat) (xs : Nat → Int32) : (E1 L xs).1 = (SH L).take 2 := by show (E0 L xs).1 ++ _ = _; rw [Eh0]; rfl
def E2 (L : Nat) (xs : Nat → Int32) : zM := mAt (E1 L xs) 2 6 0
theorem Eh2 (L : Nat) (xs : Nat → Int32) : (E2 L xs).1 = (SH L).take 3 := by show (E1 L xs).1 ++ _ = _; rw [Eh1]; rfl
def E3 (L : Nat) (xs : Nat → Int32) : zM := wI (E2 L xs) 2 1 (-1 : Int32)
theorem Eh3 (L : Nat) (xs : Nat → Int32) : (E3 L xs).1 = (SH L).take 3 := by show (E2 L xs).1 = _; rw [Eh2]
def E4 (L : Nat) (xs : Nat → Int32) : zM := mAt (E3 L xs) 3 11 200
theorem Eh4 (L : Nat) (xs : Nat → Int32) : (E4 L xs).1 = (SH L).take 4 := by show (E3 L xs).1 ++ _ = _; rw [Eh3]; rfl
def E5 (L : Nat) (xs : Nat → Int32) : zM := wR (E4 L xs) 2 2 (some 3)
theorem Eh5 (L : Nat) (xs : Nat → Int32) : (E5 L xs).1 = (SH L).take 4 := by show (E4 L xs).1 = _; rw [Eh4]
def E6 (L : Nat) (xs : Nat → Int32) : zM := mAt (E5 L xs) 4 3 0
theorem Eh6 (L : Nat) (xs : Nat → Int32) : (E6 L xs).1 = (SH L).take 5 := by show (E5 L xs).1 ++ _ = _; rw [Eh5]; rfl
def E7 (L : Nat) (xs : Nat → Int32) : zM := mAt (E6 L xs) 5 5 0
theorem Eh7 (L : Nat) (xs : Nat → Int32) : (E7 L xs).1 = (SH L).take 6 := by show (E6 L xs).1 ++ _ = _; rw [Eh6]; rfl
def E8 (L : Nat) (xs : Nat → Int32) : zM := wR (E7 L xs) 4 3 (some 5)
theorem Eh8 (L : Nat) (xs : Nat → Int32) : (E8 L xs).1 = (SH L).take 6 := by show (E7 L xs).1 = _; rw [Eh7]
def E9 (L : Nat) (xs : Nat → Int32) : zM := mAt (E8 L xs) 6 5 0
theorem Eh9 (L : Nat) (xs : Nat → Int32) : (E9 L xs).1 = (SH L).take 7 := by show (E8 L xs).1 ++ _ = _; rw [Eh8]; rfl
def E10 (L : Nat) (xs : Nat → Int32) : zM := wR (E9 L xs) 4 4 (some 6)
theorem Eh10 (L : Nat) (xs : Nat → Int32) : (E10 L xs).1 = (SH L).take 7 := by show (E9 L xs).1 = _; rw [Eh9]
def E11 (L : Nat) (xs : Nat → Int32) : zM := mAt (E10 L xs) 7 15 9
theorem Eh11 (L : Nat) (xs : Nat → Int32) : (E11 L xs).1 = (SH L).take 8 := by show (E10 L xs).1 ++ _ = _; rw [Eh10]; rfl
def E12 (L : Nat) (xs : Nat → Int32) : zM := wR (E11 L xs) 4 5 (some 7)
theorem Eh12 (L : Nat) (xs : Nat → Int32) : (E12 L xs).1 = (SH L).take 8 := by show (E11 L xs).1 = _; rw [Eh11]
def E13 (L : Nat) (xs : Nat → Int32) : zM := mAt (E12 L xs) 8 15 9
theorem Eh13 (L : Nat) (xs : Nat → Int32) : (E13 L xs).1 = (SH L).take 9 := by show (E12 L xs).1 ++ _ = _; rw [Eh12]; rfl
def E14 (L : Nat) (xs : Nat → Int32) : zM := wR (E13 L xs) 4 6 (some 8)
theorem Eh14 (L : Nat) (xs : Nat → Int32) : (E14 L xs).1 = (SH L).take 9 := by show (E13 L xs).1 = _; rw [Eh13]
def E15 (L : Nat) (xs : Nat → Int32) : zM := mAt (E14 L xs) 9 5 0
theorem Eh15 (L : Nat) (xs : Nat → Int32) : (E15 L xs).1 = (SH L).take 10 := by show (E14 L xs).1 ++ _ = _; rw [Eh14]; rfl
def E16 (L : Nat) (xs : Nat → Int32) : zM := wR (E15 L xs) 7 0 (some 9)
theorem Eh16 (L : Nat) (xs : Nat → Int32) : (E16 L xs).1 = (SH L).take 10 := by show (E15 L xs).1 = _; rw [Eh15]
def E17 (L : Nat) (xs : Nat → Int32) : zM := mAt (E16 L xs) 10 5 0
theorem Eh17 (L : Nat) (xs : Nat → Int32) : (E17 L xs).1 = (SH L).take 11 := by show (E16 L xs).1 ++ _ = _; rw [Eh16]; rfl
def E18 (L : Nat) (xs : Nat → Int32) : zM := wR (E17 L xs) 8 0 (some 10)
theorem Eh18 (L : Nat) (xs : Nat → Int32) : (E18 L xs).1 = (SH L).take 11 := by show (E17 L xs).1 = _; rw [Eh17]
def E19 (L : Nat) (xs : Nat → Int32) : zM := mAt (E18 L xs) 11 5 0
theorem Eh19 (L : Nat) (xs : Nat → Int32) : (E19 L xs).1 = (SH L).take 12 := by show (E18 L xs).1 ++ _ = _; rw [Eh18]; rfl
def E20 (L : Nat) (xs : Nat → Int32) : zM := wR (E19 L xs) 7 1 (some 11)
theorem Eh20 (L : Nat) (xs : Nat → Int32) : (E20 L xs).1 = (SH L).take 12 := by show (E19 L xs).1 = _; rw [Eh19]
def E21 (L : Nat) (xs : Nat → Int32) : zM := mAt (E20 L xs) 12 5 0
theorem Eh21 (L : Nat) (xs : Nat → Int32) : (E21 L xs).1 = (SH L).take 13 := by show (E20 L xs).1 ++ _ = _; rw [Eh20]; rfl
def E22 (L : Nat) (xs : Nat → Int32) : zM := wR (E21 L xs) 8 1 (some 12)
theorem Eh22 (L : Nat) (xs : Nat → Int32) : (E22 L xs).1 = (SH L).take 13 := by show (E21 L xs).1 = _; rw [Eh21]
def E23 (L : Nat) (xs : Nat → Int32) : zM := mAt (E22 L xs) 13 5 0
theorem Eh23 (L : Nat) (xs : Nat → Int32) : (E23 L xs).1 = (SH L).take 14 := by show (E22 L xs).1 ++ _ = _; rw [Eh22]; rfl
def E24 (L : Nat) (xs : Nat → Int32) : zM := wR (E23 L xs) 7 2 (some 13)
theorem Eh24 (L : Nat) (xs : Nat → Int32) : (E24 L xs).1 = (SH L).take 14 := by show (E23 L xs).1 = _; rw [Eh23]
def E25 (L : Nat) (xs : Nat → Int32) : zM := mAt (E24 L xs) 14 5 0
theorem Eh25 (L : Nat) (xs : Nat → Int32) : (E25 L xs).1 = (SH L).take 15 := by show (E24 L xs).1 ++ _ = _; rw [Eh24]; rfl
def E26 (L : Nat) (xs : Nat → Int32) : zM := wR (E25 L xs) 8 2 (some 14)
theorem Eh26 (L : Nat) (xs : Nat → Int32) : (E26 L xs).1 = (SH L).take 15 := by show (E25 L xs).1 = _; rw [Eh25]
def E27 (L : Nat) (xs : Nat → Int32) : zM := mAt (E26 L xs) 15 5 0
theorem Eh27 (L : Nat) (xs : Nat → Int32) : (E27 L xs).1 = (SH L).take 16 := by show (E26 L xs).1 ++ _ = _; rw [Eh26]; rfl
def E28 (L : Nat) (xs : Nat → Int32) : zM := wR (E27 L xs) 7 3 (some 15)
theorem Eh28 (L : Nat) (xs : Nat → Int32) : (E28 L xs).1 = (SH L).take 16 := by show (E27 L xs).1 = _; rw [Eh27]
def E29 (L : Nat) (xs : Nat → Int32) : zM := mAt (E28 L xs) 16 5 0
theorem Eh29 (L : Nat) (xs : Nat → Int32) : (E29 L xs).1 = (SH L).take 17 := by show (E28 L xs).1 ++ _ = _; rw [Eh28]; rfl
def E30 (L : Nat) (xs : Nat → Int32) : zM := wR (E29 L xs) 8 3 (some 16)
theorem Eh30 (L : Nat) (xs : Nat → Int32) : (E30 L xs).1 = (SH L).take 17 := by show (E29 L xs).1 = _; rw [Eh29]
def E31 (L : Nat) (xs : Nat → Int32) : zM := mAt (E30 L xs) 17 5 0
theorem Eh31 (L : Nat) (xs : Nat → Int32) : (E31 L xs).1 = (SH L).take 18 := by show (E30 L xs).1 ++ _ = _; rw [Eh30]; rfl
def E32 (L : Nat) (xs : Nat → Int32) : zM := wR (E31 L xs) 7 4 (some 17)
theorem Eh32 (L : Nat) (xs : Nat → Int32) : (E32 L xs).1 = (SH L).take 18 := by show (E31 L xs).1 = _; rw [Eh31]
def E33 (L : Nat) (xs : Nat → Int32) : zM := mAt (E32 L xs) 18 5 0
theorem Eh33 (L : Nat) (xs : Nat → Int32) : (E33 L xs).1 = (SH L).take 19 := by show (E32 L xs).1 ++ _ = _; rw [Eh32]; rfl
def E34 (L : Nat) (xs : Nat → Int32) : zM := wR (E33 L xs) 8 4 (some 18)
theorem Eh34 (L : Nat) (xs : Nat → Int32) : (E34 L xs).1 = (SH L).take 19 := by show (E33 L xs).1 = _; rw [Eh33]
def E35 (L : Nat) (xs : Nat → Int32) : zM := mAt (E34 L xs) 19 5 0
theorem Eh35 (L : Nat) (xs : Nat → Int32) : (E35 L xs).1 = (SH L).take 20 := by show (E34 L xs).1 ++ _ = _; rw [Eh34]; rfl
def E36 (L : Nat) (xs : Nat → Int32) : zM := wR (E35 L xs) 7 5 (some 19)
theorem Eh36 (L : Nat) (xs : Nat → Int32) : (E36 L xs).1 = (SH L).take 20 := by show (E35 L xs).1 = _; rw [Eh35]
def E37 (L : Nat) (xs : Nat → Int32) : zM := mAt (E36 L xs) 20 5 0
theorem Eh37 (L : Nat) (xs : Nat → Int32) : (E37 L xs).1 = (SH L).take 21 := by show (E36 L xs).1 ++ _ = _; rw [Eh36]; rfl
def E38 (L : Nat) (xs : Nat → Int32) : zM := wR (E37 L xs) 8 5 (some 20)
theorem Eh38 (L : Nat) (xs : Nat → Int32) : (E38 L xs).1 = (SH L).take 21 := by show (E37 L xs).1 = _; rw [Eh37]
def E39 (L : Nat) (xs : Nat → Int32) : zM := mAt (E38 L xs) 21 5 0
theorem Eh39 (L : Nat) (xs : Nat → Int32) : (E39 L xs).1 = (SH L).take 22 := by show (E38 L xs).1 ++ _ = _; rw [Eh38]; rfl
def E40 (L : Nat) (xs : Nat → Int32) : zM := wR (E39 L xs) 7 6 (some 21)
theorem Eh40 (L : Nat) (xs : Nat → Int32) : (E40 L xs).1 = (SH L).take 22 := by show (E39 L xs).1 = _; rw [Eh39]
def E41 (L : Nat) (xs : Nat → Int32) : zM := mAt (E40 L xs) 22 5 0
theorem Eh41 (L : Nat) (xs : Nat → Int32) : (E41 L xs).1 = (SH L).take 23 := by show (E40 L xs).1 ++ _ = _; rw [Eh40]; rfl
def E42 (L : Nat) (xs : Nat → Int32) : zM := wR (E41 L xs) 8 6 (some 22)
theorem Eh42 (L : Nat) (xs : Nat → Int32) : (E42 L xs).1 = (SH L).take 23 := by show (E41 L xs).1 = _; rw [Eh41]
def E43 (L : Nat) (xs : Nat → Int32) : zM := mAt (E42 L xs) 23 5 0
theorem Eh43 (L : Nat) (xs : Nat → Int32) : (E43 L xs).1 = (SH L).take 24 := by show (E42 L xs).1 ++ _ = _; rw [Eh42]; rfl
def E44 (L : Nat) (xs : Nat → Int32) : zM := wR (E43 L xs) 7 7 (some 23)
theorem Eh44 (L : Nat) (xs : Nat → Int32) : (E44 L xs).1 = (SH L).take 24 := by show (E43 L xs).1 = _; rw [Eh43]
def E45 (L : Nat) (xs : Nat → Int32) : zM := mAt (E44 L xs) 24 5 0
theorem Eh45 (L : Nat) (xs : Nat → Int32) : (E45 L xs).1 = (SH L).take 25 := by show (E44 L xs).1 ++ _ = _; rw [Eh44]; rfl
def E46 (L : Nat) (xs : Nat → Int32) : zM := wR (E45 L xs) 8 7 (some 24)
theorem Eh46 (L : Nat) (xs : Nat → Int32) : (E46 L xs).1 = (SH L).take 25 := by show (E45 L xs).1 = _; rw [Eh45]
def E47 (L : Nat) (xs : Nat → Int32) : zM := mAt (E46 L xs) 25 5 0
theorem Eh47 (L : Nat) (xs : Nat → Int32) : (E47 L xs).1 = (SH L).take 26 := by show (E46 L xs).1 ++ _ = _; rw [Eh46]; rfl
def E48 (L : Nat) (xs : Nat → Int32) : zM := wR (E47 L xs) 7 8 (some 25)
theorem Eh48 (L : Nat) (xs : Nat → Int32) : (E48 L xs).1 = (SH L).take 26 := by show (E47 L xs).1 = _; rw [Eh47]
def E49 (L : Nat) (xs : Nat → Int32) : zM := mAt (E48 L xs) 26 5 0
theorem Eh49 (L : Nat) (xs : Nat → Int32) : (E49 L xs).1 = (SH L).take 27 := by show (E48 L xs).1 ++ _ = _; rw [Eh48]; rfl
def E50 (L : Nat) (xs : Nat → Int32) : zM := wR (E49 L xs) 8 8 (some 26)
theorem Eh50 (L : Nat) (xs : Nat → Int32) : (E50 L xs).1 = (SH L).take 27 := by show (E49 L xs).1 = _; rw [Eh49]
set_option maxRecDepth 100000 in
theorem Ec1 (n L : Nat) (xs : Nat → Int32) : fX3_init n (E6 L xs) 4 = some ((), E50 L xs) := by
  unfold fX3_init
  refine app_e (y := E7 L xs) (mAt_of (by rw [Eh6]; rfl) _ _) ?_
  refine app_e (y := 5) (by rw [Eh6]; rfl) ?_
  refine bnd2_e (a := ()) (c := E7 L xs) rfl ?_
  refine chk_e (beq_t (by unfold mK; rw [Eh7]; rfl)) ?_
  refine app_e (y := E8 L xs) rfl ?_
  refine app_e (y := E9 L xs) (mAt_of (by rw [Eh8]; rfl) _ _) ?_
  refine app_e (y := 6) (by rw [Eh8]; rfl) ?_
  refine bnd2_e (a := ()) (c := E9 L xs) rfl ?_
  refine chk_e (beq_t (by unfold mK; rw [Eh9]; rfl)) ?_
  refine app_e (y := E10 L xs) rfl ?_
  refine app_e (y := E11 L xs) (mAt_of (by rw [Eh10]; rfl) _ _) ?_
  refine app_e (y := 7) (by rw [Eh10]; rfl) ?_
  refine chk_e (beq_t (by unfold mK; rw [Eh11]; rfl)) ?_
  refine app_e (y := E12 L xs) rfl ?_
  refine app_e (y := E13 L xs) (mAt_of (by rw [Eh12]; rfl) _ _) ?_
  refine app_e (y := 8) (by rw [Eh12]; rfl) ?_
  refine chk_e (beq_t (by unfold mK; rw [Eh13]; rfl)) ?_
  refine app_e (y := E14 L xs) rfl ?_
  refine chk_e (beq_t (by unfold mK; rw [Eh14]; rfl)) ?_
  refine bnd_e (a := 7) (by rfl) ?_
  refine app_e (y := E15 L xs) (mAt_of (by rw [Eh14]; rfl) _ _) ?_
  refine app_e (y := 9) (by rw [Eh14]; rfl) ?_
  refine bnd2_e (a := ()) (c := E15 L xs) rfl ?_
  refine chk_e (beq_t (by unfold mK; rw [Eh15]; rfl)) ?_
  refine chk_e (beq_t (by unfold mK; rw [Eh15]; rfl)) ?_
  refine chk_e (by have h9 : mN (E15 L xs) 7 = 9 := (by unfold mN; rw [Eh15]; rfl); rw [h9]; decide) ?_
  refine app_e (y := E16 L xs) rfl ?_
  refine chk_e (beq_t (by unfold mK; rw [Eh16]; rfl)) ?_
  refine bnd_e (a := 8) (by rfl) ?_
  refine app_e (y := E17 L xs) (mAt_of (by rw [Eh16]; rfl) _ _) ?_
  refine app_e (y := 10) (by rw [Eh16]; rfl) ?_
  refine bnd2_e (a := ()) (c := E17 L xs) rfl ?_
  refine chk_e (beq_t (by unfold mK; rw [Eh17]; rfl)) ?_
  refine chk_e (beq_t (by unfold mK; rw [Eh17]; rfl)) ?_
  refine chk_e (by have h9 : mN (E17 L xs) 8 = 9 := (by unfold mN; rw [Eh17]; rfl); rw [h9]; decide) ?_
  refine app_e (y := E18 L xs) rfl ?_
  refine chk_e (beq_t (by unfold mK; rw [Eh18]; rfl)) ?_
  refine bnd_e (a := 7) (by rfl) ?_
  refine app_e (y := E19 L xs) (mAt_of (by rw [Eh18]; rfl) _ _) ?_
  refine app_e (y := 11) (by rw [Eh18]; rfl) ?_
  refine bnd2_e (a := ()) (c := E19 L xs) rfl ?_
  refine chk_e (beq_t (by unfold mK; rw [Eh19]; rfl)) ?_
  refine chk_e (beq_t (by unfold mK; rw [Eh19]; rfl)) ?_
  refine chk_e (by have h9 : mN (E19 L xs) 7 = 9 := (by unfold mN; rw [Eh19]; rfl); rw [h9]; decide) ?_
  refine app_e (y := E20 L xs) rfl ?_
  refine chk_e (beq_t (by unfold mK; rw [Eh20]; rfl)) ?_
  refine bnd_e (a := 8) (by rfl) ?_
  refine app_e (y := E21 L xs) (mAt_of (by rw [Eh20]; rfl) _ _) ?_
  refine app_e (y := 12) (by rw [Eh20]; rfl) ?_
  refine bnd2_e (a := ()) (c := E21 L xs) rfl ?_
  refine chk_e (beq_t (by unfold mK; rw [Eh21]; rfl)) ?_
  refine chk_e (beq_t (by unfold mK; rw [Eh21]; rfl)) ?_
  refine chk_e (by have h9 : mN (E21 L xs) 8 = 9 := (by unfold mN; rw [Eh21]; rfl); rw [h9]; decide) ?_
  refine app_e (y := E22 L xs) rfl ?_
  refine chk_e (beq_t (by unfold mK; rw [Eh22]; rfl)) ?_
  refine bnd_e (a := 7) (by rfl) ?_
  refine app_e (y := E23 L xs) (mAt_of (by rw [Eh22]; rfl) _ _) ?_
  refine app_e (y := 13) (by rw [Eh22]; rfl) ?_
  refine bnd2_e (a := ()) (c := E23 L xs) rfl ?_
  refine chk_e (beq_t (by unfold mK; rw [Eh23]; rfl)) ?_
  refine chk_e (beq_t (by unfold mK; rw [Eh23]; rfl)) ?_
  refine chk_e (by have h9 : mN (E23 L xs) 7 = 9 := (by unfold mN; rw [Eh23]; rfl); rw [h9]; decide) ?_
  refine app_e (y := E24 L xs) rfl ?_
  refine chk_e (beq_t (by unfold mK; rw [Eh24]; rfl)) ?_
  refine bnd_e (a := 8) (by rfl) ?_
  refine app_e (y := E25 L xs) (mAt_of (by rw [Eh24]; rfl) _ _) ?_
  refine app_e (y := 14) (by rw [Eh24]; rfl) ?_
  refine bnd2_e (a := ()) (c := E25 L xs) rfl ?_
  refine chk_e (beq_t (by unfold mK; rw [Eh25]; rfl)) ?_
  refine chk_e (beq_t (by unfold mK; rw [Eh25]; rfl)) ?_
  refine chk_e (by have h9 : mN (E25 L xs) 8 = 9 := (by unfold mN; rw [Eh25]; rfl); rw [h9]; decide) ?_
  refine app_e (y := E26 L xs) rfl ?_
  refine chk_e (beq_t (by unfold mK; rw [Eh26]; rfl)) ?_
  refine bnd_e (a := 7) (by rfl) ?_
  refine app_e (y := E27 L xs) (mAt_of (by rw [Eh26]; rfl) _ _) ?_
  refine app_e (y := 15) (by rw [Eh26]; rfl) ?_
  refine bnd2_e (a := ()) (c := E27 L xs) rfl ?_
  refine chk_e (beq_t (by unfold mK; rw [Eh27]; rfl)) ?_
  refine chk_e (beq_t (by unfold mK; rw [Eh27]; rfl)) ?_
  refine chk_e (by have h9 : mN (E27 L xs) 7 = 9 := (by unfold mN; rw [Eh27]; rfl); rw [h9]; decide) ?_
  refine app_e (y := E28 L xs) rfl ?_
  refine chk_e (beq_t (by unfold mK; rw [Eh28]; rfl)) ?_
  refine bnd_e (a := 8) (by rfl) ?_
  refine app_e (y := E29 L xs) (mAt_of (by rw [Eh28]; rfl) _ _) ?_
  refine app_e (y := 16) (by rw [Eh28]; rfl) ?_
  refine bnd2_e (a := ()) (c := E29 L xs) rfl ?_
  refine chk_e (beq_t (by unfold mK; rw [Eh29]; rfl)) ?_
  refine chk_e (beq_t (by unfold mK; rw [Eh29]; rfl)) ?_
  refine chk_e (by have h9 : mN (E29 L xs) 8 = 9 := (by unfold mN; rw [Eh29]; rfl); rw [h9]; decide) ?_
  refine app_e (y := E30 L xs) rfl ?_
  refine chk_e (beq_t (by unfold mK; rw [Eh30]; rfl)) ?_
  refine bnd_e (a := 7) (by rfl) ?_
  refine app_e (y := E31 L xs) (mAt_of (by rw [Eh30]; rfl) _ _) ?_
  refine app_e (y := 17) (by rw [Eh30]; rfl) ?_
  refine bnd2_e (a := ()) (c := E31 L xs) rfl ?_
  refine chk_e (beq_t (by unfold mK; rw [Eh31]; rfl)) ?_
  refine chk_e (beq_t (by unfold mK; rw [Eh31]; rfl)) ?_
  refine chk_e (by have h9 : mN (E31 L xs) 7 = 9 := (by unfold mN; rw [Eh31]; rfl); rw [h9]; decide) ?_
  refine app_e (y := E32 L xs) rfl ?_
  refine chk_e (beq_t (by unfold mK; rw [Eh32]; rfl)) ?_
  refine bnd_e (a := 8) (by rfl) ?_
  refine app_e (y := E33 L xs) (mAt_of (by rw [Eh32]; rfl) _ _) ?_
  refine app_e (y := 18) (by rw [Eh32]; rfl) ?_
  refine bnd2_e (a := ()) (c := E33 L xs) rfl ?_
  refine chk_e (beq_t (by unfold mK; rw [Eh33]; rfl)) ?_
  refine chk_e (beq_t (by unfold mK; rw [Eh33]; rfl)) ?_
  refine chk_e (by have h9 : mN (E33 L xs) 8 = 9 := (by unfold mN; rw [Eh33]; rfl); rw [h9]; decide) ?_
  refine app_e (y := E34 L xs) rfl ?_
  refine chk_e (beq_t (by unfold mK; rw [Eh34]; rfl)) ?_
  refine bnd_e (a := 7) (by rfl) ?_
  refine app_e (y := E35 L xs) (mAt_of (by rw [Eh34]; rfl) _ _) ?_
  refine app_e (y := 19) (by rw [Eh34]; rfl) ?_
  refine bnd2_e (a := ()) (c := E35 L xs) rfl ?_
  refine chk_e (beq_t (by unfold mK; rw [Eh35]; rfl)) ?_
  refine chk_e (beq_t (by unfold mK; rw [Eh35]; rfl)) ?_
  refine chk_e (by have h9 : mN (E35 L xs) 7 = 9 := (by unfold mN; rw [Eh35]; rfl); rw [h9]; decide) ?_
  refine app_e (y := E36 L xs) rfl ?_
  refine chk_e (beq_t (by unfold mK; rw [Eh36]; rfl)) ?_
  refine bnd_e (a := 8) (by rfl) ?_
  refine app_e (y := E37 L xs) (mAt_of (by rw [Eh36]; rfl) _ _) ?_
  refine app_e (y := 20) (by rw [Eh36]; rfl) ?_
  refine bnd2_e (a := ()) (c := E37 L xs) rfl ?_
  refine chk_e (beq_t (by unfold mK; rw [Eh37]; rfl)) ?_
  refine chk_e (beq_t (by unfold mK; rw [Eh37]; rfl)) ?_
  refine chk_e (by have h9 : mN (E37 L xs) 8 = 9 := (by unfold mN; rw [Eh37]; rfl); rw [h9]; decide) ?_
  refine app_e (y := E38 L xs) rfl ?_
  refine chk_e (beq_t (by unfold mK; rw [Eh38]; rfl)) ?_
  refine bnd_e (a := 7) (by rfl) ?_
  refine app_e (y := E39 L xs) (mAt_of (by rw [Eh38]; rfl) _ _) ?_
  refine app_e (y := 21) (by rw [Eh38]; rfl) ?_
  refine bnd2_e (a := ()) (c := E39 L xs) rfl ?_
  refine chk_e (beq_t (by unfold mK; rw [Eh39]; rfl)) ?_
  refine chk_e (beq_t (by unfold mK; rw [Eh39]; rfl)) ?_
  refine chk_e (by have h9 : mN (E39 L xs) 7 = 9 := (by unfold mN; rw [Eh39]; rfl); rw [h9]; decide) ?_
  refine app_e (y := E40 L xs) rfl ?_
  refine chk_e (beq_t (by unfold mK; rw [Eh40]; rfl)) ?_
  refine bnd_e (a := 8) (by rfl) ?_
  refine app_e (y := E41 L xs) (mAt_of (by rw [Eh40]; rfl) _ _) ?_
  refine app_e (y := 22) (by rw [Eh40]; rfl) ?_
  refine bnd2_e (a := ()) (c := E41 L xs) rfl ?_
  refine chk_e (beq_t (by unfold mK; rw [Eh41]; rfl)) ?_
  refine chk_e (beq_t (by unfold mK; rw [Eh41]; rfl)) ?_
  refine chk_e (by have h9 : mN (E41 L xs) 8 = 9 := (by unfold mN; rw [Eh41]; rfl); rw [h9]; decide) ?_
  refine app_e (y := E42 L xs) rfl ?_
  refine chk_e (beq_t (by unfold mK; rw [Eh42]; rfl)) ?_
  refine bnd_e (a := 7) (by rfl) ?_
  refine app_e (y := E43 L xs) (mAt_of (by rw [Eh42]; rfl) _ _) ?_
  refine app_e (y := 23) (by rw [Eh42]; rfl) ?_
  refine bnd2_e (a := ()) (c := E43 L xs) rfl ?_
  refine chk_e (beq_t (by unfold mK; rw [Eh43]; rfl)) ?_
  refine chk_e (beq_t (by unfold mK; rw [Eh43]; rfl)) ?_
  refine chk_e (by have h9 : mN (E43 L xs) 7 = 9 := (by unfold mN; rw [Eh43]; rfl); rw [h9]; decide) ?_
  refine app_e (y := E44 L xs) rfl ?_
  refine chk_e (beq_t (by unfold mK; rw [Eh44]; rfl)) ?_
  refine bnd_e (a := 8) (by rfl) ?_
  refine app_e (y := E45 L xs) (mAt_of (by rw [Eh44]; rfl) _ _) ?_
  refine app_e (y := 24) (by rw [Eh44]; rfl) ?_
  refine bnd2_e (a := ()) (c := E45 L xs) rfl ?_
  refine chk_e (beq_t (by unfold mK; rw [Eh45]; rfl)) ?_
  refine chk_e (beq_t (by unfold mK; rw [Eh45]; rfl)) ?_
  refine chk_e (by have h9 : mN (E45 L xs) 8 = 9 := (by unfold mN; rw [Eh45]; rfl); rw [h9]; decide) ?_
  refine app_e (y := E46 L xs) rfl ?_
  refine chk_e (beq_t (by unfold mK; rw [Eh46]; rfl)) ?_
  refine bnd_e (a := 7) (by rfl) ?_
  refine app_e (y := E47 L xs) (mAt_of (by rw [Eh46]; rfl) _ _) ?_
  refine app_e (y := 25) (by rw [Eh46]; rfl) ?_
  refine bnd2_e (a := ()) (c := E47 L xs) rfl ?_
  refine chk_e (beq_t (by unfold mK; rw [Eh47]; rfl)) ?_
  refine chk_e (beq_t (by unfold mK; rw [Eh47]; rfl)) ?_
  refine chk_e (by have h9 : mN (E47 L xs) 7 = 9 := (by unfold mN; rw [Eh47]; rfl); rw [h9]; decide) ?_
  refine app_e (y := E48 L xs) rfl ?_
  refine chk_e (beq_t (by unfold mK; rw [Eh48]; rfl)) ?_
  refine bnd_e (a := 8) (by rfl) ?_
  refine app_e (y := E49 L xs) (mAt_of (by rw [Eh48]; rfl) _ _) ?_
  refine app_e (y := 26) (by rw [Eh48]; rfl) ?_
  refine bnd2_e (a := ()) (c := E49 L xs) rfl ?_
  refine chk_e (beq_t (by unfold mK; rw [Eh49]; rfl)) ?_
  refine chk_e (beq_t (by unfold mK; rw [Eh49]; rfl)) ?_
  refine chk_e (by have h9 : mN (E49 L xs) 8 = 9 := (by unfold mN; rw [Eh49]; rfl); rw [h9]; decide) ?_
  refine app_e (y := E50 L xs) rfl ?_
  rfl
def E51 (L : Nat) (xs : Nat → Int32) : zM := wR (E50 L xs) 2 3 (some 4)
theorem Eh51 (L : Nat) (xs : Nat → Int32) : (E51 L xs).1 = (SH L).take 27 := by show (E50 L xs).1 = _; rw [Eh50]
set_option maxRecDepth 100000 in
theorem Ec2 (n L : Nat) (xs : Nat → Int32) : fX6_init n (E2 L xs) 2 = some ((), E51 L xs) := by
  unfold fX6_init
  refine chk_e (beq_t (by unfold mK; rw [Eh2]; rfl)) ?_
  refine app_e (y := E3 L xs) rfl ?_
  refine app_e (y := E4 L xs) (mAt_of (by rw [Eh3]; rfl) _ _) ?_
  refine app_e (y := 3) (by rw [Eh3]; rfl) ?_
  refine chk_e (beq_t (by unfold mK; rw [Eh4]; rfl)) ?_
  refine app_e (y := E5 L xs) rfl ?_
  refine app_e (y := E6 L xs) (mAt_of (by rw [Eh5]; rfl) _ _) ?_
  refine app_e (y := 4) (by rw [Eh5]; rfl) ?_
  refine bnd2_e (a := ()) (c := E50 L xs) (Ec1 _ L xs) ?_
  refine chk_e (beq_t (by unfold mK; rw [Eh50]; rfl)) ?_
  refine app_e (y := E51 L xs) rfl ?_
  rfl
def E52 (L : Nat) (xs : Nat → Int32) : zM := wR (E51 L xs) 1 0 (some 2)
theorem Eh52 (L : Nat) (xs : Nat → Int32) : (E52 L xs).1 = (SH L).take 27 := by show (E51 L xs).1 = _; rw [Eh51]
def E53 (L : Nat) (xs : Nat → Int32) : zM := mAt (E52 L xs) 27 8 0
theorem Eh53 (L : Nat) (xs : Nat → Int32) : (E53 L xs).1 = (SH L).take 28 := by show (E52 L xs).1 ++ _ = _; rw [Eh52]; rfl
def E54 (L : Nat) (xs : Nat → Int32) : zM := mAt (E53 L xs) 28 11 200
theorem Eh54 (L : Nat) (xs : Nat → Int32) : (E54 L xs).1 = (SH L).take 29 := by show (E53 L xs).1 ++ _ = _; rw [Eh53]; rfl
def E55 (L : Nat) (xs : Nat → Int32) : zM := wR (E54 L xs) 27 2 (some 28)
theorem Eh55 (L : Nat) (xs : Nat → Int32) : (E55 L xs).1 = (SH L).take 29 := by show (E54 L xs).1 = _; rw [Eh54]
def E56 (L : Nat) (xs : Nat → Int32) : zM := mAt (E55 L xs) 29 11 200
theorem Eh56 (L : Nat) (xs : Nat → Int32) : (E56 L xs).1 = (SH L).take 30 := by show (E55 L xs).1 ++ _ = _; rw [Eh55]; rfl
def E57 (L : Nat) (xs : Nat → Int32) : zM := wR (E56 L xs) 27 3 (some 29)
theorem Eh57 (L : Nat) (xs : Nat → Int32) : (E57 L xs).1 = (SH L).take 30 := by show (E56 L xs).1 = _; rw [Eh56]
def E58 (L : Nat) (xs : Nat → Int32) : zM := mAt (E57 L xs) 30 11 200
theorem Eh58 (L : Nat) (xs : Nat → Int32) : (E58 L xs).1 = (SH L).take 31 := by show (E57 L xs).1 ++ _ = _; rw [Eh57]; rfl
def E59 (L : Nat) (xs : Nat → Int32) : zM := wR (E58 L xs) 27 4 (some 30)
theorem Eh59 (L : Nat) (xs : Nat → Int32) : (E59 L xs).1 = (SH L).take 31 := by show (E58 L xs).1 = _; rw [Eh58]
set_option maxRecDepth 100000 in
theorem Ec3 (n L : Nat) (xs : Nat → Int32) : fX8_init n (E53 L xs) 27 = some ((), E59 L xs) := by
  unfold fX8_init
  refine app_e (y := E54 L xs) (mAt_of (by rw [Eh53]; rfl) _ _) ?_
  refine app_e (y := 28) (by rw [Eh53]; rfl) ?_
  refine chk_e (beq_t (by unfold mK; rw [Eh54]; rfl)) ?_
  refine app_e (y := E55 L xs) rfl ?_
  refine app_e (y := E56 L xs) (mAt_of (by rw [Eh55]; rfl) _ _) ?_
  refine app_e (y := 29) (by rw [Eh55]; rfl) ?_
  refine chk_e (beq_t (by unfold mK; rw [Eh56]; rfl)) ?_
  refine app_e (y := E57 L xs) rfl ?_
  refine app_e (y := E58 L xs) (mAt_of (by rw [Eh57]; rfl) _ _) ?_
  refine app_e (y := 30) (by rw [Eh57]; rfl) ?_
  refine chk_e (beq_t (by unfold mK; rw [Eh58]; rfl)) ?_
  refine app_e (y := E59 L xs) rfl ?_
  rfl
def E60 (L : Nat) (xs : Nat → Int32) : zM := wR (E59 L xs) 1 1 (some 27)
theorem Eh60 (L : Nat) (xs : Nat → Int32) : (E60 L xs).1 = (SH L).take 31 := by show (E59 L xs).1 = _; rw [Eh59]
def E61 (L : Nat) (xs : Nat → Int32) : zM := mAt (E60 L xs) 31 7 0
theorem Eh61 (L : Nat) (xs : Nat → Int32) : (E61 L xs).1 = (SH L).take 32 := by show (E60 L xs).1 ++ _ = _; rw [Eh60]; rfl
def E62 (L : Nat) (xs : Nat → Int32) : zM := mAt (E61 L xs) 32 12 300
theorem Eh62 (L : Nat) (xs : Nat → Int32) : (E62 L xs).1 = (SH L).take 33 := by show (E61 L xs).1 ++ _ = _; rw [Eh61]; rfl
def E63 (L : Nat) (xs : Nat → Int32) : zM := wR (E62 L xs) 31 1 (some 32)
theorem Eh63 (L : Nat) (xs : Nat → Int32) : (E63 L xs).1 = (SH L).take 33 := by show (E62 L xs).1 = _; rw [Eh62]
def E64 (L : Nat) (xs : Nat → Int32) : zM := mAt (E63 L xs) 33 11 300
theorem Eh64 (L : Nat) (xs : Nat → Int32) : (E64 L xs).1 = (SH L).take 34 := by show (E63 L xs).1 ++ _ = _; rw [Eh63]; rfl
def E65 (L : Nat) (xs : Nat → Int32) : zM := wR (E64 L xs) 31 2 (some 33)
theorem Eh65 (L : Nat) (xs : Nat → Int32) : (E65 L xs).1 = (SH L).take 34 := by show (E64 L xs).1 = _; rw [Eh64]
def E66 (L : Nat) (xs : Nat → Int32) : zM := mAt (E65 L xs) 34 11 1024
theorem Eh66 (L : Nat) (xs : Nat → Int32) : (E66 L xs).1 = (SH L).take 35 := by show (E65 L xs).1 ++ _ = _; rw [Eh65]; rfl
def E67 (L : Nat) (xs : Nat → Int32) : zM := wR (E66 L xs) 31 3 (some 34)
theorem Eh67 (L : Nat) (xs : Nat → Int32) : (E67 L xs).1 = (SH L).take 35 := by show (E66 L xs).1 = _; rw [Eh66]
set_option maxRecDepth 100000 in
theorem Ec4 (n L : Nat) (xs : Nat → Int32) : fX7_init n (E61 L xs) 31 = some ((), E67 L xs) := by
  unfold fX7_init
  refine app_e (y := E62 L xs) (mAt_of (by rw [Eh61]; rfl) _ _) ?_
  refine app_e (y := 32) (by rw [Eh61]; rfl) ?_
  refine chk_e (beq_t (by unfold mK; rw [Eh62]; rfl)) ?_
  refine app_e (y := E63 L xs) rfl ?_
  refine app_e (y := E64 L xs) (mAt_of (by rw [Eh63]; rfl) _ _) ?_
  refine app_e (y := 33) (by rw [Eh63]; rfl) ?_
  refine chk_e (beq_t (by unfold mK; rw [Eh64]; rfl)) ?_
  refine app_e (y := E65 L xs) rfl ?_
  refine app_e (y := E66 L xs) (mAt_of (by rw [Eh65]; rfl) _ _) ?_
  refine app_e (y := 34) (by rw [Eh65]; rfl) ?_
  refine chk_e (beq_t (by unfold mK; rw [Eh66]; rfl)) ?_
  refine app_e (y := E67 L xs) rfl ?_
  rfl
def E68 (L : Nat) (xs : Nat → Int32) : zM := wR (E67 L xs) 1 2 (some 31)
theorem Eh68 (L : Nat) (xs : Nat → Int32) : (E68 L xs).1 = (SH L).take 35 := by show (E67 L xs).1 = _; rw [Eh67]
def E69 (L : Nat) (xs : Nat → Int32) : zM := mAt (E68 L xs) 35 2 0
theorem Eh69 (L : Nat) (xs : Nat → Int32) : (E69 L xs).1 = (SH L).take 36 := by show (E68 L xs).1 ++ _ = _; rw [Eh68]; rfl
def E70 (L : Nat) (xs : Nat → Int32) : zM := mAt (E69 L xs) 36 11 300
theorem Eh70 (L : Nat) (xs : Nat → Int32) : (E70 L xs).1 = (SH L).take 37 := by show (E69 L xs).1 ++ _ = _; rw [Eh69]; rfl
def E71 (L : Nat) (xs : Nat → Int32) : zM := wR (E70 L xs) 35 0 (some 36)
theorem Eh71 (L : Nat) (xs : Nat → Int32) : (E71 L xs).1 = (SH L).take 37 := by show (E70 L xs).1 = _; rw [Eh70]
def E72 (L : Nat) (xs : Nat → Int32) : zM := mAt (E71 L xs) 37 11 300
theorem Eh72 (L : Nat) (xs : Nat → Int32) : (E72 L xs).1 = (SH L).take 38 := by show (E71 L xs).1 ++ _ = _; rw [Eh71]; rfl
def E73 (L : Nat) (xs : Nat → Int32) : zM := wR (E72 L xs) 35 1 (some 37)
theorem Eh73 (L : Nat) (xs : Nat → Int32) : (E73 L xs).1 = (SH L).take 38 := by show (E72 L xs).1 = _; rw [Eh72]
set_option maxRecDepth 100000 in
theorem Ec5 (n L : Nat) (xs : Nat → Int32) : fX2_init n (E69 L xs) 35 = some ((), E73 L xs) := by
  unfold fX2_init
  refine app_e (y := E70 L xs) (mAt_of (by rw [Eh69]; rfl) _ _) ?_
  refine app_e (y := 36) (by rw [Eh69]; rfl) ?_
  refine chk_e (beq_t (by unfold mK; rw [Eh70]; rfl)) ?_
  refine app_e (y := E71 L xs) rfl ?_
  refine app_e (y := E72 L xs) (mAt_of (by rw [Eh71]; rfl) _ _) ?_
  refine app_e (y := 37) (by rw [Eh71]; rfl) ?_
  refine chk_e (beq_t (by unfold mK; rw [Eh72]; rfl)) ?_
  refine app_e (y := E73 L xs) rfl ?_
  rfl
def E74 (L : Nat) (xs : Nat → Int32) : zM := wR (E73 L xs) 1 3 (some 35)
theorem Eh74 (L : Nat) (xs : Nat → Int32) : (E74 L xs).1 = (SH L).take 38 := by show (E73 L xs).1 = _; rw [Eh73]
def E75 (L : Nat) (xs : Nat → Int32) : zM := mAt (E74 L xs) 38 1 0
theorem Eh75 (L : Nat) (xs : Nat → Int32) : (E75 L xs).1 = (SH L).take 39 := by show (E74 L xs).1 ++ _ = _; rw [Eh74]; rfl
def E76 (L : Nat) (xs : Nat → Int32) : zM := mAt (E75 L xs) 39 11 600
theorem Eh76 (L : Nat) (xs : Nat → Int32) : (E76 L xs).1 = (SH L).take 40 := by show (E75 L xs).1 ++ _ = _; rw [Eh75]; rfl
def E77 (L : Nat) (xs : Nat → Int32) : zM := wR (E76 L xs) 38 1 (some 39)
theorem Eh77 (L : Nat) (xs : Nat → Int32) : (E77 L xs).1 = (SH L).take 40 := by show (E76 L xs).1 = _; rw [Eh76]
def E78 (L : Nat) (xs : Nat → Int32) : zM := mAt (E77 L xs) 40 11 600
theorem Eh78 (L : Nat) (xs : Nat → Int32) : (E78 L xs).1 = (SH L).take 41 := by show (E77 L xs).1 ++ _ = _; rw [Eh77]; rfl
def E79 (L : Nat) (xs : Nat → Int32) : zM := wR (E78 L xs) 38 2 (some 40)
theorem Eh79 (L : Nat) (xs : Nat → Int32) : (E79 L xs).1 = (SH L).take 41 := by show (E78 L xs).1 = _; rw [Eh78]
def E80 (L : Nat) (xs : Nat → Int32) : zM := mAt (E79 L xs) 41 11 600
theorem Eh80 (L : Nat) (xs : Nat → Int32) : (E80 L xs).1 = (SH L).take 42 := by show (E79 L xs).1 ++ _ = _; rw [Eh79]; rfl
def E81 (L : Nat) (xs : Nat → Int32) : zM := wR (E80 L xs) 38 4 (some 41)
theorem Eh81 (L : Nat) (xs : Nat → Int32) : (E81 L xs).1 = (SH L).take 42 := by show (E80 L xs).1 = _; rw [Eh80]
def E82 (L : Nat) (xs : Nat → Int32) : zM := mAt (E81 L xs) 42 11 600
theorem Eh82 (L : Nat) (xs : Nat → Int32) : (E82 L xs).1 = (SH L).take 43 := by show (E81 L xs).1 ++ _ = _; rw [Eh81]; rfl
def E83 (L : Nat) (xs : Nat → Int32) : zM := wR (E82 L xs) 38 5 (some 42)
theorem Eh83 (L : Nat) (xs : Nat → Int32) : (E83 L xs).1 = (SH L).take 43 := by show (E82 L xs).1 = _; rw [Eh82]
def E84 (L : Nat) (xs : Nat → Int32) : zM := mAt (E83 L xs) 43 11 600
theorem Eh84 (L : Nat) (xs : Nat → Int32) : (E84 L xs).1 = (SH L).take 44 := by show (E83 L xs).1 ++ _ = _; rw [Eh83]; rfl
def E85 (L : Nat) (xs : Nat → Int32) : zM := wR (E84 L xs) 38 6 (some 43)
theorem Eh85 (L : Nat) (xs : Nat → Int32) : (E85 L xs).1 = (SH L).take 44 := by show (E84 L xs).1 = _; rw [Eh84]
def E86 (L : Nat) (xs : Nat → Int32) : zM := mAt (E85 L xs) 44 11 600
theorem Eh86 (L : Nat) (xs : Nat → Int32) : (E86 L xs).1 = (SH L).take 45 := by show (E85 L xs).1 ++ _ = _; rw [Eh85]; rfl
def E87 (L : Nat) (xs : Nat → Int32) : zM := wR (E86 L xs) 38 7 (some 44)
theorem Eh87 (L : Nat) (xs : Nat → Int32) : (E87 L xs).1 = (SH L).take 45 := by show (E86 L xs).1 = _; rw [Eh86]
def E88 (L : Nat) (xs : Nat → Int32) : zM := mAt (E87 L xs) 45 11 600
theorem Eh88 (L : Nat) (xs : Nat → Int32) : (E88 L xs).1 = (SH L).take 46 := by show (E87 L xs).1 ++ _ = _; rw [Eh87]; rfl
def E89 (L : Nat) (xs : Nat → Int32) : zM := wR (E88 L xs) 38 8 (some 45)
theorem Eh89 (L : Nat) (xs : Nat → Int32) : (E89 L xs).1 = (SH L).take 46 := by show (E88 L xs).1 = _; rw [Eh88]
set_option maxRecDepth 100000 in
theorem Ec6 (n L : Nat) (xs : Nat → Int32) : fX1_init n (E75 L xs) 38 = some ((), E89 L xs) := by
  unfold fX1_init
  refine app_e (y := E76 L xs) (mAt_of (by rw [Eh75]; rfl) _ _) ?_
  refine app_e (y := 39) (by rw [Eh75]; rfl) ?_
  refine chk_e (beq_t (by unfold mK; rw [Eh76]; rfl)) ?_
  refine app_e (y := E77 L xs) rfl ?_
  refine app_e (y := E78 L xs) (mAt_of (by rw [Eh77]; rfl) _ _) ?_
  refine app_e (y := 40) (by rw [Eh77]; rfl) ?_
  refine chk_e (beq_t (by unfold mK; rw [Eh78]; rfl)) ?_
  refine app_e (y := E79 L xs) rfl ?_
  refine app_e (y := E80 L xs) (mAt_of (by rw [Eh79]; rfl) _ _) ?_
  refine app_e (y := 41) (by rw [Eh79]; rfl) ?_
  refine chk_e (beq_t (by unfold mK; rw [Eh80]; rfl)) ?_
  refine app_e (y := E81 L xs) rfl ?_
  refine app_e (y := E82 L xs) (mAt_of (by rw [Eh81]; rfl) _ _) ?_
  refine app_e (y := 42) (by rw [Eh81]; rfl) ?_
  refine chk_e (beq_t (by unfold mK; rw [Eh82]; rfl)) ?_
  refine app_e (y := E83 L xs) rfl ?_
  refine app_e (y := E84 L xs) (mAt_of (by rw [Eh83]; rfl) _ _) ?_
  refine app_e (y := 43) (by rw [Eh83]; rfl) ?_
  refine chk_e (beq_t (by unfold mK; rw [Eh84]; rfl)) ?_
  refine app_e (y := E85 L xs) rfl ?_
  refine app_e (y := E86 L xs) (mAt_of (by rw [Eh85]; rfl) _ _) ?_
  refine app_e (y := 44) (by rw [Eh85]; rfl) ?_
  refine chk_e (beq_t (by unfold mK; rw [Eh86]; rfl)) ?_
  refine app_e (y := E87 L xs) rfl ?_
  refine app_e (y := E88 L xs) (mAt_of (by rw [Eh87]; rfl) _ _) ?_
  refine app_e (y := 45) (by rw [Eh87]; rfl) ?_
  refine chk_e (beq_t (by unfold mK; rw [Eh88]; rfl)) ?_
  refine app_e (y := E89 L xs) rfl ?_
  rfl
def E90 (L : Nat) (xs : Nat → Int32) : zM := wR (E89 L xs) 1 4 (some 38)
theorem Eh90 (L : Nat) (xs : Nat → Int32) : (E90 L xs).1 = (SH L).take 46 := by show (E89 L xs).1 = _; rw [Eh89]
def E91 (L : Nat) (xs : Nat → Int32) : zM := mAt (E90 L xs) 46 14 3
theorem Eh91 (L : Nat) (xs : Nat → Int32) : (E91 L xs).1 = (SH L).take 47 := by show (E90 L xs).1 ++ _ = _; rw [Eh90]; rfl
def E92 (L : Nat) (xs : Nat → Int32) : zM := mAt (E91 L xs) 47 4 0
theorem Eh92 (L : Nat) (xs : Nat → Int32) : (E92 L xs).1 = (SH L).take 48 := by show (E91 L xs).1 ++ _ = _; rw [Eh91]; rfl
def E93 (L : Nat) (xs : Nat → Int32) : zM := mAt (E92 L xs) 48 12 60
theorem Eh93 (L : Nat) (xs : Nat → Int32) : (E93 L xs).1 = (SH L).take 49 := by show (E92 L xs).1 ++ _ = _; rw [Eh92]; rfl
def E94 (L : Nat) (xs : Nat → Int32) : zM := wR (E93 L xs) 47 4 (some 48)
theorem Eh94 (L : Nat) (xs : Nat → Int32) : (E94 L xs).1 = (SH L).take 49 := by show (E93 L xs).1 = _; rw [Eh93]
def E95 (L : Nat) (xs : Nat → Int32) : zM := mAt (E94 L xs) 49 12 60
theorem Eh95 (L : Nat) (xs : Nat → Int32) : (E95 L xs).1 = (SH L).take 50 := by show (E94 L xs).1 ++ _ = _; rw [Eh94]; rfl
def E96 (L : Nat) (xs : Nat → Int32) : zM := wR (E95 L xs) 47 5 (some 49)
theorem Eh96 (L : Nat) (xs : Nat → Int32) : (E96 L xs).1 = (SH L).take 50 := by show (E95 L xs).1 = _; rw [Eh95]
def E97 (L : Nat) (xs : Nat → Int32) : zM := mAt (E96 L xs) 50 12 36
theorem Eh97 (L : Nat) (xs : Nat → Int32) : (E97 L xs).1 = (SH L).take 51 := by show (E96 L xs).1 ++ _ = _; rw [Eh96]; rfl
def E98 (L : Nat) (xs : Nat → Int32) : zM := wR (E97 L xs) 47 6 (some 50)
theorem Eh98 (L : Nat) (xs : Nat → Int32) : (E98 L xs).1 = (SH L).take 51 := by show (E97 L xs).1 = _; rw [Eh97]
def E99 (L : Nat) (xs : Nat → Int32) : zM := mAt (E98 L xs) 51 0 0
theorem Eh99 (L : Nat) (xs : Nat → Int32) : (E99 L xs).1 = (SH L).take 52 := by show (E98 L xs).1 ++ _ = _; rw [Eh98]; rfl
def E100 (L : Nat) (xs : Nat → Int32) : zM := mAt (E99 L xs) 52 13 300
theorem Eh100 (L : Nat) (xs : Nat → Int32) : (E100 L xs).1 = (SH L).take 53 := by show (E99 L xs).1 ++ _ = _; rw [Eh99]; rfl
def E101 (L : Nat) (xs : Nat → Int32) : zM := wR (E100 L xs) 51 4 (some 52)
theorem Eh101 (L : Nat) (xs : Nat → Int32) : (E101 L xs).1 = (SH L).take 53 := by show (E100 L xs).1 = _; rw [Eh100]
def E102 (L : Nat) (xs : Nat → Int32) : zM := mAt (E101 L xs) 53 11 10800
theorem Eh102 (L : Nat) (xs : Nat → Int32) : (E102 L xs).1 = (SH L).take 54 := by show (E101 L xs).1 ++ _ = _; rw [Eh101]; rfl
def E103 (L : Nat) (xs : Nat → Int32) : zM := wR (E102 L xs) 51 5 (some 53)
theorem Eh103 (L : Nat) (xs : Nat → Int32) : (E103 L xs).1 = (SH L).take 54 := by show (E102 L xs).1 = _; rw [Eh102]
set_option maxRecDepth 100000 in
theorem Ec7 (n L : Nat) (xs : Nat → Int32) : fX0_init n (E99 L xs) 51 = some ((), E103 L xs) := by
  unfold fX0_init
  refine app_e (y := E100 L xs) (mAt_of (by rw [Eh99]; rfl) _ _) ?_
  refine app_e (y := 52) (by rw [Eh99]; rfl) ?_
  refine chk_e (beq_t (by unfold mK; rw [Eh100]; rfl)) ?_
  refine app_e (y := E101 L xs) rfl ?_
  refine app_e (y := E102 L xs) (mAt_of (by rw [Eh101]; rfl) _ _) ?_
  refine app_e (y := 53) (by rw [Eh101]; rfl) ?_
  refine chk_e (beq_t (by unfold mK; rw [Eh102]; rfl)) ?_
  refine app_e (y := E103 L xs) rfl ?_
  rfl
def E104 (L : Nat) (xs : Nat → Int32) : zM := wR (E103 L xs) 47 7 (some 51)
theorem Eh104 (L : Nat) (xs : Nat → Int32) : (E104 L xs).1 = (SH L).take 54 := by show (E103 L xs).1 = _; rw [Eh103]
set_option maxRecDepth 100000 in
theorem Ec8 (n L : Nat) (xs : Nat → Int32) : fX4_init n (E92 L xs) 47 = some ((), E104 L xs) := by
  unfold fX4_init
  refine app_e (y := E93 L xs) (mAt_of (by rw [Eh92]; rfl) _ _) ?_
  refine app_e (y := 48) (by rw [Eh92]; rfl) ?_
  refine chk_e (beq_t (by unfold mK; rw [Eh93]; rfl)) ?_
  refine app_e (y := E94 L xs) rfl ?_
  refine app_e (y := E95 L xs) (mAt_of (by rw [Eh94]; rfl) _ _) ?_
  refine app_e (y := 49) (by rw [Eh94]; rfl) ?_
  refine chk_e (beq_t (by unfold mK; rw [Eh95]; rfl)) ?_
  refine app_e (y := E96 L xs) rfl ?_
  refine app_e (y := E97 L xs) (mAt_of (by rw [Eh96]; rfl) _ _) ?_
  refine app_e (y := 50) (by rw [Eh96]; rfl) ?_
  refine chk_e (beq_t (by unfold mK; rw [Eh97]; rfl)) ?_
  refine app_e (y := E98 L xs) rfl ?_
  refine app_e (y := E99 L xs) (mAt_of (by rw [Eh98]; rfl) _ _) ?_
  refine app_e (y := 51) (by rw [Eh98]; rfl) ?_
  refine bnd2_e (a := ()) (c := E103 L xs) (Ec7 _ L xs) ?_
  refine chk_e (beq_t (by unfold mK; rw [Eh103]; rfl)) ?_
  refine app_e (y := E104 L xs) rfl ?_
  rfl
def E105 (L : Nat) (xs : Nat → Int32) : zM := wR (E104 L xs) 46 0 (some 47)
theorem Eh105 (L : Nat) (xs : Nat → Int32) : (E105 L xs).1 = (SH L).take 54 := by show (E104 L xs).1 = _; rw [Eh104]
def E106 (L : Nat) (xs : Nat → Int32) : zM := mAt (E105 L xs) 54 4 0
theorem Eh106 (L : Nat) (xs : Nat → Int32) : (E106 L xs).1 = (SH L).take 55 := by show (E105 L xs).1 ++ _ = _; rw [Eh105]; rfl
def E107 (L : Nat) (xs : Nat → Int32) : zM := mAt (E106 L xs) 55 12 60
theorem Eh107 (L : Nat) (xs : Nat → Int32) : (E107 L xs).1 = (SH L).take 56 := by show (E106 L xs).1 ++ _ = _; rw [Eh106]; rfl
def E108 (L : Nat) (xs : Nat → Int32) : zM := wR (E107 L xs) 54 4 (some 55)
theorem Eh108 (L : Nat) (xs : Nat → Int32) : (E108 L xs).1 = (SH L).take 56 := by show (E107 L xs).1 = _; rw [Eh107]
def E109 (L : Nat) (xs : Nat → Int32) : zM := mAt (E108 L xs) 56 12 60
theorem Eh109 (L : Nat) (xs : Nat → Int32) : (E109 L xs).1 = (SH L).take 57 := by show (E108 L xs).1 ++ _ = _; rw [Eh108]; rfl
def E110 (L : Nat) (xs : Nat → Int32) : zM := wR (E109 L xs) 54 5 (some 56)
theorem Eh110 (L : Nat) (xs : Nat → Int32) : (E110 L xs).1 = (SH L).take 57 := by show (E109 L xs).1 = _; rw [Eh109]
def E111 (L : Nat) (xs : Nat → Int32) : zM := mAt (E110 L xs) 57 12 36
theorem Eh111 (L : Nat) (xs : Nat → Int32) : (E111 L xs).1 = (SH L).take 58 := by show (E110 L xs).1 ++ _ = _; rw [Eh110]; rfl
def E112 (L : Nat) (xs : Nat → Int32) : zM := wR (E111 L xs) 54 6 (some 57)
theorem Eh112 (L : Nat) (xs : Nat → Int32) : (E112 L xs).1 = (SH L).take 58 := by show (E111 L xs).1 = _; rw [Eh111]
def E113 (L : Nat) (xs : Nat → Int32) : zM := mAt (E112 L xs) 58 0 0
theorem Eh113 (L : Nat) (xs : Nat → Int32) : (E113 L xs).1 = (SH L).take 59 := by show (E112 L xs).1 ++ _ = _; rw [Eh112]; rfl
def E114 (L : Nat) (xs : Nat → Int32) : zM := mAt (E113 L xs) 59 13 300
theorem Eh114 (L : Nat) (xs : Nat → Int32) : (E114 L xs).1 = (SH L).take 60 := by show (E113 L xs).1 ++ _ = _; rw [Eh113]; rfl
def E115 (L : Nat) (xs : Nat → Int32) : zM := wR (E114 L xs) 58 4 (some 59)
theorem Eh115 (L : Nat) (xs : Nat → Int32) : (E115 L xs).1 = (SH L).take 60 := by show (E114 L xs).1 = _; rw [Eh114]
def E116 (L : Nat) (xs : Nat → Int32) : zM := mAt (E115 L xs) 60 11 10800
theorem Eh116 (L : Nat) (xs : Nat → Int32) : (E116 L xs).1 = (SH L).take 61 := by show (E115 L xs).1 ++ _ = _; rw [Eh115]; rfl
def E117 (L : Nat) (xs : Nat → Int32) : zM := wR (E116 L xs) 58 5 (some 60)
theorem Eh117 (L : Nat) (xs : Nat → Int32) : (E117 L xs).1 = (SH L).take 61 := by show (E116 L xs).1 = _; rw [Eh116]
set_option maxRecDepth 100000 in
theorem Ec9 (n L : Nat) (xs : Nat → Int32) : fX0_init n (E113 L xs) 58 = some ((), E117 L xs) := by
  unfold fX0_init
  refine app_e (y := E114 L xs) (mAt_of (by rw [Eh113]; rfl) _ _) ?_
  refine app_e (y := 59) (by rw [Eh113]; rfl) ?_
  refine chk_e (beq_t (by unfold mK; rw [Eh114]; rfl)) ?_
  refine app_e (y := E115 L xs) rfl ?_
  refine app_e (y := E116 L xs) (mAt_of (by rw [Eh115]; rfl) _ _) ?_
  refine app_e (y := 60) (by rw [Eh115]; rfl) ?_
  refine chk_e (beq_t (by unfold mK; rw [Eh116]; rfl)) ?_
  refine app_e (y := E117 L xs) rfl ?_
  rfl
def E118 (L : Nat) (xs : Nat → Int32) : zM := wR (E117 L xs) 54 7 (some 58)
theorem Eh118 (L : Nat) (xs : Nat → Int32) : (E118 L xs).1 = (SH L).take 61 := by show (E117 L xs).1 = _; rw [Eh117]
set_option maxRecDepth 100000 in
theorem Ec10 (n L : Nat) (xs : Nat → Int32) : fX4_init n (E106 L xs) 54 = some ((), E118 L xs) := by
  unfold fX4_init
  refine app_e (y := E107 L xs) (mAt_of (by rw [Eh106]; rfl) _ _) ?_
  refine app_e (y := 55) (by rw [Eh106]; rfl) ?_
  refine chk_e (beq_t (by unfold mK; rw [Eh107]; rfl)) ?_
  refine app_e (y := E108 L xs) rfl ?_
  refine app_e (y := E109 L xs) (mAt_of (by rw [Eh108]; rfl) _ _) ?_
  refine app_e (y := 56) (by rw [Eh108]; rfl) ?_
  refine chk_e (beq_t (by unfold mK; rw [Eh109]; rfl)) ?_
  refine app_e (y := E110 L xs) rfl ?_
  refine app_e (y := E111 L xs) (mAt_of (by rw [Eh110]; rfl) _ _) ?_
  refine app_e (y := 57) (by rw [Eh110]; rfl) ?_
  refine chk_e (beq_t (by unfold mK; rw [Eh111]; rfl)) ?_
  refine app_e (y := E112 L xs) rfl ?_
  refine app_e (y := E113 L xs) (mAt_of (by rw [Eh112]; rfl) _ _) ?_
  refine app_e (y := 58) (by rw [Eh112]; rfl) ?_
  refine bnd2_e (a := ()) (c := E117 L xs) (Ec9 _ L xs) ?_
  refine chk_e (beq_t (by unfold mK; rw [Eh117]; rfl)) ?_
  refine app_e (y := E118 L xs) rfl ?_
  rfl
def E119 (L : Nat) (xs : Nat → Int32) : zM := wR (E118 L xs) 46 1 (some 54)
theorem Eh119 (L : Nat) (xs : Nat → Int32) : (E119 L xs).1 = (SH L).take 61 := by show (E118 L xs).1 = _; rw [Eh118]
def E120 (L : Nat) (xs : Nat → Int32) : zM := mAt (E119 L xs) 61 4 0
theorem Eh120 (L : Nat) (xs : Nat → Int32) : (E120 L xs).1 = (SH L).take 62 := by show (E119 L xs).1 ++ _ = _; rw [Eh119]; rfl
def E121 (L : Nat) (xs : Nat → Int32) : zM := mAt (E120 L xs) 62 12 60
theorem Eh121 (L : Nat) (xs : Nat → Int32) : (E121 L xs).1 = (SH L).take 63 := by show (E120 L xs).1 ++ _ = _; rw [Eh120]; rfl
def E122 (L : Nat) (xs : Nat → Int32) : zM := wR (E121 L xs) 61 4 (some 62)
theorem Eh122 (L : Nat) (xs : Nat → Int32) : (E122 L xs).1 = (SH L).take 63 := by show (E121 L xs).1 = _; rw [Eh121]
def E123 (L : Nat) (xs : Nat → Int32) : zM := mAt (E122 L xs) 63 12 60
theorem Eh123 (L : Nat) (xs : Nat → Int32) : (E123 L xs).1 = (SH L).take 64 := by show (E122 L xs).1 ++ _ = _; rw [Eh122]; rfl
def E124 (L : Nat) (xs : Nat → Int32) : zM := wR (E123 L xs) 61 5 (some 63)
theorem Eh124 (L : Nat) (xs : Nat → Int32) : (E124 L xs).1 = (SH L).take 64 := by show (E123 L xs).1 = _; rw [Eh123]
def E125 (L : Nat) (xs : Nat → Int32) : zM := mAt (E124 L xs) 64 12 36
theorem Eh125 (L : Nat) (xs : Nat → Int32) : (E125 L xs).1 = (SH L).take 65 := by show (E124 L xs).1 ++ _ = _; rw [Eh124]; rfl
def E126 (L : Nat) (xs : Nat → Int32) : zM := wR (E125 L xs) 61 6 (some 64)
theorem Eh126 (L : Nat) (xs : Nat → Int32) : (E126 L xs).1 = (SH L).take 65 := by show (E125 L xs).1 = _; rw [Eh125]
def E127 (L : Nat) (xs : Nat → Int32) : zM := mAt (E126 L xs) 65 0 0
theorem Eh127 (L : Nat) (xs : Nat → Int32) : (E127 L xs).1 = (SH L).take 66 := by show (E126 L xs).1 ++ _ = _; rw [Eh126]; rfl
def E128 (L : Nat) (xs : Nat → Int32) : zM := mAt (E127 L xs) 66 13 300
theorem Eh128 (L : Nat) (xs : Nat → Int32) : (E128 L xs).1 = (SH L).take 67 := by show (E127 L xs).1 ++ _ = _; rw [Eh127]; rfl
def E129 (L : Nat) (xs : Nat → Int32) : zM := wR (E128 L xs) 65 4 (some 66)
theorem Eh129 (L : Nat) (xs : Nat → Int32) : (E129 L xs).1 = (SH L).take 67 := by show (E128 L xs).1 = _; rw [Eh128]
def E130 (L : Nat) (xs : Nat → Int32) : zM := mAt (E129 L xs) 67 11 10800
theorem Eh130 (L : Nat) (xs : Nat → Int32) : (E130 L xs).1 = (SH L).take 68 := by show (E129 L xs).1 ++ _ = _; rw [Eh129]; rfl
def E131 (L : Nat) (xs : Nat → Int32) : zM := wR (E130 L xs) 65 5 (some 67)
theorem Eh131 (L : Nat) (xs : Nat → Int32) : (E131 L xs).1 = (SH L).take 68 := by show (E130 L xs).1 = _; rw [Eh130]
set_option maxRecDepth 100000 in
theorem Ec11 (n L : Nat) (xs : Nat → Int32) : fX0_init n (E127 L xs) 65 = some ((), E131 L xs) := by
  unfold fX0_init
  refine app_e (y := E128 L xs) (mAt_of (by rw [Eh127]; rfl) _ _) ?_
  refine app_e (y := 66) (by rw [Eh127]; rfl) ?_
  refine chk_e (beq_t (by unfold mK; rw [Eh128]; rfl)) ?_
  refine app_e (y := E129 L xs) rfl ?_
  refine app_e (y := E130 L xs) (mAt_of (by rw [Eh129]; rfl) _ _) ?_
  refine app_e (y := 67) (by rw [Eh129]; rfl) ?_
  refine chk_e (beq_t (by unfold mK; rw [Eh130]; rfl)) ?_
  refine app_e (y := E131 L xs) rfl ?_
  rfl
def E132 (L : Nat) (xs : Nat → Int32) : zM := wR (E131 L xs) 61 7 (some 65)
theorem Eh132 (L : Nat) (xs : Nat → Int32) : (E132 L xs).1 = (SH L).take 68 := by show (E131 L xs).1 = _; rw [Eh131]
set_option maxRecDepth 100000 in
theorem Ec12 (n L : Nat) (xs : Nat → Int32) : fX4_init n (E120 L xs) 61 = some ((), E132 L xs) := by
  unfold fX4_init
  refine app_e (y := E121 L xs) (mAt_of (by rw [Eh120]; rfl) _ _) ?_
  refine app_e (y := 62) (by rw [Eh120]; rfl) ?_
  refine chk_e (beq_t (by unfold mK; rw [Eh121]; rfl)) ?_
  refine app_e (y := E122 L xs) rfl ?_
  refine app_e (y := E123 L xs) (mAt_of (by rw [Eh122]; rfl) _ _) ?_
  refine app_e (y := 63) (by rw [Eh122]; rfl) ?_
  refine chk_e (beq_t (by unfold mK; rw [Eh123]; rfl)) ?_
  refine app_e (y := E124 L xs) rfl ?_
  refine app_e (y := E125 L xs) (mAt_of (by rw [Eh124]; rfl) _ _) ?_
  refine app_e (y := 64) (by rw [Eh124]; rfl) ?_
  refine chk_e (beq_t (by unfold mK; rw [Eh125]; rfl)) ?_
  refine app_e (y := E126 L xs) rfl ?_
  refine app_e (y := E127 L xs) (mAt_of (by rw [Eh126]; rfl) _ _) ?_
  refine app_e (y := 65) (by rw [Eh126]; rfl) ?_
  refine bnd2_e (a := ()) (c := E131 L xs) (Ec11 _ L xs) ?_
  refine chk_e (beq_t (by unfold mK; rw [Eh131]; rfl)) ?_
  refine app_e (y := E132 L xs) rfl ?_
  rfl
def E133 (L : Nat) (xs : Nat → Int32) : zM := wR (E132 L xs) 46 2 (some 61)
theorem Eh133 (L : Nat) (xs : Nat → Int32) : (E133 L xs).1 = (SH L).take 68 := by show (E132 L xs).1 = _; rw [Eh132]
def E134 (L : Nat) (xs : Nat → Int32) : zM := wR (E133 L xs) 1 5 (some 46)
theorem Eh134 (L : Nat) (xs : Nat → Int32) : (E134 L xs).1 = (SH L).take 68 := by show (E133 L xs).1 = _; rw [Eh133]
set_option maxRecDepth 100000 in
theorem Ec13 (n L : Nat) (xs : Nat → Int32) : fX9_init n (E1 L xs) 1 = some ((), E134 L xs) := by
  unfold fX9_init
  refine app_e (y := E2 L xs) (mAt_of (by rw [Eh1]; rfl) _ _) ?_
  refine app_e (y := 2) (by rw [Eh1]; rfl) ?_
  refine bnd2_e (a := ()) (c := E51 L xs) (Ec2 _ L xs) ?_
  refine chk_e (beq_t (by unfold mK; rw [Eh51]; rfl)) ?_
  refine app_e (y := E52 L xs) rfl ?_
  refine app_e (y := E53 L xs) (mAt_of (by rw [Eh52]; rfl) _ _) ?_
  refine app_e (y := 27) (by rw [Eh52]; rfl) ?_
  refine bnd2_e (a := ()) (c := E59 L xs) (Ec3 _ L xs) ?_
  refine chk_e (beq_t (by unfold mK; rw [Eh59]; rfl)) ?_
  refine app_e (y := E60 L xs) rfl ?_
  refine app_e (y := E61 L xs) (mAt_of (by rw [Eh60]; rfl) _ _) ?_
  refine app_e (y := 31) (by rw [Eh60]; rfl) ?_
  refine bnd2_e (a := ()) (c := E67 L xs) (Ec4 _ L xs) ?_
  refine chk_e (beq_t (by unfold mK; rw [Eh67]; rfl)) ?_
  refine app_e (y := E68 L xs) rfl ?_
  refine app_e (y := E69 L xs) (mAt_of (by rw [Eh68]; rfl) _ _) ?_
  refine app_e (y := 35) (by rw [Eh68]; rfl) ?_
  refine bnd2_e (a := ()) (c := E73 L xs) (Ec5 _ L xs) ?_
  refine chk_e (beq_t (by unfold mK; rw [Eh73]; rfl)) ?_
  refine app_e (y := E74 L xs) rfl ?_
  refine app_e (y := E75 L xs) (mAt_of (by rw [Eh74]; rfl) _ _) ?_
  refine app_e (y := 38) (by rw [Eh74]; rfl) ?_
  refine bnd2_e (a := ()) (c := E89 L xs) (Ec6 _ L xs) ?_
  refine chk_e (beq_t (by unfold mK; rw [Eh89]; rfl)) ?_
  refine app_e (y := E90 L xs) rfl ?_
  refine app_e (y := E91 L xs) (mAt_of (by rw [Eh90]; rfl) _ _) ?_
  refine app_e (y := 46) (by rw [Eh90]; rfl) ?_
  refine app_e (y := E92 L xs) (mAt_of (by rw [Eh91]; rfl) _ _) ?_
  refine app_e (y := 47) (by rw [Eh91]; rfl) ?_
  refine bnd2_e (a := ()) (c := E104 L xs) (Ec8 _ L xs) ?_
  refine chk_e (beq_t (by unfold mK; rw [Eh104]; rfl)) ?_
  refine chk_e (beq_t (by unfold mK; rw [Eh104]; rfl)) ?_
  refine chk_e (by have h9 : mN (E104 L xs) 46 = 3 := (by unfold mN; rw [Eh104]; rfl); rw [h9]; decide) ?_
  refine app_e (y := E105 L xs) rfl ?_
  refine app_e (y := E106 L xs) (mAt_of (by rw [Eh105]; rfl) _ _) ?_
  refine app_e (y := 54) (by rw [Eh105]; rfl) ?_
  refine bnd2_e (a := ()) (c := E118 L xs) (Ec10 _ L xs) ?_
  refine chk_e (beq_t (by unfold mK; rw [Eh118]; rfl)) ?_
  refine chk_e (beq_t (by unfold mK; rw [Eh118]; rfl)) ?_
  refine chk_e (by have h9 : mN (E118 L xs) 46 = 3 := (by unfold mN; rw [Eh118]; rfl); rw [h9]; decide) ?_
  refine app_e (y := E119 L xs) rfl ?_
  refine app_e (y := E120 L xs) (mAt_of (by rw [Eh119]; rfl) _ _) ?_
  refine app_e (y := 61) (by rw [Eh119]; rfl) ?_
  refine bnd2_e (a := ()) (c := E132 L xs) (Ec12 _ L xs) ?_
  refine chk_e (beq_t (by unfold mK; rw [Eh132]; rfl)) ?_
  refine chk_e (beq_t (by unfold mK; rw [Eh132]; rfl)) ?_
  refine chk_e (by have h9 : mN (E132 L xs) 46 = 3 := (by unfold mN; rw [Eh132]; rfl); rw [h9]; decide) ?_
  refine app_e (y := E133 L xs) rfl ?_
  refine chk_e (beq_t (by unfold mK; rw [Eh133]; rfl)) ?_
  refine app_e (y := E134 L xs) rfl ?_
  rfl
def E135 (L : Nat) (xs : Nat → Int32) : zM := mAt (E134 L xs) 68 10 0
theorem Eh135 (L : Nat) (xs : Nat → Int32) : (E135 L xs).1 = (SH L).take 69 := by show (E134 L xs).1 ++ _ = _; rw [Eh134]; rfl
def E136 (L : Nat) (xs : Nat → Int32) : zM := mAt (E135 L xs) 69 11 200
theorem Eh136 (L : Nat) (xs : Nat → Int32) : (E136 L xs).1 = (SH L).take 70 := by show (E135 L xs).1 ++ _ = _; rw [Eh135]; rfl
def E137 (L : Nat) (xs : Nat → Int32) : zM := wR (E136 L xs) 68 1 (some 69)
theorem Eh137 (L : Nat) (xs : Nat → Int32) : (E137 L xs).1 = (SH L).take 70 := by show (E136 L xs).1 = _; rw [Eh136]
def E138 (L : Nat) (xs : Nat → Int32) : zM := mAt (E137 L xs) 70 11 200
theorem Eh138 (L : Nat) (xs : Nat → Int32) : (E138 L xs).1 = (SH L).take 71 := by show (E137 L xs).1 ++ _ = _; rw [Eh137]; rfl
def E139 (L : Nat) (xs : Nat → Int32) : zM := wR (E138 L xs) 68 3 (some 70)
theorem Eh139 (L : Nat) (xs : Nat → Int32) : (E139 L xs).1 = (SH L).take 71 := by show (E138 L xs).1 = _; rw [Eh138]
def E140 (L : Nat) (xs : Nat → Int32) : zM := wI (E139 L xs) 68 5 (-1 : Int32)
theorem Eh140 (L : Nat) (xs : Nat → Int32) : (E140 L xs).1 = (SH L).take 71 := by show (E139 L xs).1 = _; rw [Eh139]
def E141 (L : Nat) (xs : Nat → Int32) : zM := mAt (E140 L xs) 71 13 3
theorem Eh141 (L : Nat) (xs : Nat → Int32) : (E141 L xs).1 = (SH L).take 72 := by show (E140 L xs).1 ++ _ = _; rw [Eh140]; rfl
def E142 (L : Nat) (xs : Nat → Int32) : zM := wR (E141 L xs) 68 6 (some 71)
theorem Eh142 (L : Nat) (xs : Nat → Int32) : (E142 L xs).1 = (SH L).take 72 := by show (E141 L xs).1 = _; rw [Eh141]
def E143 (L : Nat) (xs : Nat → Int32) : zM := mAt (E142 L xs) 72 11 3
theorem Eh143 (L : Nat) (xs : Nat → Int32) : (E143 L xs).1 = (SH L).take 73 := by show (E142 L xs).1 ++ _ = _; rw [Eh142]; rfl
def E144 (L : Nat) (xs : Nat → Int32) : zM := wR (E143 L xs) 68 7 (some 72)
theorem Eh144 (L : Nat) (xs : Nat → Int32) : (E144 L xs).1 = (SH L).take 73 := by show (E143 L xs).1 = _; rw [Eh143]
def E145 (L : Nat) (xs : Nat → Int32) : zM := mAt (E144 L xs) 73 13 3
theorem Eh145 (L : Nat) (xs : Nat → Int32) : (E145 L xs).1 = (SH L).take 74 := by show (E144 L xs).1 ++ _ = _; rw [Eh144]; rfl
def E146 (L : Nat) (xs : Nat → Int32) : zM := wR (E145 L xs) 68 8 (some 73)
theorem Eh146 (L : Nat) (xs : Nat → Int32) : (E146 L xs).1 = (SH L).take 74 := by show (E145 L xs).1 = _; rw [Eh145]
def E147 (L : Nat) (xs : Nat → Int32) : zM := mAt (E146 L xs) 74 12 3
theorem Eh147 (L : Nat) (xs : Nat → Int32) : (E147 L xs).1 = (SH L).take 75 := by show (E146 L xs).1 ++ _ = _; rw [Eh146]; rfl
def E148 (L : Nat) (xs : Nat → Int32) : zM := wR (E147 L xs) 68 9 (some 74)
theorem Eh148 (L : Nat) (xs : Nat → Int32) : (E148 L xs).1 = (SH L).take 75 := by show (E147 L xs).1 = _; rw [Eh147]
def E149 (L : Nat) (xs : Nat → Int32) : zM := mAt (E148 L xs) 75 12 3
theorem Eh149 (L : Nat) (xs : Nat → Int32) : (E149 L xs).1 = (SH L).take 76 := by show (E148 L xs).1 ++ _ = _; rw [Eh148]; rfl
def E150 (L : Nat) (xs : Nat → Int32) : zM := wR (E149 L xs) 68 10 (some 75)
theorem Eh150 (L : Nat) (xs : Nat → Int32) : (E150 L xs).1 = (SH L).take 76 := by show (E149 L xs).1 = _; rw [Eh149]
def E151 (L : Nat) (xs : Nat → Int32) : zM := mAt (E150 L xs) 76 12 180
theorem Eh151 (L : Nat) (xs : Nat → Int32) : (E151 L xs).1 = (SH L).take 77 := by show (E150 L xs).1 ++ _ = _; rw [Eh150]; rfl
def E152 (L : Nat) (xs : Nat → Int32) : zM := wR (E151 L xs) 68 11 (some 76)
theorem Eh152 (L : Nat) (xs : Nat → Int32) : (E152 L xs).1 = (SH L).take 77 := by show (E151 L xs).1 = _; rw [Eh151]
def E153 (L : Nat) (xs : Nat → Int32) : zM := mAt (E152 L xs) 77 12 180
theorem Eh153 (L : Nat) (xs : Nat → Int32) : (E153 L xs).1 = (SH L).take 78 := by show (E152 L xs).1 ++ _ = _; rw [Eh152]; rfl
def E154 (L : Nat) (xs : Nat → Int32) : zM := wR (E153 L xs) 68 12 (some 77)
theorem Eh154 (L : Nat) (xs : Nat → Int32) : (E154 L xs).1 = (SH L).take 78 := by show (E153 L xs).1 = _; rw [Eh153]
def E155 (L : Nat) (xs : Nat → Int32) : zM := mAt (E154 L xs) 78 13 10
theorem Eh155 (L : Nat) (xs : Nat → Int32) : (E155 L xs).1 = (SH L).take 79 := by show (E154 L xs).1 ++ _ = _; rw [Eh154]; rfl
def E156 (L : Nat) (xs : Nat → Int32) : zM := wR (E155 L xs) 68 15 (some 78)
theorem Eh156 (L : Nat) (xs : Nat → Int32) : (E156 L xs).1 = (SH L).take 79 := by show (E155 L xs).1 = _; rw [Eh155]
def E157 (L : Nat) (xs : Nat → Int32) : zM := mAt (E156 L xs) 79 12 10
theorem Eh157 (L : Nat) (xs : Nat → Int32) : (E157 L xs).1 = (SH L).take 80 := by show (E156 L xs).1 ++ _ = _; rw [Eh156]; rfl
def E158 (L : Nat) (xs : Nat → Int32) : zM := wR (E157 L xs) 68 16 (some 79)
theorem Eh158 (L : Nat) (xs : Nat → Int32) : (E158 L xs).1 = (SH L).take 80 := by show (E157 L xs).1 = _; rw [Eh157]
def E159 (L : Nat) (xs : Nat → Int32) : zM := mAt (E158 L xs) 80 12 10
theorem Eh159 (L : Nat) (xs : Nat → Int32) : (E159 L xs).1 = (SH L).take 81 := by show (E158 L xs).1 ++ _ = _; rw [Eh158]; rfl
def E160 (L : Nat) (xs : Nat → Int32) : zM := wR (E159 L xs) 68 17 (some 80)
theorem Eh160 (L : Nat) (xs : Nat → Int32) : (E160 L xs).1 = (SH L).take 81 := by show (E159 L xs).1 = _; rw [Eh159]
def E161 (L : Nat) (xs : Nat → Int32) : zM := mAt (E160 L xs) 81 13 10
theorem Eh161 (L : Nat) (xs : Nat → Int32) : (E161 L xs).1 = (SH L).take 82 := by show (E160 L xs).1 ++ _ = _; rw [Eh160]; rfl
def E162 (L : Nat) (xs : Nat → Int32) : zM := wR (E161 L xs) 68 18 (some 81)
theorem Eh162 (L : Nat) (xs : Nat → Int32) : (E162 L xs).1 = (SH L).take 82 := by show (E161 L xs).1 = _; rw [Eh161]
def E163 (L : Nat) (xs : Nat → Int32) : zM := mAt (E162 L xs) 82 11 10
theorem Eh163 (L : Nat) (xs : Nat → Int32) : (E163 L xs).1 = (SH L).take 83 := by show (E162 L xs).1 ++ _ = _; rw [Eh162]; rfl
def E164 (L : Nat) (xs : Nat → Int32) : zM := wR (E163 L xs) 68 19 (some 82)
theorem Eh164 (L : Nat) (xs : Nat → Int32) : (E164 L xs).1 = (SH L).take 83 := by show (E163 L xs).1 = _; rw [Eh163]
def E165 (L : Nat) (xs : Nat → Int32) : zM := mAt (E164 L xs) 83 13 10
theorem Eh165 (L : Nat) (xs : Nat → Int32) : (E165 L xs).1 = (SH L).take 84 := by show (E164 L xs).1 ++ _ = _; rw [Eh164]; rfl
def E166 (L : Nat) (xs : Nat → Int32) : zM := wR (E165 L xs) 68 20 (some 83)
theorem Eh166 (L : Nat) (xs : Nat → Int32) : (E166 L xs).1 = (SH L).take 84 := by show (E165 L xs).1 = _; rw [Eh165]
def E167 (L : Nat) (xs : Nat → Int32) : zM := mAt (E166 L xs) 84 12 10
theorem Eh167 (L : Nat) (xs : Nat → Int32) : (E167 L xs).1 = (SH L).take 85 := by show (E166 L xs).1 ++ _ = _; rw [Eh166]; rfl
def E168 (L : Nat) (xs : Nat → Int32) : zM := wR (E167 L xs) 68 21 (some 84)
theorem Eh168 (L : Nat) (xs : Nat → Int32) : (E168 L xs).1 = (SH L).take 85 := by show (E167 L xs).1 = _; rw [Eh167]
def E169 (L : Nat) (xs : Nat → Int32) : zM := mAt (E168 L xs) 85 12 10
theorem Eh169 (L : Nat) (xs : Nat → Int32) : (E169 L xs).1 = (SH L).take 86 := by show (E168 L xs).1 ++ _ = _; rw [Eh168]; rfl
def E170 (L : Nat) (xs : Nat → Int32) : zM := wR (E169 L xs) 68 22 (some 85)
theorem Eh170 (L : Nat) (xs : Nat → Int32) : (E170 L xs).1 = (SH L).take 86 := by show (E169 L xs).1 = _; rw [Eh169]
def E171 (L : Nat) (xs : Nat → Int32) : zM := mAt (E170 L xs) 86 13 10
theorem Eh171 (L : Nat) (xs : Nat → Int32) : (E171 L xs).1 = (SH L).take 87 := by show (E170 L xs).1 ++ _ = _; rw [Eh170]; rfl
def E172 (L : Nat) (xs : Nat → Int32) : zM := wR (E171 L xs) 68 23 (some 86)
theorem Eh172 (L : Nat) (xs : Nat → Int32) : (E172 L xs).1 = (SH L).take 87 := by show (E171 L xs).1 = _; rw [Eh171]
def E173 (L : Nat) (xs : Nat → Int32) : zM := mAt (E172 L xs) 87 12 10
theorem Eh173 (L : Nat) (xs : Nat → Int32) : (E173 L xs).1 = (SH L).take 88 := by show (E172 L xs).1 ++ _ = _; rw [Eh172]; rfl
def E174 (L : Nat) (xs : Nat → Int32) : zM := wR (E173 L xs) 68 24 (some 87)
theorem Eh174 (L : Nat) (xs : Nat → Int32) : (E174 L xs).1 = (SH L).take 88 := by show (E173 L xs).1 = _; rw [Eh173]
def E175 (L : Nat) (xs : Nat → Int32) : zM := mAt (E174 L xs) 88 12 10
theorem Eh175 (L : Nat) (xs : Nat → Int32) : (E175 L xs).1 = (SH L).take 89 := by show (E174 L xs).1 ++ _ = _; rw [Eh174]; rfl
def E176 (L : Nat) (xs : Nat → Int32) : zM := wR (E175 L xs) 68 25 (some 88)
theorem Eh176 (L : Nat) (xs : Nat → Int32) : (E176 L xs).1 = (SH L).take 89 := by show (E175 L xs).1 = _; rw [Eh175]
def E177 (L : Nat) (xs : Nat → Int32) : zM := mAt (E176 L xs) 89 11 10
theorem Eh177 (L : Nat) (xs : Nat → Int32) : (E177 L xs).1 = (SH L).take 90 := by show (E176 L xs).1 ++ _ = _; rw [Eh176]; rfl
def E178 (L : Nat) (xs : Nat → Int32) : zM := wR (E177 L xs) 68 26 (some 89)
theorem Eh178 (L : Nat) (xs : Nat → Int32) : (E178 L xs).1 = (SH L).take 90 := by show (E177 L xs).1 = _; rw [Eh177]
def E179 (L : Nat) (xs : Nat → Int32) : zM := mAt (E178 L xs) 90 12 60
theorem Eh179 (L : Nat) (xs : Nat → Int32) : (E179 L xs).1 = (SH L).take 91 := by show (E178 L xs).1 ++ _ = _; rw [Eh178]; rfl
def E180 (L : Nat) (xs : Nat → Int32) : zM := wR (E179 L xs) 68 27 (some 90)
theorem Eh180 (L : Nat) (xs : Nat → Int32) : (E180 L xs).1 = (SH L).take 91 := by show (E179 L xs).1 = _; rw [Eh179]
def E181 (L : Nat) (xs : Nat → Int32) : zM := mAt (E180 L xs) 91 12 600
theorem Eh181 (L : Nat) (xs : Nat → Int32) : (E181 L xs).1 = (SH L).take 92 := by show (E180 L xs).1 ++ _ = _; rw [Eh180]; rfl
def E182 (L : Nat) (xs : Nat → Int32) : zM := wR (E181 L xs) 68 30 (some 91)
theorem Eh182 (L : Nat) (xs : Nat → Int32) : (E182 L xs).1 = (SH L).take 92 := by show (E181 L xs).1 = _; rw [Eh181]
def E183 (L : Nat) (xs : Nat → Int32) : zM := mAt (E182 L xs) 92 11 21600
theorem Eh183 (L : Nat) (xs : Nat → Int32) : (E183 L xs).1 = (SH L).take 93 := by show (E182 L xs).1 ++ _ = _; rw [Eh182]; rfl
def E184 (L : Nat) (xs : Nat → Int32) : zM := wR (E183 L xs) 68 31 (some 92)
theorem Eh184 (L : Nat) (xs : Nat → Int32) : (E184 L xs).1 = (SH L).take 93 := by show (E183 L xs).1 = _; rw [Eh183]
def E185 (L : Nat) (xs : Nat → Int32) : zM := mAt (E184 L xs) 93 11 2
theorem Eh185 (L : Nat) (xs : Nat → Int32) : (E185 L xs).1 = (SH L).take 94 := by show (E184 L xs).1 ++ _ = _; rw [Eh184]; rfl
def E186 (L : Nat) (xs : Nat → Int32) : zM := wR (E185 L xs) 68 32 (some 93)
theorem Eh186 (L : Nat) (xs : Nat → Int32) : (E186 L xs).1 = (SH L).take 94 := by show (E185 L xs).1 = _; rw [Eh185]
def E187 (L : Nat) (xs : Nat → Int32) : zM := mAt (E186 L xs) 94 13 2
theorem Eh187 (L : Nat) (xs : Nat → Int32) : (E187 L xs).1 = (SH L).take 95 := by show (E186 L xs).1 ++ _ = _; rw [Eh186]; rfl
def E188 (L : Nat) (xs : Nat → Int32) : zM := wR (E187 L xs) 68 33 (some 94)
theorem Eh188 (L : Nat) (xs : Nat → Int32) : (E188 L xs).1 = (SH L).take 95 := by show (E187 L xs).1 = _; rw [Eh187]
def E189 (L : Nat) (xs : Nat → Int32) : zM := mAt (E188 L xs) 95 13 90000
theorem Eh189 (L : Nat) (xs : Nat → Int32) : (E189 L xs).1 = (SH L).take 96 := by show (E188 L xs).1 ++ _ = _; rw [Eh188]; rfl
def E190 (L : Nat) (xs : Nat → Int32) : zM := wR (E189 L xs) 68 34 (some 95)
theorem Eh190 (L : Nat) (xs : Nat → Int32) : (E190 L xs).1 = (SH L).take 96 := by show (E189 L xs).1 = _; rw [Eh189]
def E191 (L : Nat) (xs : Nat → Int32) : zM := mAt (E190 L xs) 96 11 90000
theorem Eh191 (L : Nat) (xs : Nat → Int32) : (E191 L xs).1 = (SH L).take 97 := by show (E190 L xs).1 ++ _ = _; rw [Eh190]; rfl
def E192 (L : Nat) (xs : Nat → Int32) : zM := wR (E191 L xs) 68 35 (some 96)
theorem Eh192 (L : Nat) (xs : Nat → Int32) : (E192 L xs).1 = (SH L).take 97 := by show (E191 L xs).1 = _; rw [Eh191]
def E193 (L : Nat) (xs : Nat → Int32) : zM := mAt (E192 L xs) 97 11 90000
theorem Eh193 (L : Nat) (xs : Nat → Int32) : (E193 L xs).1 = (SH L).take 98 := by show (E192 L xs).1 ++ _ = _; rw [Eh192]; rfl
def E194 (L : Nat) (xs : Nat → Int32) : zM := wR (E193 L xs) 68 36 (some 97)
theorem Eh194 (L : Nat) (xs : Nat → Int32) : (E194 L xs).1 = (SH L).take 98 := by show (E193 L xs).1 = _; rw [Eh193]
def E195 (L : Nat) (xs : Nat → Int32) : zM := mAt (E194 L xs) 98 11 90000
theorem Eh195 (L : Nat) (xs : Nat → Int32) : (E195 L xs).1 = (SH L).take 99 := by show (E194 L xs).1 ++ _ = _; rw [Eh194]; rfl
def E196 (L : Nat) (xs : Nat → Int32) : zM := wR (E195 L xs) 68 37 (some 98)
theorem Eh196 (L : Nat) (xs : Nat → Int32) : (E196 L xs).1 = (SH L).take 99 := by show (E195 L xs).1 = _; rw [Eh195]
def E197 (L : Nat) (xs : Nat → Int32) : zM := mAt (E196 L xs) 99 11 90000
theorem Eh197 (L : Nat) (xs : Nat → Int32) : (E197 L xs).1 = (SH L).take 100 := by show (E196 L xs).1 ++ _ = _; rw [Eh196]; rfl
def E198 (L : Nat) (xs : Nat → Int32) : zM := wR (E197 L xs) 68 38 (some 99)
theorem Eh198 (L : Nat) (xs : Nat → Int32) : (E198 L xs).1 = (SH L).take 100 := by show (E197 L xs).1 = _; rw [Eh197]
def E199 (L : Nat) (xs : Nat → Int32) : zM := mAt (E198 L xs) 100 11 200
theorem Eh199 (L : Nat) (xs : Nat → Int32) : (E199 L xs).1 = (SH L).take 101 := by show (E198 L xs).1 ++ _ = _; rw [Eh198]; rfl
def E200 (L : Nat) (xs : Nat → Int32) : zM := wR (E199 L xs) 68 40 (some 100)
theorem Eh200 (L : Nat) (xs : Nat → Int32) : (E200 L xs).1 = (SH L).take 101 := by show (E199 L xs).1 = _; rw [Eh199]
def E201 (L : Nat) (xs : Nat → Int32) : zM := mAt (E200 L xs) 101 11 200
theorem Eh201 (L : Nat) (xs : Nat → Int32) : (E201 L xs).1 = (SH L).take 102 := by show (E200 L xs).1 ++ _ = _; rw [Eh200]; rfl
def E202 (L : Nat) (xs : Nat → Int32) : zM := wR (E201 L xs) 68 41 (some 101)
theorem Eh202 (L : Nat) (xs : Nat → Int32) : (E202 L xs).1 = (SH L).take 102 := by show (E201 L xs).1 = _; rw [Eh201]
set_option maxRecDepth 100000 in
theorem Ec14 (n L : Nat) (xs : Nat → Int32) : fX10_init n (E135 L xs) 68 = some ((), E202 L xs) := by
  unfold fX10_init
  refine app_e (y := E136 L xs) (mAt_of (by rw [Eh135]; rfl) _ _) ?_
  refine app_e (y := 69) (by rw [Eh135]; rfl) ?_
  refine chk_e (beq_t (by unfold mK; rw [Eh136]; rfl)) ?_
  refine app_e (y := E137 L xs) rfl ?_
  refine app_e (y := E138 L xs) (mAt_of (by rw [Eh137]; rfl) _ _) ?_
  refine app_e (y := 70) (by rw [Eh137]; rfl) ?_
  refine chk_e (beq_t (by unfold mK; rw [Eh138]; rfl)) ?_
  refine app_e (y := E139 L xs) rfl ?_
  refine chk_e (beq_t (by unfold mK; rw [Eh139]; rfl)) ?_
  refine app_e (y := E140 L xs) rfl ?_
  refine app_e (y := E141 L xs) (mAt_of (by rw [Eh140]; rfl) _ _) ?_
  refine app_e (y := 71) (by rw [Eh140]; rfl) ?_
  refine chk_e (beq_t (by unfold mK; rw [Eh141]; rfl)) ?_
  refine app_e (y := E142 L xs) rfl ?_
  refine app_e (y := E143 L xs) (mAt_of (by rw [Eh142]; rfl) _ _) ?_
  refine app_e (y := 72) (by rw [Eh142]; rfl) ?_
  refine chk_e (beq_t (by unfold mK; rw [Eh143]; rfl)) ?_
  refine app_e (y := E144 L xs) rfl ?_
  refine app_e (y := E145 L xs) (mAt_of (by rw [Eh144]; rfl) _ _) ?_
  refine app_e (y := 73) (by rw [Eh144]; rfl) ?_
  refine chk_e (beq_t (by unfold mK; rw [Eh145]; rfl)) ?_
  refine app_e (y := E146 L xs) rfl ?_
  refine app_e (y := E147 L xs) (mAt_of (by rw [Eh146]; rfl) _ _) ?_
  refine app_e (y := 74) (by rw [Eh146]; rfl) ?_
  refine chk_e (beq_t (by unfold mK; rw [Eh147]; rfl)) ?_
  refine app_e (y := E148 L xs) rfl ?_
  refine app_e (y := E149 L xs) (mAt_of (by rw [Eh148]; rfl) _ _) ?_
  refine app_e (y := 75) (by rw [Eh148]; rfl) ?_
  refine chk_e (beq_t (by unfold mK; rw [Eh149]; rfl)) ?_
  refine app_e (y := E150 L xs) rfl ?_
  refine app_e (y := E151 L xs) (mAt_of (by rw [Eh150]; rfl) _ _) ?_
  refine app_e (y := 76) (by rw [Eh150]; rfl) ?_
  refine chk_e (beq_t (by unfold mK; rw [Eh151]; rfl)) ?_
  refine app_e (y := E152 L xs) rfl ?_
  refine app_e (y := E153 L xs) (mAt_of (by rw [Eh152]; rfl) _ _) ?_
  refine app_e (y := 77) (by rw [Eh152]; rfl) ?_
  refine chk_e (beq_t (by unfold mK; rw [Eh153]; rfl)) ?_
  refine app_e (y := E154 L xs) rfl ?_
  refine app_e (y := E155 L xs) (mAt_of (by rw [Eh154]; rfl) _ _) ?_
  refine app_e (y := 78) (by rw [Eh154]; rfl) ?_
  refine chk_e (beq_t (by unfold mK; rw [Eh155]; rfl)) ?_
  refine app_e (y := E156 L xs) rfl ?_
  refine app_e (y := E157 L xs) (mAt_of (by rw [Eh156]; rfl) _ _) ?_
  refine app_e (y := 79) (by rw [Eh156]; rfl) ?_
  refine chk_e (beq_t (by unfold mK; rw [Eh157]; rfl)) ?_
  refine app_e (y := E158 L xs) rfl ?_
  refine app_e (y := E159 L xs) (mAt_of (by rw [Eh158]; rfl) _ _) ?_
  refine app_e (y := 80) (by rw [Eh158]; rfl) ?_
  refine chk_e (beq_t (by unfold mK; rw [Eh159]; rfl)) ?_
  refine app_e (y := E160 L xs) rfl ?_
  refine app_e (y := E161 L xs) (mAt_of (by rw [Eh160]; rfl) _ _) ?_
  refine app_e (y := 81) (by rw [Eh160]; rfl) ?_
  refine chk_e (beq_t (by unfold mK; rw [Eh161]; rfl)) ?_
  refine app_e (y := E162 L xs) rfl ?_
  refine app_e (y := E163 L xs) (mAt_of (by rw [Eh162]; rfl) _ _) ?_
  refine app_e (y := 82) (by rw [Eh162]; rfl) ?_
  refine chk_e (beq_t (by unfold mK; rw [Eh163]; rfl)) ?_
  refine app_e (y := E164 L xs) rfl ?_
  refine app_e (y := E165 L xs) (mAt_of (by rw [Eh164]; rfl) _ _) ?_
  refine app_e (y := 83) (by rw [Eh164]; rfl) ?_
  refine chk_e (beq_t (by unfold mK; rw [Eh165]; rfl)) ?_
  refine app_e (y := E166 L xs) rfl ?_
  refine app_e (y := E167 L xs) (mAt_of (by rw [Eh166]; rfl) _ _) ?_
  refine app_e (y := 84) (by rw [Eh166]; rfl) ?_
  refine chk_e (beq_t (by unfold mK; rw [Eh167]; rfl)) ?_
  refine app_e (y := E168 L xs) rfl ?_
  refine app_e (y := E169 L xs) (mAt_of (by rw [Eh168]; rfl) _ _) ?_
  refine app_e (y := 85) (by rw [Eh168]; rfl) ?_
  refine chk_e (beq_t (by unfold mK; rw [Eh169]; rfl)) ?_
  refine app_e (y := E170 L xs) rfl ?_
  refine app_e (y := E171 L xs) (mAt_of (by rw [Eh170]; rfl) _ _) ?_
  refine app_e (y := 86) (by rw [Eh170]; rfl) ?_
  refine chk_e (beq_t (by unfold mK; rw [Eh171]; rfl)) ?_
  refine app_e (y := E172 L xs) rfl ?_
  refine app_e (y := E173 L xs) (mAt_of (by rw [Eh172]; rfl) _ _) ?_
  refine app_e (y := 87) (by rw [Eh172]; rfl) ?_
  refine chk_e (beq_t (by unfold mK; rw [Eh173]; rfl)) ?_
  refine app_e (y := E174 L xs) rfl ?_
  refine app_e (y := E175 L xs) (mAt_of (by rw [Eh174]; rfl) _ _) ?_
  refine app_e (y := 88) (by rw [Eh174]; rfl) ?_
  refine chk_e (beq_t (by unfold mK; rw [Eh175]; rfl)) ?_
  refine app_e (y := E176 L xs) rfl ?_
  refine app_e (y := E177 L xs) (mAt_of (by rw [Eh176]; rfl) _ _) ?_
  refine app_e (y := 89) (by rw [Eh176]; rfl) ?_
  refine chk_e (beq_t (by unfold mK; rw [Eh177]; rfl)) ?_
  refine app_e (y := E178 L xs) rfl ?_
  refine app_e (y := E179 L xs) (mAt_of (by rw [Eh178]; rfl) _ _) ?_
  refine app_e (y := 90) (by rw [Eh178]; rfl) ?_
  refine chk_e (beq_t (by unfold mK; rw [Eh179]; rfl)) ?_
  refine app_e (y := E180 L xs) rfl ?_
  refine app_e (y := E181 L xs) (mAt_of (by rw [Eh180]; rfl) _ _) ?_
  refine app_e (y := 91) (by rw [Eh180]; rfl) ?_
  refine chk_e (beq_t (by unfold mK; rw [Eh181]; rfl)) ?_
  refine app_e (y := E182 L xs) rfl ?_
  refine app_e (y := E183 L xs) (mAt_of (by rw [Eh182]; rfl) _ _) ?_
  refine app_e (y := 92) (by rw [Eh182]; rfl) ?_
  refine chk_e (beq_t (by unfold mK; rw [Eh183]; rfl)) ?_
  refine app_e (y := E184 L xs) rfl ?_
  refine app_e (y := E185 L xs) (mAt_of (by rw [Eh184]; rfl) _ _) ?_
  refine app_e (y := 93) (by rw [Eh184]; rfl) ?_
  refine chk_e (beq_t (by unfold mK; rw [Eh185]; rfl)) ?_
  refine app_e (y := E186 L xs) rfl ?_
  refine app_e (y := E187 L xs) (mAt_of (by rw [Eh186]; rfl) _ _) ?_
  refine app_e (y := 94) (by rw [Eh186]; rfl) ?_
  refine chk_e (beq_t (by unfold mK; rw [Eh187]; rfl)) ?_
  refine app_e (y := E188 L xs) rfl ?_
  refine app_e (y := E189 L xs) (mAt_of (by rw [Eh188]; rfl) _ _) ?_
  refine app_e (y := 95) (by rw [Eh188]; rfl) ?_
  refine chk_e (beq_t (by unfold mK; rw [Eh189]; rfl)) ?_
  refine app_e (y := E190 L xs) rfl ?_
  refine app_e (y := E191 L xs) (mAt_of (by rw [Eh190]; rfl) _ _) ?_
  refine app_e (y := 96) (by rw [Eh190]; rfl) ?_
  refine chk_e (beq_t (by unfold mK; rw [Eh191]; rfl)) ?_
  refine app_e (y := E192 L xs) rfl ?_
  refine app_e (y := E193 L xs) (mAt_of (by rw [Eh192]; rfl) _ _) ?_
  refine app_e (y := 97) (by rw [Eh192]; rfl) ?_
  refine chk_e (beq_t (by unfold mK; rw [Eh193]; rfl)) ?_
  refine app_e (y := E194 L xs) rfl ?_
  refine app_e (y := E195 L xs) (mAt_of (by rw [Eh194]; rfl) _ _) ?_
  refine app_e (y := 98) (by rw [Eh194]; rfl) ?_
  refine chk_e (beq_t (by unfold mK; rw [Eh195]; rfl)) ?_
  refine app_e (y := E196 L xs) rfl ?_
  refine app_e (y := E197 L xs) (mAt_of (by rw [Eh196]; rfl) _ _) ?_
  refine app_e (y := 99) (by rw [Eh196]; rfl) ?_
  refine chk_e (beq_t (by unfold mK; rw [Eh197]; rfl)) ?_
  refine app_e (y := E198 L xs) rfl ?_
  refine app_e (y := E199 L xs) (mAt_of (by rw [Eh198]; rfl) _ _) ?_
  refine app_e (y := 100) (by rw [Eh198]; rfl) ?_
  refine chk_e (beq_t (by unfold mK; rw [Eh199]; rfl)) ?_
  refine app_e (y := E200 L xs) rfl ?_
  refine app_e (y := E201 L xs) (mAt_of (by rw [Eh200]; rfl) _ _) ?_
  refine app_e (y := 101) (by rw [Eh200]; rfl) ?_
  refine chk_e (beq_t (by unfold mK; rw [Eh201]; rfl)) ?_
  refine app_e (y := E202 L xs) rfl ?_
  rfl
def E203 (L : Nat) (xs : Nat → Int32) : zM := mAt (E202 L xs) 102 12 1
theorem Eh203 (L : Nat) (xs : Nat → Int32) : (E203 L xs).1 = (SH L).take 103 := by show (E202 L xs).1 ++ _ = _; rw [Eh202]; rfl
set_option maxRecDepth 100000 in
theorem law_init (N L : Nat) (xs : Nat → Int32) : fL_law N (zM0 L xs) = fL_law_23 N 513 (E203 L xs) 0 1 68 102 0 := by
  unfold fL_law
  change app (mNew (E0 L xs) 9 0) _ = _
  refine app_e (y := E1 L xs) (mAt_of (by rw [Eh0]; rfl) _ _) ?_
  refine app_e (y := 1) rfl ?_
  refine bnd2_e (a := ()) (c := E134 L xs) (Ec13 _ L xs) ?_
  refine app_e (y := E135 L xs) (mAt_of (by rw [Eh134]; rfl) _ _) ?_
  refine app_e (y := 68) (by rw [Eh134]; rfl) ?_
  refine bnd2_e (a := ()) (c := E202 L xs) (Ec14 _ L xs) ?_
  refine app_e (y := E203 L xs) (mAt_of (by rw [Eh202]; rfl) _ _) ?_
  refine app_e (y := 102) (by rw [Eh202]; rfl) ?_
  rfl
def zMi (L : Nat) (xs : Nat → Int32) : zM := E203 L xs
set_option maxRecDepth 100000 in
theorem Er_1_0 (L : Nat) (xs : Nat → Int32) : mR (zMi L xs) 1 0 = some 2 := by rfl
set_option maxRecDepth 100000 in
theorem Er_1_1 (L : Nat) (xs : Nat → Int32) : mR (zMi L xs) 1 1 = some 27 := by rfl
set_option maxRecDepth 100000 in
theorem Er_1_2 (L : Nat) (xs : Nat → Int32) : mR (zMi L xs) 1 2 = some 31 := by rfl
set_option maxRecDepth 100000 in
theorem Er_1_3 (L : Nat) (xs : Nat → Int32) : mR (zMi L xs) 1 3 = some 35 := by rfl
set_option maxRecDepth 100000 in
theorem Er_1_4 (L : Nat) (xs : Nat → Int32) : mR (zMi L xs) 1 4 = some 38 := by rfl
set_option maxRecDepth 100000 in
theorem Er_1_5 (L : Nat) (xs : Nat → Int32) : mR (zMi L xs) 1 5 = some 46 := by rfl
set_option maxRecDepth 100000 in
theorem Er_2_2 (L : Nat) (xs : Nat → Int32) : mR (zMi L xs) 2 2 = some 3 := by rfl
set_option maxRecDepth 100000 in
theorem Er_2_3 (L : Nat) (xs : Nat → Int32) : mR (zMi L xs) 2 3 = some 4 := by rfl
set_option maxRecDepth 100000 in
theorem Er_4_3 (L : Nat) (xs : Nat → Int32) : mR (zMi L xs) 4 3 = some 5 := by rfl
set_option maxRecDepth 100000 in
theorem Er_4_4 (L : Nat) (xs : Nat → Int32) : mR (zMi L xs) 4 4 = some 6 := by rfl
set_option maxRecDepth 100000 in
theorem Er_4_5 (L : Nat) (xs : Nat → Int32) : mR (zMi L xs) 4 5 = some 7 := by rfl
set_option maxRecDepth 100000 in
theorem Er_4_6 (L : Nat) (xs : Nat → Int32) : mR (zMi L xs) 4 6 = some 8 := by rfl
set_option maxRecDepth 100000 in
theorem Er_7_0 (L : Nat) (xs : Nat → Int32) : mR (zMi L xs) 7 0 = some 9 := by rfl
set_option maxRecDepth 100000 in
theorem Er_7_1 (L : Nat) (xs : Nat → Int32) : mR (zMi L xs) 7 1 = some 11 := by rfl
set_option maxRecDepth 100000 in
theorem Er_7_2 (L : Nat) (xs : Nat → Int32) : mR (zMi L xs) 7 2 = some 13 := by rfl
set_option maxRecDepth 100000 in
theorem Er_7_3 (L : Nat) (xs : Nat → Int32) : mR (zMi L xs) 7 3 = some 15 := by rfl
set_option maxRecDepth 100000 in
theorem Er_7_4 (L : Nat) (xs : Nat → Int32) : mR (zMi L xs) 7 4 = some 17 := by rfl
set_option maxRecDepth 100000 in
theorem Er_7_5 (L : Nat) (xs : Nat → Int32) : mR (zMi L xs) 7 5 = some 19 := by rfl
set_option maxRecDepth 100000 in
theorem Er_7_6 (L : Nat) (xs : Nat → Int32) : mR (zMi L xs) 7 6 = some 21 := by rfl
set_option maxRecDepth 100000 in
theorem Er_7_7 (L : Nat) (xs : Nat → Int32) : mR (zMi L xs) 7 7 = some 23 := by rfl
set_option maxRecDepth 100000 in
theorem Er_7_8 (L : Nat) (xs : Nat → Int32) : mR (zMi L xs) 7 8 = some 25 := by rfl
set_option maxRecDepth 100000 in
theorem Er_8_0 (L : Nat) (xs : Nat → Int32) : mR (zMi L xs) 8 0 = some 10 := by rfl
set_option maxRecDepth 100000 in
theorem Er_8_1 (L : Nat) (xs : Nat → Int32) : mR (zMi L xs) 8 1 = some 12 := by rfl
set_option maxRecDepth 100000 in
theorem Er_8_2 (L : Nat) (xs : Nat → Int32) : mR (zMi L xs) 8 2 = some 14 := by rfl
set_option maxRecDepth 100000 in
theorem Er_8_3 (L : Nat) (xs : Nat → Int32) : mR (zMi L xs) 8 3 = some 16 := by rfl
set_option maxRecDepth 100000 in
theorem Er_8_4 (L : Nat) (xs : Nat → Int32) : mR (zMi L xs) 8 4 = some 18 := by rfl
set_option maxRecDepth 100000 in
theorem Er_8_5 (L : Nat) (xs : Nat → Int32) : mR (zMi L xs) 8 5 = some 20 := by rfl
set_option maxRecDepth 100000 in
theorem Er_8_6 (L : Nat) (xs : Nat → Int32) : mR (zMi L xs) 8 6 = some 22 := by rfl
set_option maxRecDepth 100000 in
theorem Er_8_7 (L : Nat) (xs : Nat → Int32) : mR (zMi L xs) 8 7 = some 24 := by rfl
set_option maxRecDepth 100000 in
theorem Er_8_8 (L : Nat) (xs : Nat → Int32) : mR (zMi L xs) 8 8 = some 26 := by rfl
set_option maxRecDepth 100000 in
theorem Er_27_2 (L : Nat) (xs : Nat → Int32) : mR (zMi L xs) 27 2 = some 28 := by rfl
set_option maxRecDepth 100000 in
theorem Er_27_3 (L : Nat) (xs : Nat → Int32) : mR (zMi L xs) 27 3 = some 29 := by rfl
set_option maxRecDepth 100000 in
theorem Er_27_4 (L : Nat) (xs : Nat → Int32) : mR (zMi L xs) 27 4 = some 30 := by rfl
set_option maxRecDepth 100000 in
theorem Er_31_1 (L : Nat) (xs : Nat → Int32) : mR (zMi L xs) 31 1 = some 32 := by rfl
set_option maxRecDepth 100000 in
theorem Er_31_2 (L : Nat) (xs : Nat → Int32) : mR (zMi L xs) 31 2 = some 33 := by rfl
set_option maxRecDepth 100000 in
theorem Er_31_3 (L : Nat) (xs : Nat → Int32) : mR (zMi L xs) 31 3 = some 34 := by rfl
set_option maxRecDepth 100000 in
theorem Er_35_0 (L : Nat) (xs : Nat → Int32) : mR (zMi L xs) 35 0 = some 36 := by rfl
set_option maxRecDepth 100000 in
theorem Er_35_1 (L : Nat) (xs : Nat → Int32) : mR (zMi L xs) 35 1 = some 37 := by rfl
set_option maxRecDepth 100000 in
theorem Er_38_1 (L : Nat) (xs : Nat → Int32) : mR (zMi L xs) 38 1 = some 39 := by rfl
set_option maxRecDepth 100000 in
theorem Er_38_2 (L : Nat) (xs : Nat → Int32) : mR (zMi L xs) 38 2 = some 40 := by rfl
set_option maxRecDepth 100000 in
theorem Er_38_4 (L : Nat) (xs : Nat → Int32) : mR (zMi L xs) 38 4 = some 41 := by rfl
set_option maxRecDepth 100000 in
theorem Er_38_5 (L : Nat) (xs : Nat → Int32) : mR (zMi L xs) 38 5 = some 42 := by rfl
set_option maxRecDepth 100000 in
theorem Er_38_6 (L : Nat) (xs : Nat → Int32) : mR (zMi L xs) 38 6 = some 43 := by rfl
set_option maxRecDepth 100000 in
theorem Er_38_7 (L : Nat) (xs : Nat → Int32) : mR (zMi L xs) 38 7 = some 44 := by rfl
set_option maxRecDepth 100000 in
theorem Er_38_8 (L : Nat) (xs : Nat → Int32) : mR (zMi L xs) 38 8 = some 45 := by rfl
set_option maxRecDepth 100000 in
theorem Er_46_0 (L : Nat) (xs : Nat → Int32) : mR (zMi L xs) 46 0 = some 47 := by rfl
set_option maxRecDepth 100000 in
theorem Er_46_1 (L : Nat) (xs : Nat → Int32) : mR (zMi L xs) 46 1 = some 54 := by rfl
set_option maxRecDepth 100000 in
theorem Er_46_2 (L : Nat) (xs : Nat → Int32) : mR (zMi L xs) 46 2 = some 61 := by rfl
set_option maxRecDepth 100000 in
theorem Er_47_4 (L : Nat) (xs : Nat → Int32) : mR (zMi L xs) 47 4 = some 48 := by rfl
set_option maxRecDepth 100000 in
theorem Er_47_5 (L : Nat) (xs : Nat → Int32) : mR (zMi L xs) 47 5 = some 49 := by rfl
set_option maxRecDepth 100000 in
theorem Er_47_6 (L : Nat) (xs : Nat → Int32) : mR (zMi L xs) 47 6 = some 50 := by rfl
set_option maxRecDepth 100000 in
theorem Er_47_7 (L : Nat) (xs : Nat → Int32) : mR (zMi L xs) 47 7 = some 51 := by rfl
set_option maxRecDepth 100000 in
theorem Er_51_4 (L : Nat) (xs : Nat → Int32) : mR (zMi L xs) 51 4 = some 52 := by rfl
set_option maxRecDepth 100000 in
theorem Er_51_5 (L : Nat) (xs : Nat → Int32) : mR (zMi L xs) 51 5 = some 53 := by rfl
set_option maxRecDepth 100000 in
theorem Er_54_4 (L : Nat) (xs : Nat → Int32) : mR (zMi L xs) 54 4 = some 55 := by rfl
set_option maxRecDepth 100000 in
theorem Er_54_5 (L : Nat) (xs : Nat → Int32) : mR (zMi L xs) 54 5 = some 56 := by rfl
set_option maxRecDepth 100000 in
theorem Er_54_6 (L : Nat) (xs : Nat → Int32) : mR (zMi L xs) 54 6 = some 57 := by rfl
set_option maxRecDepth 100000 in
theorem Er_54_7 (L : Nat) (xs : Nat → Int32) : mR (zMi L xs) 54 7 = some 58 := by rfl
set_option maxRecDepth 100000 in
theorem Er_58_4 (L : Nat) (xs : Nat → Int32) : mR (zMi L xs) 58 4 = some 59 := by rfl
set_option maxRecDepth 100000 in
theorem Er_58_5 (L : Nat) (xs : Nat → Int32) : mR (zMi L xs) 58 5 = some 60 := by rfl
set_option maxRecDepth 100000 in
theorem Er_61_4 (L : Nat) (xs : Nat → Int32) : mR (zMi L xs) 61 4 = some 62 := by rfl
set_option maxRecDepth 100000 in
theorem Er_61_5 (L : Nat) (xs : Nat → Int32) : mR (zMi L xs) 61 5 = some 63 := by rfl
set_option maxRecDepth 100000 in
theorem Er_61_6 (L : Nat) (xs : Nat → Int32) : mR (zMi L xs) 61 6 = some 64 := by rfl
set_option maxRecDepth 100000 in
theorem Er_61_7 (L : Nat) (xs : Nat → Int32) : mR (zMi L xs) 61 7 = some 65 := by rfl
set_option maxRecDepth 100000 in
theorem Er_65_4 (L : Nat) (xs : Nat → Int32) : mR (zMi L xs) 65 4 = some 66 := by rfl
set_option maxRecDepth 100000 in
theorem Er_65_5 (L : Nat) (xs : Nat → Int32) : mR (zMi L xs) 65 5 = some 67 := by rfl
set_option maxRecDepth 100000 in
theorem Er_68_1 (L : Nat) (xs : Nat → Int32) : mR (zMi L xs) 68 1 = some 69 := by rfl
set_option maxRecDepth 100000 in
theorem Er_68_3 (L : Nat) (xs : Nat → Int32) : mR (zMi L xs) 68 3 = some 70 := by rfl
set_option maxRecDepth 100000 in
theorem Er_68_6 (L : Nat) (xs : Nat → Int32) : mR (zMi L xs) 68 6 = some 71 := by rfl
set_option maxRecDepth 100000 in
theorem Er_68_7 (L : Nat) (xs : Nat → Int32) : mR (zMi L xs) 68 7 = some 72 := by rfl
set_option maxRecDepth 100000 in
theorem Er_68_8 (L : Nat) (xs : Nat → Int32) : mR (zMi L xs) 68 8 = some 73 := by rfl
set_option maxRecDepth 100000 in
theorem Er_68_9 (L : Nat) (xs : Nat → Int32) : mR (zMi L xs) 68 9 = some 74 := by rfl
set_option maxRecDepth 100000 in
theorem Er_68_10 (L : Nat) (xs : Nat → Int32) : mR (zMi L xs) 68 10 = some 75 := by rfl
set_option maxRecDepth 100000 in
theorem Er_68_11 (L : Nat) (xs : Nat → Int32) : mR (zMi L xs) 68 11 = some 76 := by rfl
set_option maxRecDepth 100000 in
theorem Er_68_12 (L : Nat) (xs : Nat → Int32) : mR (zMi L xs) 68 12 = some 77 := by rfl
set_option maxRecDepth 100000 in
theorem Er_68_15 (L : Nat) (xs : Nat → Int32) : mR (zMi L xs) 68 15 = some 78 := by rfl
set_option maxRecDepth 100000 in
theorem Er_68_16 (L : Nat) (xs : Nat → Int32) : mR (zMi L xs) 68 16 = some 79 := by rfl
set_option maxRecDepth 100000 in
theorem Er_68_17 (L : Nat) (xs : Nat → Int32) : mR (zMi L xs) 68 17 = some 80 := by rfl
set_option maxRecDepth 100000 in
theorem Er_68_18 (L : Nat) (xs : Nat → Int32) : mR (zMi L xs) 68 18 = some 81 := by rfl
set_option maxRecDepth 100000 in
theorem Er_68_19 (L : Nat) (xs : Nat → Int32) : mR (zMi L xs) 68 19 = some 82 := by rfl
set_option maxRecDepth 100000 in
theorem Er_68_20 (L : Nat) (xs : Nat → Int32) : mR (zMi L xs) 68 20 = some 83 := by rfl
set_option maxRecDepth 100000 in
theorem Er_68_21 (L : Nat) (xs : Nat → Int32) : mR (zMi L xs) 68 21 = some 84 := by rfl
set_option maxRecDepth 100000 in
theorem Er_68_22 (L : Nat) (xs : Nat → Int32) : mR (zMi L xs) 68 22 = some 85 := by rfl
set_option maxRecDepth 100000 in
theorem Er_68_23 (L : Nat) (xs : Nat → Int32) : mR (zMi L xs) 68 23 = some 86 := by rfl
set_option maxRecDepth 100000 in
theorem Er_68_24 (L : Nat) (xs : Nat → Int32) : mR (zMi L xs) 68 24 = some 87 := by rfl
set_option maxRecDepth 100000 in
theorem Er_68_25 (L : Nat) (xs : Nat → Int32) : mR (zMi L xs) 68 25 = some 88 := by rfl
set_option maxRecDepth 100000 in
theorem Er_68_26 (L : Nat) (xs : Nat → Int32) : mR (zMi L xs) 68 26 = some 89 := by rfl
set_option maxRecDepth 100000 in
theorem Er_68_27 (L : Nat) (xs : Nat → Int32) : mR (zMi L xs) 68 27 = some 90 := by rfl
set_option maxRecDepth 100000 in
theorem Er_68_30 (L : Nat) (xs : Nat → Int32) : mR (zMi L xs) 68 30 = some 91 := by rfl
set_option maxRecDepth 100000 in
theorem Er_68_31 (L : Nat) (xs : Nat → Int32) : mR (zMi L xs) 68 31 = some 92 := by rfl
set_option maxRecDepth 100000 in
theorem Er_68_32 (L : Nat) (xs : Nat → Int32) : mR (zMi L xs) 68 32 = some 93 := by rfl
set_option maxRecDepth 100000 in
theorem Er_68_33 (L : Nat) (xs : Nat → Int32) : mR (zMi L xs) 68 33 = some 94 := by rfl
set_option maxRecDepth 100000 in
theorem Er_68_34 (L : Nat) (xs : Nat → Int32) : mR (zMi L xs) 68 34 = some 95 := by rfl
set_option maxRecDepth 100000 in
theorem Er_68_35 (L : Nat) (xs : Nat → Int32) : mR (zMi L xs) 68 35 = some 96 := by rfl
set_option maxRecDepth 100000 in
theorem Er_68_36 (L : Nat) (xs : Nat → Int32) : mR (zMi L xs) 68 36 = some 97 := by rfl
set_option maxRecDepth 100000 in
theorem Er_68_37 (L : Nat) (xs : Nat → Int32) : mR (zMi L xs) 68 37 = some 98 := by rfl
set_option maxRecDepth 100000 in
theorem Er_68_38 (L : Nat) (xs : Nat → Int32) : mR (zMi L xs) 68 38 = some 99 := by rfl
set_option maxRecDepth 100000 in
theorem Er_68_40 (L : Nat) (xs : Nat → Int32) : mR (zMi L xs) 68 40 = some 100 := by rfl
set_option maxRecDepth 100000 in
theorem Er_68_41 (L : Nat) (xs : Nat → Int32) : mR (zMi L xs) 68 41 = some 101 := by rfl
theorem Sta_init (L : Nat) (xs : Nat → Int32) : Sta (zMi L xs) := by
  refine ⟨⟨L, (Eh203 L xs).trans rfl⟩, ?_⟩
  unfold SR
  refine List.forall_mem_cons.mpr ⟨Er_1_0 L xs, ?_⟩
  refine List.forall_mem_cons.mpr ⟨Er_1_1 L xs, ?_⟩
  refine List.forall_mem_cons.mpr ⟨Er_1_2 L xs, ?_⟩
  refine List.forall_mem_cons.mpr ⟨Er_1_3 L xs, ?_⟩
  refine List.forall_mem_cons.mpr ⟨Er_1_4 L xs, ?_⟩
  refine List.forall_mem_cons.mpr ⟨Er_1_5 L xs, ?_⟩
  refine List.forall_mem_cons.mpr ⟨Er_2_2 L xs, ?_⟩
  refine List.forall_mem_cons.mpr ⟨Er_2_3 L xs, ?_⟩
  refine List.forall_mem_cons.mpr ⟨Er_4_3 L xs, ?_⟩
  refine List.forall_mem_cons.mpr ⟨Er_4_4 L xs, ?_⟩
  refine List.forall_mem_cons.mpr ⟨Er_4_5 L xs, ?_⟩
  refine List.forall_mem_cons.mpr ⟨Er_4_6 L xs, ?_⟩
  refine List.forall_mem_cons.mpr ⟨Er_7_0 L xs, ?_⟩
  refine List.forall_mem_cons.mpr ⟨Er_7_1 L xs, ?_⟩
  refine List.forall_mem_cons.mpr ⟨Er_7_2 L xs, ?_⟩
  refine List.forall_mem_cons.mpr ⟨Er_7_3 L xs, ?_⟩
  refine List.forall_mem_cons.mpr ⟨Er_7_4 L xs, ?_⟩
  refine List.forall_mem_cons.mpr ⟨Er_7_5 L xs, ?_⟩
  refine List.forall_mem_cons.mpr ⟨Er_7_6 L xs, ?_⟩
  refine List.forall_mem_cons.mpr ⟨Er_7_7 L xs, ?_⟩
  refine List.forall_mem_cons.mpr ⟨Er_7_8 L xs, ?_⟩
  refine List.forall_mem_cons.mpr ⟨Er_8_0 L xs, ?_⟩
  refine List.forall_mem_cons.mpr ⟨Er_8_1 L xs, ?_⟩
  refine List.forall_mem_cons.mpr ⟨Er_8_2 L xs, ?_⟩
  refine List.forall_mem_cons.mpr ⟨Er_8_3 L xs, ?_⟩
  refine List.forall_mem_cons.mpr ⟨Er_8_4 L xs, ?_⟩
  refine List.forall_mem_cons.mpr ⟨Er_8_5 L xs, ?_⟩
  refine List.forall_mem_cons.mpr ⟨Er_8_6 L xs, ?_⟩
  refine List.forall_mem_cons.mpr ⟨Er_8_7 L xs, ?_⟩
  refine List.forall_mem_cons.mpr ⟨Er_8_8 L xs, ?_⟩
  refine List.forall_mem_cons.mpr ⟨Er_27_2 L xs, ?_⟩
  refine List.forall_mem_cons.mpr ⟨Er_27_3 L xs, ?_⟩
  refine List.forall_mem_cons.mpr ⟨Er_27_4 L xs, ?_⟩
  refine List.forall_mem_cons.mpr ⟨Er_31_1 L xs, ?_⟩
  refine List.forall_mem_cons.mpr ⟨Er_31_2 L xs, ?_⟩
  refine List.forall_mem_cons.mpr ⟨Er_31_3 L xs, ?_⟩
  refine List.forall_mem_cons.mpr ⟨Er_35_0 L xs, ?_⟩
  refine List.forall_mem_cons.mpr ⟨Er_35_1 L xs, ?_⟩
  refine List.forall_mem_cons.mpr ⟨Er_38_1 L xs, ?_⟩
  refine List.forall_mem_cons.mpr ⟨Er_38_2 L xs, ?_⟩
  refine List.forall_mem_cons.mpr ⟨Er_38_4 L xs, ?_⟩
  refine List.forall_mem_cons.mpr ⟨Er_38_5 L xs, ?_⟩
  refine List.forall_mem_cons.mpr ⟨Er_38_6 L xs, ?_⟩
  refine List.forall_mem_cons.mpr ⟨Er_38_7 L xs, ?_⟩
  refine List.forall_mem_cons.mpr ⟨Er_38_8 L xs, ?_⟩
  refine List.forall_mem_cons.mpr ⟨Er_46_0 L xs, ?_⟩
  refine List.forall_mem_cons.mpr ⟨Er_46_1 L xs, ?_⟩
  refine List.forall_mem_cons.mpr ⟨Er_46_2 L xs, ?_⟩
  refine List.forall_mem_cons.mpr ⟨Er_47_4 L xs, ?_⟩
  refine List.forall_mem_cons.mpr ⟨Er_47_5 L xs, ?_⟩
  refine List.forall_mem_cons.mpr ⟨Er_47_6 L xs, ?_⟩
  refine List.forall_mem_cons.mpr ⟨Er_47_7 L xs, ?_⟩
  refine List.forall_mem_cons.mpr ⟨Er_51_4 L xs, ?_⟩
  refine List.forall_mem_cons.mpr ⟨Er_51_5 L xs, ?_⟩
  refine List.forall_mem_cons.mpr ⟨Er_54_4 L xs, ?_⟩
  refine List.forall_mem_cons.mpr ⟨Er_54_5 L xs, ?_⟩
  refine List.forall_mem_cons.mpr ⟨Er_54_6 L xs, ?_⟩
  refine List.forall_mem_cons.mpr ⟨Er_54_7 L xs, ?_⟩
  refine List.forall_mem_cons.mpr ⟨Er_58_4 L xs, ?_⟩
  refine List.forall_mem_cons.mpr ⟨Er_58_5 L xs, ?_⟩
  refine List.forall_mem_cons.mpr ⟨Er_61_4 L xs, ?_⟩
  refine List.forall_mem_cons.mpr ⟨Er_61_5 L xs, ?_⟩
  refine List.forall_mem_cons.mpr ⟨Er_61_6 L xs, ?_⟩
  refine List.forall_mem_cons.mpr ⟨Er_61_7 L xs, ?_⟩
  refine List.forall_mem_cons.mpr ⟨Er_65_4 L xs, ?_⟩
  refine List.forall_mem_cons.mpr ⟨Er_65_5 L xs, ?_⟩
  refine List.forall_mem_cons.mpr ⟨Er_68_1 L xs, ?_⟩
  refine List.forall_mem_cons.mpr ⟨Er_68_3 L xs, ?_⟩
  refine List.forall_mem_cons.mpr ⟨Er_68_6 L xs, ?_⟩
  refine List.forall_mem_cons.mpr ⟨Er_68_7 L xs, ?_⟩
  refine List.forall_mem_cons.mpr ⟨Er_68_8 L xs, ?_⟩
  refine List.forall_mem_cons.mpr ⟨Er_68_9 L xs, ?_⟩
  refine List.forall_mem_cons.mpr ⟨Er_68_10 L xs, ?_⟩
  refine List.forall_mem_cons.mpr ⟨Er_68_11 L xs, ?_⟩
  refine List.forall_mem_cons.mpr ⟨Er_68_12 L xs, ?_⟩
  refine List.forall_mem_cons.mpr ⟨Er_68_15 L xs, ?_⟩
  refine List.forall_mem_cons.mpr ⟨Er_68_16 L xs, ?_⟩
  refine List.forall_mem_cons.mpr ⟨Er_68_17 L xs, ?_⟩
  refine List.forall_mem_cons.mpr ⟨Er_68_18 L xs, ?_⟩
  refine List.forall_mem_cons.mpr ⟨Er_68_19 L xs, ?_⟩
  refine List.forall_mem_cons.mpr ⟨Er_68_20 L xs, ?_⟩
  refine List.forall_mem_cons.mpr ⟨Er_68_21 L xs, ?_⟩
  refine List.forall_mem_cons.mpr ⟨Er_68_22 L xs, ?_⟩
  refine List.forall_mem_cons.mpr ⟨Er_68_23 L xs, ?_⟩
  refine List.forall_mem_cons.mpr ⟨Er_68_24 L xs, ?_⟩
  refine List.forall_mem_cons.mpr ⟨Er_68_25 L xs, ?_⟩
  refine List.forall_mem_cons.mpr ⟨Er_68_26 L xs, ?_⟩
  refine List.forall_mem_cons.mpr ⟨Er_68_27 L xs, ?_⟩
  refine List.forall_mem_cons.mpr ⟨Er_68_30 L xs, ?_⟩
  refine List.forall_mem_cons.mpr ⟨Er_68_31 L xs, ?_⟩
  refine List.forall_mem_cons.mpr ⟨Er_68_32 L xs, ?_⟩
  refine List.forall_mem_cons.mpr ⟨Er_68_33 L xs, ?_⟩
  refine List.forall_mem_cons.mpr ⟨Er_68_34 L xs, ?_⟩
  refine List.forall_mem_cons.mpr ⟨Er_68_35 L xs, ?_⟩
  refine List.forall_mem_cons.mpr ⟨Er_68_36 L xs, ?_⟩
  refine List.forall_mem_cons.mpr ⟨Er_68_37 L xs, ?_⟩
  refine List.forall_mem_cons.mpr ⟨Er_68_38 L xs, ?_⟩
  refine List.forall_mem_cons.mpr ⟨Er_68_40 L xs, ?_⟩
  refine List.forall_mem_cons.mpr ⟨Er_68_41 L xs, ?_⟩
  exact fun _ h => by cases h
set_option maxRecDepth 100000 in
theorem Ei_cur (L : Nat) (xs : Nat → Int32) : mR (zMi L xs) 1 6 = none ∧ mR (zMi L xs) 1 7 = none := ⟨by rfl, by rfl⟩
set_option maxRecDepth 100000 in
theorem Ei_0 (L : Nat) (xs : Nat → Int32) : (∀ j, mI (zMi L xs) 0 j = xs j) ∧ mN (zMi L xs) 0 = L := ⟨fun j => by rfl, by unfold mN zMi; rw [Eh203]; rfl⟩
end ZINIT
