/-! by program: wip/decomp.py, wip/mk_code.py -/
def uX9_holds : zMu := (yX9_holds, cX9_holds, 3, (some .boolean), { frames := 0, cells := 0, slots := 0, locals := 0 }, [])
theorem zd_X9_holds : (uY uX9_holds).cls ≠ "java/lang/invoke/MethodHandle" ∧ (uY uX9_holds).cls ≠ "java/lang/invoke/VarHandle" ∧ (parseMethodDescriptor (uY uX9_holds).desc).map (fun d => d.parameters.length) = some 2 := by decide +kernel
def fX9_holds (n : Nat) (M : zM) (v0 : Int64) (v2 : Int32) : Option (Int32 × zM) :=
  if (lg_cmp ((jushr v0 v2) &&& (1 : Int64)) (0 : Int64)) = (0 : Int32) then
    some ((0 : Int32), M)
  else
  some ((1 : Int32), M)
set_option maxHeartbeats 4000000 in
theorem tX9_holds (n : Nat) (M : zM) (v0 : Int64) (v2 : Int32) (r : Int32) (M' : zM) (h : fX9_holds n M v0 v2 = some (r, M')) : zMet uX9_holds false M [.long v0, .int v2] (zE (oI r) M') := by
  refine zMet_of (L := [(0, .long v0), (2, .int v2)]) (by decide +kernel) rfl rfl (Nat.le_of_ble_eq_true rfl) ?_
  show zW uX9_holds none (0, 0) M 0 [(0, .long v0), (2, .int v2)] [] (zE (oI r) M')
  unfold fX9_holds at h
  refine zr_lload_n (q := 1) dX9_holds_0 rfl rfl 0 rfl ?_
  refine zr_iload_n (q := 2) dX9_holds_1 rfl rfl 1 rfl ?_
  refine zr_lushr (q := 3) dX9_holds_2 rfl ?_
  refine zr_lconst (q := 4) (v := 1) dX9_holds_3 rfl (by decide) ?_
  refine zr_land (q := 5) dX9_holds_4 rfl ?_
  refine zr_lconst (q := 6) (v := 0) dX9_holds_5 rfl (by decide) ?_
  refine zr_lcmp (q := 7) dX9_holds_6 rfl ?_
  refine zr_if_eq (q := 10) (tgt := 14) dX9_holds_7 rfl (by decide) (fun c_1 => ?_) (fun c_1 => ?_)
  · replace h := ite_t c_1 h
    refine zr_iconst (q := 15) (v := 0) dX9_holds_14 rfl (by decide) ?_
    cases h
    exact zr_zreturn dX9_holds_15 rfl (Or.inl rfl) ⟨by decide, by decide⟩ ⟨rfl, rfl⟩
  · replace h := ite_f c_1 h
    refine zr_iconst (q := 11) (v := 1) dX9_holds_10 rfl (by decide) ?_
    refine zr_goto (q := 15) dX9_holds_11 (by decide) ?_
    cases h
    exact zr_zreturn dX9_holds_15 rfl (Or.inr rfl) ⟨by decide, by decide⟩ ⟨rfl, rfl⟩

def uX9_byteOf : zMu := (yX9_byteOf, cX9_byteOf, 3, (some .int), { frames := 0, cells := 0, slots := 0, locals := 0 }, [])
theorem zd_X9_byteOf : (uY uX9_byteOf).cls ≠ "java/lang/invoke/MethodHandle" ∧ (uY uX9_byteOf).cls ≠ "java/lang/invoke/VarHandle" ∧ (parseMethodDescriptor (uY uX9_byteOf).desc).map (fun d => d.parameters.length) = some 2 := by decide +kernel
def fX9_byteOf (n : Nat) (M : zM) (v0 : Int64) (v2 : Int32) : Option (Int32 × zM) :=
  some (((Int64.toInt32 (jushr v0 ((8 : Int32) * v2))) &&& (255 : Int32)), M)
set_option maxHeartbeats 4000000 in
theorem tX9_byteOf (n : Nat) (M : zM) (v0 : Int64) (v2 : Int32) (r : Int32) (M' : zM) (h : fX9_byteOf n M v0 v2 = some (r, M')) : zMet uX9_byteOf false M [.long v0, .int v2] (zE (oI r) M') := by
  refine zMet_of (L := [(0, .long v0), (2, .int v2)]) (by decide +kernel) rfl rfl (Nat.le_of_ble_eq_true rfl) ?_
  show zW uX9_byteOf none (0, 0) M 0 [(0, .long v0), (2, .int v2)] [] (zE (oI r) M')
  unfold fX9_byteOf at h
  refine zr_lload_n (q := 1) dX9_byteOf_0 rfl rfl 0 rfl ?_
  refine zr_bipush (q := 3) (v := 8) dX9_byteOf_1 rfl (by decide) ?_
  refine zr_iload_n (q := 4) dX9_byteOf_3 rfl rfl 1 rfl ?_
  refine zr_imul (q := 5) dX9_byteOf_4 rfl ?_
  refine zr_lushr (q := 6) dX9_byteOf_5 rfl ?_
  refine zr_l2i (q := 7) dX9_byteOf_6 rfl ?_
  refine zr_sipush (q := 10) (v := 255) dX9_byteOf_7 rfl (by decide) ?_
  refine zr_iand (q := 11) dX9_byteOf_10 rfl ?_
  cases h
  exact zr_ireturn dX9_byteOf_11 rfl ⟨by decide, by decide⟩ ⟨rfl, rfl⟩

def uX9_letterOf : zMu := (yX9_letterOf, cX9_letterOf, 1, (some .int), { frames := 0, cells := 0, slots := 0, locals := 0 }, [])
theorem zd_X9_letterOf : (uY uX9_letterOf).cls ≠ "java/lang/invoke/MethodHandle" ∧ (uY uX9_letterOf).cls ≠ "java/lang/invoke/VarHandle" ∧ (parseMethodDescriptor (uY uX9_letterOf).desc).map (fun d => d.parameters.length) = some 1 := by decide +kernel
def fX9_letterOf_17 (n : Nat) (M : zM) (v0 : Int32) : Option (Int32 × zM) :=
  if v0 < (48 : Int32) then
    some ((-1 : Int32), M)
  else
  if (57 : Int32) < v0 then
    some ((-1 : Int32), M)
  else
  some (((v0 - (48 : Int32)) + (26 : Int32)), M)
set_option maxHeartbeats 4000000 in
theorem tX9_letterOf_17 (n : Nat) (M : zM) (v0 : Int32) (r : Int32) (M' : zM) (h : fX9_letterOf_17 n M v0 = some (r, M')) : zW uX9_letterOf none (0, 0) M 17 [(0, .int v0)] [] (zE (oI r) M') := by
  unfold fX9_letterOf_17 at h
  refine zr_iload_n (q := 18) dX9_letterOf_17 rfl rfl 0 rfl ?_
  refine zr_bipush (q := 20) (v := 48) dX9_letterOf_18 rfl (by decide) ?_
  refine zr_icmp_lt (q := 23) (tgt := 37) dX9_letterOf_20 rfl (by decide) (fun c_1 => ?_) (fun c_1 => ?_)
  · replace h := ite_t c_1 h
    refine zr_iconst (q := 38) (v := -1) dX9_letterOf_37 rfl (by decide) ?_
    cases h
    exact zr_ireturn dX9_letterOf_38 rfl ⟨by decide, by decide⟩ ⟨rfl, rfl⟩
  · replace h := ite_f c_1 h
    refine zr_iload_n (q := 24) dX9_letterOf_23 rfl rfl 0 rfl ?_
    refine zr_bipush (q := 26) (v := 57) dX9_letterOf_24 rfl (by decide) ?_
    refine zr_icmp_gt (q := 29) (tgt := 37) dX9_letterOf_26 rfl (by decide) (fun c_2 => ?_) (fun c_2 => ?_)
    · replace h := ite_t c_2 h
      refine zr_iconst (q := 38) (v := -1) dX9_letterOf_37 rfl (by decide) ?_
      cases h
      exact zr_ireturn dX9_letterOf_38 rfl ⟨by decide, by decide⟩ ⟨rfl, rfl⟩
    · replace h := ite_f c_2 h
      refine zr_iload_n (q := 30) dX9_letterOf_29 rfl rfl 0 rfl ?_
      refine zr_bipush (q := 32) (v := 48) dX9_letterOf_30 rfl (by decide) ?_
      refine zr_isub (q := 33) dX9_letterOf_32 rfl ?_
      refine zr_bipush (q := 35) (v := 26) dX9_letterOf_33 rfl (by decide) ?_
      refine zr_iadd (q := 36) dX9_letterOf_35 rfl ?_
      cases h
      exact zr_ireturn dX9_letterOf_36 rfl ⟨by decide, by decide⟩ ⟨rfl, rfl⟩
def fX9_letterOf (n : Nat) (M : zM) (v0 : Int32) : Option (Int32 × zM) :=
  if v0 < (97 : Int32) then
    fX9_letterOf_17 n M v0
  else
  if (122 : Int32) < v0 then
    fX9_letterOf_17 n M v0
  else
  some ((v0 - (97 : Int32)), M)
set_option maxHeartbeats 4000000 in
theorem tX9_letterOf (n : Nat) (M : zM) (v0 : Int32) (r : Int32) (M' : zM) (h : fX9_letterOf n M v0 = some (r, M')) : zMet uX9_letterOf false M [.int v0] (zE (oI r) M') := by
  refine zMet_of (L := [(0, .int v0)]) (by decide +kernel) rfl rfl (Nat.le_of_ble_eq_true rfl) ?_
  show zW uX9_letterOf none (0, 0) M 0 [(0, .int v0)] [] (zE (oI r) M')
  unfold fX9_letterOf at h
  refine zr_iload_n (q := 1) dX9_letterOf_0 rfl rfl 0 rfl ?_
  refine zr_bipush (q := 3) (v := 97) dX9_letterOf_1 rfl (by decide) ?_
  refine zr_icmp_lt (q := 6) (tgt := 17) dX9_letterOf_3 rfl (by decide) (fun c_1 => ?_) (fun c_1 => ?_)
  · replace h := ite_t c_1 h
    exact zr_pick [0] rfl (tX9_letterOf_17 n M v0 _ _ h)
  · replace h := ite_f c_1 h
    refine zr_iload_n (q := 7) dX9_letterOf_6 rfl rfl 0 rfl ?_
    refine zr_bipush (q := 9) (v := 122) dX9_letterOf_7 rfl (by decide) ?_
    refine zr_icmp_gt (q := 12) (tgt := 17) dX9_letterOf_9 rfl (by decide) (fun c_2 => ?_) (fun c_2 => ?_)
    · replace h := ite_t c_2 h
      exact zr_pick [0] rfl (tX9_letterOf_17 n M v0 _ _ h)
    · replace h := ite_f c_2 h
      refine zr_iload_n (q := 13) dX9_letterOf_12 rfl rfl 0 rfl ?_
      refine zr_bipush (q := 15) (v := 97) dX9_letterOf_13 rfl (by decide) ?_
      refine zr_isub (q := 16) dX9_letterOf_15 rfl ?_
      cases h
      exact zr_ireturn dX9_letterOf_16 rfl ⟨by decide, by decide⟩ ⟨rfl, rfl⟩

def uX9_allLetters : zMu := (yX9_allLetters, cX9_allLetters, 4, (some .boolean), { frames := 1, cells := 0, slots := 0, locals := 22 }, [])
theorem zd_X9_allLetters : (uY uX9_allLetters).cls ≠ "java/lang/invoke/MethodHandle" ∧ (uY uX9_allLetters).cls ≠ "java/lang/invoke/VarHandle" ∧ (parseMethodDescriptor (uY uX9_allLetters).desc).map (fun d => d.parameters.length) = some 2 := by decide +kernel
def fX9_allLetters_2 : Nat → zM → Int64 → Int32 → Int32 → Option (Int32 × zM)
  | 0, _, _, _, _ => none
  | n + 1, M, v0, v2, v3 =>
    if v2 ≤ v3 then
      some ((1 : Int32), M)
    else
    bnd2 (fX9_byteOf n M v0 v3) fun r_2 M_3 =>
    bnd2 (fX9_letterOf n M_3 r_2) fun r_5 M_6 =>
    if r_5 = (-1 : Int32) then
      some ((0 : Int32), M_6)
    else
    app (v3 + (1 : Int32)) fun v3_9 : Int32 =>
    (fX9_allLetters_2 n) M_6 v0 v2 v3_9
set_option maxHeartbeats 4000000 in
theorem tX9_allLetters_2 : ∀ (n : Nat) (M : zM) (v0 : Int64) (v2 : Int32) (v3 : Int32) (r : Int32) (M' : zM), fX9_allLetters_2 n M v0 v2 v3 = some (r, M') → zW uX9_allLetters none (0, 0) M 2 [(0, .long v0), (2, .int v2), (3, .int v3)] [] (zE (oI r) M') := by
  intro n
  induction n with
  | zero => intro M v0 v2 v3 r M' h; cases h
  | succ n ih =>
    intro M v0 v2 v3 r M' h
    rw [fX9_allLetters_2] at h
    refine zr_iload_n (q := 3) dX9_allLetters_2 rfl rfl 2 rfl ?_
    refine zr_iload_n (q := 4) dX9_allLetters_3 rfl rfl 1 rfl ?_
    refine zr_icmp_ge (q := 7) (tgt := 27) dX9_allLetters_4 rfl (by decide) (fun c_1 => ?_) (fun c_1 => ?_)
    · replace h := ite_t c_1 h
      refine zr_iconst (q := 28) (v := 1) dX9_allLetters_27 rfl (by decide) ?_
      cases h
      exact zr_zreturn dX9_allLetters_28 rfl (Or.inr rfl) ⟨by decide, by decide⟩ ⟨rfl, rfl⟩
    · replace h := ite_f c_1 h
      refine zr_lload_n (q := 8) dX9_allLetters_7 rfl rfl 0 rfl ?_
      refine zr_iload_n (q := 9) dX9_allLetters_8 rfl rfl 2 rfl ?_
      obtain ⟨r_2, M_3, hc_4, h⟩ := bnd2_some h
      refine zr_callSI (μ' := uX9_byteOf) (q := 12) (n := 2) (As := [.long v0, .int v3]) (u' := (0, 0)) (tX9_byteOf n M v0 v3 _ _ hc_4) dX9_allLetters_9 rfl rfl ⟨zb_185, zb_325, zb_186, zb_25⟩ zd_X9_byteOf ⟨by decide, by decide⟩ ⟨by decide, by decide⟩ rfl rfl (Nat.le_of_ble_eq_true rfl) rfl ?_
      obtain ⟨r_5, M_6, hc_7, h⟩ := bnd2_some h
      refine zr_callSI (μ' := uX9_letterOf) (q := 15) (n := 1) (As := [.int r_2]) (u' := (0, 0)) (tX9_letterOf n M_3 r_2 _ _ hc_7) dX9_allLetters_12 rfl rfl ⟨zb_212, zb_326, zb_213, zb_25⟩ zd_X9_letterOf ⟨by decide, by decide⟩ ⟨by decide, by decide⟩ rfl rfl (Nat.le_of_ble_eq_true rfl) rfl ?_
      refine zr_iconst (q := 16) (v := -1) dX9_allLetters_15 rfl (by decide) ?_
      refine zr_icmp_ne (q := 19) (tgt := 21) dX9_allLetters_16 rfl (by decide) (fun c_8 => ?_) (fun c_8 => ?_)
      · replace h := ite_f c_8 h
        obtain ⟨v3_9, e_10, h⟩ := app_some h
        refine zr_iinc (q := 24) (v := v3_9) (L' := [(3, .int v3_9), (0, .long v0), (2, .int v2)]) dX9_allLetters_21 rfl 2 rfl (by rw [← e_10]; rfl) (by decide) rfl ?_
        refine zr_goto (q := 2) dX9_allLetters_24 (by decide) ?_
        exact zr_pick [1, 2, 0] rfl (ih M_6 v0 v2 v3_9 _ _ h)
      · replace h := ite_t c_8 h
        refine zr_iconst (q := 20) (v := 0) dX9_allLetters_19 rfl (by decide) ?_
        cases h
        exact zr_zreturn dX9_allLetters_20 rfl (Or.inl rfl) ⟨by decide, by decide⟩ ⟨rfl, rfl⟩
def fX9_allLetters (n : Nat) (M : zM) (v0 : Int64) (v2 : Int32) : Option (Int32 × zM) :=
  fX9_allLetters_2 n M v0 v2 (0 : Int32)
set_option maxHeartbeats 4000000 in
theorem tX9_allLetters (n : Nat) (M : zM) (v0 : Int64) (v2 : Int32) (r : Int32) (M' : zM) (h : fX9_allLetters n M v0 v2 = some (r, M')) : zMet uX9_allLetters false M [.long v0, .int v2] (zE (oI r) M') := by
  refine zMet_of (L := [(0, .long v0), (2, .int v2)]) (by decide +kernel) rfl rfl (Nat.le_of_ble_eq_true rfl) ?_
  show zW uX9_allLetters none (0, 0) M 0 [(0, .long v0), (2, .int v2)] [] (zE (oI r) M')
  unfold fX9_allLetters at h
  refine zr_iconst (q := 1) (v := 0) dX9_allLetters_0 rfl (by decide) ?_
  refine zr_istore_n (q := 2) (L' := [(3, .int (0 : Int32)), (0, .long v0), (2, .int v2)]) dX9_allLetters_1 rfl rfl (by decide) rfl ?_
  exact zr_pick [1, 2, 0] rfl (tX9_allLetters_2 n M v0 v2 (0 : Int32) _ _ h)
