/-! by program: wip/decomp.py, wip/mk_code.py -/
def uX10_thrown : zMu := (yX10_thrown, cX10_thrown, 1, (some .int), { frames := 0, cells := 0, slots := 0, locals := 0 }, [])
theorem zd_X10_thrown : (uY uX10_thrown).cls ≠ "java/lang/invoke/MethodHandle" ∧ (uY uX10_thrown).cls ≠ "java/lang/invoke/VarHandle" ∧ (parseMethodDescriptor (uY uX10_thrown).desc).map (fun d => d.parameters.length) = some 0 := by decide +kernel
def fX10_thrown (n : Nat) (M : zM) (v0 : Nat) : Option (Int32 × zM) :=
  chk (mK M v0 == 10) <|
  some ((mI M v0 0), M)
set_option maxHeartbeats 4000000 in
theorem tX10_thrown (n : Nat) (M : zM) (v0 : Nat) (r : Int32) (M' : zM) (h : fX10_thrown n M v0 = some (r, M')) : zMet uX10_thrown false M [.ref v0] (zE (oI r) M') := by
  refine zMet_of (L := [(0, .ref v0)]) (by decide +kernel) rfl rfl (Nat.le_of_ble_eq_true rfl) ?_
  show zW uX10_thrown none (0, 0) M 0 [(0, .ref v0)] [] (zE (oI r) M')
  unfold fX10_thrown at h
  refine zr_aload_n (q := 1) dX10_thrown_0 rfl rfl 0 rfl ?_
  obtain ⟨c_1, h⟩ := chk_some h
  refine zr_get (q := 4) (ci := 10) (k := 0) dX10_thrown_1 rfl (eq_of_beq c_1) rfl (by decide) rfl zbX10 (by decide) zb_378 rfl ?_
  cases h
  exact zr_ireturn dX10_thrown_4 rfl ⟨by decide, by decide⟩ ⟨rfl, rfl⟩

def uX10_letterOf : zMu := (yX10_letterOf, cX10_letterOf, 1, (some .int), { frames := 0, cells := 0, slots := 0, locals := 0 }, [])
theorem zd_X10_letterOf : (uY uX10_letterOf).cls ≠ "java/lang/invoke/MethodHandle" ∧ (uY uX10_letterOf).cls ≠ "java/lang/invoke/VarHandle" ∧ (parseMethodDescriptor (uY uX10_letterOf).desc).map (fun d => d.parameters.length) = some 1 := by decide +kernel
def fX10_letterOf_41 (n : Nat) (M : zM)  : Option (Int32 × zM) :=
  some ((-1 : Int32), M)
set_option maxHeartbeats 4000000 in
theorem tX10_letterOf_41 (n : Nat) (M : zM)  (r : Int32) (M' : zM) (h : fX10_letterOf_41 n M = some (r, M')) : zW uX10_letterOf none (0, 0) M 41 [] [] (zE (oI r) M') := by
  unfold fX10_letterOf_41 at h
  refine zr_iconst (q := 42) (v := -1) dX10_letterOf_41 rfl (by decide) ?_
  cases h
  exact zr_ireturn dX10_letterOf_42 rfl ⟨by decide, by decide⟩ ⟨rfl, rfl⟩
def fX10_letterOf_19 (n : Nat) (M : zM) (v0 : Int32) : Option (Int32 × zM) :=
  if v0 < (48 : Int32) then
    fX10_letterOf_41 n M
  else
  if (57 : Int32) < v0 then
    fX10_letterOf_41 n M
  else
  some (((v0 - (48 : Int32)) + (26 : Int32)), M)
set_option maxHeartbeats 4000000 in
theorem tX10_letterOf_19 (n : Nat) (M : zM) (v0 : Int32) (r : Int32) (M' : zM) (h : fX10_letterOf_19 n M v0 = some (r, M')) : zW uX10_letterOf none (0, 0) M 19 [(0, .int v0)] [] (zE (oI r) M') := by
  unfold fX10_letterOf_19 at h
  refine zr_iload_n (q := 20) dX10_letterOf_19 rfl rfl 0 rfl ?_
  refine zr_bipush (q := 22) (v := 48) dX10_letterOf_20 rfl (by decide) ?_
  refine zr_icmp_lt (q := 25) (tgt := 41) dX10_letterOf_22 rfl (by decide) (fun c_1 => ?_) (fun c_1 => ?_)
  · replace h := ite_t c_1 h
    exact zr_pick [] rfl (tX10_letterOf_41 n M _ _ h)
  · replace h := ite_f c_1 h
    refine zr_iload_n (q := 26) dX10_letterOf_25 rfl rfl 0 rfl ?_
    refine zr_bipush (q := 28) (v := 57) dX10_letterOf_26 rfl (by decide) ?_
    refine zr_icmp_gt (q := 31) (tgt := 41) dX10_letterOf_28 rfl (by decide) (fun c_2 => ?_) (fun c_2 => ?_)
    · replace h := ite_t c_2 h
      exact zr_pick [] rfl (tX10_letterOf_41 n M _ _ h)
    · replace h := ite_f c_2 h
      refine zr_iload_n (q := 32) dX10_letterOf_31 rfl rfl 0 rfl ?_
      refine zr_bipush (q := 34) (v := 48) dX10_letterOf_32 rfl (by decide) ?_
      refine zr_isub (q := 35) dX10_letterOf_34 rfl ?_
      refine zr_bipush (q := 37) (v := 26) dX10_letterOf_35 rfl (by decide) ?_
      refine zr_iadd (q := 38) dX10_letterOf_37 rfl ?_
      refine zr_goto (q := 42) dX10_letterOf_38 (by decide) ?_
      cases h
      exact zr_ireturn dX10_letterOf_42 rfl ⟨by decide, by decide⟩ ⟨rfl, rfl⟩
def fX10_letterOf (n : Nat) (M : zM) (v0 : Int32) : Option (Int32 × zM) :=
  if v0 < (97 : Int32) then
    fX10_letterOf_19 n M v0
  else
  if (122 : Int32) < v0 then
    fX10_letterOf_19 n M v0
  else
  some ((v0 - (97 : Int32)), M)
set_option maxHeartbeats 4000000 in
theorem tX10_letterOf (n : Nat) (M : zM) (v0 : Int32) (r : Int32) (M' : zM) (h : fX10_letterOf n M v0 = some (r, M')) : zMet uX10_letterOf false M [.int v0] (zE (oI r) M') := by
  refine zMet_of (L := [(0, .int v0)]) (by decide +kernel) rfl rfl (Nat.le_of_ble_eq_true rfl) ?_
  show zW uX10_letterOf none (0, 0) M 0 [(0, .int v0)] [] (zE (oI r) M')
  unfold fX10_letterOf at h
  refine zr_iload_n (q := 1) dX10_letterOf_0 rfl rfl 0 rfl ?_
  refine zr_bipush (q := 3) (v := 97) dX10_letterOf_1 rfl (by decide) ?_
  refine zr_icmp_lt (q := 6) (tgt := 19) dX10_letterOf_3 rfl (by decide) (fun c_1 => ?_) (fun c_1 => ?_)
  · replace h := ite_t c_1 h
    exact zr_pick [0] rfl (tX10_letterOf_19 n M v0 _ _ h)
  · replace h := ite_f c_1 h
    refine zr_iload_n (q := 7) dX10_letterOf_6 rfl rfl 0 rfl ?_
    refine zr_bipush (q := 9) (v := 122) dX10_letterOf_7 rfl (by decide) ?_
    refine zr_icmp_gt (q := 12) (tgt := 19) dX10_letterOf_9 rfl (by decide) (fun c_2 => ?_) (fun c_2 => ?_)
    · replace h := ite_t c_2 h
      exact zr_pick [0] rfl (tX10_letterOf_19 n M v0 _ _ h)
    · replace h := ite_f c_2 h
      refine zr_iload_n (q := 13) dX10_letterOf_12 rfl rfl 0 rfl ?_
      refine zr_bipush (q := 15) (v := 97) dX10_letterOf_13 rfl (by decide) ?_
      refine zr_isub (q := 16) dX10_letterOf_15 rfl ?_
      refine zr_goto (q := 42) dX10_letterOf_16 (by decide) ?_
      cases h
      exact zr_ireturn dX10_letterOf_42 rfl ⟨by decide, by decide⟩ ⟨rfl, rfl⟩

def uX10_hasBit : zMu := (yX10_hasBit, cX10_hasBit, 3, (some .boolean), { frames := 0, cells := 0, slots := 0, locals := 0 }, [])
theorem zd_X10_hasBit : (uY uX10_hasBit).cls ≠ "java/lang/invoke/MethodHandle" ∧ (uY uX10_hasBit).cls ≠ "java/lang/invoke/VarHandle" ∧ (parseMethodDescriptor (uY uX10_hasBit).desc).map (fun d => d.parameters.length) = some 2 := by decide +kernel
def fX10_hasBit (n : Nat) (M : zM) (v0 : Int64) (v2 : Int32) : Option (Int32 × zM) :=
  if (lg_cmp ((jshr v0 v2) &&& (1 : Int64)) (1 : Int64)) = (0 : Int32) then
    some ((1 : Int32), M)
  else
  some ((0 : Int32), M)
set_option maxHeartbeats 4000000 in
theorem tX10_hasBit (n : Nat) (M : zM) (v0 : Int64) (v2 : Int32) (r : Int32) (M' : zM) (h : fX10_hasBit n M v0 v2 = some (r, M')) : zMet uX10_hasBit false M [.long v0, .int v2] (zE (oI r) M') := by
  refine zMet_of (L := [(0, .long v0), (2, .int v2)]) (by decide +kernel) rfl rfl (Nat.le_of_ble_eq_true rfl) ?_
  show zW uX10_hasBit none (0, 0) M 0 [(0, .long v0), (2, .int v2)] [] (zE (oI r) M')
  unfold fX10_hasBit at h
  refine zr_lload_n (q := 1) dX10_hasBit_0 rfl rfl 0 rfl ?_
  refine zr_iload_n (q := 2) dX10_hasBit_1 rfl rfl 1 rfl ?_
  refine zr_lshr (q := 3) dX10_hasBit_2 rfl ?_
  refine zr_lconst (q := 4) (v := 1) dX10_hasBit_3 rfl (by decide) ?_
  refine zr_land (q := 5) dX10_hasBit_4 rfl ?_
  refine zr_lconst (q := 6) (v := 1) dX10_hasBit_5 rfl (by decide) ?_
  refine zr_lcmp (q := 7) dX10_hasBit_6 rfl ?_
  refine zr_if_ne (q := 10) (tgt := 14) dX10_hasBit_7 rfl (by decide) (fun c_1 => ?_) (fun c_1 => ?_)
  · replace h := ite_f c_1 h
    refine zr_iconst (q := 15) (v := 0) dX10_hasBit_14 rfl (by decide) ?_
    cases h
    exact zr_zreturn dX10_hasBit_15 rfl (Or.inl rfl) ⟨by decide, by decide⟩ ⟨rfl, rfl⟩
  · replace h := ite_t c_1 h
    refine zr_iconst (q := 11) (v := 1) dX10_hasBit_10 rfl (by decide) ?_
    refine zr_goto (q := 15) dX10_hasBit_11 (by decide) ?_
    cases h
    exact zr_zreturn dX10_hasBit_15 rfl (Or.inr rfl) ⟨by decide, by decide⟩ ⟨rfl, rfl⟩

def uX10_type : zMu := (yX10_type, cX10_type, 5, (some .int), { frames := 0, cells := 0, slots := 0, locals := 0 }, [])
theorem zd_X10_type : (uY uX10_type).cls ≠ "java/lang/invoke/MethodHandle" ∧ (uY uX10_type).cls ≠ "java/lang/invoke/VarHandle" ∧ (parseMethodDescriptor (uY uX10_type).desc).map (fun d => d.parameters.length) = some 2 := by decide +kernel
def fX10_type_48 : Nat → zM → Nat → Int64 → Int32 → Int32 → Option (Int32 × zM)
  | 0, _, _, _, _, _ => none
  | n + 1, M, v0, v1, v3, v4 =>
    if v3 ≤ v4 then
      chk (mK M v0 == 10) <|
      some ((mI M v0 2), M)
    else
    chk (mK M v0 == 10) <|
    bnd (mR M v0 1) fun a_4 =>
    chk (mK M v0 == 10) <|
    chk (mK M a_4 == 11) <|
    chk (zin (mI M v0 2) (mN M a_4)) <|
    app (wI M a_4 (Int32.toNatClampNeg (mI M v0 2)) (Int64.toInt32 ((jshr v1 ((8 : Int32) * v4)) &&& (255 : Int64)))) fun M_9 : zM =>
    chk (mK M_9 v0 == 10) <|
    chk (mK M_9 v0 == 10) <|
    app (wI M_9 v0 2 ((mI M_9 v0 2) + (1 : Int32))) fun M_13 : zM =>
    app (v4 + (1 : Int32)) fun v4_15 : Int32 =>
    (fX10_type_48 n) M_13 v0 v1 v3 v4_15
set_option maxHeartbeats 4000000 in
theorem tX10_type_48 : ∀ (n : Nat) (M : zM) (v0 : Nat) (v1 : Int64) (v3 : Int32) (v4 : Int32) (r : Int32) (M' : zM), fX10_type_48 n M v0 v1 v3 v4 = some (r, M') → zW uX10_type none (0, 0) M 48 [(0, .ref v0), (1, .long v1), (3, .int v3), (4, .int v4)] [] (zE (oI r) M') := by
  intro n
  induction n with
  | zero => intro M v0 v1 v3 v4 r M' h; cases h
  | succ n ih =>
    intro M v0 v1 v3 v4 r M' h
    rw [fX10_type_48] at h
    refine zr_iload (q := 50) dX10_type_48 rfl 3 rfl ?_
    refine zr_iload_n (q := 51) dX10_type_50 rfl rfl 2 rfl ?_
    refine zr_icmp_ge (q := 54) (tgt := 91) dX10_type_51 rfl (by decide) (fun c_1 => ?_) (fun c_1 => ?_)
    · replace h := ite_t c_1 h
      refine zr_aload_n (q := 92) dX10_type_91 rfl rfl 0 rfl ?_
      obtain ⟨c_2, h⟩ := chk_some h
      refine zr_get (q := 95) (ci := 10) (k := 2) dX10_type_92 rfl (eq_of_beq c_2) rfl (by decide) rfl zbX10 (by decide) zb_379 rfl ?_
      cases h
      exact zr_ireturn dX10_type_95 rfl ⟨by decide, by decide⟩ ⟨rfl, rfl⟩
    · replace h := ite_f c_1 h
      refine zr_aload_n (q := 55) dX10_type_54 rfl rfl 0 rfl ?_
      obtain ⟨c_3, h⟩ := chk_some h
      obtain ⟨a_4, e_5, h⟩ := bnd_some h
      refine zr_getr (q := 58) (ci := 10) (k := 1) dX10_type_55 rfl (eq_of_beq c_3) rfl (by decide) rfl zbX10 (by decide) zb_380 rfl e_5 ?_
      refine zr_aload_n (q := 59) dX10_type_58 rfl rfl 0 rfl ?_
      obtain ⟨c_6, h⟩ := chk_some h
      refine zr_get (q := 62) (ci := 10) (k := 2) dX10_type_59 rfl (eq_of_beq c_6) rfl (by decide) rfl zbX10 (by decide) zb_379 rfl ?_
      refine zr_lload_n (q := 63) dX10_type_62 rfl rfl 1 rfl ?_
      refine zr_bipush (q := 65) (v := 8) dX10_type_63 rfl (by decide) ?_
      refine zr_iload (q := 67) dX10_type_65 rfl 3 rfl ?_
      refine zr_imul (q := 68) dX10_type_67 rfl ?_
      refine zr_lshr (q := 69) dX10_type_68 rfl ?_
      refine zr_ldc2 (q := 72) (v := 255) dX10_type_69 rfl zb_381 ?_
      refine zr_land (q := 73) dX10_type_72 rfl ?_
      refine zr_l2i (q := 74) dX10_type_73 rfl ?_
      obtain ⟨c_7, h⟩ := chk_some h
      obtain ⟨c_8, h⟩ := chk_some h
      obtain ⟨M_9, e_10, h⟩ := app_some h
      refine zr_iast (q := 75) dX10_type_74 rfl (eq_of_beq c_7) c_8 ?_
      refine zr_mem e_10 ?_
      refine zr_aload_n (q := 76) dX10_type_75 rfl rfl 0 rfl ?_
      refine zr_dup (q := 77) dX10_type_76 rfl rfl ?_
      obtain ⟨c_11, h⟩ := chk_some h
      refine zr_get (q := 80) (ci := 10) (k := 2) dX10_type_77 rfl (eq_of_beq c_11) rfl (by decide) rfl zbX10 (by decide) zb_379 rfl ?_
      refine zr_iconst (q := 81) (v := 1) dX10_type_80 rfl (by decide) ?_
      refine zr_iadd (q := 82) dX10_type_81 rfl ?_
      obtain ⟨c_12, h⟩ := chk_some h
      obtain ⟨M_13, e_14, h⟩ := app_some h
      refine zr_putI (q := 85) (ci := 10) (k := 2) dX10_type_82 rfl (eq_of_beq c_12) rfl (by decide) rfl zbX10 tyX10_ok nmX10 (by decide) zb_379 (Or.inl rfl) rfl ?_
      refine zr_mem e_14 ?_
      obtain ⟨v4_15, e_16, h⟩ := app_some h
      refine zr_iinc (q := 88) (v := v4_15) (L' := [(4, .int v4_15), (0, .ref v0), (1, .long v1), (3, .int v3)]) dX10_type_85 rfl 3 rfl (by rw [← e_16]; rfl) (by decide) rfl ?_
      refine zr_goto (q := 48) dX10_type_88 (by decide) ?_
      exact zr_pick [1, 2, 3, 0] rfl (ih M_13 v0 v1 v3 v4_15 _ _ h)
def fX10_type_33 (n : Nat) (M : zM) (v0 : Nat) (v1 : Int64) (v3 : Int32) (s0 : Nat) (s1 : Int32) : Option (Int32 × zM) :=
  chk (mK M s0 == 10) <|
  app (wI M s0 0 s1) fun M_2 : zM =>
  chk (mK M_2 v0 == 10) <|
  if (mI M_2 v0 0) ≤ (0 : Int32) then
    fX10_type_48 n M_2 v0 v1 v3 (0 : Int32)
  else
  some ((0 : Int32), M_2)
set_option maxHeartbeats 4000000 in
theorem tX10_type_33 (n : Nat) (M : zM) (v0 : Nat) (v1 : Int64) (v3 : Int32) (s0 : Nat) (s1 : Int32) (r : Int32) (M' : zM) (h : fX10_type_33 n M v0 v1 v3 s0 s1 = some (r, M')) : zW uX10_type none (0, 0) M 33 [(0, .ref v0), (1, .long v1), (3, .int v3)] [.int s1, .ref s0] (zE (oI r) M') := by
  unfold fX10_type_33 at h
  obtain ⟨c_1, h⟩ := chk_some h
  obtain ⟨M_2, e_3, h⟩ := app_some h
  refine zr_putI (q := 36) (ci := 10) (k := 0) dX10_type_33 rfl (eq_of_beq c_1) rfl (by decide) rfl zbX10 tyX10_ok nmX10 (by decide) zb_378 (Or.inl rfl) rfl ?_
  refine zr_mem e_3 ?_
  refine zr_aload_n (q := 37) dX10_type_36 rfl rfl 0 rfl ?_
  obtain ⟨c_4, h⟩ := chk_some h
  refine zr_get (q := 40) (ci := 10) (k := 0) dX10_type_37 rfl (eq_of_beq c_4) rfl (by decide) rfl zbX10 (by decide) zb_378 rfl ?_
  refine zr_if_le (q := 43) (tgt := 45) dX10_type_40 rfl (by decide) (fun c_5 => ?_) (fun c_5 => ?_)
  · replace h := ite_t c_5 h
    refine zr_iconst (q := 46) (v := 0) dX10_type_45 rfl (by decide) ?_
    refine zr_istore (q := 48) (L' := [(4, .int (0 : Int32)), (0, .ref v0), (1, .long v1), (3, .int v3)]) dX10_type_46 rfl (by decide) rfl ?_
    exact zr_pick [1, 2, 3, 0] rfl (tX10_type_48 n M_2 v0 v1 v3 (0 : Int32) _ _ h)
  · replace h := ite_f c_5 h
    refine zr_iconst (q := 44) (v := 0) dX10_type_43 rfl (by decide) ?_
    cases h
    exact zr_ireturn dX10_type_44 rfl ⟨by decide, by decide⟩ ⟨rfl, rfl⟩
def fX10_type_12 (n : Nat) (M : zM) (v0 : Nat) (v1 : Int64) (v3 : Int32) (s0 : Nat) : Option (Int32 × zM) :=
  fX10_type_33 n M v0 v1 v3 s0 (1 : Int32)
set_option maxHeartbeats 4000000 in
theorem tX10_type_12 (n : Nat) (M : zM) (v0 : Nat) (v1 : Int64) (v3 : Int32) (s0 : Nat) (r : Int32) (M' : zM) (h : fX10_type_12 n M v0 v1 v3 s0 = some (r, M')) : zW uX10_type none (0, 0) M 12 [(0, .ref v0), (1, .long v1), (3, .int v3)] [.ref s0] (zE (oI r) M') := by
  unfold fX10_type_12 at h
  refine zr_iconst (q := 13) (v := 1) dX10_type_12 rfl (by decide) ?_
  refine zr_goto (q := 33) dX10_type_13 (by decide) ?_
  exact zr_pick [0, 1, 2] rfl (tX10_type_33 n M v0 v1 v3 s0 (1 : Int32) _ _ h)
def fX10_type (n : Nat) (M : zM) (v0 : Nat) (v1 : Int64) (v3 : Int32) : Option (Int32 × zM) :=
  if v3 < (1 : Int32) then
    fX10_type_12 n M v0 v1 v3 v0
  else
  if v3 ≤ (8 : Int32) then
    chk (mK M v0 == 10) <|
    if ((mI M v0 2) + v3) ≤ (200 : Int32) then
      fX10_type_33 n M v0 v1 v3 v0 (0 : Int32)
    else
    fX10_type_33 n M v0 v1 v3 v0 (2 : Int32)
  else
  fX10_type_12 n M v0 v1 v3 v0
set_option maxHeartbeats 4000000 in
theorem tX10_type (n : Nat) (M : zM) (v0 : Nat) (v1 : Int64) (v3 : Int32) (r : Int32) (M' : zM) (h : fX10_type n M v0 v1 v3 = some (r, M')) : zMet uX10_type false M [.ref v0, .long v1, .int v3] (zE (oI r) M') := by
  refine zMet_of (L := [(0, .ref v0), (1, .long v1), (3, .int v3)]) (by decide +kernel) rfl rfl (Nat.le_of_ble_eq_true rfl) ?_
  show zW uX10_type none (0, 0) M 0 [(0, .ref v0), (1, .long v1), (3, .int v3)] [] (zE (oI r) M')
  unfold fX10_type at h
  refine zr_aload_n (q := 1) dX10_type_0 rfl rfl 0 rfl ?_
  refine zr_iload_n (q := 2) dX10_type_1 rfl rfl 2 rfl ?_
  refine zr_iconst (q := 3) (v := 1) dX10_type_2 rfl (by decide) ?_
  refine zr_icmp_lt (q := 6) (tgt := 12) dX10_type_3 rfl (by decide) (fun c_1 => ?_) (fun c_1 => ?_)
  · replace h := ite_t c_1 h
    exact zr_pick [0, 1, 2] rfl (tX10_type_12 n M v0 v1 v3 v0 _ _ h)
  · replace h := ite_f c_1 h
    refine zr_iload_n (q := 7) dX10_type_6 rfl rfl 2 rfl ?_
    refine zr_bipush (q := 9) (v := 8) dX10_type_7 rfl (by decide) ?_
    refine zr_icmp_le (q := 12) (tgt := 16) dX10_type_9 rfl (by decide) (fun c_2 => ?_) (fun c_2 => ?_)
    · replace h := ite_t c_2 h
      refine zr_aload_n (q := 17) dX10_type_16 rfl rfl 0 rfl ?_
      obtain ⟨c_3, h⟩ := chk_some h
      refine zr_get (q := 20) (ci := 10) (k := 2) dX10_type_17 rfl (eq_of_beq c_3) rfl (by decide) rfl zbX10 (by decide) zb_379 rfl ?_
      refine zr_iload_n (q := 21) dX10_type_20 rfl rfl 2 rfl ?_
      refine zr_iadd (q := 22) dX10_type_21 rfl ?_
      refine zr_sipush (q := 25) (v := 200) dX10_type_22 rfl (by decide) ?_
      refine zr_icmp_le (q := 28) (tgt := 32) dX10_type_25 rfl (by decide) (fun c_4 => ?_) (fun c_4 => ?_)
      · replace h := ite_t c_4 h
        refine zr_iconst (q := 33) (v := 0) dX10_type_32 rfl (by decide) ?_
        exact zr_pick [0, 1, 2] rfl (tX10_type_33 n M v0 v1 v3 v0 (0 : Int32) _ _ h)
      · replace h := ite_f c_4 h
        refine zr_iconst (q := 29) (v := 2) dX10_type_28 rfl (by decide) ?_
        refine zr_goto (q := 33) dX10_type_29 (by decide) ?_
        exact zr_pick [0, 1, 2] rfl (tX10_type_33 n M v0 v1 v3 v0 (2 : Int32) _ _ h)
    · replace h := ite_f c_2 h
      exact zr_pick [0, 1, 2] rfl (tX10_type_12 n M v0 v1 v3 v0 _ _ h)

def uX10_fail : zMu := (yX10_fail, cX10_fail, 3, none, { frames := 0, cells := 0, slots := 0, locals := 0 }, [])
theorem zd_X10_fail : (uY uX10_fail).cls ≠ "java/lang/invoke/MethodHandle" ∧ (uY uX10_fail).cls ≠ "java/lang/invoke/VarHandle" ∧ (parseMethodDescriptor (uY uX10_fail).desc).map (fun d => d.parameters.length) = some 2 := by decide +kernel
def fX10_fail (n : Nat) (M : zM) (v0 : Nat) (v1 : Int32) (v2 : Int32) : Option (Unit × zM) :=
  chk (mK M v0 == 10) <|
  if (mI M v0 29) = (0 : Int32) then
    chk (mK M v0 == 10) <|
    app (wI M v0 29 v1) fun M_4 : zM =>
    chk (mK M_4 v0 == 10) <|
    app (wI M_4 v0 5 v2) fun M_7 : zM =>
    some ((), M_7)
  else
  some ((), M)
set_option maxHeartbeats 4000000 in
theorem tX10_fail (n : Nat) (M : zM) (v0 : Nat) (v1 : Int32) (v2 : Int32) (r : Unit) (M' : zM) (h : fX10_fail n M v0 v1 v2 = some (r, M')) : zMet uX10_fail false M [.ref v0, .int v1, .int v2] (zE (oV r) M') := by
  refine zMet_of (L := [(0, .ref v0), (1, .int v1), (2, .int v2)]) (by decide +kernel) rfl rfl (Nat.le_of_ble_eq_true rfl) ?_
  show zW uX10_fail none (0, 0) M 0 [(0, .ref v0), (1, .int v1), (2, .int v2)] [] (zE (oV r) M')
  unfold fX10_fail at h
  refine zr_aload_n (q := 1) dX10_fail_0 rfl rfl 0 rfl ?_
  obtain ⟨c_1, h⟩ := chk_some h
  refine zr_get (q := 4) (ci := 10) (k := 29) dX10_fail_1 rfl (eq_of_beq c_1) rfl (by decide) rfl zbX10 (by decide) zb_382 rfl ?_
  refine zr_if_ne (q := 7) (tgt := 17) dX10_fail_4 rfl (by decide) (fun c_2 => ?_) (fun c_2 => ?_)
  · replace h := ite_f c_2 h
    cases h
    exact zr_return dX10_fail_17 rfl ⟨by decide, by decide⟩ ⟨rfl, rfl⟩
  · replace h := ite_t c_2 h
    refine zr_aload_n (q := 8) dX10_fail_7 rfl rfl 0 rfl ?_
    refine zr_iload_n (q := 9) dX10_fail_8 rfl rfl 1 rfl ?_
    obtain ⟨c_3, h⟩ := chk_some h
    obtain ⟨M_4, e_5, h⟩ := app_some h
    refine zr_putI (q := 12) (ci := 10) (k := 29) dX10_fail_9 rfl (eq_of_beq c_3) rfl (by decide) rfl zbX10 tyX10_ok nmX10 (by decide) zb_382 (Or.inl rfl) rfl ?_
    refine zr_mem e_5 ?_
    refine zr_aload_n (q := 13) dX10_fail_12 rfl rfl 0 rfl ?_
    refine zr_iload_n (q := 14) dX10_fail_13 rfl rfl 2 rfl ?_
    obtain ⟨c_6, h⟩ := chk_some h
    obtain ⟨M_7, e_8, h⟩ := app_some h
    refine zr_putI (q := 17) (ci := 10) (k := 5) dX10_fail_14 rfl (eq_of_beq c_6) rfl (by decide) rfl zbX10 tyX10_ok nmX10 (by decide) zb_383 (Or.inl rfl) rfl ?_
    refine zr_mem e_8 ?_
    cases h
    exact zr_return dX10_fail_17 rfl ⟨by decide, by decide⟩ ⟨rfl, rfl⟩

def uX10_here : zMu := (yX10_here, cX10_here, 1, (some .int), { frames := 0, cells := 0, slots := 0, locals := 0 }, [])
theorem zd_X10_here : (uY uX10_here).cls ≠ "java/lang/invoke/MethodHandle" ∧ (uY uX10_here).cls ≠ "java/lang/invoke/VarHandle" ∧ (parseMethodDescriptor (uY uX10_here).desc).map (fun d => d.parameters.length) = some 0 := by decide +kernel
def fX10_here (n : Nat) (M : zM) (v0 : Nat) : Option (Int32 × zM) :=
  chk (mK M v0 == 10) <|
  chk (mK M v0 == 10) <|
  if (mI M v0 2) ≤ (mI M v0 28) then
    some ((-1 : Int32), M)
  else
  chk (mK M v0 == 10) <|
  bnd (mR M v0 1) fun a_5 =>
  chk (mK M v0 == 10) <|
  chk (mK M a_5 == 11) <|
  chk (zin (mI M v0 28) (mN M a_5)) <|
  some ((mI M a_5 (Int32.toNatClampNeg (mI M v0 28))), M)
set_option maxHeartbeats 4000000 in
theorem tX10_here (n : Nat) (M : zM) (v0 : Nat) (r : Int32) (M' : zM) (h : fX10_here n M v0 = some (r, M')) : zMet uX10_here false M [.ref v0] (zE (oI r) M') := by
  refine zMet_of (L := [(0, .ref v0)]) (by decide +kernel) rfl rfl (Nat.le_of_ble_eq_true rfl) ?_
  show zW uX10_here none (0, 0) M 0 [(0, .ref v0)] [] (zE (oI r) M')
  unfold fX10_here at h
  refine zr_aload_n (q := 1) dX10_here_0 rfl rfl 0 rfl ?_
  obtain ⟨c_1, h⟩ := chk_some h
  refine zr_get (q := 4) (ci := 10) (k := 28) dX10_here_1 rfl (eq_of_beq c_1) rfl (by decide) rfl zbX10 (by decide) zb_384 rfl ?_
  refine zr_aload_n (q := 5) dX10_here_4 rfl rfl 0 rfl ?_
  obtain ⟨c_2, h⟩ := chk_some h
  refine zr_get (q := 8) (ci := 10) (k := 2) dX10_here_5 rfl (eq_of_beq c_2) rfl (by decide) rfl zbX10 (by decide) zb_379 rfl ?_
  refine zr_icmp_ge (q := 11) (tgt := 23) dX10_here_8 rfl (by decide) (fun c_3 => ?_) (fun c_3 => ?_)
  · replace h := ite_t c_3 h
    refine zr_iconst (q := 24) (v := -1) dX10_here_23 rfl (by decide) ?_
    cases h
    exact zr_ireturn dX10_here_24 rfl ⟨by decide, by decide⟩ ⟨rfl, rfl⟩
  · replace h := ite_f c_3 h
    refine zr_aload_n (q := 12) dX10_here_11 rfl rfl 0 rfl ?_
    obtain ⟨c_4, h⟩ := chk_some h
    obtain ⟨a_5, e_6, h⟩ := bnd_some h
    refine zr_getr (q := 15) (ci := 10) (k := 1) dX10_here_12 rfl (eq_of_beq c_4) rfl (by decide) rfl zbX10 (by decide) zb_380 rfl e_6 ?_
    refine zr_aload_n (q := 16) dX10_here_15 rfl rfl 0 rfl ?_
    obtain ⟨c_7, h⟩ := chk_some h
    refine zr_get (q := 19) (ci := 10) (k := 28) dX10_here_16 rfl (eq_of_beq c_7) rfl (by decide) rfl zbX10 (by decide) zb_384 rfl ?_
    obtain ⟨c_8, h⟩ := chk_some h
    obtain ⟨c_9, h⟩ := chk_some h
    refine zr_iald (q := 20) dX10_here_19 rfl (eq_of_beq c_8) c_9 ?_
    refine zr_goto (q := 24) dX10_here_20 (by decide) ?_
    cases h
    exact zr_ireturn dX10_here_24 rfl ⟨by decide, by decide⟩ ⟨rfl, rfl⟩

def uX10_failHere : zMu := (yX10_failHere, cX10_failHere, 1, none, { frames := 1, cells := 0, slots := 0, locals := 22 }, [])
theorem zd_X10_failHere : (uY uX10_failHere).cls ≠ "java/lang/invoke/MethodHandle" ∧ (uY uX10_failHere).cls ≠ "java/lang/invoke/VarHandle" ∧ (parseMethodDescriptor (uY uX10_failHere).desc).map (fun d => d.parameters.length) = some 0 := by decide +kernel
def fX10_failHere_17 (n : Nat) (M : zM) (v0 : Nat) (s0 : Nat) (s1 : Int32) : Option (Unit × zM) :=
  chk (mK M v0 == 10) <|
  chk (mK M s0 == 10) <|
  bnd2 (fX10_fail n M s0 s1 (mI M v0 28)) fun r_2 M_3 =>
  some ((), M_3)
set_option maxHeartbeats 4000000 in
theorem tX10_failHere_17 (n : Nat) (M : zM) (v0 : Nat) (s0 : Nat) (s1 : Int32) (r : Unit) (M' : zM) (h : fX10_failHere_17 n M v0 s0 s1 = some (r, M')) : zW uX10_failHere none (0, 0) M 17 [(0, .ref v0)] [.int s1, .ref s0] (zE (oV r) M') := by
  unfold fX10_failHere_17 at h
  refine zr_aload_n (q := 18) dX10_failHere_17 rfl rfl 0 rfl ?_
  obtain ⟨c_1, h⟩ := chk_some h
  refine zr_get (q := 21) (ci := 10) (k := 28) dX10_failHere_18 rfl (eq_of_beq c_1) rfl (by decide) rfl zbX10 (by decide) zb_384 rfl ?_
  obtain ⟨c_5, h⟩ := chk_some h
  obtain ⟨r_2, M_3, hc_4, h⟩ := bnd2_some h
  refine zr_callVV (μ' := uX10_fail) (q := 24) (n := 2) (ci := 10) (As := [.int s1, .int (mI M v0 28)]) (u' := (0, 0)) (tX10_fail n M s0 s1 (mI M v0 28) _ _ hc_4) dX10_failHere_21 rfl rfl ⟨zb_385, zb_386, zb_387, zb_388, zb_389⟩ zd_X10_fail ⟨by decide, by decide⟩ ⟨by decide, by decide⟩ (eq_of_beq c_5) (by decide) rfl rfl rfl (Nat.le_of_ble_eq_true rfl) rfl rfl ?_
  cases h
  exact zr_return dX10_failHere_24 rfl ⟨by decide, by decide⟩ ⟨rfl, rfl⟩
def fX10_failHere (n : Nat) (M : zM) (v0 : Nat) : Option (Unit × zM) :=
  chk (mK M v0 == 10) <|
  chk (mK M v0 == 10) <|
  if (mI M v0 2) ≤ (mI M v0 28) then
    fX10_failHere_17 n M v0 v0 (2 : Int32)
  else
  fX10_failHere_17 n M v0 v0 (1 : Int32)
set_option maxHeartbeats 4000000 in
theorem tX10_failHere (n : Nat) (M : zM) (v0 : Nat) (r : Unit) (M' : zM) (h : fX10_failHere n M v0 = some (r, M')) : zMet uX10_failHere false M [.ref v0] (zE (oV r) M') := by
  refine zMet_of (L := [(0, .ref v0)]) (by decide +kernel) rfl rfl (Nat.le_of_ble_eq_true rfl) ?_
  show zW uX10_failHere none (0, 0) M 0 [(0, .ref v0)] [] (zE (oV r) M')
  unfold fX10_failHere at h
  refine zr_aload_n (q := 1) dX10_failHere_0 rfl rfl 0 rfl ?_
  refine zr_aload_n (q := 2) dX10_failHere_1 rfl rfl 0 rfl ?_
  obtain ⟨c_1, h⟩ := chk_some h
  refine zr_get (q := 5) (ci := 10) (k := 28) dX10_failHere_2 rfl (eq_of_beq c_1) rfl (by decide) rfl zbX10 (by decide) zb_384 rfl ?_
  refine zr_aload_n (q := 6) dX10_failHere_5 rfl rfl 0 rfl ?_
  obtain ⟨c_2, h⟩ := chk_some h
  refine zr_get (q := 9) (ci := 10) (k := 2) dX10_failHere_6 rfl (eq_of_beq c_2) rfl (by decide) rfl zbX10 (by decide) zb_379 rfl ?_
  refine zr_icmp_ge (q := 12) (tgt := 16) dX10_failHere_9 rfl (by decide) (fun c_3 => ?_) (fun c_3 => ?_)
  · replace h := ite_t c_3 h
    refine zr_iconst (q := 17) (v := 2) dX10_failHere_16 rfl (by decide) ?_
    exact zr_pick [0] rfl (tX10_failHere_17 n M v0 v0 (2 : Int32) _ _ h)
  · replace h := ite_f c_3 h
    refine zr_iconst (q := 13) (v := 1) dX10_failHere_12 rfl (by decide) ?_
    refine zr_goto (q := 17) dX10_failHere_13 (by decide) ?_
    exact zr_pick [0] rfl (tX10_failHere_17 n M v0 v0 (1 : Int32) _ _ h)

def uX10_beginRow : zMu := (yX10_beginRow, cX10_beginRow, 1, none, { frames := 0, cells := 0, slots := 0, locals := 0 }, [])
theorem zd_X10_beginRow : (uY uX10_beginRow).cls ≠ "java/lang/invoke/MethodHandle" ∧ (uY uX10_beginRow).cls ≠ "java/lang/invoke/VarHandle" ∧ (parseMethodDescriptor (uY uX10_beginRow).desc).map (fun d => d.parameters.length) = some 0 := by decide +kernel
def fX10_beginRow (n : Nat) (M : zM) (v0 : Nat) : Option (Unit × zM) :=
  chk (mK M v0 == 10) <|
  bnd (mR M v0 15) fun a_2 =>
  chk (mK M v0 == 10) <|
  chk (mK M a_2 == 13) <|
  chk (zin (mI M v0 13) (mN M a_2)) <|
  app (wI M a_2 (Int32.toNatClampNeg (mI M v0 13)) (vp_nar .boolean (1 : Int32))) fun M_7 : zM =>
  chk (mK M_7 v0 == 10) <|
  bnd (mR M_7 v0 16) fun a_10 =>
  chk (mK M_7 v0 == 10) <|
  chk (mK M_7 a_10 == 12) <|
  chk (zin (mI M_7 v0 13) (mN M_7 a_10)) <|
  app (wL M_7 a_10 (Int32.toNatClampNeg (mI M_7 v0 13)) (0 : Int64)) fun M_15 : zM =>
  chk (mK M_15 v0 == 10) <|
  bnd (mR M_15 v0 17) fun a_18 =>
  chk (mK M_15 v0 == 10) <|
  chk (mK M_15 a_18 == 12) <|
  chk (zin (mI M_15 v0 13) (mN M_15 a_18)) <|
  app (wL M_15 a_18 (Int32.toNatClampNeg (mI M_15 v0 13)) (0 : Int64)) fun M_23 : zM =>
  chk (mK M_23 v0 == 10) <|
  bnd (mR M_23 v0 18) fun a_26 =>
  chk (mK M_23 v0 == 10) <|
  chk (mK M_23 a_26 == 13) <|
  chk (zin (mI M_23 v0 13) (mN M_23 a_26)) <|
  app (wI M_23 a_26 (Int32.toNatClampNeg (mI M_23 v0 13)) (vp_nar .boolean (0 : Int32))) fun M_31 : zM =>
  some ((), M_31)
set_option maxHeartbeats 4000000 in
theorem tX10_beginRow (n : Nat) (M : zM) (v0 : Nat) (r : Unit) (M' : zM) (h : fX10_beginRow n M v0 = some (r, M')) : zMet uX10_beginRow false M [.ref v0] (zE (oV r) M') := by
  refine zMet_of (L := [(0, .ref v0)]) (by decide +kernel) rfl rfl (Nat.le_of_ble_eq_true rfl) ?_
  show zW uX10_beginRow none (0, 0) M 0 [(0, .ref v0)] [] (zE (oV r) M')
  unfold fX10_beginRow at h
  refine zr_aload_n (q := 1) dX10_beginRow_0 rfl rfl 0 rfl ?_
  obtain ⟨c_1, h⟩ := chk_some h
  obtain ⟨a_2, e_3, h⟩ := bnd_some h
  refine zr_getr (q := 4) (ci := 10) (k := 15) dX10_beginRow_1 rfl (eq_of_beq c_1) rfl (by decide) rfl zbX10 (by decide) zb_390 rfl e_3 ?_
  refine zr_aload_n (q := 5) dX10_beginRow_4 rfl rfl 0 rfl ?_
  obtain ⟨c_4, h⟩ := chk_some h
  refine zr_get (q := 8) (ci := 10) (k := 13) dX10_beginRow_5 rfl (eq_of_beq c_4) rfl (by decide) rfl zbX10 (by decide) zb_391 rfl ?_
  refine zr_iconst (q := 9) (v := 1) dX10_beginRow_8 rfl (by decide) ?_
  obtain ⟨c_5, h⟩ := chk_some h
  obtain ⟨c_6, h⟩ := chk_some h
  obtain ⟨M_7, e_8, h⟩ := app_some h
  refine zr_zast (q := 10) dX10_beginRow_9 rfl (eq_of_beq c_5) c_6 ?_
  refine zr_mem e_8 ?_
  refine zr_aload_n (q := 11) dX10_beginRow_10 rfl rfl 0 rfl ?_
  obtain ⟨c_9, h⟩ := chk_some h
  obtain ⟨a_10, e_11, h⟩ := bnd_some h
  refine zr_getr (q := 14) (ci := 10) (k := 16) dX10_beginRow_11 rfl (eq_of_beq c_9) rfl (by decide) rfl zbX10 (by decide) zb_392 rfl e_11 ?_
  refine zr_aload_n (q := 15) dX10_beginRow_14 rfl rfl 0 rfl ?_
  obtain ⟨c_12, h⟩ := chk_some h
  refine zr_get (q := 18) (ci := 10) (k := 13) dX10_beginRow_15 rfl (eq_of_beq c_12) rfl (by decide) rfl zbX10 (by decide) zb_391 rfl ?_
  refine zr_lconst (q := 19) (v := 0) dX10_beginRow_18 rfl (by decide) ?_
  obtain ⟨c_13, h⟩ := chk_some h
  obtain ⟨c_14, h⟩ := chk_some h
  obtain ⟨M_15, e_16, h⟩ := app_some h
  refine zr_last (q := 20) dX10_beginRow_19 rfl (eq_of_beq c_13) c_14 ?_
  refine zr_mem e_16 ?_
  refine zr_aload_n (q := 21) dX10_beginRow_20 rfl rfl 0 rfl ?_
  obtain ⟨c_17, h⟩ := chk_some h
  obtain ⟨a_18, e_19, h⟩ := bnd_some h
  refine zr_getr (q := 24) (ci := 10) (k := 17) dX10_beginRow_21 rfl (eq_of_beq c_17) rfl (by decide) rfl zbX10 (by decide) zb_393 rfl e_19 ?_
  refine zr_aload_n (q := 25) dX10_beginRow_24 rfl rfl 0 rfl ?_
  obtain ⟨c_20, h⟩ := chk_some h
  refine zr_get (q := 28) (ci := 10) (k := 13) dX10_beginRow_25 rfl (eq_of_beq c_20) rfl (by decide) rfl zbX10 (by decide) zb_391 rfl ?_
  refine zr_lconst (q := 29) (v := 0) dX10_beginRow_28 rfl (by decide) ?_
  obtain ⟨c_21, h⟩ := chk_some h
  obtain ⟨c_22, h⟩ := chk_some h
  obtain ⟨M_23, e_24, h⟩ := app_some h
  refine zr_last (q := 30) dX10_beginRow_29 rfl (eq_of_beq c_21) c_22 ?_
  refine zr_mem e_24 ?_
  refine zr_aload_n (q := 31) dX10_beginRow_30 rfl rfl 0 rfl ?_
  obtain ⟨c_25, h⟩ := chk_some h
  obtain ⟨a_26, e_27, h⟩ := bnd_some h
  refine zr_getr (q := 34) (ci := 10) (k := 18) dX10_beginRow_31 rfl (eq_of_beq c_25) rfl (by decide) rfl zbX10 (by decide) zb_394 rfl e_27 ?_
  refine zr_aload_n (q := 35) dX10_beginRow_34 rfl rfl 0 rfl ?_
  obtain ⟨c_28, h⟩ := chk_some h
  refine zr_get (q := 38) (ci := 10) (k := 13) dX10_beginRow_35 rfl (eq_of_beq c_28) rfl (by decide) rfl zbX10 (by decide) zb_391 rfl ?_
  refine zr_iconst (q := 39) (v := 0) dX10_beginRow_38 rfl (by decide) ?_
  obtain ⟨c_29, h⟩ := chk_some h
  obtain ⟨c_30, h⟩ := chk_some h
  obtain ⟨M_31, e_32, h⟩ := app_some h
  refine zr_zast (q := 40) dX10_beginRow_39 rfl (eq_of_beq c_29) c_30 ?_
  refine zr_mem e_32 ?_
  cases h
  exact zr_return dX10_beginRow_40 rfl ⟨by decide, by decide⟩ ⟨rfl, rfl⟩

def uX10_beginChoices : zMu := (yX10_beginChoices, cX10_beginChoices, 1, none, { frames := 1, cells := 0, slots := 0, locals := 20 }, [])
theorem zd_X10_beginChoices : (uY uX10_beginChoices).cls ≠ "java/lang/invoke/MethodHandle" ∧ (uY uX10_beginChoices).cls ≠ "java/lang/invoke/VarHandle" ∧ (parseMethodDescriptor (uY uX10_beginChoices).desc).map (fun d => d.parameters.length) = some 0 := by decide +kernel
def fX10_beginChoices (n : Nat) (M : zM) (v0 : Nat) : Option (Unit × zM) :=
  chk (mK M v0 == 10) <|
  bnd (mR M v0 23) fun a_2 =>
  chk (mK M v0 == 10) <|
  chk (mK M a_2 == 13) <|
  chk (zin (mI M v0 13) (mN M a_2)) <|
  app (wI M a_2 (Int32.toNatClampNeg (mI M v0 13)) (vp_nar .boolean (0 : Int32))) fun M_7 : zM =>
  chk (mK M_7 v0 == 10) <|
  bnd (mR M_7 v0 24) fun a_10 =>
  chk (mK M_7 v0 == 10) <|
  chk (mK M_7 a_10 == 12) <|
  chk (zin (mI M_7 v0 13) (mN M_7 a_10)) <|
  app (wL M_7 a_10 (Int32.toNatClampNeg (mI M_7 v0 13)) (0 : Int64)) fun M_15 : zM =>
  chk (mK M_15 v0 == 10) <|
  bnd (mR M_15 v0 25) fun a_18 =>
  chk (mK M_15 v0 == 10) <|
  chk (mK M_15 a_18 == 12) <|
  chk (zin (mI M_15 v0 13) (mN M_15 a_18)) <|
  app (wL M_15 a_18 (Int32.toNatClampNeg (mI M_15 v0 13)) (0 : Int64)) fun M_23 : zM =>
  chk (mK M_23 v0 == 10) <|
  bnd (mR M_23 v0 26) fun a_26 =>
  chk (mK M_23 v0 == 10) <|
  chk (mK M_23 v0 == 10) <|
  chk (mK M_23 a_26 == 11) <|
  chk (zin (mI M_23 v0 13) (mN M_23 a_26)) <|
  app (wI M_23 a_26 (Int32.toNatClampNeg (mI M_23 v0 13)) (mI M_23 v0 14)) fun M_32 : zM =>
  chk (mK M_32 v0 == 10) <|
  bnd2 (fX10_beginRow n M_32 v0) fun r_34 M_35 =>
  some ((), M_35)
set_option maxHeartbeats 4000000 in
theorem tX10_beginChoices (n : Nat) (M : zM) (v0 : Nat) (r : Unit) (M' : zM) (h : fX10_beginChoices n M v0 = some (r, M')) : zMet uX10_beginChoices false M [.ref v0] (zE (oV r) M') := by
  refine zMet_of (L := [(0, .ref v0)]) (by decide +kernel) rfl rfl (Nat.le_of_ble_eq_true rfl) ?_
  show zW uX10_beginChoices none (0, 0) M 0 [(0, .ref v0)] [] (zE (oV r) M')
  unfold fX10_beginChoices at h
  refine zr_aload_n (q := 1) dX10_beginChoices_0 rfl rfl 0 rfl ?_
  obtain ⟨c_1, h⟩ := chk_some h
  obtain ⟨a_2, e_3, h⟩ := bnd_some h
  refine zr_getr (q := 4) (ci := 10) (k := 23) dX10_beginChoices_1 rfl (eq_of_beq c_1) rfl (by decide) rfl zbX10 (by decide) zb_395 rfl e_3 ?_
  refine zr_aload_n (q := 5) dX10_beginChoices_4 rfl rfl 0 rfl ?_
  obtain ⟨c_4, h⟩ := chk_some h
  refine zr_get (q := 8) (ci := 10) (k := 13) dX10_beginChoices_5 rfl (eq_of_beq c_4) rfl (by decide) rfl zbX10 (by decide) zb_391 rfl ?_
  refine zr_iconst (q := 9) (v := 0) dX10_beginChoices_8 rfl (by decide) ?_
  obtain ⟨c_5, h⟩ := chk_some h
  obtain ⟨c_6, h⟩ := chk_some h
  obtain ⟨M_7, e_8, h⟩ := app_some h
  refine zr_zast (q := 10) dX10_beginChoices_9 rfl (eq_of_beq c_5) c_6 ?_
  refine zr_mem e_8 ?_
  refine zr_aload_n (q := 11) dX10_beginChoices_10 rfl rfl 0 rfl ?_
  obtain ⟨c_9, h⟩ := chk_some h
  obtain ⟨a_10, e_11, h⟩ := bnd_some h
  refine zr_getr (q := 14) (ci := 10) (k := 24) dX10_beginChoices_11 rfl (eq_of_beq c_9) rfl (by decide) rfl zbX10 (by decide) zb_396 rfl e_11 ?_
  refine zr_aload_n (q := 15) dX10_beginChoices_14 rfl rfl 0 rfl ?_
  obtain ⟨c_12, h⟩ := chk_some h
  refine zr_get (q := 18) (ci := 10) (k := 13) dX10_beginChoices_15 rfl (eq_of_beq c_12) rfl (by decide) rfl zbX10 (by decide) zb_391 rfl ?_
  refine zr_lconst (q := 19) (v := 0) dX10_beginChoices_18 rfl (by decide) ?_
  obtain ⟨c_13, h⟩ := chk_some h
  obtain ⟨c_14, h⟩ := chk_some h
  obtain ⟨M_15, e_16, h⟩ := app_some h
  refine zr_last (q := 20) dX10_beginChoices_19 rfl (eq_of_beq c_13) c_14 ?_
  refine zr_mem e_16 ?_
  refine zr_aload_n (q := 21) dX10_beginChoices_20 rfl rfl 0 rfl ?_
  obtain ⟨c_17, h⟩ := chk_some h
  obtain ⟨a_18, e_19, h⟩ := bnd_some h
  refine zr_getr (q := 24) (ci := 10) (k := 25) dX10_beginChoices_21 rfl (eq_of_beq c_17) rfl (by decide) rfl zbX10 (by decide) zb_397 rfl e_19 ?_
  refine zr_aload_n (q := 25) dX10_beginChoices_24 rfl rfl 0 rfl ?_
  obtain ⟨c_20, h⟩ := chk_some h
  refine zr_get (q := 28) (ci := 10) (k := 13) dX10_beginChoices_25 rfl (eq_of_beq c_20) rfl (by decide) rfl zbX10 (by decide) zb_391 rfl ?_
  refine zr_lconst (q := 29) (v := 0) dX10_beginChoices_28 rfl (by decide) ?_
  obtain ⟨c_21, h⟩ := chk_some h
  obtain ⟨c_22, h⟩ := chk_some h
  obtain ⟨M_23, e_24, h⟩ := app_some h
  refine zr_last (q := 30) dX10_beginChoices_29 rfl (eq_of_beq c_21) c_22 ?_
  refine zr_mem e_24 ?_
  refine zr_aload_n (q := 31) dX10_beginChoices_30 rfl rfl 0 rfl ?_
  obtain ⟨c_25, h⟩ := chk_some h
  obtain ⟨a_26, e_27, h⟩ := bnd_some h
  refine zr_getr (q := 34) (ci := 10) (k := 26) dX10_beginChoices_31 rfl (eq_of_beq c_25) rfl (by decide) rfl zbX10 (by decide) zb_398 rfl e_27 ?_
  refine zr_aload_n (q := 35) dX10_beginChoices_34 rfl rfl 0 rfl ?_
  obtain ⟨c_28, h⟩ := chk_some h
  refine zr_get (q := 38) (ci := 10) (k := 13) dX10_beginChoices_35 rfl (eq_of_beq c_28) rfl (by decide) rfl zbX10 (by decide) zb_391 rfl ?_
  refine zr_aload_n (q := 39) dX10_beginChoices_38 rfl rfl 0 rfl ?_
  obtain ⟨c_29, h⟩ := chk_some h
  refine zr_get (q := 42) (ci := 10) (k := 14) dX10_beginChoices_39 rfl (eq_of_beq c_29) rfl (by decide) rfl zbX10 (by decide) zb_399 rfl ?_
  obtain ⟨c_30, h⟩ := chk_some h
  obtain ⟨c_31, h⟩ := chk_some h
  obtain ⟨M_32, e_33, h⟩ := app_some h
  refine zr_iast (q := 43) dX10_beginChoices_42 rfl (eq_of_beq c_30) c_31 ?_
  refine zr_mem e_33 ?_
  refine zr_aload_n (q := 44) dX10_beginChoices_43 rfl rfl 0 rfl ?_
  obtain ⟨c_37, h⟩ := chk_some h
  obtain ⟨r_34, M_35, hc_36, h⟩ := bnd2_some h
  refine zr_callVV (μ' := uX10_beginRow) (q := 47) (n := 0) (ci := 10) (As := []) (u' := (0, 0)) (tX10_beginRow n M_32 v0 _ _ hc_36) dX10_beginChoices_44 rfl rfl ⟨zb_400, zb_401, zb_402, zb_403, zb_389⟩ zd_X10_beginRow ⟨by decide, by decide⟩ ⟨by decide, by decide⟩ (eq_of_beq c_37) (by decide) rfl rfl rfl (Nat.le_of_ble_eq_true rfl) rfl rfl ?_
  cases h
  exact zr_return dX10_beginChoices_47 rfl ⟨by decide, by decide⟩ ⟨rfl, rfl⟩

def uX10_link : zMu := (yX10_link, cX10_link, 6, none, { frames := 1, cells := 0, slots := 0, locals := 22 }, [])
theorem zd_X10_link : (uY uX10_link).cls ≠ "java/lang/invoke/MethodHandle" ∧ (uY uX10_link).cls ≠ "java/lang/invoke/VarHandle" ∧ (parseMethodDescriptor (uY uX10_link).desc).map (fun d => d.parameters.length) = some 2 := by decide +kernel
def fX10_link_43 (k3 : zM → Nat → Int64 → Int64 → Int32 → Option (Unit × zM)) (n : Nat) (M : zM) (v0 : Nat) (v1 : Int64) (v3 : Int64) (v5 : Int32) : Option (Unit × zM) :=
  app (v5 + (1 : Int32)) fun v5_1 : Int32 =>
  k3 M v0 v1 v3 v5_1
set_option maxHeartbeats 4000000 in
theorem tX10_link_43 (k3 : zM → Nat → Int64 → Int64 → Int32 → Option (Unit × zM)) (h3 : ∀ (M : zM) (v0 : Nat) (v1 : Int64) (v3 : Int64) (v5 : Int32) (r : Unit) (M' : zM), k3 M v0 v1 v3 v5 = some (r, M') → zW uX10_link none (0, 0) M 3 [(0, .ref v0), (1, .long v1), (3, .long v3), (5, .int v5)] [] (zE (oV r) M')) (n : Nat) (M : zM) (v0 : Nat) (v1 : Int64) (v3 : Int64) (v5 : Int32) (r : Unit) (M' : zM) (h : fX10_link_43 k3 n M v0 v1 v3 v5 = some (r, M')) : zW uX10_link none (0, 0) M 43 [(0, .ref v0), (1, .long v1), (3, .long v3), (5, .int v5)] [] (zE (oV r) M') := by
  unfold fX10_link_43 at h
  obtain ⟨v5_1, e_2, h⟩ := app_some h
  refine zr_iinc (q := 46) (v := v5_1) (L' := [(5, .int v5_1), (0, .ref v0), (1, .long v1), (3, .long v3)]) dX10_link_43 rfl 3 rfl (by rw [← e_2]; rfl) (by decide) rfl ?_
  refine zr_goto (q := 3) dX10_link_46 (by decide) ?_
  exact zr_pick [1, 2, 3, 0] rfl (h3 M v0 v1 v3 v5_1 _ _ h)
def fX10_link_3 : Nat → zM → Nat → Int64 → Int64 → Int32 → Option (Unit × zM)
  | 0, _, _, _, _, _ => none
  | n + 1, M, v0, v1, v3, v5 =>
    chk (mK M v0 == 10) <|
    if (mI M v0 14) ≤ v5 then
      some ((), M)
    else
    bnd2 (fX10_hasBit n M v1 v5) fun r_3 M_4 =>
    if r_3 = (0 : Int32) then
      fX10_link_43 (fX10_link_3 n) n M_4 v0 v1 v3 v5
    else
    chk (mK M_4 v0 == 10) <|
    bnd (mR M_4 v0 11) fun a_8 =>
    chk (mK M_4 v0 == 10) <|
    bnd (mR M_4 v0 11) fun a_11 =>
    chk (mK M_4 a_11 == 12) <|
    chk (zin ((120 : Int32) + v5) (mN M_4 a_11)) <|
    chk (mK M_4 a_8 == 12) <|
    chk (zin ((120 : Int32) + v5) (mN M_4 a_8)) <|
    app (wL M_4 a_8 (Int32.toNatClampNeg ((120 : Int32) + v5)) ((mL M_4 a_11 (Int32.toNatClampNeg ((120 : Int32) + v5))) ||| v3)) fun M_17 : zM =>
    fX10_link_43 (fX10_link_3 n) n M_17 v0 v1 v3 v5
set_option maxHeartbeats 4000000 in
theorem tX10_link_3 : ∀ (n : Nat) (M : zM) (v0 : Nat) (v1 : Int64) (v3 : Int64) (v5 : Int32) (r : Unit) (M' : zM), fX10_link_3 n M v0 v1 v3 v5 = some (r, M') → zW uX10_link none (0, 0) M 3 [(0, .ref v0), (1, .long v1), (3, .long v3), (5, .int v5)] [] (zE (oV r) M') := by
  intro n
  induction n with
  | zero => intro M v0 v1 v3 v5 r M' h; cases h
  | succ n ih =>
    intro M v0 v1 v3 v5 r M' h
    rw [fX10_link_3] at h
    refine zr_iload (q := 5) dX10_link_3 rfl 3 rfl ?_
    refine zr_aload_n (q := 6) dX10_link_5 rfl rfl 0 rfl ?_
    obtain ⟨c_1, h⟩ := chk_some h
    refine zr_get (q := 9) (ci := 10) (k := 14) dX10_link_6 rfl (eq_of_beq c_1) rfl (by decide) rfl zbX10 (by decide) zb_399 rfl ?_
    refine zr_icmp_ge (q := 12) (tgt := 49) dX10_link_9 rfl (by decide) (fun c_2 => ?_) (fun c_2 => ?_)
    · replace h := ite_t c_2 h
      cases h
      exact zr_return dX10_link_49 rfl ⟨by decide, by decide⟩ ⟨rfl, rfl⟩
    · replace h := ite_f c_2 h
      refine zr_lload_n (q := 13) dX10_link_12 rfl rfl 1 rfl ?_
      refine zr_iload (q := 15) dX10_link_13 rfl 3 rfl ?_
      obtain ⟨r_3, M_4, hc_5, h⟩ := bnd2_some h
      refine zr_callSI (μ' := uX10_hasBit) (q := 18) (n := 2) (As := [.long v1, .int v5]) (u' := (0, 0)) (tX10_hasBit n M v1 v5 _ _ hc_5) dX10_link_15 rfl rfl ⟨zb_404, zb_405, zb_406, zb_389⟩ zd_X10_hasBit ⟨by decide, by decide⟩ ⟨by decide, by decide⟩ rfl rfl (Nat.le_of_ble_eq_true rfl) rfl ?_
      refine zr_if_eq (q := 21) (tgt := 43) dX10_link_18 rfl (by decide) (fun c_6 => ?_) (fun c_6 => ?_)
      · replace h := ite_t c_6 h
        exact zr_pick [0, 1, 2, 3] rfl (tX10_link_43 (fX10_link_3 n) ih n M_4 v0 v1 v3 v5 _ _ h)
      · replace h := ite_f c_6 h
        refine zr_aload_n (q := 22) dX10_link_21 rfl rfl 0 rfl ?_
        obtain ⟨c_7, h⟩ := chk_some h
        obtain ⟨a_8, e_9, h⟩ := bnd_some h
        refine zr_getr (q := 25) (ci := 10) (k := 11) dX10_link_22 rfl (eq_of_beq c_7) rfl (by decide) rfl zbX10 (by decide) zb_407 rfl e_9 ?_
        refine zr_bipush (q := 27) (v := 120) dX10_link_25 rfl (by decide) ?_
        refine zr_iload (q := 29) dX10_link_27 rfl 3 rfl ?_
        refine zr_iadd (q := 30) dX10_link_29 rfl ?_
        refine zr_aload_n (q := 31) dX10_link_30 rfl rfl 0 rfl ?_
        obtain ⟨c_10, h⟩ := chk_some h
        obtain ⟨a_11, e_12, h⟩ := bnd_some h
        refine zr_getr (q := 34) (ci := 10) (k := 11) dX10_link_31 rfl (eq_of_beq c_10) rfl (by decide) rfl zbX10 (by decide) zb_407 rfl e_12 ?_
        refine zr_bipush (q := 36) (v := 120) dX10_link_34 rfl (by decide) ?_
        refine zr_iload (q := 38) dX10_link_36 rfl 3 rfl ?_
        refine zr_iadd (q := 39) dX10_link_38 rfl ?_
        obtain ⟨c_13, h⟩ := chk_some h
        obtain ⟨c_14, h⟩ := chk_some h
        refine zr_lald (q := 40) dX10_link_39 rfl (eq_of_beq c_13) c_14 ?_
        refine zr_lload_n (q := 41) dX10_link_40 rfl rfl 2 rfl ?_
        refine zr_lor (q := 42) dX10_link_41 rfl ?_
        obtain ⟨c_15, h⟩ := chk_some h
        obtain ⟨c_16, h⟩ := chk_some h
        obtain ⟨M_17, e_18, h⟩ := app_some h
        refine zr_last (q := 43) dX10_link_42 rfl (eq_of_beq c_15) c_16 ?_
        refine zr_mem e_18 ?_
        exact zr_pick [0, 1, 2, 3] rfl (tX10_link_43 (fX10_link_3 n) ih n M_17 v0 v1 v3 v5 _ _ h)
def fX10_link (n : Nat) (M : zM) (v0 : Nat) (v1 : Int64) (v3 : Int64) : Option (Unit × zM) :=
  fX10_link_3 n M v0 v1 v3 (0 : Int32)
set_option maxHeartbeats 4000000 in
theorem tX10_link (n : Nat) (M : zM) (v0 : Nat) (v1 : Int64) (v3 : Int64) (r : Unit) (M' : zM) (h : fX10_link n M v0 v1 v3 = some (r, M')) : zMet uX10_link false M [.ref v0, .long v1, .long v3] (zE (oV r) M') := by
  refine zMet_of (L := [(0, .ref v0), (1, .long v1), (3, .long v3)]) (by decide +kernel) rfl rfl (Nat.le_of_ble_eq_true rfl) ?_
  show zW uX10_link none (0, 0) M 0 [(0, .ref v0), (1, .long v1), (3, .long v3)] [] (zE (oV r) M')
  unfold fX10_link at h
  refine zr_iconst (q := 1) (v := 0) dX10_link_0 rfl (by decide) ?_
  refine zr_istore (q := 3) (L' := [(5, .int (0 : Int32)), (0, .ref v0), (1, .long v1), (3, .long v3)]) dX10_link_1 rfl (by decide) rfl ?_
  exact zr_pick [1, 2, 3, 0] rfl (tX10_link_3 n M v0 v1 v3 (0 : Int32) _ _ h)

def uX10_joinPart : zMu := (yX10_joinPart, cX10_joinPart, 2, none, { frames := 2, cells := 0, slots := 0, locals := 47 }, [])
theorem zd_X10_joinPart : (uY uX10_joinPart).cls ≠ "java/lang/invoke/MethodHandle" ∧ (uY uX10_joinPart).cls ≠ "java/lang/invoke/VarHandle" ∧ (parseMethodDescriptor (uY uX10_joinPart).desc).map (fun d => d.parameters.length) = some 0 := by decide +kernel
def fX10_joinPart_133 (n : Nat) (M : zM) (v0 : Nat) (v1 : Int32) (s0 : Nat) (s1 : Int32) (s2 : Int32) : Option (Unit × zM) :=
  chk (mK M s0 == 13) <|
  chk (zin s1 (mN M s0)) <|
  app (wI M s0 (Int32.toNatClampNeg s1) (vp_nar .boolean s2)) fun M_3 : zM =>
  chk (mK M_3 v0 == 10) <|
  bnd (mR M_3 v0 18) fun a_6 =>
  chk (mK M_3 a_6 == 13) <|
  chk (zin v1 (mN M_3 a_6)) <|
  app (wI M_3 a_6 (Int32.toNatClampNeg v1) (vp_nar .boolean (0 : Int32))) fun M_10 : zM =>
  some ((), M_10)
set_option maxHeartbeats 4000000 in
theorem tX10_joinPart_133 (n : Nat) (M : zM) (v0 : Nat) (v1 : Int32) (s0 : Nat) (s1 : Int32) (s2 : Int32) (r : Unit) (M' : zM) (h : fX10_joinPart_133 n M v0 v1 s0 s1 s2 = some (r, M')) : zW uX10_joinPart none (0, 0) M 133 [(0, .ref v0), (1, .int v1)] [.int s2, .int s1, .ref s0] (zE (oV r) M') := by
  unfold fX10_joinPart_133 at h
  obtain ⟨c_1, h⟩ := chk_some h
  obtain ⟨c_2, h⟩ := chk_some h
  obtain ⟨M_3, e_4, h⟩ := app_some h
  refine zr_zast (q := 134) dX10_joinPart_133 rfl (eq_of_beq c_1) c_2 ?_
  refine zr_mem e_4 ?_
  refine zr_aload_n (q := 135) dX10_joinPart_134 rfl rfl 0 rfl ?_
  obtain ⟨c_5, h⟩ := chk_some h
  obtain ⟨a_6, e_7, h⟩ := bnd_some h
  refine zr_getr (q := 138) (ci := 10) (k := 18) dX10_joinPart_135 rfl (eq_of_beq c_5) rfl (by decide) rfl zbX10 (by decide) zb_394 rfl e_7 ?_
  refine zr_iload_n (q := 139) dX10_joinPart_138 rfl rfl 1 rfl ?_
  refine zr_iconst (q := 140) (v := 0) dX10_joinPart_139 rfl (by decide) ?_
  obtain ⟨c_8, h⟩ := chk_some h
  obtain ⟨c_9, h⟩ := chk_some h
  obtain ⟨M_10, e_11, h⟩ := app_some h
  refine zr_zast (q := 141) dX10_joinPart_140 rfl (eq_of_beq c_8) c_9 ?_
  refine zr_mem e_11 ?_
  cases h
  exact zr_return dX10_joinPart_141 rfl ⟨by decide, by decide⟩ ⟨rfl, rfl⟩
def fX10_joinPart_132 (n : Nat) (M : zM) (v0 : Nat) (v1 : Int32) (s0 : Nat) (s1 : Int32) : Option (Unit × zM) :=
  fX10_joinPart_133 n M v0 v1 s0 s1 (0 : Int32)
set_option maxHeartbeats 4000000 in
theorem tX10_joinPart_132 (n : Nat) (M : zM) (v0 : Nat) (v1 : Int32) (s0 : Nat) (s1 : Int32) (r : Unit) (M' : zM) (h : fX10_joinPart_132 n M v0 v1 s0 s1 = some (r, M')) : zW uX10_joinPart none (0, 0) M 132 [(0, .ref v0), (1, .int v1)] [.int s1, .ref s0] (zE (oV r) M') := by
  unfold fX10_joinPart_132 at h
  refine zr_iconst (q := 133) (v := 0) dX10_joinPart_132 rfl (by decide) ?_
  exact zr_pick [0, 1] rfl (tX10_joinPart_133 n M v0 v1 s0 s1 (0 : Int32) _ _ h)
def fX10_joinPart_104 (n : Nat) (M : zM) (v0 : Nat) (v1 : Int32) (s0 : Nat) (s1 : Int32) (s2 : Int64) : Option (Unit × zM) :=
  chk (mK M s0 == 12) <|
  chk (zin s1 (mN M s0)) <|
  app (wL M s0 (Int32.toNatClampNeg s1) s2) fun M_3 : zM =>
  chk (mK M_3 v0 == 10) <|
  bnd (mR M_3 v0 15) fun a_6 =>
  chk (mK M_3 v0 == 10) <|
  bnd (mR M_3 v0 15) fun a_9 =>
  chk (mK M_3 a_9 == 13) <|
  chk (zin v1 (mN M_3 a_9)) <|
  if (mI M_3 a_9 (Int32.toNatClampNeg v1)) = (0 : Int32) then
    fX10_joinPart_132 n M_3 v0 v1 a_6 v1
  else
  chk (mK M_3 v0 == 10) <|
  bnd (mR M_3 v0 20) fun a_15 =>
  chk (mK M_3 a_15 == 13) <|
  chk (zin v1 (mN M_3 a_15)) <|
  if (mI M_3 a_15 (Int32.toNatClampNeg v1)) = (0 : Int32) then
    fX10_joinPart_132 n M_3 v0 v1 a_6 v1
  else
  fX10_joinPart_133 n M_3 v0 v1 a_6 v1 (1 : Int32)
set_option maxHeartbeats 4000000 in
theorem tX10_joinPart_104 (n : Nat) (M : zM) (v0 : Nat) (v1 : Int32) (s0 : Nat) (s1 : Int32) (s2 : Int64) (r : Unit) (M' : zM) (h : fX10_joinPart_104 n M v0 v1 s0 s1 s2 = some (r, M')) : zW uX10_joinPart none (0, 0) M 104 [(0, .ref v0), (1, .int v1)] [.long s2, .int s1, .ref s0] (zE (oV r) M') := by
  unfold fX10_joinPart_104 at h
  obtain ⟨c_1, h⟩ := chk_some h
  obtain ⟨c_2, h⟩ := chk_some h
  obtain ⟨M_3, e_4, h⟩ := app_some h
  refine zr_last (q := 105) dX10_joinPart_104 rfl (eq_of_beq c_1) c_2 ?_
  refine zr_mem e_4 ?_
  refine zr_aload_n (q := 106) dX10_joinPart_105 rfl rfl 0 rfl ?_
  obtain ⟨c_5, h⟩ := chk_some h
  obtain ⟨a_6, e_7, h⟩ := bnd_some h
  refine zr_getr (q := 109) (ci := 10) (k := 15) dX10_joinPart_106 rfl (eq_of_beq c_5) rfl (by decide) rfl zbX10 (by decide) zb_390 rfl e_7 ?_
  refine zr_iload_n (q := 110) dX10_joinPart_109 rfl rfl 1 rfl ?_
  refine zr_aload_n (q := 111) dX10_joinPart_110 rfl rfl 0 rfl ?_
  obtain ⟨c_8, h⟩ := chk_some h
  obtain ⟨a_9, e_10, h⟩ := bnd_some h
  refine zr_getr (q := 114) (ci := 10) (k := 15) dX10_joinPart_111 rfl (eq_of_beq c_8) rfl (by decide) rfl zbX10 (by decide) zb_390 rfl e_10 ?_
  refine zr_iload_n (q := 115) dX10_joinPart_114 rfl rfl 1 rfl ?_
  obtain ⟨c_11, h⟩ := chk_some h
  obtain ⟨c_12, h⟩ := chk_some h
  refine zr_zald (q := 116) dX10_joinPart_115 rfl (eq_of_beq c_11) c_12 ?_
  refine zr_if_eq (q := 119) (tgt := 132) dX10_joinPart_116 rfl (by decide) (fun c_13 => ?_) (fun c_13 => ?_)
  · replace h := ite_t c_13 h
    exact zr_pick [0, 1] rfl (tX10_joinPart_132 n M_3 v0 v1 a_6 v1 _ _ h)
  · replace h := ite_f c_13 h
    refine zr_aload_n (q := 120) dX10_joinPart_119 rfl rfl 0 rfl ?_
    obtain ⟨c_14, h⟩ := chk_some h
    obtain ⟨a_15, e_16, h⟩ := bnd_some h
    refine zr_getr (q := 123) (ci := 10) (k := 20) dX10_joinPart_120 rfl (eq_of_beq c_14) rfl (by decide) rfl zbX10 (by decide) zb_408 rfl e_16 ?_
    refine zr_iload_n (q := 124) dX10_joinPart_123 rfl rfl 1 rfl ?_
    obtain ⟨c_17, h⟩ := chk_some h
    obtain ⟨c_18, h⟩ := chk_some h
    refine zr_zald (q := 125) dX10_joinPart_124 rfl (eq_of_beq c_17) c_18 ?_
    refine zr_if_eq (q := 128) (tgt := 132) dX10_joinPart_125 rfl (by decide) (fun c_19 => ?_) (fun c_19 => ?_)
    · replace h := ite_t c_19 h
      exact zr_pick [0, 1] rfl (tX10_joinPart_132 n M_3 v0 v1 a_6 v1 _ _ h)
    · replace h := ite_f c_19 h
      refine zr_iconst (q := 129) (v := 1) dX10_joinPart_128 rfl (by decide) ?_
      refine zr_goto (q := 133) dX10_joinPart_129 (by decide) ?_
      exact zr_pick [0, 1] rfl (tX10_joinPart_133 n M_3 v0 v1 a_6 v1 (1 : Int32) _ _ h)
def fX10_joinPart_67 (n : Nat) (M : zM) (v0 : Nat) (v1 : Int32) (s0 : Nat) (s1 : Int32) (s2 : Int64) : Option (Unit × zM) :=
  chk (mK M s0 == 12) <|
  chk (zin s1 (mN M s0)) <|
  app (wL M s0 (Int32.toNatClampNeg s1) s2) fun M_3 : zM =>
  chk (mK M_3 v0 == 10) <|
  bnd (mR M_3 v0 17) fun a_6 =>
  chk (mK M_3 v0 == 10) <|
  bnd (mR M_3 v0 20) fun a_9 =>
  chk (mK M_3 a_9 == 13) <|
  chk (zin v1 (mN M_3 a_9)) <|
  if (mI M_3 a_9 (Int32.toNatClampNeg v1)) = (0 : Int32) then
    chk (mK M_3 v0 == 10) <|
    bnd (mR M_3 v0 22) fun a_15 =>
    chk (mK M_3 a_15 == 12) <|
    chk (zin v1 (mN M_3 a_15)) <|
    fX10_joinPart_104 n M_3 v0 v1 a_6 v1 (mL M_3 a_15 (Int32.toNatClampNeg v1))
  else
  chk (mK M_3 v0 == 10) <|
  bnd (mR M_3 v0 17) fun a_20 =>
  chk (mK M_3 a_20 == 12) <|
  chk (zin v1 (mN M_3 a_20)) <|
  chk (mK M_3 v0 == 10) <|
  bnd (mR M_3 v0 22) fun a_25 =>
  chk (mK M_3 a_25 == 12) <|
  chk (zin v1 (mN M_3 a_25)) <|
  fX10_joinPart_104 n M_3 v0 v1 a_6 v1 ((mL M_3 a_20 (Int32.toNatClampNeg v1)) ||| (mL M_3 a_25 (Int32.toNatClampNeg v1)))
set_option maxHeartbeats 4000000 in
theorem tX10_joinPart_67 (n : Nat) (M : zM) (v0 : Nat) (v1 : Int32) (s0 : Nat) (s1 : Int32) (s2 : Int64) (r : Unit) (M' : zM) (h : fX10_joinPart_67 n M v0 v1 s0 s1 s2 = some (r, M')) : zW uX10_joinPart none (0, 0) M 67 [(0, .ref v0), (1, .int v1)] [.long s2, .int s1, .ref s0] (zE (oV r) M') := by
  unfold fX10_joinPart_67 at h
  obtain ⟨c_1, h⟩ := chk_some h
  obtain ⟨c_2, h⟩ := chk_some h
  obtain ⟨M_3, e_4, h⟩ := app_some h
  refine zr_last (q := 68) dX10_joinPart_67 rfl (eq_of_beq c_1) c_2 ?_
  refine zr_mem e_4 ?_
  refine zr_aload_n (q := 69) dX10_joinPart_68 rfl rfl 0 rfl ?_
  obtain ⟨c_5, h⟩ := chk_some h
  obtain ⟨a_6, e_7, h⟩ := bnd_some h
  refine zr_getr (q := 72) (ci := 10) (k := 17) dX10_joinPart_69 rfl (eq_of_beq c_5) rfl (by decide) rfl zbX10 (by decide) zb_393 rfl e_7 ?_
  refine zr_iload_n (q := 73) dX10_joinPart_72 rfl rfl 1 rfl ?_
  refine zr_aload_n (q := 74) dX10_joinPart_73 rfl rfl 0 rfl ?_
  obtain ⟨c_8, h⟩ := chk_some h
  obtain ⟨a_9, e_10, h⟩ := bnd_some h
  refine zr_getr (q := 77) (ci := 10) (k := 20) dX10_joinPart_74 rfl (eq_of_beq c_8) rfl (by decide) rfl zbX10 (by decide) zb_408 rfl e_10 ?_
  refine zr_iload_n (q := 78) dX10_joinPart_77 rfl rfl 1 rfl ?_
  obtain ⟨c_11, h⟩ := chk_some h
  obtain ⟨c_12, h⟩ := chk_some h
  refine zr_zald (q := 79) dX10_joinPart_78 rfl (eq_of_beq c_11) c_12 ?_
  refine zr_if_eq (q := 82) (tgt := 98) dX10_joinPart_79 rfl (by decide) (fun c_13 => ?_) (fun c_13 => ?_)
  · replace h := ite_t c_13 h
    refine zr_aload_n (q := 99) dX10_joinPart_98 rfl rfl 0 rfl ?_
    obtain ⟨c_14, h⟩ := chk_some h
    obtain ⟨a_15, e_16, h⟩ := bnd_some h
    refine zr_getr (q := 102) (ci := 10) (k := 22) dX10_joinPart_99 rfl (eq_of_beq c_14) rfl (by decide) rfl zbX10 (by decide) zb_409 rfl e_16 ?_
    refine zr_iload_n (q := 103) dX10_joinPart_102 rfl rfl 1 rfl ?_
    obtain ⟨c_17, h⟩ := chk_some h
    obtain ⟨c_18, h⟩ := chk_some h
    refine zr_lald (q := 104) dX10_joinPart_103 rfl (eq_of_beq c_17) c_18 ?_
    exact zr_pick [0, 1] rfl (tX10_joinPart_104 n M_3 v0 v1 a_6 v1 (mL M_3 a_15 (Int32.toNatClampNeg v1)) _ _ h)
  · replace h := ite_f c_13 h
    refine zr_aload_n (q := 83) dX10_joinPart_82 rfl rfl 0 rfl ?_
    obtain ⟨c_19, h⟩ := chk_some h
    obtain ⟨a_20, e_21, h⟩ := bnd_some h
    refine zr_getr (q := 86) (ci := 10) (k := 17) dX10_joinPart_83 rfl (eq_of_beq c_19) rfl (by decide) rfl zbX10 (by decide) zb_393 rfl e_21 ?_
    refine zr_iload_n (q := 87) dX10_joinPart_86 rfl rfl 1 rfl ?_
    obtain ⟨c_22, h⟩ := chk_some h
    obtain ⟨c_23, h⟩ := chk_some h
    refine zr_lald (q := 88) dX10_joinPart_87 rfl (eq_of_beq c_22) c_23 ?_
    refine zr_aload_n (q := 89) dX10_joinPart_88 rfl rfl 0 rfl ?_
    obtain ⟨c_24, h⟩ := chk_some h
    obtain ⟨a_25, e_26, h⟩ := bnd_some h
    refine zr_getr (q := 92) (ci := 10) (k := 22) dX10_joinPart_89 rfl (eq_of_beq c_24) rfl (by decide) rfl zbX10 (by decide) zb_409 rfl e_26 ?_
    refine zr_iload_n (q := 93) dX10_joinPart_92 rfl rfl 1 rfl ?_
    obtain ⟨c_27, h⟩ := chk_some h
    obtain ⟨c_28, h⟩ := chk_some h
    refine zr_lald (q := 94) dX10_joinPart_93 rfl (eq_of_beq c_27) c_28 ?_
    refine zr_lor (q := 95) dX10_joinPart_94 rfl ?_
    refine zr_goto (q := 104) dX10_joinPart_95 (by decide) ?_
    exact zr_pick [0, 1] rfl (tX10_joinPart_104 n M_3 v0 v1 a_6 v1 ((mL M_3 a_20 (Int32.toNatClampNeg v1)) ||| (mL M_3 a_25 (Int32.toNatClampNeg v1))) _ _ h)
def fX10_joinPart (n : Nat) (M : zM) (v0 : Nat) : Option (Unit × zM) :=
  chk (mK M v0 == 10) <|
  app (mI M v0 13) fun v1_2 : Int32 =>
  chk (mK M v0 == 10) <|
  bnd (mR M v0 18) fun a_5 =>
  chk (mK M a_5 == 13) <|
  chk (zin v1_2 (mN M a_5)) <|
  if (mI M a_5 (Int32.toNatClampNeg v1_2)) = (0 : Int32) then
    some ((), M)
  else
  chk (mK M v0 == 10) <|
  bnd (mR M v0 17) fun a_11 =>
  chk (mK M a_11 == 12) <|
  chk (zin v1_2 (mN M a_11)) <|
  chk (mK M v0 == 10) <|
  bnd (mR M v0 21) fun a_16 =>
  chk (mK M a_16 == 12) <|
  chk (zin v1_2 (mN M a_16)) <|
  chk (mK M v0 == 10) <|
  bnd2 (fX10_link n M v0 (mL M a_11 (Int32.toNatClampNeg v1_2)) (mL M a_16 (Int32.toNatClampNeg v1_2))) fun r_20 M_21 =>
  chk (mK M_21 v0 == 10) <|
  bnd (mR M_21 v0 16) fun a_25 =>
  chk (mK M_21 v0 == 10) <|
  bnd (mR M_21 v0 15) fun a_28 =>
  chk (mK M_21 a_28 == 13) <|
  chk (zin v1_2 (mN M_21 a_28)) <|
  if (mI M_21 a_28 (Int32.toNatClampNeg v1_2)) = (0 : Int32) then
    chk (mK M_21 v0 == 10) <|
    bnd (mR M_21 v0 16) fun a_34 =>
    chk (mK M_21 a_34 == 12) <|
    chk (zin v1_2 (mN M_21 a_34)) <|
    fX10_joinPart_67 n M_21 v0 v1_2 a_25 v1_2 (mL M_21 a_34 (Int32.toNatClampNeg v1_2))
  else
  chk (mK M_21 v0 == 10) <|
  bnd (mR M_21 v0 16) fun a_39 =>
  chk (mK M_21 a_39 == 12) <|
  chk (zin v1_2 (mN M_21 a_39)) <|
  chk (mK M_21 v0 == 10) <|
  bnd (mR M_21 v0 21) fun a_44 =>
  chk (mK M_21 a_44 == 12) <|
  chk (zin v1_2 (mN M_21 a_44)) <|
  fX10_joinPart_67 n M_21 v0 v1_2 a_25 v1_2 ((mL M_21 a_39 (Int32.toNatClampNeg v1_2)) ||| (mL M_21 a_44 (Int32.toNatClampNeg v1_2)))
set_option maxHeartbeats 4000000 in
theorem tX10_joinPart (n : Nat) (M : zM) (v0 : Nat) (r : Unit) (M' : zM) (h : fX10_joinPart n M v0 = some (r, M')) : zMet uX10_joinPart false M [.ref v0] (zE (oV r) M') := by
  refine zMet_of (L := [(0, .ref v0)]) (by decide +kernel) rfl rfl (Nat.le_of_ble_eq_true rfl) ?_
  show zW uX10_joinPart none (0, 0) M 0 [(0, .ref v0)] [] (zE (oV r) M')
  unfold fX10_joinPart at h
  refine zr_aload_n (q := 1) dX10_joinPart_0 rfl rfl 0 rfl ?_
  obtain ⟨c_1, h⟩ := chk_some h
  refine zr_get (q := 4) (ci := 10) (k := 13) dX10_joinPart_1 rfl (eq_of_beq c_1) rfl (by decide) rfl zbX10 (by decide) zb_391 rfl ?_
  obtain ⟨v1_2, e_3, h⟩ := app_some h
  refine zr_nmI e_3 ?_
  refine zr_istore_n (q := 5) (L' := [(1, .int v1_2), (0, .ref v0)]) dX10_joinPart_4 rfl rfl (by decide) rfl ?_
  refine zr_aload_n (q := 6) dX10_joinPart_5 rfl rfl 1 rfl ?_
  obtain ⟨c_4, h⟩ := chk_some h
  obtain ⟨a_5, e_6, h⟩ := bnd_some h
  refine zr_getr (q := 9) (ci := 10) (k := 18) dX10_joinPart_6 rfl (eq_of_beq c_4) rfl (by decide) rfl zbX10 (by decide) zb_394 rfl e_6 ?_
  refine zr_iload_n (q := 10) dX10_joinPart_9 rfl rfl 0 rfl ?_
  obtain ⟨c_7, h⟩ := chk_some h
  obtain ⟨c_8, h⟩ := chk_some h
  refine zr_zald (q := 11) dX10_joinPart_10 rfl (eq_of_beq c_7) c_8 ?_
  refine zr_if_ne (q := 14) (tgt := 15) dX10_joinPart_11 rfl (by decide) (fun c_9 => ?_) (fun c_9 => ?_)
  · replace h := ite_f c_9 h
    refine zr_aload_n (q := 16) dX10_joinPart_15 rfl rfl 1 rfl ?_
    refine zr_aload_n (q := 17) dX10_joinPart_16 rfl rfl 1 rfl ?_
    obtain ⟨c_10, h⟩ := chk_some h
    obtain ⟨a_11, e_12, h⟩ := bnd_some h
    refine zr_getr (q := 20) (ci := 10) (k := 17) dX10_joinPart_17 rfl (eq_of_beq c_10) rfl (by decide) rfl zbX10 (by decide) zb_393 rfl e_12 ?_
    refine zr_iload_n (q := 21) dX10_joinPart_20 rfl rfl 0 rfl ?_
    obtain ⟨c_13, h⟩ := chk_some h
    obtain ⟨c_14, h⟩ := chk_some h
    refine zr_lald (q := 22) dX10_joinPart_21 rfl (eq_of_beq c_13) c_14 ?_
    refine zr_aload_n (q := 23) dX10_joinPart_22 rfl rfl 1 rfl ?_
    obtain ⟨c_15, h⟩ := chk_some h
    obtain ⟨a_16, e_17, h⟩ := bnd_some h
    refine zr_getr (q := 26) (ci := 10) (k := 21) dX10_joinPart_23 rfl (eq_of_beq c_15) rfl (by decide) rfl zbX10 (by decide) zb_410 rfl e_17 ?_
    refine zr_iload_n (q := 27) dX10_joinPart_26 rfl rfl 0 rfl ?_
    obtain ⟨c_18, h⟩ := chk_some h
    obtain ⟨c_19, h⟩ := chk_some h
    refine zr_lald (q := 28) dX10_joinPart_27 rfl (eq_of_beq c_18) c_19 ?_
    obtain ⟨c_23, h⟩ := chk_some h
    obtain ⟨r_20, M_21, hc_22, h⟩ := bnd2_some h
    refine zr_callVV (μ' := uX10_link) (q := 31) (n := 2) (ci := 10) (As := [.long (mL M a_11 (Int32.toNatClampNeg v1_2)), .long (mL M a_16 (Int32.toNatClampNeg v1_2))]) (u' := (0, 0)) (tX10_link n M v0 (mL M a_11 (Int32.toNatClampNeg v1_2)) (mL M a_16 (Int32.toNatClampNeg v1_2)) _ _ hc_22) dX10_joinPart_28 rfl rfl ⟨zb_411, zb_412, zb_413, zb_414, zb_389⟩ zd_X10_link ⟨by decide, by decide⟩ ⟨by decide, by decide⟩ (eq_of_beq c_23) (by decide) rfl rfl rfl (Nat.le_of_ble_eq_true rfl) rfl rfl ?_
    refine zr_aload_n (q := 32) dX10_joinPart_31 rfl rfl 1 rfl ?_
    obtain ⟨c_24, h⟩ := chk_some h
    obtain ⟨a_25, e_26, h⟩ := bnd_some h
    refine zr_getr (q := 35) (ci := 10) (k := 16) dX10_joinPart_32 rfl (eq_of_beq c_24) rfl (by decide) rfl zbX10 (by decide) zb_392 rfl e_26 ?_
    refine zr_iload_n (q := 36) dX10_joinPart_35 rfl rfl 0 rfl ?_
    refine zr_aload_n (q := 37) dX10_joinPart_36 rfl rfl 1 rfl ?_
    obtain ⟨c_27, h⟩ := chk_some h
    obtain ⟨a_28, e_29, h⟩ := bnd_some h
    refine zr_getr (q := 40) (ci := 10) (k := 15) dX10_joinPart_37 rfl (eq_of_beq c_27) rfl (by decide) rfl zbX10 (by decide) zb_390 rfl e_29 ?_
    refine zr_iload_n (q := 41) dX10_joinPart_40 rfl rfl 0 rfl ?_
    obtain ⟨c_30, h⟩ := chk_some h
    obtain ⟨c_31, h⟩ := chk_some h
    refine zr_zald (q := 42) dX10_joinPart_41 rfl (eq_of_beq c_30) c_31 ?_
    refine zr_if_eq (q := 45) (tgt := 61) dX10_joinPart_42 rfl (by decide) (fun c_32 => ?_) (fun c_32 => ?_)
    · replace h := ite_t c_32 h
      refine zr_aload_n (q := 62) dX10_joinPart_61 rfl rfl 1 rfl ?_
      obtain ⟨c_33, h⟩ := chk_some h
      obtain ⟨a_34, e_35, h⟩ := bnd_some h
      refine zr_getr (q := 65) (ci := 10) (k := 16) dX10_joinPart_62 rfl (eq_of_beq c_33) rfl (by decide) rfl zbX10 (by decide) zb_392 rfl e_35 ?_
      refine zr_iload_n (q := 66) dX10_joinPart_65 rfl rfl 0 rfl ?_
      obtain ⟨c_36, h⟩ := chk_some h
      obtain ⟨c_37, h⟩ := chk_some h
      refine zr_lald (q := 67) dX10_joinPart_66 rfl (eq_of_beq c_36) c_37 ?_
      exact zr_pick [1, 0] rfl (tX10_joinPart_67 n M_21 v0 v1_2 a_25 v1_2 (mL M_21 a_34 (Int32.toNatClampNeg v1_2)) _ _ h)
    · replace h := ite_f c_32 h
      refine zr_aload_n (q := 46) dX10_joinPart_45 rfl rfl 1 rfl ?_
      obtain ⟨c_38, h⟩ := chk_some h
      obtain ⟨a_39, e_40, h⟩ := bnd_some h
      refine zr_getr (q := 49) (ci := 10) (k := 16) dX10_joinPart_46 rfl (eq_of_beq c_38) rfl (by decide) rfl zbX10 (by decide) zb_392 rfl e_40 ?_
      refine zr_iload_n (q := 50) dX10_joinPart_49 rfl rfl 0 rfl ?_
      obtain ⟨c_41, h⟩ := chk_some h
      obtain ⟨c_42, h⟩ := chk_some h
      refine zr_lald (q := 51) dX10_joinPart_50 rfl (eq_of_beq c_41) c_42 ?_
      refine zr_aload_n (q := 52) dX10_joinPart_51 rfl rfl 1 rfl ?_
      obtain ⟨c_43, h⟩ := chk_some h
      obtain ⟨a_44, e_45, h⟩ := bnd_some h
      refine zr_getr (q := 55) (ci := 10) (k := 21) dX10_joinPart_52 rfl (eq_of_beq c_43) rfl (by decide) rfl zbX10 (by decide) zb_410 rfl e_45 ?_
      refine zr_iload_n (q := 56) dX10_joinPart_55 rfl rfl 0 rfl ?_
      obtain ⟨c_46, h⟩ := chk_some h
      obtain ⟨c_47, h⟩ := chk_some h
      refine zr_lald (q := 57) dX10_joinPart_56 rfl (eq_of_beq c_46) c_47 ?_
      refine zr_lor (q := 58) dX10_joinPart_57 rfl ?_
      refine zr_goto (q := 67) dX10_joinPart_58 (by decide) ?_
      exact zr_pick [1, 0] rfl (tX10_joinPart_67 n M_21 v0 v1_2 a_25 v1_2 ((mL M_21 a_39 (Int32.toNatClampNeg v1_2)) ||| (mL M_21 a_44 (Int32.toNatClampNeg v1_2))) _ _ h)
  · replace h := ite_t c_9 h
    cases h
    exact zr_return dX10_joinPart_14 rfl ⟨by decide, by decide⟩ ⟨rfl, rfl⟩

def uX10_endRow : zMu := (yX10_endRow, cX10_endRow, 1, none, { frames := 3, cells := 0, slots := 0, locals := 68 }, [])
theorem zd_X10_endRow : (uY uX10_endRow).cls ≠ "java/lang/invoke/MethodHandle" ∧ (uY uX10_endRow).cls ≠ "java/lang/invoke/VarHandle" ∧ (parseMethodDescriptor (uY uX10_endRow).desc).map (fun d => d.parameters.length) = some 0 := by decide +kernel
def fX10_endRow_41 (n : Nat) (M : zM) (v0 : Nat) (s0 : Nat) (s1 : Int32) (s2 : Int32) : Option (Unit × zM) :=
  chk (mK M s0 == 13) <|
  chk (zin s1 (mN M s0)) <|
  app (wI M s0 (Int32.toNatClampNeg s1) (vp_nar .boolean s2)) fun M_3 : zM =>
  chk (mK M_3 v0 == 10) <|
  bnd (mR M_3 v0 24) fun a_6 =>
  chk (mK M_3 v0 == 10) <|
  chk (mK M_3 v0 == 10) <|
  bnd (mR M_3 v0 24) fun a_10 =>
  chk (mK M_3 v0 == 10) <|
  chk (mK M_3 a_10 == 12) <|
  chk (zin (mI M_3 v0 13) (mN M_3 a_10)) <|
  chk (mK M_3 v0 == 10) <|
  bnd (mR M_3 v0 16) fun a_16 =>
  chk (mK M_3 v0 == 10) <|
  chk (mK M_3 a_16 == 12) <|
  chk (zin (mI M_3 v0 13) (mN M_3 a_16)) <|
  chk (mK M_3 a_6 == 12) <|
  chk (zin (mI M_3 v0 13) (mN M_3 a_6)) <|
  app (wL M_3 a_6 (Int32.toNatClampNeg (mI M_3 v0 13)) ((mL M_3 a_10 (Int32.toNatClampNeg (mI M_3 v0 13))) ||| (mL M_3 a_16 (Int32.toNatClampNeg (mI M_3 v0 13))))) fun M_23 : zM =>
  chk (mK M_23 v0 == 10) <|
  bnd (mR M_23 v0 25) fun a_26 =>
  chk (mK M_23 v0 == 10) <|
  chk (mK M_23 v0 == 10) <|
  bnd (mR M_23 v0 25) fun a_30 =>
  chk (mK M_23 v0 == 10) <|
  chk (mK M_23 a_30 == 12) <|
  chk (zin (mI M_23 v0 13) (mN M_23 a_30)) <|
  chk (mK M_23 v0 == 10) <|
  bnd (mR M_23 v0 17) fun a_36 =>
  chk (mK M_23 v0 == 10) <|
  chk (mK M_23 a_36 == 12) <|
  chk (zin (mI M_23 v0 13) (mN M_23 a_36)) <|
  chk (mK M_23 a_26 == 12) <|
  chk (zin (mI M_23 v0 13) (mN M_23 a_26)) <|
  app (wL M_23 a_26 (Int32.toNatClampNeg (mI M_23 v0 13)) ((mL M_23 a_30 (Int32.toNatClampNeg (mI M_23 v0 13))) ||| (mL M_23 a_36 (Int32.toNatClampNeg (mI M_23 v0 13))))) fun M_43 : zM =>
  some ((), M_43)
set_option maxHeartbeats 4000000 in
theorem tX10_endRow_41 (n : Nat) (M : zM) (v0 : Nat) (s0 : Nat) (s1 : Int32) (s2 : Int32) (r : Unit) (M' : zM) (h : fX10_endRow_41 n M v0 s0 s1 s2 = some (r, M')) : zW uX10_endRow none (0, 0) M 41 [(0, .ref v0)] [.int s2, .int s1, .ref s0] (zE (oV r) M') := by
  unfold fX10_endRow_41 at h
  obtain ⟨c_1, h⟩ := chk_some h
  obtain ⟨c_2, h⟩ := chk_some h
  obtain ⟨M_3, e_4, h⟩ := app_some h
  refine zr_zast (q := 42) dX10_endRow_41 rfl (eq_of_beq c_1) c_2 ?_
  refine zr_mem e_4 ?_
  refine zr_aload_n (q := 43) dX10_endRow_42 rfl rfl 0 rfl ?_
  obtain ⟨c_5, h⟩ := chk_some h
  obtain ⟨a_6, e_7, h⟩ := bnd_some h
  refine zr_getr (q := 46) (ci := 10) (k := 24) dX10_endRow_43 rfl (eq_of_beq c_5) rfl (by decide) rfl zbX10 (by decide) zb_396 rfl e_7 ?_
  refine zr_aload_n (q := 47) dX10_endRow_46 rfl rfl 0 rfl ?_
  obtain ⟨c_8, h⟩ := chk_some h
  refine zr_get (q := 50) (ci := 10) (k := 13) dX10_endRow_47 rfl (eq_of_beq c_8) rfl (by decide) rfl zbX10 (by decide) zb_391 rfl ?_
  refine zr_aload_n (q := 51) dX10_endRow_50 rfl rfl 0 rfl ?_
  obtain ⟨c_9, h⟩ := chk_some h
  obtain ⟨a_10, e_11, h⟩ := bnd_some h
  refine zr_getr (q := 54) (ci := 10) (k := 24) dX10_endRow_51 rfl (eq_of_beq c_9) rfl (by decide) rfl zbX10 (by decide) zb_396 rfl e_11 ?_
  refine zr_aload_n (q := 55) dX10_endRow_54 rfl rfl 0 rfl ?_
  obtain ⟨c_12, h⟩ := chk_some h
  refine zr_get (q := 58) (ci := 10) (k := 13) dX10_endRow_55 rfl (eq_of_beq c_12) rfl (by decide) rfl zbX10 (by decide) zb_391 rfl ?_
  obtain ⟨c_13, h⟩ := chk_some h
  obtain ⟨c_14, h⟩ := chk_some h
  refine zr_lald (q := 59) dX10_endRow_58 rfl (eq_of_beq c_13) c_14 ?_
  refine zr_aload_n (q := 60) dX10_endRow_59 rfl rfl 0 rfl ?_
  obtain ⟨c_15, h⟩ := chk_some h
  obtain ⟨a_16, e_17, h⟩ := bnd_some h
  refine zr_getr (q := 63) (ci := 10) (k := 16) dX10_endRow_60 rfl (eq_of_beq c_15) rfl (by decide) rfl zbX10 (by decide) zb_392 rfl e_17 ?_
  refine zr_aload_n (q := 64) dX10_endRow_63 rfl rfl 0 rfl ?_
  obtain ⟨c_18, h⟩ := chk_some h
  refine zr_get (q := 67) (ci := 10) (k := 13) dX10_endRow_64 rfl (eq_of_beq c_18) rfl (by decide) rfl zbX10 (by decide) zb_391 rfl ?_
  obtain ⟨c_19, h⟩ := chk_some h
  obtain ⟨c_20, h⟩ := chk_some h
  refine zr_lald (q := 68) dX10_endRow_67 rfl (eq_of_beq c_19) c_20 ?_
  refine zr_lor (q := 69) dX10_endRow_68 rfl ?_
  obtain ⟨c_21, h⟩ := chk_some h
  obtain ⟨c_22, h⟩ := chk_some h
  obtain ⟨M_23, e_24, h⟩ := app_some h
  refine zr_last (q := 70) dX10_endRow_69 rfl (eq_of_beq c_21) c_22 ?_
  refine zr_mem e_24 ?_
  refine zr_aload_n (q := 71) dX10_endRow_70 rfl rfl 0 rfl ?_
  obtain ⟨c_25, h⟩ := chk_some h
  obtain ⟨a_26, e_27, h⟩ := bnd_some h
  refine zr_getr (q := 74) (ci := 10) (k := 25) dX10_endRow_71 rfl (eq_of_beq c_25) rfl (by decide) rfl zbX10 (by decide) zb_397 rfl e_27 ?_
  refine zr_aload_n (q := 75) dX10_endRow_74 rfl rfl 0 rfl ?_
  obtain ⟨c_28, h⟩ := chk_some h
  refine zr_get (q := 78) (ci := 10) (k := 13) dX10_endRow_75 rfl (eq_of_beq c_28) rfl (by decide) rfl zbX10 (by decide) zb_391 rfl ?_
  refine zr_aload_n (q := 79) dX10_endRow_78 rfl rfl 0 rfl ?_
  obtain ⟨c_29, h⟩ := chk_some h
  obtain ⟨a_30, e_31, h⟩ := bnd_some h
  refine zr_getr (q := 82) (ci := 10) (k := 25) dX10_endRow_79 rfl (eq_of_beq c_29) rfl (by decide) rfl zbX10 (by decide) zb_397 rfl e_31 ?_
  refine zr_aload_n (q := 83) dX10_endRow_82 rfl rfl 0 rfl ?_
  obtain ⟨c_32, h⟩ := chk_some h
  refine zr_get (q := 86) (ci := 10) (k := 13) dX10_endRow_83 rfl (eq_of_beq c_32) rfl (by decide) rfl zbX10 (by decide) zb_391 rfl ?_
  obtain ⟨c_33, h⟩ := chk_some h
  obtain ⟨c_34, h⟩ := chk_some h
  refine zr_lald (q := 87) dX10_endRow_86 rfl (eq_of_beq c_33) c_34 ?_
  refine zr_aload_n (q := 88) dX10_endRow_87 rfl rfl 0 rfl ?_
  obtain ⟨c_35, h⟩ := chk_some h
  obtain ⟨a_36, e_37, h⟩ := bnd_some h
  refine zr_getr (q := 91) (ci := 10) (k := 17) dX10_endRow_88 rfl (eq_of_beq c_35) rfl (by decide) rfl zbX10 (by decide) zb_393 rfl e_37 ?_
  refine zr_aload_n (q := 92) dX10_endRow_91 rfl rfl 0 rfl ?_
  obtain ⟨c_38, h⟩ := chk_some h
  refine zr_get (q := 95) (ci := 10) (k := 13) dX10_endRow_92 rfl (eq_of_beq c_38) rfl (by decide) rfl zbX10 (by decide) zb_391 rfl ?_
  obtain ⟨c_39, h⟩ := chk_some h
  obtain ⟨c_40, h⟩ := chk_some h
  refine zr_lald (q := 96) dX10_endRow_95 rfl (eq_of_beq c_39) c_40 ?_
  refine zr_lor (q := 97) dX10_endRow_96 rfl ?_
  obtain ⟨c_41, h⟩ := chk_some h
  obtain ⟨c_42, h⟩ := chk_some h
  obtain ⟨M_43, e_44, h⟩ := app_some h
  refine zr_last (q := 98) dX10_endRow_97 rfl (eq_of_beq c_41) c_42 ?_
  refine zr_mem e_44 ?_
  cases h
  exact zr_return dX10_endRow_98 rfl ⟨by decide, by decide⟩ ⟨rfl, rfl⟩
def fX10_endRow_36 (n : Nat) (M : zM) (v0 : Nat) (s0 : Nat) (s1 : Int32) : Option (Unit × zM) :=
  fX10_endRow_41 n M v0 s0 s1 (1 : Int32)
set_option maxHeartbeats 4000000 in
theorem tX10_endRow_36 (n : Nat) (M : zM) (v0 : Nat) (s0 : Nat) (s1 : Int32) (r : Unit) (M' : zM) (h : fX10_endRow_36 n M v0 s0 s1 = some (r, M')) : zW uX10_endRow none (0, 0) M 36 [(0, .ref v0)] [.int s1, .ref s0] (zE (oV r) M') := by
  unfold fX10_endRow_36 at h
  refine zr_iconst (q := 37) (v := 1) dX10_endRow_36 rfl (by decide) ?_
  refine zr_goto (q := 41) dX10_endRow_37 (by decide) ?_
  exact zr_pick [0] rfl (tX10_endRow_41 n M v0 s0 s1 (1 : Int32) _ _ h)
def fX10_endRow (n : Nat) (M : zM) (v0 : Nat) : Option (Unit × zM) :=
  chk (mK M v0 == 10) <|
  bnd2 (fX10_joinPart n M v0) fun r_1 M_2 =>
  chk (mK M_2 v0 == 10) <|
  bnd (mR M_2 v0 23) fun a_6 =>
  chk (mK M_2 v0 == 10) <|
  chk (mK M_2 v0 == 10) <|
  bnd (mR M_2 v0 23) fun a_10 =>
  chk (mK M_2 v0 == 10) <|
  chk (mK M_2 a_10 == 13) <|
  chk (zin (mI M_2 v0 13) (mN M_2 a_10)) <|
  if (mI M_2 a_10 (Int32.toNatClampNeg (mI M_2 v0 13))) = (0 : Int32) then
    chk (mK M_2 v0 == 10) <|
    bnd (mR M_2 v0 15) fun a_17 =>
    chk (mK M_2 v0 == 10) <|
    chk (mK M_2 a_17 == 13) <|
    chk (zin (mI M_2 v0 13) (mN M_2 a_17)) <|
    if (mI M_2 a_17 (Int32.toNatClampNeg (mI M_2 v0 13))) = (0 : Int32) then
      fX10_endRow_41 n M_2 v0 a_6 (mI M_2 v0 13) (0 : Int32)
    else
    fX10_endRow_36 n M_2 v0 a_6 (mI M_2 v0 13)
  else
  fX10_endRow_36 n M_2 v0 a_6 (mI M_2 v0 13)
set_option maxHeartbeats 4000000 in
theorem tX10_endRow (n : Nat) (M : zM) (v0 : Nat) (r : Unit) (M' : zM) (h : fX10_endRow n M v0 = some (r, M')) : zMet uX10_endRow false M [.ref v0] (zE (oV r) M') := by
  refine zMet_of (L := [(0, .ref v0)]) (by decide +kernel) rfl rfl (Nat.le_of_ble_eq_true rfl) ?_
  show zW uX10_endRow none (0, 0) M 0 [(0, .ref v0)] [] (zE (oV r) M')
  unfold fX10_endRow at h
  refine zr_aload_n (q := 1) dX10_endRow_0 rfl rfl 0 rfl ?_
  obtain ⟨c_4, h⟩ := chk_some h
  obtain ⟨r_1, M_2, hc_3, h⟩ := bnd2_some h
  refine zr_callVV (μ' := uX10_joinPart) (q := 4) (n := 0) (ci := 10) (As := []) (u' := (0, 0)) (tX10_joinPart n M v0 _ _ hc_3) dX10_endRow_1 rfl rfl ⟨zb_415, zb_416, zb_417, zb_418, zb_389⟩ zd_X10_joinPart ⟨by decide, by decide⟩ ⟨by decide, by decide⟩ (eq_of_beq c_4) (by decide) rfl rfl rfl (Nat.le_of_ble_eq_true rfl) rfl rfl ?_
  refine zr_aload_n (q := 5) dX10_endRow_4 rfl rfl 0 rfl ?_
  obtain ⟨c_5, h⟩ := chk_some h
  obtain ⟨a_6, e_7, h⟩ := bnd_some h
  refine zr_getr (q := 8) (ci := 10) (k := 23) dX10_endRow_5 rfl (eq_of_beq c_5) rfl (by decide) rfl zbX10 (by decide) zb_395 rfl e_7 ?_
  refine zr_aload_n (q := 9) dX10_endRow_8 rfl rfl 0 rfl ?_
  obtain ⟨c_8, h⟩ := chk_some h
  refine zr_get (q := 12) (ci := 10) (k := 13) dX10_endRow_9 rfl (eq_of_beq c_8) rfl (by decide) rfl zbX10 (by decide) zb_391 rfl ?_
  refine zr_aload_n (q := 13) dX10_endRow_12 rfl rfl 0 rfl ?_
  obtain ⟨c_9, h⟩ := chk_some h
  obtain ⟨a_10, e_11, h⟩ := bnd_some h
  refine zr_getr (q := 16) (ci := 10) (k := 23) dX10_endRow_13 rfl (eq_of_beq c_9) rfl (by decide) rfl zbX10 (by decide) zb_395 rfl e_11 ?_
  refine zr_aload_n (q := 17) dX10_endRow_16 rfl rfl 0 rfl ?_
  obtain ⟨c_12, h⟩ := chk_some h
  refine zr_get (q := 20) (ci := 10) (k := 13) dX10_endRow_17 rfl (eq_of_beq c_12) rfl (by decide) rfl zbX10 (by decide) zb_391 rfl ?_
  obtain ⟨c_13, h⟩ := chk_some h
  obtain ⟨c_14, h⟩ := chk_some h
  refine zr_zald (q := 21) dX10_endRow_20 rfl (eq_of_beq c_13) c_14 ?_
  refine zr_if_ne (q := 24) (tgt := 36) dX10_endRow_21 rfl (by decide) (fun c_15 => ?_) (fun c_15 => ?_)
  · replace h := ite_f c_15 h
    exact zr_pick [0] rfl (tX10_endRow_36 n M_2 v0 a_6 (mI M_2 v0 13) _ _ h)
  · replace h := ite_t c_15 h
    refine zr_aload_n (q := 25) dX10_endRow_24 rfl rfl 0 rfl ?_
    obtain ⟨c_16, h⟩ := chk_some h
    obtain ⟨a_17, e_18, h⟩ := bnd_some h
    refine zr_getr (q := 28) (ci := 10) (k := 15) dX10_endRow_25 rfl (eq_of_beq c_16) rfl (by decide) rfl zbX10 (by decide) zb_390 rfl e_18 ?_
    refine zr_aload_n (q := 29) dX10_endRow_28 rfl rfl 0 rfl ?_
    obtain ⟨c_19, h⟩ := chk_some h
    refine zr_get (q := 32) (ci := 10) (k := 13) dX10_endRow_29 rfl (eq_of_beq c_19) rfl (by decide) rfl zbX10 (by decide) zb_391 rfl ?_
    obtain ⟨c_20, h⟩ := chk_some h
    obtain ⟨c_21, h⟩ := chk_some h
    refine zr_zald (q := 33) dX10_endRow_32 rfl (eq_of_beq c_20) c_21 ?_
    refine zr_if_eq (q := 36) (tgt := 40) dX10_endRow_33 rfl (by decide) (fun c_22 => ?_) (fun c_22 => ?_)
    · replace h := ite_t c_22 h
      refine zr_iconst (q := 41) (v := 0) dX10_endRow_40 rfl (by decide) ?_
      exact zr_pick [0] rfl (tX10_endRow_41 n M_2 v0 a_6 (mI M_2 v0 13) (0 : Int32) _ _ h)
    · replace h := ite_f c_22 h
      exact zr_pick [0] rfl (tX10_endRow_36 n M_2 v0 a_6 (mI M_2 v0 13) _ _ h)

def uX10_setPart : zMu := (yX10_setPart, cX10_setPart, 7, none, { frames := 0, cells := 0, slots := 0, locals := 0 }, [])
theorem zd_X10_setPart : (uY uX10_setPart).cls ≠ "java/lang/invoke/MethodHandle" ∧ (uY uX10_setPart).cls ≠ "java/lang/invoke/VarHandle" ∧ (parseMethodDescriptor (uY uX10_setPart).desc).map (fun d => d.parameters.length) = some 4 := by decide +kernel
def fX10_setPart (n : Nat) (M : zM) (v0 : Nat) (v1 : Int32) (v2 : Int32) (v3 : Int64) (v5 : Int64) : Option (Unit × zM) :=
  chk (mK M v0 == 10) <|
  bnd (mR M v0 18) fun a_2 =>
  chk (mK M v0 == 10) <|
  chk (mK M a_2 == 13) <|
  chk (zin (mI M v0 13) (mN M a_2)) <|
  app (wI M a_2 (Int32.toNatClampNeg (mI M v0 13)) (vp_nar .boolean (1 : Int32))) fun M_7 : zM =>
  chk (mK M_7 v0 == 10) <|
  bnd (mR M_7 v0 19) fun a_10 =>
  chk (mK M_7 v0 == 10) <|
  chk (mK M_7 a_10 == 11) <|
  chk (zin (mI M_7 v0 13) (mN M_7 a_10)) <|
  app (wI M_7 a_10 (Int32.toNatClampNeg (mI M_7 v0 13)) v1) fun M_15 : zM =>
  chk (mK M_15 v0 == 10) <|
  bnd (mR M_15 v0 20) fun a_18 =>
  chk (mK M_15 v0 == 10) <|
  chk (mK M_15 a_18 == 13) <|
  chk (zin (mI M_15 v0 13) (mN M_15 a_18)) <|
  app (wI M_15 a_18 (Int32.toNatClampNeg (mI M_15 v0 13)) (vp_nar .boolean v2)) fun M_23 : zM =>
  chk (mK M_23 v0 == 10) <|
  bnd (mR M_23 v0 21) fun a_26 =>
  chk (mK M_23 v0 == 10) <|
  chk (mK M_23 a_26 == 12) <|
  chk (zin (mI M_23 v0 13) (mN M_23 a_26)) <|
  app (wL M_23 a_26 (Int32.toNatClampNeg (mI M_23 v0 13)) v3) fun M_31 : zM =>
  chk (mK M_31 v0 == 10) <|
  bnd (mR M_31 v0 22) fun a_34 =>
  chk (mK M_31 v0 == 10) <|
  chk (mK M_31 a_34 == 12) <|
  chk (zin (mI M_31 v0 13) (mN M_31 a_34)) <|
  app (wL M_31 a_34 (Int32.toNatClampNeg (mI M_31 v0 13)) v5) fun M_39 : zM =>
  some ((), M_39)
set_option maxHeartbeats 4000000 in
theorem tX10_setPart (n : Nat) (M : zM) (v0 : Nat) (v1 : Int32) (v2 : Int32) (v3 : Int64) (v5 : Int64) (r : Unit) (M' : zM) (h : fX10_setPart n M v0 v1 v2 v3 v5 = some (r, M')) : zMet uX10_setPart false M [.ref v0, .int v1, .int v2, .long v3, .long v5] (zE (oV r) M') := by
  refine zMet_of (L := [(0, .ref v0), (1, .int v1), (2, .int v2), (3, .long v3), (5, .long v5)]) (by decide +kernel) rfl rfl (Nat.le_of_ble_eq_true rfl) ?_
  show zW uX10_setPart none (0, 0) M 0 [(0, .ref v0), (1, .int v1), (2, .int v2), (3, .long v3), (5, .long v5)] [] (zE (oV r) M')
  unfold fX10_setPart at h
  refine zr_aload_n (q := 1) dX10_setPart_0 rfl rfl 0 rfl ?_
  obtain ⟨c_1, h⟩ := chk_some h
  obtain ⟨a_2, e_3, h⟩ := bnd_some h
  refine zr_getr (q := 4) (ci := 10) (k := 18) dX10_setPart_1 rfl (eq_of_beq c_1) rfl (by decide) rfl zbX10 (by decide) zb_394 rfl e_3 ?_
  refine zr_aload_n (q := 5) dX10_setPart_4 rfl rfl 0 rfl ?_
  obtain ⟨c_4, h⟩ := chk_some h
  refine zr_get (q := 8) (ci := 10) (k := 13) dX10_setPart_5 rfl (eq_of_beq c_4) rfl (by decide) rfl zbX10 (by decide) zb_391 rfl ?_
  refine zr_iconst (q := 9) (v := 1) dX10_setPart_8 rfl (by decide) ?_
  obtain ⟨c_5, h⟩ := chk_some h
  obtain ⟨c_6, h⟩ := chk_some h
  obtain ⟨M_7, e_8, h⟩ := app_some h
  refine zr_zast (q := 10) dX10_setPart_9 rfl (eq_of_beq c_5) c_6 ?_
  refine zr_mem e_8 ?_
  refine zr_aload_n (q := 11) dX10_setPart_10 rfl rfl 0 rfl ?_
  obtain ⟨c_9, h⟩ := chk_some h
  obtain ⟨a_10, e_11, h⟩ := bnd_some h
  refine zr_getr (q := 14) (ci := 10) (k := 19) dX10_setPart_11 rfl (eq_of_beq c_9) rfl (by decide) rfl zbX10 (by decide) zb_419 rfl e_11 ?_
  refine zr_aload_n (q := 15) dX10_setPart_14 rfl rfl 0 rfl ?_
  obtain ⟨c_12, h⟩ := chk_some h
  refine zr_get (q := 18) (ci := 10) (k := 13) dX10_setPart_15 rfl (eq_of_beq c_12) rfl (by decide) rfl zbX10 (by decide) zb_391 rfl ?_
  refine zr_iload_n (q := 19) dX10_setPart_18 rfl rfl 1 rfl ?_
  obtain ⟨c_13, h⟩ := chk_some h
  obtain ⟨c_14, h⟩ := chk_some h
  obtain ⟨M_15, e_16, h⟩ := app_some h
  refine zr_iast (q := 20) dX10_setPart_19 rfl (eq_of_beq c_13) c_14 ?_
  refine zr_mem e_16 ?_
  refine zr_aload_n (q := 21) dX10_setPart_20 rfl rfl 0 rfl ?_
  obtain ⟨c_17, h⟩ := chk_some h
  obtain ⟨a_18, e_19, h⟩ := bnd_some h
  refine zr_getr (q := 24) (ci := 10) (k := 20) dX10_setPart_21 rfl (eq_of_beq c_17) rfl (by decide) rfl zbX10 (by decide) zb_408 rfl e_19 ?_
  refine zr_aload_n (q := 25) dX10_setPart_24 rfl rfl 0 rfl ?_
  obtain ⟨c_20, h⟩ := chk_some h
  refine zr_get (q := 28) (ci := 10) (k := 13) dX10_setPart_25 rfl (eq_of_beq c_20) rfl (by decide) rfl zbX10 (by decide) zb_391 rfl ?_
  refine zr_iload_n (q := 29) dX10_setPart_28 rfl rfl 2 rfl ?_
  obtain ⟨c_21, h⟩ := chk_some h
  obtain ⟨c_22, h⟩ := chk_some h
  obtain ⟨M_23, e_24, h⟩ := app_some h
  refine zr_zast (q := 30) dX10_setPart_29 rfl (eq_of_beq c_21) c_22 ?_
  refine zr_mem e_24 ?_
  refine zr_aload_n (q := 31) dX10_setPart_30 rfl rfl 0 rfl ?_
  obtain ⟨c_25, h⟩ := chk_some h
  obtain ⟨a_26, e_27, h⟩ := bnd_some h
  refine zr_getr (q := 34) (ci := 10) (k := 21) dX10_setPart_31 rfl (eq_of_beq c_25) rfl (by decide) rfl zbX10 (by decide) zb_410 rfl e_27 ?_
  refine zr_aload_n (q := 35) dX10_setPart_34 rfl rfl 0 rfl ?_
  obtain ⟨c_28, h⟩ := chk_some h
  refine zr_get (q := 38) (ci := 10) (k := 13) dX10_setPart_35 rfl (eq_of_beq c_28) rfl (by decide) rfl zbX10 (by decide) zb_391 rfl ?_
  refine zr_lload_n (q := 39) dX10_setPart_38 rfl rfl 3 rfl ?_
  obtain ⟨c_29, h⟩ := chk_some h
  obtain ⟨c_30, h⟩ := chk_some h
  obtain ⟨M_31, e_32, h⟩ := app_some h
  refine zr_last (q := 40) dX10_setPart_39 rfl (eq_of_beq c_29) c_30 ?_
  refine zr_mem e_32 ?_
  refine zr_aload_n (q := 41) dX10_setPart_40 rfl rfl 0 rfl ?_
  obtain ⟨c_33, h⟩ := chk_some h
  obtain ⟨a_34, e_35, h⟩ := bnd_some h
  refine zr_getr (q := 44) (ci := 10) (k := 22) dX10_setPart_41 rfl (eq_of_beq c_33) rfl (by decide) rfl zbX10 (by decide) zb_409 rfl e_35 ?_
  refine zr_aload_n (q := 45) dX10_setPart_44 rfl rfl 0 rfl ?_
  obtain ⟨c_36, h⟩ := chk_some h
  refine zr_get (q := 48) (ci := 10) (k := 13) dX10_setPart_45 rfl (eq_of_beq c_36) rfl (by decide) rfl zbX10 (by decide) zb_391 rfl ?_
  refine zr_lload (q := 50) dX10_setPart_48 rfl 4 rfl ?_
  obtain ⟨c_37, h⟩ := chk_some h
  obtain ⟨c_38, h⟩ := chk_some h
  obtain ⟨M_39, e_40, h⟩ := app_some h
  refine zr_last (q := 51) dX10_setPart_50 rfl (eq_of_beq c_37) c_38 ?_
  refine zr_mem e_40 ?_
  cases h
  exact zr_return dX10_setPart_51 rfl ⟨by decide, by decide⟩ ⟨rfl, rfl⟩

def uX10_atom : zMu := (yX10_atom, cX10_atom, 4, none, { frames := 3, cells := 0, slots := 0, locals := 68 }, [])
theorem zd_X10_atom : (uY uX10_atom).cls ≠ "java/lang/invoke/MethodHandle" ∧ (uY uX10_atom).cls ≠ "java/lang/invoke/VarHandle" ∧ (parseMethodDescriptor (uY uX10_atom).desc).map (fun d => d.parameters.length) = some 2 := by decide +kernel
def fX10_atom (n : Nat) (M : zM) (v0 : Nat) (v1 : Int64) (v3 : Int32) : Option (Unit × zM) :=
  chk (mK M v0 == 10) <|
  if (mI M v0 14) = (60 : Int32) then
    chk (mK M v0 == 10) <|
    bnd2 (fX10_fail n M v0 (4 : Int32) v3) fun r_34 M_35 =>
    some ((), M_35)
  else
  chk (mK M v0 == 10) <|
  bnd2 (fX10_joinPart n M v0) fun r_3 M_4 =>
  chk (mK M_4 v0 == 10) <|
  bnd (mR M_4 v0 12) fun a_8 =>
  chk (mK M_4 v0 == 10) <|
  chk (mK M_4 a_8 == 12) <|
  chk (zin ((120 : Int32) + (mI M_4 v0 14)) (mN M_4 a_8)) <|
  app (wL M_4 a_8 (Int32.toNatClampNeg ((120 : Int32) + (mI M_4 v0 14))) v1) fun M_13 : zM =>
  chk (mK M_13 v0 == 10) <|
  bnd (mR M_13 v0 11) fun a_16 =>
  chk (mK M_13 v0 == 10) <|
  chk (mK M_13 a_16 == 12) <|
  chk (zin ((120 : Int32) + (mI M_13 v0 14)) (mN M_13 a_16)) <|
  app (wL M_13 a_16 (Int32.toNatClampNeg ((120 : Int32) + (mI M_13 v0 14))) (0 : Int64)) fun M_21 : zM =>
  chk (mK M_21 v0 == 10) <|
  chk (mK M_21 v0 == 10) <|
  app (wI M_21 v0 14 ((mI M_21 v0 14) + (1 : Int32))) fun M_25 : zM =>
  chk (mK M_25 v0 == 10) <|
  chk (mK M_25 v0 == 10) <|
  chk (mK M_25 v0 == 10) <|
  chk (mK M_25 v0 == 10) <|
  bnd2 (fX10_setPart n M_25 v0 ((mI M_25 v0 14) - (1 : Int32)) (0 : Int32) (jshl (1 : Int64) ((mI M_25 v0 14) - (1 : Int32))) (jshl (1 : Int64) ((mI M_25 v0 14) - (1 : Int32)))) fun r_30 M_31 =>
  some ((), M_31)
set_option maxHeartbeats 4000000 in
theorem tX10_atom (n : Nat) (M : zM) (v0 : Nat) (v1 : Int64) (v3 : Int32) (r : Unit) (M' : zM) (h : fX10_atom n M v0 v1 v3 = some (r, M')) : zMet uX10_atom false M [.ref v0, .long v1, .int v3] (zE (oV r) M') := by
  refine zMet_of (L := [(0, .ref v0), (1, .long v1), (3, .int v3)]) (by decide +kernel) rfl rfl (Nat.le_of_ble_eq_true rfl) ?_
  show zW uX10_atom none (0, 0) M 0 [(0, .ref v0), (1, .long v1), (3, .int v3)] [] (zE (oV r) M')
  unfold fX10_atom at h
  refine zr_aload_n (q := 1) dX10_atom_0 rfl rfl 0 rfl ?_
  obtain ⟨c_1, h⟩ := chk_some h
  refine zr_get (q := 4) (ci := 10) (k := 14) dX10_atom_1 rfl (eq_of_beq c_1) rfl (by decide) rfl zbX10 (by decide) zb_399 rfl ?_
  refine zr_bipush (q := 6) (v := 60) dX10_atom_4 rfl (by decide) ?_
  refine zr_icmp_ne (q := 9) (tgt := 16) dX10_atom_6 rfl (by decide) (fun c_2 => ?_) (fun c_2 => ?_)
  · replace h := ite_f c_2 h
    refine zr_aload_n (q := 17) dX10_atom_16 rfl rfl 0 rfl ?_
    obtain ⟨c_6, h⟩ := chk_some h
    obtain ⟨r_3, M_4, hc_5, h⟩ := bnd2_some h
    refine zr_callVV (μ' := uX10_joinPart) (q := 20) (n := 0) (ci := 10) (As := []) (u' := (0, 0)) (tX10_joinPart n M v0 _ _ hc_5) dX10_atom_17 rfl rfl ⟨zb_415, zb_416, zb_417, zb_418, zb_389⟩ zd_X10_joinPart ⟨by decide, by decide⟩ ⟨by decide, by decide⟩ (eq_of_beq c_6) (by decide) rfl rfl rfl (Nat.le_of_ble_eq_true rfl) rfl rfl ?_
    refine zr_aload_n (q := 21) dX10_atom_20 rfl rfl 0 rfl ?_
    obtain ⟨c_7, h⟩ := chk_some h
    obtain ⟨a_8, e_9, h⟩ := bnd_some h
    refine zr_getr (q := 24) (ci := 10) (k := 12) dX10_atom_21 rfl (eq_of_beq c_7) rfl (by decide) rfl zbX10 (by decide) zb_420 rfl e_9 ?_
    refine zr_bipush (q := 26) (v := 120) dX10_atom_24 rfl (by decide) ?_
    refine zr_aload_n (q := 27) dX10_atom_26 rfl rfl 0 rfl ?_
    obtain ⟨c_10, h⟩ := chk_some h
    refine zr_get (q := 30) (ci := 10) (k := 14) dX10_atom_27 rfl (eq_of_beq c_10) rfl (by decide) rfl zbX10 (by decide) zb_399 rfl ?_
    refine zr_iadd (q := 31) dX10_atom_30 rfl ?_
    refine zr_lload_n (q := 32) dX10_atom_31 rfl rfl 1 rfl ?_
    obtain ⟨c_11, h⟩ := chk_some h
    obtain ⟨c_12, h⟩ := chk_some h
    obtain ⟨M_13, e_14, h⟩ := app_some h
    refine zr_last (q := 33) dX10_atom_32 rfl (eq_of_beq c_11) c_12 ?_
    refine zr_mem e_14 ?_
    refine zr_aload_n (q := 34) dX10_atom_33 rfl rfl 0 rfl ?_
    obtain ⟨c_15, h⟩ := chk_some h
    obtain ⟨a_16, e_17, h⟩ := bnd_some h
    refine zr_getr (q := 37) (ci := 10) (k := 11) dX10_atom_34 rfl (eq_of_beq c_15) rfl (by decide) rfl zbX10 (by decide) zb_407 rfl e_17 ?_
    refine zr_bipush (q := 39) (v := 120) dX10_atom_37 rfl (by decide) ?_
    refine zr_aload_n (q := 40) dX10_atom_39 rfl rfl 0 rfl ?_
    obtain ⟨c_18, h⟩ := chk_some h
    refine zr_get (q := 43) (ci := 10) (k := 14) dX10_atom_40 rfl (eq_of_beq c_18) rfl (by decide) rfl zbX10 (by decide) zb_399 rfl ?_
    refine zr_iadd (q := 44) dX10_atom_43 rfl ?_
    refine zr_lconst (q := 45) (v := 0) dX10_atom_44 rfl (by decide) ?_
    obtain ⟨c_19, h⟩ := chk_some h
    obtain ⟨c_20, h⟩ := chk_some h
    obtain ⟨M_21, e_22, h⟩ := app_some h
    refine zr_last (q := 46) dX10_atom_45 rfl (eq_of_beq c_19) c_20 ?_
    refine zr_mem e_22 ?_
    refine zr_aload_n (q := 47) dX10_atom_46 rfl rfl 0 rfl ?_
    refine zr_dup (q := 48) dX10_atom_47 rfl rfl ?_
    obtain ⟨c_23, h⟩ := chk_some h
    refine zr_get (q := 51) (ci := 10) (k := 14) dX10_atom_48 rfl (eq_of_beq c_23) rfl (by decide) rfl zbX10 (by decide) zb_399 rfl ?_
    refine zr_iconst (q := 52) (v := 1) dX10_atom_51 rfl (by decide) ?_
    refine zr_iadd (q := 53) dX10_atom_52 rfl ?_
    obtain ⟨c_24, h⟩ := chk_some h
    obtain ⟨M_25, e_26, h⟩ := app_some h
    refine zr_putI (q := 56) (ci := 10) (k := 14) dX10_atom_53 rfl (eq_of_beq c_24) rfl (by decide) rfl zbX10 tyX10_ok nmX10 (by decide) zb_399 (Or.inl rfl) rfl ?_
    refine zr_mem e_26 ?_
    refine zr_aload_n (q := 57) dX10_atom_56 rfl rfl 0 rfl ?_
    refine zr_aload_n (q := 58) dX10_atom_57 rfl rfl 0 rfl ?_
    obtain ⟨c_27, h⟩ := chk_some h
    refine zr_get (q := 61) (ci := 10) (k := 14) dX10_atom_58 rfl (eq_of_beq c_27) rfl (by decide) rfl zbX10 (by decide) zb_399 rfl ?_
    refine zr_iconst (q := 62) (v := 1) dX10_atom_61 rfl (by decide) ?_
    refine zr_isub (q := 63) dX10_atom_62 rfl ?_
    refine zr_iconst (q := 64) (v := 0) dX10_atom_63 rfl (by decide) ?_
    refine zr_lconst (q := 65) (v := 1) dX10_atom_64 rfl (by decide) ?_
    refine zr_aload_n (q := 66) dX10_atom_65 rfl rfl 0 rfl ?_
    obtain ⟨c_28, h⟩ := chk_some h
    refine zr_get (q := 69) (ci := 10) (k := 14) dX10_atom_66 rfl (eq_of_beq c_28) rfl (by decide) rfl zbX10 (by decide) zb_399 rfl ?_
    refine zr_iconst (q := 70) (v := 1) dX10_atom_69 rfl (by decide) ?_
    refine zr_isub (q := 71) dX10_atom_70 rfl ?_
    refine zr_lshl (q := 72) dX10_atom_71 rfl ?_
    refine zr_lconst (q := 73) (v := 1) dX10_atom_72 rfl (by decide) ?_
    refine zr_aload_n (q := 74) dX10_atom_73 rfl rfl 0 rfl ?_
    obtain ⟨c_29, h⟩ := chk_some h
    refine zr_get (q := 77) (ci := 10) (k := 14) dX10_atom_74 rfl (eq_of_beq c_29) rfl (by decide) rfl zbX10 (by decide) zb_399 rfl ?_
    refine zr_iconst (q := 78) (v := 1) dX10_atom_77 rfl (by decide) ?_
    refine zr_isub (q := 79) dX10_atom_78 rfl ?_
    refine zr_lshl (q := 80) dX10_atom_79 rfl ?_
    obtain ⟨c_33, h⟩ := chk_some h
    obtain ⟨r_30, M_31, hc_32, h⟩ := bnd2_some h
    refine zr_callVV (μ' := uX10_setPart) (q := 83) (n := 4) (ci := 10) (As := [.int ((mI M_25 v0 14) - (1 : Int32)), .int (0 : Int32), .long (jshl (1 : Int64) ((mI M_25 v0 14) - (1 : Int32))), .long (jshl (1 : Int64) ((mI M_25 v0 14) - (1 : Int32)))]) (u' := (0, 0)) (tX10_setPart n M_25 v0 ((mI M_25 v0 14) - (1 : Int32)) (0 : Int32) (jshl (1 : Int64) ((mI M_25 v0 14) - (1 : Int32))) (jshl (1 : Int64) ((mI M_25 v0 14) - (1 : Int32))) _ _ hc_32) dX10_atom_80 rfl rfl ⟨zb_421, zb_422, zb_423, zb_424, zb_389⟩ zd_X10_setPart ⟨by decide, by decide⟩ ⟨by decide, by decide⟩ (eq_of_beq c_33) (by decide) rfl rfl rfl (Nat.le_of_ble_eq_true rfl) rfl rfl ?_
    cases h
    exact zr_return dX10_atom_83 rfl ⟨by decide, by decide⟩ ⟨rfl, rfl⟩
  · replace h := ite_t c_2 h
    refine zr_aload_n (q := 10) dX10_atom_9 rfl rfl 0 rfl ?_
    refine zr_iconst (q := 11) (v := 4) dX10_atom_10 rfl (by decide) ?_
    refine zr_iload_n (q := 12) dX10_atom_11 rfl rfl 2 rfl ?_
    obtain ⟨c_37, h⟩ := chk_some h
    obtain ⟨r_34, M_35, hc_36, h⟩ := bnd2_some h
    refine zr_callVV (μ' := uX10_fail) (q := 15) (n := 2) (ci := 10) (As := [.int (4 : Int32), .int v3]) (u' := (0, 0)) (tX10_fail n M v0 (4 : Int32) v3 _ _ hc_36) dX10_atom_12 rfl rfl ⟨zb_385, zb_386, zb_387, zb_388, zb_389⟩ zd_X10_fail ⟨by decide, by decide⟩ ⟨by decide, by decide⟩ (eq_of_beq c_37) (by decide) rfl rfl rfl (Nat.le_of_ble_eq_true rfl) rfl rfl ?_
    cases h
    exact zr_return dX10_atom_15 rfl ⟨by decide, by decide⟩ ⟨rfl, rfl⟩

def uX10_upTo : zMu := (yX10_upTo, cX10_upTo, 5, (some .long), { frames := 0, cells := 0, slots := 0, locals := 0 }, [])
theorem zd_X10_upTo : (uY uX10_upTo).cls ≠ "java/lang/invoke/MethodHandle" ∧ (uY uX10_upTo).cls ≠ "java/lang/invoke/VarHandle" ∧ (parseMethodDescriptor (uY uX10_upTo).desc).map (fun d => d.parameters.length) = some 2 := by decide +kernel
def fX10_upTo_5 : Nat → zM → Int32 → Int64 → Int32 → Option (Int64 × zM)
  | 0, _, _, _, _ => none
  | n + 1, M, v1, v2, v4 =>
    if v1 < v4 then
      some (v2, M)
    else
    app (v2 ||| (jshl (1 : Int64) v4)) fun v2_2 : Int64 =>
    app (v4 + (1 : Int32)) fun v4_4 : Int32 =>
    (fX10_upTo_5 n) M v1 v2_2 v4_4
set_option maxHeartbeats 4000000 in
theorem tX10_upTo_5 : ∀ (n : Nat) (M : zM) (v1 : Int32) (v2 : Int64) (v4 : Int32) (r : Int64) (M' : zM), fX10_upTo_5 n M v1 v2 v4 = some (r, M') → zW uX10_upTo none (0, 0) M 5 [(1, .int v1), (2, .long v2), (4, .int v4)] [] (zE (oL r) M') := by
  intro n
  induction n with
  | zero => intro M v1 v2 v4 r M' h; cases h
  | succ n ih =>
    intro M v1 v2 v4 r M' h
    rw [fX10_upTo_5] at h
    refine zr_iload (q := 7) dX10_upTo_5 rfl 2 rfl ?_
    refine zr_iload_n (q := 8) dX10_upTo_7 rfl rfl 0 rfl ?_
    refine zr_icmp_gt (q := 11) (tgt := 24) dX10_upTo_8 rfl (by decide) (fun c_1 => ?_) (fun c_1 => ?_)
    · replace h := ite_t c_1 h
      refine zr_lload_n (q := 25) dX10_upTo_24 rfl rfl 1 rfl ?_
      cases h
      exact zr_lreturn dX10_upTo_25 rfl ⟨by decide, by decide⟩ ⟨rfl, rfl⟩
    · replace h := ite_f c_1 h
      refine zr_lload_n (q := 12) dX10_upTo_11 rfl rfl 1 rfl ?_
      refine zr_lconst (q := 13) (v := 1) dX10_upTo_12 rfl (by decide) ?_
      refine zr_iload (q := 15) dX10_upTo_13 rfl 2 rfl ?_
      refine zr_lshl (q := 16) dX10_upTo_15 rfl ?_
      refine zr_lor (q := 17) dX10_upTo_16 rfl ?_
      obtain ⟨v2_2, e_3, h⟩ := app_some h
      refine zr_nmL e_3 ?_
      refine zr_lstore_n (q := 18) (L' := [(2, .long v2_2), (1, .int v1), (4, .int v4)]) dX10_upTo_17 rfl rfl (by decide) rfl ?_
      obtain ⟨v4_4, e_5, h⟩ := app_some h
      refine zr_iinc (q := 21) (v := v4_4) (L' := [(4, .int v4_4), (2, .long v2_2), (1, .int v1)]) dX10_upTo_18 rfl 2 rfl (by rw [← e_5]; rfl) (by decide) rfl ?_
      refine zr_goto (q := 5) dX10_upTo_21 (by decide) ?_
      exact zr_pick [2, 1, 0] rfl (ih M v1 v2_2 v4_4 _ _ h)
def fX10_upTo (n : Nat) (M : zM) (v0 : Int32) (v1 : Int32) : Option (Int64 × zM) :=
  fX10_upTo_5 n M v1 (0 : Int64) v0
set_option maxHeartbeats 4000000 in
theorem tX10_upTo (n : Nat) (M : zM) (v0 : Int32) (v1 : Int32) (r : Int64) (M' : zM) (h : fX10_upTo n M v0 v1 = some (r, M')) : zMet uX10_upTo false M [.int v0, .int v1] (zE (oL r) M') := by
  refine zMet_of (L := [(0, .int v0), (1, .int v1)]) (by decide +kernel) rfl rfl (Nat.le_of_ble_eq_true rfl) ?_
  show zW uX10_upTo none (0, 0) M 0 [(0, .int v0), (1, .int v1)] [] (zE (oL r) M')
  unfold fX10_upTo at h
  refine zr_lconst (q := 1) (v := 0) dX10_upTo_0 rfl (by decide) ?_
  refine zr_lstore_n (q := 2) (L' := [(2, .long (0 : Int64)), (0, .int v0), (1, .int v1)]) dX10_upTo_1 rfl rfl (by decide) rfl ?_
  refine zr_iload_n (q := 3) dX10_upTo_2 rfl rfl 1 rfl ?_
  refine zr_istore (q := 5) (L' := [(4, .int v0), (2, .long (0 : Int64)), (0, .int v0), (1, .int v1)]) dX10_upTo_3 rfl (by decide) rfl ?_
  exact zr_pick [3, 1, 0] rfl (tX10_upTo_5 n M v1 (0 : Int64) v0 _ _ h)

def uX10_readSet : zMu := (yX10_readSet, cX10_readSet, 10, none, { frames := 4, cells := 0, slots := 0, locals := 91 }, [])
theorem zd_X10_readSet : (uY uX10_readSet).cls ≠ "java/lang/invoke/MethodHandle" ∧ (uY uX10_readSet).cls ≠ "java/lang/invoke/VarHandle" ∧ (parseMethodDescriptor (uY uX10_readSet).desc).map (fun d => d.parameters.length) = some 0 := by decide +kernel
def fX10_readSet_254 (n : Nat) (M : zM) (v1 : Int32) (s0 : Nat) (s1 : Int64) : Option (Unit × zM) :=
  chk (mK M s0 == 10) <|
  bnd2 (fX10_atom n M s0 s1 v1) fun r_1 M_2 =>
  some ((), M_2)
set_option maxHeartbeats 4000000 in
theorem tX10_readSet_254 (n : Nat) (M : zM) (v1 : Int32) (s0 : Nat) (s1 : Int64) (r : Unit) (M' : zM) (h : fX10_readSet_254 n M v1 s0 s1 = some (r, M')) : zW uX10_readSet none (0, 0) M 254 [(1, .int v1)] [.long s1, .ref s0] (zE (oV r) M') := by
  unfold fX10_readSet_254 at h
  refine zr_iload_n (q := 255) dX10_readSet_254 rfl rfl 0 rfl ?_
  obtain ⟨c_4, h⟩ := chk_some h
  obtain ⟨r_1, M_2, hc_3, h⟩ := bnd2_some h
  refine zr_callVV (μ' := uX10_atom) (q := 258) (n := 2) (ci := 10) (As := [.long s1, .int v1]) (u' := (0, 0)) (tX10_atom n M s0 s1 v1 _ _ hc_3) dX10_readSet_255 rfl rfl ⟨zb_425, zb_426, zb_427, zb_428, zb_389⟩ zd_X10_atom ⟨by decide, by decide⟩ ⟨by decide, by decide⟩ (eq_of_beq c_4) (by decide) rfl rfl rfl (Nat.le_of_ble_eq_true rfl) rfl rfl ?_
  cases h
  exact zr_return dX10_readSet_258 rfl ⟨by decide, by decide⟩ ⟨rfl, rfl⟩
def fX10_readSet_226 (n : Nat) (M : zM) (v0 : Nat) (v1 : Int32) (v2 : Int32) (v3 : Int64) : Option (Unit × zM) :=
  chk (mK M v0 == 10) <|
  if (mI M v0 29) = (0 : Int32) then
    if v2 = (0 : Int32) then
      fX10_readSet_254 n M v1 v0 v3
    else
    bnd2 (fX10_upTo n M (0 : Int32) (35 : Int32)) fun r_4 M_5 =>
    fX10_readSet_254 n M_5 v1 v0 (r_4 &&& (v3 ^^^ (-1 : Int64)))
  else
  some ((), M)
set_option maxHeartbeats 4000000 in
theorem tX10_readSet_226 (n : Nat) (M : zM) (v0 : Nat) (v1 : Int32) (v2 : Int32) (v3 : Int64) (r : Unit) (M' : zM) (h : fX10_readSet_226 n M v0 v1 v2 v3 = some (r, M')) : zW uX10_readSet none (0, 0) M 226 [(0, .ref v0), (1, .int v1), (2, .int v2), (3, .long v3)] [] (zE (oV r) M') := by
  unfold fX10_readSet_226 at h
  refine zr_aload_n (q := 227) dX10_readSet_226 rfl rfl 0 rfl ?_
  obtain ⟨c_1, h⟩ := chk_some h
  refine zr_get (q := 230) (ci := 10) (k := 29) dX10_readSet_227 rfl (eq_of_beq c_1) rfl (by decide) rfl zbX10 (by decide) zb_382 rfl ?_
  refine zr_if_ne (q := 233) (tgt := 258) dX10_readSet_230 rfl (by decide) (fun c_2 => ?_) (fun c_2 => ?_)
  · replace h := ite_f c_2 h
    cases h
    exact zr_return dX10_readSet_258 rfl ⟨by decide, by decide⟩ ⟨rfl, rfl⟩
  · replace h := ite_t c_2 h
    refine zr_aload_n (q := 234) dX10_readSet_233 rfl rfl 0 rfl ?_
    refine zr_iload_n (q := 235) dX10_readSet_234 rfl rfl 2 rfl ?_
    refine zr_if_eq (q := 238) (tgt := 253) dX10_readSet_235 rfl (by decide) (fun c_3 => ?_) (fun c_3 => ?_)
    · replace h := ite_t c_3 h
      refine zr_lload_n (q := 254) dX10_readSet_253 rfl rfl 3 rfl ?_
      exact zr_pick [1] rfl (tX10_readSet_254 n M v1 v0 v3 _ _ h)
    · replace h := ite_f c_3 h
      refine zr_iconst (q := 239) (v := 0) dX10_readSet_238 rfl (by decide) ?_
      refine zr_bipush (q := 241) (v := 35) dX10_readSet_239 rfl (by decide) ?_
      obtain ⟨r_4, M_5, hc_6, h⟩ := bnd2_some h
      refine zr_callSL (μ' := uX10_upTo) (q := 244) (n := 2) (As := [.int (0 : Int32), .int (35 : Int32)]) (u' := (0, 0)) (tX10_upTo n M (0 : Int32) (35 : Int32) _ _ hc_6) dX10_readSet_241 rfl rfl ⟨zb_429, zb_430, zb_431, zb_389⟩ zd_X10_upTo ⟨by decide, by decide⟩ ⟨by decide, by decide⟩ rfl rfl (Nat.le_of_ble_eq_true rfl) rfl ?_
      refine zr_lload_n (q := 245) dX10_readSet_244 rfl rfl 3 rfl ?_
      refine zr_ldc2 (q := 248) (v := -1) dX10_readSet_245 rfl zb_432 ?_
      refine zr_lxor (q := 249) dX10_readSet_248 rfl ?_
      refine zr_land (q := 250) dX10_readSet_249 rfl ?_
      refine zr_goto (q := 254) dX10_readSet_250 (by decide) ?_
      exact zr_pick [1] rfl (tX10_readSet_254 n M_5 v1 v0 (r_4 &&& (v3 ^^^ (-1 : Int64))) _ _ h)
def fX10_readSet_223 (k51 : zM → Nat → Int32 → Int32 → Int64 → Int32 → Int32 → Option (Unit × zM)) (n : Nat) (M : zM) (v0 : Nat) (v1 : Int32) (v2 : Int32) (v3 : Int64) (v5 : Int32) (v6 : Int32) : Option (Unit × zM) :=
  k51 M v0 v1 v2 v3 v5 v6
set_option maxHeartbeats 4000000 in
theorem tX10_readSet_223 (k51 : zM → Nat → Int32 → Int32 → Int64 → Int32 → Int32 → Option (Unit × zM)) (h51 : ∀ (M : zM) (v0 : Nat) (v1 : Int32) (v2 : Int32) (v3 : Int64) (v5 : Int32) (v6 : Int32) (r : Unit) (M' : zM), k51 M v0 v1 v2 v3 v5 v6 = some (r, M') → zW uX10_readSet none (0, 0) M 51 [(0, .ref v0), (1, .int v1), (2, .int v2), (3, .long v3), (5, .int v5), (6, .int v6)] [] (zE (oV r) M')) (n : Nat) (M : zM) (v0 : Nat) (v1 : Int32) (v2 : Int32) (v3 : Int64) (v5 : Int32) (v6 : Int32) (r : Unit) (M' : zM) (h : fX10_readSet_223 k51 n M v0 v1 v2 v3 v5 v6 = some (r, M')) : zW uX10_readSet none (0, 0) M 223 [(0, .ref v0), (1, .int v1), (2, .int v2), (3, .long v3), (5, .int v5), (6, .int v6)] [] (zE (oV r) M') := by
  unfold fX10_readSet_223 at h
  refine zr_goto (q := 51) dX10_readSet_223 (by decide) ?_
  exact zr_pick [0, 1, 2, 3, 4, 5] rfl (h51 M v0 v1 v2 v3 v5 v6 _ _ h)
def fX10_readSet_219 (k51 : zM → Nat → Int32 → Int32 → Int64 → Int32 → Int32 → Option (Unit × zM)) (n : Nat) (M : zM) (v0 : Nat) (v1 : Int32) (v2 : Int32) (v3 : Int64) (v5 : Int32) (v6 : Int32) : Option (Unit × zM) :=
  chk (mK M v0 == 10) <|
  bnd2 (fX10_failHere n M v0) fun r_1 M_2 =>
  fX10_readSet_223 k51 n M_2 v0 v1 v2 v3 v5 v6
set_option maxHeartbeats 4000000 in
theorem tX10_readSet_219 (k51 : zM → Nat → Int32 → Int32 → Int64 → Int32 → Int32 → Option (Unit × zM)) (h51 : ∀ (M : zM) (v0 : Nat) (v1 : Int32) (v2 : Int32) (v3 : Int64) (v5 : Int32) (v6 : Int32) (r : Unit) (M' : zM), k51 M v0 v1 v2 v3 v5 v6 = some (r, M') → zW uX10_readSet none (0, 0) M 51 [(0, .ref v0), (1, .int v1), (2, .int v2), (3, .long v3), (5, .int v5), (6, .int v6)] [] (zE (oV r) M')) (n : Nat) (M : zM) (v0 : Nat) (v1 : Int32) (v2 : Int32) (v3 : Int64) (v5 : Int32) (v6 : Int32) (r : Unit) (M' : zM) (h : fX10_readSet_219 k51 n M v0 v1 v2 v3 v5 v6 = some (r, M')) : zW uX10_readSet none (0, 0) M 219 [(0, .ref v0), (1, .int v1), (2, .int v2), (3, .long v3), (5, .int v5), (6, .int v6)] [] (zE (oV r) M') := by
  unfold fX10_readSet_219 at h
  refine zr_aload_n (q := 220) dX10_readSet_219 rfl rfl 0 rfl ?_
  obtain ⟨c_4, h⟩ := chk_some h
  obtain ⟨r_1, M_2, hc_3, h⟩ := bnd2_some h
  refine zr_callVV (μ' := uX10_failHere) (q := 223) (n := 0) (ci := 10) (As := []) (u' := (0, 0)) (tX10_failHere n M v0 _ _ hc_3) dX10_readSet_220 rfl rfl ⟨zb_433, zb_434, zb_435, zb_436, zb_389⟩ zd_X10_failHere ⟨by decide, by decide⟩ ⟨by decide, by decide⟩ (eq_of_beq c_4) (by decide) rfl rfl rfl (Nat.le_of_ble_eq_true rfl) rfl rfl ?_
  exact zr_pick [0, 1, 2, 3, 4, 5] rfl (tX10_readSet_223 k51 h51 n M_2 v0 v1 v2 v3 v5 v6 _ _ h)
def fX10_readSet_182 (k51 : zM → Nat → Int32 → Int32 → Int64 → Int32 → Int32 → Option (Unit × zM)) (n : Nat) (M : zM) (v0 : Nat) (v1 : Int32) (v2 : Int32) (v6 : Int32) (s0 : Int64) : Option (Unit × zM) :=
  fX10_readSet_223 k51 n M v0 v1 v2 s0 (1 : Int32) v6
set_option maxHeartbeats 4000000 in
theorem tX10_readSet_182 (k51 : zM → Nat → Int32 → Int32 → Int64 → Int32 → Int32 → Option (Unit × zM)) (h51 : ∀ (M : zM) (v0 : Nat) (v1 : Int32) (v2 : Int32) (v3 : Int64) (v5 : Int32) (v6 : Int32) (r : Unit) (M' : zM), k51 M v0 v1 v2 v3 v5 v6 = some (r, M') → zW uX10_readSet none (0, 0) M 51 [(0, .ref v0), (1, .int v1), (2, .int v2), (3, .long v3), (5, .int v5), (6, .int v6)] [] (zE (oV r) M')) (n : Nat) (M : zM) (v0 : Nat) (v1 : Int32) (v2 : Int32) (v6 : Int32) (s0 : Int64) (r : Unit) (M' : zM) (h : fX10_readSet_182 k51 n M v0 v1 v2 v6 s0 = some (r, M')) : zW uX10_readSet none (0, 0) M 182 [(0, .ref v0), (1, .int v1), (2, .int v2), (6, .int v6)] [.long s0] (zE (oV r) M') := by
  unfold fX10_readSet_182 at h
  refine zr_lstore_n (q := 183) (L' := [(3, .long s0), (0, .ref v0), (1, .int v1), (2, .int v2), (6, .int v6)]) dX10_readSet_182 rfl rfl (by decide) rfl ?_
  refine zr_iconst (q := 184) (v := 1) dX10_readSet_183 rfl (by decide) ?_
  refine zr_istore (q := 186) (L' := [(5, .int (1 : Int32)), (3, .long s0), (0, .ref v0), (1, .int v1), (2, .int v2), (6, .int v6)]) dX10_readSet_184 rfl (by decide) rfl ?_
  refine zr_goto (q := 223) dX10_readSet_186 (by decide) ?_
  exact zr_pick [2, 3, 4, 1, 0, 5] rfl (tX10_readSet_223 k51 h51 n M v0 v1 v2 s0 (1 : Int32) v6 _ _ h)
def fX10_readSet_162 (k51 : zM → Nat → Int32 → Int32 → Int64 → Int32 → Int32 → Option (Unit × zM)) (n : Nat) (M : zM) (v0 : Nat) (v1 : Int32) (v2 : Int32) (v3 : Int64) (v6 : Int32) (v7 : Int32) (v9 : Int32) : Option (Unit × zM) :=
  chk (mK M v0 == 10) <|
  if (mI M v0 29) = (0 : Int32) then
    bnd2 (fX10_upTo n M v7 v9) fun r_3 M_4 =>
    fX10_readSet_182 k51 n M_4 v0 v1 v2 v6 (v3 ||| r_3)
  else
  fX10_readSet_182 k51 n M v0 v1 v2 v6 v3
set_option maxHeartbeats 4000000 in
theorem tX10_readSet_162 (k51 : zM → Nat → Int32 → Int32 → Int64 → Int32 → Int32 → Option (Unit × zM)) (h51 : ∀ (M : zM) (v0 : Nat) (v1 : Int32) (v2 : Int32) (v3 : Int64) (v5 : Int32) (v6 : Int32) (r : Unit) (M' : zM), k51 M v0 v1 v2 v3 v5 v6 = some (r, M') → zW uX10_readSet none (0, 0) M 51 [(0, .ref v0), (1, .int v1), (2, .int v2), (3, .long v3), (5, .int v5), (6, .int v6)] [] (zE (oV r) M')) (n : Nat) (M : zM) (v0 : Nat) (v1 : Int32) (v2 : Int32) (v3 : Int64) (v6 : Int32) (v7 : Int32) (v9 : Int32) (r : Unit) (M' : zM) (h : fX10_readSet_162 k51 n M v0 v1 v2 v3 v6 v7 v9 = some (r, M')) : zW uX10_readSet none (0, 0) M 162 [(0, .ref v0), (1, .int v1), (2, .int v2), (3, .long v3), (6, .int v6), (7, .int v7), (9, .int v9)] [] (zE (oV r) M') := by
  unfold fX10_readSet_162 at h
  refine zr_aload_n (q := 163) dX10_readSet_162 rfl rfl 0 rfl ?_
  obtain ⟨c_1, h⟩ := chk_some h
  refine zr_get (q := 166) (ci := 10) (k := 29) dX10_readSet_163 rfl (eq_of_beq c_1) rfl (by decide) rfl zbX10 (by decide) zb_382 rfl ?_
  refine zr_if_ne (q := 169) (tgt := 181) dX10_readSet_166 rfl (by decide) (fun c_2 => ?_) (fun c_2 => ?_)
  · replace h := ite_f c_2 h
    refine zr_lload_n (q := 182) dX10_readSet_181 rfl rfl 3 rfl ?_
    exact zr_pick [0, 1, 2, 4] rfl (tX10_readSet_182 k51 h51 n M v0 v1 v2 v6 v3 _ _ h)
  · replace h := ite_t c_2 h
    refine zr_lload_n (q := 170) dX10_readSet_169 rfl rfl 3 rfl ?_
    refine zr_iload (q := 172) dX10_readSet_170 rfl 5 rfl ?_
    refine zr_iload (q := 174) dX10_readSet_172 rfl 6 rfl ?_
    obtain ⟨r_3, M_4, hc_5, h⟩ := bnd2_some h
    refine zr_callSL (μ' := uX10_upTo) (q := 177) (n := 2) (As := [.int v7, .int v9]) (u' := (0, 0)) (tX10_upTo n M v7 v9 _ _ hc_5) dX10_readSet_174 rfl rfl ⟨zb_429, zb_430, zb_431, zb_389⟩ zd_X10_upTo ⟨by decide, by decide⟩ ⟨by decide, by decide⟩ rfl rfl (Nat.le_of_ble_eq_true rfl) rfl ?_
    refine zr_lor (q := 178) dX10_readSet_177 rfl ?_
    refine zr_goto (q := 182) dX10_readSet_178 (by decide) ?_
    exact zr_pick [0, 1, 2, 4] rfl (tX10_readSet_182 k51 h51 n M_4 v0 v1 v2 v6 (v3 ||| r_3) _ _ h)
def fX10_readSet_152 (k51 : zM → Nat → Int32 → Int32 → Int64 → Int32 → Int32 → Option (Unit × zM)) (n : Nat) (M : zM) (v0 : Nat) (v1 : Int32) (v2 : Int32) (v3 : Int64) (v6 : Int32) (v7 : Int32) (v9 : Int32) : Option (Unit × zM) :=
  chk (mK M v0 == 10) <|
  chk (mK M v0 == 10) <|
  app (wI M v0 28 ((mI M v0 28) + (1 : Int32))) fun M_3 : zM =>
  fX10_readSet_162 k51 n M_3 v0 v1 v2 v3 v6 v7 v9
set_option maxHeartbeats 4000000 in
theorem tX10_readSet_152 (k51 : zM → Nat → Int32 → Int32 → Int64 → Int32 → Int32 → Option (Unit × zM)) (h51 : ∀ (M : zM) (v0 : Nat) (v1 : Int32) (v2 : Int32) (v3 : Int64) (v5 : Int32) (v6 : Int32) (r : Unit) (M' : zM), k51 M v0 v1 v2 v3 v5 v6 = some (r, M') → zW uX10_readSet none (0, 0) M 51 [(0, .ref v0), (1, .int v1), (2, .int v2), (3, .long v3), (5, .int v5), (6, .int v6)] [] (zE (oV r) M')) (n : Nat) (M : zM) (v0 : Nat) (v1 : Int32) (v2 : Int32) (v3 : Int64) (v6 : Int32) (v7 : Int32) (v9 : Int32) (r : Unit) (M' : zM) (h : fX10_readSet_152 k51 n M v0 v1 v2 v3 v6 v7 v9 = some (r, M')) : zW uX10_readSet none (0, 0) M 152 [(0, .ref v0), (1, .int v1), (2, .int v2), (3, .long v3), (6, .int v6), (7, .int v7), (9, .int v9)] [] (zE (oV r) M') := by
  unfold fX10_readSet_152 at h
  refine zr_aload_n (q := 153) dX10_readSet_152 rfl rfl 0 rfl ?_
  refine zr_dup (q := 154) dX10_readSet_153 rfl rfl ?_
  obtain ⟨c_1, h⟩ := chk_some h
  refine zr_get (q := 157) (ci := 10) (k := 28) dX10_readSet_154 rfl (eq_of_beq c_1) rfl (by decide) rfl zbX10 (by decide) zb_384 rfl ?_
  refine zr_iconst (q := 158) (v := 1) dX10_readSet_157 rfl (by decide) ?_
  refine zr_iadd (q := 159) dX10_readSet_158 rfl ?_
  obtain ⟨c_2, h⟩ := chk_some h
  obtain ⟨M_3, e_4, h⟩ := app_some h
  refine zr_putI (q := 162) (ci := 10) (k := 28) dX10_readSet_159 rfl (eq_of_beq c_2) rfl (by decide) rfl zbX10 tyX10_ok nmX10 (by decide) zb_384 (Or.inl rfl) rfl ?_
  refine zr_mem e_4 ?_
  exact zr_pick [0, 1, 2, 3, 4, 5, 6] rfl (tX10_readSet_162 k51 h51 n M_3 v0 v1 v2 v3 v6 v7 v9 _ _ h)
def fX10_readSet_51 : Nat → zM → Nat → Int32 → Int32 → Int64 → Int32 → Int32 → Option (Unit × zM)
  | 0, _, _, _, _, _, _, _ => none
  | n + 1, M, v0, v1, v2, v3, v5, v6 =>
    if v6 = (0 : Int32) then
      fX10_readSet_226 n M v0 v1 v2 v3
    else
    chk (mK M v0 == 10) <|
    if (mI M v0 29) = (0 : Int32) then
      chk (mK M v0 == 10) <|
      bnd2 (fX10_here n M v0) fun r_4 M_5 =>
      bnd2 (fX10_letterOf n M_5 r_4) fun r_8 M_9 =>
      if r_8 < (0 : Int32) then
        chk (mK M_9 v0 == 10) <|
        bnd2 (fX10_here n M_9 v0) fun r_12 M_13 =>
        if r_12 = (93 : Int32) then
          if v5 = (0 : Int32) then
            fX10_readSet_219 (fX10_readSet_51 n) n M_13 v0 v1 v2 v3 v5 v6
          else
          chk (mK M_13 v0 == 10) <|
          chk (mK M_13 v0 == 10) <|
          app (wI M_13 v0 28 ((mI M_13 v0 28) + (1 : Int32))) fun M_20 : zM =>
          fX10_readSet_223 (fX10_readSet_51 n) n M_20 v0 v1 v2 v3 v5 (0 : Int32)
        else
        fX10_readSet_219 (fX10_readSet_51 n) n M_13 v0 v1 v2 v3 v5 v6
      else
      chk (mK M_9 v0 == 10) <|
      app (mI M_9 v0 28) fun v8_23 : Int32 =>
      chk (mK M_9 v0 == 10) <|
      chk (mK M_9 v0 == 10) <|
      app (wI M_9 v0 28 ((mI M_9 v0 28) + (1 : Int32))) fun M_27 : zM =>
      chk (mK M_27 v0 == 10) <|
      bnd2 (fX10_here n M_27 v0) fun r_29 M_30 =>
      if r_29 = (45 : Int32) then
        chk (mK M_30 v0 == 10) <|
        chk (mK M_30 v0 == 10) <|
        app (wI M_30 v0 28 ((mI M_30 v0 28) + (1 : Int32))) fun M_36 : zM =>
        chk (mK M_36 v0 == 10) <|
        bnd2 (fX10_here n M_36 v0) fun r_38 M_39 =>
        bnd2 (fX10_letterOf n M_39 r_38) fun r_42 M_43 =>
        if (0 : Int32) ≤ r_42 then
          if r_8 ≤ r_42 then
            fX10_readSet_152 (fX10_readSet_51 n) n M_43 v0 v1 v2 v3 v6 r_8 r_42
          else
          chk (mK M_43 v0 == 10) <|
          bnd2 (fX10_fail n M_43 v0 (6 : Int32) v8_23) fun r_47 M_48 =>
          fX10_readSet_152 (fX10_readSet_51 n) n M_48 v0 v1 v2 v3 v6 r_8 r_42
        else
        chk (mK M_43 v0 == 10) <|
        bnd2 (fX10_failHere n M_43 v0) fun r_51 M_52 =>
        fX10_readSet_152 (fX10_readSet_51 n) n M_52 v0 v1 v2 v3 v6 r_8 r_42
      else
      fX10_readSet_162 (fX10_readSet_51 n) n M_30 v0 v1 v2 v3 v6 r_8 r_8
    else
    fX10_readSet_226 n M v0 v1 v2 v3
set_option maxHeartbeats 4000000 in
theorem tX10_readSet_51 : ∀ (n : Nat) (M : zM) (v0 : Nat) (v1 : Int32) (v2 : Int32) (v3 : Int64) (v5 : Int32) (v6 : Int32) (r : Unit) (M' : zM), fX10_readSet_51 n M v0 v1 v2 v3 v5 v6 = some (r, M') → zW uX10_readSet none (0, 0) M 51 [(0, .ref v0), (1, .int v1), (2, .int v2), (3, .long v3), (5, .int v5), (6, .int v6)] [] (zE (oV r) M') := by
  intro n
  induction n with
  | zero => intro M v0 v1 v2 v3 v5 v6 r M' h; cases h
  | succ n ih =>
    intro M v0 v1 v2 v3 v5 v6 r M' h
    rw [fX10_readSet_51] at h
    refine zr_iload (q := 53) dX10_readSet_51 rfl 5 rfl ?_
    refine zr_if_eq (q := 56) (tgt := 226) dX10_readSet_53 rfl (by decide) (fun c_1 => ?_) (fun c_1 => ?_)
    · replace h := ite_t c_1 h
      exact zr_pick [0, 1, 2, 3] rfl (tX10_readSet_226 n M v0 v1 v2 v3 _ _ h)
    · replace h := ite_f c_1 h
      refine zr_aload_n (q := 57) dX10_readSet_56 rfl rfl 0 rfl ?_
      obtain ⟨c_2, h⟩ := chk_some h
      refine zr_get (q := 60) (ci := 10) (k := 29) dX10_readSet_57 rfl (eq_of_beq c_2) rfl (by decide) rfl zbX10 (by decide) zb_382 rfl ?_
      refine zr_if_ne (q := 63) (tgt := 226) dX10_readSet_60 rfl (by decide) (fun c_3 => ?_) (fun c_3 => ?_)
      · replace h := ite_f c_3 h
        exact zr_pick [0, 1, 2, 3] rfl (tX10_readSet_226 n M v0 v1 v2 v3 _ _ h)
      · replace h := ite_t c_3 h
        refine zr_aload_n (q := 64) dX10_readSet_63 rfl rfl 0 rfl ?_
        obtain ⟨c_7, h⟩ := chk_some h
        obtain ⟨r_4, M_5, hc_6, h⟩ := bnd2_some h
        refine zr_callVI (μ' := uX10_here) (q := 67) (n := 0) (ci := 10) (As := []) (u' := (0, 0)) (tX10_here n M v0 _ _ hc_6) dX10_readSet_64 rfl rfl ⟨zb_437, zb_438, zb_439, zb_440, zb_389⟩ zd_X10_here ⟨by decide, by decide⟩ ⟨by decide, by decide⟩ (eq_of_beq c_7) (by decide) rfl rfl rfl (Nat.le_of_ble_eq_true rfl) rfl rfl ?_
        obtain ⟨r_8, M_9, hc_10, h⟩ := bnd2_some h
        refine zr_callSI (μ' := uX10_letterOf) (q := 70) (n := 1) (As := [.int r_4]) (u' := (0, 0)) (tX10_letterOf n M_5 r_4 _ _ hc_10) dX10_readSet_67 rfl rfl ⟨zb_441, zb_442, zb_443, zb_389⟩ zd_X10_letterOf ⟨by decide, by decide⟩ ⟨by decide, by decide⟩ rfl rfl (Nat.le_of_ble_eq_true rfl) rfl ?_
        refine zr_istore (q := 72) (L' := [(7, .int r_8), (0, .ref v0), (1, .int v1), (2, .int v2), (3, .long v3), (5, .int v5), (6, .int v6)]) dX10_readSet_70 rfl (by decide) rfl ?_
        refine zr_iload (q := 74) dX10_readSet_72 rfl 0 rfl ?_
        refine zr_if_lt (q := 77) (tgt := 189) dX10_readSet_74 rfl (by decide) (fun c_11 => ?_) (fun c_11 => ?_)
        · replace h := ite_t c_11 h
          refine zr_aload_n (q := 190) dX10_readSet_189 rfl rfl 1 rfl ?_
          obtain ⟨c_15, h⟩ := chk_some h
          obtain ⟨r_12, M_13, hc_14, h⟩ := bnd2_some h
          refine zr_callVI (μ' := uX10_here) (q := 193) (n := 0) (ci := 10) (As := []) (u' := (0, 0)) (tX10_here n M_9 v0 _ _ hc_14) dX10_readSet_190 rfl rfl ⟨zb_437, zb_438, zb_439, zb_440, zb_389⟩ zd_X10_here ⟨by decide, by decide⟩ ⟨by decide, by decide⟩ (eq_of_beq c_15) (by decide) rfl rfl rfl (Nat.le_of_ble_eq_true rfl) rfl rfl ?_
          refine zr_bipush (q := 195) (v := 93) dX10_readSet_193 rfl (by decide) ?_
          refine zr_icmp_ne (q := 198) (tgt := 219) dX10_readSet_195 rfl (by decide) (fun c_16 => ?_) (fun c_16 => ?_)
          · replace h := ite_f c_16 h
            exact zr_pick [1, 2, 3, 4, 5, 6] rfl (tX10_readSet_219 (fX10_readSet_51 n) ih n M_13 v0 v1 v2 v3 v5 v6 _ _ h)
          · replace h := ite_t c_16 h
            refine zr_iload (q := 200) dX10_readSet_198 rfl 5 rfl ?_
            refine zr_if_eq (q := 203) (tgt := 219) dX10_readSet_200 rfl (by decide) (fun c_17 => ?_) (fun c_17 => ?_)
            · replace h := ite_t c_17 h
              exact zr_pick [1, 2, 3, 4, 5, 6] rfl (tX10_readSet_219 (fX10_readSet_51 n) ih n M_13 v0 v1 v2 v3 v5 v6 _ _ h)
            · replace h := ite_f c_17 h
              refine zr_aload_n (q := 204) dX10_readSet_203 rfl rfl 1 rfl ?_
              refine zr_dup (q := 205) dX10_readSet_204 rfl rfl ?_
              obtain ⟨c_18, h⟩ := chk_some h
              refine zr_get (q := 208) (ci := 10) (k := 28) dX10_readSet_205 rfl (eq_of_beq c_18) rfl (by decide) rfl zbX10 (by decide) zb_384 rfl ?_
              refine zr_iconst (q := 209) (v := 1) dX10_readSet_208 rfl (by decide) ?_
              refine zr_iadd (q := 210) dX10_readSet_209 rfl ?_
              obtain ⟨c_19, h⟩ := chk_some h
              obtain ⟨M_20, e_21, h⟩ := app_some h
              refine zr_putI (q := 213) (ci := 10) (k := 28) dX10_readSet_210 rfl (eq_of_beq c_19) rfl (by decide) rfl zbX10 tyX10_ok nmX10 (by decide) zb_384 (Or.inl rfl) rfl ?_
              refine zr_mem e_21 ?_
              refine zr_iconst (q := 214) (v := 0) dX10_readSet_213 rfl (by decide) ?_
              refine zr_istore (q := 216) (L' := [(6, .int (0 : Int32)), (7, .int r_8), (0, .ref v0), (1, .int v1), (2, .int v2), (3, .long v3), (5, .int v5)]) dX10_readSet_214 rfl (by decide) rfl ?_
              refine zr_goto (q := 223) dX10_readSet_216 (by decide) ?_
              exact zr_pick [2, 3, 4, 5, 6, 0] rfl (tX10_readSet_223 (fX10_readSet_51 n) ih n M_20 v0 v1 v2 v3 v5 (0 : Int32) _ _ h)
        · replace h := ite_f c_11 h
          refine zr_aload_n (q := 78) dX10_readSet_77 rfl rfl 1 rfl ?_
          obtain ⟨c_22, h⟩ := chk_some h
          refine zr_get (q := 81) (ci := 10) (k := 28) dX10_readSet_78 rfl (eq_of_beq c_22) rfl (by decide) rfl zbX10 (by decide) zb_384 rfl ?_
          obtain ⟨v8_23, e_24, h⟩ := app_some h
          refine zr_nmI e_24 ?_
          refine zr_istore (q := 83) (L' := [(8, .int v8_23), (7, .int r_8), (0, .ref v0), (1, .int v1), (2, .int v2), (3, .long v3), (5, .int v5), (6, .int v6)]) dX10_readSet_81 rfl (by decide) rfl ?_
          refine zr_aload_n (q := 84) dX10_readSet_83 rfl rfl 2 rfl ?_
          refine zr_dup (q := 85) dX10_readSet_84 rfl rfl ?_
          obtain ⟨c_25, h⟩ := chk_some h
          refine zr_get (q := 88) (ci := 10) (k := 28) dX10_readSet_85 rfl (eq_of_beq c_25) rfl (by decide) rfl zbX10 (by decide) zb_384 rfl ?_
          refine zr_iconst (q := 89) (v := 1) dX10_readSet_88 rfl (by decide) ?_
          refine zr_iadd (q := 90) dX10_readSet_89 rfl ?_
          obtain ⟨c_26, h⟩ := chk_some h
          obtain ⟨M_27, e_28, h⟩ := app_some h
          refine zr_putI (q := 93) (ci := 10) (k := 28) dX10_readSet_90 rfl (eq_of_beq c_26) rfl (by decide) rfl zbX10 tyX10_ok nmX10 (by decide) zb_384 (Or.inl rfl) rfl ?_
          refine zr_mem e_28 ?_
          refine zr_iload (q := 95) dX10_readSet_93 rfl 1 rfl ?_
          refine zr_istore (q := 97) (L' := [(9, .int r_8), (8, .int v8_23), (7, .int r_8), (0, .ref v0), (1, .int v1), (2, .int v2), (3, .long v3), (5, .int v5), (6, .int v6)]) dX10_readSet_95 rfl (by decide) rfl ?_
          refine zr_aload_n (q := 98) dX10_readSet_97 rfl rfl 3 rfl ?_
          obtain ⟨c_32, h⟩ := chk_some h
          obtain ⟨r_29, M_30, hc_31, h⟩ := bnd2_some h
          refine zr_callVI (μ' := uX10_here) (q := 101) (n := 0) (ci := 10) (As := []) (u' := (0, 0)) (tX10_here n M_27 v0 _ _ hc_31) dX10_readSet_98 rfl rfl ⟨zb_437, zb_438, zb_439, zb_440, zb_389⟩ zd_X10_here ⟨by decide, by decide⟩ ⟨by decide, by decide⟩ (eq_of_beq c_32) (by decide) rfl rfl rfl (Nat.le_of_ble_eq_true rfl) rfl rfl ?_
          refine zr_bipush (q := 103) (v := 45) dX10_readSet_101 rfl (by decide) ?_
          refine zr_icmp_ne (q := 106) (tgt := 162) dX10_readSet_103 rfl (by decide) (fun c_33 => ?_) (fun c_33 => ?_)
          · replace h := ite_f c_33 h
            exact zr_pick [3, 4, 5, 6, 8, 2, 0] rfl (tX10_readSet_162 (fX10_readSet_51 n) ih n M_30 v0 v1 v2 v3 v6 r_8 r_8 _ _ h)
          · replace h := ite_t c_33 h
            refine zr_aload_n (q := 107) dX10_readSet_106 rfl rfl 3 rfl ?_
            refine zr_dup (q := 108) dX10_readSet_107 rfl rfl ?_
            obtain ⟨c_34, h⟩ := chk_some h
            refine zr_get (q := 111) (ci := 10) (k := 28) dX10_readSet_108 rfl (eq_of_beq c_34) rfl (by decide) rfl zbX10 (by decide) zb_384 rfl ?_
            refine zr_iconst (q := 112) (v := 1) dX10_readSet_111 rfl (by decide) ?_
            refine zr_iadd (q := 113) dX10_readSet_112 rfl ?_
            obtain ⟨c_35, h⟩ := chk_some h
            obtain ⟨M_36, e_37, h⟩ := app_some h
            refine zr_putI (q := 116) (ci := 10) (k := 28) dX10_readSet_113 rfl (eq_of_beq c_35) rfl (by decide) rfl zbX10 tyX10_ok nmX10 (by decide) zb_384 (Or.inl rfl) rfl ?_
            refine zr_mem e_37 ?_
            refine zr_aload_n (q := 117) dX10_readSet_116 rfl rfl 3 rfl ?_
            obtain ⟨c_41, h⟩ := chk_some h
            obtain ⟨r_38, M_39, hc_40, h⟩ := bnd2_some h
            refine zr_callVI (μ' := uX10_here) (q := 120) (n := 0) (ci := 10) (As := []) (u' := (0, 0)) (tX10_here n M_36 v0 _ _ hc_40) dX10_readSet_117 rfl rfl ⟨zb_437, zb_438, zb_439, zb_440, zb_389⟩ zd_X10_here ⟨by decide, by decide⟩ ⟨by decide, by decide⟩ (eq_of_beq c_41) (by decide) rfl rfl rfl (Nat.le_of_ble_eq_true rfl) rfl rfl ?_
            obtain ⟨r_42, M_43, hc_44, h⟩ := bnd2_some h
            refine zr_callSI (μ' := uX10_letterOf) (q := 123) (n := 1) (As := [.int r_38]) (u' := (0, 0)) (tX10_letterOf n M_39 r_38 _ _ hc_44) dX10_readSet_120 rfl rfl ⟨zb_441, zb_442, zb_443, zb_389⟩ zd_X10_letterOf ⟨by decide, by decide⟩ ⟨by decide, by decide⟩ rfl rfl (Nat.le_of_ble_eq_true rfl) rfl ?_
            refine zr_istore (q := 125) (L' := [(9, .int r_42), (8, .int v8_23), (7, .int r_8), (0, .ref v0), (1, .int v1), (2, .int v2), (3, .long v3), (5, .int v5), (6, .int v6)]) dX10_readSet_123 rfl (by decide) rfl ?_
            refine zr_iload (q := 127) dX10_readSet_125 rfl 0 rfl ?_
            refine zr_if_ge (q := 130) (tgt := 137) dX10_readSet_127 rfl (by decide) (fun c_45 => ?_) (fun c_45 => ?_)
            · replace h := ite_t c_45 h
              refine zr_iload (q := 139) dX10_readSet_137 rfl 0 rfl ?_
              refine zr_iload (q := 141) dX10_readSet_139 rfl 2 rfl ?_
              refine zr_icmp_ge (q := 144) (tgt := 152) dX10_readSet_141 rfl (by decide) (fun c_46 => ?_) (fun c_46 => ?_)
              · replace h := ite_t c_46 h
                exact zr_pick [3, 4, 5, 6, 8, 2, 0] rfl (tX10_readSet_152 (fX10_readSet_51 n) ih n M_43 v0 v1 v2 v3 v6 r_8 r_42 _ _ h)
              · replace h := ite_f c_46 h
                refine zr_aload_n (q := 145) dX10_readSet_144 rfl rfl 3 rfl ?_
                refine zr_bipush (q := 147) (v := 6) dX10_readSet_145 rfl (by decide) ?_
                refine zr_iload (q := 149) dX10_readSet_147 rfl 1 rfl ?_
                obtain ⟨c_50, h⟩ := chk_some h
                obtain ⟨r_47, M_48, hc_49, h⟩ := bnd2_some h
                refine zr_callVV (μ' := uX10_fail) (q := 152) (n := 2) (ci := 10) (As := [.int (6 : Int32), .int v8_23]) (u' := (0, 0)) (tX10_fail n M_43 v0 (6 : Int32) v8_23 _ _ hc_49) dX10_readSet_149 rfl rfl ⟨zb_385, zb_386, zb_387, zb_388, zb_389⟩ zd_X10_fail ⟨by decide, by decide⟩ ⟨by decide, by decide⟩ (eq_of_beq c_50) (by decide) rfl rfl rfl (Nat.le_of_ble_eq_true rfl) rfl rfl ?_
                exact zr_pick [3, 4, 5, 6, 8, 2, 0] rfl (tX10_readSet_152 (fX10_readSet_51 n) ih n M_48 v0 v1 v2 v3 v6 r_8 r_42 _ _ h)
            · replace h := ite_f c_45 h
              refine zr_aload_n (q := 131) dX10_readSet_130 rfl rfl 3 rfl ?_
              obtain ⟨c_54, h⟩ := chk_some h
              obtain ⟨r_51, M_52, hc_53, h⟩ := bnd2_some h
              refine zr_callVV (μ' := uX10_failHere) (q := 134) (n := 0) (ci := 10) (As := []) (u' := (0, 0)) (tX10_failHere n M_43 v0 _ _ hc_53) dX10_readSet_131 rfl rfl ⟨zb_433, zb_434, zb_435, zb_436, zb_389⟩ zd_X10_failHere ⟨by decide, by decide⟩ ⟨by decide, by decide⟩ (eq_of_beq c_54) (by decide) rfl rfl rfl (Nat.le_of_ble_eq_true rfl) rfl rfl ?_
              refine zr_goto (q := 152) dX10_readSet_134 (by decide) ?_
              exact zr_pick [3, 4, 5, 6, 8, 2, 0] rfl (tX10_readSet_152 (fX10_readSet_51 n) ih n M_52 v0 v1 v2 v3 v6 r_8 r_42 _ _ h)
def fX10_readSet_40 (n : Nat) (M : zM) (v0 : Nat) (v1 : Int32) (v2 : Int32) (s0 : Nat) (s1 : Int32) : Option (Unit × zM) :=
  chk (mK M s0 == 10) <|
  app (wI M s0 28 s1) fun M_2 : zM =>
  fX10_readSet_51 n M_2 v0 v1 v2 (0 : Int64) (0 : Int32) (1 : Int32)
set_option maxHeartbeats 4000000 in
theorem tX10_readSet_40 (n : Nat) (M : zM) (v0 : Nat) (v1 : Int32) (v2 : Int32) (s0 : Nat) (s1 : Int32) (r : Unit) (M' : zM) (h : fX10_readSet_40 n M v0 v1 v2 s0 s1 = some (r, M')) : zW uX10_readSet none (0, 0) M 40 [(0, .ref v0), (1, .int v1), (2, .int v2)] [.int s1, .ref s0] (zE (oV r) M') := by
  unfold fX10_readSet_40 at h
  obtain ⟨c_1, h⟩ := chk_some h
  obtain ⟨M_2, e_3, h⟩ := app_some h
  refine zr_putI (q := 43) (ci := 10) (k := 28) dX10_readSet_40 rfl (eq_of_beq c_1) rfl (by decide) rfl zbX10 tyX10_ok nmX10 (by decide) zb_384 (Or.inl rfl) rfl ?_
  refine zr_mem e_3 ?_
  refine zr_lconst (q := 44) (v := 0) dX10_readSet_43 rfl (by decide) ?_
  refine zr_lstore_n (q := 45) (L' := [(3, .long (0 : Int64)), (0, .ref v0), (1, .int v1), (2, .int v2)]) dX10_readSet_44 rfl rfl (by decide) rfl ?_
  refine zr_iconst (q := 46) (v := 0) dX10_readSet_45 rfl (by decide) ?_
  refine zr_istore (q := 48) (L' := [(5, .int (0 : Int32)), (3, .long (0 : Int64)), (0, .ref v0), (1, .int v1), (2, .int v2)]) dX10_readSet_46 rfl (by decide) rfl ?_
  refine zr_iconst (q := 49) (v := 1) dX10_readSet_48 rfl (by decide) ?_
  refine zr_istore (q := 51) (L' := [(6, .int (1 : Int32)), (5, .int (0 : Int32)), (3, .long (0 : Int64)), (0, .ref v0), (1, .int v1), (2, .int v2)]) dX10_readSet_49 rfl (by decide) rfl ?_
  exact zr_pick [3, 4, 5, 2, 1, 0] rfl (tX10_readSet_51 n M_2 v0 v1 v2 (0 : Int64) (0 : Int32) (1 : Int32) _ _ h)
def fX10_readSet_21 (n : Nat) (M : zM) (v0 : Nat) (v1 : Int32) (s0 : Int32) : Option (Unit × zM) :=
  if s0 = (0 : Int32) then
    chk (mK M v0 == 10) <|
    fX10_readSet_40 n M v0 v1 s0 v0 (mI M v0 28)
  else
  chk (mK M v0 == 10) <|
  fX10_readSet_40 n M v0 v1 s0 v0 ((mI M v0 28) + (1 : Int32))
set_option maxHeartbeats 4000000 in
theorem tX10_readSet_21 (n : Nat) (M : zM) (v0 : Nat) (v1 : Int32) (s0 : Int32) (r : Unit) (M' : zM) (h : fX10_readSet_21 n M v0 v1 s0 = some (r, M')) : zW uX10_readSet none (0, 0) M 21 [(0, .ref v0), (1, .int v1)] [.int s0] (zE (oV r) M') := by
  unfold fX10_readSet_21 at h
  refine zr_istore_n (q := 22) (L' := [(2, .int s0), (0, .ref v0), (1, .int v1)]) dX10_readSet_21 rfl rfl (by decide) rfl ?_
  refine zr_aload_n (q := 23) dX10_readSet_22 rfl rfl 1 rfl ?_
  refine zr_iload_n (q := 24) dX10_readSet_23 rfl rfl 0 rfl ?_
  refine zr_if_eq (q := 27) (tgt := 36) dX10_readSet_24 rfl (by decide) (fun c_1 => ?_) (fun c_1 => ?_)
  · replace h := ite_t c_1 h
    refine zr_aload_n (q := 37) dX10_readSet_36 rfl rfl 1 rfl ?_
    obtain ⟨c_2, h⟩ := chk_some h
    refine zr_get (q := 40) (ci := 10) (k := 28) dX10_readSet_37 rfl (eq_of_beq c_2) rfl (by decide) rfl zbX10 (by decide) zb_384 rfl ?_
    exact zr_pick [1, 2, 0] rfl (tX10_readSet_40 n M v0 v1 s0 v0 (mI M v0 28) _ _ h)
  · replace h := ite_f c_1 h
    refine zr_aload_n (q := 28) dX10_readSet_27 rfl rfl 1 rfl ?_
    obtain ⟨c_3, h⟩ := chk_some h
    refine zr_get (q := 31) (ci := 10) (k := 28) dX10_readSet_28 rfl (eq_of_beq c_3) rfl (by decide) rfl zbX10 (by decide) zb_384 rfl ?_
    refine zr_iconst (q := 32) (v := 1) dX10_readSet_31 rfl (by decide) ?_
    refine zr_iadd (q := 33) dX10_readSet_32 rfl ?_
    refine zr_goto (q := 40) dX10_readSet_33 (by decide) ?_
    exact zr_pick [1, 2, 0] rfl (tX10_readSet_40 n M v0 v1 s0 v0 ((mI M v0 28) + (1 : Int32)) _ _ h)
def fX10_readSet (n : Nat) (M : zM) (v0 : Nat) : Option (Unit × zM) :=
  chk (mK M v0 == 10) <|
  app ((mI M v0 28) - (1 : Int32)) fun v1_2 : Int32 =>
  chk (mK M v0 == 10) <|
  bnd2 (fX10_here n M v0) fun r_4 M_5 =>
  if r_4 = (94 : Int32) then
    fX10_readSet_21 n M_5 v0 v1_2 (1 : Int32)
  else
  fX10_readSet_21 n M_5 v0 v1_2 (0 : Int32)
set_option maxHeartbeats 4000000 in
theorem tX10_readSet (n : Nat) (M : zM) (v0 : Nat) (r : Unit) (M' : zM) (h : fX10_readSet n M v0 = some (r, M')) : zMet uX10_readSet false M [.ref v0] (zE (oV r) M') := by
  refine zMet_of (L := [(0, .ref v0)]) (by decide +kernel) rfl rfl (Nat.le_of_ble_eq_true rfl) ?_
  show zW uX10_readSet none (0, 0) M 0 [(0, .ref v0)] [] (zE (oV r) M')
  unfold fX10_readSet at h
  refine zr_aload_n (q := 1) dX10_readSet_0 rfl rfl 0 rfl ?_
  obtain ⟨c_1, h⟩ := chk_some h
  refine zr_get (q := 4) (ci := 10) (k := 28) dX10_readSet_1 rfl (eq_of_beq c_1) rfl (by decide) rfl zbX10 (by decide) zb_384 rfl ?_
  refine zr_iconst (q := 5) (v := 1) dX10_readSet_4 rfl (by decide) ?_
  refine zr_isub (q := 6) dX10_readSet_5 rfl ?_
  obtain ⟨v1_2, e_3, h⟩ := app_some h
  refine zr_nmI e_3 ?_
  refine zr_istore_n (q := 7) (L' := [(1, .int v1_2), (0, .ref v0)]) dX10_readSet_6 rfl rfl (by decide) rfl ?_
  refine zr_aload_n (q := 8) dX10_readSet_7 rfl rfl 1 rfl ?_
  obtain ⟨c_7, h⟩ := chk_some h
  obtain ⟨r_4, M_5, hc_6, h⟩ := bnd2_some h
  refine zr_callVI (μ' := uX10_here) (q := 11) (n := 0) (ci := 10) (As := []) (u' := (0, 0)) (tX10_here n M v0 _ _ hc_6) dX10_readSet_8 rfl rfl ⟨zb_437, zb_438, zb_439, zb_440, zb_389⟩ zd_X10_here ⟨by decide, by decide⟩ ⟨by decide, by decide⟩ (eq_of_beq c_7) (by decide) rfl rfl rfl (Nat.le_of_ble_eq_true rfl) rfl rfl ?_
  refine zr_bipush (q := 13) (v := 94) dX10_readSet_11 rfl (by decide) ?_
  refine zr_icmp_ne (q := 16) (tgt := 20) dX10_readSet_13 rfl (by decide) (fun c_8 => ?_) (fun c_8 => ?_)
  · replace h := ite_f c_8 h
    refine zr_iconst (q := 21) (v := 0) dX10_readSet_20 rfl (by decide) ?_
    exact zr_pick [1, 0] rfl (tX10_readSet_21 n M_5 v0 v1_2 (0 : Int32) _ _ h)
  · replace h := ite_t c_8 h
    refine zr_iconst (q := 17) (v := 1) dX10_readSet_16 rfl (by decide) ?_
    refine zr_goto (q := 21) dX10_readSet_17 (by decide) ?_
    exact zr_pick [1, 0] rfl (tX10_readSet_21 n M_5 v0 v1_2 (1 : Int32) _ _ h)

def uX10_digit : zMu := (yX10_digit, cX10_digit, 2, (some .int), { frames := 2, cells := 0, slots := 0, locals := 42 }, [])
theorem zd_X10_digit : (uY uX10_digit).cls ≠ "java/lang/invoke/MethodHandle" ∧ (uY uX10_digit).cls ≠ "java/lang/invoke/VarHandle" ∧ (parseMethodDescriptor (uY uX10_digit).desc).map (fun d => d.parameters.length) = some 0 := by decide +kernel
def fX10_digit_21 (n : Nat) (M : zM) (v0 : Nat) (v1 : Int32) : Option (Int32 × zM) :=
  chk (mK M v0 == 10) <|
  chk (mK M v0 == 10) <|
  app (wI M v0 28 ((mI M v0 28) + (1 : Int32))) fun M_3 : zM =>
  some ((v1 - (48 : Int32)), M_3)
set_option maxHeartbeats 4000000 in
theorem tX10_digit_21 (n : Nat) (M : zM) (v0 : Nat) (v1 : Int32) (r : Int32) (M' : zM) (h : fX10_digit_21 n M v0 v1 = some (r, M')) : zW uX10_digit none (0, 0) M 21 [(0, .ref v0), (1, .int v1)] [] (zE (oI r) M') := by
  unfold fX10_digit_21 at h
  refine zr_aload_n (q := 22) dX10_digit_21 rfl rfl 0 rfl ?_
  refine zr_dup (q := 23) dX10_digit_22 rfl rfl ?_
  obtain ⟨c_1, h⟩ := chk_some h
  refine zr_get (q := 26) (ci := 10) (k := 28) dX10_digit_23 rfl (eq_of_beq c_1) rfl (by decide) rfl zbX10 (by decide) zb_384 rfl ?_
  refine zr_iconst (q := 27) (v := 1) dX10_digit_26 rfl (by decide) ?_
  refine zr_iadd (q := 28) dX10_digit_27 rfl ?_
  obtain ⟨c_2, h⟩ := chk_some h
  obtain ⟨M_3, e_4, h⟩ := app_some h
  refine zr_putI (q := 31) (ci := 10) (k := 28) dX10_digit_28 rfl (eq_of_beq c_2) rfl (by decide) rfl zbX10 tyX10_ok nmX10 (by decide) zb_384 (Or.inl rfl) rfl ?_
  refine zr_mem e_4 ?_
  refine zr_iload_n (q := 32) dX10_digit_31 rfl rfl 1 rfl ?_
  refine zr_bipush (q := 34) (v := 48) dX10_digit_32 rfl (by decide) ?_
  refine zr_isub (q := 35) dX10_digit_34 rfl ?_
  cases h
  exact zr_ireturn dX10_digit_35 rfl ⟨by decide, by decide⟩ ⟨rfl, rfl⟩
def fX10_digit_17 (n : Nat) (M : zM) (v0 : Nat) (v1 : Int32) : Option (Int32 × zM) :=
  chk (mK M v0 == 10) <|
  bnd2 (fX10_failHere n M v0) fun r_1 M_2 =>
  fX10_digit_21 n M_2 v0 v1
set_option maxHeartbeats 4000000 in
theorem tX10_digit_17 (n : Nat) (M : zM) (v0 : Nat) (v1 : Int32) (r : Int32) (M' : zM) (h : fX10_digit_17 n M v0 v1 = some (r, M')) : zW uX10_digit none (0, 0) M 17 [(0, .ref v0), (1, .int v1)] [] (zE (oI r) M') := by
  unfold fX10_digit_17 at h
  refine zr_aload_n (q := 18) dX10_digit_17 rfl rfl 0 rfl ?_
  obtain ⟨c_4, h⟩ := chk_some h
  obtain ⟨r_1, M_2, hc_3, h⟩ := bnd2_some h
  refine zr_callVV (μ' := uX10_failHere) (q := 21) (n := 0) (ci := 10) (As := []) (u' := (0, 0)) (tX10_failHere n M v0 _ _ hc_3) dX10_digit_18 rfl rfl ⟨zb_433, zb_434, zb_435, zb_436, zb_389⟩ zd_X10_failHere ⟨by decide, by decide⟩ ⟨by decide, by decide⟩ (eq_of_beq c_4) (by decide) rfl rfl rfl (Nat.le_of_ble_eq_true rfl) rfl rfl ?_
  exact zr_pick [0, 1] rfl (tX10_digit_21 n M_2 v0 v1 _ _ h)
def fX10_digit (n : Nat) (M : zM) (v0 : Nat) : Option (Int32 × zM) :=
  chk (mK M v0 == 10) <|
  bnd2 (fX10_here n M v0) fun r_1 M_2 =>
  if r_1 < (48 : Int32) then
    fX10_digit_17 n M_2 v0 r_1
  else
  if r_1 ≤ (57 : Int32) then
    fX10_digit_21 n M_2 v0 r_1
  else
  fX10_digit_17 n M_2 v0 r_1
set_option maxHeartbeats 4000000 in
theorem tX10_digit (n : Nat) (M : zM) (v0 : Nat) (r : Int32) (M' : zM) (h : fX10_digit n M v0 = some (r, M')) : zMet uX10_digit false M [.ref v0] (zE (oI r) M') := by
  refine zMet_of (L := [(0, .ref v0)]) (by decide +kernel) rfl rfl (Nat.le_of_ble_eq_true rfl) ?_
  show zW uX10_digit none (0, 0) M 0 [(0, .ref v0)] [] (zE (oI r) M')
  unfold fX10_digit at h
  refine zr_aload_n (q := 1) dX10_digit_0 rfl rfl 0 rfl ?_
  obtain ⟨c_4, h⟩ := chk_some h
  obtain ⟨r_1, M_2, hc_3, h⟩ := bnd2_some h
  refine zr_callVI (μ' := uX10_here) (q := 4) (n := 0) (ci := 10) (As := []) (u' := (0, 0)) (tX10_here n M v0 _ _ hc_3) dX10_digit_1 rfl rfl ⟨zb_437, zb_438, zb_439, zb_440, zb_389⟩ zd_X10_here ⟨by decide, by decide⟩ ⟨by decide, by decide⟩ (eq_of_beq c_4) (by decide) rfl rfl rfl (Nat.le_of_ble_eq_true rfl) rfl rfl ?_
  refine zr_istore_n (q := 5) (L' := [(1, .int r_1), (0, .ref v0)]) dX10_digit_4 rfl rfl (by decide) rfl ?_
  refine zr_iload_n (q := 6) dX10_digit_5 rfl rfl 0 rfl ?_
  refine zr_bipush (q := 8) (v := 48) dX10_digit_6 rfl (by decide) ?_
  refine zr_icmp_lt (q := 11) (tgt := 17) dX10_digit_8 rfl (by decide) (fun c_5 => ?_) (fun c_5 => ?_)
  · replace h := ite_t c_5 h
    exact zr_pick [1, 0] rfl (tX10_digit_17 n M_2 v0 r_1 _ _ h)
  · replace h := ite_f c_5 h
    refine zr_iload_n (q := 12) dX10_digit_11 rfl rfl 0 rfl ?_
    refine zr_bipush (q := 14) (v := 57) dX10_digit_12 rfl (by decide) ?_
    refine zr_icmp_le (q := 17) (tgt := 21) dX10_digit_14 rfl (by decide) (fun c_6 => ?_) (fun c_6 => ?_)
    · replace h := ite_t c_6 h
      exact zr_pick [1, 0] rfl (tX10_digit_21 n M_2 v0 r_1 _ _ h)
    · replace h := ite_f c_6 h
      exact zr_pick [1, 0] rfl (tX10_digit_17 n M_2 v0 r_1 _ _ h)

def uX10_times : zMu := (yX10_times, cX10_times, 19, none, { frames := 2, cells := 0, slots := 0, locals := 47 }, [])
theorem zd_X10_times : (uY uX10_times).cls ≠ "java/lang/invoke/MethodHandle" ∧ (uY uX10_times).cls ≠ "java/lang/invoke/VarHandle" ∧ (parseMethodDescriptor (uY uX10_times).desc).map (fun d => d.parameters.length) = some 3 := by decide +kernel
def fX10_times_273 (k89 : zM → Nat → Int32 → Int32 → Int32 → Int32 → Int32 → Int64 → Int64 → Int32 → Int64 → Int64 → Int32 → Option (Unit × zM)) (n : Nat) (M : zM) (v0 : Nat) (v1 : Int32) (v2 : Int32) (v3 : Int32) (v5 : Int32) (v6 : Int32) (v7 : Int64) (v9 : Int64) (v12 : Int64) (v14 : Int64) (v16 : Int32) (s0 : Int32) : Option (Unit × zM) :=
  app (v16 + (1 : Int32)) fun v16_1 : Int32 =>
  k89 M v0 v1 v2 v3 v5 v6 v7 v9 s0 v12 v14 v16_1
set_option maxHeartbeats 4000000 in
theorem tX10_times_273 (k89 : zM → Nat → Int32 → Int32 → Int32 → Int32 → Int32 → Int64 → Int64 → Int32 → Int64 → Int64 → Int32 → Option (Unit × zM)) (h89 : ∀ (M : zM) (v0 : Nat) (v1 : Int32) (v2 : Int32) (v3 : Int32) (v5 : Int32) (v6 : Int32) (v7 : Int64) (v9 : Int64) (v11 : Int32) (v12 : Int64) (v14 : Int64) (v16 : Int32) (r : Unit) (M' : zM), k89 M v0 v1 v2 v3 v5 v6 v7 v9 v11 v12 v14 v16 = some (r, M') → zW uX10_times none (0, 0) M 89 [(0, .ref v0), (1, .int v1), (2, .int v2), (3, .int v3), (5, .int v5), (6, .int v6), (7, .long v7), (9, .long v9), (11, .int v11), (12, .long v12), (14, .long v14), (16, .int v16)] [] (zE (oV r) M')) (n : Nat) (M : zM) (v0 : Nat) (v1 : Int32) (v2 : Int32) (v3 : Int32) (v5 : Int32) (v6 : Int32) (v7 : Int64) (v9 : Int64) (v12 : Int64) (v14 : Int64) (v16 : Int32) (s0 : Int32) (r : Unit) (M' : zM) (h : fX10_times_273 k89 n M v0 v1 v2 v3 v5 v6 v7 v9 v12 v14 v16 s0 = some (r, M')) : zW uX10_times none (0, 0) M 273 [(0, .ref v0), (1, .int v1), (2, .int v2), (3, .int v3), (5, .int v5), (6, .int v6), (7, .long v7), (9, .long v9), (12, .long v12), (14, .long v14), (16, .int v16)] [.int s0] (zE (oV r) M') := by
  unfold fX10_times_273 at h
  refine zr_istore (q := 275) (L' := [(11, .int s0), (0, .ref v0), (1, .int v1), (2, .int v2), (3, .int v3), (5, .int v5), (6, .int v6), (7, .long v7), (9, .long v9), (12, .long v12), (14, .long v14), (16, .int v16)]) dX10_times_273 rfl (by decide) rfl ?_
  obtain ⟨v16_1, e_2, h⟩ := app_some h
  refine zr_iinc (q := 278) (v := v16_1) (L' := [(16, .int v16_1), (11, .int s0), (0, .ref v0), (1, .int v1), (2, .int v2), (3, .int v3), (5, .int v5), (6, .int v6), (7, .long v7), (9, .long v9), (12, .long v12), (14, .long v14)]) dX10_times_275 rfl 11 rfl (by rw [← e_2]; rfl) (by decide) rfl ?_
  refine zr_goto (q := 89) dX10_times_278 (by decide) ?_
  exact zr_pick [2, 3, 4, 5, 6, 7, 8, 9, 1, 10, 11, 0] rfl (h89 M v0 v1 v2 v3 v5 v6 v7 v9 s0 v12 v14 v16_1 _ _ h)
def fX10_times_272 (k89 : zM → Nat → Int32 → Int32 → Int32 → Int32 → Int32 → Int64 → Int64 → Int32 → Int64 → Int64 → Int32 → Option (Unit × zM)) (n : Nat) (M : zM) (v0 : Nat) (v1 : Int32) (v2 : Int32) (v3 : Int32) (v5 : Int32) (v6 : Int32) (v7 : Int64) (v9 : Int64) (v12 : Int64) (v14 : Int64) (v16 : Int32) : Option (Unit × zM) :=
  fX10_times_273 k89 n M v0 v1 v2 v3 v5 v6 v7 v9 v12 v14 v16 (0 : Int32)
set_option maxHeartbeats 4000000 in
theorem tX10_times_272 (k89 : zM → Nat → Int32 → Int32 → Int32 → Int32 → Int32 → Int64 → Int64 → Int32 → Int64 → Int64 → Int32 → Option (Unit × zM)) (h89 : ∀ (M : zM) (v0 : Nat) (v1 : Int32) (v2 : Int32) (v3 : Int32) (v5 : Int32) (v6 : Int32) (v7 : Int64) (v9 : Int64) (v11 : Int32) (v12 : Int64) (v14 : Int64) (v16 : Int32) (r : Unit) (M' : zM), k89 M v0 v1 v2 v3 v5 v6 v7 v9 v11 v12 v14 v16 = some (r, M') → zW uX10_times none (0, 0) M 89 [(0, .ref v0), (1, .int v1), (2, .int v2), (3, .int v3), (5, .int v5), (6, .int v6), (7, .long v7), (9, .long v9), (11, .int v11), (12, .long v12), (14, .long v14), (16, .int v16)] [] (zE (oV r) M')) (n : Nat) (M : zM) (v0 : Nat) (v1 : Int32) (v2 : Int32) (v3 : Int32) (v5 : Int32) (v6 : Int32) (v7 : Int64) (v9 : Int64) (v12 : Int64) (v14 : Int64) (v16 : Int32) (r : Unit) (M' : zM) (h : fX10_times_272 k89 n M v0 v1 v2 v3 v5 v6 v7 v9 v12 v14 v16 = some (r, M')) : zW uX10_times none (0, 0) M 272 [(0, .ref v0), (1, .int v1), (2, .int v2), (3, .int v3), (5, .int v5), (6, .int v6), (7, .long v7), (9, .long v9), (12, .long v12), (14, .long v14), (16, .int v16)] [] (zE (oV r) M') := by
  unfold fX10_times_272 at h
  refine zr_iconst (q := 273) (v := 0) dX10_times_272 rfl (by decide) ?_
  exact zr_pick [0, 1, 2, 3, 4, 5, 6, 7, 8, 9, 10] rfl (tX10_times_273 k89 h89 n M v0 v1 v2 v3 v5 v6 v7 v9 v12 v14 v16 (0 : Int32) _ _ h)
def fX10_times_256 (k89 : zM → Nat → Int32 → Int32 → Int32 → Int32 → Int32 → Int64 → Int64 → Int32 → Int64 → Int64 → Int32 → Option (Unit × zM)) (n : Nat) (M : zM) (v0 : Nat) (v1 : Int32) (v2 : Int32) (v3 : Int32) (v5 : Int32) (v6 : Int32) (v7 : Int64) (v9 : Int64) (v11 : Int32) (v12 : Int64) (v16 : Int32) (v18 : Int32) (s0 : Int64) : Option (Unit × zM) :=
  if v11 = (0 : Int32) then
    fX10_times_272 k89 n M v0 v1 v2 v3 v5 v6 v7 v9 v12 s0 v16
  else
  if v18 = (0 : Int32) then
    fX10_times_272 k89 n M v0 v1 v2 v3 v5 v6 v7 v9 v12 s0 v16
  else
  fX10_times_273 k89 n M v0 v1 v2 v3 v5 v6 v7 v9 v12 s0 v16 (1 : Int32)
set_option maxHeartbeats 4000000 in
theorem tX10_times_256 (k89 : zM → Nat → Int32 → Int32 → Int32 → Int32 → Int32 → Int64 → Int64 → Int32 → Int64 → Int64 → Int32 → Option (Unit × zM)) (h89 : ∀ (M : zM) (v0 : Nat) (v1 : Int32) (v2 : Int32) (v3 : Int32) (v5 : Int32) (v6 : Int32) (v7 : Int64) (v9 : Int64) (v11 : Int32) (v12 : Int64) (v14 : Int64) (v16 : Int32) (r : Unit) (M' : zM), k89 M v0 v1 v2 v3 v5 v6 v7 v9 v11 v12 v14 v16 = some (r, M') → zW uX10_times none (0, 0) M 89 [(0, .ref v0), (1, .int v1), (2, .int v2), (3, .int v3), (5, .int v5), (6, .int v6), (7, .long v7), (9, .long v9), (11, .int v11), (12, .long v12), (14, .long v14), (16, .int v16)] [] (zE (oV r) M')) (n : Nat) (M : zM) (v0 : Nat) (v1 : Int32) (v2 : Int32) (v3 : Int32) (v5 : Int32) (v6 : Int32) (v7 : Int64) (v9 : Int64) (v11 : Int32) (v12 : Int64) (v16 : Int32) (v18 : Int32) (s0 : Int64) (r : Unit) (M' : zM) (h : fX10_times_256 k89 n M v0 v1 v2 v3 v5 v6 v7 v9 v11 v12 v16 v18 s0 = some (r, M')) : zW uX10_times none (0, 0) M 256 [(0, .ref v0), (1, .int v1), (2, .int v2), (3, .int v3), (5, .int v5), (6, .int v6), (7, .long v7), (9, .long v9), (11, .int v11), (12, .long v12), (16, .int v16), (18, .int v18)] [.long s0] (zE (oV r) M') := by
  unfold fX10_times_256 at h
  refine zr_lstore (q := 258) (L' := [(14, .long s0), (0, .ref v0), (1, .int v1), (2, .int v2), (3, .int v3), (5, .int v5), (6, .int v6), (7, .long v7), (9, .long v9), (11, .int v11), (12, .long v12), (16, .int v16), (18, .int v18)]) dX10_times_256 rfl (by decide) rfl ?_
  refine zr_iload (q := 260) dX10_times_258 rfl 9 rfl ?_
  refine zr_if_eq (q := 263) (tgt := 272) dX10_times_260 rfl (by decide) (fun c_1 => ?_) (fun c_1 => ?_)
  · replace h := ite_t c_1 h
    exact zr_pick [1, 2, 3, 4, 5, 6, 7, 8, 10, 0, 11] rfl (tX10_times_272 k89 h89 n M v0 v1 v2 v3 v5 v6 v7 v9 v12 s0 v16 _ _ h)
  · replace h := ite_f c_1 h
    refine zr_iload (q := 265) dX10_times_263 rfl 12 rfl ?_
    refine zr_if_eq (q := 268) (tgt := 272) dX10_times_265 rfl (by decide) (fun c_2 => ?_) (fun c_2 => ?_)
    · replace h := ite_t c_2 h
      exact zr_pick [1, 2, 3, 4, 5, 6, 7, 8, 10, 0, 11] rfl (tX10_times_272 k89 h89 n M v0 v1 v2 v3 v5 v6 v7 v9 v12 s0 v16 _ _ h)
    · replace h := ite_f c_2 h
      refine zr_iconst (q := 269) (v := 1) dX10_times_268 rfl (by decide) ?_
      refine zr_goto (q := 273) dX10_times_269 (by decide) ?_
      exact zr_pick [1, 2, 3, 4, 5, 6, 7, 8, 10, 0, 11] rfl (tX10_times_273 k89 h89 n M v0 v1 v2 v3 v5 v6 v7 v9 v12 s0 v16 (1 : Int32) _ _ h)
def fX10_times_233 (k89 : zM → Nat → Int32 → Int32 → Int32 → Int32 → Int32 → Int64 → Int64 → Int32 → Int64 → Int64 → Int32 → Option (Unit × zM)) (n : Nat) (M : zM) (v0 : Nat) (v1 : Int32) (v2 : Int32) (v3 : Int32) (v5 : Int32) (v6 : Int32) (v7 : Int64) (v9 : Int64) (v11 : Int32) (v12 : Int64) (v14 : Int64) (v16 : Int32) (v17 : Int32) (s0 : Int32) : Option (Unit × zM) :=
  if s0 = (0 : Int32) then
    fX10_times_256 k89 n M v0 v1 v2 v3 v5 v6 v7 v9 v11 v12 v16 s0 (jshl v9 v17)
  else
  fX10_times_256 k89 n M v0 v1 v2 v3 v5 v6 v7 v9 v11 v12 v16 s0 (v14 ||| (jshl v9 v17))
set_option maxHeartbeats 4000000 in
theorem tX10_times_233 (k89 : zM → Nat → Int32 → Int32 → Int32 → Int32 → Int32 → Int64 → Int64 → Int32 → Int64 → Int64 → Int32 → Option (Unit × zM)) (h89 : ∀ (M : zM) (v0 : Nat) (v1 : Int32) (v2 : Int32) (v3 : Int32) (v5 : Int32) (v6 : Int32) (v7 : Int64) (v9 : Int64) (v11 : Int32) (v12 : Int64) (v14 : Int64) (v16 : Int32) (r : Unit) (M' : zM), k89 M v0 v1 v2 v3 v5 v6 v7 v9 v11 v12 v14 v16 = some (r, M') → zW uX10_times none (0, 0) M 89 [(0, .ref v0), (1, .int v1), (2, .int v2), (3, .int v3), (5, .int v5), (6, .int v6), (7, .long v7), (9, .long v9), (11, .int v11), (12, .long v12), (14, .long v14), (16, .int v16)] [] (zE (oV r) M')) (n : Nat) (M : zM) (v0 : Nat) (v1 : Int32) (v2 : Int32) (v3 : Int32) (v5 : Int32) (v6 : Int32) (v7 : Int64) (v9 : Int64) (v11 : Int32) (v12 : Int64) (v14 : Int64) (v16 : Int32) (v17 : Int32) (s0 : Int32) (r : Unit) (M' : zM) (h : fX10_times_233 k89 n M v0 v1 v2 v3 v5 v6 v7 v9 v11 v12 v14 v16 v17 s0 = some (r, M')) : zW uX10_times none (0, 0) M 233 [(0, .ref v0), (1, .int v1), (2, .int v2), (3, .int v3), (5, .int v5), (6, .int v6), (7, .long v7), (9, .long v9), (11, .int v11), (12, .long v12), (14, .long v14), (16, .int v16), (17, .int v17)] [.int s0] (zE (oV r) M') := by
  unfold fX10_times_233 at h
  refine zr_istore (q := 235) (L' := [(18, .int s0), (0, .ref v0), (1, .int v1), (2, .int v2), (3, .int v3), (5, .int v5), (6, .int v6), (7, .long v7), (9, .long v9), (11, .int v11), (12, .long v12), (14, .long v14), (16, .int v16), (17, .int v17)]) dX10_times_233 rfl (by decide) rfl ?_
  refine zr_iload (q := 237) dX10_times_235 rfl 0 rfl ?_
  refine zr_if_eq (q := 240) (tgt := 251) dX10_times_237 rfl (by decide) (fun c_1 => ?_) (fun c_1 => ?_)
  · replace h := ite_t c_1 h
    refine zr_lload (q := 253) dX10_times_251 rfl 8 rfl ?_
    refine zr_iload (q := 255) dX10_times_253 rfl 13 rfl ?_
    refine zr_lshl (q := 256) dX10_times_255 rfl ?_
    exact zr_pick [1, 2, 3, 4, 5, 6, 7, 8, 9, 10, 12, 0] rfl (tX10_times_256 k89 h89 n M v0 v1 v2 v3 v5 v6 v7 v9 v11 v12 v16 s0 (jshl v9 v17) _ _ h)
  · replace h := ite_f c_1 h
    refine zr_lload (q := 242) dX10_times_240 rfl 11 rfl ?_
    refine zr_lload (q := 244) dX10_times_242 rfl 8 rfl ?_
    refine zr_iload (q := 246) dX10_times_244 rfl 13 rfl ?_
    refine zr_lshl (q := 247) dX10_times_246 rfl ?_
    refine zr_lor (q := 248) dX10_times_247 rfl ?_
    refine zr_goto (q := 256) dX10_times_248 (by decide) ?_
    exact zr_pick [1, 2, 3, 4, 5, 6, 7, 8, 9, 10, 12, 0] rfl (tX10_times_256 k89 h89 n M v0 v1 v2 v3 v5 v6 v7 v9 v11 v12 v16 s0 (v14 ||| (jshl v9 v17)) _ _ h)
def fX10_times_228 (k89 : zM → Nat → Int32 → Int32 → Int32 → Int32 → Int32 → Int64 → Int64 → Int32 → Int64 → Int64 → Int32 → Option (Unit × zM)) (n : Nat) (M : zM) (v0 : Nat) (v1 : Int32) (v2 : Int32) (v3 : Int32) (v5 : Int32) (v6 : Int32) (v7 : Int64) (v9 : Int64) (v11 : Int32) (v12 : Int64) (v14 : Int64) (v16 : Int32) (v17 : Int32) : Option (Unit × zM) :=
  fX10_times_233 k89 n M v0 v1 v2 v3 v5 v6 v7 v9 v11 v12 v14 v16 v17 (1 : Int32)
set_option maxHeartbeats 4000000 in
theorem tX10_times_228 (k89 : zM → Nat → Int32 → Int32 → Int32 → Int32 → Int32 → Int64 → Int64 → Int32 → Int64 → Int64 → Int32 → Option (Unit × zM)) (h89 : ∀ (M : zM) (v0 : Nat) (v1 : Int32) (v2 : Int32) (v3 : Int32) (v5 : Int32) (v6 : Int32) (v7 : Int64) (v9 : Int64) (v11 : Int32) (v12 : Int64) (v14 : Int64) (v16 : Int32) (r : Unit) (M' : zM), k89 M v0 v1 v2 v3 v5 v6 v7 v9 v11 v12 v14 v16 = some (r, M') → zW uX10_times none (0, 0) M 89 [(0, .ref v0), (1, .int v1), (2, .int v2), (3, .int v3), (5, .int v5), (6, .int v6), (7, .long v7), (9, .long v9), (11, .int v11), (12, .long v12), (14, .long v14), (16, .int v16)] [] (zE (oV r) M')) (n : Nat) (M : zM) (v0 : Nat) (v1 : Int32) (v2 : Int32) (v3 : Int32) (v5 : Int32) (v6 : Int32) (v7 : Int64) (v9 : Int64) (v11 : Int32) (v12 : Int64) (v14 : Int64) (v16 : Int32) (v17 : Int32) (r : Unit) (M' : zM) (h : fX10_times_228 k89 n M v0 v1 v2 v3 v5 v6 v7 v9 v11 v12 v14 v16 v17 = some (r, M')) : zW uX10_times none (0, 0) M 228 [(0, .ref v0), (1, .int v1), (2, .int v2), (3, .int v3), (5, .int v5), (6, .int v6), (7, .long v7), (9, .long v9), (11, .int v11), (12, .long v12), (14, .long v14), (16, .int v16), (17, .int v17)] [] (zE (oV r) M') := by
  unfold fX10_times_228 at h
  refine zr_iconst (q := 229) (v := 1) dX10_times_228 rfl (by decide) ?_
  refine zr_goto (q := 233) dX10_times_229 (by decide) ?_
  exact zr_pick [0, 1, 2, 3, 4, 5, 6, 7, 8, 9, 10, 11, 12] rfl (tX10_times_233 k89 h89 n M v0 v1 v2 v3 v5 v6 v7 v9 v11 v12 v14 v16 v17 (1 : Int32) _ _ h)
def fX10_times_215 (k89 : zM → Nat → Int32 → Int32 → Int32 → Int32 → Int32 → Int64 → Int64 → Int32 → Int64 → Int64 → Int32 → Option (Unit × zM)) (n : Nat) (M : zM) (v0 : Nat) (v1 : Int32) (v2 : Int32) (v3 : Int32) (v5 : Int32) (v6 : Int32) (v7 : Int64) (v9 : Int64) (v11 : Int32) (v14 : Int64) (v16 : Int32) (v17 : Int32) (s0 : Int64) : Option (Unit × zM) :=
  if v6 = (0 : Int32) then
    if v16 < v1 then
      fX10_times_233 k89 n M v0 v1 v2 v3 v5 v6 v7 v9 v11 s0 v14 v16 v17 (0 : Int32)
    else
    fX10_times_228 k89 n M v0 v1 v2 v3 v5 v6 v7 v9 v11 s0 v14 v16 v17
  else
  fX10_times_228 k89 n M v0 v1 v2 v3 v5 v6 v7 v9 v11 s0 v14 v16 v17
set_option maxHeartbeats 4000000 in
theorem tX10_times_215 (k89 : zM → Nat → Int32 → Int32 → Int32 → Int32 → Int32 → Int64 → Int64 → Int32 → Int64 → Int64 → Int32 → Option (Unit × zM)) (h89 : ∀ (M : zM) (v0 : Nat) (v1 : Int32) (v2 : Int32) (v3 : Int32) (v5 : Int32) (v6 : Int32) (v7 : Int64) (v9 : Int64) (v11 : Int32) (v12 : Int64) (v14 : Int64) (v16 : Int32) (r : Unit) (M' : zM), k89 M v0 v1 v2 v3 v5 v6 v7 v9 v11 v12 v14 v16 = some (r, M') → zW uX10_times none (0, 0) M 89 [(0, .ref v0), (1, .int v1), (2, .int v2), (3, .int v3), (5, .int v5), (6, .int v6), (7, .long v7), (9, .long v9), (11, .int v11), (12, .long v12), (14, .long v14), (16, .int v16)] [] (zE (oV r) M')) (n : Nat) (M : zM) (v0 : Nat) (v1 : Int32) (v2 : Int32) (v3 : Int32) (v5 : Int32) (v6 : Int32) (v7 : Int64) (v9 : Int64) (v11 : Int32) (v14 : Int64) (v16 : Int32) (v17 : Int32) (s0 : Int64) (r : Unit) (M' : zM) (h : fX10_times_215 k89 n M v0 v1 v2 v3 v5 v6 v7 v9 v11 v14 v16 v17 s0 = some (r, M')) : zW uX10_times none (0, 0) M 215 [(0, .ref v0), (1, .int v1), (2, .int v2), (3, .int v3), (5, .int v5), (6, .int v6), (7, .long v7), (9, .long v9), (11, .int v11), (14, .long v14), (16, .int v16), (17, .int v17)] [.long s0] (zE (oV r) M') := by
  unfold fX10_times_215 at h
  refine zr_lstore (q := 217) (L' := [(12, .long s0), (0, .ref v0), (1, .int v1), (2, .int v2), (3, .int v3), (5, .int v5), (6, .int v6), (7, .long v7), (9, .long v9), (11, .int v11), (14, .long v14), (16, .int v16), (17, .int v17)]) dX10_times_215 rfl (by decide) rfl ?_
  refine zr_iload (q := 219) dX10_times_217 rfl 6 rfl ?_
  refine zr_if_ne (q := 222) (tgt := 228) dX10_times_219 rfl (by decide) (fun c_1 => ?_) (fun c_1 => ?_)
  · replace h := ite_f c_1 h
    exact zr_pick [1, 2, 3, 4, 5, 6, 7, 8, 9, 0, 10, 11, 12] rfl (tX10_times_228 k89 h89 n M v0 v1 v2 v3 v5 v6 v7 v9 v11 s0 v14 v16 v17 _ _ h)
  · replace h := ite_t c_1 h
    refine zr_iload (q := 224) dX10_times_222 rfl 11 rfl ?_
    refine zr_iload_n (q := 225) dX10_times_224 rfl rfl 2 rfl ?_
    refine zr_icmp_lt (q := 228) (tgt := 232) dX10_times_225 rfl (by decide) (fun c_2 => ?_) (fun c_2 => ?_)
    · replace h := ite_t c_2 h
      refine zr_iconst (q := 233) (v := 0) dX10_times_232 rfl (by decide) ?_
      exact zr_pick [1, 2, 3, 4, 5, 6, 7, 8, 9, 0, 10, 11, 12] rfl (tX10_times_233 k89 h89 n M v0 v1 v2 v3 v5 v6 v7 v9 v11 s0 v14 v16 v17 (0 : Int32) _ _ h)
    · replace h := ite_f c_2 h
      exact zr_pick [1, 2, 3, 4, 5, 6, 7, 8, 9, 0, 10, 11, 12] rfl (tX10_times_228 k89 h89 n M v0 v1 v2 v3 v5 v6 v7 v9 v11 s0 v14 v16 v17 _ _ h)
def fX10_times_186 (k89 : zM → Nat → Int32 → Int32 → Int32 → Int32 → Int32 → Int64 → Int64 → Int32 → Int64 → Int64 → Int32 → Option (Unit × zM)) (n : Nat) (M : zM) (v0 : Nat) (v1 : Int32) (v2 : Int32) (v3 : Int32) (v5 : Int32) (v6 : Int32) (v7 : Int64) (v9 : Int64) (v11 : Int32) (v12 : Int64) (v14 : Int64) (v16 : Int32) (v17 : Int32) : Option (Unit × zM) :=
  chk (mK M v0 == 10) <|
  bnd2 (fX10_link n M v0 v14 (jshl v7 v17)) fun r_1 M_2 =>
  if v11 = (0 : Int32) then
    fX10_times_215 k89 n M_2 v0 v1 v2 v3 v5 v6 v7 v9 v11 v14 v16 v17 v12
  else
  fX10_times_215 k89 n M_2 v0 v1 v2 v3 v5 v6 v7 v9 v11 v14 v16 v17 (v12 ||| (jshl v7 v17))
set_option maxHeartbeats 4000000 in
theorem tX10_times_186 (k89 : zM → Nat → Int32 → Int32 → Int32 → Int32 → Int32 → Int64 → Int64 → Int32 → Int64 → Int64 → Int32 → Option (Unit × zM)) (h89 : ∀ (M : zM) (v0 : Nat) (v1 : Int32) (v2 : Int32) (v3 : Int32) (v5 : Int32) (v6 : Int32) (v7 : Int64) (v9 : Int64) (v11 : Int32) (v12 : Int64) (v14 : Int64) (v16 : Int32) (r : Unit) (M' : zM), k89 M v0 v1 v2 v3 v5 v6 v7 v9 v11 v12 v14 v16 = some (r, M') → zW uX10_times none (0, 0) M 89 [(0, .ref v0), (1, .int v1), (2, .int v2), (3, .int v3), (5, .int v5), (6, .int v6), (7, .long v7), (9, .long v9), (11, .int v11), (12, .long v12), (14, .long v14), (16, .int v16)] [] (zE (oV r) M')) (n : Nat) (M : zM) (v0 : Nat) (v1 : Int32) (v2 : Int32) (v3 : Int32) (v5 : Int32) (v6 : Int32) (v7 : Int64) (v9 : Int64) (v11 : Int32) (v12 : Int64) (v14 : Int64) (v16 : Int32) (v17 : Int32) (r : Unit) (M' : zM) (h : fX10_times_186 k89 n M v0 v1 v2 v3 v5 v6 v7 v9 v11 v12 v14 v16 v17 = some (r, M')) : zW uX10_times none (0, 0) M 186 [(0, .ref v0), (1, .int v1), (2, .int v2), (3, .int v3), (5, .int v5), (6, .int v6), (7, .long v7), (9, .long v9), (11, .int v11), (12, .long v12), (14, .long v14), (16, .int v16), (17, .int v17)] [] (zE (oV r) M') := by
  unfold fX10_times_186 at h
  refine zr_aload_n (q := 187) dX10_times_186 rfl rfl 0 rfl ?_
  refine zr_lload (q := 189) dX10_times_187 rfl 10 rfl ?_
  refine zr_lload (q := 191) dX10_times_189 rfl 6 rfl ?_
  refine zr_iload (q := 193) dX10_times_191 rfl 12 rfl ?_
  refine zr_lshl (q := 194) dX10_times_193 rfl ?_
  obtain ⟨c_4, h⟩ := chk_some h
  obtain ⟨r_1, M_2, hc_3, h⟩ := bnd2_some h
  refine zr_callVV (μ' := uX10_link) (q := 197) (n := 2) (ci := 10) (As := [.long v14, .long (jshl v7 v17)]) (u' := (0, 0)) (tX10_link n M v0 v14 (jshl v7 v17) _ _ hc_3) dX10_times_194 rfl rfl ⟨zb_411, zb_412, zb_413, zb_414, zb_389⟩ zd_X10_link ⟨by decide, by decide⟩ ⟨by decide, by decide⟩ (eq_of_beq c_4) (by decide) rfl rfl rfl (Nat.le_of_ble_eq_true rfl) rfl rfl ?_
  refine zr_iload (q := 199) dX10_times_197 rfl 8 rfl ?_
  refine zr_if_eq (q := 202) (tgt := 213) dX10_times_199 rfl (by decide) (fun c_5 => ?_) (fun c_5 => ?_)
  · replace h := ite_t c_5 h
    refine zr_lload (q := 215) dX10_times_213 rfl 9 rfl ?_
    exact zr_pick [0, 1, 2, 3, 4, 5, 6, 7, 8, 10, 11, 12] rfl (tX10_times_215 k89 h89 n M_2 v0 v1 v2 v3 v5 v6 v7 v9 v11 v14 v16 v17 v12 _ _ h)
  · replace h := ite_f c_5 h
    refine zr_lload (q := 204) dX10_times_202 rfl 9 rfl ?_
    refine zr_lload (q := 206) dX10_times_204 rfl 6 rfl ?_
    refine zr_iload (q := 208) dX10_times_206 rfl 12 rfl ?_
    refine zr_lshl (q := 209) dX10_times_208 rfl ?_
    refine zr_lor (q := 210) dX10_times_209 rfl ?_
    refine zr_goto (q := 215) dX10_times_210 (by decide) ?_
    exact zr_pick [0, 1, 2, 3, 4, 5, 6, 7, 8, 10, 11, 12] rfl (tX10_times_215 k89 h89 n M_2 v0 v1 v2 v3 v5 v6 v7 v9 v11 v14 v16 v17 (v12 ||| (jshl v7 v17)) _ _ h)
def fX10_times_104 (k89 : zM → Nat → Int32 → Int32 → Int32 → Int32 → Int32 → Int64 → Int64 → Int32 → Int64 → Int64 → Int32 → Option (Unit × zM)) : Nat → zM → Nat → Int32 → Int32 → Int32 → Int32 → Int32 → Int64 → Int64 → Int32 → Int64 → Int64 → Int32 → Int32 → Int32 → Option (Unit × zM)
  | 0, _, _, _, _, _, _, _, _, _, _, _, _, _, _, _ => none
  | n + 1, M, v0, v1, v2, v3, v5, v6, v7, v9, v11, v12, v14, v16, v17, v18 =>
    if v3 ≤ v18 then
      fX10_times_186 k89 n M v0 v1 v2 v3 v5 v6 v7 v9 v11 v12 v14 v16 v17
    else
    if v16 ≤ (0 : Int32) then
      fX10_times_186 k89 n M v0 v1 v2 v3 v5 v6 v7 v9 v11 v12 v14 v16 v17
    else
    chk (mK M v0 == 10) <|
    bnd (mR M v0 12) fun a_4 =>
    chk (mK M v0 == 10) <|
    bnd (mR M v0 12) fun a_7 =>
    chk (mK M a_7 == 12) <|
    chk (zin (((120 : Int32) + v5) + v18) (mN M a_7)) <|
    chk (mK M a_4 == 12) <|
    chk (zin ((((120 : Int32) + v5) + v17) + v18) (mN M a_4)) <|
    app (wL M a_4 (Int32.toNatClampNeg ((((120 : Int32) + v5) + v17) + v18)) (mL M a_7 (Int32.toNatClampNeg (((120 : Int32) + v5) + v18)))) fun M_13 : zM =>
    chk (mK M_13 v0 == 10) <|
    bnd (mR M_13 v0 11) fun a_16 =>
    chk (mK M_13 v0 == 10) <|
    bnd (mR M_13 v0 27) fun a_19 =>
    chk (mK M_13 a_19 == 12) <|
    chk (zin v18 (mN M_13 a_19)) <|
    chk (mK M_13 a_16 == 12) <|
    chk (zin ((((120 : Int32) + v5) + v17) + v18) (mN M_13 a_16)) <|
    app (wL M_13 a_16 (Int32.toNatClampNeg ((((120 : Int32) + v5) + v17) + v18)) (jshl (mL M_13 a_19 (Int32.toNatClampNeg v18)) v17)) fun M_25 : zM =>
    chk (mK M_25 v0 == 10) <|
    chk (mK M_25 v0 == 10) <|
    app (wI M_25 v0 14 ((mI M_25 v0 14) + (1 : Int32))) fun M_29 : zM =>
    app (v18 + (1 : Int32)) fun v18_31 : Int32 =>
    (fX10_times_104 k89 n) M_29 v0 v1 v2 v3 v5 v6 v7 v9 v11 v12 v14 v16 v17 v18_31
set_option maxHeartbeats 4000000 in
theorem tX10_times_104 (k89 : zM → Nat → Int32 → Int32 → Int32 → Int32 → Int32 → Int64 → Int64 → Int32 → Int64 → Int64 → Int32 → Option (Unit × zM)) (h89 : ∀ (M : zM) (v0 : Nat) (v1 : Int32) (v2 : Int32) (v3 : Int32) (v5 : Int32) (v6 : Int32) (v7 : Int64) (v9 : Int64) (v11 : Int32) (v12 : Int64) (v14 : Int64) (v16 : Int32) (r : Unit) (M' : zM), k89 M v0 v1 v2 v3 v5 v6 v7 v9 v11 v12 v14 v16 = some (r, M') → zW uX10_times none (0, 0) M 89 [(0, .ref v0), (1, .int v1), (2, .int v2), (3, .int v3), (5, .int v5), (6, .int v6), (7, .long v7), (9, .long v9), (11, .int v11), (12, .long v12), (14, .long v14), (16, .int v16)] [] (zE (oV r) M')) : ∀ (n : Nat) (M : zM) (v0 : Nat) (v1 : Int32) (v2 : Int32) (v3 : Int32) (v5 : Int32) (v6 : Int32) (v7 : Int64) (v9 : Int64) (v11 : Int32) (v12 : Int64) (v14 : Int64) (v16 : Int32) (v17 : Int32) (v18 : Int32) (r : Unit) (M' : zM), fX10_times_104 k89 n M v0 v1 v2 v3 v5 v6 v7 v9 v11 v12 v14 v16 v17 v18 = some (r, M') → zW uX10_times none (0, 0) M 104 [(0, .ref v0), (1, .int v1), (2, .int v2), (3, .int v3), (5, .int v5), (6, .int v6), (7, .long v7), (9, .long v9), (11, .int v11), (12, .long v12), (14, .long v14), (16, .int v16), (17, .int v17), (18, .int v18)] [] (zE (oV r) M') := by
  intro n
  induction n with
  | zero => intro M v0 v1 v2 v3 v5 v6 v7 v9 v11 v12 v14 v16 v17 v18 r M' h; cases h
  | succ n ih =>
    intro M v0 v1 v2 v3 v5 v6 v7 v9 v11 v12 v14 v16 v17 v18 r M' h
    rw [fX10_times_104] at h
    refine zr_iload (q := 106) dX10_times_104 rfl 13 rfl ?_
    refine zr_iload_n (q := 107) dX10_times_106 rfl rfl 3 rfl ?_
    refine zr_icmp_ge (q := 110) (tgt := 186) dX10_times_107 rfl (by decide) (fun c_1 => ?_) (fun c_1 => ?_)
    · replace h := ite_t c_1 h
      exact zr_pick [0, 1, 2, 3, 4, 5, 6, 7, 8, 9, 10, 11, 12] rfl (tX10_times_186 k89 h89 n M v0 v1 v2 v3 v5 v6 v7 v9 v11 v12 v14 v16 v17 _ _ h)
    · replace h := ite_f c_1 h
      refine zr_iload (q := 112) dX10_times_110 rfl 11 rfl ?_
      refine zr_if_le (q := 115) (tgt := 186) dX10_times_112 rfl (by decide) (fun c_2 => ?_) (fun c_2 => ?_)
      · replace h := ite_t c_2 h
        exact zr_pick [0, 1, 2, 3, 4, 5, 6, 7, 8, 9, 10, 11, 12] rfl (tX10_times_186 k89 h89 n M v0 v1 v2 v3 v5 v6 v7 v9 v11 v12 v14 v16 v17 _ _ h)
      · replace h := ite_f c_2 h
        refine zr_aload_n (q := 116) dX10_times_115 rfl rfl 0 rfl ?_
        obtain ⟨c_3, h⟩ := chk_some h
        obtain ⟨a_4, e_5, h⟩ := bnd_some h
        refine zr_getr (q := 119) (ci := 10) (k := 12) dX10_times_116 rfl (eq_of_beq c_3) rfl (by decide) rfl zbX10 (by decide) zb_420 rfl e_5 ?_
        refine zr_bipush (q := 121) (v := 120) dX10_times_119 rfl (by decide) ?_
        refine zr_iload (q := 123) dX10_times_121 rfl 4 rfl ?_
        refine zr_iadd (q := 124) dX10_times_123 rfl ?_
        refine zr_iload (q := 126) dX10_times_124 rfl 12 rfl ?_
        refine zr_iadd (q := 127) dX10_times_126 rfl ?_
        refine zr_iload (q := 129) dX10_times_127 rfl 13 rfl ?_
        refine zr_iadd (q := 130) dX10_times_129 rfl ?_
        refine zr_aload_n (q := 131) dX10_times_130 rfl rfl 0 rfl ?_
        obtain ⟨c_6, h⟩ := chk_some h
        obtain ⟨a_7, e_8, h⟩ := bnd_some h
        refine zr_getr (q := 134) (ci := 10) (k := 12) dX10_times_131 rfl (eq_of_beq c_6) rfl (by decide) rfl zbX10 (by decide) zb_420 rfl e_8 ?_
        refine zr_bipush (q := 136) (v := 120) dX10_times_134 rfl (by decide) ?_
        refine zr_iload (q := 138) dX10_times_136 rfl 4 rfl ?_
        refine zr_iadd (q := 139) dX10_times_138 rfl ?_
        refine zr_iload (q := 141) dX10_times_139 rfl 13 rfl ?_
        refine zr_iadd (q := 142) dX10_times_141 rfl ?_
        obtain ⟨c_9, h⟩ := chk_some h
        obtain ⟨c_10, h⟩ := chk_some h
        refine zr_lald (q := 143) dX10_times_142 rfl (eq_of_beq c_9) c_10 ?_
        obtain ⟨c_11, h⟩ := chk_some h
        obtain ⟨c_12, h⟩ := chk_some h
        obtain ⟨M_13, e_14, h⟩ := app_some h
        refine zr_last (q := 144) dX10_times_143 rfl (eq_of_beq c_11) c_12 ?_
        refine zr_mem e_14 ?_
        refine zr_aload_n (q := 145) dX10_times_144 rfl rfl 0 rfl ?_
        obtain ⟨c_15, h⟩ := chk_some h
        obtain ⟨a_16, e_17, h⟩ := bnd_some h
        refine zr_getr (q := 148) (ci := 10) (k := 11) dX10_times_145 rfl (eq_of_beq c_15) rfl (by decide) rfl zbX10 (by decide) zb_407 rfl e_17 ?_
        refine zr_bipush (q := 150) (v := 120) dX10_times_148 rfl (by decide) ?_
        refine zr_iload (q := 152) dX10_times_150 rfl 4 rfl ?_
        refine zr_iadd (q := 153) dX10_times_152 rfl ?_
        refine zr_iload (q := 155) dX10_times_153 rfl 12 rfl ?_
        refine zr_iadd (q := 156) dX10_times_155 rfl ?_
        refine zr_iload (q := 158) dX10_times_156 rfl 13 rfl ?_
        refine zr_iadd (q := 159) dX10_times_158 rfl ?_
        refine zr_aload_n (q := 160) dX10_times_159 rfl rfl 0 rfl ?_
        obtain ⟨c_18, h⟩ := chk_some h
        obtain ⟨a_19, e_20, h⟩ := bnd_some h
        refine zr_getr (q := 163) (ci := 10) (k := 27) dX10_times_160 rfl (eq_of_beq c_18) rfl (by decide) rfl zbX10 (by decide) zb_444 rfl e_20 ?_
        refine zr_iload (q := 165) dX10_times_163 rfl 13 rfl ?_
        obtain ⟨c_21, h⟩ := chk_some h
        obtain ⟨c_22, h⟩ := chk_some h
        refine zr_lald (q := 166) dX10_times_165 rfl (eq_of_beq c_21) c_22 ?_
        refine zr_iload (q := 168) dX10_times_166 rfl 12 rfl ?_
        refine zr_lshl (q := 169) dX10_times_168 rfl ?_
        obtain ⟨c_23, h⟩ := chk_some h
        obtain ⟨c_24, h⟩ := chk_some h
        obtain ⟨M_25, e_26, h⟩ := app_some h
        refine zr_last (q := 170) dX10_times_169 rfl (eq_of_beq c_23) c_24 ?_
        refine zr_mem e_26 ?_
        refine zr_aload_n (q := 171) dX10_times_170 rfl rfl 0 rfl ?_
        refine zr_dup (q := 172) dX10_times_171 rfl rfl ?_
        obtain ⟨c_27, h⟩ := chk_some h
        refine zr_get (q := 175) (ci := 10) (k := 14) dX10_times_172 rfl (eq_of_beq c_27) rfl (by decide) rfl zbX10 (by decide) zb_399 rfl ?_
        refine zr_iconst (q := 176) (v := 1) dX10_times_175 rfl (by decide) ?_
        refine zr_iadd (q := 177) dX10_times_176 rfl ?_
        obtain ⟨c_28, h⟩ := chk_some h
        obtain ⟨M_29, e_30, h⟩ := app_some h
        refine zr_putI (q := 180) (ci := 10) (k := 14) dX10_times_177 rfl (eq_of_beq c_28) rfl (by decide) rfl zbX10 tyX10_ok nmX10 (by decide) zb_399 (Or.inl rfl) rfl ?_
        refine zr_mem e_30 ?_
        obtain ⟨v18_31, e_32, h⟩ := app_some h
        refine zr_iinc (q := 183) (v := v18_31) (L' := [(18, .int v18_31), (0, .ref v0), (1, .int v1), (2, .int v2), (3, .int v3), (5, .int v5), (6, .int v6), (7, .long v7), (9, .long v9), (11, .int v11), (12, .long v12), (14, .long v14), (16, .int v16), (17, .int v17)]) dX10_times_180 rfl 13 rfl (by rw [← e_32]; rfl) (by decide) rfl ?_
        refine zr_goto (q := 104) dX10_times_183 (by decide) ?_
        exact zr_pick [1, 2, 3, 4, 5, 6, 7, 8, 9, 10, 11, 12, 13, 0] rfl (ih M_29 v0 v1 v2 v3 v5 v6 v7 v9 v11 v12 v14 v16 v17 v18_31 _ _ h)
def fX10_times_89 : Nat → zM → Nat → Int32 → Int32 → Int32 → Int32 → Int32 → Int64 → Int64 → Int32 → Int64 → Int64 → Int32 → Option (Unit × zM)
  | 0, _, _, _, _, _, _, _, _, _, _, _, _, _ => none
  | n + 1, M, v0, v1, v2, v3, v5, v6, v7, v9, v11, v12, v14, v16 =>
    if v2 ≤ v16 then
      chk (mK M v0 == 10) <|
      bnd2 (fX10_setPart n M v0 v5 v11 v12 v14) fun r_2 M_3 =>
      some ((), M_3)
    else
    app (v16 * v3) fun v17_6 : Int32 =>
    fX10_times_104 (fX10_times_89 n) n M v0 v1 v2 v3 v5 v6 v7 v9 v11 v12 v14 v16 v17_6 (0 : Int32)
set_option maxHeartbeats 4000000 in
theorem tX10_times_89 : ∀ (n : Nat) (M : zM) (v0 : Nat) (v1 : Int32) (v2 : Int32) (v3 : Int32) (v5 : Int32) (v6 : Int32) (v7 : Int64) (v9 : Int64) (v11 : Int32) (v12 : Int64) (v14 : Int64) (v16 : Int32) (r : Unit) (M' : zM), fX10_times_89 n M v0 v1 v2 v3 v5 v6 v7 v9 v11 v12 v14 v16 = some (r, M') → zW uX10_times none (0, 0) M 89 [(0, .ref v0), (1, .int v1), (2, .int v2), (3, .int v3), (5, .int v5), (6, .int v6), (7, .long v7), (9, .long v9), (11, .int v11), (12, .long v12), (14, .long v14), (16, .int v16)] [] (zE (oV r) M') := by
  intro n
  induction n with
  | zero => intro M v0 v1 v2 v3 v5 v6 v7 v9 v11 v12 v14 v16 r M' h; cases h
  | succ n ih =>
    intro M v0 v1 v2 v3 v5 v6 v7 v9 v11 v12 v14 v16 r M' h
    rw [fX10_times_89] at h
    refine zr_iload (q := 91) dX10_times_89 rfl 11 rfl ?_
    refine zr_iload_n (q := 92) dX10_times_91 rfl rfl 2 rfl ?_
    refine zr_icmp_ge (q := 95) (tgt := 281) dX10_times_92 rfl (by decide) (fun c_1 => ?_) (fun c_1 => ?_)
    · replace h := ite_t c_1 h
      refine zr_aload_n (q := 282) dX10_times_281 rfl rfl 0 rfl ?_
      refine zr_iload (q := 284) dX10_times_282 rfl 4 rfl ?_
      refine zr_iload (q := 286) dX10_times_284 rfl 8 rfl ?_
      refine zr_lload (q := 288) dX10_times_286 rfl 9 rfl ?_
      refine zr_lload (q := 290) dX10_times_288 rfl 10 rfl ?_
      obtain ⟨c_5, h⟩ := chk_some h
      obtain ⟨r_2, M_3, hc_4, h⟩ := bnd2_some h
      refine zr_callVV (μ' := uX10_setPart) (q := 293) (n := 4) (ci := 10) (As := [.int v5, .int v11, .long v12, .long v14]) (u' := (0, 0)) (tX10_setPart n M v0 v5 v11 v12 v14 _ _ hc_4) dX10_times_290 rfl rfl ⟨zb_421, zb_422, zb_423, zb_424, zb_389⟩ zd_X10_setPart ⟨by decide, by decide⟩ ⟨by decide, by decide⟩ (eq_of_beq c_5) (by decide) rfl rfl rfl (Nat.le_of_ble_eq_true rfl) rfl rfl ?_
      cases h
      exact zr_return dX10_times_293 rfl ⟨by decide, by decide⟩ ⟨rfl, rfl⟩
    · replace h := ite_f c_1 h
      refine zr_iload (q := 97) dX10_times_95 rfl 11 rfl ?_
      refine zr_iload_n (q := 98) dX10_times_97 rfl rfl 3 rfl ?_
      refine zr_imul (q := 99) dX10_times_98 rfl ?_
      obtain ⟨v17_6, e_7, h⟩ := app_some h
      refine zr_nmI e_7 ?_
      refine zr_istore (q := 101) (L' := [(17, .int v17_6), (0, .ref v0), (1, .int v1), (2, .int v2), (3, .int v3), (5, .int v5), (6, .int v6), (7, .long v7), (9, .long v9), (11, .int v11), (12, .long v12), (14, .long v14), (16, .int v16)]) dX10_times_99 rfl (by decide) rfl ?_
      refine zr_iconst (q := 102) (v := 0) dX10_times_101 rfl (by decide) ?_
      refine zr_istore (q := 104) (L' := [(18, .int (0 : Int32)), (17, .int v17_6), (0, .ref v0), (1, .int v1), (2, .int v2), (3, .int v3), (5, .int v5), (6, .int v6), (7, .long v7), (9, .long v9), (11, .int v11), (12, .long v12), (14, .long v14), (16, .int v16)]) dX10_times_102 rfl (by decide) rfl ?_
      exact zr_pick [2, 3, 4, 5, 6, 7, 8, 9, 10, 11, 12, 13, 1, 0] rfl (tX10_times_104 (fX10_times_89 n) ih n M v0 v1 v2 v3 v5 v6 v7 v9 v11 v12 v14 v16 v17_6 (0 : Int32) _ _ h)
def fX10_times_18 : Nat → zM → Nat → Int32 → Int32 → Int32 → Int32 → Int32 → Int32 → Option (Unit × zM)
  | 0, _, _, _, _, _, _, _, _ => none
  | n + 1, M, v0, v1, v2, v3, v4, v5, v6 =>
    if v3 ≤ v6 then
      chk (mK M v0 == 10) <|
      bnd (mR M v0 20) fun a_3 =>
      chk (mK M a_3 == 13) <|
      chk (zin v4 (mN M a_3)) <|
      app (mI M a_3 (Int32.toNatClampNeg v4)) fun v6_7 : Int32 =>
      chk (mK M v0 == 10) <|
      bnd (mR M v0 21) fun a_10 =>
      chk (mK M a_10 == 12) <|
      chk (zin v4 (mN M a_10)) <|
      app (mL M a_10 (Int32.toNatClampNeg v4)) fun v7_14 : Int64 =>
      chk (mK M v0 == 10) <|
      bnd (mR M v0 22) fun a_17 =>
      chk (mK M a_17 == 12) <|
      chk (zin v4 (mN M a_17)) <|
      app (mL M a_17 (Int32.toNatClampNeg v4)) fun v9_21 : Int64 =>
      fX10_times_89 n M v0 v1 v2 v3 v5 v6_7 v7_14 v9_21 (1 : Int32) (0 : Int64) (0 : Int64) (0 : Int32)
    else
    chk (mK M v0 == 10) <|
    bnd (mR M v0 27) fun a_24 =>
    chk (mK M v0 == 10) <|
    bnd (mR M v0 11) fun a_27 =>
    chk (mK M a_27 == 12) <|
    chk (zin (((120 : Int32) + v5) + v6) (mN M a_27)) <|
    chk (mK M a_24 == 12) <|
    chk (zin v6 (mN M a_24)) <|
    app (wL M a_24 (Int32.toNatClampNeg v6) (mL M a_27 (Int32.toNatClampNeg (((120 : Int32) + v5) + v6)))) fun M_33 : zM =>
    app (v6 + (1 : Int32)) fun v6_35 : Int32 =>
    (fX10_times_18 n) M_33 v0 v1 v2 v3 v4 v5 v6_35
set_option maxHeartbeats 4000000 in
theorem tX10_times_18 : ∀ (n : Nat) (M : zM) (v0 : Nat) (v1 : Int32) (v2 : Int32) (v3 : Int32) (v4 : Int32) (v5 : Int32) (v6 : Int32) (r : Unit) (M' : zM), fX10_times_18 n M v0 v1 v2 v3 v4 v5 v6 = some (r, M') → zW uX10_times none (0, 0) M 18 [(0, .ref v0), (1, .int v1), (2, .int v2), (3, .int v3), (4, .int v4), (5, .int v5), (6, .int v6)] [] (zE (oV r) M') := by
  intro n
  induction n with
  | zero => intro M v0 v1 v2 v3 v4 v5 v6 r M' h; cases h
  | succ n ih =>
    intro M v0 v1 v2 v3 v4 v5 v6 r M' h
    rw [fX10_times_18] at h
    refine zr_iload (q := 20) dX10_times_18 rfl 6 rfl ?_
    refine zr_iload_n (q := 21) dX10_times_20 rfl rfl 3 rfl ?_
    refine zr_icmp_ge (q := 24) (tgt := 50) dX10_times_21 rfl (by decide) (fun c_1 => ?_) (fun c_1 => ?_)
    · replace h := ite_t c_1 h
      refine zr_aload_n (q := 51) dX10_times_50 rfl rfl 0 rfl ?_
      obtain ⟨c_2, h⟩ := chk_some h
      obtain ⟨a_3, e_4, h⟩ := bnd_some h
      refine zr_getr (q := 54) (ci := 10) (k := 20) dX10_times_51 rfl (eq_of_beq c_2) rfl (by decide) rfl zbX10 (by decide) zb_408 rfl e_4 ?_
      refine zr_iload (q := 56) dX10_times_54 rfl 4 rfl ?_
      obtain ⟨c_5, h⟩ := chk_some h
      obtain ⟨c_6, h⟩ := chk_some h
      refine zr_zald (q := 57) dX10_times_56 rfl (eq_of_beq c_5) c_6 ?_
      obtain ⟨v6_7, e_8, h⟩ := app_some h
      refine zr_nmI e_8 ?_
      refine zr_istore (q := 59) (L' := [(6, .int v6_7), (0, .ref v0), (1, .int v1), (2, .int v2), (3, .int v3), (4, .int v4), (5, .int v5)]) dX10_times_57 rfl (by decide) rfl ?_
      refine zr_aload_n (q := 60) dX10_times_59 rfl rfl 1 rfl ?_
      obtain ⟨c_9, h⟩ := chk_some h
      obtain ⟨a_10, e_11, h⟩ := bnd_some h
      refine zr_getr (q := 63) (ci := 10) (k := 21) dX10_times_60 rfl (eq_of_beq c_9) rfl (by decide) rfl zbX10 (by decide) zb_410 rfl e_11 ?_
      refine zr_iload (q := 65) dX10_times_63 rfl 5 rfl ?_
      obtain ⟨c_12, h⟩ := chk_some h
      obtain ⟨c_13, h⟩ := chk_some h
      refine zr_lald (q := 66) dX10_times_65 rfl (eq_of_beq c_12) c_13 ?_
      obtain ⟨v7_14, e_15, h⟩ := app_some h
      refine zr_nmL e_15 ?_
      refine zr_lstore (q := 68) (L' := [(7, .long v7_14), (6, .int v6_7), (0, .ref v0), (1, .int v1), (2, .int v2), (3, .int v3), (4, .int v4), (5, .int v5)]) dX10_times_66 rfl (by decide) rfl ?_
      refine zr_aload_n (q := 69) dX10_times_68 rfl rfl 2 rfl ?_
      obtain ⟨c_16, h⟩ := chk_some h
      obtain ⟨a_17, e_18, h⟩ := bnd_some h
      refine zr_getr (q := 72) (ci := 10) (k := 22) dX10_times_69 rfl (eq_of_beq c_16) rfl (by decide) rfl zbX10 (by decide) zb_409 rfl e_18 ?_
      refine zr_iload (q := 74) dX10_times_72 rfl 6 rfl ?_
      obtain ⟨c_19, h⟩ := chk_some h
      obtain ⟨c_20, h⟩ := chk_some h
      refine zr_lald (q := 75) dX10_times_74 rfl (eq_of_beq c_19) c_20 ?_
      obtain ⟨v9_21, e_22, h⟩ := app_some h
      refine zr_nmL e_22 ?_
      refine zr_lstore (q := 77) (L' := [(9, .long v9_21), (7, .long v7_14), (6, .int v6_7), (0, .ref v0), (1, .int v1), (2, .int v2), (3, .int v3), (4, .int v4), (5, .int v5)]) dX10_times_75 rfl (by decide) rfl ?_
      refine zr_iconst (q := 78) (v := 1) dX10_times_77 rfl (by decide) ?_
      refine zr_istore (q := 80) (L' := [(11, .int (1 : Int32)), (9, .long v9_21), (7, .long v7_14), (6, .int v6_7), (0, .ref v0), (1, .int v1), (2, .int v2), (3, .int v3), (4, .int v4), (5, .int v5)]) dX10_times_78 rfl (by decide) rfl ?_
      refine zr_lconst (q := 81) (v := 0) dX10_times_80 rfl (by decide) ?_
      refine zr_lstore (q := 83) (L' := [(12, .long (0 : Int64)), (11, .int (1 : Int32)), (9, .long v9_21), (7, .long v7_14), (6, .int v6_7), (0, .ref v0), (1, .int v1), (2, .int v2), (3, .int v3), (4, .int v4), (5, .int v5)]) dX10_times_81 rfl (by decide) rfl ?_
      refine zr_lconst (q := 84) (v := 0) dX10_times_83 rfl (by decide) ?_
      refine zr_lstore (q := 86) (L' := [(14, .long (0 : Int64)), (12, .long (0 : Int64)), (11, .int (1 : Int32)), (9, .long v9_21), (7, .long v7_14), (6, .int v6_7), (0, .ref v0), (1, .int v1), (2, .int v2), (3, .int v3), (4, .int v4), (5, .int v5)]) dX10_times_84 rfl (by decide) rfl ?_
      refine zr_iconst (q := 87) (v := 0) dX10_times_86 rfl (by decide) ?_
      refine zr_istore (q := 89) (L' := [(16, .int (0 : Int32)), (14, .long (0 : Int64)), (12, .long (0 : Int64)), (11, .int (1 : Int32)), (9, .long v9_21), (7, .long v7_14), (6, .int v6_7), (0, .ref v0), (1, .int v1), (2, .int v2), (3, .int v3), (4, .int v4), (5, .int v5)]) dX10_times_87 rfl (by decide) rfl ?_
      exact zr_pick [7, 8, 9, 10, 12, 6, 5, 4, 3, 2, 1, 0] rfl (tX10_times_89 n M v0 v1 v2 v3 v5 v6_7 v7_14 v9_21 (1 : Int32) (0 : Int64) (0 : Int64) (0 : Int32) _ _ h)
    · replace h := ite_f c_1 h
      refine zr_aload_n (q := 25) dX10_times_24 rfl rfl 0 rfl ?_
      obtain ⟨c_23, h⟩ := chk_some h
      obtain ⟨a_24, e_25, h⟩ := bnd_some h
      refine zr_getr (q := 28) (ci := 10) (k := 27) dX10_times_25 rfl (eq_of_beq c_23) rfl (by decide) rfl zbX10 (by decide) zb_444 rfl e_25 ?_
      refine zr_iload (q := 30) dX10_times_28 rfl 6 rfl ?_
      refine zr_aload_n (q := 31) dX10_times_30 rfl rfl 0 rfl ?_
      obtain ⟨c_26, h⟩ := chk_some h
      obtain ⟨a_27, e_28, h⟩ := bnd_some h
      refine zr_getr (q := 34) (ci := 10) (k := 11) dX10_times_31 rfl (eq_of_beq c_26) rfl (by decide) rfl zbX10 (by decide) zb_407 rfl e_28 ?_
      refine zr_bipush (q := 36) (v := 120) dX10_times_34 rfl (by decide) ?_
      refine zr_iload (q := 38) dX10_times_36 rfl 5 rfl ?_
      refine zr_iadd (q := 39) dX10_times_38 rfl ?_
      refine zr_iload (q := 41) dX10_times_39 rfl 6 rfl ?_
      refine zr_iadd (q := 42) dX10_times_41 rfl ?_
      obtain ⟨c_29, h⟩ := chk_some h
      obtain ⟨c_30, h⟩ := chk_some h
      refine zr_lald (q := 43) dX10_times_42 rfl (eq_of_beq c_29) c_30 ?_
      obtain ⟨c_31, h⟩ := chk_some h
      obtain ⟨c_32, h⟩ := chk_some h
      obtain ⟨M_33, e_34, h⟩ := app_some h
      refine zr_last (q := 44) dX10_times_43 rfl (eq_of_beq c_31) c_32 ?_
      refine zr_mem e_34 ?_
      obtain ⟨v6_35, e_36, h⟩ := app_some h
      refine zr_iinc (q := 47) (v := v6_35) (L' := [(6, .int v6_35), (0, .ref v0), (1, .int v1), (2, .int v2), (3, .int v3), (4, .int v4), (5, .int v5)]) dX10_times_44 rfl 6 rfl (by rw [← e_36]; rfl) (by decide) rfl ?_
      refine zr_goto (q := 18) dX10_times_47 (by decide) ?_
      exact zr_pick [1, 2, 3, 4, 5, 6, 0] rfl (ih M_33 v0 v1 v2 v3 v4 v5 v6_35 _ _ h)
def fX10_times (n : Nat) (M : zM) (v0 : Nat) (v1 : Int32) (v2 : Int32) (v3 : Int32) : Option (Unit × zM) :=
  chk (mK M v0 == 10) <|
  app (mI M v0 13) fun v4_2 : Int32 =>
  chk (mK M v0 == 10) <|
  bnd (mR M v0 19) fun a_5 =>
  chk (mK M a_5 == 11) <|
  chk (zin v4_2 (mN M a_5)) <|
  app (mI M a_5 (Int32.toNatClampNeg v4_2)) fun v5_9 : Int32 =>
  fX10_times_18 n M v0 v1 v2 v3 v4_2 v5_9 (0 : Int32)
set_option maxHeartbeats 4000000 in
theorem tX10_times (n : Nat) (M : zM) (v0 : Nat) (v1 : Int32) (v2 : Int32) (v3 : Int32) (r : Unit) (M' : zM) (h : fX10_times n M v0 v1 v2 v3 = some (r, M')) : zMet uX10_times false M [.ref v0, .int v1, .int v2, .int v3] (zE (oV r) M') := by
  refine zMet_of (L := [(0, .ref v0), (1, .int v1), (2, .int v2), (3, .int v3)]) (by decide +kernel) rfl rfl (Nat.le_of_ble_eq_true rfl) ?_
  show zW uX10_times none (0, 0) M 0 [(0, .ref v0), (1, .int v1), (2, .int v2), (3, .int v3)] [] (zE (oV r) M')
  unfold fX10_times at h
  refine zr_aload_n (q := 1) dX10_times_0 rfl rfl 0 rfl ?_
  obtain ⟨c_1, h⟩ := chk_some h
  refine zr_get (q := 4) (ci := 10) (k := 13) dX10_times_1 rfl (eq_of_beq c_1) rfl (by decide) rfl zbX10 (by decide) zb_391 rfl ?_
  obtain ⟨v4_2, e_3, h⟩ := app_some h
  refine zr_nmI e_3 ?_
  refine zr_istore (q := 6) (L' := [(4, .int v4_2), (0, .ref v0), (1, .int v1), (2, .int v2), (3, .int v3)]) dX10_times_4 rfl (by decide) rfl ?_
  refine zr_aload_n (q := 7) dX10_times_6 rfl rfl 1 rfl ?_
  obtain ⟨c_4, h⟩ := chk_some h
  obtain ⟨a_5, e_6, h⟩ := bnd_some h
  refine zr_getr (q := 10) (ci := 10) (k := 19) dX10_times_7 rfl (eq_of_beq c_4) rfl (by decide) rfl zbX10 (by decide) zb_419 rfl e_6 ?_
  refine zr_iload (q := 12) dX10_times_10 rfl 0 rfl ?_
  obtain ⟨c_7, h⟩ := chk_some h
  obtain ⟨c_8, h⟩ := chk_some h
  refine zr_iald (q := 13) dX10_times_12 rfl (eq_of_beq c_7) c_8 ?_
  obtain ⟨v5_9, e_10, h⟩ := app_some h
  refine zr_nmI e_10 ?_
  refine zr_istore (q := 15) (L' := [(5, .int v5_9), (4, .int v4_2), (0, .ref v0), (1, .int v1), (2, .int v2), (3, .int v3)]) dX10_times_13 rfl (by decide) rfl ?_
  refine zr_iconst (q := 16) (v := 0) dX10_times_15 rfl (by decide) ?_
  refine zr_istore (q := 18) (L' := [(6, .int (0 : Int32)), (5, .int v5_9), (4, .int v4_2), (0, .ref v0), (1, .int v1), (2, .int v2), (3, .int v3)]) dX10_times_16 rfl (by decide) rfl ?_
  exact zr_pick [3, 4, 5, 6, 2, 1, 0] rfl (tX10_times_18 n M v0 v1 v2 v3 v4_2 v5_9 (0 : Int32) _ _ h)

def uX10_readTimes : zMu := (yX10_readTimes, cX10_readTimes, 5, none, { frames := 3, cells := 0, slots := 0, locals := 85 }, [])
theorem zd_X10_readTimes : (uY uX10_readTimes).cls ≠ "java/lang/invoke/MethodHandle" ∧ (uY uX10_readTimes).cls ≠ "java/lang/invoke/VarHandle" ∧ (parseMethodDescriptor (uY uX10_readTimes).desc).map (fun d => d.parameters.length) = some 0 := by decide +kernel
def fX10_readTimes_147 (n : Nat) (M : zM) (v0 : Nat) (v2 : Int32) (v3 : Int32) (v4 : Int32) : Option (Unit × zM) :=
  chk (mK M v0 == 10) <|
  if (mI M v0 29) = (0 : Int32) then
    chk (mK M v0 == 10) <|
    bnd2 (fX10_times n M v0 v2 v3 v4) fun r_3 M_4 =>
    some ((), M_4)
  else
  some ((), M)
set_option maxHeartbeats 4000000 in
theorem tX10_readTimes_147 (n : Nat) (M : zM) (v0 : Nat) (v2 : Int32) (v3 : Int32) (v4 : Int32) (r : Unit) (M' : zM) (h : fX10_readTimes_147 n M v0 v2 v3 v4 = some (r, M')) : zW uX10_readTimes none (0, 0) M 147 [(0, .ref v0), (2, .int v2), (3, .int v3), (4, .int v4)] [] (zE (oV r) M') := by
  unfold fX10_readTimes_147 at h
  refine zr_aload_n (q := 148) dX10_readTimes_147 rfl rfl 0 rfl ?_
  obtain ⟨c_1, h⟩ := chk_some h
  refine zr_get (q := 151) (ci := 10) (k := 29) dX10_readTimes_148 rfl (eq_of_beq c_1) rfl (by decide) rfl zbX10 (by decide) zb_382 rfl ?_
  refine zr_if_ne (q := 154) (tgt := 162) dX10_readTimes_151 rfl (by decide) (fun c_2 => ?_) (fun c_2 => ?_)
  · replace h := ite_f c_2 h
    cases h
    exact zr_return dX10_readTimes_162 rfl ⟨by decide, by decide⟩ ⟨rfl, rfl⟩
  · replace h := ite_t c_2 h
    refine zr_aload_n (q := 155) dX10_readTimes_154 rfl rfl 0 rfl ?_
    refine zr_iload_n (q := 156) dX10_readTimes_155 rfl rfl 1 rfl ?_
    refine zr_iload_n (q := 157) dX10_readTimes_156 rfl rfl 2 rfl ?_
    refine zr_iload (q := 159) dX10_readTimes_157 rfl 3 rfl ?_
    obtain ⟨c_6, h⟩ := chk_some h
    obtain ⟨r_3, M_4, hc_5, h⟩ := bnd2_some h
    refine zr_callVV (μ' := uX10_times) (q := 162) (n := 3) (ci := 10) (As := [.int v2, .int v3, .int v4]) (u' := (0, 0)) (tX10_times n M v0 v2 v3 v4 _ _ hc_5) dX10_readTimes_159 rfl rfl ⟨zb_445, zb_446, zb_447, zb_448, zb_389⟩ zd_X10_times ⟨by decide, by decide⟩ ⟨by decide, by decide⟩ (eq_of_beq c_6) (by decide) rfl rfl rfl (Nat.le_of_ble_eq_true rfl) rfl rfl ?_
    cases h
    exact zr_return dX10_readTimes_162 rfl ⟨by decide, by decide⟩ ⟨rfl, rfl⟩
def fX10_readTimes_102 (n : Nat) (M : zM) (v0 : Nat) (v1 : Int32) (v2 : Int32) (v3 : Int32) : Option (Unit × zM) :=
  chk (mK M v0 == 10) <|
  chk (mK M v0 == 10) <|
  bnd (mR M v0 19) fun a_3 =>
  chk (mK M v0 == 10) <|
  chk (mK M a_3 == 11) <|
  chk (zin (mI M v0 13) (mN M a_3)) <|
  app ((mI M v0 14) - (mI M a_3 (Int32.toNatClampNeg (mI M v0 13)))) fun v4_8 : Int32 =>
  chk (mK M v0 == 10) <|
  if (mI M v0 29) = (0 : Int32) then
    chk (mK M v0 == 10) <|
    if ((mI M v0 14) + ((v3 - (1 : Int32)) * v4_8)) ≤ (60 : Int32) then
      fX10_readTimes_147 n M v0 v2 v3 v4_8
    else
    chk (mK M v0 == 10) <|
    bnd2 (fX10_fail n M v0 (4 : Int32) v1) fun r_14 M_15 =>
    fX10_readTimes_147 n M_15 v0 v2 v3 v4_8
  else
  fX10_readTimes_147 n M v0 v2 v3 v4_8
set_option maxHeartbeats 4000000 in
theorem tX10_readTimes_102 (n : Nat) (M : zM) (v0 : Nat) (v1 : Int32) (v2 : Int32) (v3 : Int32) (r : Unit) (M' : zM) (h : fX10_readTimes_102 n M v0 v1 v2 v3 = some (r, M')) : zW uX10_readTimes none (0, 0) M 102 [(0, .ref v0), (1, .int v1), (2, .int v2), (3, .int v3)] [] (zE (oV r) M') := by
  unfold fX10_readTimes_102 at h
  refine zr_aload_n (q := 103) dX10_readTimes_102 rfl rfl 0 rfl ?_
  obtain ⟨c_1, h⟩ := chk_some h
  refine zr_get (q := 106) (ci := 10) (k := 14) dX10_readTimes_103 rfl (eq_of_beq c_1) rfl (by decide) rfl zbX10 (by decide) zb_399 rfl ?_
  refine zr_aload_n (q := 107) dX10_readTimes_106 rfl rfl 0 rfl ?_
  obtain ⟨c_2, h⟩ := chk_some h
  obtain ⟨a_3, e_4, h⟩ := bnd_some h
  refine zr_getr (q := 110) (ci := 10) (k := 19) dX10_readTimes_107 rfl (eq_of_beq c_2) rfl (by decide) rfl zbX10 (by decide) zb_419 rfl e_4 ?_
  refine zr_aload_n (q := 111) dX10_readTimes_110 rfl rfl 0 rfl ?_
  obtain ⟨c_5, h⟩ := chk_some h
  refine zr_get (q := 114) (ci := 10) (k := 13) dX10_readTimes_111 rfl (eq_of_beq c_5) rfl (by decide) rfl zbX10 (by decide) zb_391 rfl ?_
  obtain ⟨c_6, h⟩ := chk_some h
  obtain ⟨c_7, h⟩ := chk_some h
  refine zr_iald (q := 115) dX10_readTimes_114 rfl (eq_of_beq c_6) c_7 ?_
  refine zr_isub (q := 116) dX10_readTimes_115 rfl ?_
  obtain ⟨v4_8, e_9, h⟩ := app_some h
  refine zr_nmI e_9 ?_
  refine zr_istore (q := 118) (L' := [(4, .int v4_8), (0, .ref v0), (1, .int v1), (2, .int v2), (3, .int v3)]) dX10_readTimes_116 rfl (by decide) rfl ?_
  refine zr_aload_n (q := 119) dX10_readTimes_118 rfl rfl 1 rfl ?_
  obtain ⟨c_10, h⟩ := chk_some h
  refine zr_get (q := 122) (ci := 10) (k := 29) dX10_readTimes_119 rfl (eq_of_beq c_10) rfl (by decide) rfl zbX10 (by decide) zb_382 rfl ?_
  refine zr_if_ne (q := 125) (tgt := 147) dX10_readTimes_122 rfl (by decide) (fun c_11 => ?_) (fun c_11 => ?_)
  · replace h := ite_f c_11 h
    exact zr_pick [1, 3, 4, 0] rfl (tX10_readTimes_147 n M v0 v2 v3 v4_8 _ _ h)
  · replace h := ite_t c_11 h
    refine zr_aload_n (q := 126) dX10_readTimes_125 rfl rfl 1 rfl ?_
    obtain ⟨c_12, h⟩ := chk_some h
    refine zr_get (q := 129) (ci := 10) (k := 14) dX10_readTimes_126 rfl (eq_of_beq c_12) rfl (by decide) rfl zbX10 (by decide) zb_399 rfl ?_
    refine zr_iload_n (q := 130) dX10_readTimes_129 rfl rfl 4 rfl ?_
    refine zr_iconst (q := 131) (v := 1) dX10_readTimes_130 rfl (by decide) ?_
    refine zr_isub (q := 132) dX10_readTimes_131 rfl ?_
    refine zr_iload (q := 134) dX10_readTimes_132 rfl 0 rfl ?_
    refine zr_imul (q := 135) dX10_readTimes_134 rfl ?_
    refine zr_iadd (q := 136) dX10_readTimes_135 rfl ?_
    refine zr_bipush (q := 138) (v := 60) dX10_readTimes_136 rfl (by decide) ?_
    refine zr_icmp_le (q := 141) (tgt := 147) dX10_readTimes_138 rfl (by decide) (fun c_13 => ?_) (fun c_13 => ?_)
    · replace h := ite_t c_13 h
      exact zr_pick [1, 3, 4, 0] rfl (tX10_readTimes_147 n M v0 v2 v3 v4_8 _ _ h)
    · replace h := ite_f c_13 h
      refine zr_aload_n (q := 142) dX10_readTimes_141 rfl rfl 1 rfl ?_
      refine zr_iconst (q := 143) (v := 4) dX10_readTimes_142 rfl (by decide) ?_
      refine zr_iload_n (q := 144) dX10_readTimes_143 rfl rfl 2 rfl ?_
      obtain ⟨c_17, h⟩ := chk_some h
      obtain ⟨r_14, M_15, hc_16, h⟩ := bnd2_some h
      refine zr_callVV (μ' := uX10_fail) (q := 147) (n := 2) (ci := 10) (As := [.int (4 : Int32), .int v1]) (u' := (0, 0)) (tX10_fail n M v0 (4 : Int32) v1 _ _ hc_16) dX10_readTimes_144 rfl rfl ⟨zb_385, zb_386, zb_387, zb_388, zb_389⟩ zd_X10_fail ⟨by decide, by decide⟩ ⟨by decide, by decide⟩ (eq_of_beq c_17) (by decide) rfl rfl rfl (Nat.le_of_ble_eq_true rfl) rfl rfl ?_
      exact zr_pick [1, 3, 4, 0] rfl (tX10_readTimes_147 n M_15 v0 v2 v3 v4_8 _ _ h)
def fX10_readTimes_96 (n : Nat) (M : zM) (v0 : Nat) (v1 : Int32) (v2 : Int32) (v3 : Int32) : Option (Unit × zM) :=
  chk (mK M v0 == 10) <|
  bnd2 (fX10_fail n M v0 (3 : Int32) v1) fun r_1 M_2 =>
  fX10_readTimes_102 n M_2 v0 v1 v2 v3
set_option maxHeartbeats 4000000 in
theorem tX10_readTimes_96 (n : Nat) (M : zM) (v0 : Nat) (v1 : Int32) (v2 : Int32) (v3 : Int32) (r : Unit) (M' : zM) (h : fX10_readTimes_96 n M v0 v1 v2 v3 = some (r, M')) : zW uX10_readTimes none (0, 0) M 96 [(0, .ref v0), (1, .int v1), (2, .int v2), (3, .int v3)] [] (zE (oV r) M') := by
  unfold fX10_readTimes_96 at h
  refine zr_aload_n (q := 97) dX10_readTimes_96 rfl rfl 0 rfl ?_
  refine zr_iconst (q := 98) (v := 3) dX10_readTimes_97 rfl (by decide) ?_
  refine zr_iload_n (q := 99) dX10_readTimes_98 rfl rfl 1 rfl ?_
  obtain ⟨c_4, h⟩ := chk_some h
  obtain ⟨r_1, M_2, hc_3, h⟩ := bnd2_some h
  refine zr_callVV (μ' := uX10_fail) (q := 102) (n := 2) (ci := 10) (As := [.int (3 : Int32), .int v1]) (u' := (0, 0)) (tX10_fail n M v0 (3 : Int32) v1 _ _ hc_3) dX10_readTimes_99 rfl rfl ⟨zb_385, zb_386, zb_387, zb_388, zb_389⟩ zd_X10_fail ⟨by decide, by decide⟩ ⟨by decide, by decide⟩ (eq_of_beq c_4) (by decide) rfl rfl rfl (Nat.le_of_ble_eq_true rfl) rfl rfl ?_
  exact zr_pick [0, 1, 2, 3] rfl (tX10_readTimes_102 n M_2 v0 v1 v2 v3 _ _ h)
def fX10_readTimes_65 (n : Nat) (M : zM) (v0 : Nat) (v1 : Int32) (v2 : Int32) (v3 : Int32) : Option (Unit × zM) :=
  chk (mK M v0 == 10) <|
  chk (mK M v0 == 10) <|
  app (wI M v0 28 ((mI M v0 28) + (1 : Int32))) fun M_3 : zM =>
  chk (mK M_3 v0 == 10) <|
  if (mI M_3 v0 29) = (0 : Int32) then
    if v3 < v2 then
      fX10_readTimes_96 n M_3 v0 v1 v2 v3
    else
    if (5 : Int32) < v3 then
      fX10_readTimes_96 n M_3 v0 v1 v2 v3
    else
    if v3 = (0 : Int32) then
      fX10_readTimes_96 n M_3 v0 v1 v2 v3
    else
    fX10_readTimes_102 n M_3 v0 v1 v2 v3
  else
  fX10_readTimes_102 n M_3 v0 v1 v2 v3
set_option maxHeartbeats 4000000 in
theorem tX10_readTimes_65 (n : Nat) (M : zM) (v0 : Nat) (v1 : Int32) (v2 : Int32) (v3 : Int32) (r : Unit) (M' : zM) (h : fX10_readTimes_65 n M v0 v1 v2 v3 = some (r, M')) : zW uX10_readTimes none (0, 0) M 65 [(0, .ref v0), (1, .int v1), (2, .int v2), (3, .int v3)] [] (zE (oV r) M') := by
  unfold fX10_readTimes_65 at h
  refine zr_aload_n (q := 66) dX10_readTimes_65 rfl rfl 0 rfl ?_
  refine zr_dup (q := 67) dX10_readTimes_66 rfl rfl ?_
  obtain ⟨c_1, h⟩ := chk_some h
  refine zr_get (q := 70) (ci := 10) (k := 28) dX10_readTimes_67 rfl (eq_of_beq c_1) rfl (by decide) rfl zbX10 (by decide) zb_384 rfl ?_
  refine zr_iconst (q := 71) (v := 1) dX10_readTimes_70 rfl (by decide) ?_
  refine zr_iadd (q := 72) dX10_readTimes_71 rfl ?_
  obtain ⟨c_2, h⟩ := chk_some h
  obtain ⟨M_3, e_4, h⟩ := app_some h
  refine zr_putI (q := 75) (ci := 10) (k := 28) dX10_readTimes_72 rfl (eq_of_beq c_2) rfl (by decide) rfl zbX10 tyX10_ok nmX10 (by decide) zb_384 (Or.inl rfl) rfl ?_
  refine zr_mem e_4 ?_
  refine zr_aload_n (q := 76) dX10_readTimes_75 rfl rfl 0 rfl ?_
  obtain ⟨c_5, h⟩ := chk_some h
  refine zr_get (q := 79) (ci := 10) (k := 29) dX10_readTimes_76 rfl (eq_of_beq c_5) rfl (by decide) rfl zbX10 (by decide) zb_382 rfl ?_
  refine zr_if_ne (q := 82) (tgt := 102) dX10_readTimes_79 rfl (by decide) (fun c_6 => ?_) (fun c_6 => ?_)
  · replace h := ite_f c_6 h
    exact zr_pick [0, 1, 2, 3] rfl (tX10_readTimes_102 n M_3 v0 v1 v2 v3 _ _ h)
  · replace h := ite_t c_6 h
    refine zr_iload_n (q := 83) dX10_readTimes_82 rfl rfl 2 rfl ?_
    refine zr_iload_n (q := 84) dX10_readTimes_83 rfl rfl 3 rfl ?_
    refine zr_icmp_gt (q := 87) (tgt := 96) dX10_readTimes_84 rfl (by decide) (fun c_7 => ?_) (fun c_7 => ?_)
    · replace h := ite_t c_7 h
      exact zr_pick [0, 1, 2, 3] rfl (tX10_readTimes_96 n M_3 v0 v1 v2 v3 _ _ h)
    · replace h := ite_f c_7 h
      refine zr_iload_n (q := 88) dX10_readTimes_87 rfl rfl 3 rfl ?_
      refine zr_iconst (q := 89) (v := 5) dX10_readTimes_88 rfl (by decide) ?_
      refine zr_icmp_gt (q := 92) (tgt := 96) dX10_readTimes_89 rfl (by decide) (fun c_8 => ?_) (fun c_8 => ?_)
      · replace h := ite_t c_8 h
        exact zr_pick [0, 1, 2, 3] rfl (tX10_readTimes_96 n M_3 v0 v1 v2 v3 _ _ h)
      · replace h := ite_f c_8 h
        refine zr_iload_n (q := 93) dX10_readTimes_92 rfl rfl 3 rfl ?_
        refine zr_if_ne (q := 96) (tgt := 102) dX10_readTimes_93 rfl (by decide) (fun c_9 => ?_) (fun c_9 => ?_)
        · replace h := ite_f c_9 h
          exact zr_pick [0, 1, 2, 3] rfl (tX10_readTimes_102 n M_3 v0 v1 v2 v3 _ _ h)
        · replace h := ite_t c_9 h
          exact zr_pick [0, 1, 2, 3] rfl (tX10_readTimes_96 n M_3 v0 v1 v2 v3 _ _ h)
def fX10_readTimes_45 (n : Nat) (M : zM) (v0 : Nat) (v1 : Int32) (v2 : Int32) (v3 : Int32) : Option (Unit × zM) :=
  chk (mK M v0 == 10) <|
  if (mI M v0 29) = (0 : Int32) then
    chk (mK M v0 == 10) <|
    bnd2 (fX10_here n M v0) fun r_3 M_4 =>
    if r_3 = (125 : Int32) then
      fX10_readTimes_65 n M_4 v0 v1 v2 v3
    else
    chk (mK M_4 v0 == 10) <|
    bnd2 (fX10_failHere n M_4 v0) fun r_8 M_9 =>
    fX10_readTimes_65 n M_9 v0 v1 v2 v3
  else
  fX10_readTimes_65 n M v0 v1 v2 v3
set_option maxHeartbeats 4000000 in
theorem tX10_readTimes_45 (n : Nat) (M : zM) (v0 : Nat) (v1 : Int32) (v2 : Int32) (v3 : Int32) (r : Unit) (M' : zM) (h : fX10_readTimes_45 n M v0 v1 v2 v3 = some (r, M')) : zW uX10_readTimes none (0, 0) M 45 [(0, .ref v0), (1, .int v1), (2, .int v2), (3, .int v3)] [] (zE (oV r) M') := by
  unfold fX10_readTimes_45 at h
  refine zr_aload_n (q := 46) dX10_readTimes_45 rfl rfl 0 rfl ?_
  obtain ⟨c_1, h⟩ := chk_some h
  refine zr_get (q := 49) (ci := 10) (k := 29) dX10_readTimes_46 rfl (eq_of_beq c_1) rfl (by decide) rfl zbX10 (by decide) zb_382 rfl ?_
  refine zr_if_ne (q := 52) (tgt := 65) dX10_readTimes_49 rfl (by decide) (fun c_2 => ?_) (fun c_2 => ?_)
  · replace h := ite_f c_2 h
    exact zr_pick [0, 1, 2, 3] rfl (tX10_readTimes_65 n M v0 v1 v2 v3 _ _ h)
  · replace h := ite_t c_2 h
    refine zr_aload_n (q := 53) dX10_readTimes_52 rfl rfl 0 rfl ?_
    obtain ⟨c_6, h⟩ := chk_some h
    obtain ⟨r_3, M_4, hc_5, h⟩ := bnd2_some h
    refine zr_callVI (μ' := uX10_here) (q := 56) (n := 0) (ci := 10) (As := []) (u' := (0, 0)) (tX10_here n M v0 _ _ hc_5) dX10_readTimes_53 rfl rfl ⟨zb_437, zb_438, zb_439, zb_440, zb_389⟩ zd_X10_here ⟨by decide, by decide⟩ ⟨by decide, by decide⟩ (eq_of_beq c_6) (by decide) rfl rfl rfl (Nat.le_of_ble_eq_true rfl) rfl rfl ?_
    refine zr_bipush (q := 58) (v := 125) dX10_readTimes_56 rfl (by decide) ?_
    refine zr_icmp_eq (q := 61) (tgt := 65) dX10_readTimes_58 rfl (by decide) (fun c_7 => ?_) (fun c_7 => ?_)
    · replace h := ite_t c_7 h
      exact zr_pick [0, 1, 2, 3] rfl (tX10_readTimes_65 n M_4 v0 v1 v2 v3 _ _ h)
    · replace h := ite_f c_7 h
      refine zr_aload_n (q := 62) dX10_readTimes_61 rfl rfl 0 rfl ?_
      obtain ⟨c_11, h⟩ := chk_some h
      obtain ⟨r_8, M_9, hc_10, h⟩ := bnd2_some h
      refine zr_callVV (μ' := uX10_failHere) (q := 65) (n := 0) (ci := 10) (As := []) (u' := (0, 0)) (tX10_failHere n M_4 v0 _ _ hc_10) dX10_readTimes_62 rfl rfl ⟨zb_433, zb_434, zb_435, zb_436, zb_389⟩ zd_X10_failHere ⟨by decide, by decide⟩ ⟨by decide, by decide⟩ (eq_of_beq c_11) (by decide) rfl rfl rfl (Nat.le_of_ble_eq_true rfl) rfl rfl ?_
      exact zr_pick [0, 1, 2, 3] rfl (tX10_readTimes_65 n M_9 v0 v1 v2 v3 _ _ h)
def fX10_readTimes (n : Nat) (M : zM) (v0 : Nat) : Option (Unit × zM) :=
  chk (mK M v0 == 10) <|
  app ((mI M v0 28) - (1 : Int32)) fun v1_2 : Int32 =>
  chk (mK M v0 == 10) <|
  bnd2 (fX10_digit n M v0) fun r_4 M_5 =>
  chk (mK M_5 v0 == 10) <|
  if (mI M_5 v0 29) = (0 : Int32) then
    chk (mK M_5 v0 == 10) <|
    bnd2 (fX10_here n M_5 v0) fun r_10 M_11 =>
    if r_10 = (44 : Int32) then
      chk (mK M_11 v0 == 10) <|
      chk (mK M_11 v0 == 10) <|
      app (wI M_11 v0 28 ((mI M_11 v0 28) + (1 : Int32))) fun M_17 : zM =>
      chk (mK M_17 v0 == 10) <|
      bnd2 (fX10_digit n M_17 v0) fun r_19 M_20 =>
      fX10_readTimes_45 n M_20 v0 v1_2 r_4 r_19
    else
    fX10_readTimes_45 n M_11 v0 v1_2 r_4 r_4
  else
  fX10_readTimes_45 n M_5 v0 v1_2 r_4 r_4
set_option maxHeartbeats 4000000 in
theorem tX10_readTimes (n : Nat) (M : zM) (v0 : Nat) (r : Unit) (M' : zM) (h : fX10_readTimes n M v0 = some (r, M')) : zMet uX10_readTimes false M [.ref v0] (zE (oV r) M') := by
  refine zMet_of (L := [(0, .ref v0)]) (by decide +kernel) rfl rfl (Nat.le_of_ble_eq_true rfl) ?_
  show zW uX10_readTimes none (0, 0) M 0 [(0, .ref v0)] [] (zE (oV r) M')
  unfold fX10_readTimes at h
  refine zr_aload_n (q := 1) dX10_readTimes_0 rfl rfl 0 rfl ?_
  obtain ⟨c_1, h⟩ := chk_some h
  refine zr_get (q := 4) (ci := 10) (k := 28) dX10_readTimes_1 rfl (eq_of_beq c_1) rfl (by decide) rfl zbX10 (by decide) zb_384 rfl ?_
  refine zr_iconst (q := 5) (v := 1) dX10_readTimes_4 rfl (by decide) ?_
  refine zr_isub (q := 6) dX10_readTimes_5 rfl ?_
  obtain ⟨v1_2, e_3, h⟩ := app_some h
  refine zr_nmI e_3 ?_
  refine zr_istore_n (q := 7) (L' := [(1, .int v1_2), (0, .ref v0)]) dX10_readTimes_6 rfl rfl (by decide) rfl ?_
  refine zr_aload_n (q := 8) dX10_readTimes_7 rfl rfl 1 rfl ?_
  obtain ⟨c_7, h⟩ := chk_some h
  obtain ⟨r_4, M_5, hc_6, h⟩ := bnd2_some h
  refine zr_callVI (μ' := uX10_digit) (q := 11) (n := 0) (ci := 10) (As := []) (u' := (0, 0)) (tX10_digit n M v0 _ _ hc_6) dX10_readTimes_8 rfl rfl ⟨zb_449, zb_450, zb_451, zb_452, zb_389⟩ zd_X10_digit ⟨by decide, by decide⟩ ⟨by decide, by decide⟩ (eq_of_beq c_7) (by decide) rfl rfl rfl (Nat.le_of_ble_eq_true rfl) rfl rfl ?_
  refine zr_istore_n (q := 12) (L' := [(2, .int r_4), (1, .int v1_2), (0, .ref v0)]) dX10_readTimes_11 rfl rfl (by decide) rfl ?_
  refine zr_iload_n (q := 13) dX10_readTimes_12 rfl rfl 0 rfl ?_
  refine zr_istore_n (q := 14) (L' := [(3, .int r_4), (2, .int r_4), (1, .int v1_2), (0, .ref v0)]) dX10_readTimes_13 rfl rfl (by decide) rfl ?_
  refine zr_aload_n (q := 15) dX10_readTimes_14 rfl rfl 3 rfl ?_
  obtain ⟨c_8, h⟩ := chk_some h
  refine zr_get (q := 18) (ci := 10) (k := 29) dX10_readTimes_15 rfl (eq_of_beq c_8) rfl (by decide) rfl zbX10 (by decide) zb_382 rfl ?_
  refine zr_if_ne (q := 21) (tgt := 45) dX10_readTimes_18 rfl (by decide) (fun c_9 => ?_) (fun c_9 => ?_)
  · replace h := ite_f c_9 h
    exact zr_pick [3, 2, 1, 0] rfl (tX10_readTimes_45 n M_5 v0 v1_2 r_4 r_4 _ _ h)
  · replace h := ite_t c_9 h
    refine zr_aload_n (q := 22) dX10_readTimes_21 rfl rfl 3 rfl ?_
    obtain ⟨c_13, h⟩ := chk_some h
    obtain ⟨r_10, M_11, hc_12, h⟩ := bnd2_some h
    refine zr_callVI (μ' := uX10_here) (q := 25) (n := 0) (ci := 10) (As := []) (u' := (0, 0)) (tX10_here n M_5 v0 _ _ hc_12) dX10_readTimes_22 rfl rfl ⟨zb_437, zb_438, zb_439, zb_440, zb_389⟩ zd_X10_here ⟨by decide, by decide⟩ ⟨by decide, by decide⟩ (eq_of_beq c_13) (by decide) rfl rfl rfl (Nat.le_of_ble_eq_true rfl) rfl rfl ?_
    refine zr_bipush (q := 27) (v := 44) dX10_readTimes_25 rfl (by decide) ?_
    refine zr_icmp_ne (q := 30) (tgt := 45) dX10_readTimes_27 rfl (by decide) (fun c_14 => ?_) (fun c_14 => ?_)
    · replace h := ite_f c_14 h
      exact zr_pick [3, 2, 1, 0] rfl (tX10_readTimes_45 n M_11 v0 v1_2 r_4 r_4 _ _ h)
    · replace h := ite_t c_14 h
      refine zr_aload_n (q := 31) dX10_readTimes_30 rfl rfl 3 rfl ?_
      refine zr_dup (q := 32) dX10_readTimes_31 rfl rfl ?_
      obtain ⟨c_15, h⟩ := chk_some h
      refine zr_get (q := 35) (ci := 10) (k := 28) dX10_readTimes_32 rfl (eq_of_beq c_15) rfl (by decide) rfl zbX10 (by decide) zb_384 rfl ?_
      refine zr_iconst (q := 36) (v := 1) dX10_readTimes_35 rfl (by decide) ?_
      refine zr_iadd (q := 37) dX10_readTimes_36 rfl ?_
      obtain ⟨c_16, h⟩ := chk_some h
      obtain ⟨M_17, e_18, h⟩ := app_some h
      refine zr_putI (q := 40) (ci := 10) (k := 28) dX10_readTimes_37 rfl (eq_of_beq c_16) rfl (by decide) rfl zbX10 tyX10_ok nmX10 (by decide) zb_384 (Or.inl rfl) rfl ?_
      refine zr_mem e_18 ?_
      refine zr_aload_n (q := 41) dX10_readTimes_40 rfl rfl 3 rfl ?_
      obtain ⟨c_22, h⟩ := chk_some h
      obtain ⟨r_19, M_20, hc_21, h⟩ := bnd2_some h
      refine zr_callVI (μ' := uX10_digit) (q := 44) (n := 0) (ci := 10) (As := []) (u' := (0, 0)) (tX10_digit n M_17 v0 _ _ hc_21) dX10_readTimes_41 rfl rfl ⟨zb_449, zb_450, zb_451, zb_452, zb_389⟩ zd_X10_digit ⟨by decide, by decide⟩ ⟨by decide, by decide⟩ (eq_of_beq c_22) (by decide) rfl rfl rfl (Nat.le_of_ble_eq_true rfl) rfl rfl ?_
      refine zr_istore_n (q := 45) (L' := [(3, .int r_19), (2, .int r_4), (1, .int v1_2), (0, .ref v0)]) dX10_readTimes_44 rfl rfl (by decide) rfl ?_
      exact zr_pick [3, 2, 1, 0] rfl (tX10_readTimes_45 n M_20 v0 v1_2 r_4 r_19 _ _ h)

def uX10_suffix : zMu := (yX10_suffix, cX10_suffix, 3, none, { frames := 4, cells := 0, slots := 0, locals := 109 }, [])
theorem zd_X10_suffix : (uY uX10_suffix).cls ≠ "java/lang/invoke/MethodHandle" ∧ (uY uX10_suffix).cls ≠ "java/lang/invoke/VarHandle" ∧ (parseMethodDescriptor (uY uX10_suffix).desc).map (fun d => d.parameters.length) = some 1 := by decide +kernel
def fX10_suffix_88 (n : Nat) (M : zM) (s0 : Nat) (s1 : Int32) (s2 : Int32) : Option (Unit × zM) :=
  chk (mK M s0 == 13) <|
  chk (zin s1 (mN M s0)) <|
  app (wI M s0 (Int32.toNatClampNeg s1) (vp_nar .boolean s2)) fun M_3 : zM =>
  some ((), M_3)
set_option maxHeartbeats 4000000 in
theorem tX10_suffix_88 (n : Nat) (M : zM) (s0 : Nat) (s1 : Int32) (s2 : Int32) (r : Unit) (M' : zM) (h : fX10_suffix_88 n M s0 s1 s2 = some (r, M')) : zW uX10_suffix none (0, 0) M 88 [] [.int s2, .int s1, .ref s0] (zE (oV r) M') := by
  unfold fX10_suffix_88 at h
  obtain ⟨c_1, h⟩ := chk_some h
  obtain ⟨c_2, h⟩ := chk_some h
  obtain ⟨M_3, e_4, h⟩ := app_some h
  refine zr_zast (q := 89) dX10_suffix_88 rfl (eq_of_beq c_1) c_2 ?_
  refine zr_mem e_4 ?_
  cases h
  exact zr_return dX10_suffix_89 rfl ⟨by decide, by decide⟩ ⟨rfl, rfl⟩
def fX10_suffix_83 (n : Nat) (M : zM) (s0 : Nat) (s1 : Int32) : Option (Unit × zM) :=
  fX10_suffix_88 n M s0 s1 (1 : Int32)
set_option maxHeartbeats 4000000 in
theorem tX10_suffix_83 (n : Nat) (M : zM) (s0 : Nat) (s1 : Int32) (r : Unit) (M' : zM) (h : fX10_suffix_83 n M s0 s1 = some (r, M')) : zW uX10_suffix none (0, 0) M 83 [] [.int s1, .ref s0] (zE (oV r) M') := by
  unfold fX10_suffix_83 at h
  refine zr_iconst (q := 84) (v := 1) dX10_suffix_83 rfl (by decide) ?_
  refine zr_goto (q := 88) dX10_suffix_84 (by decide) ?_
  exact zr_pick [] rfl (tX10_suffix_88 n M s0 s1 (1 : Int32) _ _ h)
def fX10_suffix_63 (n : Nat) (M : zM) (v0 : Nat) (v1 : Int32) (v2 : Int32) : Option (Unit × zM) :=
  chk (mK M v0 == 10) <|
  bnd (mR M v0 20) fun a_2 =>
  chk (mK M v0 == 10) <|
  bnd (mR M v0 20) fun a_5 =>
  chk (mK M a_5 == 13) <|
  chk (zin v2 (mN M a_5)) <|
  if (mI M a_5 (Int32.toNatClampNeg v2)) = (0 : Int32) then
    if v1 = (43 : Int32) then
      fX10_suffix_88 n M a_2 v2 (0 : Int32)
    else
    fX10_suffix_83 n M a_2 v2
  else
  fX10_suffix_83 n M a_2 v2
set_option maxHeartbeats 4000000 in
theorem tX10_suffix_63 (n : Nat) (M : zM) (v0 : Nat) (v1 : Int32) (v2 : Int32) (r : Unit) (M' : zM) (h : fX10_suffix_63 n M v0 v1 v2 = some (r, M')) : zW uX10_suffix none (0, 0) M 63 [(0, .ref v0), (1, .int v1), (2, .int v2)] [] (zE (oV r) M') := by
  unfold fX10_suffix_63 at h
  refine zr_aload_n (q := 64) dX10_suffix_63 rfl rfl 0 rfl ?_
  obtain ⟨c_1, h⟩ := chk_some h
  obtain ⟨a_2, e_3, h⟩ := bnd_some h
  refine zr_getr (q := 67) (ci := 10) (k := 20) dX10_suffix_64 rfl (eq_of_beq c_1) rfl (by decide) rfl zbX10 (by decide) zb_408 rfl e_3 ?_
  refine zr_iload_n (q := 68) dX10_suffix_67 rfl rfl 2 rfl ?_
  refine zr_aload_n (q := 69) dX10_suffix_68 rfl rfl 0 rfl ?_
  obtain ⟨c_4, h⟩ := chk_some h
  obtain ⟨a_5, e_6, h⟩ := bnd_some h
  refine zr_getr (q := 72) (ci := 10) (k := 20) dX10_suffix_69 rfl (eq_of_beq c_4) rfl (by decide) rfl zbX10 (by decide) zb_408 rfl e_6 ?_
  refine zr_iload_n (q := 73) dX10_suffix_72 rfl rfl 2 rfl ?_
  obtain ⟨c_7, h⟩ := chk_some h
  obtain ⟨c_8, h⟩ := chk_some h
  refine zr_zald (q := 74) dX10_suffix_73 rfl (eq_of_beq c_7) c_8 ?_
  refine zr_if_ne (q := 77) (tgt := 83) dX10_suffix_74 rfl (by decide) (fun c_9 => ?_) (fun c_9 => ?_)
  · replace h := ite_f c_9 h
    exact zr_pick [] rfl (tX10_suffix_83 n M a_2 v2 _ _ h)
  · replace h := ite_t c_9 h
    refine zr_iload_n (q := 78) dX10_suffix_77 rfl rfl 1 rfl ?_
    refine zr_bipush (q := 80) (v := 43) dX10_suffix_78 rfl (by decide) ?_
    refine zr_icmp_eq (q := 83) (tgt := 87) dX10_suffix_80 rfl (by decide) (fun c_10 => ?_) (fun c_10 => ?_)
    · replace h := ite_t c_10 h
      refine zr_iconst (q := 88) (v := 0) dX10_suffix_87 rfl (by decide) ?_
      exact zr_pick [] rfl (tX10_suffix_88 n M a_2 v2 (0 : Int32) _ _ h)
    · replace h := ite_f c_10 h
      exact zr_pick [] rfl (tX10_suffix_83 n M a_2 v2 _ _ h)
def fX10_suffix (n : Nat) (M : zM) (v0 : Nat) (v1 : Int32) : Option (Unit × zM) :=
  chk (mK M v0 == 10) <|
  app (mI M v0 13) fun v2_2 : Int32 =>
  chk (mK M v0 == 10) <|
  bnd (mR M v0 18) fun a_5 =>
  chk (mK M a_5 == 13) <|
  chk (zin v2_2 (mN M a_5)) <|
  if (mI M a_5 (Int32.toNatClampNeg v2_2)) = (0 : Int32) then
    chk (mK M v0 == 10) <|
    chk (mK M v0 == 10) <|
    bnd2 (fX10_fail n M v0 (1 : Int32) ((mI M v0 28) - (1 : Int32))) fun r_31 M_32 =>
    some ((), M_32)
  else
  if v1 = (123 : Int32) then
    chk (mK M v0 == 10) <|
    bnd2 (fX10_readTimes n M v0) fun r_26 M_27 =>
    some ((), M_27)
  else
  if v1 = (63 : Int32) then
    fX10_suffix_63 n M v0 v1 v2_2
  else
  chk (mK M v0 == 10) <|
  bnd (mR M v0 22) fun a_13 =>
  chk (mK M a_13 == 12) <|
  chk (zin v2_2 (mN M a_13)) <|
  chk (mK M v0 == 10) <|
  bnd (mR M v0 21) fun a_18 =>
  chk (mK M a_18 == 12) <|
  chk (zin v2_2 (mN M a_18)) <|
  chk (mK M v0 == 10) <|
  bnd2 (fX10_link n M v0 (mL M a_13 (Int32.toNatClampNeg v2_2)) (mL M a_18 (Int32.toNatClampNeg v2_2))) fun r_22 M_23 =>
  fX10_suffix_63 n M_23 v0 v1 v2_2
set_option maxHeartbeats 4000000 in
theorem tX10_suffix (n : Nat) (M : zM) (v0 : Nat) (v1 : Int32) (r : Unit) (M' : zM) (h : fX10_suffix n M v0 v1 = some (r, M')) : zMet uX10_suffix false M [.ref v0, .int v1] (zE (oV r) M') := by
  refine zMet_of (L := [(0, .ref v0), (1, .int v1)]) (by decide +kernel) rfl rfl (Nat.le_of_ble_eq_true rfl) ?_
  show zW uX10_suffix none (0, 0) M 0 [(0, .ref v0), (1, .int v1)] [] (zE (oV r) M')
  unfold fX10_suffix at h
  refine zr_aload_n (q := 1) dX10_suffix_0 rfl rfl 0 rfl ?_
  obtain ⟨c_1, h⟩ := chk_some h
  refine zr_get (q := 4) (ci := 10) (k := 13) dX10_suffix_1 rfl (eq_of_beq c_1) rfl (by decide) rfl zbX10 (by decide) zb_391 rfl ?_
  obtain ⟨v2_2, e_3, h⟩ := app_some h
  refine zr_nmI e_3 ?_
  refine zr_istore_n (q := 5) (L' := [(2, .int v2_2), (0, .ref v0), (1, .int v1)]) dX10_suffix_4 rfl rfl (by decide) rfl ?_
  refine zr_aload_n (q := 6) dX10_suffix_5 rfl rfl 1 rfl ?_
  obtain ⟨c_4, h⟩ := chk_some h
  obtain ⟨a_5, e_6, h⟩ := bnd_some h
  refine zr_getr (q := 9) (ci := 10) (k := 18) dX10_suffix_6 rfl (eq_of_beq c_4) rfl (by decide) rfl zbX10 (by decide) zb_394 rfl e_6 ?_
  refine zr_iload_n (q := 10) dX10_suffix_9 rfl rfl 0 rfl ?_
  obtain ⟨c_7, h⟩ := chk_some h
  obtain ⟨c_8, h⟩ := chk_some h
  refine zr_zald (q := 11) dX10_suffix_10 rfl (eq_of_beq c_7) c_8 ?_
  refine zr_if_ne (q := 14) (tgt := 28) dX10_suffix_11 rfl (by decide) (fun c_9 => ?_) (fun c_9 => ?_)
  · replace h := ite_f c_9 h
    refine zr_iload_n (q := 29) dX10_suffix_28 rfl rfl 2 rfl ?_
    refine zr_bipush (q := 31) (v := 123) dX10_suffix_29 rfl (by decide) ?_
    refine zr_icmp_ne (q := 34) (tgt := 41) dX10_suffix_31 rfl (by decide) (fun c_10 => ?_) (fun c_10 => ?_)
    · replace h := ite_f c_10 h
      refine zr_iload_n (q := 42) dX10_suffix_41 rfl rfl 2 rfl ?_
      refine zr_bipush (q := 44) (v := 63) dX10_suffix_42 rfl (by decide) ?_
      refine zr_icmp_eq (q := 47) (tgt := 63) dX10_suffix_44 rfl (by decide) (fun c_11 => ?_) (fun c_11 => ?_)
      · replace h := ite_t c_11 h
        exact zr_pick [1, 2, 0] rfl (tX10_suffix_63 n M v0 v1 v2_2 _ _ h)
      · replace h := ite_f c_11 h
        refine zr_aload_n (q := 48) dX10_suffix_47 rfl rfl 1 rfl ?_
        refine zr_aload_n (q := 49) dX10_suffix_48 rfl rfl 1 rfl ?_
        obtain ⟨c_12, h⟩ := chk_some h
        obtain ⟨a_13, e_14, h⟩ := bnd_some h
        refine zr_getr (q := 52) (ci := 10) (k := 22) dX10_suffix_49 rfl (eq_of_beq c_12) rfl (by decide) rfl zbX10 (by decide) zb_409 rfl e_14 ?_
        refine zr_iload_n (q := 53) dX10_suffix_52 rfl rfl 0 rfl ?_
        obtain ⟨c_15, h⟩ := chk_some h
        obtain ⟨c_16, h⟩ := chk_some h
        refine zr_lald (q := 54) dX10_suffix_53 rfl (eq_of_beq c_15) c_16 ?_
        refine zr_aload_n (q := 55) dX10_suffix_54 rfl rfl 1 rfl ?_
        obtain ⟨c_17, h⟩ := chk_some h
        obtain ⟨a_18, e_19, h⟩ := bnd_some h
        refine zr_getr (q := 58) (ci := 10) (k := 21) dX10_suffix_55 rfl (eq_of_beq c_17) rfl (by decide) rfl zbX10 (by decide) zb_410 rfl e_19 ?_
        refine zr_iload_n (q := 59) dX10_suffix_58 rfl rfl 0 rfl ?_
        obtain ⟨c_20, h⟩ := chk_some h
        obtain ⟨c_21, h⟩ := chk_some h
        refine zr_lald (q := 60) dX10_suffix_59 rfl (eq_of_beq c_20) c_21 ?_
        obtain ⟨c_25, h⟩ := chk_some h
        obtain ⟨r_22, M_23, hc_24, h⟩ := bnd2_some h
        refine zr_callVV (μ' := uX10_link) (q := 63) (n := 2) (ci := 10) (As := [.long (mL M a_13 (Int32.toNatClampNeg v2_2)), .long (mL M a_18 (Int32.toNatClampNeg v2_2))]) (u' := (0, 0)) (tX10_link n M v0 (mL M a_13 (Int32.toNatClampNeg v2_2)) (mL M a_18 (Int32.toNatClampNeg v2_2)) _ _ hc_24) dX10_suffix_60 rfl rfl ⟨zb_411, zb_412, zb_413, zb_414, zb_389⟩ zd_X10_link ⟨by decide, by decide⟩ ⟨by decide, by decide⟩ (eq_of_beq c_25) (by decide) rfl rfl rfl (Nat.le_of_ble_eq_true rfl) rfl rfl ?_
        exact zr_pick [1, 2, 0] rfl (tX10_suffix_63 n M_23 v0 v1 v2_2 _ _ h)
    · replace h := ite_t c_10 h
      refine zr_aload_n (q := 35) dX10_suffix_34 rfl rfl 1 rfl ?_
      obtain ⟨c_29, h⟩ := chk_some h
      obtain ⟨r_26, M_27, hc_28, h⟩ := bnd2_some h
      refine zr_callVV (μ' := uX10_readTimes) (q := 38) (n := 0) (ci := 10) (As := []) (u' := (0, 0)) (tX10_readTimes n M v0 _ _ hc_28) dX10_suffix_35 rfl rfl ⟨zb_453, zb_454, zb_455, zb_456, zb_389⟩ zd_X10_readTimes ⟨by decide, by decide⟩ ⟨by decide, by decide⟩ (eq_of_beq c_29) (by decide) rfl rfl rfl (Nat.le_of_ble_eq_true rfl) rfl rfl ?_
      refine zr_goto (q := 89) dX10_suffix_38 (by decide) ?_
      cases h
      exact zr_return dX10_suffix_89 rfl ⟨by decide, by decide⟩ ⟨rfl, rfl⟩
  · replace h := ite_t c_9 h
    refine zr_aload_n (q := 15) dX10_suffix_14 rfl rfl 1 rfl ?_
    refine zr_iconst (q := 16) (v := 1) dX10_suffix_15 rfl (by decide) ?_
    refine zr_aload_n (q := 17) dX10_suffix_16 rfl rfl 1 rfl ?_
    obtain ⟨c_30, h⟩ := chk_some h
    refine zr_get (q := 20) (ci := 10) (k := 28) dX10_suffix_17 rfl (eq_of_beq c_30) rfl (by decide) rfl zbX10 (by decide) zb_384 rfl ?_
    refine zr_iconst (q := 21) (v := 1) dX10_suffix_20 rfl (by decide) ?_
    refine zr_isub (q := 22) dX10_suffix_21 rfl ?_
    obtain ⟨c_34, h⟩ := chk_some h
    obtain ⟨r_31, M_32, hc_33, h⟩ := bnd2_some h
    refine zr_callVV (μ' := uX10_fail) (q := 25) (n := 2) (ci := 10) (As := [.int (1 : Int32), .int ((mI M v0 28) - (1 : Int32))]) (u' := (0, 0)) (tX10_fail n M v0 (1 : Int32) ((mI M v0 28) - (1 : Int32)) _ _ hc_33) dX10_suffix_22 rfl rfl ⟨zb_385, zb_386, zb_387, zb_388, zb_389⟩ zd_X10_fail ⟨by decide, by decide⟩ ⟨by decide, by decide⟩ (eq_of_beq c_34) (by decide) rfl rfl rfl (Nat.le_of_ble_eq_true rfl) rfl rfl ?_
    refine zr_goto (q := 89) dX10_suffix_25 (by decide) ?_
    cases h
    exact zr_return dX10_suffix_89 rfl ⟨by decide, by decide⟩ ⟨rfl, rfl⟩

def uX10_close : zMu := (yX10_close, cX10_close, 7, none, { frames := 4, cells := 0, slots := 0, locals := 88 }, [])
theorem zd_X10_close : (uY uX10_close).cls ≠ "java/lang/invoke/MethodHandle" ∧ (uY uX10_close).cls ≠ "java/lang/invoke/VarHandle" ∧ (parseMethodDescriptor (uY uX10_close).desc).map (fun d => d.parameters.length) = some 0 := by decide +kernel
def fX10_close (n : Nat) (M : zM) (v0 : Nat) : Option (Unit × zM) :=
  chk (mK M v0 == 10) <|
  if (mI M v0 13) = (0 : Int32) then
    chk (mK M v0 == 10) <|
    chk (mK M v0 == 10) <|
    bnd2 (fX10_fail n M v0 (1 : Int32) ((mI M v0 28) - (1 : Int32))) fun r_48 M_49 =>
    some ((), M_49)
  else
  chk (mK M v0 == 10) <|
  bnd2 (fX10_endRow n M v0) fun r_3 M_4 =>
  chk (mK M_4 v0 == 10) <|
  bnd (mR M_4 v0 23) fun a_8 =>
  chk (mK M_4 v0 == 10) <|
  chk (mK M_4 a_8 == 13) <|
  chk (zin (mI M_4 v0 13) (mN M_4 a_8)) <|
  app (mI M_4 a_8 (Int32.toNatClampNeg (mI M_4 v0 13))) fun v1_13 : Int32 =>
  chk (mK M_4 v0 == 10) <|
  bnd (mR M_4 v0 24) fun a_16 =>
  chk (mK M_4 v0 == 10) <|
  chk (mK M_4 a_16 == 12) <|
  chk (zin (mI M_4 v0 13) (mN M_4 a_16)) <|
  app (mL M_4 a_16 (Int32.toNatClampNeg (mI M_4 v0 13))) fun v2_21 : Int64 =>
  chk (mK M_4 v0 == 10) <|
  bnd (mR M_4 v0 25) fun a_24 =>
  chk (mK M_4 v0 == 10) <|
  chk (mK M_4 a_24 == 12) <|
  chk (zin (mI M_4 v0 13) (mN M_4 a_24)) <|
  app (mL M_4 a_24 (Int32.toNatClampNeg (mI M_4 v0 13))) fun v4_29 : Int64 =>
  chk (mK M_4 v0 == 10) <|
  bnd (mR M_4 v0 26) fun a_32 =>
  chk (mK M_4 v0 == 10) <|
  chk (mK M_4 a_32 == 11) <|
  chk (zin (mI M_4 v0 13) (mN M_4 a_32)) <|
  app (mI M_4 a_32 (Int32.toNatClampNeg (mI M_4 v0 13))) fun v6_37 : Int32 =>
  chk (mK M_4 v0 == 10) <|
  chk (mK M_4 v0 == 10) <|
  app (wI M_4 v0 13 ((mI M_4 v0 13) - (1 : Int32))) fun M_41 : zM =>
  chk (mK M_41 v0 == 10) <|
  bnd2 (fX10_setPart n M_41 v0 v6_37 v1_13 v2_21 v4_29) fun r_43 M_44 =>
  some ((), M_44)
set_option maxHeartbeats 4000000 in
theorem tX10_close (n : Nat) (M : zM) (v0 : Nat) (r : Unit) (M' : zM) (h : fX10_close n M v0 = some (r, M')) : zMet uX10_close false M [.ref v0] (zE (oV r) M') := by
  refine zMet_of (L := [(0, .ref v0)]) (by decide +kernel) rfl rfl (Nat.le_of_ble_eq_true rfl) ?_
  show zW uX10_close none (0, 0) M 0 [(0, .ref v0)] [] (zE (oV r) M')
  unfold fX10_close at h
  refine zr_aload_n (q := 1) dX10_close_0 rfl rfl 0 rfl ?_
  obtain ⟨c_1, h⟩ := chk_some h
  refine zr_get (q := 4) (ci := 10) (k := 13) dX10_close_1 rfl (eq_of_beq c_1) rfl (by decide) rfl zbX10 (by decide) zb_391 rfl ?_
  refine zr_if_ne (q := 7) (tgt := 19) dX10_close_4 rfl (by decide) (fun c_2 => ?_) (fun c_2 => ?_)
  · replace h := ite_f c_2 h
    refine zr_aload_n (q := 20) dX10_close_19 rfl rfl 0 rfl ?_
    obtain ⟨c_6, h⟩ := chk_some h
    obtain ⟨r_3, M_4, hc_5, h⟩ := bnd2_some h
    refine zr_callVV (μ' := uX10_endRow) (q := 23) (n := 0) (ci := 10) (As := []) (u' := (0, 0)) (tX10_endRow n M v0 _ _ hc_5) dX10_close_20 rfl rfl ⟨zb_457, zb_458, zb_459, zb_460, zb_389⟩ zd_X10_endRow ⟨by decide, by decide⟩ ⟨by decide, by decide⟩ (eq_of_beq c_6) (by decide) rfl rfl rfl (Nat.le_of_ble_eq_true rfl) rfl rfl ?_
    refine zr_aload_n (q := 24) dX10_close_23 rfl rfl 0 rfl ?_
    obtain ⟨c_7, h⟩ := chk_some h
    obtain ⟨a_8, e_9, h⟩ := bnd_some h
    refine zr_getr (q := 27) (ci := 10) (k := 23) dX10_close_24 rfl (eq_of_beq c_7) rfl (by decide) rfl zbX10 (by decide) zb_395 rfl e_9 ?_
    refine zr_aload_n (q := 28) dX10_close_27 rfl rfl 0 rfl ?_
    obtain ⟨c_10, h⟩ := chk_some h
    refine zr_get (q := 31) (ci := 10) (k := 13) dX10_close_28 rfl (eq_of_beq c_10) rfl (by decide) rfl zbX10 (by decide) zb_391 rfl ?_
    obtain ⟨c_11, h⟩ := chk_some h
    obtain ⟨c_12, h⟩ := chk_some h
    refine zr_zald (q := 32) dX10_close_31 rfl (eq_of_beq c_11) c_12 ?_
    obtain ⟨v1_13, e_14, h⟩ := app_some h
    refine zr_nmI e_14 ?_
    refine zr_istore_n (q := 33) (L' := [(1, .int v1_13), (0, .ref v0)]) dX10_close_32 rfl rfl (by decide) rfl ?_
    refine zr_aload_n (q := 34) dX10_close_33 rfl rfl 1 rfl ?_
    obtain ⟨c_15, h⟩ := chk_some h
    obtain ⟨a_16, e_17, h⟩ := bnd_some h
    refine zr_getr (q := 37) (ci := 10) (k := 24) dX10_close_34 rfl (eq_of_beq c_15) rfl (by decide) rfl zbX10 (by decide) zb_396 rfl e_17 ?_
    refine zr_aload_n (q := 38) dX10_close_37 rfl rfl 1 rfl ?_
    obtain ⟨c_18, h⟩ := chk_some h
    refine zr_get (q := 41) (ci := 10) (k := 13) dX10_close_38 rfl (eq_of_beq c_18) rfl (by decide) rfl zbX10 (by decide) zb_391 rfl ?_
    obtain ⟨c_19, h⟩ := chk_some h
    obtain ⟨c_20, h⟩ := chk_some h
    refine zr_lald (q := 42) dX10_close_41 rfl (eq_of_beq c_19) c_20 ?_
    obtain ⟨v2_21, e_22, h⟩ := app_some h
    refine zr_nmL e_22 ?_
    refine zr_lstore_n (q := 43) (L' := [(2, .long v2_21), (1, .int v1_13), (0, .ref v0)]) dX10_close_42 rfl rfl (by decide) rfl ?_
    refine zr_aload_n (q := 44) dX10_close_43 rfl rfl 2 rfl ?_
    obtain ⟨c_23, h⟩ := chk_some h
    obtain ⟨a_24, e_25, h⟩ := bnd_some h
    refine zr_getr (q := 47) (ci := 10) (k := 25) dX10_close_44 rfl (eq_of_beq c_23) rfl (by decide) rfl zbX10 (by decide) zb_397 rfl e_25 ?_
    refine zr_aload_n (q := 48) dX10_close_47 rfl rfl 2 rfl ?_
    obtain ⟨c_26, h⟩ := chk_some h
    refine zr_get (q := 51) (ci := 10) (k := 13) dX10_close_48 rfl (eq_of_beq c_26) rfl (by decide) rfl zbX10 (by decide) zb_391 rfl ?_
    obtain ⟨c_27, h⟩ := chk_some h
    obtain ⟨c_28, h⟩ := chk_some h
    refine zr_lald (q := 52) dX10_close_51 rfl (eq_of_beq c_27) c_28 ?_
    obtain ⟨v4_29, e_30, h⟩ := app_some h
    refine zr_nmL e_30 ?_
    refine zr_lstore (q := 54) (L' := [(4, .long v4_29), (2, .long v2_21), (1, .int v1_13), (0, .ref v0)]) dX10_close_52 rfl (by decide) rfl ?_
    refine zr_aload_n (q := 55) dX10_close_54 rfl rfl 3 rfl ?_
    obtain ⟨c_31, h⟩ := chk_some h
    obtain ⟨a_32, e_33, h⟩ := bnd_some h
    refine zr_getr (q := 58) (ci := 10) (k := 26) dX10_close_55 rfl (eq_of_beq c_31) rfl (by decide) rfl zbX10 (by decide) zb_398 rfl e_33 ?_
    refine zr_aload_n (q := 59) dX10_close_58 rfl rfl 3 rfl ?_
    obtain ⟨c_34, h⟩ := chk_some h
    refine zr_get (q := 62) (ci := 10) (k := 13) dX10_close_59 rfl (eq_of_beq c_34) rfl (by decide) rfl zbX10 (by decide) zb_391 rfl ?_
    obtain ⟨c_35, h⟩ := chk_some h
    obtain ⟨c_36, h⟩ := chk_some h
    refine zr_iald (q := 63) dX10_close_62 rfl (eq_of_beq c_35) c_36 ?_
    obtain ⟨v6_37, e_38, h⟩ := app_some h
    refine zr_nmI e_38 ?_
    refine zr_istore (q := 65) (L' := [(6, .int v6_37), (4, .long v4_29), (2, .long v2_21), (1, .int v1_13), (0, .ref v0)]) dX10_close_63 rfl (by decide) rfl ?_
    refine zr_aload_n (q := 66) dX10_close_65 rfl rfl 4 rfl ?_
    refine zr_dup (q := 67) dX10_close_66 rfl rfl ?_
    obtain ⟨c_39, h⟩ := chk_some h
    refine zr_get (q := 70) (ci := 10) (k := 13) dX10_close_67 rfl (eq_of_beq c_39) rfl (by decide) rfl zbX10 (by decide) zb_391 rfl ?_
    refine zr_iconst (q := 71) (v := 1) dX10_close_70 rfl (by decide) ?_
    refine zr_isub (q := 72) dX10_close_71 rfl ?_
    obtain ⟨c_40, h⟩ := chk_some h
    obtain ⟨M_41, e_42, h⟩ := app_some h
    refine zr_putI (q := 75) (ci := 10) (k := 13) dX10_close_72 rfl (eq_of_beq c_40) rfl (by decide) rfl zbX10 tyX10_ok nmX10 (by decide) zb_391 (Or.inl rfl) rfl ?_
    refine zr_mem e_42 ?_
    refine zr_aload_n (q := 76) dX10_close_75 rfl rfl 4 rfl ?_
    refine zr_iload (q := 78) dX10_close_76 rfl 0 rfl ?_
    refine zr_iload_n (q := 79) dX10_close_78 rfl rfl 3 rfl ?_
    refine zr_lload_n (q := 80) dX10_close_79 rfl rfl 2 rfl ?_
    refine zr_lload (q := 82) dX10_close_80 rfl 1 rfl ?_
    obtain ⟨c_46, h⟩ := chk_some h
    obtain ⟨r_43, M_44, hc_45, h⟩ := bnd2_some h
    refine zr_callVV (μ' := uX10_setPart) (q := 85) (n := 4) (ci := 10) (As := [.int v6_37, .int v1_13, .long v2_21, .long v4_29]) (u' := (0, 0)) (tX10_setPart n M_41 v0 v6_37 v1_13 v2_21 v4_29 _ _ hc_45) dX10_close_82 rfl rfl ⟨zb_421, zb_422, zb_423, zb_424, zb_389⟩ zd_X10_setPart ⟨by decide, by decide⟩ ⟨by decide, by decide⟩ (eq_of_beq c_46) (by decide) rfl rfl rfl (Nat.le_of_ble_eq_true rfl) rfl rfl ?_
    cases h
    exact zr_return dX10_close_85 rfl ⟨by decide, by decide⟩ ⟨rfl, rfl⟩
  · replace h := ite_t c_2 h
    refine zr_aload_n (q := 8) dX10_close_7 rfl rfl 0 rfl ?_
    refine zr_iconst (q := 9) (v := 1) dX10_close_8 rfl (by decide) ?_
    refine zr_aload_n (q := 10) dX10_close_9 rfl rfl 0 rfl ?_
    obtain ⟨c_47, h⟩ := chk_some h
    refine zr_get (q := 13) (ci := 10) (k := 28) dX10_close_10 rfl (eq_of_beq c_47) rfl (by decide) rfl zbX10 (by decide) zb_384 rfl ?_
    refine zr_iconst (q := 14) (v := 1) dX10_close_13 rfl (by decide) ?_
    refine zr_isub (q := 15) dX10_close_14 rfl ?_
    obtain ⟨c_51, h⟩ := chk_some h
    obtain ⟨r_48, M_49, hc_50, h⟩ := bnd2_some h
    refine zr_callVV (μ' := uX10_fail) (q := 18) (n := 2) (ci := 10) (As := [.int (1 : Int32), .int ((mI M v0 28) - (1 : Int32))]) (u' := (0, 0)) (tX10_fail n M v0 (1 : Int32) ((mI M v0 28) - (1 : Int32)) _ _ hc_50) dX10_close_15 rfl rfl ⟨zb_385, zb_386, zb_387, zb_388, zb_389⟩ zd_X10_fail ⟨by decide, by decide⟩ ⟨by decide, by decide⟩ (eq_of_beq c_51) (by decide) rfl rfl rfl (Nat.le_of_ble_eq_true rfl) rfl rfl ?_
    cases h
    exact zr_return dX10_close_18 rfl ⟨by decide, by decide⟩ ⟨rfl, rfl⟩

def uX10_readOne : zMu := (yX10_readOne, cX10_readOne, 2, none, { frames := 5, cells := 0, slots := 0, locals := 131 }, [])
theorem zd_X10_readOne : (uY uX10_readOne).cls ≠ "java/lang/invoke/MethodHandle" ∧ (uY uX10_readOne).cls ≠ "java/lang/invoke/VarHandle" ∧ (parseMethodDescriptor (uY uX10_readOne).desc).map (fun d => d.parameters.length) = some 0 := by decide +kernel
def fX10_readOne_181 (n : Nat) (M : zM) (v0 : Nat) (v1 : Int32) : Option (Unit × zM) :=
  chk (mK M v0 == 10) <|
  bnd2 (fX10_suffix n M v0 v1) fun r_1 M_2 =>
  some ((), M_2)
set_option maxHeartbeats 4000000 in
theorem tX10_readOne_181 (n : Nat) (M : zM) (v0 : Nat) (v1 : Int32) (r : Unit) (M' : zM) (h : fX10_readOne_181 n M v0 v1 = some (r, M')) : zW uX10_readOne none (0, 0) M 181 [(0, .ref v0), (1, .int v1)] [] (zE (oV r) M') := by
  unfold fX10_readOne_181 at h
  refine zr_aload_n (q := 182) dX10_readOne_181 rfl rfl 0 rfl ?_
  refine zr_iload_n (q := 183) dX10_readOne_182 rfl rfl 1 rfl ?_
  obtain ⟨c_4, h⟩ := chk_some h
  obtain ⟨r_1, M_2, hc_3, h⟩ := bnd2_some h
  refine zr_callVV (μ' := uX10_suffix) (q := 186) (n := 1) (ci := 10) (As := [.int v1]) (u' := (0, 0)) (tX10_suffix n M v0 v1 _ _ hc_3) dX10_readOne_183 rfl rfl ⟨zb_461, zb_462, zb_463, zb_464, zb_389⟩ zd_X10_suffix ⟨by decide, by decide⟩ ⟨by decide, by decide⟩ (eq_of_beq c_4) (by decide) rfl rfl rfl (Nat.le_of_ble_eq_true rfl) rfl rfl ?_
  refine zr_goto (q := 200) dX10_readOne_186 (by decide) ?_
  cases h
  exact zr_return dX10_readOne_200 rfl ⟨by decide, by decide⟩ ⟨rfl, rfl⟩
def fX10_readOne (n : Nat) (M : zM) (v0 : Nat) : Option (Unit × zM) :=
  chk (mK M v0 == 10) <|
  bnd2 (fX10_here n M v0) fun r_1 M_2 =>
  chk (mK M_2 v0 == 10) <|
  chk (mK M_2 v0 == 10) <|
  app (wI M_2 v0 28 ((mI M_2 v0 28) + (1 : Int32))) fun M_7 : zM =>
  bnd2 (fX10_letterOf n M_7 r_1) fun r_9 M_10 =>
  if r_9 < (0 : Int32) then
    if r_1 = (46 : Int32) then
      bnd2 (fX10_upTo n M_10 (0 : Int32) (35 : Int32)) fun r_62 M_63 =>
      chk (mK M_63 v0 == 10) <|
      chk (mK M_63 v0 == 10) <|
      bnd2 (fX10_atom n M_63 v0 r_62 ((mI M_63 v0 28) - (1 : Int32))) fun r_66 M_67 =>
      some ((), M_67)
    else
    if r_1 = (91 : Int32) then
      chk (mK M_10 v0 == 10) <|
      bnd2 (fX10_readSet n M_10 v0) fun r_58 M_59 =>
      some ((), M_59)
    else
    if r_1 = (40 : Int32) then
      chk (mK M_10 v0 == 10) <|
      if (mI M_10 v0 13) = (8 : Int32) then
        chk (mK M_10 v0 == 10) <|
        chk (mK M_10 v0 == 10) <|
        bnd2 (fX10_fail n M_10 v0 (5 : Int32) ((mI M_10 v0 28) - (1 : Int32))) fun r_54 M_55 =>
        some ((), M_55)
      else
      chk (mK M_10 v0 == 10) <|
      bnd2 (fX10_joinPart n M_10 v0) fun r_41 M_42 =>
      chk (mK M_42 v0 == 10) <|
      chk (mK M_42 v0 == 10) <|
      app (wI M_42 v0 13 ((mI M_42 v0 13) + (1 : Int32))) fun M_47 : zM =>
      chk (mK M_47 v0 == 10) <|
      bnd2 (fX10_beginChoices n M_47 v0) fun r_49 M_50 =>
      some ((), M_50)
    else
    if r_1 = (41 : Int32) then
      chk (mK M_10 v0 == 10) <|
      bnd2 (fX10_close n M_10 v0) fun r_35 M_36 =>
      some ((), M_36)
    else
    if r_1 = (124 : Int32) then
      chk (mK M_10 v0 == 10) <|
      bnd2 (fX10_endRow n M_10 v0) fun r_27 M_28 =>
      chk (mK M_28 v0 == 10) <|
      bnd2 (fX10_beginRow n M_28 v0) fun r_31 M_32 =>
      some ((), M_32)
    else
    if r_1 = (42 : Int32) then
      fX10_readOne_181 n M_10 v0 r_1
    else
    if r_1 = (43 : Int32) then
      fX10_readOne_181 n M_10 v0 r_1
    else
    if r_1 = (63 : Int32) then
      fX10_readOne_181 n M_10 v0 r_1
    else
    if r_1 = (123 : Int32) then
      fX10_readOne_181 n M_10 v0 r_1
    else
    chk (mK M_10 v0 == 10) <|
    chk (mK M_10 v0 == 10) <|
    bnd2 (fX10_fail n M_10 v0 (1 : Int32) ((mI M_10 v0 28) - (1 : Int32))) fun r_23 M_24 =>
    some ((), M_24)
  else
  bnd2 (fX10_letterOf n M_10 r_1) fun r_70 M_71 =>
  chk (mK M_71 v0 == 10) <|
  chk (mK M_71 v0 == 10) <|
  bnd2 (fX10_atom n M_71 v0 (jshl (1 : Int64) r_70) ((mI M_71 v0 28) - (1 : Int32))) fun r_74 M_75 =>
  some ((), M_75)
set_option maxHeartbeats 4000000 in
theorem tX10_readOne (n : Nat) (M : zM) (v0 : Nat) (r : Unit) (M' : zM) (h : fX10_readOne n M v0 = some (r, M')) : zMet uX10_readOne false M [.ref v0] (zE (oV r) M') := by
  refine zMet_of (L := [(0, .ref v0)]) (by decide +kernel) rfl rfl (Nat.le_of_ble_eq_true rfl) ?_
  show zW uX10_readOne none (0, 0) M 0 [(0, .ref v0)] [] (zE (oV r) M')
  unfold fX10_readOne at h
  refine zr_aload_n (q := 1) dX10_readOne_0 rfl rfl 0 rfl ?_
  obtain ⟨c_4, h⟩ := chk_some h
  obtain ⟨r_1, M_2, hc_3, h⟩ := bnd2_some h
  refine zr_callVI (μ' := uX10_here) (q := 4) (n := 0) (ci := 10) (As := []) (u' := (0, 0)) (tX10_here n M v0 _ _ hc_3) dX10_readOne_1 rfl rfl ⟨zb_437, zb_438, zb_439, zb_440, zb_389⟩ zd_X10_here ⟨by decide, by decide⟩ ⟨by decide, by decide⟩ (eq_of_beq c_4) (by decide) rfl rfl rfl (Nat.le_of_ble_eq_true rfl) rfl rfl ?_
  refine zr_istore_n (q := 5) (L' := [(1, .int r_1), (0, .ref v0)]) dX10_readOne_4 rfl rfl (by decide) rfl ?_
  refine zr_aload_n (q := 6) dX10_readOne_5 rfl rfl 1 rfl ?_
  refine zr_dup (q := 7) dX10_readOne_6 rfl rfl ?_
  obtain ⟨c_5, h⟩ := chk_some h
  refine zr_get (q := 10) (ci := 10) (k := 28) dX10_readOne_7 rfl (eq_of_beq c_5) rfl (by decide) rfl zbX10 (by decide) zb_384 rfl ?_
  refine zr_iconst (q := 11) (v := 1) dX10_readOne_10 rfl (by decide) ?_
  refine zr_iadd (q := 12) dX10_readOne_11 rfl ?_
  obtain ⟨c_6, h⟩ := chk_some h
  obtain ⟨M_7, e_8, h⟩ := app_some h
  refine zr_putI (q := 15) (ci := 10) (k := 28) dX10_readOne_12 rfl (eq_of_beq c_6) rfl (by decide) rfl zbX10 tyX10_ok nmX10 (by decide) zb_384 (Or.inl rfl) rfl ?_
  refine zr_mem e_8 ?_
  refine zr_iload_n (q := 16) dX10_readOne_15 rfl rfl 0 rfl ?_
  obtain ⟨r_9, M_10, hc_11, h⟩ := bnd2_some h
  refine zr_callSI (μ' := uX10_letterOf) (q := 19) (n := 1) (As := [.int r_1]) (u' := (0, 0)) (tX10_letterOf n M_7 r_1 _ _ hc_11) dX10_readOne_16 rfl rfl ⟨zb_441, zb_442, zb_443, zb_389⟩ zd_X10_letterOf ⟨by decide, by decide⟩ ⟨by decide, by decide⟩ rfl rfl (Nat.le_of_ble_eq_true rfl) rfl ?_
  refine zr_if_lt (q := 22) (tgt := 41) dX10_readOne_19 rfl (by decide) (fun c_12 => ?_) (fun c_12 => ?_)
  · replace h := ite_t c_12 h
    refine zr_iload_n (q := 42) dX10_readOne_41 rfl rfl 0 rfl ?_
    refine zr_bipush (q := 44) (v := 46) dX10_readOne_42 rfl (by decide) ?_
    refine zr_icmp_ne (q := 47) (tgt := 66) dX10_readOne_44 rfl (by decide) (fun c_13 => ?_) (fun c_13 => ?_)
    · replace h := ite_f c_13 h
      refine zr_iload_n (q := 67) dX10_readOne_66 rfl rfl 0 rfl ?_
      refine zr_bipush (q := 69) (v := 91) dX10_readOne_67 rfl (by decide) ?_
      refine zr_icmp_ne (q := 72) (tgt := 79) dX10_readOne_69 rfl (by decide) (fun c_14 => ?_) (fun c_14 => ?_)
      · replace h := ite_f c_14 h
        refine zr_iload_n (q := 80) dX10_readOne_79 rfl rfl 0 rfl ?_
        refine zr_bipush (q := 82) (v := 40) dX10_readOne_80 rfl (by decide) ?_
        refine zr_icmp_ne (q := 85) (tgt := 127) dX10_readOne_82 rfl (by decide) (fun c_15 => ?_) (fun c_15 => ?_)
        · replace h := ite_f c_15 h
          refine zr_iload_n (q := 128) dX10_readOne_127 rfl rfl 0 rfl ?_
          refine zr_bipush (q := 130) (v := 41) dX10_readOne_128 rfl (by decide) ?_
          refine zr_icmp_ne (q := 133) (tgt := 140) dX10_readOne_130 rfl (by decide) (fun c_16 => ?_) (fun c_16 => ?_)
          · replace h := ite_f c_16 h
            refine zr_iload_n (q := 141) dX10_readOne_140 rfl rfl 0 rfl ?_
            refine zr_bipush (q := 143) (v := 124) dX10_readOne_141 rfl (by decide) ?_
            refine zr_icmp_ne (q := 146) (tgt := 157) dX10_readOne_143 rfl (by decide) (fun c_17 => ?_) (fun c_17 => ?_)
            · replace h := ite_f c_17 h
              refine zr_iload_n (q := 158) dX10_readOne_157 rfl rfl 0 rfl ?_
              refine zr_bipush (q := 160) (v := 42) dX10_readOne_158 rfl (by decide) ?_
              refine zr_icmp_eq (q := 163) (tgt := 181) dX10_readOne_160 rfl (by decide) (fun c_18 => ?_) (fun c_18 => ?_)
              · replace h := ite_t c_18 h
                exact zr_pick [1, 0] rfl (tX10_readOne_181 n M_10 v0 r_1 _ _ h)
              · replace h := ite_f c_18 h
                refine zr_iload_n (q := 164) dX10_readOne_163 rfl rfl 0 rfl ?_
                refine zr_bipush (q := 166) (v := 43) dX10_readOne_164 rfl (by decide) ?_
                refine zr_icmp_eq (q := 169) (tgt := 181) dX10_readOne_166 rfl (by decide) (fun c_19 => ?_) (fun c_19 => ?_)
                · replace h := ite_t c_19 h
                  exact zr_pick [1, 0] rfl (tX10_readOne_181 n M_10 v0 r_1 _ _ h)
                · replace h := ite_f c_19 h
                  refine zr_iload_n (q := 170) dX10_readOne_169 rfl rfl 0 rfl ?_
                  refine zr_bipush (q := 172) (v := 63) dX10_readOne_170 rfl (by decide) ?_
                  refine zr_icmp_eq (q := 175) (tgt := 181) dX10_readOne_172 rfl (by decide) (fun c_20 => ?_) (fun c_20 => ?_)
                  · replace h := ite_t c_20 h
                    exact zr_pick [1, 0] rfl (tX10_readOne_181 n M_10 v0 r_1 _ _ h)
                  · replace h := ite_f c_20 h
                    refine zr_iload_n (q := 176) dX10_readOne_175 rfl rfl 0 rfl ?_
                    refine zr_bipush (q := 178) (v := 123) dX10_readOne_176 rfl (by decide) ?_
                    refine zr_icmp_ne (q := 181) (tgt := 189) dX10_readOne_178 rfl (by decide) (fun c_21 => ?_) (fun c_21 => ?_)
                    · replace h := ite_f c_21 h
                      refine zr_aload_n (q := 190) dX10_readOne_189 rfl rfl 1 rfl ?_
                      refine zr_iconst (q := 191) (v := 1) dX10_readOne_190 rfl (by decide) ?_
                      refine zr_aload_n (q := 192) dX10_readOne_191 rfl rfl 1 rfl ?_
                      obtain ⟨c_22, h⟩ := chk_some h
                      refine zr_get (q := 195) (ci := 10) (k := 28) dX10_readOne_192 rfl (eq_of_beq c_22) rfl (by decide) rfl zbX10 (by decide) zb_384 rfl ?_
                      refine zr_iconst (q := 196) (v := 1) dX10_readOne_195 rfl (by decide) ?_
                      refine zr_isub (q := 197) dX10_readOne_196 rfl ?_
                      obtain ⟨c_26, h⟩ := chk_some h
                      obtain ⟨r_23, M_24, hc_25, h⟩ := bnd2_some h
                      refine zr_callVV (μ' := uX10_fail) (q := 200) (n := 2) (ci := 10) (As := [.int (1 : Int32), .int ((mI M_10 v0 28) - (1 : Int32))]) (u' := (0, 0)) (tX10_fail n M_10 v0 (1 : Int32) ((mI M_10 v0 28) - (1 : Int32)) _ _ hc_25) dX10_readOne_197 rfl rfl ⟨zb_385, zb_386, zb_387, zb_388, zb_389⟩ zd_X10_fail ⟨by decide, by decide⟩ ⟨by decide, by decide⟩ (eq_of_beq c_26) (by decide) rfl rfl rfl (Nat.le_of_ble_eq_true rfl) rfl rfl ?_
                      cases h
                      exact zr_return dX10_readOne_200 rfl ⟨by decide, by decide⟩ ⟨rfl, rfl⟩
                    · replace h := ite_t c_21 h
                      exact zr_pick [1, 0] rfl (tX10_readOne_181 n M_10 v0 r_1 _ _ h)
            · replace h := ite_t c_17 h
              refine zr_aload_n (q := 147) dX10_readOne_146 rfl rfl 1 rfl ?_
              obtain ⟨c_30, h⟩ := chk_some h
              obtain ⟨r_27, M_28, hc_29, h⟩ := bnd2_some h
              refine zr_callVV (μ' := uX10_endRow) (q := 150) (n := 0) (ci := 10) (As := []) (u' := (0, 0)) (tX10_endRow n M_10 v0 _ _ hc_29) dX10_readOne_147 rfl rfl ⟨zb_457, zb_458, zb_459, zb_460, zb_389⟩ zd_X10_endRow ⟨by decide, by decide⟩ ⟨by decide, by decide⟩ (eq_of_beq c_30) (by decide) rfl rfl rfl (Nat.le_of_ble_eq_true rfl) rfl rfl ?_
              refine zr_aload_n (q := 151) dX10_readOne_150 rfl rfl 1 rfl ?_
              obtain ⟨c_34, h⟩ := chk_some h
              obtain ⟨r_31, M_32, hc_33, h⟩ := bnd2_some h
              refine zr_callVV (μ' := uX10_beginRow) (q := 154) (n := 0) (ci := 10) (As := []) (u' := (0, 0)) (tX10_beginRow n M_28 v0 _ _ hc_33) dX10_readOne_151 rfl rfl ⟨zb_400, zb_401, zb_402, zb_403, zb_389⟩ zd_X10_beginRow ⟨by decide, by decide⟩ ⟨by decide, by decide⟩ (eq_of_beq c_34) (by decide) rfl rfl rfl (Nat.le_of_ble_eq_true rfl) rfl rfl ?_
              refine zr_goto (q := 200) dX10_readOne_154 (by decide) ?_
              cases h
              exact zr_return dX10_readOne_200 rfl ⟨by decide, by decide⟩ ⟨rfl, rfl⟩
          · replace h := ite_t c_16 h
            refine zr_aload_n (q := 134) dX10_readOne_133 rfl rfl 1 rfl ?_
            obtain ⟨c_38, h⟩ := chk_some h
            obtain ⟨r_35, M_36, hc_37, h⟩ := bnd2_some h
            refine zr_callVV (μ' := uX10_close) (q := 137) (n := 0) (ci := 10) (As := []) (u' := (0, 0)) (tX10_close n M_10 v0 _ _ hc_37) dX10_readOne_134 rfl rfl ⟨zb_465, zb_466, zb_467, zb_468, zb_389⟩ zd_X10_close ⟨by decide, by decide⟩ ⟨by decide, by decide⟩ (eq_of_beq c_38) (by decide) rfl rfl rfl (Nat.le_of_ble_eq_true rfl) rfl rfl ?_
            refine zr_goto (q := 200) dX10_readOne_137 (by decide) ?_
            cases h
            exact zr_return dX10_readOne_200 rfl ⟨by decide, by decide⟩ ⟨rfl, rfl⟩
        · replace h := ite_t c_15 h
          refine zr_aload_n (q := 86) dX10_readOne_85 rfl rfl 1 rfl ?_
          obtain ⟨c_39, h⟩ := chk_some h
          refine zr_get (q := 89) (ci := 10) (k := 13) dX10_readOne_86 rfl (eq_of_beq c_39) rfl (by decide) rfl zbX10 (by decide) zb_391 rfl ?_
          refine zr_bipush (q := 91) (v := 8) dX10_readOne_89 rfl (by decide) ?_
          refine zr_icmp_ne (q := 94) (tgt := 106) dX10_readOne_91 rfl (by decide) (fun c_40 => ?_) (fun c_40 => ?_)
          · replace h := ite_f c_40 h
            refine zr_aload_n (q := 107) dX10_readOne_106 rfl rfl 1 rfl ?_
            obtain ⟨c_44, h⟩ := chk_some h
            obtain ⟨r_41, M_42, hc_43, h⟩ := bnd2_some h
            refine zr_callVV (μ' := uX10_joinPart) (q := 110) (n := 0) (ci := 10) (As := []) (u' := (0, 0)) (tX10_joinPart n M_10 v0 _ _ hc_43) dX10_readOne_107 rfl rfl ⟨zb_415, zb_416, zb_417, zb_418, zb_389⟩ zd_X10_joinPart ⟨by decide, by decide⟩ ⟨by decide, by decide⟩ (eq_of_beq c_44) (by decide) rfl rfl rfl (Nat.le_of_ble_eq_true rfl) rfl rfl ?_
            refine zr_aload_n (q := 111) dX10_readOne_110 rfl rfl 1 rfl ?_
            refine zr_dup (q := 112) dX10_readOne_111 rfl rfl ?_
            obtain ⟨c_45, h⟩ := chk_some h
            refine zr_get (q := 115) (ci := 10) (k := 13) dX10_readOne_112 rfl (eq_of_beq c_45) rfl (by decide) rfl zbX10 (by decide) zb_391 rfl ?_
            refine zr_iconst (q := 116) (v := 1) dX10_readOne_115 rfl (by decide) ?_
            refine zr_iadd (q := 117) dX10_readOne_116 rfl ?_
            obtain ⟨c_46, h⟩ := chk_some h
            obtain ⟨M_47, e_48, h⟩ := app_some h
            refine zr_putI (q := 120) (ci := 10) (k := 13) dX10_readOne_117 rfl (eq_of_beq c_46) rfl (by decide) rfl zbX10 tyX10_ok nmX10 (by decide) zb_391 (Or.inl rfl) rfl ?_
            refine zr_mem e_48 ?_
            refine zr_aload_n (q := 121) dX10_readOne_120 rfl rfl 1 rfl ?_
            obtain ⟨c_52, h⟩ := chk_some h
            obtain ⟨r_49, M_50, hc_51, h⟩ := bnd2_some h
            refine zr_callVV (μ' := uX10_beginChoices) (q := 124) (n := 0) (ci := 10) (As := []) (u' := (0, 0)) (tX10_beginChoices n M_47 v0 _ _ hc_51) dX10_readOne_121 rfl rfl ⟨zb_469, zb_470, zb_471, zb_472, zb_389⟩ zd_X10_beginChoices ⟨by decide, by decide⟩ ⟨by decide, by decide⟩ (eq_of_beq c_52) (by decide) rfl rfl rfl (Nat.le_of_ble_eq_true rfl) rfl rfl ?_
            refine zr_goto (q := 200) dX10_readOne_124 (by decide) ?_
            cases h
            exact zr_return dX10_readOne_200 rfl ⟨by decide, by decide⟩ ⟨rfl, rfl⟩
          · replace h := ite_t c_40 h
            refine zr_aload_n (q := 95) dX10_readOne_94 rfl rfl 1 rfl ?_
            refine zr_iconst (q := 96) (v := 5) dX10_readOne_95 rfl (by decide) ?_
            refine zr_aload_n (q := 97) dX10_readOne_96 rfl rfl 1 rfl ?_
            obtain ⟨c_53, h⟩ := chk_some h
            refine zr_get (q := 100) (ci := 10) (k := 28) dX10_readOne_97 rfl (eq_of_beq c_53) rfl (by decide) rfl zbX10 (by decide) zb_384 rfl ?_
            refine zr_iconst (q := 101) (v := 1) dX10_readOne_100 rfl (by decide) ?_
            refine zr_isub (q := 102) dX10_readOne_101 rfl ?_
            obtain ⟨c_57, h⟩ := chk_some h
            obtain ⟨r_54, M_55, hc_56, h⟩ := bnd2_some h
            refine zr_callVV (μ' := uX10_fail) (q := 105) (n := 2) (ci := 10) (As := [.int (5 : Int32), .int ((mI M_10 v0 28) - (1 : Int32))]) (u' := (0, 0)) (tX10_fail n M_10 v0 (5 : Int32) ((mI M_10 v0 28) - (1 : Int32)) _ _ hc_56) dX10_readOne_102 rfl rfl ⟨zb_385, zb_386, zb_387, zb_388, zb_389⟩ zd_X10_fail ⟨by decide, by decide⟩ ⟨by decide, by decide⟩ (eq_of_beq c_57) (by decide) rfl rfl rfl (Nat.le_of_ble_eq_true rfl) rfl rfl ?_
            cases h
            exact zr_return dX10_readOne_105 rfl ⟨by decide, by decide⟩ ⟨rfl, rfl⟩
      · replace h := ite_t c_14 h
        refine zr_aload_n (q := 73) dX10_readOne_72 rfl rfl 1 rfl ?_
        obtain ⟨c_61, h⟩ := chk_some h
        obtain ⟨r_58, M_59, hc_60, h⟩ := bnd2_some h
        refine zr_callVV (μ' := uX10_readSet) (q := 76) (n := 0) (ci := 10) (As := []) (u' := (0, 0)) (tX10_readSet n M_10 v0 _ _ hc_60) dX10_readOne_73 rfl rfl ⟨zb_473, zb_474, zb_475, zb_476, zb_389⟩ zd_X10_readSet ⟨by decide, by decide⟩ ⟨by decide, by decide⟩ (eq_of_beq c_61) (by decide) rfl rfl rfl (Nat.le_of_ble_eq_true rfl) rfl rfl ?_
        refine zr_goto (q := 200) dX10_readOne_76 (by decide) ?_
        cases h
        exact zr_return dX10_readOne_200 rfl ⟨by decide, by decide⟩ ⟨rfl, rfl⟩
    · replace h := ite_t c_13 h
      refine zr_aload_n (q := 48) dX10_readOne_47 rfl rfl 1 rfl ?_
      refine zr_iconst (q := 49) (v := 0) dX10_readOne_48 rfl (by decide) ?_
      refine zr_bipush (q := 51) (v := 35) dX10_readOne_49 rfl (by decide) ?_
      obtain ⟨r_62, M_63, hc_64, h⟩ := bnd2_some h
      refine zr_callSL (μ' := uX10_upTo) (q := 54) (n := 2) (As := [.int (0 : Int32), .int (35 : Int32)]) (u' := (0, 0)) (tX10_upTo n M_10 (0 : Int32) (35 : Int32) _ _ hc_64) dX10_readOne_51 rfl rfl ⟨zb_429, zb_430, zb_431, zb_389⟩ zd_X10_upTo ⟨by decide, by decide⟩ ⟨by decide, by decide⟩ rfl rfl (Nat.le_of_ble_eq_true rfl) rfl ?_
      refine zr_aload_n (q := 55) dX10_readOne_54 rfl rfl 1 rfl ?_
      obtain ⟨c_65, h⟩ := chk_some h
      refine zr_get (q := 58) (ci := 10) (k := 28) dX10_readOne_55 rfl (eq_of_beq c_65) rfl (by decide) rfl zbX10 (by decide) zb_384 rfl ?_
      refine zr_iconst (q := 59) (v := 1) dX10_readOne_58 rfl (by decide) ?_
      refine zr_isub (q := 60) dX10_readOne_59 rfl ?_
      obtain ⟨c_69, h⟩ := chk_some h
      obtain ⟨r_66, M_67, hc_68, h⟩ := bnd2_some h
      refine zr_callVV (μ' := uX10_atom) (q := 63) (n := 2) (ci := 10) (As := [.long r_62, .int ((mI M_63 v0 28) - (1 : Int32))]) (u' := (0, 0)) (tX10_atom n M_63 v0 r_62 ((mI M_63 v0 28) - (1 : Int32)) _ _ hc_68) dX10_readOne_60 rfl rfl ⟨zb_425, zb_426, zb_427, zb_428, zb_389⟩ zd_X10_atom ⟨by decide, by decide⟩ ⟨by decide, by decide⟩ (eq_of_beq c_69) (by decide) rfl rfl rfl (Nat.le_of_ble_eq_true rfl) rfl rfl ?_
      refine zr_goto (q := 200) dX10_readOne_63 (by decide) ?_
      cases h
      exact zr_return dX10_readOne_200 rfl ⟨by decide, by decide⟩ ⟨rfl, rfl⟩
  · replace h := ite_f c_12 h
    refine zr_aload_n (q := 23) dX10_readOne_22 rfl rfl 1 rfl ?_
    refine zr_lconst (q := 24) (v := 1) dX10_readOne_23 rfl (by decide) ?_
    refine zr_iload_n (q := 25) dX10_readOne_24 rfl rfl 0 rfl ?_
    obtain ⟨r_70, M_71, hc_72, h⟩ := bnd2_some h
    refine zr_callSI (μ' := uX10_letterOf) (q := 28) (n := 1) (As := [.int r_1]) (u' := (0, 0)) (tX10_letterOf n M_10 r_1 _ _ hc_72) dX10_readOne_25 rfl rfl ⟨zb_441, zb_442, zb_443, zb_389⟩ zd_X10_letterOf ⟨by decide, by decide⟩ ⟨by decide, by decide⟩ rfl rfl (Nat.le_of_ble_eq_true rfl) rfl ?_
    refine zr_lshl (q := 29) dX10_readOne_28 rfl ?_
    refine zr_aload_n (q := 30) dX10_readOne_29 rfl rfl 1 rfl ?_
    obtain ⟨c_73, h⟩ := chk_some h
    refine zr_get (q := 33) (ci := 10) (k := 28) dX10_readOne_30 rfl (eq_of_beq c_73) rfl (by decide) rfl zbX10 (by decide) zb_384 rfl ?_
    refine zr_iconst (q := 34) (v := 1) dX10_readOne_33 rfl (by decide) ?_
    refine zr_isub (q := 35) dX10_readOne_34 rfl ?_
    obtain ⟨c_77, h⟩ := chk_some h
    obtain ⟨r_74, M_75, hc_76, h⟩ := bnd2_some h
    refine zr_callVV (μ' := uX10_atom) (q := 38) (n := 2) (ci := 10) (As := [.long (jshl (1 : Int64) r_70), .int ((mI M_71 v0 28) - (1 : Int32))]) (u' := (0, 0)) (tX10_atom n M_71 v0 (jshl (1 : Int64) r_70) ((mI M_71 v0 28) - (1 : Int32)) _ _ hc_76) dX10_readOne_35 rfl rfl ⟨zb_425, zb_426, zb_427, zb_428, zb_389⟩ zd_X10_atom ⟨by decide, by decide⟩ ⟨by decide, by decide⟩ (eq_of_beq c_77) (by decide) rfl rfl rfl (Nat.le_of_ble_eq_true rfl) rfl rfl ?_
    refine zr_goto (q := 200) dX10_readOne_38 (by decide) ?_
    cases h
    exact zr_return dX10_readOne_200 rfl ⟨by decide, by decide⟩ ⟨rfl, rfl⟩

def uX10_copy : zMu := (yX10_copy, cX10_copy, 4, none, { frames := 0, cells := 0, slots := 0, locals := 0 }, [])
theorem zd_X10_copy : (uY uX10_copy).cls ≠ "java/lang/invoke/MethodHandle" ∧ (uY uX10_copy).cls ≠ "java/lang/invoke/VarHandle" ∧ (parseMethodDescriptor (uY uX10_copy).desc).map (fun d => d.parameters.length) = some 2 := by decide +kernel
def fX10_copy_57 : Nat → zM → Nat → Int32 → Int32 → Int32 → Option (Unit × zM)
  | 0, _, _, _, _, _ => none
  | n + 1, M, v0, v1, v2, v3 =>
    if (60 : Int32) ≤ v3 then
      some ((), M)
    else
    chk (mK M v0 == 10) <|
    bnd (mR M v0 11) fun a_3 =>
    chk (mK M v0 == 10) <|
    bnd (mR M v0 11) fun a_6 =>
    chk (mK M a_6 == 12) <|
    chk (zin (((60 : Int32) * v1) + v3) (mN M a_6)) <|
    chk (mK M a_3 == 12) <|
    chk (zin (((60 : Int32) * v2) + v3) (mN M a_3)) <|
    app (wL M a_3 (Int32.toNatClampNeg (((60 : Int32) * v2) + v3)) (mL M a_6 (Int32.toNatClampNeg (((60 : Int32) * v1) + v3)))) fun M_12 : zM =>
    chk (mK M_12 v0 == 10) <|
    bnd (mR M_12 v0 12) fun a_15 =>
    chk (mK M_12 v0 == 10) <|
    bnd (mR M_12 v0 12) fun a_18 =>
    chk (mK M_12 a_18 == 12) <|
    chk (zin (((60 : Int32) * v1) + v3) (mN M_12 a_18)) <|
    chk (mK M_12 a_15 == 12) <|
    chk (zin (((60 : Int32) * v2) + v3) (mN M_12 a_15)) <|
    app (wL M_12 a_15 (Int32.toNatClampNeg (((60 : Int32) * v2) + v3)) (mL M_12 a_18 (Int32.toNatClampNeg (((60 : Int32) * v1) + v3)))) fun M_24 : zM =>
    app (v3 + (1 : Int32)) fun v3_26 : Int32 =>
    (fX10_copy_57 n) M_24 v0 v1 v2 v3_26
set_option maxHeartbeats 4000000 in
theorem tX10_copy_57 : ∀ (n : Nat) (M : zM) (v0 : Nat) (v1 : Int32) (v2 : Int32) (v3 : Int32) (r : Unit) (M' : zM), fX10_copy_57 n M v0 v1 v2 v3 = some (r, M') → zW uX10_copy none (0, 0) M 57 [(0, .ref v0), (1, .int v1), (2, .int v2), (3, .int v3)] [] (zE (oV r) M') := by
  intro n
  induction n with
  | zero => intro M v0 v1 v2 v3 r M' h; cases h
  | succ n ih =>
    intro M v0 v1 v2 v3 r M' h
    rw [fX10_copy_57] at h
    refine zr_iload_n (q := 58) dX10_copy_57 rfl rfl 3 rfl ?_
    refine zr_bipush (q := 60) (v := 60) dX10_copy_58 rfl (by decide) ?_
    refine zr_icmp_ge (q := 63) (tgt := 113) dX10_copy_60 rfl (by decide) (fun c_1 => ?_) (fun c_1 => ?_)
    · replace h := ite_t c_1 h
      cases h
      exact zr_return dX10_copy_113 rfl ⟨by decide, by decide⟩ ⟨rfl, rfl⟩
    · replace h := ite_f c_1 h
      refine zr_aload_n (q := 64) dX10_copy_63 rfl rfl 0 rfl ?_
      obtain ⟨c_2, h⟩ := chk_some h
      obtain ⟨a_3, e_4, h⟩ := bnd_some h
      refine zr_getr (q := 67) (ci := 10) (k := 11) dX10_copy_64 rfl (eq_of_beq c_2) rfl (by decide) rfl zbX10 (by decide) zb_407 rfl e_4 ?_
      refine zr_bipush (q := 69) (v := 60) dX10_copy_67 rfl (by decide) ?_
      refine zr_iload_n (q := 70) dX10_copy_69 rfl rfl 2 rfl ?_
      refine zr_imul (q := 71) dX10_copy_70 rfl ?_
      refine zr_iload_n (q := 72) dX10_copy_71 rfl rfl 3 rfl ?_
      refine zr_iadd (q := 73) dX10_copy_72 rfl ?_
      refine zr_aload_n (q := 74) dX10_copy_73 rfl rfl 0 rfl ?_
      obtain ⟨c_5, h⟩ := chk_some h
      obtain ⟨a_6, e_7, h⟩ := bnd_some h
      refine zr_getr (q := 77) (ci := 10) (k := 11) dX10_copy_74 rfl (eq_of_beq c_5) rfl (by decide) rfl zbX10 (by decide) zb_407 rfl e_7 ?_
      refine zr_bipush (q := 79) (v := 60) dX10_copy_77 rfl (by decide) ?_
      refine zr_iload_n (q := 80) dX10_copy_79 rfl rfl 1 rfl ?_
      refine zr_imul (q := 81) dX10_copy_80 rfl ?_
      refine zr_iload_n (q := 82) dX10_copy_81 rfl rfl 3 rfl ?_
      refine zr_iadd (q := 83) dX10_copy_82 rfl ?_
      obtain ⟨c_8, h⟩ := chk_some h
      obtain ⟨c_9, h⟩ := chk_some h
      refine zr_lald (q := 84) dX10_copy_83 rfl (eq_of_beq c_8) c_9 ?_
      obtain ⟨c_10, h⟩ := chk_some h
      obtain ⟨c_11, h⟩ := chk_some h
      obtain ⟨M_12, e_13, h⟩ := app_some h
      refine zr_last (q := 85) dX10_copy_84 rfl (eq_of_beq c_10) c_11 ?_
      refine zr_mem e_13 ?_
      refine zr_aload_n (q := 86) dX10_copy_85 rfl rfl 0 rfl ?_
      obtain ⟨c_14, h⟩ := chk_some h
      obtain ⟨a_15, e_16, h⟩ := bnd_some h
      refine zr_getr (q := 89) (ci := 10) (k := 12) dX10_copy_86 rfl (eq_of_beq c_14) rfl (by decide) rfl zbX10 (by decide) zb_420 rfl e_16 ?_
      refine zr_bipush (q := 91) (v := 60) dX10_copy_89 rfl (by decide) ?_
      refine zr_iload_n (q := 92) dX10_copy_91 rfl rfl 2 rfl ?_
      refine zr_imul (q := 93) dX10_copy_92 rfl ?_
      refine zr_iload_n (q := 94) dX10_copy_93 rfl rfl 3 rfl ?_
      refine zr_iadd (q := 95) dX10_copy_94 rfl ?_
      refine zr_aload_n (q := 96) dX10_copy_95 rfl rfl 0 rfl ?_
      obtain ⟨c_17, h⟩ := chk_some h
      obtain ⟨a_18, e_19, h⟩ := bnd_some h
      refine zr_getr (q := 99) (ci := 10) (k := 12) dX10_copy_96 rfl (eq_of_beq c_17) rfl (by decide) rfl zbX10 (by decide) zb_420 rfl e_19 ?_
      refine zr_bipush (q := 101) (v := 60) dX10_copy_99 rfl (by decide) ?_
      refine zr_iload_n (q := 102) dX10_copy_101 rfl rfl 1 rfl ?_
      refine zr_imul (q := 103) dX10_copy_102 rfl ?_
      refine zr_iload_n (q := 104) dX10_copy_103 rfl rfl 3 rfl ?_
      refine zr_iadd (q := 105) dX10_copy_104 rfl ?_
      obtain ⟨c_20, h⟩ := chk_some h
      obtain ⟨c_21, h⟩ := chk_some h
      refine zr_lald (q := 106) dX10_copy_105 rfl (eq_of_beq c_20) c_21 ?_
      obtain ⟨c_22, h⟩ := chk_some h
      obtain ⟨c_23, h⟩ := chk_some h
      obtain ⟨M_24, e_25, h⟩ := app_some h
      refine zr_last (q := 107) dX10_copy_106 rfl (eq_of_beq c_22) c_23 ?_
      refine zr_mem e_25 ?_
      obtain ⟨v3_26, e_27, h⟩ := app_some h
      refine zr_iinc (q := 110) (v := v3_26) (L' := [(3, .int v3_26), (0, .ref v0), (1, .int v1), (2, .int v2)]) dX10_copy_107 rfl 3 rfl (by rw [← e_27]; rfl) (by decide) rfl ?_
      refine zr_goto (q := 57) dX10_copy_110 (by decide) ?_
      exact zr_pick [1, 2, 3, 0] rfl (ih M_24 v0 v1 v2 v3_26 _ _ h)
def fX10_copy (n : Nat) (M : zM) (v0 : Nat) (v1 : Int32) (v2 : Int32) : Option (Unit × zM) :=
  chk (mK M v0 == 10) <|
  bnd (mR M v0 6) fun a_2 =>
  chk (mK M a_2 == 13) <|
  chk (zin v2 (mN M a_2)) <|
  app (wI M a_2 (Int32.toNatClampNeg v2) (vp_nar .boolean (1 : Int32))) fun M_6 : zM =>
  chk (mK M_6 v0 == 10) <|
  bnd (mR M_6 v0 7) fun a_9 =>
  chk (mK M_6 v0 == 10) <|
  bnd (mR M_6 v0 7) fun a_12 =>
  chk (mK M_6 a_12 == 11) <|
  chk (zin v1 (mN M_6 a_12)) <|
  chk (mK M_6 a_9 == 11) <|
  chk (zin v2 (mN M_6 a_9)) <|
  app (wI M_6 a_9 (Int32.toNatClampNeg v2) (mI M_6 a_12 (Int32.toNatClampNeg v1))) fun M_18 : zM =>
  chk (mK M_18 v0 == 10) <|
  bnd (mR M_18 v0 8) fun a_21 =>
  chk (mK M_18 v0 == 10) <|
  bnd (mR M_18 v0 8) fun a_24 =>
  chk (mK M_18 a_24 == 13) <|
  chk (zin v1 (mN M_18 a_24)) <|
  chk (mK M_18 a_21 == 13) <|
  chk (zin v2 (mN M_18 a_21)) <|
  app (wI M_18 a_21 (Int32.toNatClampNeg v2) (vp_nar .boolean (mI M_18 a_24 (Int32.toNatClampNeg v1)))) fun M_30 : zM =>
  chk (mK M_30 v0 == 10) <|
  bnd (mR M_30 v0 9) fun a_33 =>
  chk (mK M_30 v0 == 10) <|
  bnd (mR M_30 v0 9) fun a_36 =>
  chk (mK M_30 a_36 == 12) <|
  chk (zin v1 (mN M_30 a_36)) <|
  chk (mK M_30 a_33 == 12) <|
  chk (zin v2 (mN M_30 a_33)) <|
  app (wL M_30 a_33 (Int32.toNatClampNeg v2) (mL M_30 a_36 (Int32.toNatClampNeg v1))) fun M_42 : zM =>
  chk (mK M_42 v0 == 10) <|
  bnd (mR M_42 v0 10) fun a_45 =>
  chk (mK M_42 v0 == 10) <|
  bnd (mR M_42 v0 10) fun a_48 =>
  chk (mK M_42 a_48 == 12) <|
  chk (zin v1 (mN M_42 a_48)) <|
  chk (mK M_42 a_45 == 12) <|
  chk (zin v2 (mN M_42 a_45)) <|
  app (wL M_42 a_45 (Int32.toNatClampNeg v2) (mL M_42 a_48 (Int32.toNatClampNeg v1))) fun M_54 : zM =>
  fX10_copy_57 n M_54 v0 v1 v2 (0 : Int32)
set_option maxHeartbeats 4000000 in
theorem tX10_copy (n : Nat) (M : zM) (v0 : Nat) (v1 : Int32) (v2 : Int32) (r : Unit) (M' : zM) (h : fX10_copy n M v0 v1 v2 = some (r, M')) : zMet uX10_copy false M [.ref v0, .int v1, .int v2] (zE (oV r) M') := by
  refine zMet_of (L := [(0, .ref v0), (1, .int v1), (2, .int v2)]) (by decide +kernel) rfl rfl (Nat.le_of_ble_eq_true rfl) ?_
  show zW uX10_copy none (0, 0) M 0 [(0, .ref v0), (1, .int v1), (2, .int v2)] [] (zE (oV r) M')
  unfold fX10_copy at h
  refine zr_aload_n (q := 1) dX10_copy_0 rfl rfl 0 rfl ?_
  obtain ⟨c_1, h⟩ := chk_some h
  obtain ⟨a_2, e_3, h⟩ := bnd_some h
  refine zr_getr (q := 4) (ci := 10) (k := 6) dX10_copy_1 rfl (eq_of_beq c_1) rfl (by decide) rfl zbX10 (by decide) zb_477 rfl e_3 ?_
  refine zr_iload_n (q := 5) dX10_copy_4 rfl rfl 2 rfl ?_
  refine zr_iconst (q := 6) (v := 1) dX10_copy_5 rfl (by decide) ?_
  obtain ⟨c_4, h⟩ := chk_some h
  obtain ⟨c_5, h⟩ := chk_some h
  obtain ⟨M_6, e_7, h⟩ := app_some h
  refine zr_zast (q := 7) dX10_copy_6 rfl (eq_of_beq c_4) c_5 ?_
  refine zr_mem e_7 ?_
  refine zr_aload_n (q := 8) dX10_copy_7 rfl rfl 0 rfl ?_
  obtain ⟨c_8, h⟩ := chk_some h
  obtain ⟨a_9, e_10, h⟩ := bnd_some h
  refine zr_getr (q := 11) (ci := 10) (k := 7) dX10_copy_8 rfl (eq_of_beq c_8) rfl (by decide) rfl zbX10 (by decide) zb_478 rfl e_10 ?_
  refine zr_iload_n (q := 12) dX10_copy_11 rfl rfl 2 rfl ?_
  refine zr_aload_n (q := 13) dX10_copy_12 rfl rfl 0 rfl ?_
  obtain ⟨c_11, h⟩ := chk_some h
  obtain ⟨a_12, e_13, h⟩ := bnd_some h
  refine zr_getr (q := 16) (ci := 10) (k := 7) dX10_copy_13 rfl (eq_of_beq c_11) rfl (by decide) rfl zbX10 (by decide) zb_478 rfl e_13 ?_
  refine zr_iload_n (q := 17) dX10_copy_16 rfl rfl 1 rfl ?_
  obtain ⟨c_14, h⟩ := chk_some h
  obtain ⟨c_15, h⟩ := chk_some h
  refine zr_iald (q := 18) dX10_copy_17 rfl (eq_of_beq c_14) c_15 ?_
  obtain ⟨c_16, h⟩ := chk_some h
  obtain ⟨c_17, h⟩ := chk_some h
  obtain ⟨M_18, e_19, h⟩ := app_some h
  refine zr_iast (q := 19) dX10_copy_18 rfl (eq_of_beq c_16) c_17 ?_
  refine zr_mem e_19 ?_
  refine zr_aload_n (q := 20) dX10_copy_19 rfl rfl 0 rfl ?_
  obtain ⟨c_20, h⟩ := chk_some h
  obtain ⟨a_21, e_22, h⟩ := bnd_some h
  refine zr_getr (q := 23) (ci := 10) (k := 8) dX10_copy_20 rfl (eq_of_beq c_20) rfl (by decide) rfl zbX10 (by decide) zb_479 rfl e_22 ?_
  refine zr_iload_n (q := 24) dX10_copy_23 rfl rfl 2 rfl ?_
  refine zr_aload_n (q := 25) dX10_copy_24 rfl rfl 0 rfl ?_
  obtain ⟨c_23, h⟩ := chk_some h
  obtain ⟨a_24, e_25, h⟩ := bnd_some h
  refine zr_getr (q := 28) (ci := 10) (k := 8) dX10_copy_25 rfl (eq_of_beq c_23) rfl (by decide) rfl zbX10 (by decide) zb_479 rfl e_25 ?_
  refine zr_iload_n (q := 29) dX10_copy_28 rfl rfl 1 rfl ?_
  obtain ⟨c_26, h⟩ := chk_some h
  obtain ⟨c_27, h⟩ := chk_some h
  refine zr_zald (q := 30) dX10_copy_29 rfl (eq_of_beq c_26) c_27 ?_
  obtain ⟨c_28, h⟩ := chk_some h
  obtain ⟨c_29, h⟩ := chk_some h
  obtain ⟨M_30, e_31, h⟩ := app_some h
  refine zr_zast (q := 31) dX10_copy_30 rfl (eq_of_beq c_28) c_29 ?_
  refine zr_mem e_31 ?_
  refine zr_aload_n (q := 32) dX10_copy_31 rfl rfl 0 rfl ?_
  obtain ⟨c_32, h⟩ := chk_some h
  obtain ⟨a_33, e_34, h⟩ := bnd_some h
  refine zr_getr (q := 35) (ci := 10) (k := 9) dX10_copy_32 rfl (eq_of_beq c_32) rfl (by decide) rfl zbX10 (by decide) zb_480 rfl e_34 ?_
  refine zr_iload_n (q := 36) dX10_copy_35 rfl rfl 2 rfl ?_
  refine zr_aload_n (q := 37) dX10_copy_36 rfl rfl 0 rfl ?_
  obtain ⟨c_35, h⟩ := chk_some h
  obtain ⟨a_36, e_37, h⟩ := bnd_some h
  refine zr_getr (q := 40) (ci := 10) (k := 9) dX10_copy_37 rfl (eq_of_beq c_35) rfl (by decide) rfl zbX10 (by decide) zb_480 rfl e_37 ?_
  refine zr_iload_n (q := 41) dX10_copy_40 rfl rfl 1 rfl ?_
  obtain ⟨c_38, h⟩ := chk_some h
  obtain ⟨c_39, h⟩ := chk_some h
  refine zr_lald (q := 42) dX10_copy_41 rfl (eq_of_beq c_38) c_39 ?_
  obtain ⟨c_40, h⟩ := chk_some h
  obtain ⟨c_41, h⟩ := chk_some h
  obtain ⟨M_42, e_43, h⟩ := app_some h
  refine zr_last (q := 43) dX10_copy_42 rfl (eq_of_beq c_40) c_41 ?_
  refine zr_mem e_43 ?_
  refine zr_aload_n (q := 44) dX10_copy_43 rfl rfl 0 rfl ?_
  obtain ⟨c_44, h⟩ := chk_some h
  obtain ⟨a_45, e_46, h⟩ := bnd_some h
  refine zr_getr (q := 47) (ci := 10) (k := 10) dX10_copy_44 rfl (eq_of_beq c_44) rfl (by decide) rfl zbX10 (by decide) zb_481 rfl e_46 ?_
  refine zr_iload_n (q := 48) dX10_copy_47 rfl rfl 2 rfl ?_
  refine zr_aload_n (q := 49) dX10_copy_48 rfl rfl 0 rfl ?_
  obtain ⟨c_47, h⟩ := chk_some h
  obtain ⟨a_48, e_49, h⟩ := bnd_some h
  refine zr_getr (q := 52) (ci := 10) (k := 10) dX10_copy_49 rfl (eq_of_beq c_47) rfl (by decide) rfl zbX10 (by decide) zb_481 rfl e_49 ?_
  refine zr_iload_n (q := 53) dX10_copy_52 rfl rfl 1 rfl ?_
  obtain ⟨c_50, h⟩ := chk_some h
  obtain ⟨c_51, h⟩ := chk_some h
  refine zr_lald (q := 54) dX10_copy_53 rfl (eq_of_beq c_50) c_51 ?_
  obtain ⟨c_52, h⟩ := chk_some h
  obtain ⟨c_53, h⟩ := chk_some h
  obtain ⟨M_54, e_55, h⟩ := app_some h
  refine zr_last (q := 55) dX10_copy_54 rfl (eq_of_beq c_52) c_53 ?_
  refine zr_mem e_55 ?_
  refine zr_iconst (q := 56) (v := 0) dX10_copy_55 rfl (by decide) ?_
  refine zr_istore_n (q := 57) (L' := [(3, .int (0 : Int32)), (0, .ref v0), (1, .int v1), (2, .int v2)]) dX10_copy_56 rfl rfl (by decide) rfl ?_
  exact zr_pick [1, 2, 3, 0] rfl (tX10_copy_57 n M_54 v0 v1 v2 (0 : Int32) _ _ h)

def uX10_read : zMu := (yX10_read, cX10_read, 1, (some .int), { frames := 6, cells := 0, slots := 0, locals := 152 }, [])
theorem zd_X10_read : (uY uX10_read).cls ≠ "java/lang/invoke/MethodHandle" ∧ (uY uX10_read).cls ≠ "java/lang/invoke/VarHandle" ∧ (parseMethodDescriptor (uY uX10_read).desc).map (fun d => d.parameters.length) = some 0 := by decide +kernel
def fX10_read_75 (n : Nat) (M : zM) (v0 : Nat) : Option (Int32 × zM) :=
  chk (mK M v0 == 10) <|
  app (wI M v0 2 (0 : Int32)) fun M_2 : zM =>
  chk (mK M_2 v0 == 10) <|
  if (mI M_2 v0 29) ≤ (0 : Int32) then
    chk (mK M_2 v0 == 10) <|
    bnd2 (fX10_endRow n M_2 v0) fun r_6 M_7 =>
    chk (mK M_7 v0 == 10) <|
    bnd (mR M_7 v0 7) fun a_11 =>
    chk (mK M_7 v0 == 10) <|
    chk (mK M_7 a_11 == 11) <|
    chk (zin (2 : Int32) (mN M_7 a_11)) <|
    app (wI M_7 a_11 (Int32.toNatClampNeg (2 : Int32)) (mI M_7 v0 14)) fun M_16 : zM =>
    chk (mK M_16 v0 == 10) <|
    bnd (mR M_16 v0 8) fun a_19 =>
    chk (mK M_16 v0 == 10) <|
    bnd (mR M_16 v0 23) fun a_22 =>
    chk (mK M_16 a_22 == 13) <|
    chk (zin (0 : Int32) (mN M_16 a_22)) <|
    chk (mK M_16 a_19 == 13) <|
    chk (zin (2 : Int32) (mN M_16 a_19)) <|
    app (wI M_16 a_19 (Int32.toNatClampNeg (2 : Int32)) (vp_nar .boolean (mI M_16 a_22 (Int32.toNatClampNeg (0 : Int32))))) fun M_28 : zM =>
    chk (mK M_28 v0 == 10) <|
    bnd (mR M_28 v0 9) fun a_31 =>
    chk (mK M_28 v0 == 10) <|
    bnd (mR M_28 v0 24) fun a_34 =>
    chk (mK M_28 a_34 == 12) <|
    chk (zin (0 : Int32) (mN M_28 a_34)) <|
    chk (mK M_28 a_31 == 12) <|
    chk (zin (2 : Int32) (mN M_28 a_31)) <|
    app (wL M_28 a_31 (Int32.toNatClampNeg (2 : Int32)) (mL M_28 a_34 (Int32.toNatClampNeg (0 : Int32)))) fun M_40 : zM =>
    chk (mK M_40 v0 == 10) <|
    bnd (mR M_40 v0 10) fun a_43 =>
    chk (mK M_40 v0 == 10) <|
    bnd (mR M_40 v0 25) fun a_46 =>
    chk (mK M_40 a_46 == 12) <|
    chk (zin (0 : Int32) (mN M_40 a_46)) <|
    chk (mK M_40 a_43 == 12) <|
    chk (zin (2 : Int32) (mN M_40 a_43)) <|
    app (wL M_40 a_43 (Int32.toNatClampNeg (2 : Int32)) (mL M_40 a_46 (Int32.toNatClampNeg (0 : Int32)))) fun M_52 : zM =>
    chk (mK M_52 v0 == 10) <|
    bnd2 (fX10_copy n M_52 v0 (2 : Int32) (0 : Int32)) fun r_54 M_55 =>
    some ((0 : Int32), M_55)
  else
  chk (mK M_2 v0 == 10) <|
  some ((mI M_2 v0 29), M_2)
set_option maxHeartbeats 4000000 in
theorem tX10_read_75 (n : Nat) (M : zM) (v0 : Nat) (r : Int32) (M' : zM) (h : fX10_read_75 n M v0 = some (r, M')) : zW uX10_read none (0, 0) M 75 [(0, .ref v0)] [] (zE (oI r) M') := by
  unfold fX10_read_75 at h
  refine zr_aload_n (q := 76) dX10_read_75 rfl rfl 0 rfl ?_
  refine zr_iconst (q := 77) (v := 0) dX10_read_76 rfl (by decide) ?_
  obtain ⟨c_1, h⟩ := chk_some h
  obtain ⟨M_2, e_3, h⟩ := app_some h
  refine zr_putI (q := 80) (ci := 10) (k := 2) dX10_read_77 rfl (eq_of_beq c_1) rfl (by decide) rfl zbX10 tyX10_ok nmX10 (by decide) zb_379 (Or.inl rfl) rfl ?_
  refine zr_mem e_3 ?_
  refine zr_aload_n (q := 81) dX10_read_80 rfl rfl 0 rfl ?_
  obtain ⟨c_4, h⟩ := chk_some h
  refine zr_get (q := 84) (ci := 10) (k := 29) dX10_read_81 rfl (eq_of_beq c_4) rfl (by decide) rfl zbX10 (by decide) zb_382 rfl ?_
  refine zr_if_le (q := 87) (tgt := 92) dX10_read_84 rfl (by decide) (fun c_5 => ?_) (fun c_5 => ?_)
  · replace h := ite_t c_5 h
    refine zr_aload_n (q := 93) dX10_read_92 rfl rfl 0 rfl ?_
    obtain ⟨c_9, h⟩ := chk_some h
    obtain ⟨r_6, M_7, hc_8, h⟩ := bnd2_some h
    refine zr_callVV (μ' := uX10_endRow) (q := 96) (n := 0) (ci := 10) (As := []) (u' := (0, 0)) (tX10_endRow n M_2 v0 _ _ hc_8) dX10_read_93 rfl rfl ⟨zb_457, zb_458, zb_459, zb_460, zb_389⟩ zd_X10_endRow ⟨by decide, by decide⟩ ⟨by decide, by decide⟩ (eq_of_beq c_9) (by decide) rfl rfl rfl (Nat.le_of_ble_eq_true rfl) rfl rfl ?_
    refine zr_aload_n (q := 97) dX10_read_96 rfl rfl 0 rfl ?_
    obtain ⟨c_10, h⟩ := chk_some h
    obtain ⟨a_11, e_12, h⟩ := bnd_some h
    refine zr_getr (q := 100) (ci := 10) (k := 7) dX10_read_97 rfl (eq_of_beq c_10) rfl (by decide) rfl zbX10 (by decide) zb_478 rfl e_12 ?_
    refine zr_iconst (q := 101) (v := 2) dX10_read_100 rfl (by decide) ?_
    refine zr_aload_n (q := 102) dX10_read_101 rfl rfl 0 rfl ?_
    obtain ⟨c_13, h⟩ := chk_some h
    refine zr_get (q := 105) (ci := 10) (k := 14) dX10_read_102 rfl (eq_of_beq c_13) rfl (by decide) rfl zbX10 (by decide) zb_399 rfl ?_
    obtain ⟨c_14, h⟩ := chk_some h
    obtain ⟨c_15, h⟩ := chk_some h
    obtain ⟨M_16, e_17, h⟩ := app_some h
    refine zr_iast (q := 106) dX10_read_105 rfl (eq_of_beq c_14) c_15 ?_
    refine zr_mem e_17 ?_
    refine zr_aload_n (q := 107) dX10_read_106 rfl rfl 0 rfl ?_
    obtain ⟨c_18, h⟩ := chk_some h
    obtain ⟨a_19, e_20, h⟩ := bnd_some h
    refine zr_getr (q := 110) (ci := 10) (k := 8) dX10_read_107 rfl (eq_of_beq c_18) rfl (by decide) rfl zbX10 (by decide) zb_479 rfl e_20 ?_
    refine zr_iconst (q := 111) (v := 2) dX10_read_110 rfl (by decide) ?_
    refine zr_aload_n (q := 112) dX10_read_111 rfl rfl 0 rfl ?_
    obtain ⟨c_21, h⟩ := chk_some h
    obtain ⟨a_22, e_23, h⟩ := bnd_some h
    refine zr_getr (q := 115) (ci := 10) (k := 23) dX10_read_112 rfl (eq_of_beq c_21) rfl (by decide) rfl zbX10 (by decide) zb_395 rfl e_23 ?_
    refine zr_iconst (q := 116) (v := 0) dX10_read_115 rfl (by decide) ?_
    obtain ⟨c_24, h⟩ := chk_some h
    obtain ⟨c_25, h⟩ := chk_some h
    refine zr_zald (q := 117) dX10_read_116 rfl (eq_of_beq c_24) c_25 ?_
    obtain ⟨c_26, h⟩ := chk_some h
    obtain ⟨c_27, h⟩ := chk_some h
    obtain ⟨M_28, e_29, h⟩ := app_some h
    refine zr_zast (q := 118) dX10_read_117 rfl (eq_of_beq c_26) c_27 ?_
    refine zr_mem e_29 ?_
    refine zr_aload_n (q := 119) dX10_read_118 rfl rfl 0 rfl ?_
    obtain ⟨c_30, h⟩ := chk_some h
    obtain ⟨a_31, e_32, h⟩ := bnd_some h
    refine zr_getr (q := 122) (ci := 10) (k := 9) dX10_read_119 rfl (eq_of_beq c_30) rfl (by decide) rfl zbX10 (by decide) zb_480 rfl e_32 ?_
    refine zr_iconst (q := 123) (v := 2) dX10_read_122 rfl (by decide) ?_
    refine zr_aload_n (q := 124) dX10_read_123 rfl rfl 0 rfl ?_
    obtain ⟨c_33, h⟩ := chk_some h
    obtain ⟨a_34, e_35, h⟩ := bnd_some h
    refine zr_getr (q := 127) (ci := 10) (k := 24) dX10_read_124 rfl (eq_of_beq c_33) rfl (by decide) rfl zbX10 (by decide) zb_396 rfl e_35 ?_
    refine zr_iconst (q := 128) (v := 0) dX10_read_127 rfl (by decide) ?_
    obtain ⟨c_36, h⟩ := chk_some h
    obtain ⟨c_37, h⟩ := chk_some h
    refine zr_lald (q := 129) dX10_read_128 rfl (eq_of_beq c_36) c_37 ?_
    obtain ⟨c_38, h⟩ := chk_some h
    obtain ⟨c_39, h⟩ := chk_some h
    obtain ⟨M_40, e_41, h⟩ := app_some h
    refine zr_last (q := 130) dX10_read_129 rfl (eq_of_beq c_38) c_39 ?_
    refine zr_mem e_41 ?_
    refine zr_aload_n (q := 131) dX10_read_130 rfl rfl 0 rfl ?_
    obtain ⟨c_42, h⟩ := chk_some h
    obtain ⟨a_43, e_44, h⟩ := bnd_some h
    refine zr_getr (q := 134) (ci := 10) (k := 10) dX10_read_131 rfl (eq_of_beq c_42) rfl (by decide) rfl zbX10 (by decide) zb_481 rfl e_44 ?_
    refine zr_iconst (q := 135) (v := 2) dX10_read_134 rfl (by decide) ?_
    refine zr_aload_n (q := 136) dX10_read_135 rfl rfl 0 rfl ?_
    obtain ⟨c_45, h⟩ := chk_some h
    obtain ⟨a_46, e_47, h⟩ := bnd_some h
    refine zr_getr (q := 139) (ci := 10) (k := 25) dX10_read_136 rfl (eq_of_beq c_45) rfl (by decide) rfl zbX10 (by decide) zb_397 rfl e_47 ?_
    refine zr_iconst (q := 140) (v := 0) dX10_read_139 rfl (by decide) ?_
    obtain ⟨c_48, h⟩ := chk_some h
    obtain ⟨c_49, h⟩ := chk_some h
    refine zr_lald (q := 141) dX10_read_140 rfl (eq_of_beq c_48) c_49 ?_
    obtain ⟨c_50, h⟩ := chk_some h
    obtain ⟨c_51, h⟩ := chk_some h
    obtain ⟨M_52, e_53, h⟩ := app_some h
    refine zr_last (q := 142) dX10_read_141 rfl (eq_of_beq c_50) c_51 ?_
    refine zr_mem e_53 ?_
    refine zr_aload_n (q := 143) dX10_read_142 rfl rfl 0 rfl ?_
    refine zr_iconst (q := 144) (v := 2) dX10_read_143 rfl (by decide) ?_
    refine zr_iconst (q := 145) (v := 0) dX10_read_144 rfl (by decide) ?_
    obtain ⟨c_57, h⟩ := chk_some h
    obtain ⟨r_54, M_55, hc_56, h⟩ := bnd2_some h
    refine zr_callVV (μ' := uX10_copy) (q := 148) (n := 2) (ci := 10) (As := [.int (2 : Int32), .int (0 : Int32)]) (u' := (0, 0)) (tX10_copy n M_52 v0 (2 : Int32) (0 : Int32) _ _ hc_56) dX10_read_145 rfl rfl ⟨zb_482, zb_483, zb_484, zb_485, zb_389⟩ zd_X10_copy ⟨by decide, by decide⟩ ⟨by decide, by decide⟩ (eq_of_beq c_57) (by decide) rfl rfl rfl (Nat.le_of_ble_eq_true rfl) rfl rfl ?_
    refine zr_iconst (q := 149) (v := 0) dX10_read_148 rfl (by decide) ?_
    cases h
    exact zr_ireturn dX10_read_149 rfl ⟨by decide, by decide⟩ ⟨rfl, rfl⟩
  · replace h := ite_f c_5 h
    refine zr_aload_n (q := 88) dX10_read_87 rfl rfl 0 rfl ?_
    obtain ⟨c_58, h⟩ := chk_some h
    refine zr_get (q := 91) (ci := 10) (k := 29) dX10_read_88 rfl (eq_of_beq c_58) rfl (by decide) rfl zbX10 (by decide) zb_382 rfl ?_
    cases h
    exact zr_ireturn dX10_read_91 rfl ⟨by decide, by decide⟩ ⟨rfl, rfl⟩
def fX10_read_59 (n : Nat) (M : zM) (v0 : Nat) : Option (Int32 × zM) :=
  chk (mK M v0 == 10) <|
  if (mI M v0 13) ≤ (0 : Int32) then
    fX10_read_75 n M v0
  else
  chk (mK M v0 == 10) <|
  chk (mK M v0 == 10) <|
  bnd2 (fX10_fail n M v0 (2 : Int32) (mI M v0 2)) fun r_4 M_5 =>
  fX10_read_75 n M_5 v0
set_option maxHeartbeats 4000000 in
theorem tX10_read_59 (n : Nat) (M : zM) (v0 : Nat) (r : Int32) (M' : zM) (h : fX10_read_59 n M v0 = some (r, M')) : zW uX10_read none (0, 0) M 59 [(0, .ref v0)] [] (zE (oI r) M') := by
  unfold fX10_read_59 at h
  refine zr_aload_n (q := 60) dX10_read_59 rfl rfl 0 rfl ?_
  obtain ⟨c_1, h⟩ := chk_some h
  refine zr_get (q := 63) (ci := 10) (k := 13) dX10_read_60 rfl (eq_of_beq c_1) rfl (by decide) rfl zbX10 (by decide) zb_391 rfl ?_
  refine zr_if_le (q := 66) (tgt := 75) dX10_read_63 rfl (by decide) (fun c_2 => ?_) (fun c_2 => ?_)
  · replace h := ite_t c_2 h
    exact zr_pick [0] rfl (tX10_read_75 n M v0 _ _ h)
  · replace h := ite_f c_2 h
    refine zr_aload_n (q := 67) dX10_read_66 rfl rfl 0 rfl ?_
    refine zr_iconst (q := 68) (v := 2) dX10_read_67 rfl (by decide) ?_
    refine zr_aload_n (q := 69) dX10_read_68 rfl rfl 0 rfl ?_
    obtain ⟨c_3, h⟩ := chk_some h
    refine zr_get (q := 72) (ci := 10) (k := 2) dX10_read_69 rfl (eq_of_beq c_3) rfl (by decide) rfl zbX10 (by decide) zb_379 rfl ?_
    obtain ⟨c_7, h⟩ := chk_some h
    obtain ⟨r_4, M_5, hc_6, h⟩ := bnd2_some h
    refine zr_callVV (μ' := uX10_fail) (q := 75) (n := 2) (ci := 10) (As := [.int (2 : Int32), .int (mI M v0 2)]) (u' := (0, 0)) (tX10_fail n M v0 (2 : Int32) (mI M v0 2) _ _ hc_6) dX10_read_72 rfl rfl ⟨zb_385, zb_386, zb_387, zb_388, zb_389⟩ zd_X10_fail ⟨by decide, by decide⟩ ⟨by decide, by decide⟩ (eq_of_beq c_7) (by decide) rfl rfl rfl (Nat.le_of_ble_eq_true rfl) rfl rfl ?_
    exact zr_pick [0] rfl (tX10_read_75 n M_5 v0 _ _ h)
def fX10_read_34 : Nat → zM → Nat → Option (Int32 × zM)
  | 0, _, _ => none
  | n + 1, M, v0 =>
    chk (mK M v0 == 10) <|
    chk (mK M v0 == 10) <|
    if (mI M v0 2) ≤ (mI M v0 28) then
      fX10_read_59 n M v0
    else
    chk (mK M v0 == 10) <|
    if (mI M v0 29) = (0 : Int32) then
      chk (mK M v0 == 10) <|
      bnd2 (fX10_readOne n M v0) fun r_6 M_7 =>
      (fX10_read_34 n) M_7 v0
    else
    fX10_read_59 n M v0
set_option maxHeartbeats 4000000 in
theorem tX10_read_34 : ∀ (n : Nat) (M : zM) (v0 : Nat) (r : Int32) (M' : zM), fX10_read_34 n M v0 = some (r, M') → zW uX10_read none (0, 0) M 34 [(0, .ref v0)] [] (zE (oI r) M') := by
  intro n
  induction n with
  | zero => intro M v0 r M' h; cases h
  | succ n ih =>
    intro M v0 r M' h
    rw [fX10_read_34] at h
    refine zr_aload_n (q := 35) dX10_read_34 rfl rfl 0 rfl ?_
    obtain ⟨c_1, h⟩ := chk_some h
    refine zr_get (q := 38) (ci := 10) (k := 28) dX10_read_35 rfl (eq_of_beq c_1) rfl (by decide) rfl zbX10 (by decide) zb_384 rfl ?_
    refine zr_aload_n (q := 39) dX10_read_38 rfl rfl 0 rfl ?_
    obtain ⟨c_2, h⟩ := chk_some h
    refine zr_get (q := 42) (ci := 10) (k := 2) dX10_read_39 rfl (eq_of_beq c_2) rfl (by decide) rfl zbX10 (by decide) zb_379 rfl ?_
    refine zr_icmp_ge (q := 45) (tgt := 59) dX10_read_42 rfl (by decide) (fun c_3 => ?_) (fun c_3 => ?_)
    · replace h := ite_t c_3 h
      exact zr_pick [0] rfl (tX10_read_59 n M v0 _ _ h)
    · replace h := ite_f c_3 h
      refine zr_aload_n (q := 46) dX10_read_45 rfl rfl 0 rfl ?_
      obtain ⟨c_4, h⟩ := chk_some h
      refine zr_get (q := 49) (ci := 10) (k := 29) dX10_read_46 rfl (eq_of_beq c_4) rfl (by decide) rfl zbX10 (by decide) zb_382 rfl ?_
      refine zr_if_ne (q := 52) (tgt := 59) dX10_read_49 rfl (by decide) (fun c_5 => ?_) (fun c_5 => ?_)
      · replace h := ite_f c_5 h
        exact zr_pick [0] rfl (tX10_read_59 n M v0 _ _ h)
      · replace h := ite_t c_5 h
        refine zr_aload_n (q := 53) dX10_read_52 rfl rfl 0 rfl ?_
        obtain ⟨c_9, h⟩ := chk_some h
        obtain ⟨r_6, M_7, hc_8, h⟩ := bnd2_some h
        refine zr_callVV (μ' := uX10_readOne) (q := 56) (n := 0) (ci := 10) (As := []) (u' := (0, 0)) (tX10_readOne n M v0 _ _ hc_8) dX10_read_53 rfl rfl ⟨zb_486, zb_487, zb_488, zb_489, zb_389⟩ zd_X10_readOne ⟨by decide, by decide⟩ ⟨by decide, by decide⟩ (eq_of_beq c_9) (by decide) rfl rfl rfl (Nat.le_of_ble_eq_true rfl) rfl rfl ?_
        refine zr_goto (q := 34) dX10_read_56 (by decide) ?_
        exact zr_pick [0] rfl (ih M_7 v0 _ _ h)
def fX10_read (n : Nat) (M : zM) (v0 : Nat) : Option (Int32 × zM) :=
  chk (mK M v0 == 10) <|
  app (wI M v0 0 (0 : Int32)) fun M_2 : zM =>
  chk (mK M_2 v0 == 10) <|
  app (wI M_2 v0 28 (0 : Int32)) fun M_5 : zM =>
  chk (mK M_5 v0 == 10) <|
  app (wI M_5 v0 29 (0 : Int32)) fun M_8 : zM =>
  chk (mK M_8 v0 == 10) <|
  app (wI M_8 v0 5 (-1 : Int32)) fun M_11 : zM =>
  chk (mK M_11 v0 == 10) <|
  app (wI M_11 v0 13 (0 : Int32)) fun M_14 : zM =>
  chk (mK M_14 v0 == 10) <|
  app (wI M_14 v0 14 (0 : Int32)) fun M_17 : zM =>
  chk (mK M_17 v0 == 10) <|
  bnd2 (fX10_beginChoices n M_17 v0) fun r_19 M_20 =>
  fX10_read_34 n M_20 v0
set_option maxHeartbeats 4000000 in
theorem tX10_read (n : Nat) (M : zM) (v0 : Nat) (r : Int32) (M' : zM) (h : fX10_read n M v0 = some (r, M')) : zMet uX10_read false M [.ref v0] (zE (oI r) M') := by
  refine zMet_of (L := [(0, .ref v0)]) (by decide +kernel) rfl rfl (Nat.le_of_ble_eq_true rfl) ?_
  show zW uX10_read none (0, 0) M 0 [(0, .ref v0)] [] (zE (oI r) M')
  unfold fX10_read at h
  refine zr_aload_n (q := 1) dX10_read_0 rfl rfl 0 rfl ?_
  refine zr_iconst (q := 2) (v := 0) dX10_read_1 rfl (by decide) ?_
  obtain ⟨c_1, h⟩ := chk_some h
  obtain ⟨M_2, e_3, h⟩ := app_some h
  refine zr_putI (q := 5) (ci := 10) (k := 0) dX10_read_2 rfl (eq_of_beq c_1) rfl (by decide) rfl zbX10 tyX10_ok nmX10 (by decide) zb_378 (Or.inl rfl) rfl ?_
  refine zr_mem e_3 ?_
  refine zr_aload_n (q := 6) dX10_read_5 rfl rfl 0 rfl ?_
  refine zr_iconst (q := 7) (v := 0) dX10_read_6 rfl (by decide) ?_
  obtain ⟨c_4, h⟩ := chk_some h
  obtain ⟨M_5, e_6, h⟩ := app_some h
  refine zr_putI (q := 10) (ci := 10) (k := 28) dX10_read_7 rfl (eq_of_beq c_4) rfl (by decide) rfl zbX10 tyX10_ok nmX10 (by decide) zb_384 (Or.inl rfl) rfl ?_
  refine zr_mem e_6 ?_
  refine zr_aload_n (q := 11) dX10_read_10 rfl rfl 0 rfl ?_
  refine zr_iconst (q := 12) (v := 0) dX10_read_11 rfl (by decide) ?_
  obtain ⟨c_7, h⟩ := chk_some h
  obtain ⟨M_8, e_9, h⟩ := app_some h
  refine zr_putI (q := 15) (ci := 10) (k := 29) dX10_read_12 rfl (eq_of_beq c_7) rfl (by decide) rfl zbX10 tyX10_ok nmX10 (by decide) zb_382 (Or.inl rfl) rfl ?_
  refine zr_mem e_9 ?_
  refine zr_aload_n (q := 16) dX10_read_15 rfl rfl 0 rfl ?_
  refine zr_iconst (q := 17) (v := -1) dX10_read_16 rfl (by decide) ?_
  obtain ⟨c_10, h⟩ := chk_some h
  obtain ⟨M_11, e_12, h⟩ := app_some h
  refine zr_putI (q := 20) (ci := 10) (k := 5) dX10_read_17 rfl (eq_of_beq c_10) rfl (by decide) rfl zbX10 tyX10_ok nmX10 (by decide) zb_383 (Or.inl rfl) rfl ?_
  refine zr_mem e_12 ?_
  refine zr_aload_n (q := 21) dX10_read_20 rfl rfl 0 rfl ?_
  refine zr_iconst (q := 22) (v := 0) dX10_read_21 rfl (by decide) ?_
  obtain ⟨c_13, h⟩ := chk_some h
  obtain ⟨M_14, e_15, h⟩ := app_some h
  refine zr_putI (q := 25) (ci := 10) (k := 13) dX10_read_22 rfl (eq_of_beq c_13) rfl (by decide) rfl zbX10 tyX10_ok nmX10 (by decide) zb_391 (Or.inl rfl) rfl ?_
  refine zr_mem e_15 ?_
  refine zr_aload_n (q := 26) dX10_read_25 rfl rfl 0 rfl ?_
  refine zr_iconst (q := 27) (v := 0) dX10_read_26 rfl (by decide) ?_
  obtain ⟨c_16, h⟩ := chk_some h
  obtain ⟨M_17, e_18, h⟩ := app_some h
  refine zr_putI (q := 30) (ci := 10) (k := 14) dX10_read_27 rfl (eq_of_beq c_16) rfl (by decide) rfl zbX10 tyX10_ok nmX10 (by decide) zb_399 (Or.inl rfl) rfl ?_
  refine zr_mem e_18 ?_
  refine zr_aload_n (q := 31) dX10_read_30 rfl rfl 0 rfl ?_
  obtain ⟨c_22, h⟩ := chk_some h
  obtain ⟨r_19, M_20, hc_21, h⟩ := bnd2_some h
  refine zr_callVV (μ' := uX10_beginChoices) (q := 34) (n := 0) (ci := 10) (As := []) (u' := (0, 0)) (tX10_beginChoices n M_17 v0 _ _ hc_21) dX10_read_31 rfl rfl ⟨zb_469, zb_470, zb_471, zb_472, zb_389⟩ zd_X10_beginChoices ⟨by decide, by decide⟩ ⟨by decide, by decide⟩ (eq_of_beq c_22) (by decide) rfl rfl rfl (Nat.le_of_ble_eq_true rfl) rfl rfl ?_
  exact zr_pick [0] rfl (tX10_read_34 n M_20 v0 _ _ h)

def uX10_place : zMu := (yX10_place, cX10_place, 1, (some .int), { frames := 0, cells := 0, slots := 0, locals := 0 }, [])
theorem zd_X10_place : (uY uX10_place).cls ≠ "java/lang/invoke/MethodHandle" ∧ (uY uX10_place).cls ≠ "java/lang/invoke/VarHandle" ∧ (parseMethodDescriptor (uY uX10_place).desc).map (fun d => d.parameters.length) = some 0 := by decide +kernel
def fX10_place (n : Nat) (M : zM) (v0 : Nat) : Option (Int32 × zM) :=
  chk (mK M v0 == 10) <|
  app (wI M v0 0 (0 : Int32)) fun M_2 : zM =>
  chk (mK M_2 v0 == 10) <|
  some ((mI M_2 v0 5), M_2)
set_option maxHeartbeats 4000000 in
theorem tX10_place (n : Nat) (M : zM) (v0 : Nat) (r : Int32) (M' : zM) (h : fX10_place n M v0 = some (r, M')) : zMet uX10_place false M [.ref v0] (zE (oI r) M') := by
  refine zMet_of (L := [(0, .ref v0)]) (by decide +kernel) rfl rfl (Nat.le_of_ble_eq_true rfl) ?_
  show zW uX10_place none (0, 0) M 0 [(0, .ref v0)] [] (zE (oI r) M')
  unfold fX10_place at h
  refine zr_aload_n (q := 1) dX10_place_0 rfl rfl 0 rfl ?_
  refine zr_iconst (q := 2) (v := 0) dX10_place_1 rfl (by decide) ?_
  obtain ⟨c_1, h⟩ := chk_some h
  obtain ⟨M_2, e_3, h⟩ := app_some h
  refine zr_putI (q := 5) (ci := 10) (k := 0) dX10_place_2 rfl (eq_of_beq c_1) rfl (by decide) rfl zbX10 tyX10_ok nmX10 (by decide) zb_378 (Or.inl rfl) rfl ?_
  refine zr_mem e_3 ?_
  refine zr_aload_n (q := 6) dX10_place_5 rfl rfl 0 rfl ?_
  obtain ⟨c_4, h⟩ := chk_some h
  refine zr_get (q := 9) (ci := 10) (k := 5) dX10_place_6 rfl (eq_of_beq c_4) rfl (by decide) rfl zbX10 (by decide) zb_383 rfl ?_
  cases h
  exact zr_ireturn dX10_place_9 rfl ⟨by decide, by decide⟩ ⟨rfl, rfl⟩
