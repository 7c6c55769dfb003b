/-! by program: wip/decomp.py, wip/mk_code.py -/
def uX7_forgetAll : zMu := (yX7_forgetAll, cX7_forgetAll, 2, none, { frames := 0, cells := 0, slots := 0, locals := 0 }, [])
theorem zd_X7_forgetAll : (uY uX7_forgetAll).cls ≠ "java/lang/invoke/MethodHandle" ∧ (uY uX7_forgetAll).cls ≠ "java/lang/invoke/VarHandle" ∧ (parseMethodDescriptor (uY uX7_forgetAll).desc).map (fun d => d.parameters.length) = some 0 := by decide +kernel
def fX7_forgetAll_2 : Nat → zM → Nat → Int32 → Option (Unit × zM)
  | 0, _, _, _ => none
  | n + 1, M, v0, v1 =>
    chk (mK M v0 == 7) <|
    if (mI M v0 0) ≤ v1 then
      chk (mK M v0 == 7) <|
      app (wI M v0 0 (0 : Int32)) fun M_4 : zM =>
      some ((), M_4)
    else
    chk (mK M v0 == 7) <|
    bnd (mR M v0 3) fun a_7 =>
    chk (mK M v0 == 7) <|
    bnd (mR M v0 2) fun a_10 =>
    chk (mK M a_10 == 11) <|
    chk (zin v1 (mN M a_10)) <|
    chk (mK M a_7 == 11) <|
    chk (zin (mI M a_10 (Int32.toNatClampNeg v1)) (mN M a_7)) <|
    app (wI M a_7 (Int32.toNatClampNeg (mI M a_10 (Int32.toNatClampNeg v1))) (0 : Int32)) fun M_16 : zM =>
    app (v1 + (1 : Int32)) fun v1_18 : Int32 =>
    (fX7_forgetAll_2 n) M_16 v0 v1_18
set_option maxHeartbeats 4000000 in
theorem tX7_forgetAll_2 : ∀ (n : Nat) (M : zM) (v0 : Nat) (v1 : Int32) (r : Unit) (M' : zM), fX7_forgetAll_2 n M v0 v1 = some (r, M') → zW uX7_forgetAll none (0, 0) M 2 [(0, .ref v0), (1, .int v1)] [] (zE (oV r) M') := by
  intro n
  induction n with
  | zero => intro M v0 v1 r M' h; cases h
  | succ n ih =>
    intro M v0 v1 r M' h
    rw [fX7_forgetAll_2] at h
    refine zr_iload_n (q := 3) dX7_forgetAll_2 rfl rfl 1 rfl ?_
    refine zr_aload_n (q := 4) dX7_forgetAll_3 rfl rfl 0 rfl ?_
    obtain ⟨c_1, h⟩ := chk_some h
    refine zr_get (q := 7) (ci := 7) (k := 0) dX7_forgetAll_4 rfl (eq_of_beq c_1) rfl (by decide) rfl zbX7 (by decide) zb_1 rfl ?_
    refine zr_icmp_ge (q := 10) (tgt := 28) dX7_forgetAll_7 rfl (by decide) (fun c_2 => ?_) (fun c_2 => ?_)
    · replace h := ite_t c_2 h
      refine zr_aload_n (q := 29) dX7_forgetAll_28 rfl rfl 0 rfl ?_
      refine zr_iconst (q := 30) (v := 0) dX7_forgetAll_29 rfl (by decide) ?_
      obtain ⟨c_3, h⟩ := chk_some h
      obtain ⟨M_4, e_5, h⟩ := app_some h
      refine zr_putI (q := 33) (ci := 7) (k := 0) dX7_forgetAll_30 rfl (eq_of_beq c_3) rfl (by decide) rfl zbX7 tyX7_ok nmX7 (by decide) zb_1 (Or.inl rfl) rfl ?_
      refine zr_mem e_5 ?_
      cases h
      exact zr_return dX7_forgetAll_33 rfl ⟨by decide, by decide⟩ ⟨rfl, rfl⟩
    · replace h := ite_f c_2 h
      refine zr_aload_n (q := 11) dX7_forgetAll_10 rfl rfl 0 rfl ?_
      obtain ⟨c_6, h⟩ := chk_some h
      obtain ⟨a_7, e_8, h⟩ := bnd_some h
      refine zr_getr (q := 14) (ci := 7) (k := 3) dX7_forgetAll_11 rfl (eq_of_beq c_6) rfl (by decide) rfl zbX7 (by decide) zb_2 rfl e_8 ?_
      refine zr_aload_n (q := 15) dX7_forgetAll_14 rfl rfl 0 rfl ?_
      obtain ⟨c_9, h⟩ := chk_some h
      obtain ⟨a_10, e_11, h⟩ := bnd_some h
      refine zr_getr (q := 18) (ci := 7) (k := 2) dX7_forgetAll_15 rfl (eq_of_beq c_9) rfl (by decide) rfl zbX7 (by decide) zb_3 rfl e_11 ?_
      refine zr_iload_n (q := 19) dX7_forgetAll_18 rfl rfl 1 rfl ?_
      obtain ⟨c_12, h⟩ := chk_some h
      obtain ⟨c_13, h⟩ := chk_some h
      refine zr_iald (q := 20) dX7_forgetAll_19 rfl (eq_of_beq c_12) c_13 ?_
      refine zr_iconst (q := 21) (v := 0) dX7_forgetAll_20 rfl (by decide) ?_
      obtain ⟨c_14, h⟩ := chk_some h
      obtain ⟨c_15, h⟩ := chk_some h
      obtain ⟨M_16, e_17, h⟩ := app_some h
      refine zr_iast (q := 22) dX7_forgetAll_21 rfl (eq_of_beq c_14) c_15 ?_
      refine zr_mem e_17 ?_
      obtain ⟨v1_18, e_19, h⟩ := app_some h
      refine zr_iinc (q := 25) (v := v1_18) (L' := [(1, .int v1_18), (0, .ref v0)]) dX7_forgetAll_22 rfl 1 rfl (by rw [← e_19]; rfl) (by decide) rfl ?_
      refine zr_goto (q := 2) dX7_forgetAll_25 (by decide) ?_
      exact zr_pick [1, 0] rfl (ih M_16 v0 v1_18 _ _ h)
def fX7_forgetAll (n : Nat) (M : zM) (v0 : Nat) : Option (Unit × zM) :=
  fX7_forgetAll_2 n M v0 (0 : Int32)
set_option maxHeartbeats 4000000 in
theorem tX7_forgetAll (n : Nat) (M : zM) (v0 : Nat) (r : Unit) (M' : zM) (h : fX7_forgetAll n M v0 = some (r, M')) : zMet uX7_forgetAll false M [.ref v0] (zE (oV r) M') := by
  refine zMet_of (L := [(0, .ref v0)]) (by decide +kernel) rfl rfl (Nat.le_of_ble_eq_true rfl) ?_
  show zW uX7_forgetAll none (0, 0) M 0 [(0, .ref v0)] [] (zE (oV r) M')
  unfold fX7_forgetAll at h
  refine zr_iconst (q := 1) (v := 0) dX7_forgetAll_0 rfl (by decide) ?_
  refine zr_istore_n (q := 2) (L' := [(1, .int (0 : Int32)), (0, .ref v0)]) dX7_forgetAll_1 rfl rfl (by decide) rfl ?_
  exact zr_pick [1, 0] rfl (tX7_forgetAll_2 n M v0 (0 : Int32) _ _ h)

def uX7_homeOf : zMu := (yX7_homeOf, cX7_homeOf, 4, (some .int), { frames := 0, cells := 0, slots := 0, locals := 0 }, [])
theorem zd_X7_homeOf : (uY uX7_homeOf).cls ≠ "java/lang/invoke/MethodHandle" ∧ (uY uX7_homeOf).cls ≠ "java/lang/invoke/VarHandle" ∧ (parseMethodDescriptor (uY uX7_homeOf).desc).map (fun d => d.parameters.length) = some 1 := by decide +kernel
def fX7_homeOf (n : Nat) (M : zM) (v0 : Int64) : Option (Int32 × zM) :=
  app (v0 * (-7046029254386353131 : Int64)) fun v2_1 : Int64 =>
  some ((Int64.toInt32 (jushr v2_1 (54 : Int32))), M)
set_option maxHeartbeats 4000000 in
theorem tX7_homeOf (n : Nat) (M : zM) (v0 : Int64) (r : Int32) (M' : zM) (h : fX7_homeOf n M v0 = some (r, M')) : zMet uX7_homeOf false M [.long v0] (zE (oI r) M') := by
  refine zMet_of (L := [(0, .long v0)]) (by decide +kernel) rfl rfl (Nat.le_of_ble_eq_true rfl) ?_
  show zW uX7_homeOf none (0, 0) M 0 [(0, .long v0)] [] (zE (oI r) M')
  unfold fX7_homeOf at h
  refine zr_lload_n (q := 1) dX7_homeOf_0 rfl rfl 0 rfl ?_
  refine zr_ldc2 (q := 4) (v := -7046029254386353131) dX7_homeOf_1 rfl zb_4 ?_
  refine zr_lmul (q := 5) dX7_homeOf_4 rfl ?_
  obtain ⟨v2_1, e_2, h⟩ := app_some h
  refine zr_nmL e_2 ?_
  refine zr_lstore_n (q := 6) (L' := [(2, .long v2_1), (0, .long v0)]) dX7_homeOf_5 rfl rfl (by decide) rfl ?_
  refine zr_lload_n (q := 7) dX7_homeOf_6 rfl rfl 0 rfl ?_
  refine zr_bipush (q := 9) (v := 54) dX7_homeOf_7 rfl (by decide) ?_
  refine zr_lushr (q := 10) dX7_homeOf_9 rfl ?_
  refine zr_l2i (q := 11) dX7_homeOf_10 rfl ?_
  cases h
  exact zr_ireturn dX7_homeOf_11 rfl ⟨by decide, by decide⟩ ⟨rfl, rfl⟩

def uX7_enter : zMu := (yX7_enter, cX7_enter, 5, (some .int), { frames := 0, cells := 0, slots := 0, locals := 0 }, [])
theorem zd_X7_enter : (uY uX7_enter).cls ≠ "java/lang/invoke/MethodHandle" ∧ (uY uX7_enter).cls ≠ "java/lang/invoke/VarHandle" ∧ (parseMethodDescriptor (uY uX7_enter).desc).map (fun d => d.parameters.length) = some 2 := by decide +kernel
def fX7_enter (n : Nat) (M : zM) (v0 : Nat) (v1 : Int64) (v3 : Int32) : Option (Int32 × zM) :=
  chk (mK M v0 == 7) <|
  app (mI M v0 0) fun v4_2 : Int32 =>
  chk (mK M v0 == 7) <|
  bnd (mR M v0 1) fun a_5 =>
  chk (mK M a_5 == 12) <|
  chk (zin v4_2 (mN M a_5)) <|
  app (wL M a_5 (Int32.toNatClampNeg v4_2) v1) fun M_9 : zM =>
  chk (mK M_9 v0 == 7) <|
  bnd (mR M_9 v0 2) fun a_12 =>
  chk (mK M_9 a_12 == 11) <|
  chk (zin v4_2 (mN M_9 a_12)) <|
  app (wI M_9 a_12 (Int32.toNatClampNeg v4_2) v3) fun M_16 : zM =>
  chk (mK M_16 v0 == 7) <|
  bnd (mR M_16 v0 3) fun a_19 =>
  chk (mK M_16 a_19 == 11) <|
  chk (zin v3 (mN M_16 a_19)) <|
  app (wI M_16 a_19 (Int32.toNatClampNeg v3) (v4_2 + (1 : Int32))) fun M_23 : zM =>
  chk (mK M_23 v0 == 7) <|
  chk (mK M_23 v0 == 7) <|
  app (wI M_23 v0 0 ((mI M_23 v0 0) + (1 : Int32))) fun M_27 : zM =>
  some (v4_2, M_27)
set_option maxHeartbeats 4000000 in
theorem tX7_enter (n : Nat) (M : zM) (v0 : Nat) (v1 : Int64) (v3 : Int32) (r : Int32) (M' : zM) (h : fX7_enter n M v0 v1 v3 = some (r, M')) : zMet uX7_enter false M [.ref v0, .long v1, .int v3] (zE (oI r) M') := by
  refine zMet_of (L := [(0, .ref v0), (1, .long v1), (3, .int v3)]) (by decide +kernel) rfl rfl (Nat.le_of_ble_eq_true rfl) ?_
  show zW uX7_enter none (0, 0) M 0 [(0, .ref v0), (1, .long v1), (3, .int v3)] [] (zE (oI r) M')
  unfold fX7_enter at h
  refine zr_aload_n (q := 1) dX7_enter_0 rfl rfl 0 rfl ?_
  obtain ⟨c_1, h⟩ := chk_some h
  refine zr_get (q := 4) (ci := 7) (k := 0) dX7_enter_1 rfl (eq_of_beq c_1) rfl (by decide) rfl zbX7 (by decide) zb_1 rfl ?_
  obtain ⟨v4_2, e_3, h⟩ := app_some h
  refine zr_nmI e_3 ?_
  refine zr_istore (q := 6) (L' := [(4, .int v4_2), (0, .ref v0), (1, .long v1), (3, .int v3)]) dX7_enter_4 rfl (by decide) rfl ?_
  refine zr_aload_n (q := 7) dX7_enter_6 rfl rfl 1 rfl ?_
  obtain ⟨c_4, h⟩ := chk_some h
  obtain ⟨a_5, e_6, h⟩ := bnd_some h
  refine zr_getr (q := 10) (ci := 7) (k := 1) dX7_enter_7 rfl (eq_of_beq c_4) rfl (by decide) rfl zbX7 (by decide) zb_5 rfl e_6 ?_
  refine zr_iload (q := 12) dX7_enter_10 rfl 0 rfl ?_
  refine zr_lload_n (q := 13) dX7_enter_12 rfl rfl 2 rfl ?_
  obtain ⟨c_7, h⟩ := chk_some h
  obtain ⟨c_8, h⟩ := chk_some h
  obtain ⟨M_9, e_10, h⟩ := app_some h
  refine zr_last (q := 14) dX7_enter_13 rfl (eq_of_beq c_7) c_8 ?_
  refine zr_mem e_10 ?_
  refine zr_aload_n (q := 15) dX7_enter_14 rfl rfl 1 rfl ?_
  obtain ⟨c_11, h⟩ := chk_some h
  obtain ⟨a_12, e_13, h⟩ := bnd_some h
  refine zr_getr (q := 18) (ci := 7) (k := 2) dX7_enter_15 rfl (eq_of_beq c_11) rfl (by decide) rfl zbX7 (by decide) zb_3 rfl e_13 ?_
  refine zr_iload (q := 20) dX7_enter_18 rfl 0 rfl ?_
  refine zr_iload_n (q := 21) dX7_enter_20 rfl rfl 3 rfl ?_
  obtain ⟨c_14, h⟩ := chk_some h
  obtain ⟨c_15, h⟩ := chk_some h
  obtain ⟨M_16, e_17, h⟩ := app_some h
  refine zr_iast (q := 22) dX7_enter_21 rfl (eq_of_beq c_14) c_15 ?_
  refine zr_mem e_17 ?_
  refine zr_aload_n (q := 23) dX7_enter_22 rfl rfl 1 rfl ?_
  obtain ⟨c_18, h⟩ := chk_some h
  obtain ⟨a_19, e_20, h⟩ := bnd_some h
  refine zr_getr (q := 26) (ci := 7) (k := 3) dX7_enter_23 rfl (eq_of_beq c_18) rfl (by decide) rfl zbX7 (by decide) zb_2 rfl e_20 ?_
  refine zr_iload_n (q := 27) dX7_enter_26 rfl rfl 3 rfl ?_
  refine zr_iload (q := 29) dX7_enter_27 rfl 0 rfl ?_
  refine zr_iconst (q := 30) (v := 1) dX7_enter_29 rfl (by decide) ?_
  refine zr_iadd (q := 31) dX7_enter_30 rfl ?_
  obtain ⟨c_21, h⟩ := chk_some h
  obtain ⟨c_22, h⟩ := chk_some h
  obtain ⟨M_23, e_24, h⟩ := app_some h
  refine zr_iast (q := 32) dX7_enter_31 rfl (eq_of_beq c_21) c_22 ?_
  refine zr_mem e_24 ?_
  refine zr_aload_n (q := 33) dX7_enter_32 rfl rfl 1 rfl ?_
  refine zr_dup (q := 34) dX7_enter_33 rfl rfl ?_
  obtain ⟨c_25, h⟩ := chk_some h
  refine zr_get (q := 37) (ci := 7) (k := 0) dX7_enter_34 rfl (eq_of_beq c_25) rfl (by decide) rfl zbX7 (by decide) zb_1 rfl ?_
  refine zr_iconst (q := 38) (v := 1) dX7_enter_37 rfl (by decide) ?_
  refine zr_iadd (q := 39) dX7_enter_38 rfl ?_
  obtain ⟨c_26, h⟩ := chk_some h
  obtain ⟨M_27, e_28, h⟩ := app_some h
  refine zr_putI (q := 42) (ci := 7) (k := 0) dX7_enter_39 rfl (eq_of_beq c_26) rfl (by decide) rfl zbX7 tyX7_ok nmX7 (by decide) zb_1 (Or.inl rfl) rfl ?_
  refine zr_mem e_28 ?_
  refine zr_iload (q := 44) dX7_enter_42 rfl 0 rfl ?_
  cases h
  exact zr_ireturn dX7_enter_44 rfl ⟨by decide, by decide⟩ ⟨rfl, rfl⟩

def uX7_numberOf : zMu := (yX7_numberOf, cX7_numberOf, 8, (some .int), { frames := 1, cells := 0, slots := 0, locals := 24 }, [])
theorem zd_X7_numberOf : (uY uX7_numberOf).cls ≠ "java/lang/invoke/MethodHandle" ∧ (uY uX7_numberOf).cls ≠ "java/lang/invoke/VarHandle" ∧ (parseMethodDescriptor (uY uX7_numberOf).desc).map (fun d => d.parameters.length) = some 2 := by decide +kernel
def fX7_numberOf_72 (n : Nat) (M : zM)  : Option (Int32 × zM) :=
  some ((-1 : Int32), M)
set_option maxHeartbeats 4000000 in
theorem tX7_numberOf_72 (n : Nat) (M : zM)  (r : Int32) (M' : zM) (h : fX7_numberOf_72 n M = some (r, M')) : zW uX7_numberOf none (0, 0) M 72 [] [] (zE (oI r) M') := by
  unfold fX7_numberOf_72 at h
  refine zr_iconst (q := 73) (v := -1) dX7_numberOf_72 rfl (by decide) ?_
  cases h
  exact zr_ireturn dX7_numberOf_73 rfl ⟨by decide, by decide⟩ ⟨rfl, rfl⟩
def fX7_numberOf_9 : Nat → zM → Nat → Int64 → Int32 → Int32 → Int32 → Option (Int32 × zM)
  | 0, _, _, _, _, _, _ => none
  | n + 1, M, v0, v1, v3, v4, v5 =>
    if (1024 : Int32) ≤ v5 then
      some ((-1 : Int32), M)
    else
    app ((v4 + v5) &&& (1023 : Int32)) fun v6_2 : Int32 =>
    chk (mK M v0 == 7) <|
    bnd (mR M v0 3) fun a_5 =>
    chk (mK M a_5 == 11) <|
    chk (zin v6_2 (mN M a_5)) <|
    app ((mI M a_5 (Int32.toNatClampNeg v6_2)) - (1 : Int32)) fun v7_9 : Int32 =>
    if (0 : Int32) ≤ v7_9 then
      chk (mK M v0 == 7) <|
      bnd (mR M v0 1) fun a_13 =>
      chk (mK M a_13 == 12) <|
      chk (zin v7_9 (mN M a_13)) <|
      if (lg_cmp (mL M a_13 (Int32.toNatClampNeg v7_9)) v1) = (0 : Int32) then
        some (v7_9, M)
      else
      app (v5 + (1 : Int32)) fun v5_18 : Int32 =>
      (fX7_numberOf_9 n) M v0 v1 v3 v4 v5_18
    else
    chk (mK M v0 == 7) <|
    if v3 ≤ (mI M v0 0) then
      fX7_numberOf_72 n M
    else
    chk (mK M v0 == 7) <|
    if (300 : Int32) ≤ (mI M v0 0) then
      fX7_numberOf_72 n M
    else
    chk (mK M v0 == 7) <|
    bnd2 (fX7_enter n M v0 v1 v6_2) fun r_24 M_25 =>
    some (r_24, M_25)
set_option maxHeartbeats 4000000 in
theorem tX7_numberOf_9 : ∀ (n : Nat) (M : zM) (v0 : Nat) (v1 : Int64) (v3 : Int32) (v4 : Int32) (v5 : Int32) (r : Int32) (M' : zM), fX7_numberOf_9 n M v0 v1 v3 v4 v5 = some (r, M') → zW uX7_numberOf none (0, 0) M 9 [(0, .ref v0), (1, .long v1), (3, .int v3), (4, .int v4), (5, .int v5)] [] (zE (oI r) M') := by
  intro n
  induction n with
  | zero => intro M v0 v1 v3 v4 v5 r M' h; cases h
  | succ n ih =>
    intro M v0 v1 v3 v4 v5 r M' h
    rw [fX7_numberOf_9] at h
    refine zr_iload (q := 11) dX7_numberOf_9 rfl 4 rfl ?_
    refine zr_sipush (q := 14) (v := 1024) dX7_numberOf_11 rfl (by decide) ?_
    refine zr_icmp_ge (q := 17) (tgt := 95) dX7_numberOf_14 rfl (by decide) (fun c_1 => ?_) (fun c_1 => ?_)
    · replace h := ite_t c_1 h
      refine zr_iconst (q := 96) (v := -1) dX7_numberOf_95 rfl (by decide) ?_
      cases h
      exact zr_ireturn dX7_numberOf_96 rfl ⟨by decide, by decide⟩ ⟨rfl, rfl⟩
    · replace h := ite_f c_1 h
      refine zr_iload (q := 19) dX7_numberOf_17 rfl 3 rfl ?_
      refine zr_iload (q := 21) dX7_numberOf_19 rfl 4 rfl ?_
      refine zr_iadd (q := 22) dX7_numberOf_21 rfl ?_
      refine zr_sipush (q := 25) (v := 1023) dX7_numberOf_22 rfl (by decide) ?_
      refine zr_iand (q := 26) dX7_numberOf_25 rfl ?_
      obtain ⟨v6_2, e_3, h⟩ := app_some h
      refine zr_nmI e_3 ?_
      refine zr_istore (q := 28) (L' := [(6, .int v6_2), (0, .ref v0), (1, .long v1), (3, .int v3), (4, .int v4), (5, .int v5)]) dX7_numberOf_26 rfl (by decide) rfl ?_
      refine zr_aload_n (q := 29) dX7_numberOf_28 rfl rfl 1 rfl ?_
      obtain ⟨c_4, h⟩ := chk_some h
      obtain ⟨a_5, e_6, h⟩ := bnd_some h
      refine zr_getr (q := 32) (ci := 7) (k := 3) dX7_numberOf_29 rfl (eq_of_beq c_4) rfl (by decide) rfl zbX7 (by decide) zb_2 rfl e_6 ?_
      refine zr_iload (q := 34) dX7_numberOf_32 rfl 0 rfl ?_
      obtain ⟨c_7, h⟩ := chk_some h
      obtain ⟨c_8, h⟩ := chk_some h
      refine zr_iald (q := 35) dX7_numberOf_34 rfl (eq_of_beq c_7) c_8 ?_
      refine zr_iconst (q := 36) (v := 1) dX7_numberOf_35 rfl (by decide) ?_
      refine zr_isub (q := 37) dX7_numberOf_36 rfl ?_
      obtain ⟨v7_9, e_10, h⟩ := app_some h
      refine zr_nmI e_10 ?_
      refine zr_istore (q := 39) (L' := [(7, .int v7_9), (6, .int v6_2), (0, .ref v0), (1, .long v1), (3, .int v3), (4, .int v4), (5, .int v5)]) dX7_numberOf_37 rfl (by decide) rfl ?_
      refine zr_iload (q := 41) dX7_numberOf_39 rfl 0 rfl ?_
      refine zr_if_ge (q := 44) (tgt := 74) dX7_numberOf_41 rfl (by decide) (fun c_11 => ?_) (fun c_11 => ?_)
      · replace h := ite_t c_11 h
        refine zr_aload_n (q := 75) dX7_numberOf_74 rfl rfl 2 rfl ?_
        obtain ⟨c_12, h⟩ := chk_some h
        obtain ⟨a_13, e_14, h⟩ := bnd_some h
        refine zr_getr (q := 78) (ci := 7) (k := 1) dX7_numberOf_75 rfl (eq_of_beq c_12) rfl (by decide) rfl zbX7 (by decide) zb_5 rfl e_14 ?_
        refine zr_iload (q := 80) dX7_numberOf_78 rfl 0 rfl ?_
        obtain ⟨c_15, h⟩ := chk_some h
        obtain ⟨c_16, h⟩ := chk_some h
        refine zr_lald (q := 81) dX7_numberOf_80 rfl (eq_of_beq c_15) c_16 ?_
        refine zr_lload_n (q := 82) dX7_numberOf_81 rfl rfl 3 rfl ?_
        refine zr_lcmp (q := 83) dX7_numberOf_82 rfl ?_
        refine zr_if_ne (q := 86) (tgt := 89) dX7_numberOf_83 rfl (by decide) (fun c_17 => ?_) (fun c_17 => ?_)
        · replace h := ite_f c_17 h
          obtain ⟨v5_18, e_19, h⟩ := app_some h
          refine zr_iinc (q := 92) (v := v5_18) (L' := [(5, .int v5_18), (7, .int v7_9), (6, .int v6_2), (0, .ref v0), (1, .long v1), (3, .int v3), (4, .int v4)]) dX7_numberOf_89 rfl 6 rfl (by rw [← e_19]; rfl) (by decide) rfl ?_
          refine zr_goto (q := 9) dX7_numberOf_92 (by decide) ?_
          exact zr_pick [3, 4, 5, 6, 0] rfl (ih M v0 v1 v3 v4 v5_18 _ _ h)
        · replace h := ite_t c_17 h
          refine zr_iload (q := 88) dX7_numberOf_86 rfl 0 rfl ?_
          cases h
          exact zr_ireturn dX7_numberOf_88 rfl ⟨by decide, by decide⟩ ⟨rfl, rfl⟩
      · replace h := ite_f c_11 h
        refine zr_aload_n (q := 45) dX7_numberOf_44 rfl rfl 2 rfl ?_
        obtain ⟨c_20, h⟩ := chk_some h
        refine zr_get (q := 48) (ci := 7) (k := 0) dX7_numberOf_45 rfl (eq_of_beq c_20) rfl (by decide) rfl zbX7 (by decide) zb_1 rfl ?_
        refine zr_iload_n (q := 49) dX7_numberOf_48 rfl rfl 4 rfl ?_
        refine zr_icmp_ge (q := 52) (tgt := 72) dX7_numberOf_49 rfl (by decide) (fun c_21 => ?_) (fun c_21 => ?_)
        · replace h := ite_t c_21 h
          exact zr_pick [] rfl (tX7_numberOf_72 n M _ _ h)
        · replace h := ite_f c_21 h
          refine zr_aload_n (q := 53) dX7_numberOf_52 rfl rfl 2 rfl ?_
          obtain ⟨c_22, h⟩ := chk_some h
          refine zr_get (q := 56) (ci := 7) (k := 0) dX7_numberOf_53 rfl (eq_of_beq c_22) rfl (by decide) rfl zbX7 (by decide) zb_1 rfl ?_
          refine zr_sipush (q := 59) (v := 300) dX7_numberOf_56 rfl (by decide) ?_
          refine zr_icmp_ge (q := 62) (tgt := 72) dX7_numberOf_59 rfl (by decide) (fun c_23 => ?_) (fun c_23 => ?_)
          · replace h := ite_t c_23 h
            exact zr_pick [] rfl (tX7_numberOf_72 n M _ _ h)
          · replace h := ite_f c_23 h
            refine zr_aload_n (q := 63) dX7_numberOf_62 rfl rfl 2 rfl ?_
            refine zr_lload_n (q := 64) dX7_numberOf_63 rfl rfl 3 rfl ?_
            refine zr_iload (q := 66) dX7_numberOf_64 rfl 1 rfl ?_
            obtain ⟨c_27, h⟩ := chk_some h
            obtain ⟨r_24, M_25, hc_26, h⟩ := bnd2_some h
            refine zr_callVI (μ' := uX7_enter) (q := 69) (n := 2) (ci := 7) (As := [.long v1, .int v6_2]) (u' := (0, 0)) (tX7_enter n M v0 v1 v6_2 _ _ hc_26) dX7_numberOf_66 rfl rfl ⟨zb_6, zb_7, zb_8, zb_9, zb_10⟩ zd_X7_enter ⟨by decide, by decide⟩ ⟨by decide, by decide⟩ (eq_of_beq c_27) (by decide) rfl rfl rfl (Nat.le_of_ble_eq_true rfl) rfl rfl ?_
            refine zr_goto (q := 73) dX7_numberOf_69 (by decide) ?_
            cases h
            exact zr_ireturn dX7_numberOf_73 rfl ⟨by decide, by decide⟩ ⟨rfl, rfl⟩
def fX7_numberOf (n : Nat) (M : zM) (v0 : Nat) (v1 : Int64) (v3 : Int32) : Option (Int32 × zM) :=
  bnd2 (fX7_homeOf n M v1) fun r_1 M_2 =>
  fX7_numberOf_9 n M_2 v0 v1 v3 r_1 (0 : Int32)
set_option maxHeartbeats 4000000 in
theorem tX7_numberOf (n : Nat) (M : zM) (v0 : Nat) (v1 : Int64) (v3 : Int32) (r : Int32) (M' : zM) (h : fX7_numberOf n M v0 v1 v3 = some (r, M')) : zMet uX7_numberOf false M [.ref v0, .long v1, .int v3] (zE (oI r) M') := by
  refine zMet_of (L := [(0, .ref v0), (1, .long v1), (3, .int v3)]) (by decide +kernel) rfl rfl (Nat.le_of_ble_eq_true rfl) ?_
  show zW uX7_numberOf none (0, 0) M 0 [(0, .ref v0), (1, .long v1), (3, .int v3)] [] (zE (oI r) M')
  unfold fX7_numberOf at h
  refine zr_lload_n (q := 1) dX7_numberOf_0 rfl rfl 1 rfl ?_
  obtain ⟨r_1, M_2, hc_3, h⟩ := bnd2_some h
  refine zr_callSI (μ' := uX7_homeOf) (q := 4) (n := 1) (As := [.long v1]) (u' := (0, 0)) (tX7_homeOf n M v1 _ _ hc_3) dX7_numberOf_1 rfl rfl ⟨zb_11, zb_12, zb_13, zb_10⟩ zd_X7_homeOf ⟨by decide, by decide⟩ ⟨by decide, by decide⟩ rfl rfl (Nat.le_of_ble_eq_true rfl) rfl ?_
  refine zr_istore (q := 6) (L' := [(4, .int r_1), (0, .ref v0), (1, .long v1), (3, .int v3)]) dX7_numberOf_4 rfl (by decide) rfl ?_
  refine zr_iconst (q := 7) (v := 0) dX7_numberOf_6 rfl (by decide) ?_
  refine zr_istore (q := 9) (L' := [(5, .int (0 : Int32)), (4, .int r_1), (0, .ref v0), (1, .long v1), (3, .int v3)]) dX7_numberOf_7 rfl (by decide) rfl ?_
  exact zr_pick [2, 3, 4, 1, 0] rfl (tX7_numberOf_9 n M_2 v0 v1 v3 r_1 (0 : Int32) _ _ h)
