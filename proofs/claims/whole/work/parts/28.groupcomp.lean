/-! by program: wip/decomp.py, wip/mk_code.py -/
def uX1_join : zMu := (yX1_join, cX1_join, 6, none, { frames := 0, cells := 0, slots := 0, locals := 0 }, [])
theorem zd_X1_join : (uY uX1_join).cls ≠ "java/lang/invoke/MethodHandle" ∧ (uY uX1_join).cls ≠ "java/lang/invoke/VarHandle" ∧ (parseMethodDescriptor (uY uX1_join).desc).map (fun d => d.parameters.length) = some 2 := by decide +kernel
def fX1_join_80 (k52 : zM → Nat → Int32 → Int32 → Int32 → Option (Unit × zM)) (n : Nat) (M : zM) (v0 : Nat) (v3 : Int32) (v4 : Int32) (v5 : Int32) : Option (Unit × zM) :=
  app (v5 + (1 : Int32)) fun v5_1 : Int32 =>
  k52 M v0 v3 v4 v5_1
set_option maxHeartbeats 4000000 in
theorem tX1_join_80 (k52 : zM → Nat → Int32 → Int32 → Int32 → Option (Unit × zM)) (h52 : ∀ (M : zM) (v0 : Nat) (v3 : Int32) (v4 : Int32) (v5 : Int32) (r : Unit) (M' : zM), k52 M v0 v3 v4 v5 = some (r, M') → zW uX1_join none (0, 0) M 52 [(0, .ref v0), (3, .int v3), (4, .int v4), (5, .int v5)] [] (zE (oV r) M')) (n : Nat) (M : zM) (v0 : Nat) (v3 : Int32) (v4 : Int32) (v5 : Int32) (r : Unit) (M' : zM) (h : fX1_join_80 k52 n M v0 v3 v4 v5 = some (r, M')) : zW uX1_join none (0, 0) M 80 [(0, .ref v0), (3, .int v3), (4, .int v4), (5, .int v5)] [] (zE (oV r) M') := by
  unfold fX1_join_80 at h
  obtain ⟨v5_1, e_2, h⟩ := app_some h
  refine zr_iinc (q := 83) (v := v5_1) (L' := [(5, .int v5_1), (0, .ref v0), (3, .int v3), (4, .int v4)]) dX1_join_80 rfl 3 rfl (by rw [← e_2]; rfl) (by decide) rfl ?_
  refine zr_goto (q := 52) dX1_join_83 (by decide) ?_
  exact zr_pick [1, 2, 3, 0] rfl (h52 M v0 v3 v4 v5_1 _ _ h)
def fX1_join_52 : Nat → zM → Nat → Int32 → Int32 → Int32 → Option (Unit × zM)
  | 0, _, _, _, _, _ => none
  | n + 1, M, v0, v3, v4, v5 =>
    if (600 : Int32) ≤ v5 then
      some ((), M)
    else
    chk (mK M v0 == 1) <|
    bnd (mR M v0 2) fun a_3 =>
    chk (mK M a_3 == 11) <|
    chk (zin v5 (mN M a_3)) <|
    if (mI M a_3 (Int32.toNatClampNeg v5)) = v3 then
      chk (mK M v0 == 1) <|
      bnd (mR M v0 2) fun a_9 =>
      chk (mK M a_9 == 11) <|
      chk (zin v5 (mN M a_9)) <|
      app (wI M a_9 (Int32.toNatClampNeg v5) v4) fun M_13 : zM =>
      fX1_join_80 (fX1_join_52 n) n M_13 v0 v3 v4 v5
    else
    fX1_join_80 (fX1_join_52 n) n M v0 v3 v4 v5
set_option maxHeartbeats 4000000 in
theorem tX1_join_52 : ∀ (n : Nat) (M : zM) (v0 : Nat) (v3 : Int32) (v4 : Int32) (v5 : Int32) (r : Unit) (M' : zM), fX1_join_52 n M v0 v3 v4 v5 = some (r, M') → zW uX1_join none (0, 0) M 52 [(0, .ref v0), (3, .int v3), (4, .int v4), (5, .int v5)] [] (zE (oV r) M') := by
  intro n
  induction n with
  | zero => intro M v0 v3 v4 v5 r M' h; cases h
  | succ n ih =>
    intro M v0 v3 v4 v5 r M' h
    rw [fX1_join_52] at h
    refine zr_iload (q := 54) dX1_join_52 rfl 3 rfl ?_
    refine zr_sipush (q := 57) (v := 600) dX1_join_54 rfl (by decide) ?_
    refine zr_icmp_ge (q := 60) (tgt := 86) dX1_join_57 rfl (by decide) (fun c_1 => ?_) (fun c_1 => ?_)
    · replace h := ite_t c_1 h
      cases h
      exact zr_return dX1_join_86 rfl ⟨by decide, by decide⟩ ⟨rfl, rfl⟩
    · replace h := ite_f c_1 h
      refine zr_aload_n (q := 61) dX1_join_60 rfl rfl 0 rfl ?_
      obtain ⟨c_2, h⟩ := chk_some h
      obtain ⟨a_3, e_4, h⟩ := bnd_some h
      refine zr_getr (q := 64) (ci := 1) (k := 2) dX1_join_61 rfl (eq_of_beq c_2) rfl (by decide) rfl zbX1 (by decide) zb_48 rfl e_4 ?_
      refine zr_iload (q := 66) dX1_join_64 rfl 3 rfl ?_
      obtain ⟨c_5, h⟩ := chk_some h
      obtain ⟨c_6, h⟩ := chk_some h
      refine zr_iald (q := 67) dX1_join_66 rfl (eq_of_beq c_5) c_6 ?_
      refine zr_iload_n (q := 68) dX1_join_67 rfl rfl 1 rfl ?_
      refine zr_icmp_ne (q := 71) (tgt := 80) dX1_join_68 rfl (by decide) (fun c_7 => ?_) (fun c_7 => ?_)
      · replace h := ite_f c_7 h
        exact zr_pick [0, 1, 2, 3] rfl (tX1_join_80 (fX1_join_52 n) ih n M v0 v3 v4 v5 _ _ h)
      · replace h := ite_t c_7 h
        refine zr_aload_n (q := 72) dX1_join_71 rfl rfl 0 rfl ?_
        obtain ⟨c_8, h⟩ := chk_some h
        obtain ⟨a_9, e_10, h⟩ := bnd_some h
        refine zr_getr (q := 75) (ci := 1) (k := 2) dX1_join_72 rfl (eq_of_beq c_8) rfl (by decide) rfl zbX1 (by decide) zb_48 rfl e_10 ?_
        refine zr_iload (q := 77) dX1_join_75 rfl 3 rfl ?_
        refine zr_iload (q := 79) dX1_join_77 rfl 2 rfl ?_
        obtain ⟨c_11, h⟩ := chk_some h
        obtain ⟨c_12, h⟩ := chk_some h
        obtain ⟨M_13, e_14, h⟩ := app_some h
        refine zr_iast (q := 80) dX1_join_79 rfl (eq_of_beq c_11) c_12 ?_
        refine zr_mem e_14 ?_
        exact zr_pick [0, 1, 2, 3] rfl (tX1_join_80 (fX1_join_52 n) ih n M_13 v0 v3 v4 v5 _ _ h)
def fX1_join (n : Nat) (M : zM) (v0 : Nat) (v1 : Int32) (v2 : Int32) : Option (Unit × zM) :=
  chk (mK M v0 == 1) <|
  bnd (mR M v0 4) fun a_2 =>
  chk (mK M v0 == 1) <|
  chk (mK M a_2 == 11) <|
  chk (zin (mI M v0 3) (mN M a_2)) <|
  app (wI M a_2 (Int32.toNatClampNeg (mI M v0 3)) v1) fun M_7 : zM =>
  chk (mK M_7 v0 == 1) <|
  bnd (mR M_7 v0 5) fun a_10 =>
  chk (mK M_7 v0 == 1) <|
  chk (mK M_7 a_10 == 11) <|
  chk (zin (mI M_7 v0 3) (mN M_7 a_10)) <|
  app (wI M_7 a_10 (Int32.toNatClampNeg (mI M_7 v0 3)) v2) fun M_15 : zM =>
  chk (mK M_15 v0 == 1) <|
  chk (mK M_15 v0 == 1) <|
  app (wI M_15 v0 3 ((mI M_15 v0 3) + (1 : Int32))) fun M_19 : zM =>
  chk (mK M_19 v0 == 1) <|
  bnd (mR M_19 v0 2) fun a_22 =>
  chk (mK M_19 a_22 == 11) <|
  chk (zin ((300 : Int32) + v2) (mN M_19 a_22)) <|
  app (mI M_19 a_22 (Int32.toNatClampNeg ((300 : Int32) + v2))) fun v3_26 : Int32 =>
  chk (mK M_19 v0 == 1) <|
  bnd (mR M_19 v0 2) fun a_29 =>
  chk (mK M_19 a_29 == 11) <|
  chk (zin v1 (mN M_19 a_29)) <|
  app (mI M_19 a_29 (Int32.toNatClampNeg v1)) fun v4_33 : Int32 =>
  fX1_join_52 n M_19 v0 v3_26 v4_33 (0 : Int32)
set_option maxHeartbeats 4000000 in
theorem tX1_join (n : Nat) (M : zM) (v0 : Nat) (v1 : Int32) (v2 : Int32) (r : Unit) (M' : zM) (h : fX1_join n M v0 v1 v2 = some (r, M')) : zMet uX1_join false M [.ref v0, .int v1, .int v2] (zE (oV r) M') := by
  refine zMet_of (L := [(0, .ref v0), (1, .int v1), (2, .int v2)]) (by decide +kernel) rfl rfl (Nat.le_of_ble_eq_true rfl) ?_
  show zW uX1_join none (0, 0) M 0 [(0, .ref v0), (1, .int v1), (2, .int v2)] [] (zE (oV r) M')
  unfold fX1_join at h
  refine zr_aload_n (q := 1) dX1_join_0 rfl rfl 0 rfl ?_
  obtain ⟨c_1, h⟩ := chk_some h
  obtain ⟨a_2, e_3, h⟩ := bnd_some h
  refine zr_getr (q := 4) (ci := 1) (k := 4) dX1_join_1 rfl (eq_of_beq c_1) rfl (by decide) rfl zbX1 (by decide) zb_49 rfl e_3 ?_
  refine zr_aload_n (q := 5) dX1_join_4 rfl rfl 0 rfl ?_
  obtain ⟨c_4, h⟩ := chk_some h
  refine zr_get (q := 8) (ci := 1) (k := 3) dX1_join_5 rfl (eq_of_beq c_4) rfl (by decide) rfl zbX1 (by decide) zb_50 rfl ?_
  refine zr_iload_n (q := 9) dX1_join_8 rfl rfl 1 rfl ?_
  obtain ⟨c_5, h⟩ := chk_some h
  obtain ⟨c_6, h⟩ := chk_some h
  obtain ⟨M_7, e_8, h⟩ := app_some h
  refine zr_iast (q := 10) dX1_join_9 rfl (eq_of_beq c_5) c_6 ?_
  refine zr_mem e_8 ?_
  refine zr_aload_n (q := 11) dX1_join_10 rfl rfl 0 rfl ?_
  obtain ⟨c_9, h⟩ := chk_some h
  obtain ⟨a_10, e_11, h⟩ := bnd_some h
  refine zr_getr (q := 14) (ci := 1) (k := 5) dX1_join_11 rfl (eq_of_beq c_9) rfl (by decide) rfl zbX1 (by decide) zb_51 rfl e_11 ?_
  refine zr_aload_n (q := 15) dX1_join_14 rfl rfl 0 rfl ?_
  obtain ⟨c_12, h⟩ := chk_some h
  refine zr_get (q := 18) (ci := 1) (k := 3) dX1_join_15 rfl (eq_of_beq c_12) rfl (by decide) rfl zbX1 (by decide) zb_50 rfl ?_
  refine zr_iload_n (q := 19) dX1_join_18 rfl rfl 2 rfl ?_
  obtain ⟨c_13, h⟩ := chk_some h
  obtain ⟨c_14, h⟩ := chk_some h
  obtain ⟨M_15, e_16, h⟩ := app_some h
  refine zr_iast (q := 20) dX1_join_19 rfl (eq_of_beq c_13) c_14 ?_
  refine zr_mem e_16 ?_
  refine zr_aload_n (q := 21) dX1_join_20 rfl rfl 0 rfl ?_
  refine zr_dup (q := 22) dX1_join_21 rfl rfl ?_
  obtain ⟨c_17, h⟩ := chk_some h
  refine zr_get (q := 25) (ci := 1) (k := 3) dX1_join_22 rfl (eq_of_beq c_17) rfl (by decide) rfl zbX1 (by decide) zb_50 rfl ?_
  refine zr_iconst (q := 26) (v := 1) dX1_join_25 rfl (by decide) ?_
  refine zr_iadd (q := 27) dX1_join_26 rfl ?_
  obtain ⟨c_18, h⟩ := chk_some h
  obtain ⟨M_19, e_20, h⟩ := app_some h
  refine zr_putI (q := 30) (ci := 1) (k := 3) dX1_join_27 rfl (eq_of_beq c_18) rfl (by decide) rfl zbX1 tyX1_ok nmX1 (by decide) zb_50 (Or.inl rfl) rfl ?_
  refine zr_mem e_20 ?_
  refine zr_aload_n (q := 31) dX1_join_30 rfl rfl 0 rfl ?_
  obtain ⟨c_21, h⟩ := chk_some h
  obtain ⟨a_22, e_23, h⟩ := bnd_some h
  refine zr_getr (q := 34) (ci := 1) (k := 2) dX1_join_31 rfl (eq_of_beq c_21) rfl (by decide) rfl zbX1 (by decide) zb_48 rfl e_23 ?_
  refine zr_sipush (q := 37) (v := 300) dX1_join_34 rfl (by decide) ?_
  refine zr_iload_n (q := 38) dX1_join_37 rfl rfl 2 rfl ?_
  refine zr_iadd (q := 39) dX1_join_38 rfl ?_
  obtain ⟨c_24, h⟩ := chk_some h
  obtain ⟨c_25, h⟩ := chk_some h
  refine zr_iald (q := 40) dX1_join_39 rfl (eq_of_beq c_24) c_25 ?_
  obtain ⟨v3_26, e_27, h⟩ := app_some h
  refine zr_nmI e_27 ?_
  refine zr_istore_n (q := 41) (L' := [(3, .int v3_26), (0, .ref v0), (1, .int v1), (2, .int v2)]) dX1_join_40 rfl rfl (by decide) rfl ?_
  refine zr_aload_n (q := 42) dX1_join_41 rfl rfl 1 rfl ?_
  obtain ⟨c_28, h⟩ := chk_some h
  obtain ⟨a_29, e_30, h⟩ := bnd_some h
  refine zr_getr (q := 45) (ci := 1) (k := 2) dX1_join_42 rfl (eq_of_beq c_28) rfl (by decide) rfl zbX1 (by decide) zb_48 rfl e_30 ?_
  refine zr_iload_n (q := 46) dX1_join_45 rfl rfl 2 rfl ?_
  obtain ⟨c_31, h⟩ := chk_some h
  obtain ⟨c_32, h⟩ := chk_some h
  refine zr_iald (q := 47) dX1_join_46 rfl (eq_of_beq c_31) c_32 ?_
  obtain ⟨v4_33, e_34, h⟩ := app_some h
  refine zr_nmI e_34 ?_
  refine zr_istore (q := 49) (L' := [(4, .int v4_33), (3, .int v3_26), (0, .ref v0), (1, .int v1), (2, .int v2)]) dX1_join_47 rfl (by decide) rfl ?_
  refine zr_iconst (q := 50) (v := 0) dX1_join_49 rfl (by decide) ?_
  refine zr_istore (q := 52) (L' := [(5, .int (0 : Int32)), (4, .int v4_33), (3, .int v3_26), (0, .ref v0), (1, .int v1), (2, .int v2)]) dX1_join_50 rfl (by decide) rfl ?_
  exact zr_pick [3, 2, 1, 0] rfl (tX1_join_52 n M_19 v0 v3_26 v4_33 (0 : Int32) _ _ h)

def uX1_begin : zMu := (yX1_begin, cX1_begin, 2, none, { frames := 1, cells := 0, slots := 0, locals := 25 }, [])
theorem zd_X1_begin : (uY uX1_begin).cls ≠ "java/lang/invoke/MethodHandle" ∧ (uY uX1_begin).cls ≠ "java/lang/invoke/VarHandle" ∧ (parseMethodDescriptor (uY uX1_begin).desc).map (fun d => d.parameters.length) = some 0 := by decide +kernel
def fX1_begin_2 : Nat → zM → Nat → Int32 → Option (Unit × zM)
  | 0, _, _, _ => none
  | n + 1, M, v0, v1 =>
    if (600 : Int32) ≤ v1 then
      chk (mK M v0 == 1) <|
      app (wI M v0 3 (0 : Int32)) fun M_3 : zM =>
      chk (mK M_3 v0 == 1) <|
      bnd2 (fX1_join n M_3 v0 (0 : Int32) (0 : Int32)) fun r_5 M_6 =>
      chk (mK M_6 v0 == 1) <|
      bnd (mR M_6 v0 8) fun a_10 =>
      chk (mK M_6 a_10 == 11) <|
      chk (zin (0 : Int32) (mN M_6 a_10)) <|
      app (wI M_6 a_10 (Int32.toNatClampNeg (0 : Int32)) (0 : Int32)) fun M_14 : zM =>
      some ((), M_14)
    else
    chk (mK M v0 == 1) <|
    bnd (mR M v0 2) fun a_17 =>
    chk (mK M a_17 == 11) <|
    chk (zin v1 (mN M a_17)) <|
    app (wI M a_17 (Int32.toNatClampNeg v1) v1) fun M_21 : zM =>
    app (v1 + (1 : Int32)) fun v1_23 : Int32 =>
    (fX1_begin_2 n) M_21 v0 v1_23
set_option maxHeartbeats 4000000 in
theorem tX1_begin_2 : ∀ (n : Nat) (M : zM) (v0 : Nat) (v1 : Int32) (r : Unit) (M' : zM), fX1_begin_2 n M v0 v1 = some (r, M') → zW uX1_begin none (0, 0) M 2 [(0, .ref v0), (1, .int v1)] [] (zE (oV r) M') := by
  intro n
  induction n with
  | zero => intro M v0 v1 r M' h; cases h
  | succ n ih =>
    intro M v0 v1 r M' h
    rw [fX1_begin_2] at h
    refine zr_iload_n (q := 3) dX1_begin_2 rfl rfl 1 rfl ?_
    refine zr_sipush (q := 6) (v := 600) dX1_begin_3 rfl (by decide) ?_
    refine zr_icmp_ge (q := 9) (tgt := 22) dX1_begin_6 rfl (by decide) (fun c_1 => ?_) (fun c_1 => ?_)
    · replace h := ite_t c_1 h
      refine zr_aload_n (q := 23) dX1_begin_22 rfl rfl 0 rfl ?_
      refine zr_iconst (q := 24) (v := 0) dX1_begin_23 rfl (by decide) ?_
      obtain ⟨c_2, h⟩ := chk_some h
      obtain ⟨M_3, e_4, h⟩ := app_some h
      refine zr_putI (q := 27) (ci := 1) (k := 3) dX1_begin_24 rfl (eq_of_beq c_2) rfl (by decide) rfl zbX1 tyX1_ok nmX1 (by decide) zb_50 (Or.inl rfl) rfl ?_
      refine zr_mem e_4 ?_
      refine zr_aload_n (q := 28) dX1_begin_27 rfl rfl 0 rfl ?_
      refine zr_iconst (q := 29) (v := 0) dX1_begin_28 rfl (by decide) ?_
      refine zr_iconst (q := 30) (v := 0) dX1_begin_29 rfl (by decide) ?_
      obtain ⟨c_8, h⟩ := chk_some h
      obtain ⟨r_5, M_6, hc_7, h⟩ := bnd2_some h
      refine zr_callVV (μ' := uX1_join) (q := 33) (n := 2) (ci := 1) (As := [.int (0 : Int32), .int (0 : Int32)]) (u' := (0, 0)) (tX1_join n M_3 v0 (0 : Int32) (0 : Int32) _ _ hc_7) dX1_begin_30 rfl rfl ⟨zb_52, zb_53, zb_54, zb_55, zb_56⟩ zd_X1_join ⟨by decide, by decide⟩ ⟨by decide, by decide⟩ (eq_of_beq c_8) (by decide) rfl rfl rfl (Nat.le_of_ble_eq_true rfl) rfl rfl ?_
      refine zr_aload_n (q := 34) dX1_begin_33 rfl rfl 0 rfl ?_
      obtain ⟨c_9, h⟩ := chk_some h
      obtain ⟨a_10, e_11, h⟩ := bnd_some h
      refine zr_getr (q := 37) (ci := 1) (k := 8) dX1_begin_34 rfl (eq_of_beq c_9) rfl (by decide) rfl zbX1 (by decide) zb_57 rfl e_11 ?_
      refine zr_iconst (q := 38) (v := 0) dX1_begin_37 rfl (by decide) ?_
      refine zr_iconst (q := 39) (v := 0) dX1_begin_38 rfl (by decide) ?_
      obtain ⟨c_12, h⟩ := chk_some h
      obtain ⟨c_13, h⟩ := chk_some h
      obtain ⟨M_14, e_15, h⟩ := app_some h
      refine zr_iast (q := 40) dX1_begin_39 rfl (eq_of_beq c_12) c_13 ?_
      refine zr_mem e_15 ?_
      cases h
      exact zr_return dX1_begin_40 rfl ⟨by decide, by decide⟩ ⟨rfl, rfl⟩
    · replace h := ite_f c_1 h
      refine zr_aload_n (q := 10) dX1_begin_9 rfl rfl 0 rfl ?_
      obtain ⟨c_16, h⟩ := chk_some h
      obtain ⟨a_17, e_18, h⟩ := bnd_some h
      refine zr_getr (q := 13) (ci := 1) (k := 2) dX1_begin_10 rfl (eq_of_beq c_16) rfl (by decide) rfl zbX1 (by decide) zb_48 rfl e_18 ?_
      refine zr_iload_n (q := 14) dX1_begin_13 rfl rfl 1 rfl ?_
      refine zr_iload_n (q := 15) dX1_begin_14 rfl rfl 1 rfl ?_
      obtain ⟨c_19, h⟩ := chk_some h
      obtain ⟨c_20, h⟩ := chk_some h
      obtain ⟨M_21, e_22, h⟩ := app_some h
      refine zr_iast (q := 16) dX1_begin_15 rfl (eq_of_beq c_19) c_20 ?_
      refine zr_mem e_22 ?_
      obtain ⟨v1_23, e_24, h⟩ := app_some h
      refine zr_iinc (q := 19) (v := v1_23) (L' := [(1, .int v1_23), (0, .ref v0)]) dX1_begin_16 rfl 1 rfl (by rw [← e_24]; rfl) (by decide) rfl ?_
      refine zr_goto (q := 2) dX1_begin_19 (by decide) ?_
      exact zr_pick [1, 0] rfl (ih M_21 v0 v1_23 _ _ h)
def fX1_begin (n : Nat) (M : zM) (v0 : Nat) : Option (Unit × zM) :=
  fX1_begin_2 n M v0 (0 : Int32)
set_option maxHeartbeats 4000000 in
theorem tX1_begin (n : Nat) (M : zM) (v0 : Nat) (r : Unit) (M' : zM) (h : fX1_begin n M v0 = some (r, M')) : zMet uX1_begin false M [.ref v0] (zE (oV r) M') := by
  refine zMet_of (L := [(0, .ref v0)]) (by decide +kernel) rfl rfl (Nat.le_of_ble_eq_true rfl) ?_
  show zW uX1_begin none (0, 0) M 0 [(0, .ref v0)] [] (zE (oV r) M')
  unfold fX1_begin at h
  refine zr_iconst (q := 1) (v := 0) dX1_begin_0 rfl (by decide) ?_
  refine zr_istore_n (q := 2) (L' := [(1, .int (0 : Int32)), (0, .ref v0)]) dX1_begin_1 rfl rfl (by decide) rfl ?_
  exact zr_pick [1, 0] rfl (tX1_begin_2 n M v0 (0 : Int32) _ _ h)

def uX1_tellsApart : zMu := (yX1_tellsApart, cX1_tellsApart, 7, (some .boolean), { frames := 1, cells := 0, slots := 0, locals := 25 }, [])
theorem zd_X1_tellsApart : (uY uX1_tellsApart).cls ≠ "java/lang/invoke/MethodHandle" ∧ (uY uX1_tellsApart).cls ≠ "java/lang/invoke/VarHandle" ∧ (parseMethodDescriptor (uY uX1_tellsApart).desc).map (fun d => d.parameters.length) = some 3 := by decide +kernel
def fX1_tellsApart_134 (k3 : zM → Nat → Int32 → Nat → Nat → Int32 → Option (Int32 × zM)) (n : Nat) (M : zM) (v0 : Nat) (v1 : Int32) (v2 : Nat) (v3 : Nat) (v4 : Int32) : Option (Int32 × zM) :=
  app (v4 + (1 : Int32)) fun v4_1 : Int32 =>
  k3 M v0 v1 v2 v3 v4_1
set_option maxHeartbeats 4000000 in
theorem tX1_tellsApart_134 (k3 : zM → Nat → Int32 → Nat → Nat → Int32 → Option (Int32 × zM)) (h3 : ∀ (M : zM) (v0 : Nat) (v1 : Int32) (v2 : Nat) (v3 : Nat) (v4 : Int32) (r : Int32) (M' : zM), k3 M v0 v1 v2 v3 v4 = some (r, M') → zW uX1_tellsApart none (0, 0) M 3 [(0, .ref v0), (1, .int v1), (2, .ref v2), (3, .ref v3), (4, .int v4)] [] (zE (oI r) M')) (n : Nat) (M : zM) (v0 : Nat) (v1 : Int32) (v2 : Nat) (v3 : Nat) (v4 : Int32) (r : Int32) (M' : zM) (h : fX1_tellsApart_134 k3 n M v0 v1 v2 v3 v4 = some (r, M')) : zW uX1_tellsApart none (0, 0) M 134 [(0, .ref v0), (1, .int v1), (2, .ref v2), (3, .ref v3), (4, .int v4)] [] (zE (oI r) M') := by
  unfold fX1_tellsApart_134 at h
  obtain ⟨v4_1, e_2, h⟩ := app_some h
  refine zr_iinc (q := 137) (v := v4_1) (L' := [(4, .int v4_1), (0, .ref v0), (1, .int v1), (2, .ref v2), (3, .ref v3)]) dX1_tellsApart_134 rfl 4 rfl (by rw [← e_2]; rfl) (by decide) rfl ?_
  refine zr_goto (q := 3) dX1_tellsApart_137 (by decide) ?_
  exact zr_pick [1, 2, 3, 4, 0] rfl (h3 M v0 v1 v2 v3 v4_1 _ _ h)
def fX1_tellsApart_3 : Nat → zM → Nat → Int32 → Nat → Nat → Int32 → Option (Int32 × zM)
  | 0, _, _, _, _, _, _ => none
  | n + 1, M, v0, v1, v2, v3, v4 =>
    if (36 : Int32) ≤ v4 then
      some ((0 : Int32), M)
    else
    chk (mK M v0 == 1) <|
    bnd (mR M v0 4) fun a_3 =>
    chk (mK M a_3 == 11) <|
    chk (zin v1 (mN M a_3)) <|
    chk (mK M v2 == 0) <|
    bnd2 (fX0_wayFrom n M v2 (mI M a_3 (Int32.toNatClampNeg v1)) v4) fun r_7 M_8 =>
    chk (mK M_8 v0 == 1) <|
    bnd (mR M_8 v0 5) fun a_12 =>
    chk (mK M_8 a_12 == 11) <|
    chk (zin v1 (mN M_8 a_12)) <|
    chk (mK M_8 v3 == 0) <|
    bnd2 (fX0_wayFrom n M_8 v3 (mI M_8 a_12 (Int32.toNatClampNeg v1)) v4) fun r_16 M_17 =>
    chk (mK M_17 v0 == 1) <|
    bnd (mR M_17 v0 2) fun a_21 =>
    chk (mK M_17 a_21 == 11) <|
    chk (zin r_7 (mN M_17 a_21)) <|
    chk (mK M_17 v0 == 1) <|
    bnd (mR M_17 v0 2) fun a_26 =>
    chk (mK M_17 a_26 == 11) <|
    chk (zin ((300 : Int32) + r_16) (mN M_17 a_26)) <|
    if (mI M_17 a_21 (Int32.toNatClampNeg r_7)) = (mI M_17 a_26 (Int32.toNatClampNeg ((300 : Int32) + r_16))) then
      fX1_tellsApart_134 (fX1_tellsApart_3 n) n M_17 v0 v1 v2 v3 v4
    else
    chk (mK M_17 v0 == 1) <|
    if (600 : Int32) ≤ (mI M_17 v0 3) then
      fX1_tellsApart_134 (fX1_tellsApart_3 n) n M_17 v0 v1 v2 v3 v4
    else
    chk (mK M_17 v0 == 1) <|
    bnd (mR M_17 v0 6) fun a_34 =>
    chk (mK M_17 v0 == 1) <|
    chk (mK M_17 a_34 == 11) <|
    chk (zin (mI M_17 v0 3) (mN M_17 a_34)) <|
    app (wI M_17 a_34 (Int32.toNatClampNeg (mI M_17 v0 3)) v1) fun M_39 : zM =>
    chk (mK M_39 v0 == 1) <|
    bnd (mR M_39 v0 7) fun a_42 =>
    chk (mK M_39 v0 == 1) <|
    chk (mK M_39 a_42 == 11) <|
    chk (zin (mI M_39 v0 3) (mN M_39 a_42)) <|
    app (wI M_39 a_42 (Int32.toNatClampNeg (mI M_39 v0 3)) v4) fun M_47 : zM =>
    chk (mK M_47 v0 == 1) <|
    bnd (mR M_47 v0 8) fun a_50 =>
    chk (mK M_47 v0 == 1) <|
    chk (mK M_47 v0 == 1) <|
    bnd (mR M_47 v0 8) fun a_54 =>
    chk (mK M_47 a_54 == 11) <|
    chk (zin v1 (mN M_47 a_54)) <|
    chk (mK M_47 a_50 == 11) <|
    chk (zin (mI M_47 v0 3) (mN M_47 a_50)) <|
    app (wI M_47 a_50 (Int32.toNatClampNeg (mI M_47 v0 3)) ((mI M_47 a_54 (Int32.toNatClampNeg v1)) + (1 : Int32))) fun M_60 : zM =>
    chk (mK M_60 v0 == 1) <|
    bnd2 (fX1_join n M_60 v0 r_7 r_16) fun r_62 M_63 =>
    chk (mK M_63 v2 == 0) <|
    bnd (mR M_63 v2 4) fun a_67 =>
    chk (mK M_63 a_67 == 13) <|
    chk (zin r_7 (mN M_63 a_67)) <|
    chk (mK M_63 v3 == 0) <|
    bnd (mR M_63 v3 4) fun a_72 =>
    chk (mK M_63 a_72 == 13) <|
    chk (zin r_16 (mN M_63 a_72)) <|
    if (mI M_63 a_67 (Int32.toNatClampNeg r_7)) = (mI M_63 a_72 (Int32.toNatClampNeg r_16)) then
      fX1_tellsApart_134 (fX1_tellsApart_3 n) n M_63 v0 v1 v2 v3 v4
    else
    some ((1 : Int32), M_63)
set_option maxHeartbeats 4000000 in
theorem tX1_tellsApart_3 : ∀ (n : Nat) (M : zM) (v0 : Nat) (v1 : Int32) (v2 : Nat) (v3 : Nat) (v4 : Int32) (r : Int32) (M' : zM), fX1_tellsApart_3 n M v0 v1 v2 v3 v4 = some (r, M') → zW uX1_tellsApart none (0, 0) M 3 [(0, .ref v0), (1, .int v1), (2, .ref v2), (3, .ref v3), (4, .int v4)] [] (zE (oI r) M') := by
  intro n
  induction n with
  | zero => intro M v0 v1 v2 v3 v4 r M' h; cases h
  | succ n ih =>
    intro M v0 v1 v2 v3 v4 r M' h
    rw [fX1_tellsApart_3] at h
    refine zr_iload (q := 5) dX1_tellsApart_3 rfl 4 rfl ?_
    refine zr_bipush (q := 7) (v := 36) dX1_tellsApart_5 rfl (by decide) ?_
    refine zr_icmp_ge (q := 10) (tgt := 140) dX1_tellsApart_7 rfl (by decide) (fun c_1 => ?_) (fun c_1 => ?_)
    · replace h := ite_t c_1 h
      refine zr_iconst (q := 141) (v := 0) dX1_tellsApart_140 rfl (by decide) ?_
      cases h
      exact zr_zreturn dX1_tellsApart_141 rfl (Or.inl rfl) ⟨by decide, by decide⟩ ⟨rfl, rfl⟩
    · replace h := ite_f c_1 h
      refine zr_aload_n (q := 11) dX1_tellsApart_10 rfl rfl 2 rfl ?_
      refine zr_aload_n (q := 12) dX1_tellsApart_11 rfl rfl 0 rfl ?_
      obtain ⟨c_2, h⟩ := chk_some h
      obtain ⟨a_3, e_4, h⟩ := bnd_some h
      refine zr_getr (q := 15) (ci := 1) (k := 4) dX1_tellsApart_12 rfl (eq_of_beq c_2) rfl (by decide) rfl zbX1 (by decide) zb_49 rfl e_4 ?_
      refine zr_iload_n (q := 16) dX1_tellsApart_15 rfl rfl 1 rfl ?_
      obtain ⟨c_5, h⟩ := chk_some h
      obtain ⟨c_6, h⟩ := chk_some h
      refine zr_iald (q := 17) dX1_tellsApart_16 rfl (eq_of_beq c_5) c_6 ?_
      refine zr_iload (q := 19) dX1_tellsApart_17 rfl 4 rfl ?_
      obtain ⟨c_10, h⟩ := chk_some h
      obtain ⟨r_7, M_8, hc_9, h⟩ := bnd2_some h
      refine zr_callVI (μ' := uX0_wayFrom) (q := 22) (n := 2) (ci := 0) (As := [.int (mI M a_3 (Int32.toNatClampNeg v1)), .int v4]) (u' := (0, 0)) (tX0_wayFrom n M v2 (mI M a_3 (Int32.toNatClampNeg v1)) v4 _ _ hc_9) dX1_tellsApart_19 rfl rfl ⟨zb_58, zb_59, zb_60, zb_61, zb_36⟩ zd_X0_wayFrom ⟨by decide, by decide⟩ ⟨by decide, by decide⟩ (eq_of_beq c_10) (by decide) rfl rfl rfl (Nat.le_of_ble_eq_true rfl) rfl rfl ?_
      refine zr_istore (q := 24) (L' := [(5, .int r_7), (0, .ref v0), (1, .int v1), (2, .ref v2), (3, .ref v3), (4, .int v4)]) dX1_tellsApart_22 rfl (by decide) rfl ?_
      refine zr_aload_n (q := 25) dX1_tellsApart_24 rfl rfl 4 rfl ?_
      refine zr_aload_n (q := 26) dX1_tellsApart_25 rfl rfl 1 rfl ?_
      obtain ⟨c_11, h⟩ := chk_some h
      obtain ⟨a_12, e_13, h⟩ := bnd_some h
      refine zr_getr (q := 29) (ci := 1) (k := 5) dX1_tellsApart_26 rfl (eq_of_beq c_11) rfl (by decide) rfl zbX1 (by decide) zb_51 rfl e_13 ?_
      refine zr_iload_n (q := 30) dX1_tellsApart_29 rfl rfl 2 rfl ?_
      obtain ⟨c_14, h⟩ := chk_some h
      obtain ⟨c_15, h⟩ := chk_some h
      refine zr_iald (q := 31) dX1_tellsApart_30 rfl (eq_of_beq c_14) c_15 ?_
      refine zr_iload (q := 33) dX1_tellsApart_31 rfl 5 rfl ?_
      obtain ⟨c_19, h⟩ := chk_some h
      obtain ⟨r_16, M_17, hc_18, h⟩ := bnd2_some h
      refine zr_callVI (μ' := uX0_wayFrom) (q := 36) (n := 2) (ci := 0) (As := [.int (mI M_8 a_12 (Int32.toNatClampNeg v1)), .int v4]) (u' := (0, 0)) (tX0_wayFrom n M_8 v3 (mI M_8 a_12 (Int32.toNatClampNeg v1)) v4 _ _ hc_18) dX1_tellsApart_33 rfl rfl ⟨zb_58, zb_59, zb_60, zb_61, zb_36⟩ zd_X0_wayFrom ⟨by decide, by decide⟩ ⟨by decide, by decide⟩ (eq_of_beq c_19) (by decide) rfl rfl rfl (Nat.le_of_ble_eq_true rfl) rfl rfl ?_
      refine zr_istore (q := 38) (L' := [(6, .int r_16), (5, .int r_7), (0, .ref v0), (1, .int v1), (2, .ref v2), (3, .ref v3), (4, .int v4)]) dX1_tellsApart_36 rfl (by decide) rfl ?_
      refine zr_aload_n (q := 39) dX1_tellsApart_38 rfl rfl 2 rfl ?_
      obtain ⟨c_20, h⟩ := chk_some h
      obtain ⟨a_21, e_22, h⟩ := bnd_some h
      refine zr_getr (q := 42) (ci := 1) (k := 2) dX1_tellsApart_39 rfl (eq_of_beq c_20) rfl (by decide) rfl zbX1 (by decide) zb_48 rfl e_22 ?_
      refine zr_iload (q := 44) dX1_tellsApart_42 rfl 1 rfl ?_
      obtain ⟨c_23, h⟩ := chk_some h
      obtain ⟨c_24, h⟩ := chk_some h
      refine zr_iald (q := 45) dX1_tellsApart_44 rfl (eq_of_beq c_23) c_24 ?_
      refine zr_aload_n (q := 46) dX1_tellsApart_45 rfl rfl 2 rfl ?_
      obtain ⟨c_25, h⟩ := chk_some h
      obtain ⟨a_26, e_27, h⟩ := bnd_some h
      refine zr_getr (q := 49) (ci := 1) (k := 2) dX1_tellsApart_46 rfl (eq_of_beq c_25) rfl (by decide) rfl zbX1 (by decide) zb_48 rfl e_27 ?_
      refine zr_sipush (q := 52) (v := 300) dX1_tellsApart_49 rfl (by decide) ?_
      refine zr_iload (q := 54) dX1_tellsApart_52 rfl 0 rfl ?_
      refine zr_iadd (q := 55) dX1_tellsApart_54 rfl ?_
      obtain ⟨c_28, h⟩ := chk_some h
      obtain ⟨c_29, h⟩ := chk_some h
      refine zr_iald (q := 56) dX1_tellsApart_55 rfl (eq_of_beq c_28) c_29 ?_
      refine zr_icmp_eq (q := 59) (tgt := 134) dX1_tellsApart_56 rfl (by decide) (fun c_30 => ?_) (fun c_30 => ?_)
      · replace h := ite_t c_30 h
        exact zr_pick [2, 3, 4, 5, 6] rfl (tX1_tellsApart_134 (fX1_tellsApart_3 n) ih n M_17 v0 v1 v2 v3 v4 _ _ h)
      · replace h := ite_f c_30 h
        refine zr_aload_n (q := 60) dX1_tellsApart_59 rfl rfl 2 rfl ?_
        obtain ⟨c_31, h⟩ := chk_some h
        refine zr_get (q := 63) (ci := 1) (k := 3) dX1_tellsApart_60 rfl (eq_of_beq c_31) rfl (by decide) rfl zbX1 (by decide) zb_50 rfl ?_
        refine zr_sipush (q := 66) (v := 600) dX1_tellsApart_63 rfl (by decide) ?_
        refine zr_icmp_ge (q := 69) (tgt := 134) dX1_tellsApart_66 rfl (by decide) (fun c_32 => ?_) (fun c_32 => ?_)
        · replace h := ite_t c_32 h
          exact zr_pick [2, 3, 4, 5, 6] rfl (tX1_tellsApart_134 (fX1_tellsApart_3 n) ih n M_17 v0 v1 v2 v3 v4 _ _ h)
        · replace h := ite_f c_32 h
          refine zr_aload_n (q := 70) dX1_tellsApart_69 rfl rfl 2 rfl ?_
          obtain ⟨c_33, h⟩ := chk_some h
          obtain ⟨a_34, e_35, h⟩ := bnd_some h
          refine zr_getr (q := 73) (ci := 1) (k := 6) dX1_tellsApart_70 rfl (eq_of_beq c_33) rfl (by decide) rfl zbX1 (by decide) zb_62 rfl e_35 ?_
          refine zr_aload_n (q := 74) dX1_tellsApart_73 rfl rfl 2 rfl ?_
          obtain ⟨c_36, h⟩ := chk_some h
          refine zr_get (q := 77) (ci := 1) (k := 3) dX1_tellsApart_74 rfl (eq_of_beq c_36) rfl (by decide) rfl zbX1 (by decide) zb_50 rfl ?_
          refine zr_iload_n (q := 78) dX1_tellsApart_77 rfl rfl 3 rfl ?_
          obtain ⟨c_37, h⟩ := chk_some h
          obtain ⟨c_38, h⟩ := chk_some h
          obtain ⟨M_39, e_40, h⟩ := app_some h
          refine zr_iast (q := 79) dX1_tellsApart_78 rfl (eq_of_beq c_37) c_38 ?_
          refine zr_mem e_40 ?_
          refine zr_aload_n (q := 80) dX1_tellsApart_79 rfl rfl 2 rfl ?_
          obtain ⟨c_41, h⟩ := chk_some h
          obtain ⟨a_42, e_43, h⟩ := bnd_some h
          refine zr_getr (q := 83) (ci := 1) (k := 7) dX1_tellsApart_80 rfl (eq_of_beq c_41) rfl (by decide) rfl zbX1 (by decide) zb_63 rfl e_43 ?_
          refine zr_aload_n (q := 84) dX1_tellsApart_83 rfl rfl 2 rfl ?_
          obtain ⟨c_44, h⟩ := chk_some h
          refine zr_get (q := 87) (ci := 1) (k := 3) dX1_tellsApart_84 rfl (eq_of_beq c_44) rfl (by decide) rfl zbX1 (by decide) zb_50 rfl ?_
          refine zr_iload (q := 89) dX1_tellsApart_87 rfl 6 rfl ?_
          obtain ⟨c_45, h⟩ := chk_some h
          obtain ⟨c_46, h⟩ := chk_some h
          obtain ⟨M_47, e_48, h⟩ := app_some h
          refine zr_iast (q := 90) dX1_tellsApart_89 rfl (eq_of_beq c_45) c_46 ?_
          refine zr_mem e_48 ?_
          refine zr_aload_n (q := 91) dX1_tellsApart_90 rfl rfl 2 rfl ?_
          obtain ⟨c_49, h⟩ := chk_some h
          obtain ⟨a_50, e_51, h⟩ := bnd_some h
          refine zr_getr (q := 94) (ci := 1) (k := 8) dX1_tellsApart_91 rfl (eq_of_beq c_49) rfl (by decide) rfl zbX1 (by decide) zb_57 rfl e_51 ?_
          refine zr_aload_n (q := 95) dX1_tellsApart_94 rfl rfl 2 rfl ?_
          obtain ⟨c_52, h⟩ := chk_some h
          refine zr_get (q := 98) (ci := 1) (k := 3) dX1_tellsApart_95 rfl (eq_of_beq c_52) rfl (by decide) rfl zbX1 (by decide) zb_50 rfl ?_
          refine zr_aload_n (q := 99) dX1_tellsApart_98 rfl rfl 2 rfl ?_
          obtain ⟨c_53, h⟩ := chk_some h
          obtain ⟨a_54, e_55, h⟩ := bnd_some h
          refine zr_getr (q := 102) (ci := 1) (k := 8) dX1_tellsApart_99 rfl (eq_of_beq c_53) rfl (by decide) rfl zbX1 (by decide) zb_57 rfl e_55 ?_
          refine zr_iload_n (q := 103) dX1_tellsApart_102 rfl rfl 3 rfl ?_
          obtain ⟨c_56, h⟩ := chk_some h
          obtain ⟨c_57, h⟩ := chk_some h
          refine zr_iald (q := 104) dX1_tellsApart_103 rfl (eq_of_beq c_56) c_57 ?_
          refine zr_iconst (q := 105) (v := 1) dX1_tellsApart_104 rfl (by decide) ?_
          refine zr_iadd (q := 106) dX1_tellsApart_105 rfl ?_
          obtain ⟨c_58, h⟩ := chk_some h
          obtain ⟨c_59, h⟩ := chk_some h
          obtain ⟨M_60, e_61, h⟩ := app_some h
          refine zr_iast (q := 107) dX1_tellsApart_106 rfl (eq_of_beq c_58) c_59 ?_
          refine zr_mem e_61 ?_
          refine zr_aload_n (q := 108) dX1_tellsApart_107 rfl rfl 2 rfl ?_
          refine zr_iload (q := 110) dX1_tellsApart_108 rfl 1 rfl ?_
          refine zr_iload (q := 112) dX1_tellsApart_110 rfl 0 rfl ?_
          obtain ⟨c_65, h⟩ := chk_some h
          obtain ⟨r_62, M_63, hc_64, h⟩ := bnd2_some h
          refine zr_callVV (μ' := uX1_join) (q := 115) (n := 2) (ci := 1) (As := [.int r_7, .int r_16]) (u' := (0, 0)) (tX1_join n M_60 v0 r_7 r_16 _ _ hc_64) dX1_tellsApart_112 rfl rfl ⟨zb_52, zb_53, zb_54, zb_55, zb_56⟩ zd_X1_join ⟨by decide, by decide⟩ ⟨by decide, by decide⟩ (eq_of_beq c_65) (by decide) rfl rfl rfl (Nat.le_of_ble_eq_true rfl) rfl rfl ?_
          refine zr_aload_n (q := 116) dX1_tellsApart_115 rfl rfl 4 rfl ?_
          obtain ⟨c_66, h⟩ := chk_some h
          obtain ⟨a_67, e_68, h⟩ := bnd_some h
          refine zr_getr (q := 119) (ci := 0) (k := 4) dX1_tellsApart_116 rfl (eq_of_beq c_66) rfl (by decide) rfl zbX0 (by decide) zb_64 rfl e_68 ?_
          refine zr_iload (q := 121) dX1_tellsApart_119 rfl 1 rfl ?_
          obtain ⟨c_69, h⟩ := chk_some h
          obtain ⟨c_70, h⟩ := chk_some h
          refine zr_zald (q := 122) dX1_tellsApart_121 rfl (eq_of_beq c_69) c_70 ?_
          refine zr_aload_n (q := 123) dX1_tellsApart_122 rfl rfl 5 rfl ?_
          obtain ⟨c_71, h⟩ := chk_some h
          obtain ⟨a_72, e_73, h⟩ := bnd_some h
          refine zr_getr (q := 126) (ci := 0) (k := 4) dX1_tellsApart_123 rfl (eq_of_beq c_71) rfl (by decide) rfl zbX0 (by decide) zb_64 rfl e_73 ?_
          refine zr_iload (q := 128) dX1_tellsApart_126 rfl 0 rfl ?_
          obtain ⟨c_74, h⟩ := chk_some h
          obtain ⟨c_75, h⟩ := chk_some h
          refine zr_zald (q := 129) dX1_tellsApart_128 rfl (eq_of_beq c_74) c_75 ?_
          refine zr_icmp_eq (q := 132) (tgt := 134) dX1_tellsApart_129 rfl (by decide) (fun c_76 => ?_) (fun c_76 => ?_)
          · replace h := ite_t c_76 h
            exact zr_pick [2, 3, 4, 5, 6] rfl (tX1_tellsApart_134 (fX1_tellsApart_3 n) ih n M_63 v0 v1 v2 v3 v4 _ _ h)
          · replace h := ite_f c_76 h
            refine zr_iconst (q := 133) (v := 1) dX1_tellsApart_132 rfl (by decide) ?_
            cases h
            exact zr_zreturn dX1_tellsApart_133 rfl (Or.inr rfl) ⟨by decide, by decide⟩ ⟨rfl, rfl⟩
def fX1_tellsApart (n : Nat) (M : zM) (v0 : Nat) (v1 : Int32) (v2 : Nat) (v3 : Nat) : Option (Int32 × zM) :=
  fX1_tellsApart_3 n M v0 v1 v2 v3 (0 : Int32)
set_option maxHeartbeats 4000000 in
theorem tX1_tellsApart (n : Nat) (M : zM) (v0 : Nat) (v1 : Int32) (v2 : Nat) (v3 : Nat) (r : Int32) (M' : zM) (h : fX1_tellsApart n M v0 v1 v2 v3 = some (r, M')) : zMet uX1_tellsApart false M [.ref v0, .int v1, .ref v2, .ref v3] (zE (oI r) M') := by
  refine zMet_of (L := [(0, .ref v0), (1, .int v1), (2, .ref v2), (3, .ref v3)]) (by decide +kernel) rfl rfl (Nat.le_of_ble_eq_true rfl) ?_
  show zW uX1_tellsApart none (0, 0) M 0 [(0, .ref v0), (1, .int v1), (2, .ref v2), (3, .ref v3)] [] (zE (oI r) M')
  unfold fX1_tellsApart at h
  refine zr_iconst (q := 1) (v := 0) dX1_tellsApart_0 rfl (by decide) ?_
  refine zr_istore (q := 3) (L' := [(4, .int (0 : Int32)), (0, .ref v0), (1, .int v1), (2, .ref v2), (3, .ref v3)]) dX1_tellsApart_1 rfl (by decide) rfl ?_
  exact zr_pick [1, 2, 3, 4, 0] rfl (tX1_tellsApart_3 n M v0 v1 v2 v3 (0 : Int32) _ _ h)

def uX1_spell : zMu := (yX1_spell, cX1_spell, 4, none, { frames := 0, cells := 0, slots := 0, locals := 0 }, [])
theorem zd_X1_spell : (uY uX1_spell).cls ≠ "java/lang/invoke/MethodHandle" ∧ (uY uX1_spell).cls ≠ "java/lang/invoke/VarHandle" ∧ (parseMethodDescriptor (uY uX1_spell).desc).map (fun d => d.parameters.length) = some 1 := by decide +kernel
def fX1_spell_19 : Nat → zM → Nat → Int32 → Int32 → Option (Unit × zM)
  | 0, _, _, _, _ => none
  | n + 1, M, v0, v2, v3 =>
    if v3 < (0 : Int32) then
      some ((), M)
    else
    chk (mK M v0 == 1) <|
    bnd (mR M v0 1) fun a_3 =>
    chk (mK M v0 == 1) <|
    bnd (mR M v0 7) fun a_6 =>
    chk (mK M a_6 == 11) <|
    chk (zin v2 (mN M a_6)) <|
    chk (mK M a_3 == 11) <|
    chk (zin v3 (mN M a_3)) <|
    app (wI M a_3 (Int32.toNatClampNeg v3) (mI M a_6 (Int32.toNatClampNeg v2))) fun M_12 : zM =>
    chk (mK M_12 v0 == 1) <|
    bnd (mR M_12 v0 6) fun a_15 =>
    chk (mK M_12 a_15 == 11) <|
    chk (zin v2 (mN M_12 a_15)) <|
    app (mI M_12 a_15 (Int32.toNatClampNeg v2)) fun v2_19 : Int32 =>
    app (v3 + (-1 : Int32)) fun v3_21 : Int32 =>
    (fX1_spell_19 n) M_12 v0 v2_19 v3_21
set_option maxHeartbeats 4000000 in
theorem tX1_spell_19 : ∀ (n : Nat) (M : zM) (v0 : Nat) (v2 : Int32) (v3 : Int32) (r : Unit) (M' : zM), fX1_spell_19 n M v0 v2 v3 = some (r, M') → zW uX1_spell none (0, 0) M 19 [(0, .ref v0), (2, .int v2), (3, .int v3)] [] (zE (oV r) M') := by
  intro n
  induction n with
  | zero => intro M v0 v2 v3 r M' h; cases h
  | succ n ih =>
    intro M v0 v2 v3 r M' h
    rw [fX1_spell_19] at h
    refine zr_iload_n (q := 20) dX1_spell_19 rfl rfl 2 rfl ?_
    refine zr_if_lt (q := 23) (tgt := 48) dX1_spell_20 rfl (by decide) (fun c_1 => ?_) (fun c_1 => ?_)
    · replace h := ite_t c_1 h
      cases h
      exact zr_return dX1_spell_48 rfl ⟨by decide, by decide⟩ ⟨rfl, rfl⟩
    · replace h := ite_f c_1 h
      refine zr_aload_n (q := 24) dX1_spell_23 rfl rfl 0 rfl ?_
      obtain ⟨c_2, h⟩ := chk_some h
      obtain ⟨a_3, e_4, h⟩ := bnd_some h
      refine zr_getr (q := 27) (ci := 1) (k := 1) dX1_spell_24 rfl (eq_of_beq c_2) rfl (by decide) rfl zbX1 (by decide) zb_65 rfl e_4 ?_
      refine zr_iload_n (q := 28) dX1_spell_27 rfl rfl 2 rfl ?_
      refine zr_aload_n (q := 29) dX1_spell_28 rfl rfl 0 rfl ?_
      obtain ⟨c_5, h⟩ := chk_some h
      obtain ⟨a_6, e_7, h⟩ := bnd_some h
      refine zr_getr (q := 32) (ci := 1) (k := 7) dX1_spell_29 rfl (eq_of_beq c_5) rfl (by decide) rfl zbX1 (by decide) zb_63 rfl e_7 ?_
      refine zr_iload_n (q := 33) dX1_spell_32 rfl rfl 1 rfl ?_
      obtain ⟨c_8, h⟩ := chk_some h
      obtain ⟨c_9, h⟩ := chk_some h
      refine zr_iald (q := 34) dX1_spell_33 rfl (eq_of_beq c_8) c_9 ?_
      obtain ⟨c_10, h⟩ := chk_some h
      obtain ⟨c_11, h⟩ := chk_some h
      obtain ⟨M_12, e_13, h⟩ := app_some h
      refine zr_iast (q := 35) dX1_spell_34 rfl (eq_of_beq c_10) c_11 ?_
      refine zr_mem e_13 ?_
      refine zr_aload_n (q := 36) dX1_spell_35 rfl rfl 0 rfl ?_
      obtain ⟨c_14, h⟩ := chk_some h
      obtain ⟨a_15, e_16, h⟩ := bnd_some h
      refine zr_getr (q := 39) (ci := 1) (k := 6) dX1_spell_36 rfl (eq_of_beq c_14) rfl (by decide) rfl zbX1 (by decide) zb_62 rfl e_16 ?_
      refine zr_iload_n (q := 40) dX1_spell_39 rfl rfl 1 rfl ?_
      obtain ⟨c_17, h⟩ := chk_some h
      obtain ⟨c_18, h⟩ := chk_some h
      refine zr_iald (q := 41) dX1_spell_40 rfl (eq_of_beq c_17) c_18 ?_
      obtain ⟨v2_19, e_20, h⟩ := app_some h
      refine zr_nmI e_20 ?_
      refine zr_istore_n (q := 42) (L' := [(2, .int v2_19), (0, .ref v0), (3, .int v3)]) dX1_spell_41 rfl rfl (by decide) rfl ?_
      obtain ⟨v3_21, e_22, h⟩ := app_some h
      refine zr_iinc (q := 45) (v := v3_21) (L' := [(3, .int v3_21), (2, .int v2_19), (0, .ref v0)]) dX1_spell_42 rfl 2 rfl (by rw [← e_22]; rfl) (by decide) rfl ?_
      refine zr_goto (q := 19) dX1_spell_45 (by decide) ?_
      exact zr_pick [2, 1, 0] rfl (ih M_12 v0 v2_19 v3_21 _ _ h)
def fX1_spell (n : Nat) (M : zM) (v0 : Nat) (v1 : Int32) : Option (Unit × zM) :=
  chk (mK M v0 == 1) <|
  bnd (mR M v0 8) fun a_2 =>
  chk (mK M a_2 == 11) <|
  chk (zin v1 (mN M a_2)) <|
  chk (mK M v0 == 1) <|
  app (wI M v0 0 (mI M a_2 (Int32.toNatClampNeg v1))) fun M_7 : zM =>
  chk (mK M_7 v0 == 1) <|
  app ((mI M_7 v0 0) - (1 : Int32)) fun v3_10 : Int32 =>
  fX1_spell_19 n M_7 v0 v1 v3_10
set_option maxHeartbeats 4000000 in
theorem tX1_spell (n : Nat) (M : zM) (v0 : Nat) (v1 : Int32) (r : Unit) (M' : zM) (h : fX1_spell n M v0 v1 = some (r, M')) : zMet uX1_spell false M [.ref v0, .int v1] (zE (oV r) M') := by
  refine zMet_of (L := [(0, .ref v0), (1, .int v1)]) (by decide +kernel) rfl rfl (Nat.le_of_ble_eq_true rfl) ?_
  show zW uX1_spell none (0, 0) M 0 [(0, .ref v0), (1, .int v1)] [] (zE (oV r) M')
  unfold fX1_spell at h
  refine zr_aload_n (q := 1) dX1_spell_0 rfl rfl 0 rfl ?_
  refine zr_aload_n (q := 2) dX1_spell_1 rfl rfl 0 rfl ?_
  obtain ⟨c_1, h⟩ := chk_some h
  obtain ⟨a_2, e_3, h⟩ := bnd_some h
  refine zr_getr (q := 5) (ci := 1) (k := 8) dX1_spell_2 rfl (eq_of_beq c_1) rfl (by decide) rfl zbX1 (by decide) zb_57 rfl e_3 ?_
  refine zr_iload_n (q := 6) dX1_spell_5 rfl rfl 1 rfl ?_
  obtain ⟨c_4, h⟩ := chk_some h
  obtain ⟨c_5, h⟩ := chk_some h
  refine zr_iald (q := 7) dX1_spell_6 rfl (eq_of_beq c_4) c_5 ?_
  obtain ⟨c_6, h⟩ := chk_some h
  obtain ⟨M_7, e_8, h⟩ := app_some h
  refine zr_putI (q := 10) (ci := 1) (k := 0) dX1_spell_7 rfl (eq_of_beq c_6) rfl (by decide) rfl zbX1 tyX1_ok nmX1 (by decide) zb_66 (Or.inl rfl) rfl ?_
  refine zr_mem e_8 ?_
  refine zr_iload_n (q := 11) dX1_spell_10 rfl rfl 1 rfl ?_
  refine zr_istore_n (q := 12) (L' := [(2, .int v1), (0, .ref v0), (1, .int v1)]) dX1_spell_11 rfl rfl (by decide) rfl ?_
  refine zr_aload_n (q := 13) dX1_spell_12 rfl rfl 1 rfl ?_
  obtain ⟨c_9, h⟩ := chk_some h
  refine zr_get (q := 16) (ci := 1) (k := 0) dX1_spell_13 rfl (eq_of_beq c_9) rfl (by decide) rfl zbX1 (by decide) zb_66 rfl ?_
  refine zr_iconst (q := 17) (v := 1) dX1_spell_16 rfl (by decide) ?_
  refine zr_isub (q := 18) dX1_spell_17 rfl ?_
  obtain ⟨v3_10, e_11, h⟩ := app_some h
  refine zr_nmI e_11 ?_
  refine zr_istore_n (q := 19) (L' := [(3, .int v3_10), (2, .int v1), (0, .ref v0), (1, .int v1)]) dX1_spell_18 rfl rfl (by decide) rfl ?_
  exact zr_pick [2, 1, 0] rfl (tX1_spell_19 n M_7 v0 v1 v3_10 _ _ h)

def uX1_compare : zMu := (yX1_compare, cX1_compare, 4, (some .int), { frames := 2, cells := 0, slots := 0, locals := 51 }, [])
theorem zd_X1_compare : (uY uX1_compare).cls ≠ "java/lang/invoke/MethodHandle" ∧ (uY uX1_compare).cls ≠ "java/lang/invoke/VarHandle" ∧ (parseMethodDescriptor (uY uX1_compare).desc).map (fun d => d.parameters.length) = some 2 := by decide +kernel
def fX1_compare_45 : Nat → zM → Nat → Nat → Nat → Int32 → Option (Int32 × zM)
  | 0, _, _, _, _, _ => none
  | n + 1, M, v0, v1, v2, v3 =>
    chk (mK M v0 == 1) <|
    if (mI M v0 3) ≤ v3 then
      some ((-1 : Int32), M)
    else
    if (600 : Int32) ≤ v3 then
      some ((-1 : Int32), M)
    else
    chk (mK M v0 == 1) <|
    bnd2 (fX1_tellsApart n M v0 v3 v1 v2) fun r_4 M_5 =>
    if r_4 = (0 : Int32) then
      app (v3 + (1 : Int32)) fun v3_9 : Int32 =>
      (fX1_compare_45 n) M_5 v0 v1 v2 v3_9
    else
    chk (mK M_5 v0 == 1) <|
    chk (mK M_5 v0 == 1) <|
    bnd2 (fX1_spell n M_5 v0 ((mI M_5 v0 3) - (1 : Int32))) fun r_12 M_13 =>
    chk (mK M_13 v0 == 1) <|
    some ((mI M_13 v0 0), M_13)
set_option maxHeartbeats 4000000 in
theorem tX1_compare_45 : ∀ (n : Nat) (M : zM) (v0 : Nat) (v1 : Nat) (v2 : Nat) (v3 : Int32) (r : Int32) (M' : zM), fX1_compare_45 n M v0 v1 v2 v3 = some (r, M') → zW uX1_compare none (0, 0) M 45 [(0, .ref v0), (1, .ref v1), (2, .ref v2), (3, .int v3)] [] (zE (oI r) M') := by
  intro n
  induction n with
  | zero => intro M v0 v1 v2 v3 r M' h; cases h
  | succ n ih =>
    intro M v0 v1 v2 v3 r M' h
    rw [fX1_compare_45] at h
    refine zr_iload_n (q := 46) dX1_compare_45 rfl rfl 3 rfl ?_
    refine zr_aload_n (q := 47) dX1_compare_46 rfl rfl 0 rfl ?_
    obtain ⟨c_1, h⟩ := chk_some h
    refine zr_get (q := 50) (ci := 1) (k := 3) dX1_compare_47 rfl (eq_of_beq c_1) rfl (by decide) rfl zbX1 (by decide) zb_50 rfl ?_
    refine zr_icmp_ge (q := 53) (tgt := 91) dX1_compare_50 rfl (by decide) (fun c_2 => ?_) (fun c_2 => ?_)
    · replace h := ite_t c_2 h
      refine zr_iconst (q := 92) (v := -1) dX1_compare_91 rfl (by decide) ?_
      cases h
      exact zr_ireturn dX1_compare_92 rfl ⟨by decide, by decide⟩ ⟨rfl, rfl⟩
    · replace h := ite_f c_2 h
      refine zr_iload_n (q := 54) dX1_compare_53 rfl rfl 3 rfl ?_
      refine zr_sipush (q := 57) (v := 600) dX1_compare_54 rfl (by decide) ?_
      refine zr_icmp_ge (q := 60) (tgt := 91) dX1_compare_57 rfl (by decide) (fun c_3 => ?_) (fun c_3 => ?_)
      · replace h := ite_t c_3 h
        refine zr_iconst (q := 92) (v := -1) dX1_compare_91 rfl (by decide) ?_
        cases h
        exact zr_ireturn dX1_compare_92 rfl ⟨by decide, by decide⟩ ⟨rfl, rfl⟩
      · replace h := ite_f c_3 h
        refine zr_aload_n (q := 61) dX1_compare_60 rfl rfl 0 rfl ?_
        refine zr_iload_n (q := 62) dX1_compare_61 rfl rfl 3 rfl ?_
        refine zr_aload_n (q := 63) dX1_compare_62 rfl rfl 1 rfl ?_
        refine zr_aload_n (q := 64) dX1_compare_63 rfl rfl 2 rfl ?_
        obtain ⟨c_7, h⟩ := chk_some h
        obtain ⟨r_4, M_5, hc_6, h⟩ := bnd2_some h
        refine zr_callVI (μ' := uX1_tellsApart) (q := 67) (n := 3) (ci := 1) (As := [.int v3, .ref v1, .ref v2]) (u' := (0, 0)) (tX1_tellsApart n M v0 v3 v1 v2 _ _ hc_6) dX1_compare_64 rfl rfl ⟨zb_67, zb_68, zb_69, zb_70, zb_56⟩ zd_X1_tellsApart ⟨by decide, by decide⟩ ⟨by decide, by decide⟩ (eq_of_beq c_7) (by decide) rfl rfl rfl (Nat.le_of_ble_eq_true rfl) rfl rfl ?_
        refine zr_if_eq (q := 70) (tgt := 85) dX1_compare_67 rfl (by decide) (fun c_8 => ?_) (fun c_8 => ?_)
        · replace h := ite_t c_8 h
          obtain ⟨v3_9, e_10, h⟩ := app_some h
          refine zr_iinc (q := 88) (v := v3_9) (L' := [(3, .int v3_9), (0, .ref v0), (1, .ref v1), (2, .ref v2)]) dX1_compare_85 rfl 3 rfl (by rw [← e_10]; rfl) (by decide) rfl ?_
          refine zr_goto (q := 45) dX1_compare_88 (by decide) ?_
          exact zr_pick [1, 2, 3, 0] rfl (ih M_5 v0 v1 v2 v3_9 _ _ h)
        · replace h := ite_f c_8 h
          refine zr_aload_n (q := 71) dX1_compare_70 rfl rfl 0 rfl ?_
          refine zr_aload_n (q := 72) dX1_compare_71 rfl rfl 0 rfl ?_
          obtain ⟨c_11, h⟩ := chk_some h
          refine zr_get (q := 75) (ci := 1) (k := 3) dX1_compare_72 rfl (eq_of_beq c_11) rfl (by decide) rfl zbX1 (by decide) zb_50 rfl ?_
          refine zr_iconst (q := 76) (v := 1) dX1_compare_75 rfl (by decide) ?_
          refine zr_isub (q := 77) dX1_compare_76 rfl ?_
          obtain ⟨c_15, h⟩ := chk_some h
          obtain ⟨r_12, M_13, hc_14, h⟩ := bnd2_some h
          refine zr_callVV (μ' := uX1_spell) (q := 80) (n := 1) (ci := 1) (As := [.int ((mI M_5 v0 3) - (1 : Int32))]) (u' := (0, 0)) (tX1_spell n M_5 v0 ((mI M_5 v0 3) - (1 : Int32)) _ _ hc_14) dX1_compare_77 rfl rfl ⟨zb_71, zb_72, zb_73, zb_74, zb_56⟩ zd_X1_spell ⟨by decide, by decide⟩ ⟨by decide, by decide⟩ (eq_of_beq c_15) (by decide) rfl rfl rfl (Nat.le_of_ble_eq_true rfl) rfl rfl ?_
          refine zr_aload_n (q := 81) dX1_compare_80 rfl rfl 0 rfl ?_
          obtain ⟨c_16, h⟩ := chk_some h
          refine zr_get (q := 84) (ci := 1) (k := 0) dX1_compare_81 rfl (eq_of_beq c_16) rfl (by decide) rfl zbX1 (by decide) zb_66 rfl ?_
          cases h
          exact zr_ireturn dX1_compare_84 rfl ⟨by decide, by decide⟩ ⟨rfl, rfl⟩
def fX1_compare (n : Nat) (M : zM) (v0 : Nat) (v1 : Nat) (v2 : Nat) : Option (Int32 × zM) :=
  chk (mK M v0 == 1) <|
  app (wI M v0 0 (0 : Int32)) fun M_2 : zM =>
  chk (mK M_2 v1 == 0) <|
  if (mI M_2 v1 1) = (0 : Int32) then
    chk (mK M_2 v2 == 0) <|
    if (mI M_2 v2 1) = (0 : Int32) then
      chk (mK M_2 v0 == 1) <|
      bnd2 (fX1_begin n M_2 v0) fun r_8 M_9 =>
      chk (mK M_9 v1 == 0) <|
      bnd (mR M_9 v1 4) fun a_13 =>
      chk (mK M_9 a_13 == 13) <|
      chk (zin (0 : Int32) (mN M_9 a_13)) <|
      chk (mK M_9 v2 == 0) <|
      bnd (mR M_9 v2 4) fun a_18 =>
      chk (mK M_9 a_18 == 13) <|
      chk (zin (0 : Int32) (mN M_9 a_18)) <|
      if (mI M_9 a_13 (Int32.toNatClampNeg (0 : Int32))) = (mI M_9 a_18 (Int32.toNatClampNeg (0 : Int32))) then
        fX1_compare_45 n M_9 v0 v1 v2 (0 : Int32)
      else
      some ((0 : Int32), M_9)
    else
    some ((-2 : Int32), M_2)
  else
  some ((-2 : Int32), M_2)
set_option maxHeartbeats 4000000 in
theorem tX1_compare (n : Nat) (M : zM) (v0 : Nat) (v1 : Nat) (v2 : Nat) (r : Int32) (M' : zM) (h : fX1_compare n M v0 v1 v2 = some (r, M')) : zMet uX1_compare false M [.ref v0, .ref v1, .ref v2] (zE (oI r) M') := by
  refine zMet_of (L := [(0, .ref v0), (1, .ref v1), (2, .ref v2)]) (by decide +kernel) rfl rfl (Nat.le_of_ble_eq_true rfl) ?_
  show zW uX1_compare none (0, 0) M 0 [(0, .ref v0), (1, .ref v1), (2, .ref v2)] [] (zE (oI r) M')
  unfold fX1_compare at h
  refine zr_aload_n (q := 1) dX1_compare_0 rfl rfl 0 rfl ?_
  refine zr_iconst (q := 2) (v := 0) dX1_compare_1 rfl (by decide) ?_
  obtain ⟨c_1, h⟩ := chk_some h
  obtain ⟨M_2, e_3, h⟩ := app_some h
  refine zr_putI (q := 5) (ci := 1) (k := 0) dX1_compare_2 rfl (eq_of_beq c_1) rfl (by decide) rfl zbX1 tyX1_ok nmX1 (by decide) zb_66 (Or.inl rfl) rfl ?_
  refine zr_mem e_3 ?_
  refine zr_aload_n (q := 6) dX1_compare_5 rfl rfl 1 rfl ?_
  obtain ⟨c_4, h⟩ := chk_some h
  refine zr_get (q := 9) (ci := 0) (k := 1) dX1_compare_6 rfl (eq_of_beq c_4) rfl (by decide) rfl zbX0 (by decide) zb_75 rfl ?_
  refine zr_if_ne (q := 12) (tgt := 19) dX1_compare_9 rfl (by decide) (fun c_5 => ?_) (fun c_5 => ?_)
  · replace h := ite_f c_5 h
    refine zr_bipush (q := 21) (v := -2) dX1_compare_19 rfl (by decide) ?_
    cases h
    exact zr_ireturn dX1_compare_21 rfl ⟨by decide, by decide⟩ ⟨rfl, rfl⟩
  · replace h := ite_t c_5 h
    refine zr_aload_n (q := 13) dX1_compare_12 rfl rfl 2 rfl ?_
    obtain ⟨c_6, h⟩ := chk_some h
    refine zr_get (q := 16) (ci := 0) (k := 1) dX1_compare_13 rfl (eq_of_beq c_6) rfl (by decide) rfl zbX0 (by decide) zb_75 rfl ?_
    refine zr_if_eq (q := 19) (tgt := 22) dX1_compare_16 rfl (by decide) (fun c_7 => ?_) (fun c_7 => ?_)
    · replace h := ite_t c_7 h
      refine zr_aload_n (q := 23) dX1_compare_22 rfl rfl 0 rfl ?_
      obtain ⟨c_11, h⟩ := chk_some h
      obtain ⟨r_8, M_9, hc_10, h⟩ := bnd2_some h
      refine zr_callVV (μ' := uX1_begin) (q := 26) (n := 0) (ci := 1) (As := []) (u' := (0, 0)) (tX1_begin n M_2 v0 _ _ hc_10) dX1_compare_23 rfl rfl ⟨zb_76, zb_77, zb_78, zb_79, zb_56⟩ zd_X1_begin ⟨by decide, by decide⟩ ⟨by decide, by decide⟩ (eq_of_beq c_11) (by decide) rfl rfl rfl (Nat.le_of_ble_eq_true rfl) rfl rfl ?_
      refine zr_aload_n (q := 27) dX1_compare_26 rfl rfl 1 rfl ?_
      obtain ⟨c_12, h⟩ := chk_some h
      obtain ⟨a_13, e_14, h⟩ := bnd_some h
      refine zr_getr (q := 30) (ci := 0) (k := 4) dX1_compare_27 rfl (eq_of_beq c_12) rfl (by decide) rfl zbX0 (by decide) zb_64 rfl e_14 ?_
      refine zr_iconst (q := 31) (v := 0) dX1_compare_30 rfl (by decide) ?_
      obtain ⟨c_15, h⟩ := chk_some h
      obtain ⟨c_16, h⟩ := chk_some h
      refine zr_zald (q := 32) dX1_compare_31 rfl (eq_of_beq c_15) c_16 ?_
      refine zr_aload_n (q := 33) dX1_compare_32 rfl rfl 2 rfl ?_
      obtain ⟨c_17, h⟩ := chk_some h
      obtain ⟨a_18, e_19, h⟩ := bnd_some h
      refine zr_getr (q := 36) (ci := 0) (k := 4) dX1_compare_33 rfl (eq_of_beq c_17) rfl (by decide) rfl zbX0 (by decide) zb_64 rfl e_19 ?_
      refine zr_iconst (q := 37) (v := 0) dX1_compare_36 rfl (by decide) ?_
      obtain ⟨c_20, h⟩ := chk_some h
      obtain ⟨c_21, h⟩ := chk_some h
      refine zr_zald (q := 38) dX1_compare_37 rfl (eq_of_beq c_20) c_21 ?_
      refine zr_icmp_eq (q := 41) (tgt := 43) dX1_compare_38 rfl (by decide) (fun c_22 => ?_) (fun c_22 => ?_)
      · replace h := ite_t c_22 h
        refine zr_iconst (q := 44) (v := 0) dX1_compare_43 rfl (by decide) ?_
        refine zr_istore_n (q := 45) (L' := [(3, .int (0 : Int32)), (0, .ref v0), (1, .ref v1), (2, .ref v2)]) dX1_compare_44 rfl rfl (by decide) rfl ?_
        exact zr_pick [1, 2, 3, 0] rfl (tX1_compare_45 n M_9 v0 v1 v2 (0 : Int32) _ _ h)
      · replace h := ite_f c_22 h
        refine zr_iconst (q := 42) (v := 0) dX1_compare_41 rfl (by decide) ?_
        cases h
        exact zr_ireturn dX1_compare_42 rfl ⟨by decide, by decide⟩ ⟨rfl, rfl⟩
    · replace h := ite_f c_7 h
      refine zr_bipush (q := 21) (v := -2) dX1_compare_19 rfl (by decide) ?_
      cases h
      exact zr_ireturn dX1_compare_21 rfl ⟨by decide, by decide⟩ ⟨rfl, rfl⟩

def uX2_groupByGood : zMu := (yX2_groupByGood, cX2_groupByGood, 4, (some .int), { frames := 2, cells := 0, slots := 0, locals := 51 }, [])
theorem zd_X2_groupByGood : (uY uX2_groupByGood).cls ≠ "java/lang/invoke/MethodHandle" ∧ (uY uX2_groupByGood).cls ≠ "java/lang/invoke/VarHandle" ∧ (parseMethodDescriptor (uY uX2_groupByGood).desc).map (fun d => d.parameters.length) = some 2 := by decide +kernel
def fX2_groupByGood_34 (k6 : zM → Nat → Nat → Nat → Int32 → Option (Int32 × zM)) (n : Nat) (M : zM) (v0 : Nat) (v1 : Nat) (v2 : Nat) (v3 : Int32) (s0 : Nat) (s1 : Int32) (s2 : Nat) (s3 : Int64) : Option (Int32 × zM) :=
  chk (mK M s2 == 7) <|
  bnd2 (fX7_numberOf n M s2 s3 (300 : Int32)) fun r_1 M_2 =>
  chk (mK M_2 s0 == 11) <|
  chk (zin s1 (mN M_2 s0)) <|
  app (wI M_2 s0 (Int32.toNatClampNeg s1) r_1) fun M_7 : zM =>
  app (v3 + (1 : Int32)) fun v3_9 : Int32 =>
  k6 M_7 v0 v1 v2 v3_9
set_option maxHeartbeats 4000000 in
theorem tX2_groupByGood_34 (k6 : zM → Nat → Nat → Nat → Int32 → Option (Int32 × zM)) (h6 : ∀ (M : zM) (v0 : Nat) (v1 : Nat) (v2 : Nat) (v3 : Int32) (r : Int32) (M' : zM), k6 M v0 v1 v2 v3 = some (r, M') → zW uX2_groupByGood none (0, 0) M 6 [(0, .ref v0), (1, .ref v1), (2, .ref v2), (3, .int v3)] [] (zE (oI r) M')) (n : Nat) (M : zM) (v0 : Nat) (v1 : Nat) (v2 : Nat) (v3 : Int32) (s0 : Nat) (s1 : Int32) (s2 : Nat) (s3 : Int64) (r : Int32) (M' : zM) (h : fX2_groupByGood_34 k6 n M v0 v1 v2 v3 s0 s1 s2 s3 = some (r, M')) : zW uX2_groupByGood none (0, 0) M 34 [(0, .ref v0), (1, .ref v1), (2, .ref v2), (3, .int v3)] [.long s3, .ref s2, .int s1, .ref s0] (zE (oI r) M') := by
  unfold fX2_groupByGood_34 at h
  refine zr_sipush (q := 37) (v := 300) dX2_groupByGood_34 rfl (by decide) ?_
  obtain ⟨c_4, h⟩ := chk_some h
  obtain ⟨r_1, M_2, hc_3, h⟩ := bnd2_some h
  refine zr_callVI (μ' := uX7_numberOf) (q := 40) (n := 2) (ci := 7) (As := [.long s3, .int (300 : Int32)]) (u' := (0, 0)) (tX7_numberOf n M s2 s3 (300 : Int32) _ _ hc_3) dX2_groupByGood_37 rfl rfl ⟨zb_18, zb_80, zb_20, zb_21, zb_10⟩ zd_X7_numberOf ⟨by decide, by decide⟩ ⟨by decide, by decide⟩ (eq_of_beq c_4) (by decide) rfl rfl rfl (Nat.le_of_ble_eq_true rfl) rfl rfl ?_
  obtain ⟨c_5, h⟩ := chk_some h
  obtain ⟨c_6, h⟩ := chk_some h
  obtain ⟨M_7, e_8, h⟩ := app_some h
  refine zr_iast (q := 41) dX2_groupByGood_40 rfl (eq_of_beq c_5) c_6 ?_
  refine zr_mem e_8 ?_
  obtain ⟨v3_9, e_10, h⟩ := app_some h
  refine zr_iinc (q := 44) (v := v3_9) (L' := [(3, .int v3_9), (0, .ref v0), (1, .ref v1), (2, .ref v2)]) dX2_groupByGood_41 rfl 3 rfl (by rw [← e_10]; rfl) (by decide) rfl ?_
  refine zr_goto (q := 6) dX2_groupByGood_44 (by decide) ?_
  exact zr_pick [1, 2, 3, 0] rfl (h6 M_7 v0 v1 v2 v3_9 _ _ h)
def fX2_groupByGood_6 : Nat → zM → Nat → Nat → Nat → Int32 → Option (Int32 × zM)
  | 0, _, _, _, _, _ => none
  | n + 1, M, v0, v1, v2, v3 =>
    chk (mK M v1 == 0) <|
    if (mI M v1 2) ≤ v3 then
      chk (mK M v2 == 7) <|
      some ((mI M v2 0), M)
    else
    chk (mK M v0 == 2) <|
    bnd (mR M v0 0) fun a_5 =>
    chk (mK M v1 == 0) <|
    bnd (mR M v1 4) fun a_8 =>
    chk (mK M a_8 == 13) <|
    chk (zin v3 (mN M a_8)) <|
    if (mI M a_8 (Int32.toNatClampNeg v3)) = (0 : Int32) then
      fX2_groupByGood_34 (fX2_groupByGood_6 n) n M v0 v1 v2 v3 a_5 v3 v2 (0 : Int64)
    else
    fX2_groupByGood_34 (fX2_groupByGood_6 n) n M v0 v1 v2 v3 a_5 v3 v2 (1 : Int64)
set_option maxHeartbeats 4000000 in
theorem tX2_groupByGood_6 : ∀ (n : Nat) (M : zM) (v0 : Nat) (v1 : Nat) (v2 : Nat) (v3 : Int32) (r : Int32) (M' : zM), fX2_groupByGood_6 n M v0 v1 v2 v3 = some (r, M') → zW uX2_groupByGood none (0, 0) M 6 [(0, .ref v0), (1, .ref v1), (2, .ref v2), (3, .int v3)] [] (zE (oI r) M') := by
  intro n
  induction n with
  | zero => intro M v0 v1 v2 v3 r M' h; cases h
  | succ n ih =>
    intro M v0 v1 v2 v3 r M' h
    rw [fX2_groupByGood_6] at h
    refine zr_iload_n (q := 7) dX2_groupByGood_6 rfl rfl 3 rfl ?_
    refine zr_aload_n (q := 8) dX2_groupByGood_7 rfl rfl 1 rfl ?_
    obtain ⟨c_1, h⟩ := chk_some h
    refine zr_get (q := 11) (ci := 0) (k := 2) dX2_groupByGood_8 rfl (eq_of_beq c_1) rfl (by decide) rfl zbX0 (by decide) zb_81 rfl ?_
    refine zr_icmp_ge (q := 14) (tgt := 47) dX2_groupByGood_11 rfl (by decide) (fun c_2 => ?_) (fun c_2 => ?_)
    · replace h := ite_t c_2 h
      refine zr_aload_n (q := 48) dX2_groupByGood_47 rfl rfl 2 rfl ?_
      obtain ⟨c_3, h⟩ := chk_some h
      refine zr_get (q := 51) (ci := 7) (k := 0) dX2_groupByGood_48 rfl (eq_of_beq c_3) rfl (by decide) rfl zbX7 (by decide) zb_82 rfl ?_
      cases h
      exact zr_ireturn dX2_groupByGood_51 rfl ⟨by decide, by decide⟩ ⟨rfl, rfl⟩
    · replace h := ite_f c_2 h
      refine zr_aload_n (q := 15) dX2_groupByGood_14 rfl rfl 0 rfl ?_
      obtain ⟨c_4, h⟩ := chk_some h
      obtain ⟨a_5, e_6, h⟩ := bnd_some h
      refine zr_getr (q := 18) (ci := 2) (k := 0) dX2_groupByGood_15 rfl (eq_of_beq c_4) rfl (by decide) rfl zbX2 (by decide) zb_83 rfl e_6 ?_
      refine zr_iload_n (q := 19) dX2_groupByGood_18 rfl rfl 3 rfl ?_
      refine zr_aload_n (q := 20) dX2_groupByGood_19 rfl rfl 2 rfl ?_
      refine zr_aload_n (q := 21) dX2_groupByGood_20 rfl rfl 1 rfl ?_
      obtain ⟨c_7, h⟩ := chk_some h
      obtain ⟨a_8, e_9, h⟩ := bnd_some h
      refine zr_getr (q := 24) (ci := 0) (k := 4) dX2_groupByGood_21 rfl (eq_of_beq c_7) rfl (by decide) rfl zbX0 (by decide) zb_84 rfl e_9 ?_
      refine zr_iload_n (q := 25) dX2_groupByGood_24 rfl rfl 3 rfl ?_
      obtain ⟨c_10, h⟩ := chk_some h
      obtain ⟨c_11, h⟩ := chk_some h
      refine zr_zald (q := 26) dX2_groupByGood_25 rfl (eq_of_beq c_10) c_11 ?_
      refine zr_if_eq (q := 29) (tgt := 33) dX2_groupByGood_26 rfl (by decide) (fun c_12 => ?_) (fun c_12 => ?_)
      · replace h := ite_t c_12 h
        refine zr_lconst (q := 34) (v := 0) dX2_groupByGood_33 rfl (by decide) ?_
        exact zr_pick [0, 1, 2, 3] rfl (tX2_groupByGood_34 (fX2_groupByGood_6 n) ih n M v0 v1 v2 v3 a_5 v3 v2 (0 : Int64) _ _ h)
      · replace h := ite_f c_12 h
        refine zr_lconst (q := 30) (v := 1) dX2_groupByGood_29 rfl (by decide) ?_
        refine zr_goto (q := 34) dX2_groupByGood_30 (by decide) ?_
        exact zr_pick [0, 1, 2, 3] rfl (tX2_groupByGood_34 (fX2_groupByGood_6 n) ih n M v0 v1 v2 v3 a_5 v3 v2 (1 : Int64) _ _ h)
def fX2_groupByGood (n : Nat) (M : zM) (v0 : Nat) (v1 : Nat) (v2 : Nat) : Option (Int32 × zM) :=
  chk (mK M v2 == 7) <|
  bnd2 (fX7_forgetAll n M v2) fun r_1 M_2 =>
  fX2_groupByGood_6 n M_2 v0 v1 v2 (0 : Int32)
set_option maxHeartbeats 4000000 in
theorem tX2_groupByGood (n : Nat) (M : zM) (v0 : Nat) (v1 : Nat) (v2 : Nat) (r : Int32) (M' : zM) (h : fX2_groupByGood n M v0 v1 v2 = some (r, M')) : zMet uX2_groupByGood false M [.ref v0, .ref v1, .ref v2] (zE (oI r) M') := by
  refine zMet_of (L := [(0, .ref v0), (1, .ref v1), (2, .ref v2)]) (by decide +kernel) rfl rfl (Nat.le_of_ble_eq_true rfl) ?_
  show zW uX2_groupByGood none (0, 0) M 0 [(0, .ref v0), (1, .ref v1), (2, .ref v2)] [] (zE (oI r) M')
  unfold fX2_groupByGood at h
  refine zr_aload_n (q := 1) dX2_groupByGood_0 rfl rfl 2 rfl ?_
  obtain ⟨c_4, h⟩ := chk_some h
  obtain ⟨r_1, M_2, hc_3, h⟩ := bnd2_some h
  refine zr_callVV (μ' := uX7_forgetAll) (q := 4) (n := 0) (ci := 7) (As := []) (u' := (0, 0)) (tX7_forgetAll n M v2 _ _ hc_3) dX2_groupByGood_1 rfl rfl ⟨zb_41, zb_85, zb_43, zb_44, zb_10⟩ zd_X7_forgetAll ⟨by decide, by decide⟩ ⟨by decide, by decide⟩ (eq_of_beq c_4) (by decide) rfl rfl rfl (Nat.le_of_ble_eq_true rfl) rfl rfl ?_
  refine zr_iconst (q := 5) (v := 0) dX2_groupByGood_4 rfl (by decide) ?_
  refine zr_istore_n (q := 6) (L' := [(3, .int (0 : Int32)), (0, .ref v0), (1, .ref v1), (2, .ref v2)]) dX2_groupByGood_5 rfl rfl (by decide) rfl ?_
  exact zr_pick [1, 2, 3, 0] rfl (tX2_groupByGood_6 n M_2 v0 v1 v2 (0 : Int32) _ _ h)

def uX2_groupByWay : zMu := (yX2_groupByWay, cX2_groupByWay, 7, (some .int), { frames := 2, cells := 0, slots := 0, locals := 51 }, [])
theorem zd_X2_groupByWay : (uY uX2_groupByWay).cls ≠ "java/lang/invoke/MethodHandle" ∧ (uY uX2_groupByWay).cls ≠ "java/lang/invoke/VarHandle" ∧ (parseMethodDescriptor (uY uX2_groupByWay).desc).map (fun d => d.parameters.length) = some 3 := by decide +kernel
def fX2_groupByWay_7 : Nat → zM → Nat → Nat → Int32 → Nat → Int32 → Option (Int32 × zM)
  | 0, _, _, _, _, _, _ => none
  | n + 1, M, v0, v1, v2, v3, v4 =>
    chk (mK M v1 == 0) <|
    if (mI M v1 2) ≤ v4 then
      chk (mK M v0 == 2) <|
      bnd (mR M v0 1) fun a_4 =>
      chk (mK M v0 == 2) <|
      bnd (mR M v0 0) fun a_7 =>
      chk (mK M v1 == 0) <|
      chk (mK M a_4 == 11) <|
      chk (mK M a_7 == 11) <|
      chk (zcp (mI M v1 2) (mN M a_4) (mN M a_7)) <|
      app (wIr M a_7 (va_cpy (mI M a_4) (mI M a_7) 0 0 (Int32.toNatClampNeg (mI M v1 2)))) fun M_13 : zM =>
      chk (mK M_13 v3 == 7) <|
      some ((mI M_13 v3 0), M_13)
    else
    chk (mK M v0 == 2) <|
    bnd (mR M v0 0) fun a_17 =>
    chk (mK M v1 == 0) <|
    bnd2 (fX0_wayFrom n M v1 v4 v2) fun r_19 M_20 =>
    chk (mK M_20 a_17 == 11) <|
    chk (zin r_19 (mN M_20 a_17)) <|
    app (Int32.toInt64 (mI M_20 a_17 (Int32.toNatClampNeg r_19))) fun v5_25 : Int64 =>
    chk (mK M_20 v0 == 2) <|
    bnd (mR M_20 v0 1) fun a_28 =>
    chk (mK M_20 v0 == 2) <|
    bnd (mR M_20 v0 0) fun a_31 =>
    chk (mK M_20 a_31 == 11) <|
    chk (zin v4 (mN M_20 a_31)) <|
    chk (mK M_20 v3 == 7) <|
    bnd2 (fX7_numberOf n M_20 v3 (((Int32.toInt64 (mI M_20 a_31 (Int32.toNatClampNeg v4))) * (300 : Int64)) + v5_25) (300 : Int32)) fun r_35 M_36 =>
    chk (mK M_36 a_28 == 11) <|
    chk (zin v4 (mN M_36 a_28)) <|
    app (wI M_36 a_28 (Int32.toNatClampNeg v4) r_35) fun M_41 : zM =>
    app (v4 + (1 : Int32)) fun v4_43 : Int32 =>
    (fX2_groupByWay_7 n) M_41 v0 v1 v2 v3 v4_43
set_option maxHeartbeats 4000000 in
theorem tX2_groupByWay_7 : ∀ (n : Nat) (M : zM) (v0 : Nat) (v1 : Nat) (v2 : Int32) (v3 : Nat) (v4 : Int32) (r : Int32) (M' : zM), fX2_groupByWay_7 n M v0 v1 v2 v3 v4 = some (r, M') → zW uX2_groupByWay none (0, 0) M 7 [(0, .ref v0), (1, .ref v1), (2, .int v2), (3, .ref v3), (4, .int v4)] [] (zE (oI r) M') := by
  intro n
  induction n with
  | zero => intro M v0 v1 v2 v3 v4 r M' h; cases h
  | succ n ih =>
    intro M v0 v1 v2 v3 v4 r M' h
    rw [fX2_groupByWay_7] at h
    refine zr_iload (q := 9) dX2_groupByWay_7 rfl 4 rfl ?_
    refine zr_aload_n (q := 10) dX2_groupByWay_9 rfl rfl 1 rfl ?_
    obtain ⟨c_1, h⟩ := chk_some h
    refine zr_get (q := 13) (ci := 0) (k := 2) dX2_groupByWay_10 rfl (eq_of_beq c_1) rfl (by decide) rfl zbX0 (by decide) zb_81 rfl ?_
    refine zr_icmp_ge (q := 16) (tgt := 66) dX2_groupByWay_13 rfl (by decide) (fun c_2 => ?_) (fun c_2 => ?_)
    · replace h := ite_t c_2 h
      refine zr_aload_n (q := 67) dX2_groupByWay_66 rfl rfl 0 rfl ?_
      obtain ⟨c_3, h⟩ := chk_some h
      obtain ⟨a_4, e_5, h⟩ := bnd_some h
      refine zr_getr (q := 70) (ci := 2) (k := 1) dX2_groupByWay_67 rfl (eq_of_beq c_3) rfl (by decide) rfl zbX2 (by decide) zb_86 rfl e_5 ?_
      refine zr_iconst (q := 71) (v := 0) dX2_groupByWay_70 rfl (by decide) ?_
      refine zr_aload_n (q := 72) dX2_groupByWay_71 rfl rfl 0 rfl ?_
      obtain ⟨c_6, h⟩ := chk_some h
      obtain ⟨a_7, e_8, h⟩ := bnd_some h
      refine zr_getr (q := 75) (ci := 2) (k := 0) dX2_groupByWay_72 rfl (eq_of_beq c_6) rfl (by decide) rfl zbX2 (by decide) zb_83 rfl e_8 ?_
      refine zr_iconst (q := 76) (v := 0) dX2_groupByWay_75 rfl (by decide) ?_
      refine zr_aload_n (q := 77) dX2_groupByWay_76 rfl rfl 1 rfl ?_
      obtain ⟨c_9, h⟩ := chk_some h
      refine zr_get (q := 80) (ci := 0) (k := 2) dX2_groupByWay_77 rfl (eq_of_beq c_9) rfl (by decide) rfl zbX0 (by decide) zb_81 rfl ?_
      obtain ⟨c_10, h⟩ := chk_some h
      obtain ⟨c_11, h⟩ := chk_some h
      obtain ⟨c_12, h⟩ := chk_some h
      obtain ⟨M_13, e_14, h⟩ := app_some h
      refine zr_copy (q := 83) dX2_groupByWay_80 rfl zb_87 zb_88 zb_89 zb_90 (eq_of_beq c_10) (eq_of_beq c_11) c_12 (by decide) (by decide) ?_
      refine zr_mem e_14 ?_
      refine zr_aload_n (q := 84) dX2_groupByWay_83 rfl rfl 3 rfl ?_
      obtain ⟨c_15, h⟩ := chk_some h
      refine zr_get (q := 87) (ci := 7) (k := 0) dX2_groupByWay_84 rfl (eq_of_beq c_15) rfl (by decide) rfl zbX7 (by decide) zb_82 rfl ?_
      cases h
      exact zr_ireturn dX2_groupByWay_87 rfl ⟨by decide, by decide⟩ ⟨rfl, rfl⟩
    · replace h := ite_f c_2 h
      refine zr_aload_n (q := 17) dX2_groupByWay_16 rfl rfl 0 rfl ?_
      obtain ⟨c_16, h⟩ := chk_some h
      obtain ⟨a_17, e_18, h⟩ := bnd_some h
      refine zr_getr (q := 20) (ci := 2) (k := 0) dX2_groupByWay_17 rfl (eq_of_beq c_16) rfl (by decide) rfl zbX2 (by decide) zb_83 rfl e_18 ?_
      refine zr_aload_n (q := 21) dX2_groupByWay_20 rfl rfl 1 rfl ?_
      refine zr_iload (q := 23) dX2_groupByWay_21 rfl 4 rfl ?_
      refine zr_iload_n (q := 24) dX2_groupByWay_23 rfl rfl 2 rfl ?_
      obtain ⟨c_22, h⟩ := chk_some h
      obtain ⟨r_19, M_20, hc_21, h⟩ := bnd2_some h
      refine zr_callVI (μ' := uX0_wayFrom) (q := 27) (n := 2) (ci := 0) (As := [.int v4, .int v2]) (u' := (0, 0)) (tX0_wayFrom n M v1 v4 v2 _ _ hc_21) dX2_groupByWay_24 rfl rfl ⟨zb_58, zb_91, zb_60, zb_61, zb_36⟩ zd_X0_wayFrom ⟨by decide, by decide⟩ ⟨by decide, by decide⟩ (eq_of_beq c_22) (by decide) rfl rfl rfl (Nat.le_of_ble_eq_true rfl) rfl rfl ?_
      obtain ⟨c_23, h⟩ := chk_some h
      obtain ⟨c_24, h⟩ := chk_some h
      refine zr_iald (q := 28) dX2_groupByWay_27 rfl (eq_of_beq c_23) c_24 ?_
      refine zr_i2l (q := 29) dX2_groupByWay_28 rfl ?_
      obtain ⟨v5_25, e_26, h⟩ := app_some h
      refine zr_nmL e_26 ?_
      refine zr_lstore (q := 31) (L' := [(5, .long v5_25), (0, .ref v0), (1, .ref v1), (2, .int v2), (3, .ref v3), (4, .int v4)]) dX2_groupByWay_29 rfl (by decide) rfl ?_
      refine zr_aload_n (q := 32) dX2_groupByWay_31 rfl rfl 1 rfl ?_
      obtain ⟨c_27, h⟩ := chk_some h
      obtain ⟨a_28, e_29, h⟩ := bnd_some h
      refine zr_getr (q := 35) (ci := 2) (k := 1) dX2_groupByWay_32 rfl (eq_of_beq c_27) rfl (by decide) rfl zbX2 (by decide) zb_86 rfl e_29 ?_
      refine zr_iload (q := 37) dX2_groupByWay_35 rfl 5 rfl ?_
      refine zr_aload_n (q := 38) dX2_groupByWay_37 rfl rfl 4 rfl ?_
      refine zr_aload_n (q := 39) dX2_groupByWay_38 rfl rfl 1 rfl ?_
      obtain ⟨c_30, h⟩ := chk_some h
      obtain ⟨a_31, e_32, h⟩ := bnd_some h
      refine zr_getr (q := 42) (ci := 2) (k := 0) dX2_groupByWay_39 rfl (eq_of_beq c_30) rfl (by decide) rfl zbX2 (by decide) zb_83 rfl e_32 ?_
      refine zr_iload (q := 44) dX2_groupByWay_42 rfl 5 rfl ?_
      obtain ⟨c_33, h⟩ := chk_some h
      obtain ⟨c_34, h⟩ := chk_some h
      refine zr_iald (q := 45) dX2_groupByWay_44 rfl (eq_of_beq c_33) c_34 ?_
      refine zr_i2l (q := 46) dX2_groupByWay_45 rfl ?_
      refine zr_ldc2 (q := 49) (v := 300) dX2_groupByWay_46 rfl zb_92 ?_
      refine zr_lmul (q := 50) dX2_groupByWay_49 rfl ?_
      refine zr_lload (q := 52) dX2_groupByWay_50 rfl 0 rfl ?_
      refine zr_ladd (q := 53) dX2_groupByWay_52 rfl ?_
      refine zr_sipush (q := 56) (v := 300) dX2_groupByWay_53 rfl (by decide) ?_
      obtain ⟨c_38, h⟩ := chk_some h
      obtain ⟨r_35, M_36, hc_37, h⟩ := bnd2_some h
      refine zr_callVI (μ' := uX7_numberOf) (q := 59) (n := 2) (ci := 7) (As := [.long (((Int32.toInt64 (mI M_20 a_31 (Int32.toNatClampNeg v4))) * (300 : Int64)) + v5_25), .int (300 : Int32)]) (u' := (0, 0)) (tX7_numberOf n M_20 v3 (((Int32.toInt64 (mI M_20 a_31 (Int32.toNatClampNeg v4))) * (300 : Int64)) + v5_25) (300 : Int32) _ _ hc_37) dX2_groupByWay_56 rfl rfl ⟨zb_18, zb_80, zb_20, zb_21, zb_10⟩ zd_X7_numberOf ⟨by decide, by decide⟩ ⟨by decide, by decide⟩ (eq_of_beq c_38) (by decide) rfl rfl rfl (Nat.le_of_ble_eq_true rfl) rfl rfl ?_
      obtain ⟨c_39, h⟩ := chk_some h
      obtain ⟨c_40, h⟩ := chk_some h
      obtain ⟨M_41, e_42, h⟩ := app_some h
      refine zr_iast (q := 60) dX2_groupByWay_59 rfl (eq_of_beq c_39) c_40 ?_
      refine zr_mem e_42 ?_
      obtain ⟨v4_43, e_44, h⟩ := app_some h
      refine zr_iinc (q := 63) (v := v4_43) (L' := [(4, .int v4_43), (5, .long v5_25), (0, .ref v0), (1, .ref v1), (2, .int v2), (3, .ref v3)]) dX2_groupByWay_60 rfl 5 rfl (by rw [← e_44]; rfl) (by decide) rfl ?_
      refine zr_goto (q := 7) dX2_groupByWay_63 (by decide) ?_
      exact zr_pick [2, 3, 4, 5, 0] rfl (ih M_41 v0 v1 v2 v3 v4_43 _ _ h)
def fX2_groupByWay (n : Nat) (M : zM) (v0 : Nat) (v1 : Nat) (v2 : Int32) (v3 : Nat) : Option (Int32 × zM) :=
  chk (mK M v3 == 7) <|
  bnd2 (fX7_forgetAll n M v3) fun r_1 M_2 =>
  fX2_groupByWay_7 n M_2 v0 v1 v2 v3 (0 : Int32)
set_option maxHeartbeats 4000000 in
theorem tX2_groupByWay (n : Nat) (M : zM) (v0 : Nat) (v1 : Nat) (v2 : Int32) (v3 : Nat) (r : Int32) (M' : zM) (h : fX2_groupByWay n M v0 v1 v2 v3 = some (r, M')) : zMet uX2_groupByWay false M [.ref v0, .ref v1, .int v2, .ref v3] (zE (oI r) M') := by
  refine zMet_of (L := [(0, .ref v0), (1, .ref v1), (2, .int v2), (3, .ref v3)]) (by decide +kernel) rfl rfl (Nat.le_of_ble_eq_true rfl) ?_
  show zW uX2_groupByWay none (0, 0) M 0 [(0, .ref v0), (1, .ref v1), (2, .int v2), (3, .ref v3)] [] (zE (oI r) M')
  unfold fX2_groupByWay at h
  refine zr_aload_n (q := 1) dX2_groupByWay_0 rfl rfl 3 rfl ?_
  obtain ⟨c_4, h⟩ := chk_some h
  obtain ⟨r_1, M_2, hc_3, h⟩ := bnd2_some h
  refine zr_callVV (μ' := uX7_forgetAll) (q := 4) (n := 0) (ci := 7) (As := []) (u' := (0, 0)) (tX7_forgetAll n M v3 _ _ hc_3) dX2_groupByWay_1 rfl rfl ⟨zb_41, zb_85, zb_43, zb_44, zb_10⟩ zd_X7_forgetAll ⟨by decide, by decide⟩ ⟨by decide, by decide⟩ (eq_of_beq c_4) (by decide) rfl rfl rfl (Nat.le_of_ble_eq_true rfl) rfl rfl ?_
  refine zr_iconst (q := 5) (v := 0) dX2_groupByWay_4 rfl (by decide) ?_
  refine zr_istore (q := 7) (L' := [(4, .int (0 : Int32)), (0, .ref v0), (1, .ref v1), (2, .int v2), (3, .ref v3)]) dX2_groupByWay_5 rfl (by decide) rfl ?_
  exact zr_pick [1, 2, 3, 4, 0] rfl (tX2_groupByWay_7 n M_2 v0 v1 v2 v3 (0 : Int32) _ _ h)

def uX2_countGroups : zMu := (yX2_countGroups, cX2_countGroups, 7, (some .int), { frames := 3, cells := 0, slots := 0, locals := 77 }, [])
theorem zd_X2_countGroups : (uY uX2_countGroups).cls ≠ "java/lang/invoke/MethodHandle" ∧ (uY uX2_countGroups).cls ≠ "java/lang/invoke/VarHandle" ∧ (parseMethodDescriptor (uY uX2_countGroups).desc).map (fun d => d.parameters.length) = some 2 := by decide +kernel
def fX2_countGroups_25 (k10 : zM → Nat → Nat → Nat → Int32 → Int32 → Option (Int32 × zM)) : Nat → zM → Nat → Nat → Nat → Int32 → Int32 → Int32 → Int32 → Option (Int32 × zM)
  | 0, _, _, _, _, _, _, _, _ => none
  | n + 1, M, v0, v1, v2, v3, v4, v5, v6 =>
    if (36 : Int32) ≤ v6 then
      if v3 = v5 then
        some (v3, M)
      else
      app (v4 + (1 : Int32)) fun v4_3 : Int32 =>
      k10 M v0 v1 v2 v3 v4_3
    else
    chk (mK M v0 == 2) <|
    bnd2 (fX2_groupByWay n M v0 v1 v6 v2) fun r_5 M_6 =>
    app (v6 + (1 : Int32)) fun v6_9 : Int32 =>
    (fX2_countGroups_25 k10 n) M_6 v0 v1 v2 r_5 v4 v5 v6_9
set_option maxHeartbeats 4000000 in
theorem tX2_countGroups_25 (k10 : zM → Nat → Nat → Nat → Int32 → Int32 → Option (Int32 × zM)) (h10 : ∀ (M : zM) (v0 : Nat) (v1 : Nat) (v2 : Nat) (v3 : Int32) (v4 : Int32) (r : Int32) (M' : zM), k10 M v0 v1 v2 v3 v4 = some (r, M') → zW uX2_countGroups none (0, 0) M 10 [(0, .ref v0), (1, .ref v1), (2, .ref v2), (3, .int v3), (4, .int v4)] [] (zE (oI r) M')) : ∀ (n : Nat) (M : zM) (v0 : Nat) (v1 : Nat) (v2 : Nat) (v3 : Int32) (v4 : Int32) (v5 : Int32) (v6 : Int32) (r : Int32) (M' : zM), fX2_countGroups_25 k10 n M v0 v1 v2 v3 v4 v5 v6 = some (r, M') → zW uX2_countGroups none (0, 0) M 25 [(0, .ref v0), (1, .ref v1), (2, .ref v2), (3, .int v3), (4, .int v4), (5, .int v5), (6, .int v6)] [] (zE (oI r) M') := by
  intro n
  induction n with
  | zero => intro M v0 v1 v2 v3 v4 v5 v6 r M' h; cases h
  | succ n ih =>
    intro M v0 v1 v2 v3 v4 v5 v6 r M' h
    rw [fX2_countGroups_25] at h
    refine zr_iload (q := 27) dX2_countGroups_25 rfl 6 rfl ?_
    refine zr_bipush (q := 29) (v := 36) dX2_countGroups_27 rfl (by decide) ?_
    refine zr_icmp_ge (q := 32) (tgt := 47) dX2_countGroups_29 rfl (by decide) (fun c_1 => ?_) (fun c_1 => ?_)
    · replace h := ite_t c_1 h
      refine zr_iload_n (q := 48) dX2_countGroups_47 rfl rfl 3 rfl ?_
      refine zr_iload (q := 50) dX2_countGroups_48 rfl 5 rfl ?_
      refine zr_icmp_ne (q := 53) (tgt := 56) dX2_countGroups_50 rfl (by decide) (fun c_2 => ?_) (fun c_2 => ?_)
      · replace h := ite_f c_2 h
        obtain ⟨v4_3, e_4, h⟩ := app_some h
        refine zr_iinc (q := 59) (v := v4_3) (L' := [(4, .int v4_3), (0, .ref v0), (1, .ref v1), (2, .ref v2), (3, .int v3), (5, .int v5), (6, .int v6)]) dX2_countGroups_56 rfl 4 rfl (by rw [← e_4]; rfl) (by decide) rfl ?_
        refine zr_goto (q := 10) dX2_countGroups_59 (by decide) ?_
        exact zr_pick [1, 2, 3, 4, 0] rfl (h10 M v0 v1 v2 v3 v4_3 _ _ h)
      · replace h := ite_t c_2 h
        refine zr_goto (q := 62) dX2_countGroups_53 (by decide) ?_
        refine zr_iload_n (q := 63) dX2_countGroups_62 rfl rfl 3 rfl ?_
        cases h
        exact zr_ireturn dX2_countGroups_63 rfl ⟨by decide, by decide⟩ ⟨rfl, rfl⟩
    · replace h := ite_f c_1 h
      refine zr_aload_n (q := 33) dX2_countGroups_32 rfl rfl 0 rfl ?_
      refine zr_aload_n (q := 34) dX2_countGroups_33 rfl rfl 1 rfl ?_
      refine zr_iload (q := 36) dX2_countGroups_34 rfl 6 rfl ?_
      refine zr_aload_n (q := 37) dX2_countGroups_36 rfl rfl 2 rfl ?_
      obtain ⟨c_8, h⟩ := chk_some h
      obtain ⟨r_5, M_6, hc_7, h⟩ := bnd2_some h
      refine zr_callVI (μ' := uX2_groupByWay) (q := 40) (n := 3) (ci := 2) (As := [.ref v1, .int v6, .ref v2]) (u' := (0, 0)) (tX2_groupByWay n M v0 v1 v6 v2 _ _ hc_7) dX2_countGroups_37 rfl rfl ⟨zb_93, zb_94, zb_95, zb_96, zb_97⟩ zd_X2_groupByWay ⟨by decide, by decide⟩ ⟨by decide, by decide⟩ (eq_of_beq c_8) (by decide) rfl rfl rfl (Nat.le_of_ble_eq_true rfl) rfl rfl ?_
      refine zr_istore_n (q := 41) (L' := [(3, .int r_5), (0, .ref v0), (1, .ref v1), (2, .ref v2), (4, .int v4), (5, .int v5), (6, .int v6)]) dX2_countGroups_40 rfl rfl (by decide) rfl ?_
      obtain ⟨v6_9, e_10, h⟩ := app_some h
      refine zr_iinc (q := 44) (v := v6_9) (L' := [(6, .int v6_9), (3, .int r_5), (0, .ref v0), (1, .ref v1), (2, .ref v2), (4, .int v4), (5, .int v5)]) dX2_countGroups_41 rfl 6 rfl (by rw [← e_10]; rfl) (by decide) rfl ?_
      refine zr_goto (q := 25) dX2_countGroups_44 (by decide) ?_
      exact zr_pick [2, 3, 4, 1, 5, 6, 0] rfl (ih M_6 v0 v1 v2 r_5 v4 v5 v6_9 _ _ h)
def fX2_countGroups_10 : Nat → zM → Nat → Nat → Nat → Int32 → Int32 → Option (Int32 × zM)
  | 0, _, _, _, _, _, _ => none
  | n + 1, M, v0, v1, v2, v3, v4 =>
    chk (mK M v1 == 0) <|
    if (mI M v1 2) ≤ v4 then
      some (v3, M)
    else
    fX2_countGroups_25 (fX2_countGroups_10 n) n M v0 v1 v2 v3 v4 v3 (0 : Int32)
set_option maxHeartbeats 4000000 in
theorem tX2_countGroups_10 : ∀ (n : Nat) (M : zM) (v0 : Nat) (v1 : Nat) (v2 : Nat) (v3 : Int32) (v4 : Int32) (r : Int32) (M' : zM), fX2_countGroups_10 n M v0 v1 v2 v3 v4 = some (r, M') → zW uX2_countGroups none (0, 0) M 10 [(0, .ref v0), (1, .ref v1), (2, .ref v2), (3, .int v3), (4, .int v4)] [] (zE (oI r) M') := by
  intro n
  induction n with
  | zero => intro M v0 v1 v2 v3 v4 r M' h; cases h
  | succ n ih =>
    intro M v0 v1 v2 v3 v4 r M' h
    rw [fX2_countGroups_10] at h
    refine zr_iload (q := 12) dX2_countGroups_10 rfl 4 rfl ?_
    refine zr_aload_n (q := 13) dX2_countGroups_12 rfl rfl 1 rfl ?_
    obtain ⟨c_1, h⟩ := chk_some h
    refine zr_get (q := 16) (ci := 0) (k := 2) dX2_countGroups_13 rfl (eq_of_beq c_1) rfl (by decide) rfl zbX0 (by decide) zb_81 rfl ?_
    refine zr_icmp_ge (q := 19) (tgt := 62) dX2_countGroups_16 rfl (by decide) (fun c_2 => ?_) (fun c_2 => ?_)
    · replace h := ite_t c_2 h
      refine zr_iload_n (q := 63) dX2_countGroups_62 rfl rfl 3 rfl ?_
      cases h
      exact zr_ireturn dX2_countGroups_63 rfl ⟨by decide, by decide⟩ ⟨rfl, rfl⟩
    · replace h := ite_f c_2 h
      refine zr_iload_n (q := 20) dX2_countGroups_19 rfl rfl 3 rfl ?_
      refine zr_istore (q := 22) (L' := [(5, .int v3), (0, .ref v0), (1, .ref v1), (2, .ref v2), (3, .int v3), (4, .int v4)]) dX2_countGroups_20 rfl (by decide) rfl ?_
      refine zr_iconst (q := 23) (v := 0) dX2_countGroups_22 rfl (by decide) ?_
      refine zr_istore (q := 25) (L' := [(6, .int (0 : Int32)), (5, .int v3), (0, .ref v0), (1, .ref v1), (2, .ref v2), (3, .int v3), (4, .int v4)]) dX2_countGroups_23 rfl (by decide) rfl ?_
      exact zr_pick [2, 3, 4, 5, 6, 1, 0] rfl (tX2_countGroups_25 (fX2_countGroups_10 n) ih n M v0 v1 v2 v3 v4 v3 (0 : Int32) _ _ h)
def fX2_countGroups (n : Nat) (M : zM) (v0 : Nat) (v1 : Nat) (v2 : Nat) : Option (Int32 × zM) :=
  chk (mK M v0 == 2) <|
  bnd2 (fX2_groupByGood n M v0 v1 v2) fun r_1 M_2 =>
  fX2_countGroups_10 n M_2 v0 v1 v2 r_1 (0 : Int32)
set_option maxHeartbeats 4000000 in
theorem tX2_countGroups (n : Nat) (M : zM) (v0 : Nat) (v1 : Nat) (v2 : Nat) (r : Int32) (M' : zM) (h : fX2_countGroups n M v0 v1 v2 = some (r, M')) : zMet uX2_countGroups false M [.ref v0, .ref v1, .ref v2] (zE (oI r) M') := by
  refine zMet_of (L := [(0, .ref v0), (1, .ref v1), (2, .ref v2)]) (by decide +kernel) rfl rfl (Nat.le_of_ble_eq_true rfl) ?_
  show zW uX2_countGroups none (0, 0) M 0 [(0, .ref v0), (1, .ref v1), (2, .ref v2)] [] (zE (oI r) M')
  unfold fX2_countGroups at h
  refine zr_aload_n (q := 1) dX2_countGroups_0 rfl rfl 0 rfl ?_
  refine zr_aload_n (q := 2) dX2_countGroups_1 rfl rfl 1 rfl ?_
  refine zr_aload_n (q := 3) dX2_countGroups_2 rfl rfl 2 rfl ?_
  obtain ⟨c_4, h⟩ := chk_some h
  obtain ⟨r_1, M_2, hc_3, h⟩ := bnd2_some h
  refine zr_callVI (μ' := uX2_groupByGood) (q := 6) (n := 2) (ci := 2) (As := [.ref v1, .ref v2]) (u' := (0, 0)) (tX2_groupByGood n M v0 v1 v2 _ _ hc_3) dX2_countGroups_3 rfl rfl ⟨zb_98, zb_99, zb_100, zb_101, zb_97⟩ zd_X2_groupByGood ⟨by decide, by decide⟩ ⟨by decide, by decide⟩ (eq_of_beq c_4) (by decide) rfl rfl rfl (Nat.le_of_ble_eq_true rfl) rfl rfl ?_
  refine zr_istore_n (q := 7) (L' := [(3, .int r_1), (0, .ref v0), (1, .ref v1), (2, .ref v2)]) dX2_countGroups_6 rfl rfl (by decide) rfl ?_
  refine zr_iconst (q := 8) (v := 0) dX2_countGroups_7 rfl (by decide) ?_
  refine zr_istore (q := 10) (L' := [(4, .int (0 : Int32)), (3, .int r_1), (0, .ref v0), (1, .ref v1), (2, .ref v2)]) dX2_countGroups_8 rfl (by decide) rfl ?_
  exact zr_pick [2, 3, 4, 1, 0] rfl (tX2_countGroups_10 n M_2 v0 v1 v2 r_1 (0 : Int32) _ _ h)
