/-! by program: wip/decomp.py, wip/mk_code.py -/
def uX8_append : zMu := (yX8_append, cX8_append, 5, none, { frames := 1, cells := 0, slots := 0, locals := 22 }, [])
theorem zd_X8_append : (uY uX8_append).cls ≠ "java/lang/invoke/MethodHandle" ∧ (uY uX8_append).cls ≠ "java/lang/invoke/VarHandle" ∧ (parseMethodDescriptor (uY uX8_append).desc).map (fun d => d.parameters.length) = some 2 := by decide +kernel
def fX8_append_3 : Nat → zM → Nat → Int64 → Int32 → Int32 → Option (Unit × zM)
  | 0, _, _, _, _, _ => none
  | n + 1, M, v0, v1, v3, v4 =>
    if v3 ≤ v4 then
      chk (mK M v0 == 8) <|
      app (wI M v0 5 (0 : Int32)) fun M_3 : zM =>
      some ((), M_3)
    else
    chk (mK M v0 == 8) <|
    if (200 : Int32) ≤ (mI M v0 0) then
      chk (mK M v0 == 8) <|
      app (wI M v0 5 (0 : Int32)) fun M_8 : zM =>
      some ((), M_8)
    else
    chk (mK M v0 == 8) <|
    bnd (mR M v0 4) fun a_11 =>
    chk (mK M v0 == 8) <|
    bnd2 (fX9_byteOf n M v1 v4) fun r_14 M_15 =>
    bnd2 (fX9_letterOf n M_15 r_14) fun r_17 M_18 =>
    chk (mK M_18 a_11 == 11) <|
    chk (zin (mI M v0 0) (mN M_18 a_11)) <|
    app (wI M_18 a_11 (Int32.toNatClampNeg (mI M v0 0)) r_17) fun M_22 : zM =>
    chk (mK M_22 v0 == 8) <|
    chk (mK M_22 v0 == 8) <|
    app (wI M_22 v0 0 ((mI M_22 v0 0) + (1 : Int32))) fun M_26 : zM =>
    app (v4 + (1 : Int32)) fun v4_28 : Int32 =>
    (fX8_append_3 n) M_26 v0 v1 v3 v4_28
set_option maxHeartbeats 4000000 in
theorem tX8_append_3 : ∀ (n : Nat) (M : zM) (v0 : Nat) (v1 : Int64) (v3 : Int32) (v4 : Int32) (r : Unit) (M' : zM), fX8_append_3 n M v0 v1 v3 v4 = some (r, M') → zW uX8_append none (0, 0) M 3 [(0, .ref v0), (1, .long v1), (3, .int v3), (4, .int v4)] [] (zE (oV r) M') := by
  intro n
  induction n with
  | zero => intro M v0 v1 v3 v4 r M' h; cases h
  | succ n ih =>
    intro M v0 v1 v3 v4 r M' h
    rw [fX8_append_3] at h
    refine zr_iload (q := 5) dX8_append_3 rfl 3 rfl ?_
    refine zr_iload_n (q := 6) dX8_append_5 rfl rfl 2 rfl ?_
    refine zr_icmp_ge (q := 9) (tgt := 53) dX8_append_6 rfl (by decide) (fun c_1 => ?_) (fun c_1 => ?_)
    · replace h := ite_t c_1 h
      refine zr_aload_n (q := 54) dX8_append_53 rfl rfl 0 rfl ?_
      refine zr_iconst (q := 55) (v := 0) dX8_append_54 rfl (by decide) ?_
      obtain ⟨c_2, h⟩ := chk_some h
      obtain ⟨M_3, e_4, h⟩ := app_some h
      refine zr_putZ (q := 58) (ci := 8) (k := 5) dX8_append_55 rfl (eq_of_beq c_2) rfl (by decide) rfl zbX8 tyX8_ok nmX8 (by decide) zb_275 (Or.inl rfl) rfl (Or.inl rfl) ?_
      refine zr_mem e_4 ?_
      cases h
      exact zr_return dX8_append_58 rfl ⟨by decide, by decide⟩ ⟨rfl, rfl⟩
    · replace h := ite_f c_1 h
      refine zr_aload_n (q := 10) dX8_append_9 rfl rfl 0 rfl ?_
      obtain ⟨c_5, h⟩ := chk_some h
      refine zr_get (q := 13) (ci := 8) (k := 0) dX8_append_10 rfl (eq_of_beq c_5) rfl (by decide) rfl zbX8 (by decide) zb_276 rfl ?_
      refine zr_sipush (q := 16) (v := 200) dX8_append_13 rfl (by decide) ?_
      refine zr_icmp_ge (q := 19) (tgt := 53) dX8_append_16 rfl (by decide) (fun c_6 => ?_) (fun c_6 => ?_)
      · replace h := ite_t c_6 h
        refine zr_aload_n (q := 54) dX8_append_53 rfl rfl 0 rfl ?_
        refine zr_iconst (q := 55) (v := 0) dX8_append_54 rfl (by decide) ?_
        obtain ⟨c_7, h⟩ := chk_some h
        obtain ⟨M_8, e_9, h⟩ := app_some h
        refine zr_putZ (q := 58) (ci := 8) (k := 5) dX8_append_55 rfl (eq_of_beq c_7) rfl (by decide) rfl zbX8 tyX8_ok nmX8 (by decide) zb_275 (Or.inl rfl) rfl (Or.inl rfl) ?_
        refine zr_mem e_9 ?_
        cases h
        exact zr_return dX8_append_58 rfl ⟨by decide, by decide⟩ ⟨rfl, rfl⟩
      · replace h := ite_f c_6 h
        refine zr_aload_n (q := 20) dX8_append_19 rfl rfl 0 rfl ?_
        obtain ⟨c_10, h⟩ := chk_some h
        obtain ⟨a_11, e_12, h⟩ := bnd_some h
        refine zr_getr (q := 23) (ci := 8) (k := 4) dX8_append_20 rfl (eq_of_beq c_10) rfl (by decide) rfl zbX8 (by decide) zb_277 rfl e_12 ?_
        refine zr_aload_n (q := 24) dX8_append_23 rfl rfl 0 rfl ?_
        obtain ⟨c_13, h⟩ := chk_some h
        refine zr_get (q := 27) (ci := 8) (k := 0) dX8_append_24 rfl (eq_of_beq c_13) rfl (by decide) rfl zbX8 (by decide) zb_276 rfl ?_
        refine zr_lload_n (q := 28) dX8_append_27 rfl rfl 1 rfl ?_
        refine zr_iload (q := 30) dX8_append_28 rfl 3 rfl ?_
        obtain ⟨r_14, M_15, hc_16, h⟩ := bnd2_some h
        refine zr_callSNI (μ' := uX9_byteOf) (q := 33) (n := 2) (As := [.long v1, .int v4]) (u' := (0, 0)) (tX9_byteOf n M v1 v4 _ _ hc_16) dX8_append_30 rfl rfl (by decide +kernel) ⟨zb_185, zb_186, zb_25⟩ zd_X9_byteOf ⟨by decide, by decide⟩ ⟨by decide, by decide⟩ rfl rfl (Nat.le_of_ble_eq_true rfl) rfl ?_
        obtain ⟨r_17, M_18, hc_19, h⟩ := bnd2_some h
        refine zr_callSNI (μ' := uX9_letterOf) (q := 36) (n := 1) (As := [.int r_14]) (u' := (0, 0)) (tX9_letterOf n M_15 r_14 _ _ hc_19) dX8_append_33 rfl rfl (by decide +kernel) ⟨zb_212, zb_213, zb_25⟩ zd_X9_letterOf ⟨by decide, by decide⟩ ⟨by decide, by decide⟩ rfl rfl (Nat.le_of_ble_eq_true rfl) rfl ?_
        obtain ⟨c_20, h⟩ := chk_some h
        obtain ⟨c_21, h⟩ := chk_some h
        obtain ⟨M_22, e_23, h⟩ := app_some h
        refine zr_iast (q := 37) dX8_append_36 rfl (eq_of_beq c_20) c_21 ?_
        refine zr_mem e_23 ?_
        refine zr_aload_n (q := 38) dX8_append_37 rfl rfl 0 rfl ?_
        refine zr_dup (q := 39) dX8_append_38 rfl rfl ?_
        obtain ⟨c_24, h⟩ := chk_some h
        refine zr_get (q := 42) (ci := 8) (k := 0) dX8_append_39 rfl (eq_of_beq c_24) rfl (by decide) rfl zbX8 (by decide) zb_276 rfl ?_
        refine zr_iconst (q := 43) (v := 1) dX8_append_42 rfl (by decide) ?_
        refine zr_iadd (q := 44) dX8_append_43 rfl ?_
        obtain ⟨c_25, h⟩ := chk_some h
        obtain ⟨M_26, e_27, h⟩ := app_some h
        refine zr_putI (q := 47) (ci := 8) (k := 0) dX8_append_44 rfl (eq_of_beq c_25) rfl (by decide) rfl zbX8 tyX8_ok nmX8 (by decide) zb_276 (Or.inl rfl) rfl ?_
        refine zr_mem e_27 ?_
        obtain ⟨v4_28, e_29, h⟩ := app_some h
        refine zr_iinc (q := 50) (v := v4_28) (L' := [(4, .int v4_28), (0, .ref v0), (1, .long v1), (3, .int v3)]) dX8_append_47 rfl 3 rfl (by rw [← e_29]; rfl) (by decide) rfl ?_
        refine zr_goto (q := 3) dX8_append_50 (by decide) ?_
        exact zr_pick [1, 2, 3, 0] rfl (ih M_26 v0 v1 v3 v4_28 _ _ h)
def fX8_append (n : Nat) (M : zM) (v0 : Nat) (v1 : Int64) (v3 : Int32) : Option (Unit × zM) :=
  fX8_append_3 n M v0 v1 v3 (0 : Int32)
set_option maxHeartbeats 4000000 in
theorem tX8_append (n : Nat) (M : zM) (v0 : Nat) (v1 : Int64) (v3 : Int32) (r : Unit) (M' : zM) (h : fX8_append n M v0 v1 v3 = some (r, M')) : zMet uX8_append false M [.ref v0, .long v1, .int v3] (zE (oV r) M') := by
  refine zMet_of (L := [(0, .ref v0), (1, .long v1), (3, .int v3)]) (by decide +kernel) rfl rfl (Nat.le_of_ble_eq_true rfl) ?_
  show zW uX8_append none (0, 0) M 0 [(0, .ref v0), (1, .long v1), (3, .int v3)] [] (zE (oV r) M')
  unfold fX8_append at h
  refine zr_iconst (q := 1) (v := 0) dX8_append_0 rfl (by decide) ?_
  refine zr_istore (q := 3) (L' := [(4, .int (0 : Int32)), (0, .ref v0), (1, .long v1), (3, .int v3)]) dX8_append_1 rfl (by decide) rfl ?_
  exact zr_pick [1, 2, 3, 0] rfl (tX8_append_3 n M v0 v1 v3 (0 : Int32) _ _ h)

def uX8_cutOff : zMu := (yX8_cutOff, cX8_cutOff, 1, none, { frames := 0, cells := 0, slots := 0, locals := 0 }, [])
theorem zd_X8_cutOff : (uY uX8_cutOff).cls ≠ "java/lang/invoke/MethodHandle" ∧ (uY uX8_cutOff).cls ≠ "java/lang/invoke/VarHandle" ∧ (parseMethodDescriptor (uY uX8_cutOff).desc).map (fun d => d.parameters.length) = some 0 := by decide +kernel
def fX8_cutOff (n : Nat) (M : zM) (v0 : Nat) : Option (Unit × zM) :=
  chk (mK M v0 == 8) <|
  app (wI M v0 0 (0 : Int32)) fun M_2 : zM =>
  chk (mK M_2 v0 == 8) <|
  app (wI M_2 v0 5 (0 : Int32)) fun M_5 : zM =>
  some ((), M_5)
set_option maxHeartbeats 4000000 in
theorem tX8_cutOff (n : Nat) (M : zM) (v0 : Nat) (r : Unit) (M' : zM) (h : fX8_cutOff n M v0 = some (r, M')) : zMet uX8_cutOff false M [.ref v0] (zE (oV r) M') := by
  refine zMet_of (L := [(0, .ref v0)]) (by decide +kernel) rfl rfl (Nat.le_of_ble_eq_true rfl) ?_
  show zW uX8_cutOff none (0, 0) M 0 [(0, .ref v0)] [] (zE (oV r) M')
  unfold fX8_cutOff at h
  refine zr_aload_n (q := 1) dX8_cutOff_0 rfl rfl 0 rfl ?_
  refine zr_iconst (q := 2) (v := 0) dX8_cutOff_1 rfl (by decide) ?_
  obtain ⟨c_1, h⟩ := chk_some h
  obtain ⟨M_2, e_3, h⟩ := app_some h
  refine zr_putI (q := 5) (ci := 8) (k := 0) dX8_cutOff_2 rfl (eq_of_beq c_1) rfl (by decide) rfl zbX8 tyX8_ok nmX8 (by decide) zb_276 (Or.inl rfl) rfl ?_
  refine zr_mem e_3 ?_
  refine zr_aload_n (q := 6) dX8_cutOff_5 rfl rfl 0 rfl ?_
  refine zr_iconst (q := 7) (v := 0) dX8_cutOff_6 rfl (by decide) ?_
  obtain ⟨c_4, h⟩ := chk_some h
  obtain ⟨M_5, e_6, h⟩ := app_some h
  refine zr_putZ (q := 10) (ci := 8) (k := 5) dX8_cutOff_7 rfl (eq_of_beq c_4) rfl (by decide) rfl zbX8 tyX8_ok nmX8 (by decide) zb_275 (Or.inl rfl) rfl (Or.inl rfl) ?_
  refine zr_mem e_6 ?_
  cases h
  exact zr_return dX8_cutOff_10 rfl ⟨by decide, by decide⟩ ⟨rfl, rfl⟩

def uX8_forgetFinds : zMu := (yX8_forgetFinds, cX8_forgetFinds, 1, none, { frames := 0, cells := 0, slots := 0, locals := 0 }, [])
theorem zd_X8_forgetFinds : (uY uX8_forgetFinds).cls ≠ "java/lang/invoke/MethodHandle" ∧ (uY uX8_forgetFinds).cls ≠ "java/lang/invoke/VarHandle" ∧ (parseMethodDescriptor (uY uX8_forgetFinds).desc).map (fun d => d.parameters.length) = some 0 := by decide +kernel
def fX8_forgetFinds (n : Nat) (M : zM) (v0 : Nat) : Option (Unit × zM) :=
  chk (mK M v0 == 8) <|
  app (wI M v0 5 (0 : Int32)) fun M_2 : zM =>
  some ((), M_2)
set_option maxHeartbeats 4000000 in
theorem tX8_forgetFinds (n : Nat) (M : zM) (v0 : Nat) (r : Unit) (M' : zM) (h : fX8_forgetFinds n M v0 = some (r, M')) : zMet uX8_forgetFinds false M [.ref v0] (zE (oV r) M') := by
  refine zMet_of (L := [(0, .ref v0)]) (by decide +kernel) rfl rfl (Nat.le_of_ble_eq_true rfl) ?_
  show zW uX8_forgetFinds none (0, 0) M 0 [(0, .ref v0)] [] (zE (oV r) M')
  unfold fX8_forgetFinds at h
  refine zr_aload_n (q := 1) dX8_forgetFinds_0 rfl rfl 0 rfl ?_
  refine zr_iconst (q := 2) (v := 0) dX8_forgetFinds_1 rfl (by decide) ?_
  obtain ⟨c_1, h⟩ := chk_some h
  obtain ⟨M_2, e_3, h⟩ := app_some h
  refine zr_putZ (q := 5) (ci := 8) (k := 5) dX8_forgetFinds_2 rfl (eq_of_beq c_1) rfl (by decide) rfl zbX8 tyX8_ok nmX8 (by decide) zb_275 (Or.inl rfl) rfl (Or.inl rfl) ?_
  refine zr_mem e_3 ?_
  cases h
  exact zr_return dX8_forgetFinds_5 rfl ⟨by decide, by decide⟩ ⟨rfl, rfl⟩

def uX8_isWordOf : zMu := (yX8_isWordOf, cX8_isWordOf, 8, (some .boolean), { frames := 2, cells := 0, slots := 0, locals := 47 }, [])
theorem zd_X8_isWordOf : (uY uX8_isWordOf).cls ≠ "java/lang/invoke/MethodHandle" ∧ (uY uX8_isWordOf).cls ≠ "java/lang/invoke/VarHandle" ∧ (parseMethodDescriptor (uY uX8_isWordOf).desc).map (fun d => d.parameters.length) = some 1 := by decide +kernel
def fX8_isWordOf_55 (k13 : zM → Nat → Nat → Int32 → Int64 → Int32 → Option (Int32 × zM)) (n : Nat) (M : zM) (v0 : Nat) (v1 : Nat) (v5 : Int32) (v6 : Int64) (s0 : Int32) : Option (Int32 × zM) :=
  chk (mK M v1 == 4) <|
  bnd2 (fX4_behindAny n M v1 v6) fun r_1 M_2 =>
  app (v5 + (1 : Int32)) fun v5_5 : Int32 =>
  k13 M_2 v0 v1 s0 r_1 v5_5
set_option maxHeartbeats 4000000 in
theorem tX8_isWordOf_55 (k13 : zM → Nat → Nat → Int32 → Int64 → Int32 → Option (Int32 × zM)) (h13 : ∀ (M : zM) (v0 : Nat) (v1 : Nat) (v2 : Int32) (v3 : Int64) (v5 : Int32) (r : Int32) (M' : zM), k13 M v0 v1 v2 v3 v5 = some (r, M') → zW uX8_isWordOf none (0, 0) M 13 [(0, .ref v0), (1, .ref v1), (2, .int v2), (3, .long v3), (5, .int v5)] [] (zE (oI r) M')) (n : Nat) (M : zM) (v0 : Nat) (v1 : Nat) (v5 : Int32) (v6 : Int64) (s0 : Int32) (r : Int32) (M' : zM) (h : fX8_isWordOf_55 k13 n M v0 v1 v5 v6 s0 = some (r, M')) : zW uX8_isWordOf none (0, 0) M 55 [(0, .ref v0), (1, .ref v1), (5, .int v5), (6, .long v6)] [.int s0] (zE (oI r) M') := by
  unfold fX8_isWordOf_55 at h
  refine zr_istore_n (q := 56) (L' := [(2, .int s0), (0, .ref v0), (1, .ref v1), (5, .int v5), (6, .long v6)]) dX8_isWordOf_55 rfl rfl (by decide) rfl ?_
  refine zr_aload_n (q := 57) dX8_isWordOf_56 rfl rfl 2 rfl ?_
  refine zr_lload (q := 59) dX8_isWordOf_57 rfl 4 rfl ?_
  obtain ⟨c_4, h⟩ := chk_some h
  obtain ⟨r_1, M_2, hc_3, h⟩ := bnd2_some h
  refine zr_callVL (μ' := uX4_behindAny) (q := 62) (n := 1) (ci := 4) (As := [.long v6]) (u' := (0, 0)) (tX4_behindAny n M v1 v6 _ _ hc_3) dX8_isWordOf_59 rfl rfl ⟨zb_27, zb_278, zb_29, zb_30, zb_31⟩ zd_X4_behindAny ⟨by decide, by decide⟩ ⟨by decide, by decide⟩ (eq_of_beq c_4) (by decide) rfl rfl rfl (Nat.le_of_ble_eq_true rfl) rfl rfl ?_
  refine zr_lstore_n (q := 63) (L' := [(3, .long r_1), (2, .int s0), (0, .ref v0), (1, .ref v1), (5, .int v5), (6, .long v6)]) dX8_isWordOf_62 rfl rfl (by decide) rfl ?_
  obtain ⟨v5_5, e_6, h⟩ := app_some h
  refine zr_iinc (q := 66) (v := v5_5) (L' := [(5, .int v5_5), (3, .long r_1), (2, .int s0), (0, .ref v0), (1, .ref v1), (6, .long v6)]) dX8_isWordOf_63 rfl 4 rfl (by rw [← e_6]; rfl) (by decide) rfl ?_
  refine zr_goto (q := 13) dX8_isWordOf_66 (by decide) ?_
  exact zr_pick [3, 4, 2, 1, 0] rfl (h13 M_2 v0 v1 s0 r_1 v5_5 _ _ h)
def fX8_isWordOf_13 : Nat → zM → Nat → Nat → Int32 → Int64 → Int32 → Option (Int32 × zM)
  | 0, _, _, _, _, _, _ => none
  | n + 1, M, v0, v1, v2, v3, v5 =>
    chk (mK M v0 == 8) <|
    if (mI M v0 0) ≤ v5 then
      chk (z01 v2) <|
      some (v2, M)
    else
    chk (mK M v1 == 4) <|
    bnd (mR M v1 6) fun a_5 =>
    chk (mK M v0 == 8) <|
    bnd (mR M v0 4) fun a_8 =>
    chk (mK M a_8 == 11) <|
    chk (zin v5 (mN M a_8)) <|
    chk (mK M a_5 == 12) <|
    chk (zin (mI M a_8 (Int32.toNatClampNeg v5)) (mN M a_5)) <|
    app (v3 &&& (mL M a_5 (Int32.toNatClampNeg (mI M a_8 (Int32.toNatClampNeg v5))))) fun v6_14 : Int64 =>
    chk (mK M v1 == 4) <|
    if (lg_cmp (v6_14 &&& (mL M v1 3)) (0 : Int64)) = (0 : Int32) then
      fX8_isWordOf_55 (fX8_isWordOf_13 n) n M v0 v1 v5 v6_14 (0 : Int32)
    else
    fX8_isWordOf_55 (fX8_isWordOf_13 n) n M v0 v1 v5 v6_14 (1 : Int32)
set_option maxHeartbeats 4000000 in
theorem tX8_isWordOf_13 : ∀ (n : Nat) (M : zM) (v0 : Nat) (v1 : Nat) (v2 : Int32) (v3 : Int64) (v5 : Int32) (r : Int32) (M' : zM), fX8_isWordOf_13 n M v0 v1 v2 v3 v5 = some (r, M') → zW uX8_isWordOf none (0, 0) M 13 [(0, .ref v0), (1, .ref v1), (2, .int v2), (3, .long v3), (5, .int v5)] [] (zE (oI r) M') := by
  intro n
  induction n with
  | zero => intro M v0 v1 v2 v3 v5 r M' h; cases h
  | succ n ih =>
    intro M v0 v1 v2 v3 v5 r M' h
    rw [fX8_isWordOf_13] at h
    refine zr_iload (q := 15) dX8_isWordOf_13 rfl 4 rfl ?_
    refine zr_aload_n (q := 16) dX8_isWordOf_15 rfl rfl 0 rfl ?_
    obtain ⟨c_1, h⟩ := chk_some h
    refine zr_get (q := 19) (ci := 8) (k := 0) dX8_isWordOf_16 rfl (eq_of_beq c_1) rfl (by decide) rfl zbX8 (by decide) zb_276 rfl ?_
    refine zr_icmp_ge (q := 22) (tgt := 69) dX8_isWordOf_19 rfl (by decide) (fun c_2 => ?_) (fun c_2 => ?_)
    · replace h := ite_t c_2 h
      refine zr_iload_n (q := 70) dX8_isWordOf_69 rfl rfl 2 rfl ?_
      obtain ⟨c_3, h⟩ := chk_some h
      cases h
      exact zr_zreturn dX8_isWordOf_70 rfl (z01_or c_3) ⟨by decide, by decide⟩ ⟨rfl, rfl⟩
    · replace h := ite_f c_2 h
      refine zr_lload_n (q := 23) dX8_isWordOf_22 rfl rfl 3 rfl ?_
      refine zr_aload_n (q := 24) dX8_isWordOf_23 rfl rfl 1 rfl ?_
      obtain ⟨c_4, h⟩ := chk_some h
      obtain ⟨a_5, e_6, h⟩ := bnd_some h
      refine zr_getr (q := 27) (ci := 4) (k := 6) dX8_isWordOf_24 rfl (eq_of_beq c_4) rfl (by decide) rfl zbX4 (by decide) zb_279 rfl e_6 ?_
      refine zr_aload_n (q := 28) dX8_isWordOf_27 rfl rfl 0 rfl ?_
      obtain ⟨c_7, h⟩ := chk_some h
      obtain ⟨a_8, e_9, h⟩ := bnd_some h
      refine zr_getr (q := 31) (ci := 8) (k := 4) dX8_isWordOf_28 rfl (eq_of_beq c_7) rfl (by decide) rfl zbX8 (by decide) zb_277 rfl e_9 ?_
      refine zr_iload (q := 33) dX8_isWordOf_31 rfl 4 rfl ?_
      obtain ⟨c_10, h⟩ := chk_some h
      obtain ⟨c_11, h⟩ := chk_some h
      refine zr_iald (q := 34) dX8_isWordOf_33 rfl (eq_of_beq c_10) c_11 ?_
      obtain ⟨c_12, h⟩ := chk_some h
      obtain ⟨c_13, h⟩ := chk_some h
      refine zr_lald (q := 35) dX8_isWordOf_34 rfl (eq_of_beq c_12) c_13 ?_
      refine zr_land (q := 36) dX8_isWordOf_35 rfl ?_
      obtain ⟨v6_14, e_15, h⟩ := app_some h
      refine zr_nmL e_15 ?_
      refine zr_lstore (q := 38) (L' := [(6, .long v6_14), (0, .ref v0), (1, .ref v1), (2, .int v2), (3, .long v3), (5, .int v5)]) dX8_isWordOf_36 rfl (by decide) rfl ?_
      refine zr_lload (q := 40) dX8_isWordOf_38 rfl 0 rfl ?_
      refine zr_aload_n (q := 41) dX8_isWordOf_40 rfl rfl 2 rfl ?_
      obtain ⟨c_16, h⟩ := chk_some h
      refine zr_get (q := 44) (ci := 4) (k := 3) dX8_isWordOf_41 rfl (eq_of_beq c_16) rfl (by decide) rfl zbX4 (by decide) zb_280 rfl ?_
      refine zr_land (q := 45) dX8_isWordOf_44 rfl ?_
      refine zr_lconst (q := 46) (v := 0) dX8_isWordOf_45 rfl (by decide) ?_
      refine zr_lcmp (q := 47) dX8_isWordOf_46 rfl ?_
      refine zr_if_eq (q := 50) (tgt := 54) dX8_isWordOf_47 rfl (by decide) (fun c_17 => ?_) (fun c_17 => ?_)
      · replace h := ite_t c_17 h
        refine zr_iconst (q := 55) (v := 0) dX8_isWordOf_54 rfl (by decide) ?_
        exact zr_pick [1, 2, 5, 0] rfl (tX8_isWordOf_55 (fX8_isWordOf_13 n) ih n M v0 v1 v5 v6_14 (0 : Int32) _ _ h)
      · replace h := ite_f c_17 h
        refine zr_iconst (q := 51) (v := 1) dX8_isWordOf_50 rfl (by decide) ?_
        refine zr_goto (q := 55) dX8_isWordOf_51 (by decide) ?_
        exact zr_pick [1, 2, 5, 0] rfl (tX8_isWordOf_55 (fX8_isWordOf_13 n) ih n M v0 v1 v5 v6_14 (1 : Int32) _ _ h)
def fX8_isWordOf (n : Nat) (M : zM) (v0 : Nat) (v1 : Nat) : Option (Int32 × zM) :=
  chk (mK M v1 == 4) <|
  app (mI M v1 1) fun v2_2 : Int32 =>
  chk (mK M v1 == 4) <|
  app (mL M v1 2) fun v3_5 : Int64 =>
  fX8_isWordOf_13 n M v0 v1 v2_2 v3_5 (0 : Int32)
set_option maxHeartbeats 4000000 in
theorem tX8_isWordOf (n : Nat) (M : zM) (v0 : Nat) (v1 : Nat) (r : Int32) (M' : zM) (h : fX8_isWordOf n M v0 v1 = some (r, M')) : zMet uX8_isWordOf false M [.ref v0, .ref v1] (zE (oI r) M') := by
  refine zMet_of (L := [(0, .ref v0), (1, .ref v1)]) (by decide +kernel) rfl rfl (Nat.le_of_ble_eq_true rfl) ?_
  show zW uX8_isWordOf none (0, 0) M 0 [(0, .ref v0), (1, .ref v1)] [] (zE (oI r) M')
  unfold fX8_isWordOf at h
  refine zr_aload_n (q := 1) dX8_isWordOf_0 rfl rfl 1 rfl ?_
  obtain ⟨c_1, h⟩ := chk_some h
  refine zr_get (q := 4) (ci := 4) (k := 1) dX8_isWordOf_1 rfl (eq_of_beq c_1) rfl (by decide) rfl zbX4 (by decide) zb_281 rfl ?_
  obtain ⟨v2_2, e_3, h⟩ := app_some h
  refine zr_nmI e_3 ?_
  refine zr_istore_n (q := 5) (L' := [(2, .int v2_2), (0, .ref v0), (1, .ref v1)]) dX8_isWordOf_4 rfl rfl (by decide) rfl ?_
  refine zr_aload_n (q := 6) dX8_isWordOf_5 rfl rfl 2 rfl ?_
  obtain ⟨c_4, h⟩ := chk_some h
  refine zr_get (q := 9) (ci := 4) (k := 2) dX8_isWordOf_6 rfl (eq_of_beq c_4) rfl (by decide) rfl zbX4 (by decide) zb_282 rfl ?_
  obtain ⟨v3_5, e_6, h⟩ := app_some h
  refine zr_nmL e_6 ?_
  refine zr_lstore_n (q := 10) (L' := [(3, .long v3_5), (2, .int v2_2), (0, .ref v0), (1, .ref v1)]) dX8_isWordOf_9 rfl rfl (by decide) rfl ?_
  refine zr_iconst (q := 11) (v := 0) dX8_isWordOf_10 rfl (by decide) ?_
  refine zr_istore (q := 13) (L' := [(5, .int (0 : Int32)), (3, .long v3_5), (2, .int v2_2), (0, .ref v0), (1, .ref v1)]) dX8_isWordOf_11 rfl (by decide) rfl ?_
  exact zr_pick [3, 4, 2, 1, 0] rfl (tX8_isWordOf_13 n M v0 v1 v2_2 v3_5 (0 : Int32) _ _ h)

def uX8_longestEnd : zMu := (yX8_longestEnd, cX8_longestEnd, 9, (some .int), { frames := 2, cells := 0, slots := 0, locals := 47 }, [])
theorem zd_X8_longestEnd : (uY uX8_longestEnd).cls ≠ "java/lang/invoke/MethodHandle" ∧ (uY uX8_longestEnd).cls ≠ "java/lang/invoke/VarHandle" ∧ (parseMethodDescriptor (uY uX8_longestEnd).desc).map (fun d => d.parameters.length) = some 2 := by decide +kernel
def fX8_longestEnd_61 (k11 : zM → Nat → Nat → Int32 → Int64 → Int32 → Option (Int32 × zM)) (n : Nat) (M : zM) (v0 : Nat) (v1 : Nat) (v3 : Int32) (v6 : Int32) (v7 : Int64) : Option (Int32 × zM) :=
  chk (mK M v1 == 4) <|
  bnd2 (fX4_behindAny n M v1 v7) fun r_1 M_2 =>
  app (v6 + (1 : Int32)) fun v6_5 : Int32 =>
  k11 M_2 v0 v1 v3 r_1 v6_5
set_option maxHeartbeats 4000000 in
theorem tX8_longestEnd_61 (k11 : zM → Nat → Nat → Int32 → Int64 → Int32 → Option (Int32 × zM)) (h11 : ∀ (M : zM) (v0 : Nat) (v1 : Nat) (v3 : Int32) (v4 : Int64) (v6 : Int32) (r : Int32) (M' : zM), k11 M v0 v1 v3 v4 v6 = some (r, M') → zW uX8_longestEnd none (0, 0) M 11 [(0, .ref v0), (1, .ref v1), (3, .int v3), (4, .long v4), (6, .int v6)] [] (zE (oI r) M')) (n : Nat) (M : zM) (v0 : Nat) (v1 : Nat) (v3 : Int32) (v6 : Int32) (v7 : Int64) (r : Int32) (M' : zM) (h : fX8_longestEnd_61 k11 n M v0 v1 v3 v6 v7 = some (r, M')) : zW uX8_longestEnd none (0, 0) M 61 [(0, .ref v0), (1, .ref v1), (3, .int v3), (6, .int v6), (7, .long v7)] [] (zE (oI r) M') := by
  unfold fX8_longestEnd_61 at h
  refine zr_aload_n (q := 62) dX8_longestEnd_61 rfl rfl 1 rfl ?_
  refine zr_lload (q := 64) dX8_longestEnd_62 rfl 4 rfl ?_
  obtain ⟨c_4, h⟩ := chk_some h
  obtain ⟨r_1, M_2, hc_3, h⟩ := bnd2_some h
  refine zr_callVL (μ' := uX4_behindAny) (q := 67) (n := 1) (ci := 4) (As := [.long v7]) (u' := (0, 0)) (tX4_behindAny n M v1 v7 _ _ hc_3) dX8_longestEnd_64 rfl rfl ⟨zb_27, zb_278, zb_29, zb_30, zb_31⟩ zd_X4_behindAny ⟨by decide, by decide⟩ ⟨by decide, by decide⟩ (eq_of_beq c_4) (by decide) rfl rfl rfl (Nat.le_of_ble_eq_true rfl) rfl rfl ?_
  refine zr_lstore (q := 69) (L' := [(4, .long r_1), (0, .ref v0), (1, .ref v1), (3, .int v3), (6, .int v6), (7, .long v7)]) dX8_longestEnd_67 rfl (by decide) rfl ?_
  obtain ⟨v6_5, e_6, h⟩ := app_some h
  refine zr_iinc (q := 72) (v := v6_5) (L' := [(6, .int v6_5), (4, .long r_1), (0, .ref v0), (1, .ref v1), (3, .int v3), (7, .long v7)]) dX8_longestEnd_69 rfl 4 rfl (by rw [← e_6]; rfl) (by decide) rfl ?_
  refine zr_goto (q := 11) dX8_longestEnd_72 (by decide) ?_
  exact zr_pick [2, 3, 4, 1, 0] rfl (h11 M_2 v0 v1 v3 r_1 v6_5 _ _ h)
def fX8_longestEnd_11 : Nat → zM → Nat → Nat → Int32 → Int64 → Int32 → Option (Int32 × zM)
  | 0, _, _, _, _, _, _ => none
  | n + 1, M, v0, v1, v3, v4, v6 =>
    chk (mK M v0 == 8) <|
    if (mI M v0 0) ≤ v6 then
      some (v3, M)
    else
    if (lg_cmp v4 (0 : Int64)) = (0 : Int32) then
      some (v3, M)
    else
    chk (mK M v1 == 4) <|
    bnd (mR M v1 6) fun a_5 =>
    chk (mK M v0 == 8) <|
    bnd (mR M v0 4) fun a_8 =>
    chk (mK M a_8 == 11) <|
    chk (zin v6 (mN M a_8)) <|
    chk (mK M a_5 == 12) <|
    chk (zin (mI M a_8 (Int32.toNatClampNeg v6)) (mN M a_5)) <|
    app (v4 &&& (mL M a_5 (Int32.toNatClampNeg (mI M a_8 (Int32.toNatClampNeg v6))))) fun v7_14 : Int64 =>
    chk (mK M v1 == 4) <|
    if (lg_cmp (v7_14 &&& (mL M v1 3)) (0 : Int64)) = (0 : Int32) then
      fX8_longestEnd_61 (fX8_longestEnd_11 n) n M v0 v1 v3 v6 v7_14
    else
    app (v6 + (1 : Int32)) fun v3_18 : Int32 =>
    fX8_longestEnd_61 (fX8_longestEnd_11 n) n M v0 v1 v3_18 v6 v7_14
set_option maxHeartbeats 4000000 in
theorem tX8_longestEnd_11 : ∀ (n : Nat) (M : zM) (v0 : Nat) (v1 : Nat) (v3 : Int32) (v4 : Int64) (v6 : Int32) (r : Int32) (M' : zM), fX8_longestEnd_11 n M v0 v1 v3 v4 v6 = some (r, M') → zW uX8_longestEnd none (0, 0) M 11 [(0, .ref v0), (1, .ref v1), (3, .int v3), (4, .long v4), (6, .int v6)] [] (zE (oI r) M') := by
  intro n
  induction n with
  | zero => intro M v0 v1 v3 v4 v6 r M' h; cases h
  | succ n ih =>
    intro M v0 v1 v3 v4 v6 r M' h
    rw [fX8_longestEnd_11] at h
    refine zr_iload (q := 13) dX8_longestEnd_11 rfl 4 rfl ?_
    refine zr_aload_n (q := 14) dX8_longestEnd_13 rfl rfl 0 rfl ?_
    obtain ⟨c_1, h⟩ := chk_some h
    refine zr_get (q := 17) (ci := 8) (k := 0) dX8_longestEnd_14 rfl (eq_of_beq c_1) rfl (by decide) rfl zbX8 (by decide) zb_276 rfl ?_
    refine zr_icmp_ge (q := 20) (tgt := 75) dX8_longestEnd_17 rfl (by decide) (fun c_2 => ?_) (fun c_2 => ?_)
    · replace h := ite_t c_2 h
      refine zr_iload_n (q := 76) dX8_longestEnd_75 rfl rfl 2 rfl ?_
      cases h
      exact zr_ireturn dX8_longestEnd_76 rfl ⟨by decide, by decide⟩ ⟨rfl, rfl⟩
    · replace h := ite_f c_2 h
      refine zr_lload (q := 22) dX8_longestEnd_20 rfl 3 rfl ?_
      refine zr_lconst (q := 23) (v := 0) dX8_longestEnd_22 rfl (by decide) ?_
      refine zr_lcmp (q := 24) dX8_longestEnd_23 rfl ?_
      refine zr_if_eq (q := 27) (tgt := 75) dX8_longestEnd_24 rfl (by decide) (fun c_3 => ?_) (fun c_3 => ?_)
      · replace h := ite_t c_3 h
        refine zr_iload_n (q := 76) dX8_longestEnd_75 rfl rfl 2 rfl ?_
        cases h
        exact zr_ireturn dX8_longestEnd_76 rfl ⟨by decide, by decide⟩ ⟨rfl, rfl⟩
      · replace h := ite_f c_3 h
        refine zr_lload (q := 29) dX8_longestEnd_27 rfl 3 rfl ?_
        refine zr_aload_n (q := 30) dX8_longestEnd_29 rfl rfl 1 rfl ?_
        obtain ⟨c_4, h⟩ := chk_some h
        obtain ⟨a_5, e_6, h⟩ := bnd_some h
        refine zr_getr (q := 33) (ci := 4) (k := 6) dX8_longestEnd_30 rfl (eq_of_beq c_4) rfl (by decide) rfl zbX4 (by decide) zb_279 rfl e_6 ?_
        refine zr_aload_n (q := 34) dX8_longestEnd_33 rfl rfl 0 rfl ?_
        obtain ⟨c_7, h⟩ := chk_some h
        obtain ⟨a_8, e_9, h⟩ := bnd_some h
        refine zr_getr (q := 37) (ci := 8) (k := 4) dX8_longestEnd_34 rfl (eq_of_beq c_7) rfl (by decide) rfl zbX8 (by decide) zb_277 rfl e_9 ?_
        refine zr_iload (q := 39) dX8_longestEnd_37 rfl 4 rfl ?_
        obtain ⟨c_10, h⟩ := chk_some h
        obtain ⟨c_11, h⟩ := chk_some h
        refine zr_iald (q := 40) dX8_longestEnd_39 rfl (eq_of_beq c_10) c_11 ?_
        obtain ⟨c_12, h⟩ := chk_some h
        obtain ⟨c_13, h⟩ := chk_some h
        refine zr_lald (q := 41) dX8_longestEnd_40 rfl (eq_of_beq c_12) c_13 ?_
        refine zr_land (q := 42) dX8_longestEnd_41 rfl ?_
        obtain ⟨v7_14, e_15, h⟩ := app_some h
        refine zr_nmL e_15 ?_
        refine zr_lstore (q := 44) (L' := [(7, .long v7_14), (0, .ref v0), (1, .ref v1), (3, .int v3), (4, .long v4), (6, .int v6)]) dX8_longestEnd_42 rfl (by decide) rfl ?_
        refine zr_lload (q := 46) dX8_longestEnd_44 rfl 0 rfl ?_
        refine zr_aload_n (q := 47) dX8_longestEnd_46 rfl rfl 2 rfl ?_
        obtain ⟨c_16, h⟩ := chk_some h
        refine zr_get (q := 50) (ci := 4) (k := 3) dX8_longestEnd_47 rfl (eq_of_beq c_16) rfl (by decide) rfl zbX4 (by decide) zb_280 rfl ?_
        refine zr_land (q := 51) dX8_longestEnd_50 rfl ?_
        refine zr_lconst (q := 52) (v := 0) dX8_longestEnd_51 rfl (by decide) ?_
        refine zr_lcmp (q := 53) dX8_longestEnd_52 rfl ?_
        refine zr_if_eq (q := 56) (tgt := 61) dX8_longestEnd_53 rfl (by decide) (fun c_17 => ?_) (fun c_17 => ?_)
        · replace h := ite_t c_17 h
          exact zr_pick [1, 2, 3, 5, 0] rfl (tX8_longestEnd_61 (fX8_longestEnd_11 n) ih n M v0 v1 v3 v6 v7_14 _ _ h)
        · replace h := ite_f c_17 h
          refine zr_iload (q := 58) dX8_longestEnd_56 rfl 5 rfl ?_
          refine zr_iconst (q := 59) (v := 1) dX8_longestEnd_58 rfl (by decide) ?_
          refine zr_iadd (q := 60) dX8_longestEnd_59 rfl ?_
          obtain ⟨v3_18, e_19, h⟩ := app_some h
          refine zr_nmI e_19 ?_
          refine zr_istore_n (q := 61) (L' := [(3, .int v3_18), (7, .long v7_14), (0, .ref v0), (1, .ref v1), (4, .long v4), (6, .int v6)]) dX8_longestEnd_60 rfl rfl (by decide) rfl ?_
          exact zr_pick [2, 3, 0, 5, 1] rfl (tX8_longestEnd_61 (fX8_longestEnd_11 n) ih n M v0 v1 v3_18 v6 v7_14 _ _ h)
def fX8_longestEnd (n : Nat) (M : zM) (v0 : Nat) (v1 : Nat) (v2 : Int32) : Option (Int32 × zM) :=
  chk (mK M v1 == 4) <|
  app (mL M v1 2) fun v4_2 : Int64 =>
  fX8_longestEnd_11 n M v0 v1 (-1 : Int32) v4_2 v2
set_option maxHeartbeats 4000000 in
theorem tX8_longestEnd (n : Nat) (M : zM) (v0 : Nat) (v1 : Nat) (v2 : Int32) (r : Int32) (M' : zM) (h : fX8_longestEnd n M v0 v1 v2 = some (r, M')) : zMet uX8_longestEnd false M [.ref v0, .ref v1, .int v2] (zE (oI r) M') := by
  refine zMet_of (L := [(0, .ref v0), (1, .ref v1), (2, .int v2)]) (by decide +kernel) rfl rfl (Nat.le_of_ble_eq_true rfl) ?_
  show zW uX8_longestEnd none (0, 0) M 0 [(0, .ref v0), (1, .ref v1), (2, .int v2)] [] (zE (oI r) M')
  unfold fX8_longestEnd at h
  refine zr_iconst (q := 1) (v := -1) dX8_longestEnd_0 rfl (by decide) ?_
  refine zr_istore_n (q := 2) (L' := [(3, .int (-1 : Int32)), (0, .ref v0), (1, .ref v1), (2, .int v2)]) dX8_longestEnd_1 rfl rfl (by decide) rfl ?_
  refine zr_aload_n (q := 3) dX8_longestEnd_2 rfl rfl 2 rfl ?_
  obtain ⟨c_1, h⟩ := chk_some h
  refine zr_get (q := 6) (ci := 4) (k := 2) dX8_longestEnd_3 rfl (eq_of_beq c_1) rfl (by decide) rfl zbX4 (by decide) zb_282 rfl ?_
  obtain ⟨v4_2, e_3, h⟩ := app_some h
  refine zr_nmL e_3 ?_
  refine zr_lstore (q := 8) (L' := [(4, .long v4_2), (3, .int (-1 : Int32)), (0, .ref v0), (1, .ref v1), (2, .int v2)]) dX8_longestEnd_6 rfl (by decide) rfl ?_
  refine zr_iload_n (q := 9) dX8_longestEnd_8 rfl rfl 4 rfl ?_
  refine zr_istore (q := 11) (L' := [(6, .int v2), (4, .long v4_2), (3, .int (-1 : Int32)), (0, .ref v0), (1, .ref v1), (2, .int v2)]) dX8_longestEnd_9 rfl (by decide) rfl ?_
  exact zr_pick [3, 4, 2, 1, 0] rfl (tX8_longestEnd_11 n M v0 v1 (-1 : Int32) v4_2 v2 _ _ h)

def uX8_lookFor : zMu := (yX8_lookFor, cX8_lookFor, 5, none, { frames := 3, cells := 0, slots := 0, locals := 75 }, [])
theorem zd_X8_lookFor : (uY uX8_lookFor).cls ≠ "java/lang/invoke/MethodHandle" ∧ (uY uX8_lookFor).cls ≠ "java/lang/invoke/VarHandle" ∧ (parseMethodDescriptor (uY uX8_lookFor).desc).map (fun d => d.parameters.length) = some 1 := by decide +kernel
def fX8_lookFor_82 (k17 : zM → Nat → Nat → Int32 → Int32 → Option (Unit × zM)) (n : Nat) (M : zM) (v0 : Nat) (v1 : Nat) (v2 : Int32) (v3 : Int32) : Option (Unit × zM) :=
  app (v3 + (1 : Int32)) fun v3_1 : Int32 =>
  k17 M v0 v1 v2 v3_1
set_option maxHeartbeats 4000000 in
theorem tX8_lookFor_82 (k17 : zM → Nat → Nat → Int32 → Int32 → Option (Unit × zM)) (h17 : ∀ (M : zM) (v0 : Nat) (v1 : Nat) (v2 : Int32) (v3 : Int32) (r : Unit) (M' : zM), k17 M v0 v1 v2 v3 = some (r, M') → zW uX8_lookFor none (0, 0) M 17 [(0, .ref v0), (1, .ref v1), (2, .int v2), (3, .int v3)] [] (zE (oV r) M')) (n : Nat) (M : zM) (v0 : Nat) (v1 : Nat) (v2 : Int32) (v3 : Int32) (r : Unit) (M' : zM) (h : fX8_lookFor_82 k17 n M v0 v1 v2 v3 = some (r, M')) : zW uX8_lookFor none (0, 0) M 82 [(0, .ref v0), (1, .ref v1), (2, .int v2), (3, .int v3)] [] (zE (oV r) M') := by
  unfold fX8_lookFor_82 at h
  obtain ⟨v3_1, e_2, h⟩ := app_some h
  refine zr_iinc (q := 85) (v := v3_1) (L' := [(3, .int v3_1), (0, .ref v0), (1, .ref v1), (2, .int v2)]) dX8_lookFor_82 rfl 3 rfl (by rw [← e_2]; rfl) (by decide) rfl ?_
  refine zr_goto (q := 17) dX8_lookFor_85 (by decide) ?_
  exact zr_pick [1, 2, 3, 0] rfl (h17 M v0 v1 v2 v3_1 _ _ h)
def fX8_lookFor_40 (k17 : zM → Nat → Nat → Int32 → Int32 → Option (Unit × zM)) (n : Nat) (M : zM) (v0 : Nat) (v1 : Nat) (v2 : Int32) (v3 : Int32) (s0 : Int32) : Option (Unit × zM) :=
  if s0 = (-1 : Int32) then
    fX8_lookFor_82 k17 n M v0 v1 v2 v3
  else
  chk (mK M v0 == 8) <|
  bnd (mR M v0 2) fun a_3 =>
  chk (mK M v0 == 8) <|
  chk (mK M a_3 == 11) <|
  chk (zin (mI M v0 1) (mN M a_3)) <|
  app (wI M a_3 (Int32.toNatClampNeg (mI M v0 1)) v3) fun M_8 : zM =>
  chk (mK M_8 v0 == 8) <|
  bnd (mR M_8 v0 3) fun a_11 =>
  chk (mK M_8 v0 == 8) <|
  chk (mK M_8 a_11 == 11) <|
  chk (zin (mI M_8 v0 1) (mN M_8 a_11)) <|
  app (wI M_8 a_11 (Int32.toNatClampNeg (mI M_8 v0 1)) s0) fun M_16 : zM =>
  chk (mK M_16 v0 == 8) <|
  chk (mK M_16 v0 == 8) <|
  app (wI M_16 v0 1 ((mI M_16 v0 1) + (1 : Int32))) fun M_20 : zM =>
  fX8_lookFor_82 k17 n M_20 v0 v1 s0 v3
set_option maxHeartbeats 4000000 in
theorem tX8_lookFor_40 (k17 : zM → Nat → Nat → Int32 → Int32 → Option (Unit × zM)) (h17 : ∀ (M : zM) (v0 : Nat) (v1 : Nat) (v2 : Int32) (v3 : Int32) (r : Unit) (M' : zM), k17 M v0 v1 v2 v3 = some (r, M') → zW uX8_lookFor none (0, 0) M 17 [(0, .ref v0), (1, .ref v1), (2, .int v2), (3, .int v3)] [] (zE (oV r) M')) (n : Nat) (M : zM) (v0 : Nat) (v1 : Nat) (v2 : Int32) (v3 : Int32) (s0 : Int32) (r : Unit) (M' : zM) (h : fX8_lookFor_40 k17 n M v0 v1 v2 v3 s0 = some (r, M')) : zW uX8_lookFor none (0, 0) M 40 [(0, .ref v0), (1, .ref v1), (2, .int v2), (3, .int v3)] [.int s0] (zE (oV r) M') := by
  unfold fX8_lookFor_40 at h
  refine zr_istore (q := 42) (L' := [(4, .int s0), (0, .ref v0), (1, .ref v1), (2, .int v2), (3, .int v3)]) dX8_lookFor_40 rfl (by decide) rfl ?_
  refine zr_iload (q := 44) dX8_lookFor_42 rfl 0 rfl ?_
  refine zr_iconst (q := 45) (v := -1) dX8_lookFor_44 rfl (by decide) ?_
  refine zr_icmp_eq (q := 48) (tgt := 82) dX8_lookFor_45 rfl (by decide) (fun c_1 => ?_) (fun c_1 => ?_)
  · replace h := ite_t c_1 h
    exact zr_pick [1, 2, 3, 4] rfl (tX8_lookFor_82 k17 h17 n M v0 v1 v2 v3 _ _ h)
  · replace h := ite_f c_1 h
    refine zr_aload_n (q := 49) dX8_lookFor_48 rfl rfl 1 rfl ?_
    obtain ⟨c_2, h⟩ := chk_some h
    obtain ⟨a_3, e_4, h⟩ := bnd_some h
    refine zr_getr (q := 52) (ci := 8) (k := 2) dX8_lookFor_49 rfl (eq_of_beq c_2) rfl (by decide) rfl zbX8 (by decide) zb_283 rfl e_4 ?_
    refine zr_aload_n (q := 53) dX8_lookFor_52 rfl rfl 1 rfl ?_
    obtain ⟨c_5, h⟩ := chk_some h
    refine zr_get (q := 56) (ci := 8) (k := 1) dX8_lookFor_53 rfl (eq_of_beq c_5) rfl (by decide) rfl zbX8 (by decide) zb_284 rfl ?_
    refine zr_iload_n (q := 57) dX8_lookFor_56 rfl rfl 4 rfl ?_
    obtain ⟨c_6, h⟩ := chk_some h
    obtain ⟨c_7, h⟩ := chk_some h
    obtain ⟨M_8, e_9, h⟩ := app_some h
    refine zr_iast (q := 58) dX8_lookFor_57 rfl (eq_of_beq c_6) c_7 ?_
    refine zr_mem e_9 ?_
    refine zr_aload_n (q := 59) dX8_lookFor_58 rfl rfl 1 rfl ?_
    obtain ⟨c_10, h⟩ := chk_some h
    obtain ⟨a_11, e_12, h⟩ := bnd_some h
    refine zr_getr (q := 62) (ci := 8) (k := 3) dX8_lookFor_59 rfl (eq_of_beq c_10) rfl (by decide) rfl zbX8 (by decide) zb_285 rfl e_12 ?_
    refine zr_aload_n (q := 63) dX8_lookFor_62 rfl rfl 1 rfl ?_
    obtain ⟨c_13, h⟩ := chk_some h
    refine zr_get (q := 66) (ci := 8) (k := 1) dX8_lookFor_63 rfl (eq_of_beq c_13) rfl (by decide) rfl zbX8 (by decide) zb_284 rfl ?_
    refine zr_iload (q := 68) dX8_lookFor_66 rfl 0 rfl ?_
    obtain ⟨c_14, h⟩ := chk_some h
    obtain ⟨c_15, h⟩ := chk_some h
    obtain ⟨M_16, e_17, h⟩ := app_some h
    refine zr_iast (q := 69) dX8_lookFor_68 rfl (eq_of_beq c_14) c_15 ?_
    refine zr_mem e_17 ?_
    refine zr_aload_n (q := 70) dX8_lookFor_69 rfl rfl 1 rfl ?_
    refine zr_dup (q := 71) dX8_lookFor_70 rfl rfl ?_
    obtain ⟨c_18, h⟩ := chk_some h
    refine zr_get (q := 74) (ci := 8) (k := 1) dX8_lookFor_71 rfl (eq_of_beq c_18) rfl (by decide) rfl zbX8 (by decide) zb_284 rfl ?_
    refine zr_iconst (q := 75) (v := 1) dX8_lookFor_74 rfl (by decide) ?_
    refine zr_iadd (q := 76) dX8_lookFor_75 rfl ?_
    obtain ⟨c_19, h⟩ := chk_some h
    obtain ⟨M_20, e_21, h⟩ := app_some h
    refine zr_putI (q := 79) (ci := 8) (k := 1) dX8_lookFor_76 rfl (eq_of_beq c_19) rfl (by decide) rfl zbX8 tyX8_ok nmX8 (by decide) zb_284 (Or.inl rfl) rfl ?_
    refine zr_mem e_21 ?_
    refine zr_iload (q := 81) dX8_lookFor_79 rfl 0 rfl ?_
    refine zr_istore_n (q := 82) (L' := [(2, .int s0), (4, .int s0), (0, .ref v0), (1, .ref v1), (3, .int v3)]) dX8_lookFor_81 rfl rfl (by decide) rfl ?_
    exact zr_pick [2, 3, 0, 4] rfl (tX8_lookFor_82 k17 h17 n M_20 v0 v1 s0 v3 _ _ h)
def fX8_lookFor_17 : Nat → zM → Nat → Nat → Int32 → Int32 → Option (Unit × zM)
  | 0, _, _, _, _, _ => none
  | n + 1, M, v0, v1, v2, v3 =>
    chk (mK M v0 == 8) <|
    if (mI M v0 0) ≤ v3 then
      chk (mK M v0 == 8) <|
      app (wI M v0 5 (1 : Int32)) fun M_4 : zM =>
      some ((), M_4)
    else
    if v2 ≤ v3 then
      chk (mK M v0 == 8) <|
      bnd2 (fX8_longestEnd n M v0 v1 v3) fun r_7 M_8 =>
      fX8_lookFor_40 (fX8_lookFor_17 n) n M_8 v0 v1 v2 v3 r_7
    else
    fX8_lookFor_40 (fX8_lookFor_17 n) n M v0 v1 v2 v3 (-1 : Int32)
set_option maxHeartbeats 4000000 in
theorem tX8_lookFor_17 : ∀ (n : Nat) (M : zM) (v0 : Nat) (v1 : Nat) (v2 : Int32) (v3 : Int32) (r : Unit) (M' : zM), fX8_lookFor_17 n M v0 v1 v2 v3 = some (r, M') → zW uX8_lookFor none (0, 0) M 17 [(0, .ref v0), (1, .ref v1), (2, .int v2), (3, .int v3)] [] (zE (oV r) M') := by
  intro n
  induction n with
  | zero => intro M v0 v1 v2 v3 r M' h; cases h
  | succ n ih =>
    intro M v0 v1 v2 v3 r M' h
    rw [fX8_lookFor_17] at h
    refine zr_iload_n (q := 18) dX8_lookFor_17 rfl rfl 3 rfl ?_
    refine zr_aload_n (q := 19) dX8_lookFor_18 rfl rfl 0 rfl ?_
    obtain ⟨c_1, h⟩ := chk_some h
    refine zr_get (q := 22) (ci := 8) (k := 0) dX8_lookFor_19 rfl (eq_of_beq c_1) rfl (by decide) rfl zbX8 (by decide) zb_276 rfl ?_
    refine zr_icmp_ge (q := 25) (tgt := 88) dX8_lookFor_22 rfl (by decide) (fun c_2 => ?_) (fun c_2 => ?_)
    · replace h := ite_t c_2 h
      refine zr_aload_n (q := 89) dX8_lookFor_88 rfl rfl 0 rfl ?_
      refine zr_iconst (q := 90) (v := 1) dX8_lookFor_89 rfl (by decide) ?_
      obtain ⟨c_3, h⟩ := chk_some h
      obtain ⟨M_4, e_5, h⟩ := app_some h
      refine zr_putZ (q := 93) (ci := 8) (k := 5) dX8_lookFor_90 rfl (eq_of_beq c_3) rfl (by decide) rfl zbX8 tyX8_ok nmX8 (by decide) zb_275 (Or.inl rfl) rfl (Or.inr rfl) ?_
      refine zr_mem e_5 ?_
      cases h
      exact zr_return dX8_lookFor_93 rfl ⟨by decide, by decide⟩ ⟨rfl, rfl⟩
    · replace h := ite_f c_2 h
      refine zr_iload_n (q := 26) dX8_lookFor_25 rfl rfl 3 rfl ?_
      refine zr_iload_n (q := 27) dX8_lookFor_26 rfl rfl 2 rfl ?_
      refine zr_icmp_ge (q := 30) (tgt := 34) dX8_lookFor_27 rfl (by decide) (fun c_6 => ?_) (fun c_6 => ?_)
      · replace h := ite_t c_6 h
        refine zr_aload_n (q := 35) dX8_lookFor_34 rfl rfl 0 rfl ?_
        refine zr_aload_n (q := 36) dX8_lookFor_35 rfl rfl 1 rfl ?_
        refine zr_iload_n (q := 37) dX8_lookFor_36 rfl rfl 3 rfl ?_
        obtain ⟨c_10, h⟩ := chk_some h
        obtain ⟨r_7, M_8, hc_9, h⟩ := bnd2_some h
        refine zr_callVI (μ' := uX8_longestEnd) (q := 40) (n := 2) (ci := 8) (As := [.ref v1, .int v3]) (u' := (0, 0)) (tX8_longestEnd n M v0 v1 v3 _ _ hc_9) dX8_lookFor_37 rfl rfl ⟨zb_286, zb_287, zb_288, zb_289, zb_290⟩ zd_X8_longestEnd ⟨by decide, by decide⟩ ⟨by decide, by decide⟩ (eq_of_beq c_10) (by decide) rfl rfl rfl (Nat.le_of_ble_eq_true rfl) rfl rfl ?_
        exact zr_pick [0, 1, 2, 3] rfl (tX8_lookFor_40 (fX8_lookFor_17 n) ih n M_8 v0 v1 v2 v3 r_7 _ _ h)
      · replace h := ite_f c_6 h
        refine zr_iconst (q := 31) (v := -1) dX8_lookFor_30 rfl (by decide) ?_
        refine zr_goto (q := 40) dX8_lookFor_31 (by decide) ?_
        exact zr_pick [0, 1, 2, 3] rfl (tX8_lookFor_40 (fX8_lookFor_17 n) ih n M v0 v1 v2 v3 (-1 : Int32) _ _ h)
def fX8_lookFor (n : Nat) (M : zM) (v0 : Nat) (v1 : Nat) : Option (Unit × zM) :=
  chk (mK M v0 == 8) <|
  if (mI M v0 5) = (0 : Int32) then
    chk (mK M v0 == 8) <|
    app (wI M v0 1 (0 : Int32)) fun M_4 : zM =>
    fX8_lookFor_17 n M_4 v0 v1 (0 : Int32) (0 : Int32)
  else
  some ((), M)
set_option maxHeartbeats 4000000 in
theorem tX8_lookFor (n : Nat) (M : zM) (v0 : Nat) (v1 : Nat) (r : Unit) (M' : zM) (h : fX8_lookFor n M v0 v1 = some (r, M')) : zMet uX8_lookFor false M [.ref v0, .ref v1] (zE (oV r) M') := by
  refine zMet_of (L := [(0, .ref v0), (1, .ref v1)]) (by decide +kernel) rfl rfl (Nat.le_of_ble_eq_true rfl) ?_
  show zW uX8_lookFor none (0, 0) M 0 [(0, .ref v0), (1, .ref v1)] [] (zE (oV r) M')
  unfold fX8_lookFor at h
  refine zr_aload_n (q := 1) dX8_lookFor_0 rfl rfl 0 rfl ?_
  obtain ⟨c_1, h⟩ := chk_some h
  refine zr_get (q := 4) (ci := 8) (k := 5) dX8_lookFor_1 rfl (eq_of_beq c_1) rfl (by decide) rfl zbX8 (by decide) zb_275 rfl ?_
  refine zr_if_eq (q := 7) (tgt := 8) dX8_lookFor_4 rfl (by decide) (fun c_2 => ?_) (fun c_2 => ?_)
  · replace h := ite_t c_2 h
    refine zr_aload_n (q := 9) dX8_lookFor_8 rfl rfl 0 rfl ?_
    refine zr_iconst (q := 10) (v := 0) dX8_lookFor_9 rfl (by decide) ?_
    obtain ⟨c_3, h⟩ := chk_some h
    obtain ⟨M_4, e_5, h⟩ := app_some h
    refine zr_putI (q := 13) (ci := 8) (k := 1) dX8_lookFor_10 rfl (eq_of_beq c_3) rfl (by decide) rfl zbX8 tyX8_ok nmX8 (by decide) zb_284 (Or.inl rfl) rfl ?_
    refine zr_mem e_5 ?_
    refine zr_iconst (q := 14) (v := 0) dX8_lookFor_13 rfl (by decide) ?_
    refine zr_istore_n (q := 15) (L' := [(2, .int (0 : Int32)), (0, .ref v0), (1, .ref v1)]) dX8_lookFor_14 rfl rfl (by decide) rfl ?_
    refine zr_iconst (q := 16) (v := 0) dX8_lookFor_15 rfl (by decide) ?_
    refine zr_istore_n (q := 17) (L' := [(3, .int (0 : Int32)), (2, .int (0 : Int32)), (0, .ref v0), (1, .ref v1)]) dX8_lookFor_16 rfl rfl (by decide) rfl ?_
    exact zr_pick [2, 3, 1, 0] rfl (tX8_lookFor_17 n M_4 v0 v1 (0 : Int32) (0 : Int32) _ _ h)
  · replace h := ite_f c_2 h
    cases h
    exact zr_return dX8_lookFor_7 rfl ⟨by decide, by decide⟩ ⟨rfl, rfl⟩
