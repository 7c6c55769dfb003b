/-! by program: wip/decomp.py, wip/mk_code.py -/
def uX6_append : zMu := (yX6_append, cX6_append, 5, none, { frames := 1, cells := 0, slots := 0, locals := 22 }, [])
theorem zd_X6_append : (uY uX6_append).cls ≠ "java/lang/invoke/MethodHandle" ∧ (uY uX6_append).cls ≠ "java/lang/invoke/VarHandle" ∧ (parseMethodDescriptor (uY uX6_append).desc).map (fun d => d.parameters.length) = some 2 := by decide +kernel
def fX6_append_3 : Nat → zM → Nat → Int64 → Int32 → Int32 → Option (Unit × zM)
  | 0, _, _, _, _, _ => none
  | n + 1, M, v0, v1, v3, v4 =>
    if v3 ≤ v4 then
      some ((), M)
    else
    chk (mK M v0 == 6) <|
    if (200 : Int32) ≤ (mI M v0 0) then
      some ((), M)
    else
    chk (mK M v0 == 6) <|
    bnd (mR M v0 2) fun a_5 =>
    chk (mK M v0 == 6) <|
    bnd2 (fX9_byteOf n M v1 v4) fun r_8 M_9 =>
    chk (mK M_9 a_5 == 11) <|
    chk (zin (mI M v0 0) (mN M_9 a_5)) <|
    app (wI M_9 a_5 (Int32.toNatClampNeg (mI M v0 0)) r_8) fun M_13 : zM =>
    chk (mK M_13 v0 == 6) <|
    chk (mK M_13 v0 == 6) <|
    app (wI M_13 v0 0 ((mI M_13 v0 0) + (1 : Int32))) fun M_17 : zM =>
    app (v4 + (1 : Int32)) fun v4_19 : Int32 =>
    (fX6_append_3 n) M_17 v0 v1 v3 v4_19
set_option maxHeartbeats 4000000 in
theorem tX6_append_3 : ∀ (n : Nat) (M : zM) (v0 : Nat) (v1 : Int64) (v3 : Int32) (v4 : Int32) (r : Unit) (M' : zM), fX6_append_3 n M v0 v1 v3 v4 = some (r, M') → zW uX6_append none (0, 0) M 3 [(0, .ref v0), (1, .long v1), (3, .int v3), (4, .int v4)] [] (zE (oV r) M') := by
  intro n
  induction n with
  | zero => intro M v0 v1 v3 v4 r M' h; cases h
  | succ n ih =>
    intro M v0 v1 v3 v4 r M' h
    rw [fX6_append_3] at h
    refine zr_iload (q := 5) dX6_append_3 rfl 3 rfl ?_
    refine zr_iload_n (q := 6) dX6_append_5 rfl rfl 2 rfl ?_
    refine zr_icmp_ge (q := 9) (tgt := 50) dX6_append_6 rfl (by decide) (fun c_1 => ?_) (fun c_1 => ?_)
    · replace h := ite_t c_1 h
      cases h
      exact zr_return dX6_append_50 rfl ⟨by decide, by decide⟩ ⟨rfl, rfl⟩
    · replace h := ite_f c_1 h
      refine zr_aload_n (q := 10) dX6_append_9 rfl rfl 0 rfl ?_
      obtain ⟨c_2, h⟩ := chk_some h
      refine zr_get (q := 13) (ci := 6) (k := 0) dX6_append_10 rfl (eq_of_beq c_2) rfl (by decide) rfl zbX6 (by decide) zb_183 rfl ?_
      refine zr_sipush (q := 16) (v := 200) dX6_append_13 rfl (by decide) ?_
      refine zr_icmp_ge (q := 19) (tgt := 50) dX6_append_16 rfl (by decide) (fun c_3 => ?_) (fun c_3 => ?_)
      · replace h := ite_t c_3 h
        cases h
        exact zr_return dX6_append_50 rfl ⟨by decide, by decide⟩ ⟨rfl, rfl⟩
      · replace h := ite_f c_3 h
        refine zr_aload_n (q := 20) dX6_append_19 rfl rfl 0 rfl ?_
        obtain ⟨c_4, h⟩ := chk_some h
        obtain ⟨a_5, e_6, h⟩ := bnd_some h
        refine zr_getr (q := 23) (ci := 6) (k := 2) dX6_append_20 rfl (eq_of_beq c_4) rfl (by decide) rfl zbX6 (by decide) zb_184 rfl e_6 ?_
        refine zr_aload_n (q := 24) dX6_append_23 rfl rfl 0 rfl ?_
        obtain ⟨c_7, h⟩ := chk_some h
        refine zr_get (q := 27) (ci := 6) (k := 0) dX6_append_24 rfl (eq_of_beq c_7) rfl (by decide) rfl zbX6 (by decide) zb_183 rfl ?_
        refine zr_lload_n (q := 28) dX6_append_27 rfl rfl 1 rfl ?_
        refine zr_iload (q := 30) dX6_append_28 rfl 3 rfl ?_
        obtain ⟨r_8, M_9, hc_10, h⟩ := bnd2_some h
        refine zr_callSNI (μ' := uX9_byteOf) (q := 33) (n := 2) (As := [.long v1, .int v4]) (u' := (0, 0)) (tX9_byteOf n M v1 v4 _ _ hc_10) dX6_append_30 rfl rfl (by decide +kernel) ⟨zb_185, zb_186, zb_25⟩ zd_X9_byteOf ⟨by decide, by decide⟩ ⟨by decide, by decide⟩ rfl rfl (Nat.le_of_ble_eq_true rfl) rfl ?_
        obtain ⟨c_11, h⟩ := chk_some h
        obtain ⟨c_12, h⟩ := chk_some h
        obtain ⟨M_13, e_14, h⟩ := app_some h
        refine zr_iast (q := 34) dX6_append_33 rfl (eq_of_beq c_11) c_12 ?_
        refine zr_mem e_14 ?_
        refine zr_aload_n (q := 35) dX6_append_34 rfl rfl 0 rfl ?_
        refine zr_dup (q := 36) dX6_append_35 rfl rfl ?_
        obtain ⟨c_15, h⟩ := chk_some h
        refine zr_get (q := 39) (ci := 6) (k := 0) dX6_append_36 rfl (eq_of_beq c_15) rfl (by decide) rfl zbX6 (by decide) zb_183 rfl ?_
        refine zr_iconst (q := 40) (v := 1) dX6_append_39 rfl (by decide) ?_
        refine zr_iadd (q := 41) dX6_append_40 rfl ?_
        obtain ⟨c_16, h⟩ := chk_some h
        obtain ⟨M_17, e_18, h⟩ := app_some h
        refine zr_putI (q := 44) (ci := 6) (k := 0) dX6_append_41 rfl (eq_of_beq c_16) rfl (by decide) rfl zbX6 tyX6_ok nmX6 (by decide) zb_183 (Or.inl rfl) rfl ?_
        refine zr_mem e_18 ?_
        obtain ⟨v4_19, e_20, h⟩ := app_some h
        refine zr_iinc (q := 47) (v := v4_19) (L' := [(4, .int v4_19), (0, .ref v0), (1, .long v1), (3, .int v3)]) dX6_append_44 rfl 3 rfl (by rw [← e_20]; rfl) (by decide) rfl ?_
        refine zr_goto (q := 3) dX6_append_47 (by decide) ?_
        exact zr_pick [1, 2, 3, 0] rfl (ih M_17 v0 v1 v3 v4_19 _ _ h)
def fX6_append (n : Nat) (M : zM) (v0 : Nat) (v1 : Int64) (v3 : Int32) : Option (Unit × zM) :=
  fX6_append_3 n M v0 v1 v3 (0 : Int32)
set_option maxHeartbeats 4000000 in
theorem tX6_append (n : Nat) (M : zM) (v0 : Nat) (v1 : Int64) (v3 : Int32) (r : Unit) (M' : zM) (h : fX6_append n M v0 v1 v3 = some (r, M')) : zMet uX6_append false M [.ref v0, .long v1, .int v3] (zE (oV r) M') := by
  refine zMet_of (L := [(0, .ref v0), (1, .long v1), (3, .int v3)]) (by decide +kernel) rfl rfl (Nat.le_of_ble_eq_true rfl) ?_
  show zW uX6_append none (0, 0) M 0 [(0, .ref v0), (1, .long v1), (3, .int v3)] [] (zE (oV r) M')
  unfold fX6_append at h
  refine zr_iconst (q := 1) (v := 0) dX6_append_0 rfl (by decide) ?_
  refine zr_istore (q := 3) (L' := [(4, .int (0 : Int32)), (0, .ref v0), (1, .long v1), (3, .int v3)]) dX6_append_1 rfl (by decide) rfl ?_
  exact zr_pick [1, 2, 3, 0] rfl (tX6_append_3 n M v0 v1 v3 (0 : Int32) _ _ h)

def uX6_fail : zMu := (yX6_fail, cX6_fail, 3, none, { frames := 0, cells := 0, slots := 0, locals := 0 }, [])
theorem zd_X6_fail : (uY uX6_fail).cls ≠ "java/lang/invoke/MethodHandle" ∧ (uY uX6_fail).cls ≠ "java/lang/invoke/VarHandle" ∧ (parseMethodDescriptor (uY uX6_fail).desc).map (fun d => d.parameters.length) = some 2 := by decide +kernel
def fX6_fail (n : Nat) (M : zM) (v0 : Nat) (v1 : Int32) (v2 : Int32) : Option (Unit × zM) :=
  chk (mK M v0 == 6) <|
  app (wI M v0 4 v1) fun M_2 : zM =>
  chk (mK M_2 v0 == 6) <|
  app (wI M_2 v0 1 v2) fun M_5 : zM =>
  some ((), M_5)
set_option maxHeartbeats 4000000 in
theorem tX6_fail (n : Nat) (M : zM) (v0 : Nat) (v1 : Int32) (v2 : Int32) (r : Unit) (M' : zM) (h : fX6_fail n M v0 v1 v2 = some (r, M')) : zMet uX6_fail false M [.ref v0, .int v1, .int v2] (zE (oV r) M') := by
  refine zMet_of (L := [(0, .ref v0), (1, .int v1), (2, .int v2)]) (by decide +kernel) rfl rfl (Nat.le_of_ble_eq_true rfl) ?_
  show zW uX6_fail none (0, 0) M 0 [(0, .ref v0), (1, .int v1), (2, .int v2)] [] (zE (oV r) M')
  unfold fX6_fail at h
  refine zr_aload_n (q := 1) dX6_fail_0 rfl rfl 0 rfl ?_
  refine zr_iload_n (q := 2) dX6_fail_1 rfl rfl 1 rfl ?_
  obtain ⟨c_1, h⟩ := chk_some h
  obtain ⟨M_2, e_3, h⟩ := app_some h
  refine zr_putI (q := 5) (ci := 6) (k := 4) dX6_fail_2 rfl (eq_of_beq c_1) rfl (by decide) rfl zbX6 tyX6_ok nmX6 (by decide) zb_187 (Or.inl rfl) rfl ?_
  refine zr_mem e_3 ?_
  refine zr_aload_n (q := 6) dX6_fail_5 rfl rfl 0 rfl ?_
  refine zr_iload_n (q := 7) dX6_fail_6 rfl rfl 2 rfl ?_
  obtain ⟨c_4, h⟩ := chk_some h
  obtain ⟨M_5, e_6, h⟩ := app_some h
  refine zr_putI (q := 10) (ci := 6) (k := 1) dX6_fail_7 rfl (eq_of_beq c_4) rfl (by decide) rfl zbX6 tyX6_ok nmX6 (by decide) zb_188 (Or.inl rfl) rfl ?_
  refine zr_mem e_6 ?_
  cases h
  exact zr_return dX6_fail_10 rfl ⟨by decide, by decide⟩ ⟨rfl, rfl⟩

def uX6_failUnless : zMu := (yX6_failUnless, cX6_failUnless, 4, none, { frames := 1, cells := 0, slots := 0, locals := 22 }, [])
theorem zd_X6_failUnless : (uY uX6_failUnless).cls ≠ "java/lang/invoke/MethodHandle" ∧ (uY uX6_failUnless).cls ≠ "java/lang/invoke/VarHandle" ∧ (parseMethodDescriptor (uY uX6_failUnless).desc).map (fun d => d.parameters.length) = some 3 := by decide +kernel
def fX6_failUnless (n : Nat) (M : zM) (v0 : Nat) (v1 : Int32) (v2 : Int32) (v3 : Int32) : Option (Unit × zM) :=
  if v1 = (0 : Int32) then
    chk (mK M v0 == 6) <|
    bnd2 (fX6_fail n M v0 v2 v3) fun r_2 M_3 =>
    some ((), M_3)
  else
  some ((), M)
set_option maxHeartbeats 4000000 in
theorem tX6_failUnless (n : Nat) (M : zM) (v0 : Nat) (v1 : Int32) (v2 : Int32) (v3 : Int32) (r : Unit) (M' : zM) (h : fX6_failUnless n M v0 v1 v2 v3 = some (r, M')) : zMet uX6_failUnless false M [.ref v0, .int v1, .int v2, .int v3] (zE (oV r) M') := by
  refine zMet_of (L := [(0, .ref v0), (1, .int v1), (2, .int v2), (3, .int v3)]) (by decide +kernel) rfl rfl (Nat.le_of_ble_eq_true rfl) ?_
  show zW uX6_failUnless none (0, 0) M 0 [(0, .ref v0), (1, .int v1), (2, .int v2), (3, .int v3)] [] (zE (oV r) M')
  unfold fX6_failUnless at h
  refine zr_iload_n (q := 1) dX6_failUnless_0 rfl rfl 1 rfl ?_
  refine zr_if_ne (q := 4) (tgt := 10) dX6_failUnless_1 rfl (by decide) (fun c_1 => ?_) (fun c_1 => ?_)
  · replace h := ite_f c_1 h
    cases h
    exact zr_return dX6_failUnless_10 rfl ⟨by decide, by decide⟩ ⟨rfl, rfl⟩
  · replace h := ite_t c_1 h
    refine zr_aload_n (q := 5) dX6_failUnless_4 rfl rfl 0 rfl ?_
    refine zr_iload_n (q := 6) dX6_failUnless_5 rfl rfl 2 rfl ?_
    refine zr_iload_n (q := 7) dX6_failUnless_6 rfl rfl 3 rfl ?_
    obtain ⟨c_5, h⟩ := chk_some h
    obtain ⟨r_2, M_3, hc_4, h⟩ := bnd2_some h
    refine zr_callVV (μ' := uX6_fail) (q := 10) (n := 2) (ci := 6) (As := [.int v2, .int v3]) (u' := (0, 0)) (tX6_fail n M v0 v2 v3 _ _ hc_4) dX6_failUnless_7 rfl rfl ⟨zb_189, zb_190, zb_191, zb_192, zb_193⟩ zd_X6_fail ⟨by decide, by decide⟩ ⟨by decide, by decide⟩ (eq_of_beq c_5) (by decide) rfl rfl rfl (Nat.le_of_ble_eq_true rfl) rfl rfl ?_
    cases h
    exact zr_return dX6_failUnless_10 rfl ⟨by decide, by decide⟩ ⟨rfl, rfl⟩

def uX6_openSet : zMu := (yX6_openSet, cX6_openSet, 2, none, { frames := 0, cells := 0, slots := 0, locals := 0 }, [])
theorem zd_X6_openSet : (uY uX6_openSet).cls ≠ "java/lang/invoke/MethodHandle" ∧ (uY uX6_openSet).cls ≠ "java/lang/invoke/VarHandle" ∧ (parseMethodDescriptor (uY uX6_openSet).desc).map (fun d => d.parameters.length) = some 1 := by decide +kernel
def fX6_openSet (n : Nat) (M : zM) (v0 : Nat) (v1 : Int32) : Option (Unit × zM) :=
  chk (mK M v0 == 6) <|
  app (wI M v0 6 v1) fun M_2 : zM =>
  chk (mK M_2 v0 == 6) <|
  app (wL M_2 v0 7 (0 : Int64)) fun M_5 : zM =>
  chk (mK M_5 v0 == 6) <|
  app (wI M_5 v0 8 (0 : Int32)) fun M_8 : zM =>
  chk (mK M_8 v0 == 6) <|
  app (wI M_8 v0 5 (1 : Int32)) fun M_11 : zM =>
  some ((), M_11)
set_option maxHeartbeats 4000000 in
theorem tX6_openSet (n : Nat) (M : zM) (v0 : Nat) (v1 : Int32) (r : Unit) (M' : zM) (h : fX6_openSet n M v0 v1 = some (r, M')) : zMet uX6_openSet false M [.ref v0, .int v1] (zE (oV r) M') := by
  refine zMet_of (L := [(0, .ref v0), (1, .int v1)]) (by decide +kernel) rfl rfl (Nat.le_of_ble_eq_true rfl) ?_
  show zW uX6_openSet none (0, 0) M 0 [(0, .ref v0), (1, .int v1)] [] (zE (oV r) M')
  unfold fX6_openSet at h
  refine zr_aload_n (q := 1) dX6_openSet_0 rfl rfl 0 rfl ?_
  refine zr_iload_n (q := 2) dX6_openSet_1 rfl rfl 1 rfl ?_
  obtain ⟨c_1, h⟩ := chk_some h
  obtain ⟨M_2, e_3, h⟩ := app_some h
  refine zr_putI (q := 5) (ci := 6) (k := 6) dX6_openSet_2 rfl (eq_of_beq c_1) rfl (by decide) rfl zbX6 tyX6_ok nmX6 (by decide) zb_194 (Or.inl rfl) rfl ?_
  refine zr_mem e_3 ?_
  refine zr_aload_n (q := 6) dX6_openSet_5 rfl rfl 0 rfl ?_
  refine zr_lconst (q := 7) (v := 0) dX6_openSet_6 rfl (by decide) ?_
  obtain ⟨c_4, h⟩ := chk_some h
  obtain ⟨M_5, e_6, h⟩ := app_some h
  refine zr_putL (q := 10) (ci := 6) (k := 7) dX6_openSet_7 rfl (eq_of_beq c_4) rfl (by decide) rfl zbX6 tyX6_ok nmX6 (by decide) zb_195 (Or.inl rfl) rfl ?_
  refine zr_mem e_6 ?_
  refine zr_aload_n (q := 11) dX6_openSet_10 rfl rfl 0 rfl ?_
  refine zr_iconst (q := 12) (v := 0) dX6_openSet_11 rfl (by decide) ?_
  obtain ⟨c_7, h⟩ := chk_some h
  obtain ⟨M_8, e_9, h⟩ := app_some h
  refine zr_putZ (q := 15) (ci := 6) (k := 8) dX6_openSet_12 rfl (eq_of_beq c_7) rfl (by decide) rfl zbX6 tyX6_ok nmX6 (by decide) zb_196 (Or.inl rfl) rfl (Or.inl rfl) ?_
  refine zr_mem e_9 ?_
  refine zr_aload_n (q := 16) dX6_openSet_15 rfl rfl 0 rfl ?_
  refine zr_iconst (q := 17) (v := 1) dX6_openSet_16 rfl (by decide) ?_
  obtain ⟨c_10, h⟩ := chk_some h
  obtain ⟨M_11, e_12, h⟩ := app_some h
  refine zr_putI (q := 20) (ci := 6) (k := 5) dX6_openSet_17 rfl (eq_of_beq c_10) rfl (by decide) rfl zbX6 tyX6_ok nmX6 (by decide) zb_197 (Or.inl rfl) rfl ?_
  refine zr_mem e_12 ?_
  cases h
  exact zr_return dX6_openSet_20 rfl ⟨by decide, by decide⟩ ⟨rfl, rfl⟩

def uX6_takeSuffix : zMu := (yX6_takeSuffix, cX6_takeSuffix, 3, none, { frames := 2, cells := 0, slots := 0, locals := 45 }, [])
theorem zd_X6_takeSuffix : (uY uX6_takeSuffix).cls ≠ "java/lang/invoke/MethodHandle" ∧ (uY uX6_takeSuffix).cls ≠ "java/lang/invoke/VarHandle" ∧ (parseMethodDescriptor (uY uX6_takeSuffix).desc).map (fun d => d.parameters.length) = some 2 := by decide +kernel
def fX6_takeSuffix (n : Nat) (M : zM) (v0 : Nat) (v1 : Int32) (v2 : Int32) : Option (Unit × zM) :=
  if v2 = (42 : Int32) then
    chk (mK M v0 == 6) <|
    bnd (mR M v0 3) fun a_30 =>
    chk (mK M a_30 == 3) <|
    bnd2 (fX3_allowMore n M a_30) fun r_32 M_33 =>
    chk (mK M_33 v0 == 6) <|
    bnd (mR M_33 v0 3) fun a_37 =>
    chk (mK M_33 a_37 == 3) <|
    bnd2 (fX3_allowNone n M_33 a_37) fun r_39 M_40 =>
    some ((), M_40)
  else
  if v2 = (43 : Int32) then
    chk (mK M v0 == 6) <|
    bnd (mR M v0 3) fun a_23 =>
    chk (mK M a_23 == 3) <|
    bnd2 (fX3_allowMore n M a_23) fun r_25 M_26 =>
    some ((), M_26)
  else
  if v2 = (63 : Int32) then
    chk (mK M v0 == 6) <|
    bnd (mR M v0 3) fun a_16 =>
    chk (mK M a_16 == 3) <|
    bnd2 (fX3_allowNone n M a_16) fun r_18 M_19 =>
    some ((), M_19)
  else
  if v2 = (123 : Int32) then
    chk (mK M v0 == 6) <|
    app (wI M v0 6 v1) fun M_10 : zM =>
    chk (mK M_10 v0 == 6) <|
    app (wI M_10 v0 5 (6 : Int32)) fun M_13 : zM =>
    some ((), M_13)
  else
  chk (mK M v0 == 6) <|
  bnd2 (fX6_fail n M v0 (1 : Int32) v1) fun r_1 M_2 =>
  some ((), M_2)
set_option maxHeartbeats 4000000 in
theorem tX6_takeSuffix (n : Nat) (M : zM) (v0 : Nat) (v1 : Int32) (v2 : Int32) (r : Unit) (M' : zM) (h : fX6_takeSuffix n M v0 v1 v2 = some (r, M')) : zMet uX6_takeSuffix false M [.ref v0, .int v1, .int v2] (zE (oV r) M') := by
  refine zMet_of (L := [(0, .ref v0), (1, .int v1), (2, .int v2)]) (by decide +kernel) rfl rfl (Nat.le_of_ble_eq_true rfl) ?_
  show zW uX6_takeSuffix none (0, 0) M 0 [(0, .ref v0), (1, .int v1), (2, .int v2)] [] (zE (oV r) M')
  unfold fX6_takeSuffix at h
  refine zr_iload_n (q := 1) dX6_takeSuffix_0 rfl rfl 2 rfl ?_
  by_cases c_5 : v2 = (42 : Int32)
  · replace h := ite_t c_5 h
    refine zr_lookup (off := 43) (tgt := 44) dX6_takeSuffix_1 (by decide) (by rw [c_5]; decide) (by decide) ?_
    refine zr_aload_n (q := 45) dX6_takeSuffix_44 rfl rfl 0 rfl ?_
    obtain ⟨c_29, h⟩ := chk_some h
    obtain ⟨a_30, e_31, h⟩ := bnd_some h
    refine zr_getr (q := 48) (ci := 6) (k := 3) dX6_takeSuffix_45 rfl (eq_of_beq c_29) rfl (by decide) rfl zbX6 (by decide) zb_198 rfl e_31 ?_
    obtain ⟨c_35, h⟩ := chk_some h
    obtain ⟨r_32, M_33, hc_34, h⟩ := bnd2_some h
    refine zr_callVV (μ' := uX3_allowMore) (q := 51) (n := 0) (ci := 3) (As := []) (u' := (0, 0)) (tX3_allowMore n M a_30 _ _ hc_34) dX6_takeSuffix_48 rfl rfl ⟨zb_203, zb_204, zb_205, zb_206, zb_123⟩ zd_X3_allowMore ⟨by decide, by decide⟩ ⟨by decide, by decide⟩ (eq_of_beq c_35) (by decide) rfl rfl rfl (Nat.le_of_ble_eq_true rfl) rfl rfl ?_
    refine zr_aload_n (q := 52) dX6_takeSuffix_51 rfl rfl 0 rfl ?_
    obtain ⟨c_36, h⟩ := chk_some h
    obtain ⟨a_37, e_38, h⟩ := bnd_some h
    refine zr_getr (q := 55) (ci := 6) (k := 3) dX6_takeSuffix_52 rfl (eq_of_beq c_36) rfl (by decide) rfl zbX6 (by decide) zb_198 rfl e_38 ?_
    obtain ⟨c_42, h⟩ := chk_some h
    obtain ⟨r_39, M_40, hc_41, h⟩ := bnd2_some h
    refine zr_callVV (μ' := uX3_allowNone) (q := 58) (n := 0) (ci := 3) (As := []) (u' := (0, 0)) (tX3_allowNone n M_33 a_37 _ _ hc_41) dX6_takeSuffix_55 rfl rfl ⟨zb_199, zb_200, zb_201, zb_202, zb_123⟩ zd_X3_allowNone ⟨by decide, by decide⟩ ⟨by decide, by decide⟩ (eq_of_beq c_42) (by decide) rfl rfl rfl (Nat.le_of_ble_eq_true rfl) rfl rfl ?_
    refine zr_goto (q := 101) dX6_takeSuffix_58 (by decide) ?_
    cases h
    exact zr_return dX6_takeSuffix_101 rfl ⟨by decide, by decide⟩ ⟨rfl, rfl⟩
  · replace h := ite_f c_5 h
    by_cases c_6 : v2 = (43 : Int32)
    · replace h := ite_t c_6 h
      refine zr_lookup (off := 60) (tgt := 61) dX6_takeSuffix_1 (by decide) (by rw [c_6]; decide) (by decide) ?_
      refine zr_aload_n (q := 62) dX6_takeSuffix_61 rfl rfl 0 rfl ?_
      obtain ⟨c_22, h⟩ := chk_some h
      obtain ⟨a_23, e_24, h⟩ := bnd_some h
      refine zr_getr (q := 65) (ci := 6) (k := 3) dX6_takeSuffix_62 rfl (eq_of_beq c_22) rfl (by decide) rfl zbX6 (by decide) zb_198 rfl e_24 ?_
      obtain ⟨c_28, h⟩ := chk_some h
      obtain ⟨r_25, M_26, hc_27, h⟩ := bnd2_some h
      refine zr_callVV (μ' := uX3_allowMore) (q := 68) (n := 0) (ci := 3) (As := []) (u' := (0, 0)) (tX3_allowMore n M a_23 _ _ hc_27) dX6_takeSuffix_65 rfl rfl ⟨zb_203, zb_204, zb_205, zb_206, zb_123⟩ zd_X3_allowMore ⟨by decide, by decide⟩ ⟨by decide, by decide⟩ (eq_of_beq c_28) (by decide) rfl rfl rfl (Nat.le_of_ble_eq_true rfl) rfl rfl ?_
      refine zr_goto (q := 101) dX6_takeSuffix_68 (by decide) ?_
      cases h
      exact zr_return dX6_takeSuffix_101 rfl ⟨by decide, by decide⟩ ⟨rfl, rfl⟩
    · replace h := ite_f c_6 h
      by_cases c_7 : v2 = (63 : Int32)
      · replace h := ite_t c_7 h
        refine zr_lookup (off := 70) (tgt := 71) dX6_takeSuffix_1 (by decide) (by rw [c_7]; decide) (by decide) ?_
        refine zr_aload_n (q := 72) dX6_takeSuffix_71 rfl rfl 0 rfl ?_
        obtain ⟨c_15, h⟩ := chk_some h
        obtain ⟨a_16, e_17, h⟩ := bnd_some h
        refine zr_getr (q := 75) (ci := 6) (k := 3) dX6_takeSuffix_72 rfl (eq_of_beq c_15) rfl (by decide) rfl zbX6 (by decide) zb_198 rfl e_17 ?_
        obtain ⟨c_21, h⟩ := chk_some h
        obtain ⟨r_18, M_19, hc_20, h⟩ := bnd2_some h
        refine zr_callVV (μ' := uX3_allowNone) (q := 78) (n := 0) (ci := 3) (As := []) (u' := (0, 0)) (tX3_allowNone n M a_16 _ _ hc_20) dX6_takeSuffix_75 rfl rfl ⟨zb_199, zb_200, zb_201, zb_202, zb_123⟩ zd_X3_allowNone ⟨by decide, by decide⟩ ⟨by decide, by decide⟩ (eq_of_beq c_21) (by decide) rfl rfl rfl (Nat.le_of_ble_eq_true rfl) rfl rfl ?_
        refine zr_goto (q := 101) dX6_takeSuffix_78 (by decide) ?_
        cases h
        exact zr_return dX6_takeSuffix_101 rfl ⟨by decide, by decide⟩ ⟨rfl, rfl⟩
      · replace h := ite_f c_7 h
        by_cases c_8 : v2 = (123 : Int32)
        · replace h := ite_t c_8 h
          refine zr_lookup (off := 80) (tgt := 81) dX6_takeSuffix_1 (by decide) (by rw [c_8]; decide) (by decide) ?_
          refine zr_aload_n (q := 82) dX6_takeSuffix_81 rfl rfl 0 rfl ?_
          refine zr_iload_n (q := 83) dX6_takeSuffix_82 rfl rfl 1 rfl ?_
          obtain ⟨c_9, h⟩ := chk_some h
          obtain ⟨M_10, e_11, h⟩ := app_some h
          refine zr_putI (q := 86) (ci := 6) (k := 6) dX6_takeSuffix_83 rfl (eq_of_beq c_9) rfl (by decide) rfl zbX6 tyX6_ok nmX6 (by decide) zb_194 (Or.inl rfl) rfl ?_
          refine zr_mem e_11 ?_
          refine zr_aload_n (q := 87) dX6_takeSuffix_86 rfl rfl 0 rfl ?_
          refine zr_bipush (q := 89) (v := 6) dX6_takeSuffix_87 rfl (by decide) ?_
          obtain ⟨c_12, h⟩ := chk_some h
          obtain ⟨M_13, e_14, h⟩ := app_some h
          refine zr_putI (q := 92) (ci := 6) (k := 5) dX6_takeSuffix_89 rfl (eq_of_beq c_12) rfl (by decide) rfl zbX6 tyX6_ok nmX6 (by decide) zb_197 (Or.inl rfl) rfl ?_
          refine zr_mem e_14 ?_
          refine zr_goto (q := 101) dX6_takeSuffix_92 (by decide) ?_
          cases h
          exact zr_return dX6_takeSuffix_101 rfl ⟨by decide, by decide⟩ ⟨rfl, rfl⟩
        · replace h := ite_f c_8 h
          refine zr_lookup (off := 94) (tgt := 95) dX6_takeSuffix_1 (by decide) ((lv_osw c_5 (by decide)).trans ((lv_osw c_6 (by decide)).trans ((lv_osw c_7 (by decide)).trans ((lv_osw c_8 (by decide)).trans (rfl))))) (by decide) ?_
          refine zr_aload_n (q := 96) dX6_takeSuffix_95 rfl rfl 0 rfl ?_
          refine zr_iconst (q := 97) (v := 1) dX6_takeSuffix_96 rfl (by decide) ?_
          refine zr_iload_n (q := 98) dX6_takeSuffix_97 rfl rfl 1 rfl ?_
          obtain ⟨c_4, h⟩ := chk_some h
          obtain ⟨r_1, M_2, hc_3, h⟩ := bnd2_some h
          refine zr_callVV (μ' := uX6_fail) (q := 101) (n := 2) (ci := 6) (As := [.int (1 : Int32), .int v1]) (u' := (0, 0)) (tX6_fail n M v0 (1 : Int32) v1 _ _ hc_3) dX6_takeSuffix_98 rfl rfl ⟨zb_189, zb_190, zb_191, zb_192, zb_193⟩ zd_X6_fail ⟨by decide, by decide⟩ ⟨by decide, by decide⟩ (eq_of_beq c_4) (by decide) rfl rfl rfl (Nat.le_of_ble_eq_true rfl) rfl rfl ?_
          cases h
          exact zr_return dX6_takeSuffix_101 rfl ⟨by decide, by decide⟩ ⟨rfl, rfl⟩

def uX6_takeInRow : zMu := (yX6_takeInRow, cX6_takeInRow, 4, none, { frames := 4, cells := 0, slots := 0, locals := 91 }, [])
theorem zd_X6_takeInRow : (uY uX6_takeInRow).cls ≠ "java/lang/invoke/MethodHandle" ∧ (uY uX6_takeInRow).cls ≠ "java/lang/invoke/VarHandle" ∧ (parseMethodDescriptor (uY uX6_takeInRow).desc).map (fun d => d.parameters.length) = some 2 := by decide +kernel
def fX6_takeInRow_139 (n : Nat) (M : zM) (v0 : Nat) (v1 : Int32) (v2 : Int32) : Option (Unit × zM) :=
  chk (mK M v0 == 6) <|
  bnd (mR M v0 3) fun a_2 =>
  chk (mK M a_2 == 3) <|
  if (mI M a_2 1) = (0 : Int32) then
    chk (mK M v0 == 6) <|
    bnd2 (fX6_fail n M v0 (1 : Int32) v1) fun r_6 M_7 =>
    some ((), M_7)
  else
  chk (mK M v0 == 6) <|
  bnd2 (fX6_takeSuffix n M v0 v1 v2) fun r_10 M_11 =>
  some ((), M_11)
set_option maxHeartbeats 4000000 in
theorem tX6_takeInRow_139 (n : Nat) (M : zM) (v0 : Nat) (v1 : Int32) (v2 : Int32) (r : Unit) (M' : zM) (h : fX6_takeInRow_139 n M v0 v1 v2 = some (r, M')) : zW uX6_takeInRow none (0, 0) M 139 [(0, .ref v0), (1, .int v1), (2, .int v2)] [] (zE (oV r) M') := by
  unfold fX6_takeInRow_139 at h
  refine zr_aload_n (q := 140) dX6_takeInRow_139 rfl rfl 0 rfl ?_
  obtain ⟨c_1, h⟩ := chk_some h
  obtain ⟨a_2, e_3, h⟩ := bnd_some h
  refine zr_getr (q := 143) (ci := 6) (k := 3) dX6_takeInRow_140 rfl (eq_of_beq c_1) rfl (by decide) rfl zbX6 (by decide) zb_198 rfl e_3 ?_
  obtain ⟨c_4, h⟩ := chk_some h
  refine zr_get (q := 146) (ci := 3) (k := 1) dX6_takeInRow_143 rfl (eq_of_beq c_4) rfl (by decide) rfl zbX3 (by decide) zb_207 rfl ?_
  refine zr_if_eq (q := 149) (tgt := 158) dX6_takeInRow_146 rfl (by decide) (fun c_5 => ?_) (fun c_5 => ?_)
  · replace h := ite_t c_5 h
    refine zr_aload_n (q := 159) dX6_takeInRow_158 rfl rfl 0 rfl ?_
    refine zr_iconst (q := 160) (v := 1) dX6_takeInRow_159 rfl (by decide) ?_
    refine zr_iload_n (q := 161) dX6_takeInRow_160 rfl rfl 1 rfl ?_
    obtain ⟨c_9, h⟩ := chk_some h
    obtain ⟨r_6, M_7, hc_8, h⟩ := bnd2_some h
    refine zr_callVV (μ' := uX6_fail) (q := 164) (n := 2) (ci := 6) (As := [.int (1 : Int32), .int v1]) (u' := (0, 0)) (tX6_fail n M v0 (1 : Int32) v1 _ _ hc_8) dX6_takeInRow_161 rfl rfl ⟨zb_189, zb_190, zb_191, zb_192, zb_193⟩ zd_X6_fail ⟨by decide, by decide⟩ ⟨by decide, by decide⟩ (eq_of_beq c_9) (by decide) rfl rfl rfl (Nat.le_of_ble_eq_true rfl) rfl rfl ?_
    cases h
    exact zr_return dX6_takeInRow_164 rfl ⟨by decide, by decide⟩ ⟨rfl, rfl⟩
  · replace h := ite_f c_5 h
    refine zr_aload_n (q := 150) dX6_takeInRow_149 rfl rfl 0 rfl ?_
    refine zr_iload_n (q := 151) dX6_takeInRow_150 rfl rfl 1 rfl ?_
    refine zr_iload_n (q := 152) dX6_takeInRow_151 rfl rfl 2 rfl ?_
    obtain ⟨c_13, h⟩ := chk_some h
    obtain ⟨r_10, M_11, hc_12, h⟩ := bnd2_some h
    refine zr_callVV (μ' := uX6_takeSuffix) (q := 155) (n := 2) (ci := 6) (As := [.int v1, .int v2]) (u' := (0, 0)) (tX6_takeSuffix n M v0 v1 v2 _ _ hc_12) dX6_takeInRow_152 rfl rfl ⟨zb_208, zb_209, zb_210, zb_211, zb_193⟩ zd_X6_takeSuffix ⟨by decide, by decide⟩ ⟨by decide, by decide⟩ (eq_of_beq c_13) (by decide) rfl rfl rfl (Nat.le_of_ble_eq_true rfl) rfl rfl ?_
    refine zr_goto (q := 164) dX6_takeInRow_155 (by decide) ?_
    cases h
    exact zr_return dX6_takeInRow_164 rfl ⟨by decide, by decide⟩ ⟨rfl, rfl⟩
def fX6_takeInRow (n : Nat) (M : zM) (v0 : Nat) (v1 : Int32) (v2 : Int32) : Option (Unit × zM) :=
  bnd2 (fX9_letterOf n M v2) fun r_1 M_2 =>
  if r_1 = (-1 : Int32) then
    if v2 = (46 : Int32) then
      chk (mK M_2 v0 == 6) <|
      bnd (mR M_2 v0 3) fun a_52 =>
      chk (mK M_2 a_52 == 3) <|
      bnd2 (fX3_addAtom n M_2 a_52 (68719476735 : Int64)) fun r_54 M_55 =>
      chk (mK M_55 v0 == 6) <|
      bnd2 (fX6_failUnless n M_55 v0 r_54 (4 : Int32) v1) fun r_58 M_59 =>
      some ((), M_59)
    else
    if v2 = (91 : Int32) then
      chk (mK M_2 v0 == 6) <|
      bnd2 (fX6_openSet n M_2 v0 v1) fun r_47 M_48 =>
      some ((), M_48)
    else
    if v2 = (40 : Int32) then
      chk (mK M_2 v0 == 6) <|
      bnd (mR M_2 v0 3) fun a_37 =>
      chk (mK M_2 a_37 == 3) <|
      bnd2 (fX3_openBracket n M_2 a_37) fun r_39 M_40 =>
      chk (mK M_40 v0 == 6) <|
      bnd2 (fX6_failUnless n M_40 v0 r_39 (5 : Int32) v1) fun r_43 M_44 =>
      some ((), M_44)
    else
    if v2 = (124 : Int32) then
      chk (mK M_2 v0 == 6) <|
      bnd (mR M_2 v0 3) fun a_30 =>
      chk (mK M_2 a_30 == 3) <|
      bnd2 (fX3_endRow n M_2 a_30) fun r_32 M_33 =>
      some ((), M_33)
    else
    if v2 = (41 : Int32) then
      chk (mK M_2 v0 == 6) <|
      bnd (mR M_2 v0 3) fun a_11 =>
      chk (mK M_2 a_11 == 3) <|
      if (mI M_2 a_11 0) ≤ (0 : Int32) then
        fX6_takeInRow_139 n M_2 v0 v1 v2
      else
      chk (mK M_2 v0 == 6) <|
      bnd (mR M_2 v0 3) fun a_16 =>
      chk (mK M_2 a_16 == 3) <|
      bnd2 (fX3_endRow n M_2 a_16) fun r_18 M_19 =>
      chk (mK M_19 v0 == 6) <|
      bnd (mR M_19 v0 3) fun a_23 =>
      chk (mK M_19 a_23 == 3) <|
      bnd2 (fX3_closeBracket n M_19 a_23) fun r_25 M_26 =>
      some ((), M_26)
    else
    fX6_takeInRow_139 n M_2 v0 v1 v2
  else
  chk (mK M_2 v0 == 6) <|
  bnd (mR M_2 v0 3) fun a_63 =>
  chk (mK M_2 a_63 == 3) <|
  bnd2 (fX3_addAtom n M_2 a_63 (jshl (1 : Int64) r_1)) fun r_65 M_66 =>
  chk (mK M_66 v0 == 6) <|
  bnd2 (fX6_failUnless n M_66 v0 r_65 (4 : Int32) v1) fun r_69 M_70 =>
  some ((), M_70)
set_option maxHeartbeats 4000000 in
theorem tX6_takeInRow (n : Nat) (M : zM) (v0 : Nat) (v1 : Int32) (v2 : Int32) (r : Unit) (M' : zM) (h : fX6_takeInRow n M v0 v1 v2 = some (r, M')) : zMet uX6_takeInRow false M [.ref v0, .int v1, .int v2] (zE (oV r) M') := by
  refine zMet_of (L := [(0, .ref v0), (1, .int v1), (2, .int v2)]) (by decide +kernel) rfl rfl (Nat.le_of_ble_eq_true rfl) ?_
  show zW uX6_takeInRow none (0, 0) M 0 [(0, .ref v0), (1, .int v1), (2, .int v2)] [] (zE (oV r) M')
  unfold fX6_takeInRow at h
  refine zr_iload_n (q := 1) dX6_takeInRow_0 rfl rfl 2 rfl ?_
  obtain ⟨r_1, M_2, hc_3, h⟩ := bnd2_some h
  refine zr_callSNI (μ' := uX9_letterOf) (q := 4) (n := 1) (As := [.int v2]) (u' := (0, 0)) (tX9_letterOf n M v2 _ _ hc_3) dX6_takeInRow_1 rfl rfl (by decide +kernel) ⟨zb_212, zb_213, zb_25⟩ zd_X9_letterOf ⟨by decide, by decide⟩ ⟨by decide, by decide⟩ rfl rfl (Nat.le_of_ble_eq_true rfl) rfl ?_
  refine zr_istore_n (q := 5) (L' := [(3, .int r_1), (0, .ref v0), (1, .int v1), (2, .int v2)]) dX6_takeInRow_4 rfl rfl (by decide) rfl ?_
  refine zr_iload_n (q := 6) dX6_takeInRow_5 rfl rfl 0 rfl ?_
  refine zr_iconst (q := 7) (v := -1) dX6_takeInRow_6 rfl (by decide) ?_
  refine zr_icmp_eq (q := 10) (tgt := 29) dX6_takeInRow_7 rfl (by decide) (fun c_4 => ?_) (fun c_4 => ?_)
  · replace h := ite_t c_4 h
    refine zr_iload_n (q := 30) dX6_takeInRow_29 rfl rfl 3 rfl ?_
    refine zr_bipush (q := 32) (v := 46) dX6_takeInRow_30 rfl (by decide) ?_
    refine zr_icmp_ne (q := 35) (tgt := 54) dX6_takeInRow_32 rfl (by decide) (fun c_5 => ?_) (fun c_5 => ?_)
    · replace h := ite_f c_5 h
      refine zr_iload_n (q := 55) dX6_takeInRow_54 rfl rfl 3 rfl ?_
      refine zr_bipush (q := 57) (v := 91) dX6_takeInRow_55 rfl (by decide) ?_
      refine zr_icmp_ne (q := 60) (tgt := 68) dX6_takeInRow_57 rfl (by decide) (fun c_6 => ?_) (fun c_6 => ?_)
      · replace h := ite_f c_6 h
        refine zr_iload_n (q := 69) dX6_takeInRow_68 rfl rfl 3 rfl ?_
        refine zr_bipush (q := 71) (v := 40) dX6_takeInRow_69 rfl (by decide) ?_
        refine zr_icmp_ne (q := 74) (tgt := 90) dX6_takeInRow_71 rfl (by decide) (fun c_7 => ?_) (fun c_7 => ?_)
        · replace h := ite_f c_7 h
          refine zr_iload_n (q := 91) dX6_takeInRow_90 rfl rfl 3 rfl ?_
          refine zr_bipush (q := 93) (v := 124) dX6_takeInRow_91 rfl (by decide) ?_
          refine zr_icmp_ne (q := 96) (tgt := 106) dX6_takeInRow_93 rfl (by decide) (fun c_8 => ?_) (fun c_8 => ?_)
          · replace h := ite_f c_8 h
            refine zr_iload_n (q := 107) dX6_takeInRow_106 rfl rfl 3 rfl ?_
            refine zr_bipush (q := 109) (v := 41) dX6_takeInRow_107 rfl (by decide) ?_
            refine zr_icmp_ne (q := 112) (tgt := 139) dX6_takeInRow_109 rfl (by decide) (fun c_9 => ?_) (fun c_9 => ?_)
            · replace h := ite_f c_9 h
              exact zr_pick [1, 2, 3] rfl (tX6_takeInRow_139 n M_2 v0 v1 v2 _ _ h)
            · replace h := ite_t c_9 h
              refine zr_aload_n (q := 113) dX6_takeInRow_112 rfl rfl 1 rfl ?_
              obtain ⟨c_10, h⟩ := chk_some h
              obtain ⟨a_11, e_12, h⟩ := bnd_some h
              refine zr_getr (q := 116) (ci := 6) (k := 3) dX6_takeInRow_113 rfl (eq_of_beq c_10) rfl (by decide) rfl zbX6 (by decide) zb_198 rfl e_12 ?_
              obtain ⟨c_13, h⟩ := chk_some h
              refine zr_get (q := 119) (ci := 3) (k := 0) dX6_takeInRow_116 rfl (eq_of_beq c_13) rfl (by decide) rfl zbX3 (by decide) zb_214 rfl ?_
              refine zr_if_le (q := 122) (tgt := 139) dX6_takeInRow_119 rfl (by decide) (fun c_14 => ?_) (fun c_14 => ?_)
              · replace h := ite_t c_14 h
                exact zr_pick [1, 2, 3] rfl (tX6_takeInRow_139 n M_2 v0 v1 v2 _ _ h)
              · replace h := ite_f c_14 h
                refine zr_aload_n (q := 123) dX6_takeInRow_122 rfl rfl 1 rfl ?_
                obtain ⟨c_15, h⟩ := chk_some h
                obtain ⟨a_16, e_17, h⟩ := bnd_some h
                refine zr_getr (q := 126) (ci := 6) (k := 3) dX6_takeInRow_123 rfl (eq_of_beq c_15) rfl (by decide) rfl zbX6 (by decide) zb_198 rfl e_17 ?_
                obtain ⟨c_21, h⟩ := chk_some h
                obtain ⟨r_18, M_19, hc_20, h⟩ := bnd2_some h
                refine zr_callVV (μ' := uX3_endRow) (q := 129) (n := 0) (ci := 3) (As := []) (u' := (0, 0)) (tX3_endRow n M_2 a_16 _ _ hc_20) dX6_takeInRow_126 rfl rfl ⟨zb_175, zb_215, zb_177, zb_178, zb_123⟩ zd_X3_endRow ⟨by decide, by decide⟩ ⟨by decide, by decide⟩ (eq_of_beq c_21) (by decide) rfl rfl rfl (Nat.le_of_ble_eq_true rfl) rfl rfl ?_
                refine zr_aload_n (q := 130) dX6_takeInRow_129 rfl rfl 1 rfl ?_
                obtain ⟨c_22, h⟩ := chk_some h
                obtain ⟨a_23, e_24, h⟩ := bnd_some h
                refine zr_getr (q := 133) (ci := 6) (k := 3) dX6_takeInRow_130 rfl (eq_of_beq c_22) rfl (by decide) rfl zbX6 (by decide) zb_198 rfl e_24 ?_
                obtain ⟨c_28, h⟩ := chk_some h
                obtain ⟨r_25, M_26, hc_27, h⟩ := bnd2_some h
                refine zr_callVV (μ' := uX3_closeBracket) (q := 136) (n := 0) (ci := 3) (As := []) (u' := (0, 0)) (tX3_closeBracket n M_19 a_23 _ _ hc_27) dX6_takeInRow_133 rfl rfl ⟨zb_216, zb_217, zb_218, zb_219, zb_123⟩ zd_X3_closeBracket ⟨by decide, by decide⟩ ⟨by decide, by decide⟩ (eq_of_beq c_28) (by decide) rfl rfl rfl (Nat.le_of_ble_eq_true rfl) rfl rfl ?_
                refine zr_goto (q := 164) dX6_takeInRow_136 (by decide) ?_
                cases h
                exact zr_return dX6_takeInRow_164 rfl ⟨by decide, by decide⟩ ⟨rfl, rfl⟩
          · replace h := ite_t c_8 h
            refine zr_aload_n (q := 97) dX6_takeInRow_96 rfl rfl 1 rfl ?_
            obtain ⟨c_29, h⟩ := chk_some h
            obtain ⟨a_30, e_31, h⟩ := bnd_some h
            refine zr_getr (q := 100) (ci := 6) (k := 3) dX6_takeInRow_97 rfl (eq_of_beq c_29) rfl (by decide) rfl zbX6 (by decide) zb_198 rfl e_31 ?_
            obtain ⟨c_35, h⟩ := chk_some h
            obtain ⟨r_32, M_33, hc_34, h⟩ := bnd2_some h
            refine zr_callVV (μ' := uX3_endRow) (q := 103) (n := 0) (ci := 3) (As := []) (u' := (0, 0)) (tX3_endRow n M_2 a_30 _ _ hc_34) dX6_takeInRow_100 rfl rfl ⟨zb_175, zb_215, zb_177, zb_178, zb_123⟩ zd_X3_endRow ⟨by decide, by decide⟩ ⟨by decide, by decide⟩ (eq_of_beq c_35) (by decide) rfl rfl rfl (Nat.le_of_ble_eq_true rfl) rfl rfl ?_
            refine zr_goto (q := 164) dX6_takeInRow_103 (by decide) ?_
            cases h
            exact zr_return dX6_takeInRow_164 rfl ⟨by decide, by decide⟩ ⟨rfl, rfl⟩
        · replace h := ite_t c_7 h
          refine zr_aload_n (q := 75) dX6_takeInRow_74 rfl rfl 1 rfl ?_
          refine zr_aload_n (q := 76) dX6_takeInRow_75 rfl rfl 1 rfl ?_
          obtain ⟨c_36, h⟩ := chk_some h
          obtain ⟨a_37, e_38, h⟩ := bnd_some h
          refine zr_getr (q := 79) (ci := 6) (k := 3) dX6_takeInRow_76 rfl (eq_of_beq c_36) rfl (by decide) rfl zbX6 (by decide) zb_198 rfl e_38 ?_
          obtain ⟨c_42, h⟩ := chk_some h
          obtain ⟨r_39, M_40, hc_41, h⟩ := bnd2_some h
          refine zr_callVI (μ' := uX3_openBracket) (q := 82) (n := 0) (ci := 3) (As := []) (u' := (0, 0)) (tX3_openBracket n M_2 a_37 _ _ hc_41) dX6_takeInRow_79 rfl rfl ⟨zb_220, zb_221, zb_222, zb_223, zb_123⟩ zd_X3_openBracket ⟨by decide, by decide⟩ ⟨by decide, by decide⟩ (eq_of_beq c_42) (by decide) rfl rfl rfl (Nat.le_of_ble_eq_true rfl) rfl rfl ?_
          refine zr_iconst (q := 83) (v := 5) dX6_takeInRow_82 rfl (by decide) ?_
          refine zr_iload_n (q := 84) dX6_takeInRow_83 rfl rfl 2 rfl ?_
          obtain ⟨c_46, h⟩ := chk_some h
          obtain ⟨r_43, M_44, hc_45, h⟩ := bnd2_some h
          refine zr_callVV (μ' := uX6_failUnless) (q := 87) (n := 3) (ci := 6) (As := [.int r_39, .int (5 : Int32), .int v1]) (u' := (0, 0)) (tX6_failUnless n M_40 v0 r_39 (5 : Int32) v1 _ _ hc_45) dX6_takeInRow_84 rfl rfl ⟨zb_224, zb_225, zb_226, zb_227, zb_193⟩ zd_X6_failUnless ⟨by decide, by decide⟩ ⟨by decide, by decide⟩ (eq_of_beq c_46) (by decide) rfl rfl rfl (Nat.le_of_ble_eq_true rfl) rfl rfl ?_
          refine zr_goto (q := 164) dX6_takeInRow_87 (by decide) ?_
          cases h
          exact zr_return dX6_takeInRow_164 rfl ⟨by decide, by decide⟩ ⟨rfl, rfl⟩
      · replace h := ite_t c_6 h
        refine zr_aload_n (q := 61) dX6_takeInRow_60 rfl rfl 1 rfl ?_
        refine zr_iload_n (q := 62) dX6_takeInRow_61 rfl rfl 2 rfl ?_
        obtain ⟨c_50, h⟩ := chk_some h
        obtain ⟨r_47, M_48, hc_49, h⟩ := bnd2_some h
        refine zr_callVV (μ' := uX6_openSet) (q := 65) (n := 1) (ci := 6) (As := [.int v1]) (u' := (0, 0)) (tX6_openSet n M_2 v0 v1 _ _ hc_49) dX6_takeInRow_62 rfl rfl ⟨zb_228, zb_229, zb_230, zb_231, zb_193⟩ zd_X6_openSet ⟨by decide, by decide⟩ ⟨by decide, by decide⟩ (eq_of_beq c_50) (by decide) rfl rfl rfl (Nat.le_of_ble_eq_true rfl) rfl rfl ?_
        refine zr_goto (q := 164) dX6_takeInRow_65 (by decide) ?_
        cases h
        exact zr_return dX6_takeInRow_164 rfl ⟨by decide, by decide⟩ ⟨rfl, rfl⟩
    · replace h := ite_t c_5 h
      refine zr_aload_n (q := 36) dX6_takeInRow_35 rfl rfl 1 rfl ?_
      refine zr_aload_n (q := 37) dX6_takeInRow_36 rfl rfl 1 rfl ?_
      obtain ⟨c_51, h⟩ := chk_some h
      obtain ⟨a_52, e_53, h⟩ := bnd_some h
      refine zr_getr (q := 40) (ci := 6) (k := 3) dX6_takeInRow_37 rfl (eq_of_beq c_51) rfl (by decide) rfl zbX6 (by decide) zb_198 rfl e_53 ?_
      refine zr_ldc2 (q := 43) (v := 68719476735) dX6_takeInRow_40 rfl zb_232 ?_
      obtain ⟨c_57, h⟩ := chk_some h
      obtain ⟨r_54, M_55, hc_56, h⟩ := bnd2_some h
      refine zr_callVI (μ' := uX3_addAtom) (q := 46) (n := 1) (ci := 3) (As := [.long (68719476735 : Int64)]) (u' := (0, 0)) (tX3_addAtom n M_2 a_52 (68719476735 : Int64) _ _ hc_56) dX6_takeInRow_43 rfl rfl ⟨zb_233, zb_234, zb_235, zb_236, zb_123⟩ zd_X3_addAtom ⟨by decide, by decide⟩ ⟨by decide, by decide⟩ (eq_of_beq c_57) (by decide) rfl rfl rfl (Nat.le_of_ble_eq_true rfl) rfl rfl ?_
      refine zr_iconst (q := 47) (v := 4) dX6_takeInRow_46 rfl (by decide) ?_
      refine zr_iload_n (q := 48) dX6_takeInRow_47 rfl rfl 2 rfl ?_
      obtain ⟨c_61, h⟩ := chk_some h
      obtain ⟨r_58, M_59, hc_60, h⟩ := bnd2_some h
      refine zr_callVV (μ' := uX6_failUnless) (q := 51) (n := 3) (ci := 6) (As := [.int r_54, .int (4 : Int32), .int v1]) (u' := (0, 0)) (tX6_failUnless n M_55 v0 r_54 (4 : Int32) v1 _ _ hc_60) dX6_takeInRow_48 rfl rfl ⟨zb_224, zb_225, zb_226, zb_227, zb_193⟩ zd_X6_failUnless ⟨by decide, by decide⟩ ⟨by decide, by decide⟩ (eq_of_beq c_61) (by decide) rfl rfl rfl (Nat.le_of_ble_eq_true rfl) rfl rfl ?_
      refine zr_goto (q := 164) dX6_takeInRow_51 (by decide) ?_
      cases h
      exact zr_return dX6_takeInRow_164 rfl ⟨by decide, by decide⟩ ⟨rfl, rfl⟩
  · replace h := ite_f c_4 h
    refine zr_aload_n (q := 11) dX6_takeInRow_10 rfl rfl 1 rfl ?_
    refine zr_aload_n (q := 12) dX6_takeInRow_11 rfl rfl 1 rfl ?_
    obtain ⟨c_62, h⟩ := chk_some h
    obtain ⟨a_63, e_64, h⟩ := bnd_some h
    refine zr_getr (q := 15) (ci := 6) (k := 3) dX6_takeInRow_12 rfl (eq_of_beq c_62) rfl (by decide) rfl zbX6 (by decide) zb_198 rfl e_64 ?_
    refine zr_lconst (q := 16) (v := 1) dX6_takeInRow_15 rfl (by decide) ?_
    refine zr_iload_n (q := 17) dX6_takeInRow_16 rfl rfl 0 rfl ?_
    refine zr_lshl (q := 18) dX6_takeInRow_17 rfl ?_
    obtain ⟨c_68, h⟩ := chk_some h
    obtain ⟨r_65, M_66, hc_67, h⟩ := bnd2_some h
    refine zr_callVI (μ' := uX3_addAtom) (q := 21) (n := 1) (ci := 3) (As := [.long (jshl (1 : Int64) r_1)]) (u' := (0, 0)) (tX3_addAtom n M_2 a_63 (jshl (1 : Int64) r_1) _ _ hc_67) dX6_takeInRow_18 rfl rfl ⟨zb_233, zb_234, zb_235, zb_236, zb_123⟩ zd_X3_addAtom ⟨by decide, by decide⟩ ⟨by decide, by decide⟩ (eq_of_beq c_68) (by decide) rfl rfl rfl (Nat.le_of_ble_eq_true rfl) rfl rfl ?_
    refine zr_iconst (q := 22) (v := 4) dX6_takeInRow_21 rfl (by decide) ?_
    refine zr_iload_n (q := 23) dX6_takeInRow_22 rfl rfl 2 rfl ?_
    obtain ⟨c_72, h⟩ := chk_some h
    obtain ⟨r_69, M_70, hc_71, h⟩ := bnd2_some h
    refine zr_callVV (μ' := uX6_failUnless) (q := 26) (n := 3) (ci := 6) (As := [.int r_65, .int (4 : Int32), .int v1]) (u' := (0, 0)) (tX6_failUnless n M_66 v0 r_65 (4 : Int32) v1 _ _ hc_71) dX6_takeInRow_23 rfl rfl ⟨zb_224, zb_225, zb_226, zb_227, zb_193⟩ zd_X6_failUnless ⟨by decide, by decide⟩ ⟨by decide, by decide⟩ (eq_of_beq c_72) (by decide) rfl rfl rfl (Nat.le_of_ble_eq_true rfl) rfl rfl ?_
    refine zr_goto (q := 164) dX6_takeInRow_26 (by decide) ?_
    cases h
    exact zr_return dX6_takeInRow_164 rfl ⟨by decide, by decide⟩ ⟨rfl, rfl⟩

def uX6_takeSetLetter : zMu := (yX6_takeSetLetter, cX6_takeSetLetter, 3, none, { frames := 1, cells := 0, slots := 0, locals := 22 }, [])
theorem zd_X6_takeSetLetter : (uY uX6_takeSetLetter).cls ≠ "java/lang/invoke/MethodHandle" ∧ (uY uX6_takeSetLetter).cls ≠ "java/lang/invoke/VarHandle" ∧ (parseMethodDescriptor (uY uX6_takeSetLetter).desc).map (fun d => d.parameters.length) = some 2 := by decide +kernel
def fX6_takeSetLetter (n : Nat) (M : zM) (v0 : Nat) (v1 : Int32) (v2 : Int32) : Option (Unit × zM) :=
  chk (mK M v0 == 6) <|
  if (mI M v0 5) = (4 : Int32) then
    chk (mK M v0 == 6) <|
    if (mI M v0 9) ≤ v2 then
      chk (mK M v0 == 6) <|
      chk (mK M v0 == 6) <|
      chk (mK M v0 == 6) <|
      app (wL M v0 7 ((mL M v0 7) ||| ((jshl (2 : Int64) v2) - (jshl (1 : Int64) (mI M v0 9))))) fun M_8 : zM =>
      chk (mK M_8 v0 == 6) <|
      app (wI M_8 v0 5 (5 : Int32)) fun M_11 : zM =>
      some ((), M_11)
    else
    chk (mK M v0 == 6) <|
    chk (mK M v0 == 6) <|
    bnd2 (fX6_fail n M v0 (6 : Int32) (mI M v0 10)) fun r_14 M_15 =>
    some ((), M_15)
  else
  chk (mK M v0 == 6) <|
  chk (mK M v0 == 6) <|
  app (wL M v0 7 ((mL M v0 7) ||| (jshl (1 : Int64) v2))) fun M_20 : zM =>
  chk (mK M_20 v0 == 6) <|
  app (wI M_20 v0 9 v2) fun M_23 : zM =>
  chk (mK M_23 v0 == 6) <|
  app (wI M_23 v0 10 v1) fun M_26 : zM =>
  chk (mK M_26 v0 == 6) <|
  app (wI M_26 v0 5 (3 : Int32)) fun M_29 : zM =>
  some ((), M_29)
set_option maxHeartbeats 4000000 in
theorem tX6_takeSetLetter (n : Nat) (M : zM) (v0 : Nat) (v1 : Int32) (v2 : Int32) (r : Unit) (M' : zM) (h : fX6_takeSetLetter n M v0 v1 v2 = some (r, M')) : zMet uX6_takeSetLetter false M [.ref v0, .int v1, .int v2] (zE (oV r) M') := by
  refine zMet_of (L := [(0, .ref v0), (1, .int v1), (2, .int v2)]) (by decide +kernel) rfl rfl (Nat.le_of_ble_eq_true rfl) ?_
  show zW uX6_takeSetLetter none (0, 0) M 0 [(0, .ref v0), (1, .int v1), (2, .int v2)] [] (zE (oV r) M')
  unfold fX6_takeSetLetter at h
  refine zr_aload_n (q := 1) dX6_takeSetLetter_0 rfl rfl 0 rfl ?_
  obtain ⟨c_1, h⟩ := chk_some h
  refine zr_get (q := 4) (ci := 6) (k := 5) dX6_takeSetLetter_1 rfl (eq_of_beq c_1) rfl (by decide) rfl zbX6 (by decide) zb_197 rfl ?_
  refine zr_iconst (q := 5) (v := 4) dX6_takeSetLetter_4 rfl (by decide) ?_
  refine zr_icmp_eq (q := 8) (tgt := 38) dX6_takeSetLetter_5 rfl (by decide) (fun c_2 => ?_) (fun c_2 => ?_)
  · replace h := ite_t c_2 h
    refine zr_aload_n (q := 39) dX6_takeSetLetter_38 rfl rfl 0 rfl ?_
    obtain ⟨c_3, h⟩ := chk_some h
    refine zr_get (q := 42) (ci := 6) (k := 9) dX6_takeSetLetter_39 rfl (eq_of_beq c_3) rfl (by decide) rfl zbX6 (by decide) zb_237 rfl ?_
    refine zr_iload_n (q := 43) dX6_takeSetLetter_42 rfl rfl 2 rfl ?_
    refine zr_icmp_le (q := 46) (tgt := 59) dX6_takeSetLetter_43 rfl (by decide) (fun c_4 => ?_) (fun c_4 => ?_)
    · replace h := ite_t c_4 h
      refine zr_aload_n (q := 60) dX6_takeSetLetter_59 rfl rfl 0 rfl ?_
      refine zr_dup (q := 61) dX6_takeSetLetter_60 rfl rfl ?_
      obtain ⟨c_5, h⟩ := chk_some h
      refine zr_get (q := 64) (ci := 6) (k := 7) dX6_takeSetLetter_61 rfl (eq_of_beq c_5) rfl (by decide) rfl zbX6 (by decide) zb_195 rfl ?_
      refine zr_ldc2 (q := 67) (v := 2) dX6_takeSetLetter_64 rfl zb_238 ?_
      refine zr_iload_n (q := 68) dX6_takeSetLetter_67 rfl rfl 2 rfl ?_
      refine zr_lshl (q := 69) dX6_takeSetLetter_68 rfl ?_
      refine zr_lconst (q := 70) (v := 1) dX6_takeSetLetter_69 rfl (by decide) ?_
      refine zr_aload_n (q := 71) dX6_takeSetLetter_70 rfl rfl 0 rfl ?_
      obtain ⟨c_6, h⟩ := chk_some h
      refine zr_get (q := 74) (ci := 6) (k := 9) dX6_takeSetLetter_71 rfl (eq_of_beq c_6) rfl (by decide) rfl zbX6 (by decide) zb_237 rfl ?_
      refine zr_lshl (q := 75) dX6_takeSetLetter_74 rfl ?_
      refine zr_lsub (q := 76) dX6_takeSetLetter_75 rfl ?_
      refine zr_lor (q := 77) dX6_takeSetLetter_76 rfl ?_
      obtain ⟨c_7, h⟩ := chk_some h
      obtain ⟨M_8, e_9, h⟩ := app_some h
      refine zr_putL (q := 80) (ci := 6) (k := 7) dX6_takeSetLetter_77 rfl (eq_of_beq c_7) rfl (by decide) rfl zbX6 tyX6_ok nmX6 (by decide) zb_195 (Or.inl rfl) rfl ?_
      refine zr_mem e_9 ?_
      refine zr_aload_n (q := 81) dX6_takeSetLetter_80 rfl rfl 0 rfl ?_
      refine zr_iconst (q := 82) (v := 5) dX6_takeSetLetter_81 rfl (by decide) ?_
      obtain ⟨c_10, h⟩ := chk_some h
      obtain ⟨M_11, e_12, h⟩ := app_some h
      refine zr_putI (q := 85) (ci := 6) (k := 5) dX6_takeSetLetter_82 rfl (eq_of_beq c_10) rfl (by decide) rfl zbX6 tyX6_ok nmX6 (by decide) zb_197 (Or.inl rfl) rfl ?_
      refine zr_mem e_12 ?_
      cases h
      exact zr_return dX6_takeSetLetter_85 rfl ⟨by decide, by decide⟩ ⟨rfl, rfl⟩
    · replace h := ite_f c_4 h
      refine zr_aload_n (q := 47) dX6_takeSetLetter_46 rfl rfl 0 rfl ?_
      refine zr_bipush (q := 49) (v := 6) dX6_takeSetLetter_47 rfl (by decide) ?_
      refine zr_aload_n (q := 50) dX6_takeSetLetter_49 rfl rfl 0 rfl ?_
      obtain ⟨c_13, h⟩ := chk_some h
      refine zr_get (q := 53) (ci := 6) (k := 10) dX6_takeSetLetter_50 rfl (eq_of_beq c_13) rfl (by decide) rfl zbX6 (by decide) zb_239 rfl ?_
      obtain ⟨c_17, h⟩ := chk_some h
      obtain ⟨r_14, M_15, hc_16, h⟩ := bnd2_some h
      refine zr_callVV (μ' := uX6_fail) (q := 56) (n := 2) (ci := 6) (As := [.int (6 : Int32), .int (mI M v0 10)]) (u' := (0, 0)) (tX6_fail n M v0 (6 : Int32) (mI M v0 10) _ _ hc_16) dX6_takeSetLetter_53 rfl rfl ⟨zb_189, zb_190, zb_191, zb_192, zb_193⟩ zd_X6_fail ⟨by decide, by decide⟩ ⟨by decide, by decide⟩ (eq_of_beq c_17) (by decide) rfl rfl rfl (Nat.le_of_ble_eq_true rfl) rfl rfl ?_
      refine zr_goto (q := 85) dX6_takeSetLetter_56 (by decide) ?_
      cases h
      exact zr_return dX6_takeSetLetter_85 rfl ⟨by decide, by decide⟩ ⟨rfl, rfl⟩
  · replace h := ite_f c_2 h
    refine zr_aload_n (q := 9) dX6_takeSetLetter_8 rfl rfl 0 rfl ?_
    refine zr_dup (q := 10) dX6_takeSetLetter_9 rfl rfl ?_
    obtain ⟨c_18, h⟩ := chk_some h
    refine zr_get (q := 13) (ci := 6) (k := 7) dX6_takeSetLetter_10 rfl (eq_of_beq c_18) rfl (by decide) rfl zbX6 (by decide) zb_195 rfl ?_
    refine zr_lconst (q := 14) (v := 1) dX6_takeSetLetter_13 rfl (by decide) ?_
    refine zr_iload_n (q := 15) dX6_takeSetLetter_14 rfl rfl 2 rfl ?_
    refine zr_lshl (q := 16) dX6_takeSetLetter_15 rfl ?_
    refine zr_lor (q := 17) dX6_takeSetLetter_16 rfl ?_
    obtain ⟨c_19, h⟩ := chk_some h
    obtain ⟨M_20, e_21, h⟩ := app_some h
    refine zr_putL (q := 20) (ci := 6) (k := 7) dX6_takeSetLetter_17 rfl (eq_of_beq c_19) rfl (by decide) rfl zbX6 tyX6_ok nmX6 (by decide) zb_195 (Or.inl rfl) rfl ?_
    refine zr_mem e_21 ?_
    refine zr_aload_n (q := 21) dX6_takeSetLetter_20 rfl rfl 0 rfl ?_
    refine zr_iload_n (q := 22) dX6_takeSetLetter_21 rfl rfl 2 rfl ?_
    obtain ⟨c_22, h⟩ := chk_some h
    obtain ⟨M_23, e_24, h⟩ := app_some h
    refine zr_putI (q := 25) (ci := 6) (k := 9) dX6_takeSetLetter_22 rfl (eq_of_beq c_22) rfl (by decide) rfl zbX6 tyX6_ok nmX6 (by decide) zb_237 (Or.inl rfl) rfl ?_
    refine zr_mem e_24 ?_
    refine zr_aload_n (q := 26) dX6_takeSetLetter_25 rfl rfl 0 rfl ?_
    refine zr_iload_n (q := 27) dX6_takeSetLetter_26 rfl rfl 1 rfl ?_
    obtain ⟨c_25, h⟩ := chk_some h
    obtain ⟨M_26, e_27, h⟩ := app_some h
    refine zr_putI (q := 30) (ci := 6) (k := 10) dX6_takeSetLetter_27 rfl (eq_of_beq c_25) rfl (by decide) rfl zbX6 tyX6_ok nmX6 (by decide) zb_239 (Or.inl rfl) rfl ?_
    refine zr_mem e_27 ?_
    refine zr_aload_n (q := 31) dX6_takeSetLetter_30 rfl rfl 0 rfl ?_
    refine zr_iconst (q := 32) (v := 3) dX6_takeSetLetter_31 rfl (by decide) ?_
    obtain ⟨c_28, h⟩ := chk_some h
    obtain ⟨M_29, e_30, h⟩ := app_some h
    refine zr_putI (q := 35) (ci := 6) (k := 5) dX6_takeSetLetter_32 rfl (eq_of_beq c_28) rfl (by decide) rfl zbX6 tyX6_ok nmX6 (by decide) zb_197 (Or.inl rfl) rfl ?_
    refine zr_mem e_30 ?_
    refine zr_goto (q := 85) dX6_takeSetLetter_35 (by decide) ?_
    cases h
    exact zr_return dX6_takeSetLetter_85 rfl ⟨by decide, by decide⟩ ⟨rfl, rfl⟩

def uX6_takeInSet : zMu := (yX6_takeInSet, cX6_takeInSet, 4, none, { frames := 4, cells := 0, slots := 0, locals := 91 }, [])
theorem zd_X6_takeInSet : (uY uX6_takeInSet).cls ≠ "java/lang/invoke/MethodHandle" ∧ (uY uX6_takeInSet).cls ≠ "java/lang/invoke/VarHandle" ∧ (parseMethodDescriptor (uY uX6_takeInSet).desc).map (fun d => d.parameters.length) = some 2 := by decide +kernel
def fX6_takeInSet_140 (n : Nat) (M : zM) (v0 : Nat) (v1 : Int32) : Option (Unit × zM) :=
  chk (mK M v0 == 6) <|
  bnd2 (fX6_fail n M v0 (1 : Int32) v1) fun r_1 M_2 =>
  some ((), M_2)
set_option maxHeartbeats 4000000 in
theorem tX6_takeInSet_140 (n : Nat) (M : zM) (v0 : Nat) (v1 : Int32) (r : Unit) (M' : zM) (h : fX6_takeInSet_140 n M v0 v1 = some (r, M')) : zW uX6_takeInSet none (0, 0) M 140 [(0, .ref v0), (1, .int v1)] [] (zE (oV r) M') := by
  unfold fX6_takeInSet_140 at h
  refine zr_aload_n (q := 141) dX6_takeInSet_140 rfl rfl 0 rfl ?_
  refine zr_iconst (q := 142) (v := 1) dX6_takeInSet_141 rfl (by decide) ?_
  refine zr_iload_n (q := 143) dX6_takeInSet_142 rfl rfl 1 rfl ?_
  obtain ⟨c_4, h⟩ := chk_some h
  obtain ⟨r_1, M_2, hc_3, h⟩ := bnd2_some h
  refine zr_callVV (μ' := uX6_fail) (q := 146) (n := 2) (ci := 6) (As := [.int (1 : Int32), .int v1]) (u' := (0, 0)) (tX6_fail n M v0 (1 : Int32) v1 _ _ hc_3) dX6_takeInSet_143 rfl rfl ⟨zb_189, zb_190, zb_191, zb_192, zb_193⟩ zd_X6_fail ⟨by decide, by decide⟩ ⟨by decide, by decide⟩ (eq_of_beq c_4) (by decide) rfl rfl rfl (Nat.le_of_ble_eq_true rfl) rfl rfl ?_
  cases h
  exact zr_return dX6_takeInSet_146 rfl ⟨by decide, by decide⟩ ⟨rfl, rfl⟩
def fX6_takeInSet_126 (n : Nat) (M : zM) (v0 : Nat) (s0 : Nat) (s1 : Nat) (s2 : Int64) : Option (Unit × zM) :=
  chk (mK M s1 == 3) <|
  bnd2 (fX3_addAtom n M s1 s2) fun r_1 M_2 =>
  chk (mK M_2 v0 == 6) <|
  chk (mK M_2 s0 == 6) <|
  bnd2 (fX6_failUnless n M_2 s0 r_1 (4 : Int32) (mI M_2 v0 6)) fun r_6 M_7 =>
  some ((), M_7)
set_option maxHeartbeats 4000000 in
theorem tX6_takeInSet_126 (n : Nat) (M : zM) (v0 : Nat) (s0 : Nat) (s1 : Nat) (s2 : Int64) (r : Unit) (M' : zM) (h : fX6_takeInSet_126 n M v0 s0 s1 s2 = some (r, M')) : zW uX6_takeInSet none (0, 0) M 126 [(0, .ref v0)] [.long s2, .ref s1, .ref s0] (zE (oV r) M') := by
  unfold fX6_takeInSet_126 at h
  obtain ⟨c_4, h⟩ := chk_some h
  obtain ⟨r_1, M_2, hc_3, h⟩ := bnd2_some h
  refine zr_callVI (μ' := uX3_addAtom) (q := 129) (n := 1) (ci := 3) (As := [.long s2]) (u' := (0, 0)) (tX3_addAtom n M s1 s2 _ _ hc_3) dX6_takeInSet_126 rfl rfl ⟨zb_233, zb_234, zb_235, zb_236, zb_123⟩ zd_X3_addAtom ⟨by decide, by decide⟩ ⟨by decide, by decide⟩ (eq_of_beq c_4) (by decide) rfl rfl rfl (Nat.le_of_ble_eq_true rfl) rfl rfl ?_
  refine zr_iconst (q := 130) (v := 4) dX6_takeInSet_129 rfl (by decide) ?_
  refine zr_aload_n (q := 131) dX6_takeInSet_130 rfl rfl 0 rfl ?_
  obtain ⟨c_5, h⟩ := chk_some h
  refine zr_get (q := 134) (ci := 6) (k := 6) dX6_takeInSet_131 rfl (eq_of_beq c_5) rfl (by decide) rfl zbX6 (by decide) zb_194 rfl ?_
  obtain ⟨c_9, h⟩ := chk_some h
  obtain ⟨r_6, M_7, hc_8, h⟩ := bnd2_some h
  refine zr_callVV (μ' := uX6_failUnless) (q := 137) (n := 3) (ci := 6) (As := [.int r_1, .int (4 : Int32), .int (mI M_2 v0 6)]) (u' := (0, 0)) (tX6_failUnless n M_2 s0 r_1 (4 : Int32) (mI M_2 v0 6) _ _ hc_8) dX6_takeInSet_134 rfl rfl ⟨zb_224, zb_225, zb_226, zb_227, zb_193⟩ zd_X6_failUnless ⟨by decide, by decide⟩ ⟨by decide, by decide⟩ (eq_of_beq c_9) (by decide) rfl rfl rfl (Nat.le_of_ble_eq_true rfl) rfl rfl ?_
  refine zr_goto (q := 146) dX6_takeInSet_137 (by decide) ?_
  cases h
  exact zr_return dX6_takeInSet_146 rfl ⟨by decide, by decide⟩ ⟨rfl, rfl⟩
def fX6_takeInSet_90 (n : Nat) (M : zM) (v0 : Nat) : Option (Unit × zM) :=
  chk (mK M v0 == 6) <|
  app (wI M v0 5 (0 : Int32)) fun M_2 : zM =>
  chk (mK M_2 v0 == 6) <|
  bnd (mR M_2 v0 3) fun a_5 =>
  chk (mK M_2 v0 == 6) <|
  if (mI M_2 v0 8) = (0 : Int32) then
    chk (mK M_2 v0 == 6) <|
    fX6_takeInSet_126 n M_2 v0 v0 a_5 (mL M_2 v0 7)
  else
  chk (mK M_2 v0 == 6) <|
  fX6_takeInSet_126 n M_2 v0 v0 a_5 ((68719476735 : Int64) &&& ((mL M_2 v0 7) ^^^ (-1 : Int64)))
set_option maxHeartbeats 4000000 in
theorem tX6_takeInSet_90 (n : Nat) (M : zM) (v0 : Nat) (r : Unit) (M' : zM) (h : fX6_takeInSet_90 n M v0 = some (r, M')) : zW uX6_takeInSet none (0, 0) M 90 [(0, .ref v0)] [] (zE (oV r) M') := by
  unfold fX6_takeInSet_90 at h
  refine zr_aload_n (q := 91) dX6_takeInSet_90 rfl rfl 0 rfl ?_
  refine zr_iconst (q := 92) (v := 0) dX6_takeInSet_91 rfl (by decide) ?_
  obtain ⟨c_1, h⟩ := chk_some h
  obtain ⟨M_2, e_3, h⟩ := app_some h
  refine zr_putI (q := 95) (ci := 6) (k := 5) dX6_takeInSet_92 rfl (eq_of_beq c_1) rfl (by decide) rfl zbX6 tyX6_ok nmX6 (by decide) zb_197 (Or.inl rfl) rfl ?_
  refine zr_mem e_3 ?_
  refine zr_aload_n (q := 96) dX6_takeInSet_95 rfl rfl 0 rfl ?_
  refine zr_aload_n (q := 97) dX6_takeInSet_96 rfl rfl 0 rfl ?_
  obtain ⟨c_4, h⟩ := chk_some h
  obtain ⟨a_5, e_6, h⟩ := bnd_some h
  refine zr_getr (q := 100) (ci := 6) (k := 3) dX6_takeInSet_97 rfl (eq_of_beq c_4) rfl (by decide) rfl zbX6 (by decide) zb_198 rfl e_6 ?_
  refine zr_aload_n (q := 101) dX6_takeInSet_100 rfl rfl 0 rfl ?_
  obtain ⟨c_7, h⟩ := chk_some h
  refine zr_get (q := 104) (ci := 6) (k := 8) dX6_takeInSet_101 rfl (eq_of_beq c_7) rfl (by decide) rfl zbX6 (by decide) zb_196 rfl ?_
  refine zr_if_eq (q := 107) (tgt := 122) dX6_takeInSet_104 rfl (by decide) (fun c_8 => ?_) (fun c_8 => ?_)
  · replace h := ite_t c_8 h
    refine zr_aload_n (q := 123) dX6_takeInSet_122 rfl rfl 0 rfl ?_
    obtain ⟨c_9, h⟩ := chk_some h
    refine zr_get (q := 126) (ci := 6) (k := 7) dX6_takeInSet_123 rfl (eq_of_beq c_9) rfl (by decide) rfl zbX6 (by decide) zb_195 rfl ?_
    exact zr_pick [0] rfl (tX6_takeInSet_126 n M_2 v0 v0 a_5 (mL M_2 v0 7) _ _ h)
  · replace h := ite_f c_8 h
    refine zr_ldc2 (q := 110) (v := 68719476735) dX6_takeInSet_107 rfl zb_232 ?_
    refine zr_aload_n (q := 111) dX6_takeInSet_110 rfl rfl 0 rfl ?_
    obtain ⟨c_10, h⟩ := chk_some h
    refine zr_get (q := 114) (ci := 6) (k := 7) dX6_takeInSet_111 rfl (eq_of_beq c_10) rfl (by decide) rfl zbX6 (by decide) zb_195 rfl ?_
    refine zr_ldc2 (q := 117) (v := -1) dX6_takeInSet_114 rfl zb_240 ?_
    refine zr_lxor (q := 118) dX6_takeInSet_117 rfl ?_
    refine zr_land (q := 119) dX6_takeInSet_118 rfl ?_
    refine zr_goto (q := 126) dX6_takeInSet_119 (by decide) ?_
    exact zr_pick [0] rfl (tX6_takeInSet_126 n M_2 v0 v0 a_5 ((68719476735 : Int64) &&& ((mL M_2 v0 7) ^^^ (-1 : Int64))) _ _ h)
def fX6_takeInSet_68 (n : Nat) (M : zM) (v0 : Nat) (v1 : Int32) (v2 : Int32) : Option (Unit × zM) :=
  if v2 = (93 : Int32) then
    chk (mK M v0 == 6) <|
    if (mI M v0 5) = (3 : Int32) then
      fX6_takeInSet_90 n M v0
    else
    chk (mK M v0 == 6) <|
    if (mI M v0 5) = (5 : Int32) then
      fX6_takeInSet_90 n M v0
    else
    fX6_takeInSet_140 n M v0 v1
  else
  fX6_takeInSet_140 n M v0 v1
set_option maxHeartbeats 4000000 in
theorem tX6_takeInSet_68 (n : Nat) (M : zM) (v0 : Nat) (v1 : Int32) (v2 : Int32) (r : Unit) (M' : zM) (h : fX6_takeInSet_68 n M v0 v1 v2 = some (r, M')) : zW uX6_takeInSet none (0, 0) M 68 [(0, .ref v0), (1, .int v1), (2, .int v2)] [] (zE (oV r) M') := by
  unfold fX6_takeInSet_68 at h
  refine zr_iload_n (q := 69) dX6_takeInSet_68 rfl rfl 2 rfl ?_
  refine zr_bipush (q := 71) (v := 93) dX6_takeInSet_69 rfl (by decide) ?_
  refine zr_icmp_ne (q := 74) (tgt := 140) dX6_takeInSet_71 rfl (by decide) (fun c_1 => ?_) (fun c_1 => ?_)
  · replace h := ite_f c_1 h
    exact zr_pick [0, 1] rfl (tX6_takeInSet_140 n M v0 v1 _ _ h)
  · replace h := ite_t c_1 h
    refine zr_aload_n (q := 75) dX6_takeInSet_74 rfl rfl 0 rfl ?_
    obtain ⟨c_2, h⟩ := chk_some h
    refine zr_get (q := 78) (ci := 6) (k := 5) dX6_takeInSet_75 rfl (eq_of_beq c_2) rfl (by decide) rfl zbX6 (by decide) zb_197 rfl ?_
    refine zr_iconst (q := 79) (v := 3) dX6_takeInSet_78 rfl (by decide) ?_
    refine zr_icmp_eq (q := 82) (tgt := 90) dX6_takeInSet_79 rfl (by decide) (fun c_3 => ?_) (fun c_3 => ?_)
    · replace h := ite_t c_3 h
      exact zr_pick [0] rfl (tX6_takeInSet_90 n M v0 _ _ h)
    · replace h := ite_f c_3 h
      refine zr_aload_n (q := 83) dX6_takeInSet_82 rfl rfl 0 rfl ?_
      obtain ⟨c_4, h⟩ := chk_some h
      refine zr_get (q := 86) (ci := 6) (k := 5) dX6_takeInSet_83 rfl (eq_of_beq c_4) rfl (by decide) rfl zbX6 (by decide) zb_197 rfl ?_
      refine zr_iconst (q := 87) (v := 5) dX6_takeInSet_86 rfl (by decide) ?_
      refine zr_icmp_ne (q := 90) (tgt := 140) dX6_takeInSet_87 rfl (by decide) (fun c_5 => ?_) (fun c_5 => ?_)
      · replace h := ite_f c_5 h
        exact zr_pick [0, 1] rfl (tX6_takeInSet_140 n M v0 v1 _ _ h)
      · replace h := ite_t c_5 h
        exact zr_pick [0] rfl (tX6_takeInSet_90 n M v0 _ _ h)
def fX6_takeInSet_46 (n : Nat) (M : zM) (v0 : Nat) (v1 : Int32) (v2 : Int32) : Option (Unit × zM) :=
  if v2 = (45 : Int32) then
    chk (mK M v0 == 6) <|
    if (mI M v0 5) = (3 : Int32) then
      chk (mK M v0 == 6) <|
      app (wI M v0 5 (4 : Int32)) fun M_5 : zM =>
      some ((), M_5)
    else
    fX6_takeInSet_68 n M v0 v1 v2
  else
  fX6_takeInSet_68 n M v0 v1 v2
set_option maxHeartbeats 4000000 in
theorem tX6_takeInSet_46 (n : Nat) (M : zM) (v0 : Nat) (v1 : Int32) (v2 : Int32) (r : Unit) (M' : zM) (h : fX6_takeInSet_46 n M v0 v1 v2 = some (r, M')) : zW uX6_takeInSet none (0, 0) M 46 [(0, .ref v0), (1, .int v1), (2, .int v2)] [] (zE (oV r) M') := by
  unfold fX6_takeInSet_46 at h
  refine zr_iload_n (q := 47) dX6_takeInSet_46 rfl rfl 2 rfl ?_
  refine zr_bipush (q := 49) (v := 45) dX6_takeInSet_47 rfl (by decide) ?_
  refine zr_icmp_ne (q := 52) (tgt := 68) dX6_takeInSet_49 rfl (by decide) (fun c_1 => ?_) (fun c_1 => ?_)
  · replace h := ite_f c_1 h
    exact zr_pick [0, 1, 2] rfl (tX6_takeInSet_68 n M v0 v1 v2 _ _ h)
  · replace h := ite_t c_1 h
    refine zr_aload_n (q := 53) dX6_takeInSet_52 rfl rfl 0 rfl ?_
    obtain ⟨c_2, h⟩ := chk_some h
    refine zr_get (q := 56) (ci := 6) (k := 5) dX6_takeInSet_53 rfl (eq_of_beq c_2) rfl (by decide) rfl zbX6 (by decide) zb_197 rfl ?_
    refine zr_iconst (q := 57) (v := 3) dX6_takeInSet_56 rfl (by decide) ?_
    refine zr_icmp_ne (q := 60) (tgt := 68) dX6_takeInSet_57 rfl (by decide) (fun c_3 => ?_) (fun c_3 => ?_)
    · replace h := ite_f c_3 h
      exact zr_pick [0, 1, 2] rfl (tX6_takeInSet_68 n M v0 v1 v2 _ _ h)
    · replace h := ite_t c_3 h
      refine zr_aload_n (q := 61) dX6_takeInSet_60 rfl rfl 0 rfl ?_
      refine zr_iconst (q := 62) (v := 4) dX6_takeInSet_61 rfl (by decide) ?_
      obtain ⟨c_4, h⟩ := chk_some h
      obtain ⟨M_5, e_6, h⟩ := app_some h
      refine zr_putI (q := 65) (ci := 6) (k := 5) dX6_takeInSet_62 rfl (eq_of_beq c_4) rfl (by decide) rfl zbX6 tyX6_ok nmX6 (by decide) zb_197 (Or.inl rfl) rfl ?_
      refine zr_mem e_6 ?_
      refine zr_goto (q := 146) dX6_takeInSet_65 (by decide) ?_
      cases h
      exact zr_return dX6_takeInSet_146 rfl ⟨by decide, by decide⟩ ⟨rfl, rfl⟩
def fX6_takeInSet (n : Nat) (M : zM) (v0 : Nat) (v1 : Int32) (v2 : Int32) : Option (Unit × zM) :=
  bnd2 (fX9_letterOf n M v2) fun r_1 M_2 =>
  if r_1 = (-1 : Int32) then
    if v2 = (94 : Int32) then
      chk (mK M_2 v0 == 6) <|
      if (mI M_2 v0 5) = (1 : Int32) then
        chk (mK M_2 v0 == 6) <|
        app (wI M_2 v0 8 (1 : Int32)) fun M_9 : zM =>
        chk (mK M_9 v0 == 6) <|
        app (wI M_9 v0 5 (2 : Int32)) fun M_12 : zM =>
        some ((), M_12)
      else
      fX6_takeInSet_46 n M_2 v0 v1 v2
    else
    fX6_takeInSet_46 n M_2 v0 v1 v2
  else
  chk (mK M_2 v0 == 6) <|
  bnd2 (fX6_takeSetLetter n M_2 v0 v1 r_1) fun r_14 M_15 =>
  some ((), M_15)
set_option maxHeartbeats 4000000 in
theorem tX6_takeInSet (n : Nat) (M : zM) (v0 : Nat) (v1 : Int32) (v2 : Int32) (r : Unit) (M' : zM) (h : fX6_takeInSet n M v0 v1 v2 = some (r, M')) : zMet uX6_takeInSet false M [.ref v0, .int v1, .int v2] (zE (oV r) M') := by
  refine zMet_of (L := [(0, .ref v0), (1, .int v1), (2, .int v2)]) (by decide +kernel) rfl rfl (Nat.le_of_ble_eq_true rfl) ?_
  show zW uX6_takeInSet none (0, 0) M 0 [(0, .ref v0), (1, .int v1), (2, .int v2)] [] (zE (oV r) M')
  unfold fX6_takeInSet at h
  refine zr_iload_n (q := 1) dX6_takeInSet_0 rfl rfl 2 rfl ?_
  obtain ⟨r_1, M_2, hc_3, h⟩ := bnd2_some h
  refine zr_callSNI (μ' := uX9_letterOf) (q := 4) (n := 1) (As := [.int v2]) (u' := (0, 0)) (tX9_letterOf n M v2 _ _ hc_3) dX6_takeInSet_1 rfl rfl (by decide +kernel) ⟨zb_212, zb_213, zb_25⟩ zd_X9_letterOf ⟨by decide, by decide⟩ ⟨by decide, by decide⟩ rfl rfl (Nat.le_of_ble_eq_true rfl) rfl ?_
  refine zr_istore_n (q := 5) (L' := [(3, .int r_1), (0, .ref v0), (1, .int v1), (2, .int v2)]) dX6_takeInSet_4 rfl rfl (by decide) rfl ?_
  refine zr_iload_n (q := 6) dX6_takeInSet_5 rfl rfl 0 rfl ?_
  refine zr_iconst (q := 7) (v := -1) dX6_takeInSet_6 rfl (by decide) ?_
  refine zr_icmp_eq (q := 10) (tgt := 19) dX6_takeInSet_7 rfl (by decide) (fun c_4 => ?_) (fun c_4 => ?_)
  · replace h := ite_t c_4 h
    refine zr_iload_n (q := 20) dX6_takeInSet_19 rfl rfl 3 rfl ?_
    refine zr_bipush (q := 22) (v := 94) dX6_takeInSet_20 rfl (by decide) ?_
    refine zr_icmp_ne (q := 25) (tgt := 46) dX6_takeInSet_22 rfl (by decide) (fun c_5 => ?_) (fun c_5 => ?_)
    · replace h := ite_f c_5 h
      exact zr_pick [1, 2, 3] rfl (tX6_takeInSet_46 n M_2 v0 v1 v2 _ _ h)
    · replace h := ite_t c_5 h
      refine zr_aload_n (q := 26) dX6_takeInSet_25 rfl rfl 1 rfl ?_
      obtain ⟨c_6, h⟩ := chk_some h
      refine zr_get (q := 29) (ci := 6) (k := 5) dX6_takeInSet_26 rfl (eq_of_beq c_6) rfl (by decide) rfl zbX6 (by decide) zb_197 rfl ?_
      refine zr_iconst (q := 30) (v := 1) dX6_takeInSet_29 rfl (by decide) ?_
      refine zr_icmp_ne (q := 33) (tgt := 46) dX6_takeInSet_30 rfl (by decide) (fun c_7 => ?_) (fun c_7 => ?_)
      · replace h := ite_f c_7 h
        exact zr_pick [1, 2, 3] rfl (tX6_takeInSet_46 n M_2 v0 v1 v2 _ _ h)
      · replace h := ite_t c_7 h
        refine zr_aload_n (q := 34) dX6_takeInSet_33 rfl rfl 1 rfl ?_
        refine zr_iconst (q := 35) (v := 1) dX6_takeInSet_34 rfl (by decide) ?_
        obtain ⟨c_8, h⟩ := chk_some h
        obtain ⟨M_9, e_10, h⟩ := app_some h
        refine zr_putZ (q := 38) (ci := 6) (k := 8) dX6_takeInSet_35 rfl (eq_of_beq c_8) rfl (by decide) rfl zbX6 tyX6_ok nmX6 (by decide) zb_196 (Or.inl rfl) rfl (Or.inr rfl) ?_
        refine zr_mem e_10 ?_
        refine zr_aload_n (q := 39) dX6_takeInSet_38 rfl rfl 1 rfl ?_
        refine zr_iconst (q := 40) (v := 2) dX6_takeInSet_39 rfl (by decide) ?_
        obtain ⟨c_11, h⟩ := chk_some h
        obtain ⟨M_12, e_13, h⟩ := app_some h
        refine zr_putI (q := 43) (ci := 6) (k := 5) dX6_takeInSet_40 rfl (eq_of_beq c_11) rfl (by decide) rfl zbX6 tyX6_ok nmX6 (by decide) zb_197 (Or.inl rfl) rfl ?_
        refine zr_mem e_13 ?_
        refine zr_goto (q := 146) dX6_takeInSet_43 (by decide) ?_
        cases h
        exact zr_return dX6_takeInSet_146 rfl ⟨by decide, by decide⟩ ⟨rfl, rfl⟩
  · replace h := ite_f c_4 h
    refine zr_aload_n (q := 11) dX6_takeInSet_10 rfl rfl 1 rfl ?_
    refine zr_iload_n (q := 12) dX6_takeInSet_11 rfl rfl 2 rfl ?_
    refine zr_iload_n (q := 13) dX6_takeInSet_12 rfl rfl 0 rfl ?_
    obtain ⟨c_17, h⟩ := chk_some h
    obtain ⟨r_14, M_15, hc_16, h⟩ := bnd2_some h
    refine zr_callVV (μ' := uX6_takeSetLetter) (q := 16) (n := 2) (ci := 6) (As := [.int v1, .int r_1]) (u' := (0, 0)) (tX6_takeSetLetter n M_2 v0 v1 r_1 _ _ hc_16) dX6_takeInSet_13 rfl rfl ⟨zb_241, zb_242, zb_243, zb_244, zb_193⟩ zd_X6_takeSetLetter ⟨by decide, by decide⟩ ⟨by decide, by decide⟩ (eq_of_beq c_17) (by decide) rfl rfl rfl (Nat.le_of_ble_eq_true rfl) rfl rfl ?_
    refine zr_goto (q := 146) dX6_takeInSet_16 (by decide) ?_
    cases h
    exact zr_return dX6_takeInSet_146 rfl ⟨by decide, by decide⟩ ⟨rfl, rfl⟩

def uX6_closeTimes : zMu := (yX6_closeTimes, cX6_closeTimes, 1, none, { frames := 3, cells := 0, slots := 0, locals := 77 }, [])
theorem zd_X6_closeTimes : (uY uX6_closeTimes).cls ≠ "java/lang/invoke/MethodHandle" ∧ (uY uX6_closeTimes).cls ≠ "java/lang/invoke/VarHandle" ∧ (parseMethodDescriptor (uY uX6_closeTimes).desc).map (fun d => d.parameters.length) = some 0 := by decide +kernel
def fX6_closeTimes_26 (n : Nat) (M : zM) (v0 : Nat) : Option (Unit × zM) :=
  chk (mK M v0 == 6) <|
  chk (mK M v0 == 6) <|
  bnd2 (fX6_fail n M v0 (3 : Int32) (mI M v0 6)) fun r_2 M_3 =>
  some ((), M_3)
set_option maxHeartbeats 4000000 in
theorem tX6_closeTimes_26 (n : Nat) (M : zM) (v0 : Nat) (r : Unit) (M' : zM) (h : fX6_closeTimes_26 n M v0 = some (r, M')) : zW uX6_closeTimes none (0, 0) M 26 [(0, .ref v0)] [] (zE (oV r) M') := by
  unfold fX6_closeTimes_26 at h
  refine zr_aload_n (q := 27) dX6_closeTimes_26 rfl rfl 0 rfl ?_
  refine zr_iconst (q := 28) (v := 3) dX6_closeTimes_27 rfl (by decide) ?_
  refine zr_aload_n (q := 29) dX6_closeTimes_28 rfl rfl 0 rfl ?_
  obtain ⟨c_1, h⟩ := chk_some h
  refine zr_get (q := 32) (ci := 6) (k := 6) dX6_closeTimes_29 rfl (eq_of_beq c_1) rfl (by decide) rfl zbX6 (by decide) zb_194 rfl ?_
  obtain ⟨c_5, h⟩ := chk_some h
  obtain ⟨r_2, M_3, hc_4, h⟩ := bnd2_some h
  refine zr_callVV (μ' := uX6_fail) (q := 35) (n := 2) (ci := 6) (As := [.int (3 : Int32), .int (mI M v0 6)]) (u' := (0, 0)) (tX6_fail n M v0 (3 : Int32) (mI M v0 6) _ _ hc_4) dX6_closeTimes_32 rfl rfl ⟨zb_189, zb_190, zb_191, zb_192, zb_193⟩ zd_X6_fail ⟨by decide, by decide⟩ ⟨by decide, by decide⟩ (eq_of_beq c_5) (by decide) rfl rfl rfl (Nat.le_of_ble_eq_true rfl) rfl rfl ?_
  refine zr_goto (q := 62) dX6_closeTimes_35 (by decide) ?_
  cases h
  exact zr_return dX6_closeTimes_62 rfl ⟨by decide, by decide⟩ ⟨rfl, rfl⟩
def fX6_closeTimes (n : Nat) (M : zM) (v0 : Nat) : Option (Unit × zM) :=
  chk (mK M v0 == 6) <|
  chk (mK M v0 == 6) <|
  if (mI M v0 12) < (mI M v0 11) then
    fX6_closeTimes_26 n M v0
  else
  chk (mK M v0 == 6) <|
  if (5 : Int32) < (mI M v0 12) then
    fX6_closeTimes_26 n M v0
  else
  chk (mK M v0 == 6) <|
  if (mI M v0 12) = (0 : Int32) then
    fX6_closeTimes_26 n M v0
  else
  chk (mK M v0 == 6) <|
  bnd (mR M v0 3) fun a_9 =>
  chk (mK M v0 == 6) <|
  chk (mK M v0 == 6) <|
  chk (mK M a_9 == 3) <|
  bnd2 (fX3_repeat n M a_9 (mI M v0 11) (mI M v0 12)) fun r_13 M_14 =>
  chk (mK M_14 v0 == 6) <|
  chk (mK M_14 v0 == 6) <|
  bnd2 (fX6_failUnless n M_14 v0 r_13 (4 : Int32) (mI M_14 v0 6)) fun r_18 M_19 =>
  some ((), M_19)
set_option maxHeartbeats 4000000 in
theorem tX6_closeTimes (n : Nat) (M : zM) (v0 : Nat) (r : Unit) (M' : zM) (h : fX6_closeTimes n M v0 = some (r, M')) : zMet uX6_closeTimes false M [.ref v0] (zE (oV r) M') := by
  refine zMet_of (L := [(0, .ref v0)]) (by decide +kernel) rfl rfl (Nat.le_of_ble_eq_true rfl) ?_
  show zW uX6_closeTimes none (0, 0) M 0 [(0, .ref v0)] [] (zE (oV r) M')
  unfold fX6_closeTimes at h
  refine zr_aload_n (q := 1) dX6_closeTimes_0 rfl rfl 0 rfl ?_
  obtain ⟨c_1, h⟩ := chk_some h
  refine zr_get (q := 4) (ci := 6) (k := 11) dX6_closeTimes_1 rfl (eq_of_beq c_1) rfl (by decide) rfl zbX6 (by decide) zb_245 rfl ?_
  refine zr_aload_n (q := 5) dX6_closeTimes_4 rfl rfl 0 rfl ?_
  obtain ⟨c_2, h⟩ := chk_some h
  refine zr_get (q := 8) (ci := 6) (k := 12) dX6_closeTimes_5 rfl (eq_of_beq c_2) rfl (by decide) rfl zbX6 (by decide) zb_246 rfl ?_
  refine zr_icmp_gt (q := 11) (tgt := 26) dX6_closeTimes_8 rfl (by decide) (fun c_3 => ?_) (fun c_3 => ?_)
  · replace h := ite_t c_3 h
    exact zr_pick [0] rfl (tX6_closeTimes_26 n M v0 _ _ h)
  · replace h := ite_f c_3 h
    refine zr_aload_n (q := 12) dX6_closeTimes_11 rfl rfl 0 rfl ?_
    obtain ⟨c_4, h⟩ := chk_some h
    refine zr_get (q := 15) (ci := 6) (k := 12) dX6_closeTimes_12 rfl (eq_of_beq c_4) rfl (by decide) rfl zbX6 (by decide) zb_246 rfl ?_
    refine zr_iconst (q := 16) (v := 5) dX6_closeTimes_15 rfl (by decide) ?_
    refine zr_icmp_gt (q := 19) (tgt := 26) dX6_closeTimes_16 rfl (by decide) (fun c_5 => ?_) (fun c_5 => ?_)
    · replace h := ite_t c_5 h
      exact zr_pick [0] rfl (tX6_closeTimes_26 n M v0 _ _ h)
    · replace h := ite_f c_5 h
      refine zr_aload_n (q := 20) dX6_closeTimes_19 rfl rfl 0 rfl ?_
      obtain ⟨c_6, h⟩ := chk_some h
      refine zr_get (q := 23) (ci := 6) (k := 12) dX6_closeTimes_20 rfl (eq_of_beq c_6) rfl (by decide) rfl zbX6 (by decide) zb_246 rfl ?_
      refine zr_if_ne (q := 26) (tgt := 38) dX6_closeTimes_23 rfl (by decide) (fun c_7 => ?_) (fun c_7 => ?_)
      · replace h := ite_f c_7 h
        refine zr_aload_n (q := 39) dX6_closeTimes_38 rfl rfl 0 rfl ?_
        refine zr_aload_n (q := 40) dX6_closeTimes_39 rfl rfl 0 rfl ?_
        obtain ⟨c_8, h⟩ := chk_some h
        obtain ⟨a_9, e_10, h⟩ := bnd_some h
        refine zr_getr (q := 43) (ci := 6) (k := 3) dX6_closeTimes_40 rfl (eq_of_beq c_8) rfl (by decide) rfl zbX6 (by decide) zb_198 rfl e_10 ?_
        refine zr_aload_n (q := 44) dX6_closeTimes_43 rfl rfl 0 rfl ?_
        obtain ⟨c_11, h⟩ := chk_some h
        refine zr_get (q := 47) (ci := 6) (k := 11) dX6_closeTimes_44 rfl (eq_of_beq c_11) rfl (by decide) rfl zbX6 (by decide) zb_245 rfl ?_
        refine zr_aload_n (q := 48) dX6_closeTimes_47 rfl rfl 0 rfl ?_
        obtain ⟨c_12, h⟩ := chk_some h
        refine zr_get (q := 51) (ci := 6) (k := 12) dX6_closeTimes_48 rfl (eq_of_beq c_12) rfl (by decide) rfl zbX6 (by decide) zb_246 rfl ?_
        obtain ⟨c_16, h⟩ := chk_some h
        obtain ⟨r_13, M_14, hc_15, h⟩ := bnd2_some h
        refine zr_callVI (μ' := uX3_repeat) (q := 54) (n := 2) (ci := 3) (As := [.int (mI M v0 11), .int (mI M v0 12)]) (u' := (0, 0)) (tX3_repeat n M a_9 (mI M v0 11) (mI M v0 12) _ _ hc_15) dX6_closeTimes_51 rfl rfl ⟨zb_247, zb_248, zb_249, zb_250, zb_123⟩ zd_X3_repeat ⟨by decide, by decide⟩ ⟨by decide, by decide⟩ (eq_of_beq c_16) (by decide) rfl rfl rfl (Nat.le_of_ble_eq_true rfl) rfl rfl ?_
        refine zr_iconst (q := 55) (v := 4) dX6_closeTimes_54 rfl (by decide) ?_
        refine zr_aload_n (q := 56) dX6_closeTimes_55 rfl rfl 0 rfl ?_
        obtain ⟨c_17, h⟩ := chk_some h
        refine zr_get (q := 59) (ci := 6) (k := 6) dX6_closeTimes_56 rfl (eq_of_beq c_17) rfl (by decide) rfl zbX6 (by decide) zb_194 rfl ?_
        obtain ⟨c_21, h⟩ := chk_some h
        obtain ⟨r_18, M_19, hc_20, h⟩ := bnd2_some h
        refine zr_callVV (μ' := uX6_failUnless) (q := 62) (n := 3) (ci := 6) (As := [.int r_13, .int (4 : Int32), .int (mI M_14 v0 6)]) (u' := (0, 0)) (tX6_failUnless n M_14 v0 r_13 (4 : Int32) (mI M_14 v0 6) _ _ hc_20) dX6_closeTimes_59 rfl rfl ⟨zb_224, zb_225, zb_226, zb_227, zb_193⟩ zd_X6_failUnless ⟨by decide, by decide⟩ ⟨by decide, by decide⟩ (eq_of_beq c_21) (by decide) rfl rfl rfl (Nat.le_of_ble_eq_true rfl) rfl rfl ?_
        cases h
        exact zr_return dX6_closeTimes_62 rfl ⟨by decide, by decide⟩ ⟨rfl, rfl⟩
      · replace h := ite_t c_7 h
        exact zr_pick [0] rfl (tX6_closeTimes_26 n M v0 _ _ h)

def uX6_takeInTimes : zMu := (yX6_takeInTimes, cX6_takeInTimes, 4, none, { frames := 4, cells := 0, slots := 0, locals := 97 }, [])
theorem zd_X6_takeInTimes : (uY uX6_takeInTimes).cls ≠ "java/lang/invoke/MethodHandle" ∧ (uY uX6_takeInTimes).cls ≠ "java/lang/invoke/VarHandle" ∧ (parseMethodDescriptor (uY uX6_takeInTimes).desc).map (fun d => d.parameters.length) = some 2 := by decide +kernel
def fX6_takeInTimes_146 (n : Nat) (M : zM) (v0 : Nat) (v1 : Int32) : Option (Unit × zM) :=
  chk (mK M v0 == 6) <|
  bnd2 (fX6_fail n M v0 (1 : Int32) v1) fun r_1 M_2 =>
  some ((), M_2)
set_option maxHeartbeats 4000000 in
theorem tX6_takeInTimes_146 (n : Nat) (M : zM) (v0 : Nat) (v1 : Int32) (r : Unit) (M' : zM) (h : fX6_takeInTimes_146 n M v0 v1 = some (r, M')) : zW uX6_takeInTimes none (0, 0) M 146 [(0, .ref v0), (1, .int v1)] [] (zE (oV r) M') := by
  unfold fX6_takeInTimes_146 at h
  refine zr_aload_n (q := 147) dX6_takeInTimes_146 rfl rfl 0 rfl ?_
  refine zr_iconst (q := 148) (v := 1) dX6_takeInTimes_147 rfl (by decide) ?_
  refine zr_iload_n (q := 149) dX6_takeInTimes_148 rfl rfl 1 rfl ?_
  obtain ⟨c_4, h⟩ := chk_some h
  obtain ⟨r_1, M_2, hc_3, h⟩ := bnd2_some h
  refine zr_callVV (μ' := uX6_fail) (q := 152) (n := 2) (ci := 6) (As := [.int (1 : Int32), .int v1]) (u' := (0, 0)) (tX6_fail n M v0 (1 : Int32) v1 _ _ hc_3) dX6_takeInTimes_149 rfl rfl ⟨zb_189, zb_190, zb_191, zb_192, zb_193⟩ zd_X6_fail ⟨by decide, by decide⟩ ⟨by decide, by decide⟩ (eq_of_beq c_4) (by decide) rfl rfl rfl (Nat.le_of_ble_eq_true rfl) rfl rfl ?_
  cases h
  exact zr_return dX6_takeInTimes_152 rfl ⟨by decide, by decide⟩ ⟨rfl, rfl⟩
def fX6_takeInTimes_134 (n : Nat) (M : zM) (v0 : Nat) : Option (Unit × zM) :=
  chk (mK M v0 == 6) <|
  app (wI M v0 5 (0 : Int32)) fun M_2 : zM =>
  chk (mK M_2 v0 == 6) <|
  bnd2 (fX6_closeTimes n M_2 v0) fun r_4 M_5 =>
  some ((), M_5)
set_option maxHeartbeats 4000000 in
theorem tX6_takeInTimes_134 (n : Nat) (M : zM) (v0 : Nat) (r : Unit) (M' : zM) (h : fX6_takeInTimes_134 n M v0 = some (r, M')) : zW uX6_takeInTimes none (0, 0) M 134 [(0, .ref v0)] [] (zE (oV r) M') := by
  unfold fX6_takeInTimes_134 at h
  refine zr_aload_n (q := 135) dX6_takeInTimes_134 rfl rfl 0 rfl ?_
  refine zr_iconst (q := 136) (v := 0) dX6_takeInTimes_135 rfl (by decide) ?_
  obtain ⟨c_1, h⟩ := chk_some h
  obtain ⟨M_2, e_3, h⟩ := app_some h
  refine zr_putI (q := 139) (ci := 6) (k := 5) dX6_takeInTimes_136 rfl (eq_of_beq c_1) rfl (by decide) rfl zbX6 tyX6_ok nmX6 (by decide) zb_197 (Or.inl rfl) rfl ?_
  refine zr_mem e_3 ?_
  refine zr_aload_n (q := 140) dX6_takeInTimes_139 rfl rfl 0 rfl ?_
  obtain ⟨c_7, h⟩ := chk_some h
  obtain ⟨r_4, M_5, hc_6, h⟩ := bnd2_some h
  refine zr_callVV (μ' := uX6_closeTimes) (q := 143) (n := 0) (ci := 6) (As := []) (u' := (0, 0)) (tX6_closeTimes n M_2 v0 _ _ hc_6) dX6_takeInTimes_140 rfl rfl ⟨zb_251, zb_252, zb_253, zb_254, zb_193⟩ zd_X6_closeTimes ⟨by decide, by decide⟩ ⟨by decide, by decide⟩ (eq_of_beq c_7) (by decide) rfl rfl rfl (Nat.le_of_ble_eq_true rfl) rfl rfl ?_
  refine zr_goto (q := 152) dX6_takeInTimes_143 (by decide) ?_
  cases h
  exact zr_return dX6_takeInTimes_152 rfl ⟨by decide, by decide⟩ ⟨rfl, rfl⟩
def fX6_takeInTimes_110 (n : Nat) (M : zM) (v0 : Nat) (v1 : Int32) (v2 : Int32) : Option (Unit × zM) :=
  if v2 = (125 : Int32) then
    chk (mK M v0 == 6) <|
    if (mI M v0 5) = (7 : Int32) then
      fX6_takeInTimes_134 n M v0
    else
    chk (mK M v0 == 6) <|
    if (mI M v0 5) = (9 : Int32) then
      fX6_takeInTimes_134 n M v0
    else
    fX6_takeInTimes_146 n M v0 v1
  else
  fX6_takeInTimes_146 n M v0 v1
set_option maxHeartbeats 4000000 in
theorem tX6_takeInTimes_110 (n : Nat) (M : zM) (v0 : Nat) (v1 : Int32) (v2 : Int32) (r : Unit) (M' : zM) (h : fX6_takeInTimes_110 n M v0 v1 v2 = some (r, M')) : zW uX6_takeInTimes none (0, 0) M 110 [(0, .ref v0), (1, .int v1), (2, .int v2)] [] (zE (oV r) M') := by
  unfold fX6_takeInTimes_110 at h
  refine zr_iload_n (q := 111) dX6_takeInTimes_110 rfl rfl 2 rfl ?_
  refine zr_bipush (q := 113) (v := 125) dX6_takeInTimes_111 rfl (by decide) ?_
  refine zr_icmp_ne (q := 116) (tgt := 146) dX6_takeInTimes_113 rfl (by decide) (fun c_1 => ?_) (fun c_1 => ?_)
  · replace h := ite_f c_1 h
    exact zr_pick [0, 1] rfl (tX6_takeInTimes_146 n M v0 v1 _ _ h)
  · replace h := ite_t c_1 h
    refine zr_aload_n (q := 117) dX6_takeInTimes_116 rfl rfl 0 rfl ?_
    obtain ⟨c_2, h⟩ := chk_some h
    refine zr_get (q := 120) (ci := 6) (k := 5) dX6_takeInTimes_117 rfl (eq_of_beq c_2) rfl (by decide) rfl zbX6 (by decide) zb_197 rfl ?_
    refine zr_bipush (q := 122) (v := 7) dX6_takeInTimes_120 rfl (by decide) ?_
    refine zr_icmp_eq (q := 125) (tgt := 134) dX6_takeInTimes_122 rfl (by decide) (fun c_3 => ?_) (fun c_3 => ?_)
    · replace h := ite_t c_3 h
      exact zr_pick [0] rfl (tX6_takeInTimes_134 n M v0 _ _ h)
    · replace h := ite_f c_3 h
      refine zr_aload_n (q := 126) dX6_takeInTimes_125 rfl rfl 0 rfl ?_
      obtain ⟨c_4, h⟩ := chk_some h
      refine zr_get (q := 129) (ci := 6) (k := 5) dX6_takeInTimes_126 rfl (eq_of_beq c_4) rfl (by decide) rfl zbX6 (by decide) zb_197 rfl ?_
      refine zr_bipush (q := 131) (v := 9) dX6_takeInTimes_129 rfl (by decide) ?_
      refine zr_icmp_ne (q := 134) (tgt := 146) dX6_takeInTimes_131 rfl (by decide) (fun c_5 => ?_) (fun c_5 => ?_)
      · replace h := ite_f c_5 h
        exact zr_pick [0, 1] rfl (tX6_takeInTimes_146 n M v0 v1 _ _ h)
      · replace h := ite_t c_5 h
        exact zr_pick [0] rfl (tX6_takeInTimes_134 n M v0 _ _ h)
def fX6_takeInTimes_80 (n : Nat) (M : zM) (v0 : Nat) (v1 : Int32) (v2 : Int32) (v3 : Int32) : Option (Unit × zM) :=
  if v3 = (0 : Int32) then
    fX6_takeInTimes_110 n M v0 v1 v2
  else
  chk (mK M v0 == 6) <|
  if (mI M v0 5) = (8 : Int32) then
    chk (mK M v0 == 6) <|
    app (wI M v0 12 (v2 - (48 : Int32))) fun M_5 : zM =>
    chk (mK M_5 v0 == 6) <|
    app (wI M_5 v0 5 (9 : Int32)) fun M_8 : zM =>
    some ((), M_8)
  else
  fX6_takeInTimes_110 n M v0 v1 v2
set_option maxHeartbeats 4000000 in
theorem tX6_takeInTimes_80 (n : Nat) (M : zM) (v0 : Nat) (v1 : Int32) (v2 : Int32) (v3 : Int32) (r : Unit) (M' : zM) (h : fX6_takeInTimes_80 n M v0 v1 v2 v3 = some (r, M')) : zW uX6_takeInTimes none (0, 0) M 80 [(0, .ref v0), (1, .int v1), (2, .int v2), (3, .int v3)] [] (zE (oV r) M') := by
  unfold fX6_takeInTimes_80 at h
  refine zr_iload_n (q := 81) dX6_takeInTimes_80 rfl rfl 3 rfl ?_
  refine zr_if_eq (q := 84) (tgt := 110) dX6_takeInTimes_81 rfl (by decide) (fun c_1 => ?_) (fun c_1 => ?_)
  · replace h := ite_t c_1 h
    exact zr_pick [0, 1, 2] rfl (tX6_takeInTimes_110 n M v0 v1 v2 _ _ h)
  · replace h := ite_f c_1 h
    refine zr_aload_n (q := 85) dX6_takeInTimes_84 rfl rfl 0 rfl ?_
    obtain ⟨c_2, h⟩ := chk_some h
    refine zr_get (q := 88) (ci := 6) (k := 5) dX6_takeInTimes_85 rfl (eq_of_beq c_2) rfl (by decide) rfl zbX6 (by decide) zb_197 rfl ?_
    refine zr_bipush (q := 90) (v := 8) dX6_takeInTimes_88 rfl (by decide) ?_
    refine zr_icmp_ne (q := 93) (tgt := 110) dX6_takeInTimes_90 rfl (by decide) (fun c_3 => ?_) (fun c_3 => ?_)
    · replace h := ite_f c_3 h
      exact zr_pick [0, 1, 2] rfl (tX6_takeInTimes_110 n M v0 v1 v2 _ _ h)
    · replace h := ite_t c_3 h
      refine zr_aload_n (q := 94) dX6_takeInTimes_93 rfl rfl 0 rfl ?_
      refine zr_iload_n (q := 95) dX6_takeInTimes_94 rfl rfl 2 rfl ?_
      refine zr_bipush (q := 97) (v := 48) dX6_takeInTimes_95 rfl (by decide) ?_
      refine zr_isub (q := 98) dX6_takeInTimes_97 rfl ?_
      obtain ⟨c_4, h⟩ := chk_some h
      obtain ⟨M_5, e_6, h⟩ := app_some h
      refine zr_putI (q := 101) (ci := 6) (k := 12) dX6_takeInTimes_98 rfl (eq_of_beq c_4) rfl (by decide) rfl zbX6 tyX6_ok nmX6 (by decide) zb_246 (Or.inl rfl) rfl ?_
      refine zr_mem e_6 ?_
      refine zr_aload_n (q := 102) dX6_takeInTimes_101 rfl rfl 0 rfl ?_
      refine zr_bipush (q := 104) (v := 9) dX6_takeInTimes_102 rfl (by decide) ?_
      obtain ⟨c_7, h⟩ := chk_some h
      obtain ⟨M_8, e_9, h⟩ := app_some h
      refine zr_putI (q := 107) (ci := 6) (k := 5) dX6_takeInTimes_104 rfl (eq_of_beq c_7) rfl (by decide) rfl zbX6 tyX6_ok nmX6 (by decide) zb_197 (Or.inl rfl) rfl ?_
      refine zr_mem e_9 ?_
      refine zr_goto (q := 152) dX6_takeInTimes_107 (by decide) ?_
      cases h
      exact zr_return dX6_takeInTimes_152 rfl ⟨by decide, by decide⟩ ⟨rfl, rfl⟩
def fX6_takeInTimes_56 (n : Nat) (M : zM) (v0 : Nat) (v1 : Int32) (v2 : Int32) (v3 : Int32) : Option (Unit × zM) :=
  if v2 = (44 : Int32) then
    chk (mK M v0 == 6) <|
    if (mI M v0 5) = (7 : Int32) then
      chk (mK M v0 == 6) <|
      app (wI M v0 5 (8 : Int32)) fun M_5 : zM =>
      some ((), M_5)
    else
    fX6_takeInTimes_80 n M v0 v1 v2 v3
  else
  fX6_takeInTimes_80 n M v0 v1 v2 v3
set_option maxHeartbeats 4000000 in
theorem tX6_takeInTimes_56 (n : Nat) (M : zM) (v0 : Nat) (v1 : Int32) (v2 : Int32) (v3 : Int32) (r : Unit) (M' : zM) (h : fX6_takeInTimes_56 n M v0 v1 v2 v3 = some (r, M')) : zW uX6_takeInTimes none (0, 0) M 56 [(0, .ref v0), (1, .int v1), (2, .int v2), (3, .int v3)] [] (zE (oV r) M') := by
  unfold fX6_takeInTimes_56 at h
  refine zr_iload_n (q := 57) dX6_takeInTimes_56 rfl rfl 2 rfl ?_
  refine zr_bipush (q := 59) (v := 44) dX6_takeInTimes_57 rfl (by decide) ?_
  refine zr_icmp_ne (q := 62) (tgt := 80) dX6_takeInTimes_59 rfl (by decide) (fun c_1 => ?_) (fun c_1 => ?_)
  · replace h := ite_f c_1 h
    exact zr_pick [0, 1, 2, 3] rfl (tX6_takeInTimes_80 n M v0 v1 v2 v3 _ _ h)
  · replace h := ite_t c_1 h
    refine zr_aload_n (q := 63) dX6_takeInTimes_62 rfl rfl 0 rfl ?_
    obtain ⟨c_2, h⟩ := chk_some h
    refine zr_get (q := 66) (ci := 6) (k := 5) dX6_takeInTimes_63 rfl (eq_of_beq c_2) rfl (by decide) rfl zbX6 (by decide) zb_197 rfl ?_
    refine zr_bipush (q := 68) (v := 7) dX6_takeInTimes_66 rfl (by decide) ?_
    refine zr_icmp_ne (q := 71) (tgt := 80) dX6_takeInTimes_68 rfl (by decide) (fun c_3 => ?_) (fun c_3 => ?_)
    · replace h := ite_f c_3 h
      exact zr_pick [0, 1, 2, 3] rfl (tX6_takeInTimes_80 n M v0 v1 v2 v3 _ _ h)
    · replace h := ite_t c_3 h
      refine zr_aload_n (q := 72) dX6_takeInTimes_71 rfl rfl 0 rfl ?_
      refine zr_bipush (q := 74) (v := 8) dX6_takeInTimes_72 rfl (by decide) ?_
      obtain ⟨c_4, h⟩ := chk_some h
      obtain ⟨M_5, e_6, h⟩ := app_some h
      refine zr_putI (q := 77) (ci := 6) (k := 5) dX6_takeInTimes_74 rfl (eq_of_beq c_4) rfl (by decide) rfl zbX6 tyX6_ok nmX6 (by decide) zb_197 (Or.inl rfl) rfl ?_
      refine zr_mem e_6 ?_
      refine zr_goto (q := 152) dX6_takeInTimes_77 (by decide) ?_
      cases h
      exact zr_return dX6_takeInTimes_152 rfl ⟨by decide, by decide⟩ ⟨rfl, rfl⟩
def fX6_takeInTimes_17 (n : Nat) (M : zM) (v0 : Nat) (v1 : Int32) (v2 : Int32) (s0 : Int32) : Option (Unit × zM) :=
  if s0 = (0 : Int32) then
    fX6_takeInTimes_56 n M v0 v1 v2 s0
  else
  chk (mK M v0 == 6) <|
  if (mI M v0 5) = (6 : Int32) then
    chk (mK M v0 == 6) <|
    app (wI M v0 11 (v2 - (48 : Int32))) fun M_5 : zM =>
    chk (mK M_5 v0 == 6) <|
    chk (mK M_5 v0 == 6) <|
    app (wI M_5 v0 12 (mI M_5 v0 11)) fun M_9 : zM =>
    chk (mK M_9 v0 == 6) <|
    app (wI M_9 v0 5 (7 : Int32)) fun M_12 : zM =>
    some ((), M_12)
  else
  fX6_takeInTimes_56 n M v0 v1 v2 s0
set_option maxHeartbeats 4000000 in
theorem tX6_takeInTimes_17 (n : Nat) (M : zM) (v0 : Nat) (v1 : Int32) (v2 : Int32) (s0 : Int32) (r : Unit) (M' : zM) (h : fX6_takeInTimes_17 n M v0 v1 v2 s0 = some (r, M')) : zW uX6_takeInTimes none (0, 0) M 17 [(0, .ref v0), (1, .int v1), (2, .int v2)] [.int s0] (zE (oV r) M') := by
  unfold fX6_takeInTimes_17 at h
  refine zr_istore_n (q := 18) (L' := [(3, .int s0), (0, .ref v0), (1, .int v1), (2, .int v2)]) dX6_takeInTimes_17 rfl rfl (by decide) rfl ?_
  refine zr_iload_n (q := 19) dX6_takeInTimes_18 rfl rfl 0 rfl ?_
  refine zr_if_eq (q := 22) (tgt := 56) dX6_takeInTimes_19 rfl (by decide) (fun c_1 => ?_) (fun c_1 => ?_)
  · replace h := ite_t c_1 h
    exact zr_pick [1, 2, 3, 0] rfl (tX6_takeInTimes_56 n M v0 v1 v2 s0 _ _ h)
  · replace h := ite_f c_1 h
    refine zr_aload_n (q := 23) dX6_takeInTimes_22 rfl rfl 1 rfl ?_
    obtain ⟨c_2, h⟩ := chk_some h
    refine zr_get (q := 26) (ci := 6) (k := 5) dX6_takeInTimes_23 rfl (eq_of_beq c_2) rfl (by decide) rfl zbX6 (by decide) zb_197 rfl ?_
    refine zr_bipush (q := 28) (v := 6) dX6_takeInTimes_26 rfl (by decide) ?_
    refine zr_icmp_ne (q := 31) (tgt := 56) dX6_takeInTimes_28 rfl (by decide) (fun c_3 => ?_) (fun c_3 => ?_)
    · replace h := ite_f c_3 h
      exact zr_pick [1, 2, 3, 0] rfl (tX6_takeInTimes_56 n M v0 v1 v2 s0 _ _ h)
    · replace h := ite_t c_3 h
      refine zr_aload_n (q := 32) dX6_takeInTimes_31 rfl rfl 1 rfl ?_
      refine zr_iload_n (q := 33) dX6_takeInTimes_32 rfl rfl 3 rfl ?_
      refine zr_bipush (q := 35) (v := 48) dX6_takeInTimes_33 rfl (by decide) ?_
      refine zr_isub (q := 36) dX6_takeInTimes_35 rfl ?_
      obtain ⟨c_4, h⟩ := chk_some h
      obtain ⟨M_5, e_6, h⟩ := app_some h
      refine zr_putI (q := 39) (ci := 6) (k := 11) dX6_takeInTimes_36 rfl (eq_of_beq c_4) rfl (by decide) rfl zbX6 tyX6_ok nmX6 (by decide) zb_245 (Or.inl rfl) rfl ?_
      refine zr_mem e_6 ?_
      refine zr_aload_n (q := 40) dX6_takeInTimes_39 rfl rfl 1 rfl ?_
      refine zr_aload_n (q := 41) dX6_takeInTimes_40 rfl rfl 1 rfl ?_
      obtain ⟨c_7, h⟩ := chk_some h
      refine zr_get (q := 44) (ci := 6) (k := 11) dX6_takeInTimes_41 rfl (eq_of_beq c_7) rfl (by decide) rfl zbX6 (by decide) zb_245 rfl ?_
      obtain ⟨c_8, h⟩ := chk_some h
      obtain ⟨M_9, e_10, h⟩ := app_some h
      refine zr_putI (q := 47) (ci := 6) (k := 12) dX6_takeInTimes_44 rfl (eq_of_beq c_8) rfl (by decide) rfl zbX6 tyX6_ok nmX6 (by decide) zb_246 (Or.inl rfl) rfl ?_
      refine zr_mem e_10 ?_
      refine zr_aload_n (q := 48) dX6_takeInTimes_47 rfl rfl 1 rfl ?_
      refine zr_bipush (q := 50) (v := 7) dX6_takeInTimes_48 rfl (by decide) ?_
      obtain ⟨c_11, h⟩ := chk_some h
      obtain ⟨M_12, e_13, h⟩ := app_some h
      refine zr_putI (q := 53) (ci := 6) (k := 5) dX6_takeInTimes_50 rfl (eq_of_beq c_11) rfl (by decide) rfl zbX6 tyX6_ok nmX6 (by decide) zb_197 (Or.inl rfl) rfl ?_
      refine zr_mem e_13 ?_
      refine zr_goto (q := 152) dX6_takeInTimes_53 (by decide) ?_
      cases h
      exact zr_return dX6_takeInTimes_152 rfl ⟨by decide, by decide⟩ ⟨rfl, rfl⟩
def fX6_takeInTimes_16 (n : Nat) (M : zM) (v0 : Nat) (v1 : Int32) (v2 : Int32) : Option (Unit × zM) :=
  fX6_takeInTimes_17 n M v0 v1 v2 (0 : Int32)
set_option maxHeartbeats 4000000 in
theorem tX6_takeInTimes_16 (n : Nat) (M : zM) (v0 : Nat) (v1 : Int32) (v2 : Int32) (r : Unit) (M' : zM) (h : fX6_takeInTimes_16 n M v0 v1 v2 = some (r, M')) : zW uX6_takeInTimes none (0, 0) M 16 [(0, .ref v0), (1, .int v1), (2, .int v2)] [] (zE (oV r) M') := by
  unfold fX6_takeInTimes_16 at h
  refine zr_iconst (q := 17) (v := 0) dX6_takeInTimes_16 rfl (by decide) ?_
  exact zr_pick [0, 1, 2] rfl (tX6_takeInTimes_17 n M v0 v1 v2 (0 : Int32) _ _ h)
def fX6_takeInTimes (n : Nat) (M : zM) (v0 : Nat) (v1 : Int32) (v2 : Int32) : Option (Unit × zM) :=
  if v2 < (48 : Int32) then
    fX6_takeInTimes_16 n M v0 v1 v2
  else
  if (57 : Int32) < v2 then
    fX6_takeInTimes_16 n M v0 v1 v2
  else
  fX6_takeInTimes_17 n M v0 v1 v2 (1 : Int32)
set_option maxHeartbeats 4000000 in
theorem tX6_takeInTimes (n : Nat) (M : zM) (v0 : Nat) (v1 : Int32) (v2 : Int32) (r : Unit) (M' : zM) (h : fX6_takeInTimes n M v0 v1 v2 = some (r, M')) : zMet uX6_takeInTimes false M [.ref v0, .int v1, .int v2] (zE (oV r) M') := by
  refine zMet_of (L := [(0, .ref v0), (1, .int v1), (2, .int v2)]) (by decide +kernel) rfl rfl (Nat.le_of_ble_eq_true rfl) ?_
  show zW uX6_takeInTimes none (0, 0) M 0 [(0, .ref v0), (1, .int v1), (2, .int v2)] [] (zE (oV r) M')
  unfold fX6_takeInTimes at h
  refine zr_iload_n (q := 1) dX6_takeInTimes_0 rfl rfl 2 rfl ?_
  refine zr_bipush (q := 3) (v := 48) dX6_takeInTimes_1 rfl (by decide) ?_
  refine zr_icmp_lt (q := 6) (tgt := 16) dX6_takeInTimes_3 rfl (by decide) (fun c_1 => ?_) (fun c_1 => ?_)
  · replace h := ite_t c_1 h
    exact zr_pick [0, 1, 2] rfl (tX6_takeInTimes_16 n M v0 v1 v2 _ _ h)
  · replace h := ite_f c_1 h
    refine zr_iload_n (q := 7) dX6_takeInTimes_6 rfl rfl 2 rfl ?_
    refine zr_bipush (q := 9) (v := 57) dX6_takeInTimes_7 rfl (by decide) ?_
    refine zr_icmp_gt (q := 12) (tgt := 16) dX6_takeInTimes_9 rfl (by decide) (fun c_2 => ?_) (fun c_2 => ?_)
    · replace h := ite_t c_2 h
      exact zr_pick [0, 1, 2] rfl (tX6_takeInTimes_16 n M v0 v1 v2 _ _ h)
    · replace h := ite_f c_2 h
      refine zr_iconst (q := 13) (v := 1) dX6_takeInTimes_12 rfl (by decide) ?_
      refine zr_goto (q := 17) dX6_takeInTimes_13 (by decide) ?_
      exact zr_pick [0, 1, 2] rfl (tX6_takeInTimes_17 n M v0 v1 v2 (1 : Int32) _ _ h)

def uX6_layOut : zMu := (yX6_layOut, cX6_layOut, 4, (some .int), { frames := 5, cells := 0, slots := 0, locals := 120 }, [])
theorem zd_X6_layOut : (uY uX6_layOut).cls ≠ "java/lang/invoke/MethodHandle" ∧ (uY uX6_layOut).cls ≠ "java/lang/invoke/VarHandle" ∧ (parseMethodDescriptor (uY uX6_layOut).desc).map (fun d => d.parameters.length) = some 1 := by decide +kernel
def fX6_layOut_139 (n : Nat) (M : zM) (v0 : Nat) : Option (Int32 × zM) :=
  chk (mK M v0 == 6) <|
  app (wI M v0 0 (0 : Int32)) fun M_2 : zM =>
  chk (mK M_2 v0 == 6) <|
  some ((mI M_2 v0 4), M_2)
set_option maxHeartbeats 4000000 in
theorem tX6_layOut_139 (n : Nat) (M : zM) (v0 : Nat) (r : Int32) (M' : zM) (h : fX6_layOut_139 n M v0 = some (r, M')) : zW uX6_layOut none (0, 0) M 139 [(0, .ref v0)] [] (zE (oI r) M') := by
  unfold fX6_layOut_139 at h
  refine zr_aload_n (q := 140) dX6_layOut_139 rfl rfl 0 rfl ?_
  refine zr_iconst (q := 141) (v := 0) dX6_layOut_140 rfl (by decide) ?_
  obtain ⟨c_1, h⟩ := chk_some h
  obtain ⟨M_2, e_3, h⟩ := app_some h
  refine zr_putI (q := 144) (ci := 6) (k := 0) dX6_layOut_141 rfl (eq_of_beq c_1) rfl (by decide) rfl zbX6 tyX6_ok nmX6 (by decide) zb_183 (Or.inl rfl) rfl ?_
  refine zr_mem e_3 ?_
  refine zr_aload_n (q := 145) dX6_layOut_144 rfl rfl 0 rfl ?_
  obtain ⟨c_4, h⟩ := chk_some h
  refine zr_get (q := 148) (ci := 6) (k := 4) dX6_layOut_145 rfl (eq_of_beq c_4) rfl (by decide) rfl zbX6 (by decide) zb_187 rfl ?_
  cases h
  exact zr_ireturn dX6_layOut_148 rfl ⟨by decide, by decide⟩ ⟨rfl, rfl⟩
def fX6_layOut_125 (n : Nat) (M : zM) (v0 : Nat) : Option (Int32 × zM) :=
  chk (mK M v0 == 6) <|
  if (mI M v0 4) = (0 : Int32) then
    chk (mK M v0 == 6) <|
    bnd (mR M v0 3) fun a_4 =>
    chk (mK M a_4 == 3) <|
    bnd2 (fX3_finish n M a_4) fun r_6 M_7 =>
    fX6_layOut_139 n M_7 v0
  else
  fX6_layOut_139 n M v0
set_option maxHeartbeats 4000000 in
theorem tX6_layOut_125 (n : Nat) (M : zM) (v0 : Nat) (r : Int32) (M' : zM) (h : fX6_layOut_125 n M v0 = some (r, M')) : zW uX6_layOut none (0, 0) M 125 [(0, .ref v0)] [] (zE (oI r) M') := by
  unfold fX6_layOut_125 at h
  refine zr_aload_n (q := 126) dX6_layOut_125 rfl rfl 0 rfl ?_
  obtain ⟨c_1, h⟩ := chk_some h
  refine zr_get (q := 129) (ci := 6) (k := 4) dX6_layOut_126 rfl (eq_of_beq c_1) rfl (by decide) rfl zbX6 (by decide) zb_187 rfl ?_
  refine zr_if_ne (q := 132) (tgt := 139) dX6_layOut_129 rfl (by decide) (fun c_2 => ?_) (fun c_2 => ?_)
  · replace h := ite_f c_2 h
    exact zr_pick [0] rfl (tX6_layOut_139 n M v0 _ _ h)
  · replace h := ite_t c_2 h
    refine zr_aload_n (q := 133) dX6_layOut_132 rfl rfl 0 rfl ?_
    obtain ⟨c_3, h⟩ := chk_some h
    obtain ⟨a_4, e_5, h⟩ := bnd_some h
    refine zr_getr (q := 136) (ci := 6) (k := 3) dX6_layOut_133 rfl (eq_of_beq c_3) rfl (by decide) rfl zbX6 (by decide) zb_198 rfl e_5 ?_
    obtain ⟨c_9, h⟩ := chk_some h
    obtain ⟨r_6, M_7, hc_8, h⟩ := bnd2_some h
    refine zr_callVV (μ' := uX3_finish) (q := 139) (n := 0) (ci := 3) (As := []) (u' := (0, 0)) (tX3_finish n M a_4 _ _ hc_8) dX6_layOut_136 rfl rfl ⟨zb_255, zb_256, zb_257, zb_258, zb_123⟩ zd_X3_finish ⟨by decide, by decide⟩ ⟨by decide, by decide⟩ (eq_of_beq c_9) (by decide) rfl rfl rfl (Nat.le_of_ble_eq_true rfl) rfl rfl ?_
    exact zr_pick [0] rfl (tX6_layOut_139 n M_7 v0 _ _ h)
def fX6_layOut_116 (n : Nat) (M : zM) (v0 : Nat) : Option (Int32 × zM) :=
  chk (mK M v0 == 6) <|
  chk (mK M v0 == 6) <|
  bnd2 (fX6_fail n M v0 (2 : Int32) (mI M v0 0)) fun r_2 M_3 =>
  fX6_layOut_125 n M_3 v0
set_option maxHeartbeats 4000000 in
theorem tX6_layOut_116 (n : Nat) (M : zM) (v0 : Nat) (r : Int32) (M' : zM) (h : fX6_layOut_116 n M v0 = some (r, M')) : zW uX6_layOut none (0, 0) M 116 [(0, .ref v0)] [] (zE (oI r) M') := by
  unfold fX6_layOut_116 at h
  refine zr_aload_n (q := 117) dX6_layOut_116 rfl rfl 0 rfl ?_
  refine zr_iconst (q := 118) (v := 2) dX6_layOut_117 rfl (by decide) ?_
  refine zr_aload_n (q := 119) dX6_layOut_118 rfl rfl 0 rfl ?_
  obtain ⟨c_1, h⟩ := chk_some h
  refine zr_get (q := 122) (ci := 6) (k := 0) dX6_layOut_119 rfl (eq_of_beq c_1) rfl (by decide) rfl zbX6 (by decide) zb_183 rfl ?_
  obtain ⟨c_5, h⟩ := chk_some h
  obtain ⟨r_2, M_3, hc_4, h⟩ := bnd2_some h
  refine zr_callVV (μ' := uX6_fail) (q := 125) (n := 2) (ci := 6) (As := [.int (2 : Int32), .int (mI M v0 0)]) (u' := (0, 0)) (tX6_fail n M v0 (2 : Int32) (mI M v0 0) _ _ hc_4) dX6_layOut_122 rfl rfl ⟨zb_189, zb_190, zb_191, zb_192, zb_193⟩ zd_X6_fail ⟨by decide, by decide⟩ ⟨by decide, by decide⟩ (eq_of_beq c_5) (by decide) rfl rfl rfl (Nat.le_of_ble_eq_true rfl) rfl rfl ?_
  exact zr_pick [0] rfl (tX6_layOut_125 n M_3 v0 _ _ h)
def fX6_layOut_92 (n : Nat) (M : zM) (v0 : Nat) : Option (Int32 × zM) :=
  chk (mK M v0 == 6) <|
  if (mI M v0 4) = (0 : Int32) then
    chk (mK M v0 == 6) <|
    if (mI M v0 5) = (0 : Int32) then
      chk (mK M v0 == 6) <|
      bnd (mR M v0 3) fun a_6 =>
      chk (mK M a_6 == 3) <|
      if (mI M a_6 0) ≤ (0 : Int32) then
        fX6_layOut_125 n M v0
      else
      fX6_layOut_116 n M v0
    else
    fX6_layOut_116 n M v0
  else
  fX6_layOut_125 n M v0
set_option maxHeartbeats 4000000 in
theorem tX6_layOut_92 (n : Nat) (M : zM) (v0 : Nat) (r : Int32) (M' : zM) (h : fX6_layOut_92 n M v0 = some (r, M')) : zW uX6_layOut none (0, 0) M 92 [(0, .ref v0)] [] (zE (oI r) M') := by
  unfold fX6_layOut_92 at h
  refine zr_aload_n (q := 93) dX6_layOut_92 rfl rfl 0 rfl ?_
  obtain ⟨c_1, h⟩ := chk_some h
  refine zr_get (q := 96) (ci := 6) (k := 4) dX6_layOut_93 rfl (eq_of_beq c_1) rfl (by decide) rfl zbX6 (by decide) zb_187 rfl ?_
  refine zr_if_ne (q := 99) (tgt := 125) dX6_layOut_96 rfl (by decide) (fun c_2 => ?_) (fun c_2 => ?_)
  · replace h := ite_f c_2 h
    exact zr_pick [0] rfl (tX6_layOut_125 n M v0 _ _ h)
  · replace h := ite_t c_2 h
    refine zr_aload_n (q := 100) dX6_layOut_99 rfl rfl 0 rfl ?_
    obtain ⟨c_3, h⟩ := chk_some h
    refine zr_get (q := 103) (ci := 6) (k := 5) dX6_layOut_100 rfl (eq_of_beq c_3) rfl (by decide) rfl zbX6 (by decide) zb_197 rfl ?_
    refine zr_if_ne (q := 106) (tgt := 116) dX6_layOut_103 rfl (by decide) (fun c_4 => ?_) (fun c_4 => ?_)
    · replace h := ite_f c_4 h
      exact zr_pick [0] rfl (tX6_layOut_116 n M v0 _ _ h)
    · replace h := ite_t c_4 h
      refine zr_aload_n (q := 107) dX6_layOut_106 rfl rfl 0 rfl ?_
      obtain ⟨c_5, h⟩ := chk_some h
      obtain ⟨a_6, e_7, h⟩ := bnd_some h
      refine zr_getr (q := 110) (ci := 6) (k := 3) dX6_layOut_107 rfl (eq_of_beq c_5) rfl (by decide) rfl zbX6 (by decide) zb_198 rfl e_7 ?_
      obtain ⟨c_8, h⟩ := chk_some h
      refine zr_get (q := 113) (ci := 3) (k := 0) dX6_layOut_110 rfl (eq_of_beq c_8) rfl (by decide) rfl zbX3 (by decide) zb_214 rfl ?_
      refine zr_if_le (q := 116) (tgt := 125) dX6_layOut_113 rfl (by decide) (fun c_9 => ?_) (fun c_9 => ?_)
      · replace h := ite_t c_9 h
        exact zr_pick [0] rfl (tX6_layOut_125 n M v0 _ _ h)
      · replace h := ite_f c_9 h
        exact zr_pick [0] rfl (tX6_layOut_116 n M v0 _ _ h)
def fX6_layOut_86 (k25 : zM → Nat → Int32 → Option (Int32 × zM)) (n : Nat) (M : zM) (v0 : Nat) (v2 : Int32) : Option (Int32 × zM) :=
  app (v2 + (1 : Int32)) fun v2_1 : Int32 =>
  k25 M v0 v2_1
set_option maxHeartbeats 4000000 in
theorem tX6_layOut_86 (k25 : zM → Nat → Int32 → Option (Int32 × zM)) (h25 : ∀ (M : zM) (v0 : Nat) (v2 : Int32) (r : Int32) (M' : zM), k25 M v0 v2 = some (r, M') → zW uX6_layOut none (0, 0) M 25 [(0, .ref v0), (2, .int v2)] [] (zE (oI r) M')) (n : Nat) (M : zM) (v0 : Nat) (v2 : Int32) (r : Int32) (M' : zM) (h : fX6_layOut_86 k25 n M v0 v2 = some (r, M')) : zW uX6_layOut none (0, 0) M 86 [(0, .ref v0), (2, .int v2)] [] (zE (oI r) M') := by
  unfold fX6_layOut_86 at h
  obtain ⟨v2_1, e_2, h⟩ := app_some h
  refine zr_iinc (q := 89) (v := v2_1) (L' := [(2, .int v2_1), (0, .ref v0)]) dX6_layOut_86 rfl 1 rfl (by rw [← e_2]; rfl) (by decide) rfl ?_
  refine zr_goto (q := 25) dX6_layOut_89 (by decide) ?_
  exact zr_pick [1, 0] rfl (h25 M v0 v2_1 _ _ h)
def fX6_layOut_25 : Nat → zM → Nat → Int32 → Option (Int32 × zM)
  | 0, _, _, _ => none
  | n + 1, M, v0, v2 =>
    chk (mK M v0 == 6) <|
    if (mI M v0 0) ≤ v2 then
      fX6_layOut_92 n M v0
    else
    chk (mK M v0 == 6) <|
    if (mI M v0 4) = (0 : Int32) then
      chk (mK M v0 == 6) <|
      bnd (mR M v0 2) fun a_6 =>
      chk (mK M a_6 == 11) <|
      chk (zin v2 (mN M a_6)) <|
      app (mI M a_6 (Int32.toNatClampNeg v2)) fun v3_10 : Int32 =>
      chk (mK M v0 == 6) <|
      if (mI M v0 5) = (0 : Int32) then
        chk (mK M v0 == 6) <|
        bnd2 (fX6_takeInRow n M v0 v2 v3_10) fun r_24 M_25 =>
        fX6_layOut_86 (fX6_layOut_25 n) n M_25 v0 v2
      else
      chk (mK M v0 == 6) <|
      if (5 : Int32) < (mI M v0 5) then
        chk (mK M v0 == 6) <|
        bnd2 (fX6_takeInTimes n M v0 v2 v3_10) fun r_16 M_17 =>
        fX6_layOut_86 (fX6_layOut_25 n) n M_17 v0 v2
      else
      chk (mK M v0 == 6) <|
      bnd2 (fX6_takeInSet n M v0 v2 v3_10) fun r_20 M_21 =>
      fX6_layOut_86 (fX6_layOut_25 n) n M_21 v0 v2
    else
    fX6_layOut_92 n M v0
set_option maxHeartbeats 4000000 in
theorem tX6_layOut_25 : ∀ (n : Nat) (M : zM) (v0 : Nat) (v2 : Int32) (r : Int32) (M' : zM), fX6_layOut_25 n M v0 v2 = some (r, M') → zW uX6_layOut none (0, 0) M 25 [(0, .ref v0), (2, .int v2)] [] (zE (oI r) M') := by
  intro n
  induction n with
  | zero => intro M v0 v2 r M' h; cases h
  | succ n ih =>
    intro M v0 v2 r M' h
    rw [fX6_layOut_25] at h
    refine zr_iload_n (q := 26) dX6_layOut_25 rfl rfl 1 rfl ?_
    refine zr_aload_n (q := 27) dX6_layOut_26 rfl rfl 0 rfl ?_
    obtain ⟨c_1, h⟩ := chk_some h
    refine zr_get (q := 30) (ci := 6) (k := 0) dX6_layOut_27 rfl (eq_of_beq c_1) rfl (by decide) rfl zbX6 (by decide) zb_183 rfl ?_
    refine zr_icmp_ge (q := 33) (tgt := 92) dX6_layOut_30 rfl (by decide) (fun c_2 => ?_) (fun c_2 => ?_)
    · replace h := ite_t c_2 h
      exact zr_pick [0] rfl (tX6_layOut_92 n M v0 _ _ h)
    · replace h := ite_f c_2 h
      refine zr_aload_n (q := 34) dX6_layOut_33 rfl rfl 0 rfl ?_
      obtain ⟨c_3, h⟩ := chk_some h
      refine zr_get (q := 37) (ci := 6) (k := 4) dX6_layOut_34 rfl (eq_of_beq c_3) rfl (by decide) rfl zbX6 (by decide) zb_187 rfl ?_
      refine zr_if_ne (q := 40) (tgt := 92) dX6_layOut_37 rfl (by decide) (fun c_4 => ?_) (fun c_4 => ?_)
      · replace h := ite_f c_4 h
        exact zr_pick [0] rfl (tX6_layOut_92 n M v0 _ _ h)
      · replace h := ite_t c_4 h
        refine zr_aload_n (q := 41) dX6_layOut_40 rfl rfl 0 rfl ?_
        obtain ⟨c_5, h⟩ := chk_some h
        obtain ⟨a_6, e_7, h⟩ := bnd_some h
        refine zr_getr (q := 44) (ci := 6) (k := 2) dX6_layOut_41 rfl (eq_of_beq c_5) rfl (by decide) rfl zbX6 (by decide) zb_184 rfl e_7 ?_
        refine zr_iload_n (q := 45) dX6_layOut_44 rfl rfl 1 rfl ?_
        obtain ⟨c_8, h⟩ := chk_some h
        obtain ⟨c_9, h⟩ := chk_some h
        refine zr_iald (q := 46) dX6_layOut_45 rfl (eq_of_beq c_8) c_9 ?_
        obtain ⟨v3_10, e_11, h⟩ := app_some h
        refine zr_nmI e_11 ?_
        refine zr_istore_n (q := 47) (L' := [(3, .int v3_10), (0, .ref v0), (2, .int v2)]) dX6_layOut_46 rfl rfl (by decide) rfl ?_
        refine zr_aload_n (q := 48) dX6_layOut_47 rfl rfl 1 rfl ?_
        obtain ⟨c_12, h⟩ := chk_some h
        refine zr_get (q := 51) (ci := 6) (k := 5) dX6_layOut_48 rfl (eq_of_beq c_12) rfl (by decide) rfl zbX6 (by decide) zb_197 rfl ?_
        refine zr_if_ne (q := 54) (tgt := 63) dX6_layOut_51 rfl (by decide) (fun c_13 => ?_) (fun c_13 => ?_)
        · replace h := ite_f c_13 h
          refine zr_aload_n (q := 64) dX6_layOut_63 rfl rfl 1 rfl ?_
          obtain ⟨c_14, h⟩ := chk_some h
          refine zr_get (q := 67) (ci := 6) (k := 5) dX6_layOut_64 rfl (eq_of_beq c_14) rfl (by decide) rfl zbX6 (by decide) zb_197 rfl ?_
          refine zr_iconst (q := 68) (v := 5) dX6_layOut_67 rfl (by decide) ?_
          refine zr_icmp_gt (q := 71) (tgt := 80) dX6_layOut_68 rfl (by decide) (fun c_15 => ?_) (fun c_15 => ?_)
          · replace h := ite_t c_15 h
            refine zr_aload_n (q := 81) dX6_layOut_80 rfl rfl 1 rfl ?_
            refine zr_iload_n (q := 82) dX6_layOut_81 rfl rfl 2 rfl ?_
            refine zr_iload_n (q := 83) dX6_layOut_82 rfl rfl 0 rfl ?_
            obtain ⟨c_19, h⟩ := chk_some h
            obtain ⟨r_16, M_17, hc_18, h⟩ := bnd2_some h
            refine zr_callVV (μ' := uX6_takeInTimes) (q := 86) (n := 2) (ci := 6) (As := [.int v2, .int v3_10]) (u' := (0, 0)) (tX6_takeInTimes n M v0 v2 v3_10 _ _ hc_18) dX6_layOut_83 rfl rfl ⟨zb_259, zb_260, zb_261, zb_262, zb_193⟩ zd_X6_takeInTimes ⟨by decide, by decide⟩ ⟨by decide, by decide⟩ (eq_of_beq c_19) (by decide) rfl rfl rfl (Nat.le_of_ble_eq_true rfl) rfl rfl ?_
            exact zr_pick [1, 2] rfl (tX6_layOut_86 (fX6_layOut_25 n) ih n M_17 v0 v2 _ _ h)
          · replace h := ite_f c_15 h
            refine zr_aload_n (q := 72) dX6_layOut_71 rfl rfl 1 rfl ?_
            refine zr_iload_n (q := 73) dX6_layOut_72 rfl rfl 2 rfl ?_
            refine zr_iload_n (q := 74) dX6_layOut_73 rfl rfl 0 rfl ?_
            obtain ⟨c_23, h⟩ := chk_some h
            obtain ⟨r_20, M_21, hc_22, h⟩ := bnd2_some h
            refine zr_callVV (μ' := uX6_takeInSet) (q := 77) (n := 2) (ci := 6) (As := [.int v2, .int v3_10]) (u' := (0, 0)) (tX6_takeInSet n M v0 v2 v3_10 _ _ hc_22) dX6_layOut_74 rfl rfl ⟨zb_263, zb_264, zb_265, zb_266, zb_193⟩ zd_X6_takeInSet ⟨by decide, by decide⟩ ⟨by decide, by decide⟩ (eq_of_beq c_23) (by decide) rfl rfl rfl (Nat.le_of_ble_eq_true rfl) rfl rfl ?_
            refine zr_goto (q := 86) dX6_layOut_77 (by decide) ?_
            exact zr_pick [1, 2] rfl (tX6_layOut_86 (fX6_layOut_25 n) ih n M_21 v0 v2 _ _ h)
        · replace h := ite_t c_13 h
          refine zr_aload_n (q := 55) dX6_layOut_54 rfl rfl 1 rfl ?_
          refine zr_iload_n (q := 56) dX6_layOut_55 rfl rfl 2 rfl ?_
          refine zr_iload_n (q := 57) dX6_layOut_56 rfl rfl 0 rfl ?_
          obtain ⟨c_27, h⟩ := chk_some h
          obtain ⟨r_24, M_25, hc_26, h⟩ := bnd2_some h
          refine zr_callVV (μ' := uX6_takeInRow) (q := 60) (n := 2) (ci := 6) (As := [.int v2, .int v3_10]) (u' := (0, 0)) (tX6_takeInRow n M v0 v2 v3_10 _ _ hc_26) dX6_layOut_57 rfl rfl ⟨zb_267, zb_268, zb_269, zb_270, zb_193⟩ zd_X6_takeInRow ⟨by decide, by decide⟩ ⟨by decide, by decide⟩ (eq_of_beq c_27) (by decide) rfl rfl rfl (Nat.le_of_ble_eq_true rfl) rfl rfl ?_
          refine zr_goto (q := 86) dX6_layOut_60 (by decide) ?_
          exact zr_pick [1, 2] rfl (tX6_layOut_86 (fX6_layOut_25 n) ih n M_25 v0 v2 _ _ h)
def fX6_layOut (n : Nat) (M : zM) (v0 : Nat) (v1 : Nat) : Option (Int32 × zM) :=
  chk (mK M v0 == 6) <|
  app (wI M v0 4 (0 : Int32)) fun M_2 : zM =>
  chk (mK M_2 v0 == 6) <|
  app (wI M_2 v0 1 (-1 : Int32)) fun M_5 : zM =>
  chk (mK M_5 v0 == 6) <|
  app (wI M_5 v0 5 (0 : Int32)) fun M_8 : zM =>
  chk (mK M_8 v0 == 6) <|
  bnd (mR M_8 v0 3) fun a_11 =>
  chk (mK M_8 a_11 == 3) <|
  bnd2 (fX3_begin n M_8 a_11 v1) fun r_13 M_14 =>
  fX6_layOut_25 n M_14 v0 (0 : Int32)
set_option maxHeartbeats 4000000 in
theorem tX6_layOut (n : Nat) (M : zM) (v0 : Nat) (v1 : Nat) (r : Int32) (M' : zM) (h : fX6_layOut n M v0 v1 = some (r, M')) : zMet uX6_layOut false M [.ref v0, .ref v1] (zE (oI r) M') := by
  refine zMet_of (L := [(0, .ref v0), (1, .ref v1)]) (by decide +kernel) rfl rfl (Nat.le_of_ble_eq_true rfl) ?_
  show zW uX6_layOut none (0, 0) M 0 [(0, .ref v0), (1, .ref v1)] [] (zE (oI r) M')
  unfold fX6_layOut at h
  refine zr_aload_n (q := 1) dX6_layOut_0 rfl rfl 0 rfl ?_
  refine zr_iconst (q := 2) (v := 0) dX6_layOut_1 rfl (by decide) ?_
  obtain ⟨c_1, h⟩ := chk_some h
  obtain ⟨M_2, e_3, h⟩ := app_some h
  refine zr_putI (q := 5) (ci := 6) (k := 4) dX6_layOut_2 rfl (eq_of_beq c_1) rfl (by decide) rfl zbX6 tyX6_ok nmX6 (by decide) zb_187 (Or.inl rfl) rfl ?_
  refine zr_mem e_3 ?_
  refine zr_aload_n (q := 6) dX6_layOut_5 rfl rfl 0 rfl ?_
  refine zr_iconst (q := 7) (v := -1) dX6_layOut_6 rfl (by decide) ?_
  obtain ⟨c_4, h⟩ := chk_some h
  obtain ⟨M_5, e_6, h⟩ := app_some h
  refine zr_putI (q := 10) (ci := 6) (k := 1) dX6_layOut_7 rfl (eq_of_beq c_4) rfl (by decide) rfl zbX6 tyX6_ok nmX6 (by decide) zb_188 (Or.inl rfl) rfl ?_
  refine zr_mem e_6 ?_
  refine zr_aload_n (q := 11) dX6_layOut_10 rfl rfl 0 rfl ?_
  refine zr_iconst (q := 12) (v := 0) dX6_layOut_11 rfl (by decide) ?_
  obtain ⟨c_7, h⟩ := chk_some h
  obtain ⟨M_8, e_9, h⟩ := app_some h
  refine zr_putI (q := 15) (ci := 6) (k := 5) dX6_layOut_12 rfl (eq_of_beq c_7) rfl (by decide) rfl zbX6 tyX6_ok nmX6 (by decide) zb_197 (Or.inl rfl) rfl ?_
  refine zr_mem e_9 ?_
  refine zr_aload_n (q := 16) dX6_layOut_15 rfl rfl 0 rfl ?_
  obtain ⟨c_10, h⟩ := chk_some h
  obtain ⟨a_11, e_12, h⟩ := bnd_some h
  refine zr_getr (q := 19) (ci := 6) (k := 3) dX6_layOut_16 rfl (eq_of_beq c_10) rfl (by decide) rfl zbX6 (by decide) zb_198 rfl e_12 ?_
  refine zr_aload_n (q := 20) dX6_layOut_19 rfl rfl 1 rfl ?_
  obtain ⟨c_16, h⟩ := chk_some h
  obtain ⟨r_13, M_14, hc_15, h⟩ := bnd2_some h
  refine zr_callVV (μ' := uX3_begin) (q := 23) (n := 1) (ci := 3) (As := [.ref v1]) (u' := (0, 0)) (tX3_begin n M_8 a_11 v1 _ _ hc_15) dX6_layOut_20 rfl rfl ⟨zb_271, zb_272, zb_273, zb_274, zb_123⟩ zd_X3_begin ⟨by decide, by decide⟩ ⟨by decide, by decide⟩ (eq_of_beq c_16) (by decide) rfl rfl rfl (Nat.le_of_ble_eq_true rfl) rfl rfl ?_
  refine zr_iconst (q := 24) (v := 0) dX6_layOut_23 rfl (by decide) ?_
  refine zr_istore_n (q := 25) (L' := [(2, .int (0 : Int32)), (0, .ref v0), (1, .ref v1)]) dX6_layOut_24 rfl rfl (by decide) rfl ?_
  exact zr_pick [1, 0] rfl (tX6_layOut_25 n M_14 v0 (0 : Int32) _ _ h)
