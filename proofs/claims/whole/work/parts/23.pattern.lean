/-! by program: wip/decomp.py, wip/mk_code.py -/
def uX4_behindAny : zMu := (yX4_behindAny, cX4_behindAny, 6, (some .long), { frames := 1, cells := 0, slots := 0, locals := 22 }, [])
theorem zd_X4_behindAny : (uY uX4_behindAny).cls ≠ "java/lang/invoke/MethodHandle" ∧ (uY uX4_behindAny).cls ≠ "java/lang/invoke/VarHandle" ∧ (parseMethodDescriptor (uY uX4_behindAny).desc).map (fun d => d.parameters.length) = some 1 := by decide +kernel
def fX4_behindAny_33 (k5 : zM → Nat → Int64 → Int64 → Int32 → Option (Int64 × zM)) (n : Nat) (M : zM) (v0 : Nat) (v1 : Int64) (v3 : Int64) (v5 : Int32) : Option (Int64 × zM) :=
  app (v5 + (1 : Int32)) fun v5_1 : Int32 =>
  k5 M v0 v1 v3 v5_1
set_option maxHeartbeats 4000000 in
theorem tX4_behindAny_33 (k5 : zM → Nat → Int64 → Int64 → Int32 → Option (Int64 × zM)) (h5 : ∀ (M : zM) (v0 : Nat) (v1 : Int64) (v3 : Int64) (v5 : Int32) (r : Int64) (M' : zM), k5 M v0 v1 v3 v5 = some (r, M') → zW uX4_behindAny none (0, 0) M 5 [(0, .ref v0), (1, .long v1), (3, .long v3), (5, .int v5)] [] (zE (oL r) M')) (n : Nat) (M : zM) (v0 : Nat) (v1 : Int64) (v3 : Int64) (v5 : Int32) (r : Int64) (M' : zM) (h : fX4_behindAny_33 k5 n M v0 v1 v3 v5 = some (r, M')) : zW uX4_behindAny none (0, 0) M 33 [(0, .ref v0), (1, .long v1), (3, .long v3), (5, .int v5)] [] (zE (oL r) M') := by
  unfold fX4_behindAny_33 at h
  obtain ⟨v5_1, e_2, h⟩ := app_some h
  refine zr_iinc (q := 36) (v := v5_1) (L' := [(5, .int v5_1), (0, .ref v0), (1, .long v1), (3, .long v3)]) dX4_behindAny_33 rfl 3 rfl (by rw [← e_2]; rfl) (by decide) rfl ?_
  refine zr_goto (q := 5) dX4_behindAny_36 (by decide) ?_
  exact zr_pick [1, 2, 3, 0] rfl (h5 M v0 v1 v3 v5_1 _ _ h)
def fX4_behindAny_5 : Nat → zM → Nat → Int64 → Int64 → Int32 → Option (Int64 × zM)
  | 0, _, _, _, _, _ => none
  | n + 1, M, v0, v1, v3, v5 =>
    chk (mK M v0 == 4) <|
    if (mI M v0 0) ≤ v5 then
      some (v3, M)
    else
    bnd2 (fX9_holds n M v1 v5) fun r_3 M_4 =>
    if r_3 = (0 : Int32) then
      fX4_behindAny_33 (fX4_behindAny_5 n) n M_4 v0 v1 v3 v5
    else
    chk (mK M_4 v0 == 4) <|
    bnd (mR M_4 v0 4) fun a_8 =>
    chk (mK M_4 a_8 == 12) <|
    chk (zin v5 (mN M_4 a_8)) <|
    app (v3 ||| (mL M_4 a_8 (Int32.toNatClampNeg v5))) fun v3_12 : Int64 =>
    fX4_behindAny_33 (fX4_behindAny_5 n) n M_4 v0 v1 v3_12 v5
set_option maxHeartbeats 4000000 in
theorem tX4_behindAny_5 : ∀ (n : Nat) (M : zM) (v0 : Nat) (v1 : Int64) (v3 : Int64) (v5 : Int32) (r : Int64) (M' : zM), fX4_behindAny_5 n M v0 v1 v3 v5 = some (r, M') → zW uX4_behindAny none (0, 0) M 5 [(0, .ref v0), (1, .long v1), (3, .long v3), (5, .int v5)] [] (zE (oL r) M') := by
  intro n
  induction n with
  | zero => intro M v0 v1 v3 v5 r M' h; cases h
  | succ n ih =>
    intro M v0 v1 v3 v5 r M' h
    rw [fX4_behindAny_5] at h
    refine zr_iload (q := 7) dX4_behindAny_5 rfl 3 rfl ?_
    refine zr_aload_n (q := 8) dX4_behindAny_7 rfl rfl 0 rfl ?_
    obtain ⟨c_1, h⟩ := chk_some h
    refine zr_get (q := 11) (ci := 4) (k := 0) dX4_behindAny_8 rfl (eq_of_beq c_1) rfl (by decide) rfl zbX4 (by decide) zb_22 rfl ?_
    refine zr_icmp_ge (q := 14) (tgt := 39) dX4_behindAny_11 rfl (by decide) (fun c_2 => ?_) (fun c_2 => ?_)
    · replace h := ite_t c_2 h
      refine zr_lload_n (q := 40) dX4_behindAny_39 rfl rfl 2 rfl ?_
      cases h
      exact zr_lreturn dX4_behindAny_40 rfl ⟨by decide, by decide⟩ ⟨rfl, rfl⟩
    · replace h := ite_f c_2 h
      refine zr_lload_n (q := 15) dX4_behindAny_14 rfl rfl 1 rfl ?_
      refine zr_iload (q := 17) dX4_behindAny_15 rfl 3 rfl ?_
      obtain ⟨r_3, M_4, hc_5, h⟩ := bnd2_some h
      refine zr_callSNI (μ' := uX9_holds) (q := 20) (n := 2) (As := [.long v1, .int v5]) (u' := (0, 0)) (tX9_holds n M v1 v5 _ _ hc_5) dX4_behindAny_17 rfl rfl (by decide +kernel) ⟨zb_23, zb_24, zb_25⟩ zd_X9_holds ⟨by decide, by decide⟩ ⟨by decide, by decide⟩ rfl rfl (Nat.le_of_ble_eq_true rfl) rfl ?_
      refine zr_if_eq (q := 23) (tgt := 33) dX4_behindAny_20 rfl (by decide) (fun c_6 => ?_) (fun c_6 => ?_)
      · replace h := ite_t c_6 h
        exact zr_pick [0, 1, 2, 3] rfl (tX4_behindAny_33 (fX4_behindAny_5 n) ih n M_4 v0 v1 v3 v5 _ _ h)
      · replace h := ite_f c_6 h
        refine zr_lload_n (q := 24) dX4_behindAny_23 rfl rfl 2 rfl ?_
        refine zr_aload_n (q := 25) dX4_behindAny_24 rfl rfl 0 rfl ?_
        obtain ⟨c_7, h⟩ := chk_some h
        obtain ⟨a_8, e_9, h⟩ := bnd_some h
        refine zr_getr (q := 28) (ci := 4) (k := 4) dX4_behindAny_25 rfl (eq_of_beq c_7) rfl (by decide) rfl zbX4 (by decide) zb_26 rfl e_9 ?_
        refine zr_iload (q := 30) dX4_behindAny_28 rfl 3 rfl ?_
        obtain ⟨c_10, h⟩ := chk_some h
        obtain ⟨c_11, h⟩ := chk_some h
        refine zr_lald (q := 31) dX4_behindAny_30 rfl (eq_of_beq c_10) c_11 ?_
        refine zr_lor (q := 32) dX4_behindAny_31 rfl ?_
        obtain ⟨v3_12, e_13, h⟩ := app_some h
        refine zr_nmL e_13 ?_
        refine zr_lstore_n (q := 33) (L' := [(3, .long v3_12), (0, .ref v0), (1, .long v1), (5, .int v5)]) dX4_behindAny_32 rfl rfl (by decide) rfl ?_
        exact zr_pick [1, 2, 0, 3] rfl (tX4_behindAny_33 (fX4_behindAny_5 n) ih n M_4 v0 v1 v3_12 v5 _ _ h)
def fX4_behindAny (n : Nat) (M : zM) (v0 : Nat) (v1 : Int64) : Option (Int64 × zM) :=
  fX4_behindAny_5 n M v0 v1 (0 : Int64) (0 : Int32)
set_option maxHeartbeats 4000000 in
theorem tX4_behindAny (n : Nat) (M : zM) (v0 : Nat) (v1 : Int64) (r : Int64) (M' : zM) (h : fX4_behindAny n M v0 v1 = some (r, M')) : zMet uX4_behindAny false M [.ref v0, .long v1] (zE (oL r) M') := by
  refine zMet_of (L := [(0, .ref v0), (1, .long v1)]) (by decide +kernel) rfl rfl (Nat.le_of_ble_eq_true rfl) ?_
  show zW uX4_behindAny none (0, 0) M 0 [(0, .ref v0), (1, .long v1)] [] (zE (oL r) M')
  unfold fX4_behindAny at h
  refine zr_lconst (q := 1) (v := 0) dX4_behindAny_0 rfl (by decide) ?_
  refine zr_lstore_n (q := 2) (L' := [(3, .long (0 : Int64)), (0, .ref v0), (1, .long v1)]) dX4_behindAny_1 rfl rfl (by decide) rfl ?_
  refine zr_iconst (q := 3) (v := 0) dX4_behindAny_2 rfl (by decide) ?_
  refine zr_istore (q := 5) (L' := [(5, .int (0 : Int32)), (3, .long (0 : Int64)), (0, .ref v0), (1, .long v1)]) dX4_behindAny_3 rfl (by decide) rfl ?_
  exact zr_pick [2, 3, 1, 0] rfl (tX4_behindAny_5 n M v0 v1 (0 : Int64) (0 : Int32) _ _ h)

def uX4_wipe : zMu := (yX4_wipe, cX4_wipe, 1, none, { frames := 0, cells := 0, slots := 0, locals := 0 }, [])
theorem zd_X4_wipe : (uY uX4_wipe).cls ≠ "java/lang/invoke/MethodHandle" ∧ (uY uX4_wipe).cls ≠ "java/lang/invoke/VarHandle" ∧ (parseMethodDescriptor (uY uX4_wipe).desc).map (fun d => d.parameters.length) = some 0 := by decide +kernel
def fX4_wipe (n : Nat) (M : zM) (v0 : Nat) : Option (Unit × zM) :=
  chk (mK M v0 == 4) <|
  app (wI M v0 0 (0 : Int32)) fun M_2 : zM =>
  chk (mK M_2 v0 == 4) <|
  bnd (mR M_2 v0 7) fun a_5 =>
  chk (mK M_2 a_5 == 0) <|
  app (wI M_2 a_5 0 (0 : Int32)) fun M_8 : zM =>
  some ((), M_8)
set_option maxHeartbeats 4000000 in
theorem tX4_wipe (n : Nat) (M : zM) (v0 : Nat) (r : Unit) (M' : zM) (h : fX4_wipe n M v0 = some (r, M')) : zMet uX4_wipe false M [.ref v0] (zE (oV r) M') := by
  refine zMet_of (L := [(0, .ref v0)]) (by decide +kernel) rfl rfl (Nat.le_of_ble_eq_true rfl) ?_
  show zW uX4_wipe none (0, 0) M 0 [(0, .ref v0)] [] (zE (oV r) M')
  unfold fX4_wipe at h
  refine zr_aload_n (q := 1) dX4_wipe_0 rfl rfl 0 rfl ?_
  refine zr_iconst (q := 2) (v := 0) dX4_wipe_1 rfl (by decide) ?_
  obtain ⟨c_1, h⟩ := chk_some h
  obtain ⟨M_2, e_3, h⟩ := app_some h
  refine zr_putI (q := 5) (ci := 4) (k := 0) dX4_wipe_2 rfl (eq_of_beq c_1) rfl (by decide) rfl zbX4 tyX4_ok nmX4 (by decide) zb_22 (Or.inl rfl) rfl ?_
  refine zr_mem e_3 ?_
  refine zr_aload_n (q := 6) dX4_wipe_5 rfl rfl 0 rfl ?_
  obtain ⟨c_4, h⟩ := chk_some h
  obtain ⟨a_5, e_6, h⟩ := bnd_some h
  refine zr_getr (q := 9) (ci := 4) (k := 7) dX4_wipe_6 rfl (eq_of_beq c_4) rfl (by decide) rfl zbX4 (by decide) zb_102 rfl e_6 ?_
  refine zr_iconst (q := 10) (v := 0) dX4_wipe_9 rfl (by decide) ?_
  obtain ⟨c_7, h⟩ := chk_some h
  obtain ⟨M_8, e_9, h⟩ := app_some h
  refine zr_putZ (q := 13) (ci := 0) (k := 0) dX4_wipe_10 rfl (eq_of_beq c_7) rfl (by decide) rfl zbX0 tyX0_ok nmX0 (by decide) zb_103 (Or.inl rfl) rfl (Or.inl rfl) ?_
  refine zr_mem e_9 ?_
  cases h
  exact zr_return dX4_wipe_13 rfl ⟨by decide, by decide⟩ ⟨rfl, rfl⟩

def uX4_connect : zMu := (yX4_connect, cX4_connect, 6, none, { frames := 0, cells := 0, slots := 0, locals := 0 }, [])
theorem zd_X4_connect : (uY uX4_connect).cls ≠ "java/lang/invoke/MethodHandle" ∧ (uY uX4_connect).cls ≠ "java/lang/invoke/VarHandle" ∧ (parseMethodDescriptor (uY uX4_connect).desc).map (fun d => d.parameters.length) = some 2 := by decide +kernel
def fX4_connect_34 (k3 : zM → Nat → Int64 → Int64 → Int32 → Option (Unit × zM)) (n : Nat) (M : zM) (v0 : Nat) (v1 : Int64) (v3 : Int64) (v5 : Int32) : Option (Unit × zM) :=
  app (v5 + (1 : Int32)) fun v5_1 : Int32 =>
  k3 M v0 v1 v3 v5_1
set_option maxHeartbeats 4000000 in
theorem tX4_connect_34 (k3 : zM → Nat → Int64 → Int64 → Int32 → Option (Unit × zM)) (h3 : ∀ (M : zM) (v0 : Nat) (v1 : Int64) (v3 : Int64) (v5 : Int32) (r : Unit) (M' : zM), k3 M v0 v1 v3 v5 = some (r, M') → zW uX4_connect none (0, 0) M 3 [(0, .ref v0), (1, .long v1), (3, .long v3), (5, .int v5)] [] (zE (oV r) M')) (n : Nat) (M : zM) (v0 : Nat) (v1 : Int64) (v3 : Int64) (v5 : Int32) (r : Unit) (M' : zM) (h : fX4_connect_34 k3 n M v0 v1 v3 v5 = some (r, M')) : zW uX4_connect none (0, 0) M 34 [(0, .ref v0), (1, .long v1), (3, .long v3), (5, .int v5)] [] (zE (oV r) M') := by
  unfold fX4_connect_34 at h
  obtain ⟨v5_1, e_2, h⟩ := app_some h
  refine zr_iinc (q := 37) (v := v5_1) (L' := [(5, .int v5_1), (0, .ref v0), (1, .long v1), (3, .long v3)]) dX4_connect_34 rfl 3 rfl (by rw [← e_2]; rfl) (by decide) rfl ?_
  refine zr_goto (q := 3) dX4_connect_37 (by decide) ?_
  exact zr_pick [1, 2, 3, 0] rfl (h3 M v0 v1 v3 v5_1 _ _ h)
def fX4_connect_3 : Nat → zM → Nat → Int64 → Int64 → Int32 → Option (Unit × zM)
  | 0, _, _, _, _, _ => none
  | n + 1, M, v0, v1, v3, v5 =>
    chk (mK M v0 == 4) <|
    if (mI M v0 0) ≤ v5 then
      some ((), M)
    else
    if (lg_cmp ((jushr v1 v5) &&& (1 : Int64)) (0 : Int64)) = (0 : Int32) then
      fX4_connect_34 (fX4_connect_3 n) n M v0 v1 v3 v5
    else
    chk (mK M v0 == 4) <|
    bnd (mR M v0 4) fun a_5 =>
    chk (mK M a_5 == 12) <|
    chk (zin v5 (mN M a_5)) <|
    chk (mK M a_5 == 12) <|
    chk (zin v5 (mN M a_5)) <|
    app (wL M a_5 (Int32.toNatClampNeg v5) ((mL M a_5 (Int32.toNatClampNeg v5)) ||| v3)) fun M_11 : zM =>
    fX4_connect_34 (fX4_connect_3 n) n M_11 v0 v1 v3 v5
set_option maxHeartbeats 4000000 in
theorem tX4_connect_3 : ∀ (n : Nat) (M : zM) (v0 : Nat) (v1 : Int64) (v3 : Int64) (v5 : Int32) (r : Unit) (M' : zM), fX4_connect_3 n M v0 v1 v3 v5 = some (r, M') → zW uX4_connect none (0, 0) M 3 [(0, .ref v0), (1, .long v1), (3, .long v3), (5, .int v5)] [] (zE (oV r) M') := by
  intro n
  induction n with
  | zero => intro M v0 v1 v3 v5 r M' h; cases h
  | succ n ih =>
    intro M v0 v1 v3 v5 r M' h
    rw [fX4_connect_3] at h
    refine zr_iload (q := 5) dX4_connect_3 rfl 3 rfl ?_
    refine zr_aload_n (q := 6) dX4_connect_5 rfl rfl 0 rfl ?_
    obtain ⟨c_1, h⟩ := chk_some h
    refine zr_get (q := 9) (ci := 4) (k := 0) dX4_connect_6 rfl (eq_of_beq c_1) rfl (by decide) rfl zbX4 (by decide) zb_22 rfl ?_
    refine zr_icmp_ge (q := 12) (tgt := 40) dX4_connect_9 rfl (by decide) (fun c_2 => ?_) (fun c_2 => ?_)
    · replace h := ite_t c_2 h
      cases h
      exact zr_return dX4_connect_40 rfl ⟨by decide, by decide⟩ ⟨rfl, rfl⟩
    · replace h := ite_f c_2 h
      refine zr_lload_n (q := 13) dX4_connect_12 rfl rfl 1 rfl ?_
      refine zr_iload (q := 15) dX4_connect_13 rfl 3 rfl ?_
      refine zr_lushr (q := 16) dX4_connect_15 rfl ?_
      refine zr_lconst (q := 17) (v := 1) dX4_connect_16 rfl (by decide) ?_
      refine zr_land (q := 18) dX4_connect_17 rfl ?_
      refine zr_lconst (q := 19) (v := 0) dX4_connect_18 rfl (by decide) ?_
      refine zr_lcmp (q := 20) dX4_connect_19 rfl ?_
      refine zr_if_eq (q := 23) (tgt := 34) dX4_connect_20 rfl (by decide) (fun c_3 => ?_) (fun c_3 => ?_)
      · replace h := ite_t c_3 h
        exact zr_pick [0, 1, 2, 3] rfl (tX4_connect_34 (fX4_connect_3 n) ih n M v0 v1 v3 v5 _ _ h)
      · replace h := ite_f c_3 h
        refine zr_aload_n (q := 24) dX4_connect_23 rfl rfl 0 rfl ?_
        obtain ⟨c_4, h⟩ := chk_some h
        obtain ⟨a_5, e_6, h⟩ := bnd_some h
        refine zr_getr (q := 27) (ci := 4) (k := 4) dX4_connect_24 rfl (eq_of_beq c_4) rfl (by decide) rfl zbX4 (by decide) zb_26 rfl e_6 ?_
        refine zr_iload (q := 29) dX4_connect_27 rfl 3 rfl ?_
        refine zr_dup2 (q := 30) dX4_connect_29 rfl rfl rfl ?_
        obtain ⟨c_7, h⟩ := chk_some h
        obtain ⟨c_8, h⟩ := chk_some h
        refine zr_lald (q := 31) dX4_connect_30 rfl (eq_of_beq c_7) c_8 ?_
        refine zr_lload_n (q := 32) dX4_connect_31 rfl rfl 2 rfl ?_
        refine zr_lor (q := 33) dX4_connect_32 rfl ?_
        obtain ⟨c_9, h⟩ := chk_some h
        obtain ⟨c_10, h⟩ := chk_some h
        obtain ⟨M_11, e_12, h⟩ := app_some h
        refine zr_last (q := 34) dX4_connect_33 rfl (eq_of_beq c_9) c_10 ?_
        refine zr_mem e_12 ?_
        exact zr_pick [0, 1, 2, 3] rfl (tX4_connect_34 (fX4_connect_3 n) ih n M_11 v0 v1 v3 v5 _ _ h)
def fX4_connect (n : Nat) (M : zM) (v0 : Nat) (v1 : Int64) (v3 : Int64) : Option (Unit × zM) :=
  fX4_connect_3 n M v0 v1 v3 (0 : Int32)
set_option maxHeartbeats 4000000 in
theorem tX4_connect (n : Nat) (M : zM) (v0 : Nat) (v1 : Int64) (v3 : Int64) (r : Unit) (M' : zM) (h : fX4_connect n M v0 v1 v3 = some (r, M')) : zMet uX4_connect false M [.ref v0, .long v1, .long v3] (zE (oV r) M') := by
  refine zMet_of (L := [(0, .ref v0), (1, .long v1), (3, .long v3)]) (by decide +kernel) rfl rfl (Nat.le_of_ble_eq_true rfl) ?_
  show zW uX4_connect none (0, 0) M 0 [(0, .ref v0), (1, .long v1), (3, .long v3)] [] (zE (oV r) M')
  unfold fX4_connect at h
  refine zr_iconst (q := 1) (v := 0) dX4_connect_0 rfl (by decide) ?_
  refine zr_istore (q := 3) (L' := [(5, .int (0 : Int32)), (0, .ref v0), (1, .long v1), (3, .long v3)]) dX4_connect_1 rfl (by decide) rfl ?_
  exact zr_pick [1, 2, 3, 0] rfl (tX4_connect_3 n M v0 v1 v3 (0 : Int32) _ _ h)

def uX4_addPosition : zMu := (yX4_addPosition, cX4_addPosition, 3, none, { frames := 0, cells := 0, slots := 0, locals := 0 }, [])
theorem zd_X4_addPosition : (uY uX4_addPosition).cls ≠ "java/lang/invoke/MethodHandle" ∧ (uY uX4_addPosition).cls ≠ "java/lang/invoke/VarHandle" ∧ (parseMethodDescriptor (uY uX4_addPosition).desc).map (fun d => d.parameters.length) = some 1 := by decide +kernel
def fX4_addPosition (n : Nat) (M : zM) (v0 : Nat) (v1 : Int64) : Option (Unit × zM) :=
  chk (mK M v0 == 4) <|
  bnd (mR M v0 5) fun a_2 =>
  chk (mK M v0 == 4) <|
  chk (mK M a_2 == 12) <|
  chk (zin (mI M v0 0) (mN M a_2)) <|
  app (wL M a_2 (Int32.toNatClampNeg (mI M v0 0)) v1) fun M_7 : zM =>
  chk (mK M_7 v0 == 4) <|
  bnd (mR M_7 v0 4) fun a_10 =>
  chk (mK M_7 v0 == 4) <|
  chk (mK M_7 a_10 == 12) <|
  chk (zin (mI M_7 v0 0) (mN M_7 a_10)) <|
  app (wL M_7 a_10 (Int32.toNatClampNeg (mI M_7 v0 0)) (0 : Int64)) fun M_15 : zM =>
  chk (mK M_15 v0 == 4) <|
  chk (mK M_15 v0 == 4) <|
  app (wI M_15 v0 0 ((mI M_15 v0 0) + (1 : Int32))) fun M_19 : zM =>
  some ((), M_19)
set_option maxHeartbeats 4000000 in
theorem tX4_addPosition (n : Nat) (M : zM) (v0 : Nat) (v1 : Int64) (r : Unit) (M' : zM) (h : fX4_addPosition n M v0 v1 = some (r, M')) : zMet uX4_addPosition false M [.ref v0, .long v1] (zE (oV r) M') := by
  refine zMet_of (L := [(0, .ref v0), (1, .long v1)]) (by decide +kernel) rfl rfl (Nat.le_of_ble_eq_true rfl) ?_
  show zW uX4_addPosition none (0, 0) M 0 [(0, .ref v0), (1, .long v1)] [] (zE (oV r) M')
  unfold fX4_addPosition at h
  refine zr_aload_n (q := 1) dX4_addPosition_0 rfl rfl 0 rfl ?_
  obtain ⟨c_1, h⟩ := chk_some h
  obtain ⟨a_2, e_3, h⟩ := bnd_some h
  refine zr_getr (q := 4) (ci := 4) (k := 5) dX4_addPosition_1 rfl (eq_of_beq c_1) rfl (by decide) rfl zbX4 (by decide) zb_149 rfl e_3 ?_
  refine zr_aload_n (q := 5) dX4_addPosition_4 rfl rfl 0 rfl ?_
  obtain ⟨c_4, h⟩ := chk_some h
  refine zr_get (q := 8) (ci := 4) (k := 0) dX4_addPosition_5 rfl (eq_of_beq c_4) rfl (by decide) rfl zbX4 (by decide) zb_22 rfl ?_
  refine zr_lload_n (q := 9) dX4_addPosition_8 rfl rfl 1 rfl ?_
  obtain ⟨c_5, h⟩ := chk_some h
  obtain ⟨c_6, h⟩ := chk_some h
  obtain ⟨M_7, e_8, h⟩ := app_some h
  refine zr_last (q := 10) dX4_addPosition_9 rfl (eq_of_beq c_5) c_6 ?_
  refine zr_mem e_8 ?_
  refine zr_aload_n (q := 11) dX4_addPosition_10 rfl rfl 0 rfl ?_
  obtain ⟨c_9, h⟩ := chk_some h
  obtain ⟨a_10, e_11, h⟩ := bnd_some h
  refine zr_getr (q := 14) (ci := 4) (k := 4) dX4_addPosition_11 rfl (eq_of_beq c_9) rfl (by decide) rfl zbX4 (by decide) zb_26 rfl e_11 ?_
  refine zr_aload_n (q := 15) dX4_addPosition_14 rfl rfl 0 rfl ?_
  obtain ⟨c_12, h⟩ := chk_some h
  refine zr_get (q := 18) (ci := 4) (k := 0) dX4_addPosition_15 rfl (eq_of_beq c_12) rfl (by decide) rfl zbX4 (by decide) zb_22 rfl ?_
  refine zr_lconst (q := 19) (v := 0) dX4_addPosition_18 rfl (by decide) ?_
  obtain ⟨c_13, h⟩ := chk_some h
  obtain ⟨c_14, h⟩ := chk_some h
  obtain ⟨M_15, e_16, h⟩ := app_some h
  refine zr_last (q := 20) dX4_addPosition_19 rfl (eq_of_beq c_13) c_14 ?_
  refine zr_mem e_16 ?_
  refine zr_aload_n (q := 21) dX4_addPosition_20 rfl rfl 0 rfl ?_
  refine zr_dup (q := 22) dX4_addPosition_21 rfl rfl ?_
  obtain ⟨c_17, h⟩ := chk_some h
  refine zr_get (q := 25) (ci := 4) (k := 0) dX4_addPosition_22 rfl (eq_of_beq c_17) rfl (by decide) rfl zbX4 (by decide) zb_22 rfl ?_
  refine zr_iconst (q := 26) (v := 1) dX4_addPosition_25 rfl (by decide) ?_
  refine zr_iadd (q := 27) dX4_addPosition_26 rfl ?_
  obtain ⟨c_18, h⟩ := chk_some h
  obtain ⟨M_19, e_20, h⟩ := app_some h
  refine zr_putI (q := 30) (ci := 4) (k := 0) dX4_addPosition_27 rfl (eq_of_beq c_18) rfl (by decide) rfl zbX4 tyX4_ok nmX4 (by decide) zb_22 (Or.inl rfl) rfl ?_
  refine zr_mem e_20 ?_
  cases h
  exact zr_return dX4_addPosition_30 rfl ⟨by decide, by decide⟩ ⟨rfl, rfl⟩

def uX4_copyPositions : zMu := (yX4_copyPositions, cX4_copyPositions, 6, none, { frames := 0, cells := 0, slots := 0, locals := 0 }, [])
theorem zd_X4_copyPositions : (uY uX4_copyPositions).cls ≠ "java/lang/invoke/MethodHandle" ∧ (uY uX4_copyPositions).cls ≠ "java/lang/invoke/VarHandle" ∧ (parseMethodDescriptor (uY uX4_copyPositions).desc).map (fun d => d.parameters.length) = some 2 := by decide +kernel
def fX4_copyPositions_19 (k10 : zM → Nat → Int32 → Int32 → Int32 → Int32 → Option (Unit × zM)) : Nat → zM → Nat → Int32 → Int32 → Int32 → Int32 → Int32 → Option (Unit × zM)
  | 0, _, _, _, _, _, _, _ => none
  | n + 1, M, v0, v1, v2, v3, v4, v5 =>
    if (v1 + v3) ≤ v5 then
      app (v4 + (1 : Int32)) fun v4_2 : Int32 =>
      k10 M v0 v1 v2 v3 v4_2
    else
    chk (mK M v0 == 4) <|
    bnd (mR M v0 5) fun a_5 =>
    chk (mK M v0 == 4) <|
    bnd (mR M v0 5) fun a_8 =>
    chk (mK M a_8 == 12) <|
    chk (zin v5 (mN M a_8)) <|
    chk (mK M a_5 == 12) <|
    chk (zin (v5 + (v4 * v3)) (mN M a_5)) <|
    app (wL M a_5 (Int32.toNatClampNeg (v5 + (v4 * v3))) (mL M a_8 (Int32.toNatClampNeg v5))) fun M_14 : zM =>
    chk (mK M_14 v0 == 4) <|
    bnd (mR M_14 v0 4) fun a_17 =>
    chk (mK M_14 v0 == 4) <|
    bnd (mR M_14 v0 4) fun a_20 =>
    chk (mK M_14 a_20 == 12) <|
    chk (zin v5 (mN M_14 a_20)) <|
    chk (mK M_14 a_17 == 12) <|
    chk (zin (v5 + (v4 * v3)) (mN M_14 a_17)) <|
    app (wL M_14 a_17 (Int32.toNatClampNeg (v5 + (v4 * v3))) (jshl (mL M_14 a_20 (Int32.toNatClampNeg v5)) (v4 * v3))) fun M_26 : zM =>
    app (v5 + (1 : Int32)) fun v5_28 : Int32 =>
    (fX4_copyPositions_19 k10 n) M_26 v0 v1 v2 v3 v4 v5_28
set_option maxHeartbeats 4000000 in
theorem tX4_copyPositions_19 (k10 : zM → Nat → Int32 → Int32 → Int32 → Int32 → Option (Unit × zM)) (h10 : ∀ (M : zM) (v0 : Nat) (v1 : Int32) (v2 : Int32) (v3 : Int32) (v4 : Int32) (r : Unit) (M' : zM), k10 M v0 v1 v2 v3 v4 = some (r, M') → zW uX4_copyPositions none (0, 0) M 10 [(0, .ref v0), (1, .int v1), (2, .int v2), (3, .int v3), (4, .int v4)] [] (zE (oV r) M')) : ∀ (n : Nat) (M : zM) (v0 : Nat) (v1 : Int32) (v2 : Int32) (v3 : Int32) (v4 : Int32) (v5 : Int32) (r : Unit) (M' : zM), fX4_copyPositions_19 k10 n M v0 v1 v2 v3 v4 v5 = some (r, M') → zW uX4_copyPositions none (0, 0) M 19 [(0, .ref v0), (1, .int v1), (2, .int v2), (3, .int v3), (4, .int v4), (5, .int v5)] [] (zE (oV r) M') := by
  intro n
  induction n with
  | zero => intro M v0 v1 v2 v3 v4 v5 r M' h; cases h
  | succ n ih =>
    intro M v0 v1 v2 v3 v4 v5 r M' h
    rw [fX4_copyPositions_19] at h
    refine zr_iload (q := 21) dX4_copyPositions_19 rfl 5 rfl ?_
    refine zr_iload_n (q := 22) dX4_copyPositions_21 rfl rfl 1 rfl ?_
    refine zr_iload_n (q := 23) dX4_copyPositions_22 rfl rfl 3 rfl ?_
    refine zr_iadd (q := 24) dX4_copyPositions_23 rfl ?_
    refine zr_icmp_ge (q := 27) (tgt := 76) dX4_copyPositions_24 rfl (by decide) (fun c_1 => ?_) (fun c_1 => ?_)
    · replace h := ite_t c_1 h
      obtain ⟨v4_2, e_3, h⟩ := app_some h
      refine zr_iinc (q := 79) (v := v4_2) (L' := [(4, .int v4_2), (0, .ref v0), (1, .int v1), (2, .int v2), (3, .int v3), (5, .int v5)]) dX4_copyPositions_76 rfl 4 rfl (by rw [← e_3]; rfl) (by decide) rfl ?_
      refine zr_goto (q := 10) dX4_copyPositions_79 (by decide) ?_
      exact zr_pick [1, 2, 3, 4, 0] rfl (h10 M v0 v1 v2 v3 v4_2 _ _ h)
    · replace h := ite_f c_1 h
      refine zr_aload_n (q := 28) dX4_copyPositions_27 rfl rfl 0 rfl ?_
      obtain ⟨c_4, h⟩ := chk_some h
      obtain ⟨a_5, e_6, h⟩ := bnd_some h
      refine zr_getr (q := 31) (ci := 4) (k := 5) dX4_copyPositions_28 rfl (eq_of_beq c_4) rfl (by decide) rfl zbX4 (by decide) zb_149 rfl e_6 ?_
      refine zr_iload (q := 33) dX4_copyPositions_31 rfl 5 rfl ?_
      refine zr_iload (q := 35) dX4_copyPositions_33 rfl 4 rfl ?_
      refine zr_iload_n (q := 36) dX4_copyPositions_35 rfl rfl 3 rfl ?_
      refine zr_imul (q := 37) dX4_copyPositions_36 rfl ?_
      refine zr_iadd (q := 38) dX4_copyPositions_37 rfl ?_
      refine zr_aload_n (q := 39) dX4_copyPositions_38 rfl rfl 0 rfl ?_
      obtain ⟨c_7, h⟩ := chk_some h
      obtain ⟨a_8, e_9, h⟩ := bnd_some h
      refine zr_getr (q := 42) (ci := 4) (k := 5) dX4_copyPositions_39 rfl (eq_of_beq c_7) rfl (by decide) rfl zbX4 (by decide) zb_149 rfl e_9 ?_
      refine zr_iload (q := 44) dX4_copyPositions_42 rfl 5 rfl ?_
      obtain ⟨c_10, h⟩ := chk_some h
      obtain ⟨c_11, h⟩ := chk_some h
      refine zr_lald (q := 45) dX4_copyPositions_44 rfl (eq_of_beq c_10) c_11 ?_
      obtain ⟨c_12, h⟩ := chk_some h
      obtain ⟨c_13, h⟩ := chk_some h
      obtain ⟨M_14, e_15, h⟩ := app_some h
      refine zr_last (q := 46) dX4_copyPositions_45 rfl (eq_of_beq c_12) c_13 ?_
      refine zr_mem e_15 ?_
      refine zr_aload_n (q := 47) dX4_copyPositions_46 rfl rfl 0 rfl ?_
      obtain ⟨c_16, h⟩ := chk_some h
      obtain ⟨a_17, e_18, h⟩ := bnd_some h
      refine zr_getr (q := 50) (ci := 4) (k := 4) dX4_copyPositions_47 rfl (eq_of_beq c_16) rfl (by decide) rfl zbX4 (by decide) zb_26 rfl e_18 ?_
      refine zr_iload (q := 52) dX4_copyPositions_50 rfl 5 rfl ?_
      refine zr_iload (q := 54) dX4_copyPositions_52 rfl 4 rfl ?_
      refine zr_iload_n (q := 55) dX4_copyPositions_54 rfl rfl 3 rfl ?_
      refine zr_imul (q := 56) dX4_copyPositions_55 rfl ?_
      refine zr_iadd (q := 57) dX4_copyPositions_56 rfl ?_
      refine zr_aload_n (q := 58) dX4_copyPositions_57 rfl rfl 0 rfl ?_
      obtain ⟨c_19, h⟩ := chk_some h
      obtain ⟨a_20, e_21, h⟩ := bnd_some h
      refine zr_getr (q := 61) (ci := 4) (k := 4) dX4_copyPositions_58 rfl (eq_of_beq c_19) rfl (by decide) rfl zbX4 (by decide) zb_26 rfl e_21 ?_
      refine zr_iload (q := 63) dX4_copyPositions_61 rfl 5 rfl ?_
      obtain ⟨c_22, h⟩ := chk_some h
      obtain ⟨c_23, h⟩ := chk_some h
      refine zr_lald (q := 64) dX4_copyPositions_63 rfl (eq_of_beq c_22) c_23 ?_
      refine zr_iload (q := 66) dX4_copyPositions_64 rfl 4 rfl ?_
      refine zr_iload_n (q := 67) dX4_copyPositions_66 rfl rfl 3 rfl ?_
      refine zr_imul (q := 68) dX4_copyPositions_67 rfl ?_
      refine zr_lshl (q := 69) dX4_copyPositions_68 rfl ?_
      obtain ⟨c_24, h⟩ := chk_some h
      obtain ⟨c_25, h⟩ := chk_some h
      obtain ⟨M_26, e_27, h⟩ := app_some h
      refine zr_last (q := 70) dX4_copyPositions_69 rfl (eq_of_beq c_24) c_25 ?_
      refine zr_mem e_27 ?_
      obtain ⟨v5_28, e_29, h⟩ := app_some h
      refine zr_iinc (q := 73) (v := v5_28) (L' := [(5, .int v5_28), (0, .ref v0), (1, .int v1), (2, .int v2), (3, .int v3), (4, .int v4)]) dX4_copyPositions_70 rfl 5 rfl (by rw [← e_29]; rfl) (by decide) rfl ?_
      refine zr_goto (q := 19) dX4_copyPositions_73 (by decide) ?_
      exact zr_pick [1, 2, 3, 4, 5, 0] rfl (ih M_26 v0 v1 v2 v3 v4 v5_28 _ _ h)
def fX4_copyPositions_10 : Nat → zM → Nat → Int32 → Int32 → Int32 → Int32 → Option (Unit × zM)
  | 0, _, _, _, _, _, _ => none
  | n + 1, M, v0, v1, v2, v3, v4 =>
    if v2 ≤ v4 then
      chk (mK M v0 == 4) <|
      app (wI M v0 0 (v1 + (v3 * v2))) fun M_3 : zM =>
      some ((), M_3)
    else
    fX4_copyPositions_19 (fX4_copyPositions_10 n) n M v0 v1 v2 v3 v4 v1
set_option maxHeartbeats 4000000 in
theorem tX4_copyPositions_10 : ∀ (n : Nat) (M : zM) (v0 : Nat) (v1 : Int32) (v2 : Int32) (v3 : Int32) (v4 : Int32) (r : Unit) (M' : zM), fX4_copyPositions_10 n M v0 v1 v2 v3 v4 = some (r, M') → zW uX4_copyPositions none (0, 0) M 10 [(0, .ref v0), (1, .int v1), (2, .int v2), (3, .int v3), (4, .int v4)] [] (zE (oV r) M') := by
  intro n
  induction n with
  | zero => intro M v0 v1 v2 v3 v4 r M' h; cases h
  | succ n ih =>
    intro M v0 v1 v2 v3 v4 r M' h
    rw [fX4_copyPositions_10] at h
    refine zr_iload (q := 12) dX4_copyPositions_10 rfl 4 rfl ?_
    refine zr_iload_n (q := 13) dX4_copyPositions_12 rfl rfl 2 rfl ?_
    refine zr_icmp_ge (q := 16) (tgt := 82) dX4_copyPositions_13 rfl (by decide) (fun c_1 => ?_) (fun c_1 => ?_)
    · replace h := ite_t c_1 h
      refine zr_aload_n (q := 83) dX4_copyPositions_82 rfl rfl 0 rfl ?_
      refine zr_iload_n (q := 84) dX4_copyPositions_83 rfl rfl 1 rfl ?_
      refine zr_iload_n (q := 85) dX4_copyPositions_84 rfl rfl 3 rfl ?_
      refine zr_iload_n (q := 86) dX4_copyPositions_85 rfl rfl 2 rfl ?_
      refine zr_imul (q := 87) dX4_copyPositions_86 rfl ?_
      refine zr_iadd (q := 88) dX4_copyPositions_87 rfl ?_
      obtain ⟨c_2, h⟩ := chk_some h
      obtain ⟨M_3, e_4, h⟩ := app_some h
      refine zr_putI (q := 91) (ci := 4) (k := 0) dX4_copyPositions_88 rfl (eq_of_beq c_2) rfl (by decide) rfl zbX4 tyX4_ok nmX4 (by decide) zb_22 (Or.inl rfl) rfl ?_
      refine zr_mem e_4 ?_
      cases h
      exact zr_return dX4_copyPositions_91 rfl ⟨by decide, by decide⟩ ⟨rfl, rfl⟩
    · replace h := ite_f c_1 h
      refine zr_iload_n (q := 17) dX4_copyPositions_16 rfl rfl 1 rfl ?_
      refine zr_istore (q := 19) (L' := [(5, .int v1), (0, .ref v0), (1, .int v1), (2, .int v2), (3, .int v3), (4, .int v4)]) dX4_copyPositions_17 rfl (by decide) rfl ?_
      exact zr_pick [1, 2, 3, 4, 5, 0] rfl (tX4_copyPositions_19 (fX4_copyPositions_10 n) ih n M v0 v1 v2 v3 v4 v1 _ _ h)
def fX4_copyPositions (n : Nat) (M : zM) (v0 : Nat) (v1 : Int32) (v2 : Int32) : Option (Unit × zM) :=
  chk (mK M v0 == 4) <|
  app ((mI M v0 0) - v1) fun v3_2 : Int32 =>
  fX4_copyPositions_10 n M v0 v1 v2 v3_2 (1 : Int32)
set_option maxHeartbeats 4000000 in
theorem tX4_copyPositions (n : Nat) (M : zM) (v0 : Nat) (v1 : Int32) (v2 : Int32) (r : Unit) (M' : zM) (h : fX4_copyPositions n M v0 v1 v2 = some (r, M')) : zMet uX4_copyPositions false M [.ref v0, .int v1, .int v2] (zE (oV r) M') := by
  refine zMet_of (L := [(0, .ref v0), (1, .int v1), (2, .int v2)]) (by decide +kernel) rfl rfl (Nat.le_of_ble_eq_true rfl) ?_
  show zW uX4_copyPositions none (0, 0) M 0 [(0, .ref v0), (1, .int v1), (2, .int v2)] [] (zE (oV r) M')
  unfold fX4_copyPositions at h
  refine zr_aload_n (q := 1) dX4_copyPositions_0 rfl rfl 0 rfl ?_
  obtain ⟨c_1, h⟩ := chk_some h
  refine zr_get (q := 4) (ci := 4) (k := 0) dX4_copyPositions_1 rfl (eq_of_beq c_1) rfl (by decide) rfl zbX4 (by decide) zb_22 rfl ?_
  refine zr_iload_n (q := 5) dX4_copyPositions_4 rfl rfl 1 rfl ?_
  refine zr_isub (q := 6) dX4_copyPositions_5 rfl ?_
  obtain ⟨v3_2, e_3, h⟩ := app_some h
  refine zr_nmI e_3 ?_
  refine zr_istore_n (q := 7) (L' := [(3, .int v3_2), (0, .ref v0), (1, .int v1), (2, .int v2)]) dX4_copyPositions_6 rfl rfl (by decide) rfl ?_
  refine zr_iconst (q := 8) (v := 1) dX4_copyPositions_7 rfl (by decide) ?_
  refine zr_istore (q := 10) (L' := [(4, .int (1 : Int32)), (3, .int v3_2), (0, .ref v0), (1, .int v1), (2, .int v2)]) dX4_copyPositions_8 rfl (by decide) rfl ?_
  exact zr_pick [2, 3, 4, 1, 0] rfl (tX4_copyPositions_10 n M v0 v1 v2 v3_2 (1 : Int32) _ _ h)

def uX4_haversOf : zMu := (yX4_haversOf, cX4_haversOf, 5, (some .long), { frames := 1, cells := 0, slots := 0, locals := 22 }, [])
theorem zd_X4_haversOf : (uY uX4_haversOf).cls ≠ "java/lang/invoke/MethodHandle" ∧ (uY uX4_haversOf).cls ≠ "java/lang/invoke/VarHandle" ∧ (parseMethodDescriptor (uY uX4_haversOf).desc).map (fun d => d.parameters.length) = some 1 := by decide +kernel
def fX4_haversOf_35 (k5 : zM → Nat → Int32 → Int64 → Int32 → Option (Int64 × zM)) (n : Nat) (M : zM) (v0 : Nat) (v1 : Int32) (v2 : Int64) (v4 : Int32) : Option (Int64 × zM) :=
  app (v4 + (1 : Int32)) fun v4_1 : Int32 =>
  k5 M v0 v1 v2 v4_1
set_option maxHeartbeats 4000000 in
theorem tX4_haversOf_35 (k5 : zM → Nat → Int32 → Int64 → Int32 → Option (Int64 × zM)) (h5 : ∀ (M : zM) (v0 : Nat) (v1 : Int32) (v2 : Int64) (v4 : Int32) (r : Int64) (M' : zM), k5 M v0 v1 v2 v4 = some (r, M') → zW uX4_haversOf none (0, 0) M 5 [(0, .ref v0), (1, .int v1), (2, .long v2), (4, .int v4)] [] (zE (oL r) M')) (n : Nat) (M : zM) (v0 : Nat) (v1 : Int32) (v2 : Int64) (v4 : Int32) (r : Int64) (M' : zM) (h : fX4_haversOf_35 k5 n M v0 v1 v2 v4 = some (r, M')) : zW uX4_haversOf none (0, 0) M 35 [(0, .ref v0), (1, .int v1), (2, .long v2), (4, .int v4)] [] (zE (oL r) M') := by
  unfold fX4_haversOf_35 at h
  obtain ⟨v4_1, e_2, h⟩ := app_some h
  refine zr_iinc (q := 38) (v := v4_1) (L' := [(4, .int v4_1), (0, .ref v0), (1, .int v1), (2, .long v2)]) dX4_haversOf_35 rfl 3 rfl (by rw [← e_2]; rfl) (by decide) rfl ?_
  refine zr_goto (q := 5) dX4_haversOf_38 (by decide) ?_
  exact zr_pick [1, 2, 3, 0] rfl (h5 M v0 v1 v2 v4_1 _ _ h)
def fX4_haversOf_5 : Nat → zM → Nat → Int32 → Int64 → Int32 → Option (Int64 × zM)
  | 0, _, _, _, _, _ => none
  | n + 1, M, v0, v1, v2, v4 =>
    chk (mK M v0 == 4) <|
    if (mI M v0 0) ≤ v4 then
      some (v2, M)
    else
    chk (mK M v0 == 4) <|
    bnd (mR M v0 5) fun a_4 =>
    chk (mK M a_4 == 12) <|
    chk (zin v4 (mN M a_4)) <|
    bnd2 (fX9_holds n M (mL M a_4 (Int32.toNatClampNeg v4)) v1) fun r_8 M_9 =>
    if r_8 = (0 : Int32) then
      fX4_haversOf_35 (fX4_haversOf_5 n) n M_9 v0 v1 v2 v4
    else
    app (v2 ||| (jshl (1 : Int64) v4)) fun v2_12 : Int64 =>
    fX4_haversOf_35 (fX4_haversOf_5 n) n M_9 v0 v1 v2_12 v4
set_option maxHeartbeats 4000000 in
theorem tX4_haversOf_5 : ∀ (n : Nat) (M : zM) (v0 : Nat) (v1 : Int32) (v2 : Int64) (v4 : Int32) (r : Int64) (M' : zM), fX4_haversOf_5 n M v0 v1 v2 v4 = some (r, M') → zW uX4_haversOf none (0, 0) M 5 [(0, .ref v0), (1, .int v1), (2, .long v2), (4, .int v4)] [] (zE (oL r) M') := by
  intro n
  induction n with
  | zero => intro M v0 v1 v2 v4 r M' h; cases h
  | succ n ih =>
    intro M v0 v1 v2 v4 r M' h
    rw [fX4_haversOf_5] at h
    refine zr_iload (q := 7) dX4_haversOf_5 rfl 3 rfl ?_
    refine zr_aload_n (q := 8) dX4_haversOf_7 rfl rfl 0 rfl ?_
    obtain ⟨c_1, h⟩ := chk_some h
    refine zr_get (q := 11) (ci := 4) (k := 0) dX4_haversOf_8 rfl (eq_of_beq c_1) rfl (by decide) rfl zbX4 (by decide) zb_22 rfl ?_
    refine zr_icmp_ge (q := 14) (tgt := 41) dX4_haversOf_11 rfl (by decide) (fun c_2 => ?_) (fun c_2 => ?_)
    · replace h := ite_t c_2 h
      refine zr_lload_n (q := 42) dX4_haversOf_41 rfl rfl 2 rfl ?_
      cases h
      exact zr_lreturn dX4_haversOf_42 rfl ⟨by decide, by decide⟩ ⟨rfl, rfl⟩
    · replace h := ite_f c_2 h
      refine zr_aload_n (q := 15) dX4_haversOf_14 rfl rfl 0 rfl ?_
      obtain ⟨c_3, h⟩ := chk_some h
      obtain ⟨a_4, e_5, h⟩ := bnd_some h
      refine zr_getr (q := 18) (ci := 4) (k := 5) dX4_haversOf_15 rfl (eq_of_beq c_3) rfl (by decide) rfl zbX4 (by decide) zb_149 rfl e_5 ?_
      refine zr_iload (q := 20) dX4_haversOf_18 rfl 3 rfl ?_
      obtain ⟨c_6, h⟩ := chk_some h
      obtain ⟨c_7, h⟩ := chk_some h
      refine zr_lald (q := 21) dX4_haversOf_20 rfl (eq_of_beq c_6) c_7 ?_
      refine zr_iload_n (q := 22) dX4_haversOf_21 rfl rfl 1 rfl ?_
      obtain ⟨r_8, M_9, hc_10, h⟩ := bnd2_some h
      refine zr_callSNI (μ' := uX9_holds) (q := 25) (n := 2) (As := [.long (mL M a_4 (Int32.toNatClampNeg v4)), .int v1]) (u' := (0, 0)) (tX9_holds n M (mL M a_4 (Int32.toNatClampNeg v4)) v1 _ _ hc_10) dX4_haversOf_22 rfl rfl (by decide +kernel) ⟨zb_23, zb_24, zb_25⟩ zd_X9_holds ⟨by decide, by decide⟩ ⟨by decide, by decide⟩ rfl rfl (Nat.le_of_ble_eq_true rfl) rfl ?_
      refine zr_if_eq (q := 28) (tgt := 35) dX4_haversOf_25 rfl (by decide) (fun c_11 => ?_) (fun c_11 => ?_)
      · replace h := ite_t c_11 h
        exact zr_pick [0, 1, 2, 3] rfl (tX4_haversOf_35 (fX4_haversOf_5 n) ih n M_9 v0 v1 v2 v4 _ _ h)
      · replace h := ite_f c_11 h
        refine zr_lload_n (q := 29) dX4_haversOf_28 rfl rfl 2 rfl ?_
        refine zr_lconst (q := 30) (v := 1) dX4_haversOf_29 rfl (by decide) ?_
        refine zr_iload (q := 32) dX4_haversOf_30 rfl 3 rfl ?_
        refine zr_lshl (q := 33) dX4_haversOf_32 rfl ?_
        refine zr_lor (q := 34) dX4_haversOf_33 rfl ?_
        obtain ⟨v2_12, e_13, h⟩ := app_some h
        refine zr_nmL e_13 ?_
        refine zr_lstore_n (q := 35) (L' := [(2, .long v2_12), (0, .ref v0), (1, .int v1), (4, .int v4)]) dX4_haversOf_34 rfl rfl (by decide) rfl ?_
        exact zr_pick [1, 2, 0, 3] rfl (tX4_haversOf_35 (fX4_haversOf_5 n) ih n M_9 v0 v1 v2_12 v4 _ _ h)
def fX4_haversOf (n : Nat) (M : zM) (v0 : Nat) (v1 : Int32) : Option (Int64 × zM) :=
  fX4_haversOf_5 n M v0 v1 (0 : Int64) (0 : Int32)
set_option maxHeartbeats 4000000 in
theorem tX4_haversOf (n : Nat) (M : zM) (v0 : Nat) (v1 : Int32) (r : Int64) (M' : zM) (h : fX4_haversOf n M v0 v1 = some (r, M')) : zMet uX4_haversOf false M [.ref v0, .int v1] (zE (oL r) M') := by
  refine zMet_of (L := [(0, .ref v0), (1, .int v1)]) (by decide +kernel) rfl rfl (Nat.le_of_ble_eq_true rfl) ?_
  show zW uX4_haversOf none (0, 0) M 0 [(0, .ref v0), (1, .int v1)] [] (zE (oL r) M')
  unfold fX4_haversOf at h
  refine zr_lconst (q := 1) (v := 0) dX4_haversOf_0 rfl (by decide) ?_
  refine zr_lstore_n (q := 2) (L' := [(2, .long (0 : Int64)), (0, .ref v0), (1, .int v1)]) dX4_haversOf_1 rfl rfl (by decide) rfl ?_
  refine zr_iconst (q := 3) (v := 0) dX4_haversOf_2 rfl (by decide) ?_
  refine zr_istore (q := 5) (L' := [(4, .int (0 : Int32)), (2, .long (0 : Int64)), (0, .ref v0), (1, .int v1)]) dX4_haversOf_3 rfl (by decide) rfl ?_
  exact zr_pick [2, 3, 1, 0] rfl (tX4_haversOf_5 n M v0 v1 (0 : Int64) (0 : Int32) _ _ h)

def uX4_complete : zMu := (yX4_complete, cX4_complete, 3, none, { frames := 2, cells := 0, slots := 0, locals := 46 }, [])
theorem zd_X4_complete : (uY uX4_complete).cls ≠ "java/lang/invoke/MethodHandle" ∧ (uY uX4_complete).cls ≠ "java/lang/invoke/VarHandle" ∧ (parseMethodDescriptor (uY uX4_complete).desc).map (fun d => d.parameters.length) = some 1 := by decide +kernel
def fX4_complete_26 : Nat → zM → Nat → Int32 → Option (Unit × zM)
  | 0, _, _, _ => none
  | n + 1, M, v0, v2 =>
    if (36 : Int32) ≤ v2 then
      some ((), M)
    else
    chk (mK M v0 == 4) <|
    bnd (mR M v0 6) fun a_3 =>
    chk (mK M v0 == 4) <|
    bnd2 (fX4_haversOf n M v0 v2) fun r_5 M_6 =>
    chk (mK M_6 a_3 == 12) <|
    chk (zin v2 (mN M_6 a_3)) <|
    app (wL M_6 a_3 (Int32.toNatClampNeg v2) r_5) fun M_11 : zM =>
    app (v2 + (1 : Int32)) fun v2_13 : Int32 =>
    (fX4_complete_26 n) M_11 v0 v2_13
set_option maxHeartbeats 4000000 in
theorem tX4_complete_26 : ∀ (n : Nat) (M : zM) (v0 : Nat) (v2 : Int32) (r : Unit) (M' : zM), fX4_complete_26 n M v0 v2 = some (r, M') → zW uX4_complete none (0, 0) M 26 [(0, .ref v0), (2, .int v2)] [] (zE (oV r) M') := by
  intro n
  induction n with
  | zero => intro M v0 v2 r M' h; cases h
  | succ n ih =>
    intro M v0 v2 r M' h
    rw [fX4_complete_26] at h
    refine zr_iload_n (q := 27) dX4_complete_26 rfl rfl 1 rfl ?_
    refine zr_bipush (q := 29) (v := 36) dX4_complete_27 rfl (by decide) ?_
    refine zr_icmp_ge (q := 32) (tgt := 49) dX4_complete_29 rfl (by decide) (fun c_1 => ?_) (fun c_1 => ?_)
    · replace h := ite_t c_1 h
      cases h
      exact zr_return dX4_complete_49 rfl ⟨by decide, by decide⟩ ⟨rfl, rfl⟩
    · replace h := ite_f c_1 h
      refine zr_aload_n (q := 33) dX4_complete_32 rfl rfl 0 rfl ?_
      obtain ⟨c_2, h⟩ := chk_some h
      obtain ⟨a_3, e_4, h⟩ := bnd_some h
      refine zr_getr (q := 36) (ci := 4) (k := 6) dX4_complete_33 rfl (eq_of_beq c_2) rfl (by decide) rfl zbX4 (by decide) zb_164 rfl e_4 ?_
      refine zr_iload_n (q := 37) dX4_complete_36 rfl rfl 1 rfl ?_
      refine zr_aload_n (q := 38) dX4_complete_37 rfl rfl 0 rfl ?_
      refine zr_iload_n (q := 39) dX4_complete_38 rfl rfl 1 rfl ?_
      obtain ⟨c_8, h⟩ := chk_some h
      obtain ⟨r_5, M_6, hc_7, h⟩ := bnd2_some h
      refine zr_callVL (μ' := uX4_haversOf) (q := 42) (n := 1) (ci := 4) (As := [.int v2]) (u' := (0, 0)) (tX4_haversOf n M v0 v2 _ _ hc_7) dX4_complete_39 rfl rfl ⟨zb_165, zb_166, zb_167, zb_168, zb_31⟩ zd_X4_haversOf ⟨by decide, by decide⟩ ⟨by decide, by decide⟩ (eq_of_beq c_8) (by decide) rfl rfl rfl (Nat.le_of_ble_eq_true rfl) rfl rfl ?_
      obtain ⟨c_9, h⟩ := chk_some h
      obtain ⟨c_10, h⟩ := chk_some h
      obtain ⟨M_11, e_12, h⟩ := app_some h
      refine zr_last (q := 43) dX4_complete_42 rfl (eq_of_beq c_9) c_10 ?_
      refine zr_mem e_12 ?_
      obtain ⟨v2_13, e_14, h⟩ := app_some h
      refine zr_iinc (q := 46) (v := v2_13) (L' := [(2, .int v2_13), (0, .ref v0)]) dX4_complete_43 rfl 1 rfl (by rw [← e_14]; rfl) (by decide) rfl ?_
      refine zr_goto (q := 26) dX4_complete_46 (by decide) ?_
      exact zr_pick [1, 0] rfl (ih M_11 v0 v2_13 _ _ h)
def fX4_complete (n : Nat) (M : zM) (v0 : Nat) (v1 : Nat) : Option (Unit × zM) :=
  chk (mK M v1 == 5) <|
  chk (mK M v0 == 4) <|
  chk (z01 (mI M v1 1)) <|
  app (wI M v0 1 (mI M v1 1)) fun M_4 : zM =>
  chk (mK M_4 v1 == 5) <|
  chk (mK M_4 v0 == 4) <|
  app (wL M_4 v0 2 (mL M_4 v1 2)) fun M_8 : zM =>
  chk (mK M_8 v1 == 5) <|
  chk (mK M_8 v0 == 4) <|
  app (wL M_8 v0 3 (mL M_8 v1 3)) fun M_12 : zM =>
  fX4_complete_26 n M_12 v0 (0 : Int32)
set_option maxHeartbeats 4000000 in
theorem tX4_complete (n : Nat) (M : zM) (v0 : Nat) (v1 : Nat) (r : Unit) (M' : zM) (h : fX4_complete n M v0 v1 = some (r, M')) : zMet uX4_complete false M [.ref v0, .ref v1] (zE (oV r) M') := by
  refine zMet_of (L := [(0, .ref v0), (1, .ref v1)]) (by decide +kernel) rfl rfl (Nat.le_of_ble_eq_true rfl) ?_
  show zW uX4_complete none (0, 0) M 0 [(0, .ref v0), (1, .ref v1)] [] (zE (oV r) M')
  unfold fX4_complete at h
  refine zr_aload_n (q := 1) dX4_complete_0 rfl rfl 0 rfl ?_
  refine zr_aload_n (q := 2) dX4_complete_1 rfl rfl 1 rfl ?_
  obtain ⟨c_1, h⟩ := chk_some h
  refine zr_get (q := 5) (ci := 5) (k := 1) dX4_complete_2 rfl (eq_of_beq c_1) rfl (by decide) rfl zbX5 (by decide) zb_169 rfl ?_
  obtain ⟨c_2, h⟩ := chk_some h
  obtain ⟨c_3, h⟩ := chk_some h
  obtain ⟨M_4, e_5, h⟩ := app_some h
  refine zr_putZ (q := 8) (ci := 4) (k := 1) dX4_complete_5 rfl (eq_of_beq c_2) rfl (by decide) rfl zbX4 tyX4_ok nmX4 (by decide) zb_170 (Or.inl rfl) rfl (z01_or c_3) ?_
  refine zr_mem e_5 ?_
  refine zr_aload_n (q := 9) dX4_complete_8 rfl rfl 0 rfl ?_
  refine zr_aload_n (q := 10) dX4_complete_9 rfl rfl 1 rfl ?_
  obtain ⟨c_6, h⟩ := chk_some h
  refine zr_get (q := 13) (ci := 5) (k := 2) dX4_complete_10 rfl (eq_of_beq c_6) rfl (by decide) rfl zbX5 (by decide) zb_171 rfl ?_
  obtain ⟨c_7, h⟩ := chk_some h
  obtain ⟨M_8, e_9, h⟩ := app_some h
  refine zr_putL (q := 16) (ci := 4) (k := 2) dX4_complete_13 rfl (eq_of_beq c_7) rfl (by decide) rfl zbX4 tyX4_ok nmX4 (by decide) zb_172 (Or.inl rfl) rfl ?_
  refine zr_mem e_9 ?_
  refine zr_aload_n (q := 17) dX4_complete_16 rfl rfl 0 rfl ?_
  refine zr_aload_n (q := 18) dX4_complete_17 rfl rfl 1 rfl ?_
  obtain ⟨c_10, h⟩ := chk_some h
  refine zr_get (q := 21) (ci := 5) (k := 3) dX4_complete_18 rfl (eq_of_beq c_10) rfl (by decide) rfl zbX5 (by decide) zb_173 rfl ?_
  obtain ⟨c_11, h⟩ := chk_some h
  obtain ⟨M_12, e_13, h⟩ := app_some h
  refine zr_putL (q := 24) (ci := 4) (k := 3) dX4_complete_21 rfl (eq_of_beq c_11) rfl (by decide) rfl zbX4 tyX4_ok nmX4 (by decide) zb_174 (Or.inl rfl) rfl ?_
  refine zr_mem e_13 ?_
  refine zr_iconst (q := 25) (v := 0) dX4_complete_24 rfl (by decide) ?_
  refine zr_istore_n (q := 26) (L' := [(2, .int (0 : Int32)), (0, .ref v0), (1, .ref v1)]) dX4_complete_25 rfl rfl (by decide) rfl ?_
  exact zr_pick [1, 0] rfl (tX4_complete_26 n M_12 v0 (0 : Int32) _ _ h)
