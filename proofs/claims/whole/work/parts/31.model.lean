/-! by program: wip/decomp.py, wip/mk_code.py -/
def uX10_none : zMu := (yX10_none, cX10_none, 1, (some .boolean), { frames := 0, cells := 0, slots := 0, locals := 0 }, [])
theorem zd_X10_none : (uY uX10_none).cls ≠ "java/lang/invoke/MethodHandle" ∧ (uY uX10_none).cls ≠ "java/lang/invoke/VarHandle" ∧ (parseMethodDescriptor (uY uX10_none).desc).map (fun d => d.parameters.length) = some 0 := by decide +kernel
def fX10_none_15 (n : Nat) (M : zM) (v0 : Nat) (s0 : Nat) (s1 : Int32) : Option (Int32 × zM) :=
  chk (mK M s0 == 10) <|
  app (wI M s0 0 s1) fun M_2 : zM =>
  chk (mK M_2 v0 == 10) <|
  if (mI M_2 v0 0) ≤ (0 : Int32) then
    some ((0 : Int32), M_2)
  else
  some ((1 : Int32), M_2)
set_option maxHeartbeats 4000000 in
theorem tX10_none_15 (n : Nat) (M : zM) (v0 : Nat) (s0 : Nat) (s1 : Int32) (r : Int32) (M' : zM) (h : fX10_none_15 n M v0 s0 s1 = some (r, M')) : zW uX10_none none (0, 0) M 15 [(0, .ref v0)] [.int s1, .ref s0] (zE (oI r) M') := by
  unfold fX10_none_15 at h
  obtain ⟨c_1, h⟩ := chk_some h
  obtain ⟨M_2, e_3, h⟩ := app_some h
  refine zr_putI (q := 18) (ci := 10) (k := 0) dX10_none_15 rfl (eq_of_beq c_1) rfl (by decide) rfl zbX10 tyX10_ok nmX10 (by decide) zb_378 (Or.inl rfl) rfl ?_
  refine zr_mem e_3 ?_
  refine zr_aload_n (q := 19) dX10_none_18 rfl rfl 0 rfl ?_
  obtain ⟨c_4, h⟩ := chk_some h
  refine zr_get (q := 22) (ci := 10) (k := 0) dX10_none_19 rfl (eq_of_beq c_4) rfl (by decide) rfl zbX10 (by decide) zb_378 rfl ?_
  refine zr_if_le (q := 25) (tgt := 29) dX10_none_22 rfl (by decide) (fun c_5 => ?_) (fun c_5 => ?_)
  · replace h := ite_t c_5 h
    refine zr_iconst (q := 30) (v := 0) dX10_none_29 rfl (by decide) ?_
    cases h
    exact zr_zreturn dX10_none_30 rfl (Or.inl rfl) ⟨by decide, by decide⟩ ⟨rfl, rfl⟩
  · replace h := ite_f c_5 h
    refine zr_iconst (q := 26) (v := 1) dX10_none_25 rfl (by decide) ?_
    refine zr_goto (q := 30) dX10_none_26 (by decide) ?_
    cases h
    exact zr_zreturn dX10_none_30 rfl (Or.inr rfl) ⟨by decide, by decide⟩ ⟨rfl, rfl⟩
def fX10_none (n : Nat) (M : zM) (v0 : Nat) : Option (Int32 × zM) :=
  chk (mK M v0 == 10) <|
  bnd (mR M v0 6) fun a_2 =>
  chk (mK M a_2 == 13) <|
  chk (zin (0 : Int32) (mN M a_2)) <|
  if (mI M a_2 (Int32.toNatClampNeg (0 : Int32))) = (0 : Int32) then
    fX10_none_15 n M v0 v0 (1 : Int32)
  else
  fX10_none_15 n M v0 v0 (0 : Int32)
set_option maxHeartbeats 4000000 in
theorem tX10_none (n : Nat) (M : zM) (v0 : Nat) (r : Int32) (M' : zM) (h : fX10_none n M v0 = some (r, M')) : zMet uX10_none false M [.ref v0] (zE (oI r) M') := by
  refine zMet_of (L := [(0, .ref v0)]) (by decide +kernel) rfl rfl (Nat.le_of_ble_eq_true rfl) ?_
  show zW uX10_none none (0, 0) M 0 [(0, .ref v0)] [] (zE (oI r) M')
  unfold fX10_none at h
  refine zr_aload_n (q := 1) dX10_none_0 rfl rfl 0 rfl ?_
  refine zr_aload_n (q := 2) dX10_none_1 rfl rfl 0 rfl ?_
  obtain ⟨c_1, h⟩ := chk_some h
  obtain ⟨a_2, e_3, h⟩ := bnd_some h
  refine zr_getr (q := 5) (ci := 10) (k := 6) dX10_none_2 rfl (eq_of_beq c_1) rfl (by decide) rfl zbX10 (by decide) zb_477 rfl e_3 ?_
  refine zr_iconst (q := 6) (v := 0) dX10_none_5 rfl (by decide) ?_
  obtain ⟨c_4, h⟩ := chk_some h
  obtain ⟨c_5, h⟩ := chk_some h
  refine zr_zald (q := 7) dX10_none_6 rfl (eq_of_beq c_4) c_5 ?_
  refine zr_if_eq (q := 10) (tgt := 14) dX10_none_7 rfl (by decide) (fun c_6 => ?_) (fun c_6 => ?_)
  · replace h := ite_t c_6 h
    refine zr_iconst (q := 15) (v := 1) dX10_none_14 rfl (by decide) ?_
    exact zr_pick [0] rfl (tX10_none_15 n M v0 v0 (1 : Int32) _ _ h)
  · replace h := ite_f c_6 h
    refine zr_iconst (q := 11) (v := 0) dX10_none_10 rfl (by decide) ?_
    refine zr_goto (q := 15) dX10_none_11 (by decide) ?_
    exact zr_pick [0] rfl (tX10_none_15 n M v0 v0 (0 : Int32) _ _ h)

def uX10_positions : zMu := (yX10_positions, cX10_positions, 1, (some .int), { frames := 1, cells := 0, slots := 0, locals := 20 }, [])
theorem zd_X10_positions : (uY uX10_positions).cls ≠ "java/lang/invoke/MethodHandle" ∧ (uY uX10_positions).cls ≠ "java/lang/invoke/VarHandle" ∧ (parseMethodDescriptor (uY uX10_positions).desc).map (fun d => d.parameters.length) = some 0 := by decide +kernel
def fX10_positions (n : Nat) (M : zM) (v0 : Nat) : Option (Int32 × zM) :=
  chk (mK M v0 == 10) <|
  bnd2 (fX10_none n M v0) fun r_1 M_2 =>
  if r_1 = (0 : Int32) then
    chk (mK M_2 v0 == 10) <|
    bnd (mR M_2 v0 7) fun a_7 =>
    chk (mK M_2 a_7 == 11) <|
    chk (zin (0 : Int32) (mN M_2 a_7)) <|
    some ((mI M_2 a_7 (Int32.toNatClampNeg (0 : Int32))), M_2)
  else
  some ((0 : Int32), M_2)
set_option maxHeartbeats 4000000 in
theorem tX10_positions (n : Nat) (M : zM) (v0 : Nat) (r : Int32) (M' : zM) (h : fX10_positions n M v0 = some (r, M')) : zMet uX10_positions false M [.ref v0] (zE (oI r) M') := by
  refine zMet_of (L := [(0, .ref v0)]) (by decide +kernel) rfl rfl (Nat.le_of_ble_eq_true rfl) ?_
  show zW uX10_positions none (0, 0) M 0 [(0, .ref v0)] [] (zE (oI r) M')
  unfold fX10_positions at h
  refine zr_aload_n (q := 1) dX10_positions_0 rfl rfl 0 rfl ?_
  obtain ⟨c_4, h⟩ := chk_some h
  obtain ⟨r_1, M_2, hc_3, h⟩ := bnd2_some h
  refine zr_callVI (μ' := uX10_none) (q := 4) (n := 0) (ci := 10) (As := []) (u' := (0, 0)) (tX10_none n M v0 _ _ hc_3) dX10_positions_1 rfl rfl ⟨zb_490, zb_491, zb_492, zb_493, zb_389⟩ zd_X10_none ⟨by decide, by decide⟩ ⟨by decide, by decide⟩ (eq_of_beq c_4) (by decide) rfl rfl rfl (Nat.le_of_ble_eq_true rfl) rfl rfl ?_
  refine zr_if_eq (q := 7) (tgt := 11) dX10_positions_4 rfl (by decide) (fun c_5 => ?_) (fun c_5 => ?_)
  · replace h := ite_t c_5 h
    refine zr_aload_n (q := 12) dX10_positions_11 rfl rfl 0 rfl ?_
    obtain ⟨c_6, h⟩ := chk_some h
    obtain ⟨a_7, e_8, h⟩ := bnd_some h
    refine zr_getr (q := 15) (ci := 10) (k := 7) dX10_positions_12 rfl (eq_of_beq c_6) rfl (by decide) rfl zbX10 (by decide) zb_478 rfl e_8 ?_
    refine zr_iconst (q := 16) (v := 0) dX10_positions_15 rfl (by decide) ?_
    obtain ⟨c_9, h⟩ := chk_some h
    obtain ⟨c_10, h⟩ := chk_some h
    refine zr_iald (q := 17) dX10_positions_16 rfl (eq_of_beq c_9) c_10 ?_
    cases h
    exact zr_ireturn dX10_positions_17 rfl ⟨by decide, by decide⟩ ⟨rfl, rfl⟩
  · replace h := ite_f c_5 h
    refine zr_iconst (q := 8) (v := 0) dX10_positions_7 rfl (by decide) ?_
    refine zr_goto (q := 17) dX10_positions_8 (by decide) ?_
    cases h
    exact zr_ireturn dX10_positions_17 rfl ⟨by decide, by decide⟩ ⟨rfl, rfl⟩

def uX10_empty : zMu := (yX10_empty, cX10_empty, 1, (some .boolean), { frames := 1, cells := 0, slots := 0, locals := 20 }, [])
theorem zd_X10_empty : (uY uX10_empty).cls ≠ "java/lang/invoke/MethodHandle" ∧ (uY uX10_empty).cls ≠ "java/lang/invoke/VarHandle" ∧ (parseMethodDescriptor (uY uX10_empty).desc).map (fun d => d.parameters.length) = some 0 := by decide +kernel
def fX10_empty_20 (n : Nat) (M : zM)  : Option (Int32 × zM) :=
  some ((0 : Int32), M)
set_option maxHeartbeats 4000000 in
theorem tX10_empty_20 (n : Nat) (M : zM)  (r : Int32) (M' : zM) (h : fX10_empty_20 n M = some (r, M')) : zW uX10_empty none (0, 0) M 20 [] [] (zE (oI r) M') := by
  unfold fX10_empty_20 at h
  refine zr_iconst (q := 21) (v := 0) dX10_empty_20 rfl (by decide) ?_
  cases h
  exact zr_zreturn dX10_empty_21 rfl (Or.inl rfl) ⟨by decide, by decide⟩ ⟨rfl, rfl⟩
def fX10_empty (n : Nat) (M : zM) (v0 : Nat) : Option (Int32 × zM) :=
  chk (mK M v0 == 10) <|
  bnd2 (fX10_none n M v0) fun r_1 M_2 =>
  if r_1 = (0 : Int32) then
    chk (mK M_2 v0 == 10) <|
    bnd (mR M_2 v0 8) fun a_7 =>
    chk (mK M_2 a_7 == 13) <|
    chk (zin (0 : Int32) (mN M_2 a_7)) <|
    if (mI M_2 a_7 (Int32.toNatClampNeg (0 : Int32))) = (0 : Int32) then
      fX10_empty_20 n M_2
    else
    some ((1 : Int32), M_2)
  else
  fX10_empty_20 n M_2
set_option maxHeartbeats 4000000 in
theorem tX10_empty (n : Nat) (M : zM) (v0 : Nat) (r : Int32) (M' : zM) (h : fX10_empty n M v0 = some (r, M')) : zMet uX10_empty false M [.ref v0] (zE (oI r) M') := by
  refine zMet_of (L := [(0, .ref v0)]) (by decide +kernel) rfl rfl (Nat.le_of_ble_eq_true rfl) ?_
  show zW uX10_empty none (0, 0) M 0 [(0, .ref v0)] [] (zE (oI r) M')
  unfold fX10_empty at h
  refine zr_aload_n (q := 1) dX10_empty_0 rfl rfl 0 rfl ?_
  obtain ⟨c_4, h⟩ := chk_some h
  obtain ⟨r_1, M_2, hc_3, h⟩ := bnd2_some h
  refine zr_callVI (μ' := uX10_none) (q := 4) (n := 0) (ci := 10) (As := []) (u' := (0, 0)) (tX10_none n M v0 _ _ hc_3) dX10_empty_1 rfl rfl ⟨zb_490, zb_491, zb_492, zb_493, zb_389⟩ zd_X10_none ⟨by decide, by decide⟩ ⟨by decide, by decide⟩ (eq_of_beq c_4) (by decide) rfl rfl rfl (Nat.le_of_ble_eq_true rfl) rfl rfl ?_
  refine zr_if_ne (q := 7) (tgt := 20) dX10_empty_4 rfl (by decide) (fun c_5 => ?_) (fun c_5 => ?_)
  · replace h := ite_f c_5 h
    exact zr_pick [] rfl (tX10_empty_20 n M_2 _ _ h)
  · replace h := ite_t c_5 h
    refine zr_aload_n (q := 8) dX10_empty_7 rfl rfl 0 rfl ?_
    obtain ⟨c_6, h⟩ := chk_some h
    obtain ⟨a_7, e_8, h⟩ := bnd_some h
    refine zr_getr (q := 11) (ci := 10) (k := 8) dX10_empty_8 rfl (eq_of_beq c_6) rfl (by decide) rfl zbX10 (by decide) zb_479 rfl e_8 ?_
    refine zr_iconst (q := 12) (v := 0) dX10_empty_11 rfl (by decide) ?_
    obtain ⟨c_9, h⟩ := chk_some h
    obtain ⟨c_10, h⟩ := chk_some h
    refine zr_zald (q := 13) dX10_empty_12 rfl (eq_of_beq c_9) c_10 ?_
    refine zr_if_eq (q := 16) (tgt := 20) dX10_empty_13 rfl (by decide) (fun c_11 => ?_) (fun c_11 => ?_)
    · replace h := ite_t c_11 h
      exact zr_pick [] rfl (tX10_empty_20 n M_2 _ _ h)
    · replace h := ite_f c_11 h
      refine zr_iconst (q := 17) (v := 1) dX10_empty_16 rfl (by decide) ?_
      refine zr_goto (q := 21) dX10_empty_17 (by decide) ?_
      cases h
      exact zr_zreturn dX10_empty_21 rfl (Or.inr rfl) ⟨by decide, by decide⟩ ⟨rfl, rfl⟩

def uX10_noPosition : zMu := (yX10_noPosition, cX10_noPosition, 2, (some .boolean), { frames := 0, cells := 0, slots := 0, locals := 0 }, [])
theorem zd_X10_noPosition : (uY uX10_noPosition).cls ≠ "java/lang/invoke/MethodHandle" ∧ (uY uX10_noPosition).cls ≠ "java/lang/invoke/VarHandle" ∧ (parseMethodDescriptor (uY uX10_noPosition).desc).map (fun d => d.parameters.length) = some 1 := by decide +kernel
def fX10_noPosition_33 (n : Nat) (M : zM) (v0 : Nat) (s0 : Nat) (s1 : Int32) : Option (Int32 × zM) :=
  chk (mK M s0 == 10) <|
  app (wI M s0 0 s1) fun M_2 : zM =>
  chk (mK M_2 v0 == 10) <|
  if (mI M_2 v0 0) ≤ (0 : Int32) then
    some ((0 : Int32), M_2)
  else
  some ((1 : Int32), M_2)
set_option maxHeartbeats 4000000 in
theorem tX10_noPosition_33 (n : Nat) (M : zM) (v0 : Nat) (s0 : Nat) (s1 : Int32) (r : Int32) (M' : zM) (h : fX10_noPosition_33 n M v0 s0 s1 = some (r, M')) : zW uX10_noPosition none (0, 0) M 33 [(0, .ref v0)] [.int s1, .ref s0] (zE (oI r) M') := by
  unfold fX10_noPosition_33 at h
  obtain ⟨c_1, h⟩ := chk_some h
  obtain ⟨M_2, e_3, h⟩ := app_some h
  refine zr_putI (q := 36) (ci := 10) (k := 0) dX10_noPosition_33 rfl (eq_of_beq c_1) rfl (by decide) rfl zbX10 tyX10_ok nmX10 (by decide) zb_378 (Or.inl rfl) rfl ?_
  refine zr_mem e_3 ?_
  refine zr_aload_n (q := 37) dX10_noPosition_36 rfl rfl 0 rfl ?_
  obtain ⟨c_4, h⟩ := chk_some h
  refine zr_get (q := 40) (ci := 10) (k := 0) dX10_noPosition_37 rfl (eq_of_beq c_4) rfl (by decide) rfl zbX10 (by decide) zb_378 rfl ?_
  refine zr_if_le (q := 43) (tgt := 47) dX10_noPosition_40 rfl (by decide) (fun c_5 => ?_) (fun c_5 => ?_)
  · replace h := ite_t c_5 h
    refine zr_iconst (q := 48) (v := 0) dX10_noPosition_47 rfl (by decide) ?_
    cases h
    exact zr_zreturn dX10_noPosition_48 rfl (Or.inl rfl) ⟨by decide, by decide⟩ ⟨rfl, rfl⟩
  · replace h := ite_f c_5 h
    refine zr_iconst (q := 44) (v := 1) dX10_noPosition_43 rfl (by decide) ?_
    refine zr_goto (q := 48) dX10_noPosition_44 (by decide) ?_
    cases h
    exact zr_zreturn dX10_noPosition_48 rfl (Or.inr rfl) ⟨by decide, by decide⟩ ⟨rfl, rfl⟩
def fX10_noPosition_28 (n : Nat) (M : zM) (v0 : Nat) (s0 : Nat) : Option (Int32 × zM) :=
  fX10_noPosition_33 n M v0 s0 (2 : Int32)
set_option maxHeartbeats 4000000 in
theorem tX10_noPosition_28 (n : Nat) (M : zM) (v0 : Nat) (s0 : Nat) (r : Int32) (M' : zM) (h : fX10_noPosition_28 n M v0 s0 = some (r, M')) : zW uX10_noPosition none (0, 0) M 28 [(0, .ref v0)] [.ref s0] (zE (oI r) M') := by
  unfold fX10_noPosition_28 at h
  refine zr_iconst (q := 29) (v := 2) dX10_noPosition_28 rfl (by decide) ?_
  refine zr_goto (q := 33) dX10_noPosition_29 (by decide) ?_
  exact zr_pick [0] rfl (tX10_noPosition_33 n M v0 s0 (2 : Int32) _ _ h)
def fX10_noPosition (n : Nat) (M : zM) (v0 : Nat) (v1 : Int32) : Option (Int32 × zM) :=
  chk (mK M v0 == 10) <|
  bnd (mR M v0 6) fun a_2 =>
  chk (mK M a_2 == 13) <|
  chk (zin (0 : Int32) (mN M a_2)) <|
  if (mI M a_2 (Int32.toNatClampNeg (0 : Int32))) = (0 : Int32) then
    fX10_noPosition_33 n M v0 v0 (1 : Int32)
  else
  if v1 < (0 : Int32) then
    fX10_noPosition_28 n M v0 v0
  else
  chk (mK M v0 == 10) <|
  bnd (mR M v0 7) fun a_9 =>
  chk (mK M a_9 == 11) <|
  chk (zin (0 : Int32) (mN M a_9)) <|
  if v1 < (mI M a_9 (Int32.toNatClampNeg (0 : Int32))) then
    fX10_noPosition_33 n M v0 v0 (0 : Int32)
  else
  fX10_noPosition_28 n M v0 v0
set_option maxHeartbeats 4000000 in
theorem tX10_noPosition (n : Nat) (M : zM) (v0 : Nat) (v1 : Int32) (r : Int32) (M' : zM) (h : fX10_noPosition n M v0 v1 = some (r, M')) : zMet uX10_noPosition false M [.ref v0, .int v1] (zE (oI r) M') := by
  refine zMet_of (L := [(0, .ref v0), (1, .int v1)]) (by decide +kernel) rfl rfl (Nat.le_of_ble_eq_true rfl) ?_
  show zW uX10_noPosition none (0, 0) M 0 [(0, .ref v0), (1, .int v1)] [] (zE (oI r) M')
  unfold fX10_noPosition at h
  refine zr_aload_n (q := 1) dX10_noPosition_0 rfl rfl 0 rfl ?_
  refine zr_aload_n (q := 2) dX10_noPosition_1 rfl rfl 0 rfl ?_
  obtain ⟨c_1, h⟩ := chk_some h
  obtain ⟨a_2, e_3, h⟩ := bnd_some h
  refine zr_getr (q := 5) (ci := 10) (k := 6) dX10_noPosition_2 rfl (eq_of_beq c_1) rfl (by decide) rfl zbX10 (by decide) zb_477 rfl e_3 ?_
  refine zr_iconst (q := 6) (v := 0) dX10_noPosition_5 rfl (by decide) ?_
  obtain ⟨c_4, h⟩ := chk_some h
  obtain ⟨c_5, h⟩ := chk_some h
  refine zr_zald (q := 7) dX10_noPosition_6 rfl (eq_of_beq c_4) c_5 ?_
  refine zr_if_ne (q := 10) (tgt := 14) dX10_noPosition_7 rfl (by decide) (fun c_6 => ?_) (fun c_6 => ?_)
  · replace h := ite_f c_6 h
    refine zr_iload_n (q := 15) dX10_noPosition_14 rfl rfl 1 rfl ?_
    refine zr_if_lt (q := 18) (tgt := 28) dX10_noPosition_15 rfl (by decide) (fun c_7 => ?_) (fun c_7 => ?_)
    · replace h := ite_t c_7 h
      exact zr_pick [0] rfl (tX10_noPosition_28 n M v0 v0 _ _ h)
    · replace h := ite_f c_7 h
      refine zr_iload_n (q := 19) dX10_noPosition_18 rfl rfl 1 rfl ?_
      refine zr_aload_n (q := 20) dX10_noPosition_19 rfl rfl 0 rfl ?_
      obtain ⟨c_8, h⟩ := chk_some h
      obtain ⟨a_9, e_10, h⟩ := bnd_some h
      refine zr_getr (q := 23) (ci := 10) (k := 7) dX10_noPosition_20 rfl (eq_of_beq c_8) rfl (by decide) rfl zbX10 (by decide) zb_478 rfl e_10 ?_
      refine zr_iconst (q := 24) (v := 0) dX10_noPosition_23 rfl (by decide) ?_
      obtain ⟨c_11, h⟩ := chk_some h
      obtain ⟨c_12, h⟩ := chk_some h
      refine zr_iald (q := 25) dX10_noPosition_24 rfl (eq_of_beq c_11) c_12 ?_
      refine zr_icmp_lt (q := 28) (tgt := 32) dX10_noPosition_25 rfl (by decide) (fun c_13 => ?_) (fun c_13 => ?_)
      · replace h := ite_t c_13 h
        refine zr_iconst (q := 33) (v := 0) dX10_noPosition_32 rfl (by decide) ?_
        exact zr_pick [0] rfl (tX10_noPosition_33 n M v0 v0 (0 : Int32) _ _ h)
      · replace h := ite_f c_13 h
        exact zr_pick [0] rfl (tX10_noPosition_28 n M v0 v0 _ _ h)
  · replace h := ite_t c_6 h
    refine zr_iconst (q := 11) (v := 1) dX10_noPosition_10 rfl (by decide) ?_
    refine zr_goto (q := 33) dX10_noPosition_11 (by decide) ?_
    exact zr_pick [0] rfl (tX10_noPosition_33 n M v0 v0 (1 : Int32) _ _ h)

def uX10_is : zMu := (yX10_is, cX10_is, 3, (some .boolean), { frames := 1, cells := 0, slots := 0, locals := 22 }, [])
theorem zd_X10_is : (uY uX10_is).cls ≠ "java/lang/invoke/MethodHandle" ∧ (uY uX10_is).cls ≠ "java/lang/invoke/VarHandle" ∧ (parseMethodDescriptor (uY uX10_is).desc).map (fun d => d.parameters.length) = some 2 := by decide +kernel
def fX10_is_65 (n : Nat) (M : zM)  : Option (Int32 × zM) :=
  some ((0 : Int32), M)
set_option maxHeartbeats 4000000 in
theorem tX10_is_65 (n : Nat) (M : zM)  (r : Int32) (M' : zM) (h : fX10_is_65 n M = some (r, M')) : zW uX10_is none (0, 0) M 65 [] [] (zE (oI r) M') := by
  unfold fX10_is_65 at h
  refine zr_iconst (q := 66) (v := 0) dX10_is_65 rfl (by decide) ?_
  cases h
  exact zr_zreturn dX10_is_66 rfl (Or.inl rfl) ⟨by decide, by decide⟩ ⟨rfl, rfl⟩
def fX10_is_54 (n : Nat) (M : zM) (v1 : Int32) (s0 : Int64) : Option (Int32 × zM) :=
  bnd2 (fX10_hasBit n M s0 v1) fun r_1 M_2 =>
  if r_1 = (0 : Int32) then
    fX10_is_65 n M_2
  else
  some ((1 : Int32), M_2)
set_option maxHeartbeats 4000000 in
theorem tX10_is_54 (n : Nat) (M : zM) (v1 : Int32) (s0 : Int64) (r : Int32) (M' : zM) (h : fX10_is_54 n M v1 s0 = some (r, M')) : zW uX10_is none (0, 0) M 54 [(1, .int v1)] [.long s0] (zE (oI r) M') := by
  unfold fX10_is_54 at h
  refine zr_iload_n (q := 55) dX10_is_54 rfl rfl 0 rfl ?_
  obtain ⟨r_1, M_2, hc_3, h⟩ := bnd2_some h
  refine zr_callSI (μ' := uX10_hasBit) (q := 58) (n := 2) (As := [.long s0, .int v1]) (u' := (0, 0)) (tX10_hasBit n M s0 v1 _ _ hc_3) dX10_is_55 rfl rfl ⟨zb_404, zb_405, zb_406, zb_389⟩ zd_X10_hasBit ⟨by decide, by decide⟩ ⟨by decide, by decide⟩ rfl rfl (Nat.le_of_ble_eq_true rfl) rfl ?_
  refine zr_if_eq (q := 61) (tgt := 65) dX10_is_58 rfl (by decide) (fun c_4 => ?_) (fun c_4 => ?_)
  · replace h := ite_t c_4 h
    exact zr_pick [] rfl (tX10_is_65 n M_2 _ _ h)
  · replace h := ite_f c_4 h
    refine zr_iconst (q := 62) (v := 1) dX10_is_61 rfl (by decide) ?_
    refine zr_goto (q := 66) dX10_is_62 (by decide) ?_
    cases h
    exact zr_zreturn dX10_is_66 rfl (Or.inr rfl) ⟨by decide, by decide⟩ ⟨rfl, rfl⟩
def fX10_is_25 (n : Nat) (M : zM) (v0 : Nat) (v1 : Int32) (v2 : Int32) (s0 : Nat) (s1 : Int32) : Option (Int32 × zM) :=
  chk (mK M s0 == 10) <|
  app (wI M s0 0 s1) fun M_2 : zM =>
  chk (mK M_2 v0 == 10) <|
  if (mI M_2 v0 0) = (0 : Int32) then
    if v2 = (0 : Int32) then
      chk (mK M_2 v0 == 10) <|
      bnd (mR M_2 v0 9) fun a_13 =>
      chk (mK M_2 a_13 == 12) <|
      chk (zin (0 : Int32) (mN M_2 a_13)) <|
      fX10_is_54 n M_2 v1 (mL M_2 a_13 (Int32.toNatClampNeg (0 : Int32)))
    else
    chk (mK M_2 v0 == 10) <|
    bnd (mR M_2 v0 10) fun a_8 =>
    chk (mK M_2 a_8 == 12) <|
    chk (zin (0 : Int32) (mN M_2 a_8)) <|
    fX10_is_54 n M_2 v1 (mL M_2 a_8 (Int32.toNatClampNeg (0 : Int32)))
  else
  fX10_is_65 n M_2
set_option maxHeartbeats 4000000 in
theorem tX10_is_25 (n : Nat) (M : zM) (v0 : Nat) (v1 : Int32) (v2 : Int32) (s0 : Nat) (s1 : Int32) (r : Int32) (M' : zM) (h : fX10_is_25 n M v0 v1 v2 s0 s1 = some (r, M')) : zW uX10_is none (0, 0) M 25 [(0, .ref v0), (1, .int v1), (2, .int v2)] [.int s1, .ref s0] (zE (oI r) M') := by
  unfold fX10_is_25 at h
  obtain ⟨c_1, h⟩ := chk_some h
  obtain ⟨M_2, e_3, h⟩ := app_some h
  refine zr_putI (q := 28) (ci := 10) (k := 0) dX10_is_25 rfl (eq_of_beq c_1) rfl (by decide) rfl zbX10 tyX10_ok nmX10 (by decide) zb_378 (Or.inl rfl) rfl ?_
  refine zr_mem e_3 ?_
  refine zr_aload_n (q := 29) dX10_is_28 rfl rfl 0 rfl ?_
  obtain ⟨c_4, h⟩ := chk_some h
  refine zr_get (q := 32) (ci := 10) (k := 0) dX10_is_29 rfl (eq_of_beq c_4) rfl (by decide) rfl zbX10 (by decide) zb_378 rfl ?_
  refine zr_if_ne (q := 35) (tgt := 65) dX10_is_32 rfl (by decide) (fun c_5 => ?_) (fun c_5 => ?_)
  · replace h := ite_f c_5 h
    exact zr_pick [] rfl (tX10_is_65 n M_2 _ _ h)
  · replace h := ite_t c_5 h
    refine zr_iload_n (q := 36) dX10_is_35 rfl rfl 2 rfl ?_
    refine zr_if_ne (q := 39) (tgt := 48) dX10_is_36 rfl (by decide) (fun c_6 => ?_) (fun c_6 => ?_)
    · replace h := ite_f c_6 h
      refine zr_aload_n (q := 49) dX10_is_48 rfl rfl 0 rfl ?_
      obtain ⟨c_7, h⟩ := chk_some h
      obtain ⟨a_8, e_9, h⟩ := bnd_some h
      refine zr_getr (q := 52) (ci := 10) (k := 10) dX10_is_49 rfl (eq_of_beq c_7) rfl (by decide) rfl zbX10 (by decide) zb_481 rfl e_9 ?_
      refine zr_iconst (q := 53) (v := 0) dX10_is_52 rfl (by decide) ?_
      obtain ⟨c_10, h⟩ := chk_some h
      obtain ⟨c_11, h⟩ := chk_some h
      refine zr_lald (q := 54) dX10_is_53 rfl (eq_of_beq c_10) c_11 ?_
      exact zr_pick [1] rfl (tX10_is_54 n M_2 v1 (mL M_2 a_8 (Int32.toNatClampNeg (0 : Int32))) _ _ h)
    · replace h := ite_t c_6 h
      refine zr_aload_n (q := 40) dX10_is_39 rfl rfl 0 rfl ?_
      obtain ⟨c_12, h⟩ := chk_some h
      obtain ⟨a_13, e_14, h⟩ := bnd_some h
      refine zr_getr (q := 43) (ci := 10) (k := 9) dX10_is_40 rfl (eq_of_beq c_12) rfl (by decide) rfl zbX10 (by decide) zb_480 rfl e_14 ?_
      refine zr_iconst (q := 44) (v := 0) dX10_is_43 rfl (by decide) ?_
      obtain ⟨c_15, h⟩ := chk_some h
      obtain ⟨c_16, h⟩ := chk_some h
      refine zr_lald (q := 45) dX10_is_44 rfl (eq_of_beq c_15) c_16 ?_
      refine zr_goto (q := 54) dX10_is_45 (by decide) ?_
      exact zr_pick [1] rfl (tX10_is_54 n M_2 v1 (mL M_2 a_13 (Int32.toNatClampNeg (0 : Int32))) _ _ h)
def fX10_is_20 (n : Nat) (M : zM) (v0 : Nat) (v1 : Int32) (v2 : Int32) (s0 : Nat) : Option (Int32 × zM) :=
  fX10_is_25 n M v0 v1 v2 s0 (3 : Int32)
set_option maxHeartbeats 4000000 in
theorem tX10_is_20 (n : Nat) (M : zM) (v0 : Nat) (v1 : Int32) (v2 : Int32) (s0 : Nat) (r : Int32) (M' : zM) (h : fX10_is_20 n M v0 v1 v2 s0 = some (r, M')) : zW uX10_is none (0, 0) M 20 [(0, .ref v0), (1, .int v1), (2, .int v2)] [.ref s0] (zE (oI r) M') := by
  unfold fX10_is_20 at h
  refine zr_iconst (q := 21) (v := 3) dX10_is_20 rfl (by decide) ?_
  refine zr_goto (q := 25) dX10_is_21 (by decide) ?_
  exact zr_pick [0, 1, 2] rfl (tX10_is_25 n M v0 v1 v2 s0 (3 : Int32) _ _ h)
def fX10_is (n : Nat) (M : zM) (v0 : Nat) (v1 : Int32) (v2 : Int32) : Option (Int32 × zM) :=
  chk (mK M v0 == 10) <|
  bnd2 (fX10_noPosition n M v0 v1) fun r_1 M_2 =>
  if r_1 = (0 : Int32) then
    if v2 < (0 : Int32) then
      fX10_is_20 n M_2 v0 v1 v2 v0
    else
    if v2 ≤ (1 : Int32) then
      fX10_is_25 n M_2 v0 v1 v2 v0 (0 : Int32)
    else
    fX10_is_20 n M_2 v0 v1 v2 v0
  else
  some ((0 : Int32), M_2)
set_option maxHeartbeats 4000000 in
theorem tX10_is (n : Nat) (M : zM) (v0 : Nat) (v1 : Int32) (v2 : Int32) (r : Int32) (M' : zM) (h : fX10_is n M v0 v1 v2 = some (r, M')) : zMet uX10_is false M [.ref v0, .int v1, .int v2] (zE (oI r) M') := by
  refine zMet_of (L := [(0, .ref v0), (1, .int v1), (2, .int v2)]) (by decide +kernel) rfl rfl (Nat.le_of_ble_eq_true rfl) ?_
  show zW uX10_is none (0, 0) M 0 [(0, .ref v0), (1, .int v1), (2, .int v2)] [] (zE (oI r) M')
  unfold fX10_is at h
  refine zr_aload_n (q := 1) dX10_is_0 rfl rfl 0 rfl ?_
  refine zr_iload_n (q := 2) dX10_is_1 rfl rfl 1 rfl ?_
  obtain ⟨c_4, h⟩ := chk_some h
  obtain ⟨r_1, M_2, hc_3, h⟩ := bnd2_some h
  refine zr_callVI (μ' := uX10_noPosition) (q := 5) (n := 1) (ci := 10) (As := [.int v1]) (u' := (0, 0)) (tX10_noPosition n M v0 v1 _ _ hc_3) dX10_is_2 rfl rfl ⟨zb_494, zb_495, zb_496, zb_497, zb_389⟩ zd_X10_noPosition ⟨by decide, by decide⟩ ⟨by decide, by decide⟩ (eq_of_beq c_4) (by decide) rfl rfl rfl (Nat.le_of_ble_eq_true rfl) rfl rfl ?_
  refine zr_if_eq (q := 8) (tgt := 10) dX10_is_5 rfl (by decide) (fun c_5 => ?_) (fun c_5 => ?_)
  · replace h := ite_t c_5 h
    refine zr_aload_n (q := 11) dX10_is_10 rfl rfl 0 rfl ?_
    refine zr_iload_n (q := 12) dX10_is_11 rfl rfl 2 rfl ?_
    refine zr_if_lt (q := 15) (tgt := 20) dX10_is_12 rfl (by decide) (fun c_6 => ?_) (fun c_6 => ?_)
    · replace h := ite_t c_6 h
      exact zr_pick [0, 1, 2] rfl (tX10_is_20 n M_2 v0 v1 v2 v0 _ _ h)
    · replace h := ite_f c_6 h
      refine zr_iload_n (q := 16) dX10_is_15 rfl rfl 2 rfl ?_
      refine zr_iconst (q := 17) (v := 1) dX10_is_16 rfl (by decide) ?_
      refine zr_icmp_le (q := 20) (tgt := 24) dX10_is_17 rfl (by decide) (fun c_7 => ?_) (fun c_7 => ?_)
      · replace h := ite_t c_7 h
        refine zr_iconst (q := 25) (v := 0) dX10_is_24 rfl (by decide) ?_
        exact zr_pick [0, 1, 2] rfl (tX10_is_25 n M_2 v0 v1 v2 v0 (0 : Int32) _ _ h)
      · replace h := ite_f c_7 h
        exact zr_pick [0, 1, 2] rfl (tX10_is_20 n M_2 v0 v1 v2 v0 _ _ h)
  · replace h := ite_f c_5 h
    refine zr_iconst (q := 9) (v := 0) dX10_is_8 rfl (by decide) ?_
    cases h
    exact zr_zreturn dX10_is_9 rfl (Or.inl rfl) ⟨by decide, by decide⟩ ⟨rfl, rfl⟩

def uX10_follows : zMu := (yX10_follows, cX10_follows, 3, (some .boolean), { frames := 1, cells := 0, slots := 0, locals := 22 }, [])
theorem zd_X10_follows : (uY uX10_follows).cls ≠ "java/lang/invoke/MethodHandle" ∧ (uY uX10_follows).cls ≠ "java/lang/invoke/VarHandle" ∧ (parseMethodDescriptor (uY uX10_follows).desc).map (fun d => d.parameters.length) = some 2 := by decide +kernel
def fX10_follows_33 (n : Nat) (M : zM)  : Option (Int32 × zM) :=
  some ((0 : Int32), M)
set_option maxHeartbeats 4000000 in
theorem tX10_follows_33 (n : Nat) (M : zM)  (r : Int32) (M' : zM) (h : fX10_follows_33 n M = some (r, M')) : zW uX10_follows none (0, 0) M 33 [] [] (zE (oI r) M') := by
  unfold fX10_follows_33 at h
  refine zr_iconst (q := 34) (v := 0) dX10_follows_33 rfl (by decide) ?_
  cases h
  exact zr_zreturn dX10_follows_34 rfl (Or.inl rfl) ⟨by decide, by decide⟩ ⟨rfl, rfl⟩
def fX10_follows (n : Nat) (M : zM) (v0 : Nat) (v1 : Int32) (v2 : Int32) : Option (Int32 × zM) :=
  chk (mK M v0 == 10) <|
  bnd2 (fX10_noPosition n M v0 v1) fun r_1 M_2 =>
  if r_1 = (0 : Int32) then
    chk (mK M_2 v0 == 10) <|
    bnd2 (fX10_noPosition n M_2 v0 v2) fun r_6 M_7 =>
    if r_6 = (0 : Int32) then
      chk (mK M_7 v0 == 10) <|
      bnd (mR M_7 v0 11) fun a_12 =>
      chk (mK M_7 a_12 == 12) <|
      chk (zin v1 (mN M_7 a_12)) <|
      bnd2 (fX10_hasBit n M_7 (mL M_7 a_12 (Int32.toNatClampNeg v1)) v2) fun r_16 M_17 =>
      if r_16 = (0 : Int32) then
        fX10_follows_33 n M_17
      else
      some ((1 : Int32), M_17)
    else
    fX10_follows_33 n M_7
  else
  fX10_follows_33 n M_2
set_option maxHeartbeats 4000000 in
theorem tX10_follows (n : Nat) (M : zM) (v0 : Nat) (v1 : Int32) (v2 : Int32) (r : Int32) (M' : zM) (h : fX10_follows n M v0 v1 v2 = some (r, M')) : zMet uX10_follows false M [.ref v0, .int v1, .int v2] (zE (oI r) M') := by
  refine zMet_of (L := [(0, .ref v0), (1, .int v1), (2, .int v2)]) (by decide +kernel) rfl rfl (Nat.le_of_ble_eq_true rfl) ?_
  show zW uX10_follows none (0, 0) M 0 [(0, .ref v0), (1, .int v1), (2, .int v2)] [] (zE (oI r) M')
  unfold fX10_follows at h
  refine zr_aload_n (q := 1) dX10_follows_0 rfl rfl 0 rfl ?_
  refine zr_iload_n (q := 2) dX10_follows_1 rfl rfl 1 rfl ?_
  obtain ⟨c_4, h⟩ := chk_some h
  obtain ⟨r_1, M_2, hc_3, h⟩ := bnd2_some h
  refine zr_callVI (μ' := uX10_noPosition) (q := 5) (n := 1) (ci := 10) (As := [.int v1]) (u' := (0, 0)) (tX10_noPosition n M v0 v1 _ _ hc_3) dX10_follows_2 rfl rfl ⟨zb_494, zb_495, zb_496, zb_497, zb_389⟩ zd_X10_noPosition ⟨by decide, by decide⟩ ⟨by decide, by decide⟩ (eq_of_beq c_4) (by decide) rfl rfl rfl (Nat.le_of_ble_eq_true rfl) rfl rfl ?_
  refine zr_if_ne (q := 8) (tgt := 33) dX10_follows_5 rfl (by decide) (fun c_5 => ?_) (fun c_5 => ?_)
  · replace h := ite_f c_5 h
    exact zr_pick [] rfl (tX10_follows_33 n M_2 _ _ h)
  · replace h := ite_t c_5 h
    refine zr_aload_n (q := 9) dX10_follows_8 rfl rfl 0 rfl ?_
    refine zr_iload_n (q := 10) dX10_follows_9 rfl rfl 2 rfl ?_
    obtain ⟨c_9, h⟩ := chk_some h
    obtain ⟨r_6, M_7, hc_8, h⟩ := bnd2_some h
    refine zr_callVI (μ' := uX10_noPosition) (q := 13) (n := 1) (ci := 10) (As := [.int v2]) (u' := (0, 0)) (tX10_noPosition n M_2 v0 v2 _ _ hc_8) dX10_follows_10 rfl rfl ⟨zb_494, zb_495, zb_496, zb_497, zb_389⟩ zd_X10_noPosition ⟨by decide, by decide⟩ ⟨by decide, by decide⟩ (eq_of_beq c_9) (by decide) rfl rfl rfl (Nat.le_of_ble_eq_true rfl) rfl rfl ?_
    refine zr_if_ne (q := 16) (tgt := 33) dX10_follows_13 rfl (by decide) (fun c_10 => ?_) (fun c_10 => ?_)
    · replace h := ite_f c_10 h
      exact zr_pick [] rfl (tX10_follows_33 n M_7 _ _ h)
    · replace h := ite_t c_10 h
      refine zr_aload_n (q := 17) dX10_follows_16 rfl rfl 0 rfl ?_
      obtain ⟨c_11, h⟩ := chk_some h
      obtain ⟨a_12, e_13, h⟩ := bnd_some h
      refine zr_getr (q := 20) (ci := 10) (k := 11) dX10_follows_17 rfl (eq_of_beq c_11) rfl (by decide) rfl zbX10 (by decide) zb_407 rfl e_13 ?_
      refine zr_iload_n (q := 21) dX10_follows_20 rfl rfl 1 rfl ?_
      obtain ⟨c_14, h⟩ := chk_some h
      obtain ⟨c_15, h⟩ := chk_some h
      refine zr_lald (q := 22) dX10_follows_21 rfl (eq_of_beq c_14) c_15 ?_
      refine zr_iload_n (q := 23) dX10_follows_22 rfl rfl 2 rfl ?_
      obtain ⟨r_16, M_17, hc_18, h⟩ := bnd2_some h
      refine zr_callSI (μ' := uX10_hasBit) (q := 26) (n := 2) (As := [.long (mL M_7 a_12 (Int32.toNatClampNeg v1)), .int v2]) (u' := (0, 0)) (tX10_hasBit n M_7 (mL M_7 a_12 (Int32.toNatClampNeg v1)) v2 _ _ hc_18) dX10_follows_23 rfl rfl ⟨zb_404, zb_405, zb_406, zb_389⟩ zd_X10_hasBit ⟨by decide, by decide⟩ ⟨by decide, by decide⟩ rfl rfl (Nat.le_of_ble_eq_true rfl) rfl ?_
      refine zr_if_eq (q := 29) (tgt := 33) dX10_follows_26 rfl (by decide) (fun c_19 => ?_) (fun c_19 => ?_)
      · replace h := ite_t c_19 h
        exact zr_pick [] rfl (tX10_follows_33 n M_17 _ _ h)
      · replace h := ite_f c_19 h
        refine zr_iconst (q := 30) (v := 1) dX10_follows_29 rfl (by decide) ?_
        refine zr_goto (q := 34) dX10_follows_30 (by decide) ?_
        cases h
        exact zr_zreturn dX10_follows_34 rfl (Or.inr rfl) ⟨by decide, by decide⟩ ⟨rfl, rfl⟩

def uX10_has : zMu := (yX10_has, cX10_has, 3, (some .boolean), { frames := 1, cells := 0, slots := 0, locals := 22 }, [])
theorem zd_X10_has : (uY uX10_has).cls ≠ "java/lang/invoke/MethodHandle" ∧ (uY uX10_has).cls ≠ "java/lang/invoke/VarHandle" ∧ (parseMethodDescriptor (uY uX10_has).desc).map (fun d => d.parameters.length) = some 2 := by decide +kernel
def fX10_has_53 (n : Nat) (M : zM)  : Option (Int32 × zM) :=
  some ((0 : Int32), M)
set_option maxHeartbeats 4000000 in
theorem tX10_has_53 (n : Nat) (M : zM)  (r : Int32) (M' : zM) (h : fX10_has_53 n M = some (r, M')) : zW uX10_has none (0, 0) M 53 [] [] (zE (oI r) M') := by
  unfold fX10_has_53 at h
  refine zr_iconst (q := 54) (v := 0) dX10_has_53 rfl (by decide) ?_
  cases h
  exact zr_zreturn dX10_has_54 rfl (Or.inl rfl) ⟨by decide, by decide⟩ ⟨rfl, rfl⟩
def fX10_has_26 (n : Nat) (M : zM) (v0 : Nat) (v1 : Int32) (v2 : Int32) (s0 : Nat) (s1 : Int32) : Option (Int32 × zM) :=
  chk (mK M s0 == 10) <|
  app (wI M s0 0 s1) fun M_2 : zM =>
  chk (mK M_2 v0 == 10) <|
  if (mI M_2 v0 0) = (0 : Int32) then
    chk (mK M_2 v0 == 10) <|
    bnd (mR M_2 v0 12) fun a_7 =>
    chk (mK M_2 a_7 == 12) <|
    chk (zin v1 (mN M_2 a_7)) <|
    bnd2 (fX10_hasBit n M_2 (mL M_2 a_7 (Int32.toNatClampNeg v1)) v2) fun r_11 M_12 =>
    if r_11 = (0 : Int32) then
      fX10_has_53 n M_12
    else
    some ((1 : Int32), M_12)
  else
  fX10_has_53 n M_2
set_option maxHeartbeats 4000000 in
theorem tX10_has_26 (n : Nat) (M : zM) (v0 : Nat) (v1 : Int32) (v2 : Int32) (s0 : Nat) (s1 : Int32) (r : Int32) (M' : zM) (h : fX10_has_26 n M v0 v1 v2 s0 s1 = some (r, M')) : zW uX10_has none (0, 0) M 26 [(0, .ref v0), (1, .int v1), (2, .int v2)] [.int s1, .ref s0] (zE (oI r) M') := by
  unfold fX10_has_26 at h
  obtain ⟨c_1, h⟩ := chk_some h
  obtain ⟨M_2, e_3, h⟩ := app_some h
  refine zr_putI (q := 29) (ci := 10) (k := 0) dX10_has_26 rfl (eq_of_beq c_1) rfl (by decide) rfl zbX10 tyX10_ok nmX10 (by decide) zb_378 (Or.inl rfl) rfl ?_
  refine zr_mem e_3 ?_
  refine zr_aload_n (q := 30) dX10_has_29 rfl rfl 0 rfl ?_
  obtain ⟨c_4, h⟩ := chk_some h
  refine zr_get (q := 33) (ci := 10) (k := 0) dX10_has_30 rfl (eq_of_beq c_4) rfl (by decide) rfl zbX10 (by decide) zb_378 rfl ?_
  refine zr_if_ne (q := 36) (tgt := 53) dX10_has_33 rfl (by decide) (fun c_5 => ?_) (fun c_5 => ?_)
  · replace h := ite_f c_5 h
    exact zr_pick [] rfl (tX10_has_53 n M_2 _ _ h)
  · replace h := ite_t c_5 h
    refine zr_aload_n (q := 37) dX10_has_36 rfl rfl 0 rfl ?_
    obtain ⟨c_6, h⟩ := chk_some h
    obtain ⟨a_7, e_8, h⟩ := bnd_some h
    refine zr_getr (q := 40) (ci := 10) (k := 12) dX10_has_37 rfl (eq_of_beq c_6) rfl (by decide) rfl zbX10 (by decide) zb_420 rfl e_8 ?_
    refine zr_iload_n (q := 41) dX10_has_40 rfl rfl 1 rfl ?_
    obtain ⟨c_9, h⟩ := chk_some h
    obtain ⟨c_10, h⟩ := chk_some h
    refine zr_lald (q := 42) dX10_has_41 rfl (eq_of_beq c_9) c_10 ?_
    refine zr_iload_n (q := 43) dX10_has_42 rfl rfl 2 rfl ?_
    obtain ⟨r_11, M_12, hc_13, h⟩ := bnd2_some h
    refine zr_callSI (μ' := uX10_hasBit) (q := 46) (n := 2) (As := [.long (mL M_2 a_7 (Int32.toNatClampNeg v1)), .int v2]) (u' := (0, 0)) (tX10_hasBit n M_2 (mL M_2 a_7 (Int32.toNatClampNeg v1)) v2 _ _ hc_13) dX10_has_43 rfl rfl ⟨zb_404, zb_405, zb_406, zb_389⟩ zd_X10_hasBit ⟨by decide, by decide⟩ ⟨by decide, by decide⟩ rfl rfl (Nat.le_of_ble_eq_true rfl) rfl ?_
    refine zr_if_eq (q := 49) (tgt := 53) dX10_has_46 rfl (by decide) (fun c_14 => ?_) (fun c_14 => ?_)
    · replace h := ite_t c_14 h
      exact zr_pick [] rfl (tX10_has_53 n M_12 _ _ h)
    · replace h := ite_f c_14 h
      refine zr_iconst (q := 50) (v := 1) dX10_has_49 rfl (by decide) ?_
      refine zr_goto (q := 54) dX10_has_50 (by decide) ?_
      cases h
      exact zr_zreturn dX10_has_54 rfl (Or.inr rfl) ⟨by decide, by decide⟩ ⟨rfl, rfl⟩
def fX10_has_21 (n : Nat) (M : zM) (v0 : Nat) (v1 : Int32) (v2 : Int32) (s0 : Nat) : Option (Int32 × zM) :=
  fX10_has_26 n M v0 v1 v2 s0 (2 : Int32)
set_option maxHeartbeats 4000000 in
theorem tX10_has_21 (n : Nat) (M : zM) (v0 : Nat) (v1 : Int32) (v2 : Int32) (s0 : Nat) (r : Int32) (M' : zM) (h : fX10_has_21 n M v0 v1 v2 s0 = some (r, M')) : zW uX10_has none (0, 0) M 21 [(0, .ref v0), (1, .int v1), (2, .int v2)] [.ref s0] (zE (oI r) M') := by
  unfold fX10_has_21 at h
  refine zr_iconst (q := 22) (v := 2) dX10_has_21 rfl (by decide) ?_
  refine zr_goto (q := 26) dX10_has_22 (by decide) ?_
  exact zr_pick [0, 1, 2] rfl (tX10_has_26 n M v0 v1 v2 s0 (2 : Int32) _ _ h)
def fX10_has (n : Nat) (M : zM) (v0 : Nat) (v1 : Int32) (v2 : Int32) : Option (Int32 × zM) :=
  chk (mK M v0 == 10) <|
  bnd2 (fX10_noPosition n M v0 v1) fun r_1 M_2 =>
  if r_1 = (0 : Int32) then
    if v2 < (0 : Int32) then
      fX10_has_21 n M_2 v0 v1 v2 v0
    else
    if v2 < (36 : Int32) then
      fX10_has_26 n M_2 v0 v1 v2 v0 (0 : Int32)
    else
    fX10_has_21 n M_2 v0 v1 v2 v0
  else
  some ((0 : Int32), M_2)
set_option maxHeartbeats 4000000 in
theorem tX10_has (n : Nat) (M : zM) (v0 : Nat) (v1 : Int32) (v2 : Int32) (r : Int32) (M' : zM) (h : fX10_has n M v0 v1 v2 = some (r, M')) : zMet uX10_has false M [.ref v0, .int v1, .int v2] (zE (oI r) M') := by
  refine zMet_of (L := [(0, .ref v0), (1, .int v1), (2, .int v2)]) (by decide +kernel) rfl rfl (Nat.le_of_ble_eq_true rfl) ?_
  show zW uX10_has none (0, 0) M 0 [(0, .ref v0), (1, .int v1), (2, .int v2)] [] (zE (oI r) M')
  unfold fX10_has at h
  refine zr_aload_n (q := 1) dX10_has_0 rfl rfl 0 rfl ?_
  refine zr_iload_n (q := 2) dX10_has_1 rfl rfl 1 rfl ?_
  obtain ⟨c_4, h⟩ := chk_some h
  obtain ⟨r_1, M_2, hc_3, h⟩ := bnd2_some h
  refine zr_callVI (μ' := uX10_noPosition) (q := 5) (n := 1) (ci := 10) (As := [.int v1]) (u' := (0, 0)) (tX10_noPosition n M v0 v1 _ _ hc_3) dX10_has_2 rfl rfl ⟨zb_494, zb_495, zb_496, zb_497, zb_389⟩ zd_X10_noPosition ⟨by decide, by decide⟩ ⟨by decide, by decide⟩ (eq_of_beq c_4) (by decide) rfl rfl rfl (Nat.le_of_ble_eq_true rfl) rfl rfl ?_
  refine zr_if_eq (q := 8) (tgt := 10) dX10_has_5 rfl (by decide) (fun c_5 => ?_) (fun c_5 => ?_)
  · replace h := ite_t c_5 h
    refine zr_aload_n (q := 11) dX10_has_10 rfl rfl 0 rfl ?_
    refine zr_iload_n (q := 12) dX10_has_11 rfl rfl 2 rfl ?_
    refine zr_if_lt (q := 15) (tgt := 21) dX10_has_12 rfl (by decide) (fun c_6 => ?_) (fun c_6 => ?_)
    · replace h := ite_t c_6 h
      exact zr_pick [0, 1, 2] rfl (tX10_has_21 n M_2 v0 v1 v2 v0 _ _ h)
    · replace h := ite_f c_6 h
      refine zr_iload_n (q := 16) dX10_has_15 rfl rfl 2 rfl ?_
      refine zr_bipush (q := 18) (v := 36) dX10_has_16 rfl (by decide) ?_
      refine zr_icmp_lt (q := 21) (tgt := 25) dX10_has_18 rfl (by decide) (fun c_7 => ?_) (fun c_7 => ?_)
      · replace h := ite_t c_7 h
        refine zr_iconst (q := 26) (v := 0) dX10_has_25 rfl (by decide) ?_
        exact zr_pick [0, 1, 2] rfl (tX10_has_26 n M_2 v0 v1 v2 v0 (0 : Int32) _ _ h)
      · replace h := ite_f c_7 h
        exact zr_pick [0, 1, 2] rfl (tX10_has_21 n M_2 v0 v1 v2 v0 _ _ h)
  · replace h := ite_f c_5 h
    refine zr_iconst (q := 9) (v := 0) dX10_has_8 rfl (by decide) ?_
    cases h
    exact zr_zreturn dX10_has_9 rfl (Or.inl rfl) ⟨by decide, by decide⟩ ⟨rfl, rfl⟩

def uX10_feed : zMu := (yX10_feed, cX10_feed, 5, (some .int), { frames := 1, cells := 0, slots := 0, locals := 20 }, [])
theorem zd_X10_feed : (uY uX10_feed).cls ≠ "java/lang/invoke/MethodHandle" ∧ (uY uX10_feed).cls ≠ "java/lang/invoke/VarHandle" ∧ (parseMethodDescriptor (uY uX10_feed).desc).map (fun d => d.parameters.length) = some 2 := by decide +kernel
def fX10_feed_112 : Nat → zM → Nat → Int64 → Int32 → Int32 → Option (Int32 × zM)
  | 0, _, _, _, _, _ => none
  | n + 1, M, v0, v1, v3, v4 =>
    if v3 ≤ v4 then
      chk (mK M v0 == 10) <|
      some ((mI M v0 4), M)
    else
    chk (mK M v0 == 10) <|
    bnd (mR M v0 3) fun a_4 =>
    chk (mK M v0 == 10) <|
    bnd2 (fX10_letterOf n M (Int64.toInt32 ((jshr v1 ((8 : Int32) * v4)) &&& (255 : Int64)))) fun r_7 M_8 =>
    chk (mK M_8 a_4 == 11) <|
    chk (zin (mI M v0 4) (mN M_8 a_4)) <|
    app (wI M_8 a_4 (Int32.toNatClampNeg (mI M v0 4)) r_7) fun M_12 : zM =>
    chk (mK M_12 v0 == 10) <|
    chk (mK M_12 v0 == 10) <|
    app (wI M_12 v0 4 ((mI M_12 v0 4) + (1 : Int32))) fun M_16 : zM =>
    app (v4 + (1 : Int32)) fun v4_18 : Int32 =>
    (fX10_feed_112 n) M_16 v0 v1 v3 v4_18
set_option maxHeartbeats 4000000 in
theorem tX10_feed_112 : ∀ (n : Nat) (M : zM) (v0 : Nat) (v1 : Int64) (v3 : Int32) (v4 : Int32) (r : Int32) (M' : zM), fX10_feed_112 n M v0 v1 v3 v4 = some (r, M') → zW uX10_feed none (0, 0) M 112 [(0, .ref v0), (1, .long v1), (3, .int v3), (4, .int v4)] [] (zE (oI r) M') := by
  intro n
  induction n with
  | zero => intro M v0 v1 v3 v4 r M' h; cases h
  | succ n ih =>
    intro M v0 v1 v3 v4 r M' h
    rw [fX10_feed_112] at h
    refine zr_iload (q := 114) dX10_feed_112 rfl 3 rfl ?_
    refine zr_iload_n (q := 115) dX10_feed_114 rfl rfl 2 rfl ?_
    refine zr_icmp_ge (q := 118) (tgt := 158) dX10_feed_115 rfl (by decide) (fun c_1 => ?_) (fun c_1 => ?_)
    · replace h := ite_t c_1 h
      refine zr_aload_n (q := 159) dX10_feed_158 rfl rfl 0 rfl ?_
      obtain ⟨c_2, h⟩ := chk_some h
      refine zr_get (q := 162) (ci := 10) (k := 4) dX10_feed_159 rfl (eq_of_beq c_2) rfl (by decide) rfl zbX10 (by decide) zb_498 rfl ?_
      cases h
      exact zr_ireturn dX10_feed_162 rfl ⟨by decide, by decide⟩ ⟨rfl, rfl⟩
    · replace h := ite_f c_1 h
      refine zr_aload_n (q := 119) dX10_feed_118 rfl rfl 0 rfl ?_
      obtain ⟨c_3, h⟩ := chk_some h
      obtain ⟨a_4, e_5, h⟩ := bnd_some h
      refine zr_getr (q := 122) (ci := 10) (k := 3) dX10_feed_119 rfl (eq_of_beq c_3) rfl (by decide) rfl zbX10 (by decide) zb_499 rfl e_5 ?_
      refine zr_aload_n (q := 123) dX10_feed_122 rfl rfl 0 rfl ?_
      obtain ⟨c_6, h⟩ := chk_some h
      refine zr_get (q := 126) (ci := 10) (k := 4) dX10_feed_123 rfl (eq_of_beq c_6) rfl (by decide) rfl zbX10 (by decide) zb_498 rfl ?_
      refine zr_lload_n (q := 127) dX10_feed_126 rfl rfl 1 rfl ?_
      refine zr_bipush (q := 129) (v := 8) dX10_feed_127 rfl (by decide) ?_
      refine zr_iload (q := 131) dX10_feed_129 rfl 3 rfl ?_
      refine zr_imul (q := 132) dX10_feed_131 rfl ?_
      refine zr_lshr (q := 133) dX10_feed_132 rfl ?_
      refine zr_ldc2 (q := 136) (v := 255) dX10_feed_133 rfl zb_381 ?_
      refine zr_land (q := 137) dX10_feed_136 rfl ?_
      refine zr_l2i (q := 138) dX10_feed_137 rfl ?_
      obtain ⟨r_7, M_8, hc_9, h⟩ := bnd2_some h
      refine zr_callSI (μ' := uX10_letterOf) (q := 141) (n := 1) (As := [.int (Int64.toInt32 ((jshr v1 ((8 : Int32) * v4)) &&& (255 : Int64)))]) (u' := (0, 0)) (tX10_letterOf n M (Int64.toInt32 ((jshr v1 ((8 : Int32) * v4)) &&& (255 : Int64))) _ _ hc_9) dX10_feed_138 rfl rfl ⟨zb_441, zb_442, zb_443, zb_389⟩ zd_X10_letterOf ⟨by decide, by decide⟩ ⟨by decide, by decide⟩ rfl rfl (Nat.le_of_ble_eq_true rfl) rfl ?_
      obtain ⟨c_10, h⟩ := chk_some h
      obtain ⟨c_11, h⟩ := chk_some h
      obtain ⟨M_12, e_13, h⟩ := app_some h
      refine zr_iast (q := 142) dX10_feed_141 rfl (eq_of_beq c_10) c_11 ?_
      refine zr_mem e_13 ?_
      refine zr_aload_n (q := 143) dX10_feed_142 rfl rfl 0 rfl ?_
      refine zr_dup (q := 144) dX10_feed_143 rfl rfl ?_
      obtain ⟨c_14, h⟩ := chk_some h
      refine zr_get (q := 147) (ci := 10) (k := 4) dX10_feed_144 rfl (eq_of_beq c_14) rfl (by decide) rfl zbX10 (by decide) zb_498 rfl ?_
      refine zr_iconst (q := 148) (v := 1) dX10_feed_147 rfl (by decide) ?_
      refine zr_iadd (q := 149) dX10_feed_148 rfl ?_
      obtain ⟨c_15, h⟩ := chk_some h
      obtain ⟨M_16, e_17, h⟩ := app_some h
      refine zr_putI (q := 152) (ci := 10) (k := 4) dX10_feed_149 rfl (eq_of_beq c_15) rfl (by decide) rfl zbX10 tyX10_ok nmX10 (by decide) zb_498 (Or.inl rfl) rfl ?_
      refine zr_mem e_17 ?_
      obtain ⟨v4_18, e_19, h⟩ := app_some h
      refine zr_iinc (q := 155) (v := v4_18) (L' := [(4, .int v4_18), (0, .ref v0), (1, .long v1), (3, .int v3)]) dX10_feed_152 rfl 3 rfl (by rw [← e_19]; rfl) (by decide) rfl ?_
      refine zr_goto (q := 112) dX10_feed_155 (by decide) ?_
      exact zr_pick [1, 2, 3, 0] rfl (ih M_16 v0 v1 v3 v4_18 _ _ h)
def fX10_feed_97 (n : Nat) (M : zM) (v0 : Nat) (v1 : Int64) (v3 : Int32) (s0 : Nat) (s1 : Int32) : Option (Int32 × zM) :=
  chk (mK M s0 == 10) <|
  app (wI M s0 0 s1) fun M_2 : zM =>
  chk (mK M_2 v0 == 10) <|
  if (mI M_2 v0 0) ≤ (0 : Int32) then
    fX10_feed_112 n M_2 v0 v1 v3 (0 : Int32)
  else
  some ((0 : Int32), M_2)
set_option maxHeartbeats 4000000 in
theorem tX10_feed_97 (n : Nat) (M : zM) (v0 : Nat) (v1 : Int64) (v3 : Int32) (s0 : Nat) (s1 : Int32) (r : Int32) (M' : zM) (h : fX10_feed_97 n M v0 v1 v3 s0 s1 = some (r, M')) : zW uX10_feed none (0, 0) M 97 [(0, .ref v0), (1, .long v1), (3, .int v3)] [.int s1, .ref s0] (zE (oI r) M') := by
  unfold fX10_feed_97 at h
  obtain ⟨c_1, h⟩ := chk_some h
  obtain ⟨M_2, e_3, h⟩ := app_some h
  refine zr_putI (q := 100) (ci := 10) (k := 0) dX10_feed_97 rfl (eq_of_beq c_1) rfl (by decide) rfl zbX10 tyX10_ok nmX10 (by decide) zb_378 (Or.inl rfl) rfl ?_
  refine zr_mem e_3 ?_
  refine zr_aload_n (q := 101) dX10_feed_100 rfl rfl 0 rfl ?_
  obtain ⟨c_4, h⟩ := chk_some h
  refine zr_get (q := 104) (ci := 10) (k := 0) dX10_feed_101 rfl (eq_of_beq c_4) rfl (by decide) rfl zbX10 (by decide) zb_378 rfl ?_
  refine zr_if_le (q := 107) (tgt := 109) dX10_feed_104 rfl (by decide) (fun c_5 => ?_) (fun c_5 => ?_)
  · replace h := ite_t c_5 h
    refine zr_iconst (q := 110) (v := 0) dX10_feed_109 rfl (by decide) ?_
    refine zr_istore (q := 112) (L' := [(4, .int (0 : Int32)), (0, .ref v0), (1, .long v1), (3, .int v3)]) dX10_feed_110 rfl (by decide) rfl ?_
    exact zr_pick [1, 2, 3, 0] rfl (tX10_feed_112 n M_2 v0 v1 v3 (0 : Int32) _ _ h)
  · replace h := ite_f c_5 h
    refine zr_iconst (q := 108) (v := 0) dX10_feed_107 rfl (by decide) ?_
    cases h
    exact zr_ireturn dX10_feed_108 rfl ⟨by decide, by decide⟩ ⟨rfl, rfl⟩
def fX10_feed_93 (n : Nat) (M : zM) (v0 : Nat) (v1 : Int64) (v3 : Int32) (s0 : Nat) : Option (Int32 × zM) :=
  chk (mK M v0 == 10) <|
  fX10_feed_97 n M v0 v1 v3 s0 (mI M v0 0)
set_option maxHeartbeats 4000000 in
theorem tX10_feed_93 (n : Nat) (M : zM) (v0 : Nat) (v1 : Int64) (v3 : Int32) (s0 : Nat) (r : Int32) (M' : zM) (h : fX10_feed_93 n M v0 v1 v3 s0 = some (r, M')) : zW uX10_feed none (0, 0) M 93 [(0, .ref v0), (1, .long v1), (3, .int v3)] [.ref s0] (zE (oI r) M') := by
  unfold fX10_feed_93 at h
  refine zr_aload_n (q := 94) dX10_feed_93 rfl rfl 0 rfl ?_
  obtain ⟨c_1, h⟩ := chk_some h
  refine zr_get (q := 97) (ci := 10) (k := 0) dX10_feed_94 rfl (eq_of_beq c_1) rfl (by decide) rfl zbX10 (by decide) zb_378 rfl ?_
  exact zr_pick [0, 1, 2] rfl (tX10_feed_97 n M v0 v1 v3 s0 (mI M v0 0) _ _ h)
def fX10_feed_69 (n : Nat) (M : zM) (v0 : Nat) (v1 : Int64) (v3 : Int32) : Option (Int32 × zM) :=
  chk (mK M v0 == 10) <|
  if (mI M v0 0) = (0 : Int32) then
    chk (mK M v0 == 10) <|
    if ((mI M v0 4) + v3) ≤ (200 : Int32) then
      fX10_feed_93 n M v0 v1 v3 v0
    else
    fX10_feed_97 n M v0 v1 v3 v0 (2 : Int32)
  else
  fX10_feed_93 n M v0 v1 v3 v0
set_option maxHeartbeats 4000000 in
theorem tX10_feed_69 (n : Nat) (M : zM) (v0 : Nat) (v1 : Int64) (v3 : Int32) (r : Int32) (M' : zM) (h : fX10_feed_69 n M v0 v1 v3 = some (r, M')) : zW uX10_feed none (0, 0) M 69 [(0, .ref v0), (1, .long v1), (3, .int v3)] [] (zE (oI r) M') := by
  unfold fX10_feed_69 at h
  refine zr_aload_n (q := 70) dX10_feed_69 rfl rfl 0 rfl ?_
  refine zr_aload_n (q := 71) dX10_feed_70 rfl rfl 0 rfl ?_
  obtain ⟨c_1, h⟩ := chk_some h
  refine zr_get (q := 74) (ci := 10) (k := 0) dX10_feed_71 rfl (eq_of_beq c_1) rfl (by decide) rfl zbX10 (by decide) zb_378 rfl ?_
  refine zr_if_ne (q := 77) (tgt := 93) dX10_feed_74 rfl (by decide) (fun c_2 => ?_) (fun c_2 => ?_)
  · replace h := ite_f c_2 h
    exact zr_pick [0, 1, 2] rfl (tX10_feed_93 n M v0 v1 v3 v0 _ _ h)
  · replace h := ite_t c_2 h
    refine zr_aload_n (q := 78) dX10_feed_77 rfl rfl 0 rfl ?_
    obtain ⟨c_3, h⟩ := chk_some h
    refine zr_get (q := 81) (ci := 10) (k := 4) dX10_feed_78 rfl (eq_of_beq c_3) rfl (by decide) rfl zbX10 (by decide) zb_498 rfl ?_
    refine zr_iload_n (q := 82) dX10_feed_81 rfl rfl 2 rfl ?_
    refine zr_iadd (q := 83) dX10_feed_82 rfl ?_
    refine zr_sipush (q := 86) (v := 200) dX10_feed_83 rfl (by decide) ?_
    refine zr_icmp_le (q := 89) (tgt := 93) dX10_feed_86 rfl (by decide) (fun c_4 => ?_) (fun c_4 => ?_)
    · replace h := ite_t c_4 h
      exact zr_pick [0, 1, 2] rfl (tX10_feed_93 n M v0 v1 v3 v0 _ _ h)
    · replace h := ite_f c_4 h
      refine zr_iconst (q := 90) (v := 2) dX10_feed_89 rfl (by decide) ?_
      refine zr_goto (q := 97) dX10_feed_90 (by decide) ?_
      exact zr_pick [0, 1, 2] rfl (tX10_feed_97 n M v0 v1 v3 v0 (2 : Int32) _ _ h)
def fX10_feed_60 (k23 : zM → Nat → Int64 → Int32 → Int32 → Option (Int32 × zM)) (n : Nat) (M : zM) (v0 : Nat) (v1 : Int64) (v3 : Int32) (v4 : Int32) (s0 : Nat) (s1 : Int32) : Option (Int32 × zM) :=
  chk (mK M s0 == 10) <|
  app (wI M s0 0 s1) fun M_2 : zM =>
  app (v4 + (1 : Int32)) fun v4_4 : Int32 =>
  k23 M_2 v0 v1 v3 v4_4
set_option maxHeartbeats 4000000 in
theorem tX10_feed_60 (k23 : zM → Nat → Int64 → Int32 → Int32 → Option (Int32 × zM)) (h23 : ∀ (M : zM) (v0 : Nat) (v1 : Int64) (v3 : Int32) (v4 : Int32) (r : Int32) (M' : zM), k23 M v0 v1 v3 v4 = some (r, M') → zW uX10_feed none (0, 0) M 23 [(0, .ref v0), (1, .long v1), (3, .int v3), (4, .int v4)] [] (zE (oI r) M')) (n : Nat) (M : zM) (v0 : Nat) (v1 : Int64) (v3 : Int32) (v4 : Int32) (s0 : Nat) (s1 : Int32) (r : Int32) (M' : zM) (h : fX10_feed_60 k23 n M v0 v1 v3 v4 s0 s1 = some (r, M')) : zW uX10_feed none (0, 0) M 60 [(0, .ref v0), (1, .long v1), (3, .int v3), (4, .int v4)] [.int s1, .ref s0] (zE (oI r) M') := by
  unfold fX10_feed_60 at h
  obtain ⟨c_1, h⟩ := chk_some h
  obtain ⟨M_2, e_3, h⟩ := app_some h
  refine zr_putI (q := 63) (ci := 10) (k := 0) dX10_feed_60 rfl (eq_of_beq c_1) rfl (by decide) rfl zbX10 tyX10_ok nmX10 (by decide) zb_378 (Or.inl rfl) rfl ?_
  refine zr_mem e_3 ?_
  obtain ⟨v4_4, e_5, h⟩ := app_some h
  refine zr_iinc (q := 66) (v := v4_4) (L' := [(4, .int v4_4), (0, .ref v0), (1, .long v1), (3, .int v3)]) dX10_feed_63 rfl 3 rfl (by rw [← e_5]; rfl) (by decide) rfl ?_
  refine zr_goto (q := 23) dX10_feed_66 (by decide) ?_
  exact zr_pick [1, 2, 3, 0] rfl (h23 M_2 v0 v1 v3 v4_4 _ _ h)
def fX10_feed_23 : Nat → zM → Nat → Int64 → Int32 → Int32 → Option (Int32 × zM)
  | 0, _, _, _, _, _ => none
  | n + 1, M, v0, v1, v3, v4 =>
    if v3 ≤ v4 then
      fX10_feed_69 n M v0 v1 v3
    else
    chk (mK M v0 == 10) <|
    if (mI M v0 0) = (0 : Int32) then
      bnd2 (fX10_letterOf n M (Int64.toInt32 ((jshr v1 ((8 : Int32) * v4)) &&& (255 : Int64)))) fun r_4 M_5 =>
      if (0 : Int32) ≤ r_4 then
        fX10_feed_60 (fX10_feed_23 n) n M_5 v0 v1 v3 v4 v0 (0 : Int32)
      else
      fX10_feed_60 (fX10_feed_23 n) n M_5 v0 v1 v3 v4 v0 (1 : Int32)
    else
    fX10_feed_69 n M v0 v1 v3
set_option maxHeartbeats 4000000 in
theorem tX10_feed_23 : ∀ (n : Nat) (M : zM) (v0 : Nat) (v1 : Int64) (v3 : Int32) (v4 : Int32) (r : Int32) (M' : zM), fX10_feed_23 n M v0 v1 v3 v4 = some (r, M') → zW uX10_feed none (0, 0) M 23 [(0, .ref v0), (1, .long v1), (3, .int v3), (4, .int v4)] [] (zE (oI r) M') := by
  intro n
  induction n with
  | zero => intro M v0 v1 v3 v4 r M' h; cases h
  | succ n ih =>
    intro M v0 v1 v3 v4 r M' h
    rw [fX10_feed_23] at h
    refine zr_iload (q := 25) dX10_feed_23 rfl 3 rfl ?_
    refine zr_iload_n (q := 26) dX10_feed_25 rfl rfl 2 rfl ?_
    refine zr_icmp_ge (q := 29) (tgt := 69) dX10_feed_26 rfl (by decide) (fun c_1 => ?_) (fun c_1 => ?_)
    · replace h := ite_t c_1 h
      exact zr_pick [0, 1, 2] rfl (tX10_feed_69 n M v0 v1 v3 _ _ h)
    · replace h := ite_f c_1 h
      refine zr_aload_n (q := 30) dX10_feed_29 rfl rfl 0 rfl ?_
      obtain ⟨c_2, h⟩ := chk_some h
      refine zr_get (q := 33) (ci := 10) (k := 0) dX10_feed_30 rfl (eq_of_beq c_2) rfl (by decide) rfl zbX10 (by decide) zb_378 rfl ?_
      refine zr_if_ne (q := 36) (tgt := 69) dX10_feed_33 rfl (by decide) (fun c_3 => ?_) (fun c_3 => ?_)
      · replace h := ite_f c_3 h
        exact zr_pick [0, 1, 2] rfl (tX10_feed_69 n M v0 v1 v3 _ _ h)
      · replace h := ite_t c_3 h
        refine zr_aload_n (q := 37) dX10_feed_36 rfl rfl 0 rfl ?_
        refine zr_lload_n (q := 38) dX10_feed_37 rfl rfl 1 rfl ?_
        refine zr_bipush (q := 40) (v := 8) dX10_feed_38 rfl (by decide) ?_
        refine zr_iload (q := 42) dX10_feed_40 rfl 3 rfl ?_
        refine zr_imul (q := 43) dX10_feed_42 rfl ?_
        refine zr_lshr (q := 44) dX10_feed_43 rfl ?_
        refine zr_ldc2 (q := 47) (v := 255) dX10_feed_44 rfl zb_381 ?_
        refine zr_land (q := 48) dX10_feed_47 rfl ?_
        refine zr_l2i (q := 49) dX10_feed_48 rfl ?_
        obtain ⟨r_4, M_5, hc_6, h⟩ := bnd2_some h
        refine zr_callSI (μ' := uX10_letterOf) (q := 52) (n := 1) (As := [.int (Int64.toInt32 ((jshr v1 ((8 : Int32) * v4)) &&& (255 : Int64)))]) (u' := (0, 0)) (tX10_letterOf n M (Int64.toInt32 ((jshr v1 ((8 : Int32) * v4)) &&& (255 : Int64))) _ _ hc_6) dX10_feed_49 rfl rfl ⟨zb_441, zb_442, zb_443, zb_389⟩ zd_X10_letterOf ⟨by decide, by decide⟩ ⟨by decide, by decide⟩ rfl rfl (Nat.le_of_ble_eq_true rfl) rfl ?_
        refine zr_if_ge (q := 55) (tgt := 59) dX10_feed_52 rfl (by decide) (fun c_7 => ?_) (fun c_7 => ?_)
        · replace h := ite_t c_7 h
          refine zr_iconst (q := 60) (v := 0) dX10_feed_59 rfl (by decide) ?_
          exact zr_pick [0, 1, 2, 3] rfl (tX10_feed_60 (fX10_feed_23 n) ih n M_5 v0 v1 v3 v4 v0 (0 : Int32) _ _ h)
        · replace h := ite_f c_7 h
          refine zr_iconst (q := 56) (v := 1) dX10_feed_55 rfl (by decide) ?_
          refine zr_goto (q := 60) dX10_feed_56 (by decide) ?_
          exact zr_pick [0, 1, 2, 3] rfl (tX10_feed_60 (fX10_feed_23 n) ih n M_5 v0 v1 v3 v4 v0 (1 : Int32) _ _ h)
def fX10_feed_17 (n : Nat) (M : zM) (v0 : Nat) (v1 : Int64) (v3 : Int32) (s0 : Nat) (s1 : Int32) : Option (Int32 × zM) :=
  chk (mK M s0 == 10) <|
  app (wI M s0 0 s1) fun M_2 : zM =>
  fX10_feed_23 n M_2 v0 v1 v3 (0 : Int32)
set_option maxHeartbeats 4000000 in
theorem tX10_feed_17 (n : Nat) (M : zM) (v0 : Nat) (v1 : Int64) (v3 : Int32) (s0 : Nat) (s1 : Int32) (r : Int32) (M' : zM) (h : fX10_feed_17 n M v0 v1 v3 s0 s1 = some (r, M')) : zW uX10_feed none (0, 0) M 17 [(0, .ref v0), (1, .long v1), (3, .int v3)] [.int s1, .ref s0] (zE (oI r) M') := by
  unfold fX10_feed_17 at h
  obtain ⟨c_1, h⟩ := chk_some h
  obtain ⟨M_2, e_3, h⟩ := app_some h
  refine zr_putI (q := 20) (ci := 10) (k := 0) dX10_feed_17 rfl (eq_of_beq c_1) rfl (by decide) rfl zbX10 tyX10_ok nmX10 (by decide) zb_378 (Or.inl rfl) rfl ?_
  refine zr_mem e_3 ?_
  refine zr_iconst (q := 21) (v := 0) dX10_feed_20 rfl (by decide) ?_
  refine zr_istore (q := 23) (L' := [(4, .int (0 : Int32)), (0, .ref v0), (1, .long v1), (3, .int v3)]) dX10_feed_21 rfl (by decide) rfl ?_
  exact zr_pick [1, 2, 3, 0] rfl (tX10_feed_23 n M_2 v0 v1 v3 (0 : Int32) _ _ h)
def fX10_feed_12 (n : Nat) (M : zM) (v0 : Nat) (v1 : Int64) (v3 : Int32) (s0 : Nat) : Option (Int32 × zM) :=
  fX10_feed_17 n M v0 v1 v3 s0 (1 : Int32)
set_option maxHeartbeats 4000000 in
theorem tX10_feed_12 (n : Nat) (M : zM) (v0 : Nat) (v1 : Int64) (v3 : Int32) (s0 : Nat) (r : Int32) (M' : zM) (h : fX10_feed_12 n M v0 v1 v3 s0 = some (r, M')) : zW uX10_feed none (0, 0) M 12 [(0, .ref v0), (1, .long v1), (3, .int v3)] [.ref s0] (zE (oI r) M') := by
  unfold fX10_feed_12 at h
  refine zr_iconst (q := 13) (v := 1) dX10_feed_12 rfl (by decide) ?_
  refine zr_goto (q := 17) dX10_feed_13 (by decide) ?_
  exact zr_pick [0, 1, 2] rfl (tX10_feed_17 n M v0 v1 v3 s0 (1 : Int32) _ _ h)
def fX10_feed (n : Nat) (M : zM) (v0 : Nat) (v1 : Int64) (v3 : Int32) : Option (Int32 × zM) :=
  if v3 < (1 : Int32) then
    fX10_feed_12 n M v0 v1 v3 v0
  else
  if v3 ≤ (8 : Int32) then
    fX10_feed_17 n M v0 v1 v3 v0 (0 : Int32)
  else
  fX10_feed_12 n M v0 v1 v3 v0
set_option maxHeartbeats 4000000 in
theorem tX10_feed (n : Nat) (M : zM) (v0 : Nat) (v1 : Int64) (v3 : Int32) (r : Int32) (M' : zM) (h : fX10_feed n M v0 v1 v3 = some (r, M')) : zMet uX10_feed false M [.ref v0, .long v1, .int v3] (zE (oI r) M') := by
  refine zMet_of (L := [(0, .ref v0), (1, .long v1), (3, .int v3)]) (by decide +kernel) rfl rfl (Nat.le_of_ble_eq_true rfl) ?_
  show zW uX10_feed none (0, 0) M 0 [(0, .ref v0), (1, .long v1), (3, .int v3)] [] (zE (oI r) M')
  unfold fX10_feed at h
  refine zr_aload_n (q := 1) dX10_feed_0 rfl rfl 0 rfl ?_
  refine zr_iload_n (q := 2) dX10_feed_1 rfl rfl 2 rfl ?_
  refine zr_iconst (q := 3) (v := 1) dX10_feed_2 rfl (by decide) ?_
  refine zr_icmp_lt (q := 6) (tgt := 12) dX10_feed_3 rfl (by decide) (fun c_1 => ?_) (fun c_1 => ?_)
  · replace h := ite_t c_1 h
    exact zr_pick [0, 1, 2] rfl (tX10_feed_12 n M v0 v1 v3 v0 _ _ h)
  · replace h := ite_f c_1 h
    refine zr_iload_n (q := 7) dX10_feed_6 rfl rfl 2 rfl ?_
    refine zr_bipush (q := 9) (v := 8) dX10_feed_7 rfl (by decide) ?_
    refine zr_icmp_le (q := 12) (tgt := 16) dX10_feed_9 rfl (by decide) (fun c_2 => ?_) (fun c_2 => ?_)
    · replace h := ite_t c_2 h
      refine zr_iconst (q := 17) (v := 0) dX10_feed_16 rfl (by decide) ?_
      exact zr_pick [0, 1, 2] rfl (tX10_feed_17 n M v0 v1 v3 v0 (0 : Int32) _ _ h)
    · replace h := ite_f c_2 h
      exact zr_pick [0, 1, 2] rfl (tX10_feed_12 n M v0 v1 v3 v0 _ _ h)

def uX10_clear : zMu := (yX10_clear, cX10_clear, 2, (some .int), { frames := 0, cells := 0, slots := 0, locals := 0 }, [])
theorem zd_X10_clear : (uY uX10_clear).cls ≠ "java/lang/invoke/MethodHandle" ∧ (uY uX10_clear).cls ≠ "java/lang/invoke/VarHandle" ∧ (parseMethodDescriptor (uY uX10_clear).desc).map (fun d => d.parameters.length) = some 0 := by decide +kernel
def fX10_clear (n : Nat) (M : zM) (v0 : Nat) : Option (Int32 × zM) :=
  chk (mK M v0 == 10) <|
  app (wI M v0 0 (0 : Int32)) fun M_2 : zM =>
  chk (mK M_2 v0 == 10) <|
  app (mI M_2 v0 4) fun v1_5 : Int32 =>
  chk (mK M_2 v0 == 10) <|
  app (wI M_2 v0 4 (0 : Int32)) fun M_8 : zM =>
  some (v1_5, M_8)
set_option maxHeartbeats 4000000 in
theorem tX10_clear (n : Nat) (M : zM) (v0 : Nat) (r : Int32) (M' : zM) (h : fX10_clear n M v0 = some (r, M')) : zMet uX10_clear false M [.ref v0] (zE (oI r) M') := by
  refine zMet_of (L := [(0, .ref v0)]) (by decide +kernel) rfl rfl (Nat.le_of_ble_eq_true rfl) ?_
  show zW uX10_clear none (0, 0) M 0 [(0, .ref v0)] [] (zE (oI r) M')
  unfold fX10_clear at h
  refine zr_aload_n (q := 1) dX10_clear_0 rfl rfl 0 rfl ?_
  refine zr_iconst (q := 2) (v := 0) dX10_clear_1 rfl (by decide) ?_
  obtain ⟨c_1, h⟩ := chk_some h
  obtain ⟨M_2, e_3, h⟩ := app_some h
  refine zr_putI (q := 5) (ci := 10) (k := 0) dX10_clear_2 rfl (eq_of_beq c_1) rfl (by decide) rfl zbX10 tyX10_ok nmX10 (by decide) zb_378 (Or.inl rfl) rfl ?_
  refine zr_mem e_3 ?_
  refine zr_aload_n (q := 6) dX10_clear_5 rfl rfl 0 rfl ?_
  obtain ⟨c_4, h⟩ := chk_some h
  refine zr_get (q := 9) (ci := 10) (k := 4) dX10_clear_6 rfl (eq_of_beq c_4) rfl (by decide) rfl zbX10 (by decide) zb_498 rfl ?_
  obtain ⟨v1_5, e_6, h⟩ := app_some h
  refine zr_nmI e_6 ?_
  refine zr_istore_n (q := 10) (L' := [(1, .int v1_5), (0, .ref v0)]) dX10_clear_9 rfl rfl (by decide) rfl ?_
  refine zr_aload_n (q := 11) dX10_clear_10 rfl rfl 1 rfl ?_
  refine zr_iconst (q := 12) (v := 0) dX10_clear_11 rfl (by decide) ?_
  obtain ⟨c_7, h⟩ := chk_some h
  obtain ⟨M_8, e_9, h⟩ := app_some h
  refine zr_putI (q := 15) (ci := 10) (k := 4) dX10_clear_12 rfl (eq_of_beq c_7) rfl (by decide) rfl zbX10 tyX10_ok nmX10 (by decide) zb_498 (Or.inl rfl) rfl ?_
  refine zr_mem e_9 ?_
  refine zr_iload_n (q := 16) dX10_clear_15 rfl rfl 0 rfl ?_
  cases h
  exact zr_ireturn dX10_clear_16 rfl ⟨by decide, by decide⟩ ⟨rfl, rfl⟩

def uX10_goOn : zMu := (yX10_goOn, cX10_goOn, 9, (some .long), { frames := 1, cells := 0, slots := 0, locals := 22 }, [])
theorem zd_X10_goOn : (uY uX10_goOn).cls ≠ "java/lang/invoke/MethodHandle" ∧ (uY uX10_goOn).cls ≠ "java/lang/invoke/VarHandle" ∧ (parseMethodDescriptor (uY uX10_goOn).desc).map (fun d => d.parameters.length) = some 4 := by decide +kernel
def fX10_goOn_121 (k74 : zM → Nat → Int32 → Int32 → Int64 → Int32 → Option (Int64 × zM)) (n : Nat) (M : zM) (v0 : Nat) (v1 : Int32) (v5 : Int32) (v8 : Int32) (s0 : Int64) : Option (Int64 × zM) :=
  app (v8 + (1 : Int32)) fun v8_1 : Int32 =>
  k74 M v0 v1 v5 s0 v8_1
set_option maxHeartbeats 4000000 in
theorem tX10_goOn_121 (k74 : zM → Nat → Int32 → Int32 → Int64 → Int32 → Option (Int64 × zM)) (h74 : ∀ (M : zM) (v0 : Nat) (v1 : Int32) (v5 : Int32) (v6 : Int64) (v8 : Int32) (r : Int64) (M' : zM), k74 M v0 v1 v5 v6 v8 = some (r, M') → zW uX10_goOn none (0, 0) M 74 [(0, .ref v0), (1, .int v1), (5, .int v5), (6, .long v6), (8, .int v8)] [] (zE (oL r) M')) (n : Nat) (M : zM) (v0 : Nat) (v1 : Int32) (v5 : Int32) (v8 : Int32) (s0 : Int64) (r : Int64) (M' : zM) (h : fX10_goOn_121 k74 n M v0 v1 v5 v8 s0 = some (r, M')) : zW uX10_goOn none (0, 0) M 121 [(0, .ref v0), (1, .int v1), (5, .int v5), (8, .int v8)] [.long s0] (zE (oL r) M') := by
  unfold fX10_goOn_121 at h
  refine zr_lstore (q := 123) (L' := [(6, .long s0), (0, .ref v0), (1, .int v1), (5, .int v5), (8, .int v8)]) dX10_goOn_121 rfl (by decide) rfl ?_
  obtain ⟨v8_1, e_2, h⟩ := app_some h
  refine zr_iinc (q := 126) (v := v8_1) (L' := [(8, .int v8_1), (6, .long s0), (0, .ref v0), (1, .int v1), (5, .int v5)]) dX10_goOn_123 rfl 4 rfl (by rw [← e_2]; rfl) (by decide) rfl ?_
  refine zr_goto (q := 74) dX10_goOn_126 (by decide) ?_
  exact zr_pick [2, 3, 4, 1, 0] rfl (h74 M v0 v1 v5 s0 v8_1 _ _ h)
def fX10_goOn_74 : Nat → zM → Nat → Int32 → Int32 → Int64 → Int32 → Option (Int64 × zM)
  | 0, _, _, _, _, _, _ => none
  | n + 1, M, v0, v1, v5, v6, v8 =>
    chk (mK M v0 == 10) <|
    bnd (mR M v0 7) fun a_2 =>
    chk (mK M a_2 == 11) <|
    chk (zin v1 (mN M a_2)) <|
    if (mI M a_2 (Int32.toNatClampNeg v1)) ≤ v8 then
      some (v6, M)
    else
    chk (mK M v0 == 10) <|
    bnd (mR M v0 12) fun a_8 =>
    chk (mK M a_8 == 12) <|
    chk (zin (((60 : Int32) * v1) + v8) (mN M a_8)) <|
    bnd2 (fX10_hasBit n M (mL M a_8 (Int32.toNatClampNeg (((60 : Int32) * v1) + v8))) v5) fun r_12 M_13 =>
    if r_12 = (0 : Int32) then
      fX10_goOn_121 (fX10_goOn_74 n) n M_13 v0 v1 v5 v8 (v6 &&& ((jshl (1 : Int64) v8) ^^^ (-1 : Int64)))
    else
    fX10_goOn_121 (fX10_goOn_74 n) n M_13 v0 v1 v5 v8 v6
set_option maxHeartbeats 4000000 in
theorem tX10_goOn_74 : ∀ (n : Nat) (M : zM) (v0 : Nat) (v1 : Int32) (v5 : Int32) (v6 : Int64) (v8 : Int32) (r : Int64) (M' : zM), fX10_goOn_74 n M v0 v1 v5 v6 v8 = some (r, M') → zW uX10_goOn none (0, 0) M 74 [(0, .ref v0), (1, .int v1), (5, .int v5), (6, .long v6), (8, .int v8)] [] (zE (oL r) M') := by
  intro n
  induction n with
  | zero => intro M v0 v1 v5 v6 v8 r M' h; cases h
  | succ n ih =>
    intro M v0 v1 v5 v6 v8 r M' h
    rw [fX10_goOn_74] at h
    refine zr_iload (q := 76) dX10_goOn_74 rfl 4 rfl ?_
    refine zr_aload_n (q := 77) dX10_goOn_76 rfl rfl 0 rfl ?_
    obtain ⟨c_1, h⟩ := chk_some h
    obtain ⟨a_2, e_3, h⟩ := bnd_some h
    refine zr_getr (q := 80) (ci := 10) (k := 7) dX10_goOn_77 rfl (eq_of_beq c_1) rfl (by decide) rfl zbX10 (by decide) zb_478 rfl e_3 ?_
    refine zr_iload_n (q := 81) dX10_goOn_80 rfl rfl 1 rfl ?_
    obtain ⟨c_4, h⟩ := chk_some h
    obtain ⟨c_5, h⟩ := chk_some h
    refine zr_iald (q := 82) dX10_goOn_81 rfl (eq_of_beq c_4) c_5 ?_
    refine zr_icmp_ge (q := 85) (tgt := 129) dX10_goOn_82 rfl (by decide) (fun c_6 => ?_) (fun c_6 => ?_)
    · replace h := ite_t c_6 h
      refine zr_lload (q := 131) dX10_goOn_129 rfl 3 rfl ?_
      cases h
      exact zr_lreturn dX10_goOn_131 rfl ⟨by decide, by decide⟩ ⟨rfl, rfl⟩
    · replace h := ite_f c_6 h
      refine zr_aload_n (q := 86) dX10_goOn_85 rfl rfl 0 rfl ?_
      obtain ⟨c_7, h⟩ := chk_some h
      obtain ⟨a_8, e_9, h⟩ := bnd_some h
      refine zr_getr (q := 89) (ci := 10) (k := 12) dX10_goOn_86 rfl (eq_of_beq c_7) rfl (by decide) rfl zbX10 (by decide) zb_420 rfl e_9 ?_
      refine zr_bipush (q := 91) (v := 60) dX10_goOn_89 rfl (by decide) ?_
      refine zr_iload_n (q := 92) dX10_goOn_91 rfl rfl 1 rfl ?_
      refine zr_imul (q := 93) dX10_goOn_92 rfl ?_
      refine zr_iload (q := 95) dX10_goOn_93 rfl 4 rfl ?_
      refine zr_iadd (q := 96) dX10_goOn_95 rfl ?_
      obtain ⟨c_10, h⟩ := chk_some h
      obtain ⟨c_11, h⟩ := chk_some h
      refine zr_lald (q := 97) dX10_goOn_96 rfl (eq_of_beq c_10) c_11 ?_
      refine zr_iload (q := 99) dX10_goOn_97 rfl 2 rfl ?_
      obtain ⟨r_12, M_13, hc_14, h⟩ := bnd2_some h
      refine zr_callSI (μ' := uX10_hasBit) (q := 102) (n := 2) (As := [.long (mL M a_8 (Int32.toNatClampNeg (((60 : Int32) * v1) + v8))), .int v5]) (u' := (0, 0)) (tX10_hasBit n M (mL M a_8 (Int32.toNatClampNeg (((60 : Int32) * v1) + v8))) v5 _ _ hc_14) dX10_goOn_99 rfl rfl ⟨zb_404, zb_405, zb_406, zb_389⟩ zd_X10_hasBit ⟨by decide, by decide⟩ ⟨by decide, by decide⟩ rfl rfl (Nat.le_of_ble_eq_true rfl) rfl ?_
      refine zr_if_eq (q := 105) (tgt := 110) dX10_goOn_102 rfl (by decide) (fun c_15 => ?_) (fun c_15 => ?_)
      · replace h := ite_t c_15 h
        refine zr_lload (q := 112) dX10_goOn_110 rfl 3 rfl ?_
        refine zr_lconst (q := 113) (v := 1) dX10_goOn_112 rfl (by decide) ?_
        refine zr_iload (q := 115) dX10_goOn_113 rfl 4 rfl ?_
        refine zr_lshl (q := 116) dX10_goOn_115 rfl ?_
        refine zr_ldc2 (q := 119) (v := -1) dX10_goOn_116 rfl zb_432 ?_
        refine zr_lxor (q := 120) dX10_goOn_119 rfl ?_
        refine zr_land (q := 121) dX10_goOn_120 rfl ?_
        exact zr_pick [0, 1, 2, 4] rfl (tX10_goOn_121 (fX10_goOn_74 n) ih n M_13 v0 v1 v5 v8 (v6 &&& ((jshl (1 : Int64) v8) ^^^ (-1 : Int64))) _ _ h)
      · replace h := ite_f c_15 h
        refine zr_lload (q := 107) dX10_goOn_105 rfl 3 rfl ?_
        refine zr_goto (q := 121) dX10_goOn_107 (by decide) ?_
        exact zr_pick [0, 1, 2, 4] rfl (tX10_goOn_121 (fX10_goOn_74 n) ih n M_13 v0 v1 v5 v8 v6 _ _ h)
def fX10_goOn_71 (n : Nat) (M : zM) (v0 : Nat) (v1 : Int32) (v5 : Int32) (v6 : Int64) : Option (Int64 × zM) :=
  fX10_goOn_74 n M v0 v1 v5 v6 (0 : Int32)
set_option maxHeartbeats 4000000 in
theorem tX10_goOn_71 (n : Nat) (M : zM) (v0 : Nat) (v1 : Int32) (v5 : Int32) (v6 : Int64) (r : Int64) (M' : zM) (h : fX10_goOn_71 n M v0 v1 v5 v6 = some (r, M')) : zW uX10_goOn none (0, 0) M 71 [(0, .ref v0), (1, .int v1), (5, .int v5), (6, .long v6)] [] (zE (oL r) M') := by
  unfold fX10_goOn_71 at h
  refine zr_iconst (q := 72) (v := 0) dX10_goOn_71 rfl (by decide) ?_
  refine zr_istore (q := 74) (L' := [(8, .int (0 : Int32)), (0, .ref v0), (1, .int v1), (5, .int v5), (6, .long v6)]) dX10_goOn_72 rfl (by decide) rfl ?_
  exact zr_pick [1, 2, 3, 4, 0] rfl (tX10_goOn_74 n M v0 v1 v5 v6 (0 : Int32) _ _ h)
def fX10_goOn_63 (k19 : zM → Nat → Int32 → Int32 → Int64 → Int32 → Int64 → Int32 → Option (Int64 × zM)) (n : Nat) (M : zM) (v0 : Nat) (v1 : Int32) (v2 : Int32) (v3 : Int64) (v5 : Int32) (v8 : Int32) (s0 : Int64) : Option (Int64 × zM) :=
  app (v8 + (1 : Int32)) fun v8_1 : Int32 =>
  k19 M v0 v1 v2 v3 v5 s0 v8_1
set_option maxHeartbeats 4000000 in
theorem tX10_goOn_63 (k19 : zM → Nat → Int32 → Int32 → Int64 → Int32 → Int64 → Int32 → Option (Int64 × zM)) (h19 : ∀ (M : zM) (v0 : Nat) (v1 : Int32) (v2 : Int32) (v3 : Int64) (v5 : Int32) (v6 : Int64) (v8 : Int32) (r : Int64) (M' : zM), k19 M v0 v1 v2 v3 v5 v6 v8 = some (r, M') → zW uX10_goOn none (0, 0) M 19 [(0, .ref v0), (1, .int v1), (2, .int v2), (3, .long v3), (5, .int v5), (6, .long v6), (8, .int v8)] [] (zE (oL r) M')) (n : Nat) (M : zM) (v0 : Nat) (v1 : Int32) (v2 : Int32) (v3 : Int64) (v5 : Int32) (v8 : Int32) (s0 : Int64) (r : Int64) (M' : zM) (h : fX10_goOn_63 k19 n M v0 v1 v2 v3 v5 v8 s0 = some (r, M')) : zW uX10_goOn none (0, 0) M 63 [(0, .ref v0), (1, .int v1), (2, .int v2), (3, .long v3), (5, .int v5), (8, .int v8)] [.long s0] (zE (oL r) M') := by
  unfold fX10_goOn_63 at h
  refine zr_lstore (q := 65) (L' := [(6, .long s0), (0, .ref v0), (1, .int v1), (2, .int v2), (3, .long v3), (5, .int v5), (8, .int v8)]) dX10_goOn_63 rfl (by decide) rfl ?_
  obtain ⟨v8_1, e_2, h⟩ := app_some h
  refine zr_iinc (q := 68) (v := v8_1) (L' := [(8, .int v8_1), (6, .long s0), (0, .ref v0), (1, .int v1), (2, .int v2), (3, .long v3), (5, .int v5)]) dX10_goOn_65 rfl 6 rfl (by rw [← e_2]; rfl) (by decide) rfl ?_
  refine zr_goto (q := 19) dX10_goOn_68 (by decide) ?_
  exact zr_pick [2, 3, 4, 5, 6, 1, 0] rfl (h19 M v0 v1 v2 v3 v5 s0 v8_1 _ _ h)
def fX10_goOn_19 : Nat → zM → Nat → Int32 → Int32 → Int64 → Int32 → Int64 → Int32 → Option (Int64 × zM)
  | 0, _, _, _, _, _, _, _, _ => none
  | n + 1, M, v0, v1, v2, v3, v5, v6, v8 =>
    chk (mK M v0 == 10) <|
    bnd (mR M v0 7) fun a_2 =>
    chk (mK M a_2 == 11) <|
    chk (zin v1 (mN M a_2)) <|
    if (mI M a_2 (Int32.toNatClampNeg v1)) ≤ v8 then
      fX10_goOn_71 n M v0 v1 v5 v6
    else
    if v2 = (0 : Int32) then
      bnd2 (fX10_hasBit n M v3 v8) fun r_8 M_9 =>
      if r_8 = (0 : Int32) then
        fX10_goOn_63 (fX10_goOn_19 n) n M_9 v0 v1 v2 v3 v5 v8 v6
      else
      chk (mK M_9 v0 == 10) <|
      bnd (mR M_9 v0 11) fun a_13 =>
      chk (mK M_9 a_13 == 12) <|
      chk (zin (((60 : Int32) * v1) + v8) (mN M_9 a_13)) <|
      fX10_goOn_63 (fX10_goOn_19 n) n M_9 v0 v1 v2 v3 v5 v8 (v6 ||| (mL M_9 a_13 (Int32.toNatClampNeg (((60 : Int32) * v1) + v8))))
    else
    fX10_goOn_71 n M v0 v1 v5 v6
set_option maxHeartbeats 4000000 in
theorem tX10_goOn_19 : ∀ (n : Nat) (M : zM) (v0 : Nat) (v1 : Int32) (v2 : Int32) (v3 : Int64) (v5 : Int32) (v6 : Int64) (v8 : Int32) (r : Int64) (M' : zM), fX10_goOn_19 n M v0 v1 v2 v3 v5 v6 v8 = some (r, M') → zW uX10_goOn none (0, 0) M 19 [(0, .ref v0), (1, .int v1), (2, .int v2), (3, .long v3), (5, .int v5), (6, .long v6), (8, .int v8)] [] (zE (oL r) M') := by
  intro n
  induction n with
  | zero => intro M v0 v1 v2 v3 v5 v6 v8 r M' h; cases h
  | succ n ih =>
    intro M v0 v1 v2 v3 v5 v6 v8 r M' h
    rw [fX10_goOn_19] at h
    refine zr_iload (q := 21) dX10_goOn_19 rfl 6 rfl ?_
    refine zr_aload_n (q := 22) dX10_goOn_21 rfl rfl 0 rfl ?_
    obtain ⟨c_1, h⟩ := chk_some h
    obtain ⟨a_2, e_3, h⟩ := bnd_some h
    refine zr_getr (q := 25) (ci := 10) (k := 7) dX10_goOn_22 rfl (eq_of_beq c_1) rfl (by decide) rfl zbX10 (by decide) zb_478 rfl e_3 ?_
    refine zr_iload_n (q := 26) dX10_goOn_25 rfl rfl 1 rfl ?_
    obtain ⟨c_4, h⟩ := chk_some h
    obtain ⟨c_5, h⟩ := chk_some h
    refine zr_iald (q := 27) dX10_goOn_26 rfl (eq_of_beq c_4) c_5 ?_
    refine zr_icmp_ge (q := 30) (tgt := 71) dX10_goOn_27 rfl (by decide) (fun c_6 => ?_) (fun c_6 => ?_)
    · replace h := ite_t c_6 h
      exact zr_pick [0, 1, 4, 5] rfl (tX10_goOn_71 n M v0 v1 v5 v6 _ _ h)
    · replace h := ite_f c_6 h
      refine zr_iload_n (q := 31) dX10_goOn_30 rfl rfl 2 rfl ?_
      refine zr_if_ne (q := 34) (tgt := 71) dX10_goOn_31 rfl (by decide) (fun c_7 => ?_) (fun c_7 => ?_)
      · replace h := ite_f c_7 h
        exact zr_pick [0, 1, 4, 5] rfl (tX10_goOn_71 n M v0 v1 v5 v6 _ _ h)
      · replace h := ite_t c_7 h
        refine zr_lload_n (q := 35) dX10_goOn_34 rfl rfl 3 rfl ?_
        refine zr_iload (q := 37) dX10_goOn_35 rfl 6 rfl ?_
        obtain ⟨r_8, M_9, hc_10, h⟩ := bnd2_some h
        refine zr_callSI (μ' := uX10_hasBit) (q := 40) (n := 2) (As := [.long v3, .int v8]) (u' := (0, 0)) (tX10_hasBit n M v3 v8 _ _ hc_10) dX10_goOn_37 rfl rfl ⟨zb_404, zb_405, zb_406, zb_389⟩ zd_X10_hasBit ⟨by decide, by decide⟩ ⟨by decide, by decide⟩ rfl rfl (Nat.le_of_ble_eq_true rfl) rfl ?_
        refine zr_if_eq (q := 43) (tgt := 61) dX10_goOn_40 rfl (by decide) (fun c_11 => ?_) (fun c_11 => ?_)
        · replace h := ite_t c_11 h
          refine zr_lload (q := 63) dX10_goOn_61 rfl 5 rfl ?_
          exact zr_pick [0, 1, 2, 3, 4, 6] rfl (tX10_goOn_63 (fX10_goOn_19 n) ih n M_9 v0 v1 v2 v3 v5 v8 v6 _ _ h)
        · replace h := ite_f c_11 h
          refine zr_lload (q := 45) dX10_goOn_43 rfl 5 rfl ?_
          refine zr_aload_n (q := 46) dX10_goOn_45 rfl rfl 0 rfl ?_
          obtain ⟨c_12, h⟩ := chk_some h
          obtain ⟨a_13, e_14, h⟩ := bnd_some h
          refine zr_getr (q := 49) (ci := 10) (k := 11) dX10_goOn_46 rfl (eq_of_beq c_12) rfl (by decide) rfl zbX10 (by decide) zb_407 rfl e_14 ?_
          refine zr_bipush (q := 51) (v := 60) dX10_goOn_49 rfl (by decide) ?_
          refine zr_iload_n (q := 52) dX10_goOn_51 rfl rfl 1 rfl ?_
          refine zr_imul (q := 53) dX10_goOn_52 rfl ?_
          refine zr_iload (q := 55) dX10_goOn_53 rfl 6 rfl ?_
          refine zr_iadd (q := 56) dX10_goOn_55 rfl ?_
          obtain ⟨c_15, h⟩ := chk_some h
          obtain ⟨c_16, h⟩ := chk_some h
          refine zr_lald (q := 57) dX10_goOn_56 rfl (eq_of_beq c_15) c_16 ?_
          refine zr_lor (q := 58) dX10_goOn_57 rfl ?_
          refine zr_goto (q := 63) dX10_goOn_58 (by decide) ?_
          exact zr_pick [0, 1, 2, 3, 4, 6] rfl (tX10_goOn_63 (fX10_goOn_19 n) ih n M_9 v0 v1 v2 v3 v5 v8 (v6 ||| (mL M_9 a_13 (Int32.toNatClampNeg (((60 : Int32) * v1) + v8)))) _ _ h)
def fX10_goOn_14 (n : Nat) (M : zM) (v0 : Nat) (v1 : Int32) (v2 : Int32) (v3 : Int64) (v5 : Int32) (s0 : Int64) : Option (Int64 × zM) :=
  fX10_goOn_19 n M v0 v1 v2 v3 v5 s0 (0 : Int32)
set_option maxHeartbeats 4000000 in
theorem tX10_goOn_14 (n : Nat) (M : zM) (v0 : Nat) (v1 : Int32) (v2 : Int32) (v3 : Int64) (v5 : Int32) (s0 : Int64) (r : Int64) (M' : zM) (h : fX10_goOn_14 n M v0 v1 v2 v3 v5 s0 = some (r, M')) : zW uX10_goOn none (0, 0) M 14 [(0, .ref v0), (1, .int v1), (2, .int v2), (3, .long v3), (5, .int v5)] [.long s0] (zE (oL r) M') := by
  unfold fX10_goOn_14 at h
  refine zr_lstore (q := 16) (L' := [(6, .long s0), (0, .ref v0), (1, .int v1), (2, .int v2), (3, .long v3), (5, .int v5)]) dX10_goOn_14 rfl (by decide) rfl ?_
  refine zr_iconst (q := 17) (v := 0) dX10_goOn_16 rfl (by decide) ?_
  refine zr_istore (q := 19) (L' := [(8, .int (0 : Int32)), (6, .long s0), (0, .ref v0), (1, .int v1), (2, .int v2), (3, .long v3), (5, .int v5)]) dX10_goOn_17 rfl (by decide) rfl ?_
  exact zr_pick [2, 3, 4, 5, 6, 1, 0] rfl (tX10_goOn_19 n M v0 v1 v2 v3 v5 s0 (0 : Int32) _ _ h)
def fX10_goOn (n : Nat) (M : zM) (v0 : Nat) (v1 : Int32) (v2 : Int32) (v3 : Int64) (v5 : Int32) : Option (Int64 × zM) :=
  if v2 = (0 : Int32) then
    fX10_goOn_14 n M v0 v1 v2 v3 v5 (0 : Int64)
  else
  chk (mK M v0 == 10) <|
  bnd (mR M v0 9) fun a_3 =>
  chk (mK M a_3 == 12) <|
  chk (zin v1 (mN M a_3)) <|
  fX10_goOn_14 n M v0 v1 v2 v3 v5 (mL M a_3 (Int32.toNatClampNeg v1))
set_option maxHeartbeats 4000000 in
theorem tX10_goOn (n : Nat) (M : zM) (v0 : Nat) (v1 : Int32) (v2 : Int32) (v3 : Int64) (v5 : Int32) (r : Int64) (M' : zM) (h : fX10_goOn n M v0 v1 v2 v3 v5 = some (r, M')) : zMet uX10_goOn false M [.ref v0, .int v1, .int v2, .long v3, .int v5] (zE (oL r) M') := by
  refine zMet_of (L := [(0, .ref v0), (1, .int v1), (2, .int v2), (3, .long v3), (5, .int v5)]) (by decide +kernel) rfl rfl (Nat.le_of_ble_eq_true rfl) ?_
  show zW uX10_goOn none (0, 0) M 0 [(0, .ref v0), (1, .int v1), (2, .int v2), (3, .long v3), (5, .int v5)] [] (zE (oL r) M')
  unfold fX10_goOn at h
  refine zr_iload_n (q := 1) dX10_goOn_0 rfl rfl 2 rfl ?_
  refine zr_if_eq (q := 4) (tgt := 13) dX10_goOn_1 rfl (by decide) (fun c_1 => ?_) (fun c_1 => ?_)
  · replace h := ite_t c_1 h
    refine zr_lconst (q := 14) (v := 0) dX10_goOn_13 rfl (by decide) ?_
    exact zr_pick [0, 1, 2, 3, 4] rfl (tX10_goOn_14 n M v0 v1 v2 v3 v5 (0 : Int64) _ _ h)
  · replace h := ite_f c_1 h
    refine zr_aload_n (q := 5) dX10_goOn_4 rfl rfl 0 rfl ?_
    obtain ⟨c_2, h⟩ := chk_some h
    obtain ⟨a_3, e_4, h⟩ := bnd_some h
    refine zr_getr (q := 8) (ci := 10) (k := 9) dX10_goOn_5 rfl (eq_of_beq c_2) rfl (by decide) rfl zbX10 (by decide) zb_480 rfl e_4 ?_
    refine zr_iload_n (q := 9) dX10_goOn_8 rfl rfl 1 rfl ?_
    obtain ⟨c_5, h⟩ := chk_some h
    obtain ⟨c_6, h⟩ := chk_some h
    refine zr_lald (q := 10) dX10_goOn_9 rfl (eq_of_beq c_5) c_6 ?_
    refine zr_goto (q := 14) dX10_goOn_10 (by decide) ?_
    exact zr_pick [0, 1, 2, 3, 4] rfl (tX10_goOn_14 n M v0 v1 v2 v3 v5 (mL M a_3 (Int32.toNatClampNeg v1)) _ _ h)

def uX10_longest : zMu := (yX10_longest, cX10_longest, 6, (some .int), { frames := 2, cells := 0, slots := 0, locals := 50 }, [])
theorem zd_X10_longest : (uY uX10_longest).cls ≠ "java/lang/invoke/MethodHandle" ∧ (uY uX10_longest).cls ≠ "java/lang/invoke/VarHandle" ∧ (parseMethodDescriptor (uY uX10_longest).desc).map (fun d => d.parameters.length) = some 1 := by decide +kernel
def fX10_longest_74 (k7 : zM → Nat → Int32 → Int32 → Int64 → Int32 → Option (Int32 × zM)) (n : Nat) (M : zM) (v0 : Nat) (v1 : Int32) (v3 : Int64) (v5 : Int32) (s0 : Int32) : Option (Int32 × zM) :=
  app (v5 + (1 : Int32)) fun v5_1 : Int32 =>
  k7 M v0 v1 s0 v3 v5_1
set_option maxHeartbeats 4000000 in
theorem tX10_longest_74 (k7 : zM → Nat → Int32 → Int32 → Int64 → Int32 → Option (Int32 × zM)) (h7 : ∀ (M : zM) (v0 : Nat) (v1 : Int32) (v2 : Int32) (v3 : Int64) (v5 : Int32) (r : Int32) (M' : zM), k7 M v0 v1 v2 v3 v5 = some (r, M') → zW uX10_longest none (0, 0) M 7 [(0, .ref v0), (1, .int v1), (2, .int v2), (3, .long v3), (5, .int v5)] [] (zE (oI r) M')) (n : Nat) (M : zM) (v0 : Nat) (v1 : Int32) (v3 : Int64) (v5 : Int32) (s0 : Int32) (r : Int32) (M' : zM) (h : fX10_longest_74 k7 n M v0 v1 v3 v5 s0 = some (r, M')) : zW uX10_longest none (0, 0) M 74 [(0, .ref v0), (1, .int v1), (3, .long v3), (5, .int v5)] [.int s0] (zE (oI r) M') := by
  unfold fX10_longest_74 at h
  refine zr_istore_n (q := 75) (L' := [(2, .int s0), (0, .ref v0), (1, .int v1), (3, .long v3), (5, .int v5)]) dX10_longest_74 rfl rfl (by decide) rfl ?_
  obtain ⟨v5_1, e_2, h⟩ := app_some h
  refine zr_iinc (q := 78) (v := v5_1) (L' := [(5, .int v5_1), (2, .int s0), (0, .ref v0), (1, .int v1), (3, .long v3)]) dX10_longest_75 rfl 4 rfl (by rw [← e_2]; rfl) (by decide) rfl ?_
  refine zr_goto (q := 7) dX10_longest_78 (by decide) ?_
  exact zr_pick [2, 3, 1, 4, 0] rfl (h7 M v0 v1 s0 v3 v5_1 _ _ h)
def fX10_longest_41 (k7 : zM → Nat → Int32 → Int32 → Int64 → Int32 → Option (Int32 × zM)) (n : Nat) (M : zM) (v0 : Nat) (v1 : Int32) (v2 : Int32) (v3 : Int64) (v5 : Int32) (s0 : Nat) (s1 : Int32) (s2 : Int32) : Option (Int32 × zM) :=
  chk (mK M v0 == 10) <|
  bnd (mR M v0 3) fun a_2 =>
  chk (mK M a_2 == 11) <|
  chk (zin v5 (mN M a_2)) <|
  chk (mK M s0 == 10) <|
  bnd2 (fX10_goOn n M s0 s1 s2 v3 (mI M a_2 (Int32.toNatClampNeg v5))) fun r_6 M_7 =>
  chk (mK M_7 v0 == 10) <|
  bnd (mR M_7 v0 10) fun a_11 =>
  chk (mK M_7 a_11 == 12) <|
  chk (zin (0 : Int32) (mN M_7 a_11)) <|
  if (lg_cmp (r_6 &&& (mL M_7 a_11 (Int32.toNatClampNeg (0 : Int32)))) (0 : Int64)) = (0 : Int32) then
    fX10_longest_74 k7 n M_7 v0 v1 r_6 v5 v2
  else
  fX10_longest_74 k7 n M_7 v0 v1 r_6 v5 (v5 + (1 : Int32))
set_option maxHeartbeats 4000000 in
theorem tX10_longest_41 (k7 : zM → Nat → Int32 → Int32 → Int64 → Int32 → Option (Int32 × zM)) (h7 : ∀ (M : zM) (v0 : Nat) (v1 : Int32) (v2 : Int32) (v3 : Int64) (v5 : Int32) (r : Int32) (M' : zM), k7 M v0 v1 v2 v3 v5 = some (r, M') → zW uX10_longest none (0, 0) M 7 [(0, .ref v0), (1, .int v1), (2, .int v2), (3, .long v3), (5, .int v5)] [] (zE (oI r) M')) (n : Nat) (M : zM) (v0 : Nat) (v1 : Int32) (v2 : Int32) (v3 : Int64) (v5 : Int32) (s0 : Nat) (s1 : Int32) (s2 : Int32) (r : Int32) (M' : zM) (h : fX10_longest_41 k7 n M v0 v1 v2 v3 v5 s0 s1 s2 = some (r, M')) : zW uX10_longest none (0, 0) M 41 [(0, .ref v0), (1, .int v1), (2, .int v2), (3, .long v3), (5, .int v5)] [.int s2, .int s1, .ref s0] (zE (oI r) M') := by
  unfold fX10_longest_41 at h
  refine zr_lload_n (q := 42) dX10_longest_41 rfl rfl 3 rfl ?_
  refine zr_aload_n (q := 43) dX10_longest_42 rfl rfl 0 rfl ?_
  obtain ⟨c_1, h⟩ := chk_some h
  obtain ⟨a_2, e_3, h⟩ := bnd_some h
  refine zr_getr (q := 46) (ci := 10) (k := 3) dX10_longest_43 rfl (eq_of_beq c_1) rfl (by decide) rfl zbX10 (by decide) zb_499 rfl e_3 ?_
  refine zr_iload (q := 48) dX10_longest_46 rfl 4 rfl ?_
  obtain ⟨c_4, h⟩ := chk_some h
  obtain ⟨c_5, h⟩ := chk_some h
  refine zr_iald (q := 49) dX10_longest_48 rfl (eq_of_beq c_4) c_5 ?_
  obtain ⟨c_9, h⟩ := chk_some h
  obtain ⟨r_6, M_7, hc_8, h⟩ := bnd2_some h
  refine zr_callVL (μ' := uX10_goOn) (q := 52) (n := 4) (ci := 10) (As := [.int s1, .int s2, .long v3, .int (mI M a_2 (Int32.toNatClampNeg v5))]) (u' := (0, 0)) (tX10_goOn n M s0 s1 s2 v3 (mI M a_2 (Int32.toNatClampNeg v5)) _ _ hc_8) dX10_longest_49 rfl rfl ⟨zb_500, zb_501, zb_502, zb_503, zb_389⟩ zd_X10_goOn ⟨by decide, by decide⟩ ⟨by decide, by decide⟩ (eq_of_beq c_9) (by decide) rfl rfl rfl (Nat.le_of_ble_eq_true rfl) rfl rfl ?_
  refine zr_lstore_n (q := 53) (L' := [(3, .long r_6), (0, .ref v0), (1, .int v1), (2, .int v2), (5, .int v5)]) dX10_longest_52 rfl rfl (by decide) rfl ?_
  refine zr_lload_n (q := 54) dX10_longest_53 rfl rfl 0 rfl ?_
  refine zr_aload_n (q := 55) dX10_longest_54 rfl rfl 1 rfl ?_
  obtain ⟨c_10, h⟩ := chk_some h
  obtain ⟨a_11, e_12, h⟩ := bnd_some h
  refine zr_getr (q := 58) (ci := 10) (k := 10) dX10_longest_55 rfl (eq_of_beq c_10) rfl (by decide) rfl zbX10 (by decide) zb_481 rfl e_12 ?_
  refine zr_iconst (q := 59) (v := 0) dX10_longest_58 rfl (by decide) ?_
  obtain ⟨c_13, h⟩ := chk_some h
  obtain ⟨c_14, h⟩ := chk_some h
  refine zr_lald (q := 60) dX10_longest_59 rfl (eq_of_beq c_13) c_14 ?_
  refine zr_land (q := 61) dX10_longest_60 rfl ?_
  refine zr_lconst (q := 62) (v := 0) dX10_longest_61 rfl (by decide) ?_
  refine zr_lcmp (q := 63) dX10_longest_62 rfl ?_
  refine zr_if_eq (q := 66) (tgt := 73) dX10_longest_63 rfl (by decide) (fun c_15 => ?_) (fun c_15 => ?_)
  · replace h := ite_t c_15 h
    refine zr_iload_n (q := 74) dX10_longest_73 rfl rfl 3 rfl ?_
    exact zr_pick [1, 2, 0, 4] rfl (tX10_longest_74 k7 h7 n M_7 v0 v1 r_6 v5 v2 _ _ h)
  · replace h := ite_f c_15 h
    refine zr_iload (q := 68) dX10_longest_66 rfl 4 rfl ?_
    refine zr_iconst (q := 69) (v := 1) dX10_longest_68 rfl (by decide) ?_
    refine zr_iadd (q := 70) dX10_longest_69 rfl ?_
    refine zr_goto (q := 74) dX10_longest_70 (by decide) ?_
    exact zr_pick [1, 2, 0, 4] rfl (tX10_longest_74 k7 h7 n M_7 v0 v1 r_6 v5 (v5 + (1 : Int32)) _ _ h)
def fX10_longest_28 (k7 : zM → Nat → Int32 → Int32 → Int64 → Int32 → Option (Int32 × zM)) (n : Nat) (M : zM) (v0 : Nat) (v1 : Int32) (v2 : Int32) (v3 : Int64) (v5 : Int32) : Option (Int32 × zM) :=
  if v5 = v1 then
    fX10_longest_41 k7 n M v0 v1 v2 v3 v5 v0 (0 : Int32) (1 : Int32)
  else
  fX10_longest_41 k7 n M v0 v1 v2 v3 v5 v0 (0 : Int32) (0 : Int32)
set_option maxHeartbeats 4000000 in
theorem tX10_longest_28 (k7 : zM → Nat → Int32 → Int32 → Int64 → Int32 → Option (Int32 × zM)) (h7 : ∀ (M : zM) (v0 : Nat) (v1 : Int32) (v2 : Int32) (v3 : Int64) (v5 : Int32) (r : Int32) (M' : zM), k7 M v0 v1 v2 v3 v5 = some (r, M') → zW uX10_longest none (0, 0) M 7 [(0, .ref v0), (1, .int v1), (2, .int v2), (3, .long v3), (5, .int v5)] [] (zE (oI r) M')) (n : Nat) (M : zM) (v0 : Nat) (v1 : Int32) (v2 : Int32) (v3 : Int64) (v5 : Int32) (r : Int32) (M' : zM) (h : fX10_longest_28 k7 n M v0 v1 v2 v3 v5 = some (r, M')) : zW uX10_longest none (0, 0) M 28 [(0, .ref v0), (1, .int v1), (2, .int v2), (3, .long v3), (5, .int v5)] [] (zE (oI r) M') := by
  unfold fX10_longest_28 at h
  refine zr_aload_n (q := 29) dX10_longest_28 rfl rfl 0 rfl ?_
  refine zr_iconst (q := 30) (v := 0) dX10_longest_29 rfl (by decide) ?_
  refine zr_iload (q := 32) dX10_longest_30 rfl 4 rfl ?_
  refine zr_iload_n (q := 33) dX10_longest_32 rfl rfl 1 rfl ?_
  refine zr_icmp_ne (q := 36) (tgt := 40) dX10_longest_33 rfl (by decide) (fun c_1 => ?_) (fun c_1 => ?_)
  · replace h := ite_f c_1 h
    refine zr_iconst (q := 41) (v := 0) dX10_longest_40 rfl (by decide) ?_
    exact zr_pick [0, 1, 2, 3, 4] rfl (tX10_longest_41 k7 h7 n M v0 v1 v2 v3 v5 v0 (0 : Int32) (0 : Int32) _ _ h)
  · replace h := ite_t c_1 h
    refine zr_iconst (q := 37) (v := 1) dX10_longest_36 rfl (by decide) ?_
    refine zr_goto (q := 41) dX10_longest_37 (by decide) ?_
    exact zr_pick [0, 1, 2, 3, 4] rfl (tX10_longest_41 k7 h7 n M v0 v1 v2 v3 v5 v0 (0 : Int32) (1 : Int32) _ _ h)
def fX10_longest_7 : Nat → zM → Nat → Int32 → Int32 → Int64 → Int32 → Option (Int32 × zM)
  | 0, _, _, _, _, _, _ => none
  | n + 1, M, v0, v1, v2, v3, v5 =>
    chk (mK M v0 == 10) <|
    if (mI M v0 4) ≤ v5 then
      some (v2, M)
    else
    if v5 = v1 then
      fX10_longest_28 (fX10_longest_7 n) n M v0 v1 v2 v3 v5
    else
    if (lg_cmp v3 (0 : Int64)) = (0 : Int32) then
      some (v2, M)
    else
    fX10_longest_28 (fX10_longest_7 n) n M v0 v1 v2 v3 v5
set_option maxHeartbeats 4000000 in
theorem tX10_longest_7 : ∀ (n : Nat) (M : zM) (v0 : Nat) (v1 : Int32) (v2 : Int32) (v3 : Int64) (v5 : Int32) (r : Int32) (M' : zM), fX10_longest_7 n M v0 v1 v2 v3 v5 = some (r, M') → zW uX10_longest none (0, 0) M 7 [(0, .ref v0), (1, .int v1), (2, .int v2), (3, .long v3), (5, .int v5)] [] (zE (oI r) M') := by
  intro n
  induction n with
  | zero => intro M v0 v1 v2 v3 v5 r M' h; cases h
  | succ n ih =>
    intro M v0 v1 v2 v3 v5 r M' h
    rw [fX10_longest_7] at h
    refine zr_iload (q := 9) dX10_longest_7 rfl 4 rfl ?_
    refine zr_aload_n (q := 10) dX10_longest_9 rfl rfl 0 rfl ?_
    obtain ⟨c_1, h⟩ := chk_some h
    refine zr_get (q := 13) (ci := 10) (k := 4) dX10_longest_10 rfl (eq_of_beq c_1) rfl (by decide) rfl zbX10 (by decide) zb_498 rfl ?_
    refine zr_icmp_ge (q := 16) (tgt := 81) dX10_longest_13 rfl (by decide) (fun c_2 => ?_) (fun c_2 => ?_)
    · replace h := ite_t c_2 h
      refine zr_iload_n (q := 82) dX10_longest_81 rfl rfl 2 rfl ?_
      cases h
      exact zr_ireturn dX10_longest_82 rfl ⟨by decide, by decide⟩ ⟨rfl, rfl⟩
    · replace h := ite_f c_2 h
      refine zr_iload (q := 18) dX10_longest_16 rfl 4 rfl ?_
      refine zr_iload_n (q := 19) dX10_longest_18 rfl rfl 1 rfl ?_
      refine zr_icmp_eq (q := 22) (tgt := 28) dX10_longest_19 rfl (by decide) (fun c_3 => ?_) (fun c_3 => ?_)
      · replace h := ite_t c_3 h
        exact zr_pick [0, 1, 2, 3, 4] rfl (tX10_longest_28 (fX10_longest_7 n) ih n M v0 v1 v2 v3 v5 _ _ h)
      · replace h := ite_f c_3 h
        refine zr_lload_n (q := 23) dX10_longest_22 rfl rfl 3 rfl ?_
        refine zr_lconst (q := 24) (v := 0) dX10_longest_23 rfl (by decide) ?_
        refine zr_lcmp (q := 25) dX10_longest_24 rfl ?_
        refine zr_if_eq (q := 28) (tgt := 81) dX10_longest_25 rfl (by decide) (fun c_4 => ?_) (fun c_4 => ?_)
        · replace h := ite_t c_4 h
          refine zr_iload_n (q := 82) dX10_longest_81 rfl rfl 2 rfl ?_
          cases h
          exact zr_ireturn dX10_longest_82 rfl ⟨by decide, by decide⟩ ⟨rfl, rfl⟩
        · replace h := ite_f c_4 h
          exact zr_pick [0, 1, 2, 3, 4] rfl (tX10_longest_28 (fX10_longest_7 n) ih n M v0 v1 v2 v3 v5 _ _ h)
def fX10_longest (n : Nat) (M : zM) (v0 : Nat) (v1 : Int32) : Option (Int32 × zM) :=
  fX10_longest_7 n M v0 v1 (-1 : Int32) (0 : Int64) v1
set_option maxHeartbeats 4000000 in
theorem tX10_longest (n : Nat) (M : zM) (v0 : Nat) (v1 : Int32) (r : Int32) (M' : zM) (h : fX10_longest n M v0 v1 = some (r, M')) : zMet uX10_longest false M [.ref v0, .int v1] (zE (oI r) M') := by
  refine zMet_of (L := [(0, .ref v0), (1, .int v1)]) (by decide +kernel) rfl rfl (Nat.le_of_ble_eq_true rfl) ?_
  show zW uX10_longest none (0, 0) M 0 [(0, .ref v0), (1, .int v1)] [] (zE (oI r) M')
  unfold fX10_longest at h
  refine zr_iconst (q := 1) (v := -1) dX10_longest_0 rfl (by decide) ?_
  refine zr_istore_n (q := 2) (L' := [(2, .int (-1 : Int32)), (0, .ref v0), (1, .int v1)]) dX10_longest_1 rfl rfl (by decide) rfl ?_
  refine zr_lconst (q := 3) (v := 0) dX10_longest_2 rfl (by decide) ?_
  refine zr_lstore_n (q := 4) (L' := [(3, .long (0 : Int64)), (2, .int (-1 : Int32)), (0, .ref v0), (1, .int v1)]) dX10_longest_3 rfl rfl (by decide) rfl ?_
  refine zr_iload_n (q := 5) dX10_longest_4 rfl rfl 3 rfl ?_
  refine zr_istore (q := 7) (L' := [(5, .int v1), (3, .long (0 : Int64)), (2, .int (-1 : Int32)), (0, .ref v0), (1, .int v1)]) dX10_longest_5 rfl (by decide) rfl ?_
  exact zr_pick [3, 4, 2, 1, 0] rfl (tX10_longest_7 n M v0 v1 (-1 : Int32) (0 : Int64) v1 _ _ h)

def uX10_whole : zMu := (yX10_whole, cX10_whole, 4, (some .boolean), { frames := 2, cells := 0, slots := 0, locals := 50 }, [])
theorem zd_X10_whole : (uY uX10_whole).cls ≠ "java/lang/invoke/MethodHandle" ∧ (uY uX10_whole).cls ≠ "java/lang/invoke/VarHandle" ∧ (parseMethodDescriptor (uY uX10_whole).desc).map (fun d => d.parameters.length) = some 0 := by decide +kernel
def fX10_whole_32 (k13 : zM → Nat → Int64 → Int32 → Option (Int32 × zM)) (n : Nat) (M : zM) (v0 : Nat) (v1 : Int64) (v3 : Int32) (s0 : Nat) (s1 : Int32) (s2 : Int32) : Option (Int32 × zM) :=
  chk (mK M v0 == 10) <|
  bnd (mR M v0 3) fun a_2 =>
  chk (mK M a_2 == 11) <|
  chk (zin v3 (mN M a_2)) <|
  chk (mK M s0 == 10) <|
  bnd2 (fX10_goOn n M s0 s1 s2 v1 (mI M a_2 (Int32.toNatClampNeg v3))) fun r_6 M_7 =>
  app (v3 + (1 : Int32)) fun v3_10 : Int32 =>
  k13 M_7 v0 r_6 v3_10
set_option maxHeartbeats 4000000 in
theorem tX10_whole_32 (k13 : zM → Nat → Int64 → Int32 → Option (Int32 × zM)) (h13 : ∀ (M : zM) (v0 : Nat) (v1 : Int64) (v3 : Int32) (r : Int32) (M' : zM), k13 M v0 v1 v3 = some (r, M') → zW uX10_whole none (0, 0) M 13 [(0, .ref v0), (1, .long v1), (3, .int v3)] [] (zE (oI r) M')) (n : Nat) (M : zM) (v0 : Nat) (v1 : Int64) (v3 : Int32) (s0 : Nat) (s1 : Int32) (s2 : Int32) (r : Int32) (M' : zM) (h : fX10_whole_32 k13 n M v0 v1 v3 s0 s1 s2 = some (r, M')) : zW uX10_whole none (0, 0) M 32 [(0, .ref v0), (1, .long v1), (3, .int v3)] [.int s2, .int s1, .ref s0] (zE (oI r) M') := by
  unfold fX10_whole_32 at h
  refine zr_lload_n (q := 33) dX10_whole_32 rfl rfl 1 rfl ?_
  refine zr_aload_n (q := 34) dX10_whole_33 rfl rfl 0 rfl ?_
  obtain ⟨c_1, h⟩ := chk_some h
  obtain ⟨a_2, e_3, h⟩ := bnd_some h
  refine zr_getr (q := 37) (ci := 10) (k := 3) dX10_whole_34 rfl (eq_of_beq c_1) rfl (by decide) rfl zbX10 (by decide) zb_499 rfl e_3 ?_
  refine zr_iload_n (q := 38) dX10_whole_37 rfl rfl 2 rfl ?_
  obtain ⟨c_4, h⟩ := chk_some h
  obtain ⟨c_5, h⟩ := chk_some h
  refine zr_iald (q := 39) dX10_whole_38 rfl (eq_of_beq c_4) c_5 ?_
  obtain ⟨c_9, h⟩ := chk_some h
  obtain ⟨r_6, M_7, hc_8, h⟩ := bnd2_some h
  refine zr_callVL (μ' := uX10_goOn) (q := 42) (n := 4) (ci := 10) (As := [.int s1, .int s2, .long v1, .int (mI M a_2 (Int32.toNatClampNeg v3))]) (u' := (0, 0)) (tX10_goOn n M s0 s1 s2 v1 (mI M a_2 (Int32.toNatClampNeg v3)) _ _ hc_8) dX10_whole_39 rfl rfl ⟨zb_500, zb_501, zb_502, zb_503, zb_389⟩ zd_X10_goOn ⟨by decide, by decide⟩ ⟨by decide, by decide⟩ (eq_of_beq c_9) (by decide) rfl rfl rfl (Nat.le_of_ble_eq_true rfl) rfl rfl ?_
  refine zr_lstore_n (q := 43) (L' := [(1, .long r_6), (0, .ref v0), (3, .int v3)]) dX10_whole_42 rfl rfl (by decide) rfl ?_
  obtain ⟨v3_10, e_11, h⟩ := app_some h
  refine zr_iinc (q := 46) (v := v3_10) (L' := [(3, .int v3_10), (1, .long r_6), (0, .ref v0)]) dX10_whole_43 rfl 2 rfl (by rw [← e_11]; rfl) (by decide) rfl ?_
  refine zr_goto (q := 13) dX10_whole_46 (by decide) ?_
  exact zr_pick [2, 1, 0] rfl (h13 M_7 v0 r_6 v3_10 _ _ h)
def fX10_whole_13 : Nat → zM → Nat → Int64 → Int32 → Option (Int32 × zM)
  | 0, _, _, _, _ => none
  | n + 1, M, v0, v1, v3 =>
    chk (mK M v0 == 10) <|
    if (mI M v0 4) ≤ v3 then
      chk (mK M v0 == 10) <|
      if (mI M v0 4) = (0 : Int32) then
        chk (mK M v0 == 10) <|
        bnd (mR M v0 8) fun a_12 =>
        chk (mK M a_12 == 13) <|
        chk (zin (0 : Int32) (mN M a_12)) <|
        chk (z01 (mI M a_12 (Int32.toNatClampNeg (0 : Int32)))) <|
        some ((mI M a_12 (Int32.toNatClampNeg (0 : Int32))), M)
      else
      chk (mK M v0 == 10) <|
      bnd (mR M v0 10) fun a_6 =>
      chk (mK M a_6 == 12) <|
      chk (zin (0 : Int32) (mN M a_6)) <|
      if (lg_cmp (v1 &&& (mL M a_6 (Int32.toNatClampNeg (0 : Int32)))) (0 : Int64)) = (0 : Int32) then
        some ((0 : Int32), M)
      else
      some ((1 : Int32), M)
    else
    if v3 = (0 : Int32) then
      fX10_whole_32 (fX10_whole_13 n) n M v0 v1 v3 v0 (0 : Int32) (1 : Int32)
    else
    fX10_whole_32 (fX10_whole_13 n) n M v0 v1 v3 v0 (0 : Int32) (0 : Int32)
set_option maxHeartbeats 4000000 in
theorem tX10_whole_13 : ∀ (n : Nat) (M : zM) (v0 : Nat) (v1 : Int64) (v3 : Int32) (r : Int32) (M' : zM), fX10_whole_13 n M v0 v1 v3 = some (r, M') → zW uX10_whole none (0, 0) M 13 [(0, .ref v0), (1, .long v1), (3, .int v3)] [] (zE (oI r) M') := by
  intro n
  induction n with
  | zero => intro M v0 v1 v3 r M' h; cases h
  | succ n ih =>
    intro M v0 v1 v3 r M' h
    rw [fX10_whole_13] at h
    refine zr_iload_n (q := 14) dX10_whole_13 rfl rfl 2 rfl ?_
    refine zr_aload_n (q := 15) dX10_whole_14 rfl rfl 0 rfl ?_
    obtain ⟨c_1, h⟩ := chk_some h
    refine zr_get (q := 18) (ci := 10) (k := 4) dX10_whole_15 rfl (eq_of_beq c_1) rfl (by decide) rfl zbX10 (by decide) zb_498 rfl ?_
    refine zr_icmp_ge (q := 21) (tgt := 49) dX10_whole_18 rfl (by decide) (fun c_2 => ?_) (fun c_2 => ?_)
    · replace h := ite_t c_2 h
      refine zr_aload_n (q := 50) dX10_whole_49 rfl rfl 0 rfl ?_
      obtain ⟨c_3, h⟩ := chk_some h
      refine zr_get (q := 53) (ci := 10) (k := 4) dX10_whole_50 rfl (eq_of_beq c_3) rfl (by decide) rfl zbX10 (by decide) zb_498 rfl ?_
      refine zr_if_ne (q := 56) (tgt := 65) dX10_whole_53 rfl (by decide) (fun c_4 => ?_) (fun c_4 => ?_)
      · replace h := ite_f c_4 h
        refine zr_lload_n (q := 66) dX10_whole_65 rfl rfl 1 rfl ?_
        refine zr_aload_n (q := 67) dX10_whole_66 rfl rfl 0 rfl ?_
        obtain ⟨c_5, h⟩ := chk_some h
        obtain ⟨a_6, e_7, h⟩ := bnd_some h
        refine zr_getr (q := 70) (ci := 10) (k := 10) dX10_whole_67 rfl (eq_of_beq c_5) rfl (by decide) rfl zbX10 (by decide) zb_481 rfl e_7 ?_
        refine zr_iconst (q := 71) (v := 0) dX10_whole_70 rfl (by decide) ?_
        obtain ⟨c_8, h⟩ := chk_some h
        obtain ⟨c_9, h⟩ := chk_some h
        refine zr_lald (q := 72) dX10_whole_71 rfl (eq_of_beq c_8) c_9 ?_
        refine zr_land (q := 73) dX10_whole_72 rfl ?_
        refine zr_lconst (q := 74) (v := 0) dX10_whole_73 rfl (by decide) ?_
        refine zr_lcmp (q := 75) dX10_whole_74 rfl ?_
        refine zr_if_eq (q := 78) (tgt := 82) dX10_whole_75 rfl (by decide) (fun c_10 => ?_) (fun c_10 => ?_)
        · replace h := ite_t c_10 h
          refine zr_iconst (q := 83) (v := 0) dX10_whole_82 rfl (by decide) ?_
          cases h
          exact zr_zreturn dX10_whole_83 rfl (Or.inl rfl) ⟨by decide, by decide⟩ ⟨rfl, rfl⟩
        · replace h := ite_f c_10 h
          refine zr_iconst (q := 79) (v := 1) dX10_whole_78 rfl (by decide) ?_
          refine zr_goto (q := 83) dX10_whole_79 (by decide) ?_
          cases h
          exact zr_zreturn dX10_whole_83 rfl (Or.inr rfl) ⟨by decide, by decide⟩ ⟨rfl, rfl⟩
      · replace h := ite_t c_4 h
        refine zr_aload_n (q := 57) dX10_whole_56 rfl rfl 0 rfl ?_
        obtain ⟨c_11, h⟩ := chk_some h
        obtain ⟨a_12, e_13, h⟩ := bnd_some h
        refine zr_getr (q := 60) (ci := 10) (k := 8) dX10_whole_57 rfl (eq_of_beq c_11) rfl (by decide) rfl zbX10 (by decide) zb_479 rfl e_13 ?_
        refine zr_iconst (q := 61) (v := 0) dX10_whole_60 rfl (by decide) ?_
        obtain ⟨c_14, h⟩ := chk_some h
        obtain ⟨c_15, h⟩ := chk_some h
        refine zr_zald (q := 62) dX10_whole_61 rfl (eq_of_beq c_14) c_15 ?_
        refine zr_goto (q := 83) dX10_whole_62 (by decide) ?_
        obtain ⟨c_16, h⟩ := chk_some h
        cases h
        exact zr_zreturn dX10_whole_83 rfl (z01_or c_16) ⟨by decide, by decide⟩ ⟨rfl, rfl⟩
    · replace h := ite_f c_2 h
      refine zr_aload_n (q := 22) dX10_whole_21 rfl rfl 0 rfl ?_
      refine zr_iconst (q := 23) (v := 0) dX10_whole_22 rfl (by decide) ?_
      refine zr_iload_n (q := 24) dX10_whole_23 rfl rfl 2 rfl ?_
      refine zr_if_ne (q := 27) (tgt := 31) dX10_whole_24 rfl (by decide) (fun c_17 => ?_) (fun c_17 => ?_)
      · replace h := ite_f c_17 h
        refine zr_iconst (q := 32) (v := 0) dX10_whole_31 rfl (by decide) ?_
        exact zr_pick [0, 1, 2] rfl (tX10_whole_32 (fX10_whole_13 n) ih n M v0 v1 v3 v0 (0 : Int32) (0 : Int32) _ _ h)
      · replace h := ite_t c_17 h
        refine zr_iconst (q := 28) (v := 1) dX10_whole_27 rfl (by decide) ?_
        refine zr_goto (q := 32) dX10_whole_28 (by decide) ?_
        exact zr_pick [0, 1, 2] rfl (tX10_whole_32 (fX10_whole_13 n) ih n M v0 v1 v3 v0 (0 : Int32) (1 : Int32) _ _ h)
def fX10_whole (n : Nat) (M : zM) (v0 : Nat) : Option (Int32 × zM) :=
  chk (mK M v0 == 10) <|
  bnd2 (fX10_none n M v0) fun r_1 M_2 =>
  if r_1 = (0 : Int32) then
    fX10_whole_13 n M_2 v0 (0 : Int64) (0 : Int32)
  else
  some ((0 : Int32), M_2)
set_option maxHeartbeats 4000000 in
theorem tX10_whole (n : Nat) (M : zM) (v0 : Nat) (r : Int32) (M' : zM) (h : fX10_whole n M v0 = some (r, M')) : zMet uX10_whole false M [.ref v0] (zE (oI r) M') := by
  refine zMet_of (L := [(0, .ref v0)]) (by decide +kernel) rfl rfl (Nat.le_of_ble_eq_true rfl) ?_
  show zW uX10_whole none (0, 0) M 0 [(0, .ref v0)] [] (zE (oI r) M')
  unfold fX10_whole at h
  refine zr_aload_n (q := 1) dX10_whole_0 rfl rfl 0 rfl ?_
  obtain ⟨c_4, h⟩ := chk_some h
  obtain ⟨r_1, M_2, hc_3, h⟩ := bnd2_some h
  refine zr_callVI (μ' := uX10_none) (q := 4) (n := 0) (ci := 10) (As := []) (u' := (0, 0)) (tX10_none n M v0 _ _ hc_3) dX10_whole_1 rfl rfl ⟨zb_490, zb_491, zb_492, zb_493, zb_389⟩ zd_X10_none ⟨by decide, by decide⟩ ⟨by decide, by decide⟩ (eq_of_beq c_4) (by decide) rfl rfl rfl (Nat.le_of_ble_eq_true rfl) rfl rfl ?_
  refine zr_if_eq (q := 7) (tgt := 9) dX10_whole_4 rfl (by decide) (fun c_5 => ?_) (fun c_5 => ?_)
  · replace h := ite_t c_5 h
    refine zr_lconst (q := 10) (v := 0) dX10_whole_9 rfl (by decide) ?_
    refine zr_lstore_n (q := 11) (L' := [(1, .long (0 : Int64)), (0, .ref v0)]) dX10_whole_10 rfl rfl (by decide) rfl ?_
    refine zr_iconst (q := 12) (v := 0) dX10_whole_11 rfl (by decide) ?_
    refine zr_istore_n (q := 13) (L' := [(3, .int (0 : Int32)), (1, .long (0 : Int64)), (0, .ref v0)]) dX10_whole_12 rfl rfl (by decide) rfl ?_
    exact zr_pick [2, 1, 0] rfl (tX10_whole_13 n M_2 v0 (0 : Int64) (0 : Int32) _ _ h)
  · replace h := ite_f c_5 h
    refine zr_iconst (q := 8) (v := 0) dX10_whole_7 rfl (by decide) ?_
    cases h
    exact zr_zreturn dX10_whole_8 rfl (Or.inl rfl) ⟨by decide, by decide⟩ ⟨rfl, rfl⟩

def uX10_findAll : zMu := (yX10_findAll, cX10_findAll, 3, none, { frames := 3, cells := 0, slots := 0, locals := 75 }, [])
theorem zd_X10_findAll : (uY uX10_findAll).cls ≠ "java/lang/invoke/MethodHandle" ∧ (uY uX10_findAll).cls ≠ "java/lang/invoke/VarHandle" ∧ (parseMethodDescriptor (uY uX10_findAll).desc).map (fun d => d.parameters.length) = some 0 := by decide +kernel
def fX10_findAll_64 (k7 : zM → Nat → Int32 → Option (Unit × zM)) (n : Nat) (M : zM) (v0 : Nat) (v1 : Int32) : Option (Unit × zM) :=
  k7 M v0 v1
set_option maxHeartbeats 4000000 in
theorem tX10_findAll_64 (k7 : zM → Nat → Int32 → Option (Unit × zM)) (h7 : ∀ (M : zM) (v0 : Nat) (v1 : Int32) (r : Unit) (M' : zM), k7 M v0 v1 = some (r, M') → zW uX10_findAll none (0, 0) M 7 [(0, .ref v0), (1, .int v1)] [] (zE (oV r) M')) (n : Nat) (M : zM) (v0 : Nat) (v1 : Int32) (r : Unit) (M' : zM) (h : fX10_findAll_64 k7 n M v0 v1 = some (r, M')) : zW uX10_findAll none (0, 0) M 64 [(0, .ref v0), (1, .int v1)] [] (zE (oV r) M') := by
  unfold fX10_findAll_64 at h
  refine zr_goto (q := 7) dX10_findAll_64 (by decide) ?_
  exact zr_pick [0, 1] rfl (h7 M v0 v1 _ _ h)
def fX10_findAll_7 : Nat → zM → Nat → Int32 → Option (Unit × zM)
  | 0, _, _, _ => none
  | n + 1, M, v0, v1 =>
    chk (mK M v0 == 10) <|
    if (mI M v0 4) ≤ v1 then
      some ((), M)
    else
    chk (mK M v0 == 10) <|
    bnd2 (fX10_longest n M v0 v1) fun r_3 M_4 =>
    if r_3 ≤ v1 then
      app (v1 + (1 : Int32)) fun v1_8 : Int32 =>
      fX10_findAll_64 (fX10_findAll_7 n) n M_4 v0 v1_8
    else
    chk (mK M_4 v0 == 10) <|
    bnd (mR M_4 v0 41) fun a_11 =>
    chk (mK M_4 v0 == 10) <|
    chk (mK M_4 a_11 == 11) <|
    chk (zin (mI M_4 v0 42) (mN M_4 a_11)) <|
    app (wI M_4 a_11 (Int32.toNatClampNeg (mI M_4 v0 42)) v1) fun M_16 : zM =>
    chk (mK M_16 v0 == 10) <|
    bnd (mR M_16 v0 40) fun a_19 =>
    chk (mK M_16 v0 == 10) <|
    chk (mK M_16 a_19 == 11) <|
    chk (zin (mI M_16 v0 42) (mN M_16 a_19)) <|
    app (wI M_16 a_19 (Int32.toNatClampNeg (mI M_16 v0 42)) r_3) fun M_24 : zM =>
    chk (mK M_24 v0 == 10) <|
    chk (mK M_24 v0 == 10) <|
    app (wI M_24 v0 42 ((mI M_24 v0 42) + (1 : Int32))) fun M_28 : zM =>
    fX10_findAll_64 (fX10_findAll_7 n) n M_28 v0 r_3
set_option maxHeartbeats 4000000 in
theorem tX10_findAll_7 : ∀ (n : Nat) (M : zM) (v0 : Nat) (v1 : Int32) (r : Unit) (M' : zM), fX10_findAll_7 n M v0 v1 = some (r, M') → zW uX10_findAll none (0, 0) M 7 [(0, .ref v0), (1, .int v1)] [] (zE (oV r) M') := by
  intro n
  induction n with
  | zero => intro M v0 v1 r M' h; cases h
  | succ n ih =>
    intro M v0 v1 r M' h
    rw [fX10_findAll_7] at h
    refine zr_iload_n (q := 8) dX10_findAll_7 rfl rfl 1 rfl ?_
    refine zr_aload_n (q := 9) dX10_findAll_8 rfl rfl 0 rfl ?_
    obtain ⟨c_1, h⟩ := chk_some h
    refine zr_get (q := 12) (ci := 10) (k := 4) dX10_findAll_9 rfl (eq_of_beq c_1) rfl (by decide) rfl zbX10 (by decide) zb_498 rfl ?_
    refine zr_icmp_ge (q := 15) (tgt := 67) dX10_findAll_12 rfl (by decide) (fun c_2 => ?_) (fun c_2 => ?_)
    · replace h := ite_t c_2 h
      cases h
      exact zr_return dX10_findAll_67 rfl ⟨by decide, by decide⟩ ⟨rfl, rfl⟩
    · replace h := ite_f c_2 h
      refine zr_aload_n (q := 16) dX10_findAll_15 rfl rfl 0 rfl ?_
      refine zr_iload_n (q := 17) dX10_findAll_16 rfl rfl 1 rfl ?_
      obtain ⟨c_6, h⟩ := chk_some h
      obtain ⟨r_3, M_4, hc_5, h⟩ := bnd2_some h
      refine zr_callVI (μ' := uX10_longest) (q := 20) (n := 1) (ci := 10) (As := [.int v1]) (u' := (0, 0)) (tX10_longest n M v0 v1 _ _ hc_5) dX10_findAll_17 rfl rfl ⟨zb_504, zb_505, zb_506, zb_507, zb_389⟩ zd_X10_longest ⟨by decide, by decide⟩ ⟨by decide, by decide⟩ (eq_of_beq c_6) (by decide) rfl rfl rfl (Nat.le_of_ble_eq_true rfl) rfl rfl ?_
      refine zr_istore_n (q := 21) (L' := [(2, .int r_3), (0, .ref v0), (1, .int v1)]) dX10_findAll_20 rfl rfl (by decide) rfl ?_
      refine zr_iload_n (q := 22) dX10_findAll_21 rfl rfl 0 rfl ?_
      refine zr_iload_n (q := 23) dX10_findAll_22 rfl rfl 2 rfl ?_
      refine zr_icmp_le (q := 26) (tgt := 61) dX10_findAll_23 rfl (by decide) (fun c_7 => ?_) (fun c_7 => ?_)
      · replace h := ite_t c_7 h
        obtain ⟨v1_8, e_9, h⟩ := app_some h
        refine zr_iinc (q := 64) (v := v1_8) (L' := [(1, .int v1_8), (2, .int r_3), (0, .ref v0)]) dX10_findAll_61 rfl 2 rfl (by rw [← e_9]; rfl) (by decide) rfl ?_
        exact zr_pick [2, 0] rfl (tX10_findAll_64 (fX10_findAll_7 n) ih n M_4 v0 v1_8 _ _ h)
      · replace h := ite_f c_7 h
        refine zr_aload_n (q := 27) dX10_findAll_26 rfl rfl 1 rfl ?_
        obtain ⟨c_10, h⟩ := chk_some h
        obtain ⟨a_11, e_12, h⟩ := bnd_some h
        refine zr_getr (q := 30) (ci := 10) (k := 41) dX10_findAll_27 rfl (eq_of_beq c_10) rfl (by decide) rfl zbX10 (by decide) zb_508 rfl e_12 ?_
        refine zr_aload_n (q := 31) dX10_findAll_30 rfl rfl 1 rfl ?_
        obtain ⟨c_13, h⟩ := chk_some h
        refine zr_get (q := 34) (ci := 10) (k := 42) dX10_findAll_31 rfl (eq_of_beq c_13) rfl (by decide) rfl zbX10 (by decide) zb_509 rfl ?_
        refine zr_iload_n (q := 35) dX10_findAll_34 rfl rfl 2 rfl ?_
        obtain ⟨c_14, h⟩ := chk_some h
        obtain ⟨c_15, h⟩ := chk_some h
        obtain ⟨M_16, e_17, h⟩ := app_some h
        refine zr_iast (q := 36) dX10_findAll_35 rfl (eq_of_beq c_14) c_15 ?_
        refine zr_mem e_17 ?_
        refine zr_aload_n (q := 37) dX10_findAll_36 rfl rfl 1 rfl ?_
        obtain ⟨c_18, h⟩ := chk_some h
        obtain ⟨a_19, e_20, h⟩ := bnd_some h
        refine zr_getr (q := 40) (ci := 10) (k := 40) dX10_findAll_37 rfl (eq_of_beq c_18) rfl (by decide) rfl zbX10 (by decide) zb_510 rfl e_20 ?_
        refine zr_aload_n (q := 41) dX10_findAll_40 rfl rfl 1 rfl ?_
        obtain ⟨c_21, h⟩ := chk_some h
        refine zr_get (q := 44) (ci := 10) (k := 42) dX10_findAll_41 rfl (eq_of_beq c_21) rfl (by decide) rfl zbX10 (by decide) zb_509 rfl ?_
        refine zr_iload_n (q := 45) dX10_findAll_44 rfl rfl 0 rfl ?_
        obtain ⟨c_22, h⟩ := chk_some h
        obtain ⟨c_23, h⟩ := chk_some h
        obtain ⟨M_24, e_25, h⟩ := app_some h
        refine zr_iast (q := 46) dX10_findAll_45 rfl (eq_of_beq c_22) c_23 ?_
        refine zr_mem e_25 ?_
        refine zr_aload_n (q := 47) dX10_findAll_46 rfl rfl 1 rfl ?_
        refine zr_dup (q := 48) dX10_findAll_47 rfl rfl ?_
        obtain ⟨c_26, h⟩ := chk_some h
        refine zr_get (q := 51) (ci := 10) (k := 42) dX10_findAll_48 rfl (eq_of_beq c_26) rfl (by decide) rfl zbX10 (by decide) zb_509 rfl ?_
        refine zr_iconst (q := 52) (v := 1) dX10_findAll_51 rfl (by decide) ?_
        refine zr_iadd (q := 53) dX10_findAll_52 rfl ?_
        obtain ⟨c_27, h⟩ := chk_some h
        obtain ⟨M_28, e_29, h⟩ := app_some h
        refine zr_putI (q := 56) (ci := 10) (k := 42) dX10_findAll_53 rfl (eq_of_beq c_27) rfl (by decide) rfl zbX10 tyX10_ok nmX10 (by decide) zb_509 (Or.inl rfl) rfl ?_
        refine zr_mem e_29 ?_
        refine zr_iload_n (q := 57) dX10_findAll_56 rfl rfl 0 rfl ?_
        refine zr_istore_n (q := 58) (L' := [(1, .int r_3), (2, .int r_3), (0, .ref v0)]) dX10_findAll_57 rfl rfl (by decide) rfl ?_
        refine zr_goto (q := 64) dX10_findAll_58 (by decide) ?_
        exact zr_pick [2, 0] rfl (tX10_findAll_64 (fX10_findAll_7 n) ih n M_28 v0 r_3 _ _ h)
def fX10_findAll (n : Nat) (M : zM) (v0 : Nat) : Option (Unit × zM) :=
  chk (mK M v0 == 10) <|
  app (wI M v0 42 (0 : Int32)) fun M_2 : zM =>
  fX10_findAll_7 n M_2 v0 (0 : Int32)
set_option maxHeartbeats 4000000 in
theorem tX10_findAll (n : Nat) (M : zM) (v0 : Nat) (r : Unit) (M' : zM) (h : fX10_findAll n M v0 = some (r, M')) : zMet uX10_findAll false M [.ref v0] (zE (oV r) M') := by
  refine zMet_of (L := [(0, .ref v0)]) (by decide +kernel) rfl rfl (Nat.le_of_ble_eq_true rfl) ?_
  show zW uX10_findAll none (0, 0) M 0 [(0, .ref v0)] [] (zE (oV r) M')
  unfold fX10_findAll at h
  refine zr_aload_n (q := 1) dX10_findAll_0 rfl rfl 0 rfl ?_
  refine zr_iconst (q := 2) (v := 0) dX10_findAll_1 rfl (by decide) ?_
  obtain ⟨c_1, h⟩ := chk_some h
  obtain ⟨M_2, e_3, h⟩ := app_some h
  refine zr_putI (q := 5) (ci := 10) (k := 42) dX10_findAll_2 rfl (eq_of_beq c_1) rfl (by decide) rfl zbX10 tyX10_ok nmX10 (by decide) zb_509 (Or.inl rfl) rfl ?_
  refine zr_mem e_3 ?_
  refine zr_iconst (q := 6) (v := 0) dX10_findAll_5 rfl (by decide) ?_
  refine zr_istore_n (q := 7) (L' := [(1, .int (0 : Int32)), (0, .ref v0)]) dX10_findAll_6 rfl rfl (by decide) rfl ?_
  exact zr_pick [1, 0] rfl (tX10_findAll_7 n M_2 v0 (0 : Int32) _ _ h)

def uX10_finds : zMu := (yX10_finds, cX10_finds, 1, (some .int), { frames := 4, cells := 0, slots := 0, locals := 97 }, [])
theorem zd_X10_finds : (uY uX10_finds).cls ≠ "java/lang/invoke/MethodHandle" ∧ (uY uX10_finds).cls ≠ "java/lang/invoke/VarHandle" ∧ (parseMethodDescriptor (uY uX10_finds).desc).map (fun d => d.parameters.length) = some 0 := by decide +kernel
def fX10_finds (n : Nat) (M : zM) (v0 : Nat) : Option (Int32 × zM) :=
  chk (mK M v0 == 10) <|
  bnd2 (fX10_none n M v0) fun r_1 M_2 =>
  if r_1 = (0 : Int32) then
    chk (mK M_2 v0 == 10) <|
    bnd2 (fX10_findAll n M_2 v0) fun r_6 M_7 =>
    chk (mK M_7 v0 == 10) <|
    some ((mI M_7 v0 42), M_7)
  else
  some ((0 : Int32), M_2)
set_option maxHeartbeats 4000000 in
theorem tX10_finds (n : Nat) (M : zM) (v0 : Nat) (r : Int32) (M' : zM) (h : fX10_finds n M v0 = some (r, M')) : zMet uX10_finds false M [.ref v0] (zE (oI r) M') := by
  refine zMet_of (L := [(0, .ref v0)]) (by decide +kernel) rfl rfl (Nat.le_of_ble_eq_true rfl) ?_
  show zW uX10_finds none (0, 0) M 0 [(0, .ref v0)] [] (zE (oI r) M')
  unfold fX10_finds at h
  refine zr_aload_n (q := 1) dX10_finds_0 rfl rfl 0 rfl ?_
  obtain ⟨c_4, h⟩ := chk_some h
  obtain ⟨r_1, M_2, hc_3, h⟩ := bnd2_some h
  refine zr_callVI (μ' := uX10_none) (q := 4) (n := 0) (ci := 10) (As := []) (u' := (0, 0)) (tX10_none n M v0 _ _ hc_3) dX10_finds_1 rfl rfl ⟨zb_490, zb_491, zb_492, zb_493, zb_389⟩ zd_X10_none ⟨by decide, by decide⟩ ⟨by decide, by decide⟩ (eq_of_beq c_4) (by decide) rfl rfl rfl (Nat.le_of_ble_eq_true rfl) rfl rfl ?_
  refine zr_if_eq (q := 7) (tgt := 9) dX10_finds_4 rfl (by decide) (fun c_5 => ?_) (fun c_5 => ?_)
  · replace h := ite_t c_5 h
    refine zr_aload_n (q := 10) dX10_finds_9 rfl rfl 0 rfl ?_
    obtain ⟨c_9, h⟩ := chk_some h
    obtain ⟨r_6, M_7, hc_8, h⟩ := bnd2_some h
    refine zr_callVV (μ' := uX10_findAll) (q := 13) (n := 0) (ci := 10) (As := []) (u' := (0, 0)) (tX10_findAll n M_2 v0 _ _ hc_8) dX10_finds_10 rfl rfl ⟨zb_511, zb_512, zb_513, zb_514, zb_389⟩ zd_X10_findAll ⟨by decide, by decide⟩ ⟨by decide, by decide⟩ (eq_of_beq c_9) (by decide) rfl rfl rfl (Nat.le_of_ble_eq_true rfl) rfl rfl ?_
    refine zr_aload_n (q := 14) dX10_finds_13 rfl rfl 0 rfl ?_
    obtain ⟨c_10, h⟩ := chk_some h
    refine zr_get (q := 17) (ci := 10) (k := 42) dX10_finds_14 rfl (eq_of_beq c_10) rfl (by decide) rfl zbX10 (by decide) zb_509 rfl ?_
    cases h
    exact zr_ireturn dX10_finds_17 rfl ⟨by decide, by decide⟩ ⟨rfl, rfl⟩
  · replace h := ite_f c_5 h
    refine zr_iconst (q := 8) (v := 0) dX10_finds_7 rfl (by decide) ?_
    cases h
    exact zr_ireturn dX10_finds_8 rfl ⟨by decide, by decide⟩ ⟨rfl, rfl⟩

def uX10_find : zMu := (yX10_find, cX10_find, 3, (some .int), { frames := 4, cells := 0, slots := 0, locals := 97 }, [])
theorem zd_X10_find : (uY uX10_find).cls ≠ "java/lang/invoke/MethodHandle" ∧ (uY uX10_find).cls ≠ "java/lang/invoke/VarHandle" ∧ (parseMethodDescriptor (uY uX10_find).desc).map (fun d => d.parameters.length) = some 2 := by decide +kernel
def fX10_find_31 (n : Nat) (M : zM) (v0 : Nat) (v1 : Int32) (v2 : Int32) (s0 : Nat) (s1 : Int32) : Option (Int32 × zM) :=
  chk (mK M s0 == 10) <|
  app (wI M s0 0 s1) fun M_2 : zM =>
  chk (mK M_2 v0 == 10) <|
  if (mI M_2 v0 0) ≤ (0 : Int32) then
    if v2 = (0 : Int32) then
      chk (mK M_2 v0 == 10) <|
      bnd (mR M_2 v0 41) fun a_8 =>
      chk (mK M_2 a_8 == 11) <|
      chk (zin v1 (mN M_2 a_8)) <|
      some ((mI M_2 a_8 (Int32.toNatClampNeg v1)), M_2)
    else
    chk (mK M_2 v0 == 10) <|
    bnd (mR M_2 v0 40) fun a_13 =>
    chk (mK M_2 a_13 == 11) <|
    chk (zin v1 (mN M_2 a_13)) <|
    some ((mI M_2 a_13 (Int32.toNatClampNeg v1)), M_2)
  else
  some ((0 : Int32), M_2)
set_option maxHeartbeats 4000000 in
theorem tX10_find_31 (n : Nat) (M : zM) (v0 : Nat) (v1 : Int32) (v2 : Int32) (s0 : Nat) (s1 : Int32) (r : Int32) (M' : zM) (h : fX10_find_31 n M v0 v1 v2 s0 s1 = some (r, M')) : zW uX10_find none (0, 0) M 31 [(0, .ref v0), (1, .int v1), (2, .int v2)] [.int s1, .ref s0] (zE (oI r) M') := by
  unfold fX10_find_31 at h
  obtain ⟨c_1, h⟩ := chk_some h
  obtain ⟨M_2, e_3, h⟩ := app_some h
  refine zr_putI (q := 34) (ci := 10) (k := 0) dX10_find_31 rfl (eq_of_beq c_1) rfl (by decide) rfl zbX10 tyX10_ok nmX10 (by decide) zb_378 (Or.inl rfl) rfl ?_
  refine zr_mem e_3 ?_
  refine zr_aload_n (q := 35) dX10_find_34 rfl rfl 0 rfl ?_
  obtain ⟨c_4, h⟩ := chk_some h
  refine zr_get (q := 38) (ci := 10) (k := 0) dX10_find_35 rfl (eq_of_beq c_4) rfl (by decide) rfl zbX10 (by decide) zb_378 rfl ?_
  refine zr_if_le (q := 41) (tgt := 45) dX10_find_38 rfl (by decide) (fun c_5 => ?_) (fun c_5 => ?_)
  · replace h := ite_t c_5 h
    refine zr_iload_n (q := 46) dX10_find_45 rfl rfl 2 rfl ?_
    refine zr_if_eq (q := 49) (tgt := 58) dX10_find_46 rfl (by decide) (fun c_6 => ?_) (fun c_6 => ?_)
    · replace h := ite_t c_6 h
      refine zr_aload_n (q := 59) dX10_find_58 rfl rfl 0 rfl ?_
      obtain ⟨c_7, h⟩ := chk_some h
      obtain ⟨a_8, e_9, h⟩ := bnd_some h
      refine zr_getr (q := 62) (ci := 10) (k := 41) dX10_find_59 rfl (eq_of_beq c_7) rfl (by decide) rfl zbX10 (by decide) zb_508 rfl e_9 ?_
      refine zr_iload_n (q := 63) dX10_find_62 rfl rfl 1 rfl ?_
      obtain ⟨c_10, h⟩ := chk_some h
      obtain ⟨c_11, h⟩ := chk_some h
      refine zr_iald (q := 64) dX10_find_63 rfl (eq_of_beq c_10) c_11 ?_
      cases h
      exact zr_ireturn dX10_find_64 rfl ⟨by decide, by decide⟩ ⟨rfl, rfl⟩
    · replace h := ite_f c_6 h
      refine zr_aload_n (q := 50) dX10_find_49 rfl rfl 0 rfl ?_
      obtain ⟨c_12, h⟩ := chk_some h
      obtain ⟨a_13, e_14, h⟩ := bnd_some h
      refine zr_getr (q := 53) (ci := 10) (k := 40) dX10_find_50 rfl (eq_of_beq c_12) rfl (by decide) rfl zbX10 (by decide) zb_510 rfl e_14 ?_
      refine zr_iload_n (q := 54) dX10_find_53 rfl rfl 1 rfl ?_
      obtain ⟨c_15, h⟩ := chk_some h
      obtain ⟨c_16, h⟩ := chk_some h
      refine zr_iald (q := 55) dX10_find_54 rfl (eq_of_beq c_15) c_16 ?_
      refine zr_goto (q := 64) dX10_find_55 (by decide) ?_
      cases h
      exact zr_ireturn dX10_find_64 rfl ⟨by decide, by decide⟩ ⟨rfl, rfl⟩
  · replace h := ite_f c_5 h
    refine zr_iconst (q := 42) (v := 0) dX10_find_41 rfl (by decide) ?_
    refine zr_goto (q := 64) dX10_find_42 (by decide) ?_
    cases h
    exact zr_ireturn dX10_find_64 rfl ⟨by decide, by decide⟩ ⟨rfl, rfl⟩
def fX10_find_26 (n : Nat) (M : zM) (v0 : Nat) (v1 : Int32) (v2 : Int32) (s0 : Nat) : Option (Int32 × zM) :=
  fX10_find_31 n M v0 v1 v2 s0 (2 : Int32)
set_option maxHeartbeats 4000000 in
theorem tX10_find_26 (n : Nat) (M : zM) (v0 : Nat) (v1 : Int32) (v2 : Int32) (s0 : Nat) (r : Int32) (M' : zM) (h : fX10_find_26 n M v0 v1 v2 s0 = some (r, M')) : zW uX10_find none (0, 0) M 26 [(0, .ref v0), (1, .int v1), (2, .int v2)] [.ref s0] (zE (oI r) M') := by
  unfold fX10_find_26 at h
  refine zr_iconst (q := 27) (v := 2) dX10_find_26 rfl (by decide) ?_
  refine zr_goto (q := 31) dX10_find_27 (by decide) ?_
  exact zr_pick [0, 1, 2] rfl (tX10_find_31 n M v0 v1 v2 s0 (2 : Int32) _ _ h)
def fX10_find (n : Nat) (M : zM) (v0 : Nat) (v1 : Int32) (v2 : Int32) : Option (Int32 × zM) :=
  chk (mK M v0 == 10) <|
  bnd2 (fX10_none n M v0) fun r_1 M_2 =>
  if r_1 = (0 : Int32) then
    chk (mK M_2 v0 == 10) <|
    bnd2 (fX10_findAll n M_2 v0) fun r_6 M_7 =>
    if v1 < (0 : Int32) then
      fX10_find_26 n M_7 v0 v1 v2 v0
    else
    chk (mK M_7 v0 == 10) <|
    if v1 < (mI M_7 v0 42) then
      fX10_find_31 n M_7 v0 v1 v2 v0 (0 : Int32)
    else
    fX10_find_26 n M_7 v0 v1 v2 v0
  else
  some ((0 : Int32), M_2)
set_option maxHeartbeats 4000000 in
theorem tX10_find (n : Nat) (M : zM) (v0 : Nat) (v1 : Int32) (v2 : Int32) (r : Int32) (M' : zM) (h : fX10_find n M v0 v1 v2 = some (r, M')) : zMet uX10_find false M [.ref v0, .int v1, .int v2] (zE (oI r) M') := by
  refine zMet_of (L := [(0, .ref v0), (1, .int v1), (2, .int v2)]) (by decide +kernel) rfl rfl (Nat.le_of_ble_eq_true rfl) ?_
  show zW uX10_find none (0, 0) M 0 [(0, .ref v0), (1, .int v1), (2, .int v2)] [] (zE (oI r) M')
  unfold fX10_find at h
  refine zr_aload_n (q := 1) dX10_find_0 rfl rfl 0 rfl ?_
  obtain ⟨c_4, h⟩ := chk_some h
  obtain ⟨r_1, M_2, hc_3, h⟩ := bnd2_some h
  refine zr_callVI (μ' := uX10_none) (q := 4) (n := 0) (ci := 10) (As := []) (u' := (0, 0)) (tX10_none n M v0 _ _ hc_3) dX10_find_1 rfl rfl ⟨zb_490, zb_491, zb_492, zb_493, zb_389⟩ zd_X10_none ⟨by decide, by decide⟩ ⟨by decide, by decide⟩ (eq_of_beq c_4) (by decide) rfl rfl rfl (Nat.le_of_ble_eq_true rfl) rfl rfl ?_
  refine zr_if_eq (q := 7) (tgt := 9) dX10_find_4 rfl (by decide) (fun c_5 => ?_) (fun c_5 => ?_)
  · replace h := ite_t c_5 h
    refine zr_aload_n (q := 10) dX10_find_9 rfl rfl 0 rfl ?_
    obtain ⟨c_9, h⟩ := chk_some h
    obtain ⟨r_6, M_7, hc_8, h⟩ := bnd2_some h
    refine zr_callVV (μ' := uX10_findAll) (q := 13) (n := 0) (ci := 10) (As := []) (u' := (0, 0)) (tX10_findAll n M_2 v0 _ _ hc_8) dX10_find_10 rfl rfl ⟨zb_511, zb_512, zb_513, zb_514, zb_389⟩ zd_X10_findAll ⟨by decide, by decide⟩ ⟨by decide, by decide⟩ (eq_of_beq c_9) (by decide) rfl rfl rfl (Nat.le_of_ble_eq_true rfl) rfl rfl ?_
    refine zr_aload_n (q := 14) dX10_find_13 rfl rfl 0 rfl ?_
    refine zr_iload_n (q := 15) dX10_find_14 rfl rfl 1 rfl ?_
    refine zr_if_lt (q := 18) (tgt := 26) dX10_find_15 rfl (by decide) (fun c_10 => ?_) (fun c_10 => ?_)
    · replace h := ite_t c_10 h
      exact zr_pick [0, 1, 2] rfl (tX10_find_26 n M_7 v0 v1 v2 v0 _ _ h)
    · replace h := ite_f c_10 h
      refine zr_iload_n (q := 19) dX10_find_18 rfl rfl 1 rfl ?_
      refine zr_aload_n (q := 20) dX10_find_19 rfl rfl 0 rfl ?_
      obtain ⟨c_11, h⟩ := chk_some h
      refine zr_get (q := 23) (ci := 10) (k := 42) dX10_find_20 rfl (eq_of_beq c_11) rfl (by decide) rfl zbX10 (by decide) zb_509 rfl ?_
      refine zr_icmp_lt (q := 26) (tgt := 30) dX10_find_23 rfl (by decide) (fun c_12 => ?_) (fun c_12 => ?_)
      · replace h := ite_t c_12 h
        refine zr_iconst (q := 31) (v := 0) dX10_find_30 rfl (by decide) ?_
        exact zr_pick [0, 1, 2] rfl (tX10_find_31 n M_7 v0 v1 v2 v0 (0 : Int32) _ _ h)
      · replace h := ite_f c_12 h
        exact zr_pick [0, 1, 2] rfl (tX10_find_26 n M_7 v0 v1 v2 v0 _ _ h)
  · replace h := ite_f c_5 h
    refine zr_iconst (q := 8) (v := 0) dX10_find_7 rfl (by decide) ?_
    cases h
    exact zr_ireturn dX10_find_8 rfl ⟨by decide, by decide⟩ ⟨rfl, rfl⟩

def uX10_stateOf : zMu := (yX10_stateOf, cX10_stateOf, 5, (some .int), { frames := 0, cells := 0, slots := 0, locals := 0 }, [])
theorem zd_X10_stateOf : (uY uX10_stateOf).cls ≠ "java/lang/invoke/MethodHandle" ∧ (uY uX10_stateOf).cls ≠ "java/lang/invoke/VarHandle" ∧ (parseMethodDescriptor (uY uX10_stateOf).desc).map (fun d => d.parameters.length) = some 2 := by decide +kernel
def fX10_stateOf_3 : Nat → zM → Nat → Int32 → Int64 → Int32 → Option (Int32 × zM)
  | 0, _, _, _, _, _ => none
  | n + 1, M, v0, v1, v2, v4 =>
    chk (mK M v0 == 10) <|
    bnd (mR M v0 32) fun a_2 =>
    chk (mK M a_2 == 11) <|
    chk (zin v1 (mN M a_2)) <|
    if (mI M a_2 (Int32.toNatClampNeg v1)) ≤ v4 then
      chk (mK M v0 == 10) <|
      bnd (mR M v0 32) fun a_8 =>
      chk (mK M a_8 == 11) <|
      chk (zin v1 (mN M a_8)) <|
      if (mI M a_8 (Int32.toNatClampNeg v1)) = (300 : Int32) then
        chk (mK M v0 == 10) <|
        bnd (mR M v0 33) fun a_40 =>
        chk (mK M a_40 == 13) <|
        chk (zin v1 (mN M a_40)) <|
        app (wI M a_40 (Int32.toNatClampNeg v1) (vp_nar .boolean (1 : Int32))) fun M_44 : zM =>
        some ((-1 : Int32), M_44)
      else
      chk (mK M v0 == 10) <|
      bnd (mR M v0 30) fun a_14 =>
      chk (mK M v0 == 10) <|
      bnd (mR M v0 32) fun a_17 =>
      chk (mK M a_17 == 11) <|
      chk (zin v1 (mN M a_17)) <|
      chk (mK M a_14 == 12) <|
      chk (zin (((300 : Int32) * v1) + (mI M a_17 (Int32.toNatClampNeg v1))) (mN M a_14)) <|
      app (wL M a_14 (Int32.toNatClampNeg (((300 : Int32) * v1) + (mI M a_17 (Int32.toNatClampNeg v1)))) v2) fun M_23 : zM =>
      chk (mK M_23 v0 == 10) <|
      bnd (mR M_23 v0 32) fun a_26 =>
      chk (mK M_23 a_26 == 11) <|
      chk (zin v1 (mN M_23 a_26)) <|
      chk (mK M_23 a_26 == 11) <|
      chk (zin v1 (mN M_23 a_26)) <|
      app (wI M_23 a_26 (Int32.toNatClampNeg v1) ((mI M_23 a_26 (Int32.toNatClampNeg v1)) + (1 : Int32))) fun M_32 : zM =>
      chk (mK M_32 v0 == 10) <|
      bnd (mR M_32 v0 32) fun a_35 =>
      chk (mK M_32 a_35 == 11) <|
      chk (zin v1 (mN M_32 a_35)) <|
      some (((mI M_32 a_35 (Int32.toNatClampNeg v1)) - (1 : Int32)), M_32)
    else
    chk (mK M v0 == 10) <|
    bnd (mR M v0 30) fun a_47 =>
    chk (mK M a_47 == 12) <|
    chk (zin (((300 : Int32) * v1) + v4) (mN M a_47)) <|
    if (lg_cmp (mL M a_47 (Int32.toNatClampNeg (((300 : Int32) * v1) + v4))) v2) = (0 : Int32) then
      some (v4, M)
    else
    app (v4 + (1 : Int32)) fun v4_52 : Int32 =>
    (fX10_stateOf_3 n) M v0 v1 v2 v4_52
set_option maxHeartbeats 4000000 in
theorem tX10_stateOf_3 : ∀ (n : Nat) (M : zM) (v0 : Nat) (v1 : Int32) (v2 : Int64) (v4 : Int32) (r : Int32) (M' : zM), fX10_stateOf_3 n M v0 v1 v2 v4 = some (r, M') → zW uX10_stateOf none (0, 0) M 3 [(0, .ref v0), (1, .int v1), (2, .long v2), (4, .int v4)] [] (zE (oI r) M') := by
  intro n
  induction n with
  | zero => intro M v0 v1 v2 v4 r M' h; cases h
  | succ n ih =>
    intro M v0 v1 v2 v4 r M' h
    rw [fX10_stateOf_3] at h
    refine zr_iload (q := 5) dX10_stateOf_3 rfl 3 rfl ?_
    refine zr_aload_n (q := 6) dX10_stateOf_5 rfl rfl 0 rfl ?_
    obtain ⟨c_1, h⟩ := chk_some h
    obtain ⟨a_2, e_3, h⟩ := bnd_some h
    refine zr_getr (q := 9) (ci := 10) (k := 32) dX10_stateOf_6 rfl (eq_of_beq c_1) rfl (by decide) rfl zbX10 (by decide) zb_515 rfl e_3 ?_
    refine zr_iload_n (q := 10) dX10_stateOf_9 rfl rfl 1 rfl ?_
    obtain ⟨c_4, h⟩ := chk_some h
    obtain ⟨c_5, h⟩ := chk_some h
    refine zr_iald (q := 11) dX10_stateOf_10 rfl (eq_of_beq c_4) c_5 ?_
    refine zr_icmp_ge (q := 14) (tgt := 41) dX10_stateOf_11 rfl (by decide) (fun c_6 => ?_) (fun c_6 => ?_)
    · replace h := ite_t c_6 h
      refine zr_aload_n (q := 42) dX10_stateOf_41 rfl rfl 0 rfl ?_
      obtain ⟨c_7, h⟩ := chk_some h
      obtain ⟨a_8, e_9, h⟩ := bnd_some h
      refine zr_getr (q := 45) (ci := 10) (k := 32) dX10_stateOf_42 rfl (eq_of_beq c_7) rfl (by decide) rfl zbX10 (by decide) zb_515 rfl e_9 ?_
      refine zr_iload_n (q := 46) dX10_stateOf_45 rfl rfl 1 rfl ?_
      obtain ⟨c_10, h⟩ := chk_some h
      obtain ⟨c_11, h⟩ := chk_some h
      refine zr_iald (q := 47) dX10_stateOf_46 rfl (eq_of_beq c_10) c_11 ?_
      refine zr_sipush (q := 50) (v := 300) dX10_stateOf_47 rfl (by decide) ?_
      refine zr_icmp_ne (q := 53) (tgt := 62) dX10_stateOf_50 rfl (by decide) (fun c_12 => ?_) (fun c_12 => ?_)
      · replace h := ite_f c_12 h
        refine zr_aload_n (q := 63) dX10_stateOf_62 rfl rfl 0 rfl ?_
        obtain ⟨c_13, h⟩ := chk_some h
        obtain ⟨a_14, e_15, h⟩ := bnd_some h
        refine zr_getr (q := 66) (ci := 10) (k := 30) dX10_stateOf_63 rfl (eq_of_beq c_13) rfl (by decide) rfl zbX10 (by decide) zb_516 rfl e_15 ?_
        refine zr_sipush (q := 69) (v := 300) dX10_stateOf_66 rfl (by decide) ?_
        refine zr_iload_n (q := 70) dX10_stateOf_69 rfl rfl 1 rfl ?_
        refine zr_imul (q := 71) dX10_stateOf_70 rfl ?_
        refine zr_aload_n (q := 72) dX10_stateOf_71 rfl rfl 0 rfl ?_
        obtain ⟨c_16, h⟩ := chk_some h
        obtain ⟨a_17, e_18, h⟩ := bnd_some h
        refine zr_getr (q := 75) (ci := 10) (k := 32) dX10_stateOf_72 rfl (eq_of_beq c_16) rfl (by decide) rfl zbX10 (by decide) zb_515 rfl e_18 ?_
        refine zr_iload_n (q := 76) dX10_stateOf_75 rfl rfl 1 rfl ?_
        obtain ⟨c_19, h⟩ := chk_some h
        obtain ⟨c_20, h⟩ := chk_some h
        refine zr_iald (q := 77) dX10_stateOf_76 rfl (eq_of_beq c_19) c_20 ?_
        refine zr_iadd (q := 78) dX10_stateOf_77 rfl ?_
        refine zr_lload_n (q := 79) dX10_stateOf_78 rfl rfl 2 rfl ?_
        obtain ⟨c_21, h⟩ := chk_some h
        obtain ⟨c_22, h⟩ := chk_some h
        obtain ⟨M_23, e_24, h⟩ := app_some h
        refine zr_last (q := 80) dX10_stateOf_79 rfl (eq_of_beq c_21) c_22 ?_
        refine zr_mem e_24 ?_
        refine zr_aload_n (q := 81) dX10_stateOf_80 rfl rfl 0 rfl ?_
        obtain ⟨c_25, h⟩ := chk_some h
        obtain ⟨a_26, e_27, h⟩ := bnd_some h
        refine zr_getr (q := 84) (ci := 10) (k := 32) dX10_stateOf_81 rfl (eq_of_beq c_25) rfl (by decide) rfl zbX10 (by decide) zb_515 rfl e_27 ?_
        refine zr_iload_n (q := 85) dX10_stateOf_84 rfl rfl 1 rfl ?_
        refine zr_dup2 (q := 86) dX10_stateOf_85 rfl rfl rfl ?_
        obtain ⟨c_28, h⟩ := chk_some h
        obtain ⟨c_29, h⟩ := chk_some h
        refine zr_iald (q := 87) dX10_stateOf_86 rfl (eq_of_beq c_28) c_29 ?_
        refine zr_iconst (q := 88) (v := 1) dX10_stateOf_87 rfl (by decide) ?_
        refine zr_iadd (q := 89) dX10_stateOf_88 rfl ?_
        obtain ⟨c_30, h⟩ := chk_some h
        obtain ⟨c_31, h⟩ := chk_some h
        obtain ⟨M_32, e_33, h⟩ := app_some h
        refine zr_iast (q := 90) dX10_stateOf_89 rfl (eq_of_beq c_30) c_31 ?_
        refine zr_mem e_33 ?_
        refine zr_aload_n (q := 91) dX10_stateOf_90 rfl rfl 0 rfl ?_
        obtain ⟨c_34, h⟩ := chk_some h
        obtain ⟨a_35, e_36, h⟩ := bnd_some h
        refine zr_getr (q := 94) (ci := 10) (k := 32) dX10_stateOf_91 rfl (eq_of_beq c_34) rfl (by decide) rfl zbX10 (by decide) zb_515 rfl e_36 ?_
        refine zr_iload_n (q := 95) dX10_stateOf_94 rfl rfl 1 rfl ?_
        obtain ⟨c_37, h⟩ := chk_some h
        obtain ⟨c_38, h⟩ := chk_some h
        refine zr_iald (q := 96) dX10_stateOf_95 rfl (eq_of_beq c_37) c_38 ?_
        refine zr_iconst (q := 97) (v := 1) dX10_stateOf_96 rfl (by decide) ?_
        refine zr_isub (q := 98) dX10_stateOf_97 rfl ?_
        cases h
        exact zr_ireturn dX10_stateOf_98 rfl ⟨by decide, by decide⟩ ⟨rfl, rfl⟩
      · replace h := ite_t c_12 h
        refine zr_aload_n (q := 54) dX10_stateOf_53 rfl rfl 0 rfl ?_
        obtain ⟨c_39, h⟩ := chk_some h
        obtain ⟨a_40, e_41, h⟩ := bnd_some h
        refine zr_getr (q := 57) (ci := 10) (k := 33) dX10_stateOf_54 rfl (eq_of_beq c_39) rfl (by decide) rfl zbX10 (by decide) zb_517 rfl e_41 ?_
        refine zr_iload_n (q := 58) dX10_stateOf_57 rfl rfl 1 rfl ?_
        refine zr_iconst (q := 59) (v := 1) dX10_stateOf_58 rfl (by decide) ?_
        obtain ⟨c_42, h⟩ := chk_some h
        obtain ⟨c_43, h⟩ := chk_some h
        obtain ⟨M_44, e_45, h⟩ := app_some h
        refine zr_zast (q := 60) dX10_stateOf_59 rfl (eq_of_beq c_42) c_43 ?_
        refine zr_mem e_45 ?_
        refine zr_iconst (q := 61) (v := -1) dX10_stateOf_60 rfl (by decide) ?_
        cases h
        exact zr_ireturn dX10_stateOf_61 rfl ⟨by decide, by decide⟩ ⟨rfl, rfl⟩
    · replace h := ite_f c_6 h
      refine zr_aload_n (q := 15) dX10_stateOf_14 rfl rfl 0 rfl ?_
      obtain ⟨c_46, h⟩ := chk_some h
      obtain ⟨a_47, e_48, h⟩ := bnd_some h
      refine zr_getr (q := 18) (ci := 10) (k := 30) dX10_stateOf_15 rfl (eq_of_beq c_46) rfl (by decide) rfl zbX10 (by decide) zb_516 rfl e_48 ?_
      refine zr_sipush (q := 21) (v := 300) dX10_stateOf_18 rfl (by decide) ?_
      refine zr_iload_n (q := 22) dX10_stateOf_21 rfl rfl 1 rfl ?_
      refine zr_imul (q := 23) dX10_stateOf_22 rfl ?_
      refine zr_iload (q := 25) dX10_stateOf_23 rfl 3 rfl ?_
      refine zr_iadd (q := 26) dX10_stateOf_25 rfl ?_
      obtain ⟨c_49, h⟩ := chk_some h
      obtain ⟨c_50, h⟩ := chk_some h
      refine zr_lald (q := 27) dX10_stateOf_26 rfl (eq_of_beq c_49) c_50 ?_
      refine zr_lload_n (q := 28) dX10_stateOf_27 rfl rfl 2 rfl ?_
      refine zr_lcmp (q := 29) dX10_stateOf_28 rfl ?_
      refine zr_if_ne (q := 32) (tgt := 35) dX10_stateOf_29 rfl (by decide) (fun c_51 => ?_) (fun c_51 => ?_)
      · replace h := ite_f c_51 h
        obtain ⟨v4_52, e_53, h⟩ := app_some h
        refine zr_iinc (q := 38) (v := v4_52) (L' := [(4, .int v4_52), (0, .ref v0), (1, .int v1), (2, .long v2)]) dX10_stateOf_35 rfl 3 rfl (by rw [← e_53]; rfl) (by decide) rfl ?_
        refine zr_goto (q := 3) dX10_stateOf_38 (by decide) ?_
        exact zr_pick [1, 2, 3, 0] rfl (ih M v0 v1 v2 v4_52 _ _ h)
      · replace h := ite_t c_51 h
        refine zr_iload (q := 34) dX10_stateOf_32 rfl 3 rfl ?_
        cases h
        exact zr_ireturn dX10_stateOf_34 rfl ⟨by decide, by decide⟩ ⟨rfl, rfl⟩
def fX10_stateOf (n : Nat) (M : zM) (v0 : Nat) (v1 : Int32) (v2 : Int64) : Option (Int32 × zM) :=
  fX10_stateOf_3 n M v0 v1 v2 (1 : Int32)
set_option maxHeartbeats 4000000 in
theorem tX10_stateOf (n : Nat) (M : zM) (v0 : Nat) (v1 : Int32) (v2 : Int64) (r : Int32) (M' : zM) (h : fX10_stateOf n M v0 v1 v2 = some (r, M')) : zMet uX10_stateOf false M [.ref v0, .int v1, .long v2] (zE (oI r) M') := by
  refine zMet_of (L := [(0, .ref v0), (1, .int v1), (2, .long v2)]) (by decide +kernel) rfl rfl (Nat.le_of_ble_eq_true rfl) ?_
  show zW uX10_stateOf none (0, 0) M 0 [(0, .ref v0), (1, .int v1), (2, .long v2)] [] (zE (oI r) M')
  unfold fX10_stateOf at h
  refine zr_iconst (q := 1) (v := 1) dX10_stateOf_0 rfl (by decide) ?_
  refine zr_istore (q := 3) (L' := [(4, .int (1 : Int32)), (0, .ref v0), (1, .int v1), (2, .long v2)]) dX10_stateOf_1 rfl (by decide) rfl ?_
  exact zr_pick [1, 2, 3, 0] rfl (tX10_stateOf_3 n M v0 v1 v2 (1 : Int32) _ _ h)

def uX10_build : zMu := (yX10_build, cX10_build, 6, none, { frames := 2, cells := 0, slots := 0, locals := 50 }, [])
theorem zd_X10_build : (uY uX10_build).cls ≠ "java/lang/invoke/MethodHandle" ∧ (uY uX10_build).cls ≠ "java/lang/invoke/VarHandle" ∧ (parseMethodDescriptor (uY uX10_build).desc).map (fun d => d.parameters.length) = some 1 := by decide +kernel
def fX10_build_45 (k16 : zM → Nat → Int32 → Int32 → Option (Unit × zM)) (k28 : zM → Nat → Int32 → Int32 → Int32 → Option (Unit × zM)) (n : Nat) (M : zM) (v0 : Nat) (v1 : Int32) (v2 : Int32) (v3 : Int32) (s0 : Nat) (s1 : Int32) (s2 : Int32) : Option (Unit × zM) :=
  chk (mK M v0 == 10) <|
  bnd (mR M v0 30) fun a_2 =>
  chk (mK M a_2 == 12) <|
  chk (zin (((300 : Int32) * v1) + v2) (mN M a_2)) <|
  chk (mK M s0 == 10) <|
  bnd2 (fX10_goOn n M s0 s1 s2 (mL M a_2 (Int32.toNatClampNeg (((300 : Int32) * v1) + v2))) v3) fun r_6 M_7 =>
  chk (mK M_7 v0 == 10) <|
  bnd (mR M_7 v0 31) fun a_11 =>
  chk (mK M_7 v0 == 10) <|
  bnd2 (fX10_stateOf n M_7 v0 v1 r_6) fun r_13 M_14 =>
  chk (mK M_14 a_11 == 11) <|
  chk (zin ((((10800 : Int32) * v1) + ((36 : Int32) * v2)) + v3) (mN M_14 a_11)) <|
  app (wI M_14 a_11 (Int32.toNatClampNeg ((((10800 : Int32) * v1) + ((36 : Int32) * v2)) + v3)) r_13) fun M_19 : zM =>
  app (v3 + (1 : Int32)) fun v3_21 : Int32 =>
  k28 M_19 v0 v1 v2 v3_21
set_option maxHeartbeats 4000000 in
theorem tX10_build_45 (k16 : zM → Nat → Int32 → Int32 → Option (Unit × zM)) (h16 : ∀ (M : zM) (v0 : Nat) (v1 : Int32) (v2 : Int32) (r : Unit) (M' : zM), k16 M v0 v1 v2 = some (r, M') → zW uX10_build none (0, 0) M 16 [(0, .ref v0), (1, .int v1), (2, .int v2)] [] (zE (oV r) M')) (k28 : zM → Nat → Int32 → Int32 → Int32 → Option (Unit × zM)) (h28 : ∀ (M : zM) (v0 : Nat) (v1 : Int32) (v2 : Int32) (v3 : Int32) (r : Unit) (M' : zM), k28 M v0 v1 v2 v3 = some (r, M') → zW uX10_build none (0, 0) M 28 [(0, .ref v0), (1, .int v1), (2, .int v2), (3, .int v3)] [] (zE (oV r) M')) (n : Nat) (M : zM) (v0 : Nat) (v1 : Int32) (v2 : Int32) (v3 : Int32) (s0 : Nat) (s1 : Int32) (s2 : Int32) (r : Unit) (M' : zM) (h : fX10_build_45 k16 k28 n M v0 v1 v2 v3 s0 s1 s2 = some (r, M')) : zW uX10_build none (0, 0) M 45 [(0, .ref v0), (1, .int v1), (2, .int v2), (3, .int v3)] [.int s2, .int s1, .ref s0] (zE (oV r) M') := by
  unfold fX10_build_45 at h
  refine zr_aload_n (q := 46) dX10_build_45 rfl rfl 0 rfl ?_
  obtain ⟨c_1, h⟩ := chk_some h
  obtain ⟨a_2, e_3, h⟩ := bnd_some h
  refine zr_getr (q := 49) (ci := 10) (k := 30) dX10_build_46 rfl (eq_of_beq c_1) rfl (by decide) rfl zbX10 (by decide) zb_516 rfl e_3 ?_
  refine zr_sipush (q := 52) (v := 300) dX10_build_49 rfl (by decide) ?_
  refine zr_iload_n (q := 53) dX10_build_52 rfl rfl 1 rfl ?_
  refine zr_imul (q := 54) dX10_build_53 rfl ?_
  refine zr_iload_n (q := 55) dX10_build_54 rfl rfl 2 rfl ?_
  refine zr_iadd (q := 56) dX10_build_55 rfl ?_
  obtain ⟨c_4, h⟩ := chk_some h
  obtain ⟨c_5, h⟩ := chk_some h
  refine zr_lald (q := 57) dX10_build_56 rfl (eq_of_beq c_4) c_5 ?_
  refine zr_iload_n (q := 58) dX10_build_57 rfl rfl 3 rfl ?_
  obtain ⟨c_9, h⟩ := chk_some h
  obtain ⟨r_6, M_7, hc_8, h⟩ := bnd2_some h
  refine zr_callVL (μ' := uX10_goOn) (q := 61) (n := 4) (ci := 10) (As := [.int s1, .int s2, .long (mL M a_2 (Int32.toNatClampNeg (((300 : Int32) * v1) + v2))), .int v3]) (u' := (0, 0)) (tX10_goOn n M s0 s1 s2 (mL M a_2 (Int32.toNatClampNeg (((300 : Int32) * v1) + v2))) v3 _ _ hc_8) dX10_build_58 rfl rfl ⟨zb_500, zb_501, zb_502, zb_503, zb_389⟩ zd_X10_goOn ⟨by decide, by decide⟩ ⟨by decide, by decide⟩ (eq_of_beq c_9) (by decide) rfl rfl rfl (Nat.le_of_ble_eq_true rfl) rfl rfl ?_
  refine zr_lstore (q := 63) (L' := [(4, .long r_6), (0, .ref v0), (1, .int v1), (2, .int v2), (3, .int v3)]) dX10_build_61 rfl (by decide) rfl ?_
  refine zr_aload_n (q := 64) dX10_build_63 rfl rfl 1 rfl ?_
  obtain ⟨c_10, h⟩ := chk_some h
  obtain ⟨a_11, e_12, h⟩ := bnd_some h
  refine zr_getr (q := 67) (ci := 10) (k := 31) dX10_build_64 rfl (eq_of_beq c_10) rfl (by decide) rfl zbX10 (by decide) zb_518 rfl e_12 ?_
  refine zr_sipush (q := 70) (v := 10800) dX10_build_67 rfl (by decide) ?_
  refine zr_iload_n (q := 71) dX10_build_70 rfl rfl 2 rfl ?_
  refine zr_imul (q := 72) dX10_build_71 rfl ?_
  refine zr_bipush (q := 74) (v := 36) dX10_build_72 rfl (by decide) ?_
  refine zr_iload_n (q := 75) dX10_build_74 rfl rfl 3 rfl ?_
  refine zr_imul (q := 76) dX10_build_75 rfl ?_
  refine zr_iadd (q := 77) dX10_build_76 rfl ?_
  refine zr_iload_n (q := 78) dX10_build_77 rfl rfl 4 rfl ?_
  refine zr_iadd (q := 79) dX10_build_78 rfl ?_
  refine zr_aload_n (q := 80) dX10_build_79 rfl rfl 1 rfl ?_
  refine zr_iload_n (q := 81) dX10_build_80 rfl rfl 2 rfl ?_
  refine zr_lload (q := 83) dX10_build_81 rfl 0 rfl ?_
  obtain ⟨c_16, h⟩ := chk_some h
  obtain ⟨r_13, M_14, hc_15, h⟩ := bnd2_some h
  refine zr_callVI (μ' := uX10_stateOf) (q := 86) (n := 2) (ci := 10) (As := [.int v1, .long r_6]) (u' := (0, 0)) (tX10_stateOf n M_7 v0 v1 r_6 _ _ hc_15) dX10_build_83 rfl rfl ⟨zb_519, zb_520, zb_521, zb_522, zb_389⟩ zd_X10_stateOf ⟨by decide, by decide⟩ ⟨by decide, by decide⟩ (eq_of_beq c_16) (by decide) rfl rfl rfl (Nat.le_of_ble_eq_true rfl) rfl rfl ?_
  obtain ⟨c_17, h⟩ := chk_some h
  obtain ⟨c_18, h⟩ := chk_some h
  obtain ⟨M_19, e_20, h⟩ := app_some h
  refine zr_iast (q := 87) dX10_build_86 rfl (eq_of_beq c_17) c_18 ?_
  refine zr_mem e_20 ?_
  obtain ⟨v3_21, e_22, h⟩ := app_some h
  refine zr_iinc (q := 90) (v := v3_21) (L' := [(3, .int v3_21), (4, .long r_6), (0, .ref v0), (1, .int v1), (2, .int v2)]) dX10_build_87 rfl 4 rfl (by rw [← e_22]; rfl) (by decide) rfl ?_
  refine zr_goto (q := 28) dX10_build_90 (by decide) ?_
  exact zr_pick [2, 3, 4, 0] rfl (h28 M_19 v0 v1 v2 v3_21 _ _ h)
def fX10_build_28 (k16 : zM → Nat → Int32 → Int32 → Option (Unit × zM)) : Nat → zM → Nat → Int32 → Int32 → Int32 → Option (Unit × zM)
  | 0, _, _, _, _, _ => none
  | n + 1, M, v0, v1, v2, v3 =>
    if (36 : Int32) ≤ v3 then
      app (v2 + (1 : Int32)) fun v2_2 : Int32 =>
      k16 M v0 v1 v2_2
    else
    if v2 = (0 : Int32) then
      fX10_build_45 k16 (fX10_build_28 k16 n) n M v0 v1 v2 v3 v0 v1 (1 : Int32)
    else
    fX10_build_45 k16 (fX10_build_28 k16 n) n M v0 v1 v2 v3 v0 v1 (0 : Int32)
set_option maxHeartbeats 4000000 in
theorem tX10_build_28 (k16 : zM → Nat → Int32 → Int32 → Option (Unit × zM)) (h16 : ∀ (M : zM) (v0 : Nat) (v1 : Int32) (v2 : Int32) (r : Unit) (M' : zM), k16 M v0 v1 v2 = some (r, M') → zW uX10_build none (0, 0) M 16 [(0, .ref v0), (1, .int v1), (2, .int v2)] [] (zE (oV r) M')) : ∀ (n : Nat) (M : zM) (v0 : Nat) (v1 : Int32) (v2 : Int32) (v3 : Int32) (r : Unit) (M' : zM), fX10_build_28 k16 n M v0 v1 v2 v3 = some (r, M') → zW uX10_build none (0, 0) M 28 [(0, .ref v0), (1, .int v1), (2, .int v2), (3, .int v3)] [] (zE (oV r) M') := by
  intro n
  induction n with
  | zero => intro M v0 v1 v2 v3 r M' h; cases h
  | succ n ih =>
    intro M v0 v1 v2 v3 r M' h
    rw [fX10_build_28] at h
    refine zr_iload_n (q := 29) dX10_build_28 rfl rfl 3 rfl ?_
    refine zr_bipush (q := 31) (v := 36) dX10_build_29 rfl (by decide) ?_
    refine zr_icmp_ge (q := 34) (tgt := 93) dX10_build_31 rfl (by decide) (fun c_1 => ?_) (fun c_1 => ?_)
    · replace h := ite_t c_1 h
      obtain ⟨v2_2, e_3, h⟩ := app_some h
      refine zr_iinc (q := 96) (v := v2_2) (L' := [(2, .int v2_2), (0, .ref v0), (1, .int v1), (3, .int v3)]) dX10_build_93 rfl 2 rfl (by rw [← e_3]; rfl) (by decide) rfl ?_
      refine zr_goto (q := 16) dX10_build_96 (by decide) ?_
      exact zr_pick [1, 2, 0] rfl (h16 M v0 v1 v2_2 _ _ h)
    · replace h := ite_f c_1 h
      refine zr_aload_n (q := 35) dX10_build_34 rfl rfl 0 rfl ?_
      refine zr_iload_n (q := 36) dX10_build_35 rfl rfl 1 rfl ?_
      refine zr_iload_n (q := 37) dX10_build_36 rfl rfl 2 rfl ?_
      refine zr_if_ne (q := 40) (tgt := 44) dX10_build_37 rfl (by decide) (fun c_4 => ?_) (fun c_4 => ?_)
      · replace h := ite_f c_4 h
        refine zr_iconst (q := 45) (v := 0) dX10_build_44 rfl (by decide) ?_
        exact zr_pick [0, 1, 2, 3] rfl (tX10_build_45 k16 h16 (fX10_build_28 k16 n) ih n M v0 v1 v2 v3 v0 v1 (0 : Int32) _ _ h)
      · replace h := ite_t c_4 h
        refine zr_iconst (q := 41) (v := 1) dX10_build_40 rfl (by decide) ?_
        refine zr_goto (q := 45) dX10_build_41 (by decide) ?_
        exact zr_pick [0, 1, 2, 3] rfl (tX10_build_45 k16 h16 (fX10_build_28 k16 n) ih n M v0 v1 v2 v3 v0 v1 (1 : Int32) _ _ h)
def fX10_build_16 : Nat → zM → Nat → Int32 → Int32 → Option (Unit × zM)
  | 0, _, _, _, _ => none
  | n + 1, M, v0, v1, v2 =>
    chk (mK M v0 == 10) <|
    bnd (mR M v0 32) fun a_2 =>
    chk (mK M a_2 == 11) <|
    chk (zin v1 (mN M a_2)) <|
    if (mI M a_2 (Int32.toNatClampNeg v1)) ≤ v2 then
      some ((), M)
    else
    fX10_build_28 (fX10_build_16 n) n M v0 v1 v2 (0 : Int32)
set_option maxHeartbeats 4000000 in
theorem tX10_build_16 : ∀ (n : Nat) (M : zM) (v0 : Nat) (v1 : Int32) (v2 : Int32) (r : Unit) (M' : zM), fX10_build_16 n M v0 v1 v2 = some (r, M') → zW uX10_build none (0, 0) M 16 [(0, .ref v0), (1, .int v1), (2, .int v2)] [] (zE (oV r) M') := by
  intro n
  induction n with
  | zero => intro M v0 v1 v2 r M' h; cases h
  | succ n ih =>
    intro M v0 v1 v2 r M' h
    rw [fX10_build_16] at h
    refine zr_iload_n (q := 17) dX10_build_16 rfl rfl 2 rfl ?_
    refine zr_aload_n (q := 18) dX10_build_17 rfl rfl 0 rfl ?_
    obtain ⟨c_1, h⟩ := chk_some h
    obtain ⟨a_2, e_3, h⟩ := bnd_some h
    refine zr_getr (q := 21) (ci := 10) (k := 32) dX10_build_18 rfl (eq_of_beq c_1) rfl (by decide) rfl zbX10 (by decide) zb_515 rfl e_3 ?_
    refine zr_iload_n (q := 22) dX10_build_21 rfl rfl 1 rfl ?_
    obtain ⟨c_4, h⟩ := chk_some h
    obtain ⟨c_5, h⟩ := chk_some h
    refine zr_iald (q := 23) dX10_build_22 rfl (eq_of_beq c_4) c_5 ?_
    refine zr_icmp_ge (q := 26) (tgt := 99) dX10_build_23 rfl (by decide) (fun c_6 => ?_) (fun c_6 => ?_)
    · replace h := ite_t c_6 h
      cases h
      exact zr_return dX10_build_99 rfl ⟨by decide, by decide⟩ ⟨rfl, rfl⟩
    · replace h := ite_f c_6 h
      refine zr_iconst (q := 27) (v := 0) dX10_build_26 rfl (by decide) ?_
      refine zr_istore_n (q := 28) (L' := [(3, .int (0 : Int32)), (0, .ref v0), (1, .int v1), (2, .int v2)]) dX10_build_27 rfl rfl (by decide) rfl ?_
      exact zr_pick [1, 2, 3, 0] rfl (tX10_build_28 (fX10_build_16 n) ih n M v0 v1 v2 (0 : Int32) _ _ h)
def fX10_build (n : Nat) (M : zM) (v0 : Nat) (v1 : Int32) : Option (Unit × zM) :=
  chk (mK M v0 == 10) <|
  bnd (mR M v0 32) fun a_2 =>
  chk (mK M a_2 == 11) <|
  chk (zin v1 (mN M a_2)) <|
  app (wI M a_2 (Int32.toNatClampNeg v1) (1 : Int32)) fun M_6 : zM =>
  chk (mK M_6 v0 == 10) <|
  bnd (mR M_6 v0 33) fun a_9 =>
  chk (mK M_6 a_9 == 13) <|
  chk (zin v1 (mN M_6 a_9)) <|
  app (wI M_6 a_9 (Int32.toNatClampNeg v1) (vp_nar .boolean (0 : Int32))) fun M_13 : zM =>
  fX10_build_16 n M_13 v0 v1 (0 : Int32)
set_option maxHeartbeats 4000000 in
theorem tX10_build (n : Nat) (M : zM) (v0 : Nat) (v1 : Int32) (r : Unit) (M' : zM) (h : fX10_build n M v0 v1 = some (r, M')) : zMet uX10_build false M [.ref v0, .int v1] (zE (oV r) M') := by
  refine zMet_of (L := [(0, .ref v0), (1, .int v1)]) (by decide +kernel) rfl rfl (Nat.le_of_ble_eq_true rfl) ?_
  show zW uX10_build none (0, 0) M 0 [(0, .ref v0), (1, .int v1)] [] (zE (oV r) M')
  unfold fX10_build at h
  refine zr_aload_n (q := 1) dX10_build_0 rfl rfl 0 rfl ?_
  obtain ⟨c_1, h⟩ := chk_some h
  obtain ⟨a_2, e_3, h⟩ := bnd_some h
  refine zr_getr (q := 4) (ci := 10) (k := 32) dX10_build_1 rfl (eq_of_beq c_1) rfl (by decide) rfl zbX10 (by decide) zb_515 rfl e_3 ?_
  refine zr_iload_n (q := 5) dX10_build_4 rfl rfl 1 rfl ?_
  refine zr_iconst (q := 6) (v := 1) dX10_build_5 rfl (by decide) ?_
  obtain ⟨c_4, h⟩ := chk_some h
  obtain ⟨c_5, h⟩ := chk_some h
  obtain ⟨M_6, e_7, h⟩ := app_some h
  refine zr_iast (q := 7) dX10_build_6 rfl (eq_of_beq c_4) c_5 ?_
  refine zr_mem e_7 ?_
  refine zr_aload_n (q := 8) dX10_build_7 rfl rfl 0 rfl ?_
  obtain ⟨c_8, h⟩ := chk_some h
  obtain ⟨a_9, e_10, h⟩ := bnd_some h
  refine zr_getr (q := 11) (ci := 10) (k := 33) dX10_build_8 rfl (eq_of_beq c_8) rfl (by decide) rfl zbX10 (by decide) zb_517 rfl e_10 ?_
  refine zr_iload_n (q := 12) dX10_build_11 rfl rfl 1 rfl ?_
  refine zr_iconst (q := 13) (v := 0) dX10_build_12 rfl (by decide) ?_
  obtain ⟨c_11, h⟩ := chk_some h
  obtain ⟨c_12, h⟩ := chk_some h
  obtain ⟨M_13, e_14, h⟩ := app_some h
  refine zr_zast (q := 14) dX10_build_13 rfl (eq_of_beq c_11) c_12 ?_
  refine zr_mem e_14 ?_
  refine zr_iconst (q := 15) (v := 0) dX10_build_14 rfl (by decide) ?_
  refine zr_istore_n (q := 16) (L' := [(2, .int (0 : Int32)), (0, .ref v0), (1, .int v1)]) dX10_build_15 rfl rfl (by decide) rfl ?_
  exact zr_pick [1, 2, 0] rfl (tX10_build_16 n M_13 v0 v1 (0 : Int32) _ _ h)

def uX10_isGood : zMu := (yX10_isGood, cX10_isGood, 3, (some .boolean), { frames := 0, cells := 0, slots := 0, locals := 0 }, [])
theorem zd_X10_isGood : (uY uX10_isGood).cls ≠ "java/lang/invoke/MethodHandle" ∧ (uY uX10_isGood).cls ≠ "java/lang/invoke/VarHandle" ∧ (parseMethodDescriptor (uY uX10_isGood).desc).map (fun d => d.parameters.length) = some 2 := by decide +kernel
def fX10_isGood (n : Nat) (M : zM) (v0 : Nat) (v1 : Int32) (v2 : Int32) : Option (Int32 × zM) :=
  if v2 = (0 : Int32) then
    chk (mK M v0 == 10) <|
    bnd (mR M v0 8) fun a_14 =>
    chk (mK M a_14 == 13) <|
    chk (zin v1 (mN M a_14)) <|
    chk (z01 (mI M a_14 (Int32.toNatClampNeg v1))) <|
    some ((mI M a_14 (Int32.toNatClampNeg v1)), M)
  else
  chk (mK M v0 == 10) <|
  bnd (mR M v0 30) fun a_3 =>
  chk (mK M a_3 == 12) <|
  chk (zin (((300 : Int32) * v1) + v2) (mN M a_3)) <|
  chk (mK M v0 == 10) <|
  bnd (mR M v0 10) fun a_8 =>
  chk (mK M a_8 == 12) <|
  chk (zin v1 (mN M a_8)) <|
  if (lg_cmp ((mL M a_3 (Int32.toNatClampNeg (((300 : Int32) * v1) + v2))) &&& (mL M a_8 (Int32.toNatClampNeg v1))) (0 : Int64)) = (0 : Int32) then
    some ((0 : Int32), M)
  else
  some ((1 : Int32), M)
set_option maxHeartbeats 4000000 in
theorem tX10_isGood (n : Nat) (M : zM) (v0 : Nat) (v1 : Int32) (v2 : Int32) (r : Int32) (M' : zM) (h : fX10_isGood n M v0 v1 v2 = some (r, M')) : zMet uX10_isGood false M [.ref v0, .int v1, .int v2] (zE (oI r) M') := by
  refine zMet_of (L := [(0, .ref v0), (1, .int v1), (2, .int v2)]) (by decide +kernel) rfl rfl (Nat.le_of_ble_eq_true rfl) ?_
  show zW uX10_isGood none (0, 0) M 0 [(0, .ref v0), (1, .int v1), (2, .int v2)] [] (zE (oI r) M')
  unfold fX10_isGood at h
  refine zr_iload_n (q := 1) dX10_isGood_0 rfl rfl 2 rfl ?_
  refine zr_if_ne (q := 4) (tgt := 13) dX10_isGood_1 rfl (by decide) (fun c_1 => ?_) (fun c_1 => ?_)
  · replace h := ite_f c_1 h
    refine zr_aload_n (q := 14) dX10_isGood_13 rfl rfl 0 rfl ?_
    obtain ⟨c_2, h⟩ := chk_some h
    obtain ⟨a_3, e_4, h⟩ := bnd_some h
    refine zr_getr (q := 17) (ci := 10) (k := 30) dX10_isGood_14 rfl (eq_of_beq c_2) rfl (by decide) rfl zbX10 (by decide) zb_516 rfl e_4 ?_
    refine zr_sipush (q := 20) (v := 300) dX10_isGood_17 rfl (by decide) ?_
    refine zr_iload_n (q := 21) dX10_isGood_20 rfl rfl 1 rfl ?_
    refine zr_imul (q := 22) dX10_isGood_21 rfl ?_
    refine zr_iload_n (q := 23) dX10_isGood_22 rfl rfl 2 rfl ?_
    refine zr_iadd (q := 24) dX10_isGood_23 rfl ?_
    obtain ⟨c_5, h⟩ := chk_some h
    obtain ⟨c_6, h⟩ := chk_some h
    refine zr_lald (q := 25) dX10_isGood_24 rfl (eq_of_beq c_5) c_6 ?_
    refine zr_aload_n (q := 26) dX10_isGood_25 rfl rfl 0 rfl ?_
    obtain ⟨c_7, h⟩ := chk_some h
    obtain ⟨a_8, e_9, h⟩ := bnd_some h
    refine zr_getr (q := 29) (ci := 10) (k := 10) dX10_isGood_26 rfl (eq_of_beq c_7) rfl (by decide) rfl zbX10 (by decide) zb_481 rfl e_9 ?_
    refine zr_iload_n (q := 30) dX10_isGood_29 rfl rfl 1 rfl ?_
    obtain ⟨c_10, h⟩ := chk_some h
    obtain ⟨c_11, h⟩ := chk_some h
    refine zr_lald (q := 31) dX10_isGood_30 rfl (eq_of_beq c_10) c_11 ?_
    refine zr_land (q := 32) dX10_isGood_31 rfl ?_
    refine zr_lconst (q := 33) (v := 0) dX10_isGood_32 rfl (by decide) ?_
    refine zr_lcmp (q := 34) dX10_isGood_33 rfl ?_
    refine zr_if_eq (q := 37) (tgt := 41) dX10_isGood_34 rfl (by decide) (fun c_12 => ?_) (fun c_12 => ?_)
    · replace h := ite_t c_12 h
      refine zr_iconst (q := 42) (v := 0) dX10_isGood_41 rfl (by decide) ?_
      cases h
      exact zr_zreturn dX10_isGood_42 rfl (Or.inl rfl) ⟨by decide, by decide⟩ ⟨rfl, rfl⟩
    · replace h := ite_f c_12 h
      refine zr_iconst (q := 38) (v := 1) dX10_isGood_37 rfl (by decide) ?_
      refine zr_goto (q := 42) dX10_isGood_38 (by decide) ?_
      cases h
      exact zr_zreturn dX10_isGood_42 rfl (Or.inr rfl) ⟨by decide, by decide⟩ ⟨rfl, rfl⟩
  · replace h := ite_t c_1 h
    refine zr_aload_n (q := 5) dX10_isGood_4 rfl rfl 0 rfl ?_
    obtain ⟨c_13, h⟩ := chk_some h
    obtain ⟨a_14, e_15, h⟩ := bnd_some h
    refine zr_getr (q := 8) (ci := 10) (k := 8) dX10_isGood_5 rfl (eq_of_beq c_13) rfl (by decide) rfl zbX10 (by decide) zb_479 rfl e_15 ?_
    refine zr_iload_n (q := 9) dX10_isGood_8 rfl rfl 1 rfl ?_
    obtain ⟨c_16, h⟩ := chk_some h
    obtain ⟨c_17, h⟩ := chk_some h
    refine zr_zald (q := 10) dX10_isGood_9 rfl (eq_of_beq c_16) c_17 ?_
    refine zr_goto (q := 42) dX10_isGood_10 (by decide) ?_
    obtain ⟨c_18, h⟩ := chk_some h
    cases h
    exact zr_zreturn dX10_isGood_42 rfl (z01_or c_18) ⟨by decide, by decide⟩ ⟨rfl, rfl⟩

def uX10_states : zMu := (yX10_states, cX10_states, 1, (some .int), { frames := 3, cells := 0, slots := 0, locals := 75 }, [])
theorem zd_X10_states : (uY uX10_states).cls ≠ "java/lang/invoke/MethodHandle" ∧ (uY uX10_states).cls ≠ "java/lang/invoke/VarHandle" ∧ (parseMethodDescriptor (uY uX10_states).desc).map (fun d => d.parameters.length) = some 0 := by decide +kernel
def fX10_states (n : Nat) (M : zM) (v0 : Nat) : Option (Int32 × zM) :=
  chk (mK M v0 == 10) <|
  bnd2 (fX10_none n M v0) fun r_1 M_2 =>
  if r_1 = (0 : Int32) then
    chk (mK M_2 v0 == 10) <|
    bnd2 (fX10_build n M_2 v0 (0 : Int32)) fun r_6 M_7 =>
    chk (mK M_7 v0 == 10) <|
    bnd (mR M_7 v0 32) fun a_11 =>
    chk (mK M_7 a_11 == 11) <|
    chk (zin (0 : Int32) (mN M_7 a_11)) <|
    some ((mI M_7 a_11 (Int32.toNatClampNeg (0 : Int32))), M_7)
  else
  some ((0 : Int32), M_2)
set_option maxHeartbeats 4000000 in
theorem tX10_states (n : Nat) (M : zM) (v0 : Nat) (r : Int32) (M' : zM) (h : fX10_states n M v0 = some (r, M')) : zMet uX10_states false M [.ref v0] (zE (oI r) M') := by
  refine zMet_of (L := [(0, .ref v0)]) (by decide +kernel) rfl rfl (Nat.le_of_ble_eq_true rfl) ?_
  show zW uX10_states none (0, 0) M 0 [(0, .ref v0)] [] (zE (oI r) M')
  unfold fX10_states at h
  refine zr_aload_n (q := 1) dX10_states_0 rfl rfl 0 rfl ?_
  obtain ⟨c_4, h⟩ := chk_some h
  obtain ⟨r_1, M_2, hc_3, h⟩ := bnd2_some h
  refine zr_callVI (μ' := uX10_none) (q := 4) (n := 0) (ci := 10) (As := []) (u' := (0, 0)) (tX10_none n M v0 _ _ hc_3) dX10_states_1 rfl rfl ⟨zb_490, zb_491, zb_492, zb_493, zb_389⟩ zd_X10_none ⟨by decide, by decide⟩ ⟨by decide, by decide⟩ (eq_of_beq c_4) (by decide) rfl rfl rfl (Nat.le_of_ble_eq_true rfl) rfl rfl ?_
  refine zr_if_eq (q := 7) (tgt := 9) dX10_states_4 rfl (by decide) (fun c_5 => ?_) (fun c_5 => ?_)
  · replace h := ite_t c_5 h
    refine zr_aload_n (q := 10) dX10_states_9 rfl rfl 0 rfl ?_
    refine zr_iconst (q := 11) (v := 0) dX10_states_10 rfl (by decide) ?_
    obtain ⟨c_9, h⟩ := chk_some h
    obtain ⟨r_6, M_7, hc_8, h⟩ := bnd2_some h
    refine zr_callVV (μ' := uX10_build) (q := 14) (n := 1) (ci := 10) (As := [.int (0 : Int32)]) (u' := (0, 0)) (tX10_build n M_2 v0 (0 : Int32) _ _ hc_8) dX10_states_11 rfl rfl ⟨zb_523, zb_524, zb_525, zb_526, zb_389⟩ zd_X10_build ⟨by decide, by decide⟩ ⟨by decide, by decide⟩ (eq_of_beq c_9) (by decide) rfl rfl rfl (Nat.le_of_ble_eq_true rfl) rfl rfl ?_
    refine zr_aload_n (q := 15) dX10_states_14 rfl rfl 0 rfl ?_
    obtain ⟨c_10, h⟩ := chk_some h
    obtain ⟨a_11, e_12, h⟩ := bnd_some h
    refine zr_getr (q := 18) (ci := 10) (k := 32) dX10_states_15 rfl (eq_of_beq c_10) rfl (by decide) rfl zbX10 (by decide) zb_515 rfl e_12 ?_
    refine zr_iconst (q := 19) (v := 0) dX10_states_18 rfl (by decide) ?_
    obtain ⟨c_13, h⟩ := chk_some h
    obtain ⟨c_14, h⟩ := chk_some h
    refine zr_iald (q := 20) dX10_states_19 rfl (eq_of_beq c_13) c_14 ?_
    cases h
    exact zr_ireturn dX10_states_20 rfl ⟨by decide, by decide⟩ ⟨rfl, rfl⟩
  · replace h := ite_f c_5 h
    refine zr_iconst (q := 8) (v := 0) dX10_states_7 rfl (by decide) ?_
    cases h
    exact zr_ireturn dX10_states_8 rfl ⟨by decide, by decide⟩ ⟨rfl, rfl⟩

def uX10_noState : zMu := (yX10_noState, cX10_noState, 2, (some .boolean), { frames := 3, cells := 0, slots := 0, locals := 75 }, [])
theorem zd_X10_noState : (uY uX10_noState).cls ≠ "java/lang/invoke/MethodHandle" ∧ (uY uX10_noState).cls ≠ "java/lang/invoke/VarHandle" ∧ (parseMethodDescriptor (uY uX10_noState).desc).map (fun d => d.parameters.length) = some 1 := by decide +kernel
def fX10_noState_34 (n : Nat) (M : zM) (v0 : Nat) (s0 : Nat) (s1 : Int32) : Option (Int32 × zM) :=
  chk (mK M s0 == 10) <|
  app (wI M s0 0 s1) fun M_2 : zM =>
  chk (mK M_2 v0 == 10) <|
  if (mI M_2 v0 0) ≤ (0 : Int32) then
    some ((0 : Int32), M_2)
  else
  some ((1 : Int32), M_2)
set_option maxHeartbeats 4000000 in
theorem tX10_noState_34 (n : Nat) (M : zM) (v0 : Nat) (s0 : Nat) (s1 : Int32) (r : Int32) (M' : zM) (h : fX10_noState_34 n M v0 s0 s1 = some (r, M')) : zW uX10_noState none (0, 0) M 34 [(0, .ref v0)] [.int s1, .ref s0] (zE (oI r) M') := by
  unfold fX10_noState_34 at h
  obtain ⟨c_1, h⟩ := chk_some h
  obtain ⟨M_2, e_3, h⟩ := app_some h
  refine zr_putI (q := 37) (ci := 10) (k := 0) dX10_noState_34 rfl (eq_of_beq c_1) rfl (by decide) rfl zbX10 tyX10_ok nmX10 (by decide) zb_378 (Or.inl rfl) rfl ?_
  refine zr_mem e_3 ?_
  refine zr_aload_n (q := 38) dX10_noState_37 rfl rfl 0 rfl ?_
  obtain ⟨c_4, h⟩ := chk_some h
  refine zr_get (q := 41) (ci := 10) (k := 0) dX10_noState_38 rfl (eq_of_beq c_4) rfl (by decide) rfl zbX10 (by decide) zb_378 rfl ?_
  refine zr_if_le (q := 44) (tgt := 48) dX10_noState_41 rfl (by decide) (fun c_5 => ?_) (fun c_5 => ?_)
  · replace h := ite_t c_5 h
    refine zr_iconst (q := 49) (v := 0) dX10_noState_48 rfl (by decide) ?_
    cases h
    exact zr_zreturn dX10_noState_49 rfl (Or.inl rfl) ⟨by decide, by decide⟩ ⟨rfl, rfl⟩
  · replace h := ite_f c_5 h
    refine zr_iconst (q := 45) (v := 1) dX10_noState_44 rfl (by decide) ?_
    refine zr_goto (q := 49) dX10_noState_45 (by decide) ?_
    cases h
    exact zr_zreturn dX10_noState_49 rfl (Or.inr rfl) ⟨by decide, by decide⟩ ⟨rfl, rfl⟩
def fX10_noState_29 (n : Nat) (M : zM) (v0 : Nat) (s0 : Nat) : Option (Int32 × zM) :=
  fX10_noState_34 n M v0 s0 (2 : Int32)
set_option maxHeartbeats 4000000 in
theorem tX10_noState_29 (n : Nat) (M : zM) (v0 : Nat) (s0 : Nat) (r : Int32) (M' : zM) (h : fX10_noState_29 n M v0 s0 = some (r, M')) : zW uX10_noState none (0, 0) M 29 [(0, .ref v0)] [.ref s0] (zE (oI r) M') := by
  unfold fX10_noState_29 at h
  refine zr_iconst (q := 30) (v := 2) dX10_noState_29 rfl (by decide) ?_
  refine zr_goto (q := 34) dX10_noState_30 (by decide) ?_
  exact zr_pick [0] rfl (tX10_noState_34 n M v0 s0 (2 : Int32) _ _ h)
def fX10_noState (n : Nat) (M : zM) (v0 : Nat) (v1 : Int32) : Option (Int32 × zM) :=
  chk (mK M v0 == 10) <|
  bnd2 (fX10_none n M v0) fun r_1 M_2 =>
  if r_1 = (0 : Int32) then
    chk (mK M_2 v0 == 10) <|
    bnd2 (fX10_build n M_2 v0 (0 : Int32)) fun r_6 M_7 =>
    if v1 < (0 : Int32) then
      fX10_noState_29 n M_7 v0 v0
    else
    chk (mK M_7 v0 == 10) <|
    bnd (mR M_7 v0 32) fun a_12 =>
    chk (mK M_7 a_12 == 11) <|
    chk (zin (0 : Int32) (mN M_7 a_12)) <|
    if v1 < (mI M_7 a_12 (Int32.toNatClampNeg (0 : Int32))) then
      fX10_noState_34 n M_7 v0 v0 (0 : Int32)
    else
    fX10_noState_29 n M_7 v0 v0
  else
  some ((1 : Int32), M_2)
set_option maxHeartbeats 4000000 in
theorem tX10_noState (n : Nat) (M : zM) (v0 : Nat) (v1 : Int32) (r : Int32) (M' : zM) (h : fX10_noState n M v0 v1 = some (r, M')) : zMet uX10_noState false M [.ref v0, .int v1] (zE (oI r) M') := by
  refine zMet_of (L := [(0, .ref v0), (1, .int v1)]) (by decide +kernel) rfl rfl (Nat.le_of_ble_eq_true rfl) ?_
  show zW uX10_noState none (0, 0) M 0 [(0, .ref v0), (1, .int v1)] [] (zE (oI r) M')
  unfold fX10_noState at h
  refine zr_aload_n (q := 1) dX10_noState_0 rfl rfl 0 rfl ?_
  obtain ⟨c_4, h⟩ := chk_some h
  obtain ⟨r_1, M_2, hc_3, h⟩ := bnd2_some h
  refine zr_callVI (μ' := uX10_none) (q := 4) (n := 0) (ci := 10) (As := []) (u' := (0, 0)) (tX10_none n M v0 _ _ hc_3) dX10_noState_1 rfl rfl ⟨zb_490, zb_491, zb_492, zb_493, zb_389⟩ zd_X10_none ⟨by decide, by decide⟩ ⟨by decide, by decide⟩ (eq_of_beq c_4) (by decide) rfl rfl rfl (Nat.le_of_ble_eq_true rfl) rfl rfl ?_
  refine zr_if_eq (q := 7) (tgt := 9) dX10_noState_4 rfl (by decide) (fun c_5 => ?_) (fun c_5 => ?_)
  · replace h := ite_t c_5 h
    refine zr_aload_n (q := 10) dX10_noState_9 rfl rfl 0 rfl ?_
    refine zr_iconst (q := 11) (v := 0) dX10_noState_10 rfl (by decide) ?_
    obtain ⟨c_9, h⟩ := chk_some h
    obtain ⟨r_6, M_7, hc_8, h⟩ := bnd2_some h
    refine zr_callVV (μ' := uX10_build) (q := 14) (n := 1) (ci := 10) (As := [.int (0 : Int32)]) (u' := (0, 0)) (tX10_build n M_2 v0 (0 : Int32) _ _ hc_8) dX10_noState_11 rfl rfl ⟨zb_523, zb_524, zb_525, zb_526, zb_389⟩ zd_X10_build ⟨by decide, by decide⟩ ⟨by decide, by decide⟩ (eq_of_beq c_9) (by decide) rfl rfl rfl (Nat.le_of_ble_eq_true rfl) rfl rfl ?_
    refine zr_aload_n (q := 15) dX10_noState_14 rfl rfl 0 rfl ?_
    refine zr_iload_n (q := 16) dX10_noState_15 rfl rfl 1 rfl ?_
    refine zr_if_lt (q := 19) (tgt := 29) dX10_noState_16 rfl (by decide) (fun c_10 => ?_) (fun c_10 => ?_)
    · replace h := ite_t c_10 h
      exact zr_pick [0] rfl (tX10_noState_29 n M_7 v0 v0 _ _ h)
    · replace h := ite_f c_10 h
      refine zr_iload_n (q := 20) dX10_noState_19 rfl rfl 1 rfl ?_
      refine zr_aload_n (q := 21) dX10_noState_20 rfl rfl 0 rfl ?_
      obtain ⟨c_11, h⟩ := chk_some h
      obtain ⟨a_12, e_13, h⟩ := bnd_some h
      refine zr_getr (q := 24) (ci := 10) (k := 32) dX10_noState_21 rfl (eq_of_beq c_11) rfl (by decide) rfl zbX10 (by decide) zb_515 rfl e_13 ?_
      refine zr_iconst (q := 25) (v := 0) dX10_noState_24 rfl (by decide) ?_
      obtain ⟨c_14, h⟩ := chk_some h
      obtain ⟨c_15, h⟩ := chk_some h
      refine zr_iald (q := 26) dX10_noState_25 rfl (eq_of_beq c_14) c_15 ?_
      refine zr_icmp_lt (q := 29) (tgt := 33) dX10_noState_26 rfl (by decide) (fun c_16 => ?_) (fun c_16 => ?_)
      · replace h := ite_t c_16 h
        refine zr_iconst (q := 34) (v := 0) dX10_noState_33 rfl (by decide) ?_
        exact zr_pick [0] rfl (tX10_noState_34 n M_7 v0 v0 (0 : Int32) _ _ h)
      · replace h := ite_f c_16 h
        exact zr_pick [0] rfl (tX10_noState_29 n M_7 v0 v0 _ _ h)
  · replace h := ite_f c_5 h
    refine zr_iconst (q := 8) (v := 1) dX10_noState_7 rfl (by decide) ?_
    cases h
    exact zr_zreturn dX10_noState_8 rfl (Or.inr rfl) ⟨by decide, by decide⟩ ⟨rfl, rfl⟩

def uX10_next : zMu := (yX10_next, cX10_next, 3, (some .int), { frames := 4, cells := 0, slots := 0, locals := 96 }, [])
theorem zd_X10_next : (uY uX10_next).cls ≠ "java/lang/invoke/MethodHandle" ∧ (uY uX10_next).cls ≠ "java/lang/invoke/VarHandle" ∧ (parseMethodDescriptor (uY uX10_next).desc).map (fun d => d.parameters.length) = some 2 := by decide +kernel
def fX10_next_26 (n : Nat) (M : zM) (v0 : Nat) (v1 : Int32) (v2 : Int32) (s0 : Nat) (s1 : Int32) : Option (Int32 × zM) :=
  chk (mK M s0 == 10) <|
  app (wI M s0 0 s1) fun M_2 : zM =>
  chk (mK M_2 v0 == 10) <|
  if (mI M_2 v0 0) ≤ (0 : Int32) then
    chk (mK M_2 v0 == 10) <|
    bnd (mR M_2 v0 31) fun a_7 =>
    chk (mK M_2 a_7 == 11) <|
    chk (zin (((36 : Int32) * v1) + v2) (mN M_2 a_7)) <|
    some ((mI M_2 a_7 (Int32.toNatClampNeg (((36 : Int32) * v1) + v2))), M_2)
  else
  some ((0 : Int32), M_2)
set_option maxHeartbeats 4000000 in
theorem tX10_next_26 (n : Nat) (M : zM) (v0 : Nat) (v1 : Int32) (v2 : Int32) (s0 : Nat) (s1 : Int32) (r : Int32) (M' : zM) (h : fX10_next_26 n M v0 v1 v2 s0 s1 = some (r, M')) : zW uX10_next none (0, 0) M 26 [(0, .ref v0), (1, .int v1), (2, .int v2)] [.int s1, .ref s0] (zE (oI r) M') := by
  unfold fX10_next_26 at h
  obtain ⟨c_1, h⟩ := chk_some h
  obtain ⟨M_2, e_3, h⟩ := app_some h
  refine zr_putI (q := 29) (ci := 10) (k := 0) dX10_next_26 rfl (eq_of_beq c_1) rfl (by decide) rfl zbX10 tyX10_ok nmX10 (by decide) zb_378 (Or.inl rfl) rfl ?_
  refine zr_mem e_3 ?_
  refine zr_aload_n (q := 30) dX10_next_29 rfl rfl 0 rfl ?_
  obtain ⟨c_4, h⟩ := chk_some h
  refine zr_get (q := 33) (ci := 10) (k := 0) dX10_next_30 rfl (eq_of_beq c_4) rfl (by decide) rfl zbX10 (by decide) zb_378 rfl ?_
  refine zr_if_le (q := 36) (tgt := 40) dX10_next_33 rfl (by decide) (fun c_5 => ?_) (fun c_5 => ?_)
  · replace h := ite_t c_5 h
    refine zr_aload_n (q := 41) dX10_next_40 rfl rfl 0 rfl ?_
    obtain ⟨c_6, h⟩ := chk_some h
    obtain ⟨a_7, e_8, h⟩ := bnd_some h
    refine zr_getr (q := 44) (ci := 10) (k := 31) dX10_next_41 rfl (eq_of_beq c_6) rfl (by decide) rfl zbX10 (by decide) zb_518 rfl e_8 ?_
    refine zr_bipush (q := 46) (v := 36) dX10_next_44 rfl (by decide) ?_
    refine zr_iload_n (q := 47) dX10_next_46 rfl rfl 1 rfl ?_
    refine zr_imul (q := 48) dX10_next_47 rfl ?_
    refine zr_iload_n (q := 49) dX10_next_48 rfl rfl 2 rfl ?_
    refine zr_iadd (q := 50) dX10_next_49 rfl ?_
    obtain ⟨c_9, h⟩ := chk_some h
    obtain ⟨c_10, h⟩ := chk_some h
    refine zr_iald (q := 51) dX10_next_50 rfl (eq_of_beq c_9) c_10 ?_
    cases h
    exact zr_ireturn dX10_next_51 rfl ⟨by decide, by decide⟩ ⟨rfl, rfl⟩
  · replace h := ite_f c_5 h
    refine zr_iconst (q := 37) (v := 0) dX10_next_36 rfl (by decide) ?_
    refine zr_goto (q := 51) dX10_next_37 (by decide) ?_
    cases h
    exact zr_ireturn dX10_next_51 rfl ⟨by decide, by decide⟩ ⟨rfl, rfl⟩
def fX10_next_21 (n : Nat) (M : zM) (v0 : Nat) (v1 : Int32) (v2 : Int32) (s0 : Nat) : Option (Int32 × zM) :=
  fX10_next_26 n M v0 v1 v2 s0 (2 : Int32)
set_option maxHeartbeats 4000000 in
theorem tX10_next_21 (n : Nat) (M : zM) (v0 : Nat) (v1 : Int32) (v2 : Int32) (s0 : Nat) (r : Int32) (M' : zM) (h : fX10_next_21 n M v0 v1 v2 s0 = some (r, M')) : zW uX10_next none (0, 0) M 21 [(0, .ref v0), (1, .int v1), (2, .int v2)] [.ref s0] (zE (oI r) M') := by
  unfold fX10_next_21 at h
  refine zr_iconst (q := 22) (v := 2) dX10_next_21 rfl (by decide) ?_
  refine zr_goto (q := 26) dX10_next_22 (by decide) ?_
  exact zr_pick [0, 1, 2] rfl (tX10_next_26 n M v0 v1 v2 s0 (2 : Int32) _ _ h)
def fX10_next (n : Nat) (M : zM) (v0 : Nat) (v1 : Int32) (v2 : Int32) : Option (Int32 × zM) :=
  chk (mK M v0 == 10) <|
  bnd2 (fX10_noState n M v0 v1) fun r_1 M_2 =>
  if r_1 = (0 : Int32) then
    if v2 < (0 : Int32) then
      fX10_next_21 n M_2 v0 v1 v2 v0
    else
    if v2 < (36 : Int32) then
      fX10_next_26 n M_2 v0 v1 v2 v0 (0 : Int32)
    else
    fX10_next_21 n M_2 v0 v1 v2 v0
  else
  some ((0 : Int32), M_2)
set_option maxHeartbeats 4000000 in
theorem tX10_next (n : Nat) (M : zM) (v0 : Nat) (v1 : Int32) (v2 : Int32) (r : Int32) (M' : zM) (h : fX10_next n M v0 v1 v2 = some (r, M')) : zMet uX10_next false M [.ref v0, .int v1, .int v2] (zE (oI r) M') := by
  refine zMet_of (L := [(0, .ref v0), (1, .int v1), (2, .int v2)]) (by decide +kernel) rfl rfl (Nat.le_of_ble_eq_true rfl) ?_
  show zW uX10_next none (0, 0) M 0 [(0, .ref v0), (1, .int v1), (2, .int v2)] [] (zE (oI r) M')
  unfold fX10_next at h
  refine zr_aload_n (q := 1) dX10_next_0 rfl rfl 0 rfl ?_
  refine zr_iload_n (q := 2) dX10_next_1 rfl rfl 1 rfl ?_
  obtain ⟨c_4, h⟩ := chk_some h
  obtain ⟨r_1, M_2, hc_3, h⟩ := bnd2_some h
  refine zr_callVI (μ' := uX10_noState) (q := 5) (n := 1) (ci := 10) (As := [.int v1]) (u' := (0, 0)) (tX10_noState n M v0 v1 _ _ hc_3) dX10_next_2 rfl rfl ⟨zb_527, zb_528, zb_529, zb_530, zb_389⟩ zd_X10_noState ⟨by decide, by decide⟩ ⟨by decide, by decide⟩ (eq_of_beq c_4) (by decide) rfl rfl rfl (Nat.le_of_ble_eq_true rfl) rfl rfl ?_
  refine zr_if_eq (q := 8) (tgt := 10) dX10_next_5 rfl (by decide) (fun c_5 => ?_) (fun c_5 => ?_)
  · replace h := ite_t c_5 h
    refine zr_aload_n (q := 11) dX10_next_10 rfl rfl 0 rfl ?_
    refine zr_iload_n (q := 12) dX10_next_11 rfl rfl 2 rfl ?_
    refine zr_if_lt (q := 15) (tgt := 21) dX10_next_12 rfl (by decide) (fun c_6 => ?_) (fun c_6 => ?_)
    · replace h := ite_t c_6 h
      exact zr_pick [0, 1, 2] rfl (tX10_next_21 n M_2 v0 v1 v2 v0 _ _ h)
    · replace h := ite_f c_6 h
      refine zr_iload_n (q := 16) dX10_next_15 rfl rfl 2 rfl ?_
      refine zr_bipush (q := 18) (v := 36) dX10_next_16 rfl (by decide) ?_
      refine zr_icmp_lt (q := 21) (tgt := 25) dX10_next_18 rfl (by decide) (fun c_7 => ?_) (fun c_7 => ?_)
      · replace h := ite_t c_7 h
        refine zr_iconst (q := 26) (v := 0) dX10_next_25 rfl (by decide) ?_
        exact zr_pick [0, 1, 2] rfl (tX10_next_26 n M_2 v0 v1 v2 v0 (0 : Int32) _ _ h)
      · replace h := ite_f c_7 h
        exact zr_pick [0, 1, 2] rfl (tX10_next_21 n M_2 v0 v1 v2 v0 _ _ h)
  · replace h := ite_f c_5 h
    refine zr_iconst (q := 9) (v := 0) dX10_next_8 rfl (by decide) ?_
    cases h
    exact zr_ireturn dX10_next_9 rfl ⟨by decide, by decide⟩ ⟨rfl, rfl⟩

def uX10_good : zMu := (yX10_good, cX10_good, 2, (some .boolean), { frames := 4, cells := 0, slots := 0, locals := 96 }, [])
theorem zd_X10_good : (uY uX10_good).cls ≠ "java/lang/invoke/MethodHandle" ∧ (uY uX10_good).cls ≠ "java/lang/invoke/VarHandle" ∧ (parseMethodDescriptor (uY uX10_good).desc).map (fun d => d.parameters.length) = some 1 := by decide +kernel
def fX10_good_21 (n : Nat) (M : zM)  : Option (Int32 × zM) :=
  some ((0 : Int32), M)
set_option maxHeartbeats 4000000 in
theorem tX10_good_21 (n : Nat) (M : zM)  (r : Int32) (M' : zM) (h : fX10_good_21 n M = some (r, M')) : zW uX10_good none (0, 0) M 21 [] [] (zE (oI r) M') := by
  unfold fX10_good_21 at h
  refine zr_iconst (q := 22) (v := 0) dX10_good_21 rfl (by decide) ?_
  cases h
  exact zr_zreturn dX10_good_22 rfl (Or.inl rfl) ⟨by decide, by decide⟩ ⟨rfl, rfl⟩
def fX10_good (n : Nat) (M : zM) (v0 : Nat) (v1 : Int32) : Option (Int32 × zM) :=
  chk (mK M v0 == 10) <|
  bnd2 (fX10_noState n M v0 v1) fun r_1 M_2 =>
  if r_1 = (0 : Int32) then
    chk (mK M_2 v0 == 10) <|
    bnd2 (fX10_isGood n M_2 v0 (0 : Int32) v1) fun r_6 M_7 =>
    if r_6 = (0 : Int32) then
      fX10_good_21 n M_7
    else
    some ((1 : Int32), M_7)
  else
  fX10_good_21 n M_2
set_option maxHeartbeats 4000000 in
theorem tX10_good (n : Nat) (M : zM) (v0 : Nat) (v1 : Int32) (r : Int32) (M' : zM) (h : fX10_good n M v0 v1 = some (r, M')) : zMet uX10_good false M [.ref v0, .int v1] (zE (oI r) M') := by
  refine zMet_of (L := [(0, .ref v0), (1, .int v1)]) (by decide +kernel) rfl rfl (Nat.le_of_ble_eq_true rfl) ?_
  show zW uX10_good none (0, 0) M 0 [(0, .ref v0), (1, .int v1)] [] (zE (oI r) M')
  unfold fX10_good at h
  refine zr_aload_n (q := 1) dX10_good_0 rfl rfl 0 rfl ?_
  refine zr_iload_n (q := 2) dX10_good_1 rfl rfl 1 rfl ?_
  obtain ⟨c_4, h⟩ := chk_some h
  obtain ⟨r_1, M_2, hc_3, h⟩ := bnd2_some h
  refine zr_callVI (μ' := uX10_noState) (q := 5) (n := 1) (ci := 10) (As := [.int v1]) (u' := (0, 0)) (tX10_noState n M v0 v1 _ _ hc_3) dX10_good_2 rfl rfl ⟨zb_527, zb_528, zb_529, zb_530, zb_389⟩ zd_X10_noState ⟨by decide, by decide⟩ ⟨by decide, by decide⟩ (eq_of_beq c_4) (by decide) rfl rfl rfl (Nat.le_of_ble_eq_true rfl) rfl rfl ?_
  refine zr_if_ne (q := 8) (tgt := 21) dX10_good_5 rfl (by decide) (fun c_5 => ?_) (fun c_5 => ?_)
  · replace h := ite_f c_5 h
    exact zr_pick [] rfl (tX10_good_21 n M_2 _ _ h)
  · replace h := ite_t c_5 h
    refine zr_aload_n (q := 9) dX10_good_8 rfl rfl 0 rfl ?_
    refine zr_iconst (q := 10) (v := 0) dX10_good_9 rfl (by decide) ?_
    refine zr_iload_n (q := 11) dX10_good_10 rfl rfl 1 rfl ?_
    obtain ⟨c_9, h⟩ := chk_some h
    obtain ⟨r_6, M_7, hc_8, h⟩ := bnd2_some h
    refine zr_callVI (μ' := uX10_isGood) (q := 14) (n := 2) (ci := 10) (As := [.int (0 : Int32), .int v1]) (u' := (0, 0)) (tX10_isGood n M_2 v0 (0 : Int32) v1 _ _ hc_8) dX10_good_11 rfl rfl ⟨zb_531, zb_532, zb_533, zb_534, zb_389⟩ zd_X10_isGood ⟨by decide, by decide⟩ ⟨by decide, by decide⟩ (eq_of_beq c_9) (by decide) rfl rfl rfl (Nat.le_of_ble_eq_true rfl) rfl rfl ?_
    refine zr_if_eq (q := 17) (tgt := 21) dX10_good_14 rfl (by decide) (fun c_10 => ?_) (fun c_10 => ?_)
    · replace h := ite_t c_10 h
      exact zr_pick [] rfl (tX10_good_21 n M_7 _ _ h)
    · replace h := ite_f c_10 h
      refine zr_iconst (q := 18) (v := 1) dX10_good_17 rfl (by decide) ?_
      refine zr_goto (q := 22) dX10_good_18 (by decide) ?_
      cases h
      exact zr_zreturn dX10_good_22 rfl (Or.inr rfl) ⟨by decide, by decide⟩ ⟨rfl, rfl⟩

def uX10_nowApart : zMu := (yX10_nowApart, cX10_nowApart, 5, (some .boolean), { frames := 1, cells := 0, slots := 0, locals := 22 }, [])
theorem zd_X10_nowApart : (uY uX10_nowApart).cls ≠ "java/lang/invoke/MethodHandle" ∧ (uY uX10_nowApart).cls ≠ "java/lang/invoke/VarHandle" ∧ (parseMethodDescriptor (uY uX10_nowApart).desc).map (fun d => d.parameters.length) = some 2 := by decide +kernel
def fX10_nowApart_24 : Nat → zM → Nat → Int32 → Int32 → Int32 → Int32 → Option (Int32 × zM)
  | 0, _, _, _, _, _, _ => none
  | n + 1, M, v0, v1, v2, v3, v4 =>
    if (36 : Int32) ≤ v4 then
      chk (z01 v3) <|
      some (v3, M)
    else
    if v3 = (0 : Int32) then
      chk (mK M v0 == 10) <|
      bnd (mR M v0 34) fun a_6 =>
      chk (mK M v0 == 10) <|
      bnd (mR M v0 31) fun a_9 =>
      chk (mK M a_9 == 11) <|
      chk (zin (((36 : Int32) * v1) + v4) (mN M a_9)) <|
      chk (mK M v0 == 10) <|
      bnd (mR M v0 31) fun a_14 =>
      chk (mK M a_14 == 11) <|
      chk (zin (((36 : Int32) * v2) + v4) (mN M a_14)) <|
      chk (mK M a_6 == 13) <|
      chk (zin (((300 : Int32) * (mI M a_9 (Int32.toNatClampNeg (((36 : Int32) * v1) + v4)))) + (mI M a_14 (Int32.toNatClampNeg (((36 : Int32) * v2) + v4)))) (mN M a_6)) <|
      app (mI M a_6 (Int32.toNatClampNeg (((300 : Int32) * (mI M a_9 (Int32.toNatClampNeg (((36 : Int32) * v1) + v4)))) + (mI M a_14 (Int32.toNatClampNeg (((36 : Int32) * v2) + v4)))))) fun v3_20 : Int32 =>
      app (v4 + (1 : Int32)) fun v4_22 : Int32 =>
      (fX10_nowApart_24 n) M v0 v1 v2 v3_20 v4_22
    else
    chk (z01 v3) <|
    some (v3, M)
set_option maxHeartbeats 4000000 in
theorem tX10_nowApart_24 : ∀ (n : Nat) (M : zM) (v0 : Nat) (v1 : Int32) (v2 : Int32) (v3 : Int32) (v4 : Int32) (r : Int32) (M' : zM), fX10_nowApart_24 n M v0 v1 v2 v3 v4 = some (r, M') → zW uX10_nowApart none (0, 0) M 24 [(0, .ref v0), (1, .int v1), (2, .int v2), (3, .int v3), (4, .int v4)] [] (zE (oI r) M') := by
  intro n
  induction n with
  | zero => intro M v0 v1 v2 v3 v4 r M' h; cases h
  | succ n ih =>
    intro M v0 v1 v2 v3 v4 r M' h
    rw [fX10_nowApart_24] at h
    refine zr_iload (q := 26) dX10_nowApart_24 rfl 4 rfl ?_
    refine zr_bipush (q := 28) (v := 36) dX10_nowApart_26 rfl (by decide) ?_
    refine zr_icmp_ge (q := 31) (tgt := 76) dX10_nowApart_28 rfl (by decide) (fun c_1 => ?_) (fun c_1 => ?_)
    · replace h := ite_t c_1 h
      refine zr_iload_n (q := 77) dX10_nowApart_76 rfl rfl 3 rfl ?_
      obtain ⟨c_2, h⟩ := chk_some h
      cases h
      exact zr_zreturn dX10_nowApart_77 rfl (z01_or c_2) ⟨by decide, by decide⟩ ⟨rfl, rfl⟩
    · replace h := ite_f c_1 h
      refine zr_iload_n (q := 32) dX10_nowApart_31 rfl rfl 3 rfl ?_
      refine zr_if_ne (q := 35) (tgt := 76) dX10_nowApart_32 rfl (by decide) (fun c_3 => ?_) (fun c_3 => ?_)
      · replace h := ite_f c_3 h
        refine zr_iload_n (q := 77) dX10_nowApart_76 rfl rfl 3 rfl ?_
        obtain ⟨c_4, h⟩ := chk_some h
        cases h
        exact zr_zreturn dX10_nowApart_77 rfl (z01_or c_4) ⟨by decide, by decide⟩ ⟨rfl, rfl⟩
      · replace h := ite_t c_3 h
        refine zr_aload_n (q := 36) dX10_nowApart_35 rfl rfl 0 rfl ?_
        obtain ⟨c_5, h⟩ := chk_some h
        obtain ⟨a_6, e_7, h⟩ := bnd_some h
        refine zr_getr (q := 39) (ci := 10) (k := 34) dX10_nowApart_36 rfl (eq_of_beq c_5) rfl (by decide) rfl zbX10 (by decide) zb_535 rfl e_7 ?_
        refine zr_sipush (q := 42) (v := 300) dX10_nowApart_39 rfl (by decide) ?_
        refine zr_aload_n (q := 43) dX10_nowApart_42 rfl rfl 0 rfl ?_
        obtain ⟨c_8, h⟩ := chk_some h
        obtain ⟨a_9, e_10, h⟩ := bnd_some h
        refine zr_getr (q := 46) (ci := 10) (k := 31) dX10_nowApart_43 rfl (eq_of_beq c_8) rfl (by decide) rfl zbX10 (by decide) zb_518 rfl e_10 ?_
        refine zr_bipush (q := 48) (v := 36) dX10_nowApart_46 rfl (by decide) ?_
        refine zr_iload_n (q := 49) dX10_nowApart_48 rfl rfl 1 rfl ?_
        refine zr_imul (q := 50) dX10_nowApart_49 rfl ?_
        refine zr_iload (q := 52) dX10_nowApart_50 rfl 4 rfl ?_
        refine zr_iadd (q := 53) dX10_nowApart_52 rfl ?_
        obtain ⟨c_11, h⟩ := chk_some h
        obtain ⟨c_12, h⟩ := chk_some h
        refine zr_iald (q := 54) dX10_nowApart_53 rfl (eq_of_beq c_11) c_12 ?_
        refine zr_imul (q := 55) dX10_nowApart_54 rfl ?_
        refine zr_aload_n (q := 56) dX10_nowApart_55 rfl rfl 0 rfl ?_
        obtain ⟨c_13, h⟩ := chk_some h
        obtain ⟨a_14, e_15, h⟩ := bnd_some h
        refine zr_getr (q := 59) (ci := 10) (k := 31) dX10_nowApart_56 rfl (eq_of_beq c_13) rfl (by decide) rfl zbX10 (by decide) zb_518 rfl e_15 ?_
        refine zr_bipush (q := 61) (v := 36) dX10_nowApart_59 rfl (by decide) ?_
        refine zr_iload_n (q := 62) dX10_nowApart_61 rfl rfl 2 rfl ?_
        refine zr_imul (q := 63) dX10_nowApart_62 rfl ?_
        refine zr_iload (q := 65) dX10_nowApart_63 rfl 4 rfl ?_
        refine zr_iadd (q := 66) dX10_nowApart_65 rfl ?_
        obtain ⟨c_16, h⟩ := chk_some h
        obtain ⟨c_17, h⟩ := chk_some h
        refine zr_iald (q := 67) dX10_nowApart_66 rfl (eq_of_beq c_16) c_17 ?_
        refine zr_iadd (q := 68) dX10_nowApart_67 rfl ?_
        obtain ⟨c_18, h⟩ := chk_some h
        obtain ⟨c_19, h⟩ := chk_some h
        refine zr_zald (q := 69) dX10_nowApart_68 rfl (eq_of_beq c_18) c_19 ?_
        obtain ⟨v3_20, e_21, h⟩ := app_some h
        refine zr_nmI e_21 ?_
        refine zr_istore_n (q := 70) (L' := [(3, .int v3_20), (0, .ref v0), (1, .int v1), (2, .int v2), (4, .int v4)]) dX10_nowApart_69 rfl rfl (by decide) rfl ?_
        obtain ⟨v4_22, e_23, h⟩ := app_some h
        refine zr_iinc (q := 73) (v := v4_22) (L' := [(4, .int v4_22), (3, .int v3_20), (0, .ref v0), (1, .int v1), (2, .int v2)]) dX10_nowApart_70 rfl 4 rfl (by rw [← e_23]; rfl) (by decide) rfl ?_
        refine zr_goto (q := 24) dX10_nowApart_73 (by decide) ?_
        exact zr_pick [2, 3, 4, 1, 0] rfl (ih M v0 v1 v2 v3_20 v4_22 _ _ h)
def fX10_nowApart_20 (n : Nat) (M : zM) (v0 : Nat) (v1 : Int32) (v2 : Int32) (s0 : Int32) : Option (Int32 × zM) :=
  fX10_nowApart_24 n M v0 v1 v2 s0 (0 : Int32)
set_option maxHeartbeats 4000000 in
theorem tX10_nowApart_20 (n : Nat) (M : zM) (v0 : Nat) (v1 : Int32) (v2 : Int32) (s0 : Int32) (r : Int32) (M' : zM) (h : fX10_nowApart_20 n M v0 v1 v2 s0 = some (r, M')) : zW uX10_nowApart none (0, 0) M 20 [(0, .ref v0), (1, .int v1), (2, .int v2)] [.int s0] (zE (oI r) M') := by
  unfold fX10_nowApart_20 at h
  refine zr_istore_n (q := 21) (L' := [(3, .int s0), (0, .ref v0), (1, .int v1), (2, .int v2)]) dX10_nowApart_20 rfl rfl (by decide) rfl ?_
  refine zr_iconst (q := 22) (v := 0) dX10_nowApart_21 rfl (by decide) ?_
  refine zr_istore (q := 24) (L' := [(4, .int (0 : Int32)), (3, .int s0), (0, .ref v0), (1, .int v1), (2, .int v2)]) dX10_nowApart_22 rfl (by decide) rfl ?_
  exact zr_pick [2, 3, 4, 1, 0] rfl (tX10_nowApart_24 n M v0 v1 v2 s0 (0 : Int32) _ _ h)
def fX10_nowApart (n : Nat) (M : zM) (v0 : Nat) (v1 : Int32) (v2 : Int32) : Option (Int32 × zM) :=
  chk (mK M v0 == 10) <|
  bnd2 (fX10_isGood n M v0 (0 : Int32) v1) fun r_1 M_2 =>
  chk (mK M_2 v0 == 10) <|
  bnd2 (fX10_isGood n M_2 v0 (0 : Int32) v2) fun r_5 M_6 =>
  if r_1 = r_5 then
    fX10_nowApart_20 n M_6 v0 v1 v2 (0 : Int32)
  else
  fX10_nowApart_20 n M_6 v0 v1 v2 (1 : Int32)
set_option maxHeartbeats 4000000 in
theorem tX10_nowApart (n : Nat) (M : zM) (v0 : Nat) (v1 : Int32) (v2 : Int32) (r : Int32) (M' : zM) (h : fX10_nowApart n M v0 v1 v2 = some (r, M')) : zMet uX10_nowApart false M [.ref v0, .int v1, .int v2] (zE (oI r) M') := by
  refine zMet_of (L := [(0, .ref v0), (1, .int v1), (2, .int v2)]) (by decide +kernel) rfl rfl (Nat.le_of_ble_eq_true rfl) ?_
  show zW uX10_nowApart none (0, 0) M 0 [(0, .ref v0), (1, .int v1), (2, .int v2)] [] (zE (oI r) M')
  unfold fX10_nowApart at h
  refine zr_aload_n (q := 1) dX10_nowApart_0 rfl rfl 0 rfl ?_
  refine zr_iconst (q := 2) (v := 0) dX10_nowApart_1 rfl (by decide) ?_
  refine zr_iload_n (q := 3) dX10_nowApart_2 rfl rfl 1 rfl ?_
  obtain ⟨c_4, h⟩ := chk_some h
  obtain ⟨r_1, M_2, hc_3, h⟩ := bnd2_some h
  refine zr_callVI (μ' := uX10_isGood) (q := 6) (n := 2) (ci := 10) (As := [.int (0 : Int32), .int v1]) (u' := (0, 0)) (tX10_isGood n M v0 (0 : Int32) v1 _ _ hc_3) dX10_nowApart_3 rfl rfl ⟨zb_531, zb_532, zb_533, zb_534, zb_389⟩ zd_X10_isGood ⟨by decide, by decide⟩ ⟨by decide, by decide⟩ (eq_of_beq c_4) (by decide) rfl rfl rfl (Nat.le_of_ble_eq_true rfl) rfl rfl ?_
  refine zr_aload_n (q := 7) dX10_nowApart_6 rfl rfl 0 rfl ?_
  refine zr_iconst (q := 8) (v := 0) dX10_nowApart_7 rfl (by decide) ?_
  refine zr_iload_n (q := 9) dX10_nowApart_8 rfl rfl 2 rfl ?_
  obtain ⟨c_8, h⟩ := chk_some h
  obtain ⟨r_5, M_6, hc_7, h⟩ := bnd2_some h
  refine zr_callVI (μ' := uX10_isGood) (q := 12) (n := 2) (ci := 10) (As := [.int (0 : Int32), .int v2]) (u' := (0, 0)) (tX10_isGood n M_2 v0 (0 : Int32) v2 _ _ hc_7) dX10_nowApart_9 rfl rfl ⟨zb_531, zb_532, zb_533, zb_534, zb_389⟩ zd_X10_isGood ⟨by decide, by decide⟩ ⟨by decide, by decide⟩ (eq_of_beq c_8) (by decide) rfl rfl rfl (Nat.le_of_ble_eq_true rfl) rfl rfl ?_
  refine zr_icmp_eq (q := 15) (tgt := 19) dX10_nowApart_12 rfl (by decide) (fun c_9 => ?_) (fun c_9 => ?_)
  · replace h := ite_t c_9 h
    refine zr_iconst (q := 20) (v := 0) dX10_nowApart_19 rfl (by decide) ?_
    exact zr_pick [0, 1, 2] rfl (tX10_nowApart_20 n M_6 v0 v1 v2 (0 : Int32) _ _ h)
  · replace h := ite_f c_9 h
    refine zr_iconst (q := 16) (v := 1) dX10_nowApart_15 rfl (by decide) ?_
    refine zr_goto (q := 20) dX10_nowApart_16 (by decide) ?_
    exact zr_pick [0, 1, 2] rfl (tX10_nowApart_20 n M_6 v0 v1 v2 (1 : Int32) _ _ h)

def uX10_partMore : zMu := (yX10_partMore, cX10_partMore, 5, (some .boolean), { frames := 2, cells := 0, slots := 0, locals := 46 }, [])
theorem zd_X10_partMore : (uY uX10_partMore).cls ≠ "java/lang/invoke/MethodHandle" ∧ (uY uX10_partMore).cls ≠ "java/lang/invoke/VarHandle" ∧ (parseMethodDescriptor (uY uX10_partMore).desc).map (fun d => d.parameters.length) = some 1 := by decide +kernel
def fX10_partMore_74 (k4 : zM → Nat → Int32 → Int32 → Int32 → Option (Int32 × zM)) (k12 : zM → Nat → Int32 → Int32 → Int32 → Int32 → Option (Int32 × zM)) (n : Nat) (M : zM) (v0 : Nat) (v1 : Int32) (v2 : Int32) (v3 : Int32) (v4 : Int32) : Option (Int32 × zM) :=
  app (v4 + (1 : Int32)) fun v4_1 : Int32 =>
  k12 M v0 v1 v2 v3 v4_1
set_option maxHeartbeats 4000000 in
theorem tX10_partMore_74 (k4 : zM → Nat → Int32 → Int32 → Int32 → Option (Int32 × zM)) (h4 : ∀ (M : zM) (v0 : Nat) (v1 : Int32) (v2 : Int32) (v3 : Int32) (r : Int32) (M' : zM), k4 M v0 v1 v2 v3 = some (r, M') → zW uX10_partMore none (0, 0) M 4 [(0, .ref v0), (1, .int v1), (2, .int v2), (3, .int v3)] [] (zE (oI r) M')) (k12 : zM → Nat → Int32 → Int32 → Int32 → Int32 → Option (Int32 × zM)) (h12 : ∀ (M : zM) (v0 : Nat) (v1 : Int32) (v2 : Int32) (v3 : Int32) (v4 : Int32) (r : Int32) (M' : zM), k12 M v0 v1 v2 v3 v4 = some (r, M') → zW uX10_partMore none (0, 0) M 12 [(0, .ref v0), (1, .int v1), (2, .int v2), (3, .int v3), (4, .int v4)] [] (zE (oI r) M')) (n : Nat) (M : zM) (v0 : Nat) (v1 : Int32) (v2 : Int32) (v3 : Int32) (v4 : Int32) (r : Int32) (M' : zM) (h : fX10_partMore_74 k4 k12 n M v0 v1 v2 v3 v4 = some (r, M')) : zW uX10_partMore none (0, 0) M 74 [(0, .ref v0), (1, .int v1), (2, .int v2), (3, .int v3), (4, .int v4)] [] (zE (oI r) M') := by
  unfold fX10_partMore_74 at h
  obtain ⟨v4_1, e_2, h⟩ := app_some h
  refine zr_iinc (q := 77) (v := v4_1) (L' := [(4, .int v4_1), (0, .ref v0), (1, .int v1), (2, .int v2), (3, .int v3)]) dX10_partMore_74 rfl 4 rfl (by rw [← e_2]; rfl) (by decide) rfl ?_
  refine zr_goto (q := 12) dX10_partMore_77 (by decide) ?_
  exact zr_pick [1, 2, 3, 4, 0] rfl (h12 M v0 v1 v2 v3 v4_1 _ _ h)
def fX10_partMore_12 (k4 : zM → Nat → Int32 → Int32 → Int32 → Option (Int32 × zM)) : Nat → zM → Nat → Int32 → Int32 → Int32 → Int32 → Option (Int32 × zM)
  | 0, _, _, _, _, _, _ => none
  | n + 1, M, v0, v1, v2, v3, v4 =>
    if v3 ≤ v4 then
      app (v3 + (1 : Int32)) fun v3_2 : Int32 =>
      k4 M v0 v1 v2 v3_2
    else
    chk (mK M v0 == 10) <|
    bnd (mR M v0 34) fun a_5 =>
    chk (mK M a_5 == 13) <|
    chk (zin (((300 : Int32) * v3) + v4) (mN M a_5)) <|
    if (mI M a_5 (Int32.toNatClampNeg (((300 : Int32) * v3) + v4))) = (0 : Int32) then
      chk (mK M v0 == 10) <|
      bnd2 (fX10_nowApart n M v0 v3 v4) fun r_10 M_11 =>
      if r_10 = (0 : Int32) then
        fX10_partMore_74 k4 (fX10_partMore_12 k4 n) n M_11 v0 v1 v2 v3 v4
      else
      chk (mK M_11 v0 == 10) <|
      bnd (mR M_11 v0 34) fun a_16 =>
      chk (mK M_11 a_16 == 13) <|
      chk (zin (((300 : Int32) * v3) + v4) (mN M_11 a_16)) <|
      app (wI M_11 a_16 (Int32.toNatClampNeg (((300 : Int32) * v3) + v4)) (vp_nar .boolean (1 : Int32))) fun M_20 : zM =>
      chk (mK M_20 v0 == 10) <|
      bnd (mR M_20 v0 34) fun a_23 =>
      chk (mK M_20 a_23 == 13) <|
      chk (zin (((300 : Int32) * v4) + v3) (mN M_20 a_23)) <|
      app (wI M_20 a_23 (Int32.toNatClampNeg (((300 : Int32) * v4) + v3)) (vp_nar .boolean (1 : Int32))) fun M_27 : zM =>
      fX10_partMore_74 k4 (fX10_partMore_12 k4 n) n M_27 v0 v1 (1 : Int32) v3 v4
    else
    fX10_partMore_74 k4 (fX10_partMore_12 k4 n) n M v0 v1 v2 v3 v4
set_option maxHeartbeats 4000000 in
theorem tX10_partMore_12 (k4 : zM → Nat → Int32 → Int32 → Int32 → Option (Int32 × zM)) (h4 : ∀ (M : zM) (v0 : Nat) (v1 : Int32) (v2 : Int32) (v3 : Int32) (r : Int32) (M' : zM), k4 M v0 v1 v2 v3 = some (r, M') → zW uX10_partMore none (0, 0) M 4 [(0, .ref v0), (1, .int v1), (2, .int v2), (3, .int v3)] [] (zE (oI r) M')) : ∀ (n : Nat) (M : zM) (v0 : Nat) (v1 : Int32) (v2 : Int32) (v3 : Int32) (v4 : Int32) (r : Int32) (M' : zM), fX10_partMore_12 k4 n M v0 v1 v2 v3 v4 = some (r, M') → zW uX10_partMore none (0, 0) M 12 [(0, .ref v0), (1, .int v1), (2, .int v2), (3, .int v3), (4, .int v4)] [] (zE (oI r) M') := by
  intro n
  induction n with
  | zero => intro M v0 v1 v2 v3 v4 r M' h; cases h
  | succ n ih =>
    intro M v0 v1 v2 v3 v4 r M' h
    rw [fX10_partMore_12] at h
    refine zr_iload (q := 14) dX10_partMore_12 rfl 4 rfl ?_
    refine zr_iload_n (q := 15) dX10_partMore_14 rfl rfl 3 rfl ?_
    refine zr_icmp_ge (q := 18) (tgt := 80) dX10_partMore_15 rfl (by decide) (fun c_1 => ?_) (fun c_1 => ?_)
    · replace h := ite_t c_1 h
      obtain ⟨v3_2, e_3, h⟩ := app_some h
      refine zr_iinc (q := 83) (v := v3_2) (L' := [(3, .int v3_2), (0, .ref v0), (1, .int v1), (2, .int v2), (4, .int v4)]) dX10_partMore_80 rfl 3 rfl (by rw [← e_3]; rfl) (by decide) rfl ?_
      refine zr_goto (q := 4) dX10_partMore_83 (by decide) ?_
      exact zr_pick [1, 2, 3, 0] rfl (h4 M v0 v1 v2 v3_2 _ _ h)
    · replace h := ite_f c_1 h
      refine zr_aload_n (q := 19) dX10_partMore_18 rfl rfl 0 rfl ?_
      obtain ⟨c_4, h⟩ := chk_some h
      obtain ⟨a_5, e_6, h⟩ := bnd_some h
      refine zr_getr (q := 22) (ci := 10) (k := 34) dX10_partMore_19 rfl (eq_of_beq c_4) rfl (by decide) rfl zbX10 (by decide) zb_535 rfl e_6 ?_
      refine zr_sipush (q := 25) (v := 300) dX10_partMore_22 rfl (by decide) ?_
      refine zr_iload_n (q := 26) dX10_partMore_25 rfl rfl 3 rfl ?_
      refine zr_imul (q := 27) dX10_partMore_26 rfl ?_
      refine zr_iload (q := 29) dX10_partMore_27 rfl 4 rfl ?_
      refine zr_iadd (q := 30) dX10_partMore_29 rfl ?_
      obtain ⟨c_7, h⟩ := chk_some h
      obtain ⟨c_8, h⟩ := chk_some h
      refine zr_zald (q := 31) dX10_partMore_30 rfl (eq_of_beq c_7) c_8 ?_
      refine zr_if_ne (q := 34) (tgt := 74) dX10_partMore_31 rfl (by decide) (fun c_9 => ?_) (fun c_9 => ?_)
      · replace h := ite_f c_9 h
        exact zr_pick [0, 1, 2, 3, 4] rfl (tX10_partMore_74 k4 h4 (fX10_partMore_12 k4 n) ih n M v0 v1 v2 v3 v4 _ _ h)
      · replace h := ite_t c_9 h
        refine zr_aload_n (q := 35) dX10_partMore_34 rfl rfl 0 rfl ?_
        refine zr_iload_n (q := 36) dX10_partMore_35 rfl rfl 3 rfl ?_
        refine zr_iload (q := 38) dX10_partMore_36 rfl 4 rfl ?_
        obtain ⟨c_13, h⟩ := chk_some h
        obtain ⟨r_10, M_11, hc_12, h⟩ := bnd2_some h
        refine zr_callVI (μ' := uX10_nowApart) (q := 41) (n := 2) (ci := 10) (As := [.int v3, .int v4]) (u' := (0, 0)) (tX10_nowApart n M v0 v3 v4 _ _ hc_12) dX10_partMore_38 rfl rfl ⟨zb_536, zb_537, zb_538, zb_539, zb_389⟩ zd_X10_nowApart ⟨by decide, by decide⟩ ⟨by decide, by decide⟩ (eq_of_beq c_13) (by decide) rfl rfl rfl (Nat.le_of_ble_eq_true rfl) rfl rfl ?_
        refine zr_if_eq (q := 44) (tgt := 74) dX10_partMore_41 rfl (by decide) (fun c_14 => ?_) (fun c_14 => ?_)
        · replace h := ite_t c_14 h
          exact zr_pick [0, 1, 2, 3, 4] rfl (tX10_partMore_74 k4 h4 (fX10_partMore_12 k4 n) ih n M_11 v0 v1 v2 v3 v4 _ _ h)
        · replace h := ite_f c_14 h
          refine zr_aload_n (q := 45) dX10_partMore_44 rfl rfl 0 rfl ?_
          obtain ⟨c_15, h⟩ := chk_some h
          obtain ⟨a_16, e_17, h⟩ := bnd_some h
          refine zr_getr (q := 48) (ci := 10) (k := 34) dX10_partMore_45 rfl (eq_of_beq c_15) rfl (by decide) rfl zbX10 (by decide) zb_535 rfl e_17 ?_
          refine zr_sipush (q := 51) (v := 300) dX10_partMore_48 rfl (by decide) ?_
          refine zr_iload_n (q := 52) dX10_partMore_51 rfl rfl 3 rfl ?_
          refine zr_imul (q := 53) dX10_partMore_52 rfl ?_
          refine zr_iload (q := 55) dX10_partMore_53 rfl 4 rfl ?_
          refine zr_iadd (q := 56) dX10_partMore_55 rfl ?_
          refine zr_iconst (q := 57) (v := 1) dX10_partMore_56 rfl (by decide) ?_
          obtain ⟨c_18, h⟩ := chk_some h
          obtain ⟨c_19, h⟩ := chk_some h
          obtain ⟨M_20, e_21, h⟩ := app_some h
          refine zr_zast (q := 58) dX10_partMore_57 rfl (eq_of_beq c_18) c_19 ?_
          refine zr_mem e_21 ?_
          refine zr_aload_n (q := 59) dX10_partMore_58 rfl rfl 0 rfl ?_
          obtain ⟨c_22, h⟩ := chk_some h
          obtain ⟨a_23, e_24, h⟩ := bnd_some h
          refine zr_getr (q := 62) (ci := 10) (k := 34) dX10_partMore_59 rfl (eq_of_beq c_22) rfl (by decide) rfl zbX10 (by decide) zb_535 rfl e_24 ?_
          refine zr_sipush (q := 65) (v := 300) dX10_partMore_62 rfl (by decide) ?_
          refine zr_iload (q := 67) dX10_partMore_65 rfl 4 rfl ?_
          refine zr_imul (q := 68) dX10_partMore_67 rfl ?_
          refine zr_iload_n (q := 69) dX10_partMore_68 rfl rfl 3 rfl ?_
          refine zr_iadd (q := 70) dX10_partMore_69 rfl ?_
          refine zr_iconst (q := 71) (v := 1) dX10_partMore_70 rfl (by decide) ?_
          obtain ⟨c_25, h⟩ := chk_some h
          obtain ⟨c_26, h⟩ := chk_some h
          obtain ⟨M_27, e_28, h⟩ := app_some h
          refine zr_zast (q := 72) dX10_partMore_71 rfl (eq_of_beq c_25) c_26 ?_
          refine zr_mem e_28 ?_
          refine zr_iconst (q := 73) (v := 1) dX10_partMore_72 rfl (by decide) ?_
          refine zr_istore_n (q := 74) (L' := [(2, .int (1 : Int32)), (0, .ref v0), (1, .int v1), (3, .int v3), (4, .int v4)]) dX10_partMore_73 rfl rfl (by decide) rfl ?_
          exact zr_pick [1, 2, 0, 3, 4] rfl (tX10_partMore_74 k4 h4 (fX10_partMore_12 k4 n) ih n M_27 v0 v1 (1 : Int32) v3 v4 _ _ h)
def fX10_partMore_4 : Nat → zM → Nat → Int32 → Int32 → Int32 → Option (Int32 × zM)
  | 0, _, _, _, _, _ => none
  | n + 1, M, v0, v1, v2, v3 =>
    if v1 ≤ v3 then
      chk (z01 v2) <|
      some (v2, M)
    else
    fX10_partMore_12 (fX10_partMore_4 n) n M v0 v1 v2 v3 (0 : Int32)
set_option maxHeartbeats 4000000 in
theorem tX10_partMore_4 : ∀ (n : Nat) (M : zM) (v0 : Nat) (v1 : Int32) (v2 : Int32) (v3 : Int32) (r : Int32) (M' : zM), fX10_partMore_4 n M v0 v1 v2 v3 = some (r, M') → zW uX10_partMore none (0, 0) M 4 [(0, .ref v0), (1, .int v1), (2, .int v2), (3, .int v3)] [] (zE (oI r) M') := by
  intro n
  induction n with
  | zero => intro M v0 v1 v2 v3 r M' h; cases h
  | succ n ih =>
    intro M v0 v1 v2 v3 r M' h
    rw [fX10_partMore_4] at h
    refine zr_iload_n (q := 5) dX10_partMore_4 rfl rfl 3 rfl ?_
    refine zr_iload_n (q := 6) dX10_partMore_5 rfl rfl 1 rfl ?_
    refine zr_icmp_ge (q := 9) (tgt := 86) dX10_partMore_6 rfl (by decide) (fun c_1 => ?_) (fun c_1 => ?_)
    · replace h := ite_t c_1 h
      refine zr_iload_n (q := 87) dX10_partMore_86 rfl rfl 2 rfl ?_
      obtain ⟨c_2, h⟩ := chk_some h
      cases h
      exact zr_zreturn dX10_partMore_87 rfl (z01_or c_2) ⟨by decide, by decide⟩ ⟨rfl, rfl⟩
    · replace h := ite_f c_1 h
      refine zr_iconst (q := 10) (v := 0) dX10_partMore_9 rfl (by decide) ?_
      refine zr_istore (q := 12) (L' := [(4, .int (0 : Int32)), (0, .ref v0), (1, .int v1), (2, .int v2), (3, .int v3)]) dX10_partMore_10 rfl (by decide) rfl ?_
      exact zr_pick [1, 2, 3, 4, 0] rfl (tX10_partMore_12 (fX10_partMore_4 n) ih n M v0 v1 v2 v3 (0 : Int32) _ _ h)
def fX10_partMore (n : Nat) (M : zM) (v0 : Nat) (v1 : Int32) : Option (Int32 × zM) :=
  fX10_partMore_4 n M v0 v1 (0 : Int32) (0 : Int32)
set_option maxHeartbeats 4000000 in
theorem tX10_partMore (n : Nat) (M : zM) (v0 : Nat) (v1 : Int32) (r : Int32) (M' : zM) (h : fX10_partMore n M v0 v1 = some (r, M')) : zMet uX10_partMore false M [.ref v0, .int v1] (zE (oI r) M') := by
  refine zMet_of (L := [(0, .ref v0), (1, .int v1)]) (by decide +kernel) rfl rfl (Nat.le_of_ble_eq_true rfl) ?_
  show zW uX10_partMore none (0, 0) M 0 [(0, .ref v0), (1, .int v1)] [] (zE (oI r) M')
  unfold fX10_partMore at h
  refine zr_iconst (q := 1) (v := 0) dX10_partMore_0 rfl (by decide) ?_
  refine zr_istore_n (q := 2) (L' := [(2, .int (0 : Int32)), (0, .ref v0), (1, .int v1)]) dX10_partMore_1 rfl rfl (by decide) rfl ?_
  refine zr_iconst (q := 3) (v := 0) dX10_partMore_2 rfl (by decide) ?_
  refine zr_istore_n (q := 4) (L' := [(3, .int (0 : Int32)), (2, .int (0 : Int32)), (0, .ref v0), (1, .int v1)]) dX10_partMore_3 rfl rfl (by decide) rfl ?_
  exact zr_pick [2, 3, 1, 0] rfl (tX10_partMore_4 n M v0 v1 (0 : Int32) (0 : Int32) _ _ h)

def uX10_classes : zMu := (yX10_classes, cX10_classes, 7, (some .int), { frames := 3, cells := 0, slots := 0, locals := 75 }, [])
theorem zd_X10_classes : (uY uX10_classes).cls ≠ "java/lang/invoke/MethodHandle" ∧ (uY uX10_classes).cls ≠ "java/lang/invoke/VarHandle" ∧ (parseMethodDescriptor (uY uX10_classes).desc).map (fun d => d.parameters.length) = some 0 := by decide +kernel
def fX10_classes_139 (k73 : zM → Nat → Int32 → Int32 → Int32 → Option (Int32 × zM)) (n : Nat) (M : zM) (v0 : Nat) (v1 : Int32) (v4 : Int32) (s0 : Int32) : Option (Int32 × zM) :=
  app (v4 + (1 : Int32)) fun v4_1 : Int32 =>
  k73 M v0 v1 s0 v4_1
set_option maxHeartbeats 4000000 in
theorem tX10_classes_139 (k73 : zM → Nat → Int32 → Int32 → Int32 → Option (Int32 × zM)) (h73 : ∀ (M : zM) (v0 : Nat) (v1 : Int32) (v3 : Int32) (v4 : Int32) (r : Int32) (M' : zM), k73 M v0 v1 v3 v4 = some (r, M') → zW uX10_classes none (0, 0) M 73 [(0, .ref v0), (1, .int v1), (3, .int v3), (4, .int v4)] [] (zE (oI r) M')) (n : Nat) (M : zM) (v0 : Nat) (v1 : Int32) (v4 : Int32) (s0 : Int32) (r : Int32) (M' : zM) (h : fX10_classes_139 k73 n M v0 v1 v4 s0 = some (r, M')) : zW uX10_classes none (0, 0) M 139 [(0, .ref v0), (1, .int v1), (4, .int v4)] [.int s0] (zE (oI r) M') := by
  unfold fX10_classes_139 at h
  refine zr_istore_n (q := 140) (L' := [(3, .int s0), (0, .ref v0), (1, .int v1), (4, .int v4)]) dX10_classes_139 rfl rfl (by decide) rfl ?_
  obtain ⟨v4_1, e_2, h⟩ := app_some h
  refine zr_iinc (q := 143) (v := v4_1) (L' := [(4, .int v4_1), (3, .int s0), (0, .ref v0), (1, .int v1)]) dX10_classes_140 rfl 3 rfl (by rw [← e_2]; rfl) (by decide) rfl ?_
  refine zr_goto (q := 73) dX10_classes_143 (by decide) ?_
  exact zr_pick [2, 3, 1, 0] rfl (h73 M v0 v1 s0 v4_1 _ _ h)
def fX10_classes_119 (k73 : zM → Nat → Int32 → Int32 → Int32 → Option (Int32 × zM)) (k85 : zM → Nat → Int32 → Int32 → Int32 → Int32 → Int32 → Option (Int32 × zM)) (n : Nat) (M : zM) (v0 : Nat) (v1 : Int32) (v3 : Int32) (v4 : Int32) (v6 : Int32) (s0 : Int32) : Option (Int32 × zM) :=
  app (v6 + (1 : Int32)) fun v6_1 : Int32 =>
  k85 M v0 v1 v3 v4 s0 v6_1
set_option maxHeartbeats 4000000 in
theorem tX10_classes_119 (k73 : zM → Nat → Int32 → Int32 → Int32 → Option (Int32 × zM)) (h73 : ∀ (M : zM) (v0 : Nat) (v1 : Int32) (v3 : Int32) (v4 : Int32) (r : Int32) (M' : zM), k73 M v0 v1 v3 v4 = some (r, M') → zW uX10_classes none (0, 0) M 73 [(0, .ref v0), (1, .int v1), (3, .int v3), (4, .int v4)] [] (zE (oI r) M')) (k85 : zM → Nat → Int32 → Int32 → Int32 → Int32 → Int32 → Option (Int32 × zM)) (h85 : ∀ (M : zM) (v0 : Nat) (v1 : Int32) (v3 : Int32) (v4 : Int32) (v5 : Int32) (v6 : Int32) (r : Int32) (M' : zM), k85 M v0 v1 v3 v4 v5 v6 = some (r, M') → zW uX10_classes none (0, 0) M 85 [(0, .ref v0), (1, .int v1), (3, .int v3), (4, .int v4), (5, .int v5), (6, .int v6)] [] (zE (oI r) M')) (n : Nat) (M : zM) (v0 : Nat) (v1 : Int32) (v3 : Int32) (v4 : Int32) (v6 : Int32) (s0 : Int32) (r : Int32) (M' : zM) (h : fX10_classes_119 k73 k85 n M v0 v1 v3 v4 v6 s0 = some (r, M')) : zW uX10_classes none (0, 0) M 119 [(0, .ref v0), (1, .int v1), (3, .int v3), (4, .int v4), (6, .int v6)] [.int s0] (zE (oI r) M') := by
  unfold fX10_classes_119 at h
  refine zr_istore (q := 121) (L' := [(5, .int s0), (0, .ref v0), (1, .int v1), (3, .int v3), (4, .int v4), (6, .int v6)]) dX10_classes_119 rfl (by decide) rfl ?_
  obtain ⟨v6_1, e_2, h⟩ := app_some h
  refine zr_iinc (q := 124) (v := v6_1) (L' := [(6, .int v6_1), (5, .int s0), (0, .ref v0), (1, .int v1), (3, .int v3), (4, .int v4)]) dX10_classes_121 rfl 5 rfl (by rw [← e_2]; rfl) (by decide) rfl ?_
  refine zr_goto (q := 85) dX10_classes_124 (by decide) ?_
  exact zr_pick [2, 3, 4, 5, 1, 0] rfl (h85 M v0 v1 v3 v4 s0 v6_1 _ _ h)
def fX10_classes_118 (k73 : zM → Nat → Int32 → Int32 → Int32 → Option (Int32 × zM)) (k85 : zM → Nat → Int32 → Int32 → Int32 → Int32 → Int32 → Option (Int32 × zM)) (n : Nat) (M : zM) (v0 : Nat) (v1 : Int32) (v3 : Int32) (v4 : Int32) (v6 : Int32) : Option (Int32 × zM) :=
  fX10_classes_119 k73 k85 n M v0 v1 v3 v4 v6 (0 : Int32)
set_option maxHeartbeats 4000000 in
theorem tX10_classes_118 (k73 : zM → Nat → Int32 → Int32 → Int32 → Option (Int32 × zM)) (h73 : ∀ (M : zM) (v0 : Nat) (v1 : Int32) (v3 : Int32) (v4 : Int32) (r : Int32) (M' : zM), k73 M v0 v1 v3 v4 = some (r, M') → zW uX10_classes none (0, 0) M 73 [(0, .ref v0), (1, .int v1), (3, .int v3), (4, .int v4)] [] (zE (oI r) M')) (k85 : zM → Nat → Int32 → Int32 → Int32 → Int32 → Int32 → Option (Int32 × zM)) (h85 : ∀ (M : zM) (v0 : Nat) (v1 : Int32) (v3 : Int32) (v4 : Int32) (v5 : Int32) (v6 : Int32) (r : Int32) (M' : zM), k85 M v0 v1 v3 v4 v5 v6 = some (r, M') → zW uX10_classes none (0, 0) M 85 [(0, .ref v0), (1, .int v1), (3, .int v3), (4, .int v4), (5, .int v5), (6, .int v6)] [] (zE (oI r) M')) (n : Nat) (M : zM) (v0 : Nat) (v1 : Int32) (v3 : Int32) (v4 : Int32) (v6 : Int32) (r : Int32) (M' : zM) (h : fX10_classes_118 k73 k85 n M v0 v1 v3 v4 v6 = some (r, M')) : zW uX10_classes none (0, 0) M 118 [(0, .ref v0), (1, .int v1), (3, .int v3), (4, .int v4), (6, .int v6)] [] (zE (oI r) M') := by
  unfold fX10_classes_118 at h
  refine zr_iconst (q := 119) (v := 0) dX10_classes_118 rfl (by decide) ?_
  exact zr_pick [0, 1, 2, 3, 4] rfl (tX10_classes_119 k73 h73 k85 h85 n M v0 v1 v3 v4 v6 (0 : Int32) _ _ h)
def fX10_classes_85 (k73 : zM → Nat → Int32 → Int32 → Int32 → Option (Int32 × zM)) : Nat → zM → Nat → Int32 → Int32 → Int32 → Int32 → Int32 → Option (Int32 × zM)
  | 0, _, _, _, _, _, _, _ => none
  | n + 1, M, v0, v1, v3, v4, v5, v6 =>
    if v4 ≤ v6 then
      if v5 = (0 : Int32) then
        fX10_classes_139 k73 n M v0 v1 v4 v3
      else
      fX10_classes_139 k73 n M v0 v1 v4 (v3 + (1 : Int32))
    else
    if v5 = (0 : Int32) then
      fX10_classes_118 k73 (fX10_classes_85 k73 n) n M v0 v1 v3 v4 v6
    else
    chk (mK M v0 == 10) <|
    bnd (mR M v0 34) fun a_5 =>
    chk (mK M a_5 == 13) <|
    chk (zin (((300 : Int32) * v4) + v6) (mN M a_5)) <|
    if (mI M a_5 (Int32.toNatClampNeg (((300 : Int32) * v4) + v6))) = (0 : Int32) then
      fX10_classes_118 k73 (fX10_classes_85 k73 n) n M v0 v1 v3 v4 v6
    else
    fX10_classes_119 k73 (fX10_classes_85 k73 n) n M v0 v1 v3 v4 v6 (1 : Int32)
set_option maxHeartbeats 4000000 in
theorem tX10_classes_85 (k73 : zM → Nat → Int32 → Int32 → Int32 → Option (Int32 × zM)) (h73 : ∀ (M : zM) (v0 : Nat) (v1 : Int32) (v3 : Int32) (v4 : Int32) (r : Int32) (M' : zM), k73 M v0 v1 v3 v4 = some (r, M') → zW uX10_classes none (0, 0) M 73 [(0, .ref v0), (1, .int v1), (3, .int v3), (4, .int v4)] [] (zE (oI r) M')) : ∀ (n : Nat) (M : zM) (v0 : Nat) (v1 : Int32) (v3 : Int32) (v4 : Int32) (v5 : Int32) (v6 : Int32) (r : Int32) (M' : zM), fX10_classes_85 k73 n M v0 v1 v3 v4 v5 v6 = some (r, M') → zW uX10_classes none (0, 0) M 85 [(0, .ref v0), (1, .int v1), (3, .int v3), (4, .int v4), (5, .int v5), (6, .int v6)] [] (zE (oI r) M') := by
  intro n
  induction n with
  | zero => intro M v0 v1 v3 v4 v5 v6 r M' h; cases h
  | succ n ih =>
    intro M v0 v1 v3 v4 v5 v6 r M' h
    rw [fX10_classes_85] at h
    refine zr_iload (q := 87) dX10_classes_85 rfl 5 rfl ?_
    refine zr_iload (q := 89) dX10_classes_87 rfl 3 rfl ?_
    refine zr_icmp_ge (q := 92) (tgt := 127) dX10_classes_89 rfl (by decide) (fun c_1 => ?_) (fun c_1 => ?_)
    · replace h := ite_t c_1 h
      refine zr_iload (q := 129) dX10_classes_127 rfl 4 rfl ?_
      refine zr_if_eq (q := 132) (tgt := 138) dX10_classes_129 rfl (by decide) (fun c_2 => ?_) (fun c_2 => ?_)
      · replace h := ite_t c_2 h
        refine zr_iload_n (q := 139) dX10_classes_138 rfl rfl 2 rfl ?_
        exact zr_pick [0, 1, 3] rfl (tX10_classes_139 k73 h73 n M v0 v1 v4 v3 _ _ h)
      · replace h := ite_f c_2 h
        refine zr_iload_n (q := 133) dX10_classes_132 rfl rfl 2 rfl ?_
        refine zr_iconst (q := 134) (v := 1) dX10_classes_133 rfl (by decide) ?_
        refine zr_iadd (q := 135) dX10_classes_134 rfl ?_
        refine zr_goto (q := 139) dX10_classes_135 (by decide) ?_
        exact zr_pick [0, 1, 3] rfl (tX10_classes_139 k73 h73 n M v0 v1 v4 (v3 + (1 : Int32)) _ _ h)
    · replace h := ite_f c_1 h
      refine zr_iload (q := 94) dX10_classes_92 rfl 4 rfl ?_
      refine zr_if_eq (q := 97) (tgt := 118) dX10_classes_94 rfl (by decide) (fun c_3 => ?_) (fun c_3 => ?_)
      · replace h := ite_t c_3 h
        exact zr_pick [0, 1, 2, 3, 5] rfl (tX10_classes_118 k73 h73 (fX10_classes_85 k73 n) ih n M v0 v1 v3 v4 v6 _ _ h)
      · replace h := ite_f c_3 h
        refine zr_aload_n (q := 98) dX10_classes_97 rfl rfl 0 rfl ?_
        obtain ⟨c_4, h⟩ := chk_some h
        obtain ⟨a_5, e_6, h⟩ := bnd_some h
        refine zr_getr (q := 101) (ci := 10) (k := 34) dX10_classes_98 rfl (eq_of_beq c_4) rfl (by decide) rfl zbX10 (by decide) zb_535 rfl e_6 ?_
        refine zr_sipush (q := 104) (v := 300) dX10_classes_101 rfl (by decide) ?_
        refine zr_iload (q := 106) dX10_classes_104 rfl 3 rfl ?_
        refine zr_imul (q := 107) dX10_classes_106 rfl ?_
        refine zr_iload (q := 109) dX10_classes_107 rfl 5 rfl ?_
        refine zr_iadd (q := 110) dX10_classes_109 rfl ?_
        obtain ⟨c_7, h⟩ := chk_some h
        obtain ⟨c_8, h⟩ := chk_some h
        refine zr_zald (q := 111) dX10_classes_110 rfl (eq_of_beq c_7) c_8 ?_
        refine zr_if_eq (q := 114) (tgt := 118) dX10_classes_111 rfl (by decide) (fun c_9 => ?_) (fun c_9 => ?_)
        · replace h := ite_t c_9 h
          exact zr_pick [0, 1, 2, 3, 5] rfl (tX10_classes_118 k73 h73 (fX10_classes_85 k73 n) ih n M v0 v1 v3 v4 v6 _ _ h)
        · replace h := ite_f c_9 h
          refine zr_iconst (q := 115) (v := 1) dX10_classes_114 rfl (by decide) ?_
          refine zr_goto (q := 119) dX10_classes_115 (by decide) ?_
          exact zr_pick [0, 1, 2, 3, 5] rfl (tX10_classes_119 k73 h73 (fX10_classes_85 k73 n) ih n M v0 v1 v3 v4 v6 (1 : Int32) _ _ h)
def fX10_classes_73 : Nat → zM → Nat → Int32 → Int32 → Int32 → Option (Int32 × zM)
  | 0, _, _, _, _, _ => none
  | n + 1, M, v0, v1, v3, v4 =>
    if v1 ≤ v4 then
      some (v3, M)
    else
    fX10_classes_85 (fX10_classes_73 n) n M v0 v1 v3 v4 (1 : Int32) (0 : Int32)
set_option maxHeartbeats 4000000 in
theorem tX10_classes_73 : ∀ (n : Nat) (M : zM) (v0 : Nat) (v1 : Int32) (v3 : Int32) (v4 : Int32) (r : Int32) (M' : zM), fX10_classes_73 n M v0 v1 v3 v4 = some (r, M') → zW uX10_classes none (0, 0) M 73 [(0, .ref v0), (1, .int v1), (3, .int v3), (4, .int v4)] [] (zE (oI r) M') := by
  intro n
  induction n with
  | zero => intro M v0 v1 v3 v4 r M' h; cases h
  | succ n ih =>
    intro M v0 v1 v3 v4 r M' h
    rw [fX10_classes_73] at h
    refine zr_iload (q := 75) dX10_classes_73 rfl 3 rfl ?_
    refine zr_iload_n (q := 76) dX10_classes_75 rfl rfl 1 rfl ?_
    refine zr_icmp_ge (q := 79) (tgt := 146) dX10_classes_76 rfl (by decide) (fun c_1 => ?_) (fun c_1 => ?_)
    · replace h := ite_t c_1 h
      refine zr_iload_n (q := 147) dX10_classes_146 rfl rfl 2 rfl ?_
      cases h
      exact zr_ireturn dX10_classes_147 rfl ⟨by decide, by decide⟩ ⟨rfl, rfl⟩
    · replace h := ite_f c_1 h
      refine zr_iconst (q := 80) (v := 1) dX10_classes_79 rfl (by decide) ?_
      refine zr_istore (q := 82) (L' := [(5, .int (1 : Int32)), (0, .ref v0), (1, .int v1), (3, .int v3), (4, .int v4)]) dX10_classes_80 rfl (by decide) rfl ?_
      refine zr_iconst (q := 83) (v := 0) dX10_classes_82 rfl (by decide) ?_
      refine zr_istore (q := 85) (L' := [(6, .int (0 : Int32)), (5, .int (1 : Int32)), (0, .ref v0), (1, .int v1), (3, .int v3), (4, .int v4)]) dX10_classes_83 rfl (by decide) rfl ?_
      exact zr_pick [2, 3, 4, 5, 1, 0] rfl (tX10_classes_85 (fX10_classes_73 n) ih n M v0 v1 v3 v4 (1 : Int32) (0 : Int32) _ _ h)
def fX10_classes_55 : Nat → zM → Nat → Int32 → Int32 → Option (Int32 × zM)
  | 0, _, _, _, _ => none
  | n + 1, M, v0, v1, v2 =>
    if v2 = (0 : Int32) then
      fX10_classes_73 n M v0 v1 (0 : Int32) (0 : Int32)
    else
    chk (mK M v0 == 10) <|
    bnd2 (fX10_partMore n M v0 v1) fun r_2 M_3 =>
    (fX10_classes_55 n) M_3 v0 v1 r_2
set_option maxHeartbeats 4000000 in
theorem tX10_classes_55 : ∀ (n : Nat) (M : zM) (v0 : Nat) (v1 : Int32) (v2 : Int32) (r : Int32) (M' : zM), fX10_classes_55 n M v0 v1 v2 = some (r, M') → zW uX10_classes none (0, 0) M 55 [(0, .ref v0), (1, .int v1), (2, .int v2)] [] (zE (oI r) M') := by
  intro n
  induction n with
  | zero => intro M v0 v1 v2 r M' h; cases h
  | succ n ih =>
    intro M v0 v1 v2 r M' h
    rw [fX10_classes_55] at h
    refine zr_iload_n (q := 56) dX10_classes_55 rfl rfl 2 rfl ?_
    refine zr_if_eq (q := 59) (tgt := 68) dX10_classes_56 rfl (by decide) (fun c_1 => ?_) (fun c_1 => ?_)
    · replace h := ite_t c_1 h
      refine zr_iconst (q := 69) (v := 0) dX10_classes_68 rfl (by decide) ?_
      refine zr_istore_n (q := 70) (L' := [(3, .int (0 : Int32)), (0, .ref v0), (1, .int v1), (2, .int v2)]) dX10_classes_69 rfl rfl (by decide) rfl ?_
      refine zr_iconst (q := 71) (v := 0) dX10_classes_70 rfl (by decide) ?_
      refine zr_istore (q := 73) (L' := [(4, .int (0 : Int32)), (3, .int (0 : Int32)), (0, .ref v0), (1, .int v1), (2, .int v2)]) dX10_classes_71 rfl (by decide) rfl ?_
      exact zr_pick [2, 3, 1, 0] rfl (tX10_classes_73 n M v0 v1 (0 : Int32) (0 : Int32) _ _ h)
    · replace h := ite_f c_1 h
      refine zr_aload_n (q := 60) dX10_classes_59 rfl rfl 0 rfl ?_
      refine zr_iload_n (q := 61) dX10_classes_60 rfl rfl 1 rfl ?_
      obtain ⟨c_5, h⟩ := chk_some h
      obtain ⟨r_2, M_3, hc_4, h⟩ := bnd2_some h
      refine zr_callVI (μ' := uX10_partMore) (q := 64) (n := 1) (ci := 10) (As := [.int v1]) (u' := (0, 0)) (tX10_partMore n M v0 v1 _ _ hc_4) dX10_classes_61 rfl rfl ⟨zb_540, zb_541, zb_542, zb_543, zb_389⟩ zd_X10_partMore ⟨by decide, by decide⟩ ⟨by decide, by decide⟩ (eq_of_beq c_5) (by decide) rfl rfl rfl (Nat.le_of_ble_eq_true rfl) rfl rfl ?_
      refine zr_istore_n (q := 65) (L' := [(2, .int r_2), (0, .ref v0), (1, .int v1)]) dX10_classes_64 rfl rfl (by decide) rfl ?_
      refine zr_goto (q := 55) dX10_classes_65 (by decide) ?_
      exact zr_pick [1, 2, 0] rfl (ih M_3 v0 v1 r_2 _ _ h)
def fX10_classes_34 : Nat → zM → Nat → Int32 → Int32 → Option (Int32 × zM)
  | 0, _, _, _, _ => none
  | n + 1, M, v0, v1, v2 =>
    if (90000 : Int32) ≤ v2 then
      fX10_classes_55 n M v0 v1 (1 : Int32)
    else
    chk (mK M v0 == 10) <|
    bnd (mR M v0 34) fun a_3 =>
    chk (mK M a_3 == 13) <|
    chk (zin v2 (mN M a_3)) <|
    app (wI M a_3 (Int32.toNatClampNeg v2) (vp_nar .boolean (0 : Int32))) fun M_7 : zM =>
    app (v2 + (1 : Int32)) fun v2_9 : Int32 =>
    (fX10_classes_34 n) M_7 v0 v1 v2_9
set_option maxHeartbeats 4000000 in
theorem tX10_classes_34 : ∀ (n : Nat) (M : zM) (v0 : Nat) (v1 : Int32) (v2 : Int32) (r : Int32) (M' : zM), fX10_classes_34 n M v0 v1 v2 = some (r, M') → zW uX10_classes none (0, 0) M 34 [(0, .ref v0), (1, .int v1), (2, .int v2)] [] (zE (oI r) M') := by
  intro n
  induction n with
  | zero => intro M v0 v1 v2 r M' h; cases h
  | succ n ih =>
    intro M v0 v1 v2 r M' h
    rw [fX10_classes_34] at h
    refine zr_iload_n (q := 35) dX10_classes_34 rfl rfl 2 rfl ?_
    refine zr_ldc (q := 37) (v := 90000) dX10_classes_35 rfl zb_544 ?_
    refine zr_icmp_ge (q := 40) (tgt := 53) dX10_classes_37 rfl (by decide) (fun c_1 => ?_) (fun c_1 => ?_)
    · replace h := ite_t c_1 h
      refine zr_iconst (q := 54) (v := 1) dX10_classes_53 rfl (by decide) ?_
      refine zr_istore_n (q := 55) (L' := [(2, .int (1 : Int32)), (0, .ref v0), (1, .int v1)]) dX10_classes_54 rfl rfl (by decide) rfl ?_
      exact zr_pick [1, 2, 0] rfl (tX10_classes_55 n M v0 v1 (1 : Int32) _ _ h)
    · replace h := ite_f c_1 h
      refine zr_aload_n (q := 41) dX10_classes_40 rfl rfl 0 rfl ?_
      obtain ⟨c_2, h⟩ := chk_some h
      obtain ⟨a_3, e_4, h⟩ := bnd_some h
      refine zr_getr (q := 44) (ci := 10) (k := 34) dX10_classes_41 rfl (eq_of_beq c_2) rfl (by decide) rfl zbX10 (by decide) zb_535 rfl e_4 ?_
      refine zr_iload_n (q := 45) dX10_classes_44 rfl rfl 2 rfl ?_
      refine zr_iconst (q := 46) (v := 0) dX10_classes_45 rfl (by decide) ?_
      obtain ⟨c_5, h⟩ := chk_some h
      obtain ⟨c_6, h⟩ := chk_some h
      obtain ⟨M_7, e_8, h⟩ := app_some h
      refine zr_zast (q := 47) dX10_classes_46 rfl (eq_of_beq c_5) c_6 ?_
      refine zr_mem e_8 ?_
      obtain ⟨v2_9, e_10, h⟩ := app_some h
      refine zr_iinc (q := 50) (v := v2_9) (L' := [(2, .int v2_9), (0, .ref v0), (1, .int v1)]) dX10_classes_47 rfl 2 rfl (by rw [← e_10]; rfl) (by decide) rfl ?_
      refine zr_goto (q := 34) dX10_classes_50 (by decide) ?_
      exact zr_pick [1, 2, 0] rfl (ih M_7 v0 v1 v2_9 _ _ h)
def fX10_classes (n : Nat) (M : zM) (v0 : Nat) : Option (Int32 × zM) :=
  chk (mK M v0 == 10) <|
  bnd2 (fX10_none n M v0) fun r_1 M_2 =>
  if r_1 = (0 : Int32) then
    chk (mK M_2 v0 == 10) <|
    bnd2 (fX10_build n M_2 v0 (0 : Int32)) fun r_6 M_7 =>
    chk (mK M_7 v0 == 10) <|
    bnd (mR M_7 v0 33) fun a_11 =>
    chk (mK M_7 a_11 == 13) <|
    chk (zin (0 : Int32) (mN M_7 a_11)) <|
    if (mI M_7 a_11 (Int32.toNatClampNeg (0 : Int32))) = (0 : Int32) then
      chk (mK M_7 v0 == 10) <|
      bnd (mR M_7 v0 32) fun a_17 =>
      chk (mK M_7 a_17 == 11) <|
      chk (zin (0 : Int32) (mN M_7 a_17)) <|
      app (mI M_7 a_17 (Int32.toNatClampNeg (0 : Int32))) fun v1_21 : Int32 =>
      fX10_classes_34 n M_7 v0 v1_21 (0 : Int32)
    else
    some ((-1 : Int32), M_7)
  else
  some ((0 : Int32), M_2)
set_option maxHeartbeats 4000000 in
theorem tX10_classes (n : Nat) (M : zM) (v0 : Nat) (r : Int32) (M' : zM) (h : fX10_classes n M v0 = some (r, M')) : zMet uX10_classes false M [.ref v0] (zE (oI r) M') := by
  refine zMet_of (L := [(0, .ref v0)]) (by decide +kernel) rfl rfl (Nat.le_of_ble_eq_true rfl) ?_
  show zW uX10_classes none (0, 0) M 0 [(0, .ref v0)] [] (zE (oI r) M')
  unfold fX10_classes at h
  refine zr_aload_n (q := 1) dX10_classes_0 rfl rfl 0 rfl ?_
  obtain ⟨c_4, h⟩ := chk_some h
  obtain ⟨r_1, M_2, hc_3, h⟩ := bnd2_some h
  refine zr_callVI (μ' := uX10_none) (q := 4) (n := 0) (ci := 10) (As := []) (u' := (0, 0)) (tX10_none n M v0 _ _ hc_3) dX10_classes_1 rfl rfl ⟨zb_490, zb_491, zb_492, zb_493, zb_389⟩ zd_X10_none ⟨by decide, by decide⟩ ⟨by decide, by decide⟩ (eq_of_beq c_4) (by decide) rfl rfl rfl (Nat.le_of_ble_eq_true rfl) rfl rfl ?_
  refine zr_if_eq (q := 7) (tgt := 9) dX10_classes_4 rfl (by decide) (fun c_5 => ?_) (fun c_5 => ?_)
  · replace h := ite_t c_5 h
    refine zr_aload_n (q := 10) dX10_classes_9 rfl rfl 0 rfl ?_
    refine zr_iconst (q := 11) (v := 0) dX10_classes_10 rfl (by decide) ?_
    obtain ⟨c_9, h⟩ := chk_some h
    obtain ⟨r_6, M_7, hc_8, h⟩ := bnd2_some h
    refine zr_callVV (μ' := uX10_build) (q := 14) (n := 1) (ci := 10) (As := [.int (0 : Int32)]) (u' := (0, 0)) (tX10_build n M_2 v0 (0 : Int32) _ _ hc_8) dX10_classes_11 rfl rfl ⟨zb_523, zb_524, zb_525, zb_526, zb_389⟩ zd_X10_build ⟨by decide, by decide⟩ ⟨by decide, by decide⟩ (eq_of_beq c_9) (by decide) rfl rfl rfl (Nat.le_of_ble_eq_true rfl) rfl rfl ?_
    refine zr_aload_n (q := 15) dX10_classes_14 rfl rfl 0 rfl ?_
    obtain ⟨c_10, h⟩ := chk_some h
    obtain ⟨a_11, e_12, h⟩ := bnd_some h
    refine zr_getr (q := 18) (ci := 10) (k := 33) dX10_classes_15 rfl (eq_of_beq c_10) rfl (by decide) rfl zbX10 (by decide) zb_517 rfl e_12 ?_
    refine zr_iconst (q := 19) (v := 0) dX10_classes_18 rfl (by decide) ?_
    obtain ⟨c_13, h⟩ := chk_some h
    obtain ⟨c_14, h⟩ := chk_some h
    refine zr_zald (q := 20) dX10_classes_19 rfl (eq_of_beq c_13) c_14 ?_
    refine zr_if_eq (q := 23) (tgt := 25) dX10_classes_20 rfl (by decide) (fun c_15 => ?_) (fun c_15 => ?_)
    · replace h := ite_t c_15 h
      refine zr_aload_n (q := 26) dX10_classes_25 rfl rfl 0 rfl ?_
      obtain ⟨c_16, h⟩ := chk_some h
      obtain ⟨a_17, e_18, h⟩ := bnd_some h
      refine zr_getr (q := 29) (ci := 10) (k := 32) dX10_classes_26 rfl (eq_of_beq c_16) rfl (by decide) rfl zbX10 (by decide) zb_515 rfl e_18 ?_
      refine zr_iconst (q := 30) (v := 0) dX10_classes_29 rfl (by decide) ?_
      obtain ⟨c_19, h⟩ := chk_some h
      obtain ⟨c_20, h⟩ := chk_some h
      refine zr_iald (q := 31) dX10_classes_30 rfl (eq_of_beq c_19) c_20 ?_
      obtain ⟨v1_21, e_22, h⟩ := app_some h
      refine zr_nmI e_22 ?_
      refine zr_istore_n (q := 32) (L' := [(1, .int v1_21), (0, .ref v0)]) dX10_classes_31 rfl rfl (by decide) rfl ?_
      refine zr_iconst (q := 33) (v := 0) dX10_classes_32 rfl (by decide) ?_
      refine zr_istore_n (q := 34) (L' := [(2, .int (0 : Int32)), (1, .int v1_21), (0, .ref v0)]) dX10_classes_33 rfl rfl (by decide) rfl ?_
      exact zr_pick [2, 1, 0] rfl (tX10_classes_34 n M_7 v0 v1_21 (0 : Int32) _ _ h)
    · replace h := ite_f c_15 h
      refine zr_iconst (q := 24) (v := -1) dX10_classes_23 rfl (by decide) ?_
      cases h
      exact zr_ireturn dX10_classes_24 rfl ⟨by decide, by decide⟩ ⟨rfl, rfl⟩
  · replace h := ite_f c_5 h
    refine zr_iconst (q := 8) (v := 0) dX10_classes_7 rfl (by decide) ?_
    cases h
    exact zr_ireturn dX10_classes_8 rfl ⟨by decide, by decide⟩ ⟨rfl, rfl⟩

def uX10_keep : zMu := (yX10_keep, cX10_keep, 1, none, { frames := 1, cells := 0, slots := 0, locals := 23 }, [])
theorem zd_X10_keep : (uY uX10_keep).cls ≠ "java/lang/invoke/MethodHandle" ∧ (uY uX10_keep).cls ≠ "java/lang/invoke/VarHandle" ∧ (parseMethodDescriptor (uY uX10_keep).desc).map (fun d => d.parameters.length) = some 0 := by decide +kernel
def fX10_keep (n : Nat) (M : zM) (v0 : Nat) : Option (Unit × zM) :=
  chk (mK M v0 == 10) <|
  bnd2 (fX10_none n M v0) fun r_1 M_2 =>
  if r_1 = (0 : Int32) then
    chk (mK M_2 v0 == 10) <|
    bnd2 (fX10_copy n M_2 v0 (0 : Int32) (1 : Int32)) fun r_6 M_7 =>
    some ((), M_7)
  else
  some ((), M_2)
set_option maxHeartbeats 4000000 in
theorem tX10_keep (n : Nat) (M : zM) (v0 : Nat) (r : Unit) (M' : zM) (h : fX10_keep n M v0 = some (r, M')) : zMet uX10_keep false M [.ref v0] (zE (oV r) M') := by
  refine zMet_of (L := [(0, .ref v0)]) (by decide +kernel) rfl rfl (Nat.le_of_ble_eq_true rfl) ?_
  show zW uX10_keep none (0, 0) M 0 [(0, .ref v0)] [] (zE (oV r) M')
  unfold fX10_keep at h
  refine zr_aload_n (q := 1) dX10_keep_0 rfl rfl 0 rfl ?_
  obtain ⟨c_4, h⟩ := chk_some h
  obtain ⟨r_1, M_2, hc_3, h⟩ := bnd2_some h
  refine zr_callVI (μ' := uX10_none) (q := 4) (n := 0) (ci := 10) (As := []) (u' := (0, 0)) (tX10_none n M v0 _ _ hc_3) dX10_keep_1 rfl rfl ⟨zb_490, zb_491, zb_492, zb_493, zb_389⟩ zd_X10_none ⟨by decide, by decide⟩ ⟨by decide, by decide⟩ (eq_of_beq c_4) (by decide) rfl rfl rfl (Nat.le_of_ble_eq_true rfl) rfl rfl ?_
  refine zr_if_ne (q := 7) (tgt := 13) dX10_keep_4 rfl (by decide) (fun c_5 => ?_) (fun c_5 => ?_)
  · replace h := ite_f c_5 h
    cases h
    exact zr_return dX10_keep_13 rfl ⟨by decide, by decide⟩ ⟨rfl, rfl⟩
  · replace h := ite_t c_5 h
    refine zr_aload_n (q := 8) dX10_keep_7 rfl rfl 0 rfl ?_
    refine zr_iconst (q := 9) (v := 0) dX10_keep_8 rfl (by decide) ?_
    refine zr_iconst (q := 10) (v := 1) dX10_keep_9 rfl (by decide) ?_
    obtain ⟨c_9, h⟩ := chk_some h
    obtain ⟨r_6, M_7, hc_8, h⟩ := bnd2_some h
    refine zr_callVV (μ' := uX10_copy) (q := 13) (n := 2) (ci := 10) (As := [.int (0 : Int32), .int (1 : Int32)]) (u' := (0, 0)) (tX10_copy n M_2 v0 (0 : Int32) (1 : Int32) _ _ hc_8) dX10_keep_10 rfl rfl ⟨zb_482, zb_483, zb_484, zb_485, zb_389⟩ zd_X10_copy ⟨by decide, by decide⟩ ⟨by decide, by decide⟩ (eq_of_beq c_9) (by decide) rfl rfl rfl (Nat.le_of_ble_eq_true rfl) rfl rfl ?_
    cases h
    exact zr_return dX10_keep_13 rfl ⟨by decide, by decide⟩ ⟨rfl, rfl⟩

def uX10_spell : zMu := (yX10_spell, cX10_spell, 4, none, { frames := 0, cells := 0, slots := 0, locals := 0 }, [])
theorem zd_X10_spell : (uY uX10_spell).cls ≠ "java/lang/invoke/MethodHandle" ∧ (uY uX10_spell).cls ≠ "java/lang/invoke/VarHandle" ∧ (parseMethodDescriptor (uY uX10_spell).desc).map (fun d => d.parameters.length) = some 1 := by decide +kernel
def fX10_spell_38 : Nat → zM → Nat → Int32 → Int32 → Option (Unit × zM)
  | 0, _, _, _, _ => none
  | n + 1, M, v0, v2, v3 =>
    if v3 = (0 : Int32) then
      some ((), M)
    else
    app (v2 + (-1 : Int32)) fun v2_2 : Int32 =>
    chk (mK M v0 == 10) <|
    bnd (mR M v0 38) fun a_5 =>
    chk (mK M v0 == 10) <|
    bnd (mR M v0 37) fun a_8 =>
    chk (mK M a_8 == 11) <|
    chk (zin v3 (mN M a_8)) <|
    chk (mK M a_5 == 11) <|
    chk (zin v2_2 (mN M a_5)) <|
    app (wI M a_5 (Int32.toNatClampNeg v2_2) (mI M a_8 (Int32.toNatClampNeg v3))) fun M_14 : zM =>
    chk (mK M_14 v0 == 10) <|
    bnd (mR M_14 v0 36) fun a_17 =>
    chk (mK M_14 a_17 == 11) <|
    chk (zin v3 (mN M_14 a_17)) <|
    app (mI M_14 a_17 (Int32.toNatClampNeg v3)) fun v3_21 : Int32 =>
    (fX10_spell_38 n) M_14 v0 v2_2 v3_21
set_option maxHeartbeats 4000000 in
theorem tX10_spell_38 : ∀ (n : Nat) (M : zM) (v0 : Nat) (v2 : Int32) (v3 : Int32) (r : Unit) (M' : zM), fX10_spell_38 n M v0 v2 v3 = some (r, M') → zW uX10_spell none (0, 0) M 38 [(0, .ref v0), (2, .int v2), (3, .int v3)] [] (zE (oV r) M') := by
  intro n
  induction n with
  | zero => intro M v0 v2 v3 r M' h; cases h
  | succ n ih =>
    intro M v0 v2 v3 r M' h
    rw [fX10_spell_38] at h
    refine zr_iload_n (q := 39) dX10_spell_38 rfl rfl 2 rfl ?_
    refine zr_if_eq (q := 42) (tgt := 67) dX10_spell_39 rfl (by decide) (fun c_1 => ?_) (fun c_1 => ?_)
    · replace h := ite_t c_1 h
      cases h
      exact zr_return dX10_spell_67 rfl ⟨by decide, by decide⟩ ⟨rfl, rfl⟩
    · replace h := ite_f c_1 h
      obtain ⟨v2_2, e_3, h⟩ := app_some h
      refine zr_iinc (q := 45) (v := v2_2) (L' := [(2, .int v2_2), (0, .ref v0), (3, .int v3)]) dX10_spell_42 rfl 1 rfl (by rw [← e_3]; rfl) (by decide) rfl ?_
      refine zr_aload_n (q := 46) dX10_spell_45 rfl rfl 1 rfl ?_
      obtain ⟨c_4, h⟩ := chk_some h
      obtain ⟨a_5, e_6, h⟩ := bnd_some h
      refine zr_getr (q := 49) (ci := 10) (k := 38) dX10_spell_46 rfl (eq_of_beq c_4) rfl (by decide) rfl zbX10 (by decide) zb_545 rfl e_6 ?_
      refine zr_iload_n (q := 50) dX10_spell_49 rfl rfl 0 rfl ?_
      refine zr_aload_n (q := 51) dX10_spell_50 rfl rfl 1 rfl ?_
      obtain ⟨c_7, h⟩ := chk_some h
      obtain ⟨a_8, e_9, h⟩ := bnd_some h
      refine zr_getr (q := 54) (ci := 10) (k := 37) dX10_spell_51 rfl (eq_of_beq c_7) rfl (by decide) rfl zbX10 (by decide) zb_546 rfl e_9 ?_
      refine zr_iload_n (q := 55) dX10_spell_54 rfl rfl 2 rfl ?_
      obtain ⟨c_10, h⟩ := chk_some h
      obtain ⟨c_11, h⟩ := chk_some h
      refine zr_iald (q := 56) dX10_spell_55 rfl (eq_of_beq c_10) c_11 ?_
      obtain ⟨c_12, h⟩ := chk_some h
      obtain ⟨c_13, h⟩ := chk_some h
      obtain ⟨M_14, e_15, h⟩ := app_some h
      refine zr_iast (q := 57) dX10_spell_56 rfl (eq_of_beq c_12) c_13 ?_
      refine zr_mem e_15 ?_
      refine zr_aload_n (q := 58) dX10_spell_57 rfl rfl 1 rfl ?_
      obtain ⟨c_16, h⟩ := chk_some h
      obtain ⟨a_17, e_18, h⟩ := bnd_some h
      refine zr_getr (q := 61) (ci := 10) (k := 36) dX10_spell_58 rfl (eq_of_beq c_16) rfl (by decide) rfl zbX10 (by decide) zb_547 rfl e_18 ?_
      refine zr_iload_n (q := 62) dX10_spell_61 rfl rfl 2 rfl ?_
      obtain ⟨c_19, h⟩ := chk_some h
      obtain ⟨c_20, h⟩ := chk_some h
      refine zr_iald (q := 63) dX10_spell_62 rfl (eq_of_beq c_19) c_20 ?_
      obtain ⟨v3_21, e_22, h⟩ := app_some h
      refine zr_nmI e_22 ?_
      refine zr_istore_n (q := 64) (L' := [(3, .int v3_21), (2, .int v2_2), (0, .ref v0)]) dX10_spell_63 rfl rfl (by decide) rfl ?_
      refine zr_goto (q := 38) dX10_spell_64 (by decide) ?_
      exact zr_pick [2, 1, 0] rfl (ih M_14 v0 v2_2 v3_21 _ _ h)
def fX10_spell_7 : Nat → zM → Nat → Int32 → Int32 → Option (Unit × zM)
  | 0, _, _, _, _ => none
  | n + 1, M, v0, v1, v2 =>
    if v2 = (0 : Int32) then
      chk (mK M v0 == 10) <|
      app (mI M v0 39) fun v2_3 : Int32 =>
      fX10_spell_38 n M v0 v2_3 v1
    else
    chk (mK M v0 == 10) <|
    chk (mK M v0 == 10) <|
    app (wI M v0 39 ((mI M v0 39) + (1 : Int32))) fun M_7 : zM =>
    chk (mK M_7 v0 == 10) <|
    bnd (mR M_7 v0 36) fun a_10 =>
    chk (mK M_7 a_10 == 11) <|
    chk (zin v2 (mN M_7 a_10)) <|
    app (mI M_7 a_10 (Int32.toNatClampNeg v2)) fun v2_14 : Int32 =>
    (fX10_spell_7 n) M_7 v0 v1 v2_14
set_option maxHeartbeats 4000000 in
theorem tX10_spell_7 : ∀ (n : Nat) (M : zM) (v0 : Nat) (v1 : Int32) (v2 : Int32) (r : Unit) (M' : zM), fX10_spell_7 n M v0 v1 v2 = some (r, M') → zW uX10_spell none (0, 0) M 7 [(0, .ref v0), (1, .int v1), (2, .int v2)] [] (zE (oV r) M') := by
  intro n
  induction n with
  | zero => intro M v0 v1 v2 r M' h; cases h
  | succ n ih =>
    intro M v0 v1 v2 r M' h
    rw [fX10_spell_7] at h
    refine zr_iload_n (q := 8) dX10_spell_7 rfl rfl 2 rfl ?_
    refine zr_if_eq (q := 11) (tgt := 31) dX10_spell_8 rfl (by decide) (fun c_1 => ?_) (fun c_1 => ?_)
    · replace h := ite_t c_1 h
      refine zr_aload_n (q := 32) dX10_spell_31 rfl rfl 0 rfl ?_
      obtain ⟨c_2, h⟩ := chk_some h
      refine zr_get (q := 35) (ci := 10) (k := 39) dX10_spell_32 rfl (eq_of_beq c_2) rfl (by decide) rfl zbX10 (by decide) zb_548 rfl ?_
      obtain ⟨v2_3, e_4, h⟩ := app_some h
      refine zr_nmI e_4 ?_
      refine zr_istore_n (q := 36) (L' := [(2, .int v2_3), (0, .ref v0), (1, .int v1)]) dX10_spell_35 rfl rfl (by decide) rfl ?_
      refine zr_iload_n (q := 37) dX10_spell_36 rfl rfl 2 rfl ?_
      refine zr_istore_n (q := 38) (L' := [(3, .int v1), (2, .int v2_3), (0, .ref v0), (1, .int v1)]) dX10_spell_37 rfl rfl (by decide) rfl ?_
      exact zr_pick [2, 1, 0] rfl (tX10_spell_38 n M v0 v2_3 v1 _ _ h)
    · replace h := ite_f c_1 h
      refine zr_aload_n (q := 12) dX10_spell_11 rfl rfl 0 rfl ?_
      refine zr_dup (q := 13) dX10_spell_12 rfl rfl ?_
      obtain ⟨c_5, h⟩ := chk_some h
      refine zr_get (q := 16) (ci := 10) (k := 39) dX10_spell_13 rfl (eq_of_beq c_5) rfl (by decide) rfl zbX10 (by decide) zb_548 rfl ?_
      refine zr_iconst (q := 17) (v := 1) dX10_spell_16 rfl (by decide) ?_
      refine zr_iadd (q := 18) dX10_spell_17 rfl ?_
      obtain ⟨c_6, h⟩ := chk_some h
      obtain ⟨M_7, e_8, h⟩ := app_some h
      refine zr_putI (q := 21) (ci := 10) (k := 39) dX10_spell_18 rfl (eq_of_beq c_6) rfl (by decide) rfl zbX10 tyX10_ok nmX10 (by decide) zb_548 (Or.inl rfl) rfl ?_
      refine zr_mem e_8 ?_
      refine zr_aload_n (q := 22) dX10_spell_21 rfl rfl 0 rfl ?_
      obtain ⟨c_9, h⟩ := chk_some h
      obtain ⟨a_10, e_11, h⟩ := bnd_some h
      refine zr_getr (q := 25) (ci := 10) (k := 36) dX10_spell_22 rfl (eq_of_beq c_9) rfl (by decide) rfl zbX10 (by decide) zb_547 rfl e_11 ?_
      refine zr_iload_n (q := 26) dX10_spell_25 rfl rfl 2 rfl ?_
      obtain ⟨c_12, h⟩ := chk_some h
      obtain ⟨c_13, h⟩ := chk_some h
      refine zr_iald (q := 27) dX10_spell_26 rfl (eq_of_beq c_12) c_13 ?_
      obtain ⟨v2_14, e_15, h⟩ := app_some h
      refine zr_nmI e_15 ?_
      refine zr_istore_n (q := 28) (L' := [(2, .int v2_14), (0, .ref v0), (1, .int v1)]) dX10_spell_27 rfl rfl (by decide) rfl ?_
      refine zr_goto (q := 7) dX10_spell_28 (by decide) ?_
      exact zr_pick [1, 2, 0] rfl (ih M_7 v0 v1 v2_14 _ _ h)
def fX10_spell (n : Nat) (M : zM) (v0 : Nat) (v1 : Int32) : Option (Unit × zM) :=
  chk (mK M v0 == 10) <|
  app (wI M v0 39 (0 : Int32)) fun M_2 : zM =>
  fX10_spell_7 n M_2 v0 v1 v1
set_option maxHeartbeats 4000000 in
theorem tX10_spell (n : Nat) (M : zM) (v0 : Nat) (v1 : Int32) (r : Unit) (M' : zM) (h : fX10_spell n M v0 v1 = some (r, M')) : zMet uX10_spell false M [.ref v0, .int v1] (zE (oV r) M') := by
  refine zMet_of (L := [(0, .ref v0), (1, .int v1)]) (by decide +kernel) rfl rfl (Nat.le_of_ble_eq_true rfl) ?_
  show zW uX10_spell none (0, 0) M 0 [(0, .ref v0), (1, .int v1)] [] (zE (oV r) M')
  unfold fX10_spell at h
  refine zr_aload_n (q := 1) dX10_spell_0 rfl rfl 0 rfl ?_
  refine zr_iconst (q := 2) (v := 0) dX10_spell_1 rfl (by decide) ?_
  obtain ⟨c_1, h⟩ := chk_some h
  obtain ⟨M_2, e_3, h⟩ := app_some h
  refine zr_putI (q := 5) (ci := 10) (k := 39) dX10_spell_2 rfl (eq_of_beq c_1) rfl (by decide) rfl zbX10 tyX10_ok nmX10 (by decide) zb_548 (Or.inl rfl) rfl ?_
  refine zr_mem e_3 ?_
  refine zr_iload_n (q := 6) dX10_spell_5 rfl rfl 1 rfl ?_
  refine zr_istore_n (q := 7) (L' := [(2, .int v1), (0, .ref v0), (1, .int v1)]) dX10_spell_6 rfl rfl (by decide) rfl ?_
  exact zr_pick [1, 2, 0] rfl (tX10_spell_7 n M_2 v0 v1 v1 _ _ h)

def uX10_differ : zMu := (yX10_differ, cX10_differ, 7, (some .int), { frames := 3, cells := 0, slots := 0, locals := 75 }, [])
theorem zd_X10_differ : (uY uX10_differ).cls ≠ "java/lang/invoke/MethodHandle" ∧ (uY uX10_differ).cls ≠ "java/lang/invoke/VarHandle" ∧ (parseMethodDescriptor (uY uX10_differ).desc).map (fun d => d.parameters.length) = some 0 := by decide +kernel
def fX10_differ_255 (k111 : zM → Nat → Int32 → Int32 → Option (Int32 × zM)) (k168 : zM → Nat → Int32 → Int32 → Int32 → Int32 → Int32 → Option (Int32 × zM)) (n : Nat) (M : zM) (v0 : Nat) (v1 : Int32) (v2 : Int32) (v3 : Int32) (v4 : Int32) (v5 : Int32) : Option (Int32 × zM) :=
  app (v5 + (1 : Int32)) fun v5_1 : Int32 =>
  k168 M v0 v1 v2 v3 v4 v5_1
set_option maxHeartbeats 4000000 in
theorem tX10_differ_255 (k111 : zM → Nat → Int32 → Int32 → Option (Int32 × zM)) (h111 : ∀ (M : zM) (v0 : Nat) (v1 : Int32) (v2 : Int32) (r : Int32) (M' : zM), k111 M v0 v1 v2 = some (r, M') → zW uX10_differ none (0, 0) M 111 [(0, .ref v0), (1, .int v1), (2, .int v2)] [] (zE (oI r) M')) (k168 : zM → Nat → Int32 → Int32 → Int32 → Int32 → Int32 → Option (Int32 × zM)) (h168 : ∀ (M : zM) (v0 : Nat) (v1 : Int32) (v2 : Int32) (v3 : Int32) (v4 : Int32) (v5 : Int32) (r : Int32) (M' : zM), k168 M v0 v1 v2 v3 v4 v5 = some (r, M') → zW uX10_differ none (0, 0) M 168 [(0, .ref v0), (1, .int v1), (2, .int v2), (3, .int v3), (4, .int v4), (5, .int v5)] [] (zE (oI r) M')) (n : Nat) (M : zM) (v0 : Nat) (v1 : Int32) (v2 : Int32) (v3 : Int32) (v4 : Int32) (v5 : Int32) (r : Int32) (M' : zM) (h : fX10_differ_255 k111 k168 n M v0 v1 v2 v3 v4 v5 = some (r, M')) : zW uX10_differ none (0, 0) M 255 [(0, .ref v0), (1, .int v1), (2, .int v2), (3, .int v3), (4, .int v4), (5, .int v5)] [] (zE (oI r) M') := by
  unfold fX10_differ_255 at h
  obtain ⟨v5_1, e_2, h⟩ := app_some h
  refine zr_iinc (q := 258) (v := v5_1) (L' := [(5, .int v5_1), (0, .ref v0), (1, .int v1), (2, .int v2), (3, .int v3), (4, .int v4)]) dX10_differ_255 rfl 5 rfl (by rw [← e_2]; rfl) (by decide) rfl ?_
  refine zr_goto (q := 168) dX10_differ_258 (by decide) ?_
  exact zr_pick [1, 2, 3, 4, 5, 0] rfl (h168 M v0 v1 v2 v3 v4 v5_1 _ _ h)
def fX10_differ_168 (k111 : zM → Nat → Int32 → Int32 → Option (Int32 × zM)) : Nat → zM → Nat → Int32 → Int32 → Int32 → Int32 → Int32 → Option (Int32 × zM)
  | 0, _, _, _, _, _, _, _ => none
  | n + 1, M, v0, v1, v2, v3, v4, v5 =>
    if (36 : Int32) ≤ v5 then
      app (v2 + (1 : Int32)) fun v2_2 : Int32 =>
      k111 M v0 v1 v2_2
    else
    chk (mK M v0 == 10) <|
    bnd (mR M v0 31) fun a_5 =>
    chk (mK M a_5 == 11) <|
    chk (zin (((36 : Int32) * v3) + v5) (mN M a_5)) <|
    chk (mK M v0 == 10) <|
    bnd (mR M v0 31) fun a_10 =>
    chk (mK M a_10 == 11) <|
    chk (zin (((10800 : Int32) + ((36 : Int32) * v4)) + v5) (mN M a_10)) <|
    app (((300 : Int32) * (mI M a_5 (Int32.toNatClampNeg (((36 : Int32) * v3) + v5)))) + (mI M a_10 (Int32.toNatClampNeg (((10800 : Int32) + ((36 : Int32) * v4)) + v5)))) fun v6_14 : Int32 =>
    chk (mK M v0 == 10) <|
    bnd (mR M v0 34) fun a_17 =>
    chk (mK M a_17 == 13) <|
    chk (zin v6_14 (mN M a_17)) <|
    if (mI M a_17 (Int32.toNatClampNeg v6_14)) = (0 : Int32) then
      chk (mK M v0 == 10) <|
      bnd (mR M v0 34) fun a_23 =>
      chk (mK M a_23 == 13) <|
      chk (zin v6_14 (mN M a_23)) <|
      app (wI M a_23 (Int32.toNatClampNeg v6_14) (vp_nar .boolean (1 : Int32))) fun M_27 : zM =>
      chk (mK M_27 v0 == 10) <|
      bnd (mR M_27 v0 35) fun a_30 =>
      chk (mK M_27 a_30 == 11) <|
      chk (zin v1 (mN M_27 a_30)) <|
      app (wI M_27 a_30 (Int32.toNatClampNeg v1) v6_14) fun M_34 : zM =>
      chk (mK M_34 v0 == 10) <|
      bnd (mR M_34 v0 36) fun a_37 =>
      chk (mK M_34 a_37 == 11) <|
      chk (zin v1 (mN M_34 a_37)) <|
      app (wI M_34 a_37 (Int32.toNatClampNeg v1) v2) fun M_41 : zM =>
      chk (mK M_41 v0 == 10) <|
      bnd (mR M_41 v0 37) fun a_44 =>
      chk (mK M_41 a_44 == 11) <|
      chk (zin v1 (mN M_41 a_44)) <|
      app (wI M_41 a_44 (Int32.toNatClampNeg v1) v5) fun M_48 : zM =>
      app (v1 + (1 : Int32)) fun v1_50 : Int32 =>
      fX10_differ_255 k111 (fX10_differ_168 k111 n) n M_48 v0 v1_50 v2 v3 v4 v5
    else
    fX10_differ_255 k111 (fX10_differ_168 k111 n) n M v0 v1 v2 v3 v4 v5
set_option maxHeartbeats 4000000 in
theorem tX10_differ_168 (k111 : zM → Nat → Int32 → Int32 → Option (Int32 × zM)) (h111 : ∀ (M : zM) (v0 : Nat) (v1 : Int32) (v2 : Int32) (r : Int32) (M' : zM), k111 M v0 v1 v2 = some (r, M') → zW uX10_differ none (0, 0) M 111 [(0, .ref v0), (1, .int v1), (2, .int v2)] [] (zE (oI r) M')) : ∀ (n : Nat) (M : zM) (v0 : Nat) (v1 : Int32) (v2 : Int32) (v3 : Int32) (v4 : Int32) (v5 : Int32) (r : Int32) (M' : zM), fX10_differ_168 k111 n M v0 v1 v2 v3 v4 v5 = some (r, M') → zW uX10_differ none (0, 0) M 168 [(0, .ref v0), (1, .int v1), (2, .int v2), (3, .int v3), (4, .int v4), (5, .int v5)] [] (zE (oI r) M') := by
  intro n
  induction n with
  | zero => intro M v0 v1 v2 v3 v4 v5 r M' h; cases h
  | succ n ih =>
    intro M v0 v1 v2 v3 v4 v5 r M' h
    rw [fX10_differ_168] at h
    refine zr_iload (q := 170) dX10_differ_168 rfl 5 rfl ?_
    refine zr_bipush (q := 172) (v := 36) dX10_differ_170 rfl (by decide) ?_
    refine zr_icmp_ge (q := 175) (tgt := 261) dX10_differ_172 rfl (by decide) (fun c_1 => ?_) (fun c_1 => ?_)
    · replace h := ite_t c_1 h
      obtain ⟨v2_2, e_3, h⟩ := app_some h
      refine zr_iinc (q := 264) (v := v2_2) (L' := [(2, .int v2_2), (0, .ref v0), (1, .int v1), (3, .int v3), (4, .int v4), (5, .int v5)]) dX10_differ_261 rfl 2 rfl (by rw [← e_3]; rfl) (by decide) rfl ?_
      refine zr_goto (q := 111) dX10_differ_264 (by decide) ?_
      exact zr_pick [1, 2, 0] rfl (h111 M v0 v1 v2_2 _ _ h)
    · replace h := ite_f c_1 h
      refine zr_sipush (q := 178) (v := 300) dX10_differ_175 rfl (by decide) ?_
      refine zr_aload_n (q := 179) dX10_differ_178 rfl rfl 0 rfl ?_
      obtain ⟨c_4, h⟩ := chk_some h
      obtain ⟨a_5, e_6, h⟩ := bnd_some h
      refine zr_getr (q := 182) (ci := 10) (k := 31) dX10_differ_179 rfl (eq_of_beq c_4) rfl (by decide) rfl zbX10 (by decide) zb_518 rfl e_6 ?_
      refine zr_bipush (q := 184) (v := 36) dX10_differ_182 rfl (by decide) ?_
      refine zr_iload_n (q := 185) dX10_differ_184 rfl rfl 3 rfl ?_
      refine zr_imul (q := 186) dX10_differ_185 rfl ?_
      refine zr_iload (q := 188) dX10_differ_186 rfl 5 rfl ?_
      refine zr_iadd (q := 189) dX10_differ_188 rfl ?_
      obtain ⟨c_7, h⟩ := chk_some h
      obtain ⟨c_8, h⟩ := chk_some h
      refine zr_iald (q := 190) dX10_differ_189 rfl (eq_of_beq c_7) c_8 ?_
      refine zr_imul (q := 191) dX10_differ_190 rfl ?_
      refine zr_aload_n (q := 192) dX10_differ_191 rfl rfl 0 rfl ?_
      obtain ⟨c_9, h⟩ := chk_some h
      obtain ⟨a_10, e_11, h⟩ := bnd_some h
      refine zr_getr (q := 195) (ci := 10) (k := 31) dX10_differ_192 rfl (eq_of_beq c_9) rfl (by decide) rfl zbX10 (by decide) zb_518 rfl e_11 ?_
      refine zr_sipush (q := 198) (v := 10800) dX10_differ_195 rfl (by decide) ?_
      refine zr_bipush (q := 200) (v := 36) dX10_differ_198 rfl (by decide) ?_
      refine zr_iload (q := 202) dX10_differ_200 rfl 4 rfl ?_
      refine zr_imul (q := 203) dX10_differ_202 rfl ?_
      refine zr_iadd (q := 204) dX10_differ_203 rfl ?_
      refine zr_iload (q := 206) dX10_differ_204 rfl 5 rfl ?_
      refine zr_iadd (q := 207) dX10_differ_206 rfl ?_
      obtain ⟨c_12, h⟩ := chk_some h
      obtain ⟨c_13, h⟩ := chk_some h
      refine zr_iald (q := 208) dX10_differ_207 rfl (eq_of_beq c_12) c_13 ?_
      refine zr_iadd (q := 209) dX10_differ_208 rfl ?_
      obtain ⟨v6_14, e_15, h⟩ := app_some h
      refine zr_nmI e_15 ?_
      refine zr_istore (q := 211) (L' := [(6, .int v6_14), (0, .ref v0), (1, .int v1), (2, .int v2), (3, .int v3), (4, .int v4), (5, .int v5)]) dX10_differ_209 rfl (by decide) rfl ?_
      refine zr_aload_n (q := 212) dX10_differ_211 rfl rfl 1 rfl ?_
      obtain ⟨c_16, h⟩ := chk_some h
      obtain ⟨a_17, e_18, h⟩ := bnd_some h
      refine zr_getr (q := 215) (ci := 10) (k := 34) dX10_differ_212 rfl (eq_of_beq c_16) rfl (by decide) rfl zbX10 (by decide) zb_535 rfl e_18 ?_
      refine zr_iload (q := 217) dX10_differ_215 rfl 0 rfl ?_
      obtain ⟨c_19, h⟩ := chk_some h
      obtain ⟨c_20, h⟩ := chk_some h
      refine zr_zald (q := 218) dX10_differ_217 rfl (eq_of_beq c_19) c_20 ?_
      refine zr_if_ne (q := 221) (tgt := 255) dX10_differ_218 rfl (by decide) (fun c_21 => ?_) (fun c_21 => ?_)
      · replace h := ite_f c_21 h
        exact zr_pick [1, 2, 3, 4, 5, 6] rfl (tX10_differ_255 k111 h111 (fX10_differ_168 k111 n) ih n M v0 v1 v2 v3 v4 v5 _ _ h)
      · replace h := ite_t c_21 h
        refine zr_aload_n (q := 222) dX10_differ_221 rfl rfl 1 rfl ?_
        obtain ⟨c_22, h⟩ := chk_some h
        obtain ⟨a_23, e_24, h⟩ := bnd_some h
        refine zr_getr (q := 225) (ci := 10) (k := 34) dX10_differ_222 rfl (eq_of_beq c_22) rfl (by decide) rfl zbX10 (by decide) zb_535 rfl e_24 ?_
        refine zr_iload (q := 227) dX10_differ_225 rfl 0 rfl ?_
        refine zr_iconst (q := 228) (v := 1) dX10_differ_227 rfl (by decide) ?_
        obtain ⟨c_25, h⟩ := chk_some h
        obtain ⟨c_26, h⟩ := chk_some h
        obtain ⟨M_27, e_28, h⟩ := app_some h
        refine zr_zast (q := 229) dX10_differ_228 rfl (eq_of_beq c_25) c_26 ?_
        refine zr_mem e_28 ?_
        refine zr_aload_n (q := 230) dX10_differ_229 rfl rfl 1 rfl ?_
        obtain ⟨c_29, h⟩ := chk_some h
        obtain ⟨a_30, e_31, h⟩ := bnd_some h
        refine zr_getr (q := 233) (ci := 10) (k := 35) dX10_differ_230 rfl (eq_of_beq c_29) rfl (by decide) rfl zbX10 (by decide) zb_549 rfl e_31 ?_
        refine zr_iload_n (q := 234) dX10_differ_233 rfl rfl 2 rfl ?_
        refine zr_iload (q := 236) dX10_differ_234 rfl 0 rfl ?_
        obtain ⟨c_32, h⟩ := chk_some h
        obtain ⟨c_33, h⟩ := chk_some h
        obtain ⟨M_34, e_35, h⟩ := app_some h
        refine zr_iast (q := 237) dX10_differ_236 rfl (eq_of_beq c_32) c_33 ?_
        refine zr_mem e_35 ?_
        refine zr_aload_n (q := 238) dX10_differ_237 rfl rfl 1 rfl ?_
        obtain ⟨c_36, h⟩ := chk_some h
        obtain ⟨a_37, e_38, h⟩ := bnd_some h
        refine zr_getr (q := 241) (ci := 10) (k := 36) dX10_differ_238 rfl (eq_of_beq c_36) rfl (by decide) rfl zbX10 (by decide) zb_547 rfl e_38 ?_
        refine zr_iload_n (q := 242) dX10_differ_241 rfl rfl 2 rfl ?_
        refine zr_iload_n (q := 243) dX10_differ_242 rfl rfl 3 rfl ?_
        obtain ⟨c_39, h⟩ := chk_some h
        obtain ⟨c_40, h⟩ := chk_some h
        obtain ⟨M_41, e_42, h⟩ := app_some h
        refine zr_iast (q := 244) dX10_differ_243 rfl (eq_of_beq c_39) c_40 ?_
        refine zr_mem e_42 ?_
        refine zr_aload_n (q := 245) dX10_differ_244 rfl rfl 1 rfl ?_
        obtain ⟨c_43, h⟩ := chk_some h
        obtain ⟨a_44, e_45, h⟩ := bnd_some h
        refine zr_getr (q := 248) (ci := 10) (k := 37) dX10_differ_245 rfl (eq_of_beq c_43) rfl (by decide) rfl zbX10 (by decide) zb_546 rfl e_45 ?_
        refine zr_iload_n (q := 249) dX10_differ_248 rfl rfl 2 rfl ?_
        refine zr_iload (q := 251) dX10_differ_249 rfl 6 rfl ?_
        obtain ⟨c_46, h⟩ := chk_some h
        obtain ⟨c_47, h⟩ := chk_some h
        obtain ⟨M_48, e_49, h⟩ := app_some h
        refine zr_iast (q := 252) dX10_differ_251 rfl (eq_of_beq c_46) c_47 ?_
        refine zr_mem e_49 ?_
        obtain ⟨v1_50, e_51, h⟩ := app_some h
        refine zr_iinc (q := 255) (v := v1_50) (L' := [(1, .int v1_50), (6, .int v6_14), (0, .ref v0), (2, .int v2), (3, .int v3), (4, .int v4), (5, .int v5)]) dX10_differ_252 rfl 2 rfl (by rw [← e_51]; rfl) (by decide) rfl ?_
        exact zr_pick [2, 0, 3, 4, 5, 6] rfl (tX10_differ_255 k111 h111 (fX10_differ_168 k111 n) ih n M_48 v0 v1_50 v2 v3 v4 v5 _ _ h)
def fX10_differ_111 : Nat → zM → Nat → Int32 → Int32 → Option (Int32 × zM)
  | 0, _, _, _, _ => none
  | n + 1, M, v0, v1, v2 =>
    if v1 ≤ v2 then
      some ((-1 : Int32), M)
    else
    chk (mK M v0 == 10) <|
    bnd (mR M v0 35) fun a_3 =>
    chk (mK M a_3 == 11) <|
    chk (zin v2 (mN M a_3)) <|
    app ((mI M a_3 (Int32.toNatClampNeg v2)) / (300 : Int32)) fun v3_7 : Int32 =>
    chk (mK M v0 == 10) <|
    bnd (mR M v0 35) fun a_10 =>
    chk (mK M a_10 == 11) <|
    chk (zin v2 (mN M a_10)) <|
    app ((mI M a_10 (Int32.toNatClampNeg v2)) - (mI M a_10 (Int32.toNatClampNeg v2)) / (300 : Int32) * (300 : Int32)) fun v4_14 : Int32 =>
    chk (mK M v0 == 10) <|
    bnd2 (fX10_isGood n M v0 (0 : Int32) v3_7) fun r_16 M_17 =>
    chk (mK M_17 v0 == 10) <|
    bnd2 (fX10_isGood n M_17 v0 (1 : Int32) v4_14) fun r_20 M_21 =>
    if r_16 = r_20 then
      fX10_differ_168 (fX10_differ_111 n) n M_21 v0 v1 v2 v3_7 v4_14 (0 : Int32)
    else
    chk (mK M_21 v0 == 10) <|
    bnd2 (fX10_spell n M_21 v0 v2) fun r_25 M_26 =>
    chk (mK M_26 v0 == 10) <|
    some ((mI M_26 v0 39), M_26)
set_option maxHeartbeats 4000000 in
theorem tX10_differ_111 : ∀ (n : Nat) (M : zM) (v0 : Nat) (v1 : Int32) (v2 : Int32) (r : Int32) (M' : zM), fX10_differ_111 n M v0 v1 v2 = some (r, M') → zW uX10_differ none (0, 0) M 111 [(0, .ref v0), (1, .int v1), (2, .int v2)] [] (zE (oI r) M') := by
  intro n
  induction n with
  | zero => intro M v0 v1 v2 r M' h; cases h
  | succ n ih =>
    intro M v0 v1 v2 r M' h
    rw [fX10_differ_111] at h
    refine zr_iload_n (q := 112) dX10_differ_111 rfl rfl 2 rfl ?_
    refine zr_iload_n (q := 113) dX10_differ_112 rfl rfl 1 rfl ?_
    refine zr_icmp_ge (q := 116) (tgt := 267) dX10_differ_113 rfl (by decide) (fun c_1 => ?_) (fun c_1 => ?_)
    · replace h := ite_t c_1 h
      refine zr_iconst (q := 268) (v := -1) dX10_differ_267 rfl (by decide) ?_
      cases h
      exact zr_ireturn dX10_differ_268 rfl ⟨by decide, by decide⟩ ⟨rfl, rfl⟩
    · replace h := ite_f c_1 h
      refine zr_aload_n (q := 117) dX10_differ_116 rfl rfl 0 rfl ?_
      obtain ⟨c_2, h⟩ := chk_some h
      obtain ⟨a_3, e_4, h⟩ := bnd_some h
      refine zr_getr (q := 120) (ci := 10) (k := 35) dX10_differ_117 rfl (eq_of_beq c_2) rfl (by decide) rfl zbX10 (by decide) zb_549 rfl e_4 ?_
      refine zr_iload_n (q := 121) dX10_differ_120 rfl rfl 2 rfl ?_
      obtain ⟨c_5, h⟩ := chk_some h
      obtain ⟨c_6, h⟩ := chk_some h
      refine zr_iald (q := 122) dX10_differ_121 rfl (eq_of_beq c_5) c_6 ?_
      refine zr_sipush (q := 125) (v := 300) dX10_differ_122 rfl (by decide) ?_
      refine zr_idiv (q := 126) dX10_differ_125 rfl (by decide) ?_
      obtain ⟨v3_7, e_8, h⟩ := app_some h
      refine zr_nmI e_8 ?_
      refine zr_istore_n (q := 127) (L' := [(3, .int v3_7), (0, .ref v0), (1, .int v1), (2, .int v2)]) dX10_differ_126 rfl rfl (by decide) rfl ?_
      refine zr_aload_n (q := 128) dX10_differ_127 rfl rfl 1 rfl ?_
      obtain ⟨c_9, h⟩ := chk_some h
      obtain ⟨a_10, e_11, h⟩ := bnd_some h
      refine zr_getr (q := 131) (ci := 10) (k := 35) dX10_differ_128 rfl (eq_of_beq c_9) rfl (by decide) rfl zbX10 (by decide) zb_549 rfl e_11 ?_
      refine zr_iload_n (q := 132) dX10_differ_131 rfl rfl 3 rfl ?_
      obtain ⟨c_12, h⟩ := chk_some h
      obtain ⟨c_13, h⟩ := chk_some h
      refine zr_iald (q := 133) dX10_differ_132 rfl (eq_of_beq c_12) c_13 ?_
      refine zr_sipush (q := 136) (v := 300) dX10_differ_133 rfl (by decide) ?_
      refine zr_irem (q := 137) dX10_differ_136 rfl (by decide) ?_
      obtain ⟨v4_14, e_15, h⟩ := app_some h
      refine zr_nmI e_15 ?_
      refine zr_istore (q := 139) (L' := [(4, .int v4_14), (3, .int v3_7), (0, .ref v0), (1, .int v1), (2, .int v2)]) dX10_differ_137 rfl (by decide) rfl ?_
      refine zr_aload_n (q := 140) dX10_differ_139 rfl rfl 2 rfl ?_
      refine zr_iconst (q := 141) (v := 0) dX10_differ_140 rfl (by decide) ?_
      refine zr_iload_n (q := 142) dX10_differ_141 rfl rfl 1 rfl ?_
      obtain ⟨c_19, h⟩ := chk_some h
      obtain ⟨r_16, M_17, hc_18, h⟩ := bnd2_some h
      refine zr_callVI (μ' := uX10_isGood) (q := 145) (n := 2) (ci := 10) (As := [.int (0 : Int32), .int v3_7]) (u' := (0, 0)) (tX10_isGood n M v0 (0 : Int32) v3_7 _ _ hc_18) dX10_differ_142 rfl rfl ⟨zb_531, zb_532, zb_533, zb_534, zb_389⟩ zd_X10_isGood ⟨by decide, by decide⟩ ⟨by decide, by decide⟩ (eq_of_beq c_19) (by decide) rfl rfl rfl (Nat.le_of_ble_eq_true rfl) rfl rfl ?_
      refine zr_aload_n (q := 146) dX10_differ_145 rfl rfl 2 rfl ?_
      refine zr_iconst (q := 147) (v := 1) dX10_differ_146 rfl (by decide) ?_
      refine zr_iload (q := 149) dX10_differ_147 rfl 0 rfl ?_
      obtain ⟨c_23, h⟩ := chk_some h
      obtain ⟨r_20, M_21, hc_22, h⟩ := bnd2_some h
      refine zr_callVI (μ' := uX10_isGood) (q := 152) (n := 2) (ci := 10) (As := [.int (1 : Int32), .int v4_14]) (u' := (0, 0)) (tX10_isGood n M_17 v0 (1 : Int32) v4_14 _ _ hc_22) dX10_differ_149 rfl rfl ⟨zb_531, zb_532, zb_533, zb_534, zb_389⟩ zd_X10_isGood ⟨by decide, by decide⟩ ⟨by decide, by decide⟩ (eq_of_beq c_23) (by decide) rfl rfl rfl (Nat.le_of_ble_eq_true rfl) rfl rfl ?_
      refine zr_icmp_eq (q := 155) (tgt := 165) dX10_differ_152 rfl (by decide) (fun c_24 => ?_) (fun c_24 => ?_)
      · replace h := ite_t c_24 h
        refine zr_iconst (q := 166) (v := 0) dX10_differ_165 rfl (by decide) ?_
        refine zr_istore (q := 168) (L' := [(5, .int (0 : Int32)), (4, .int v4_14), (3, .int v3_7), (0, .ref v0), (1, .int v1), (2, .int v2)]) dX10_differ_166 rfl (by decide) rfl ?_
        exact zr_pick [3, 4, 5, 2, 1, 0] rfl (tX10_differ_168 (fX10_differ_111 n) ih n M_21 v0 v1 v2 v3_7 v4_14 (0 : Int32) _ _ h)
      · replace h := ite_f c_24 h
        refine zr_aload_n (q := 156) dX10_differ_155 rfl rfl 2 rfl ?_
        refine zr_iload_n (q := 157) dX10_differ_156 rfl rfl 4 rfl ?_
        obtain ⟨c_28, h⟩ := chk_some h
        obtain ⟨r_25, M_26, hc_27, h⟩ := bnd2_some h
        refine zr_callVV (μ' := uX10_spell) (q := 160) (n := 1) (ci := 10) (As := [.int v2]) (u' := (0, 0)) (tX10_spell n M_21 v0 v2 _ _ hc_27) dX10_differ_157 rfl rfl ⟨zb_550, zb_551, zb_552, zb_553, zb_389⟩ zd_X10_spell ⟨by decide, by decide⟩ ⟨by decide, by decide⟩ (eq_of_beq c_28) (by decide) rfl rfl rfl (Nat.le_of_ble_eq_true rfl) rfl rfl ?_
        refine zr_aload_n (q := 161) dX10_differ_160 rfl rfl 2 rfl ?_
        obtain ⟨c_29, h⟩ := chk_some h
        refine zr_get (q := 164) (ci := 10) (k := 39) dX10_differ_161 rfl (eq_of_beq c_29) rfl (by decide) rfl zbX10 (by decide) zb_548 rfl ?_
        cases h
        exact zr_ireturn dX10_differ_164 rfl ⟨by decide, by decide⟩ ⟨rfl, rfl⟩
def fX10_differ_74 : Nat → zM → Nat → Int32 → Option (Int32 × zM)
  | 0, _, _, _ => none
  | n + 1, M, v0, v1 =>
    if (90000 : Int32) ≤ v1 then
      chk (mK M v0 == 10) <|
      bnd (mR M v0 35) fun a_3 =>
      chk (mK M a_3 == 11) <|
      chk (zin (0 : Int32) (mN M a_3)) <|
      app (wI M a_3 (Int32.toNatClampNeg (0 : Int32)) (0 : Int32)) fun M_7 : zM =>
      chk (mK M_7 v0 == 10) <|
      bnd (mR M_7 v0 34) fun a_10 =>
      chk (mK M_7 a_10 == 13) <|
      chk (zin (0 : Int32) (mN M_7 a_10)) <|
      app (wI M_7 a_10 (Int32.toNatClampNeg (0 : Int32)) (vp_nar .boolean (1 : Int32))) fun M_14 : zM =>
      fX10_differ_111 n M_14 v0 (1 : Int32) (0 : Int32)
    else
    chk (mK M v0 == 10) <|
    bnd (mR M v0 34) fun a_17 =>
    chk (mK M a_17 == 13) <|
    chk (zin v1 (mN M a_17)) <|
    app (wI M a_17 (Int32.toNatClampNeg v1) (vp_nar .boolean (0 : Int32))) fun M_21 : zM =>
    app (v1 + (1 : Int32)) fun v1_23 : Int32 =>
    (fX10_differ_74 n) M_21 v0 v1_23
set_option maxHeartbeats 4000000 in
theorem tX10_differ_74 : ∀ (n : Nat) (M : zM) (v0 : Nat) (v1 : Int32) (r : Int32) (M' : zM), fX10_differ_74 n M v0 v1 = some (r, M') → zW uX10_differ none (0, 0) M 74 [(0, .ref v0), (1, .int v1)] [] (zE (oI r) M') := by
  intro n
  induction n with
  | zero => intro M v0 v1 r M' h; cases h
  | succ n ih =>
    intro M v0 v1 r M' h
    rw [fX10_differ_74] at h
    refine zr_iload_n (q := 75) dX10_differ_74 rfl rfl 1 rfl ?_
    refine zr_ldc (q := 77) (v := 90000) dX10_differ_75 rfl zb_544 ?_
    refine zr_icmp_ge (q := 80) (tgt := 93) dX10_differ_77 rfl (by decide) (fun c_1 => ?_) (fun c_1 => ?_)
    · replace h := ite_t c_1 h
      refine zr_iconst (q := 94) (v := 1) dX10_differ_93 rfl (by decide) ?_
      refine zr_istore_n (q := 95) (L' := [(1, .int (1 : Int32)), (0, .ref v0)]) dX10_differ_94 rfl rfl (by decide) rfl ?_
      refine zr_aload_n (q := 96) dX10_differ_95 rfl rfl 1 rfl ?_
      obtain ⟨c_2, h⟩ := chk_some h
      obtain ⟨a_3, e_4, h⟩ := bnd_some h
      refine zr_getr (q := 99) (ci := 10) (k := 35) dX10_differ_96 rfl (eq_of_beq c_2) rfl (by decide) rfl zbX10 (by decide) zb_549 rfl e_4 ?_
      refine zr_iconst (q := 100) (v := 0) dX10_differ_99 rfl (by decide) ?_
      refine zr_iconst (q := 101) (v := 0) dX10_differ_100 rfl (by decide) ?_
      obtain ⟨c_5, h⟩ := chk_some h
      obtain ⟨c_6, h⟩ := chk_some h
      obtain ⟨M_7, e_8, h⟩ := app_some h
      refine zr_iast (q := 102) dX10_differ_101 rfl (eq_of_beq c_5) c_6 ?_
      refine zr_mem e_8 ?_
      refine zr_aload_n (q := 103) dX10_differ_102 rfl rfl 1 rfl ?_
      obtain ⟨c_9, h⟩ := chk_some h
      obtain ⟨a_10, e_11, h⟩ := bnd_some h
      refine zr_getr (q := 106) (ci := 10) (k := 34) dX10_differ_103 rfl (eq_of_beq c_9) rfl (by decide) rfl zbX10 (by decide) zb_535 rfl e_11 ?_
      refine zr_iconst (q := 107) (v := 0) dX10_differ_106 rfl (by decide) ?_
      refine zr_iconst (q := 108) (v := 1) dX10_differ_107 rfl (by decide) ?_
      obtain ⟨c_12, h⟩ := chk_some h
      obtain ⟨c_13, h⟩ := chk_some h
      obtain ⟨M_14, e_15, h⟩ := app_some h
      refine zr_zast (q := 109) dX10_differ_108 rfl (eq_of_beq c_12) c_13 ?_
      refine zr_mem e_15 ?_
      refine zr_iconst (q := 110) (v := 0) dX10_differ_109 rfl (by decide) ?_
      refine zr_istore_n (q := 111) (L' := [(2, .int (0 : Int32)), (1, .int (1 : Int32)), (0, .ref v0)]) dX10_differ_110 rfl rfl (by decide) rfl ?_
      exact zr_pick [2, 1, 0] rfl (tX10_differ_111 n M_14 v0 (1 : Int32) (0 : Int32) _ _ h)
    · replace h := ite_f c_1 h
      refine zr_aload_n (q := 81) dX10_differ_80 rfl rfl 0 rfl ?_
      obtain ⟨c_16, h⟩ := chk_some h
      obtain ⟨a_17, e_18, h⟩ := bnd_some h
      refine zr_getr (q := 84) (ci := 10) (k := 34) dX10_differ_81 rfl (eq_of_beq c_16) rfl (by decide) rfl zbX10 (by decide) zb_535 rfl e_18 ?_
      refine zr_iload_n (q := 85) dX10_differ_84 rfl rfl 1 rfl ?_
      refine zr_iconst (q := 86) (v := 0) dX10_differ_85 rfl (by decide) ?_
      obtain ⟨c_19, h⟩ := chk_some h
      obtain ⟨c_20, h⟩ := chk_some h
      obtain ⟨M_21, e_22, h⟩ := app_some h
      refine zr_zast (q := 87) dX10_differ_86 rfl (eq_of_beq c_19) c_20 ?_
      refine zr_mem e_22 ?_
      obtain ⟨v1_23, e_24, h⟩ := app_some h
      refine zr_iinc (q := 90) (v := v1_23) (L' := [(1, .int v1_23), (0, .ref v0)]) dX10_differ_87 rfl 1 rfl (by rw [← e_24]; rfl) (by decide) rfl ?_
      refine zr_goto (q := 74) dX10_differ_90 (by decide) ?_
      exact zr_pick [1, 0] rfl (ih M_21 v0 v1_23 _ _ h)
def fX10_differ_24 (n : Nat) (M : zM) (v0 : Nat) (s0 : Nat) (s1 : Int32) : Option (Int32 × zM) :=
  chk (mK M s0 == 10) <|
  app (wI M s0 0 s1) fun M_2 : zM =>
  chk (mK M_2 v0 == 10) <|
  if (mI M_2 v0 0) ≤ (0 : Int32) then
    chk (mK M_2 v0 == 10) <|
    bnd2 (fX10_build n M_2 v0 (0 : Int32)) fun r_6 M_7 =>
    chk (mK M_7 v0 == 10) <|
    bnd2 (fX10_build n M_7 v0 (1 : Int32)) fun r_10 M_11 =>
    chk (mK M_11 v0 == 10) <|
    app (wI M_11 v0 39 (0 : Int32)) fun M_15 : zM =>
    chk (mK M_15 v0 == 10) <|
    bnd (mR M_15 v0 33) fun a_18 =>
    chk (mK M_15 a_18 == 13) <|
    chk (zin (0 : Int32) (mN M_15 a_18)) <|
    if (mI M_15 a_18 (Int32.toNatClampNeg (0 : Int32))) = (0 : Int32) then
      chk (mK M_15 v0 == 10) <|
      bnd (mR M_15 v0 33) fun a_24 =>
      chk (mK M_15 a_24 == 13) <|
      chk (zin (1 : Int32) (mN M_15 a_24)) <|
      if (mI M_15 a_24 (Int32.toNatClampNeg (1 : Int32))) = (0 : Int32) then
        fX10_differ_74 n M_15 v0 (0 : Int32)
      else
      some ((-2 : Int32), M_15)
    else
    some ((-2 : Int32), M_15)
  else
  some ((0 : Int32), M_2)
set_option maxHeartbeats 4000000 in
theorem tX10_differ_24 (n : Nat) (M : zM) (v0 : Nat) (s0 : Nat) (s1 : Int32) (r : Int32) (M' : zM) (h : fX10_differ_24 n M v0 s0 s1 = some (r, M')) : zW uX10_differ none (0, 0) M 24 [(0, .ref v0)] [.int s1, .ref s0] (zE (oI r) M') := by
  unfold fX10_differ_24 at h
  obtain ⟨c_1, h⟩ := chk_some h
  obtain ⟨M_2, e_3, h⟩ := app_some h
  refine zr_putI (q := 27) (ci := 10) (k := 0) dX10_differ_24 rfl (eq_of_beq c_1) rfl (by decide) rfl zbX10 tyX10_ok nmX10 (by decide) zb_378 (Or.inl rfl) rfl ?_
  refine zr_mem e_3 ?_
  refine zr_aload_n (q := 28) dX10_differ_27 rfl rfl 0 rfl ?_
  obtain ⟨c_4, h⟩ := chk_some h
  refine zr_get (q := 31) (ci := 10) (k := 0) dX10_differ_28 rfl (eq_of_beq c_4) rfl (by decide) rfl zbX10 (by decide) zb_378 rfl ?_
  refine zr_if_le (q := 34) (tgt := 36) dX10_differ_31 rfl (by decide) (fun c_5 => ?_) (fun c_5 => ?_)
  · replace h := ite_t c_5 h
    refine zr_aload_n (q := 37) dX10_differ_36 rfl rfl 0 rfl ?_
    refine zr_iconst (q := 38) (v := 0) dX10_differ_37 rfl (by decide) ?_
    obtain ⟨c_9, h⟩ := chk_some h
    obtain ⟨r_6, M_7, hc_8, h⟩ := bnd2_some h
    refine zr_callVV (μ' := uX10_build) (q := 41) (n := 1) (ci := 10) (As := [.int (0 : Int32)]) (u' := (0, 0)) (tX10_build n M_2 v0 (0 : Int32) _ _ hc_8) dX10_differ_38 rfl rfl ⟨zb_523, zb_524, zb_525, zb_526, zb_389⟩ zd_X10_build ⟨by decide, by decide⟩ ⟨by decide, by decide⟩ (eq_of_beq c_9) (by decide) rfl rfl rfl (Nat.le_of_ble_eq_true rfl) rfl rfl ?_
    refine zr_aload_n (q := 42) dX10_differ_41 rfl rfl 0 rfl ?_
    refine zr_iconst (q := 43) (v := 1) dX10_differ_42 rfl (by decide) ?_
    obtain ⟨c_13, h⟩ := chk_some h
    obtain ⟨r_10, M_11, hc_12, h⟩ := bnd2_some h
    refine zr_callVV (μ' := uX10_build) (q := 46) (n := 1) (ci := 10) (As := [.int (1 : Int32)]) (u' := (0, 0)) (tX10_build n M_7 v0 (1 : Int32) _ _ hc_12) dX10_differ_43 rfl rfl ⟨zb_523, zb_524, zb_525, zb_526, zb_389⟩ zd_X10_build ⟨by decide, by decide⟩ ⟨by decide, by decide⟩ (eq_of_beq c_13) (by decide) rfl rfl rfl (Nat.le_of_ble_eq_true rfl) rfl rfl ?_
    refine zr_aload_n (q := 47) dX10_differ_46 rfl rfl 0 rfl ?_
    refine zr_iconst (q := 48) (v := 0) dX10_differ_47 rfl (by decide) ?_
    obtain ⟨c_14, h⟩ := chk_some h
    obtain ⟨M_15, e_16, h⟩ := app_some h
    refine zr_putI (q := 51) (ci := 10) (k := 39) dX10_differ_48 rfl (eq_of_beq c_14) rfl (by decide) rfl zbX10 tyX10_ok nmX10 (by decide) zb_548 (Or.inl rfl) rfl ?_
    refine zr_mem e_16 ?_
    refine zr_aload_n (q := 52) dX10_differ_51 rfl rfl 0 rfl ?_
    obtain ⟨c_17, h⟩ := chk_some h
    obtain ⟨a_18, e_19, h⟩ := bnd_some h
    refine zr_getr (q := 55) (ci := 10) (k := 33) dX10_differ_52 rfl (eq_of_beq c_17) rfl (by decide) rfl zbX10 (by decide) zb_517 rfl e_19 ?_
    refine zr_iconst (q := 56) (v := 0) dX10_differ_55 rfl (by decide) ?_
    obtain ⟨c_20, h⟩ := chk_some h
    obtain ⟨c_21, h⟩ := chk_some h
    refine zr_zald (q := 57) dX10_differ_56 rfl (eq_of_beq c_20) c_21 ?_
    refine zr_if_ne (q := 60) (tgt := 69) dX10_differ_57 rfl (by decide) (fun c_22 => ?_) (fun c_22 => ?_)
    · replace h := ite_f c_22 h
      refine zr_bipush (q := 71) (v := -2) dX10_differ_69 rfl (by decide) ?_
      cases h
      exact zr_ireturn dX10_differ_71 rfl ⟨by decide, by decide⟩ ⟨rfl, rfl⟩
    · replace h := ite_t c_22 h
      refine zr_aload_n (q := 61) dX10_differ_60 rfl rfl 0 rfl ?_
      obtain ⟨c_23, h⟩ := chk_some h
      obtain ⟨a_24, e_25, h⟩ := bnd_some h
      refine zr_getr (q := 64) (ci := 10) (k := 33) dX10_differ_61 rfl (eq_of_beq c_23) rfl (by decide) rfl zbX10 (by decide) zb_517 rfl e_25 ?_
      refine zr_iconst (q := 65) (v := 1) dX10_differ_64 rfl (by decide) ?_
      obtain ⟨c_26, h⟩ := chk_some h
      obtain ⟨c_27, h⟩ := chk_some h
      refine zr_zald (q := 66) dX10_differ_65 rfl (eq_of_beq c_26) c_27 ?_
      refine zr_if_eq (q := 69) (tgt := 72) dX10_differ_66 rfl (by decide) (fun c_28 => ?_) (fun c_28 => ?_)
      · replace h := ite_t c_28 h
        refine zr_iconst (q := 73) (v := 0) dX10_differ_72 rfl (by decide) ?_
        refine zr_istore_n (q := 74) (L' := [(1, .int (0 : Int32)), (0, .ref v0)]) dX10_differ_73 rfl rfl (by decide) rfl ?_
        exact zr_pick [1, 0] rfl (tX10_differ_74 n M_15 v0 (0 : Int32) _ _ h)
      · replace h := ite_f c_28 h
        refine zr_bipush (q := 71) (v := -2) dX10_differ_69 rfl (by decide) ?_
        cases h
        exact zr_ireturn dX10_differ_71 rfl ⟨by decide, by decide⟩ ⟨rfl, rfl⟩
  · replace h := ite_f c_5 h
    refine zr_iconst (q := 35) (v := 0) dX10_differ_34 rfl (by decide) ?_
    cases h
    exact zr_ireturn dX10_differ_35 rfl ⟨by decide, by decide⟩ ⟨rfl, rfl⟩
def fX10_differ_23 (n : Nat) (M : zM) (v0 : Nat) (s0 : Nat) : Option (Int32 × zM) :=
  fX10_differ_24 n M v0 s0 (1 : Int32)
set_option maxHeartbeats 4000000 in
theorem tX10_differ_23 (n : Nat) (M : zM) (v0 : Nat) (s0 : Nat) (r : Int32) (M' : zM) (h : fX10_differ_23 n M v0 s0 = some (r, M')) : zW uX10_differ none (0, 0) M 23 [(0, .ref v0)] [.ref s0] (zE (oI r) M') := by
  unfold fX10_differ_23 at h
  refine zr_iconst (q := 24) (v := 1) dX10_differ_23 rfl (by decide) ?_
  exact zr_pick [0] rfl (tX10_differ_24 n M v0 s0 (1 : Int32) _ _ h)
def fX10_differ (n : Nat) (M : zM) (v0 : Nat) : Option (Int32 × zM) :=
  chk (mK M v0 == 10) <|
  bnd (mR M v0 6) fun a_2 =>
  chk (mK M a_2 == 13) <|
  chk (zin (0 : Int32) (mN M a_2)) <|
  if (mI M a_2 (Int32.toNatClampNeg (0 : Int32))) = (0 : Int32) then
    fX10_differ_23 n M v0 v0
  else
  chk (mK M v0 == 10) <|
  bnd (mR M v0 6) fun a_8 =>
  chk (mK M a_8 == 13) <|
  chk (zin (1 : Int32) (mN M a_8)) <|
  if (mI M a_8 (Int32.toNatClampNeg (1 : Int32))) = (0 : Int32) then
    fX10_differ_23 n M v0 v0
  else
  fX10_differ_24 n M v0 v0 (0 : Int32)
set_option maxHeartbeats 4000000 in
theorem tX10_differ (n : Nat) (M : zM) (v0 : Nat) (r : Int32) (M' : zM) (h : fX10_differ n M v0 = some (r, M')) : zMet uX10_differ false M [.ref v0] (zE (oI r) M') := by
  refine zMet_of (L := [(0, .ref v0)]) (by decide +kernel) rfl rfl (Nat.le_of_ble_eq_true rfl) ?_
  show zW uX10_differ none (0, 0) M 0 [(0, .ref v0)] [] (zE (oI r) M')
  unfold fX10_differ at h
  refine zr_aload_n (q := 1) dX10_differ_0 rfl rfl 0 rfl ?_
  refine zr_aload_n (q := 2) dX10_differ_1 rfl rfl 0 rfl ?_
  obtain ⟨c_1, h⟩ := chk_some h
  obtain ⟨a_2, e_3, h⟩ := bnd_some h
  refine zr_getr (q := 5) (ci := 10) (k := 6) dX10_differ_2 rfl (eq_of_beq c_1) rfl (by decide) rfl zbX10 (by decide) zb_477 rfl e_3 ?_
  refine zr_iconst (q := 6) (v := 0) dX10_differ_5 rfl (by decide) ?_
  obtain ⟨c_4, h⟩ := chk_some h
  obtain ⟨c_5, h⟩ := chk_some h
  refine zr_zald (q := 7) dX10_differ_6 rfl (eq_of_beq c_4) c_5 ?_
  refine zr_if_eq (q := 10) (tgt := 23) dX10_differ_7 rfl (by decide) (fun c_6 => ?_) (fun c_6 => ?_)
  · replace h := ite_t c_6 h
    exact zr_pick [0] rfl (tX10_differ_23 n M v0 v0 _ _ h)
  · replace h := ite_f c_6 h
    refine zr_aload_n (q := 11) dX10_differ_10 rfl rfl 0 rfl ?_
    obtain ⟨c_7, h⟩ := chk_some h
    obtain ⟨a_8, e_9, h⟩ := bnd_some h
    refine zr_getr (q := 14) (ci := 10) (k := 6) dX10_differ_11 rfl (eq_of_beq c_7) rfl (by decide) rfl zbX10 (by decide) zb_477 rfl e_9 ?_
    refine zr_iconst (q := 15) (v := 1) dX10_differ_14 rfl (by decide) ?_
    obtain ⟨c_10, h⟩ := chk_some h
    obtain ⟨c_11, h⟩ := chk_some h
    refine zr_zald (q := 16) dX10_differ_15 rfl (eq_of_beq c_10) c_11 ?_
    refine zr_if_eq (q := 19) (tgt := 23) dX10_differ_16 rfl (by decide) (fun c_12 => ?_) (fun c_12 => ?_)
    · replace h := ite_t c_12 h
      exact zr_pick [0] rfl (tX10_differ_23 n M v0 v0 _ _ h)
    · replace h := ite_f c_12 h
      refine zr_iconst (q := 20) (v := 0) dX10_differ_19 rfl (by decide) ?_
      refine zr_goto (q := 24) dX10_differ_20 (by decide) ?_
      exact zr_pick [0] rfl (tX10_differ_24 n M v0 v0 (0 : Int32) _ _ h)

def uX10_letter : zMu := (yX10_letter, cX10_letter, 2, (some .int), { frames := 0, cells := 0, slots := 0, locals := 0 }, [])
theorem zd_X10_letter : (uY uX10_letter).cls ≠ "java/lang/invoke/MethodHandle" ∧ (uY uX10_letter).cls ≠ "java/lang/invoke/VarHandle" ∧ (parseMethodDescriptor (uY uX10_letter).desc).map (fun d => d.parameters.length) = some 1 := by decide +kernel
def fX10_letter_18 (n : Nat) (M : zM) (v0 : Nat) (v1 : Int32) (s0 : Nat) (s1 : Int32) : Option (Int32 × zM) :=
  chk (mK M s0 == 10) <|
  app (wI M s0 0 s1) fun M_2 : zM =>
  chk (mK M_2 v0 == 10) <|
  if (mI M_2 v0 0) ≤ (0 : Int32) then
    chk (mK M_2 v0 == 10) <|
    bnd (mR M_2 v0 38) fun a_7 =>
    chk (mK M_2 a_7 == 11) <|
    chk (zin v1 (mN M_2 a_7)) <|
    some ((mI M_2 a_7 (Int32.toNatClampNeg v1)), M_2)
  else
  some ((0 : Int32), M_2)
set_option maxHeartbeats 4000000 in
theorem tX10_letter_18 (n : Nat) (M : zM) (v0 : Nat) (v1 : Int32) (s0 : Nat) (s1 : Int32) (r : Int32) (M' : zM) (h : fX10_letter_18 n M v0 v1 s0 s1 = some (r, M')) : zW uX10_letter none (0, 0) M 18 [(0, .ref v0), (1, .int v1)] [.int s1, .ref s0] (zE (oI r) M') := by
  unfold fX10_letter_18 at h
  obtain ⟨c_1, h⟩ := chk_some h
  obtain ⟨M_2, e_3, h⟩ := app_some h
  refine zr_putI (q := 21) (ci := 10) (k := 0) dX10_letter_18 rfl (eq_of_beq c_1) rfl (by decide) rfl zbX10 tyX10_ok nmX10 (by decide) zb_378 (Or.inl rfl) rfl ?_
  refine zr_mem e_3 ?_
  refine zr_aload_n (q := 22) dX10_letter_21 rfl rfl 0 rfl ?_
  obtain ⟨c_4, h⟩ := chk_some h
  refine zr_get (q := 25) (ci := 10) (k := 0) dX10_letter_22 rfl (eq_of_beq c_4) rfl (by decide) rfl zbX10 (by decide) zb_378 rfl ?_
  refine zr_if_le (q := 28) (tgt := 32) dX10_letter_25 rfl (by decide) (fun c_5 => ?_) (fun c_5 => ?_)
  · replace h := ite_t c_5 h
    refine zr_aload_n (q := 33) dX10_letter_32 rfl rfl 0 rfl ?_
    obtain ⟨c_6, h⟩ := chk_some h
    obtain ⟨a_7, e_8, h⟩ := bnd_some h
    refine zr_getr (q := 36) (ci := 10) (k := 38) dX10_letter_33 rfl (eq_of_beq c_6) rfl (by decide) rfl zbX10 (by decide) zb_545 rfl e_8 ?_
    refine zr_iload_n (q := 37) dX10_letter_36 rfl rfl 1 rfl ?_
    obtain ⟨c_9, h⟩ := chk_some h
    obtain ⟨c_10, h⟩ := chk_some h
    refine zr_iald (q := 38) dX10_letter_37 rfl (eq_of_beq c_9) c_10 ?_
    cases h
    exact zr_ireturn dX10_letter_38 rfl ⟨by decide, by decide⟩ ⟨rfl, rfl⟩
  · replace h := ite_f c_5 h
    refine zr_iconst (q := 29) (v := 0) dX10_letter_28 rfl (by decide) ?_
    refine zr_goto (q := 38) dX10_letter_29 (by decide) ?_
    cases h
    exact zr_ireturn dX10_letter_38 rfl ⟨by decide, by decide⟩ ⟨rfl, rfl⟩
def fX10_letter_13 (n : Nat) (M : zM) (v0 : Nat) (v1 : Int32) (s0 : Nat) : Option (Int32 × zM) :=
  fX10_letter_18 n M v0 v1 s0 (1 : Int32)
set_option maxHeartbeats 4000000 in
theorem tX10_letter_13 (n : Nat) (M : zM) (v0 : Nat) (v1 : Int32) (s0 : Nat) (r : Int32) (M' : zM) (h : fX10_letter_13 n M v0 v1 s0 = some (r, M')) : zW uX10_letter none (0, 0) M 13 [(0, .ref v0), (1, .int v1)] [.ref s0] (zE (oI r) M') := by
  unfold fX10_letter_13 at h
  refine zr_iconst (q := 14) (v := 1) dX10_letter_13 rfl (by decide) ?_
  refine zr_goto (q := 18) dX10_letter_14 (by decide) ?_
  exact zr_pick [0, 1] rfl (tX10_letter_18 n M v0 v1 s0 (1 : Int32) _ _ h)
def fX10_letter (n : Nat) (M : zM) (v0 : Nat) (v1 : Int32) : Option (Int32 × zM) :=
  if v1 < (0 : Int32) then
    fX10_letter_13 n M v0 v1 v0
  else
  chk (mK M v0 == 10) <|
  if v1 < (mI M v0 39) then
    fX10_letter_18 n M v0 v1 v0 (0 : Int32)
  else
  fX10_letter_13 n M v0 v1 v0
set_option maxHeartbeats 4000000 in
theorem tX10_letter (n : Nat) (M : zM) (v0 : Nat) (v1 : Int32) (r : Int32) (M' : zM) (h : fX10_letter n M v0 v1 = some (r, M')) : zMet uX10_letter false M [.ref v0, .int v1] (zE (oI r) M') := by
  refine zMet_of (L := [(0, .ref v0), (1, .int v1)]) (by decide +kernel) rfl rfl (Nat.le_of_ble_eq_true rfl) ?_
  show zW uX10_letter none (0, 0) M 0 [(0, .ref v0), (1, .int v1)] [] (zE (oI r) M')
  unfold fX10_letter at h
  refine zr_aload_n (q := 1) dX10_letter_0 rfl rfl 0 rfl ?_
  refine zr_iload_n (q := 2) dX10_letter_1 rfl rfl 1 rfl ?_
  refine zr_if_lt (q := 5) (tgt := 13) dX10_letter_2 rfl (by decide) (fun c_1 => ?_) (fun c_1 => ?_)
  · replace h := ite_t c_1 h
    exact zr_pick [0, 1] rfl (tX10_letter_13 n M v0 v1 v0 _ _ h)
  · replace h := ite_f c_1 h
    refine zr_iload_n (q := 6) dX10_letter_5 rfl rfl 1 rfl ?_
    refine zr_aload_n (q := 7) dX10_letter_6 rfl rfl 0 rfl ?_
    obtain ⟨c_2, h⟩ := chk_some h
    refine zr_get (q := 10) (ci := 10) (k := 39) dX10_letter_7 rfl (eq_of_beq c_2) rfl (by decide) rfl zbX10 (by decide) zb_548 rfl ?_
    refine zr_icmp_lt (q := 13) (tgt := 17) dX10_letter_10 rfl (by decide) (fun c_3 => ?_) (fun c_3 => ?_)
    · replace h := ite_t c_3 h
      refine zr_iconst (q := 18) (v := 0) dX10_letter_17 rfl (by decide) ?_
      exact zr_pick [0, 1] rfl (tX10_letter_18 n M v0 v1 v0 (0 : Int32) _ _ h)
    · replace h := ite_f c_3 h
      exact zr_pick [0, 1] rfl (tX10_letter_13 n M v0 v1 v0 _ _ h)
