/-! constructors, by program: wip/inits.py -/
def uX5_init : zMu := (yX5_init, cX5_init, 1, none, { frames := 1, cells := 0, slots := 0, locals := 16 }, [])
theorem zd_X5_init : (uY uX5_init).cls ≠ "java/lang/invoke/MethodHandle" ∧ (uY uX5_init).cls ≠ "java/lang/invoke/VarHandle" ∧ (parseMethodDescriptor (uY uX5_init).desc).map (fun d => d.parameters.length) = some 0 := by decide +kernel
def fX5_init (n : Nat) (M : zM) (v0 : Nat) : Option (Unit × zM) :=
  some ((), M)
set_option maxHeartbeats 4000000 in
set_option maxRecDepth 100000 in
theorem tX5_init (n : Nat) (M : zM) (v0 : Nat) (M' : zM) (h : fX5_init n M v0 = some ((), M')) : zMet uX5_init true M [.ref v0] (zE (oV ()) M') := by
  refine zMet_of (L := [(0, .ref v0)]) (by decide +kernel) rfl rfl (Nat.le_of_ble_eq_true rfl) ?_
  show zW uX5_init (some M.1.length) (0, 0) M 0 [(0, .ref v0)] [] (zE (oV ()) M')
  have hl0 : M.1.length = M.1.length + 0 := rfl
  unfold fX5_init at h
  refine zr_aload_n (q := 1) dX5_init_0 rfl rfl 0 rfl ?_
  refine zr_objInit (q := 4) dX5_init_1 rfl ⟨zb_554, zb_555, zb_556⟩ ⟨by decide, Nat.le_of_ble_eq_true rfl⟩ ?_
  cases h
  exact zr_return dX5_init_4 rfl ⟨by decide, by decide⟩ ⟨rfl, rfl⟩
set_option maxHeartbeats 4000000 in
set_option maxRecDepth 100000 in
theorem lenX5_init (n : Nat) (M : zM) (v0 : Nat) (M' : zM) (h : fX5_init n M v0 = some ((), M')) : M'.1.length = M.1.length + 0 := by
  have hl0 : M.1.length = M.1.length + 0 := rfl
  unfold fX5_init at h

  cases h
  exact hl0

def uX0_init : zMu := (yX0_init, cX0_init, 1, none, { frames := 1, cells := 2, slots := 11100, locals := 16 }, [])
theorem zd_X0_init : (uY uX0_init).cls ≠ "java/lang/invoke/MethodHandle" ∧ (uY uX0_init).cls ≠ "java/lang/invoke/VarHandle" ∧ (parseMethodDescriptor (uY uX0_init).desc).map (fun d => d.parameters.length) = some 0 := by decide +kernel
def fX0_init (n : Nat) (M : zM) (v0 : Nat) : Option (Unit × zM) :=
  app (mNew M 13 300) fun M_1 : zM =>
  app M.1.length fun a_3 : Nat =>
  chk (mK M_1 v0 == 0) <|
  app (wR M_1 v0 4 (some a_3)) fun M_7 : zM =>
  app (mNew M_7 11 10800) fun M_10 : zM =>
  app M_7.1.length fun a_12 : Nat =>
  chk (mK M_10 v0 == 0) <|
  app (wR M_10 v0 5 (some a_12)) fun M_16 : zM =>
  some ((), M_16)
set_option maxHeartbeats 4000000 in
set_option maxRecDepth 100000 in
theorem tX0_init (n : Nat) (M : zM) (v0 : Nat) (M' : zM) (h : fX0_init n M v0 = some ((), M')) : zMet uX0_init true M [.ref v0] (zE (oV ()) M') := by
  refine zMet_of (L := [(0, .ref v0)]) (by decide +kernel) rfl rfl (Nat.le_of_ble_eq_true rfl) ?_
  show zW uX0_init (some M.1.length) (0, 0) M 0 [(0, .ref v0)] [] (zE (oV ()) M')
  have hl0 : M.1.length = M.1.length + 0 := rfl
  unfold fX0_init at h
  refine zr_aload_n (q := 1) dX0_init_0 rfl rfl 0 rfl ?_
  refine zr_objInit (q := 4) dX0_init_1 rfl ⟨zb_557, zb_555, zb_556⟩ ⟨by decide, Nat.le_of_ble_eq_true rfl⟩ ?_
  refine zr_aload_n (q := 5) dX0_init_4 rfl rfl 0 rfl ?_
  refine zr_sipush (q := 8) (v := 300) dX0_init_5 rfl (by decide) ?_
  obtain ⟨M_1, e_2, h⟩ := app_some h
  obtain ⟨a_3, e_4, h⟩ := app_some h
  refine zr_newZ (q := 10) (N := 300) (u' := (1, 300)) rfl hl0 dX0_init_8 rfl zb_558 (by decide) (by decide) (by decide) ⟨by decide, by decide⟩ rfl ?_
  refine zr_mem e_2 ?_
  have hl_5 : M_1.1.length = M.1.length + 1 := by rw [← e_2, mNew_len, hl0]
  refine zr_nmA e_4 ?_
  obtain ⟨c_6, h⟩ := chk_some h
  obtain ⟨M_7, e_8, h⟩ := app_some h
  refine zr_putR (q := 13) (ci := 0) (k := 4) dX0_init_10 rfl (eq_of_beq c_6) rfl (by decide) rfl zbX0 tyX0_ok nmX0 (by decide) zb_39 (Or.inr ⟨rfl, rfl, rfl⟩) rfl ?_
  refine zr_mem e_8 ?_
  have hl_9 : M_7.1.length = M.1.length + 1 := by rw [← e_8]; exact hl_5
  refine zr_aload_n (q := 14) dX0_init_13 rfl rfl 0 rfl ?_
  refine zr_sipush (q := 17) (v := 10800) dX0_init_14 rfl (by decide) ?_
  obtain ⟨M_10, e_11, h⟩ := app_some h
  obtain ⟨a_12, e_13, h⟩ := app_some h
  refine zr_newI (q := 19) (N := 10800) (u' := (2, 11100)) rfl hl_9 dX0_init_17 rfl zb_559 (by decide) (by decide) (by decide) ⟨by decide, by decide⟩ rfl ?_
  refine zr_mem e_11 ?_
  have hl_14 : M_10.1.length = M.1.length + 2 := by rw [← e_11, mNew_len, hl_9]
  refine zr_nmA e_13 ?_
  obtain ⟨c_15, h⟩ := chk_some h
  obtain ⟨M_16, e_17, h⟩ := app_some h
  refine zr_putR (q := 22) (ci := 0) (k := 5) dX0_init_19 rfl (eq_of_beq c_15) rfl (by decide) rfl zbX0 tyX0_ok nmX0 (by decide) zb_0 (Or.inr ⟨rfl, rfl, rfl⟩) rfl ?_
  refine zr_mem e_17 ?_
  have hl_18 : M_16.1.length = M.1.length + 2 := by rw [← e_17]; exact hl_14
  cases h
  exact zr_return dX0_init_22 rfl ⟨by decide, by decide⟩ ⟨rfl, rfl⟩
set_option maxHeartbeats 4000000 in
set_option maxRecDepth 100000 in
theorem lenX0_init (n : Nat) (M : zM) (v0 : Nat) (M' : zM) (h : fX0_init n M v0 = some ((), M')) : M'.1.length = M.1.length + 2 := by
  have hl0 : M.1.length = M.1.length + 0 := rfl
  unfold fX0_init at h
  obtain ⟨M_1, e_2, h⟩ := app_some h
  obtain ⟨a_3, e_4, h⟩ := app_some h
  have hl_5 : M_1.1.length = M.1.length + 1 := by rw [← e_2, mNew_len, hl0]
  obtain ⟨c_6, h⟩ := chk_some h
  obtain ⟨M_7, e_8, h⟩ := app_some h
  have hl_9 : M_7.1.length = M.1.length + 1 := by rw [← e_8]; exact hl_5
  obtain ⟨M_10, e_11, h⟩ := app_some h
  obtain ⟨a_12, e_13, h⟩ := app_some h
  have hl_14 : M_10.1.length = M.1.length + 2 := by rw [← e_11, mNew_len, hl_9]
  obtain ⟨c_15, h⟩ := chk_some h
  obtain ⟨M_16, e_17, h⟩ := app_some h
  have hl_18 : M_16.1.length = M.1.length + 2 := by rw [← e_17]; exact hl_14
  cases h
  exact hl_18

def uX7_init : zMu := (yX7_init, cX7_init, 1, none, { frames := 1, cells := 3, slots := 1624, locals := 16 }, [])
theorem zd_X7_init : (uY uX7_init).cls ≠ "java/lang/invoke/MethodHandle" ∧ (uY uX7_init).cls ≠ "java/lang/invoke/VarHandle" ∧ (parseMethodDescriptor (uY uX7_init).desc).map (fun d => d.parameters.length) = some 0 := by decide +kernel
def fX7_init (n : Nat) (M : zM) (v0 : Nat) : Option (Unit × zM) :=
  app (mNew M 12 300) fun M_1 : zM =>
  app M.1.length fun a_3 : Nat =>
  chk (mK M_1 v0 == 7) <|
  app (wR M_1 v0 1 (some a_3)) fun M_7 : zM =>
  app (mNew M_7 11 300) fun M_10 : zM =>
  app M_7.1.length fun a_12 : Nat =>
  chk (mK M_10 v0 == 7) <|
  app (wR M_10 v0 2 (some a_12)) fun M_16 : zM =>
  app (mNew M_16 11 1024) fun M_19 : zM =>
  app M_16.1.length fun a_21 : Nat =>
  chk (mK M_19 v0 == 7) <|
  app (wR M_19 v0 3 (some a_21)) fun M_25 : zM =>
  some ((), M_25)
set_option maxHeartbeats 4000000 in
set_option maxRecDepth 100000 in
theorem tX7_init (n : Nat) (M : zM) (v0 : Nat) (M' : zM) (h : fX7_init n M v0 = some ((), M')) : zMet uX7_init true M [.ref v0] (zE (oV ()) M') := by
  refine zMet_of (L := [(0, .ref v0)]) (by decide +kernel) rfl rfl (Nat.le_of_ble_eq_true rfl) ?_
  show zW uX7_init (some M.1.length) (0, 0) M 0 [(0, .ref v0)] [] (zE (oV ()) M')
  have hl0 : M.1.length = M.1.length + 0 := rfl
  unfold fX7_init at h
  refine zr_aload_n (q := 1) dX7_init_0 rfl rfl 0 rfl ?_
  refine zr_objInit (q := 4) dX7_init_1 rfl ⟨zb_560, zb_555, zb_556⟩ ⟨by decide, Nat.le_of_ble_eq_true rfl⟩ ?_
  refine zr_aload_n (q := 5) dX7_init_4 rfl rfl 0 rfl ?_
  refine zr_sipush (q := 8) (v := 300) dX7_init_5 rfl (by decide) ?_
  obtain ⟨M_1, e_2, h⟩ := app_some h
  obtain ⟨a_3, e_4, h⟩ := app_some h
  refine zr_newL (q := 10) (N := 300) (u' := (1, 300)) rfl hl0 dX7_init_8 rfl zb_561 (by decide) (by decide) (by decide) ⟨by decide, by decide⟩ rfl ?_
  refine zr_mem e_2 ?_
  have hl_5 : M_1.1.length = M.1.length + 1 := by rw [← e_2, mNew_len, hl0]
  refine zr_nmA e_4 ?_
  obtain ⟨c_6, h⟩ := chk_some h
  obtain ⟨M_7, e_8, h⟩ := app_some h
  refine zr_putR (q := 13) (ci := 7) (k := 1) dX7_init_10 rfl (eq_of_beq c_6) rfl (by decide) rfl zbX7 tyX7_ok nmX7 (by decide) zb_5 (Or.inr ⟨rfl, rfl, rfl⟩) rfl ?_
  refine zr_mem e_8 ?_
  have hl_9 : M_7.1.length = M.1.length + 1 := by rw [← e_8]; exact hl_5
  refine zr_aload_n (q := 14) dX7_init_13 rfl rfl 0 rfl ?_
  refine zr_sipush (q := 17) (v := 300) dX7_init_14 rfl (by decide) ?_
  obtain ⟨M_10, e_11, h⟩ := app_some h
  obtain ⟨a_12, e_13, h⟩ := app_some h
  refine zr_newI (q := 19) (N := 300) (u' := (2, 600)) rfl hl_9 dX7_init_17 rfl zb_559 (by decide) (by decide) (by decide) ⟨by decide, by decide⟩ rfl ?_
  refine zr_mem e_11 ?_
  have hl_14 : M_10.1.length = M.1.length + 2 := by rw [← e_11, mNew_len, hl_9]
  refine zr_nmA e_13 ?_
  obtain ⟨c_15, h⟩ := chk_some h
  obtain ⟨M_16, e_17, h⟩ := app_some h
  refine zr_putR (q := 22) (ci := 7) (k := 2) dX7_init_19 rfl (eq_of_beq c_15) rfl (by decide) rfl zbX7 tyX7_ok nmX7 (by decide) zb_3 (Or.inr ⟨rfl, rfl, rfl⟩) rfl ?_
  refine zr_mem e_17 ?_
  have hl_18 : M_16.1.length = M.1.length + 2 := by rw [← e_17]; exact hl_14
  refine zr_aload_n (q := 23) dX7_init_22 rfl rfl 0 rfl ?_
  refine zr_sipush (q := 26) (v := 1024) dX7_init_23 rfl (by decide) ?_
  obtain ⟨M_19, e_20, h⟩ := app_some h
  obtain ⟨a_21, e_22, h⟩ := app_some h
  refine zr_newI (q := 28) (N := 1024) (u' := (3, 1624)) rfl hl_18 dX7_init_26 rfl zb_559 (by decide) (by decide) (by decide) ⟨by decide, by decide⟩ rfl ?_
  refine zr_mem e_20 ?_
  have hl_23 : M_19.1.length = M.1.length + 3 := by rw [← e_20, mNew_len, hl_18]
  refine zr_nmA e_22 ?_
  obtain ⟨c_24, h⟩ := chk_some h
  obtain ⟨M_25, e_26, h⟩ := app_some h
  refine zr_putR (q := 31) (ci := 7) (k := 3) dX7_init_28 rfl (eq_of_beq c_24) rfl (by decide) rfl zbX7 tyX7_ok nmX7 (by decide) zb_2 (Or.inr ⟨rfl, rfl, rfl⟩) rfl ?_
  refine zr_mem e_26 ?_
  have hl_27 : M_25.1.length = M.1.length + 3 := by rw [← e_26]; exact hl_23
  cases h
  exact zr_return dX7_init_31 rfl ⟨by decide, by decide⟩ ⟨rfl, rfl⟩
set_option maxHeartbeats 4000000 in
set_option maxRecDepth 100000 in
theorem lenX7_init (n : Nat) (M : zM) (v0 : Nat) (M' : zM) (h : fX7_init n M v0 = some ((), M')) : M'.1.length = M.1.length + 3 := by
  have hl0 : M.1.length = M.1.length + 0 := rfl
  unfold fX7_init at h
  obtain ⟨M_1, e_2, h⟩ := app_some h
  obtain ⟨a_3, e_4, h⟩ := app_some h
  have hl_5 : M_1.1.length = M.1.length + 1 := by rw [← e_2, mNew_len, hl0]
  obtain ⟨c_6, h⟩ := chk_some h
  obtain ⟨M_7, e_8, h⟩ := app_some h
  have hl_9 : M_7.1.length = M.1.length + 1 := by rw [← e_8]; exact hl_5
  obtain ⟨M_10, e_11, h⟩ := app_some h
  obtain ⟨a_12, e_13, h⟩ := app_some h
  have hl_14 : M_10.1.length = M.1.length + 2 := by rw [← e_11, mNew_len, hl_9]
  obtain ⟨c_15, h⟩ := chk_some h
  obtain ⟨M_16, e_17, h⟩ := app_some h
  have hl_18 : M_16.1.length = M.1.length + 2 := by rw [← e_17]; exact hl_14
  obtain ⟨M_19, e_20, h⟩ := app_some h
  obtain ⟨a_21, e_22, h⟩ := app_some h
  have hl_23 : M_19.1.length = M.1.length + 3 := by rw [← e_20, mNew_len, hl_18]
  obtain ⟨c_24, h⟩ := chk_some h
  obtain ⟨M_25, e_26, h⟩ := app_some h
  have hl_27 : M_25.1.length = M.1.length + 3 := by rw [← e_26]; exact hl_23
  cases h
  exact hl_27

def uX2_init : zMu := (yX2_init, cX2_init, 1, none, { frames := 1, cells := 2, slots := 600, locals := 16 }, [])
theorem zd_X2_init : (uY uX2_init).cls ≠ "java/lang/invoke/MethodHandle" ∧ (uY uX2_init).cls ≠ "java/lang/invoke/VarHandle" ∧ (parseMethodDescriptor (uY uX2_init).desc).map (fun d => d.parameters.length) = some 0 := by decide +kernel
def fX2_init (n : Nat) (M : zM) (v0 : Nat) : Option (Unit × zM) :=
  app (mNew M 11 300) fun M_1 : zM =>
  app M.1.length fun a_3 : Nat =>
  chk (mK M_1 v0 == 2) <|
  app (wR M_1 v0 0 (some a_3)) fun M_7 : zM =>
  app (mNew M_7 11 300) fun M_10 : zM =>
  app M_7.1.length fun a_12 : Nat =>
  chk (mK M_10 v0 == 2) <|
  app (wR M_10 v0 1 (some a_12)) fun M_16 : zM =>
  some ((), M_16)
set_option maxHeartbeats 4000000 in
set_option maxRecDepth 100000 in
theorem tX2_init (n : Nat) (M : zM) (v0 : Nat) (M' : zM) (h : fX2_init n M v0 = some ((), M')) : zMet uX2_init true M [.ref v0] (zE (oV ()) M') := by
  refine zMet_of (L := [(0, .ref v0)]) (by decide +kernel) rfl rfl (Nat.le_of_ble_eq_true rfl) ?_
  show zW uX2_init (some M.1.length) (0, 0) M 0 [(0, .ref v0)] [] (zE (oV ()) M')
  have hl0 : M.1.length = M.1.length + 0 := rfl
  unfold fX2_init at h
  refine zr_aload_n (q := 1) dX2_init_0 rfl rfl 0 rfl ?_
  refine zr_objInit (q := 4) dX2_init_1 rfl ⟨zb_562, zb_555, zb_556⟩ ⟨by decide, Nat.le_of_ble_eq_true rfl⟩ ?_
  refine zr_aload_n (q := 5) dX2_init_4 rfl rfl 0 rfl ?_
  refine zr_sipush (q := 8) (v := 300) dX2_init_5 rfl (by decide) ?_
  obtain ⟨M_1, e_2, h⟩ := app_some h
  obtain ⟨a_3, e_4, h⟩ := app_some h
  refine zr_newI (q := 10) (N := 300) (u' := (1, 300)) rfl hl0 dX2_init_8 rfl zb_559 (by decide) (by decide) (by decide) ⟨by decide, by decide⟩ rfl ?_
  refine zr_mem e_2 ?_
  have hl_5 : M_1.1.length = M.1.length + 1 := by rw [← e_2, mNew_len, hl0]
  refine zr_nmA e_4 ?_
  obtain ⟨c_6, h⟩ := chk_some h
  obtain ⟨M_7, e_8, h⟩ := app_some h
  refine zr_putR (q := 13) (ci := 2) (k := 0) dX2_init_10 rfl (eq_of_beq c_6) rfl (by decide) rfl zbX2 tyX2_ok nmX2 (by decide) zb_83 (Or.inr ⟨rfl, rfl, rfl⟩) rfl ?_
  refine zr_mem e_8 ?_
  have hl_9 : M_7.1.length = M.1.length + 1 := by rw [← e_8]; exact hl_5
  refine zr_aload_n (q := 14) dX2_init_13 rfl rfl 0 rfl ?_
  refine zr_sipush (q := 17) (v := 300) dX2_init_14 rfl (by decide) ?_
  obtain ⟨M_10, e_11, h⟩ := app_some h
  obtain ⟨a_12, e_13, h⟩ := app_some h
  refine zr_newI (q := 19) (N := 300) (u' := (2, 600)) rfl hl_9 dX2_init_17 rfl zb_559 (by decide) (by decide) (by decide) ⟨by decide, by decide⟩ rfl ?_
  refine zr_mem e_11 ?_
  have hl_14 : M_10.1.length = M.1.length + 2 := by rw [← e_11, mNew_len, hl_9]
  refine zr_nmA e_13 ?_
  obtain ⟨c_15, h⟩ := chk_some h
  obtain ⟨M_16, e_17, h⟩ := app_some h
  refine zr_putR (q := 22) (ci := 2) (k := 1) dX2_init_19 rfl (eq_of_beq c_15) rfl (by decide) rfl zbX2 tyX2_ok nmX2 (by decide) zb_86 (Or.inr ⟨rfl, rfl, rfl⟩) rfl ?_
  refine zr_mem e_17 ?_
  have hl_18 : M_16.1.length = M.1.length + 2 := by rw [← e_17]; exact hl_14
  cases h
  exact zr_return dX2_init_22 rfl ⟨by decide, by decide⟩ ⟨rfl, rfl⟩
set_option maxHeartbeats 4000000 in
set_option maxRecDepth 100000 in
theorem lenX2_init (n : Nat) (M : zM) (v0 : Nat) (M' : zM) (h : fX2_init n M v0 = some ((), M')) : M'.1.length = M.1.length + 2 := by
  have hl0 : M.1.length = M.1.length + 0 := rfl
  unfold fX2_init at h
  obtain ⟨M_1, e_2, h⟩ := app_some h
  obtain ⟨a_3, e_4, h⟩ := app_some h
  have hl_5 : M_1.1.length = M.1.length + 1 := by rw [← e_2, mNew_len, hl0]
  obtain ⟨c_6, h⟩ := chk_some h
  obtain ⟨M_7, e_8, h⟩ := app_some h
  have hl_9 : M_7.1.length = M.1.length + 1 := by rw [← e_8]; exact hl_5
  obtain ⟨M_10, e_11, h⟩ := app_some h
  obtain ⟨a_12, e_13, h⟩ := app_some h
  have hl_14 : M_10.1.length = M.1.length + 2 := by rw [← e_11, mNew_len, hl_9]
  obtain ⟨c_15, h⟩ := chk_some h
  obtain ⟨M_16, e_17, h⟩ := app_some h
  have hl_18 : M_16.1.length = M.1.length + 2 := by rw [← e_17]; exact hl_14
  cases h
  exact hl_18

def uX1_init : zMu := (yX1_init, cX1_init, 1, none, { frames := 1, cells := 7, slots := 4200, locals := 16 }, [])
theorem zd_X1_init : (uY uX1_init).cls ≠ "java/lang/invoke/MethodHandle" ∧ (uY uX1_init).cls ≠ "java/lang/invoke/VarHandle" ∧ (parseMethodDescriptor (uY uX1_init).desc).map (fun d => d.parameters.length) = some 0 := by decide +kernel
def fX1_init (n : Nat) (M : zM) (v0 : Nat) : Option (Unit × zM) :=
  app (mNew M 11 600) fun M_1 : zM =>
  app M.1.length fun a_3 : Nat =>
  chk (mK M_1 v0 == 1) <|
  app (wR M_1 v0 1 (some a_3)) fun M_7 : zM =>
  app (mNew M_7 11 600) fun M_10 : zM =>
  app M_7.1.length fun a_12 : Nat =>
  chk (mK M_10 v0 == 1) <|
  app (wR M_10 v0 2 (some a_12)) fun M_16 : zM =>
  app (mNew M_16 11 600) fun M_19 : zM =>
  app M_16.1.length fun a_21 : Nat =>
  chk (mK M_19 v0 == 1) <|
  app (wR M_19 v0 4 (some a_21)) fun M_25 : zM =>
  app (mNew M_25 11 600) fun M_28 : zM =>
  app M_25.1.length fun a_30 : Nat =>
  chk (mK M_28 v0 == 1) <|
  app (wR M_28 v0 5 (some a_30)) fun M_34 : zM =>
  app (mNew M_34 11 600) fun M_37 : zM =>
  app M_34.1.length fun a_39 : Nat =>
  chk (mK M_37 v0 == 1) <|
  app (wR M_37 v0 6 (some a_39)) fun M_43 : zM =>
  app (mNew M_43 11 600) fun M_46 : zM =>
  app M_43.1.length fun a_48 : Nat =>
  chk (mK M_46 v0 == 1) <|
  app (wR M_46 v0 7 (some a_48)) fun M_52 : zM =>
  app (mNew M_52 11 600) fun M_55 : zM =>
  app M_52.1.length fun a_57 : Nat =>
  chk (mK M_55 v0 == 1) <|
  app (wR M_55 v0 8 (some a_57)) fun M_61 : zM =>
  some ((), M_61)
set_option maxHeartbeats 4000000 in
set_option maxRecDepth 100000 in
theorem tX1_init (n : Nat) (M : zM) (v0 : Nat) (M' : zM) (h : fX1_init n M v0 = some ((), M')) : zMet uX1_init true M [.ref v0] (zE (oV ()) M') := by
  refine zMet_of (L := [(0, .ref v0)]) (by decide +kernel) rfl rfl (Nat.le_of_ble_eq_true rfl) ?_
  show zW uX1_init (some M.1.length) (0, 0) M 0 [(0, .ref v0)] [] (zE (oV ()) M')
  have hl0 : M.1.length = M.1.length + 0 := rfl
  unfold fX1_init at h
  refine zr_aload_n (q := 1) dX1_init_0 rfl rfl 0 rfl ?_
  refine zr_objInit (q := 4) dX1_init_1 rfl ⟨zb_563, zb_555, zb_556⟩ ⟨by decide, Nat.le_of_ble_eq_true rfl⟩ ?_
  refine zr_aload_n (q := 5) dX1_init_4 rfl rfl 0 rfl ?_
  refine zr_sipush (q := 8) (v := 600) dX1_init_5 rfl (by decide) ?_
  obtain ⟨M_1, e_2, h⟩ := app_some h
  obtain ⟨a_3, e_4, h⟩ := app_some h
  refine zr_newI (q := 10) (N := 600) (u' := (1, 600)) rfl hl0 dX1_init_8 rfl zb_559 (by decide) (by decide) (by decide) ⟨by decide, by decide⟩ rfl ?_
  refine zr_mem e_2 ?_
  have hl_5 : M_1.1.length = M.1.length + 1 := by rw [← e_2, mNew_len, hl0]
  refine zr_nmA e_4 ?_
  obtain ⟨c_6, h⟩ := chk_some h
  obtain ⟨M_7, e_8, h⟩ := app_some h
  refine zr_putR (q := 13) (ci := 1) (k := 1) dX1_init_10 rfl (eq_of_beq c_6) rfl (by decide) rfl zbX1 tyX1_ok nmX1 (by decide) zb_65 (Or.inr ⟨rfl, rfl, rfl⟩) rfl ?_
  refine zr_mem e_8 ?_
  have hl_9 : M_7.1.length = M.1.length + 1 := by rw [← e_8]; exact hl_5
  refine zr_aload_n (q := 14) dX1_init_13 rfl rfl 0 rfl ?_
  refine zr_sipush (q := 17) (v := 600) dX1_init_14 rfl (by decide) ?_
  obtain ⟨M_10, e_11, h⟩ := app_some h
  obtain ⟨a_12, e_13, h⟩ := app_some h
  refine zr_newI (q := 19) (N := 600) (u' := (2, 1200)) rfl hl_9 dX1_init_17 rfl zb_559 (by decide) (by decide) (by decide) ⟨by decide, by decide⟩ rfl ?_
  refine zr_mem e_11 ?_
  have hl_14 : M_10.1.length = M.1.length + 2 := by rw [← e_11, mNew_len, hl_9]
  refine zr_nmA e_13 ?_
  obtain ⟨c_15, h⟩ := chk_some h
  obtain ⟨M_16, e_17, h⟩ := app_some h
  refine zr_putR (q := 22) (ci := 1) (k := 2) dX1_init_19 rfl (eq_of_beq c_15) rfl (by decide) rfl zbX1 tyX1_ok nmX1 (by decide) zb_48 (Or.inr ⟨rfl, rfl, rfl⟩) rfl ?_
  refine zr_mem e_17 ?_
  have hl_18 : M_16.1.length = M.1.length + 2 := by rw [← e_17]; exact hl_14
  refine zr_aload_n (q := 23) dX1_init_22 rfl rfl 0 rfl ?_
  refine zr_sipush (q := 26) (v := 600) dX1_init_23 rfl (by decide) ?_
  obtain ⟨M_19, e_20, h⟩ := app_some h
  obtain ⟨a_21, e_22, h⟩ := app_some h
  refine zr_newI (q := 28) (N := 600) (u' := (3, 1800)) rfl hl_18 dX1_init_26 rfl zb_559 (by decide) (by decide) (by decide) ⟨by decide, by decide⟩ rfl ?_
  refine zr_mem e_20 ?_
  have hl_23 : M_19.1.length = M.1.length + 3 := by rw [← e_20, mNew_len, hl_18]
  refine zr_nmA e_22 ?_
  obtain ⟨c_24, h⟩ := chk_some h
  obtain ⟨M_25, e_26, h⟩ := app_some h
  refine zr_putR (q := 31) (ci := 1) (k := 4) dX1_init_28 rfl (eq_of_beq c_24) rfl (by decide) rfl zbX1 tyX1_ok nmX1 (by decide) zb_49 (Or.inr ⟨rfl, rfl, rfl⟩) rfl ?_
  refine zr_mem e_26 ?_
  have hl_27 : M_25.1.length = M.1.length + 3 := by rw [← e_26]; exact hl_23
  refine zr_aload_n (q := 32) dX1_init_31 rfl rfl 0 rfl ?_
  refine zr_sipush (q := 35) (v := 600) dX1_init_32 rfl (by decide) ?_
  obtain ⟨M_28, e_29, h⟩ := app_some h
  obtain ⟨a_30, e_31, h⟩ := app_some h
  refine zr_newI (q := 37) (N := 600) (u' := (4, 2400)) rfl hl_27 dX1_init_35 rfl zb_559 (by decide) (by decide) (by decide) ⟨by decide, by decide⟩ rfl ?_
  refine zr_mem e_29 ?_
  have hl_32 : M_28.1.length = M.1.length + 4 := by rw [← e_29, mNew_len, hl_27]
  refine zr_nmA e_31 ?_
  obtain ⟨c_33, h⟩ := chk_some h
  obtain ⟨M_34, e_35, h⟩ := app_some h
  refine zr_putR (q := 40) (ci := 1) (k := 5) dX1_init_37 rfl (eq_of_beq c_33) rfl (by decide) rfl zbX1 tyX1_ok nmX1 (by decide) zb_51 (Or.inr ⟨rfl, rfl, rfl⟩) rfl ?_
  refine zr_mem e_35 ?_
  have hl_36 : M_34.1.length = M.1.length + 4 := by rw [← e_35]; exact hl_32
  refine zr_aload_n (q := 41) dX1_init_40 rfl rfl 0 rfl ?_
  refine zr_sipush (q := 44) (v := 600) dX1_init_41 rfl (by decide) ?_
  obtain ⟨M_37, e_38, h⟩ := app_some h
  obtain ⟨a_39, e_40, h⟩ := app_some h
  refine zr_newI (q := 46) (N := 600) (u' := (5, 3000)) rfl hl_36 dX1_init_44 rfl zb_559 (by decide) (by decide) (by decide) ⟨by decide, by decide⟩ rfl ?_
  refine zr_mem e_38 ?_
  have hl_41 : M_37.1.length = M.1.length + 5 := by rw [← e_38, mNew_len, hl_36]
  refine zr_nmA e_40 ?_
  obtain ⟨c_42, h⟩ := chk_some h
  obtain ⟨M_43, e_44, h⟩ := app_some h
  refine zr_putR (q := 49) (ci := 1) (k := 6) dX1_init_46 rfl (eq_of_beq c_42) rfl (by decide) rfl zbX1 tyX1_ok nmX1 (by decide) zb_62 (Or.inr ⟨rfl, rfl, rfl⟩) rfl ?_
  refine zr_mem e_44 ?_
  have hl_45 : M_43.1.length = M.1.length + 5 := by rw [← e_44]; exact hl_41
  refine zr_aload_n (q := 50) dX1_init_49 rfl rfl 0 rfl ?_
  refine zr_sipush (q := 53) (v := 600) dX1_init_50 rfl (by decide) ?_
  obtain ⟨M_46, e_47, h⟩ := app_some h
  obtain ⟨a_48, e_49, h⟩ := app_some h
  refine zr_newI (q := 55) (N := 600) (u' := (6, 3600)) rfl hl_45 dX1_init_53 rfl zb_559 (by decide) (by decide) (by decide) ⟨by decide, by decide⟩ rfl ?_
  refine zr_mem e_47 ?_
  have hl_50 : M_46.1.length = M.1.length + 6 := by rw [← e_47, mNew_len, hl_45]
  refine zr_nmA e_49 ?_
  obtain ⟨c_51, h⟩ := chk_some h
  obtain ⟨M_52, e_53, h⟩ := app_some h
  refine zr_putR (q := 58) (ci := 1) (k := 7) dX1_init_55 rfl (eq_of_beq c_51) rfl (by decide) rfl zbX1 tyX1_ok nmX1 (by decide) zb_63 (Or.inr ⟨rfl, rfl, rfl⟩) rfl ?_
  refine zr_mem e_53 ?_
  have hl_54 : M_52.1.length = M.1.length + 6 := by rw [← e_53]; exact hl_50
  refine zr_aload_n (q := 59) dX1_init_58 rfl rfl 0 rfl ?_
  refine zr_sipush (q := 62) (v := 600) dX1_init_59 rfl (by decide) ?_
  obtain ⟨M_55, e_56, h⟩ := app_some h
  obtain ⟨a_57, e_58, h⟩ := app_some h
  refine zr_newI (q := 64) (N := 600) (u' := (7, 4200)) rfl hl_54 dX1_init_62 rfl zb_559 (by decide) (by decide) (by decide) ⟨by decide, by decide⟩ rfl ?_
  refine zr_mem e_56 ?_
  have hl_59 : M_55.1.length = M.1.length + 7 := by rw [← e_56, mNew_len, hl_54]
  refine zr_nmA e_58 ?_
  obtain ⟨c_60, h⟩ := chk_some h
  obtain ⟨M_61, e_62, h⟩ := app_some h
  refine zr_putR (q := 67) (ci := 1) (k := 8) dX1_init_64 rfl (eq_of_beq c_60) rfl (by decide) rfl zbX1 tyX1_ok nmX1 (by decide) zb_57 (Or.inr ⟨rfl, rfl, rfl⟩) rfl ?_
  refine zr_mem e_62 ?_
  have hl_63 : M_61.1.length = M.1.length + 7 := by rw [← e_62]; exact hl_59
  cases h
  exact zr_return dX1_init_67 rfl ⟨by decide, by decide⟩ ⟨rfl, rfl⟩
set_option maxHeartbeats 4000000 in
set_option maxRecDepth 100000 in
theorem lenX1_init (n : Nat) (M : zM) (v0 : Nat) (M' : zM) (h : fX1_init n M v0 = some ((), M')) : M'.1.length = M.1.length + 7 := by
  have hl0 : M.1.length = M.1.length + 0 := rfl
  unfold fX1_init at h
  obtain ⟨M_1, e_2, h⟩ := app_some h
  obtain ⟨a_3, e_4, h⟩ := app_some h
  have hl_5 : M_1.1.length = M.1.length + 1 := by rw [← e_2, mNew_len, hl0]
  obtain ⟨c_6, h⟩ := chk_some h
  obtain ⟨M_7, e_8, h⟩ := app_some h
  have hl_9 : M_7.1.length = M.1.length + 1 := by rw [← e_8]; exact hl_5
  obtain ⟨M_10, e_11, h⟩ := app_some h
  obtain ⟨a_12, e_13, h⟩ := app_some h
  have hl_14 : M_10.1.length = M.1.length + 2 := by rw [← e_11, mNew_len, hl_9]
  obtain ⟨c_15, h⟩ := chk_some h
  obtain ⟨M_16, e_17, h⟩ := app_some h
  have hl_18 : M_16.1.length = M.1.length + 2 := by rw [← e_17]; exact hl_14
  obtain ⟨M_19, e_20, h⟩ := app_some h
  obtain ⟨a_21, e_22, h⟩ := app_some h
  have hl_23 : M_19.1.length = M.1.length + 3 := by rw [← e_20, mNew_len, hl_18]
  obtain ⟨c_24, h⟩ := chk_some h
  obtain ⟨M_25, e_26, h⟩ := app_some h
  have hl_27 : M_25.1.length = M.1.length + 3 := by rw [← e_26]; exact hl_23
  obtain ⟨M_28, e_29, h⟩ := app_some h
  obtain ⟨a_30, e_31, h⟩ := app_some h
  have hl_32 : M_28.1.length = M.1.length + 4 := by rw [← e_29, mNew_len, hl_27]
  obtain ⟨c_33, h⟩ := chk_some h
  obtain ⟨M_34, e_35, h⟩ := app_some h
  have hl_36 : M_34.1.length = M.1.length + 4 := by rw [← e_35]; exact hl_32
  obtain ⟨M_37, e_38, h⟩ := app_some h
  obtain ⟨a_39, e_40, h⟩ := app_some h
  have hl_41 : M_37.1.length = M.1.length + 5 := by rw [← e_38, mNew_len, hl_36]
  obtain ⟨c_42, h⟩ := chk_some h
  obtain ⟨M_43, e_44, h⟩ := app_some h
  have hl_45 : M_43.1.length = M.1.length + 5 := by rw [← e_44]; exact hl_41
  obtain ⟨M_46, e_47, h⟩ := app_some h
  obtain ⟨a_48, e_49, h⟩ := app_some h
  have hl_50 : M_46.1.length = M.1.length + 6 := by rw [← e_47, mNew_len, hl_45]
  obtain ⟨c_51, h⟩ := chk_some h
  obtain ⟨M_52, e_53, h⟩ := app_some h
  have hl_54 : M_52.1.length = M.1.length + 6 := by rw [← e_53]; exact hl_50
  obtain ⟨M_55, e_56, h⟩ := app_some h
  obtain ⟨a_57, e_58, h⟩ := app_some h
  have hl_59 : M_55.1.length = M.1.length + 7 := by rw [← e_56, mNew_len, hl_54]
  obtain ⟨c_60, h⟩ := chk_some h
  obtain ⟨M_61, e_62, h⟩ := app_some h
  have hl_63 : M_61.1.length = M.1.length + 7 := by rw [← e_62]; exact hl_59
  cases h
  exact hl_63

def uX8_init : zMu := (yX8_init, cX8_init, 1, none, { frames := 1, cells := 3, slots := 600, locals := 16 }, [])
theorem zd_X8_init : (uY uX8_init).cls ≠ "java/lang/invoke/MethodHandle" ∧ (uY uX8_init).cls ≠ "java/lang/invoke/VarHandle" ∧ (parseMethodDescriptor (uY uX8_init).desc).map (fun d => d.parameters.length) = some 0 := by decide +kernel
def fX8_init (n : Nat) (M : zM) (v0 : Nat) : Option (Unit × zM) :=
  app (mNew M 11 200) fun M_1 : zM =>
  app M.1.length fun a_3 : Nat =>
  chk (mK M_1 v0 == 8) <|
  app (wR M_1 v0 2 (some a_3)) fun M_7 : zM =>
  app (mNew M_7 11 200) fun M_10 : zM =>
  app M_7.1.length fun a_12 : Nat =>
  chk (mK M_10 v0 == 8) <|
  app (wR M_10 v0 3 (some a_12)) fun M_16 : zM =>
  app (mNew M_16 11 200) fun M_19 : zM =>
  app M_16.1.length fun a_21 : Nat =>
  chk (mK M_19 v0 == 8) <|
  app (wR M_19 v0 4 (some a_21)) fun M_25 : zM =>
  some ((), M_25)
set_option maxHeartbeats 4000000 in
set_option maxRecDepth 100000 in
theorem tX8_init (n : Nat) (M : zM) (v0 : Nat) (M' : zM) (h : fX8_init n M v0 = some ((), M')) : zMet uX8_init true M [.ref v0] (zE (oV ()) M') := by
  refine zMet_of (L := [(0, .ref v0)]) (by decide +kernel) rfl rfl (Nat.le_of_ble_eq_true rfl) ?_
  show zW uX8_init (some M.1.length) (0, 0) M 0 [(0, .ref v0)] [] (zE (oV ()) M')
  have hl0 : M.1.length = M.1.length + 0 := rfl
  unfold fX8_init at h
  refine zr_aload_n (q := 1) dX8_init_0 rfl rfl 0 rfl ?_
  refine zr_objInit (q := 4) dX8_init_1 rfl ⟨zb_564, zb_555, zb_556⟩ ⟨by decide, Nat.le_of_ble_eq_true rfl⟩ ?_
  refine zr_aload_n (q := 5) dX8_init_4 rfl rfl 0 rfl ?_
  refine zr_sipush (q := 8) (v := 200) dX8_init_5 rfl (by decide) ?_
  obtain ⟨M_1, e_2, h⟩ := app_some h
  obtain ⟨a_3, e_4, h⟩ := app_some h
  refine zr_newI (q := 10) (N := 200) (u' := (1, 200)) rfl hl0 dX8_init_8 rfl zb_559 (by decide) (by decide) (by decide) ⟨by decide, by decide⟩ rfl ?_
  refine zr_mem e_2 ?_
  have hl_5 : M_1.1.length = M.1.length + 1 := by rw [← e_2, mNew_len, hl0]
  refine zr_nmA e_4 ?_
  obtain ⟨c_6, h⟩ := chk_some h
  obtain ⟨M_7, e_8, h⟩ := app_some h
  refine zr_putR (q := 13) (ci := 8) (k := 2) dX8_init_10 rfl (eq_of_beq c_6) rfl (by decide) rfl zbX8 tyX8_ok nmX8 (by decide) zb_283 (Or.inr ⟨rfl, rfl, rfl⟩) rfl ?_
  refine zr_mem e_8 ?_
  have hl_9 : M_7.1.length = M.1.length + 1 := by rw [← e_8]; exact hl_5
  refine zr_aload_n (q := 14) dX8_init_13 rfl rfl 0 rfl ?_
  refine zr_sipush (q := 17) (v := 200) dX8_init_14 rfl (by decide) ?_
  obtain ⟨M_10, e_11, h⟩ := app_some h
  obtain ⟨a_12, e_13, h⟩ := app_some h
  refine zr_newI (q := 19) (N := 200) (u' := (2, 400)) rfl hl_9 dX8_init_17 rfl zb_559 (by decide) (by decide) (by decide) ⟨by decide, by decide⟩ rfl ?_
  refine zr_mem e_11 ?_
  have hl_14 : M_10.1.length = M.1.length + 2 := by rw [← e_11, mNew_len, hl_9]
  refine zr_nmA e_13 ?_
  obtain ⟨c_15, h⟩ := chk_some h
  obtain ⟨M_16, e_17, h⟩ := app_some h
  refine zr_putR (q := 22) (ci := 8) (k := 3) dX8_init_19 rfl (eq_of_beq c_15) rfl (by decide) rfl zbX8 tyX8_ok nmX8 (by decide) zb_285 (Or.inr ⟨rfl, rfl, rfl⟩) rfl ?_
  refine zr_mem e_17 ?_
  have hl_18 : M_16.1.length = M.1.length + 2 := by rw [← e_17]; exact hl_14
  refine zr_aload_n (q := 23) dX8_init_22 rfl rfl 0 rfl ?_
  refine zr_sipush (q := 26) (v := 200) dX8_init_23 rfl (by decide) ?_
  obtain ⟨M_19, e_20, h⟩ := app_some h
  obtain ⟨a_21, e_22, h⟩ := app_some h
  refine zr_newI (q := 28) (N := 200) (u' := (3, 600)) rfl hl_18 dX8_init_26 rfl zb_559 (by decide) (by decide) (by decide) ⟨by decide, by decide⟩ rfl ?_
  refine zr_mem e_20 ?_
  have hl_23 : M_19.1.length = M.1.length + 3 := by rw [← e_20, mNew_len, hl_18]
  refine zr_nmA e_22 ?_
  obtain ⟨c_24, h⟩ := chk_some h
  obtain ⟨M_25, e_26, h⟩ := app_some h
  refine zr_putR (q := 31) (ci := 8) (k := 4) dX8_init_28 rfl (eq_of_beq c_24) rfl (by decide) rfl zbX8 tyX8_ok nmX8 (by decide) zb_277 (Or.inr ⟨rfl, rfl, rfl⟩) rfl ?_
  refine zr_mem e_26 ?_
  have hl_27 : M_25.1.length = M.1.length + 3 := by rw [← e_26]; exact hl_23
  cases h
  exact zr_return dX8_init_31 rfl ⟨by decide, by decide⟩ ⟨rfl, rfl⟩
set_option maxHeartbeats 4000000 in
set_option maxRecDepth 100000 in
theorem lenX8_init (n : Nat) (M : zM) (v0 : Nat) (M' : zM) (h : fX8_init n M v0 = some ((), M')) : M'.1.length = M.1.length + 3 := by
  have hl0 : M.1.length = M.1.length + 0 := rfl
  unfold fX8_init at h
  obtain ⟨M_1, e_2, h⟩ := app_some h
  obtain ⟨a_3, e_4, h⟩ := app_some h
  have hl_5 : M_1.1.length = M.1.length + 1 := by rw [← e_2, mNew_len, hl0]
  obtain ⟨c_6, h⟩ := chk_some h
  obtain ⟨M_7, e_8, h⟩ := app_some h
  have hl_9 : M_7.1.length = M.1.length + 1 := by rw [← e_8]; exact hl_5
  obtain ⟨M_10, e_11, h⟩ := app_some h
  obtain ⟨a_12, e_13, h⟩ := app_some h
  have hl_14 : M_10.1.length = M.1.length + 2 := by rw [← e_11, mNew_len, hl_9]
  obtain ⟨c_15, h⟩ := chk_some h
  obtain ⟨M_16, e_17, h⟩ := app_some h
  have hl_18 : M_16.1.length = M.1.length + 2 := by rw [← e_17]; exact hl_14
  obtain ⟨M_19, e_20, h⟩ := app_some h
  obtain ⟨a_21, e_22, h⟩ := app_some h
  have hl_23 : M_19.1.length = M.1.length + 3 := by rw [← e_20, mNew_len, hl_18]
  obtain ⟨c_24, h⟩ := chk_some h
  obtain ⟨M_25, e_26, h⟩ := app_some h
  have hl_27 : M_25.1.length = M.1.length + 3 := by rw [← e_26]; exact hl_23
  cases h
  exact hl_27

def uX4_init : zMu := (yX4_init, cX4_init, 1, none, { frames := 2, cells := 6, slots := 11262, locals := 36 }, [])
theorem zd_X4_init : (uY uX4_init).cls ≠ "java/lang/invoke/MethodHandle" ∧ (uY uX4_init).cls ≠ "java/lang/invoke/VarHandle" ∧ (parseMethodDescriptor (uY uX4_init).desc).map (fun d => d.parameters.length) = some 0 := by decide +kernel
def fX4_init (n : Nat) (M : zM) (v0 : Nat) : Option (Unit × zM) :=
  app (mNew M 12 60) fun M_1 : zM =>
  app M.1.length fun a_3 : Nat =>
  chk (mK M_1 v0 == 4) <|
  app (wR M_1 v0 4 (some a_3)) fun M_7 : zM =>
  app (mNew M_7 12 60) fun M_10 : zM =>
  app M_7.1.length fun a_12 : Nat =>
  chk (mK M_10 v0 == 4) <|
  app (wR M_10 v0 5 (some a_12)) fun M_16 : zM =>
  app (mNew M_16 12 36) fun M_19 : zM =>
  app M_16.1.length fun a_21 : Nat =>
  chk (mK M_19 v0 == 4) <|
  app (wR M_19 v0 6 (some a_21)) fun M_25 : zM =>
  app (mNew M_25 0 0) fun M_28 : zM =>
  app M_25.1.length fun a_30 : Nat =>
  bnd2 (fX0_init n M_28 a_30) fun _ M_33 =>
  chk (mK M_33 v0 == 4) <|
  app (wR M_33 v0 7 (some a_30)) fun M_37 : zM =>
  some ((), M_37)
set_option maxHeartbeats 4000000 in
set_option maxRecDepth 100000 in
theorem tX4_init (n : Nat) (M : zM) (v0 : Nat) (M' : zM) (h : fX4_init n M v0 = some ((), M')) : zMet uX4_init true M [.ref v0] (zE (oV ()) M') := by
  refine zMet_of (L := [(0, .ref v0)]) (by decide +kernel) rfl rfl (Nat.le_of_ble_eq_true rfl) ?_
  show zW uX4_init (some M.1.length) (0, 0) M 0 [(0, .ref v0)] [] (zE (oV ()) M')
  have hl0 : M.1.length = M.1.length + 0 := rfl
  unfold fX4_init at h
  refine zr_aload_n (q := 1) dX4_init_0 rfl rfl 0 rfl ?_
  refine zr_objInit (q := 4) dX4_init_1 rfl ⟨zb_565, zb_555, zb_556⟩ ⟨by decide, Nat.le_of_ble_eq_true rfl⟩ ?_
  refine zr_aload_n (q := 5) dX4_init_4 rfl rfl 0 rfl ?_
  refine zr_bipush (q := 7) (v := 60) dX4_init_5 rfl (by decide) ?_
  obtain ⟨M_1, e_2, h⟩ := app_some h
  obtain ⟨a_3, e_4, h⟩ := app_some h
  refine zr_newL (q := 9) (N := 60) (u' := (1, 60)) rfl hl0 dX4_init_7 rfl zb_561 (by decide) (by decide) (by decide) ⟨by decide, by decide⟩ rfl ?_
  refine zr_mem e_2 ?_
  have hl_5 : M_1.1.length = M.1.length + 1 := by rw [← e_2, mNew_len, hl0]
  refine zr_nmA e_4 ?_
  obtain ⟨c_6, h⟩ := chk_some h
  obtain ⟨M_7, e_8, h⟩ := app_some h
  refine zr_putR (q := 12) (ci := 4) (k := 4) dX4_init_9 rfl (eq_of_beq c_6) rfl (by decide) rfl zbX4 tyX4_ok nmX4 (by decide) zb_26 (Or.inr ⟨rfl, rfl, rfl⟩) rfl ?_
  refine zr_mem e_8 ?_
  have hl_9 : M_7.1.length = M.1.length + 1 := by rw [← e_8]; exact hl_5
  refine zr_aload_n (q := 13) dX4_init_12 rfl rfl 0 rfl ?_
  refine zr_bipush (q := 15) (v := 60) dX4_init_13 rfl (by decide) ?_
  obtain ⟨M_10, e_11, h⟩ := app_some h
  obtain ⟨a_12, e_13, h⟩ := app_some h
  refine zr_newL (q := 17) (N := 60) (u' := (2, 120)) rfl hl_9 dX4_init_15 rfl zb_561 (by decide) (by decide) (by decide) ⟨by decide, by decide⟩ rfl ?_
  refine zr_mem e_11 ?_
  have hl_14 : M_10.1.length = M.1.length + 2 := by rw [← e_11, mNew_len, hl_9]
  refine zr_nmA e_13 ?_
  obtain ⟨c_15, h⟩ := chk_some h
  obtain ⟨M_16, e_17, h⟩ := app_some h
  refine zr_putR (q := 20) (ci := 4) (k := 5) dX4_init_17 rfl (eq_of_beq c_15) rfl (by decide) rfl zbX4 tyX4_ok nmX4 (by decide) zb_149 (Or.inr ⟨rfl, rfl, rfl⟩) rfl ?_
  refine zr_mem e_17 ?_
  have hl_18 : M_16.1.length = M.1.length + 2 := by rw [← e_17]; exact hl_14
  refine zr_aload_n (q := 21) dX4_init_20 rfl rfl 0 rfl ?_
  refine zr_bipush (q := 23) (v := 36) dX4_init_21 rfl (by decide) ?_
  obtain ⟨M_19, e_20, h⟩ := app_some h
  obtain ⟨a_21, e_22, h⟩ := app_some h
  refine zr_newL (q := 25) (N := 36) (u' := (3, 156)) rfl hl_18 dX4_init_23 rfl zb_561 (by decide) (by decide) (by decide) ⟨by decide, by decide⟩ rfl ?_
  refine zr_mem e_20 ?_
  have hl_23 : M_19.1.length = M.1.length + 3 := by rw [← e_20, mNew_len, hl_18]
  refine zr_nmA e_22 ?_
  obtain ⟨c_24, h⟩ := chk_some h
  obtain ⟨M_25, e_26, h⟩ := app_some h
  refine zr_putR (q := 28) (ci := 4) (k := 6) dX4_init_25 rfl (eq_of_beq c_24) rfl (by decide) rfl zbX4 tyX4_ok nmX4 (by decide) zb_164 (Or.inr ⟨rfl, rfl, rfl⟩) rfl ?_
  refine zr_mem e_26 ?_
  have hl_27 : M_25.1.length = M.1.length + 3 := by rw [← e_26]; exact hl_23
  refine zr_aload_n (q := 29) dX4_init_28 rfl rfl 0 rfl ?_
  obtain ⟨M_28, e_29, h⟩ := app_some h
  obtain ⟨a_30, e_31, h⟩ := app_some h
  refine zr_new (q := 32) (ci := 0) (u' := (4, 162)) rfl hl_27 dX4_init_29 rfl rfl (by decide) rfl zbX0 tyX0_ok (by decide) ⟨zb_566, zb_567, zb_36⟩ ⟨by decide, by decide⟩ rfl ?_
  refine zr_mem e_29 ?_
  have hl_32 : M_28.1.length = M.1.length + 4 := by rw [← e_29, mNew_len, hl_27]
  refine zr_nmA e_31 ?_
  refine zr_dup (q := 33) dX4_init_32 rfl rfl ?_
  obtain ⟨_, M_33, hc_34, h⟩ := bnd2_some h
  refine zr_callIN (μ' := uX0_init) (q := 36) (n := 0) (As := []) (u' := (6, 11262)) rfl hl_32 (tX0_init n M_28 a_30 _ hc_34) dX4_init_33 rfl rfl (by decide +kernel) ⟨zb_568, zb_569, zb_36⟩ rfl rfl zd_X0_init ⟨by decide, by decide⟩ ⟨by decide, by decide⟩ rfl rfl (Nat.le_of_ble_eq_true rfl) rfl ?_
  have hl_35 : M_33.1.length = M.1.length + 6 := by rw [lenX0_init n M_28 a_30 _ hc_34, hl_32]
  obtain ⟨c_36, h⟩ := chk_some h
  obtain ⟨M_37, e_38, h⟩ := app_some h
  refine zr_putR (q := 39) (ci := 4) (k := 7) dX4_init_36 rfl (eq_of_beq c_36) rfl (by decide) rfl zbX4 tyX4_ok nmX4 (by decide) zb_102 (Or.inr ⟨rfl, rfl, rfl⟩) rfl ?_
  refine zr_mem e_38 ?_
  have hl_39 : M_37.1.length = M.1.length + 6 := by rw [← e_38]; exact hl_35
  cases h
  exact zr_return dX4_init_39 rfl ⟨by decide, by decide⟩ ⟨rfl, rfl⟩
set_option maxHeartbeats 4000000 in
set_option maxRecDepth 100000 in
theorem lenX4_init (n : Nat) (M : zM) (v0 : Nat) (M' : zM) (h : fX4_init n M v0 = some ((), M')) : M'.1.length = M.1.length + 6 := by
  have hl0 : M.1.length = M.1.length + 0 := rfl
  unfold fX4_init at h
  obtain ⟨M_1, e_2, h⟩ := app_some h
  obtain ⟨a_3, e_4, h⟩ := app_some h
  have hl_5 : M_1.1.length = M.1.length + 1 := by rw [← e_2, mNew_len, hl0]
  obtain ⟨c_6, h⟩ := chk_some h
  obtain ⟨M_7, e_8, h⟩ := app_some h
  have hl_9 : M_7.1.length = M.1.length + 1 := by rw [← e_8]; exact hl_5
  obtain ⟨M_10, e_11, h⟩ := app_some h
  obtain ⟨a_12, e_13, h⟩ := app_some h
  have hl_14 : M_10.1.length = M.1.length + 2 := by rw [← e_11, mNew_len, hl_9]
  obtain ⟨c_15, h⟩ := chk_some h
  obtain ⟨M_16, e_17, h⟩ := app_some h
  have hl_18 : M_16.1.length = M.1.length + 2 := by rw [← e_17]; exact hl_14
  obtain ⟨M_19, e_20, h⟩ := app_some h
  obtain ⟨a_21, e_22, h⟩ := app_some h
  have hl_23 : M_19.1.length = M.1.length + 3 := by rw [← e_20, mNew_len, hl_18]
  obtain ⟨c_24, h⟩ := chk_some h
  obtain ⟨M_25, e_26, h⟩ := app_some h
  have hl_27 : M_25.1.length = M.1.length + 3 := by rw [← e_26]; exact hl_23
  obtain ⟨M_28, e_29, h⟩ := app_some h
  obtain ⟨a_30, e_31, h⟩ := app_some h
  have hl_32 : M_28.1.length = M.1.length + 4 := by rw [← e_29, mNew_len, hl_27]
  obtain ⟨_, M_33, hc_34, h⟩ := bnd2_some h
  have hl_35 : M_33.1.length = M.1.length + 6 := by rw [lenX0_init n M_28 a_30 _ hc_34, hl_32]
  obtain ⟨c_36, h⟩ := chk_some h
  obtain ⟨M_37, e_38, h⟩ := app_some h
  have hl_39 : M_37.1.length = M.1.length + 6 := by rw [← e_38]; exact hl_35
  cases h
  exact hl_39

def uX3_init : zMu := (yX3_init, cX3_init, 2, none, { frames := 2, cells := 22, slots := 98, locals := 36 }, [])
theorem zd_X3_init : (uY uX3_init).cls ≠ "java/lang/invoke/MethodHandle" ∧ (uY uX3_init).cls ≠ "java/lang/invoke/VarHandle" ∧ (parseMethodDescriptor (uY uX3_init).desc).map (fun d => d.parameters.length) = some 0 := by decide +kernel
def fX3_init (n : Nat) (M : zM) (v0 : Nat) : Option (Unit × zM) :=
  app (mNew M 5 0) fun M_1 : zM =>
  app M.1.length fun a_3 : Nat =>
  bnd2 (fX5_init n M_1 a_3) fun _ M_6 =>
  chk (mK M_6 v0 == 3) <|
  app (wR M_6 v0 3 (some a_3)) fun M_10 : zM =>
  app (mNew M_10 5 0) fun M_13 : zM =>
  app M_10.1.length fun a_15 : Nat =>
  bnd2 (fX5_init n M_13 a_15) fun _ M_18 =>
  chk (mK M_18 v0 == 3) <|
  app (wR M_18 v0 4 (some a_15)) fun M_22 : zM =>
  app (mNew M_22 15 9) fun M_25 : zM =>
  app M_22.1.length fun a_27 : Nat =>
  chk (mK M_25 v0 == 3) <|
  app (wR M_25 v0 5 (some a_27)) fun M_31 : zM =>
  app (mNew M_31 15 9) fun M_34 : zM =>
  app M_31.1.length fun a_36 : Nat =>
  chk (mK M_34 v0 == 3) <|
  app (wR M_34 v0 6 (some a_36)) fun M_40 : zM =>
  chk (mK M_40 v0 == 3) <|
  bnd (mR M_40 v0 5) fun a_45 =>
  app (mNew M_40 5 0) fun M_47 : zM =>
  app M_40.1.length fun a_49 : Nat =>
  bnd2 (fX5_init n M_47 a_49) fun _ M_52 =>
  chk (mK M_52 a_45 == 15) <|
  chk (mK M_52 a_49 == 5) <|
  chk (zin (0 : Int32) (mN M_52 a_45)) <|
  app (wR M_52 a_45 (Int32.toNatClampNeg (0 : Int32)) (some a_49)) fun M_58 : zM =>
  chk (mK M_58 v0 == 3) <|
  bnd (mR M_58 v0 6) fun a_62 =>
  app (mNew M_58 5 0) fun M_64 : zM =>
  app M_58.1.length fun a_66 : Nat =>
  bnd2 (fX5_init n M_64 a_66) fun _ M_69 =>
  chk (mK M_69 a_62 == 15) <|
  chk (mK M_69 a_66 == 5) <|
  chk (zin (0 : Int32) (mN M_69 a_62)) <|
  app (wR M_69 a_62 (Int32.toNatClampNeg (0 : Int32)) (some a_66)) fun M_75 : zM =>
  chk (mK M_75 v0 == 3) <|
  bnd (mR M_75 v0 5) fun a_80 =>
  app (mNew M_75 5 0) fun M_82 : zM =>
  app M_75.1.length fun a_84 : Nat =>
  bnd2 (fX5_init n M_82 a_84) fun _ M_87 =>
  chk (mK M_87 a_80 == 15) <|
  chk (mK M_87 a_84 == 5) <|
  chk (zin (1 : Int32) (mN M_87 a_80)) <|
  app (wR M_87 a_80 (Int32.toNatClampNeg (1 : Int32)) (some a_84)) fun M_93 : zM =>
  chk (mK M_93 v0 == 3) <|
  bnd (mR M_93 v0 6) fun a_97 =>
  app (mNew M_93 5 0) fun M_99 : zM =>
  app M_93.1.length fun a_101 : Nat =>
  bnd2 (fX5_init n M_99 a_101) fun _ M_104 =>
  chk (mK M_104 a_97 == 15) <|
  chk (mK M_104 a_101 == 5) <|
  chk (zin (1 : Int32) (mN M_104 a_97)) <|
  app (wR M_104 a_97 (Int32.toNatClampNeg (1 : Int32)) (some a_101)) fun M_110 : zM =>
  chk (mK M_110 v0 == 3) <|
  bnd (mR M_110 v0 5) fun a_115 =>
  app (mNew M_110 5 0) fun M_117 : zM =>
  app M_110.1.length fun a_119 : Nat =>
  bnd2 (fX5_init n M_117 a_119) fun _ M_122 =>
  chk (mK M_122 a_115 == 15) <|
  chk (mK M_122 a_119 == 5) <|
  chk (zin (2 : Int32) (mN M_122 a_115)) <|
  app (wR M_122 a_115 (Int32.toNatClampNeg (2 : Int32)) (some a_119)) fun M_128 : zM =>
  chk (mK M_128 v0 == 3) <|
  bnd (mR M_128 v0 6) fun a_132 =>
  app (mNew M_128 5 0) fun M_134 : zM =>
  app M_128.1.length fun a_136 : Nat =>
  bnd2 (fX5_init n M_134 a_136) fun _ M_139 =>
  chk (mK M_139 a_132 == 15) <|
  chk (mK M_139 a_136 == 5) <|
  chk (zin (2 : Int32) (mN M_139 a_132)) <|
  app (wR M_139 a_132 (Int32.toNatClampNeg (2 : Int32)) (some a_136)) fun M_145 : zM =>
  chk (mK M_145 v0 == 3) <|
  bnd (mR M_145 v0 5) fun a_150 =>
  app (mNew M_145 5 0) fun M_152 : zM =>
  app M_145.1.length fun a_154 : Nat =>
  bnd2 (fX5_init n M_152 a_154) fun _ M_157 =>
  chk (mK M_157 a_150 == 15) <|
  chk (mK M_157 a_154 == 5) <|
  chk (zin (3 : Int32) (mN M_157 a_150)) <|
  app (wR M_157 a_150 (Int32.toNatClampNeg (3 : Int32)) (some a_154)) fun M_163 : zM =>
  chk (mK M_163 v0 == 3) <|
  bnd (mR M_163 v0 6) fun a_167 =>
  app (mNew M_163 5 0) fun M_169 : zM =>
  app M_163.1.length fun a_171 : Nat =>
  bnd2 (fX5_init n M_169 a_171) fun _ M_174 =>
  chk (mK M_174 a_167 == 15) <|
  chk (mK M_174 a_171 == 5) <|
  chk (zin (3 : Int32) (mN M_174 a_167)) <|
  app (wR M_174 a_167 (Int32.toNatClampNeg (3 : Int32)) (some a_171)) fun M_180 : zM =>
  chk (mK M_180 v0 == 3) <|
  bnd (mR M_180 v0 5) fun a_185 =>
  app (mNew M_180 5 0) fun M_187 : zM =>
  app M_180.1.length fun a_189 : Nat =>
  bnd2 (fX5_init n M_187 a_189) fun _ M_192 =>
  chk (mK M_192 a_185 == 15) <|
  chk (mK M_192 a_189 == 5) <|
  chk (zin (4 : Int32) (mN M_192 a_185)) <|
  app (wR M_192 a_185 (Int32.toNatClampNeg (4 : Int32)) (some a_189)) fun M_198 : zM =>
  chk (mK M_198 v0 == 3) <|
  bnd (mR M_198 v0 6) fun a_202 =>
  app (mNew M_198 5 0) fun M_204 : zM =>
  app M_198.1.length fun a_206 : Nat =>
  bnd2 (fX5_init n M_204 a_206) fun _ M_209 =>
  chk (mK M_209 a_202 == 15) <|
  chk (mK M_209 a_206 == 5) <|
  chk (zin (4 : Int32) (mN M_209 a_202)) <|
  app (wR M_209 a_202 (Int32.toNatClampNeg (4 : Int32)) (some a_206)) fun M_215 : zM =>
  chk (mK M_215 v0 == 3) <|
  bnd (mR M_215 v0 5) fun a_220 =>
  app (mNew M_215 5 0) fun M_222 : zM =>
  app M_215.1.length fun a_224 : Nat =>
  bnd2 (fX5_init n M_222 a_224) fun _ M_227 =>
  chk (mK M_227 a_220 == 15) <|
  chk (mK M_227 a_224 == 5) <|
  chk (zin (5 : Int32) (mN M_227 a_220)) <|
  app (wR M_227 a_220 (Int32.toNatClampNeg (5 : Int32)) (some a_224)) fun M_233 : zM =>
  chk (mK M_233 v0 == 3) <|
  bnd (mR M_233 v0 6) fun a_237 =>
  app (mNew M_233 5 0) fun M_239 : zM =>
  app M_233.1.length fun a_241 : Nat =>
  bnd2 (fX5_init n M_239 a_241) fun _ M_244 =>
  chk (mK M_244 a_237 == 15) <|
  chk (mK M_244 a_241 == 5) <|
  chk (zin (5 : Int32) (mN M_244 a_237)) <|
  app (wR M_244 a_237 (Int32.toNatClampNeg (5 : Int32)) (some a_241)) fun M_250 : zM =>
  chk (mK M_250 v0 == 3) <|
  bnd (mR M_250 v0 5) fun a_255 =>
  app (mNew M_250 5 0) fun M_257 : zM =>
  app M_250.1.length fun a_259 : Nat =>
  bnd2 (fX5_init n M_257 a_259) fun _ M_262 =>
  chk (mK M_262 a_255 == 15) <|
  chk (mK M_262 a_259 == 5) <|
  chk (zin (6 : Int32) (mN M_262 a_255)) <|
  app (wR M_262 a_255 (Int32.toNatClampNeg (6 : Int32)) (some a_259)) fun M_268 : zM =>
  chk (mK M_268 v0 == 3) <|
  bnd (mR M_268 v0 6) fun a_272 =>
  app (mNew M_268 5 0) fun M_274 : zM =>
  app M_268.1.length fun a_276 : Nat =>
  bnd2 (fX5_init n M_274 a_276) fun _ M_279 =>
  chk (mK M_279 a_272 == 15) <|
  chk (mK M_279 a_276 == 5) <|
  chk (zin (6 : Int32) (mN M_279 a_272)) <|
  app (wR M_279 a_272 (Int32.toNatClampNeg (6 : Int32)) (some a_276)) fun M_285 : zM =>
  chk (mK M_285 v0 == 3) <|
  bnd (mR M_285 v0 5) fun a_290 =>
  app (mNew M_285 5 0) fun M_292 : zM =>
  app M_285.1.length fun a_294 : Nat =>
  bnd2 (fX5_init n M_292 a_294) fun _ M_297 =>
  chk (mK M_297 a_290 == 15) <|
  chk (mK M_297 a_294 == 5) <|
  chk (zin (7 : Int32) (mN M_297 a_290)) <|
  app (wR M_297 a_290 (Int32.toNatClampNeg (7 : Int32)) (some a_294)) fun M_303 : zM =>
  chk (mK M_303 v0 == 3) <|
  bnd (mR M_303 v0 6) fun a_307 =>
  app (mNew M_303 5 0) fun M_309 : zM =>
  app M_303.1.length fun a_311 : Nat =>
  bnd2 (fX5_init n M_309 a_311) fun _ M_314 =>
  chk (mK M_314 a_307 == 15) <|
  chk (mK M_314 a_311 == 5) <|
  chk (zin (7 : Int32) (mN M_314 a_307)) <|
  app (wR M_314 a_307 (Int32.toNatClampNeg (7 : Int32)) (some a_311)) fun M_320 : zM =>
  chk (mK M_320 v0 == 3) <|
  bnd (mR M_320 v0 5) fun a_325 =>
  app (mNew M_320 5 0) fun M_327 : zM =>
  app M_320.1.length fun a_329 : Nat =>
  bnd2 (fX5_init n M_327 a_329) fun _ M_332 =>
  chk (mK M_332 a_325 == 15) <|
  chk (mK M_332 a_329 == 5) <|
  chk (zin (8 : Int32) (mN M_332 a_325)) <|
  app (wR M_332 a_325 (Int32.toNatClampNeg (8 : Int32)) (some a_329)) fun M_338 : zM =>
  chk (mK M_338 v0 == 3) <|
  bnd (mR M_338 v0 6) fun a_342 =>
  app (mNew M_338 5 0) fun M_344 : zM =>
  app M_338.1.length fun a_346 : Nat =>
  bnd2 (fX5_init n M_344 a_346) fun _ M_349 =>
  chk (mK M_349 a_342 == 15) <|
  chk (mK M_349 a_346 == 5) <|
  chk (zin (8 : Int32) (mN M_349 a_342)) <|
  app (wR M_349 a_342 (Int32.toNatClampNeg (8 : Int32)) (some a_346)) fun M_355 : zM =>
  some ((), M_355)
set_option maxHeartbeats 4000000 in
set_option maxRecDepth 100000 in
theorem tX3_init (n : Nat) (M : zM) (v0 : Nat) (M' : zM) (h : fX3_init n M v0 = some ((), M')) : zMet uX3_init true M [.ref v0] (zE (oV ()) M') := by
  refine zMet_of (L := [(0, .ref v0)]) (by decide +kernel) rfl rfl (Nat.le_of_ble_eq_true rfl) ?_
  show zW uX3_init (some M.1.length) (0, 0) M 0 [(0, .ref v0)] [] (zE (oV ()) M')
  have hl0 : M.1.length = M.1.length + 0 := rfl
  unfold fX3_init at h
  refine zr_aload_n (q := 1) dX3_init_0 rfl rfl 0 rfl ?_
  refine zr_objInit (q := 4) dX3_init_1 rfl ⟨zb_570, zb_555, zb_556⟩ ⟨by decide, Nat.le_of_ble_eq_true rfl⟩ ?_
  refine zr_aload_n (q := 5) dX3_init_4 rfl rfl 0 rfl ?_
  obtain ⟨M_1, e_2, h⟩ := app_some h
  obtain ⟨a_3, e_4, h⟩ := app_some h
  refine zr_new (q := 8) (ci := 5) (u' := (1, 4)) rfl hl0 dX3_init_5 rfl rfl (by decide) rfl zbX5 tyX5_ok (by decide) ⟨zb_571, zb_572, zb_116⟩ ⟨by decide, by decide⟩ rfl ?_
  refine zr_mem e_2 ?_
  have hl_5 : M_1.1.length = M.1.length + 1 := by rw [← e_2, mNew_len, hl0]
  refine zr_nmA e_4 ?_
  refine zr_dup (q := 9) dX3_init_8 rfl rfl ?_
  obtain ⟨_, M_6, hc_7, h⟩ := bnd2_some h
  refine zr_callIN (μ' := uX5_init) (q := 12) (n := 0) (As := []) (u' := (1, 4)) rfl hl_5 (tX5_init n M_1 a_3 _ hc_7) dX3_init_9 rfl rfl (by decide +kernel) ⟨zb_573, zb_574, zb_116⟩ rfl rfl zd_X5_init ⟨by decide, by decide⟩ ⟨by decide, by decide⟩ rfl rfl (Nat.le_of_ble_eq_true rfl) rfl ?_
  have hl_8 : M_6.1.length = M.1.length + 1 := by rw [lenX5_init n M_1 a_3 _ hc_7, hl_5]
  obtain ⟨c_9, h⟩ := chk_some h
  obtain ⟨M_10, e_11, h⟩ := app_some h
  refine zr_putR (q := 15) (ci := 3) (k := 3) dX3_init_12 rfl (eq_of_beq c_9) rfl (by decide) rfl zbX3 tyX3_ok nmX3 (by decide) zb_136 (Or.inr ⟨rfl, rfl, rfl⟩) rfl ?_
  refine zr_mem e_11 ?_
  have hl_12 : M_10.1.length = M.1.length + 1 := by rw [← e_11]; exact hl_8
  refine zr_aload_n (q := 16) dX3_init_15 rfl rfl 0 rfl ?_
  obtain ⟨M_13, e_14, h⟩ := app_some h
  obtain ⟨a_15, e_16, h⟩ := app_some h
  refine zr_new (q := 19) (ci := 5) (u' := (2, 8)) rfl hl_12 dX3_init_16 rfl rfl (by decide) rfl zbX5 tyX5_ok (by decide) ⟨zb_571, zb_572, zb_116⟩ ⟨by decide, by decide⟩ rfl ?_
  refine zr_mem e_14 ?_
  have hl_17 : M_13.1.length = M.1.length + 2 := by rw [← e_14, mNew_len, hl_12]
  refine zr_nmA e_16 ?_
  refine zr_dup (q := 20) dX3_init_19 rfl rfl ?_
  obtain ⟨_, M_18, hc_19, h⟩ := bnd2_some h
  refine zr_callIN (μ' := uX5_init) (q := 23) (n := 0) (As := []) (u' := (2, 8)) rfl hl_17 (tX5_init n M_13 a_15 _ hc_19) dX3_init_20 rfl rfl (by decide +kernel) ⟨zb_573, zb_574, zb_116⟩ rfl rfl zd_X5_init ⟨by decide, by decide⟩ ⟨by decide, by decide⟩ rfl rfl (Nat.le_of_ble_eq_true rfl) rfl ?_
  have hl_20 : M_18.1.length = M.1.length + 2 := by rw [lenX5_init n M_13 a_15 _ hc_19, hl_17]
  obtain ⟨c_21, h⟩ := chk_some h
  obtain ⟨M_22, e_23, h⟩ := app_some h
  refine zr_putR (q := 26) (ci := 3) (k := 4) dX3_init_23 rfl (eq_of_beq c_21) rfl (by decide) rfl zbX3 tyX3_ok nmX3 (by decide) zb_159 (Or.inr ⟨rfl, rfl, rfl⟩) rfl ?_
  refine zr_mem e_23 ?_
  have hl_24 : M_22.1.length = M.1.length + 2 := by rw [← e_23]; exact hl_20
  refine zr_aload_n (q := 27) dX3_init_26 rfl rfl 0 rfl ?_
  refine zr_bipush (q := 29) (v := 9) dX3_init_27 rfl (by decide) ?_
  obtain ⟨M_25, e_26, h⟩ := app_some h
  obtain ⟨a_27, e_28, h⟩ := app_some h
  refine zr_anew (q := 32) (N := 9) (k := 4) (kd := 15) (C := "PatternHouse$Piece") (u' := (3, 17)) rfl hl_24 dX3_init_29 rfl (fun _ => rfl) rfl (by decide) (fun U h9 => h9.2.2.2.2.1) zb_571 (by decide) (by decide) (by decide) ⟨by decide, by decide⟩ rfl ?_
  refine zr_mem e_26 ?_
  have hl_29 : M_25.1.length = M.1.length + 3 := by rw [← e_26, mNew_len, hl_24]
  refine zr_nmA e_28 ?_
  obtain ⟨c_30, h⟩ := chk_some h
  obtain ⟨M_31, e_32, h⟩ := app_some h
  refine zr_putR (q := 35) (ci := 3) (k := 5) dX3_init_32 rfl (eq_of_beq c_30) rfl (by decide) rfl zbX3 tyX3_ok nmX3 (by decide) zb_108 (Or.inr ⟨rfl, rfl, rfl⟩) rfl ?_
  refine zr_mem e_32 ?_
  have hl_33 : M_31.1.length = M.1.length + 3 := by rw [← e_32]; exact hl_29
  refine zr_aload_n (q := 36) dX3_init_35 rfl rfl 0 rfl ?_
  refine zr_bipush (q := 38) (v := 9) dX3_init_36 rfl (by decide) ?_
  obtain ⟨M_34, e_35, h⟩ := app_some h
  obtain ⟨a_36, e_37, h⟩ := app_some h
  refine zr_anew (q := 41) (N := 9) (k := 4) (kd := 15) (C := "PatternHouse$Piece") (u' := (4, 26)) rfl hl_33 dX3_init_38 rfl (fun _ => rfl) rfl (by decide) (fun U h9 => h9.2.2.2.2.1) zb_571 (by decide) (by decide) (by decide) ⟨by decide, by decide⟩ rfl ?_
  refine zr_mem e_35 ?_
  have hl_38 : M_34.1.length = M.1.length + 4 := by rw [← e_35, mNew_len, hl_33]
  refine zr_nmA e_37 ?_
  obtain ⟨c_39, h⟩ := chk_some h
  obtain ⟨M_40, e_41, h⟩ := app_some h
  refine zr_putR (q := 44) (ci := 3) (k := 6) dX3_init_41 rfl (eq_of_beq c_39) rfl (by decide) rfl zbX3 tyX3_ok nmX3 (by decide) zb_118 (Or.inr ⟨rfl, rfl, rfl⟩) rfl ?_
  refine zr_mem e_41 ?_
  have hl_42 : M_40.1.length = M.1.length + 4 := by rw [← e_41]; exact hl_38
  refine zr_iconst (q := 45) (v := 0) dX3_init_44 rfl (by decide) ?_
  refine zr_istore_n (q := 46) (L' := [(1, .int (0 : Int32)), (0, .ref v0)]) dX3_init_45 rfl rfl (by decide) rfl ?_
  refine zr_iload_n (q := 47) dX3_init_46 rfl rfl 0 rfl ?_
  refine zr_bipush (q := 49) (v := 8) dX3_init_47 rfl (by decide) ?_
  refine zr_icmp_gt (q := 52) (tgt := 84) dX3_init_49 rfl (by decide) (fun c_43 => absurd c_43 (by decide)) (fun c_43 => ?_)
  refine zr_aload_n (q := 53) dX3_init_52 rfl rfl 1 rfl ?_
  obtain ⟨c_44, h⟩ := chk_some h
  obtain ⟨a_45, e_46, h⟩ := bnd_some h
  refine zr_getr (q := 56) (ci := 3) (k := 5) dX3_init_53 rfl (eq_of_beq c_44) rfl (by decide) rfl zbX3 (by decide) zb_108 rfl e_46 ?_
  refine zr_iload_n (q := 57) dX3_init_56 rfl rfl 0 rfl ?_
  obtain ⟨M_47, e_48, h⟩ := app_some h
  obtain ⟨a_49, e_50, h⟩ := app_some h
  refine zr_new (q := 60) (ci := 5) (u' := (5, 30)) rfl hl_42 dX3_init_57 rfl rfl (by decide) rfl zbX5 tyX5_ok (by decide) ⟨zb_571, zb_572, zb_116⟩ ⟨by decide, by decide⟩ rfl ?_
  refine zr_mem e_48 ?_
  have hl_51 : M_47.1.length = M.1.length + 5 := by rw [← e_48, mNew_len, hl_42]
  refine zr_nmA e_50 ?_
  refine zr_dup (q := 61) dX3_init_60 rfl rfl ?_
  obtain ⟨_, M_52, hc_53, h⟩ := bnd2_some h
  refine zr_callIN (μ' := uX5_init) (q := 64) (n := 0) (As := []) (u' := (5, 30)) rfl hl_51 (tX5_init n M_47 a_49 _ hc_53) dX3_init_61 rfl rfl (by decide +kernel) ⟨zb_573, zb_574, zb_116⟩ rfl rfl zd_X5_init ⟨by decide, by decide⟩ ⟨by decide, by decide⟩ rfl rfl (Nat.le_of_ble_eq_true rfl) rfl ?_
  have hl_54 : M_52.1.length = M.1.length + 5 := by rw [lenX5_init n M_47 a_49 _ hc_53, hl_51]
  obtain ⟨c_55, h⟩ := chk_some h
  obtain ⟨c_56, h⟩ := chk_some h
  obtain ⟨c_57, h⟩ := chk_some h
  obtain ⟨M_58, e_59, h⟩ := app_some h
  refine zr_aast (q := 65) (kd := 15) (ci := 5) (t0 := 4) dX3_init_64 rfl (eq_of_beq c_55) rfl (by decide) (by decide) (eq_of_beq c_56) (by decide) rfl (fun _ => rfl) c_57 ?_
  refine zr_mem e_59 ?_
  have hl_60 : M_58.1.length = M.1.length + 5 := by rw [← e_59]; exact hl_54
  refine zr_aload_n (q := 66) dX3_init_65 rfl rfl 1 rfl ?_
  obtain ⟨c_61, h⟩ := chk_some h
  obtain ⟨a_62, e_63, h⟩ := bnd_some h
  refine zr_getr (q := 69) (ci := 3) (k := 6) dX3_init_66 rfl (eq_of_beq c_61) rfl (by decide) rfl zbX3 (by decide) zb_118 rfl e_63 ?_
  refine zr_iload_n (q := 70) dX3_init_69 rfl rfl 0 rfl ?_
  obtain ⟨M_64, e_65, h⟩ := app_some h
  obtain ⟨a_66, e_67, h⟩ := app_some h
  refine zr_new (q := 73) (ci := 5) (u' := (6, 34)) rfl hl_60 dX3_init_70 rfl rfl (by decide) rfl zbX5 tyX5_ok (by decide) ⟨zb_571, zb_572, zb_116⟩ ⟨by decide, by decide⟩ rfl ?_
  refine zr_mem e_65 ?_
  have hl_68 : M_64.1.length = M.1.length + 6 := by rw [← e_65, mNew_len, hl_60]
  refine zr_nmA e_67 ?_
  refine zr_dup (q := 74) dX3_init_73 rfl rfl ?_
  obtain ⟨_, M_69, hc_70, h⟩ := bnd2_some h
  refine zr_callIN (μ' := uX5_init) (q := 77) (n := 0) (As := []) (u' := (6, 34)) rfl hl_68 (tX5_init n M_64 a_66 _ hc_70) dX3_init_74 rfl rfl (by decide +kernel) ⟨zb_573, zb_574, zb_116⟩ rfl rfl zd_X5_init ⟨by decide, by decide⟩ ⟨by decide, by decide⟩ rfl rfl (Nat.le_of_ble_eq_true rfl) rfl ?_
  have hl_71 : M_69.1.length = M.1.length + 6 := by rw [lenX5_init n M_64 a_66 _ hc_70, hl_68]
  obtain ⟨c_72, h⟩ := chk_some h
  obtain ⟨c_73, h⟩ := chk_some h
  obtain ⟨c_74, h⟩ := chk_some h
  obtain ⟨M_75, e_76, h⟩ := app_some h
  refine zr_aast (q := 78) (kd := 15) (ci := 5) (t0 := 4) dX3_init_77 rfl (eq_of_beq c_72) rfl (by decide) (by decide) (eq_of_beq c_73) (by decide) rfl (fun _ => rfl) c_74 ?_
  refine zr_mem e_76 ?_
  have hl_77 : M_75.1.length = M.1.length + 6 := by rw [← e_76]; exact hl_71
  refine zr_iinc (q := 81) (v := 1) (L' := [(1, .int (1 : Int32)), (0, .ref v0)]) dX3_init_78 rfl 0 rfl (by decide) (by decide) rfl ?_
  refine zr_goto (q := 46) dX3_init_81 (by decide) ?_
  refine zr_iload_n (q := 47) dX3_init_46 rfl rfl 0 rfl ?_
  refine zr_bipush (q := 49) (v := 8) dX3_init_47 rfl (by decide) ?_
  refine zr_icmp_gt (q := 52) (tgt := 84) dX3_init_49 rfl (by decide) (fun c_78 => absurd c_78 (by decide)) (fun c_78 => ?_)
  refine zr_aload_n (q := 53) dX3_init_52 rfl rfl 1 rfl ?_
  obtain ⟨c_79, h⟩ := chk_some h
  obtain ⟨a_80, e_81, h⟩ := bnd_some h
  refine zr_getr (q := 56) (ci := 3) (k := 5) dX3_init_53 rfl (eq_of_beq c_79) rfl (by decide) rfl zbX3 (by decide) zb_108 rfl e_81 ?_
  refine zr_iload_n (q := 57) dX3_init_56 rfl rfl 0 rfl ?_
  obtain ⟨M_82, e_83, h⟩ := app_some h
  obtain ⟨a_84, e_85, h⟩ := app_some h
  refine zr_new (q := 60) (ci := 5) (u' := (7, 38)) rfl hl_77 dX3_init_57 rfl rfl (by decide) rfl zbX5 tyX5_ok (by decide) ⟨zb_571, zb_572, zb_116⟩ ⟨by decide, by decide⟩ rfl ?_
  refine zr_mem e_83 ?_
  have hl_86 : M_82.1.length = M.1.length + 7 := by rw [← e_83, mNew_len, hl_77]
  refine zr_nmA e_85 ?_
  refine zr_dup (q := 61) dX3_init_60 rfl rfl ?_
  obtain ⟨_, M_87, hc_88, h⟩ := bnd2_some h
  refine zr_callIN (μ' := uX5_init) (q := 64) (n := 0) (As := []) (u' := (7, 38)) rfl hl_86 (tX5_init n M_82 a_84 _ hc_88) dX3_init_61 rfl rfl (by decide +kernel) ⟨zb_573, zb_574, zb_116⟩ rfl rfl zd_X5_init ⟨by decide, by decide⟩ ⟨by decide, by decide⟩ rfl rfl (Nat.le_of_ble_eq_true rfl) rfl ?_
  have hl_89 : M_87.1.length = M.1.length + 7 := by rw [lenX5_init n M_82 a_84 _ hc_88, hl_86]
  obtain ⟨c_90, h⟩ := chk_some h
  obtain ⟨c_91, h⟩ := chk_some h
  obtain ⟨c_92, h⟩ := chk_some h
  obtain ⟨M_93, e_94, h⟩ := app_some h
  refine zr_aast (q := 65) (kd := 15) (ci := 5) (t0 := 4) dX3_init_64 rfl (eq_of_beq c_90) rfl (by decide) (by decide) (eq_of_beq c_91) (by decide) rfl (fun _ => rfl) c_92 ?_
  refine zr_mem e_94 ?_
  have hl_95 : M_93.1.length = M.1.length + 7 := by rw [← e_94]; exact hl_89
  refine zr_aload_n (q := 66) dX3_init_65 rfl rfl 1 rfl ?_
  obtain ⟨c_96, h⟩ := chk_some h
  obtain ⟨a_97, e_98, h⟩ := bnd_some h
  refine zr_getr (q := 69) (ci := 3) (k := 6) dX3_init_66 rfl (eq_of_beq c_96) rfl (by decide) rfl zbX3 (by decide) zb_118 rfl e_98 ?_
  refine zr_iload_n (q := 70) dX3_init_69 rfl rfl 0 rfl ?_
  obtain ⟨M_99, e_100, h⟩ := app_some h
  obtain ⟨a_101, e_102, h⟩ := app_some h
  refine zr_new (q := 73) (ci := 5) (u' := (8, 42)) rfl hl_95 dX3_init_70 rfl rfl (by decide) rfl zbX5 tyX5_ok (by decide) ⟨zb_571, zb_572, zb_116⟩ ⟨by decide, by decide⟩ rfl ?_
  refine zr_mem e_100 ?_
  have hl_103 : M_99.1.length = M.1.length + 8 := by rw [← e_100, mNew_len, hl_95]
  refine zr_nmA e_102 ?_
  refine zr_dup (q := 74) dX3_init_73 rfl rfl ?_
  obtain ⟨_, M_104, hc_105, h⟩ := bnd2_some h
  refine zr_callIN (μ' := uX5_init) (q := 77) (n := 0) (As := []) (u' := (8, 42)) rfl hl_103 (tX5_init n M_99 a_101 _ hc_105) dX3_init_74 rfl rfl (by decide +kernel) ⟨zb_573, zb_574, zb_116⟩ rfl rfl zd_X5_init ⟨by decide, by decide⟩ ⟨by decide, by decide⟩ rfl rfl (Nat.le_of_ble_eq_true rfl) rfl ?_
  have hl_106 : M_104.1.length = M.1.length + 8 := by rw [lenX5_init n M_99 a_101 _ hc_105, hl_103]
  obtain ⟨c_107, h⟩ := chk_some h
  obtain ⟨c_108, h⟩ := chk_some h
  obtain ⟨c_109, h⟩ := chk_some h
  obtain ⟨M_110, e_111, h⟩ := app_some h
  refine zr_aast (q := 78) (kd := 15) (ci := 5) (t0 := 4) dX3_init_77 rfl (eq_of_beq c_107) rfl (by decide) (by decide) (eq_of_beq c_108) (by decide) rfl (fun _ => rfl) c_109 ?_
  refine zr_mem e_111 ?_
  have hl_112 : M_110.1.length = M.1.length + 8 := by rw [← e_111]; exact hl_106
  refine zr_iinc (q := 81) (v := 2) (L' := [(1, .int (2 : Int32)), (0, .ref v0)]) dX3_init_78 rfl 0 rfl (by decide) (by decide) rfl ?_
  refine zr_goto (q := 46) dX3_init_81 (by decide) ?_
  refine zr_iload_n (q := 47) dX3_init_46 rfl rfl 0 rfl ?_
  refine zr_bipush (q := 49) (v := 8) dX3_init_47 rfl (by decide) ?_
  refine zr_icmp_gt (q := 52) (tgt := 84) dX3_init_49 rfl (by decide) (fun c_113 => absurd c_113 (by decide)) (fun c_113 => ?_)
  refine zr_aload_n (q := 53) dX3_init_52 rfl rfl 1 rfl ?_
  obtain ⟨c_114, h⟩ := chk_some h
  obtain ⟨a_115, e_116, h⟩ := bnd_some h
  refine zr_getr (q := 56) (ci := 3) (k := 5) dX3_init_53 rfl (eq_of_beq c_114) rfl (by decide) rfl zbX3 (by decide) zb_108 rfl e_116 ?_
  refine zr_iload_n (q := 57) dX3_init_56 rfl rfl 0 rfl ?_
  obtain ⟨M_117, e_118, h⟩ := app_some h
  obtain ⟨a_119, e_120, h⟩ := app_some h
  refine zr_new (q := 60) (ci := 5) (u' := (9, 46)) rfl hl_112 dX3_init_57 rfl rfl (by decide) rfl zbX5 tyX5_ok (by decide) ⟨zb_571, zb_572, zb_116⟩ ⟨by decide, by decide⟩ rfl ?_
  refine zr_mem e_118 ?_
  have hl_121 : M_117.1.length = M.1.length + 9 := by rw [← e_118, mNew_len, hl_112]
  refine zr_nmA e_120 ?_
  refine zr_dup (q := 61) dX3_init_60 rfl rfl ?_
  obtain ⟨_, M_122, hc_123, h⟩ := bnd2_some h
  refine zr_callIN (μ' := uX5_init) (q := 64) (n := 0) (As := []) (u' := (9, 46)) rfl hl_121 (tX5_init n M_117 a_119 _ hc_123) dX3_init_61 rfl rfl (by decide +kernel) ⟨zb_573, zb_574, zb_116⟩ rfl rfl zd_X5_init ⟨by decide, by decide⟩ ⟨by decide, by decide⟩ rfl rfl (Nat.le_of_ble_eq_true rfl) rfl ?_
  have hl_124 : M_122.1.length = M.1.length + 9 := by rw [lenX5_init n M_117 a_119 _ hc_123, hl_121]
  obtain ⟨c_125, h⟩ := chk_some h
  obtain ⟨c_126, h⟩ := chk_some h
  obtain ⟨c_127, h⟩ := chk_some h
  obtain ⟨M_128, e_129, h⟩ := app_some h
  refine zr_aast (q := 65) (kd := 15) (ci := 5) (t0 := 4) dX3_init_64 rfl (eq_of_beq c_125) rfl (by decide) (by decide) (eq_of_beq c_126) (by decide) rfl (fun _ => rfl) c_127 ?_
  refine zr_mem e_129 ?_
  have hl_130 : M_128.1.length = M.1.length + 9 := by rw [← e_129]; exact hl_124
  refine zr_aload_n (q := 66) dX3_init_65 rfl rfl 1 rfl ?_
  obtain ⟨c_131, h⟩ := chk_some h
  obtain ⟨a_132, e_133, h⟩ := bnd_some h
  refine zr_getr (q := 69) (ci := 3) (k := 6) dX3_init_66 rfl (eq_of_beq c_131) rfl (by decide) rfl zbX3 (by decide) zb_118 rfl e_133 ?_
  refine zr_iload_n (q := 70) dX3_init_69 rfl rfl 0 rfl ?_
  obtain ⟨M_134, e_135, h⟩ := app_some h
  obtain ⟨a_136, e_137, h⟩ := app_some h
  refine zr_new (q := 73) (ci := 5) (u' := (10, 50)) rfl hl_130 dX3_init_70 rfl rfl (by decide) rfl zbX5 tyX5_ok (by decide) ⟨zb_571, zb_572, zb_116⟩ ⟨by decide, by decide⟩ rfl ?_
  refine zr_mem e_135 ?_
  have hl_138 : M_134.1.length = M.1.length + 10 := by rw [← e_135, mNew_len, hl_130]
  refine zr_nmA e_137 ?_
  refine zr_dup (q := 74) dX3_init_73 rfl rfl ?_
  obtain ⟨_, M_139, hc_140, h⟩ := bnd2_some h
  refine zr_callIN (μ' := uX5_init) (q := 77) (n := 0) (As := []) (u' := (10, 50)) rfl hl_138 (tX5_init n M_134 a_136 _ hc_140) dX3_init_74 rfl rfl (by decide +kernel) ⟨zb_573, zb_574, zb_116⟩ rfl rfl zd_X5_init ⟨by decide, by decide⟩ ⟨by decide, by decide⟩ rfl rfl (Nat.le_of_ble_eq_true rfl) rfl ?_
  have hl_141 : M_139.1.length = M.1.length + 10 := by rw [lenX5_init n M_134 a_136 _ hc_140, hl_138]
  obtain ⟨c_142, h⟩ := chk_some h
  obtain ⟨c_143, h⟩ := chk_some h
  obtain ⟨c_144, h⟩ := chk_some h
  obtain ⟨M_145, e_146, h⟩ := app_some h
  refine zr_aast (q := 78) (kd := 15) (ci := 5) (t0 := 4) dX3_init_77 rfl (eq_of_beq c_142) rfl (by decide) (by decide) (eq_of_beq c_143) (by decide) rfl (fun _ => rfl) c_144 ?_
  refine zr_mem e_146 ?_
  have hl_147 : M_145.1.length = M.1.length + 10 := by rw [← e_146]; exact hl_141
  refine zr_iinc (q := 81) (v := 3) (L' := [(1, .int (3 : Int32)), (0, .ref v0)]) dX3_init_78 rfl 0 rfl (by decide) (by decide) rfl ?_
  refine zr_goto (q := 46) dX3_init_81 (by decide) ?_
  refine zr_iload_n (q := 47) dX3_init_46 rfl rfl 0 rfl ?_
  refine zr_bipush (q := 49) (v := 8) dX3_init_47 rfl (by decide) ?_
  refine zr_icmp_gt (q := 52) (tgt := 84) dX3_init_49 rfl (by decide) (fun c_148 => absurd c_148 (by decide)) (fun c_148 => ?_)
  refine zr_aload_n (q := 53) dX3_init_52 rfl rfl 1 rfl ?_
  obtain ⟨c_149, h⟩ := chk_some h
  obtain ⟨a_150, e_151, h⟩ := bnd_some h
  refine zr_getr (q := 56) (ci := 3) (k := 5) dX3_init_53 rfl (eq_of_beq c_149) rfl (by decide) rfl zbX3 (by decide) zb_108 rfl e_151 ?_
  refine zr_iload_n (q := 57) dX3_init_56 rfl rfl 0 rfl ?_
  obtain ⟨M_152, e_153, h⟩ := app_some h
  obtain ⟨a_154, e_155, h⟩ := app_some h
  refine zr_new (q := 60) (ci := 5) (u' := (11, 54)) rfl hl_147 dX3_init_57 rfl rfl (by decide) rfl zbX5 tyX5_ok (by decide) ⟨zb_571, zb_572, zb_116⟩ ⟨by decide, by decide⟩ rfl ?_
  refine zr_mem e_153 ?_
  have hl_156 : M_152.1.length = M.1.length + 11 := by rw [← e_153, mNew_len, hl_147]
  refine zr_nmA e_155 ?_
  refine zr_dup (q := 61) dX3_init_60 rfl rfl ?_
  obtain ⟨_, M_157, hc_158, h⟩ := bnd2_some h
  refine zr_callIN (μ' := uX5_init) (q := 64) (n := 0) (As := []) (u' := (11, 54)) rfl hl_156 (tX5_init n M_152 a_154 _ hc_158) dX3_init_61 rfl rfl (by decide +kernel) ⟨zb_573, zb_574, zb_116⟩ rfl rfl zd_X5_init ⟨by decide, by decide⟩ ⟨by decide, by decide⟩ rfl rfl (Nat.le_of_ble_eq_true rfl) rfl ?_
  have hl_159 : M_157.1.length = M.1.length + 11 := by rw [lenX5_init n M_152 a_154 _ hc_158, hl_156]
  obtain ⟨c_160, h⟩ := chk_some h
  obtain ⟨c_161, h⟩ := chk_some h
  obtain ⟨c_162, h⟩ := chk_some h
  obtain ⟨M_163, e_164, h⟩ := app_some h
  refine zr_aast (q := 65) (kd := 15) (ci := 5) (t0 := 4) dX3_init_64 rfl (eq_of_beq c_160) rfl (by decide) (by decide) (eq_of_beq c_161) (by decide) rfl (fun _ => rfl) c_162 ?_
  refine zr_mem e_164 ?_
  have hl_165 : M_163.1.length = M.1.length + 11 := by rw [← e_164]; exact hl_159
  refine zr_aload_n (q := 66) dX3_init_65 rfl rfl 1 rfl ?_
  obtain ⟨c_166, h⟩ := chk_some h
  obtain ⟨a_167, e_168, h⟩ := bnd_some h
  refine zr_getr (q := 69) (ci := 3) (k := 6) dX3_init_66 rfl (eq_of_beq c_166) rfl (by decide) rfl zbX3 (by decide) zb_118 rfl e_168 ?_
  refine zr_iload_n (q := 70) dX3_init_69 rfl rfl 0 rfl ?_
  obtain ⟨M_169, e_170, h⟩ := app_some h
  obtain ⟨a_171, e_172, h⟩ := app_some h
  refine zr_new (q := 73) (ci := 5) (u' := (12, 58)) rfl hl_165 dX3_init_70 rfl rfl (by decide) rfl zbX5 tyX5_ok (by decide) ⟨zb_571, zb_572, zb_116⟩ ⟨by decide, by decide⟩ rfl ?_
  refine zr_mem e_170 ?_
  have hl_173 : M_169.1.length = M.1.length + 12 := by rw [← e_170, mNew_len, hl_165]
  refine zr_nmA e_172 ?_
  refine zr_dup (q := 74) dX3_init_73 rfl rfl ?_
  obtain ⟨_, M_174, hc_175, h⟩ := bnd2_some h
  refine zr_callIN (μ' := uX5_init) (q := 77) (n := 0) (As := []) (u' := (12, 58)) rfl hl_173 (tX5_init n M_169 a_171 _ hc_175) dX3_init_74 rfl rfl (by decide +kernel) ⟨zb_573, zb_574, zb_116⟩ rfl rfl zd_X5_init ⟨by decide, by decide⟩ ⟨by decide, by decide⟩ rfl rfl (Nat.le_of_ble_eq_true rfl) rfl ?_
  have hl_176 : M_174.1.length = M.1.length + 12 := by rw [lenX5_init n M_169 a_171 _ hc_175, hl_173]
  obtain ⟨c_177, h⟩ := chk_some h
  obtain ⟨c_178, h⟩ := chk_some h
  obtain ⟨c_179, h⟩ := chk_some h
  obtain ⟨M_180, e_181, h⟩ := app_some h
  refine zr_aast (q := 78) (kd := 15) (ci := 5) (t0 := 4) dX3_init_77 rfl (eq_of_beq c_177) rfl (by decide) (by decide) (eq_of_beq c_178) (by decide) rfl (fun _ => rfl) c_179 ?_
  refine zr_mem e_181 ?_
  have hl_182 : M_180.1.length = M.1.length + 12 := by rw [← e_181]; exact hl_176
  refine zr_iinc (q := 81) (v := 4) (L' := [(1, .int (4 : Int32)), (0, .ref v0)]) dX3_init_78 rfl 0 rfl (by decide) (by decide) rfl ?_
  refine zr_goto (q := 46) dX3_init_81 (by decide) ?_
  refine zr_iload_n (q := 47) dX3_init_46 rfl rfl 0 rfl ?_
  refine zr_bipush (q := 49) (v := 8) dX3_init_47 rfl (by decide) ?_
  refine zr_icmp_gt (q := 52) (tgt := 84) dX3_init_49 rfl (by decide) (fun c_183 => absurd c_183 (by decide)) (fun c_183 => ?_)
  refine zr_aload_n (q := 53) dX3_init_52 rfl rfl 1 rfl ?_
  obtain ⟨c_184, h⟩ := chk_some h
  obtain ⟨a_185, e_186, h⟩ := bnd_some h
  refine zr_getr (q := 56) (ci := 3) (k := 5) dX3_init_53 rfl (eq_of_beq c_184) rfl (by decide) rfl zbX3 (by decide) zb_108 rfl e_186 ?_
  refine zr_iload_n (q := 57) dX3_init_56 rfl rfl 0 rfl ?_
  obtain ⟨M_187, e_188, h⟩ := app_some h
  obtain ⟨a_189, e_190, h⟩ := app_some h
  refine zr_new (q := 60) (ci := 5) (u' := (13, 62)) rfl hl_182 dX3_init_57 rfl rfl (by decide) rfl zbX5 tyX5_ok (by decide) ⟨zb_571, zb_572, zb_116⟩ ⟨by decide, by decide⟩ rfl ?_
  refine zr_mem e_188 ?_
  have hl_191 : M_187.1.length = M.1.length + 13 := by rw [← e_188, mNew_len, hl_182]
  refine zr_nmA e_190 ?_
  refine zr_dup (q := 61) dX3_init_60 rfl rfl ?_
  obtain ⟨_, M_192, hc_193, h⟩ := bnd2_some h
  refine zr_callIN (μ' := uX5_init) (q := 64) (n := 0) (As := []) (u' := (13, 62)) rfl hl_191 (tX5_init n M_187 a_189 _ hc_193) dX3_init_61 rfl rfl (by decide +kernel) ⟨zb_573, zb_574, zb_116⟩ rfl rfl zd_X5_init ⟨by decide, by decide⟩ ⟨by decide, by decide⟩ rfl rfl (Nat.le_of_ble_eq_true rfl) rfl ?_
  have hl_194 : M_192.1.length = M.1.length + 13 := by rw [lenX5_init n M_187 a_189 _ hc_193, hl_191]
  obtain ⟨c_195, h⟩ := chk_some h
  obtain ⟨c_196, h⟩ := chk_some h
  obtain ⟨c_197, h⟩ := chk_some h
  obtain ⟨M_198, e_199, h⟩ := app_some h
  refine zr_aast (q := 65) (kd := 15) (ci := 5) (t0 := 4) dX3_init_64 rfl (eq_of_beq c_195) rfl (by decide) (by decide) (eq_of_beq c_196) (by decide) rfl (fun _ => rfl) c_197 ?_
  refine zr_mem e_199 ?_
  have hl_200 : M_198.1.length = M.1.length + 13 := by rw [← e_199]; exact hl_194
  refine zr_aload_n (q := 66) dX3_init_65 rfl rfl 1 rfl ?_
  obtain ⟨c_201, h⟩ := chk_some h
  obtain ⟨a_202, e_203, h⟩ := bnd_some h
  refine zr_getr (q := 69) (ci := 3) (k := 6) dX3_init_66 rfl (eq_of_beq c_201) rfl (by decide) rfl zbX3 (by decide) zb_118 rfl e_203 ?_
  refine zr_iload_n (q := 70) dX3_init_69 rfl rfl 0 rfl ?_
  obtain ⟨M_204, e_205, h⟩ := app_some h
  obtain ⟨a_206, e_207, h⟩ := app_some h
  refine zr_new (q := 73) (ci := 5) (u' := (14, 66)) rfl hl_200 dX3_init_70 rfl rfl (by decide) rfl zbX5 tyX5_ok (by decide) ⟨zb_571, zb_572, zb_116⟩ ⟨by decide, by decide⟩ rfl ?_
  refine zr_mem e_205 ?_
  have hl_208 : M_204.1.length = M.1.length + 14 := by rw [← e_205, mNew_len, hl_200]
  refine zr_nmA e_207 ?_
  refine zr_dup (q := 74) dX3_init_73 rfl rfl ?_
  obtain ⟨_, M_209, hc_210, h⟩ := bnd2_some h
  refine zr_callIN (μ' := uX5_init) (q := 77) (n := 0) (As := []) (u' := (14, 66)) rfl hl_208 (tX5_init n M_204 a_206 _ hc_210) dX3_init_74 rfl rfl (by decide +kernel) ⟨zb_573, zb_574, zb_116⟩ rfl rfl zd_X5_init ⟨by decide, by decide⟩ ⟨by decide, by decide⟩ rfl rfl (Nat.le_of_ble_eq_true rfl) rfl ?_
  have hl_211 : M_209.1.length = M.1.length + 14 := by rw [lenX5_init n M_204 a_206 _ hc_210, hl_208]
  obtain ⟨c_212, h⟩ := chk_some h
  obtain ⟨c_213, h⟩ := chk_some h
  obtain ⟨c_214, h⟩ := chk_some h
  obtain ⟨M_215, e_216, h⟩ := app_some h
  refine zr_aast (q := 78) (kd := 15) (ci := 5) (t0 := 4) dX3_init_77 rfl (eq_of_beq c_212) rfl (by decide) (by decide) (eq_of_beq c_213) (by decide) rfl (fun _ => rfl) c_214 ?_
  refine zr_mem e_216 ?_
  have hl_217 : M_215.1.length = M.1.length + 14 := by rw [← e_216]; exact hl_211
  refine zr_iinc (q := 81) (v := 5) (L' := [(1, .int (5 : Int32)), (0, .ref v0)]) dX3_init_78 rfl 0 rfl (by decide) (by decide) rfl ?_
  refine zr_goto (q := 46) dX3_init_81 (by decide) ?_
  refine zr_iload_n (q := 47) dX3_init_46 rfl rfl 0 rfl ?_
  refine zr_bipush (q := 49) (v := 8) dX3_init_47 rfl (by decide) ?_
  refine zr_icmp_gt (q := 52) (tgt := 84) dX3_init_49 rfl (by decide) (fun c_218 => absurd c_218 (by decide)) (fun c_218 => ?_)
  refine zr_aload_n (q := 53) dX3_init_52 rfl rfl 1 rfl ?_
  obtain ⟨c_219, h⟩ := chk_some h
  obtain ⟨a_220, e_221, h⟩ := bnd_some h
  refine zr_getr (q := 56) (ci := 3) (k := 5) dX3_init_53 rfl (eq_of_beq c_219) rfl (by decide) rfl zbX3 (by decide) zb_108 rfl e_221 ?_
  refine zr_iload_n (q := 57) dX3_init_56 rfl rfl 0 rfl ?_
  obtain ⟨M_222, e_223, h⟩ := app_some h
  obtain ⟨a_224, e_225, h⟩ := app_some h
  refine zr_new (q := 60) (ci := 5) (u' := (15, 70)) rfl hl_217 dX3_init_57 rfl rfl (by decide) rfl zbX5 tyX5_ok (by decide) ⟨zb_571, zb_572, zb_116⟩ ⟨by decide, by decide⟩ rfl ?_
  refine zr_mem e_223 ?_
  have hl_226 : M_222.1.length = M.1.length + 15 := by rw [← e_223, mNew_len, hl_217]
  refine zr_nmA e_225 ?_
  refine zr_dup (q := 61) dX3_init_60 rfl rfl ?_
  obtain ⟨_, M_227, hc_228, h⟩ := bnd2_some h
  refine zr_callIN (μ' := uX5_init) (q := 64) (n := 0) (As := []) (u' := (15, 70)) rfl hl_226 (tX5_init n M_222 a_224 _ hc_228) dX3_init_61 rfl rfl (by decide +kernel) ⟨zb_573, zb_574, zb_116⟩ rfl rfl zd_X5_init ⟨by decide, by decide⟩ ⟨by decide, by decide⟩ rfl rfl (Nat.le_of_ble_eq_true rfl) rfl ?_
  have hl_229 : M_227.1.length = M.1.length + 15 := by rw [lenX5_init n M_222 a_224 _ hc_228, hl_226]
  obtain ⟨c_230, h⟩ := chk_some h
  obtain ⟨c_231, h⟩ := chk_some h
  obtain ⟨c_232, h⟩ := chk_some h
  obtain ⟨M_233, e_234, h⟩ := app_some h
  refine zr_aast (q := 65) (kd := 15) (ci := 5) (t0 := 4) dX3_init_64 rfl (eq_of_beq c_230) rfl (by decide) (by decide) (eq_of_beq c_231) (by decide) rfl (fun _ => rfl) c_232 ?_
  refine zr_mem e_234 ?_
  have hl_235 : M_233.1.length = M.1.length + 15 := by rw [← e_234]; exact hl_229
  refine zr_aload_n (q := 66) dX3_init_65 rfl rfl 1 rfl ?_
  obtain ⟨c_236, h⟩ := chk_some h
  obtain ⟨a_237, e_238, h⟩ := bnd_some h
  refine zr_getr (q := 69) (ci := 3) (k := 6) dX3_init_66 rfl (eq_of_beq c_236) rfl (by decide) rfl zbX3 (by decide) zb_118 rfl e_238 ?_
  refine zr_iload_n (q := 70) dX3_init_69 rfl rfl 0 rfl ?_
  obtain ⟨M_239, e_240, h⟩ := app_some h
  obtain ⟨a_241, e_242, h⟩ := app_some h
  refine zr_new (q := 73) (ci := 5) (u' := (16, 74)) rfl hl_235 dX3_init_70 rfl rfl (by decide) rfl zbX5 tyX5_ok (by decide) ⟨zb_571, zb_572, zb_116⟩ ⟨by decide, by decide⟩ rfl ?_
  refine zr_mem e_240 ?_
  have hl_243 : M_239.1.length = M.1.length + 16 := by rw [← e_240, mNew_len, hl_235]
  refine zr_nmA e_242 ?_
  refine zr_dup (q := 74) dX3_init_73 rfl rfl ?_
  obtain ⟨_, M_244, hc_245, h⟩ := bnd2_some h
  refine zr_callIN (μ' := uX5_init) (q := 77) (n := 0) (As := []) (u' := (16, 74)) rfl hl_243 (tX5_init n M_239 a_241 _ hc_245) dX3_init_74 rfl rfl (by decide +kernel) ⟨zb_573, zb_574, zb_116⟩ rfl rfl zd_X5_init ⟨by decide, by decide⟩ ⟨by decide, by decide⟩ rfl rfl (Nat.le_of_ble_eq_true rfl) rfl ?_
  have hl_246 : M_244.1.length = M.1.length + 16 := by rw [lenX5_init n M_239 a_241 _ hc_245, hl_243]
  obtain ⟨c_247, h⟩ := chk_some h
  obtain ⟨c_248, h⟩ := chk_some h
  obtain ⟨c_249, h⟩ := chk_some h
  obtain ⟨M_250, e_251, h⟩ := app_some h
  refine zr_aast (q := 78) (kd := 15) (ci := 5) (t0 := 4) dX3_init_77 rfl (eq_of_beq c_247) rfl (by decide) (by decide) (eq_of_beq c_248) (by decide) rfl (fun _ => rfl) c_249 ?_
  refine zr_mem e_251 ?_
  have hl_252 : M_250.1.length = M.1.length + 16 := by rw [← e_251]; exact hl_246
  refine zr_iinc (q := 81) (v := 6) (L' := [(1, .int (6 : Int32)), (0, .ref v0)]) dX3_init_78 rfl 0 rfl (by decide) (by decide) rfl ?_
  refine zr_goto (q := 46) dX3_init_81 (by decide) ?_
  refine zr_iload_n (q := 47) dX3_init_46 rfl rfl 0 rfl ?_
  refine zr_bipush (q := 49) (v := 8) dX3_init_47 rfl (by decide) ?_
  refine zr_icmp_gt (q := 52) (tgt := 84) dX3_init_49 rfl (by decide) (fun c_253 => absurd c_253 (by decide)) (fun c_253 => ?_)
  refine zr_aload_n (q := 53) dX3_init_52 rfl rfl 1 rfl ?_
  obtain ⟨c_254, h⟩ := chk_some h
  obtain ⟨a_255, e_256, h⟩ := bnd_some h
  refine zr_getr (q := 56) (ci := 3) (k := 5) dX3_init_53 rfl (eq_of_beq c_254) rfl (by decide) rfl zbX3 (by decide) zb_108 rfl e_256 ?_
  refine zr_iload_n (q := 57) dX3_init_56 rfl rfl 0 rfl ?_
  obtain ⟨M_257, e_258, h⟩ := app_some h
  obtain ⟨a_259, e_260, h⟩ := app_some h
  refine zr_new (q := 60) (ci := 5) (u' := (17, 78)) rfl hl_252 dX3_init_57 rfl rfl (by decide) rfl zbX5 tyX5_ok (by decide) ⟨zb_571, zb_572, zb_116⟩ ⟨by decide, by decide⟩ rfl ?_
  refine zr_mem e_258 ?_
  have hl_261 : M_257.1.length = M.1.length + 17 := by rw [← e_258, mNew_len, hl_252]
  refine zr_nmA e_260 ?_
  refine zr_dup (q := 61) dX3_init_60 rfl rfl ?_
  obtain ⟨_, M_262, hc_263, h⟩ := bnd2_some h
  refine zr_callIN (μ' := uX5_init) (q := 64) (n := 0) (As := []) (u' := (17, 78)) rfl hl_261 (tX5_init n M_257 a_259 _ hc_263) dX3_init_61 rfl rfl (by decide +kernel) ⟨zb_573, zb_574, zb_116⟩ rfl rfl zd_X5_init ⟨by decide, by decide⟩ ⟨by decide, by decide⟩ rfl rfl (Nat.le_of_ble_eq_true rfl) rfl ?_
  have hl_264 : M_262.1.length = M.1.length + 17 := by rw [lenX5_init n M_257 a_259 _ hc_263, hl_261]
  obtain ⟨c_265, h⟩ := chk_some h
  obtain ⟨c_266, h⟩ := chk_some h
  obtain ⟨c_267, h⟩ := chk_some h
  obtain ⟨M_268, e_269, h⟩ := app_some h
  refine zr_aast (q := 65) (kd := 15) (ci := 5) (t0 := 4) dX3_init_64 rfl (eq_of_beq c_265) rfl (by decide) (by decide) (eq_of_beq c_266) (by decide) rfl (fun _ => rfl) c_267 ?_
  refine zr_mem e_269 ?_
  have hl_270 : M_268.1.length = M.1.length + 17 := by rw [← e_269]; exact hl_264
  refine zr_aload_n (q := 66) dX3_init_65 rfl rfl 1 rfl ?_
  obtain ⟨c_271, h⟩ := chk_some h
  obtain ⟨a_272, e_273, h⟩ := bnd_some h
  refine zr_getr (q := 69) (ci := 3) (k := 6) dX3_init_66 rfl (eq_of_beq c_271) rfl (by decide) rfl zbX3 (by decide) zb_118 rfl e_273 ?_
  refine zr_iload_n (q := 70) dX3_init_69 rfl rfl 0 rfl ?_
  obtain ⟨M_274, e_275, h⟩ := app_some h
  obtain ⟨a_276, e_277, h⟩ := app_some h
  refine zr_new (q := 73) (ci := 5) (u' := (18, 82)) rfl hl_270 dX3_init_70 rfl rfl (by decide) rfl zbX5 tyX5_ok (by decide) ⟨zb_571, zb_572, zb_116⟩ ⟨by decide, by decide⟩ rfl ?_
  refine zr_mem e_275 ?_
  have hl_278 : M_274.1.length = M.1.length + 18 := by rw [← e_275, mNew_len, hl_270]
  refine zr_nmA e_277 ?_
  refine zr_dup (q := 74) dX3_init_73 rfl rfl ?_
  obtain ⟨_, M_279, hc_280, h⟩ := bnd2_some h
  refine zr_callIN (μ' := uX5_init) (q := 77) (n := 0) (As := []) (u' := (18, 82)) rfl hl_278 (tX5_init n M_274 a_276 _ hc_280) dX3_init_74 rfl rfl (by decide +kernel) ⟨zb_573, zb_574, zb_116⟩ rfl rfl zd_X5_init ⟨by decide, by decide⟩ ⟨by decide, by decide⟩ rfl rfl (Nat.le_of_ble_eq_true rfl) rfl ?_
  have hl_281 : M_279.1.length = M.1.length + 18 := by rw [lenX5_init n M_274 a_276 _ hc_280, hl_278]
  obtain ⟨c_282, h⟩ := chk_some h
  obtain ⟨c_283, h⟩ := chk_some h
  obtain ⟨c_284, h⟩ := chk_some h
  obtain ⟨M_285, e_286, h⟩ := app_some h
  refine zr_aast (q := 78) (kd := 15) (ci := 5) (t0 := 4) dX3_init_77 rfl (eq_of_beq c_282) rfl (by decide) (by decide) (eq_of_beq c_283) (by decide) rfl (fun _ => rfl) c_284 ?_
  refine zr_mem e_286 ?_
  have hl_287 : M_285.1.length = M.1.length + 18 := by rw [← e_286]; exact hl_281
  refine zr_iinc (q := 81) (v := 7) (L' := [(1, .int (7 : Int32)), (0, .ref v0)]) dX3_init_78 rfl 0 rfl (by decide) (by decide) rfl ?_
  refine zr_goto (q := 46) dX3_init_81 (by decide) ?_
  refine zr_iload_n (q := 47) dX3_init_46 rfl rfl 0 rfl ?_
  refine zr_bipush (q := 49) (v := 8) dX3_init_47 rfl (by decide) ?_
  refine zr_icmp_gt (q := 52) (tgt := 84) dX3_init_49 rfl (by decide) (fun c_288 => absurd c_288 (by decide)) (fun c_288 => ?_)
  refine zr_aload_n (q := 53) dX3_init_52 rfl rfl 1 rfl ?_
  obtain ⟨c_289, h⟩ := chk_some h
  obtain ⟨a_290, e_291, h⟩ := bnd_some h
  refine zr_getr (q := 56) (ci := 3) (k := 5) dX3_init_53 rfl (eq_of_beq c_289) rfl (by decide) rfl zbX3 (by decide) zb_108 rfl e_291 ?_
  refine zr_iload_n (q := 57) dX3_init_56 rfl rfl 0 rfl ?_
  obtain ⟨M_292, e_293, h⟩ := app_some h
  obtain ⟨a_294, e_295, h⟩ := app_some h
  refine zr_new (q := 60) (ci := 5) (u' := (19, 86)) rfl hl_287 dX3_init_57 rfl rfl (by decide) rfl zbX5 tyX5_ok (by decide) ⟨zb_571, zb_572, zb_116⟩ ⟨by decide, by decide⟩ rfl ?_
  refine zr_mem e_293 ?_
  have hl_296 : M_292.1.length = M.1.length + 19 := by rw [← e_293, mNew_len, hl_287]
  refine zr_nmA e_295 ?_
  refine zr_dup (q := 61) dX3_init_60 rfl rfl ?_
  obtain ⟨_, M_297, hc_298, h⟩ := bnd2_some h
  refine zr_callIN (μ' := uX5_init) (q := 64) (n := 0) (As := []) (u' := (19, 86)) rfl hl_296 (tX5_init n M_292 a_294 _ hc_298) dX3_init_61 rfl rfl (by decide +kernel) ⟨zb_573, zb_574, zb_116⟩ rfl rfl zd_X5_init ⟨by decide, by decide⟩ ⟨by decide, by decide⟩ rfl rfl (Nat.le_of_ble_eq_true rfl) rfl ?_
  have hl_299 : M_297.1.length = M.1.length + 19 := by rw [lenX5_init n M_292 a_294 _ hc_298, hl_296]
  obtain ⟨c_300, h⟩ := chk_some h
  obtain ⟨c_301, h⟩ := chk_some h
  obtain ⟨c_302, h⟩ := chk_some h
  obtain ⟨M_303, e_304, h⟩ := app_some h
  refine zr_aast (q := 65) (kd := 15) (ci := 5) (t0 := 4) dX3_init_64 rfl (eq_of_beq c_300) rfl (by decide) (by decide) (eq_of_beq c_301) (by decide) rfl (fun _ => rfl) c_302 ?_
  refine zr_mem e_304 ?_
  have hl_305 : M_303.1.length = M.1.length + 19 := by rw [← e_304]; exact hl_299
  refine zr_aload_n (q := 66) dX3_init_65 rfl rfl 1 rfl ?_
  obtain ⟨c_306, h⟩ := chk_some h
  obtain ⟨a_307, e_308, h⟩ := bnd_some h
  refine zr_getr (q := 69) (ci := 3) (k := 6) dX3_init_66 rfl (eq_of_beq c_306) rfl (by decide) rfl zbX3 (by decide) zb_118 rfl e_308 ?_
  refine zr_iload_n (q := 70) dX3_init_69 rfl rfl 0 rfl ?_
  obtain ⟨M_309, e_310, h⟩ := app_some h
  obtain ⟨a_311, e_312, h⟩ := app_some h
  refine zr_new (q := 73) (ci := 5) (u' := (20, 90)) rfl hl_305 dX3_init_70 rfl rfl (by decide) rfl zbX5 tyX5_ok (by decide) ⟨zb_571, zb_572, zb_116⟩ ⟨by decide, by decide⟩ rfl ?_
  refine zr_mem e_310 ?_
  have hl_313 : M_309.1.length = M.1.length + 20 := by rw [← e_310, mNew_len, hl_305]
  refine zr_nmA e_312 ?_
  refine zr_dup (q := 74) dX3_init_73 rfl rfl ?_
  obtain ⟨_, M_314, hc_315, h⟩ := bnd2_some h
  refine zr_callIN (μ' := uX5_init) (q := 77) (n := 0) (As := []) (u' := (20, 90)) rfl hl_313 (tX5_init n M_309 a_311 _ hc_315) dX3_init_74 rfl rfl (by decide +kernel) ⟨zb_573, zb_574, zb_116⟩ rfl rfl zd_X5_init ⟨by decide, by decide⟩ ⟨by decide, by decide⟩ rfl rfl (Nat.le_of_ble_eq_true rfl) rfl ?_
  have hl_316 : M_314.1.length = M.1.length + 20 := by rw [lenX5_init n M_309 a_311 _ hc_315, hl_313]
  obtain ⟨c_317, h⟩ := chk_some h
  obtain ⟨c_318, h⟩ := chk_some h
  obtain ⟨c_319, h⟩ := chk_some h
  obtain ⟨M_320, e_321, h⟩ := app_some h
  refine zr_aast (q := 78) (kd := 15) (ci := 5) (t0 := 4) dX3_init_77 rfl (eq_of_beq c_317) rfl (by decide) (by decide) (eq_of_beq c_318) (by decide) rfl (fun _ => rfl) c_319 ?_
  refine zr_mem e_321 ?_
  have hl_322 : M_320.1.length = M.1.length + 20 := by rw [← e_321]; exact hl_316
  refine zr_iinc (q := 81) (v := 8) (L' := [(1, .int (8 : Int32)), (0, .ref v0)]) dX3_init_78 rfl 0 rfl (by decide) (by decide) rfl ?_
  refine zr_goto (q := 46) dX3_init_81 (by decide) ?_
  refine zr_iload_n (q := 47) dX3_init_46 rfl rfl 0 rfl ?_
  refine zr_bipush (q := 49) (v := 8) dX3_init_47 rfl (by decide) ?_
  refine zr_icmp_gt (q := 52) (tgt := 84) dX3_init_49 rfl (by decide) (fun c_323 => absurd c_323 (by decide)) (fun c_323 => ?_)
  refine zr_aload_n (q := 53) dX3_init_52 rfl rfl 1 rfl ?_
  obtain ⟨c_324, h⟩ := chk_some h
  obtain ⟨a_325, e_326, h⟩ := bnd_some h
  refine zr_getr (q := 56) (ci := 3) (k := 5) dX3_init_53 rfl (eq_of_beq c_324) rfl (by decide) rfl zbX3 (by decide) zb_108 rfl e_326 ?_
  refine zr_iload_n (q := 57) dX3_init_56 rfl rfl 0 rfl ?_
  obtain ⟨M_327, e_328, h⟩ := app_some h
  obtain ⟨a_329, e_330, h⟩ := app_some h
  refine zr_new (q := 60) (ci := 5) (u' := (21, 94)) rfl hl_322 dX3_init_57 rfl rfl (by decide) rfl zbX5 tyX5_ok (by decide) ⟨zb_571, zb_572, zb_116⟩ ⟨by decide, by decide⟩ rfl ?_
  refine zr_mem e_328 ?_
  have hl_331 : M_327.1.length = M.1.length + 21 := by rw [← e_328, mNew_len, hl_322]
  refine zr_nmA e_330 ?_
  refine zr_dup (q := 61) dX3_init_60 rfl rfl ?_
  obtain ⟨_, M_332, hc_333, h⟩ := bnd2_some h
  refine zr_callIN (μ' := uX5_init) (q := 64) (n := 0) (As := []) (u' := (21, 94)) rfl hl_331 (tX5_init n M_327 a_329 _ hc_333) dX3_init_61 rfl rfl (by decide +kernel) ⟨zb_573, zb_574, zb_116⟩ rfl rfl zd_X5_init ⟨by decide, by decide⟩ ⟨by decide, by decide⟩ rfl rfl (Nat.le_of_ble_eq_true rfl) rfl ?_
  have hl_334 : M_332.1.length = M.1.length + 21 := by rw [lenX5_init n M_327 a_329 _ hc_333, hl_331]
  obtain ⟨c_335, h⟩ := chk_some h
  obtain ⟨c_336, h⟩ := chk_some h
  obtain ⟨c_337, h⟩ := chk_some h
  obtain ⟨M_338, e_339, h⟩ := app_some h
  refine zr_aast (q := 65) (kd := 15) (ci := 5) (t0 := 4) dX3_init_64 rfl (eq_of_beq c_335) rfl (by decide) (by decide) (eq_of_beq c_336) (by decide) rfl (fun _ => rfl) c_337 ?_
  refine zr_mem e_339 ?_
  have hl_340 : M_338.1.length = M.1.length + 21 := by rw [← e_339]; exact hl_334
  refine zr_aload_n (q := 66) dX3_init_65 rfl rfl 1 rfl ?_
  obtain ⟨c_341, h⟩ := chk_some h
  obtain ⟨a_342, e_343, h⟩ := bnd_some h
  refine zr_getr (q := 69) (ci := 3) (k := 6) dX3_init_66 rfl (eq_of_beq c_341) rfl (by decide) rfl zbX3 (by decide) zb_118 rfl e_343 ?_
  refine zr_iload_n (q := 70) dX3_init_69 rfl rfl 0 rfl ?_
  obtain ⟨M_344, e_345, h⟩ := app_some h
  obtain ⟨a_346, e_347, h⟩ := app_some h
  refine zr_new (q := 73) (ci := 5) (u' := (22, 98)) rfl hl_340 dX3_init_70 rfl rfl (by decide) rfl zbX5 tyX5_ok (by decide) ⟨zb_571, zb_572, zb_116⟩ ⟨by decide, by decide⟩ rfl ?_
  refine zr_mem e_345 ?_
  have hl_348 : M_344.1.length = M.1.length + 22 := by rw [← e_345, mNew_len, hl_340]
  refine zr_nmA e_347 ?_
  refine zr_dup (q := 74) dX3_init_73 rfl rfl ?_
  obtain ⟨_, M_349, hc_350, h⟩ := bnd2_some h
  refine zr_callIN (μ' := uX5_init) (q := 77) (n := 0) (As := []) (u' := (22, 98)) rfl hl_348 (tX5_init n M_344 a_346 _ hc_350) dX3_init_74 rfl rfl (by decide +kernel) ⟨zb_573, zb_574, zb_116⟩ rfl rfl zd_X5_init ⟨by decide, by decide⟩ ⟨by decide, by decide⟩ rfl rfl (Nat.le_of_ble_eq_true rfl) rfl ?_
  have hl_351 : M_349.1.length = M.1.length + 22 := by rw [lenX5_init n M_344 a_346 _ hc_350, hl_348]
  obtain ⟨c_352, h⟩ := chk_some h
  obtain ⟨c_353, h⟩ := chk_some h
  obtain ⟨c_354, h⟩ := chk_some h
  obtain ⟨M_355, e_356, h⟩ := app_some h
  refine zr_aast (q := 78) (kd := 15) (ci := 5) (t0 := 4) dX3_init_77 rfl (eq_of_beq c_352) rfl (by decide) (by decide) (eq_of_beq c_353) (by decide) rfl (fun _ => rfl) c_354 ?_
  refine zr_mem e_356 ?_
  have hl_357 : M_355.1.length = M.1.length + 22 := by rw [← e_356]; exact hl_351
  refine zr_iinc (q := 81) (v := 9) (L' := [(1, .int (9 : Int32)), (0, .ref v0)]) dX3_init_78 rfl 0 rfl (by decide) (by decide) rfl ?_
  refine zr_goto (q := 46) dX3_init_81 (by decide) ?_
  refine zr_iload_n (q := 47) dX3_init_46 rfl rfl 0 rfl ?_
  refine zr_bipush (q := 49) (v := 8) dX3_init_47 rfl (by decide) ?_
  refine zr_icmp_gt (q := 52) (tgt := 84) dX3_init_49 rfl (by decide) (fun c_358 => ?_) (fun c_358 => absurd c_358 (by decide))
  cases h
  exact zr_return dX3_init_84 rfl ⟨by decide, by decide⟩ ⟨rfl, rfl⟩
set_option maxHeartbeats 4000000 in
set_option maxRecDepth 100000 in
theorem lenX3_init (n : Nat) (M : zM) (v0 : Nat) (M' : zM) (h : fX3_init n M v0 = some ((), M')) : M'.1.length = M.1.length + 22 := by
  have hl0 : M.1.length = M.1.length + 0 := rfl
  unfold fX3_init at h
  obtain ⟨M_1, e_2, h⟩ := app_some h
  obtain ⟨a_3, e_4, h⟩ := app_some h
  have hl_5 : M_1.1.length = M.1.length + 1 := by rw [← e_2, mNew_len, hl0]
  obtain ⟨_, M_6, hc_7, h⟩ := bnd2_some h
  have hl_8 : M_6.1.length = M.1.length + 1 := by rw [lenX5_init n M_1 a_3 _ hc_7, hl_5]
  obtain ⟨c_9, h⟩ := chk_some h
  obtain ⟨M_10, e_11, h⟩ := app_some h
  have hl_12 : M_10.1.length = M.1.length + 1 := by rw [← e_11]; exact hl_8
  obtain ⟨M_13, e_14, h⟩ := app_some h
  obtain ⟨a_15, e_16, h⟩ := app_some h
  have hl_17 : M_13.1.length = M.1.length + 2 := by rw [← e_14, mNew_len, hl_12]
  obtain ⟨_, M_18, hc_19, h⟩ := bnd2_some h
  have hl_20 : M_18.1.length = M.1.length + 2 := by rw [lenX5_init n M_13 a_15 _ hc_19, hl_17]
  obtain ⟨c_21, h⟩ := chk_some h
  obtain ⟨M_22, e_23, h⟩ := app_some h
  have hl_24 : M_22.1.length = M.1.length + 2 := by rw [← e_23]; exact hl_20
  obtain ⟨M_25, e_26, h⟩ := app_some h
  obtain ⟨a_27, e_28, h⟩ := app_some h
  have hl_29 : M_25.1.length = M.1.length + 3 := by rw [← e_26, mNew_len, hl_24]
  obtain ⟨c_30, h⟩ := chk_some h
  obtain ⟨M_31, e_32, h⟩ := app_some h
  have hl_33 : M_31.1.length = M.1.length + 3 := by rw [← e_32]; exact hl_29
  obtain ⟨M_34, e_35, h⟩ := app_some h
  obtain ⟨a_36, e_37, h⟩ := app_some h
  have hl_38 : M_34.1.length = M.1.length + 4 := by rw [← e_35, mNew_len, hl_33]
  obtain ⟨c_39, h⟩ := chk_some h
  obtain ⟨M_40, e_41, h⟩ := app_some h
  have hl_42 : M_40.1.length = M.1.length + 4 := by rw [← e_41]; exact hl_38
  obtain ⟨c_44, h⟩ := chk_some h
  obtain ⟨a_45, e_46, h⟩ := bnd_some h
  obtain ⟨M_47, e_48, h⟩ := app_some h
  obtain ⟨a_49, e_50, h⟩ := app_some h
  have hl_51 : M_47.1.length = M.1.length + 5 := by rw [← e_48, mNew_len, hl_42]
  obtain ⟨_, M_52, hc_53, h⟩ := bnd2_some h
  have hl_54 : M_52.1.length = M.1.length + 5 := by rw [lenX5_init n M_47 a_49 _ hc_53, hl_51]
  obtain ⟨c_55, h⟩ := chk_some h
  obtain ⟨c_56, h⟩ := chk_some h
  obtain ⟨c_57, h⟩ := chk_some h
  obtain ⟨M_58, e_59, h⟩ := app_some h
  have hl_60 : M_58.1.length = M.1.length + 5 := by rw [← e_59]; exact hl_54
  obtain ⟨c_61, h⟩ := chk_some h
  obtain ⟨a_62, e_63, h⟩ := bnd_some h
  obtain ⟨M_64, e_65, h⟩ := app_some h
  obtain ⟨a_66, e_67, h⟩ := app_some h
  have hl_68 : M_64.1.length = M.1.length + 6 := by rw [← e_65, mNew_len, hl_60]
  obtain ⟨_, M_69, hc_70, h⟩ := bnd2_some h
  have hl_71 : M_69.1.length = M.1.length + 6 := by rw [lenX5_init n M_64 a_66 _ hc_70, hl_68]
  obtain ⟨c_72, h⟩ := chk_some h
  obtain ⟨c_73, h⟩ := chk_some h
  obtain ⟨c_74, h⟩ := chk_some h
  obtain ⟨M_75, e_76, h⟩ := app_some h
  have hl_77 : M_75.1.length = M.1.length + 6 := by rw [← e_76]; exact hl_71
  obtain ⟨c_79, h⟩ := chk_some h
  obtain ⟨a_80, e_81, h⟩ := bnd_some h
  obtain ⟨M_82, e_83, h⟩ := app_some h
  obtain ⟨a_84, e_85, h⟩ := app_some h
  have hl_86 : M_82.1.length = M.1.length + 7 := by rw [← e_83, mNew_len, hl_77]
  obtain ⟨_, M_87, hc_88, h⟩ := bnd2_some h
  have hl_89 : M_87.1.length = M.1.length + 7 := by rw [lenX5_init n M_82 a_84 _ hc_88, hl_86]
  obtain ⟨c_90, h⟩ := chk_some h
  obtain ⟨c_91, h⟩ := chk_some h
  obtain ⟨c_92, h⟩ := chk_some h
  obtain ⟨M_93, e_94, h⟩ := app_some h
  have hl_95 : M_93.1.length = M.1.length + 7 := by rw [← e_94]; exact hl_89
  obtain ⟨c_96, h⟩ := chk_some h
  obtain ⟨a_97, e_98, h⟩ := bnd_some h
  obtain ⟨M_99, e_100, h⟩ := app_some h
  obtain ⟨a_101, e_102, h⟩ := app_some h
  have hl_103 : M_99.1.length = M.1.length + 8 := by rw [← e_100, mNew_len, hl_95]
  obtain ⟨_, M_104, hc_105, h⟩ := bnd2_some h
  have hl_106 : M_104.1.length = M.1.length + 8 := by rw [lenX5_init n M_99 a_101 _ hc_105, hl_103]
  obtain ⟨c_107, h⟩ := chk_some h
  obtain ⟨c_108, h⟩ := chk_some h
  obtain ⟨c_109, h⟩ := chk_some h
  obtain ⟨M_110, e_111, h⟩ := app_some h
  have hl_112 : M_110.1.length = M.1.length + 8 := by rw [← e_111]; exact hl_106
  obtain ⟨c_114, h⟩ := chk_some h
  obtain ⟨a_115, e_116, h⟩ := bnd_some h
  obtain ⟨M_117, e_118, h⟩ := app_some h
  obtain ⟨a_119, e_120, h⟩ := app_some h
  have hl_121 : M_117.1.length = M.1.length + 9 := by rw [← e_118, mNew_len, hl_112]
  obtain ⟨_, M_122, hc_123, h⟩ := bnd2_some h
  have hl_124 : M_122.1.length = M.1.length + 9 := by rw [lenX5_init n M_117 a_119 _ hc_123, hl_121]
  obtain ⟨c_125, h⟩ := chk_some h
  obtain ⟨c_126, h⟩ := chk_some h
  obtain ⟨c_127, h⟩ := chk_some h
  obtain ⟨M_128, e_129, h⟩ := app_some h
  have hl_130 : M_128.1.length = M.1.length + 9 := by rw [← e_129]; exact hl_124
  obtain ⟨c_131, h⟩ := chk_some h
  obtain ⟨a_132, e_133, h⟩ := bnd_some h
  obtain ⟨M_134, e_135, h⟩ := app_some h
  obtain ⟨a_136, e_137, h⟩ := app_some h
  have hl_138 : M_134.1.length = M.1.length + 10 := by rw [← e_135, mNew_len, hl_130]
  obtain ⟨_, M_139, hc_140, h⟩ := bnd2_some h
  have hl_141 : M_139.1.length = M.1.length + 10 := by rw [lenX5_init n M_134 a_136 _ hc_140, hl_138]
  obtain ⟨c_142, h⟩ := chk_some h
  obtain ⟨c_143, h⟩ := chk_some h
  obtain ⟨c_144, h⟩ := chk_some h
  obtain ⟨M_145, e_146, h⟩ := app_some h
  have hl_147 : M_145.1.length = M.1.length + 10 := by rw [← e_146]; exact hl_141
  obtain ⟨c_149, h⟩ := chk_some h
  obtain ⟨a_150, e_151, h⟩ := bnd_some h
  obtain ⟨M_152, e_153, h⟩ := app_some h
  obtain ⟨a_154, e_155, h⟩ := app_some h
  have hl_156 : M_152.1.length = M.1.length + 11 := by rw [← e_153, mNew_len, hl_147]
  obtain ⟨_, M_157, hc_158, h⟩ := bnd2_some h
  have hl_159 : M_157.1.length = M.1.length + 11 := by rw [lenX5_init n M_152 a_154 _ hc_158, hl_156]
  obtain ⟨c_160, h⟩ := chk_some h
  obtain ⟨c_161, h⟩ := chk_some h
  obtain ⟨c_162, h⟩ := chk_some h
  obtain ⟨M_163, e_164, h⟩ := app_some h
  have hl_165 : M_163.1.length = M.1.length + 11 := by rw [← e_164]; exact hl_159
  obtain ⟨c_166, h⟩ := chk_some h
  obtain ⟨a_167, e_168, h⟩ := bnd_some h
  obtain ⟨M_169, e_170, h⟩ := app_some h
  obtain ⟨a_171, e_172, h⟩ := app_some h
  have hl_173 : M_169.1.length = M.1.length + 12 := by rw [← e_170, mNew_len, hl_165]
  obtain ⟨_, M_174, hc_175, h⟩ := bnd2_some h
  have hl_176 : M_174.1.length = M.1.length + 12 := by rw [lenX5_init n M_169 a_171 _ hc_175, hl_173]
  obtain ⟨c_177, h⟩ := chk_some h
  obtain ⟨c_178, h⟩ := chk_some h
  obtain ⟨c_179, h⟩ := chk_some h
  obtain ⟨M_180, e_181, h⟩ := app_some h
  have hl_182 : M_180.1.length = M.1.length + 12 := by rw [← e_181]; exact hl_176
  obtain ⟨c_184, h⟩ := chk_some h
  obtain ⟨a_185, e_186, h⟩ := bnd_some h
  obtain ⟨M_187, e_188, h⟩ := app_some h
  obtain ⟨a_189, e_190, h⟩ := app_some h
  have hl_191 : M_187.1.length = M.1.length + 13 := by rw [← e_188, mNew_len, hl_182]
  obtain ⟨_, M_192, hc_193, h⟩ := bnd2_some h
  have hl_194 : M_192.1.length = M.1.length + 13 := by rw [lenX5_init n M_187 a_189 _ hc_193, hl_191]
  obtain ⟨c_195, h⟩ := chk_some h
  obtain ⟨c_196, h⟩ := chk_some h
  obtain ⟨c_197, h⟩ := chk_some h
  obtain ⟨M_198, e_199, h⟩ := app_some h
  have hl_200 : M_198.1.length = M.1.length + 13 := by rw [← e_199]; exact hl_194
  obtain ⟨c_201, h⟩ := chk_some h
  obtain ⟨a_202, e_203, h⟩ := bnd_some h
  obtain ⟨M_204, e_205, h⟩ := app_some h
  obtain ⟨a_206, e_207, h⟩ := app_some h
  have hl_208 : M_204.1.length = M.1.length + 14 := by rw [← e_205, mNew_len, hl_200]
  obtain ⟨_, M_209, hc_210, h⟩ := bnd2_some h
  have hl_211 : M_209.1.length = M.1.length + 14 := by rw [lenX5_init n M_204 a_206 _ hc_210, hl_208]
  obtain ⟨c_212, h⟩ := chk_some h
  obtain ⟨c_213, h⟩ := chk_some h
  obtain ⟨c_214, h⟩ := chk_some h
  obtain ⟨M_215, e_216, h⟩ := app_some h
  have hl_217 : M_215.1.length = M.1.length + 14 := by rw [← e_216]; exact hl_211
  obtain ⟨c_219, h⟩ := chk_some h
  obtain ⟨a_220, e_221, h⟩ := bnd_some h
  obtain ⟨M_222, e_223, h⟩ := app_some h
  obtain ⟨a_224, e_225, h⟩ := app_some h
  have hl_226 : M_222.1.length = M.1.length + 15 := by rw [← e_223, mNew_len, hl_217]
  obtain ⟨_, M_227, hc_228, h⟩ := bnd2_some h
  have hl_229 : M_227.1.length = M.1.length + 15 := by rw [lenX5_init n M_222 a_224 _ hc_228, hl_226]
  obtain ⟨c_230, h⟩ := chk_some h
  obtain ⟨c_231, h⟩ := chk_some h
  obtain ⟨c_232, h⟩ := chk_some h
  obtain ⟨M_233, e_234, h⟩ := app_some h
  have hl_235 : M_233.1.length = M.1.length + 15 := by rw [← e_234]; exact hl_229
  obtain ⟨c_236, h⟩ := chk_some h
  obtain ⟨a_237, e_238, h⟩ := bnd_some h
  obtain ⟨M_239, e_240, h⟩ := app_some h
  obtain ⟨a_241, e_242, h⟩ := app_some h
  have hl_243 : M_239.1.length = M.1.length + 16 := by rw [← e_240, mNew_len, hl_235]
  obtain ⟨_, M_244, hc_245, h⟩ := bnd2_some h
  have hl_246 : M_244.1.length = M.1.length + 16 := by rw [lenX5_init n M_239 a_241 _ hc_245, hl_243]
  obtain ⟨c_247, h⟩ := chk_some h
  obtain ⟨c_248, h⟩ := chk_some h
  obtain ⟨c_249, h⟩ := chk_some h
  obtain ⟨M_250, e_251, h⟩ := app_some h
  have hl_252 : M_250.1.length = M.1.length + 16 := by rw [← e_251]; exact hl_246
  obtain ⟨c_254, h⟩ := chk_some h
  obtain ⟨a_255, e_256, h⟩ := bnd_some h
  obtain ⟨M_257, e_258, h⟩ := app_some h
  obtain ⟨a_259, e_260, h⟩ := app_some h
  have hl_261 : M_257.1.length = M.1.length + 17 := by rw [← e_258, mNew_len, hl_252]
  obtain ⟨_, M_262, hc_263, h⟩ := bnd2_some h
  have hl_264 : M_262.1.length = M.1.length + 17 := by rw [lenX5_init n M_257 a_259 _ hc_263, hl_261]
  obtain ⟨c_265, h⟩ := chk_some h
  obtain ⟨c_266, h⟩ := chk_some h
  obtain ⟨c_267, h⟩ := chk_some h
  obtain ⟨M_268, e_269, h⟩ := app_some h
  have hl_270 : M_268.1.length = M.1.length + 17 := by rw [← e_269]; exact hl_264
  obtain ⟨c_271, h⟩ := chk_some h
  obtain ⟨a_272, e_273, h⟩ := bnd_some h
  obtain ⟨M_274, e_275, h⟩ := app_some h
  obtain ⟨a_276, e_277, h⟩ := app_some h
  have hl_278 : M_274.1.length = M.1.length + 18 := by rw [← e_275, mNew_len, hl_270]
  obtain ⟨_, M_279, hc_280, h⟩ := bnd2_some h
  have hl_281 : M_279.1.length = M.1.length + 18 := by rw [lenX5_init n M_274 a_276 _ hc_280, hl_278]
  obtain ⟨c_282, h⟩ := chk_some h
  obtain ⟨c_283, h⟩ := chk_some h
  obtain ⟨c_284, h⟩ := chk_some h
  obtain ⟨M_285, e_286, h⟩ := app_some h
  have hl_287 : M_285.1.length = M.1.length + 18 := by rw [← e_286]; exact hl_281
  obtain ⟨c_289, h⟩ := chk_some h
  obtain ⟨a_290, e_291, h⟩ := bnd_some h
  obtain ⟨M_292, e_293, h⟩ := app_some h
  obtain ⟨a_294, e_295, h⟩ := app_some h
  have hl_296 : M_292.1.length = M.1.length + 19 := by rw [← e_293, mNew_len, hl_287]
  obtain ⟨_, M_297, hc_298, h⟩ := bnd2_some h
  have hl_299 : M_297.1.length = M.1.length + 19 := by rw [lenX5_init n M_292 a_294 _ hc_298, hl_296]
  obtain ⟨c_300, h⟩ := chk_some h
  obtain ⟨c_301, h⟩ := chk_some h
  obtain ⟨c_302, h⟩ := chk_some h
  obtain ⟨M_303, e_304, h⟩ := app_some h
  have hl_305 : M_303.1.length = M.1.length + 19 := by rw [← e_304]; exact hl_299
  obtain ⟨c_306, h⟩ := chk_some h
  obtain ⟨a_307, e_308, h⟩ := bnd_some h
  obtain ⟨M_309, e_310, h⟩ := app_some h
  obtain ⟨a_311, e_312, h⟩ := app_some h
  have hl_313 : M_309.1.length = M.1.length + 20 := by rw [← e_310, mNew_len, hl_305]
  obtain ⟨_, M_314, hc_315, h⟩ := bnd2_some h
  have hl_316 : M_314.1.length = M.1.length + 20 := by rw [lenX5_init n M_309 a_311 _ hc_315, hl_313]
  obtain ⟨c_317, h⟩ := chk_some h
  obtain ⟨c_318, h⟩ := chk_some h
  obtain ⟨c_319, h⟩ := chk_some h
  obtain ⟨M_320, e_321, h⟩ := app_some h
  have hl_322 : M_320.1.length = M.1.length + 20 := by rw [← e_321]; exact hl_316
  obtain ⟨c_324, h⟩ := chk_some h
  obtain ⟨a_325, e_326, h⟩ := bnd_some h
  obtain ⟨M_327, e_328, h⟩ := app_some h
  obtain ⟨a_329, e_330, h⟩ := app_some h
  have hl_331 : M_327.1.length = M.1.length + 21 := by rw [← e_328, mNew_len, hl_322]
  obtain ⟨_, M_332, hc_333, h⟩ := bnd2_some h
  have hl_334 : M_332.1.length = M.1.length + 21 := by rw [lenX5_init n M_327 a_329 _ hc_333, hl_331]
  obtain ⟨c_335, h⟩ := chk_some h
  obtain ⟨c_336, h⟩ := chk_some h
  obtain ⟨c_337, h⟩ := chk_some h
  obtain ⟨M_338, e_339, h⟩ := app_some h
  have hl_340 : M_338.1.length = M.1.length + 21 := by rw [← e_339]; exact hl_334
  obtain ⟨c_341, h⟩ := chk_some h
  obtain ⟨a_342, e_343, h⟩ := bnd_some h
  obtain ⟨M_344, e_345, h⟩ := app_some h
  obtain ⟨a_346, e_347, h⟩ := app_some h
  have hl_348 : M_344.1.length = M.1.length + 22 := by rw [← e_345, mNew_len, hl_340]
  obtain ⟨_, M_349, hc_350, h⟩ := bnd2_some h
  have hl_351 : M_349.1.length = M.1.length + 22 := by rw [lenX5_init n M_344 a_346 _ hc_350, hl_348]
  obtain ⟨c_352, h⟩ := chk_some h
  obtain ⟨c_353, h⟩ := chk_some h
  obtain ⟨c_354, h⟩ := chk_some h
  obtain ⟨M_355, e_356, h⟩ := app_some h
  have hl_357 : M_355.1.length = M.1.length + 22 := by rw [← e_356]; exact hl_351
  cases h
  exact hl_357

def uX6_init : zMu := (yX6_init, cX6_init, 1, none, { frames := 3, cells := 24, slots := 305, locals := 57 }, [])
theorem zd_X6_init : (uY uX6_init).cls ≠ "java/lang/invoke/MethodHandle" ∧ (uY uX6_init).cls ≠ "java/lang/invoke/VarHandle" ∧ (parseMethodDescriptor (uY uX6_init).desc).map (fun d => d.parameters.length) = some 0 := by decide +kernel
def fX6_init (n : Nat) (M : zM) (v0 : Nat) : Option (Unit × zM) :=
  chk (mK M v0 == 6) <|
  app (wI M v0 1 (-1 : Int32)) fun M_2 : zM =>
  app (mNew M_2 11 200) fun M_5 : zM =>
  app M_2.1.length fun a_7 : Nat =>
  chk (mK M_5 v0 == 6) <|
  app (wR M_5 v0 2 (some a_7)) fun M_11 : zM =>
  app (mNew M_11 3 0) fun M_14 : zM =>
  app M_11.1.length fun a_16 : Nat =>
  bnd2 (fX3_init n M_14 a_16) fun _ M_19 =>
  chk (mK M_19 v0 == 6) <|
  app (wR M_19 v0 3 (some a_16)) fun M_23 : zM =>
  some ((), M_23)
set_option maxHeartbeats 4000000 in
set_option maxRecDepth 100000 in
theorem tX6_init (n : Nat) (M : zM) (v0 : Nat) (M' : zM) (h : fX6_init n M v0 = some ((), M')) : zMet uX6_init true M [.ref v0] (zE (oV ()) M') := by
  refine zMet_of (L := [(0, .ref v0)]) (by decide +kernel) rfl rfl (Nat.le_of_ble_eq_true rfl) ?_
  show zW uX6_init (some M.1.length) (0, 0) M 0 [(0, .ref v0)] [] (zE (oV ()) M')
  have hl0 : M.1.length = M.1.length + 0 := rfl
  unfold fX6_init at h
  refine zr_aload_n (q := 1) dX6_init_0 rfl rfl 0 rfl ?_
  refine zr_objInit (q := 4) dX6_init_1 rfl ⟨zb_575, zb_555, zb_556⟩ ⟨by decide, Nat.le_of_ble_eq_true rfl⟩ ?_
  refine zr_aload_n (q := 5) dX6_init_4 rfl rfl 0 rfl ?_
  refine zr_iconst (q := 6) (v := -1) dX6_init_5 rfl (by decide) ?_
  obtain ⟨c_1, h⟩ := chk_some h
  obtain ⟨M_2, e_3, h⟩ := app_some h
  refine zr_putI (q := 9) (ci := 6) (k := 1) dX6_init_6 rfl (eq_of_beq c_1) rfl (by decide) rfl zbX6 tyX6_ok nmX6 (by decide) zb_188 (Or.inl rfl) rfl ?_
  refine zr_mem e_3 ?_
  have hl_4 : M_2.1.length = M.1.length + 0 := by rw [← e_3]; exact hl0
  refine zr_aload_n (q := 10) dX6_init_9 rfl rfl 0 rfl ?_
  refine zr_sipush (q := 13) (v := 200) dX6_init_10 rfl (by decide) ?_
  obtain ⟨M_5, e_6, h⟩ := app_some h
  obtain ⟨a_7, e_8, h⟩ := app_some h
  refine zr_newI (q := 15) (N := 200) (u' := (1, 200)) rfl hl_4 dX6_init_13 rfl zb_559 (by decide) (by decide) (by decide) ⟨by decide, by decide⟩ rfl ?_
  refine zr_mem e_6 ?_
  have hl_9 : M_5.1.length = M.1.length + 1 := by rw [← e_6, mNew_len, hl_4]
  refine zr_nmA e_8 ?_
  obtain ⟨c_10, h⟩ := chk_some h
  obtain ⟨M_11, e_12, h⟩ := app_some h
  refine zr_putR (q := 18) (ci := 6) (k := 2) dX6_init_15 rfl (eq_of_beq c_10) rfl (by decide) rfl zbX6 tyX6_ok nmX6 (by decide) zb_184 (Or.inr ⟨rfl, rfl, rfl⟩) rfl ?_
  refine zr_mem e_12 ?_
  have hl_13 : M_11.1.length = M.1.length + 1 := by rw [← e_12]; exact hl_9
  refine zr_aload_n (q := 19) dX6_init_18 rfl rfl 0 rfl ?_
  obtain ⟨M_14, e_15, h⟩ := app_some h
  obtain ⟨a_16, e_17, h⟩ := app_some h
  refine zr_new (q := 22) (ci := 3) (u' := (2, 207)) rfl hl_13 dX6_init_19 rfl rfl (by decide) rfl zbX3 tyX3_ok (by decide) ⟨zb_576, zb_577, zb_123⟩ ⟨by decide, by decide⟩ rfl ?_
  refine zr_mem e_15 ?_
  have hl_18 : M_14.1.length = M.1.length + 2 := by rw [← e_15, mNew_len, hl_13]
  refine zr_nmA e_17 ?_
  refine zr_dup (q := 23) dX6_init_22 rfl rfl ?_
  obtain ⟨_, M_19, hc_20, h⟩ := bnd2_some h
  refine zr_callI (μ' := uX3_init) (q := 26) (n := 0) (As := []) (u' := (24, 305)) rfl hl_18 (tX3_init n M_14 a_16 _ hc_20) dX6_init_23 rfl rfl ⟨zb_578, zb_579, zb_580, zb_123⟩ rfl rfl zd_X3_init ⟨by decide, by decide⟩ ⟨by decide, by decide⟩ rfl rfl (Nat.le_of_ble_eq_true rfl) rfl ?_
  have hl_21 : M_19.1.length = M.1.length + 24 := by rw [lenX3_init n M_14 a_16 _ hc_20, hl_18]
  obtain ⟨c_22, h⟩ := chk_some h
  obtain ⟨M_23, e_24, h⟩ := app_some h
  refine zr_putR (q := 29) (ci := 6) (k := 3) dX6_init_26 rfl (eq_of_beq c_22) rfl (by decide) rfl zbX6 tyX6_ok nmX6 (by decide) zb_198 (Or.inr ⟨rfl, rfl, rfl⟩) rfl ?_
  refine zr_mem e_24 ?_
  have hl_25 : M_23.1.length = M.1.length + 24 := by rw [← e_24]; exact hl_21
  cases h
  exact zr_return dX6_init_29 rfl ⟨by decide, by decide⟩ ⟨rfl, rfl⟩
set_option maxHeartbeats 4000000 in
set_option maxRecDepth 100000 in
theorem lenX6_init (n : Nat) (M : zM) (v0 : Nat) (M' : zM) (h : fX6_init n M v0 = some ((), M')) : M'.1.length = M.1.length + 24 := by
  have hl0 : M.1.length = M.1.length + 0 := rfl
  unfold fX6_init at h
  obtain ⟨c_1, h⟩ := chk_some h
  obtain ⟨M_2, e_3, h⟩ := app_some h
  have hl_4 : M_2.1.length = M.1.length + 0 := by rw [← e_3]; exact hl0
  obtain ⟨M_5, e_6, h⟩ := app_some h
  obtain ⟨a_7, e_8, h⟩ := app_some h
  have hl_9 : M_5.1.length = M.1.length + 1 := by rw [← e_6, mNew_len, hl_4]
  obtain ⟨c_10, h⟩ := chk_some h
  obtain ⟨M_11, e_12, h⟩ := app_some h
  have hl_13 : M_11.1.length = M.1.length + 1 := by rw [← e_12]; exact hl_9
  obtain ⟨M_14, e_15, h⟩ := app_some h
  obtain ⟨a_16, e_17, h⟩ := app_some h
  have hl_18 : M_14.1.length = M.1.length + 2 := by rw [← e_15, mNew_len, hl_13]
  obtain ⟨_, M_19, hc_20, h⟩ := bnd2_some h
  have hl_21 : M_19.1.length = M.1.length + 24 := by rw [lenX3_init n M_14 a_16 _ hc_20, hl_18]
  obtain ⟨c_22, h⟩ := chk_some h
  obtain ⟨M_23, e_24, h⟩ := app_some h
  have hl_25 : M_23.1.length = M.1.length + 24 := by rw [← e_24]; exact hl_21
  cases h
  exact hl_25

def uX9_init : zMu := (yX9_init, cX9_init, 1, none, { frames := 4, cells := 66, slots := 41176, locals := 77 }, [])
theorem zd_X9_init : (uY uX9_init).cls ≠ "java/lang/invoke/MethodHandle" ∧ (uY uX9_init).cls ≠ "java/lang/invoke/VarHandle" ∧ (parseMethodDescriptor (uY uX9_init).desc).map (fun d => d.parameters.length) = some 0 := by decide +kernel
def fX9_init (n : Nat) (M : zM) (v0 : Nat) : Option (Unit × zM) :=
  app (mNew M 6 0) fun M_1 : zM =>
  app M.1.length fun a_3 : Nat =>
  bnd2 (fX6_init n M_1 a_3) fun _ M_6 =>
  chk (mK M_6 v0 == 9) <|
  app (wR M_6 v0 0 (some a_3)) fun M_10 : zM =>
  app (mNew M_10 8 0) fun M_13 : zM =>
  app M_10.1.length fun a_15 : Nat =>
  bnd2 (fX8_init n M_13 a_15) fun _ M_18 =>
  chk (mK M_18 v0 == 9) <|
  app (wR M_18 v0 1 (some a_15)) fun M_22 : zM =>
  app (mNew M_22 7 0) fun M_25 : zM =>
  app M_22.1.length fun a_27 : Nat =>
  bnd2 (fX7_init n M_25 a_27) fun _ M_30 =>
  chk (mK M_30 v0 == 9) <|
  app (wR M_30 v0 2 (some a_27)) fun M_34 : zM =>
  app (mNew M_34 2 0) fun M_37 : zM =>
  app M_34.1.length fun a_39 : Nat =>
  bnd2 (fX2_init n M_37 a_39) fun _ M_42 =>
  chk (mK M_42 v0 == 9) <|
  app (wR M_42 v0 3 (some a_39)) fun M_46 : zM =>
  app (mNew M_46 1 0) fun M_49 : zM =>
  app M_46.1.length fun a_51 : Nat =>
  bnd2 (fX1_init n M_49 a_51) fun _ M_54 =>
  chk (mK M_54 v0 == 9) <|
  app (wR M_54 v0 4 (some a_51)) fun M_58 : zM =>
  app (mNew M_58 14 3) fun M_61 : zM =>
  app M_58.1.length fun a_63 : Nat =>
  app (mNew M_61 4 0) fun M_66 : zM =>
  app M_61.1.length fun a_68 : Nat =>
  bnd2 (fX4_init n M_66 a_68) fun _ M_71 =>
  chk (mK M_71 a_63 == 14) <|
  chk (mK M_71 a_68 == 4) <|
  chk (zin (0 : Int32) (mN M_71 a_63)) <|
  app (wR M_71 a_63 (Int32.toNatClampNeg (0 : Int32)) (some a_68)) fun M_77 : zM =>
  app (mNew M_77 4 0) fun M_80 : zM =>
  app M_77.1.length fun a_82 : Nat =>
  bnd2 (fX4_init n M_80 a_82) fun _ M_85 =>
  chk (mK M_85 a_63 == 14) <|
  chk (mK M_85 a_82 == 4) <|
  chk (zin (1 : Int32) (mN M_85 a_63)) <|
  app (wR M_85 a_63 (Int32.toNatClampNeg (1 : Int32)) (some a_82)) fun M_91 : zM =>
  app (mNew M_91 4 0) fun M_94 : zM =>
  app M_91.1.length fun a_96 : Nat =>
  bnd2 (fX4_init n M_94 a_96) fun _ M_99 =>
  chk (mK M_99 a_63 == 14) <|
  chk (mK M_99 a_96 == 4) <|
  chk (zin (2 : Int32) (mN M_99 a_63)) <|
  app (wR M_99 a_63 (Int32.toNatClampNeg (2 : Int32)) (some a_96)) fun M_105 : zM =>
  chk (mK M_105 v0 == 9) <|
  app (wR M_105 v0 5 (some a_63)) fun M_109 : zM =>
  some ((), M_109)
set_option maxHeartbeats 4000000 in
set_option maxRecDepth 100000 in
theorem tX9_init (n : Nat) (M : zM) (v0 : Nat) (M' : zM) (h : fX9_init n M v0 = some ((), M')) : zMet uX9_init true M [.ref v0] (zE (oV ()) M') := by
  refine zMet_of (L := [(0, .ref v0)]) (by decide +kernel) rfl rfl (Nat.le_of_ble_eq_true rfl) ?_
  show zW uX9_init (some M.1.length) (0, 0) M 0 [(0, .ref v0)] [] (zE (oV ()) M')
  have hl0 : M.1.length = M.1.length + 0 := rfl
  unfold fX9_init at h
  refine zr_aload_n (q := 1) dX9_init_0 rfl rfl 0 rfl ?_
  refine zr_objInit (q := 4) dX9_init_1 rfl ⟨zb_581, zb_555, zb_556⟩ ⟨by decide, Nat.le_of_ble_eq_true rfl⟩ ?_
  refine zr_aload_n (q := 5) dX9_init_4 rfl rfl 0 rfl ?_
  obtain ⟨M_1, e_2, h⟩ := app_some h
  obtain ⟨a_3, e_4, h⟩ := app_some h
  refine zr_new (q := 8) (ci := 6) (u' := (1, 13)) rfl hl0 dX9_init_5 rfl rfl (by decide) rfl zbX6 tyX6_ok (by decide) ⟨zb_582, zb_583, zb_193⟩ ⟨by decide, by decide⟩ rfl ?_
  refine zr_mem e_2 ?_
  have hl_5 : M_1.1.length = M.1.length + 1 := by rw [← e_2, mNew_len, hl0]
  refine zr_nmA e_4 ?_
  refine zr_dup (q := 9) dX9_init_8 rfl rfl ?_
  obtain ⟨_, M_6, hc_7, h⟩ := bnd2_some h
  refine zr_callIN (μ' := uX6_init) (q := 12) (n := 0) (As := []) (u' := (25, 318)) rfl hl_5 (tX6_init n M_1 a_3 _ hc_7) dX9_init_9 rfl rfl (by decide +kernel) ⟨zb_584, zb_585, zb_193⟩ rfl rfl zd_X6_init ⟨by decide, by decide⟩ ⟨by decide, by decide⟩ rfl rfl (Nat.le_of_ble_eq_true rfl) rfl ?_
  have hl_8 : M_6.1.length = M.1.length + 25 := by rw [lenX6_init n M_1 a_3 _ hc_7, hl_5]
  obtain ⟨c_9, h⟩ := chk_some h
  obtain ⟨M_10, e_11, h⟩ := app_some h
  refine zr_putR (q := 15) (ci := 9) (k := 0) dX9_init_12 rfl (eq_of_beq c_9) rfl (by decide) rfl zbX9 tyX9_ok nmX9 (by decide) zb_291 (Or.inr ⟨rfl, rfl, rfl⟩) rfl ?_
  refine zr_mem e_11 ?_
  have hl_12 : M_10.1.length = M.1.length + 25 := by rw [← e_11]; exact hl_8
  refine zr_aload_n (q := 16) dX9_init_15 rfl rfl 0 rfl ?_
  obtain ⟨M_13, e_14, h⟩ := app_some h
  obtain ⟨a_15, e_16, h⟩ := app_some h
  refine zr_new (q := 19) (ci := 8) (u' := (26, 324)) rfl hl_12 dX9_init_16 rfl rfl (by decide) rfl zbX8 tyX8_ok (by decide) ⟨zb_586, zb_587, zb_290⟩ ⟨by decide, by decide⟩ rfl ?_
  refine zr_mem e_14 ?_
  have hl_17 : M_13.1.length = M.1.length + 26 := by rw [← e_14, mNew_len, hl_12]
  refine zr_nmA e_16 ?_
  refine zr_dup (q := 20) dX9_init_19 rfl rfl ?_
  obtain ⟨_, M_18, hc_19, h⟩ := bnd2_some h
  refine zr_callIN (μ' := uX8_init) (q := 23) (n := 0) (As := []) (u' := (29, 924)) rfl hl_17 (tX8_init n M_13 a_15 _ hc_19) dX9_init_20 rfl rfl (by decide +kernel) ⟨zb_588, zb_589, zb_290⟩ rfl rfl zd_X8_init ⟨by decide, by decide⟩ ⟨by decide, by decide⟩ rfl rfl (Nat.le_of_ble_eq_true rfl) rfl ?_
  have hl_20 : M_18.1.length = M.1.length + 29 := by rw [lenX8_init n M_13 a_15 _ hc_19, hl_17]
  obtain ⟨c_21, h⟩ := chk_some h
  obtain ⟨M_22, e_23, h⟩ := app_some h
  refine zr_putR (q := 26) (ci := 9) (k := 1) dX9_init_23 rfl (eq_of_beq c_21) rfl (by decide) rfl zbX9 tyX9_ok nmX9 (by decide) zb_308 (Or.inr ⟨rfl, rfl, rfl⟩) rfl ?_
  refine zr_mem e_23 ?_
  have hl_24 : M_22.1.length = M.1.length + 29 := by rw [← e_23]; exact hl_20
  refine zr_aload_n (q := 27) dX9_init_26 rfl rfl 0 rfl ?_
  obtain ⟨M_25, e_26, h⟩ := app_some h
  obtain ⟨a_27, e_28, h⟩ := app_some h
  refine zr_new (q := 30) (ci := 7) (u' := (30, 928)) rfl hl_24 dX9_init_27 rfl rfl (by decide) rfl zbX7 tyX7_ok (by decide) ⟨zb_590, zb_591, zb_10⟩ ⟨by decide, by decide⟩ rfl ?_
  refine zr_mem e_26 ?_
  have hl_29 : M_25.1.length = M.1.length + 30 := by rw [← e_26, mNew_len, hl_24]
  refine zr_nmA e_28 ?_
  refine zr_dup (q := 31) dX9_init_30 rfl rfl ?_
  obtain ⟨_, M_30, hc_31, h⟩ := bnd2_some h
  refine zr_callIN (μ' := uX7_init) (q := 34) (n := 0) (As := []) (u' := (33, 2552)) rfl hl_29 (tX7_init n M_25 a_27 _ hc_31) dX9_init_31 rfl rfl (by decide +kernel) ⟨zb_592, zb_593, zb_10⟩ rfl rfl zd_X7_init ⟨by decide, by decide⟩ ⟨by decide, by decide⟩ rfl rfl (Nat.le_of_ble_eq_true rfl) rfl ?_
  have hl_32 : M_30.1.length = M.1.length + 33 := by rw [lenX7_init n M_25 a_27 _ hc_31, hl_29]
  obtain ⟨c_33, h⟩ := chk_some h
  obtain ⟨M_34, e_35, h⟩ := app_some h
  refine zr_putR (q := 37) (ci := 9) (k := 2) dX9_init_34 rfl (eq_of_beq c_33) rfl (by decide) rfl zbX9 tyX9_ok nmX9 (by decide) zb_352 (Or.inr ⟨rfl, rfl, rfl⟩) rfl ?_
  refine zr_mem e_35 ?_
  have hl_36 : M_34.1.length = M.1.length + 33 := by rw [← e_35]; exact hl_32
  refine zr_aload_n (q := 38) dX9_init_37 rfl rfl 0 rfl ?_
  obtain ⟨M_37, e_38, h⟩ := app_some h
  obtain ⟨a_39, e_40, h⟩ := app_some h
  refine zr_new (q := 41) (ci := 2) (u' := (34, 2554)) rfl hl_36 dX9_init_38 rfl rfl (by decide) rfl zbX2 tyX2_ok (by decide) ⟨zb_594, zb_595, zb_97⟩ ⟨by decide, by decide⟩ rfl ?_
  refine zr_mem e_38 ?_
  have hl_41 : M_37.1.length = M.1.length + 34 := by rw [← e_38, mNew_len, hl_36]
  refine zr_nmA e_40 ?_
  refine zr_dup (q := 42) dX9_init_41 rfl rfl ?_
  obtain ⟨_, M_42, hc_43, h⟩ := bnd2_some h
  refine zr_callIN (μ' := uX2_init) (q := 45) (n := 0) (As := []) (u' := (36, 3154)) rfl hl_41 (tX2_init n M_37 a_39 _ hc_43) dX9_init_42 rfl rfl (by decide +kernel) ⟨zb_596, zb_597, zb_97⟩ rfl rfl zd_X2_init ⟨by decide, by decide⟩ ⟨by decide, by decide⟩ rfl rfl (Nat.le_of_ble_eq_true rfl) rfl ?_
  have hl_44 : M_42.1.length = M.1.length + 36 := by rw [lenX2_init n M_37 a_39 _ hc_43, hl_41]
  obtain ⟨c_45, h⟩ := chk_some h
  obtain ⟨M_46, e_47, h⟩ := app_some h
  refine zr_putR (q := 48) (ci := 9) (k := 3) dX9_init_45 rfl (eq_of_beq c_45) rfl (by decide) rfl zbX9 tyX9_ok nmX9 (by decide) zb_366 (Or.inr ⟨rfl, rfl, rfl⟩) rfl ?_
  refine zr_mem e_47 ?_
  have hl_48 : M_46.1.length = M.1.length + 36 := by rw [← e_47]; exact hl_44
  refine zr_aload_n (q := 49) dX9_init_48 rfl rfl 0 rfl ?_
  obtain ⟨M_49, e_50, h⟩ := app_some h
  obtain ⟨a_51, e_52, h⟩ := app_some h
  refine zr_new (q := 52) (ci := 1) (u' := (37, 3163)) rfl hl_48 dX9_init_49 rfl rfl (by decide) rfl zbX1 tyX1_ok (by decide) ⟨zb_598, zb_599, zb_56⟩ ⟨by decide, by decide⟩ rfl ?_
  refine zr_mem e_50 ?_
  have hl_53 : M_49.1.length = M.1.length + 37 := by rw [← e_50, mNew_len, hl_48]
  refine zr_nmA e_52 ?_
  refine zr_dup (q := 53) dX9_init_52 rfl rfl ?_
  obtain ⟨_, M_54, hc_55, h⟩ := bnd2_some h
  refine zr_callIN (μ' := uX1_init) (q := 56) (n := 0) (As := []) (u' := (44, 7363)) rfl hl_53 (tX1_init n M_49 a_51 _ hc_55) dX9_init_53 rfl rfl (by decide +kernel) ⟨zb_600, zb_601, zb_56⟩ rfl rfl zd_X1_init ⟨by decide, by decide⟩ ⟨by decide, by decide⟩ rfl rfl (Nat.le_of_ble_eq_true rfl) rfl ?_
  have hl_56 : M_54.1.length = M.1.length + 44 := by rw [lenX1_init n M_49 a_51 _ hc_55, hl_53]
  obtain ⟨c_57, h⟩ := chk_some h
  obtain ⟨M_58, e_59, h⟩ := app_some h
  refine zr_putR (q := 59) (ci := 9) (k := 4) dX9_init_56 rfl (eq_of_beq c_57) rfl (by decide) rfl zbX9 tyX9_ok nmX9 (by decide) zb_371 (Or.inr ⟨rfl, rfl, rfl⟩) rfl ?_
  refine zr_mem e_59 ?_
  have hl_60 : M_58.1.length = M.1.length + 44 := by rw [← e_59]; exact hl_56
  refine zr_aload_n (q := 60) dX9_init_59 rfl rfl 0 rfl ?_
  refine zr_iconst (q := 61) (v := 3) dX9_init_60 rfl (by decide) ?_
  obtain ⟨M_61, e_62, h⟩ := app_some h
  obtain ⟨a_63, e_64, h⟩ := app_some h
  refine zr_anew (q := 64) (N := 3) (k := 3) (kd := 14) (C := "PatternHouse$Pattern") (u' := (45, 7366)) rfl hl_60 dX9_init_61 rfl (fun _ => rfl) rfl (by decide) (fun U h9 => h9.2.2.2.1) zb_602 (by decide) (by decide) (by decide) ⟨by decide, by decide⟩ rfl ?_
  refine zr_mem e_62 ?_
  have hl_65 : M_61.1.length = M.1.length + 45 := by rw [← e_62, mNew_len, hl_60]
  refine zr_nmA e_64 ?_
  refine zr_dup (q := 65) dX9_init_64 rfl rfl ?_
  refine zr_iconst (q := 66) (v := 0) dX9_init_65 rfl (by decide) ?_
  obtain ⟨M_66, e_67, h⟩ := app_some h
  obtain ⟨a_68, e_69, h⟩ := app_some h
  refine zr_new (q := 69) (ci := 4) (u' := (46, 7374)) rfl hl_65 dX9_init_66 rfl rfl (by decide) rfl zbX4 tyX4_ok (by decide) ⟨zb_602, zb_603, zb_31⟩ ⟨by decide, by decide⟩ rfl ?_
  refine zr_mem e_67 ?_
  have hl_70 : M_66.1.length = M.1.length + 46 := by rw [← e_67, mNew_len, hl_65]
  refine zr_nmA e_69 ?_
  refine zr_dup (q := 70) dX9_init_69 rfl rfl ?_
  obtain ⟨_, M_71, hc_72, h⟩ := bnd2_some h
  refine zr_callIN (μ' := uX4_init) (q := 73) (n := 0) (As := []) (u' := (52, 18636)) rfl hl_70 (tX4_init n M_66 a_68 _ hc_72) dX9_init_70 rfl rfl (by decide +kernel) ⟨zb_604, zb_605, zb_31⟩ rfl rfl zd_X4_init ⟨by decide, by decide⟩ ⟨by decide, by decide⟩ rfl rfl (Nat.le_of_ble_eq_true rfl) rfl ?_
  have hl_73 : M_71.1.length = M.1.length + 52 := by rw [lenX4_init n M_66 a_68 _ hc_72, hl_70]
  obtain ⟨c_74, h⟩ := chk_some h
  obtain ⟨c_75, h⟩ := chk_some h
  obtain ⟨c_76, h⟩ := chk_some h
  obtain ⟨M_77, e_78, h⟩ := app_some h
  refine zr_aast (q := 74) (kd := 14) (ci := 4) (t0 := 3) dX9_init_73 rfl (eq_of_beq c_74) rfl (by decide) (by decide) (eq_of_beq c_75) (by decide) rfl (fun _ => rfl) c_76 ?_
  refine zr_mem e_78 ?_
  have hl_79 : M_77.1.length = M.1.length + 52 := by rw [← e_78]; exact hl_73
  refine zr_dup (q := 75) dX9_init_74 rfl rfl ?_
  refine zr_iconst (q := 76) (v := 1) dX9_init_75 rfl (by decide) ?_
  obtain ⟨M_80, e_81, h⟩ := app_some h
  obtain ⟨a_82, e_83, h⟩ := app_some h
  refine zr_new (q := 79) (ci := 4) (u' := (53, 18644)) rfl hl_79 dX9_init_76 rfl rfl (by decide) rfl zbX4 tyX4_ok (by decide) ⟨zb_602, zb_603, zb_31⟩ ⟨by decide, by decide⟩ rfl ?_
  refine zr_mem e_81 ?_
  have hl_84 : M_80.1.length = M.1.length + 53 := by rw [← e_81, mNew_len, hl_79]
  refine zr_nmA e_83 ?_
  refine zr_dup (q := 80) dX9_init_79 rfl rfl ?_
  obtain ⟨_, M_85, hc_86, h⟩ := bnd2_some h
  refine zr_callIN (μ' := uX4_init) (q := 83) (n := 0) (As := []) (u' := (59, 29906)) rfl hl_84 (tX4_init n M_80 a_82 _ hc_86) dX9_init_80 rfl rfl (by decide +kernel) ⟨zb_604, zb_605, zb_31⟩ rfl rfl zd_X4_init ⟨by decide, by decide⟩ ⟨by decide, by decide⟩ rfl rfl (Nat.le_of_ble_eq_true rfl) rfl ?_
  have hl_87 : M_85.1.length = M.1.length + 59 := by rw [lenX4_init n M_80 a_82 _ hc_86, hl_84]
  obtain ⟨c_88, h⟩ := chk_some h
  obtain ⟨c_89, h⟩ := chk_some h
  obtain ⟨c_90, h⟩ := chk_some h
  obtain ⟨M_91, e_92, h⟩ := app_some h
  refine zr_aast (q := 84) (kd := 14) (ci := 4) (t0 := 3) dX9_init_83 rfl (eq_of_beq c_88) rfl (by decide) (by decide) (eq_of_beq c_89) (by decide) rfl (fun _ => rfl) c_90 ?_
  refine zr_mem e_92 ?_
  have hl_93 : M_91.1.length = M.1.length + 59 := by rw [← e_92]; exact hl_87
  refine zr_dup (q := 85) dX9_init_84 rfl rfl ?_
  refine zr_iconst (q := 86) (v := 2) dX9_init_85 rfl (by decide) ?_
  obtain ⟨M_94, e_95, h⟩ := app_some h
  obtain ⟨a_96, e_97, h⟩ := app_some h
  refine zr_new (q := 89) (ci := 4) (u' := (60, 29914)) rfl hl_93 dX9_init_86 rfl rfl (by decide) rfl zbX4 tyX4_ok (by decide) ⟨zb_602, zb_603, zb_31⟩ ⟨by decide, by decide⟩ rfl ?_
  refine zr_mem e_95 ?_
  have hl_98 : M_94.1.length = M.1.length + 60 := by rw [← e_95, mNew_len, hl_93]
  refine zr_nmA e_97 ?_
  refine zr_dup (q := 90) dX9_init_89 rfl rfl ?_
  obtain ⟨_, M_99, hc_100, h⟩ := bnd2_some h
  refine zr_callIN (μ' := uX4_init) (q := 93) (n := 0) (As := []) (u' := (66, 41176)) rfl hl_98 (tX4_init n M_94 a_96 _ hc_100) dX9_init_90 rfl rfl (by decide +kernel) ⟨zb_604, zb_605, zb_31⟩ rfl rfl zd_X4_init ⟨by decide, by decide⟩ ⟨by decide, by decide⟩ rfl rfl (Nat.le_of_ble_eq_true rfl) rfl ?_
  have hl_101 : M_99.1.length = M.1.length + 66 := by rw [lenX4_init n M_94 a_96 _ hc_100, hl_98]
  obtain ⟨c_102, h⟩ := chk_some h
  obtain ⟨c_103, h⟩ := chk_some h
  obtain ⟨c_104, h⟩ := chk_some h
  obtain ⟨M_105, e_106, h⟩ := app_some h
  refine zr_aast (q := 94) (kd := 14) (ci := 4) (t0 := 3) dX9_init_93 rfl (eq_of_beq c_102) rfl (by decide) (by decide) (eq_of_beq c_103) (by decide) rfl (fun _ => rfl) c_104 ?_
  refine zr_mem e_106 ?_
  have hl_107 : M_105.1.length = M.1.length + 66 := by rw [← e_106]; exact hl_101
  obtain ⟨c_108, h⟩ := chk_some h
  obtain ⟨M_109, e_110, h⟩ := app_some h
  refine zr_putR (q := 97) (ci := 9) (k := 5) dX9_init_94 rfl (eq_of_beq c_108) rfl (by decide) rfl zbX9 tyX9_ok nmX9 (by decide) zb_297 (Or.inr ⟨rfl, rfl, rfl⟩) rfl ?_
  refine zr_mem e_110 ?_
  have hl_111 : M_109.1.length = M.1.length + 66 := by rw [← e_110]; exact hl_107
  cases h
  exact zr_return dX9_init_97 rfl ⟨by decide, by decide⟩ ⟨rfl, rfl⟩
set_option maxHeartbeats 4000000 in
set_option maxRecDepth 100000 in
theorem lenX9_init (n : Nat) (M : zM) (v0 : Nat) (M' : zM) (h : fX9_init n M v0 = some ((), M')) : M'.1.length = M.1.length + 66 := by
  have hl0 : M.1.length = M.1.length + 0 := rfl
  unfold fX9_init at h
  obtain ⟨M_1, e_2, h⟩ := app_some h
  obtain ⟨a_3, e_4, h⟩ := app_some h
  have hl_5 : M_1.1.length = M.1.length + 1 := by rw [← e_2, mNew_len, hl0]
  obtain ⟨_, M_6, hc_7, h⟩ := bnd2_some h
  have hl_8 : M_6.1.length = M.1.length + 25 := by rw [lenX6_init n M_1 a_3 _ hc_7, hl_5]
  obtain ⟨c_9, h⟩ := chk_some h
  obtain ⟨M_10, e_11, h⟩ := app_some h
  have hl_12 : M_10.1.length = M.1.length + 25 := by rw [← e_11]; exact hl_8
  obtain ⟨M_13, e_14, h⟩ := app_some h
  obtain ⟨a_15, e_16, h⟩ := app_some h
  have hl_17 : M_13.1.length = M.1.length + 26 := by rw [← e_14, mNew_len, hl_12]
  obtain ⟨_, M_18, hc_19, h⟩ := bnd2_some h
  have hl_20 : M_18.1.length = M.1.length + 29 := by rw [lenX8_init n M_13 a_15 _ hc_19, hl_17]
  obtain ⟨c_21, h⟩ := chk_some h
  obtain ⟨M_22, e_23, h⟩ := app_some h
  have hl_24 : M_22.1.length = M.1.length + 29 := by rw [← e_23]; exact hl_20
  obtain ⟨M_25, e_26, h⟩ := app_some h
  obtain ⟨a_27, e_28, h⟩ := app_some h
  have hl_29 : M_25.1.length = M.1.length + 30 := by rw [← e_26, mNew_len, hl_24]
  obtain ⟨_, M_30, hc_31, h⟩ := bnd2_some h
  have hl_32 : M_30.1.length = M.1.length + 33 := by rw [lenX7_init n M_25 a_27 _ hc_31, hl_29]
  obtain ⟨c_33, h⟩ := chk_some h
  obtain ⟨M_34, e_35, h⟩ := app_some h
  have hl_36 : M_34.1.length = M.1.length + 33 := by rw [← e_35]; exact hl_32
  obtain ⟨M_37, e_38, h⟩ := app_some h
  obtain ⟨a_39, e_40, h⟩ := app_some h
  have hl_41 : M_37.1.length = M.1.length + 34 := by rw [← e_38, mNew_len, hl_36]
  obtain ⟨_, M_42, hc_43, h⟩ := bnd2_some h
  have hl_44 : M_42.1.length = M.1.length + 36 := by rw [lenX2_init n M_37 a_39 _ hc_43, hl_41]
  obtain ⟨c_45, h⟩ := chk_some h
  obtain ⟨M_46, e_47, h⟩ := app_some h
  have hl_48 : M_46.1.length = M.1.length + 36 := by rw [← e_47]; exact hl_44
  obtain ⟨M_49, e_50, h⟩ := app_some h
  obtain ⟨a_51, e_52, h⟩ := app_some h
  have hl_53 : M_49.1.length = M.1.length + 37 := by rw [← e_50, mNew_len, hl_48]
  obtain ⟨_, M_54, hc_55, h⟩ := bnd2_some h
  have hl_56 : M_54.1.length = M.1.length + 44 := by rw [lenX1_init n M_49 a_51 _ hc_55, hl_53]
  obtain ⟨c_57, h⟩ := chk_some h
  obtain ⟨M_58, e_59, h⟩ := app_some h
  have hl_60 : M_58.1.length = M.1.length + 44 := by rw [← e_59]; exact hl_56
  obtain ⟨M_61, e_62, h⟩ := app_some h
  obtain ⟨a_63, e_64, h⟩ := app_some h
  have hl_65 : M_61.1.length = M.1.length + 45 := by rw [← e_62, mNew_len, hl_60]
  obtain ⟨M_66, e_67, h⟩ := app_some h
  obtain ⟨a_68, e_69, h⟩ := app_some h
  have hl_70 : M_66.1.length = M.1.length + 46 := by rw [← e_67, mNew_len, hl_65]
  obtain ⟨_, M_71, hc_72, h⟩ := bnd2_some h
  have hl_73 : M_71.1.length = M.1.length + 52 := by rw [lenX4_init n M_66 a_68 _ hc_72, hl_70]
  obtain ⟨c_74, h⟩ := chk_some h
  obtain ⟨c_75, h⟩ := chk_some h
  obtain ⟨c_76, h⟩ := chk_some h
  obtain ⟨M_77, e_78, h⟩ := app_some h
  have hl_79 : M_77.1.length = M.1.length + 52 := by rw [← e_78]; exact hl_73
  obtain ⟨M_80, e_81, h⟩ := app_some h
  obtain ⟨a_82, e_83, h⟩ := app_some h
  have hl_84 : M_80.1.length = M.1.length + 53 := by rw [← e_81, mNew_len, hl_79]
  obtain ⟨_, M_85, hc_86, h⟩ := bnd2_some h
  have hl_87 : M_85.1.length = M.1.length + 59 := by rw [lenX4_init n M_80 a_82 _ hc_86, hl_84]
  obtain ⟨c_88, h⟩ := chk_some h
  obtain ⟨c_89, h⟩ := chk_some h
  obtain ⟨c_90, h⟩ := chk_some h
  obtain ⟨M_91, e_92, h⟩ := app_some h
  have hl_93 : M_91.1.length = M.1.length + 59 := by rw [← e_92]; exact hl_87
  obtain ⟨M_94, e_95, h⟩ := app_some h
  obtain ⟨a_96, e_97, h⟩ := app_some h
  have hl_98 : M_94.1.length = M.1.length + 60 := by rw [← e_95, mNew_len, hl_93]
  obtain ⟨_, M_99, hc_100, h⟩ := bnd2_some h
  have hl_101 : M_99.1.length = M.1.length + 66 := by rw [lenX4_init n M_94 a_96 _ hc_100, hl_98]
  obtain ⟨c_102, h⟩ := chk_some h
  obtain ⟨c_103, h⟩ := chk_some h
  obtain ⟨c_104, h⟩ := chk_some h
  obtain ⟨M_105, e_106, h⟩ := app_some h
  have hl_107 : M_105.1.length = M.1.length + 66 := by rw [← e_106]; exact hl_101
  obtain ⟨c_108, h⟩ := chk_some h
  obtain ⟨M_109, e_110, h⟩ := app_some h
  have hl_111 : M_109.1.length = M.1.length + 66 := by rw [← e_110]; exact hl_107
  cases h
  exact hl_111

def uX10_init : zMu := (yX10_init, cX10_init, 1, none, { frames := 1, cells := 33, slots := 473559, locals := 16 }, [])
theorem zd_X10_init : (uY uX10_init).cls ≠ "java/lang/invoke/MethodHandle" ∧ (uY uX10_init).cls ≠ "java/lang/invoke/VarHandle" ∧ (parseMethodDescriptor (uY uX10_init).desc).map (fun d => d.parameters.length) = some 0 := by decide +kernel
def fX10_init (n : Nat) (M : zM) (v0 : Nat) : Option (Unit × zM) :=
  app (mNew M 11 200) fun M_1 : zM =>
  app M.1.length fun a_3 : Nat =>
  chk (mK M_1 v0 == 10) <|
  app (wR M_1 v0 1 (some a_3)) fun M_7 : zM =>
  app (mNew M_7 11 200) fun M_10 : zM =>
  app M_7.1.length fun a_12 : Nat =>
  chk (mK M_10 v0 == 10) <|
  app (wR M_10 v0 3 (some a_12)) fun M_16 : zM =>
  chk (mK M_16 v0 == 10) <|
  app (wI M_16 v0 5 (-1 : Int32)) fun M_20 : zM =>
  app (mNew M_20 13 3) fun M_23 : zM =>
  app M_20.1.length fun a_25 : Nat =>
  chk (mK M_23 v0 == 10) <|
  app (wR M_23 v0 6 (some a_25)) fun M_29 : zM =>
  app (mNew M_29 11 3) fun M_32 : zM =>
  app M_29.1.length fun a_34 : Nat =>
  chk (mK M_32 v0 == 10) <|
  app (wR M_32 v0 7 (some a_34)) fun M_38 : zM =>
  app (mNew M_38 13 3) fun M_41 : zM =>
  app M_38.1.length fun a_43 : Nat =>
  chk (mK M_41 v0 == 10) <|
  app (wR M_41 v0 8 (some a_43)) fun M_47 : zM =>
  app (mNew M_47 12 3) fun M_50 : zM =>
  app M_47.1.length fun a_52 : Nat =>
  chk (mK M_50 v0 == 10) <|
  app (wR M_50 v0 9 (some a_52)) fun M_56 : zM =>
  app (mNew M_56 12 3) fun M_59 : zM =>
  app M_56.1.length fun a_61 : Nat =>
  chk (mK M_59 v0 == 10) <|
  app (wR M_59 v0 10 (some a_61)) fun M_65 : zM =>
  app (mNew M_65 12 180) fun M_68 : zM =>
  app M_65.1.length fun a_70 : Nat =>
  chk (mK M_68 v0 == 10) <|
  app (wR M_68 v0 11 (some a_70)) fun M_74 : zM =>
  app (mNew M_74 12 180) fun M_77 : zM =>
  app M_74.1.length fun a_79 : Nat =>
  chk (mK M_77 v0 == 10) <|
  app (wR M_77 v0 12 (some a_79)) fun M_83 : zM =>
  app (mNew M_83 13 10) fun M_86 : zM =>
  app M_83.1.length fun a_88 : Nat =>
  chk (mK M_86 v0 == 10) <|
  app (wR M_86 v0 15 (some a_88)) fun M_92 : zM =>
  app (mNew M_92 12 10) fun M_95 : zM =>
  app M_92.1.length fun a_97 : Nat =>
  chk (mK M_95 v0 == 10) <|
  app (wR M_95 v0 16 (some a_97)) fun M_101 : zM =>
  app (mNew M_101 12 10) fun M_104 : zM =>
  app M_101.1.length fun a_106 : Nat =>
  chk (mK M_104 v0 == 10) <|
  app (wR M_104 v0 17 (some a_106)) fun M_110 : zM =>
  app (mNew M_110 13 10) fun M_113 : zM =>
  app M_110.1.length fun a_115 : Nat =>
  chk (mK M_113 v0 == 10) <|
  app (wR M_113 v0 18 (some a_115)) fun M_119 : zM =>
  app (mNew M_119 11 10) fun M_122 : zM =>
  app M_119.1.length fun a_124 : Nat =>
  chk (mK M_122 v0 == 10) <|
  app (wR M_122 v0 19 (some a_124)) fun M_128 : zM =>
  app (mNew M_128 13 10) fun M_131 : zM =>
  app M_128.1.length fun a_133 : Nat =>
  chk (mK M_131 v0 == 10) <|
  app (wR M_131 v0 20 (some a_133)) fun M_137 : zM =>
  app (mNew M_137 12 10) fun M_140 : zM =>
  app M_137.1.length fun a_142 : Nat =>
  chk (mK M_140 v0 == 10) <|
  app (wR M_140 v0 21 (some a_142)) fun M_146 : zM =>
  app (mNew M_146 12 10) fun M_149 : zM =>
  app M_146.1.length fun a_151 : Nat =>
  chk (mK M_149 v0 == 10) <|
  app (wR M_149 v0 22 (some a_151)) fun M_155 : zM =>
  app (mNew M_155 13 10) fun M_158 : zM =>
  app M_155.1.length fun a_160 : Nat =>
  chk (mK M_158 v0 == 10) <|
  app (wR M_158 v0 23 (some a_160)) fun M_164 : zM =>
  app (mNew M_164 12 10) fun M_167 : zM =>
  app M_164.1.length fun a_169 : Nat =>
  chk (mK M_167 v0 == 10) <|
  app (wR M_167 v0 24 (some a_169)) fun M_173 : zM =>
  app (mNew M_173 12 10) fun M_176 : zM =>
  app M_173.1.length fun a_178 : Nat =>
  chk (mK M_176 v0 == 10) <|
  app (wR M_176 v0 25 (some a_178)) fun M_182 : zM =>
  app (mNew M_182 11 10) fun M_185 : zM =>
  app M_182.1.length fun a_187 : Nat =>
  chk (mK M_185 v0 == 10) <|
  app (wR M_185 v0 26 (some a_187)) fun M_191 : zM =>
  app (mNew M_191 12 60) fun M_194 : zM =>
  app M_191.1.length fun a_196 : Nat =>
  chk (mK M_194 v0 == 10) <|
  app (wR M_194 v0 27 (some a_196)) fun M_200 : zM =>
  app (mNew M_200 12 600) fun M_203 : zM =>
  app M_200.1.length fun a_205 : Nat =>
  chk (mK M_203 v0 == 10) <|
  app (wR M_203 v0 30 (some a_205)) fun M_209 : zM =>
  app (mNew M_209 11 21600) fun M_212 : zM =>
  app M_209.1.length fun a_214 : Nat =>
  chk (mK M_212 v0 == 10) <|
  app (wR M_212 v0 31 (some a_214)) fun M_218 : zM =>
  app (mNew M_218 11 2) fun M_221 : zM =>
  app M_218.1.length fun a_223 : Nat =>
  chk (mK M_221 v0 == 10) <|
  app (wR M_221 v0 32 (some a_223)) fun M_227 : zM =>
  app (mNew M_227 13 2) fun M_230 : zM =>
  app M_227.1.length fun a_232 : Nat =>
  chk (mK M_230 v0 == 10) <|
  app (wR M_230 v0 33 (some a_232)) fun M_236 : zM =>
  app (mNew M_236 13 90000) fun M_239 : zM =>
  app M_236.1.length fun a_241 : Nat =>
  chk (mK M_239 v0 == 10) <|
  app (wR M_239 v0 34 (some a_241)) fun M_245 : zM =>
  app (mNew M_245 11 90000) fun M_248 : zM =>
  app M_245.1.length fun a_250 : Nat =>
  chk (mK M_248 v0 == 10) <|
  app (wR M_248 v0 35 (some a_250)) fun M_254 : zM =>
  app (mNew M_254 11 90000) fun M_257 : zM =>
  app M_254.1.length fun a_259 : Nat =>
  chk (mK M_257 v0 == 10) <|
  app (wR M_257 v0 36 (some a_259)) fun M_263 : zM =>
  app (mNew M_263 11 90000) fun M_266 : zM =>
  app M_263.1.length fun a_268 : Nat =>
  chk (mK M_266 v0 == 10) <|
  app (wR M_266 v0 37 (some a_268)) fun M_272 : zM =>
  app (mNew M_272 11 90000) fun M_275 : zM =>
  app M_272.1.length fun a_277 : Nat =>
  chk (mK M_275 v0 == 10) <|
  app (wR M_275 v0 38 (some a_277)) fun M_281 : zM =>
  app (mNew M_281 11 200) fun M_284 : zM =>
  app M_281.1.length fun a_286 : Nat =>
  chk (mK M_284 v0 == 10) <|
  app (wR M_284 v0 40 (some a_286)) fun M_290 : zM =>
  app (mNew M_290 11 200) fun M_293 : zM =>
  app M_290.1.length fun a_295 : Nat =>
  chk (mK M_293 v0 == 10) <|
  app (wR M_293 v0 41 (some a_295)) fun M_299 : zM =>
  some ((), M_299)
set_option maxHeartbeats 4000000 in
set_option maxRecDepth 100000 in
theorem tX10_init (n : Nat) (M : zM) (v0 : Nat) (M' : zM) (h : fX10_init n M v0 = some ((), M')) : zMet uX10_init true M [.ref v0] (zE (oV ()) M') := by
  refine zMet_of (L := [(0, .ref v0)]) (by decide +kernel) rfl rfl (Nat.le_of_ble_eq_true rfl) ?_
  show zW uX10_init (some M.1.length) (0, 0) M 0 [(0, .ref v0)] [] (zE (oV ()) M')
  have hl0 : M.1.length = M.1.length + 0 := rfl
  unfold fX10_init at h
  refine zr_aload_n (q := 1) dX10_init_0 rfl rfl 0 rfl ?_
  refine zr_objInit (q := 4) dX10_init_1 rfl ⟨zb_606, zb_555, zb_556⟩ ⟨by decide, Nat.le_of_ble_eq_true rfl⟩ ?_
  refine zr_aload_n (q := 5) dX10_init_4 rfl rfl 0 rfl ?_
  refine zr_sipush (q := 8) (v := 200) dX10_init_5 rfl (by decide) ?_
  obtain ⟨M_1, e_2, h⟩ := app_some h
  obtain ⟨a_3, e_4, h⟩ := app_some h
  refine zr_newI (q := 10) (N := 200) (u' := (1, 200)) rfl hl0 dX10_init_8 rfl zb_559 (by decide) (by decide) (by decide) ⟨by decide, by decide⟩ rfl ?_
  refine zr_mem e_2 ?_
  have hl_5 : M_1.1.length = M.1.length + 1 := by rw [← e_2, mNew_len, hl0]
  refine zr_nmA e_4 ?_
  obtain ⟨c_6, h⟩ := chk_some h
  obtain ⟨M_7, e_8, h⟩ := app_some h
  refine zr_putR (q := 13) (ci := 10) (k := 1) dX10_init_10 rfl (eq_of_beq c_6) rfl (by decide) rfl zbX10 tyX10_ok nmX10 (by decide) zb_380 (Or.inr ⟨rfl, rfl, rfl⟩) rfl ?_
  refine zr_mem e_8 ?_
  have hl_9 : M_7.1.length = M.1.length + 1 := by rw [← e_8]; exact hl_5
  refine zr_aload_n (q := 14) dX10_init_13 rfl rfl 0 rfl ?_
  refine zr_sipush (q := 17) (v := 200) dX10_init_14 rfl (by decide) ?_
  obtain ⟨M_10, e_11, h⟩ := app_some h
  obtain ⟨a_12, e_13, h⟩ := app_some h
  refine zr_newI (q := 19) (N := 200) (u' := (2, 400)) rfl hl_9 dX10_init_17 rfl zb_559 (by decide) (by decide) (by decide) ⟨by decide, by decide⟩ rfl ?_
  refine zr_mem e_11 ?_
  have hl_14 : M_10.1.length = M.1.length + 2 := by rw [← e_11, mNew_len, hl_9]
  refine zr_nmA e_13 ?_
  obtain ⟨c_15, h⟩ := chk_some h
  obtain ⟨M_16, e_17, h⟩ := app_some h
  refine zr_putR (q := 22) (ci := 10) (k := 3) dX10_init_19 rfl (eq_of_beq c_15) rfl (by decide) rfl zbX10 tyX10_ok nmX10 (by decide) zb_499 (Or.inr ⟨rfl, rfl, rfl⟩) rfl ?_
  refine zr_mem e_17 ?_
  have hl_18 : M_16.1.length = M.1.length + 2 := by rw [← e_17]; exact hl_14
  refine zr_aload_n (q := 23) dX10_init_22 rfl rfl 0 rfl ?_
  refine zr_iconst (q := 24) (v := -1) dX10_init_23 rfl (by decide) ?_
  obtain ⟨c_19, h⟩ := chk_some h
  obtain ⟨M_20, e_21, h⟩ := app_some h
  refine zr_putI (q := 27) (ci := 10) (k := 5) dX10_init_24 rfl (eq_of_beq c_19) rfl (by decide) rfl zbX10 tyX10_ok nmX10 (by decide) zb_383 (Or.inl rfl) rfl ?_
  refine zr_mem e_21 ?_
  have hl_22 : M_20.1.length = M.1.length + 2 := by rw [← e_21]; exact hl_18
  refine zr_aload_n (q := 28) dX10_init_27 rfl rfl 0 rfl ?_
  refine zr_iconst (q := 29) (v := 3) dX10_init_28 rfl (by decide) ?_
  obtain ⟨M_23, e_24, h⟩ := app_some h
  obtain ⟨a_25, e_26, h⟩ := app_some h
  refine zr_newZ (q := 31) (N := 3) (u' := (3, 403)) rfl hl_22 dX10_init_29 rfl zb_558 (by decide) (by decide) (by decide) ⟨by decide, by decide⟩ rfl ?_
  refine zr_mem e_24 ?_
  have hl_27 : M_23.1.length = M.1.length + 3 := by rw [← e_24, mNew_len, hl_22]
  refine zr_nmA e_26 ?_
  obtain ⟨c_28, h⟩ := chk_some h
  obtain ⟨M_29, e_30, h⟩ := app_some h
  refine zr_putR (q := 34) (ci := 10) (k := 6) dX10_init_31 rfl (eq_of_beq c_28) rfl (by decide) rfl zbX10 tyX10_ok nmX10 (by decide) zb_477 (Or.inr ⟨rfl, rfl, rfl⟩) rfl ?_
  refine zr_mem e_30 ?_
  have hl_31 : M_29.1.length = M.1.length + 3 := by rw [← e_30]; exact hl_27
  refine zr_aload_n (q := 35) dX10_init_34 rfl rfl 0 rfl ?_
  refine zr_iconst (q := 36) (v := 3) dX10_init_35 rfl (by decide) ?_
  obtain ⟨M_32, e_33, h⟩ := app_some h
  obtain ⟨a_34, e_35, h⟩ := app_some h
  refine zr_newI (q := 38) (N := 3) (u' := (4, 406)) rfl hl_31 dX10_init_36 rfl zb_559 (by decide) (by decide) (by decide) ⟨by decide, by decide⟩ rfl ?_
  refine zr_mem e_33 ?_
  have hl_36 : M_32.1.length = M.1.length + 4 := by rw [← e_33, mNew_len, hl_31]
  refine zr_nmA e_35 ?_
  obtain ⟨c_37, h⟩ := chk_some h
  obtain ⟨M_38, e_39, h⟩ := app_some h
  refine zr_putR (q := 41) (ci := 10) (k := 7) dX10_init_38 rfl (eq_of_beq c_37) rfl (by decide) rfl zbX10 tyX10_ok nmX10 (by decide) zb_478 (Or.inr ⟨rfl, rfl, rfl⟩) rfl ?_
  refine zr_mem e_39 ?_
  have hl_40 : M_38.1.length = M.1.length + 4 := by rw [← e_39]; exact hl_36
  refine zr_aload_n (q := 42) dX10_init_41 rfl rfl 0 rfl ?_
  refine zr_iconst (q := 43) (v := 3) dX10_init_42 rfl (by decide) ?_
  obtain ⟨M_41, e_42, h⟩ := app_some h
  obtain ⟨a_43, e_44, h⟩ := app_some h
  refine zr_newZ (q := 45) (N := 3) (u' := (5, 409)) rfl hl_40 dX10_init_43 rfl zb_558 (by decide) (by decide) (by decide) ⟨by decide, by decide⟩ rfl ?_
  refine zr_mem e_42 ?_
  have hl_45 : M_41.1.length = M.1.length + 5 := by rw [← e_42, mNew_len, hl_40]
  refine zr_nmA e_44 ?_
  obtain ⟨c_46, h⟩ := chk_some h
  obtain ⟨M_47, e_48, h⟩ := app_some h
  refine zr_putR (q := 48) (ci := 10) (k := 8) dX10_init_45 rfl (eq_of_beq c_46) rfl (by decide) rfl zbX10 tyX10_ok nmX10 (by decide) zb_479 (Or.inr ⟨rfl, rfl, rfl⟩) rfl ?_
  refine zr_mem e_48 ?_
  have hl_49 : M_47.1.length = M.1.length + 5 := by rw [← e_48]; exact hl_45
  refine zr_aload_n (q := 49) dX10_init_48 rfl rfl 0 rfl ?_
  refine zr_iconst (q := 50) (v := 3) dX10_init_49 rfl (by decide) ?_
  obtain ⟨M_50, e_51, h⟩ := app_some h
  obtain ⟨a_52, e_53, h⟩ := app_some h
  refine zr_newL (q := 52) (N := 3) (u' := (6, 412)) rfl hl_49 dX10_init_50 rfl zb_561 (by decide) (by decide) (by decide) ⟨by decide, by decide⟩ rfl ?_
  refine zr_mem e_51 ?_
  have hl_54 : M_50.1.length = M.1.length + 6 := by rw [← e_51, mNew_len, hl_49]
  refine zr_nmA e_53 ?_
  obtain ⟨c_55, h⟩ := chk_some h
  obtain ⟨M_56, e_57, h⟩ := app_some h
  refine zr_putR (q := 55) (ci := 10) (k := 9) dX10_init_52 rfl (eq_of_beq c_55) rfl (by decide) rfl zbX10 tyX10_ok nmX10 (by decide) zb_480 (Or.inr ⟨rfl, rfl, rfl⟩) rfl ?_
  refine zr_mem e_57 ?_
  have hl_58 : M_56.1.length = M.1.length + 6 := by rw [← e_57]; exact hl_54
  refine zr_aload_n (q := 56) dX10_init_55 rfl rfl 0 rfl ?_
  refine zr_iconst (q := 57) (v := 3) dX10_init_56 rfl (by decide) ?_
  obtain ⟨M_59, e_60, h⟩ := app_some h
  obtain ⟨a_61, e_62, h⟩ := app_some h
  refine zr_newL (q := 59) (N := 3) (u' := (7, 415)) rfl hl_58 dX10_init_57 rfl zb_561 (by decide) (by decide) (by decide) ⟨by decide, by decide⟩ rfl ?_
  refine zr_mem e_60 ?_
  have hl_63 : M_59.1.length = M.1.length + 7 := by rw [← e_60, mNew_len, hl_58]
  refine zr_nmA e_62 ?_
  obtain ⟨c_64, h⟩ := chk_some h
  obtain ⟨M_65, e_66, h⟩ := app_some h
  refine zr_putR (q := 62) (ci := 10) (k := 10) dX10_init_59 rfl (eq_of_beq c_64) rfl (by decide) rfl zbX10 tyX10_ok nmX10 (by decide) zb_481 (Or.inr ⟨rfl, rfl, rfl⟩) rfl ?_
  refine zr_mem e_66 ?_
  have hl_67 : M_65.1.length = M.1.length + 7 := by rw [← e_66]; exact hl_63
  refine zr_aload_n (q := 63) dX10_init_62 rfl rfl 0 rfl ?_
  refine zr_sipush (q := 66) (v := 180) dX10_init_63 rfl (by decide) ?_
  obtain ⟨M_68, e_69, h⟩ := app_some h
  obtain ⟨a_70, e_71, h⟩ := app_some h
  refine zr_newL (q := 68) (N := 180) (u' := (8, 595)) rfl hl_67 dX10_init_66 rfl zb_561 (by decide) (by decide) (by decide) ⟨by decide, by decide⟩ rfl ?_
  refine zr_mem e_69 ?_
  have hl_72 : M_68.1.length = M.1.length + 8 := by rw [← e_69, mNew_len, hl_67]
  refine zr_nmA e_71 ?_
  obtain ⟨c_73, h⟩ := chk_some h
  obtain ⟨M_74, e_75, h⟩ := app_some h
  refine zr_putR (q := 71) (ci := 10) (k := 11) dX10_init_68 rfl (eq_of_beq c_73) rfl (by decide) rfl zbX10 tyX10_ok nmX10 (by decide) zb_407 (Or.inr ⟨rfl, rfl, rfl⟩) rfl ?_
  refine zr_mem e_75 ?_
  have hl_76 : M_74.1.length = M.1.length + 8 := by rw [← e_75]; exact hl_72
  refine zr_aload_n (q := 72) dX10_init_71 rfl rfl 0 rfl ?_
  refine zr_sipush (q := 75) (v := 180) dX10_init_72 rfl (by decide) ?_
  obtain ⟨M_77, e_78, h⟩ := app_some h
  obtain ⟨a_79, e_80, h⟩ := app_some h
  refine zr_newL (q := 77) (N := 180) (u' := (9, 775)) rfl hl_76 dX10_init_75 rfl zb_561 (by decide) (by decide) (by decide) ⟨by decide, by decide⟩ rfl ?_
  refine zr_mem e_78 ?_
  have hl_81 : M_77.1.length = M.1.length + 9 := by rw [← e_78, mNew_len, hl_76]
  refine zr_nmA e_80 ?_
  obtain ⟨c_82, h⟩ := chk_some h
  obtain ⟨M_83, e_84, h⟩ := app_some h
  refine zr_putR (q := 80) (ci := 10) (k := 12) dX10_init_77 rfl (eq_of_beq c_82) rfl (by decide) rfl zbX10 tyX10_ok nmX10 (by decide) zb_420 (Or.inr ⟨rfl, rfl, rfl⟩) rfl ?_
  refine zr_mem e_84 ?_
  have hl_85 : M_83.1.length = M.1.length + 9 := by rw [← e_84]; exact hl_81
  refine zr_aload_n (q := 81) dX10_init_80 rfl rfl 0 rfl ?_
  refine zr_bipush (q := 83) (v := 10) dX10_init_81 rfl (by decide) ?_
  obtain ⟨M_86, e_87, h⟩ := app_some h
  obtain ⟨a_88, e_89, h⟩ := app_some h
  refine zr_newZ (q := 85) (N := 10) (u' := (10, 785)) rfl hl_85 dX10_init_83 rfl zb_558 (by decide) (by decide) (by decide) ⟨by decide, by decide⟩ rfl ?_
  refine zr_mem e_87 ?_
  have hl_90 : M_86.1.length = M.1.length + 10 := by rw [← e_87, mNew_len, hl_85]
  refine zr_nmA e_89 ?_
  obtain ⟨c_91, h⟩ := chk_some h
  obtain ⟨M_92, e_93, h⟩ := app_some h
  refine zr_putR (q := 88) (ci := 10) (k := 15) dX10_init_85 rfl (eq_of_beq c_91) rfl (by decide) rfl zbX10 tyX10_ok nmX10 (by decide) zb_390 (Or.inr ⟨rfl, rfl, rfl⟩) rfl ?_
  refine zr_mem e_93 ?_
  have hl_94 : M_92.1.length = M.1.length + 10 := by rw [← e_93]; exact hl_90
  refine zr_aload_n (q := 89) dX10_init_88 rfl rfl 0 rfl ?_
  refine zr_bipush (q := 91) (v := 10) dX10_init_89 rfl (by decide) ?_
  obtain ⟨M_95, e_96, h⟩ := app_some h
  obtain ⟨a_97, e_98, h⟩ := app_some h
  refine zr_newL (q := 93) (N := 10) (u' := (11, 795)) rfl hl_94 dX10_init_91 rfl zb_561 (by decide) (by decide) (by decide) ⟨by decide, by decide⟩ rfl ?_
  refine zr_mem e_96 ?_
  have hl_99 : M_95.1.length = M.1.length + 11 := by rw [← e_96, mNew_len, hl_94]
  refine zr_nmA e_98 ?_
  obtain ⟨c_100, h⟩ := chk_some h
  obtain ⟨M_101, e_102, h⟩ := app_some h
  refine zr_putR (q := 96) (ci := 10) (k := 16) dX10_init_93 rfl (eq_of_beq c_100) rfl (by decide) rfl zbX10 tyX10_ok nmX10 (by decide) zb_392 (Or.inr ⟨rfl, rfl, rfl⟩) rfl ?_
  refine zr_mem e_102 ?_
  have hl_103 : M_101.1.length = M.1.length + 11 := by rw [← e_102]; exact hl_99
  refine zr_aload_n (q := 97) dX10_init_96 rfl rfl 0 rfl ?_
  refine zr_bipush (q := 99) (v := 10) dX10_init_97 rfl (by decide) ?_
  obtain ⟨M_104, e_105, h⟩ := app_some h
  obtain ⟨a_106, e_107, h⟩ := app_some h
  refine zr_newL (q := 101) (N := 10) (u' := (12, 805)) rfl hl_103 dX10_init_99 rfl zb_561 (by decide) (by decide) (by decide) ⟨by decide, by decide⟩ rfl ?_
  refine zr_mem e_105 ?_
  have hl_108 : M_104.1.length = M.1.length + 12 := by rw [← e_105, mNew_len, hl_103]
  refine zr_nmA e_107 ?_
  obtain ⟨c_109, h⟩ := chk_some h
  obtain ⟨M_110, e_111, h⟩ := app_some h
  refine zr_putR (q := 104) (ci := 10) (k := 17) dX10_init_101 rfl (eq_of_beq c_109) rfl (by decide) rfl zbX10 tyX10_ok nmX10 (by decide) zb_393 (Or.inr ⟨rfl, rfl, rfl⟩) rfl ?_
  refine zr_mem e_111 ?_
  have hl_112 : M_110.1.length = M.1.length + 12 := by rw [← e_111]; exact hl_108
  refine zr_aload_n (q := 105) dX10_init_104 rfl rfl 0 rfl ?_
  refine zr_bipush (q := 107) (v := 10) dX10_init_105 rfl (by decide) ?_
  obtain ⟨M_113, e_114, h⟩ := app_some h
  obtain ⟨a_115, e_116, h⟩ := app_some h
  refine zr_newZ (q := 109) (N := 10) (u' := (13, 815)) rfl hl_112 dX10_init_107 rfl zb_558 (by decide) (by decide) (by decide) ⟨by decide, by decide⟩ rfl ?_
  refine zr_mem e_114 ?_
  have hl_117 : M_113.1.length = M.1.length + 13 := by rw [← e_114, mNew_len, hl_112]
  refine zr_nmA e_116 ?_
  obtain ⟨c_118, h⟩ := chk_some h
  obtain ⟨M_119, e_120, h⟩ := app_some h
  refine zr_putR (q := 112) (ci := 10) (k := 18) dX10_init_109 rfl (eq_of_beq c_118) rfl (by decide) rfl zbX10 tyX10_ok nmX10 (by decide) zb_394 (Or.inr ⟨rfl, rfl, rfl⟩) rfl ?_
  refine zr_mem e_120 ?_
  have hl_121 : M_119.1.length = M.1.length + 13 := by rw [← e_120]; exact hl_117
  refine zr_aload_n (q := 113) dX10_init_112 rfl rfl 0 rfl ?_
  refine zr_bipush (q := 115) (v := 10) dX10_init_113 rfl (by decide) ?_
  obtain ⟨M_122, e_123, h⟩ := app_some h
  obtain ⟨a_124, e_125, h⟩ := app_some h
  refine zr_newI (q := 117) (N := 10) (u' := (14, 825)) rfl hl_121 dX10_init_115 rfl zb_559 (by decide) (by decide) (by decide) ⟨by decide, by decide⟩ rfl ?_
  refine zr_mem e_123 ?_
  have hl_126 : M_122.1.length = M.1.length + 14 := by rw [← e_123, mNew_len, hl_121]
  refine zr_nmA e_125 ?_
  obtain ⟨c_127, h⟩ := chk_some h
  obtain ⟨M_128, e_129, h⟩ := app_some h
  refine zr_putR (q := 120) (ci := 10) (k := 19) dX10_init_117 rfl (eq_of_beq c_127) rfl (by decide) rfl zbX10 tyX10_ok nmX10 (by decide) zb_419 (Or.inr ⟨rfl, rfl, rfl⟩) rfl ?_
  refine zr_mem e_129 ?_
  have hl_130 : M_128.1.length = M.1.length + 14 := by rw [← e_129]; exact hl_126
  refine zr_aload_n (q := 121) dX10_init_120 rfl rfl 0 rfl ?_
  refine zr_bipush (q := 123) (v := 10) dX10_init_121 rfl (by decide) ?_
  obtain ⟨M_131, e_132, h⟩ := app_some h
  obtain ⟨a_133, e_134, h⟩ := app_some h
  refine zr_newZ (q := 125) (N := 10) (u' := (15, 835)) rfl hl_130 dX10_init_123 rfl zb_558 (by decide) (by decide) (by decide) ⟨by decide, by decide⟩ rfl ?_
  refine zr_mem e_132 ?_
  have hl_135 : M_131.1.length = M.1.length + 15 := by rw [← e_132, mNew_len, hl_130]
  refine zr_nmA e_134 ?_
  obtain ⟨c_136, h⟩ := chk_some h
  obtain ⟨M_137, e_138, h⟩ := app_some h
  refine zr_putR (q := 128) (ci := 10) (k := 20) dX10_init_125 rfl (eq_of_beq c_136) rfl (by decide) rfl zbX10 tyX10_ok nmX10 (by decide) zb_408 (Or.inr ⟨rfl, rfl, rfl⟩) rfl ?_
  refine zr_mem e_138 ?_
  have hl_139 : M_137.1.length = M.1.length + 15 := by rw [← e_138]; exact hl_135
  refine zr_aload_n (q := 129) dX10_init_128 rfl rfl 0 rfl ?_
  refine zr_bipush (q := 131) (v := 10) dX10_init_129 rfl (by decide) ?_
  obtain ⟨M_140, e_141, h⟩ := app_some h
  obtain ⟨a_142, e_143, h⟩ := app_some h
  refine zr_newL (q := 133) (N := 10) (u' := (16, 845)) rfl hl_139 dX10_init_131 rfl zb_561 (by decide) (by decide) (by decide) ⟨by decide, by decide⟩ rfl ?_
  refine zr_mem e_141 ?_
  have hl_144 : M_140.1.length = M.1.length + 16 := by rw [← e_141, mNew_len, hl_139]
  refine zr_nmA e_143 ?_
  obtain ⟨c_145, h⟩ := chk_some h
  obtain ⟨M_146, e_147, h⟩ := app_some h
  refine zr_putR (q := 136) (ci := 10) (k := 21) dX10_init_133 rfl (eq_of_beq c_145) rfl (by decide) rfl zbX10 tyX10_ok nmX10 (by decide) zb_410 (Or.inr ⟨rfl, rfl, rfl⟩) rfl ?_
  refine zr_mem e_147 ?_
  have hl_148 : M_146.1.length = M.1.length + 16 := by rw [← e_147]; exact hl_144
  refine zr_aload_n (q := 137) dX10_init_136 rfl rfl 0 rfl ?_
  refine zr_bipush (q := 139) (v := 10) dX10_init_137 rfl (by decide) ?_
  obtain ⟨M_149, e_150, h⟩ := app_some h
  obtain ⟨a_151, e_152, h⟩ := app_some h
  refine zr_newL (q := 141) (N := 10) (u' := (17, 855)) rfl hl_148 dX10_init_139 rfl zb_561 (by decide) (by decide) (by decide) ⟨by decide, by decide⟩ rfl ?_
  refine zr_mem e_150 ?_
  have hl_153 : M_149.1.length = M.1.length + 17 := by rw [← e_150, mNew_len, hl_148]
  refine zr_nmA e_152 ?_
  obtain ⟨c_154, h⟩ := chk_some h
  obtain ⟨M_155, e_156, h⟩ := app_some h
  refine zr_putR (q := 144) (ci := 10) (k := 22) dX10_init_141 rfl (eq_of_beq c_154) rfl (by decide) rfl zbX10 tyX10_ok nmX10 (by decide) zb_409 (Or.inr ⟨rfl, rfl, rfl⟩) rfl ?_
  refine zr_mem e_156 ?_
  have hl_157 : M_155.1.length = M.1.length + 17 := by rw [← e_156]; exact hl_153
  refine zr_aload_n (q := 145) dX10_init_144 rfl rfl 0 rfl ?_
  refine zr_bipush (q := 147) (v := 10) dX10_init_145 rfl (by decide) ?_
  obtain ⟨M_158, e_159, h⟩ := app_some h
  obtain ⟨a_160, e_161, h⟩ := app_some h
  refine zr_newZ (q := 149) (N := 10) (u' := (18, 865)) rfl hl_157 dX10_init_147 rfl zb_558 (by decide) (by decide) (by decide) ⟨by decide, by decide⟩ rfl ?_
  refine zr_mem e_159 ?_
  have hl_162 : M_158.1.length = M.1.length + 18 := by rw [← e_159, mNew_len, hl_157]
  refine zr_nmA e_161 ?_
  obtain ⟨c_163, h⟩ := chk_some h
  obtain ⟨M_164, e_165, h⟩ := app_some h
  refine zr_putR (q := 152) (ci := 10) (k := 23) dX10_init_149 rfl (eq_of_beq c_163) rfl (by decide) rfl zbX10 tyX10_ok nmX10 (by decide) zb_395 (Or.inr ⟨rfl, rfl, rfl⟩) rfl ?_
  refine zr_mem e_165 ?_
  have hl_166 : M_164.1.length = M.1.length + 18 := by rw [← e_165]; exact hl_162
  refine zr_aload_n (q := 153) dX10_init_152 rfl rfl 0 rfl ?_
  refine zr_bipush (q := 155) (v := 10) dX10_init_153 rfl (by decide) ?_
  obtain ⟨M_167, e_168, h⟩ := app_some h
  obtain ⟨a_169, e_170, h⟩ := app_some h
  refine zr_newL (q := 157) (N := 10) (u' := (19, 875)) rfl hl_166 dX10_init_155 rfl zb_561 (by decide) (by decide) (by decide) ⟨by decide, by decide⟩ rfl ?_
  refine zr_mem e_168 ?_
  have hl_171 : M_167.1.length = M.1.length + 19 := by rw [← e_168, mNew_len, hl_166]
  refine zr_nmA e_170 ?_
  obtain ⟨c_172, h⟩ := chk_some h
  obtain ⟨M_173, e_174, h⟩ := app_some h
  refine zr_putR (q := 160) (ci := 10) (k := 24) dX10_init_157 rfl (eq_of_beq c_172) rfl (by decide) rfl zbX10 tyX10_ok nmX10 (by decide) zb_396 (Or.inr ⟨rfl, rfl, rfl⟩) rfl ?_
  refine zr_mem e_174 ?_
  have hl_175 : M_173.1.length = M.1.length + 19 := by rw [← e_174]; exact hl_171
  refine zr_aload_n (q := 161) dX10_init_160 rfl rfl 0 rfl ?_
  refine zr_bipush (q := 163) (v := 10) dX10_init_161 rfl (by decide) ?_
  obtain ⟨M_176, e_177, h⟩ := app_some h
  obtain ⟨a_178, e_179, h⟩ := app_some h
  refine zr_newL (q := 165) (N := 10) (u' := (20, 885)) rfl hl_175 dX10_init_163 rfl zb_561 (by decide) (by decide) (by decide) ⟨by decide, by decide⟩ rfl ?_
  refine zr_mem e_177 ?_
  have hl_180 : M_176.1.length = M.1.length + 20 := by rw [← e_177, mNew_len, hl_175]
  refine zr_nmA e_179 ?_
  obtain ⟨c_181, h⟩ := chk_some h
  obtain ⟨M_182, e_183, h⟩ := app_some h
  refine zr_putR (q := 168) (ci := 10) (k := 25) dX10_init_165 rfl (eq_of_beq c_181) rfl (by decide) rfl zbX10 tyX10_ok nmX10 (by decide) zb_397 (Or.inr ⟨rfl, rfl, rfl⟩) rfl ?_
  refine zr_mem e_183 ?_
  have hl_184 : M_182.1.length = M.1.length + 20 := by rw [← e_183]; exact hl_180
  refine zr_aload_n (q := 169) dX10_init_168 rfl rfl 0 rfl ?_
  refine zr_bipush (q := 171) (v := 10) dX10_init_169 rfl (by decide) ?_
  obtain ⟨M_185, e_186, h⟩ := app_some h
  obtain ⟨a_187, e_188, h⟩ := app_some h
  refine zr_newI (q := 173) (N := 10) (u' := (21, 895)) rfl hl_184 dX10_init_171 rfl zb_559 (by decide) (by decide) (by decide) ⟨by decide, by decide⟩ rfl ?_
  refine zr_mem e_186 ?_
  have hl_189 : M_185.1.length = M.1.length + 21 := by rw [← e_186, mNew_len, hl_184]
  refine zr_nmA e_188 ?_
  obtain ⟨c_190, h⟩ := chk_some h
  obtain ⟨M_191, e_192, h⟩ := app_some h
  refine zr_putR (q := 176) (ci := 10) (k := 26) dX10_init_173 rfl (eq_of_beq c_190) rfl (by decide) rfl zbX10 tyX10_ok nmX10 (by decide) zb_398 (Or.inr ⟨rfl, rfl, rfl⟩) rfl ?_
  refine zr_mem e_192 ?_
  have hl_193 : M_191.1.length = M.1.length + 21 := by rw [← e_192]; exact hl_189
  refine zr_aload_n (q := 177) dX10_init_176 rfl rfl 0 rfl ?_
  refine zr_bipush (q := 179) (v := 60) dX10_init_177 rfl (by decide) ?_
  obtain ⟨M_194, e_195, h⟩ := app_some h
  obtain ⟨a_196, e_197, h⟩ := app_some h
  refine zr_newL (q := 181) (N := 60) (u' := (22, 955)) rfl hl_193 dX10_init_179 rfl zb_561 (by decide) (by decide) (by decide) ⟨by decide, by decide⟩ rfl ?_
  refine zr_mem e_195 ?_
  have hl_198 : M_194.1.length = M.1.length + 22 := by rw [← e_195, mNew_len, hl_193]
  refine zr_nmA e_197 ?_
  obtain ⟨c_199, h⟩ := chk_some h
  obtain ⟨M_200, e_201, h⟩ := app_some h
  refine zr_putR (q := 184) (ci := 10) (k := 27) dX10_init_181 rfl (eq_of_beq c_199) rfl (by decide) rfl zbX10 tyX10_ok nmX10 (by decide) zb_444 (Or.inr ⟨rfl, rfl, rfl⟩) rfl ?_
  refine zr_mem e_201 ?_
  have hl_202 : M_200.1.length = M.1.length + 22 := by rw [← e_201]; exact hl_198
  refine zr_aload_n (q := 185) dX10_init_184 rfl rfl 0 rfl ?_
  refine zr_sipush (q := 188) (v := 600) dX10_init_185 rfl (by decide) ?_
  obtain ⟨M_203, e_204, h⟩ := app_some h
  obtain ⟨a_205, e_206, h⟩ := app_some h
  refine zr_newL (q := 190) (N := 600) (u' := (23, 1555)) rfl hl_202 dX10_init_188 rfl zb_561 (by decide) (by decide) (by decide) ⟨by decide, by decide⟩ rfl ?_
  refine zr_mem e_204 ?_
  have hl_207 : M_203.1.length = M.1.length + 23 := by rw [← e_204, mNew_len, hl_202]
  refine zr_nmA e_206 ?_
  obtain ⟨c_208, h⟩ := chk_some h
  obtain ⟨M_209, e_210, h⟩ := app_some h
  refine zr_putR (q := 193) (ci := 10) (k := 30) dX10_init_190 rfl (eq_of_beq c_208) rfl (by decide) rfl zbX10 tyX10_ok nmX10 (by decide) zb_516 (Or.inr ⟨rfl, rfl, rfl⟩) rfl ?_
  refine zr_mem e_210 ?_
  have hl_211 : M_209.1.length = M.1.length + 23 := by rw [← e_210]; exact hl_207
  refine zr_aload_n (q := 194) dX10_init_193 rfl rfl 0 rfl ?_
  refine zr_sipush (q := 197) (v := 21600) dX10_init_194 rfl (by decide) ?_
  obtain ⟨M_212, e_213, h⟩ := app_some h
  obtain ⟨a_214, e_215, h⟩ := app_some h
  refine zr_newI (q := 199) (N := 21600) (u' := (24, 23155)) rfl hl_211 dX10_init_197 rfl zb_559 (by decide) (by decide) (by decide) ⟨by decide, by decide⟩ rfl ?_
  refine zr_mem e_213 ?_
  have hl_216 : M_212.1.length = M.1.length + 24 := by rw [← e_213, mNew_len, hl_211]
  refine zr_nmA e_215 ?_
  obtain ⟨c_217, h⟩ := chk_some h
  obtain ⟨M_218, e_219, h⟩ := app_some h
  refine zr_putR (q := 202) (ci := 10) (k := 31) dX10_init_199 rfl (eq_of_beq c_217) rfl (by decide) rfl zbX10 tyX10_ok nmX10 (by decide) zb_518 (Or.inr ⟨rfl, rfl, rfl⟩) rfl ?_
  refine zr_mem e_219 ?_
  have hl_220 : M_218.1.length = M.1.length + 24 := by rw [← e_219]; exact hl_216
  refine zr_aload_n (q := 203) dX10_init_202 rfl rfl 0 rfl ?_
  refine zr_iconst (q := 204) (v := 2) dX10_init_203 rfl (by decide) ?_
  obtain ⟨M_221, e_222, h⟩ := app_some h
  obtain ⟨a_223, e_224, h⟩ := app_some h
  refine zr_newI (q := 206) (N := 2) (u' := (25, 23157)) rfl hl_220 dX10_init_204 rfl zb_559 (by decide) (by decide) (by decide) ⟨by decide, by decide⟩ rfl ?_
  refine zr_mem e_222 ?_
  have hl_225 : M_221.1.length = M.1.length + 25 := by rw [← e_222, mNew_len, hl_220]
  refine zr_nmA e_224 ?_
  obtain ⟨c_226, h⟩ := chk_some h
  obtain ⟨M_227, e_228, h⟩ := app_some h
  refine zr_putR (q := 209) (ci := 10) (k := 32) dX10_init_206 rfl (eq_of_beq c_226) rfl (by decide) rfl zbX10 tyX10_ok nmX10 (by decide) zb_515 (Or.inr ⟨rfl, rfl, rfl⟩) rfl ?_
  refine zr_mem e_228 ?_
  have hl_229 : M_227.1.length = M.1.length + 25 := by rw [← e_228]; exact hl_225
  refine zr_aload_n (q := 210) dX10_init_209 rfl rfl 0 rfl ?_
  refine zr_iconst (q := 211) (v := 2) dX10_init_210 rfl (by decide) ?_
  obtain ⟨M_230, e_231, h⟩ := app_some h
  obtain ⟨a_232, e_233, h⟩ := app_some h
  refine zr_newZ (q := 213) (N := 2) (u' := (26, 23159)) rfl hl_229 dX10_init_211 rfl zb_558 (by decide) (by decide) (by decide) ⟨by decide, by decide⟩ rfl ?_
  refine zr_mem e_231 ?_
  have hl_234 : M_230.1.length = M.1.length + 26 := by rw [← e_231, mNew_len, hl_229]
  refine zr_nmA e_233 ?_
  obtain ⟨c_235, h⟩ := chk_some h
  obtain ⟨M_236, e_237, h⟩ := app_some h
  refine zr_putR (q := 216) (ci := 10) (k := 33) dX10_init_213 rfl (eq_of_beq c_235) rfl (by decide) rfl zbX10 tyX10_ok nmX10 (by decide) zb_517 (Or.inr ⟨rfl, rfl, rfl⟩) rfl ?_
  refine zr_mem e_237 ?_
  have hl_238 : M_236.1.length = M.1.length + 26 := by rw [← e_237]; exact hl_234
  refine zr_aload_n (q := 217) dX10_init_216 rfl rfl 0 rfl ?_
  refine zr_ldc (q := 219) (v := 90000) dX10_init_217 rfl zb_544 ?_
  obtain ⟨M_239, e_240, h⟩ := app_some h
  obtain ⟨a_241, e_242, h⟩ := app_some h
  refine zr_newZ (q := 221) (N := 90000) (u' := (27, 113159)) rfl hl_238 dX10_init_219 rfl zb_558 (by decide) (by decide) (by decide) ⟨by decide, by decide⟩ rfl ?_
  refine zr_mem e_240 ?_
  have hl_243 : M_239.1.length = M.1.length + 27 := by rw [← e_240, mNew_len, hl_238]
  refine zr_nmA e_242 ?_
  obtain ⟨c_244, h⟩ := chk_some h
  obtain ⟨M_245, e_246, h⟩ := app_some h
  refine zr_putR (q := 224) (ci := 10) (k := 34) dX10_init_221 rfl (eq_of_beq c_244) rfl (by decide) rfl zbX10 tyX10_ok nmX10 (by decide) zb_535 (Or.inr ⟨rfl, rfl, rfl⟩) rfl ?_
  refine zr_mem e_246 ?_
  have hl_247 : M_245.1.length = M.1.length + 27 := by rw [← e_246]; exact hl_243
  refine zr_aload_n (q := 225) dX10_init_224 rfl rfl 0 rfl ?_
  refine zr_ldc (q := 227) (v := 90000) dX10_init_225 rfl zb_544 ?_
  obtain ⟨M_248, e_249, h⟩ := app_some h
  obtain ⟨a_250, e_251, h⟩ := app_some h
  refine zr_newI (q := 229) (N := 90000) (u' := (28, 203159)) rfl hl_247 dX10_init_227 rfl zb_559 (by decide) (by decide) (by decide) ⟨by decide, by decide⟩ rfl ?_
  refine zr_mem e_249 ?_
  have hl_252 : M_248.1.length = M.1.length + 28 := by rw [← e_249, mNew_len, hl_247]
  refine zr_nmA e_251 ?_
  obtain ⟨c_253, h⟩ := chk_some h
  obtain ⟨M_254, e_255, h⟩ := app_some h
  refine zr_putR (q := 232) (ci := 10) (k := 35) dX10_init_229 rfl (eq_of_beq c_253) rfl (by decide) rfl zbX10 tyX10_ok nmX10 (by decide) zb_549 (Or.inr ⟨rfl, rfl, rfl⟩) rfl ?_
  refine zr_mem e_255 ?_
  have hl_256 : M_254.1.length = M.1.length + 28 := by rw [← e_255]; exact hl_252
  refine zr_aload_n (q := 233) dX10_init_232 rfl rfl 0 rfl ?_
  refine zr_ldc (q := 235) (v := 90000) dX10_init_233 rfl zb_544 ?_
  obtain ⟨M_257, e_258, h⟩ := app_some h
  obtain ⟨a_259, e_260, h⟩ := app_some h
  refine zr_newI (q := 237) (N := 90000) (u' := (29, 293159)) rfl hl_256 dX10_init_235 rfl zb_559 (by decide) (by decide) (by decide) ⟨by decide, by decide⟩ rfl ?_
  refine zr_mem e_258 ?_
  have hl_261 : M_257.1.length = M.1.length + 29 := by rw [← e_258, mNew_len, hl_256]
  refine zr_nmA e_260 ?_
  obtain ⟨c_262, h⟩ := chk_some h
  obtain ⟨M_263, e_264, h⟩ := app_some h
  refine zr_putR (q := 240) (ci := 10) (k := 36) dX10_init_237 rfl (eq_of_beq c_262) rfl (by decide) rfl zbX10 tyX10_ok nmX10 (by decide) zb_547 (Or.inr ⟨rfl, rfl, rfl⟩) rfl ?_
  refine zr_mem e_264 ?_
  have hl_265 : M_263.1.length = M.1.length + 29 := by rw [← e_264]; exact hl_261
  refine zr_aload_n (q := 241) dX10_init_240 rfl rfl 0 rfl ?_
  refine zr_ldc (q := 243) (v := 90000) dX10_init_241 rfl zb_544 ?_
  obtain ⟨M_266, e_267, h⟩ := app_some h
  obtain ⟨a_268, e_269, h⟩ := app_some h
  refine zr_newI (q := 245) (N := 90000) (u' := (30, 383159)) rfl hl_265 dX10_init_243 rfl zb_559 (by decide) (by decide) (by decide) ⟨by decide, by decide⟩ rfl ?_
  refine zr_mem e_267 ?_
  have hl_270 : M_266.1.length = M.1.length + 30 := by rw [← e_267, mNew_len, hl_265]
  refine zr_nmA e_269 ?_
  obtain ⟨c_271, h⟩ := chk_some h
  obtain ⟨M_272, e_273, h⟩ := app_some h
  refine zr_putR (q := 248) (ci := 10) (k := 37) dX10_init_245 rfl (eq_of_beq c_271) rfl (by decide) rfl zbX10 tyX10_ok nmX10 (by decide) zb_546 (Or.inr ⟨rfl, rfl, rfl⟩) rfl ?_
  refine zr_mem e_273 ?_
  have hl_274 : M_272.1.length = M.1.length + 30 := by rw [← e_273]; exact hl_270
  refine zr_aload_n (q := 249) dX10_init_248 rfl rfl 0 rfl ?_
  refine zr_ldc (q := 251) (v := 90000) dX10_init_249 rfl zb_544 ?_
  obtain ⟨M_275, e_276, h⟩ := app_some h
  obtain ⟨a_277, e_278, h⟩ := app_some h
  refine zr_newI (q := 253) (N := 90000) (u' := (31, 473159)) rfl hl_274 dX10_init_251 rfl zb_559 (by decide) (by decide) (by decide) ⟨by decide, by decide⟩ rfl ?_
  refine zr_mem e_276 ?_
  have hl_279 : M_275.1.length = M.1.length + 31 := by rw [← e_276, mNew_len, hl_274]
  refine zr_nmA e_278 ?_
  obtain ⟨c_280, h⟩ := chk_some h
  obtain ⟨M_281, e_282, h⟩ := app_some h
  refine zr_putR (q := 256) (ci := 10) (k := 38) dX10_init_253 rfl (eq_of_beq c_280) rfl (by decide) rfl zbX10 tyX10_ok nmX10 (by decide) zb_545 (Or.inr ⟨rfl, rfl, rfl⟩) rfl ?_
  refine zr_mem e_282 ?_
  have hl_283 : M_281.1.length = M.1.length + 31 := by rw [← e_282]; exact hl_279
  refine zr_aload_n (q := 257) dX10_init_256 rfl rfl 0 rfl ?_
  refine zr_sipush (q := 260) (v := 200) dX10_init_257 rfl (by decide) ?_
  obtain ⟨M_284, e_285, h⟩ := app_some h
  obtain ⟨a_286, e_287, h⟩ := app_some h
  refine zr_newI (q := 262) (N := 200) (u' := (32, 473359)) rfl hl_283 dX10_init_260 rfl zb_559 (by decide) (by decide) (by decide) ⟨by decide, by decide⟩ rfl ?_
  refine zr_mem e_285 ?_
  have hl_288 : M_284.1.length = M.1.length + 32 := by rw [← e_285, mNew_len, hl_283]
  refine zr_nmA e_287 ?_
  obtain ⟨c_289, h⟩ := chk_some h
  obtain ⟨M_290, e_291, h⟩ := app_some h
  refine zr_putR (q := 265) (ci := 10) (k := 40) dX10_init_262 rfl (eq_of_beq c_289) rfl (by decide) rfl zbX10 tyX10_ok nmX10 (by decide) zb_510 (Or.inr ⟨rfl, rfl, rfl⟩) rfl ?_
  refine zr_mem e_291 ?_
  have hl_292 : M_290.1.length = M.1.length + 32 := by rw [← e_291]; exact hl_288
  refine zr_aload_n (q := 266) dX10_init_265 rfl rfl 0 rfl ?_
  refine zr_sipush (q := 269) (v := 200) dX10_init_266 rfl (by decide) ?_
  obtain ⟨M_293, e_294, h⟩ := app_some h
  obtain ⟨a_295, e_296, h⟩ := app_some h
  refine zr_newI (q := 271) (N := 200) (u' := (33, 473559)) rfl hl_292 dX10_init_269 rfl zb_559 (by decide) (by decide) (by decide) ⟨by decide, by decide⟩ rfl ?_
  refine zr_mem e_294 ?_
  have hl_297 : M_293.1.length = M.1.length + 33 := by rw [← e_294, mNew_len, hl_292]
  refine zr_nmA e_296 ?_
  obtain ⟨c_298, h⟩ := chk_some h
  obtain ⟨M_299, e_300, h⟩ := app_some h
  refine zr_putR (q := 274) (ci := 10) (k := 41) dX10_init_271 rfl (eq_of_beq c_298) rfl (by decide) rfl zbX10 tyX10_ok nmX10 (by decide) zb_508 (Or.inr ⟨rfl, rfl, rfl⟩) rfl ?_
  refine zr_mem e_300 ?_
  have hl_301 : M_299.1.length = M.1.length + 33 := by rw [← e_300]; exact hl_297
  cases h
  exact zr_return dX10_init_274 rfl ⟨by decide, by decide⟩ ⟨rfl, rfl⟩
set_option maxHeartbeats 4000000 in
set_option maxRecDepth 100000 in
theorem lenX10_init (n : Nat) (M : zM) (v0 : Nat) (M' : zM) (h : fX10_init n M v0 = some ((), M')) : M'.1.length = M.1.length + 33 := by
  have hl0 : M.1.length = M.1.length + 0 := rfl
  unfold fX10_init at h
  obtain ⟨M_1, e_2, h⟩ := app_some h
  obtain ⟨a_3, e_4, h⟩ := app_some h
  have hl_5 : M_1.1.length = M.1.length + 1 := by rw [← e_2, mNew_len, hl0]
  obtain ⟨c_6, h⟩ := chk_some h
  obtain ⟨M_7, e_8, h⟩ := app_some h
  have hl_9 : M_7.1.length = M.1.length + 1 := by rw [← e_8]; exact hl_5
  obtain ⟨M_10, e_11, h⟩ := app_some h
  obtain ⟨a_12, e_13, h⟩ := app_some h
  have hl_14 : M_10.1.length = M.1.length + 2 := by rw [← e_11, mNew_len, hl_9]
  obtain ⟨c_15, h⟩ := chk_some h
  obtain ⟨M_16, e_17, h⟩ := app_some h
  have hl_18 : M_16.1.length = M.1.length + 2 := by rw [← e_17]; exact hl_14
  obtain ⟨c_19, h⟩ := chk_some h
  obtain ⟨M_20, e_21, h⟩ := app_some h
  have hl_22 : M_20.1.length = M.1.length + 2 := by rw [← e_21]; exact hl_18
  obtain ⟨M_23, e_24, h⟩ := app_some h
  obtain ⟨a_25, e_26, h⟩ := app_some h
  have hl_27 : M_23.1.length = M.1.length + 3 := by rw [← e_24, mNew_len, hl_22]
  obtain ⟨c_28, h⟩ := chk_some h
  obtain ⟨M_29, e_30, h⟩ := app_some h
  have hl_31 : M_29.1.length = M.1.length + 3 := by rw [← e_30]; exact hl_27
  obtain ⟨M_32, e_33, h⟩ := app_some h
  obtain ⟨a_34, e_35, h⟩ := app_some h
  have hl_36 : M_32.1.length = M.1.length + 4 := by rw [← e_33, mNew_len, hl_31]
  obtain ⟨c_37, h⟩ := chk_some h
  obtain ⟨M_38, e_39, h⟩ := app_some h
  have hl_40 : M_38.1.length = M.1.length + 4 := by rw [← e_39]; exact hl_36
  obtain ⟨M_41, e_42, h⟩ := app_some h
  obtain ⟨a_43, e_44, h⟩ := app_some h
  have hl_45 : M_41.1.length = M.1.length + 5 := by rw [← e_42, mNew_len, hl_40]
  obtain ⟨c_46, h⟩ := chk_some h
  obtain ⟨M_47, e_48, h⟩ := app_some h
  have hl_49 : M_47.1.length = M.1.length + 5 := by rw [← e_48]; exact hl_45
  obtain ⟨M_50, e_51, h⟩ := app_some h
  obtain ⟨a_52, e_53, h⟩ := app_some h
  have hl_54 : M_50.1.length = M.1.length + 6 := by rw [← e_51, mNew_len, hl_49]
  obtain ⟨c_55, h⟩ := chk_some h
  obtain ⟨M_56, e_57, h⟩ := app_some h
  have hl_58 : M_56.1.length = M.1.length + 6 := by rw [← e_57]; exact hl_54
  obtain ⟨M_59, e_60, h⟩ := app_some h
  obtain ⟨a_61, e_62, h⟩ := app_some h
  have hl_63 : M_59.1.length = M.1.length + 7 := by rw [← e_60, mNew_len, hl_58]
  obtain ⟨c_64, h⟩ := chk_some h
  obtain ⟨M_65, e_66, h⟩ := app_some h
  have hl_67 : M_65.1.length = M.1.length + 7 := by rw [← e_66]; exact hl_63
  obtain ⟨M_68, e_69, h⟩ := app_some h
  obtain ⟨a_70, e_71, h⟩ := app_some h
  have hl_72 : M_68.1.length = M.1.length + 8 := by rw [← e_69, mNew_len, hl_67]
  obtain ⟨c_73, h⟩ := chk_some h
  obtain ⟨M_74, e_75, h⟩ := app_some h
  have hl_76 : M_74.1.length = M.1.length + 8 := by rw [← e_75]; exact hl_72
  obtain ⟨M_77, e_78, h⟩ := app_some h
  obtain ⟨a_79, e_80, h⟩ := app_some h
  have hl_81 : M_77.1.length = M.1.length + 9 := by rw [← e_78, mNew_len, hl_76]
  obtain ⟨c_82, h⟩ := chk_some h
  obtain ⟨M_83, e_84, h⟩ := app_some h
  have hl_85 : M_83.1.length = M.1.length + 9 := by rw [← e_84]; exact hl_81
  obtain ⟨M_86, e_87, h⟩ := app_some h
  obtain ⟨a_88, e_89, h⟩ := app_some h
  have hl_90 : M_86.1.length = M.1.length + 10 := by rw [← e_87, mNew_len, hl_85]
  obtain ⟨c_91, h⟩ := chk_some h
  obtain ⟨M_92, e_93, h⟩ := app_some h
  have hl_94 : M_92.1.length = M.1.length + 10 := by rw [← e_93]; exact hl_90
  obtain ⟨M_95, e_96, h⟩ := app_some h
  obtain ⟨a_97, e_98, h⟩ := app_some h
  have hl_99 : M_95.1.length = M.1.length + 11 := by rw [← e_96, mNew_len, hl_94]
  obtain ⟨c_100, h⟩ := chk_some h
  obtain ⟨M_101, e_102, h⟩ := app_some h
  have hl_103 : M_101.1.length = M.1.length + 11 := by rw [← e_102]; exact hl_99
  obtain ⟨M_104, e_105, h⟩ := app_some h
  obtain ⟨a_106, e_107, h⟩ := app_some h
  have hl_108 : M_104.1.length = M.1.length + 12 := by rw [← e_105, mNew_len, hl_103]
  obtain ⟨c_109, h⟩ := chk_some h
  obtain ⟨M_110, e_111, h⟩ := app_some h
  have hl_112 : M_110.1.length = M.1.length + 12 := by rw [← e_111]; exact hl_108
  obtain ⟨M_113, e_114, h⟩ := app_some h
  obtain ⟨a_115, e_116, h⟩ := app_some h
  have hl_117 : M_113.1.length = M.1.length + 13 := by rw [← e_114, mNew_len, hl_112]
  obtain ⟨c_118, h⟩ := chk_some h
  obtain ⟨M_119, e_120, h⟩ := app_some h
  have hl_121 : M_119.1.length = M.1.length + 13 := by rw [← e_120]; exact hl_117
  obtain ⟨M_122, e_123, h⟩ := app_some h
  obtain ⟨a_124, e_125, h⟩ := app_some h
  have hl_126 : M_122.1.length = M.1.length + 14 := by rw [← e_123, mNew_len, hl_121]
  obtain ⟨c_127, h⟩ := chk_some h
  obtain ⟨M_128, e_129, h⟩ := app_some h
  have hl_130 : M_128.1.length = M.1.length + 14 := by rw [← e_129]; exact hl_126
  obtain ⟨M_131, e_132, h⟩ := app_some h
  obtain ⟨a_133, e_134, h⟩ := app_some h
  have hl_135 : M_131.1.length = M.1.length + 15 := by rw [← e_132, mNew_len, hl_130]
  obtain ⟨c_136, h⟩ := chk_some h
  obtain ⟨M_137, e_138, h⟩ := app_some h
  have hl_139 : M_137.1.length = M.1.length + 15 := by rw [← e_138]; exact hl_135
  obtain ⟨M_140, e_141, h⟩ := app_some h
  obtain ⟨a_142, e_143, h⟩ := app_some h
  have hl_144 : M_140.1.length = M.1.length + 16 := by rw [← e_141, mNew_len, hl_139]
  obtain ⟨c_145, h⟩ := chk_some h
  obtain ⟨M_146, e_147, h⟩ := app_some h
  have hl_148 : M_146.1.length = M.1.length + 16 := by rw [← e_147]; exact hl_144
  obtain ⟨M_149, e_150, h⟩ := app_some h
  obtain ⟨a_151, e_152, h⟩ := app_some h
  have hl_153 : M_149.1.length = M.1.length + 17 := by rw [← e_150, mNew_len, hl_148]
  obtain ⟨c_154, h⟩ := chk_some h
  obtain ⟨M_155, e_156, h⟩ := app_some h
  have hl_157 : M_155.1.length = M.1.length + 17 := by rw [← e_156]; exact hl_153
  obtain ⟨M_158, e_159, h⟩ := app_some h
  obtain ⟨a_160, e_161, h⟩ := app_some h
  have hl_162 : M_158.1.length = M.1.length + 18 := by rw [← e_159, mNew_len, hl_157]
  obtain ⟨c_163, h⟩ := chk_some h
  obtain ⟨M_164, e_165, h⟩ := app_some h
  have hl_166 : M_164.1.length = M.1.length + 18 := by rw [← e_165]; exact hl_162
  obtain ⟨M_167, e_168, h⟩ := app_some h
  obtain ⟨a_169, e_170, h⟩ := app_some h
  have hl_171 : M_167.1.length = M.1.length + 19 := by rw [← e_168, mNew_len, hl_166]
  obtain ⟨c_172, h⟩ := chk_some h
  obtain ⟨M_173, e_174, h⟩ := app_some h
  have hl_175 : M_173.1.length = M.1.length + 19 := by rw [← e_174]; exact hl_171
  obtain ⟨M_176, e_177, h⟩ := app_some h
  obtain ⟨a_178, e_179, h⟩ := app_some h
  have hl_180 : M_176.1.length = M.1.length + 20 := by rw [← e_177, mNew_len, hl_175]
  obtain ⟨c_181, h⟩ := chk_some h
  obtain ⟨M_182, e_183, h⟩ := app_some h
  have hl_184 : M_182.1.length = M.1.length + 20 := by rw [← e_183]; exact hl_180
  obtain ⟨M_185, e_186, h⟩ := app_some h
  obtain ⟨a_187, e_188, h⟩ := app_some h
  have hl_189 : M_185.1.length = M.1.length + 21 := by rw [← e_186, mNew_len, hl_184]
  obtain ⟨c_190, h⟩ := chk_some h
  obtain ⟨M_191, e_192, h⟩ := app_some h
  have hl_193 : M_191.1.length = M.1.length + 21 := by rw [← e_192]; exact hl_189
  obtain ⟨M_194, e_195, h⟩ := app_some h
  obtain ⟨a_196, e_197, h⟩ := app_some h
  have hl_198 : M_194.1.length = M.1.length + 22 := by rw [← e_195, mNew_len, hl_193]
  obtain ⟨c_199, h⟩ := chk_some h
  obtain ⟨M_200, e_201, h⟩ := app_some h
  have hl_202 : M_200.1.length = M.1.length + 22 := by rw [← e_201]; exact hl_198
  obtain ⟨M_203, e_204, h⟩ := app_some h
  obtain ⟨a_205, e_206, h⟩ := app_some h
  have hl_207 : M_203.1.length = M.1.length + 23 := by rw [← e_204, mNew_len, hl_202]
  obtain ⟨c_208, h⟩ := chk_some h
  obtain ⟨M_209, e_210, h⟩ := app_some h
  have hl_211 : M_209.1.length = M.1.length + 23 := by rw [← e_210]; exact hl_207
  obtain ⟨M_212, e_213, h⟩ := app_some h
  obtain ⟨a_214, e_215, h⟩ := app_some h
  have hl_216 : M_212.1.length = M.1.length + 24 := by rw [← e_213, mNew_len, hl_211]
  obtain ⟨c_217, h⟩ := chk_some h
  obtain ⟨M_218, e_219, h⟩ := app_some h
  have hl_220 : M_218.1.length = M.1.length + 24 := by rw [← e_219]; exact hl_216
  obtain ⟨M_221, e_222, h⟩ := app_some h
  obtain ⟨a_223, e_224, h⟩ := app_some h
  have hl_225 : M_221.1.length = M.1.length + 25 := by rw [← e_222, mNew_len, hl_220]
  obtain ⟨c_226, h⟩ := chk_some h
  obtain ⟨M_227, e_228, h⟩ := app_some h
  have hl_229 : M_227.1.length = M.1.length + 25 := by rw [← e_228]; exact hl_225
  obtain ⟨M_230, e_231, h⟩ := app_some h
  obtain ⟨a_232, e_233, h⟩ := app_some h
  have hl_234 : M_230.1.length = M.1.length + 26 := by rw [← e_231, mNew_len, hl_229]
  obtain ⟨c_235, h⟩ := chk_some h
  obtain ⟨M_236, e_237, h⟩ := app_some h
  have hl_238 : M_236.1.length = M.1.length + 26 := by rw [← e_237]; exact hl_234
  obtain ⟨M_239, e_240, h⟩ := app_some h
  obtain ⟨a_241, e_242, h⟩ := app_some h
  have hl_243 : M_239.1.length = M.1.length + 27 := by rw [← e_240, mNew_len, hl_238]
  obtain ⟨c_244, h⟩ := chk_some h
  obtain ⟨M_245, e_246, h⟩ := app_some h
  have hl_247 : M_245.1.length = M.1.length + 27 := by rw [← e_246]; exact hl_243
  obtain ⟨M_248, e_249, h⟩ := app_some h
  obtain ⟨a_250, e_251, h⟩ := app_some h
  have hl_252 : M_248.1.length = M.1.length + 28 := by rw [← e_249, mNew_len, hl_247]
  obtain ⟨c_253, h⟩ := chk_some h
  obtain ⟨M_254, e_255, h⟩ := app_some h
  have hl_256 : M_254.1.length = M.1.length + 28 := by rw [← e_255]; exact hl_252
  obtain ⟨M_257, e_258, h⟩ := app_some h
  obtain ⟨a_259, e_260, h⟩ := app_some h
  have hl_261 : M_257.1.length = M.1.length + 29 := by rw [← e_258, mNew_len, hl_256]
  obtain ⟨c_262, h⟩ := chk_some h
  obtain ⟨M_263, e_264, h⟩ := app_some h
  have hl_265 : M_263.1.length = M.1.length + 29 := by rw [← e_264]; exact hl_261
  obtain ⟨M_266, e_267, h⟩ := app_some h
  obtain ⟨a_268, e_269, h⟩ := app_some h
  have hl_270 : M_266.1.length = M.1.length + 30 := by rw [← e_267, mNew_len, hl_265]
  obtain ⟨c_271, h⟩ := chk_some h
  obtain ⟨M_272, e_273, h⟩ := app_some h
  have hl_274 : M_272.1.length = M.1.length + 30 := by rw [← e_273]; exact hl_270
  obtain ⟨M_275, e_276, h⟩ := app_some h
  obtain ⟨a_277, e_278, h⟩ := app_some h
  have hl_279 : M_275.1.length = M.1.length + 31 := by rw [← e_276, mNew_len, hl_274]
  obtain ⟨c_280, h⟩ := chk_some h
  obtain ⟨M_281, e_282, h⟩ := app_some h
  have hl_283 : M_281.1.length = M.1.length + 31 := by rw [← e_282]; exact hl_279
  obtain ⟨M_284, e_285, h⟩ := app_some h
  obtain ⟨a_286, e_287, h⟩ := app_some h
  have hl_288 : M_284.1.length = M.1.length + 32 := by rw [← e_285, mNew_len, hl_283]
  obtain ⟨c_289, h⟩ := chk_some h
  obtain ⟨M_290, e_291, h⟩ := app_some h
  have hl_292 : M_290.1.length = M.1.length + 32 := by rw [← e_291]; exact hl_288
  obtain ⟨M_293, e_294, h⟩ := app_some h
  obtain ⟨a_295, e_296, h⟩ := app_some h
  have hl_297 : M_293.1.length = M.1.length + 33 := by rw [← e_294, mNew_len, hl_292]
  obtain ⟨c_298, h⟩ := chk_some h
  obtain ⟨M_299, e_300, h⟩ := app_some h
  have hl_301 : M_299.1.length = M.1.length + 33 := by rw [← e_300]; exact hl_297
  cases h
  exact hl_301
