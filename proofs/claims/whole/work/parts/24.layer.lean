/-! by program: wip/decomp.py, wip/mk_code.py -/
def uX5_set : zMu := (yX5_set, cX5_set, 7, none, { frames := 0, cells := 0, slots := 0, locals := 0 }, [])
theorem zd_X5_set : (uY uX5_set).cls ≠ "java/lang/invoke/MethodHandle" ∧ (uY uX5_set).cls ≠ "java/lang/invoke/VarHandle" ∧ (parseMethodDescriptor (uY uX5_set).desc).map (fun d => d.parameters.length) = some 4 := by decide +kernel
def fX5_set (n : Nat) (M : zM) (v0 : Nat) (v1 : Int32) (v2 : Int32) (v3 : Int64) (v5 : Int64) : Option (Unit × zM) :=
  chk (mK M v0 == 5) <|
  app (wI M v0 0 v1) fun M_2 : zM =>
  chk (mK M_2 v0 == 5) <|
  chk (z01 v2) <|
  app (wI M_2 v0 1 v2) fun M_6 : zM =>
  chk (mK M_6 v0 == 5) <|
  app (wL M_6 v0 2 v3) fun M_9 : zM =>
  chk (mK M_9 v0 == 5) <|
  app (wL M_9 v0 3 v5) fun M_12 : zM =>
  some ((), M_12)
set_option maxHeartbeats 4000000 in
theorem tX5_set (n : Nat) (M : zM) (v0 : Nat) (v1 : Int32) (v2 : Int32) (v3 : Int64) (v5 : Int64) (r : Unit) (M' : zM) (h : fX5_set n M v0 v1 v2 v3 v5 = some (r, M')) : zMet uX5_set false M [.ref v0, .int v1, .int v2, .long v3, .long v5] (zE (oV r) M') := by
  refine zMet_of (L := [(0, .ref v0), (1, .int v1), (2, .int v2), (3, .long v3), (5, .long v5)]) (by decide +kernel) rfl rfl (Nat.le_of_ble_eq_true rfl) ?_
  show zW uX5_set none (0, 0) M 0 [(0, .ref v0), (1, .int v1), (2, .int v2), (3, .long v3), (5, .long v5)] [] (zE (oV r) M')
  unfold fX5_set at h
  refine zr_aload_n (q := 1) dX5_set_0 rfl rfl 0 rfl ?_
  refine zr_iload_n (q := 2) dX5_set_1 rfl rfl 1 rfl ?_
  obtain ⟨c_1, h⟩ := chk_some h
  obtain ⟨M_2, e_3, h⟩ := app_some h
  refine zr_putI (q := 5) (ci := 5) (k := 0) dX5_set_2 rfl (eq_of_beq c_1) rfl (by decide) rfl zbX5 tyX5_ok nmX5 (by decide) zb_104 (Or.inl rfl) rfl ?_
  refine zr_mem e_3 ?_
  refine zr_aload_n (q := 6) dX5_set_5 rfl rfl 0 rfl ?_
  refine zr_iload_n (q := 7) dX5_set_6 rfl rfl 2 rfl ?_
  obtain ⟨c_4, h⟩ := chk_some h
  obtain ⟨c_5, h⟩ := chk_some h
  obtain ⟨M_6, e_7, h⟩ := app_some h
  refine zr_putZ (q := 10) (ci := 5) (k := 1) dX5_set_7 rfl (eq_of_beq c_4) rfl (by decide) rfl zbX5 tyX5_ok nmX5 (by decide) zb_105 (Or.inl rfl) rfl (z01_or c_5) ?_
  refine zr_mem e_7 ?_
  refine zr_aload_n (q := 11) dX5_set_10 rfl rfl 0 rfl ?_
  refine zr_lload_n (q := 12) dX5_set_11 rfl rfl 3 rfl ?_
  obtain ⟨c_8, h⟩ := chk_some h
  obtain ⟨M_9, e_10, h⟩ := app_some h
  refine zr_putL (q := 15) (ci := 5) (k := 2) dX5_set_12 rfl (eq_of_beq c_8) rfl (by decide) rfl zbX5 tyX5_ok nmX5 (by decide) zb_106 (Or.inl rfl) rfl ?_
  refine zr_mem e_10 ?_
  refine zr_aload_n (q := 16) dX5_set_15 rfl rfl 0 rfl ?_
  refine zr_lload (q := 18) dX5_set_16 rfl 4 rfl ?_
  obtain ⟨c_11, h⟩ := chk_some h
  obtain ⟨M_12, e_13, h⟩ := app_some h
  refine zr_putL (q := 21) (ci := 5) (k := 3) dX5_set_18 rfl (eq_of_beq c_11) rfl (by decide) rfl zbX5 tyX5_ok nmX5 (by decide) zb_107 (Or.inl rfl) rfl ?_
  refine zr_mem e_13 ?_
  cases h
  exact zr_return dX5_set_21 rfl ⟨by decide, by decide⟩ ⟨rfl, rfl⟩

def uX3_beginRow : zMu := (yX3_beginRow, cX3_beginRow, 1, none, { frames := 1, cells := 0, slots := 0, locals := 26 }, [])
theorem zd_X3_beginRow : (uY uX3_beginRow).cls ≠ "java/lang/invoke/MethodHandle" ∧ (uY uX3_beginRow).cls ≠ "java/lang/invoke/VarHandle" ∧ (parseMethodDescriptor (uY uX3_beginRow).desc).map (fun d => d.parameters.length) = some 0 := by decide +kernel
def fX3_beginRow (n : Nat) (M : zM) (v0 : Nat) : Option (Unit × zM) :=
  chk (mK M v0 == 3) <|
  bnd (mR M v0 5) fun a_2 =>
  chk (mK M v0 == 3) <|
  chk (mK M a_2 == 15) <|
  chk (zin (mI M v0 0) (mN M a_2)) <|
  bnd (mR M a_2 (Int32.toNatClampNeg (mI M v0 0))) fun a_7 =>
  chk (mK M v0 == 3) <|
  bnd (mR M v0 2) fun a_10 =>
  chk (mK M a_10 == 4) <|
  chk (mK M a_7 == 5) <|
  bnd2 (fX5_set n M a_7 (mI M a_10 0) (1 : Int32) (0 : Int64) (0 : Int64)) fun r_13 M_14 =>
  chk (mK M_14 v0 == 3) <|
  app (wI M_14 v0 1 (0 : Int32)) fun M_18 : zM =>
  some ((), M_18)
set_option maxHeartbeats 4000000 in
theorem tX3_beginRow (n : Nat) (M : zM) (v0 : Nat) (r : Unit) (M' : zM) (h : fX3_beginRow n M v0 = some (r, M')) : zMet uX3_beginRow false M [.ref v0] (zE (oV r) M') := by
  refine zMet_of (L := [(0, .ref v0)]) (by decide +kernel) rfl rfl (Nat.le_of_ble_eq_true rfl) ?_
  show zW uX3_beginRow none (0, 0) M 0 [(0, .ref v0)] [] (zE (oV r) M')
  unfold fX3_beginRow at h
  refine zr_aload_n (q := 1) dX3_beginRow_0 rfl rfl 0 rfl ?_
  obtain ⟨c_1, h⟩ := chk_some h
  obtain ⟨a_2, e_3, h⟩ := bnd_some h
  refine zr_getr (q := 4) (ci := 3) (k := 5) dX3_beginRow_1 rfl (eq_of_beq c_1) rfl (by decide) rfl zbX3 (by decide) zb_108 rfl e_3 ?_
  refine zr_aload_n (q := 5) dX3_beginRow_4 rfl rfl 0 rfl ?_
  obtain ⟨c_4, h⟩ := chk_some h
  refine zr_get (q := 8) (ci := 3) (k := 0) dX3_beginRow_5 rfl (eq_of_beq c_4) rfl (by decide) rfl zbX3 (by decide) zb_109 rfl ?_
  obtain ⟨c_5, h⟩ := chk_some h
  obtain ⟨c_6, h⟩ := chk_some h
  obtain ⟨a_7, e_8, h⟩ := bnd_some h
  refine zr_aald (q := 9) dX3_beginRow_8 rfl (eq_of_beq c_5) (Or.inr rfl) c_6 e_8 ?_
  refine zr_aload_n (q := 10) dX3_beginRow_9 rfl rfl 0 rfl ?_
  obtain ⟨c_9, h⟩ := chk_some h
  obtain ⟨a_10, e_11, h⟩ := bnd_some h
  refine zr_getr (q := 13) (ci := 3) (k := 2) dX3_beginRow_10 rfl (eq_of_beq c_9) rfl (by decide) rfl zbX3 (by decide) zb_110 rfl e_11 ?_
  obtain ⟨c_12, h⟩ := chk_some h
  refine zr_get (q := 16) (ci := 4) (k := 0) dX3_beginRow_13 rfl (eq_of_beq c_12) rfl (by decide) rfl zbX4 (by decide) zb_111 rfl ?_
  refine zr_iconst (q := 17) (v := 1) dX3_beginRow_16 rfl (by decide) ?_
  refine zr_lconst (q := 18) (v := 0) dX3_beginRow_17 rfl (by decide) ?_
  refine zr_lconst (q := 19) (v := 0) dX3_beginRow_18 rfl (by decide) ?_
  obtain ⟨c_16, h⟩ := chk_some h
  obtain ⟨r_13, M_14, hc_15, h⟩ := bnd2_some h
  refine zr_callVV (μ' := uX5_set) (q := 22) (n := 4) (ci := 5) (As := [.int (mI M a_10 0), .int (1 : Int32), .long (0 : Int64), .long (0 : Int64)]) (u' := (0, 0)) (tX5_set n M a_7 (mI M a_10 0) (1 : Int32) (0 : Int64) (0 : Int64) _ _ hc_15) dX3_beginRow_19 rfl rfl ⟨zb_112, zb_113, zb_114, zb_115, zb_116⟩ zd_X5_set ⟨by decide, by decide⟩ ⟨by decide, by decide⟩ (eq_of_beq c_16) (by decide) rfl rfl rfl (Nat.le_of_ble_eq_true rfl) rfl rfl ?_
  refine zr_aload_n (q := 23) dX3_beginRow_22 rfl rfl 0 rfl ?_
  refine zr_iconst (q := 24) (v := 0) dX3_beginRow_23 rfl (by decide) ?_
  obtain ⟨c_17, h⟩ := chk_some h
  obtain ⟨M_18, e_19, h⟩ := app_some h
  refine zr_putZ (q := 27) (ci := 3) (k := 1) dX3_beginRow_24 rfl (eq_of_beq c_17) rfl (by decide) rfl zbX3 tyX3_ok nmX3 (by decide) zb_117 (Or.inl rfl) rfl (Or.inl rfl) ?_
  refine zr_mem e_19 ?_
  cases h
  exact zr_return dX3_beginRow_27 rfl ⟨by decide, by decide⟩ ⟨rfl, rfl⟩

def uX3_beginChoices : zMu := (yX3_beginChoices, cX3_beginChoices, 1, none, { frames := 2, cells := 0, slots := 0, locals := 46 }, [])
theorem zd_X3_beginChoices : (uY uX3_beginChoices).cls ≠ "java/lang/invoke/MethodHandle" ∧ (uY uX3_beginChoices).cls ≠ "java/lang/invoke/VarHandle" ∧ (parseMethodDescriptor (uY uX3_beginChoices).desc).map (fun d => d.parameters.length) = some 0 := by decide +kernel
def fX3_beginChoices (n : Nat) (M : zM) (v0 : Nat) : Option (Unit × zM) :=
  chk (mK M v0 == 3) <|
  bnd (mR M v0 6) fun a_2 =>
  chk (mK M v0 == 3) <|
  chk (mK M a_2 == 15) <|
  chk (zin (mI M v0 0) (mN M a_2)) <|
  bnd (mR M a_2 (Int32.toNatClampNeg (mI M v0 0))) fun a_7 =>
  chk (mK M v0 == 3) <|
  bnd (mR M v0 2) fun a_10 =>
  chk (mK M a_10 == 4) <|
  chk (mK M a_7 == 5) <|
  bnd2 (fX5_set n M a_7 (mI M a_10 0) (0 : Int32) (0 : Int64) (0 : Int64)) fun r_13 M_14 =>
  chk (mK M_14 v0 == 3) <|
  bnd2 (fX3_beginRow n M_14 v0) fun r_17 M_18 =>
  some ((), M_18)
set_option maxHeartbeats 4000000 in
theorem tX3_beginChoices (n : Nat) (M : zM) (v0 : Nat) (r : Unit) (M' : zM) (h : fX3_beginChoices n M v0 = some (r, M')) : zMet uX3_beginChoices false M [.ref v0] (zE (oV r) M') := by
  refine zMet_of (L := [(0, .ref v0)]) (by decide +kernel) rfl rfl (Nat.le_of_ble_eq_true rfl) ?_
  show zW uX3_beginChoices none (0, 0) M 0 [(0, .ref v0)] [] (zE (oV r) M')
  unfold fX3_beginChoices at h
  refine zr_aload_n (q := 1) dX3_beginChoices_0 rfl rfl 0 rfl ?_
  obtain ⟨c_1, h⟩ := chk_some h
  obtain ⟨a_2, e_3, h⟩ := bnd_some h
  refine zr_getr (q := 4) (ci := 3) (k := 6) dX3_beginChoices_1 rfl (eq_of_beq c_1) rfl (by decide) rfl zbX3 (by decide) zb_118 rfl e_3 ?_
  refine zr_aload_n (q := 5) dX3_beginChoices_4 rfl rfl 0 rfl ?_
  obtain ⟨c_4, h⟩ := chk_some h
  refine zr_get (q := 8) (ci := 3) (k := 0) dX3_beginChoices_5 rfl (eq_of_beq c_4) rfl (by decide) rfl zbX3 (by decide) zb_109 rfl ?_
  obtain ⟨c_5, h⟩ := chk_some h
  obtain ⟨c_6, h⟩ := chk_some h
  obtain ⟨a_7, e_8, h⟩ := bnd_some h
  refine zr_aald (q := 9) dX3_beginChoices_8 rfl (eq_of_beq c_5) (Or.inr rfl) c_6 e_8 ?_
  refine zr_aload_n (q := 10) dX3_beginChoices_9 rfl rfl 0 rfl ?_
  obtain ⟨c_9, h⟩ := chk_some h
  obtain ⟨a_10, e_11, h⟩ := bnd_some h
  refine zr_getr (q := 13) (ci := 3) (k := 2) dX3_beginChoices_10 rfl (eq_of_beq c_9) rfl (by decide) rfl zbX3 (by decide) zb_110 rfl e_11 ?_
  obtain ⟨c_12, h⟩ := chk_some h
  refine zr_get (q := 16) (ci := 4) (k := 0) dX3_beginChoices_13 rfl (eq_of_beq c_12) rfl (by decide) rfl zbX4 (by decide) zb_111 rfl ?_
  refine zr_iconst (q := 17) (v := 0) dX3_beginChoices_16 rfl (by decide) ?_
  refine zr_lconst (q := 18) (v := 0) dX3_beginChoices_17 rfl (by decide) ?_
  refine zr_lconst (q := 19) (v := 0) dX3_beginChoices_18 rfl (by decide) ?_
  obtain ⟨c_16, h⟩ := chk_some h
  obtain ⟨r_13, M_14, hc_15, h⟩ := bnd2_some h
  refine zr_callVV (μ' := uX5_set) (q := 22) (n := 4) (ci := 5) (As := [.int (mI M a_10 0), .int (0 : Int32), .long (0 : Int64), .long (0 : Int64)]) (u' := (0, 0)) (tX5_set n M a_7 (mI M a_10 0) (0 : Int32) (0 : Int64) (0 : Int64) _ _ hc_15) dX3_beginChoices_19 rfl rfl ⟨zb_112, zb_113, zb_114, zb_115, zb_116⟩ zd_X5_set ⟨by decide, by decide⟩ ⟨by decide, by decide⟩ (eq_of_beq c_16) (by decide) rfl rfl rfl (Nat.le_of_ble_eq_true rfl) rfl rfl ?_
  refine zr_aload_n (q := 23) dX3_beginChoices_22 rfl rfl 0 rfl ?_
  obtain ⟨c_20, h⟩ := chk_some h
  obtain ⟨r_17, M_18, hc_19, h⟩ := bnd2_some h
  refine zr_callVV (μ' := uX3_beginRow) (q := 26) (n := 0) (ci := 3) (As := []) (u' := (0, 0)) (tX3_beginRow n M_14 v0 _ _ hc_19) dX3_beginChoices_23 rfl rfl ⟨zb_119, zb_120, zb_121, zb_122, zb_123⟩ zd_X3_beginRow ⟨by decide, by decide⟩ ⟨by decide, by decide⟩ (eq_of_beq c_20) (by decide) rfl rfl rfl (Nat.le_of_ble_eq_true rfl) rfl rfl ?_
  cases h
  exact zr_return dX3_beginChoices_26 rfl ⟨by decide, by decide⟩ ⟨rfl, rfl⟩

def uX3_begin : zMu := (yX3_begin, cX3_begin, 2, none, { frames := 3, cells := 0, slots := 0, locals := 66 }, [])
theorem zd_X3_begin : (uY uX3_begin).cls ≠ "java/lang/invoke/MethodHandle" ∧ (uY uX3_begin).cls ≠ "java/lang/invoke/VarHandle" ∧ (parseMethodDescriptor (uY uX3_begin).desc).map (fun d => d.parameters.length) = some 1 := by decide +kernel
def fX3_begin (n : Nat) (M : zM) (v0 : Nat) (v1 : Nat) : Option (Unit × zM) :=
  chk (mK M v0 == 3) <|
  app (wR M v0 2 (some v1)) fun M_2 : zM =>
  chk (mK M_2 v0 == 3) <|
  bnd (mR M_2 v0 2) fun a_5 =>
  chk (mK M_2 a_5 == 4) <|
  bnd2 (fX4_wipe n M_2 a_5) fun r_7 M_8 =>
  chk (mK M_8 v0 == 3) <|
  app (wI M_8 v0 0 (0 : Int32)) fun M_12 : zM =>
  chk (mK M_12 v0 == 3) <|
  bnd2 (fX3_beginChoices n M_12 v0) fun r_14 M_15 =>
  some ((), M_15)
set_option maxHeartbeats 4000000 in
theorem tX3_begin (n : Nat) (M : zM) (v0 : Nat) (v1 : Nat) (r : Unit) (M' : zM) (h : fX3_begin n M v0 v1 = some (r, M')) : zMet uX3_begin false M [.ref v0, .ref v1] (zE (oV r) M') := by
  refine zMet_of (L := [(0, .ref v0), (1, .ref v1)]) (by decide +kernel) rfl rfl (Nat.le_of_ble_eq_true rfl) ?_
  show zW uX3_begin none (0, 0) M 0 [(0, .ref v0), (1, .ref v1)] [] (zE (oV r) M')
  unfold fX3_begin at h
  refine zr_aload_n (q := 1) dX3_begin_0 rfl rfl 0 rfl ?_
  refine zr_aload_n (q := 2) dX3_begin_1 rfl rfl 1 rfl ?_
  obtain ⟨c_1, h⟩ := chk_some h
  obtain ⟨M_2, e_3, h⟩ := app_some h
  refine zr_putR (q := 5) (ci := 3) (k := 2) dX3_begin_2 rfl (eq_of_beq c_1) rfl (by decide) rfl zbX3 tyX3_ok nmX3 (by decide) zb_110 (Or.inl rfl) rfl ?_
  refine zr_mem e_3 ?_
  refine zr_aload_n (q := 6) dX3_begin_5 rfl rfl 0 rfl ?_
  obtain ⟨c_4, h⟩ := chk_some h
  obtain ⟨a_5, e_6, h⟩ := bnd_some h
  refine zr_getr (q := 9) (ci := 3) (k := 2) dX3_begin_6 rfl (eq_of_beq c_4) rfl (by decide) rfl zbX3 (by decide) zb_110 rfl e_6 ?_
  obtain ⟨c_10, h⟩ := chk_some h
  obtain ⟨r_7, M_8, hc_9, h⟩ := bnd2_some h
  refine zr_callVV (μ' := uX4_wipe) (q := 12) (n := 0) (ci := 4) (As := []) (u' := (0, 0)) (tX4_wipe n M_2 a_5 _ _ hc_9) dX3_begin_9 rfl rfl ⟨zb_124, zb_125, zb_126, zb_127, zb_31⟩ zd_X4_wipe ⟨by decide, by decide⟩ ⟨by decide, by decide⟩ (eq_of_beq c_10) (by decide) rfl rfl rfl (Nat.le_of_ble_eq_true rfl) rfl rfl ?_
  refine zr_aload_n (q := 13) dX3_begin_12 rfl rfl 0 rfl ?_
  refine zr_iconst (q := 14) (v := 0) dX3_begin_13 rfl (by decide) ?_
  obtain ⟨c_11, h⟩ := chk_some h
  obtain ⟨M_12, e_13, h⟩ := app_some h
  refine zr_putI (q := 17) (ci := 3) (k := 0) dX3_begin_14 rfl (eq_of_beq c_11) rfl (by decide) rfl zbX3 tyX3_ok nmX3 (by decide) zb_109 (Or.inl rfl) rfl ?_
  refine zr_mem e_13 ?_
  refine zr_aload_n (q := 18) dX3_begin_17 rfl rfl 0 rfl ?_
  obtain ⟨c_17, h⟩ := chk_some h
  obtain ⟨r_14, M_15, hc_16, h⟩ := bnd2_some h
  refine zr_callVV (μ' := uX3_beginChoices) (q := 21) (n := 0) (ci := 3) (As := []) (u' := (0, 0)) (tX3_beginChoices n M_12 v0 _ _ hc_16) dX3_begin_18 rfl rfl ⟨zb_128, zb_129, zb_130, zb_131, zb_123⟩ zd_X3_beginChoices ⟨by decide, by decide⟩ ⟨by decide, by decide⟩ (eq_of_beq c_17) (by decide) rfl rfl rfl (Nat.le_of_ble_eq_true rfl) rfl rfl ?_
  cases h
  exact zr_return dX3_begin_21 rfl ⟨by decide, by decide⟩ ⟨rfl, rfl⟩

def uX5_append : zMu := (yX5_append, cX5_append, 3, none, { frames := 1, cells := 0, slots := 0, locals := 25 }, [])
theorem zd_X5_append : (uY uX5_append).cls ≠ "java/lang/invoke/MethodHandle" ∧ (uY uX5_append).cls ≠ "java/lang/invoke/VarHandle" ∧ (parseMethodDescriptor (uY uX5_append).desc).map (fun d => d.parameters.length) = some 2 := by decide +kernel
def fX5_append_85 (n : Nat) (M : zM) (s0 : Nat) : Option (Unit × zM) :=
  chk (mK M s0 == 5) <|
  app (wI M s0 1 (0 : Int32)) fun M_2 : zM =>
  some ((), M_2)
set_option maxHeartbeats 4000000 in
theorem tX5_append_85 (n : Nat) (M : zM) (s0 : Nat) (r : Unit) (M' : zM) (h : fX5_append_85 n M s0 = some (r, M')) : zW uX5_append none (0, 0) M 85 [] [.ref s0] (zE (oV r) M') := by
  unfold fX5_append_85 at h
  refine zr_iconst (q := 86) (v := 0) dX5_append_85 rfl (by decide) ?_
  obtain ⟨c_1, h⟩ := chk_some h
  obtain ⟨M_2, e_3, h⟩ := app_some h
  refine zr_putZ (q := 89) (ci := 5) (k := 1) dX5_append_86 rfl (eq_of_beq c_1) rfl (by decide) rfl zbX5 tyX5_ok nmX5 (by decide) zb_105 (Or.inl rfl) rfl (Or.inl rfl) ?_
  refine zr_mem e_3 ?_
  cases h
  exact zr_return dX5_append_89 rfl ⟨by decide, by decide⟩ ⟨rfl, rfl⟩
def fX5_append_63 (n : Nat) (M : zM) (v0 : Nat) (v1 : Nat) (s0 : Nat) (s1 : Int64) : Option (Unit × zM) :=
  chk (mK M s0 == 5) <|
  app (wL M s0 3 s1) fun M_2 : zM =>
  chk (mK M_2 v0 == 5) <|
  if (mI M_2 v0 1) = (0 : Int32) then
    fX5_append_85 n M_2 v0
  else
  chk (mK M_2 v1 == 5) <|
  if (mI M_2 v1 1) = (0 : Int32) then
    fX5_append_85 n M_2 v0
  else
  chk (mK M_2 v0 == 5) <|
  app (wI M_2 v0 1 (1 : Int32)) fun M_9 : zM =>
  some ((), M_9)
set_option maxHeartbeats 4000000 in
theorem tX5_append_63 (n : Nat) (M : zM) (v0 : Nat) (v1 : Nat) (s0 : Nat) (s1 : Int64) (r : Unit) (M' : zM) (h : fX5_append_63 n M v0 v1 s0 s1 = some (r, M')) : zW uX5_append none (0, 0) M 63 [(0, .ref v0), (1, .ref v1)] [.long s1, .ref s0] (zE (oV r) M') := by
  unfold fX5_append_63 at h
  obtain ⟨c_1, h⟩ := chk_some h
  obtain ⟨M_2, e_3, h⟩ := app_some h
  refine zr_putL (q := 66) (ci := 5) (k := 3) dX5_append_63 rfl (eq_of_beq c_1) rfl (by decide) rfl zbX5 tyX5_ok nmX5 (by decide) zb_107 (Or.inl rfl) rfl ?_
  refine zr_mem e_3 ?_
  refine zr_aload_n (q := 67) dX5_append_66 rfl rfl 0 rfl ?_
  refine zr_aload_n (q := 68) dX5_append_67 rfl rfl 0 rfl ?_
  obtain ⟨c_4, h⟩ := chk_some h
  refine zr_get (q := 71) (ci := 5) (k := 1) dX5_append_68 rfl (eq_of_beq c_4) rfl (by decide) rfl zbX5 (by decide) zb_105 rfl ?_
  refine zr_if_eq (q := 74) (tgt := 85) dX5_append_71 rfl (by decide) (fun c_5 => ?_) (fun c_5 => ?_)
  · replace h := ite_t c_5 h
    exact zr_pick [] rfl (tX5_append_85 n M_2 v0 _ _ h)
  · replace h := ite_f c_5 h
    refine zr_aload_n (q := 75) dX5_append_74 rfl rfl 1 rfl ?_
    obtain ⟨c_6, h⟩ := chk_some h
    refine zr_get (q := 78) (ci := 5) (k := 1) dX5_append_75 rfl (eq_of_beq c_6) rfl (by decide) rfl zbX5 (by decide) zb_105 rfl ?_
    refine zr_if_eq (q := 81) (tgt := 85) dX5_append_78 rfl (by decide) (fun c_7 => ?_) (fun c_7 => ?_)
    · replace h := ite_t c_7 h
      exact zr_pick [] rfl (tX5_append_85 n M_2 v0 _ _ h)
    · replace h := ite_f c_7 h
      refine zr_iconst (q := 82) (v := 1) dX5_append_81 rfl (by decide) ?_
      refine zr_goto (q := 86) dX5_append_82 (by decide) ?_
      obtain ⟨c_8, h⟩ := chk_some h
      obtain ⟨M_9, e_10, h⟩ := app_some h
      refine zr_putZ (q := 89) (ci := 5) (k := 1) dX5_append_86 rfl (eq_of_beq c_8) rfl (by decide) rfl zbX5 tyX5_ok nmX5 (by decide) zb_105 (Or.inl rfl) rfl (Or.inr rfl) ?_
      refine zr_mem e_10 ?_
      cases h
      exact zr_return dX5_append_89 rfl ⟨by decide, by decide⟩ ⟨rfl, rfl⟩
def fX5_append_36 (n : Nat) (M : zM) (v0 : Nat) (v1 : Nat) (s0 : Nat) (s1 : Int64) : Option (Unit × zM) :=
  chk (mK M s0 == 5) <|
  app (wL M s0 2 s1) fun M_2 : zM =>
  chk (mK M_2 v1 == 5) <|
  if (mI M_2 v1 1) = (0 : Int32) then
    chk (mK M_2 v1 == 5) <|
    fX5_append_63 n M_2 v0 v1 v0 (mL M_2 v1 3)
  else
  chk (mK M_2 v0 == 5) <|
  chk (mK M_2 v1 == 5) <|
  fX5_append_63 n M_2 v0 v1 v0 ((mL M_2 v0 3) ||| (mL M_2 v1 3))
set_option maxHeartbeats 4000000 in
theorem tX5_append_36 (n : Nat) (M : zM) (v0 : Nat) (v1 : Nat) (s0 : Nat) (s1 : Int64) (r : Unit) (M' : zM) (h : fX5_append_36 n M v0 v1 s0 s1 = some (r, M')) : zW uX5_append none (0, 0) M 36 [(0, .ref v0), (1, .ref v1)] [.long s1, .ref s0] (zE (oV r) M') := by
  unfold fX5_append_36 at h
  obtain ⟨c_1, h⟩ := chk_some h
  obtain ⟨M_2, e_3, h⟩ := app_some h
  refine zr_putL (q := 39) (ci := 5) (k := 2) dX5_append_36 rfl (eq_of_beq c_1) rfl (by decide) rfl zbX5 tyX5_ok nmX5 (by decide) zb_106 (Or.inl rfl) rfl ?_
  refine zr_mem e_3 ?_
  refine zr_aload_n (q := 40) dX5_append_39 rfl rfl 0 rfl ?_
  refine zr_aload_n (q := 41) dX5_append_40 rfl rfl 1 rfl ?_
  obtain ⟨c_4, h⟩ := chk_some h
  refine zr_get (q := 44) (ci := 5) (k := 1) dX5_append_41 rfl (eq_of_beq c_4) rfl (by decide) rfl zbX5 (by decide) zb_105 rfl ?_
  refine zr_if_eq (q := 47) (tgt := 59) dX5_append_44 rfl (by decide) (fun c_5 => ?_) (fun c_5 => ?_)
  · replace h := ite_t c_5 h
    refine zr_aload_n (q := 60) dX5_append_59 rfl rfl 1 rfl ?_
    obtain ⟨c_6, h⟩ := chk_some h
    refine zr_get (q := 63) (ci := 5) (k := 3) dX5_append_60 rfl (eq_of_beq c_6) rfl (by decide) rfl zbX5 (by decide) zb_107 rfl ?_
    exact zr_pick [0, 1] rfl (tX5_append_63 n M_2 v0 v1 v0 (mL M_2 v1 3) _ _ h)
  · replace h := ite_f c_5 h
    refine zr_aload_n (q := 48) dX5_append_47 rfl rfl 0 rfl ?_
    obtain ⟨c_7, h⟩ := chk_some h
    refine zr_get (q := 51) (ci := 5) (k := 3) dX5_append_48 rfl (eq_of_beq c_7) rfl (by decide) rfl zbX5 (by decide) zb_107 rfl ?_
    refine zr_aload_n (q := 52) dX5_append_51 rfl rfl 1 rfl ?_
    obtain ⟨c_8, h⟩ := chk_some h
    refine zr_get (q := 55) (ci := 5) (k := 3) dX5_append_52 rfl (eq_of_beq c_8) rfl (by decide) rfl zbX5 (by decide) zb_107 rfl ?_
    refine zr_lor (q := 56) dX5_append_55 rfl ?_
    refine zr_goto (q := 63) dX5_append_56 (by decide) ?_
    exact zr_pick [0, 1] rfl (tX5_append_63 n M_2 v0 v1 v0 ((mL M_2 v0 3) ||| (mL M_2 v1 3)) _ _ h)
def fX5_append (n : Nat) (M : zM) (v0 : Nat) (v1 : Nat) (v2 : Nat) : Option (Unit × zM) :=
  chk (mK M v0 == 5) <|
  chk (mK M v1 == 5) <|
  chk (mK M v2 == 4) <|
  bnd2 (fX4_connect n M v2 (mL M v0 3) (mL M v1 2)) fun r_3 M_4 =>
  chk (mK M_4 v0 == 5) <|
  if (mI M_4 v0 1) = (0 : Int32) then
    chk (mK M_4 v0 == 5) <|
    fX5_append_36 n M_4 v0 v1 v0 (mL M_4 v0 2)
  else
  chk (mK M_4 v0 == 5) <|
  chk (mK M_4 v1 == 5) <|
  fX5_append_36 n M_4 v0 v1 v0 ((mL M_4 v0 2) ||| (mL M_4 v1 2))
set_option maxHeartbeats 4000000 in
theorem tX5_append (n : Nat) (M : zM) (v0 : Nat) (v1 : Nat) (v2 : Nat) (r : Unit) (M' : zM) (h : fX5_append n M v0 v1 v2 = some (r, M')) : zMet uX5_append false M [.ref v0, .ref v1, .ref v2] (zE (oV r) M') := by
  refine zMet_of (L := [(0, .ref v0), (1, .ref v1), (2, .ref v2)]) (by decide +kernel) rfl rfl (Nat.le_of_ble_eq_true rfl) ?_
  show zW uX5_append none (0, 0) M 0 [(0, .ref v0), (1, .ref v1), (2, .ref v2)] [] (zE (oV r) M')
  unfold fX5_append at h
  refine zr_aload_n (q := 1) dX5_append_0 rfl rfl 2 rfl ?_
  refine zr_aload_n (q := 2) dX5_append_1 rfl rfl 0 rfl ?_
  obtain ⟨c_1, h⟩ := chk_some h
  refine zr_get (q := 5) (ci := 5) (k := 3) dX5_append_2 rfl (eq_of_beq c_1) rfl (by decide) rfl zbX5 (by decide) zb_107 rfl ?_
  refine zr_aload_n (q := 6) dX5_append_5 rfl rfl 1 rfl ?_
  obtain ⟨c_2, h⟩ := chk_some h
  refine zr_get (q := 9) (ci := 5) (k := 2) dX5_append_6 rfl (eq_of_beq c_2) rfl (by decide) rfl zbX5 (by decide) zb_106 rfl ?_
  obtain ⟨c_6, h⟩ := chk_some h
  obtain ⟨r_3, M_4, hc_5, h⟩ := bnd2_some h
  refine zr_callVV (μ' := uX4_connect) (q := 12) (n := 2) (ci := 4) (As := [.long (mL M v0 3), .long (mL M v1 2)]) (u' := (0, 0)) (tX4_connect n M v2 (mL M v0 3) (mL M v1 2) _ _ hc_5) dX5_append_9 rfl rfl ⟨zb_132, zb_133, zb_134, zb_135, zb_31⟩ zd_X4_connect ⟨by decide, by decide⟩ ⟨by decide, by decide⟩ (eq_of_beq c_6) (by decide) rfl rfl rfl (Nat.le_of_ble_eq_true rfl) rfl rfl ?_
  refine zr_aload_n (q := 13) dX5_append_12 rfl rfl 0 rfl ?_
  refine zr_aload_n (q := 14) dX5_append_13 rfl rfl 0 rfl ?_
  obtain ⟨c_7, h⟩ := chk_some h
  refine zr_get (q := 17) (ci := 5) (k := 1) dX5_append_14 rfl (eq_of_beq c_7) rfl (by decide) rfl zbX5 (by decide) zb_105 rfl ?_
  refine zr_if_eq (q := 20) (tgt := 32) dX5_append_17 rfl (by decide) (fun c_8 => ?_) (fun c_8 => ?_)
  · replace h := ite_t c_8 h
    refine zr_aload_n (q := 33) dX5_append_32 rfl rfl 0 rfl ?_
    obtain ⟨c_9, h⟩ := chk_some h
    refine zr_get (q := 36) (ci := 5) (k := 2) dX5_append_33 rfl (eq_of_beq c_9) rfl (by decide) rfl zbX5 (by decide) zb_106 rfl ?_
    exact zr_pick [0, 1] rfl (tX5_append_36 n M_4 v0 v1 v0 (mL M_4 v0 2) _ _ h)
  · replace h := ite_f c_8 h
    refine zr_aload_n (q := 21) dX5_append_20 rfl rfl 0 rfl ?_
    obtain ⟨c_10, h⟩ := chk_some h
    refine zr_get (q := 24) (ci := 5) (k := 2) dX5_append_21 rfl (eq_of_beq c_10) rfl (by decide) rfl zbX5 (by decide) zb_106 rfl ?_
    refine zr_aload_n (q := 25) dX5_append_24 rfl rfl 1 rfl ?_
    obtain ⟨c_11, h⟩ := chk_some h
    refine zr_get (q := 28) (ci := 5) (k := 2) dX5_append_25 rfl (eq_of_beq c_11) rfl (by decide) rfl zbX5 (by decide) zb_106 rfl ?_
    refine zr_lor (q := 29) dX5_append_28 rfl ?_
    refine zr_goto (q := 36) dX5_append_29 (by decide) ?_
    exact zr_pick [0, 1] rfl (tX5_append_36 n M_4 v0 v1 v0 ((mL M_4 v0 2) ||| (mL M_4 v1 2)) _ _ h)

def uX3_endPart : zMu := (yX3_endPart, cX3_endPart, 1, none, { frames := 2, cells := 0, slots := 0, locals := 47 }, [])
theorem zd_X3_endPart : (uY uX3_endPart).cls ≠ "java/lang/invoke/MethodHandle" ∧ (uY uX3_endPart).cls ≠ "java/lang/invoke/VarHandle" ∧ (parseMethodDescriptor (uY uX3_endPart).desc).map (fun d => d.parameters.length) = some 0 := by decide +kernel
def fX3_endPart (n : Nat) (M : zM) (v0 : Nat) : Option (Unit × zM) :=
  chk (mK M v0 == 3) <|
  if (mI M v0 1) = (0 : Int32) then
    some ((), M)
  else
  chk (mK M v0 == 3) <|
  bnd (mR M v0 5) fun a_4 =>
  chk (mK M v0 == 3) <|
  chk (mK M a_4 == 15) <|
  chk (zin (mI M v0 0) (mN M a_4)) <|
  bnd (mR M a_4 (Int32.toNatClampNeg (mI M v0 0))) fun a_9 =>
  chk (mK M v0 == 3) <|
  bnd (mR M v0 3) fun a_12 =>
  chk (mK M v0 == 3) <|
  bnd (mR M v0 2) fun a_15 =>
  chk (mK M a_9 == 5) <|
  bnd2 (fX5_append n M a_9 a_12 a_15) fun r_17 M_18 =>
  some ((), M_18)
set_option maxHeartbeats 4000000 in
theorem tX3_endPart (n : Nat) (M : zM) (v0 : Nat) (r : Unit) (M' : zM) (h : fX3_endPart n M v0 = some (r, M')) : zMet uX3_endPart false M [.ref v0] (zE (oV r) M') := by
  refine zMet_of (L := [(0, .ref v0)]) (by decide +kernel) rfl rfl (Nat.le_of_ble_eq_true rfl) ?_
  show zW uX3_endPart none (0, 0) M 0 [(0, .ref v0)] [] (zE (oV r) M')
  unfold fX3_endPart at h
  refine zr_aload_n (q := 1) dX3_endPart_0 rfl rfl 0 rfl ?_
  obtain ⟨c_1, h⟩ := chk_some h
  refine zr_get (q := 4) (ci := 3) (k := 1) dX3_endPart_1 rfl (eq_of_beq c_1) rfl (by decide) rfl zbX3 (by decide) zb_117 rfl ?_
  refine zr_if_eq (q := 7) (tgt := 27) dX3_endPart_4 rfl (by decide) (fun c_2 => ?_) (fun c_2 => ?_)
  · replace h := ite_t c_2 h
    cases h
    exact zr_return dX3_endPart_27 rfl ⟨by decide, by decide⟩ ⟨rfl, rfl⟩
  · replace h := ite_f c_2 h
    refine zr_aload_n (q := 8) dX3_endPart_7 rfl rfl 0 rfl ?_
    obtain ⟨c_3, h⟩ := chk_some h
    obtain ⟨a_4, e_5, h⟩ := bnd_some h
    refine zr_getr (q := 11) (ci := 3) (k := 5) dX3_endPart_8 rfl (eq_of_beq c_3) rfl (by decide) rfl zbX3 (by decide) zb_108 rfl e_5 ?_
    refine zr_aload_n (q := 12) dX3_endPart_11 rfl rfl 0 rfl ?_
    obtain ⟨c_6, h⟩ := chk_some h
    refine zr_get (q := 15) (ci := 3) (k := 0) dX3_endPart_12 rfl (eq_of_beq c_6) rfl (by decide) rfl zbX3 (by decide) zb_109 rfl ?_
    obtain ⟨c_7, h⟩ := chk_some h
    obtain ⟨c_8, h⟩ := chk_some h
    obtain ⟨a_9, e_10, h⟩ := bnd_some h
    refine zr_aald (q := 16) dX3_endPart_15 rfl (eq_of_beq c_7) (Or.inr rfl) c_8 e_10 ?_
    refine zr_aload_n (q := 17) dX3_endPart_16 rfl rfl 0 rfl ?_
    obtain ⟨c_11, h⟩ := chk_some h
    obtain ⟨a_12, e_13, h⟩ := bnd_some h
    refine zr_getr (q := 20) (ci := 3) (k := 3) dX3_endPart_17 rfl (eq_of_beq c_11) rfl (by decide) rfl zbX3 (by decide) zb_136 rfl e_13 ?_
    refine zr_aload_n (q := 21) dX3_endPart_20 rfl rfl 0 rfl ?_
    obtain ⟨c_14, h⟩ := chk_some h
    obtain ⟨a_15, e_16, h⟩ := bnd_some h
    refine zr_getr (q := 24) (ci := 3) (k := 2) dX3_endPart_21 rfl (eq_of_beq c_14) rfl (by decide) rfl zbX3 (by decide) zb_110 rfl e_16 ?_
    obtain ⟨c_20, h⟩ := chk_some h
    obtain ⟨r_17, M_18, hc_19, h⟩ := bnd2_some h
    refine zr_callVV (μ' := uX5_append) (q := 27) (n := 2) (ci := 5) (As := [.ref a_12, .ref a_15]) (u' := (0, 0)) (tX5_append n M a_9 a_12 a_15 _ _ hc_19) dX3_endPart_24 rfl rfl ⟨zb_137, zb_138, zb_139, zb_140, zb_116⟩ zd_X5_append ⟨by decide, by decide⟩ ⟨by decide, by decide⟩ (eq_of_beq c_20) (by decide) rfl rfl rfl (Nat.le_of_ble_eq_true rfl) rfl rfl ?_
    cases h
    exact zr_return dX3_endPart_27 rfl ⟨by decide, by decide⟩ ⟨rfl, rfl⟩

def uX5_orElse : zMu := (yX5_orElse, cX5_orElse, 2, none, { frames := 0, cells := 0, slots := 0, locals := 0 }, [])
theorem zd_X5_orElse : (uY uX5_orElse).cls ≠ "java/lang/invoke/MethodHandle" ∧ (uY uX5_orElse).cls ≠ "java/lang/invoke/VarHandle" ∧ (parseMethodDescriptor (uY uX5_orElse).desc).map (fun d => d.parameters.length) = some 1 := by decide +kernel
def fX5_orElse_41 (n : Nat) (M : zM) (s0 : Nat) : Option (Unit × zM) :=
  chk (mK M s0 == 5) <|
  app (wI M s0 1 (1 : Int32)) fun M_2 : zM =>
  some ((), M_2)
set_option maxHeartbeats 4000000 in
theorem tX5_orElse_41 (n : Nat) (M : zM) (s0 : Nat) (r : Unit) (M' : zM) (h : fX5_orElse_41 n M s0 = some (r, M')) : zW uX5_orElse none (0, 0) M 41 [] [.ref s0] (zE (oV r) M') := by
  unfold fX5_orElse_41 at h
  refine zr_iconst (q := 42) (v := 1) dX5_orElse_41 rfl (by decide) ?_
  refine zr_goto (q := 46) dX5_orElse_42 (by decide) ?_
  obtain ⟨c_1, h⟩ := chk_some h
  obtain ⟨M_2, e_3, h⟩ := app_some h
  refine zr_putZ (q := 49) (ci := 5) (k := 1) dX5_orElse_46 rfl (eq_of_beq c_1) rfl (by decide) rfl zbX5 tyX5_ok nmX5 (by decide) zb_105 (Or.inl rfl) rfl (Or.inr rfl) ?_
  refine zr_mem e_3 ?_
  cases h
  exact zr_return dX5_orElse_49 rfl ⟨by decide, by decide⟩ ⟨rfl, rfl⟩
def fX5_orElse (n : Nat) (M : zM) (v0 : Nat) (v1 : Nat) : Option (Unit × zM) :=
  chk (mK M v0 == 5) <|
  chk (mK M v1 == 5) <|
  chk (mK M v0 == 5) <|
  app (wL M v0 2 ((mL M v0 2) ||| (mL M v1 2))) fun M_4 : zM =>
  chk (mK M_4 v0 == 5) <|
  chk (mK M_4 v1 == 5) <|
  chk (mK M_4 v0 == 5) <|
  app (wL M_4 v0 3 ((mL M_4 v0 3) ||| (mL M_4 v1 3))) fun M_9 : zM =>
  chk (mK M_9 v0 == 5) <|
  if (mI M_9 v0 1) = (0 : Int32) then
    chk (mK M_9 v1 == 5) <|
    if (mI M_9 v1 1) = (0 : Int32) then
      chk (mK M_9 v0 == 5) <|
      app (wI M_9 v0 1 (0 : Int32)) fun M_16 : zM =>
      some ((), M_16)
    else
    fX5_orElse_41 n M_9 v0
  else
  fX5_orElse_41 n M_9 v0
set_option maxHeartbeats 4000000 in
theorem tX5_orElse (n : Nat) (M : zM) (v0 : Nat) (v1 : Nat) (r : Unit) (M' : zM) (h : fX5_orElse n M v0 v1 = some (r, M')) : zMet uX5_orElse false M [.ref v0, .ref v1] (zE (oV r) M') := by
  refine zMet_of (L := [(0, .ref v0), (1, .ref v1)]) (by decide +kernel) rfl rfl (Nat.le_of_ble_eq_true rfl) ?_
  show zW uX5_orElse none (0, 0) M 0 [(0, .ref v0), (1, .ref v1)] [] (zE (oV r) M')
  unfold fX5_orElse at h
  refine zr_aload_n (q := 1) dX5_orElse_0 rfl rfl 0 rfl ?_
  refine zr_dup (q := 2) dX5_orElse_1 rfl rfl ?_
  obtain ⟨c_1, h⟩ := chk_some h
  refine zr_get (q := 5) (ci := 5) (k := 2) dX5_orElse_2 rfl (eq_of_beq c_1) rfl (by decide) rfl zbX5 (by decide) zb_106 rfl ?_
  refine zr_aload_n (q := 6) dX5_orElse_5 rfl rfl 1 rfl ?_
  obtain ⟨c_2, h⟩ := chk_some h
  refine zr_get (q := 9) (ci := 5) (k := 2) dX5_orElse_6 rfl (eq_of_beq c_2) rfl (by decide) rfl zbX5 (by decide) zb_106 rfl ?_
  refine zr_lor (q := 10) dX5_orElse_9 rfl ?_
  obtain ⟨c_3, h⟩ := chk_some h
  obtain ⟨M_4, e_5, h⟩ := app_some h
  refine zr_putL (q := 13) (ci := 5) (k := 2) dX5_orElse_10 rfl (eq_of_beq c_3) rfl (by decide) rfl zbX5 tyX5_ok nmX5 (by decide) zb_106 (Or.inl rfl) rfl ?_
  refine zr_mem e_5 ?_
  refine zr_aload_n (q := 14) dX5_orElse_13 rfl rfl 0 rfl ?_
  refine zr_dup (q := 15) dX5_orElse_14 rfl rfl ?_
  obtain ⟨c_6, h⟩ := chk_some h
  refine zr_get (q := 18) (ci := 5) (k := 3) dX5_orElse_15 rfl (eq_of_beq c_6) rfl (by decide) rfl zbX5 (by decide) zb_107 rfl ?_
  refine zr_aload_n (q := 19) dX5_orElse_18 rfl rfl 1 rfl ?_
  obtain ⟨c_7, h⟩ := chk_some h
  refine zr_get (q := 22) (ci := 5) (k := 3) dX5_orElse_19 rfl (eq_of_beq c_7) rfl (by decide) rfl zbX5 (by decide) zb_107 rfl ?_
  refine zr_lor (q := 23) dX5_orElse_22 rfl ?_
  obtain ⟨c_8, h⟩ := chk_some h
  obtain ⟨M_9, e_10, h⟩ := app_some h
  refine zr_putL (q := 26) (ci := 5) (k := 3) dX5_orElse_23 rfl (eq_of_beq c_8) rfl (by decide) rfl zbX5 tyX5_ok nmX5 (by decide) zb_107 (Or.inl rfl) rfl ?_
  refine zr_mem e_10 ?_
  refine zr_aload_n (q := 27) dX5_orElse_26 rfl rfl 0 rfl ?_
  refine zr_aload_n (q := 28) dX5_orElse_27 rfl rfl 0 rfl ?_
  obtain ⟨c_11, h⟩ := chk_some h
  refine zr_get (q := 31) (ci := 5) (k := 1) dX5_orElse_28 rfl (eq_of_beq c_11) rfl (by decide) rfl zbX5 (by decide) zb_105 rfl ?_
  refine zr_if_ne (q := 34) (tgt := 41) dX5_orElse_31 rfl (by decide) (fun c_12 => ?_) (fun c_12 => ?_)
  · replace h := ite_f c_12 h
    exact zr_pick [] rfl (tX5_orElse_41 n M_9 v0 _ _ h)
  · replace h := ite_t c_12 h
    refine zr_aload_n (q := 35) dX5_orElse_34 rfl rfl 1 rfl ?_
    obtain ⟨c_13, h⟩ := chk_some h
    refine zr_get (q := 38) (ci := 5) (k := 1) dX5_orElse_35 rfl (eq_of_beq c_13) rfl (by decide) rfl zbX5 (by decide) zb_105 rfl ?_
    refine zr_if_eq (q := 41) (tgt := 45) dX5_orElse_38 rfl (by decide) (fun c_14 => ?_) (fun c_14 => ?_)
    · replace h := ite_t c_14 h
      refine zr_iconst (q := 46) (v := 0) dX5_orElse_45 rfl (by decide) ?_
      obtain ⟨c_15, h⟩ := chk_some h
      obtain ⟨M_16, e_17, h⟩ := app_some h
      refine zr_putZ (q := 49) (ci := 5) (k := 1) dX5_orElse_46 rfl (eq_of_beq c_15) rfl (by decide) rfl zbX5 tyX5_ok nmX5 (by decide) zb_105 (Or.inl rfl) rfl (Or.inl rfl) ?_
      refine zr_mem e_17 ?_
      cases h
      exact zr_return dX5_orElse_49 rfl ⟨by decide, by decide⟩ ⟨rfl, rfl⟩
    · replace h := ite_f c_14 h
      exact zr_pick [] rfl (tX5_orElse_41 n M_9 v0 _ _ h)

def uX3_endRow : zMu := (yX3_endRow, cX3_endRow, 1, none, { frames := 3, cells := 0, slots := 0, locals := 67 }, [])
theorem zd_X3_endRow : (uY uX3_endRow).cls ≠ "java/lang/invoke/MethodHandle" ∧ (uY uX3_endRow).cls ≠ "java/lang/invoke/VarHandle" ∧ (parseMethodDescriptor (uY uX3_endRow).desc).map (fun d => d.parameters.length) = some 0 := by decide +kernel
def fX3_endRow (n : Nat) (M : zM) (v0 : Nat) : Option (Unit × zM) :=
  chk (mK M v0 == 3) <|
  bnd2 (fX3_endPart n M v0) fun r_1 M_2 =>
  chk (mK M_2 v0 == 3) <|
  bnd (mR M_2 v0 6) fun a_6 =>
  chk (mK M_2 v0 == 3) <|
  chk (mK M_2 a_6 == 15) <|
  chk (zin (mI M_2 v0 0) (mN M_2 a_6)) <|
  bnd (mR M_2 a_6 (Int32.toNatClampNeg (mI M_2 v0 0))) fun a_11 =>
  chk (mK M_2 v0 == 3) <|
  bnd (mR M_2 v0 5) fun a_14 =>
  chk (mK M_2 v0 == 3) <|
  chk (mK M_2 a_14 == 15) <|
  chk (zin (mI M_2 v0 0) (mN M_2 a_14)) <|
  bnd (mR M_2 a_14 (Int32.toNatClampNeg (mI M_2 v0 0))) fun a_19 =>
  chk (mK M_2 a_11 == 5) <|
  bnd2 (fX5_orElse n M_2 a_11 a_19) fun r_21 M_22 =>
  chk (mK M_22 v0 == 3) <|
  bnd2 (fX3_beginRow n M_22 v0) fun r_25 M_26 =>
  some ((), M_26)
set_option maxHeartbeats 4000000 in
theorem tX3_endRow (n : Nat) (M : zM) (v0 : Nat) (r : Unit) (M' : zM) (h : fX3_endRow n M v0 = some (r, M')) : zMet uX3_endRow false M [.ref v0] (zE (oV r) M') := by
  refine zMet_of (L := [(0, .ref v0)]) (by decide +kernel) rfl rfl (Nat.le_of_ble_eq_true rfl) ?_
  show zW uX3_endRow none (0, 0) M 0 [(0, .ref v0)] [] (zE (oV r) M')
  unfold fX3_endRow at h
  refine zr_aload_n (q := 1) dX3_endRow_0 rfl rfl 0 rfl ?_
  obtain ⟨c_4, h⟩ := chk_some h
  obtain ⟨r_1, M_2, hc_3, h⟩ := bnd2_some h
  refine zr_callVV (μ' := uX3_endPart) (q := 4) (n := 0) (ci := 3) (As := []) (u' := (0, 0)) (tX3_endPart n M v0 _ _ hc_3) dX3_endRow_1 rfl rfl ⟨zb_141, zb_142, zb_143, zb_144, zb_123⟩ zd_X3_endPart ⟨by decide, by decide⟩ ⟨by decide, by decide⟩ (eq_of_beq c_4) (by decide) rfl rfl rfl (Nat.le_of_ble_eq_true rfl) rfl rfl ?_
  refine zr_aload_n (q := 5) dX3_endRow_4 rfl rfl 0 rfl ?_
  obtain ⟨c_5, h⟩ := chk_some h
  obtain ⟨a_6, e_7, h⟩ := bnd_some h
  refine zr_getr (q := 8) (ci := 3) (k := 6) dX3_endRow_5 rfl (eq_of_beq c_5) rfl (by decide) rfl zbX3 (by decide) zb_118 rfl e_7 ?_
  refine zr_aload_n (q := 9) dX3_endRow_8 rfl rfl 0 rfl ?_
  obtain ⟨c_8, h⟩ := chk_some h
  refine zr_get (q := 12) (ci := 3) (k := 0) dX3_endRow_9 rfl (eq_of_beq c_8) rfl (by decide) rfl zbX3 (by decide) zb_109 rfl ?_
  obtain ⟨c_9, h⟩ := chk_some h
  obtain ⟨c_10, h⟩ := chk_some h
  obtain ⟨a_11, e_12, h⟩ := bnd_some h
  refine zr_aald (q := 13) dX3_endRow_12 rfl (eq_of_beq c_9) (Or.inr rfl) c_10 e_12 ?_
  refine zr_aload_n (q := 14) dX3_endRow_13 rfl rfl 0 rfl ?_
  obtain ⟨c_13, h⟩ := chk_some h
  obtain ⟨a_14, e_15, h⟩ := bnd_some h
  refine zr_getr (q := 17) (ci := 3) (k := 5) dX3_endRow_14 rfl (eq_of_beq c_13) rfl (by decide) rfl zbX3 (by decide) zb_108 rfl e_15 ?_
  refine zr_aload_n (q := 18) dX3_endRow_17 rfl rfl 0 rfl ?_
  obtain ⟨c_16, h⟩ := chk_some h
  refine zr_get (q := 21) (ci := 3) (k := 0) dX3_endRow_18 rfl (eq_of_beq c_16) rfl (by decide) rfl zbX3 (by decide) zb_109 rfl ?_
  obtain ⟨c_17, h⟩ := chk_some h
  obtain ⟨c_18, h⟩ := chk_some h
  obtain ⟨a_19, e_20, h⟩ := bnd_some h
  refine zr_aald (q := 22) dX3_endRow_21 rfl (eq_of_beq c_17) (Or.inr rfl) c_18 e_20 ?_
  obtain ⟨c_24, h⟩ := chk_some h
  obtain ⟨r_21, M_22, hc_23, h⟩ := bnd2_some h
  refine zr_callVV (μ' := uX5_orElse) (q := 25) (n := 1) (ci := 5) (As := [.ref a_19]) (u' := (0, 0)) (tX5_orElse n M_2 a_11 a_19 _ _ hc_23) dX3_endRow_22 rfl rfl ⟨zb_145, zb_146, zb_147, zb_148, zb_116⟩ zd_X5_orElse ⟨by decide, by decide⟩ ⟨by decide, by decide⟩ (eq_of_beq c_24) (by decide) rfl rfl rfl (Nat.le_of_ble_eq_true rfl) rfl rfl ?_
  refine zr_aload_n (q := 26) dX3_endRow_25 rfl rfl 0 rfl ?_
  obtain ⟨c_28, h⟩ := chk_some h
  obtain ⟨r_25, M_26, hc_27, h⟩ := bnd2_some h
  refine zr_callVV (μ' := uX3_beginRow) (q := 29) (n := 0) (ci := 3) (As := []) (u' := (0, 0)) (tX3_beginRow n M_22 v0 _ _ hc_27) dX3_endRow_26 rfl rfl ⟨zb_119, zb_120, zb_121, zb_122, zb_123⟩ zd_X3_beginRow ⟨by decide, by decide⟩ ⟨by decide, by decide⟩ (eq_of_beq c_28) (by decide) rfl rfl rfl (Nat.le_of_ble_eq_true rfl) rfl rfl ?_
  cases h
  exact zr_return dX3_endRow_29 rfl ⟨by decide, by decide⟩ ⟨rfl, rfl⟩

def uX3_addAtom : zMu := (yX3_addAtom, cX3_addAtom, 5, (some .boolean), { frames := 3, cells := 0, slots := 0, locals := 67 }, [])
theorem zd_X3_addAtom : (uY uX3_addAtom).cls ≠ "java/lang/invoke/MethodHandle" ∧ (uY uX3_addAtom).cls ≠ "java/lang/invoke/VarHandle" ∧ (parseMethodDescriptor (uY uX3_addAtom).desc).map (fun d => d.parameters.length) = some 1 := by decide +kernel
def fX3_addAtom (n : Nat) (M : zM) (v0 : Nat) (v1 : Int64) : Option (Int32 × zM) :=
  chk (mK M v0 == 3) <|
  bnd (mR M v0 2) fun a_2 =>
  chk (mK M a_2 == 4) <|
  if (mI M a_2 0) < (60 : Int32) then
    chk (mK M v0 == 3) <|
    bnd2 (fX3_endPart n M v0) fun r_6 M_7 =>
    chk (mK M_7 v0 == 3) <|
    bnd (mR M_7 v0 2) fun a_11 =>
    chk (mK M_7 a_11 == 4) <|
    app (jshl (1 : Int64) (mI M_7 a_11 0)) fun v3_14 : Int64 =>
    chk (mK M_7 v0 == 3) <|
    bnd (mR M_7 v0 3) fun a_17 =>
    chk (mK M_7 v0 == 3) <|
    bnd (mR M_7 v0 2) fun a_20 =>
    chk (mK M_7 a_20 == 4) <|
    chk (mK M_7 a_17 == 5) <|
    bnd2 (fX5_set n M_7 a_17 (mI M_7 a_20 0) (0 : Int32) v3_14 v3_14) fun r_23 M_24 =>
    chk (mK M_24 v0 == 3) <|
    bnd (mR M_24 v0 2) fun a_28 =>
    chk (mK M_24 a_28 == 4) <|
    bnd2 (fX4_addPosition n M_24 a_28 v1) fun r_30 M_31 =>
    chk (mK M_31 v0 == 3) <|
    app (wI M_31 v0 1 (1 : Int32)) fun M_35 : zM =>
    some ((1 : Int32), M_35)
  else
  some ((0 : Int32), M)
set_option maxHeartbeats 4000000 in
theorem tX3_addAtom (n : Nat) (M : zM) (v0 : Nat) (v1 : Int64) (r : Int32) (M' : zM) (h : fX3_addAtom n M v0 v1 = some (r, M')) : zMet uX3_addAtom false M [.ref v0, .long v1] (zE (oI r) M') := by
  refine zMet_of (L := [(0, .ref v0), (1, .long v1)]) (by decide +kernel) rfl rfl (Nat.le_of_ble_eq_true rfl) ?_
  show zW uX3_addAtom none (0, 0) M 0 [(0, .ref v0), (1, .long v1)] [] (zE (oI r) M')
  unfold fX3_addAtom at h
  refine zr_aload_n (q := 1) dX3_addAtom_0 rfl rfl 0 rfl ?_
  obtain ⟨c_1, h⟩ := chk_some h
  obtain ⟨a_2, e_3, h⟩ := bnd_some h
  refine zr_getr (q := 4) (ci := 3) (k := 2) dX3_addAtom_1 rfl (eq_of_beq c_1) rfl (by decide) rfl zbX3 (by decide) zb_110 rfl e_3 ?_
  obtain ⟨c_4, h⟩ := chk_some h
  refine zr_get (q := 7) (ci := 4) (k := 0) dX3_addAtom_4 rfl (eq_of_beq c_4) rfl (by decide) rfl zbX4 (by decide) zb_111 rfl ?_
  refine zr_bipush (q := 9) (v := 60) dX3_addAtom_7 rfl (by decide) ?_
  refine zr_icmp_lt (q := 12) (tgt := 14) dX3_addAtom_9 rfl (by decide) (fun c_5 => ?_) (fun c_5 => ?_)
  · replace h := ite_t c_5 h
    refine zr_aload_n (q := 15) dX3_addAtom_14 rfl rfl 0 rfl ?_
    obtain ⟨c_9, h⟩ := chk_some h
    obtain ⟨r_6, M_7, hc_8, h⟩ := bnd2_some h
    refine zr_callVV (μ' := uX3_endPart) (q := 18) (n := 0) (ci := 3) (As := []) (u' := (0, 0)) (tX3_endPart n M v0 _ _ hc_8) dX3_addAtom_15 rfl rfl ⟨zb_141, zb_142, zb_143, zb_144, zb_123⟩ zd_X3_endPart ⟨by decide, by decide⟩ ⟨by decide, by decide⟩ (eq_of_beq c_9) (by decide) rfl rfl rfl (Nat.le_of_ble_eq_true rfl) rfl rfl ?_
    refine zr_lconst (q := 19) (v := 1) dX3_addAtom_18 rfl (by decide) ?_
    refine zr_aload_n (q := 20) dX3_addAtom_19 rfl rfl 0 rfl ?_
    obtain ⟨c_10, h⟩ := chk_some h
    obtain ⟨a_11, e_12, h⟩ := bnd_some h
    refine zr_getr (q := 23) (ci := 3) (k := 2) dX3_addAtom_20 rfl (eq_of_beq c_10) rfl (by decide) rfl zbX3 (by decide) zb_110 rfl e_12 ?_
    obtain ⟨c_13, h⟩ := chk_some h
    refine zr_get (q := 26) (ci := 4) (k := 0) dX3_addAtom_23 rfl (eq_of_beq c_13) rfl (by decide) rfl zbX4 (by decide) zb_111 rfl ?_
    refine zr_lshl (q := 27) dX3_addAtom_26 rfl ?_
    obtain ⟨v3_14, e_15, h⟩ := app_some h
    refine zr_nmL e_15 ?_
    refine zr_lstore_n (q := 28) (L' := [(3, .long v3_14), (0, .ref v0), (1, .long v1)]) dX3_addAtom_27 rfl rfl (by decide) rfl ?_
    refine zr_aload_n (q := 29) dX3_addAtom_28 rfl rfl 1 rfl ?_
    obtain ⟨c_16, h⟩ := chk_some h
    obtain ⟨a_17, e_18, h⟩ := bnd_some h
    refine zr_getr (q := 32) (ci := 3) (k := 3) dX3_addAtom_29 rfl (eq_of_beq c_16) rfl (by decide) rfl zbX3 (by decide) zb_136 rfl e_18 ?_
    refine zr_aload_n (q := 33) dX3_addAtom_32 rfl rfl 1 rfl ?_
    obtain ⟨c_19, h⟩ := chk_some h
    obtain ⟨a_20, e_21, h⟩ := bnd_some h
    refine zr_getr (q := 36) (ci := 3) (k := 2) dX3_addAtom_33 rfl (eq_of_beq c_19) rfl (by decide) rfl zbX3 (by decide) zb_110 rfl e_21 ?_
    obtain ⟨c_22, h⟩ := chk_some h
    refine zr_get (q := 39) (ci := 4) (k := 0) dX3_addAtom_36 rfl (eq_of_beq c_22) rfl (by decide) rfl zbX4 (by decide) zb_111 rfl ?_
    refine zr_iconst (q := 40) (v := 0) dX3_addAtom_39 rfl (by decide) ?_
    refine zr_lload_n (q := 41) dX3_addAtom_40 rfl rfl 0 rfl ?_
    refine zr_lload_n (q := 42) dX3_addAtom_41 rfl rfl 0 rfl ?_
    obtain ⟨c_26, h⟩ := chk_some h
    obtain ⟨r_23, M_24, hc_25, h⟩ := bnd2_some h
    refine zr_callVV (μ' := uX5_set) (q := 45) (n := 4) (ci := 5) (As := [.int (mI M_7 a_20 0), .int (0 : Int32), .long v3_14, .long v3_14]) (u' := (0, 0)) (tX5_set n M_7 a_17 (mI M_7 a_20 0) (0 : Int32) v3_14 v3_14 _ _ hc_25) dX3_addAtom_42 rfl rfl ⟨zb_112, zb_113, zb_114, zb_115, zb_116⟩ zd_X5_set ⟨by decide, by decide⟩ ⟨by decide, by decide⟩ (eq_of_beq c_26) (by decide) rfl rfl rfl (Nat.le_of_ble_eq_true rfl) rfl rfl ?_
    refine zr_aload_n (q := 46) dX3_addAtom_45 rfl rfl 1 rfl ?_
    obtain ⟨c_27, h⟩ := chk_some h
    obtain ⟨a_28, e_29, h⟩ := bnd_some h
    refine zr_getr (q := 49) (ci := 3) (k := 2) dX3_addAtom_46 rfl (eq_of_beq c_27) rfl (by decide) rfl zbX3 (by decide) zb_110 rfl e_29 ?_
    refine zr_lload_n (q := 50) dX3_addAtom_49 rfl rfl 2 rfl ?_
    obtain ⟨c_33, h⟩ := chk_some h
    obtain ⟨r_30, M_31, hc_32, h⟩ := bnd2_some h
    refine zr_callVV (μ' := uX4_addPosition) (q := 53) (n := 1) (ci := 4) (As := [.long v1]) (u' := (0, 0)) (tX4_addPosition n M_24 a_28 v1 _ _ hc_32) dX3_addAtom_50 rfl rfl ⟨zb_150, zb_151, zb_152, zb_153, zb_31⟩ zd_X4_addPosition ⟨by decide, by decide⟩ ⟨by decide, by decide⟩ (eq_of_beq c_33) (by decide) rfl rfl rfl (Nat.le_of_ble_eq_true rfl) rfl rfl ?_
    refine zr_aload_n (q := 54) dX3_addAtom_53 rfl rfl 1 rfl ?_
    refine zr_iconst (q := 55) (v := 1) dX3_addAtom_54 rfl (by decide) ?_
    obtain ⟨c_34, h⟩ := chk_some h
    obtain ⟨M_35, e_36, h⟩ := app_some h
    refine zr_putZ (q := 58) (ci := 3) (k := 1) dX3_addAtom_55 rfl (eq_of_beq c_34) rfl (by decide) rfl zbX3 tyX3_ok nmX3 (by decide) zb_117 (Or.inl rfl) rfl (Or.inr rfl) ?_
    refine zr_mem e_36 ?_
    refine zr_iconst (q := 59) (v := 1) dX3_addAtom_58 rfl (by decide) ?_
    cases h
    exact zr_zreturn dX3_addAtom_59 rfl (Or.inr rfl) ⟨by decide, by decide⟩ ⟨rfl, rfl⟩
  · replace h := ite_f c_5 h
    refine zr_iconst (q := 13) (v := 0) dX3_addAtom_12 rfl (by decide) ?_
    cases h
    exact zr_zreturn dX3_addAtom_13 rfl (Or.inl rfl) ⟨by decide, by decide⟩ ⟨rfl, rfl⟩

def uX3_openBracket : zMu := (yX3_openBracket, cX3_openBracket, 1, (some .boolean), { frames := 3, cells := 0, slots := 0, locals := 67 }, [])
theorem zd_X3_openBracket : (uY uX3_openBracket).cls ≠ "java/lang/invoke/MethodHandle" ∧ (uY uX3_openBracket).cls ≠ "java/lang/invoke/VarHandle" ∧ (parseMethodDescriptor (uY uX3_openBracket).desc).map (fun d => d.parameters.length) = some 0 := by decide +kernel
def fX3_openBracket (n : Nat) (M : zM) (v0 : Nat) : Option (Int32 × zM) :=
  chk (mK M v0 == 3) <|
  if (mI M v0 0) < (8 : Int32) then
    chk (mK M v0 == 3) <|
    bnd2 (fX3_endPart n M v0) fun r_3 M_4 =>
    chk (mK M_4 v0 == 3) <|
    chk (mK M_4 v0 == 3) <|
    app (wI M_4 v0 0 ((mI M_4 v0 0) + (1 : Int32))) fun M_9 : zM =>
    chk (mK M_9 v0 == 3) <|
    bnd2 (fX3_beginChoices n M_9 v0) fun r_11 M_12 =>
    some ((1 : Int32), M_12)
  else
  some ((0 : Int32), M)
set_option maxHeartbeats 4000000 in
theorem tX3_openBracket (n : Nat) (M : zM) (v0 : Nat) (r : Int32) (M' : zM) (h : fX3_openBracket n M v0 = some (r, M')) : zMet uX3_openBracket false M [.ref v0] (zE (oI r) M') := by
  refine zMet_of (L := [(0, .ref v0)]) (by decide +kernel) rfl rfl (Nat.le_of_ble_eq_true rfl) ?_
  show zW uX3_openBracket none (0, 0) M 0 [(0, .ref v0)] [] (zE (oI r) M')
  unfold fX3_openBracket at h
  refine zr_aload_n (q := 1) dX3_openBracket_0 rfl rfl 0 rfl ?_
  obtain ⟨c_1, h⟩ := chk_some h
  refine zr_get (q := 4) (ci := 3) (k := 0) dX3_openBracket_1 rfl (eq_of_beq c_1) rfl (by decide) rfl zbX3 (by decide) zb_109 rfl ?_
  refine zr_bipush (q := 6) (v := 8) dX3_openBracket_4 rfl (by decide) ?_
  refine zr_icmp_lt (q := 9) (tgt := 11) dX3_openBracket_6 rfl (by decide) (fun c_2 => ?_) (fun c_2 => ?_)
  · replace h := ite_t c_2 h
    refine zr_aload_n (q := 12) dX3_openBracket_11 rfl rfl 0 rfl ?_
    obtain ⟨c_6, h⟩ := chk_some h
    obtain ⟨r_3, M_4, hc_5, h⟩ := bnd2_some h
    refine zr_callVV (μ' := uX3_endPart) (q := 15) (n := 0) (ci := 3) (As := []) (u' := (0, 0)) (tX3_endPart n M v0 _ _ hc_5) dX3_openBracket_12 rfl rfl ⟨zb_141, zb_142, zb_143, zb_144, zb_123⟩ zd_X3_endPart ⟨by decide, by decide⟩ ⟨by decide, by decide⟩ (eq_of_beq c_6) (by decide) rfl rfl rfl (Nat.le_of_ble_eq_true rfl) rfl rfl ?_
    refine zr_aload_n (q := 16) dX3_openBracket_15 rfl rfl 0 rfl ?_
    refine zr_dup (q := 17) dX3_openBracket_16 rfl rfl ?_
    obtain ⟨c_7, h⟩ := chk_some h
    refine zr_get (q := 20) (ci := 3) (k := 0) dX3_openBracket_17 rfl (eq_of_beq c_7) rfl (by decide) rfl zbX3 (by decide) zb_109 rfl ?_
    refine zr_iconst (q := 21) (v := 1) dX3_openBracket_20 rfl (by decide) ?_
    refine zr_iadd (q := 22) dX3_openBracket_21 rfl ?_
    obtain ⟨c_8, h⟩ := chk_some h
    obtain ⟨M_9, e_10, h⟩ := app_some h
    refine zr_putI (q := 25) (ci := 3) (k := 0) dX3_openBracket_22 rfl (eq_of_beq c_8) rfl (by decide) rfl zbX3 tyX3_ok nmX3 (by decide) zb_109 (Or.inl rfl) rfl ?_
    refine zr_mem e_10 ?_
    refine zr_aload_n (q := 26) dX3_openBracket_25 rfl rfl 0 rfl ?_
    obtain ⟨c_14, h⟩ := chk_some h
    obtain ⟨r_11, M_12, hc_13, h⟩ := bnd2_some h
    refine zr_callVV (μ' := uX3_beginChoices) (q := 29) (n := 0) (ci := 3) (As := []) (u' := (0, 0)) (tX3_beginChoices n M_9 v0 _ _ hc_13) dX3_openBracket_26 rfl rfl ⟨zb_128, zb_129, zb_130, zb_131, zb_123⟩ zd_X3_beginChoices ⟨by decide, by decide⟩ ⟨by decide, by decide⟩ (eq_of_beq c_14) (by decide) rfl rfl rfl (Nat.le_of_ble_eq_true rfl) rfl rfl ?_
    refine zr_iconst (q := 30) (v := 1) dX3_openBracket_29 rfl (by decide) ?_
    cases h
    exact zr_zreturn dX3_openBracket_30 rfl (Or.inr rfl) ⟨by decide, by decide⟩ ⟨rfl, rfl⟩
  · replace h := ite_f c_2 h
    refine zr_iconst (q := 10) (v := 0) dX3_openBracket_9 rfl (by decide) ?_
    cases h
    exact zr_zreturn dX3_openBracket_10 rfl (Or.inl rfl) ⟨by decide, by decide⟩ ⟨rfl, rfl⟩

def uX3_closeBracket : zMu := (yX3_closeBracket, cX3_closeBracket, 2, none, { frames := 1, cells := 0, slots := 0, locals := 26 }, [])
theorem zd_X3_closeBracket : (uY uX3_closeBracket).cls ≠ "java/lang/invoke/MethodHandle" ∧ (uY uX3_closeBracket).cls ≠ "java/lang/invoke/VarHandle" ∧ (parseMethodDescriptor (uY uX3_closeBracket).desc).map (fun d => d.parameters.length) = some 0 := by decide +kernel
def fX3_closeBracket (n : Nat) (M : zM) (v0 : Nat) : Option (Unit × zM) :=
  chk (mK M v0 == 3) <|
  bnd (mR M v0 6) fun a_2 =>
  chk (mK M v0 == 3) <|
  chk (mK M a_2 == 15) <|
  chk (zin (mI M v0 0) (mN M a_2)) <|
  bnd (mR M a_2 (Int32.toNatClampNeg (mI M v0 0))) fun a_7 =>
  chk (mK M v0 == 3) <|
  bnd (mR M v0 3) fun a_10 =>
  chk (mK M a_7 == 5) <|
  chk (mK M a_7 == 5) <|
  chk (mK M a_7 == 5) <|
  chk (mK M a_7 == 5) <|
  chk (mK M a_10 == 5) <|
  bnd2 (fX5_set n M a_10 (mI M a_7 0) (mI M a_7 1) (mL M a_7 2) (mL M a_7 3)) fun r_16 M_17 =>
  chk (mK M_17 v0 == 3) <|
  chk (mK M_17 v0 == 3) <|
  app (wI M_17 v0 0 ((mI M_17 v0 0) - (1 : Int32))) fun M_22 : zM =>
  chk (mK M_22 v0 == 3) <|
  app (wI M_22 v0 1 (1 : Int32)) fun M_25 : zM =>
  some ((), M_25)
set_option maxHeartbeats 4000000 in
theorem tX3_closeBracket (n : Nat) (M : zM) (v0 : Nat) (r : Unit) (M' : zM) (h : fX3_closeBracket n M v0 = some (r, M')) : zMet uX3_closeBracket false M [.ref v0] (zE (oV r) M') := by
  refine zMet_of (L := [(0, .ref v0)]) (by decide +kernel) rfl rfl (Nat.le_of_ble_eq_true rfl) ?_
  show zW uX3_closeBracket none (0, 0) M 0 [(0, .ref v0)] [] (zE (oV r) M')
  unfold fX3_closeBracket at h
  refine zr_aload_n (q := 1) dX3_closeBracket_0 rfl rfl 0 rfl ?_
  obtain ⟨c_1, h⟩ := chk_some h
  obtain ⟨a_2, e_3, h⟩ := bnd_some h
  refine zr_getr (q := 4) (ci := 3) (k := 6) dX3_closeBracket_1 rfl (eq_of_beq c_1) rfl (by decide) rfl zbX3 (by decide) zb_118 rfl e_3 ?_
  refine zr_aload_n (q := 5) dX3_closeBracket_4 rfl rfl 0 rfl ?_
  obtain ⟨c_4, h⟩ := chk_some h
  refine zr_get (q := 8) (ci := 3) (k := 0) dX3_closeBracket_5 rfl (eq_of_beq c_4) rfl (by decide) rfl zbX3 (by decide) zb_109 rfl ?_
  obtain ⟨c_5, h⟩ := chk_some h
  obtain ⟨c_6, h⟩ := chk_some h
  obtain ⟨a_7, e_8, h⟩ := bnd_some h
  refine zr_aald (q := 9) dX3_closeBracket_8 rfl (eq_of_beq c_5) (Or.inr rfl) c_6 e_8 ?_
  refine zr_astore_n (q := 10) (L' := [(1, .ref a_7), (0, .ref v0)]) dX3_closeBracket_9 rfl rfl (by decide) rfl ?_
  refine zr_aload_n (q := 11) dX3_closeBracket_10 rfl rfl 1 rfl ?_
  obtain ⟨c_9, h⟩ := chk_some h
  obtain ⟨a_10, e_11, h⟩ := bnd_some h
  refine zr_getr (q := 14) (ci := 3) (k := 3) dX3_closeBracket_11 rfl (eq_of_beq c_9) rfl (by decide) rfl zbX3 (by decide) zb_136 rfl e_11 ?_
  refine zr_aload_n (q := 15) dX3_closeBracket_14 rfl rfl 0 rfl ?_
  obtain ⟨c_12, h⟩ := chk_some h
  refine zr_get (q := 18) (ci := 5) (k := 0) dX3_closeBracket_15 rfl (eq_of_beq c_12) rfl (by decide) rfl zbX5 (by decide) zb_154 rfl ?_
  refine zr_aload_n (q := 19) dX3_closeBracket_18 rfl rfl 0 rfl ?_
  obtain ⟨c_13, h⟩ := chk_some h
  refine zr_get (q := 22) (ci := 5) (k := 1) dX3_closeBracket_19 rfl (eq_of_beq c_13) rfl (by decide) rfl zbX5 (by decide) zb_155 rfl ?_
  refine zr_aload_n (q := 23) dX3_closeBracket_22 rfl rfl 0 rfl ?_
  obtain ⟨c_14, h⟩ := chk_some h
  refine zr_get (q := 26) (ci := 5) (k := 2) dX3_closeBracket_23 rfl (eq_of_beq c_14) rfl (by decide) rfl zbX5 (by decide) zb_156 rfl ?_
  refine zr_aload_n (q := 27) dX3_closeBracket_26 rfl rfl 0 rfl ?_
  obtain ⟨c_15, h⟩ := chk_some h
  refine zr_get (q := 30) (ci := 5) (k := 3) dX3_closeBracket_27 rfl (eq_of_beq c_15) rfl (by decide) rfl zbX5 (by decide) zb_157 rfl ?_
  obtain ⟨c_19, h⟩ := chk_some h
  obtain ⟨r_16, M_17, hc_18, h⟩ := bnd2_some h
  refine zr_callVV (μ' := uX5_set) (q := 33) (n := 4) (ci := 5) (As := [.int (mI M a_7 0), .int (mI M a_7 1), .long (mL M a_7 2), .long (mL M a_7 3)]) (u' := (0, 0)) (tX5_set n M a_10 (mI M a_7 0) (mI M a_7 1) (mL M a_7 2) (mL M a_7 3) _ _ hc_18) dX3_closeBracket_30 rfl rfl ⟨zb_112, zb_113, zb_114, zb_115, zb_116⟩ zd_X5_set ⟨by decide, by decide⟩ ⟨by decide, by decide⟩ (eq_of_beq c_19) (by decide) rfl rfl rfl (Nat.le_of_ble_eq_true rfl) rfl rfl ?_
  refine zr_aload_n (q := 34) dX3_closeBracket_33 rfl rfl 1 rfl ?_
  refine zr_dup (q := 35) dX3_closeBracket_34 rfl rfl ?_
  obtain ⟨c_20, h⟩ := chk_some h
  refine zr_get (q := 38) (ci := 3) (k := 0) dX3_closeBracket_35 rfl (eq_of_beq c_20) rfl (by decide) rfl zbX3 (by decide) zb_109 rfl ?_
  refine zr_iconst (q := 39) (v := 1) dX3_closeBracket_38 rfl (by decide) ?_
  refine zr_isub (q := 40) dX3_closeBracket_39 rfl ?_
  obtain ⟨c_21, h⟩ := chk_some h
  obtain ⟨M_22, e_23, h⟩ := app_some h
  refine zr_putI (q := 43) (ci := 3) (k := 0) dX3_closeBracket_40 rfl (eq_of_beq c_21) rfl (by decide) rfl zbX3 tyX3_ok nmX3 (by decide) zb_109 (Or.inl rfl) rfl ?_
  refine zr_mem e_23 ?_
  refine zr_aload_n (q := 44) dX3_closeBracket_43 rfl rfl 1 rfl ?_
  refine zr_iconst (q := 45) (v := 1) dX3_closeBracket_44 rfl (by decide) ?_
  obtain ⟨c_24, h⟩ := chk_some h
  obtain ⟨M_25, e_26, h⟩ := app_some h
  refine zr_putZ (q := 48) (ci := 3) (k := 1) dX3_closeBracket_45 rfl (eq_of_beq c_24) rfl (by decide) rfl zbX3 tyX3_ok nmX3 (by decide) zb_117 (Or.inl rfl) rfl (Or.inr rfl) ?_
  refine zr_mem e_26 ?_
  cases h
  exact zr_return dX3_closeBracket_48 rfl ⟨by decide, by decide⟩ ⟨rfl, rfl⟩

def uX3_allowMore : zMu := (yX3_allowMore, cX3_allowMore, 1, none, { frames := 1, cells := 0, slots := 0, locals := 25 }, [])
theorem zd_X3_allowMore : (uY uX3_allowMore).cls ≠ "java/lang/invoke/MethodHandle" ∧ (uY uX3_allowMore).cls ≠ "java/lang/invoke/VarHandle" ∧ (parseMethodDescriptor (uY uX3_allowMore).desc).map (fun d => d.parameters.length) = some 0 := by decide +kernel
def fX3_allowMore (n : Nat) (M : zM) (v0 : Nat) : Option (Unit × zM) :=
  chk (mK M v0 == 3) <|
  bnd (mR M v0 2) fun a_2 =>
  chk (mK M v0 == 3) <|
  bnd (mR M v0 3) fun a_5 =>
  chk (mK M a_5 == 5) <|
  chk (mK M v0 == 3) <|
  bnd (mR M v0 3) fun a_9 =>
  chk (mK M a_9 == 5) <|
  chk (mK M a_2 == 4) <|
  bnd2 (fX4_connect n M a_2 (mL M a_5 3) (mL M a_9 2)) fun r_12 M_13 =>
  some ((), M_13)
set_option maxHeartbeats 4000000 in
theorem tX3_allowMore (n : Nat) (M : zM) (v0 : Nat) (r : Unit) (M' : zM) (h : fX3_allowMore n M v0 = some (r, M')) : zMet uX3_allowMore false M [.ref v0] (zE (oV r) M') := by
  refine zMet_of (L := [(0, .ref v0)]) (by decide +kernel) rfl rfl (Nat.le_of_ble_eq_true rfl) ?_
  show zW uX3_allowMore none (0, 0) M 0 [(0, .ref v0)] [] (zE (oV r) M')
  unfold fX3_allowMore at h
  refine zr_aload_n (q := 1) dX3_allowMore_0 rfl rfl 0 rfl ?_
  obtain ⟨c_1, h⟩ := chk_some h
  obtain ⟨a_2, e_3, h⟩ := bnd_some h
  refine zr_getr (q := 4) (ci := 3) (k := 2) dX3_allowMore_1 rfl (eq_of_beq c_1) rfl (by decide) rfl zbX3 (by decide) zb_110 rfl e_3 ?_
  refine zr_aload_n (q := 5) dX3_allowMore_4 rfl rfl 0 rfl ?_
  obtain ⟨c_4, h⟩ := chk_some h
  obtain ⟨a_5, e_6, h⟩ := bnd_some h
  refine zr_getr (q := 8) (ci := 3) (k := 3) dX3_allowMore_5 rfl (eq_of_beq c_4) rfl (by decide) rfl zbX3 (by decide) zb_136 rfl e_6 ?_
  obtain ⟨c_7, h⟩ := chk_some h
  refine zr_get (q := 11) (ci := 5) (k := 3) dX3_allowMore_8 rfl (eq_of_beq c_7) rfl (by decide) rfl zbX5 (by decide) zb_157 rfl ?_
  refine zr_aload_n (q := 12) dX3_allowMore_11 rfl rfl 0 rfl ?_
  obtain ⟨c_8, h⟩ := chk_some h
  obtain ⟨a_9, e_10, h⟩ := bnd_some h
  refine zr_getr (q := 15) (ci := 3) (k := 3) dX3_allowMore_12 rfl (eq_of_beq c_8) rfl (by decide) rfl zbX3 (by decide) zb_136 rfl e_10 ?_
  obtain ⟨c_11, h⟩ := chk_some h
  refine zr_get (q := 18) (ci := 5) (k := 2) dX3_allowMore_15 rfl (eq_of_beq c_11) rfl (by decide) rfl zbX5 (by decide) zb_156 rfl ?_
  obtain ⟨c_15, h⟩ := chk_some h
  obtain ⟨r_12, M_13, hc_14, h⟩ := bnd2_some h
  refine zr_callVV (μ' := uX4_connect) (q := 21) (n := 2) (ci := 4) (As := [.long (mL M a_5 3), .long (mL M a_9 2)]) (u' := (0, 0)) (tX4_connect n M a_2 (mL M a_5 3) (mL M a_9 2) _ _ hc_14) dX3_allowMore_18 rfl rfl ⟨zb_132, zb_158, zb_134, zb_135, zb_31⟩ zd_X4_connect ⟨by decide, by decide⟩ ⟨by decide, by decide⟩ (eq_of_beq c_15) (by decide) rfl rfl rfl (Nat.le_of_ble_eq_true rfl) rfl rfl ?_
  cases h
  exact zr_return dX3_allowMore_21 rfl ⟨by decide, by decide⟩ ⟨rfl, rfl⟩

def uX3_allowNone : zMu := (yX3_allowNone, cX3_allowNone, 1, none, { frames := 0, cells := 0, slots := 0, locals := 0 }, [])
theorem zd_X3_allowNone : (uY uX3_allowNone).cls ≠ "java/lang/invoke/MethodHandle" ∧ (uY uX3_allowNone).cls ≠ "java/lang/invoke/VarHandle" ∧ (parseMethodDescriptor (uY uX3_allowNone).desc).map (fun d => d.parameters.length) = some 0 := by decide +kernel
def fX3_allowNone (n : Nat) (M : zM) (v0 : Nat) : Option (Unit × zM) :=
  chk (mK M v0 == 3) <|
  bnd (mR M v0 3) fun a_2 =>
  chk (mK M a_2 == 5) <|
  app (wI M a_2 1 (1 : Int32)) fun M_5 : zM =>
  some ((), M_5)
set_option maxHeartbeats 4000000 in
theorem tX3_allowNone (n : Nat) (M : zM) (v0 : Nat) (r : Unit) (M' : zM) (h : fX3_allowNone n M v0 = some (r, M')) : zMet uX3_allowNone false M [.ref v0] (zE (oV r) M') := by
  refine zMet_of (L := [(0, .ref v0)]) (by decide +kernel) rfl rfl (Nat.le_of_ble_eq_true rfl) ?_
  show zW uX3_allowNone none (0, 0) M 0 [(0, .ref v0)] [] (zE (oV r) M')
  unfold fX3_allowNone at h
  refine zr_aload_n (q := 1) dX3_allowNone_0 rfl rfl 0 rfl ?_
  obtain ⟨c_1, h⟩ := chk_some h
  obtain ⟨a_2, e_3, h⟩ := bnd_some h
  refine zr_getr (q := 4) (ci := 3) (k := 3) dX3_allowNone_1 rfl (eq_of_beq c_1) rfl (by decide) rfl zbX3 (by decide) zb_136 rfl e_3 ?_
  refine zr_iconst (q := 5) (v := 1) dX3_allowNone_4 rfl (by decide) ?_
  obtain ⟨c_4, h⟩ := chk_some h
  obtain ⟨M_5, e_6, h⟩ := app_some h
  refine zr_putZ (q := 8) (ci := 5) (k := 1) dX3_allowNone_5 rfl (eq_of_beq c_4) rfl (by decide) rfl zbX5 tyX5_ok nmX5 (by decide) zb_155 (Or.inl rfl) rfl (Or.inr rfl) ?_
  refine zr_mem e_6 ?_
  cases h
  exact zr_return dX3_allowNone_8 rfl ⟨by decide, by decide⟩ ⟨rfl, rfl⟩

def uX3_repeat : zMu := (yX3_repeat, cX3_repeat, 11, (some .boolean), { frames := 2, cells := 0, slots := 0, locals := 47 }, [])
theorem zd_X3_repeat : (uY uX3_repeat).cls ≠ "java/lang/invoke/MethodHandle" ∧ (uY uX3_repeat).cls ≠ "java/lang/invoke/VarHandle" ∧ (parseMethodDescriptor (uY uX3_repeat).desc).map (fun d => d.parameters.length) = some 2 := by decide +kernel
def fX3_repeat_142 (k100 : zM → Nat → Int32 → Int32 → Int32 → Int32 → Int64 → Int64 → Int32 → Option (Int32 × zM)) (n : Nat) (M : zM) (v0 : Nat) (v1 : Int32) (v2 : Int32) (v3 : Int32) (v4 : Int32) (v5 : Int64) (v7 : Int64) (v9 : Int32) (v10 : Int32) (s0 : Nat) (s1 : Int32) (s2 : Int32) : Option (Int32 × zM) :=
  chk (mK M s0 == 5) <|
  bnd2 (fX5_set n M s0 s1 s2 (jshl v5 v10) (jshl v7 v10)) fun r_1 M_2 =>
  chk (mK M_2 v0 == 3) <|
  bnd (mR M_2 v0 3) fun a_6 =>
  chk (mK M_2 v0 == 3) <|
  bnd (mR M_2 v0 4) fun a_9 =>
  chk (mK M_2 v0 == 3) <|
  bnd (mR M_2 v0 2) fun a_12 =>
  chk (mK M_2 a_6 == 5) <|
  bnd2 (fX5_append n M_2 a_6 a_9 a_12) fun r_14 M_15 =>
  app (v9 + (1 : Int32)) fun v9_18 : Int32 =>
  k100 M_15 v0 v1 v2 v3 v4 v5 v7 v9_18
set_option maxHeartbeats 4000000 in
theorem tX3_repeat_142 (k100 : zM → Nat → Int32 → Int32 → Int32 → Int32 → Int64 → Int64 → Int32 → Option (Int32 × zM)) (h100 : ∀ (M : zM) (v0 : Nat) (v1 : Int32) (v2 : Int32) (v3 : Int32) (v4 : Int32) (v5 : Int64) (v7 : Int64) (v9 : Int32) (r : Int32) (M' : zM), k100 M v0 v1 v2 v3 v4 v5 v7 v9 = some (r, M') → zW uX3_repeat none (0, 0) M 100 [(0, .ref v0), (1, .int v1), (2, .int v2), (3, .int v3), (4, .int v4), (5, .long v5), (7, .long v7), (9, .int v9)] [] (zE (oI r) M')) (n : Nat) (M : zM) (v0 : Nat) (v1 : Int32) (v2 : Int32) (v3 : Int32) (v4 : Int32) (v5 : Int64) (v7 : Int64) (v9 : Int32) (v10 : Int32) (s0 : Nat) (s1 : Int32) (s2 : Int32) (r : Int32) (M' : zM) (h : fX3_repeat_142 k100 n M v0 v1 v2 v3 v4 v5 v7 v9 v10 s0 s1 s2 = some (r, M')) : zW uX3_repeat none (0, 0) M 142 [(0, .ref v0), (1, .int v1), (2, .int v2), (3, .int v3), (4, .int v4), (5, .long v5), (7, .long v7), (9, .int v9), (10, .int v10)] [.int s2, .int s1, .ref s0] (zE (oI r) M') := by
  unfold fX3_repeat_142 at h
  refine zr_lload (q := 144) dX3_repeat_142 rfl 5 rfl ?_
  refine zr_iload (q := 146) dX3_repeat_144 rfl 8 rfl ?_
  refine zr_lshl (q := 147) dX3_repeat_146 rfl ?_
  refine zr_lload (q := 149) dX3_repeat_147 rfl 6 rfl ?_
  refine zr_iload (q := 151) dX3_repeat_149 rfl 8 rfl ?_
  refine zr_lshl (q := 152) dX3_repeat_151 rfl ?_
  obtain ⟨c_4, h⟩ := chk_some h
  obtain ⟨r_1, M_2, hc_3, h⟩ := bnd2_some h
  refine zr_callVV (μ' := uX5_set) (q := 155) (n := 4) (ci := 5) (As := [.int s1, .int s2, .long (jshl v5 v10), .long (jshl v7 v10)]) (u' := (0, 0)) (tX5_set n M s0 s1 s2 (jshl v5 v10) (jshl v7 v10) _ _ hc_3) dX3_repeat_152 rfl rfl ⟨zb_112, zb_113, zb_114, zb_115, zb_116⟩ zd_X5_set ⟨by decide, by decide⟩ ⟨by decide, by decide⟩ (eq_of_beq c_4) (by decide) rfl rfl rfl (Nat.le_of_ble_eq_true rfl) rfl rfl ?_
  refine zr_aload_n (q := 156) dX3_repeat_155 rfl rfl 0 rfl ?_
  obtain ⟨c_5, h⟩ := chk_some h
  obtain ⟨a_6, e_7, h⟩ := bnd_some h
  refine zr_getr (q := 159) (ci := 3) (k := 3) dX3_repeat_156 rfl (eq_of_beq c_5) rfl (by decide) rfl zbX3 (by decide) zb_136 rfl e_7 ?_
  refine zr_aload_n (q := 160) dX3_repeat_159 rfl rfl 0 rfl ?_
  obtain ⟨c_8, h⟩ := chk_some h
  obtain ⟨a_9, e_10, h⟩ := bnd_some h
  refine zr_getr (q := 163) (ci := 3) (k := 4) dX3_repeat_160 rfl (eq_of_beq c_8) rfl (by decide) rfl zbX3 (by decide) zb_159 rfl e_10 ?_
  refine zr_aload_n (q := 164) dX3_repeat_163 rfl rfl 0 rfl ?_
  obtain ⟨c_11, h⟩ := chk_some h
  obtain ⟨a_12, e_13, h⟩ := bnd_some h
  refine zr_getr (q := 167) (ci := 3) (k := 2) dX3_repeat_164 rfl (eq_of_beq c_11) rfl (by decide) rfl zbX3 (by decide) zb_110 rfl e_13 ?_
  obtain ⟨c_17, h⟩ := chk_some h
  obtain ⟨r_14, M_15, hc_16, h⟩ := bnd2_some h
  refine zr_callVV (μ' := uX5_append) (q := 170) (n := 2) (ci := 5) (As := [.ref a_9, .ref a_12]) (u' := (0, 0)) (tX5_append n M_2 a_6 a_9 a_12 _ _ hc_16) dX3_repeat_167 rfl rfl ⟨zb_137, zb_138, zb_139, zb_140, zb_116⟩ zd_X5_append ⟨by decide, by decide⟩ ⟨by decide, by decide⟩ (eq_of_beq c_17) (by decide) rfl rfl rfl (Nat.le_of_ble_eq_true rfl) rfl rfl ?_
  obtain ⟨v9_18, e_19, h⟩ := app_some h
  refine zr_iinc (q := 173) (v := v9_18) (L' := [(9, .int v9_18), (0, .ref v0), (1, .int v1), (2, .int v2), (3, .int v3), (4, .int v4), (5, .long v5), (7, .long v7), (10, .int v10)]) dX3_repeat_170 rfl 7 rfl (by rw [← e_19]; rfl) (by decide) rfl ?_
  refine zr_goto (q := 100) dX3_repeat_173 (by decide) ?_
  exact zr_pick [1, 2, 3, 4, 5, 6, 7, 0] rfl (h100 M_15 v0 v1 v2 v3 v4 v5 v7 v9_18 _ _ h)
def fX3_repeat_137 (k100 : zM → Nat → Int32 → Int32 → Int32 → Int32 → Int64 → Int64 → Int32 → Option (Int32 × zM)) (n : Nat) (M : zM) (v0 : Nat) (v1 : Int32) (v2 : Int32) (v3 : Int32) (v4 : Int32) (v5 : Int64) (v7 : Int64) (v9 : Int32) (v10 : Int32) (s0 : Nat) (s1 : Int32) : Option (Int32 × zM) :=
  fX3_repeat_142 k100 n M v0 v1 v2 v3 v4 v5 v7 v9 v10 s0 s1 (1 : Int32)
set_option maxHeartbeats 4000000 in
theorem tX3_repeat_137 (k100 : zM → Nat → Int32 → Int32 → Int32 → Int32 → Int64 → Int64 → Int32 → Option (Int32 × zM)) (h100 : ∀ (M : zM) (v0 : Nat) (v1 : Int32) (v2 : Int32) (v3 : Int32) (v4 : Int32) (v5 : Int64) (v7 : Int64) (v9 : Int32) (r : Int32) (M' : zM), k100 M v0 v1 v2 v3 v4 v5 v7 v9 = some (r, M') → zW uX3_repeat none (0, 0) M 100 [(0, .ref v0), (1, .int v1), (2, .int v2), (3, .int v3), (4, .int v4), (5, .long v5), (7, .long v7), (9, .int v9)] [] (zE (oI r) M')) (n : Nat) (M : zM) (v0 : Nat) (v1 : Int32) (v2 : Int32) (v3 : Int32) (v4 : Int32) (v5 : Int64) (v7 : Int64) (v9 : Int32) (v10 : Int32) (s0 : Nat) (s1 : Int32) (r : Int32) (M' : zM) (h : fX3_repeat_137 k100 n M v0 v1 v2 v3 v4 v5 v7 v9 v10 s0 s1 = some (r, M')) : zW uX3_repeat none (0, 0) M 137 [(0, .ref v0), (1, .int v1), (2, .int v2), (3, .int v3), (4, .int v4), (5, .long v5), (7, .long v7), (9, .int v9), (10, .int v10)] [.int s1, .ref s0] (zE (oI r) M') := by
  unfold fX3_repeat_137 at h
  refine zr_iconst (q := 138) (v := 1) dX3_repeat_137 rfl (by decide) ?_
  refine zr_goto (q := 142) dX3_repeat_138 (by decide) ?_
  exact zr_pick [0, 1, 2, 3, 4, 5, 6, 7, 8] rfl (tX3_repeat_142 k100 h100 n M v0 v1 v2 v3 v4 v5 v7 v9 v10 s0 s1 (1 : Int32) _ _ h)
def fX3_repeat_100 : Nat → zM → Nat → Int32 → Int32 → Int32 → Int32 → Int64 → Int64 → Int32 → Option (Int32 × zM)
  | 0, _, _, _, _, _, _, _, _, _ => none
  | n + 1, M, v0, v1, v2, v3, v4, v5, v7, v9 =>
    if v2 ≤ v9 then
      some ((1 : Int32), M)
    else
    app (v9 * v3) fun v10_2 : Int32 =>
    chk (mK M v0 == 3) <|
    bnd (mR M v0 4) fun a_5 =>
    chk (mK M v0 == 3) <|
    bnd (mR M v0 3) fun a_8 =>
    chk (mK M a_8 == 5) <|
    if v4 = (0 : Int32) then
      if v9 < v1 then
        fX3_repeat_142 (fX3_repeat_100 n) n M v0 v1 v2 v3 v4 v5 v7 v9 v10_2 a_5 ((mI M a_8 0) + v10_2) (0 : Int32)
      else
      fX3_repeat_137 (fX3_repeat_100 n) n M v0 v1 v2 v3 v4 v5 v7 v9 v10_2 a_5 ((mI M a_8 0) + v10_2)
    else
    fX3_repeat_137 (fX3_repeat_100 n) n M v0 v1 v2 v3 v4 v5 v7 v9 v10_2 a_5 ((mI M a_8 0) + v10_2)
set_option maxHeartbeats 4000000 in
theorem tX3_repeat_100 : ∀ (n : Nat) (M : zM) (v0 : Nat) (v1 : Int32) (v2 : Int32) (v3 : Int32) (v4 : Int32) (v5 : Int64) (v7 : Int64) (v9 : Int32) (r : Int32) (M' : zM), fX3_repeat_100 n M v0 v1 v2 v3 v4 v5 v7 v9 = some (r, M') → zW uX3_repeat none (0, 0) M 100 [(0, .ref v0), (1, .int v1), (2, .int v2), (3, .int v3), (4, .int v4), (5, .long v5), (7, .long v7), (9, .int v9)] [] (zE (oI r) M') := by
  intro n
  induction n with
  | zero => intro M v0 v1 v2 v3 v4 v5 v7 v9 r M' h; cases h
  | succ n ih =>
    intro M v0 v1 v2 v3 v4 v5 v7 v9 r M' h
    rw [fX3_repeat_100] at h
    refine zr_iload (q := 102) dX3_repeat_100 rfl 7 rfl ?_
    refine zr_iload_n (q := 103) dX3_repeat_102 rfl rfl 2 rfl ?_
    refine zr_icmp_ge (q := 106) (tgt := 176) dX3_repeat_103 rfl (by decide) (fun c_1 => ?_) (fun c_1 => ?_)
    · replace h := ite_t c_1 h
      refine zr_iconst (q := 177) (v := 1) dX3_repeat_176 rfl (by decide) ?_
      cases h
      exact zr_zreturn dX3_repeat_177 rfl (Or.inr rfl) ⟨by decide, by decide⟩ ⟨rfl, rfl⟩
    · replace h := ite_f c_1 h
      refine zr_iload (q := 108) dX3_repeat_106 rfl 7 rfl ?_
      refine zr_iload_n (q := 109) dX3_repeat_108 rfl rfl 3 rfl ?_
      refine zr_imul (q := 110) dX3_repeat_109 rfl ?_
      obtain ⟨v10_2, e_3, h⟩ := app_some h
      refine zr_nmI e_3 ?_
      refine zr_istore (q := 112) (L' := [(10, .int v10_2), (0, .ref v0), (1, .int v1), (2, .int v2), (3, .int v3), (4, .int v4), (5, .long v5), (7, .long v7), (9, .int v9)]) dX3_repeat_110 rfl (by decide) rfl ?_
      refine zr_aload_n (q := 113) dX3_repeat_112 rfl rfl 1 rfl ?_
      obtain ⟨c_4, h⟩ := chk_some h
      obtain ⟨a_5, e_6, h⟩ := bnd_some h
      refine zr_getr (q := 116) (ci := 3) (k := 4) dX3_repeat_113 rfl (eq_of_beq c_4) rfl (by decide) rfl zbX3 (by decide) zb_159 rfl e_6 ?_
      refine zr_aload_n (q := 117) dX3_repeat_116 rfl rfl 1 rfl ?_
      obtain ⟨c_7, h⟩ := chk_some h
      obtain ⟨a_8, e_9, h⟩ := bnd_some h
      refine zr_getr (q := 120) (ci := 3) (k := 3) dX3_repeat_117 rfl (eq_of_beq c_7) rfl (by decide) rfl zbX3 (by decide) zb_136 rfl e_9 ?_
      obtain ⟨c_10, h⟩ := chk_some h
      refine zr_get (q := 123) (ci := 5) (k := 0) dX3_repeat_120 rfl (eq_of_beq c_10) rfl (by decide) rfl zbX5 (by decide) zb_154 rfl ?_
      refine zr_iload (q := 125) dX3_repeat_123 rfl 0 rfl ?_
      refine zr_iadd (q := 126) dX3_repeat_125 rfl ?_
      refine zr_iload (q := 128) dX3_repeat_126 rfl 5 rfl ?_
      refine zr_if_ne (q := 131) (tgt := 137) dX3_repeat_128 rfl (by decide) (fun c_11 => ?_) (fun c_11 => ?_)
      · replace h := ite_f c_11 h
        exact zr_pick [1, 2, 3, 4, 5, 6, 7, 8, 0] rfl (tX3_repeat_137 (fX3_repeat_100 n) ih n M v0 v1 v2 v3 v4 v5 v7 v9 v10_2 a_5 ((mI M a_8 0) + v10_2) _ _ h)
      · replace h := ite_t c_11 h
        refine zr_iload (q := 133) dX3_repeat_131 rfl 8 rfl ?_
        refine zr_iload_n (q := 134) dX3_repeat_133 rfl rfl 2 rfl ?_
        refine zr_icmp_lt (q := 137) (tgt := 141) dX3_repeat_134 rfl (by decide) (fun c_12 => ?_) (fun c_12 => ?_)
        · replace h := ite_t c_12 h
          refine zr_iconst (q := 142) (v := 0) dX3_repeat_141 rfl (by decide) ?_
          exact zr_pick [1, 2, 3, 4, 5, 6, 7, 8, 0] rfl (tX3_repeat_142 (fX3_repeat_100 n) ih n M v0 v1 v2 v3 v4 v5 v7 v9 v10_2 a_5 ((mI M a_8 0) + v10_2) (0 : Int32) _ _ h)
        · replace h := ite_f c_12 h
          exact zr_pick [1, 2, 3, 4, 5, 6, 7, 8, 0] rfl (tX3_repeat_137 (fX3_repeat_100 n) ih n M v0 v1 v2 v3 v4 v5 v7 v9 v10_2 a_5 ((mI M a_8 0) + v10_2) _ _ h)
def fX3_repeat_94 (n : Nat) (M : zM) (v0 : Nat) (v1 : Int32) (v2 : Int32) (v3 : Int32) (v4 : Int32) (v5 : Int64) (v7 : Int64) (s0 : Nat) (s1 : Int32) : Option (Int32 × zM) :=
  chk (mK M s0 == 5) <|
  chk (z01 s1) <|
  app (wI M s0 1 s1) fun M_3 : zM =>
  fX3_repeat_100 n M_3 v0 v1 v2 v3 v4 v5 v7 (1 : Int32)
set_option maxHeartbeats 4000000 in
theorem tX3_repeat_94 (n : Nat) (M : zM) (v0 : Nat) (v1 : Int32) (v2 : Int32) (v3 : Int32) (v4 : Int32) (v5 : Int64) (v7 : Int64) (s0 : Nat) (s1 : Int32) (r : Int32) (M' : zM) (h : fX3_repeat_94 n M v0 v1 v2 v3 v4 v5 v7 s0 s1 = some (r, M')) : zW uX3_repeat none (0, 0) M 94 [(0, .ref v0), (1, .int v1), (2, .int v2), (3, .int v3), (4, .int v4), (5, .long v5), (7, .long v7)] [.int s1, .ref s0] (zE (oI r) M') := by
  unfold fX3_repeat_94 at h
  obtain ⟨c_1, h⟩ := chk_some h
  obtain ⟨c_2, h⟩ := chk_some h
  obtain ⟨M_3, e_4, h⟩ := app_some h
  refine zr_putZ (q := 97) (ci := 5) (k := 1) dX3_repeat_94 rfl (eq_of_beq c_1) rfl (by decide) rfl zbX5 tyX5_ok nmX5 (by decide) zb_155 (Or.inl rfl) rfl (z01_or c_2) ?_
  refine zr_mem e_4 ?_
  refine zr_iconst (q := 98) (v := 1) dX3_repeat_97 rfl (by decide) ?_
  refine zr_istore (q := 100) (L' := [(9, .int (1 : Int32)), (0, .ref v0), (1, .int v1), (2, .int v2), (3, .int v3), (4, .int v4), (5, .long v5), (7, .long v7)]) dX3_repeat_98 rfl (by decide) rfl ?_
  exact zr_pick [1, 2, 3, 4, 5, 6, 7, 0] rfl (tX3_repeat_100 n M_3 v0 v1 v2 v3 v4 v5 v7 (1 : Int32) _ _ h)
def fX3_repeat_89 (n : Nat) (M : zM) (v0 : Nat) (v1 : Int32) (v2 : Int32) (v3 : Int32) (v4 : Int32) (v5 : Int64) (v7 : Int64) (s0 : Nat) : Option (Int32 × zM) :=
  fX3_repeat_94 n M v0 v1 v2 v3 v4 v5 v7 s0 (1 : Int32)
set_option maxHeartbeats 4000000 in
theorem tX3_repeat_89 (n : Nat) (M : zM) (v0 : Nat) (v1 : Int32) (v2 : Int32) (v3 : Int32) (v4 : Int32) (v5 : Int64) (v7 : Int64) (s0 : Nat) (r : Int32) (M' : zM) (h : fX3_repeat_89 n M v0 v1 v2 v3 v4 v5 v7 s0 = some (r, M')) : zW uX3_repeat none (0, 0) M 89 [(0, .ref v0), (1, .int v1), (2, .int v2), (3, .int v3), (4, .int v4), (5, .long v5), (7, .long v7)] [.ref s0] (zE (oI r) M') := by
  unfold fX3_repeat_89 at h
  refine zr_iconst (q := 90) (v := 1) dX3_repeat_89 rfl (by decide) ?_
  refine zr_goto (q := 94) dX3_repeat_90 (by decide) ?_
  exact zr_pick [0, 1, 2, 3, 4, 5, 6] rfl (tX3_repeat_94 n M v0 v1 v2 v3 v4 v5 v7 s0 (1 : Int32) _ _ h)
def fX3_repeat (n : Nat) (M : zM) (v0 : Nat) (v1 : Int32) (v2 : Int32) : Option (Int32 × zM) :=
  chk (mK M v0 == 3) <|
  bnd (mR M v0 2) fun a_2 =>
  chk (mK M a_2 == 4) <|
  chk (mK M v0 == 3) <|
  bnd (mR M v0 3) fun a_6 =>
  chk (mK M a_6 == 5) <|
  app ((mI M a_2 0) - (mI M a_6 0)) fun v3_9 : Int32 =>
  chk (mK M v0 == 3) <|
  bnd (mR M v0 3) fun a_12 =>
  chk (mK M a_12 == 5) <|
  if ((mI M a_12 0) + (v3_9 * v2)) ≤ (60 : Int32) then
    chk (mK M v0 == 3) <|
    bnd (mR M v0 3) fun a_17 =>
    chk (mK M a_17 == 5) <|
    app (mI M a_17 1) fun v4_20 : Int32 =>
    chk (mK M v0 == 3) <|
    bnd (mR M v0 3) fun a_23 =>
    chk (mK M a_23 == 5) <|
    app (mL M a_23 2) fun v5_26 : Int64 =>
    chk (mK M v0 == 3) <|
    bnd (mR M v0 3) fun a_29 =>
    chk (mK M a_29 == 5) <|
    app (mL M a_29 3) fun v7_32 : Int64 =>
    chk (mK M v0 == 3) <|
    bnd (mR M v0 2) fun a_35 =>
    chk (mK M v0 == 3) <|
    bnd (mR M v0 3) fun a_38 =>
    chk (mK M a_38 == 5) <|
    chk (mK M a_35 == 4) <|
    bnd2 (fX4_copyPositions n M a_35 (mI M a_38 0) v2) fun r_41 M_42 =>
    chk (mK M_42 v0 == 3) <|
    bnd (mR M_42 v0 3) fun a_46 =>
    if v4_20 = (0 : Int32) then
      if v1 = (0 : Int32) then
        fX3_repeat_89 n M_42 v0 v1 v2 v3_9 v4_20 v5_26 v7_32 a_46
      else
      fX3_repeat_94 n M_42 v0 v1 v2 v3_9 v4_20 v5_26 v7_32 a_46 (0 : Int32)
    else
    fX3_repeat_89 n M_42 v0 v1 v2 v3_9 v4_20 v5_26 v7_32 a_46
  else
  some ((0 : Int32), M)
set_option maxHeartbeats 4000000 in
theorem tX3_repeat (n : Nat) (M : zM) (v0 : Nat) (v1 : Int32) (v2 : Int32) (r : Int32) (M' : zM) (h : fX3_repeat n M v0 v1 v2 = some (r, M')) : zMet uX3_repeat false M [.ref v0, .int v1, .int v2] (zE (oI r) M') := by
  refine zMet_of (L := [(0, .ref v0), (1, .int v1), (2, .int v2)]) (by decide +kernel) rfl rfl (Nat.le_of_ble_eq_true rfl) ?_
  show zW uX3_repeat none (0, 0) M 0 [(0, .ref v0), (1, .int v1), (2, .int v2)] [] (zE (oI r) M')
  unfold fX3_repeat at h
  refine zr_aload_n (q := 1) dX3_repeat_0 rfl rfl 0 rfl ?_
  obtain ⟨c_1, h⟩ := chk_some h
  obtain ⟨a_2, e_3, h⟩ := bnd_some h
  refine zr_getr (q := 4) (ci := 3) (k := 2) dX3_repeat_1 rfl (eq_of_beq c_1) rfl (by decide) rfl zbX3 (by decide) zb_110 rfl e_3 ?_
  obtain ⟨c_4, h⟩ := chk_some h
  refine zr_get (q := 7) (ci := 4) (k := 0) dX3_repeat_4 rfl (eq_of_beq c_4) rfl (by decide) rfl zbX4 (by decide) zb_111 rfl ?_
  refine zr_aload_n (q := 8) dX3_repeat_7 rfl rfl 0 rfl ?_
  obtain ⟨c_5, h⟩ := chk_some h
  obtain ⟨a_6, e_7, h⟩ := bnd_some h
  refine zr_getr (q := 11) (ci := 3) (k := 3) dX3_repeat_8 rfl (eq_of_beq c_5) rfl (by decide) rfl zbX3 (by decide) zb_136 rfl e_7 ?_
  obtain ⟨c_8, h⟩ := chk_some h
  refine zr_get (q := 14) (ci := 5) (k := 0) dX3_repeat_11 rfl (eq_of_beq c_8) rfl (by decide) rfl zbX5 (by decide) zb_154 rfl ?_
  refine zr_isub (q := 15) dX3_repeat_14 rfl ?_
  obtain ⟨v3_9, e_10, h⟩ := app_some h
  refine zr_nmI e_10 ?_
  refine zr_istore_n (q := 16) (L' := [(3, .int v3_9), (0, .ref v0), (1, .int v1), (2, .int v2)]) dX3_repeat_15 rfl rfl (by decide) rfl ?_
  refine zr_aload_n (q := 17) dX3_repeat_16 rfl rfl 1 rfl ?_
  obtain ⟨c_11, h⟩ := chk_some h
  obtain ⟨a_12, e_13, h⟩ := bnd_some h
  refine zr_getr (q := 20) (ci := 3) (k := 3) dX3_repeat_17 rfl (eq_of_beq c_11) rfl (by decide) rfl zbX3 (by decide) zb_136 rfl e_13 ?_
  obtain ⟨c_14, h⟩ := chk_some h
  refine zr_get (q := 23) (ci := 5) (k := 0) dX3_repeat_20 rfl (eq_of_beq c_14) rfl (by decide) rfl zbX5 (by decide) zb_154 rfl ?_
  refine zr_iload_n (q := 24) dX3_repeat_23 rfl rfl 0 rfl ?_
  refine zr_iload_n (q := 25) dX3_repeat_24 rfl rfl 3 rfl ?_
  refine zr_imul (q := 26) dX3_repeat_25 rfl ?_
  refine zr_iadd (q := 27) dX3_repeat_26 rfl ?_
  refine zr_bipush (q := 29) (v := 60) dX3_repeat_27 rfl (by decide) ?_
  refine zr_icmp_le (q := 32) (tgt := 34) dX3_repeat_29 rfl (by decide) (fun c_15 => ?_) (fun c_15 => ?_)
  · replace h := ite_t c_15 h
    refine zr_aload_n (q := 35) dX3_repeat_34 rfl rfl 1 rfl ?_
    obtain ⟨c_16, h⟩ := chk_some h
    obtain ⟨a_17, e_18, h⟩ := bnd_some h
    refine zr_getr (q := 38) (ci := 3) (k := 3) dX3_repeat_35 rfl (eq_of_beq c_16) rfl (by decide) rfl zbX3 (by decide) zb_136 rfl e_18 ?_
    obtain ⟨c_19, h⟩ := chk_some h
    refine zr_get (q := 41) (ci := 5) (k := 1) dX3_repeat_38 rfl (eq_of_beq c_19) rfl (by decide) rfl zbX5 (by decide) zb_155 rfl ?_
    obtain ⟨v4_20, e_21, h⟩ := app_some h
    refine zr_nmI e_21 ?_
    refine zr_istore (q := 43) (L' := [(4, .int v4_20), (3, .int v3_9), (0, .ref v0), (1, .int v1), (2, .int v2)]) dX3_repeat_41 rfl (by decide) rfl ?_
    refine zr_aload_n (q := 44) dX3_repeat_43 rfl rfl 2 rfl ?_
    obtain ⟨c_22, h⟩ := chk_some h
    obtain ⟨a_23, e_24, h⟩ := bnd_some h
    refine zr_getr (q := 47) (ci := 3) (k := 3) dX3_repeat_44 rfl (eq_of_beq c_22) rfl (by decide) rfl zbX3 (by decide) zb_136 rfl e_24 ?_
    obtain ⟨c_25, h⟩ := chk_some h
    refine zr_get (q := 50) (ci := 5) (k := 2) dX3_repeat_47 rfl (eq_of_beq c_25) rfl (by decide) rfl zbX5 (by decide) zb_156 rfl ?_
    obtain ⟨v5_26, e_27, h⟩ := app_some h
    refine zr_nmL e_27 ?_
    refine zr_lstore (q := 52) (L' := [(5, .long v5_26), (4, .int v4_20), (3, .int v3_9), (0, .ref v0), (1, .int v1), (2, .int v2)]) dX3_repeat_50 rfl (by decide) rfl ?_
    refine zr_aload_n (q := 53) dX3_repeat_52 rfl rfl 3 rfl ?_
    obtain ⟨c_28, h⟩ := chk_some h
    obtain ⟨a_29, e_30, h⟩ := bnd_some h
    refine zr_getr (q := 56) (ci := 3) (k := 3) dX3_repeat_53 rfl (eq_of_beq c_28) rfl (by decide) rfl zbX3 (by decide) zb_136 rfl e_30 ?_
    obtain ⟨c_31, h⟩ := chk_some h
    refine zr_get (q := 59) (ci := 5) (k := 3) dX3_repeat_56 rfl (eq_of_beq c_31) rfl (by decide) rfl zbX5 (by decide) zb_157 rfl ?_
    obtain ⟨v7_32, e_33, h⟩ := app_some h
    refine zr_nmL e_33 ?_
    refine zr_lstore (q := 61) (L' := [(7, .long v7_32), (5, .long v5_26), (4, .int v4_20), (3, .int v3_9), (0, .ref v0), (1, .int v1), (2, .int v2)]) dX3_repeat_59 rfl (by decide) rfl ?_
    refine zr_aload_n (q := 62) dX3_repeat_61 rfl rfl 4 rfl ?_
    obtain ⟨c_34, h⟩ := chk_some h
    obtain ⟨a_35, e_36, h⟩ := bnd_some h
    refine zr_getr (q := 65) (ci := 3) (k := 2) dX3_repeat_62 rfl (eq_of_beq c_34) rfl (by decide) rfl zbX3 (by decide) zb_110 rfl e_36 ?_
    refine zr_aload_n (q := 66) dX3_repeat_65 rfl rfl 4 rfl ?_
    obtain ⟨c_37, h⟩ := chk_some h
    obtain ⟨a_38, e_39, h⟩ := bnd_some h
    refine zr_getr (q := 69) (ci := 3) (k := 3) dX3_repeat_66 rfl (eq_of_beq c_37) rfl (by decide) rfl zbX3 (by decide) zb_136 rfl e_39 ?_
    obtain ⟨c_40, h⟩ := chk_some h
    refine zr_get (q := 72) (ci := 5) (k := 0) dX3_repeat_69 rfl (eq_of_beq c_40) rfl (by decide) rfl zbX5 (by decide) zb_154 rfl ?_
    refine zr_iload_n (q := 73) dX3_repeat_72 rfl rfl 6 rfl ?_
    obtain ⟨c_44, h⟩ := chk_some h
    obtain ⟨r_41, M_42, hc_43, h⟩ := bnd2_some h
    refine zr_callVV (μ' := uX4_copyPositions) (q := 76) (n := 2) (ci := 4) (As := [.int (mI M a_38 0), .int v2]) (u' := (0, 0)) (tX4_copyPositions n M a_35 (mI M a_38 0) v2 _ _ hc_43) dX3_repeat_73 rfl rfl ⟨zb_160, zb_161, zb_162, zb_163, zb_31⟩ zd_X4_copyPositions ⟨by decide, by decide⟩ ⟨by decide, by decide⟩ (eq_of_beq c_44) (by decide) rfl rfl rfl (Nat.le_of_ble_eq_true rfl) rfl rfl ?_
    refine zr_aload_n (q := 77) dX3_repeat_76 rfl rfl 4 rfl ?_
    obtain ⟨c_45, h⟩ := chk_some h
    obtain ⟨a_46, e_47, h⟩ := bnd_some h
    refine zr_getr (q := 80) (ci := 3) (k := 3) dX3_repeat_77 rfl (eq_of_beq c_45) rfl (by decide) rfl zbX3 (by decide) zb_136 rfl e_47 ?_
    refine zr_iload (q := 82) dX3_repeat_80 rfl 2 rfl ?_
    refine zr_if_ne (q := 85) (tgt := 89) dX3_repeat_82 rfl (by decide) (fun c_48 => ?_) (fun c_48 => ?_)
    · replace h := ite_f c_48 h
      exact zr_pick [4, 5, 6, 3, 2, 1, 0] rfl (tX3_repeat_89 n M_42 v0 v1 v2 v3_9 v4_20 v5_26 v7_32 a_46 _ _ h)
    · replace h := ite_t c_48 h
      refine zr_iload_n (q := 86) dX3_repeat_85 rfl rfl 5 rfl ?_
      refine zr_if_ne (q := 89) (tgt := 93) dX3_repeat_86 rfl (by decide) (fun c_49 => ?_) (fun c_49 => ?_)
      · replace h := ite_f c_49 h
        refine zr_iconst (q := 94) (v := 0) dX3_repeat_93 rfl (by decide) ?_
        exact zr_pick [4, 5, 6, 3, 2, 1, 0] rfl (tX3_repeat_94 n M_42 v0 v1 v2 v3_9 v4_20 v5_26 v7_32 a_46 (0 : Int32) _ _ h)
      · replace h := ite_t c_49 h
        exact zr_pick [4, 5, 6, 3, 2, 1, 0] rfl (tX3_repeat_89 n M_42 v0 v1 v2 v3_9 v4_20 v5_26 v7_32 a_46 _ _ h)
  · replace h := ite_f c_15 h
    refine zr_iconst (q := 33) (v := 0) dX3_repeat_32 rfl (by decide) ?_
    cases h
    exact zr_zreturn dX3_repeat_33 rfl (Or.inl rfl) ⟨by decide, by decide⟩ ⟨rfl, rfl⟩

def uX3_finish : zMu := (yX3_finish, cX3_finish, 1, none, { frames := 4, cells := 0, slots := 0, locals := 87 }, [])
theorem zd_X3_finish : (uY uX3_finish).cls ≠ "java/lang/invoke/MethodHandle" ∧ (uY uX3_finish).cls ≠ "java/lang/invoke/VarHandle" ∧ (parseMethodDescriptor (uY uX3_finish).desc).map (fun d => d.parameters.length) = some 0 := by decide +kernel
def fX3_finish (n : Nat) (M : zM) (v0 : Nat) : Option (Unit × zM) :=
  chk (mK M v0 == 3) <|
  bnd2 (fX3_endRow n M v0) fun r_1 M_2 =>
  chk (mK M_2 v0 == 3) <|
  bnd (mR M_2 v0 2) fun a_6 =>
  chk (mK M_2 v0 == 3) <|
  bnd (mR M_2 v0 6) fun a_9 =>
  chk (mK M_2 a_9 == 15) <|
  chk (zin (0 : Int32) (mN M_2 a_9)) <|
  bnd (mR M_2 a_9 (Int32.toNatClampNeg (0 : Int32))) fun a_13 =>
  chk (mK M_2 a_6 == 4) <|
  bnd2 (fX4_complete n M_2 a_6 a_13) fun r_15 M_16 =>
  some ((), M_16)
set_option maxHeartbeats 4000000 in
theorem tX3_finish (n : Nat) (M : zM) (v0 : Nat) (r : Unit) (M' : zM) (h : fX3_finish n M v0 = some (r, M')) : zMet uX3_finish false M [.ref v0] (zE (oV r) M') := by
  refine zMet_of (L := [(0, .ref v0)]) (by decide +kernel) rfl rfl (Nat.le_of_ble_eq_true rfl) ?_
  show zW uX3_finish none (0, 0) M 0 [(0, .ref v0)] [] (zE (oV r) M')
  unfold fX3_finish at h
  refine zr_aload_n (q := 1) dX3_finish_0 rfl rfl 0 rfl ?_
  obtain ⟨c_4, h⟩ := chk_some h
  obtain ⟨r_1, M_2, hc_3, h⟩ := bnd2_some h
  refine zr_callVV (μ' := uX3_endRow) (q := 4) (n := 0) (ci := 3) (As := []) (u' := (0, 0)) (tX3_endRow n M v0 _ _ hc_3) dX3_finish_1 rfl rfl ⟨zb_175, zb_176, zb_177, zb_178, zb_123⟩ zd_X3_endRow ⟨by decide, by decide⟩ ⟨by decide, by decide⟩ (eq_of_beq c_4) (by decide) rfl rfl rfl (Nat.le_of_ble_eq_true rfl) rfl rfl ?_
  refine zr_aload_n (q := 5) dX3_finish_4 rfl rfl 0 rfl ?_
  obtain ⟨c_5, h⟩ := chk_some h
  obtain ⟨a_6, e_7, h⟩ := bnd_some h
  refine zr_getr (q := 8) (ci := 3) (k := 2) dX3_finish_5 rfl (eq_of_beq c_5) rfl (by decide) rfl zbX3 (by decide) zb_110 rfl e_7 ?_
  refine zr_aload_n (q := 9) dX3_finish_8 rfl rfl 0 rfl ?_
  obtain ⟨c_8, h⟩ := chk_some h
  obtain ⟨a_9, e_10, h⟩ := bnd_some h
  refine zr_getr (q := 12) (ci := 3) (k := 6) dX3_finish_9 rfl (eq_of_beq c_8) rfl (by decide) rfl zbX3 (by decide) zb_118 rfl e_10 ?_
  refine zr_iconst (q := 13) (v := 0) dX3_finish_12 rfl (by decide) ?_
  obtain ⟨c_11, h⟩ := chk_some h
  obtain ⟨c_12, h⟩ := chk_some h
  obtain ⟨a_13, e_14, h⟩ := bnd_some h
  refine zr_aald (q := 14) dX3_finish_13 rfl (eq_of_beq c_11) (Or.inr rfl) c_12 e_14 ?_
  obtain ⟨c_18, h⟩ := chk_some h
  obtain ⟨r_15, M_16, hc_17, h⟩ := bnd2_some h
  refine zr_callVV (μ' := uX4_complete) (q := 17) (n := 1) (ci := 4) (As := [.ref a_13]) (u' := (0, 0)) (tX4_complete n M_2 a_6 a_13 _ _ hc_17) dX3_finish_14 rfl rfl ⟨zb_179, zb_180, zb_181, zb_182, zb_31⟩ zd_X4_complete ⟨by decide, by decide⟩ ⟨by decide, by decide⟩ (eq_of_beq c_18) (by decide) rfl rfl rfl (Nat.le_of_ble_eq_true rfl) rfl rfl ?_
  cases h
  exact zr_return dX3_finish_17 rfl ⟨by decide, by decide⟩ ⟨rfl, rfl⟩
