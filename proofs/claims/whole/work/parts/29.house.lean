/-! by program: wip/decomp.py, wip/mk_code.py -/
def uX9_type : zMu := (yX9_type, cX9_type, 4, (some .int), { frames := 6, cells := 1, slots := 6, locals := 81 }, [])
theorem zd_X9_type : (uY uX9_type).cls ≠ "java/lang/invoke/MethodHandle" ∧ (uY uX9_type).cls ≠ "java/lang/invoke/VarHandle" ∧ (parseMethodDescriptor (uY uX9_type).desc).map (fun d => d.parameters.length) = some 2 := by decide +kernel
def fX9_type (n : Nat) (M : zM) (v0 : Nat) (v1 : Int64) (v3 : Int32) : Option ((Int32 ⊕ String) × zM) :=
  if v3 < (1 : Int32) then
    some (.inr "java/lang/IllegalArgumentException", M)
  else
  if v3 ≤ (8 : Int32) then
    chk (mK M v0 == 9) <|
    bnd (mR M v0 0) fun a_4 =>
    chk (mK M a_4 == 6) <|
    if ((mI M a_4 0) + v3) ≤ (200 : Int32) then
      chk (mK M v0 == 9) <|
      bnd (mR M v0 0) fun a_9 =>
      chk (mK M a_9 == 6) <|
      bnd2 (fX6_append n M a_9 v1 v3) fun r_11 M_12 =>
      chk (mK M_12 v0 == 9) <|
      bnd (mR M_12 v0 0) fun a_16 =>
      chk (mK M_12 a_16 == 6) <|
      some ((.inl (mI M_12 a_16 0)), M_12)
    else
    some (.inr "java/lang/IllegalStateException", M)
  else
  some (.inr "java/lang/IllegalArgumentException", M)
set_option maxHeartbeats 4000000 in
theorem tX9_type (n : Nat) (M : zM) (v0 : Nat) (v1 : Int64) (v3 : Int32) (r : (Int32 ⊕ String)) (M' : zM) (h : fX9_type n M v0 v1 v3 = some (r, M')) : zMet uX9_type false M [.ref v0, .long v1, .int v3] (zE (tI r) M') := by
  refine zMet_of (L := [(0, .ref v0), (1, .long v1), (3, .int v3)]) (by decide +kernel) rfl rfl (Nat.le_of_ble_eq_true rfl) ?_
  show zW uX9_type none (0, 0) M 0 [(0, .ref v0), (1, .long v1), (3, .int v3)] [] (zE (tI r) M')
  unfold fX9_type at h
  refine zr_iload_n (q := 1) dX9_type_0 rfl rfl 2 rfl ?_
  refine zr_iconst (q := 2) (v := 1) dX9_type_1 rfl (by decide) ?_
  refine zr_icmp_lt (q := 5) (tgt := 11) dX9_type_2 rfl (by decide) (fun c_1 => ?_) (fun c_1 => ?_)
  · replace h := ite_t c_1 h
    cases h
    exact zr_throw0 (ik := 51) (ic := 53) zth_IAE dX9_type_11 dX9_type_14 dX9_type_15 dX9_type_18 rfl (by decide) (Nat.le_of_ble_eq_true rfl) ⟨by decide, by decide⟩ ⟨rfl, rfl⟩
  · replace h := ite_f c_1 h
    refine zr_iload_n (q := 6) dX9_type_5 rfl rfl 2 rfl ?_
    refine zr_bipush (q := 8) (v := 8) dX9_type_6 rfl (by decide) ?_
    refine zr_icmp_le (q := 11) (tgt := 19) dX9_type_8 rfl (by decide) (fun c_2 => ?_) (fun c_2 => ?_)
    · replace h := ite_t c_2 h
      refine zr_aload_n (q := 20) dX9_type_19 rfl rfl 0 rfl ?_
      obtain ⟨c_3, h⟩ := chk_some h
      obtain ⟨a_4, e_5, h⟩ := bnd_some h
      refine zr_getr (q := 23) (ci := 9) (k := 0) dX9_type_20 rfl (eq_of_beq c_3) rfl (by decide) rfl zbX9 (by decide) zb_291 rfl e_5 ?_
      obtain ⟨c_6, h⟩ := chk_some h
      refine zr_get (q := 26) (ci := 6) (k := 0) dX9_type_23 rfl (eq_of_beq c_6) rfl (by decide) rfl zbX6 (by decide) zb_292 rfl ?_
      refine zr_iload_n (q := 27) dX9_type_26 rfl rfl 2 rfl ?_
      refine zr_iadd (q := 28) dX9_type_27 rfl ?_
      refine zr_sipush (q := 31) (v := 200) dX9_type_28 rfl (by decide) ?_
      refine zr_icmp_le (q := 34) (tgt := 42) dX9_type_31 rfl (by decide) (fun c_7 => ?_) (fun c_7 => ?_)
      · replace h := ite_t c_7 h
        refine zr_aload_n (q := 43) dX9_type_42 rfl rfl 0 rfl ?_
        obtain ⟨c_8, h⟩ := chk_some h
        obtain ⟨a_9, e_10, h⟩ := bnd_some h
        refine zr_getr (q := 46) (ci := 9) (k := 0) dX9_type_43 rfl (eq_of_beq c_8) rfl (by decide) rfl zbX9 (by decide) zb_291 rfl e_10 ?_
        refine zr_lload_n (q := 47) dX9_type_46 rfl rfl 1 rfl ?_
        refine zr_iload_n (q := 48) dX9_type_47 rfl rfl 2 rfl ?_
        obtain ⟨c_14, h⟩ := chk_some h
        obtain ⟨r_11, M_12, hc_13, h⟩ := bnd2_some h
        refine zr_callVV (μ' := uX6_append) (q := 51) (n := 2) (ci := 6) (As := [.long v1, .int v3]) (u' := (0, 0)) (tX6_append n M a_9 v1 v3 _ _ hc_13) dX9_type_48 rfl rfl ⟨zb_293, zb_294, zb_295, zb_296, zb_193⟩ zd_X6_append ⟨by decide, by decide⟩ ⟨by decide, by decide⟩ (eq_of_beq c_14) (by decide) rfl rfl rfl (Nat.le_of_ble_eq_true rfl) rfl rfl ?_
        refine zr_aload_n (q := 52) dX9_type_51 rfl rfl 0 rfl ?_
        obtain ⟨c_15, h⟩ := chk_some h
        obtain ⟨a_16, e_17, h⟩ := bnd_some h
        refine zr_getr (q := 55) (ci := 9) (k := 0) dX9_type_52 rfl (eq_of_beq c_15) rfl (by decide) rfl zbX9 (by decide) zb_291 rfl e_17 ?_
        obtain ⟨c_18, h⟩ := chk_some h
        refine zr_get (q := 58) (ci := 6) (k := 0) dX9_type_55 rfl (eq_of_beq c_18) rfl (by decide) rfl zbX6 (by decide) zb_292 rfl ?_
        cases h
        exact zr_ireturn dX9_type_58 rfl ⟨by decide, by decide⟩ ⟨rfl, rfl⟩
      · replace h := ite_f c_7 h
        cases h
        exact zr_throw0 (ik := 58) (ic := 60) zth_ISE dX9_type_34 dX9_type_37 dX9_type_38 dX9_type_41 rfl (by decide) (Nat.le_of_ble_eq_true rfl) ⟨by decide, by decide⟩ ⟨rfl, rfl⟩
    · replace h := ite_f c_2 h
      cases h
      exact zr_throw0 (ik := 51) (ic := 53) zth_IAE dX9_type_11 dX9_type_14 dX9_type_15 dX9_type_18 rfl (by decide) (Nat.le_of_ble_eq_true rfl) ⟨by decide, by decide⟩ ⟨rfl, rfl⟩

def uX9_freePattern : zMu := (yX9_freePattern, cX9_freePattern, 3, (some (.object "PatternHouse$Pattern")), { frames := 0, cells := 0, slots := 0, locals := 0 }, [])
theorem zd_X9_freePattern : (uY uX9_freePattern).cls ≠ "java/lang/invoke/MethodHandle" ∧ (uY uX9_freePattern).cls ≠ "java/lang/invoke/VarHandle" ∧ (parseMethodDescriptor (uY uX9_freePattern).desc).map (fun d => d.parameters.length) = some 0 := by decide +kernel
def fX9_freePattern_41 (k4 : zM → Nat → Int32 → Int32 → Option (Nat × zM)) (n : Nat) (M : zM) (v0 : Nat) (v1 : Int32) (v2 : Int32) : Option (Nat × zM) :=
  app (v2 + (1 : Int32)) fun v2_1 : Int32 =>
  k4 M v0 v1 v2_1
set_option maxHeartbeats 4000000 in
theorem tX9_freePattern_41 (k4 : zM → Nat → Int32 → Int32 → Option (Nat × zM)) (h4 : ∀ (M : zM) (v0 : Nat) (v1 : Int32) (v2 : Int32) (r : Nat) (M' : zM), k4 M v0 v1 v2 = some (r, M') → zW uX9_freePattern none (0, 0) M 4 [(0, .ref v0), (1, .int v1), (2, .int v2)] [] (zE (oA r) M')) (n : Nat) (M : zM) (v0 : Nat) (v1 : Int32) (v2 : Int32) (r : Nat) (M' : zM) (h : fX9_freePattern_41 k4 n M v0 v1 v2 = some (r, M')) : zW uX9_freePattern none (0, 0) M 41 [(0, .ref v0), (1, .int v1), (2, .int v2)] [] (zE (oA r) M') := by
  unfold fX9_freePattern_41 at h
  obtain ⟨v2_1, e_2, h⟩ := app_some h
  refine zr_iinc (q := 44) (v := v2_1) (L' := [(2, .int v2_1), (0, .ref v0), (1, .int v1)]) dX9_freePattern_41 rfl 2 rfl (by rw [← e_2]; rfl) (by decide) rfl ?_
  refine zr_goto (q := 4) dX9_freePattern_44 (by decide) ?_
  exact zr_pick [1, 2, 0] rfl (h4 M v0 v1 v2_1 _ _ h)
def fX9_freePattern_4 : Nat → zM → Nat → Int32 → Int32 → Option (Nat × zM)
  | 0, _, _, _, _ => none
  | n + 1, M, v0, v1, v2 =>
    chk (mK M v0 == 9) <|
    bnd (mR M v0 5) fun a_2 =>
    chk (mK M a_2 == 14) <|
    if (nI (mN M a_2)) ≤ v2 then
      chk (mK M v0 == 9) <|
      bnd (mR M v0 5) fun a_7 =>
      chk (mK M a_7 == 14) <|
      chk (zin v1 (mN M a_7)) <|
      bnd (mR M a_7 (Int32.toNatClampNeg v1)) fun a_11 =>
      some (a_11, M)
    else
    chk (mK M v0 == 9) <|
    bnd (mR M v0 5) fun a_14 =>
    chk (mK M a_14 == 14) <|
    chk (zin v2 (mN M a_14)) <|
    chk (mK M v0 == 9) <|
    if mR M a_14 (Int32.toNatClampNeg v2) = mR M v0 6 then
      fX9_freePattern_41 (fX9_freePattern_4 n) n M v0 v1 v2
    else
    chk (mK M v0 == 9) <|
    bnd (mR M v0 5) fun a_21 =>
    chk (mK M a_21 == 14) <|
    chk (zin v2 (mN M a_21)) <|
    chk (mK M v0 == 9) <|
    if mR M a_21 (Int32.toNatClampNeg v2) = mR M v0 7 then
      fX9_freePattern_41 (fX9_freePattern_4 n) n M v0 v1 v2
    else
    fX9_freePattern_41 (fX9_freePattern_4 n) n M v0 v2 v2
set_option maxHeartbeats 4000000 in
theorem tX9_freePattern_4 : ∀ (n : Nat) (M : zM) (v0 : Nat) (v1 : Int32) (v2 : Int32) (r : Nat) (M' : zM), fX9_freePattern_4 n M v0 v1 v2 = some (r, M') → zW uX9_freePattern none (0, 0) M 4 [(0, .ref v0), (1, .int v1), (2, .int v2)] [] (zE (oA r) M') := by
  intro n
  induction n with
  | zero => intro M v0 v1 v2 r M' h; cases h
  | succ n ih =>
    intro M v0 v1 v2 r M' h
    rw [fX9_freePattern_4] at h
    refine zr_iload_n (q := 5) dX9_freePattern_4 rfl rfl 2 rfl ?_
    refine zr_aload_n (q := 6) dX9_freePattern_5 rfl rfl 0 rfl ?_
    obtain ⟨c_1, h⟩ := chk_some h
    obtain ⟨a_2, e_3, h⟩ := bnd_some h
    refine zr_getr (q := 9) (ci := 9) (k := 5) dX9_freePattern_6 rfl (eq_of_beq c_1) rfl (by decide) rfl zbX9 (by decide) zb_297 rfl e_3 ?_
    obtain ⟨c_4, h⟩ := chk_some h
    refine zr_alen (q := 10) dX9_freePattern_9 rfl (eq_of_beq c_4) rfl ?_
    refine zr_icmp_ge (q := 13) (tgt := 47) dX9_freePattern_10 rfl (by decide) (fun c_5 => ?_) (fun c_5 => ?_)
    · replace h := ite_t c_5 h
      refine zr_aload_n (q := 48) dX9_freePattern_47 rfl rfl 0 rfl ?_
      obtain ⟨c_6, h⟩ := chk_some h
      obtain ⟨a_7, e_8, h⟩ := bnd_some h
      refine zr_getr (q := 51) (ci := 9) (k := 5) dX9_freePattern_48 rfl (eq_of_beq c_6) rfl (by decide) rfl zbX9 (by decide) zb_297 rfl e_8 ?_
      refine zr_iload_n (q := 52) dX9_freePattern_51 rfl rfl 1 rfl ?_
      obtain ⟨c_9, h⟩ := chk_some h
      obtain ⟨c_10, h⟩ := chk_some h
      obtain ⟨a_11, e_12, h⟩ := bnd_some h
      refine zr_aald (q := 53) dX9_freePattern_52 rfl (eq_of_beq c_9) (Or.inl rfl) c_10 e_12 ?_
      cases h
      exact zr_areturn dX9_freePattern_53 rfl ⟨by decide, by decide⟩ ⟨rfl, rfl⟩
    · replace h := ite_f c_5 h
      refine zr_aload_n (q := 14) dX9_freePattern_13 rfl rfl 0 rfl ?_
      obtain ⟨c_13, h⟩ := chk_some h
      obtain ⟨a_14, e_15, h⟩ := bnd_some h
      refine zr_getr (q := 17) (ci := 9) (k := 5) dX9_freePattern_14 rfl (eq_of_beq c_13) rfl (by decide) rfl zbX9 (by decide) zb_297 rfl e_15 ?_
      refine zr_iload_n (q := 18) dX9_freePattern_17 rfl rfl 2 rfl ?_
      obtain ⟨c_16, h⟩ := chk_some h
      obtain ⟨c_17, h⟩ := chk_some h
      refine zr_aaldN (q := 19) dX9_freePattern_18 rfl (eq_of_beq c_16) (Or.inl rfl) c_17 ?_
      refine zr_aload_n (q := 20) dX9_freePattern_19 rfl rfl 0 rfl ?_
      obtain ⟨c_18, h⟩ := chk_some h
      refine zr_get (q := 23) (ci := 9) (k := 6) dX9_freePattern_20 rfl (eq_of_beq c_18) rfl (by decide) rfl zbX9 (by decide) zb_298 rfl ?_
      refine zr_acmp_eq (q := 26) (tgt := 41) dX9_freePattern_23 rfl (by decide) (fun c_19 => ?_) (fun c_19 => ?_)
      · replace h := ite_t c_19 h
        exact zr_pick [0, 1, 2] rfl (tX9_freePattern_41 (fX9_freePattern_4 n) ih n M v0 v1 v2 _ _ h)
      · replace h := ite_f c_19 h
        refine zr_aload_n (q := 27) dX9_freePattern_26 rfl rfl 0 rfl ?_
        obtain ⟨c_20, h⟩ := chk_some h
        obtain ⟨a_21, e_22, h⟩ := bnd_some h
        refine zr_getr (q := 30) (ci := 9) (k := 5) dX9_freePattern_27 rfl (eq_of_beq c_20) rfl (by decide) rfl zbX9 (by decide) zb_297 rfl e_22 ?_
        refine zr_iload_n (q := 31) dX9_freePattern_30 rfl rfl 2 rfl ?_
        obtain ⟨c_23, h⟩ := chk_some h
        obtain ⟨c_24, h⟩ := chk_some h
        refine zr_aaldN (q := 32) dX9_freePattern_31 rfl (eq_of_beq c_23) (Or.inl rfl) c_24 ?_
        refine zr_aload_n (q := 33) dX9_freePattern_32 rfl rfl 0 rfl ?_
        obtain ⟨c_25, h⟩ := chk_some h
        refine zr_get (q := 36) (ci := 9) (k := 7) dX9_freePattern_33 rfl (eq_of_beq c_25) rfl (by decide) rfl zbX9 (by decide) zb_299 rfl ?_
        refine zr_acmp_eq (q := 39) (tgt := 41) dX9_freePattern_36 rfl (by decide) (fun c_26 => ?_) (fun c_26 => ?_)
        · replace h := ite_t c_26 h
          exact zr_pick [0, 1, 2] rfl (tX9_freePattern_41 (fX9_freePattern_4 n) ih n M v0 v1 v2 _ _ h)
        · replace h := ite_f c_26 h
          refine zr_iload_n (q := 40) dX9_freePattern_39 rfl rfl 2 rfl ?_
          refine zr_istore_n (q := 41) (L' := [(1, .int v2), (0, .ref v0), (2, .int v2)]) dX9_freePattern_40 rfl rfl (by decide) rfl ?_
          exact zr_pick [1, 0, 2] rfl (tX9_freePattern_41 (fX9_freePattern_4 n) ih n M v0 v2 v2 _ _ h)
def fX9_freePattern (n : Nat) (M : zM) (v0 : Nat) : Option (Nat × zM) :=
  fX9_freePattern_4 n M v0 (0 : Int32) (0 : Int32)
set_option maxHeartbeats 4000000 in
theorem tX9_freePattern (n : Nat) (M : zM) (v0 : Nat) (r : Nat) (M' : zM) (h : fX9_freePattern n M v0 = some (r, M')) : zMet uX9_freePattern false M [.ref v0] (zE (oA r) M') := by
  refine zMet_of (L := [(0, .ref v0)]) (by decide +kernel) rfl rfl (Nat.le_of_ble_eq_true rfl) ?_
  show zW uX9_freePattern none (0, 0) M 0 [(0, .ref v0)] [] (zE (oA r) M')
  unfold fX9_freePattern at h
  refine zr_iconst (q := 1) (v := 0) dX9_freePattern_0 rfl (by decide) ?_
  refine zr_istore_n (q := 2) (L' := [(1, .int (0 : Int32)), (0, .ref v0)]) dX9_freePattern_1 rfl rfl (by decide) rfl ?_
  refine zr_iconst (q := 3) (v := 0) dX9_freePattern_2 rfl (by decide) ?_
  refine zr_istore_n (q := 4) (L' := [(2, .int (0 : Int32)), (1, .int (0 : Int32)), (0, .ref v0)]) dX9_freePattern_3 rfl rfl (by decide) rfl ?_
  exact zr_pick [2, 1, 0] rfl (tX9_freePattern_4 n M v0 (0 : Int32) (0 : Int32) _ _ h)

def uX9_read : zMu := (yX9_read, cX9_read, 3, (some .int), { frames := 6, cells := 0, slots := 0, locals := 143 }, [])
theorem zd_X9_read : (uY uX9_read).cls ≠ "java/lang/invoke/MethodHandle" ∧ (uY uX9_read).cls ≠ "java/lang/invoke/VarHandle" ∧ (parseMethodDescriptor (uY uX9_read).desc).map (fun d => d.parameters.length) = some 0 := by decide +kernel
def fX9_read (n : Nat) (M : zM) (v0 : Nat) : Option (Int32 × zM) :=
  chk (mK M v0 == 9) <|
  bnd2 (fX9_freePattern n M v0) fun r_1 M_2 =>
  chk (mK M_2 v0 == 9) <|
  bnd (mR M_2 v0 0) fun a_6 =>
  chk (mK M_2 a_6 == 6) <|
  bnd2 (fX6_layOut n M_2 a_6 r_1) fun r_8 M_9 =>
  if r_8 = (0 : Int32) then
    chk (mK M_9 v0 == 9) <|
    app (wR M_9 v0 6 (some r_1)) fun M_14 : zM =>
    chk (mK M_14 v0 == 9) <|
    bnd (mR M_14 v0 1) fun a_17 =>
    chk (mK M_14 a_17 == 8) <|
    bnd2 (fX8_forgetFinds n M_14 a_17) fun r_19 M_20 =>
    some (r_8, M_20)
  else
  some (r_8, M_9)
set_option maxHeartbeats 4000000 in
theorem tX9_read (n : Nat) (M : zM) (v0 : Nat) (r : Int32) (M' : zM) (h : fX9_read n M v0 = some (r, M')) : zMet uX9_read false M [.ref v0] (zE (oI r) M') := by
  refine zMet_of (L := [(0, .ref v0)]) (by decide +kernel) rfl rfl (Nat.le_of_ble_eq_true rfl) ?_
  show zW uX9_read none (0, 0) M 0 [(0, .ref v0)] [] (zE (oI r) M')
  unfold fX9_read at h
  refine zr_aload_n (q := 1) dX9_read_0 rfl rfl 0 rfl ?_
  obtain ⟨c_4, h⟩ := chk_some h
  obtain ⟨r_1, M_2, hc_3, h⟩ := bnd2_some h
  refine zr_callVA (μ' := uX9_freePattern) (q := 4) (n := 0) (ci := 9) (As := []) (u' := (0, 0)) (tX9_freePattern n M v0 _ _ hc_3) dX9_read_1 rfl rfl ⟨zb_300, zb_301, zb_302, zb_303, zb_25⟩ zd_X9_freePattern ⟨by decide, by decide⟩ ⟨by decide, by decide⟩ (eq_of_beq c_4) (by decide) rfl rfl rfl (Nat.le_of_ble_eq_true rfl) rfl rfl ?_
  refine zr_astore_n (q := 5) (L' := [(1, .ref r_1), (0, .ref v0)]) dX9_read_4 rfl rfl (by decide) rfl ?_
  refine zr_aload_n (q := 6) dX9_read_5 rfl rfl 1 rfl ?_
  obtain ⟨c_5, h⟩ := chk_some h
  obtain ⟨a_6, e_7, h⟩ := bnd_some h
  refine zr_getr (q := 9) (ci := 9) (k := 0) dX9_read_6 rfl (eq_of_beq c_5) rfl (by decide) rfl zbX9 (by decide) zb_291 rfl e_7 ?_
  refine zr_aload_n (q := 10) dX9_read_9 rfl rfl 0 rfl ?_
  obtain ⟨c_11, h⟩ := chk_some h
  obtain ⟨r_8, M_9, hc_10, h⟩ := bnd2_some h
  refine zr_callVI (μ' := uX6_layOut) (q := 13) (n := 1) (ci := 6) (As := [.ref r_1]) (u' := (0, 0)) (tX6_layOut n M_2 a_6 r_1 _ _ hc_10) dX9_read_10 rfl rfl ⟨zb_304, zb_305, zb_306, zb_307, zb_193⟩ zd_X6_layOut ⟨by decide, by decide⟩ ⟨by decide, by decide⟩ (eq_of_beq c_11) (by decide) rfl rfl rfl (Nat.le_of_ble_eq_true rfl) rfl rfl ?_
  refine zr_istore_n (q := 14) (L' := [(2, .int r_8), (1, .ref r_1), (0, .ref v0)]) dX9_read_13 rfl rfl (by decide) rfl ?_
  refine zr_iload_n (q := 15) dX9_read_14 rfl rfl 0 rfl ?_
  refine zr_if_ne (q := 18) (tgt := 30) dX9_read_15 rfl (by decide) (fun c_12 => ?_) (fun c_12 => ?_)
  · replace h := ite_f c_12 h
    refine zr_iload_n (q := 31) dX9_read_30 rfl rfl 0 rfl ?_
    cases h
    exact zr_ireturn dX9_read_31 rfl ⟨by decide, by decide⟩ ⟨rfl, rfl⟩
  · replace h := ite_t c_12 h
    refine zr_aload_n (q := 19) dX9_read_18 rfl rfl 2 rfl ?_
    refine zr_aload_n (q := 20) dX9_read_19 rfl rfl 1 rfl ?_
    obtain ⟨c_13, h⟩ := chk_some h
    obtain ⟨M_14, e_15, h⟩ := app_some h
    refine zr_putR (q := 23) (ci := 9) (k := 6) dX9_read_20 rfl (eq_of_beq c_13) rfl (by decide) rfl zbX9 tyX9_ok nmX9 (by decide) zb_298 (Or.inl rfl) rfl ?_
    refine zr_mem e_15 ?_
    refine zr_aload_n (q := 24) dX9_read_23 rfl rfl 2 rfl ?_
    obtain ⟨c_16, h⟩ := chk_some h
    obtain ⟨a_17, e_18, h⟩ := bnd_some h
    refine zr_getr (q := 27) (ci := 9) (k := 1) dX9_read_24 rfl (eq_of_beq c_16) rfl (by decide) rfl zbX9 (by decide) zb_308 rfl e_18 ?_
    obtain ⟨c_22, h⟩ := chk_some h
    obtain ⟨r_19, M_20, hc_21, h⟩ := bnd2_some h
    refine zr_callVV (μ' := uX8_forgetFinds) (q := 30) (n := 0) (ci := 8) (As := []) (u' := (0, 0)) (tX8_forgetFinds n M_14 a_17 _ _ hc_21) dX9_read_27 rfl rfl ⟨zb_309, zb_310, zb_311, zb_312, zb_290⟩ zd_X8_forgetFinds ⟨by decide, by decide⟩ ⟨by decide, by decide⟩ (eq_of_beq c_22) (by decide) rfl rfl rfl (Nat.le_of_ble_eq_true rfl) rfl rfl ?_
    refine zr_iload_n (q := 31) dX9_read_30 rfl rfl 0 rfl ?_
    cases h
    exact zr_ireturn dX9_read_31 rfl ⟨by decide, by decide⟩ ⟨rfl, rfl⟩

def uX9_place : zMu := (yX9_place, cX9_place, 1, (some .int), { frames := 0, cells := 0, slots := 0, locals := 0 }, [])
theorem zd_X9_place : (uY uX9_place).cls ≠ "java/lang/invoke/MethodHandle" ∧ (uY uX9_place).cls ≠ "java/lang/invoke/VarHandle" ∧ (parseMethodDescriptor (uY uX9_place).desc).map (fun d => d.parameters.length) = some 0 := by decide +kernel
def fX9_place (n : Nat) (M : zM) (v0 : Nat) : Option (Int32 × zM) :=
  chk (mK M v0 == 9) <|
  bnd (mR M v0 0) fun a_2 =>
  chk (mK M a_2 == 6) <|
  some ((mI M a_2 1), M)
set_option maxHeartbeats 4000000 in
theorem tX9_place (n : Nat) (M : zM) (v0 : Nat) (r : Int32) (M' : zM) (h : fX9_place n M v0 = some (r, M')) : zMet uX9_place false M [.ref v0] (zE (oI r) M') := by
  refine zMet_of (L := [(0, .ref v0)]) (by decide +kernel) rfl rfl (Nat.le_of_ble_eq_true rfl) ?_
  show zW uX9_place none (0, 0) M 0 [(0, .ref v0)] [] (zE (oI r) M')
  unfold fX9_place at h
  refine zr_aload_n (q := 1) dX9_place_0 rfl rfl 0 rfl ?_
  obtain ⟨c_1, h⟩ := chk_some h
  obtain ⟨a_2, e_3, h⟩ := bnd_some h
  refine zr_getr (q := 4) (ci := 9) (k := 0) dX9_place_1 rfl (eq_of_beq c_1) rfl (by decide) rfl zbX9 (by decide) zb_291 rfl e_3 ?_
  obtain ⟨c_4, h⟩ := chk_some h
  refine zr_get (q := 7) (ci := 6) (k := 1) dX9_place_4 rfl (eq_of_beq c_4) rfl (by decide) rfl zbX6 (by decide) zb_313 rfl ?_
  cases h
  exact zr_ireturn dX9_place_7 rfl ⟨by decide, by decide⟩ ⟨rfl, rfl⟩

def uX9_thePattern : zMu := (yX9_thePattern, cX9_thePattern, 1, (some (.object "PatternHouse$Pattern")), { frames := 6, cells := 1, slots := 6, locals := 81 }, [])
theorem zd_X9_thePattern : (uY uX9_thePattern).cls ≠ "java/lang/invoke/MethodHandle" ∧ (uY uX9_thePattern).cls ≠ "java/lang/invoke/VarHandle" ∧ (parseMethodDescriptor (uY uX9_thePattern).desc).map (fun d => d.parameters.length) = some 0 := by decide +kernel
def fX9_thePattern (n : Nat) (M : zM) (v0 : Nat) : Option ((Nat ⊕ String) × zM) :=
  chk (mK M v0 == 9) <|
  if (mR M v0 6).isSome = true then
    chk (mK M v0 == 9) <|
    bnd (mR M v0 6) fun a_5 =>
    some ((.inl a_5), M)
  else
  some (.inr "java/lang/IllegalStateException", M)
set_option maxHeartbeats 4000000 in
theorem tX9_thePattern (n : Nat) (M : zM) (v0 : Nat) (r : (Nat ⊕ String)) (M' : zM) (h : fX9_thePattern n M v0 = some (r, M')) : zMet uX9_thePattern false M [.ref v0] (zE (tA r) M') := by
  refine zMet_of (L := [(0, .ref v0)]) (by decide +kernel) rfl rfl (Nat.le_of_ble_eq_true rfl) ?_
  show zW uX9_thePattern none (0, 0) M 0 [(0, .ref v0)] [] (zE (tA r) M')
  unfold fX9_thePattern at h
  refine zr_aload_n (q := 1) dX9_thePattern_0 rfl rfl 0 rfl ?_
  obtain ⟨c_1, h⟩ := chk_some h
  refine zr_get (q := 4) (ci := 9) (k := 6) dX9_thePattern_1 rfl (eq_of_beq c_1) rfl (by decide) rfl zbX9 (by decide) zb_298 rfl ?_
  refine zr_ifnonnull (q := 7) (tgt := 15) dX9_thePattern_4 rfl (by decide) (fun b_2 c_3 => ?_) (fun c_3 => ?_)
  · replace h := ite_t (by rw [c_3]; rfl) h
    refine zr_aload_n (q := 16) dX9_thePattern_15 rfl rfl 0 rfl ?_
    obtain ⟨c_4, h⟩ := chk_some h
    obtain ⟨a_5, e_6, h⟩ := bnd_some h
    refine zr_getr (q := 19) (ci := 9) (k := 6) dX9_thePattern_16 rfl (eq_of_beq c_4) rfl (by decide) rfl zbX9 (by decide) zb_298 rfl e_6 ?_
    cases h
    exact zr_areturn dX9_thePattern_19 rfl ⟨by decide, by decide⟩ ⟨rfl, rfl⟩
  · replace h := ite_f (by rw [c_3]; decide) h
    cases h
    exact zr_throw0 (ik := 58) (ic := 60) zth_ISE dX9_thePattern_7 dX9_thePattern_10 dX9_thePattern_11 dX9_thePattern_14 rfl (by decide) (Nat.le_of_ble_eq_true rfl) ⟨by decide, by decide⟩ ⟨rfl, rfl⟩

def uX9_positions : zMu := (yX9_positions, cX9_positions, 1, (some .int), { frames := 7, cells := 1, slots := 6, locals := 101 }, [])
theorem zd_X9_positions : (uY uX9_positions).cls ≠ "java/lang/invoke/MethodHandle" ∧ (uY uX9_positions).cls ≠ "java/lang/invoke/VarHandle" ∧ (parseMethodDescriptor (uY uX9_positions).desc).map (fun d => d.parameters.length) = some 0 := by decide +kernel
def fX9_positions (n : Nat) (M : zM) (v0 : Nat) : Option ((Int32 ⊕ String) × zM) :=
  chk (mK M v0 == 9) <|
  bndT (fX9_thePattern n M v0) fun r_1 M_2 =>
  chk (mK M_2 r_1 == 4) <|
  some ((.inl (mI M_2 r_1 0)), M_2)
set_option maxHeartbeats 4000000 in
theorem tX9_positions (n : Nat) (M : zM) (v0 : Nat) (r : (Int32 ⊕ String)) (M' : zM) (h : fX9_positions n M v0 = some (r, M')) : zMet uX9_positions false M [.ref v0] (zE (tI r) M') := by
  refine zMet_of (L := [(0, .ref v0)]) (by decide +kernel) rfl rfl (Nat.le_of_ble_eq_true rfl) ?_
  show zW uX9_positions none (0, 0) M 0 [(0, .ref v0)] [] (zE (tI r) M')
  unfold fX9_positions at h
  refine zr_aload_n (q := 1) dX9_positions_0 rfl rfl 0 rfl ?_
  obtain ⟨c_4, h⟩ := chk_some h
  rcases bndT_some h with ⟨r_1, M_2, hc_3, h⟩ | ⟨E_5, M_2, hc_3, h⟩
  · refine zr_callVA (μ' := uX9_thePattern) (q := 4) (n := 0) (ci := 9) (As := []) (u' := (1, 6)) (tX9_thePattern n M v0 _ _ hc_3) dX9_positions_1 rfl rfl ⟨zb_314, zb_315, zb_316, zb_317, zb_25⟩ zd_X9_thePattern ⟨by decide, by decide⟩ ⟨by decide, by decide⟩ (eq_of_beq c_4) (by decide) rfl rfl rfl (Nat.le_of_ble_eq_true rfl) rfl rfl ?_
    obtain ⟨c_6, h⟩ := chk_some h
    refine zr_get (q := 7) (ci := 4) (k := 0) dX9_positions_4 rfl (eq_of_beq c_6) rfl (by decide) rfl zbX4 (by decide) zb_318 rfl ?_
    cases h
    exact zr_ireturn dX9_positions_7 rfl ⟨by decide, by decide⟩ ⟨rfl, rfl⟩
  · cases h
    exact zr_callVX (μ' := uX9_thePattern) (q := 4) (n := 0) (ci := 9) (As := []) (u' := (1, 6)) (tX9_thePattern n M v0 _ _ hc_3) dX9_positions_1 rfl rfl ⟨zb_314, zb_315, zb_316, zb_317, zb_25⟩ zd_X9_thePattern ⟨by decide, by decide⟩ ⟨by decide, by decide⟩ (eq_of_beq c_4) (by decide) rfl rfl rfl (Nat.le_of_ble_eq_true rfl) rfl rfl ⟨rfl, rfl⟩

def uX9_empty : zMu := (yX9_empty, cX9_empty, 1, (some .boolean), { frames := 7, cells := 1, slots := 6, locals := 101 }, [])
theorem zd_X9_empty : (uY uX9_empty).cls ≠ "java/lang/invoke/MethodHandle" ∧ (uY uX9_empty).cls ≠ "java/lang/invoke/VarHandle" ∧ (parseMethodDescriptor (uY uX9_empty).desc).map (fun d => d.parameters.length) = some 0 := by decide +kernel
def fX9_empty (n : Nat) (M : zM) (v0 : Nat) : Option ((Int32 ⊕ String) × zM) :=
  chk (mK M v0 == 9) <|
  bndT (fX9_thePattern n M v0) fun r_1 M_2 =>
  chk (mK M_2 r_1 == 4) <|
  chk (z01 (mI M_2 r_1 1)) <|
  some ((.inl (mI M_2 r_1 1)), M_2)
set_option maxHeartbeats 4000000 in
theorem tX9_empty (n : Nat) (M : zM) (v0 : Nat) (r : (Int32 ⊕ String)) (M' : zM) (h : fX9_empty n M v0 = some (r, M')) : zMet uX9_empty false M [.ref v0] (zE (tI r) M') := by
  refine zMet_of (L := [(0, .ref v0)]) (by decide +kernel) rfl rfl (Nat.le_of_ble_eq_true rfl) ?_
  show zW uX9_empty none (0, 0) M 0 [(0, .ref v0)] [] (zE (tI r) M')
  unfold fX9_empty at h
  refine zr_aload_n (q := 1) dX9_empty_0 rfl rfl 0 rfl ?_
  obtain ⟨c_4, h⟩ := chk_some h
  rcases bndT_some h with ⟨r_1, M_2, hc_3, h⟩ | ⟨E_5, M_2, hc_3, h⟩
  · refine zr_callVA (μ' := uX9_thePattern) (q := 4) (n := 0) (ci := 9) (As := []) (u' := (1, 6)) (tX9_thePattern n M v0 _ _ hc_3) dX9_empty_1 rfl rfl ⟨zb_314, zb_315, zb_316, zb_317, zb_25⟩ zd_X9_thePattern ⟨by decide, by decide⟩ ⟨by decide, by decide⟩ (eq_of_beq c_4) (by decide) rfl rfl rfl (Nat.le_of_ble_eq_true rfl) rfl rfl ?_
    obtain ⟨c_6, h⟩ := chk_some h
    refine zr_get (q := 7) (ci := 4) (k := 1) dX9_empty_4 rfl (eq_of_beq c_6) rfl (by decide) rfl zbX4 (by decide) zb_319 rfl ?_
    obtain ⟨c_7, h⟩ := chk_some h
    cases h
    exact zr_zreturn dX9_empty_7 rfl (z01_or c_7) ⟨by decide, by decide⟩ ⟨rfl, rfl⟩
  · cases h
    exact zr_callVX (μ' := uX9_thePattern) (q := 4) (n := 0) (ci := 9) (As := []) (u' := (1, 6)) (tX9_thePattern n M v0 _ _ hc_3) dX9_empty_1 rfl rfl ⟨zb_314, zb_315, zb_316, zb_317, zb_25⟩ zd_X9_thePattern ⟨by decide, by decide⟩ ⟨by decide, by decide⟩ (eq_of_beq c_4) (by decide) rfl rfl rfl (Nat.le_of_ble_eq_true rfl) rfl rfl ⟨rfl, rfl⟩

def uX9_is : zMu := (yX9_is, cX9_is, 4, (some .boolean), { frames := 7, cells := 2, slots := 12, locals := 101 }, [])
theorem zd_X9_is : (uY uX9_is).cls ≠ "java/lang/invoke/MethodHandle" ∧ (uY uX9_is).cls ≠ "java/lang/invoke/VarHandle" ∧ (parseMethodDescriptor (uY uX9_is).desc).map (fun d => d.parameters.length) = some 2 := by decide +kernel
def fX9_is_57 (n : Nat) (M : zM) (v1 : Int32) (s0 : Int64) : Option ((Int32 ⊕ String) × zM) :=
  bnd2 (fX9_holds n M s0 v1) fun r_1 M_2 =>
  chk (z01 r_1) <|
  some ((.inl r_1), M_2)
set_option maxHeartbeats 4000000 in
theorem tX9_is_57 (n : Nat) (M : zM) (v1 : Int32) (s0 : Int64) (r : (Int32 ⊕ String)) (M' : zM) (h : fX9_is_57 n M v1 s0 = some (r, M')) : zW uX9_is none (1, 6) M 57 [(1, .int v1)] [.long s0] (zE (tI r) M') := by
  unfold fX9_is_57 at h
  refine zr_iload_n (q := 58) dX9_is_57 rfl rfl 0 rfl ?_
  obtain ⟨r_1, M_2, hc_3, h⟩ := bnd2_some h
  refine zr_callSI (μ' := uX9_holds) (q := 61) (n := 2) (As := [.long s0, .int v1]) (u' := (1, 6)) (tX9_holds n M s0 v1 _ _ hc_3) dX9_is_58 rfl rfl ⟨zb_23, zb_320, zb_24, zb_25⟩ zd_X9_holds ⟨by decide, by decide⟩ ⟨by decide, by decide⟩ rfl rfl (Nat.le_of_ble_eq_true rfl) rfl ?_
  obtain ⟨c_4, h⟩ := chk_some h
  cases h
  exact zr_zreturn dX9_is_61 rfl (z01_or c_4) ⟨by decide, by decide⟩ ⟨rfl, rfl⟩
def fX9_is_42 (n : Nat) (M : zM) (v1 : Int32) (v2 : Int32) (v3 : Nat) : Option ((Int32 ⊕ String) × zM) :=
  if v2 = (0 : Int32) then
    chk (mK M v3 == 4) <|
    fX9_is_57 n M v1 (mL M v3 2)
  else
  chk (mK M v3 == 4) <|
  fX9_is_57 n M v1 (mL M v3 3)
set_option maxHeartbeats 4000000 in
theorem tX9_is_42 (n : Nat) (M : zM) (v1 : Int32) (v2 : Int32) (v3 : Nat) (r : (Int32 ⊕ String)) (M' : zM) (h : fX9_is_42 n M v1 v2 v3 = some (r, M')) : zW uX9_is none (1, 6) M 42 [(1, .int v1), (2, .int v2), (3, .ref v3)] [] (zE (tI r) M') := by
  unfold fX9_is_42 at h
  refine zr_iload_n (q := 43) dX9_is_42 rfl rfl 1 rfl ?_
  refine zr_if_ne (q := 46) (tgt := 53) dX9_is_43 rfl (by decide) (fun c_1 => ?_) (fun c_1 => ?_)
  · replace h := ite_f c_1 h
    refine zr_aload_n (q := 54) dX9_is_53 rfl rfl 2 rfl ?_
    obtain ⟨c_2, h⟩ := chk_some h
    refine zr_get (q := 57) (ci := 4) (k := 3) dX9_is_54 rfl (eq_of_beq c_2) rfl (by decide) rfl zbX4 (by decide) zb_321 rfl ?_
    exact zr_pick [0] rfl (tX9_is_57 n M v1 (mL M v3 3) _ _ h)
  · replace h := ite_t c_1 h
    refine zr_aload_n (q := 47) dX9_is_46 rfl rfl 2 rfl ?_
    obtain ⟨c_3, h⟩ := chk_some h
    refine zr_get (q := 50) (ci := 4) (k := 2) dX9_is_47 rfl (eq_of_beq c_3) rfl (by decide) rfl zbX4 (by decide) zb_322 rfl ?_
    refine zr_goto (q := 57) dX9_is_50 (by decide) ?_
    exact zr_pick [0] rfl (tX9_is_57 n M v1 (mL M v3 2) _ _ h)
def fX9_is (n : Nat) (M : zM) (v0 : Nat) (v1 : Int32) (v2 : Int32) : Option ((Int32 ⊕ String) × zM) :=
  chk (mK M v0 == 9) <|
  bndT (fX9_thePattern n M v0) fun r_1 M_2 =>
  if v1 < (0 : Int32) then
    some (.inr "java/lang/IndexOutOfBoundsException", M_2)
  else
  chk (mK M_2 r_1 == 4) <|
  if v1 < (mI M_2 r_1 0) then
    if v2 = (0 : Int32) then
      fX9_is_42 n M_2 v1 v2 r_1
    else
    if v2 = (1 : Int32) then
      fX9_is_42 n M_2 v1 v2 r_1
    else
    some (.inr "java/lang/IllegalArgumentException", M_2)
  else
  some (.inr "java/lang/IndexOutOfBoundsException", M_2)
set_option maxHeartbeats 4000000 in
theorem tX9_is (n : Nat) (M : zM) (v0 : Nat) (v1 : Int32) (v2 : Int32) (r : (Int32 ⊕ String)) (M' : zM) (h : fX9_is n M v0 v1 v2 = some (r, M')) : zMet uX9_is false M [.ref v0, .int v1, .int v2] (zE (tI r) M') := by
  refine zMet_of (L := [(0, .ref v0), (1, .int v1), (2, .int v2)]) (by decide +kernel) rfl rfl (Nat.le_of_ble_eq_true rfl) ?_
  show zW uX9_is none (0, 0) M 0 [(0, .ref v0), (1, .int v1), (2, .int v2)] [] (zE (tI r) M')
  unfold fX9_is at h
  refine zr_aload_n (q := 1) dX9_is_0 rfl rfl 0 rfl ?_
  obtain ⟨c_4, h⟩ := chk_some h
  rcases bndT_some h with ⟨r_1, M_2, hc_3, h⟩ | ⟨E_5, M_2, hc_3, h⟩
  · refine zr_callVA (μ' := uX9_thePattern) (q := 4) (n := 0) (ci := 9) (As := []) (u' := (1, 6)) (tX9_thePattern n M v0 _ _ hc_3) dX9_is_1 rfl rfl ⟨zb_314, zb_315, zb_316, zb_317, zb_25⟩ zd_X9_thePattern ⟨by decide, by decide⟩ ⟨by decide, by decide⟩ (eq_of_beq c_4) (by decide) rfl rfl rfl (Nat.le_of_ble_eq_true rfl) rfl rfl ?_
    refine zr_astore_n (q := 5) (L' := [(3, .ref r_1), (0, .ref v0), (1, .int v1), (2, .int v2)]) dX9_is_4 rfl rfl (by decide) rfl ?_
    refine zr_iload_n (q := 6) dX9_is_5 rfl rfl 2 rfl ?_
    refine zr_if_lt (q := 9) (tgt := 17) dX9_is_6 rfl (by decide) (fun c_6 => ?_) (fun c_6 => ?_)
    · replace h := ite_t c_6 h
      cases h
      exact zr_throw0 (ik := 93) (ic := 95) zth_IOB dX9_is_17 dX9_is_20 dX9_is_21 dX9_is_24 rfl (by decide) (Nat.le_of_ble_eq_true rfl) ⟨by decide, by decide⟩ ⟨rfl, rfl⟩
    · replace h := ite_f c_6 h
      refine zr_iload_n (q := 10) dX9_is_9 rfl rfl 2 rfl ?_
      refine zr_aload_n (q := 11) dX9_is_10 rfl rfl 0 rfl ?_
      obtain ⟨c_7, h⟩ := chk_some h
      refine zr_get (q := 14) (ci := 4) (k := 0) dX9_is_11 rfl (eq_of_beq c_7) rfl (by decide) rfl zbX4 (by decide) zb_318 rfl ?_
      refine zr_icmp_lt (q := 17) (tgt := 25) dX9_is_14 rfl (by decide) (fun c_8 => ?_) (fun c_8 => ?_)
      · replace h := ite_t c_8 h
        refine zr_iload_n (q := 26) dX9_is_25 rfl rfl 3 rfl ?_
        refine zr_if_eq (q := 29) (tgt := 42) dX9_is_26 rfl (by decide) (fun c_9 => ?_) (fun c_9 => ?_)
        · replace h := ite_t c_9 h
          exact zr_pick [2, 3, 0] rfl (tX9_is_42 n M_2 v1 v2 r_1 _ _ h)
        · replace h := ite_f c_9 h
          refine zr_iload_n (q := 30) dX9_is_29 rfl rfl 3 rfl ?_
          refine zr_iconst (q := 31) (v := 1) dX9_is_30 rfl (by decide) ?_
          refine zr_icmp_eq (q := 34) (tgt := 42) dX9_is_31 rfl (by decide) (fun c_10 => ?_) (fun c_10 => ?_)
          · replace h := ite_t c_10 h
            exact zr_pick [2, 3, 0] rfl (tX9_is_42 n M_2 v1 v2 r_1 _ _ h)
          · replace h := ite_f c_10 h
            cases h
            exact zr_throw0 (ik := 51) (ic := 53) zth_IAE dX9_is_34 dX9_is_37 dX9_is_38 dX9_is_41 rfl (by decide) (Nat.le_of_ble_eq_true rfl) ⟨by decide, by decide⟩ ⟨rfl, rfl⟩
      · replace h := ite_f c_8 h
        cases h
        exact zr_throw0 (ik := 93) (ic := 95) zth_IOB dX9_is_17 dX9_is_20 dX9_is_21 dX9_is_24 rfl (by decide) (Nat.le_of_ble_eq_true rfl) ⟨by decide, by decide⟩ ⟨rfl, rfl⟩
  · cases h
    exact zr_callVX (μ' := uX9_thePattern) (q := 4) (n := 0) (ci := 9) (As := []) (u' := (1, 6)) (tX9_thePattern n M v0 _ _ hc_3) dX9_is_1 rfl rfl ⟨zb_314, zb_315, zb_316, zb_317, zb_25⟩ zd_X9_thePattern ⟨by decide, by decide⟩ ⟨by decide, by decide⟩ (eq_of_beq c_4) (by decide) rfl rfl rfl (Nat.le_of_ble_eq_true rfl) rfl rfl ⟨rfl, rfl⟩

def uX9_follows : zMu := (yX9_follows, cX9_follows, 4, (some .boolean), { frames := 7, cells := 2, slots := 12, locals := 101 }, [])
theorem zd_X9_follows : (uY uX9_follows).cls ≠ "java/lang/invoke/MethodHandle" ∧ (uY uX9_follows).cls ≠ "java/lang/invoke/VarHandle" ∧ (parseMethodDescriptor (uY uX9_follows).desc).map (fun d => d.parameters.length) = some 2 := by decide +kernel
def fX9_follows (n : Nat) (M : zM) (v0 : Nat) (v1 : Int32) (v2 : Int32) : Option ((Int32 ⊕ String) × zM) :=
  chk (mK M v0 == 9) <|
  bndT (fX9_thePattern n M v0) fun r_1 M_2 =>
  if v1 < (0 : Int32) then
    some (.inr "java/lang/IndexOutOfBoundsException", M_2)
  else
  chk (mK M_2 r_1 == 4) <|
  if (mI M_2 r_1 0) ≤ v1 then
    some (.inr "java/lang/IndexOutOfBoundsException", M_2)
  else
  if v2 < (0 : Int32) then
    some (.inr "java/lang/IndexOutOfBoundsException", M_2)
  else
  chk (mK M_2 r_1 == 4) <|
  if v2 < (mI M_2 r_1 0) then
    chk (mK M_2 r_1 == 4) <|
    bnd (mR M_2 r_1 4) fun a_13 =>
    chk (mK M_2 a_13 == 12) <|
    chk (zin v1 (mN M_2 a_13)) <|
    bnd2 (fX9_holds n M_2 (mL M_2 a_13 (Int32.toNatClampNeg v1)) v2) fun r_17 M_18 =>
    chk (z01 r_17) <|
    some ((.inl r_17), M_18)
  else
  some (.inr "java/lang/IndexOutOfBoundsException", M_2)
set_option maxHeartbeats 4000000 in
theorem tX9_follows (n : Nat) (M : zM) (v0 : Nat) (v1 : Int32) (v2 : Int32) (r : (Int32 ⊕ String)) (M' : zM) (h : fX9_follows n M v0 v1 v2 = some (r, M')) : zMet uX9_follows false M [.ref v0, .int v1, .int v2] (zE (tI r) M') := by
  refine zMet_of (L := [(0, .ref v0), (1, .int v1), (2, .int v2)]) (by decide +kernel) rfl rfl (Nat.le_of_ble_eq_true rfl) ?_
  show zW uX9_follows none (0, 0) M 0 [(0, .ref v0), (1, .int v1), (2, .int v2)] [] (zE (tI r) M')
  unfold fX9_follows at h
  refine zr_aload_n (q := 1) dX9_follows_0 rfl rfl 0 rfl ?_
  obtain ⟨c_4, h⟩ := chk_some h
  rcases bndT_some h with ⟨r_1, M_2, hc_3, h⟩ | ⟨E_5, M_2, hc_3, h⟩
  · refine zr_callVA (μ' := uX9_thePattern) (q := 4) (n := 0) (ci := 9) (As := []) (u' := (1, 6)) (tX9_thePattern n M v0 _ _ hc_3) dX9_follows_1 rfl rfl ⟨zb_314, zb_315, zb_316, zb_317, zb_25⟩ zd_X9_thePattern ⟨by decide, by decide⟩ ⟨by decide, by decide⟩ (eq_of_beq c_4) (by decide) rfl rfl rfl (Nat.le_of_ble_eq_true rfl) rfl rfl ?_
    refine zr_astore_n (q := 5) (L' := [(3, .ref r_1), (0, .ref v0), (1, .int v1), (2, .int v2)]) dX9_follows_4 rfl rfl (by decide) rfl ?_
    refine zr_iload_n (q := 6) dX9_follows_5 rfl rfl 2 rfl ?_
    refine zr_if_lt (q := 9) (tgt := 29) dX9_follows_6 rfl (by decide) (fun c_6 => ?_) (fun c_6 => ?_)
    · replace h := ite_t c_6 h
      cases h
      exact zr_throw0 (ik := 93) (ic := 95) zth_IOB dX9_follows_29 dX9_follows_32 dX9_follows_33 dX9_follows_36 rfl (by decide) (Nat.le_of_ble_eq_true rfl) ⟨by decide, by decide⟩ ⟨rfl, rfl⟩
    · replace h := ite_f c_6 h
      refine zr_iload_n (q := 10) dX9_follows_9 rfl rfl 2 rfl ?_
      refine zr_aload_n (q := 11) dX9_follows_10 rfl rfl 0 rfl ?_
      obtain ⟨c_7, h⟩ := chk_some h
      refine zr_get (q := 14) (ci := 4) (k := 0) dX9_follows_11 rfl (eq_of_beq c_7) rfl (by decide) rfl zbX4 (by decide) zb_318 rfl ?_
      refine zr_icmp_ge (q := 17) (tgt := 29) dX9_follows_14 rfl (by decide) (fun c_8 => ?_) (fun c_8 => ?_)
      · replace h := ite_t c_8 h
        cases h
        exact zr_throw0 (ik := 93) (ic := 95) zth_IOB dX9_follows_29 dX9_follows_32 dX9_follows_33 dX9_follows_36 rfl (by decide) (Nat.le_of_ble_eq_true rfl) ⟨by decide, by decide⟩ ⟨rfl, rfl⟩
      · replace h := ite_f c_8 h
        refine zr_iload_n (q := 18) dX9_follows_17 rfl rfl 3 rfl ?_
        refine zr_if_lt (q := 21) (tgt := 29) dX9_follows_18 rfl (by decide) (fun c_9 => ?_) (fun c_9 => ?_)
        · replace h := ite_t c_9 h
          cases h
          exact zr_throw0 (ik := 93) (ic := 95) zth_IOB dX9_follows_29 dX9_follows_32 dX9_follows_33 dX9_follows_36 rfl (by decide) (Nat.le_of_ble_eq_true rfl) ⟨by decide, by decide⟩ ⟨rfl, rfl⟩
        · replace h := ite_f c_9 h
          refine zr_iload_n (q := 22) dX9_follows_21 rfl rfl 3 rfl ?_
          refine zr_aload_n (q := 23) dX9_follows_22 rfl rfl 0 rfl ?_
          obtain ⟨c_10, h⟩ := chk_some h
          refine zr_get (q := 26) (ci := 4) (k := 0) dX9_follows_23 rfl (eq_of_beq c_10) rfl (by decide) rfl zbX4 (by decide) zb_318 rfl ?_
          refine zr_icmp_lt (q := 29) (tgt := 37) dX9_follows_26 rfl (by decide) (fun c_11 => ?_) (fun c_11 => ?_)
          · replace h := ite_t c_11 h
            refine zr_aload_n (q := 38) dX9_follows_37 rfl rfl 0 rfl ?_
            obtain ⟨c_12, h⟩ := chk_some h
            obtain ⟨a_13, e_14, h⟩ := bnd_some h
            refine zr_getr (q := 41) (ci := 4) (k := 4) dX9_follows_38 rfl (eq_of_beq c_12) rfl (by decide) rfl zbX4 (by decide) zb_323 rfl e_14 ?_
            refine zr_iload_n (q := 42) dX9_follows_41 rfl rfl 2 rfl ?_
            obtain ⟨c_15, h⟩ := chk_some h
            obtain ⟨c_16, h⟩ := chk_some h
            refine zr_lald (q := 43) dX9_follows_42 rfl (eq_of_beq c_15) c_16 ?_
            refine zr_iload_n (q := 44) dX9_follows_43 rfl rfl 3 rfl ?_
            obtain ⟨r_17, M_18, hc_19, h⟩ := bnd2_some h
            refine zr_callSI (μ' := uX9_holds) (q := 47) (n := 2) (As := [.long (mL M_2 a_13 (Int32.toNatClampNeg v1)), .int v2]) (u' := (1, 6)) (tX9_holds n M_2 (mL M_2 a_13 (Int32.toNatClampNeg v1)) v2 _ _ hc_19) dX9_follows_44 rfl rfl ⟨zb_23, zb_320, zb_24, zb_25⟩ zd_X9_holds ⟨by decide, by decide⟩ ⟨by decide, by decide⟩ rfl rfl (Nat.le_of_ble_eq_true rfl) rfl ?_
            obtain ⟨c_20, h⟩ := chk_some h
            cases h
            exact zr_zreturn dX9_follows_47 rfl (z01_or c_20) ⟨by decide, by decide⟩ ⟨rfl, rfl⟩
          · replace h := ite_f c_11 h
            cases h
            exact zr_throw0 (ik := 93) (ic := 95) zth_IOB dX9_follows_29 dX9_follows_32 dX9_follows_33 dX9_follows_36 rfl (by decide) (Nat.le_of_ble_eq_true rfl) ⟨by decide, by decide⟩ ⟨rfl, rfl⟩
  · cases h
    exact zr_callVX (μ' := uX9_thePattern) (q := 4) (n := 0) (ci := 9) (As := []) (u' := (1, 6)) (tX9_thePattern n M v0 _ _ hc_3) dX9_follows_1 rfl rfl ⟨zb_314, zb_315, zb_316, zb_317, zb_25⟩ zd_X9_thePattern ⟨by decide, by decide⟩ ⟨by decide, by decide⟩ (eq_of_beq c_4) (by decide) rfl rfl rfl (Nat.le_of_ble_eq_true rfl) rfl rfl ⟨rfl, rfl⟩

def uX9_has : zMu := (yX9_has, cX9_has, 4, (some .boolean), { frames := 7, cells := 2, slots := 12, locals := 101 }, [])
theorem zd_X9_has : (uY uX9_has).cls ≠ "java/lang/invoke/MethodHandle" ∧ (uY uX9_has).cls ≠ "java/lang/invoke/VarHandle" ∧ (parseMethodDescriptor (uY uX9_has).desc).map (fun d => d.parameters.length) = some 2 := by decide +kernel
def fX9_has (n : Nat) (M : zM) (v0 : Nat) (v1 : Int32) (v2 : Int32) : Option ((Int32 ⊕ String) × zM) :=
  chk (mK M v0 == 9) <|
  bndT (fX9_thePattern n M v0) fun r_1 M_2 =>
  if v1 < (0 : Int32) then
    some (.inr "java/lang/IndexOutOfBoundsException", M_2)
  else
  chk (mK M_2 r_1 == 4) <|
  if (mI M_2 r_1 0) ≤ v1 then
    some (.inr "java/lang/IndexOutOfBoundsException", M_2)
  else
  if v2 < (0 : Int32) then
    some (.inr "java/lang/IndexOutOfBoundsException", M_2)
  else
  if v2 < (36 : Int32) then
    chk (mK M_2 r_1 == 4) <|
    bnd (mR M_2 r_1 5) fun a_12 =>
    chk (mK M_2 a_12 == 12) <|
    chk (zin v1 (mN M_2 a_12)) <|
    bnd2 (fX9_holds n M_2 (mL M_2 a_12 (Int32.toNatClampNeg v1)) v2) fun r_16 M_17 =>
    chk (z01 r_16) <|
    some ((.inl r_16), M_17)
  else
  some (.inr "java/lang/IndexOutOfBoundsException", M_2)
set_option maxHeartbeats 4000000 in
theorem tX9_has (n : Nat) (M : zM) (v0 : Nat) (v1 : Int32) (v2 : Int32) (r : (Int32 ⊕ String)) (M' : zM) (h : fX9_has n M v0 v1 v2 = some (r, M')) : zMet uX9_has false M [.ref v0, .int v1, .int v2] (zE (tI r) M') := by
  refine zMet_of (L := [(0, .ref v0), (1, .int v1), (2, .int v2)]) (by decide +kernel) rfl rfl (Nat.le_of_ble_eq_true rfl) ?_
  show zW uX9_has none (0, 0) M 0 [(0, .ref v0), (1, .int v1), (2, .int v2)] [] (zE (tI r) M')
  unfold fX9_has at h
  refine zr_aload_n (q := 1) dX9_has_0 rfl rfl 0 rfl ?_
  obtain ⟨c_4, h⟩ := chk_some h
  rcases bndT_some h with ⟨r_1, M_2, hc_3, h⟩ | ⟨E_5, M_2, hc_3, h⟩
  · refine zr_callVA (μ' := uX9_thePattern) (q := 4) (n := 0) (ci := 9) (As := []) (u' := (1, 6)) (tX9_thePattern n M v0 _ _ hc_3) dX9_has_1 rfl rfl ⟨zb_314, zb_315, zb_316, zb_317, zb_25⟩ zd_X9_thePattern ⟨by decide, by decide⟩ ⟨by decide, by decide⟩ (eq_of_beq c_4) (by decide) rfl rfl rfl (Nat.le_of_ble_eq_true rfl) rfl rfl ?_
    refine zr_astore_n (q := 5) (L' := [(3, .ref r_1), (0, .ref v0), (1, .int v1), (2, .int v2)]) dX9_has_4 rfl rfl (by decide) rfl ?_
    refine zr_iload_n (q := 6) dX9_has_5 rfl rfl 2 rfl ?_
    refine zr_if_lt (q := 9) (tgt := 27) dX9_has_6 rfl (by decide) (fun c_6 => ?_) (fun c_6 => ?_)
    · replace h := ite_t c_6 h
      cases h
      exact zr_throw0 (ik := 93) (ic := 95) zth_IOB dX9_has_27 dX9_has_30 dX9_has_31 dX9_has_34 rfl (by decide) (Nat.le_of_ble_eq_true rfl) ⟨by decide, by decide⟩ ⟨rfl, rfl⟩
    · replace h := ite_f c_6 h
      refine zr_iload_n (q := 10) dX9_has_9 rfl rfl 2 rfl ?_
      refine zr_aload_n (q := 11) dX9_has_10 rfl rfl 0 rfl ?_
      obtain ⟨c_7, h⟩ := chk_some h
      refine zr_get (q := 14) (ci := 4) (k := 0) dX9_has_11 rfl (eq_of_beq c_7) rfl (by decide) rfl zbX4 (by decide) zb_318 rfl ?_
      refine zr_icmp_ge (q := 17) (tgt := 27) dX9_has_14 rfl (by decide) (fun c_8 => ?_) (fun c_8 => ?_)
      · replace h := ite_t c_8 h
        cases h
        exact zr_throw0 (ik := 93) (ic := 95) zth_IOB dX9_has_27 dX9_has_30 dX9_has_31 dX9_has_34 rfl (by decide) (Nat.le_of_ble_eq_true rfl) ⟨by decide, by decide⟩ ⟨rfl, rfl⟩
      · replace h := ite_f c_8 h
        refine zr_iload_n (q := 18) dX9_has_17 rfl rfl 3 rfl ?_
        refine zr_if_lt (q := 21) (tgt := 27) dX9_has_18 rfl (by decide) (fun c_9 => ?_) (fun c_9 => ?_)
        · replace h := ite_t c_9 h
          cases h
          exact zr_throw0 (ik := 93) (ic := 95) zth_IOB dX9_has_27 dX9_has_30 dX9_has_31 dX9_has_34 rfl (by decide) (Nat.le_of_ble_eq_true rfl) ⟨by decide, by decide⟩ ⟨rfl, rfl⟩
        · replace h := ite_f c_9 h
          refine zr_iload_n (q := 22) dX9_has_21 rfl rfl 3 rfl ?_
          refine zr_bipush (q := 24) (v := 36) dX9_has_22 rfl (by decide) ?_
          refine zr_icmp_lt (q := 27) (tgt := 35) dX9_has_24 rfl (by decide) (fun c_10 => ?_) (fun c_10 => ?_)
          · replace h := ite_t c_10 h
            refine zr_aload_n (q := 36) dX9_has_35 rfl rfl 0 rfl ?_
            obtain ⟨c_11, h⟩ := chk_some h
            obtain ⟨a_12, e_13, h⟩ := bnd_some h
            refine zr_getr (q := 39) (ci := 4) (k := 5) dX9_has_36 rfl (eq_of_beq c_11) rfl (by decide) rfl zbX4 (by decide) zb_324 rfl e_13 ?_
            refine zr_iload_n (q := 40) dX9_has_39 rfl rfl 2 rfl ?_
            obtain ⟨c_14, h⟩ := chk_some h
            obtain ⟨c_15, h⟩ := chk_some h
            refine zr_lald (q := 41) dX9_has_40 rfl (eq_of_beq c_14) c_15 ?_
            refine zr_iload_n (q := 42) dX9_has_41 rfl rfl 3 rfl ?_
            obtain ⟨r_16, M_17, hc_18, h⟩ := bnd2_some h
            refine zr_callSI (μ' := uX9_holds) (q := 45) (n := 2) (As := [.long (mL M_2 a_12 (Int32.toNatClampNeg v1)), .int v2]) (u' := (1, 6)) (tX9_holds n M_2 (mL M_2 a_12 (Int32.toNatClampNeg v1)) v2 _ _ hc_18) dX9_has_42 rfl rfl ⟨zb_23, zb_320, zb_24, zb_25⟩ zd_X9_holds ⟨by decide, by decide⟩ ⟨by decide, by decide⟩ rfl rfl (Nat.le_of_ble_eq_true rfl) rfl ?_
            obtain ⟨c_19, h⟩ := chk_some h
            cases h
            exact zr_zreturn dX9_has_45 rfl (z01_or c_19) ⟨by decide, by decide⟩ ⟨rfl, rfl⟩
          · replace h := ite_f c_10 h
            cases h
            exact zr_throw0 (ik := 93) (ic := 95) zth_IOB dX9_has_27 dX9_has_30 dX9_has_31 dX9_has_34 rfl (by decide) (Nat.le_of_ble_eq_true rfl) ⟨by decide, by decide⟩ ⟨rfl, rfl⟩
  · cases h
    exact zr_callVX (μ' := uX9_thePattern) (q := 4) (n := 0) (ci := 9) (As := []) (u' := (1, 6)) (tX9_thePattern n M v0 _ _ hc_3) dX9_has_1 rfl rfl ⟨zb_314, zb_315, zb_316, zb_317, zb_25⟩ zd_X9_thePattern ⟨by decide, by decide⟩ ⟨by decide, by decide⟩ (eq_of_beq c_4) (by decide) rfl rfl rfl (Nat.le_of_ble_eq_true rfl) rfl rfl ⟨rfl, rfl⟩

def uX9_feed : zMu := (yX9_feed, cX9_feed, 4, (some .int), { frames := 6, cells := 1, slots := 6, locals := 81 }, [])
theorem zd_X9_feed : (uY uX9_feed).cls ≠ "java/lang/invoke/MethodHandle" ∧ (uY uX9_feed).cls ≠ "java/lang/invoke/VarHandle" ∧ (parseMethodDescriptor (uY uX9_feed).desc).map (fun d => d.parameters.length) = some 2 := by decide +kernel
def fX9_feed (n : Nat) (M : zM) (v0 : Nat) (v1 : Int64) (v3 : Int32) : Option ((Int32 ⊕ String) × zM) :=
  if v3 < (1 : Int32) then
    some (.inr "java/lang/IllegalArgumentException", M)
  else
  if (8 : Int32) < v3 then
    some (.inr "java/lang/IllegalArgumentException", M)
  else
  bnd2 (fX9_allLetters n M v1 v3) fun r_3 M_4 =>
  if r_3 = (0 : Int32) then
    some (.inr "java/lang/IllegalArgumentException", M_4)
  else
  chk (mK M_4 v0 == 9) <|
  bnd (mR M_4 v0 1) fun a_8 =>
  chk (mK M_4 a_8 == 8) <|
  if ((mI M_4 a_8 0) + v3) ≤ (200 : Int32) then
    chk (mK M_4 v0 == 9) <|
    bnd (mR M_4 v0 1) fun a_13 =>
    chk (mK M_4 a_13 == 8) <|
    bnd2 (fX8_append n M_4 a_13 v1 v3) fun r_15 M_16 =>
    chk (mK M_16 v0 == 9) <|
    bnd (mR M_16 v0 1) fun a_20 =>
    chk (mK M_16 a_20 == 8) <|
    some ((.inl (mI M_16 a_20 0)), M_16)
  else
  some (.inr "java/lang/IllegalStateException", M_4)
set_option maxHeartbeats 4000000 in
theorem tX9_feed (n : Nat) (M : zM) (v0 : Nat) (v1 : Int64) (v3 : Int32) (r : (Int32 ⊕ String)) (M' : zM) (h : fX9_feed n M v0 v1 v3 = some (r, M')) : zMet uX9_feed false M [.ref v0, .long v1, .int v3] (zE (tI r) M') := by
  refine zMet_of (L := [(0, .ref v0), (1, .long v1), (3, .int v3)]) (by decide +kernel) rfl rfl (Nat.le_of_ble_eq_true rfl) ?_
  show zW uX9_feed none (0, 0) M 0 [(0, .ref v0), (1, .long v1), (3, .int v3)] [] (zE (tI r) M')
  unfold fX9_feed at h
  refine zr_iload_n (q := 1) dX9_feed_0 rfl rfl 2 rfl ?_
  refine zr_iconst (q := 2) (v := 1) dX9_feed_1 rfl (by decide) ?_
  refine zr_icmp_lt (q := 5) (tgt := 19) dX9_feed_2 rfl (by decide) (fun c_1 => ?_) (fun c_1 => ?_)
  · replace h := ite_t c_1 h
    cases h
    exact zr_throw0 (ik := 51) (ic := 53) zth_IAE dX9_feed_19 dX9_feed_22 dX9_feed_23 dX9_feed_26 rfl (by decide) (Nat.le_of_ble_eq_true rfl) ⟨by decide, by decide⟩ ⟨rfl, rfl⟩
  · replace h := ite_f c_1 h
    refine zr_iload_n (q := 6) dX9_feed_5 rfl rfl 2 rfl ?_
    refine zr_bipush (q := 8) (v := 8) dX9_feed_6 rfl (by decide) ?_
    refine zr_icmp_gt (q := 11) (tgt := 19) dX9_feed_8 rfl (by decide) (fun c_2 => ?_) (fun c_2 => ?_)
    · replace h := ite_t c_2 h
      cases h
      exact zr_throw0 (ik := 51) (ic := 53) zth_IAE dX9_feed_19 dX9_feed_22 dX9_feed_23 dX9_feed_26 rfl (by decide) (Nat.le_of_ble_eq_true rfl) ⟨by decide, by decide⟩ ⟨rfl, rfl⟩
    · replace h := ite_f c_2 h
      refine zr_lload_n (q := 12) dX9_feed_11 rfl rfl 1 rfl ?_
      refine zr_iload_n (q := 13) dX9_feed_12 rfl rfl 2 rfl ?_
      obtain ⟨r_3, M_4, hc_5, h⟩ := bnd2_some h
      refine zr_callSI (μ' := uX9_allLetters) (q := 16) (n := 2) (As := [.long v1, .int v3]) (u' := (0, 0)) (tX9_allLetters n M v1 v3 _ _ hc_5) dX9_feed_13 rfl rfl ⟨zb_327, zb_328, zb_329, zb_25⟩ zd_X9_allLetters ⟨by decide, by decide⟩ ⟨by decide, by decide⟩ rfl rfl (Nat.le_of_ble_eq_true rfl) rfl ?_
      refine zr_if_ne (q := 19) (tgt := 27) dX9_feed_16 rfl (by decide) (fun c_6 => ?_) (fun c_6 => ?_)
      · replace h := ite_f c_6 h
        refine zr_aload_n (q := 28) dX9_feed_27 rfl rfl 0 rfl ?_
        obtain ⟨c_7, h⟩ := chk_some h
        obtain ⟨a_8, e_9, h⟩ := bnd_some h
        refine zr_getr (q := 31) (ci := 9) (k := 1) dX9_feed_28 rfl (eq_of_beq c_7) rfl (by decide) rfl zbX9 (by decide) zb_308 rfl e_9 ?_
        obtain ⟨c_10, h⟩ := chk_some h
        refine zr_get (q := 34) (ci := 8) (k := 0) dX9_feed_31 rfl (eq_of_beq c_10) rfl (by decide) rfl zbX8 (by decide) zb_330 rfl ?_
        refine zr_iload_n (q := 35) dX9_feed_34 rfl rfl 2 rfl ?_
        refine zr_iadd (q := 36) dX9_feed_35 rfl ?_
        refine zr_sipush (q := 39) (v := 200) dX9_feed_36 rfl (by decide) ?_
        refine zr_icmp_le (q := 42) (tgt := 50) dX9_feed_39 rfl (by decide) (fun c_11 => ?_) (fun c_11 => ?_)
        · replace h := ite_t c_11 h
          refine zr_aload_n (q := 51) dX9_feed_50 rfl rfl 0 rfl ?_
          obtain ⟨c_12, h⟩ := chk_some h
          obtain ⟨a_13, e_14, h⟩ := bnd_some h
          refine zr_getr (q := 54) (ci := 9) (k := 1) dX9_feed_51 rfl (eq_of_beq c_12) rfl (by decide) rfl zbX9 (by decide) zb_308 rfl e_14 ?_
          refine zr_lload_n (q := 55) dX9_feed_54 rfl rfl 1 rfl ?_
          refine zr_iload_n (q := 56) dX9_feed_55 rfl rfl 2 rfl ?_
          obtain ⟨c_18, h⟩ := chk_some h
          obtain ⟨r_15, M_16, hc_17, h⟩ := bnd2_some h
          refine zr_callVV (μ' := uX8_append) (q := 59) (n := 2) (ci := 8) (As := [.long v1, .int v3]) (u' := (0, 0)) (tX8_append n M_4 a_13 v1 v3 _ _ hc_17) dX9_feed_56 rfl rfl ⟨zb_331, zb_332, zb_333, zb_334, zb_290⟩ zd_X8_append ⟨by decide, by decide⟩ ⟨by decide, by decide⟩ (eq_of_beq c_18) (by decide) rfl rfl rfl (Nat.le_of_ble_eq_true rfl) rfl rfl ?_
          refine zr_aload_n (q := 60) dX9_feed_59 rfl rfl 0 rfl ?_
          obtain ⟨c_19, h⟩ := chk_some h
          obtain ⟨a_20, e_21, h⟩ := bnd_some h
          refine zr_getr (q := 63) (ci := 9) (k := 1) dX9_feed_60 rfl (eq_of_beq c_19) rfl (by decide) rfl zbX9 (by decide) zb_308 rfl e_21 ?_
          obtain ⟨c_22, h⟩ := chk_some h
          refine zr_get (q := 66) (ci := 8) (k := 0) dX9_feed_63 rfl (eq_of_beq c_22) rfl (by decide) rfl zbX8 (by decide) zb_330 rfl ?_
          cases h
          exact zr_ireturn dX9_feed_66 rfl ⟨by decide, by decide⟩ ⟨rfl, rfl⟩
        · replace h := ite_f c_11 h
          cases h
          exact zr_throw0 (ik := 58) (ic := 60) zth_ISE dX9_feed_42 dX9_feed_45 dX9_feed_46 dX9_feed_49 rfl (by decide) (Nat.le_of_ble_eq_true rfl) ⟨by decide, by decide⟩ ⟨rfl, rfl⟩
      · replace h := ite_t c_6 h
        cases h
        exact zr_throw0 (ik := 51) (ic := 53) zth_IAE dX9_feed_19 dX9_feed_22 dX9_feed_23 dX9_feed_26 rfl (by decide) (Nat.le_of_ble_eq_true rfl) ⟨by decide, by decide⟩ ⟨rfl, rfl⟩

def uX9_clear : zMu := (yX9_clear, cX9_clear, 2, (some .int), { frames := 1, cells := 0, slots := 0, locals := 20 }, [])
theorem zd_X9_clear : (uY uX9_clear).cls ≠ "java/lang/invoke/MethodHandle" ∧ (uY uX9_clear).cls ≠ "java/lang/invoke/VarHandle" ∧ (parseMethodDescriptor (uY uX9_clear).desc).map (fun d => d.parameters.length) = some 0 := by decide +kernel
def fX9_clear (n : Nat) (M : zM) (v0 : Nat) : Option (Int32 × zM) :=
  chk (mK M v0 == 9) <|
  bnd (mR M v0 1) fun a_2 =>
  chk (mK M a_2 == 8) <|
  app (mI M a_2 0) fun v1_5 : Int32 =>
  chk (mK M v0 == 9) <|
  bnd (mR M v0 1) fun a_8 =>
  chk (mK M a_8 == 8) <|
  bnd2 (fX8_cutOff n M a_8) fun r_10 M_11 =>
  some (v1_5, M_11)
set_option maxHeartbeats 4000000 in
theorem tX9_clear (n : Nat) (M : zM) (v0 : Nat) (r : Int32) (M' : zM) (h : fX9_clear n M v0 = some (r, M')) : zMet uX9_clear false M [.ref v0] (zE (oI r) M') := by
  refine zMet_of (L := [(0, .ref v0)]) (by decide +kernel) rfl rfl (Nat.le_of_ble_eq_true rfl) ?_
  show zW uX9_clear none (0, 0) M 0 [(0, .ref v0)] [] (zE (oI r) M')
  unfold fX9_clear at h
  refine zr_aload_n (q := 1) dX9_clear_0 rfl rfl 0 rfl ?_
  obtain ⟨c_1, h⟩ := chk_some h
  obtain ⟨a_2, e_3, h⟩ := bnd_some h
  refine zr_getr (q := 4) (ci := 9) (k := 1) dX9_clear_1 rfl (eq_of_beq c_1) rfl (by decide) rfl zbX9 (by decide) zb_308 rfl e_3 ?_
  obtain ⟨c_4, h⟩ := chk_some h
  refine zr_get (q := 7) (ci := 8) (k := 0) dX9_clear_4 rfl (eq_of_beq c_4) rfl (by decide) rfl zbX8 (by decide) zb_330 rfl ?_
  obtain ⟨v1_5, e_6, h⟩ := app_some h
  refine zr_nmI e_6 ?_
  refine zr_istore_n (q := 8) (L' := [(1, .int v1_5), (0, .ref v0)]) dX9_clear_7 rfl rfl (by decide) rfl ?_
  refine zr_aload_n (q := 9) dX9_clear_8 rfl rfl 1 rfl ?_
  obtain ⟨c_7, h⟩ := chk_some h
  obtain ⟨a_8, e_9, h⟩ := bnd_some h
  refine zr_getr (q := 12) (ci := 9) (k := 1) dX9_clear_9 rfl (eq_of_beq c_7) rfl (by decide) rfl zbX9 (by decide) zb_308 rfl e_9 ?_
  obtain ⟨c_13, h⟩ := chk_some h
  obtain ⟨r_10, M_11, hc_12, h⟩ := bnd2_some h
  refine zr_callVV (μ' := uX8_cutOff) (q := 15) (n := 0) (ci := 8) (As := []) (u' := (0, 0)) (tX8_cutOff n M a_8 _ _ hc_12) dX9_clear_12 rfl rfl ⟨zb_335, zb_336, zb_337, zb_338, zb_290⟩ zd_X8_cutOff ⟨by decide, by decide⟩ ⟨by decide, by decide⟩ (eq_of_beq c_13) (by decide) rfl rfl rfl (Nat.le_of_ble_eq_true rfl) rfl rfl ?_
  refine zr_iload_n (q := 16) dX9_clear_15 rfl rfl 0 rfl ?_
  cases h
  exact zr_ireturn dX9_clear_16 rfl ⟨by decide, by decide⟩ ⟨rfl, rfl⟩

def uX9_whole : zMu := (yX9_whole, cX9_whole, 1, (some .boolean), { frames := 7, cells := 1, slots := 6, locals := 101 }, [])
theorem zd_X9_whole : (uY uX9_whole).cls ≠ "java/lang/invoke/MethodHandle" ∧ (uY uX9_whole).cls ≠ "java/lang/invoke/VarHandle" ∧ (parseMethodDescriptor (uY uX9_whole).desc).map (fun d => d.parameters.length) = some 0 := by decide +kernel
def fX9_whole (n : Nat) (M : zM) (v0 : Nat) : Option ((Int32 ⊕ String) × zM) :=
  chk (mK M v0 == 9) <|
  bnd (mR M v0 1) fun a_2 =>
  chk (mK M v0 == 9) <|
  bndT (fX9_thePattern n M v0) fun r_4 M_5 =>
  chk (mK M_5 a_2 == 8) <|
  bnd2 (fX8_isWordOf n M_5 a_2 r_4) fun r_9 M_10 =>
  chk (z01 r_9) <|
  some ((.inl r_9), M_10)
set_option maxHeartbeats 4000000 in
theorem tX9_whole (n : Nat) (M : zM) (v0 : Nat) (r : (Int32 ⊕ String)) (M' : zM) (h : fX9_whole n M v0 = some (r, M')) : zMet uX9_whole false M [.ref v0] (zE (tI r) M') := by
  refine zMet_of (L := [(0, .ref v0)]) (by decide +kernel) rfl rfl (Nat.le_of_ble_eq_true rfl) ?_
  show zW uX9_whole none (0, 0) M 0 [(0, .ref v0)] [] (zE (tI r) M')
  unfold fX9_whole at h
  refine zr_aload_n (q := 1) dX9_whole_0 rfl rfl 0 rfl ?_
  obtain ⟨c_1, h⟩ := chk_some h
  obtain ⟨a_2, e_3, h⟩ := bnd_some h
  refine zr_getr (q := 4) (ci := 9) (k := 1) dX9_whole_1 rfl (eq_of_beq c_1) rfl (by decide) rfl zbX9 (by decide) zb_308 rfl e_3 ?_
  refine zr_aload_n (q := 5) dX9_whole_4 rfl rfl 0 rfl ?_
  obtain ⟨c_7, h⟩ := chk_some h
  rcases bndT_some h with ⟨r_4, M_5, hc_6, h⟩ | ⟨E_8, M_5, hc_6, h⟩
  · refine zr_callVA (μ' := uX9_thePattern) (q := 8) (n := 0) (ci := 9) (As := []) (u' := (1, 6)) (tX9_thePattern n M v0 _ _ hc_6) dX9_whole_5 rfl rfl ⟨zb_314, zb_315, zb_316, zb_317, zb_25⟩ zd_X9_thePattern ⟨by decide, by decide⟩ ⟨by decide, by decide⟩ (eq_of_beq c_7) (by decide) rfl rfl rfl (Nat.le_of_ble_eq_true rfl) rfl rfl ?_
    obtain ⟨c_12, h⟩ := chk_some h
    obtain ⟨r_9, M_10, hc_11, h⟩ := bnd2_some h
    refine zr_callVI (μ' := uX8_isWordOf) (q := 11) (n := 1) (ci := 8) (As := [.ref r_4]) (u' := (1, 6)) (tX8_isWordOf n M_5 a_2 r_4 _ _ hc_11) dX9_whole_8 rfl rfl ⟨zb_339, zb_340, zb_341, zb_342, zb_290⟩ zd_X8_isWordOf ⟨by decide, by decide⟩ ⟨by decide, by decide⟩ (eq_of_beq c_12) (by decide) rfl rfl rfl (Nat.le_of_ble_eq_true rfl) rfl rfl ?_
    obtain ⟨c_13, h⟩ := chk_some h
    cases h
    exact zr_zreturn dX9_whole_11 rfl (z01_or c_13) ⟨by decide, by decide⟩ ⟨rfl, rfl⟩
  · cases h
    exact zr_callVX (μ' := uX9_thePattern) (q := 8) (n := 0) (ci := 9) (As := []) (u' := (1, 6)) (tX9_thePattern n M v0 _ _ hc_6) dX9_whole_5 rfl rfl ⟨zb_314, zb_315, zb_316, zb_317, zb_25⟩ zd_X9_thePattern ⟨by decide, by decide⟩ ⟨by decide, by decide⟩ (eq_of_beq c_7) (by decide) rfl rfl rfl (Nat.le_of_ble_eq_true rfl) rfl rfl ⟨rfl, rfl⟩

def uX9_finds : zMu := (yX9_finds, cX9_finds, 1, (some .int), { frames := 7, cells := 1, slots := 6, locals := 101 }, [])
theorem zd_X9_finds : (uY uX9_finds).cls ≠ "java/lang/invoke/MethodHandle" ∧ (uY uX9_finds).cls ≠ "java/lang/invoke/VarHandle" ∧ (parseMethodDescriptor (uY uX9_finds).desc).map (fun d => d.parameters.length) = some 0 := by decide +kernel
def fX9_finds (n : Nat) (M : zM) (v0 : Nat) : Option ((Int32 ⊕ String) × zM) :=
  chk (mK M v0 == 9) <|
  bnd (mR M v0 1) fun a_2 =>
  chk (mK M v0 == 9) <|
  bndT (fX9_thePattern n M v0) fun r_4 M_5 =>
  chk (mK M_5 a_2 == 8) <|
  bnd2 (fX8_lookFor n M_5 a_2 r_4) fun r_9 M_10 =>
  chk (mK M_10 v0 == 9) <|
  bnd (mR M_10 v0 1) fun a_14 =>
  chk (mK M_10 a_14 == 8) <|
  some ((.inl (mI M_10 a_14 1)), M_10)
set_option maxHeartbeats 4000000 in
theorem tX9_finds (n : Nat) (M : zM) (v0 : Nat) (r : (Int32 ⊕ String)) (M' : zM) (h : fX9_finds n M v0 = some (r, M')) : zMet uX9_finds false M [.ref v0] (zE (tI r) M') := by
  refine zMet_of (L := [(0, .ref v0)]) (by decide +kernel) rfl rfl (Nat.le_of_ble_eq_true rfl) ?_
  show zW uX9_finds none (0, 0) M 0 [(0, .ref v0)] [] (zE (tI r) M')
  unfold fX9_finds at h
  refine zr_aload_n (q := 1) dX9_finds_0 rfl rfl 0 rfl ?_
  obtain ⟨c_1, h⟩ := chk_some h
  obtain ⟨a_2, e_3, h⟩ := bnd_some h
  refine zr_getr (q := 4) (ci := 9) (k := 1) dX9_finds_1 rfl (eq_of_beq c_1) rfl (by decide) rfl zbX9 (by decide) zb_308 rfl e_3 ?_
  refine zr_aload_n (q := 5) dX9_finds_4 rfl rfl 0 rfl ?_
  obtain ⟨c_7, h⟩ := chk_some h
  rcases bndT_some h with ⟨r_4, M_5, hc_6, h⟩ | ⟨E_8, M_5, hc_6, h⟩
  · refine zr_callVA (μ' := uX9_thePattern) (q := 8) (n := 0) (ci := 9) (As := []) (u' := (1, 6)) (tX9_thePattern n M v0 _ _ hc_6) dX9_finds_5 rfl rfl ⟨zb_314, zb_315, zb_316, zb_317, zb_25⟩ zd_X9_thePattern ⟨by decide, by decide⟩ ⟨by decide, by decide⟩ (eq_of_beq c_7) (by decide) rfl rfl rfl (Nat.le_of_ble_eq_true rfl) rfl rfl ?_
    obtain ⟨c_12, h⟩ := chk_some h
    obtain ⟨r_9, M_10, hc_11, h⟩ := bnd2_some h
    refine zr_callVV (μ' := uX8_lookFor) (q := 11) (n := 1) (ci := 8) (As := [.ref r_4]) (u' := (1, 6)) (tX8_lookFor n M_5 a_2 r_4 _ _ hc_11) dX9_finds_8 rfl rfl ⟨zb_343, zb_344, zb_345, zb_346, zb_290⟩ zd_X8_lookFor ⟨by decide, by decide⟩ ⟨by decide, by decide⟩ (eq_of_beq c_12) (by decide) rfl rfl rfl (Nat.le_of_ble_eq_true rfl) rfl rfl ?_
    refine zr_aload_n (q := 12) dX9_finds_11 rfl rfl 0 rfl ?_
    obtain ⟨c_13, h⟩ := chk_some h
    obtain ⟨a_14, e_15, h⟩ := bnd_some h
    refine zr_getr (q := 15) (ci := 9) (k := 1) dX9_finds_12 rfl (eq_of_beq c_13) rfl (by decide) rfl zbX9 (by decide) zb_308 rfl e_15 ?_
    obtain ⟨c_16, h⟩ := chk_some h
    refine zr_get (q := 18) (ci := 8) (k := 1) dX9_finds_15 rfl (eq_of_beq c_16) rfl (by decide) rfl zbX8 (by decide) zb_347 rfl ?_
    cases h
    exact zr_ireturn dX9_finds_18 rfl ⟨by decide, by decide⟩ ⟨rfl, rfl⟩
  · cases h
    exact zr_callVX (μ' := uX9_thePattern) (q := 8) (n := 0) (ci := 9) (As := []) (u' := (1, 6)) (tX9_thePattern n M v0 _ _ hc_6) dX9_finds_5 rfl rfl ⟨zb_314, zb_315, zb_316, zb_317, zb_25⟩ zd_X9_thePattern ⟨by decide, by decide⟩ ⟨by decide, by decide⟩ (eq_of_beq c_7) (by decide) rfl rfl rfl (Nat.le_of_ble_eq_true rfl) rfl rfl ⟨rfl, rfl⟩

def uX9_find : zMu := (yX9_find, cX9_find, 3, (some .int), { frames := 7, cells := 2, slots := 12, locals := 101 }, [])
theorem zd_X9_find : (uY uX9_find).cls ≠ "java/lang/invoke/MethodHandle" ∧ (uY uX9_find).cls ≠ "java/lang/invoke/VarHandle" ∧ (parseMethodDescriptor (uY uX9_find).desc).map (fun d => d.parameters.length) = some 2 := by decide +kernel
def fX9_find (n : Nat) (M : zM) (v0 : Nat) (v1 : Int32) (v2 : Int32) : Option ((Int32 ⊕ String) × zM) :=
  chk (mK M v0 == 9) <|
  bnd (mR M v0 1) fun a_2 =>
  chk (mK M v0 == 9) <|
  bndT (fX9_thePattern n M v0) fun r_4 M_5 =>
  chk (mK M_5 a_2 == 8) <|
  bnd2 (fX8_lookFor n M_5 a_2 r_4) fun r_9 M_10 =>
  if v1 < (0 : Int32) then
    some (.inr "java/lang/IndexOutOfBoundsException", M_10)
  else
  chk (mK M_10 v0 == 9) <|
  bnd (mR M_10 v0 1) fun a_15 =>
  chk (mK M_10 a_15 == 8) <|
  if v1 < (mI M_10 a_15 1) then
    if v2 = (0 : Int32) then
      chk (mK M_10 v0 == 9) <|
      bnd (mR M_10 v0 1) fun a_21 =>
      chk (mK M_10 a_21 == 8) <|
      bnd (mR M_10 a_21 2) fun a_24 =>
      chk (mK M_10 a_24 == 11) <|
      chk (zin v1 (mN M_10 a_24)) <|
      some ((.inl (mI M_10 a_24 (Int32.toNatClampNeg v1))), M_10)
    else
    chk (mK M_10 v0 == 9) <|
    bnd (mR M_10 v0 1) fun a_29 =>
    chk (mK M_10 a_29 == 8) <|
    bnd (mR M_10 a_29 3) fun a_32 =>
    chk (mK M_10 a_32 == 11) <|
    chk (zin v1 (mN M_10 a_32)) <|
    some ((.inl (mI M_10 a_32 (Int32.toNatClampNeg v1))), M_10)
  else
  some (.inr "java/lang/IndexOutOfBoundsException", M_10)
set_option maxHeartbeats 4000000 in
theorem tX9_find (n : Nat) (M : zM) (v0 : Nat) (v1 : Int32) (v2 : Int32) (r : (Int32 ⊕ String)) (M' : zM) (h : fX9_find n M v0 v1 v2 = some (r, M')) : zMet uX9_find false M [.ref v0, .int v1, .int v2] (zE (tI r) M') := by
  refine zMet_of (L := [(0, .ref v0), (1, .int v1), (2, .int v2)]) (by decide +kernel) rfl rfl (Nat.le_of_ble_eq_true rfl) ?_
  show zW uX9_find none (0, 0) M 0 [(0, .ref v0), (1, .int v1), (2, .int v2)] [] (zE (tI r) M')
  unfold fX9_find at h
  refine zr_aload_n (q := 1) dX9_find_0 rfl rfl 0 rfl ?_
  obtain ⟨c_1, h⟩ := chk_some h
  obtain ⟨a_2, e_3, h⟩ := bnd_some h
  refine zr_getr (q := 4) (ci := 9) (k := 1) dX9_find_1 rfl (eq_of_beq c_1) rfl (by decide) rfl zbX9 (by decide) zb_308 rfl e_3 ?_
  refine zr_aload_n (q := 5) dX9_find_4 rfl rfl 0 rfl ?_
  obtain ⟨c_7, h⟩ := chk_some h
  rcases bndT_some h with ⟨r_4, M_5, hc_6, h⟩ | ⟨E_8, M_5, hc_6, h⟩
  · refine zr_callVA (μ' := uX9_thePattern) (q := 8) (n := 0) (ci := 9) (As := []) (u' := (1, 6)) (tX9_thePattern n M v0 _ _ hc_6) dX9_find_5 rfl rfl ⟨zb_314, zb_315, zb_316, zb_317, zb_25⟩ zd_X9_thePattern ⟨by decide, by decide⟩ ⟨by decide, by decide⟩ (eq_of_beq c_7) (by decide) rfl rfl rfl (Nat.le_of_ble_eq_true rfl) rfl rfl ?_
    obtain ⟨c_12, h⟩ := chk_some h
    obtain ⟨r_9, M_10, hc_11, h⟩ := bnd2_some h
    refine zr_callVV (μ' := uX8_lookFor) (q := 11) (n := 1) (ci := 8) (As := [.ref r_4]) (u' := (1, 6)) (tX8_lookFor n M_5 a_2 r_4 _ _ hc_11) dX9_find_8 rfl rfl ⟨zb_343, zb_344, zb_345, zb_346, zb_290⟩ zd_X8_lookFor ⟨by decide, by decide⟩ ⟨by decide, by decide⟩ (eq_of_beq c_12) (by decide) rfl rfl rfl (Nat.le_of_ble_eq_true rfl) rfl rfl ?_
    refine zr_iload_n (q := 12) dX9_find_11 rfl rfl 1 rfl ?_
    refine zr_if_lt (q := 15) (tgt := 26) dX9_find_12 rfl (by decide) (fun c_13 => ?_) (fun c_13 => ?_)
    · replace h := ite_t c_13 h
      cases h
      exact zr_throw0 (ik := 93) (ic := 95) zth_IOB dX9_find_26 dX9_find_29 dX9_find_30 dX9_find_33 rfl (by decide) (Nat.le_of_ble_eq_true rfl) ⟨by decide, by decide⟩ ⟨rfl, rfl⟩
    · replace h := ite_f c_13 h
      refine zr_iload_n (q := 16) dX9_find_15 rfl rfl 1 rfl ?_
      refine zr_aload_n (q := 17) dX9_find_16 rfl rfl 0 rfl ?_
      obtain ⟨c_14, h⟩ := chk_some h
      obtain ⟨a_15, e_16, h⟩ := bnd_some h
      refine zr_getr (q := 20) (ci := 9) (k := 1) dX9_find_17 rfl (eq_of_beq c_14) rfl (by decide) rfl zbX9 (by decide) zb_308 rfl e_16 ?_
      obtain ⟨c_17, h⟩ := chk_some h
      refine zr_get (q := 23) (ci := 8) (k := 1) dX9_find_20 rfl (eq_of_beq c_17) rfl (by decide) rfl zbX8 (by decide) zb_347 rfl ?_
      refine zr_icmp_lt (q := 26) (tgt := 34) dX9_find_23 rfl (by decide) (fun c_18 => ?_) (fun c_18 => ?_)
      · replace h := ite_t c_18 h
        refine zr_iload_n (q := 35) dX9_find_34 rfl rfl 2 rfl ?_
        refine zr_if_eq (q := 38) (tgt := 50) dX9_find_35 rfl (by decide) (fun c_19 => ?_) (fun c_19 => ?_)
        · replace h := ite_t c_19 h
          refine zr_aload_n (q := 51) dX9_find_50 rfl rfl 0 rfl ?_
          obtain ⟨c_20, h⟩ := chk_some h
          obtain ⟨a_21, e_22, h⟩ := bnd_some h
          refine zr_getr (q := 54) (ci := 9) (k := 1) dX9_find_51 rfl (eq_of_beq c_20) rfl (by decide) rfl zbX9 (by decide) zb_308 rfl e_22 ?_
          obtain ⟨c_23, h⟩ := chk_some h
          obtain ⟨a_24, e_25, h⟩ := bnd_some h
          refine zr_getr (q := 57) (ci := 8) (k := 2) dX9_find_54 rfl (eq_of_beq c_23) rfl (by decide) rfl zbX8 (by decide) zb_348 rfl e_25 ?_
          refine zr_iload_n (q := 58) dX9_find_57 rfl rfl 1 rfl ?_
          obtain ⟨c_26, h⟩ := chk_some h
          obtain ⟨c_27, h⟩ := chk_some h
          refine zr_iald (q := 59) dX9_find_58 rfl (eq_of_beq c_26) c_27 ?_
          cases h
          exact zr_ireturn dX9_find_59 rfl ⟨by decide, by decide⟩ ⟨rfl, rfl⟩
        · replace h := ite_f c_19 h
          refine zr_aload_n (q := 39) dX9_find_38 rfl rfl 0 rfl ?_
          obtain ⟨c_28, h⟩ := chk_some h
          obtain ⟨a_29, e_30, h⟩ := bnd_some h
          refine zr_getr (q := 42) (ci := 9) (k := 1) dX9_find_39 rfl (eq_of_beq c_28) rfl (by decide) rfl zbX9 (by decide) zb_308 rfl e_30 ?_
          obtain ⟨c_31, h⟩ := chk_some h
          obtain ⟨a_32, e_33, h⟩ := bnd_some h
          refine zr_getr (q := 45) (ci := 8) (k := 3) dX9_find_42 rfl (eq_of_beq c_31) rfl (by decide) rfl zbX8 (by decide) zb_349 rfl e_33 ?_
          refine zr_iload_n (q := 46) dX9_find_45 rfl rfl 1 rfl ?_
          obtain ⟨c_34, h⟩ := chk_some h
          obtain ⟨c_35, h⟩ := chk_some h
          refine zr_iald (q := 47) dX9_find_46 rfl (eq_of_beq c_34) c_35 ?_
          refine zr_goto (q := 59) dX9_find_47 (by decide) ?_
          cases h
          exact zr_ireturn dX9_find_59 rfl ⟨by decide, by decide⟩ ⟨rfl, rfl⟩
      · replace h := ite_f c_18 h
        cases h
        exact zr_throw0 (ik := 93) (ic := 95) zth_IOB dX9_find_26 dX9_find_29 dX9_find_30 dX9_find_33 rfl (by decide) (Nat.le_of_ble_eq_true rfl) ⟨by decide, by decide⟩ ⟨rfl, rfl⟩
  · cases h
    exact zr_callVX (μ' := uX9_thePattern) (q := 8) (n := 0) (ci := 9) (As := []) (u' := (1, 6)) (tX9_thePattern n M v0 _ _ hc_6) dX9_find_5 rfl rfl ⟨zb_314, zb_315, zb_316, zb_317, zb_25⟩ zd_X9_thePattern ⟨by decide, by decide⟩ ⟨by decide, by decide⟩ (eq_of_beq c_7) (by decide) rfl rfl rfl (Nat.le_of_ble_eq_true rfl) rfl rfl ⟨rfl, rfl⟩

def uX9_automatonOf : zMu := (yX9_automatonOf, cX9_automatonOf, 3, (some (.object "PatternHouse$Automaton")), { frames := 4, cells := 0, slots := 0, locals := 103 }, [])
theorem zd_X9_automatonOf : (uY uX9_automatonOf).cls ≠ "java/lang/invoke/MethodHandle" ∧ (uY uX9_automatonOf).cls ≠ "java/lang/invoke/VarHandle" ∧ (parseMethodDescriptor (uY uX9_automatonOf).desc).map (fun d => d.parameters.length) = some 1 := by decide +kernel
def fX9_automatonOf (n : Nat) (M : zM) (v0 : Nat) (v1 : Nat) : Option (Nat × zM) :=
  chk (mK M v1 == 4) <|
  bnd (mR M v1 7) fun a_2 =>
  chk (mK M a_2 == 0) <|
  if (mI M a_2 0) = (0 : Int32) then
    chk (mK M v0 == 9) <|
    bnd (mR M v0 2) fun a_7 =>
    chk (mK M a_2 == 0) <|
    bnd2 (fX0_build n M a_2 v1 a_7) fun r_9 M_10 =>
    some (a_2, M_10)
  else
  some (a_2, M)
set_option maxHeartbeats 4000000 in
theorem tX9_automatonOf (n : Nat) (M : zM) (v0 : Nat) (v1 : Nat) (r : Nat) (M' : zM) (h : fX9_automatonOf n M v0 v1 = some (r, M')) : zMet uX9_automatonOf false M [.ref v0, .ref v1] (zE (oA r) M') := by
  refine zMet_of (L := [(0, .ref v0), (1, .ref v1)]) (by decide +kernel) rfl rfl (Nat.le_of_ble_eq_true rfl) ?_
  show zW uX9_automatonOf none (0, 0) M 0 [(0, .ref v0), (1, .ref v1)] [] (zE (oA r) M')
  unfold fX9_automatonOf at h
  refine zr_aload_n (q := 1) dX9_automatonOf_0 rfl rfl 1 rfl ?_
  obtain ⟨c_1, h⟩ := chk_some h
  obtain ⟨a_2, e_3, h⟩ := bnd_some h
  refine zr_getr (q := 4) (ci := 4) (k := 7) dX9_automatonOf_1 rfl (eq_of_beq c_1) rfl (by decide) rfl zbX4 (by decide) zb_350 rfl e_3 ?_
  refine zr_astore_n (q := 5) (L' := [(2, .ref a_2), (0, .ref v0), (1, .ref v1)]) dX9_automatonOf_4 rfl rfl (by decide) rfl ?_
  refine zr_aload_n (q := 6) dX9_automatonOf_5 rfl rfl 0 rfl ?_
  obtain ⟨c_4, h⟩ := chk_some h
  refine zr_get (q := 9) (ci := 0) (k := 0) dX9_automatonOf_6 rfl (eq_of_beq c_4) rfl (by decide) rfl zbX0 (by decide) zb_351 rfl ?_
  refine zr_if_ne (q := 12) (tgt := 21) dX9_automatonOf_9 rfl (by decide) (fun c_5 => ?_) (fun c_5 => ?_)
  · replace h := ite_f c_5 h
    refine zr_aload_n (q := 22) dX9_automatonOf_21 rfl rfl 0 rfl ?_
    cases h
    exact zr_areturn dX9_automatonOf_22 rfl ⟨by decide, by decide⟩ ⟨rfl, rfl⟩
  · replace h := ite_t c_5 h
    refine zr_aload_n (q := 13) dX9_automatonOf_12 rfl rfl 0 rfl ?_
    refine zr_aload_n (q := 14) dX9_automatonOf_13 rfl rfl 2 rfl ?_
    refine zr_aload_n (q := 15) dX9_automatonOf_14 rfl rfl 1 rfl ?_
    obtain ⟨c_6, h⟩ := chk_some h
    obtain ⟨a_7, e_8, h⟩ := bnd_some h
    refine zr_getr (q := 18) (ci := 9) (k := 2) dX9_automatonOf_15 rfl (eq_of_beq c_6) rfl (by decide) rfl zbX9 (by decide) zb_352 rfl e_8 ?_
    obtain ⟨c_12, h⟩ := chk_some h
    obtain ⟨r_9, M_10, hc_11, h⟩ := bnd2_some h
    refine zr_callVV (μ' := uX0_build) (q := 21) (n := 2) (ci := 0) (As := [.ref v1, .ref a_7]) (u' := (0, 0)) (tX0_build n M a_2 v1 a_7 _ _ hc_11) dX9_automatonOf_18 rfl rfl ⟨zb_353, zb_354, zb_355, zb_356, zb_36⟩ zd_X0_build ⟨by decide, by decide⟩ ⟨by decide, by decide⟩ (eq_of_beq c_12) (by decide) rfl rfl rfl (Nat.le_of_ble_eq_true rfl) rfl rfl ?_
    refine zr_aload_n (q := 22) dX9_automatonOf_21 rfl rfl 0 rfl ?_
    cases h
    exact zr_areturn dX9_automatonOf_22 rfl ⟨by decide, by decide⟩ ⟨rfl, rfl⟩

def uX9_states : zMu := (yX9_states, cX9_states, 1, (some .int), { frames := 7, cells := 1, slots := 6, locals := 125 }, [])
theorem zd_X9_states : (uY uX9_states).cls ≠ "java/lang/invoke/MethodHandle" ∧ (uY uX9_states).cls ≠ "java/lang/invoke/VarHandle" ∧ (parseMethodDescriptor (uY uX9_states).desc).map (fun d => d.parameters.length) = some 0 := by decide +kernel
def fX9_states (n : Nat) (M : zM) (v0 : Nat) : Option ((Int32 ⊕ String) × zM) :=
  chk (mK M v0 == 9) <|
  bndT (fX9_thePattern n M v0) fun r_1 M_2 =>
  chk (mK M_2 v0 == 9) <|
  bnd2 (fX9_automatonOf n M_2 v0 r_1) fun r_6 M_7 =>
  chk (mK M_7 r_6 == 0) <|
  some ((.inl (mI M_7 r_6 2)), M_7)
set_option maxHeartbeats 4000000 in
theorem tX9_states (n : Nat) (M : zM) (v0 : Nat) (r : (Int32 ⊕ String)) (M' : zM) (h : fX9_states n M v0 = some (r, M')) : zMet uX9_states false M [.ref v0] (zE (tI r) M') := by
  refine zMet_of (L := [(0, .ref v0)]) (by decide +kernel) rfl rfl (Nat.le_of_ble_eq_true rfl) ?_
  show zW uX9_states none (0, 0) M 0 [(0, .ref v0)] [] (zE (tI r) M')
  unfold fX9_states at h
  refine zr_aload_n (q := 1) dX9_states_0 rfl rfl 0 rfl ?_
  refine zr_aload_n (q := 2) dX9_states_1 rfl rfl 0 rfl ?_
  obtain ⟨c_4, h⟩ := chk_some h
  rcases bndT_some h with ⟨r_1, M_2, hc_3, h⟩ | ⟨E_5, M_2, hc_3, h⟩
  · refine zr_callVA (μ' := uX9_thePattern) (q := 5) (n := 0) (ci := 9) (As := []) (u' := (1, 6)) (tX9_thePattern n M v0 _ _ hc_3) dX9_states_2 rfl rfl ⟨zb_314, zb_315, zb_316, zb_317, zb_25⟩ zd_X9_thePattern ⟨by decide, by decide⟩ ⟨by decide, by decide⟩ (eq_of_beq c_4) (by decide) rfl rfl rfl (Nat.le_of_ble_eq_true rfl) rfl rfl ?_
    obtain ⟨c_9, h⟩ := chk_some h
    obtain ⟨r_6, M_7, hc_8, h⟩ := bnd2_some h
    refine zr_callVA (μ' := uX9_automatonOf) (q := 8) (n := 1) (ci := 9) (As := [.ref r_1]) (u' := (1, 6)) (tX9_automatonOf n M_2 v0 r_1 _ _ hc_8) dX9_states_5 rfl rfl ⟨zb_357, zb_358, zb_359, zb_360, zb_25⟩ zd_X9_automatonOf ⟨by decide, by decide⟩ ⟨by decide, by decide⟩ (eq_of_beq c_9) (by decide) rfl rfl rfl (Nat.le_of_ble_eq_true rfl) rfl rfl ?_
    obtain ⟨c_10, h⟩ := chk_some h
    refine zr_get (q := 11) (ci := 0) (k := 2) dX9_states_8 rfl (eq_of_beq c_10) rfl (by decide) rfl zbX0 (by decide) zb_361 rfl ?_
    cases h
    exact zr_ireturn dX9_states_11 rfl ⟨by decide, by decide⟩ ⟨rfl, rfl⟩
  · cases h
    exact zr_callVX (μ' := uX9_thePattern) (q := 5) (n := 0) (ci := 9) (As := []) (u' := (1, 6)) (tX9_thePattern n M v0 _ _ hc_3) dX9_states_2 rfl rfl ⟨zb_314, zb_315, zb_316, zb_317, zb_25⟩ zd_X9_thePattern ⟨by decide, by decide⟩ ⟨by decide, by decide⟩ (eq_of_beq c_4) (by decide) rfl rfl rfl (Nat.le_of_ble_eq_true rfl) rfl rfl ⟨rfl, rfl⟩

def uX9_next : zMu := (yX9_next, cX9_next, 4, (some .int), { frames := 7, cells := 2, slots := 12, locals := 125 }, [])
theorem zd_X9_next : (uY uX9_next).cls ≠ "java/lang/invoke/MethodHandle" ∧ (uY uX9_next).cls ≠ "java/lang/invoke/VarHandle" ∧ (parseMethodDescriptor (uY uX9_next).desc).map (fun d => d.parameters.length) = some 2 := by decide +kernel
def fX9_next (n : Nat) (M : zM) (v0 : Nat) (v1 : Int32) (v2 : Int32) : Option ((Int32 ⊕ String) × zM) :=
  chk (mK M v0 == 9) <|
  bndT (fX9_thePattern n M v0) fun r_1 M_2 =>
  chk (mK M_2 v0 == 9) <|
  bnd2 (fX9_automatonOf n M_2 v0 r_1) fun r_6 M_7 =>
  if v1 < (0 : Int32) then
    some (.inr "java/lang/IndexOutOfBoundsException", M_7)
  else
  chk (mK M_7 r_6 == 0) <|
  if (mI M_7 r_6 2) ≤ v1 then
    some (.inr "java/lang/IndexOutOfBoundsException", M_7)
  else
  if v2 < (0 : Int32) then
    some (.inr "java/lang/IndexOutOfBoundsException", M_7)
  else
  if v2 < (36 : Int32) then
    chk (mK M_7 r_6 == 0) <|
    bnd2 (fX0_wayFrom n M_7 r_6 v1 v2) fun r_15 M_16 =>
    some ((.inl r_15), M_16)
  else
  some (.inr "java/lang/IndexOutOfBoundsException", M_7)
set_option maxHeartbeats 4000000 in
theorem tX9_next (n : Nat) (M : zM) (v0 : Nat) (v1 : Int32) (v2 : Int32) (r : (Int32 ⊕ String)) (M' : zM) (h : fX9_next n M v0 v1 v2 = some (r, M')) : zMet uX9_next false M [.ref v0, .int v1, .int v2] (zE (tI r) M') := by
  refine zMet_of (L := [(0, .ref v0), (1, .int v1), (2, .int v2)]) (by decide +kernel) rfl rfl (Nat.le_of_ble_eq_true rfl) ?_
  show zW uX9_next none (0, 0) M 0 [(0, .ref v0), (1, .int v1), (2, .int v2)] [] (zE (tI r) M')
  unfold fX9_next at h
  refine zr_aload_n (q := 1) dX9_next_0 rfl rfl 0 rfl ?_
  refine zr_aload_n (q := 2) dX9_next_1 rfl rfl 0 rfl ?_
  obtain ⟨c_4, h⟩ := chk_some h
  rcases bndT_some h with ⟨r_1, M_2, hc_3, h⟩ | ⟨E_5, M_2, hc_3, h⟩
  · refine zr_callVA (μ' := uX9_thePattern) (q := 5) (n := 0) (ci := 9) (As := []) (u' := (1, 6)) (tX9_thePattern n M v0 _ _ hc_3) dX9_next_2 rfl rfl ⟨zb_314, zb_315, zb_316, zb_317, zb_25⟩ zd_X9_thePattern ⟨by decide, by decide⟩ ⟨by decide, by decide⟩ (eq_of_beq c_4) (by decide) rfl rfl rfl (Nat.le_of_ble_eq_true rfl) rfl rfl ?_
    obtain ⟨c_9, h⟩ := chk_some h
    obtain ⟨r_6, M_7, hc_8, h⟩ := bnd2_some h
    refine zr_callVA (μ' := uX9_automatonOf) (q := 8) (n := 1) (ci := 9) (As := [.ref r_1]) (u' := (1, 6)) (tX9_automatonOf n M_2 v0 r_1 _ _ hc_8) dX9_next_5 rfl rfl ⟨zb_357, zb_358, zb_359, zb_360, zb_25⟩ zd_X9_automatonOf ⟨by decide, by decide⟩ ⟨by decide, by decide⟩ (eq_of_beq c_9) (by decide) rfl rfl rfl (Nat.le_of_ble_eq_true rfl) rfl rfl ?_
    refine zr_astore_n (q := 9) (L' := [(3, .ref r_6), (0, .ref v0), (1, .int v1), (2, .int v2)]) dX9_next_8 rfl rfl (by decide) rfl ?_
    refine zr_iload_n (q := 10) dX9_next_9 rfl rfl 2 rfl ?_
    refine zr_if_lt (q := 13) (tgt := 31) dX9_next_10 rfl (by decide) (fun c_10 => ?_) (fun c_10 => ?_)
    · replace h := ite_t c_10 h
      cases h
      exact zr_throw0 (ik := 93) (ic := 95) zth_IOB dX9_next_31 dX9_next_34 dX9_next_35 dX9_next_38 rfl (by decide) (Nat.le_of_ble_eq_true rfl) ⟨by decide, by decide⟩ ⟨rfl, rfl⟩
    · replace h := ite_f c_10 h
      refine zr_iload_n (q := 14) dX9_next_13 rfl rfl 2 rfl ?_
      refine zr_aload_n (q := 15) dX9_next_14 rfl rfl 0 rfl ?_
      obtain ⟨c_11, h⟩ := chk_some h
      refine zr_get (q := 18) (ci := 0) (k := 2) dX9_next_15 rfl (eq_of_beq c_11) rfl (by decide) rfl zbX0 (by decide) zb_361 rfl ?_
      refine zr_icmp_ge (q := 21) (tgt := 31) dX9_next_18 rfl (by decide) (fun c_12 => ?_) (fun c_12 => ?_)
      · replace h := ite_t c_12 h
        cases h
        exact zr_throw0 (ik := 93) (ic := 95) zth_IOB dX9_next_31 dX9_next_34 dX9_next_35 dX9_next_38 rfl (by decide) (Nat.le_of_ble_eq_true rfl) ⟨by decide, by decide⟩ ⟨rfl, rfl⟩
      · replace h := ite_f c_12 h
        refine zr_iload_n (q := 22) dX9_next_21 rfl rfl 3 rfl ?_
        refine zr_if_lt (q := 25) (tgt := 31) dX9_next_22 rfl (by decide) (fun c_13 => ?_) (fun c_13 => ?_)
        · replace h := ite_t c_13 h
          cases h
          exact zr_throw0 (ik := 93) (ic := 95) zth_IOB dX9_next_31 dX9_next_34 dX9_next_35 dX9_next_38 rfl (by decide) (Nat.le_of_ble_eq_true rfl) ⟨by decide, by decide⟩ ⟨rfl, rfl⟩
        · replace h := ite_f c_13 h
          refine zr_iload_n (q := 26) dX9_next_25 rfl rfl 3 rfl ?_
          refine zr_bipush (q := 28) (v := 36) dX9_next_26 rfl (by decide) ?_
          refine zr_icmp_lt (q := 31) (tgt := 39) dX9_next_28 rfl (by decide) (fun c_14 => ?_) (fun c_14 => ?_)
          · replace h := ite_t c_14 h
            refine zr_aload_n (q := 40) dX9_next_39 rfl rfl 0 rfl ?_
            refine zr_iload_n (q := 41) dX9_next_40 rfl rfl 2 rfl ?_
            refine zr_iload_n (q := 42) dX9_next_41 rfl rfl 3 rfl ?_
            obtain ⟨c_18, h⟩ := chk_some h
            obtain ⟨r_15, M_16, hc_17, h⟩ := bnd2_some h
            refine zr_callVI (μ' := uX0_wayFrom) (q := 45) (n := 2) (ci := 0) (As := [.int v1, .int v2]) (u' := (1, 6)) (tX0_wayFrom n M_7 r_6 v1 v2 _ _ hc_17) dX9_next_42 rfl rfl ⟨zb_58, zb_362, zb_60, zb_61, zb_36⟩ zd_X0_wayFrom ⟨by decide, by decide⟩ ⟨by decide, by decide⟩ (eq_of_beq c_18) (by decide) rfl rfl rfl (Nat.le_of_ble_eq_true rfl) rfl rfl ?_
            cases h
            exact zr_ireturn dX9_next_45 rfl ⟨by decide, by decide⟩ ⟨rfl, rfl⟩
          · replace h := ite_f c_14 h
            cases h
            exact zr_throw0 (ik := 93) (ic := 95) zth_IOB dX9_next_31 dX9_next_34 dX9_next_35 dX9_next_38 rfl (by decide) (Nat.le_of_ble_eq_true rfl) ⟨by decide, by decide⟩ ⟨rfl, rfl⟩
  · cases h
    exact zr_callVX (μ' := uX9_thePattern) (q := 5) (n := 0) (ci := 9) (As := []) (u' := (1, 6)) (tX9_thePattern n M v0 _ _ hc_3) dX9_next_2 rfl rfl ⟨zb_314, zb_315, zb_316, zb_317, zb_25⟩ zd_X9_thePattern ⟨by decide, by decide⟩ ⟨by decide, by decide⟩ (eq_of_beq c_4) (by decide) rfl rfl rfl (Nat.le_of_ble_eq_true rfl) rfl rfl ⟨rfl, rfl⟩

def uX9_good : zMu := (yX9_good, cX9_good, 3, (some .boolean), { frames := 7, cells := 2, slots := 12, locals := 125 }, [])
theorem zd_X9_good : (uY uX9_good).cls ≠ "java/lang/invoke/MethodHandle" ∧ (uY uX9_good).cls ≠ "java/lang/invoke/VarHandle" ∧ (parseMethodDescriptor (uY uX9_good).desc).map (fun d => d.parameters.length) = some 1 := by decide +kernel
def fX9_good (n : Nat) (M : zM) (v0 : Nat) (v1 : Int32) : Option ((Int32 ⊕ String) × zM) :=
  chk (mK M v0 == 9) <|
  bndT (fX9_thePattern n M v0) fun r_1 M_2 =>
  chk (mK M_2 v0 == 9) <|
  bnd2 (fX9_automatonOf n M_2 v0 r_1) fun r_6 M_7 =>
  if v1 < (0 : Int32) then
    some (.inr "java/lang/IndexOutOfBoundsException", M_7)
  else
  chk (mK M_7 r_6 == 0) <|
  if v1 < (mI M_7 r_6 2) then
    chk (mK M_7 r_6 == 0) <|
    bnd (mR M_7 r_6 4) fun a_14 =>
    chk (mK M_7 a_14 == 13) <|
    chk (zin v1 (mN M_7 a_14)) <|
    chk (z01 (mI M_7 a_14 (Int32.toNatClampNeg v1))) <|
    some ((.inl (mI M_7 a_14 (Int32.toNatClampNeg v1))), M_7)
  else
  some (.inr "java/lang/IndexOutOfBoundsException", M_7)
set_option maxHeartbeats 4000000 in
theorem tX9_good (n : Nat) (M : zM) (v0 : Nat) (v1 : Int32) (r : (Int32 ⊕ String)) (M' : zM) (h : fX9_good n M v0 v1 = some (r, M')) : zMet uX9_good false M [.ref v0, .int v1] (zE (tI r) M') := by
  refine zMet_of (L := [(0, .ref v0), (1, .int v1)]) (by decide +kernel) rfl rfl (Nat.le_of_ble_eq_true rfl) ?_
  show zW uX9_good none (0, 0) M 0 [(0, .ref v0), (1, .int v1)] [] (zE (tI r) M')
  unfold fX9_good at h
  refine zr_aload_n (q := 1) dX9_good_0 rfl rfl 0 rfl ?_
  refine zr_aload_n (q := 2) dX9_good_1 rfl rfl 0 rfl ?_
  obtain ⟨c_4, h⟩ := chk_some h
  rcases bndT_some h with ⟨r_1, M_2, hc_3, h⟩ | ⟨E_5, M_2, hc_3, h⟩
  · refine zr_callVA (μ' := uX9_thePattern) (q := 5) (n := 0) (ci := 9) (As := []) (u' := (1, 6)) (tX9_thePattern n M v0 _ _ hc_3) dX9_good_2 rfl rfl ⟨zb_314, zb_315, zb_316, zb_317, zb_25⟩ zd_X9_thePattern ⟨by decide, by decide⟩ ⟨by decide, by decide⟩ (eq_of_beq c_4) (by decide) rfl rfl rfl (Nat.le_of_ble_eq_true rfl) rfl rfl ?_
    obtain ⟨c_9, h⟩ := chk_some h
    obtain ⟨r_6, M_7, hc_8, h⟩ := bnd2_some h
    refine zr_callVA (μ' := uX9_automatonOf) (q := 8) (n := 1) (ci := 9) (As := [.ref r_1]) (u' := (1, 6)) (tX9_automatonOf n M_2 v0 r_1 _ _ hc_8) dX9_good_5 rfl rfl ⟨zb_357, zb_358, zb_359, zb_360, zb_25⟩ zd_X9_automatonOf ⟨by decide, by decide⟩ ⟨by decide, by decide⟩ (eq_of_beq c_9) (by decide) rfl rfl rfl (Nat.le_of_ble_eq_true rfl) rfl rfl ?_
    refine zr_astore_n (q := 9) (L' := [(2, .ref r_6), (0, .ref v0), (1, .int v1)]) dX9_good_8 rfl rfl (by decide) rfl ?_
    refine zr_iload_n (q := 10) dX9_good_9 rfl rfl 2 rfl ?_
    refine zr_if_lt (q := 13) (tgt := 21) dX9_good_10 rfl (by decide) (fun c_10 => ?_) (fun c_10 => ?_)
    · replace h := ite_t c_10 h
      cases h
      exact zr_throw0 (ik := 93) (ic := 95) zth_IOB dX9_good_21 dX9_good_24 dX9_good_25 dX9_good_28 rfl (by decide) (Nat.le_of_ble_eq_true rfl) ⟨by decide, by decide⟩ ⟨rfl, rfl⟩
    · replace h := ite_f c_10 h
      refine zr_iload_n (q := 14) dX9_good_13 rfl rfl 2 rfl ?_
      refine zr_aload_n (q := 15) dX9_good_14 rfl rfl 0 rfl ?_
      obtain ⟨c_11, h⟩ := chk_some h
      refine zr_get (q := 18) (ci := 0) (k := 2) dX9_good_15 rfl (eq_of_beq c_11) rfl (by decide) rfl zbX0 (by decide) zb_361 rfl ?_
      refine zr_icmp_lt (q := 21) (tgt := 29) dX9_good_18 rfl (by decide) (fun c_12 => ?_) (fun c_12 => ?_)
      · replace h := ite_t c_12 h
        refine zr_aload_n (q := 30) dX9_good_29 rfl rfl 0 rfl ?_
        obtain ⟨c_13, h⟩ := chk_some h
        obtain ⟨a_14, e_15, h⟩ := bnd_some h
        refine zr_getr (q := 33) (ci := 0) (k := 4) dX9_good_30 rfl (eq_of_beq c_13) rfl (by decide) rfl zbX0 (by decide) zb_363 rfl e_15 ?_
        refine zr_iload_n (q := 34) dX9_good_33 rfl rfl 2 rfl ?_
        obtain ⟨c_16, h⟩ := chk_some h
        obtain ⟨c_17, h⟩ := chk_some h
        refine zr_zald (q := 35) dX9_good_34 rfl (eq_of_beq c_16) c_17 ?_
        obtain ⟨c_18, h⟩ := chk_some h
        cases h
        exact zr_zreturn dX9_good_35 rfl (z01_or c_18) ⟨by decide, by decide⟩ ⟨rfl, rfl⟩
      · replace h := ite_f c_12 h
        cases h
        exact zr_throw0 (ik := 93) (ic := 95) zth_IOB dX9_good_21 dX9_good_24 dX9_good_25 dX9_good_28 rfl (by decide) (Nat.le_of_ble_eq_true rfl) ⟨by decide, by decide⟩ ⟨rfl, rfl⟩
  · cases h
    exact zr_callVX (μ' := uX9_thePattern) (q := 5) (n := 0) (ci := 9) (As := []) (u' := (1, 6)) (tX9_thePattern n M v0 _ _ hc_3) dX9_good_2 rfl rfl ⟨zb_314, zb_315, zb_316, zb_317, zb_25⟩ zd_X9_thePattern ⟨by decide, by decide⟩ ⟨by decide, by decide⟩ (eq_of_beq c_4) (by decide) rfl rfl rfl (Nat.le_of_ble_eq_true rfl) rfl rfl ⟨rfl, rfl⟩

def uX9_classes : zMu := (yX9_classes, cX9_classes, 2, (some .int), { frames := 7, cells := 1, slots := 6, locals := 125 }, [])
theorem zd_X9_classes : (uY uX9_classes).cls ≠ "java/lang/invoke/MethodHandle" ∧ (uY uX9_classes).cls ≠ "java/lang/invoke/VarHandle" ∧ (parseMethodDescriptor (uY uX9_classes).desc).map (fun d => d.parameters.length) = some 0 := by decide +kernel
def fX9_classes (n : Nat) (M : zM) (v0 : Nat) : Option ((Int32 ⊕ String) × zM) :=
  chk (mK M v0 == 9) <|
  bndT (fX9_thePattern n M v0) fun r_1 M_2 =>
  chk (mK M_2 v0 == 9) <|
  bnd2 (fX9_automatonOf n M_2 v0 r_1) fun r_6 M_7 =>
  chk (mK M_7 r_6 == 0) <|
  if (mI M_7 r_6 1) = (0 : Int32) then
    chk (mK M_7 r_6 == 0) <|
    if (mI M_7 r_6 3) = (-1 : Int32) then
      chk (mK M_7 v0 == 9) <|
      bnd (mR M_7 v0 3) fun a_16 =>
      chk (mK M_7 v0 == 9) <|
      bnd (mR M_7 v0 2) fun a_19 =>
      chk (mK M_7 a_16 == 2) <|
      bnd2 (fX2_countGroups n M_7 a_16 r_6 a_19) fun r_21 M_22 =>
      chk (mK M_22 r_6 == 0) <|
      app (wI M_22 r_6 3 r_21) fun M_26 : zM =>
      chk (mK M_26 r_6 == 0) <|
      some ((.inl (mI M_26 r_6 3)), M_26)
    else
    chk (mK M_7 r_6 == 0) <|
    some ((.inl (mI M_7 r_6 3)), M_7)
  else
  some ((.inl (-1 : Int32)), M_7)
set_option maxHeartbeats 4000000 in
theorem tX9_classes (n : Nat) (M : zM) (v0 : Nat) (r : (Int32 ⊕ String)) (M' : zM) (h : fX9_classes n M v0 = some (r, M')) : zMet uX9_classes false M [.ref v0] (zE (tI r) M') := by
  refine zMet_of (L := [(0, .ref v0)]) (by decide +kernel) rfl rfl (Nat.le_of_ble_eq_true rfl) ?_
  show zW uX9_classes none (0, 0) M 0 [(0, .ref v0)] [] (zE (tI r) M')
  unfold fX9_classes at h
  refine zr_aload_n (q := 1) dX9_classes_0 rfl rfl 0 rfl ?_
  refine zr_aload_n (q := 2) dX9_classes_1 rfl rfl 0 rfl ?_
  obtain ⟨c_4, h⟩ := chk_some h
  rcases bndT_some h with ⟨r_1, M_2, hc_3, h⟩ | ⟨E_5, M_2, hc_3, h⟩
  · refine zr_callVA (μ' := uX9_thePattern) (q := 5) (n := 0) (ci := 9) (As := []) (u' := (1, 6)) (tX9_thePattern n M v0 _ _ hc_3) dX9_classes_2 rfl rfl ⟨zb_314, zb_315, zb_316, zb_317, zb_25⟩ zd_X9_thePattern ⟨by decide, by decide⟩ ⟨by decide, by decide⟩ (eq_of_beq c_4) (by decide) rfl rfl rfl (Nat.le_of_ble_eq_true rfl) rfl rfl ?_
    obtain ⟨c_9, h⟩ := chk_some h
    obtain ⟨r_6, M_7, hc_8, h⟩ := bnd2_some h
    refine zr_callVA (μ' := uX9_automatonOf) (q := 8) (n := 1) (ci := 9) (As := [.ref r_1]) (u' := (1, 6)) (tX9_automatonOf n M_2 v0 r_1 _ _ hc_8) dX9_classes_5 rfl rfl ⟨zb_357, zb_358, zb_359, zb_360, zb_25⟩ zd_X9_automatonOf ⟨by decide, by decide⟩ ⟨by decide, by decide⟩ (eq_of_beq c_9) (by decide) rfl rfl rfl (Nat.le_of_ble_eq_true rfl) rfl rfl ?_
    refine zr_astore_n (q := 9) (L' := [(1, .ref r_6), (0, .ref v0)]) dX9_classes_8 rfl rfl (by decide) rfl ?_
    refine zr_aload_n (q := 10) dX9_classes_9 rfl rfl 0 rfl ?_
    obtain ⟨c_10, h⟩ := chk_some h
    refine zr_get (q := 13) (ci := 0) (k := 1) dX9_classes_10 rfl (eq_of_beq c_10) rfl (by decide) rfl zbX0 (by decide) zb_364 rfl ?_
    refine zr_if_eq (q := 16) (tgt := 18) dX9_classes_13 rfl (by decide) (fun c_11 => ?_) (fun c_11 => ?_)
    · replace h := ite_t c_11 h
      refine zr_aload_n (q := 19) dX9_classes_18 rfl rfl 0 rfl ?_
      obtain ⟨c_12, h⟩ := chk_some h
      refine zr_get (q := 22) (ci := 0) (k := 3) dX9_classes_19 rfl (eq_of_beq c_12) rfl (by decide) rfl zbX0 (by decide) zb_365 rfl ?_
      refine zr_iconst (q := 23) (v := -1) dX9_classes_22 rfl (by decide) ?_
      refine zr_icmp_ne (q := 26) (tgt := 42) dX9_classes_23 rfl (by decide) (fun c_13 => ?_) (fun c_13 => ?_)
      · replace h := ite_f c_13 h
        refine zr_aload_n (q := 43) dX9_classes_42 rfl rfl 0 rfl ?_
        obtain ⟨c_14, h⟩ := chk_some h
        refine zr_get (q := 46) (ci := 0) (k := 3) dX9_classes_43 rfl (eq_of_beq c_14) rfl (by decide) rfl zbX0 (by decide) zb_365 rfl ?_
        cases h
        exact zr_ireturn dX9_classes_46 rfl ⟨by decide, by decide⟩ ⟨rfl, rfl⟩
      · replace h := ite_t c_13 h
        refine zr_aload_n (q := 27) dX9_classes_26 rfl rfl 0 rfl ?_
        refine zr_aload_n (q := 28) dX9_classes_27 rfl rfl 1 rfl ?_
        obtain ⟨c_15, h⟩ := chk_some h
        obtain ⟨a_16, e_17, h⟩ := bnd_some h
        refine zr_getr (q := 31) (ci := 9) (k := 3) dX9_classes_28 rfl (eq_of_beq c_15) rfl (by decide) rfl zbX9 (by decide) zb_366 rfl e_17 ?_
        refine zr_aload_n (q := 32) dX9_classes_31 rfl rfl 0 rfl ?_
        refine zr_aload_n (q := 33) dX9_classes_32 rfl rfl 1 rfl ?_
        obtain ⟨c_18, h⟩ := chk_some h
        obtain ⟨a_19, e_20, h⟩ := bnd_some h
        refine zr_getr (q := 36) (ci := 9) (k := 2) dX9_classes_33 rfl (eq_of_beq c_18) rfl (by decide) rfl zbX9 (by decide) zb_352 rfl e_20 ?_
        obtain ⟨c_24, h⟩ := chk_some h
        obtain ⟨r_21, M_22, hc_23, h⟩ := bnd2_some h
        refine zr_callVI (μ' := uX2_countGroups) (q := 39) (n := 2) (ci := 2) (As := [.ref r_6, .ref a_19]) (u' := (1, 6)) (tX2_countGroups n M_7 a_16 r_6 a_19 _ _ hc_23) dX9_classes_36 rfl rfl ⟨zb_367, zb_368, zb_369, zb_370, zb_97⟩ zd_X2_countGroups ⟨by decide, by decide⟩ ⟨by decide, by decide⟩ (eq_of_beq c_24) (by decide) rfl rfl rfl (Nat.le_of_ble_eq_true rfl) rfl rfl ?_
        obtain ⟨c_25, h⟩ := chk_some h
        obtain ⟨M_26, e_27, h⟩ := app_some h
        refine zr_putI (q := 42) (ci := 0) (k := 3) dX9_classes_39 rfl (eq_of_beq c_25) rfl (by decide) rfl zbX0 tyX0_ok nmX0 (by decide) zb_365 (Or.inl rfl) rfl ?_
        refine zr_mem e_27 ?_
        refine zr_aload_n (q := 43) dX9_classes_42 rfl rfl 0 rfl ?_
        obtain ⟨c_28, h⟩ := chk_some h
        refine zr_get (q := 46) (ci := 0) (k := 3) dX9_classes_43 rfl (eq_of_beq c_28) rfl (by decide) rfl zbX0 (by decide) zb_365 rfl ?_
        cases h
        exact zr_ireturn dX9_classes_46 rfl ⟨by decide, by decide⟩ ⟨rfl, rfl⟩
    · replace h := ite_f c_11 h
      refine zr_iconst (q := 17) (v := -1) dX9_classes_16 rfl (by decide) ?_
      cases h
      exact zr_ireturn dX9_classes_17 rfl ⟨by decide, by decide⟩ ⟨rfl, rfl⟩
  · cases h
    exact zr_callVX (μ' := uX9_thePattern) (q := 5) (n := 0) (ci := 9) (As := []) (u' := (1, 6)) (tX9_thePattern n M v0 _ _ hc_3) dX9_classes_2 rfl rfl ⟨zb_314, zb_315, zb_316, zb_317, zb_25⟩ zd_X9_thePattern ⟨by decide, by decide⟩ ⟨by decide, by decide⟩ (eq_of_beq c_4) (by decide) rfl rfl rfl (Nat.le_of_ble_eq_true rfl) rfl rfl ⟨rfl, rfl⟩

def uX9_keep : zMu := (yX9_keep, cX9_keep, 1, none, { frames := 7, cells := 1, slots := 6, locals := 101 }, [])
theorem zd_X9_keep : (uY uX9_keep).cls ≠ "java/lang/invoke/MethodHandle" ∧ (uY uX9_keep).cls ≠ "java/lang/invoke/VarHandle" ∧ (parseMethodDescriptor (uY uX9_keep).desc).map (fun d => d.parameters.length) = some 0 := by decide +kernel
def fX9_keep (n : Nat) (M : zM) (v0 : Nat) : Option ((Unit ⊕ String) × zM) :=
  chk (mK M v0 == 9) <|
  bndT (fX9_thePattern n M v0) fun r_1 M_2 =>
  chk (mK M_2 v0 == 9) <|
  app (wR M_2 v0 7 (some r_1)) fun M_7 : zM =>
  some ((.inl ()), M_7)
set_option maxHeartbeats 4000000 in
theorem tX9_keep (n : Nat) (M : zM) (v0 : Nat) (r : (Unit ⊕ String)) (M' : zM) (h : fX9_keep n M v0 = some (r, M')) : zMet uX9_keep false M [.ref v0] (zE (tV r) M') := by
  refine zMet_of (L := [(0, .ref v0)]) (by decide +kernel) rfl rfl (Nat.le_of_ble_eq_true rfl) ?_
  show zW uX9_keep none (0, 0) M 0 [(0, .ref v0)] [] (zE (tV r) M')
  unfold fX9_keep at h
  refine zr_aload_n (q := 1) dX9_keep_0 rfl rfl 0 rfl ?_
  refine zr_aload_n (q := 2) dX9_keep_1 rfl rfl 0 rfl ?_
  obtain ⟨c_4, h⟩ := chk_some h
  rcases bndT_some h with ⟨r_1, M_2, hc_3, h⟩ | ⟨E_5, M_2, hc_3, h⟩
  · refine zr_callVA (μ' := uX9_thePattern) (q := 5) (n := 0) (ci := 9) (As := []) (u' := (1, 6)) (tX9_thePattern n M v0 _ _ hc_3) dX9_keep_2 rfl rfl ⟨zb_314, zb_315, zb_316, zb_317, zb_25⟩ zd_X9_thePattern ⟨by decide, by decide⟩ ⟨by decide, by decide⟩ (eq_of_beq c_4) (by decide) rfl rfl rfl (Nat.le_of_ble_eq_true rfl) rfl rfl ?_
    obtain ⟨c_6, h⟩ := chk_some h
    obtain ⟨M_7, e_8, h⟩ := app_some h
    refine zr_putR (q := 8) (ci := 9) (k := 7) dX9_keep_5 rfl (eq_of_beq c_6) rfl (by decide) rfl zbX9 tyX9_ok nmX9 (by decide) zb_299 (Or.inl rfl) rfl ?_
    refine zr_mem e_8 ?_
    cases h
    exact zr_return dX9_keep_8 rfl ⟨by decide, by decide⟩ ⟨rfl, rfl⟩
  · cases h
    exact zr_callVX (μ' := uX9_thePattern) (q := 5) (n := 0) (ci := 9) (As := []) (u' := (1, 6)) (tX9_thePattern n M v0 _ _ hc_3) dX9_keep_2 rfl rfl ⟨zb_314, zb_315, zb_316, zb_317, zb_25⟩ zd_X9_thePattern ⟨by decide, by decide⟩ ⟨by decide, by decide⟩ (eq_of_beq c_4) (by decide) rfl rfl rfl (Nat.le_of_ble_eq_true rfl) rfl rfl ⟨rfl, rfl⟩

def uX9_differ : zMu := (yX9_differ, cX9_differ, 2, (some .int), { frames := 7, cells := 2, slots := 12, locals := 125 }, [])
theorem zd_X9_differ : (uY uX9_differ).cls ≠ "java/lang/invoke/MethodHandle" ∧ (uY uX9_differ).cls ≠ "java/lang/invoke/VarHandle" ∧ (parseMethodDescriptor (uY uX9_differ).desc).map (fun d => d.parameters.length) = some 0 := by decide +kernel
def fX9_differ (n : Nat) (M : zM) (v0 : Nat) : Option ((Int32 ⊕ String) × zM) :=
  chk (mK M v0 == 9) <|
  bndT (fX9_thePattern n M v0) fun r_1 M_2 =>
  chk (mK M_2 v0 == 9) <|
  if (mR M_2 v0 7).isSome = true then
    chk (mK M_2 v0 == 9) <|
    bnd (mR M_2 v0 4) fun a_10 =>
    chk (mK M_2 v0 == 9) <|
    bnd2 (fX9_automatonOf n M_2 v0 r_1) fun r_12 M_13 =>
    chk (mK M_13 v0 == 9) <|
    bnd (mR M_13 v0 7) fun a_17 =>
    chk (mK M_13 v0 == 9) <|
    bnd2 (fX9_automatonOf n M_13 v0 a_17) fun r_19 M_20 =>
    chk (mK M_20 a_10 == 1) <|
    bnd2 (fX1_compare n M_20 a_10 r_12 r_19) fun r_23 M_24 =>
    some ((.inl r_23), M_24)
  else
  some (.inr "java/lang/IllegalStateException", M_2)
set_option maxHeartbeats 4000000 in
theorem tX9_differ (n : Nat) (M : zM) (v0 : Nat) (r : (Int32 ⊕ String)) (M' : zM) (h : fX9_differ n M v0 = some (r, M')) : zMet uX9_differ false M [.ref v0] (zE (tI r) M') := by
  refine zMet_of (L := [(0, .ref v0)]) (by decide +kernel) rfl rfl (Nat.le_of_ble_eq_true rfl) ?_
  show zW uX9_differ none (0, 0) M 0 [(0, .ref v0)] [] (zE (tI r) M')
  unfold fX9_differ at h
  refine zr_aload_n (q := 1) dX9_differ_0 rfl rfl 0 rfl ?_
  obtain ⟨c_4, h⟩ := chk_some h
  rcases bndT_some h with ⟨r_1, M_2, hc_3, h⟩ | ⟨E_5, M_2, hc_3, h⟩
  · refine zr_callVA (μ' := uX9_thePattern) (q := 4) (n := 0) (ci := 9) (As := []) (u' := (1, 6)) (tX9_thePattern n M v0 _ _ hc_3) dX9_differ_1 rfl rfl ⟨zb_314, zb_315, zb_316, zb_317, zb_25⟩ zd_X9_thePattern ⟨by decide, by decide⟩ ⟨by decide, by decide⟩ (eq_of_beq c_4) (by decide) rfl rfl rfl (Nat.le_of_ble_eq_true rfl) rfl rfl ?_
    refine zr_astore_n (q := 5) (L' := [(1, .ref r_1), (0, .ref v0)]) dX9_differ_4 rfl rfl (by decide) rfl ?_
    refine zr_aload_n (q := 6) dX9_differ_5 rfl rfl 1 rfl ?_
    obtain ⟨c_6, h⟩ := chk_some h
    refine zr_get (q := 9) (ci := 9) (k := 7) dX9_differ_6 rfl (eq_of_beq c_6) rfl (by decide) rfl zbX9 (by decide) zb_299 rfl ?_
    refine zr_ifnonnull (q := 12) (tgt := 20) dX9_differ_9 rfl (by decide) (fun b_7 c_8 => ?_) (fun c_8 => ?_)
    · replace h := ite_t (by rw [c_8]; rfl) h
      refine zr_aload_n (q := 21) dX9_differ_20 rfl rfl 1 rfl ?_
      obtain ⟨c_9, h⟩ := chk_some h
      obtain ⟨a_10, e_11, h⟩ := bnd_some h
      refine zr_getr (q := 24) (ci := 9) (k := 4) dX9_differ_21 rfl (eq_of_beq c_9) rfl (by decide) rfl zbX9 (by decide) zb_371 rfl e_11 ?_
      refine zr_aload_n (q := 25) dX9_differ_24 rfl rfl 1 rfl ?_
      refine zr_aload_n (q := 26) dX9_differ_25 rfl rfl 0 rfl ?_
      obtain ⟨c_15, h⟩ := chk_some h
      obtain ⟨r_12, M_13, hc_14, h⟩ := bnd2_some h
      refine zr_callVA (μ' := uX9_automatonOf) (q := 29) (n := 1) (ci := 9) (As := [.ref r_1]) (u' := (1, 6)) (tX9_automatonOf n M_2 v0 r_1 _ _ hc_14) dX9_differ_26 rfl rfl ⟨zb_357, zb_358, zb_359, zb_360, zb_25⟩ zd_X9_automatonOf ⟨by decide, by decide⟩ ⟨by decide, by decide⟩ (eq_of_beq c_15) (by decide) rfl rfl rfl (Nat.le_of_ble_eq_true rfl) rfl rfl ?_
      refine zr_aload_n (q := 30) dX9_differ_29 rfl rfl 1 rfl ?_
      refine zr_aload_n (q := 31) dX9_differ_30 rfl rfl 1 rfl ?_
      obtain ⟨c_16, h⟩ := chk_some h
      obtain ⟨a_17, e_18, h⟩ := bnd_some h
      refine zr_getr (q := 34) (ci := 9) (k := 7) dX9_differ_31 rfl (eq_of_beq c_16) rfl (by decide) rfl zbX9 (by decide) zb_299 rfl e_18 ?_
      obtain ⟨c_22, h⟩ := chk_some h
      obtain ⟨r_19, M_20, hc_21, h⟩ := bnd2_some h
      refine zr_callVA (μ' := uX9_automatonOf) (q := 37) (n := 1) (ci := 9) (As := [.ref a_17]) (u' := (1, 6)) (tX9_automatonOf n M_13 v0 a_17 _ _ hc_21) dX9_differ_34 rfl rfl ⟨zb_357, zb_358, zb_359, zb_360, zb_25⟩ zd_X9_automatonOf ⟨by decide, by decide⟩ ⟨by decide, by decide⟩ (eq_of_beq c_22) (by decide) rfl rfl rfl (Nat.le_of_ble_eq_true rfl) rfl rfl ?_
      obtain ⟨c_26, h⟩ := chk_some h
      obtain ⟨r_23, M_24, hc_25, h⟩ := bnd2_some h
      refine zr_callVI (μ' := uX1_compare) (q := 40) (n := 2) (ci := 1) (As := [.ref r_12, .ref r_19]) (u' := (1, 6)) (tX1_compare n M_20 a_10 r_12 r_19 _ _ hc_25) dX9_differ_37 rfl rfl ⟨zb_372, zb_373, zb_374, zb_375, zb_56⟩ zd_X1_compare ⟨by decide, by decide⟩ ⟨by decide, by decide⟩ (eq_of_beq c_26) (by decide) rfl rfl rfl (Nat.le_of_ble_eq_true rfl) rfl rfl ?_
      cases h
      exact zr_ireturn dX9_differ_40 rfl ⟨by decide, by decide⟩ ⟨rfl, rfl⟩
    · replace h := ite_f (by rw [c_8]; decide) h
      cases h
      exact zr_throw0 (ik := 58) (ic := 60) zth_ISE dX9_differ_12 dX9_differ_15 dX9_differ_16 dX9_differ_19 rfl (by decide) (Nat.le_of_ble_eq_true rfl) ⟨by decide, by decide⟩ ⟨rfl, rfl⟩
  · cases h
    exact zr_callVX (μ' := uX9_thePattern) (q := 4) (n := 0) (ci := 9) (As := []) (u' := (1, 6)) (tX9_thePattern n M v0 _ _ hc_3) dX9_differ_1 rfl rfl ⟨zb_314, zb_315, zb_316, zb_317, zb_25⟩ zd_X9_thePattern ⟨by decide, by decide⟩ ⟨by decide, by decide⟩ (eq_of_beq c_4) (by decide) rfl rfl rfl (Nat.le_of_ble_eq_true rfl) rfl rfl ⟨rfl, rfl⟩

def uX9_letter : zMu := (yX9_letter, cX9_letter, 2, (some .int), { frames := 6, cells := 1, slots := 6, locals := 81 }, [])
theorem zd_X9_letter : (uY uX9_letter).cls ≠ "java/lang/invoke/MethodHandle" ∧ (uY uX9_letter).cls ≠ "java/lang/invoke/VarHandle" ∧ (parseMethodDescriptor (uY uX9_letter).desc).map (fun d => d.parameters.length) = some 1 := by decide +kernel
def fX9_letter (n : Nat) (M : zM) (v0 : Nat) (v1 : Int32) : Option ((Int32 ⊕ String) × zM) :=
  if v1 < (0 : Int32) then
    some (.inr "java/lang/IndexOutOfBoundsException", M)
  else
  chk (mK M v0 == 9) <|
  bnd (mR M v0 4) fun a_3 =>
  chk (mK M a_3 == 1) <|
  if v1 < (mI M a_3 0) then
    chk (mK M v0 == 9) <|
    bnd (mR M v0 4) fun a_8 =>
    chk (mK M a_8 == 1) <|
    bnd (mR M a_8 1) fun a_11 =>
    chk (mK M a_11 == 11) <|
    chk (zin v1 (mN M a_11)) <|
    some ((.inl (mI M a_11 (Int32.toNatClampNeg v1))), M)
  else
  some (.inr "java/lang/IndexOutOfBoundsException", M)
set_option maxHeartbeats 4000000 in
theorem tX9_letter (n : Nat) (M : zM) (v0 : Nat) (v1 : Int32) (r : (Int32 ⊕ String)) (M' : zM) (h : fX9_letter n M v0 v1 = some (r, M')) : zMet uX9_letter false M [.ref v0, .int v1] (zE (tI r) M') := by
  refine zMet_of (L := [(0, .ref v0), (1, .int v1)]) (by decide +kernel) rfl rfl (Nat.le_of_ble_eq_true rfl) ?_
  show zW uX9_letter none (0, 0) M 0 [(0, .ref v0), (1, .int v1)] [] (zE (tI r) M')
  unfold fX9_letter at h
  refine zr_iload_n (q := 1) dX9_letter_0 rfl rfl 1 rfl ?_
  refine zr_if_lt (q := 4) (tgt := 15) dX9_letter_1 rfl (by decide) (fun c_1 => ?_) (fun c_1 => ?_)
  · replace h := ite_t c_1 h
    cases h
    exact zr_throw0 (ik := 93) (ic := 95) zth_IOB dX9_letter_15 dX9_letter_18 dX9_letter_19 dX9_letter_22 rfl (by decide) (Nat.le_of_ble_eq_true rfl) ⟨by decide, by decide⟩ ⟨rfl, rfl⟩
  · replace h := ite_f c_1 h
    refine zr_iload_n (q := 5) dX9_letter_4 rfl rfl 1 rfl ?_
    refine zr_aload_n (q := 6) dX9_letter_5 rfl rfl 0 rfl ?_
    obtain ⟨c_2, h⟩ := chk_some h
    obtain ⟨a_3, e_4, h⟩ := bnd_some h
    refine zr_getr (q := 9) (ci := 9) (k := 4) dX9_letter_6 rfl (eq_of_beq c_2) rfl (by decide) rfl zbX9 (by decide) zb_371 rfl e_4 ?_
    obtain ⟨c_5, h⟩ := chk_some h
    refine zr_get (q := 12) (ci := 1) (k := 0) dX9_letter_9 rfl (eq_of_beq c_5) rfl (by decide) rfl zbX1 (by decide) zb_376 rfl ?_
    refine zr_icmp_lt (q := 15) (tgt := 23) dX9_letter_12 rfl (by decide) (fun c_6 => ?_) (fun c_6 => ?_)
    · replace h := ite_t c_6 h
      refine zr_aload_n (q := 24) dX9_letter_23 rfl rfl 0 rfl ?_
      obtain ⟨c_7, h⟩ := chk_some h
      obtain ⟨a_8, e_9, h⟩ := bnd_some h
      refine zr_getr (q := 27) (ci := 9) (k := 4) dX9_letter_24 rfl (eq_of_beq c_7) rfl (by decide) rfl zbX9 (by decide) zb_371 rfl e_9 ?_
      obtain ⟨c_10, h⟩ := chk_some h
      obtain ⟨a_11, e_12, h⟩ := bnd_some h
      refine zr_getr (q := 30) (ci := 1) (k := 1) dX9_letter_27 rfl (eq_of_beq c_10) rfl (by decide) rfl zbX1 (by decide) zb_377 rfl e_12 ?_
      refine zr_iload_n (q := 31) dX9_letter_30 rfl rfl 1 rfl ?_
      obtain ⟨c_13, h⟩ := chk_some h
      obtain ⟨c_14, h⟩ := chk_some h
      refine zr_iald (q := 32) dX9_letter_31 rfl (eq_of_beq c_13) c_14 ?_
      cases h
      exact zr_ireturn dX9_letter_32 rfl ⟨by decide, by decide⟩ ⟨rfl, rfl⟩
    · replace h := ite_f c_6 h
      cases h
      exact zr_throw0 (ik := 93) (ic := 95) zth_IOB dX9_letter_15 dX9_letter_18 dX9_letter_19 dX9_letter_22 rfl (by decide) (Nat.le_of_ble_eq_true rfl) ⟨by decide, by decide⟩ ⟨rfl, rfl⟩
