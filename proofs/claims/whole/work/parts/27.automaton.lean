/-! by program: wip/decomp.py, wip/mk_code.py -/
def uX0_wayFrom : zMu := (yX0_wayFrom, cX0_wayFrom, 3, (some .int), { frames := 0, cells := 0, slots := 0, locals := 0 }, [])
theorem zd_X0_wayFrom : (uY uX0_wayFrom).cls ≠ "java/lang/invoke/MethodHandle" ∧ (uY uX0_wayFrom).cls ≠ "java/lang/invoke/VarHandle" ∧ (parseMethodDescriptor (uY uX0_wayFrom).desc).map (fun d => d.parameters.length) = some 2 := by decide +kernel
def fX0_wayFrom (n : Nat) (M : zM) (v0 : Nat) (v1 : Int32) (v2 : Int32) : Option (Int32 × zM) :=
  chk (mK M v0 == 0) <|
  bnd (mR M v0 5) fun a_2 =>
  chk (mK M a_2 == 11) <|
  chk (zin ((v1 * (36 : Int32)) + v2) (mN M a_2)) <|
  some ((mI M a_2 (Int32.toNatClampNeg ((v1 * (36 : Int32)) + v2))), M)
set_option maxHeartbeats 4000000 in
theorem tX0_wayFrom (n : Nat) (M : zM) (v0 : Nat) (v1 : Int32) (v2 : Int32) (r : Int32) (M' : zM) (h : fX0_wayFrom n M v0 v1 v2 = some (r, M')) : zMet uX0_wayFrom false M [.ref v0, .int v1, .int v2] (zE (oI r) M') := by
  refine zMet_of (L := [(0, .ref v0), (1, .int v1), (2, .int v2)]) (by decide +kernel) rfl rfl (Nat.le_of_ble_eq_true rfl) ?_
  show zW uX0_wayFrom none (0, 0) M 0 [(0, .ref v0), (1, .int v1), (2, .int v2)] [] (zE (oI r) M')
  unfold fX0_wayFrom at h
  refine zr_aload_n (q := 1) dX0_wayFrom_0 rfl rfl 0 rfl ?_
  obtain ⟨c_1, h⟩ := chk_some h
  obtain ⟨a_2, e_3, h⟩ := bnd_some h
  refine zr_getr (q := 4) (ci := 0) (k := 5) dX0_wayFrom_1 rfl (eq_of_beq c_1) rfl (by decide) rfl zbX0 (by decide) zb_0 rfl e_3 ?_
  refine zr_iload_n (q := 5) dX0_wayFrom_4 rfl rfl 1 rfl ?_
  refine zr_bipush (q := 7) (v := 36) dX0_wayFrom_5 rfl (by decide) ?_
  refine zr_imul (q := 8) dX0_wayFrom_7 rfl ?_
  refine zr_iload_n (q := 9) dX0_wayFrom_8 rfl rfl 2 rfl ?_
  refine zr_iadd (q := 10) dX0_wayFrom_9 rfl ?_
  obtain ⟨c_4, h⟩ := chk_some h
  obtain ⟨c_5, h⟩ := chk_some h
  refine zr_iald (q := 11) dX0_wayFrom_10 rfl (eq_of_beq c_4) c_5 ?_
  cases h
  exact zr_ireturn dX0_wayFrom_11 rfl ⟨by decide, by decide⟩ ⟨rfl, rfl⟩

def uX0_layWays : zMu := (yX0_layWays, cX0_layWays, 8, none, { frames := 2, cells := 0, slots := 0, locals := 51 }, [])
theorem zd_X0_layWays : (uY uX0_layWays).cls ≠ "java/lang/invoke/MethodHandle" ∧ (uY uX0_layWays).cls ≠ "java/lang/invoke/VarHandle" ∧ (parseMethodDescriptor (uY uX0_layWays).desc).map (fun d => d.parameters.length) = some 4 := by decide +kernel
def fX0_layWays_75 (k3 : zM → Nat → Int32 → Int64 → Nat → Nat → Int32 → Option (Unit × zM)) (n : Nat) (M : zM) (v0 : Nat) (v1 : Int32) (v2 : Int64) (v4 : Nat) (v5 : Nat) (v6 : Int32) (s0 : Nat) (s1 : Int32) : Option (Unit × zM) :=
  chk (mK M s0 == 0) <|
  chk (z01 s1) <|
  app (wI M s0 1 s1) fun M_3 : zM =>
  app (v6 + (1 : Int32)) fun v6_5 : Int32 =>
  k3 M_3 v0 v1 v2 v4 v5 v6_5
set_option maxHeartbeats 4000000 in
theorem tX0_layWays_75 (k3 : zM → Nat → Int32 → Int64 → Nat → Nat → Int32 → Option (Unit × zM)) (h3 : ∀ (M : zM) (v0 : Nat) (v1 : Int32) (v2 : Int64) (v4 : Nat) (v5 : Nat) (v6 : Int32) (r : Unit) (M' : zM), k3 M v0 v1 v2 v4 v5 v6 = some (r, M') → zW uX0_layWays none (0, 0) M 3 [(0, .ref v0), (1, .int v1), (2, .long v2), (4, .ref v4), (5, .ref v5), (6, .int v6)] [] (zE (oV r) M')) (n : Nat) (M : zM) (v0 : Nat) (v1 : Int32) (v2 : Int64) (v4 : Nat) (v5 : Nat) (v6 : Int32) (s0 : Nat) (s1 : Int32) (r : Unit) (M' : zM) (h : fX0_layWays_75 k3 n M v0 v1 v2 v4 v5 v6 s0 s1 = some (r, M')) : zW uX0_layWays none (0, 0) M 75 [(0, .ref v0), (1, .int v1), (2, .long v2), (4, .ref v4), (5, .ref v5), (6, .int v6)] [.int s1, .ref s0] (zE (oV r) M') := by
  unfold fX0_layWays_75 at h
  obtain ⟨c_1, h⟩ := chk_some h
  obtain ⟨c_2, h⟩ := chk_some h
  obtain ⟨M_3, e_4, h⟩ := app_some h
  refine zr_putZ (q := 78) (ci := 0) (k := 1) dX0_layWays_75 rfl (eq_of_beq c_1) rfl (by decide) rfl zbX0 tyX0_ok nmX0 (by decide) zb_14 (Or.inl rfl) rfl (z01_or c_2) ?_
  refine zr_mem e_4 ?_
  obtain ⟨v6_5, e_6, h⟩ := app_some h
  refine zr_iinc (q := 81) (v := v6_5) (L' := [(6, .int v6_5), (0, .ref v0), (1, .int v1), (2, .long v2), (4, .ref v4), (5, .ref v5)]) dX0_layWays_78 rfl 5 rfl (by rw [← e_6]; rfl) (by decide) rfl ?_
  refine zr_goto (q := 3) dX0_layWays_81 (by decide) ?_
  exact zr_pick [1, 2, 3, 4, 5, 0] rfl (h3 M_3 v0 v1 v2 v4 v5 v6_5 _ _ h)
def fX0_layWays_70 (k3 : zM → Nat → Int32 → Int64 → Nat → Nat → Int32 → Option (Unit × zM)) (n : Nat) (M : zM) (v0 : Nat) (v1 : Int32) (v2 : Int64) (v4 : Nat) (v5 : Nat) (v6 : Int32) (s0 : Nat) : Option (Unit × zM) :=
  fX0_layWays_75 k3 n M v0 v1 v2 v4 v5 v6 s0 (1 : Int32)
set_option maxHeartbeats 4000000 in
theorem tX0_layWays_70 (k3 : zM → Nat → Int32 → Int64 → Nat → Nat → Int32 → Option (Unit × zM)) (h3 : ∀ (M : zM) (v0 : Nat) (v1 : Int32) (v2 : Int64) (v4 : Nat) (v5 : Nat) (v6 : Int32) (r : Unit) (M' : zM), k3 M v0 v1 v2 v4 v5 v6 = some (r, M') → zW uX0_layWays none (0, 0) M 3 [(0, .ref v0), (1, .int v1), (2, .long v2), (4, .ref v4), (5, .ref v5), (6, .int v6)] [] (zE (oV r) M')) (n : Nat) (M : zM) (v0 : Nat) (v1 : Int32) (v2 : Int64) (v4 : Nat) (v5 : Nat) (v6 : Int32) (s0 : Nat) (r : Unit) (M' : zM) (h : fX0_layWays_70 k3 n M v0 v1 v2 v4 v5 v6 s0 = some (r, M')) : zW uX0_layWays none (0, 0) M 70 [(0, .ref v0), (1, .int v1), (2, .long v2), (4, .ref v4), (5, .ref v5), (6, .int v6)] [.ref s0] (zE (oV r) M') := by
  unfold fX0_layWays_70 at h
  refine zr_iconst (q := 71) (v := 1) dX0_layWays_70 rfl (by decide) ?_
  refine zr_goto (q := 75) dX0_layWays_71 (by decide) ?_
  exact zr_pick [0, 1, 2, 3, 4, 5] rfl (tX0_layWays_75 k3 h3 n M v0 v1 v2 v4 v5 v6 s0 (1 : Int32) _ _ h)
def fX0_layWays_55 (k3 : zM → Nat → Int32 → Int64 → Nat → Nat → Int32 → Option (Unit × zM)) (n : Nat) (M : zM) (v0 : Nat) (v1 : Int32) (v2 : Int64) (v4 : Nat) (v5 : Nat) (v6 : Int32) (v7 : Int32) (s0 : Nat) (s1 : Int32) (s2 : Int32) : Option (Unit × zM) :=
  chk (mK M s0 == 11) <|
  chk (zin s1 (mN M s0)) <|
  app (wI M s0 (Int32.toNatClampNeg s1) s2) fun M_3 : zM =>
  chk (mK M_3 v0 == 0) <|
  if (mI M_3 v0 1) = (0 : Int32) then
    if v7 = (-1 : Int32) then
      fX0_layWays_70 k3 n M_3 v0 v1 v2 v4 v5 v6 v0
    else
    fX0_layWays_75 k3 n M_3 v0 v1 v2 v4 v5 v6 v0 (0 : Int32)
  else
  fX0_layWays_70 k3 n M_3 v0 v1 v2 v4 v5 v6 v0
set_option maxHeartbeats 4000000 in
theorem tX0_layWays_55 (k3 : zM → Nat → Int32 → Int64 → Nat → Nat → Int32 → Option (Unit × zM)) (h3 : ∀ (M : zM) (v0 : Nat) (v1 : Int32) (v2 : Int64) (v4 : Nat) (v5 : Nat) (v6 : Int32) (r : Unit) (M' : zM), k3 M v0 v1 v2 v4 v5 v6 = some (r, M') → zW uX0_layWays none (0, 0) M 3 [(0, .ref v0), (1, .int v1), (2, .long v2), (4, .ref v4), (5, .ref v5), (6, .int v6)] [] (zE (oV r) M')) (n : Nat) (M : zM) (v0 : Nat) (v1 : Int32) (v2 : Int64) (v4 : Nat) (v5 : Nat) (v6 : Int32) (v7 : Int32) (s0 : Nat) (s1 : Int32) (s2 : Int32) (r : Unit) (M' : zM) (h : fX0_layWays_55 k3 n M v0 v1 v2 v4 v5 v6 v7 s0 s1 s2 = some (r, M')) : zW uX0_layWays none (0, 0) M 55 [(0, .ref v0), (1, .int v1), (2, .long v2), (4, .ref v4), (5, .ref v5), (6, .int v6), (7, .int v7)] [.int s2, .int s1, .ref s0] (zE (oV r) M') := by
  unfold fX0_layWays_55 at h
  obtain ⟨c_1, h⟩ := chk_some h
  obtain ⟨c_2, h⟩ := chk_some h
  obtain ⟨M_3, e_4, h⟩ := app_some h
  refine zr_iast (q := 56) dX0_layWays_55 rfl (eq_of_beq c_1) c_2 ?_
  refine zr_mem e_4 ?_
  refine zr_aload_n (q := 57) dX0_layWays_56 rfl rfl 0 rfl ?_
  refine zr_aload_n (q := 58) dX0_layWays_57 rfl rfl 0 rfl ?_
  obtain ⟨c_5, h⟩ := chk_some h
  refine zr_get (q := 61) (ci := 0) (k := 1) dX0_layWays_58 rfl (eq_of_beq c_5) rfl (by decide) rfl zbX0 (by decide) zb_14 rfl ?_
  refine zr_if_ne (q := 64) (tgt := 70) dX0_layWays_61 rfl (by decide) (fun c_6 => ?_) (fun c_6 => ?_)
  · replace h := ite_f c_6 h
    exact zr_pick [0, 1, 2, 3, 4, 5] rfl (tX0_layWays_70 k3 h3 n M_3 v0 v1 v2 v4 v5 v6 v0 _ _ h)
  · replace h := ite_t c_6 h
    refine zr_iload (q := 66) dX0_layWays_64 rfl 6 rfl ?_
    refine zr_iconst (q := 67) (v := -1) dX0_layWays_66 rfl (by decide) ?_
    refine zr_icmp_ne (q := 70) (tgt := 74) dX0_layWays_67 rfl (by decide) (fun c_7 => ?_) (fun c_7 => ?_)
    · replace h := ite_f c_7 h
      refine zr_iconst (q := 75) (v := 0) dX0_layWays_74 rfl (by decide) ?_
      exact zr_pick [0, 1, 2, 3, 4, 5] rfl (tX0_layWays_75 k3 h3 n M_3 v0 v1 v2 v4 v5 v6 v0 (0 : Int32) _ _ h)
    · replace h := ite_t c_7 h
      exact zr_pick [0, 1, 2, 3, 4, 5] rfl (tX0_layWays_70 k3 h3 n M_3 v0 v1 v2 v4 v5 v6 v0 _ _ h)
def fX0_layWays_3 : Nat → zM → Nat → Int32 → Int64 → Nat → Nat → Int32 → Option (Unit × zM)
  | 0, _, _, _, _, _, _, _ => none
  | n + 1, M, v0, v1, v2, v4, v5, v6 =>
    if (36 : Int32) ≤ v6 then
      chk (mK M v5 == 7) <|
      chk (mK M v0 == 0) <|
      app (wI M v0 2 ((mI M v5 0) + (1 : Int32))) fun M_4 : zM =>
      some ((), M_4)
    else
    chk (mK M v4 == 4) <|
    bnd (mR M v4 6) fun a_7 =>
    chk (mK M a_7 == 12) <|
    chk (zin v6 (mN M a_7)) <|
    chk (mK M v5 == 7) <|
    bnd2 (fX7_numberOf n M v5 (v2 &&& (mL M a_7 (Int32.toNatClampNeg v6))) (299 : Int32)) fun r_11 M_12 =>
    chk (mK M_12 v0 == 0) <|
    bnd (mR M_12 v0 5) fun a_16 =>
    if r_11 = (-1 : Int32) then
      fX0_layWays_55 (fX0_layWays_3 n) n M_12 v0 v1 v2 v4 v5 v6 r_11 a_16 ((v1 * (36 : Int32)) + v6) (-1 : Int32)
    else
    fX0_layWays_55 (fX0_layWays_3 n) n M_12 v0 v1 v2 v4 v5 v6 r_11 a_16 ((v1 * (36 : Int32)) + v6) (r_11 + (1 : Int32))
set_option maxHeartbeats 4000000 in
theorem tX0_layWays_3 : ∀ (n : Nat) (M : zM) (v0 : Nat) (v1 : Int32) (v2 : Int64) (v4 : Nat) (v5 : Nat) (v6 : Int32) (r : Unit) (M' : zM), fX0_layWays_3 n M v0 v1 v2 v4 v5 v6 = some (r, M') → zW uX0_layWays none (0, 0) M 3 [(0, .ref v0), (1, .int v1), (2, .long v2), (4, .ref v4), (5, .ref v5), (6, .int v6)] [] (zE (oV r) M') := by
  intro n
  induction n with
  | zero => intro M v0 v1 v2 v4 v5 v6 r M' h; cases h
  | succ n ih =>
    intro M v0 v1 v2 v4 v5 v6 r M' h
    rw [fX0_layWays_3] at h
    refine zr_iload (q := 5) dX0_layWays_3 rfl 5 rfl ?_
    refine zr_bipush (q := 7) (v := 36) dX0_layWays_5 rfl (by decide) ?_
    refine zr_icmp_ge (q := 10) (tgt := 84) dX0_layWays_7 rfl (by decide) (fun c_1 => ?_) (fun c_1 => ?_)
    · replace h := ite_t c_1 h
      refine zr_aload_n (q := 85) dX0_layWays_84 rfl rfl 0 rfl ?_
      refine zr_aload (q := 87) dX0_layWays_85 rfl 4 rfl ?_
      obtain ⟨c_2, h⟩ := chk_some h
      refine zr_get (q := 90) (ci := 7) (k := 0) dX0_layWays_87 rfl (eq_of_beq c_2) rfl (by decide) rfl zbX7 (by decide) zb_15 rfl ?_
      refine zr_iconst (q := 91) (v := 1) dX0_layWays_90 rfl (by decide) ?_
      refine zr_iadd (q := 92) dX0_layWays_91 rfl ?_
      obtain ⟨c_3, h⟩ := chk_some h
      obtain ⟨M_4, e_5, h⟩ := app_some h
      refine zr_putI (q := 95) (ci := 0) (k := 2) dX0_layWays_92 rfl (eq_of_beq c_3) rfl (by decide) rfl zbX0 tyX0_ok nmX0 (by decide) zb_16 (Or.inl rfl) rfl ?_
      refine zr_mem e_5 ?_
      cases h
      exact zr_return dX0_layWays_95 rfl ⟨by decide, by decide⟩ ⟨rfl, rfl⟩
    · replace h := ite_f c_1 h
      refine zr_aload (q := 12) dX0_layWays_10 rfl 4 rfl ?_
      refine zr_lload_n (q := 13) dX0_layWays_12 rfl rfl 2 rfl ?_
      refine zr_aload (q := 15) dX0_layWays_13 rfl 3 rfl ?_
      obtain ⟨c_6, h⟩ := chk_some h
      obtain ⟨a_7, e_8, h⟩ := bnd_some h
      refine zr_getr (q := 18) (ci := 4) (k := 6) dX0_layWays_15 rfl (eq_of_beq c_6) rfl (by decide) rfl zbX4 (by decide) zb_17 rfl e_8 ?_
      refine zr_iload (q := 20) dX0_layWays_18 rfl 5 rfl ?_
      obtain ⟨c_9, h⟩ := chk_some h
      obtain ⟨c_10, h⟩ := chk_some h
      refine zr_lald (q := 21) dX0_layWays_20 rfl (eq_of_beq c_9) c_10 ?_
      refine zr_land (q := 22) dX0_layWays_21 rfl ?_
      refine zr_sipush (q := 25) (v := 299) dX0_layWays_22 rfl (by decide) ?_
      obtain ⟨c_14, h⟩ := chk_some h
      obtain ⟨r_11, M_12, hc_13, h⟩ := bnd2_some h
      refine zr_callVI (μ' := uX7_numberOf) (q := 28) (n := 2) (ci := 7) (As := [.long (v2 &&& (mL M a_7 (Int32.toNatClampNeg v6))), .int (299 : Int32)]) (u' := (0, 0)) (tX7_numberOf n M v5 (v2 &&& (mL M a_7 (Int32.toNatClampNeg v6))) (299 : Int32) _ _ hc_13) dX0_layWays_25 rfl rfl ⟨zb_18, zb_19, zb_20, zb_21, zb_10⟩ zd_X7_numberOf ⟨by decide, by decide⟩ ⟨by decide, by decide⟩ (eq_of_beq c_14) (by decide) rfl rfl rfl (Nat.le_of_ble_eq_true rfl) rfl rfl ?_
      refine zr_istore (q := 30) (L' := [(7, .int r_11), (0, .ref v0), (1, .int v1), (2, .long v2), (4, .ref v4), (5, .ref v5), (6, .int v6)]) dX0_layWays_28 rfl (by decide) rfl ?_
      refine zr_aload_n (q := 31) dX0_layWays_30 rfl rfl 1 rfl ?_
      obtain ⟨c_15, h⟩ := chk_some h
      obtain ⟨a_16, e_17, h⟩ := bnd_some h
      refine zr_getr (q := 34) (ci := 0) (k := 5) dX0_layWays_31 rfl (eq_of_beq c_15) rfl (by decide) rfl zbX0 (by decide) zb_0 rfl e_17 ?_
      refine zr_iload_n (q := 35) dX0_layWays_34 rfl rfl 2 rfl ?_
      refine zr_bipush (q := 37) (v := 36) dX0_layWays_35 rfl (by decide) ?_
      refine zr_imul (q := 38) dX0_layWays_37 rfl ?_
      refine zr_iload (q := 40) dX0_layWays_38 rfl 6 rfl ?_
      refine zr_iadd (q := 41) dX0_layWays_40 rfl ?_
      refine zr_iload (q := 43) dX0_layWays_41 rfl 0 rfl ?_
      refine zr_iconst (q := 44) (v := -1) dX0_layWays_43 rfl (by decide) ?_
      refine zr_icmp_ne (q := 47) (tgt := 51) dX0_layWays_44 rfl (by decide) (fun c_18 => ?_) (fun c_18 => ?_)
      · replace h := ite_f c_18 h
        refine zr_iload (q := 53) dX0_layWays_51 rfl 0 rfl ?_
        refine zr_iconst (q := 54) (v := 1) dX0_layWays_53 rfl (by decide) ?_
        refine zr_iadd (q := 55) dX0_layWays_54 rfl ?_
        exact zr_pick [1, 2, 3, 4, 5, 6, 0] rfl (tX0_layWays_55 (fX0_layWays_3 n) ih n M_12 v0 v1 v2 v4 v5 v6 r_11 a_16 ((v1 * (36 : Int32)) + v6) (r_11 + (1 : Int32)) _ _ h)
      · replace h := ite_t c_18 h
        refine zr_iconst (q := 48) (v := -1) dX0_layWays_47 rfl (by decide) ?_
        refine zr_goto (q := 55) dX0_layWays_48 (by decide) ?_
        exact zr_pick [1, 2, 3, 4, 5, 6, 0] rfl (tX0_layWays_55 (fX0_layWays_3 n) ih n M_12 v0 v1 v2 v4 v5 v6 r_11 a_16 ((v1 * (36 : Int32)) + v6) (-1 : Int32) _ _ h)
def fX0_layWays (n : Nat) (M : zM) (v0 : Nat) (v1 : Int32) (v2 : Int64) (v4 : Nat) (v5 : Nat) : Option (Unit × zM) :=
  fX0_layWays_3 n M v0 v1 v2 v4 v5 (0 : Int32)
set_option maxHeartbeats 4000000 in
theorem tX0_layWays (n : Nat) (M : zM) (v0 : Nat) (v1 : Int32) (v2 : Int64) (v4 : Nat) (v5 : Nat) (r : Unit) (M' : zM) (h : fX0_layWays n M v0 v1 v2 v4 v5 = some (r, M')) : zMet uX0_layWays false M [.ref v0, .int v1, .long v2, .ref v4, .ref v5] (zE (oV r) M') := by
  refine zMet_of (L := [(0, .ref v0), (1, .int v1), (2, .long v2), (4, .ref v4), (5, .ref v5)]) (by decide +kernel) rfl rfl (Nat.le_of_ble_eq_true rfl) ?_
  show zW uX0_layWays none (0, 0) M 0 [(0, .ref v0), (1, .int v1), (2, .long v2), (4, .ref v4), (5, .ref v5)] [] (zE (oV r) M')
  unfold fX0_layWays at h
  refine zr_iconst (q := 1) (v := 0) dX0_layWays_0 rfl (by decide) ?_
  refine zr_istore (q := 3) (L' := [(6, .int (0 : Int32)), (0, .ref v0), (1, .int v1), (2, .long v2), (4, .ref v4), (5, .ref v5)]) dX0_layWays_1 rfl (by decide) rfl ?_
  exact zr_pick [1, 2, 3, 4, 5, 0] rfl (tX0_layWays_3 n M v0 v1 v2 v4 v5 (0 : Int32) _ _ h)

def uX0_build : zMu := (yX0_build, cX0_build, 6, none, { frames := 3, cells := 0, slots := 0, locals := 78 }, [])
theorem zd_X0_build : (uY uX0_build).cls ≠ "java/lang/invoke/MethodHandle" ∧ (uY uX0_build).cls ≠ "java/lang/invoke/VarHandle" ∧ (parseMethodDescriptor (uY uX0_build).desc).map (fun d => d.parameters.length) = some 2 := by decide +kernel
def fX0_build_89 (k42 : zM → Nat → Nat → Nat → Int32 → Option (Unit × zM)) (n : Nat) (M : zM) (v0 : Nat) (v1 : Nat) (v2 : Nat) (v3 : Int32) (v4 : Int64) (s0 : Nat) (s1 : Int32) (s2 : Int32) : Option (Unit × zM) :=
  chk (mK M s0 == 13) <|
  chk (zin s1 (mN M s0)) <|
  app (wI M s0 (Int32.toNatClampNeg s1) (vp_nar .boolean s2)) fun M_3 : zM =>
  chk (mK M_3 v1 == 4) <|
  bnd2 (fX4_behindAny n M_3 v1 v4) fun r_5 M_6 =>
  chk (mK M_6 v0 == 0) <|
  bnd2 (fX0_layWays n M_6 v0 v3 r_5 v1 v2) fun r_9 M_10 =>
  app (v3 + (1 : Int32)) fun v3_13 : Int32 =>
  k42 M_10 v0 v1 v2 v3_13
set_option maxHeartbeats 4000000 in
theorem tX0_build_89 (k42 : zM → Nat → Nat → Nat → Int32 → Option (Unit × zM)) (h42 : ∀ (M : zM) (v0 : Nat) (v1 : Nat) (v2 : Nat) (v3 : Int32) (r : Unit) (M' : zM), k42 M v0 v1 v2 v3 = some (r, M') → zW uX0_build none (0, 0) M 42 [(0, .ref v0), (1, .ref v1), (2, .ref v2), (3, .int v3)] [] (zE (oV r) M')) (n : Nat) (M : zM) (v0 : Nat) (v1 : Nat) (v2 : Nat) (v3 : Int32) (v4 : Int64) (s0 : Nat) (s1 : Int32) (s2 : Int32) (r : Unit) (M' : zM) (h : fX0_build_89 k42 n M v0 v1 v2 v3 v4 s0 s1 s2 = some (r, M')) : zW uX0_build none (0, 0) M 89 [(0, .ref v0), (1, .ref v1), (2, .ref v2), (3, .int v3), (4, .long v4)] [.int s2, .int s1, .ref s0] (zE (oV r) M') := by
  unfold fX0_build_89 at h
  obtain ⟨c_1, h⟩ := chk_some h
  obtain ⟨c_2, h⟩ := chk_some h
  obtain ⟨M_3, e_4, h⟩ := app_some h
  refine zr_zast (q := 90) dX0_build_89 rfl (eq_of_beq c_1) c_2 ?_
  refine zr_mem e_4 ?_
  refine zr_aload_n (q := 91) dX0_build_90 rfl rfl 0 rfl ?_
  refine zr_iload_n (q := 92) dX0_build_91 rfl rfl 3 rfl ?_
  refine zr_aload_n (q := 93) dX0_build_92 rfl rfl 1 rfl ?_
  refine zr_lload (q := 95) dX0_build_93 rfl 4 rfl ?_
  obtain ⟨c_8, h⟩ := chk_some h
  obtain ⟨r_5, M_6, hc_7, h⟩ := bnd2_some h
  refine zr_callVL (μ' := uX4_behindAny) (q := 98) (n := 1) (ci := 4) (As := [.long v4]) (u' := (0, 0)) (tX4_behindAny n M_3 v1 v4 _ _ hc_7) dX0_build_95 rfl rfl ⟨zb_27, zb_28, zb_29, zb_30, zb_31⟩ zd_X4_behindAny ⟨by decide, by decide⟩ ⟨by decide, by decide⟩ (eq_of_beq c_8) (by decide) rfl rfl rfl (Nat.le_of_ble_eq_true rfl) rfl rfl ?_
  refine zr_aload_n (q := 99) dX0_build_98 rfl rfl 1 rfl ?_
  refine zr_aload_n (q := 100) dX0_build_99 rfl rfl 2 rfl ?_
  obtain ⟨c_12, h⟩ := chk_some h
  obtain ⟨r_9, M_10, hc_11, h⟩ := bnd2_some h
  refine zr_callVV (μ' := uX0_layWays) (q := 103) (n := 4) (ci := 0) (As := [.int v3, .long r_5, .ref v1, .ref v2]) (u' := (0, 0)) (tX0_layWays n M_6 v0 v3 r_5 v1 v2 _ _ hc_11) dX0_build_100 rfl rfl ⟨zb_32, zb_33, zb_34, zb_35, zb_36⟩ zd_X0_layWays ⟨by decide, by decide⟩ ⟨by decide, by decide⟩ (eq_of_beq c_12) (by decide) rfl rfl rfl (Nat.le_of_ble_eq_true rfl) rfl rfl ?_
  obtain ⟨v3_13, e_14, h⟩ := app_some h
  refine zr_iinc (q := 106) (v := v3_13) (L' := [(3, .int v3_13), (0, .ref v0), (1, .ref v1), (2, .ref v2), (4, .long v4)]) dX0_build_103 rfl 3 rfl (by rw [← e_14]; rfl) (by decide) rfl ?_
  refine zr_goto (q := 42) dX0_build_106 (by decide) ?_
  exact zr_pick [1, 2, 3, 0] rfl (h42 M_10 v0 v1 v2 v3_13 _ _ h)
def fX0_build_42 : Nat → zM → Nat → Nat → Nat → Int32 → Option (Unit × zM)
  | 0, _, _, _, _, _ => none
  | n + 1, M, v0, v1, v2, v3 =>
    chk (mK M v0 == 0) <|
    if (mI M v0 2) ≤ v3 then
      chk (mK M v0 == 0) <|
      app (wI M v0 0 (1 : Int32)) fun M_4 : zM =>
      some ((), M_4)
    else
    if (300 : Int32) ≤ v3 then
      chk (mK M v0 == 0) <|
      app (wI M v0 0 (1 : Int32)) fun M_8 : zM =>
      some ((), M_8)
    else
    chk (mK M v2 == 7) <|
    bnd (mR M v2 1) fun a_11 =>
    chk (mK M a_11 == 12) <|
    chk (zin (v3 - (1 : Int32)) (mN M a_11)) <|
    app (mL M a_11 (Int32.toNatClampNeg (v3 - (1 : Int32)))) fun v4_15 : Int64 =>
    chk (mK M v0 == 0) <|
    bnd (mR M v0 4) fun a_18 =>
    chk (mK M v1 == 4) <|
    if (lg_cmp (v4_15 &&& (mL M v1 3)) (0 : Int64)) = (0 : Int32) then
      fX0_build_89 (fX0_build_42 n) n M v0 v1 v2 v3 v4_15 a_18 v3 (0 : Int32)
    else
    fX0_build_89 (fX0_build_42 n) n M v0 v1 v2 v3 v4_15 a_18 v3 (1 : Int32)
set_option maxHeartbeats 4000000 in
theorem tX0_build_42 : ∀ (n : Nat) (M : zM) (v0 : Nat) (v1 : Nat) (v2 : Nat) (v3 : Int32) (r : Unit) (M' : zM), fX0_build_42 n M v0 v1 v2 v3 = some (r, M') → zW uX0_build none (0, 0) M 42 [(0, .ref v0), (1, .ref v1), (2, .ref v2), (3, .int v3)] [] (zE (oV r) M') := by
  intro n
  induction n with
  | zero => intro M v0 v1 v2 v3 r M' h; cases h
  | succ n ih =>
    intro M v0 v1 v2 v3 r M' h
    rw [fX0_build_42] at h
    refine zr_iload_n (q := 43) dX0_build_42 rfl rfl 3 rfl ?_
    refine zr_aload_n (q := 44) dX0_build_43 rfl rfl 0 rfl ?_
    obtain ⟨c_1, h⟩ := chk_some h
    refine zr_get (q := 47) (ci := 0) (k := 2) dX0_build_44 rfl (eq_of_beq c_1) rfl (by decide) rfl zbX0 (by decide) zb_16 rfl ?_
    refine zr_icmp_ge (q := 50) (tgt := 109) dX0_build_47 rfl (by decide) (fun c_2 => ?_) (fun c_2 => ?_)
    · replace h := ite_t c_2 h
      refine zr_aload_n (q := 110) dX0_build_109 rfl rfl 0 rfl ?_
      refine zr_iconst (q := 111) (v := 1) dX0_build_110 rfl (by decide) ?_
      obtain ⟨c_3, h⟩ := chk_some h
      obtain ⟨M_4, e_5, h⟩ := app_some h
      refine zr_putZ (q := 114) (ci := 0) (k := 0) dX0_build_111 rfl (eq_of_beq c_3) rfl (by decide) rfl zbX0 tyX0_ok nmX0 (by decide) zb_37 (Or.inl rfl) rfl (Or.inr rfl) ?_
      refine zr_mem e_5 ?_
      cases h
      exact zr_return dX0_build_114 rfl ⟨by decide, by decide⟩ ⟨rfl, rfl⟩
    · replace h := ite_f c_2 h
      refine zr_iload_n (q := 51) dX0_build_50 rfl rfl 3 rfl ?_
      refine zr_sipush (q := 54) (v := 300) dX0_build_51 rfl (by decide) ?_
      refine zr_icmp_ge (q := 57) (tgt := 109) dX0_build_54 rfl (by decide) (fun c_6 => ?_) (fun c_6 => ?_)
      · replace h := ite_t c_6 h
        refine zr_aload_n (q := 110) dX0_build_109 rfl rfl 0 rfl ?_
        refine zr_iconst (q := 111) (v := 1) dX0_build_110 rfl (by decide) ?_
        obtain ⟨c_7, h⟩ := chk_some h
        obtain ⟨M_8, e_9, h⟩ := app_some h
        refine zr_putZ (q := 114) (ci := 0) (k := 0) dX0_build_111 rfl (eq_of_beq c_7) rfl (by decide) rfl zbX0 tyX0_ok nmX0 (by decide) zb_37 (Or.inl rfl) rfl (Or.inr rfl) ?_
        refine zr_mem e_9 ?_
        cases h
        exact zr_return dX0_build_114 rfl ⟨by decide, by decide⟩ ⟨rfl, rfl⟩
      · replace h := ite_f c_6 h
        refine zr_aload_n (q := 58) dX0_build_57 rfl rfl 2 rfl ?_
        obtain ⟨c_10, h⟩ := chk_some h
        obtain ⟨a_11, e_12, h⟩ := bnd_some h
        refine zr_getr (q := 61) (ci := 7) (k := 1) dX0_build_58 rfl (eq_of_beq c_10) rfl (by decide) rfl zbX7 (by decide) zb_38 rfl e_12 ?_
        refine zr_iload_n (q := 62) dX0_build_61 rfl rfl 3 rfl ?_
        refine zr_iconst (q := 63) (v := 1) dX0_build_62 rfl (by decide) ?_
        refine zr_isub (q := 64) dX0_build_63 rfl ?_
        obtain ⟨c_13, h⟩ := chk_some h
        obtain ⟨c_14, h⟩ := chk_some h
        refine zr_lald (q := 65) dX0_build_64 rfl (eq_of_beq c_13) c_14 ?_
        obtain ⟨v4_15, e_16, h⟩ := app_some h
        refine zr_nmL e_16 ?_
        refine zr_lstore (q := 67) (L' := [(4, .long v4_15), (0, .ref v0), (1, .ref v1), (2, .ref v2), (3, .int v3)]) dX0_build_65 rfl (by decide) rfl ?_
        refine zr_aload_n (q := 68) dX0_build_67 rfl rfl 1 rfl ?_
        obtain ⟨c_17, h⟩ := chk_some h
        obtain ⟨a_18, e_19, h⟩ := bnd_some h
        refine zr_getr (q := 71) (ci := 0) (k := 4) dX0_build_68 rfl (eq_of_beq c_17) rfl (by decide) rfl zbX0 (by decide) zb_39 rfl e_19 ?_
        refine zr_iload_n (q := 72) dX0_build_71 rfl rfl 4 rfl ?_
        refine zr_lload (q := 74) dX0_build_72 rfl 0 rfl ?_
        refine zr_aload_n (q := 75) dX0_build_74 rfl rfl 2 rfl ?_
        obtain ⟨c_20, h⟩ := chk_some h
        refine zr_get (q := 78) (ci := 4) (k := 3) dX0_build_75 rfl (eq_of_beq c_20) rfl (by decide) rfl zbX4 (by decide) zb_40 rfl ?_
        refine zr_land (q := 79) dX0_build_78 rfl ?_
        refine zr_lconst (q := 80) (v := 0) dX0_build_79 rfl (by decide) ?_
        refine zr_lcmp (q := 81) dX0_build_80 rfl ?_
        refine zr_if_eq (q := 84) (tgt := 88) dX0_build_81 rfl (by decide) (fun c_21 => ?_) (fun c_21 => ?_)
        · replace h := ite_t c_21 h
          refine zr_iconst (q := 89) (v := 0) dX0_build_88 rfl (by decide) ?_
          exact zr_pick [1, 2, 3, 4, 0] rfl (tX0_build_89 (fX0_build_42 n) ih n M v0 v1 v2 v3 v4_15 a_18 v3 (0 : Int32) _ _ h)
        · replace h := ite_f c_21 h
          refine zr_iconst (q := 85) (v := 1) dX0_build_84 rfl (by decide) ?_
          refine zr_goto (q := 89) dX0_build_85 (by decide) ?_
          exact zr_pick [1, 2, 3, 4, 0] rfl (tX0_build_89 (fX0_build_42 n) ih n M v0 v1 v2 v3 v4_15 a_18 v3 (1 : Int32) _ _ h)
def fX0_build (n : Nat) (M : zM) (v0 : Nat) (v1 : Nat) (v2 : Nat) : Option (Unit × zM) :=
  chk (mK M v2 == 7) <|
  bnd2 (fX7_forgetAll n M v2) fun r_1 M_2 =>
  chk (mK M_2 v0 == 0) <|
  app (wI M_2 v0 1 (0 : Int32)) fun M_6 : zM =>
  chk (mK M_6 v0 == 0) <|
  app (wI M_6 v0 3 (-1 : Int32)) fun M_9 : zM =>
  chk (mK M_9 v0 == 0) <|
  app (wI M_9 v0 2 (1 : Int32)) fun M_12 : zM =>
  chk (mK M_12 v0 == 0) <|
  bnd (mR M_12 v0 4) fun a_15 =>
  chk (mK M_12 v1 == 4) <|
  chk (mK M_12 a_15 == 13) <|
  chk (zin (0 : Int32) (mN M_12 a_15)) <|
  app (wI M_12 a_15 (Int32.toNatClampNeg (0 : Int32)) (vp_nar .boolean (mI M_12 v1 1))) fun M_20 : zM =>
  chk (mK M_20 v1 == 4) <|
  chk (mK M_20 v0 == 0) <|
  bnd2 (fX0_layWays n M_20 v0 (0 : Int32) (mL M_20 v1 2) v1 v2) fun r_23 M_24 =>
  fX0_build_42 n M_24 v0 v1 v2 (1 : Int32)
set_option maxHeartbeats 4000000 in
theorem tX0_build (n : Nat) (M : zM) (v0 : Nat) (v1 : Nat) (v2 : Nat) (r : Unit) (M' : zM) (h : fX0_build n M v0 v1 v2 = some (r, M')) : zMet uX0_build false M [.ref v0, .ref v1, .ref v2] (zE (oV r) M') := by
  refine zMet_of (L := [(0, .ref v0), (1, .ref v1), (2, .ref v2)]) (by decide +kernel) rfl rfl (Nat.le_of_ble_eq_true rfl) ?_
  show zW uX0_build none (0, 0) M 0 [(0, .ref v0), (1, .ref v1), (2, .ref v2)] [] (zE (oV r) M')
  unfold fX0_build at h
  refine zr_aload_n (q := 1) dX0_build_0 rfl rfl 2 rfl ?_
  obtain ⟨c_4, h⟩ := chk_some h
  obtain ⟨r_1, M_2, hc_3, h⟩ := bnd2_some h
  refine zr_callVV (μ' := uX7_forgetAll) (q := 4) (n := 0) (ci := 7) (As := []) (u' := (0, 0)) (tX7_forgetAll n M v2 _ _ hc_3) dX0_build_1 rfl rfl ⟨zb_41, zb_42, zb_43, zb_44, zb_10⟩ zd_X7_forgetAll ⟨by decide, by decide⟩ ⟨by decide, by decide⟩ (eq_of_beq c_4) (by decide) rfl rfl rfl (Nat.le_of_ble_eq_true rfl) rfl rfl ?_
  refine zr_aload_n (q := 5) dX0_build_4 rfl rfl 0 rfl ?_
  refine zr_iconst (q := 6) (v := 0) dX0_build_5 rfl (by decide) ?_
  obtain ⟨c_5, h⟩ := chk_some h
  obtain ⟨M_6, e_7, h⟩ := app_some h
  refine zr_putZ (q := 9) (ci := 0) (k := 1) dX0_build_6 rfl (eq_of_beq c_5) rfl (by decide) rfl zbX0 tyX0_ok nmX0 (by decide) zb_14 (Or.inl rfl) rfl (Or.inl rfl) ?_
  refine zr_mem e_7 ?_
  refine zr_aload_n (q := 10) dX0_build_9 rfl rfl 0 rfl ?_
  refine zr_iconst (q := 11) (v := -1) dX0_build_10 rfl (by decide) ?_
  obtain ⟨c_8, h⟩ := chk_some h
  obtain ⟨M_9, e_10, h⟩ := app_some h
  refine zr_putI (q := 14) (ci := 0) (k := 3) dX0_build_11 rfl (eq_of_beq c_8) rfl (by decide) rfl zbX0 tyX0_ok nmX0 (by decide) zb_45 (Or.inl rfl) rfl ?_
  refine zr_mem e_10 ?_
  refine zr_aload_n (q := 15) dX0_build_14 rfl rfl 0 rfl ?_
  refine zr_iconst (q := 16) (v := 1) dX0_build_15 rfl (by decide) ?_
  obtain ⟨c_11, h⟩ := chk_some h
  obtain ⟨M_12, e_13, h⟩ := app_some h
  refine zr_putI (q := 19) (ci := 0) (k := 2) dX0_build_16 rfl (eq_of_beq c_11) rfl (by decide) rfl zbX0 tyX0_ok nmX0 (by decide) zb_16 (Or.inl rfl) rfl ?_
  refine zr_mem e_13 ?_
  refine zr_aload_n (q := 20) dX0_build_19 rfl rfl 0 rfl ?_
  obtain ⟨c_14, h⟩ := chk_some h
  obtain ⟨a_15, e_16, h⟩ := bnd_some h
  refine zr_getr (q := 23) (ci := 0) (k := 4) dX0_build_20 rfl (eq_of_beq c_14) rfl (by decide) rfl zbX0 (by decide) zb_39 rfl e_16 ?_
  refine zr_iconst (q := 24) (v := 0) dX0_build_23 rfl (by decide) ?_
  refine zr_aload_n (q := 25) dX0_build_24 rfl rfl 1 rfl ?_
  obtain ⟨c_17, h⟩ := chk_some h
  refine zr_get (q := 28) (ci := 4) (k := 1) dX0_build_25 rfl (eq_of_beq c_17) rfl (by decide) rfl zbX4 (by decide) zb_46 rfl ?_
  obtain ⟨c_18, h⟩ := chk_some h
  obtain ⟨c_19, h⟩ := chk_some h
  obtain ⟨M_20, e_21, h⟩ := app_some h
  refine zr_zast (q := 29) dX0_build_28 rfl (eq_of_beq c_18) c_19 ?_
  refine zr_mem e_21 ?_
  refine zr_aload_n (q := 30) dX0_build_29 rfl rfl 0 rfl ?_
  refine zr_iconst (q := 31) (v := 0) dX0_build_30 rfl (by decide) ?_
  refine zr_aload_n (q := 32) dX0_build_31 rfl rfl 1 rfl ?_
  obtain ⟨c_22, h⟩ := chk_some h
  refine zr_get (q := 35) (ci := 4) (k := 2) dX0_build_32 rfl (eq_of_beq c_22) rfl (by decide) rfl zbX4 (by decide) zb_47 rfl ?_
  refine zr_aload_n (q := 36) dX0_build_35 rfl rfl 1 rfl ?_
  refine zr_aload_n (q := 37) dX0_build_36 rfl rfl 2 rfl ?_
  obtain ⟨c_26, h⟩ := chk_some h
  obtain ⟨r_23, M_24, hc_25, h⟩ := bnd2_some h
  refine zr_callVV (μ' := uX0_layWays) (q := 40) (n := 4) (ci := 0) (As := [.int (0 : Int32), .long (mL M_20 v1 2), .ref v1, .ref v2]) (u' := (0, 0)) (tX0_layWays n M_20 v0 (0 : Int32) (mL M_20 v1 2) v1 v2 _ _ hc_25) dX0_build_37 rfl rfl ⟨zb_32, zb_33, zb_34, zb_35, zb_36⟩ zd_X0_layWays ⟨by decide, by decide⟩ ⟨by decide, by decide⟩ (eq_of_beq c_26) (by decide) rfl rfl rfl (Nat.le_of_ble_eq_true rfl) rfl rfl ?_
  refine zr_iconst (q := 41) (v := 1) dX0_build_40 rfl (by decide) ?_
  refine zr_istore_n (q := 42) (L' := [(3, .int (1 : Int32)), (0, .ref v0), (1, .ref v1), (2, .ref v2)]) dX0_build_41 rfl rfl (by decide) rfl ?_
  exact zr_pick [1, 2, 3, 0] rfl (tX0_build_42 n M_24 v0 v1 v2 (1 : Int32) _ _ h)
