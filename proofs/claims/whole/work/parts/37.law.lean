/-! the law, by program: wip/law.py -/
def uL_law : zMu := (yL_law, cL_law, 7, (some .boolean), { frames := 11, cells := 601024, slots := 7293034, locals := 376 }, [])
def fL_law_1213 (k23 : zM → Nat → Nat → Nat → Nat → Int32 → Option (Int32 × zM)) (M : zM) (v0 : Nat) (v1 : Nat) (v2 : Nat) (v3 : Nat) (v4 : Int32) : Option (Int32 × zM) :=
  app (v4 + (4 : Int32)) fun v4_1 : Int32 =>
  k23 M v0 v1 v2 v3 v4_1
set_option maxHeartbeats 4000000 in
set_option maxRecDepth 100000 in
theorem tL_law_1213 (j : Nat) (k23 : zM → Nat → Nat → Nat → Nat → Int32 → Option (Int32 × zM)) (h23 : ∀ (M : zM) (v0 v1 v2 v3 : Nat) (v4 : Int32) (r : Int32) (M' : zM), k23 M v0 v1 v2 v3 v4 = some (r, M') → zW uL_law none (102 + 2 * (j + 1), 514787 + 12 * (j + 1)) M 23 [(0, .ref v0), (1, .ref v1), (2, .ref v2), (3, .ref v3), (4, .int v4)] [] (zE (oI r) M')) (M : zM) (v0 : Nat) (v1 : Nat) (v2 : Nat) (v3 : Nat) (v4 : Int32) (r : Int32) (M' : zM) (h : fL_law_1213 k23 M v0 v1 v2 v3 v4 = some (r, M')) : zW uL_law none (102 + 2 * (j + 1), 514787 + 12 * (j + 1)) M 1213 [(0, .ref v0), (1, .ref v1), (2, .ref v2), (3, .ref v3), (4, .int v4)] [] (zE (oI r) M') := by
  unfold fL_law_1213 at h
  obtain ⟨v4_1, e_2, h⟩ := app_some h
  refine zr_iinc (q := 1216) (v := v4_1) (L' := [(4, .int v4_1), (0, .ref v0), (1, .ref v1), (2, .ref v2), (3, .ref v3)]) dL_law_1213 rfl 4 rfl (by rw [← e_2]; rfl) (by decide) rfl ?_
  refine zr_goto (q := 23) dL_law_1216 (by decide) ?_
  exact zr_pick [1, 2, 3, 4, 0] rfl (h23 M v0 v1 v2 v3 v4_1 _ _ h)
def fL_law_1210 (N : Nat) (k23 : zM → Nat → Nat → Nat → Nat → Int32 → Option (Int32 × zM)) (M : zM) (v0 : Nat) (v1 : Nat) (v2 : Nat) (v3 : Nat) (v4 : Int32) : Option (Int32 × zM) :=
  fL_law_1213 k23 M v0 v1 v2 v3 v4
set_option maxHeartbeats 4000000 in
set_option maxRecDepth 100000 in
theorem tL_law_1210 (N : Nat) (j : Nat) (hj : j ≤ 512) (k23 : zM → Nat → Nat → Nat → Nat → Int32 → Option (Int32 × zM)) (h23 : ∀ (M : zM) (v0 v1 v2 v3 : Nat) (v4 : Int32) (r : Int32) (M' : zM), k23 M v0 v1 v2 v3 v4 = some (r, M') → zW uL_law none (102 + 2 * (j + 1), 514787 + 12 * (j + 1)) M 23 [(0, .ref v0), (1, .ref v1), (2, .ref v2), (3, .ref v3), (4, .int v4)] [] (zE (oI r) M')) (M : zM) (v0 : Nat) (v1 : Nat) (v2 : Nat) (v3 : Nat) (v4 : Int32) (r : Int32) (M' : zM) (h : fL_law_1210 N k23 M v0 v1 v2 v3 v4 = some (r, M')) : zW uL_law none (102 + 2 * j + 1, 514787 + 12 * j + 6) M 1210 [(0, .ref v0), (1, .ref v1), (2, .ref v2), (3, .ref v3), (4, .int v4)] [] (zE (oI r) M') := by
  unfold fL_law_1210 at h
  refine zr_goto (q := 1213) dL_law_1210 (by decide) ?_
  refine zr_widen (u' := (102 + 2 * (j + 1), 514787 + 12 * (j + 1))) (by show 102 + 2 * j + 1 ≤ 102 + 2 * (j + 1); omega) (by show 514787 + 12 * j + 6 ≤ 514787 + 12 * (j + 1); omega) ?_
  exact zr_pick [0, 1, 2, 3, 4] rfl (tL_law_1213 j k23 h23 M v0 v1 v2 v3 v4 _ _ h)
def fL_law_1157 (N : Nat) (k23 : zM → Nat → Nat → Nat → Nat → Int32 → Option (Int32 × zM)) (M : zM) (v0 : Nat) (v1 : Nat) (v2 : Nat) (v3 : Nat) (v4 : Int32) : Option (Int32 × zM) :=
  chk (v0 == 0) <|
  chk (zin (v4 + (1 : Int32)) (mN M 0)) <|
  bnd2 (fL_letter N M v1 (mI M 0 (Int32.toNatClampNeg (v4 + (1 : Int32)))) v3) fun r_3 M_4 =>
  chk (v0 == 0) <|
  chk (zin (v4 + (1 : Int32)) (mN M_4 0)) <|
  chk (mK M_4 v2 == 10) <|
  bnd2 (fX10_letter N M_4 v2 (mI M_4 0 (Int32.toNatClampNeg (v4 + (1 : Int32))))) fun r_8 M_9 =>
  chk (mK M_9 v2 == 10) <|
  bnd2 (fX10_thrown N M_9 v2) fun r_12 M_13 =>
  if r_12 = r_3 then
    if r_3 = (0 : Int32) then
      chk (mK M_13 v3 == 12) <|
      chk (zin (0 : Int32) (mN M_13 v3)) <|
      if (lg_cmp (mL M_13 v3 (Int32.toNatClampNeg (0 : Int32))) (Int32.toInt64 r_8)) = (0 : Int32) then
        fL_law_1210 N k23 M_13 v0 v1 v2 v3 v4
      else
      some ((0 : Int32), M_13)
    else
    fL_law_1210 N k23 M_13 v0 v1 v2 v3 v4
  else
  some ((0 : Int32), M_13)
set_option maxHeartbeats 4000000 in
set_option maxRecDepth 100000 in
theorem tL_law_1157 (N : Nat) (j : Nat) (hj : j ≤ 512) (k23 : zM → Nat → Nat → Nat → Nat → Int32 → Option (Int32 × zM)) (h23 : ∀ (M : zM) (v0 v1 v2 v3 : Nat) (v4 : Int32) (r : Int32) (M' : zM), k23 M v0 v1 v2 v3 v4 = some (r, M') → zW uL_law none (102 + 2 * (j + 1), 514787 + 12 * (j + 1)) M 23 [(0, .ref v0), (1, .ref v1), (2, .ref v2), (3, .ref v3), (4, .int v4)] [] (zE (oI r) M')) (M : zM) (v0 : Nat) (v1 : Nat) (v2 : Nat) (v3 : Nat) (v4 : Int32) (r : Int32) (M' : zM) (h : fL_law_1157 N k23 M v0 v1 v2 v3 v4 = some (r, M')) : zW uL_law none (102 + 2 * j, 514787 + 12 * j) M 1157 [(0, .ref v0), (1, .ref v1), (2, .ref v2), (3, .ref v3), (4, .int v4)] [] (zE (oI r) M') := by
  unfold fL_law_1157 at h
  refine zr_aload_n (q := 1158) dL_law_1157 rfl rfl 1 rfl ?_
  refine zr_aload_n (q := 1159) dL_law_1158 rfl rfl 0 rfl ?_
  refine zr_iload (q := 1161) dL_law_1159 rfl 4 rfl ?_
  refine zr_iconst (q := 1162) (v := 1) dL_law_1161 rfl (by decide) ?_
  refine zr_iadd (q := 1163) dL_law_1162 rfl ?_
  obtain ⟨c_1, h⟩ := chk_some h
  obtain ⟨c_2, h⟩ := chk_some h
  refine zr_sld (q := 1164) dL_law_1163 rfl (eq_of_beq c_1) c_2 ?_
  refine zr_aload_n (q := 1165) dL_law_1164 rfl rfl 3 rfl ?_
  obtain ⟨r_3, M_4, hc_5, h⟩ := bnd2_some h
  refine zr_callSH (μ' := uL_letter) (q := 1168) (n := 3) (As := [.ref v1, .int (mI M 0 (Int32.toNatClampNeg (v4 + (1 : Int32)))), .ref v3]) (u' := (102 + 2 * j + 1, 514787 + 12 * j + 6)) (tL_letter N M v1 (mI M 0 (Int32.toNatClampNeg (v4 + (1 : Int32)))) v3 _ _ hc_5) dL_law_1165 rfl rfl ⟨zb_678, zb_679, zb_680, zb_681⟩ zd_L_letter ⟨by decide, by decide⟩ ⟨by show 102 + 2 * j + 1 ≤ 601024; omega, by show 514787 + 12 * j + 6 ≤ 7293034; omega⟩ rfl rfl (Nat.le_of_ble_eq_true rfl) rfl ?_
  refine zr_istore (q := 1170) (L' := [(5, .int r_3), (0, .ref v0), (1, .ref v1), (2, .ref v2), (3, .ref v3), (4, .int v4)]) dL_law_1168 rfl (by decide) rfl ?_
  refine zr_aload_n (q := 1171) dL_law_1170 rfl rfl 3 rfl ?_
  refine zr_aload_n (q := 1172) dL_law_1171 rfl rfl 1 rfl ?_
  refine zr_iload (q := 1174) dL_law_1172 rfl 5 rfl ?_
  refine zr_iconst (q := 1175) (v := 1) dL_law_1174 rfl (by decide) ?_
  refine zr_iadd (q := 1176) dL_law_1175 rfl ?_
  obtain ⟨c_6, h⟩ := chk_some h
  obtain ⟨c_7, h⟩ := chk_some h
  refine zr_sld (q := 1177) dL_law_1176 rfl (eq_of_beq c_6) c_7 ?_
  obtain ⟨c_11, h⟩ := chk_some h
  obtain ⟨r_8, M_9, hc_10, h⟩ := bnd2_some h
  refine zr_callVI (μ' := uX10_letter) (q := 1180) (n := 1) (ci := 10) (As := [.int (mI M_4 0 (Int32.toNatClampNeg (v4 + (1 : Int32))))]) (u' := (102 + 2 * j + 1, 514787 + 12 * j + 6)) (tX10_letter N M_4 v2 (mI M_4 0 (Int32.toNatClampNeg (v4 + (1 : Int32)))) _ _ hc_10) dL_law_1177 rfl rfl ⟨zb_682, zb_683, zb_684, zb_685, zb_389⟩ zd_X10_letter ⟨by decide, by decide⟩ ⟨by show 102 + 2 * j + 1 + 0 ≤ 601024; omega, by show 514787 + 12 * j + 6 + 0 ≤ 7293034; omega⟩ (eq_of_beq c_11) (by decide) rfl rfl rfl (Nat.le_of_ble_eq_true rfl) rfl rfl ?_
  refine zr_istore (q := 1182) (L' := [(6, .int r_8), (5, .int r_3), (0, .ref v0), (1, .ref v1), (2, .ref v2), (3, .ref v3), (4, .int v4)]) dL_law_1180 rfl (by decide) rfl ?_
  refine zr_aload_n (q := 1183) dL_law_1182 rfl rfl 4 rfl ?_
  obtain ⟨c_15, h⟩ := chk_some h
  obtain ⟨r_12, M_13, hc_14, h⟩ := bnd2_some h
  refine zr_callVI (μ' := uX10_thrown) (q := 1186) (n := 0) (ci := 10) (As := []) (u' := (102 + 2 * j + 1, 514787 + 12 * j + 6)) (tX10_thrown N M_9 v2 _ _ hc_14) dL_law_1183 rfl rfl ⟨zb_686, zb_687, zb_688, zb_689, zb_389⟩ zd_X10_thrown ⟨by decide, by decide⟩ ⟨by show 102 + 2 * j + 1 + 0 ≤ 601024; omega, by show 514787 + 12 * j + 6 + 0 ≤ 7293034; omega⟩ (eq_of_beq c_15) (by decide) rfl rfl rfl (Nat.le_of_ble_eq_true rfl) rfl rfl ?_
  refine zr_iload (q := 1188) dL_law_1186 rfl 1 rfl ?_
  refine zr_icmp_eq (q := 1191) (tgt := 1193) dL_law_1188 rfl (by decide) (fun c_16 => ?_) (fun c_16 => ?_)
  · replace h := ite_t c_16 h
    refine zr_iload (q := 1195) dL_law_1193 rfl 1 rfl ?_
    refine zr_if_ne (q := 1198) (tgt := 1210) dL_law_1195 rfl (by decide) (fun c_17 => ?_) (fun c_17 => ?_)
    · replace h := ite_f c_17 h
      exact zr_pick [2, 3, 4, 5, 6] rfl (tL_law_1210 N j hj k23 h23 M_13 v0 v1 v2 v3 v4 _ _ h)
    · replace h := ite_t c_17 h
      refine zr_aload_n (q := 1199) dL_law_1198 rfl rfl 5 rfl ?_
      refine zr_iconst (q := 1200) (v := 0) dL_law_1199 rfl (by decide) ?_
      obtain ⟨c_18, h⟩ := chk_some h
      obtain ⟨c_19, h⟩ := chk_some h
      refine zr_lald (q := 1201) dL_law_1200 rfl (eq_of_beq c_18) c_19 ?_
      refine zr_iload (q := 1203) dL_law_1201 rfl 0 rfl ?_
      refine zr_i2l (q := 1204) dL_law_1203 rfl ?_
      refine zr_lcmp (q := 1205) dL_law_1204 rfl ?_
      refine zr_if_eq (q := 1208) (tgt := 1210) dL_law_1205 rfl (by decide) (fun c_20 => ?_) (fun c_20 => ?_)
      · replace h := ite_t c_20 h
        exact zr_pick [2, 3, 4, 5, 6] rfl (tL_law_1210 N j hj k23 h23 M_13 v0 v1 v2 v3 v4 _ _ h)
      · replace h := ite_f c_20 h
        refine zr_iconst (q := 1209) (v := 0) dL_law_1208 rfl (by decide) ?_
        cases h
        exact zr_zreturn dL_law_1209 rfl (Or.inl rfl) ⟨by show 102 + 2 * j + 1 ≤ 601024; omega, by show 514787 + 12 * j + 6 ≤ 7293034; omega⟩ ⟨rfl, rfl⟩
  · replace h := ite_f c_16 h
    refine zr_iconst (q := 1192) (v := 0) dL_law_1191 rfl (by decide) ?_
    cases h
    exact zr_zreturn dL_law_1192 rfl (Or.inl rfl) ⟨by show 102 + 2 * j + 1 ≤ 601024; omega, by show 514787 + 12 * j + 6 ≤ 7293034; omega⟩ ⟨rfl, rfl⟩
def fL_law_1154 (N : Nat) (k23 : zM → Nat → Nat → Nat → Nat → Int32 → Option (Int32 × zM)) (M : zM) (v0 : Nat) (v1 : Nat) (v2 : Nat) (v3 : Nat) (v4 : Int32) : Option (Int32 × zM) :=
  fL_law_1213 k23 M v0 v1 v2 v3 v4
set_option maxHeartbeats 4000000 in
set_option maxRecDepth 100000 in
theorem tL_law_1154 (N : Nat) (j : Nat) (hj : j ≤ 512) (k23 : zM → Nat → Nat → Nat → Nat → Int32 → Option (Int32 × zM)) (h23 : ∀ (M : zM) (v0 v1 v2 v3 : Nat) (v4 : Int32) (r : Int32) (M' : zM), k23 M v0 v1 v2 v3 v4 = some (r, M') → zW uL_law none (102 + 2 * (j + 1), 514787 + 12 * (j + 1)) M 23 [(0, .ref v0), (1, .ref v1), (2, .ref v2), (3, .ref v3), (4, .int v4)] [] (zE (oI r) M')) (M : zM) (v0 : Nat) (v1 : Nat) (v2 : Nat) (v3 : Nat) (v4 : Int32) (r : Int32) (M' : zM) (h : fL_law_1154 N k23 M v0 v1 v2 v3 v4 = some (r, M')) : zW uL_law none (102 + 2 * j + 2, 514787 + 12 * j + 12) M 1154 [(0, .ref v0), (1, .ref v1), (2, .ref v2), (3, .ref v3), (4, .int v4)] [] (zE (oI r) M') := by
  unfold fL_law_1154 at h
  refine zr_goto (q := 1213) dL_law_1154 (by decide) ?_
  refine zr_widen (u' := (102 + 2 * (j + 1), 514787 + 12 * (j + 1))) (by show 102 + 2 * j + 2 ≤ 102 + 2 * (j + 1); omega) (by show 514787 + 12 * j + 12 ≤ 514787 + 12 * (j + 1); omega) ?_
  exact zr_pick [0, 1, 2, 3, 4] rfl (tL_law_1213 j k23 h23 M v0 v1 v2 v3 v4 _ _ h)
def fL_law_1113 (N : Nat) (k23 : zM → Nat → Nat → Nat → Nat → Int32 → Option (Int32 × zM)) (M : zM) (v0 : Nat) (v1 : Nat) (v2 : Nat) (v3 : Nat) (v4 : Int32) : Option (Int32 × zM) :=
  bnd2 (fL_differ N M v1 v3) fun r_1 M_2 =>
  chk (mK M_2 v2 == 10) <|
  bnd2 (fX10_differ N M_2 v2) fun r_4 M_5 =>
  chk (mK M_5 v2 == 10) <|
  bnd2 (fX10_thrown N M_5 v2) fun r_8 M_9 =>
  if r_8 = r_1 then
    if r_1 = (0 : Int32) then
      chk (mK M_9 v3 == 12) <|
      chk (zin (0 : Int32) (mN M_9 v3)) <|
      if (lg_cmp (mL M_9 v3 (Int32.toNatClampNeg (0 : Int32))) (Int32.toInt64 r_4)) = (0 : Int32) then
        fL_law_1154 N k23 M_9 v0 v1 v2 v3 v4
      else
      some ((0 : Int32), M_9)
    else
    fL_law_1154 N k23 M_9 v0 v1 v2 v3 v4
  else
  some ((0 : Int32), M_9)
set_option maxHeartbeats 4000000 in
set_option maxRecDepth 100000 in
theorem tL_law_1113 (N : Nat) (j : Nat) (hj : j ≤ 512) (k23 : zM → Nat → Nat → Nat → Nat → Int32 → Option (Int32 × zM)) (h23 : ∀ (M : zM) (v0 v1 v2 v3 : Nat) (v4 : Int32) (r : Int32) (M' : zM), k23 M v0 v1 v2 v3 v4 = some (r, M') → zW uL_law none (102 + 2 * (j + 1), 514787 + 12 * (j + 1)) M 23 [(0, .ref v0), (1, .ref v1), (2, .ref v2), (3, .ref v3), (4, .int v4)] [] (zE (oI r) M')) (M : zM) (v0 : Nat) (v1 : Nat) (v2 : Nat) (v3 : Nat) (v4 : Int32) (r : Int32) (M' : zM) (h : fL_law_1113 N k23 M v0 v1 v2 v3 v4 = some (r, M')) : zW uL_law none (102 + 2 * j, 514787 + 12 * j) M 1113 [(0, .ref v0), (1, .ref v1), (2, .ref v2), (3, .ref v3), (4, .int v4)] [] (zE (oI r) M') := by
  unfold fL_law_1113 at h
  refine zr_aload_n (q := 1114) dL_law_1113 rfl rfl 1 rfl ?_
  refine zr_aload_n (q := 1115) dL_law_1114 rfl rfl 3 rfl ?_
  obtain ⟨r_1, M_2, hc_3, h⟩ := bnd2_some h
  refine zr_callSH (μ' := uL_differ) (q := 1118) (n := 2) (As := [.ref v1, .ref v3]) (u' := (102 + 2 * j + 2, 514787 + 12 * j + 12)) (tL_differ N M v1 v3 _ _ hc_3) dL_law_1115 rfl rfl ⟨zb_690, zb_691, zb_692, zb_681⟩ zd_L_differ ⟨by decide, by decide⟩ ⟨by show 102 + 2 * j + 2 ≤ 601024; omega, by show 514787 + 12 * j + 12 ≤ 7293034; omega⟩ rfl rfl (Nat.le_of_ble_eq_true rfl) rfl ?_
  refine zr_istore (q := 1120) (L' := [(5, .int r_1), (0, .ref v0), (1, .ref v1), (2, .ref v2), (3, .ref v3), (4, .int v4)]) dL_law_1118 rfl (by decide) rfl ?_
  refine zr_aload_n (q := 1121) dL_law_1120 rfl rfl 3 rfl ?_
  obtain ⟨c_7, h⟩ := chk_some h
  obtain ⟨r_4, M_5, hc_6, h⟩ := bnd2_some h
  refine zr_callVI (μ' := uX10_differ) (q := 1124) (n := 0) (ci := 10) (As := []) (u' := (102 + 2 * j + 2, 514787 + 12 * j + 12)) (tX10_differ N M_2 v2 _ _ hc_6) dL_law_1121 rfl rfl ⟨zb_693, zb_694, zb_695, zb_696, zb_389⟩ zd_X10_differ ⟨by decide, by decide⟩ ⟨by show 102 + 2 * j + 2 + 0 ≤ 601024; omega, by show 514787 + 12 * j + 12 + 0 ≤ 7293034; omega⟩ (eq_of_beq c_7) (by decide) rfl rfl rfl (Nat.le_of_ble_eq_true rfl) rfl rfl ?_
  refine zr_istore (q := 1126) (L' := [(6, .int r_4), (5, .int r_1), (0, .ref v0), (1, .ref v1), (2, .ref v2), (3, .ref v3), (4, .int v4)]) dL_law_1124 rfl (by decide) rfl ?_
  refine zr_aload_n (q := 1127) dL_law_1126 rfl rfl 4 rfl ?_
  obtain ⟨c_11, h⟩ := chk_some h
  obtain ⟨r_8, M_9, hc_10, h⟩ := bnd2_some h
  refine zr_callVI (μ' := uX10_thrown) (q := 1130) (n := 0) (ci := 10) (As := []) (u' := (102 + 2 * j + 2, 514787 + 12 * j + 12)) (tX10_thrown N M_5 v2 _ _ hc_10) dL_law_1127 rfl rfl ⟨zb_686, zb_687, zb_688, zb_689, zb_389⟩ zd_X10_thrown ⟨by decide, by decide⟩ ⟨by show 102 + 2 * j + 2 + 0 ≤ 601024; omega, by show 514787 + 12 * j + 12 + 0 ≤ 7293034; omega⟩ (eq_of_beq c_11) (by decide) rfl rfl rfl (Nat.le_of_ble_eq_true rfl) rfl rfl ?_
  refine zr_iload (q := 1132) dL_law_1130 rfl 1 rfl ?_
  refine zr_icmp_eq (q := 1135) (tgt := 1137) dL_law_1132 rfl (by decide) (fun c_12 => ?_) (fun c_12 => ?_)
  · replace h := ite_t c_12 h
    refine zr_iload (q := 1139) dL_law_1137 rfl 1 rfl ?_
    refine zr_if_ne (q := 1142) (tgt := 1154) dL_law_1139 rfl (by decide) (fun c_13 => ?_) (fun c_13 => ?_)
    · replace h := ite_f c_13 h
      exact zr_pick [2, 3, 4, 5, 6] rfl (tL_law_1154 N j hj k23 h23 M_9 v0 v1 v2 v3 v4 _ _ h)
    · replace h := ite_t c_13 h
      refine zr_aload_n (q := 1143) dL_law_1142 rfl rfl 5 rfl ?_
      refine zr_iconst (q := 1144) (v := 0) dL_law_1143 rfl (by decide) ?_
      obtain ⟨c_14, h⟩ := chk_some h
      obtain ⟨c_15, h⟩ := chk_some h
      refine zr_lald (q := 1145) dL_law_1144 rfl (eq_of_beq c_14) c_15 ?_
      refine zr_iload (q := 1147) dL_law_1145 rfl 0 rfl ?_
      refine zr_i2l (q := 1148) dL_law_1147 rfl ?_
      refine zr_lcmp (q := 1149) dL_law_1148 rfl ?_
      refine zr_if_eq (q := 1152) (tgt := 1154) dL_law_1149 rfl (by decide) (fun c_16 => ?_) (fun c_16 => ?_)
      · replace h := ite_t c_16 h
        exact zr_pick [2, 3, 4, 5, 6] rfl (tL_law_1154 N j hj k23 h23 M_9 v0 v1 v2 v3 v4 _ _ h)
      · replace h := ite_f c_16 h
        refine zr_iconst (q := 1153) (v := 0) dL_law_1152 rfl (by decide) ?_
        cases h
        exact zr_zreturn dL_law_1153 rfl (Or.inl rfl) ⟨by show 102 + 2 * j + 2 ≤ 601024; omega, by show 514787 + 12 * j + 12 ≤ 7293034; omega⟩ ⟨rfl, rfl⟩
  · replace h := ite_f c_12 h
    refine zr_iconst (q := 1136) (v := 0) dL_law_1135 rfl (by decide) ?_
    cases h
    exact zr_zreturn dL_law_1136 rfl (Or.inl rfl) ⟨by show 102 + 2 * j + 2 ≤ 601024; omega, by show 514787 + 12 * j + 12 ≤ 7293034; omega⟩ ⟨rfl, rfl⟩
def fL_law_1089 (N : Nat) (k23 : zM → Nat → Nat → Nat → Nat → Int32 → Option (Int32 × zM)) (M : zM) (v0 : Nat) (v1 : Nat) (v2 : Nat) (v3 : Nat) (v4 : Int32) : Option (Int32 × zM) :=
  bnd2 (fL_keep N M v1) fun r_1 M_2 =>
  chk (mK M_2 v2 == 10) <|
  bnd2 (fX10_keep N M_2 v2) fun r_4 M_5 =>
  chk (mK M_5 v2 == 10) <|
  bnd2 (fX10_thrown N M_5 v2) fun r_8 M_9 =>
  if r_8 = r_1 then
    fL_law_1213 k23 M_9 v0 v1 v2 v3 v4
  else
  some ((0 : Int32), M_9)
set_option maxHeartbeats 4000000 in
set_option maxRecDepth 100000 in
theorem tL_law_1089 (N : Nat) (j : Nat) (hj : j ≤ 512) (k23 : zM → Nat → Nat → Nat → Nat → Int32 → Option (Int32 × zM)) (h23 : ∀ (M : zM) (v0 v1 v2 v3 : Nat) (v4 : Int32) (r : Int32) (M' : zM), k23 M v0 v1 v2 v3 v4 = some (r, M') → zW uL_law none (102 + 2 * (j + 1), 514787 + 12 * (j + 1)) M 23 [(0, .ref v0), (1, .ref v1), (2, .ref v2), (3, .ref v3), (4, .int v4)] [] (zE (oI r) M')) (M : zM) (v0 : Nat) (v1 : Nat) (v2 : Nat) (v3 : Nat) (v4 : Int32) (r : Int32) (M' : zM) (h : fL_law_1089 N k23 M v0 v1 v2 v3 v4 = some (r, M')) : zW uL_law none (102 + 2 * j, 514787 + 12 * j) M 1089 [(0, .ref v0), (1, .ref v1), (2, .ref v2), (3, .ref v3), (4, .int v4)] [] (zE (oI r) M') := by
  unfold fL_law_1089 at h
  refine zr_aload_n (q := 1090) dL_law_1089 rfl rfl 1 rfl ?_
  obtain ⟨r_1, M_2, hc_3, h⟩ := bnd2_some h
  refine zr_callSH (μ' := uL_keep) (q := 1093) (n := 1) (As := [.ref v1]) (u' := (102 + 2 * j + 1, 514787 + 12 * j + 6)) (tL_keep N M v1 _ _ hc_3) dL_law_1090 rfl rfl ⟨zb_697, zb_698, zb_699, zb_681⟩ zd_L_keep ⟨by decide, by decide⟩ ⟨by show 102 + 2 * j + 1 ≤ 601024; omega, by show 514787 + 12 * j + 6 ≤ 7293034; omega⟩ rfl rfl (Nat.le_of_ble_eq_true rfl) rfl ?_
  refine zr_istore (q := 1095) (L' := [(5, .int r_1), (0, .ref v0), (1, .ref v1), (2, .ref v2), (3, .ref v3), (4, .int v4)]) dL_law_1093 rfl (by decide) rfl ?_
  refine zr_aload_n (q := 1096) dL_law_1095 rfl rfl 3 rfl ?_
  obtain ⟨c_7, h⟩ := chk_some h
  obtain ⟨r_4, M_5, hc_6, h⟩ := bnd2_some h
  refine zr_callVV (μ' := uX10_keep) (q := 1099) (n := 0) (ci := 10) (As := []) (u' := (102 + 2 * j + 1, 514787 + 12 * j + 6)) (tX10_keep N M_2 v2 _ _ hc_6) dL_law_1096 rfl rfl ⟨zb_700, zb_701, zb_702, zb_703, zb_389⟩ zd_X10_keep ⟨by decide, by decide⟩ ⟨by show 102 + 2 * j + 1 + 0 ≤ 601024; omega, by show 514787 + 12 * j + 6 + 0 ≤ 7293034; omega⟩ (eq_of_beq c_7) (by decide) rfl rfl rfl (Nat.le_of_ble_eq_true rfl) rfl rfl ?_
  refine zr_aload_n (q := 1100) dL_law_1099 rfl rfl 3 rfl ?_
  obtain ⟨c_11, h⟩ := chk_some h
  obtain ⟨r_8, M_9, hc_10, h⟩ := bnd2_some h
  refine zr_callVI (μ' := uX10_thrown) (q := 1103) (n := 0) (ci := 10) (As := []) (u' := (102 + 2 * j + 1, 514787 + 12 * j + 6)) (tX10_thrown N M_5 v2 _ _ hc_10) dL_law_1100 rfl rfl ⟨zb_686, zb_687, zb_688, zb_689, zb_389⟩ zd_X10_thrown ⟨by decide, by decide⟩ ⟨by show 102 + 2 * j + 1 + 0 ≤ 601024; omega, by show 514787 + 12 * j + 6 + 0 ≤ 7293034; omega⟩ (eq_of_beq c_11) (by decide) rfl rfl rfl (Nat.le_of_ble_eq_true rfl) rfl rfl ?_
  refine zr_iload (q := 1105) dL_law_1103 rfl 0 rfl ?_
  refine zr_icmp_eq (q := 1108) (tgt := 1110) dL_law_1105 rfl (by decide) (fun c_12 => ?_) (fun c_12 => ?_)
  · replace h := ite_t c_12 h
    refine zr_goto (q := 1213) dL_law_1110 (by decide) ?_
    refine zr_widen (u' := (102 + 2 * (j + 1), 514787 + 12 * (j + 1))) (by show 102 + 2 * j + 1 ≤ 102 + 2 * (j + 1); omega) (by show 514787 + 12 * j + 6 ≤ 514787 + 12 * (j + 1); omega) ?_
    exact zr_pick [1, 2, 3, 4, 5] rfl (tL_law_1213 j k23 h23 M_9 v0 v1 v2 v3 v4 _ _ h)
  · replace h := ite_f c_12 h
    refine zr_iconst (q := 1109) (v := 0) dL_law_1108 rfl (by decide) ?_
    cases h
    exact zr_zreturn dL_law_1109 rfl (Or.inl rfl) ⟨by show 102 + 2 * j + 1 ≤ 601024; omega, by show 514787 + 12 * j + 6 ≤ 7293034; omega⟩ ⟨rfl, rfl⟩
def fL_law_1086 (N : Nat) (k23 : zM → Nat → Nat → Nat → Nat → Int32 → Option (Int32 × zM)) (M : zM) (v0 : Nat) (v1 : Nat) (v2 : Nat) (v3 : Nat) (v4 : Int32) : Option (Int32 × zM) :=
  fL_law_1213 k23 M v0 v1 v2 v3 v4
set_option maxHeartbeats 4000000 in
set_option maxRecDepth 100000 in
theorem tL_law_1086 (N : Nat) (j : Nat) (hj : j ≤ 512) (k23 : zM → Nat → Nat → Nat → Nat → Int32 → Option (Int32 × zM)) (h23 : ∀ (M : zM) (v0 v1 v2 v3 : Nat) (v4 : Int32) (r : Int32) (M' : zM), k23 M v0 v1 v2 v3 v4 = some (r, M') → zW uL_law none (102 + 2 * (j + 1), 514787 + 12 * (j + 1)) M 23 [(0, .ref v0), (1, .ref v1), (2, .ref v2), (3, .ref v3), (4, .int v4)] [] (zE (oI r) M')) (M : zM) (v0 : Nat) (v1 : Nat) (v2 : Nat) (v3 : Nat) (v4 : Int32) (r : Int32) (M' : zM) (h : fL_law_1086 N k23 M v0 v1 v2 v3 v4 = some (r, M')) : zW uL_law none (102 + 2 * j + 1, 514787 + 12 * j + 6) M 1086 [(0, .ref v0), (1, .ref v1), (2, .ref v2), (3, .ref v3), (4, .int v4)] [] (zE (oI r) M') := by
  unfold fL_law_1086 at h
  refine zr_goto (q := 1213) dL_law_1086 (by decide) ?_
  refine zr_widen (u' := (102 + 2 * (j + 1), 514787 + 12 * (j + 1))) (by show 102 + 2 * j + 1 ≤ 102 + 2 * (j + 1); omega) (by show 514787 + 12 * j + 6 ≤ 514787 + 12 * (j + 1); omega) ?_
  exact zr_pick [0, 1, 2, 3, 4] rfl (tL_law_1213 j k23 h23 M v0 v1 v2 v3 v4 _ _ h)
def fL_law_1045 (N : Nat) (k23 : zM → Nat → Nat → Nat → Nat → Int32 → Option (Int32 × zM)) (M : zM) (v0 : Nat) (v1 : Nat) (v2 : Nat) (v3 : Nat) (v4 : Int32) : Option (Int32 × zM) :=
  bnd2 (fL_classes N M v1 v3) fun r_1 M_2 =>
  chk (mK M_2 v2 == 10) <|
  bnd2 (fX10_classes N M_2 v2) fun r_4 M_5 =>
  chk (mK M_5 v2 == 10) <|
  bnd2 (fX10_thrown N M_5 v2) fun r_8 M_9 =>
  if r_8 = r_1 then
    if r_1 = (0 : Int32) then
      chk (mK M_9 v3 == 12) <|
      chk (zin (0 : Int32) (mN M_9 v3)) <|
      if (lg_cmp (mL M_9 v3 (Int32.toNatClampNeg (0 : Int32))) (Int32.toInt64 r_4)) = (0 : Int32) then
        fL_law_1086 N k23 M_9 v0 v1 v2 v3 v4
      else
      some ((0 : Int32), M_9)
    else
    fL_law_1086 N k23 M_9 v0 v1 v2 v3 v4
  else
  some ((0 : Int32), M_9)
set_option maxHeartbeats 4000000 in
set_option maxRecDepth 100000 in
theorem tL_law_1045 (N : Nat) (j : Nat) (hj : j ≤ 512) (k23 : zM → Nat → Nat → Nat → Nat → Int32 → Option (Int32 × zM)) (h23 : ∀ (M : zM) (v0 v1 v2 v3 : Nat) (v4 : Int32) (r : Int32) (M' : zM), k23 M v0 v1 v2 v3 v4 = some (r, M') → zW uL_law none (102 + 2 * (j + 1), 514787 + 12 * (j + 1)) M 23 [(0, .ref v0), (1, .ref v1), (2, .ref v2), (3, .ref v3), (4, .int v4)] [] (zE (oI r) M')) (M : zM) (v0 : Nat) (v1 : Nat) (v2 : Nat) (v3 : Nat) (v4 : Int32) (r : Int32) (M' : zM) (h : fL_law_1045 N k23 M v0 v1 v2 v3 v4 = some (r, M')) : zW uL_law none (102 + 2 * j, 514787 + 12 * j) M 1045 [(0, .ref v0), (1, .ref v1), (2, .ref v2), (3, .ref v3), (4, .int v4)] [] (zE (oI r) M') := by
  unfold fL_law_1045 at h
  refine zr_aload_n (q := 1046) dL_law_1045 rfl rfl 1 rfl ?_
  refine zr_aload_n (q := 1047) dL_law_1046 rfl rfl 3 rfl ?_
  obtain ⟨r_1, M_2, hc_3, h⟩ := bnd2_some h
  refine zr_callSH (μ' := uL_classes) (q := 1050) (n := 2) (As := [.ref v1, .ref v3]) (u' := (102 + 2 * j + 1, 514787 + 12 * j + 6)) (tL_classes N M v1 v3 _ _ hc_3) dL_law_1047 rfl rfl ⟨zb_704, zb_705, zb_706, zb_681⟩ zd_L_classes ⟨by decide, by decide⟩ ⟨by show 102 + 2 * j + 1 ≤ 601024; omega, by show 514787 + 12 * j + 6 ≤ 7293034; omega⟩ rfl rfl (Nat.le_of_ble_eq_true rfl) rfl ?_
  refine zr_istore (q := 1052) (L' := [(5, .int r_1), (0, .ref v0), (1, .ref v1), (2, .ref v2), (3, .ref v3), (4, .int v4)]) dL_law_1050 rfl (by decide) rfl ?_
  refine zr_aload_n (q := 1053) dL_law_1052 rfl rfl 3 rfl ?_
  obtain ⟨c_7, h⟩ := chk_some h
  obtain ⟨r_4, M_5, hc_6, h⟩ := bnd2_some h
  refine zr_callVI (μ' := uX10_classes) (q := 1056) (n := 0) (ci := 10) (As := []) (u' := (102 + 2 * j + 1, 514787 + 12 * j + 6)) (tX10_classes N M_2 v2 _ _ hc_6) dL_law_1053 rfl rfl ⟨zb_707, zb_708, zb_709, zb_710, zb_389⟩ zd_X10_classes ⟨by decide, by decide⟩ ⟨by show 102 + 2 * j + 1 + 0 ≤ 601024; omega, by show 514787 + 12 * j + 6 + 0 ≤ 7293034; omega⟩ (eq_of_beq c_7) (by decide) rfl rfl rfl (Nat.le_of_ble_eq_true rfl) rfl rfl ?_
  refine zr_istore (q := 1058) (L' := [(6, .int r_4), (5, .int r_1), (0, .ref v0), (1, .ref v1), (2, .ref v2), (3, .ref v3), (4, .int v4)]) dL_law_1056 rfl (by decide) rfl ?_
  refine zr_aload_n (q := 1059) dL_law_1058 rfl rfl 4 rfl ?_
  obtain ⟨c_11, h⟩ := chk_some h
  obtain ⟨r_8, M_9, hc_10, h⟩ := bnd2_some h
  refine zr_callVI (μ' := uX10_thrown) (q := 1062) (n := 0) (ci := 10) (As := []) (u' := (102 + 2 * j + 1, 514787 + 12 * j + 6)) (tX10_thrown N M_5 v2 _ _ hc_10) dL_law_1059 rfl rfl ⟨zb_686, zb_687, zb_688, zb_689, zb_389⟩ zd_X10_thrown ⟨by decide, by decide⟩ ⟨by show 102 + 2 * j + 1 + 0 ≤ 601024; omega, by show 514787 + 12 * j + 6 + 0 ≤ 7293034; omega⟩ (eq_of_beq c_11) (by decide) rfl rfl rfl (Nat.le_of_ble_eq_true rfl) rfl rfl ?_
  refine zr_iload (q := 1064) dL_law_1062 rfl 1 rfl ?_
  refine zr_icmp_eq (q := 1067) (tgt := 1069) dL_law_1064 rfl (by decide) (fun c_12 => ?_) (fun c_12 => ?_)
  · replace h := ite_t c_12 h
    refine zr_iload (q := 1071) dL_law_1069 rfl 1 rfl ?_
    refine zr_if_ne (q := 1074) (tgt := 1086) dL_law_1071 rfl (by decide) (fun c_13 => ?_) (fun c_13 => ?_)
    · replace h := ite_f c_13 h
      exact zr_pick [2, 3, 4, 5, 6] rfl (tL_law_1086 N j hj k23 h23 M_9 v0 v1 v2 v3 v4 _ _ h)
    · replace h := ite_t c_13 h
      refine zr_aload_n (q := 1075) dL_law_1074 rfl rfl 5 rfl ?_
      refine zr_iconst (q := 1076) (v := 0) dL_law_1075 rfl (by decide) ?_
      obtain ⟨c_14, h⟩ := chk_some h
      obtain ⟨c_15, h⟩ := chk_some h
      refine zr_lald (q := 1077) dL_law_1076 rfl (eq_of_beq c_14) c_15 ?_
      refine zr_iload (q := 1079) dL_law_1077 rfl 0 rfl ?_
      refine zr_i2l (q := 1080) dL_law_1079 rfl ?_
      refine zr_lcmp (q := 1081) dL_law_1080 rfl ?_
      refine zr_if_eq (q := 1084) (tgt := 1086) dL_law_1081 rfl (by decide) (fun c_16 => ?_) (fun c_16 => ?_)
      · replace h := ite_t c_16 h
        exact zr_pick [2, 3, 4, 5, 6] rfl (tL_law_1086 N j hj k23 h23 M_9 v0 v1 v2 v3 v4 _ _ h)
      · replace h := ite_f c_16 h
        refine zr_iconst (q := 1085) (v := 0) dL_law_1084 rfl (by decide) ?_
        cases h
        exact zr_zreturn dL_law_1085 rfl (Or.inl rfl) ⟨by show 102 + 2 * j + 1 ≤ 601024; omega, by show 514787 + 12 * j + 6 ≤ 7293034; omega⟩ ⟨rfl, rfl⟩
  · replace h := ite_f c_12 h
    refine zr_iconst (q := 1068) (v := 0) dL_law_1067 rfl (by decide) ?_
    cases h
    exact zr_zreturn dL_law_1068 rfl (Or.inl rfl) ⟨by show 102 + 2 * j + 1 ≤ 601024; omega, by show 514787 + 12 * j + 6 ≤ 7293034; omega⟩ ⟨rfl, rfl⟩
def fL_law_1042 (N : Nat) (k23 : zM → Nat → Nat → Nat → Nat → Int32 → Option (Int32 × zM)) (M : zM) (v0 : Nat) (v1 : Nat) (v2 : Nat) (v3 : Nat) (v4 : Int32) : Option (Int32 × zM) :=
  fL_law_1213 k23 M v0 v1 v2 v3 v4
set_option maxHeartbeats 4000000 in
set_option maxRecDepth 100000 in
theorem tL_law_1042 (N : Nat) (j : Nat) (hj : j ≤ 512) (k23 : zM → Nat → Nat → Nat → Nat → Int32 → Option (Int32 × zM)) (h23 : ∀ (M : zM) (v0 v1 v2 v3 : Nat) (v4 : Int32) (r : Int32) (M' : zM), k23 M v0 v1 v2 v3 v4 = some (r, M') → zW uL_law none (102 + 2 * (j + 1), 514787 + 12 * (j + 1)) M 23 [(0, .ref v0), (1, .ref v1), (2, .ref v2), (3, .ref v3), (4, .int v4)] [] (zE (oI r) M')) (M : zM) (v0 : Nat) (v1 : Nat) (v2 : Nat) (v3 : Nat) (v4 : Int32) (r : Int32) (M' : zM) (h : fL_law_1042 N k23 M v0 v1 v2 v3 v4 = some (r, M')) : zW uL_law none (102 + 2 * j + 2, 514787 + 12 * j + 12) M 1042 [(0, .ref v0), (1, .ref v1), (2, .ref v2), (3, .ref v3), (4, .int v4)] [] (zE (oI r) M') := by
  unfold fL_law_1042 at h
  refine zr_goto (q := 1213) dL_law_1042 (by decide) ?_
  refine zr_widen (u' := (102 + 2 * (j + 1), 514787 + 12 * (j + 1))) (by show 102 + 2 * j + 2 ≤ 102 + 2 * (j + 1); omega) (by show 514787 + 12 * j + 12 ≤ 514787 + 12 * (j + 1); omega) ?_
  exact zr_pick [0, 1, 2, 3, 4] rfl (tL_law_1213 j k23 h23 M v0 v1 v2 v3 v4 _ _ h)
def fL_law_1036 (N : Nat) (k23 : zM → Nat → Nat → Nat → Nat → Int32 → Option (Int32 × zM)) (M : zM) (v0 : Nat) (v1 : Nat) (v2 : Nat) (v3 : Nat) (v4 : Int32) (s0 : Int64) (s1 : Int64) : Option (Int32 × zM) :=
  if (lg_cmp s0 s1) = (0 : Int32) then
    fL_law_1042 N k23 M v0 v1 v2 v3 v4
  else
  some ((0 : Int32), M)
set_option maxHeartbeats 4000000 in
set_option maxRecDepth 100000 in
theorem tL_law_1036 (N : Nat) (j : Nat) (hj : j ≤ 512) (k23 : zM → Nat → Nat → Nat → Nat → Int32 → Option (Int32 × zM)) (h23 : ∀ (M : zM) (v0 v1 v2 v3 : Nat) (v4 : Int32) (r : Int32) (M' : zM), k23 M v0 v1 v2 v3 v4 = some (r, M') → zW uL_law none (102 + 2 * (j + 1), 514787 + 12 * (j + 1)) M 23 [(0, .ref v0), (1, .ref v1), (2, .ref v2), (3, .ref v3), (4, .int v4)] [] (zE (oI r) M')) (M : zM) (v0 : Nat) (v1 : Nat) (v2 : Nat) (v3 : Nat) (v4 : Int32) (s0 : Int64) (s1 : Int64) (r : Int32) (M' : zM) (h : fL_law_1036 N k23 M v0 v1 v2 v3 v4 s0 s1 = some (r, M')) : zW uL_law none (102 + 2 * j + 2, 514787 + 12 * j + 12) M 1036 [(0, .ref v0), (1, .ref v1), (2, .ref v2), (3, .ref v3), (4, .int v4)] [.long s1, .long s0] (zE (oI r) M') := by
  unfold fL_law_1036 at h
  refine zr_lcmp (q := 1037) dL_law_1036 rfl ?_
  refine zr_if_eq (q := 1040) (tgt := 1042) dL_law_1037 rfl (by decide) (fun c_1 => ?_) (fun c_1 => ?_)
  · replace h := ite_t c_1 h
    exact zr_pick [0, 1, 2, 3, 4] rfl (tL_law_1042 N j hj k23 h23 M v0 v1 v2 v3 v4 _ _ h)
  · replace h := ite_f c_1 h
    refine zr_iconst (q := 1041) (v := 0) dL_law_1040 rfl (by decide) ?_
    cases h
    exact zr_zreturn dL_law_1041 rfl (Or.inl rfl) ⟨by show 102 + 2 * j + 2 ≤ 601024; omega, by show 514787 + 12 * j + 12 ≤ 7293034; omega⟩ ⟨rfl, rfl⟩
def fL_law_982 (N : Nat) (k23 : zM → Nat → Nat → Nat → Nat → Int32 → Option (Int32 × zM)) (M : zM) (v0 : Nat) (v1 : Nat) (v2 : Nat) (v3 : Nat) (v4 : Int32) : Option (Int32 × zM) :=
  chk (v0 == 0) <|
  chk (zin (v4 + (1 : Int32)) (mN M 0)) <|
  bnd2 (fL_good N M v1 (mI M 0 (Int32.toNatClampNeg (v4 + (1 : Int32)))) v3) fun r_3 M_4 =>
  chk (v0 == 0) <|
  chk (zin (v4 + (1 : Int32)) (mN M_4 0)) <|
  chk (mK M_4 v2 == 10) <|
  bnd2 (fX10_good N M_4 v2 (mI M_4 0 (Int32.toNatClampNeg (v4 + (1 : Int32))))) fun r_8 M_9 =>
  chk (mK M_9 v2 == 10) <|
  bnd2 (fX10_thrown N M_9 v2) fun r_12 M_13 =>
  if r_12 = r_3 then
    if r_3 = (0 : Int32) then
      chk (mK M_13 v3 == 12) <|
      chk (zin (0 : Int32) (mN M_13 v3)) <|
      if r_8 = (0 : Int32) then
        fL_law_1036 N k23 M_13 v0 v1 v2 v3 v4 (mL M_13 v3 (Int32.toNatClampNeg (0 : Int32))) (0 : Int64)
      else
      fL_law_1036 N k23 M_13 v0 v1 v2 v3 v4 (mL M_13 v3 (Int32.toNatClampNeg (0 : Int32))) (1 : Int64)
    else
    fL_law_1042 N k23 M_13 v0 v1 v2 v3 v4
  else
  some ((0 : Int32), M_13)
set_option maxHeartbeats 4000000 in
set_option maxRecDepth 100000 in
theorem tL_law_982 (N : Nat) (j : Nat) (hj : j ≤ 512) (k23 : zM → Nat → Nat → Nat → Nat → Int32 → Option (Int32 × zM)) (h23 : ∀ (M : zM) (v0 v1 v2 v3 : Nat) (v4 : Int32) (r : Int32) (M' : zM), k23 M v0 v1 v2 v3 v4 = some (r, M') → zW uL_law none (102 + 2 * (j + 1), 514787 + 12 * (j + 1)) M 23 [(0, .ref v0), (1, .ref v1), (2, .ref v2), (3, .ref v3), (4, .int v4)] [] (zE (oI r) M')) (M : zM) (v0 : Nat) (v1 : Nat) (v2 : Nat) (v3 : Nat) (v4 : Int32) (r : Int32) (M' : zM) (h : fL_law_982 N k23 M v0 v1 v2 v3 v4 = some (r, M')) : zW uL_law none (102 + 2 * j, 514787 + 12 * j) M 982 [(0, .ref v0), (1, .ref v1), (2, .ref v2), (3, .ref v3), (4, .int v4)] [] (zE (oI r) M') := by
  unfold fL_law_982 at h
  refine zr_aload_n (q := 983) dL_law_982 rfl rfl 1 rfl ?_
  refine zr_aload_n (q := 984) dL_law_983 rfl rfl 0 rfl ?_
  refine zr_iload (q := 986) dL_law_984 rfl 4 rfl ?_
  refine zr_iconst (q := 987) (v := 1) dL_law_986 rfl (by decide) ?_
  refine zr_iadd (q := 988) dL_law_987 rfl ?_
  obtain ⟨c_1, h⟩ := chk_some h
  obtain ⟨c_2, h⟩ := chk_some h
  refine zr_sld (q := 989) dL_law_988 rfl (eq_of_beq c_1) c_2 ?_
  refine zr_aload_n (q := 990) dL_law_989 rfl rfl 3 rfl ?_
  obtain ⟨r_3, M_4, hc_5, h⟩ := bnd2_some h
  refine zr_callSH (μ' := uL_good) (q := 993) (n := 3) (As := [.ref v1, .int (mI M 0 (Int32.toNatClampNeg (v4 + (1 : Int32)))), .ref v3]) (u' := (102 + 2 * j + 2, 514787 + 12 * j + 12)) (tL_good N M v1 (mI M 0 (Int32.toNatClampNeg (v4 + (1 : Int32)))) v3 _ _ hc_5) dL_law_990 rfl rfl ⟨zb_711, zb_712, zb_713, zb_681⟩ zd_L_good ⟨by decide, by decide⟩ ⟨by show 102 + 2 * j + 2 ≤ 601024; omega, by show 514787 + 12 * j + 12 ≤ 7293034; omega⟩ rfl rfl (Nat.le_of_ble_eq_true rfl) rfl ?_
  refine zr_istore (q := 995) (L' := [(5, .int r_3), (0, .ref v0), (1, .ref v1), (2, .ref v2), (3, .ref v3), (4, .int v4)]) dL_law_993 rfl (by decide) rfl ?_
  refine zr_aload_n (q := 996) dL_law_995 rfl rfl 3 rfl ?_
  refine zr_aload_n (q := 997) dL_law_996 rfl rfl 1 rfl ?_
  refine zr_iload (q := 999) dL_law_997 rfl 5 rfl ?_
  refine zr_iconst (q := 1000) (v := 1) dL_law_999 rfl (by decide) ?_
  refine zr_iadd (q := 1001) dL_law_1000 rfl ?_
  obtain ⟨c_6, h⟩ := chk_some h
  obtain ⟨c_7, h⟩ := chk_some h
  refine zr_sld (q := 1002) dL_law_1001 rfl (eq_of_beq c_6) c_7 ?_
  obtain ⟨c_11, h⟩ := chk_some h
  obtain ⟨r_8, M_9, hc_10, h⟩ := bnd2_some h
  refine zr_callVI (μ' := uX10_good) (q := 1005) (n := 1) (ci := 10) (As := [.int (mI M_4 0 (Int32.toNatClampNeg (v4 + (1 : Int32))))]) (u' := (102 + 2 * j + 2, 514787 + 12 * j + 12)) (tX10_good N M_4 v2 (mI M_4 0 (Int32.toNatClampNeg (v4 + (1 : Int32)))) _ _ hc_10) dL_law_1002 rfl rfl ⟨zb_714, zb_715, zb_716, zb_717, zb_389⟩ zd_X10_good ⟨by decide, by decide⟩ ⟨by show 102 + 2 * j + 2 + 0 ≤ 601024; omega, by show 514787 + 12 * j + 12 + 0 ≤ 7293034; omega⟩ (eq_of_beq c_11) (by decide) rfl rfl rfl (Nat.le_of_ble_eq_true rfl) rfl rfl ?_
  refine zr_istore (q := 1007) (L' := [(6, .int r_8), (5, .int r_3), (0, .ref v0), (1, .ref v1), (2, .ref v2), (3, .ref v3), (4, .int v4)]) dL_law_1005 rfl (by decide) rfl ?_
  refine zr_aload_n (q := 1008) dL_law_1007 rfl rfl 4 rfl ?_
  obtain ⟨c_15, h⟩ := chk_some h
  obtain ⟨r_12, M_13, hc_14, h⟩ := bnd2_some h
  refine zr_callVI (μ' := uX10_thrown) (q := 1011) (n := 0) (ci := 10) (As := []) (u' := (102 + 2 * j + 2, 514787 + 12 * j + 12)) (tX10_thrown N M_9 v2 _ _ hc_14) dL_law_1008 rfl rfl ⟨zb_686, zb_687, zb_688, zb_689, zb_389⟩ zd_X10_thrown ⟨by decide, by decide⟩ ⟨by show 102 + 2 * j + 2 + 0 ≤ 601024; omega, by show 514787 + 12 * j + 12 + 0 ≤ 7293034; omega⟩ (eq_of_beq c_15) (by decide) rfl rfl rfl (Nat.le_of_ble_eq_true rfl) rfl rfl ?_
  refine zr_iload (q := 1013) dL_law_1011 rfl 1 rfl ?_
  refine zr_icmp_eq (q := 1016) (tgt := 1018) dL_law_1013 rfl (by decide) (fun c_16 => ?_) (fun c_16 => ?_)
  · replace h := ite_t c_16 h
    refine zr_iload (q := 1020) dL_law_1018 rfl 1 rfl ?_
    refine zr_if_ne (q := 1023) (tgt := 1042) dL_law_1020 rfl (by decide) (fun c_17 => ?_) (fun c_17 => ?_)
    · replace h := ite_f c_17 h
      exact zr_pick [2, 3, 4, 5, 6] rfl (tL_law_1042 N j hj k23 h23 M_13 v0 v1 v2 v3 v4 _ _ h)
    · replace h := ite_t c_17 h
      refine zr_aload_n (q := 1024) dL_law_1023 rfl rfl 5 rfl ?_
      refine zr_iconst (q := 1025) (v := 0) dL_law_1024 rfl (by decide) ?_
      obtain ⟨c_18, h⟩ := chk_some h
      obtain ⟨c_19, h⟩ := chk_some h
      refine zr_lald (q := 1026) dL_law_1025 rfl (eq_of_beq c_18) c_19 ?_
      refine zr_iload (q := 1028) dL_law_1026 rfl 0 rfl ?_
      refine zr_if_eq (q := 1031) (tgt := 1035) dL_law_1028 rfl (by decide) (fun c_20 => ?_) (fun c_20 => ?_)
      · replace h := ite_t c_20 h
        refine zr_lconst (q := 1036) (v := 0) dL_law_1035 rfl (by decide) ?_
        exact zr_pick [2, 3, 4, 5, 6] rfl (tL_law_1036 N j hj k23 h23 M_13 v0 v1 v2 v3 v4 (mL M_13 v3 (Int32.toNatClampNeg (0 : Int32))) (0 : Int64) _ _ h)
      · replace h := ite_f c_20 h
        refine zr_lconst (q := 1032) (v := 1) dL_law_1031 rfl (by decide) ?_
        refine zr_goto (q := 1036) dL_law_1032 (by decide) ?_
        exact zr_pick [2, 3, 4, 5, 6] rfl (tL_law_1036 N j hj k23 h23 M_13 v0 v1 v2 v3 v4 (mL M_13 v3 (Int32.toNatClampNeg (0 : Int32))) (1 : Int64) _ _ h)
  · replace h := ite_f c_16 h
    refine zr_iconst (q := 1017) (v := 0) dL_law_1016 rfl (by decide) ?_
    cases h
    exact zr_zreturn dL_law_1017 rfl (Or.inl rfl) ⟨by show 102 + 2 * j + 2 ≤ 601024; omega, by show 514787 + 12 * j + 12 ≤ 7293034; omega⟩ ⟨rfl, rfl⟩
def fL_law_979 (N : Nat) (k23 : zM → Nat → Nat → Nat → Nat → Int32 → Option (Int32 × zM)) (M : zM) (v0 : Nat) (v1 : Nat) (v2 : Nat) (v3 : Nat) (v4 : Int32) : Option (Int32 × zM) :=
  fL_law_1213 k23 M v0 v1 v2 v3 v4
set_option maxHeartbeats 4000000 in
set_option maxRecDepth 100000 in
theorem tL_law_979 (N : Nat) (j : Nat) (hj : j ≤ 512) (k23 : zM → Nat → Nat → Nat → Nat → Int32 → Option (Int32 × zM)) (h23 : ∀ (M : zM) (v0 v1 v2 v3 : Nat) (v4 : Int32) (r : Int32) (M' : zM), k23 M v0 v1 v2 v3 v4 = some (r, M') → zW uL_law none (102 + 2 * (j + 1), 514787 + 12 * (j + 1)) M 23 [(0, .ref v0), (1, .ref v1), (2, .ref v2), (3, .ref v3), (4, .int v4)] [] (zE (oI r) M')) (M : zM) (v0 : Nat) (v1 : Nat) (v2 : Nat) (v3 : Nat) (v4 : Int32) (r : Int32) (M' : zM) (h : fL_law_979 N k23 M v0 v1 v2 v3 v4 = some (r, M')) : zW uL_law none (102 + 2 * j + 2, 514787 + 12 * j + 12) M 979 [(0, .ref v0), (1, .ref v1), (2, .ref v2), (3, .ref v3), (4, .int v4)] [] (zE (oI r) M') := by
  unfold fL_law_979 at h
  refine zr_goto (q := 1213) dL_law_979 (by decide) ?_
  refine zr_widen (u' := (102 + 2 * (j + 1), 514787 + 12 * (j + 1))) (by show 102 + 2 * j + 2 ≤ 102 + 2 * (j + 1); omega) (by show 514787 + 12 * j + 12 ≤ 514787 + 12 * (j + 1); omega) ?_
  exact zr_pick [0, 1, 2, 3, 4] rfl (tL_law_1213 j k23 h23 M v0 v1 v2 v3 v4 _ _ h)
def fL_law_914 (N : Nat) (k23 : zM → Nat → Nat → Nat → Nat → Int32 → Option (Int32 × zM)) (M : zM) (v0 : Nat) (v1 : Nat) (v2 : Nat) (v3 : Nat) (v4 : Int32) : Option (Int32 × zM) :=
  chk (v0 == 0) <|
  chk (zin (v4 + (1 : Int32)) (mN M 0)) <|
  chk (v0 == 0) <|
  chk (zin (v4 + (2 : Int32)) (mN M 0)) <|
  bnd2 (fL_next N M v1 (mI M 0 (Int32.toNatClampNeg (v4 + (1 : Int32)))) (mI M 0 (Int32.toNatClampNeg (v4 + (2 : Int32)))) v3) fun r_5 M_6 =>
  chk (v0 == 0) <|
  chk (zin (v4 + (1 : Int32)) (mN M_6 0)) <|
  chk (v0 == 0) <|
  chk (zin (v4 + (2 : Int32)) (mN M_6 0)) <|
  chk (mK M_6 v2 == 10) <|
  bnd2 (fX10_next N M_6 v2 (mI M_6 0 (Int32.toNatClampNeg (v4 + (1 : Int32)))) (mI M_6 0 (Int32.toNatClampNeg (v4 + (2 : Int32))))) fun r_12 M_13 =>
  chk (mK M_13 v2 == 10) <|
  bnd2 (fX10_thrown N M_13 v2) fun r_16 M_17 =>
  if r_16 = r_5 then
    if r_5 = (0 : Int32) then
      chk (mK M_17 v3 == 12) <|
      chk (zin (0 : Int32) (mN M_17 v3)) <|
      if (lg_cmp (mL M_17 v3 (Int32.toNatClampNeg (0 : Int32))) (Int32.toInt64 r_12)) = (0 : Int32) then
        fL_law_979 N k23 M_17 v0 v1 v2 v3 v4
      else
      some ((0 : Int32), M_17)
    else
    fL_law_979 N k23 M_17 v0 v1 v2 v3 v4
  else
  some ((0 : Int32), M_17)
set_option maxHeartbeats 4000000 in
set_option maxRecDepth 100000 in
theorem tL_law_914 (N : Nat) (j : Nat) (hj : j ≤ 512) (k23 : zM → Nat → Nat → Nat → Nat → Int32 → Option (Int32 × zM)) (h23 : ∀ (M : zM) (v0 v1 v2 v3 : Nat) (v4 : Int32) (r : Int32) (M' : zM), k23 M v0 v1 v2 v3 v4 = some (r, M') → zW uL_law none (102 + 2 * (j + 1), 514787 + 12 * (j + 1)) M 23 [(0, .ref v0), (1, .ref v1), (2, .ref v2), (3, .ref v3), (4, .int v4)] [] (zE (oI r) M')) (M : zM) (v0 : Nat) (v1 : Nat) (v2 : Nat) (v3 : Nat) (v4 : Int32) (r : Int32) (M' : zM) (h : fL_law_914 N k23 M v0 v1 v2 v3 v4 = some (r, M')) : zW uL_law none (102 + 2 * j, 514787 + 12 * j) M 914 [(0, .ref v0), (1, .ref v1), (2, .ref v2), (3, .ref v3), (4, .int v4)] [] (zE (oI r) M') := by
  unfold fL_law_914 at h
  refine zr_aload_n (q := 915) dL_law_914 rfl rfl 1 rfl ?_
  refine zr_aload_n (q := 916) dL_law_915 rfl rfl 0 rfl ?_
  refine zr_iload (q := 918) dL_law_916 rfl 4 rfl ?_
  refine zr_iconst (q := 919) (v := 1) dL_law_918 rfl (by decide) ?_
  refine zr_iadd (q := 920) dL_law_919 rfl ?_
  obtain ⟨c_1, h⟩ := chk_some h
  obtain ⟨c_2, h⟩ := chk_some h
  refine zr_sld (q := 921) dL_law_920 rfl (eq_of_beq c_1) c_2 ?_
  refine zr_aload_n (q := 922) dL_law_921 rfl rfl 0 rfl ?_
  refine zr_iload (q := 924) dL_law_922 rfl 4 rfl ?_
  refine zr_iconst (q := 925) (v := 2) dL_law_924 rfl (by decide) ?_
  refine zr_iadd (q := 926) dL_law_925 rfl ?_
  obtain ⟨c_3, h⟩ := chk_some h
  obtain ⟨c_4, h⟩ := chk_some h
  refine zr_sld (q := 927) dL_law_926 rfl (eq_of_beq c_3) c_4 ?_
  refine zr_aload_n (q := 928) dL_law_927 rfl rfl 3 rfl ?_
  obtain ⟨r_5, M_6, hc_7, h⟩ := bnd2_some h
  refine zr_callSH (μ' := uL_next) (q := 931) (n := 4) (As := [.ref v1, .int (mI M 0 (Int32.toNatClampNeg (v4 + (1 : Int32)))), .int (mI M 0 (Int32.toNatClampNeg (v4 + (2 : Int32)))), .ref v3]) (u' := (102 + 2 * j + 2, 514787 + 12 * j + 12)) (tL_next N M v1 (mI M 0 (Int32.toNatClampNeg (v4 + (1 : Int32)))) (mI M 0 (Int32.toNatClampNeg (v4 + (2 : Int32)))) v3 _ _ hc_7) dL_law_928 rfl rfl ⟨zb_718, zb_719, zb_720, zb_681⟩ zd_L_next ⟨by decide, by decide⟩ ⟨by show 102 + 2 * j + 2 ≤ 601024; omega, by show 514787 + 12 * j + 12 ≤ 7293034; omega⟩ rfl rfl (Nat.le_of_ble_eq_true rfl) rfl ?_
  refine zr_istore (q := 933) (L' := [(5, .int r_5), (0, .ref v0), (1, .ref v1), (2, .ref v2), (3, .ref v3), (4, .int v4)]) dL_law_931 rfl (by decide) rfl ?_
  refine zr_aload_n (q := 934) dL_law_933 rfl rfl 3 rfl ?_
  refine zr_aload_n (q := 935) dL_law_934 rfl rfl 1 rfl ?_
  refine zr_iload (q := 937) dL_law_935 rfl 5 rfl ?_
  refine zr_iconst (q := 938) (v := 1) dL_law_937 rfl (by decide) ?_
  refine zr_iadd (q := 939) dL_law_938 rfl ?_
  obtain ⟨c_8, h⟩ := chk_some h
  obtain ⟨c_9, h⟩ := chk_some h
  refine zr_sld (q := 940) dL_law_939 rfl (eq_of_beq c_8) c_9 ?_
  refine zr_aload_n (q := 941) dL_law_940 rfl rfl 1 rfl ?_
  refine zr_iload (q := 943) dL_law_941 rfl 5 rfl ?_
  refine zr_iconst (q := 944) (v := 2) dL_law_943 rfl (by decide) ?_
  refine zr_iadd (q := 945) dL_law_944 rfl ?_
  obtain ⟨c_10, h⟩ := chk_some h
  obtain ⟨c_11, h⟩ := chk_some h
  refine zr_sld (q := 946) dL_law_945 rfl (eq_of_beq c_10) c_11 ?_
  obtain ⟨c_15, h⟩ := chk_some h
  obtain ⟨r_12, M_13, hc_14, h⟩ := bnd2_some h
  refine zr_callVI (μ' := uX10_next) (q := 949) (n := 2) (ci := 10) (As := [.int (mI M_6 0 (Int32.toNatClampNeg (v4 + (1 : Int32)))), .int (mI M_6 0 (Int32.toNatClampNeg (v4 + (2 : Int32))))]) (u' := (102 + 2 * j + 2, 514787 + 12 * j + 12)) (tX10_next N M_6 v2 (mI M_6 0 (Int32.toNatClampNeg (v4 + (1 : Int32)))) (mI M_6 0 (Int32.toNatClampNeg (v4 + (2 : Int32)))) _ _ hc_14) dL_law_946 rfl rfl ⟨zb_721, zb_722, zb_723, zb_724, zb_389⟩ zd_X10_next ⟨by decide, by decide⟩ ⟨by show 102 + 2 * j + 2 + 0 ≤ 601024; omega, by show 514787 + 12 * j + 12 + 0 ≤ 7293034; omega⟩ (eq_of_beq c_15) (by decide) rfl rfl rfl (Nat.le_of_ble_eq_true rfl) rfl rfl ?_
  refine zr_istore (q := 951) (L' := [(6, .int r_12), (5, .int r_5), (0, .ref v0), (1, .ref v1), (2, .ref v2), (3, .ref v3), (4, .int v4)]) dL_law_949 rfl (by decide) rfl ?_
  refine zr_aload_n (q := 952) dL_law_951 rfl rfl 4 rfl ?_
  obtain ⟨c_19, h⟩ := chk_some h
  obtain ⟨r_16, M_17, hc_18, h⟩ := bnd2_some h
  refine zr_callVI (μ' := uX10_thrown) (q := 955) (n := 0) (ci := 10) (As := []) (u' := (102 + 2 * j + 2, 514787 + 12 * j + 12)) (tX10_thrown N M_13 v2 _ _ hc_18) dL_law_952 rfl rfl ⟨zb_686, zb_687, zb_688, zb_689, zb_389⟩ zd_X10_thrown ⟨by decide, by decide⟩ ⟨by show 102 + 2 * j + 2 + 0 ≤ 601024; omega, by show 514787 + 12 * j + 12 + 0 ≤ 7293034; omega⟩ (eq_of_beq c_19) (by decide) rfl rfl rfl (Nat.le_of_ble_eq_true rfl) rfl rfl ?_
  refine zr_iload (q := 957) dL_law_955 rfl 1 rfl ?_
  refine zr_icmp_eq (q := 960) (tgt := 962) dL_law_957 rfl (by decide) (fun c_20 => ?_) (fun c_20 => ?_)
  · replace h := ite_t c_20 h
    refine zr_iload (q := 964) dL_law_962 rfl 1 rfl ?_
    refine zr_if_ne (q := 967) (tgt := 979) dL_law_964 rfl (by decide) (fun c_21 => ?_) (fun c_21 => ?_)
    · replace h := ite_f c_21 h
      exact zr_pick [2, 3, 4, 5, 6] rfl (tL_law_979 N j hj k23 h23 M_17 v0 v1 v2 v3 v4 _ _ h)
    · replace h := ite_t c_21 h
      refine zr_aload_n (q := 968) dL_law_967 rfl rfl 5 rfl ?_
      refine zr_iconst (q := 969) (v := 0) dL_law_968 rfl (by decide) ?_
      obtain ⟨c_22, h⟩ := chk_some h
      obtain ⟨c_23, h⟩ := chk_some h
      refine zr_lald (q := 970) dL_law_969 rfl (eq_of_beq c_22) c_23 ?_
      refine zr_iload (q := 972) dL_law_970 rfl 0 rfl ?_
      refine zr_i2l (q := 973) dL_law_972 rfl ?_
      refine zr_lcmp (q := 974) dL_law_973 rfl ?_
      refine zr_if_eq (q := 977) (tgt := 979) dL_law_974 rfl (by decide) (fun c_24 => ?_) (fun c_24 => ?_)
      · replace h := ite_t c_24 h
        exact zr_pick [2, 3, 4, 5, 6] rfl (tL_law_979 N j hj k23 h23 M_17 v0 v1 v2 v3 v4 _ _ h)
      · replace h := ite_f c_24 h
        refine zr_iconst (q := 978) (v := 0) dL_law_977 rfl (by decide) ?_
        cases h
        exact zr_zreturn dL_law_978 rfl (Or.inl rfl) ⟨by show 102 + 2 * j + 2 ≤ 601024; omega, by show 514787 + 12 * j + 12 ≤ 7293034; omega⟩ ⟨rfl, rfl⟩
  · replace h := ite_f c_20 h
    refine zr_iconst (q := 961) (v := 0) dL_law_960 rfl (by decide) ?_
    cases h
    exact zr_zreturn dL_law_961 rfl (Or.inl rfl) ⟨by show 102 + 2 * j + 2 ≤ 601024; omega, by show 514787 + 12 * j + 12 ≤ 7293034; omega⟩ ⟨rfl, rfl⟩
def fL_law_911 (N : Nat) (k23 : zM → Nat → Nat → Nat → Nat → Int32 → Option (Int32 × zM)) (M : zM) (v0 : Nat) (v1 : Nat) (v2 : Nat) (v3 : Nat) (v4 : Int32) : Option (Int32 × zM) :=
  fL_law_1213 k23 M v0 v1 v2 v3 v4
set_option maxHeartbeats 4000000 in
set_option maxRecDepth 100000 in
theorem tL_law_911 (N : Nat) (j : Nat) (hj : j ≤ 512) (k23 : zM → Nat → Nat → Nat → Nat → Int32 → Option (Int32 × zM)) (h23 : ∀ (M : zM) (v0 v1 v2 v3 : Nat) (v4 : Int32) (r : Int32) (M' : zM), k23 M v0 v1 v2 v3 v4 = some (r, M') → zW uL_law none (102 + 2 * (j + 1), 514787 + 12 * (j + 1)) M 23 [(0, .ref v0), (1, .ref v1), (2, .ref v2), (3, .ref v3), (4, .int v4)] [] (zE (oI r) M')) (M : zM) (v0 : Nat) (v1 : Nat) (v2 : Nat) (v3 : Nat) (v4 : Int32) (r : Int32) (M' : zM) (h : fL_law_911 N k23 M v0 v1 v2 v3 v4 = some (r, M')) : zW uL_law none (102 + 2 * j + 1, 514787 + 12 * j + 6) M 911 [(0, .ref v0), (1, .ref v1), (2, .ref v2), (3, .ref v3), (4, .int v4)] [] (zE (oI r) M') := by
  unfold fL_law_911 at h
  refine zr_goto (q := 1213) dL_law_911 (by decide) ?_
  refine zr_widen (u' := (102 + 2 * (j + 1), 514787 + 12 * (j + 1))) (by show 102 + 2 * j + 1 ≤ 102 + 2 * (j + 1); omega) (by show 514787 + 12 * j + 6 ≤ 514787 + 12 * (j + 1); omega) ?_
  exact zr_pick [0, 1, 2, 3, 4] rfl (tL_law_1213 j k23 h23 M v0 v1 v2 v3 v4 _ _ h)
def fL_law_870 (N : Nat) (k23 : zM → Nat → Nat → Nat → Nat → Int32 → Option (Int32 × zM)) (M : zM) (v0 : Nat) (v1 : Nat) (v2 : Nat) (v3 : Nat) (v4 : Int32) : Option (Int32 × zM) :=
  bnd2 (fL_states N M v1 v3) fun r_1 M_2 =>
  chk (mK M_2 v2 == 10) <|
  bnd2 (fX10_states N M_2 v2) fun r_4 M_5 =>
  chk (mK M_5 v2 == 10) <|
  bnd2 (fX10_thrown N M_5 v2) fun r_8 M_9 =>
  if r_8 = r_1 then
    if r_1 = (0 : Int32) then
      chk (mK M_9 v3 == 12) <|
      chk (zin (0 : Int32) (mN M_9 v3)) <|
      if (lg_cmp (mL M_9 v3 (Int32.toNatClampNeg (0 : Int32))) (Int32.toInt64 r_4)) = (0 : Int32) then
        fL_law_911 N k23 M_9 v0 v1 v2 v3 v4
      else
      some ((0 : Int32), M_9)
    else
    fL_law_911 N k23 M_9 v0 v1 v2 v3 v4
  else
  some ((0 : Int32), M_9)
set_option maxHeartbeats 4000000 in
set_option maxRecDepth 100000 in
theorem tL_law_870 (N : Nat) (j : Nat) (hj : j ≤ 512) (k23 : zM → Nat → Nat → Nat → Nat → Int32 → Option (Int32 × zM)) (h23 : ∀ (M : zM) (v0 v1 v2 v3 : Nat) (v4 : Int32) (r : Int32) (M' : zM), k23 M v0 v1 v2 v3 v4 = some (r, M') → zW uL_law none (102 + 2 * (j + 1), 514787 + 12 * (j + 1)) M 23 [(0, .ref v0), (1, .ref v1), (2, .ref v2), (3, .ref v3), (4, .int v4)] [] (zE (oI r) M')) (M : zM) (v0 : Nat) (v1 : Nat) (v2 : Nat) (v3 : Nat) (v4 : Int32) (r : Int32) (M' : zM) (h : fL_law_870 N k23 M v0 v1 v2 v3 v4 = some (r, M')) : zW uL_law none (102 + 2 * j, 514787 + 12 * j) M 870 [(0, .ref v0), (1, .ref v1), (2, .ref v2), (3, .ref v3), (4, .int v4)] [] (zE (oI r) M') := by
  unfold fL_law_870 at h
  refine zr_aload_n (q := 871) dL_law_870 rfl rfl 1 rfl ?_
  refine zr_aload_n (q := 872) dL_law_871 rfl rfl 3 rfl ?_
  obtain ⟨r_1, M_2, hc_3, h⟩ := bnd2_some h
  refine zr_callSH (μ' := uL_states) (q := 875) (n := 2) (As := [.ref v1, .ref v3]) (u' := (102 + 2 * j + 1, 514787 + 12 * j + 6)) (tL_states N M v1 v3 _ _ hc_3) dL_law_872 rfl rfl ⟨zb_725, zb_726, zb_727, zb_681⟩ zd_L_states ⟨by decide, by decide⟩ ⟨by show 102 + 2 * j + 1 ≤ 601024; omega, by show 514787 + 12 * j + 6 ≤ 7293034; omega⟩ rfl rfl (Nat.le_of_ble_eq_true rfl) rfl ?_
  refine zr_istore (q := 877) (L' := [(5, .int r_1), (0, .ref v0), (1, .ref v1), (2, .ref v2), (3, .ref v3), (4, .int v4)]) dL_law_875 rfl (by decide) rfl ?_
  refine zr_aload_n (q := 878) dL_law_877 rfl rfl 3 rfl ?_
  obtain ⟨c_7, h⟩ := chk_some h
  obtain ⟨r_4, M_5, hc_6, h⟩ := bnd2_some h
  refine zr_callVI (μ' := uX10_states) (q := 881) (n := 0) (ci := 10) (As := []) (u' := (102 + 2 * j + 1, 514787 + 12 * j + 6)) (tX10_states N M_2 v2 _ _ hc_6) dL_law_878 rfl rfl ⟨zb_728, zb_729, zb_730, zb_731, zb_389⟩ zd_X10_states ⟨by decide, by decide⟩ ⟨by show 102 + 2 * j + 1 + 0 ≤ 601024; omega, by show 514787 + 12 * j + 6 + 0 ≤ 7293034; omega⟩ (eq_of_beq c_7) (by decide) rfl rfl rfl (Nat.le_of_ble_eq_true rfl) rfl rfl ?_
  refine zr_istore (q := 883) (L' := [(6, .int r_4), (5, .int r_1), (0, .ref v0), (1, .ref v1), (2, .ref v2), (3, .ref v3), (4, .int v4)]) dL_law_881 rfl (by decide) rfl ?_
  refine zr_aload_n (q := 884) dL_law_883 rfl rfl 4 rfl ?_
  obtain ⟨c_11, h⟩ := chk_some h
  obtain ⟨r_8, M_9, hc_10, h⟩ := bnd2_some h
  refine zr_callVI (μ' := uX10_thrown) (q := 887) (n := 0) (ci := 10) (As := []) (u' := (102 + 2 * j + 1, 514787 + 12 * j + 6)) (tX10_thrown N M_5 v2 _ _ hc_10) dL_law_884 rfl rfl ⟨zb_686, zb_687, zb_688, zb_689, zb_389⟩ zd_X10_thrown ⟨by decide, by decide⟩ ⟨by show 102 + 2 * j + 1 + 0 ≤ 601024; omega, by show 514787 + 12 * j + 6 + 0 ≤ 7293034; omega⟩ (eq_of_beq c_11) (by decide) rfl rfl rfl (Nat.le_of_ble_eq_true rfl) rfl rfl ?_
  refine zr_iload (q := 889) dL_law_887 rfl 1 rfl ?_
  refine zr_icmp_eq (q := 892) (tgt := 894) dL_law_889 rfl (by decide) (fun c_12 => ?_) (fun c_12 => ?_)
  · replace h := ite_t c_12 h
    refine zr_iload (q := 896) dL_law_894 rfl 1 rfl ?_
    refine zr_if_ne (q := 899) (tgt := 911) dL_law_896 rfl (by decide) (fun c_13 => ?_) (fun c_13 => ?_)
    · replace h := ite_f c_13 h
      exact zr_pick [2, 3, 4, 5, 6] rfl (tL_law_911 N j hj k23 h23 M_9 v0 v1 v2 v3 v4 _ _ h)
    · replace h := ite_t c_13 h
      refine zr_aload_n (q := 900) dL_law_899 rfl rfl 5 rfl ?_
      refine zr_iconst (q := 901) (v := 0) dL_law_900 rfl (by decide) ?_
      obtain ⟨c_14, h⟩ := chk_some h
      obtain ⟨c_15, h⟩ := chk_some h
      refine zr_lald (q := 902) dL_law_901 rfl (eq_of_beq c_14) c_15 ?_
      refine zr_iload (q := 904) dL_law_902 rfl 0 rfl ?_
      refine zr_i2l (q := 905) dL_law_904 rfl ?_
      refine zr_lcmp (q := 906) dL_law_905 rfl ?_
      refine zr_if_eq (q := 909) (tgt := 911) dL_law_906 rfl (by decide) (fun c_16 => ?_) (fun c_16 => ?_)
      · replace h := ite_t c_16 h
        exact zr_pick [2, 3, 4, 5, 6] rfl (tL_law_911 N j hj k23 h23 M_9 v0 v1 v2 v3 v4 _ _ h)
      · replace h := ite_f c_16 h
        refine zr_iconst (q := 910) (v := 0) dL_law_909 rfl (by decide) ?_
        cases h
        exact zr_zreturn dL_law_910 rfl (Or.inl rfl) ⟨by show 102 + 2 * j + 1 ≤ 601024; omega, by show 514787 + 12 * j + 6 ≤ 7293034; omega⟩ ⟨rfl, rfl⟩
  · replace h := ite_f c_12 h
    refine zr_iconst (q := 893) (v := 0) dL_law_892 rfl (by decide) ?_
    cases h
    exact zr_zreturn dL_law_893 rfl (Or.inl rfl) ⟨by show 102 + 2 * j + 1 ≤ 601024; omega, by show 514787 + 12 * j + 6 ≤ 7293034; omega⟩ ⟨rfl, rfl⟩
def fL_law_867 (N : Nat) (k23 : zM → Nat → Nat → Nat → Nat → Int32 → Option (Int32 × zM)) (M : zM) (v0 : Nat) (v1 : Nat) (v2 : Nat) (v3 : Nat) (v4 : Int32) : Option (Int32 × zM) :=
  fL_law_1213 k23 M v0 v1 v2 v3 v4
set_option maxHeartbeats 4000000 in
set_option maxRecDepth 100000 in
theorem tL_law_867 (N : Nat) (j : Nat) (hj : j ≤ 512) (k23 : zM → Nat → Nat → Nat → Nat → Int32 → Option (Int32 × zM)) (h23 : ∀ (M : zM) (v0 v1 v2 v3 : Nat) (v4 : Int32) (r : Int32) (M' : zM), k23 M v0 v1 v2 v3 v4 = some (r, M') → zW uL_law none (102 + 2 * (j + 1), 514787 + 12 * (j + 1)) M 23 [(0, .ref v0), (1, .ref v1), (2, .ref v2), (3, .ref v3), (4, .int v4)] [] (zE (oI r) M')) (M : zM) (v0 : Nat) (v1 : Nat) (v2 : Nat) (v3 : Nat) (v4 : Int32) (r : Int32) (M' : zM) (h : fL_law_867 N k23 M v0 v1 v2 v3 v4 = some (r, M')) : zW uL_law none (102 + 2 * j + 2, 514787 + 12 * j + 12) M 867 [(0, .ref v0), (1, .ref v1), (2, .ref v2), (3, .ref v3), (4, .int v4)] [] (zE (oI r) M') := by
  unfold fL_law_867 at h
  refine zr_goto (q := 1213) dL_law_867 (by decide) ?_
  refine zr_widen (u' := (102 + 2 * (j + 1), 514787 + 12 * (j + 1))) (by show 102 + 2 * j + 2 ≤ 102 + 2 * (j + 1); omega) (by show 514787 + 12 * j + 12 ≤ 514787 + 12 * (j + 1); omega) ?_
  exact zr_pick [0, 1, 2, 3, 4] rfl (tL_law_1213 j k23 h23 M v0 v1 v2 v3 v4 _ _ h)
def fL_law_834 (N : Nat) (k23 : zM → Nat → Nat → Nat → Nat → Int32 → Option (Int32 × zM)) (M : zM) (v0 : Nat) (v1 : Nat) (v2 : Nat) (v3 : Nat) (v4 : Int32) (v5 : Int32) (s0 : Nat) (s1 : Int32) (s2 : Int32) : Option (Int32 × zM) :=
  chk (mK M s0 == 10) <|
  bnd2 (fX10_find N M s0 s1 s2) fun r_1 M_2 =>
  chk (mK M_2 v2 == 10) <|
  bnd2 (fX10_thrown N M_2 v2) fun r_5 M_6 =>
  if r_5 = v5 then
    if v5 = (0 : Int32) then
      chk (mK M_6 v3 == 12) <|
      chk (zin (0 : Int32) (mN M_6 v3)) <|
      if (lg_cmp (mL M_6 v3 (Int32.toNatClampNeg (0 : Int32))) (Int32.toInt64 r_1)) = (0 : Int32) then
        fL_law_867 N k23 M_6 v0 v1 v2 v3 v4
      else
      some ((0 : Int32), M_6)
    else
    fL_law_867 N k23 M_6 v0 v1 v2 v3 v4
  else
  some ((0 : Int32), M_6)
set_option maxHeartbeats 4000000 in
set_option maxRecDepth 100000 in
theorem tL_law_834 (N : Nat) (j : Nat) (hj : j ≤ 512) (k23 : zM → Nat → Nat → Nat → Nat → Int32 → Option (Int32 × zM)) (h23 : ∀ (M : zM) (v0 v1 v2 v3 : Nat) (v4 : Int32) (r : Int32) (M' : zM), k23 M v0 v1 v2 v3 v4 = some (r, M') → zW uL_law none (102 + 2 * (j + 1), 514787 + 12 * (j + 1)) M 23 [(0, .ref v0), (1, .ref v1), (2, .ref v2), (3, .ref v3), (4, .int v4)] [] (zE (oI r) M')) (M : zM) (v0 : Nat) (v1 : Nat) (v2 : Nat) (v3 : Nat) (v4 : Int32) (v5 : Int32) (s0 : Nat) (s1 : Int32) (s2 : Int32) (r : Int32) (M' : zM) (h : fL_law_834 N k23 M v0 v1 v2 v3 v4 v5 s0 s1 s2 = some (r, M')) : zW uL_law none (102 + 2 * j + 2, 514787 + 12 * j + 12) M 834 [(0, .ref v0), (1, .ref v1), (2, .ref v2), (3, .ref v3), (4, .int v4), (5, .int v5)] [.int s2, .int s1, .ref s0] (zE (oI r) M') := by
  unfold fL_law_834 at h
  obtain ⟨c_4, h⟩ := chk_some h
  obtain ⟨r_1, M_2, hc_3, h⟩ := bnd2_some h
  refine zr_callVI (μ' := uX10_find) (q := 837) (n := 2) (ci := 10) (As := [.int s1, .int s2]) (u' := (102 + 2 * j + 2, 514787 + 12 * j + 12)) (tX10_find N M s0 s1 s2 _ _ hc_3) dL_law_834 rfl rfl ⟨zb_732, zb_733, zb_734, zb_735, zb_389⟩ zd_X10_find ⟨by decide, by decide⟩ ⟨by show 102 + 2 * j + 2 + 0 ≤ 601024; omega, by show 514787 + 12 * j + 12 + 0 ≤ 7293034; omega⟩ (eq_of_beq c_4) (by decide) rfl rfl rfl (Nat.le_of_ble_eq_true rfl) rfl rfl ?_
  refine zr_istore (q := 839) (L' := [(6, .int r_1), (0, .ref v0), (1, .ref v1), (2, .ref v2), (3, .ref v3), (4, .int v4), (5, .int v5)]) dL_law_837 rfl (by decide) rfl ?_
  refine zr_aload_n (q := 840) dL_law_839 rfl rfl 3 rfl ?_
  obtain ⟨c_8, h⟩ := chk_some h
  obtain ⟨r_5, M_6, hc_7, h⟩ := bnd2_some h
  refine zr_callVI (μ' := uX10_thrown) (q := 843) (n := 0) (ci := 10) (As := []) (u' := (102 + 2 * j + 2, 514787 + 12 * j + 12)) (tX10_thrown N M_2 v2 _ _ hc_7) dL_law_840 rfl rfl ⟨zb_686, zb_687, zb_688, zb_689, zb_389⟩ zd_X10_thrown ⟨by decide, by decide⟩ ⟨by show 102 + 2 * j + 2 + 0 ≤ 601024; omega, by show 514787 + 12 * j + 12 + 0 ≤ 7293034; omega⟩ (eq_of_beq c_8) (by decide) rfl rfl rfl (Nat.le_of_ble_eq_true rfl) rfl rfl ?_
  refine zr_iload (q := 845) dL_law_843 rfl 6 rfl ?_
  refine zr_icmp_eq (q := 848) (tgt := 850) dL_law_845 rfl (by decide) (fun c_9 => ?_) (fun c_9 => ?_)
  · replace h := ite_t c_9 h
    refine zr_iload (q := 852) dL_law_850 rfl 6 rfl ?_
    refine zr_if_ne (q := 855) (tgt := 867) dL_law_852 rfl (by decide) (fun c_10 => ?_) (fun c_10 => ?_)
    · replace h := ite_f c_10 h
      exact zr_pick [1, 2, 3, 4, 5] rfl (tL_law_867 N j hj k23 h23 M_6 v0 v1 v2 v3 v4 _ _ h)
    · replace h := ite_t c_10 h
      refine zr_aload_n (q := 856) dL_law_855 rfl rfl 4 rfl ?_
      refine zr_iconst (q := 857) (v := 0) dL_law_856 rfl (by decide) ?_
      obtain ⟨c_11, h⟩ := chk_some h
      obtain ⟨c_12, h⟩ := chk_some h
      refine zr_lald (q := 858) dL_law_857 rfl (eq_of_beq c_11) c_12 ?_
      refine zr_iload (q := 860) dL_law_858 rfl 0 rfl ?_
      refine zr_i2l (q := 861) dL_law_860 rfl ?_
      refine zr_lcmp (q := 862) dL_law_861 rfl ?_
      refine zr_if_eq (q := 865) (tgt := 867) dL_law_862 rfl (by decide) (fun c_13 => ?_) (fun c_13 => ?_)
      · replace h := ite_t c_13 h
        exact zr_pick [1, 2, 3, 4, 5] rfl (tL_law_867 N j hj k23 h23 M_6 v0 v1 v2 v3 v4 _ _ h)
      · replace h := ite_f c_13 h
        refine zr_iconst (q := 866) (v := 0) dL_law_865 rfl (by decide) ?_
        cases h
        exact zr_zreturn dL_law_866 rfl (Or.inl rfl) ⟨by show 102 + 2 * j + 2 ≤ 601024; omega, by show 514787 + 12 * j + 12 ≤ 7293034; omega⟩ ⟨rfl, rfl⟩
  · replace h := ite_f c_9 h
    refine zr_iconst (q := 849) (v := 0) dL_law_848 rfl (by decide) ?_
    cases h
    exact zr_zreturn dL_law_849 rfl (Or.inl rfl) ⟨by show 102 + 2 * j + 2 ≤ 601024; omega, by show 514787 + 12 * j + 12 ≤ 7293034; omega⟩ ⟨rfl, rfl⟩
def fL_law_807 (N : Nat) (k23 : zM → Nat → Nat → Nat → Nat → Int32 → Option (Int32 × zM)) (M : zM) (v0 : Nat) (v1 : Nat) (v2 : Nat) (v3 : Nat) (v4 : Int32) (s0 : Nat) (s1 : Int32) (s2 : Int32) : Option (Int32 × zM) :=
  bnd2 (fL_find N M s0 s1 s2 v3) fun r_1 M_2 =>
  chk (v0 == 0) <|
  chk (zin (v4 + (1 : Int32)) (mN M_2 0)) <|
  chk (v0 == 0) <|
  chk (zin (v4 + (2 : Int32)) (mN M_2 0)) <|
  if (mI M_2 0 (Int32.toNatClampNeg (v4 + (2 : Int32)))) = (0 : Int32) then
    fL_law_834 N k23 M_2 v0 v1 v2 v3 v4 r_1 v2 (mI M_2 0 (Int32.toNatClampNeg (v4 + (1 : Int32)))) (0 : Int32)
  else
  fL_law_834 N k23 M_2 v0 v1 v2 v3 v4 r_1 v2 (mI M_2 0 (Int32.toNatClampNeg (v4 + (1 : Int32)))) (1 : Int32)
set_option maxHeartbeats 4000000 in
set_option maxRecDepth 100000 in
theorem tL_law_807 (N : Nat) (j : Nat) (hj : j ≤ 512) (k23 : zM → Nat → Nat → Nat → Nat → Int32 → Option (Int32 × zM)) (h23 : ∀ (M : zM) (v0 v1 v2 v3 : Nat) (v4 : Int32) (r : Int32) (M' : zM), k23 M v0 v1 v2 v3 v4 = some (r, M') → zW uL_law none (102 + 2 * (j + 1), 514787 + 12 * (j + 1)) M 23 [(0, .ref v0), (1, .ref v1), (2, .ref v2), (3, .ref v3), (4, .int v4)] [] (zE (oI r) M')) (M : zM) (v0 : Nat) (v1 : Nat) (v2 : Nat) (v3 : Nat) (v4 : Int32) (s0 : Nat) (s1 : Int32) (s2 : Int32) (r : Int32) (M' : zM) (h : fL_law_807 N k23 M v0 v1 v2 v3 v4 s0 s1 s2 = some (r, M')) : zW uL_law none (102 + 2 * j, 514787 + 12 * j) M 807 [(0, .ref v0), (1, .ref v1), (2, .ref v2), (3, .ref v3), (4, .int v4)] [.int s2, .int s1, .ref s0] (zE (oI r) M') := by
  unfold fL_law_807 at h
  refine zr_aload_n (q := 808) dL_law_807 rfl rfl 3 rfl ?_
  obtain ⟨r_1, M_2, hc_3, h⟩ := bnd2_some h
  refine zr_callSH (μ' := uL_find) (q := 811) (n := 4) (As := [.ref s0, .int s1, .int s2, .ref v3]) (u' := (102 + 2 * j + 2, 514787 + 12 * j + 12)) (tL_find N M s0 s1 s2 v3 _ _ hc_3) dL_law_808 rfl rfl ⟨zb_736, zb_737, zb_738, zb_681⟩ zd_L_find ⟨by decide, by decide⟩ ⟨by show 102 + 2 * j + 2 ≤ 601024; omega, by show 514787 + 12 * j + 12 ≤ 7293034; omega⟩ rfl rfl (Nat.le_of_ble_eq_true rfl) rfl ?_
  refine zr_istore (q := 813) (L' := [(5, .int r_1), (0, .ref v0), (1, .ref v1), (2, .ref v2), (3, .ref v3), (4, .int v4)]) dL_law_811 rfl (by decide) rfl ?_
  refine zr_aload_n (q := 814) dL_law_813 rfl rfl 3 rfl ?_
  refine zr_aload_n (q := 815) dL_law_814 rfl rfl 1 rfl ?_
  refine zr_iload (q := 817) dL_law_815 rfl 5 rfl ?_
  refine zr_iconst (q := 818) (v := 1) dL_law_817 rfl (by decide) ?_
  refine zr_iadd (q := 819) dL_law_818 rfl ?_
  obtain ⟨c_4, h⟩ := chk_some h
  obtain ⟨c_5, h⟩ := chk_some h
  refine zr_sld (q := 820) dL_law_819 rfl (eq_of_beq c_4) c_5 ?_
  refine zr_aload_n (q := 821) dL_law_820 rfl rfl 1 rfl ?_
  refine zr_iload (q := 823) dL_law_821 rfl 5 rfl ?_
  refine zr_iconst (q := 824) (v := 2) dL_law_823 rfl (by decide) ?_
  refine zr_iadd (q := 825) dL_law_824 rfl ?_
  obtain ⟨c_6, h⟩ := chk_some h
  obtain ⟨c_7, h⟩ := chk_some h
  refine zr_sld (q := 826) dL_law_825 rfl (eq_of_beq c_6) c_7 ?_
  refine zr_if_eq (q := 829) (tgt := 833) dL_law_826 rfl (by decide) (fun c_8 => ?_) (fun c_8 => ?_)
  · replace h := ite_t c_8 h
    refine zr_iconst (q := 834) (v := 0) dL_law_833 rfl (by decide) ?_
    exact zr_pick [1, 2, 3, 4, 5, 0] rfl (tL_law_834 N j hj k23 h23 M_2 v0 v1 v2 v3 v4 r_1 v2 (mI M_2 0 (Int32.toNatClampNeg (v4 + (1 : Int32)))) (0 : Int32) _ _ h)
  · replace h := ite_f c_8 h
    refine zr_iconst (q := 830) (v := 1) dL_law_829 rfl (by decide) ?_
    refine zr_goto (q := 834) dL_law_830 (by decide) ?_
    exact zr_pick [1, 2, 3, 4, 5, 0] rfl (tL_law_834 N j hj k23 h23 M_2 v0 v1 v2 v3 v4 r_1 v2 (mI M_2 0 (Int32.toNatClampNeg (v4 + (1 : Int32)))) (1 : Int32) _ _ h)
def fL_law_786 (N : Nat) (k23 : zM → Nat → Nat → Nat → Nat → Int32 → Option (Int32 × zM)) (M : zM) (v0 : Nat) (v1 : Nat) (v2 : Nat) (v3 : Nat) (v4 : Int32) : Option (Int32 × zM) :=
  chk (v0 == 0) <|
  chk (zin (v4 + (1 : Int32)) (mN M 0)) <|
  chk (v0 == 0) <|
  chk (zin (v4 + (2 : Int32)) (mN M 0)) <|
  if (mI M 0 (Int32.toNatClampNeg (v4 + (2 : Int32)))) = (0 : Int32) then
    fL_law_807 N k23 M v0 v1 v2 v3 v4 v1 (mI M 0 (Int32.toNatClampNeg (v4 + (1 : Int32)))) (0 : Int32)
  else
  fL_law_807 N k23 M v0 v1 v2 v3 v4 v1 (mI M 0 (Int32.toNatClampNeg (v4 + (1 : Int32)))) (1 : Int32)
set_option maxHeartbeats 4000000 in
set_option maxRecDepth 100000 in
theorem tL_law_786 (N : Nat) (j : Nat) (hj : j ≤ 512) (k23 : zM → Nat → Nat → Nat → Nat → Int32 → Option (Int32 × zM)) (h23 : ∀ (M : zM) (v0 v1 v2 v3 : Nat) (v4 : Int32) (r : Int32) (M' : zM), k23 M v0 v1 v2 v3 v4 = some (r, M') → zW uL_law none (102 + 2 * (j + 1), 514787 + 12 * (j + 1)) M 23 [(0, .ref v0), (1, .ref v1), (2, .ref v2), (3, .ref v3), (4, .int v4)] [] (zE (oI r) M')) (M : zM) (v0 : Nat) (v1 : Nat) (v2 : Nat) (v3 : Nat) (v4 : Int32) (r : Int32) (M' : zM) (h : fL_law_786 N k23 M v0 v1 v2 v3 v4 = some (r, M')) : zW uL_law none (102 + 2 * j, 514787 + 12 * j) M 786 [(0, .ref v0), (1, .ref v1), (2, .ref v2), (3, .ref v3), (4, .int v4)] [] (zE (oI r) M') := by
  unfold fL_law_786 at h
  refine zr_aload_n (q := 787) dL_law_786 rfl rfl 1 rfl ?_
  refine zr_aload_n (q := 788) dL_law_787 rfl rfl 0 rfl ?_
  refine zr_iload (q := 790) dL_law_788 rfl 4 rfl ?_
  refine zr_iconst (q := 791) (v := 1) dL_law_790 rfl (by decide) ?_
  refine zr_iadd (q := 792) dL_law_791 rfl ?_
  obtain ⟨c_1, h⟩ := chk_some h
  obtain ⟨c_2, h⟩ := chk_some h
  refine zr_sld (q := 793) dL_law_792 rfl (eq_of_beq c_1) c_2 ?_
  refine zr_aload_n (q := 794) dL_law_793 rfl rfl 0 rfl ?_
  refine zr_iload (q := 796) dL_law_794 rfl 4 rfl ?_
  refine zr_iconst (q := 797) (v := 2) dL_law_796 rfl (by decide) ?_
  refine zr_iadd (q := 798) dL_law_797 rfl ?_
  obtain ⟨c_3, h⟩ := chk_some h
  obtain ⟨c_4, h⟩ := chk_some h
  refine zr_sld (q := 799) dL_law_798 rfl (eq_of_beq c_3) c_4 ?_
  refine zr_if_eq (q := 802) (tgt := 806) dL_law_799 rfl (by decide) (fun c_5 => ?_) (fun c_5 => ?_)
  · replace h := ite_t c_5 h
    refine zr_iconst (q := 807) (v := 0) dL_law_806 rfl (by decide) ?_
    exact zr_pick [0, 1, 2, 3, 4] rfl (tL_law_807 N j hj k23 h23 M v0 v1 v2 v3 v4 v1 (mI M 0 (Int32.toNatClampNeg (v4 + (1 : Int32)))) (0 : Int32) _ _ h)
  · replace h := ite_f c_5 h
    refine zr_iconst (q := 803) (v := 1) dL_law_802 rfl (by decide) ?_
    refine zr_goto (q := 807) dL_law_803 (by decide) ?_
    exact zr_pick [0, 1, 2, 3, 4] rfl (tL_law_807 N j hj k23 h23 M v0 v1 v2 v3 v4 v1 (mI M 0 (Int32.toNatClampNeg (v4 + (1 : Int32)))) (1 : Int32) _ _ h)
def fL_law_783 (N : Nat) (k23 : zM → Nat → Nat → Nat → Nat → Int32 → Option (Int32 × zM)) (M : zM) (v0 : Nat) (v1 : Nat) (v2 : Nat) (v3 : Nat) (v4 : Int32) : Option (Int32 × zM) :=
  fL_law_1213 k23 M v0 v1 v2 v3 v4
set_option maxHeartbeats 4000000 in
set_option maxRecDepth 100000 in
theorem tL_law_783 (N : Nat) (j : Nat) (hj : j ≤ 512) (k23 : zM → Nat → Nat → Nat → Nat → Int32 → Option (Int32 × zM)) (h23 : ∀ (M : zM) (v0 v1 v2 v3 : Nat) (v4 : Int32) (r : Int32) (M' : zM), k23 M v0 v1 v2 v3 v4 = some (r, M') → zW uL_law none (102 + 2 * (j + 1), 514787 + 12 * (j + 1)) M 23 [(0, .ref v0), (1, .ref v1), (2, .ref v2), (3, .ref v3), (4, .int v4)] [] (zE (oI r) M')) (M : zM) (v0 : Nat) (v1 : Nat) (v2 : Nat) (v3 : Nat) (v4 : Int32) (r : Int32) (M' : zM) (h : fL_law_783 N k23 M v0 v1 v2 v3 v4 = some (r, M')) : zW uL_law none (102 + 2 * j + 1, 514787 + 12 * j + 6) M 783 [(0, .ref v0), (1, .ref v1), (2, .ref v2), (3, .ref v3), (4, .int v4)] [] (zE (oI r) M') := by
  unfold fL_law_783 at h
  refine zr_goto (q := 1213) dL_law_783 (by decide) ?_
  refine zr_widen (u' := (102 + 2 * (j + 1), 514787 + 12 * (j + 1))) (by show 102 + 2 * j + 1 ≤ 102 + 2 * (j + 1); omega) (by show 514787 + 12 * j + 6 ≤ 514787 + 12 * (j + 1); omega) ?_
  exact zr_pick [0, 1, 2, 3, 4] rfl (tL_law_1213 j k23 h23 M v0 v1 v2 v3 v4 _ _ h)
def fL_law_742 (N : Nat) (k23 : zM → Nat → Nat → Nat → Nat → Int32 → Option (Int32 × zM)) (M : zM) (v0 : Nat) (v1 : Nat) (v2 : Nat) (v3 : Nat) (v4 : Int32) : Option (Int32 × zM) :=
  bnd2 (fL_finds N M v1 v3) fun r_1 M_2 =>
  chk (mK M_2 v2 == 10) <|
  bnd2 (fX10_finds N M_2 v2) fun r_4 M_5 =>
  chk (mK M_5 v2 == 10) <|
  bnd2 (fX10_thrown N M_5 v2) fun r_8 M_9 =>
  if r_8 = r_1 then
    if r_1 = (0 : Int32) then
      chk (mK M_9 v3 == 12) <|
      chk (zin (0 : Int32) (mN M_9 v3)) <|
      if (lg_cmp (mL M_9 v3 (Int32.toNatClampNeg (0 : Int32))) (Int32.toInt64 r_4)) = (0 : Int32) then
        fL_law_783 N k23 M_9 v0 v1 v2 v3 v4
      else
      some ((0 : Int32), M_9)
    else
    fL_law_783 N k23 M_9 v0 v1 v2 v3 v4
  else
  some ((0 : Int32), M_9)
set_option maxHeartbeats 4000000 in
set_option maxRecDepth 100000 in
theorem tL_law_742 (N : Nat) (j : Nat) (hj : j ≤ 512) (k23 : zM → Nat → Nat → Nat → Nat → Int32 → Option (Int32 × zM)) (h23 : ∀ (M : zM) (v0 v1 v2 v3 : Nat) (v4 : Int32) (r : Int32) (M' : zM), k23 M v0 v1 v2 v3 v4 = some (r, M') → zW uL_law none (102 + 2 * (j + 1), 514787 + 12 * (j + 1)) M 23 [(0, .ref v0), (1, .ref v1), (2, .ref v2), (3, .ref v3), (4, .int v4)] [] (zE (oI r) M')) (M : zM) (v0 : Nat) (v1 : Nat) (v2 : Nat) (v3 : Nat) (v4 : Int32) (r : Int32) (M' : zM) (h : fL_law_742 N k23 M v0 v1 v2 v3 v4 = some (r, M')) : zW uL_law none (102 + 2 * j, 514787 + 12 * j) M 742 [(0, .ref v0), (1, .ref v1), (2, .ref v2), (3, .ref v3), (4, .int v4)] [] (zE (oI r) M') := by
  unfold fL_law_742 at h
  refine zr_aload_n (q := 743) dL_law_742 rfl rfl 1 rfl ?_
  refine zr_aload_n (q := 744) dL_law_743 rfl rfl 3 rfl ?_
  obtain ⟨r_1, M_2, hc_3, h⟩ := bnd2_some h
  refine zr_callSH (μ' := uL_finds) (q := 747) (n := 2) (As := [.ref v1, .ref v3]) (u' := (102 + 2 * j + 1, 514787 + 12 * j + 6)) (tL_finds N M v1 v3 _ _ hc_3) dL_law_744 rfl rfl ⟨zb_739, zb_740, zb_741, zb_681⟩ zd_L_finds ⟨by decide, by decide⟩ ⟨by show 102 + 2 * j + 1 ≤ 601024; omega, by show 514787 + 12 * j + 6 ≤ 7293034; omega⟩ rfl rfl (Nat.le_of_ble_eq_true rfl) rfl ?_
  refine zr_istore (q := 749) (L' := [(5, .int r_1), (0, .ref v0), (1, .ref v1), (2, .ref v2), (3, .ref v3), (4, .int v4)]) dL_law_747 rfl (by decide) rfl ?_
  refine zr_aload_n (q := 750) dL_law_749 rfl rfl 3 rfl ?_
  obtain ⟨c_7, h⟩ := chk_some h
  obtain ⟨r_4, M_5, hc_6, h⟩ := bnd2_some h
  refine zr_callVI (μ' := uX10_finds) (q := 753) (n := 0) (ci := 10) (As := []) (u' := (102 + 2 * j + 1, 514787 + 12 * j + 6)) (tX10_finds N M_2 v2 _ _ hc_6) dL_law_750 rfl rfl ⟨zb_742, zb_743, zb_744, zb_745, zb_389⟩ zd_X10_finds ⟨by decide, by decide⟩ ⟨by show 102 + 2 * j + 1 + 0 ≤ 601024; omega, by show 514787 + 12 * j + 6 + 0 ≤ 7293034; omega⟩ (eq_of_beq c_7) (by decide) rfl rfl rfl (Nat.le_of_ble_eq_true rfl) rfl rfl ?_
  refine zr_istore (q := 755) (L' := [(6, .int r_4), (5, .int r_1), (0, .ref v0), (1, .ref v1), (2, .ref v2), (3, .ref v3), (4, .int v4)]) dL_law_753 rfl (by decide) rfl ?_
  refine zr_aload_n (q := 756) dL_law_755 rfl rfl 4 rfl ?_
  obtain ⟨c_11, h⟩ := chk_some h
  obtain ⟨r_8, M_9, hc_10, h⟩ := bnd2_some h
  refine zr_callVI (μ' := uX10_thrown) (q := 759) (n := 0) (ci := 10) (As := []) (u' := (102 + 2 * j + 1, 514787 + 12 * j + 6)) (tX10_thrown N M_5 v2 _ _ hc_10) dL_law_756 rfl rfl ⟨zb_686, zb_687, zb_688, zb_689, zb_389⟩ zd_X10_thrown ⟨by decide, by decide⟩ ⟨by show 102 + 2 * j + 1 + 0 ≤ 601024; omega, by show 514787 + 12 * j + 6 + 0 ≤ 7293034; omega⟩ (eq_of_beq c_11) (by decide) rfl rfl rfl (Nat.le_of_ble_eq_true rfl) rfl rfl ?_
  refine zr_iload (q := 761) dL_law_759 rfl 1 rfl ?_
  refine zr_icmp_eq (q := 764) (tgt := 766) dL_law_761 rfl (by decide) (fun c_12 => ?_) (fun c_12 => ?_)
  · replace h := ite_t c_12 h
    refine zr_iload (q := 768) dL_law_766 rfl 1 rfl ?_
    refine zr_if_ne (q := 771) (tgt := 783) dL_law_768 rfl (by decide) (fun c_13 => ?_) (fun c_13 => ?_)
    · replace h := ite_f c_13 h
      exact zr_pick [2, 3, 4, 5, 6] rfl (tL_law_783 N j hj k23 h23 M_9 v0 v1 v2 v3 v4 _ _ h)
    · replace h := ite_t c_13 h
      refine zr_aload_n (q := 772) dL_law_771 rfl rfl 5 rfl ?_
      refine zr_iconst (q := 773) (v := 0) dL_law_772 rfl (by decide) ?_
      obtain ⟨c_14, h⟩ := chk_some h
      obtain ⟨c_15, h⟩ := chk_some h
      refine zr_lald (q := 774) dL_law_773 rfl (eq_of_beq c_14) c_15 ?_
      refine zr_iload (q := 776) dL_law_774 rfl 0 rfl ?_
      refine zr_i2l (q := 777) dL_law_776 rfl ?_
      refine zr_lcmp (q := 778) dL_law_777 rfl ?_
      refine zr_if_eq (q := 781) (tgt := 783) dL_law_778 rfl (by decide) (fun c_16 => ?_) (fun c_16 => ?_)
      · replace h := ite_t c_16 h
        exact zr_pick [2, 3, 4, 5, 6] rfl (tL_law_783 N j hj k23 h23 M_9 v0 v1 v2 v3 v4 _ _ h)
      · replace h := ite_f c_16 h
        refine zr_iconst (q := 782) (v := 0) dL_law_781 rfl (by decide) ?_
        cases h
        exact zr_zreturn dL_law_782 rfl (Or.inl rfl) ⟨by show 102 + 2 * j + 1 ≤ 601024; omega, by show 514787 + 12 * j + 6 ≤ 7293034; omega⟩ ⟨rfl, rfl⟩
  · replace h := ite_f c_12 h
    refine zr_iconst (q := 765) (v := 0) dL_law_764 rfl (by decide) ?_
    cases h
    exact zr_zreturn dL_law_765 rfl (Or.inl rfl) ⟨by show 102 + 2 * j + 1 ≤ 601024; omega, by show 514787 + 12 * j + 6 ≤ 7293034; omega⟩ ⟨rfl, rfl⟩
def fL_law_739 (N : Nat) (k23 : zM → Nat → Nat → Nat → Nat → Int32 → Option (Int32 × zM)) (M : zM) (v0 : Nat) (v1 : Nat) (v2 : Nat) (v3 : Nat) (v4 : Int32) : Option (Int32 × zM) :=
  fL_law_1213 k23 M v0 v1 v2 v3 v4
set_option maxHeartbeats 4000000 in
set_option maxRecDepth 100000 in
theorem tL_law_739 (N : Nat) (j : Nat) (hj : j ≤ 512) (k23 : zM → Nat → Nat → Nat → Nat → Int32 → Option (Int32 × zM)) (h23 : ∀ (M : zM) (v0 v1 v2 v3 : Nat) (v4 : Int32) (r : Int32) (M' : zM), k23 M v0 v1 v2 v3 v4 = some (r, M') → zW uL_law none (102 + 2 * (j + 1), 514787 + 12 * (j + 1)) M 23 [(0, .ref v0), (1, .ref v1), (2, .ref v2), (3, .ref v3), (4, .int v4)] [] (zE (oI r) M')) (M : zM) (v0 : Nat) (v1 : Nat) (v2 : Nat) (v3 : Nat) (v4 : Int32) (r : Int32) (M' : zM) (h : fL_law_739 N k23 M v0 v1 v2 v3 v4 = some (r, M')) : zW uL_law none (102 + 2 * j + 1, 514787 + 12 * j + 6) M 739 [(0, .ref v0), (1, .ref v1), (2, .ref v2), (3, .ref v3), (4, .int v4)] [] (zE (oI r) M') := by
  unfold fL_law_739 at h
  refine zr_goto (q := 1213) dL_law_739 (by decide) ?_
  refine zr_widen (u' := (102 + 2 * (j + 1), 514787 + 12 * (j + 1))) (by show 102 + 2 * j + 1 ≤ 102 + 2 * (j + 1); omega) (by show 514787 + 12 * j + 6 ≤ 514787 + 12 * (j + 1); omega) ?_
  exact zr_pick [0, 1, 2, 3, 4] rfl (tL_law_1213 j k23 h23 M v0 v1 v2 v3 v4 _ _ h)
def fL_law_733 (N : Nat) (k23 : zM → Nat → Nat → Nat → Nat → Int32 → Option (Int32 × zM)) (M : zM) (v0 : Nat) (v1 : Nat) (v2 : Nat) (v3 : Nat) (v4 : Int32) (s0 : Int64) (s1 : Int64) : Option (Int32 × zM) :=
  if (lg_cmp s0 s1) = (0 : Int32) then
    fL_law_739 N k23 M v0 v1 v2 v3 v4
  else
  some ((0 : Int32), M)
set_option maxHeartbeats 4000000 in
set_option maxRecDepth 100000 in
theorem tL_law_733 (N : Nat) (j : Nat) (hj : j ≤ 512) (k23 : zM → Nat → Nat → Nat → Nat → Int32 → Option (Int32 × zM)) (h23 : ∀ (M : zM) (v0 v1 v2 v3 : Nat) (v4 : Int32) (r : Int32) (M' : zM), k23 M v0 v1 v2 v3 v4 = some (r, M') → zW uL_law none (102 + 2 * (j + 1), 514787 + 12 * (j + 1)) M 23 [(0, .ref v0), (1, .ref v1), (2, .ref v2), (3, .ref v3), (4, .int v4)] [] (zE (oI r) M')) (M : zM) (v0 : Nat) (v1 : Nat) (v2 : Nat) (v3 : Nat) (v4 : Int32) (s0 : Int64) (s1 : Int64) (r : Int32) (M' : zM) (h : fL_law_733 N k23 M v0 v1 v2 v3 v4 s0 s1 = some (r, M')) : zW uL_law none (102 + 2 * j + 1, 514787 + 12 * j + 6) M 733 [(0, .ref v0), (1, .ref v1), (2, .ref v2), (3, .ref v3), (4, .int v4)] [.long s1, .long s0] (zE (oI r) M') := by
  unfold fL_law_733 at h
  refine zr_lcmp (q := 734) dL_law_733 rfl ?_
  refine zr_if_eq (q := 737) (tgt := 739) dL_law_734 rfl (by decide) (fun c_1 => ?_) (fun c_1 => ?_)
  · replace h := ite_t c_1 h
    exact zr_pick [0, 1, 2, 3, 4] rfl (tL_law_739 N j hj k23 h23 M v0 v1 v2 v3 v4 _ _ h)
  · replace h := ite_f c_1 h
    refine zr_iconst (q := 738) (v := 0) dL_law_737 rfl (by decide) ?_
    cases h
    exact zr_zreturn dL_law_738 rfl (Or.inl rfl) ⟨by show 102 + 2 * j + 1 ≤ 601024; omega, by show 514787 + 12 * j + 6 ≤ 7293034; omega⟩ ⟨rfl, rfl⟩
def fL_law_691 (N : Nat) (k23 : zM → Nat → Nat → Nat → Nat → Int32 → Option (Int32 × zM)) (M : zM) (v0 : Nat) (v1 : Nat) (v2 : Nat) (v3 : Nat) (v4 : Int32) : Option (Int32 × zM) :=
  bnd2 (fL_whole N M v1 v3) fun r_1 M_2 =>
  chk (mK M_2 v2 == 10) <|
  bnd2 (fX10_whole N M_2 v2) fun r_4 M_5 =>
  chk (mK M_5 v2 == 10) <|
  bnd2 (fX10_thrown N M_5 v2) fun r_8 M_9 =>
  if r_8 = r_1 then
    if r_1 = (0 : Int32) then
      chk (mK M_9 v3 == 12) <|
      chk (zin (0 : Int32) (mN M_9 v3)) <|
      if r_4 = (0 : Int32) then
        fL_law_733 N k23 M_9 v0 v1 v2 v3 v4 (mL M_9 v3 (Int32.toNatClampNeg (0 : Int32))) (0 : Int64)
      else
      fL_law_733 N k23 M_9 v0 v1 v2 v3 v4 (mL M_9 v3 (Int32.toNatClampNeg (0 : Int32))) (1 : Int64)
    else
    fL_law_739 N k23 M_9 v0 v1 v2 v3 v4
  else
  some ((0 : Int32), M_9)
set_option maxHeartbeats 4000000 in
set_option maxRecDepth 100000 in
theorem tL_law_691 (N : Nat) (j : Nat) (hj : j ≤ 512) (k23 : zM → Nat → Nat → Nat → Nat → Int32 → Option (Int32 × zM)) (h23 : ∀ (M : zM) (v0 v1 v2 v3 : Nat) (v4 : Int32) (r : Int32) (M' : zM), k23 M v0 v1 v2 v3 v4 = some (r, M') → zW uL_law none (102 + 2 * (j + 1), 514787 + 12 * (j + 1)) M 23 [(0, .ref v0), (1, .ref v1), (2, .ref v2), (3, .ref v3), (4, .int v4)] [] (zE (oI r) M')) (M : zM) (v0 : Nat) (v1 : Nat) (v2 : Nat) (v3 : Nat) (v4 : Int32) (r : Int32) (M' : zM) (h : fL_law_691 N k23 M v0 v1 v2 v3 v4 = some (r, M')) : zW uL_law none (102 + 2 * j, 514787 + 12 * j) M 691 [(0, .ref v0), (1, .ref v1), (2, .ref v2), (3, .ref v3), (4, .int v4)] [] (zE (oI r) M') := by
  unfold fL_law_691 at h
  refine zr_aload_n (q := 692) dL_law_691 rfl rfl 1 rfl ?_
  refine zr_aload_n (q := 693) dL_law_692 rfl rfl 3 rfl ?_
  obtain ⟨r_1, M_2, hc_3, h⟩ := bnd2_some h
  refine zr_callSH (μ' := uL_whole) (q := 696) (n := 2) (As := [.ref v1, .ref v3]) (u' := (102 + 2 * j + 1, 514787 + 12 * j + 6)) (tL_whole N M v1 v3 _ _ hc_3) dL_law_693 rfl rfl ⟨zb_746, zb_747, zb_748, zb_681⟩ zd_L_whole ⟨by decide, by decide⟩ ⟨by show 102 + 2 * j + 1 ≤ 601024; omega, by show 514787 + 12 * j + 6 ≤ 7293034; omega⟩ rfl rfl (Nat.le_of_ble_eq_true rfl) rfl ?_
  refine zr_istore (q := 698) (L' := [(5, .int r_1), (0, .ref v0), (1, .ref v1), (2, .ref v2), (3, .ref v3), (4, .int v4)]) dL_law_696 rfl (by decide) rfl ?_
  refine zr_aload_n (q := 699) dL_law_698 rfl rfl 3 rfl ?_
  obtain ⟨c_7, h⟩ := chk_some h
  obtain ⟨r_4, M_5, hc_6, h⟩ := bnd2_some h
  refine zr_callVI (μ' := uX10_whole) (q := 702) (n := 0) (ci := 10) (As := []) (u' := (102 + 2 * j + 1, 514787 + 12 * j + 6)) (tX10_whole N M_2 v2 _ _ hc_6) dL_law_699 rfl rfl ⟨zb_749, zb_750, zb_751, zb_752, zb_389⟩ zd_X10_whole ⟨by decide, by decide⟩ ⟨by show 102 + 2 * j + 1 + 0 ≤ 601024; omega, by show 514787 + 12 * j + 6 + 0 ≤ 7293034; omega⟩ (eq_of_beq c_7) (by decide) rfl rfl rfl (Nat.le_of_ble_eq_true rfl) rfl rfl ?_
  refine zr_istore (q := 704) (L' := [(6, .int r_4), (5, .int r_1), (0, .ref v0), (1, .ref v1), (2, .ref v2), (3, .ref v3), (4, .int v4)]) dL_law_702 rfl (by decide) rfl ?_
  refine zr_aload_n (q := 705) dL_law_704 rfl rfl 4 rfl ?_
  obtain ⟨c_11, h⟩ := chk_some h
  obtain ⟨r_8, M_9, hc_10, h⟩ := bnd2_some h
  refine zr_callVI (μ' := uX10_thrown) (q := 708) (n := 0) (ci := 10) (As := []) (u' := (102 + 2 * j + 1, 514787 + 12 * j + 6)) (tX10_thrown N M_5 v2 _ _ hc_10) dL_law_705 rfl rfl ⟨zb_686, zb_687, zb_688, zb_689, zb_389⟩ zd_X10_thrown ⟨by decide, by decide⟩ ⟨by show 102 + 2 * j + 1 + 0 ≤ 601024; omega, by show 514787 + 12 * j + 6 + 0 ≤ 7293034; omega⟩ (eq_of_beq c_11) (by decide) rfl rfl rfl (Nat.le_of_ble_eq_true rfl) rfl rfl ?_
  refine zr_iload (q := 710) dL_law_708 rfl 1 rfl ?_
  refine zr_icmp_eq (q := 713) (tgt := 715) dL_law_710 rfl (by decide) (fun c_12 => ?_) (fun c_12 => ?_)
  · replace h := ite_t c_12 h
    refine zr_iload (q := 717) dL_law_715 rfl 1 rfl ?_
    refine zr_if_ne (q := 720) (tgt := 739) dL_law_717 rfl (by decide) (fun c_13 => ?_) (fun c_13 => ?_)
    · replace h := ite_f c_13 h
      exact zr_pick [2, 3, 4, 5, 6] rfl (tL_law_739 N j hj k23 h23 M_9 v0 v1 v2 v3 v4 _ _ h)
    · replace h := ite_t c_13 h
      refine zr_aload_n (q := 721) dL_law_720 rfl rfl 5 rfl ?_
      refine zr_iconst (q := 722) (v := 0) dL_law_721 rfl (by decide) ?_
      obtain ⟨c_14, h⟩ := chk_some h
      obtain ⟨c_15, h⟩ := chk_some h
      refine zr_lald (q := 723) dL_law_722 rfl (eq_of_beq c_14) c_15 ?_
      refine zr_iload (q := 725) dL_law_723 rfl 0 rfl ?_
      refine zr_if_eq (q := 728) (tgt := 732) dL_law_725 rfl (by decide) (fun c_16 => ?_) (fun c_16 => ?_)
      · replace h := ite_t c_16 h
        refine zr_lconst (q := 733) (v := 0) dL_law_732 rfl (by decide) ?_
        exact zr_pick [2, 3, 4, 5, 6] rfl (tL_law_733 N j hj k23 h23 M_9 v0 v1 v2 v3 v4 (mL M_9 v3 (Int32.toNatClampNeg (0 : Int32))) (0 : Int64) _ _ h)
      · replace h := ite_f c_16 h
        refine zr_lconst (q := 729) (v := 1) dL_law_728 rfl (by decide) ?_
        refine zr_goto (q := 733) dL_law_729 (by decide) ?_
        exact zr_pick [2, 3, 4, 5, 6] rfl (tL_law_733 N j hj k23 h23 M_9 v0 v1 v2 v3 v4 (mL M_9 v3 (Int32.toNatClampNeg (0 : Int32))) (1 : Int64) _ _ h)
  · replace h := ite_f c_12 h
    refine zr_iconst (q := 714) (v := 0) dL_law_713 rfl (by decide) ?_
    cases h
    exact zr_zreturn dL_law_714 rfl (Or.inl rfl) ⟨by show 102 + 2 * j + 1 ≤ 601024; omega, by show 514787 + 12 * j + 6 ≤ 7293034; omega⟩ ⟨rfl, rfl⟩
def fL_law_678 (N : Nat) (k23 : zM → Nat → Nat → Nat → Nat → Int32 → Option (Int32 × zM)) (M : zM) (v0 : Nat) (v1 : Nat) (v2 : Nat) (v3 : Nat) (v4 : Int32) : Option (Int32 × zM) :=
  chk (mK M v1 == 9) <|
  bnd2 (fX9_clear N M v1) fun r_1 M_2 =>
  chk (mK M_2 v2 == 10) <|
  bnd2 (fX10_clear N M_2 v2) fun r_5 M_6 =>
  if r_1 = r_5 then
    fL_law_1213 k23 M_6 v0 v1 v2 v3 v4
  else
  some ((0 : Int32), M_6)
set_option maxHeartbeats 4000000 in
set_option maxRecDepth 100000 in
theorem tL_law_678 (N : Nat) (j : Nat) (hj : j ≤ 512) (k23 : zM → Nat → Nat → Nat → Nat → Int32 → Option (Int32 × zM)) (h23 : ∀ (M : zM) (v0 v1 v2 v3 : Nat) (v4 : Int32) (r : Int32) (M' : zM), k23 M v0 v1 v2 v3 v4 = some (r, M') → zW uL_law none (102 + 2 * (j + 1), 514787 + 12 * (j + 1)) M 23 [(0, .ref v0), (1, .ref v1), (2, .ref v2), (3, .ref v3), (4, .int v4)] [] (zE (oI r) M')) (M : zM) (v0 : Nat) (v1 : Nat) (v2 : Nat) (v3 : Nat) (v4 : Int32) (r : Int32) (M' : zM) (h : fL_law_678 N k23 M v0 v1 v2 v3 v4 = some (r, M')) : zW uL_law none (102 + 2 * j, 514787 + 12 * j) M 678 [(0, .ref v0), (1, .ref v1), (2, .ref v2), (3, .ref v3), (4, .int v4)] [] (zE (oI r) M') := by
  unfold fL_law_678 at h
  refine zr_aload_n (q := 679) dL_law_678 rfl rfl 1 rfl ?_
  obtain ⟨c_4, h⟩ := chk_some h
  obtain ⟨r_1, M_2, hc_3, h⟩ := bnd2_some h
  refine zr_callVI (μ' := uX9_clear) (q := 682) (n := 0) (ci := 9) (As := []) (u' := (102 + 2 * j, 514787 + 12 * j)) (tX9_clear N M v1 _ _ hc_3) dL_law_679 rfl rfl ⟨zb_753, zb_754, zb_755, zb_756, zb_25⟩ zd_X9_clear ⟨by decide, by decide⟩ ⟨by show 102 + 2 * j + 0 ≤ 601024; omega, by show 514787 + 12 * j + 0 ≤ 7293034; omega⟩ (eq_of_beq c_4) (by decide) rfl rfl rfl (Nat.le_of_ble_eq_true rfl) rfl rfl ?_
  refine zr_aload_n (q := 683) dL_law_682 rfl rfl 2 rfl ?_
  obtain ⟨c_8, h⟩ := chk_some h
  obtain ⟨r_5, M_6, hc_7, h⟩ := bnd2_some h
  refine zr_callVI (μ' := uX10_clear) (q := 686) (n := 0) (ci := 10) (As := []) (u' := (102 + 2 * j, 514787 + 12 * j)) (tX10_clear N M_2 v2 _ _ hc_7) dL_law_683 rfl rfl ⟨zb_757, zb_758, zb_759, zb_760, zb_389⟩ zd_X10_clear ⟨by decide, by decide⟩ ⟨by show 102 + 2 * j + 0 ≤ 601024; omega, by show 514787 + 12 * j + 0 ≤ 7293034; omega⟩ (eq_of_beq c_8) (by decide) rfl rfl rfl (Nat.le_of_ble_eq_true rfl) rfl rfl ?_
  refine zr_icmp_eq (q := 689) (tgt := 1213) dL_law_686 rfl (by decide) (fun c_9 => ?_) (fun c_9 => ?_)
  · replace h := ite_t c_9 h
    refine zr_widen (u' := (102 + 2 * (j + 1), 514787 + 12 * (j + 1))) (by show 102 + 2 * j ≤ 102 + 2 * (j + 1); omega) (by show 514787 + 12 * j ≤ 514787 + 12 * (j + 1); omega) ?_
    exact zr_pick [0, 1, 2, 3, 4] rfl (tL_law_1213 j k23 h23 M_6 v0 v1 v2 v3 v4 _ _ h)
  · replace h := ite_f c_9 h
    refine zr_iconst (q := 690) (v := 0) dL_law_689 rfl (by decide) ?_
    cases h
    exact zr_zreturn dL_law_690 rfl (Or.inl rfl) ⟨by show 102 + 2 * j ≤ 601024; omega, by show 514787 + 12 * j ≤ 7293034; omega⟩ ⟨rfl, rfl⟩
def fL_law_675 (N : Nat) (k23 : zM → Nat → Nat → Nat → Nat → Int32 → Option (Int32 × zM)) (M : zM) (v0 : Nat) (v1 : Nat) (v2 : Nat) (v3 : Nat) (v4 : Int32) : Option (Int32 × zM) :=
  fL_law_1213 k23 M v0 v1 v2 v3 v4
set_option maxHeartbeats 4000000 in
set_option maxRecDepth 100000 in
theorem tL_law_675 (N : Nat) (j : Nat) (hj : j ≤ 512) (k23 : zM → Nat → Nat → Nat → Nat → Int32 → Option (Int32 × zM)) (h23 : ∀ (M : zM) (v0 v1 v2 v3 : Nat) (v4 : Int32) (r : Int32) (M' : zM), k23 M v0 v1 v2 v3 v4 = some (r, M') → zW uL_law none (102 + 2 * (j + 1), 514787 + 12 * (j + 1)) M 23 [(0, .ref v0), (1, .ref v1), (2, .ref v2), (3, .ref v3), (4, .int v4)] [] (zE (oI r) M')) (M : zM) (v0 : Nat) (v1 : Nat) (v2 : Nat) (v3 : Nat) (v4 : Int32) (r : Int32) (M' : zM) (h : fL_law_675 N k23 M v0 v1 v2 v3 v4 = some (r, M')) : zW uL_law none (102 + 2 * j + 1, 514787 + 12 * j + 6) M 675 [(0, .ref v0), (1, .ref v1), (2, .ref v2), (3, .ref v3), (4, .int v4)] [] (zE (oI r) M') := by
  unfold fL_law_675 at h
  refine zr_goto (q := 1213) dL_law_675 (by decide) ?_
  refine zr_widen (u' := (102 + 2 * (j + 1), 514787 + 12 * (j + 1))) (by show 102 + 2 * j + 1 ≤ 102 + 2 * (j + 1); omega) (by show 514787 + 12 * j + 6 ≤ 514787 + 12 * (j + 1); omega) ?_
  exact zr_pick [0, 1, 2, 3, 4] rfl (tL_law_1213 j k23 h23 M v0 v1 v2 v3 v4 _ _ h)
def fL_law_578 (N : Nat) (k23 : zM → Nat → Nat → Nat → Nat → Int32 → Option (Int32 × zM)) (M : zM) (v0 : Nat) (v1 : Nat) (v2 : Nat) (v3 : Nat) (v4 : Int32) : Option (Int32 × zM) :=
  chk (v0 == 0) <|
  chk (zin (v4 + (1 : Int32)) (mN M 0)) <|
  chk (v0 == 0) <|
  chk (zin (v4 + (2 : Int32)) (mN M 0)) <|
  chk (v0 == 0) <|
  chk (zin (v4 + (3 : Int32)) (mN M 0)) <|
  bnd2 (fL_feed N M v1 ((jshl (Int32.toInt64 (mI M 0 (Int32.toNatClampNeg (v4 + (1 : Int32))))) (32 : Int32)) ||| ((Int32.toInt64 (mI M 0 (Int32.toNatClampNeg (v4 + (2 : Int32))))) &&& (4294967295 : Int64))) (mI M 0 (Int32.toNatClampNeg (v4 + (3 : Int32)))) v3) fun r_7 M_8 =>
  chk (v0 == 0) <|
  chk (zin (v4 + (1 : Int32)) (mN M_8 0)) <|
  chk (v0 == 0) <|
  chk (zin (v4 + (2 : Int32)) (mN M_8 0)) <|
  chk (v0 == 0) <|
  chk (zin (v4 + (3 : Int32)) (mN M_8 0)) <|
  chk (mK M_8 v2 == 10) <|
  bnd2 (fX10_feed N M_8 v2 ((jshl (Int32.toInt64 (mI M_8 0 (Int32.toNatClampNeg (v4 + (1 : Int32))))) (32 : Int32)) ||| ((Int32.toInt64 (mI M_8 0 (Int32.toNatClampNeg (v4 + (2 : Int32))))) &&& (4294967295 : Int64))) (mI M_8 0 (Int32.toNatClampNeg (v4 + (3 : Int32))))) fun r_16 M_17 =>
  chk (mK M_17 v2 == 10) <|
  bnd2 (fX10_thrown N M_17 v2) fun r_20 M_21 =>
  if r_20 = r_7 then
    if r_7 = (0 : Int32) then
      chk (mK M_21 v3 == 12) <|
      chk (zin (0 : Int32) (mN M_21 v3)) <|
      if (lg_cmp (mL M_21 v3 (Int32.toNatClampNeg (0 : Int32))) (Int32.toInt64 r_16)) = (0 : Int32) then
        fL_law_675 N k23 M_21 v0 v1 v2 v3 v4
      else
      some ((0 : Int32), M_21)
    else
    fL_law_675 N k23 M_21 v0 v1 v2 v3 v4
  else
  some ((0 : Int32), M_21)
set_option maxHeartbeats 4000000 in
set_option maxRecDepth 100000 in
theorem tL_law_578 (N : Nat) (j : Nat) (hj : j ≤ 512) (k23 : zM → Nat → Nat → Nat → Nat → Int32 → Option (Int32 × zM)) (h23 : ∀ (M : zM) (v0 v1 v2 v3 : Nat) (v4 : Int32) (r : Int32) (M' : zM), k23 M v0 v1 v2 v3 v4 = some (r, M') → zW uL_law none (102 + 2 * (j + 1), 514787 + 12 * (j + 1)) M 23 [(0, .ref v0), (1, .ref v1), (2, .ref v2), (3, .ref v3), (4, .int v4)] [] (zE (oI r) M')) (M : zM) (v0 : Nat) (v1 : Nat) (v2 : Nat) (v3 : Nat) (v4 : Int32) (r : Int32) (M' : zM) (h : fL_law_578 N k23 M v0 v1 v2 v3 v4 = some (r, M')) : zW uL_law none (102 + 2 * j, 514787 + 12 * j) M 578 [(0, .ref v0), (1, .ref v1), (2, .ref v2), (3, .ref v3), (4, .int v4)] [] (zE (oI r) M') := by
  unfold fL_law_578 at h
  refine zr_aload_n (q := 579) dL_law_578 rfl rfl 1 rfl ?_
  refine zr_aload_n (q := 580) dL_law_579 rfl rfl 0 rfl ?_
  refine zr_iload (q := 582) dL_law_580 rfl 4 rfl ?_
  refine zr_iconst (q := 583) (v := 1) dL_law_582 rfl (by decide) ?_
  refine zr_iadd (q := 584) dL_law_583 rfl ?_
  obtain ⟨c_1, h⟩ := chk_some h
  obtain ⟨c_2, h⟩ := chk_some h
  refine zr_sld (q := 585) dL_law_584 rfl (eq_of_beq c_1) c_2 ?_
  refine zr_i2l (q := 586) dL_law_585 rfl ?_
  refine zr_bipush (q := 588) (v := 32) dL_law_586 rfl (by decide) ?_
  refine zr_lshl (q := 589) dL_law_588 rfl ?_
  refine zr_aload_n (q := 590) dL_law_589 rfl rfl 0 rfl ?_
  refine zr_iload (q := 592) dL_law_590 rfl 4 rfl ?_
  refine zr_iconst (q := 593) (v := 2) dL_law_592 rfl (by decide) ?_
  refine zr_iadd (q := 594) dL_law_593 rfl ?_
  obtain ⟨c_3, h⟩ := chk_some h
  obtain ⟨c_4, h⟩ := chk_some h
  refine zr_sld (q := 595) dL_law_594 rfl (eq_of_beq c_3) c_4 ?_
  refine zr_i2l (q := 596) dL_law_595 rfl ?_
  refine zr_ldc2 (q := 599) (v := 4294967295) dL_law_596 rfl zb_761 ?_
  refine zr_land (q := 600) dL_law_599 rfl ?_
  refine zr_lor (q := 601) dL_law_600 rfl ?_
  refine zr_aload_n (q := 602) dL_law_601 rfl rfl 0 rfl ?_
  refine zr_iload (q := 604) dL_law_602 rfl 4 rfl ?_
  refine zr_iconst (q := 605) (v := 3) dL_law_604 rfl (by decide) ?_
  refine zr_iadd (q := 606) dL_law_605 rfl ?_
  obtain ⟨c_5, h⟩ := chk_some h
  obtain ⟨c_6, h⟩ := chk_some h
  refine zr_sld (q := 607) dL_law_606 rfl (eq_of_beq c_5) c_6 ?_
  refine zr_aload_n (q := 608) dL_law_607 rfl rfl 3 rfl ?_
  obtain ⟨r_7, M_8, hc_9, h⟩ := bnd2_some h
  refine zr_callSH (μ' := uL_feed) (q := 611) (n := 4) (As := [.ref v1, .long ((jshl (Int32.toInt64 (mI M 0 (Int32.toNatClampNeg (v4 + (1 : Int32))))) (32 : Int32)) ||| ((Int32.toInt64 (mI M 0 (Int32.toNatClampNeg (v4 + (2 : Int32))))) &&& (4294967295 : Int64))), .int (mI M 0 (Int32.toNatClampNeg (v4 + (3 : Int32)))), .ref v3]) (u' := (102 + 2 * j + 1, 514787 + 12 * j + 6)) (tL_feed N M v1 ((jshl (Int32.toInt64 (mI M 0 (Int32.toNatClampNeg (v4 + (1 : Int32))))) (32 : Int32)) ||| ((Int32.toInt64 (mI M 0 (Int32.toNatClampNeg (v4 + (2 : Int32))))) &&& (4294967295 : Int64))) (mI M 0 (Int32.toNatClampNeg (v4 + (3 : Int32)))) v3 _ _ hc_9) dL_law_608 rfl rfl ⟨zb_762, zb_763, zb_764, zb_681⟩ zd_L_feed ⟨by decide, by decide⟩ ⟨by show 102 + 2 * j + 1 ≤ 601024; omega, by show 514787 + 12 * j + 6 ≤ 7293034; omega⟩ rfl rfl (Nat.le_of_ble_eq_true rfl) rfl ?_
  refine zr_istore (q := 613) (L' := [(5, .int r_7), (0, .ref v0), (1, .ref v1), (2, .ref v2), (3, .ref v3), (4, .int v4)]) dL_law_611 rfl (by decide) rfl ?_
  refine zr_aload_n (q := 614) dL_law_613 rfl rfl 3 rfl ?_
  refine zr_aload_n (q := 615) dL_law_614 rfl rfl 1 rfl ?_
  refine zr_iload (q := 617) dL_law_615 rfl 5 rfl ?_
  refine zr_iconst (q := 618) (v := 1) dL_law_617 rfl (by decide) ?_
  refine zr_iadd (q := 619) dL_law_618 rfl ?_
  obtain ⟨c_10, h⟩ := chk_some h
  obtain ⟨c_11, h⟩ := chk_some h
  refine zr_sld (q := 620) dL_law_619 rfl (eq_of_beq c_10) c_11 ?_
  refine zr_i2l (q := 621) dL_law_620 rfl ?_
  refine zr_bipush (q := 623) (v := 32) dL_law_621 rfl (by decide) ?_
  refine zr_lshl (q := 624) dL_law_623 rfl ?_
  refine zr_aload_n (q := 625) dL_law_624 rfl rfl 1 rfl ?_
  refine zr_iload (q := 627) dL_law_625 rfl 5 rfl ?_
  refine zr_iconst (q := 628) (v := 2) dL_law_627 rfl (by decide) ?_
  refine zr_iadd (q := 629) dL_law_628 rfl ?_
  obtain ⟨c_12, h⟩ := chk_some h
  obtain ⟨c_13, h⟩ := chk_some h
  refine zr_sld (q := 630) dL_law_629 rfl (eq_of_beq c_12) c_13 ?_
  refine zr_i2l (q := 631) dL_law_630 rfl ?_
  refine zr_ldc2 (q := 634) (v := 4294967295) dL_law_631 rfl zb_761 ?_
  refine zr_land (q := 635) dL_law_634 rfl ?_
  refine zr_lor (q := 636) dL_law_635 rfl ?_
  refine zr_aload_n (q := 637) dL_law_636 rfl rfl 1 rfl ?_
  refine zr_iload (q := 639) dL_law_637 rfl 5 rfl ?_
  refine zr_iconst (q := 640) (v := 3) dL_law_639 rfl (by decide) ?_
  refine zr_iadd (q := 641) dL_law_640 rfl ?_
  obtain ⟨c_14, h⟩ := chk_some h
  obtain ⟨c_15, h⟩ := chk_some h
  refine zr_sld (q := 642) dL_law_641 rfl (eq_of_beq c_14) c_15 ?_
  obtain ⟨c_19, h⟩ := chk_some h
  obtain ⟨r_16, M_17, hc_18, h⟩ := bnd2_some h
  refine zr_callVI (μ' := uX10_feed) (q := 645) (n := 2) (ci := 10) (As := [.long ((jshl (Int32.toInt64 (mI M_8 0 (Int32.toNatClampNeg (v4 + (1 : Int32))))) (32 : Int32)) ||| ((Int32.toInt64 (mI M_8 0 (Int32.toNatClampNeg (v4 + (2 : Int32))))) &&& (4294967295 : Int64))), .int (mI M_8 0 (Int32.toNatClampNeg (v4 + (3 : Int32))))]) (u' := (102 + 2 * j + 1, 514787 + 12 * j + 6)) (tX10_feed N M_8 v2 ((jshl (Int32.toInt64 (mI M_8 0 (Int32.toNatClampNeg (v4 + (1 : Int32))))) (32 : Int32)) ||| ((Int32.toInt64 (mI M_8 0 (Int32.toNatClampNeg (v4 + (2 : Int32))))) &&& (4294967295 : Int64))) (mI M_8 0 (Int32.toNatClampNeg (v4 + (3 : Int32)))) _ _ hc_18) dL_law_642 rfl rfl ⟨zb_765, zb_766, zb_767, zb_768, zb_389⟩ zd_X10_feed ⟨by decide, by decide⟩ ⟨by show 102 + 2 * j + 1 + 0 ≤ 601024; omega, by show 514787 + 12 * j + 6 + 0 ≤ 7293034; omega⟩ (eq_of_beq c_19) (by decide) rfl rfl rfl (Nat.le_of_ble_eq_true rfl) rfl rfl ?_
  refine zr_istore (q := 647) (L' := [(6, .int r_16), (5, .int r_7), (0, .ref v0), (1, .ref v1), (2, .ref v2), (3, .ref v3), (4, .int v4)]) dL_law_645 rfl (by decide) rfl ?_
  refine zr_aload_n (q := 648) dL_law_647 rfl rfl 4 rfl ?_
  obtain ⟨c_23, h⟩ := chk_some h
  obtain ⟨r_20, M_21, hc_22, h⟩ := bnd2_some h
  refine zr_callVI (μ' := uX10_thrown) (q := 651) (n := 0) (ci := 10) (As := []) (u' := (102 + 2 * j + 1, 514787 + 12 * j + 6)) (tX10_thrown N M_17 v2 _ _ hc_22) dL_law_648 rfl rfl ⟨zb_686, zb_687, zb_688, zb_689, zb_389⟩ zd_X10_thrown ⟨by decide, by decide⟩ ⟨by show 102 + 2 * j + 1 + 0 ≤ 601024; omega, by show 514787 + 12 * j + 6 + 0 ≤ 7293034; omega⟩ (eq_of_beq c_23) (by decide) rfl rfl rfl (Nat.le_of_ble_eq_true rfl) rfl rfl ?_
  refine zr_iload (q := 653) dL_law_651 rfl 1 rfl ?_
  refine zr_icmp_eq (q := 656) (tgt := 658) dL_law_653 rfl (by decide) (fun c_24 => ?_) (fun c_24 => ?_)
  · replace h := ite_t c_24 h
    refine zr_iload (q := 660) dL_law_658 rfl 1 rfl ?_
    refine zr_if_ne (q := 663) (tgt := 675) dL_law_660 rfl (by decide) (fun c_25 => ?_) (fun c_25 => ?_)
    · replace h := ite_f c_25 h
      exact zr_pick [2, 3, 4, 5, 6] rfl (tL_law_675 N j hj k23 h23 M_21 v0 v1 v2 v3 v4 _ _ h)
    · replace h := ite_t c_25 h
      refine zr_aload_n (q := 664) dL_law_663 rfl rfl 5 rfl ?_
      refine zr_iconst (q := 665) (v := 0) dL_law_664 rfl (by decide) ?_
      obtain ⟨c_26, h⟩ := chk_some h
      obtain ⟨c_27, h⟩ := chk_some h
      refine zr_lald (q := 666) dL_law_665 rfl (eq_of_beq c_26) c_27 ?_
      refine zr_iload (q := 668) dL_law_666 rfl 0 rfl ?_
      refine zr_i2l (q := 669) dL_law_668 rfl ?_
      refine zr_lcmp (q := 670) dL_law_669 rfl ?_
      refine zr_if_eq (q := 673) (tgt := 675) dL_law_670 rfl (by decide) (fun c_28 => ?_) (fun c_28 => ?_)
      · replace h := ite_t c_28 h
        exact zr_pick [2, 3, 4, 5, 6] rfl (tL_law_675 N j hj k23 h23 M_21 v0 v1 v2 v3 v4 _ _ h)
      · replace h := ite_f c_28 h
        refine zr_iconst (q := 674) (v := 0) dL_law_673 rfl (by decide) ?_
        cases h
        exact zr_zreturn dL_law_674 rfl (Or.inl rfl) ⟨by show 102 + 2 * j + 1 ≤ 601024; omega, by show 514787 + 12 * j + 6 ≤ 7293034; omega⟩ ⟨rfl, rfl⟩
  · replace h := ite_f c_24 h
    refine zr_iconst (q := 657) (v := 0) dL_law_656 rfl (by decide) ?_
    cases h
    exact zr_zreturn dL_law_657 rfl (Or.inl rfl) ⟨by show 102 + 2 * j + 1 ≤ 601024; omega, by show 514787 + 12 * j + 6 ≤ 7293034; omega⟩ ⟨rfl, rfl⟩
def fL_law_575 (N : Nat) (k23 : zM → Nat → Nat → Nat → Nat → Int32 → Option (Int32 × zM)) (M : zM) (v0 : Nat) (v1 : Nat) (v2 : Nat) (v3 : Nat) (v4 : Int32) : Option (Int32 × zM) :=
  fL_law_1213 k23 M v0 v1 v2 v3 v4
set_option maxHeartbeats 4000000 in
set_option maxRecDepth 100000 in
theorem tL_law_575 (N : Nat) (j : Nat) (hj : j ≤ 512) (k23 : zM → Nat → Nat → Nat → Nat → Int32 → Option (Int32 × zM)) (h23 : ∀ (M : zM) (v0 v1 v2 v3 : Nat) (v4 : Int32) (r : Int32) (M' : zM), k23 M v0 v1 v2 v3 v4 = some (r, M') → zW uL_law none (102 + 2 * (j + 1), 514787 + 12 * (j + 1)) M 23 [(0, .ref v0), (1, .ref v1), (2, .ref v2), (3, .ref v3), (4, .int v4)] [] (zE (oI r) M')) (M : zM) (v0 : Nat) (v1 : Nat) (v2 : Nat) (v3 : Nat) (v4 : Int32) (r : Int32) (M' : zM) (h : fL_law_575 N k23 M v0 v1 v2 v3 v4 = some (r, M')) : zW uL_law none (102 + 2 * j + 2, 514787 + 12 * j + 12) M 575 [(0, .ref v0), (1, .ref v1), (2, .ref v2), (3, .ref v3), (4, .int v4)] [] (zE (oI r) M') := by
  unfold fL_law_575 at h
  refine zr_goto (q := 1213) dL_law_575 (by decide) ?_
  refine zr_widen (u' := (102 + 2 * (j + 1), 514787 + 12 * (j + 1))) (by show 102 + 2 * j + 2 ≤ 102 + 2 * (j + 1); omega) (by show 514787 + 12 * j + 12 ≤ 514787 + 12 * (j + 1); omega) ?_
  exact zr_pick [0, 1, 2, 3, 4] rfl (tL_law_1213 j k23 h23 M v0 v1 v2 v3 v4 _ _ h)
def fL_law_569 (N : Nat) (k23 : zM → Nat → Nat → Nat → Nat → Int32 → Option (Int32 × zM)) (M : zM) (v0 : Nat) (v1 : Nat) (v2 : Nat) (v3 : Nat) (v4 : Int32) (s0 : Int64) (s1 : Int64) : Option (Int32 × zM) :=
  if (lg_cmp s0 s1) = (0 : Int32) then
    fL_law_575 N k23 M v0 v1 v2 v3 v4
  else
  some ((0 : Int32), M)
set_option maxHeartbeats 4000000 in
set_option maxRecDepth 100000 in
theorem tL_law_569 (N : Nat) (j : Nat) (hj : j ≤ 512) (k23 : zM → Nat → Nat → Nat → Nat → Int32 → Option (Int32 × zM)) (h23 : ∀ (M : zM) (v0 v1 v2 v3 : Nat) (v4 : Int32) (r : Int32) (M' : zM), k23 M v0 v1 v2 v3 v4 = some (r, M') → zW uL_law none (102 + 2 * (j + 1), 514787 + 12 * (j + 1)) M 23 [(0, .ref v0), (1, .ref v1), (2, .ref v2), (3, .ref v3), (4, .int v4)] [] (zE (oI r) M')) (M : zM) (v0 : Nat) (v1 : Nat) (v2 : Nat) (v3 : Nat) (v4 : Int32) (s0 : Int64) (s1 : Int64) (r : Int32) (M' : zM) (h : fL_law_569 N k23 M v0 v1 v2 v3 v4 s0 s1 = some (r, M')) : zW uL_law none (102 + 2 * j + 2, 514787 + 12 * j + 12) M 569 [(0, .ref v0), (1, .ref v1), (2, .ref v2), (3, .ref v3), (4, .int v4)] [.long s1, .long s0] (zE (oI r) M') := by
  unfold fL_law_569 at h
  refine zr_lcmp (q := 570) dL_law_569 rfl ?_
  refine zr_if_eq (q := 573) (tgt := 575) dL_law_570 rfl (by decide) (fun c_1 => ?_) (fun c_1 => ?_)
  · replace h := ite_t c_1 h
    exact zr_pick [0, 1, 2, 3, 4] rfl (tL_law_575 N j hj k23 h23 M v0 v1 v2 v3 v4 _ _ h)
  · replace h := ite_f c_1 h
    refine zr_iconst (q := 574) (v := 0) dL_law_573 rfl (by decide) ?_
    cases h
    exact zr_zreturn dL_law_574 rfl (Or.inl rfl) ⟨by show 102 + 2 * j + 2 ≤ 601024; omega, by show 514787 + 12 * j + 12 ≤ 7293034; omega⟩ ⟨rfl, rfl⟩
def fL_law_503 (N : Nat) (k23 : zM → Nat → Nat → Nat → Nat → Int32 → Option (Int32 × zM)) (M : zM) (v0 : Nat) (v1 : Nat) (v2 : Nat) (v3 : Nat) (v4 : Int32) : Option (Int32 × zM) :=
  chk (v0 == 0) <|
  chk (zin (v4 + (1 : Int32)) (mN M 0)) <|
  chk (v0 == 0) <|
  chk (zin (v4 + (2 : Int32)) (mN M 0)) <|
  bnd2 (fL_has N M v1 (mI M 0 (Int32.toNatClampNeg (v4 + (1 : Int32)))) (mI M 0 (Int32.toNatClampNeg (v4 + (2 : Int32)))) v3) fun r_5 M_6 =>
  chk (v0 == 0) <|
  chk (zin (v4 + (1 : Int32)) (mN M_6 0)) <|
  chk (v0 == 0) <|
  chk (zin (v4 + (2 : Int32)) (mN M_6 0)) <|
  chk (mK M_6 v2 == 10) <|
  bnd2 (fX10_has N M_6 v2 (mI M_6 0 (Int32.toNatClampNeg (v4 + (1 : Int32)))) (mI M_6 0 (Int32.toNatClampNeg (v4 + (2 : Int32))))) fun r_12 M_13 =>
  chk (mK M_13 v2 == 10) <|
  bnd2 (fX10_thrown N M_13 v2) fun r_16 M_17 =>
  if r_16 = r_5 then
    if r_5 = (0 : Int32) then
      chk (mK M_17 v3 == 12) <|
      chk (zin (0 : Int32) (mN M_17 v3)) <|
      if r_12 = (0 : Int32) then
        fL_law_569 N k23 M_17 v0 v1 v2 v3 v4 (mL M_17 v3 (Int32.toNatClampNeg (0 : Int32))) (0 : Int64)
      else
      fL_law_569 N k23 M_17 v0 v1 v2 v3 v4 (mL M_17 v3 (Int32.toNatClampNeg (0 : Int32))) (1 : Int64)
    else
    fL_law_575 N k23 M_17 v0 v1 v2 v3 v4
  else
  some ((0 : Int32), M_17)
set_option maxHeartbeats 4000000 in
set_option maxRecDepth 100000 in
theorem tL_law_503 (N : Nat) (j : Nat) (hj : j ≤ 512) (k23 : zM → Nat → Nat → Nat → Nat → Int32 → Option (Int32 × zM)) (h23 : ∀ (M : zM) (v0 v1 v2 v3 : Nat) (v4 : Int32) (r : Int32) (M' : zM), k23 M v0 v1 v2 v3 v4 = some (r, M') → zW uL_law none (102 + 2 * (j + 1), 514787 + 12 * (j + 1)) M 23 [(0, .ref v0), (1, .ref v1), (2, .ref v2), (3, .ref v3), (4, .int v4)] [] (zE (oI r) M')) (M : zM) (v0 : Nat) (v1 : Nat) (v2 : Nat) (v3 : Nat) (v4 : Int32) (r : Int32) (M' : zM) (h : fL_law_503 N k23 M v0 v1 v2 v3 v4 = some (r, M')) : zW uL_law none (102 + 2 * j, 514787 + 12 * j) M 503 [(0, .ref v0), (1, .ref v1), (2, .ref v2), (3, .ref v3), (4, .int v4)] [] (zE (oI r) M') := by
  unfold fL_law_503 at h
  refine zr_aload_n (q := 504) dL_law_503 rfl rfl 1 rfl ?_
  refine zr_aload_n (q := 505) dL_law_504 rfl rfl 0 rfl ?_
  refine zr_iload (q := 507) dL_law_505 rfl 4 rfl ?_
  refine zr_iconst (q := 508) (v := 1) dL_law_507 rfl (by decide) ?_
  refine zr_iadd (q := 509) dL_law_508 rfl ?_
  obtain ⟨c_1, h⟩ := chk_some h
  obtain ⟨c_2, h⟩ := chk_some h
  refine zr_sld (q := 510) dL_law_509 rfl (eq_of_beq c_1) c_2 ?_
  refine zr_aload_n (q := 511) dL_law_510 rfl rfl 0 rfl ?_
  refine zr_iload (q := 513) dL_law_511 rfl 4 rfl ?_
  refine zr_iconst (q := 514) (v := 2) dL_law_513 rfl (by decide) ?_
  refine zr_iadd (q := 515) dL_law_514 rfl ?_
  obtain ⟨c_3, h⟩ := chk_some h
  obtain ⟨c_4, h⟩ := chk_some h
  refine zr_sld (q := 516) dL_law_515 rfl (eq_of_beq c_3) c_4 ?_
  refine zr_aload_n (q := 517) dL_law_516 rfl rfl 3 rfl ?_
  obtain ⟨r_5, M_6, hc_7, h⟩ := bnd2_some h
  refine zr_callSH (μ' := uL_has) (q := 520) (n := 4) (As := [.ref v1, .int (mI M 0 (Int32.toNatClampNeg (v4 + (1 : Int32)))), .int (mI M 0 (Int32.toNatClampNeg (v4 + (2 : Int32)))), .ref v3]) (u' := (102 + 2 * j + 2, 514787 + 12 * j + 12)) (tL_has N M v1 (mI M 0 (Int32.toNatClampNeg (v4 + (1 : Int32)))) (mI M 0 (Int32.toNatClampNeg (v4 + (2 : Int32)))) v3 _ _ hc_7) dL_law_517 rfl rfl ⟨zb_769, zb_770, zb_771, zb_681⟩ zd_L_has ⟨by decide, by decide⟩ ⟨by show 102 + 2 * j + 2 ≤ 601024; omega, by show 514787 + 12 * j + 12 ≤ 7293034; omega⟩ rfl rfl (Nat.le_of_ble_eq_true rfl) rfl ?_
  refine zr_istore (q := 522) (L' := [(5, .int r_5), (0, .ref v0), (1, .ref v1), (2, .ref v2), (3, .ref v3), (4, .int v4)]) dL_law_520 rfl (by decide) rfl ?_
  refine zr_aload_n (q := 523) dL_law_522 rfl rfl 3 rfl ?_
  refine zr_aload_n (q := 524) dL_law_523 rfl rfl 1 rfl ?_
  refine zr_iload (q := 526) dL_law_524 rfl 5 rfl ?_
  refine zr_iconst (q := 527) (v := 1) dL_law_526 rfl (by decide) ?_
  refine zr_iadd (q := 528) dL_law_527 rfl ?_
  obtain ⟨c_8, h⟩ := chk_some h
  obtain ⟨c_9, h⟩ := chk_some h
  refine zr_sld (q := 529) dL_law_528 rfl (eq_of_beq c_8) c_9 ?_
  refine zr_aload_n (q := 530) dL_law_529 rfl rfl 1 rfl ?_
  refine zr_iload (q := 532) dL_law_530 rfl 5 rfl ?_
  refine zr_iconst (q := 533) (v := 2) dL_law_532 rfl (by decide) ?_
  refine zr_iadd (q := 534) dL_law_533 rfl ?_
  obtain ⟨c_10, h⟩ := chk_some h
  obtain ⟨c_11, h⟩ := chk_some h
  refine zr_sld (q := 535) dL_law_534 rfl (eq_of_beq c_10) c_11 ?_
  obtain ⟨c_15, h⟩ := chk_some h
  obtain ⟨r_12, M_13, hc_14, h⟩ := bnd2_some h
  refine zr_callVI (μ' := uX10_has) (q := 538) (n := 2) (ci := 10) (As := [.int (mI M_6 0 (Int32.toNatClampNeg (v4 + (1 : Int32)))), .int (mI M_6 0 (Int32.toNatClampNeg (v4 + (2 : Int32))))]) (u' := (102 + 2 * j + 2, 514787 + 12 * j + 12)) (tX10_has N M_6 v2 (mI M_6 0 (Int32.toNatClampNeg (v4 + (1 : Int32)))) (mI M_6 0 (Int32.toNatClampNeg (v4 + (2 : Int32)))) _ _ hc_14) dL_law_535 rfl rfl ⟨zb_772, zb_773, zb_774, zb_775, zb_389⟩ zd_X10_has ⟨by decide, by decide⟩ ⟨by show 102 + 2 * j + 2 + 0 ≤ 601024; omega, by show 514787 + 12 * j + 12 + 0 ≤ 7293034; omega⟩ (eq_of_beq c_15) (by decide) rfl rfl rfl (Nat.le_of_ble_eq_true rfl) rfl rfl ?_
  refine zr_istore (q := 540) (L' := [(6, .int r_12), (5, .int r_5), (0, .ref v0), (1, .ref v1), (2, .ref v2), (3, .ref v3), (4, .int v4)]) dL_law_538 rfl (by decide) rfl ?_
  refine zr_aload_n (q := 541) dL_law_540 rfl rfl 4 rfl ?_
  obtain ⟨c_19, h⟩ := chk_some h
  obtain ⟨r_16, M_17, hc_18, h⟩ := bnd2_some h
  refine zr_callVI (μ' := uX10_thrown) (q := 544) (n := 0) (ci := 10) (As := []) (u' := (102 + 2 * j + 2, 514787 + 12 * j + 12)) (tX10_thrown N M_13 v2 _ _ hc_18) dL_law_541 rfl rfl ⟨zb_686, zb_687, zb_688, zb_689, zb_389⟩ zd_X10_thrown ⟨by decide, by decide⟩ ⟨by show 102 + 2 * j + 2 + 0 ≤ 601024; omega, by show 514787 + 12 * j + 12 + 0 ≤ 7293034; omega⟩ (eq_of_beq c_19) (by decide) rfl rfl rfl (Nat.le_of_ble_eq_true rfl) rfl rfl ?_
  refine zr_iload (q := 546) dL_law_544 rfl 1 rfl ?_
  refine zr_icmp_eq (q := 549) (tgt := 551) dL_law_546 rfl (by decide) (fun c_20 => ?_) (fun c_20 => ?_)
  · replace h := ite_t c_20 h
    refine zr_iload (q := 553) dL_law_551 rfl 1 rfl ?_
    refine zr_if_ne (q := 556) (tgt := 575) dL_law_553 rfl (by decide) (fun c_21 => ?_) (fun c_21 => ?_)
    · replace h := ite_f c_21 h
      exact zr_pick [2, 3, 4, 5, 6] rfl (tL_law_575 N j hj k23 h23 M_17 v0 v1 v2 v3 v4 _ _ h)
    · replace h := ite_t c_21 h
      refine zr_aload_n (q := 557) dL_law_556 rfl rfl 5 rfl ?_
      refine zr_iconst (q := 558) (v := 0) dL_law_557 rfl (by decide) ?_
      obtain ⟨c_22, h⟩ := chk_some h
      obtain ⟨c_23, h⟩ := chk_some h
      refine zr_lald (q := 559) dL_law_558 rfl (eq_of_beq c_22) c_23 ?_
      refine zr_iload (q := 561) dL_law_559 rfl 0 rfl ?_
      refine zr_if_eq (q := 564) (tgt := 568) dL_law_561 rfl (by decide) (fun c_24 => ?_) (fun c_24 => ?_)
      · replace h := ite_t c_24 h
        refine zr_lconst (q := 569) (v := 0) dL_law_568 rfl (by decide) ?_
        exact zr_pick [2, 3, 4, 5, 6] rfl (tL_law_569 N j hj k23 h23 M_17 v0 v1 v2 v3 v4 (mL M_17 v3 (Int32.toNatClampNeg (0 : Int32))) (0 : Int64) _ _ h)
      · replace h := ite_f c_24 h
        refine zr_lconst (q := 565) (v := 1) dL_law_564 rfl (by decide) ?_
        refine zr_goto (q := 569) dL_law_565 (by decide) ?_
        exact zr_pick [2, 3, 4, 5, 6] rfl (tL_law_569 N j hj k23 h23 M_17 v0 v1 v2 v3 v4 (mL M_17 v3 (Int32.toNatClampNeg (0 : Int32))) (1 : Int64) _ _ h)
  · replace h := ite_f c_20 h
    refine zr_iconst (q := 550) (v := 0) dL_law_549 rfl (by decide) ?_
    cases h
    exact zr_zreturn dL_law_550 rfl (Or.inl rfl) ⟨by show 102 + 2 * j + 2 ≤ 601024; omega, by show 514787 + 12 * j + 12 ≤ 7293034; omega⟩ ⟨rfl, rfl⟩
def fL_law_500 (N : Nat) (k23 : zM → Nat → Nat → Nat → Nat → Int32 → Option (Int32 × zM)) (M : zM) (v0 : Nat) (v1 : Nat) (v2 : Nat) (v3 : Nat) (v4 : Int32) : Option (Int32 × zM) :=
  fL_law_1213 k23 M v0 v1 v2 v3 v4
set_option maxHeartbeats 4000000 in
set_option maxRecDepth 100000 in
theorem tL_law_500 (N : Nat) (j : Nat) (hj : j ≤ 512) (k23 : zM → Nat → Nat → Nat → Nat → Int32 → Option (Int32 × zM)) (h23 : ∀ (M : zM) (v0 v1 v2 v3 : Nat) (v4 : Int32) (r : Int32) (M' : zM), k23 M v0 v1 v2 v3 v4 = some (r, M') → zW uL_law none (102 + 2 * (j + 1), 514787 + 12 * (j + 1)) M 23 [(0, .ref v0), (1, .ref v1), (2, .ref v2), (3, .ref v3), (4, .int v4)] [] (zE (oI r) M')) (M : zM) (v0 : Nat) (v1 : Nat) (v2 : Nat) (v3 : Nat) (v4 : Int32) (r : Int32) (M' : zM) (h : fL_law_500 N k23 M v0 v1 v2 v3 v4 = some (r, M')) : zW uL_law none (102 + 2 * j + 2, 514787 + 12 * j + 12) M 500 [(0, .ref v0), (1, .ref v1), (2, .ref v2), (3, .ref v3), (4, .int v4)] [] (zE (oI r) M') := by
  unfold fL_law_500 at h
  refine zr_goto (q := 1213) dL_law_500 (by decide) ?_
  refine zr_widen (u' := (102 + 2 * (j + 1), 514787 + 12 * (j + 1))) (by show 102 + 2 * j + 2 ≤ 102 + 2 * (j + 1); omega) (by show 514787 + 12 * j + 12 ≤ 514787 + 12 * (j + 1); omega) ?_
  exact zr_pick [0, 1, 2, 3, 4] rfl (tL_law_1213 j k23 h23 M v0 v1 v2 v3 v4 _ _ h)
def fL_law_494 (N : Nat) (k23 : zM → Nat → Nat → Nat → Nat → Int32 → Option (Int32 × zM)) (M : zM) (v0 : Nat) (v1 : Nat) (v2 : Nat) (v3 : Nat) (v4 : Int32) (s0 : Int64) (s1 : Int64) : Option (Int32 × zM) :=
  if (lg_cmp s0 s1) = (0 : Int32) then
    fL_law_500 N k23 M v0 v1 v2 v3 v4
  else
  some ((0 : Int32), M)
set_option maxHeartbeats 4000000 in
set_option maxRecDepth 100000 in
theorem tL_law_494 (N : Nat) (j : Nat) (hj : j ≤ 512) (k23 : zM → Nat → Nat → Nat → Nat → Int32 → Option (Int32 × zM)) (h23 : ∀ (M : zM) (v0 v1 v2 v3 : Nat) (v4 : Int32) (r : Int32) (M' : zM), k23 M v0 v1 v2 v3 v4 = some (r, M') → zW uL_law none (102 + 2 * (j + 1), 514787 + 12 * (j + 1)) M 23 [(0, .ref v0), (1, .ref v1), (2, .ref v2), (3, .ref v3), (4, .int v4)] [] (zE (oI r) M')) (M : zM) (v0 : Nat) (v1 : Nat) (v2 : Nat) (v3 : Nat) (v4 : Int32) (s0 : Int64) (s1 : Int64) (r : Int32) (M' : zM) (h : fL_law_494 N k23 M v0 v1 v2 v3 v4 s0 s1 = some (r, M')) : zW uL_law none (102 + 2 * j + 2, 514787 + 12 * j + 12) M 494 [(0, .ref v0), (1, .ref v1), (2, .ref v2), (3, .ref v3), (4, .int v4)] [.long s1, .long s0] (zE (oI r) M') := by
  unfold fL_law_494 at h
  refine zr_lcmp (q := 495) dL_law_494 rfl ?_
  refine zr_if_eq (q := 498) (tgt := 500) dL_law_495 rfl (by decide) (fun c_1 => ?_) (fun c_1 => ?_)
  · replace h := ite_t c_1 h
    exact zr_pick [0, 1, 2, 3, 4] rfl (tL_law_500 N j hj k23 h23 M v0 v1 v2 v3 v4 _ _ h)
  · replace h := ite_f c_1 h
    refine zr_iconst (q := 499) (v := 0) dL_law_498 rfl (by decide) ?_
    cases h
    exact zr_zreturn dL_law_499 rfl (Or.inl rfl) ⟨by show 102 + 2 * j + 2 ≤ 601024; omega, by show 514787 + 12 * j + 12 ≤ 7293034; omega⟩ ⟨rfl, rfl⟩
def fL_law_428 (N : Nat) (k23 : zM → Nat → Nat → Nat → Nat → Int32 → Option (Int32 × zM)) (M : zM) (v0 : Nat) (v1 : Nat) (v2 : Nat) (v3 : Nat) (v4 : Int32) : Option (Int32 × zM) :=
  chk (v0 == 0) <|
  chk (zin (v4 + (1 : Int32)) (mN M 0)) <|
  chk (v0 == 0) <|
  chk (zin (v4 + (2 : Int32)) (mN M 0)) <|
  bnd2 (fL_follows N M v1 (mI M 0 (Int32.toNatClampNeg (v4 + (1 : Int32)))) (mI M 0 (Int32.toNatClampNeg (v4 + (2 : Int32)))) v3) fun r_5 M_6 =>
  chk (v0 == 0) <|
  chk (zin (v4 + (1 : Int32)) (mN M_6 0)) <|
  chk (v0 == 0) <|
  chk (zin (v4 + (2 : Int32)) (mN M_6 0)) <|
  chk (mK M_6 v2 == 10) <|
  bnd2 (fX10_follows N M_6 v2 (mI M_6 0 (Int32.toNatClampNeg (v4 + (1 : Int32)))) (mI M_6 0 (Int32.toNatClampNeg (v4 + (2 : Int32))))) fun r_12 M_13 =>
  chk (mK M_13 v2 == 10) <|
  bnd2 (fX10_thrown N M_13 v2) fun r_16 M_17 =>
  if r_16 = r_5 then
    if r_5 = (0 : Int32) then
      chk (mK M_17 v3 == 12) <|
      chk (zin (0 : Int32) (mN M_17 v3)) <|
      if r_12 = (0 : Int32) then
        fL_law_494 N k23 M_17 v0 v1 v2 v3 v4 (mL M_17 v3 (Int32.toNatClampNeg (0 : Int32))) (0 : Int64)
      else
      fL_law_494 N k23 M_17 v0 v1 v2 v3 v4 (mL M_17 v3 (Int32.toNatClampNeg (0 : Int32))) (1 : Int64)
    else
    fL_law_500 N k23 M_17 v0 v1 v2 v3 v4
  else
  some ((0 : Int32), M_17)
set_option maxHeartbeats 4000000 in
set_option maxRecDepth 100000 in
theorem tL_law_428 (N : Nat) (j : Nat) (hj : j ≤ 512) (k23 : zM → Nat → Nat → Nat → Nat → Int32 → Option (Int32 × zM)) (h23 : ∀ (M : zM) (v0 v1 v2 v3 : Nat) (v4 : Int32) (r : Int32) (M' : zM), k23 M v0 v1 v2 v3 v4 = some (r, M') → zW uL_law none (102 + 2 * (j + 1), 514787 + 12 * (j + 1)) M 23 [(0, .ref v0), (1, .ref v1), (2, .ref v2), (3, .ref v3), (4, .int v4)] [] (zE (oI r) M')) (M : zM) (v0 : Nat) (v1 : Nat) (v2 : Nat) (v3 : Nat) (v4 : Int32) (r : Int32) (M' : zM) (h : fL_law_428 N k23 M v0 v1 v2 v3 v4 = some (r, M')) : zW uL_law none (102 + 2 * j, 514787 + 12 * j) M 428 [(0, .ref v0), (1, .ref v1), (2, .ref v2), (3, .ref v3), (4, .int v4)] [] (zE (oI r) M') := by
  unfold fL_law_428 at h
  refine zr_aload_n (q := 429) dL_law_428 rfl rfl 1 rfl ?_
  refine zr_aload_n (q := 430) dL_law_429 rfl rfl 0 rfl ?_
  refine zr_iload (q := 432) dL_law_430 rfl 4 rfl ?_
  refine zr_iconst (q := 433) (v := 1) dL_law_432 rfl (by decide) ?_
  refine zr_iadd (q := 434) dL_law_433 rfl ?_
  obtain ⟨c_1, h⟩ := chk_some h
  obtain ⟨c_2, h⟩ := chk_some h
  refine zr_sld (q := 435) dL_law_434 rfl (eq_of_beq c_1) c_2 ?_
  refine zr_aload_n (q := 436) dL_law_435 rfl rfl 0 rfl ?_
  refine zr_iload (q := 438) dL_law_436 rfl 4 rfl ?_
  refine zr_iconst (q := 439) (v := 2) dL_law_438 rfl (by decide) ?_
  refine zr_iadd (q := 440) dL_law_439 rfl ?_
  obtain ⟨c_3, h⟩ := chk_some h
  obtain ⟨c_4, h⟩ := chk_some h
  refine zr_sld (q := 441) dL_law_440 rfl (eq_of_beq c_3) c_4 ?_
  refine zr_aload_n (q := 442) dL_law_441 rfl rfl 3 rfl ?_
  obtain ⟨r_5, M_6, hc_7, h⟩ := bnd2_some h
  refine zr_callSH (μ' := uL_follows) (q := 445) (n := 4) (As := [.ref v1, .int (mI M 0 (Int32.toNatClampNeg (v4 + (1 : Int32)))), .int (mI M 0 (Int32.toNatClampNeg (v4 + (2 : Int32)))), .ref v3]) (u' := (102 + 2 * j + 2, 514787 + 12 * j + 12)) (tL_follows N M v1 (mI M 0 (Int32.toNatClampNeg (v4 + (1 : Int32)))) (mI M 0 (Int32.toNatClampNeg (v4 + (2 : Int32)))) v3 _ _ hc_7) dL_law_442 rfl rfl ⟨zb_776, zb_777, zb_778, zb_681⟩ zd_L_follows ⟨by decide, by decide⟩ ⟨by show 102 + 2 * j + 2 ≤ 601024; omega, by show 514787 + 12 * j + 12 ≤ 7293034; omega⟩ rfl rfl (Nat.le_of_ble_eq_true rfl) rfl ?_
  refine zr_istore (q := 447) (L' := [(5, .int r_5), (0, .ref v0), (1, .ref v1), (2, .ref v2), (3, .ref v3), (4, .int v4)]) dL_law_445 rfl (by decide) rfl ?_
  refine zr_aload_n (q := 448) dL_law_447 rfl rfl 3 rfl ?_
  refine zr_aload_n (q := 449) dL_law_448 rfl rfl 1 rfl ?_
  refine zr_iload (q := 451) dL_law_449 rfl 5 rfl ?_
  refine zr_iconst (q := 452) (v := 1) dL_law_451 rfl (by decide) ?_
  refine zr_iadd (q := 453) dL_law_452 rfl ?_
  obtain ⟨c_8, h⟩ := chk_some h
  obtain ⟨c_9, h⟩ := chk_some h
  refine zr_sld (q := 454) dL_law_453 rfl (eq_of_beq c_8) c_9 ?_
  refine zr_aload_n (q := 455) dL_law_454 rfl rfl 1 rfl ?_
  refine zr_iload (q := 457) dL_law_455 rfl 5 rfl ?_
  refine zr_iconst (q := 458) (v := 2) dL_law_457 rfl (by decide) ?_
  refine zr_iadd (q := 459) dL_law_458 rfl ?_
  obtain ⟨c_10, h⟩ := chk_some h
  obtain ⟨c_11, h⟩ := chk_some h
  refine zr_sld (q := 460) dL_law_459 rfl (eq_of_beq c_10) c_11 ?_
  obtain ⟨c_15, h⟩ := chk_some h
  obtain ⟨r_12, M_13, hc_14, h⟩ := bnd2_some h
  refine zr_callVI (μ' := uX10_follows) (q := 463) (n := 2) (ci := 10) (As := [.int (mI M_6 0 (Int32.toNatClampNeg (v4 + (1 : Int32)))), .int (mI M_6 0 (Int32.toNatClampNeg (v4 + (2 : Int32))))]) (u' := (102 + 2 * j + 2, 514787 + 12 * j + 12)) (tX10_follows N M_6 v2 (mI M_6 0 (Int32.toNatClampNeg (v4 + (1 : Int32)))) (mI M_6 0 (Int32.toNatClampNeg (v4 + (2 : Int32)))) _ _ hc_14) dL_law_460 rfl rfl ⟨zb_779, zb_780, zb_781, zb_782, zb_389⟩ zd_X10_follows ⟨by decide, by decide⟩ ⟨by show 102 + 2 * j + 2 + 0 ≤ 601024; omega, by show 514787 + 12 * j + 12 + 0 ≤ 7293034; omega⟩ (eq_of_beq c_15) (by decide) rfl rfl rfl (Nat.le_of_ble_eq_true rfl) rfl rfl ?_
  refine zr_istore (q := 465) (L' := [(6, .int r_12), (5, .int r_5), (0, .ref v0), (1, .ref v1), (2, .ref v2), (3, .ref v3), (4, .int v4)]) dL_law_463 rfl (by decide) rfl ?_
  refine zr_aload_n (q := 466) dL_law_465 rfl rfl 4 rfl ?_
  obtain ⟨c_19, h⟩ := chk_some h
  obtain ⟨r_16, M_17, hc_18, h⟩ := bnd2_some h
  refine zr_callVI (μ' := uX10_thrown) (q := 469) (n := 0) (ci := 10) (As := []) (u' := (102 + 2 * j + 2, 514787 + 12 * j + 12)) (tX10_thrown N M_13 v2 _ _ hc_18) dL_law_466 rfl rfl ⟨zb_686, zb_687, zb_688, zb_689, zb_389⟩ zd_X10_thrown ⟨by decide, by decide⟩ ⟨by show 102 + 2 * j + 2 + 0 ≤ 601024; omega, by show 514787 + 12 * j + 12 + 0 ≤ 7293034; omega⟩ (eq_of_beq c_19) (by decide) rfl rfl rfl (Nat.le_of_ble_eq_true rfl) rfl rfl ?_
  refine zr_iload (q := 471) dL_law_469 rfl 1 rfl ?_
  refine zr_icmp_eq (q := 474) (tgt := 476) dL_law_471 rfl (by decide) (fun c_20 => ?_) (fun c_20 => ?_)
  · replace h := ite_t c_20 h
    refine zr_iload (q := 478) dL_law_476 rfl 1 rfl ?_
    refine zr_if_ne (q := 481) (tgt := 500) dL_law_478 rfl (by decide) (fun c_21 => ?_) (fun c_21 => ?_)
    · replace h := ite_f c_21 h
      exact zr_pick [2, 3, 4, 5, 6] rfl (tL_law_500 N j hj k23 h23 M_17 v0 v1 v2 v3 v4 _ _ h)
    · replace h := ite_t c_21 h
      refine zr_aload_n (q := 482) dL_law_481 rfl rfl 5 rfl ?_
      refine zr_iconst (q := 483) (v := 0) dL_law_482 rfl (by decide) ?_
      obtain ⟨c_22, h⟩ := chk_some h
      obtain ⟨c_23, h⟩ := chk_some h
      refine zr_lald (q := 484) dL_law_483 rfl (eq_of_beq c_22) c_23 ?_
      refine zr_iload (q := 486) dL_law_484 rfl 0 rfl ?_
      refine zr_if_eq (q := 489) (tgt := 493) dL_law_486 rfl (by decide) (fun c_24 => ?_) (fun c_24 => ?_)
      · replace h := ite_t c_24 h
        refine zr_lconst (q := 494) (v := 0) dL_law_493 rfl (by decide) ?_
        exact zr_pick [2, 3, 4, 5, 6] rfl (tL_law_494 N j hj k23 h23 M_17 v0 v1 v2 v3 v4 (mL M_17 v3 (Int32.toNatClampNeg (0 : Int32))) (0 : Int64) _ _ h)
      · replace h := ite_f c_24 h
        refine zr_lconst (q := 490) (v := 1) dL_law_489 rfl (by decide) ?_
        refine zr_goto (q := 494) dL_law_490 (by decide) ?_
        exact zr_pick [2, 3, 4, 5, 6] rfl (tL_law_494 N j hj k23 h23 M_17 v0 v1 v2 v3 v4 (mL M_17 v3 (Int32.toNatClampNeg (0 : Int32))) (1 : Int64) _ _ h)
  · replace h := ite_f c_20 h
    refine zr_iconst (q := 475) (v := 0) dL_law_474 rfl (by decide) ?_
    cases h
    exact zr_zreturn dL_law_475 rfl (Or.inl rfl) ⟨by show 102 + 2 * j + 2 ≤ 601024; omega, by show 514787 + 12 * j + 12 ≤ 7293034; omega⟩ ⟨rfl, rfl⟩
def fL_law_425 (N : Nat) (k23 : zM → Nat → Nat → Nat → Nat → Int32 → Option (Int32 × zM)) (M : zM) (v0 : Nat) (v1 : Nat) (v2 : Nat) (v3 : Nat) (v4 : Int32) : Option (Int32 × zM) :=
  fL_law_1213 k23 M v0 v1 v2 v3 v4
set_option maxHeartbeats 4000000 in
set_option maxRecDepth 100000 in
theorem tL_law_425 (N : Nat) (j : Nat) (hj : j ≤ 512) (k23 : zM → Nat → Nat → Nat → Nat → Int32 → Option (Int32 × zM)) (h23 : ∀ (M : zM) (v0 v1 v2 v3 : Nat) (v4 : Int32) (r : Int32) (M' : zM), k23 M v0 v1 v2 v3 v4 = some (r, M') → zW uL_law none (102 + 2 * (j + 1), 514787 + 12 * (j + 1)) M 23 [(0, .ref v0), (1, .ref v1), (2, .ref v2), (3, .ref v3), (4, .int v4)] [] (zE (oI r) M')) (M : zM) (v0 : Nat) (v1 : Nat) (v2 : Nat) (v3 : Nat) (v4 : Int32) (r : Int32) (M' : zM) (h : fL_law_425 N k23 M v0 v1 v2 v3 v4 = some (r, M')) : zW uL_law none (102 + 2 * j + 2, 514787 + 12 * j + 12) M 425 [(0, .ref v0), (1, .ref v1), (2, .ref v2), (3, .ref v3), (4, .int v4)] [] (zE (oI r) M') := by
  unfold fL_law_425 at h
  refine zr_goto (q := 1213) dL_law_425 (by decide) ?_
  refine zr_widen (u' := (102 + 2 * (j + 1), 514787 + 12 * (j + 1))) (by show 102 + 2 * j + 2 ≤ 102 + 2 * (j + 1); omega) (by show 514787 + 12 * j + 12 ≤ 514787 + 12 * (j + 1); omega) ?_
  exact zr_pick [0, 1, 2, 3, 4] rfl (tL_law_1213 j k23 h23 M v0 v1 v2 v3 v4 _ _ h)
def fL_law_419 (N : Nat) (k23 : zM → Nat → Nat → Nat → Nat → Int32 → Option (Int32 × zM)) (M : zM) (v0 : Nat) (v1 : Nat) (v2 : Nat) (v3 : Nat) (v4 : Int32) (s0 : Int64) (s1 : Int64) : Option (Int32 × zM) :=
  if (lg_cmp s0 s1) = (0 : Int32) then
    fL_law_425 N k23 M v0 v1 v2 v3 v4
  else
  some ((0 : Int32), M)
set_option maxHeartbeats 4000000 in
set_option maxRecDepth 100000 in
theorem tL_law_419 (N : Nat) (j : Nat) (hj : j ≤ 512) (k23 : zM → Nat → Nat → Nat → Nat → Int32 → Option (Int32 × zM)) (h23 : ∀ (M : zM) (v0 v1 v2 v3 : Nat) (v4 : Int32) (r : Int32) (M' : zM), k23 M v0 v1 v2 v3 v4 = some (r, M') → zW uL_law none (102 + 2 * (j + 1), 514787 + 12 * (j + 1)) M 23 [(0, .ref v0), (1, .ref v1), (2, .ref v2), (3, .ref v3), (4, .int v4)] [] (zE (oI r) M')) (M : zM) (v0 : Nat) (v1 : Nat) (v2 : Nat) (v3 : Nat) (v4 : Int32) (s0 : Int64) (s1 : Int64) (r : Int32) (M' : zM) (h : fL_law_419 N k23 M v0 v1 v2 v3 v4 s0 s1 = some (r, M')) : zW uL_law none (102 + 2 * j + 2, 514787 + 12 * j + 12) M 419 [(0, .ref v0), (1, .ref v1), (2, .ref v2), (3, .ref v3), (4, .int v4)] [.long s1, .long s0] (zE (oI r) M') := by
  unfold fL_law_419 at h
  refine zr_lcmp (q := 420) dL_law_419 rfl ?_
  refine zr_if_eq (q := 423) (tgt := 425) dL_law_420 rfl (by decide) (fun c_1 => ?_) (fun c_1 => ?_)
  · replace h := ite_t c_1 h
    exact zr_pick [0, 1, 2, 3, 4] rfl (tL_law_425 N j hj k23 h23 M v0 v1 v2 v3 v4 _ _ h)
  · replace h := ite_f c_1 h
    refine zr_iconst (q := 424) (v := 0) dL_law_423 rfl (by decide) ?_
    cases h
    exact zr_zreturn dL_law_424 rfl (Or.inl rfl) ⟨by show 102 + 2 * j + 2 ≤ 601024; omega, by show 514787 + 12 * j + 12 ≤ 7293034; omega⟩ ⟨rfl, rfl⟩
def fL_law_353 (N : Nat) (k23 : zM → Nat → Nat → Nat → Nat → Int32 → Option (Int32 × zM)) (M : zM) (v0 : Nat) (v1 : Nat) (v2 : Nat) (v3 : Nat) (v4 : Int32) : Option (Int32 × zM) :=
  chk (v0 == 0) <|
  chk (zin (v4 + (1 : Int32)) (mN M 0)) <|
  chk (v0 == 0) <|
  chk (zin (v4 + (2 : Int32)) (mN M 0)) <|
  bnd2 (fL_is N M v1 (mI M 0 (Int32.toNatClampNeg (v4 + (1 : Int32)))) (mI M 0 (Int32.toNatClampNeg (v4 + (2 : Int32)))) v3) fun r_5 M_6 =>
  chk (v0 == 0) <|
  chk (zin (v4 + (1 : Int32)) (mN M_6 0)) <|
  chk (v0 == 0) <|
  chk (zin (v4 + (2 : Int32)) (mN M_6 0)) <|
  chk (mK M_6 v2 == 10) <|
  bnd2 (fX10_is N M_6 v2 (mI M_6 0 (Int32.toNatClampNeg (v4 + (1 : Int32)))) (mI M_6 0 (Int32.toNatClampNeg (v4 + (2 : Int32))))) fun r_12 M_13 =>
  chk (mK M_13 v2 == 10) <|
  bnd2 (fX10_thrown N M_13 v2) fun r_16 M_17 =>
  if r_16 = r_5 then
    if r_5 = (0 : Int32) then
      chk (mK M_17 v3 == 12) <|
      chk (zin (0 : Int32) (mN M_17 v3)) <|
      if r_12 = (0 : Int32) then
        fL_law_419 N k23 M_17 v0 v1 v2 v3 v4 (mL M_17 v3 (Int32.toNatClampNeg (0 : Int32))) (0 : Int64)
      else
      fL_law_419 N k23 M_17 v0 v1 v2 v3 v4 (mL M_17 v3 (Int32.toNatClampNeg (0 : Int32))) (1 : Int64)
    else
    fL_law_425 N k23 M_17 v0 v1 v2 v3 v4
  else
  some ((0 : Int32), M_17)
set_option maxHeartbeats 4000000 in
set_option maxRecDepth 100000 in
theorem tL_law_353 (N : Nat) (j : Nat) (hj : j ≤ 512) (k23 : zM → Nat → Nat → Nat → Nat → Int32 → Option (Int32 × zM)) (h23 : ∀ (M : zM) (v0 v1 v2 v3 : Nat) (v4 : Int32) (r : Int32) (M' : zM), k23 M v0 v1 v2 v3 v4 = some (r, M') → zW uL_law none (102 + 2 * (j + 1), 514787 + 12 * (j + 1)) M 23 [(0, .ref v0), (1, .ref v1), (2, .ref v2), (3, .ref v3), (4, .int v4)] [] (zE (oI r) M')) (M : zM) (v0 : Nat) (v1 : Nat) (v2 : Nat) (v3 : Nat) (v4 : Int32) (r : Int32) (M' : zM) (h : fL_law_353 N k23 M v0 v1 v2 v3 v4 = some (r, M')) : zW uL_law none (102 + 2 * j, 514787 + 12 * j) M 353 [(0, .ref v0), (1, .ref v1), (2, .ref v2), (3, .ref v3), (4, .int v4)] [] (zE (oI r) M') := by
  unfold fL_law_353 at h
  refine zr_aload_n (q := 354) dL_law_353 rfl rfl 1 rfl ?_
  refine zr_aload_n (q := 355) dL_law_354 rfl rfl 0 rfl ?_
  refine zr_iload (q := 357) dL_law_355 rfl 4 rfl ?_
  refine zr_iconst (q := 358) (v := 1) dL_law_357 rfl (by decide) ?_
  refine zr_iadd (q := 359) dL_law_358 rfl ?_
  obtain ⟨c_1, h⟩ := chk_some h
  obtain ⟨c_2, h⟩ := chk_some h
  refine zr_sld (q := 360) dL_law_359 rfl (eq_of_beq c_1) c_2 ?_
  refine zr_aload_n (q := 361) dL_law_360 rfl rfl 0 rfl ?_
  refine zr_iload (q := 363) dL_law_361 rfl 4 rfl ?_
  refine zr_iconst (q := 364) (v := 2) dL_law_363 rfl (by decide) ?_
  refine zr_iadd (q := 365) dL_law_364 rfl ?_
  obtain ⟨c_3, h⟩ := chk_some h
  obtain ⟨c_4, h⟩ := chk_some h
  refine zr_sld (q := 366) dL_law_365 rfl (eq_of_beq c_3) c_4 ?_
  refine zr_aload_n (q := 367) dL_law_366 rfl rfl 3 rfl ?_
  obtain ⟨r_5, M_6, hc_7, h⟩ := bnd2_some h
  refine zr_callSH (μ' := uL_is) (q := 370) (n := 4) (As := [.ref v1, .int (mI M 0 (Int32.toNatClampNeg (v4 + (1 : Int32)))), .int (mI M 0 (Int32.toNatClampNeg (v4 + (2 : Int32)))), .ref v3]) (u' := (102 + 2 * j + 2, 514787 + 12 * j + 12)) (tL_is N M v1 (mI M 0 (Int32.toNatClampNeg (v4 + (1 : Int32)))) (mI M 0 (Int32.toNatClampNeg (v4 + (2 : Int32)))) v3 _ _ hc_7) dL_law_367 rfl rfl ⟨zb_783, zb_784, zb_785, zb_681⟩ zd_L_is ⟨by decide, by decide⟩ ⟨by show 102 + 2 * j + 2 ≤ 601024; omega, by show 514787 + 12 * j + 12 ≤ 7293034; omega⟩ rfl rfl (Nat.le_of_ble_eq_true rfl) rfl ?_
  refine zr_istore (q := 372) (L' := [(5, .int r_5), (0, .ref v0), (1, .ref v1), (2, .ref v2), (3, .ref v3), (4, .int v4)]) dL_law_370 rfl (by decide) rfl ?_
  refine zr_aload_n (q := 373) dL_law_372 rfl rfl 3 rfl ?_
  refine zr_aload_n (q := 374) dL_law_373 rfl rfl 1 rfl ?_
  refine zr_iload (q := 376) dL_law_374 rfl 5 rfl ?_
  refine zr_iconst (q := 377) (v := 1) dL_law_376 rfl (by decide) ?_
  refine zr_iadd (q := 378) dL_law_377 rfl ?_
  obtain ⟨c_8, h⟩ := chk_some h
  obtain ⟨c_9, h⟩ := chk_some h
  refine zr_sld (q := 379) dL_law_378 rfl (eq_of_beq c_8) c_9 ?_
  refine zr_aload_n (q := 380) dL_law_379 rfl rfl 1 rfl ?_
  refine zr_iload (q := 382) dL_law_380 rfl 5 rfl ?_
  refine zr_iconst (q := 383) (v := 2) dL_law_382 rfl (by decide) ?_
  refine zr_iadd (q := 384) dL_law_383 rfl ?_
  obtain ⟨c_10, h⟩ := chk_some h
  obtain ⟨c_11, h⟩ := chk_some h
  refine zr_sld (q := 385) dL_law_384 rfl (eq_of_beq c_10) c_11 ?_
  obtain ⟨c_15, h⟩ := chk_some h
  obtain ⟨r_12, M_13, hc_14, h⟩ := bnd2_some h
  refine zr_callVI (μ' := uX10_is) (q := 388) (n := 2) (ci := 10) (As := [.int (mI M_6 0 (Int32.toNatClampNeg (v4 + (1 : Int32)))), .int (mI M_6 0 (Int32.toNatClampNeg (v4 + (2 : Int32))))]) (u' := (102 + 2 * j + 2, 514787 + 12 * j + 12)) (tX10_is N M_6 v2 (mI M_6 0 (Int32.toNatClampNeg (v4 + (1 : Int32)))) (mI M_6 0 (Int32.toNatClampNeg (v4 + (2 : Int32)))) _ _ hc_14) dL_law_385 rfl rfl ⟨zb_786, zb_787, zb_788, zb_789, zb_389⟩ zd_X10_is ⟨by decide, by decide⟩ ⟨by show 102 + 2 * j + 2 + 0 ≤ 601024; omega, by show 514787 + 12 * j + 12 + 0 ≤ 7293034; omega⟩ (eq_of_beq c_15) (by decide) rfl rfl rfl (Nat.le_of_ble_eq_true rfl) rfl rfl ?_
  refine zr_istore (q := 390) (L' := [(6, .int r_12), (5, .int r_5), (0, .ref v0), (1, .ref v1), (2, .ref v2), (3, .ref v3), (4, .int v4)]) dL_law_388 rfl (by decide) rfl ?_
  refine zr_aload_n (q := 391) dL_law_390 rfl rfl 4 rfl ?_
  obtain ⟨c_19, h⟩ := chk_some h
  obtain ⟨r_16, M_17, hc_18, h⟩ := bnd2_some h
  refine zr_callVI (μ' := uX10_thrown) (q := 394) (n := 0) (ci := 10) (As := []) (u' := (102 + 2 * j + 2, 514787 + 12 * j + 12)) (tX10_thrown N M_13 v2 _ _ hc_18) dL_law_391 rfl rfl ⟨zb_686, zb_687, zb_688, zb_689, zb_389⟩ zd_X10_thrown ⟨by decide, by decide⟩ ⟨by show 102 + 2 * j + 2 + 0 ≤ 601024; omega, by show 514787 + 12 * j + 12 + 0 ≤ 7293034; omega⟩ (eq_of_beq c_19) (by decide) rfl rfl rfl (Nat.le_of_ble_eq_true rfl) rfl rfl ?_
  refine zr_iload (q := 396) dL_law_394 rfl 1 rfl ?_
  refine zr_icmp_eq (q := 399) (tgt := 401) dL_law_396 rfl (by decide) (fun c_20 => ?_) (fun c_20 => ?_)
  · replace h := ite_t c_20 h
    refine zr_iload (q := 403) dL_law_401 rfl 1 rfl ?_
    refine zr_if_ne (q := 406) (tgt := 425) dL_law_403 rfl (by decide) (fun c_21 => ?_) (fun c_21 => ?_)
    · replace h := ite_f c_21 h
      exact zr_pick [2, 3, 4, 5, 6] rfl (tL_law_425 N j hj k23 h23 M_17 v0 v1 v2 v3 v4 _ _ h)
    · replace h := ite_t c_21 h
      refine zr_aload_n (q := 407) dL_law_406 rfl rfl 5 rfl ?_
      refine zr_iconst (q := 408) (v := 0) dL_law_407 rfl (by decide) ?_
      obtain ⟨c_22, h⟩ := chk_some h
      obtain ⟨c_23, h⟩ := chk_some h
      refine zr_lald (q := 409) dL_law_408 rfl (eq_of_beq c_22) c_23 ?_
      refine zr_iload (q := 411) dL_law_409 rfl 0 rfl ?_
      refine zr_if_eq (q := 414) (tgt := 418) dL_law_411 rfl (by decide) (fun c_24 => ?_) (fun c_24 => ?_)
      · replace h := ite_t c_24 h
        refine zr_lconst (q := 419) (v := 0) dL_law_418 rfl (by decide) ?_
        exact zr_pick [2, 3, 4, 5, 6] rfl (tL_law_419 N j hj k23 h23 M_17 v0 v1 v2 v3 v4 (mL M_17 v3 (Int32.toNatClampNeg (0 : Int32))) (0 : Int64) _ _ h)
      · replace h := ite_f c_24 h
        refine zr_lconst (q := 415) (v := 1) dL_law_414 rfl (by decide) ?_
        refine zr_goto (q := 419) dL_law_415 (by decide) ?_
        exact zr_pick [2, 3, 4, 5, 6] rfl (tL_law_419 N j hj k23 h23 M_17 v0 v1 v2 v3 v4 (mL M_17 v3 (Int32.toNatClampNeg (0 : Int32))) (1 : Int64) _ _ h)
  · replace h := ite_f c_20 h
    refine zr_iconst (q := 400) (v := 0) dL_law_399 rfl (by decide) ?_
    cases h
    exact zr_zreturn dL_law_400 rfl (Or.inl rfl) ⟨by show 102 + 2 * j + 2 ≤ 601024; omega, by show 514787 + 12 * j + 12 ≤ 7293034; omega⟩ ⟨rfl, rfl⟩
def fL_law_350 (N : Nat) (k23 : zM → Nat → Nat → Nat → Nat → Int32 → Option (Int32 × zM)) (M : zM) (v0 : Nat) (v1 : Nat) (v2 : Nat) (v3 : Nat) (v4 : Int32) : Option (Int32 × zM) :=
  fL_law_1213 k23 M v0 v1 v2 v3 v4
set_option maxHeartbeats 4000000 in
set_option maxRecDepth 100000 in
theorem tL_law_350 (N : Nat) (j : Nat) (hj : j ≤ 512) (k23 : zM → Nat → Nat → Nat → Nat → Int32 → Option (Int32 × zM)) (h23 : ∀ (M : zM) (v0 v1 v2 v3 : Nat) (v4 : Int32) (r : Int32) (M' : zM), k23 M v0 v1 v2 v3 v4 = some (r, M') → zW uL_law none (102 + 2 * (j + 1), 514787 + 12 * (j + 1)) M 23 [(0, .ref v0), (1, .ref v1), (2, .ref v2), (3, .ref v3), (4, .int v4)] [] (zE (oI r) M')) (M : zM) (v0 : Nat) (v1 : Nat) (v2 : Nat) (v3 : Nat) (v4 : Int32) (r : Int32) (M' : zM) (h : fL_law_350 N k23 M v0 v1 v2 v3 v4 = some (r, M')) : zW uL_law none (102 + 2 * j + 1, 514787 + 12 * j + 6) M 350 [(0, .ref v0), (1, .ref v1), (2, .ref v2), (3, .ref v3), (4, .int v4)] [] (zE (oI r) M') := by
  unfold fL_law_350 at h
  refine zr_goto (q := 1213) dL_law_350 (by decide) ?_
  refine zr_widen (u' := (102 + 2 * (j + 1), 514787 + 12 * (j + 1))) (by show 102 + 2 * j + 1 ≤ 102 + 2 * (j + 1); omega) (by show 514787 + 12 * j + 6 ≤ 514787 + 12 * (j + 1); omega) ?_
  exact zr_pick [0, 1, 2, 3, 4] rfl (tL_law_1213 j k23 h23 M v0 v1 v2 v3 v4 _ _ h)
def fL_law_344 (N : Nat) (k23 : zM → Nat → Nat → Nat → Nat → Int32 → Option (Int32 × zM)) (M : zM) (v0 : Nat) (v1 : Nat) (v2 : Nat) (v3 : Nat) (v4 : Int32) (s0 : Int64) (s1 : Int64) : Option (Int32 × zM) :=
  if (lg_cmp s0 s1) = (0 : Int32) then
    fL_law_350 N k23 M v0 v1 v2 v3 v4
  else
  some ((0 : Int32), M)
set_option maxHeartbeats 4000000 in
set_option maxRecDepth 100000 in
theorem tL_law_344 (N : Nat) (j : Nat) (hj : j ≤ 512) (k23 : zM → Nat → Nat → Nat → Nat → Int32 → Option (Int32 × zM)) (h23 : ∀ (M : zM) (v0 v1 v2 v3 : Nat) (v4 : Int32) (r : Int32) (M' : zM), k23 M v0 v1 v2 v3 v4 = some (r, M') → zW uL_law none (102 + 2 * (j + 1), 514787 + 12 * (j + 1)) M 23 [(0, .ref v0), (1, .ref v1), (2, .ref v2), (3, .ref v3), (4, .int v4)] [] (zE (oI r) M')) (M : zM) (v0 : Nat) (v1 : Nat) (v2 : Nat) (v3 : Nat) (v4 : Int32) (s0 : Int64) (s1 : Int64) (r : Int32) (M' : zM) (h : fL_law_344 N k23 M v0 v1 v2 v3 v4 s0 s1 = some (r, M')) : zW uL_law none (102 + 2 * j + 1, 514787 + 12 * j + 6) M 344 [(0, .ref v0), (1, .ref v1), (2, .ref v2), (3, .ref v3), (4, .int v4)] [.long s1, .long s0] (zE (oI r) M') := by
  unfold fL_law_344 at h
  refine zr_lcmp (q := 345) dL_law_344 rfl ?_
  refine zr_if_eq (q := 348) (tgt := 350) dL_law_345 rfl (by decide) (fun c_1 => ?_) (fun c_1 => ?_)
  · replace h := ite_t c_1 h
    exact zr_pick [0, 1, 2, 3, 4] rfl (tL_law_350 N j hj k23 h23 M v0 v1 v2 v3 v4 _ _ h)
  · replace h := ite_f c_1 h
    refine zr_iconst (q := 349) (v := 0) dL_law_348 rfl (by decide) ?_
    cases h
    exact zr_zreturn dL_law_349 rfl (Or.inl rfl) ⟨by show 102 + 2 * j + 1 ≤ 601024; omega, by show 514787 + 12 * j + 6 ≤ 7293034; omega⟩ ⟨rfl, rfl⟩
def fL_law_302 (N : Nat) (k23 : zM → Nat → Nat → Nat → Nat → Int32 → Option (Int32 × zM)) (M : zM) (v0 : Nat) (v1 : Nat) (v2 : Nat) (v3 : Nat) (v4 : Int32) : Option (Int32 × zM) :=
  bnd2 (fL_empty N M v1 v3) fun r_1 M_2 =>
  chk (mK M_2 v2 == 10) <|
  bnd2 (fX10_empty N M_2 v2) fun r_4 M_5 =>
  chk (mK M_5 v2 == 10) <|
  bnd2 (fX10_thrown N M_5 v2) fun r_8 M_9 =>
  if r_8 = r_1 then
    if r_1 = (0 : Int32) then
      chk (mK M_9 v3 == 12) <|
      chk (zin (0 : Int32) (mN M_9 v3)) <|
      if r_4 = (0 : Int32) then
        fL_law_344 N k23 M_9 v0 v1 v2 v3 v4 (mL M_9 v3 (Int32.toNatClampNeg (0 : Int32))) (0 : Int64)
      else
      fL_law_344 N k23 M_9 v0 v1 v2 v3 v4 (mL M_9 v3 (Int32.toNatClampNeg (0 : Int32))) (1 : Int64)
    else
    fL_law_350 N k23 M_9 v0 v1 v2 v3 v4
  else
  some ((0 : Int32), M_9)
set_option maxHeartbeats 4000000 in
set_option maxRecDepth 100000 in
theorem tL_law_302 (N : Nat) (j : Nat) (hj : j ≤ 512) (k23 : zM → Nat → Nat → Nat → Nat → Int32 → Option (Int32 × zM)) (h23 : ∀ (M : zM) (v0 v1 v2 v3 : Nat) (v4 : Int32) (r : Int32) (M' : zM), k23 M v0 v1 v2 v3 v4 = some (r, M') → zW uL_law none (102 + 2 * (j + 1), 514787 + 12 * (j + 1)) M 23 [(0, .ref v0), (1, .ref v1), (2, .ref v2), (3, .ref v3), (4, .int v4)] [] (zE (oI r) M')) (M : zM) (v0 : Nat) (v1 : Nat) (v2 : Nat) (v3 : Nat) (v4 : Int32) (r : Int32) (M' : zM) (h : fL_law_302 N k23 M v0 v1 v2 v3 v4 = some (r, M')) : zW uL_law none (102 + 2 * j, 514787 + 12 * j) M 302 [(0, .ref v0), (1, .ref v1), (2, .ref v2), (3, .ref v3), (4, .int v4)] [] (zE (oI r) M') := by
  unfold fL_law_302 at h
  refine zr_aload_n (q := 303) dL_law_302 rfl rfl 1 rfl ?_
  refine zr_aload_n (q := 304) dL_law_303 rfl rfl 3 rfl ?_
  obtain ⟨r_1, M_2, hc_3, h⟩ := bnd2_some h
  refine zr_callSH (μ' := uL_empty) (q := 307) (n := 2) (As := [.ref v1, .ref v3]) (u' := (102 + 2 * j + 1, 514787 + 12 * j + 6)) (tL_empty N M v1 v3 _ _ hc_3) dL_law_304 rfl rfl ⟨zb_790, zb_791, zb_792, zb_681⟩ zd_L_empty ⟨by decide, by decide⟩ ⟨by show 102 + 2 * j + 1 ≤ 601024; omega, by show 514787 + 12 * j + 6 ≤ 7293034; omega⟩ rfl rfl (Nat.le_of_ble_eq_true rfl) rfl ?_
  refine zr_istore (q := 309) (L' := [(5, .int r_1), (0, .ref v0), (1, .ref v1), (2, .ref v2), (3, .ref v3), (4, .int v4)]) dL_law_307 rfl (by decide) rfl ?_
  refine zr_aload_n (q := 310) dL_law_309 rfl rfl 3 rfl ?_
  obtain ⟨c_7, h⟩ := chk_some h
  obtain ⟨r_4, M_5, hc_6, h⟩ := bnd2_some h
  refine zr_callVI (μ' := uX10_empty) (q := 313) (n := 0) (ci := 10) (As := []) (u' := (102 + 2 * j + 1, 514787 + 12 * j + 6)) (tX10_empty N M_2 v2 _ _ hc_6) dL_law_310 rfl rfl ⟨zb_793, zb_794, zb_795, zb_796, zb_389⟩ zd_X10_empty ⟨by decide, by decide⟩ ⟨by show 102 + 2 * j + 1 + 0 ≤ 601024; omega, by show 514787 + 12 * j + 6 + 0 ≤ 7293034; omega⟩ (eq_of_beq c_7) (by decide) rfl rfl rfl (Nat.le_of_ble_eq_true rfl) rfl rfl ?_
  refine zr_istore (q := 315) (L' := [(6, .int r_4), (5, .int r_1), (0, .ref v0), (1, .ref v1), (2, .ref v2), (3, .ref v3), (4, .int v4)]) dL_law_313 rfl (by decide) rfl ?_
  refine zr_aload_n (q := 316) dL_law_315 rfl rfl 4 rfl ?_
  obtain ⟨c_11, h⟩ := chk_some h
  obtain ⟨r_8, M_9, hc_10, h⟩ := bnd2_some h
  refine zr_callVI (μ' := uX10_thrown) (q := 319) (n := 0) (ci := 10) (As := []) (u' := (102 + 2 * j + 1, 514787 + 12 * j + 6)) (tX10_thrown N M_5 v2 _ _ hc_10) dL_law_316 rfl rfl ⟨zb_686, zb_687, zb_688, zb_689, zb_389⟩ zd_X10_thrown ⟨by decide, by decide⟩ ⟨by show 102 + 2 * j + 1 + 0 ≤ 601024; omega, by show 514787 + 12 * j + 6 + 0 ≤ 7293034; omega⟩ (eq_of_beq c_11) (by decide) rfl rfl rfl (Nat.le_of_ble_eq_true rfl) rfl rfl ?_
  refine zr_iload (q := 321) dL_law_319 rfl 1 rfl ?_
  refine zr_icmp_eq (q := 324) (tgt := 326) dL_law_321 rfl (by decide) (fun c_12 => ?_) (fun c_12 => ?_)
  · replace h := ite_t c_12 h
    refine zr_iload (q := 328) dL_law_326 rfl 1 rfl ?_
    refine zr_if_ne (q := 331) (tgt := 350) dL_law_328 rfl (by decide) (fun c_13 => ?_) (fun c_13 => ?_)
    · replace h := ite_f c_13 h
      exact zr_pick [2, 3, 4, 5, 6] rfl (tL_law_350 N j hj k23 h23 M_9 v0 v1 v2 v3 v4 _ _ h)
    · replace h := ite_t c_13 h
      refine zr_aload_n (q := 332) dL_law_331 rfl rfl 5 rfl ?_
      refine zr_iconst (q := 333) (v := 0) dL_law_332 rfl (by decide) ?_
      obtain ⟨c_14, h⟩ := chk_some h
      obtain ⟨c_15, h⟩ := chk_some h
      refine zr_lald (q := 334) dL_law_333 rfl (eq_of_beq c_14) c_15 ?_
      refine zr_iload (q := 336) dL_law_334 rfl 0 rfl ?_
      refine zr_if_eq (q := 339) (tgt := 343) dL_law_336 rfl (by decide) (fun c_16 => ?_) (fun c_16 => ?_)
      · replace h := ite_t c_16 h
        refine zr_lconst (q := 344) (v := 0) dL_law_343 rfl (by decide) ?_
        exact zr_pick [2, 3, 4, 5, 6] rfl (tL_law_344 N j hj k23 h23 M_9 v0 v1 v2 v3 v4 (mL M_9 v3 (Int32.toNatClampNeg (0 : Int32))) (0 : Int64) _ _ h)
      · replace h := ite_f c_16 h
        refine zr_lconst (q := 340) (v := 1) dL_law_339 rfl (by decide) ?_
        refine zr_goto (q := 344) dL_law_340 (by decide) ?_
        exact zr_pick [2, 3, 4, 5, 6] rfl (tL_law_344 N j hj k23 h23 M_9 v0 v1 v2 v3 v4 (mL M_9 v3 (Int32.toNatClampNeg (0 : Int32))) (1 : Int64) _ _ h)
  · replace h := ite_f c_12 h
    refine zr_iconst (q := 325) (v := 0) dL_law_324 rfl (by decide) ?_
    cases h
    exact zr_zreturn dL_law_325 rfl (Or.inl rfl) ⟨by show 102 + 2 * j + 1 ≤ 601024; omega, by show 514787 + 12 * j + 6 ≤ 7293034; omega⟩ ⟨rfl, rfl⟩
def fL_law_299 (N : Nat) (k23 : zM → Nat → Nat → Nat → Nat → Int32 → Option (Int32 × zM)) (M : zM) (v0 : Nat) (v1 : Nat) (v2 : Nat) (v3 : Nat) (v4 : Int32) : Option (Int32 × zM) :=
  fL_law_1213 k23 M v0 v1 v2 v3 v4
set_option maxHeartbeats 4000000 in
set_option maxRecDepth 100000 in
theorem tL_law_299 (N : Nat) (j : Nat) (hj : j ≤ 512) (k23 : zM → Nat → Nat → Nat → Nat → Int32 → Option (Int32 × zM)) (h23 : ∀ (M : zM) (v0 v1 v2 v3 : Nat) (v4 : Int32) (r : Int32) (M' : zM), k23 M v0 v1 v2 v3 v4 = some (r, M') → zW uL_law none (102 + 2 * (j + 1), 514787 + 12 * (j + 1)) M 23 [(0, .ref v0), (1, .ref v1), (2, .ref v2), (3, .ref v3), (4, .int v4)] [] (zE (oI r) M')) (M : zM) (v0 : Nat) (v1 : Nat) (v2 : Nat) (v3 : Nat) (v4 : Int32) (r : Int32) (M' : zM) (h : fL_law_299 N k23 M v0 v1 v2 v3 v4 = some (r, M')) : zW uL_law none (102 + 2 * j + 1, 514787 + 12 * j + 6) M 299 [(0, .ref v0), (1, .ref v1), (2, .ref v2), (3, .ref v3), (4, .int v4)] [] (zE (oI r) M') := by
  unfold fL_law_299 at h
  refine zr_goto (q := 1213) dL_law_299 (by decide) ?_
  refine zr_widen (u' := (102 + 2 * (j + 1), 514787 + 12 * (j + 1))) (by show 102 + 2 * j + 1 ≤ 102 + 2 * (j + 1); omega) (by show 514787 + 12 * j + 6 ≤ 514787 + 12 * (j + 1); omega) ?_
  exact zr_pick [0, 1, 2, 3, 4] rfl (tL_law_1213 j k23 h23 M v0 v1 v2 v3 v4 _ _ h)
def fL_law_258 (N : Nat) (k23 : zM → Nat → Nat → Nat → Nat → Int32 → Option (Int32 × zM)) (M : zM) (v0 : Nat) (v1 : Nat) (v2 : Nat) (v3 : Nat) (v4 : Int32) : Option (Int32 × zM) :=
  bnd2 (fL_positions N M v1 v3) fun r_1 M_2 =>
  chk (mK M_2 v2 == 10) <|
  bnd2 (fX10_positions N M_2 v2) fun r_4 M_5 =>
  chk (mK M_5 v2 == 10) <|
  bnd2 (fX10_thrown N M_5 v2) fun r_8 M_9 =>
  if r_8 = r_1 then
    if r_1 = (0 : Int32) then
      chk (mK M_9 v3 == 12) <|
      chk (zin (0 : Int32) (mN M_9 v3)) <|
      if (lg_cmp (mL M_9 v3 (Int32.toNatClampNeg (0 : Int32))) (Int32.toInt64 r_4)) = (0 : Int32) then
        fL_law_299 N k23 M_9 v0 v1 v2 v3 v4
      else
      some ((0 : Int32), M_9)
    else
    fL_law_299 N k23 M_9 v0 v1 v2 v3 v4
  else
  some ((0 : Int32), M_9)
set_option maxHeartbeats 4000000 in
set_option maxRecDepth 100000 in
theorem tL_law_258 (N : Nat) (j : Nat) (hj : j ≤ 512) (k23 : zM → Nat → Nat → Nat → Nat → Int32 → Option (Int32 × zM)) (h23 : ∀ (M : zM) (v0 v1 v2 v3 : Nat) (v4 : Int32) (r : Int32) (M' : zM), k23 M v0 v1 v2 v3 v4 = some (r, M') → zW uL_law none (102 + 2 * (j + 1), 514787 + 12 * (j + 1)) M 23 [(0, .ref v0), (1, .ref v1), (2, .ref v2), (3, .ref v3), (4, .int v4)] [] (zE (oI r) M')) (M : zM) (v0 : Nat) (v1 : Nat) (v2 : Nat) (v3 : Nat) (v4 : Int32) (r : Int32) (M' : zM) (h : fL_law_258 N k23 M v0 v1 v2 v3 v4 = some (r, M')) : zW uL_law none (102 + 2 * j, 514787 + 12 * j) M 258 [(0, .ref v0), (1, .ref v1), (2, .ref v2), (3, .ref v3), (4, .int v4)] [] (zE (oI r) M') := by
  unfold fL_law_258 at h
  refine zr_aload_n (q := 259) dL_law_258 rfl rfl 1 rfl ?_
  refine zr_aload_n (q := 260) dL_law_259 rfl rfl 3 rfl ?_
  obtain ⟨r_1, M_2, hc_3, h⟩ := bnd2_some h
  refine zr_callSH (μ' := uL_positions) (q := 263) (n := 2) (As := [.ref v1, .ref v3]) (u' := (102 + 2 * j + 1, 514787 + 12 * j + 6)) (tL_positions N M v1 v3 _ _ hc_3) dL_law_260 rfl rfl ⟨zb_797, zb_798, zb_799, zb_681⟩ zd_L_positions ⟨by decide, by decide⟩ ⟨by show 102 + 2 * j + 1 ≤ 601024; omega, by show 514787 + 12 * j + 6 ≤ 7293034; omega⟩ rfl rfl (Nat.le_of_ble_eq_true rfl) rfl ?_
  refine zr_istore (q := 265) (L' := [(5, .int r_1), (0, .ref v0), (1, .ref v1), (2, .ref v2), (3, .ref v3), (4, .int v4)]) dL_law_263 rfl (by decide) rfl ?_
  refine zr_aload_n (q := 266) dL_law_265 rfl rfl 3 rfl ?_
  obtain ⟨c_7, h⟩ := chk_some h
  obtain ⟨r_4, M_5, hc_6, h⟩ := bnd2_some h
  refine zr_callVI (μ' := uX10_positions) (q := 269) (n := 0) (ci := 10) (As := []) (u' := (102 + 2 * j + 1, 514787 + 12 * j + 6)) (tX10_positions N M_2 v2 _ _ hc_6) dL_law_266 rfl rfl ⟨zb_800, zb_801, zb_802, zb_803, zb_389⟩ zd_X10_positions ⟨by decide, by decide⟩ ⟨by show 102 + 2 * j + 1 + 0 ≤ 601024; omega, by show 514787 + 12 * j + 6 + 0 ≤ 7293034; omega⟩ (eq_of_beq c_7) (by decide) rfl rfl rfl (Nat.le_of_ble_eq_true rfl) rfl rfl ?_
  refine zr_istore (q := 271) (L' := [(6, .int r_4), (5, .int r_1), (0, .ref v0), (1, .ref v1), (2, .ref v2), (3, .ref v3), (4, .int v4)]) dL_law_269 rfl (by decide) rfl ?_
  refine zr_aload_n (q := 272) dL_law_271 rfl rfl 4 rfl ?_
  obtain ⟨c_11, h⟩ := chk_some h
  obtain ⟨r_8, M_9, hc_10, h⟩ := bnd2_some h
  refine zr_callVI (μ' := uX10_thrown) (q := 275) (n := 0) (ci := 10) (As := []) (u' := (102 + 2 * j + 1, 514787 + 12 * j + 6)) (tX10_thrown N M_5 v2 _ _ hc_10) dL_law_272 rfl rfl ⟨zb_686, zb_687, zb_688, zb_689, zb_389⟩ zd_X10_thrown ⟨by decide, by decide⟩ ⟨by show 102 + 2 * j + 1 + 0 ≤ 601024; omega, by show 514787 + 12 * j + 6 + 0 ≤ 7293034; omega⟩ (eq_of_beq c_11) (by decide) rfl rfl rfl (Nat.le_of_ble_eq_true rfl) rfl rfl ?_
  refine zr_iload (q := 277) dL_law_275 rfl 1 rfl ?_
  refine zr_icmp_eq (q := 280) (tgt := 282) dL_law_277 rfl (by decide) (fun c_12 => ?_) (fun c_12 => ?_)
  · replace h := ite_t c_12 h
    refine zr_iload (q := 284) dL_law_282 rfl 1 rfl ?_
    refine zr_if_ne (q := 287) (tgt := 299) dL_law_284 rfl (by decide) (fun c_13 => ?_) (fun c_13 => ?_)
    · replace h := ite_f c_13 h
      exact zr_pick [2, 3, 4, 5, 6] rfl (tL_law_299 N j hj k23 h23 M_9 v0 v1 v2 v3 v4 _ _ h)
    · replace h := ite_t c_13 h
      refine zr_aload_n (q := 288) dL_law_287 rfl rfl 5 rfl ?_
      refine zr_iconst (q := 289) (v := 0) dL_law_288 rfl (by decide) ?_
      obtain ⟨c_14, h⟩ := chk_some h
      obtain ⟨c_15, h⟩ := chk_some h
      refine zr_lald (q := 290) dL_law_289 rfl (eq_of_beq c_14) c_15 ?_
      refine zr_iload (q := 292) dL_law_290 rfl 0 rfl ?_
      refine zr_i2l (q := 293) dL_law_292 rfl ?_
      refine zr_lcmp (q := 294) dL_law_293 rfl ?_
      refine zr_if_eq (q := 297) (tgt := 299) dL_law_294 rfl (by decide) (fun c_16 => ?_) (fun c_16 => ?_)
      · replace h := ite_t c_16 h
        exact zr_pick [2, 3, 4, 5, 6] rfl (tL_law_299 N j hj k23 h23 M_9 v0 v1 v2 v3 v4 _ _ h)
      · replace h := ite_f c_16 h
        refine zr_iconst (q := 298) (v := 0) dL_law_297 rfl (by decide) ?_
        cases h
        exact zr_zreturn dL_law_298 rfl (Or.inl rfl) ⟨by show 102 + 2 * j + 1 ≤ 601024; omega, by show 514787 + 12 * j + 6 ≤ 7293034; omega⟩ ⟨rfl, rfl⟩
  · replace h := ite_f c_12 h
    refine zr_iconst (q := 281) (v := 0) dL_law_280 rfl (by decide) ?_
    cases h
    exact zr_zreturn dL_law_281 rfl (Or.inl rfl) ⟨by show 102 + 2 * j + 1 ≤ 601024; omega, by show 514787 + 12 * j + 6 ≤ 7293034; omega⟩ ⟨rfl, rfl⟩
def fL_law_245 (N : Nat) (k23 : zM → Nat → Nat → Nat → Nat → Int32 → Option (Int32 × zM)) (M : zM) (v0 : Nat) (v1 : Nat) (v2 : Nat) (v3 : Nat) (v4 : Int32) : Option (Int32 × zM) :=
  chk (mK M v1 == 9) <|
  bnd2 (fX9_place N M v1) fun r_1 M_2 =>
  chk (mK M_2 v2 == 10) <|
  bnd2 (fX10_place N M_2 v2) fun r_5 M_6 =>
  if r_1 = r_5 then
    fL_law_1213 k23 M_6 v0 v1 v2 v3 v4
  else
  some ((0 : Int32), M_6)
set_option maxHeartbeats 4000000 in
set_option maxRecDepth 100000 in
theorem tL_law_245 (N : Nat) (j : Nat) (hj : j ≤ 512) (k23 : zM → Nat → Nat → Nat → Nat → Int32 → Option (Int32 × zM)) (h23 : ∀ (M : zM) (v0 v1 v2 v3 : Nat) (v4 : Int32) (r : Int32) (M' : zM), k23 M v0 v1 v2 v3 v4 = some (r, M') → zW uL_law none (102 + 2 * (j + 1), 514787 + 12 * (j + 1)) M 23 [(0, .ref v0), (1, .ref v1), (2, .ref v2), (3, .ref v3), (4, .int v4)] [] (zE (oI r) M')) (M : zM) (v0 : Nat) (v1 : Nat) (v2 : Nat) (v3 : Nat) (v4 : Int32) (r : Int32) (M' : zM) (h : fL_law_245 N k23 M v0 v1 v2 v3 v4 = some (r, M')) : zW uL_law none (102 + 2 * j, 514787 + 12 * j) M 245 [(0, .ref v0), (1, .ref v1), (2, .ref v2), (3, .ref v3), (4, .int v4)] [] (zE (oI r) M') := by
  unfold fL_law_245 at h
  refine zr_aload_n (q := 246) dL_law_245 rfl rfl 1 rfl ?_
  obtain ⟨c_4, h⟩ := chk_some h
  obtain ⟨r_1, M_2, hc_3, h⟩ := bnd2_some h
  refine zr_callVI (μ' := uX9_place) (q := 249) (n := 0) (ci := 9) (As := []) (u' := (102 + 2 * j, 514787 + 12 * j)) (tX9_place N M v1 _ _ hc_3) dL_law_246 rfl rfl ⟨zb_804, zb_805, zb_806, zb_807, zb_25⟩ zd_X9_place ⟨by decide, by decide⟩ ⟨by show 102 + 2 * j + 0 ≤ 601024; omega, by show 514787 + 12 * j + 0 ≤ 7293034; omega⟩ (eq_of_beq c_4) (by decide) rfl rfl rfl (Nat.le_of_ble_eq_true rfl) rfl rfl ?_
  refine zr_aload_n (q := 250) dL_law_249 rfl rfl 2 rfl ?_
  obtain ⟨c_8, h⟩ := chk_some h
  obtain ⟨r_5, M_6, hc_7, h⟩ := bnd2_some h
  refine zr_callVI (μ' := uX10_place) (q := 253) (n := 0) (ci := 10) (As := []) (u' := (102 + 2 * j, 514787 + 12 * j)) (tX10_place N M_2 v2 _ _ hc_7) dL_law_250 rfl rfl ⟨zb_808, zb_809, zb_810, zb_811, zb_389⟩ zd_X10_place ⟨by decide, by decide⟩ ⟨by show 102 + 2 * j + 0 ≤ 601024; omega, by show 514787 + 12 * j + 0 ≤ 7293034; omega⟩ (eq_of_beq c_8) (by decide) rfl rfl rfl (Nat.le_of_ble_eq_true rfl) rfl rfl ?_
  refine zr_icmp_eq (q := 256) (tgt := 1213) dL_law_253 rfl (by decide) (fun c_9 => ?_) (fun c_9 => ?_)
  · replace h := ite_t c_9 h
    refine zr_widen (u' := (102 + 2 * (j + 1), 514787 + 12 * (j + 1))) (by show 102 + 2 * j ≤ 102 + 2 * (j + 1); omega) (by show 514787 + 12 * j ≤ 514787 + 12 * (j + 1); omega) ?_
    exact zr_pick [0, 1, 2, 3, 4] rfl (tL_law_1213 j k23 h23 M_6 v0 v1 v2 v3 v4 _ _ h)
  · replace h := ite_f c_9 h
    refine zr_iconst (q := 257) (v := 0) dL_law_256 rfl (by decide) ?_
    cases h
    exact zr_zreturn dL_law_257 rfl (Or.inl rfl) ⟨by show 102 + 2 * j ≤ 601024; omega, by show 514787 + 12 * j ≤ 7293034; omega⟩ ⟨rfl, rfl⟩
def fL_law_232 (N : Nat) (k23 : zM → Nat → Nat → Nat → Nat → Int32 → Option (Int32 × zM)) (M : zM) (v0 : Nat) (v1 : Nat) (v2 : Nat) (v3 : Nat) (v4 : Int32) : Option (Int32 × zM) :=
  chk (mK M v1 == 9) <|
  bnd2 (fX9_read N M v1) fun r_1 M_2 =>
  chk (mK M_2 v2 == 10) <|
  bnd2 (fX10_read N M_2 v2) fun r_5 M_6 =>
  if r_1 = r_5 then
    fL_law_1213 k23 M_6 v0 v1 v2 v3 v4
  else
  some ((0 : Int32), M_6)
set_option maxHeartbeats 4000000 in
set_option maxRecDepth 100000 in
theorem tL_law_232 (N : Nat) (j : Nat) (hj : j ≤ 512) (k23 : zM → Nat → Nat → Nat → Nat → Int32 → Option (Int32 × zM)) (h23 : ∀ (M : zM) (v0 v1 v2 v3 : Nat) (v4 : Int32) (r : Int32) (M' : zM), k23 M v0 v1 v2 v3 v4 = some (r, M') → zW uL_law none (102 + 2 * (j + 1), 514787 + 12 * (j + 1)) M 23 [(0, .ref v0), (1, .ref v1), (2, .ref v2), (3, .ref v3), (4, .int v4)] [] (zE (oI r) M')) (M : zM) (v0 : Nat) (v1 : Nat) (v2 : Nat) (v3 : Nat) (v4 : Int32) (r : Int32) (M' : zM) (h : fL_law_232 N k23 M v0 v1 v2 v3 v4 = some (r, M')) : zW uL_law none (102 + 2 * j, 514787 + 12 * j) M 232 [(0, .ref v0), (1, .ref v1), (2, .ref v2), (3, .ref v3), (4, .int v4)] [] (zE (oI r) M') := by
  unfold fL_law_232 at h
  refine zr_aload_n (q := 233) dL_law_232 rfl rfl 1 rfl ?_
  obtain ⟨c_4, h⟩ := chk_some h
  obtain ⟨r_1, M_2, hc_3, h⟩ := bnd2_some h
  refine zr_callVI (μ' := uX9_read) (q := 236) (n := 0) (ci := 9) (As := []) (u' := (102 + 2 * j, 514787 + 12 * j)) (tX9_read N M v1 _ _ hc_3) dL_law_233 rfl rfl ⟨zb_812, zb_813, zb_814, zb_815, zb_25⟩ zd_X9_read ⟨by decide, by decide⟩ ⟨by show 102 + 2 * j + 0 ≤ 601024; omega, by show 514787 + 12 * j + 0 ≤ 7293034; omega⟩ (eq_of_beq c_4) (by decide) rfl rfl rfl (Nat.le_of_ble_eq_true rfl) rfl rfl ?_
  refine zr_aload_n (q := 237) dL_law_236 rfl rfl 2 rfl ?_
  obtain ⟨c_8, h⟩ := chk_some h
  obtain ⟨r_5, M_6, hc_7, h⟩ := bnd2_some h
  refine zr_callVI (μ' := uX10_read) (q := 240) (n := 0) (ci := 10) (As := []) (u' := (102 + 2 * j, 514787 + 12 * j)) (tX10_read N M_2 v2 _ _ hc_7) dL_law_237 rfl rfl ⟨zb_816, zb_817, zb_818, zb_819, zb_389⟩ zd_X10_read ⟨by decide, by decide⟩ ⟨by show 102 + 2 * j + 0 ≤ 601024; omega, by show 514787 + 12 * j + 0 ≤ 7293034; omega⟩ (eq_of_beq c_8) (by decide) rfl rfl rfl (Nat.le_of_ble_eq_true rfl) rfl rfl ?_
  refine zr_icmp_eq (q := 243) (tgt := 1213) dL_law_240 rfl (by decide) (fun c_9 => ?_) (fun c_9 => ?_)
  · replace h := ite_t c_9 h
    refine zr_widen (u' := (102 + 2 * (j + 1), 514787 + 12 * (j + 1))) (by show 102 + 2 * j ≤ 102 + 2 * (j + 1); omega) (by show 514787 + 12 * j ≤ 514787 + 12 * (j + 1); omega) ?_
    exact zr_pick [0, 1, 2, 3, 4] rfl (tL_law_1213 j k23 h23 M_6 v0 v1 v2 v3 v4 _ _ h)
  · replace h := ite_f c_9 h
    refine zr_iconst (q := 244) (v := 0) dL_law_243 rfl (by decide) ?_
    cases h
    exact zr_zreturn dL_law_244 rfl (Or.inl rfl) ⟨by show 102 + 2 * j ≤ 601024; omega, by show 514787 + 12 * j ≤ 7293034; omega⟩ ⟨rfl, rfl⟩
def fL_law_229 (N : Nat) (k23 : zM → Nat → Nat → Nat → Nat → Int32 → Option (Int32 × zM)) (M : zM) (v0 : Nat) (v1 : Nat) (v2 : Nat) (v3 : Nat) (v4 : Int32) : Option (Int32 × zM) :=
  fL_law_1213 k23 M v0 v1 v2 v3 v4
set_option maxHeartbeats 4000000 in
set_option maxRecDepth 100000 in
theorem tL_law_229 (N : Nat) (j : Nat) (hj : j ≤ 512) (k23 : zM → Nat → Nat → Nat → Nat → Int32 → Option (Int32 × zM)) (h23 : ∀ (M : zM) (v0 v1 v2 v3 : Nat) (v4 : Int32) (r : Int32) (M' : zM), k23 M v0 v1 v2 v3 v4 = some (r, M') → zW uL_law none (102 + 2 * (j + 1), 514787 + 12 * (j + 1)) M 23 [(0, .ref v0), (1, .ref v1), (2, .ref v2), (3, .ref v3), (4, .int v4)] [] (zE (oI r) M')) (M : zM) (v0 : Nat) (v1 : Nat) (v2 : Nat) (v3 : Nat) (v4 : Int32) (r : Int32) (M' : zM) (h : fL_law_229 N k23 M v0 v1 v2 v3 v4 = some (r, M')) : zW uL_law none (102 + 2 * j + 1, 514787 + 12 * j + 6) M 229 [(0, .ref v0), (1, .ref v1), (2, .ref v2), (3, .ref v3), (4, .int v4)] [] (zE (oI r) M') := by
  unfold fL_law_229 at h
  refine zr_goto (q := 1213) dL_law_229 (by decide) ?_
  refine zr_widen (u' := (102 + 2 * (j + 1), 514787 + 12 * (j + 1))) (by show 102 + 2 * j + 1 ≤ 102 + 2 * (j + 1); omega) (by show 514787 + 12 * j + 6 ≤ 514787 + 12 * (j + 1); omega) ?_
  exact zr_pick [0, 1, 2, 3, 4] rfl (tL_law_1213 j k23 h23 M v0 v1 v2 v3 v4 _ _ h)
def fL_law_132 (N : Nat) (k23 : zM → Nat → Nat → Nat → Nat → Int32 → Option (Int32 × zM)) (M : zM) (v0 : Nat) (v1 : Nat) (v2 : Nat) (v3 : Nat) (v4 : Int32) : Option (Int32 × zM) :=
  chk (v0 == 0) <|
  chk (zin (v4 + (1 : Int32)) (mN M 0)) <|
  chk (v0 == 0) <|
  chk (zin (v4 + (2 : Int32)) (mN M 0)) <|
  chk (v0 == 0) <|
  chk (zin (v4 + (3 : Int32)) (mN M 0)) <|
  bnd2 (fL_type N M v1 ((jshl (Int32.toInt64 (mI M 0 (Int32.toNatClampNeg (v4 + (1 : Int32))))) (32 : Int32)) ||| ((Int32.toInt64 (mI M 0 (Int32.toNatClampNeg (v4 + (2 : Int32))))) &&& (4294967295 : Int64))) (mI M 0 (Int32.toNatClampNeg (v4 + (3 : Int32)))) v3) fun r_7 M_8 =>
  chk (v0 == 0) <|
  chk (zin (v4 + (1 : Int32)) (mN M_8 0)) <|
  chk (v0 == 0) <|
  chk (zin (v4 + (2 : Int32)) (mN M_8 0)) <|
  chk (v0 == 0) <|
  chk (zin (v4 + (3 : Int32)) (mN M_8 0)) <|
  chk (mK M_8 v2 == 10) <|
  bnd2 (fX10_type N M_8 v2 ((jshl (Int32.toInt64 (mI M_8 0 (Int32.toNatClampNeg (v4 + (1 : Int32))))) (32 : Int32)) ||| ((Int32.toInt64 (mI M_8 0 (Int32.toNatClampNeg (v4 + (2 : Int32))))) &&& (4294967295 : Int64))) (mI M_8 0 (Int32.toNatClampNeg (v4 + (3 : Int32))))) fun r_16 M_17 =>
  chk (mK M_17 v2 == 10) <|
  bnd2 (fX10_thrown N M_17 v2) fun r_20 M_21 =>
  if r_20 = r_7 then
    if r_7 = (0 : Int32) then
      chk (mK M_21 v3 == 12) <|
      chk (zin (0 : Int32) (mN M_21 v3)) <|
      if (lg_cmp (mL M_21 v3 (Int32.toNatClampNeg (0 : Int32))) (Int32.toInt64 r_16)) = (0 : Int32) then
        fL_law_229 N k23 M_21 v0 v1 v2 v3 v4
      else
      some ((0 : Int32), M_21)
    else
    fL_law_229 N k23 M_21 v0 v1 v2 v3 v4
  else
  some ((0 : Int32), M_21)
set_option maxHeartbeats 4000000 in
set_option maxRecDepth 100000 in
theorem tL_law_132 (N : Nat) (j : Nat) (hj : j ≤ 512) (k23 : zM → Nat → Nat → Nat → Nat → Int32 → Option (Int32 × zM)) (h23 : ∀ (M : zM) (v0 v1 v2 v3 : Nat) (v4 : Int32) (r : Int32) (M' : zM), k23 M v0 v1 v2 v3 v4 = some (r, M') → zW uL_law none (102 + 2 * (j + 1), 514787 + 12 * (j + 1)) M 23 [(0, .ref v0), (1, .ref v1), (2, .ref v2), (3, .ref v3), (4, .int v4)] [] (zE (oI r) M')) (M : zM) (v0 : Nat) (v1 : Nat) (v2 : Nat) (v3 : Nat) (v4 : Int32) (r : Int32) (M' : zM) (h : fL_law_132 N k23 M v0 v1 v2 v3 v4 = some (r, M')) : zW uL_law none (102 + 2 * j, 514787 + 12 * j) M 132 [(0, .ref v0), (1, .ref v1), (2, .ref v2), (3, .ref v3), (4, .int v4)] [] (zE (oI r) M') := by
  unfold fL_law_132 at h
  refine zr_aload_n (q := 133) dL_law_132 rfl rfl 1 rfl ?_
  refine zr_aload_n (q := 134) dL_law_133 rfl rfl 0 rfl ?_
  refine zr_iload (q := 136) dL_law_134 rfl 4 rfl ?_
  refine zr_iconst (q := 137) (v := 1) dL_law_136 rfl (by decide) ?_
  refine zr_iadd (q := 138) dL_law_137 rfl ?_
  obtain ⟨c_1, h⟩ := chk_some h
  obtain ⟨c_2, h⟩ := chk_some h
  refine zr_sld (q := 139) dL_law_138 rfl (eq_of_beq c_1) c_2 ?_
  refine zr_i2l (q := 140) dL_law_139 rfl ?_
  refine zr_bipush (q := 142) (v := 32) dL_law_140 rfl (by decide) ?_
  refine zr_lshl (q := 143) dL_law_142 rfl ?_
  refine zr_aload_n (q := 144) dL_law_143 rfl rfl 0 rfl ?_
  refine zr_iload (q := 146) dL_law_144 rfl 4 rfl ?_
  refine zr_iconst (q := 147) (v := 2) dL_law_146 rfl (by decide) ?_
  refine zr_iadd (q := 148) dL_law_147 rfl ?_
  obtain ⟨c_3, h⟩ := chk_some h
  obtain ⟨c_4, h⟩ := chk_some h
  refine zr_sld (q := 149) dL_law_148 rfl (eq_of_beq c_3) c_4 ?_
  refine zr_i2l (q := 150) dL_law_149 rfl ?_
  refine zr_ldc2 (q := 153) (v := 4294967295) dL_law_150 rfl zb_761 ?_
  refine zr_land (q := 154) dL_law_153 rfl ?_
  refine zr_lor (q := 155) dL_law_154 rfl ?_
  refine zr_aload_n (q := 156) dL_law_155 rfl rfl 0 rfl ?_
  refine zr_iload (q := 158) dL_law_156 rfl 4 rfl ?_
  refine zr_iconst (q := 159) (v := 3) dL_law_158 rfl (by decide) ?_
  refine zr_iadd (q := 160) dL_law_159 rfl ?_
  obtain ⟨c_5, h⟩ := chk_some h
  obtain ⟨c_6, h⟩ := chk_some h
  refine zr_sld (q := 161) dL_law_160 rfl (eq_of_beq c_5) c_6 ?_
  refine zr_aload_n (q := 162) dL_law_161 rfl rfl 3 rfl ?_
  obtain ⟨r_7, M_8, hc_9, h⟩ := bnd2_some h
  refine zr_callSH (μ' := uL_type) (q := 165) (n := 4) (As := [.ref v1, .long ((jshl (Int32.toInt64 (mI M 0 (Int32.toNatClampNeg (v4 + (1 : Int32))))) (32 : Int32)) ||| ((Int32.toInt64 (mI M 0 (Int32.toNatClampNeg (v4 + (2 : Int32))))) &&& (4294967295 : Int64))), .int (mI M 0 (Int32.toNatClampNeg (v4 + (3 : Int32)))), .ref v3]) (u' := (102 + 2 * j + 1, 514787 + 12 * j + 6)) (tL_type N M v1 ((jshl (Int32.toInt64 (mI M 0 (Int32.toNatClampNeg (v4 + (1 : Int32))))) (32 : Int32)) ||| ((Int32.toInt64 (mI M 0 (Int32.toNatClampNeg (v4 + (2 : Int32))))) &&& (4294967295 : Int64))) (mI M 0 (Int32.toNatClampNeg (v4 + (3 : Int32)))) v3 _ _ hc_9) dL_law_162 rfl rfl ⟨zb_820, zb_821, zb_822, zb_681⟩ zd_L_type ⟨by decide, by decide⟩ ⟨by show 102 + 2 * j + 1 ≤ 601024; omega, by show 514787 + 12 * j + 6 ≤ 7293034; omega⟩ rfl rfl (Nat.le_of_ble_eq_true rfl) rfl ?_
  refine zr_istore (q := 167) (L' := [(5, .int r_7), (0, .ref v0), (1, .ref v1), (2, .ref v2), (3, .ref v3), (4, .int v4)]) dL_law_165 rfl (by decide) rfl ?_
  refine zr_aload_n (q := 168) dL_law_167 rfl rfl 3 rfl ?_
  refine zr_aload_n (q := 169) dL_law_168 rfl rfl 1 rfl ?_
  refine zr_iload (q := 171) dL_law_169 rfl 5 rfl ?_
  refine zr_iconst (q := 172) (v := 1) dL_law_171 rfl (by decide) ?_
  refine zr_iadd (q := 173) dL_law_172 rfl ?_
  obtain ⟨c_10, h⟩ := chk_some h
  obtain ⟨c_11, h⟩ := chk_some h
  refine zr_sld (q := 174) dL_law_173 rfl (eq_of_beq c_10) c_11 ?_
  refine zr_i2l (q := 175) dL_law_174 rfl ?_
  refine zr_bipush (q := 177) (v := 32) dL_law_175 rfl (by decide) ?_
  refine zr_lshl (q := 178) dL_law_177 rfl ?_
  refine zr_aload_n (q := 179) dL_law_178 rfl rfl 1 rfl ?_
  refine zr_iload (q := 181) dL_law_179 rfl 5 rfl ?_
  refine zr_iconst (q := 182) (v := 2) dL_law_181 rfl (by decide) ?_
  refine zr_iadd (q := 183) dL_law_182 rfl ?_
  obtain ⟨c_12, h⟩ := chk_some h
  obtain ⟨c_13, h⟩ := chk_some h
  refine zr_sld (q := 184) dL_law_183 rfl (eq_of_beq c_12) c_13 ?_
  refine zr_i2l (q := 185) dL_law_184 rfl ?_
  refine zr_ldc2 (q := 188) (v := 4294967295) dL_law_185 rfl zb_761 ?_
  refine zr_land (q := 189) dL_law_188 rfl ?_
  refine zr_lor (q := 190) dL_law_189 rfl ?_
  refine zr_aload_n (q := 191) dL_law_190 rfl rfl 1 rfl ?_
  refine zr_iload (q := 193) dL_law_191 rfl 5 rfl ?_
  refine zr_iconst (q := 194) (v := 3) dL_law_193 rfl (by decide) ?_
  refine zr_iadd (q := 195) dL_law_194 rfl ?_
  obtain ⟨c_14, h⟩ := chk_some h
  obtain ⟨c_15, h⟩ := chk_some h
  refine zr_sld (q := 196) dL_law_195 rfl (eq_of_beq c_14) c_15 ?_
  obtain ⟨c_19, h⟩ := chk_some h
  obtain ⟨r_16, M_17, hc_18, h⟩ := bnd2_some h
  refine zr_callVI (μ' := uX10_type) (q := 199) (n := 2) (ci := 10) (As := [.long ((jshl (Int32.toInt64 (mI M_8 0 (Int32.toNatClampNeg (v4 + (1 : Int32))))) (32 : Int32)) ||| ((Int32.toInt64 (mI M_8 0 (Int32.toNatClampNeg (v4 + (2 : Int32))))) &&& (4294967295 : Int64))), .int (mI M_8 0 (Int32.toNatClampNeg (v4 + (3 : Int32))))]) (u' := (102 + 2 * j + 1, 514787 + 12 * j + 6)) (tX10_type N M_8 v2 ((jshl (Int32.toInt64 (mI M_8 0 (Int32.toNatClampNeg (v4 + (1 : Int32))))) (32 : Int32)) ||| ((Int32.toInt64 (mI M_8 0 (Int32.toNatClampNeg (v4 + (2 : Int32))))) &&& (4294967295 : Int64))) (mI M_8 0 (Int32.toNatClampNeg (v4 + (3 : Int32)))) _ _ hc_18) dL_law_196 rfl rfl ⟨zb_823, zb_824, zb_825, zb_826, zb_389⟩ zd_X10_type ⟨by decide, by decide⟩ ⟨by show 102 + 2 * j + 1 + 0 ≤ 601024; omega, by show 514787 + 12 * j + 6 + 0 ≤ 7293034; omega⟩ (eq_of_beq c_19) (by decide) rfl rfl rfl (Nat.le_of_ble_eq_true rfl) rfl rfl ?_
  refine zr_istore (q := 201) (L' := [(6, .int r_16), (5, .int r_7), (0, .ref v0), (1, .ref v1), (2, .ref v2), (3, .ref v3), (4, .int v4)]) dL_law_199 rfl (by decide) rfl ?_
  refine zr_aload_n (q := 202) dL_law_201 rfl rfl 4 rfl ?_
  obtain ⟨c_23, h⟩ := chk_some h
  obtain ⟨r_20, M_21, hc_22, h⟩ := bnd2_some h
  refine zr_callVI (μ' := uX10_thrown) (q := 205) (n := 0) (ci := 10) (As := []) (u' := (102 + 2 * j + 1, 514787 + 12 * j + 6)) (tX10_thrown N M_17 v2 _ _ hc_22) dL_law_202 rfl rfl ⟨zb_686, zb_687, zb_688, zb_689, zb_389⟩ zd_X10_thrown ⟨by decide, by decide⟩ ⟨by show 102 + 2 * j + 1 + 0 ≤ 601024; omega, by show 514787 + 12 * j + 6 + 0 ≤ 7293034; omega⟩ (eq_of_beq c_23) (by decide) rfl rfl rfl (Nat.le_of_ble_eq_true rfl) rfl rfl ?_
  refine zr_iload (q := 207) dL_law_205 rfl 1 rfl ?_
  refine zr_icmp_eq (q := 210) (tgt := 212) dL_law_207 rfl (by decide) (fun c_24 => ?_) (fun c_24 => ?_)
  · replace h := ite_t c_24 h
    refine zr_iload (q := 214) dL_law_212 rfl 1 rfl ?_
    refine zr_if_ne (q := 217) (tgt := 229) dL_law_214 rfl (by decide) (fun c_25 => ?_) (fun c_25 => ?_)
    · replace h := ite_f c_25 h
      exact zr_pick [2, 3, 4, 5, 6] rfl (tL_law_229 N j hj k23 h23 M_21 v0 v1 v2 v3 v4 _ _ h)
    · replace h := ite_t c_25 h
      refine zr_aload_n (q := 218) dL_law_217 rfl rfl 5 rfl ?_
      refine zr_iconst (q := 219) (v := 0) dL_law_218 rfl (by decide) ?_
      obtain ⟨c_26, h⟩ := chk_some h
      obtain ⟨c_27, h⟩ := chk_some h
      refine zr_lald (q := 220) dL_law_219 rfl (eq_of_beq c_26) c_27 ?_
      refine zr_iload (q := 222) dL_law_220 rfl 0 rfl ?_
      refine zr_i2l (q := 223) dL_law_222 rfl ?_
      refine zr_lcmp (q := 224) dL_law_223 rfl ?_
      refine zr_if_eq (q := 227) (tgt := 229) dL_law_224 rfl (by decide) (fun c_28 => ?_) (fun c_28 => ?_)
      · replace h := ite_t c_28 h
        exact zr_pick [2, 3, 4, 5, 6] rfl (tL_law_229 N j hj k23 h23 M_21 v0 v1 v2 v3 v4 _ _ h)
      · replace h := ite_f c_28 h
        refine zr_iconst (q := 228) (v := 0) dL_law_227 rfl (by decide) ?_
        cases h
        exact zr_zreturn dL_law_228 rfl (Or.inl rfl) ⟨by show 102 + 2 * j + 1 ≤ 601024; omega, by show 514787 + 12 * j + 6 ≤ 7293034; omega⟩ ⟨rfl, rfl⟩
  · replace h := ite_f c_24 h
    refine zr_iconst (q := 211) (v := 0) dL_law_210 rfl (by decide) ?_
    cases h
    exact zr_zreturn dL_law_211 rfl (Or.inl rfl) ⟨by show 102 + 2 * j + 1 ≤ 601024; omega, by show 514787 + 12 * j + 6 ≤ 7293034; omega⟩ ⟨rfl, rfl⟩
def fL_law_23 (N : Nat) : Nat → zM → Nat → Nat → Nat → Nat → Int32 → Option (Int32 × zM)
  | 0, _, _, _, _, _, _ => none
  | n + 1, M, v0, v1, v2, v3, v4 =>
    chk (v0 == 0) <|
    if ((nI (mN M 0)) - (4 : Int32)) < v4 then
      some ((1 : Int32), M)
    else
    chk (v0 == 0) <|
    chk (zin v4 (mN M 0)) <|
    if ((mI M 0 (Int32.toNatClampNeg v4)) &&& (31 : Int32)) = (0 : Int32) then
      fL_law_132 N (fL_law_23 N n) M v0 v1 v2 v3 v4
    else
    if ((mI M 0 (Int32.toNatClampNeg v4)) &&& (31 : Int32)) = (1 : Int32) then
      fL_law_232 N (fL_law_23 N n) M v0 v1 v2 v3 v4
    else
    if ((mI M 0 (Int32.toNatClampNeg v4)) &&& (31 : Int32)) = (2 : Int32) then
      fL_law_245 N (fL_law_23 N n) M v0 v1 v2 v3 v4
    else
    if ((mI M 0 (Int32.toNatClampNeg v4)) &&& (31 : Int32)) = (3 : Int32) then
      fL_law_258 N (fL_law_23 N n) M v0 v1 v2 v3 v4
    else
    if ((mI M 0 (Int32.toNatClampNeg v4)) &&& (31 : Int32)) = (4 : Int32) then
      fL_law_302 N (fL_law_23 N n) M v0 v1 v2 v3 v4
    else
    if ((mI M 0 (Int32.toNatClampNeg v4)) &&& (31 : Int32)) = (5 : Int32) then
      fL_law_353 N (fL_law_23 N n) M v0 v1 v2 v3 v4
    else
    if ((mI M 0 (Int32.toNatClampNeg v4)) &&& (31 : Int32)) = (6 : Int32) then
      fL_law_428 N (fL_law_23 N n) M v0 v1 v2 v3 v4
    else
    if ((mI M 0 (Int32.toNatClampNeg v4)) &&& (31 : Int32)) = (7 : Int32) then
      fL_law_503 N (fL_law_23 N n) M v0 v1 v2 v3 v4
    else
    if ((mI M 0 (Int32.toNatClampNeg v4)) &&& (31 : Int32)) = (8 : Int32) then
      fL_law_578 N (fL_law_23 N n) M v0 v1 v2 v3 v4
    else
    if ((mI M 0 (Int32.toNatClampNeg v4)) &&& (31 : Int32)) = (9 : Int32) then
      fL_law_678 N (fL_law_23 N n) M v0 v1 v2 v3 v4
    else
    if ((mI M 0 (Int32.toNatClampNeg v4)) &&& (31 : Int32)) = (10 : Int32) then
      fL_law_691 N (fL_law_23 N n) M v0 v1 v2 v3 v4
    else
    if ((mI M 0 (Int32.toNatClampNeg v4)) &&& (31 : Int32)) = (11 : Int32) then
      fL_law_742 N (fL_law_23 N n) M v0 v1 v2 v3 v4
    else
    if ((mI M 0 (Int32.toNatClampNeg v4)) &&& (31 : Int32)) = (12 : Int32) then
      fL_law_786 N (fL_law_23 N n) M v0 v1 v2 v3 v4
    else
    if ((mI M 0 (Int32.toNatClampNeg v4)) &&& (31 : Int32)) = (13 : Int32) then
      fL_law_870 N (fL_law_23 N n) M v0 v1 v2 v3 v4
    else
    if ((mI M 0 (Int32.toNatClampNeg v4)) &&& (31 : Int32)) = (14 : Int32) then
      fL_law_914 N (fL_law_23 N n) M v0 v1 v2 v3 v4
    else
    if ((mI M 0 (Int32.toNatClampNeg v4)) &&& (31 : Int32)) = (15 : Int32) then
      fL_law_982 N (fL_law_23 N n) M v0 v1 v2 v3 v4
    else
    if ((mI M 0 (Int32.toNatClampNeg v4)) &&& (31 : Int32)) = (16 : Int32) then
      fL_law_1045 N (fL_law_23 N n) M v0 v1 v2 v3 v4
    else
    if ((mI M 0 (Int32.toNatClampNeg v4)) &&& (31 : Int32)) = (17 : Int32) then
      fL_law_1089 N (fL_law_23 N n) M v0 v1 v2 v3 v4
    else
    if ((mI M 0 (Int32.toNatClampNeg v4)) &&& (31 : Int32)) = (18 : Int32) then
      fL_law_1113 N (fL_law_23 N n) M v0 v1 v2 v3 v4
    else
    if ((mI M 0 (Int32.toNatClampNeg v4)) &&& (31 : Int32)) = (19 : Int32) then
      fL_law_1157 N (fL_law_23 N n) M v0 v1 v2 v3 v4
    else
    fL_law_1213 (fL_law_23 N n) M v0 v1 v2 v3 v4
set_option maxHeartbeats 4000000 in
set_option maxRecDepth 100000 in
theorem tL_law_23 (N : Nat) : ∀ (n j : Nat) (M : zM) (v0 : Nat) (v1 : Nat) (v2 : Nat) (v3 : Nat) (v4 : Int32) (r : Int32) (M' : zM), j + n ≤ 513 → fL_law_23 N n M v0 v1 v2 v3 v4 = some (r, M') → zW uL_law none (102 + 2 * j, 514787 + 12 * j) M 23 [(0, .ref v0), (1, .ref v1), (2, .ref v2), (3, .ref v3), (4, .int v4)] [] (zE (oI r) M') := by
  intro n
  induction n with
  | zero => intro j M v0 v1 v2 v3 v4 r M' hj h; cases h
  | succ n ih =>
    intro j M v0 v1 v2 v3 v4 r M' hj0 h
    have hj : j ≤ 512 := by omega
    rw [fL_law_23] at h
    refine zr_iload (q := 25) dL_law_23 rfl 4 rfl ?_
    refine zr_aload_n (q := 26) dL_law_25 rfl rfl 0 rfl ?_
    obtain ⟨c_1, h⟩ := chk_some h
    refine zr_slen (q := 27) dL_law_26 rfl (eq_of_beq c_1) ?_
    refine zr_iconst (q := 28) (v := 4) dL_law_27 rfl (by decide) ?_
    refine zr_isub (q := 29) dL_law_28 rfl ?_
    refine zr_icmp_gt (q := 32) (tgt := 1219) dL_law_29 rfl (by decide) (fun c_2 => ?_) (fun c_2 => ?_)
    · replace h := ite_t c_2 h
      refine zr_iconst (q := 1220) (v := 1) dL_law_1219 rfl (by decide) ?_
      cases h
      exact zr_zreturn dL_law_1220 rfl (Or.inr rfl) ⟨by show 102 + 2 * j ≤ 601024; omega, by show 514787 + 12 * j ≤ 7293034; omega⟩ ⟨rfl, rfl⟩
    · replace h := ite_f c_2 h
      refine zr_aload_n (q := 33) dL_law_32 rfl rfl 0 rfl ?_
      refine zr_iload (q := 35) dL_law_33 rfl 4 rfl ?_
      obtain ⟨c_3, h⟩ := chk_some h
      obtain ⟨c_4, h⟩ := chk_some h
      refine zr_sld (q := 36) dL_law_35 rfl (eq_of_beq c_3) c_4 ?_
      refine zr_bipush (q := 38) (v := 31) dL_law_36 rfl (by decide) ?_
      refine zr_iand (q := 39) dL_law_38 rfl ?_
      by_cases c_5 : ((mI M 0 (Int32.toNatClampNeg v4)) &&& (31 : Int32)) = (0 : Int32)
      · replace h := ite_t c_5 h
        refine zr_nmI c_5 ?_
        refine zr_tableIn (off := 93) (tgt := 132) dL_law_39 (by decide) (by decide) (by decide) (by decide) ?_
        exact zr_pick [0, 1, 2, 3, 4] rfl (tL_law_132 N j hj (fL_law_23 N n) (fun M v0 v1 v2 v3 v4 r M' h => ih (j + 1) M v0 v1 v2 v3 v4 r M' (by omega) h) M v0 v1 v2 v3 v4 _ _ h)
      · replace h := ite_f c_5 h
        by_cases c_6 : ((mI M 0 (Int32.toNatClampNeg v4)) &&& (31 : Int32)) = (1 : Int32)
        · replace h := ite_t c_6 h
          refine zr_nmI c_6 ?_
          refine zr_tableIn (off := 193) (tgt := 232) dL_law_39 (by decide) (by decide) (by decide) (by decide) ?_
          exact zr_pick [0, 1, 2, 3, 4] rfl (tL_law_232 N j hj (fL_law_23 N n) (fun M v0 v1 v2 v3 v4 r M' h => ih (j + 1) M v0 v1 v2 v3 v4 r M' (by omega) h) M v0 v1 v2 v3 v4 _ _ h)
        · replace h := ite_f c_6 h
          by_cases c_7 : ((mI M 0 (Int32.toNatClampNeg v4)) &&& (31 : Int32)) = (2 : Int32)
          · replace h := ite_t c_7 h
            refine zr_nmI c_7 ?_
            refine zr_tableIn (off := 206) (tgt := 245) dL_law_39 (by decide) (by decide) (by decide) (by decide) ?_
            exact zr_pick [0, 1, 2, 3, 4] rfl (tL_law_245 N j hj (fL_law_23 N n) (fun M v0 v1 v2 v3 v4 r M' h => ih (j + 1) M v0 v1 v2 v3 v4 r M' (by omega) h) M v0 v1 v2 v3 v4 _ _ h)
          · replace h := ite_f c_7 h
            by_cases c_8 : ((mI M 0 (Int32.toNatClampNeg v4)) &&& (31 : Int32)) = (3 : Int32)
            · replace h := ite_t c_8 h
              refine zr_nmI c_8 ?_
              refine zr_tableIn (off := 219) (tgt := 258) dL_law_39 (by decide) (by decide) (by decide) (by decide) ?_
              exact zr_pick [0, 1, 2, 3, 4] rfl (tL_law_258 N j hj (fL_law_23 N n) (fun M v0 v1 v2 v3 v4 r M' h => ih (j + 1) M v0 v1 v2 v3 v4 r M' (by omega) h) M v0 v1 v2 v3 v4 _ _ h)
            · replace h := ite_f c_8 h
              by_cases c_9 : ((mI M 0 (Int32.toNatClampNeg v4)) &&& (31 : Int32)) = (4 : Int32)
              · replace h := ite_t c_9 h
                refine zr_nmI c_9 ?_
                refine zr_tableIn (off := 263) (tgt := 302) dL_law_39 (by decide) (by decide) (by decide) (by decide) ?_
                exact zr_pick [0, 1, 2, 3, 4] rfl (tL_law_302 N j hj (fL_law_23 N n) (fun M v0 v1 v2 v3 v4 r M' h => ih (j + 1) M v0 v1 v2 v3 v4 r M' (by omega) h) M v0 v1 v2 v3 v4 _ _ h)
              · replace h := ite_f c_9 h
                by_cases c_10 : ((mI M 0 (Int32.toNatClampNeg v4)) &&& (31 : Int32)) = (5 : Int32)
                · replace h := ite_t c_10 h
                  refine zr_nmI c_10 ?_
                  refine zr_tableIn (off := 314) (tgt := 353) dL_law_39 (by decide) (by decide) (by decide) (by decide) ?_
                  exact zr_pick [0, 1, 2, 3, 4] rfl (tL_law_353 N j hj (fL_law_23 N n) (fun M v0 v1 v2 v3 v4 r M' h => ih (j + 1) M v0 v1 v2 v3 v4 r M' (by omega) h) M v0 v1 v2 v3 v4 _ _ h)
                · replace h := ite_f c_10 h
                  by_cases c_11 : ((mI M 0 (Int32.toNatClampNeg v4)) &&& (31 : Int32)) = (6 : Int32)
                  · replace h := ite_t c_11 h
                    refine zr_nmI c_11 ?_
                    refine zr_tableIn (off := 389) (tgt := 428) dL_law_39 (by decide) (by decide) (by decide) (by decide) ?_
                    exact zr_pick [0, 1, 2, 3, 4] rfl (tL_law_428 N j hj (fL_law_23 N n) (fun M v0 v1 v2 v3 v4 r M' h => ih (j + 1) M v0 v1 v2 v3 v4 r M' (by omega) h) M v0 v1 v2 v3 v4 _ _ h)
                  · replace h := ite_f c_11 h
                    by_cases c_12 : ((mI M 0 (Int32.toNatClampNeg v4)) &&& (31 : Int32)) = (7 : Int32)
                    · replace h := ite_t c_12 h
                      refine zr_nmI c_12 ?_
                      refine zr_tableIn (off := 464) (tgt := 503) dL_law_39 (by decide) (by decide) (by decide) (by decide) ?_
                      exact zr_pick [0, 1, 2, 3, 4] rfl (tL_law_503 N j hj (fL_law_23 N n) (fun M v0 v1 v2 v3 v4 r M' h => ih (j + 1) M v0 v1 v2 v3 v4 r M' (by omega) h) M v0 v1 v2 v3 v4 _ _ h)
                    · replace h := ite_f c_12 h
                      by_cases c_13 : ((mI M 0 (Int32.toNatClampNeg v4)) &&& (31 : Int32)) = (8 : Int32)
                      · replace h := ite_t c_13 h
                        refine zr_nmI c_13 ?_
                        refine zr_tableIn (off := 539) (tgt := 578) dL_law_39 (by decide) (by decide) (by decide) (by decide) ?_
                        exact zr_pick [0, 1, 2, 3, 4] rfl (tL_law_578 N j hj (fL_law_23 N n) (fun M v0 v1 v2 v3 v4 r M' h => ih (j + 1) M v0 v1 v2 v3 v4 r M' (by omega) h) M v0 v1 v2 v3 v4 _ _ h)
                      · replace h := ite_f c_13 h
                        by_cases c_14 : ((mI M 0 (Int32.toNatClampNeg v4)) &&& (31 : Int32)) = (9 : Int32)
                        · replace h := ite_t c_14 h
                          refine zr_nmI c_14 ?_
                          refine zr_tableIn (off := 639) (tgt := 678) dL_law_39 (by decide) (by decide) (by decide) (by decide) ?_
                          exact zr_pick [0, 1, 2, 3, 4] rfl (tL_law_678 N j hj (fL_law_23 N n) (fun M v0 v1 v2 v3 v4 r M' h => ih (j + 1) M v0 v1 v2 v3 v4 r M' (by omega) h) M v0 v1 v2 v3 v4 _ _ h)
                        · replace h := ite_f c_14 h
                          by_cases c_15 : ((mI M 0 (Int32.toNatClampNeg v4)) &&& (31 : Int32)) = (10 : Int32)
                          · replace h := ite_t c_15 h
                            refine zr_nmI c_15 ?_
                            refine zr_tableIn (off := 652) (tgt := 691) dL_law_39 (by decide) (by decide) (by decide) (by decide) ?_
                            exact zr_pick [0, 1, 2, 3, 4] rfl (tL_law_691 N j hj (fL_law_23 N n) (fun M v0 v1 v2 v3 v4 r M' h => ih (j + 1) M v0 v1 v2 v3 v4 r M' (by omega) h) M v0 v1 v2 v3 v4 _ _ h)
                          · replace h := ite_f c_15 h
                            by_cases c_16 : ((mI M 0 (Int32.toNatClampNeg v4)) &&& (31 : Int32)) = (11 : Int32)
                            · replace h := ite_t c_16 h
                              refine zr_nmI c_16 ?_
                              refine zr_tableIn (off := 703) (tgt := 742) dL_law_39 (by decide) (by decide) (by decide) (by decide) ?_
                              exact zr_pick [0, 1, 2, 3, 4] rfl (tL_law_742 N j hj (fL_law_23 N n) (fun M v0 v1 v2 v3 v4 r M' h => ih (j + 1) M v0 v1 v2 v3 v4 r M' (by omega) h) M v0 v1 v2 v3 v4 _ _ h)
                            · replace h := ite_f c_16 h
                              by_cases c_17 : ((mI M 0 (Int32.toNatClampNeg v4)) &&& (31 : Int32)) = (12 : Int32)
                              · replace h := ite_t c_17 h
                                refine zr_nmI c_17 ?_
                                refine zr_tableIn (off := 747) (tgt := 786) dL_law_39 (by decide) (by decide) (by decide) (by decide) ?_
                                exact zr_pick [0, 1, 2, 3, 4] rfl (tL_law_786 N j hj (fL_law_23 N n) (fun M v0 v1 v2 v3 v4 r M' h => ih (j + 1) M v0 v1 v2 v3 v4 r M' (by omega) h) M v0 v1 v2 v3 v4 _ _ h)
                              · replace h := ite_f c_17 h
                                by_cases c_18 : ((mI M 0 (Int32.toNatClampNeg v4)) &&& (31 : Int32)) = (13 : Int32)
                                · replace h := ite_t c_18 h
                                  refine zr_nmI c_18 ?_
                                  refine zr_tableIn (off := 831) (tgt := 870) dL_law_39 (by decide) (by decide) (by decide) (by decide) ?_
                                  exact zr_pick [0, 1, 2, 3, 4] rfl (tL_law_870 N j hj (fL_law_23 N n) (fun M v0 v1 v2 v3 v4 r M' h => ih (j + 1) M v0 v1 v2 v3 v4 r M' (by omega) h) M v0 v1 v2 v3 v4 _ _ h)
                                · replace h := ite_f c_18 h
                                  by_cases c_19 : ((mI M 0 (Int32.toNatClampNeg v4)) &&& (31 : Int32)) = (14 : Int32)
                                  · replace h := ite_t c_19 h
                                    refine zr_nmI c_19 ?_
                                    refine zr_tableIn (off := 875) (tgt := 914) dL_law_39 (by decide) (by decide) (by decide) (by decide) ?_
                                    exact zr_pick [0, 1, 2, 3, 4] rfl (tL_law_914 N j hj (fL_law_23 N n) (fun M v0 v1 v2 v3 v4 r M' h => ih (j + 1) M v0 v1 v2 v3 v4 r M' (by omega) h) M v0 v1 v2 v3 v4 _ _ h)
                                  · replace h := ite_f c_19 h
                                    by_cases c_20 : ((mI M 0 (Int32.toNatClampNeg v4)) &&& (31 : Int32)) = (15 : Int32)
                                    · replace h := ite_t c_20 h
                                      refine zr_nmI c_20 ?_
                                      refine zr_tableIn (off := 943) (tgt := 982) dL_law_39 (by decide) (by decide) (by decide) (by decide) ?_
                                      exact zr_pick [0, 1, 2, 3, 4] rfl (tL_law_982 N j hj (fL_law_23 N n) (fun M v0 v1 v2 v3 v4 r M' h => ih (j + 1) M v0 v1 v2 v3 v4 r M' (by omega) h) M v0 v1 v2 v3 v4 _ _ h)
                                    · replace h := ite_f c_20 h
                                      by_cases c_21 : ((mI M 0 (Int32.toNatClampNeg v4)) &&& (31 : Int32)) = (16 : Int32)
                                      · replace h := ite_t c_21 h
                                        refine zr_nmI c_21 ?_
                                        refine zr_tableIn (off := 1006) (tgt := 1045) dL_law_39 (by decide) (by decide) (by decide) (by decide) ?_
                                        exact zr_pick [0, 1, 2, 3, 4] rfl (tL_law_1045 N j hj (fL_law_23 N n) (fun M v0 v1 v2 v3 v4 r M' h => ih (j + 1) M v0 v1 v2 v3 v4 r M' (by omega) h) M v0 v1 v2 v3 v4 _ _ h)
                                      · replace h := ite_f c_21 h
                                        by_cases c_22 : ((mI M 0 (Int32.toNatClampNeg v4)) &&& (31 : Int32)) = (17 : Int32)
                                        · replace h := ite_t c_22 h
                                          refine zr_nmI c_22 ?_
                                          refine zr_tableIn (off := 1050) (tgt := 1089) dL_law_39 (by decide) (by decide) (by decide) (by decide) ?_
                                          exact zr_pick [0, 1, 2, 3, 4] rfl (tL_law_1089 N j hj (fL_law_23 N n) (fun M v0 v1 v2 v3 v4 r M' h => ih (j + 1) M v0 v1 v2 v3 v4 r M' (by omega) h) M v0 v1 v2 v3 v4 _ _ h)
                                        · replace h := ite_f c_22 h
                                          by_cases c_23 : ((mI M 0 (Int32.toNatClampNeg v4)) &&& (31 : Int32)) = (18 : Int32)
                                          · replace h := ite_t c_23 h
                                            refine zr_nmI c_23 ?_
                                            refine zr_tableIn (off := 1074) (tgt := 1113) dL_law_39 (by decide) (by decide) (by decide) (by decide) ?_
                                            exact zr_pick [0, 1, 2, 3, 4] rfl (tL_law_1113 N j hj (fL_law_23 N n) (fun M v0 v1 v2 v3 v4 r M' h => ih (j + 1) M v0 v1 v2 v3 v4 r M' (by omega) h) M v0 v1 v2 v3 v4 _ _ h)
                                          · replace h := ite_f c_23 h
                                            by_cases c_24 : ((mI M 0 (Int32.toNatClampNeg v4)) &&& (31 : Int32)) = (19 : Int32)
                                            · replace h := ite_t c_24 h
                                              refine zr_nmI c_24 ?_
                                              refine zr_tableIn (off := 1118) (tgt := 1157) dL_law_39 (by decide) (by decide) (by decide) (by decide) ?_
                                              exact zr_pick [0, 1, 2, 3, 4] rfl (tL_law_1157 N j hj (fL_law_23 N n) (fun M v0 v1 v2 v3 v4 r M' h => ih (j + 1) M v0 v1 v2 v3 v4 r M' (by omega) h) M v0 v1 v2 v3 v4 _ _ h)
                                            · replace h := ite_f c_24 h
                                              refine zr_tableOut (tgt := 1213) dL_law_39 (zout20 c_5 c_6 c_7 c_8 c_9 c_10 c_11 c_12 c_13 c_14 c_15 c_16 c_17 c_18 c_19 c_20 c_21 c_22 c_23 c_24) (by decide) ?_
                                              refine zr_widen (u' := (102 + 2 * (j + 1), 514787 + 12 * (j + 1))) (by show 102 + 2 * j ≤ 102 + 2 * (j + 1); omega) (by show 514787 + 12 * j ≤ 514787 + 12 * (j + 1); omega) ?_
                                              exact zr_pick [0, 1, 2, 3, 4] rfl (tL_law_1213 j (fL_law_23 N n) (fun M v0 v1 v2 v3 v4 r M' h => ih (j + 1) M v0 v1 v2 v3 v4 r M' (by omega) h) M v0 v1 v2 v3 v4 _ _ h)
def fL_law (N : Nat) (M : zM) : Option (Int32 × zM) :=
  app (mNew M 9 0) fun M_1 : zM =>
  app M.1.length fun a_3 : Nat =>
  bnd2 (fX9_init N M_1 a_3) fun _ M_6 =>
  app (mNew M_6 10 0) fun M_9 : zM =>
  app M_6.1.length fun a_11 : Nat =>
  bnd2 (fX10_init N M_9 a_11) fun _ M_14 =>
  app (mNew M_14 12 1) fun M_17 : zM =>
  app M_14.1.length fun a_19 : Nat =>
  fL_law_23 N 513 M_17 0 a_3 a_11 a_19 (0 : Int32)
set_option maxHeartbeats 4000000 in
set_option maxRecDepth 100000 in
theorem tL_law (N : Nat) (M : zM) (r : Int32) (M' : zM) (h : fL_law N M = some (r, M')) : zW uL_law (some M.1.length) (0, 0) M 0 [(0, .ref 0)] [] (zE (oI r) M') := by
  have hl0 : M.1.length = M.1.length + 0 := rfl
  unfold fL_law at h
  obtain ⟨M_1, e_2, h⟩ := app_some h
  obtain ⟨a_3, e_4, h⟩ := app_some h
  refine zr_new (q := 3) (ci := 9) (u' := (1, 8)) rfl hl0 dL_law_0 rfl rfl (by decide) rfl zbX9 tyX9_ok (by decide) ⟨zb_827, zb_828, zb_25⟩ ⟨by decide, by decide⟩ rfl ?_
  refine zr_mem e_2 ?_
  have hl_5 : M_1.1.length = M.1.length + 1 := by rw [← e_2, mNew_len, hl0]
  refine zr_nmA e_4 ?_
  refine zr_dup (q := 4) dL_law_3 rfl rfl ?_
  obtain ⟨_, M_6, hc_7, h⟩ := bnd2_some h
  refine zr_callI (μ' := uX9_init) (q := 7) (n := 0) (As := []) (u' := (67, 41184)) rfl hl_5 (tX9_init N M_1 a_3 _ hc_7) dL_law_4 rfl rfl ⟨zb_829, zb_830, zb_831, zb_25⟩ rfl rfl zd_X9_init ⟨by decide, by decide⟩ ⟨by decide, by decide⟩ rfl rfl (Nat.le_of_ble_eq_true rfl) rfl ?_
  have hl_8 : M_6.1.length = M.1.length + 67 := by rw [lenX9_init N M_1 a_3 _ hc_7, hl_5]
  refine zr_astore_n (q := 8) (L' := [(1, .ref a_3), (0, .ref 0)]) dL_law_7 rfl rfl (by decide) rfl ?_
  obtain ⟨M_9, e_10, h⟩ := app_some h
  obtain ⟨a_11, e_12, h⟩ := app_some h
  refine zr_new (q := 11) (ci := 10) (u' := (68, 41227)) rfl hl_8 dL_law_8 rfl rfl (by decide) rfl zbX10 tyX10_ok (by decide) ⟨zb_832, zb_833, zb_389⟩ ⟨by decide, by decide⟩ rfl ?_
  refine zr_mem e_10 ?_
  have hl_13 : M_9.1.length = M.1.length + 68 := by rw [← e_10, mNew_len, hl_8]
  refine zr_nmA e_12 ?_
  refine zr_dup (q := 12) dL_law_11 rfl rfl ?_
  obtain ⟨_, M_14, hc_15, h⟩ := bnd2_some h
  refine zr_callI (μ' := uX10_init) (q := 15) (n := 0) (As := []) (u' := (101, 514786)) rfl hl_13 (tX10_init N M_9 a_11 _ hc_15) dL_law_12 rfl rfl ⟨zb_834, zb_835, zb_836, zb_389⟩ rfl rfl zd_X10_init ⟨by decide, by decide⟩ ⟨by decide, by decide⟩ rfl rfl (Nat.le_of_ble_eq_true rfl) rfl ?_
  have hl_16 : M_14.1.length = M.1.length + 101 := by rw [lenX10_init N M_9 a_11 _ hc_15, hl_13]
  refine zr_astore_n (q := 16) (L' := [(2, .ref a_11), (1, .ref a_3), (0, .ref 0)]) dL_law_15 rfl rfl (by decide) rfl ?_
  refine zr_iconst (q := 17) (v := 1) dL_law_16 rfl (by decide) ?_
  obtain ⟨M_17, e_18, h⟩ := app_some h
  obtain ⟨a_19, e_20, h⟩ := app_some h
  refine zr_newL (q := 19) (N := 1) (u' := (102, 514787)) rfl hl_16 dL_law_17 rfl zb_561 (by decide) (by decide) (by decide) ⟨by decide, by decide⟩ rfl ?_
  refine zr_mem e_18 ?_
  have hl_21 : M_17.1.length = M.1.length + 102 := by rw [← e_18, mNew_len, hl_16]
  refine zr_nmA e_20 ?_
  refine zr_astore_n (q := 20) (L' := [(3, .ref a_19), (2, .ref a_11), (1, .ref a_3), (0, .ref 0)]) dL_law_19 rfl rfl (by decide) rfl ?_
  refine zr_iconst (q := 21) (v := 0) dL_law_20 rfl (by decide) ?_
  refine zr_istore (q := 23) (L' := [(4, .int (0 : Int32)), (3, .ref a_19), (2, .ref a_11), (1, .ref a_3), (0, .ref 0)]) dL_law_21 rfl (by decide) rfl ?_
  refine zr_none ?_
  exact zr_pick [4, 3, 2, 1, 0] rfl (tL_law_23 N 513 0 M_17 0 a_3 a_11 a_19 (0 : Int32) _ _ (by omega) h)
