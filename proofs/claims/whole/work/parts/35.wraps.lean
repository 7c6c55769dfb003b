/-! the law's wrappers, by program: wip/wraps.py -/
set_option maxRecDepth 100000 in
theorem zb_607 : Cond.code yX9_type cX9_type 4 (some .int) ∈ zBig := zb_of (by decide +kernel) (by decide +kernel)
set_option maxRecDepth 100000 in
theorem zb_608 : Cond.methodLink RL 7 yX9_type ∈ zBig := zb_of (by decide +kernel) (by decide +kernel)
set_option maxRecDepth 100000 in
theorem zb_609 : Cond.instanceMethod yX9_type ∈ zBig := zb_of (by decide +kernel) (by decide +kernel)
set_option maxRecDepth 100000 in
theorem zb_610 : Cond.selects RX9 yX9_type yX9_type ∈ zBig := zb_of (by decide +kernel) (by decide +kernel)
set_option maxRecDepth 100000 in
theorem zb_611 : Cond.classLink RL 13 "java/lang/IllegalArgumentException" ∈ zBig := zb_of (by decide +kernel) (by decide +kernel)
set_option maxRecDepth 100000 in
theorem zb_612 : Cond.classLink RL 15 "java/lang/IllegalStateException" ∈ zBig := zb_of (by decide +kernel) (by decide +kernel)
set_option maxRecDepth 100000 in
theorem zb_613 : Cond.code yX9_positions cX9_positions 1 (some .int) ∈ zBig := zb_of (by decide +kernel) (by decide +kernel)
set_option maxRecDepth 100000 in
theorem zb_614 : Cond.methodLink RL 17 yX9_positions ∈ zBig := zb_of (by decide +kernel) (by decide +kernel)
set_option maxRecDepth 100000 in
theorem zb_615 : Cond.instanceMethod yX9_positions ∈ zBig := zb_of (by decide +kernel) (by decide +kernel)
set_option maxRecDepth 100000 in
theorem zb_616 : Cond.selects RX9 yX9_positions yX9_positions ∈ zBig := zb_of (by decide +kernel) (by decide +kernel)
set_option maxRecDepth 100000 in
theorem zb_617 : Cond.code yX9_empty cX9_empty 1 (some .boolean) ∈ zBig := zb_of (by decide +kernel) (by decide +kernel)
set_option maxRecDepth 100000 in
theorem zb_618 : Cond.methodLink RL 21 yX9_empty ∈ zBig := zb_of (by decide +kernel) (by decide +kernel)
set_option maxRecDepth 100000 in
theorem zb_619 : Cond.instanceMethod yX9_empty ∈ zBig := zb_of (by decide +kernel) (by decide +kernel)
set_option maxRecDepth 100000 in
theorem zb_620 : Cond.selects RX9 yX9_empty yX9_empty ∈ zBig := zb_of (by decide +kernel) (by decide +kernel)
set_option maxRecDepth 100000 in
theorem zb_621 : Cond.code yX9_is cX9_is 4 (some .boolean) ∈ zBig := zb_of (by decide +kernel) (by decide +kernel)
set_option maxRecDepth 100000 in
theorem zb_622 : Cond.methodLink RL 25 yX9_is ∈ zBig := zb_of (by decide +kernel) (by decide +kernel)
set_option maxRecDepth 100000 in
theorem zb_623 : Cond.instanceMethod yX9_is ∈ zBig := zb_of (by decide +kernel) (by decide +kernel)
set_option maxRecDepth 100000 in
theorem zb_624 : Cond.selects RX9 yX9_is yX9_is ∈ zBig := zb_of (by decide +kernel) (by decide +kernel)
set_option maxRecDepth 100000 in
theorem zb_625 : Cond.classLink RL 29 "java/lang/IndexOutOfBoundsException" ∈ zBig := zb_of (by decide +kernel) (by decide +kernel)
set_option maxRecDepth 100000 in
theorem zb_626 : Cond.code yX9_follows cX9_follows 4 (some .boolean) ∈ zBig := zb_of (by decide +kernel) (by decide +kernel)
set_option maxRecDepth 100000 in
theorem zb_627 : Cond.methodLink RL 31 yX9_follows ∈ zBig := zb_of (by decide +kernel) (by decide +kernel)
set_option maxRecDepth 100000 in
theorem zb_628 : Cond.instanceMethod yX9_follows ∈ zBig := zb_of (by decide +kernel) (by decide +kernel)
set_option maxRecDepth 100000 in
theorem zb_629 : Cond.selects RX9 yX9_follows yX9_follows ∈ zBig := zb_of (by decide +kernel) (by decide +kernel)
set_option maxRecDepth 100000 in
theorem zb_630 : Cond.code yX9_has cX9_has 4 (some .boolean) ∈ zBig := zb_of (by decide +kernel) (by decide +kernel)
set_option maxRecDepth 100000 in
theorem zb_631 : Cond.methodLink RL 34 yX9_has ∈ zBig := zb_of (by decide +kernel) (by decide +kernel)
set_option maxRecDepth 100000 in
theorem zb_632 : Cond.instanceMethod yX9_has ∈ zBig := zb_of (by decide +kernel) (by decide +kernel)
set_option maxRecDepth 100000 in
theorem zb_633 : Cond.selects RX9 yX9_has yX9_has ∈ zBig := zb_of (by decide +kernel) (by decide +kernel)
set_option maxRecDepth 100000 in
theorem zb_634 : Cond.code yX9_feed cX9_feed 4 (some .int) ∈ zBig := zb_of (by decide +kernel) (by decide +kernel)
set_option maxRecDepth 100000 in
theorem zb_635 : Cond.methodLink RL 37 yX9_feed ∈ zBig := zb_of (by decide +kernel) (by decide +kernel)
set_option maxRecDepth 100000 in
theorem zb_636 : Cond.instanceMethod yX9_feed ∈ zBig := zb_of (by decide +kernel) (by decide +kernel)
set_option maxRecDepth 100000 in
theorem zb_637 : Cond.selects RX9 yX9_feed yX9_feed ∈ zBig := zb_of (by decide +kernel) (by decide +kernel)
set_option maxRecDepth 100000 in
theorem zb_638 : Cond.code yX9_whole cX9_whole 1 (some .boolean) ∈ zBig := zb_of (by decide +kernel) (by decide +kernel)
set_option maxRecDepth 100000 in
theorem zb_639 : Cond.methodLink RL 40 yX9_whole ∈ zBig := zb_of (by decide +kernel) (by decide +kernel)
set_option maxRecDepth 100000 in
theorem zb_640 : Cond.instanceMethod yX9_whole ∈ zBig := zb_of (by decide +kernel) (by decide +kernel)
set_option maxRecDepth 100000 in
theorem zb_641 : Cond.selects RX9 yX9_whole yX9_whole ∈ zBig := zb_of (by decide +kernel) (by decide +kernel)
set_option maxRecDepth 100000 in
theorem zb_642 : Cond.code yX9_finds cX9_finds 1 (some .int) ∈ zBig := zb_of (by decide +kernel) (by decide +kernel)
set_option maxRecDepth 100000 in
theorem zb_643 : Cond.methodLink RL 43 yX9_finds ∈ zBig := zb_of (by decide +kernel) (by decide +kernel)
set_option maxRecDepth 100000 in
theorem zb_644 : Cond.instanceMethod yX9_finds ∈ zBig := zb_of (by decide +kernel) (by decide +kernel)
set_option maxRecDepth 100000 in
theorem zb_645 : Cond.selects RX9 yX9_finds yX9_finds ∈ zBig := zb_of (by decide +kernel) (by decide +kernel)
set_option maxRecDepth 100000 in
theorem zb_646 : Cond.code yX9_find cX9_find 3 (some .int) ∈ zBig := zb_of (by decide +kernel) (by decide +kernel)
set_option maxRecDepth 100000 in
theorem zb_647 : Cond.methodLink RL 46 yX9_find ∈ zBig := zb_of (by decide +kernel) (by decide +kernel)
set_option maxRecDepth 100000 in
theorem zb_648 : Cond.instanceMethod yX9_find ∈ zBig := zb_of (by decide +kernel) (by decide +kernel)
set_option maxRecDepth 100000 in
theorem zb_649 : Cond.selects RX9 yX9_find yX9_find ∈ zBig := zb_of (by decide +kernel) (by decide +kernel)
set_option maxRecDepth 100000 in
theorem zb_650 : Cond.code yX9_states cX9_states 1 (some .int) ∈ zBig := zb_of (by decide +kernel) (by decide +kernel)
set_option maxRecDepth 100000 in
theorem zb_651 : Cond.methodLink RL 50 yX9_states ∈ zBig := zb_of (by decide +kernel) (by decide +kernel)
set_option maxRecDepth 100000 in
theorem zb_652 : Cond.instanceMethod yX9_states ∈ zBig := zb_of (by decide +kernel) (by decide +kernel)
set_option maxRecDepth 100000 in
theorem zb_653 : Cond.selects RX9 yX9_states yX9_states ∈ zBig := zb_of (by decide +kernel) (by decide +kernel)
set_option maxRecDepth 100000 in
theorem zb_654 : Cond.code yX9_next cX9_next 4 (some .int) ∈ zBig := zb_of (by decide +kernel) (by decide +kernel)
set_option maxRecDepth 100000 in
theorem zb_655 : Cond.methodLink RL 53 yX9_next ∈ zBig := zb_of (by decide +kernel) (by decide +kernel)
set_option maxRecDepth 100000 in
theorem zb_656 : Cond.instanceMethod yX9_next ∈ zBig := zb_of (by decide +kernel) (by decide +kernel)
set_option maxRecDepth 100000 in
theorem zb_657 : Cond.selects RX9 yX9_next yX9_next ∈ zBig := zb_of (by decide +kernel) (by decide +kernel)
set_option maxRecDepth 100000 in
theorem zb_658 : Cond.code yX9_good cX9_good 3 (some .boolean) ∈ zBig := zb_of (by decide +kernel) (by decide +kernel)
set_option maxRecDepth 100000 in
theorem zb_659 : Cond.methodLink RL 57 yX9_good ∈ zBig := zb_of (by decide +kernel) (by decide +kernel)
set_option maxRecDepth 100000 in
theorem zb_660 : Cond.instanceMethod yX9_good ∈ zBig := zb_of (by decide +kernel) (by decide +kernel)
set_option maxRecDepth 100000 in
theorem zb_661 : Cond.selects RX9 yX9_good yX9_good ∈ zBig := zb_of (by decide +kernel) (by decide +kernel)
set_option maxRecDepth 100000 in
theorem zb_662 : Cond.code yX9_classes cX9_classes 2 (some .int) ∈ zBig := zb_of (by decide +kernel) (by decide +kernel)
set_option maxRecDepth 100000 in
theorem zb_663 : Cond.methodLink RL 61 yX9_classes ∈ zBig := zb_of (by decide +kernel) (by decide +kernel)
set_option maxRecDepth 100000 in
theorem zb_664 : Cond.instanceMethod yX9_classes ∈ zBig := zb_of (by decide +kernel) (by decide +kernel)
set_option maxRecDepth 100000 in
theorem zb_665 : Cond.selects RX9 yX9_classes yX9_classes ∈ zBig := zb_of (by decide +kernel) (by decide +kernel)
set_option maxRecDepth 100000 in
theorem zb_666 : Cond.code yX9_keep cX9_keep 1 none ∈ zBig := zb_of (by decide +kernel) (by decide +kernel)
set_option maxRecDepth 100000 in
theorem zb_667 : Cond.methodLink RL 64 yX9_keep ∈ zBig := zb_of (by decide +kernel) (by decide +kernel)
set_option maxRecDepth 100000 in
theorem zb_668 : Cond.instanceMethod yX9_keep ∈ zBig := zb_of (by decide +kernel) (by decide +kernel)
set_option maxRecDepth 100000 in
theorem zb_669 : Cond.selects RX9 yX9_keep yX9_keep ∈ zBig := zb_of (by decide +kernel) (by decide +kernel)
set_option maxRecDepth 100000 in
theorem zb_670 : Cond.code yX9_differ cX9_differ 2 (some .int) ∈ zBig := zb_of (by decide +kernel) (by decide +kernel)
set_option maxRecDepth 100000 in
theorem zb_671 : Cond.methodLink RL 67 yX9_differ ∈ zBig := zb_of (by decide +kernel) (by decide +kernel)
set_option maxRecDepth 100000 in
theorem zb_672 : Cond.instanceMethod yX9_differ ∈ zBig := zb_of (by decide +kernel) (by decide +kernel)
set_option maxRecDepth 100000 in
theorem zb_673 : Cond.selects RX9 yX9_differ yX9_differ ∈ zBig := zb_of (by decide +kernel) (by decide +kernel)
set_option maxRecDepth 100000 in
theorem zb_674 : Cond.code yX9_letter cX9_letter 2 (some .int) ∈ zBig := zb_of (by decide +kernel) (by decide +kernel)
set_option maxRecDepth 100000 in
theorem zb_675 : Cond.methodLink RL 70 yX9_letter ∈ zBig := zb_of (by decide +kernel) (by decide +kernel)
set_option maxRecDepth 100000 in
theorem zb_676 : Cond.instanceMethod yX9_letter ∈ zBig := zb_of (by decide +kernel) (by decide +kernel)
set_option maxRecDepth 100000 in
theorem zb_677 : Cond.selects RX9 yX9_letter yX9_letter ∈ zBig := zb_of (by decide +kernel) (by decide +kernel)
def uL_type : zMu := (yL_type, cL_type, 6, (some .int), { frames := 7, cells := 1, slots := 6, locals := 104 }, [(0, 11, 14, 13), (0, 11, 18, 15)])
theorem zd_L_type : (uY uL_type).cls ≠ "java/lang/invoke/MethodHandle" ∧ (uY uL_type).cls ≠ "java/lang/invoke/VarHandle" ∧ (parseMethodDescriptor (uY uL_type).desc).map (fun d => d.parameters.length) = some 4 := by decide +kernel
def fL_type (n : Nat) (M : zM) (v0 : Nat) (v1 : Int64) (v3 : Int32) (v4 : Nat) : Option (Int32 × zM) :=
  chk (mK M v0 == 9) <|
  bndC (fX9_type n M v0 v1 v3) (fun r_1 M_2 =>
    chk (mK M_2 v4 == 12) <|
    chk (zin (0 : Int32) (mN M_2 v4)) <|
    app (wL M_2 v4 (Int32.toNatClampNeg (0 : Int32)) (Int32.toInt64 r_1)) fun M_8 : zM =>
    some ((0 : Int32), M_8)) (fun E_4 M_2 => if E_4 = "java/lang/IllegalArgumentException" then some ((1 : Int32), M_2) else if E_4 = "java/lang/IllegalStateException" then some ((2 : Int32), M_2) else none)
set_option maxHeartbeats 4000000 in
theorem tL_type (n : Nat) (M : zM) (v0 : Nat) (v1 : Int64) (v3 : Int32) (v4 : Nat) (r : Int32) (M' : zM) (h : fL_type n M v0 v1 v3 v4 = some (r, M')) : zMet uL_type false M [.ref v0, .long v1, .int v3, .ref v4] (zE (oI r) M') := by
  refine zMet_ofH (L := [(0, .ref v0), (1, .long v1), (3, .int v3), (4, .ref v4)]) (by decide +kernel) rfl rfl (Nat.le_of_ble_eq_true rfl) ?_
  show zW uL_type none (0, 0) M 0 [(0, .ref v0), (1, .long v1), (3, .int v3), (4, .ref v4)] [] (zE (oI r) M')
  unfold fL_type at h
  refine zr_aload (q := 2) dL_type_0 rfl 3 rfl ?_
  refine zr_iconst (q := 3) (v := 0) dL_type_2 rfl (by decide) ?_
  refine zr_aload_n (q := 4) dL_type_3 rfl rfl 0 rfl ?_
  refine zr_lload_n (q := 5) dL_type_4 rfl rfl 1 rfl ?_
  refine zr_iload_n (q := 6) dL_type_5 rfl rfl 2 rfl ?_
  obtain ⟨c_5, h⟩ := chk_some h
  rcases bndC_some h with ⟨r_1, M_2, hc_3, h⟩ | ⟨E_4, M_2, hc_3, h⟩
  · refine zr_callG (μ' := uX9_type) (n := 2) (ci := 9) (As := [.long v1, .int v3]) (st := [.int (0 : Int32), .ref v4]) (tX9_type n M v0 v1 v3 _ _ hc_3) dL_type_6 rfl ⟨zb_607, zb_608, zb_609, zb_610, zb_25⟩ zd_X9_type ⟨by decide, by decide⟩ ⟨by decide, by decide⟩ (eq_of_beq c_5) (by decide) rfl rfl rfl (Nat.le_of_ble_eq_true rfl) (fun E9 M9 e9 => by cases e9.1) (fun r9 M9 e9 => ?_)
    obtain ⟨e1, e2⟩ := e9
    replace e2 := e2.symm
    cases e1; subst e2
    show zW uL_type none (1, 6) M_2 9 [(0, .ref v0), (1, .long v1), (3, .int v3), (4, .ref v4)] [.int r_1, .int (0 : Int32), .ref v4] (zE (oI r) M')
    refine zr_i2l (q := 10) dL_type_9 rfl ?_
    obtain ⟨c_6, h⟩ := chk_some h
    obtain ⟨c_7, h⟩ := chk_some h
    obtain ⟨M_8, e_9, h⟩ := app_some h
    refine zr_last (q := 11) dL_type_10 rfl (eq_of_beq c_6) c_7 ?_
    refine zr_mem e_9 ?_
    refine zr_goto (q := 22) dL_type_11 (by decide) ?_
    refine zr_iconst (q := 23) (v := 0) dL_type_22 rfl (by decide) ?_
    cases h
    exact zr_ireturn dL_type_23 rfl ⟨by decide, by decide⟩ ⟨rfl, rfl⟩
  · by_cases c_11 : E_4 = "java/lang/IllegalArgumentException"
    · replace h := ite_t c_11 h
      subst c_11
      cases h
      exact zr_callG (μ' := uX9_type) (n := 2) (ci := 9) (As := [.long v1, .int v3]) (st := [.int (0 : Int32), .ref v4]) (tX9_type n M v0 v1 v3 _ _ hc_3) dL_type_6 rfl ⟨zb_607, zb_608, zb_609, zb_610, zb_25⟩ zd_X9_type ⟨by decide, by decide⟩ ⟨by decide, by decide⟩ (eq_of_beq c_5) (by decide) rfl rfl rfl (Nat.le_of_ble_eq_true rfl) (fun E9 M9 e9 => by
        obtain ⟨e1, e2⟩ := e9
        cases e1; subst e2
        exact zcaught (u := (1, 6)) (pre := []) (x := (0, 11, 14, 13)) (suf := [(0, 11, 18, 15)]) (i := 5) (v := 1) rfl (fun _ h9 => by cases h9) ⟨rfl, rfl⟩ (by decide) zb_611 (by decide) (Or.inl ⟨dL_type_14, rfl⟩) (by decide) dL_type_16 (by decide) rfl dL_type_17 rfl ⟨by decide, by decide⟩ ⟨rfl, rfl⟩) (fun r9 M9 e9 => by cases e9.1)
    · replace h := ite_f c_11 h
      by_cases c_10 : E_4 = "java/lang/IllegalStateException"
      · replace h := ite_t c_10 h
        subst c_10
        cases h
        exact zr_callG (μ' := uX9_type) (n := 2) (ci := 9) (As := [.long v1, .int v3]) (st := [.int (0 : Int32), .ref v4]) (tX9_type n M v0 v1 v3 _ _ hc_3) dL_type_6 rfl ⟨zb_607, zb_608, zb_609, zb_610, zb_25⟩ zd_X9_type ⟨by decide, by decide⟩ ⟨by decide, by decide⟩ (eq_of_beq c_5) (by decide) rfl rfl rfl (Nat.le_of_ble_eq_true rfl) (fun E9 M9 e9 => by
          obtain ⟨e1, e2⟩ := e9
          cases e1; subst e2
          exact zcaught (u := (1, 6)) (pre := [(0, 11, 14, 13)]) (x := (0, 11, 18, 15)) (suf := []) (i := 5) (v := 2) rfl (List.forall_mem_cons.mpr ⟨⟨by decide, "java/lang/IllegalArgumentException", zb_611, by decide⟩, fun _ h9 => by cases h9⟩) ⟨rfl, rfl⟩ (by decide) zb_612 (by decide) (Or.inl ⟨dL_type_18, rfl⟩) (by decide) dL_type_20 (by decide) rfl dL_type_21 rfl ⟨by decide, by decide⟩ ⟨rfl, rfl⟩) (fun r9 M9 e9 => by cases e9.1)
      · replace h := ite_f c_10 h
        cases h

def uL_positions : zMu := (yL_positions, cL_positions, 3, (some .int), { frames := 8, cells := 1, slots := 6, locals := 121 }, [(0, 8, 11, 15)])
theorem zd_L_positions : (uY uL_positions).cls ≠ "java/lang/invoke/MethodHandle" ∧ (uY uL_positions).cls ≠ "java/lang/invoke/VarHandle" ∧ (parseMethodDescriptor (uY uL_positions).desc).map (fun d => d.parameters.length) = some 2 := by decide +kernel
def fL_positions (n : Nat) (M : zM) (v0 : Nat) (v1 : Nat) : Option (Int32 × zM) :=
  chk (mK M v0 == 9) <|
  bndC (fX9_positions n M v0) (fun r_1 M_2 =>
    chk (mK M_2 v1 == 12) <|
    chk (zin (0 : Int32) (mN M_2 v1)) <|
    app (wL M_2 v1 (Int32.toNatClampNeg (0 : Int32)) (Int32.toInt64 r_1)) fun M_8 : zM =>
    some ((0 : Int32), M_8)) (fun E_4 M_2 => if E_4 = "java/lang/IllegalStateException" then some ((1 : Int32), M_2) else none)
set_option maxHeartbeats 4000000 in
theorem tL_positions (n : Nat) (M : zM) (v0 : Nat) (v1 : Nat) (r : Int32) (M' : zM) (h : fL_positions n M v0 v1 = some (r, M')) : zMet uL_positions false M [.ref v0, .ref v1] (zE (oI r) M') := by
  refine zMet_ofH (L := [(0, .ref v0), (1, .ref v1)]) (by decide +kernel) rfl rfl (Nat.le_of_ble_eq_true rfl) ?_
  show zW uL_positions none (0, 0) M 0 [(0, .ref v0), (1, .ref v1)] [] (zE (oI r) M')
  unfold fL_positions at h
  refine zr_aload_n (q := 1) dL_positions_0 rfl rfl 1 rfl ?_
  refine zr_iconst (q := 2) (v := 0) dL_positions_1 rfl (by decide) ?_
  refine zr_aload_n (q := 3) dL_positions_2 rfl rfl 0 rfl ?_
  obtain ⟨c_5, h⟩ := chk_some h
  rcases bndC_some h with ⟨r_1, M_2, hc_3, h⟩ | ⟨E_4, M_2, hc_3, h⟩
  · refine zr_callG (μ' := uX9_positions) (n := 0) (ci := 9) (As := []) (st := [.int (0 : Int32), .ref v1]) (tX9_positions n M v0 _ _ hc_3) dL_positions_3 rfl ⟨zb_613, zb_614, zb_615, zb_616, zb_25⟩ zd_X9_positions ⟨by decide, by decide⟩ ⟨by decide, by decide⟩ (eq_of_beq c_5) (by decide) rfl rfl rfl (Nat.le_of_ble_eq_true rfl) (fun E9 M9 e9 => by cases e9.1) (fun r9 M9 e9 => ?_)
    obtain ⟨e1, e2⟩ := e9
    replace e2 := e2.symm
    cases e1; subst e2
    show zW uL_positions none (1, 6) M_2 6 [(0, .ref v0), (1, .ref v1)] [.int r_1, .int (0 : Int32), .ref v1] (zE (oI r) M')
    refine zr_i2l (q := 7) dL_positions_6 rfl ?_
    obtain ⟨c_6, h⟩ := chk_some h
    obtain ⟨c_7, h⟩ := chk_some h
    obtain ⟨M_8, e_9, h⟩ := app_some h
    refine zr_last (q := 8) dL_positions_7 rfl (eq_of_beq c_6) c_7 ?_
    refine zr_mem e_9 ?_
    refine zr_goto (q := 14) dL_positions_8 (by decide) ?_
    refine zr_iconst (q := 15) (v := 0) dL_positions_14 rfl (by decide) ?_
    cases h
    exact zr_ireturn dL_positions_15 rfl ⟨by decide, by decide⟩ ⟨rfl, rfl⟩
  · by_cases c_10 : E_4 = "java/lang/IllegalStateException"
    · replace h := ite_t c_10 h
      subst c_10
      cases h
      exact zr_callG (μ' := uX9_positions) (n := 0) (ci := 9) (As := []) (st := [.int (0 : Int32), .ref v1]) (tX9_positions n M v0 _ _ hc_3) dL_positions_3 rfl ⟨zb_613, zb_614, zb_615, zb_616, zb_25⟩ zd_X9_positions ⟨by decide, by decide⟩ ⟨by decide, by decide⟩ (eq_of_beq c_5) (by decide) rfl rfl rfl (Nat.le_of_ble_eq_true rfl) (fun E9 M9 e9 => by
        obtain ⟨e1, e2⟩ := e9
        cases e1; subst e2
        exact zcaught (u := (1, 6)) (pre := []) (x := (0, 8, 11, 15)) (suf := []) (i := 2) (v := 1) rfl (fun _ h9 => by cases h9) ⟨rfl, rfl⟩ (by decide) zb_612 (by decide) (Or.inr ⟨2, rfl, dL_positions_11, rfl⟩) (by decide) dL_positions_12 (by decide) rfl dL_positions_13 rfl ⟨by decide, by decide⟩ ⟨rfl, rfl⟩) (fun r9 M9 e9 => by cases e9.1)
    · replace h := ite_f c_10 h
      cases h

def uL_empty : zMu := (yL_empty, cL_empty, 3, (some .int), { frames := 8, cells := 1, slots := 6, locals := 121 }, [(0, 15, 18, 15)])
theorem zd_L_empty : (uY uL_empty).cls ≠ "java/lang/invoke/MethodHandle" ∧ (uY uL_empty).cls ≠ "java/lang/invoke/VarHandle" ∧ (parseMethodDescriptor (uY uL_empty).desc).map (fun d => d.parameters.length) = some 2 := by decide +kernel
def fL_empty_14 (n : Nat) (M : zM) (s0 : Nat) (s1 : Int32) (s2 : Int64) : Option (Int32 × zM) :=
  chk (mK M s0 == 12) <|
  chk (zin s1 (mN M s0)) <|
  app (wL M s0 (Int32.toNatClampNeg s1) s2) fun M_3 : zM =>
  some ((0 : Int32), M_3)
set_option maxHeartbeats 4000000 in
theorem tL_empty_14 (n : Nat) (M : zM) (s0 : Nat) (s1 : Int32) (s2 : Int64) (r : Int32) (M' : zM) (h : fL_empty_14 n M s0 s1 s2 = some (r, M')) : zW uL_empty none (1, 6) M 14 [] [.long s2, .int s1, .ref s0] (zE (oI r) M') := by
  unfold fL_empty_14 at h
  obtain ⟨c_1, h⟩ := chk_some h
  obtain ⟨c_2, h⟩ := chk_some h
  obtain ⟨M_3, e_4, h⟩ := app_some h
  refine zr_last (q := 15) dL_empty_14 rfl (eq_of_beq c_1) c_2 ?_
  refine zr_mem e_4 ?_
  refine zr_goto (q := 21) dL_empty_15 (by decide) ?_
  refine zr_iconst (q := 22) (v := 0) dL_empty_21 rfl (by decide) ?_
  cases h
  exact zr_ireturn dL_empty_22 rfl ⟨by decide, by decide⟩ ⟨rfl, rfl⟩
def fL_empty (n : Nat) (M : zM) (v0 : Nat) (v1 : Nat) : Option (Int32 × zM) :=
  chk (mK M v0 == 9) <|
  bndC (fX9_empty n M v0) (fun r_1 M_2 =>
    if r_1 = (0 : Int32) then
      fL_empty_14 n M_2 v1 (0 : Int32) (0 : Int64)
    else
    fL_empty_14 n M_2 v1 (0 : Int32) (1 : Int64)) (fun E_4 M_2 => if E_4 = "java/lang/IllegalStateException" then some ((1 : Int32), M_2) else none)
set_option maxHeartbeats 4000000 in
theorem tL_empty (n : Nat) (M : zM) (v0 : Nat) (v1 : Nat) (r : Int32) (M' : zM) (h : fL_empty n M v0 v1 = some (r, M')) : zMet uL_empty false M [.ref v0, .ref v1] (zE (oI r) M') := by
  refine zMet_ofH (L := [(0, .ref v0), (1, .ref v1)]) (by decide +kernel) rfl rfl (Nat.le_of_ble_eq_true rfl) ?_
  show zW uL_empty none (0, 0) M 0 [(0, .ref v0), (1, .ref v1)] [] (zE (oI r) M')
  unfold fL_empty at h
  refine zr_aload_n (q := 1) dL_empty_0 rfl rfl 1 rfl ?_
  refine zr_iconst (q := 2) (v := 0) dL_empty_1 rfl (by decide) ?_
  refine zr_aload_n (q := 3) dL_empty_2 rfl rfl 0 rfl ?_
  obtain ⟨c_5, h⟩ := chk_some h
  rcases bndC_some h with ⟨r_1, M_2, hc_3, h⟩ | ⟨E_4, M_2, hc_3, h⟩
  · refine zr_callG (μ' := uX9_empty) (n := 0) (ci := 9) (As := []) (st := [.int (0 : Int32), .ref v1]) (tX9_empty n M v0 _ _ hc_3) dL_empty_3 rfl ⟨zb_617, zb_618, zb_619, zb_620, zb_25⟩ zd_X9_empty ⟨by decide, by decide⟩ ⟨by decide, by decide⟩ (eq_of_beq c_5) (by decide) rfl rfl rfl (Nat.le_of_ble_eq_true rfl) (fun E9 M9 e9 => by cases e9.1) (fun r9 M9 e9 => ?_)
    obtain ⟨e1, e2⟩ := e9
    replace e2 := e2.symm
    cases e1; subst e2
    show zW uL_empty none (1, 6) M_2 6 [(0, .ref v0), (1, .ref v1)] [.int r_1, .int (0 : Int32), .ref v1] (zE (oI r) M')
    refine zr_if_eq (q := 9) (tgt := 13) dL_empty_6 rfl (by decide) (fun c_6 => ?_) (fun c_6 => ?_)
    · replace h := ite_t c_6 h
      refine zr_lconst (q := 14) (v := 0) dL_empty_13 rfl (by decide) ?_
      exact zr_pick [] rfl (tL_empty_14 n M_2 v1 (0 : Int32) (0 : Int64) _ _ h)
    · replace h := ite_f c_6 h
      refine zr_lconst (q := 10) (v := 1) dL_empty_9 rfl (by decide) ?_
      refine zr_goto (q := 14) dL_empty_10 (by decide) ?_
      exact zr_pick [] rfl (tL_empty_14 n M_2 v1 (0 : Int32) (1 : Int64) _ _ h)
  · by_cases c_7 : E_4 = "java/lang/IllegalStateException"
    · replace h := ite_t c_7 h
      subst c_7
      cases h
      exact zr_callG (μ' := uX9_empty) (n := 0) (ci := 9) (As := []) (st := [.int (0 : Int32), .ref v1]) (tX9_empty n M v0 _ _ hc_3) dL_empty_3 rfl ⟨zb_617, zb_618, zb_619, zb_620, zb_25⟩ zd_X9_empty ⟨by decide, by decide⟩ ⟨by decide, by decide⟩ (eq_of_beq c_5) (by decide) rfl rfl rfl (Nat.le_of_ble_eq_true rfl) (fun E9 M9 e9 => by
        obtain ⟨e1, e2⟩ := e9
        cases e1; subst e2
        exact zcaught (u := (1, 6)) (pre := []) (x := (0, 15, 18, 15)) (suf := []) (i := 2) (v := 1) rfl (fun _ h9 => by cases h9) ⟨rfl, rfl⟩ (by decide) zb_612 (by decide) (Or.inr ⟨2, rfl, dL_empty_18, rfl⟩) (by decide) dL_empty_19 (by decide) rfl dL_empty_20 rfl ⟨by decide, by decide⟩ ⟨rfl, rfl⟩) (fun r9 M9 e9 => by cases e9.1)
    · replace h := ite_f c_7 h
      cases h

def uL_is : zMu := (yL_is, cL_is, 5, (some .int), { frames := 8, cells := 2, slots := 12, locals := 124 }, [(0, 17, 20, 15), (0, 17, 24, 29), (0, 17, 28, 13)])
theorem zd_L_is : (uY uL_is).cls ≠ "java/lang/invoke/MethodHandle" ∧ (uY uL_is).cls ≠ "java/lang/invoke/VarHandle" ∧ (parseMethodDescriptor (uY uL_is).desc).map (fun d => d.parameters.length) = some 4 := by decide +kernel
def fL_is_16 (n : Nat) (M : zM) (s0 : Nat) (s1 : Int32) (s2 : Int64) : Option (Int32 × zM) :=
  chk (mK M s0 == 12) <|
  chk (zin s1 (mN M s0)) <|
  app (wL M s0 (Int32.toNatClampNeg s1) s2) fun M_3 : zM =>
  some ((0 : Int32), M_3)
set_option maxHeartbeats 4000000 in
theorem tL_is_16 (n : Nat) (M : zM) (s0 : Nat) (s1 : Int32) (s2 : Int64) (r : Int32) (M' : zM) (h : fL_is_16 n M s0 s1 s2 = some (r, M')) : zW uL_is none (2, 12) M 16 [] [.long s2, .int s1, .ref s0] (zE (oI r) M') := by
  unfold fL_is_16 at h
  obtain ⟨c_1, h⟩ := chk_some h
  obtain ⟨c_2, h⟩ := chk_some h
  obtain ⟨M_3, e_4, h⟩ := app_some h
  refine zr_last (q := 17) dL_is_16 rfl (eq_of_beq c_1) c_2 ?_
  refine zr_mem e_4 ?_
  refine zr_goto (q := 32) dL_is_17 (by decide) ?_
  refine zr_iconst (q := 33) (v := 0) dL_is_32 rfl (by decide) ?_
  cases h
  exact zr_ireturn dL_is_33 rfl ⟨by decide, by decide⟩ ⟨rfl, rfl⟩
def fL_is (n : Nat) (M : zM) (v0 : Nat) (v1 : Int32) (v2 : Int32) (v3 : Nat) : Option (Int32 × zM) :=
  chk (mK M v0 == 9) <|
  bndC (fX9_is n M v0 v1 v2) (fun r_1 M_2 =>
    if r_1 = (0 : Int32) then
      fL_is_16 n M_2 v3 (0 : Int32) (0 : Int64)
    else
    fL_is_16 n M_2 v3 (0 : Int32) (1 : Int64)) (fun E_4 M_2 => if E_4 = "java/lang/IllegalStateException" then some ((1 : Int32), M_2) else if E_4 = "java/lang/IndexOutOfBoundsException" then some ((2 : Int32), M_2) else if E_4 = "java/lang/IllegalArgumentException" then some ((3 : Int32), M_2) else none)
set_option maxHeartbeats 4000000 in
theorem tL_is (n : Nat) (M : zM) (v0 : Nat) (v1 : Int32) (v2 : Int32) (v3 : Nat) (r : Int32) (M' : zM) (h : fL_is n M v0 v1 v2 v3 = some (r, M')) : zMet uL_is false M [.ref v0, .int v1, .int v2, .ref v3] (zE (oI r) M') := by
  refine zMet_ofH (L := [(0, .ref v0), (1, .int v1), (2, .int v2), (3, .ref v3)]) (by decide +kernel) rfl rfl (Nat.le_of_ble_eq_true rfl) ?_
  show zW uL_is none (0, 0) M 0 [(0, .ref v0), (1, .int v1), (2, .int v2), (3, .ref v3)] [] (zE (oI r) M')
  unfold fL_is at h
  refine zr_aload_n (q := 1) dL_is_0 rfl rfl 3 rfl ?_
  refine zr_iconst (q := 2) (v := 0) dL_is_1 rfl (by decide) ?_
  refine zr_aload_n (q := 3) dL_is_2 rfl rfl 0 rfl ?_
  refine zr_iload_n (q := 4) dL_is_3 rfl rfl 1 rfl ?_
  refine zr_iload_n (q := 5) dL_is_4 rfl rfl 2 rfl ?_
  obtain ⟨c_5, h⟩ := chk_some h
  rcases bndC_some h with ⟨r_1, M_2, hc_3, h⟩ | ⟨E_4, M_2, hc_3, h⟩
  · refine zr_callG (μ' := uX9_is) (n := 2) (ci := 9) (As := [.int v1, .int v2]) (st := [.int (0 : Int32), .ref v3]) (tX9_is n M v0 v1 v2 _ _ hc_3) dL_is_5 rfl ⟨zb_621, zb_622, zb_623, zb_624, zb_25⟩ zd_X9_is ⟨by decide, by decide⟩ ⟨by decide, by decide⟩ (eq_of_beq c_5) (by decide) rfl rfl rfl (Nat.le_of_ble_eq_true rfl) (fun E9 M9 e9 => by cases e9.1) (fun r9 M9 e9 => ?_)
    obtain ⟨e1, e2⟩ := e9
    replace e2 := e2.symm
    cases e1; subst e2
    show zW uL_is none (2, 12) M_2 8 [(0, .ref v0), (1, .int v1), (2, .int v2), (3, .ref v3)] [.int r_1, .int (0 : Int32), .ref v3] (zE (oI r) M')
    refine zr_if_eq (q := 11) (tgt := 15) dL_is_8 rfl (by decide) (fun c_6 => ?_) (fun c_6 => ?_)
    · replace h := ite_t c_6 h
      refine zr_lconst (q := 16) (v := 0) dL_is_15 rfl (by decide) ?_
      exact zr_pick [] rfl (tL_is_16 n M_2 v3 (0 : Int32) (0 : Int64) _ _ h)
    · replace h := ite_f c_6 h
      refine zr_lconst (q := 12) (v := 1) dL_is_11 rfl (by decide) ?_
      refine zr_goto (q := 16) dL_is_12 (by decide) ?_
      exact zr_pick [] rfl (tL_is_16 n M_2 v3 (0 : Int32) (1 : Int64) _ _ h)
  · by_cases c_9 : E_4 = "java/lang/IllegalStateException"
    · replace h := ite_t c_9 h
      subst c_9
      cases h
      exact zr_callG (μ' := uX9_is) (n := 2) (ci := 9) (As := [.int v1, .int v2]) (st := [.int (0 : Int32), .ref v3]) (tX9_is n M v0 v1 v2 _ _ hc_3) dL_is_5 rfl ⟨zb_621, zb_622, zb_623, zb_624, zb_25⟩ zd_X9_is ⟨by decide, by decide⟩ ⟨by decide, by decide⟩ (eq_of_beq c_5) (by decide) rfl rfl rfl (Nat.le_of_ble_eq_true rfl) (fun E9 M9 e9 => by
        obtain ⟨e1, e2⟩ := e9
        cases e1; subst e2
        exact zcaught (u := (2, 12)) (pre := []) (x := (0, 17, 20, 15)) (suf := [(0, 17, 24, 29), (0, 17, 28, 13)]) (i := 4) (v := 1) rfl (fun _ h9 => by cases h9) ⟨rfl, rfl⟩ (by decide) zb_612 (by decide) (Or.inl ⟨dL_is_20, rfl⟩) (by decide) dL_is_22 (by decide) rfl dL_is_23 rfl ⟨by decide, by decide⟩ ⟨rfl, rfl⟩) (fun r9 M9 e9 => by cases e9.1)
    · replace h := ite_f c_9 h
      by_cases c_8 : E_4 = "java/lang/IndexOutOfBoundsException"
      · replace h := ite_t c_8 h
        subst c_8
        cases h
        exact zr_callG (μ' := uX9_is) (n := 2) (ci := 9) (As := [.int v1, .int v2]) (st := [.int (0 : Int32), .ref v3]) (tX9_is n M v0 v1 v2 _ _ hc_3) dL_is_5 rfl ⟨zb_621, zb_622, zb_623, zb_624, zb_25⟩ zd_X9_is ⟨by decide, by decide⟩ ⟨by decide, by decide⟩ (eq_of_beq c_5) (by decide) rfl rfl rfl (Nat.le_of_ble_eq_true rfl) (fun E9 M9 e9 => by
          obtain ⟨e1, e2⟩ := e9
          cases e1; subst e2
          exact zcaught (u := (2, 12)) (pre := [(0, 17, 20, 15)]) (x := (0, 17, 24, 29)) (suf := [(0, 17, 28, 13)]) (i := 4) (v := 2) rfl (List.forall_mem_cons.mpr ⟨⟨by decide, "java/lang/IllegalStateException", zb_612, by decide⟩, fun _ h9 => by cases h9⟩) ⟨rfl, rfl⟩ (by decide) zb_625 (by decide) (Or.inl ⟨dL_is_24, rfl⟩) (by decide) dL_is_26 (by decide) rfl dL_is_27 rfl ⟨by decide, by decide⟩ ⟨rfl, rfl⟩) (fun r9 M9 e9 => by cases e9.1)
      · replace h := ite_f c_8 h
        by_cases c_7 : E_4 = "java/lang/IllegalArgumentException"
        · replace h := ite_t c_7 h
          subst c_7
          cases h
          exact zr_callG (μ' := uX9_is) (n := 2) (ci := 9) (As := [.int v1, .int v2]) (st := [.int (0 : Int32), .ref v3]) (tX9_is n M v0 v1 v2 _ _ hc_3) dL_is_5 rfl ⟨zb_621, zb_622, zb_623, zb_624, zb_25⟩ zd_X9_is ⟨by decide, by decide⟩ ⟨by decide, by decide⟩ (eq_of_beq c_5) (by decide) rfl rfl rfl (Nat.le_of_ble_eq_true rfl) (fun E9 M9 e9 => by
            obtain ⟨e1, e2⟩ := e9
            cases e1; subst e2
            exact zcaught (u := (2, 12)) (pre := [(0, 17, 20, 15), (0, 17, 24, 29)]) (x := (0, 17, 28, 13)) (suf := []) (i := 4) (v := 3) rfl (List.forall_mem_cons.mpr ⟨⟨by decide, "java/lang/IllegalStateException", zb_612, by decide⟩, List.forall_mem_cons.mpr ⟨⟨by decide, "java/lang/IndexOutOfBoundsException", zb_625, by decide⟩, fun _ h9 => by cases h9⟩⟩) ⟨rfl, rfl⟩ (by decide) zb_611 (by decide) (Or.inl ⟨dL_is_28, rfl⟩) (by decide) dL_is_30 (by decide) rfl dL_is_31 rfl ⟨by decide, by decide⟩ ⟨rfl, rfl⟩) (fun r9 M9 e9 => by cases e9.1)
        · replace h := ite_f c_7 h
          cases h

def uL_follows : zMu := (yL_follows, cL_follows, 5, (some .int), { frames := 8, cells := 2, slots := 12, locals := 124 }, [(0, 17, 20, 15), (0, 17, 24, 29)])
theorem zd_L_follows : (uY uL_follows).cls ≠ "java/lang/invoke/MethodHandle" ∧ (uY uL_follows).cls ≠ "java/lang/invoke/VarHandle" ∧ (parseMethodDescriptor (uY uL_follows).desc).map (fun d => d.parameters.length) = some 4 := by decide +kernel
def fL_follows_16 (n : Nat) (M : zM) (s0 : Nat) (s1 : Int32) (s2 : Int64) : Option (Int32 × zM) :=
  chk (mK M s0 == 12) <|
  chk (zin s1 (mN M s0)) <|
  app (wL M s0 (Int32.toNatClampNeg s1) s2) fun M_3 : zM =>
  some ((0 : Int32), M_3)
set_option maxHeartbeats 4000000 in
theorem tL_follows_16 (n : Nat) (M : zM) (s0 : Nat) (s1 : Int32) (s2 : Int64) (r : Int32) (M' : zM) (h : fL_follows_16 n M s0 s1 s2 = some (r, M')) : zW uL_follows none (2, 12) M 16 [] [.long s2, .int s1, .ref s0] (zE (oI r) M') := by
  unfold fL_follows_16 at h
  obtain ⟨c_1, h⟩ := chk_some h
  obtain ⟨c_2, h⟩ := chk_some h
  obtain ⟨M_3, e_4, h⟩ := app_some h
  refine zr_last (q := 17) dL_follows_16 rfl (eq_of_beq c_1) c_2 ?_
  refine zr_mem e_4 ?_
  refine zr_goto (q := 28) dL_follows_17 (by decide) ?_
  refine zr_iconst (q := 29) (v := 0) dL_follows_28 rfl (by decide) ?_
  cases h
  exact zr_ireturn dL_follows_29 rfl ⟨by decide, by decide⟩ ⟨rfl, rfl⟩
def fL_follows (n : Nat) (M : zM) (v0 : Nat) (v1 : Int32) (v2 : Int32) (v3 : Nat) : Option (Int32 × zM) :=
  chk (mK M v0 == 9) <|
  bndC (fX9_follows n M v0 v1 v2) (fun r_1 M_2 =>
    if r_1 = (0 : Int32) then
      fL_follows_16 n M_2 v3 (0 : Int32) (0 : Int64)
    else
    fL_follows_16 n M_2 v3 (0 : Int32) (1 : Int64)) (fun E_4 M_2 => if E_4 = "java/lang/IllegalStateException" then some ((1 : Int32), M_2) else if E_4 = "java/lang/IndexOutOfBoundsException" then some ((2 : Int32), M_2) else none)
set_option maxHeartbeats 4000000 in
theorem tL_follows (n : Nat) (M : zM) (v0 : Nat) (v1 : Int32) (v2 : Int32) (v3 : Nat) (r : Int32) (M' : zM) (h : fL_follows n M v0 v1 v2 v3 = some (r, M')) : zMet uL_follows false M [.ref v0, .int v1, .int v2, .ref v3] (zE (oI r) M') := by
  refine zMet_ofH (L := [(0, .ref v0), (1, .int v1), (2, .int v2), (3, .ref v3)]) (by decide +kernel) rfl rfl (Nat.le_of_ble_eq_true rfl) ?_
  show zW uL_follows none (0, 0) M 0 [(0, .ref v0), (1, .int v1), (2, .int v2), (3, .ref v3)] [] (zE (oI r) M')
  unfold fL_follows at h
  refine zr_aload_n (q := 1) dL_follows_0 rfl rfl 3 rfl ?_
  refine zr_iconst (q := 2) (v := 0) dL_follows_1 rfl (by decide) ?_
  refine zr_aload_n (q := 3) dL_follows_2 rfl rfl 0 rfl ?_
  refine zr_iload_n (q := 4) dL_follows_3 rfl rfl 1 rfl ?_
  refine zr_iload_n (q := 5) dL_follows_4 rfl rfl 2 rfl ?_
  obtain ⟨c_5, h⟩ := chk_some h
  rcases bndC_some h with ⟨r_1, M_2, hc_3, h⟩ | ⟨E_4, M_2, hc_3, h⟩
  · refine zr_callG (μ' := uX9_follows) (n := 2) (ci := 9) (As := [.int v1, .int v2]) (st := [.int (0 : Int32), .ref v3]) (tX9_follows n M v0 v1 v2 _ _ hc_3) dL_follows_5 rfl ⟨zb_626, zb_627, zb_628, zb_629, zb_25⟩ zd_X9_follows ⟨by decide, by decide⟩ ⟨by decide, by decide⟩ (eq_of_beq c_5) (by decide) rfl rfl rfl (Nat.le_of_ble_eq_true rfl) (fun E9 M9 e9 => by cases e9.1) (fun r9 M9 e9 => ?_)
    obtain ⟨e1, e2⟩ := e9
    replace e2 := e2.symm
    cases e1; subst e2
    show zW uL_follows none (2, 12) M_2 8 [(0, .ref v0), (1, .int v1), (2, .int v2), (3, .ref v3)] [.int r_1, .int (0 : Int32), .ref v3] (zE (oI r) M')
    refine zr_if_eq (q := 11) (tgt := 15) dL_follows_8 rfl (by decide) (fun c_6 => ?_) (fun c_6 => ?_)
    · replace h := ite_t c_6 h
      refine zr_lconst (q := 16) (v := 0) dL_follows_15 rfl (by decide) ?_
      exact zr_pick [] rfl (tL_follows_16 n M_2 v3 (0 : Int32) (0 : Int64) _ _ h)
    · replace h := ite_f c_6 h
      refine zr_lconst (q := 12) (v := 1) dL_follows_11 rfl (by decide) ?_
      refine zr_goto (q := 16) dL_follows_12 (by decide) ?_
      exact zr_pick [] rfl (tL_follows_16 n M_2 v3 (0 : Int32) (1 : Int64) _ _ h)
  · by_cases c_8 : E_4 = "java/lang/IllegalStateException"
    · replace h := ite_t c_8 h
      subst c_8
      cases h
      exact zr_callG (μ' := uX9_follows) (n := 2) (ci := 9) (As := [.int v1, .int v2]) (st := [.int (0 : Int32), .ref v3]) (tX9_follows n M v0 v1 v2 _ _ hc_3) dL_follows_5 rfl ⟨zb_626, zb_627, zb_628, zb_629, zb_25⟩ zd_X9_follows ⟨by decide, by decide⟩ ⟨by decide, by decide⟩ (eq_of_beq c_5) (by decide) rfl rfl rfl (Nat.le_of_ble_eq_true rfl) (fun E9 M9 e9 => by
        obtain ⟨e1, e2⟩ := e9
        cases e1; subst e2
        exact zcaught (u := (2, 12)) (pre := []) (x := (0, 17, 20, 15)) (suf := [(0, 17, 24, 29)]) (i := 4) (v := 1) rfl (fun _ h9 => by cases h9) ⟨rfl, rfl⟩ (by decide) zb_612 (by decide) (Or.inl ⟨dL_follows_20, rfl⟩) (by decide) dL_follows_22 (by decide) rfl dL_follows_23 rfl ⟨by decide, by decide⟩ ⟨rfl, rfl⟩) (fun r9 M9 e9 => by cases e9.1)
    · replace h := ite_f c_8 h
      by_cases c_7 : E_4 = "java/lang/IndexOutOfBoundsException"
      · replace h := ite_t c_7 h
        subst c_7
        cases h
        exact zr_callG (μ' := uX9_follows) (n := 2) (ci := 9) (As := [.int v1, .int v2]) (st := [.int (0 : Int32), .ref v3]) (tX9_follows n M v0 v1 v2 _ _ hc_3) dL_follows_5 rfl ⟨zb_626, zb_627, zb_628, zb_629, zb_25⟩ zd_X9_follows ⟨by decide, by decide⟩ ⟨by decide, by decide⟩ (eq_of_beq c_5) (by decide) rfl rfl rfl (Nat.le_of_ble_eq_true rfl) (fun E9 M9 e9 => by
          obtain ⟨e1, e2⟩ := e9
          cases e1; subst e2
          exact zcaught (u := (2, 12)) (pre := [(0, 17, 20, 15)]) (x := (0, 17, 24, 29)) (suf := []) (i := 4) (v := 2) rfl (List.forall_mem_cons.mpr ⟨⟨by decide, "java/lang/IllegalStateException", zb_612, by decide⟩, fun _ h9 => by cases h9⟩) ⟨rfl, rfl⟩ (by decide) zb_625 (by decide) (Or.inl ⟨dL_follows_24, rfl⟩) (by decide) dL_follows_26 (by decide) rfl dL_follows_27 rfl ⟨by decide, by decide⟩ ⟨rfl, rfl⟩) (fun r9 M9 e9 => by cases e9.1)
      · replace h := ite_f c_7 h
        cases h

def uL_has : zMu := (yL_has, cL_has, 5, (some .int), { frames := 8, cells := 2, slots := 12, locals := 124 }, [(0, 17, 20, 15), (0, 17, 24, 29)])
theorem zd_L_has : (uY uL_has).cls ≠ "java/lang/invoke/MethodHandle" ∧ (uY uL_has).cls ≠ "java/lang/invoke/VarHandle" ∧ (parseMethodDescriptor (uY uL_has).desc).map (fun d => d.parameters.length) = some 4 := by decide +kernel
def fL_has_16 (n : Nat) (M : zM) (s0 : Nat) (s1 : Int32) (s2 : Int64) : Option (Int32 × zM) :=
  chk (mK M s0 == 12) <|
  chk (zin s1 (mN M s0)) <|
  app (wL M s0 (Int32.toNatClampNeg s1) s2) fun M_3 : zM =>
  some ((0 : Int32), M_3)
set_option maxHeartbeats 4000000 in
theorem tL_has_16 (n : Nat) (M : zM) (s0 : Nat) (s1 : Int32) (s2 : Int64) (r : Int32) (M' : zM) (h : fL_has_16 n M s0 s1 s2 = some (r, M')) : zW uL_has none (2, 12) M 16 [] [.long s2, .int s1, .ref s0] (zE (oI r) M') := by
  unfold fL_has_16 at h
  obtain ⟨c_1, h⟩ := chk_some h
  obtain ⟨c_2, h⟩ := chk_some h
  obtain ⟨M_3, e_4, h⟩ := app_some h
  refine zr_last (q := 17) dL_has_16 rfl (eq_of_beq c_1) c_2 ?_
  refine zr_mem e_4 ?_
  refine zr_goto (q := 28) dL_has_17 (by decide) ?_
  refine zr_iconst (q := 29) (v := 0) dL_has_28 rfl (by decide) ?_
  cases h
  exact zr_ireturn dL_has_29 rfl ⟨by decide, by decide⟩ ⟨rfl, rfl⟩
def fL_has (n : Nat) (M : zM) (v0 : Nat) (v1 : Int32) (v2 : Int32) (v3 : Nat) : Option (Int32 × zM) :=
  chk (mK M v0 == 9) <|
  bndC (fX9_has n M v0 v1 v2) (fun r_1 M_2 =>
    if r_1 = (0 : Int32) then
      fL_has_16 n M_2 v3 (0 : Int32) (0 : Int64)
    else
    fL_has_16 n M_2 v3 (0 : Int32) (1 : Int64)) (fun E_4 M_2 => if E_4 = "java/lang/IllegalStateException" then some ((1 : Int32), M_2) else if E_4 = "java/lang/IndexOutOfBoundsException" then some ((2 : Int32), M_2) else none)
set_option maxHeartbeats 4000000 in
theorem tL_has (n : Nat) (M : zM) (v0 : Nat) (v1 : Int32) (v2 : Int32) (v3 : Nat) (r : Int32) (M' : zM) (h : fL_has n M v0 v1 v2 v3 = some (r, M')) : zMet uL_has false M [.ref v0, .int v1, .int v2, .ref v3] (zE (oI r) M') := by
  refine zMet_ofH (L := [(0, .ref v0), (1, .int v1), (2, .int v2), (3, .ref v3)]) (by decide +kernel) rfl rfl (Nat.le_of_ble_eq_true rfl) ?_
  show zW uL_has none (0, 0) M 0 [(0, .ref v0), (1, .int v1), (2, .int v2), (3, .ref v3)] [] (zE (oI r) M')
  unfold fL_has at h
  refine zr_aload_n (q := 1) dL_has_0 rfl rfl 3 rfl ?_
  refine zr_iconst (q := 2) (v := 0) dL_has_1 rfl (by decide) ?_
  refine zr_aload_n (q := 3) dL_has_2 rfl rfl 0 rfl ?_
  refine zr_iload_n (q := 4) dL_has_3 rfl rfl 1 rfl ?_
  refine zr_iload_n (q := 5) dL_has_4 rfl rfl 2 rfl ?_
  obtain ⟨c_5, h⟩ := chk_some h
  rcases bndC_some h with ⟨r_1, M_2, hc_3, h⟩ | ⟨E_4, M_2, hc_3, h⟩
  · refine zr_callG (μ' := uX9_has) (n := 2) (ci := 9) (As := [.int v1, .int v2]) (st := [.int (0 : Int32), .ref v3]) (tX9_has n M v0 v1 v2 _ _ hc_3) dL_has_5 rfl ⟨zb_630, zb_631, zb_632, zb_633, zb_25⟩ zd_X9_has ⟨by decide, by decide⟩ ⟨by decide, by decide⟩ (eq_of_beq c_5) (by decide) rfl rfl rfl (Nat.le_of_ble_eq_true rfl) (fun E9 M9 e9 => by cases e9.1) (fun r9 M9 e9 => ?_)
    obtain ⟨e1, e2⟩ := e9
    replace e2 := e2.symm
    cases e1; subst e2
    show zW uL_has none (2, 12) M_2 8 [(0, .ref v0), (1, .int v1), (2, .int v2), (3, .ref v3)] [.int r_1, .int (0 : Int32), .ref v3] (zE (oI r) M')
    refine zr_if_eq (q := 11) (tgt := 15) dL_has_8 rfl (by decide) (fun c_6 => ?_) (fun c_6 => ?_)
    · replace h := ite_t c_6 h
      refine zr_lconst (q := 16) (v := 0) dL_has_15 rfl (by decide) ?_
      exact zr_pick [] rfl (tL_has_16 n M_2 v3 (0 : Int32) (0 : Int64) _ _ h)
    · replace h := ite_f c_6 h
      refine zr_lconst (q := 12) (v := 1) dL_has_11 rfl (by decide) ?_
      refine zr_goto (q := 16) dL_has_12 (by decide) ?_
      exact zr_pick [] rfl (tL_has_16 n M_2 v3 (0 : Int32) (1 : Int64) _ _ h)
  · by_cases c_8 : E_4 = "java/lang/IllegalStateException"
    · replace h := ite_t c_8 h
      subst c_8
      cases h
      exact zr_callG (μ' := uX9_has) (n := 2) (ci := 9) (As := [.int v1, .int v2]) (st := [.int (0 : Int32), .ref v3]) (tX9_has n M v0 v1 v2 _ _ hc_3) dL_has_5 rfl ⟨zb_630, zb_631, zb_632, zb_633, zb_25⟩ zd_X9_has ⟨by decide, by decide⟩ ⟨by decide, by decide⟩ (eq_of_beq c_5) (by decide) rfl rfl rfl (Nat.le_of_ble_eq_true rfl) (fun E9 M9 e9 => by
        obtain ⟨e1, e2⟩ := e9
        cases e1; subst e2
        exact zcaught (u := (2, 12)) (pre := []) (x := (0, 17, 20, 15)) (suf := [(0, 17, 24, 29)]) (i := 4) (v := 1) rfl (fun _ h9 => by cases h9) ⟨rfl, rfl⟩ (by decide) zb_612 (by decide) (Or.inl ⟨dL_has_20, rfl⟩) (by decide) dL_has_22 (by decide) rfl dL_has_23 rfl ⟨by decide, by decide⟩ ⟨rfl, rfl⟩) (fun r9 M9 e9 => by cases e9.1)
    · replace h := ite_f c_8 h
      by_cases c_7 : E_4 = "java/lang/IndexOutOfBoundsException"
      · replace h := ite_t c_7 h
        subst c_7
        cases h
        exact zr_callG (μ' := uX9_has) (n := 2) (ci := 9) (As := [.int v1, .int v2]) (st := [.int (0 : Int32), .ref v3]) (tX9_has n M v0 v1 v2 _ _ hc_3) dL_has_5 rfl ⟨zb_630, zb_631, zb_632, zb_633, zb_25⟩ zd_X9_has ⟨by decide, by decide⟩ ⟨by decide, by decide⟩ (eq_of_beq c_5) (by decide) rfl rfl rfl (Nat.le_of_ble_eq_true rfl) (fun E9 M9 e9 => by
          obtain ⟨e1, e2⟩ := e9
          cases e1; subst e2
          exact zcaught (u := (2, 12)) (pre := [(0, 17, 20, 15)]) (x := (0, 17, 24, 29)) (suf := []) (i := 4) (v := 2) rfl (List.forall_mem_cons.mpr ⟨⟨by decide, "java/lang/IllegalStateException", zb_612, by decide⟩, fun _ h9 => by cases h9⟩) ⟨rfl, rfl⟩ (by decide) zb_625 (by decide) (Or.inl ⟨dL_has_24, rfl⟩) (by decide) dL_has_26 (by decide) rfl dL_has_27 rfl ⟨by decide, by decide⟩ ⟨rfl, rfl⟩) (fun r9 M9 e9 => by cases e9.1)
      · replace h := ite_f c_7 h
        cases h

def uL_feed : zMu := (yL_feed, cL_feed, 6, (some .int), { frames := 7, cells := 1, slots := 6, locals := 104 }, [(0, 11, 14, 13), (0, 11, 18, 15)])
theorem zd_L_feed : (uY uL_feed).cls ≠ "java/lang/invoke/MethodHandle" ∧ (uY uL_feed).cls ≠ "java/lang/invoke/VarHandle" ∧ (parseMethodDescriptor (uY uL_feed).desc).map (fun d => d.parameters.length) = some 4 := by decide +kernel
def fL_feed (n : Nat) (M : zM) (v0 : Nat) (v1 : Int64) (v3 : Int32) (v4 : Nat) : Option (Int32 × zM) :=
  chk (mK M v0 == 9) <|
  bndC (fX9_feed n M v0 v1 v3) (fun r_1 M_2 =>
    chk (mK M_2 v4 == 12) <|
    chk (zin (0 : Int32) (mN M_2 v4)) <|
    app (wL M_2 v4 (Int32.toNatClampNeg (0 : Int32)) (Int32.toInt64 r_1)) fun M_8 : zM =>
    some ((0 : Int32), M_8)) (fun E_4 M_2 => if E_4 = "java/lang/IllegalArgumentException" then some ((1 : Int32), M_2) else if E_4 = "java/lang/IllegalStateException" then some ((2 : Int32), M_2) else none)
set_option maxHeartbeats 4000000 in
theorem tL_feed (n : Nat) (M : zM) (v0 : Nat) (v1 : Int64) (v3 : Int32) (v4 : Nat) (r : Int32) (M' : zM) (h : fL_feed n M v0 v1 v3 v4 = some (r, M')) : zMet uL_feed false M [.ref v0, .long v1, .int v3, .ref v4] (zE (oI r) M') := by
  refine zMet_ofH (L := [(0, .ref v0), (1, .long v1), (3, .int v3), (4, .ref v4)]) (by decide +kernel) rfl rfl (Nat.le_of_ble_eq_true rfl) ?_
  show zW uL_feed none (0, 0) M 0 [(0, .ref v0), (1, .long v1), (3, .int v3), (4, .ref v4)] [] (zE (oI r) M')
  unfold fL_feed at h
  refine zr_aload (q := 2) dL_feed_0 rfl 3 rfl ?_
  refine zr_iconst (q := 3) (v := 0) dL_feed_2 rfl (by decide) ?_
  refine zr_aload_n (q := 4) dL_feed_3 rfl rfl 0 rfl ?_
  refine zr_lload_n (q := 5) dL_feed_4 rfl rfl 1 rfl ?_
  refine zr_iload_n (q := 6) dL_feed_5 rfl rfl 2 rfl ?_
  obtain ⟨c_5, h⟩ := chk_some h
  rcases bndC_some h with ⟨r_1, M_2, hc_3, h⟩ | ⟨E_4, M_2, hc_3, h⟩
  · refine zr_callG (μ' := uX9_feed) (n := 2) (ci := 9) (As := [.long v1, .int v3]) (st := [.int (0 : Int32), .ref v4]) (tX9_feed n M v0 v1 v3 _ _ hc_3) dL_feed_6 rfl ⟨zb_634, zb_635, zb_636, zb_637, zb_25⟩ zd_X9_feed ⟨by decide, by decide⟩ ⟨by decide, by decide⟩ (eq_of_beq c_5) (by decide) rfl rfl rfl (Nat.le_of_ble_eq_true rfl) (fun E9 M9 e9 => by cases e9.1) (fun r9 M9 e9 => ?_)
    obtain ⟨e1, e2⟩ := e9
    replace e2 := e2.symm
    cases e1; subst e2
    show zW uL_feed none (1, 6) M_2 9 [(0, .ref v0), (1, .long v1), (3, .int v3), (4, .ref v4)] [.int r_1, .int (0 : Int32), .ref v4] (zE (oI r) M')
    refine zr_i2l (q := 10) dL_feed_9 rfl ?_
    obtain ⟨c_6, h⟩ := chk_some h
    obtain ⟨c_7, h⟩ := chk_some h
    obtain ⟨M_8, e_9, h⟩ := app_some h
    refine zr_last (q := 11) dL_feed_10 rfl (eq_of_beq c_6) c_7 ?_
    refine zr_mem e_9 ?_
    refine zr_goto (q := 22) dL_feed_11 (by decide) ?_
    refine zr_iconst (q := 23) (v := 0) dL_feed_22 rfl (by decide) ?_
    cases h
    exact zr_ireturn dL_feed_23 rfl ⟨by decide, by decide⟩ ⟨rfl, rfl⟩
  · by_cases c_11 : E_4 = "java/lang/IllegalArgumentException"
    · replace h := ite_t c_11 h
      subst c_11
      cases h
      exact zr_callG (μ' := uX9_feed) (n := 2) (ci := 9) (As := [.long v1, .int v3]) (st := [.int (0 : Int32), .ref v4]) (tX9_feed n M v0 v1 v3 _ _ hc_3) dL_feed_6 rfl ⟨zb_634, zb_635, zb_636, zb_637, zb_25⟩ zd_X9_feed ⟨by decide, by decide⟩ ⟨by decide, by decide⟩ (eq_of_beq c_5) (by decide) rfl rfl rfl (Nat.le_of_ble_eq_true rfl) (fun E9 M9 e9 => by
        obtain ⟨e1, e2⟩ := e9
        cases e1; subst e2
        exact zcaught (u := (1, 6)) (pre := []) (x := (0, 11, 14, 13)) (suf := [(0, 11, 18, 15)]) (i := 5) (v := 1) rfl (fun _ h9 => by cases h9) ⟨rfl, rfl⟩ (by decide) zb_611 (by decide) (Or.inl ⟨dL_feed_14, rfl⟩) (by decide) dL_feed_16 (by decide) rfl dL_feed_17 rfl ⟨by decide, by decide⟩ ⟨rfl, rfl⟩) (fun r9 M9 e9 => by cases e9.1)
    · replace h := ite_f c_11 h
      by_cases c_10 : E_4 = "java/lang/IllegalStateException"
      · replace h := ite_t c_10 h
        subst c_10
        cases h
        exact zr_callG (μ' := uX9_feed) (n := 2) (ci := 9) (As := [.long v1, .int v3]) (st := [.int (0 : Int32), .ref v4]) (tX9_feed n M v0 v1 v3 _ _ hc_3) dL_feed_6 rfl ⟨zb_634, zb_635, zb_636, zb_637, zb_25⟩ zd_X9_feed ⟨by decide, by decide⟩ ⟨by decide, by decide⟩ (eq_of_beq c_5) (by decide) rfl rfl rfl (Nat.le_of_ble_eq_true rfl) (fun E9 M9 e9 => by
          obtain ⟨e1, e2⟩ := e9
          cases e1; subst e2
          exact zcaught (u := (1, 6)) (pre := [(0, 11, 14, 13)]) (x := (0, 11, 18, 15)) (suf := []) (i := 5) (v := 2) rfl (List.forall_mem_cons.mpr ⟨⟨by decide, "java/lang/IllegalArgumentException", zb_611, by decide⟩, fun _ h9 => by cases h9⟩) ⟨rfl, rfl⟩ (by decide) zb_612 (by decide) (Or.inl ⟨dL_feed_18, rfl⟩) (by decide) dL_feed_20 (by decide) rfl dL_feed_21 rfl ⟨by decide, by decide⟩ ⟨rfl, rfl⟩) (fun r9 M9 e9 => by cases e9.1)
      · replace h := ite_f c_10 h
        cases h

def uL_whole : zMu := (yL_whole, cL_whole, 3, (some .int), { frames := 8, cells := 1, slots := 6, locals := 121 }, [(0, 15, 18, 15)])
theorem zd_L_whole : (uY uL_whole).cls ≠ "java/lang/invoke/MethodHandle" ∧ (uY uL_whole).cls ≠ "java/lang/invoke/VarHandle" ∧ (parseMethodDescriptor (uY uL_whole).desc).map (fun d => d.parameters.length) = some 2 := by decide +kernel
def fL_whole_14 (n : Nat) (M : zM) (s0 : Nat) (s1 : Int32) (s2 : Int64) : Option (Int32 × zM) :=
  chk (mK M s0 == 12) <|
  chk (zin s1 (mN M s0)) <|
  app (wL M s0 (Int32.toNatClampNeg s1) s2) fun M_3 : zM =>
  some ((0 : Int32), M_3)
set_option maxHeartbeats 4000000 in
theorem tL_whole_14 (n : Nat) (M : zM) (s0 : Nat) (s1 : Int32) (s2 : Int64) (r : Int32) (M' : zM) (h : fL_whole_14 n M s0 s1 s2 = some (r, M')) : zW uL_whole none (1, 6) M 14 [] [.long s2, .int s1, .ref s0] (zE (oI r) M') := by
  unfold fL_whole_14 at h
  obtain ⟨c_1, h⟩ := chk_some h
  obtain ⟨c_2, h⟩ := chk_some h
  obtain ⟨M_3, e_4, h⟩ := app_some h
  refine zr_last (q := 15) dL_whole_14 rfl (eq_of_beq c_1) c_2 ?_
  refine zr_mem e_4 ?_
  refine zr_goto (q := 21) dL_whole_15 (by decide) ?_
  refine zr_iconst (q := 22) (v := 0) dL_whole_21 rfl (by decide) ?_
  cases h
  exact zr_ireturn dL_whole_22 rfl ⟨by decide, by decide⟩ ⟨rfl, rfl⟩
def fL_whole (n : Nat) (M : zM) (v0 : Nat) (v1 : Nat) : Option (Int32 × zM) :=
  chk (mK M v0 == 9) <|
  bndC (fX9_whole n M v0) (fun r_1 M_2 =>
    if r_1 = (0 : Int32) then
      fL_whole_14 n M_2 v1 (0 : Int32) (0 : Int64)
    else
    fL_whole_14 n M_2 v1 (0 : Int32) (1 : Int64)) (fun E_4 M_2 => if E_4 = "java/lang/IllegalStateException" then some ((1 : Int32), M_2) else none)
set_option maxHeartbeats 4000000 in
theorem tL_whole (n : Nat) (M : zM) (v0 : Nat) (v1 : Nat) (r : Int32) (M' : zM) (h : fL_whole n M v0 v1 = some (r, M')) : zMet uL_whole false M [.ref v0, .ref v1] (zE (oI r) M') := by
  refine zMet_ofH (L := [(0, .ref v0), (1, .ref v1)]) (by decide +kernel) rfl rfl (Nat.le_of_ble_eq_true rfl) ?_
  show zW uL_whole none (0, 0) M 0 [(0, .ref v0), (1, .ref v1)] [] (zE (oI r) M')
  unfold fL_whole at h
  refine zr_aload_n (q := 1) dL_whole_0 rfl rfl 1 rfl ?_
  refine zr_iconst (q := 2) (v := 0) dL_whole_1 rfl (by decide) ?_
  refine zr_aload_n (q := 3) dL_whole_2 rfl rfl 0 rfl ?_
  obtain ⟨c_5, h⟩ := chk_some h
  rcases bndC_some h with ⟨r_1, M_2, hc_3, h⟩ | ⟨E_4, M_2, hc_3, h⟩
  · refine zr_callG (μ' := uX9_whole) (n := 0) (ci := 9) (As := []) (st := [.int (0 : Int32), .ref v1]) (tX9_whole n M v0 _ _ hc_3) dL_whole_3 rfl ⟨zb_638, zb_639, zb_640, zb_641, zb_25⟩ zd_X9_whole ⟨by decide, by decide⟩ ⟨by decide, by decide⟩ (eq_of_beq c_5) (by decide) rfl rfl rfl (Nat.le_of_ble_eq_true rfl) (fun E9 M9 e9 => by cases e9.1) (fun r9 M9 e9 => ?_)
    obtain ⟨e1, e2⟩ := e9
    replace e2 := e2.symm
    cases e1; subst e2
    show zW uL_whole none (1, 6) M_2 6 [(0, .ref v0), (1, .ref v1)] [.int r_1, .int (0 : Int32), .ref v1] (zE (oI r) M')
    refine zr_if_eq (q := 9) (tgt := 13) dL_whole_6 rfl (by decide) (fun c_6 => ?_) (fun c_6 => ?_)
    · replace h := ite_t c_6 h
      refine zr_lconst (q := 14) (v := 0) dL_whole_13 rfl (by decide) ?_
      exact zr_pick [] rfl (tL_whole_14 n M_2 v1 (0 : Int32) (0 : Int64) _ _ h)
    · replace h := ite_f c_6 h
      refine zr_lconst (q := 10) (v := 1) dL_whole_9 rfl (by decide) ?_
      refine zr_goto (q := 14) dL_whole_10 (by decide) ?_
      exact zr_pick [] rfl (tL_whole_14 n M_2 v1 (0 : Int32) (1 : Int64) _ _ h)
  · by_cases c_7 : E_4 = "java/lang/IllegalStateException"
    · replace h := ite_t c_7 h
      subst c_7
      cases h
      exact zr_callG (μ' := uX9_whole) (n := 0) (ci := 9) (As := []) (st := [.int (0 : Int32), .ref v1]) (tX9_whole n M v0 _ _ hc_3) dL_whole_3 rfl ⟨zb_638, zb_639, zb_640, zb_641, zb_25⟩ zd_X9_whole ⟨by decide, by decide⟩ ⟨by decide, by decide⟩ (eq_of_beq c_5) (by decide) rfl rfl rfl (Nat.le_of_ble_eq_true rfl) (fun E9 M9 e9 => by
        obtain ⟨e1, e2⟩ := e9
        cases e1; subst e2
        exact zcaught (u := (1, 6)) (pre := []) (x := (0, 15, 18, 15)) (suf := []) (i := 2) (v := 1) rfl (fun _ h9 => by cases h9) ⟨rfl, rfl⟩ (by decide) zb_612 (by decide) (Or.inr ⟨2, rfl, dL_whole_18, rfl⟩) (by decide) dL_whole_19 (by decide) rfl dL_whole_20 rfl ⟨by decide, by decide⟩ ⟨rfl, rfl⟩) (fun r9 M9 e9 => by cases e9.1)
    · replace h := ite_f c_7 h
      cases h

def uL_finds : zMu := (yL_finds, cL_finds, 3, (some .int), { frames := 8, cells := 1, slots := 6, locals := 121 }, [(0, 8, 11, 15)])
theorem zd_L_finds : (uY uL_finds).cls ≠ "java/lang/invoke/MethodHandle" ∧ (uY uL_finds).cls ≠ "java/lang/invoke/VarHandle" ∧ (parseMethodDescriptor (uY uL_finds).desc).map (fun d => d.parameters.length) = some 2 := by decide +kernel
def fL_finds (n : Nat) (M : zM) (v0 : Nat) (v1 : Nat) : Option (Int32 × zM) :=
  chk (mK M v0 == 9) <|
  bndC (fX9_finds n M v0) (fun r_1 M_2 =>
    chk (mK M_2 v1 == 12) <|
    chk (zin (0 : Int32) (mN M_2 v1)) <|
    app (wL M_2 v1 (Int32.toNatClampNeg (0 : Int32)) (Int32.toInt64 r_1)) fun M_8 : zM =>
    some ((0 : Int32), M_8)) (fun E_4 M_2 => if E_4 = "java/lang/IllegalStateException" then some ((1 : Int32), M_2) else none)
set_option maxHeartbeats 4000000 in
theorem tL_finds (n : Nat) (M : zM) (v0 : Nat) (v1 : Nat) (r : Int32) (M' : zM) (h : fL_finds n M v0 v1 = some (r, M')) : zMet uL_finds false M [.ref v0, .ref v1] (zE (oI r) M') := by
  refine zMet_ofH (L := [(0, .ref v0), (1, .ref v1)]) (by decide +kernel) rfl rfl (Nat.le_of_ble_eq_true rfl) ?_
  show zW uL_finds none (0, 0) M 0 [(0, .ref v0), (1, .ref v1)] [] (zE (oI r) M')
  unfold fL_finds at h
  refine zr_aload_n (q := 1) dL_finds_0 rfl rfl 1 rfl ?_
  refine zr_iconst (q := 2) (v := 0) dL_finds_1 rfl (by decide) ?_
  refine zr_aload_n (q := 3) dL_finds_2 rfl rfl 0 rfl ?_
  obtain ⟨c_5, h⟩ := chk_some h
  rcases bndC_some h with ⟨r_1, M_2, hc_3, h⟩ | ⟨E_4, M_2, hc_3, h⟩
  · refine zr_callG (μ' := uX9_finds) (n := 0) (ci := 9) (As := []) (st := [.int (0 : Int32), .ref v1]) (tX9_finds n M v0 _ _ hc_3) dL_finds_3 rfl ⟨zb_642, zb_643, zb_644, zb_645, zb_25⟩ zd_X9_finds ⟨by decide, by decide⟩ ⟨by decide, by decide⟩ (eq_of_beq c_5) (by decide) rfl rfl rfl (Nat.le_of_ble_eq_true rfl) (fun E9 M9 e9 => by cases e9.1) (fun r9 M9 e9 => ?_)
    obtain ⟨e1, e2⟩ := e9
    replace e2 := e2.symm
    cases e1; subst e2
    show zW uL_finds none (1, 6) M_2 6 [(0, .ref v0), (1, .ref v1)] [.int r_1, .int (0 : Int32), .ref v1] (zE (oI r) M')
    refine zr_i2l (q := 7) dL_finds_6 rfl ?_
    obtain ⟨c_6, h⟩ := chk_some h
    obtain ⟨c_7, h⟩ := chk_some h
    obtain ⟨M_8, e_9, h⟩ := app_some h
    refine zr_last (q := 8) dL_finds_7 rfl (eq_of_beq c_6) c_7 ?_
    refine zr_mem e_9 ?_
    refine zr_goto (q := 14) dL_finds_8 (by decide) ?_
    refine zr_iconst (q := 15) (v := 0) dL_finds_14 rfl (by decide) ?_
    cases h
    exact zr_ireturn dL_finds_15 rfl ⟨by decide, by decide⟩ ⟨rfl, rfl⟩
  · by_cases c_10 : E_4 = "java/lang/IllegalStateException"
    · replace h := ite_t c_10 h
      subst c_10
      cases h
      exact zr_callG (μ' := uX9_finds) (n := 0) (ci := 9) (As := []) (st := [.int (0 : Int32), .ref v1]) (tX9_finds n M v0 _ _ hc_3) dL_finds_3 rfl ⟨zb_642, zb_643, zb_644, zb_645, zb_25⟩ zd_X9_finds ⟨by decide, by decide⟩ ⟨by decide, by decide⟩ (eq_of_beq c_5) (by decide) rfl rfl rfl (Nat.le_of_ble_eq_true rfl) (fun E9 M9 e9 => by
        obtain ⟨e1, e2⟩ := e9
        cases e1; subst e2
        exact zcaught (u := (1, 6)) (pre := []) (x := (0, 8, 11, 15)) (suf := []) (i := 2) (v := 1) rfl (fun _ h9 => by cases h9) ⟨rfl, rfl⟩ (by decide) zb_612 (by decide) (Or.inr ⟨2, rfl, dL_finds_11, rfl⟩) (by decide) dL_finds_12 (by decide) rfl dL_finds_13 rfl ⟨by decide, by decide⟩ ⟨rfl, rfl⟩) (fun r9 M9 e9 => by cases e9.1)
    · replace h := ite_f c_10 h
      cases h

def uL_find : zMu := (yL_find, cL_find, 5, (some .int), { frames := 8, cells := 2, slots := 12, locals := 123 }, [(0, 10, 13, 15), (0, 10, 17, 29)])
theorem zd_L_find : (uY uL_find).cls ≠ "java/lang/invoke/MethodHandle" ∧ (uY uL_find).cls ≠ "java/lang/invoke/VarHandle" ∧ (parseMethodDescriptor (uY uL_find).desc).map (fun d => d.parameters.length) = some 4 := by decide +kernel
def fL_find (n : Nat) (M : zM) (v0 : Nat) (v1 : Int32) (v2 : Int32) (v3 : Nat) : Option (Int32 × zM) :=
  chk (mK M v0 == 9) <|
  bndC (fX9_find n M v0 v1 v2) (fun r_1 M_2 =>
    chk (mK M_2 v3 == 12) <|
    chk (zin (0 : Int32) (mN M_2 v3)) <|
    app (wL M_2 v3 (Int32.toNatClampNeg (0 : Int32)) (Int32.toInt64 r_1)) fun M_8 : zM =>
    some ((0 : Int32), M_8)) (fun E_4 M_2 => if E_4 = "java/lang/IllegalStateException" then some ((1 : Int32), M_2) else if E_4 = "java/lang/IndexOutOfBoundsException" then some ((2 : Int32), M_2) else none)
set_option maxHeartbeats 4000000 in
theorem tL_find (n : Nat) (M : zM) (v0 : Nat) (v1 : Int32) (v2 : Int32) (v3 : Nat) (r : Int32) (M' : zM) (h : fL_find n M v0 v1 v2 v3 = some (r, M')) : zMet uL_find false M [.ref v0, .int v1, .int v2, .ref v3] (zE (oI r) M') := by
  refine zMet_ofH (L := [(0, .ref v0), (1, .int v1), (2, .int v2), (3, .ref v3)]) (by decide +kernel) rfl rfl (Nat.le_of_ble_eq_true rfl) ?_
  show zW uL_find none (0, 0) M 0 [(0, .ref v0), (1, .int v1), (2, .int v2), (3, .ref v3)] [] (zE (oI r) M')
  unfold fL_find at h
  refine zr_aload_n (q := 1) dL_find_0 rfl rfl 3 rfl ?_
  refine zr_iconst (q := 2) (v := 0) dL_find_1 rfl (by decide) ?_
  refine zr_aload_n (q := 3) dL_find_2 rfl rfl 0 rfl ?_
  refine zr_iload_n (q := 4) dL_find_3 rfl rfl 1 rfl ?_
  refine zr_iload_n (q := 5) dL_find_4 rfl rfl 2 rfl ?_
  obtain ⟨c_5, h⟩ := chk_some h
  rcases bndC_some h with ⟨r_1, M_2, hc_3, h⟩ | ⟨E_4, M_2, hc_3, h⟩
  · refine zr_callG (μ' := uX9_find) (n := 2) (ci := 9) (As := [.int v1, .int v2]) (st := [.int (0 : Int32), .ref v3]) (tX9_find n M v0 v1 v2 _ _ hc_3) dL_find_5 rfl ⟨zb_646, zb_647, zb_648, zb_649, zb_25⟩ zd_X9_find ⟨by decide, by decide⟩ ⟨by decide, by decide⟩ (eq_of_beq c_5) (by decide) rfl rfl rfl (Nat.le_of_ble_eq_true rfl) (fun E9 M9 e9 => by cases e9.1) (fun r9 M9 e9 => ?_)
    obtain ⟨e1, e2⟩ := e9
    replace e2 := e2.symm
    cases e1; subst e2
    show zW uL_find none (2, 12) M_2 8 [(0, .ref v0), (1, .int v1), (2, .int v2), (3, .ref v3)] [.int r_1, .int (0 : Int32), .ref v3] (zE (oI r) M')
    refine zr_i2l (q := 9) dL_find_8 rfl ?_
    obtain ⟨c_6, h⟩ := chk_some h
    obtain ⟨c_7, h⟩ := chk_some h
    obtain ⟨M_8, e_9, h⟩ := app_some h
    refine zr_last (q := 10) dL_find_9 rfl (eq_of_beq c_6) c_7 ?_
    refine zr_mem e_9 ?_
    refine zr_goto (q := 21) dL_find_10 (by decide) ?_
    refine zr_iconst (q := 22) (v := 0) dL_find_21 rfl (by decide) ?_
    cases h
    exact zr_ireturn dL_find_22 rfl ⟨by decide, by decide⟩ ⟨rfl, rfl⟩
  · by_cases c_11 : E_4 = "java/lang/IllegalStateException"
    · replace h := ite_t c_11 h
      subst c_11
      cases h
      exact zr_callG (μ' := uX9_find) (n := 2) (ci := 9) (As := [.int v1, .int v2]) (st := [.int (0 : Int32), .ref v3]) (tX9_find n M v0 v1 v2 _ _ hc_3) dL_find_5 rfl ⟨zb_646, zb_647, zb_648, zb_649, zb_25⟩ zd_X9_find ⟨by decide, by decide⟩ ⟨by decide, by decide⟩ (eq_of_beq c_5) (by decide) rfl rfl rfl (Nat.le_of_ble_eq_true rfl) (fun E9 M9 e9 => by
        obtain ⟨e1, e2⟩ := e9
        cases e1; subst e2
        exact zcaught (u := (2, 12)) (pre := []) (x := (0, 10, 13, 15)) (suf := [(0, 10, 17, 29)]) (i := 4) (v := 1) rfl (fun _ h9 => by cases h9) ⟨rfl, rfl⟩ (by decide) zb_612 (by decide) (Or.inl ⟨dL_find_13, rfl⟩) (by decide) dL_find_15 (by decide) rfl dL_find_16 rfl ⟨by decide, by decide⟩ ⟨rfl, rfl⟩) (fun r9 M9 e9 => by cases e9.1)
    · replace h := ite_f c_11 h
      by_cases c_10 : E_4 = "java/lang/IndexOutOfBoundsException"
      · replace h := ite_t c_10 h
        subst c_10
        cases h
        exact zr_callG (μ' := uX9_find) (n := 2) (ci := 9) (As := [.int v1, .int v2]) (st := [.int (0 : Int32), .ref v3]) (tX9_find n M v0 v1 v2 _ _ hc_3) dL_find_5 rfl ⟨zb_646, zb_647, zb_648, zb_649, zb_25⟩ zd_X9_find ⟨by decide, by decide⟩ ⟨by decide, by decide⟩ (eq_of_beq c_5) (by decide) rfl rfl rfl (Nat.le_of_ble_eq_true rfl) (fun E9 M9 e9 => by
          obtain ⟨e1, e2⟩ := e9
          cases e1; subst e2
          exact zcaught (u := (2, 12)) (pre := [(0, 10, 13, 15)]) (x := (0, 10, 17, 29)) (suf := []) (i := 4) (v := 2) rfl (List.forall_mem_cons.mpr ⟨⟨by decide, "java/lang/IllegalStateException", zb_612, by decide⟩, fun _ h9 => by cases h9⟩) ⟨rfl, rfl⟩ (by decide) zb_625 (by decide) (Or.inl ⟨dL_find_17, rfl⟩) (by decide) dL_find_19 (by decide) rfl dL_find_20 rfl ⟨by decide, by decide⟩ ⟨rfl, rfl⟩) (fun r9 M9 e9 => by cases e9.1)
      · replace h := ite_f c_10 h
        cases h

def uL_states : zMu := (yL_states, cL_states, 3, (some .int), { frames := 8, cells := 1, slots := 6, locals := 145 }, [(0, 8, 11, 15)])
theorem zd_L_states : (uY uL_states).cls ≠ "java/lang/invoke/MethodHandle" ∧ (uY uL_states).cls ≠ "java/lang/invoke/VarHandle" ∧ (parseMethodDescriptor (uY uL_states).desc).map (fun d => d.parameters.length) = some 2 := by decide +kernel
def fL_states (n : Nat) (M : zM) (v0 : Nat) (v1 : Nat) : Option (Int32 × zM) :=
  chk (mK M v0 == 9) <|
  bndC (fX9_states n M v0) (fun r_1 M_2 =>
    chk (mK M_2 v1 == 12) <|
    chk (zin (0 : Int32) (mN M_2 v1)) <|
    app (wL M_2 v1 (Int32.toNatClampNeg (0 : Int32)) (Int32.toInt64 r_1)) fun M_8 : zM =>
    some ((0 : Int32), M_8)) (fun E_4 M_2 => if E_4 = "java/lang/IllegalStateException" then some ((1 : Int32), M_2) else none)
set_option maxHeartbeats 4000000 in
theorem tL_states (n : Nat) (M : zM) (v0 : Nat) (v1 : Nat) (r : Int32) (M' : zM) (h : fL_states n M v0 v1 = some (r, M')) : zMet uL_states false M [.ref v0, .ref v1] (zE (oI r) M') := by
  refine zMet_ofH (L := [(0, .ref v0), (1, .ref v1)]) (by decide +kernel) rfl rfl (Nat.le_of_ble_eq_true rfl) ?_
  show zW uL_states none (0, 0) M 0 [(0, .ref v0), (1, .ref v1)] [] (zE (oI r) M')
  unfold fL_states at h
  refine zr_aload_n (q := 1) dL_states_0 rfl rfl 1 rfl ?_
  refine zr_iconst (q := 2) (v := 0) dL_states_1 rfl (by decide) ?_
  refine zr_aload_n (q := 3) dL_states_2 rfl rfl 0 rfl ?_
  obtain ⟨c_5, h⟩ := chk_some h
  rcases bndC_some h with ⟨r_1, M_2, hc_3, h⟩ | ⟨E_4, M_2, hc_3, h⟩
  · refine zr_callG (μ' := uX9_states) (n := 0) (ci := 9) (As := []) (st := [.int (0 : Int32), .ref v1]) (tX9_states n M v0 _ _ hc_3) dL_states_3 rfl ⟨zb_650, zb_651, zb_652, zb_653, zb_25⟩ zd_X9_states ⟨by decide, by decide⟩ ⟨by decide, by decide⟩ (eq_of_beq c_5) (by decide) rfl rfl rfl (Nat.le_of_ble_eq_true rfl) (fun E9 M9 e9 => by cases e9.1) (fun r9 M9 e9 => ?_)
    obtain ⟨e1, e2⟩ := e9
    replace e2 := e2.symm
    cases e1; subst e2
    show zW uL_states none (1, 6) M_2 6 [(0, .ref v0), (1, .ref v1)] [.int r_1, .int (0 : Int32), .ref v1] (zE (oI r) M')
    refine zr_i2l (q := 7) dL_states_6 rfl ?_
    obtain ⟨c_6, h⟩ := chk_some h
    obtain ⟨c_7, h⟩ := chk_some h
    obtain ⟨M_8, e_9, h⟩ := app_some h
    refine zr_last (q := 8) dL_states_7 rfl (eq_of_beq c_6) c_7 ?_
    refine zr_mem e_9 ?_
    refine zr_goto (q := 14) dL_states_8 (by decide) ?_
    refine zr_iconst (q := 15) (v := 0) dL_states_14 rfl (by decide) ?_
    cases h
    exact zr_ireturn dL_states_15 rfl ⟨by decide, by decide⟩ ⟨rfl, rfl⟩
  · by_cases c_10 : E_4 = "java/lang/IllegalStateException"
    · replace h := ite_t c_10 h
      subst c_10
      cases h
      exact zr_callG (μ' := uX9_states) (n := 0) (ci := 9) (As := []) (st := [.int (0 : Int32), .ref v1]) (tX9_states n M v0 _ _ hc_3) dL_states_3 rfl ⟨zb_650, zb_651, zb_652, zb_653, zb_25⟩ zd_X9_states ⟨by decide, by decide⟩ ⟨by decide, by decide⟩ (eq_of_beq c_5) (by decide) rfl rfl rfl (Nat.le_of_ble_eq_true rfl) (fun E9 M9 e9 => by
        obtain ⟨e1, e2⟩ := e9
        cases e1; subst e2
        exact zcaught (u := (1, 6)) (pre := []) (x := (0, 8, 11, 15)) (suf := []) (i := 2) (v := 1) rfl (fun _ h9 => by cases h9) ⟨rfl, rfl⟩ (by decide) zb_612 (by decide) (Or.inr ⟨2, rfl, dL_states_11, rfl⟩) (by decide) dL_states_12 (by decide) rfl dL_states_13 rfl ⟨by decide, by decide⟩ ⟨rfl, rfl⟩) (fun r9 M9 e9 => by cases e9.1)
    · replace h := ite_f c_10 h
      cases h

def uL_next : zMu := (yL_next, cL_next, 5, (some .int), { frames := 8, cells := 2, slots := 12, locals := 148 }, [(0, 10, 13, 15), (0, 10, 17, 29)])
theorem zd_L_next : (uY uL_next).cls ≠ "java/lang/invoke/MethodHandle" ∧ (uY uL_next).cls ≠ "java/lang/invoke/VarHandle" ∧ (parseMethodDescriptor (uY uL_next).desc).map (fun d => d.parameters.length) = some 4 := by decide +kernel
def fL_next (n : Nat) (M : zM) (v0 : Nat) (v1 : Int32) (v2 : Int32) (v3 : Nat) : Option (Int32 × zM) :=
  chk (mK M v0 == 9) <|
  bndC (fX9_next n M v0 v1 v2) (fun r_1 M_2 =>
    chk (mK M_2 v3 == 12) <|
    chk (zin (0 : Int32) (mN M_2 v3)) <|
    app (wL M_2 v3 (Int32.toNatClampNeg (0 : Int32)) (Int32.toInt64 r_1)) fun M_8 : zM =>
    some ((0 : Int32), M_8)) (fun E_4 M_2 => if E_4 = "java/lang/IllegalStateException" then some ((1 : Int32), M_2) else if E_4 = "java/lang/IndexOutOfBoundsException" then some ((2 : Int32), M_2) else none)
set_option maxHeartbeats 4000000 in
theorem tL_next (n : Nat) (M : zM) (v0 : Nat) (v1 : Int32) (v2 : Int32) (v3 : Nat) (r : Int32) (M' : zM) (h : fL_next n M v0 v1 v2 v3 = some (r, M')) : zMet uL_next false M [.ref v0, .int v1, .int v2, .ref v3] (zE (oI r) M') := by
  refine zMet_ofH (L := [(0, .ref v0), (1, .int v1), (2, .int v2), (3, .ref v3)]) (by decide +kernel) rfl rfl (Nat.le_of_ble_eq_true rfl) ?_
  show zW uL_next none (0, 0) M 0 [(0, .ref v0), (1, .int v1), (2, .int v2), (3, .ref v3)] [] (zE (oI r) M')
  unfold fL_next at h
  refine zr_aload_n (q := 1) dL_next_0 rfl rfl 3 rfl ?_
  refine zr_iconst (q := 2) (v := 0) dL_next_1 rfl (by decide) ?_
  refine zr_aload_n (q := 3) dL_next_2 rfl rfl 0 rfl ?_
  refine zr_iload_n (q := 4) dL_next_3 rfl rfl 1 rfl ?_
  refine zr_iload_n (q := 5) dL_next_4 rfl rfl 2 rfl ?_
  obtain ⟨c_5, h⟩ := chk_some h
  rcases bndC_some h with ⟨r_1, M_2, hc_3, h⟩ | ⟨E_4, M_2, hc_3, h⟩
  · refine zr_callG (μ' := uX9_next) (n := 2) (ci := 9) (As := [.int v1, .int v2]) (st := [.int (0 : Int32), .ref v3]) (tX9_next n M v0 v1 v2 _ _ hc_3) dL_next_5 rfl ⟨zb_654, zb_655, zb_656, zb_657, zb_25⟩ zd_X9_next ⟨by decide, by decide⟩ ⟨by decide, by decide⟩ (eq_of_beq c_5) (by decide) rfl rfl rfl (Nat.le_of_ble_eq_true rfl) (fun E9 M9 e9 => by cases e9.1) (fun r9 M9 e9 => ?_)
    obtain ⟨e1, e2⟩ := e9
    replace e2 := e2.symm
    cases e1; subst e2
    show zW uL_next none (2, 12) M_2 8 [(0, .ref v0), (1, .int v1), (2, .int v2), (3, .ref v3)] [.int r_1, .int (0 : Int32), .ref v3] (zE (oI r) M')
    refine zr_i2l (q := 9) dL_next_8 rfl ?_
    obtain ⟨c_6, h⟩ := chk_some h
    obtain ⟨c_7, h⟩ := chk_some h
    obtain ⟨M_8, e_9, h⟩ := app_some h
    refine zr_last (q := 10) dL_next_9 rfl (eq_of_beq c_6) c_7 ?_
    refine zr_mem e_9 ?_
    refine zr_goto (q := 21) dL_next_10 (by decide) ?_
    refine zr_iconst (q := 22) (v := 0) dL_next_21 rfl (by decide) ?_
    cases h
    exact zr_ireturn dL_next_22 rfl ⟨by decide, by decide⟩ ⟨rfl, rfl⟩
  · by_cases c_11 : E_4 = "java/lang/IllegalStateException"
    · replace h := ite_t c_11 h
      subst c_11
      cases h
      exact zr_callG (μ' := uX9_next) (n := 2) (ci := 9) (As := [.int v1, .int v2]) (st := [.int (0 : Int32), .ref v3]) (tX9_next n M v0 v1 v2 _ _ hc_3) dL_next_5 rfl ⟨zb_654, zb_655, zb_656, zb_657, zb_25⟩ zd_X9_next ⟨by decide, by decide⟩ ⟨by decide, by decide⟩ (eq_of_beq c_5) (by decide) rfl rfl rfl (Nat.le_of_ble_eq_true rfl) (fun E9 M9 e9 => by
        obtain ⟨e1, e2⟩ := e9
        cases e1; subst e2
        exact zcaught (u := (2, 12)) (pre := []) (x := (0, 10, 13, 15)) (suf := [(0, 10, 17, 29)]) (i := 4) (v := 1) rfl (fun _ h9 => by cases h9) ⟨rfl, rfl⟩ (by decide) zb_612 (by decide) (Or.inl ⟨dL_next_13, rfl⟩) (by decide) dL_next_15 (by decide) rfl dL_next_16 rfl ⟨by decide, by decide⟩ ⟨rfl, rfl⟩) (fun r9 M9 e9 => by cases e9.1)
    · replace h := ite_f c_11 h
      by_cases c_10 : E_4 = "java/lang/IndexOutOfBoundsException"
      · replace h := ite_t c_10 h
        subst c_10
        cases h
        exact zr_callG (μ' := uX9_next) (n := 2) (ci := 9) (As := [.int v1, .int v2]) (st := [.int (0 : Int32), .ref v3]) (tX9_next n M v0 v1 v2 _ _ hc_3) dL_next_5 rfl ⟨zb_654, zb_655, zb_656, zb_657, zb_25⟩ zd_X9_next ⟨by decide, by decide⟩ ⟨by decide, by decide⟩ (eq_of_beq c_5) (by decide) rfl rfl rfl (Nat.le_of_ble_eq_true rfl) (fun E9 M9 e9 => by
          obtain ⟨e1, e2⟩ := e9
          cases e1; subst e2
          exact zcaught (u := (2, 12)) (pre := [(0, 10, 13, 15)]) (x := (0, 10, 17, 29)) (suf := []) (i := 4) (v := 2) rfl (List.forall_mem_cons.mpr ⟨⟨by decide, "java/lang/IllegalStateException", zb_612, by decide⟩, fun _ h9 => by cases h9⟩) ⟨rfl, rfl⟩ (by decide) zb_625 (by decide) (Or.inl ⟨dL_next_17, rfl⟩) (by decide) dL_next_19 (by decide) rfl dL_next_20 rfl ⟨by decide, by decide⟩ ⟨rfl, rfl⟩) (fun r9 M9 e9 => by cases e9.1)
      · replace h := ite_f c_10 h
        cases h

def uL_good : zMu := (yL_good, cL_good, 4, (some .int), { frames := 8, cells := 2, slots := 12, locals := 147 }, [(0, 16, 19, 15), (0, 16, 22, 29)])
theorem zd_L_good : (uY uL_good).cls ≠ "java/lang/invoke/MethodHandle" ∧ (uY uL_good).cls ≠ "java/lang/invoke/VarHandle" ∧ (parseMethodDescriptor (uY uL_good).desc).map (fun d => d.parameters.length) = some 3 := by decide +kernel
def fL_good_15 (n : Nat) (M : zM) (s0 : Nat) (s1 : Int32) (s2 : Int64) : Option (Int32 × zM) :=
  chk (mK M s0 == 12) <|
  chk (zin s1 (mN M s0)) <|
  app (wL M s0 (Int32.toNatClampNeg s1) s2) fun M_3 : zM =>
  some ((0 : Int32), M_3)
set_option maxHeartbeats 4000000 in
theorem tL_good_15 (n : Nat) (M : zM) (s0 : Nat) (s1 : Int32) (s2 : Int64) (r : Int32) (M' : zM) (h : fL_good_15 n M s0 s1 s2 = some (r, M')) : zW uL_good none (2, 12) M 15 [] [.long s2, .int s1, .ref s0] (zE (oI r) M') := by
  unfold fL_good_15 at h
  obtain ⟨c_1, h⟩ := chk_some h
  obtain ⟨c_2, h⟩ := chk_some h
  obtain ⟨M_3, e_4, h⟩ := app_some h
  refine zr_last (q := 16) dL_good_15 rfl (eq_of_beq c_1) c_2 ?_
  refine zr_mem e_4 ?_
  refine zr_goto (q := 25) dL_good_16 (by decide) ?_
  refine zr_iconst (q := 26) (v := 0) dL_good_25 rfl (by decide) ?_
  cases h
  exact zr_ireturn dL_good_26 rfl ⟨by decide, by decide⟩ ⟨rfl, rfl⟩
def fL_good (n : Nat) (M : zM) (v0 : Nat) (v1 : Int32) (v2 : Nat) : Option (Int32 × zM) :=
  chk (mK M v0 == 9) <|
  bndC (fX9_good n M v0 v1) (fun r_1 M_2 =>
    if r_1 = (0 : Int32) then
      fL_good_15 n M_2 v2 (0 : Int32) (0 : Int64)
    else
    fL_good_15 n M_2 v2 (0 : Int32) (1 : Int64)) (fun E_4 M_2 => if E_4 = "java/lang/IllegalStateException" then some ((1 : Int32), M_2) else if E_4 = "java/lang/IndexOutOfBoundsException" then some ((2 : Int32), M_2) else none)
set_option maxHeartbeats 4000000 in
theorem tL_good (n : Nat) (M : zM) (v0 : Nat) (v1 : Int32) (v2 : Nat) (r : Int32) (M' : zM) (h : fL_good n M v0 v1 v2 = some (r, M')) : zMet uL_good false M [.ref v0, .int v1, .ref v2] (zE (oI r) M') := by
  refine zMet_ofH (L := [(0, .ref v0), (1, .int v1), (2, .ref v2)]) (by decide +kernel) rfl rfl (Nat.le_of_ble_eq_true rfl) ?_
  show zW uL_good none (0, 0) M 0 [(0, .ref v0), (1, .int v1), (2, .ref v2)] [] (zE (oI r) M')
  unfold fL_good at h
  refine zr_aload_n (q := 1) dL_good_0 rfl rfl 2 rfl ?_
  refine zr_iconst (q := 2) (v := 0) dL_good_1 rfl (by decide) ?_
  refine zr_aload_n (q := 3) dL_good_2 rfl rfl 0 rfl ?_
  refine zr_iload_n (q := 4) dL_good_3 rfl rfl 1 rfl ?_
  obtain ⟨c_5, h⟩ := chk_some h
  rcases bndC_some h with ⟨r_1, M_2, hc_3, h⟩ | ⟨E_4, M_2, hc_3, h⟩
  · refine zr_callG (μ' := uX9_good) (n := 1) (ci := 9) (As := [.int v1]) (st := [.int (0 : Int32), .ref v2]) (tX9_good n M v0 v1 _ _ hc_3) dL_good_4 rfl ⟨zb_658, zb_659, zb_660, zb_661, zb_25⟩ zd_X9_good ⟨by decide, by decide⟩ ⟨by decide, by decide⟩ (eq_of_beq c_5) (by decide) rfl rfl rfl (Nat.le_of_ble_eq_true rfl) (fun E9 M9 e9 => by cases e9.1) (fun r9 M9 e9 => ?_)
    obtain ⟨e1, e2⟩ := e9
    replace e2 := e2.symm
    cases e1; subst e2
    show zW uL_good none (2, 12) M_2 7 [(0, .ref v0), (1, .int v1), (2, .ref v2)] [.int r_1, .int (0 : Int32), .ref v2] (zE (oI r) M')
    refine zr_if_eq (q := 10) (tgt := 14) dL_good_7 rfl (by decide) (fun c_6 => ?_) (fun c_6 => ?_)
    · replace h := ite_t c_6 h
      refine zr_lconst (q := 15) (v := 0) dL_good_14 rfl (by decide) ?_
      exact zr_pick [] rfl (tL_good_15 n M_2 v2 (0 : Int32) (0 : Int64) _ _ h)
    · replace h := ite_f c_6 h
      refine zr_lconst (q := 11) (v := 1) dL_good_10 rfl (by decide) ?_
      refine zr_goto (q := 15) dL_good_11 (by decide) ?_
      exact zr_pick [] rfl (tL_good_15 n M_2 v2 (0 : Int32) (1 : Int64) _ _ h)
  · by_cases c_8 : E_4 = "java/lang/IllegalStateException"
    · replace h := ite_t c_8 h
      subst c_8
      cases h
      exact zr_callG (μ' := uX9_good) (n := 1) (ci := 9) (As := [.int v1]) (st := [.int (0 : Int32), .ref v2]) (tX9_good n M v0 v1 _ _ hc_3) dL_good_4 rfl ⟨zb_658, zb_659, zb_660, zb_661, zb_25⟩ zd_X9_good ⟨by decide, by decide⟩ ⟨by decide, by decide⟩ (eq_of_beq c_5) (by decide) rfl rfl rfl (Nat.le_of_ble_eq_true rfl) (fun E9 M9 e9 => by
        obtain ⟨e1, e2⟩ := e9
        cases e1; subst e2
        exact zcaught (u := (2, 12)) (pre := []) (x := (0, 16, 19, 15)) (suf := [(0, 16, 22, 29)]) (i := 3) (v := 1) rfl (fun _ h9 => by cases h9) ⟨rfl, rfl⟩ (by decide) zb_612 (by decide) (Or.inr ⟨3, rfl, dL_good_19, rfl⟩) (by decide) dL_good_20 (by decide) rfl dL_good_21 rfl ⟨by decide, by decide⟩ ⟨rfl, rfl⟩) (fun r9 M9 e9 => by cases e9.1)
    · replace h := ite_f c_8 h
      by_cases c_7 : E_4 = "java/lang/IndexOutOfBoundsException"
      · replace h := ite_t c_7 h
        subst c_7
        cases h
        exact zr_callG (μ' := uX9_good) (n := 1) (ci := 9) (As := [.int v1]) (st := [.int (0 : Int32), .ref v2]) (tX9_good n M v0 v1 _ _ hc_3) dL_good_4 rfl ⟨zb_658, zb_659, zb_660, zb_661, zb_25⟩ zd_X9_good ⟨by decide, by decide⟩ ⟨by decide, by decide⟩ (eq_of_beq c_5) (by decide) rfl rfl rfl (Nat.le_of_ble_eq_true rfl) (fun E9 M9 e9 => by
          obtain ⟨e1, e2⟩ := e9
          cases e1; subst e2
          exact zcaught (u := (2, 12)) (pre := [(0, 16, 19, 15)]) (x := (0, 16, 22, 29)) (suf := []) (i := 3) (v := 2) rfl (List.forall_mem_cons.mpr ⟨⟨by decide, "java/lang/IllegalStateException", zb_612, by decide⟩, fun _ h9 => by cases h9⟩) ⟨rfl, rfl⟩ (by decide) zb_625 (by decide) (Or.inr ⟨3, rfl, dL_good_22, rfl⟩) (by decide) dL_good_23 (by decide) rfl dL_good_24 rfl ⟨by decide, by decide⟩ ⟨rfl, rfl⟩) (fun r9 M9 e9 => by cases e9.1)
      · replace h := ite_f c_7 h
        cases h

def uL_classes : zMu := (yL_classes, cL_classes, 3, (some .int), { frames := 8, cells := 1, slots := 6, locals := 146 }, [(0, 8, 11, 15)])
theorem zd_L_classes : (uY uL_classes).cls ≠ "java/lang/invoke/MethodHandle" ∧ (uY uL_classes).cls ≠ "java/lang/invoke/VarHandle" ∧ (parseMethodDescriptor (uY uL_classes).desc).map (fun d => d.parameters.length) = some 2 := by decide +kernel
def fL_classes (n : Nat) (M : zM) (v0 : Nat) (v1 : Nat) : Option (Int32 × zM) :=
  chk (mK M v0 == 9) <|
  bndC (fX9_classes n M v0) (fun r_1 M_2 =>
    chk (mK M_2 v1 == 12) <|
    chk (zin (0 : Int32) (mN M_2 v1)) <|
    app (wL M_2 v1 (Int32.toNatClampNeg (0 : Int32)) (Int32.toInt64 r_1)) fun M_8 : zM =>
    some ((0 : Int32), M_8)) (fun E_4 M_2 => if E_4 = "java/lang/IllegalStateException" then some ((1 : Int32), M_2) else none)
set_option maxHeartbeats 4000000 in
theorem tL_classes (n : Nat) (M : zM) (v0 : Nat) (v1 : Nat) (r : Int32) (M' : zM) (h : fL_classes n M v0 v1 = some (r, M')) : zMet uL_classes false M [.ref v0, .ref v1] (zE (oI r) M') := by
  refine zMet_ofH (L := [(0, .ref v0), (1, .ref v1)]) (by decide +kernel) rfl rfl (Nat.le_of_ble_eq_true rfl) ?_
  show zW uL_classes none (0, 0) M 0 [(0, .ref v0), (1, .ref v1)] [] (zE (oI r) M')
  unfold fL_classes at h
  refine zr_aload_n (q := 1) dL_classes_0 rfl rfl 1 rfl ?_
  refine zr_iconst (q := 2) (v := 0) dL_classes_1 rfl (by decide) ?_
  refine zr_aload_n (q := 3) dL_classes_2 rfl rfl 0 rfl ?_
  obtain ⟨c_5, h⟩ := chk_some h
  rcases bndC_some h with ⟨r_1, M_2, hc_3, h⟩ | ⟨E_4, M_2, hc_3, h⟩
  · refine zr_callG (μ' := uX9_classes) (n := 0) (ci := 9) (As := []) (st := [.int (0 : Int32), .ref v1]) (tX9_classes n M v0 _ _ hc_3) dL_classes_3 rfl ⟨zb_662, zb_663, zb_664, zb_665, zb_25⟩ zd_X9_classes ⟨by decide, by decide⟩ ⟨by decide, by decide⟩ (eq_of_beq c_5) (by decide) rfl rfl rfl (Nat.le_of_ble_eq_true rfl) (fun E9 M9 e9 => by cases e9.1) (fun r9 M9 e9 => ?_)
    obtain ⟨e1, e2⟩ := e9
    replace e2 := e2.symm
    cases e1; subst e2
    show zW uL_classes none (1, 6) M_2 6 [(0, .ref v0), (1, .ref v1)] [.int r_1, .int (0 : Int32), .ref v1] (zE (oI r) M')
    refine zr_i2l (q := 7) dL_classes_6 rfl ?_
    obtain ⟨c_6, h⟩ := chk_some h
    obtain ⟨c_7, h⟩ := chk_some h
    obtain ⟨M_8, e_9, h⟩ := app_some h
    refine zr_last (q := 8) dL_classes_7 rfl (eq_of_beq c_6) c_7 ?_
    refine zr_mem e_9 ?_
    refine zr_goto (q := 14) dL_classes_8 (by decide) ?_
    refine zr_iconst (q := 15) (v := 0) dL_classes_14 rfl (by decide) ?_
    cases h
    exact zr_ireturn dL_classes_15 rfl ⟨by decide, by decide⟩ ⟨rfl, rfl⟩
  · by_cases c_10 : E_4 = "java/lang/IllegalStateException"
    · replace h := ite_t c_10 h
      subst c_10
      cases h
      exact zr_callG (μ' := uX9_classes) (n := 0) (ci := 9) (As := []) (st := [.int (0 : Int32), .ref v1]) (tX9_classes n M v0 _ _ hc_3) dL_classes_3 rfl ⟨zb_662, zb_663, zb_664, zb_665, zb_25⟩ zd_X9_classes ⟨by decide, by decide⟩ ⟨by decide, by decide⟩ (eq_of_beq c_5) (by decide) rfl rfl rfl (Nat.le_of_ble_eq_true rfl) (fun E9 M9 e9 => by
        obtain ⟨e1, e2⟩ := e9
        cases e1; subst e2
        exact zcaught (u := (1, 6)) (pre := []) (x := (0, 8, 11, 15)) (suf := []) (i := 2) (v := 1) rfl (fun _ h9 => by cases h9) ⟨rfl, rfl⟩ (by decide) zb_612 (by decide) (Or.inr ⟨2, rfl, dL_classes_11, rfl⟩) (by decide) dL_classes_12 (by decide) rfl dL_classes_13 rfl ⟨by decide, by decide⟩ ⟨rfl, rfl⟩) (fun r9 M9 e9 => by cases e9.1)
    · replace h := ite_f c_10 h
      cases h

def uL_keep : zMu := (yL_keep, cL_keep, 2, (some .int), { frames := 8, cells := 1, slots := 6, locals := 121 }, [(0, 4, 7, 15)])
theorem zd_L_keep : (uY uL_keep).cls ≠ "java/lang/invoke/MethodHandle" ∧ (uY uL_keep).cls ≠ "java/lang/invoke/VarHandle" ∧ (parseMethodDescriptor (uY uL_keep).desc).map (fun d => d.parameters.length) = some 1 := by decide +kernel
def fL_keep (n : Nat) (M : zM) (v0 : Nat) : Option (Int32 × zM) :=
  chk (mK M v0 == 9) <|
  bndC (fX9_keep n M v0) (fun r_1 M_2 =>
    some ((0 : Int32), M_2)) (fun E_4 M_2 => if E_4 = "java/lang/IllegalStateException" then some ((1 : Int32), M_2) else none)
set_option maxHeartbeats 4000000 in
theorem tL_keep (n : Nat) (M : zM) (v0 : Nat) (r : Int32) (M' : zM) (h : fL_keep n M v0 = some (r, M')) : zMet uL_keep false M [.ref v0] (zE (oI r) M') := by
  refine zMet_ofH (L := [(0, .ref v0)]) (by decide +kernel) rfl rfl (Nat.le_of_ble_eq_true rfl) ?_
  show zW uL_keep none (0, 0) M 0 [(0, .ref v0)] [] (zE (oI r) M')
  unfold fL_keep at h
  refine zr_aload_n (q := 1) dL_keep_0 rfl rfl 0 rfl ?_
  obtain ⟨c_5, h⟩ := chk_some h
  rcases bndC_some h with ⟨r_1, M_2, hc_3, h⟩ | ⟨E_4, M_2, hc_3, h⟩
  · refine zr_callG (μ' := uX9_keep) (n := 0) (ci := 9) (As := []) (st := []) (tX9_keep n M v0 _ _ hc_3) dL_keep_1 rfl ⟨zb_666, zb_667, zb_668, zb_669, zb_25⟩ zd_X9_keep ⟨by decide, by decide⟩ ⟨by decide, by decide⟩ (eq_of_beq c_5) (by decide) rfl rfl rfl (Nat.le_of_ble_eq_true rfl) (fun E9 M9 e9 => by cases e9.1) (fun r9 M9 e9 => ?_)
    obtain ⟨e1, e2⟩ := e9
    replace e2 := e2.symm
    cases e1; subst e2
    show zW uL_keep none (1, 6) M_2 4 [(0, .ref v0)] [] (zE (oI r) M')
    refine zr_goto (q := 10) dL_keep_4 (by decide) ?_
    refine zr_iconst (q := 11) (v := 0) dL_keep_10 rfl (by decide) ?_
    cases h
    exact zr_ireturn dL_keep_11 rfl ⟨by decide, by decide⟩ ⟨rfl, rfl⟩
  · by_cases c_6 : E_4 = "java/lang/IllegalStateException"
    · replace h := ite_t c_6 h
      subst c_6
      cases h
      exact zr_callG (μ' := uX9_keep) (n := 0) (ci := 9) (As := []) (st := []) (tX9_keep n M v0 _ _ hc_3) dL_keep_1 rfl ⟨zb_666, zb_667, zb_668, zb_669, zb_25⟩ zd_X9_keep ⟨by decide, by decide⟩ ⟨by decide, by decide⟩ (eq_of_beq c_5) (by decide) rfl rfl rfl (Nat.le_of_ble_eq_true rfl) (fun E9 M9 e9 => by
        obtain ⟨e1, e2⟩ := e9
        cases e1; subst e2
        exact zcaught (u := (1, 6)) (pre := []) (x := (0, 4, 7, 15)) (suf := []) (i := 1) (v := 1) rfl (fun _ h9 => by cases h9) ⟨rfl, rfl⟩ (by decide) zb_612 (by decide) (Or.inr ⟨1, rfl, dL_keep_7, rfl⟩) (by decide) dL_keep_8 (by decide) rfl dL_keep_9 rfl ⟨by decide, by decide⟩ ⟨rfl, rfl⟩) (fun r9 M9 e9 => by cases e9.1)
    · replace h := ite_f c_6 h
      cases h

def uL_differ : zMu := (yL_differ, cL_differ, 3, (some .int), { frames := 8, cells := 2, slots := 12, locals := 146 }, [(0, 8, 11, 15)])
theorem zd_L_differ : (uY uL_differ).cls ≠ "java/lang/invoke/MethodHandle" ∧ (uY uL_differ).cls ≠ "java/lang/invoke/VarHandle" ∧ (parseMethodDescriptor (uY uL_differ).desc).map (fun d => d.parameters.length) = some 2 := by decide +kernel
def fL_differ (n : Nat) (M : zM) (v0 : Nat) (v1 : Nat) : Option (Int32 × zM) :=
  chk (mK M v0 == 9) <|
  bndC (fX9_differ n M v0) (fun r_1 M_2 =>
    chk (mK M_2 v1 == 12) <|
    chk (zin (0 : Int32) (mN M_2 v1)) <|
    app (wL M_2 v1 (Int32.toNatClampNeg (0 : Int32)) (Int32.toInt64 r_1)) fun M_8 : zM =>
    some ((0 : Int32), M_8)) (fun E_4 M_2 => if E_4 = "java/lang/IllegalStateException" then some ((1 : Int32), M_2) else none)
set_option maxHeartbeats 4000000 in
theorem tL_differ (n : Nat) (M : zM) (v0 : Nat) (v1 : Nat) (r : Int32) (M' : zM) (h : fL_differ n M v0 v1 = some (r, M')) : zMet uL_differ false M [.ref v0, .ref v1] (zE (oI r) M') := by
  refine zMet_ofH (L := [(0, .ref v0), (1, .ref v1)]) (by decide +kernel) rfl rfl (Nat.le_of_ble_eq_true rfl) ?_
  show zW uL_differ none (0, 0) M 0 [(0, .ref v0), (1, .ref v1)] [] (zE (oI r) M')
  unfold fL_differ at h
  refine zr_aload_n (q := 1) dL_differ_0 rfl rfl 1 rfl ?_
  refine zr_iconst (q := 2) (v := 0) dL_differ_1 rfl (by decide) ?_
  refine zr_aload_n (q := 3) dL_differ_2 rfl rfl 0 rfl ?_
  obtain ⟨c_5, h⟩ := chk_some h
  rcases bndC_some h with ⟨r_1, M_2, hc_3, h⟩ | ⟨E_4, M_2, hc_3, h⟩
  · refine zr_callG (μ' := uX9_differ) (n := 0) (ci := 9) (As := []) (st := [.int (0 : Int32), .ref v1]) (tX9_differ n M v0 _ _ hc_3) dL_differ_3 rfl ⟨zb_670, zb_671, zb_672, zb_673, zb_25⟩ zd_X9_differ ⟨by decide, by decide⟩ ⟨by decide, by decide⟩ (eq_of_beq c_5) (by decide) rfl rfl rfl (Nat.le_of_ble_eq_true rfl) (fun E9 M9 e9 => by cases e9.1) (fun r9 M9 e9 => ?_)
    obtain ⟨e1, e2⟩ := e9
    replace e2 := e2.symm
    cases e1; subst e2
    show zW uL_differ none (2, 12) M_2 6 [(0, .ref v0), (1, .ref v1)] [.int r_1, .int (0 : Int32), .ref v1] (zE (oI r) M')
    refine zr_i2l (q := 7) dL_differ_6 rfl ?_
    obtain ⟨c_6, h⟩ := chk_some h
    obtain ⟨c_7, h⟩ := chk_some h
    obtain ⟨M_8, e_9, h⟩ := app_some h
    refine zr_last (q := 8) dL_differ_7 rfl (eq_of_beq c_6) c_7 ?_
    refine zr_mem e_9 ?_
    refine zr_goto (q := 14) dL_differ_8 (by decide) ?_
    refine zr_iconst (q := 15) (v := 0) dL_differ_14 rfl (by decide) ?_
    cases h
    exact zr_ireturn dL_differ_15 rfl ⟨by decide, by decide⟩ ⟨rfl, rfl⟩
  · by_cases c_10 : E_4 = "java/lang/IllegalStateException"
    · replace h := ite_t c_10 h
      subst c_10
      cases h
      exact zr_callG (μ' := uX9_differ) (n := 0) (ci := 9) (As := []) (st := [.int (0 : Int32), .ref v1]) (tX9_differ n M v0 _ _ hc_3) dL_differ_3 rfl ⟨zb_670, zb_671, zb_672, zb_673, zb_25⟩ zd_X9_differ ⟨by decide, by decide⟩ ⟨by decide, by decide⟩ (eq_of_beq c_5) (by decide) rfl rfl rfl (Nat.le_of_ble_eq_true rfl) (fun E9 M9 e9 => by
        obtain ⟨e1, e2⟩ := e9
        cases e1; subst e2
        exact zcaught (u := (2, 12)) (pre := []) (x := (0, 8, 11, 15)) (suf := []) (i := 2) (v := 1) rfl (fun _ h9 => by cases h9) ⟨rfl, rfl⟩ (by decide) zb_612 (by decide) (Or.inr ⟨2, rfl, dL_differ_11, rfl⟩) (by decide) dL_differ_12 (by decide) rfl dL_differ_13 rfl ⟨by decide, by decide⟩ ⟨rfl, rfl⟩) (fun r9 M9 e9 => by cases e9.1)
    · replace h := ite_f c_10 h
      cases h

def uL_letter : zMu := (yL_letter, cL_letter, 4, (some .int), { frames := 7, cells := 1, slots := 6, locals := 102 }, [(0, 9, 12, 29)])
theorem zd_L_letter : (uY uL_letter).cls ≠ "java/lang/invoke/MethodHandle" ∧ (uY uL_letter).cls ≠ "java/lang/invoke/VarHandle" ∧ (parseMethodDescriptor (uY uL_letter).desc).map (fun d => d.parameters.length) = some 3 := by decide +kernel
def fL_letter (n : Nat) (M : zM) (v0 : Nat) (v1 : Int32) (v2 : Nat) : Option (Int32 × zM) :=
  chk (mK M v0 == 9) <|
  bndC (fX9_letter n M v0 v1) (fun r_1 M_2 =>
    chk (mK M_2 v2 == 12) <|
    chk (zin (0 : Int32) (mN M_2 v2)) <|
    app (wL M_2 v2 (Int32.toNatClampNeg (0 : Int32)) (Int32.toInt64 r_1)) fun M_8 : zM =>
    some ((0 : Int32), M_8)) (fun E_4 M_2 => if E_4 = "java/lang/IndexOutOfBoundsException" then some ((1 : Int32), M_2) else none)
set_option maxHeartbeats 4000000 in
theorem tL_letter (n : Nat) (M : zM) (v0 : Nat) (v1 : Int32) (v2 : Nat) (r : Int32) (M' : zM) (h : fL_letter n M v0 v1 v2 = some (r, M')) : zMet uL_letter false M [.ref v0, .int v1, .ref v2] (zE (oI r) M') := by
  refine zMet_ofH (L := [(0, .ref v0), (1, .int v1), (2, .ref v2)]) (by decide +kernel) rfl rfl (Nat.le_of_ble_eq_true rfl) ?_
  show zW uL_letter none (0, 0) M 0 [(0, .ref v0), (1, .int v1), (2, .ref v2)] [] (zE (oI r) M')
  unfold fL_letter at h
  refine zr_aload_n (q := 1) dL_letter_0 rfl rfl 2 rfl ?_
  refine zr_iconst (q := 2) (v := 0) dL_letter_1 rfl (by decide) ?_
  refine zr_aload_n (q := 3) dL_letter_2 rfl rfl 0 rfl ?_
  refine zr_iload_n (q := 4) dL_letter_3 rfl rfl 1 rfl ?_
  obtain ⟨c_5, h⟩ := chk_some h
  rcases bndC_some h with ⟨r_1, M_2, hc_3, h⟩ | ⟨E_4, M_2, hc_3, h⟩
  · refine zr_callG (μ' := uX9_letter) (n := 1) (ci := 9) (As := [.int v1]) (st := [.int (0 : Int32), .ref v2]) (tX9_letter n M v0 v1 _ _ hc_3) dL_letter_4 rfl ⟨zb_674, zb_675, zb_676, zb_677, zb_25⟩ zd_X9_letter ⟨by decide, by decide⟩ ⟨by decide, by decide⟩ (eq_of_beq c_5) (by decide) rfl rfl rfl (Nat.le_of_ble_eq_true rfl) (fun E9 M9 e9 => by cases e9.1) (fun r9 M9 e9 => ?_)
    obtain ⟨e1, e2⟩ := e9
    replace e2 := e2.symm
    cases e1; subst e2
    show zW uL_letter none (1, 6) M_2 7 [(0, .ref v0), (1, .int v1), (2, .ref v2)] [.int r_1, .int (0 : Int32), .ref v2] (zE (oI r) M')
    refine zr_i2l (q := 8) dL_letter_7 rfl ?_
    obtain ⟨c_6, h⟩ := chk_some h
    obtain ⟨c_7, h⟩ := chk_some h
    obtain ⟨M_8, e_9, h⟩ := app_some h
    refine zr_last (q := 9) dL_letter_8 rfl (eq_of_beq c_6) c_7 ?_
    refine zr_mem e_9 ?_
    refine zr_goto (q := 15) dL_letter_9 (by decide) ?_
    refine zr_iconst (q := 16) (v := 0) dL_letter_15 rfl (by decide) ?_
    cases h
    exact zr_ireturn dL_letter_16 rfl ⟨by decide, by decide⟩ ⟨rfl, rfl⟩
  · by_cases c_10 : E_4 = "java/lang/IndexOutOfBoundsException"
    · replace h := ite_t c_10 h
      subst c_10
      cases h
      exact zr_callG (μ' := uX9_letter) (n := 1) (ci := 9) (As := [.int v1]) (st := [.int (0 : Int32), .ref v2]) (tX9_letter n M v0 v1 _ _ hc_3) dL_letter_4 rfl ⟨zb_674, zb_675, zb_676, zb_677, zb_25⟩ zd_X9_letter ⟨by decide, by decide⟩ ⟨by decide, by decide⟩ (eq_of_beq c_5) (by decide) rfl rfl rfl (Nat.le_of_ble_eq_true rfl) (fun E9 M9 e9 => by
        obtain ⟨e1, e2⟩ := e9
        cases e1; subst e2
        exact zcaught (u := (1, 6)) (pre := []) (x := (0, 9, 12, 29)) (suf := []) (i := 3) (v := 1) rfl (fun _ h9 => by cases h9) ⟨rfl, rfl⟩ (by decide) zb_625 (by decide) (Or.inr ⟨3, rfl, dL_letter_12, rfl⟩) (by decide) dL_letter_13 (by decide) rfl dL_letter_14 rfl ⟨by decide, by decide⟩ ⟨rfl, rfl⟩) (fun r9 M9 e9 => by cases e9.1)
    · replace h := ite_f c_10 h
      cases h
