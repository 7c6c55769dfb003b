/-! the class compares two automata: its loops -/
section ZCCMP2
set_option maxHeartbeats 4000000 in
theorem c_tell {P1 P2 n1 n2 : Nat} (hP1 : isP P1) (hP2 : isP P2) {δ1 δ2 : Nat → Nat → Nat} {g1 g2 : Nat → Bool} {cur : Nat} : ∀ (mm l fuel : Nat) (M : zM) (m : Nat) (C F : Nat → Nat), l + mm = 36 → mm + 700 < fuel → Sta M → AutD M P1 n1 δ1 g1 → AutD M P2 n2 δ2 g2 → CmpI δ1 δ2 M m C F → zCI δ1 δ2 g1 g2 m C F → zPR δ1 δ2 g1 g2 m C cur l → (∀ k, k < m → C k < ex (C cur) l) → cur < m →
    (∃ M' m' C' F', fX1_tellsApart_3 fuel M 38 (nI cur) (P1 + 4) (P2 + 4) (nI l) = some (nI 0, M') ∧ CmF M M' ∧ mI M' 38 0 = mI M 38 0 ∧ CmpI δ1 δ2 M' m' C' F' ∧ zCI δ1 δ2 g1 g2 m' C' F' ∧ zPR δ1 δ2 g1 g2 m' C' cur 36 ∧ (∀ k, k < m' → C' k < ex (C' cur) 36) ∧ cur < m') ∨
    (∃ M' m' C' F', fX1_tellsApart_3 fuel M 38 (nI cur) (P1 + 4) (P2 + 4) (nI l) = some (nI 1, M') ∧ CmF M M' ∧ CmpI δ1 δ2 M' (m' + 1) C' F' ∧ m' < 600 ∧ zLst δ1 δ2 g1 g2 (C' m')) := by
  intro mm
  induction mm with
  | zero =>
    intro l fuel M m C F hl hfu hS hA1 hA2 hM hI hPR hf hcm
    obtain ⟨g, rfl⟩ := suc fuel (by omega)
    have hl36 : l = 36 := by omega
    subst hl36
    refine Or.inl ⟨M, m, C, F, ?_, CmF.rf, rfl, hM, hI, hPR, hf, hcm⟩
    rw [fX1_tellsApart_3]
    simp (disch := omega) only [q_eM, q_Me, q_Mlt, q_Mle, q_leM, q_ltM, q_le, q_nle, q_lt, q_nlt, q_neq, zin_nI, nI_clamp, nI_add, pk_mul, pk_sub, mI_e, mI_n, mL_e, mL_n, mR_e, mR_n, i0, i1, ↓reduceIte, ↓bI_t, ↓bI_f, Bool.false_eq_true, eq_self, chk_true, bnd_just, bnd2_just, app_t, beq_self_eq_true, mK_wI, mK_wL, mK_wR, mK_wIr, mK_wLr, mN_wI, mN_wL, mN_wR, mN_wIr, mN_wLr, mR_wI, mR_wL, mR_wIr, mR_wLr, mI_wL, mI_wR, mI_wLr, mL_wI, mL_wR, mL_wIr, i36]
  | succ mm ih =>
    intro l fuel M m C F hl hfu hS hA1 hA2 hM hI hPR hf hcm
    obtain ⟨g, rfl⟩ := suc fuel (by omega)
    have hm600 := CI_m hI
    obtain ⟨hA1a, hA1b, hA1c, hA1d, hA1e⟩ := id hA1
    obtain ⟨hA2a, hA2b, hA2c, hA2d, hA2e⟩ := id hA2
    have hδ1 := fun s l hs hl => (hA1e s l hs hl).2
    have hδ2 := fun s l hs hl => (hA2e s l hs hl).2
    obtain ⟨q1, q2, q3, q4⟩ := hM.2.1 cur hcm
    have hs1 := sta_lt (by omega) hδ1 (C cur)
    have hs2 := sta_lt (by omega) hδ2 (C cur)
    obtain ⟨D, hD⟩ : ∃ D, D = ex (C cur) l := ⟨_, rfl⟩
    have hd1 : sta δ1 D = δ1 (sta δ1 (C cur)) l := by rw [hD]; exact sta_ex (by omega)
    have hd2 : sta δ2 D = δ2 (sta δ2 (C cur)) l := by rw [hD]; exact sta_ex (by omega)
    have ht1 := sta_lt (by omega) hδ1 D
    have ht2 := sta_lt (by omega) hδ2 D
    obtain ⟨w1, -⟩ := hA1e (sta δ1 (C cur)) l hs1 (by omega)
    obtain ⟨w2, -⟩ := hA2e (sta δ2 (C cur)) l hs2 (by omega)
    rw [← hd1] at w1
    rw [← hd2] at w2
    obtain ⟨f1, f1'⟩ := hM.2.2.2.1 (sta δ1 D) (by omega)
    obtain ⟨f2, f2'⟩ := hM.2.2.2.1 (300 + sta δ2 D) (by omega)
    have g1D := hA1d (sta δ1 D) ht1
    have g2D := hA2d (sta δ2 D) ht2
    by_cases hF : F (sta δ1 D) = F (300 + sta δ2 D)
    · have hPR' := PR_same (by omega) hI hPR hf (by rw [← hD]; omega) (by rw [← hD]; omega) (by rw [← hD]; exact hF)
      have e1 : fX1_tellsApart_3 (g + 1) M 38 (nI cur) (P1 + 4) (P2 + 4) (nI l) = fX1_tellsApart_3 g M 38 (nI cur) (P1 + 4) (P2 + 4) (nI (l + 1)) := by
        rw [fX1_tellsApart_3]
        unfold fX0_wayFrom fX1_tellsApart_134
        rw [hF] at f1
        simp (disch := omega) only [q_eM, q_Me, q_Mlt, q_Mle, q_leM, q_ltM, q_le, q_nle, q_lt, q_nlt, q_neq, zin_nI, nI_clamp, nI_add, pk_mul, pk_sub, mI_e, mI_n, mL_e, mL_n, mR_e, mR_n, i0, i1, ↓reduceIte, ↓bI_t, ↓bI_f, Bool.false_eq_true, eq_self, chk_true, bnd_just, bnd2_just, app_t, beq_self_eq_true, mK_wI, mK_wL, mK_wR, mK_wIr, mK_wLr, mN_wI, mN_wL, mN_wR, mN_wIr, mN_wLr, mR_wI, mR_wL, mR_wIr, mR_wLr, mI_wL, mI_wR, mI_wLr, mL_wI, mL_wR, mL_wIr, i36, i300, sk_38 hS, sk_40 hS, sk_41 hS, sk_42 hS, sn_40 hS, sn_41 hS, sn_42 hS, sr_38_2 hS, sr_38_4 hS, sr_38_5 hS, pK4 hS hP1, pK4 hS hP2, pA5 hS hP1, pA5 hS hP2, pK6 hS hP1, pK6 hS hP2, pN6 hS hP1, pN6 hS hP2, q1, q2, w1, w2, f1, f2]
      rw [e1]
      exact ih (l + 1) g M m C F (by omega) (by omega) hS hA1 hA2 hM hI hPR' (fun k hk => by have := hf k hk; unfold ex at this ⊢; omega) hcm
    · obtain ⟨Mw, hMw⟩ : ∃ Mw, Mw = wI (wI (wI M 43 m (nI cur)) 44 m (nI l)) 45 m (nI ((wd (C cur)).length + 1)) := ⟨_, rfl⟩
      have hCw : CmF M Mw := by rw [hMw]; exact ((CmF.rf.w (by omega) _ _).w (by omega) _ _).w (by omega) _ _
      have hSw := hCw.sta hS
      have wi : ∀ a j, ¬ (43 ≤ a ∧ a ≤ 45) → mI Mw a j = mI M a j := fun a j q => by rw [hMw, mI_n (by omega), mI_n (by omega), mI_n (by omega)]
      obtain ⟨M', j1, j2, j3, j4, j5, j6, j7, j8⟩ := c_join hSw (m := m) (p := sta δ1 D) (q := sta δ2 D) hm600 (by omega) (by omega) (F := F) (by rw [wi 38 3 (by omega)]; exact hM.1) (fun a ha => by rw [wi 40 a (by omega)]; exact hM.2.2.2.1 a ha) g (by omega)
      have hS' := j2.sta hSw
      have hlen : (wd D).length = (wd (C cur)).length + 1 := by rw [hD]; exact wd_len (by omega)
      have hCmp : CmpI δ1 δ2 M' (m + 1) (updf C m D) (mrg F (F (300 + sta δ2 D)) (F (sta δ1 D))) := by
        refine ⟨j3, fun k hk => ?_, fun k hk0 hk => ?_, fun a ha => ⟨j8 a ha, ?_⟩, ?_⟩
        · by_cases hkm : k = m
          · rw [updf_e hkm, j5, if_pos hkm, j6, if_pos hkm, j7 45 (by omega), hMw, mI_e rfl hkm, hlen]
            exact ⟨rfl, rfl, rfl, by omega⟩
          · obtain ⟨r1, r2, r3, r4⟩ := hM.2.1 k (by omega)
            rw [updf_n hkm, j5, if_neg hkm, j6, if_neg hkm, j7 45 (by omega), wi 41 k (by omega), wi 42 k (by omega)]
            refine ⟨r1, r2, ?_, r4⟩
            rw [hMw, mI_n (by omega), mI_n (by omega), mI_n (by omega)]; exact r3
        · by_cases hkm : k = m
          · refine ⟨cur, l, by omega, by omega, ?_, ?_, ?_⟩
            · rw [j7 43 (by omega), hMw, mI_n (by omega), mI_n (by omega), mI_e rfl hkm]
            · rw [j7 44 (by omega), hMw, mI_n (by omega), mI_e rfl hkm]
            · rw [updf_e hkm, updf_n (by omega), hD]
          · obtain ⟨j, l', r1, r2, r3, r4, r5⟩ := hM.2.2.1 k hk0 (by omega)
            refine ⟨j, l', r1, r2, ?_, ?_, ?_⟩
            · rw [j7 43 (by omega), hMw, mI_n (by omega), mI_n (by omega), mI_n (by omega)]; exact r3
            · rw [j7 44 (by omega), hMw, mI_n (by omega), mI_n (by omega), mI_n (by omega)]; exact r4
            · rw [updf_n hkm, updf_n (by omega)]; exact r5
        · unfold mrg; split <;> first | exact f1' | exact (hM.2.2.2.1 a ha).2
        · rw [updf_n (by omega)]; exact hM.2.2.2.2
      have hA1' := (hCw.tr j2).aut hP1 hA1
      have hA2' := (hCw.tr j2).aut hP2 hA2
      have g1D' := hA1'.2.2.2.1 (sta δ1 D) ht1
      have g2D' := hA2'.2.2.2.1 (sta δ2 D) ht2
      have e1 : fX1_tellsApart_3 (g + 1) M 38 (nI cur) (P1 + 4) (P2 + 4) (nI l) = if bI (g1 (sta δ1 D)) = bI (g2 (sta δ2 D)) then fX1_tellsApart_3 g M' 38 (nI cur) (P1 + 4) (P2 + 4) (nI (l + 1)) else some (nI 1, M') := by
        rw [fX1_tellsApart_3]
        unfold fX0_wayFrom fX1_tellsApart_134
        have hne : ¬ nI (F (sta δ1 D)) = nI (F (300 + sta δ2 D)) := by rw [neq (by omega) (by omega)]; exact hF
        simp (disch := omega) only [q_eM, q_Me, q_Mlt, q_Mle, q_leM, q_ltM, q_le, q_nle, q_lt, q_nlt, q_neq, zin_nI, nI_clamp, nI_add, pk_mul, pk_sub, mI_e, mI_n, mL_e, mL_n, mR_e, mR_n, i0, i1, ↓reduceIte, ↓bI_t, ↓bI_f, Bool.false_eq_true, eq_self, chk_true, bnd_just, bnd2_just, app_t, beq_self_eq_true, mK_wI, mK_wL, mK_wR, mK_wIr, mK_wLr, mN_wI, mN_wL, mN_wR, mN_wIr, mN_wLr, mR_wI, mR_wL, mR_wIr, mR_wLr, mI_wL, mI_wR, mI_wLr, mL_wI, mL_wR, mL_wIr, i36, i300, i600, sk_38 hS, sk_40 hS, sk_41 hS, sk_42 hS, sk_43 hS, sk_44 hS, sk_45 hS, sn_40 hS, sn_41 hS, sn_42 hS, sn_43 hS, sn_44 hS, sn_45 hS, sr_38_2 hS, sr_38_4 hS, sr_38_5 hS, sr_38_6 hS, sr_38_7 hS, sr_38_8 hS, pK4 hS hP1, pK4 hS hP2, pA5 hS hP1, pA5 hS hP2, pK6 hS hP1, pK6 hS hP2, pN6 hS hP1, pN6 hS hP2, q1, q2, q3, w1, w2, f1, f2, hM.1, ← hMw, j1, pK4 hS' hP1, pK4 hS' hP2, pA4 hS' hP1, pA4 hS' hP2, pK5 hS' hP1, pK5 hS' hP2, pN5 hS' hP1, pN5 hS' hP2, g1D', g2D']
      rw [e1]
      by_cases hg : g1 (sta δ1 D) = g2 (sta δ2 D)
      · rw [if_pos (by rw [hg])]
        have hI' := CI_new hI (D := D) (by rw [hD]; exact hf) (not_tel hg) (by omega) (by omega) hF
        have hPR' : zPR δ1 δ2 g1 g2 (m + 1) (updf C m D) cur (l + 1) := by rw [hD]; exact PR_new hcm hPR
        have hf' : ∀ k, k < m + 1 → updf C m D k < ex (updf C m D cur) (l + 1) := fun k hk => by
          rw [updf_n (show cur ≠ m by omega)]
          by_cases hkm : k = m
          · rw [updf_e hkm, hD]; unfold ex; omega
          · rw [updf_n hkm]; have := hf k (by omega); unfold ex at this ⊢; omega
        rcases ih (l + 1) g M' (m + 1) (updf C m D) (mrg F (F (300 + sta δ2 D)) (F (sta δ1 D))) (by omega) (by omega) hS' hA1' hA2' hCmp hI' hPR' hf' (by omega) with ⟨M2, m2, C2, F2, t1, t2, t3, t4⟩ | ⟨M2, m2, C2, F2, t1, t2, t3⟩
        · exact Or.inl ⟨M2, m2, C2, F2, t1, (hCw.tr j2).tr t2, t3.trans (j4.trans (wi 38 0 (by omega))), t4⟩
        · exact Or.inr ⟨M2, m2, C2, F2, t1, (hCw.tr j2).tr t2, t3⟩
      · rw [if_neg (fun q => hg (bI_inj q))]
        refine Or.inr ⟨M', m, updf C m D, _, rfl, hCw.tr j2, hCmp, hm600, ?_⟩
        rw [updf_e rfl, hD]
        exact Lst_found hcm (by omega) hM.2.2.2.2 hI hPR (by rw [← hD]; exact hg)
theorem iM_dec (i : Nat) : nI (i + 1) + (-1) = nI i := by
  rw [nI_succ]
  apply Int32.toBitVec_inj.mp
  rw [Int32.toBitVec_add, Int32.toBitVec_add]
  show (nI i).toBitVec + 1#32 + (-1#32) = _
  rw [BitVec.add_assoc]
  have : (1#32 + (-1#32)) = 0#32 := by decide
  rw [this, BitVec.add_zero]
theorem iM_dec0 : nI 0 + (-1 : Int32) = iM := by decide
theorem iM_lt0 : (iM < (0 : Int32)) = True := eq_true (by decide)
def zdI (i : Nat) : Int32 := if i = 0 then iM else nI (i - 1)
theorem c_sp {δ1 δ2 : Nat → Nat → Nat} {m : Nat} {C F : Nat → Nat} (zhm' : m ≤ 600) : ∀ (i a fuel : Nat) (M : zM), Sta M → CmpI δ1 δ2 M m C F → a < m → (wd (C a)).length = i → i < fuel →
    ∃ M', fX1_spell_19 fuel M 38 (nI a) (zdI i) = some ((), M') ∧ CmF M M' ∧ (∀ b, b ≠ 39 → ∀ j, mI M' b j = mI M b j) ∧ (∀ j, i ≤ j → mI M' 39 j = mI M 39 j) ∧ ∀ j, j < i → mI M' 39 j = nI ((wd (C a)).getD j 0) := by
  intro i
  induction i with
  | zero =>
    intro a fuel M hS hM ha hlen hf
    obtain ⟨f, rfl⟩ := suc fuel (by omega)
    refine ⟨M, ?_, CmF.rf, fun _ _ _ => rfl, fun _ _ => rfl, fun j hj => by omega⟩
    rw [fX1_spell_19]
    rw [show zdI 0 = iM from rfl, if_pos (by decide)]
  | succ i ih =>
    intro a fuel M hS hM ha hlen hf
    obtain ⟨f, rfl⟩ := suc fuel (by omega)
    have ha0 : 0 < a := by
      rcases Nat.eq_zero_or_pos a with q | q
      · rw [q, hM.2.2.2.2, wd_0] at hlen; simp at hlen
      · exact q
    obtain ⟨j, l, h1, h2, h3, h4, h5⟩ := hM.2.2.1 a ha0 ha
    have hwa : wd (C a) = wd (C j) ++ [l] := by rw [h5]; exact wd_ex h2
    have hlj : (wd (C j)).length = i := by
      rw [hwa] at hlen; simp at hlen; exact hlen
    have hia : i < 600 := by have := (hM.2.1 a ha).2.2.2; omega
    have hCw : CmF M (wI M 39 i (nI l)) := CmF.rf.w (by omega) _ _
    have hM' : CmpI δ1 δ2 (wI M 39 i (nI l)) m C F := by
      refine ⟨by rw [mI_n (by omega)]; exact hM.1, fun k hk => ?_, fun k hk0 hk => ?_, fun b hb => ?_, hM.2.2.2.2⟩
      · rw [mI_n (by omega), mI_n (by omega), mI_n (by omega)]; exact hM.2.1 k hk
      · obtain ⟨j', l', r1, r2, r3, r4, r5⟩ := hM.2.2.1 k hk0 hk
        exact ⟨j', l', r1, r2, by rw [mI_n (by omega)]; exact r3, by rw [mI_n (by omega)]; exact r4, r5⟩
      · rw [mI_n (by omega)]; exact hM.2.2.2.1 b hb
    obtain ⟨M', t1, t2, t3, t4, t5⟩ := ih j f (wI M 39 i (nI l)) (hCw.sta hS) hM' (by omega) hlj (by omega)
    refine ⟨M', ?_, hCw.tr t2, fun b hb k => (t3 b hb k).trans (mI_n (by omega)), fun k hk => (t4 k (by omega)).trans (mI_n (by omega)), fun k hk => ?_⟩
    · rw [fX1_spell_19]
      have ed : zdI (i + 1) = nI i := rfl
      rw [ed]
      have e2 : nI i + (-1 : Int32) = zdI i := by
        unfold zdI
        by_cases h0 : i = 0
        · rw [if_pos h0, h0]; exact iM_dec0
        · rw [if_neg h0]
          obtain ⟨i', rfl⟩ := suc i (by omega)
          exact iM_dec i'
      rw [e2]
      simp (disch := omega) only [q_eM, q_Me, q_Mlt, q_Mle, q_leM, q_ltM, q_le, q_nle, q_lt, q_nlt, q_neq, zin_nI, nI_clamp, nI_add, pk_mul, pk_sub, mI_e, mI_n, mL_e, mL_n, mR_e, mR_n, i0, i1, ↓reduceIte, ↓bI_t, ↓bI_f, Bool.false_eq_true, eq_self, chk_true, bnd_just, bnd2_just, app_t, beq_self_eq_true, mK_wI, mK_wL, mK_wR, mK_wIr, mK_wLr, mN_wI, mN_wL, mN_wR, mN_wIr, mN_wLr, mR_wI, mR_wL, mR_wIr, mR_wLr, mI_wL, mI_wR, mI_wLr, mL_wI, mL_wR, mL_wIr, sk_38 hS, sk_39 hS, sk_43 hS, sk_44 hS, sn_39 hS, sn_43 hS, sn_44 hS, sr_38_1 hS, sr_38_6 hS, sr_38_7 hS, h3, h4]
      exact t1
    · by_cases hki : k = i
      · rw [hki, t4 i (by omega), mI_e rfl rfl, hwa, List.getD_eq_getElem?_getD, List.getElem?_append_right (by omega), hlj]
        simp
      · rw [t5 k (by omega), hwa, List.getD_eq_getElem?_getD, List.getD_eq_getElem?_getD, List.getElem?_append_left (by omega)]
theorem c_spell {δ1 δ2 : Nat → Nat → Nat} {m : Nat} {C F : Nat → Nat} (zhm' : m ≤ 600) {M : zM} (hS : Sta M) (hM : CmpI δ1 δ2 M m C F) {a : Nat} (ha : a < m) (N : Nat) (hN : 610 ≤ N) :
    ∃ M', fX1_spell N M 38 (nI a) = some ((), M') ∧ CmF M M' ∧ mI M' 38 0 = nI (wd (C a)).length ∧ (wd (C a)).length ≤ 600 ∧ ∀ j, j < (wd (C a)).length → mI M' 39 j = nI ((wd (C a)).getD j 0) := by
  obtain ⟨q1, q2, q3, q4⟩ := hM.2.1 a ha
  have hCw : CmF M (wI M 38 0 (nI (wd (C a)).length)) := CmF.rf.w (by omega) _ _
  have hM' : CmpI δ1 δ2 (wI M 38 0 (nI (wd (C a)).length)) m C F := by
    refine ⟨by rw [mI_n (by omega)]; exact hM.1, fun k hk => ?_, fun k hk0 hk => ?_, fun b hb => ?_, hM.2.2.2.2⟩
    · rw [mI_n (by omega), mI_n (by omega), mI_n (by omega)]; exact hM.2.1 k hk
    · obtain ⟨j', l', r1, r2, r3, r4, r5⟩ := hM.2.2.1 k hk0 hk
      exact ⟨j', l', r1, r2, by rw [mI_n (by omega)]; exact r3, by rw [mI_n (by omega)]; exact r4, r5⟩
    · rw [mI_n (by omega)]; exact hM.2.2.2.1 b hb
  obtain ⟨M', t1, t2, t3, t4, t5⟩ := c_sp zhm' (wd (C a)).length a N _ (hCw.sta hS) hM' ha rfl (by omega)
  refine ⟨M', ?_, hCw.tr t2, ?_, by omega, t5⟩
  · unfold fX1_spell
    have e1 : nI (wd (C a)).length - nI 1 = zdI (wd (C a)).length := by
      unfold zdI
      by_cases h0 : (wd (C a)).length = 0
      · rw [if_pos h0, h0]; exact nI01
      · rw [if_neg h0, pk_sub (by omega)]
    simp (disch := omega) only [chk_true, bnd_just, bnd2_just, app_t, beq_self_eq_true, mK_wI, mK_wL, mK_wR, mK_wIr, mK_wLr, mN_wI, mN_wL, mN_wR, mN_wIr, mN_wLr, mR_wI, mR_wL, mR_wIr, mR_wLr, mI_wL, mI_wR, mI_wLr, mL_wI, mL_wR, mL_wIr, i1, mI_e, nI_clamp, zin_nI, sk_38 hS, sk_45 hS, sn_45 hS, sr_38_8 hS, q3, e1]
    exact t1
  · rw [t3 38 (by omega), mI_e rfl rfl]
/-- what comes out of a comparison -/
def CmpR (δ1 δ2 : Nat → Nat → Nat) (g1 g2 : Nat → Bool) (M' : zM) (r : Int32) : Prop := (r = iM ∧ mI M' 38 0 = nI 0 ∧ ∀ E, ¬ Tel δ1 δ2 g1 g2 E) ∨ ∃ D, zLst δ1 δ2 g1 g2 D ∧ r = nI (wd D).length ∧ (wd D).length ≤ 600 ∧ mI M' 38 0 = nI (wd D).length ∧ ∀ j, j < (wd D).length → mI M' 39 j = nI ((wd D).getD j 0)
theorem c_cmp {P1 P2 n1 n2 : Nat} (hP1 : isP P1) (hP2 : isP P2) {δ1 δ2 : Nat → Nat → Nat} {g1 g2 : Nat → Bool} : ∀ (mm cur fuel : Nat) (M : zM) (m : Nat) (C F : Nat → Nat), cur + mm = 600 → mm + 800 < fuel → Sta M → AutD M P1 n1 δ1 g1 → AutD M P2 n2 δ2 g2 → CmpI δ1 δ2 M m C F → zCI δ1 δ2 g1 g2 m C F → zPR δ1 δ2 g1 g2 m C cur 0 → (cur < m → ∀ k, k < m → C k < ex (C cur) 0) → cur ≤ m → mI M 38 0 = nI 0 →
    ∃ M' r, fX1_compare_45 fuel M 38 (P1 + 4) (P2 + 4) (nI cur) = some (r, M') ∧ CmF M M' ∧ CmpR δ1 δ2 g1 g2 M' r := by
  intro mm
  induction mm with
  | zero =>
    intro cur fuel M m C F hcu hfu hS hA1 hA2 hM hI hPR hf hcm h0
    have := CI_m hI
    omega
  | succ mm ih =>
    intro cur fuel M m C F hcu hfu hS hA1 hA2 hM hI hPR hf hcm h0
    obtain ⟨g, rfl⟩ := suc fuel (by omega)
    have hm600 := CI_m hI
    by_cases hc : cur < m
    · rcases c_tell hP1 hP2 (cur := cur) 36 0 g M m C F (by omega) (by omega) hS hA1 hA2 hM hI hPR (hf hc) hc with ⟨M1, m1, C1, F1, t1, t2, t3, t4, t5, t6, t7, t8⟩ | ⟨M1, m1, C1, F1, t1, t2, t3, t4, t5⟩
      · have hS1 := t2.sta hS
        obtain ⟨M', r, u1, u2, u3⟩ := ih (cur + 1) g M1 m1 C1 F1 (by omega) (by omega) hS1 (t2.aut hP1 hA1) (t2.aut hP2 hA2) t4 t5 (PR_next t6) (fun hc1 k hk => by
          have q1 := t7 k hk
          have q2 := t5.2.1 cur (cur + 1) (by omega) hc1
          unfold ex at q1 ⊢
          omega) (by omega) (t3.trans h0)
        refine ⟨M', r, ?_, t2.tr u2, u3⟩
        rw [fX1_compare_45]
        unfold fX1_tellsApart
        simp (disch := omega) only [q_eM, q_Me, q_Mlt, q_Mle, q_leM, q_ltM, q_le, q_nle, q_lt, q_nlt, q_neq, zin_nI, nI_clamp, nI_add, pk_mul, pk_sub, mI_e, mI_n, mL_e, mL_n, mR_e, mR_n, i0, i1, ↓reduceIte, ↓bI_t, ↓bI_f, Bool.false_eq_true, eq_self, chk_true, bnd_just, bnd2_just, app_t, beq_self_eq_true, mK_wI, mK_wL, mK_wR, mK_wIr, mK_wLr, mN_wI, mN_wL, mN_wR, mN_wIr, mN_wLr, mR_wI, mR_wL, mR_wIr, mR_wLr, mI_wL, mI_wR, mI_wLr, mL_wI, mL_wR, mL_wIr, i600, sk_38 hS, hM.1, t1]
        exact u1
      · have hS1 := t2.sta hS
        obtain ⟨M', u1, u2, u3, u4, u5⟩ := c_spell (m := m1 + 1) (by omega) hS1 t3 (a := m1) (by omega) g (by omega)
        have hS2 := u2.sta hS1
        refine ⟨M', nI (wd (C1 m1)).length, ?_, t2.tr u2, Or.inr ⟨C1 m1, t5, rfl, u4, u3, u5⟩⟩
        rw [fX1_compare_45]
        unfold fX1_tellsApart
        simp (disch := omega) only [q_eM, q_Me, q_Mlt, q_Mle, q_leM, q_ltM, q_le, q_nle, q_lt, q_nlt, q_neq, zin_nI, nI_clamp, nI_add, pk_mul, pk_sub, mI_e, mI_n, mL_e, mL_n, mR_e, mR_n, i0, i1, ↓reduceIte, ↓bI_t, ↓bI_f, Bool.false_eq_true, eq_self, chk_true, bnd_just, bnd2_just, app_t, beq_self_eq_true, mK_wI, mK_wL, mK_wR, mK_wIr, mK_wLr, mN_wI, mN_wL, mN_wR, mN_wIr, mN_wLr, mR_wI, mR_wL, mR_wIr, mR_wLr, mI_wL, mI_wR, mI_wLr, mL_wI, mL_wR, mL_wIr, i600, sk_38 hS, hM.1, t1, sk_38 hS1, t3.1, Nat.add_sub_cancel, u1, sk_38 hS2, u3]
    · have hcme : cur = m := by omega
      subst hcme
      refine ⟨M, iM, ?_, CmF.rf, Or.inl ⟨rfl, h0, Lst_none hM.2.2.2.2 hI hPR⟩⟩
      rw [fX1_compare_45]
      simp (disch := omega) only [q_eM, q_Me, q_Mlt, q_Mle, q_leM, q_ltM, q_le, q_nle, q_lt, q_nlt, q_neq, zin_nI, nI_clamp, nI_add, pk_mul, pk_sub, mI_e, mI_n, mL_e, mL_n, mR_e, mR_n, i0, i1, ↓reduceIte, ↓bI_t, ↓bI_f, Bool.false_eq_true, eq_self, chk_true, bnd_just, bnd2_just, app_t, beq_self_eq_true, mK_wI, mK_wL, mK_wR, mK_wIr, mK_wLr, mN_wI, mN_wL, mN_wR, mN_wIr, mN_wLr, mR_wI, mR_wL, mR_wIr, mR_wLr, mI_wL, mI_wR, mI_wLr, mL_wI, mL_wR, mL_wIr, ↓neg1, i600, sk_38 hS, hM.1]
theorem c_b2 {K : Nat} (hK : K = 600) : ∀ (m i fuel : Nat) (M : zM), Sta M → (∀ a, a < i → mI M 40 a = nI a) → i + m = K → m + 700 < fuel →
    ∃ M' f', 650 ≤ f' ∧ fX1_begin_2 fuel M 38 (nI i) = fX1_begin_2 (f' + 1) M' 38 (nI K) ∧ CmF M M' ∧ mI M' 38 0 = mI M 38 0 ∧ ∀ a, a < K → mI M' 40 a = nI a := by
  intro m
  induction m with
  | zero =>
    intro i fuel M hS h hi hf
    obtain ⟨f, rfl⟩ := suc fuel (by omega)
    refine ⟨M, f, by omega, by rw [show i = K by omega], CmF.rf, rfl, fun a ha => h a (by omega)⟩
  | succ m ih =>
    intro i fuel M hS h hi hf
    obtain ⟨f, rfl⟩ := suc fuel (by omega)
    obtain ⟨M', f', t0, t1, t2, t3, t4⟩ := ih (i + 1) f (wI M 40 i (nI i)) hS (fun a ha => by
      by_cases hai : a = i
      · rw [mI_e rfl hai, hai]
      · rw [mI_n (by omega)]; exact h a (by omega)) (by omega) (by omega)
    refine ⟨M', f', t0, ?_, (CmF.rf.w (by omega) _ _).tr t2, t3.trans (mI_n (by omega)), t4⟩
    rw [← t1, fX1_begin_2]
    simp (disch := omega) only [q_eM, q_Me, q_Mlt, q_Mle, q_leM, q_ltM, q_le, q_nle, q_lt, q_nlt, q_neq, zin_nI, nI_clamp, nI_add, pk_mul, pk_sub, mI_e, mI_n, mL_e, mL_n, mR_e, mR_n, i0, i1, ↓reduceIte, ↓bI_t, ↓bI_f, Bool.false_eq_true, eq_self, chk_true, bnd_just, bnd2_just, app_t, beq_self_eq_true, mK_wI, mK_wL, mK_wR, mK_wIr, mK_wLr, mN_wI, mN_wL, mN_wR, mN_wIr, mN_wLr, mR_wI, mR_wL, mR_wIr, mR_wLr, mI_wL, mI_wR, mI_wLr, mL_wI, mL_wR, mL_wIr, i600, sk_38 hS, sk_40 hS, sn_40 hS, sr_38_2 hS]
theorem c_begin2 {δ1 δ2 : Nat → Nat → Nat} {g1 g2 : Nat → Bool} {M : zM} (hS : Sta M) (N : Nat) (hN : 1400 ≤ N) :
    ∃ M' F, fX1_begin N M 38 = some ((), M') ∧ CmF M M' ∧ mI M' 38 0 = mI M 38 0 ∧ CmpI δ1 δ2 M' 1 (fun _ => 0) F ∧ (g1 0 = g2 0 → zCI δ1 δ2 g1 g2 1 (fun _ => 0) F) := by
  obtain ⟨M0, f0, r0, r1, r2, r3, r4⟩ := c_b2 rfl 600 0 N M hS (fun a ha => by omega) (by omega) (by omega)
  have hS0 := r2.sta hS
  have hCw : CmF M0 (wI M0 38 3 (nI 0)) := CmF.rf.w (by omega) _ _
  obtain ⟨M1, j1, j2, j3, j4, j5, j6, j7, j8⟩ := c_join (hCw.sta hS0) (m := 0) (p := 0) (q := 0) (by omega) (by omega) (by omega) (F := fun a => a) (mI_e rfl rfl) (fun a ha => by rw [mI_n (by omega)]; exact ⟨r4 a ha, ha⟩) f0 (by omega)
  have hS1 := j2.sta (hCw.sta hS0)
  have hs1 : ∀ δ : Nat → Nat → Nat, sta δ 0 = 0 := fun δ => rfl
  refine ⟨wI M1 45 0 (nI 0), mrg (fun a => a) 300 0, ?_, (r2.tr (hCw.tr j2)).tr (CmF.rf.w (by omega) _ _), ?_, ⟨?_, fun k hk => ?_, fun k hk0 hk => by omega, fun a ha => ⟨?_, ?_⟩, rfl⟩, fun hg => ⟨by omega, fun i j hij hj => by omega, fun k hk => ?_, fun a b ha hb e x hx hn => ?_, ?_⟩⟩
  · unfold fX1_begin
    rw [i0, r1, fX1_begin_2]
    simp (disch := omega) only [q_eM, q_Me, q_Mlt, q_Mle, q_leM, q_ltM, q_le, q_nle, q_lt, q_nlt, q_neq, zin_nI, nI_clamp, nI_add, pk_mul, pk_sub, mI_e, mI_n, mL_e, mL_n, mR_e, mR_n, i0, i1, ↓reduceIte, ↓bI_t, ↓bI_f, Bool.false_eq_true, eq_self, chk_true, bnd_just, bnd2_just, app_t, beq_self_eq_true, mK_wI, mK_wL, mK_wR, mK_wIr, mK_wLr, mN_wI, mN_wL, mN_wR, mN_wIr, mN_wLr, mR_wI, mR_wL, mR_wIr, mR_wLr, mI_wL, mI_wR, mI_wLr, mL_wI, mL_wR, mL_wIr, i600, sk_38 hS0, j1, sk_38 hS1, sk_45 hS1, sn_45 hS1, sr_38_8 hS1]
  · rw [mI_n (by omega), j4, mI_n (by omega), r3]
  · rw [mI_n (by omega), j3]
  · have hk0 : k = 0 := by omega
    subst hk0
    rw [mI_n (by omega), mI_n (by omega), mI_e rfl rfl, j5, j6, if_pos rfl, if_pos rfl]
    exact ⟨rfl, rfl, rfl, by rw [wd_0]; simp⟩
  · rw [mI_n (by omega), j8 a ha]
  · unfold mrg; split <;> omega
  · exact not_tel hg
  · have hD := hn 0 (by omega)
    have hpq : outS δ1 δ2 g1 g2 0 x = outS δ1 δ2 g1 g2 300 x := by
      have := tel_eq hD
      rw [sta_ext hx, sta_ext hx, hs1, hs1] at this
      unfold outS
      rw [if_pos (by omega), if_neg (by omega)]
      exact this
    unfold mrg at e
    simp only at e
    by_cases ha' : a = 300
    · by_cases hb' : b = 300
      · rw [ha', hb']
      · rw [if_pos ha', if_neg hb'] at e
        rw [ha', ← e]; exact hpq.symm
    · by_cases hb' : b = 300
      · rw [if_neg ha', if_pos hb'] at e
        rw [hb', e]; exact hpq
      · rw [if_neg ha', if_neg hb'] at e
        rw [e]
  · have hr : ∀ s t, s < 600 → t < 600 → (fun a : Nat => a) s = (fun a : Nat => a) t → mrg (fun a => a) 300 0 s = mrg (fun a => a) 300 0 t := fun s t _ _ q => by
      have : s = t := q
      rw [this]
    have hle := cnt_ref (G := mrg (fun a => a) 300 0) (H := fun a => a) hr
    have hlt : cntB (newB (mrg (fun a => a) 300 0)) 600 ≠ cntB (newB (fun a : Nat => a)) 600 := fun q => by
      have := same_part hr q 300 0 (by omega) (by omega) (by unfold mrg; simp)
      have h2 : (0 : Nat) = 300 := this
      omega
    have := cntB_n (newB (fun a : Nat => a)) 600
    omega
end ZCCMP2
