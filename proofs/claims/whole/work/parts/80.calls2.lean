/-! what the calls answer: follows, has, whole, letter -/
section ZCALLS2
theorem b_follows {xs : Nat → Int32} {L : Nat} {M : zM} {cs ts : List Nat} {cu ke : Option zPt} (h : zInv xs L M cs ts cu ke) (v w : Int32) (N : Nat) : BothB xs L (fL_follows N M 1 v w 102) (fun M1 => fX10_follows N M1 68 v w) := by
  have hS := h.sta
  cases cu with
  | none =>
    have e1 := (c_the hS h.cu N).1 rfl
    refine ⟨1, false, M, wI M 68 0 (nI 1), cs, ts, none, ke, ?_, by omega, h.pre, ?_, mI_e rfl rfl, fun q => by omega, h.scr (Scr.rf.code _)⟩
    · unfold fL_follows fX9_follows
      simp only [chk_true, bnd_just, bnd2_just, app_t, beq_self_eq_true, mK_wI, mK_wL, mK_wR, mK_wIr, mK_wLr, mN_wI, mN_wL, mN_wR, mN_wIr, mN_wLr, mR_wI, mR_wL, mR_wIr, mR_wLr, mI_wL, mI_wR, mI_wLr, mL_wI, mL_wR, mL_wIr, sk_1 hS, e1, bndT_r, bndC_r, if_true, i1]
    · show fX10_follows N M 68 v w = _
      unfold fX10_follows fX10_follows_33
      rw [m_nopos0 hS h.cu]
      simp (disch := omega) only [q_eM, q_Me, q_Mlt, q_Mle, q_leM, q_ltM, q_le, q_nle, q_lt, q_nlt, q_neq, zin_nI, nI_clamp, nI_add, pk_mul, pk_sub, mI_e, mI_n, mL_e, mL_n, mR_e, mR_n, i0, i1, ↓reduceIte, ↓bI_t, ↓bI_f, Bool.false_eq_true, eq_self, chk_true, bnd_just, bnd2_just, app_t, beq_self_eq_true, mK_wI, mK_wL, mK_wR, mK_wIr, mK_wLr, mN_wI, mN_wL, mN_wR, mN_wIr, mN_wLr, mR_wI, mR_wL, mR_wIr, mR_wLr, mI_wL, mI_wR, mI_wLr, mL_wI, mL_wR, mL_wIr, sk_68 hS]
  | some p =>
    obtain ⟨h1, h2, h3, P, h4, h5, h6, h7⟩ := h.cu
    have e1 := (c_the hS h.cu N).2 P h5
    have hk := h3.1
    have hkk := h6.k
    have np := m_nopos hS h.cu v N
    have hb1 : (v < 0 ∨ nI (pk p) ≤ v) → BothB xs L (fL_follows N M 1 v w 102) (fun M1 => fX10_follows N M1 68 v w) := by
      intro hv
      refine ⟨2, false, M, wI M 68 0 (nI 2), cs, ts, some p, ke, ?_, by omega, h.pre, ?_, mI_e rfl rfl, fun q => by omega, h.scr (Scr.rf.code _)⟩
      · unfold fL_follows fX9_follows
        by_cases hv0 : v < 0
        · simp only [chk_true, bnd_just, bnd2_just, app_t, beq_self_eq_true, mK_wI, mK_wL, mK_wR, mK_wIr, mK_wLr, mN_wI, mN_wL, mN_wR, mN_wIr, mN_wLr, mR_wI, mR_wL, mR_wIr, mR_wLr, mI_wL, mI_wR, mI_wLr, mL_wI, mL_wR, mL_wIr, sk_1 hS, e1, bndT_l, bndC_r, i0, neg_lt hv0, if_true, sq2, if_false, il_2]
        · have hvb : nI (pk p) ≤ v := hv.resolve_left hv0
          have n0 : (v < nI 0) = False := eq_false (by rw [← i0]; exact hv0)
          have n1 : (nI (pk p) ≤ v) = True := eq_true hvb
          simp (disch := omega) only [chk_true, bnd_just, bnd2_just, app_t, beq_self_eq_true, mK_wI, mK_wL, mK_wR, mK_wIr, mK_wLr, mN_wI, mN_wL, mN_wR, mN_wIr, mN_wLr, mR_wI, mR_wL, mR_wIr, mR_wLr, mI_wL, mI_wR, mI_wLr, mL_wI, mL_wR, mL_wIr, sk_1 hS, e1, bndT_l, bndC_r, i0, n0, n1, hkk, pK0 hS h4, if_true, sq2, if_false, il_2]
      · show fX10_follows N M 68 v w = _
        unfold fX10_follows fX10_follows_33
        rw [np.1 hv]
        simp (disch := omega) only [q_eM, q_Me, q_Mlt, q_Mle, q_leM, q_ltM, q_le, q_nle, q_lt, q_nlt, q_neq, zin_nI, nI_clamp, nI_add, pk_mul, pk_sub, mI_e, mI_n, mL_e, mL_n, mR_e, mR_n, i0, i1, ↓reduceIte, ↓bI_t, ↓bI_f, Bool.false_eq_true, eq_self, chk_true, bnd_just, bnd2_just, app_t, beq_self_eq_true, mK_wI, mK_wL, mK_wR, mK_wIr, mK_wLr, mN_wI, mN_wL, mN_wR, mN_wIr, mN_wLr, mR_wI, mR_wL, mR_wIr, mR_wLr, mI_wL, mI_wR, mI_wLr, mL_wI, mL_wR, mL_wIr, sk_68 hS]
    rcases pk_ix v (n := pk p) (by omega) with hv | hv | ⟨j, hj, rfl⟩
    · exact hb1 (Or.inl hv)
    · exact hb1 (Or.inr hv)
    · have np2 := np.2 j hj rfl
      have hI0 := h.scr (Scr.rf.code (nI 0))
      have hb2 : (w < 0 ∨ nI (pk p) ≤ w) → BothB xs L (fL_follows N M 1 (nI j) w 102) (fun M1 => fX10_follows N M1 68 (nI j) w) := by
        intro hw
        have npw := (m_nopos hI0.sta hI0.cu w N).1 hw
        refine ⟨2, false, M, wI (wI M 68 0 (nI 0)) 68 0 (nI 2), cs, ts, some p, ke, ?_, by omega, h.pre, ?_, mI_e rfl rfl, fun q => by omega, h.scr ((Scr.rf.code _).code _)⟩
        · unfold fL_follows fX9_follows
          by_cases hw0 : w < 0
          · simp (disch := omega) only [q_eM, q_Me, q_Mlt, q_Mle, q_leM, q_ltM, q_le, q_nle, q_lt, q_nlt, q_neq, zin_nI, nI_clamp, nI_add, pk_mul, pk_sub, mI_e, mI_n, mL_e, mL_n, mR_e, mR_n, i0, i1, ↓reduceIte, ↓bI_t, ↓bI_f, Bool.false_eq_true, eq_self, chk_true, bnd_just, bnd2_just, app_t, beq_self_eq_true, mK_wI, mK_wL, mK_wR, mK_wIr, mK_wLr, mN_wI, mN_wL, mN_wR, mN_wIr, mN_wLr, mR_wI, mR_wL, mR_wIr, mR_wLr, mI_wL, mI_wR, mI_wLr, mL_wI, mL_wR, mL_wIr, sk_1 hS, e1, bndT_l, bndC_r, hkk, pK0 hS h4, neg_lt hw0, sq2, il_2]
          · have hwb : nI (pk p) ≤ w := hw.resolve_left hw0
            have n0 : (w < nI 0) = False := eq_false (by rw [← i0]; exact hw0)
            simp (disch := omega) only [q_eM, q_Me, q_Mlt, q_Mle, q_leM, q_ltM, q_le, q_nle, q_lt, q_nlt, q_neq, zin_nI, nI_clamp, nI_add, pk_mul, pk_sub, mI_e, mI_n, mL_e, mL_n, mR_e, mR_n, i0, i1, ↓reduceIte, ↓bI_t, ↓bI_f, Bool.false_eq_true, eq_self, chk_true, bnd_just, bnd2_just, app_t, beq_self_eq_true, mK_wI, mK_wL, mK_wR, mK_wIr, mK_wLr, mN_wI, mN_wL, mN_wR, mN_wIr, mN_wLr, mR_wI, mR_wL, mR_wIr, mR_wLr, mI_wL, mI_wR, mI_wLr, mL_wI, mL_wR, mL_wIr, sk_1 hS, e1, bndT_l, bndC_r, hkk, pK0 hS h4, n0, big_lt hwb, sq2, il_2]
        · show fX10_follows N M 68 (nI j) w = _
          unfold fX10_follows fX10_follows_33
          rw [np2]
          simp (disch := omega) only [q_eM, q_Me, q_Mlt, q_Mle, q_leM, q_ltM, q_le, q_nle, q_lt, q_nlt, q_neq, zin_nI, nI_clamp, nI_add, pk_mul, pk_sub, mI_e, mI_n, mL_e, mL_n, mR_e, mR_n, i0, i1, ↓reduceIte, ↓bI_t, ↓bI_f, Bool.false_eq_true, eq_self, chk_true, bnd_just, bnd2_just, app_t, beq_self_eq_true, mK_wI, mK_wL, mK_wR, mK_wIr, mK_wLr, mN_wI, mN_wL, mN_wR, mN_wIr, mN_wLr, mR_wI, mR_wL, mR_wIr, mR_wLr, mI_wL, mI_wR, mI_wLr, mL_wI, mL_wR, mL_wIr, sk_68 hS, npw]
      rcases pk_ix w (n := pk p) (by omega) with hw | hw | ⟨i, hi, rfl⟩
      · exact hb2 (Or.inl hw)
      · exact hb2 (Or.inr hw)
      · have hb : mL M (P + 1) j = pfo p j := h6.1.2.2.1 j hj
        have g76 : mL M 76 j = pfo p j := by
          have := h2.2.2.2.2.2.1 j hj
          rw [show 60 * 0 + j = j by omega] at this
          exact this
        have hI1 := h.scr (Scr.rf.out 0 (oB (jb (pfo p j) i)))
        have np3 := (m_nopos hI1.sta hI1.cu (nI j) N).2 j hj rfl
        have hI2 := hI1.scr (Scr.rf.code (nI 0))
        have np4 := (m_nopos hI2.sta hI2.cu (nI i) N).2 i hi rfl
        refine ⟨0, jb (pfo p j) i, wL M 102 0 (oB (jb (pfo p j) i)), wI (wI (wL M 102 0 (oB (jb (pfo p j) i))) 68 0 (nI 0)) 68 0 (nI 0), cs, ts, some p, ke, ?_, by omega, hI1.pre, ?_, mI_e rfl rfl, fun _ => ?_, hI1.scr ((Scr.rf.code _).code _)⟩
        · unfold fL_follows fX9_follows fL_follows_16
          simp (disch := omega) only [q_eM, q_Me, q_Mlt, q_Mle, q_leM, q_ltM, q_le, q_nle, q_lt, q_nlt, q_neq, zin_nI, nI_clamp, nI_add, pk_mul, pk_sub, mI_e, mI_n, mL_e, mL_n, mR_e, mR_n, i0, i1, ↓reduceIte, ↓bI_t, ↓bI_f, Bool.false_eq_true, eq_self, chk_true, bnd_just, bnd2_just, app_t, beq_self_eq_true, mK_wI, mK_wL, mK_wR, mK_wIr, mK_wLr, mN_wI, mN_wL, mN_wR, mN_wIr, mN_wLr, mR_wI, mR_wL, mR_wIr, mR_wLr, mI_wL, mI_wR, mI_wLr, mL_wI, mL_wR, mL_wIr, sk_1 hS, e1, bndT_l, bndC_l, hkk, pK0 hS h4, pR4 hS h4, pK1 hS h4, pN1 hS h4, hb, f_holds N M (pfo p j) (show i < 64 by omega), z01_b]
          cases jb (pfo p j) i <;> simp (disch := omega) only [q_eM, q_Me, q_Mlt, q_Mle, q_leM, q_ltM, q_le, q_nle, q_lt, q_nlt, q_neq, zin_nI, nI_clamp, nI_add, pk_mul, pk_sub, mI_e, mI_n, mL_e, mL_n, mR_e, mR_n, i0, i1, ↓reduceIte, ↓bI_t, ↓bI_f, Bool.false_eq_true, eq_self, chk_true, bnd_just, bnd2_just, app_t, beq_self_eq_true, mK_wI, mK_wL, mK_wR, mK_wIr, mK_wLr, mN_wI, mN_wL, mN_wR, mN_wIr, mN_wLr, mR_wI, mR_wL, mR_wIr, mR_wLr, mI_wL, mI_wR, mI_wLr, mL_wI, mL_wR, mL_wIr, bndC_l, k102 hS, n102 hS] <;> rfl
        · show fX10_follows N (wL M 102 0 (oB (jb (pfo p j) i))) 68 (nI j) (nI i) = _
          unfold fX10_follows fX10_follows_33
          rw [np3]
          simp (disch := omega) only [q_eM, q_Me, q_Mlt, q_Mle, q_leM, q_ltM, q_le, q_nle, q_lt, q_nlt, q_neq, zin_nI, nI_clamp, nI_add, pk_mul, pk_sub, mI_e, mI_n, mL_e, mL_n, mR_e, mR_n, i0, i1, ↓reduceIte, ↓bI_t, ↓bI_f, Bool.false_eq_true, eq_self, chk_true, bnd_just, bnd2_just, app_t, beq_self_eq_true, mK_wI, mK_wL, mK_wR, mK_wIr, mK_wLr, mN_wI, mN_wL, mN_wR, mN_wIr, mN_wLr, mR_wI, mR_wL, mR_wIr, mR_wLr, mI_wL, mI_wR, mI_wLr, mL_wI, mL_wR, mL_wIr, sk_68 hS, np4]
          simp (disch := omega) only [q_eM, q_Me, q_Mlt, q_Mle, q_leM, q_ltM, q_le, q_nle, q_lt, q_nlt, q_neq, zin_nI, nI_clamp, nI_add, pk_mul, pk_sub, mI_e, mI_n, mL_e, mL_n, mR_e, mR_n, i0, i1, ↓reduceIte, ↓bI_t, ↓bI_f, Bool.false_eq_true, eq_self, chk_true, bnd_just, bnd2_just, app_t, beq_self_eq_true, mK_wI, mK_wL, mK_wR, mK_wIr, mK_wLr, mN_wI, mN_wL, mN_wR, mN_wIr, mN_wLr, mR_wI, mR_wL, mR_wIr, mR_wLr, mI_wL, mI_wR, mI_wLr, mL_wI, mL_wR, mL_wIr, sk_68 hS, sk_76 hS, sn_76 hS, sr_68_11 hS, g76, m_hasBit]
          cases jb (pfo p j) i <;> simp (disch := omega) only [q_eM, q_Me, q_Mlt, q_Mle, q_leM, q_ltM, q_le, q_nle, q_lt, q_nlt, q_neq, zin_nI, nI_clamp, nI_add, pk_mul, pk_sub, mI_e, mI_n, mL_e, mL_n, mR_e, mR_n, i0, i1, ↓reduceIte, ↓bI_t, ↓bI_f, Bool.false_eq_true, eq_self, chk_true, bnd_just, bnd2_just, app_t, beq_self_eq_true, mK_wI, mK_wL, mK_wR, mK_wIr, mK_wLr, mN_wI, mN_wL, mN_wR, mN_wIr, mN_wLr, mR_wI, mR_wL, mR_wIr, mR_wLr, mI_wL, mI_wR, mI_wLr, mL_wI, mL_wR, mL_wIr]
        · show mL (wL M 102 0 (oB (jb (pfo p j) i))) 102 0 = _
          rw [mL_e rfl rfl]; rfl
theorem b_has {xs : Nat → Int32} {L : Nat} {M : zM} {cs ts : List Nat} {cu ke : Option zPt} (h : zInv xs L M cs ts cu ke) (v w : Int32) (N : Nat) : BothB xs L (fL_has N M 1 v w 102) (fun M1 => fX10_has N M1 68 v w) := by
  have hS := h.sta
  cases cu with
  | none =>
    have e1 := (c_the hS h.cu N).1 rfl
    refine ⟨1, false, M, wI M 68 0 (nI 1), cs, ts, none, ke, ?_, by omega, h.pre, ?_, mI_e rfl rfl, fun q => by omega, h.scr (Scr.rf.code _)⟩
    · unfold fL_has fX9_has
      simp only [chk_true, bnd_just, bnd2_just, app_t, beq_self_eq_true, mK_wI, mK_wL, mK_wR, mK_wIr, mK_wLr, mN_wI, mN_wL, mN_wR, mN_wIr, mN_wLr, mR_wI, mR_wL, mR_wIr, mR_wLr, mI_wL, mI_wR, mI_wLr, mL_wI, mL_wR, mL_wIr, sk_1 hS, e1, bndT_r, bndC_r, if_true, i1]
    · show fX10_has N M 68 v w = _
      unfold fX10_has
      rw [m_nopos0 hS h.cu]
      simp (disch := omega) only [q_eM, q_Me, q_Mlt, q_Mle, q_leM, q_ltM, q_le, q_nle, q_lt, q_nlt, q_neq, zin_nI, nI_clamp, nI_add, pk_mul, pk_sub, mI_e, mI_n, mL_e, mL_n, mR_e, mR_n, i0, i1, ↓reduceIte, ↓bI_t, ↓bI_f, Bool.false_eq_true, eq_self, chk_true, bnd_just, bnd2_just, app_t, beq_self_eq_true, mK_wI, mK_wL, mK_wR, mK_wIr, mK_wLr, mN_wI, mN_wL, mN_wR, mN_wIr, mN_wLr, mR_wI, mR_wL, mR_wIr, mR_wLr, mI_wL, mI_wR, mI_wLr, mL_wI, mL_wR, mL_wIr, sk_68 hS]
  | some p =>
    obtain ⟨h1, h2, h3, P, h4, h5, h6, h7⟩ := h.cu
    have e1 := (c_the hS h.cu N).2 P h5
    have hk := h3.1
    have hkk := h6.k
    have np := m_nopos hS h.cu v N
    have hb1 : (v < 0 ∨ nI (pk p) ≤ v) → BothB xs L (fL_has N M 1 v w 102) (fun M1 => fX10_has N M1 68 v w) := by
      intro hv
      refine ⟨2, false, M, wI M 68 0 (nI 2), cs, ts, some p, ke, ?_, by omega, h.pre, ?_, mI_e rfl rfl, fun q => by omega, h.scr (Scr.rf.code _)⟩
      · unfold fL_has fX9_has
        by_cases hv0 : v < 0
        · simp only [chk_true, bnd_just, bnd2_just, app_t, beq_self_eq_true, mK_wI, mK_wL, mK_wR, mK_wIr, mK_wLr, mN_wI, mN_wL, mN_wR, mN_wIr, mN_wLr, mR_wI, mR_wL, mR_wIr, mR_wLr, mI_wL, mI_wR, mI_wLr, mL_wI, mL_wR, mL_wIr, sk_1 hS, e1, bndT_l, bndC_r, i0, neg_lt hv0, if_true, sq2, if_false, il_2]
        · have hvb : nI (pk p) ≤ v := hv.resolve_left hv0
          have n0 : (v < nI 0) = False := eq_false (by rw [← i0]; exact hv0)
          have n1 : (nI (pk p) ≤ v) = True := eq_true hvb
          simp (disch := omega) only [chk_true, bnd_just, bnd2_just, app_t, beq_self_eq_true, mK_wI, mK_wL, mK_wR, mK_wIr, mK_wLr, mN_wI, mN_wL, mN_wR, mN_wIr, mN_wLr, mR_wI, mR_wL, mR_wIr, mR_wLr, mI_wL, mI_wR, mI_wLr, mL_wI, mL_wR, mL_wIr, sk_1 hS, e1, bndT_l, bndC_r, i0, n0, n1, hkk, pK0 hS h4, if_true, sq2, if_false, il_2]
      · show fX10_has N M 68 v w = _
        unfold fX10_has
        rw [np.1 hv]
        simp (disch := omega) only [q_eM, q_Me, q_Mlt, q_Mle, q_leM, q_ltM, q_le, q_nle, q_lt, q_nlt, q_neq, zin_nI, nI_clamp, nI_add, pk_mul, pk_sub, mI_e, mI_n, mL_e, mL_n, mR_e, mR_n, i0, i1, ↓reduceIte, ↓bI_t, ↓bI_f, Bool.false_eq_true, eq_self, chk_true, bnd_just, bnd2_just, app_t, beq_self_eq_true, mK_wI, mK_wL, mK_wR, mK_wIr, mK_wLr, mN_wI, mN_wL, mN_wR, mN_wIr, mN_wLr, mR_wI, mR_wL, mR_wIr, mR_wLr, mI_wL, mI_wR, mI_wLr, mL_wI, mL_wR, mL_wIr, sk_68 hS]
    rcases pk_ix v (n := pk p) (by omega) with hv | hv | ⟨j, hj, rfl⟩
    · exact hb1 (Or.inl hv)
    · exact hb1 (Or.inr hv)
    · have np2 := np.2 j hj rfl
      have hb2 : (w < 0 ∨ nI 36 ≤ w) → BothB xs L (fL_has N M 1 (nI j) w 102) (fun M1 => fX10_has N M1 68 (nI j) w) := by
        intro hw
        refine ⟨2, false, M, wI (wI M 68 0 (nI 0)) 68 0 (nI 2), cs, ts, some p, ke, ?_, by omega, h.pre, ?_, mI_e rfl rfl, fun q => by omega, h.scr ((Scr.rf.code _).code _)⟩
        · unfold fL_has fX9_has
          by_cases hw0 : w < 0
          · simp (disch := omega) only [q_eM, q_Me, q_Mlt, q_Mle, q_leM, q_ltM, q_le, q_nle, q_lt, q_nlt, q_neq, zin_nI, nI_clamp, nI_add, pk_mul, pk_sub, mI_e, mI_n, mL_e, mL_n, mR_e, mR_n, i0, i1, ↓reduceIte, ↓bI_t, ↓bI_f, Bool.false_eq_true, eq_self, chk_true, bnd_just, bnd2_just, app_t, beq_self_eq_true, mK_wI, mK_wL, mK_wR, mK_wIr, mK_wLr, mN_wI, mN_wL, mN_wR, mN_wIr, mN_wLr, mR_wI, mR_wL, mR_wIr, mR_wLr, mI_wL, mI_wR, mI_wLr, mL_wI, mL_wR, mL_wIr, sk_1 hS, e1, bndT_l, bndC_r, hkk, pK0 hS h4, neg_lt hw0, sq2, il_2]
          · have hwb : nI 36 ≤ w := hw.resolve_left hw0
            have n0 : (w < nI 0) = False := eq_false (by rw [← i0]; exact hw0)
            simp (disch := omega) only [q_eM, q_Me, q_Mlt, q_Mle, q_leM, q_ltM, q_le, q_nle, q_lt, q_nlt, q_neq, zin_nI, nI_clamp, nI_add, pk_mul, pk_sub, mI_e, mI_n, mL_e, mL_n, mR_e, mR_n, i0, i1, ↓reduceIte, ↓bI_t, ↓bI_f, Bool.false_eq_true, eq_self, chk_true, bnd_just, bnd2_just, app_t, beq_self_eq_true, mK_wI, mK_wL, mK_wR, mK_wIr, mK_wLr, mN_wI, mN_wL, mN_wR, mN_wIr, mN_wLr, mR_wI, mR_wL, mR_wIr, mR_wLr, mI_wL, mI_wR, mI_wLr, mL_wI, mL_wR, mL_wIr, i36, sk_1 hS, e1, bndT_l, bndC_r, hkk, pK0 hS h4, n0, big_lt hwb, sq2, il_2]
        · show fX10_has N M 68 (nI j) w = _
          unfold fX10_has fX10_has_21 fX10_has_26 fX10_has_53
          rw [np2]
          by_cases hw0 : w < 0
          · simp (disch := omega) only [q_eM, q_Me, q_Mlt, q_Mle, q_leM, q_ltM, q_le, q_nle, q_lt, q_nlt, q_neq, zin_nI, nI_clamp, nI_add, pk_mul, pk_sub, mI_e, mI_n, mL_e, mL_n, mR_e, mR_n, i0, i1, ↓reduceIte, ↓bI_t, ↓bI_f, Bool.false_eq_true, eq_self, chk_true, bnd_just, bnd2_just, app_t, beq_self_eq_true, mK_wI, mK_wL, mK_wR, mK_wIr, mK_wLr, mN_wI, mN_wL, mN_wR, mN_wIr, mN_wLr, mR_wI, mR_wL, mR_wIr, mR_wLr, mI_wL, mI_wR, mI_wLr, mL_wI, mL_wR, mL_wIr, i36, il_2, sk_68 hS, neg_lt hw0]
          · have hwb : nI 36 ≤ w := hw.resolve_left hw0
            have n0 : (w < nI 0) = False := eq_false (by rw [← i0]; exact hw0)
            simp (disch := omega) only [q_eM, q_Me, q_Mlt, q_Mle, q_leM, q_ltM, q_le, q_nle, q_lt, q_nlt, q_neq, zin_nI, nI_clamp, nI_add, pk_mul, pk_sub, mI_e, mI_n, mL_e, mL_n, mR_e, mR_n, i0, i1, ↓reduceIte, ↓bI_t, ↓bI_f, Bool.false_eq_true, eq_self, chk_true, bnd_just, bnd2_just, app_t, beq_self_eq_true, mK_wI, mK_wL, mK_wR, mK_wIr, mK_wLr, mN_wI, mN_wL, mN_wR, mN_wIr, mN_wLr, mR_wI, mR_wL, mR_wIr, mR_wLr, mI_wL, mI_wR, mI_wLr, mL_wI, mL_wR, mL_wIr, i36, il_2, sk_68 hS, n0, big_lt hwb]
      rcases pk_ix w (n := 36) (by omega) with hw | hw | ⟨i, hi, rfl⟩
      · exact hb2 (Or.inl hw)
      · exact hb2 (Or.inr hw)
      · have hb : mL M (P + 2) j = pse p j := h6.1.2.2.2 j hj
        have g77 : mL M 77 j = pse p j := by
          have := h2.2.2.2.2.2.2 j hj
          rw [show 60 * 0 + j = j by omega] at this
          exact this
        have hI1 := h.scr (Scr.rf.out 0 (oB (jb (pse p j) i)))
        have np3 := (m_nopos hI1.sta hI1.cu (nI j) N).2 j hj rfl
        refine ⟨0, jb (pse p j) i, wL M 102 0 (oB (jb (pse p j) i)), wI (wI (wL M 102 0 (oB (jb (pse p j) i))) 68 0 (nI 0)) 68 0 (nI 0), cs, ts, some p, ke, ?_, by omega, hI1.pre, ?_, mI_e rfl rfl, fun _ => ?_, hI1.scr ((Scr.rf.code _).code _)⟩
        · unfold fL_has fX9_has fL_has_16
          simp (disch := omega) only [q_eM, q_Me, q_Mlt, q_Mle, q_leM, q_ltM, q_le, q_nle, q_lt, q_nlt, q_neq, zin_nI, nI_clamp, nI_add, pk_mul, pk_sub, mI_e, mI_n, mL_e, mL_n, mR_e, mR_n, i0, i1, ↓reduceIte, ↓bI_t, ↓bI_f, Bool.false_eq_true, eq_self, chk_true, bnd_just, bnd2_just, app_t, beq_self_eq_true, mK_wI, mK_wL, mK_wR, mK_wIr, mK_wLr, mN_wI, mN_wL, mN_wR, mN_wIr, mN_wLr, mR_wI, mR_wL, mR_wIr, mR_wLr, mI_wL, mI_wR, mI_wLr, mL_wI, mL_wR, mL_wIr, i36, sk_1 hS, e1, bndT_l, bndC_l, hkk, pK0 hS h4, pR5 hS h4, pK2 hS h4, pN2 hS h4, hb, f_holds N M (pse p j) (show i < 64 by omega), z01_b]
          cases jb (pse p j) i <;> simp (disch := omega) only [q_eM, q_Me, q_Mlt, q_Mle, q_leM, q_ltM, q_le, q_nle, q_lt, q_nlt, q_neq, zin_nI, nI_clamp, nI_add, pk_mul, pk_sub, mI_e, mI_n, mL_e, mL_n, mR_e, mR_n, i0, i1, ↓reduceIte, ↓bI_t, ↓bI_f, Bool.false_eq_true, eq_self, chk_true, bnd_just, bnd2_just, app_t, beq_self_eq_true, mK_wI, mK_wL, mK_wR, mK_wIr, mK_wLr, mN_wI, mN_wL, mN_wR, mN_wIr, mN_wLr, mR_wI, mR_wL, mR_wIr, mR_wLr, mI_wL, mI_wR, mI_wLr, mL_wI, mL_wR, mL_wIr, bndC_l, k102 hS, n102 hS] <;> rfl
        · show fX10_has N (wL M 102 0 (oB (jb (pse p j) i))) 68 (nI j) (nI i) = _
          unfold fX10_has fX10_has_26 fX10_has_53
          rw [np3]
          simp (disch := omega) only [q_eM, q_Me, q_Mlt, q_Mle, q_leM, q_ltM, q_le, q_nle, q_lt, q_nlt, q_neq, zin_nI, nI_clamp, nI_add, pk_mul, pk_sub, mI_e, mI_n, mL_e, mL_n, mR_e, mR_n, i0, i1, ↓reduceIte, ↓bI_t, ↓bI_f, Bool.false_eq_true, eq_self, chk_true, bnd_just, bnd2_just, app_t, beq_self_eq_true, mK_wI, mK_wL, mK_wR, mK_wIr, mK_wLr, mN_wI, mN_wL, mN_wR, mN_wIr, mN_wLr, mR_wI, mR_wL, mR_wIr, mR_wLr, mI_wL, mI_wR, mI_wLr, mL_wI, mL_wR, mL_wIr, i36, sk_68 hS, sk_77 hS, sn_77 hS, sr_68_12 hS, g77, m_hasBit]
          cases jb (pse p j) i <;> simp (disch := omega) only [q_eM, q_Me, q_Mlt, q_Mle, q_leM, q_ltM, q_le, q_nle, q_lt, q_nlt, q_neq, zin_nI, nI_clamp, nI_add, pk_mul, pk_sub, mI_e, mI_n, mL_e, mL_n, mR_e, mR_n, i0, i1, ↓reduceIte, ↓bI_t, ↓bI_f, Bool.false_eq_true, eq_self, chk_true, bnd_just, bnd2_just, app_t, beq_self_eq_true, mK_wI, mK_wL, mK_wR, mK_wIr, mK_wLr, mN_wI, mN_wL, mN_wR, mN_wIr, mN_wLr, mR_wI, mR_wL, mR_wIr, mR_wLr, mI_wL, mI_wR, mI_wLr, mL_wI, mL_wR, mL_wIr]
        · show mL (wL M 102 0 (oB (jb (pse p j) i))) 102 0 = _
          rw [mL_e rfl rfl]; rfl
theorem b_whole {xs : Nat → Int32} {L : Nat} {M : zM} {cs ts : List Nat} {cu ke : Option zPt} (h : zInv xs L M cs ts cu ke) (N : Nat) (hN : 1000 ≤ N) : BothB xs L (fL_whole N M 1 102) (fun M1 => fX10_whole N M1 68) := by
  have hS := h.sta
  cases cu with
  | none =>
    have e1 := (c_the hS h.cu N).1 rfl
    refine ⟨1, false, M, wI M 68 0 (nI 1), cs, ts, none, ke, ?_, by omega, h.pre, ?_, mI_e rfl rfl, fun q => by omega, h.scr (Scr.rf.code _)⟩
    · unfold fL_whole fX9_whole
      simp only [chk_true, bnd_just, bnd2_just, app_t, beq_self_eq_true, mK_wI, mK_wL, mK_wR, mK_wIr, mK_wLr, mN_wI, mN_wL, mN_wR, mN_wIr, mN_wLr, mR_wI, mR_wL, mR_wIr, mR_wLr, mI_wL, mI_wR, mI_wLr, mL_wI, mL_wR, mL_wIr, sk_1 hS, sr_1_1 hS, e1, bndT_r, bndC_r, if_true, i1]
    · show fX10_whole N M 68 = _
      unfold fX10_whole
      rw [m_none hS h.cu]
      simp (disch := omega) only [q_eM, q_Me, q_Mlt, q_Mle, q_leM, q_ltM, q_le, q_nle, q_lt, q_nlt, q_neq, zin_nI, nI_clamp, nI_add, pk_mul, pk_sub, mI_e, mI_n, mL_e, mL_n, mR_e, mR_n, i0, i1, ↓reduceIte, ↓bI_t, ↓bI_f, Bool.false_eq_true, eq_self, chk_true, bnd_just, bnd2_just, app_t, beq_self_eq_true, mK_wI, mK_wL, mK_wR, mK_wIr, mK_wLr, mN_wI, mN_wL, mN_wR, mN_wIr, mN_wLr, mR_wI, mR_wL, mR_wIr, mR_wLr, mI_wL, mI_wR, mI_wLr, mL_wI, mL_wR, mL_wIr, sk_68 hS, Option.isNone_none]
  | some p =>
    obtain ⟨h1, h2, h3, P, h4, h5, h6, h7⟩ := h.cu
    have e1 := (c_the hS h.cu N).2 P h5
    have hT := h.2.2.2.1.1
    have hl200 := hT.2.1
    have ew := c_isWord hS h4 h6 hT N (by omega)
    have hI1 := h.scr (Scr.rf.out 0 (oB (wrd p ts ts.length)))
    have hI2 := hI1.scr (Scr.rf.code (nI 0))
    refine ⟨0, wrd p ts ts.length, wL M 102 0 (oB (wrd p ts ts.length)), wI (wL M 102 0 (oB (wrd p ts ts.length))) 68 0 (nI 0), cs, ts, some p, ke, ?_, by omega, hI1.pre, ?_, mI_e rfl rfl, fun _ => ?_, hI2⟩
    · unfold fL_whole fX9_whole fL_whole_14
      simp (disch := omega) only [q_eM, q_Me, q_Mlt, q_Mle, q_leM, q_ltM, q_le, q_nle, q_lt, q_nlt, q_neq, zin_nI, nI_clamp, nI_add, pk_mul, pk_sub, mI_e, mI_n, mL_e, mL_n, mR_e, mR_n, i0, i1, ↓reduceIte, ↓bI_t, ↓bI_f, Bool.false_eq_true, eq_self, chk_true, bnd_just, bnd2_just, app_t, beq_self_eq_true, mK_wI, mK_wL, mK_wR, mK_wIr, mK_wLr, mN_wI, mN_wL, mN_wR, mN_wIr, mN_wLr, mR_wI, mR_wL, mR_wIr, mR_wLr, mI_wL, mI_wR, mI_wLr, mL_wI, mL_wR, mL_wIr, sk_1 hS, sk_27 hS, sr_1_1 hS, e1, bndT_l, bndC_l, ew, z01_b]
      cases wrd p ts ts.length <;> simp (disch := omega) only [q_eM, q_Me, q_Mlt, q_Mle, q_leM, q_ltM, q_le, q_nle, q_lt, q_nlt, q_neq, zin_nI, nI_clamp, nI_add, pk_mul, pk_sub, mI_e, mI_n, mL_e, mL_n, mR_e, mR_n, i0, i1, ↓reduceIte, ↓bI_t, ↓bI_f, Bool.false_eq_true, eq_self, chk_true, bnd_just, bnd2_just, app_t, beq_self_eq_true, mK_wI, mK_wL, mK_wR, mK_wIr, mK_wLr, mN_wI, mN_wL, mN_wR, mN_wIr, mN_wLr, mR_wI, mR_wL, mR_wIr, mR_wLr, mI_wL, mI_wR, mI_wLr, mL_wI, mL_wR, mL_wIr, bndC_l, k102 hS, n102 hS] <;> rfl
    · show fX10_whole N (wL M 102 0 (oB (wrd p ts ts.length))) 68 = _
      unfold fX10_whole
      rw [m_none hI1.sta hI1.cu]
      simp (disch := omega) only [q_eM, q_Me, q_Mlt, q_Mle, q_leM, q_ltM, q_le, q_nle, q_lt, q_nlt, q_neq, zin_nI, nI_clamp, nI_add, pk_mul, pk_sub, mI_e, mI_n, mL_e, mL_n, mR_e, mR_n, i0, i1, ↓reduceIte, ↓bI_t, ↓bI_f, Bool.false_eq_true, eq_self, chk_true, bnd_just, bnd2_just, app_t, beq_self_eq_true, mK_wI, mK_wL, mK_wR, mK_wIr, mK_wLr, mN_wI, mN_wL, mN_wR, mN_wIr, mN_wLr, mR_wI, mR_wL, mR_wIr, mR_wLr, mI_wL, mI_wR, mI_wLr, mL_wI, mL_wR, mL_wIr, sk_68 hS, Option.isNone_some]
      have := m_word hI2.sta hI2.cu.2.1 h3 hI2.2.2.2.1.2 ts.length 0 N (by omega) (by omega)
      exact this
    · show mL (wL M 102 0 (oB (wrd p ts ts.length))) 102 0 = _
      rw [mL_e rfl rfl]; rfl
theorem b_letter {xs : Nat → Int32} {L : Nat} {M : zM} {cs ts : List Nat} {cu ke : Option zPt} (h : zInv xs L M cs ts cu ke) (v : Int32) (N : Nat) : BothI xs L (fL_letter N M 1 v 102) (fun M1 => fX10_letter N M1 68 v) := by
  have hS := h.sta
  obtain ⟨n, w0, w1, w2, w3⟩ := h.2.2.2.2.2.2.2.2.2
  have hb1 : (v < 0 ∨ nI n ≤ v) → BothI xs L (fL_letter N M 1 v 102) (fun M1 => fX10_letter N M1 68 v) := by
    intro hv
    refine ⟨1, 0, M, wI M 68 0 (nI 1), cs, ts, cu, ke, ?_, by omega, h.pre, ?_, mI_e rfl rfl, fun q => by omega, h.scr (Scr.rf.code _)⟩
    · unfold fL_letter fX9_letter
      by_cases hv0 : v < 0
      · simp only [chk_true, bnd_just, bnd2_just, app_t, beq_self_eq_true, mK_wI, mK_wL, mK_wR, mK_wIr, mK_wLr, mN_wI, mN_wL, mN_wR, mN_wIr, mN_wLr, mR_wI, mR_wL, mR_wIr, mR_wLr, mI_wL, mI_wR, mI_wLr, mL_wI, mL_wR, mL_wIr, sk_1 hS, bndC_r, i0, neg_lt hv0, if_true, i1]
      · have hvb : nI n ≤ v := hv.resolve_left hv0
        have n0 : (v < nI 0) = False := eq_false (by rw [← i0]; exact hv0)
        simp (disch := omega) only [chk_true, bnd_just, bnd2_just, app_t, beq_self_eq_true, mK_wI, mK_wL, mK_wR, mK_wIr, mK_wLr, mN_wI, mN_wL, mN_wR, mN_wIr, mN_wLr, mR_wI, mR_wL, mR_wIr, mR_wLr, mI_wL, mI_wR, mI_wLr, mL_wI, mL_wR, mL_wIr, sk_1 hS, sk_38 hS, sr_1_4 hS, bndC_r, i0, n0, w1, big_lt hvb, if_true, if_false, i1]
    · show fX10_letter N M 68 v = _
      unfold fX10_letter fX10_letter_13 fX10_letter_18
      by_cases hv0 : v < 0
      · simp (disch := omega) only [q_eM, q_Me, q_Mlt, q_Mle, q_leM, q_ltM, q_le, q_nle, q_lt, q_nlt, q_neq, zin_nI, nI_clamp, nI_add, pk_mul, pk_sub, mI_e, mI_n, mL_e, mL_n, mR_e, mR_n, i0, i1, ↓reduceIte, ↓bI_t, ↓bI_f, Bool.false_eq_true, eq_self, chk_true, bnd_just, bnd2_just, app_t, beq_self_eq_true, mK_wI, mK_wL, mK_wR, mK_wIr, mK_wLr, mN_wI, mN_wL, mN_wR, mN_wIr, mN_wLr, mR_wI, mR_wL, mR_wIr, mR_wLr, mI_wL, mI_wR, mI_wLr, mL_wI, mL_wR, mL_wIr, sk_68 hS, neg_lt hv0]
      · have hvb : nI n ≤ v := hv.resolve_left hv0
        have n0 : (v < nI 0) = False := eq_false (by rw [← i0]; exact hv0)
        simp (disch := omega) only [q_eM, q_Me, q_Mlt, q_Mle, q_leM, q_ltM, q_le, q_nle, q_lt, q_nlt, q_neq, zin_nI, nI_clamp, nI_add, pk_mul, pk_sub, mI_e, mI_n, mL_e, mL_n, mR_e, mR_n, i0, i1, ↓reduceIte, ↓bI_t, ↓bI_f, Bool.false_eq_true, eq_self, chk_true, bnd_just, bnd2_just, app_t, beq_self_eq_true, mK_wI, mK_wL, mK_wR, mK_wIr, mK_wLr, mN_wI, mN_wL, mN_wR, mN_wIr, mN_wLr, mR_wI, mR_wL, mR_wIr, mR_wLr, mI_wL, mI_wR, mI_wLr, mL_wI, mL_wR, mL_wIr, sk_68 hS, n0, w2, big_lt hvb]
  rcases pk_ix v (n := n) (by omega) with hv | hv | ⟨j, hj, rfl⟩
  · exact hb1 (Or.inl hv)
  · exact hb1 (Or.inr hv)
  · have hI1 := h.scr (Scr.rf.out 0 (Int32.toInt64 (mI M 39 j)))
    have e3 := w3 j hj
    refine ⟨0, mI M 39 j, wL M 102 0 (Int32.toInt64 (mI M 39 j)), wI (wL M 102 0 (Int32.toInt64 (mI M 39 j))) 68 0 (nI 0), cs, ts, cu, ke, ?_, by omega, hI1.pre, ?_, mI_e rfl rfl, fun _ => ?_, hI1.scr (Scr.rf.code _)⟩
    · unfold fL_letter fX9_letter
      simp (disch := omega) only [q_eM, q_Me, q_Mlt, q_Mle, q_leM, q_ltM, q_le, q_nle, q_lt, q_nlt, q_neq, zin_nI, nI_clamp, nI_add, pk_mul, pk_sub, mI_e, mI_n, mL_e, mL_n, mR_e, mR_n, i0, i1, ↓reduceIte, ↓bI_t, ↓bI_f, Bool.false_eq_true, eq_self, chk_true, bnd_just, bnd2_just, app_t, beq_self_eq_true, mK_wI, mK_wL, mK_wR, mK_wIr, mK_wLr, mN_wI, mN_wL, mN_wR, mN_wIr, mN_wLr, mR_wI, mR_wL, mR_wIr, mR_wLr, mI_wL, mI_wR, mI_wLr, mL_wI, mL_wR, mL_wIr, sk_1 hS, sk_38 hS, sk_39 hS, sn_39 hS, sr_1_4 hS, sr_38_1 hS, bndC_l, w1, k102 hS, n102 hS]
    · show fX10_letter N (wL M 102 0 (Int32.toInt64 (mI M 39 j))) 68 (nI j) = _
      unfold fX10_letter fX10_letter_18
      simp (disch := omega) only [q_eM, q_Me, q_Mlt, q_Mle, q_leM, q_ltM, q_le, q_nle, q_lt, q_nlt, q_neq, zin_nI, nI_clamp, nI_add, pk_mul, pk_sub, mI_e, mI_n, mL_e, mL_n, mR_e, mR_n, i0, i1, ↓reduceIte, ↓bI_t, ↓bI_f, Bool.false_eq_true, eq_self, chk_true, bnd_just, bnd2_just, app_t, beq_self_eq_true, mK_wI, mK_wL, mK_wR, mK_wIr, mK_wLr, mN_wI, mN_wL, mN_wR, mN_wIr, mN_wLr, mR_wI, mR_wL, mR_wIr, mR_wLr, mI_wL, mI_wR, mI_wLr, mL_wI, mL_wR, mL_wIr, sk_68 hS, sk_99 hS, sn_99 hS, sr_68_38 hS, w2, e3]
    · show mL (wL M 102 0 (Int32.toInt64 (mI M 39 j))) 102 0 = _
      rw [mL_e rfl rfl]
end ZCALLS2
