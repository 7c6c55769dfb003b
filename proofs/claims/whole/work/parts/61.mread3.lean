/-! the model reads: times, suffixes, one thing -/
section ZMREAD3
/-- something is wrong, the depth still stands -/
def Flt (M : zM) (f p : Nat) : Prop := mBad M f p ∧ ∃ d, d ≤ 8 ∧ mI M 68 13 = nI d
theorem Flt.at {M : zM} {f p : Nat} (h : Flt M f p) (v : Int32) : Flt (wI M 68 28 v) f p := by
  obtain ⟨⟨h1, h2, h3, h4⟩, d, h5, h6⟩ := h
  exact ⟨⟨h1, h2, by simp (disch := omega) only [q_eM, q_Me, q_Mlt, q_Mle, q_leM, q_ltM, q_le, q_nle, q_lt, q_nlt, q_neq, zin_nI, nI_clamp, nI_add, pk_mul, pk_sub, mI_e, mI_n, mL_e, mL_n, mR_e, mR_n, i0, i1, ↓reduceIte, ↓bI_t, ↓bI_f, Bool.false_eq_true, eq_self, chk_true, bnd_just, bnd2_just, app_t, beq_self_eq_true, mK_wI, mK_wL, mK_wR, mK_wIr, mK_wLr, mN_wI, mN_wL, mN_wR, mN_wIr, mN_wLr, mR_wI, mR_wL, mR_wIr, mR_wLr, mI_wL, mI_wR, mI_wLr, mL_wI, mL_wR, mL_wIr, h3], by simp (disch := omega) only [q_eM, q_Me, q_Mlt, q_Mle, q_leM, q_ltM, q_le, q_nle, q_lt, q_nlt, q_neq, zin_nI, nI_clamp, nI_add, pk_mul, pk_sub, mI_e, mI_n, mL_e, mL_n, mR_e, mR_n, i0, i1, ↓reduceIte, ↓bI_t, ↓bI_f, Bool.false_eq_true, eq_self, chk_true, bnd_just, bnd2_just, app_t, beq_self_eq_true, mK_wI, mK_wL, mK_wR, mK_wIr, mK_wLr, mN_wI, mN_wL, mN_wR, mN_wIr, mN_wLr, mR_wI, mR_wL, mR_wIr, mR_wLr, mI_wL, mI_wR, mI_wLr, mL_wI, mL_wR, mL_wIr, h4]⟩, d, h5, by simp (disch := omega) only [q_eM, q_Me, q_Mlt, q_Mle, q_leM, q_ltM, q_le, q_nle, q_lt, q_nlt, q_neq, zin_nI, nI_clamp, nI_add, pk_mul, pk_sub, mI_e, mI_n, mL_e, mL_n, mR_e, mR_n, i0, i1, ↓reduceIte, ↓bI_t, ↓bI_f, Bool.false_eq_true, eq_self, chk_true, bnd_just, bnd2_just, app_t, beq_self_eq_true, mK_wI, mK_wL, mK_wR, mK_wIr, mK_wLr, mN_wI, mN_wL, mN_wR, mN_wIr, mN_wLr, mR_wI, mR_wL, mR_wIr, mR_wLr, mI_wL, mI_wR, mI_wLr, mL_wI, mL_wR, mL_wIr, h6]⟩
theorem Flt.mk' {M : zM} {cs : List Nat} {A : LA} {p : Nat} (h : ReaM M cs A p) {f q : Nat} (hf : f ≠ 0) (hf2 : f < 10) : Flt (wI (wI M 68 29 (nI f)) 68 5 (nI q)) f q :=
  ⟨⟨hf, hf2, by simp (disch := omega) only [q_eM, q_Me, q_Mlt, q_Mle, q_leM, q_ltM, q_le, q_nle, q_lt, q_nlt, q_neq, zin_nI, nI_clamp, nI_add, pk_mul, pk_sub, mI_e, mI_n, mL_e, mL_n, mR_e, mR_n, i0, i1, ↓reduceIte, ↓bI_t, ↓bI_f, Bool.false_eq_true, eq_self, chk_true, bnd_just, bnd2_just, app_t, beq_self_eq_true, mK_wI, mK_wL, mK_wR, mK_wIr, mK_wLr, mN_wI, mN_wL, mN_wR, mN_wIr, mN_wLr, mR_wI, mR_wL, mR_wIr, mR_wLr, mI_wL, mI_wR, mI_wLr, mL_wI, mL_wR, mL_wIr], by simp (disch := omega) only [q_eM, q_Me, q_Mlt, q_Mle, q_leM, q_ltM, q_le, q_nle, q_lt, q_nlt, q_neq, zin_nI, nI_clamp, nI_add, pk_mul, pk_sub, mI_e, mI_n, mL_e, mL_n, mR_e, mR_n, i0, i1, ↓reduceIte, ↓bI_t, ↓bI_f, Bool.false_eq_true, eq_self, chk_true, bnd_just, bnd2_just, app_t, beq_self_eq_true, mK_wI, mK_wL, mK_wR, mK_wIr, mK_wLr, mN_wI, mN_wL, mN_wR, mN_wIr, mN_wLr, mR_wI, mR_wL, mR_wIr, mR_wLr, mI_wL, mI_wR, mI_wLr, mL_wI, mL_wR, mL_wIr]⟩, aDp A, h.2.2.2.1.2.2.1.1, by simp (disch := omega) only [q_eM, q_Me, q_Mlt, q_Mle, q_leM, q_ltM, q_le, q_nle, q_lt, q_nlt, q_neq, zin_nI, nI_clamp, nI_add, pk_mul, pk_sub, mI_e, mI_n, mL_e, mL_n, mR_e, mR_n, i0, i1, ↓reduceIte, ↓bI_t, ↓bI_f, Bool.false_eq_true, eq_self, chk_true, bnd_just, bnd2_just, app_t, beq_self_eq_true, mK_wI, mK_wL, mK_wR, mK_wIr, mK_wLr, mN_wI, mN_wL, mN_wR, mN_wIr, mN_wLr, mR_wI, mR_wL, mR_wIr, mR_wLr, mI_wL, mI_wR, mI_wLr, mL_wI, mL_wR, mL_wIr]; exact h.2.2.2.1.2.1⟩
theorem tim_102 {M : zM} {f p : Nat} (h : Flt M f p) (hS : Sta M) (v1 v2 v3 : Int32) (N : Nat) : fX10_readTimes_102 N M 68 v1 v2 v3 = some ((), M) := by
  obtain ⟨⟨h1, h2, h3, h4⟩, d, h5, h6⟩ := h
  unfold fX10_readTimes_102 fX10_readTimes_147
  simp (disch := omega) only [q_eM, q_Me, q_Mlt, q_Mle, q_leM, q_ltM, q_le, q_nle, q_lt, q_nlt, q_neq, zin_nI, nI_clamp, nI_add, pk_mul, pk_sub, mI_e, mI_n, mL_e, mL_n, mR_e, mR_n, i0, i1, ↓reduceIte, ↓bI_t, ↓bI_f, Bool.false_eq_true, eq_self, chk_true, bnd_just, bnd2_just, app_t, beq_self_eq_true, mK_wI, mK_wL, mK_wR, mK_wIr, mK_wLr, mN_wI, mN_wL, mN_wR, mN_wIr, mN_wLr, mR_wI, mR_wL, mR_wIr, mR_wLr, mI_wL, mI_wR, mI_wLr, mL_wI, mL_wR, mL_wIr, sk_68 hS, sk_82 hS, sn_82 hS, sr_68_19 hS, h3, h6]
theorem tim_65 {M : zM} {f p : Nat} (h : Flt M f p) (hS : Sta M) (v1 v2 v3 : Int32) (N : Nat) : fX10_readTimes_65 N M 68 v1 v2 v3 = some ((), wI M 68 28 (mI M 68 28 + 1)) := by
  have h' := h.at (mI M 68 28 + 1)
  unfold fX10_readTimes_65
  simp only [chk_true, bnd_just, bnd2_just, app_t, beq_self_eq_true, mK_wI, mK_wL, mK_wR, mK_wIr, mK_wLr, mN_wI, mN_wL, mN_wR, mN_wIr, mN_wLr, mR_wI, mR_wL, mR_wIr, mR_wLr, mI_wL, mI_wR, mI_wLr, mL_wI, mL_wR, mL_wIr, sk_68 hS]
  rw [if_neg (by rw [h'.1.2.2.1, i0, neq (by have := h.1.2.1; omega) (by omega)]; exact h.1.1)]
  exact tim_102 (M := wI M 68 28 (mI M 68 28 + 1)) h' hS _ _ _ _
theorem tim_45 {M : zM} {f p : Nat} (h : Flt M f p) (hS : Sta M) (v1 v2 v3 : Int32) (N : Nat) : fX10_readTimes_45 N M 68 v1 v2 v3 = some ((), wI M 68 28 (mI M 68 28 + 1)) := by
  unfold fX10_readTimes_45
  simp only [chk_true, bnd_just, bnd2_just, app_t, beq_self_eq_true, mK_wI, mK_wL, mK_wR, mK_wIr, mK_wLr, mN_wI, mN_wL, mN_wR, mN_wIr, mN_wLr, mR_wI, mR_wL, mR_wIr, mR_wLr, mI_wL, mI_wR, mI_wLr, mL_wI, mL_wR, mL_wIr, sk_68 hS]
  rw [if_neg (by rw [h.1.2.2.1, i0, neq (by have := h.1.2.1; omega) (by omega)]; exact h.1.1)]
  exact tim_65 h hS _ _ _ _
theorem hI_dig {cs : List Nat} {p : Nat} (hc : ∀ q, cs.getD q 0 < 256) (h : ¬ (p < cs.length ∧ 48 ≤ cs.getD p 0 ∧ cs.getD p 0 ≤ 57)) : hI cs p < nI 48 ∨ (¬ hI cs p < nI 48 ∧ ¬ hI cs p ≤ nI 57) := by
  unfold hI
  have := hc p
  by_cases hl : p < cs.length
  · rw [if_pos hl, nlt (by omega) (by omega), nle (by omega) (by omega)]; omega
  · rw [if_neg hl, q_Mlt (by omega)]; exact Or.inl trivial
theorem m_digit {M : zM} (hS : Sta M) {cs : List Nat} {A : LA} {p : Nat} (h : ReaM M cs A p) (hp : p ≤ 210) (N : Nat) :
    ((p < cs.length ∧ 48 ≤ cs.getD p 0 ∧ cs.getD p 0 ≤ 57) → fX10_digit N M 68 = some (nI (cs.getD p 0 - 48), wI M 68 28 (nI (p + 1)))) ∧
    (¬ (p < cs.length ∧ 48 ≤ cs.getD p 0 ∧ cs.getD p 0 ≤ 57) → ∃ v, fX10_digit N M 68 = some (v, wI (wI (wI M 68 29 (nI (if p < cs.length then 1 else 2))) 68 5 (nI p)) 68 28 (nI (p + 1)))) := by
  have e_here := m_here hS h (by omega) N
  have hat := h.1
  constructor
  · rintro ⟨hl, h1, h2⟩
    rw [hI_at hl] at e_here
    unfold fX10_digit fX10_digit_21
    simp (disch := omega) only [q_eM, q_Me, q_Mlt, q_Mle, q_leM, q_ltM, q_le, q_nle, q_lt, q_nlt, q_neq, zin_nI, nI_clamp, nI_add, pk_mul, pk_sub, mI_e, mI_n, mL_e, mL_n, mR_e, mR_n, i0, i1, ↓reduceIte, ↓bI_t, ↓bI_f, Bool.false_eq_true, eq_self, chk_true, bnd_just, bnd2_just, app_t, beq_self_eq_true, mK_wI, mK_wL, mK_wR, mK_wIr, mK_wLr, mN_wI, mN_wL, mN_wR, mN_wIr, mN_wLr, mR_wI, mR_wL, mR_wIr, mR_wLr, mI_wL, mI_wR, mI_wLr, mL_wI, mL_wR, mL_wIr, ↓neg1, il_2, il_3, il_4, il_5, il_6, il_7, il_8, il_9, il_26, il_35, il_36, il_40, il_41, il_42, il_43, il_44, il_45, il_46, il_48, il_57, il_60, il_63, il_91, il_93, il_94, il_97, il_120, il_122, il_123, il_124, il_125, il_200, il_255, il_300, il_600, il_1023, il_1024, il_10800, sk_68 hS, hat, e_here]
  · intro hn
    have e_f := m_failHere hS h (by omega) N
    refine ⟨hI cs p - 48, ?_⟩
    unfold fX10_digit fX10_digit_17 fX10_digit_21
    simp (disch := omega) only [q_eM, q_Me, q_Mlt, q_Mle, q_leM, q_ltM, q_le, q_nle, q_lt, q_nlt, q_neq, zin_nI, nI_clamp, nI_add, pk_mul, pk_sub, mI_e, mI_n, mL_e, mL_n, mR_e, mR_n, i0, i1, ↓reduceIte, ↓bI_t, ↓bI_f, Bool.false_eq_true, eq_self, chk_true, bnd_just, bnd2_just, app_t, beq_self_eq_true, mK_wI, mK_wL, mK_wR, mK_wIr, mK_wLr, mN_wI, mN_wL, mN_wR, mN_wIr, mN_wLr, mR_wI, mR_wL, mR_wIr, mR_wLr, mI_wL, mI_wR, mI_wLr, mL_wI, mL_wR, mL_wIr, il_57, sk_68 hS, hat, e_here, e_f]
    rcases hI_dig (typ_lt h.2.2.2.2) hn with q | ⟨q1, q2⟩
    · rw [il_48, if_pos q]
    · rw [il_48, if_neg q1, if_neg q2]
theorem m_tim45 {cs : List Nat} {A : LA} (hW : zWf A) (hhp : aHp A = true) {o m mi ma p p0 : Nat} (hm : m = 7 ∨ m = 9) (hmi : mi ≤ 9) (hma : ma ≤ 9) {M : zM} (hS : Sta M) (hR : ReaM M cs A p) (hp : p ≤ 210) (h44 : m = 7 → p < cs.length → cs.getD p 0 ≠ 44) (hp0 : p0 ≤ p) (N : Nat) (hN : 600 ≤ N) :
    ∃ M', fX10_readTimes_45 N M 68 (nI o) (nI mi) (nI ma) = some ((), M') ∧ MR M M' ∧ zOut M' cs p0 (pRun (cs.drop p) p (A, m, (o, 0, false, 0, 0, mi, ma), 0, 0)) := by
  have hT := hR.2.2.2.2
  have hl200 := hT.2.1
  have hc : ∀ q, cs.getD q 0 < 256 := typ_lt hT
  have hat := hR.1
  have hf0 := hR.2.1
  have e_here := m_here hS hR (by omega) N
  have hpb : aPb A ≤ A.1 := by
    obtain ⟨k, se, fo, d, ro, ch, cb, hp, pt, pb⟩ := A
    exact (hW.2.2.2.2.2 hhp).2.1
  have hk60 : A.1 ≤ 60 := hR.2.2.2.1.1.2.1
  by_cases h125 : p < cs.length ∧ cs.getD p 0 = 125
  · obtain ⟨hl, h125⟩ := h125
    rw [hI_at hl, h125] at e_here
    have hst : pRun (cs.drop p) p (A, m, (o, 0, false, 0, 0, mi, ma), 0, 0) = pRun (cs.drop (p + 1)) (p + 1) (pTimes A o mi ma) := by
      rw [pRun_1 rfl hl, h125]
      congr 1
      rcases hm with rfl | rfl <;> simp [pStep, pTim]
    rw [hst]
    have hR1 := hR.at (p + 1)
    have hS1 : Sta (wI M 68 28 (nI (p + 1))) := hS
    have e45 : fX10_readTimes_45 N M 68 (nI o) (nI mi) (nI ma) = fX10_readTimes_65 N M 68 (nI o) (nI mi) (nI ma) := by
      unfold fX10_readTimes_45
      simp (disch := omega) only [q_eM, q_Me, q_Mlt, q_Mle, q_leM, q_ltM, q_le, q_nle, q_lt, q_nlt, q_neq, zin_nI, nI_clamp, nI_add, pk_mul, pk_sub, mI_e, mI_n, mL_e, mL_n, mR_e, mR_n, i0, i1, ↓reduceIte, ↓bI_t, ↓bI_f, Bool.false_eq_true, eq_self, chk_true, bnd_just, bnd2_just, app_t, beq_self_eq_true, mK_wI, mK_wL, mK_wR, mK_wIr, mK_wLr, mN_wI, mN_wL, mN_wR, mN_wIr, mN_wLr, mR_wI, mR_wL, mR_wIr, mR_wLr, mI_wL, mI_wR, mI_wLr, mL_wI, mL_wR, mL_wIr, il_125, sk_68 hS, hf0, e_here]
    rw [e45]
    unfold pTimes
    by_cases hbad : ma < mi ∨ 5 < ma ∨ ma = 0
    · rw [if_pos hbad]
      have hFl := Flt.mk' hR1 (f := 3) (q := o) (by omega) (by omega)
      refine ⟨_, ?_, ((MR.rf.wI (k := 28) (by omega) (nI (p + 1))).wI (k := 29) (by omega) (nI 3)).wI (k := 5) (by omega) (nI o), Or.inr ⟨3, o, hFl.1, by rw [pRun_f (by simp [zbad])]; rfl⟩⟩
      have e96 : fX10_readTimes_96 N (wI M 68 28 (nI (p + 1))) 68 (nI o) (nI mi) (nI ma) = some ((), wI (wI (wI M 68 28 (nI (p + 1))) 68 29 (nI 3)) 68 5 (nI o)) := by
        unfold fX10_readTimes_96
        simp only [chk_true, bnd_just, bnd2_just, app_t, beq_self_eq_true, mK_wI, mK_wL, mK_wR, mK_wIr, mK_wLr, mN_wI, mN_wL, mN_wR, mN_wIr, mN_wLr, mR_wI, mR_wL, mR_wIr, mR_wLr, mI_wL, mI_wR, mI_wLr, mL_wI, mL_wR, mL_wIr, sk_68 hS, il_3, m_fail hS1 hR1.2.1]
        exact tim_102 hFl hS _ _ _ _
      unfold fX10_readTimes_65
      by_cases b1 : ma < mi
      · simp (disch := omega) only [q_eM, q_Me, q_Mlt, q_Mle, q_leM, q_ltM, q_le, q_nle, q_lt, q_nlt, q_neq, zin_nI, nI_clamp, nI_add, pk_mul, pk_sub, mI_e, mI_n, mL_e, mL_n, mR_e, mR_n, i0, i1, ↓reduceIte, ↓bI_t, ↓bI_f, Bool.false_eq_true, eq_self, chk_true, bnd_just, bnd2_just, app_t, beq_self_eq_true, mK_wI, mK_wL, mK_wR, mK_wIr, mK_wLr, mN_wI, mN_wL, mN_wR, mN_wIr, mN_wLr, mR_wI, mR_wL, mR_wIr, mR_wLr, mI_wL, mI_wR, mI_wLr, mL_wI, mL_wR, mL_wIr, ↓neg1, il_2, il_3, il_4, il_5, il_6, il_7, il_8, il_9, il_26, il_35, il_36, il_40, il_41, il_42, il_43, il_44, il_45, il_46, il_48, il_57, il_60, il_63, il_91, il_93, il_94, il_97, il_120, il_122, il_123, il_124, il_125, il_200, il_255, il_300, il_600, il_1023, il_1024, il_10800, sk_68 hS, hat, hf0, e96]
      by_cases b2 : 5 < ma
      · simp (disch := omega) only [q_eM, q_Me, q_Mlt, q_Mle, q_leM, q_ltM, q_le, q_nle, q_lt, q_nlt, q_neq, zin_nI, nI_clamp, nI_add, pk_mul, pk_sub, mI_e, mI_n, mL_e, mL_n, mR_e, mR_n, i0, i1, ↓reduceIte, ↓bI_t, ↓bI_f, Bool.false_eq_true, eq_self, chk_true, bnd_just, bnd2_just, app_t, beq_self_eq_true, mK_wI, mK_wL, mK_wR, mK_wIr, mK_wLr, mN_wI, mN_wL, mN_wR, mN_wIr, mN_wLr, mR_wI, mR_wL, mR_wIr, mR_wLr, mI_wL, mI_wR, mI_wLr, mL_wI, mL_wR, mL_wIr, ↓neg1, il_2, il_3, il_4, il_5, il_6, il_7, il_8, il_9, il_26, il_35, il_36, il_40, il_41, il_42, il_43, il_44, il_45, il_46, il_48, il_57, il_60, il_63, il_91, il_93, il_94, il_97, il_120, il_122, il_123, il_124, il_125, il_200, il_255, il_300, il_600, il_1023, il_1024, il_10800, sk_68 hS, hat, hf0, e96]
      · have b3 : ma = 0 := by omega
        subst b3
        simp (disch := omega) only [q_eM, q_Me, q_Mlt, q_Mle, q_leM, q_ltM, q_le, q_nle, q_lt, q_nlt, q_neq, zin_nI, nI_clamp, nI_add, pk_mul, pk_sub, mI_e, mI_n, mL_e, mL_n, mR_e, mR_n, i0, i1, ↓reduceIte, ↓bI_t, ↓bI_f, Bool.false_eq_true, eq_self, chk_true, bnd_just, bnd2_just, app_t, beq_self_eq_true, mK_wI, mK_wL, mK_wR, mK_wIr, mK_wLr, mN_wI, mN_wL, mN_wR, mN_wIr, mN_wLr, mR_wI, mR_wL, mR_wIr, mR_wLr, mI_wL, mI_wR, mI_wLr, mL_wI, mL_wR, mL_wIr, ↓neg1, il_2, il_3, il_4, il_5, il_6, il_7, il_8, il_9, il_26, il_35, il_36, il_40, il_41, il_42, il_43, il_44, il_45, il_46, il_48, il_57, il_60, il_63, il_91, il_93, il_94, il_97, il_120, il_122, il_123, il_124, il_125, il_200, il_255, il_300, il_600, il_1023, il_1024, il_10800, sk_68 hS, hat, hf0, e96]
    · rw [if_neg hbad]
      have hLM := hR1.2.2.2.1
      have g13 : mI (wI M 68 28 (nI (p + 1))) 68 13 = nI (aDp A) := hLM.2.1
      have g14 : mI (wI M 68 28 (nI (p + 1))) 68 14 = nI A.1 := hLM.1.1
      have g82 : mI (wI M 68 28 (nI (p + 1))) 82 (aDp A) = nI (aPb A) := by
        obtain ⟨k, se, fo, d, ro, ch, cb, hp, pt, pb⟩ := A
        exact (hLM.2.2.2.2 hhp).2
      have gd8 : aDp A ≤ 8 := hLM.2.2.1.1
      have g29 := hR1.2.1
      obtain ⟨w, hw⟩ : ∃ w, w = A.1 - aPb A := ⟨_, rfl⟩
      have emul : ma * w = (ma - 1) * w + w := by
        obtain ⟨b, rfl⟩ := suc ma (by omega)
        rw [Nat.succ_mul]; rfl
      have eml5 : (ma - 1) * w ≤ 5 * w := Nat.mul_le_mul_right w (by omega)
      rw [← hw]
      have e65 : fX10_readTimes_65 N M 68 (nI o) (nI mi) (nI ma) = fX10_readTimes_102 N (wI M 68 28 (nI (p + 1))) 68 (nI o) (nI mi) (nI ma) := by
        unfold fX10_readTimes_65
        simp (disch := omega) only [q_eM, q_Me, q_Mlt, q_Mle, q_leM, q_ltM, q_le, q_nle, q_lt, q_nlt, q_neq, zin_nI, nI_clamp, nI_add, pk_mul, pk_sub, mI_e, mI_n, mL_e, mL_n, mR_e, mR_n, i0, i1, ↓reduceIte, ↓bI_t, ↓bI_f, Bool.false_eq_true, eq_self, chk_true, bnd_just, bnd2_just, app_t, beq_self_eq_true, mK_wI, mK_wL, mK_wR, mK_wIr, mK_wLr, mN_wI, mN_wL, mN_wR, mN_wIr, mN_wLr, mR_wI, mR_wL, mR_wIr, mR_wLr, mI_wL, mI_wR, mI_wLr, mL_wI, mL_wR, mL_wIr, ↓neg1, il_2, il_3, il_4, il_5, il_6, il_7, il_8, il_9, il_26, il_35, il_36, il_40, il_41, il_42, il_43, il_44, il_45, il_46, il_48, il_57, il_60, il_63, il_91, il_93, il_94, il_97, il_120, il_122, il_123, il_124, il_125, il_200, il_255, il_300, il_600, il_1023, il_1024, il_10800, sk_68 hS, hat, hf0]
      rw [e65]
      unfold fX10_readTimes_102
      by_cases hfit : aPb A + ma * w ≤ 60
      · rw [if_pos hfit]
        obtain ⟨M', r1, r2, r3⟩ := m_times hS1 hLM hW hhp (m := mi) (n := ma) (by omega) (by omega) (by omega) (by rw [← hw]; exact hfit) N hN
        refine ⟨M', ?_, (MR.rf.wI (k := 28) (by omega) (nI (p + 1))).tr (MR.ml r2), Or.inl ⟨_, p + 1, by omega, by omega, hR1.ml r2 r3, Wf_Times hW hhp (by omega) (by omega) (by rw [← hw]; exact hfit), rfl⟩⟩
        unfold fX10_readTimes_147
        simp (disch := omega) only [chk_true, bnd_just, bnd2_just, app_t, beq_self_eq_true, mK_wI, mK_wL, mK_wR, mK_wIr, mK_wLr, mN_wI, mN_wL, mN_wR, mN_wIr, mN_wLr, mR_wI, mR_wL, mR_wIr, mR_wLr, mI_wL, mI_wR, mI_wLr, mL_wI, mL_wR, mL_wIr, q_le, zin_nI, nI_clamp, nI_add, pk_mul, pk_sub, i0, i1, i60, ↓reduceIte, eq_self, sk_68 hS1, sk_82 hS1, sk_68 hS, sk_82 hS, sn_82 hS, sr_68_19 hS, g13, g14, g82, g29, ← hw]
        rw [← hw] at r1
        rw [r1]; rfl
      · rw [if_neg hfit]
        have hFl := Flt.mk' hR1 (f := 4) (q := o) (by omega) (by omega)
        refine ⟨_, ?_, ((MR.rf.wI (k := 28) (by omega) (nI (p + 1))).wI (k := 29) (by omega) (nI 4)).wI (k := 5) (by omega) (nI o), Or.inr ⟨4, o, hFl.1, by rw [pRun_f (by simp [zbad])]; rfl⟩⟩
        unfold fX10_readTimes_147
        simp (disch := omega) only [chk_true, bnd_just, bnd2_just, app_t, beq_self_eq_true, mK_wI, mK_wL, mK_wR, mK_wIr, mK_wLr, mN_wI, mN_wL, mN_wR, mN_wIr, mN_wLr, mR_wI, mR_wL, mR_wIr, mR_wLr, mI_wL, mI_wR, mI_wLr, mL_wI, mL_wR, mL_wIr, q_le, q_nle, zin_nI, nI_clamp, nI_add, pk_mul, pk_sub, i0, i1, i60, il_4, ↓reduceIte, eq_self, sk_68 hS1, sk_82 hS1, sk_68 hS, sk_82 hS, sn_82 hS, sr_68_19 hS, g13, g14, g82, g29, ← hw, m_fail hS1 hR1.2.1]
        rw [if_neg (by rw [hFl.1.2.2.1, neq (by omega) (by omega)]; omega)]
  · have h125' := hI_neq (k := 125) (by omega) hc h125
    have e_f := m_failHere hS hR (by omega) N
    have hq : (if p < cs.length then 1 else 2) ≠ 0 ∧ (if p < cs.length then 1 else 2) < 10 := by split <;> omega
    have hFl := Flt.mk' hR (f := if p < cs.length then 1 else 2) (q := p) hq.1 hq.2
    refine ⟨_, ?_, ((MR.rf.wI (k := 29) (by omega) (nI (if p < cs.length then 1 else 2))).wI (k := 5) (by omega) (nI p)).wI (k := 28) (by omega) (mI (wI (wI M 68 29 (nI (if p < cs.length then 1 else 2))) 68 5 (nI p)) 68 28 + 1), Or.inr ⟨_, p, (hFl.at _).1, pRun_stop rfl (by simp; omega) (fun q => ?_)⟩⟩
    · unfold fX10_readTimes_45
      simp (disch := omega) only [q_eM, q_Me, q_Mlt, q_Mle, q_leM, q_ltM, q_le, q_nle, q_lt, q_nlt, q_neq, zin_nI, nI_clamp, nI_add, pk_mul, pk_sub, mI_e, mI_n, mL_e, mL_n, mR_e, mR_n, i0, i1, ↓reduceIte, ↓bI_t, ↓bI_f, Bool.false_eq_true, eq_self, chk_true, bnd_just, bnd2_just, app_t, beq_self_eq_true, mK_wI, mK_wL, mK_wR, mK_wIr, mK_wLr, mN_wI, mN_wL, mN_wR, mN_wIr, mN_wLr, mR_wI, mR_wL, mR_wIr, mR_wLr, mI_wL, mI_wR, mI_wLr, mL_wI, mL_wR, mL_wIr, il_125, sk_68 hS, hf0, e_here]
      rw [if_neg h125', e_f]
      simp only [chk_true, bnd_just, bnd2_just, app_t, beq_self_eq_true, mK_wI, mK_wL, mK_wR, mK_wIr, mK_wLr, mN_wI, mN_wL, mN_wR, mN_wIr, mN_wLr, mR_wI, mR_wL, mR_wIr, mR_wLr, mI_wL, mI_wR, mI_wLr, mL_wI, mL_wR, mL_wIr, ← i1]
      exact tim_65 (M := wI (wI M 68 29 (nI (if p < cs.length then 1 else 2))) 68 5 (nI p)) hFl hS _ _ _ _
    · have c125 : cs.getD p 0 ≠ 125 := fun q2 => h125 ⟨q, q2⟩
      have c44 := fun q7 => h44 q7 q
      generalize cs.getD p 0 = c at c125 c44 ⊢
      rcases hm with rfl | rfl
      · simp [pStep, pTim, c125, c44]
      · simp [pStep, pTim, c125]
theorem m_readTimes {cs : List Nat} {A : LA} (hW : zWf A) (hhp : aHp A = true) {o : Nat} {M : zM} (hS : Sta M) (hR : ReaM M cs A (o + 1)) (ho : o < cs.length) (N : Nat) (hN : 600 ≤ N) :
    ∃ M', fX10_readTimes N M 68 = some ((), M') ∧ MR M M' ∧ zOut M' cs o (pRun (cs.drop (o + 1)) (o + 1) (A, 6, (o, 0, false, 0, 0, 0, 0), 0, 0)) := by
  have hT := hR.2.2.2.2
  have hl200 := hT.2.1
  have hc : ∀ q, cs.getD q 0 < 256 := typ_lt hT
  have hat := hR.1
  have hd := m_digit hS hR (by omega) N
  have eo : nI (o + 1) - nI 1 = nI o := by rw [pk_sub (by omega)]; rfl
  unfold fX10_readTimes
  by_cases h1 : o + 1 < cs.length ∧ 48 ≤ cs.getD (o + 1) 0 ∧ cs.getD (o + 1) 0 ≤ 57
  · have e1 := hd.1 h1
    obtain ⟨hl1, h1a, h1b⟩ := h1
    have hR1 : ReaM (wI M 68 28 (nI (o + 2))) cs A (o + 2) := hR.at (o + 2)
    have hS1 : Sta (wI M 68 28 (nI (o + 2))) := hS
    have e_here := m_here hS1 hR1 (by omega) N
    have st1 : pRun (cs.drop (o + 1)) (o + 1) (A, 6, (o, 0, false, 0, 0, 0, 0), 0, 0) = pRun (cs.drop (o + 2)) (o + 2) (A, 7, (o, 0, false, 0, 0, cs.getD (o + 1) 0 - 48, cs.getD (o + 1) 0 - 48), 0, 0) := by
      rw [pRun_1 rfl hl1]
      congr 1
      generalize cs.getD (o + 1) 0 = c at h1a h1b ⊢
      simp [pStep, pTim, h1a, h1b]
    rw [st1]
    simp only [chk_true, bnd_just, bnd2_just, app_t, beq_self_eq_true, mK_wI, mK_wL, mK_wR, mK_wIr, mK_wLr, mN_wI, mN_wL, mN_wR, mN_wIr, mN_wLr, mR_wI, mR_wL, mR_wIr, mR_wLr, mI_wL, mI_wR, mI_wLr, mL_wI, mL_wR, mL_wIr, sk_68 hS, hat, i1, eo, e1, i0, hR1.2.1, ↓reduceIte, show o + 1 + 1 = o + 2 from rfl, e_here, il_44]
    by_cases h44 : o + 2 < cs.length ∧ cs.getD (o + 2) 0 = 44
    · obtain ⟨hl2, h44⟩ := h44
      rw [hI_at hl2, h44, if_pos rfl]
      have hR2 : ReaM (wI (wI M 68 28 (nI (o + 2))) 68 28 (nI (o + 3))) cs A (o + 3) := hR1.at (o + 3)
      have hS2 : Sta (wI (wI M 68 28 (nI (o + 2))) 68 28 (nI (o + 3))) := hS
      have st2 : pRun (cs.drop (o + 2)) (o + 2) (A, 7, (o, 0, false, 0, 0, cs.getD (o + 1) 0 - 48, cs.getD (o + 1) 0 - 48), 0, 0) = pRun (cs.drop (o + 3)) (o + 3) (A, 8, (o, 0, false, 0, 0, cs.getD (o + 1) 0 - 48, cs.getD (o + 1) 0 - 48), 0, 0) := by
        rw [pRun_1 rfl hl2, h44]
        congr 1
      rw [st2]
      have hd2 := m_digit hS2 hR2 (by omega) N
      simp only [hR1.1, nI_add]
      by_cases h3 : o + 3 < cs.length ∧ 48 ≤ cs.getD (o + 3) 0 ∧ cs.getD (o + 3) 0 ≤ 57
      · rw [hd2.1 h3]
        obtain ⟨hl3, h3a, h3b⟩ := h3
        have hR3 : ReaM (wI (wI (wI M 68 28 (nI (o + 2))) 68 28 (nI (o + 3))) 68 28 (nI (o + 4))) cs A (o + 4) := hR2.at (o + 4)
        have st3 : pRun (cs.drop (o + 3)) (o + 3) (A, 8, (o, 0, false, 0, 0, cs.getD (o + 1) 0 - 48, cs.getD (o + 1) 0 - 48), 0, 0) = pRun (cs.drop (o + 4)) (o + 4) (A, 9, (o, 0, false, 0, 0, cs.getD (o + 1) 0 - 48, cs.getD (o + 3) 0 - 48), 0, 0) := by
          rw [pRun_1 rfl hl3]
          congr 1
          generalize cs.getD (o + 3) 0 = c at h3a h3b ⊢
          have c44 : c ≠ 44 := by omega
          simp [pStep, pTim, h3a, h3b, c44]
        rw [st3]
        obtain ⟨M', r1, r2, r3⟩ := m_tim45 hW hhp (o := o) (m := 9) (mi := cs.getD (o + 1) 0 - 48) (ma := cs.getD (o + 3) 0 - 48) (p := o + 4) (p0 := o) (Or.inr rfl) (by omega) (by omega) (M := wI (wI (wI M 68 28 (nI (o + 2))) 68 28 (nI (o + 3))) 68 28 (nI (o + 4))) hS hR3 (by omega) (fun q => by omega) (by omega) N hN
        exact ⟨M', r1, (((MR.rf.wI (by omega) _).wI (by omega) _).wI (by omega) _).tr r2, r3⟩
      · obtain ⟨v, ev⟩ := hd2.2 h3
        rw [ev]
        simp only [chk_true, bnd_just, bnd2_just, app_t, beq_self_eq_true, mK_wI, mK_wL, mK_wR, mK_wIr, mK_wLr, mN_wI, mN_wL, mN_wR, mN_wIr, mN_wLr, mR_wI, mR_wL, mR_wIr, mR_wLr, mI_wL, mI_wR, mI_wLr, mL_wI, mL_wR, mL_wIr]
        have hq : (if o + 3 < cs.length then 1 else 2) ≠ 0 ∧ (if o + 3 < cs.length then 1 else 2) < 10 := by split <;> omega
        have hFl := (Flt.mk' hR2 (f := if o + 3 < cs.length then 1 else 2) (q := o + 3) hq.1 hq.2).at (nI (o + 3 + 1))
        refine ⟨_, tim_45 hFl hS _ _ _ _, (((((MR.rf.wI (k := 28) (by omega) _).wI (k := 28) (by omega) _).wI (k := 29) (by omega) _).wI (k := 5) (by omega) _).wI (k := 28) (by omega) _).wI (k := 28) (by omega) _, Or.inr ⟨_, o + 3, (hFl.at _).1, pRun_stop rfl (by simp) (fun q => ?_)⟩⟩
        have c3 : ¬ (48 ≤ cs.getD (o + 3) 0 ∧ cs.getD (o + 3) 0 ≤ 57) := fun q2 => h3 ⟨q, q2⟩
        generalize cs.getD (o + 3) 0 = c at c3 ⊢
        simp only [pStep, pTim]
        rw [if_neg (by decide), if_neg (by decide), if_neg (by omega), if_neg (by omega), if_neg (by omega), if_neg (by omega)]
    · have h44' := hI_neq (k := 44) (by omega) hc h44
      rw [if_neg h44']
      obtain ⟨M', r1, r2, r3⟩ := m_tim45 hW hhp (o := o) (m := 7) (mi := cs.getD (o + 1) 0 - 48) (ma := cs.getD (o + 1) 0 - 48) (p := o + 2) (p0 := o) (Or.inl rfl) (by omega) (by omega) (M := wI M 68 28 (nI (o + 2))) hS hR1 (by omega) (fun _ q1 q2 => h44 ⟨q1, q2⟩) (by omega) N hN
      exact ⟨M', r1, (MR.rf.wI (by omega) _).tr r2, r3⟩
  · obtain ⟨v, ev⟩ := hd.2 h1
    have hq : (if o + 1 < cs.length then 1 else 2) ≠ 0 ∧ (if o + 1 < cs.length then 1 else 2) < 10 := by split <;> omega
    have hFl := (Flt.mk' hR (f := if o + 1 < cs.length then 1 else 2) (q := o + 1) hq.1 hq.2).at (nI (o + 1 + 1))
    simp only [chk_true, bnd_just, bnd2_just, app_t, beq_self_eq_true, mK_wI, mK_wL, mK_wR, mK_wIr, mK_wLr, mN_wI, mN_wL, mN_wR, mN_wIr, mN_wLr, mR_wI, mR_wL, mR_wIr, mR_wLr, mI_wL, mI_wR, mI_wLr, mL_wI, mL_wR, mL_wIr, sk_68 hS, hat, i1, eo, ev]
    rw [if_neg (by rw [hFl.1.2.2.1, i0, neq (by omega) (by omega)]; exact hq.1)]
    refine ⟨_, tim_45 hFl hS _ _ _ _, (((MR.rf.wI (k := 29) (by omega) _).wI (k := 5) (by omega) _).wI (k := 28) (by omega) _).wI (k := 28) (by omega) _, Or.inr ⟨_, o + 1, (hFl.at _).1, pRun_stop rfl (by simp) (fun q => ?_)⟩⟩
    have c3 : ¬ (48 ≤ cs.getD (o + 1) 0 ∧ cs.getD (o + 1) 0 ≤ 57) := fun q2 => h1 ⟨q, q2⟩
    generalize cs.getD (o + 1) 0 = c at c3 ⊢
    simp only [pStep, pTim]
    rw [if_neg (by decide), if_neg (by decide), if_neg (by omega), if_neg (by omega), if_neg (by omega), if_neg (by omega)]
end ZMREAD3
