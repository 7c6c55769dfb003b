/-! what the calls answer: states, next, good, classes -/
section ZCALLS4
theorem Hld.aut {P : Nat} (hP : isP P) {p : zPt} {M M' : zM} (hB : zBF P M M') (hA : AutR M' P p) {c x : Nat} {o : Option zPt} (h : Hld M c x o) (hl : ∀ p', o = some p' → mR M 1 c = some P → p' = p) : Hld M' c x o := by
  obtain ⟨hP1, hP2⟩ := isP_le hP
  cases o with
  | none => exact ⟨(hB.2.1 _ _).trans h.1, (hB.2.2 _ (by omega) _).1.trans h.2⟩
  | some p' =>
    obtain ⟨h1, h2, h3, Q, h4, h5, h6, h7⟩ := h
    obtain ⟨hQ1, hQ2⟩ := isP_le h4
    refine ⟨(hB.2.2 _ (by omega) _).1.trans h1, h2.cg (fun a _ _ => (hB.2.2 _ (by omega) _).1) (fun a _ _ => (hB.2.2 _ (by omega) _).2) (fun a i _ _ _ => (hB.2.2 _ (by omega) _).2), h3, Q, h4, (hB.2.1 _ _).trans h5, ?_, ?_⟩
    · by_cases hPQ : P = Q
      · subst hPQ; exact hB.pat hP h6
      · have := isP_dis hP h4 hPQ
        exact h6.cg (fun a j q1 q2 => hB.2.2 a (by omega) j)
    · by_cases hPQ : P = Q
      · subst hPQ
        have := hl p' rfl h5
        subst this
        exact hA
      · have := isP_dis hP h4 hPQ
        exact h7.cg (fun a j q1 q2 => (hB.2.2 a (by omega) j).1)
/-- a build, or a change of groups, leaves all else -/
theorem zInv.bf {xs : Nat → Int32} {L : Nat} {M M' : zM} {cs ts : List Nat} {cu ke : Option zPt} (h : zInv xs L M cs ts cu ke) {P : Nat} (hP : isP P) {p : zPt} (hB : zBF P M M') (hA : AutR M' P p) (hR : ∃ ks, RegS M' ks) (h6 : ∀ p', cu = some p' → mR M 1 6 = some P → p' = p) (h7 : ∀ p', ke = some p' → mR M 1 7 = some P → p' = p) : zInv xs L M' cs ts cu ke := by
  obtain ⟨hP1, hP2⟩ := isP_le hP
  obtain ⟨k1, ⟨k2, k2'⟩, ⟨k3, k3'⟩, ⟨k4, k4'⟩, k5, k6, ⟨k7, k7'⟩, k8, ⟨ks, k9⟩, k10⟩ := h
  have vi : ∀ a j, ¬ ((31 ≤ a ∧ a ≤ 34) ∨ (P + 4 ≤ a ∧ a ≤ P + 6)) → mI M' a j = mI M a j := fun a j q => (hB.2.2 a q j).1
  refine ⟨hB.sta k1, ⟨by unfold mN at k2 ⊢; rw [hB.1]; exact k2, fun j => (vi _ _ (by omega)).trans (k2' j)⟩, ⟨k3.cg (vi _ _ (by omega)) (fun j => vi _ _ (by omega)), k3'.cg (vi _ _ (by omega)) (fun j => vi _ _ (by omega))⟩, ⟨k4.cg (vi _ _ (by omega)) (fun j => vi _ _ (by omega)), k4'.cg (vi _ _ (by omega)) (fun j => vi _ _ (by omega))⟩, by rw [vi _ _ (by omega), vi _ _ (by omega)]; exact k5, k6.aut hP hB hA h6, ⟨k7.aut hP hB hA h7, fun q => k7' (by rw [hB.2.1, hB.2.1] at q; exact q)⟩, k8.cg (fun j => vi _ _ (by omega)) (fun a j _ _ => vi _ _ (by omega)), hR, k10.cg (vi _ _ (by omega)) (vi _ _ (by omega)) (fun j => vi _ _ (by omega)) (fun j => vi _ _ (by omega))⟩
theorem aut_of {xs : Nat → Int32} {L : Nat} {M : zM} {cs ts : List Nat} {cu ke : Option zPt} (h : zInv xs L M cs ts cu ke) {P : Nat} (hP : isP P) {p : zPt} (hp : PatC M P p) (hA : AutR M P p) (h6 : ∀ p', cu = some p' → mR M 1 6 = some P → p' = p) (h7 : ∀ p', ke = some p' → mR M 1 7 = some P → p' = p) (N : Nat) (hN : 1700 ≤ N) :
    ∃ M', fX9_automatonOf N M 1 P = some (P + 4, M') ∧ zInv xs L M' cs ts cu ke ∧ zBF P M M' ∧ AutC M' P p ∧ GrpR M' P p := by
  have hS := h.sta
  unfold fX9_automatonOf
  rcases hA with q | ⟨q1, q2⟩
  · obtain ⟨ks, hR⟩ := h.2.2.2.2.2.2.2.2.1
    obtain ⟨M', r1, r2, r3, r4, r5⟩ := c_build hP hS hp hR N hN
    refine ⟨M', ?_, h.bf hP r2 (Or.inr ⟨r4, Or.inl r5⟩) ⟨_, r3⟩ h6 h7, r2, r4, Or.inl r5⟩
    simp (disch := omega) only [q_eM, q_Me, q_Mlt, q_Mle, q_leM, q_ltM, q_le, q_nle, q_lt, q_nlt, q_neq, zin_nI, nI_clamp, nI_add, pk_mul, pk_sub, mI_e, mI_n, mL_e, mL_n, mR_e, mR_n, i0, i1, ↓reduceIte, ↓bI_t, ↓bI_f, Bool.false_eq_true, eq_self, chk_true, bnd_just, bnd2_just, app_t, beq_self_eq_true, mK_wI, mK_wL, mK_wR, mK_wIr, mK_wLr, mN_wI, mN_wL, mN_wR, mN_wIr, mN_wLr, mR_wI, mR_wL, mR_wIr, mR_wLr, mI_wL, mI_wR, mI_wLr, mL_wI, mL_wR, mL_wIr, sk_1 hS, sr_1_2 hS, pK0 hS hP, pR7 hS hP, pK4 hS hP, q, r1]
  · refine ⟨M, ?_, h, zBF.rf, q1, q2⟩
    simp (disch := omega) only [q_eM, q_Me, q_Mlt, q_Mle, q_leM, q_ltM, q_le, q_nle, q_lt, q_nlt, q_neq, zin_nI, nI_clamp, nI_add, pk_mul, pk_sub, mI_e, mI_n, mL_e, mL_n, mR_e, mR_n, i0, i1, ↓reduceIte, ↓bI_t, ↓bI_f, Bool.false_eq_true, eq_self, chk_true, bnd_just, bnd2_just, app_t, beq_self_eq_true, mK_wI, mK_wL, mK_wR, mK_wIr, mK_wLr, mN_wI, mN_wL, mN_wR, mN_wIr, mN_wLr, mR_wI, mR_wL, mR_wIr, mR_wLr, mI_wL, mI_wR, mI_wLr, mL_wI, mL_wR, mL_wIr, pK0 hS hP, pR7 hS hP, pK4 hS hP, q1.1]
/-- the current pattern's automaton -/
theorem aut_cu {xs : Nat → Int32} {L : Nat} {M : zM} {cs ts : List Nat} {p : zPt} {ke : Option zPt} (h : zInv xs L M cs ts (some p) ke) (N : Nat) (hN : 1700 ≤ N) :
    ∃ P M', isP P ∧ mR M 1 6 = some P ∧ fX9_thePattern N M 1 = some (.inl P, M) ∧ fX9_automatonOf N M 1 P = some (P + 4, M') ∧ zInv xs L M' cs ts (some p) ke ∧ zBF P M M' ∧ AutC M' P p ∧ GrpR M' P p := by
  obtain ⟨h1, h2, h3, P, h4, h5, h6, h7⟩ := h.cu
  obtain ⟨M', r1, r2, r3, r4, r5⟩ := aut_of h h4 h6 h7 (fun p' e _ => by cases e; rfl) (fun p' e q => by
    have := h.2.2.2.2.2.2.1.2 (q.trans h5.symm)
    rw [e] at this
    cases this; rfl) N hN
  exact ⟨P, M', h4, h5, (c_the h.sta h.cu N).2 P h5, r1, r2, r3, r4, r5⟩
theorem MBF.toS {x : Nat} {M M' : zM} (h : MBF x M M') : Scr M M' := ⟨h.1, h.2.1, fun a j q => h.2.2 a j (fun q2 => q (by unfold scr; omega))⟩
theorem m_built {xs : Nat → Int32} {L : Nat} {M : zM} {cs ts : List Nat} {p : zPt} {ke : Option zPt} (h : zInv xs L M cs ts (some p) ke) (N : Nat) (hN : 1000 ≤ N) :
    ∃ M3, fX10_none N M 68 = some (nI 0, wI M 68 0 (nI 0)) ∧ fX10_build N (wI M 68 0 (nI 0)) 68 (nI 0) = some ((), M3) ∧ Scr M M3 ∧ (∀ j, mL M3 102 j = mL M 102 j) ∧ mI M3 68 0 = nI 0 ∧ AutM M3 0 p ∧ PatQ M3 0 p := by
  have hI2 := h.scr (Scr.rf.code (nI 0))
  obtain ⟨M3, t1, t2, t3⟩ := m_build (x := 0) (by omega) hI2.cu.2.2.1 hI2.sta hI2.cu.2.1 N (by omega)
  exact ⟨M3, m_none h.sta h.cu N, t1, (Scr.rf.code (nI 0)).tr t2.toS, fun j => (t2.2.2 102 j (by omega)).2, (t2.2.2 68 0 (by omega)).1.trans (mI_e rfl rfl), t3, t2.pat hI2.cu.2.1⟩
theorem b_states {xs : Nat → Int32} {L : Nat} {M : zM} {cs ts : List Nat} {cu ke : Option zPt} (h : zInv xs L M cs ts cu ke) (N : Nat) (hN : 2000 ≤ N) : BothI xs L (fL_states N M 1 102) (fun M1 => fX10_states N M1 68) := by
  have hS := h.sta
  cases cu with
  | none =>
    have e1 := (c_the hS h.cu N).1 rfl
    refine ⟨1, 0, M, wI M 68 0 (nI 1), cs, ts, none, ke, ?_, by omega, h.pre, ?_, mI_e rfl rfl, fun q => by omega, h.scr (Scr.rf.code _)⟩
    · unfold fL_states fX9_states
      simp only [chk_true, bnd_just, bnd2_just, app_t, beq_self_eq_true, mK_wI, mK_wL, mK_wR, mK_wIr, mK_wLr, mN_wI, mN_wL, mN_wR, mN_wIr, mN_wLr, mR_wI, mR_wL, mR_wIr, mR_wLr, mI_wL, mI_wR, mI_wLr, mL_wI, mL_wR, mL_wIr, sk_1 hS, e1, bndT_r, bndC_r, if_true, i1]
    · show fX10_states N M 68 = _
      unfold fX10_states
      rw [m_none hS h.cu]
      simp (disch := omega) only [q_eM, q_Me, q_Mlt, q_Mle, q_leM, q_ltM, q_le, q_nle, q_lt, q_nlt, q_neq, zin_nI, nI_clamp, nI_add, pk_mul, pk_sub, mI_e, mI_n, mL_e, mL_n, mR_e, mR_n, i0, i1, ↓reduceIte, ↓bI_t, ↓bI_f, Bool.false_eq_true, eq_self, chk_true, bnd_just, bnd2_just, app_t, beq_self_eq_true, mK_wI, mK_wL, mK_wR, mK_wIr, mK_wLr, mN_wI, mN_wL, mN_wR, mN_wIr, mN_wLr, mR_wI, mR_wL, mR_wIr, mR_wLr, mI_wL, mI_wR, mI_wLr, mL_wI, mL_wR, mL_wIr, sk_68 hS, Option.isNone_none]
  | some p =>
    obtain ⟨P, M', h4, h5, e1, r1, r2, r3, r4, r5⟩ := aut_cu h N (by omega)
    have hS' := r2.sta
    have hI1 := r2.scr (Scr.rf.out 0 (Int32.toInt64 (nI ((zKS p).length + 1))))
    obtain ⟨M3, t1, t2, t3, t4, t5, t6, t7⟩ := m_built hI1 N (by omega)
    have hS1 := hI1.sta
    have hS3 := t3.sta hS1
    refine ⟨0, nI ((zKS p).length + 1), wL M' 102 0 (Int32.toInt64 (nI ((zKS p).length + 1))), M3, cs, ts, some p, ke, ?_, by omega, hI1.pre, ?_, t5, fun _ => ?_, hI1.scr t3⟩
    · unfold fL_states fX9_states
      simp (disch := omega) only [q_eM, q_Me, q_Mlt, q_Mle, q_leM, q_ltM, q_le, q_nle, q_lt, q_nlt, q_neq, zin_nI, nI_clamp, nI_add, pk_mul, pk_sub, mI_e, mI_n, mL_e, mL_n, mR_e, mR_n, i0, i1, ↓reduceIte, ↓bI_t, ↓bI_f, Bool.false_eq_true, eq_self, chk_true, bnd_just, bnd2_just, app_t, beq_self_eq_true, mK_wI, mK_wL, mK_wR, mK_wIr, mK_wLr, mN_wI, mN_wL, mN_wR, mN_wIr, mN_wLr, mR_wI, mR_wL, mR_wIr, mR_wLr, mI_wL, mI_wR, mI_wLr, mL_wI, mL_wR, mL_wIr, sk_1 hS, e1, bndT_l, r1, pK4 hS' h4, r4.2.1, bndC_l, k102 hS', n102 hS']
    · show fX10_states N (wL M' 102 0 (Int32.toInt64 (nI ((zKS p).length + 1)))) 68 = _
      unfold fX10_states
      rw [t1]
      simp (disch := omega) only [q_eM, q_Me, q_Mlt, q_Mle, q_leM, q_ltM, q_le, q_nle, q_lt, q_nlt, q_neq, zin_nI, nI_clamp, nI_add, pk_mul, pk_sub, mI_e, mI_n, mL_e, mL_n, mR_e, mR_n, i0, i1, ↓reduceIte, ↓bI_t, ↓bI_f, Bool.false_eq_true, eq_self, chk_true, bnd_just, bnd2_just, app_t, beq_self_eq_true, mK_wI, mK_wL, mK_wR, mK_wIr, mK_wLr, mN_wI, mN_wL, mN_wR, mN_wIr, mN_wLr, mR_wI, mR_wL, mR_wIr, mR_wLr, mI_wL, mI_wR, mI_wLr, mL_wI, mL_wR, mL_wIr, sk_68 hS', t2, sk_68 hS3, sk_93 hS3, sn_93 hS3, sr_68_32 hS3, t6.1.1]
    · rw [t4, mL_e rfl rfl]
/-- a state that is none, or one -/
theorem m_nostate {xs : Nat → Int32} {L : Nat} {M : zM} {cs ts : List Nat} {p : zPt} {ke : Option zPt} (h : zInv xs L M cs ts (some p) ke) (v : Int32) (N : Nat) (hN : 1000 ≤ N) :
    ∃ M3, Scr M M3 ∧ (∀ j, mL M3 102 j = mL M 102 j) ∧ AutM M3 0 p ∧ PatQ M3 0 p ∧ ((v < 0 ∨ nI ((zKS p).length + 1) ≤ v) → fX10_noState N M 68 v = some (nI 1, wI M3 68 0 (nI 2))) ∧ (∀ j, j < (zKS p).length + 1 → v = nI j → fX10_noState N M 68 v = some (nI 0, wI M3 68 0 (nI 0))) := by
  obtain ⟨M3, t1, t2, t3, t4, t5, t6, t7⟩ := m_built h N hN
  have hS := h.sta
  have hS3 := t3.sta hS
  have hk := t6.1.2.1
  refine ⟨M3, t3, t4, t6, t7, fun q => ?_, fun j hj e => ?_⟩
  · unfold fX10_noState fX10_noState_29 fX10_noState_34
    rw [t1]
    by_cases hv : v < 0
    · simp (disch := omega) only [q_eM, q_Me, q_Mlt, q_Mle, q_leM, q_ltM, q_le, q_nle, q_lt, q_nlt, q_neq, zin_nI, nI_clamp, nI_add, pk_mul, pk_sub, mI_e, mI_n, mL_e, mL_n, mR_e, mR_n, i0, i1, ↓reduceIte, ↓bI_t, ↓bI_f, Bool.false_eq_true, eq_self, chk_true, bnd_just, bnd2_just, app_t, beq_self_eq_true, mK_wI, mK_wL, mK_wR, mK_wIr, mK_wLr, mN_wI, mN_wL, mN_wR, mN_wIr, mN_wLr, mR_wI, mR_wL, mR_wIr, mR_wLr, mI_wL, mI_wR, mI_wLr, mL_wI, mL_wR, mL_wIr, il_2, sk_68 hS, t2, neg_lt hv, sk_68 hS3]
    · have hb : nI ((zKS p).length + 1) ≤ v := q.resolve_left hv
      have n0 : (v < nI 0) = False := eq_false (by rw [← i0]; exact hv)
      simp (disch := omega) only [q_eM, q_Me, q_Mlt, q_Mle, q_leM, q_ltM, q_le, q_nle, q_lt, q_nlt, q_neq, zin_nI, nI_clamp, nI_add, pk_mul, pk_sub, mI_e, mI_n, mL_e, mL_n, mR_e, mR_n, i0, i1, ↓reduceIte, ↓bI_t, ↓bI_f, Bool.false_eq_true, eq_self, chk_true, bnd_just, bnd2_just, app_t, beq_self_eq_true, mK_wI, mK_wL, mK_wR, mK_wIr, mK_wLr, mN_wI, mN_wL, mN_wR, mN_wIr, mN_wLr, mR_wI, mR_wL, mR_wIr, mR_wLr, mI_wL, mI_wR, mI_wLr, mL_wI, mL_wR, mL_wIr, il_2, sk_68 hS, t2, n0, sk_68 hS3, sk_93 hS3, sn_93 hS3, sr_68_32 hS3, t6.1.1, big_lt hb]
  · subst e
    unfold fX10_noState fX10_noState_34
    rw [t1]
    simp (disch := omega) only [q_eM, q_Me, q_Mlt, q_Mle, q_leM, q_ltM, q_le, q_nle, q_lt, q_nlt, q_neq, zin_nI, nI_clamp, nI_add, pk_mul, pk_sub, mI_e, mI_n, mL_e, mL_n, mR_e, mR_n, i0, i1, ↓reduceIte, ↓bI_t, ↓bI_f, Bool.false_eq_true, eq_self, chk_true, bnd_just, bnd2_just, app_t, beq_self_eq_true, mK_wI, mK_wL, mK_wR, mK_wIr, mK_wLr, mN_wI, mN_wL, mN_wR, mN_wIr, mN_wLr, mR_wI, mR_wL, mR_wIr, mR_wLr, mI_wL, mI_wR, mI_wLr, mL_wI, mL_wR, mL_wIr, sk_68 hS, t2, sk_68 hS3, sk_93 hS3, sn_93 hS3, sr_68_32 hS3, t6.1.1]
theorem m_nostate0 {M : zM} (hS : Sta M) (h : Hld M 6 0 none) (v : Int32) (N : Nat) : fX10_noState N M 68 v = some (nI 1, wI M 68 0 (nI 1)) := by
  unfold fX10_noState
  rw [m_none hS h]
  simp (disch := omega) only [q_eM, q_Me, q_Mlt, q_Mle, q_leM, q_ltM, q_le, q_nle, q_lt, q_nlt, q_neq, zin_nI, nI_clamp, nI_add, pk_mul, pk_sub, mI_e, mI_n, mL_e, mL_n, mR_e, mR_n, i0, i1, ↓reduceIte, ↓bI_t, ↓bI_f, Bool.false_eq_true, eq_self, chk_true, bnd_just, bnd2_just, app_t, beq_self_eq_true, mK_wI, mK_wL, mK_wR, mK_wIr, mK_wLr, mN_wI, mN_wL, mN_wR, mN_wIr, mN_wLr, mR_wI, mR_wL, mR_wIr, mR_wLr, mI_wL, mI_wR, mI_wLr, mL_wI, mL_wR, mL_wIr, sk_68 hS, Option.isNone_none]
theorem b_good {xs : Nat → Int32} {L : Nat} {M : zM} {cs ts : List Nat} {cu ke : Option zPt} (h : zInv xs L M cs ts cu ke) (v : Int32) (N : Nat) (hN : 2000 ≤ N) : BothB xs L (fL_good N M 1 v 102) (fun M1 => fX10_good N M1 68 v) := by
  have hS := h.sta
  cases cu with
  | none =>
    have e1 := (c_the hS h.cu N).1 rfl
    refine ⟨1, false, M, wI M 68 0 (nI 1), cs, ts, none, ke, ?_, by omega, h.pre, ?_, mI_e rfl rfl, fun q => by omega, h.scr (Scr.rf.code _)⟩
    · unfold fL_good fX9_good
      simp only [chk_true, bnd_just, bnd2_just, app_t, beq_self_eq_true, mK_wI, mK_wL, mK_wR, mK_wIr, mK_wLr, mN_wI, mN_wL, mN_wR, mN_wIr, mN_wLr, mR_wI, mR_wL, mR_wIr, mR_wLr, mI_wL, mI_wR, mI_wLr, mL_wI, mL_wR, mL_wIr, sk_1 hS, e1, bndT_r, bndC_r, if_true, i1]
    · show fX10_good N M 68 v = _
      unfold fX10_good fX10_good_21
      rw [m_nostate0 hS h.cu]
      simp (disch := omega) only [q_eM, q_Me, q_Mlt, q_Mle, q_leM, q_ltM, q_le, q_nle, q_lt, q_nlt, q_neq, zin_nI, nI_clamp, nI_add, pk_mul, pk_sub, mI_e, mI_n, mL_e, mL_n, mR_e, mR_n, i0, i1, ↓reduceIte, ↓bI_t, ↓bI_f, Bool.false_eq_true, eq_self, chk_true, bnd_just, bnd2_just, app_t, beq_self_eq_true, mK_wI, mK_wL, mK_wR, mK_wIr, mK_wLr, mN_wI, mN_wL, mN_wR, mN_wIr, mN_wLr, mR_wI, mR_wL, mR_wIr, mR_wLr, mI_wL, mI_wR, mI_wLr, mL_wI, mL_wR, mL_wIr, sk_68 hS]
  | some p =>
    obtain ⟨P, M', h4, h5, e1, r1, r2, r3, r4, r5⟩ := aut_cu h N (by omega)
    have hS' := r2.sta
    have hk := r4.2.2.2.2.2
    have hb1 : (v < 0 ∨ nI ((zKS p).length + 1) ≤ v) → BothB xs L (fL_good N M 1 v 102) (fun M1 => fX10_good N M1 68 v) := by
      intro hv
      obtain ⟨M3, t1, t2, t3, t4, t5, t6⟩ := m_nostate r2 v N (by omega)
      refine ⟨2, false, M', wI M3 68 0 (nI 2), cs, ts, some p, ke, ?_, by omega, r2.pre, ?_, mI_e rfl rfl, fun q => by omega, (r2.scr t1).scr (Scr.rf.code _)⟩
      · unfold fL_good fX9_good
        by_cases hv0 : v < 0
        · simp (disch := omega) only [q_eM, q_Me, q_Mlt, q_Mle, q_leM, q_ltM, q_le, q_nle, q_lt, q_nlt, q_neq, zin_nI, nI_clamp, nI_add, pk_mul, pk_sub, mI_e, mI_n, mL_e, mL_n, mR_e, mR_n, i0, i1, ↓reduceIte, ↓bI_t, ↓bI_f, Bool.false_eq_true, eq_self, chk_true, bnd_just, bnd2_just, app_t, beq_self_eq_true, mK_wI, mK_wL, mK_wR, mK_wIr, mK_wLr, mN_wI, mN_wL, mN_wR, mN_wIr, mN_wLr, mR_wI, mR_wL, mR_wIr, mR_wLr, mI_wL, mI_wR, mI_wLr, mL_wI, mL_wR, mL_wIr, sk_1 hS, e1, bndT_l, r1, neg_lt hv0, bndC_r, sq2, il_2]
        · have hvb := hv.resolve_left hv0
          have n0 : (v < nI 0) = False := eq_false (by rw [← i0]; exact hv0)
          simp (disch := omega) only [q_eM, q_Me, q_Mlt, q_Mle, q_leM, q_ltM, q_le, q_nle, q_lt, q_nlt, q_neq, zin_nI, nI_clamp, nI_add, pk_mul, pk_sub, mI_e, mI_n, mL_e, mL_n, mR_e, mR_n, i0, i1, ↓reduceIte, ↓bI_t, ↓bI_f, Bool.false_eq_true, eq_self, chk_true, bnd_just, bnd2_just, app_t, beq_self_eq_true, mK_wI, mK_wL, mK_wR, mK_wIr, mK_wLr, mN_wI, mN_wL, mN_wR, mN_wIr, mN_wLr, mR_wI, mR_wL, mR_wIr, mR_wLr, mI_wL, mI_wR, mI_wLr, mL_wI, mL_wR, mL_wIr, sk_1 hS, e1, bndT_l, r1, n0, pK4 hS' h4, r4.2.1, big_lt hvb, bndC_r, sq2, il_2]
      · show fX10_good N M' 68 v = _
        unfold fX10_good fX10_good_21
        rw [t5 hv]
        simp (disch := omega) only [q_eM, q_Me, q_Mlt, q_Mle, q_leM, q_ltM, q_le, q_nle, q_lt, q_nlt, q_neq, zin_nI, nI_clamp, nI_add, pk_mul, pk_sub, mI_e, mI_n, mL_e, mL_n, mR_e, mR_n, i0, i1, ↓reduceIte, ↓bI_t, ↓bI_f, Bool.false_eq_true, eq_self, chk_true, bnd_just, bnd2_just, app_t, beq_self_eq_true, mK_wI, mK_wL, mK_wR, mK_wIr, mK_wLr, mN_wI, mN_wL, mN_wR, mN_wIr, mN_wLr, mR_wI, mR_wL, mR_wIr, mR_wLr, mI_wL, mI_wR, mI_wLr, mL_wI, mL_wR, mL_wIr, sk_68 hS']
    rcases pk_ix v (n := (zKS p).length + 1) (by omega) with hv | hv | ⟨j, hj, rfl⟩
    · exact hb1 (Or.inl hv)
    · exact hb1 (Or.inr hv)
    · have hI1 := r2.scr (Scr.rf.out 0 (oB (gd p j)))
      obtain ⟨M3, t1, t2, t3, t4, t5, t6⟩ := m_nostate hI1 (nI j) N (by omega)
      have hS3 := t1.sta hI1.sta
      have hS4 : Sta (wI M3 68 0 (nI 0)) := hS3
      have gg := r4.2.2.2.1 j (by omega)
      have mg := m_isGood (x := 0) (p := p) (by omega) hS4 (t4.cg (fun a _ _ => mI_n (by omega)) (fun a _ _ => rfl) (fun a i _ _ _ => rfl)) (t3.1.fr (mI_n (by omega)) (fun j => rfl)) (s := j) (by omega) N
      refine ⟨0, gd p j, wL M' 102 0 (oB (gd p j)), wI M3 68 0 (nI 0), cs, ts, some p, ke, ?_, by omega, hI1.pre, ?_, mI_e rfl rfl, fun _ => ?_, (hI1.scr t1).scr (Scr.rf.code _)⟩
      · unfold fL_good fX9_good fL_good_15
        simp (disch := omega) only [q_eM, q_Me, q_Mlt, q_Mle, q_leM, q_ltM, q_le, q_nle, q_lt, q_nlt, q_neq, zin_nI, nI_clamp, nI_add, pk_mul, pk_sub, mI_e, mI_n, mL_e, mL_n, mR_e, mR_n, i0, i1, ↓reduceIte, ↓bI_t, ↓bI_f, Bool.false_eq_true, eq_self, chk_true, bnd_just, bnd2_just, app_t, beq_self_eq_true, mK_wI, mK_wL, mK_wR, mK_wIr, mK_wLr, mN_wI, mN_wL, mN_wR, mN_wIr, mN_wLr, mR_wI, mR_wL, mR_wIr, mR_wLr, mI_wL, mI_wR, mI_wLr, mL_wI, mL_wR, mL_wIr, sk_1 hS, e1, bndT_l, r1, pK4 hS' h4, r4.2.1, pA4 hS' h4, pK5 hS' h4, pN5 hS' h4, gg, z01_b, bndC_l]
        cases gd p j <;> simp (disch := omega) only [q_eM, q_Me, q_Mlt, q_Mle, q_leM, q_ltM, q_le, q_nle, q_lt, q_nlt, q_neq, zin_nI, nI_clamp, nI_add, pk_mul, pk_sub, mI_e, mI_n, mL_e, mL_n, mR_e, mR_n, i0, i1, ↓reduceIte, ↓bI_t, ↓bI_f, Bool.false_eq_true, eq_self, chk_true, bnd_just, bnd2_just, app_t, beq_self_eq_true, mK_wI, mK_wL, mK_wR, mK_wIr, mK_wLr, mN_wI, mN_wL, mN_wR, mN_wIr, mN_wLr, mR_wI, mR_wL, mR_wIr, mR_wLr, mI_wL, mI_wR, mI_wLr, mL_wI, mL_wR, mL_wIr, bndC_l, k102 hS', n102 hS'] <;> rfl
      · show fX10_good N (wL M' 102 0 (oB (gd p j))) 68 (nI j) = _
        unfold fX10_good fX10_good_21
        rw [t6 j hj rfl]
        simp (disch := omega) only [chk_true, bnd_just, bnd2_just, app_t, beq_self_eq_true, mK_wI, mK_wL, mK_wR, mK_wIr, mK_wLr, mN_wI, mN_wL, mN_wR, mN_wIr, mN_wLr, mR_wI, mR_wL, mR_wIr, mR_wLr, mI_wL, mI_wR, mI_wLr, mL_wI, mL_wR, mL_wIr, i0, ↓reduceIte, sk_68 hS', sk_68 hS3, mg]
        cases gd p j <;> simp (disch := omega) only [q_eM, q_Me, q_Mlt, q_Mle, q_leM, q_ltM, q_le, q_nle, q_lt, q_nlt, q_neq, zin_nI, nI_clamp, nI_add, pk_mul, pk_sub, mI_e, mI_n, mL_e, mL_n, mR_e, mR_n, i0, i1, ↓reduceIte, ↓bI_t, ↓bI_f, Bool.false_eq_true, eq_self, chk_true, bnd_just, bnd2_just, app_t, beq_self_eq_true, mK_wI, mK_wL, mK_wR, mK_wIr, mK_wLr, mN_wI, mN_wL, mN_wR, mN_wIr, mN_wLr, mR_wI, mR_wL, mR_wIr, mR_wLr, mI_wL, mI_wR, mI_wLr, mL_wI, mL_wR, mL_wIr]
      · show mL M3 102 0 = _
        rw [t2, mL_e rfl rfl]; rfl
theorem b_next {xs : Nat → Int32} {L : Nat} {M : zM} {cs ts : List Nat} {cu ke : Option zPt} (h : zInv xs L M cs ts cu ke) (v w : Int32) (N : Nat) (hN : 2000 ≤ N) : BothI xs L (fL_next N M 1 v w 102) (fun M1 => fX10_next N M1 68 v w) := by
  have hS := h.sta
  cases cu with
  | none =>
    have e1 := (c_the hS h.cu N).1 rfl
    refine ⟨1, 0, M, wI M 68 0 (nI 1), cs, ts, none, ke, ?_, by omega, h.pre, ?_, mI_e rfl rfl, fun q => by omega, h.scr (Scr.rf.code _)⟩
    · unfold fL_next fX9_next
      simp only [chk_true, bnd_just, bnd2_just, app_t, beq_self_eq_true, mK_wI, mK_wL, mK_wR, mK_wIr, mK_wLr, mN_wI, mN_wL, mN_wR, mN_wIr, mN_wLr, mR_wI, mR_wL, mR_wIr, mR_wLr, mI_wL, mI_wR, mI_wLr, mL_wI, mL_wR, mL_wIr, sk_1 hS, e1, bndT_r, bndC_r, if_true, i1]
    · show fX10_next N M 68 v w = _
      unfold fX10_next
      rw [m_nostate0 hS h.cu]
      simp (disch := omega) only [q_eM, q_Me, q_Mlt, q_Mle, q_leM, q_ltM, q_le, q_nle, q_lt, q_nlt, q_neq, zin_nI, nI_clamp, nI_add, pk_mul, pk_sub, mI_e, mI_n, mL_e, mL_n, mR_e, mR_n, i0, i1, ↓reduceIte, ↓bI_t, ↓bI_f, Bool.false_eq_true, eq_self, chk_true, bnd_just, bnd2_just, app_t, beq_self_eq_true, mK_wI, mK_wL, mK_wR, mK_wIr, mK_wLr, mN_wI, mN_wL, mN_wR, mN_wIr, mN_wLr, mR_wI, mR_wL, mR_wIr, mR_wLr, mI_wL, mI_wR, mI_wLr, mL_wI, mL_wR, mL_wIr, sk_68 hS]
  | some p =>
    obtain ⟨P, M', h4, h5, e1, r1, r2, r3, r4, r5⟩ := aut_cu h N (by omega)
    have hS' := r2.sta
    have hk := r4.2.2.2.2.2
    have hb1 : (v < 0 ∨ nI ((zKS p).length + 1) ≤ v) → BothI xs L (fL_next N M 1 v w 102) (fun M1 => fX10_next N M1 68 v w) := by
      intro hv
      obtain ⟨M3, t1, t2, t3, t4, t5, t6⟩ := m_nostate r2 v N (by omega)
      refine ⟨2, 0, M', wI M3 68 0 (nI 2), cs, ts, some p, ke, ?_, by omega, r2.pre, ?_, mI_e rfl rfl, fun q => by omega, (r2.scr t1).scr (Scr.rf.code _)⟩
      · unfold fL_next fX9_next
        by_cases hv0 : v < 0
        · simp (disch := omega) only [q_eM, q_Me, q_Mlt, q_Mle, q_leM, q_ltM, q_le, q_nle, q_lt, q_nlt, q_neq, zin_nI, nI_clamp, nI_add, pk_mul, pk_sub, mI_e, mI_n, mL_e, mL_n, mR_e, mR_n, i0, i1, ↓reduceIte, ↓bI_t, ↓bI_f, Bool.false_eq_true, eq_self, chk_true, bnd_just, bnd2_just, app_t, beq_self_eq_true, mK_wI, mK_wL, mK_wR, mK_wIr, mK_wLr, mN_wI, mN_wL, mN_wR, mN_wIr, mN_wLr, mR_wI, mR_wL, mR_wIr, mR_wLr, mI_wL, mI_wR, mI_wLr, mL_wI, mL_wR, mL_wIr, sk_1 hS, e1, bndT_l, r1, neg_lt hv0, bndC_r, sq2, il_2]
        · have hvb := hv.resolve_left hv0
          have n0 : (v < nI 0) = False := eq_false (by rw [← i0]; exact hv0)
          have n1 : (nI ((zKS p).length + 1) ≤ v) = True := eq_true hvb
          simp (disch := omega) only [q_eM, q_Me, q_Mlt, q_Mle, q_leM, q_ltM, q_le, q_nle, q_lt, q_nlt, q_neq, zin_nI, nI_clamp, nI_add, pk_mul, pk_sub, mI_e, mI_n, mL_e, mL_n, mR_e, mR_n, i0, i1, ↓reduceIte, ↓bI_t, ↓bI_f, Bool.false_eq_true, eq_self, chk_true, bnd_just, bnd2_just, app_t, beq_self_eq_true, mK_wI, mK_wL, mK_wR, mK_wIr, mK_wLr, mN_wI, mN_wL, mN_wR, mN_wIr, mN_wLr, mR_wI, mR_wL, mR_wIr, mR_wLr, mI_wL, mI_wR, mI_wLr, mL_wI, mL_wR, mL_wIr, sk_1 hS, e1, bndT_l, r1, n0, n1, pK4 hS' h4, r4.2.1, bndC_r, sq2, il_2]
      · show fX10_next N M' 68 v w = _
        unfold fX10_next
        rw [t5 hv]
        simp (disch := omega) only [q_eM, q_Me, q_Mlt, q_Mle, q_leM, q_ltM, q_le, q_nle, q_lt, q_nlt, q_neq, zin_nI, nI_clamp, nI_add, pk_mul, pk_sub, mI_e, mI_n, mL_e, mL_n, mR_e, mR_n, i0, i1, ↓reduceIte, ↓bI_t, ↓bI_f, Bool.false_eq_true, eq_self, chk_true, bnd_just, bnd2_just, app_t, beq_self_eq_true, mK_wI, mK_wL, mK_wR, mK_wIr, mK_wLr, mN_wI, mN_wL, mN_wR, mN_wIr, mN_wLr, mR_wI, mR_wL, mR_wIr, mR_wLr, mI_wL, mI_wR, mI_wLr, mL_wI, mL_wR, mL_wIr, sk_68 hS']
    rcases pk_ix v (n := (zKS p).length + 1) (by omega) with hv | hv | ⟨j, hj, rfl⟩
    · exact hb1 (Or.inl hv)
    · exact hb1 (Or.inr hv)
    · have hb2 : (w < 0 ∨ nI 36 ≤ w) → BothI xs L (fL_next N M 1 (nI j) w 102) (fun M1 => fX10_next N M1 68 (nI j) w) := by
        intro hw
        obtain ⟨M3, t1, t2, t3, t4, t5, t6⟩ := m_nostate r2 (nI j) N (by omega)
        have hS3 := t1.sta hS'
        refine ⟨2, 0, M', wI (wI M3 68 0 (nI 0)) 68 0 (nI 2), cs, ts, some p, ke, ?_, by omega, r2.pre, ?_, mI_e rfl rfl, fun q => by omega, (r2.scr t1).scr ((Scr.rf.code _).code _)⟩
        · unfold fL_next fX9_next
          by_cases hw0 : w < 0
          · simp (disch := omega) only [q_eM, q_Me, q_Mlt, q_Mle, q_leM, q_ltM, q_le, q_nle, q_lt, q_nlt, q_neq, zin_nI, nI_clamp, nI_add, pk_mul, pk_sub, mI_e, mI_n, mL_e, mL_n, mR_e, mR_n, i0, i1, ↓reduceIte, ↓bI_t, ↓bI_f, Bool.false_eq_true, eq_self, chk_true, bnd_just, bnd2_just, app_t, beq_self_eq_true, mK_wI, mK_wL, mK_wR, mK_wIr, mK_wLr, mN_wI, mN_wL, mN_wR, mN_wIr, mN_wLr, mR_wI, mR_wL, mR_wIr, mR_wLr, mI_wL, mI_wR, mI_wLr, mL_wI, mL_wR, mL_wIr, sk_1 hS, e1, bndT_l, r1, pK4 hS' h4, r4.2.1, neg_lt hw0, bndC_r, sq2, il_2]
          · have hwb := hw.resolve_left hw0
            have n0 : (w < nI 0) = False := eq_false (by rw [← i0]; exact hw0)
            simp (disch := omega) only [q_eM, q_Me, q_Mlt, q_Mle, q_leM, q_ltM, q_le, q_nle, q_lt, q_nlt, q_neq, zin_nI, nI_clamp, nI_add, pk_mul, pk_sub, mI_e, mI_n, mL_e, mL_n, mR_e, mR_n, i0, i1, ↓reduceIte, ↓bI_t, ↓bI_f, Bool.false_eq_true, eq_self, chk_true, bnd_just, bnd2_just, app_t, beq_self_eq_true, mK_wI, mK_wL, mK_wR, mK_wIr, mK_wLr, mN_wI, mN_wL, mN_wR, mN_wIr, mN_wLr, mR_wI, mR_wL, mR_wIr, mR_wLr, mI_wL, mI_wR, mI_wLr, mL_wI, mL_wR, mL_wIr, i36, sk_1 hS, e1, bndT_l, r1, pK4 hS' h4, r4.2.1, n0, big_lt hwb, bndC_r, sq2, il_2]
        · show fX10_next N M' 68 (nI j) w = _
          unfold fX10_next fX10_next_21 fX10_next_26
          rw [t6 j hj rfl]
          by_cases hw0 : w < 0
          · simp (disch := omega) only [q_eM, q_Me, q_Mlt, q_Mle, q_leM, q_ltM, q_le, q_nle, q_lt, q_nlt, q_neq, zin_nI, nI_clamp, nI_add, pk_mul, pk_sub, mI_e, mI_n, mL_e, mL_n, mR_e, mR_n, i0, i1, ↓reduceIte, ↓bI_t, ↓bI_f, Bool.false_eq_true, eq_self, chk_true, bnd_just, bnd2_just, app_t, beq_self_eq_true, mK_wI, mK_wL, mK_wR, mK_wIr, mK_wLr, mN_wI, mN_wL, mN_wR, mN_wIr, mN_wLr, mR_wI, mR_wL, mR_wIr, mR_wLr, mI_wL, mI_wR, mI_wLr, mL_wI, mL_wR, mL_wIr, i36, il_2, sk_68 hS', neg_lt hw0, sk_68 hS3]
          · have hwb := hw.resolve_left hw0
            have n0 : (w < nI 0) = False := eq_false (by rw [← i0]; exact hw0)
            simp (disch := omega) only [q_eM, q_Me, q_Mlt, q_Mle, q_leM, q_ltM, q_le, q_nle, q_lt, q_nlt, q_neq, zin_nI, nI_clamp, nI_add, pk_mul, pk_sub, mI_e, mI_n, mL_e, mL_n, mR_e, mR_n, i0, i1, ↓reduceIte, ↓bI_t, ↓bI_f, Bool.false_eq_true, eq_self, chk_true, bnd_just, bnd2_just, app_t, beq_self_eq_true, mK_wI, mK_wL, mK_wR, mK_wIr, mK_wLr, mN_wI, mN_wL, mN_wR, mN_wIr, mN_wLr, mR_wI, mR_wL, mR_wIr, mR_wLr, mI_wL, mI_wR, mI_wLr, mL_wI, mL_wR, mL_wIr, i36, il_2, sk_68 hS', n0, big_lt hwb, sk_68 hS3]
      rcases pk_ix w (n := 36) (by omega) with hw | hw | ⟨l, hl, rfl⟩
      · exact hb2 (Or.inl hw)
      · exact hb2 (Or.inr hw)
      · obtain ⟨y, hy⟩ : ∃ y, y = mI M' (P + 6) (j * 36 + l) := ⟨_, rfl⟩
        have hI1 := r2.scr (Scr.rf.out 0 (Int32.toInt64 y))
        obtain ⟨M3, t1, t2, t3, t4, t5, t6⟩ := m_nostate hI1 (nI j) N (by omega)
        have hS3 := t1.sta hI1.sta
        obtain ⟨b, a1, a2⟩ := r4.2.2.1
        obtain ⟨b', c1, c2⟩ := t3.2
        have hw := (way_eq r4.2.2.2.2.1 hk a2 c2).2 j l (by omega) hl
        have g92 : mI M3 92 (36 * j + l) = y := by
          rw [hy]
          have : wyM M3 0 j l = mI M3 92 (36 * j + l) := by unfold wyM; congr 1; omega
          rw [← this, ← hw]; rfl
        refine ⟨0, y, wL M' 102 0 (Int32.toInt64 y), wI (wI M3 68 0 (nI 0)) 68 0 (nI 0), cs, ts, some p, ke, ?_, by omega, hI1.pre, ?_, mI_e rfl rfl, fun _ => ?_, (hI1.scr t1).scr ((Scr.rf.code _).code _)⟩
        · unfold fL_next fX9_next fX0_wayFrom
          simp (disch := omega) only [q_eM, q_Me, q_Mlt, q_Mle, q_leM, q_ltM, q_le, q_nle, q_lt, q_nlt, q_neq, zin_nI, nI_clamp, nI_add, pk_mul, pk_sub, mI_e, mI_n, mL_e, mL_n, mR_e, mR_n, i0, i1, ↓reduceIte, ↓bI_t, ↓bI_f, Bool.false_eq_true, eq_self, chk_true, bnd_just, bnd2_just, app_t, beq_self_eq_true, mK_wI, mK_wL, mK_wR, mK_wIr, mK_wLr, mN_wI, mN_wL, mN_wR, mN_wIr, mN_wLr, mR_wI, mR_wL, mR_wIr, mR_wLr, mI_wL, mI_wR, mI_wLr, mL_wI, mL_wR, mL_wIr, i36, sk_1 hS, e1, bndT_l, r1, pK4 hS' h4, r4.2.1, pA5 hS' h4, pK6 hS' h4, pN6 hS' h4, ← hy, bndC_l, k102 hS', n102 hS']
        · show fX10_next N (wL M' 102 0 (Int32.toInt64 y)) 68 (nI j) (nI l) = _
          unfold fX10_next fX10_next_26
          rw [t6 j hj rfl]
          simp (disch := omega) only [q_eM, q_Me, q_Mlt, q_Mle, q_leM, q_ltM, q_le, q_nle, q_lt, q_nlt, q_neq, zin_nI, nI_clamp, nI_add, pk_mul, pk_sub, mI_e, mI_n, mL_e, mL_n, mR_e, mR_n, i0, i1, ↓reduceIte, ↓bI_t, ↓bI_f, Bool.false_eq_true, eq_self, chk_true, bnd_just, bnd2_just, app_t, beq_self_eq_true, mK_wI, mK_wL, mK_wR, mK_wIr, mK_wLr, mN_wI, mN_wL, mN_wR, mN_wIr, mN_wLr, mR_wI, mR_wL, mR_wIr, mR_wLr, mI_wL, mI_wR, mI_wLr, mL_wI, mL_wR, mL_wIr, i36, sk_68 hS', sk_68 hS3, sk_92 hS3, sn_92 hS3, sr_68_31 hS3, g92]
        · show mL M3 102 0 = _
          rw [t2, mL_e rfl rfl]
theorem b_classes {xs : Nat → Int32} {L : Nat} {M : zM} {cs ts : List Nat} {cu ke : Option zPt} (h : zInv xs L M cs ts cu ke) (N : Nat) (hN : 300000 ≤ N) : BothI xs L (fL_classes N M 1 102) (fun M1 => fX10_classes N M1 68) := by
  have hS := h.sta
  cases cu with
  | none =>
    have e1 := (c_the hS h.cu N).1 rfl
    refine ⟨1, 0, M, wI M 68 0 (nI 1), cs, ts, none, ke, ?_, by omega, h.pre, ?_, mI_e rfl rfl, fun q => by omega, h.scr (Scr.rf.code _)⟩
    · unfold fL_classes fX9_classes
      simp only [chk_true, bnd_just, bnd2_just, app_t, beq_self_eq_true, mK_wI, mK_wL, mK_wR, mK_wIr, mK_wLr, mN_wI, mN_wL, mN_wR, mN_wIr, mN_wLr, mR_wI, mR_wL, mR_wIr, mR_wLr, mI_wL, mI_wR, mI_wLr, mL_wI, mL_wR, mL_wIr, sk_1 hS, e1, bndT_r, bndC_r, if_true, i1]
    · show fX10_classes N M 68 = _
      unfold fX10_classes
      rw [m_none hS h.cu]
      simp (disch := omega) only [q_eM, q_Me, q_Mlt, q_Mle, q_leM, q_ltM, q_le, q_nle, q_lt, q_nlt, q_neq, zin_nI, nI_clamp, nI_add, pk_mul, pk_sub, mI_e, mI_n, mL_e, mL_n, mR_e, mR_n, i0, i1, ↓reduceIte, ↓bI_t, ↓bI_f, Bool.false_eq_true, eq_self, chk_true, bnd_just, bnd2_just, app_t, beq_self_eq_true, mK_wI, mK_wL, mK_wR, mK_wIr, mK_wLr, mN_wI, mN_wL, mN_wR, mN_wIr, mN_wLr, mR_wI, mR_wL, mR_wIr, mR_wLr, mI_wL, mI_wR, mI_wLr, mL_wI, mL_wR, mL_wIr, sk_68 hS, Option.isNone_none]
  | some p =>
    obtain ⟨P, M', h4, h5, e1, r1, r2, r3, r4, r5⟩ := aut_cu h N (by omega)
    have hS' := r2.sta
    obtain ⟨hP1, hP2⟩ := isP_le h4
    have hk := r4.2.2.2.2.2
    obtain ⟨b, a1, a2⟩ := r4.2.2.1
    cases b with
    | true =>
      have hI1 := r2.scr (Scr.rf.out 0 (Int32.toInt64 iM))
      obtain ⟨M3, t1, t2, t3, t4, t5, t6, t7⟩ := m_built hI1 N (by omega)
      have hS3 := t3.sta hI1.sta
      obtain ⟨b', c1, c2⟩ := t6.2
      have hbb := (way_eq r4.2.2.2.2.1 hk a2 c2).1
      rw [← hbb] at c1
      refine ⟨0, iM, wL M' 102 0 (Int32.toInt64 iM), M3, cs, ts, some p, ke, ?_, by omega, hI1.pre, ?_, t5, fun _ => ?_, hI1.scr t3⟩
      · unfold fL_classes fX9_classes
        simp (disch := omega) only [q_eM, q_Me, q_Mlt, q_Mle, q_leM, q_ltM, q_le, q_nle, q_lt, q_nlt, q_neq, zin_nI, nI_clamp, nI_add, pk_mul, pk_sub, mI_e, mI_n, mL_e, mL_n, mR_e, mR_n, i0, i1, ↓reduceIte, ↓bI_t, ↓bI_f, Bool.false_eq_true, eq_self, chk_true, bnd_just, bnd2_just, app_t, beq_self_eq_true, mK_wI, mK_wL, mK_wR, mK_wIr, mK_wLr, mN_wI, mN_wL, mN_wR, mN_wIr, mN_wLr, mR_wI, mR_wL, mR_wIr, mR_wLr, mI_wL, mI_wR, mI_wLr, mL_wI, mL_wR, mL_wIr, ↓neg1, sk_1 hS, e1, bndT_l, r1, pK4 hS' h4, a1, bndC_l, k102 hS', n102 hS']
      · show fX10_classes N (wL M' 102 0 (Int32.toInt64 iM)) 68 = _
        unfold fX10_classes
        rw [t1]
        simp (disch := omega) only [q_eM, q_Me, q_Mlt, q_Mle, q_leM, q_ltM, q_le, q_nle, q_lt, q_nlt, q_neq, zin_nI, nI_clamp, nI_add, pk_mul, pk_sub, mI_e, mI_n, mL_e, mL_n, mR_e, mR_n, i0, i1, ↓reduceIte, ↓bI_t, ↓bI_f, Bool.false_eq_true, eq_self, chk_true, bnd_just, bnd2_just, app_t, beq_self_eq_true, mK_wI, mK_wL, mK_wR, mK_wIr, mK_wLr, mN_wI, mN_wL, mN_wR, mN_wIr, mN_wLr, mR_wI, mR_wL, mR_wIr, mR_wLr, mI_wL, mI_wR, mI_wLr, mL_wI, mL_wR, mL_wIr, ↓neg1, sk_68 hS', t2, sk_68 hS3, sk_94 hS3, sn_94 hS3, sr_68_33 hS3, c1]
      · rw [t4, mL_e rfl rfl]
    | false =>
      have hAD := r4.d (by rw [a1]; rfl)
      have hcls : ∃ c Mc, c ≤ 300 ∧ NCls ((zKS p).length + 1) (dl p) (gd p) c ∧ zInv xs L Mc cs ts (some p) ke ∧ AutC Mc P p ∧ fX9_classes N M 1 = some (.inl (nI c), Mc) := by
        by_cases hg : mI M' (P + 4) 3 = iM
        · obtain ⟨ks, hR⟩ := r2.2.2.2.2.2.2.2.2.1
          obtain ⟨Mg, c, s1, s2, ⟨ks', s3⟩, s4, s5⟩ := c_count h4 hS' hAD hR N (by omega)
          have hSg := s2.sta hS'
          have hAg : AutC (wI Mg (P + 4) 3 (nI c)) P p := r4.cg (fun j hj => by rw [mI_n (by omega)]; exact (s2.2.2 _ (by omega) _).1) (fun a j q1 q2 => by rw [mI_n (by omega)]; exact (s2.2.2 _ (by omega) _).1)
          refine ⟨c, wI Mg (P + 4) 3 (nI c), s4, s5, ?_, hAg, ?_⟩
          · obtain ⟨k1, ⟨k2, k2'⟩, ⟨k3, k3'⟩, ⟨k4, k4'⟩, k5, k6, ⟨k7, k7'⟩, k8, k9, k10⟩ := r2
            have vi : ∀ a j, ¬ ((31 ≤ a ∧ a ≤ 34) ∨ a = 36 ∨ a = 37 ∨ (a = P + 4 ∧ j = 3)) → mI (wI Mg (P + 4) 3 (nI c)) a j = mI M' a j := fun a j q => by rw [mI_n (by omega)]; exact (s2.2.2 a (by omega) j).1
            have vl : ∀ a j, ¬ ((31 ≤ a ∧ a ≤ 34) ∨ a = 36 ∨ a = 37) → mL (wI Mg (P + 4) 3 (nI c)) a j = mL M' a j := fun a j q => (s2.2.2 a (by omega) j).2
            have vR : ∀ a j, mR (wI Mg (P + 4) 3 (nI c)) a j = mR M' a j := s2.2.1
            have hAR : AutR (wI Mg (P + 4) 3 (nI c)) P p := Or.inr ⟨hAg, Or.inr ⟨c, mI_e rfl rfl, s4, s5⟩⟩
            have hHld : ∀ cc x o, Hld M' cc x o → (∀ p', o = some p' → mR M' 1 cc = some P → p' = p) → Hld (wI Mg (P + 4) 3 (nI c)) cc x o := by
              intro cc x o hh hl
              cases o with
              | none => exact ⟨(vR _ _).trans hh.1, (vi _ _ (by omega)).trans hh.2⟩
              | some p' =>
                obtain ⟨d1, d2, d3, Q, d4, d5, d6, d7⟩ := hh
                obtain ⟨hQ1, hQ2⟩ := isP_le d4
                refine ⟨(vi _ _ (by omega)).trans d1, d2.cg (fun a _ _ => vi _ _ (by omega)) (fun a _ _ => vl _ _ (by omega)) (fun a i _ _ _ => vl _ _ (by omega)), d3, Q, d4, (vR _ _).trans d5, ?_, ?_⟩
                · by_cases hPQ : P = Q
                  · subst hPQ; exact d6.cg (fun a j q1 q2 => ⟨vi _ _ (by omega), vl _ _ (by omega)⟩)
                  · have := isP_dis h4 d4 hPQ
                    exact d6.cg (fun a j q1 q2 => ⟨vi _ _ (by omega), vl _ _ (by omega)⟩)
                · by_cases hPQ : P = Q
                  · subst hPQ
                    have := hl p' rfl d5
                    subst this
                    exact hAR
                  · have := isP_dis h4 d4 hPQ
                    exact d7.cg (fun a j q1 q2 => vi _ _ (by omega))
            have h56 : mR M' 1 6 = some P := (r3.2.1 _ _).trans h5
            exact ⟨Sta_eq k1 s2.1 vR, ⟨by unfold mN at k2 ⊢; show (Mg.1.getD 0 (99, 0)).2 = L; rw [s2.1]; exact k2, fun j => (vi _ _ (by omega)).trans (k2' j)⟩, ⟨k3.cg (vi _ _ (by omega)) (fun j => vi _ _ (by omega)), k3'.cg (vi _ _ (by omega)) (fun j => vi _ _ (by omega))⟩, ⟨k4.cg (vi _ _ (by omega)) (fun j => vi _ _ (by omega)), k4'.cg (vi _ _ (by omega)) (fun j => vi _ _ (by omega))⟩, by rw [vi _ _ (by omega), vi _ _ (by omega)]; exact k5, hHld _ _ _ k6 (fun p' e _ => by cases e; rfl), ⟨hHld _ _ _ k7 (fun p' e q => by have := k7' (q.trans h56.symm); rw [e] at this; cases this; rfl), fun q => k7' (by rw [vR, vR] at q; exact q)⟩, k8.cg (fun j => vi _ _ (by omega)) (fun a j _ _ => vi _ _ (by omega)), ⟨ks', s3.fr (fun a j _ _ => mI_n (by omega)) (fun j => rfl)⟩, k10.cg (vi _ _ (by omega)) (vi _ _ (by omega)) (fun j => vi _ _ (by omega)) (fun j => vi _ _ (by omega))⟩
          · unfold fX9_classes
            simp (disch := omega) only [q_eM, q_Me, q_Mlt, q_Mle, q_leM, q_ltM, q_le, q_nle, q_lt, q_nlt, q_neq, zin_nI, nI_clamp, nI_add, pk_mul, pk_sub, mI_e, mI_n, mL_e, mL_n, mR_e, mR_n, i0, i1, ↓reduceIte, ↓bI_t, ↓bI_f, Bool.false_eq_true, eq_self, chk_true, bnd_just, bnd2_just, app_t, beq_self_eq_true, mK_wI, mK_wL, mK_wR, mK_wIr, mK_wLr, mN_wI, mN_wL, mN_wR, mN_wIr, mN_wLr, mR_wI, mR_wL, mR_wIr, mR_wLr, mI_wL, mI_wR, mI_wLr, mL_wI, mL_wR, mL_wIr, ↓neg1, sk_1 hS, e1, bndT_l, r1, pK4 hS' h4, a1, hg, sk_1 hS', sk_35 hS', sr_1_2 hS', sr_1_3 hS', s1, pK4 hSg h4]
        · rcases r5 with q | ⟨c, q1, q2, q3⟩
          · exact absurd q hg
          · refine ⟨c, M', q2, q3, r2, r4, ?_⟩
            unfold fX9_classes
            simp (disch := omega) only [q_eM, q_Me, q_Mlt, q_Mle, q_leM, q_ltM, q_le, q_nle, q_lt, q_nlt, q_neq, zin_nI, nI_clamp, nI_add, pk_mul, pk_sub, mI_e, mI_n, mL_e, mL_n, mR_e, mR_n, i0, i1, ↓reduceIte, ↓bI_t, ↓bI_f, Bool.false_eq_true, eq_self, chk_true, bnd_just, bnd2_just, app_t, beq_self_eq_true, mK_wI, mK_wL, mK_wR, mK_wIr, mK_wLr, mN_wI, mN_wL, mN_wR, mN_wIr, mN_wLr, mR_wI, mR_wL, mR_wIr, mR_wLr, mI_wL, mI_wR, mI_wLr, mL_wI, mL_wR, mL_wIr, ↓neg1, sk_1 hS, e1, bndT_l, r1, pK4 hS' h4, a1, q1]
      obtain ⟨c, Mc, w1, w2, w3, w4, w5⟩ := hcls
      have hSc := w3.sta
      have hI1 := w3.scr (Scr.rf.out 0 (Int32.toInt64 (nI c)))
      obtain ⟨M3, t1, t2, t3, t4, t5, t6, t7⟩ := m_built hI1 N (by omega)
      have hS3 := t3.sta hI1.sta
      obtain ⟨b', c1, c2⟩ := t6.2
      have hbb := (way_eq r4.2.2.2.2.1 hk a2 c2).1
      rw [← hbb] at c1 c2
      have hAF : AutF M3 p (dl p) := ⟨t7, t6.1, fun s l hs hl => by
        have := dl_spec r4.2.2.2.2.1 c2 hs hl
        unfold wyM at this
        rw [show 10800 * 0 + 36 * s + l = 36 * s + l by omega] at this
        exact this⟩
      obtain ⟨M4, c', u1, u2, u3⟩ := m_count hS3 hAF N (by omega)
      have hcc := NCls_uniq w2 u3
      subst hcc
      refine ⟨0, nI c, wL Mc 102 0 (Int32.toInt64 (nI c)), M4, cs, ts, some p, ke, ?_, by omega, hI1.pre, ?_, (u2.2.2 68 (by omega) 0).1.trans t5, fun _ => ?_, hI1.scr (t3.tr ⟨u2.1, u2.2.1, fun a j q => u2.2.2 a (fun q2 => q (by unfold scr; omega)) j⟩)⟩
      · unfold fL_classes
        simp (disch := omega) only [q_eM, q_Me, q_Mlt, q_Mle, q_leM, q_ltM, q_le, q_nle, q_lt, q_nlt, q_neq, zin_nI, nI_clamp, nI_add, pk_mul, pk_sub, mI_e, mI_n, mL_e, mL_n, mR_e, mR_n, i0, i1, ↓reduceIte, ↓bI_t, ↓bI_f, Bool.false_eq_true, eq_self, chk_true, bnd_just, bnd2_just, app_t, beq_self_eq_true, mK_wI, mK_wL, mK_wR, mK_wIr, mK_wLr, mN_wI, mN_wL, mN_wR, mN_wIr, mN_wLr, mR_wI, mR_wL, mR_wIr, mR_wLr, mI_wL, mI_wR, mI_wLr, mL_wI, mL_wR, mL_wIr, sk_1 hS, w5, bndC_l, k102 hSc, n102 hSc]
      · show fX10_classes N (wL Mc 102 0 (Int32.toInt64 (nI c))) 68 = _
        unfold fX10_classes
        rw [t1]
        simp (disch := omega) only [q_eM, q_Me, q_Mlt, q_Mle, q_leM, q_ltM, q_le, q_nle, q_lt, q_nlt, q_neq, zin_nI, nI_clamp, nI_add, pk_mul, pk_sub, mI_e, mI_n, mL_e, mL_n, mR_e, mR_n, i0, i1, ↓reduceIte, ↓bI_t, ↓bI_f, Bool.false_eq_true, eq_self, chk_true, bnd_just, bnd2_just, app_t, beq_self_eq_true, mK_wI, mK_wL, mK_wR, mK_wIr, mK_wLr, mN_wI, mN_wL, mN_wR, mN_wIr, mN_wLr, mR_wI, mR_wL, mR_wIr, mR_wLr, mI_wL, mI_wR, mI_wLr, mL_wI, mL_wR, mL_wIr, sk_68 hSc, t2, sk_68 hS3, sk_93 hS3, sk_94 hS3, sn_93 hS3, sn_94 hS3, sr_68_32 hS3, sr_68_33 hS3, c1, t6.1.1]
        exact u1
      · rw [(u2.2.2 102 (by omega) 0).2, t4, mL_e rfl rfl]
end ZCALLS4
