/-! what the calls answer: read, keep -/
section ZREADC
theorem isP_dis {P Q : Nat} (hP : isP P) (hQ : isP Q) (h : P ≠ Q) : P + 7 ≤ Q ∨ Q + 7 ≤ P := by
  rcases hP with rfl | rfl | rfl <;> rcases hQ with rfl | rfl | rfl <;> omega
theorem SR16 : ∀ q ∈ SR, ¬ (q.1 = 1 ∧ q.2.1 = 6) := by decide
theorem SR17 : ∀ q ∈ SR, ¬ (q.1 = 1 ∧ q.2.1 = 7) := by decide
theorem Sta_w16 {M : zM} (h : Sta M) (v : Option Nat) : Sta (wR M 1 6 v) := ⟨h.1, fun q hq => by rw [mR_wR, if_neg (SR16 q hq)]; exact h.2 q hq⟩
theorem Sta_w17 {M : zM} (h : Sta M) (v : Option Nat) : Sta (wR M 1 7 v) := ⟨h.1, fun q hq => by rw [mR_wR, if_neg (SR17 q hq)]; exact h.2 q hq⟩
theorem Sta_qf {P : Nat} {M M' : zM} (h : zQF P M M') (hs : Sta M) : Sta M' := ⟨by rw [h.1]; exact hs.1, fun q hq => (h.2.1 _ _ (SR42 q hq)).trans (hs.2 q hq)⟩
theorem PtOK_pat {A : LA} (h : zWf A) : PtOK (patA A) := by
  have h2 := Wf_Or (Wf_J h)
  unfold patA
  rcases hA : aOr (aJ A) with ⟨k, se, fo, d, ro, ch, cb, hp, pt, pb⟩
  rw [hA] at h2
  obtain ⟨a1, a2, a3, a4, a5, a6⟩ := h2
  exact ⟨a1, (a4 0 (by omega)).2.2.1.mo (by omega) (Nat.le_refl _), a3⟩
theorem b_read {xs : Nat → Int32} {L : Nat} {M : zM} {cs ts : List Nat} {cu ke : Option zPt} (h : zInv xs L M cs ts cu ke) (N : Nat) (hN : 1100 ≤ N) : BothN xs L (fX9_read N M 1) (fun M1 => fX10_read N M1 68) := by
  have hS := h.sta
  obtain ⟨k1, ⟨k2, k2'⟩, ⟨k3, k3'⟩, ⟨k4, k4'⟩, k5, k6, ⟨k7, k7'⟩, k8, ⟨ks, k9⟩, k10⟩ := h
  obtain ⟨n4, rfl⟩ : ∃ n4, N = n4 + 4 := ⟨N - 4, by omega⟩
  obtain ⟨P, hP, hPc, hPk, e1⟩ := c_free hS n4
  obtain ⟨hP1, hP2⟩ := isP_le hP
  obtain ⟨M', r1, r2, r3, r4, r5, r6⟩ := c_layOut hP hS k3 (n4 + 4) (by omega)
  have hS' := Sta_qf r2 hS
  have q2 : ∀ a j, ¬ (a = 2 ∨ (4 ≤ a ∧ a ≤ 26) ∨ (P ≤ a ∧ a ≤ P + 4)) → mI M' a j = mI M a j ∧ mL M' a j = mL M a j := r2.2.2
  have hm1 : ∀ a, mN M' a = mN M a := fun a => by unfold mN; rw [r2.1]
  have hhP : ∀ (c : Nat) (M2 : zM), mR M 1 c ≠ some P → (∀ a j, a < 68 → ¬ (a = 2 ∨ (4 ≤ a ∧ a ≤ 26) ∨ (P ≤ a ∧ a ≤ P + 4) ∨ a = 27) → mI M2 a j = mI M a j ∧ mL M2 a j = mL M a j) → ∀ Q, isP Q → mR M 1 c = some Q → ∀ a j, Q ≤ a → a ≤ Q + 6 → mI M2 a j = mI M a j ∧ mL M2 a j = mL M a j := fun c M2 hne hal Q hQ hcQ a j h1 h2 => by
    have hPQ : P ≠ Q := fun q => hne (by rw [hcQ, q])
    have := isP_dis hP hQ hPQ
    have := isP_le hQ
    exact hal a j (by omega) (by omega)
  by_cases hf : (pRun cs 0 (okS A0)).2.2.2.1 = 0
  · obtain ⟨c1, c2⟩ := r6 hf
    rw [hf] at r1
    obtain ⟨M1, hM1⟩ : ∃ M1, M1 = wI (wR M' 1 6 (some P)) 27 5 (nI 0) := ⟨_, rfl⟩
    have hS1 : Sta M1 := by rw [hM1]; exact Sta_of (Sta_w16 hS' (some P)) rfl rfl
    have hI1 : ∀ a j, ¬ (a = 27 ∧ j = 5) → mI M1 a j = mI M' a j := fun a j q => by rw [hM1, mI_n q]; rfl
    have hL1 : ∀ a j, mL M1 a j = mL M' a j := fun a j => by rw [hM1]; rfl
    have hTM1 : TypM M1 cs := k3'.cg ((hI1 _ _ (by omega)).trans (q2 _ _ (by omega)).1) (fun j => (hI1 _ _ (by omega)).trans (q2 _ _ (by omega)).1)
    rcases m_read hS1 hTM1 (n4 + 4) (by omega) with ⟨A', t1, t2, t3, M2, u1, u2, u3, u4, u5, u6⟩ | ⟨f, q, t1, t2, t3, -⟩
    · have hA : (pRun cs 0 (okS A0)).1 = A' := by rw [t1]; rfl
      rw [hA] at c2
      have hS2 : Sta M2 := Sta_eq hS1 u2.1 u2.2.1
      have v2 : ∀ a j, ¬ ((a = 68 ∧ (j = 0 ∨ j = 2 ∨ j = 5 ∨ j = 13 ∨ j = 14 ∨ j = 28 ∨ j = 29)) ∨ (71 ≤ a ∧ a ≤ 75 ∧ j ≠ 1) ∨ ((a = 76 ∨ a = 77) ∧ (j < 60 ∨ 120 ≤ j)) ∨ (78 ≤ a ∧ a ≤ 90)) → mI M2 a j = mI M1 a j ∧ mL M2 a j = mL M1 a j := u2.2.2
      have hal : ∀ a j, a < 68 → ¬ (a = 2 ∨ (4 ≤ a ∧ a ≤ 26) ∨ (P ≤ a ∧ a ≤ P + 4) ∨ a = 27) → mI M2 a j = mI M a j ∧ mL M2 a j = mL M a j := fun a j h1 h2 => by
        obtain ⟨d1, d2⟩ := v2 a j (by omega)
        obtain ⟨d3, d4⟩ := q2 a j (by omega)
        exact ⟨d1.trans ((hI1 a j (by omega)).trans d3), d2.trans ((hL1 a j).trans d4)⟩
      have hlo : ∀ a j, a < 68 → ¬ (a = 27 ∧ j = 5) → mI M2 a j = mI M' a j ∧ mL M2 a j = mL M' a j := fun a j h1 h2 => ⟨(v2 a j (by omega)).1.trans (hI1 a j h2), (v2 a j (by omega)).2.trans (hL1 a j)⟩
      have hmo : ∀ a j, 68 < a → ¬ ((71 ≤ a ∧ a ≤ 75 ∧ j ≠ 1) ∨ ((a = 76 ∨ a = 77) ∧ (j < 60 ∨ 120 ≤ j)) ∨ (78 ≤ a ∧ a ≤ 90)) → mI M2 a j = mI M a j ∧ mL M2 a j = mL M a j := fun a j h1 h2 => by
        obtain ⟨d1, d2⟩ := v2 a j (by omega)
        obtain ⟨d3, d4⟩ := q2 a j (by omega)
        exact ⟨d1.trans ((hI1 a j (by omega)).trans d3), d2.trans ((hL1 a j).trans d4)⟩
      have hR2 : ∀ a j, mR M2 a j = mR M1 a j := u2.2.1
      have e6 : mR M2 1 6 = some P := by rw [hR2, hM1, mR_wI]; exact mR_e rfl rfl
      have e7 : mR M2 1 7 = mR M 1 7 := by
        rw [hR2, hM1]
        show mR (wR M' 1 6 (some P)) 1 7 = _
        rw [mR_n (by omega)]; exact r2.2.1 1 7 (by omega)
      have e68 : ∀ j, ¬ (j = 0 ∨ j = 2 ∨ j = 5 ∨ j = 13 ∨ j = 14 ∨ j = 28 ∨ j = 29) → mI M2 68 j = mI M 68 j := fun j hj => (v2 68 j (by omega)).1.trans ((hI1 68 j (by omega)).trans (q2 68 j (by omega)).1)
      refine ⟨nI 0, M1, M2, [], ts, some (patA A'), ke, ?_, hS1, u1, ?_⟩
      · unfold fX9_read fX8_forgetFinds
        rw [e1]
        have hSw := Sta_w16 hS' (some P)
        simp (disch := omega) only [q_eM, q_Me, q_Mlt, q_Mle, q_leM, q_ltM, q_le, q_nle, q_lt, q_nlt, q_neq, zin_nI, nI_clamp, nI_add, pk_mul, pk_sub, mI_e, mI_n, mL_e, mL_n, mR_e, mR_n, i0, i1, ↓reduceIte, ↓bI_t, ↓bI_f, Bool.false_eq_true, eq_self, chk_true, bnd_just, bnd2_just, app_t, beq_self_eq_true, mK_wI, mK_wL, mK_wR, mK_wIr, mK_wLr, mN_wI, mN_wL, mN_wR, mN_wIr, mN_wLr, mR_wI, mR_wL, mR_wIr, mR_wLr, mI_wL, mI_wR, mI_wLr, mL_wI, mL_wR, mL_wIr, sk_1 hS, sk_2 hS, sr_1_0 hS, r1, sk_1 hS', sk_27 hS', sr_1_1 hS']
        rw [hM1]
      · refine ⟨hS2, ⟨?_, fun j => (hal 0 j (by omega) (by omega)).1.trans (k2' j)⟩, ⟨⟨?_, by simp, fun i hi => by simp at hi, fun c hc => by simp at hc⟩, ⟨u4, by simp, fun i hi => by simp at hi, fun c hc => by simp at hc⟩⟩, ⟨k4.cg ?_ (fun j => (hal 30 j (by omega) (by omega)).1), k4'.cg (e68 4 (by omega)) (fun j => (hmo 70 j (by omega) (by omega)).1)⟩, ?_, ⟨u6.1, u6.2, PtOK_pat t2, P, hP, e6, ?_, Or.inl ?_⟩, ⟨?_, fun q => ?_⟩, ⟨false, ?_, fun q => by cases q⟩, ⟨ks, k9.fr (fun a j _ _ => (hal a j (by omega) (by omega)).1) (fun j => (hal 32 j (by omega) (by omega)).2)⟩, k10.cg (hal 38 0 (by omega) (by omega)).1 (e68 39 (by omega)) (fun j => (hal 39 j (by omega) (by omega)).1) (fun j => (hmo 99 j (by omega) (by omega)).1)⟩
        · have : mN M2 0 = mN M 0 := by unfold mN; rw [u2.1, hM1]; show (M'.1.getD 0 (99, 0)).2 = _; rw [r2.1]
          rw [this]; exact k2
        · rw [(hlo 2 0 (by omega) (by omega)).1]; exact r3
        · rw [(hlo 27 0 (by omega) (by omega)).1]; exact (q2 27 0 (by omega)).1
        · rw [(hlo 2 1 (by omega) (by omega)).1, c1, u5]
        · exact c2.cg (fun a j h1 h2 => hlo a j (by omega) (by omega))
        · rw [(hlo (P + 4) 0 (by omega) (by omega)).1]; exact r4
        · exact k7.cg e7 (fun a h1 h2 => (hmo a 1 (by omega) (by omega)).1) (fun a h1 h2 => (hmo a 1 (by omega) (by omega)).2) (fun a i h1 h2 hi => (hmo a _ (by omega) (by omega)).2) (hhP 7 M2 hPk hal)
        · rw [e7, e6] at q; exact absurd q hPk
        · rw [(v2 27 5 (by omega)).1, hM1, mI_e rfl rfl]; rfl
    · rw [t3] at hf; exact absurd hf t1
  · have hS1 := hS'
    have hTM1 : TypM M' cs := k3'.cg (q2 _ _ (by omega)).1 (fun j => (q2 _ _ (by omega)).1)
    rcases m_read hS1 hTM1 (n4 + 4) (by omega) with ⟨A', t1, -⟩ | ⟨f, q, t1, t2, t3, M2, u1, u2, u3, u4, u5⟩
    · rw [t1] at hf; exact absurd rfl hf
    · have ef : (pRun cs 0 (okS A0)).2.2.2.1 = f := by rw [t3]
      have ep : (pRun cs 0 (okS A0)).2.2.2.2 = q := by rw [t3]
      have c1 := r5 hf
      rw [ef] at r1
      rw [ep] at c1
      have hS2 : Sta M2 := Sta_eq hS' u2.1 u2.2.1
      have v2 : ∀ a j, ¬ ((a = 68 ∧ (j = 0 ∨ j = 2 ∨ j = 5 ∨ j = 13 ∨ j = 14 ∨ j = 28 ∨ j = 29)) ∨ ((a = 76 ∨ a = 77) ∧ 120 ≤ j) ∨ (78 ≤ a ∧ a ≤ 90)) → mI M2 a j = mI M' a j ∧ mL M2 a j = mL M' a j := u2.2.2
      have hall : ∀ a j, ¬ (a = 2 ∨ (4 ≤ a ∧ a ≤ 26) ∨ (P ≤ a ∧ a ≤ P + 4)) → ¬ ((a = 68 ∧ (j = 0 ∨ j = 2 ∨ j = 5 ∨ j = 13 ∨ j = 14 ∨ j = 28 ∨ j = 29)) ∨ ((a = 76 ∨ a = 77) ∧ 120 ≤ j) ∨ (78 ≤ a ∧ a ≤ 90)) → mI M2 a j = mI M a j ∧ mL M2 a j = mL M a j := fun a j h1 h2 => ⟨(v2 a j h2).1.trans (q2 a j h1).1, (v2 a j h2).2.trans (q2 a j h1).2⟩
      have hR2 : ∀ j, mR M2 1 j = mR M 1 j := fun j => (u2.2.1 1 j).trans (r2.2.1 1 j (by omega))
      have hal : ∀ a j, a < 68 → ¬ (a = 2 ∨ (4 ≤ a ∧ a ≤ 26) ∨ (P ≤ a ∧ a ≤ P + 4) ∨ a = 27) → mI M2 a j = mI M a j ∧ mL M2 a j = mL M a j := fun a j h1 h2 => hall a j (by omega) (by omega)
      refine ⟨nI f, M', M2, [], ts, cu, ke, ?_, hS', u1, ?_⟩
      · unfold fX9_read
        rw [e1]
        simp (disch := omega) only [q_eM, q_Me, q_Mlt, q_Mle, q_leM, q_ltM, q_le, q_nle, q_lt, q_nlt, q_neq, zin_nI, nI_clamp, nI_add, pk_mul, pk_sub, mI_e, mI_n, mL_e, mL_n, mR_e, mR_n, i0, i1, ↓reduceIte, ↓bI_t, ↓bI_f, Bool.false_eq_true, eq_self, chk_true, bnd_just, bnd2_just, app_t, beq_self_eq_true, mK_wI, mK_wL, mK_wR, mK_wIr, mK_wLr, mN_wI, mN_wL, mN_wR, mN_wIr, mN_wLr, mR_wI, mR_wL, mR_wIr, mR_wLr, mI_wL, mI_wR, mI_wLr, mL_wI, mL_wR, mL_wIr, sk_1 hS, sk_2 hS, sr_1_0 hS, r1]
      · refine ⟨hS2, ⟨?_, fun j => (hall 0 j (by omega) (by omega)).1.trans (k2' j)⟩, ⟨⟨?_, by simp, fun i hi => by simp at hi, fun c hc => by simp at hc⟩, ⟨u4, by simp, fun i hi => by simp at hi, fun c hc => by simp at hc⟩⟩, ⟨k4.cg (hall _ _ (by omega) (by omega)).1 (fun j => (hall _ _ (by omega) (by omega)).1), k4'.cg (hall _ _ (by omega) (by omega)).1 (fun j => (hall _ _ (by omega) (by omega)).1)⟩, ?_, ?_, ⟨?_, fun q => k7' (by rw [hR2, hR2] at q; exact q)⟩, k8.cg (fun j => (hall _ _ (by omega) (by omega)).1) (fun a j _ _ => (hall _ _ (by omega) (by omega)).1), ⟨ks, k9.fr (fun a j _ _ => (hall _ _ (by omega) (by omega)).1) (fun j => (hall _ _ (by omega) (by omega)).2)⟩, k10.cg (hall _ _ (by omega) (by omega)).1 (hall _ _ (by omega) (by omega)).1 (fun j => (hall _ _ (by omega) (by omega)).1) (fun j => (hall _ _ (by omega) (by omega)).1)⟩
        · have : mN M2 0 = mN M 0 := by unfold mN; rw [u2.1, r2.1]
          rw [this]; exact k2
        · rw [(v2 2 0 (by omega)).1]; exact r3
        · rw [(v2 2 1 (by omega)).1, c1, u5]
        · exact k6.cg (hR2 6) (fun a h1 h2 => (hall _ _ (by omega) (by omega)).1) (fun a h1 h2 => (hall _ _ (by omega) (by omega)).2) (fun a i h1 h2 hi => (hall _ _ (by omega) (by omega)).2) (hhP 6 M2 hPc hal)
        · exact k7.cg (hR2 7) (fun a h1 h2 => (hall _ _ (by omega) (by omega)).1) (fun a h1 h2 => (hall _ _ (by omega) (by omega)).2) (fun a i h1 h2 hi => (hall _ _ (by omega) (by omega)).2) (hhP 7 M2 hPk hal)
/-- calls that answer nothing but whether they throw -/
def BothK (xs : Nat → Int32) (L : Nat) (rC : Option (Int32 × zM)) (fM : zM → Option (Unit × zM)) : Prop := ∃ k M1 M2 cs ts cu ke, rC = some (nI k, M1) ∧ k < 10 ∧ Sta M1 ∧ fM M1 = some ((), M2) ∧ mI M2 68 0 = nI k ∧ zInv xs L M2 cs ts cu ke
theorem b_keep {xs : Nat → Int32} {L : Nat} {M : zM} {cs ts : List Nat} {cu ke : Option zPt} (h : zInv xs L M cs ts cu ke) (N : Nat) (hN : 100 ≤ N) : BothK xs L (fL_keep N M 1) (fun M1 => fX10_keep N M1 68) := by
  have hS := h.sta
  cases cu with
  | none =>
    have e1 := (c_the hS h.cu N).1 rfl
    refine ⟨1, M, wI M 68 0 (nI 1), cs, ts, none, ke, ?_, by omega, hS, ?_, mI_e rfl rfl, h.scr (Scr.rf.code _)⟩
    · unfold fL_keep fX9_keep
      simp only [chk_true, bnd_just, bnd2_just, app_t, beq_self_eq_true, mK_wI, mK_wL, mK_wR, mK_wIr, mK_wLr, mN_wI, mN_wL, mN_wR, mN_wIr, mN_wLr, mR_wI, mR_wL, mR_wIr, mR_wLr, mI_wL, mI_wR, mI_wLr, mL_wI, mL_wR, mL_wIr, sk_1 hS, e1, bndT_r, bndC_r, if_true, i1]
    · show fX10_keep N M 68 = _
      unfold fX10_keep
      rw [m_none hS h.cu]
      simp (disch := omega) only [q_eM, q_Me, q_Mlt, q_Mle, q_leM, q_ltM, q_le, q_nle, q_lt, q_nlt, q_neq, zin_nI, nI_clamp, nI_add, pk_mul, pk_sub, mI_e, mI_n, mL_e, mL_n, mR_e, mR_n, i0, i1, ↓reduceIte, ↓bI_t, ↓bI_f, Bool.false_eq_true, eq_self, chk_true, bnd_just, bnd2_just, app_t, beq_self_eq_true, mK_wI, mK_wL, mK_wR, mK_wIr, mK_wLr, mN_wI, mN_wL, mN_wR, mN_wIr, mN_wLr, mR_wI, mR_wL, mR_wIr, mR_wLr, mI_wL, mI_wR, mI_wLr, mL_wI, mL_wR, mL_wIr, sk_68 hS, Option.isNone_none]
  | some p =>
    have hcu := h.cu
    obtain ⟨h1, h2, h3, P, h4, h5, h6, h7⟩ := hcu
    have e1 := (c_the hS h.cu N).2 P h5
    have hS1 := Sta_w17 hS (some P)
    have hcu1 : Hld (wR M 1 7 (some P)) 6 0 (some p) := Hld.cg (M := M) ⟨h1, h2, h3, P, h4, h5, h6, h7⟩ (mR_n (by omega)) (fun a _ _ => rfl) (fun a _ _ => rfl) (fun a i _ _ _ => rfl) (fun Q hQ _ a j _ _ => ⟨rfl, rfl⟩)
    have hS2 : Sta (wI (wR M 1 7 (some P)) 68 0 (nI 0)) := hS1
    have hq2 : PatQ (wI (wR M 1 7 (some P)) 68 0 (nI 0)) 0 p := h2.cg (fun a _ _ => by rw [mI_n (by omega)]; rfl) (fun a _ _ => rfl) (fun a i _ _ _ => rfl)
    obtain ⟨M3, t1, t2, t3⟩ := m_copy (x := 0) (y := 1) (by omega) (by omega) (by omega) hS2 hq2 N (by omega)
    have vi : ∀ a j, ¬ (71 ≤ a ∧ a ≤ 73 ∧ j = 1) → ¬ (a = 68 ∧ j = 0) → mI M3 a j = mI M a j := fun a j q1 q2 => by rw [t2.2.2.1 a j q1, mI_n (by omega)]; rfl
    have vl : ∀ a j, ¬ ((a = 74 ∨ a = 75) ∧ j = 1) → ¬ ((a = 76 ∨ a = 77) ∧ 60 ≤ j ∧ j < 120) → mL M3 a j = mL M a j := fun a j q1 q2 => t2.2.2.2 a j (by omega) (by omega)
    have vR : ∀ a j, mR M3 a j = mR (wR M 1 7 (some P)) a j := fun a j => t2.2.1 a j
    have e6 : mR M3 1 6 = some P := by rw [vR, mR_n (by omega)]; exact h5
    have e7 : mR M3 1 7 = some P := by rw [vR, mR_e rfl rfl]
    obtain ⟨k1, ⟨k2, k2'⟩, ⟨k3, k3'⟩, ⟨k4, k4'⟩, k5, k6, ⟨k7, k7'⟩, k8, ⟨ks, k9⟩, k10⟩ := h
    have := isP_le h4
    have hPC : PatC M3 P p := h6.cg (fun a j q1 q2 => ⟨vi a j (by omega) (by omega), vl a j (by omega) (by omega)⟩)
    have hAR : AutR M3 P p := h7.cg (fun a j q1 q2 => vi a j (by omega) (by omega))
    refine ⟨0, wR M 1 7 (some P), M3, cs, ts, some p, some p, ?_, by omega, hS1, ?_, ?_, ?_⟩
    · unfold fL_keep fX9_keep
      simp only [chk_true, bnd_just, bnd2_just, app_t, beq_self_eq_true, mK_wI, mK_wL, mK_wR, mK_wIr, mK_wLr, mN_wI, mN_wL, mN_wR, mN_wIr, mN_wLr, mR_wI, mR_wL, mR_wIr, mR_wLr, mI_wL, mI_wR, mI_wLr, mL_wI, mL_wR, mL_wIr, sk_1 hS, e1, bndT_l, bndC_l, i0]
    · show fX10_keep N (wR M 1 7 (some P)) 68 = _
      unfold fX10_keep
      rw [m_none hS1 hcu1]
      simp (disch := omega) only [q_eM, q_Me, q_Mlt, q_Mle, q_leM, q_ltM, q_le, q_nle, q_lt, q_nlt, q_neq, zin_nI, nI_clamp, nI_add, pk_mul, pk_sub, mI_e, mI_n, mL_e, mL_n, mR_e, mR_n, i0, i1, ↓reduceIte, ↓bI_t, ↓bI_f, Bool.false_eq_true, eq_self, chk_true, bnd_just, bnd2_just, app_t, beq_self_eq_true, mK_wI, mK_wL, mK_wR, mK_wIr, mK_wLr, mN_wI, mN_wL, mN_wR, mN_wIr, mN_wLr, mR_wI, mR_wL, mR_wIr, mR_wLr, mI_wL, mI_wR, mI_wLr, mL_wI, mL_wR, mL_wIr, sk_68 hS1, Option.isNone_some, t1]
    · rw [t2.2.2.1 68 0 (by omega), mI_e rfl rfl]
    · refine ⟨Sta_eq hS1 t2.1 vR, ⟨?_, fun j => (vi _ _ (by omega) (by omega)).trans (k2' j)⟩, ⟨k3.cg (vi _ _ (by omega) (by omega)) (fun j => vi _ _ (by omega) (by omega)), k3'.cg (vi _ _ (by omega) (by omega)) (fun j => vi _ _ (by omega) (by omega))⟩, ⟨k4.cg (vi _ _ (by omega) (by omega)) (fun j => vi _ _ (by omega) (by omega)), k4'.cg (vi _ _ (by omega) (by omega)) (fun j => vi _ _ (by omega) (by omega))⟩, by rw [vi _ _ (by omega) (by omega), vi _ _ (by omega) (by omega)]; exact k5, ⟨(vi _ _ (by omega) (by omega)).trans h1, h2.cg (fun a _ _ => vi _ _ (by omega) (by omega)) (fun a _ _ => vl _ _ (by omega) (by omega)) (fun a i _ _ _ => vl _ _ (by omega) (by omega)), h3, P, h4, e6, hPC, hAR⟩, ⟨⟨t3.1, t3.2, h3, P, h4, e7, hPC, hAR⟩, fun _ => rfl⟩, k8.cg (fun j => vi _ _ (by omega) (by omega)) (fun a j _ _ => vi _ _ (by omega) (by omega)), ⟨ks, k9.fr (fun a j _ _ => vi _ _ (by omega) (by omega)) (fun j => vl _ _ (by omega) (by omega))⟩, k10.cg (vi _ _ (by omega) (by omega)) (vi _ _ (by omega) (by omega)) (fun j => vi _ _ (by omega) (by omega)) (fun j => vi _ _ (by omega) (by omega))⟩
      have : mN M3 0 = mN M 0 := by unfold mN; rw [t2.1]; rfl
      rw [this]; exact k2
end ZREADC
