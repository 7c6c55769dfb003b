/-! what the calls answer: differ -/
section ZDIFFER
theorem c_compare {P1 P2 n1 n2 : Nat} (hP1 : isP P1) (hP2 : isP P2) {δ1 δ2 : Nat → Nat → Nat} {g1 g2 : Nat → Bool} {M : zM} (hS : Sta M) (hA1 : AutD M P1 n1 δ1 g1) (hA2 : AutD M P2 n2 δ2 g2) (hb1 : mI M (P1 + 4) 1 = nI 0) (hb2 : mI M (P2 + 4) 1 = nI 0) (N : Nat) (hN : 3000 ≤ N) :
    ∃ M' r, fX1_compare N M 38 (P1 + 4) (P2 + 4) = some (r, M') ∧ CmF M M' ∧ CmpR δ1 δ2 g1 g2 M' r := by
  obtain ⟨p11, p12⟩ := isP_le hP1
  obtain ⟨p21, p22⟩ := isP_le hP2
  have hCw : CmF M (wI M 38 0 (nI 0)) := CmF.rf.w (by omega) _ _
  have hSw := hCw.sta hS
  obtain ⟨M1, F, r1, r2, r3, r4, r5⟩ := c_begin2 (δ1 := δ1) (δ2 := δ2) (g1 := g1) (g2 := g2) hSw N (by omega)
  have hS1 := r2.sta hSw
  have hA1' := (hCw.tr r2).aut hP1 hA1
  have hA2' := (hCw.tr r2).aut hP2 hA2
  have e1 := hA1'.2.2.2.1 0 (by have := hA1'.2.1; omega)
  have e2 := hA2'.2.2.2.1 0 (by have := hA2'.2.1; omega)
  have e0 : mI M1 38 0 = nI 0 := r3.trans (mI_e rfl rfl)
  have ec : fX1_compare N M 38 (P1 + 4) (P2 + 4) = if bI (g1 0) = bI (g2 0) then fX1_compare_45 N M1 38 (P1 + 4) (P2 + 4) (nI 0) else some (nI 0, M1) := by
    unfold fX1_compare
    simp (disch := omega) only [q_eM, q_Me, q_Mlt, q_Mle, q_leM, q_ltM, q_le, q_nle, q_lt, q_nlt, q_neq, zin_nI, nI_clamp, nI_add, pk_mul, pk_sub, mI_e, mI_n, mL_e, mL_n, mR_e, mR_n, i0, i1, ↓reduceIte, ↓bI_t, ↓bI_f, Bool.false_eq_true, eq_self, chk_true, bnd_just, bnd2_just, app_t, beq_self_eq_true, mK_wI, mK_wL, mK_wR, mK_wIr, mK_wLr, mN_wI, mN_wL, mN_wR, mN_wIr, mN_wLr, mR_wI, mR_wL, mR_wIr, mR_wLr, mI_wL, mI_wR, mI_wLr, mL_wI, mL_wR, mL_wIr, sk_38 hS, pK4 hS hP1, pK4 hS hP2, hb1, hb2, r1, pK4 hS1 hP1, pK4 hS1 hP2, pA4 hS1 hP1, pA4 hS1 hP2, pK5 hS1 hP1, pK5 hS1 hP2, pN5 hS1 hP1, pN5 hS1 hP2, e1, e2]
  rw [ec]
  by_cases hg : g1 0 = g2 0
  · rw [if_pos (by rw [hg])]
    obtain ⟨M', r, t1, t2, t3⟩ := c_cmp hP1 hP2 600 0 N M1 1 (fun _ => 0) F (by omega) (by omega) hS1 hA1' hA2' r4 (r5 hg) (fun k l' hk hl' hB => by omega) (fun _ k hk => by unfold ex; omega) (by omega) e0
    exact ⟨M', r, t1, (hCw.tr r2).tr t2, t3⟩
  · rw [if_neg (fun q => hg (bI_inj q))]
    refine ⟨M1, nI 0, rfl, hCw.tr r2, Or.inr ⟨0, ⟨hg, fun E hE => by omega⟩, rfl, by rw [wd_0]; simp, e0, fun j hj => by rw [wd_0] at hj; simp at hj⟩⟩
theorem c_beyond {P1 P2 : Nat} (hP1 : isP P1) (hP2 : isP P2) {b1 b2 : Bool} {M : zM} (hS : Sta M) (hb1 : mI M (P1 + 4) 1 = bI b1) (hb2 : mI M (P2 + 4) 1 = bI b2) (hb : b1 = true ∨ b2 = true) (N : Nat) : fX1_compare N M 38 (P1 + 4) (P2 + 4) = some (-2, wI M 38 0 (nI 0)) := by
  obtain ⟨p11, p12⟩ := isP_le hP1
  obtain ⟨p21, p22⟩ := isP_le hP2
  unfold fX1_compare
  cases b1 with
  | true => simp (disch := omega) only [q_eM, q_Me, q_Mlt, q_Mle, q_leM, q_ltM, q_le, q_nle, q_lt, q_nlt, q_neq, zin_nI, nI_clamp, nI_add, pk_mul, pk_sub, mI_e, mI_n, mL_e, mL_n, mR_e, mR_n, i0, i1, ↓reduceIte, ↓bI_t, ↓bI_f, Bool.false_eq_true, eq_self, chk_true, bnd_just, bnd2_just, app_t, beq_self_eq_true, mK_wI, mK_wL, mK_wR, mK_wIr, mK_wLr, mN_wI, mN_wL, mN_wR, mN_wIr, mN_wLr, mR_wI, mR_wL, mR_wIr, mR_wLr, mI_wL, mI_wR, mI_wLr, mL_wI, mL_wR, mL_wIr, sk_38 hS, pK4 hS hP1, pK4 hS hP2, hb1]
  | false =>
    cases b2 with
    | true => simp (disch := omega) only [q_eM, q_Me, q_Mlt, q_Mle, q_leM, q_ltM, q_le, q_nle, q_lt, q_nlt, q_neq, zin_nI, nI_clamp, nI_add, pk_mul, pk_sub, mI_e, mI_n, mL_e, mL_n, mR_e, mR_n, i0, i1, ↓reduceIte, ↓bI_t, ↓bI_f, Bool.false_eq_true, eq_self, chk_true, bnd_just, bnd2_just, app_t, beq_self_eq_true, mK_wI, mK_wL, mK_wR, mK_wIr, mK_wLr, mN_wI, mN_wL, mN_wR, mN_wIr, mN_wLr, mR_wI, mR_wL, mR_wIr, mR_wLr, mI_wL, mI_wR, mI_wLr, mL_wI, mL_wR, mL_wIr, sk_38 hS, pK4 hS hP1, pK4 hS hP2, hb1, hb2]
    | false => rcases hb with q | q <;> cases q
theorem FilW.cg {wy wy' : Nat → Nat → Int32} {p : zPt} {ks : List Int64} {s l : Nat} {b : Bool} (h : FilW wy p ks s l b) (e : ∀ s' l', Bf s l s' l' → wy' s' l' = wy s' l') : FilW wy' p ks s l b := by
  refine ⟨fun s' l' hB => by rw [e s' l' hB]; exact h.1 s' l' hB, ?_⟩
  rw [h.2]
  constructor
  · rintro ⟨s', l', hB, q⟩; exact ⟨s', l', hB, by rw [e s' l' hB]; exact q⟩
  · rintro ⟨s', l', hB, q⟩; exact ⟨s', l', hB, by rw [← e s' l' hB]; exact q⟩
theorem AutM.fr {M M' : zM} {x y : Nat} (hxy : x ≠ y) (hx : x < 2) (hy : y < 2) {p : zPt} (h : AutM M x p) (g : MBF y M M') : AutM M' x p := by
  obtain ⟨⟨h1, h2, h3, h4⟩, b, h5, h6⟩ := h
  refine ⟨⟨(g.2.2 _ _ (by omega)).1.trans h1, h2, h3, fun i hi => (g.2.2 _ _ (by omega)).2.trans (h4 i hi)⟩, b, (g.2.2 _ _ (by omega)).1.trans h5, h6.cg (fun s l hB => ?_)⟩
  have q1 := hB.1
  have q2 := hB.2
  unfold wyM
  exact (g.2.2 _ _ (by omega)).1
theorem zInv.wrd {xs : Nat → Int32} {L : Nat} {M M' : zM} {cs ts : List Nat} {cu ke : Option zPt} (h : zInv xs L M cs ts cu ke) (h1 : M'.1 = M.1) (hR : ∀ a j, mR M' a j = mR M a j) (hg : ∀ a j, ¬ ((a = 68 ∧ (j = 0 ∨ j = 39)) ∨ (91 ≤ a ∧ a ≤ 99) ∨ a = 102 ∨ (38 ≤ a ∧ a ≤ 45)) → mI M' a j = mI M a j ∧ mL M' a j = mL M a j) (hW : WrdR M') : zInv xs L M' cs ts cu ke := by
  obtain ⟨k1, ⟨k2, k2'⟩, ⟨k3, k3'⟩, ⟨k4, k4'⟩, k5, k6, ⟨k7, k7'⟩, k8, ⟨ks, k9⟩, k10⟩ := h
  have hh : ∀ c x o, Hld M c x o → Hld M' c x o := fun c x o q => q.cg (hR _ _) (fun a _ _ => (hg _ _ (by omega)).1) (fun a _ _ => (hg _ _ (by omega)).2) (fun a i _ _ _ => (hg _ _ (by omega)).2) (fun P hP _ a j _ _ => by have := isP_le hP; exact hg _ _ (by omega))
  exact ⟨Sta_eq k1 h1 hR, ⟨by unfold mN at k2 ⊢; rw [h1]; exact k2, fun j => (hg _ _ (by omega)).1.trans (k2' j)⟩, ⟨k3.cg (hg _ _ (by omega)).1 (fun j => (hg _ _ (by omega)).1), k3'.cg (hg _ _ (by omega)).1 (fun j => (hg _ _ (by omega)).1)⟩, ⟨k4.cg (hg _ _ (by omega)).1 (fun j => (hg _ _ (by omega)).1), k4'.cg (hg _ _ (by omega)).1 (fun j => (hg _ _ (by omega)).1)⟩, by rw [(hg _ _ (by omega)).1, (hg _ _ (by omega)).1]; exact k5, hh _ _ _ k6, ⟨hh _ _ _ k7, fun q => k7' (by rw [hR, hR] at q; exact q)⟩, k8.cg (fun j => (hg _ _ (by omega)).1) (fun a j _ _ => (hg _ _ (by omega)).1), ⟨ks, k9.fr (fun a j _ _ => (hg _ _ (by omega)).1) (fun j => (hg _ _ (by omega)).2)⟩, hW⟩
theorem b_differ {xs : Nat → Int32} {L : Nat} {M : zM} {cs ts : List Nat} {cu ke : Option zPt} (h : zInv xs L M cs ts cu ke) (N : Nat) (hN : 500000 ≤ N) : BothI xs L (fL_differ N M 1 102) (fun M1 => fX10_differ N M1 68) := by
  have hS := h.sta
  cases cu with
  | none =>
    have e1 := (c_the hS h.cu N).1 rfl
    refine ⟨1, 0, M, wI M 68 0 (nI 1), cs, ts, none, ke, ?_, by omega, h.pre, ?_, mI_e rfl rfl, fun q => by omega, h.scr (Scr.rf.code _)⟩
    · unfold fL_differ fX9_differ
      simp only [chk_true, bnd_just, bnd2_just, app_t, beq_self_eq_true, mK_wI, mK_wL, mK_wR, mK_wIr, mK_wLr, mN_wI, mN_wL, mN_wR, mN_wIr, mN_wLr, mR_wI, mR_wL, mR_wIr, mR_wLr, mI_wL, mI_wR, mI_wLr, mL_wI, mL_wR, mL_wIr, sk_1 hS, e1, bndT_r, bndC_r, if_true, i1]
    · show fX10_differ N M 68 = _
      unfold fX10_differ fX10_differ_23 fX10_differ_24
      simp (disch := omega) only [q_eM, q_Me, q_Mlt, q_Mle, q_leM, q_ltM, q_le, q_nle, q_lt, q_nlt, q_neq, zin_nI, nI_clamp, nI_add, pk_mul, pk_sub, mI_e, mI_n, mL_e, mL_n, mR_e, mR_n, i0, i1, ↓reduceIte, ↓bI_t, ↓bI_f, Bool.false_eq_true, eq_self, chk_true, bnd_just, bnd2_just, app_t, beq_self_eq_true, mK_wI, mK_wL, mK_wR, mK_wIr, mK_wLr, mN_wI, mN_wL, mN_wR, mN_wIr, mN_wLr, mR_wI, mR_wL, mR_wIr, mR_wLr, mI_wL, mI_wR, mI_wLr, mL_wI, mL_wR, mL_wIr, sk_68 hS, sk_71 hS, sn_71 hS, sr_68_6 hS, h.cu.2]
  | some p1 =>
    obtain ⟨P1, Ma, hP1, h15, e1, r1, r2, r3, r4, r5⟩ := aut_cu h N (by omega)
    have hSa := r2.sta
    have g71 := h.cu.1
    cases ke with
    | none =>
      have hk := h.2.2.2.2.2.2.1.1
      refine ⟨1, 0, M, wI M 68 0 (nI 1), cs, ts, some p1, none, ?_, by omega, h.pre, ?_, mI_e rfl rfl, fun q => by omega, h.scr (Scr.rf.code _)⟩
      · unfold fL_differ fX9_differ
        simp only [chk_true, bnd_just, bnd2_just, app_t, beq_self_eq_true, mK_wI, mK_wL, mK_wR, mK_wIr, mK_wLr, mN_wI, mN_wL, mN_wR, mN_wIr, mN_wLr, mR_wI, mR_wL, mR_wIr, mR_wLr, mI_wL, mI_wR, mI_wLr, mL_wI, mL_wR, mL_wIr, sk_1 hS, e1, bndT_l, hk.1, Option.isSome_none, Bool.false_eq_true, if_false, bndC_r, if_true, i1]
      · show fX10_differ N M 68 = _
        unfold fX10_differ fX10_differ_23 fX10_differ_24
        simp (disch := omega) only [q_eM, q_Me, q_Mlt, q_Mle, q_leM, q_ltM, q_le, q_nle, q_lt, q_nlt, q_neq, zin_nI, nI_clamp, nI_add, pk_mul, pk_sub, mI_e, mI_n, mL_e, mL_n, mR_e, mR_n, i0, i1, ↓reduceIte, ↓bI_t, ↓bI_f, Bool.false_eq_true, eq_self, chk_true, bnd_just, bnd2_just, app_t, beq_self_eq_true, mK_wI, mK_wL, mK_wR, mK_wIr, mK_wLr, mN_wI, mN_wL, mN_wR, mN_wIr, mN_wLr, mR_wI, mR_wL, mR_wIr, mR_wLr, mI_wL, mI_wR, mI_wLr, mL_wI, mL_wR, mL_wIr, sk_68 hS, sk_71 hS, sn_71 hS, sr_68_6 hS, g71, hk.2]
    | some p2 =>
      obtain ⟨d1, d2, d3, P2, hP2, d5, d6, d7⟩ := r2.2.2.2.2.2.2.1.1
      have h65 : mR Ma 1 6 = some P1 := (r3.2.1 _ _).trans h15
      have hlink := r2.2.2.2.2.2.2.1.2
      obtain ⟨Mb, s1, s2, s3, s4, s5⟩ := aut_of r2 hP2 d6 d7 (fun p' e q => by
        have := hlink (d5.trans q.symm)
        rw [e] at this
        cases this; rfl) (fun p' e _ => by cases e; rfl) N (by omega)
      have hSb := s2.sta
      obtain ⟨q11, q12⟩ := isP_le hP1
      obtain ⟨q21, q22⟩ := isP_le hP2
      have hA1 : AutC Mb P1 p1 := by
        by_cases hPP : P1 = P2
        · subst hPP
          have := hlink (d5.trans h65.symm)
          cases this
          exact s4
        · have := isP_dis hP1 hP2 hPP
          exact r4.cg (fun j _ => (s3.2.2 _ (by omega) _).1) (fun a j q1 q2 => (s3.2.2 _ (by omega) _).1)
      have hk1 := hA1.2.2.2.2.2
      have hk2 := s4.2.2.2.2.2
      have d5M : mR M 1 7 = some P2 := (r3.2.1 _ _).symm.trans d5
      -- the class up to the comparison
      have ecl : ∀ r Mc, fX1_compare N Mb 38 (P1 + 4) (P2 + 4) = some (r, Mc) → CmF Mb Mc → fL_differ N M 1 102 = some (nI 0, wL Mc 102 0 (Int32.toInt64 r)) := by
        intro r Mc hc hf
        have hSc := hf.sta hSb
        unfold fL_differ fX9_differ
        simp (disch := omega) only [q_eM, q_Me, q_Mlt, q_Mle, q_leM, q_ltM, q_le, q_nle, q_lt, q_nlt, q_neq, zin_nI, nI_clamp, nI_add, pk_mul, pk_sub, mI_e, mI_n, mL_e, mL_n, mR_e, mR_n, i0, i1, ↓reduceIte, ↓bI_t, ↓bI_f, Bool.false_eq_true, eq_self, chk_true, bnd_just, bnd2_just, app_t, beq_self_eq_true, mK_wI, mK_wL, mK_wR, mK_wIr, mK_wLr, mN_wI, mN_wL, mN_wR, mN_wIr, mN_wLr, mR_wI, mR_wL, mR_wIr, mR_wLr, mI_wL, mI_wR, mI_wLr, mL_wI, mL_wR, mL_wIr, sk_1 hS, sr_1_4 hS, e1, bndT_l, d5M, Option.isSome_some, r1, sk_1 hSa, d5, s1, sk_38 hSb, hc, bndC_l, k102 hSc, n102 hSc]
      -- the model up to its loop
      have model : ∀ M1, Scr Mb M1 ∨ True → zInv xs L M1 cs ts (some p1) (some p2) ∨ True → (Hld M1 6 0 (some p1) ∧ Hld M1 7 1 (some p2) ∧ Sta M1) → ∃ M4, AutM M4 0 p1 ∧ AutM M4 1 p2 ∧ PatQ M4 0 p1 ∧ PatQ M4 1 p2 ∧ Sta M4 ∧ mI M4 68 39 = nI 0 ∧ mI M4 68 0 = nI 0 ∧ M4.1 = M1.1 ∧ (∀ a j, mR M4 a j = mR M1 a j) ∧ (∀ a j, ¬ ((a = 68 ∧ (j = 0 ∨ j = 39)) ∨ (91 ≤ a ∧ a ≤ 94)) → mI M4 a j = mI M1 a j ∧ mL M4 a j = mL M1 a j) ∧ fX10_differ N M1 68 = (if mI M4 94 0 = nI 0 then (if mI M4 94 1 = nI 0 then fX10_differ_74 N M4 68 (nI 0) else some (-2, M4)) else some (-2, M4)) := by
        intro M1 _ _ ⟨hc1, hc2, hS1⟩
        have hS2 : Sta (wI M1 68 0 (nI 0)) := hS1
        have hq1 : PatQ (wI M1 68 0 (nI 0)) 0 p1 := hc1.2.1.cg (fun a _ _ => mI_n (by omega)) (fun a _ _ => rfl) (fun a i _ _ _ => rfl)
        have hq2 : PatQ (wI M1 68 0 (nI 0)) 1 p2 := hc2.2.1.cg (fun a _ _ => mI_n (by omega)) (fun a _ _ => rfl) (fun a i _ _ _ => rfl)
        obtain ⟨M3, t1, t2, t3⟩ := m_build (x := 0) (by omega) hc1.2.2.1 hS2 hq1 N (by omega)
        have hS3 := t2.sta hS2
        obtain ⟨M4, u1, u2, u3⟩ := m_build (x := 1) (by omega) hc2.2.2.1 hS3 (t2.pat hq2) N (by omega)
        have hS4 := u2.sta hS3
        have hA0 := AutM.fr (x := 0) (y := 1) (by omega) (by omega) (by omega) t3 u2
        have w39 : ∀ a j, ¬ (a = 68 ∧ j = 39) → mI (wI M4 68 39 (nI 0)) a j = mI M4 a j := fun a j q => mI_n (by omega)
        refine ⟨wI M4 68 39 (nI 0), ⟨hA0.1.fr (w39 _ _ (by omega)) (fun j => rfl), ?_⟩, ⟨u3.1.fr (w39 _ _ (by omega)) (fun j => rfl), ?_⟩, (u2.pat (t2.pat hq1)).cg (fun a _ _ => w39 _ _ (by omega)) (fun a _ _ => rfl) (fun a i _ _ _ => rfl), (u2.pat (t2.pat hq2)).cg (fun a _ _ => w39 _ _ (by omega)) (fun a _ _ => rfl) (fun a i _ _ _ => rfl), hS4, mI_e rfl rfl, ?_, ?_, fun a j => ?_, fun a j q => ⟨?_, ?_⟩, ?_⟩
        · obtain ⟨b, f1, f2⟩ := hA0.2
          exact ⟨b, (w39 _ _ (by omega)).trans f1, f2.cg (fun s l _ => w39 _ _ (by omega))⟩
        · obtain ⟨b, f1, f2⟩ := u3.2
          exact ⟨b, (w39 _ _ (by omega)).trans f1, f2.cg (fun s l _ => w39 _ _ (by omega))⟩
        · rw [w39 _ _ (by omega), (u2.2.2 68 0 (by omega)).1, (t2.2.2 68 0 (by omega)).1, mI_e rfl rfl]
        · show M4.1 = _
          rw [u2.1, t2.1]; rfl
        · show mR M4 a j = _
          rw [u2.2.1, t2.2.1]; rfl
        · rw [w39 _ _ (by omega), (u2.2.2 a j (by omega)).1, (t2.2.2 a j (by omega)).1, mI_n (by omega)]
        · show mL M4 a j = _
          rw [(u2.2.2 a j (by omega)).2, (t2.2.2 a j (by omega)).2]; rfl
        · unfold fX10_differ fX10_differ_24
          simp (disch := omega) only [q_eM, q_Me, q_Mlt, q_Mle, q_leM, q_ltM, q_le, q_nle, q_lt, q_nlt, q_neq, zin_nI, nI_clamp, nI_add, pk_mul, pk_sub, mI_e, mI_n, mL_e, mL_n, mR_e, mR_n, i0, i1, ↓reduceIte, ↓bI_t, ↓bI_f, Bool.false_eq_true, eq_self, chk_true, bnd_just, bnd2_just, app_t, beq_self_eq_true, mK_wI, mK_wL, mK_wR, mK_wIr, mK_wLr, mN_wI, mN_wL, mN_wR, mN_wIr, mN_wLr, mR_wI, mR_wL, mR_wIr, mR_wLr, mI_wL, mI_wR, mI_wLr, mL_wI, mL_wR, mL_wIr, sk_68 hS1, sk_71 hS1, sn_71 hS1, sr_68_6 hS1, hc1.1, hc2.1, t1, sk_68 hS3, u1, sk_68 hS4, sk_94 hS4, sn_94 hS4, sr_68_33 hS4]
      obtain ⟨b1, a11, a12⟩ := hA1.2.2.1
      obtain ⟨b2, a21, a22⟩ := s4.2.2.1
      -- from what the class leaves to what the model leaves
      have fin : ∀ r Mc, fX1_compare N Mb 38 (P1 + 4) (P2 + 4) = some (r, Mc) → CmF Mb Mc → (∀ M4, AutM M4 0 p1 → AutM M4 1 p2 → PatQ M4 0 p1 → PatQ M4 1 p2 → Sta M4 → mI M4 68 39 = nI 0 → ∃ M5, (if mI M4 94 0 = nI 0 then (if mI M4 94 1 = nI 0 then fX10_differ_74 N M4 68 (nI 0) else some (-2, M4)) else some (-2, M4)) = some (r, M5) ∧ zDF M4 M5 ∧ ∃ n, n ≤ 600 ∧ mI Mc 38 0 = nI n ∧ mI M5 68 39 = nI n ∧ ∀ i, i < n → mI Mc 39 i = mI M5 99 i) → BothI xs L (fL_differ N M 1 102) (fun M1 => fX10_differ N M1 68) := by
        intro r Mc hc hf hm'
        have hSc := hf.sta hSb
        have hf' : ∀ a j, ¬ (38 ≤ a ∧ a ≤ 45) → mI Mc a j = mI Mb a j ∧ mL Mc a j = mL Mb a j := fun a j q => hf.2.2 a q j
        have hh : ∀ c x o, Hld Mb c x o → Hld (wL Mc 102 0 (Int32.toInt64 r)) c x o := fun c x o q => q.cg (hf.2.1 _ _) (fun a _ _ => (hf' _ _ (by omega)).1) (fun a _ _ => by rw [mL_n (by omega)]; exact (hf' _ _ (by omega)).2) (fun a i _ _ _ => by rw [mL_n (by omega)]; exact (hf' _ _ (by omega)).2) (fun P hP _ a j _ _ => by have := isP_le hP; rw [mL_n (by omega)]; exact hf' _ _ (by omega))
        have hS1 : Sta (wL Mc 102 0 (Int32.toInt64 r)) := hSc
        obtain ⟨M4, m1, m2, m3, m4, m5, m6, m7, m8, m9, m10, m11⟩ := model (wL Mc 102 0 (Int32.toInt64 r)) (Or.inr trivial) (Or.inr trivial) ⟨hh _ _ _ s2.cu, hh _ _ _ s2.2.2.2.2.2.2.1.1, hS1⟩
        obtain ⟨M5, v1, v2, n, v3, v4, v5, v6⟩ := hm' M4 m1 m2 m3 m4 m5 m6
        have all5 : ∀ a j, ¬ ((a = 68 ∧ (j = 0 ∨ j = 39)) ∨ (91 ≤ a ∧ a ≤ 99)) → mI M5 a j = mI Mc a j ∧ mL M5 a j = mL (wL Mc 102 0 (Int32.toInt64 r)) a j := fun a j q => ⟨(v2.2.2 a j (by omega)).1.trans (m10 a j (by omega)).1, (v2.2.2 a j (by omega)).2.trans (m10 a j (by omega)).2⟩
        refine ⟨0, r, wL Mc 102 0 (Int32.toInt64 r), M5, cs, ts, some p1, some p2, ecl r Mc hc hf, by omega, ⟨hS1, ?_, fun j => ?_⟩, m11.trans v1, (v2.2.2 68 0 (by omega)).1.trans m7, fun _ => ?_, ?_⟩
        · have := s2.2.1.1
          unfold mN at this ⊢
          show (Mc.1.getD 0 (99, 0)).2 = L
          rw [hf.1]; exact this
        · show mI Mc 0 j = _
          rw [(hf' 0 j (by omega)).1]; exact s2.2.1.2 j
        · rw [(all5 102 0 (by omega)).2, mL_e rfl rfl]
        · refine zInv.wrd s2 ?_ (fun a j => ?_) (fun a j q => ?_) ⟨n, v3, ?_, v5, fun i hi => ?_⟩
          · rw [v2.1, m8]; exact hf.1
          · rw [v2.2.1, m9]; exact hf.2.1 a j
          · obtain ⟨z1, z2⟩ := all5 a j (by omega)
            rw [mL_n (by omega)] at z2
            exact ⟨z1.trans (hf' a j (by omega)).1, z2.trans (hf' a j (by omega)).2⟩
          · rw [(all5 38 0 (by omega)).1]; exact v4
          · rw [(all5 39 i (by omega)).1]; exact v6 i hi
      by_cases hb : b1 = true ∨ b2 = true
      · refine fin (-2) _ (c_beyond hP1 hP2 hSb a11 a21 hb N) (CmF.rf.w (by omega) _ _) (fun M4 x1 x2 x3 x4 x5 x6 => ⟨M4, ?_, zDF.rf, 0, by omega, mI_e rfl rfl, x6, fun i hi => by omega⟩)
        obtain ⟨c1, y1, y2⟩ := x1.2
        obtain ⟨c2, y3, y4⟩ := x2.2
        have hc1 := (way_eq hA1.2.2.2.2.1 hk1 a12 y2).1
        have hc2 := (way_eq s4.2.2.2.2.1 hk2 a22 y4).1
        rw [← hc1] at y1
        rw [← hc2] at y3
        rw [y1, y3]
        cases b1 with
        | true => rw [if_neg (by decide)]
        | false =>
          cases b2 with
          | true => rw [if_pos (by decide), if_neg (by decide)]
          | false => rcases hb with q | q <;> cases q
      · have hb1 : b1 = false := by cases b1 <;> simp_all
        have hb2 : b2 = false := by cases b2 <;> simp_all
        subst hb1
        subst hb2
        have hD1 := hA1.d (by rw [a11]; rfl)
        have hD2 := s4.d (by rw [a21]; rfl)
        obtain ⟨Mc, r, w1, w2, w3⟩ := c_compare hP1 hP2 hSb hD1 hD2 (by rw [a11]; rfl) (by rw [a21]; rfl) N (by omega)
        refine fin r Mc w1 w2 (fun M4 x1 x2 x3 x4 x5 x6 => ?_)
        obtain ⟨c1, y1, y2⟩ := x1.2
        obtain ⟨c2, y3, y4⟩ := x2.2
        have hc1 := (way_eq hA1.2.2.2.2.1 hk1 a12 y2).1
        have hc2 := (way_eq s4.2.2.2.2.1 hk2 a22 y4).1
        subst hc1
        subst hc2
        have hG : AutG M4 p1 p2 (dl p1) (dl p2) := ⟨x3, x4, x1.1, x2.1, fun s l hs hl => by
          have := dl_spec hA1.2.2.2.2.1 y2 hs hl
          unfold wyM at this
          rw [show 10800 * 0 + 36 * s + l = 36 * s + l by omega] at this
          exact this, fun s l hs hl => by
          have := dl_spec s4.2.2.2.2.1 y4 hs hl
          unfold wyM at this
          rw [show 10800 * 1 + 36 * s + l = 10800 + 36 * s + l by omega] at this
          exact this⟩
        obtain ⟨M5, r', z1, z2, z3⟩ := m_differ74 x5 hG x6 N (by omega)
        have hrr : r' = r ∧ ∃ n, n ≤ 600 ∧ mI Mc 38 0 = nI n ∧ mI M5 68 39 = nI n ∧ ∀ i, i < n → mI Mc 39 i = mI M5 99 i := by
          rcases w3 with ⟨f1, f2, f3⟩ | ⟨D, f1, f2, f3, f4, f5⟩
          · rcases z3 with ⟨k1, k2, k3⟩ | ⟨E, k1, k2, k3, k4⟩
            · exact ⟨k1.trans f1.symm, 0, by omega, f2, k2, fun i hi => by omega⟩
            · exact absurd k1.1 (f3 E)
          · rcases z3 with ⟨k1, k2, k3⟩ | ⟨E, k1, k2, k3, k4⟩
            · exact absurd f1.1 (k3 D)
            · have := Lst_uniq f1 k1
              subst this
              exact ⟨k2.trans f2.symm, (wd D).length, f3, f4, k3, fun i hi => (f5 i hi).trans (k4 i hi).symm⟩
        obtain ⟨hr, hn⟩ := hrr
        refine ⟨M5, ?_, z2, hn⟩
        rw [y1, y3, if_pos (by decide), if_pos (by decide), z1, hr]
end ZDIFFER
