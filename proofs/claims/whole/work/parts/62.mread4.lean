/-! the model reads: suffixes, one thing, all of it -/
section ZMREAD4
theorem m_s63 {M : zM} (hS : Sta M) {d : Nat} (hd : d ≤ 8) {b : Bool} (h : mI M 83 d = bI b) {c : Nat} (hc : c < 256) (N : Nat) : fX10_suffix_63 N M 68 (nI c) (nI d) = some ((), wI M 83 d (bI (b || decide (c ≠ 43)))) := by
  unfold fX10_suffix_63 fX10_suffix_83 fX10_suffix_88
  cases b with
  | true => simp (disch := omega) only [q_eM, q_Me, q_Mlt, q_Mle, q_leM, q_ltM, q_le, q_nle, q_lt, q_nlt, q_neq, zin_nI, nI_clamp, nI_add, pk_mul, pk_sub, mI_e, mI_n, mL_e, mL_n, mR_e, mR_n, i0, i1, ↓reduceIte, ↓bI_t, ↓bI_f, Bool.false_eq_true, eq_self, chk_true, bnd_just, bnd2_just, app_t, beq_self_eq_true, mK_wI, mK_wL, mK_wR, mK_wIr, mK_wLr, mN_wI, mN_wL, mN_wR, mN_wIr, mN_wLr, mR_wI, mR_wL, mR_wIr, mR_wLr, mI_wL, mI_wR, mI_wLr, mL_wI, mL_wR, mL_wIr, ↓neg1, il_2, il_3, il_4, il_5, il_6, il_7, il_8, il_9, il_26, il_35, il_36, il_40, il_41, il_42, il_43, il_44, il_45, il_46, il_48, il_57, il_60, il_63, il_91, il_93, il_94, il_97, il_120, il_122, il_123, il_124, il_125, il_200, il_255, il_300, il_600, il_1023, il_1024, il_10800, sk_68 hS, sk_83 hS, sn_83 hS, sr_68_20 hS, h, nar1, Bool.true_or]
  | false =>
    by_cases h43 : c = 43
    · subst h43
      simp (disch := omega) only [q_eM, q_Me, q_Mlt, q_Mle, q_leM, q_ltM, q_le, q_nle, q_lt, q_nlt, q_neq, zin_nI, nI_clamp, nI_add, pk_mul, pk_sub, mI_e, mI_n, mL_e, mL_n, mR_e, mR_n, i0, i1, ↓reduceIte, ↓bI_t, ↓bI_f, Bool.false_eq_true, eq_self, chk_true, bnd_just, bnd2_just, app_t, beq_self_eq_true, mK_wI, mK_wL, mK_wR, mK_wIr, mK_wLr, mN_wI, mN_wL, mN_wR, mN_wIr, mN_wLr, mR_wI, mR_wL, mR_wIr, mR_wLr, mI_wL, mI_wR, mI_wLr, mL_wI, mL_wR, mL_wIr, ↓neg1, il_2, il_3, il_4, il_5, il_6, il_7, il_8, il_9, il_26, il_35, il_36, il_40, il_41, il_42, il_43, il_44, il_45, il_46, il_48, il_57, il_60, il_63, il_91, il_93, il_94, il_97, il_120, il_122, il_123, il_124, il_125, il_200, il_255, il_300, il_600, il_1023, il_1024, il_10800, sk_68 hS, sk_83 hS, sn_83 hS, sr_68_20 hS, h, nar0, ne_eq, not_true_eq_false, decide_false, Bool.or_false]
    · simp (disch := omega) only [q_eM, q_Me, q_Mlt, q_Mle, q_leM, q_ltM, q_le, q_nle, q_lt, q_nlt, q_neq, zin_nI, nI_clamp, nI_add, pk_mul, pk_sub, mI_e, mI_n, mL_e, mL_n, mR_e, mR_n, i0, i1, ↓reduceIte, ↓bI_t, ↓bI_f, Bool.false_eq_true, eq_self, chk_true, bnd_just, bnd2_just, app_t, beq_self_eq_true, mK_wI, mK_wL, mK_wR, mK_wIr, mK_wLr, mN_wI, mN_wL, mN_wR, mN_wIr, mN_wLr, mR_wI, mR_wL, mR_wIr, mR_wLr, mI_wL, mI_wR, mI_wLr, mL_wI, mL_wR, mL_wIr, ↓neg1, il_2, il_3, il_4, il_5, il_6, il_7, il_8, il_9, il_26, il_35, il_36, il_40, il_41, il_42, il_43, il_44, il_45, il_46, il_48, il_57, il_60, il_63, il_91, il_93, il_94, il_97, il_120, il_122, il_123, il_124, il_125, il_200, il_255, il_300, il_600, il_1023, il_1024, il_10800, sk_68 hS, sk_83 hS, sn_83 hS, sr_68_20 hS, h, nar1, ne_eq, h43, not_false_eq_true, decide_true, Bool.or_true]
theorem LayM.none {M : zM} {k : Nat} {se fo : Nat → Int64} {d : Nat} {ro ch : Nat → Pc} {cb : Nat → Nat} {pt : Pc} {pb : Nat} (h : LayM M (k, se, fo, d, ro, ch, cb, true, pt, pb)) (b : Bool) : LayM (wI M 83 d (bI b)) (k, se, fo, d, ro, ch, cb, true, (b, pt.2), pb) := by
  obtain ⟨h1, h2, h3, h4, h5⟩ := h
  obtain ⟨⟨q1, q2, q3⟩, q4⟩ := h5 rfl
  refine ⟨h1.fr (by simp (disch := omega) only [q_eM, q_Me, q_Mlt, q_Mle, q_leM, q_ltM, q_le, q_nle, q_lt, q_nlt, q_neq, zin_nI, nI_clamp, nI_add, pk_mul, pk_sub, mI_e, mI_n, mL_e, mL_n, mR_e, mR_n, i0, i1, ↓reduceIte, ↓bI_t, ↓bI_f, Bool.false_eq_true, eq_self, chk_true, bnd_just, bnd2_just, app_t, beq_self_eq_true, mK_wI, mK_wL, mK_wR, mK_wIr, mK_wLr, mN_wI, mN_wL, mN_wR, mN_wIr, mN_wLr, mR_wI, mR_wL, mR_wIr, mR_wLr, mI_wL, mI_wR, mI_wLr, mL_wI, mL_wR, mL_wIr]) (fun a j _ _ => by simp (disch := omega) only [q_eM, q_Me, q_Mlt, q_Mle, q_leM, q_ltM, q_le, q_nle, q_lt, q_nlt, q_neq, zin_nI, nI_clamp, nI_add, pk_mul, pk_sub, mI_e, mI_n, mL_e, mL_n, mR_e, mR_n, i0, i1, ↓reduceIte, ↓bI_t, ↓bI_f, Bool.false_eq_true, eq_self, chk_true, bnd_just, bnd2_just, app_t, beq_self_eq_true, mK_wI, mK_wL, mK_wR, mK_wIr, mK_wLr, mN_wI, mN_wL, mN_wR, mN_wIr, mN_wLr, mR_wI, mR_wL, mR_wIr, mR_wLr, mI_wL, mI_wR, mI_wLr, mL_wI, mL_wR, mL_wIr]), by simp (disch := omega) only [q_eM, q_Me, q_Mlt, q_Mle, q_leM, q_ltM, q_le, q_nle, q_lt, q_nlt, q_neq, zin_nI, nI_clamp, nI_add, pk_mul, pk_sub, mI_e, mI_n, mL_e, mL_n, mR_e, mR_n, i0, i1, ↓reduceIte, ↓bI_t, ↓bI_f, Bool.false_eq_true, eq_self, chk_true, bnd_just, bnd2_just, app_t, beq_self_eq_true, mK_wI, mK_wL, mK_wR, mK_wIr, mK_wLr, mN_wI, mN_wL, mN_wR, mN_wIr, mN_wLr, mR_wI, mR_wL, mR_wIr, mR_wLr, mI_wL, mI_wR, mI_wLr, mL_wI, mL_wR, mL_wIr, h2], ⟨h3.1, fun e he => ?_⟩, by simp (disch := omega) only [q_eM, q_Me, q_Mlt, q_Mle, q_leM, q_ltM, q_le, q_nle, q_lt, q_nlt, q_neq, zin_nI, nI_clamp, nI_add, pk_mul, pk_sub, mI_e, mI_n, mL_e, mL_n, mR_e, mR_n, i0, i1, ↓reduceIte, ↓bI_t, ↓bI_f, Bool.false_eq_true, eq_self, chk_true, bnd_just, bnd2_just, app_t, beq_self_eq_true, mK_wI, mK_wL, mK_wR, mK_wIr, mK_wLr, mN_wI, mN_wL, mN_wR, mN_wIr, mN_wLr, mR_wI, mR_wL, mR_wIr, mR_wLr, mI_wL, mI_wR, mI_wLr, mL_wI, mL_wR, mL_wIr, h4], fun _ => ⟨⟨?_, ?_, ?_⟩, ?_⟩⟩
  · obtain ⟨⟨a1, a2, a3⟩, ⟨b1, b2, b3⟩, b4⟩ := h3.2 e he
    refine ⟨⟨?_, ?_, ?_⟩, ⟨?_, ?_, ?_⟩, ?_⟩ <;> simp (disch := omega) only [q_eM, q_Me, q_Mlt, q_Mle, q_leM, q_ltM, q_le, q_nle, q_lt, q_nlt, q_neq, zin_nI, nI_clamp, nI_add, pk_mul, pk_sub, mI_e, mI_n, mL_e, mL_n, mR_e, mR_n, i0, i1, ↓reduceIte, ↓bI_t, ↓bI_f, Bool.false_eq_true, eq_self, chk_true, bnd_just, bnd2_just, app_t, beq_self_eq_true, mK_wI, mK_wL, mK_wR, mK_wIr, mK_wLr, mN_wI, mN_wL, mN_wR, mN_wIr, mN_wLr, mR_wI, mR_wL, mR_wIr, mR_wLr, mI_wL, mI_wR, mI_wLr, mL_wI, mL_wR, mL_wIr, a1, a2, a3, b1, b2, b3, b4]
  all_goals simp (disch := omega) only [q_eM, q_Me, q_Mlt, q_Mle, q_leM, q_ltM, q_le, q_nle, q_lt, q_nlt, q_neq, zin_nI, nI_clamp, nI_add, pk_mul, pk_sub, mI_e, mI_n, mL_e, mL_n, mR_e, mR_n, i0, i1, ↓reduceIte, ↓bI_t, ↓bI_f, Bool.false_eq_true, eq_self, chk_true, bnd_just, bnd2_just, app_t, beq_self_eq_true, mK_wI, mK_wL, mK_wR, mK_wIr, mK_wLr, mN_wI, mN_wL, mN_wR, mN_wIr, mN_wLr, mR_wI, mR_wL, mR_wIr, mR_wLr, mI_wL, mI_wR, mI_wLr, mL_wI, mL_wR, mL_wIr, q2, q3, q4]
theorem LayM.lk {M M' : zM} {k : Nat} {se fo fo' : Nat → Int64} {d : Nat} {ro ch : Nat → Pc} {cb : Nat → Nat} {hp : Bool} {pt : Pc} {pb : Nat} (h : LayM M (k, se, fo, d, ro, ch, cb, hp, pt, pb)) (g : LK M M') (hp' : PatN M' k se fo') : LayM M' (k, se, fo', d, ro, ch, cb, hp, pt, pb) := by
  obtain ⟨h1, h2, h3, h4, h5⟩ := h
  have hi := g.2.2.1
  have hl : ∀ a j, a ≠ 76 → mL M' a j = mL M a j := fun a j q => g.2.2.2 a j (by omega)
  refine ⟨hp', (hi _ _).trans h2, ⟨h3.1, fun e he => ?_⟩, (hi _ _).trans h4, fun q => ?_⟩
  · obtain ⟨⟨a1, a2, a3⟩, ⟨b1, b2, b3⟩, b4⟩ := h3.2 e he
    exact ⟨⟨(hi _ _).trans a1, (hl _ _ (by omega)).trans a2, (hl _ _ (by omega)).trans a3⟩, ⟨(hi _ _).trans b1, (hl _ _ (by omega)).trans b2, (hl _ _ (by omega)).trans b3⟩, (hi _ _).trans b4⟩
  · obtain ⟨⟨q1, q2, q3⟩, q4⟩ := h5 q
    exact ⟨⟨(hi _ _).trans q1, (hl _ _ (by omega)).trans q2, (hl _ _ (by omega)).trans q3⟩, (hi _ _).trans q4⟩
/-- a fault on the way -/
theorem out_bad {M : zM} {cs : List Nat} {p0 p : Nat} {A : LA} {f q : Nat} (hf : f ≠ 0) (hf2 : f < 10) : zOut (wI (wI M 68 29 (nI f)) 68 5 (nI q)) cs p0 (pRun (cs.drop p) p (zbad A f q)) :=
  Or.inr ⟨f, q, ⟨hf, hf2, by simp (disch := omega) only [q_eM, q_Me, q_Mlt, q_Mle, q_leM, q_ltM, q_le, q_nle, q_lt, q_nlt, q_neq, zin_nI, nI_clamp, nI_add, pk_mul, pk_sub, mI_e, mI_n, mL_e, mL_n, mR_e, mR_n, i0, i1, ↓reduceIte, ↓bI_t, ↓bI_f, Bool.false_eq_true, eq_self, chk_true, bnd_just, bnd2_just, app_t, beq_self_eq_true, mK_wI, mK_wL, mK_wR, mK_wIr, mK_wLr, mN_wI, mN_wL, mN_wR, mN_wIr, mN_wLr, mR_wI, mR_wL, mR_wIr, mR_wLr, mI_wL, mI_wR, mI_wLr, mL_wI, mL_wR, mL_wIr], by simp (disch := omega) only [q_eM, q_Me, q_Mlt, q_Mle, q_leM, q_ltM, q_le, q_nle, q_lt, q_nlt, q_neq, zin_nI, nI_clamp, nI_add, pk_mul, pk_sub, mI_e, mI_n, mL_e, mL_n, mR_e, mR_n, i0, i1, ↓reduceIte, ↓bI_t, ↓bI_f, Bool.false_eq_true, eq_self, chk_true, bnd_just, bnd2_just, app_t, beq_self_eq_true, mK_wI, mK_wL, mK_wR, mK_wIr, mK_wLr, mN_wI, mN_wL, mN_wR, mN_wIr, mN_wLr, mR_wI, mR_wL, mR_wIr, mR_wLr, mI_wL, mI_wR, mI_wLr, mL_wI, mL_wR, mL_wIr]⟩, by rw [pRun_f hf]; rfl⟩
theorem out_ok {M : zM} {cs : List Nat} {p0 p : Nat} {A : LA} (hp0 : p0 < p) (hp : p ≤ cs.length) (h : ReaM M cs A p) (hW : zWf A) : zOut M cs p0 (pRun (cs.drop p) p (okS A)) := Or.inl ⟨A, p, hp0, hp, h, hW, rfl⟩
theorem m_suffix {cs : List Nat} {A : LA} (hW : zWf A) {p c : Nat} (hc : c = 42 ∨ c = 43 ∨ c = 63 ∨ c = 123) {M : zM} (hS : Sta M) (hR : ReaM M cs A (p + 1)) (hl : p < cs.length) (N : Nat) (hN : 600 ≤ N) :
    ∃ M', fX10_suffix N M 68 (nI c) = some ((), M') ∧ MR M M' ∧ zOut M' cs p (pRun (cs.drop (p + 1)) (p + 1) (pSuf A p c)) := by
  have hl200 := hR.2.2.2.2.2.1
  obtain ⟨k, se, fo, d, ro, ch, cb, hp, pt, pb⟩ := A
  have hLM := hR.2.2.2.1
  obtain ⟨h1, h2, h3, h4, h5⟩ := hLM
  have hd := h3.1
  have hat := hR.1
  have eo : nI (p + 1) - nI 1 = nI p := by rw [pk_sub (by omega)]; rfl
  unfold fX10_suffix
  cases hp with
  | false =>
    refine ⟨_, ?_, (MR.rf.wI (k := 29) (by omega) (nI 1)).wI (k := 5) (by omega) (nI p), ?_⟩
    · simp (disch := omega) only [q_eM, q_Me, q_Mlt, q_Mle, q_leM, q_ltM, q_le, q_nle, q_lt, q_nlt, q_neq, zin_nI, nI_clamp, nI_add, pk_mul, pk_sub, mI_e, mI_n, mL_e, mL_n, mR_e, mR_n, i0, i1, ↓reduceIte, ↓bI_t, ↓bI_f, Bool.false_eq_true, eq_self, chk_true, bnd_just, bnd2_just, app_t, beq_self_eq_true, mK_wI, mK_wL, mK_wR, mK_wIr, mK_wLr, mN_wI, mN_wL, mN_wR, mN_wIr, mN_wLr, mR_wI, mR_wL, mR_wIr, mR_wLr, mI_wL, mI_wR, mI_wLr, mL_wI, mL_wR, mL_wIr, sk_68 hS, sk_81 hS, sn_81 hS, sr_68_18 hS, h2, h4, hat]
      rw [show p + 1 - 1 = p by omega, m_fail hS hR.2.1]; rfl
    · unfold pSuf
      rw [if_neg (by simp [aHp])]
      exact out_bad (by omega) (by omega)
  | true =>
    obtain ⟨⟨q1, q2, q3⟩, q4⟩ := h5 rfl
    simp only [Nat.reduceAdd] at q2 q3
    unfold pSuf
    rw [if_pos (by rfl)]
    rcases hc with rfl | rfl | rfl | rfl
    · obtain ⟨M1, r1, r2, r3⟩ := m_link pt.2.2 pt.2.1 hS h1 N (by omega)
      have hS1 := r2.ml.sta hS
      refine ⟨_, ?_, (MR.ml r2.ml).tr (MR.ml (ML.rf.wI (a := 83) (k := d) (by omega) (bI true))), ?_⟩
      · simp (disch := omega) only [q_eM, q_Me, q_Mlt, q_Mle, q_leM, q_ltM, q_le, q_nle, q_lt, q_nlt, q_neq, zin_nI, nI_clamp, nI_add, pk_mul, pk_sub, mI_e, mI_n, mL_e, mL_n, mR_e, mR_n, i0, i1, ↓reduceIte, ↓bI_t, ↓bI_f, Bool.false_eq_true, eq_self, chk_true, bnd_just, bnd2_just, app_t, beq_self_eq_true, mK_wI, mK_wL, mK_wR, mK_wIr, mK_wLr, mN_wI, mN_wL, mN_wR, mN_wIr, mN_wLr, mR_wI, mR_wL, mR_wIr, mR_wLr, mI_wL, mI_wR, mI_wLr, mL_wI, mL_wR, mL_wIr, ↓neg1, il_2, il_3, il_4, il_5, il_6, il_7, il_8, il_9, il_26, il_35, il_36, il_40, il_41, il_42, il_43, il_44, il_45, il_46, il_48, il_57, il_60, il_63, il_91, il_93, il_94, il_97, il_120, il_122, il_123, il_124, il_125, il_200, il_255, il_300, il_600, il_1023, il_1024, il_10800, sk_68 hS, sk_81 hS, sk_84 hS, sk_85 hS, sn_81 hS, sn_84 hS, sn_85 hS, sr_68_18 hS, sr_68_21 hS, sr_68_22 hS, h2, h4, q2, q3, r1]
        rw [m_s63 hS1 hd ((r2.2.2.1 _ _).trans q1) (by omega)]
        simp [bI_t]
      · rw [if_pos rfl]
        refine out_ok (by omega) (by omega) (hR.ml (r2.ml.tr (ML.rf.wI (a := 83) (k := d) (by omega) (bI true))) ?_) (Wf_None (Wf_More hW rfl))
        exact (LayM.lk hR.2.2.2.1 r2 r3).none true
    · obtain ⟨M1, r1, r2, r3⟩ := m_link pt.2.2 pt.2.1 hS h1 N (by omega)
      have hS1 := r2.ml.sta hS
      refine ⟨_, ?_, (MR.ml r2.ml).tr (MR.ml (ML.rf.wI (a := 83) (k := d) (by omega) (bI pt.1))), ?_⟩
      · simp (disch := omega) only [q_eM, q_Me, q_Mlt, q_Mle, q_leM, q_ltM, q_le, q_nle, q_lt, q_nlt, q_neq, zin_nI, nI_clamp, nI_add, pk_mul, pk_sub, mI_e, mI_n, mL_e, mL_n, mR_e, mR_n, i0, i1, ↓reduceIte, ↓bI_t, ↓bI_f, Bool.false_eq_true, eq_self, chk_true, bnd_just, bnd2_just, app_t, beq_self_eq_true, mK_wI, mK_wL, mK_wR, mK_wIr, mK_wLr, mN_wI, mN_wL, mN_wR, mN_wIr, mN_wLr, mR_wI, mR_wL, mR_wIr, mR_wLr, mI_wL, mI_wR, mI_wLr, mL_wI, mL_wR, mL_wIr, ↓neg1, il_2, il_3, il_4, il_5, il_6, il_7, il_8, il_9, il_26, il_35, il_36, il_40, il_41, il_42, il_43, il_44, il_45, il_46, il_48, il_57, il_60, il_63, il_91, il_93, il_94, il_97, il_120, il_122, il_123, il_124, il_125, il_200, il_255, il_300, il_600, il_1023, il_1024, il_10800, sk_68 hS, sk_81 hS, sk_84 hS, sk_85 hS, sn_81 hS, sn_84 hS, sn_85 hS, sr_68_18 hS, sr_68_21 hS, sr_68_22 hS, h2, h4, q2, q3, r1]
        rw [m_s63 hS1 hd ((r2.2.2.1 _ _).trans q1) (by omega)]
        simp [bI_t]
      · rw [if_neg (by decide), if_pos rfl]
        refine out_ok (by omega) (by omega) (hR.ml (r2.ml.tr (ML.rf.wI (a := 83) (k := d) (by omega) (bI pt.1))) ?_) (Wf_More hW rfl)
        exact (LayM.lk hR.2.2.2.1 r2 r3).none pt.1
    · refine ⟨_, ?_, MR.ml (ML.rf.wI (a := 83) (k := d) (by omega) (bI true)), ?_⟩
      · simp (disch := omega) only [q_eM, q_Me, q_Mlt, q_Mle, q_leM, q_ltM, q_le, q_nle, q_lt, q_nlt, q_neq, zin_nI, nI_clamp, nI_add, pk_mul, pk_sub, mI_e, mI_n, mL_e, mL_n, mR_e, mR_n, i0, i1, ↓reduceIte, ↓bI_t, ↓bI_f, Bool.false_eq_true, eq_self, chk_true, bnd_just, bnd2_just, app_t, beq_self_eq_true, mK_wI, mK_wL, mK_wR, mK_wIr, mK_wLr, mN_wI, mN_wL, mN_wR, mN_wIr, mN_wLr, mR_wI, mR_wL, mR_wIr, mR_wLr, mI_wL, mI_wR, mI_wLr, mL_wI, mL_wR, mL_wIr, ↓neg1, il_2, il_3, il_4, il_5, il_6, il_7, il_8, il_9, il_26, il_35, il_36, il_40, il_41, il_42, il_43, il_44, il_45, il_46, il_48, il_57, il_60, il_63, il_91, il_93, il_94, il_97, il_120, il_122, il_123, il_124, il_125, il_200, il_255, il_300, il_600, il_1023, il_1024, il_10800, sk_68 hS, sk_81 hS, sn_81 hS, sr_68_18 hS, h2, h4]
        rw [m_s63 hS hd q1 (by omega)]
        simp [bI_t]
      · rw [if_neg (by decide), if_neg (by decide), if_pos rfl]
        exact out_ok (by omega) (by omega) (hR.ml (ML.rf.wI (a := 83) (k := d) (by omega) (bI true)) (LayM.none hR.2.2.2.1 true)) (Wf_None hW)
    · obtain ⟨M', r1, r2, r3⟩ := m_readTimes hW rfl hS hR hl N hN
      refine ⟨M', ?_, r2, ?_⟩
      · simp (disch := omega) only [q_eM, q_Me, q_Mlt, q_Mle, q_leM, q_ltM, q_le, q_nle, q_lt, q_nlt, q_neq, zin_nI, nI_clamp, nI_add, pk_mul, pk_sub, mI_e, mI_n, mL_e, mL_n, mR_e, mR_n, i0, i1, ↓reduceIte, ↓bI_t, ↓bI_f, Bool.false_eq_true, eq_self, chk_true, bnd_just, bnd2_just, app_t, beq_self_eq_true, mK_wI, mK_wL, mK_wR, mK_wIr, mK_wLr, mN_wI, mN_wL, mN_wR, mN_wIr, mN_wLr, mR_wI, mR_wL, mR_wIr, mR_wLr, mI_wL, mI_wR, mI_wLr, mL_wI, mL_wR, mL_wIr, ↓neg1, il_2, il_3, il_4, il_5, il_6, il_7, il_8, il_9, il_26, il_35, il_36, il_40, il_41, il_42, il_43, il_44, il_45, il_46, il_48, il_57, il_60, il_63, il_91, il_93, il_94, il_97, il_120, il_122, il_123, il_124, il_125, il_200, il_255, il_300, il_600, il_1023, il_1024, il_10800, sk_68 hS, sk_81 hS, sn_81 hS, sr_68_18 hS, h2, h4, r1]
      · rw [if_neg (by decide), if_neg (by decide), if_neg (by decide), if_pos rfl]; exact r3
theorem pSuf_bad {A : LA} {p c : Nat} (h : ¬ (c = 42 ∨ c = 43 ∨ c = 63 ∨ c = 123)) : pSuf A p c = zbad A 1 p := by
  unfold pSuf
  split
  · rw [if_neg (by omega), if_neg (by omega), if_neg (by omega), if_neg (by omega)]
  · rfl
theorem m_readOne {cs : List Nat} {A : LA} (hW : zWf A) {p : Nat} {M : zM} (hS : Sta M) (hR : ReaM M cs A p) (hl : p < cs.length) (N : Nat) (hN : 600 ≤ N) :
    ∃ M', fX10_readOne N M 68 = some ((), M') ∧ MR M M' ∧ zOut M' cs p (pRun (cs.drop p) p (okS A)) := by
  have hT := hR.2.2.2.2
  have hl200 := hT.2.1
  have hc256 : cs.getD p 0 < 256 := typ_lt hT p
  have hat := hR.1
  have e_here := m_here hS hR (by omega) N
  rw [hI_at hl] at e_here
  have hR1 := hR.at (p + 1)
  have hS1 : Sta (wI M 68 28 (nI (p + 1))) := hS
  have e_let := m_letH hR1.2.2.2.2 p N
  rw [hI_at hl] at e_let
  have hLM := hR1.2.2.2.1
  have g13 : mI (wI M 68 28 (nI (p + 1))) 68 13 = nI (aDp A) := hLM.2.1
  have gd8 : aDp A ≤ 8 := hLM.2.2.1.1
  have hat1 := hR1.1
  have hf1 := hR1.2.1
  have eo : p + 1 - 1 = p := by omega
  have hMR : MR M (wI M 68 28 (nI (p + 1))) := MR.rf.wI (by omega) _
  have hst : pRun (cs.drop p) p (okS A) = pRun (cs.drop (p + 1)) (p + 1) (pRow A p (cs.getD p 0)) := pRun_1 rfl hl
  rw [hst]
  unfold fX10_readOne
  simp only [chk_true, bnd_just, bnd2_just, app_t, beq_self_eq_true, mK_wI, mK_wL, mK_wR, mK_wIr, mK_wLr, mN_wI, mN_wL, mN_wR, mN_wIr, mN_wLr, mR_wI, mR_wL, mR_wIr, mR_wLr, mI_wL, mI_wR, mI_wLr, mL_wI, mL_wR, mL_wIr, sk_68 hS, e_here, hat, i1, nI_add, e_let]
  unfold pRow
  cases hlt : ltr (cs.getD p 0) with
  | some l =>
    have hl36 := ltr_lt hlt
    rw [hL_at hl hlt] at e_let ⊢
    obtain ⟨M', r1, r2, r3⟩ := m_atomS hS1 hR1 hW (p0 := p) (by omega) (by omega) (bit l) p N (by omega)
    refine ⟨M', ?_, hMR.tr r2, r3⟩
    simp (disch := omega) only [i0, q_nlt, ↓reduceIte, e_let, chk_true, bnd_just, bnd2_just, app_t, beq_self_eq_true, mK_wI, mK_wL, mK_wR, mK_wIr, mK_wLr, mN_wI, mN_wL, mN_wR, mN_wIr, mN_wLr, mR_wI, mR_wL, mR_wIr, mR_wLr, mI_wL, mI_wR, mI_wLr, mL_wI, mL_wR, mL_wIr, sk_68 hS, hat1, pk_sub, eo]
    rw [show jshl 1 (nI l) = bit l from rfl, r1]; rfl
  | none =>
    rw [hL_no (fun _ => hlt)]
    generalize hcc : cs.getD p 0 = c at hlt hc256
    simp only
    have eM : (iM < (0 : Int32)) = True := eq_true (by decide)
    simp only [eM, if_true]
    by_cases c46 : c = 46
    · subst c46
      obtain ⟨M', r1, r2, r3⟩ := m_atomS hS1 hR1 hW (p0 := p) (by omega) (by omega) allB p N (by omega)
      refine ⟨M', ?_, hMR.tr r2, r3⟩
      have eup := m_upTo N (wI M 68 28 (nI (p + 1))) (a := 0) (b := 35) (by omega) (by omega) (by omega)
      rw [zup_all] at eup
      simp (disch := omega) only [q_eM, q_Me, q_Mlt, q_Mle, q_leM, q_ltM, q_le, q_nle, q_lt, q_nlt, q_neq, zin_nI, nI_clamp, nI_add, pk_mul, pk_sub, mI_e, mI_n, mL_e, mL_n, mR_e, mR_n, i0, i1, ↓reduceIte, ↓bI_t, ↓bI_f, Bool.false_eq_true, eq_self, chk_true, bnd_just, bnd2_just, app_t, beq_self_eq_true, mK_wI, mK_wL, mK_wR, mK_wIr, mK_wLr, mN_wI, mN_wL, mN_wR, mN_wIr, mN_wLr, mR_wI, mR_wL, mR_wIr, mR_wLr, mI_wL, mI_wR, mI_wLr, mL_wI, mL_wR, mL_wIr, ↓neg1, il_2, il_3, il_4, il_5, il_6, il_7, il_8, il_9, il_26, il_35, il_36, il_40, il_41, il_42, il_43, il_44, il_45, il_46, il_48, il_57, il_60, il_63, il_91, il_93, il_94, il_97, il_120, il_122, il_123, il_124, il_125, il_200, il_255, il_300, il_600, il_1023, il_1024, il_10800, sk_68 hS, eup, hat1, eo, r1]
    rw [if_neg c46]
    by_cases c91 : c = 91
    · subst c91
      obtain ⟨M', r1, r2, r3⟩ := m_readSet hW hS1 hR1 hl N (by omega)
      refine ⟨M', ?_, hMR.tr r2, r3⟩
      simp (disch := omega) only [q_eM, q_Me, q_Mlt, q_Mle, q_leM, q_ltM, q_le, q_nle, q_lt, q_nlt, q_neq, zin_nI, nI_clamp, nI_add, pk_mul, pk_sub, mI_e, mI_n, mL_e, mL_n, mR_e, mR_n, i0, i1, ↓reduceIte, ↓bI_t, ↓bI_f, Bool.false_eq_true, eq_self, chk_true, bnd_just, bnd2_just, app_t, beq_self_eq_true, mK_wI, mK_wL, mK_wR, mK_wIr, mK_wLr, mN_wI, mN_wL, mN_wR, mN_wIr, mN_wLr, mR_wI, mR_wL, mR_wIr, mR_wLr, mI_wL, mI_wR, mI_wLr, mL_wI, mL_wR, mL_wIr, ↓neg1, il_2, il_3, il_4, il_5, il_6, il_7, il_8, il_9, il_26, il_35, il_36, il_40, il_41, il_42, il_43, il_44, il_45, il_46, il_48, il_57, il_60, il_63, il_91, il_93, il_94, il_97, il_120, il_122, il_123, il_124, il_125, il_200, il_255, il_300, il_600, il_1023, il_1024, il_10800, sk_68 hS, r1]
    rw [if_neg c91]
    by_cases c40 : c = 40
    · subst c40
      rw [if_pos rfl]
      by_cases hd : aDp A < 8
      · rw [if_pos hd]
        obtain ⟨M1, r1, r2, r3⟩ := m_joinPart hS1 hLM N (by omega)
        have hS2 := r2.sta hS1
        have hd2 : (offP (aJ A)).2.2.2.1 = aDp A := off_d A
        obtain ⟨M', s1, s2, s3⟩ := m_in hS2 r3 (by rw [hd2]; exact hd) N
        rw [off_in] at s3
        rw [hd2] at s1
        have g13' : mI M1 68 13 = nI (aDp A) := by rw [← hd2]; exact r3.2.1
        refine ⟨M', ?_, hMR.tr ((MR.ml r2).tr (MR.ml s2)), out_ok (by omega) (by omega) (hR1.ml (r2.tr s2) s3) (Wf_In (Wf_J hW) (by unfold aDp; rw [aJ_d]; exact hd))⟩
        simp (disch := omega) only [chk_true, bnd_just, bnd2_just, app_t, beq_self_eq_true, mK_wI, mK_wL, mK_wR, mK_wIr, mK_wLr, mN_wI, mN_wL, mN_wR, mN_wIr, mN_wLr, mR_wI, mR_wL, mR_wIr, mR_wLr, mI_wL, mI_wR, mI_wLr, mL_wI, mL_wR, mL_wIr, i0, i1, ↓neg1, il_2, il_3, il_4, il_5, il_6, il_7, il_8, il_9, il_26, il_35, il_36, il_40, il_41, il_42, il_43, il_44, il_45, il_46, il_48, il_57, il_60, il_63, il_91, il_93, il_94, il_97, il_120, il_122, il_123, il_124, il_125, il_200, il_255, il_300, il_600, il_1023, il_1024, il_10800, q_neq, eq_self, ↓reduceIte, nI_add, sk_68 hS, g13, r1, sk_68 hS2, g13', s1]
      · rw [if_neg hd]
        refine ⟨_, ?_, (hMR.wI (k := 29) (by omega) (nI 5)).wI (k := 5) (by omega) (nI p), out_bad (by omega) (by omega)⟩
        rw [show aDp A = 8 by omega] at g13
        simp (disch := omega) only [chk_true, bnd_just, bnd2_just, app_t, beq_self_eq_true, mK_wI, mK_wL, mK_wR, mK_wIr, mK_wLr, mN_wI, mN_wL, mN_wR, mN_wIr, mN_wLr, mR_wI, mR_wL, mR_wIr, mR_wLr, mI_wL, mI_wR, mI_wLr, mL_wI, mL_wR, mL_wIr, i0, i1, ↓neg1, il_2, il_3, il_4, il_5, il_6, il_7, il_8, il_9, il_26, il_35, il_36, il_40, il_41, il_42, il_43, il_44, il_45, il_46, il_48, il_57, il_60, il_63, il_91, il_93, il_94, il_97, il_120, il_122, il_123, il_124, il_125, il_200, il_255, il_300, il_600, il_1023, il_1024, il_10800, q_neq, eq_self, ↓reduceIte, pk_sub, sk_68 hS, g13, hat1, eo, m_fail hS1 hf1]
    rw [if_neg c40]
    by_cases c124 : c = 124
    · subst c124
      rw [if_pos rfl]
      obtain ⟨M1, r1, r2, r3⟩ := m_endRow hS1 hLM N (by omega)
      have hS2 := r2.sta hS1
      obtain ⟨M', s1, s2, s3⟩ := m_beginRow hS2 r3 N
      rw [off_row] at s3
      refine ⟨M', ?_, hMR.tr ((MR.ml r2).tr (MR.ml s2)), out_ok (by omega) (by omega) (hR1.ml (r2.tr s2) s3) (Wf_Row (Wf_Or (Wf_J hW)))⟩
      simp (disch := omega) only [chk_true, bnd_just, bnd2_just, app_t, beq_self_eq_true, mK_wI, mK_wL, mK_wR, mK_wIr, mK_wLr, mN_wI, mN_wL, mN_wR, mN_wIr, mN_wLr, mR_wI, mR_wL, mR_wIr, mR_wLr, mI_wL, mI_wR, mI_wLr, mL_wI, mL_wR, mL_wIr, i0, i1, ↓neg1, il_2, il_3, il_4, il_5, il_6, il_7, il_8, il_9, il_26, il_35, il_36, il_40, il_41, il_42, il_43, il_44, il_45, il_46, il_48, il_57, il_60, il_63, il_91, il_93, il_94, il_97, il_120, il_122, il_123, il_124, il_125, il_200, il_255, il_300, il_600, il_1023, il_1024, il_10800, q_neq, eq_self, ↓reduceIte, sk_68 hS, r1, sk_68 hS2, s1]
    rw [if_neg c124]
    have hcl := m_close hS1 hLM N (by omega)
    by_cases c41 : c = 41
    · subst c41
      by_cases hd : 0 < aDp A
      · rw [if_pos (show 41 = 41 ∧ 0 < aDp A from ⟨rfl, hd⟩)]
        obtain ⟨M', r1, r2, r3⟩ := hcl.1 hd
        refine ⟨M', ?_, hMR.tr (MR.ml r2), out_ok (by omega) (by omega) (hR1.ml r2 r3) (Wf_Out (Wf_Or (Wf_J hW)) ?_)⟩
        · simp (disch := omega) only [chk_true, bnd_just, bnd2_just, app_t, beq_self_eq_true, mK_wI, mK_wL, mK_wR, mK_wIr, mK_wLr, mN_wI, mN_wL, mN_wR, mN_wIr, mN_wLr, mR_wI, mR_wL, mR_wIr, mR_wLr, mI_wL, mI_wR, mI_wLr, mL_wI, mL_wR, mL_wIr, i0, i1, ↓neg1, il_2, il_3, il_4, il_5, il_6, il_7, il_8, il_9, il_26, il_35, il_36, il_40, il_41, il_42, il_43, il_44, il_45, il_46, il_48, il_57, il_60, il_63, il_91, il_93, il_94, il_97, il_120, il_122, il_123, il_124, il_125, il_200, il_255, il_300, il_600, il_1023, il_1024, il_10800, q_neq, eq_self, ↓reduceIte, sk_68 hS, r1]
        · have e : aDp (aOr (aJ A)) = aDp (aJ A) := rfl
          rw [e]; unfold aDp; rw [aJ_d]; exact hd
      · rw [if_neg (show ¬ (41 = 41 ∧ 0 < aDp A) from fun q => hd q.2), pSuf_bad (by omega)]
        have r1 := hcl.2 (show aDp A = 0 by omega) hf1
        rw [hat1, pk_sub (by omega), eo] at r1
        refine ⟨_, ?_, (hMR.wI (k := 29) (by omega) (nI 1)).wI (k := 5) (by omega) (nI p), out_bad (by omega) (by omega)⟩
        simp (disch := omega) only [chk_true, bnd_just, bnd2_just, app_t, beq_self_eq_true, mK_wI, mK_wL, mK_wR, mK_wIr, mK_wLr, mN_wI, mN_wL, mN_wR, mN_wIr, mN_wLr, mR_wI, mR_wL, mR_wIr, mR_wLr, mI_wL, mI_wR, mI_wLr, mL_wI, mL_wR, mL_wIr, i0, i1, ↓neg1, il_2, il_3, il_4, il_5, il_6, il_7, il_8, il_9, il_26, il_35, il_36, il_40, il_41, il_42, il_43, il_44, il_45, il_46, il_48, il_57, il_60, il_63, il_91, il_93, il_94, il_97, il_120, il_122, il_123, il_124, il_125, il_200, il_255, il_300, il_600, il_1023, il_1024, il_10800, q_neq, eq_self, ↓reduceIte, sk_68 hS, r1]
    rw [if_neg (show ¬ (c = 41 ∧ 0 < aDp A) from fun q => c41 q.1)]
    by_cases hsu : c = 42 ∨ c = 43 ∨ c = 63 ∨ c = 123
    · obtain ⟨M', r1, r2, r3⟩ := m_suffix hW hsu hS1 hR1 hl N hN
      refine ⟨M', ?_, hMR.tr r2, r3⟩
      have e181 : fX10_readOne_181 N (wI M 68 28 (nI (p + 1))) 68 (nI c) = some ((), M') := by
        unfold fX10_readOne_181
        simp only [chk_true, bnd_just, bnd2_just, app_t, beq_self_eq_true, mK_wI, mK_wL, mK_wR, mK_wIr, mK_wLr, mN_wI, mN_wL, mN_wR, mN_wIr, mN_wLr, mR_wI, mR_wL, mR_wIr, mR_wLr, mI_wL, mI_wR, mI_wLr, mL_wI, mL_wR, mL_wIr, sk_68 hS, r1]
      rcases hsu with rfl | rfl | rfl | rfl <;> simp (disch := omega) only [i0, i1, ↓neg1, il_2, il_3, il_4, il_5, il_6, il_7, il_8, il_9, il_26, il_35, il_36, il_40, il_41, il_42, il_43, il_44, il_45, il_46, il_48, il_57, il_60, il_63, il_91, il_93, il_94, il_97, il_120, il_122, il_123, il_124, il_125, il_200, il_255, il_300, il_600, il_1023, il_1024, il_10800, q_neq, eq_self, ↓reduceIte, e181]
    · rw [pSuf_bad hsu]
      refine ⟨_, ?_, (hMR.wI (k := 29) (by omega) (nI 1)).wI (k := 5) (by omega) (nI p), out_bad (by omega) (by omega)⟩
      simp (disch := omega) only [chk_true, bnd_just, bnd2_just, app_t, beq_self_eq_true, mK_wI, mK_wL, mK_wR, mK_wIr, mK_wLr, mN_wI, mN_wL, mN_wR, mN_wIr, mN_wLr, mR_wI, mR_wL, mR_wIr, mR_wLr, mI_wL, mI_wR, mI_wLr, mL_wI, mL_wR, mL_wIr, i0, i1, ↓neg1, il_2, il_3, il_4, il_5, il_6, il_7, il_8, il_9, il_26, il_35, il_36, il_40, il_41, il_42, il_43, il_44, il_45, il_46, il_48, il_57, il_60, il_63, il_91, il_93, il_94, il_97, il_120, il_122, il_123, il_124, il_125, il_200, il_255, il_300, il_600, il_1023, il_1024, il_10800, q_neq, eq_self, ↓reduceIte, pk_sub, sk_68 hS, hat1, eo, m_fail hS1 hf1]
end ZMREAD4
