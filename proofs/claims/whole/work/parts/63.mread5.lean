/-! the model reads: the loop, the copy, the answer -/
section ZMREAD5
theorem Sta_of {M M' : zM} (h : Sta M) (h1 : M'.1 = M.1) (h2 : M'.2.2.2 = M.2.2.2) : Sta M' := ⟨by rw [h1]; exact h.1, fun q hq => by have := h.2 q hq; unfold mR at this ⊢; rw [h2]; exact this⟩
theorem m_loop {cs : List Nat} : ∀ (k p fuel : Nat) (M : zM) (A : LA), cs.length ≤ p + k → p ≤ cs.length → k + 700 < fuel → Sta M → ReaM M cs A p → zWf A →
    ∃ M1 n1, 600 ≤ n1 ∧ fX10_read_34 fuel M 68 = fX10_read_59 n1 M1 68 ∧ MR M M1 ∧ ((∃ A', pRun (cs.drop p) p (okS A) = (if 0 < aDp A' then zbad A' 2 cs.length else okS A') ∧ ReaM M1 cs A' cs.length ∧ zWf A') ∨ ∃ f q, mBad M1 f q ∧ (pRun (cs.drop p) p (okS A)).2.2.2 = (f, q)) := by
  intro k
  induction k using Nat.strongRecOn with
  | ind k ih =>
    intro p fuel M A hk hp hf hS hR hW
    obtain ⟨f, rfl⟩ := suc fuel (by omega)
    have hT := hR.2.2.2.2
    have hl200 := hT.2.1
    by_cases hl : p < cs.length
    · obtain ⟨M1, r1, r2, r3⟩ := m_readOne hW hS hR hl f (by omega)
      have hS1 := r2.sta hS
      have e1 : fX10_read_34 (f + 1) M 68 = fX10_read_34 f M1 68 := by
        rw [fX10_read_34]
        simp (disch := omega) only [q_eM, q_Me, q_Mlt, q_Mle, q_leM, q_ltM, q_le, q_nle, q_lt, q_nlt, q_neq, zin_nI, nI_clamp, nI_add, pk_mul, pk_sub, mI_e, mI_n, mL_e, mL_n, mR_e, mR_n, i0, i1, ↓reduceIte, ↓bI_t, ↓bI_f, Bool.false_eq_true, eq_self, chk_true, bnd_just, bnd2_just, app_t, beq_self_eq_true, mK_wI, mK_wL, mK_wR, mK_wIr, mK_wLr, mN_wI, mN_wL, mN_wR, mN_wIr, mN_wLr, mR_wI, mR_wL, mR_wIr, mR_wLr, mI_wL, mI_wR, mI_wLr, mL_wI, mL_wR, mL_wIr, sk_68 hS, hR.1, hT.1, hR.2.1, r1]
      rw [e1]
      rcases r3 with ⟨A', p', h1, h2, h3, h4, h5⟩ | ⟨f9, q9, h1, h2⟩
      · obtain ⟨M2, n1, s1, s2, s3, s4⟩ := ih (k - (p' - p)) (by omega) p' f M1 A' (by omega) h2 (by omega) hS1 h3 h4
        rw [h5]
        exact ⟨M2, n1, s1, s2, r2.tr s3, s4⟩
      · obtain ⟨g, rfl⟩ := suc f (by omega)
        refine ⟨M1, g, by omega, ?_, r2, Or.inr ⟨f9, q9, h1, h2⟩⟩
        rw [fX10_read_34]
        simp only [chk_true, bnd_just, bnd2_just, app_t, beq_self_eq_true, mK_wI, mK_wL, mK_wR, mK_wIr, mK_wLr, mN_wI, mN_wL, mN_wR, mN_wIr, mN_wLr, mR_wI, mR_wL, mR_wIr, mR_wLr, mI_wL, mI_wR, mI_wLr, mL_wI, mL_wR, mL_wIr, sk_68 hS1]
        by_cases hc : mI M1 68 2 ≤ mI M1 68 28
        · rw [if_pos hc]
        · rw [if_neg hc, if_neg (by rw [h1.2.2.1, i0, neq (by have := h1.2.1; omega) (by omega)]; exact h1.1)]
    · have hpe : p = cs.length := by omega
      refine ⟨M, f, by omega, ?_, MR.rf, Or.inl ⟨A, ?_, by rw [← hpe]; exact hR, hW⟩⟩
      · rw [fX10_read_34]
        simp (disch := omega) only [q_eM, q_Me, q_Mlt, q_Mle, q_leM, q_ltM, q_le, q_nle, q_lt, q_nlt, q_neq, zin_nI, nI_clamp, nI_add, pk_mul, pk_sub, mI_e, mI_n, mL_e, mL_n, mR_e, mR_n, i0, i1, ↓reduceIte, ↓bI_t, ↓bI_f, Bool.false_eq_true, eq_self, chk_true, bnd_just, bnd2_just, app_t, beq_self_eq_true, mK_wI, mK_wL, mK_wR, mK_wIr, mK_wLr, mN_wI, mN_wL, mN_wR, mN_wIr, mN_wLr, mR_wI, mR_wL, mR_wIr, mR_wLr, mI_wL, mI_wR, mI_wLr, mL_wI, mL_wR, mL_wIr, sk_68 hS, hR.1, hT.1]
      · rw [drop_ge (by omega), hpe]
        unfold pRun okS
        simp
/-- a pattern in the model's row x -/
def PatQ (M : zM) (x : Nat) (p : zPt) : Prop := match p with
  | (k, e, f, l, fo, se) => mI M 72 x = nI k ∧ k ≤ 60 ∧ mI M 73 x = bI e ∧ mL M 74 x = f ∧ mL M 75 x = l ∧ (∀ i, i < k → mL M 76 (60 * x + i) = fo i) ∧ ∀ i, i < k → mL M 77 (60 * x + i) = se i
def PatM (M : zM) (x : Nat) (p : zPt) : Prop := mI M 71 x = nI 1 ∧ PatQ M x p
def CPF (y : Nat) (M M' : zM) : Prop := M'.1 = M.1 ∧ (∀ a j, mR M' a j = mR M a j) ∧ (∀ a j, mI M' a j = mI M a j) ∧ ∀ a j, ¬ ((a = 76 ∨ a = 77) ∧ 60 * y ≤ j ∧ j < 60 * y + 60) → mL M' a j = mL M a j
theorem m_cp {x y : Nat} (hx : x < 3) (hy : y < 3) (hxy : x ≠ y) {F G : Nat → Int64} : ∀ (s i fuel : Nat) (M : zM), Sta M → (∀ j, j < 60 → mL M 76 (60 * x + j) = F j ∧ mL M 77 (60 * x + j) = G j) → (∀ j, j < i → mL M 76 (60 * y + j) = F j ∧ mL M 77 (60 * y + j) = G j) → i + s = 60 → s < fuel →
    ∃ M', fX10_copy_57 fuel M 68 (nI x) (nI y) (nI i) = some ((), M') ∧ CPF y M M' ∧ ∀ j, j < 60 → mL M' 76 (60 * y + j) = F j ∧ mL M' 77 (60 * y + j) = G j := by
  intro s
  induction s with
  | zero =>
    intro i fuel M hS h1 h2 hi hf
    obtain ⟨f, rfl⟩ := suc fuel (by omega)
    refine ⟨M, ?_, ⟨rfl, fun _ _ => rfl, fun _ _ => rfl, fun _ _ _ => rfl⟩, fun j hj => h2 j (by omega)⟩
    rw [fX10_copy_57]
    simp (disch := omega) only [q_eM, q_Me, q_Mlt, q_Mle, q_leM, q_ltM, q_le, q_nle, q_lt, q_nlt, q_neq, zin_nI, nI_clamp, nI_add, pk_mul, pk_sub, mI_e, mI_n, mL_e, mL_n, mR_e, mR_n, i0, i1, ↓reduceIte, ↓bI_t, ↓bI_f, Bool.false_eq_true, eq_self, chk_true, bnd_just, bnd2_just, app_t, beq_self_eq_true, mK_wI, mK_wL, mK_wR, mK_wIr, mK_wLr, mN_wI, mN_wL, mN_wR, mN_wIr, mN_wLr, mR_wI, mR_wL, mR_wIr, mR_wLr, mI_wL, mI_wR, mI_wLr, mL_wI, mL_wR, mL_wIr, ↓neg1, il_2, il_3, il_4, il_5, il_6, il_7, il_8, il_9, il_26, il_35, il_36, il_40, il_41, il_42, il_43, il_44, il_45, il_46, il_48, il_57, il_60, il_63, il_91, il_93, il_94, il_97, il_120, il_122, il_123, il_124, il_125, il_200, il_255, il_300, il_600, il_1023, il_1024, il_10800]
  | succ s ih =>
    intro i fuel M hS h1 h2 hi hf
    obtain ⟨f, rfl⟩ := suc fuel (by omega)
    obtain ⟨M', r1, r2, r3⟩ := ih (i + 1) f (wL (wL M 76 (60 * y + i) (F i)) 77 (60 * y + i) (G i)) hS (fun j hj => by
      constructor
      · rw [mL_n (by omega), mL_n (by omega)]; exact (h1 j hj).1
      · rw [mL_n (by omega), mL_n (by omega)]; exact (h1 j hj).2) (fun j hj => by
      by_cases hji : j = i
      · subst hji
        constructor
        · rw [mL_n (by omega), mL_e rfl rfl]
        · rw [mL_e rfl rfl]
      · constructor
        · rw [mL_n (by omega), mL_n (by omega)]; exact (h2 j (by omega)).1
        · rw [mL_n (by omega), mL_n (by omega)]; exact (h2 j (by omega)).2) (by omega) (by omega)
    refine ⟨M', ?_, ⟨r2.1, r2.2.1, r2.2.2.1, fun a j q => (r2.2.2.2 a j q).trans ?_⟩, r3⟩
    · rw [fX10_copy_57]
      obtain ⟨v1, v2⟩ := h1 i (by omega)
      simp (disch := omega) only [q_eM, q_Me, q_Mlt, q_Mle, q_leM, q_ltM, q_le, q_nle, q_lt, q_nlt, q_neq, zin_nI, nI_clamp, nI_add, pk_mul, pk_sub, mI_e, mI_n, mL_e, mL_n, mR_e, mR_n, i0, i1, ↓reduceIte, ↓bI_t, ↓bI_f, Bool.false_eq_true, eq_self, chk_true, bnd_just, bnd2_just, app_t, beq_self_eq_true, mK_wI, mK_wL, mK_wR, mK_wIr, mK_wLr, mN_wI, mN_wL, mN_wR, mN_wIr, mN_wLr, mR_wI, mR_wL, mR_wIr, mR_wLr, mI_wL, mI_wR, mI_wLr, mL_wI, mL_wR, mL_wIr, ↓neg1, il_2, il_3, il_4, il_5, il_6, il_7, il_8, il_9, il_26, il_35, il_36, il_40, il_41, il_42, il_43, il_44, il_45, il_46, il_48, il_57, il_60, il_63, il_91, il_93, il_94, il_97, il_120, il_122, il_123, il_124, il_125, il_200, il_255, il_300, il_600, il_1023, il_1024, il_10800, sk_68 hS, sk_76 hS, sk_77 hS, sn_76 hS, sn_77 hS, sr_68_11 hS, sr_68_12 hS, v1, v2]
      exact r1
    · rw [mL_n (by omega), mL_n (by omega)]
/-- what a copy into row y may change -/
def CYF (y : Nat) (M M' : zM) : Prop := M'.1 = M.1 ∧ (∀ a j, mR M' a j = mR M a j) ∧ (∀ a j, ¬ (71 ≤ a ∧ a ≤ 73 ∧ j = y) → mI M' a j = mI M a j) ∧ ∀ a j, ¬ ((a = 74 ∨ a = 75) ∧ j = y) → ¬ ((a = 76 ∨ a = 77) ∧ 60 * y ≤ j ∧ j < 60 * y + 60) → mL M' a j = mL M a j
theorem m_copy {x y : Nat} (hx : x < 3) (hy : y < 3) (hxy : x ≠ y) {M : zM} (hS : Sta M) {p : zPt} (h : PatQ M x p) (N : Nat) (hN : 61 ≤ N) : ∃ M', fX10_copy N M 68 (nI x) (nI y) = some ((), M') ∧ CYF y M M' ∧ PatM M' y p := by
  obtain ⟨k, e, f, l, fo, se⟩ := p
  obtain ⟨h1, h2, h3, h4, h5, h6, h7⟩ := h
  obtain ⟨M', r1, r2, r3⟩ := m_cp (x := x) (y := y) hx hy hxy (F := fun j => mL M 76 (60 * x + j)) (G := fun j => mL M 77 (60 * x + j)) 60 0 N (wL (wL (wI (wI (wI M 71 y (nI 1)) 72 y (nI k)) 73 y (bI e)) 74 y f) 75 y l) hS (fun j hj => by
    constructor <;> simp (disch := omega) only [q_eM, q_Me, q_Mlt, q_Mle, q_leM, q_ltM, q_le, q_nle, q_lt, q_nlt, q_neq, zin_nI, nI_clamp, nI_add, pk_mul, pk_sub, mI_e, mI_n, mL_e, mL_n, mR_e, mR_n, i0, i1, ↓reduceIte, ↓bI_t, ↓bI_f, Bool.false_eq_true, eq_self, chk_true, bnd_just, bnd2_just, app_t, beq_self_eq_true, mK_wI, mK_wL, mK_wR, mK_wIr, mK_wLr, mN_wI, mN_wL, mN_wR, mN_wIr, mN_wLr, mR_wI, mR_wL, mR_wIr, mR_wLr, mI_wL, mI_wR, mI_wLr, mL_wI, mL_wR, mL_wIr]) (fun j hj => by omega) (by omega) (by omega)
  refine ⟨M', ?_, ⟨r2.1, r2.2.1, fun a j q => ?_, fun a j q1 q2 => ?_⟩, ?_, ?_, h2, ?_, ?_, ?_, fun i hi => ?_, fun i hi => ?_⟩
  · unfold fX10_copy
    simp (disch := omega) only [q_eM, q_Me, q_Mlt, q_Mle, q_leM, q_ltM, q_le, q_nle, q_lt, q_nlt, q_neq, zin_nI, nI_clamp, nI_add, pk_mul, pk_sub, mI_e, mI_n, mL_e, mL_n, mR_e, mR_n, i0, i1, ↓reduceIte, ↓bI_t, ↓bI_f, Bool.false_eq_true, eq_self, chk_true, bnd_just, bnd2_just, app_t, beq_self_eq_true, mK_wI, mK_wL, mK_wR, mK_wIr, mK_wLr, mN_wI, mN_wL, mN_wR, mN_wIr, mN_wLr, mR_wI, mR_wL, mR_wIr, mR_wLr, mI_wL, mI_wR, mI_wLr, mL_wI, mL_wR, mL_wIr, ↓neg1, il_2, il_3, il_4, il_5, il_6, il_7, il_8, il_9, il_26, il_35, il_36, il_40, il_41, il_42, il_43, il_44, il_45, il_46, il_48, il_57, il_60, il_63, il_91, il_93, il_94, il_97, il_120, il_122, il_123, il_124, il_125, il_200, il_255, il_300, il_600, il_1023, il_1024, il_10800, sk_68 hS, sk_71 hS, sk_72 hS, sk_73 hS, sk_74 hS, sk_75 hS, sn_71 hS, sn_72 hS, sn_73 hS, sn_74 hS, sn_75 hS, sr_68_6 hS, sr_68_7 hS, sr_68_8 hS, sr_68_9 hS, sr_68_10 hS, h1, h3, h4, h5, nar1, bI_nar]
    rw [← i0] at r1 ⊢
    exact r1
  · rw [r2.2.2.1]
    simp (disch := omega) only [q_eM, q_Me, q_Mlt, q_Mle, q_leM, q_ltM, q_le, q_nle, q_lt, q_nlt, q_neq, zin_nI, nI_clamp, nI_add, pk_mul, pk_sub, mI_e, mI_n, mL_e, mL_n, mR_e, mR_n, i0, i1, ↓reduceIte, ↓bI_t, ↓bI_f, Bool.false_eq_true, eq_self, chk_true, bnd_just, bnd2_just, app_t, beq_self_eq_true, mK_wI, mK_wL, mK_wR, mK_wIr, mK_wLr, mN_wI, mN_wL, mN_wR, mN_wIr, mN_wLr, mR_wI, mR_wL, mR_wIr, mR_wLr, mI_wL, mI_wR, mI_wLr, mL_wI, mL_wR, mL_wIr]
  · rw [r2.2.2.2 a j q2]
    simp (disch := omega) only [q_eM, q_Me, q_Mlt, q_Mle, q_leM, q_ltM, q_le, q_nle, q_lt, q_nlt, q_neq, zin_nI, nI_clamp, nI_add, pk_mul, pk_sub, mI_e, mI_n, mL_e, mL_n, mR_e, mR_n, i0, i1, ↓reduceIte, ↓bI_t, ↓bI_f, Bool.false_eq_true, eq_self, chk_true, bnd_just, bnd2_just, app_t, beq_self_eq_true, mK_wI, mK_wL, mK_wR, mK_wIr, mK_wLr, mN_wI, mN_wL, mN_wR, mN_wIr, mN_wLr, mR_wI, mR_wL, mR_wIr, mR_wLr, mI_wL, mI_wR, mI_wLr, mL_wI, mL_wR, mL_wIr]
  · rw [r2.2.2.1]; simp (disch := omega) only [q_eM, q_Me, q_Mlt, q_Mle, q_leM, q_ltM, q_le, q_nle, q_lt, q_nlt, q_neq, zin_nI, nI_clamp, nI_add, pk_mul, pk_sub, mI_e, mI_n, mL_e, mL_n, mR_e, mR_n, i0, i1, ↓reduceIte, ↓bI_t, ↓bI_f, Bool.false_eq_true, eq_self, chk_true, bnd_just, bnd2_just, app_t, beq_self_eq_true, mK_wI, mK_wL, mK_wR, mK_wIr, mK_wLr, mN_wI, mN_wL, mN_wR, mN_wIr, mN_wLr, mR_wI, mR_wL, mR_wIr, mR_wLr, mI_wL, mI_wR, mI_wLr, mL_wI, mL_wR, mL_wIr]
  · rw [r2.2.2.1]; simp (disch := omega) only [q_eM, q_Me, q_Mlt, q_Mle, q_leM, q_ltM, q_le, q_nle, q_lt, q_nlt, q_neq, zin_nI, nI_clamp, nI_add, pk_mul, pk_sub, mI_e, mI_n, mL_e, mL_n, mR_e, mR_n, i0, i1, ↓reduceIte, ↓bI_t, ↓bI_f, Bool.false_eq_true, eq_self, chk_true, bnd_just, bnd2_just, app_t, beq_self_eq_true, mK_wI, mK_wL, mK_wR, mK_wIr, mK_wLr, mN_wI, mN_wL, mN_wR, mN_wIr, mN_wLr, mR_wI, mR_wL, mR_wIr, mR_wLr, mI_wL, mI_wR, mI_wLr, mL_wI, mL_wR, mL_wIr]
  · rw [r2.2.2.1]; simp (disch := omega) only [q_eM, q_Me, q_Mlt, q_Mle, q_leM, q_ltM, q_le, q_nle, q_lt, q_nlt, q_neq, zin_nI, nI_clamp, nI_add, pk_mul, pk_sub, mI_e, mI_n, mL_e, mL_n, mR_e, mR_n, i0, i1, ↓reduceIte, ↓bI_t, ↓bI_f, Bool.false_eq_true, eq_self, chk_true, bnd_just, bnd2_just, app_t, beq_self_eq_true, mK_wI, mK_wL, mK_wR, mK_wIr, mK_wLr, mN_wI, mN_wL, mN_wR, mN_wIr, mN_wLr, mR_wI, mR_wL, mR_wIr, mR_wLr, mI_wL, mI_wR, mI_wLr, mL_wI, mL_wR, mL_wIr]
  · rw [r2.2.2.2 _ _ (by omega)]; simp (disch := omega) only [q_eM, q_Me, q_Mlt, q_Mle, q_leM, q_ltM, q_le, q_nle, q_lt, q_nlt, q_neq, zin_nI, nI_clamp, nI_add, pk_mul, pk_sub, mI_e, mI_n, mL_e, mL_n, mR_e, mR_n, i0, i1, ↓reduceIte, ↓bI_t, ↓bI_f, Bool.false_eq_true, eq_self, chk_true, bnd_just, bnd2_just, app_t, beq_self_eq_true, mK_wI, mK_wL, mK_wR, mK_wIr, mK_wLr, mN_wI, mN_wL, mN_wR, mN_wIr, mN_wLr, mR_wI, mR_wL, mR_wIr, mR_wLr, mI_wL, mI_wR, mI_wLr, mL_wI, mL_wR, mL_wIr]
  · rw [r2.2.2.2 _ _ (by omega)]; simp (disch := omega) only [q_eM, q_Me, q_Mlt, q_Mle, q_leM, q_ltM, q_le, q_nle, q_lt, q_nlt, q_neq, zin_nI, nI_clamp, nI_add, pk_mul, pk_sub, mI_e, mI_n, mL_e, mL_n, mR_e, mR_n, i0, i1, ↓reduceIte, ↓bI_t, ↓bI_f, Bool.false_eq_true, eq_self, chk_true, bnd_just, bnd2_just, app_t, beq_self_eq_true, mK_wI, mK_wL, mK_wR, mK_wIr, mK_wLr, mN_wI, mN_wL, mN_wR, mN_wIr, mN_wLr, mR_wI, mR_wL, mR_wIr, mR_wLr, mI_wL, mI_wR, mI_wLr, mL_wI, mL_wR, mL_wIr]
  · rw [(r3 i (by omega)).1]; exact h6 i hi
  · rw [(r3 i (by omega)).2]; exact h7 i hi
/-- the pattern that is laid out at the end -/
def patA (A : LA) : zPt := match aOr (aJ A) with
  | (k, se, fo, _, _, ch, _, _, _, _) => (k, (ch 0).1, (ch 0).2.1, (ch 0).2.2, fo, se)
theorem patA_off (A : LA) : patA A = match aOr (offP (aJ A)) with
  | (k, se, fo, _, _, ch, _, _, _, _) => (k, (ch 0).1, (ch 0).2.1, (ch 0).2.2, fo, se) := by
  obtain ⟨k, se, fo, d, ro, ch, cb, hp, pt, pb⟩ := A
  cases hp <;> rfl
def A0 : LA := (0, fun _ => 0, fun _ => 0, 0, fun _ => (true, 0, 0), fun _ => (false, 0, 0), fun _ => 0, false, (false, 0, 0), 0)
theorem Wf_A0 : zWf A0 := ⟨by omega, by omega, fun i hi => by omega, fun e he => ⟨Nat.le_refl _, BdP_0 _ _ _, BdP_0 _ _ _⟩, fun e he => by omega, fun q => by cases q⟩
/-- what a reading that failed may change in the model -/
def zMF (M M' : zM) : Prop := M'.1 = M.1 ∧ (∀ a j, mR M' a j = mR M a j) ∧ ∀ a j, ¬ ((a = 68 ∧ (j = 0 ∨ j = 2 ∨ j = 5 ∨ j = 13 ∨ j = 14 ∨ j = 28 ∨ j = 29)) ∨ ((a = 76 ∨ a = 77) ∧ 120 ≤ j) ∨ (78 ≤ a ∧ a ≤ 90)) → mI M' a j = mI M a j ∧ mL M' a j = mL M a j
/-- what a reading may change in the model -/
def zMQ (M M' : zM) : Prop := M'.1 = M.1 ∧ (∀ a j, mR M' a j = mR M a j) ∧ ∀ a j, ¬ ((a = 68 ∧ (j = 0 ∨ j = 2 ∨ j = 5 ∨ j = 13 ∨ j = 14 ∨ j = 28 ∨ j = 29)) ∨ (71 ≤ a ∧ a ≤ 75 ∧ j ≠ 1) ∨ ((a = 76 ∨ a = 77) ∧ (j < 60 ∨ 120 ≤ j)) ∨ (78 ≤ a ∧ a ≤ 90)) → mI M' a j = mI M a j ∧ mL M' a j = mL M a j
theorem zMF.mq {M M' : zM} (h : zMF M M') : zMQ M M' := ⟨h.1, h.2.1, fun a j q => h.2.2 a j (by omega)⟩
theorem m_read75 {M : zM} (hS : Sta M) {cs : List Nat} {A : LA} {p : Nat} (hR : ReaM M cs A p) (hd0 : aDp A = 0) (N : Nat) (hN : 61 ≤ N) :
    ∃ M', fX10_read_75 N M 68 = some (nI 0, M') ∧ zMQ M M' ∧ mI M' 68 0 = mI M 68 0 ∧ mI M' 68 2 = nI 0 ∧ mI M' 68 5 = iM ∧ PatM M' 0 (patA A) := by
  have hLM := hR.2.2.2.1.w (k := 2) (by omega) (nI 0)
  have hS0 : Sta (wI M 68 2 (nI 0)) := hS
  obtain ⟨M1, r1, r2, r3⟩ := m_endRow hS0 hLM N hN
  have hS1 := r2.sta hS0
  rw [patA_off]
  have hd1 : (aOr (offP (aJ A))).2.2.2.1 = 0 := by
    rw [← hd0]; exact off_d A
  rcases hA : aOr (offP (aJ A)) with ⟨k, se, fo, d, ro, ch, cb, hp, pt, pb⟩
  rw [hA] at r3 hd1
  simp only at hd1
  subst hd1
  obtain ⟨⟨p1, p2, p3, p4⟩, h2, h3, h4, h5⟩ := r3
  obtain ⟨-, ⟨b1, b2, b3⟩, -⟩ := h3.2 0 (by omega)
  simp only [Nat.reduceAdd] at b2 b3
  have hS2 : Sta (wL (wL (wI (wI M1 72 2 (nI k)) 73 2 (bI (ch 0).1)) 74 2 (ch 0).2.1) 75 2 (ch 0).2.2) := hS1
  obtain ⟨M', s1, s2, s3⟩ := m_copy (x := 2) (y := 0) (by omega) (by omega) (by omega) hS2 (p := (k, (ch 0).1, (ch 0).2.1, (ch 0).2.2, fo, se)) (by
    refine ⟨?_, p2, ?_, ?_, ?_, fun i hi => ?_, fun i hi => ?_⟩
    · simp (disch := omega) only [q_eM, q_Me, q_Mlt, q_Mle, q_leM, q_ltM, q_le, q_nle, q_lt, q_nlt, q_neq, zin_nI, nI_clamp, nI_add, pk_mul, pk_sub, mI_e, mI_n, mL_e, mL_n, mR_e, mR_n, i0, i1, ↓reduceIte, ↓bI_t, ↓bI_f, Bool.false_eq_true, eq_self, chk_true, bnd_just, bnd2_just, app_t, beq_self_eq_true, mK_wI, mK_wL, mK_wR, mK_wIr, mK_wLr, mN_wI, mN_wL, mN_wR, mN_wIr, mN_wLr, mR_wI, mR_wL, mR_wIr, mR_wLr, mI_wL, mI_wR, mI_wLr, mL_wI, mL_wR, mL_wIr]
    · simp (disch := omega) only [q_eM, q_Me, q_Mlt, q_Mle, q_leM, q_ltM, q_le, q_nle, q_lt, q_nlt, q_neq, zin_nI, nI_clamp, nI_add, pk_mul, pk_sub, mI_e, mI_n, mL_e, mL_n, mR_e, mR_n, i0, i1, ↓reduceIte, ↓bI_t, ↓bI_f, Bool.false_eq_true, eq_self, chk_true, bnd_just, bnd2_just, app_t, beq_self_eq_true, mK_wI, mK_wL, mK_wR, mK_wIr, mK_wLr, mN_wI, mN_wL, mN_wR, mN_wIr, mN_wLr, mR_wI, mR_wL, mR_wIr, mR_wLr, mI_wL, mI_wR, mI_wLr, mL_wI, mL_wR, mL_wIr]
    · simp (disch := omega) only [q_eM, q_Me, q_Mlt, q_Mle, q_leM, q_ltM, q_le, q_nle, q_lt, q_nlt, q_neq, zin_nI, nI_clamp, nI_add, pk_mul, pk_sub, mI_e, mI_n, mL_e, mL_n, mR_e, mR_n, i0, i1, ↓reduceIte, ↓bI_t, ↓bI_f, Bool.false_eq_true, eq_self, chk_true, bnd_just, bnd2_just, app_t, beq_self_eq_true, mK_wI, mK_wL, mK_wR, mK_wIr, mK_wLr, mN_wI, mN_wL, mN_wR, mN_wIr, mN_wLr, mR_wI, mR_wL, mR_wIr, mR_wLr, mI_wL, mI_wR, mI_wLr, mL_wI, mL_wR, mL_wIr]
    · simp (disch := omega) only [q_eM, q_Me, q_Mlt, q_Mle, q_leM, q_ltM, q_le, q_nle, q_lt, q_nlt, q_neq, zin_nI, nI_clamp, nI_add, pk_mul, pk_sub, mI_e, mI_n, mL_e, mL_n, mR_e, mR_n, i0, i1, ↓reduceIte, ↓bI_t, ↓bI_f, Bool.false_eq_true, eq_self, chk_true, bnd_just, bnd2_just, app_t, beq_self_eq_true, mK_wI, mK_wL, mK_wR, mK_wIr, mK_wLr, mN_wI, mN_wL, mN_wR, mN_wIr, mN_wLr, mR_wI, mR_wL, mR_wIr, mR_wLr, mI_wL, mI_wR, mI_wLr, mL_wI, mL_wR, mL_wIr]
    · simp (disch := omega) only [q_eM, q_Me, q_Mlt, q_Mle, q_leM, q_ltM, q_le, q_nle, q_lt, q_nlt, q_neq, zin_nI, nI_clamp, nI_add, pk_mul, pk_sub, mI_e, mI_n, mL_e, mL_n, mR_e, mR_n, i0, i1, ↓reduceIte, ↓bI_t, ↓bI_f, Bool.false_eq_true, eq_self, chk_true, bnd_just, bnd2_just, app_t, beq_self_eq_true, mK_wI, mK_wL, mK_wR, mK_wIr, mK_wLr, mN_wI, mN_wL, mN_wR, mN_wIr, mN_wLr, mR_wI, mR_wL, mR_wIr, mR_wLr, mI_wL, mI_wR, mI_wLr, mL_wI, mL_wR, mL_wIr]; exact p3 i hi
    · simp (disch := omega) only [q_eM, q_Me, q_Mlt, q_Mle, q_leM, q_ltM, q_le, q_nle, q_lt, q_nlt, q_neq, zin_nI, nI_clamp, nI_add, pk_mul, pk_sub, mI_e, mI_n, mL_e, mL_n, mR_e, mR_n, i0, i1, ↓reduceIte, ↓bI_t, ↓bI_f, Bool.false_eq_true, eq_self, chk_true, bnd_just, bnd2_just, app_t, beq_self_eq_true, mK_wI, mK_wL, mK_wR, mK_wIr, mK_wLr, mN_wI, mN_wL, mN_wR, mN_wIr, mN_wLr, mR_wI, mR_wL, mR_wIr, mR_wLr, mI_wL, mI_wR, mI_wLr, mL_wI, mL_wR, mL_wIr]; exact p4 i hi) N hN
  have hi2 : ∀ a j, ¬ (71 ≤ a ∧ a ≤ 73 ∧ (j = 0 ∨ j = 2)) → mI M' a j = mI M1 a j := fun a j q => by
    rw [s2.2.2.1 a j (by omega)]
    simp (disch := omega) only [q_eM, q_Me, q_Mlt, q_Mle, q_leM, q_ltM, q_le, q_nle, q_lt, q_nlt, q_neq, zin_nI, nI_clamp, nI_add, pk_mul, pk_sub, mI_e, mI_n, mL_e, mL_n, mR_e, mR_n, i0, i1, ↓reduceIte, ↓bI_t, ↓bI_f, Bool.false_eq_true, eq_self, chk_true, bnd_just, bnd2_just, app_t, beq_self_eq_true, mK_wI, mK_wL, mK_wR, mK_wIr, mK_wLr, mN_wI, mN_wL, mN_wR, mN_wIr, mN_wLr, mR_wI, mR_wL, mR_wIr, mR_wLr, mI_wL, mI_wR, mI_wLr, mL_wI, mL_wR, mL_wIr]
  have hl2 : ∀ a j, ¬ ((a = 74 ∨ a = 75) ∧ (j = 0 ∨ j = 2)) → ¬ ((a = 76 ∨ a = 77) ∧ j < 60) → mL M' a j = mL M1 a j := fun a j q1 q2 => by
    rw [s2.2.2.2 a j (by omega) (by omega)]
    simp (disch := omega) only [q_eM, q_Me, q_Mlt, q_Mle, q_leM, q_ltM, q_le, q_nle, q_lt, q_nlt, q_neq, zin_nI, nI_clamp, nI_add, pk_mul, pk_sub, mI_e, mI_n, mL_e, mL_n, mR_e, mR_n, i0, i1, ↓reduceIte, ↓bI_t, ↓bI_f, Bool.false_eq_true, eq_self, chk_true, bnd_just, bnd2_just, app_t, beq_self_eq_true, mK_wI, mK_wL, mK_wR, mK_wIr, mK_wLr, mN_wI, mN_wL, mN_wR, mN_wIr, mN_wLr, mR_wI, mR_wL, mR_wIr, mR_wLr, mI_wL, mI_wR, mI_wLr, mL_wI, mL_wR, mL_wIr]
  have hi68 : ∀ j, j ≠ 13 → j ≠ 14 → j ≠ 2 → mI M' 68 j = mI M 68 j := fun j q1 q2 q3 => by
    rw [hi2 68 j (by omega), r2.i 68 j (by omega), mI_n (by omega)]
  refine ⟨M', ?_, ⟨?_, fun a j => ?_, fun a j q => ⟨?_, ?_⟩⟩, hi68 0 (by omega) (by omega) (by omega), ?_, (hi68 5 (by omega) (by omega) (by omega)).trans hR.2.2.1, s3⟩
  · unfold fX10_read_75
    simp (disch := omega) only [q_eM, q_Me, q_Mlt, q_Mle, q_leM, q_ltM, q_le, q_nle, q_lt, q_nlt, q_neq, zin_nI, nI_clamp, nI_add, pk_mul, pk_sub, mI_e, mI_n, mL_e, mL_n, mR_e, mR_n, i0, i1, ↓reduceIte, ↓bI_t, ↓bI_f, Bool.false_eq_true, eq_self, chk_true, bnd_just, bnd2_just, app_t, beq_self_eq_true, mK_wI, mK_wL, mK_wR, mK_wIr, mK_wLr, mN_wI, mN_wL, mN_wR, mN_wIr, mN_wLr, mR_wI, mR_wL, mR_wIr, mR_wLr, mI_wL, mI_wR, mI_wLr, mL_wI, mL_wR, mL_wIr, ↓neg1, il_2, il_3, il_4, il_5, il_6, il_7, il_8, il_9, il_26, il_35, il_36, il_40, il_41, il_42, il_43, il_44, il_45, il_46, il_48, il_57, il_60, il_63, il_91, il_93, il_94, il_97, il_120, il_122, il_123, il_124, il_125, il_200, il_255, il_300, il_600, il_1023, il_1024, il_10800, sk_68 hS, hR.2.1, r1, sk_68 hS1, sk_72 hS1, sk_73 hS1, sk_74 hS1, sk_75 hS1, sk_86 hS1, sk_87 hS1, sk_88 hS1, sn_72 hS1, sn_73 hS1, sn_74 hS1, sn_75 hS1, sn_86 hS1, sn_87 hS1, sn_88 hS1, sr_68_7 hS1, sr_68_8 hS1, sr_68_9 hS1, sr_68_10 hS1, sr_68_23 hS1, sr_68_24 hS1, sr_68_25 hS1, p1, b1, b2, b3, bI_nar, s1]
  · rw [s2.1]; exact r2.1
  · rw [s2.2.1]; exact r2.2.1 a j
  · rw [hi2 a j (by omega), r2.i a j (by omega), mI_n (by omega)]
  · rw [hl2 a j (by omega) (by omega), r2.l a j (by omega)]; rfl
  · rw [hi2 68 2 (by omega), r2.i 68 2 (by omega), mI_e rfl rfl]
set_option maxHeartbeats 1000000 in
theorem m_read {M : zM} (hS : Sta M) {cs : List Nat} (hT : TypM M cs) (N : Nat) (hN : 1000 ≤ N) :
    (∃ A', pRun cs 0 (okS A0) = okS A' ∧ zWf A' ∧ aDp A' = 0 ∧ ∃ M', fX10_read N M 68 = some (nI 0, M') ∧ zMQ M M' ∧ mI M' 68 0 = nI 0 ∧ mI M' 68 2 = nI 0 ∧ mI M' 68 5 = iM ∧ PatM M' 0 (patA A')) ∨
    (∃ f q, f ≠ 0 ∧ f < 10 ∧ (pRun cs 0 (okS A0)).2.2.2 = (f, q) ∧ ∃ M', fX10_read N M 68 = some (nI f, M') ∧ zMF M M' ∧ mI M' 68 0 = nI 0 ∧ mI M' 68 2 = nI 0 ∧ mI M' 68 5 = nI q) := by
  have hl200 := hT.2.1
  have hS0 : Sta (wI (wI (wI (wI (wI (wI M 68 0 (nI 0)) 68 28 (nI 0)) 68 29 (nI 0)) 68 5 iM) 68 13 (nI 0)) 68 14 (nI 0)) := hS
  have eb := m_beginChoices hS0 (k := 0) (d := 0) (by simp (disch := omega) only [q_eM, q_Me, q_Mlt, q_Mle, q_leM, q_ltM, q_le, q_nle, q_lt, q_nlt, q_neq, zin_nI, nI_clamp, nI_add, pk_mul, pk_sub, mI_e, mI_n, mL_e, mL_n, mR_e, mR_n, i0, i1, ↓reduceIte, ↓bI_t, ↓bI_f, Bool.false_eq_true, eq_self, chk_true, bnd_just, bnd2_just, app_t, beq_self_eq_true, mK_wI, mK_wL, mK_wR, mK_wIr, mK_wLr, mN_wI, mN_wL, mN_wR, mN_wIr, mN_wLr, mR_wI, mR_wL, mR_wIr, mR_wLr, mI_wL, mI_wR, mI_wLr, mL_wI, mL_wR, mL_wIr]) (by simp (disch := omega) only [q_eM, q_Me, q_Mlt, q_Mle, q_leM, q_ltM, q_le, q_nle, q_lt, q_nlt, q_neq, zin_nI, nI_clamp, nI_add, pk_mul, pk_sub, mI_e, mI_n, mL_e, mL_n, mR_e, mR_n, i0, i1, ↓reduceIte, ↓bI_t, ↓bI_f, Bool.false_eq_true, eq_self, chk_true, bnd_just, bnd2_just, app_t, beq_self_eq_true, mK_wI, mK_wL, mK_wR, mK_wIr, mK_wLr, mN_wI, mN_wL, mN_wR, mN_wIr, mN_wLr, mR_wI, mR_wL, mR_wIr, mR_wLr, mI_wL, mI_wR, mI_wLr, mL_wI, mL_wR, mL_wIr]) (by omega) N
  obtain ⟨Mb, hMb⟩ : ∃ Mb, Mb = wI (wL (wL (wI (wI (wL (wL (wI (wI (wI (wI (wI (wI (wI M 68 0 (nI 0)) 68 28 (nI 0)) 68 29 (nI 0)) 68 5 iM) 68 13 (nI 0)) 68 14 (nI 0)) 86 0 (nI 0)) 87 0 0) 88 0 0) 89 0 (nI 0)) 78 0 (nI 1)) 79 0 0) 80 0 0) 81 0 (nI 0) := ⟨_, rfl⟩
  rw [← hMb] at eb
  have hSb : Sta Mb := by rw [hMb]; exact Sta_of hS rfl rfl
  have hRb : ReaM Mb cs A0 0 := by
    rw [hMb]
    refine ⟨?_, ?_, ?_, ⟨⟨?_, by omega, fun i hi => by omega, fun i hi => by omega⟩, ?_, ⟨by omega, fun e he => ?_⟩, ?_, fun q => by cases q⟩, ?_, hT.2.1, fun i hi => ?_, hT.2.2.2⟩
    · simp (disch := omega) only [q_eM, q_Me, q_Mlt, q_Mle, q_leM, q_ltM, q_le, q_nle, q_lt, q_nlt, q_neq, zin_nI, nI_clamp, nI_add, pk_mul, pk_sub, mI_e, mI_n, mL_e, mL_n, mR_e, mR_n, i0, i1, ↓reduceIte, ↓bI_t, ↓bI_f, Bool.false_eq_true, eq_self, chk_true, bnd_just, bnd2_just, app_t, beq_self_eq_true, mK_wI, mK_wL, mK_wR, mK_wIr, mK_wLr, mN_wI, mN_wL, mN_wR, mN_wIr, mN_wLr, mR_wI, mR_wL, mR_wIr, mR_wLr, mI_wL, mI_wR, mI_wLr, mL_wI, mL_wR, mL_wIr]
    · simp (disch := omega) only [q_eM, q_Me, q_Mlt, q_Mle, q_leM, q_ltM, q_le, q_nle, q_lt, q_nlt, q_neq, zin_nI, nI_clamp, nI_add, pk_mul, pk_sub, mI_e, mI_n, mL_e, mL_n, mR_e, mR_n, i0, i1, ↓reduceIte, ↓bI_t, ↓bI_f, Bool.false_eq_true, eq_self, chk_true, bnd_just, bnd2_just, app_t, beq_self_eq_true, mK_wI, mK_wL, mK_wR, mK_wIr, mK_wLr, mN_wI, mN_wL, mN_wR, mN_wIr, mN_wLr, mR_wI, mR_wL, mR_wIr, mR_wLr, mI_wL, mI_wR, mI_wLr, mL_wI, mL_wR, mL_wIr]
    · simp (disch := omega) only [q_eM, q_Me, q_Mlt, q_Mle, q_leM, q_ltM, q_le, q_nle, q_lt, q_nlt, q_neq, zin_nI, nI_clamp, nI_add, pk_mul, pk_sub, mI_e, mI_n, mL_e, mL_n, mR_e, mR_n, i0, i1, ↓reduceIte, ↓bI_t, ↓bI_f, Bool.false_eq_true, eq_self, chk_true, bnd_just, bnd2_just, app_t, beq_self_eq_true, mK_wI, mK_wL, mK_wR, mK_wIr, mK_wLr, mN_wI, mN_wL, mN_wR, mN_wIr, mN_wLr, mR_wI, mR_wL, mR_wIr, mR_wLr, mI_wL, mI_wR, mI_wLr, mL_wI, mL_wR, mL_wIr]
    · simp (disch := omega) only [q_eM, q_Me, q_Mlt, q_Mle, q_leM, q_ltM, q_le, q_nle, q_lt, q_nlt, q_neq, zin_nI, nI_clamp, nI_add, pk_mul, pk_sub, mI_e, mI_n, mL_e, mL_n, mR_e, mR_n, i0, i1, ↓reduceIte, ↓bI_t, ↓bI_f, Bool.false_eq_true, eq_self, chk_true, bnd_just, bnd2_just, app_t, beq_self_eq_true, mK_wI, mK_wL, mK_wR, mK_wIr, mK_wLr, mN_wI, mN_wL, mN_wR, mN_wIr, mN_wLr, mR_wI, mR_wL, mR_wIr, mR_wLr, mI_wL, mI_wR, mI_wLr, mL_wI, mL_wR, mL_wIr]
    · simp (disch := omega) only [q_eM, q_Me, q_Mlt, q_Mle, q_leM, q_ltM, q_le, q_nle, q_lt, q_nlt, q_neq, zin_nI, nI_clamp, nI_add, pk_mul, pk_sub, mI_e, mI_n, mL_e, mL_n, mR_e, mR_n, i0, i1, ↓reduceIte, ↓bI_t, ↓bI_f, Bool.false_eq_true, eq_self, chk_true, bnd_just, bnd2_just, app_t, beq_self_eq_true, mK_wI, mK_wL, mK_wR, mK_wIr, mK_wLr, mN_wI, mN_wL, mN_wR, mN_wIr, mN_wLr, mR_wI, mR_wL, mR_wIr, mR_wLr, mI_wL, mI_wR, mI_wLr, mL_wI, mL_wR, mL_wIr]
    · have he0 : e = 0 := by omega
      subst he0
      refine ⟨⟨?_, ?_, ?_⟩, ⟨?_, ?_, ?_⟩, ?_⟩ <;> simp (disch := omega) only [q_eM, q_Me, q_Mlt, q_Mle, q_leM, q_ltM, q_le, q_nle, q_lt, q_nlt, q_neq, zin_nI, nI_clamp, nI_add, pk_mul, pk_sub, mI_e, mI_n, mL_e, mL_n, mR_e, mR_n, i0, i1, ↓reduceIte, ↓bI_t, ↓bI_f, Bool.false_eq_true, eq_self, chk_true, bnd_just, bnd2_just, app_t, beq_self_eq_true, mK_wI, mK_wL, mK_wR, mK_wIr, mK_wLr, mN_wI, mN_wL, mN_wR, mN_wIr, mN_wLr, mR_wI, mR_wL, mR_wIr, mR_wLr, mI_wL, mI_wR, mI_wLr, mL_wI, mL_wR, mL_wIr]
    · simp (disch := omega) only [q_eM, q_Me, q_Mlt, q_Mle, q_leM, q_ltM, q_le, q_nle, q_lt, q_nlt, q_neq, zin_nI, nI_clamp, nI_add, pk_mul, pk_sub, mI_e, mI_n, mL_e, mL_n, mR_e, mR_n, i0, i1, ↓reduceIte, ↓bI_t, ↓bI_f, Bool.false_eq_true, eq_self, chk_true, bnd_just, bnd2_just, app_t, beq_self_eq_true, mK_wI, mK_wL, mK_wR, mK_wIr, mK_wLr, mN_wI, mN_wL, mN_wR, mN_wIr, mN_wLr, mR_wI, mR_wL, mR_wIr, mR_wLr, mI_wL, mI_wR, mI_wLr, mL_wI, mL_wR, mL_wIr]
    · simp (disch := omega) only [q_eM, q_Me, q_Mlt, q_Mle, q_leM, q_ltM, q_le, q_nle, q_lt, q_nlt, q_neq, zin_nI, nI_clamp, nI_add, pk_mul, pk_sub, mI_e, mI_n, mL_e, mL_n, mR_e, mR_n, i0, i1, ↓reduceIte, ↓bI_t, ↓bI_f, Bool.false_eq_true, eq_self, chk_true, bnd_just, bnd2_just, app_t, beq_self_eq_true, mK_wI, mK_wL, mK_wR, mK_wIr, mK_wLr, mN_wI, mN_wL, mN_wR, mN_wIr, mN_wLr, mR_wI, mR_wL, mR_wIr, mR_wLr, mI_wL, mI_wR, mI_wLr, mL_wI, mL_wR, mL_wIr]; exact hT.1
    · simp (disch := omega) only [q_eM, q_Me, q_Mlt, q_Mle, q_leM, q_ltM, q_le, q_nle, q_lt, q_nlt, q_neq, zin_nI, nI_clamp, nI_add, pk_mul, pk_sub, mI_e, mI_n, mL_e, mL_n, mR_e, mR_n, i0, i1, ↓reduceIte, ↓bI_t, ↓bI_f, Bool.false_eq_true, eq_self, chk_true, bnd_just, bnd2_just, app_t, beq_self_eq_true, mK_wI, mK_wL, mK_wR, mK_wIr, mK_wLr, mN_wI, mN_wL, mN_wR, mN_wIr, mN_wLr, mR_wI, mR_wL, mR_wIr, mR_wLr, mI_wL, mI_wR, mI_wLr, mL_wI, mL_wR, mL_wIr]; exact hT.2.2.1 i hi
  have hFb : zMF M Mb := by
    rw [hMb]
    refine ⟨rfl, fun _ _ => rfl, fun a j q => ⟨?_, ?_⟩⟩ <;> simp (disch := omega) only [q_eM, q_Me, q_Mlt, q_Mle, q_leM, q_ltM, q_le, q_nle, q_lt, q_nlt, q_neq, zin_nI, nI_clamp, nI_add, pk_mul, pk_sub, mI_e, mI_n, mL_e, mL_n, mR_e, mR_n, i0, i1, ↓reduceIte, ↓bI_t, ↓bI_f, Bool.false_eq_true, eq_self, chk_true, bnd_just, bnd2_just, app_t, beq_self_eq_true, mK_wI, mK_wL, mK_wR, mK_wIr, mK_wLr, mN_wI, mN_wL, mN_wR, mN_wIr, mN_wLr, mR_wI, mR_wL, mR_wIr, mR_wLr, mI_wL, mI_wR, mI_wLr, mL_wI, mL_wR, mL_wIr]
  have h0b : mI Mb 68 0 = nI 0 := by rw [hMb]; simp (disch := omega) only [q_eM, q_Me, q_Mlt, q_Mle, q_leM, q_ltM, q_le, q_nle, q_lt, q_nlt, q_neq, zin_nI, nI_clamp, nI_add, pk_mul, pk_sub, mI_e, mI_n, mL_e, mL_n, mR_e, mR_n, i0, i1, ↓reduceIte, ↓bI_t, ↓bI_f, Bool.false_eq_true, eq_self, chk_true, bnd_just, bnd2_just, app_t, beq_self_eq_true, mK_wI, mK_wL, mK_wR, mK_wIr, mK_wLr, mN_wI, mN_wL, mN_wR, mN_wIr, mN_wLr, mR_wI, mR_wL, mR_wIr, mR_wLr, mI_wL, mI_wR, mI_wLr, mL_wI, mL_wR, mL_wIr]
  have e1 : fX10_read N M 68 = fX10_read_34 N Mb 68 := by
    unfold fX10_read
    simp (disch := omega) only [chk_true, bnd_just, bnd2_just, app_t, beq_self_eq_true, mK_wI, mK_wL, mK_wR, mK_wIr, mK_wLr, mN_wI, mN_wL, mN_wR, mN_wIr, mN_wLr, mR_wI, mR_wL, mR_wIr, mR_wLr, mI_wL, mI_wR, mI_wLr, mL_wI, mL_wR, mL_wIr, sk_68 hS, i0, ↓neg1, eb]
  rw [e1]
  obtain ⟨M1, n1, hn1, s1, s2, s3⟩ := m_loop 200 0 N Mb A0 (by omega) (by omega) (by omega) hSb hRb Wf_A0
  have hS1 := s2.sta hSb
  have hF1 : zMF M M1 := ⟨s2.1.trans hFb.1, fun a j => (s2.2.1 a j).trans (hFb.2.1 a j), fun a j q => ⟨((s2.2.2 a j (by omega)).1).trans (hFb.2.2 a j q).1, ((s2.2.2 a j (by omega)).2).trans (hFb.2.2 a j q).2⟩⟩
  have h01 : mI M1 68 0 = nI 0 := ((s2.2.2 68 0 (by omega)).1).trans h0b
  rw [List.drop_zero] at s3
  rw [s1]
  have hbad : ∀ (M2 : zM) (f q : Nat), mBad M2 f q → zMF M M2 → mI M2 68 0 = nI 0 → Sta M2 → ∃ M', fX10_read_75 n1 M2 68 = some (nI f, M') ∧ zMF M M' ∧ mI M' 68 0 = nI 0 ∧ mI M' 68 2 = nI 0 ∧ mI M' 68 5 = nI q := by
    intro M2 f q hb hF h0 hS2
    obtain ⟨b1, b2, b3, b4⟩ := hb
    refine ⟨wI M2 68 2 (nI 0), ?_, ⟨hF.1, hF.2.1, fun a j qq => ⟨?_, (hF.2.2 a j qq).2⟩⟩, ?_, ?_, ?_⟩
    · unfold fX10_read_75
      simp (disch := omega) only [q_eM, q_Me, q_Mlt, q_Mle, q_leM, q_ltM, q_le, q_nle, q_lt, q_nlt, q_neq, zin_nI, nI_clamp, nI_add, pk_mul, pk_sub, mI_e, mI_n, mL_e, mL_n, mR_e, mR_n, i0, i1, ↓reduceIte, ↓bI_t, ↓bI_f, Bool.false_eq_true, eq_self, chk_true, bnd_just, bnd2_just, app_t, beq_self_eq_true, mK_wI, mK_wL, mK_wR, mK_wIr, mK_wLr, mN_wI, mN_wL, mN_wR, mN_wIr, mN_wLr, mR_wI, mR_wL, mR_wIr, mR_wLr, mI_wL, mI_wR, mI_wLr, mL_wI, mL_wR, mL_wIr, sk_68 hS2, b3]
    · rw [mI_n (by omega)]; exact (hF.2.2 a j qq).1
    · rw [mI_n (by omega)]; exact h0
    · rw [mI_e rfl rfl]
    · rw [mI_n (by omega)]; exact b4
  rcases s3 with ⟨A', h1, h2, h3⟩ | ⟨f, q, h1, h2⟩
  · have g13 : mI M1 68 13 = nI (aDp A') := h2.2.2.2.1.2.1
    have gd8 : aDp A' ≤ 8 := h2.2.2.2.1.2.2.1.1
    by_cases hd : 0 < aDp A'
    · rw [if_pos hd] at h1
      right
      have hFm : zMF M (wI (wI M1 68 29 (nI 2)) 68 5 (nI cs.length)) := ⟨hF1.1, hF1.2.1, fun a j qq => ⟨by rw [mI_n (by omega), mI_n (by omega)]; exact (hF1.2.2 a j qq).1, (hF1.2.2 a j qq).2⟩⟩
      obtain ⟨M', t1, t2⟩ := hbad (wI (wI M1 68 29 (nI 2)) 68 5 (nI cs.length)) 2 cs.length ⟨by omega, by omega, by simp (disch := omega) only [q_eM, q_Me, q_Mlt, q_Mle, q_leM, q_ltM, q_le, q_nle, q_lt, q_nlt, q_neq, zin_nI, nI_clamp, nI_add, pk_mul, pk_sub, mI_e, mI_n, mL_e, mL_n, mR_e, mR_n, i0, i1, ↓reduceIte, ↓bI_t, ↓bI_f, Bool.false_eq_true, eq_self, chk_true, bnd_just, bnd2_just, app_t, beq_self_eq_true, mK_wI, mK_wL, mK_wR, mK_wIr, mK_wLr, mN_wI, mN_wL, mN_wR, mN_wIr, mN_wLr, mR_wI, mR_wL, mR_wIr, mR_wLr, mI_wL, mI_wR, mI_wLr, mL_wI, mL_wR, mL_wIr], by simp (disch := omega) only [q_eM, q_Me, q_Mlt, q_Mle, q_leM, q_ltM, q_le, q_nle, q_lt, q_nlt, q_neq, zin_nI, nI_clamp, nI_add, pk_mul, pk_sub, mI_e, mI_n, mL_e, mL_n, mR_e, mR_n, i0, i1, ↓reduceIte, ↓bI_t, ↓bI_f, Bool.false_eq_true, eq_self, chk_true, bnd_just, bnd2_just, app_t, beq_self_eq_true, mK_wI, mK_wL, mK_wR, mK_wIr, mK_wLr, mN_wI, mN_wL, mN_wR, mN_wIr, mN_wLr, mR_wI, mR_wL, mR_wIr, mR_wLr, mI_wL, mI_wR, mI_wLr, mL_wI, mL_wR, mL_wIr]⟩ hFm (by simp (disch := omega) only [q_eM, q_Me, q_Mlt, q_Mle, q_leM, q_ltM, q_le, q_nle, q_lt, q_nlt, q_neq, zin_nI, nI_clamp, nI_add, pk_mul, pk_sub, mI_e, mI_n, mL_e, mL_n, mR_e, mR_n, i0, i1, ↓reduceIte, ↓bI_t, ↓bI_f, Bool.false_eq_true, eq_self, chk_true, bnd_just, bnd2_just, app_t, beq_self_eq_true, mK_wI, mK_wL, mK_wR, mK_wIr, mK_wLr, mN_wI, mN_wL, mN_wR, mN_wIr, mN_wLr, mR_wI, mR_wL, mR_wIr, mR_wLr, mI_wL, mI_wR, mI_wLr, mL_wI, mL_wR, mL_wIr, h01]) hS1
      refine ⟨2, cs.length, by omega, by omega, by rw [h1]; rfl, M', ?_, t2⟩
      unfold fX10_read_59
      simp (disch := omega) only [q_eM, q_Me, q_Mlt, q_Mle, q_leM, q_ltM, q_le, q_nle, q_lt, q_nlt, q_neq, zin_nI, nI_clamp, nI_add, pk_mul, pk_sub, mI_e, mI_n, mL_e, mL_n, mR_e, mR_n, i0, i1, ↓reduceIte, ↓bI_t, ↓bI_f, Bool.false_eq_true, eq_self, chk_true, bnd_just, bnd2_just, app_t, beq_self_eq_true, mK_wI, mK_wL, mK_wR, mK_wIr, mK_wLr, mN_wI, mN_wL, mN_wR, mN_wIr, mN_wLr, mR_wI, mR_wL, mR_wIr, mR_wLr, mI_wL, mI_wR, mI_wLr, mL_wI, mL_wR, mL_wIr, il_2, sk_68 hS1, g13, h2.2.2.2.2.1, m_fail hS1 h2.2.1]
      exact t1
    · rw [if_neg hd] at h1
      left
      obtain ⟨M', t1, t2, t3, t4, t5, t6⟩ := m_read75 hS1 h2 (by omega) n1 (by omega)
      refine ⟨A', h1, h3, by omega, M', ?_, ⟨t2.1.trans hF1.1, fun a j => (t2.2.1 a j).trans (hF1.2.1 a j), fun a j qq => ⟨((t2.2.2 a j qq).1).trans (hF1.2.2 a j (by omega)).1, ((t2.2.2 a j qq).2).trans (hF1.2.2 a j (by omega)).2⟩⟩, t3.trans h01, t4, t5, t6⟩
      unfold fX10_read_59
      simp (disch := omega) only [q_eM, q_Me, q_Mlt, q_Mle, q_leM, q_ltM, q_le, q_nle, q_lt, q_nlt, q_neq, zin_nI, nI_clamp, nI_add, pk_mul, pk_sub, mI_e, mI_n, mL_e, mL_n, mR_e, mR_n, i0, i1, ↓reduceIte, ↓bI_t, ↓bI_f, Bool.false_eq_true, eq_self, chk_true, bnd_just, bnd2_just, app_t, beq_self_eq_true, mK_wI, mK_wL, mK_wR, mK_wIr, mK_wLr, mN_wI, mN_wL, mN_wR, mN_wIr, mN_wLr, mR_wI, mR_wL, mR_wIr, mR_wLr, mI_wL, mI_wR, mI_wLr, mL_wI, mL_wR, mL_wIr, sk_68 hS1, g13]
      exact t1
  · right
    obtain ⟨M', t1, t2⟩ := hbad M1 f q h1 hF1 h01 hS1
    refine ⟨f, q, h1.1, h1.2.1, h2, M', ?_, t2⟩
    unfold fX10_read_59
    simp only [chk_true, bnd_just, bnd2_just, app_t, beq_self_eq_true, mK_wI, mK_wL, mK_wR, mK_wIr, mK_wLr, mN_wI, mN_wL, mN_wR, mN_wIr, mN_wLr, mR_wI, mR_wL, mR_wIr, mR_wLr, mI_wL, mI_wR, mI_wLr, mL_wI, mL_wR, mL_wIr, sk_68 hS1]
    by_cases hc : mI M1 68 13 ≤ 0
    · rw [if_pos hc]; exact t1
    · rw [if_neg hc]
      have ef : fX10_fail n1 M1 68 2 (mI M1 68 2) = some ((), M1) := by
        unfold fX10_fail
        simp only [chk_true, bnd_just, bnd2_just, app_t, beq_self_eq_true, mK_wI, mK_wL, mK_wR, mK_wIr, mK_wLr, mN_wI, mN_wL, mN_wR, mN_wIr, mN_wLr, mR_wI, mR_wL, mR_wIr, mR_wLr, mI_wL, mI_wR, mI_wLr, mL_wI, mL_wR, mL_wIr, sk_68 hS1]
        rw [if_neg (by rw [h1.2.2.1, i0, neq (by have := h1.2.1; omega) (by omega)]; exact h1.1)]
      rw [ef]; exact t1
end ZMREAD5
