/-! the model reads: sets -/
section ZMREAD2
theorem ReaM.ml {M M' : zM} {cs : List Nat} {A A' : LA} {p : Nat} (h : ReaM M cs A p) (g : ML M M') (hL : LayM M' A') : ReaM M' cs A' p :=
  ⟨(g.i _ _ (by omega)).trans h.1, (g.i _ _ (by omega)).trans h.2.1, (g.i _ _ (by omega)).trans h.2.2.1, hL, (MR.ml g).typ h.2.2.2.2⟩
theorem m_atomS {M : zM} (hS : Sta M) {cs : List Nat} {A : LA} {p p0 : Nat} (h : ReaM M cs A p) (hW : zWf A) (hp0 : p0 < p) (hp : p ≤ cs.length) (x : Int64) (o N : Nat) (hN : 61 ≤ N) :
    ∃ M', fX10_atom N M 68 x (nI o) = some ((), M') ∧ MR M M' ∧ zOut M' cs p0 (pRun (cs.drop p) p (pAtom A x o)) := by
  have hk : A.1 ≤ 60 := h.2.2.2.1.1.2.1
  have hat := m_atom hS h.2.2.2.1 x (nI o) N hN
  unfold pAtom
  by_cases hk2 : A.1 < 60
  · rw [if_pos hk2]
    obtain ⟨M', r1, r2, r3⟩ := hat.1 hk2
    exact ⟨M', r1, MR.ml r2, Or.inl ⟨_, p, hp0, hp, h.ml r2 r3, Wf_Add (Wf_J hW) (by rw [aJ_k]; exact hk2) x, rfl⟩⟩
  · rw [if_neg hk2]
    refine ⟨_, hat.2 (by omega) h.2.1, (MR.rf.wI (by omega) _).wI (by omega) _, Or.inr ⟨4, o, ⟨by omega, by omega, by simp (disch := omega) only [q_eM, q_Me, q_Mlt, q_Mle, q_leM, q_ltM, q_le, q_nle, q_lt, q_nlt, q_neq, zin_nI, nI_clamp, nI_add, pk_mul, pk_sub, mI_e, mI_n, mL_e, mL_n, mR_e, mR_n, i0, i1, ↓reduceIte, ↓bI_t, ↓bI_f, Bool.false_eq_true, eq_self, chk_true, bnd_just, bnd2_just, app_t, beq_self_eq_true, mK_wI, mK_wL, mK_wR, mK_wIr, mK_wLr, mN_wI, mN_wL, mN_wR, mN_wIr, mN_wLr, mR_wI, mR_wL, mR_wIr, mR_wLr, mI_wL, mI_wR, mI_wLr, mL_wI, mL_wR, mL_wIr], by simp (disch := omega) only [q_eM, q_Me, q_Mlt, q_Mle, q_leM, q_ltM, q_le, q_nle, q_lt, q_nlt, q_neq, zin_nI, nI_clamp, nI_add, pk_mul, pk_sub, mI_e, mI_n, mL_e, mL_n, mR_e, mR_n, i0, i1, ↓reduceIte, ↓bI_t, ↓bI_f, Bool.false_eq_true, eq_self, chk_true, bnd_just, bnd2_just, app_t, beq_self_eq_true, mK_wI, mK_wL, mK_wR, mK_wIr, mK_wLr, mN_wI, mN_wL, mN_wR, mN_wIr, mN_wLr, mR_wI, mR_wL, mR_wIr, mR_wLr, mI_wL, mI_wR, mI_wLr, mL_wI, mL_wR, mL_wIr]⟩, ?_⟩⟩
    rw [pRun_f (by simp [zbad])]; rfl
/-- once something is wrong the set is left -/
theorem set_flt {M : zM} (hS : Sta M) {f : Nat} (hf : f ≠ 0) (hf2 : f < 10) (h : mI M 68 29 = nI f) (v1 v2 : Int32) (s : Int64) (v5 v6 : Int32) (n : Nat) : fX10_readSet_51 (n + 1) M 68 v1 v2 s v5 v6 = some ((), M) := by
  rw [fX10_readSet_51]
  unfold fX10_readSet_226
  simp (disch := omega) only [q_eM, q_Me, q_Mlt, q_Mle, q_leM, q_ltM, q_le, q_nle, q_lt, q_nlt, q_neq, zin_nI, nI_clamp, nI_add, pk_mul, pk_sub, mI_e, mI_n, mL_e, mL_n, mR_e, mR_n, i0, i1, ↓reduceIte, ↓bI_t, ↓bI_f, Bool.false_eq_true, eq_self, chk_true, bnd_just, bnd2_just, app_t, beq_self_eq_true, mK_wI, mK_wL, mK_wR, mK_wIr, mK_wLr, mN_wI, mN_wL, mN_wR, mN_wIr, mN_wLr, mR_wI, mR_wL, mR_wIr, mR_wLr, mI_wL, mI_wR, mI_wLr, mL_wI, mL_wR, mL_wIr, sk_68 hS, h, ite_self]
theorem set_152 {M : zM} (hS : Sta M) {f : Nat} (hf : f ≠ 0) (hf2 : f < 10) (h : mI M 68 29 = nI f) (v1 v2 : Int32) (s : Int64) (v6 v7 v9 : Int32) (n m : Nat) : fX10_readSet_152 (fX10_readSet_51 (n + 1)) m M 68 v1 v2 s v6 v7 v9 = some ((), wI M 68 28 (mI M 68 28 + 1)) := by
  unfold fX10_readSet_152 fX10_readSet_162 fX10_readSet_182 fX10_readSet_223
  simp only [chk_true, bnd_just, bnd2_just, app_t, beq_self_eq_true, mK_wI, mK_wL, mK_wR, mK_wIr, mK_wLr, mN_wI, mN_wL, mN_wR, mN_wIr, mN_wLr, mR_wI, mR_wL, mR_wIr, mR_wLr, mI_wL, mI_wR, mI_wLr, mL_wI, mL_wR, mL_wIr, sk_68 hS]
  rw [if_neg (by rw [mI_n (by omega), h, i0, neq (by omega) (by omega)]; exact hf)]
  exact set_flt (M := wI M 68 28 (mI M 68 28 + 1)) hS hf hf2 (by rw [mI_n (by omega)]; exact h) _ _ _ _ _ _
theorem hI_neq {cs : List Nat} {p k : Nat} (hk : k < 2 ^ 31) (hc : ∀ q, cs.getD q 0 < 256) (h : ¬ (p < cs.length ∧ cs.getD p 0 = k)) : ¬ hI cs p = nI k := by
  unfold hI
  have := hc p
  by_cases hl : p < cs.length
  · rw [if_pos hl, neq (by omega) hk]; exact fun q => h ⟨hl, q⟩
  · rw [if_neg hl]; exact fun q => by rw [q_Me hk] at q; exact q
theorem hI_at {cs : List Nat} {p : Nat} (hl : p < cs.length) : hI cs p = nI (cs.getD p 0) := if_pos hl
theorem hL_no {cs : List Nat} {p : Nat} (h : p < cs.length → ltr (cs.getD p 0) = none) : hL cs p = iM := by
  unfold hL
  by_cases hl : p < cs.length
  · rw [if_pos hl]; exact lI_no (h hl)
  · rw [if_neg hl]
theorem hL_at {cs : List Nat} {p l : Nat} (hl : p < cs.length) (h : ltr (cs.getD p 0) = some l) : hL cs p = nI l := by
  unfold hL
  rw [if_pos hl]; exact lI_some h
theorem mode3 {cs : List Nat} {p : Nat} {A : LA} {o : Nat} {s : Int64} {ng : Bool} {ll la : Nat} (h : p < cs.length → cs.getD p 0 ≠ 45) : pRun (cs.drop p) p (A, 3, (o, s, ng, ll, la, 0, 0), 0, 0) = pRun (cs.drop p) p (A, 5, (o, s, ng, 0, 0, 0, 0), 0, 0) := by
  by_cases hl : p < cs.length
  · rw [pRun_1 rfl hl, pRun_1 rfl hl]
    congr 1
    have hc := h hl
    generalize cs.getD p 0 = c at hc ⊢
    unfold pStep pSet
    simp [hc]
  · rw [drop_ge (by omega)]
    simp [pRun]
theorem mode1 {cs : List Nat} {p : Nat} {A : LA} {o : Nat} {s : Int64} {ng : Bool} (h : p < cs.length → cs.getD p 0 ≠ 94) : pRun (cs.drop p) p (A, 1, (o, s, ng, 0, 0, 0, 0), 0, 0) = pRun (cs.drop p) p (A, 2, (o, s, ng, 0, 0, 0, 0), 0, 0) := by
  by_cases hl : p < cs.length
  · rw [pRun_1 rfl hl, pRun_1 rfl hl]
    congr 1
    have hc := h hl
    generalize cs.getD p 0 = c at hc ⊢
    unfold pStep pSet
    simp [hc]
  · rw [drop_ge (by omega)]
    simp [pRun]
def sMode (sm : Bool) : Nat := if sm then 5 else 2
theorem m_set {cs : List Nat} {A : LA} (hW : zWf A) {o : Nat} {ng : Bool} {p0 : Nat} : ∀ (k p fuel : Nat) (M : zM) (s : Int64) (sm : Bool), cs.length ≤ p + k → p ≤ cs.length → p0 ≤ p → k + 99 < fuel → Sta M → ReaM M cs A p →
    ∃ M', fX10_readSet_51 fuel M 68 (nI o) (bI ng) s (bI sm) (nI 1) = some ((), M') ∧ MR M M' ∧ zOut M' cs p0 (pRun (cs.drop p) p (A, sMode sm, (o, s, ng, 0, 0, 0, 0), 0, 0)) := by
  intro k
  induction k using Nat.strongRecOn with
  | ind k ih =>
    intro p fuel M s sm hk hp hp0 hf hS hR
    obtain ⟨f, rfl⟩ := suc fuel (by omega)
    obtain ⟨f', hf'⟩ := suc f (by omega)
    have hT := hR.2.2.2.2
    have hl200 := hT.2.1
    have hc : ∀ q, cs.getD q 0 < 256 := typ_lt hT
    have hf0 := hR.2.1
    have hat := hR.1
    have e_here := m_here hS hR (by omega) f
    have e_let := m_letH hT p f
    have hm0 : sMode sm ≠ 0 := by cases sm <;> decide
    have efail : (p < cs.length → pStep (A, sMode sm, (o, s, ng, 0, 0, 0, 0), 0, 0) p (cs.getD p 0) = zbad A 1 p) → hL cs p = iM → ¬ (hI cs p = nI 93 ∧ sm = true) →
        ∃ M', fX10_readSet_51 (f + 1) M 68 (nI o) (bI ng) s (bI sm) (nI 1) = some ((), M') ∧ MR M M' ∧ zOut M' cs p0 (pRun (cs.drop p) p (A, sMode sm, (o, s, ng, 0, 0, 0, 0), 0, 0)) := by
      intro hbad hl h93
      have e_f := m_failHere hS hR (by omega) f
      have hq : (if p < cs.length then 1 else 2) ≠ 0 ∧ (if p < cs.length then 1 else 2) < 10 := by split <;> omega
      refine ⟨wI (wI M 68 29 (nI (if p < cs.length then 1 else 2))) 68 5 (nI p), ?_, (MR.rf.wI (by omega) _).wI (by omega) _, Or.inr ⟨_, p, ⟨hq.1, hq.2, by simp (disch := omega) only [q_eM, q_Me, q_Mlt, q_Mle, q_leM, q_ltM, q_le, q_nle, q_lt, q_nlt, q_neq, zin_nI, nI_clamp, nI_add, pk_mul, pk_sub, mI_e, mI_n, mL_e, mL_n, mR_e, mR_n, i0, i1, ↓reduceIte, ↓bI_t, ↓bI_f, Bool.false_eq_true, eq_self, chk_true, bnd_just, bnd2_just, app_t, beq_self_eq_true, mK_wI, mK_wL, mK_wR, mK_wIr, mK_wLr, mN_wI, mN_wL, mN_wR, mN_wIr, mN_wLr, mR_wI, mR_wL, mR_wIr, mR_wLr, mI_wL, mI_wR, mI_wLr, mL_wI, mL_wR, mL_wIr], by simp (disch := omega) only [q_eM, q_Me, q_Mlt, q_Mle, q_leM, q_ltM, q_le, q_nle, q_lt, q_nlt, q_neq, zin_nI, nI_clamp, nI_add, pk_mul, pk_sub, mI_e, mI_n, mL_e, mL_n, mR_e, mR_n, i0, i1, ↓reduceIte, ↓bI_t, ↓bI_f, Bool.false_eq_true, eq_self, chk_true, bnd_just, bnd2_just, app_t, beq_self_eq_true, mK_wI, mK_wL, mK_wR, mK_wIr, mK_wLr, mN_wI, mN_wL, mN_wR, mN_wIr, mN_wLr, mR_wI, mR_wL, mR_wIr, mR_wLr, mI_wL, mI_wR, mI_wLr, mL_wI, mL_wR, mL_wIr]⟩, pRun_stop rfl hm0 hbad⟩⟩
      have e219 : fX10_readSet_219 (fX10_readSet_51 f) f M 68 (nI o) (bI ng) s (bI sm) (nI 1) = some ((), wI (wI M 68 29 (nI (if p < cs.length then 1 else 2))) 68 5 (nI p)) := by
        unfold fX10_readSet_219 fX10_readSet_223
        simp only [chk_true, bnd_just, bnd2_just, app_t, beq_self_eq_true, mK_wI, mK_wL, mK_wR, mK_wIr, mK_wLr, mN_wI, mN_wL, mN_wR, mN_wIr, mN_wLr, mR_wI, mR_wL, mR_wIr, mR_wLr, mI_wL, mI_wR, mI_wLr, mL_wI, mL_wR, mL_wIr, sk_68 hS, e_f]
        rw [hf']
        exact set_flt (M := wI (wI M 68 29 (nI (if p < cs.length then 1 else 2))) 68 5 (nI p)) hS hq.1 hq.2 (by simp (disch := omega) only [q_eM, q_Me, q_Mlt, q_Mle, q_leM, q_ltM, q_le, q_nle, q_lt, q_nlt, q_neq, zin_nI, nI_clamp, nI_add, pk_mul, pk_sub, mI_e, mI_n, mL_e, mL_n, mR_e, mR_n, i0, i1, ↓reduceIte, ↓bI_t, ↓bI_f, Bool.false_eq_true, eq_self, chk_true, bnd_just, bnd2_just, app_t, beq_self_eq_true, mK_wI, mK_wL, mK_wR, mK_wIr, mK_wLr, mN_wI, mN_wL, mN_wR, mN_wIr, mN_wLr, mR_wI, mR_wL, mR_wIr, mR_wLr, mI_wL, mI_wR, mI_wLr, mL_wI, mL_wR, mL_wIr]) _ _ _ _ _ _
      rw [fX10_readSet_51]
      rw [hl] at e_let
      simp (disch := omega) only [q_eM, q_Me, q_Mlt, q_Mle, q_leM, q_ltM, q_le, q_nle, q_lt, q_nlt, q_neq, zin_nI, nI_clamp, nI_add, pk_mul, pk_sub, mI_e, mI_n, mL_e, mL_n, mR_e, mR_n, i0, i1, ↓reduceIte, ↓bI_t, ↓bI_f, Bool.false_eq_true, eq_self, chk_true, bnd_just, bnd2_just, app_t, beq_self_eq_true, mK_wI, mK_wL, mK_wR, mK_wIr, mK_wLr, mN_wI, mN_wL, mN_wR, mN_wIr, mN_wLr, mR_wI, mR_wL, mR_wIr, mR_wLr, mI_wL, mI_wR, mI_wLr, mL_wI, mL_wR, mL_wIr, il_93, sk_68 hS, hf0, e_here, e_let, e219]
      by_cases h9 : hI cs p = nI 93
      · rw [if_pos h9]
        have : sm = false := by cases sm <;> simp_all
        subst this
        rw [if_pos (by decide)]
      · rw [if_neg h9]
    by_cases hl : p < cs.length
    · cases hlt : ltr (cs.getD p 0) with
      | none =>
        have hln := hL_no (fun _ => hlt)
        by_cases h93 : cs.getD p 0 = 93 ∧ sm = true
        · obtain ⟨h93, rfl⟩ := h93
          have hR1 := hR.at (p + 1)
          have hS1 : Sta (wI M 68 28 (nI (p + 1))) := hS
          obtain ⟨M', r1, r2, r3⟩ := m_atomS (p0 := p0) hS1 hR1 hW (by omega) (by omega) (if ng then allB &&& (s ^^^ (-1)) else s) o f' (by omega)
          refine ⟨M', ?_, (MR.rf.wI (by omega) _).tr r2, ?_⟩
          · have e226 : fX10_readSet_51 f (wI M 68 28 (nI (p + 1))) 68 (nI o) (bI ng) s (bI true) (nI 0) = some ((), M') := by
              rw [hf', fX10_readSet_51]
              unfold fX10_readSet_226 fX10_readSet_254
              have eup := m_upTo f' (wI M 68 28 (nI (p + 1))) (a := 0) (b := 35) (by omega) (by omega) (by omega)
              rw [zup_all] at eup
              cases ng with
              | false =>
                simp only [Bool.false_eq_true, if_false] at r1
                simp (disch := omega) only [q_eM, q_Me, q_Mlt, q_Mle, q_leM, q_ltM, q_le, q_nle, q_lt, q_nlt, q_neq, zin_nI, nI_clamp, nI_add, pk_mul, pk_sub, mI_e, mI_n, mL_e, mL_n, mR_e, mR_n, i0, i1, ↓reduceIte, ↓bI_t, ↓bI_f, Bool.false_eq_true, eq_self, chk_true, bnd_just, bnd2_just, app_t, beq_self_eq_true, mK_wI, mK_wL, mK_wR, mK_wIr, mK_wLr, mN_wI, mN_wL, mN_wR, mN_wIr, mN_wLr, mR_wI, mR_wL, mR_wIr, mR_wLr, mI_wL, mI_wR, mI_wLr, mL_wI, mL_wR, mL_wIr, sk_68 hS, hf0, r1]
              | true =>
                simp only [if_true] at r1
                simp (disch := omega) only [q_eM, q_Me, q_Mlt, q_Mle, q_leM, q_ltM, q_le, q_nle, q_lt, q_nlt, q_neq, zin_nI, nI_clamp, nI_add, pk_mul, pk_sub, mI_e, mI_n, mL_e, mL_n, mR_e, mR_n, i0, i1, ↓reduceIte, ↓bI_t, ↓bI_f, Bool.false_eq_true, eq_self, chk_true, bnd_just, bnd2_just, app_t, beq_self_eq_true, mK_wI, mK_wL, mK_wR, mK_wIr, mK_wLr, mN_wI, mN_wL, mN_wR, mN_wIr, mN_wLr, mR_wI, mR_wL, mR_wIr, mR_wLr, mI_wL, mI_wR, mI_wLr, mL_wI, mL_wR, mL_wIr, il_35, sk_68 hS, hf0, eup, r1]
            rw [fX10_readSet_51]
            rw [hln] at e_let
            have e93 : hI cs p = nI 93 := by rw [hI_at hl, h93]
            rw [e93] at e_here e_let
            unfold fX10_readSet_223
            simp (disch := omega) only [q_eM, q_Me, q_Mlt, q_Mle, q_leM, q_ltM, q_le, q_nle, q_lt, q_nlt, q_neq, zin_nI, nI_clamp, nI_add, pk_mul, pk_sub, mI_e, mI_n, mL_e, mL_n, mR_e, mR_n, i0, i1, ↓reduceIte, ↓bI_t, ↓bI_f, Bool.false_eq_true, eq_self, chk_true, bnd_just, bnd2_just, app_t, beq_self_eq_true, mK_wI, mK_wL, mK_wR, mK_wIr, mK_wLr, mN_wI, mN_wL, mN_wR, mN_wIr, mN_wLr, mR_wI, mR_wL, mR_wIr, mR_wLr, mI_wL, mI_wR, mI_wLr, mL_wI, mL_wR, mL_wIr, il_93, sk_68 hS, hf0, hat, e_here, e_let]
            exact e226
          · rw [pRun_1 rfl hl, h93]
            have : pStep (A, sMode true, (o, s, ng, 0, 0, 0, 0), 0, 0) p 93 = pAtom A (if ng then allB &&& (s ^^^ (-1)) else s) o := by
              unfold pStep pSet
              have : ltr 93 = none := by decide
              simp [sMode, this]
            rw [this]; exact r3
        · refine efail (fun _ => ?_) hln (fun q => h93 ⟨?_, q.2⟩)
          · generalize cs.getD p 0 = c at hlt h93 ⊢
            unfold pStep pSet
            rw [hlt]
            cases sm with
            | false => simp [sMode]
            | true =>
              have : c ≠ 93 := fun q => h93 ⟨q, rfl⟩
              simp [sMode, this]
          · have := q.1
            rw [hI_at hl, neq (by have := hc p; omega) (by omega)] at this
            exact this
      | some l =>
        have hl36 := ltr_lt hlt
        have hla := hL_at hl hlt
        rw [hla] at e_let
        have hR1 := hR.at (p + 1)
        have hS1 : Sta (wI M 68 28 (nI (p + 1))) := hS
        have e_here1 := m_here hS1 hR1 (by omega) f
        have st1 : pRun (cs.drop p) p (A, sMode sm, (o, s, ng, 0, 0, 0, 0), 0, 0) = pRun (cs.drop (p + 1)) (p + 1) (A, 3, (o, s ||| bit l, ng, l, p, 0, 0), 0, 0) := by
          rw [pRun_1 rfl hl]
          congr 1
          unfold pStep pSet
          rw [hlt]
          cases sm <;> simp [sMode]
        rw [st1]
        by_cases h45 : p + 1 < cs.length ∧ cs.getD (p + 1) 0 = 45
        · obtain ⟨hl1, h45⟩ := h45
          rw [hI_at hl1, h45] at e_here1
          have hR2 : ReaM (wI (wI M 68 28 (nI (p + 1))) 68 28 (nI (p + 2))) cs A (p + 2) := hR1.at (p + 2)
          have hS2 : Sta (wI (wI M 68 28 (nI (p + 1))) 68 28 (nI (p + 2))) := hS
          have e_here2 := m_here hS2 hR2 (by omega) f
          have e_let2 := m_letH hR2.2.2.2.2 (p + 2) f
          have st2 : pRun (cs.drop (p + 1)) (p + 1) (A, 3, (o, s ||| bit l, ng, l, p, 0, 0), 0, 0) = pRun (cs.drop (p + 2)) (p + 2) (A, 4, (o, s ||| bit l, ng, l, p, 0, 0), 0, 0) := by
            rw [pRun_1 rfl hl1, h45]
            congr 1
          rw [st2]
          rw [fX10_readSet_51]
          simp (disch := omega) only [q_eM, q_Me, q_Mlt, q_Mle, q_leM, q_ltM, q_le, q_nle, q_lt, q_nlt, q_neq, zin_nI, nI_clamp, nI_add, pk_mul, pk_sub, mI_e, mI_n, mL_e, mL_n, mR_e, mR_n, i0, i1, ↓reduceIte, ↓bI_t, ↓bI_f, Bool.false_eq_true, eq_self, chk_true, bnd_just, bnd2_just, app_t, beq_self_eq_true, mK_wI, mK_wL, mK_wR, mK_wIr, mK_wLr, mN_wI, mN_wL, mN_wR, mN_wIr, mN_wLr, mR_wI, mR_wL, mR_wIr, mR_wLr, mI_wL, mI_wR, mI_wLr, mL_wI, mL_wR, mL_wIr, il_45, sk_68 hS, hf0, hat, e_here, e_let, e_here1, e_here2, e_let2]
          by_cases hl2 : ∃ l2, p + 2 < cs.length ∧ ltr (cs.getD (p + 2) 0) = some l2
          · obtain ⟨l2, hl2, hlt2⟩ := hl2
            have hl236 := ltr_lt hlt2
            rw [hL_at hl2 hlt2]
            by_cases hle : l ≤ l2
            · obtain ⟨M', r1, r2, r3⟩ := ih (k - 3) (by omega) (p + 3) f (wI (wI (wI M 68 28 (nI (p + 1))) 68 28 (nI (p + 2))) 68 28 (nI (p + 3))) (s ||| upG l (l2 + 1 - l)) true (by omega) (by omega) (by omega) (by omega) hS (hR2.at (p + 3))
              refine ⟨M', ?_, (((MR.rf.wI (by omega) _).wI (by omega) _).wI (by omega) _).tr r2, ?_⟩
              · unfold fX10_readSet_152 fX10_readSet_162 fX10_readSet_182 fX10_readSet_223
                have eup := m_upTo f (wI (wI (wI M 68 28 (nI (p + 1))) 68 28 (nI (p + 2))) 68 28 (nI (p + 3))) (a := l) (b := l2) hle hl236 (by omega)
                simp (disch := omega) only [q_eM, q_Me, q_Mlt, q_Mle, q_leM, q_ltM, q_le, q_nle, q_lt, q_nlt, q_neq, zin_nI, nI_clamp, nI_add, pk_mul, pk_sub, mI_e, mI_n, mL_e, mL_n, mR_e, mR_n, i0, i1, ↓reduceIte, ↓bI_t, ↓bI_f, Bool.false_eq_true, eq_self, chk_true, bnd_just, bnd2_just, app_t, beq_self_eq_true, mK_wI, mK_wL, mK_wR, mK_wIr, mK_wLr, mN_wI, mN_wL, mN_wR, mN_wIr, mN_wLr, mR_wI, mR_wL, mR_wIr, mR_wLr, mI_wL, mI_wR, mI_wLr, mL_wI, mL_wR, mL_wIr, sk_68 hS, hf0, eup]
                rw [show nI 1 = bI true from rfl] at r1 ⊢
                exact r1
              · rw [pRun_1 rfl hl2]
                have : pStep (A, 4, (o, s ||| bit l, ng, l, p, 0, 0), 0, 0) (p + 2) (cs.getD (p + 2) 0) = (A, 5, (o, s ||| upG l (l2 + 1 - l), ng, 0, 0, 0, 0), 0, 0) := by
                  unfold pStep pSet
                  rw [hlt2]
                  simp only [or_assoc64, up_rng l hl36 l2 hl236 hle]
                  simp [hle]
                rw [this]; exact r3
            · refine ⟨wI (wI (wI (wI (wI M 68 28 (nI (p + 1))) 68 28 (nI (p + 2))) 68 29 (nI 6)) 68 5 (nI p)) 68 28 (nI (p + 3)), ?_, ((((MR.rf.wI (by omega) _).wI (by omega) _).wI (by omega) _).wI (by omega) _).wI (by omega) _, Or.inr ⟨6, p, ⟨by omega, by omega, by simp (disch := omega) only [q_eM, q_Me, q_Mlt, q_Mle, q_leM, q_ltM, q_le, q_nle, q_lt, q_nlt, q_neq, zin_nI, nI_clamp, nI_add, pk_mul, pk_sub, mI_e, mI_n, mL_e, mL_n, mR_e, mR_n, i0, i1, ↓reduceIte, ↓bI_t, ↓bI_f, Bool.false_eq_true, eq_self, chk_true, bnd_just, bnd2_just, app_t, beq_self_eq_true, mK_wI, mK_wL, mK_wR, mK_wIr, mK_wLr, mN_wI, mN_wL, mN_wR, mN_wIr, mN_wLr, mR_wI, mR_wL, mR_wIr, mR_wLr, mI_wL, mI_wR, mI_wLr, mL_wI, mL_wR, mL_wIr], by simp (disch := omega) only [q_eM, q_Me, q_Mlt, q_Mle, q_leM, q_ltM, q_le, q_nle, q_lt, q_nlt, q_neq, zin_nI, nI_clamp, nI_add, pk_mul, pk_sub, mI_e, mI_n, mL_e, mL_n, mR_e, mR_n, i0, i1, ↓reduceIte, ↓bI_t, ↓bI_f, Bool.false_eq_true, eq_self, chk_true, bnd_just, bnd2_just, app_t, beq_self_eq_true, mK_wI, mK_wL, mK_wR, mK_wIr, mK_wLr, mN_wI, mN_wL, mN_wR, mN_wIr, mN_wLr, mR_wI, mR_wL, mR_wIr, mR_wLr, mI_wL, mI_wR, mI_wLr, mL_wI, mL_wR, mL_wIr]⟩, ?_⟩⟩
              · simp (disch := omega) only [q_eM, q_Me, q_Mlt, q_Mle, q_leM, q_ltM, q_le, q_nle, q_lt, q_nlt, q_neq, zin_nI, nI_clamp, nI_add, pk_mul, pk_sub, mI_e, mI_n, mL_e, mL_n, mR_e, mR_n, i0, i1, ↓reduceIte, ↓bI_t, ↓bI_f, Bool.false_eq_true, eq_self, chk_true, bnd_just, bnd2_just, app_t, beq_self_eq_true, mK_wI, mK_wL, mK_wR, mK_wIr, mK_wLr, mN_wI, mN_wL, mN_wR, mN_wIr, mN_wLr, mR_wI, mR_wL, mR_wIr, mR_wLr, mI_wL, mI_wR, mI_wLr, mL_wI, mL_wR, mL_wIr, il_6, m_fail hS2 hR2.2.1]
                rw [hf', set_152 (M := wI (wI (wI (wI M 68 28 (nI (p + 1))) 68 28 (nI (p + 2))) 68 29 (nI 6)) 68 5 (nI p)) hS (f := 6) (by omega) (by omega) (by simp (disch := omega) only [q_eM, q_Me, q_Mlt, q_Mle, q_leM, q_ltM, q_le, q_nle, q_lt, q_nlt, q_neq, zin_nI, nI_clamp, nI_add, pk_mul, pk_sub, mI_e, mI_n, mL_e, mL_n, mR_e, mR_n, i0, i1, ↓reduceIte, ↓bI_t, ↓bI_f, Bool.false_eq_true, eq_self, chk_true, bnd_just, bnd2_just, app_t, beq_self_eq_true, mK_wI, mK_wL, mK_wR, mK_wIr, mK_wLr, mN_wI, mN_wL, mN_wR, mN_wIr, mN_wLr, mR_wI, mR_wL, mR_wIr, mR_wLr, mI_wL, mI_wR, mI_wLr, mL_wI, mL_wR, mL_wIr])]
                simp (disch := omega) only [q_eM, q_Me, q_Mlt, q_Mle, q_leM, q_ltM, q_le, q_nle, q_lt, q_nlt, q_neq, zin_nI, nI_clamp, nI_add, pk_mul, pk_sub, mI_e, mI_n, mL_e, mL_n, mR_e, mR_n, i0, i1, ↓reduceIte, ↓bI_t, ↓bI_f, Bool.false_eq_true, eq_self, chk_true, bnd_just, bnd2_just, app_t, beq_self_eq_true, mK_wI, mK_wL, mK_wR, mK_wIr, mK_wLr, mN_wI, mN_wL, mN_wR, mN_wIr, mN_wLr, mR_wI, mR_wL, mR_wIr, mR_wLr, mI_wL, mI_wR, mI_wLr, mL_wI, mL_wR, mL_wIr]
              · rw [pRun_1 rfl hl2]
                have : pStep (A, 4, (o, s ||| bit l, ng, l, p, 0, 0), 0, 0) (p + 2) (cs.getD (p + 2) 0) = zbad A 6 p := by
                  unfold pStep pSet
                  rw [hlt2]
                  simp [hle]
                rw [this, pRun_f (by simp [zbad])]; rfl
          · have hno : p + 2 < cs.length → ltr (cs.getD (p + 2) 0) = none := fun q => by
              cases hx : ltr (cs.getD (p + 2) 0) with
              | none => rfl
              | some y => exact absurd ⟨y, q, hx⟩ hl2
            rw [hL_no hno]
            have e_f := m_failHere hS2 hR2 (by omega) f
            have hq : (if p + 2 < cs.length then 1 else 2) ≠ 0 ∧ (if p + 2 < cs.length then 1 else 2) < 10 := by split <;> omega
            refine ⟨wI (wI (wI (wI (wI M 68 28 (nI (p + 1))) 68 28 (nI (p + 2))) 68 29 (nI (if p + 2 < cs.length then 1 else 2))) 68 5 (nI (p + 2))) 68 28 (nI (p + 3)), ?_, ((((MR.rf.wI (by omega) _).wI (by omega) _).wI (by omega) _).wI (by omega) _).wI (by omega) _, Or.inr ⟨_, p + 2, ⟨hq.1, hq.2, by simp (disch := omega) only [q_eM, q_Me, q_Mlt, q_Mle, q_leM, q_ltM, q_le, q_nle, q_lt, q_nlt, q_neq, zin_nI, nI_clamp, nI_add, pk_mul, pk_sub, mI_e, mI_n, mL_e, mL_n, mR_e, mR_n, i0, i1, ↓reduceIte, ↓bI_t, ↓bI_f, Bool.false_eq_true, eq_self, chk_true, bnd_just, bnd2_just, app_t, beq_self_eq_true, mK_wI, mK_wL, mK_wR, mK_wIr, mK_wLr, mN_wI, mN_wL, mN_wR, mN_wIr, mN_wLr, mR_wI, mR_wL, mR_wIr, mR_wLr, mI_wL, mI_wR, mI_wLr, mL_wI, mL_wR, mL_wIr], by simp (disch := omega) only [q_eM, q_Me, q_Mlt, q_Mle, q_leM, q_ltM, q_le, q_nle, q_lt, q_nlt, q_neq, zin_nI, nI_clamp, nI_add, pk_mul, pk_sub, mI_e, mI_n, mL_e, mL_n, mR_e, mR_n, i0, i1, ↓reduceIte, ↓bI_t, ↓bI_f, Bool.false_eq_true, eq_self, chk_true, bnd_just, bnd2_just, app_t, beq_self_eq_true, mK_wI, mK_wL, mK_wR, mK_wIr, mK_wLr, mN_wI, mN_wL, mN_wR, mN_wIr, mN_wLr, mR_wI, mR_wL, mR_wIr, mR_wLr, mI_wL, mI_wR, mI_wLr, mL_wI, mL_wR, mL_wIr]⟩, pRun_stop rfl (by simp) (fun q => ?_)⟩⟩
            · simp (disch := omega) only [q_eM, q_Me, q_Mlt, q_Mle, q_leM, q_ltM, q_le, q_nle, q_lt, q_nlt, q_neq, zin_nI, nI_clamp, nI_add, pk_mul, pk_sub, mI_e, mI_n, mL_e, mL_n, mR_e, mR_n, i0, i1, ↓reduceIte, ↓bI_t, ↓bI_f, Bool.false_eq_true, eq_self, chk_true, bnd_just, bnd2_just, app_t, beq_self_eq_true, mK_wI, mK_wL, mK_wR, mK_wIr, mK_wLr, mN_wI, mN_wL, mN_wR, mN_wIr, mN_wLr, mR_wI, mR_wL, mR_wIr, mR_wLr, mI_wL, mI_wR, mI_wLr, mL_wI, mL_wR, mL_wIr, e_f, sk_68 hS]
              rw [hf', set_152 (M := wI (wI (wI (wI M 68 28 (nI (p + 1))) 68 28 (nI (p + 2))) 68 29 (nI (if p + 2 < cs.length then 1 else 2))) 68 5 (nI (p + 2))) hS hq.1 hq.2 (by simp (disch := omega) only [q_eM, q_Me, q_Mlt, q_Mle, q_leM, q_ltM, q_le, q_nle, q_lt, q_nlt, q_neq, zin_nI, nI_clamp, nI_add, pk_mul, pk_sub, mI_e, mI_n, mL_e, mL_n, mR_e, mR_n, i0, i1, ↓reduceIte, ↓bI_t, ↓bI_f, Bool.false_eq_true, eq_self, chk_true, bnd_just, bnd2_just, app_t, beq_self_eq_true, mK_wI, mK_wL, mK_wR, mK_wIr, mK_wLr, mN_wI, mN_wL, mN_wR, mN_wIr, mN_wLr, mR_wI, mR_wL, mR_wIr, mR_wLr, mI_wL, mI_wR, mI_wLr, mL_wI, mL_wR, mL_wIr])]
              simp (disch := omega) only [q_eM, q_Me, q_Mlt, q_Mle, q_leM, q_ltM, q_le, q_nle, q_lt, q_nlt, q_neq, zin_nI, nI_clamp, nI_add, pk_mul, pk_sub, mI_e, mI_n, mL_e, mL_n, mR_e, mR_n, i0, i1, ↓reduceIte, ↓bI_t, ↓bI_f, Bool.false_eq_true, eq_self, chk_true, bnd_just, bnd2_just, app_t, beq_self_eq_true, mK_wI, mK_wL, mK_wR, mK_wIr, mK_wLr, mN_wI, mN_wL, mN_wR, mN_wIr, mN_wLr, mR_wI, mR_wL, mR_wIr, mR_wLr, mI_wL, mI_wR, mI_wLr, mL_wI, mL_wR, mL_wIr]
            · unfold pStep pSet
              rw [hno q]
              simp
        · rw [mode3 (fun q1 q2 => h45 ⟨q1, q2⟩)]
          obtain ⟨M', r1, r2, r3⟩ := ih (k - 1) (by omega) (p + 1) f (wI M 68 28 (nI (p + 1))) (s ||| bit l) true (by omega) (by omega) (by omega) (by omega) hS hR1
          refine ⟨M', ?_, (MR.rf.wI (by omega) _).tr r2, r3⟩
          rw [fX10_readSet_51]
          have h45' := hI_neq (k := 45) (by omega) hc h45
          have eup := m_upTo f (wI M 68 28 (nI (p + 1))) (a := l) (b := l) (by omega) hl36 (by omega)
          rw [show l + 1 - l = 1 by omega, up_one l hl36] at eup
          unfold fX10_readSet_162 fX10_readSet_182 fX10_readSet_223
          simp (disch := omega) only [q_eM, q_Me, q_Mlt, q_Mle, q_leM, q_ltM, q_le, q_nle, q_lt, q_nlt, q_neq, zin_nI, nI_clamp, nI_add, pk_mul, pk_sub, mI_e, mI_n, mL_e, mL_n, mR_e, mR_n, i0, i1, ↓reduceIte, ↓bI_t, ↓bI_f, Bool.false_eq_true, eq_self, chk_true, bnd_just, bnd2_just, app_t, beq_self_eq_true, mK_wI, mK_wL, mK_wR, mK_wIr, mK_wLr, mN_wI, mN_wL, mN_wR, mN_wIr, mN_wLr, mR_wI, mR_wL, mR_wIr, mR_wLr, mI_wL, mI_wR, mI_wLr, mL_wI, mL_wR, mL_wIr, il_45, sk_68 hS, hf0, hat, e_here, e_let, e_here1]
          rw [if_neg h45']
          simp (disch := omega) only [q_eM, q_Me, q_Mlt, q_Mle, q_leM, q_ltM, q_le, q_nle, q_lt, q_nlt, q_neq, zin_nI, nI_clamp, nI_add, pk_mul, pk_sub, mI_e, mI_n, mL_e, mL_n, mR_e, mR_n, i0, i1, ↓reduceIte, ↓bI_t, ↓bI_f, Bool.false_eq_true, eq_self, chk_true, bnd_just, bnd2_just, app_t, beq_self_eq_true, mK_wI, mK_wL, mK_wR, mK_wIr, mK_wLr, mN_wI, mN_wL, mN_wR, mN_wIr, mN_wLr, mR_wI, mR_wL, mR_wIr, mR_wLr, mI_wL, mI_wR, mI_wLr, mL_wI, mL_wR, mL_wIr, eup]
          rw [show nI 1 = bI true from rfl] at r1 ⊢
          exact r1
    · refine efail (fun q => absurd q hl) (hL_no (fun q => absurd q hl)) (fun q => hI_neq (k := 93) (by omega) hc (fun q2 => hl q2.1) q.1)
theorem m_readSet {cs : List Nat} {A : LA} (hW : zWf A) {o : Nat} {M : zM} (hS : Sta M) (hR : ReaM M cs A (o + 1)) (ho : o < cs.length) (N : Nat) (hN : 400 ≤ N) :
    ∃ M', fX10_readSet N M 68 = some ((), M') ∧ MR M M' ∧ zOut M' cs o (pRun (cs.drop (o + 1)) (o + 1) (A, 1, (o, 0, false, 0, 0, 0, 0), 0, 0)) := by
  have hT := hR.2.2.2.2
  have hl200 := hT.2.1
  have hc : ∀ q, cs.getD q 0 < 256 := typ_lt hT
  have hat := hR.1
  have e_here := m_here hS hR (by omega) N
  unfold fX10_readSet
  by_cases h94 : o + 1 < cs.length ∧ cs.getD (o + 1) 0 = 94
  · obtain ⟨hl, h94⟩ := h94
    rw [hI_at hl, h94] at e_here
    obtain ⟨M', r1, r2, r3⟩ := m_set hW (o := o) (ng := true) (p0 := o) 200 (o + 2) N (wI M 68 28 (nI (o + 2))) 0 false (by omega) (by omega) (by omega) (by omega) hS (hR.at (o + 2))
    refine ⟨M', ?_, (MR.rf.wI (by omega) _).tr r2, ?_⟩
    · unfold fX10_readSet_21 fX10_readSet_40
      simp (disch := omega) only [q_eM, q_Me, q_Mlt, q_Mle, q_leM, q_ltM, q_le, q_nle, q_lt, q_nlt, q_neq, zin_nI, nI_clamp, nI_add, pk_mul, pk_sub, mI_e, mI_n, mL_e, mL_n, mR_e, mR_n, i0, i1, ↓reduceIte, ↓bI_t, ↓bI_f, Bool.false_eq_true, eq_self, chk_true, bnd_just, bnd2_just, app_t, beq_self_eq_true, mK_wI, mK_wL, mK_wR, mK_wIr, mK_wLr, mN_wI, mN_wL, mN_wR, mN_wIr, mN_wLr, mR_wI, mR_wL, mR_wIr, mR_wLr, mI_wL, mI_wR, mI_wLr, mL_wI, mL_wR, mL_wIr, il_94, sk_68 hS, hat, e_here]
      rw [show o + 1 - 1 = o by omega]
      exact r1
    · rw [pRun_1 rfl hl, h94]; exact r3
  · obtain ⟨M', r1, r2, r3⟩ := m_set hW (o := o) (ng := false) (p0 := o) 200 (o + 1) N (wI M 68 28 (nI (o + 1))) 0 false (by omega) (by omega) (by omega) (by omega) hS (hR.at (o + 1))
    refine ⟨M', ?_, (MR.rf.wI (by omega) _).tr r2, ?_⟩
    · unfold fX10_readSet_21 fX10_readSet_40
      have h94' := hI_neq (k := 94) (by omega) hc h94
      simp (disch := omega) only [q_eM, q_Me, q_Mlt, q_Mle, q_leM, q_ltM, q_le, q_nle, q_lt, q_nlt, q_neq, zin_nI, nI_clamp, nI_add, pk_mul, pk_sub, mI_e, mI_n, mL_e, mL_n, mR_e, mR_n, i0, i1, ↓reduceIte, ↓bI_t, ↓bI_f, Bool.false_eq_true, eq_self, chk_true, bnd_just, bnd2_just, app_t, beq_self_eq_true, mK_wI, mK_wL, mK_wR, mK_wIr, mK_wLr, mN_wI, mN_wL, mN_wR, mN_wIr, mN_wLr, mR_wI, mR_wL, mR_wIr, mR_wLr, mI_wL, mI_wR, mI_wLr, mL_wI, mL_wR, mL_wIr, il_94, sk_68 hS, hat, e_here]
      rw [if_neg h94', show o + 1 - 1 = o by omega]
      exact r1
    · rw [mode1 (fun q1 q2 => h94 ⟨q1, q2⟩)]; exact r3
end ZMREAD2
