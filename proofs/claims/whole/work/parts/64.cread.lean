/-! the class reads -/
section ZCREAD
theorem RF.typ {P : Nat} {M M' : zM} (h : RF P M M') (hP : isP P) {cs : List Nat} (ht : TypC M cs) : TypC M' cs := by
  have := isP_le hP
  exact ⟨(h.2.2 2 0 (by omega)).1.trans ht.1, ht.2.1, fun i hi => (h.2.2 3 i (by omega)).1.trans (ht.2.2.1 i hi), ht.2.2.2⟩
theorem typc_lt {M : zM} {cs : List Nat} (h : TypC M cs) (p : Nat) : cs.getD p 0 < 256 := by
  rw [List.getD_eq_getElem?_getD]
  cases hx : cs[p]? with
  | none => simp
  | some x => exact h.2.2.2 x (List.mem_of_getElem? hx)
theorem c_step {P : Nat} (hP : isP P) {M : zM} (hS : Sta M) {S : zPS} (hR : ReaC M P S) (hW : WfS S) (hf : S.2.2.2.1 = 0) {p c : Nat} (hc : c < 256) (n : Nat) (hn : 99 ≤ n) (k25 : zM → Nat → Int32 → Option (Int32 × zM)) :
    ∃ M', (if mI M 2 5 = (0 : Int32) then chk (mK M 2 == 6) (bnd2 (fX6_takeInRow n M 2 (nI p) (nI c)) fun r_24 M_25 => fX6_layOut_86 k25 n M_25 2 (nI p)) else chk (mK M 2 == 6) (if (5 : Int32) < mI M 2 5 then chk (mK M 2 == 6) (bnd2 (fX6_takeInTimes n M 2 (nI p) (nI c)) fun r_16 M_17 => fX6_layOut_86 k25 n M_17 2 (nI p)) else chk (mK M 2 == 6) (bnd2 (fX6_takeInSet n M 2 (nI p) (nI c)) fun r_20 M_21 => fX6_layOut_86 k25 n M_21 2 (nI p)))) = k25 M' 2 (nI (p + 1)) ∧ RF P M M' ∧ ReaC M' P (pStep S p c) := by
  obtain ⟨A, m, R, f, pl⟩ := S
  simp only at hf
  subst hf
  obtain ⟨h4, -, hG⟩ := hR
  replace hG := hG rfl
  obtain ⟨hWA, hWm⟩ := hW rfl
  simp only at hWA hWm
  have g := hG
  obtain ⟨o, s, ng, ll, la, mi, ma⟩ := R
  obtain ⟨g1, gL, g5, g9, -⟩ := g
  simp only [pStep]
  unfold fX6_layOut_86
  by_cases hm0 : m = 0
  · subst hm0
    obtain ⟨M', r1, r2, r3⟩ := c_row hS hP gL h4 g1 g5 (p := p) hc n hn
    refine ⟨M', ?_, r2, by rw [if_pos rfl]; exact r3⟩
    simp (disch := omega) only [q_eM, q_Me, q_Mlt, q_Mle, q_leM, q_ltM, q_le, q_nle, q_lt, q_nlt, q_neq, zin_nI, nI_clamp, nI_add, pk_mul, pk_sub, mI_e, mI_n, mL_e, mL_n, mR_e, mR_n, i0, i1, ↓reduceIte, ↓bI_t, ↓bI_f, Bool.false_eq_true, eq_self, chk_true, bnd_just, bnd2_just, app_t, beq_self_eq_true, mK_wI, mK_wL, mK_wR, mK_wIr, mK_wLr, mN_wI, mN_wL, mN_wR, mN_wIr, mN_wLr, mR_wI, mR_wL, mR_wIr, mR_wLr, mI_wL, mI_wR, mI_wLr, mL_wI, mL_wR, mL_wIr, sk_2 hS, g5, r1]
  · rw [if_neg hm0]
    by_cases hm5 : m ≤ 5
    · obtain ⟨M', r1, r2, r3⟩ := c_set hS hP h4 hG (by omega) hm5 (p := p) hc n hn
      refine ⟨M', ?_, r2, by rw [if_pos hm5]; exact r3⟩
      simp (disch := omega) only [q_eM, q_Me, q_Mlt, q_Mle, q_leM, q_ltM, q_le, q_nle, q_lt, q_nlt, q_neq, zin_nI, nI_clamp, nI_add, pk_mul, pk_sub, mI_e, mI_n, mL_e, mL_n, mR_e, mR_n, i0, i1, ↓reduceIte, ↓bI_t, ↓bI_f, Bool.false_eq_true, eq_self, chk_true, bnd_just, bnd2_just, app_t, beq_self_eq_true, mK_wI, mK_wL, mK_wR, mK_wIr, mK_wLr, mN_wI, mN_wL, mN_wR, mN_wIr, mN_wLr, mR_wI, mR_wL, mR_wIr, mR_wLr, mI_wL, mI_wR, mI_wLr, mL_wI, mL_wR, mL_wIr, il_5, sk_2 hS, g5, r1]
    · have hhp := hWm (by omega)
      have hpb : aPb A ≤ A.1 := by
        obtain ⟨k, se, fo, d, ro, ch, cb, hp, pt, pb⟩ := A
        exact (hWA.2.2.2.2.2 hhp).2.1
      obtain ⟨M', r1, r2, r3⟩ := c_tim hS hP h4 hG (by omega) hhp hpb (p := p) hc n hn
      refine ⟨M', ?_, r2, by rw [if_neg hm5]; exact r3⟩
      simp (disch := omega) only [q_eM, q_Me, q_Mlt, q_Mle, q_leM, q_ltM, q_le, q_nle, q_lt, q_nlt, q_neq, zin_nI, nI_clamp, nI_add, pk_mul, pk_sub, mI_e, mI_n, mL_e, mL_n, mR_e, mR_n, i0, i1, ↓reduceIte, ↓bI_t, ↓bI_f, Bool.false_eq_true, eq_self, chk_true, bnd_just, bnd2_just, app_t, beq_self_eq_true, mK_wI, mK_wL, mK_wR, mK_wIr, mK_wLr, mN_wI, mN_wL, mN_wR, mN_wIr, mN_wLr, mR_wI, mR_wL, mR_wIr, mR_wLr, mI_wL, mI_wR, mI_wLr, mL_wI, mL_wR, mL_wIr, il_5, sk_2 hS, g5, r1]
def Sm (S : zPS) : Prop := S.2.2.2.1 < 10
theorem Sm_ok (A : LA) : Sm (okS A) := by show (0 : Nat) < 10; omega
theorem Sm_bad (A : LA) {f : Nat} (h : f < 10) (p : Nat) : Sm (zbad A f p) := h
theorem Sm_0 (A : LA) (m : Nat) (R : Rg) (p : Nat) : Sm (A, m, R, 0, p) := by show (0 : Nat) < 10; omega
theorem Sm_ite {c : Prop} [Decidable c] {S T : zPS} (h : Sm S) (g : Sm T) : Sm (if c then S else T) := by split <;> assumption
theorem Sm_atom (A : LA) (x : Int64) (p : Nat) : Sm (pAtom A x p) := Sm_ite (Sm_ok _) (Sm_bad _ (by omega) _)
theorem Sm_suf (A : LA) (p c : Nat) : Sm (pSuf A p c) := Sm_ite (Sm_ite (Sm_ok _) (Sm_ite (Sm_ok _) (Sm_ite (Sm_ok _) (Sm_ite (Sm_0 _ _ _ _) (Sm_bad _ (by omega) _))))) (Sm_bad _ (by omega) _)
theorem Sm_row (A : LA) (p c : Nat) : Sm (pRow A p c) := by
  unfold pRow
  cases ltr c with
  | some l => exact Sm_atom _ _ _
  | none => exact Sm_ite (Sm_atom _ _ _) (Sm_ite (Sm_0 _ _ _ _) (Sm_ite (Sm_ite (Sm_ok _) (Sm_bad _ (by omega) _)) (Sm_ite (Sm_ok _) (Sm_ite (Sm_ok _) (Sm_suf _ _ _)))))
theorem Sm_set (A : LA) (m : Nat) (R : Rg) (p c : Nat) : Sm (pSet A m R p c) := by
  obtain ⟨o, s, ng, ll, la, mi, ma⟩ := R
  unfold pSet
  cases ltr c with
  | some l => exact Sm_ite (Sm_ite (Sm_0 _ _ _ _) (Sm_bad _ (by omega) _)) (Sm_0 _ _ _ _)
  | none => exact Sm_ite (Sm_0 _ _ _ _) (Sm_ite (Sm_0 _ _ _ _) (Sm_ite (Sm_atom _ _ _) (Sm_bad _ (by omega) _)))
theorem Sm_tim (A : LA) (m : Nat) (R : Rg) (p c : Nat) : Sm (pTim A m R p c) := by
  obtain ⟨o, s, ng, ll, la, mi, ma⟩ := R
  exact Sm_ite (Sm_0 _ _ _ _) (Sm_ite (Sm_0 _ _ _ _) (Sm_ite (Sm_0 _ _ _ _) (Sm_ite (Sm_ite (Sm_bad _ (by omega) _) (Sm_ite (Sm_ok _) (Sm_bad _ (by omega) _))) (Sm_bad _ (by omega) _))))
theorem pS_small (S : zPS) (p c : Nat) : Sm (pStep S p c) := by
  obtain ⟨A, m, R, f, pl⟩ := S
  exact Sm_ite (Sm_row _ _ _) (Sm_ite (Sm_set _ _ _ _ _) (Sm_tim _ _ _ _ _))
theorem c_lay {P : Nat} (hP : isP P) {cs : List Nat} : ∀ (k p fuel : Nat) (M : zM) (S : zPS), p + k = cs.length → k + 150 < fuel → Sta M → TypC M cs → ReaC M P S → WfS S → S.2.2.2.1 < 10 →
    ∃ M1 n1 S1, 99 ≤ n1 ∧ fX6_layOut_25 fuel M 2 (nI p) = fX6_layOut_92 n1 M1 2 ∧ RF P M M1 ∧ ReaC M1 P S1 ∧ WfS S1 ∧ S1.2.2.2.1 < 10 ∧ pRun (cs.drop p) p S = (if S1.2.2.2.1 = 0 ∧ (S1.2.1 ≠ 0 ∨ 0 < aDp S1.1) then zbad S1.1 2 cs.length else S1) := by
  intro k
  induction k with
  | zero =>
    intro p fuel M S hk hf hS hT hR hW h10
    obtain ⟨f, rfl⟩ := suc fuel (by omega)
    have hl200 := hT.2.1
    refine ⟨M, f, S, by omega, ?_, RF.rf, hR, hW, h10, ?_⟩
    · rw [fX6_layOut_25]
      simp (disch := omega) only [q_eM, q_Me, q_Mlt, q_Mle, q_leM, q_ltM, q_le, q_nle, q_lt, q_nlt, q_neq, zin_nI, nI_clamp, nI_add, pk_mul, pk_sub, mI_e, mI_n, mL_e, mL_n, mR_e, mR_n, i0, i1, ↓reduceIte, ↓bI_t, ↓bI_f, Bool.false_eq_true, eq_self, chk_true, bnd_just, bnd2_just, app_t, beq_self_eq_true, mK_wI, mK_wL, mK_wR, mK_wIr, mK_wLr, mN_wI, mN_wL, mN_wR, mN_wIr, mN_wLr, mR_wI, mR_wL, mR_wIr, mR_wLr, mI_wL, mI_wR, mI_wLr, mL_wI, mL_wR, mL_wIr, sk_2 hS, hT.1]
    · rw [drop_ge (by omega), show p = cs.length by omega]
      unfold pRun
      rfl
  | succ k ih =>
    intro p fuel M S hk hf hS hT hR hW h10
    obtain ⟨f, rfl⟩ := suc fuel (by omega)
    have hl200 := hT.2.1
    by_cases hfl : S.2.2.2.1 = 0
    · obtain ⟨M', r1, r2, r3⟩ := c_step hP hS hR hW hfl (p := p) (typc_lt hT p) f (by omega) (fX6_layOut_25 f)
      obtain ⟨M1, n1, S1, s1, s2, s3, s4⟩ := ih (p + 1) f M' (pStep S p (cs.getD p 0)) (by omega) (by omega) (r2.sta hS) (r2.typ hP hT) r3 (WfS_step hW hfl p _) (pS_small _ _ _)
      refine ⟨M1, n1, S1, s1, ?_, r2.tr s3, by rw [pRun_1 hfl (by omega)]; exact s4⟩
      have h4 : mI M 2 4 = nI 0 := by rw [← hfl]; exact hR.1
      rw [fX6_layOut_25]
      simp (disch := omega) only [q_eM, q_Me, q_Mlt, q_Mle, q_leM, q_ltM, q_le, q_nle, q_lt, q_nlt, q_neq, zin_nI, nI_clamp, nI_add, pk_mul, pk_sub, mI_e, mI_n, mL_e, mL_n, mR_e, mR_n, i0, i1, ↓reduceIte, ↓bI_t, ↓bI_f, Bool.false_eq_true, eq_self, chk_true, bnd_just, bnd2_just, app_t, beq_self_eq_true, mK_wI, mK_wL, mK_wR, mK_wIr, mK_wLr, mN_wI, mN_wL, mN_wR, mN_wIr, mN_wLr, mR_wI, mR_wL, mR_wIr, mR_wLr, mI_wL, mI_wR, mI_wLr, mL_wI, mL_wR, mL_wIr, sk_2 hS, sk_3 hS, sn_3 hS, sr_2_2 hS, hT.1, h4, hT.2.2.1 p]
      simp only [chk_true, bnd_just, bnd2_just, app_t, beq_self_eq_true, mK_wI, mK_wL, mK_wR, mK_wIr, mK_wLr, mN_wI, mN_wL, mN_wR, mN_wIr, mN_wLr, mR_wI, mR_wL, mR_wIr, mR_wLr, mI_wL, mI_wR, mI_wLr, mL_wI, mL_wR, mL_wIr, sk_2 hS, i0] at r1
      exact r1.trans s2
    · refine ⟨M, f, S, by omega, ?_, RF.rf, hR, hW, h10, by rw [pRun_f hfl, if_neg (fun q => hfl q.1)]⟩
      have h4 : mI M 2 4 = nI S.2.2.2.1 := hR.1
      rw [fX6_layOut_25]
      simp (disch := omega) only [q_eM, q_Me, q_Mlt, q_Mle, q_leM, q_ltM, q_le, q_nle, q_lt, q_nlt, q_neq, zin_nI, nI_clamp, nI_add, pk_mul, pk_sub, mI_e, mI_n, mL_e, mL_n, mR_e, mR_n, i0, i1, ↓reduceIte, ↓bI_t, ↓bI_f, Bool.false_eq_true, eq_self, chk_true, bnd_just, bnd2_just, app_t, beq_self_eq_true, mK_wI, mK_wL, mK_wR, mK_wIr, mK_wLr, mN_wI, mN_wL, mN_wR, mN_wIr, mN_wLr, mR_wI, mR_wL, mR_wIr, mR_wLr, mI_wL, mI_wR, mI_wLr, mL_wI, mL_wR, mL_wIr, sk_2 hS, hT.1, h4]
/-- what a reading into P may change -/
def zQF (P : Nat) (M M' : zM) : Prop := M'.1 = M.1 ∧ (∀ a j, ¬ (a = 4 ∧ j = 2) → mR M' a j = mR M a j) ∧ ∀ a j, ¬ (a = 2 ∨ (4 ≤ a ∧ a ≤ 26) ∨ (P ≤ a ∧ a ≤ P + 4)) → mI M' a j = mI M a j ∧ mL M' a j = mL M a j
theorem zQF.tr {P : Nat} {M M1 M2 : zM} (h : zQF P M M1) (g : zQF P M1 M2) : zQF P M M2 := ⟨g.1.trans h.1, fun a j q => (g.2.1 a j q).trans (h.2.1 a j q), fun a j ha => ⟨((g.2.2 a j ha).1).trans ((h.2.2 a j ha).1), ((g.2.2 a j ha).2).trans ((h.2.2 a j ha).2)⟩⟩
theorem RF.qf {P : Nat} {M M' : zM} (h : RF P M M') : zQF P M M' := ⟨h.1, h.2.1, fun a j q => h.2.2 a j (by omega)⟩
theorem zQF.w2 {P : Nat} {M M' : zM} (h : zQF P M M') (k : Nat) (v : Int32) : zQF P M (wI M' 2 k v) := h.tr ⟨rfl, fun _ _ _ => rfl, fun a j q => ⟨mI_n (by omega), rfl⟩⟩
theorem Sta_w42 {M : zM} (h : Sta M) (v : Option Nat) : Sta (wR M 4 2 v) := ⟨h.1, fun q hq => by rw [mR_wR, if_neg (SR42 q hq)]; exact h.2 q hq⟩
theorem c_begin {P : Nat} (hP : isP P) {M : zM} (hS : Sta M) (N : Nat) : ∃ M', fX3_begin N M 4 P = some ((), M') ∧ zQF P M M' ∧ (∀ j, mI M' 2 j = mI M 2 j) ∧ Sta M' ∧ LayC M' P A0 ∧ mI M' (P + 4) 0 = nI 0 := by
  obtain ⟨hP1, hP2⟩ := isP_le hP
  have hS1 : Sta (wI (wI (wI (wR M 4 2 (some P)) P 0 (nI 0)) (P + 4) 0 (nI 0)) 4 0 (nI 0)) := Sta_of (Sta_w42 hS (some P)) rfl rfl
  have hS0 := Sta_w42 hS (some P)
  obtain ⟨M', r1, r2, r3⟩ := c_beginChoices (d := 0) (k := 0) hS1 hP (by simp (disch := omega) only [q_eM, q_Me, q_Mlt, q_Mle, q_leM, q_ltM, q_le, q_nle, q_lt, q_nlt, q_neq, zin_nI, nI_clamp, nI_add, pk_mul, pk_sub, mI_e, mI_n, mL_e, mL_n, mR_e, mR_n, i0, i1, ↓reduceIte, ↓bI_t, ↓bI_f, Bool.false_eq_true, eq_self, chk_true, bnd_just, bnd2_just, app_t, beq_self_eq_true, mK_wI, mK_wL, mK_wR, mK_wIr, mK_wLr, mN_wI, mN_wL, mN_wR, mN_wIr, mN_wLr, mR_wI, mR_wL, mR_wIr, mR_wLr, mI_wL, mI_wR, mI_wLr, mL_wI, mL_wR, mL_wIr]) (by simp (disch := omega) only [q_eM, q_Me, q_Mlt, q_Mle, q_leM, q_ltM, q_le, q_nle, q_lt, q_nlt, q_neq, zin_nI, nI_clamp, nI_add, pk_mul, pk_sub, mI_e, mI_n, mL_e, mL_n, mR_e, mR_n, i0, i1, ↓reduceIte, ↓bI_t, ↓bI_f, Bool.false_eq_true, eq_self, chk_true, bnd_just, bnd2_just, app_t, beq_self_eq_true, mK_wI, mK_wL, mK_wR, mK_wIr, mK_wLr, mN_wI, mN_wL, mN_wR, mN_wIr, mN_wLr, mR_wI, mR_wL, mR_wIr, mR_wLr, mI_wL, mI_wR, mI_wLr, mL_wI, mL_wR, mL_wIr]) (by omega) (by simp (disch := omega) only [q_eM, q_Me, q_Mlt, q_Mle, q_leM, q_ltM, q_le, q_nle, q_lt, q_nlt, q_neq, zin_nI, nI_clamp, nI_add, pk_mul, pk_sub, mI_e, mI_n, mL_e, mL_n, mR_e, mR_n, i0, i1, ↓reduceIte, ↓bI_t, ↓bI_f, Bool.false_eq_true, eq_self, chk_true, bnd_just, bnd2_just, app_t, beq_self_eq_true, mK_wI, mK_wL, mK_wR, mK_wIr, mK_wLr, mN_wI, mN_wL, mN_wR, mN_wIr, mN_wLr, mR_wI, mR_wL, mR_wIr, mR_wLr, mI_wL, mI_wR, mI_wLr, mL_wI, mL_wR, mL_wIr]) N
  refine ⟨M', ?_, ⟨r2.1, fun a j q => ?_, fun a j q => ?_⟩, fun j => ?_, r2.sta hS1, ?_, ?_⟩
  · unfold fX3_begin fX4_wipe
    simp (disch := omega) only [q_eM, q_Me, q_Mlt, q_Mle, q_leM, q_ltM, q_le, q_nle, q_lt, q_nlt, q_neq, zin_nI, nI_clamp, nI_add, pk_mul, pk_sub, mI_e, mI_n, mL_e, mL_n, mR_e, mR_n, i0, i1, ↓reduceIte, ↓bI_t, ↓bI_f, Bool.false_eq_true, eq_self, chk_true, bnd_just, bnd2_just, app_t, beq_self_eq_true, mK_wI, mK_wL, mK_wR, mK_wIr, mK_wLr, mN_wI, mN_wL, mN_wR, mN_wIr, mN_wLr, mR_wI, mR_wL, mR_wIr, mR_wLr, mI_wL, mI_wR, mI_wLr, mL_wI, mL_wR, mL_wIr, sk_4 hS0, pK0 hS hP, pK4 hS hP, pR7 hS hP, sk_4 hS, r1]
  · rw [r2.2.1 a j q]
    simp (disch := omega) only [q_eM, q_Me, q_Mlt, q_Mle, q_leM, q_ltM, q_le, q_nle, q_lt, q_nlt, q_neq, zin_nI, nI_clamp, nI_add, pk_mul, pk_sub, mI_e, mI_n, mL_e, mL_n, mR_e, mR_n, i0, i1, ↓reduceIte, ↓bI_t, ↓bI_f, Bool.false_eq_true, eq_self, chk_true, bnd_just, bnd2_just, app_t, beq_self_eq_true, mK_wI, mK_wL, mK_wR, mK_wIr, mK_wLr, mN_wI, mN_wL, mN_wR, mN_wIr, mN_wLr, mR_wI, mR_wL, mR_wIr, mR_wLr, mI_wL, mI_wR, mI_wLr, mL_wI, mL_wR, mL_wIr]
  · have := r2.2.2 a (by omega) j
    rw [this.1, this.2]
    constructor <;> simp (disch := omega) only [q_eM, q_Me, q_Mlt, q_Mle, q_leM, q_ltM, q_le, q_nle, q_lt, q_nlt, q_neq, zin_nI, nI_clamp, nI_add, pk_mul, pk_sub, mI_e, mI_n, mL_e, mL_n, mR_e, mR_n, i0, i1, ↓reduceIte, ↓bI_t, ↓bI_f, Bool.false_eq_true, eq_self, chk_true, bnd_just, bnd2_just, app_t, beq_self_eq_true, mK_wI, mK_wL, mK_wR, mK_wIr, mK_wLr, mN_wI, mN_wL, mN_wR, mN_wIr, mN_wLr, mR_wI, mR_wL, mR_wIr, mR_wLr, mI_wL, mI_wR, mI_wLr, mL_wI, mL_wR, mL_wIr]
  · rw [(r2.2.2 2 (by omega) j).1]
    simp (disch := omega) only [q_eM, q_Me, q_Mlt, q_Mle, q_leM, q_ltM, q_le, q_nle, q_lt, q_nlt, q_neq, zin_nI, nI_clamp, nI_add, pk_mul, pk_sub, mI_e, mI_n, mL_e, mL_n, mR_e, mR_n, i0, i1, ↓reduceIte, ↓bI_t, ↓bI_f, Bool.false_eq_true, eq_self, chk_true, bnd_just, bnd2_just, app_t, beq_self_eq_true, mK_wI, mK_wL, mK_wR, mK_wIr, mK_wLr, mN_wI, mN_wL, mN_wR, mN_wIr, mN_wLr, mR_wI, mR_wL, mR_wIr, mR_wLr, mI_wL, mI_wR, mI_wLr, mL_wI, mL_wR, mL_wIr]
  · rw [r3]
    refine ⟨?_, ⟨?_, by omega, fun i hi => by omega, fun i hi => by omega⟩, ?_, ?_, ⟨by omega, fun e he => ?_⟩, fun q => by cases q⟩
    · simp (disch := omega) only [q_eM, q_Me, q_Mlt, q_Mle, q_leM, q_ltM, q_le, q_nle, q_lt, q_nlt, q_neq, zin_nI, nI_clamp, nI_add, pk_mul, pk_sub, mI_e, mI_n, mL_e, mL_n, mR_e, mR_n, i0, i1, ↓reduceIte, ↓bI_t, ↓bI_f, Bool.false_eq_true, eq_self, chk_true, bnd_just, bnd2_just, app_t, beq_self_eq_true, mK_wI, mK_wL, mK_wR, mK_wIr, mK_wLr, mN_wI, mN_wL, mN_wR, mN_wIr, mN_wLr, mR_wI, mR_wL, mR_wIr, mR_wLr, mI_wL, mI_wR, mI_wLr, mL_wI, mL_wR, mL_wIr]
    · simp (disch := omega) only [q_eM, q_Me, q_Mlt, q_Mle, q_leM, q_ltM, q_le, q_nle, q_lt, q_nlt, q_neq, zin_nI, nI_clamp, nI_add, pk_mul, pk_sub, mI_e, mI_n, mL_e, mL_n, mR_e, mR_n, i0, i1, ↓reduceIte, ↓bI_t, ↓bI_f, Bool.false_eq_true, eq_self, chk_true, bnd_just, bnd2_just, app_t, beq_self_eq_true, mK_wI, mK_wL, mK_wR, mK_wIr, mK_wLr, mN_wI, mN_wL, mN_wR, mN_wIr, mN_wLr, mR_wI, mR_wL, mR_wIr, mR_wLr, mI_wL, mI_wR, mI_wLr, mL_wI, mL_wR, mL_wIr]
    · simp (disch := omega) only [q_eM, q_Me, q_Mlt, q_Mle, q_leM, q_ltM, q_le, q_nle, q_lt, q_nlt, q_neq, zin_nI, nI_clamp, nI_add, pk_mul, pk_sub, mI_e, mI_n, mL_e, mL_n, mR_e, mR_n, i0, i1, ↓reduceIte, ↓bI_t, ↓bI_f, Bool.false_eq_true, eq_self, chk_true, bnd_just, bnd2_just, app_t, beq_self_eq_true, mK_wI, mK_wL, mK_wR, mK_wIr, mK_wLr, mN_wI, mN_wL, mN_wR, mN_wIr, mN_wLr, mR_wI, mR_wL, mR_wIr, mR_wLr, mI_wL, mI_wR, mI_wLr, mL_wI, mL_wR, mL_wIr]
    · simp (disch := omega) only [q_eM, q_Me, q_Mlt, q_Mle, q_leM, q_ltM, q_le, q_nle, q_lt, q_nlt, q_neq, zin_nI, nI_clamp, nI_add, pk_mul, pk_sub, mI_e, mI_n, mL_e, mL_n, mR_e, mR_n, i0, i1, ↓reduceIte, ↓bI_t, ↓bI_f, Bool.false_eq_true, eq_self, chk_true, bnd_just, bnd2_just, app_t, beq_self_eq_true, mK_wI, mK_wL, mK_wR, mK_wIr, mK_wLr, mN_wI, mN_wL, mN_wR, mN_wIr, mN_wLr, mR_wI, mR_wL, mR_wIr, mR_wLr, mI_wL, mI_wR, mI_wLr, mL_wI, mL_wR, mL_wIr]
    · have he0 : e = 0 := by omega
      subst he0
      refine ⟨⟨?_, ?_, ?_⟩, ⟨?_, ?_, ?_⟩, ?_⟩ <;> simp (disch := omega) only [q_eM, q_Me, q_Mlt, q_Mle, q_leM, q_ltM, q_le, q_nle, q_lt, q_nlt, q_neq, zin_nI, nI_clamp, nI_add, pk_mul, pk_sub, mI_e, mI_n, mL_e, mL_n, mR_e, mR_n, i0, i1, ↓reduceIte, ↓bI_t, ↓bI_f, Bool.false_eq_true, eq_self, chk_true, bnd_just, bnd2_just, app_t, beq_self_eq_true, mK_wI, mK_wL, mK_wR, mK_wIr, mK_wLr, mN_wI, mN_wL, mN_wR, mN_wIr, mN_wLr, mR_wI, mR_wL, mR_wIr, mR_wLr, mI_wL, mI_wR, mI_wLr, mL_wI, mL_wR, mL_wIr]
  · rw [(r2.2.2 (P + 4) (by omega) 0).1]
    simp (disch := omega) only [q_eM, q_Me, q_Mlt, q_Mle, q_leM, q_ltM, q_le, q_nle, q_lt, q_nlt, q_neq, zin_nI, nI_clamp, nI_add, pk_mul, pk_sub, mI_e, mI_n, mL_e, mL_n, mR_e, mR_n, i0, i1, ↓reduceIte, ↓bI_t, ↓bI_f, Bool.false_eq_true, eq_self, chk_true, bnd_just, bnd2_just, app_t, beq_self_eq_true, mK_wI, mK_wL, mK_wR, mK_wIr, mK_wLr, mN_wI, mN_wL, mN_wR, mN_wIr, mN_wLr, mR_wI, mR_wL, mR_wIr, mR_wLr, mI_wL, mI_wR, mI_wLr, mL_wI, mL_wR, mL_wIr]
theorem c_layOut {P : Nat} (hP : isP P) {M : zM} (hS : Sta M) {cs : List Nat} (hT : TypC M cs) (N : Nat) (hN : 500 ≤ N) : ∃ M', fX6_layOut N M 2 P = some (nI (pRun cs 0 (okS A0)).2.2.2.1, M') ∧ zQF P M M' ∧ mI M' 2 0 = nI 0 ∧ mI M' (P + 4) 0 = nI 0 ∧
    ((pRun cs 0 (okS A0)).2.2.2.1 ≠ 0 → mI M' 2 1 = nI (pRun cs 0 (okS A0)).2.2.2.2) ∧ ((pRun cs 0 (okS A0)).2.2.2.1 = 0 → mI M' 2 1 = iM ∧ PatC M' P (patA (pRun cs 0 (okS A0)).1)) := by
  obtain ⟨hP1, hP2⟩ := isP_le hP
  have hl200 := hT.2.1
  have hS0 : Sta (wI (wI (wI M 2 4 (nI 0)) 2 1 iM) 2 5 (nI 0)) := hS
  obtain ⟨Mb, b1, b2, b3, b4, b5, b6⟩ := c_begin hP hS0 N
  have e1 : fX6_layOut N M 2 P = fX6_layOut_25 N Mb 2 (nI 0) := by
    unfold fX6_layOut
    simp (disch := omega) only [chk_true, bnd_just, bnd2_just, app_t, beq_self_eq_true, mK_wI, mK_wL, mK_wR, mK_wIr, mK_wLr, mN_wI, mN_wL, mN_wR, mN_wIr, mN_wLr, mR_wI, mR_wL, mR_wIr, mR_wLr, mI_wL, mI_wR, mI_wLr, mL_wI, mL_wR, mL_wIr, sk_2 hS, sk_4 hS, sr_2_3 hS, i0, ↓neg1, b1]
  rw [e1]
  have hTb : TypC Mb cs := by
    refine ⟨?_, hT.2.1, fun i hi => ?_, hT.2.2.2⟩
    · rw [b3]; simp (disch := omega) only [q_eM, q_Me, q_Mlt, q_Mle, q_leM, q_ltM, q_le, q_nle, q_lt, q_nlt, q_neq, zin_nI, nI_clamp, nI_add, pk_mul, pk_sub, mI_e, mI_n, mL_e, mL_n, mR_e, mR_n, i0, i1, ↓reduceIte, ↓bI_t, ↓bI_f, Bool.false_eq_true, eq_self, chk_true, bnd_just, bnd2_just, app_t, beq_self_eq_true, mK_wI, mK_wL, mK_wR, mK_wIr, mK_wLr, mN_wI, mN_wL, mN_wR, mN_wIr, mN_wLr, mR_wI, mR_wL, mR_wIr, mR_wLr, mI_wL, mI_wR, mI_wLr, mL_wI, mL_wR, mL_wIr, hT.1]
    · rw [(b2.2.2 3 i (by omega)).1]; simp (disch := omega) only [q_eM, q_Me, q_Mlt, q_Mle, q_leM, q_ltM, q_le, q_nle, q_lt, q_nlt, q_neq, zin_nI, nI_clamp, nI_add, pk_mul, pk_sub, mI_e, mI_n, mL_e, mL_n, mR_e, mR_n, i0, i1, ↓reduceIte, ↓bI_t, ↓bI_f, Bool.false_eq_true, eq_self, chk_true, bnd_just, bnd2_just, app_t, beq_self_eq_true, mK_wI, mK_wL, mK_wR, mK_wIr, mK_wLr, mN_wI, mN_wL, mN_wR, mN_wIr, mN_wLr, mR_wI, mR_wL, mR_wIr, mR_wLr, mI_wL, mI_wR, mI_wLr, mL_wI, mL_wR, mL_wIr, hT.2.2.1 i]
  have hRb : ReaC Mb P (okS A0) := by
    refine ⟨?_, fun q => absurd rfl q, fun _ => ⟨?_, b5, ?_, by omega, fun q => by omega, fun q => by omega, fun q => by omega, fun q => by omega⟩⟩
    · rw [b3]; simp (disch := omega) only [q_eM, q_Me, q_Mlt, q_Mle, q_leM, q_ltM, q_le, q_nle, q_lt, q_nlt, q_neq, zin_nI, nI_clamp, nI_add, pk_mul, pk_sub, mI_e, mI_n, mL_e, mL_n, mR_e, mR_n, i0, i1, ↓reduceIte, ↓bI_t, ↓bI_f, Bool.false_eq_true, eq_self, chk_true, bnd_just, bnd2_just, app_t, beq_self_eq_true, mK_wI, mK_wL, mK_wR, mK_wIr, mK_wLr, mN_wI, mN_wL, mN_wR, mN_wIr, mN_wLr, mR_wI, mR_wL, mR_wIr, mR_wLr, mI_wL, mI_wR, mI_wLr, mL_wI, mL_wR, mL_wIr]
    · rw [b3]; simp (disch := omega) only [q_eM, q_Me, q_Mlt, q_Mle, q_leM, q_ltM, q_le, q_nle, q_lt, q_nlt, q_neq, zin_nI, nI_clamp, nI_add, pk_mul, pk_sub, mI_e, mI_n, mL_e, mL_n, mR_e, mR_n, i0, i1, ↓reduceIte, ↓bI_t, ↓bI_f, Bool.false_eq_true, eq_self, chk_true, bnd_just, bnd2_just, app_t, beq_self_eq_true, mK_wI, mK_wL, mK_wR, mK_wIr, mK_wLr, mN_wI, mN_wL, mN_wR, mN_wIr, mN_wLr, mR_wI, mR_wL, mR_wIr, mR_wLr, mI_wL, mI_wR, mI_wLr, mL_wI, mL_wR, mL_wIr]
    · rw [b3]; simp (disch := omega) only [q_eM, q_Me, q_Mlt, q_Mle, q_leM, q_ltM, q_le, q_nle, q_lt, q_nlt, q_neq, zin_nI, nI_clamp, nI_add, pk_mul, pk_sub, mI_e, mI_n, mL_e, mL_n, mR_e, mR_n, i0, i1, ↓reduceIte, ↓bI_t, ↓bI_f, Bool.false_eq_true, eq_self, chk_true, bnd_just, bnd2_just, app_t, beq_self_eq_true, mK_wI, mK_wL, mK_wR, mK_wIr, mK_wLr, mN_wI, mN_wL, mN_wR, mN_wIr, mN_wLr, mR_wI, mR_wL, mR_wIr, mR_wLr, mI_wL, mI_wR, mI_wLr, mL_wI, mL_wR, mL_wIr]
  obtain ⟨M1, n1, S1, s1, s2, s3, s4, s5, s6, s7⟩ := c_lay hP cs.length 0 N Mb (okS A0) (by omega) (by omega) b4 hTb hRb (WfS_ok Wf_A0) (by simp [okS])
  have hS1 := s3.sta b4
  rw [List.drop_zero] at s7
  rw [s2, s7]
  have hq : zQF P M M1 := by
    refine zQF.tr (M1 := wI (wI (wI M 2 4 (nI 0)) 2 1 iM) 2 5 (nI 0)) ⟨rfl, fun _ _ _ => rfl, fun a j q => ⟨?_, rfl⟩⟩ (b2.tr s3.qf)
    simp (disch := omega) only [q_eM, q_Me, q_Mlt, q_Mle, q_leM, q_ltM, q_le, q_nle, q_lt, q_nlt, q_neq, zin_nI, nI_clamp, nI_add, pk_mul, pk_sub, mI_e, mI_n, mL_e, mL_n, mR_e, mR_n, i0, i1, ↓reduceIte, ↓bI_t, ↓bI_f, Bool.false_eq_true, eq_self, chk_true, bnd_just, bnd2_just, app_t, beq_self_eq_true, mK_wI, mK_wL, mK_wR, mK_wIr, mK_wLr, mN_wI, mN_wL, mN_wR, mN_wIr, mN_wLr, mR_wI, mR_wL, mR_wIr, mR_wLr, mI_wL, mI_wR, mI_wLr, mL_wI, mL_wR, mL_wIr]
  have hb4 : mI M1 (P + 4) 0 = nI 0 := ((s3.2.2 (P + 4) 0 (by omega)).1).trans b6
  have hl1 : mI M1 2 0 = nI cs.length := ((s3.2.2 2 0 (by omega)).1).trans hTb.1
  obtain ⟨A, m, R, f, pl⟩ := S1
  simp only at s6 ⊢
  obtain ⟨g4, gf, gg⟩ := s4
  by_cases hf : f = 0
  · subst hf
    replace gg := gg rfl
    obtain ⟨o, s, ng, ll, la, mi, ma⟩ := R
    obtain ⟨g1, gL, g5, g9, -⟩ := gg
    have gd : mI M1 4 0 = nI (aDp A) := gL.2.2.1
    have gd8 : aDp A ≤ 8 := gL.2.2.2.2.1.1
    by_cases hbad : m ≠ 0 ∨ 0 < aDp A
    · rw [if_pos ⟨rfl, hbad⟩]
      refine ⟨wI (wI (wI M1 2 4 (nI 2)) 2 1 (nI cs.length)) 2 0 (nI 0), ?_, ((hq.w2 _ _).w2 _ _).w2 _ _, ?_, ?_, fun _ => ?_, fun q => by simp [zbad] at q⟩
      · have e116 : fX6_layOut_116 n1 M1 2 = some (nI 2, wI (wI (wI M1 2 4 (nI 2)) 2 1 (nI cs.length)) 2 0 (nI 0)) := by
          unfold fX6_layOut_116 fX6_layOut_125 fX6_layOut_139 fX6_fail
          simp (disch := omega) only [q_eM, q_Me, q_Mlt, q_Mle, q_leM, q_ltM, q_le, q_nle, q_lt, q_nlt, q_neq, zin_nI, nI_clamp, nI_add, pk_mul, pk_sub, mI_e, mI_n, mL_e, mL_n, mR_e, mR_n, i0, i1, ↓reduceIte, ↓bI_t, ↓bI_f, Bool.false_eq_true, eq_self, chk_true, bnd_just, bnd2_just, app_t, beq_self_eq_true, mK_wI, mK_wL, mK_wR, mK_wIr, mK_wLr, mN_wI, mN_wL, mN_wR, mN_wIr, mN_wLr, mR_wI, mR_wL, mR_wIr, mR_wLr, mI_wL, mI_wR, mI_wLr, mL_wI, mL_wR, mL_wIr, il_2, sk_2 hS1, hl1]
        unfold fX6_layOut_92
        by_cases hm : m = 0
        · subst hm
          have : 0 < aDp A := by omega
          simp (disch := omega) only [q_eM, q_Me, q_Mlt, q_Mle, q_leM, q_ltM, q_le, q_nle, q_lt, q_nlt, q_neq, zin_nI, nI_clamp, nI_add, pk_mul, pk_sub, mI_e, mI_n, mL_e, mL_n, mR_e, mR_n, i0, i1, ↓reduceIte, ↓bI_t, ↓bI_f, Bool.false_eq_true, eq_self, chk_true, bnd_just, bnd2_just, app_t, beq_self_eq_true, mK_wI, mK_wL, mK_wR, mK_wIr, mK_wLr, mN_wI, mN_wL, mN_wR, mN_wIr, mN_wLr, mR_wI, mR_wL, mR_wIr, mR_wLr, mI_wL, mI_wR, mI_wLr, mL_wI, mL_wR, mL_wIr, sk_2 hS1, sk_4 hS1, sr_2_3 hS1, g4, g5, gd, e116]
          rfl
        · simp (disch := omega) only [q_eM, q_Me, q_Mlt, q_Mle, q_leM, q_ltM, q_le, q_nle, q_lt, q_nlt, q_neq, zin_nI, nI_clamp, nI_add, pk_mul, pk_sub, mI_e, mI_n, mL_e, mL_n, mR_e, mR_n, i0, i1, ↓reduceIte, ↓bI_t, ↓bI_f, Bool.false_eq_true, eq_self, chk_true, bnd_just, bnd2_just, app_t, beq_self_eq_true, mK_wI, mK_wL, mK_wR, mK_wIr, mK_wLr, mN_wI, mN_wL, mN_wR, mN_wIr, mN_wLr, mR_wI, mR_wL, mR_wIr, mR_wLr, mI_wL, mI_wR, mI_wLr, mL_wI, mL_wR, mL_wIr, sk_2 hS1, sk_4 hS1, sr_2_3 hS1, g4, g5, gd, e116]
          rfl
      · simp (disch := omega) only [q_eM, q_Me, q_Mlt, q_Mle, q_leM, q_ltM, q_le, q_nle, q_lt, q_nlt, q_neq, zin_nI, nI_clamp, nI_add, pk_mul, pk_sub, mI_e, mI_n, mL_e, mL_n, mR_e, mR_n, i0, i1, ↓reduceIte, ↓bI_t, ↓bI_f, Bool.false_eq_true, eq_self, chk_true, bnd_just, bnd2_just, app_t, beq_self_eq_true, mK_wI, mK_wL, mK_wR, mK_wIr, mK_wLr, mN_wI, mN_wL, mN_wR, mN_wIr, mN_wLr, mR_wI, mR_wL, mR_wIr, mR_wLr, mI_wL, mI_wR, mI_wLr, mL_wI, mL_wR, mL_wIr]
      · simp (disch := omega) only [q_eM, q_Me, q_Mlt, q_Mle, q_leM, q_ltM, q_le, q_nle, q_lt, q_nlt, q_neq, zin_nI, nI_clamp, nI_add, pk_mul, pk_sub, mI_e, mI_n, mL_e, mL_n, mR_e, mR_n, i0, i1, ↓reduceIte, ↓bI_t, ↓bI_f, Bool.false_eq_true, eq_self, chk_true, bnd_just, bnd2_just, app_t, beq_self_eq_true, mK_wI, mK_wL, mK_wR, mK_wIr, mK_wLr, mN_wI, mN_wL, mN_wR, mN_wIr, mN_wLr, mR_wI, mR_wL, mR_wIr, mR_wLr, mI_wL, mI_wR, mI_wLr, mL_wI, mL_wR, mL_wIr, hb4]
      · simp (disch := omega) only [q_eM, q_Me, q_Mlt, q_Mle, q_leM, q_ltM, q_le, q_nle, q_lt, q_nlt, q_neq, zin_nI, nI_clamp, nI_add, pk_mul, pk_sub, mI_e, mI_n, mL_e, mL_n, mR_e, mR_n, i0, i1, ↓reduceIte, ↓bI_t, ↓bI_f, Bool.false_eq_true, eq_self, chk_true, bnd_just, bnd2_just, app_t, beq_self_eq_true, mK_wI, mK_wL, mK_wR, mK_wIr, mK_wLr, mN_wI, mN_wL, mN_wR, mN_wIr, mN_wLr, mR_wI, mR_wL, mR_wIr, mR_wLr, mI_wL, mI_wR, mI_wLr, mL_wI, mL_wR, mL_wIr]; rfl
    · rw [if_neg (fun q => hbad q.2)]
      have hm : m = 0 := by omega
      have hd0 : aDp A = 0 := by omega
      subst hm
      obtain ⟨M2, t1, t2, k, se, fo, d, ro, ch, cb, hp, pt, pb, t3, t4⟩ := c_finish hS1 hP gL hd0 n1 s1
      have hS2 := t2.sta hS1
      have h2i : ∀ j, mI M2 2 j = mI M1 2 j := fun j => (t2.row2 hP j).1
      refine ⟨wI M2 2 0 (nI 0), ?_, (hq.tr (RF.qf (RF.lf t2))).w2 _ _, ?_, ?_, fun q => absurd rfl q, fun _ => ⟨?_, ?_⟩⟩
      · unfold fX6_layOut_92 fX6_layOut_125 fX6_layOut_139
        simp (disch := omega) only [q_eM, q_Me, q_Mlt, q_Mle, q_leM, q_ltM, q_le, q_nle, q_lt, q_nlt, q_neq, zin_nI, nI_clamp, nI_add, pk_mul, pk_sub, mI_e, mI_n, mL_e, mL_n, mR_e, mR_n, i0, i1, ↓reduceIte, ↓bI_t, ↓bI_f, Bool.false_eq_true, eq_self, chk_true, bnd_just, bnd2_just, app_t, beq_self_eq_true, mK_wI, mK_wL, mK_wR, mK_wIr, mK_wLr, mN_wI, mN_wL, mN_wR, mN_wIr, mN_wLr, mR_wI, mR_wL, mR_wIr, mR_wLr, mI_wL, mI_wR, mI_wLr, mL_wI, mL_wR, mL_wIr, sk_2 hS1, sk_4 hS1, sr_2_3 hS1, g4, g5, gd, hd0, t1, sk_2 hS2, h2i]
      · simp (disch := omega) only [q_eM, q_Me, q_Mlt, q_Mle, q_leM, q_ltM, q_le, q_nle, q_lt, q_nlt, q_neq, zin_nI, nI_clamp, nI_add, pk_mul, pk_sub, mI_e, mI_n, mL_e, mL_n, mR_e, mR_n, i0, i1, ↓reduceIte, ↓bI_t, ↓bI_f, Bool.false_eq_true, eq_self, chk_true, bnd_just, bnd2_just, app_t, beq_self_eq_true, mK_wI, mK_wL, mK_wR, mK_wIr, mK_wLr, mN_wI, mN_wL, mN_wR, mN_wIr, mN_wLr, mR_wI, mR_wL, mR_wIr, mR_wLr, mI_wL, mI_wR, mI_wLr, mL_wI, mL_wR, mL_wIr]
      · simp (disch := omega) only [q_eM, q_Me, q_Mlt, q_Mle, q_leM, q_ltM, q_le, q_nle, q_lt, q_nlt, q_neq, zin_nI, nI_clamp, nI_add, pk_mul, pk_sub, mI_e, mI_n, mL_e, mL_n, mR_e, mR_n, i0, i1, ↓reduceIte, ↓bI_t, ↓bI_f, Bool.false_eq_true, eq_self, chk_true, bnd_just, bnd2_just, app_t, beq_self_eq_true, mK_wI, mK_wL, mK_wR, mK_wIr, mK_wLr, mN_wI, mN_wL, mN_wR, mN_wIr, mN_wLr, mR_wI, mR_wL, mR_wIr, mR_wLr, mI_wL, mI_wR, mI_wLr, mL_wI, mL_wR, mL_wIr, (t2.2.2 (P + 4) (by omega) 0).1, hb4]
      · simp (disch := omega) only [q_eM, q_Me, q_Mlt, q_Mle, q_leM, q_ltM, q_le, q_nle, q_lt, q_nlt, q_neq, zin_nI, nI_clamp, nI_add, pk_mul, pk_sub, mI_e, mI_n, mL_e, mL_n, mR_e, mR_n, i0, i1, ↓reduceIte, ↓bI_t, ↓bI_f, Bool.false_eq_true, eq_self, chk_true, bnd_just, bnd2_just, app_t, beq_self_eq_true, mK_wI, mK_wL, mK_wR, mK_wIr, mK_wLr, mN_wI, mN_wL, mN_wR, mN_wIr, mN_wLr, mR_wI, mR_wL, mR_wIr, mR_wLr, mI_wL, mI_wR, mI_wLr, mL_wI, mL_wR, mL_wIr, h2i, g1]
      · unfold patA
        rw [t3]
        obtain ⟨⟨p1, p2, p3, p4⟩, p5, p6, p7, p8⟩ := t4
        refine ⟨⟨?_, p2, fun j hj => ?_, fun j hj => ?_⟩, ?_, ?_, ?_, fun x hx => ?_⟩
        · simp (disch := omega) only [q_eM, q_Me, q_Mlt, q_Mle, q_leM, q_ltM, q_le, q_nle, q_lt, q_nlt, q_neq, zin_nI, nI_clamp, nI_add, pk_mul, pk_sub, mI_e, mI_n, mL_e, mL_n, mR_e, mR_n, i0, i1, ↓reduceIte, ↓bI_t, ↓bI_f, Bool.false_eq_true, eq_self, chk_true, bnd_just, bnd2_just, app_t, beq_self_eq_true, mK_wI, mK_wL, mK_wR, mK_wIr, mK_wLr, mN_wI, mN_wL, mN_wR, mN_wIr, mN_wLr, mR_wI, mR_wL, mR_wIr, mR_wLr, mI_wL, mI_wR, mI_wLr, mL_wI, mL_wR, mL_wIr, p1]
        · simp (disch := omega) only [q_eM, q_Me, q_Mlt, q_Mle, q_leM, q_ltM, q_le, q_nle, q_lt, q_nlt, q_neq, zin_nI, nI_clamp, nI_add, pk_mul, pk_sub, mI_e, mI_n, mL_e, mL_n, mR_e, mR_n, i0, i1, ↓reduceIte, ↓bI_t, ↓bI_f, Bool.false_eq_true, eq_self, chk_true, bnd_just, bnd2_just, app_t, beq_self_eq_true, mK_wI, mK_wL, mK_wR, mK_wIr, mK_wLr, mN_wI, mN_wL, mN_wR, mN_wIr, mN_wLr, mR_wI, mR_wL, mR_wIr, mR_wLr, mI_wL, mI_wR, mI_wLr, mL_wI, mL_wR, mL_wIr, p3 j]
        · simp (disch := omega) only [q_eM, q_Me, q_Mlt, q_Mle, q_leM, q_ltM, q_le, q_nle, q_lt, q_nlt, q_neq, zin_nI, nI_clamp, nI_add, pk_mul, pk_sub, mI_e, mI_n, mL_e, mL_n, mR_e, mR_n, i0, i1, ↓reduceIte, ↓bI_t, ↓bI_f, Bool.false_eq_true, eq_self, chk_true, bnd_just, bnd2_just, app_t, beq_self_eq_true, mK_wI, mK_wL, mK_wR, mK_wIr, mK_wLr, mN_wI, mN_wL, mN_wR, mN_wIr, mN_wLr, mR_wI, mR_wL, mR_wIr, mR_wLr, mI_wL, mI_wR, mI_wLr, mL_wI, mL_wR, mL_wIr, p4 j]
        · simp (disch := omega) only [q_eM, q_Me, q_Mlt, q_Mle, q_leM, q_ltM, q_le, q_nle, q_lt, q_nlt, q_neq, zin_nI, nI_clamp, nI_add, pk_mul, pk_sub, mI_e, mI_n, mL_e, mL_n, mR_e, mR_n, i0, i1, ↓reduceIte, ↓bI_t, ↓bI_f, Bool.false_eq_true, eq_self, chk_true, bnd_just, bnd2_just, app_t, beq_self_eq_true, mK_wI, mK_wL, mK_wR, mK_wIr, mK_wLr, mN_wI, mN_wL, mN_wR, mN_wIr, mN_wLr, mR_wI, mR_wL, mR_wIr, mR_wLr, mI_wL, mI_wR, mI_wLr, mL_wI, mL_wR, mL_wIr, p5]
        · simp (disch := omega) only [q_eM, q_Me, q_Mlt, q_Mle, q_leM, q_ltM, q_le, q_nle, q_lt, q_nlt, q_neq, zin_nI, nI_clamp, nI_add, pk_mul, pk_sub, mI_e, mI_n, mL_e, mL_n, mR_e, mR_n, i0, i1, ↓reduceIte, ↓bI_t, ↓bI_f, Bool.false_eq_true, eq_self, chk_true, bnd_just, bnd2_just, app_t, beq_self_eq_true, mK_wI, mK_wL, mK_wR, mK_wIr, mK_wLr, mN_wI, mN_wL, mN_wR, mN_wIr, mN_wLr, mR_wI, mR_wL, mR_wIr, mR_wLr, mI_wL, mI_wR, mI_wLr, mL_wI, mL_wR, mL_wIr, p6]
        · simp (disch := omega) only [q_eM, q_Me, q_Mlt, q_Mle, q_leM, q_ltM, q_le, q_nle, q_lt, q_nlt, q_neq, zin_nI, nI_clamp, nI_add, pk_mul, pk_sub, mI_e, mI_n, mL_e, mL_n, mR_e, mR_n, i0, i1, ↓reduceIte, ↓bI_t, ↓bI_f, Bool.false_eq_true, eq_self, chk_true, bnd_just, bnd2_just, app_t, beq_self_eq_true, mK_wI, mK_wL, mK_wR, mK_wIr, mK_wLr, mN_wI, mN_wL, mN_wR, mN_wIr, mN_wLr, mR_wI, mR_wL, mR_wIr, mR_wLr, mI_wL, mI_wR, mI_wLr, mL_wI, mL_wR, mL_wIr, p7]
        · simp (disch := omega) only [q_eM, q_Me, q_Mlt, q_Mle, q_leM, q_ltM, q_le, q_nle, q_lt, q_nlt, q_neq, zin_nI, nI_clamp, nI_add, pk_mul, pk_sub, mI_e, mI_n, mL_e, mL_n, mR_e, mR_n, i0, i1, ↓reduceIte, ↓bI_t, ↓bI_f, Bool.false_eq_true, eq_self, chk_true, bnd_just, bnd2_just, app_t, beq_self_eq_true, mK_wI, mK_wL, mK_wR, mK_wIr, mK_wLr, mN_wI, mN_wL, mN_wR, mN_wIr, mN_wLr, mR_wI, mR_wL, mR_wIr, mR_wLr, mI_wL, mI_wR, mI_wLr, mL_wI, mL_wR, mL_wIr, p8 x]
  · rw [if_neg (fun q => hf q.1)]
    refine ⟨wI M1 2 0 (nI 0), ?_, hq.w2 _ _, ?_, ?_, fun _ => ?_, fun q => absurd q hf⟩
    · unfold fX6_layOut_92 fX6_layOut_125 fX6_layOut_139
      simp (disch := omega) only [q_eM, q_Me, q_Mlt, q_Mle, q_leM, q_ltM, q_le, q_nle, q_lt, q_nlt, q_neq, zin_nI, nI_clamp, nI_add, pk_mul, pk_sub, mI_e, mI_n, mL_e, mL_n, mR_e, mR_n, i0, i1, ↓reduceIte, ↓bI_t, ↓bI_f, Bool.false_eq_true, eq_self, chk_true, bnd_just, bnd2_just, app_t, beq_self_eq_true, mK_wI, mK_wL, mK_wR, mK_wIr, mK_wLr, mN_wI, mN_wL, mN_wR, mN_wIr, mN_wLr, mR_wI, mR_wL, mR_wIr, mR_wLr, mI_wL, mI_wR, mI_wLr, mL_wI, mL_wR, mL_wIr, sk_2 hS1, g4]
    · simp (disch := omega) only [q_eM, q_Me, q_Mlt, q_Mle, q_leM, q_ltM, q_le, q_nle, q_lt, q_nlt, q_neq, zin_nI, nI_clamp, nI_add, pk_mul, pk_sub, mI_e, mI_n, mL_e, mL_n, mR_e, mR_n, i0, i1, ↓reduceIte, ↓bI_t, ↓bI_f, Bool.false_eq_true, eq_self, chk_true, bnd_just, bnd2_just, app_t, beq_self_eq_true, mK_wI, mK_wL, mK_wR, mK_wIr, mK_wLr, mN_wI, mN_wL, mN_wR, mN_wIr, mN_wLr, mR_wI, mR_wL, mR_wIr, mR_wLr, mI_wL, mI_wR, mI_wLr, mL_wI, mL_wR, mL_wIr]
    · simp (disch := omega) only [q_eM, q_Me, q_Mlt, q_Mle, q_leM, q_ltM, q_le, q_nle, q_lt, q_nlt, q_neq, zin_nI, nI_clamp, nI_add, pk_mul, pk_sub, mI_e, mI_n, mL_e, mL_n, mR_e, mR_n, i0, i1, ↓reduceIte, ↓bI_t, ↓bI_f, Bool.false_eq_true, eq_self, chk_true, bnd_just, bnd2_just, app_t, beq_self_eq_true, mK_wI, mK_wL, mK_wR, mK_wIr, mK_wLr, mN_wI, mN_wL, mN_wR, mN_wIr, mN_wLr, mR_wI, mR_wL, mR_wIr, mR_wLr, mI_wL, mI_wR, mI_wLr, mL_wI, mL_wR, mL_wIr, hb4]
    · simp (disch := omega) only [q_eM, q_Me, q_Mlt, q_Mle, q_leM, q_ltM, q_le, q_nle, q_lt, q_nlt, q_neq, zin_nI, nI_clamp, nI_add, pk_mul, pk_sub, mI_e, mI_n, mL_e, mL_n, mR_e, mR_n, i0, i1, ↓reduceIte, ↓bI_t, ↓bI_f, Bool.false_eq_true, eq_self, chk_true, bnd_just, bnd2_just, app_t, beq_self_eq_true, mK_wI, mK_wL, mK_wR, mK_wIr, mK_wLr, mN_wI, mN_wL, mN_wR, mN_wIr, mN_wLr, mR_wI, mR_wL, mR_wIr, mR_wLr, mI_wL, mI_wR, mI_wLr, mL_wI, mL_wR, mL_wIr, gf hf]
theorem c_free {M : zM} (hS : Sta M) (n : Nat) : ∃ P, isP P ∧ mR M 1 6 ≠ some P ∧ mR M 1 7 ≠ some P ∧ fX9_freePattern (n + 4) M 1 = some (P, M) := by
  have e0 : mR M 46 0 = some 47 := sR hS (by decide)
  have e1 : mR M 46 1 = some 54 := sR hS (by decide)
  have e2 : mR M 46 2 = some 61 := sR hS (by decide)
  have hst : ∀ (f v i : Nat), i < 3 → v < 3 → fX9_freePattern_4 (f + 1) M 1 (nI v) (nI i) = fX9_freePattern_4 f M 1 (nI (if mR M 46 i = mR M 1 6 ∨ mR M 46 i = mR M 1 7 then v else i)) (nI (i + 1)) := by
    intro f v i hi hv
    rw [fX9_freePattern_4]
    unfold fX9_freePattern_41
    by_cases h6 : mR M 46 i = mR M 1 6
    · rw [if_pos (Or.inl h6)]
      simp (disch := omega) only [q_eM, q_Me, q_Mlt, q_Mle, q_leM, q_ltM, q_le, q_nle, q_lt, q_nlt, q_neq, zin_nI, nI_clamp, nI_add, pk_mul, pk_sub, mI_e, mI_n, mL_e, mL_n, mR_e, mR_n, i0, i1, ↓reduceIte, ↓bI_t, ↓bI_f, Bool.false_eq_true, eq_self, chk_true, bnd_just, bnd2_just, app_t, beq_self_eq_true, mK_wI, mK_wL, mK_wR, mK_wIr, mK_wLr, mN_wI, mN_wL, mN_wR, mN_wIr, mN_wLr, mR_wI, mR_wL, mR_wIr, mR_wLr, mI_wL, mI_wR, mI_wLr, mL_wI, mL_wR, mL_wIr, sk_1 hS, sk_46 hS, sn_46 hS, sr_1_5 hS, h6]
    · by_cases h7 : mR M 46 i = mR M 1 7
      · rw [if_pos (Or.inr h7)]
        simp (disch := omega) only [q_eM, q_Me, q_Mlt, q_Mle, q_leM, q_ltM, q_le, q_nle, q_lt, q_nlt, q_neq, zin_nI, nI_clamp, nI_add, pk_mul, pk_sub, mI_e, mI_n, mL_e, mL_n, mR_e, mR_n, i0, i1, ↓reduceIte, ↓bI_t, ↓bI_f, Bool.false_eq_true, eq_self, chk_true, bnd_just, bnd2_just, app_t, beq_self_eq_true, mK_wI, mK_wL, mK_wR, mK_wIr, mK_wLr, mN_wI, mN_wL, mN_wR, mN_wIr, mN_wLr, mR_wI, mR_wL, mR_wIr, mR_wLr, mI_wL, mI_wR, mI_wLr, mL_wI, mL_wR, mL_wIr, sk_1 hS, sk_46 hS, sn_46 hS, sr_1_5 hS]
        rw [if_neg h6, if_pos h7]
      · rw [if_neg (fun q => q.elim h6 h7)]
        simp (disch := omega) only [q_eM, q_Me, q_Mlt, q_Mle, q_leM, q_ltM, q_le, q_nle, q_lt, q_nlt, q_neq, zin_nI, nI_clamp, nI_add, pk_mul, pk_sub, mI_e, mI_n, mL_e, mL_n, mR_e, mR_n, i0, i1, ↓reduceIte, ↓bI_t, ↓bI_f, Bool.false_eq_true, eq_self, chk_true, bnd_just, bnd2_just, app_t, beq_self_eq_true, mK_wI, mK_wL, mK_wR, mK_wIr, mK_wLr, mN_wI, mN_wL, mN_wR, mN_wIr, mN_wLr, mR_wI, mR_wL, mR_wIr, mR_wLr, mI_wL, mI_wR, mI_wLr, mL_wI, mL_wR, mL_wIr, sk_1 hS, sk_46 hS, sn_46 hS, sr_1_5 hS]
        rw [if_neg h6, if_neg h7]
  have hen : ∀ (f v P : Nat), v < 3 → mR M 46 v = some P → fX9_freePattern_4 (f + 1) M 1 (nI v) (nI 3) = some (P, M) := by
    intro f v P hv hvP
    rw [fX9_freePattern_4]
    simp (disch := omega) only [q_eM, q_Me, q_Mlt, q_Mle, q_leM, q_ltM, q_le, q_nle, q_lt, q_nlt, q_neq, zin_nI, nI_clamp, nI_add, pk_mul, pk_sub, mI_e, mI_n, mL_e, mL_n, mR_e, mR_n, i0, i1, ↓reduceIte, ↓bI_t, ↓bI_f, Bool.false_eq_true, eq_self, chk_true, bnd_just, bnd2_just, app_t, beq_self_eq_true, mK_wI, mK_wL, mK_wR, mK_wIr, mK_wLr, mN_wI, mN_wL, mN_wR, mN_wIr, mN_wLr, mR_wI, mR_wL, mR_wIr, mR_wLr, mI_wL, mI_wR, mI_wLr, mL_wI, mL_wR, mL_wIr, sk_1 hS, sk_46 hS, sn_46 hS, sr_1_5 hS, hvP]
  unfold fX9_freePattern
  rw [i0, hst (n + 3) 0 0 (by omega) (by omega), hst (n + 2) _ 1 (by omega) (by split <;> omega), hst (n + 1) _ 2 (by omega) (by split <;> first | omega | (split <;> omega))]
  rw [e0, e1, e2]
  have hfin : ∀ v P, v < 3 → mR M 46 v = some P → isP P → mR M 1 6 ≠ some P → mR M 1 7 ≠ some P → ∃ P, isP P ∧ mR M 1 6 ≠ some P ∧ mR M 1 7 ≠ some P ∧ fX9_freePattern_4 (n + 1) M 1 (nI v) (nI (2 + 1)) = some (P, M) := fun v P h1 h2 h3 h4 h5 => ⟨P, h3, h4, h5, hen n v P h1 h2⟩
  by_cases c2 : some 61 = mR M 1 6 ∨ some 61 = mR M 1 7
  · rw [if_pos c2]
    by_cases c1 : some 54 = mR M 1 6 ∨ some 54 = mR M 1 7
    · rw [if_pos c1]
      have c0 : ¬ (some 47 = mR M 1 6 ∨ some 47 = mR M 1 7) := by
        rcases c2 with q | q <;> rcases c1 with q1 | q1 <;> first | (rw [← q] at q1; simp at q1) | (rw [← q, ← q1]; simp)
      rw [ite_self]
      exact hfin 0 47 (by omega) e0 (Or.inl rfl) (fun q => c0 (Or.inl q.symm)) (fun q => c0 (Or.inr q.symm))
    · rw [if_neg c1]
      exact hfin 1 54 (by omega) e1 (Or.inr (Or.inl rfl)) (fun q => c1 (Or.inl q.symm)) (fun q => c1 (Or.inr q.symm))
  · rw [if_neg c2]
    exact hfin 2 61 (by omega) e2 (Or.inr (Or.inr rfl)) (fun q => c2 (Or.inl q.symm)) (fun q => c2 (Or.inr q.symm))
end ZCREAD
