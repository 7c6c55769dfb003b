/-! the class builds an automaton -/
section ZCBUILD
def gdK (p : zPt) (ks : List Int64) (s : Nat) : Bool := if s = 0 then pe p else decide (ks.getD (s - 1) 0 &&& pl p ≠ 0)
theorem gdK_row {p : zPt} {ks : List Int64} {s t : Nat} (hk : ks.length ≤ 299) (ht : t ≤ ks.length) : gdK p (rowk p ks s 36) t = gdK p ks t := by
  unfold gdK
  by_cases h : t = 0
  · rw [if_pos h, if_pos h]
  · rw [if_neg h, if_neg h, rowk_getD hk (by omega)]
/-- what is built once it is built -/
def AutC (M : zM) (P : Nat) (p : zPt) : Prop := mI M (P + 4) 0 = nI 1 ∧ mI M (P + 4) 2 = nI ((zKS p).length + 1) ∧ (∃ b, mI M (P + 4) 1 = bI b ∧ FilW (wyC M P) p (zKS p) ((zKS p).length + 1) 0 b) ∧ (∀ s, s ≤ (zKS p).length → mI M (P + 5) s = bI (gd p s)) ∧ NoDup (zKS p) ∧ (zKS p).length ≤ 299
theorem c_bl {P : Nat} (hP : isP P) {p : zPt} : ∀ (f s fuel : Nat) (M : zM) (ks : List Int64) (b : Bool), Sta M → PatC M P p → RegS M ks → ks.length ≤ 299 → FilW (wyC M P) p ks s 0 b → mI M (P + 4) 1 = bI b → mI M (P + 4) 2 = nI (ks.length + 1) → (∀ t, t < s → mI M (P + 5) t = bI (gdK p ks t)) → 1 ≤ s → s ≤ ks.length + 1 → f + s = 300 → f + 1300 < fuel →
    ∃ M' b', fX0_build_42 fuel M (P + 4) P 31 (nI s) = some ((), M') ∧ zBF P M M' ∧ RegS M' (bkF p f s ks) ∧ (bkF p f s ks).length ≤ 299 ∧ NoDup (bkF p f s ks) ∧ FilW (wyC M' P) p (bkF p f s ks) ((bkF p f s ks).length + 1) 0 b' ∧ mI M' (P + 4) 0 = nI 1 ∧ mI M' (P + 4) 1 = bI b' ∧ mI M' (P + 4) 2 = nI ((bkF p f s ks).length + 1) ∧ (∀ t, t ≤ (bkF p f s ks).length → mI M' (P + 5) t = bI (gdK p (bkF p f s ks) t)) ∧ mI M' (P + 4) 3 = mI M (P + 4) 3 := by
  intro f
  induction f with
  | zero =>
    intro s fuel M ks b hS hp hR hk hF h1 h2 hg hs1 hs hfs hf
    obtain ⟨g, rfl⟩ := suc fuel (by omega)
    obtain ⟨hP1, hP2⟩ := isP_le hP
    have hse : s = ks.length + 1 := by omega
    refine ⟨wI M (P + 4) 0 (nI 1), b, ?_, zBF.rf.wI (by omega) _ _, hR.fr (fun a j _ _ => mI_n (by omega)) (fun j => rfl), hk, hR.nodup, ?_, mI_e rfl rfl, by rw [mI_n (by omega)]; exact h1, by rw [mI_n (by omega)]; exact h2, fun t ht => by rw [mI_n (by omega)]; exact hg t (show t < s by simp only [bkF] at ht; omega), mI_n (by omega)⟩
    · rw [fX0_build_42]
      simp (disch := omega) only [q_eM, q_Me, q_Mlt, q_Mle, q_leM, q_ltM, q_le, q_nle, q_lt, q_nlt, q_neq, zin_nI, nI_clamp, nI_add, pk_mul, pk_sub, mI_e, mI_n, mL_e, mL_n, mR_e, mR_n, i0, i1, ↓reduceIte, ↓bI_t, ↓bI_f, Bool.false_eq_true, eq_self, chk_true, bnd_just, bnd2_just, app_t, beq_self_eq_true, mK_wI, mK_wL, mK_wR, mK_wIr, mK_wLr, mN_wI, mN_wL, mN_wR, mN_wIr, mN_wLr, mR_wI, mR_wL, mR_wIr, mR_wLr, mI_wL, mI_wR, mI_wLr, mL_wI, mL_wR, mL_wIr, i300, pK4 hS hP, h2]
    · have e : wyC (wI M (P + 4) 0 (nI 1)) P = wyC M P := by
        funext s' l'
        exact mI_n (by omega)
      rw [e]
      show FilW (wyC M P) p ks (ks.length + 1) 0 b
      rw [← hse]; exact hF
  | succ f ih =>
    intro s fuel M ks b hS hp hR hk hF h1 h2 hg hs1 hs hfs hf
    obtain ⟨g, rfl⟩ := suc fuel (by omega)
    obtain ⟨hP1, hP2⟩ := isP_le hP
    by_cases hsl : s < ks.length + 1
    · have ebk : bkF p (f + 1) s ks = bkF p f (s + 1) (rowk p ks s 36) := by
        show (if s < ks.length + 1 then _ else _) = _
        rw [if_pos hsl]
      have hkey : mL M 32 (s - 1) = ks.getD (s - 1) 0 := hR.2.2.2.1 _ (by omega)
      have g3 : mL M P 3 = pl p := hp.2.2.2.1
      obtain ⟨gb, hgb⟩ : ∃ gb, gb = gdK p ks s := ⟨_, rfl⟩
      have hgb2 : gb = decide (ks.getD (s - 1) 0 &&& pl p ≠ 0) := by rw [hgb]; unfold gdK; rw [if_neg (by omega)]
      have hBF1 : zBF P M (wI M (P + 5) s (bI gb)) := zBF.rf.wI (by omega) _ _
      have hS1 := hBF1.sta hS
      have hp1 := hBF1.pat hP hp
      have ebe := c_beh hS1 hP hp1 (ks.getD (s - 1) 0) g (by omega)
      have hwe : wyC (wI M (P + 5) s (bI gb)) P = wyC M P := by
        funext s' l'
        exact mI_n (by omega)
      obtain ⟨M1, b1, t1, t2, t3, t4, t5, t6, t7, t8⟩ := c_layW hP (s := s) (ks := ks) (p := p) (by omega) hk 36 0 g (wI M (P + 5) s (bI gb)) b hS1 hp1 (hR.fr (fun a j _ _ => mI_n (by omega)) (fun j => rfl)) (by rw [hwe]; exact hF) (by rw [mI_n (by omega)]; exact h1) (by omega) (by omega)
      have hds : decide (s = 0) = false := by simp; omega
      rw [hds] at t1
      have hrl := rowk_len (p := p) (s := s) hk 36
      obtain ⟨M', b', u1, u2, u3, u4, u5, u6, u7, u8, u9, u10, u11⟩ := ih (s + 1) g M1 (rowk p ks s 36) b1 (t2.sta hS1) (t2.pat hP hp1) t5 hrl.2 (FilW_row.mp t6) t7 t8 (fun t ht => by
        rw [t3 t]
        by_cases hts : t = s
        · subst hts
          rw [mI_e rfl rfl, gdK_row hk (by omega), ← hgb]
        · rw [mI_n (by omega), gdK_row hk (by omega)]; exact hg t (by omega)) (by omega) (by omega) (by omega) (by omega)
      rw [ebk]
      refine ⟨M', b', ?_, (hBF1.tr t2).tr u2, u3, u4, u5, u6, u7, u8, u9, u10, ?_⟩
      · rw [fX0_build_42]
        unfold fX0_build_89 fX0_layWays
        simp (disch := omega) only [q_eM, q_Me, q_Mlt, q_Mle, q_leM, q_ltM, q_le, q_nle, q_lt, q_nlt, q_neq, zin_nI, nI_clamp, nI_add, pk_mul, pk_sub, mI_e, mI_n, mL_e, mL_n, mR_e, mR_n, i0, i1, ↓reduceIte, ↓bI_t, ↓bI_f, Bool.false_eq_true, eq_self, chk_true, bnd_just, bnd2_just, app_t, beq_self_eq_true, mK_wI, mK_wL, mK_wR, mK_wIr, mK_wLr, mN_wI, mN_wL, mN_wR, mN_wIr, mN_wLr, mR_wI, mR_wL, mR_wIr, mR_wLr, mI_wL, mI_wR, mI_wLr, mL_wI, mL_wR, mL_wIr, i300, pK4 hS hP, h2, sk_31 hS, sk_32 hS, sn_32 hS, sr_31_1 hS, hkey, pA4 hS hP, pK0 hS hP, pK5 hS hP, pN5 hS hP, g3]
        have e9 : ∀ v, v = bI gb → (bnd2 (fX4_behindAny g (wI M (P + 5) s (vp_nar .boolean v)) P (ks.getD (s - 1) 0)) fun r_5 M_6 => chk (mK M_6 (P + 4) == 0) (bnd2 (fX0_layWays_3 g M_6 (P + 4) (nI s) r_5 P 31 (nI 0)) fun r_9 M_10 => fX0_build_42 g M_10 (P + 4) P 31 (nI (s + 1)))) = some ((), M') := by
          rintro v rfl
          rw [bI_nar, ebe]
          simp only [chk_true, bnd_just, bnd2_just, app_t, beq_self_eq_true, mK_wI, mK_wL, mK_wR, mK_wIr, mK_wLr, mN_wI, mN_wL, mN_wR, mN_wIr, mN_wLr, mR_wI, mR_wL, mR_wIr, mR_wLr, mI_wL, mI_wR, mI_wLr, mL_wI, mL_wR, mL_wIr, pK4 hS1 hP, t1, u1]
        by_cases hz : ks.getD (s - 1) 0 &&& pl p = 0
        · rw [if_pos (by rw [← i0]; exact (lg0 _ _).mpr hz)]
          exact e9 _ (by rw [hgb2, decide_eq_false (fun q => q hz)]; rfl)
        · rw [if_neg (by rw [← i0]; exact fun q => hz ((lg0 _ _).mp q))]
          exact e9 _ (by rw [hgb2, decide_eq_true hz]; rfl)
      · rw [u11, t4 3 (by omega) (by omega), mI_n (by omega)]
    · have hse : s = ks.length + 1 := by omega
      have ebk : bkF p (f + 1) s ks = ks := by
        show (if s < ks.length + 1 then _ else _) = _
        rw [if_neg hsl]
      rw [ebk]
      refine ⟨wI M (P + 4) 0 (nI 1), b, ?_, zBF.rf.wI (by omega) _ _, hR.fr (fun a j _ _ => mI_n (by omega)) (fun j => rfl), hk, hR.nodup, ?_, mI_e rfl rfl, by rw [mI_n (by omega)]; exact h1, by rw [mI_n (by omega)]; exact h2, fun t ht => by rw [mI_n (by omega)]; exact hg t (by omega), mI_n (by omega)⟩
      · rw [fX0_build_42]
        simp (disch := omega) only [q_eM, q_Me, q_Mlt, q_Mle, q_leM, q_ltM, q_le, q_nle, q_lt, q_nlt, q_neq, zin_nI, nI_clamp, nI_add, pk_mul, pk_sub, mI_e, mI_n, mL_e, mL_n, mR_e, mR_n, i0, i1, ↓reduceIte, ↓bI_t, ↓bI_f, Bool.false_eq_true, eq_self, chk_true, bnd_just, bnd2_just, app_t, beq_self_eq_true, mK_wI, mK_wL, mK_wR, mK_wIr, mK_wLr, mN_wI, mN_wL, mN_wR, mN_wIr, mN_wLr, mR_wI, mR_wL, mR_wIr, mR_wLr, mI_wL, mI_wR, mI_wLr, mL_wI, mL_wR, mL_wIr, i300, pK4 hS hP, h2]
      · have e : wyC (wI M (P + 4) 0 (nI 1)) P = wyC M P := by
          funext s' l'
          exact mI_n (by omega)
        rw [e, ← hse]; exact hF
theorem c_build {P : Nat} (hP : isP P) {p : zPt} {M : zM} (hS : Sta M) (hp : PatC M P p) {k0 : List Int64} (hR : RegS M k0) (N : Nat) (hN : 1700 ≤ N) :
    ∃ M', fX0_build N M (P + 4) P 31 = some ((), M') ∧ zBF P M M' ∧ RegS M' (zKS p) ∧ AutC M' P p ∧ mI M' (P + 4) 3 = iM := by
  obtain ⟨hP1, hP2⟩ := isP_le hP
  obtain ⟨M0, r1, r2, r3⟩ := c_forget hS hR N (by omega)
  have hS0 := r2.sta hS
  have hBF0 : zBF P M M0 := zBF.r4 r2
  have hp0 := hBF0.pat hP hp
  have g1 : mI M0 P 1 = bI (pe p) := hp0.2.1
  have g2 : mL M0 P 2 = pf p := hp0.2.2.1
  have hBF1 : zBF P M0 (wI (wI (wI (wI M0 (P + 4) 1 (nI 0)) (P + 4) 3 iM) (P + 4) 2 (nI 1)) (P + 5) 0 (bI (pe p))) := (((zBF.rf.wI (by omega) _ _).wI (by omega) _ _).wI (by omega) _ _).wI (by omega) _ _
  have hS1 := hBF1.sta hS0
  have hp1 := hBF1.pat hP hp0
  obtain ⟨M1, b1, t1, t2, t3, t4, t5, t6, t7, t8⟩ := c_layW hP (s := 0) (ks := []) (p := p) (by simp) (by simp) 36 0 N (wI (wI (wI (wI M0 (P + 4) 1 (nI 0)) (P + 4) 3 iM) (P + 4) 2 (nI 1)) (P + 5) 0 (bI (pe p))) false hS1 hp1 (r3.fr (fun a j _ _ => by simp (disch := omega) only [q_eM, q_Me, q_Mlt, q_Mle, q_leM, q_ltM, q_le, q_nle, q_lt, q_nlt, q_neq, zin_nI, nI_clamp, nI_add, pk_mul, pk_sub, mI_e, mI_n, mL_e, mL_n, mR_e, mR_n, i0, i1, ↓reduceIte, ↓bI_t, ↓bI_f, Bool.false_eq_true, eq_self, chk_true, bnd_just, bnd2_just, app_t, beq_self_eq_true, mK_wI, mK_wL, mK_wR, mK_wIr, mK_wLr, mN_wI, mN_wL, mN_wR, mN_wIr, mN_wLr, mR_wI, mR_wL, mR_wIr, mR_wLr, mI_wL, mI_wR, mI_wLr, mL_wI, mL_wR, mL_wIr]) (fun j => rfl)) ⟨fun s' l' hB => by have := hB.2; omega, Iff.intro (fun q => Bool.noConfusion q) (fun ⟨s', l', hB, _⟩ => by have := hB.2; omega)⟩ (by simp (disch := omega) only [q_eM, q_Me, q_Mlt, q_Mle, q_leM, q_ltM, q_le, q_nle, q_lt, q_nlt, q_neq, zin_nI, nI_clamp, nI_add, pk_mul, pk_sub, mI_e, mI_n, mL_e, mL_n, mR_e, mR_n, i0, i1, ↓reduceIte, ↓bI_t, ↓bI_f, Bool.false_eq_true, eq_self, chk_true, bnd_just, bnd2_just, app_t, beq_self_eq_true, mK_wI, mK_wL, mK_wR, mK_wIr, mK_wLr, mN_wI, mN_wL, mN_wR, mN_wIr, mN_wLr, mR_wI, mR_wL, mR_wIr, mR_wLr, mI_wL, mI_wR, mI_wLr, mL_wI, mL_wR, mL_wIr]) (by omega) (by omega)
  have hrl := rowk_len (p := p) (ks := []) (s := 0) (by simp) 36
  obtain ⟨M', b', u1, u2, u3, u4, u5, u6, u7, u8, u9, u10, u11⟩ := c_bl hP (p := p) 299 1 N M1 (rowk p [] 0 36) b1 (t2.sta hS1) (t2.pat hP hp1) t5 hrl.2 (FilW_row.mp t6) t7 t8 (fun t ht => by
    have ht0 : t = 0 := by omega
    subst ht0
    rw [t3 0, mI_e rfl rfl, gdK_row (by simp) (by omega)]; rfl) (by omega) (by omega) (by omega) (by omega)
  have eKS : bkF p 299 1 (rowk p [] 0 36) = zKS p := by
    show _ = bkF p 300 0 []
    rw [show bkF p 300 0 [] = (if 0 < ([] : List Int64).length + 1 then bkF p 299 (0 + 1) (rowk p [] 0 36) else []) from rfl, if_pos (by simp)]
  rw [eKS] at u3 u4 u5 u6 u9 u10
  refine ⟨M', ?_, (hBF0.tr hBF1).tr (t2.tr u2), u3, ⟨u7, u9, ⟨b', u8, u6⟩, fun s hs => u10 s hs, u5, u4⟩, ?_⟩
  · unfold fX0_build fX0_layWays
    rw [r1]
    simp (disch := omega) only [q_eM, q_Me, q_Mlt, q_Mle, q_leM, q_ltM, q_le, q_nle, q_lt, q_nlt, q_neq, zin_nI, nI_clamp, nI_add, pk_mul, pk_sub, mI_e, mI_n, mL_e, mL_n, mR_e, mR_n, i0, i1, ↓reduceIte, ↓bI_t, ↓bI_f, Bool.false_eq_true, eq_self, chk_true, bnd_just, bnd2_just, app_t, beq_self_eq_true, mK_wI, mK_wL, mK_wR, mK_wIr, mK_wLr, mN_wI, mN_wL, mN_wR, mN_wIr, mN_wLr, mR_wI, mR_wL, mR_wIr, mR_wLr, mI_wL, mI_wR, mI_wLr, mL_wI, mL_wR, mL_wIr, ↓neg1, sk_31 hS, pK4 hS0 hP, pA4 hS0 hP, pK0 hS0 hP, pK5 hS0 hP, pN5 hS0 hP, g1, bI_nar]
    have g2' : mL (wI (wI (wI (wI M0 (P + 4) 1 (nI 0)) (P + 4) 3 iM) (P + 4) 2 (nI 1)) (P + 5) 0 (bI (pe p))) P 2 = pf p := g2
    simp only [decide_true, awt, if_true] at t1
    rw [g2, t1]
    simp only [chk_true, bnd_just, bnd2_just, app_t, beq_self_eq_true, mK_wI, mK_wL, mK_wR, mK_wIr, mK_wLr, mN_wI, mN_wL, mN_wR, mN_wIr, mN_wLr, mR_wI, mR_wL, mR_wIr, mR_wLr, mI_wL, mI_wR, mI_wLr, mL_wI, mL_wR, mL_wIr]
    exact u1
  · rw [u11, t4 3 (by omega) (by omega)]
    simp (disch := omega) only [q_eM, q_Me, q_Mlt, q_Mle, q_leM, q_ltM, q_le, q_nle, q_lt, q_nlt, q_neq, zin_nI, nI_clamp, nI_add, pk_mul, pk_sub, mI_e, mI_n, mL_e, mL_n, mR_e, mR_n, i0, i1, ↓reduceIte, ↓bI_t, ↓bI_f, Bool.false_eq_true, eq_self, chk_true, bnd_just, bnd2_just, app_t, beq_self_eq_true, mK_wI, mK_wL, mK_wR, mK_wIr, mK_wLr, mN_wI, mN_wL, mN_wR, mN_wIr, mN_wLr, mR_wI, mR_wL, mR_wIr, mR_wLr, mI_wL, mI_wR, mI_wLr, mL_wI, mL_wR, mL_wIr]
end ZCBUILD
