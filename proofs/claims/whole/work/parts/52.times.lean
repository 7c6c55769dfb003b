/-! the class's Layer: a part some times -/
section ZTIMES
def cpS (se : Nat → Int64) (b w j : Nat) : Int64 := if j < b then se j else se (b + (j - b) % w)
def cpF (fo : Nat → Int64) (b w j : Nat) : Int64 := if j < b + w then fo j else jshl (fo (b + (j - b) % w)) (nI ((j - b) / w * w))
theorem cp_mod {b w p c : Nat} (h1 : b ≤ p) (h2 : p < b + w) : b + (p + c * w - b) % w = p ∧ (p + c * w - b) / w = c := by
  have e : p + c * w - b = (p - b) + c * w := by omega
  have hw : p - b < w := by omega
  rw [e]
  constructor
  · rw [Nat.add_mul_mod_self_right, Nat.mod_eq_of_lt hw]; omega
  · rw [Nat.add_mul_div_right _ _ (by omega), Nat.div_eq_of_lt hw]; omega
theorem cpS_at {se : Nat → Int64} {b w p c : Nat} (h1 : b ≤ p) (h2 : p < b + w) : cpS se b w (p + c * w) = se p := by
  unfold cpS
  rw [if_neg (by omega), (cp_mod h1 h2).1]
theorem cpF_at {fo : Nat → Int64} {b w p c : Nat} (h1 : b ≤ p) (h2 : p < b + w) (hc : 1 ≤ c) : cpF fo b w (p + c * w) = jshl (fo p) (nI (c * w)) := by
  unfold cpF
  have : w ≤ c * w := Nat.le_mul_of_pos_left w hc
  rw [if_neg (by omega), (cp_mod h1 h2).1, (cp_mod h1 h2).2]
/-- all below n is copied -/
def CpI (M : zM) (P : Nat) (se fo : Nat → Int64) (b w n : Nat) : Prop := (∀ j, j < n → mL M (P + 1) j = cpF fo b w j) ∧ ∀ j, j < n → mL M (P + 2) j = cpS se b w j
theorem c_cp1 {P : Nat} (hP : isP P) {se fo : Nat → Int64} {b w t c : Nat} (hb : b + t * w ≤ 60) (hc : 1 ≤ c) (hct : c < t) (ht : t ≤ 5) (k10 : zM → Nat → Int32 → Int32 → Int32 → Int32 → Option (Unit × zM)) : ∀ (m p fuel : Nat) (M : zM), Sta M → CpI M P se fo b w (p + c * w) → b ≤ p → p + m = b + w → m < fuel →
    ∃ M', fX4_copyPositions_19 k10 fuel M P (nI b) (nI t) (nI w) (nI c) (nI p) = k10 M' P (nI b) (nI t) (nI w) (nI (c + 1)) ∧ Ch [P + 1, P + 2] M M' ∧ CpI M' P se fo b w (b + w + c * w) := by
  have hcw : c * w + w ≤ t * w := by rw [← Nat.succ_mul]; exact Nat.mul_le_mul_right w hct
  intro m
  induction m with
  | zero =>
    intro p fuel M hS hI hp hm hf
    obtain ⟨f, rfl⟩ := suc fuel (by omega)
    refine ⟨M, ?_, Ch.rf, by rw [← hm]; exact hI⟩
    rw [fX4_copyPositions_19]
    simp (disch := omega) only [q_eM, q_Me, q_Mlt, q_Mle, q_leM, q_ltM, q_le, q_nle, q_lt, q_nlt, q_neq, zin_nI, nI_clamp, nI_add, pk_mul, pk_sub, mI_e, mI_n, mL_e, mL_n, mR_e, mR_n, i0, i1, ↓reduceIte, ↓bI_t, ↓bI_f, Bool.false_eq_true, eq_self, chk_true, bnd_just, bnd2_just, app_t, beq_self_eq_true, mK_wI, mK_wL, mK_wR, mK_wIr, mK_wLr, mN_wI, mN_wL, mN_wR, mN_wIr, mN_wLr, mR_wI, mR_wL, mR_wIr, mR_wLr, mI_wL, mI_wR, mI_wLr, mL_wI, mL_wR, mL_wIr]
  | succ m ih =>
    intro p fuel M hS hI hp hm hf
    obtain ⟨f, rfl⟩ := suc fuel (by omega)
    obtain ⟨hP1, hP2⟩ := isP_le hP
    have hwc : w ≤ c * w := Nat.le_mul_of_pos_left w hc
    have v1 : mL M (P + 1) p = fo p := by rw [hI.1 p (by omega)]; unfold cpF; rw [if_pos (by omega)]
    have v2 : mL M (P + 2) p = se p := by
      rw [hI.2 p (by omega)]
      have := cpS_at (se := se) (c := 0) hp (show p < b + w by omega)
      simpa using this
    obtain ⟨M', r1, r2, r3⟩ := ih (p + 1) f (wL (wL M (P + 2) (p + c * w) (se p)) (P + 1) (p + c * w) (jshl (fo p) (nI (c * w)))) hS (by
      refine ⟨fun j hj => ?_, fun j hj => ?_⟩
      · by_cases hjp : j = p + c * w
        · rw [mL_e rfl hjp, hjp, cpF_at hp (by omega) hc]
        · simp (disch := omega) only [q_eM, q_Me, q_Mlt, q_Mle, q_leM, q_ltM, q_le, q_nle, q_lt, q_nlt, q_neq, zin_nI, nI_clamp, nI_add, pk_mul, pk_sub, mI_e, mI_n, mL_e, mL_n, mR_e, mR_n, i0, i1, ↓reduceIte, ↓bI_t, ↓bI_f, Bool.false_eq_true, eq_self, chk_true, bnd_just, bnd2_just, app_t, beq_self_eq_true, mK_wI, mK_wL, mK_wR, mK_wIr, mK_wLr, mN_wI, mN_wL, mN_wR, mN_wIr, mN_wLr, mR_wI, mR_wL, mR_wIr, mR_wLr, mI_wL, mI_wR, mI_wLr, mL_wI, mL_wR, mL_wIr, hI.1 j]
      · by_cases hjp : j = p + c * w
        · rw [mL_n (by omega), mL_e rfl hjp, hjp, cpS_at hp (by omega)]
        · simp (disch := omega) only [q_eM, q_Me, q_Mlt, q_Mle, q_leM, q_ltM, q_le, q_nle, q_lt, q_nlt, q_neq, zin_nI, nI_clamp, nI_add, pk_mul, pk_sub, mI_e, mI_n, mL_e, mL_n, mR_e, mR_n, i0, i1, ↓reduceIte, ↓bI_t, ↓bI_f, Bool.false_eq_true, eq_self, chk_true, bnd_just, bnd2_just, app_t, beq_self_eq_true, mK_wI, mK_wL, mK_wR, mK_wIr, mK_wLr, mN_wI, mN_wL, mN_wR, mN_wIr, mN_wLr, mR_wI, mR_wL, mR_wIr, mR_wLr, mI_wL, mI_wR, mI_wLr, mL_wI, mL_wR, mL_wIr, hI.2 j]) (by omega) (by omega) (by omega)
    refine ⟨M', ?_, ((Ch.rf.wL (by simp) _ _).wL (by simp) _ _).tr r2, r3⟩
    rw [fX4_copyPositions_19]
    simp (disch := omega) only [q_eM, q_Me, q_Mlt, q_Mle, q_leM, q_ltM, q_le, q_nle, q_lt, q_nlt, q_neq, zin_nI, nI_clamp, nI_add, pk_mul, pk_sub, mI_e, mI_n, mL_e, mL_n, mR_e, mR_n, i0, i1, ↓reduceIte, ↓bI_t, ↓bI_f, Bool.false_eq_true, eq_self, chk_true, bnd_just, bnd2_just, app_t, beq_self_eq_true, mK_wI, mK_wL, mK_wR, mK_wIr, mK_wLr, mN_wI, mN_wL, mN_wR, mN_wIr, mN_wLr, mR_wI, mR_wL, mR_wIr, mR_wLr, mI_wL, mI_wR, mI_wLr, mL_wI, mL_wR, mL_wIr, pK0 hS hP, pK1 hS hP, pK2 hS hP, pN1 hS hP, pN2 hS hP, pR4 hS hP, pR5 hS hP, v1, v2]
    exact r1
theorem c_cp2 {P : Nat} (hP : isP P) {se fo : Nat → Int64} {b w t : Nat} (hb : b + t * w ≤ 60) (ht : t ≤ 5) : ∀ (m c fuel : Nat) (M : zM), Sta M → CpI M P se fo b w (b + c * w) → 1 ≤ c → c + m = t → m + 62 < fuel →
    ∃ M', fX4_copyPositions_10 fuel M P (nI b) (nI t) (nI w) (nI c) = some ((), M') ∧ Ch [P, P + 1, P + 2] M M' ∧ (∀ j, j ≠ 0 → mI M' P j = mI M P j) ∧ (∀ j, mL M' P j = mL M P j) ∧ mI M' P 0 = nI (b + t * w) ∧ CpI M' P se fo b w (b + t * w) := by
  intro m
  induction m with
  | zero =>
    intro c fuel M hS hI h1 hm hf
    obtain ⟨f, rfl⟩ := suc fuel (by omega)
    obtain ⟨hP1, hP2⟩ := isP_le hP
    have hw : w ≤ t * w := Nat.le_mul_of_pos_left w (by omega)
    obtain rfl : c = t := by omega
    refine ⟨wI M P 0 (nI (b + c * w)), ?_, Ch.rf.wI (by simp) _ _, fun j hj => mI_n (by omega), fun j => rfl, mI_e rfl rfl, hI⟩
    rw [fX4_copyPositions_10]
    simp (disch := omega) only [q_eM, q_Me, q_Mlt, q_Mle, q_leM, q_ltM, q_le, q_nle, q_lt, q_nlt, q_neq, zin_nI, nI_clamp, nI_add, pk_mul, pk_sub, mI_e, mI_n, mL_e, mL_n, mR_e, mR_n, i0, i1, ↓reduceIte, ↓bI_t, ↓bI_f, Bool.false_eq_true, eq_self, chk_true, bnd_just, bnd2_just, app_t, beq_self_eq_true, mK_wI, mK_wL, mK_wR, mK_wIr, mK_wLr, mN_wI, mN_wL, mN_wR, mN_wIr, mN_wLr, mR_wI, mR_wL, mR_wIr, mR_wLr, mI_wL, mI_wR, mI_wLr, mL_wI, mL_wR, mL_wIr, pK0 hS hP, Nat.mul_comm w c]
  | succ m ih =>
    intro c fuel M hS hI h1 hm hf
    obtain ⟨f, rfl⟩ := suc fuel (by omega)
    obtain ⟨hP1, hP2⟩ := isP_le hP
    have hw : w ≤ t * w := Nat.le_mul_of_pos_left w (by omega)
    obtain ⟨M1, r1, r2, r3⟩ := c_cp1 hP hb h1 (by omega) ht (fX4_copyPositions_10 f) w b f M hS hI (by omega) rfl (by omega)
    obtain ⟨M', s1, s2, s3, s4, s5, s6⟩ := ih (c + 1) f M1 (r2.sta hS) (by rw [Nat.succ_mul, Nat.add_comm (c * w) w, ← Nat.add_assoc]; exact r3) (by omega) (by omega) (by omega)
    refine ⟨M', ?_, (r2.mo (by simp)).tr s2, fun j hj => (s3 j hj).trans (r2.i (by simp) j), fun j => (s4 j).trans (r2.l (by simp) j), s5, s6⟩
    rw [fX4_copyPositions_10]
    simp (disch := omega) only [q_eM, q_Me, q_Mlt, q_Mle, q_leM, q_ltM, q_le, q_nle, q_lt, q_nlt, q_neq, zin_nI, nI_clamp, nI_add, pk_mul, pk_sub, mI_e, mI_n, mL_e, mL_n, mR_e, mR_n, i0, i1, ↓reduceIte, ↓bI_t, ↓bI_f, Bool.false_eq_true, eq_self, chk_true, bnd_just, bnd2_just, app_t, beq_self_eq_true, mK_wI, mK_wL, mK_wR, mK_wIr, mK_wLr, mN_wI, mN_wL, mN_wR, mN_wIr, mN_wLr, mR_wI, mR_wL, mR_wIr, mR_wLr, mI_wL, mI_wR, mI_wLr, mL_wI, mL_wR, mL_wIr]
    rw [r1, s1]
/-- the part behind i more of its kind; what follows then -/
def tP (pt : Pc) (w m : Nat) : Nat → Pc
  | 0 => (pt.1 || decide (m = 0), pt.2)
  | i + 1 => pApp (tP pt w m i) (pt.1 || decide (m ≤ i + 1), jshl pt.2.1 (nI ((i + 1) * w)), jshl pt.2.2 (nI ((i + 1) * w)))
def tF (fo : Nat → Int64) (pt : Pc) (w m : Nat) : Nat → Nat → Int64
  | 0 => fo
  | i + 1 => conF (tF fo pt w m i) (tP pt w m i).2.2 (jshl pt.2.1 (nI ((i + 1) * w)))
def aTimes (A : LA) (m n : Nat) : LA := match A with
  | (k, se, fo, d, ro, ch, cb, hp, pt, pb) => (pb + n * (k - pb), cpS se pb (k - pb), tF (cpF fo pb (k - pb)) pt (k - pb) m (n - 1), d, ro, ch, cb, hp, tP pt (k - pb) m (n - 1), pb)
theorem c_rep {P : Nat} (hP : isP P) {d w m n K : Nat} {se fo : Nat → Int64} {ro ch : Nat → Pc} {cb : Nat → Nat} {pt : Pc} {pb : Nat} (hK : pb + n * w ≤ 60) (hn : n ≤ 5) (hm : m ≤ 9) : ∀ (s i fuel : Nat) (M : zM), Sta M → LayC M P (K, se, tF fo pt w m i, d, ro, ch, cb, true, tP pt w m i, pb) → i + 1 + s = n → s + 62 < fuel →
    ∃ M', fX3_repeat_100 fuel M 4 (nI m) (nI n) (nI w) (bI pt.1) pt.2.1 pt.2.2 (nI (i + 1)) = some (nI 1, M') ∧ LF P M M' ∧ LayC M' P (K, se, tF fo pt w m (n - 1), d, ro, ch, cb, true, tP pt w m (n - 1), pb) := by
  intro s
  induction s with
  | zero =>
    intro i fuel M hS h hi hf
    obtain ⟨f, rfl⟩ := suc fuel (by omega)
    refine ⟨M, ?_, LF.rf, ?_⟩
    · rw [fX3_repeat_100]
      simp (disch := omega) only [q_eM, q_Me, q_Mlt, q_Mle, q_leM, q_ltM, q_le, q_nle, q_lt, q_nlt, q_neq, zin_nI, nI_clamp, nI_add, pk_mul, pk_sub, mI_e, mI_n, mL_e, mL_n, mR_e, mR_n, i0, i1, ↓reduceIte, ↓bI_t, ↓bI_f, Bool.false_eq_true, eq_self, chk_true, bnd_just, bnd2_just, app_t, beq_self_eq_true, mK_wI, mK_wL, mK_wR, mK_wIr, mK_wLr, mN_wI, mN_wL, mN_wR, mN_wIr, mN_wLr, mR_wI, mR_wL, mR_wIr, mR_wLr, mI_wL, mI_wR, mI_wLr, mL_wI, mL_wR, mL_wIr]
    · rw [show n - 1 = i by omega]; exact h
  | succ s ih =>
    intro i fuel M hS h hi hf
    obtain ⟨f, rfl⟩ := suc fuel (by omega)
    obtain ⟨hP1, hP2⟩ := isP_le hP
    have hw : w ≤ n * w := Nat.le_mul_of_pos_left w (by omega)
    have hiw : (i + 1) * w + w ≤ n * w := by rw [← Nat.succ_mul]; exact Nat.mul_le_mul_right w (by omega)
    obtain ⟨h1, h2, h3, h4, h5, h6⟩ := h
    obtain ⟨h6, h7⟩ := h6 rfl
    have hS6 : Sta (wL (wL (wI (wI M 6 0 (nI (pb + (i + 1) * w))) 6 1 (bI (pt.1 || decide (m ≤ i + 1)))) 6 2 (jshl pt.2.1 (nI ((i + 1) * w)))) 6 3 (jshl pt.2.2 (nI ((i + 1) * w)))) := hS
    obtain ⟨M', r1, r2, r3, r4, r5⟩ := c_append (a := 5) (b := 6) hP hS6 (sk_5 hS) (sk_6 hS) (by omega) (by omega) (by omega)
      (h2.fr (by simp (disch := omega) only [q_eM, q_Me, q_Mlt, q_Mle, q_leM, q_ltM, q_le, q_nle, q_lt, q_nlt, q_neq, zin_nI, nI_clamp, nI_add, pk_mul, pk_sub, mI_e, mI_n, mL_e, mL_n, mR_e, mR_n, i0, i1, ↓reduceIte, ↓bI_t, ↓bI_f, Bool.false_eq_true, eq_self, chk_true, bnd_just, bnd2_just, app_t, beq_self_eq_true, mK_wI, mK_wL, mK_wR, mK_wIr, mK_wLr, mN_wI, mN_wL, mN_wR, mN_wIr, mN_wLr, mR_wI, mR_wL, mR_wIr, mR_wLr, mI_wL, mI_wR, mI_wLr, mL_wI, mL_wR, mL_wIr]) (fun a j _ _ => by simp (disch := omega) only [q_eM, q_Me, q_Mlt, q_Mle, q_leM, q_ltM, q_le, q_nle, q_lt, q_nlt, q_neq, zin_nI, nI_clamp, nI_add, pk_mul, pk_sub, mI_e, mI_n, mL_e, mL_n, mR_e, mR_n, i0, i1, ↓reduceIte, ↓bI_t, ↓bI_f, Bool.false_eq_true, eq_self, chk_true, bnd_just, bnd2_just, app_t, beq_self_eq_true, mK_wI, mK_wL, mK_wR, mK_wIr, mK_wLr, mN_wI, mN_wL, mN_wR, mN_wIr, mN_wLr, mR_wI, mR_wL, mR_wIr, mR_wLr, mI_wL, mI_wR, mI_wLr, mL_wI, mL_wR, mL_wIr]))
      (h6.fr (by simp (disch := omega) only [q_eM, q_Me, q_Mlt, q_Mle, q_leM, q_ltM, q_le, q_nle, q_lt, q_nlt, q_neq, zin_nI, nI_clamp, nI_add, pk_mul, pk_sub, mI_e, mI_n, mL_e, mL_n, mR_e, mR_n, i0, i1, ↓reduceIte, ↓bI_t, ↓bI_f, Bool.false_eq_true, eq_self, chk_true, bnd_just, bnd2_just, app_t, beq_self_eq_true, mK_wI, mK_wL, mK_wR, mK_wIr, mK_wLr, mN_wI, mN_wL, mN_wR, mN_wIr, mN_wLr, mR_wI, mR_wL, mR_wIr, mR_wLr, mI_wL, mI_wR, mI_wLr, mL_wI, mL_wR, mL_wIr]) (fun j => by simp (disch := omega) only [q_eM, q_Me, q_Mlt, q_Mle, q_leM, q_ltM, q_le, q_nle, q_lt, q_nlt, q_neq, zin_nI, nI_clamp, nI_add, pk_mul, pk_sub, mI_e, mI_n, mL_e, mL_n, mR_e, mR_n, i0, i1, ↓reduceIte, ↓bI_t, ↓bI_f, Bool.false_eq_true, eq_self, chk_true, bnd_just, bnd2_just, app_t, beq_self_eq_true, mK_wI, mK_wL, mK_wR, mK_wIr, mK_wLr, mN_wI, mN_wL, mN_wR, mN_wIr, mN_wLr, mR_wI, mR_wL, mR_wIr, mR_wLr, mI_wL, mI_wR, mI_wLr, mL_wI, mL_wR, mL_wIr]))
      (show PieC _ 6 (pt.1 || decide (m ≤ i + 1), jshl pt.2.1 (nI ((i + 1) * w)), jshl pt.2.2 (nI ((i + 1) * w))) from ⟨by simp (disch := omega) only [q_eM, q_Me, q_Mlt, q_Mle, q_leM, q_ltM, q_le, q_nle, q_lt, q_nlt, q_neq, zin_nI, nI_clamp, nI_add, pk_mul, pk_sub, mI_e, mI_n, mL_e, mL_n, mR_e, mR_n, i0, i1, ↓reduceIte, ↓bI_t, ↓bI_f, Bool.false_eq_true, eq_self, chk_true, bnd_just, bnd2_just, app_t, beq_self_eq_true, mK_wI, mK_wL, mK_wR, mK_wIr, mK_wLr, mN_wI, mN_wL, mN_wR, mN_wIr, mN_wLr, mR_wI, mR_wL, mR_wIr, mR_wLr, mI_wL, mI_wR, mI_wLr, mL_wI, mL_wR, mL_wIr], by simp (disch := omega) only [q_eM, q_Me, q_Mlt, q_Mle, q_leM, q_ltM, q_le, q_nle, q_lt, q_nlt, q_neq, zin_nI, nI_clamp, nI_add, pk_mul, pk_sub, mI_e, mI_n, mL_e, mL_n, mR_e, mR_n, i0, i1, ↓reduceIte, ↓bI_t, ↓bI_f, Bool.false_eq_true, eq_self, chk_true, bnd_just, bnd2_just, app_t, beq_self_eq_true, mK_wI, mK_wL, mK_wR, mK_wIr, mK_wLr, mN_wI, mN_wL, mN_wR, mN_wIr, mN_wLr, mR_wI, mR_wL, mR_wIr, mR_wLr, mI_wL, mI_wR, mI_wLr, mL_wI, mL_wR, mL_wIr], by simp (disch := omega) only [q_eM, q_Me, q_Mlt, q_Mle, q_leM, q_ltM, q_le, q_nle, q_lt, q_nlt, q_neq, zin_nI, nI_clamp, nI_add, pk_mul, pk_sub, mI_e, mI_n, mL_e, mL_n, mR_e, mR_n, i0, i1, ↓reduceIte, ↓bI_t, ↓bI_f, Bool.false_eq_true, eq_self, chk_true, bnd_just, bnd2_just, app_t, beq_self_eq_true, mK_wI, mK_wL, mK_wR, mK_wIr, mK_wLr, mN_wI, mN_wL, mN_wR, mN_wIr, mN_wLr, mR_wI, mR_wL, mR_wIr, mR_wLr, mI_wL, mI_wR, mI_wLr, mL_wI, mL_wR, mL_wIr]⟩) f (by omega)
    have hi' : ∀ a j, a ≠ P + 1 → a ≠ 5 → a ≠ 6 → mI M' a j = mI M a j := fun a j q1 q2 q3 => (r2.i (by simp [q1, q2]) j).trans (by simp (disch := omega) only [q_eM, q_Me, q_Mlt, q_Mle, q_leM, q_ltM, q_le, q_nle, q_lt, q_nlt, q_neq, zin_nI, nI_clamp, nI_add, pk_mul, pk_sub, mI_e, mI_n, mL_e, mL_n, mR_e, mR_n, i0, i1, ↓reduceIte, ↓bI_t, ↓bI_f, Bool.false_eq_true, eq_self, chk_true, bnd_just, bnd2_just, app_t, beq_self_eq_true, mK_wI, mK_wL, mK_wR, mK_wIr, mK_wLr, mN_wI, mN_wL, mN_wR, mN_wIr, mN_wLr, mR_wI, mR_wL, mR_wIr, mR_wLr, mI_wL, mI_wR, mI_wLr, mL_wI, mL_wR, mL_wIr])
    have hl' : ∀ a j, a ≠ P + 1 → a ≠ 5 → a ≠ 6 → mL M' a j = mL M a j := fun a j q1 q2 q3 => (r2.l (by simp [q1, q2]) j).trans (by simp (disch := omega) only [q_eM, q_Me, q_Mlt, q_Mle, q_leM, q_ltM, q_le, q_nle, q_lt, q_nlt, q_neq, zin_nI, nI_clamp, nI_add, pk_mul, pk_sub, mI_e, mI_n, mL_e, mL_n, mR_e, mR_n, i0, i1, ↓reduceIte, ↓bI_t, ↓bI_f, Bool.false_eq_true, eq_self, chk_true, bnd_just, bnd2_just, app_t, beq_self_eq_true, mK_wI, mK_wL, mK_wR, mK_wIr, mK_wLr, mN_wI, mN_wL, mN_wR, mN_wIr, mN_wLr, mR_wI, mR_wL, mR_wIr, mR_wLr, mI_wL, mI_wR, mI_wLr, mL_wI, mL_wR, mL_wIr])
    have hLF : LF P M M' := ((((LF.rf.wI (by omega) _ _).wI (by omega) _ _).wL (by omega) _ _).wL (by omega) _ _).tr ⟨r2.1, fun a j _ => r2.2.1 a j, fun a ha j => r2.2.2 a (by simp; omega) j⟩
    obtain ⟨M'', s1, s2, s3⟩ := ih (i + 1) f M' (hLF.sta hS) (by
      refine ⟨(r2.r _ _).trans h1, r3, ?_, ?_, h5.fr (fun a j _ _ => hi' _ _ (by omega) (by omega) (by omega)) (fun a j _ _ => hl' _ _ (by omega) (by omega) (by omega)), fun _ => ⟨r4, ?_⟩⟩
      · simp (disch := omega) only [hi', h3]
      · simp (disch := omega) only [hi', h4]
      · rw [r5]; simp (disch := omega) only [q_eM, q_Me, q_Mlt, q_Mle, q_leM, q_ltM, q_le, q_nle, q_lt, q_nlt, q_neq, zin_nI, nI_clamp, nI_add, pk_mul, pk_sub, mI_e, mI_n, mL_e, mL_n, mR_e, mR_n, i0, i1, ↓reduceIte, ↓bI_t, ↓bI_f, Bool.false_eq_true, eq_self, chk_true, bnd_just, bnd2_just, app_t, beq_self_eq_true, mK_wI, mK_wL, mK_wR, mK_wIr, mK_wLr, mN_wI, mN_wL, mN_wR, mN_wIr, mN_wLr, mR_wI, mR_wL, mR_wIr, mR_wLr, mI_wL, mI_wR, mI_wLr, mL_wI, mL_wR, mL_wIr, h7]) (by omega) (by omega)
    refine ⟨M'', ?_, hLF.tr s2, s3⟩
    have e142 : ∀ v, v = bI (pt.1 || decide (m ≤ i + 1)) → fX3_repeat_142 (fX3_repeat_100 f) f M 4 (nI m) (nI n) (nI w) (bI pt.1) pt.2.1 pt.2.2 (nI (i + 1)) (nI ((i + 1) * w)) 6 (nI (pb + (i + 1) * w)) v = some (nI 1, M'') := by
      rintro v rfl
      unfold fX3_repeat_142 fX5_set
      simp (disch := omega) only [q_eM, q_Me, q_Mlt, q_Mle, q_leM, q_ltM, q_le, q_nle, q_lt, q_nlt, q_neq, zin_nI, nI_clamp, nI_add, pk_mul, pk_sub, mI_e, mI_n, mL_e, mL_n, mR_e, mR_n, i0, i1, ↓reduceIte, ↓bI_t, ↓bI_f, Bool.false_eq_true, eq_self, chk_true, bnd_just, bnd2_just, app_t, beq_self_eq_true, mK_wI, mK_wL, mK_wR, mK_wIr, mK_wLr, mN_wI, mN_wL, mN_wR, mN_wIr, mN_wLr, mR_wI, mR_wL, mR_wIr, mR_wLr, mI_wL, mI_wR, mI_wLr, mL_wI, mL_wR, mL_wIr, sk_4 hS, sk_5 hS, sk_6 hS, sr_4_3 hS, sr_4_4 hS, z01_b, h1]
      rw [r1, bnd2_just]
      exact s1
    rw [fX3_repeat_100]
    unfold fX3_repeat_137
    simp (disch := omega) only [q_eM, q_Me, q_Mlt, q_Mle, q_leM, q_ltM, q_le, q_nle, q_lt, q_nlt, q_neq, zin_nI, nI_clamp, nI_add, pk_mul, pk_sub, mI_e, mI_n, mL_e, mL_n, mR_e, mR_n, i0, i1, ↓reduceIte, ↓bI_t, ↓bI_f, Bool.false_eq_true, eq_self, chk_true, bnd_just, bnd2_just, app_t, beq_self_eq_true, mK_wI, mK_wL, mK_wR, mK_wIr, mK_wLr, mN_wI, mN_wL, mN_wR, mN_wIr, mN_wLr, mR_wI, mR_wL, mR_wIr, mR_wLr, mI_wL, mI_wR, mI_wLr, mL_wI, mL_wR, mL_wIr, sk_4 hS, sk_5 hS, sk_6 hS, sr_4_3 hS, sr_4_4 hS, h7]
    cases hb : pt.1 with
    | true =>
      simp (disch := omega) only [q_eM, q_Me, q_Mlt, q_Mle, q_leM, q_ltM, q_le, q_nle, q_lt, q_nlt, q_neq, zin_nI, nI_clamp, nI_add, pk_mul, pk_sub, mI_e, mI_n, mL_e, mL_n, mR_e, mR_n, i0, i1, ↓reduceIte, ↓bI_t, ↓bI_f, Bool.false_eq_true, eq_self, chk_true, bnd_just, bnd2_just, app_t, beq_self_eq_true, mK_wI, mK_wL, mK_wR, mK_wIr, mK_wLr, mN_wI, mN_wL, mN_wR, mN_wIr, mN_wLr, mR_wI, mR_wL, mR_wIr, mR_wLr, mI_wL, mI_wR, mI_wLr, mL_wI, mL_wR, mL_wIr]
      rw [hb] at e142
      exact e142 _ (by simp [bI_t])
    | false =>
      rw [hb] at e142
      by_cases hmi : m ≤ i + 1
      · simp (disch := omega) only [q_eM, q_Me, q_Mlt, q_Mle, q_leM, q_ltM, q_le, q_nle, q_lt, q_nlt, q_neq, zin_nI, nI_clamp, nI_add, pk_mul, pk_sub, mI_e, mI_n, mL_e, mL_n, mR_e, mR_n, i0, i1, ↓reduceIte, ↓bI_t, ↓bI_f, Bool.false_eq_true, eq_self, chk_true, bnd_just, bnd2_just, app_t, beq_self_eq_true, mK_wI, mK_wL, mK_wR, mK_wIr, mK_wLr, mN_wI, mN_wL, mN_wR, mN_wIr, mN_wLr, mR_wI, mR_wL, mR_wIr, mR_wLr, mI_wL, mI_wR, mI_wLr, mL_wI, mL_wR, mL_wIr]
        exact e142 _ (by simp [hmi, bI_t])
      · simp (disch := omega) only [q_eM, q_Me, q_Mlt, q_Mle, q_leM, q_ltM, q_le, q_nle, q_lt, q_nlt, q_neq, zin_nI, nI_clamp, nI_add, pk_mul, pk_sub, mI_e, mI_n, mL_e, mL_n, mR_e, mR_n, i0, i1, ↓reduceIte, ↓bI_t, ↓bI_f, Bool.false_eq_true, eq_self, chk_true, bnd_just, bnd2_just, app_t, beq_self_eq_true, mK_wI, mK_wL, mK_wR, mK_wIr, mK_wLr, mN_wI, mN_wL, mN_wR, mN_wIr, mN_wLr, mR_wI, mR_wL, mR_wIr, mR_wLr, mI_wL, mI_wR, mI_wLr, mL_wI, mL_wR, mL_wIr]
        exact e142 _ (by simp [hmi, bI_f])
theorem c_repeat {M : zM} {P : Nat} (hS : Sta M) (hP : isP P) {A : LA} (h : LayC M P A) (hp1 : A.2.2.2.2.2.2.2.1 = true) (hpb : A.2.2.2.2.2.2.2.2.2 ≤ A.1) {m n : Nat} (hm : m ≤ n) (hn : n ≤ 5) (hn1 : 1 ≤ n) (N : Nat) (hN : 99 ≤ N) :
    (A.2.2.2.2.2.2.2.2.2 + n * (A.1 - A.2.2.2.2.2.2.2.2.2) ≤ 60 → ∃ M', fX3_repeat N M 4 (nI m) (nI n) = some (nI 1, M') ∧ LF P M M' ∧ LayC M' P (aTimes A m n)) ∧
    (60 < A.2.2.2.2.2.2.2.2.2 + n * (A.1 - A.2.2.2.2.2.2.2.2.2) → fX3_repeat N M 4 (nI m) (nI n) = some (nI 0, M)) := by
  obtain ⟨k, se, fo, d, ro, ch, cb, hp, pt, pb⟩ := A
  obtain ⟨h1, h2, h3, h4, h5, h6⟩ := h
  obtain ⟨hP1, hP2⟩ := isP_le hP
  obtain ⟨q6, h7⟩ := h6 hp1
  simp only at hpb hp1 ⊢
  subst hp1
  have hk := h2.2.1
  obtain ⟨w, hw⟩ : ∃ w, w = k - pb := ⟨_, rfl⟩
  have hnw : n * w ≤ 5 * w := Nat.mul_le_mul_right w hn
  constructor
  · intro hK
    rw [← hw] at hK
    obtain ⟨M1, r1, r2, r3, r4, r5, r6⟩ := c_cp2 (P := P) (se := se) (fo := fo) (b := pb) (w := w) (t := n) hP hK hn (n - 1) 1 N M hS (by
      refine ⟨fun j hj => ?_, fun j hj => ?_⟩
      · rw [h2.2.2.1 j (by omega)]; unfold cpF; rw [if_pos (by omega)]
      · rw [h2.2.2.2 j (by omega)]; unfold cpS
        by_cases hjb : j < pb
        · rw [if_pos hjb]
        · rw [if_neg hjb, Nat.mod_eq_of_lt (by omega)]; congr 1; omega) (by omega) (by omega) (by omega)
    have hi : ∀ a j, (a < P ∨ P + 2 < a) → mI M1 a j = mI M a j := fun a j q => r2.i (by simp; omega) j
    have hl : ∀ a j, (a < P ∨ P + 2 < a) → mL M1 a j = mL M a j := fun a j q => r2.l (by simp; omega) j
    have hS1 := r2.sta hS
    have hL1 : LF P M M1 := ⟨r2.1, fun a j _ => r2.2.1 a j, fun a ha j => r2.2.2 a (by simp; omega) j⟩
    obtain ⟨M2, s1, s2, s3⟩ := c_rep (P := P) (d := d) (w := w) (m := m) (n := n) (K := pb + n * w) (se := cpS se pb w) (fo := cpF fo pb w) (ro := ro) (ch := ch) (cb := cb) (pt := pt) (pb := pb) hP hK hn (by omega) (n - 1) 0 N (wI M1 5 1 (bI (pt.1 || decide (m = 0)))) hS1 (by
      refine ⟨(r2.r _ _).trans h1, ⟨by simp (disch := omega) only [q_eM, q_Me, q_Mlt, q_Mle, q_leM, q_ltM, q_le, q_nle, q_lt, q_nlt, q_neq, zin_nI, nI_clamp, nI_add, pk_mul, pk_sub, mI_e, mI_n, mL_e, mL_n, mR_e, mR_n, i0, i1, ↓reduceIte, ↓bI_t, ↓bI_f, Bool.false_eq_true, eq_self, chk_true, bnd_just, bnd2_just, app_t, beq_self_eq_true, mK_wI, mK_wL, mK_wR, mK_wIr, mK_wLr, mN_wI, mN_wL, mN_wR, mN_wIr, mN_wLr, mR_wI, mR_wL, mR_wIr, mR_wLr, mI_wL, mI_wR, mI_wLr, mL_wI, mL_wR, mL_wIr, r5], hK, fun j hj => by simp only [chk_true, bnd_just, bnd2_just, app_t, beq_self_eq_true, mK_wI, mK_wL, mK_wR, mK_wIr, mK_wLr, mN_wI, mN_wL, mN_wR, mN_wIr, mN_wLr, mR_wI, mR_wL, mR_wIr, mR_wLr, mI_wL, mI_wR, mI_wLr, mL_wI, mL_wR, mL_wIr, tF, r6.1 j hj], fun j hj => by simp only [chk_true, bnd_just, bnd2_just, app_t, beq_self_eq_true, mK_wI, mK_wL, mK_wR, mK_wIr, mK_wLr, mN_wI, mN_wL, mN_wR, mN_wIr, mN_wLr, mR_wI, mR_wL, mR_wIr, mR_wLr, mI_wL, mI_wR, mI_wLr, mL_wI, mL_wR, mL_wIr, r6.2 j hj]⟩, ?_, ?_, h5.fr (fun a j _ _ => by simp (disch := omega) only [q_eM, q_Me, q_Mlt, q_Mle, q_leM, q_ltM, q_le, q_nle, q_lt, q_nlt, q_neq, zin_nI, nI_clamp, nI_add, pk_mul, pk_sub, mI_e, mI_n, mL_e, mL_n, mR_e, mR_n, i0, i1, ↓reduceIte, ↓bI_t, ↓bI_f, Bool.false_eq_true, eq_self, chk_true, bnd_just, bnd2_just, app_t, beq_self_eq_true, mK_wI, mK_wL, mK_wR, mK_wIr, mK_wLr, mN_wI, mN_wL, mN_wR, mN_wIr, mN_wLr, mR_wI, mR_wL, mR_wIr, mR_wLr, mI_wL, mI_wR, mI_wLr, mL_wI, mL_wR, mL_wIr, hi]) (fun a j _ _ => by simp (disch := omega) only [q_eM, q_Me, q_Mlt, q_Mle, q_leM, q_ltM, q_le, q_nle, q_lt, q_nlt, q_neq, zin_nI, nI_clamp, nI_add, pk_mul, pk_sub, mI_e, mI_n, mL_e, mL_n, mR_e, mR_n, i0, i1, ↓reduceIte, ↓bI_t, ↓bI_f, Bool.false_eq_true, eq_self, chk_true, bnd_just, bnd2_just, app_t, beq_self_eq_true, mK_wI, mK_wL, mK_wR, mK_wIr, mK_wLr, mN_wI, mN_wL, mN_wR, mN_wIr, mN_wLr, mR_wI, mR_wL, mR_wIr, mR_wLr, mI_wL, mI_wR, mI_wLr, mL_wI, mL_wR, mL_wIr, hl]), fun _ => ⟨⟨?_, ?_, ?_⟩, ?_⟩⟩
      all_goals simp (disch := omega) only [q_eM, q_Me, q_Mlt, q_Mle, q_leM, q_ltM, q_le, q_nle, q_lt, q_nlt, q_neq, zin_nI, nI_clamp, nI_add, pk_mul, pk_sub, mI_e, mI_n, mL_e, mL_n, mR_e, mR_n, i0, i1, ↓reduceIte, ↓bI_t, ↓bI_f, Bool.false_eq_true, eq_self, chk_true, bnd_just, bnd2_just, app_t, beq_self_eq_true, mK_wI, mK_wL, mK_wR, mK_wIr, mK_wLr, mN_wI, mN_wL, mN_wR, mN_wIr, mN_wLr, mR_wI, mR_wL, mR_wIr, mR_wLr, mI_wL, mI_wR, mI_wLr, mL_wI, mL_wR, mL_wIr, hi, hl, h3, h4, q6.2.1, q6.2.2, h7, tP]) (by omega) (by omega)
    refine ⟨M2, ?_, hL1.tr ((LF.rf.wI (by omega) _ _).tr s2), ?_⟩
    · have e94 : ∀ v, v = bI (pt.1 || decide (m = 0)) → fX3_repeat_94 N M1 4 (nI m) (nI n) (nI w) (bI pt.1) pt.2.1 pt.2.2 5 v = some (nI 1, M2) := by
        rintro v rfl
        unfold fX3_repeat_94
        simp (disch := omega) only [q_eM, q_Me, q_Mlt, q_Mle, q_leM, q_ltM, q_le, q_nle, q_lt, q_nlt, q_neq, zin_nI, nI_clamp, nI_add, pk_mul, pk_sub, mI_e, mI_n, mL_e, mL_n, mR_e, mR_n, i0, i1, ↓reduceIte, ↓bI_t, ↓bI_f, Bool.false_eq_true, eq_self, chk_true, bnd_just, bnd2_just, app_t, beq_self_eq_true, mK_wI, mK_wL, mK_wR, mK_wIr, mK_wLr, mN_wI, mN_wL, mN_wR, mN_wIr, mN_wLr, mR_wI, mR_wL, mR_wIr, mR_wLr, mI_wL, mI_wR, mI_wLr, mL_wI, mL_wR, mL_wIr, sk_5 hS1, z01_b]
        exact s1
      unfold fX3_repeat fX3_repeat_89 fX4_copyPositions
      rw [show (60 : Int32) = nI 60 by decide]
      have e1 : (fX4_copyPositions_10 N M P (nI pb) (nI n) (nI w) (nI 1)) = some ((), M1) := r1
      simp (disch := omega) only [q_eM, q_Me, q_Mlt, q_Mle, q_leM, q_ltM, q_le, q_nle, q_lt, q_nlt, q_neq, zin_nI, nI_clamp, nI_add, pk_mul, pk_sub, mI_e, mI_n, mL_e, mL_n, mR_e, mR_n, i0, i1, ↓reduceIte, ↓bI_t, ↓bI_f, Bool.false_eq_true, eq_self, chk_true, bnd_just, bnd2_just, app_t, beq_self_eq_true, mK_wI, mK_wL, mK_wR, mK_wIr, mK_wLr, mN_wI, mN_wL, mN_wR, mN_wIr, mN_wLr, mR_wI, mR_wL, mR_wIr, mR_wLr, mI_wL, mI_wR, mI_wLr, mL_wI, mL_wR, mL_wIr, sk_4 hS, sk_5 hS, sr_4_3 hS, h1, h2.1, h7, pK0 hS hP, q6.1, q6.2.1, q6.2.2, ← hw, Nat.mul_comm w n, e1, sk_4 hS1, sr_4_3 hS1]
      cases hb : pt.1 with
      | true =>
        simp (disch := omega) only [q_eM, q_Me, q_Mlt, q_Mle, q_leM, q_ltM, q_le, q_nle, q_lt, q_nlt, q_neq, zin_nI, nI_clamp, nI_add, pk_mul, pk_sub, mI_e, mI_n, mL_e, mL_n, mR_e, mR_n, i0, i1, ↓reduceIte, ↓bI_t, ↓bI_f, Bool.false_eq_true, eq_self, chk_true, bnd_just, bnd2_just, app_t, beq_self_eq_true, mK_wI, mK_wL, mK_wR, mK_wIr, mK_wLr, mN_wI, mN_wL, mN_wR, mN_wIr, mN_wLr, mR_wI, mR_wL, mR_wIr, mR_wLr, mI_wL, mI_wR, mI_wLr, mL_wI, mL_wR, mL_wIr]
        rw [hb] at e94
        exact e94 _ (by simp [bI_t])
      | false =>
        rw [hb] at e94
        by_cases hmi : m = 0
        · subst hmi
          simp (disch := omega) only [q_eM, q_Me, q_Mlt, q_Mle, q_leM, q_ltM, q_le, q_nle, q_lt, q_nlt, q_neq, zin_nI, nI_clamp, nI_add, pk_mul, pk_sub, mI_e, mI_n, mL_e, mL_n, mR_e, mR_n, i0, i1, ↓reduceIte, ↓bI_t, ↓bI_f, Bool.false_eq_true, eq_self, chk_true, bnd_just, bnd2_just, app_t, beq_self_eq_true, mK_wI, mK_wL, mK_wR, mK_wIr, mK_wLr, mN_wI, mN_wL, mN_wR, mN_wIr, mN_wLr, mR_wI, mR_wL, mR_wIr, mR_wLr, mI_wL, mI_wR, mI_wLr, mL_wI, mL_wR, mL_wIr]
          exact e94 _ (by simp [bI_t])
        · simp (disch := omega) only [q_eM, q_Me, q_Mlt, q_Mle, q_leM, q_ltM, q_le, q_nle, q_lt, q_nlt, q_neq, zin_nI, nI_clamp, nI_add, pk_mul, pk_sub, mI_e, mI_n, mL_e, mL_n, mR_e, mR_n, i0, i1, ↓reduceIte, ↓bI_t, ↓bI_f, Bool.false_eq_true, eq_self, chk_true, bnd_just, bnd2_just, app_t, beq_self_eq_true, mK_wI, mK_wL, mK_wR, mK_wIr, mK_wLr, mN_wI, mN_wL, mN_wR, mN_wIr, mN_wLr, mR_wI, mR_wL, mR_wIr, mR_wLr, mI_wL, mI_wR, mI_wLr, mL_wI, mL_wR, mL_wIr]
          exact e94 _ (by simp [hmi, bI_f])
    · simp only [aTimes, ← hw]; exact s3
  · intro hK
    rw [← hw] at hK
    unfold fX3_repeat
    rw [show (60 : Int32) = nI 60 by decide]
    simp (disch := omega) only [q_eM, q_Me, q_Mlt, q_Mle, q_leM, q_ltM, q_le, q_nle, q_lt, q_nlt, q_neq, zin_nI, nI_clamp, nI_add, pk_mul, pk_sub, mI_e, mI_n, mL_e, mL_n, mR_e, mR_n, i0, i1, ↓reduceIte, ↓bI_t, ↓bI_f, Bool.false_eq_true, eq_self, chk_true, bnd_just, bnd2_just, app_t, beq_self_eq_true, mK_wI, mK_wL, mK_wR, mK_wIr, mK_wLr, mN_wI, mN_wL, mN_wR, mN_wIr, mN_wLr, mR_wI, mR_wL, mR_wIr, mR_wLr, mI_wL, mI_wR, mI_wLr, mL_wI, mL_wR, mL_wIr, sk_4 hS, sk_5 hS, sr_4_3 hS, h1, h2.1, h7, pK0 hS hP, ← hw, Nat.mul_comm w n]
theorem c_finish {M : zM} {P : Nat} (hS : Sta M) (hP : isP P) {A : LA} (h : LayC M P A) (hd0 : A.2.2.2.1 = 0) (N : Nat) (hN : 99 ≤ N) :
    ∃ M', fX3_finish N M 4 = some ((), M') ∧ LF P M M' ∧ ∃ k se fo d ro ch cb hp pt pb, aOr (aJ A) = (k, se, fo, d, ro, ch, cb, hp, pt, pb) ∧ PatC M' P (k, (ch 0).1, (ch 0).2.1, (ch 0).2.2, fo, se) := by
  obtain ⟨M1, r1, r2, r3⟩ := c_endRow hS hP h N (by omega)
  have hS1 := r2.sta hS
  have hd1 : (aOr (aJ A)).2.2.2.1 = 0 := by
    rw [← hd0, ← aJ_d A]
    rcases aJ A with ⟨k, se, fo, d, ro, ch, cb, hp, pt, pb⟩
    rfl
  rcases hA : aOr (aJ A) with ⟨k, se, fo, d, ro, ch, cb, hp, pt, pb⟩
  rw [hA] at r3 hd1
  simp only at hd1
  subst hd1
  obtain ⟨h1, h2, h3, h4, h5, h6⟩ := r3
  obtain ⟨M', s1, s2, s3, s4⟩ := c_complete (a := 10) hP hS1 h2 (sk_10 hS1) (by omega) (h5.2 0 (by omega)).2.1 N hN
  refine ⟨M', ?_, r2.tr s2, k, se, fo, 0, ro, ch, cb, hp, pt, pb, rfl, s4⟩
  unfold fX3_finish
  rw [r1]
  simp (disch := omega) only [q_eM, q_Me, q_Mlt, q_Mle, q_leM, q_ltM, q_le, q_nle, q_lt, q_nlt, q_neq, zin_nI, nI_clamp, nI_add, pk_mul, pk_sub, mI_e, mI_n, mL_e, mL_n, mR_e, mR_n, i0, i1, ↓reduceIte, ↓bI_t, ↓bI_f, Bool.false_eq_true, eq_self, chk_true, bnd_just, bnd2_just, app_t, beq_self_eq_true, mK_wI, mK_wL, mK_wR, mK_wIr, mK_wLr, mN_wI, mN_wL, mN_wR, mN_wIr, mN_wLr, mR_wI, mR_wL, mR_wIr, mR_wLr, mI_wL, mI_wR, mI_wLr, mL_wI, mL_wR, mL_wIr, sk_4 hS, sk_4 hS1, sk_8 hS1, sn_8 hS1, sr_4_6 hS1, sr_8_0 hS1, h1, pK0 hS1 hP]
  rw [s1]; rfl
end ZTIMES
