/-! the class's Layer: its steps as steps of what is laid out -/
section ZLAYER2
def updf {α : Type} (f : Nat → α) (i : Nat) (v : α) : Nat → α := fun j => if j = i then v else f j
theorem updf_e {α : Type} {f : Nat → α} {i j : Nat} {v : α} (h : j = i) : updf f i v j = v := if_pos h
theorem updf_n {α : Type} {f : Nat → α} {i j : Nat} {v : α} (h : j ≠ i) : updf f i v j = f j := if_neg h
def bit (k : Nat) : Int64 := jshl 1 (nI k)
def aJ (A : LA) : LA := match A with
  | (k, se, fo, d, ro, ch, cb, hp, pt, pb) => if hp = true then (k, se, conF fo (ro d).2.2 pt.2.1, d, updf ro d (pApp (ro d) pt), ch, cb, hp, pt, pb) else (k, se, fo, d, ro, ch, cb, hp, pt, pb)
def aRow (A : LA) : LA := match A with
  | (k, se, fo, d, ro, ch, cb, _, pt, pb) => (k, se, fo, d, updf ro d (true, 0, 0), ch, cb, false, pt, pb)
def aOr (A : LA) : LA := match A with
  | (k, se, fo, d, ro, ch, cb, hp, pt, pb) => (k, se, fo, d, ro, updf ch d (pOr (ch d) (ro d)), cb, hp, pt, pb)
def aAdd (A : LA) (x : Int64) : LA := match A with
  | (k, se, fo, d, ro, ch, cb, _, _, _) => (k + 1, updf se k x, updf fo k 0, d, ro, ch, cb, true, (false, bit k, bit k), k)
def aIn (A : LA) : LA := match A with
  | (k, se, fo, d, ro, ch, cb, _, pt, pb) => (k, se, fo, d + 1, updf ro (d + 1) (true, 0, 0), updf ch (d + 1) (false, 0, 0), updf cb (d + 1) k, false, pt, pb)
def aOut (A : LA) : LA := match A with
  | (k, se, fo, d, ro, ch, cb, _, _, _) => (k, se, fo, d - 1, ro, ch, cb, true, ch d, cb d)
def aMore (A : LA) : LA := match A with
  | (k, se, fo, d, ro, ch, cb, hp, pt, pb) => (k, se, conF fo pt.2.2 pt.2.1, d, ro, ch, cb, hp, pt, pb)
def aNone (A : LA) : LA := match A with
  | (k, se, fo, d, ro, ch, cb, hp, pt, pb) => (k, se, fo, d, ro, ch, cb, hp, (true, pt.2), pb)
theorem StkC.fr {M M' : zM} {d : Nat} {ro ch : Nat → Pc} {cb : Nat → Nat} (h : StkC M d ro ch cb) (hi : ∀ a j, 9 ≤ a → a ≤ 26 → mI M' a j = mI M a j) (hl : ∀ a j, 9 ≤ a → a ≤ 26 → mL M' a j = mL M a j) : StkC M' d ro ch cb := by
  obtain ⟨h1, h2⟩ := h
  refine ⟨h1, fun e he => ?_⟩
  obtain ⟨⟨a1, a2, a3⟩, ⟨b1, b2, b3⟩, c⟩ := h2 e he
  refine ⟨⟨?_, ?_, ?_⟩, ⟨?_, ?_, ?_⟩, ?_⟩ <;> simp (disch := omega) only [hi, hl, a1, a2, a3, b1, b2, b3, c]
theorem PatL.fr {M M' : zM} {P k : Nat} {se fo : Nat → Int64} (h : PatL M P k se fo) (hi : mI M' P 0 = mI M P 0) (hl : ∀ a j, P ≤ a → a ≤ P + 2 → mL M' a j = mL M a j) : PatL M' P k se fo := by
  obtain ⟨h1, h2, h3, h4⟩ := h
  refine ⟨hi.trans h1, h2, fun j hj => ?_, fun j hj => ?_⟩
  · rw [hl _ _ (by omega) (by omega)]; exact h3 j hj
  · rw [hl _ _ (by omega) (by omega)]; exact h4 j hj
theorem PieC.fr {M M' : zM} {a : Nat} {p : Pc} (h : PieC M a p) (hi : mI M' a 1 = mI M a 1) (hl : ∀ j, mL M' a j = mL M a j) : PieC M' a p := ⟨hi.trans h.1, (hl 2).trans h.2.1, (hl 3).trans h.2.2⟩
theorem c_endPart {M : zM} {P : Nat} (hS : Sta M) (hP : isP P) {A : LA} (h : LayC M P A) (N : Nat) (hN : 61 ≤ N) : ∃ M', fX3_endPart N M 4 = some ((), M') ∧ LF P M M' ∧ LayC M' P (aJ A) := by
  obtain ⟨k, se, fo, d, ro, ch, cb, hp, pt, pb⟩ := A
  obtain ⟨h1, h2, h3, h4, h5, h6⟩ := h
  obtain ⟨hP1, hP2⟩ := isP_le hP
  have hd := h5.1
  cases hp with
  | false =>
    refine ⟨M, ?_, LF.rf, ?_⟩
    · unfold fX3_endPart
      simp (disch := omega) only [q_eM, q_Me, q_Mlt, q_Mle, q_leM, q_ltM, q_le, q_nle, q_lt, q_nlt, q_neq, zin_nI, nI_clamp, nI_add, pk_mul, pk_sub, mI_e, mI_n, mL_e, mL_n, mR_e, mR_n, i0, i1, ↓reduceIte, ↓bI_t, ↓bI_f, Bool.false_eq_true, eq_self, chk_true, bnd_just, bnd2_just, app_t, beq_self_eq_true, mK_wI, mK_wL, mK_wR, mK_wIr, mK_wLr, mN_wI, mN_wL, mN_wR, mN_wIr, mN_wLr, mR_wI, mR_wL, mR_wIr, mR_wLr, mI_wL, mI_wR, mI_wLr, mL_wI, mL_wR, mL_wIr, sk_4 hS, h4]
    · simp only [aJ, Bool.false_eq_true, if_false]
      exact ⟨h1, h2, h3, h4, h5, h6⟩
  | true =>
    obtain ⟨h6, h7⟩ := h6 rfl
    obtain ⟨M', r1, r2, r3, r4, r5⟩ := c_append (a := 9 + 2 * d) (b := 5) hP hS (rowK hS (by omega)) (sk_5 hS) (by omega) (by omega) (by omega) h2 (h5.2 d (by omega)).1 h6 N hN
    have hi : ∀ a j, a ≠ P + 1 → a ≠ 9 + 2 * d → mI M' a j = mI M a j := fun a j q1 q2 => r2.i (by simp [q1, q2]) j
    have hl : ∀ a j, a ≠ P + 1 → a ≠ 9 + 2 * d → mL M' a j = mL M a j := fun a j q1 q2 => r2.l (by simp [q1, q2]) j
    refine ⟨M', ?_, ⟨r2.1, fun a j _ => r2.2.1 a j, fun a ha j => r2.2.2 a (by simp; omega) j⟩, ?_⟩
    · unfold fX3_endPart
      simp (disch := omega) only [q_eM, q_Me, q_Mlt, q_Mle, q_leM, q_ltM, q_le, q_nle, q_lt, q_nlt, q_neq, zin_nI, nI_clamp, nI_add, pk_mul, pk_sub, mI_e, mI_n, mL_e, mL_n, mR_e, mR_n, i0, i1, ↓reduceIte, ↓bI_t, ↓bI_f, Bool.false_eq_true, eq_self, chk_true, bnd_just, bnd2_just, app_t, beq_self_eq_true, mK_wI, mK_wL, mK_wR, mK_wIr, mK_wLr, mN_wI, mN_wL, mN_wR, mN_wIr, mN_wLr, mR_wI, mR_wL, mR_wIr, mR_wLr, mI_wL, mI_wR, mI_wLr, mL_wI, mL_wR, mL_wIr, sk_4 hS, sk_7 hS, sn_7 hS, sr_4_5 hS, sr_4_3 hS, h1, h3, h4, rowR hS, rowK hS]
      rw [r1]; rfl
    · simp only [aJ, if_true]
      refine ⟨(r2.r _ _).trans h1, r3, ?_, ?_, ⟨hd, fun e he => ?_⟩, fun _ => ⟨⟨?_, ?_, ?_⟩, ?_⟩⟩
      · simp (disch := omega) only [hi, h3]
      · simp (disch := omega) only [hi, h4]
      · obtain ⟨q1, ⟨b1, b2, b3⟩, c⟩ := h5.2 e he
        refine ⟨?_, ⟨?_, ?_, ?_⟩, ?_⟩
        · by_cases hed : e = d
          · subst hed; rw [updf_e rfl]; exact r4
          · rw [updf_n hed]
            exact q1.fr (hi _ _ (by omega) (by omega)) (fun j => hl _ _ (by omega) (by omega))
        all_goals simp (disch := omega) only [hi, hl, b1, b2, b3, c]
      all_goals simp (disch := omega) only [hi, hl, h6.1, h6.2.1, h6.2.2, h7]
theorem c_endRow {M : zM} {P : Nat} (hS : Sta M) (hP : isP P) {A : LA} (h : LayC M P A) (N : Nat) (hN : 61 ≤ N) : ∃ M', fX3_endRow N M 4 = some ((), M') ∧ LF P M M' ∧ LayC M' P (aRow (aOr (aJ A))) := by
  obtain ⟨M1, r1, r2, r3⟩ := c_endPart hS hP h N hN
  have hS1 := r2.sta hS
  obtain ⟨hP1, hP2⟩ := isP_le hP
  rcases hA : aJ A with ⟨k, se, fo, d, ro, ch, cb, hp, pt, pb⟩
  rw [hA] at r3
  obtain ⟨h1, h2, h3, h4, h5, h6⟩ := r3
  have hd := h5.1
  have hr := (h5.2 d (by omega)).1
  have hc := (h5.2 d (by omega)).2.1
  have e1 := c_orElse (choK hS1 (d := d) (by omega)) (rowK hS1 (d := d) (by omega)) (by omega) hc hr N
  refine ⟨?M, ?e, ?_, ?_⟩
  case e =>
    unfold fX3_endRow
    rw [r1]
    simp (disch := omega) only [q_eM, q_Me, q_Mlt, q_Mle, q_leM, q_ltM, q_le, q_nle, q_lt, q_nlt, q_neq, zin_nI, nI_clamp, nI_add, pk_mul, pk_sub, mI_e, mI_n, mL_e, mL_n, mR_e, mR_n, i0, i1, ↓reduceIte, ↓bI_t, ↓bI_f, Bool.false_eq_true, eq_self, chk_true, bnd_just, bnd2_just, app_t, beq_self_eq_true, mK_wI, mK_wL, mK_wR, mK_wIr, mK_wLr, mN_wI, mN_wL, mN_wR, mN_wIr, mN_wLr, mR_wI, mR_wL, mR_wIr, mR_wLr, mI_wL, mI_wR, mI_wLr, mL_wI, mL_wR, mL_wIr, sk_4 hS, sk_4 hS1, sk_7 hS1, sk_8 hS1, sn_7 hS1, sn_8 hS1, sr_4_5 hS1, sr_4_6 hS1, h1, h3, rowR hS1, choR hS1, rowK hS1, choK hS1]
    rw [e1]
    unfold fX3_beginRow fX5_set
    simp (disch := omega) only [q_eM, q_Me, q_Mlt, q_Mle, q_leM, q_ltM, q_le, q_nle, q_lt, q_nlt, q_neq, zin_nI, nI_clamp, nI_add, pk_mul, pk_sub, mI_e, mI_n, mL_e, mL_n, mR_e, mR_n, i0, i1, ↓reduceIte, ↓bI_t, ↓bI_f, Bool.false_eq_true, eq_self, chk_true, bnd_just, bnd2_just, app_t, beq_self_eq_true, mK_wI, mK_wL, mK_wR, mK_wIr, mK_wLr, mN_wI, mN_wL, mN_wR, mN_wIr, mN_wLr, mR_wI, mR_wL, mR_wIr, mR_wLr, mI_wL, mI_wR, mI_wLr, mL_wI, mL_wR, mL_wIr, sk_4 hS1, sk_7 hS1, sk_8 hS1, sn_7 hS1, sn_8 hS1, sr_4_5 hS1, sr_4_6 hS1, h1, h3, h2.1, rowR hS1, choR hS1, rowK hS1, choK hS1, pK0 hS1 hP, z01_1]
    rfl
  · exact r2.tr ((((((((LF.rf.wL (by omega) _ _).wL (by omega) _ _).wI (by omega) _ _).wI (by omega) _ _).wI (by omega) _ _).wL (by omega) _ _).wL (by omega) _ _).wI (by omega) _ _)
  · refine ⟨?_, ?_, ?_, ?_, ⟨hd, fun e he => ?_⟩, fun q => by cases q⟩
    · simp only [chk_true, bnd_just, bnd2_just, app_t, beq_self_eq_true, mK_wI, mK_wL, mK_wR, mK_wIr, mK_wLr, mN_wI, mN_wL, mN_wR, mN_wIr, mN_wLr, mR_wI, mR_wL, mR_wIr, mR_wLr, mI_wL, mI_wR, mI_wLr, mL_wI, mL_wR, mL_wIr, h1]
    · exact h2.fr (by simp (disch := omega) only [q_eM, q_Me, q_Mlt, q_Mle, q_leM, q_ltM, q_le, q_nle, q_lt, q_nlt, q_neq, zin_nI, nI_clamp, nI_add, pk_mul, pk_sub, mI_e, mI_n, mL_e, mL_n, mR_e, mR_n, i0, i1, ↓reduceIte, ↓bI_t, ↓bI_f, Bool.false_eq_true, eq_self, chk_true, bnd_just, bnd2_just, app_t, beq_self_eq_true, mK_wI, mK_wL, mK_wR, mK_wIr, mK_wLr, mN_wI, mN_wL, mN_wR, mN_wIr, mN_wLr, mR_wI, mR_wL, mR_wIr, mR_wLr, mI_wL, mI_wR, mI_wLr, mL_wI, mL_wR, mL_wIr]) (fun a j _ _ => by simp (disch := omega) only [q_eM, q_Me, q_Mlt, q_Mle, q_leM, q_ltM, q_le, q_nle, q_lt, q_nlt, q_neq, zin_nI, nI_clamp, nI_add, pk_mul, pk_sub, mI_e, mI_n, mL_e, mL_n, mR_e, mR_n, i0, i1, ↓reduceIte, ↓bI_t, ↓bI_f, Bool.false_eq_true, eq_self, chk_true, bnd_just, bnd2_just, app_t, beq_self_eq_true, mK_wI, mK_wL, mK_wR, mK_wIr, mK_wLr, mN_wI, mN_wL, mN_wR, mN_wIr, mN_wLr, mR_wI, mR_wL, mR_wIr, mR_wLr, mI_wL, mI_wR, mI_wLr, mL_wI, mL_wR, mL_wIr])
    · simp (disch := omega) only [q_eM, q_Me, q_Mlt, q_Mle, q_leM, q_ltM, q_le, q_nle, q_lt, q_nlt, q_neq, zin_nI, nI_clamp, nI_add, pk_mul, pk_sub, mI_e, mI_n, mL_e, mL_n, mR_e, mR_n, i0, i1, ↓reduceIte, ↓bI_t, ↓bI_f, Bool.false_eq_true, eq_self, chk_true, bnd_just, bnd2_just, app_t, beq_self_eq_true, mK_wI, mK_wL, mK_wR, mK_wIr, mK_wLr, mN_wI, mN_wL, mN_wR, mN_wIr, mN_wLr, mR_wI, mR_wL, mR_wIr, mR_wLr, mI_wL, mI_wR, mI_wLr, mL_wI, mL_wR, mL_wIr, h3]
    · simp (disch := omega) only [q_eM, q_Me, q_Mlt, q_Mle, q_leM, q_ltM, q_le, q_nle, q_lt, q_nlt, q_neq, zin_nI, nI_clamp, nI_add, pk_mul, pk_sub, mI_e, mI_n, mL_e, mL_n, mR_e, mR_n, i0, i1, ↓reduceIte, ↓bI_t, ↓bI_f, Bool.false_eq_true, eq_self, chk_true, bnd_just, bnd2_just, app_t, beq_self_eq_true, mK_wI, mK_wL, mK_wR, mK_wIr, mK_wLr, mN_wI, mN_wL, mN_wR, mN_wIr, mN_wLr, mR_wI, mR_wL, mR_wIr, mR_wLr, mI_wL, mI_wR, mI_wLr, mL_wI, mL_wR, mL_wIr]
    · obtain ⟨⟨a1, a2, a3⟩, ⟨b1, b2, b3⟩, c⟩ := h5.2 e he
      by_cases hed : e = d
      · subst hed
        refine ⟨⟨?_, ?_, ?_⟩, ⟨?_, ?_, ?_⟩, ?_⟩ <;> simp (disch := omega) only [q_eM, q_Me, q_Mlt, q_Mle, q_leM, q_ltM, q_le, q_nle, q_lt, q_nlt, q_neq, zin_nI, nI_clamp, nI_add, pk_mul, pk_sub, mI_e, mI_n, mL_e, mL_n, mR_e, mR_n, i0, i1, ↓reduceIte, ↓bI_t, ↓bI_f, Bool.false_eq_true, eq_self, chk_true, bnd_just, bnd2_just, app_t, beq_self_eq_true, mK_wI, mK_wL, mK_wR, mK_wIr, mK_wLr, mN_wI, mN_wL, mN_wR, mN_wIr, mN_wLr, mR_wI, mR_wL, mR_wIr, mR_wLr, mI_wL, mI_wR, mI_wLr, mL_wI, mL_wR, mL_wIr, updf_e, pOr, c]
      · refine ⟨⟨?_, ?_, ?_⟩, ⟨?_, ?_, ?_⟩, ?_⟩ <;> simp (disch := omega) only [q_eM, q_Me, q_Mlt, q_Mle, q_leM, q_ltM, q_le, q_nle, q_lt, q_nlt, q_neq, zin_nI, nI_clamp, nI_add, pk_mul, pk_sub, mI_e, mI_n, mL_e, mL_n, mR_e, mR_n, i0, i1, ↓reduceIte, ↓bI_t, ↓bI_f, Bool.false_eq_true, eq_self, chk_true, bnd_just, bnd2_just, app_t, beq_self_eq_true, mK_wI, mK_wL, mK_wR, mK_wIr, mK_wLr, mN_wI, mN_wL, mN_wR, mN_wIr, mN_wLr, mR_wI, mR_wL, mR_wIr, mR_wLr, mI_wL, mI_wR, mI_wLr, mL_wI, mL_wR, mL_wIr, updf_n, a1, a2, a3, b1, b2, b3, c]
theorem c_addAtom {M : zM} {P : Nat} (hS : Sta M) (hP : isP P) {A : LA} (h : LayC M P A) (x : Int64) (N : Nat) (hN : 61 ≤ N) :
    (A.1 < 60 → ∃ M', fX3_addAtom N M 4 x = some (nI 1, M') ∧ LF P M M' ∧ LayC M' P (aAdd (aJ A) x)) ∧ (A.1 = 60 → fX3_addAtom N M 4 x = some (nI 0, M)) := by
  constructor
  · intro hk
    obtain ⟨M1, r1, r2, r3⟩ := c_endPart hS hP h N hN
    have hS1 := r2.sta hS
    obtain ⟨hP1, hP2⟩ := isP_le hP
    rcases hA : aJ A with ⟨k, se, fo, d, ro, ch, cb, hp, pt, pb⟩
    have hAk : A.1 = k := by
      obtain ⟨k', se', fo', d', ro', ch', cb', hp', pt', pb'⟩ := A
      cases hp' <;> simp [aJ] at hA <;> exact hA.1
    have g1 : mR M 4 2 = some P := h.1
    have g2 : mI M P 0 = nI k := hAk ▸ h.2.1.1
    rw [hA] at r3
    obtain ⟨h1, h2, h3, h4, h5, h6⟩ := r3
    refine ⟨?M, ?e, ?_, ?_⟩
    case e =>
      unfold fX3_addAtom
      rw [r1]
      unfold fX5_set fX4_addPosition
      rw [show (60 : Int32) = nI 60 by decide]
      simp (disch := omega) only [q_eM, q_Me, q_Mlt, q_Mle, q_leM, q_ltM, q_le, q_nle, q_lt, q_nlt, q_neq, zin_nI, nI_clamp, nI_add, pk_mul, pk_sub, mI_e, mI_n, mL_e, mL_n, mR_e, mR_n, i0, i1, ↓reduceIte, ↓bI_t, ↓bI_f, Bool.false_eq_true, eq_self, chk_true, bnd_just, bnd2_just, app_t, beq_self_eq_true, mK_wI, mK_wL, mK_wR, mK_wIr, mK_wLr, mN_wI, mN_wL, mN_wR, mN_wIr, mN_wLr, mR_wI, mR_wL, mR_wIr, mR_wLr, mI_wL, mI_wR, mI_wLr, mL_wI, mL_wR, mL_wIr, sk_4 hS, sk_5 hS, sk_4 hS1, sk_5 hS1, sr_4_3 hS1, g1, g2, h1, h3, h2.1, pK0 hS hP, pK0 hS1 hP, pK1 hS1 hP, pK2 hS1 hP, pN1 hS1 hP, pN2 hS1 hP, pR4 hS1 hP, pR5 hS1 hP, z01_0]
      rfl
    · exact r2.tr ((((((((LF.rf.wI (by omega) _ _).wI (by omega) _ _).wL (by omega) _ _).wL (by omega) _ _).wL (by omega) _ _).wL (by omega) _ _).wI (by omega) _ _).wI (by omega) _ _)
    · obtain ⟨p1, p2, p3, p4⟩ := h2
      refine ⟨?_, ⟨?_, by omega, fun j hj => ?_, fun j hj => ?_⟩, ?_, ?_, ?_, fun _ => ⟨⟨?_, ?_, ?_⟩, ?_⟩⟩
      · simp only [chk_true, bnd_just, bnd2_just, app_t, beq_self_eq_true, mK_wI, mK_wL, mK_wR, mK_wIr, mK_wLr, mN_wI, mN_wL, mN_wR, mN_wIr, mN_wLr, mR_wI, mR_wL, mR_wIr, mR_wLr, mI_wL, mI_wR, mI_wLr, mL_wI, mL_wR, mL_wIr, h1]
      · simp (disch := omega) only [q_eM, q_Me, q_Mlt, q_Mle, q_leM, q_ltM, q_le, q_nle, q_lt, q_nlt, q_neq, zin_nI, nI_clamp, nI_add, pk_mul, pk_sub, mI_e, mI_n, mL_e, mL_n, mR_e, mR_n, i0, i1, ↓reduceIte, ↓bI_t, ↓bI_f, Bool.false_eq_true, eq_self, chk_true, bnd_just, bnd2_just, app_t, beq_self_eq_true, mK_wI, mK_wL, mK_wR, mK_wIr, mK_wLr, mN_wI, mN_wL, mN_wR, mN_wIr, mN_wLr, mR_wI, mR_wL, mR_wIr, mR_wLr, mI_wL, mI_wR, mI_wLr, mL_wI, mL_wR, mL_wIr]
      · by_cases hjk : j = k
        · simp (disch := omega) only [q_eM, q_Me, q_Mlt, q_Mle, q_leM, q_ltM, q_le, q_nle, q_lt, q_nlt, q_neq, zin_nI, nI_clamp, nI_add, pk_mul, pk_sub, mI_e, mI_n, mL_e, mL_n, mR_e, mR_n, i0, i1, ↓reduceIte, ↓bI_t, ↓bI_f, Bool.false_eq_true, eq_self, chk_true, bnd_just, bnd2_just, app_t, beq_self_eq_true, mK_wI, mK_wL, mK_wR, mK_wIr, mK_wLr, mN_wI, mN_wL, mN_wR, mN_wIr, mN_wLr, mR_wI, mR_wL, mR_wIr, mR_wLr, mI_wL, mI_wR, mI_wLr, mL_wI, mL_wR, mL_wIr, updf_e]
        · simp (disch := omega) only [q_eM, q_Me, q_Mlt, q_Mle, q_leM, q_ltM, q_le, q_nle, q_lt, q_nlt, q_neq, zin_nI, nI_clamp, nI_add, pk_mul, pk_sub, mI_e, mI_n, mL_e, mL_n, mR_e, mR_n, i0, i1, ↓reduceIte, ↓bI_t, ↓bI_f, Bool.false_eq_true, eq_self, chk_true, bnd_just, bnd2_just, app_t, beq_self_eq_true, mK_wI, mK_wL, mK_wR, mK_wIr, mK_wLr, mN_wI, mN_wL, mN_wR, mN_wIr, mN_wLr, mR_wI, mR_wL, mR_wIr, mR_wLr, mI_wL, mI_wR, mI_wLr, mL_wI, mL_wR, mL_wIr, updf_n, p3 j]
      · by_cases hjk : j = k
        · simp (disch := omega) only [q_eM, q_Me, q_Mlt, q_Mle, q_leM, q_ltM, q_le, q_nle, q_lt, q_nlt, q_neq, zin_nI, nI_clamp, nI_add, pk_mul, pk_sub, mI_e, mI_n, mL_e, mL_n, mR_e, mR_n, i0, i1, ↓reduceIte, ↓bI_t, ↓bI_f, Bool.false_eq_true, eq_self, chk_true, bnd_just, bnd2_just, app_t, beq_self_eq_true, mK_wI, mK_wL, mK_wR, mK_wIr, mK_wLr, mN_wI, mN_wL, mN_wR, mN_wIr, mN_wLr, mR_wI, mR_wL, mR_wIr, mR_wLr, mI_wL, mI_wR, mI_wLr, mL_wI, mL_wR, mL_wIr, updf_e]
        · simp (disch := omega) only [q_eM, q_Me, q_Mlt, q_Mle, q_leM, q_ltM, q_le, q_nle, q_lt, q_nlt, q_neq, zin_nI, nI_clamp, nI_add, pk_mul, pk_sub, mI_e, mI_n, mL_e, mL_n, mR_e, mR_n, i0, i1, ↓reduceIte, ↓bI_t, ↓bI_f, Bool.false_eq_true, eq_self, chk_true, bnd_just, bnd2_just, app_t, beq_self_eq_true, mK_wI, mK_wL, mK_wR, mK_wIr, mK_wLr, mN_wI, mN_wL, mN_wR, mN_wIr, mN_wLr, mR_wI, mR_wL, mR_wIr, mR_wLr, mI_wL, mI_wR, mI_wLr, mL_wI, mL_wR, mL_wIr, updf_n, p4 j]
      · simp (disch := omega) only [q_eM, q_Me, q_Mlt, q_Mle, q_leM, q_ltM, q_le, q_nle, q_lt, q_nlt, q_neq, zin_nI, nI_clamp, nI_add, pk_mul, pk_sub, mI_e, mI_n, mL_e, mL_n, mR_e, mR_n, i0, i1, ↓reduceIte, ↓bI_t, ↓bI_f, Bool.false_eq_true, eq_self, chk_true, bnd_just, bnd2_just, app_t, beq_self_eq_true, mK_wI, mK_wL, mK_wR, mK_wIr, mK_wLr, mN_wI, mN_wL, mN_wR, mN_wIr, mN_wLr, mR_wI, mR_wL, mR_wIr, mR_wLr, mI_wL, mI_wR, mI_wLr, mL_wI, mL_wR, mL_wIr, h3]
      · simp (disch := omega) only [q_eM, q_Me, q_Mlt, q_Mle, q_leM, q_ltM, q_le, q_nle, q_lt, q_nlt, q_neq, zin_nI, nI_clamp, nI_add, pk_mul, pk_sub, mI_e, mI_n, mL_e, mL_n, mR_e, mR_n, i0, i1, ↓reduceIte, ↓bI_t, ↓bI_f, Bool.false_eq_true, eq_self, chk_true, bnd_just, bnd2_just, app_t, beq_self_eq_true, mK_wI, mK_wL, mK_wR, mK_wIr, mK_wLr, mN_wI, mN_wL, mN_wR, mN_wIr, mN_wLr, mR_wI, mR_wL, mR_wIr, mR_wLr, mI_wL, mI_wR, mI_wLr, mL_wI, mL_wR, mL_wIr]
      · exact h5.fr (fun a j _ _ => by simp (disch := omega) only [q_eM, q_Me, q_Mlt, q_Mle, q_leM, q_ltM, q_le, q_nle, q_lt, q_nlt, q_neq, zin_nI, nI_clamp, nI_add, pk_mul, pk_sub, mI_e, mI_n, mL_e, mL_n, mR_e, mR_n, i0, i1, ↓reduceIte, ↓bI_t, ↓bI_f, Bool.false_eq_true, eq_self, chk_true, bnd_just, bnd2_just, app_t, beq_self_eq_true, mK_wI, mK_wL, mK_wR, mK_wIr, mK_wLr, mN_wI, mN_wL, mN_wR, mN_wIr, mN_wLr, mR_wI, mR_wL, mR_wIr, mR_wLr, mI_wL, mI_wR, mI_wLr, mL_wI, mL_wR, mL_wIr]) (fun a j _ _ => by simp (disch := omega) only [q_eM, q_Me, q_Mlt, q_Mle, q_leM, q_ltM, q_le, q_nle, q_lt, q_nlt, q_neq, zin_nI, nI_clamp, nI_add, pk_mul, pk_sub, mI_e, mI_n, mL_e, mL_n, mR_e, mR_n, i0, i1, ↓reduceIte, ↓bI_t, ↓bI_f, Bool.false_eq_true, eq_self, chk_true, bnd_just, bnd2_just, app_t, beq_self_eq_true, mK_wI, mK_wL, mK_wR, mK_wIr, mK_wLr, mN_wI, mN_wL, mN_wR, mN_wIr, mN_wLr, mR_wI, mR_wL, mR_wIr, mR_wLr, mI_wL, mI_wR, mI_wLr, mL_wI, mL_wR, mL_wIr])
      all_goals simp (disch := omega) only [q_eM, q_Me, q_Mlt, q_Mle, q_leM, q_ltM, q_le, q_nle, q_lt, q_nlt, q_neq, zin_nI, nI_clamp, nI_add, pk_mul, pk_sub, mI_e, mI_n, mL_e, mL_n, mR_e, mR_n, i0, i1, ↓reduceIte, ↓bI_t, ↓bI_f, Bool.false_eq_true, eq_self, chk_true, bnd_just, bnd2_just, app_t, beq_self_eq_true, mK_wI, mK_wL, mK_wR, mK_wIr, mK_wLr, mN_wI, mN_wL, mN_wR, mN_wIr, mN_wLr, mR_wI, mR_wL, mR_wIr, mR_wLr, mI_wL, mI_wR, mI_wLr, mL_wI, mL_wR, mL_wIr, bit]
  · intro hk
    obtain ⟨k, se, fo, d, ro, ch, cb, hp, pt, pb⟩ := A
    obtain ⟨h1, h2, h3, h4, h5, h6⟩ := h
    simp only at hk
    unfold fX3_addAtom
    rw [show (60 : Int32) = nI 60 by decide]
    simp (disch := omega) only [q_eM, q_Me, q_Mlt, q_Mle, q_leM, q_ltM, q_le, q_nle, q_lt, q_nlt, q_neq, zin_nI, nI_clamp, nI_add, pk_mul, pk_sub, mI_e, mI_n, mL_e, mL_n, mR_e, mR_n, i0, i1, ↓reduceIte, ↓bI_t, ↓bI_f, Bool.false_eq_true, eq_self, chk_true, bnd_just, bnd2_just, app_t, beq_self_eq_true, mK_wI, mK_wL, mK_wR, mK_wIr, mK_wLr, mN_wI, mN_wL, mN_wR, mN_wIr, mN_wLr, mR_wI, mR_wL, mR_wIr, mR_wLr, mI_wL, mI_wR, mI_wLr, mL_wI, mL_wR, mL_wIr, sk_4 hS, h1, h2.1, pK0 hS hP, hk]
end ZLAYER2
