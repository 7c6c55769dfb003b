/-! the class's Layer: pieces, rows, choices -/
section ZLAYER
abbrev Pc : Type := Bool × Int64 × Int64
def PieC (M : zM) (a : Nat) (p : Pc) : Prop := mI M a 1 = bI p.1 ∧ mL M a 2 = p.2.1 ∧ mL M a 3 = p.2.2
def pApp (r p : Pc) : Pc := (r.1 && p.1, if r.1 then r.2.1 ||| p.2.1 else r.2.1, if p.1 then r.2.2 ||| p.2.2 else p.2.2)
def pOr (c r : Pc) : Pc := (c.1 || r.1, c.2.1 ||| r.2.1, c.2.2 ||| r.2.2)
/-- positions so far: count, letters, what follows; depth; rows; choices; where they began; is there a part; the part; its base -/
abbrev LA : Type := Nat × (Nat → Int64) × (Nat → Int64) × Nat × (Nat → Pc) × (Nat → Pc) × (Nat → Nat) × Bool × Pc × Nat
def PatL (M : zM) (P k : Nat) (se fo : Nat → Int64) : Prop := mI M P 0 = nI k ∧ k ≤ 60 ∧ (∀ i, i < k → mL M (P + 1) i = fo i) ∧ ∀ i, i < k → mL M (P + 2) i = se i
def StkC (M : zM) (d : Nat) (ro ch : Nat → Pc) (cb : Nat → Nat) : Prop := d ≤ 8 ∧ ∀ e, e ≤ d → PieC M (9 + 2 * e) (ro e) ∧ PieC M (10 + 2 * e) (ch e) ∧ mI M (10 + 2 * e) 0 = nI (cb e)
def LayC (M : zM) (P : Nat) (A : LA) : Prop := match A with
  | (k, se, fo, d, ro, ch, cb, hp, pt, pb) => mR M 4 2 = some P ∧ PatL M P k se fo ∧ mI M 4 0 = nI d ∧ mI M 4 1 = bI hp ∧ StkC M d ro ch cb ∧ (hp = true → PieC M 5 pt ∧ mI M 5 0 = nI pb)
/-- what the Layer may change -/
def LF (P : Nat) (M M' : zM) : Prop := M'.1 = M.1 ∧ (∀ a j, ¬ (a = 4 ∧ j = 2) → mR M' a j = mR M a j) ∧ ∀ a, ¬ ((4 ≤ a ∧ a ≤ 26) ∨ (P ≤ a ∧ a ≤ P + 3)) → ∀ j, mI M' a j = mI M a j ∧ mL M' a j = mL M a j
theorem LF.rf {P : Nat} {M : zM} : LF P M M := ⟨rfl, fun _ _ _ => rfl, fun _ _ _ => ⟨rfl, rfl⟩⟩
theorem LF.tr {P : Nat} {M M1 M2 : zM} (h : LF P M M1) (g : LF P M1 M2) : LF P M M2 := ⟨g.1.trans h.1, fun a j q => (g.2.1 a j q).trans (h.2.1 a j q), fun a ha j => ⟨((g.2.2 a ha j).1).trans ((h.2.2 a ha j).1), ((g.2.2 a ha j).2).trans ((h.2.2 a ha j).2)⟩⟩
theorem LF.wI {P : Nat} {M M' : zM} (h : LF P M M') {a : Nat} (ha : (4 ≤ a ∧ a ≤ 26) ∨ (P ≤ a ∧ a ≤ P + 3)) (k : Nat) (v : Int32) : LF P M (wI M' a k v) := h.tr ⟨rfl, fun _ _ _ => rfl, fun b hb j => ⟨if_neg (fun q : b = a ∧ j = k => hb (by rw [q.1]; exact ha)), rfl⟩⟩
theorem LF.wL {P : Nat} {M M' : zM} (h : LF P M M') {a : Nat} (ha : (4 ≤ a ∧ a ≤ 26) ∨ (P ≤ a ∧ a ≤ P + 3)) (k : Nat) (v : Int64) : LF P M (wL M' a k v) := h.tr ⟨rfl, fun _ _ _ => rfl, fun b hb j => ⟨rfl, if_neg (fun q : b = a ∧ j = k => hb (by rw [q.1]; exact ha))⟩⟩
theorem LF.wR {P : Nat} {M M' : zM} (h : LF P M M') (v : Option Nat) : LF P M (wR M' 4 2 v) := h.tr ⟨rfl, fun _ _ q => if_neg q, fun _ _ _ => ⟨rfl, rfl⟩⟩
theorem LF.ch {P : Nat} {M M' : zM} (h : Ch [P + 1] M M') : LF P M M' := ⟨h.1, fun a j _ => h.2.1 a j, fun a ha j => h.2.2 a (by simp; omega) j⟩
theorem SR42 : ∀ q ∈ SR, ¬ (q.1 = 4 ∧ q.2.1 = 2) := by decide
theorem LF.sta {P : Nat} {M M' : zM} (h : LF P M M') (hs : Sta M) : Sta M' := ⟨by rw [h.1]; exact hs.1, fun q hq => (h.2.1 _ _ (SR42 q hq)).trans (hs.2 q hq)⟩
theorem LF.k {P : Nat} {M M' : zM} (h : LF P M M') (a : Nat) : mK M' a = mK M a := by unfold mK; rw [h.1]
theorem ch1i {S : Nat} {M M' : zM} (h : Ch [S] M M') (a j : Nat) (ha : a ≠ S) : mI M' a j = mI M a j := h.i (by simp [ha]) j
theorem ch1l {S : Nat} {M M' : zM} (h : Ch [S] M M') (a j : Nat) (ha : a ≠ S) : mL M' a j = mL M a j := h.l (by simp [ha]) j
theorem bI_and (a b : Bool) : bI (a && b) = if a then bI b else nI 0 := by cases a <;> rfl
/-- one piece behind another -/
theorem c_append {P a b k : Nat} (hP : isP P) {M : zM} (hS : Sta M) (ha : mK M a = 5) (hb : mK M b = 5) (ha2 : a < 27) (hb2 : b < 27) (hab : a ≠ b) {se fo : Nat → Int64} (hp : PatL M P k se fo) {r p : Pc} (hr : PieC M a r) (hq : PieC M b p) (N : Nat) (hN : 61 ≤ N) :
    ∃ M', fX5_append N M a b P = some ((), M') ∧ Ch [P + 1, a] M M' ∧ PatL M' P k se (conF fo r.2.2 p.2.1) ∧ PieC M' a (pApp r p) ∧ mI M' a 0 = mI M a 0 := by
  obtain ⟨hP1, hP2⟩ := isP_le hP
  obtain ⟨re, rf, rl⟩ := r
  obtain ⟨pe, pf, pl⟩ := p
  obtain ⟨a1, a2, a3⟩ := hr
  obtain ⟨b1, b2, b3⟩ := hq
  obtain ⟨p1, p2, p3, p4⟩ := hp
  simp only at a1 a2 a3 b1 b2 b3
  obtain ⟨Mc, c1, c2, c3⟩ := c_connect hP rl pf p2 hS p1 p3 N hN
  have hi := ch1i c2
  have hl := ch1l c2
  refine ⟨wI (wL (wL Mc a 2 (if re then rf ||| pf else rf)) a 3 (if pe then rl ||| pl else pl)) a 1 (bI (re && pe)), ?_, ?_, ?_, ?_, ?_⟩
  · unfold fX5_append
    simp only [chk_true, bnd_just, bnd2_just, app_t, beq_self_eq_true, mK_wI, mK_wL, mK_wR, mK_wIr, mK_wLr, mN_wI, mN_wL, mN_wR, mN_wIr, mN_wLr, mR_wI, mR_wL, mR_wIr, mR_wLr, mI_wL, mI_wR, mI_wLr, mL_wI, mL_wR, mL_wIr, ha, hb, pK0 hS hP, a3, b2]
    rw [c1]
    unfold fX5_append_36 fX5_append_63 fX5_append_85
    cases re <;> cases pe <;> simp (disch := omega) only [q_eM, q_Me, q_Mlt, q_Mle, q_leM, q_ltM, q_le, q_nle, q_lt, q_nlt, q_neq, zin_nI, nI_clamp, nI_add, pk_mul, pk_sub, mI_e, mI_n, mL_e, mL_n, mR_e, mR_n, i0, i1, ↓reduceIte, ↓bI_t, ↓bI_f, Bool.false_eq_true, eq_self, chk_true, bnd_just, bnd2_just, app_t, beq_self_eq_true, mK_wI, mK_wL, mK_wR, mK_wIr, mK_wLr, mN_wI, mN_wL, mN_wR, mN_wIr, mN_wLr, mR_wI, mR_wL, mR_wIr, mR_wLr, mI_wL, mI_wR, mI_wLr, mL_wI, mL_wR, mL_wIr, c2.k, ha, hb, hi, hl, a1, a2, a3, b1, b2, b3, Bool.and_true, Bool.and_false, Bool.false_and, Bool.true_and]
  · exact (((c2.mo (T := [P + 1, a]) (by simp)).wL (by simp) _ _).wL (by simp) _ _).wI (by simp) _ _
  · refine ⟨?_, p2, fun j hj => ?_, fun j hj => ?_⟩
    · simp (disch := omega) only [q_eM, q_Me, q_Mlt, q_Mle, q_leM, q_ltM, q_le, q_nle, q_lt, q_nlt, q_neq, zin_nI, nI_clamp, nI_add, pk_mul, pk_sub, mI_e, mI_n, mL_e, mL_n, mR_e, mR_n, i0, i1, ↓reduceIte, ↓bI_t, ↓bI_f, Bool.false_eq_true, eq_self, chk_true, bnd_just, bnd2_just, app_t, beq_self_eq_true, mK_wI, mK_wL, mK_wR, mK_wIr, mK_wLr, mN_wI, mN_wL, mN_wR, mN_wIr, mN_wLr, mR_wI, mR_wL, mR_wIr, mR_wLr, mI_wL, mI_wR, mI_wLr, mL_wI, mL_wR, mL_wIr, hi, p1]
    · simp (disch := omega) only [q_eM, q_Me, q_Mlt, q_Mle, q_leM, q_ltM, q_le, q_nle, q_lt, q_nlt, q_neq, zin_nI, nI_clamp, nI_add, pk_mul, pk_sub, mI_e, mI_n, mL_e, mL_n, mR_e, mR_n, i0, i1, ↓reduceIte, ↓bI_t, ↓bI_f, Bool.false_eq_true, eq_self, chk_true, bnd_just, bnd2_just, app_t, beq_self_eq_true, mK_wI, mK_wL, mK_wR, mK_wIr, mK_wLr, mN_wI, mN_wL, mN_wR, mN_wIr, mN_wLr, mR_wI, mR_wL, mR_wIr, mR_wLr, mI_wL, mI_wR, mI_wLr, mL_wI, mL_wR, mL_wIr, c3 j hj]
    · simp (disch := omega) only [q_eM, q_Me, q_Mlt, q_Mle, q_leM, q_ltM, q_le, q_nle, q_lt, q_nlt, q_neq, zin_nI, nI_clamp, nI_add, pk_mul, pk_sub, mI_e, mI_n, mL_e, mL_n, mR_e, mR_n, i0, i1, ↓reduceIte, ↓bI_t, ↓bI_f, Bool.false_eq_true, eq_self, chk_true, bnd_just, bnd2_just, app_t, beq_self_eq_true, mK_wI, mK_wL, mK_wR, mK_wIr, mK_wLr, mN_wI, mN_wL, mN_wR, mN_wIr, mN_wLr, mR_wI, mR_wL, mR_wIr, mR_wLr, mI_wL, mI_wR, mI_wLr, mL_wI, mL_wR, mL_wIr, hl, p4 j hj]
  · refine ⟨?_, ?_, ?_⟩ <;> simp (disch := omega) only [q_eM, q_Me, q_Mlt, q_Mle, q_leM, q_ltM, q_le, q_nle, q_lt, q_nlt, q_neq, zin_nI, nI_clamp, nI_add, pk_mul, pk_sub, mI_e, mI_n, mL_e, mL_n, mR_e, mR_n, i0, i1, ↓reduceIte, ↓bI_t, ↓bI_f, Bool.false_eq_true, eq_self, chk_true, bnd_just, bnd2_just, app_t, beq_self_eq_true, mK_wI, mK_wL, mK_wR, mK_wIr, mK_wLr, mN_wI, mN_wL, mN_wR, mN_wIr, mN_wLr, mR_wI, mR_wL, mR_wIr, mR_wLr, mI_wL, mI_wR, mI_wLr, mL_wI, mL_wR, mL_wIr, pApp]
  · simp (disch := omega) only [q_eM, q_Me, q_Mlt, q_Mle, q_leM, q_ltM, q_le, q_nle, q_lt, q_nlt, q_neq, zin_nI, nI_clamp, nI_add, pk_mul, pk_sub, mI_e, mI_n, mL_e, mL_n, mR_e, mR_n, i0, i1, ↓reduceIte, ↓bI_t, ↓bI_f, Bool.false_eq_true, eq_self, chk_true, bnd_just, bnd2_just, app_t, beq_self_eq_true, mK_wI, mK_wL, mK_wR, mK_wIr, mK_wLr, mN_wI, mN_wL, mN_wR, mN_wIr, mN_wLr, mR_wI, mR_wL, mR_wIr, mR_wLr, mI_wL, mI_wR, mI_wLr, mL_wI, mL_wR, mL_wIr, hi]
theorem c_orElse {a b : Nat} {M : zM} (ha : mK M a = 5) (hb : mK M b = 5) (hab : a ≠ b) {c r : Pc} (hc : PieC M a c) (hr : PieC M b r) (N : Nat) :
    fX5_orElse N M a b = some ((), wI (wL (wL M a 2 (c.2.1 ||| r.2.1)) a 3 (c.2.2 ||| r.2.2)) a 1 (bI (c.1 || r.1))) := by
  obtain ⟨ce, cf, cl⟩ := c
  obtain ⟨re, rf, rl⟩ := r
  obtain ⟨a1, a2, a3⟩ := hc
  obtain ⟨b1, b2, b3⟩ := hr
  simp only at a1 a2 a3 b1 b2 b3
  unfold fX5_orElse fX5_orElse_41
  cases ce <;> cases re <;> simp (disch := omega) only [q_eM, q_Me, q_Mlt, q_Mle, q_leM, q_ltM, q_le, q_nle, q_lt, q_nlt, q_neq, zin_nI, nI_clamp, nI_add, pk_mul, pk_sub, mI_e, mI_n, mL_e, mL_n, mR_e, mR_n, i0, i1, ↓reduceIte, ↓bI_t, ↓bI_f, Bool.false_eq_true, eq_self, chk_true, bnd_just, bnd2_just, app_t, beq_self_eq_true, mK_wI, mK_wL, mK_wR, mK_wIr, mK_wLr, mN_wI, mN_wL, mN_wR, mN_wIr, mN_wLr, mR_wI, mR_wL, mR_wIr, mR_wLr, mI_wL, mI_wR, mI_wLr, mL_wI, mL_wR, mL_wIr, ha, hb, a1, a2, a3, b1, b2, b3, Bool.or_true, Bool.or_false]
theorem c_beginRow {M : zM} {P d k : Nat} (hS : Sta M) (hP : isP P) (hR : mR M 4 2 = some P) (hd : mI M 4 0 = nI d) (hd8 : d ≤ 8) (hk : mI M P 0 = nI k) (N : Nat) :
    fX3_beginRow N M 4 = some ((), wI (wL (wL (wI (wI M (9 + 2 * d) 0 (nI k)) (9 + 2 * d) 1 (nI 1)) (9 + 2 * d) 2 0) (9 + 2 * d) 3 0) 4 1 (nI 0)) := by
  unfold fX3_beginRow fX5_set
  simp (disch := omega) only [q_eM, q_Me, q_Mlt, q_Mle, q_leM, q_ltM, q_le, q_nle, q_lt, q_nlt, q_neq, zin_nI, nI_clamp, nI_add, pk_mul, pk_sub, mI_e, mI_n, mL_e, mL_n, mR_e, mR_n, i0, i1, ↓reduceIte, ↓bI_t, ↓bI_f, Bool.false_eq_true, eq_self, chk_true, bnd_just, bnd2_just, app_t, beq_self_eq_true, mK_wI, mK_wL, mK_wR, mK_wIr, mK_wLr, mN_wI, mN_wL, mN_wR, mN_wIr, mN_wLr, mR_wI, mR_wL, mR_wIr, mR_wLr, mI_wL, mI_wR, mI_wLr, mL_wI, mL_wR, mL_wIr, sk_4 hS, sk_7 hS, sn_7 hS, sr_4_5 hS, hR, hd, hk, pK0 hS hP, rowR hS, rowK hS, z01_1]
theorem c_beginChoices {M : zM} {P d k : Nat} (hS : Sta M) (hP : isP P) (hR : mR M 4 2 = some P) (hd : mI M 4 0 = nI d) (hd8 : d ≤ 8) (hk : mI M P 0 = nI k) (N : Nat) :
    ∃ M', fX3_beginChoices N M 4 = some ((), M') ∧ LF P M M' ∧ M' = wI (wL (wL (wI (wI (wL (wL (wI (wI M (10 + 2 * d) 0 (nI k)) (10 + 2 * d) 1 (nI 0)) (10 + 2 * d) 2 0) (10 + 2 * d) 3 0) (9 + 2 * d) 0 (nI k)) (9 + 2 * d) 1 (nI 1)) (9 + 2 * d) 2 0) (9 + 2 * d) 3 0) 4 1 (nI 0) := by
  obtain ⟨hP1, hP2⟩ := isP_le hP
  refine ⟨_, ?_, ?_, rfl⟩
  · unfold fX3_beginChoices fX3_beginRow fX5_set
    simp (disch := omega) only [q_eM, q_Me, q_Mlt, q_Mle, q_leM, q_ltM, q_le, q_nle, q_lt, q_nlt, q_neq, zin_nI, nI_clamp, nI_add, pk_mul, pk_sub, mI_e, mI_n, mL_e, mL_n, mR_e, mR_n, i0, i1, ↓reduceIte, ↓bI_t, ↓bI_f, Bool.false_eq_true, eq_self, chk_true, bnd_just, bnd2_just, app_t, beq_self_eq_true, mK_wI, mK_wL, mK_wR, mK_wIr, mK_wLr, mN_wI, mN_wL, mN_wR, mN_wIr, mN_wLr, mR_wI, mR_wL, mR_wIr, mR_wLr, mI_wL, mI_wR, mI_wLr, mL_wI, mL_wR, mL_wIr, sk_4 hS, sk_7 hS, sk_8 hS, sn_7 hS, sn_8 hS, sr_4_5 hS, sr_4_6 hS, hR, hd, hk, pK0 hS hP, choR hS, choK hS, rowR hS, rowK hS, z01_0, z01_1]
  · exact (((((((((LF.rf.wI (by omega) _ _).wI (by omega) _ _).wL (by omega) _ _).wL (by omega) _ _).wI (by omega) _ _).wI (by omega) _ _).wL (by omega) _ _).wL (by omega) _ _).wI (by omega) _ _)
end ZLAYER
