/-! what the calls answer: both sides, the simple ones -/
section ZCALLS
theorem bndC_l {α β : Type} (a : α) (c : zM) (f : α → zM → Option β) (g : String → zM → Option β) : bndC (some (.inl a, c)) f g = f a c := rfl
theorem bndC_r {α β : Type} (E : String) (c : zM) (f : α → zM → Option β) (g : String → zM → Option β) : bndC (some (.inr E, c)) f g = g E c := rfl
theorem bndT_l {α β : Type} (a : α) (c : zM) (f : α → zM → Option ((β ⊕ String) × zM)) : bndT (some (.inl a, c)) f = f a c := rfl
theorem bndT_r {α β : Type} (E : String) (c : zM) (f : α → zM → Option ((β ⊕ String) × zM)) : bndT (some (.inr E, c)) f = some (.inr E, c) := rfl
theorem sq1 : ("java/lang/IllegalStateException" = "java/lang/IllegalArgumentException") = False := eq_false (by decide)
theorem sq2 : ("java/lang/IndexOutOfBoundsException" = "java/lang/IllegalStateException") = False := eq_false (by decide)
theorem sq3 : ("java/lang/IllegalArgumentException" = "java/lang/IllegalStateException") = False := eq_false (by decide)
theorem sq4 : ("java/lang/IllegalArgumentException" = "java/lang/IndexOutOfBoundsException") = False := eq_false (by decide)
theorem big_lt {x : Int32} {n m : Nat} (h : nI n ≤ x) (hm' : m ≤ n) (hn : n < 2 ^ 31) : (x < nI m) = False := eq_false (fun q => by
  rw [Int32.le_iff_toInt_le, nI_toInt hn] at h
  rw [Int32.lt_iff_toInt_lt, nI_toInt (by omega)] at q
  omega)
theorem big_le {x : Int32} {n m : Nat} (h : nI n ≤ x) (hm' : m < n) (hn : n < 2 ^ 31) : (x ≤ nI m) = False := eq_false (fun q => by
  rw [Int32.le_iff_toInt_le, nI_toInt hn] at h
  rw [Int32.le_iff_toInt_le, nI_toInt (by omega)] at q
  omega)
theorem big_ne {x : Int32} {n m : Nat} (h : nI n ≤ x) (hm' : m < n) (hn : n < 2 ^ 31) : (x = nI m) = False := eq_false (fun q => by
  rw [q, nle (by omega) (by omega)] at h
  omega)
theorem neg_ne {x : Int32} {m : Nat} (h : x < 0) (hm' : m < 2 ^ 31) : (x = nI m) = False := eq_false (fun q => by
  rw [q, i0, nlt (by omega) (by omega)] at h
  omega)
theorem neg_lt {x : Int32} (h : x < 0) : (x < nI 0) = True := eq_true (by rw [← i0]; exact h)
/-- no pattern, or one -/
theorem c_the {M : zM} (hS : Sta M) {cu : Option zPt} (h : Hld M 6 0 cu) (N : Nat) : (cu = none → fX9_thePattern N M 1 = some (.inr "java/lang/IllegalStateException", M)) ∧ (∀ P, mR M 1 6 = some P → fX9_thePattern N M 1 = some (.inl P, M)) := by
  constructor
  · rintro rfl
    unfold fX9_thePattern
    simp only [chk_true, bnd_just, bnd2_just, app_t, beq_self_eq_true, mK_wI, mK_wL, mK_wR, mK_wIr, mK_wLr, mN_wI, mN_wL, mN_wR, mN_wIr, mN_wLr, mR_wI, mR_wL, mR_wIr, mR_wLr, mI_wL, mI_wR, mI_wLr, mL_wI, mL_wR, mL_wIr, sk_1 hS, h.1, Option.isSome_none, Bool.false_eq_true, if_false]
  · intro P hP
    unfold fX9_thePattern
    simp only [chk_true, bnd_just, bnd2_just, app_t, beq_self_eq_true, mK_wI, mK_wL, mK_wR, mK_wIr, mK_wLr, mN_wI, mN_wL, mN_wR, mN_wIr, mN_wLr, mR_wI, mR_wL, mR_wIr, mR_wLr, mI_wL, mI_wR, mI_wLr, mL_wI, mL_wR, mL_wIr, sk_1 hS, hP, Option.isSome_some, if_true]
theorem m_none {M : zM} (hS : Sta M) {cu : Option zPt} (h : Hld M 6 0 cu) (N : Nat) : fX10_none N M 68 = some (bI cu.isNone, wI M 68 0 (bI cu.isNone)) := by
  unfold fX10_none fX10_none_15
  cases cu with
  | none => simp (disch := omega) only [q_eM, q_Me, q_Mlt, q_Mle, q_leM, q_ltM, q_le, q_nle, q_lt, q_nlt, q_neq, zin_nI, nI_clamp, nI_add, pk_mul, pk_sub, mI_e, mI_n, mL_e, mL_n, mR_e, mR_n, i0, i1, ↓reduceIte, ↓bI_t, ↓bI_f, Bool.false_eq_true, eq_self, chk_true, bnd_just, bnd2_just, app_t, beq_self_eq_true, mK_wI, mK_wL, mK_wR, mK_wIr, mK_wLr, mN_wI, mN_wL, mN_wR, mN_wIr, mN_wLr, mR_wI, mR_wL, mR_wIr, mR_wLr, mI_wL, mI_wR, mI_wLr, mL_wI, mL_wR, mL_wIr, sk_68 hS, sk_71 hS, sn_71 hS, sr_68_6 hS, h.2, Option.isNone_none]
  | some p => simp (disch := omega) only [q_eM, q_Me, q_Mlt, q_Mle, q_leM, q_ltM, q_le, q_nle, q_lt, q_nlt, q_neq, zin_nI, nI_clamp, nI_add, pk_mul, pk_sub, mI_e, mI_n, mL_e, mL_n, mR_e, mR_n, i0, i1, ↓reduceIte, ↓bI_t, ↓bI_f, Bool.false_eq_true, eq_self, chk_true, bnd_just, bnd2_just, app_t, beq_self_eq_true, mK_wI, mK_wL, mK_wR, mK_wIr, mK_wLr, mN_wI, mN_wL, mN_wR, mN_wIr, mN_wLr, mR_wI, mR_wL, mR_wIr, mR_wLr, mI_wL, mI_wR, mI_wLr, mL_wI, mL_wR, mL_wIr, sk_68 hS, sk_71 hS, sn_71 hS, sr_68_6 hS, h.1, Option.isNone_some]
theorem zInv.sta {xs : Nat → Int32} {L : Nat} {M : zM} {cs ts : List Nat} {cu ke : Option zPt} (h : zInv xs L M cs ts cu ke) : Sta M := h.1
theorem zInv.cu {xs : Nat → Int32} {L : Nat} {M : zM} {cs ts : List Nat} {cu ke : Option zPt} (h : zInv xs L M cs ts cu ke) : Hld M 6 0 cu := h.2.2.2.2.2.1
def BothI (xs : Nat → Int32) (L : Nat) (rC : Option (Int32 × zM)) (fM : zM → Option (Int32 × zM)) : Prop := ∃ k b M1 M2 cs ts cu ke, rC = some (nI k, M1) ∧ k < 10 ∧ (Sta M1 ∧ mN M1 0 = L ∧ ∀ j, mI M1 0 j = xs j) ∧ fM M1 = some (b, M2) ∧ mI M2 68 0 = nI k ∧ (k = 0 → mL M2 102 0 = Int32.toInt64 b) ∧ zInv xs L M2 cs ts cu ke
def BothB (xs : Nat → Int32) (L : Nat) (rC : Option (Int32 × zM)) (fM : zM → Option (Int32 × zM)) : Prop := ∃ k b M1 M2 cs ts cu ke, rC = some (nI k, M1) ∧ k < 10 ∧ (Sta M1 ∧ mN M1 0 = L ∧ ∀ j, mI M1 0 j = xs j) ∧ fM M1 = some (bI b, M2) ∧ mI M2 68 0 = nI k ∧ (k = 0 → mL M2 102 0 = if b = true then 1 else 0) ∧ zInv xs L M2 cs ts cu ke
theorem zInv.pre {xs : Nat → Int32} {L : Nat} {M : zM} {cs ts : List Nat} {cu ke : Option zPt} (h : zInv xs L M cs ts cu ke) : Sta M ∧ mN M 0 = L ∧ ∀ j, mI M 0 j = xs j := ⟨h.1, h.2.1.1, h.2.1.2⟩
theorem k102 {M : zM} (hS : Sta M) : mK M 102 = 12 := sK hS (fun _ => rfl)
theorem n102 {M : zM} (hS : Sta M) : mN M 102 = 1 := sN hS (fun _ => rfl)
theorem b_positions {xs : Nat → Int32} {L : Nat} {M : zM} {cs ts : List Nat} {cu ke : Option zPt} (h : zInv xs L M cs ts cu ke) (N : Nat) : BothI xs L (fL_positions N M 1 102) (fun M1 => fX10_positions N M1 68) := by
  have hS := h.sta
  cases cu with
  | none =>
    have e1 := (c_the hS h.cu N).1 rfl
    refine ⟨1, 0, M, wI M 68 0 (nI 1), cs, ts, none, ke, ?_, by omega, h.pre, ?_, mI_e rfl rfl, fun q => by omega, h.scr (Scr.rf.code _)⟩
    · unfold fL_positions fX9_positions
      simp only [chk_true, bnd_just, bnd2_just, app_t, beq_self_eq_true, mK_wI, mK_wL, mK_wR, mK_wIr, mK_wLr, mN_wI, mN_wL, mN_wR, mN_wIr, mN_wLr, mR_wI, mR_wL, mR_wIr, mR_wLr, mI_wL, mI_wR, mI_wLr, mL_wI, mL_wR, mL_wIr, sk_1 hS, e1, bndT_r, bndC_r, if_true, i1]
    · show fX10_positions N M 68 = _
      unfold fX10_positions
      rw [m_none hS h.cu]
      simp (disch := omega) only [q_eM, q_Me, q_Mlt, q_Mle, q_leM, q_ltM, q_le, q_nle, q_lt, q_nlt, q_neq, zin_nI, nI_clamp, nI_add, pk_mul, pk_sub, mI_e, mI_n, mL_e, mL_n, mR_e, mR_n, i0, i1, ↓reduceIte, ↓bI_t, ↓bI_f, Bool.false_eq_true, eq_self, chk_true, bnd_just, bnd2_just, app_t, beq_self_eq_true, mK_wI, mK_wL, mK_wR, mK_wIr, mK_wLr, mN_wI, mN_wL, mN_wR, mN_wIr, mN_wLr, mR_wI, mR_wL, mR_wIr, mR_wLr, mI_wL, mI_wR, mI_wLr, mL_wI, mL_wR, mL_wIr, sk_68 hS, Option.isNone_none]
  | some p =>
    obtain ⟨h1, h2, h3, P, h4, h5, h6, h7⟩ := h.cu
    have e1 := (c_the hS h.cu N).2 P h5
    have hI1 := h.scr (Scr.rf.out 0 (Int32.toInt64 (nI (pk p))))
    refine ⟨0, nI (pk p), wL M 102 0 (Int32.toInt64 (nI (pk p))), wI (wL M 102 0 (Int32.toInt64 (nI (pk p)))) 68 0 (nI 0), cs, ts, some p, ke, ?_, by omega, hI1.pre, ?_, mI_e rfl rfl, fun _ => ?_, hI1.scr (Scr.rf.code _)⟩
    · unfold fL_positions fX9_positions
      simp (disch := omega) only [q_eM, q_Me, q_Mlt, q_Mle, q_leM, q_ltM, q_le, q_nle, q_lt, q_nlt, q_neq, zin_nI, nI_clamp, nI_add, pk_mul, pk_sub, mI_e, mI_n, mL_e, mL_n, mR_e, mR_n, i0, i1, ↓reduceIte, ↓bI_t, ↓bI_f, Bool.false_eq_true, eq_self, chk_true, bnd_just, bnd2_just, app_t, beq_self_eq_true, mK_wI, mK_wL, mK_wR, mK_wIr, mK_wLr, mN_wI, mN_wL, mN_wR, mN_wIr, mN_wLr, mR_wI, mR_wL, mR_wIr, mR_wLr, mI_wL, mI_wR, mI_wLr, mL_wI, mL_wR, mL_wIr, sk_1 hS, e1, bndT_l, bndC_l, pK0 hS h4, h6.k, k102 hS, n102 hS]
    · show fX10_positions N (wL M 102 0 (Int32.toInt64 (nI (pk p)))) 68 = _
      unfold fX10_positions
      rw [m_none hI1.sta hI1.cu]
      have g72 : mI M 72 0 = nI (pk p) := h2.1
      simp (disch := omega) only [q_eM, q_Me, q_Mlt, q_Mle, q_leM, q_ltM, q_le, q_nle, q_lt, q_nlt, q_neq, zin_nI, nI_clamp, nI_add, pk_mul, pk_sub, mI_e, mI_n, mL_e, mL_n, mR_e, mR_n, i0, i1, ↓reduceIte, ↓bI_t, ↓bI_f, Bool.false_eq_true, eq_self, chk_true, bnd_just, bnd2_just, app_t, beq_self_eq_true, mK_wI, mK_wL, mK_wR, mK_wIr, mK_wLr, mN_wI, mN_wL, mN_wR, mN_wIr, mN_wLr, mR_wI, mR_wL, mR_wIr, mR_wLr, mI_wL, mI_wR, mI_wLr, mL_wI, mL_wR, mL_wIr, sk_68 hS, sk_72 hS, sn_72 hS, sr_68_7 hS, Option.isNone_some, g72]
    · show mL (wL M 102 0 (Int32.toInt64 (nI (pk p)))) 102 0 = _
      rw [mL_e rfl rfl]
def oB (b : Bool) : Int64 := if b = true then 1 else 0
theorem b_empty {xs : Nat → Int32} {L : Nat} {M : zM} {cs ts : List Nat} {cu ke : Option zPt} (h : zInv xs L M cs ts cu ke) (N : Nat) : BothB xs L (fL_empty N M 1 102) (fun M1 => fX10_empty N M1 68) := by
  have hS := h.sta
  cases cu with
  | none =>
    have e1 := (c_the hS h.cu N).1 rfl
    refine ⟨1, false, M, wI M 68 0 (nI 1), cs, ts, none, ke, ?_, by omega, h.pre, ?_, mI_e rfl rfl, fun q => by omega, h.scr (Scr.rf.code _)⟩
    · unfold fL_empty fX9_empty
      simp only [chk_true, bnd_just, bnd2_just, app_t, beq_self_eq_true, mK_wI, mK_wL, mK_wR, mK_wIr, mK_wLr, mN_wI, mN_wL, mN_wR, mN_wIr, mN_wLr, mR_wI, mR_wL, mR_wIr, mR_wLr, mI_wL, mI_wR, mI_wLr, mL_wI, mL_wR, mL_wIr, sk_1 hS, e1, bndT_r, bndC_r, if_true, i1]
    · show fX10_empty N M 68 = _
      unfold fX10_empty fX10_empty_20
      rw [m_none hS h.cu]
      simp (disch := omega) only [q_eM, q_Me, q_Mlt, q_Mle, q_leM, q_ltM, q_le, q_nle, q_lt, q_nlt, q_neq, zin_nI, nI_clamp, nI_add, pk_mul, pk_sub, mI_e, mI_n, mL_e, mL_n, mR_e, mR_n, i0, i1, ↓reduceIte, ↓bI_t, ↓bI_f, Bool.false_eq_true, eq_self, chk_true, bnd_just, bnd2_just, app_t, beq_self_eq_true, mK_wI, mK_wL, mK_wR, mK_wIr, mK_wLr, mN_wI, mN_wL, mN_wR, mN_wIr, mN_wLr, mR_wI, mR_wL, mR_wIr, mR_wLr, mI_wL, mI_wR, mI_wLr, mL_wI, mL_wR, mL_wIr, sk_68 hS, Option.isNone_none]
  | some p =>
    obtain ⟨h1, h2, h3, P, h4, h5, h6, h7⟩ := h.cu
    have e1 := (c_the hS h.cu N).2 P h5
    have hI1 := h.scr (Scr.rf.out 0 (oB (pe p)))
    have g1 : mI M P 1 = bI (pe p) := h6.2.1
    have g73 : mI M 73 0 = bI (pe p) := h2.2.2.1
    refine ⟨0, pe p, wL M 102 0 (oB (pe p)), wI (wL M 102 0 (oB (pe p))) 68 0 (nI 0), cs, ts, some p, ke, ?_, by omega, hI1.pre, ?_, mI_e rfl rfl, fun _ => ?_, hI1.scr (Scr.rf.code _)⟩
    · unfold fL_empty fX9_empty fL_empty_14
      cases hpe : pe p with
      | false =>
        rw [hpe] at g1
        simp (disch := omega) only [q_eM, q_Me, q_Mlt, q_Mle, q_leM, q_ltM, q_le, q_nle, q_lt, q_nlt, q_neq, zin_nI, nI_clamp, nI_add, pk_mul, pk_sub, mI_e, mI_n, mL_e, mL_n, mR_e, mR_n, i0, i1, ↓reduceIte, ↓bI_t, ↓bI_f, Bool.false_eq_true, eq_self, chk_true, bnd_just, bnd2_just, app_t, beq_self_eq_true, mK_wI, mK_wL, mK_wR, mK_wIr, mK_wLr, mN_wI, mN_wL, mN_wR, mN_wIr, mN_wLr, mR_wI, mR_wL, mR_wIr, mR_wLr, mI_wL, mI_wR, mI_wLr, mL_wI, mL_wR, mL_wIr, sk_1 hS, e1, bndT_l, bndC_l, pK0 hS h4, g1, z01_0, k102 hS, n102 hS]
        rfl
      | true =>
        rw [hpe] at g1
        simp (disch := omega) only [q_eM, q_Me, q_Mlt, q_Mle, q_leM, q_ltM, q_le, q_nle, q_lt, q_nlt, q_neq, zin_nI, nI_clamp, nI_add, pk_mul, pk_sub, mI_e, mI_n, mL_e, mL_n, mR_e, mR_n, i0, i1, ↓reduceIte, ↓bI_t, ↓bI_f, Bool.false_eq_true, eq_self, chk_true, bnd_just, bnd2_just, app_t, beq_self_eq_true, mK_wI, mK_wL, mK_wR, mK_wIr, mK_wLr, mN_wI, mN_wL, mN_wR, mN_wIr, mN_wLr, mR_wI, mR_wL, mR_wIr, mR_wLr, mI_wL, mI_wR, mI_wLr, mL_wI, mL_wR, mL_wIr, sk_1 hS, e1, bndT_l, bndC_l, pK0 hS h4, g1, z01_1, k102 hS, n102 hS]
        rfl
    · show fX10_empty N (wL M 102 0 (oB (pe p))) 68 = _
      unfold fX10_empty fX10_empty_20
      rw [m_none hI1.sta hI1.cu]
      cases hpe : pe p with
      | false =>
        rw [hpe] at g73
        simp (disch := omega) only [q_eM, q_Me, q_Mlt, q_Mle, q_leM, q_ltM, q_le, q_nle, q_lt, q_nlt, q_neq, zin_nI, nI_clamp, nI_add, pk_mul, pk_sub, mI_e, mI_n, mL_e, mL_n, mR_e, mR_n, i0, i1, ↓reduceIte, ↓bI_t, ↓bI_f, Bool.false_eq_true, eq_self, chk_true, bnd_just, bnd2_just, app_t, beq_self_eq_true, mK_wI, mK_wL, mK_wR, mK_wIr, mK_wLr, mN_wI, mN_wL, mN_wR, mN_wIr, mN_wLr, mR_wI, mR_wL, mR_wIr, mR_wLr, mI_wL, mI_wR, mI_wLr, mL_wI, mL_wR, mL_wIr, sk_68 hS, sk_73 hS, sn_73 hS, sr_68_8 hS, Option.isNone_some, g73]
      | true =>
        rw [hpe] at g73
        simp (disch := omega) only [q_eM, q_Me, q_Mlt, q_Mle, q_leM, q_ltM, q_le, q_nle, q_lt, q_nlt, q_neq, zin_nI, nI_clamp, nI_add, pk_mul, pk_sub, mI_e, mI_n, mL_e, mL_n, mR_e, mR_n, i0, i1, ↓reduceIte, ↓bI_t, ↓bI_f, Bool.false_eq_true, eq_self, chk_true, bnd_just, bnd2_just, app_t, beq_self_eq_true, mK_wI, mK_wL, mK_wR, mK_wIr, mK_wLr, mN_wI, mN_wL, mN_wR, mN_wIr, mN_wLr, mR_wI, mR_wL, mR_wIr, mR_wLr, mI_wL, mI_wR, mI_wLr, mL_wI, mL_wR, mL_wIr, sk_68 hS, sk_73 hS, sn_73 hS, sr_68_8 hS, Option.isNone_some, g73]
    · show mL (wL M 102 0 (oB (pe p))) 102 0 = _
      rw [mL_e rfl rfl]; rfl
/-- a position that is none, or one -/
theorem m_nopos {M : zM} (hS : Sta M) {p : zPt} (h : Hld M 6 0 (some p)) (v : Int32) (N : Nat) : ((v < 0 ∨ nI (pk p) ≤ v) → fX10_noPosition N M 68 v = some (nI 1, wI M 68 0 (nI 2))) ∧ (∀ j, j < pk p → v = nI j → fX10_noPosition N M 68 v = some (nI 0, wI M 68 0 (nI 0))) := by
  obtain ⟨h1, h2, h3, -⟩ := h
  have g72 : mI M 72 0 = nI (pk p) := h2.1
  have hk := h3.1
  constructor
  · intro q
    unfold fX10_noPosition fX10_noPosition_28 fX10_noPosition_33
    by_cases hv : v < 0
    · simp (disch := omega) only [q_eM, q_Me, q_Mlt, q_Mle, q_leM, q_ltM, q_le, q_nle, q_lt, q_nlt, q_neq, zin_nI, nI_clamp, nI_add, pk_mul, pk_sub, mI_e, mI_n, mL_e, mL_n, mR_e, mR_n, i0, i1, ↓reduceIte, ↓bI_t, ↓bI_f, Bool.false_eq_true, eq_self, chk_true, bnd_just, bnd2_just, app_t, beq_self_eq_true, mK_wI, mK_wL, mK_wR, mK_wIr, mK_wLr, mN_wI, mN_wL, mN_wR, mN_wIr, mN_wLr, mR_wI, mR_wL, mR_wIr, mR_wLr, mI_wL, mI_wR, mI_wLr, mL_wI, mL_wR, mL_wIr, il_2, sk_68 hS, sk_71 hS, sk_72 hS, sn_71 hS, sn_72 hS, sr_68_6 hS, sr_68_7 hS, h1, neg_lt hv]
    · have hb : nI (pk p) ≤ v := by
        rcases q with q | q
        · exact absurd q hv
        · exact q
      have n0 : (v < nI 0) = False := eq_false (by rw [← i0]; exact hv)
      simp (disch := omega) only [q_eM, q_Me, q_Mlt, q_Mle, q_leM, q_ltM, q_le, q_nle, q_lt, q_nlt, q_neq, zin_nI, nI_clamp, nI_add, pk_mul, pk_sub, mI_e, mI_n, mL_e, mL_n, mR_e, mR_n, i0, i1, ↓reduceIte, ↓bI_t, ↓bI_f, Bool.false_eq_true, eq_self, chk_true, bnd_just, bnd2_just, app_t, beq_self_eq_true, mK_wI, mK_wL, mK_wR, mK_wIr, mK_wLr, mN_wI, mN_wL, mN_wR, mN_wIr, mN_wLr, mR_wI, mR_wL, mR_wIr, mR_wLr, mI_wL, mI_wR, mI_wLr, mL_wI, mL_wR, mL_wIr, il_2, sk_68 hS, sk_71 hS, sk_72 hS, sn_71 hS, sn_72 hS, sr_68_6 hS, sr_68_7 hS, h1, n0, g72, big_lt hb (Nat.le_refl _) (by omega)]
  · rintro j hj rfl
    unfold fX10_noPosition fX10_noPosition_33
    simp (disch := omega) only [q_eM, q_Me, q_Mlt, q_Mle, q_leM, q_ltM, q_le, q_nle, q_lt, q_nlt, q_neq, zin_nI, nI_clamp, nI_add, pk_mul, pk_sub, mI_e, mI_n, mL_e, mL_n, mR_e, mR_n, i0, i1, ↓reduceIte, ↓bI_t, ↓bI_f, Bool.false_eq_true, eq_self, chk_true, bnd_just, bnd2_just, app_t, beq_self_eq_true, mK_wI, mK_wL, mK_wR, mK_wIr, mK_wLr, mN_wI, mN_wL, mN_wR, mN_wIr, mN_wLr, mR_wI, mR_wL, mR_wIr, mR_wLr, mI_wL, mI_wR, mI_wLr, mL_wI, mL_wR, mL_wIr, sk_68 hS, sk_71 hS, sk_72 hS, sn_71 hS, sn_72 hS, sr_68_6 hS, sr_68_7 hS, h1, g72]
theorem m_nopos0 {M : zM} (hS : Sta M) (h : Hld M 6 0 none) (v : Int32) (N : Nat) : fX10_noPosition N M 68 v = some (nI 1, wI M 68 0 (nI 1)) := by
  unfold fX10_noPosition fX10_noPosition_33
  simp (disch := omega) only [q_eM, q_Me, q_Mlt, q_Mle, q_leM, q_ltM, q_le, q_nle, q_lt, q_nlt, q_neq, zin_nI, nI_clamp, nI_add, pk_mul, pk_sub, mI_e, mI_n, mL_e, mL_n, mR_e, mR_n, i0, i1, ↓reduceIte, ↓bI_t, ↓bI_f, Bool.false_eq_true, eq_self, chk_true, bnd_just, bnd2_just, app_t, beq_self_eq_true, mK_wI, mK_wL, mK_wR, mK_wIr, mK_wLr, mN_wI, mN_wL, mN_wR, mN_wIr, mN_wLr, mR_wI, mR_wL, mR_wIr, mR_wLr, mI_wL, mI_wR, mI_wLr, mL_wI, mL_wR, mL_wIr, sk_68 hS, sk_71 hS, sn_71 hS, sr_68_6 hS, h.2]
theorem b_is {xs : Nat → Int32} {L : Nat} {M : zM} {cs ts : List Nat} {cu ke : Option zPt} (h : zInv xs L M cs ts cu ke) (v w : Int32) (N : Nat) : BothB xs L (fL_is N M 1 v w 102) (fun M1 => fX10_is N M1 68 v w) := by
  have hS := h.sta
  cases cu with
  | none =>
    have e1 := (c_the hS h.cu N).1 rfl
    refine ⟨1, false, M, wI M 68 0 (nI 1), cs, ts, none, ke, ?_, by omega, h.pre, ?_, mI_e rfl rfl, fun q => by omega, h.scr (Scr.rf.code _)⟩
    · unfold fL_is fX9_is
      simp only [chk_true, bnd_just, bnd2_just, app_t, beq_self_eq_true, mK_wI, mK_wL, mK_wR, mK_wIr, mK_wLr, mN_wI, mN_wL, mN_wR, mN_wIr, mN_wLr, mR_wI, mR_wL, mR_wIr, mR_wLr, mI_wL, mI_wR, mI_wLr, mL_wI, mL_wR, mL_wIr, sk_1 hS, e1, bndT_r, bndC_r, if_true, i1]
    · show fX10_is N M 68 v w = _
      unfold fX10_is
      rw [m_nopos0 hS h.cu]
      simp (disch := omega) only [q_eM, q_Me, q_Mlt, q_Mle, q_leM, q_ltM, q_le, q_nle, q_lt, q_nlt, q_neq, zin_nI, nI_clamp, nI_add, pk_mul, pk_sub, mI_e, mI_n, mL_e, mL_n, mR_e, mR_n, i0, i1, ↓reduceIte, ↓bI_t, ↓bI_f, Bool.false_eq_true, eq_self, chk_true, bnd_just, bnd2_just, app_t, beq_self_eq_true, mK_wI, mK_wL, mK_wR, mK_wIr, mK_wLr, mN_wI, mN_wL, mN_wR, mN_wIr, mN_wLr, mR_wI, mR_wL, mR_wIr, mR_wLr, mI_wL, mI_wR, mI_wLr, mL_wI, mL_wR, mL_wIr, sk_68 hS]
  | some p =>
    obtain ⟨h1, h2, h3, P, h4, h5, h6, h7⟩ := h.cu
    have e1 := (c_the hS h.cu N).2 P h5
    have hk := h3.1
    have hkk := h6.k
    have np := m_nopos hS h.cu v N
    rcases pk_ix v (n := pk p) (by omega) with hv | hv | ⟨j, hj, rfl⟩
    · refine ⟨2, false, M, wI M 68 0 (nI 2), cs, ts, some p, ke, ?_, by omega, h.pre, ?_, mI_e rfl rfl, fun q => by omega, h.scr (Scr.rf.code _)⟩
      · unfold fL_is fX9_is
        simp only [chk_true, bnd_just, bnd2_just, app_t, beq_self_eq_true, mK_wI, mK_wL, mK_wR, mK_wIr, mK_wLr, mN_wI, mN_wL, mN_wR, mN_wIr, mN_wLr, mR_wI, mR_wL, mR_wIr, mR_wLr, mI_wL, mI_wR, mI_wLr, mL_wI, mL_wR, mL_wIr, sk_1 hS, e1, bndT_l, bndC_r, i0, neg_lt hv, if_true, sq2, if_false, il_2]
      · show fX10_is N M 68 v w = _
        unfold fX10_is
        rw [np.1 (Or.inl hv)]
        simp (disch := omega) only [q_eM, q_Me, q_Mlt, q_Mle, q_leM, q_ltM, q_le, q_nle, q_lt, q_nlt, q_neq, zin_nI, nI_clamp, nI_add, pk_mul, pk_sub, mI_e, mI_n, mL_e, mL_n, mR_e, mR_n, i0, i1, ↓reduceIte, ↓bI_t, ↓bI_f, Bool.false_eq_true, eq_self, chk_true, bnd_just, bnd2_just, app_t, beq_self_eq_true, mK_wI, mK_wL, mK_wR, mK_wIr, mK_wLr, mN_wI, mN_wL, mN_wR, mN_wIr, mN_wLr, mR_wI, mR_wL, mR_wIr, mR_wLr, mI_wL, mI_wR, mI_wLr, mL_wI, mL_wR, mL_wIr, sk_68 hS]
    · refine ⟨2, false, M, wI M 68 0 (nI 2), cs, ts, some p, ke, ?_, by omega, h.pre, ?_, mI_e rfl rfl, fun q => by omega, h.scr (Scr.rf.code _)⟩
      · unfold fL_is fX9_is
        simp (disch := omega) only [chk_true, bnd_just, bnd2_just, app_t, beq_self_eq_true, mK_wI, mK_wL, mK_wR, mK_wIr, mK_wLr, mN_wI, mN_wL, mN_wR, mN_wIr, mN_wLr, mR_wI, mR_wL, mR_wIr, mR_wLr, mI_wL, mI_wR, mI_wLr, mL_wI, mL_wR, mL_wIr, sk_1 hS, e1, bndT_l, bndC_r, i0, big_lt hv, hkk, pK0 hS h4, if_true, sq2, if_false, il_2]
      · show fX10_is N M 68 v w = _
        unfold fX10_is
        rw [np.1 (Or.inr hv)]
        simp (disch := omega) only [q_eM, q_Me, q_Mlt, q_Mle, q_leM, q_ltM, q_le, q_nle, q_lt, q_nlt, q_neq, zin_nI, nI_clamp, nI_add, pk_mul, pk_sub, mI_e, mI_n, mL_e, mL_n, mR_e, mR_n, i0, i1, ↓reduceIte, ↓bI_t, ↓bI_f, Bool.false_eq_true, eq_self, chk_true, bnd_just, bnd2_just, app_t, beq_self_eq_true, mK_wI, mK_wL, mK_wR, mK_wIr, mK_wLr, mN_wI, mN_wL, mN_wR, mN_wIr, mN_wLr, mR_wI, mR_wL, mR_wIr, mR_wLr, mI_wL, mI_wR, mI_wLr, mL_wI, mL_wR, mL_wIr, sk_68 hS]
    · have np2 := np.2 j hj rfl
      have hbad : (w < 0 ∨ nI 2 ≤ w) → BothB xs L (fL_is N M 1 (nI j) w 102) (fun M1 => fX10_is N M1 68 (nI j) w) := by
        intro hw
        have a0 : (w = nI 0) = False := by
          rcases hw with q | q
          · exact neg_ne q (by omega)
          · exact big_ne q (by omega) (by omega)
        have a1 : (w = nI 1) = False := by
          rcases hw with q | q
          · exact neg_ne q (by omega)
          · exact big_ne q (by omega) (by omega)
        refine ⟨3, false, M, wI (wI M 68 0 (nI 0)) 68 0 (nI 3), cs, ts, some p, ke, ?_, by omega, h.pre, ?_, mI_e rfl rfl, fun q => by omega, h.scr ((Scr.rf.code _).code _)⟩
        · unfold fL_is fX9_is
          simp (disch := omega) only [q_eM, q_Me, q_Mlt, q_Mle, q_leM, q_ltM, q_le, q_nle, q_lt, q_nlt, q_neq, zin_nI, nI_clamp, nI_add, pk_mul, pk_sub, mI_e, mI_n, mL_e, mL_n, mR_e, mR_n, i0, i1, ↓reduceIte, ↓bI_t, ↓bI_f, Bool.false_eq_true, eq_self, chk_true, bnd_just, bnd2_just, app_t, beq_self_eq_true, mK_wI, mK_wL, mK_wR, mK_wIr, mK_wLr, mN_wI, mN_wL, mN_wR, mN_wIr, mN_wLr, mR_wI, mR_wL, mR_wIr, mR_wLr, mI_wL, mI_wR, mI_wLr, mL_wI, mL_wR, mL_wIr, sk_1 hS, e1, bndT_l, bndC_r, hkk, pK0 hS h4, sq3, sq4, a0, a1, il_3]
        · show fX10_is N M 68 (nI j) w = _
          unfold fX10_is fX10_is_20 fX10_is_25 fX10_is_65
          rw [np2]
          rcases hw with q | q
          · simp (disch := omega) only [q_eM, q_Me, q_Mlt, q_Mle, q_leM, q_ltM, q_le, q_nle, q_lt, q_nlt, q_neq, zin_nI, nI_clamp, nI_add, pk_mul, pk_sub, mI_e, mI_n, mL_e, mL_n, mR_e, mR_n, i0, i1, ↓reduceIte, ↓bI_t, ↓bI_f, Bool.false_eq_true, eq_self, chk_true, bnd_just, bnd2_just, app_t, beq_self_eq_true, mK_wI, mK_wL, mK_wR, mK_wIr, mK_wLr, mN_wI, mN_wL, mN_wR, mN_wIr, mN_wLr, mR_wI, mR_wL, mR_wIr, mR_wLr, mI_wL, mI_wR, mI_wLr, mL_wI, mL_wR, mL_wIr, sk_68 hS, neg_lt q, il_3]
          · simp (disch := omega) only [q_eM, q_Me, q_Mlt, q_Mle, q_leM, q_ltM, q_le, q_nle, q_lt, q_nlt, q_neq, zin_nI, nI_clamp, nI_add, pk_mul, pk_sub, mI_e, mI_n, mL_e, mL_n, mR_e, mR_n, i0, i1, ↓reduceIte, ↓bI_t, ↓bI_f, Bool.false_eq_true, eq_self, chk_true, bnd_just, bnd2_just, app_t, beq_self_eq_true, mK_wI, mK_wL, mK_wR, mK_wIr, mK_wLr, mN_wI, mN_wL, mN_wR, mN_wIr, mN_wLr, mR_wI, mR_wL, mR_wIr, mR_wLr, mI_wL, mI_wR, mI_wLr, mL_wI, mL_wR, mL_wIr, sk_68 hS, big_lt q, big_le q, il_3]
      rcases pk_ix w (n := 2) (by omega) with hw | hw | ⟨i, hi, rfl⟩
      · exact hbad (Or.inl hw)
      · exact hbad (Or.inr hw)
      · have hI1 := fun b => h.scr (Scr.rf.out 0 (oB b))
        have main : ∀ x : Int64, (i = 0 → x = pf p) → (i = 1 → x = pl p) → BothB xs L (fL_is N M 1 (nI j) (nI i) 102) (fun M1 => fX10_is N M1 68 (nI j) (nI i)) := by
          intro x hx0 hx1
          have g2 : mL M P 2 = pf p := h6.2.2.1
          have g3 : mL M P 3 = pl p := h6.2.2.2.1
          have g74 : mL M 74 0 = pf p := h2.2.2.2.1
          have g75 : mL M 75 0 = pl p := h2.2.2.2.2.1
          have np3 := (m_nopos (hI1 (jb x j)).sta (hI1 (jb x j)).cu (nI j) N).2 j hj rfl
          refine ⟨0, jb x j, wL M 102 0 (oB (jb x j)), wI (wI (wL M 102 0 (oB (jb x j))) 68 0 (nI 0)) 68 0 (nI 0), cs, ts, some p, ke, ?_, by omega, (hI1 _).pre, ?_, mI_e rfl rfl, fun _ => ?_, (hI1 _).scr ((Scr.rf.code _).code _)⟩
          · unfold fL_is fX9_is fX9_is_42 fX9_is_57 fL_is_16
            have hi2 : i = 0 ∨ i = 1 := by omega
            rcases hi2 with rfl | rfl
            · have := hx0 rfl; subst this
              simp (disch := omega) only [q_eM, q_Me, q_Mlt, q_Mle, q_leM, q_ltM, q_le, q_nle, q_lt, q_nlt, q_neq, zin_nI, nI_clamp, nI_add, pk_mul, pk_sub, mI_e, mI_n, mL_e, mL_n, mR_e, mR_n, i0, i1, ↓reduceIte, ↓bI_t, ↓bI_f, Bool.false_eq_true, eq_self, chk_true, bnd_just, bnd2_just, app_t, beq_self_eq_true, mK_wI, mK_wL, mK_wR, mK_wIr, mK_wLr, mN_wI, mN_wL, mN_wR, mN_wIr, mN_wLr, mR_wI, mR_wL, mR_wIr, mR_wLr, mI_wL, mI_wR, mI_wLr, mL_wI, mL_wR, mL_wIr, sk_1 hS, e1, bndT_l, bndC_l, hkk, pK0 hS h4, g2, f_holds N M (pf p) (show j < 64 by omega), z01_b, k102 hS, n102 hS]
              cases jb (pf p) j <;> simp (disch := omega) only [q_eM, q_Me, q_Mlt, q_Mle, q_leM, q_ltM, q_le, q_nle, q_lt, q_nlt, q_neq, zin_nI, nI_clamp, nI_add, pk_mul, pk_sub, mI_e, mI_n, mL_e, mL_n, mR_e, mR_n, i0, i1, ↓reduceIte, ↓bI_t, ↓bI_f, Bool.false_eq_true, eq_self, chk_true, bnd_just, bnd2_just, app_t, beq_self_eq_true, mK_wI, mK_wL, mK_wR, mK_wIr, mK_wLr, mN_wI, mN_wL, mN_wR, mN_wIr, mN_wLr, mR_wI, mR_wL, mR_wIr, mR_wLr, mI_wL, mI_wR, mI_wLr, mL_wI, mL_wR, mL_wIr, bndC_l, k102 hS, n102 hS] <;> rfl
            · have := hx1 rfl; subst this
              simp (disch := omega) only [q_eM, q_Me, q_Mlt, q_Mle, q_leM, q_ltM, q_le, q_nle, q_lt, q_nlt, q_neq, zin_nI, nI_clamp, nI_add, pk_mul, pk_sub, mI_e, mI_n, mL_e, mL_n, mR_e, mR_n, i0, i1, ↓reduceIte, ↓bI_t, ↓bI_f, Bool.false_eq_true, eq_self, chk_true, bnd_just, bnd2_just, app_t, beq_self_eq_true, mK_wI, mK_wL, mK_wR, mK_wIr, mK_wLr, mN_wI, mN_wL, mN_wR, mN_wIr, mN_wLr, mR_wI, mR_wL, mR_wIr, mR_wLr, mI_wL, mI_wR, mI_wLr, mL_wI, mL_wR, mL_wIr, sk_1 hS, e1, bndT_l, bndC_l, hkk, pK0 hS h4, g3, f_holds N M (pl p) (show j < 64 by omega), z01_b, k102 hS, n102 hS]
              cases jb (pl p) j <;> simp (disch := omega) only [q_eM, q_Me, q_Mlt, q_Mle, q_leM, q_ltM, q_le, q_nle, q_lt, q_nlt, q_neq, zin_nI, nI_clamp, nI_add, pk_mul, pk_sub, mI_e, mI_n, mL_e, mL_n, mR_e, mR_n, i0, i1, ↓reduceIte, ↓bI_t, ↓bI_f, Bool.false_eq_true, eq_self, chk_true, bnd_just, bnd2_just, app_t, beq_self_eq_true, mK_wI, mK_wL, mK_wR, mK_wIr, mK_wLr, mN_wI, mN_wL, mN_wR, mN_wIr, mN_wLr, mR_wI, mR_wL, mR_wIr, mR_wLr, mI_wL, mI_wR, mI_wLr, mL_wI, mL_wR, mL_wIr, bndC_l, k102 hS, n102 hS] <;> rfl
          · show fX10_is N (wL M 102 0 (oB (jb x j))) 68 (nI j) (nI i) = _
            unfold fX10_is fX10_is_25 fX10_is_54 fX10_is_65
            rw [np3]
            have hi2 : i = 0 ∨ i = 1 := by omega
            rcases hi2 with rfl | rfl
            · have := hx0 rfl; subst this
              simp (disch := omega) only [q_eM, q_Me, q_Mlt, q_Mle, q_leM, q_ltM, q_le, q_nle, q_lt, q_nlt, q_neq, zin_nI, nI_clamp, nI_add, pk_mul, pk_sub, mI_e, mI_n, mL_e, mL_n, mR_e, mR_n, i0, i1, ↓reduceIte, ↓bI_t, ↓bI_f, Bool.false_eq_true, eq_self, chk_true, bnd_just, bnd2_just, app_t, beq_self_eq_true, mK_wI, mK_wL, mK_wR, mK_wIr, mK_wLr, mN_wI, mN_wL, mN_wR, mN_wIr, mN_wLr, mR_wI, mR_wL, mR_wIr, mR_wLr, mI_wL, mI_wR, mI_wLr, mL_wI, mL_wR, mL_wIr, sk_68 hS, sk_74 hS, sn_74 hS, sr_68_9 hS, g74, m_hasBit]
              cases jb (pf p) j <;> simp (disch := omega) only [q_eM, q_Me, q_Mlt, q_Mle, q_leM, q_ltM, q_le, q_nle, q_lt, q_nlt, q_neq, zin_nI, nI_clamp, nI_add, pk_mul, pk_sub, mI_e, mI_n, mL_e, mL_n, mR_e, mR_n, i0, i1, ↓reduceIte, ↓bI_t, ↓bI_f, Bool.false_eq_true, eq_self, chk_true, bnd_just, bnd2_just, app_t, beq_self_eq_true, mK_wI, mK_wL, mK_wR, mK_wIr, mK_wLr, mN_wI, mN_wL, mN_wR, mN_wIr, mN_wLr, mR_wI, mR_wL, mR_wIr, mR_wLr, mI_wL, mI_wR, mI_wLr, mL_wI, mL_wR, mL_wIr]
            · have := hx1 rfl; subst this
              simp (disch := omega) only [q_eM, q_Me, q_Mlt, q_Mle, q_leM, q_ltM, q_le, q_nle, q_lt, q_nlt, q_neq, zin_nI, nI_clamp, nI_add, pk_mul, pk_sub, mI_e, mI_n, mL_e, mL_n, mR_e, mR_n, i0, i1, ↓reduceIte, ↓bI_t, ↓bI_f, Bool.false_eq_true, eq_self, chk_true, bnd_just, bnd2_just, app_t, beq_self_eq_true, mK_wI, mK_wL, mK_wR, mK_wIr, mK_wLr, mN_wI, mN_wL, mN_wR, mN_wIr, mN_wLr, mR_wI, mR_wL, mR_wIr, mR_wLr, mI_wL, mI_wR, mI_wLr, mL_wI, mL_wR, mL_wIr, sk_68 hS, sk_75 hS, sn_75 hS, sr_68_10 hS, g75, m_hasBit]
              cases jb (pl p) j <;> simp (disch := omega) only [q_eM, q_Me, q_Mlt, q_Mle, q_leM, q_ltM, q_le, q_nle, q_lt, q_nlt, q_neq, zin_nI, nI_clamp, nI_add, pk_mul, pk_sub, mI_e, mI_n, mL_e, mL_n, mR_e, mR_n, i0, i1, ↓reduceIte, ↓bI_t, ↓bI_f, Bool.false_eq_true, eq_self, chk_true, bnd_just, bnd2_just, app_t, beq_self_eq_true, mK_wI, mK_wL, mK_wR, mK_wIr, mK_wLr, mN_wI, mN_wL, mN_wR, mN_wIr, mN_wLr, mR_wI, mR_wL, mR_wIr, mR_wLr, mI_wL, mI_wR, mI_wLr, mL_wI, mL_wR, mL_wIr]
          · show mL (wL M 102 0 (oB (jb x j))) 102 0 = _
            rw [mL_e rfl rfl]; rfl
        have hi2 : i = 0 ∨ i = 1 := by omega
        rcases hi2 with rfl | rfl
        · exact main (pf p) (fun _ => rfl) (fun q => by omega)
        · exact main (pl p) (fun q => by omega) (fun _ => rfl)
end ZCALLS
