/-! the law's loop, block by block; by program: wip/mk_law.py -/
section ZLAW
theorem lgs {x y : Int64} (h : x = y) : lg_cmp x y = nI 0 := by rw [(lg0 x y).mpr h]; rfl
theorem i31 : (31 : Int32) = nI 31 := by decide
/-- on to the next call -/
def Nxt (xs : Nat → Int32) (L : Nat) (k23 : zM → Nat → Nat → Nat → Nat → Int32 → Option (Int32 × zM)) (v : Nat) (r : Option (Int32 × zM)) : Prop := ∃ M2 cs ts cu ke, r = k23 M2 0 1 68 102 (nI (v + 4)) ∧ zInv xs L M2 cs ts cu ke
theorem l_258 {xs : Nat → Int32} {L : Nat} (hL : L ≤ 2048) {M : zM} {cs ts : List Nat} {cu ke : Option zPt} (h : zInv xs L M cs ts cu ke) (k23 : zM → Nat → Nat → Nat → Nat → Int32 → Option (Int32 × zM)) {v : Nat} (hv : v + 4 ≤ L) (N : Nat) (hN : 500000 ≤ N) : Nxt xs L k23 v (fL_law_258 N k23 M 0 1 68 102 (nI v)) := by
  obtain ⟨k, b, M1, M2, cs', ts', cu', ke', e1, hk, ⟨hS1, zn1, zx1⟩, e2, e3, e4, hI⟩ := b_positions h N
  have e2' : fX10_positions N M1 68 = some (b, M2) := e2
  have hS2 := hI.sta
  have zn0 := h.2.1.1
  have zx0 := h.2.1.2
  refine ⟨M2, cs', ts', cu', ke', ?_, hI⟩
  unfold fL_law_258 fL_law_299 fL_law_1213 fX10_thrown
  by_cases hk0 : k = 0
  · subst hk0
    simp (disch := omega) only [q_eM, q_Me, q_Mlt, q_Mle, q_leM, q_ltM, q_le, q_nle, q_lt, q_nlt, q_neq, zin_nI, nI_clamp, nI_add, pk_mul, pk_sub, mI_e, mI_n, mL_e, mL_n, mR_e, mR_n, i0, i1, ↓reduceIte, ↓bI_t, ↓bI_f, Bool.false_eq_true, eq_self, chk_true, bnd_just, bnd2_just, app_t, beq_self_eq_true, mK_wI, mK_wL, mK_wR, mK_wIr, mK_wLr, mN_wI, mN_wL, mN_wR, mN_wIr, mN_wLr, mR_wI, mR_wL, mR_wIr, mR_wLr, mI_wL, mI_wR, mI_wLr, mL_wI, mL_wR, mL_wIr, il_2, il_3, i4, zn0, zx0, zn1, zx1, e1, sk_68 hS1, e2', sk_68 hS2, e3, k102 hS2, n102 hS2, lgs (e4 rfl)]
  · simp (disch := omega) only [q_eM, q_Me, q_Mlt, q_Mle, q_leM, q_ltM, q_le, q_nle, q_lt, q_nlt, q_neq, zin_nI, nI_clamp, nI_add, pk_mul, pk_sub, mI_e, mI_n, mL_e, mL_n, mR_e, mR_n, i0, i1, ↓reduceIte, ↓bI_t, ↓bI_f, Bool.false_eq_true, eq_self, chk_true, bnd_just, bnd2_just, app_t, beq_self_eq_true, mK_wI, mK_wL, mK_wR, mK_wIr, mK_wLr, mN_wI, mN_wL, mN_wR, mN_wIr, mN_wLr, mR_wI, mR_wL, mR_wIr, mR_wLr, mI_wL, mI_wR, mI_wLr, mL_wI, mL_wR, mL_wIr, il_2, il_3, i4, zn0, zx0, zn1, zx1, e1, sk_68 hS1, e2', sk_68 hS2, e3]
theorem l_742 {xs : Nat → Int32} {L : Nat} (hL : L ≤ 2048) {M : zM} {cs ts : List Nat} {cu ke : Option zPt} (h : zInv xs L M cs ts cu ke) (k23 : zM → Nat → Nat → Nat → Nat → Int32 → Option (Int32 × zM)) {v : Nat} (hv : v + 4 ≤ L) (N : Nat) (hN : 500000 ≤ N) : Nxt xs L k23 v (fL_law_742 N k23 M 0 1 68 102 (nI v)) := by
  obtain ⟨k, b, M1, M2, cs', ts', cu', ke', e1, hk, ⟨hS1, zn1, zx1⟩, e2, e3, e4, hI⟩ := b_finds h N (by omega)
  have e2' : fX10_finds N M1 68 = some (b, M2) := e2
  have hS2 := hI.sta
  have zn0 := h.2.1.1
  have zx0 := h.2.1.2
  refine ⟨M2, cs', ts', cu', ke', ?_, hI⟩
  unfold fL_law_742 fL_law_783 fL_law_1213 fX10_thrown
  by_cases hk0 : k = 0
  · subst hk0
    simp (disch := omega) only [q_eM, q_Me, q_Mlt, q_Mle, q_leM, q_ltM, q_le, q_nle, q_lt, q_nlt, q_neq, zin_nI, nI_clamp, nI_add, pk_mul, pk_sub, mI_e, mI_n, mL_e, mL_n, mR_e, mR_n, i0, i1, ↓reduceIte, ↓bI_t, ↓bI_f, Bool.false_eq_true, eq_self, chk_true, bnd_just, bnd2_just, app_t, beq_self_eq_true, mK_wI, mK_wL, mK_wR, mK_wIr, mK_wLr, mN_wI, mN_wL, mN_wR, mN_wIr, mN_wLr, mR_wI, mR_wL, mR_wIr, mR_wLr, mI_wL, mI_wR, mI_wLr, mL_wI, mL_wR, mL_wIr, il_2, il_3, i4, zn0, zx0, zn1, zx1, e1, sk_68 hS1, e2', sk_68 hS2, e3, k102 hS2, n102 hS2, lgs (e4 rfl)]
  · simp (disch := omega) only [q_eM, q_Me, q_Mlt, q_Mle, q_leM, q_ltM, q_le, q_nle, q_lt, q_nlt, q_neq, zin_nI, nI_clamp, nI_add, pk_mul, pk_sub, mI_e, mI_n, mL_e, mL_n, mR_e, mR_n, i0, i1, ↓reduceIte, ↓bI_t, ↓bI_f, Bool.false_eq_true, eq_self, chk_true, bnd_just, bnd2_just, app_t, beq_self_eq_true, mK_wI, mK_wL, mK_wR, mK_wIr, mK_wLr, mN_wI, mN_wL, mN_wR, mN_wIr, mN_wLr, mR_wI, mR_wL, mR_wIr, mR_wLr, mI_wL, mI_wR, mI_wLr, mL_wI, mL_wR, mL_wIr, il_2, il_3, i4, zn0, zx0, zn1, zx1, e1, sk_68 hS1, e2', sk_68 hS2, e3]
theorem l_870 {xs : Nat → Int32} {L : Nat} (hL : L ≤ 2048) {M : zM} {cs ts : List Nat} {cu ke : Option zPt} (h : zInv xs L M cs ts cu ke) (k23 : zM → Nat → Nat → Nat → Nat → Int32 → Option (Int32 × zM)) {v : Nat} (hv : v + 4 ≤ L) (N : Nat) (hN : 500000 ≤ N) : Nxt xs L k23 v (fL_law_870 N k23 M 0 1 68 102 (nI v)) := by
  obtain ⟨k, b, M1, M2, cs', ts', cu', ke', e1, hk, ⟨hS1, zn1, zx1⟩, e2, e3, e4, hI⟩ := b_states h N (by omega)
  have e2' : fX10_states N M1 68 = some (b, M2) := e2
  have hS2 := hI.sta
  have zn0 := h.2.1.1
  have zx0 := h.2.1.2
  refine ⟨M2, cs', ts', cu', ke', ?_, hI⟩
  unfold fL_law_870 fL_law_911 fL_law_1213 fX10_thrown
  by_cases hk0 : k = 0
  · subst hk0
    simp (disch := omega) only [q_eM, q_Me, q_Mlt, q_Mle, q_leM, q_ltM, q_le, q_nle, q_lt, q_nlt, q_neq, zin_nI, nI_clamp, nI_add, pk_mul, pk_sub, mI_e, mI_n, mL_e, mL_n, mR_e, mR_n, i0, i1, ↓reduceIte, ↓bI_t, ↓bI_f, Bool.false_eq_true, eq_self, chk_true, bnd_just, bnd2_just, app_t, beq_self_eq_true, mK_wI, mK_wL, mK_wR, mK_wIr, mK_wLr, mN_wI, mN_wL, mN_wR, mN_wIr, mN_wLr, mR_wI, mR_wL, mR_wIr, mR_wLr, mI_wL, mI_wR, mI_wLr, mL_wI, mL_wR, mL_wIr, il_2, il_3, i4, zn0, zx0, zn1, zx1, e1, sk_68 hS1, e2', sk_68 hS2, e3, k102 hS2, n102 hS2, lgs (e4 rfl)]
  · simp (disch := omega) only [q_eM, q_Me, q_Mlt, q_Mle, q_leM, q_ltM, q_le, q_nle, q_lt, q_nlt, q_neq, zin_nI, nI_clamp, nI_add, pk_mul, pk_sub, mI_e, mI_n, mL_e, mL_n, mR_e, mR_n, i0, i1, ↓reduceIte, ↓bI_t, ↓bI_f, Bool.false_eq_true, eq_self, chk_true, bnd_just, bnd2_just, app_t, beq_self_eq_true, mK_wI, mK_wL, mK_wR, mK_wIr, mK_wLr, mN_wI, mN_wL, mN_wR, mN_wIr, mN_wLr, mR_wI, mR_wL, mR_wIr, mR_wLr, mI_wL, mI_wR, mI_wLr, mL_wI, mL_wR, mL_wIr, il_2, il_3, i4, zn0, zx0, zn1, zx1, e1, sk_68 hS1, e2', sk_68 hS2, e3]
theorem l_1045 {xs : Nat → Int32} {L : Nat} (hL : L ≤ 2048) {M : zM} {cs ts : List Nat} {cu ke : Option zPt} (h : zInv xs L M cs ts cu ke) (k23 : zM → Nat → Nat → Nat → Nat → Int32 → Option (Int32 × zM)) {v : Nat} (hv : v + 4 ≤ L) (N : Nat) (hN : 500000 ≤ N) : Nxt xs L k23 v (fL_law_1045 N k23 M 0 1 68 102 (nI v)) := by
  obtain ⟨k, b, M1, M2, cs', ts', cu', ke', e1, hk, ⟨hS1, zn1, zx1⟩, e2, e3, e4, hI⟩ := b_classes h N (by omega)
  have e2' : fX10_classes N M1 68 = some (b, M2) := e2
  have hS2 := hI.sta
  have zn0 := h.2.1.1
  have zx0 := h.2.1.2
  refine ⟨M2, cs', ts', cu', ke', ?_, hI⟩
  unfold fL_law_1045 fL_law_1086 fL_law_1213 fX10_thrown
  by_cases hk0 : k = 0
  · subst hk0
    simp (disch := omega) only [q_eM, q_Me, q_Mlt, q_Mle, q_leM, q_ltM, q_le, q_nle, q_lt, q_nlt, q_neq, zin_nI, nI_clamp, nI_add, pk_mul, pk_sub, mI_e, mI_n, mL_e, mL_n, mR_e, mR_n, i0, i1, ↓reduceIte, ↓bI_t, ↓bI_f, Bool.false_eq_true, eq_self, chk_true, bnd_just, bnd2_just, app_t, beq_self_eq_true, mK_wI, mK_wL, mK_wR, mK_wIr, mK_wLr, mN_wI, mN_wL, mN_wR, mN_wIr, mN_wLr, mR_wI, mR_wL, mR_wIr, mR_wLr, mI_wL, mI_wR, mI_wLr, mL_wI, mL_wR, mL_wIr, il_2, il_3, i4, zn0, zx0, zn1, zx1, e1, sk_68 hS1, e2', sk_68 hS2, e3, k102 hS2, n102 hS2, lgs (e4 rfl)]
  · simp (disch := omega) only [q_eM, q_Me, q_Mlt, q_Mle, q_leM, q_ltM, q_le, q_nle, q_lt, q_nlt, q_neq, zin_nI, nI_clamp, nI_add, pk_mul, pk_sub, mI_e, mI_n, mL_e, mL_n, mR_e, mR_n, i0, i1, ↓reduceIte, ↓bI_t, ↓bI_f, Bool.false_eq_true, eq_self, chk_true, bnd_just, bnd2_just, app_t, beq_self_eq_true, mK_wI, mK_wL, mK_wR, mK_wIr, mK_wLr, mN_wI, mN_wL, mN_wR, mN_wIr, mN_wLr, mR_wI, mR_wL, mR_wIr, mR_wLr, mI_wL, mI_wR, mI_wLr, mL_wI, mL_wR, mL_wIr, il_2, il_3, i4, zn0, zx0, zn1, zx1, e1, sk_68 hS1, e2', sk_68 hS2, e3]
theorem l_1113 {xs : Nat → Int32} {L : Nat} (hL : L ≤ 2048) {M : zM} {cs ts : List Nat} {cu ke : Option zPt} (h : zInv xs L M cs ts cu ke) (k23 : zM → Nat → Nat → Nat → Nat → Int32 → Option (Int32 × zM)) {v : Nat} (hv : v + 4 ≤ L) (N : Nat) (hN : 500000 ≤ N) : Nxt xs L k23 v (fL_law_1113 N k23 M 0 1 68 102 (nI v)) := by
  obtain ⟨k, b, M1, M2, cs', ts', cu', ke', e1, hk, ⟨hS1, zn1, zx1⟩, e2, e3, e4, hI⟩ := b_differ h N (by omega)
  have e2' : fX10_differ N M1 68 = some (b, M2) := e2
  have hS2 := hI.sta
  have zn0 := h.2.1.1
  have zx0 := h.2.1.2
  refine ⟨M2, cs', ts', cu', ke', ?_, hI⟩
  unfold fL_law_1113 fL_law_1154 fL_law_1213 fX10_thrown
  by_cases hk0 : k = 0
  · subst hk0
    simp (disch := omega) only [q_eM, q_Me, q_Mlt, q_Mle, q_leM, q_ltM, q_le, q_nle, q_lt, q_nlt, q_neq, zin_nI, nI_clamp, nI_add, pk_mul, pk_sub, mI_e, mI_n, mL_e, mL_n, mR_e, mR_n, i0, i1, ↓reduceIte, ↓bI_t, ↓bI_f, Bool.false_eq_true, eq_self, chk_true, bnd_just, bnd2_just, app_t, beq_self_eq_true, mK_wI, mK_wL, mK_wR, mK_wIr, mK_wLr, mN_wI, mN_wL, mN_wR, mN_wIr, mN_wLr, mR_wI, mR_wL, mR_wIr, mR_wLr, mI_wL, mI_wR, mI_wLr, mL_wI, mL_wR, mL_wIr, il_2, il_3, i4, zn0, zx0, zn1, zx1, e1, sk_68 hS1, e2', sk_68 hS2, e3, k102 hS2, n102 hS2, lgs (e4 rfl)]
  · simp (disch := omega) only [q_eM, q_Me, q_Mlt, q_Mle, q_leM, q_ltM, q_le, q_nle, q_lt, q_nlt, q_neq, zin_nI, nI_clamp, nI_add, pk_mul, pk_sub, mI_e, mI_n, mL_e, mL_n, mR_e, mR_n, i0, i1, ↓reduceIte, ↓bI_t, ↓bI_f, Bool.false_eq_true, eq_self, chk_true, bnd_just, bnd2_just, app_t, beq_self_eq_true, mK_wI, mK_wL, mK_wR, mK_wIr, mK_wLr, mN_wI, mN_wL, mN_wR, mN_wIr, mN_wLr, mR_wI, mR_wL, mR_wIr, mR_wLr, mI_wL, mI_wR, mI_wLr, mL_wI, mL_wR, mL_wIr, il_2, il_3, i4, zn0, zx0, zn1, zx1, e1, sk_68 hS1, e2', sk_68 hS2, e3]
theorem l_302 {xs : Nat → Int32} {L : Nat} (hL : L ≤ 2048) {M : zM} {cs ts : List Nat} {cu ke : Option zPt} (h : zInv xs L M cs ts cu ke) (k23 : zM → Nat → Nat → Nat → Nat → Int32 → Option (Int32 × zM)) {v : Nat} (hv : v + 4 ≤ L) (N : Nat) (hN : 500000 ≤ N) : Nxt xs L k23 v (fL_law_302 N k23 M 0 1 68 102 (nI v)) := by
  obtain ⟨k, b, M1, M2, cs', ts', cu', ke', e1, hk, ⟨hS1, zn1, zx1⟩, e2, e3, e4, hI⟩ := b_empty h N
  have e2' : fX10_empty N M1 68 = some (bI b, M2) := e2
  have hS2 := hI.sta
  have zn0 := h.2.1.1
  have zx0 := h.2.1.2
  refine ⟨M2, cs', ts', cu', ke', ?_, hI⟩
  unfold fL_law_302 fL_law_344 fL_law_350 fL_law_1213 fX10_thrown
  by_cases hk0 : k = 0
  · subst hk0
    have e5 := e4 rfl
    cases b with
    | false =>
      rw [if_neg (by decide)] at e5
      simp (disch := omega) only [q_eM, q_Me, q_Mlt, q_Mle, q_leM, q_ltM, q_le, q_nle, q_lt, q_nlt, q_neq, zin_nI, nI_clamp, nI_add, pk_mul, pk_sub, mI_e, mI_n, mL_e, mL_n, mR_e, mR_n, i0, i1, ↓reduceIte, ↓bI_t, ↓bI_f, Bool.false_eq_true, eq_self, chk_true, bnd_just, bnd2_just, app_t, beq_self_eq_true, mK_wI, mK_wL, mK_wR, mK_wIr, mK_wLr, mN_wI, mN_wL, mN_wR, mN_wIr, mN_wLr, mR_wI, mR_wL, mR_wIr, mR_wLr, mI_wL, mI_wR, mI_wLr, mL_wI, mL_wR, mL_wIr, il_2, il_3, i4, zn0, zx0, zn1, zx1, e1, sk_68 hS1, e2', sk_68 hS2, e3, k102 hS2, n102 hS2, lgs e5]
    | true =>
      rw [if_pos rfl] at e5
      simp (disch := omega) only [q_eM, q_Me, q_Mlt, q_Mle, q_leM, q_ltM, q_le, q_nle, q_lt, q_nlt, q_neq, zin_nI, nI_clamp, nI_add, pk_mul, pk_sub, mI_e, mI_n, mL_e, mL_n, mR_e, mR_n, i0, i1, ↓reduceIte, ↓bI_t, ↓bI_f, Bool.false_eq_true, eq_self, chk_true, bnd_just, bnd2_just, app_t, beq_self_eq_true, mK_wI, mK_wL, mK_wR, mK_wIr, mK_wLr, mN_wI, mN_wL, mN_wR, mN_wIr, mN_wLr, mR_wI, mR_wL, mR_wIr, mR_wLr, mI_wL, mI_wR, mI_wLr, mL_wI, mL_wR, mL_wIr, il_2, il_3, i4, zn0, zx0, zn1, zx1, e1, sk_68 hS1, e2', sk_68 hS2, e3, k102 hS2, n102 hS2, lgs e5]
  · simp (disch := omega) only [q_eM, q_Me, q_Mlt, q_Mle, q_leM, q_ltM, q_le, q_nle, q_lt, q_nlt, q_neq, zin_nI, nI_clamp, nI_add, pk_mul, pk_sub, mI_e, mI_n, mL_e, mL_n, mR_e, mR_n, i0, i1, ↓reduceIte, ↓bI_t, ↓bI_f, Bool.false_eq_true, eq_self, chk_true, bnd_just, bnd2_just, app_t, beq_self_eq_true, mK_wI, mK_wL, mK_wR, mK_wIr, mK_wLr, mN_wI, mN_wL, mN_wR, mN_wIr, mN_wLr, mR_wI, mR_wL, mR_wIr, mR_wLr, mI_wL, mI_wR, mI_wLr, mL_wI, mL_wR, mL_wIr, il_2, il_3, i4, zn0, zx0, zn1, zx1, e1, sk_68 hS1, e2', sk_68 hS2, e3]
theorem l_691 {xs : Nat → Int32} {L : Nat} (hL : L ≤ 2048) {M : zM} {cs ts : List Nat} {cu ke : Option zPt} (h : zInv xs L M cs ts cu ke) (k23 : zM → Nat → Nat → Nat → Nat → Int32 → Option (Int32 × zM)) {v : Nat} (hv : v + 4 ≤ L) (N : Nat) (hN : 500000 ≤ N) : Nxt xs L k23 v (fL_law_691 N k23 M 0 1 68 102 (nI v)) := by
  obtain ⟨k, b, M1, M2, cs', ts', cu', ke', e1, hk, ⟨hS1, zn1, zx1⟩, e2, e3, e4, hI⟩ := b_whole h N (by omega)
  have e2' : fX10_whole N M1 68 = some (bI b, M2) := e2
  have hS2 := hI.sta
  have zn0 := h.2.1.1
  have zx0 := h.2.1.2
  refine ⟨M2, cs', ts', cu', ke', ?_, hI⟩
  unfold fL_law_691 fL_law_733 fL_law_739 fL_law_1213 fX10_thrown
  by_cases hk0 : k = 0
  · subst hk0
    have e5 := e4 rfl
    cases b with
    | false =>
      rw [if_neg (by decide)] at e5
      simp (disch := omega) only [q_eM, q_Me, q_Mlt, q_Mle, q_leM, q_ltM, q_le, q_nle, q_lt, q_nlt, q_neq, zin_nI, nI_clamp, nI_add, pk_mul, pk_sub, mI_e, mI_n, mL_e, mL_n, mR_e, mR_n, i0, i1, ↓reduceIte, ↓bI_t, ↓bI_f, Bool.false_eq_true, eq_self, chk_true, bnd_just, bnd2_just, app_t, beq_self_eq_true, mK_wI, mK_wL, mK_wR, mK_wIr, mK_wLr, mN_wI, mN_wL, mN_wR, mN_wIr, mN_wLr, mR_wI, mR_wL, mR_wIr, mR_wLr, mI_wL, mI_wR, mI_wLr, mL_wI, mL_wR, mL_wIr, il_2, il_3, i4, zn0, zx0, zn1, zx1, e1, sk_68 hS1, e2', sk_68 hS2, e3, k102 hS2, n102 hS2, lgs e5]
    | true =>
      rw [if_pos rfl] at e5
      simp (disch := omega) only [q_eM, q_Me, q_Mlt, q_Mle, q_leM, q_ltM, q_le, q_nle, q_lt, q_nlt, q_neq, zin_nI, nI_clamp, nI_add, pk_mul, pk_sub, mI_e, mI_n, mL_e, mL_n, mR_e, mR_n, i0, i1, ↓reduceIte, ↓bI_t, ↓bI_f, Bool.false_eq_true, eq_self, chk_true, bnd_just, bnd2_just, app_t, beq_self_eq_true, mK_wI, mK_wL, mK_wR, mK_wIr, mK_wLr, mN_wI, mN_wL, mN_wR, mN_wIr, mN_wLr, mR_wI, mR_wL, mR_wIr, mR_wLr, mI_wL, mI_wR, mI_wLr, mL_wI, mL_wR, mL_wIr, il_2, il_3, i4, zn0, zx0, zn1, zx1, e1, sk_68 hS1, e2', sk_68 hS2, e3, k102 hS2, n102 hS2, lgs e5]
  · simp (disch := omega) only [q_eM, q_Me, q_Mlt, q_Mle, q_leM, q_ltM, q_le, q_nle, q_lt, q_nlt, q_neq, zin_nI, nI_clamp, nI_add, pk_mul, pk_sub, mI_e, mI_n, mL_e, mL_n, mR_e, mR_n, i0, i1, ↓reduceIte, ↓bI_t, ↓bI_f, Bool.false_eq_true, eq_self, chk_true, bnd_just, bnd2_just, app_t, beq_self_eq_true, mK_wI, mK_wL, mK_wR, mK_wIr, mK_wLr, mN_wI, mN_wL, mN_wR, mN_wIr, mN_wLr, mR_wI, mR_wL, mR_wIr, mR_wLr, mI_wL, mI_wR, mI_wLr, mL_wI, mL_wR, mL_wIr, il_2, il_3, i4, zn0, zx0, zn1, zx1, e1, sk_68 hS1, e2', sk_68 hS2, e3]
theorem l_353 {xs : Nat → Int32} {L : Nat} (hL : L ≤ 2048) {M : zM} {cs ts : List Nat} {cu ke : Option zPt} (h : zInv xs L M cs ts cu ke) (k23 : zM → Nat → Nat → Nat → Nat → Int32 → Option (Int32 × zM)) {v : Nat} (hv : v + 4 ≤ L) (N : Nat) (hN : 500000 ≤ N) : Nxt xs L k23 v (fL_law_353 N k23 M 0 1 68 102 (nI v)) := by
  obtain ⟨k, b, M1, M2, cs', ts', cu', ke', e1, hk, ⟨hS1, zn1, zx1⟩, e2, e3, e4, hI⟩ := b_is h (xs (v + 1)) (xs (v + 2)) N
  have e2' : fX10_is N M1 68 (xs (v + 1)) (xs (v + 2)) = some (bI b, M2) := e2
  have hS2 := hI.sta
  have zn0 := h.2.1.1
  have zx0 := h.2.1.2
  refine ⟨M2, cs', ts', cu', ke', ?_, hI⟩
  unfold fL_law_353 fL_law_419 fL_law_425 fL_law_1213 fX10_thrown
  by_cases hk0 : k = 0
  · subst hk0
    have e5 := e4 rfl
    cases b with
    | false =>
      rw [if_neg (by decide)] at e5
      simp (disch := omega) only [q_eM, q_Me, q_Mlt, q_Mle, q_leM, q_ltM, q_le, q_nle, q_lt, q_nlt, q_neq, zin_nI, nI_clamp, nI_add, pk_mul, pk_sub, mI_e, mI_n, mL_e, mL_n, mR_e, mR_n, i0, i1, ↓reduceIte, ↓bI_t, ↓bI_f, Bool.false_eq_true, eq_self, chk_true, bnd_just, bnd2_just, app_t, beq_self_eq_true, mK_wI, mK_wL, mK_wR, mK_wIr, mK_wLr, mN_wI, mN_wL, mN_wR, mN_wIr, mN_wLr, mR_wI, mR_wL, mR_wIr, mR_wLr, mI_wL, mI_wR, mI_wLr, mL_wI, mL_wR, mL_wIr, il_2, il_3, i4, zn0, zx0, zn1, zx1, e1, sk_68 hS1, e2', sk_68 hS2, e3, k102 hS2, n102 hS2, lgs e5]
    | true =>
      rw [if_pos rfl] at e5
      simp (disch := omega) only [q_eM, q_Me, q_Mlt, q_Mle, q_leM, q_ltM, q_le, q_nle, q_lt, q_nlt, q_neq, zin_nI, nI_clamp, nI_add, pk_mul, pk_sub, mI_e, mI_n, mL_e, mL_n, mR_e, mR_n, i0, i1, ↓reduceIte, ↓bI_t, ↓bI_f, Bool.false_eq_true, eq_self, chk_true, bnd_just, bnd2_just, app_t, beq_self_eq_true, mK_wI, mK_wL, mK_wR, mK_wIr, mK_wLr, mN_wI, mN_wL, mN_wR, mN_wIr, mN_wLr, mR_wI, mR_wL, mR_wIr, mR_wLr, mI_wL, mI_wR, mI_wLr, mL_wI, mL_wR, mL_wIr, il_2, il_3, i4, zn0, zx0, zn1, zx1, e1, sk_68 hS1, e2', sk_68 hS2, e3, k102 hS2, n102 hS2, lgs e5]
  · simp (disch := omega) only [q_eM, q_Me, q_Mlt, q_Mle, q_leM, q_ltM, q_le, q_nle, q_lt, q_nlt, q_neq, zin_nI, nI_clamp, nI_add, pk_mul, pk_sub, mI_e, mI_n, mL_e, mL_n, mR_e, mR_n, i0, i1, ↓reduceIte, ↓bI_t, ↓bI_f, Bool.false_eq_true, eq_self, chk_true, bnd_just, bnd2_just, app_t, beq_self_eq_true, mK_wI, mK_wL, mK_wR, mK_wIr, mK_wLr, mN_wI, mN_wL, mN_wR, mN_wIr, mN_wLr, mR_wI, mR_wL, mR_wIr, mR_wLr, mI_wL, mI_wR, mI_wLr, mL_wI, mL_wR, mL_wIr, il_2, il_3, i4, zn0, zx0, zn1, zx1, e1, sk_68 hS1, e2', sk_68 hS2, e3]
theorem l_428 {xs : Nat → Int32} {L : Nat} (hL : L ≤ 2048) {M : zM} {cs ts : List Nat} {cu ke : Option zPt} (h : zInv xs L M cs ts cu ke) (k23 : zM → Nat → Nat → Nat → Nat → Int32 → Option (Int32 × zM)) {v : Nat} (hv : v + 4 ≤ L) (N : Nat) (hN : 500000 ≤ N) : Nxt xs L k23 v (fL_law_428 N k23 M 0 1 68 102 (nI v)) := by
  obtain ⟨k, b, M1, M2, cs', ts', cu', ke', e1, hk, ⟨hS1, zn1, zx1⟩, e2, e3, e4, hI⟩ := b_follows h (xs (v + 1)) (xs (v + 2)) N
  have e2' : fX10_follows N M1 68 (xs (v + 1)) (xs (v + 2)) = some (bI b, M2) := e2
  have hS2 := hI.sta
  have zn0 := h.2.1.1
  have zx0 := h.2.1.2
  refine ⟨M2, cs', ts', cu', ke', ?_, hI⟩
  unfold fL_law_428 fL_law_494 fL_law_500 fL_law_1213 fX10_thrown
  by_cases hk0 : k = 0
  · subst hk0
    have e5 := e4 rfl
    cases b with
    | false =>
      rw [if_neg (by decide)] at e5
      simp (disch := omega) only [q_eM, q_Me, q_Mlt, q_Mle, q_leM, q_ltM, q_le, q_nle, q_lt, q_nlt, q_neq, zin_nI, nI_clamp, nI_add, pk_mul, pk_sub, mI_e, mI_n, mL_e, mL_n, mR_e, mR_n, i0, i1, ↓reduceIte, ↓bI_t, ↓bI_f, Bool.false_eq_true, eq_self, chk_true, bnd_just, bnd2_just, app_t, beq_self_eq_true, mK_wI, mK_wL, mK_wR, mK_wIr, mK_wLr, mN_wI, mN_wL, mN_wR, mN_wIr, mN_wLr, mR_wI, mR_wL, mR_wIr, mR_wLr, mI_wL, mI_wR, mI_wLr, mL_wI, mL_wR, mL_wIr, il_2, il_3, i4, zn0, zx0, zn1, zx1, e1, sk_68 hS1, e2', sk_68 hS2, e3, k102 hS2, n102 hS2, lgs e5]
    | true =>
      rw [if_pos rfl] at e5
      simp (disch := omega) only [q_eM, q_Me, q_Mlt, q_Mle, q_leM, q_ltM, q_le, q_nle, q_lt, q_nlt, q_neq, zin_nI, nI_clamp, nI_add, pk_mul, pk_sub, mI_e, mI_n, mL_e, mL_n, mR_e, mR_n, i0, i1, ↓reduceIte, ↓bI_t, ↓bI_f, Bool.false_eq_true, eq_self, chk_true, bnd_just, bnd2_just, app_t, beq_self_eq_true, mK_wI, mK_wL, mK_wR, mK_wIr, mK_wLr, mN_wI, mN_wL, mN_wR, mN_wIr, mN_wLr, mR_wI, mR_wL, mR_wIr, mR_wLr, mI_wL, mI_wR, mI_wLr, mL_wI, mL_wR, mL_wIr, il_2, il_3, i4, zn0, zx0, zn1, zx1, e1, sk_68 hS1, e2', sk_68 hS2, e3, k102 hS2, n102 hS2, lgs e5]
  · simp (disch := omega) only [q_eM, q_Me, q_Mlt, q_Mle, q_leM, q_ltM, q_le, q_nle, q_lt, q_nlt, q_neq, zin_nI, nI_clamp, nI_add, pk_mul, pk_sub, mI_e, mI_n, mL_e, mL_n, mR_e, mR_n, i0, i1, ↓reduceIte, ↓bI_t, ↓bI_f, Bool.false_eq_true, eq_self, chk_true, bnd_just, bnd2_just, app_t, beq_self_eq_true, mK_wI, mK_wL, mK_wR, mK_wIr, mK_wLr, mN_wI, mN_wL, mN_wR, mN_wIr, mN_wLr, mR_wI, mR_wL, mR_wIr, mR_wLr, mI_wL, mI_wR, mI_wLr, mL_wI, mL_wR, mL_wIr, il_2, il_3, i4, zn0, zx0, zn1, zx1, e1, sk_68 hS1, e2', sk_68 hS2, e3]
theorem l_503 {xs : Nat → Int32} {L : Nat} (hL : L ≤ 2048) {M : zM} {cs ts : List Nat} {cu ke : Option zPt} (h : zInv xs L M cs ts cu ke) (k23 : zM → Nat → Nat → Nat → Nat → Int32 → Option (Int32 × zM)) {v : Nat} (hv : v + 4 ≤ L) (N : Nat) (hN : 500000 ≤ N) : Nxt xs L k23 v (fL_law_503 N k23 M 0 1 68 102 (nI v)) := by
  obtain ⟨k, b, M1, M2, cs', ts', cu', ke', e1, hk, ⟨hS1, zn1, zx1⟩, e2, e3, e4, hI⟩ := b_has h (xs (v + 1)) (xs (v + 2)) N
  have e2' : fX10_has N M1 68 (xs (v + 1)) (xs (v + 2)) = some (bI b, M2) := e2
  have hS2 := hI.sta
  have zn0 := h.2.1.1
  have zx0 := h.2.1.2
  refine ⟨M2, cs', ts', cu', ke', ?_, hI⟩
  unfold fL_law_503 fL_law_569 fL_law_575 fL_law_1213 fX10_thrown
  by_cases hk0 : k = 0
  · subst hk0
    have e5 := e4 rfl
    cases b with
    | false =>
      rw [if_neg (by decide)] at e5
      simp (disch := omega) only [q_eM, q_Me, q_Mlt, q_Mle, q_leM, q_ltM, q_le, q_nle, q_lt, q_nlt, q_neq, zin_nI, nI_clamp, nI_add, pk_mul, pk_sub, mI_e, mI_n, mL_e, mL_n, mR_e, mR_n, i0, i1, ↓reduceIte, ↓bI_t, ↓bI_f, Bool.false_eq_true, eq_self, chk_true, bnd_just, bnd2_just, app_t, beq_self_eq_true, mK_wI, mK_wL, mK_wR, mK_wIr, mK_wLr, mN_wI, mN_wL, mN_wR, mN_wIr, mN_wLr, mR_wI, mR_wL, mR_wIr, mR_wLr, mI_wL, mI_wR, mI_wLr, mL_wI, mL_wR, mL_wIr, il_2, il_3, i4, zn0, zx0, zn1, zx1, e1, sk_68 hS1, e2', sk_68 hS2, e3, k102 hS2, n102 hS2, lgs e5]
    | true =>
      rw [if_pos rfl] at e5
      simp (disch := omega) only [q_eM, q_Me, q_Mlt, q_Mle, q_leM, q_ltM, q_le, q_nle, q_lt, q_nlt, q_neq, zin_nI, nI_clamp, nI_add, pk_mul, pk_sub, mI_e, mI_n, mL_e, mL_n, mR_e, mR_n, i0, i1, ↓reduceIte, ↓bI_t, ↓bI_f, Bool.false_eq_true, eq_self, chk_true, bnd_just, bnd2_just, app_t, beq_self_eq_true, mK_wI, mK_wL, mK_wR, mK_wIr, mK_wLr, mN_wI, mN_wL, mN_wR, mN_wIr, mN_wLr, mR_wI, mR_wL, mR_wIr, mR_wLr, mI_wL, mI_wR, mI_wLr, mL_wI, mL_wR, mL_wIr, il_2, il_3, i4, zn0, zx0, zn1, zx1, e1, sk_68 hS1, e2', sk_68 hS2, e3, k102 hS2, n102 hS2, lgs e5]
  · simp (disch := omega) only [q_eM, q_Me, q_Mlt, q_Mle, q_leM, q_ltM, q_le, q_nle, q_lt, q_nlt, q_neq, zin_nI, nI_clamp, nI_add, pk_mul, pk_sub, mI_e, mI_n, mL_e, mL_n, mR_e, mR_n, i0, i1, ↓reduceIte, ↓bI_t, ↓bI_f, Bool.false_eq_true, eq_self, chk_true, bnd_just, bnd2_just, app_t, beq_self_eq_true, mK_wI, mK_wL, mK_wR, mK_wIr, mK_wLr, mN_wI, mN_wL, mN_wR, mN_wIr, mN_wLr, mR_wI, mR_wL, mR_wIr, mR_wLr, mI_wL, mI_wR, mI_wLr, mL_wI, mL_wR, mL_wIr, il_2, il_3, i4, zn0, zx0, zn1, zx1, e1, sk_68 hS1, e2', sk_68 hS2, e3]
theorem l_914 {xs : Nat → Int32} {L : Nat} (hL : L ≤ 2048) {M : zM} {cs ts : List Nat} {cu ke : Option zPt} (h : zInv xs L M cs ts cu ke) (k23 : zM → Nat → Nat → Nat → Nat → Int32 → Option (Int32 × zM)) {v : Nat} (hv : v + 4 ≤ L) (N : Nat) (hN : 500000 ≤ N) : Nxt xs L k23 v (fL_law_914 N k23 M 0 1 68 102 (nI v)) := by
  obtain ⟨k, b, M1, M2, cs', ts', cu', ke', e1, hk, ⟨hS1, zn1, zx1⟩, e2, e3, e4, hI⟩ := b_next h (xs (v + 1)) (xs (v + 2)) N (by omega)
  have e2' : fX10_next N M1 68 (xs (v + 1)) (xs (v + 2)) = some (b, M2) := e2
  have hS2 := hI.sta
  have zn0 := h.2.1.1
  have zx0 := h.2.1.2
  refine ⟨M2, cs', ts', cu', ke', ?_, hI⟩
  unfold fL_law_914 fL_law_979 fL_law_1213 fX10_thrown
  by_cases hk0 : k = 0
  · subst hk0
    simp (disch := omega) only [q_eM, q_Me, q_Mlt, q_Mle, q_leM, q_ltM, q_le, q_nle, q_lt, q_nlt, q_neq, zin_nI, nI_clamp, nI_add, pk_mul, pk_sub, mI_e, mI_n, mL_e, mL_n, mR_e, mR_n, i0, i1, ↓reduceIte, ↓bI_t, ↓bI_f, Bool.false_eq_true, eq_self, chk_true, bnd_just, bnd2_just, app_t, beq_self_eq_true, mK_wI, mK_wL, mK_wR, mK_wIr, mK_wLr, mN_wI, mN_wL, mN_wR, mN_wIr, mN_wLr, mR_wI, mR_wL, mR_wIr, mR_wLr, mI_wL, mI_wR, mI_wLr, mL_wI, mL_wR, mL_wIr, il_2, il_3, i4, zn0, zx0, zn1, zx1, e1, sk_68 hS1, e2', sk_68 hS2, e3, k102 hS2, n102 hS2, lgs (e4 rfl)]
  · simp (disch := omega) only [q_eM, q_Me, q_Mlt, q_Mle, q_leM, q_ltM, q_le, q_nle, q_lt, q_nlt, q_neq, zin_nI, nI_clamp, nI_add, pk_mul, pk_sub, mI_e, mI_n, mL_e, mL_n, mR_e, mR_n, i0, i1, ↓reduceIte, ↓bI_t, ↓bI_f, Bool.false_eq_true, eq_self, chk_true, bnd_just, bnd2_just, app_t, beq_self_eq_true, mK_wI, mK_wL, mK_wR, mK_wIr, mK_wLr, mN_wI, mN_wL, mN_wR, mN_wIr, mN_wLr, mR_wI, mR_wL, mR_wIr, mR_wLr, mI_wL, mI_wR, mI_wLr, mL_wI, mL_wR, mL_wIr, il_2, il_3, i4, zn0, zx0, zn1, zx1, e1, sk_68 hS1, e2', sk_68 hS2, e3]
theorem l_982 {xs : Nat → Int32} {L : Nat} (hL : L ≤ 2048) {M : zM} {cs ts : List Nat} {cu ke : Option zPt} (h : zInv xs L M cs ts cu ke) (k23 : zM → Nat → Nat → Nat → Nat → Int32 → Option (Int32 × zM)) {v : Nat} (hv : v + 4 ≤ L) (N : Nat) (hN : 500000 ≤ N) : Nxt xs L k23 v (fL_law_982 N k23 M 0 1 68 102 (nI v)) := by
  obtain ⟨k, b, M1, M2, cs', ts', cu', ke', e1, hk, ⟨hS1, zn1, zx1⟩, e2, e3, e4, hI⟩ := b_good h (xs (v + 1)) N (by omega)
  have e2' : fX10_good N M1 68 (xs (v + 1)) = some (bI b, M2) := e2
  have hS2 := hI.sta
  have zn0 := h.2.1.1
  have zx0 := h.2.1.2
  refine ⟨M2, cs', ts', cu', ke', ?_, hI⟩
  unfold fL_law_982 fL_law_1036 fL_law_1042 fL_law_1213 fX10_thrown
  by_cases hk0 : k = 0
  · subst hk0
    have e5 := e4 rfl
    cases b with
    | false =>
      rw [if_neg (by decide)] at e5
      simp (disch := omega) only [q_eM, q_Me, q_Mlt, q_Mle, q_leM, q_ltM, q_le, q_nle, q_lt, q_nlt, q_neq, zin_nI, nI_clamp, nI_add, pk_mul, pk_sub, mI_e, mI_n, mL_e, mL_n, mR_e, mR_n, i0, i1, ↓reduceIte, ↓bI_t, ↓bI_f, Bool.false_eq_true, eq_self, chk_true, bnd_just, bnd2_just, app_t, beq_self_eq_true, mK_wI, mK_wL, mK_wR, mK_wIr, mK_wLr, mN_wI, mN_wL, mN_wR, mN_wIr, mN_wLr, mR_wI, mR_wL, mR_wIr, mR_wLr, mI_wL, mI_wR, mI_wLr, mL_wI, mL_wR, mL_wIr, il_2, il_3, i4, zn0, zx0, zn1, zx1, e1, sk_68 hS1, e2', sk_68 hS2, e3, k102 hS2, n102 hS2, lgs e5]
    | true =>
      rw [if_pos rfl] at e5
      simp (disch := omega) only [q_eM, q_Me, q_Mlt, q_Mle, q_leM, q_ltM, q_le, q_nle, q_lt, q_nlt, q_neq, zin_nI, nI_clamp, nI_add, pk_mul, pk_sub, mI_e, mI_n, mL_e, mL_n, mR_e, mR_n, i0, i1, ↓reduceIte, ↓bI_t, ↓bI_f, Bool.false_eq_true, eq_self, chk_true, bnd_just, bnd2_just, app_t, beq_self_eq_true, mK_wI, mK_wL, mK_wR, mK_wIr, mK_wLr, mN_wI, mN_wL, mN_wR, mN_wIr, mN_wLr, mR_wI, mR_wL, mR_wIr, mR_wLr, mI_wL, mI_wR, mI_wLr, mL_wI, mL_wR, mL_wIr, il_2, il_3, i4, zn0, zx0, zn1, zx1, e1, sk_68 hS1, e2', sk_68 hS2, e3, k102 hS2, n102 hS2, lgs e5]
  · simp (disch := omega) only [q_eM, q_Me, q_Mlt, q_Mle, q_leM, q_ltM, q_le, q_nle, q_lt, q_nlt, q_neq, zin_nI, nI_clamp, nI_add, pk_mul, pk_sub, mI_e, mI_n, mL_e, mL_n, mR_e, mR_n, i0, i1, ↓reduceIte, ↓bI_t, ↓bI_f, Bool.false_eq_true, eq_self, chk_true, bnd_just, bnd2_just, app_t, beq_self_eq_true, mK_wI, mK_wL, mK_wR, mK_wIr, mK_wLr, mN_wI, mN_wL, mN_wR, mN_wIr, mN_wLr, mR_wI, mR_wL, mR_wIr, mR_wLr, mI_wL, mI_wR, mI_wLr, mL_wI, mL_wR, mL_wIr, il_2, il_3, i4, zn0, zx0, zn1, zx1, e1, sk_68 hS1, e2', sk_68 hS2, e3]
theorem l_1157 {xs : Nat → Int32} {L : Nat} (hL : L ≤ 2048) {M : zM} {cs ts : List Nat} {cu ke : Option zPt} (h : zInv xs L M cs ts cu ke) (k23 : zM → Nat → Nat → Nat → Nat → Int32 → Option (Int32 × zM)) {v : Nat} (hv : v + 4 ≤ L) (N : Nat) (hN : 500000 ≤ N) : Nxt xs L k23 v (fL_law_1157 N k23 M 0 1 68 102 (nI v)) := by
  obtain ⟨k, b, M1, M2, cs', ts', cu', ke', e1, hk, ⟨hS1, zn1, zx1⟩, e2, e3, e4, hI⟩ := b_letter h (xs (v + 1)) N
  have e2' : fX10_letter N M1 68 (xs (v + 1)) = some (b, M2) := e2
  have hS2 := hI.sta
  have zn0 := h.2.1.1
  have zx0 := h.2.1.2
  refine ⟨M2, cs', ts', cu', ke', ?_, hI⟩
  unfold fL_law_1157 fL_law_1210 fL_law_1213 fX10_thrown
  by_cases hk0 : k = 0
  · subst hk0
    simp (disch := omega) only [q_eM, q_Me, q_Mlt, q_Mle, q_leM, q_ltM, q_le, q_nle, q_lt, q_nlt, q_neq, zin_nI, nI_clamp, nI_add, pk_mul, pk_sub, mI_e, mI_n, mL_e, mL_n, mR_e, mR_n, i0, i1, ↓reduceIte, ↓bI_t, ↓bI_f, Bool.false_eq_true, eq_self, chk_true, bnd_just, bnd2_just, app_t, beq_self_eq_true, mK_wI, mK_wL, mK_wR, mK_wIr, mK_wLr, mN_wI, mN_wL, mN_wR, mN_wIr, mN_wLr, mR_wI, mR_wL, mR_wIr, mR_wLr, mI_wL, mI_wR, mI_wLr, mL_wI, mL_wR, mL_wIr, il_2, il_3, i4, zn0, zx0, zn1, zx1, e1, sk_68 hS1, e2', sk_68 hS2, e3, k102 hS2, n102 hS2, lgs (e4 rfl)]
  · simp (disch := omega) only [q_eM, q_Me, q_Mlt, q_Mle, q_leM, q_ltM, q_le, q_nle, q_lt, q_nlt, q_neq, zin_nI, nI_clamp, nI_add, pk_mul, pk_sub, mI_e, mI_n, mL_e, mL_n, mR_e, mR_n, i0, i1, ↓reduceIte, ↓bI_t, ↓bI_f, Bool.false_eq_true, eq_self, chk_true, bnd_just, bnd2_just, app_t, beq_self_eq_true, mK_wI, mK_wL, mK_wR, mK_wIr, mK_wLr, mN_wI, mN_wL, mN_wR, mN_wIr, mN_wLr, mR_wI, mR_wL, mR_wIr, mR_wLr, mI_wL, mI_wR, mI_wLr, mL_wI, mL_wR, mL_wIr, il_2, il_3, i4, zn0, zx0, zn1, zx1, e1, sk_68 hS1, e2', sk_68 hS2, e3]
theorem l_132 {xs : Nat → Int32} {L : Nat} (hL : L ≤ 2048) {M : zM} {cs ts : List Nat} {cu ke : Option zPt} (h : zInv xs L M cs ts cu ke) (k23 : zM → Nat → Nat → Nat → Nat → Int32 → Option (Int32 × zM)) {v : Nat} (hv : v + 4 ≤ L) (N : Nat) (hN : 500000 ≤ N) : Nxt xs L k23 v (fL_law_132 N k23 M 0 1 68 102 (nI v)) := by
  obtain ⟨k, b, M1, M2, cs', ts', cu', ke', e1, hk, ⟨hS1, zn1, zx1⟩, e2, e3, e4, hI⟩ := b_type h ((jshl (Int32.toInt64 (xs (v + 1))) (32 : Int32)) ||| ((Int32.toInt64 (xs (v + 2))) &&& (4294967295 : Int64))) (xs (v + 3)) N (by omega)
  have e2' : fX10_type N M1 68 ((jshl (Int32.toInt64 (xs (v + 1))) (32 : Int32)) ||| ((Int32.toInt64 (xs (v + 2))) &&& (4294967295 : Int64))) (xs (v + 3)) = some (b, M2) := e2
  have hS2 := hI.sta
  have zn0 := h.2.1.1
  have zx0 := h.2.1.2
  refine ⟨M2, cs', ts', cu', ke', ?_, hI⟩
  unfold fL_law_132 fL_law_229 fL_law_1213 fX10_thrown
  by_cases hk0 : k = 0
  · subst hk0
    simp (disch := omega) only [q_eM, q_Me, q_Mlt, q_Mle, q_leM, q_ltM, q_le, q_nle, q_lt, q_nlt, q_neq, zin_nI, nI_clamp, nI_add, pk_mul, pk_sub, mI_e, mI_n, mL_e, mL_n, mR_e, mR_n, i0, i1, ↓reduceIte, ↓bI_t, ↓bI_f, Bool.false_eq_true, eq_self, chk_true, bnd_just, bnd2_just, app_t, beq_self_eq_true, mK_wI, mK_wL, mK_wR, mK_wIr, mK_wLr, mN_wI, mN_wL, mN_wR, mN_wIr, mN_wLr, mR_wI, mR_wL, mR_wIr, mR_wLr, mI_wL, mI_wR, mI_wLr, mL_wI, mL_wR, mL_wIr, il_2, il_3, i4, zn0, zx0, zn1, zx1, e1, sk_68 hS1, e2', sk_68 hS2, e3, k102 hS2, n102 hS2, lgs (e4 rfl)]
  · simp (disch := omega) only [q_eM, q_Me, q_Mlt, q_Mle, q_leM, q_ltM, q_le, q_nle, q_lt, q_nlt, q_neq, zin_nI, nI_clamp, nI_add, pk_mul, pk_sub, mI_e, mI_n, mL_e, mL_n, mR_e, mR_n, i0, i1, ↓reduceIte, ↓bI_t, ↓bI_f, Bool.false_eq_true, eq_self, chk_true, bnd_just, bnd2_just, app_t, beq_self_eq_true, mK_wI, mK_wL, mK_wR, mK_wIr, mK_wLr, mN_wI, mN_wL, mN_wR, mN_wIr, mN_wLr, mR_wI, mR_wL, mR_wIr, mR_wLr, mI_wL, mI_wR, mI_wLr, mL_wI, mL_wR, mL_wIr, il_2, il_3, i4, zn0, zx0, zn1, zx1, e1, sk_68 hS1, e2', sk_68 hS2, e3]
theorem l_578 {xs : Nat → Int32} {L : Nat} (hL : L ≤ 2048) {M : zM} {cs ts : List Nat} {cu ke : Option zPt} (h : zInv xs L M cs ts cu ke) (k23 : zM → Nat → Nat → Nat → Nat → Int32 → Option (Int32 × zM)) {v : Nat} (hv : v + 4 ≤ L) (N : Nat) (hN : 500000 ≤ N) : Nxt xs L k23 v (fL_law_578 N k23 M 0 1 68 102 (nI v)) := by
  obtain ⟨k, b, M1, M2, cs', ts', cu', ke', e1, hk, ⟨hS1, zn1, zx1⟩, e2, e3, e4, hI⟩ := b_feed h ((jshl (Int32.toInt64 (xs (v + 1))) (32 : Int32)) ||| ((Int32.toInt64 (xs (v + 2))) &&& (4294967295 : Int64))) (xs (v + 3)) N (by omega)
  have e2' : fX10_feed N M1 68 ((jshl (Int32.toInt64 (xs (v + 1))) (32 : Int32)) ||| ((Int32.toInt64 (xs (v + 2))) &&& (4294967295 : Int64))) (xs (v + 3)) = some (b, M2) := e2
  have hS2 := hI.sta
  have zn0 := h.2.1.1
  have zx0 := h.2.1.2
  refine ⟨M2, cs', ts', cu', ke', ?_, hI⟩
  unfold fL_law_578 fL_law_675 fL_law_1213 fX10_thrown
  by_cases hk0 : k = 0
  · subst hk0
    simp (disch := omega) only [q_eM, q_Me, q_Mlt, q_Mle, q_leM, q_ltM, q_le, q_nle, q_lt, q_nlt, q_neq, zin_nI, nI_clamp, nI_add, pk_mul, pk_sub, mI_e, mI_n, mL_e, mL_n, mR_e, mR_n, i0, i1, ↓reduceIte, ↓bI_t, ↓bI_f, Bool.false_eq_true, eq_self, chk_true, bnd_just, bnd2_just, app_t, beq_self_eq_true, mK_wI, mK_wL, mK_wR, mK_wIr, mK_wLr, mN_wI, mN_wL, mN_wR, mN_wIr, mN_wLr, mR_wI, mR_wL, mR_wIr, mR_wLr, mI_wL, mI_wR, mI_wLr, mL_wI, mL_wR, mL_wIr, il_2, il_3, i4, zn0, zx0, zn1, zx1, e1, sk_68 hS1, e2', sk_68 hS2, e3, k102 hS2, n102 hS2, lgs (e4 rfl)]
  · simp (disch := omega) only [q_eM, q_Me, q_Mlt, q_Mle, q_leM, q_ltM, q_le, q_nle, q_lt, q_nlt, q_neq, zin_nI, nI_clamp, nI_add, pk_mul, pk_sub, mI_e, mI_n, mL_e, mL_n, mR_e, mR_n, i0, i1, ↓reduceIte, ↓bI_t, ↓bI_f, Bool.false_eq_true, eq_self, chk_true, bnd_just, bnd2_just, app_t, beq_self_eq_true, mK_wI, mK_wL, mK_wR, mK_wIr, mK_wLr, mN_wI, mN_wL, mN_wR, mN_wIr, mN_wLr, mR_wI, mR_wL, mR_wIr, mR_wLr, mI_wL, mI_wR, mI_wLr, mL_wI, mL_wR, mL_wIr, il_2, il_3, i4, zn0, zx0, zn1, zx1, e1, sk_68 hS1, e2', sk_68 hS2, e3]
theorem l_232 {xs : Nat → Int32} {L : Nat} (hL : L ≤ 2048) {M : zM} {cs ts : List Nat} {cu ke : Option zPt} (h : zInv xs L M cs ts cu ke) (k23 : zM → Nat → Nat → Nat → Nat → Int32 → Option (Int32 × zM)) {v : Nat} (hv : v + 4 ≤ L) (N : Nat) (hN : 500000 ≤ N) : Nxt xs L k23 v (fL_law_232 N k23 M 0 1 68 102 (nI v)) := by
  have hS := h.sta
  obtain ⟨b, M1, M2, cs', ts', cu', ke', e1, hS1, e2, hI⟩ := b_read h N (by omega)
  have e2' : fX10_read N M1 68 = some (b, M2) := e2
  refine ⟨M2, cs', ts', cu', ke', ?_, hI⟩
  unfold fL_law_232 fL_law_1213
  simp (disch := omega) only [q_eM, q_Me, q_Mlt, q_Mle, q_leM, q_ltM, q_le, q_nle, q_lt, q_nlt, q_neq, zin_nI, nI_clamp, nI_add, pk_mul, pk_sub, mI_e, mI_n, mL_e, mL_n, mR_e, mR_n, i0, i1, ↓reduceIte, ↓bI_t, ↓bI_f, Bool.false_eq_true, eq_self, chk_true, bnd_just, bnd2_just, app_t, beq_self_eq_true, mK_wI, mK_wL, mK_wR, mK_wIr, mK_wLr, mN_wI, mN_wL, mN_wR, mN_wIr, mN_wLr, mR_wI, mR_wL, mR_wIr, mR_wLr, mI_wL, mI_wR, mI_wLr, mL_wI, mL_wR, mL_wIr, i4, sk_1 hS, e1, sk_68 hS1, e2']
theorem l_245 {xs : Nat → Int32} {L : Nat} (hL : L ≤ 2048) {M : zM} {cs ts : List Nat} {cu ke : Option zPt} (h : zInv xs L M cs ts cu ke) (k23 : zM → Nat → Nat → Nat → Nat → Int32 → Option (Int32 × zM)) {v : Nat} (hv : v + 4 ≤ L) (N : Nat) (hN : 500000 ≤ N) : Nxt xs L k23 v (fL_law_245 N k23 M 0 1 68 102 (nI v)) := by
  have hS := h.sta
  obtain ⟨b, M1, M2, cs', ts', cu', ke', e1, hS1, e2, hI⟩ := b_place h N
  have e2' : fX10_place N M1 68 = some (b, M2) := e2
  refine ⟨M2, cs', ts', cu', ke', ?_, hI⟩
  unfold fL_law_245 fL_law_1213
  simp (disch := omega) only [q_eM, q_Me, q_Mlt, q_Mle, q_leM, q_ltM, q_le, q_nle, q_lt, q_nlt, q_neq, zin_nI, nI_clamp, nI_add, pk_mul, pk_sub, mI_e, mI_n, mL_e, mL_n, mR_e, mR_n, i0, i1, ↓reduceIte, ↓bI_t, ↓bI_f, Bool.false_eq_true, eq_self, chk_true, bnd_just, bnd2_just, app_t, beq_self_eq_true, mK_wI, mK_wL, mK_wR, mK_wIr, mK_wLr, mN_wI, mN_wL, mN_wR, mN_wIr, mN_wLr, mR_wI, mR_wL, mR_wIr, mR_wLr, mI_wL, mI_wR, mI_wLr, mL_wI, mL_wR, mL_wIr, i4, sk_1 hS, e1, sk_68 hS1, e2']
theorem l_678 {xs : Nat → Int32} {L : Nat} (hL : L ≤ 2048) {M : zM} {cs ts : List Nat} {cu ke : Option zPt} (h : zInv xs L M cs ts cu ke) (k23 : zM → Nat → Nat → Nat → Nat → Int32 → Option (Int32 × zM)) {v : Nat} (hv : v + 4 ≤ L) (N : Nat) (hN : 500000 ≤ N) : Nxt xs L k23 v (fL_law_678 N k23 M 0 1 68 102 (nI v)) := by
  have hS := h.sta
  obtain ⟨b, M1, M2, cs', ts', cu', ke', e1, hS1, e2, hI⟩ := b_clear h N
  have e2' : fX10_clear N M1 68 = some (b, M2) := e2
  refine ⟨M2, cs', ts', cu', ke', ?_, hI⟩
  unfold fL_law_678 fL_law_1213
  simp (disch := omega) only [q_eM, q_Me, q_Mlt, q_Mle, q_leM, q_ltM, q_le, q_nle, q_lt, q_nlt, q_neq, zin_nI, nI_clamp, nI_add, pk_mul, pk_sub, mI_e, mI_n, mL_e, mL_n, mR_e, mR_n, i0, i1, ↓reduceIte, ↓bI_t, ↓bI_f, Bool.false_eq_true, eq_self, chk_true, bnd_just, bnd2_just, app_t, beq_self_eq_true, mK_wI, mK_wL, mK_wR, mK_wIr, mK_wLr, mN_wI, mN_wL, mN_wR, mN_wIr, mN_wLr, mR_wI, mR_wL, mR_wIr, mR_wLr, mI_wL, mI_wR, mI_wLr, mL_wI, mL_wR, mL_wIr, i4, sk_1 hS, e1, sk_68 hS1, e2']
theorem l_1089 {xs : Nat → Int32} {L : Nat} (hL : L ≤ 2048) {M : zM} {cs ts : List Nat} {cu ke : Option zPt} (h : zInv xs L M cs ts cu ke) (k23 : zM → Nat → Nat → Nat → Nat → Int32 → Option (Int32 × zM)) {v : Nat} (hv : v + 4 ≤ L) (N : Nat) (hN : 500000 ≤ N) : Nxt xs L k23 v (fL_law_1089 N k23 M 0 1 68 102 (nI v)) := by
  obtain ⟨k, M1, M2, cs', ts', cu', ke', e1, hk, hS1, e2, e3, hI⟩ := b_keep h N (by omega)
  have e2' : fX10_keep N M1 68 = some ((), M2) := e2
  have hS2 := hI.sta
  refine ⟨M2, cs', ts', cu', ke', ?_, hI⟩
  unfold fL_law_1089 fL_law_1213 fX10_thrown
  simp (disch := omega) only [q_eM, q_Me, q_Mlt, q_Mle, q_leM, q_ltM, q_le, q_nle, q_lt, q_nlt, q_neq, zin_nI, nI_clamp, nI_add, pk_mul, pk_sub, mI_e, mI_n, mL_e, mL_n, mR_e, mR_n, i0, i1, ↓reduceIte, ↓bI_t, ↓bI_f, Bool.false_eq_true, eq_self, chk_true, bnd_just, bnd2_just, app_t, beq_self_eq_true, mK_wI, mK_wL, mK_wR, mK_wIr, mK_wLr, mN_wI, mN_wL, mN_wR, mN_wIr, mN_wLr, mR_wI, mR_wL, mR_wIr, mR_wLr, mI_wL, mI_wR, mI_wLr, mL_wI, mL_wR, mL_wIr, i4, e1, sk_68 hS1, e2', sk_68 hS2, e3]
theorem l_786 {xs : Nat → Int32} {L : Nat} (hL : L ≤ 2048) {M : zM} {cs ts : List Nat} {cu ke : Option zPt} (h : zInv xs L M cs ts cu ke) (k23 : zM → Nat → Nat → Nat → Nat → Int32 → Option (Int32 × zM)) {v : Nat} (hv : v + 4 ≤ L) (N : Nat) (hN : 500000 ≤ N) : Nxt xs L k23 v (fL_law_786 N k23 M 0 1 68 102 (nI v)) := by
  obtain ⟨k, b, M1, M2, cs', ts', cu', ke', e1, hk, ⟨hS1, zn1, zx1⟩, e2, e3, e4, hI⟩ := b_find h (xs (v + 1)) (decide (xs (v + 2) ≠ 0)) N (by omega)
  have e2' : fX10_find N M1 68 (xs (v + 1)) (bI (decide (xs (v + 2) ≠ 0))) = some (b, M2) := e2
  have hS2 := hI.sta
  have zn0 := h.2.1.1
  have zx0 := h.2.1.2
  refine ⟨M2, cs', ts', cu', ke', ?_, hI⟩
  unfold fL_law_786 fL_law_807 fL_law_834 fL_law_867 fL_law_1213 fX10_thrown
  by_cases hx : xs (v + 2) = nI 0
  · have hd : decide (xs (v + 2) ≠ 0) = false := decide_eq_false (fun q => q (by rw [hx]; rfl))
    rw [hd, bI_f] at e1 e2'
    by_cases hk0 : k = 0
    · subst hk0
      simp (disch := omega) only [q_eM, q_Me, q_Mlt, q_Mle, q_leM, q_ltM, q_le, q_nle, q_lt, q_nlt, q_neq, zin_nI, nI_clamp, nI_add, pk_mul, pk_sub, mI_e, mI_n, mL_e, mL_n, mR_e, mR_n, i0, i1, ↓reduceIte, ↓bI_t, ↓bI_f, Bool.false_eq_true, eq_self, chk_true, bnd_just, bnd2_just, app_t, beq_self_eq_true, mK_wI, mK_wL, mK_wR, mK_wIr, mK_wLr, mN_wI, mN_wL, mN_wR, mN_wIr, mN_wLr, mR_wI, mR_wL, mR_wIr, mR_wLr, mI_wL, mI_wR, mI_wLr, mL_wI, mL_wR, mL_wIr, il_2, i4, zn0, zx0, zn1, zx1, hx, e1, sk_68 hS1, e2', sk_68 hS2, e3, k102 hS2, n102 hS2, lgs (e4 rfl)]
    · simp (disch := omega) only [q_eM, q_Me, q_Mlt, q_Mle, q_leM, q_ltM, q_le, q_nle, q_lt, q_nlt, q_neq, zin_nI, nI_clamp, nI_add, pk_mul, pk_sub, mI_e, mI_n, mL_e, mL_n, mR_e, mR_n, i0, i1, ↓reduceIte, ↓bI_t, ↓bI_f, Bool.false_eq_true, eq_self, chk_true, bnd_just, bnd2_just, app_t, beq_self_eq_true, mK_wI, mK_wL, mK_wR, mK_wIr, mK_wLr, mN_wI, mN_wL, mN_wR, mN_wIr, mN_wLr, mR_wI, mR_wL, mR_wIr, mR_wLr, mI_wL, mI_wR, mI_wLr, mL_wI, mL_wR, mL_wIr, il_2, i4, zn0, zx0, zn1, zx1, hx, e1, sk_68 hS1, e2', sk_68 hS2, e3]
  · have hd : decide (xs (v + 2) ≠ 0) = true := decide_eq_true (fun q => hx (by rw [q]; rfl))
    rw [hd, bI_t] at e1 e2'
    have hx' : (xs (v + 2) = nI 0) = False := eq_false hx
    by_cases hk0 : k = 0
    · subst hk0
      simp (disch := omega) only [q_eM, q_Me, q_Mlt, q_Mle, q_leM, q_ltM, q_le, q_nle, q_lt, q_nlt, q_neq, zin_nI, nI_clamp, nI_add, pk_mul, pk_sub, mI_e, mI_n, mL_e, mL_n, mR_e, mR_n, i0, i1, ↓reduceIte, ↓bI_t, ↓bI_f, Bool.false_eq_true, eq_self, chk_true, bnd_just, bnd2_just, app_t, beq_self_eq_true, mK_wI, mK_wL, mK_wR, mK_wIr, mK_wLr, mN_wI, mN_wL, mN_wR, mN_wIr, mN_wLr, mR_wI, mR_wL, mR_wIr, mR_wLr, mI_wL, mI_wR, mI_wLr, mL_wI, mL_wR, mL_wIr, il_2, i4, zn0, zx0, zn1, zx1, hx', e1, sk_68 hS1, e2', sk_68 hS2, e3, k102 hS2, n102 hS2, lgs (e4 rfl)]
    · simp (disch := omega) only [q_eM, q_Me, q_Mlt, q_Mle, q_leM, q_ltM, q_le, q_nle, q_lt, q_nlt, q_neq, zin_nI, nI_clamp, nI_add, pk_mul, pk_sub, mI_e, mI_n, mL_e, mL_n, mR_e, mR_n, i0, i1, ↓reduceIte, ↓bI_t, ↓bI_f, Bool.false_eq_true, eq_self, chk_true, bnd_just, bnd2_just, app_t, beq_self_eq_true, mK_wI, mK_wL, mK_wR, mK_wIr, mK_wLr, mN_wI, mN_wL, mN_wR, mN_wIr, mN_wLr, mR_wI, mR_wL, mR_wIr, mR_wLr, mI_wL, mI_wR, mI_wLr, mL_wI, mL_wR, mL_wIr, il_2, i4, zn0, zx0, zn1, zx1, hx', e1, sk_68 hS1, e2', sk_68 hS2, e3]
theorem l_end {L v : Nat} (hL : L ≤ 2048) (hv : v ≤ L) : (nI L - 4 < nI v) = (L < v + 4) := by
  rw [i4, Int32.lt_iff_toInt_lt, pk_sub_toInt (by omega) (by omega), nI_toInt (by omega)]
  apply propext
  omega
theorem law_loop {xs : Nat → Int32} {L : Nat} (hL : L ≤ 2048) (N : Nat) (hN : 500000 ≤ N) : ∀ (f v : Nat) (M : zM) (cs ts : List Nat) (cu ke : Option zPt), zInv xs L M cs ts cu ke → v ≤ L → L < v + 4 * f → ∃ M', fL_law_23 N f M 0 1 68 102 (nI v) = some (nI 1, M') := by
  intro f
  induction f with
  | zero => intro v M cs ts cu ke h hv hf; omega
  | succ f ih =>
    intro v M cs ts cu ke h hv0 hf
    have zn0 := h.2.1.1
    have zx0 := h.2.1.2
    by_cases hv : v + 4 ≤ L
    · have key : Nxt xs L (fL_law_23 N f) v (fL_law_23 N (f + 1) M 0 1 68 102 (nI v)) := by
        rw [fL_law_23]
        simp only [beq_self_eq_true, chk_true, zn0, l_end hL hv0]
        rw [if_neg (by omega), zin_nI (by omega) (by omega), chk_true, nI_clamp (by omega), zx0]
        by_cases c0 : xs v &&& 31 = (0 : Int32)
        · rw [if_pos c0]; exact l_132 hL h (fL_law_23 N f) hv N hN
        rw [if_neg c0]
        by_cases c1 : xs v &&& 31 = (1 : Int32)
        · rw [if_pos c1]; exact l_232 hL h (fL_law_23 N f) hv N hN
        rw [if_neg c1]
        by_cases c2 : xs v &&& 31 = (2 : Int32)
        · rw [if_pos c2]; exact l_245 hL h (fL_law_23 N f) hv N hN
        rw [if_neg c2]
        by_cases c3 : xs v &&& 31 = (3 : Int32)
        · rw [if_pos c3]; exact l_258 hL h (fL_law_23 N f) hv N hN
        rw [if_neg c3]
        by_cases c4 : xs v &&& 31 = (4 : Int32)
        · rw [if_pos c4]; exact l_302 hL h (fL_law_23 N f) hv N hN
        rw [if_neg c4]
        by_cases c5 : xs v &&& 31 = (5 : Int32)
        · rw [if_pos c5]; exact l_353 hL h (fL_law_23 N f) hv N hN
        rw [if_neg c5]
        by_cases c6 : xs v &&& 31 = (6 : Int32)
        · rw [if_pos c6]; exact l_428 hL h (fL_law_23 N f) hv N hN
        rw [if_neg c6]
        by_cases c7 : xs v &&& 31 = (7 : Int32)
        · rw [if_pos c7]; exact l_503 hL h (fL_law_23 N f) hv N hN
        rw [if_neg c7]
        by_cases c8 : xs v &&& 31 = (8 : Int32)
        · rw [if_pos c8]; exact l_578 hL h (fL_law_23 N f) hv N hN
        rw [if_neg c8]
        by_cases c9 : xs v &&& 31 = (9 : Int32)
        · rw [if_pos c9]; exact l_678 hL h (fL_law_23 N f) hv N hN
        rw [if_neg c9]
        by_cases c10 : xs v &&& 31 = (10 : Int32)
        · rw [if_pos c10]; exact l_691 hL h (fL_law_23 N f) hv N hN
        rw [if_neg c10]
        by_cases c11 : xs v &&& 31 = (11 : Int32)
        · rw [if_pos c11]; exact l_742 hL h (fL_law_23 N f) hv N hN
        rw [if_neg c11]
        by_cases c12 : xs v &&& 31 = (12 : Int32)
        · rw [if_pos c12]; exact l_786 hL h (fL_law_23 N f) hv N hN
        rw [if_neg c12]
        by_cases c13 : xs v &&& 31 = (13 : Int32)
        · rw [if_pos c13]; exact l_870 hL h (fL_law_23 N f) hv N hN
        rw [if_neg c13]
        by_cases c14 : xs v &&& 31 = (14 : Int32)
        · rw [if_pos c14]; exact l_914 hL h (fL_law_23 N f) hv N hN
        rw [if_neg c14]
        by_cases c15 : xs v &&& 31 = (15 : Int32)
        · rw [if_pos c15]; exact l_982 hL h (fL_law_23 N f) hv N hN
        rw [if_neg c15]
        by_cases c16 : xs v &&& 31 = (16 : Int32)
        · rw [if_pos c16]; exact l_1045 hL h (fL_law_23 N f) hv N hN
        rw [if_neg c16]
        by_cases c17 : xs v &&& 31 = (17 : Int32)
        · rw [if_pos c17]; exact l_1089 hL h (fL_law_23 N f) hv N hN
        rw [if_neg c17]
        by_cases c18 : xs v &&& 31 = (18 : Int32)
        · rw [if_pos c18]; exact l_1113 hL h (fL_law_23 N f) hv N hN
        rw [if_neg c18]
        by_cases c19 : xs v &&& 31 = (19 : Int32)
        · rw [if_pos c19]; exact l_1157 hL h (fL_law_23 N f) hv N hN
        rw [if_neg c19]
        refine ⟨M, cs, ts, cu, ke, ?_, h⟩
        unfold fL_law_1213
        rw [app_t, i4, nI_add]
      obtain ⟨M2, cs', ts', cu', ke', e, hI⟩ := key
      rw [e]
      exact ih (v + 4) M2 cs' ts' cu' ke' hI (by omega) (by omega)
    · refine ⟨M, ?_⟩
      rw [fL_law_23]
      simp only [beq_self_eq_true, chk_true, zn0, l_end hL hv0]
      rw [if_pos (by omega), i1]
end ZLAW
