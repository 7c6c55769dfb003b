/-! the longest end; finds -/
section ZFINDS
def lgE (p : zPt) (ts : List Nat) (s : Nat) : Nat → Option Nat
  | 0 => none
  | n + 1 => if zmet p ts s (n + 1) &&& pl p ≠ 0 then some (s + n + 1) else lgE p ts s n
def eI (o : Option Nat) : Int32 := match o with
  | none => iM
  | some e => nI e
theorem and0 (x : Int64) : (0 : Int64) &&& x = 0 := by
  apply jb_ext
  intro j _
  rw [jb_and, jb_0, Bool.false_and]
theorem orF_0 (fo : Nat → Int64) : ∀ k, orF fo 0 k = 0 := by
  intro k
  induction k with
  | zero => rfl
  | succ k ih => simp only [orF]; rw [jb_0, if_neg (by decide)]; exact ih
theorem lg_stop {p : zPt} {ts : List Nat} {s n : Nat} (h : awt p (decide (n = 0)) (zmet p ts s n) = 0) : ∀ m, zmet p ts s (n + m + 1) = 0 ∧ lgE p ts s (n + m) = lgE p ts s n := by
  intro m
  induction m with
  | zero =>
    refine ⟨?_, rfl⟩
    show znxt p (decide (n = 0)) (zmet p ts s n) _ = 0
    unfold znxt
    rw [h, and0]
  | succ m ih =>
    constructor
    · show znxt p (decide (n + (m + 1) = 0)) (zmet p ts s (n + (m + 1))) _ = 0
      unfold znxt awt
      rw [show decide (n + (m + 1) = 0) = false by simp, if_neg (by decide), show n + (m + 1) = n + m + 1 from rfl, ih.1, orF_0, and0]
    · show (if zmet p ts s (n + m + 1) &&& pl p ≠ 0 then _ else _) = _
      rw [ih.1, and0, if_neg (by simp)]
      exact ih.2
theorem lgE_gt {p : zPt} {ts : List Nat} {s e : Nat} : ∀ n, lgE p ts s n = some e → s < e ∧ e ≤ s + n := by
  intro n
  induction n with
  | zero => intro h; cases h
  | succ n ih =>
    intro h
    simp only [lgE] at h
    split at h
    · cases h; omega
    · have := ih h; omega
theorem c_long {M : zM} {P : Nat} {p : zPt} {ts : List Nat} (hS : Sta M) (hP : isP P) (h : PatC M P p) (hT : TxtC M ts) {s : Nat} : ∀ (m n fuel : Nat), s + n + m = ts.length → m + 62 < fuel →
    fX8_longestEnd_11 fuel M 27 P (eI (lgE p ts s n)) (awt p (decide (n = 0)) (zmet p ts s n)) (nI (s + n)) = some (eI (lgE p ts s (n + m)), M) := by
  have hl200 := hT.2.1
  have g3 : mL M P 3 = pl p := h.2.2.2.1
  intro m
  induction m with
  | zero =>
    intro n fuel hi hf
    obtain ⟨f, rfl⟩ := suc fuel (by omega)
    rw [fX8_longestEnd_11]
    simp (disch := omega) only [q_eM, q_Me, q_Mlt, q_Mle, q_leM, q_ltM, q_le, q_nle, q_lt, q_nlt, q_neq, zin_nI, nI_clamp, nI_add, pk_mul, pk_sub, mI_e, mI_n, mL_e, mL_n, mR_e, mR_n, i0, i1, ↓reduceIte, ↓bI_t, ↓bI_f, Bool.false_eq_true, eq_self, chk_true, bnd_just, bnd2_just, app_t, beq_self_eq_true, mK_wI, mK_wL, mK_wR, mK_wIr, mK_wLr, mN_wI, mN_wL, mN_wR, mN_wIr, mN_wLr, mR_wI, mR_wL, mR_wIr, mR_wLr, mI_wL, mI_wR, mI_wLr, mL_wI, mL_wR, mL_wIr, sk_27 hS, hT.1]
    rfl
  | succ m ih =>
    intro n fuel hi hf
    obtain ⟨f, rfl⟩ := suc fuel (by omega)
    by_cases hz : awt p (decide (n = 0)) (zmet p ts s n) = 0
    · rw [fX8_longestEnd_11, (lg_stop hz (m + 1)).2]
      simp (disch := omega) only [q_eM, q_Me, q_Mlt, q_Mle, q_leM, q_ltM, q_le, q_nle, q_lt, q_nlt, q_neq, zin_nI, nI_clamp, nI_add, pk_mul, pk_sub, mI_e, mI_n, mL_e, mL_n, mR_e, mR_n, i0, i1, ↓reduceIte, ↓bI_t, ↓bI_f, Bool.false_eq_true, eq_self, chk_true, bnd_just, bnd2_just, app_t, beq_self_eq_true, mK_wI, mK_wL, mK_wR, mK_wIr, mK_wLr, mN_wI, mN_wL, mN_wR, mN_wIr, mN_wLr, mR_wI, mR_wL, mR_wIr, mR_wLr, mI_wL, mI_wR, mI_wLr, mL_wI, mL_wR, mL_wIr, sk_27 hS, hT.1]
      rw [if_pos (by rw [← i0]; exact (lg0 _ _).mpr hz)]
    · have h9 := ih (n + 1) f (by omega) (by omega)
      have ht := txt_lt hT (s + n)
      have e30 := hT.2.2.1 (s + n) (by omega)
      have emt : zmet p ts s (n + 1) = awt p (decide (n = 0)) (zmet p ts s n) &&& havF (pse p) (ts.getD (s + n) 0) (pk p) := rfl
      have ed : decide (n + 1 = 0) = false := by simp
      rw [ed, show n + 1 + m = n + (m + 1) by omega, show s + (n + 1) = s + n + 1 from rfl] at h9
      rw [fX8_longestEnd_11]
      unfold fX8_longestEnd_61
      simp (disch := omega) only [q_eM, q_Me, q_Mlt, q_Mle, q_leM, q_ltM, q_le, q_nle, q_lt, q_nlt, q_neq, zin_nI, nI_clamp, nI_add, pk_mul, pk_sub, mI_e, mI_n, mL_e, mL_n, mR_e, mR_n, i0, i1, ↓reduceIte, ↓bI_t, ↓bI_f, Bool.false_eq_true, eq_self, chk_true, bnd_just, bnd2_just, app_t, beq_self_eq_true, mK_wI, mK_wL, mK_wR, mK_wIr, mK_wLr, mN_wI, mN_wL, mN_wR, mN_wIr, mN_wLr, mR_wI, mR_wL, mR_wIr, mR_wLr, mI_wL, mI_wR, mI_wLr, mL_wI, mL_wR, mL_wIr, sk_27 hS, sk_30 hS, sn_30 hS, sr_27_4 hS, hT.1, e30, pK0 hS hP, pK3 hS hP, pN3 hS hP, pR6 hS hP, h.hav ht, ← emt, g3, c_beh hS hP h _ f (by omega)]
      rw [if_neg (by rw [← i0]; exact fun q => hz ((lg0 _ _).mp q))]
      simp only [lgE] at h9
      by_cases hz2 : zmet p ts s (n + 1) &&& pl p = 0
      · rw [if_pos (by rw [← i0]; exact (lg0 _ _).mpr hz2)]
        rw [if_neg (by simp [hz2])] at h9
        exact h9
      · rw [if_neg (by rw [← i0]; exact fun q => hz2 ((lg0 _ _).mp q))]
        rw [if_pos (by simp [hz2])] at h9
        exact h9
theorem c_longest {M : zM} {P : Nat} {p : zPt} {ts : List Nat} (hS : Sta M) (hP : isP P) (h : PatC M P p) (hT : TxtC M ts) {s : Nat} (hs : s ≤ ts.length) (N : Nat) (hN : 300 ≤ N) : fX8_longestEnd N M 27 P (nI s) = some (eI (lgE p ts s (ts.length - s)), M) := by
  have := c_long hS hP h hT (s := s) (ts.length - s) 0 N (by omega) (by have := hT.2.1; omega)
  have g2 : mL M P 2 = pf p := h.2.2.1
  rw [Nat.zero_add] at this
  unfold fX8_longestEnd
  simp only [chk_true, bnd_just, bnd2_just, app_t, beq_self_eq_true, mK_wI, mK_wL, mK_wR, mK_wIr, mK_wLr, mN_wI, mN_wL, mN_wR, mN_wIr, mN_wLr, mR_wI, mR_wL, mR_wIr, mR_wLr, mI_wL, mI_wR, mI_wLr, mL_wI, mL_wR, mL_wIr, pK0 hS hP, g2]
  exact this
theorem m_long {M : zM} {p : zPt} {ts : List Nat} (hS : Sta M) (h : PatQ M 0 p) (hOK : PtOK p) (hT : TxtM M ts) {s : Nat} : ∀ (m n fuel : Nat), s + n + m = ts.length → m + 210 < fuel →
    fX10_longest_7 fuel M 68 (nI s) (eI (lgE p ts s n)) (zmet p ts s n) (nI (s + n)) = some (eI (lgE p ts s (n + m)), M) := by
  have hl200 := hT.2.1
  have g75 : mL M 75 0 = pl p := h.2.2.2.2.1
  intro m
  induction m with
  | zero =>
    intro n fuel hi hf
    obtain ⟨f, rfl⟩ := suc fuel (by omega)
    rw [fX10_longest_7]
    simp (disch := omega) only [q_eM, q_Me, q_Mlt, q_Mle, q_leM, q_ltM, q_le, q_nle, q_lt, q_nlt, q_neq, zin_nI, nI_clamp, nI_add, pk_mul, pk_sub, mI_e, mI_n, mL_e, mL_n, mR_e, mR_n, i0, i1, ↓reduceIte, ↓bI_t, ↓bI_f, Bool.false_eq_true, eq_self, chk_true, bnd_just, bnd2_just, app_t, beq_self_eq_true, mK_wI, mK_wL, mK_wR, mK_wIr, mK_wLr, mN_wI, mN_wL, mN_wR, mN_wIr, mN_wLr, mR_wI, mR_wL, mR_wIr, mR_wLr, mI_wL, mI_wR, mI_wLr, mL_wI, mL_wR, mL_wIr, sk_68 hS, hT.1]
    rfl
  | succ m ih =>
    intro n fuel hi hf
    obtain ⟨f, rfl⟩ := suc fuel (by omega)
    have ht := txm_lt hT (s + n)
    have e70 := hT.2.2.1 (s + n) (by omega)
    have h9 := ih (n + 1) f (by omega) (by omega)
    rw [show n + 1 + m = n + (m + 1) by omega, show s + (n + 1) = s + n + 1 from rfl] at h9
    simp only [lgE] at h9
    have eg := m_goOn hS (x := 0) (by omega) h hOK ht (decide (n = 0)) (zmet p ts s n) f (by omega)
    have emt : zmet p ts s (n + 1) = znxt p (decide (n = 0)) (zmet p ts s n) (ts.getD (s + n) 0) := rfl
    rw [← emt] at eg
    by_cases h0 : n = 0
    · rw [show decide (n = 0) = true by simp [h0], bI_t] at eg
      have es : s + n = s := by omega
      rw [fX10_longest_7]
      unfold fX10_longest_28 fX10_longest_41 fX10_longest_74
      simp only [es] at e70 eg h9 ⊢
      simp (disch := omega) only [q_eM, q_Me, q_Mlt, q_Mle, q_leM, q_ltM, q_le, q_nle, q_lt, q_nlt, q_neq, zin_nI, nI_clamp, nI_add, pk_mul, pk_sub, mI_e, mI_n, mL_e, mL_n, mR_e, mR_n, i0, i1, ↓reduceIte, ↓bI_t, ↓bI_f, Bool.false_eq_true, eq_self, chk_true, bnd_just, bnd2_just, app_t, beq_self_eq_true, mK_wI, mK_wL, mK_wR, mK_wIr, mK_wLr, mN_wI, mN_wL, mN_wR, mN_wIr, mN_wLr, mR_wI, mR_wL, mR_wIr, mR_wLr, mI_wL, mI_wR, mI_wLr, mL_wI, mL_wR, mL_wIr, sk_68 hS, sk_70 hS, sk_75 hS, sn_70 hS, sn_75 hS, sr_68_3 hS, sr_68_10 hS, hT.1, e70, eg, g75]
      by_cases hz2 : zmet p ts s (n + 1) &&& pl p = 0
      · rw [if_pos (by rw [← i0]; exact (lg0 _ _).mpr hz2)]
        rw [if_neg (by simp [hz2])] at h9
        exact h9
      · rw [if_neg (by rw [← i0]; exact fun q => hz2 ((lg0 _ _).mp q))]
        rw [if_pos (by simp [hz2])] at h9
        exact h9
    · by_cases hz : zmet p ts s n = 0
      · have hst : awt p (decide (n = 0)) (zmet p ts s n) = 0 := by
          unfold awt
          rw [show decide (n = 0) = false by simp [h0], if_neg (by decide), hz, orF_0]
        rw [fX10_longest_7, (lg_stop hst (m + 1)).2]
        simp (disch := omega) only [q_eM, q_Me, q_Mlt, q_Mle, q_leM, q_ltM, q_le, q_nle, q_lt, q_nlt, q_neq, zin_nI, nI_clamp, nI_add, pk_mul, pk_sub, mI_e, mI_n, mL_e, mL_n, mR_e, mR_n, i0, i1, ↓reduceIte, ↓bI_t, ↓bI_f, Bool.false_eq_true, eq_self, chk_true, bnd_just, bnd2_just, app_t, beq_self_eq_true, mK_wI, mK_wL, mK_wR, mK_wIr, mK_wLr, mN_wI, mN_wL, mN_wR, mN_wIr, mN_wLr, mR_wI, mR_wL, mR_wIr, mR_wLr, mI_wL, mI_wR, mI_wLr, mL_wI, mL_wR, mL_wIr, sk_68 hS, hT.1]
        rw [if_pos (by rw [← i0]; exact (lg0 _ _).mpr hz)]
      · rw [show decide (n = 0) = false by simp [h0], bI_f] at eg
        rw [fX10_longest_7]
        unfold fX10_longest_28 fX10_longest_41 fX10_longest_74
        simp (disch := omega) only [q_eM, q_Me, q_Mlt, q_Mle, q_leM, q_ltM, q_le, q_nle, q_lt, q_nlt, q_neq, zin_nI, nI_clamp, nI_add, pk_mul, pk_sub, mI_e, mI_n, mL_e, mL_n, mR_e, mR_n, i0, i1, ↓reduceIte, ↓bI_t, ↓bI_f, Bool.false_eq_true, eq_self, chk_true, bnd_just, bnd2_just, app_t, beq_self_eq_true, mK_wI, mK_wL, mK_wR, mK_wIr, mK_wLr, mN_wI, mN_wL, mN_wR, mN_wIr, mN_wLr, mR_wI, mR_wL, mR_wIr, mR_wLr, mI_wL, mI_wR, mI_wLr, mL_wI, mL_wR, mL_wIr, sk_68 hS, sk_70 hS, sk_75 hS, sn_70 hS, sn_75 hS, sr_68_3 hS, sr_68_10 hS, hT.1, e70, eg, g75]
        rw [if_neg (by rw [← i0]; exact fun q => hz ((lg0 _ _).mp q))]
        by_cases hz2 : zmet p ts s (n + 1) &&& pl p = 0
        · rw [if_pos (by rw [← i0]; exact (lg0 _ _).mpr hz2)]
          rw [if_neg (by simp [hz2])] at h9
          exact h9
        · rw [if_neg (by rw [← i0]; exact fun q => hz2 ((lg0 _ _).mp q))]
          rw [if_pos (by simp [hz2])] at h9
          exact h9
theorem m_longest {M : zM} {p : zPt} {ts : List Nat} (hS : Sta M) (h : PatQ M 0 p) (hOK : PtOK p) (hT : TxtM M ts) {s : Nat} (hs : s ≤ ts.length) (N : Nat) (hN : 450 ≤ N) : fX10_longest N M 68 (nI s) = some (eI (lgE p ts s (ts.length - s)), M) := by
  have := m_long hS h hOK hT (s := s) (ts.length - s) 0 N (by omega) (by have := hT.2.1; omega)
  rw [Nat.zero_add] at this
  exact this
/-- the finds from place i on -/
def fdL (p : zPt) (ts : List Nat) : Nat → Nat → List (Nat × Nat)
  | 0, _ => []
  | f + 1, i => if i < ts.length then (match lgE p ts i (ts.length - i) with
    | none => fdL p ts f (i + 1)
    | some e => (i, e) :: fdL p ts f e) else []
theorem fdL_fu {p : zPt} {ts : List Nat} : ∀ (f g i : Nat), ts.length - i ≤ f → ts.length - i ≤ g → fdL p ts f i = fdL p ts g i := by
  intro f
  induction f with
  | zero =>
    intro g i h1 h2
    cases g with
    | zero => rfl
    | succ g => simp only [fdL]; rw [if_neg (by omega)]
  | succ f ih =>
    intro g i h1 h2
    cases g with
    | zero => simp only [fdL]; rw [if_neg (by omega)]
    | succ g =>
      simp only [fdL]
      by_cases hi : i < ts.length
      · rw [if_pos hi, if_pos hi]
        cases hl : lgE p ts i (ts.length - i) with
        | none => exact ih g (i + 1) (by omega) (by omega)
        | some e =>
          have := lgE_gt _ hl
          show (i, e) :: fdL p ts f e = (i, e) :: fdL p ts g e
          rw [ih g e (by omega) (by omega)]
      · rw [if_neg hi, if_neg hi]
def fdF (p : zPt) (ts : List Nat) (i : Nat) : List (Nat × Nat) := fdL p ts (ts.length - i) i
theorem fdF_end {p : zPt} {ts : List Nat} {i : Nat} (h : ts.length ≤ i) : fdF p ts i = [] := by
  unfold fdF; rw [show ts.length - i = 0 by omega]; rfl
theorem fdF_none {p : zPt} {ts : List Nat} {i : Nat} (h : i < ts.length) (hl : lgE p ts i (ts.length - i) = none) : fdF p ts i = fdF p ts (i + 1) := by
  unfold fdF
  obtain ⟨f, hf⟩ := suc (ts.length - i) (by omega)
  rw [hf] at hl ⊢
  simp only [fdL]
  rw [if_pos h, hf, hl]
  exact fdL_fu _ _ _ (by omega) (by omega)
theorem fdF_some {p : zPt} {ts : List Nat} {i e : Nat} (h : i < ts.length) (hl : lgE p ts i (ts.length - i) = some e) : fdF p ts i = (i, e) :: fdF p ts e := by
  have he := lgE_gt _ hl
  unfold fdF
  obtain ⟨f, hf⟩ := suc (ts.length - i) (by omega)
  rw [hf] at hl ⊢
  simp only [fdL]
  rw [if_pos h, hf, hl]
  show (i, e) :: fdL p ts f e = _
  rw [fdL_fu f (ts.length - e) e (by omega) (by omega)]
def FndC (M : zM) (F : List (Nat × Nat)) : Prop := mI M 27 1 = nI F.length ∧ F.length ≤ 200 ∧ ∀ j, j < F.length → mI M 28 j = nI (F.getD j (0, 0)).1 ∧ mI M 29 j = nI (F.getD j (0, 0)).2
def FndM (M : zM) (F : List (Nat × Nat)) : Prop := mI M 68 42 = nI F.length ∧ F.length ≤ 200 ∧ ∀ j, j < F.length → mI M 101 j = nI (F.getD j (0, 0)).1 ∧ mI M 100 j = nI (F.getD j (0, 0)).2
theorem getD_app2 {F : List (Nat × Nat)} {x : Nat × Nat} {i : Nat} (h : i < F.length + 1) : (F ++ [x]).getD i (0, 0) = if i = F.length then x else F.getD i (0, 0) := by
  simp only [List.getD_eq_getElem?_getD]
  by_cases hi : i = F.length
  · subst hi; simp
  · rw [if_neg hi, List.getElem?_append_left (by omega)]
def CF (M M' : zM) : Prop := M'.1 = M.1 ∧ (∀ a j, mR M' a j = mR M a j) ∧ (∀ a j, mL M' a j = mL M a j) ∧ ∀ a j, ¬ ((a = 27 ∧ (j = 1 ∨ j = 5)) ∨ a = 28 ∨ a = 29) → mI M' a j = mI M a j
theorem CF.txt {M M' : zM} (h : CF M M') {ts : List Nat} (ht : TxtC M ts) : TxtC M' ts := ⟨(h.2.2.2 27 0 (by omega)).trans ht.1, ht.2.1, fun i hi => (h.2.2.2 30 i (by omega)).trans (ht.2.2.1 i hi), ht.2.2.2⟩
theorem CF.pat {M M' : zM} (h : CF M M') {P : Nat} (hP : isP P) {p : zPt} (hp : PatC M P p) : PatC M' P p := by
  obtain ⟨k, e, f, l, fo, se⟩ := p
  have := isP_le hP
  obtain ⟨⟨p1, p2, p3, p4⟩, p5, p6, p7, p8⟩ := hp
  exact ⟨⟨(h.2.2.2 _ _ (by omega)).trans p1, p2, fun i hi => (h.2.2.1 _ _).trans (p3 i hi), fun i hi => (h.2.2.1 _ _).trans (p4 i hi)⟩, (h.2.2.2 _ _ (by omega)).trans p5, (h.2.2.1 _ _).trans p6, (h.2.2.1 _ _).trans p7, fun x hx => (h.2.2.1 _ _).trans (p8 x hx)⟩
theorem Sta_eq {M M' : zM} (h : Sta M) (h1 : M'.1 = M.1) (h2 : ∀ a j, mR M' a j = mR M a j) : Sta M' := ⟨by rw [h1]; exact h.1, fun q hq => (h2 _ _).trans (h.2 q hq)⟩
theorem c_fd {P : Nat} {p : zPt} {ts : List Nat} (hP : isP P) : ∀ (m i fr fuel : Nat) (M : zM) (F : List (Nat × Nat)), Sta M → PatC M P p → TxtC M ts → FndC M F → F.length ≤ i → fr ≤ ts.length → i + m = ts.length → m + 310 < fuel →
    ∃ M', fX8_lookFor_17 fuel M 27 P (nI fr) (nI i) = some ((), M') ∧ CF M M' ∧ mI M' 27 5 = nI 1 ∧ FndC M' (F ++ fdF p ts (max i fr)) := by
  intro m
  induction m with
  | zero =>
    intro i fr fuel M F hS hp hT hF hFi hfr hi hf
    obtain ⟨f, rfl⟩ := suc fuel (by omega)
    have hl200 := hT.2.1
    refine ⟨wI M 27 5 (nI 1), ?_, ⟨rfl, fun _ _ => rfl, fun _ _ => rfl, fun a j q => mI_n (by omega)⟩, mI_e rfl rfl, ?_⟩
    · rw [fX8_lookFor_17]
      simp (disch := omega) only [q_eM, q_Me, q_Mlt, q_Mle, q_leM, q_ltM, q_le, q_nle, q_lt, q_nlt, q_neq, zin_nI, nI_clamp, nI_add, pk_mul, pk_sub, mI_e, mI_n, mL_e, mL_n, mR_e, mR_n, i0, i1, ↓reduceIte, ↓bI_t, ↓bI_f, Bool.false_eq_true, eq_self, chk_true, bnd_just, bnd2_just, app_t, beq_self_eq_true, mK_wI, mK_wL, mK_wR, mK_wIr, mK_wLr, mN_wI, mN_wL, mN_wR, mN_wIr, mN_wLr, mR_wI, mR_wL, mR_wIr, mR_wLr, mI_wL, mI_wR, mI_wLr, mL_wI, mL_wR, mL_wIr, sk_27 hS, hT.1]
    · rw [fdF_end (by omega), List.append_nil]
      exact ⟨by rw [mI_n (by omega)]; exact hF.1, hF.2.1, fun j hj => ⟨by rw [mI_n (by omega)]; exact (hF.2.2 j hj).1, by rw [mI_n (by omega)]; exact (hF.2.2 j hj).2⟩⟩
  | succ m ih =>
    intro i fr fuel M F hS hp hT hF hFi hfr hi hf
    obtain ⟨f, rfl⟩ := suc fuel (by omega)
    have hl200 := hT.2.1
    by_cases hif : fr ≤ i
    · have eL := c_longest hS hP hp hT (s := i) (by omega) f (by omega)
      cases hl : lgE p ts i (ts.length - i) with
      | none =>
        obtain ⟨M', r1, r2, r3, r4⟩ := ih (i + 1) fr f M F hS hp hT hF (by omega) hfr (by omega) (by omega)
        refine ⟨M', ?_, r2, r3, ?_⟩
        · rw [fX8_lookFor_17]
          unfold fX8_lookFor_40 fX8_lookFor_82
          rw [hl] at eL
          simp (disch := omega) only [q_eM, q_Me, q_Mlt, q_Mle, q_leM, q_ltM, q_le, q_nle, q_lt, q_nlt, q_neq, zin_nI, nI_clamp, nI_add, pk_mul, pk_sub, mI_e, mI_n, mL_e, mL_n, mR_e, mR_n, i0, i1, ↓reduceIte, ↓bI_t, ↓bI_f, Bool.false_eq_true, eq_self, chk_true, bnd_just, bnd2_just, app_t, beq_self_eq_true, mK_wI, mK_wL, mK_wR, mK_wIr, mK_wLr, mN_wI, mN_wL, mN_wR, mN_wIr, mN_wLr, mR_wI, mR_wL, mR_wIr, mR_wLr, mI_wL, mI_wR, mI_wLr, mL_wI, mL_wR, mL_wIr, ↓neg1, sk_27 hS, hT.1, eL, eI]
          exact r1
        · rw [show max i fr = i by omega, fdF_none (by omega) hl]
          rw [show max (i + 1) fr = i + 1 by omega] at r4
          exact r4
      | some e =>
        have he := lgE_gt _ hl
        rw [hl] at eL
        have hS1 : Sta (wI (wI (wI M 28 F.length (nI i)) 29 F.length (nI e)) 27 1 (nI (F.length + 1))) := hS
        have hCF : CF M (wI (wI (wI M 28 F.length (nI i)) 29 F.length (nI e)) 27 1 (nI (F.length + 1))) := ⟨rfl, fun _ _ => rfl, fun _ _ => rfl, fun a j q => by rw [mI_n (by omega), mI_n (by omega), mI_n (by omega)]⟩
        obtain ⟨M', r1, r2, r3, r4⟩ := ih (i + 1) e f (wI (wI (wI M 28 F.length (nI i)) 29 F.length (nI e)) 27 1 (nI (F.length + 1))) (F ++ [(i, e)]) hS1 (hCF.pat hP hp) (hCF.txt hT) (by
          refine ⟨by simp (disch := omega) only [q_eM, q_Me, q_Mlt, q_Mle, q_leM, q_ltM, q_le, q_nle, q_lt, q_nlt, q_neq, zin_nI, nI_clamp, nI_add, pk_mul, pk_sub, mI_e, mI_n, mL_e, mL_n, mR_e, mR_n, i0, i1, ↓reduceIte, ↓bI_t, ↓bI_f, Bool.false_eq_true, eq_self, chk_true, bnd_just, bnd2_just, app_t, beq_self_eq_true, mK_wI, mK_wL, mK_wR, mK_wIr, mK_wLr, mN_wI, mN_wL, mN_wR, mN_wIr, mN_wLr, mR_wI, mR_wL, mR_wIr, mR_wLr, mI_wL, mI_wR, mI_wLr, mL_wI, mL_wR, mL_wIr, List.length_append, List.length_cons, List.length_nil], by simp only [List.length_append, List.length_cons, List.length_nil]; omega, fun j hj => ?_⟩
          simp only [List.length_append, List.length_cons, List.length_nil] at hj
          rw [getD_app2 (by omega)]
          by_cases hjF : j = F.length
          · rw [if_pos hjF]
            constructor
            · rw [mI_n (by omega), mI_n (by omega), mI_e rfl hjF]
            · rw [mI_n (by omega), mI_e rfl hjF]
          · rw [if_neg hjF]
            constructor
            · rw [mI_n (by omega), mI_n (by omega), mI_n (by omega)]; exact (hF.2.2 j (by omega)).1
            · rw [mI_n (by omega), mI_n (by omega), mI_n (by omega)]; exact (hF.2.2 j (by omega)).2) (by simp only [List.length_append, List.length_cons, List.length_nil]; omega) (by omega) (by omega) (by omega)
        refine ⟨M', ?_, ⟨r2.1, r2.2.1, r2.2.2.1, fun a j q => (r2.2.2.2 a j q).trans (hCF.2.2.2 a j q)⟩, r3, ?_⟩
        · rw [fX8_lookFor_17]
          unfold fX8_lookFor_40 fX8_lookFor_82
          simp (disch := omega) only [q_eM, q_Me, q_Mlt, q_Mle, q_leM, q_ltM, q_le, q_nle, q_lt, q_nlt, q_neq, zin_nI, nI_clamp, nI_add, pk_mul, pk_sub, mI_e, mI_n, mL_e, mL_n, mR_e, mR_n, i0, i1, ↓reduceIte, ↓bI_t, ↓bI_f, Bool.false_eq_true, eq_self, chk_true, bnd_just, bnd2_just, app_t, beq_self_eq_true, mK_wI, mK_wL, mK_wR, mK_wIr, mK_wLr, mN_wI, mN_wL, mN_wR, mN_wIr, mN_wLr, mR_wI, mR_wL, mR_wIr, mR_wLr, mI_wL, mI_wR, mI_wLr, mL_wI, mL_wR, mL_wIr, ↓neg1, sk_27 hS, sk_28 hS, sk_29 hS, sn_28 hS, sn_29 hS, sr_27_2 hS, sr_27_3 hS, hT.1, eL, eI, hF.1]
          exact r1
        · rw [show max i fr = i by omega, fdF_some (by omega) hl]
          rw [show max (i + 1) e = e by omega, List.append_assoc] at r4
          exact r4
    · obtain ⟨M', r1, r2, r3, r4⟩ := ih (i + 1) fr f M F hS hp hT hF (by omega) hfr (by omega) (by omega)
      refine ⟨M', ?_, r2, r3, ?_⟩
      · rw [fX8_lookFor_17]
        unfold fX8_lookFor_40 fX8_lookFor_82
        simp (disch := omega) only [q_eM, q_Me, q_Mlt, q_Mle, q_leM, q_ltM, q_le, q_nle, q_lt, q_nlt, q_neq, zin_nI, nI_clamp, nI_add, pk_mul, pk_sub, mI_e, mI_n, mL_e, mL_n, mR_e, mR_n, i0, i1, ↓reduceIte, ↓bI_t, ↓bI_f, Bool.false_eq_true, eq_self, chk_true, bnd_just, bnd2_just, app_t, beq_self_eq_true, mK_wI, mK_wL, mK_wR, mK_wIr, mK_wLr, mN_wI, mN_wL, mN_wR, mN_wIr, mN_wLr, mR_wI, mR_wL, mR_wIr, mR_wLr, mI_wL, mI_wR, mI_wLr, mL_wI, mL_wR, mL_wIr, ↓neg1, sk_27 hS, hT.1]
        exact r1
      · rw [show max i fr = fr by omega]
        rw [show max (i + 1) fr = fr by omega] at r4
        exact r4
theorem c_look {P : Nat} {p : zPt} {ts : List Nat} (hP : isP P) {M : zM} (hS : Sta M) (hp : PatC M P p) (hT : TxtC M ts) {lk : Bool} (h5 : mI M 27 5 = bI lk) (hlk : lk = true → FndC M (fdF p ts 0)) (N : Nat) (hN : 600 ≤ N) :
    ∃ M', fX8_lookFor N M 27 P = some ((), M') ∧ CF M M' ∧ mI M' 27 5 = nI 1 ∧ FndC M' (fdF p ts 0) := by
  have hl200 := hT.2.1
  unfold fX8_lookFor
  cases lk with
  | true =>
    refine ⟨M, ?_, ⟨rfl, fun _ _ => rfl, fun _ _ => rfl, fun _ _ _ => rfl⟩, h5, hlk rfl⟩
    simp (disch := omega) only [q_eM, q_Me, q_Mlt, q_Mle, q_leM, q_ltM, q_le, q_nle, q_lt, q_nlt, q_neq, zin_nI, nI_clamp, nI_add, pk_mul, pk_sub, mI_e, mI_n, mL_e, mL_n, mR_e, mR_n, i0, i1, ↓reduceIte, ↓bI_t, ↓bI_f, Bool.false_eq_true, eq_self, chk_true, bnd_just, bnd2_just, app_t, beq_self_eq_true, mK_wI, mK_wL, mK_wR, mK_wIr, mK_wLr, mN_wI, mN_wL, mN_wR, mN_wIr, mN_wLr, mR_wI, mR_wL, mR_wIr, mR_wLr, mI_wL, mI_wR, mI_wLr, mL_wI, mL_wR, mL_wIr, sk_27 hS, h5]
  | false =>
    have hCF : CF M (wI M 27 1 (nI 0)) := ⟨rfl, fun _ _ => rfl, fun _ _ => rfl, fun a j q => mI_n (by omega)⟩
    obtain ⟨M', r1, r2, r3, r4⟩ := c_fd (ts := ts) hP ts.length 0 0 N (wI M 27 1 (nI 0)) [] hS (hCF.pat hP hp) (hCF.txt hT) ⟨mI_e rfl rfl, by simp, fun j hj => by simp at hj⟩ (by simp) (by omega) (by omega) (by omega)
    refine ⟨M', ?_, ⟨r2.1, r2.2.1, r2.2.2.1, fun a j q => (r2.2.2.2 a j q).trans (hCF.2.2.2 a j q)⟩, r3, r4⟩
    simp (disch := omega) only [q_eM, q_Me, q_Mlt, q_Mle, q_leM, q_ltM, q_le, q_nle, q_lt, q_nlt, q_neq, zin_nI, nI_clamp, nI_add, pk_mul, pk_sub, mI_e, mI_n, mL_e, mL_n, mR_e, mR_n, i0, i1, ↓reduceIte, ↓bI_t, ↓bI_f, Bool.false_eq_true, eq_self, chk_true, bnd_just, bnd2_just, app_t, beq_self_eq_true, mK_wI, mK_wL, mK_wR, mK_wIr, mK_wLr, mN_wI, mN_wL, mN_wR, mN_wIr, mN_wLr, mR_wI, mR_wL, mR_wIr, mR_wLr, mI_wL, mI_wR, mI_wLr, mL_wI, mL_wR, mL_wIr, sk_27 hS, h5]
    exact r1
def XF (M M' : zM) : Prop := M'.1 = M.1 ∧ (∀ a j, mR M' a j = mR M a j) ∧ (∀ a j, mL M' a j = mL M a j) ∧ ∀ a j, ¬ ((a = 68 ∧ (j = 0 ∨ j = 42)) ∨ a = 100 ∨ a = 101) → mI M' a j = mI M a j
theorem XF.txt {M M' : zM} (h : XF M M') {ts : List Nat} (ht : TxtM M ts) : TxtM M' ts := ⟨(h.2.2.2 68 4 (by omega)).trans ht.1, ht.2.1, fun i hi => (h.2.2.2 70 i (by omega)).trans (ht.2.2.1 i hi), ht.2.2.2⟩
theorem XF.pat {M M' : zM} (h : XF M M') {x : Nat} {p : zPt} (hp : PatQ M x p) : PatQ M' x p := by
  obtain ⟨k, e, f, l, fo, se⟩ := p
  obtain ⟨h1, h2, h3, h4, h5, h6, h7⟩ := hp
  exact ⟨(h.2.2.2 _ _ (by omega)).trans h1, h2, (h.2.2.2 _ _ (by omega)).trans h3, (h.2.2.1 _ _).trans h4, (h.2.2.1 _ _).trans h5, fun i hi => (h.2.2.1 _ _).trans (h6 i hi), fun i hi => (h.2.2.1 _ _).trans (h7 i hi)⟩
theorem m_fd {p : zPt} {ts : List Nat} (hOK : PtOK p) : ∀ (m i fuel : Nat) (M : zM) (F : List (Nat × Nat)), Sta M → PatQ M 0 p → TxtM M ts → FndM M F → F.length ≤ i → i ≤ ts.length → ts.length ≤ i + m → m + 460 < fuel →
    ∃ M', fX10_findAll_7 fuel M 68 (nI i) = some ((), M') ∧ XF M M' ∧ mI M' 68 0 = mI M 68 0 ∧ FndM M' (F ++ fdF p ts i) := by
  intro m
  induction m using Nat.strongRecOn with
  | ind m ih =>
    intro i fuel M F hS hp hT hF hFi hil hi hf
    obtain ⟨f, rfl⟩ := suc fuel (by omega)
    have hl200 := hT.2.1
    by_cases hie : i < ts.length
    · have eL := m_longest hS hp hOK hT (s := i) (by omega) f (by omega)
      cases hl : lgE p ts i (ts.length - i) with
      | none =>
        obtain ⟨M', r1, r2, r3, r4⟩ := ih (m - 1) (by omega) (i + 1) f M F hS hp hT hF (by omega) (by omega) (by omega) (by omega)
        refine ⟨M', ?_, r2, r3, by rw [fdF_none hie hl]; exact r4⟩
        rw [hl] at eL
        rw [fX10_findAll_7]
        unfold fX10_findAll_64
        simp (disch := omega) only [q_eM, q_Me, q_Mlt, q_Mle, q_leM, q_ltM, q_le, q_nle, q_lt, q_nlt, q_neq, zin_nI, nI_clamp, nI_add, pk_mul, pk_sub, mI_e, mI_n, mL_e, mL_n, mR_e, mR_n, i0, i1, ↓reduceIte, ↓bI_t, ↓bI_f, Bool.false_eq_true, eq_self, chk_true, bnd_just, bnd2_just, app_t, beq_self_eq_true, mK_wI, mK_wL, mK_wR, mK_wIr, mK_wLr, mN_wI, mN_wL, mN_wR, mN_wIr, mN_wLr, mR_wI, mR_wL, mR_wIr, mR_wLr, mI_wL, mI_wR, mI_wLr, mL_wI, mL_wR, mL_wIr, ↓neg1, sk_68 hS, hT.1, eL, eI]
        exact r1
      | some e =>
        have he := lgE_gt _ hl
        rw [hl] at eL
        have hS1 : Sta (wI (wI (wI M 101 F.length (nI i)) 100 F.length (nI e)) 68 42 (nI (F.length + 1))) := hS
        have hXF : XF M (wI (wI (wI M 101 F.length (nI i)) 100 F.length (nI e)) 68 42 (nI (F.length + 1))) := ⟨rfl, fun _ _ => rfl, fun _ _ => rfl, fun a j q => by rw [mI_n (by omega), mI_n (by omega), mI_n (by omega)]⟩
        obtain ⟨M', r1, r2, r3, r4⟩ := ih (m - (e - i)) (by omega) e f (wI (wI (wI M 101 F.length (nI i)) 100 F.length (nI e)) 68 42 (nI (F.length + 1))) (F ++ [(i, e)]) hS1 (hXF.pat hp) (hXF.txt hT) (by
          refine ⟨by simp (disch := omega) only [q_eM, q_Me, q_Mlt, q_Mle, q_leM, q_ltM, q_le, q_nle, q_lt, q_nlt, q_neq, zin_nI, nI_clamp, nI_add, pk_mul, pk_sub, mI_e, mI_n, mL_e, mL_n, mR_e, mR_n, i0, i1, ↓reduceIte, ↓bI_t, ↓bI_f, Bool.false_eq_true, eq_self, chk_true, bnd_just, bnd2_just, app_t, beq_self_eq_true, mK_wI, mK_wL, mK_wR, mK_wIr, mK_wLr, mN_wI, mN_wL, mN_wR, mN_wIr, mN_wLr, mR_wI, mR_wL, mR_wIr, mR_wLr, mI_wL, mI_wR, mI_wLr, mL_wI, mL_wR, mL_wIr, List.length_append, List.length_cons, List.length_nil], by simp only [List.length_append, List.length_cons, List.length_nil]; omega, fun j hj => ?_⟩
          simp only [List.length_append, List.length_cons, List.length_nil] at hj
          rw [getD_app2 (by omega)]
          by_cases hjF : j = F.length
          · rw [if_pos hjF]
            constructor
            · rw [mI_n (by omega), mI_n (by omega), mI_e rfl hjF]
            · rw [mI_n (by omega), mI_e rfl hjF]
          · rw [if_neg hjF]
            constructor
            · rw [mI_n (by omega), mI_n (by omega), mI_n (by omega)]; exact (hF.2.2 j (by omega)).1
            · rw [mI_n (by omega), mI_n (by omega), mI_n (by omega)]; exact (hF.2.2 j (by omega)).2) (by simp only [List.length_append, List.length_cons, List.length_nil]; omega) (by omega) (by omega) (by omega)
        refine ⟨M', ?_, ⟨r2.1, r2.2.1, r2.2.2.1, fun a j q => (r2.2.2.2 a j q).trans (hXF.2.2.2 a j q)⟩, r3.trans (by rw [mI_n (by omega), mI_n (by omega), mI_n (by omega)]), ?_⟩
        · rw [fX10_findAll_7]
          unfold fX10_findAll_64
          simp (disch := omega) only [q_eM, q_Me, q_Mlt, q_Mle, q_leM, q_ltM, q_le, q_nle, q_lt, q_nlt, q_neq, zin_nI, nI_clamp, nI_add, pk_mul, pk_sub, mI_e, mI_n, mL_e, mL_n, mR_e, mR_n, i0, i1, ↓reduceIte, ↓bI_t, ↓bI_f, Bool.false_eq_true, eq_self, chk_true, bnd_just, bnd2_just, app_t, beq_self_eq_true, mK_wI, mK_wL, mK_wR, mK_wIr, mK_wLr, mN_wI, mN_wL, mN_wR, mN_wIr, mN_wLr, mR_wI, mR_wL, mR_wIr, mR_wLr, mI_wL, mI_wR, mI_wLr, mL_wI, mL_wR, mL_wIr, ↓neg1, sk_68 hS, sk_100 hS, sk_101 hS, sn_100 hS, sn_101 hS, sr_68_40 hS, sr_68_41 hS, hT.1, eL, eI, hF.1]
          exact r1
        · rw [fdF_some hie hl]
          rw [List.append_assoc] at r4
          exact r4
    · refine ⟨M, ?_, ⟨rfl, fun _ _ => rfl, fun _ _ => rfl, fun _ _ _ => rfl⟩, rfl, ?_⟩
      · rw [fX10_findAll_7]
        simp (disch := omega) only [q_eM, q_Me, q_Mlt, q_Mle, q_leM, q_ltM, q_le, q_nle, q_lt, q_nlt, q_neq, zin_nI, nI_clamp, nI_add, pk_mul, pk_sub, mI_e, mI_n, mL_e, mL_n, mR_e, mR_n, i0, i1, ↓reduceIte, ↓bI_t, ↓bI_f, Bool.false_eq_true, eq_self, chk_true, bnd_just, bnd2_just, app_t, beq_self_eq_true, mK_wI, mK_wL, mK_wR, mK_wIr, mK_wLr, mN_wI, mN_wL, mN_wR, mN_wIr, mN_wLr, mR_wI, mR_wL, mR_wIr, mR_wLr, mI_wL, mI_wR, mI_wLr, mL_wI, mL_wR, mL_wIr, sk_68 hS, hT.1]
      · rw [fdF_end (by omega), List.append_nil]; exact hF
theorem m_findAll {p : zPt} {ts : List Nat} (hOK : PtOK p) {M : zM} (hS : Sta M) (hp : PatQ M 0 p) (hT : TxtM M ts) (N : Nat) (hN : 800 ≤ N) :
    ∃ M', fX10_findAll N M 68 = some ((), M') ∧ XF M M' ∧ mI M' 68 0 = mI M 68 0 ∧ FndM M' (fdF p ts 0) := by
  have hl200 := hT.2.1
  have hXF : XF M (wI M 68 42 (nI 0)) := ⟨rfl, fun _ _ => rfl, fun _ _ => rfl, fun a j q => mI_n (by omega)⟩
  obtain ⟨M', r1, r2, r3, r4⟩ := m_fd (ts := ts) hOK ts.length 0 N (wI M 68 42 (nI 0)) [] hS (hXF.pat hp) (hXF.txt hT) ⟨mI_e rfl rfl, by simp, fun j hj => by simp at hj⟩ (by simp) (by omega) (by omega) (by omega)
  refine ⟨M', ?_, ⟨r2.1, r2.2.1, r2.2.2.1, fun a j q => (r2.2.2.2 a j q).trans (hXF.2.2.2 a j q)⟩, r3.trans (mI_n (by omega)), r4⟩
  unfold fX10_findAll
  simp (disch := omega) only [q_eM, q_Me, q_Mlt, q_Mle, q_leM, q_ltM, q_le, q_nle, q_lt, q_nlt, q_neq, zin_nI, nI_clamp, nI_add, pk_mul, pk_sub, mI_e, mI_n, mL_e, mL_n, mR_e, mR_n, i0, i1, ↓reduceIte, ↓bI_t, ↓bI_f, Bool.false_eq_true, eq_self, chk_true, bnd_just, bnd2_just, app_t, beq_self_eq_true, mK_wI, mK_wL, mK_wR, mK_wIr, mK_wLr, mN_wI, mN_wL, mN_wR, mN_wIr, mN_wLr, mR_wI, mR_wL, mR_wIr, mR_wLr, mI_wL, mI_wR, mI_wLr, mL_wI, mL_wR, mL_wIr, sk_68 hS]
  exact r1
end ZFINDS
