/-! what follows a set at a letter; whole words; finds -/
section ZLOOK
def pk (p : zPt) : Nat := p.1
def pe (p : zPt) : Bool := p.2.1
def pf (p : zPt) : Int64 := p.2.2.1
def pl (p : zPt) : Int64 := p.2.2.2.1
def pfo (p : zPt) : Nat → Int64 := p.2.2.2.2.1
def pse (p : zPt) : Nat → Int64 := p.2.2.2.2.2
def PtOK (p : zPt) : Prop := pk p ≤ 60 ∧ zBd 0 (pk p) (pf p) ∧ ∀ i, i < pk p → zBd 0 (pk p) (pfo p i)
def awt (p : zPt) (b : Bool) (s : Int64) : Int64 := if b then pf p else orF (pfo p) s (pk p)
def znxt (p : zPt) (b : Bool) (s : Int64) (l : Nat) : Int64 := awt p b s &&& havF (pse p) l (pk p)
theorem awt_bd {p : zPt} (h : PtOK p) (b : Bool) (s : Int64) : ∀ j, jb (awt p b s) j = true → j < pk p := by
  intro j hj
  unfold awt at hj
  cases b with
  | true => rw [if_pos rfl] at hj; exact (h.2.1 j hj).2
  | false =>
    rw [if_neg (by decide), jb_orF] at hj
    obtain ⟨i, h1, h2, h3⟩ := hj
    exact (h.2.2 i h1 j h3).2
/-- the model's step -/
theorem m_go74 {M : zM} (hS : Sta M) {x : Nat} (hx : x < 3) {p : zPt} (h : PatQ M x p) {l : Nat} (hl : l < 36) (s : Int64) : ∀ (m i fuel : Nat), i + m = pk p → m < fuel →
    fX10_goOn_74 fuel M 68 (nI x) (nI l) (mskF (pse p) l s i) (nI i) = some (mskF (pse p) l s (pk p), M) := by
  obtain ⟨k, e, f, la, fo, se⟩ := p
  obtain ⟨h1, h2, h3, h4, h5, h6, h7⟩ := h
  show ∀ (m i fuel : Nat), i + m = k → m < fuel → fX10_goOn_74 fuel M 68 (nI x) (nI l) (mskF se l s i) (nI i) = some (mskF se l s k, M)
  intro m
  induction m with
  | zero =>
    intro i fuel hi hf
    obtain ⟨f, rfl⟩ := suc fuel (by omega)
    rw [fX10_goOn_74]
    simp (disch := omega) only [q_eM, q_Me, q_Mlt, q_Mle, q_leM, q_ltM, q_le, q_nle, q_lt, q_nlt, q_neq, zin_nI, nI_clamp, nI_add, pk_mul, pk_sub, mI_e, mI_n, mL_e, mL_n, mR_e, mR_n, i0, i1, ↓reduceIte, ↓bI_t, ↓bI_f, Bool.false_eq_true, eq_self, chk_true, bnd_just, bnd2_just, app_t, beq_self_eq_true, mK_wI, mK_wL, mK_wR, mK_wIr, mK_wLr, mN_wI, mN_wL, mN_wR, mN_wIr, mN_wLr, mR_wI, mR_wL, mR_wIr, mR_wLr, mI_wL, mI_wR, mI_wLr, mL_wI, mL_wR, mL_wIr, sk_68 hS, sk_72 hS, sn_72 hS, sr_68_7 hS, h1]
    rw [show i = k by omega]
  | succ m ih =>
    intro i fuel hi hf
    obtain ⟨f, rfl⟩ := suc fuel (by omega)
    have h9 := ih (i + 1) f (by omega) (by omega)
    rw [fX10_goOn_74]
    simp (disch := omega) only [q_eM, q_Me, q_Mlt, q_Mle, q_leM, q_ltM, q_le, q_nle, q_lt, q_nlt, q_neq, zin_nI, nI_clamp, nI_add, pk_mul, pk_sub, mI_e, mI_n, mL_e, mL_n, mR_e, mR_n, i0, i1, ↓reduceIte, ↓bI_t, ↓bI_f, Bool.false_eq_true, eq_self, chk_true, bnd_just, bnd2_just, app_t, beq_self_eq_true, mK_wI, mK_wL, mK_wR, mK_wIr, mK_wLr, mN_wI, mN_wL, mN_wR, mN_wIr, mN_wLr, mR_wI, mR_wL, mR_wIr, mR_wLr, mI_wL, mI_wR, mI_wLr, mL_wI, mL_wR, mL_wIr, i60, sk_68 hS, sk_72 hS, sk_77 hS, sn_72 hS, sn_77 hS, sr_68_7 hS, sr_68_12 hS, h1, h7 i, m_hasBit f M (se i) (show l < 64 by omega)]
    unfold fX10_goOn_121
    simp only [chk_true, bnd_just, bnd2_just, app_t, beq_self_eq_true, mK_wI, mK_wL, mK_wR, mK_wIr, mK_wLr, mN_wI, mN_wL, mN_wR, mN_wIr, mN_wLr, mR_wI, mR_wL, mR_wIr, mR_wLr, mI_wL, mI_wR, mI_wLr, mL_wI, mL_wR, mL_wIr, i1, nI_add]
    simp only [mskF] at h9
    by_cases hb : jb (se i) l = true
    · rw [if_pos hb] at h9
      rw [hb, if_neg (by decide)]; exact h9
    · rw [if_neg hb] at h9
      rw [jb_f hb, if_pos (by decide)]; exact h9
theorem m_go19 {M : zM} (hS : Sta M) {x : Nat} (hx : x < 3) {p : zPt} (h : PatQ M x p) {l : Nat} (hl : l < 36) (s : Int64) : ∀ (m i fuel : Nat), i + m = pk p → m + 62 < fuel →
    fX10_goOn_19 fuel M 68 (nI x) (nI 0) s (nI l) (orF (pfo p) s i) (nI i) = some (mskF (pse p) l (orF (pfo p) s (pk p)) (pk p), M) := by
  have hk60 : pk p ≤ 60 := h.2.1
  have h74 := fun x' => m_go74 hS hx h hl x'
  obtain ⟨k, e, f, la, fo, se⟩ := p
  obtain ⟨h1, h2, h3, h4, h5, h6, h7⟩ := h
  show ∀ (m i fuel : Nat), i + m = k → m + 62 < fuel → fX10_goOn_19 fuel M 68 (nI x) (nI 0) s (nI l) (orF fo s i) (nI i) = some (mskF se l (orF fo s k) k, M)
  intro m
  induction m with
  | zero =>
    intro i fuel hi hf
    obtain ⟨f, rfl⟩ := suc fuel (by omega)
    rw [fX10_goOn_19]
    unfold fX10_goOn_71
    simp (disch := omega) only [q_eM, q_Me, q_Mlt, q_Mle, q_leM, q_ltM, q_le, q_nle, q_lt, q_nlt, q_neq, zin_nI, nI_clamp, nI_add, pk_mul, pk_sub, mI_e, mI_n, mL_e, mL_n, mR_e, mR_n, i0, i1, ↓reduceIte, ↓bI_t, ↓bI_f, Bool.false_eq_true, eq_self, chk_true, bnd_just, bnd2_just, app_t, beq_self_eq_true, mK_wI, mK_wL, mK_wR, mK_wIr, mK_wLr, mN_wI, mN_wL, mN_wR, mN_wIr, mN_wLr, mR_wI, mR_wL, mR_wIr, mR_wLr, mI_wL, mI_wR, mI_wLr, mL_wI, mL_wR, mL_wIr, sk_68 hS, sk_72 hS, sn_72 hS, sr_68_7 hS, h1]
    have := h74 (orF fo s k) k 0 f (by show 0 + k = k; omega) (by omega)
    rw [show i = k by omega]
    exact this
  | succ m ih =>
    intro i fuel hi hf
    obtain ⟨f, rfl⟩ := suc fuel (by omega)
    have h9 := ih (i + 1) f (by omega) (by omega)
    rw [fX10_goOn_19]
    unfold fX10_goOn_63
    simp (disch := omega) only [q_eM, q_Me, q_Mlt, q_Mle, q_leM, q_ltM, q_le, q_nle, q_lt, q_nlt, q_neq, zin_nI, nI_clamp, nI_add, pk_mul, pk_sub, mI_e, mI_n, mL_e, mL_n, mR_e, mR_n, i0, i1, ↓reduceIte, ↓bI_t, ↓bI_f, Bool.false_eq_true, eq_self, chk_true, bnd_just, bnd2_just, app_t, beq_self_eq_true, mK_wI, mK_wL, mK_wR, mK_wIr, mK_wLr, mN_wI, mN_wL, mN_wR, mN_wIr, mN_wLr, mR_wI, mR_wL, mR_wIr, mR_wLr, mI_wL, mI_wR, mI_wLr, mL_wI, mL_wR, mL_wIr, i60, sk_68 hS, sk_72 hS, sk_76 hS, sn_72 hS, sn_76 hS, sr_68_7 hS, sr_68_11 hS, h1, h6 i, m_hasBit f M s (show i < 64 by omega)]
    simp only [orF] at h9
    by_cases hb : jb s i = true
    · rw [if_pos hb] at h9
      rw [hb, if_neg (by decide)]; exact h9
    · rw [if_neg hb] at h9
      rw [jb_f hb, if_pos (by decide)]; exact h9
theorem m_goOn {M : zM} (hS : Sta M) {x : Nat} (hx : x < 3) {p : zPt} (h : PatQ M x p) (hOK : PtOK p) {l : Nat} (hl : l < 36) (b : Bool) (s : Int64) (N : Nat) (hN : 200 ≤ N) :
    fX10_goOn N M 68 (nI x) (bI b) s (nI l) = some (znxt p b s l, M) := by
  have hk60 : pk p ≤ 60 := h.2.1
  have e1 : znxt p b s l = mskF (pse p) l (awt p b s) (pk p) := (msk_hav (by omega) (awt_bd hOK b s)).symm
  rw [e1]
  unfold fX10_goOn fX10_goOn_14
  cases b with
  | false =>
    have := m_go19 hS hx h hl s (pk p) 0 N (by omega) (by omega)
    simp only [orF] at this
    simp (disch := omega) only [i0, ↓bI_f, ↓reduceIte]
    exact this
  | true =>
    have h74 := m_go74 hS hx h hl (pf p) (pk p) 0 (N - 1) (by omega) (by omega)
    obtain ⟨n, rfl⟩ := suc N (by omega)
    have h1 : mI M 72 x = nI (pk p) := h.1
    have h4 : mL M 74 x = pf p := h.2.2.2.1
    simp (disch := omega) only [q_eM, q_Me, q_Mlt, q_Mle, q_leM, q_ltM, q_le, q_nle, q_lt, q_nlt, q_neq, zin_nI, nI_clamp, nI_add, pk_mul, pk_sub, mI_e, mI_n, mL_e, mL_n, mR_e, mR_n, i0, i1, ↓reduceIte, ↓bI_t, ↓bI_f, Bool.false_eq_true, eq_self, chk_true, bnd_just, bnd2_just, app_t, beq_self_eq_true, mK_wI, mK_wL, mK_wR, mK_wIr, mK_wLr, mN_wI, mN_wL, mN_wR, mN_wIr, mN_wLr, mR_wI, mR_wL, mR_wIr, mR_wLr, mI_wL, mI_wR, mI_wLr, mL_wI, mL_wR, mL_wIr, sk_68 hS, sk_72 hS, sk_74 hS, sn_72 hS, sn_74 hS, sr_68_7 hS, sr_68_9 hS, h1, h4]
    rw [fX10_goOn_19]
    unfold fX10_goOn_71
    by_cases hk0 : pk p = 0
    · simp (disch := omega) only [q_eM, q_Me, q_Mlt, q_Mle, q_leM, q_ltM, q_le, q_nle, q_lt, q_nlt, q_neq, zin_nI, nI_clamp, nI_add, pk_mul, pk_sub, mI_e, mI_n, mL_e, mL_n, mR_e, mR_n, i0, i1, ↓reduceIte, ↓bI_t, ↓bI_f, Bool.false_eq_true, eq_self, chk_true, bnd_just, bnd2_just, app_t, beq_self_eq_true, mK_wI, mK_wL, mK_wR, mK_wIr, mK_wLr, mN_wI, mN_wL, mN_wR, mN_wIr, mN_wLr, mR_wI, mR_wL, mR_wIr, mR_wLr, mI_wL, mI_wR, mI_wLr, mL_wI, mL_wR, mL_wIr, sk_68 hS, sk_72 hS, sk_74 hS, sn_72 hS, sn_74 hS, sr_68_7 hS, sr_68_9 hS, h1, h4]
      exact h74
    · simp (disch := omega) only [q_eM, q_Me, q_Mlt, q_Mle, q_leM, q_ltM, q_le, q_nle, q_lt, q_nlt, q_neq, zin_nI, nI_clamp, nI_add, pk_mul, pk_sub, mI_e, mI_n, mL_e, mL_n, mR_e, mR_n, i0, i1, ↓reduceIte, ↓bI_t, ↓bI_f, Bool.false_eq_true, eq_self, chk_true, bnd_just, bnd2_just, app_t, beq_self_eq_true, mK_wI, mK_wL, mK_wR, mK_wIr, mK_wLr, mN_wI, mN_wL, mN_wR, mN_wIr, mN_wLr, mR_wI, mR_wL, mR_wIr, mR_wLr, mI_wL, mI_wR, mI_wLr, mL_wI, mL_wR, mL_wIr, sk_68 hS, sk_72 hS, sk_74 hS, sn_72 hS, sn_74 hS, sr_68_7 hS, sr_68_9 hS, h1, h4]
      exact h74
/-- the set zmet after some letters from a place -/
def zmet (p : zPt) (ts : List Nat) (s : Nat) : Nat → Int64
  | 0 => 0
  | i + 1 => znxt p (decide (i = 0)) (zmet p ts s i) (ts.getD (s + i) 0)
def wrd (p : zPt) (ts : List Nat) (i : Nat) : Bool := if i = 0 then pe p else decide (zmet p ts 0 i &&& pl p ≠ 0)
theorem PatC.k {M : zM} {P : Nat} {p : zPt} (h : PatC M P p) : mI M P 0 = nI (pk p) := h.1.1
theorem PatC.k60 {M : zM} {P : Nat} {p : zPt} (h : PatC M P p) : pk p ≤ 60 := h.1.2.1
theorem PatC.hav {M : zM} {P : Nat} {p : zPt} (h : PatC M P p) {x : Nat} (hx : x < 36) : mL M (P + 3) x = havF (pse p) x (pk p) := h.2.2.2.2 x hx
theorem c_beh {M : zM} {P : Nat} {p : zPt} (hS : Sta M) (hP : isP P) (h : PatC M P p) (set : Int64) (N : Nat) (hN : 61 ≤ N) : fX4_behindAny N M P set = some (awt p false set, M) := by
  rw [c_behindAny hS hP h.k h.k60 set N hN]
  congr 2
  exact orF_congr h.1.2.2.1
theorem txt_lt {M : zM} {ts : List Nat} (h : TxtC M ts) (i : Nat) : ts.getD i 0 < 36 := by
  rw [List.getD_eq_getElem?_getD]
  cases hx : ts[i]? with
  | none => simp
  | some x => exact h.2.2.2 x (List.mem_of_getElem? hx)
theorem c_word {M : zM} {P : Nat} {p : zPt} {ts : List Nat} (hS : Sta M) (hP : isP P) (h : PatC M P p) (hT : TxtC M ts) : ∀ (m i fuel : Nat), i + m = ts.length → m + 62 < fuel →
    fX8_isWordOf_13 fuel M 27 P (bI (wrd p ts i)) (awt p (decide (i = 0)) (zmet p ts 0 i)) (nI i) = some (bI (wrd p ts ts.length), M) := by
  have hl200 := hT.2.1
  have g3 : mL M P 3 = pl p := h.2.2.2.1
  intro m
  induction m with
  | zero =>
    intro i fuel hi hf
    obtain ⟨f, rfl⟩ := suc fuel (by omega)
    rw [fX8_isWordOf_13]
    simp (disch := omega) only [q_eM, q_Me, q_Mlt, q_Mle, q_leM, q_ltM, q_le, q_nle, q_lt, q_nlt, q_neq, zin_nI, nI_clamp, nI_add, pk_mul, pk_sub, mI_e, mI_n, mL_e, mL_n, mR_e, mR_n, i0, i1, ↓reduceIte, ↓bI_t, ↓bI_f, Bool.false_eq_true, eq_self, chk_true, bnd_just, bnd2_just, app_t, beq_self_eq_true, mK_wI, mK_wL, mK_wR, mK_wIr, mK_wLr, mN_wI, mN_wL, mN_wR, mN_wIr, mN_wLr, mR_wI, mR_wL, mR_wIr, mR_wLr, mI_wL, mI_wR, mI_wLr, mL_wI, mL_wR, mL_wIr, sk_27 hS, hT.1, z01_b]
    rw [show i = ts.length by omega]
  | succ m ih =>
    intro i fuel hi hf
    obtain ⟨f, rfl⟩ := suc fuel (by omega)
    have h9 := ih (i + 1) f (by omega) (by omega)
    have ht := txt_lt hT i
    have e30 := hT.2.2.1 i (by omega)
    have emt : zmet p ts 0 (i + 1) = awt p (decide (i = 0)) (zmet p ts 0 i) &&& havF (pse p) (ts.getD i 0) (pk p) := by
      show znxt p (decide (i = 0)) (zmet p ts 0 i) (ts.getD (0 + i) 0) = _
      rw [Nat.zero_add]; rfl
    have ed : decide (i + 1 = 0) = false := by simp
    rw [ed] at h9
    rw [fX8_isWordOf_13]
    unfold fX8_isWordOf_55
    simp (disch := omega) only [q_eM, q_Me, q_Mlt, q_Mle, q_leM, q_ltM, q_le, q_nle, q_lt, q_nlt, q_neq, zin_nI, nI_clamp, nI_add, pk_mul, pk_sub, mI_e, mI_n, mL_e, mL_n, mR_e, mR_n, i0, i1, ↓reduceIte, ↓bI_t, ↓bI_f, Bool.false_eq_true, eq_self, chk_true, bnd_just, bnd2_just, app_t, beq_self_eq_true, mK_wI, mK_wL, mK_wR, mK_wIr, mK_wLr, mN_wI, mN_wL, mN_wR, mN_wIr, mN_wLr, mR_wI, mR_wL, mR_wIr, mR_wLr, mI_wL, mI_wR, mI_wLr, mL_wI, mL_wR, mL_wIr, sk_27 hS, sk_30 hS, sn_30 hS, sr_27_4 hS, hT.1, e30, pK0 hS hP, pK3 hS hP, pN3 hS hP, pR6 hS hP, h.hav ht, ← emt, g3, c_beh hS hP h _ f (by omega)]
    have ew : wrd p ts (i + 1) = decide (zmet p ts 0 (i + 1) &&& pl p ≠ 0) := by unfold wrd; rw [if_neg (by omega)]
    rw [ew] at h9
    by_cases hz : zmet p ts 0 (i + 1) &&& pl p = 0
    · rw [if_pos (by rw [← i0]; exact (lg0 _ _).mpr hz)]
      rw [show decide (zmet p ts 0 (i + 1) &&& pl p ≠ 0) = false by simp [hz]] at h9
      exact h9
    · rw [if_neg (by rw [← i0]; exact fun q => hz ((lg0 _ _).mp q))]
      rw [show decide (zmet p ts 0 (i + 1) &&& pl p ≠ 0) = true by simp [hz]] at h9
      exact h9
theorem c_isWord {M : zM} {P : Nat} {p : zPt} {ts : List Nat} (hS : Sta M) (hP : isP P) (h : PatC M P p) (hT : TxtC M ts) (N : Nat) (hN : 300 ≤ N) : fX8_isWordOf N M 27 P = some (bI (wrd p ts ts.length), M) := by
  have := c_word hS hP h hT ts.length 0 N (by omega) (by have := hT.2.1; omega)
  have g1 : mI M P 1 = bI (pe p) := h.2.1
  have g2 : mL M P 2 = pf p := h.2.2.1
  unfold fX8_isWordOf
  simp only [chk_true, bnd_just, bnd2_just, app_t, beq_self_eq_true, mK_wI, mK_wL, mK_wR, mK_wIr, mK_wLr, mN_wI, mN_wL, mN_wR, mN_wIr, mN_wLr, mR_wI, mR_wL, mR_wIr, mR_wLr, mI_wL, mI_wR, mI_wLr, mL_wI, mL_wR, mL_wIr, pK0 hS hP, g1, g2, i0]
  exact this
theorem txm_lt {M : zM} {ts : List Nat} (h : TxtM M ts) (i : Nat) : ts.getD i 0 < 36 := by
  rw [List.getD_eq_getElem?_getD]
  cases hx : ts[i]? with
  | none => simp
  | some x => exact h.2.2.2 x (List.mem_of_getElem? hx)
theorem m_word {M : zM} {p : zPt} {ts : List Nat} (hS : Sta M) (h : PatQ M 0 p) (hOK : PtOK p) (hT : TxtM M ts) : ∀ (m i fuel : Nat), i + m = ts.length → m + 210 < fuel →
    fX10_whole_13 fuel M 68 (zmet p ts 0 i) (nI i) = some (bI (wrd p ts ts.length), M) := by
  have hl200 := hT.2.1
  have g73 : mI M 73 0 = bI (pe p) := h.2.2.1
  have g75 : mL M 75 0 = pl p := h.2.2.2.2.1
  intro m
  induction m with
  | zero =>
    intro i fuel hi hf
    obtain ⟨f, rfl⟩ := suc fuel (by omega)
    rw [fX10_whole_13]
    simp (disch := omega) only [q_eM, q_Me, q_Mlt, q_Mle, q_leM, q_ltM, q_le, q_nle, q_lt, q_nlt, q_neq, zin_nI, nI_clamp, nI_add, pk_mul, pk_sub, mI_e, mI_n, mL_e, mL_n, mR_e, mR_n, i0, i1, ↓reduceIte, ↓bI_t, ↓bI_f, Bool.false_eq_true, eq_self, chk_true, bnd_just, bnd2_just, app_t, beq_self_eq_true, mK_wI, mK_wL, mK_wR, mK_wIr, mK_wLr, mN_wI, mN_wL, mN_wR, mN_wIr, mN_wLr, mR_wI, mR_wL, mR_wIr, mR_wLr, mI_wL, mI_wR, mI_wLr, mL_wI, mL_wR, mL_wIr, sk_68 hS, sk_73 hS, sk_75 hS, sn_73 hS, sn_75 hS, sr_68_8 hS, sr_68_10 hS, hT.1, g73, g75, z01_b]
    rw [show i = ts.length by omega]
    unfold wrd
    by_cases h0 : ts.length = 0
    · rw [if_pos h0, if_pos (by rw [h0])]
    · rw [if_neg h0, if_neg (by rw [neq (by omega) (by omega)]; exact h0)]
      by_cases hz : zmet p ts 0 ts.length &&& pl p = 0
      · rw [if_pos (by rw [← i0]; exact (lg0 _ _).mpr hz)]; simp [hz, bI_f]
      · rw [if_neg (by rw [← i0]; exact fun q => hz ((lg0 _ _).mp q))]; simp [hz, bI_t]
  | succ m ih =>
    intro i fuel hi hf
    obtain ⟨f, rfl⟩ := suc fuel (by omega)
    have h9 := ih (i + 1) f (by omega) (by omega)
    have ht := txm_lt hT i
    have e70 := hT.2.2.1 i (by omega)
    have emt : zmet p ts 0 (i + 1) = znxt p (decide (i = 0)) (zmet p ts 0 i) (ts.getD i 0) := by
      show znxt p (decide (i = 0)) (zmet p ts 0 i) (ts.getD (0 + i) 0) = _
      rw [Nat.zero_add]
    rw [fX10_whole_13]
    unfold fX10_whole_32
    have eg := m_goOn hS (x := 0) (by omega) h hOK ht (decide (i = 0)) (zmet p ts 0 i) f (by omega)
    rw [← emt] at eg
    by_cases h0 : i = 0
    · rw [show decide (i = 0) = true by simp [h0], bI_t] at eg
      simp (disch := omega) only [q_eM, q_Me, q_Mlt, q_Mle, q_leM, q_ltM, q_le, q_nle, q_lt, q_nlt, q_neq, zin_nI, nI_clamp, nI_add, pk_mul, pk_sub, mI_e, mI_n, mL_e, mL_n, mR_e, mR_n, i0, i1, ↓reduceIte, ↓bI_t, ↓bI_f, Bool.false_eq_true, eq_self, chk_true, bnd_just, bnd2_just, app_t, beq_self_eq_true, mK_wI, mK_wL, mK_wR, mK_wIr, mK_wLr, mN_wI, mN_wL, mN_wR, mN_wIr, mN_wLr, mR_wI, mR_wL, mR_wIr, mR_wLr, mI_wL, mI_wR, mI_wLr, mL_wI, mL_wR, mL_wIr, sk_68 hS, sk_70 hS, sn_70 hS, sr_68_3 hS, hT.1, e70, eg]
      rw [if_pos (by rw [h0])]; exact h9
    · rw [show decide (i = 0) = false by simp [h0], bI_f] at eg
      simp (disch := omega) only [q_eM, q_Me, q_Mlt, q_Mle, q_leM, q_ltM, q_le, q_nle, q_lt, q_nlt, q_neq, zin_nI, nI_clamp, nI_add, pk_mul, pk_sub, mI_e, mI_n, mL_e, mL_n, mR_e, mR_n, i0, i1, ↓reduceIte, ↓bI_t, ↓bI_f, Bool.false_eq_true, eq_self, chk_true, bnd_just, bnd2_just, app_t, beq_self_eq_true, mK_wI, mK_wL, mK_wR, mK_wIr, mK_wLr, mN_wI, mN_wL, mN_wR, mN_wIr, mN_wLr, mR_wI, mR_wL, mR_wIr, mR_wLr, mI_wL, mI_wR, mI_wLr, mL_wI, mL_wR, mL_wIr, sk_68 hS, sk_70 hS, sn_70 hS, sr_68_3 hS, hT.1, e70, eg]
      exact h9
end ZLOOK
