/-! the model's rows, parts, choices -/
section ZMLAYER
def PieM (M : zM) (a e : Nat) (p : Pc) : Prop := mI M a e = bI p.1 ∧ mL M (a + 1) e = p.2.1 ∧ mL M (a + 2) e = p.2.2
def StkM (M : zM) (d : Nat) (ro ch : Nat → Pc) (cb : Nat → Nat) : Prop := d ≤ 8 ∧ ∀ e, e ≤ d → PieM M 78 e (ro e) ∧ PieM M 86 e (ch e) ∧ mI M 89 e = nI (cb e)
def PatN (M : zM) (k : Nat) (se fo : Nat → Int64) : Prop := mI M 68 14 = nI k ∧ k ≤ 60 ∧ (∀ i, i < k → mL M 76 (120 + i) = fo i) ∧ ∀ i, i < k → mL M 77 (120 + i) = se i
def LayM (M : zM) (A : LA) : Prop := match A with
  | (k, se, fo, d, ro, ch, cb, hp, pt, pb) => PatN M k se fo ∧ mI M 68 13 = nI d ∧ StkM M d ro ch cb ∧ mI M 81 d = bI hp ∧ (hp = true → PieM M 83 d pt ∧ mI M 82 d = nI pb)
/-- what the model's laying out may change -/
def ML (M M' : zM) : Prop := M'.1 = M.1 ∧ (∀ a j, mR M' a j = mR M a j) ∧ ∀ a j, ¬ ((a = 68 ∧ (j = 13 ∨ j = 14)) ∨ ((a = 76 ∨ a = 77) ∧ 120 ≤ j) ∨ (78 ≤ a ∧ a ≤ 90)) → mI M' a j = mI M a j ∧ mL M' a j = mL M a j
theorem ML.rf {M : zM} : ML M M := ⟨rfl, fun _ _ => rfl, fun _ _ _ => ⟨rfl, rfl⟩⟩
theorem ML.tr {M M1 M2 : zM} (h : ML M M1) (g : ML M1 M2) : ML M M2 := ⟨g.1.trans h.1, fun a j => (g.2.1 a j).trans (h.2.1 a j), fun a j ha => ⟨((g.2.2 a j ha).1).trans ((h.2.2 a j ha).1), ((g.2.2 a j ha).2).trans ((h.2.2 a j ha).2)⟩⟩
theorem ML.wI {M M' : zM} (h : ML M M') {a k : Nat} (ha : (a = 68 ∧ (k = 13 ∨ k = 14)) ∨ ((a = 76 ∨ a = 77) ∧ 120 ≤ k) ∨ (78 ≤ a ∧ a ≤ 90)) (v : Int32) : ML M (wI M' a k v) := h.tr ⟨rfl, fun _ _ => rfl, fun b j hb => ⟨if_neg (fun q : b = a ∧ j = k => hb (by rw [q.1, q.2]; exact ha)), rfl⟩⟩
theorem ML.wL {M M' : zM} (h : ML M M') {a k : Nat} (ha : (a = 68 ∧ (k = 13 ∨ k = 14)) ∨ ((a = 76 ∨ a = 77) ∧ 120 ≤ k) ∨ (78 ≤ a ∧ a ≤ 90)) (v : Int64) : ML M (wL M' a k v) := h.tr ⟨rfl, fun _ _ => rfl, fun b j hb => ⟨rfl, if_neg (fun q : b = a ∧ j = k => hb (by rw [q.1, q.2]; exact ha))⟩⟩
theorem ML.sta {M M' : zM} (h : ML M M') (hs : Sta M) : Sta M' := ⟨by rw [h.1]; exact hs.1, fun q hq => (h.2.1 _ _).trans (hs.2 q hq)⟩
theorem ML.i {M M' : zM} (h : ML M M') (a j : Nat) (ha : ¬ ((a = 68 ∧ (j = 13 ∨ j = 14)) ∨ ((a = 76 ∨ a = 77) ∧ 120 ≤ j) ∨ (78 ≤ a ∧ a ≤ 90))) : mI M' a j = mI M a j := (h.2.2 a j ha).1
theorem ML.l {M M' : zM} (h : ML M M') (a j : Nat) (ha : ¬ ((a = 68 ∧ (j = 13 ∨ j = 14)) ∨ ((a = 76 ∨ a = 77) ∧ 120 ≤ j) ∨ (78 ≤ a ∧ a ≤ 90))) : mL M' a j = mL M a j := (h.2.2 a j ha).2
theorem i120 : (120 : Int32) = nI 120 := by decide
theorem i60 : (60 : Int32) = nI 60 := by decide
theorem nar0 : vp_nar .boolean (nI 0) = nI 0 := by decide
theorem nar1 : vp_nar .boolean (nI 1) = nI 1 := by decide
/-- only follow, from 120 on, below k -/
def LK (M M' : zM) : Prop := M'.1 = M.1 ∧ (∀ a j, mR M' a j = mR M a j) ∧ (∀ a j, mI M' a j = mI M a j) ∧ ∀ a j, ¬ (a = 76 ∧ 120 ≤ j) → mL M' a j = mL M a j
theorem LK.ml {M M' : zM} (h : LK M M') : ML M M' := ⟨h.1, h.2.1, fun a j ha => ⟨h.2.2.1 a j, h.2.2.2 a j (by omega)⟩⟩
theorem LK.k {M M' : zM} (h : LK M M') (a : Nat) : mK M' a = mK M a := by unfold mK; rw [h.1]
theorem LK.n {M M' : zM} (h : LK M M') (a : Nat) : mN M' a = mN M a := by unfold mN; rw [h.1]
theorem m_lk (e b : Int64) {k : Nat} (hk : k ≤ 60) (fo : Nat → Int64) : ∀ (m i fuel : Nat) (M : zM), Sta M → mI M 68 14 = nI k → (∀ j, j < k → mL M 76 (120 + j) = if j < i then conF fo e b j else fo j) → i + m = k → m < fuel →
    ∃ M', fX10_link_3 fuel M 68 e b (nI i) = some ((), M') ∧ LK M M' ∧ ∀ j, j < k → mL M' 76 (120 + j) = conF fo e b j := by
  intro m
  induction m with
  | zero =>
    intro i fuel M hS hs hr hi hf
    obtain ⟨f, rfl⟩ := suc fuel (by omega)
    refine ⟨M, ?_, ⟨rfl, fun _ _ => rfl, fun _ _ => rfl, fun _ _ _ => rfl⟩, fun j hj => by rw [hr j hj, if_pos (by omega)]⟩
    rw [fX10_link_3]
    simp (disch := omega) only [q_eM, q_Me, q_Mlt, q_Mle, q_leM, q_ltM, q_le, q_nle, q_lt, q_nlt, q_neq, zin_nI, nI_clamp, nI_add, pk_mul, pk_sub, mI_e, mI_n, mL_e, mL_n, mR_e, mR_n, i0, i1, ↓reduceIte, ↓bI_t, ↓bI_f, Bool.false_eq_true, eq_self, chk_true, bnd_just, bnd2_just, app_t, beq_self_eq_true, mK_wI, mK_wL, mK_wR, mK_wIr, mK_wLr, mN_wI, mN_wL, mN_wR, mN_wIr, mN_wLr, mR_wI, mR_wL, mR_wIr, mR_wLr, mI_wL, mI_wR, mI_wLr, mL_wI, mL_wR, mL_wIr, sk_68 hS, hs]
  | succ m ih =>
    intro i fuel M hS hs hr hi hf
    obtain ⟨f, rfl⟩ := suc fuel (by omega)
    by_cases hb : jb e i = true
    · obtain ⟨M', r1, r2, r3⟩ := ih (i + 1) f (wL M 76 (120 + i) (fo i ||| b)) hS (by rw [mI_wL]; exact hs) (fun j hj => by
        by_cases hj' : j = i
        · rw [mL_e rfl (by omega), if_pos (by omega), hj', conF, if_pos hb]
        · rw [mL_n (by omega), hr j hj]
          by_cases h2 : j < i
          · rw [if_pos h2, if_pos (by omega)]
          · rw [if_neg h2, if_neg (by omega)]) (by omega) (by omega)
      refine ⟨M', ?_, ⟨r2.1, r2.2.1, r2.2.2.1, fun a j q => (r2.2.2.2 a j q).trans (mL_n (by omega))⟩, r3⟩
      rw [fX10_link_3]
      unfold fX10_link_43
      rw [m_hasBit _ _ _ (by omega), hb, i120]
      simp (disch := omega) only [q_eM, q_Me, q_Mlt, q_Mle, q_leM, q_ltM, q_le, q_nle, q_lt, q_nlt, q_neq, zin_nI, nI_clamp, nI_add, pk_mul, pk_sub, mI_e, mI_n, mL_e, mL_n, mR_e, mR_n, i0, i1, ↓reduceIte, ↓bI_t, ↓bI_f, Bool.false_eq_true, eq_self, chk_true, bnd_just, bnd2_just, app_t, beq_self_eq_true, mK_wI, mK_wL, mK_wR, mK_wIr, mK_wLr, mN_wI, mN_wL, mN_wR, mN_wIr, mN_wLr, mR_wI, mR_wL, mR_wIr, mR_wLr, mI_wL, mI_wR, mI_wLr, mL_wI, mL_wR, mL_wIr, sk_68 hS, sk_76 hS, sn_76 hS, sr_68_11 hS, hs, hr i]
      rw [if_neg (by omega)]; exact r1
    · obtain ⟨M', r1, r2, r3⟩ := ih (i + 1) f M hS hs (fun j hj => by
        rw [hr j hj]
        by_cases h2 : j < i
        · rw [if_pos h2, if_pos (by omega)]
        · rw [if_neg h2]
          by_cases h3 : j = i
          · rw [if_pos (by omega), h3, conF, if_neg hb]
          · rw [if_neg (by omega)]) (by omega) (by omega)
      refine ⟨M', ?_, r2, r3⟩
      rw [fX10_link_3]
      unfold fX10_link_43
      rw [m_hasBit _ _ _ (by omega), jb_f hb]
      simp (disch := omega) only [q_eM, q_Me, q_Mlt, q_Mle, q_leM, q_ltM, q_le, q_nle, q_lt, q_nlt, q_neq, zin_nI, nI_clamp, nI_add, pk_mul, pk_sub, mI_e, mI_n, mL_e, mL_n, mR_e, mR_n, i0, i1, ↓reduceIte, ↓bI_t, ↓bI_f, Bool.false_eq_true, eq_self, chk_true, bnd_just, bnd2_just, app_t, beq_self_eq_true, mK_wI, mK_wL, mK_wR, mK_wIr, mK_wLr, mN_wI, mN_wL, mN_wR, mN_wIr, mN_wLr, mR_wI, mR_wL, mR_wIr, mR_wLr, mI_wL, mI_wR, mI_wLr, mL_wI, mL_wR, mL_wIr, sk_68 hS, hs]
      exact r1
theorem m_link (e b : Int64) {k : Nat} {se fo : Nat → Int64} {M : zM} (hS : Sta M) (hp : PatN M k se fo) (N : Nat) (hN : 61 ≤ N) :
    ∃ M', fX10_link N M 68 e b = some ((), M') ∧ LK M M' ∧ PatN M' k se (conF fo e b) := by
  obtain ⟨p1, p2, p3, p4⟩ := hp
  unfold fX10_link
  rw [i0]
  obtain ⟨M', r1, r2, r3⟩ := m_lk e b p2 fo k 0 N M hS p1 (fun j hj => by rw [if_neg (by omega)]; exact p3 j hj) (by omega) (by omega)
  exact ⟨M', r1, r2, (r2.2.2.1 _ _).trans p1, p2, r3, fun j hj => (r2.2.2.2 _ _ (by omega)).trans (p4 j hj)⟩
def offP (A : LA) : LA := match A with
  | (k, se, fo, d, ro, ch, cb, _, pt, pb) => (k, se, fo, d, ro, ch, cb, false, pt, pb)
theorem PatN.fr {M M' : zM} {k : Nat} {se fo : Nat → Int64} (h : PatN M k se fo) (hi : mI M' 68 14 = mI M 68 14) (hl : ∀ a j, 76 ≤ a → a ≤ 77 → mL M' a j = mL M a j) : PatN M' k se fo := by
  obtain ⟨h1, h2, h3, h4⟩ := h
  refine ⟨hi.trans h1, h2, fun j hj => ?_, fun j hj => ?_⟩
  · rw [hl _ _ (by omega) (by omega)]; exact h3 j hj
  · rw [hl _ _ (by omega) (by omega)]; exact h4 j hj
set_option maxHeartbeats 4000000 in
theorem m_joinPart {M : zM} (hS : Sta M) {A : LA} (h : LayM M A) (N : Nat) (hN : 61 ≤ N) : ∃ M', fX10_joinPart N M 68 = some ((), M') ∧ ML M M' ∧ LayM M' (offP (aJ A)) := by
  obtain ⟨k, se, fo, d, ro, ch, cb, hp, pt, pb⟩ := A
  obtain ⟨h1, h2, h3, h4, h5⟩ := h
  have hd := h3.1
  cases hp with
  | false =>
    refine ⟨M, ?_, ML.rf, ?_⟩
    · unfold fX10_joinPart
      simp (disch := omega) only [q_eM, q_Me, q_Mlt, q_Mle, q_leM, q_ltM, q_le, q_nle, q_lt, q_nlt, q_neq, zin_nI, nI_clamp, nI_add, pk_mul, pk_sub, mI_e, mI_n, mL_e, mL_n, mR_e, mR_n, i0, i1, ↓reduceIte, ↓bI_t, ↓bI_f, Bool.false_eq_true, eq_self, chk_true, bnd_just, bnd2_just, app_t, beq_self_eq_true, mK_wI, mK_wL, mK_wR, mK_wIr, mK_wLr, mN_wI, mN_wL, mN_wR, mN_wIr, mN_wLr, mR_wI, mR_wL, mR_wIr, mR_wLr, mI_wL, mI_wR, mI_wLr, mL_wI, mL_wR, mL_wIr, sk_68 hS, sk_81 hS, sn_81 hS, sr_68_18 hS, h2, h4]
    · exact ⟨h1, h2, h3, h4, h5⟩
  | true =>
    obtain ⟨⟨q1, q2, q3⟩, q4⟩ := h5 rfl
    obtain ⟨⟨a1, a2, a3⟩, ⟨b1, b2, b3⟩, b4⟩ := h3.2 d (by omega)
    obtain ⟨Mc, c1, c2, c3⟩ := m_link (ro d).2.2 pt.2.1 hS h1 N hN
    have hi := c2.2.2.1
    have hl : ∀ a j, a ≠ 76 → mL Mc a j = mL M a j := fun a j q => c2.2.2.2 a j (by omega)
    have hr := c2.2.1
    refine ⟨wI (wI (wL (wL Mc 79 d (if (ro d).1 then (ro d).2.1 ||| pt.2.1 else (ro d).2.1)) 80 d (if pt.1 then (ro d).2.2 ||| pt.2.2 else pt.2.2)) 78 d (bI ((ro d).1 && pt.1))) 81 d (nI 0), ?_, ?_, ?_⟩
    · unfold fX10_joinPart
      simp (disch := omega) only [q_eM, q_Me, q_Mlt, q_Mle, q_leM, q_ltM, q_le, q_nle, q_lt, q_nlt, q_neq, zin_nI, nI_clamp, nI_add, pk_mul, pk_sub, mI_e, mI_n, mL_e, mL_n, mR_e, mR_n, i0, i1, ↓reduceIte, ↓bI_t, ↓bI_f, Bool.false_eq_true, eq_self, chk_true, bnd_just, bnd2_just, app_t, beq_self_eq_true, mK_wI, mK_wL, mK_wR, mK_wIr, mK_wLr, mN_wI, mN_wL, mN_wR, mN_wIr, mN_wLr, mR_wI, mR_wL, mR_wIr, mR_wLr, mI_wL, mI_wR, mI_wLr, mL_wI, mL_wR, mL_wIr, sk_68 hS, sk_81 hS, sk_80 hS, sk_84 hS, sn_81 hS, sn_80 hS, sn_84 hS, sr_68_18 hS, sr_68_17 hS, sr_68_21 hS, h2, h4, a3, q2]
      simp only [Nat.reduceAdd] at a1 a2 a3 b1 b2 b3 q1 q2 q3
      rw [c1]
      have kk := c2.k
      have nn := c2.n
      cases hre : (ro d).1 <;> cases hpe : pt.1 <;> simp (disch := omega) only [fX10_joinPart_67, fX10_joinPart_104, fX10_joinPart_132, fX10_joinPart_133, q_eM, q_Me, q_Mlt, q_Mle, q_leM, q_ltM, q_le, q_nle, q_lt, q_nlt, q_neq, zin_nI, nI_clamp, nI_add, pk_mul, pk_sub, mI_e, mI_n, mL_e, mL_n, mR_e, mR_n, i0, i1, ↓reduceIte, ↓bI_t, ↓bI_f, Bool.false_eq_true, eq_self, chk_true, bnd_just, bnd2_just, app_t, beq_self_eq_true, mK_wI, mK_wL, mK_wR, mK_wIr, mK_wLr, mN_wI, mN_wL, mN_wR, mN_wIr, mN_wLr, mR_wI, mR_wL, mR_wIr, mR_wLr, mI_wL, mI_wR, mI_wLr, mL_wI, mL_wR, mL_wIr, c2.k, c2.n, hr, sk_68 hS, sk_78 hS, sk_79 hS, sk_80 hS, sk_81 hS, sk_83 hS, sk_84 hS, sk_85 hS, sn_78 hS, sn_79 hS, sn_80 hS, sn_81 hS, sn_83 hS, sn_84 hS, sn_85 hS, sr_68_15 hS, sr_68_16 hS, sr_68_17 hS, sr_68_18 hS, sr_68_20 hS, sr_68_21 hS, sr_68_22 hS, hi, hl, a1, a2, a3, q1, q2, q3, hre, hpe, Bool.and_true, Bool.and_false, Bool.false_and, Bool.true_and, nar0, nar1]
    · exact c2.ml.tr ((((ML.rf.wL (by omega) _).wL (by omega) _).wI (by omega) _).wI (by omega) _)
    · simp only [aJ, if_true, offP]
      refine ⟨c3.fr (by simp (disch := omega) only [q_eM, q_Me, q_Mlt, q_Mle, q_leM, q_ltM, q_le, q_nle, q_lt, q_nlt, q_neq, zin_nI, nI_clamp, nI_add, pk_mul, pk_sub, mI_e, mI_n, mL_e, mL_n, mR_e, mR_n, i0, i1, ↓reduceIte, ↓bI_t, ↓bI_f, Bool.false_eq_true, eq_self, chk_true, bnd_just, bnd2_just, app_t, beq_self_eq_true, mK_wI, mK_wL, mK_wR, mK_wIr, mK_wLr, mN_wI, mN_wL, mN_wR, mN_wIr, mN_wLr, mR_wI, mR_wL, mR_wIr, mR_wLr, mI_wL, mI_wR, mI_wLr, mL_wI, mL_wR, mL_wIr]) (fun a j _ _ => by simp (disch := omega) only [q_eM, q_Me, q_Mlt, q_Mle, q_leM, q_ltM, q_le, q_nle, q_lt, q_nlt, q_neq, zin_nI, nI_clamp, nI_add, pk_mul, pk_sub, mI_e, mI_n, mL_e, mL_n, mR_e, mR_n, i0, i1, ↓reduceIte, ↓bI_t, ↓bI_f, Bool.false_eq_true, eq_self, chk_true, bnd_just, bnd2_just, app_t, beq_self_eq_true, mK_wI, mK_wL, mK_wR, mK_wIr, mK_wLr, mN_wI, mN_wL, mN_wR, mN_wIr, mN_wLr, mR_wI, mR_wL, mR_wIr, mR_wLr, mI_wL, mI_wR, mI_wLr, mL_wI, mL_wR, mL_wIr]), ?_, ⟨hd, fun e he => ?_⟩, ?_, fun q => by cases q⟩
      · simp (disch := omega) only [q_eM, q_Me, q_Mlt, q_Mle, q_leM, q_ltM, q_le, q_nle, q_lt, q_nlt, q_neq, zin_nI, nI_clamp, nI_add, pk_mul, pk_sub, mI_e, mI_n, mL_e, mL_n, mR_e, mR_n, i0, i1, ↓reduceIte, ↓bI_t, ↓bI_f, Bool.false_eq_true, eq_self, chk_true, bnd_just, bnd2_just, app_t, beq_self_eq_true, mK_wI, mK_wL, mK_wR, mK_wIr, mK_wLr, mN_wI, mN_wL, mN_wR, mN_wIr, mN_wLr, mR_wI, mR_wL, mR_wIr, mR_wLr, mI_wL, mI_wR, mI_wLr, mL_wI, mL_wR, mL_wIr, hi, h2]
      · obtain ⟨⟨a1, a2, a3⟩, ⟨b1, b2, b3⟩, b4⟩ := h3.2 e he
        by_cases hed : e = d
        · subst hed
          refine ⟨⟨?_, ?_, ?_⟩, ⟨?_, ?_, ?_⟩, ?_⟩ <;> simp (disch := omega) only [q_eM, q_Me, q_Mlt, q_Mle, q_leM, q_ltM, q_le, q_nle, q_lt, q_nlt, q_neq, zin_nI, nI_clamp, nI_add, pk_mul, pk_sub, mI_e, mI_n, mL_e, mL_n, mR_e, mR_n, i0, i1, ↓reduceIte, ↓bI_t, ↓bI_f, Bool.false_eq_true, eq_self, chk_true, bnd_just, bnd2_just, app_t, beq_self_eq_true, mK_wI, mK_wL, mK_wR, mK_wIr, mK_wLr, mN_wI, mN_wL, mN_wR, mN_wIr, mN_wLr, mR_wI, mR_wL, mR_wIr, mR_wLr, mI_wL, mI_wR, mI_wLr, mL_wI, mL_wR, mL_wIr, updf_e, pApp, hi, hl, b1, b2, b3, b4]
        · refine ⟨⟨?_, ?_, ?_⟩, ⟨?_, ?_, ?_⟩, ?_⟩ <;> simp (disch := omega) only [q_eM, q_Me, q_Mlt, q_Mle, q_leM, q_ltM, q_le, q_nle, q_lt, q_nlt, q_neq, zin_nI, nI_clamp, nI_add, pk_mul, pk_sub, mI_e, mI_n, mL_e, mL_n, mR_e, mR_n, i0, i1, ↓reduceIte, ↓bI_t, ↓bI_f, Bool.false_eq_true, eq_self, chk_true, bnd_just, bnd2_just, app_t, beq_self_eq_true, mK_wI, mK_wL, mK_wR, mK_wIr, mK_wLr, mN_wI, mN_wL, mN_wR, mN_wIr, mN_wLr, mR_wI, mR_wL, mR_wIr, mR_wLr, mI_wL, mI_wR, mI_wLr, mL_wI, mL_wR, mL_wIr, updf_n, hi, hl, a1, a2, a3, b1, b2, b3, b4]
      · simp (disch := omega) only [q_eM, q_Me, q_Mlt, q_Mle, q_leM, q_ltM, q_le, q_nle, q_lt, q_nlt, q_neq, zin_nI, nI_clamp, nI_add, pk_mul, pk_sub, mI_e, mI_n, mL_e, mL_n, mR_e, mR_n, i0, i1, ↓reduceIte, ↓bI_t, ↓bI_f, Bool.false_eq_true, eq_self, chk_true, bnd_just, bnd2_just, app_t, beq_self_eq_true, mK_wI, mK_wL, mK_wR, mK_wIr, mK_wLr, mN_wI, mN_wL, mN_wR, mN_wIr, mN_wLr, mR_wI, mR_wL, mR_wIr, mR_wLr, mI_wL, mI_wR, mI_wLr, mL_wI, mL_wR, mL_wIr]
end ZMLAYER
