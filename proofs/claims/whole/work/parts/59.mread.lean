/-! the model reads: what is here, sets, times -/
section ZMREAD
/-- what the model's reading may change -/
def MR (M M' : zM) : Prop := M'.1 = M.1 ∧ (∀ a j, mR M' a j = mR M a j) ∧ ∀ a j, ¬ ((a = 68 ∧ (j = 5 ∨ j = 13 ∨ j = 14 ∨ j = 28 ∨ j = 29)) ∨ ((a = 76 ∨ a = 77) ∧ 120 ≤ j) ∨ (78 ≤ a ∧ a ≤ 90)) → mI M' a j = mI M a j ∧ mL M' a j = mL M a j
theorem MR.rf {M : zM} : MR M M := ⟨rfl, fun _ _ => rfl, fun _ _ _ => ⟨rfl, rfl⟩⟩
theorem MR.tr {M M1 M2 : zM} (h : MR M M1) (g : MR M1 M2) : MR M M2 := ⟨g.1.trans h.1, fun a j => (g.2.1 a j).trans (h.2.1 a j), fun a j ha => ⟨((g.2.2 a j ha).1).trans ((h.2.2 a j ha).1), ((g.2.2 a j ha).2).trans ((h.2.2 a j ha).2)⟩⟩
theorem MR.wI {M M' : zM} (h : MR M M') {k : Nat} (ha : k = 5 ∨ k = 13 ∨ k = 14 ∨ k = 28 ∨ k = 29) (v : Int32) : MR M (wI M' 68 k v) := h.tr ⟨rfl, fun _ _ => rfl, fun b j hb => ⟨if_neg (fun q : b = 68 ∧ j = k => hb (by omega)), rfl⟩⟩
theorem MR.ml {M M' : zM} (h : ML M M') : MR M M' := ⟨h.1, h.2.1, fun a j ha => h.2.2 a j (by omega)⟩
theorem MR.sta {M M' : zM} (h : MR M M') (hs : Sta M) : Sta M' := ⟨by rw [h.1]; exact hs.1, fun q hq => (h.2.1 _ _).trans (hs.2 q hq)⟩
theorem MR.typ {M M' : zM} (h : MR M M') {cs : List Nat} (ht : TypM M cs) : TypM M' cs := ⟨(h.2.2 68 2 (by omega)).1.trans ht.1, ht.2.1, fun i hi => (h.2.2 69 i (by omega)).1.trans (ht.2.2.1 i hi), ht.2.2.2⟩
/-- the model at place p, nothing wrong so far -/
def ReaM (M : zM) (cs : List Nat) (A : LA) (p : Nat) : Prop := mI M 68 28 = nI p ∧ mI M 68 29 = nI 0 ∧ mI M 68 5 = iM ∧ LayM M A ∧ TypM M cs
theorem LayM.w {M : zM} {A : LA} (h : LayM M A) {k : Nat} (hk : k ≠ 13 ∧ k ≠ 14) (v : Int32) : LayM (wI M 68 k v) A := by
  obtain ⟨kk, se, fo, d, ro, ch, cb, hp, pt, pb⟩ := A
  obtain ⟨hk1, hk2⟩ := hk
  obtain ⟨h1, h2, h3, h4, h5⟩ := h
  refine ⟨h1.fr (by simp (disch := omega) only [q_eM, q_Me, q_Mlt, q_Mle, q_leM, q_ltM, q_le, q_nle, q_lt, q_nlt, q_neq, zin_nI, nI_clamp, nI_add, pk_mul, pk_sub, mI_e, mI_n, mL_e, mL_n, mR_e, mR_n, i0, i1, ↓reduceIte, ↓bI_t, ↓bI_f, Bool.false_eq_true, eq_self, chk_true, bnd_just, bnd2_just, app_t, beq_self_eq_true, mK_wI, mK_wL, mK_wR, mK_wIr, mK_wLr, mN_wI, mN_wL, mN_wR, mN_wIr, mN_wLr, mR_wI, mR_wL, mR_wIr, mR_wLr, mI_wL, mI_wR, mI_wLr, mL_wI, mL_wR, mL_wIr]) (fun a j _ _ => by simp (disch := omega) only [q_eM, q_Me, q_Mlt, q_Mle, q_leM, q_ltM, q_le, q_nle, q_lt, q_nlt, q_neq, zin_nI, nI_clamp, nI_add, pk_mul, pk_sub, mI_e, mI_n, mL_e, mL_n, mR_e, mR_n, i0, i1, ↓reduceIte, ↓bI_t, ↓bI_f, Bool.false_eq_true, eq_self, chk_true, bnd_just, bnd2_just, app_t, beq_self_eq_true, mK_wI, mK_wL, mK_wR, mK_wIr, mK_wLr, mN_wI, mN_wL, mN_wR, mN_wIr, mN_wLr, mR_wI, mR_wL, mR_wIr, mR_wLr, mI_wL, mI_wR, mI_wLr, mL_wI, mL_wR, mL_wIr]), by simp (disch := omega) only [q_eM, q_Me, q_Mlt, q_Mle, q_leM, q_ltM, q_le, q_nle, q_lt, q_nlt, q_neq, zin_nI, nI_clamp, nI_add, pk_mul, pk_sub, mI_e, mI_n, mL_e, mL_n, mR_e, mR_n, i0, i1, ↓reduceIte, ↓bI_t, ↓bI_f, Bool.false_eq_true, eq_self, chk_true, bnd_just, bnd2_just, app_t, beq_self_eq_true, mK_wI, mK_wL, mK_wR, mK_wIr, mK_wLr, mN_wI, mN_wL, mN_wR, mN_wIr, mN_wLr, mR_wI, mR_wL, mR_wIr, mR_wLr, mI_wL, mI_wR, mI_wLr, mL_wI, mL_wR, mL_wIr, h2], ⟨h3.1, fun e he => ?_⟩, by simp (disch := omega) only [q_eM, q_Me, q_Mlt, q_Mle, q_leM, q_ltM, q_le, q_nle, q_lt, q_nlt, q_neq, zin_nI, nI_clamp, nI_add, pk_mul, pk_sub, mI_e, mI_n, mL_e, mL_n, mR_e, mR_n, i0, i1, ↓reduceIte, ↓bI_t, ↓bI_f, Bool.false_eq_true, eq_self, chk_true, bnd_just, bnd2_just, app_t, beq_self_eq_true, mK_wI, mK_wL, mK_wR, mK_wIr, mK_wLr, mN_wI, mN_wL, mN_wR, mN_wIr, mN_wLr, mR_wI, mR_wL, mR_wIr, mR_wLr, mI_wL, mI_wR, mI_wLr, mL_wI, mL_wR, mL_wIr, h4], fun q => ?_⟩
  · obtain ⟨⟨a1, a2, a3⟩, ⟨b1, b2, b3⟩, b4⟩ := h3.2 e he
    refine ⟨⟨?_, ?_, ?_⟩, ⟨?_, ?_, ?_⟩, ?_⟩ <;> simp (disch := omega) only [q_eM, q_Me, q_Mlt, q_Mle, q_leM, q_ltM, q_le, q_nle, q_lt, q_nlt, q_neq, zin_nI, nI_clamp, nI_add, pk_mul, pk_sub, mI_e, mI_n, mL_e, mL_n, mR_e, mR_n, i0, i1, ↓reduceIte, ↓bI_t, ↓bI_f, Bool.false_eq_true, eq_self, chk_true, bnd_just, bnd2_just, app_t, beq_self_eq_true, mK_wI, mK_wL, mK_wR, mK_wIr, mK_wLr, mN_wI, mN_wL, mN_wR, mN_wIr, mN_wLr, mR_wI, mR_wL, mR_wIr, mR_wLr, mI_wL, mI_wR, mI_wLr, mL_wI, mL_wR, mL_wIr, a1, a2, a3, b1, b2, b3, b4]
  · obtain ⟨⟨q1, q2, q3⟩, q4⟩ := h5 q
    refine ⟨⟨?_, ?_, ?_⟩, ?_⟩ <;> simp (disch := omega) only [q_eM, q_Me, q_Mlt, q_Mle, q_leM, q_ltM, q_le, q_nle, q_lt, q_nlt, q_neq, zin_nI, nI_clamp, nI_add, pk_mul, pk_sub, mI_e, mI_n, mL_e, mL_n, mR_e, mR_n, i0, i1, ↓reduceIte, ↓bI_t, ↓bI_f, Bool.false_eq_true, eq_self, chk_true, bnd_just, bnd2_just, app_t, beq_self_eq_true, mK_wI, mK_wL, mK_wR, mK_wIr, mK_wLr, mN_wI, mN_wL, mN_wR, mN_wIr, mN_wLr, mR_wI, mR_wL, mR_wIr, mR_wLr, mI_wL, mI_wR, mI_wLr, mL_wI, mL_wR, mL_wIr, q1, q2, q3, q4]
theorem TypM.w {M : zM} {cs : List Nat} (h : TypM M cs) {k : Nat} (hk : k ≠ 2) (v : Int32) : TypM (wI M 68 k v) cs :=
  ⟨by rw [mI_n (by omega)]; exact h.1, h.2.1, fun i hi => by rw [mI_n (by omega)]; exact h.2.2.1 i hi, h.2.2.2⟩
/-- on to place p' -/
theorem ReaM.at {M : zM} {cs : List Nat} {A : LA} {p : Nat} (h : ReaM M cs A p) (p' : Nat) : ReaM (wI M 68 28 (nI p')) cs A p' :=
  ⟨by simp (disch := omega) only [q_eM, q_Me, q_Mlt, q_Mle, q_leM, q_ltM, q_le, q_nle, q_lt, q_nlt, q_neq, zin_nI, nI_clamp, nI_add, pk_mul, pk_sub, mI_e, mI_n, mL_e, mL_n, mR_e, mR_n, i0, i1, ↓reduceIte, ↓bI_t, ↓bI_f, Bool.false_eq_true, eq_self, chk_true, bnd_just, bnd2_just, app_t, beq_self_eq_true, mK_wI, mK_wL, mK_wR, mK_wIr, mK_wLr, mN_wI, mN_wL, mN_wR, mN_wIr, mN_wLr, mR_wI, mR_wL, mR_wIr, mR_wLr, mI_wL, mI_wR, mI_wLr, mL_wI, mL_wR, mL_wIr], by simp (disch := omega) only [q_eM, q_Me, q_Mlt, q_Mle, q_leM, q_ltM, q_le, q_nle, q_lt, q_nlt, q_neq, zin_nI, nI_clamp, nI_add, pk_mul, pk_sub, mI_e, mI_n, mL_e, mL_n, mR_e, mR_n, i0, i1, ↓reduceIte, ↓bI_t, ↓bI_f, Bool.false_eq_true, eq_self, chk_true, bnd_just, bnd2_just, app_t, beq_self_eq_true, mK_wI, mK_wL, mK_wR, mK_wIr, mK_wLr, mN_wI, mN_wL, mN_wR, mN_wIr, mN_wLr, mR_wI, mR_wL, mR_wIr, mR_wLr, mI_wL, mI_wR, mI_wLr, mL_wI, mL_wR, mL_wIr, h.2.1], by simp (disch := omega) only [q_eM, q_Me, q_Mlt, q_Mle, q_leM, q_ltM, q_le, q_nle, q_lt, q_nlt, q_neq, zin_nI, nI_clamp, nI_add, pk_mul, pk_sub, mI_e, mI_n, mL_e, mL_n, mR_e, mR_n, i0, i1, ↓reduceIte, ↓bI_t, ↓bI_f, Bool.false_eq_true, eq_self, chk_true, bnd_just, bnd2_just, app_t, beq_self_eq_true, mK_wI, mK_wL, mK_wR, mK_wIr, mK_wLr, mN_wI, mN_wL, mN_wR, mN_wIr, mN_wLr, mR_wI, mR_wL, mR_wIr, mR_wLr, mI_wL, mI_wR, mI_wLr, mL_wI, mL_wR, mL_wIr, h.2.2.1], h.2.2.2.1.w (by omega) _, h.2.2.2.2.w (by omega) _⟩
def hI (cs : List Nat) (p : Nat) : Int32 := if p < cs.length then nI (cs.getD p 0) else iM
def hL (cs : List Nat) (p : Nat) : Int32 := if p < cs.length then lI (cs.getD p 0) else iM
theorem typ_lt {M : zM} {cs : List Nat} (h : TypM M cs) (p : Nat) : cs.getD p 0 < 256 := by
  rw [List.getD_eq_getElem?_getD]
  cases hx : cs[p]? with
  | none => simp
  | some x => exact h.2.2.2 x (List.mem_of_getElem? hx)
theorem m_here {M : zM} (hS : Sta M) {cs : List Nat} {A : LA} {p : Nat} (h : ReaM M cs A p) (hp : p < 2 ^ 31) (N : Nat) : fX10_here N M 68 = some (hI cs p, M) := by
  obtain ⟨h1, h2, h3, h4, t1, t2, t3, t4⟩ := h
  unfold fX10_here hI
  by_cases hl : p < cs.length
  · rw [if_pos hl]
    simp (disch := omega) only [q_eM, q_Me, q_Mlt, q_Mle, q_leM, q_ltM, q_le, q_nle, q_lt, q_nlt, q_neq, zin_nI, nI_clamp, nI_add, pk_mul, pk_sub, mI_e, mI_n, mL_e, mL_n, mR_e, mR_n, i0, i1, ↓reduceIte, ↓bI_t, ↓bI_f, Bool.false_eq_true, eq_self, chk_true, bnd_just, bnd2_just, app_t, beq_self_eq_true, mK_wI, mK_wL, mK_wR, mK_wIr, mK_wLr, mN_wI, mN_wL, mN_wR, mN_wIr, mN_wLr, mR_wI, mR_wL, mR_wIr, mR_wLr, mI_wL, mI_wR, mI_wLr, mL_wI, mL_wR, mL_wIr, sk_68 hS, sk_69 hS, sn_69 hS, sr_68_1 hS, h1, t1, t3 p]
  · rw [if_neg hl]
    simp (disch := omega) only [q_eM, q_Me, q_Mlt, q_Mle, q_leM, q_ltM, q_le, q_nle, q_lt, q_nlt, q_neq, zin_nI, nI_clamp, nI_add, pk_mul, pk_sub, mI_e, mI_n, mL_e, mL_n, mR_e, mR_n, i0, i1, ↓reduceIte, ↓bI_t, ↓bI_f, Bool.false_eq_true, eq_self, chk_true, bnd_just, bnd2_just, app_t, beq_self_eq_true, mK_wI, mK_wL, mK_wR, mK_wIr, mK_wLr, mN_wI, mN_wL, mN_wR, mN_wIr, mN_wLr, mR_wI, mR_wL, mR_wIr, mR_wLr, mI_wL, mI_wR, mI_wLr, mL_wI, mL_wR, mL_wIr, ↓neg1, il_2, il_3, il_4, il_5, il_6, il_7, il_8, il_9, il_26, il_35, il_36, il_40, il_41, il_42, il_43, il_44, il_45, il_46, il_48, il_57, il_60, il_63, il_91, il_93, il_94, il_97, il_120, il_122, il_123, il_124, il_125, il_200, il_255, il_300, il_600, il_1023, il_1024, il_10800, sk_68 hS, h1, t1]
theorem m_letH {M : zM} {cs : List Nat} (ht : TypM M cs) (p N : Nat) : fX10_letterOf N M (hI cs p) = some (hL cs p, M) := by
  unfold hI hL
  by_cases hl : p < cs.length
  · rw [if_pos hl, if_pos hl]; exact g_letterOf N M (typ_lt ht p)
  · rw [if_neg hl, if_neg hl]
    unfold fX10_letterOf fX10_letterOf_19 fX10_letterOf_41
    simp (disch := omega) only [q_eM, q_Me, q_Mlt, q_Mle, q_leM, q_ltM, q_le, q_nle, q_lt, q_nlt, q_neq, zin_nI, nI_clamp, nI_add, pk_mul, pk_sub, mI_e, mI_n, mL_e, mL_n, mR_e, mR_n, i0, i1, ↓reduceIte, ↓bI_t, ↓bI_f, Bool.false_eq_true, eq_self, chk_true, bnd_just, bnd2_just, app_t, beq_self_eq_true, mK_wI, mK_wL, mK_wR, mK_wIr, mK_wLr, mN_wI, mN_wL, mN_wR, mN_wIr, mN_wLr, mR_wI, mR_wL, mR_wIr, mR_wLr, mI_wL, mI_wR, mI_wLr, mL_wI, mL_wR, mL_wIr, ↓neg1, il_2, il_3, il_4, il_5, il_6, il_7, il_8, il_9, il_26, il_35, il_36, il_40, il_41, il_42, il_43, il_44, il_45, il_46, il_48, il_57, il_60, il_63, il_91, il_93, il_94, il_97, il_120, il_122, il_123, il_124, il_125, il_200, il_255, il_300, il_600, il_1023, il_1024, il_10800]
theorem drop_lt {cs : List Nat} {p : Nat} (h : p < cs.length) : cs.drop p = cs.getD p 0 :: cs.drop (p + 1) := by
  rw [List.drop_eq_getElem_cons h, List.getD_eq_getElem?_getD, List.getElem?_eq_getElem h]
  rfl
theorem drop_ge {cs : List Nat} {p : Nat} (h : cs.length ≤ p) : cs.drop p = [] := List.drop_eq_nil_of_le h
def mBad (M : zM) (f p : Nat) : Prop := f ≠ 0 ∧ f < 10 ∧ mI M 68 29 = nI f ∧ mI M 68 5 = nI p
/-- how a stretch of the model's reading may end: further on and well, or with a fault -/
def zOut (M' : zM) (cs : List Nat) (p0 : Nat) (T : zPS) : Prop :=
  (∃ A' p', p0 < p' ∧ p' ≤ cs.length ∧ ReaM M' cs A' p' ∧ zWf A' ∧ T = pRun (cs.drop p') p' (okS A')) ∨ (∃ f p, mBad M' f p ∧ T.2.2.2 = (f, p))
theorem m_failHere {M : zM} (hS : Sta M) {cs : List Nat} {A : LA} {p : Nat} (h : ReaM M cs A p) (hp : p < 2 ^ 31) (N : Nat) : fX10_failHere N M 68 = some ((), wI (wI M 68 29 (nI (if p < cs.length then 1 else 2))) 68 5 (nI p)) := by
  obtain ⟨h1, h2, h3, h4, t1, t2, t3, t4⟩ := h
  unfold fX10_failHere fX10_failHere_17
  rw [m_fail hS h2, m_fail hS h2]
  by_cases hl : p < cs.length
  · rw [if_pos hl]
    simp (disch := omega) only [q_eM, q_Me, q_Mlt, q_Mle, q_leM, q_ltM, q_le, q_nle, q_lt, q_nlt, q_neq, zin_nI, nI_clamp, nI_add, pk_mul, pk_sub, mI_e, mI_n, mL_e, mL_n, mR_e, mR_n, i0, i1, ↓reduceIte, ↓bI_t, ↓bI_f, Bool.false_eq_true, eq_self, chk_true, bnd_just, bnd2_just, app_t, beq_self_eq_true, mK_wI, mK_wL, mK_wR, mK_wIr, mK_wLr, mN_wI, mN_wL, mN_wR, mN_wIr, mN_wLr, mR_wI, mR_wL, mR_wIr, mR_wLr, mI_wL, mI_wR, mI_wLr, mL_wI, mL_wR, mL_wIr, ↓neg1, il_2, il_3, il_4, il_5, il_6, il_7, il_8, il_9, il_26, il_35, il_36, il_40, il_41, il_42, il_43, il_44, il_45, il_46, il_48, il_57, il_60, il_63, il_91, il_93, il_94, il_97, il_120, il_122, il_123, il_124, il_125, il_200, il_255, il_300, il_600, il_1023, il_1024, il_10800, sk_68 hS, h1, t1]
  · rw [if_neg hl]
    simp (disch := omega) only [q_eM, q_Me, q_Mlt, q_Mle, q_leM, q_ltM, q_le, q_nle, q_lt, q_nlt, q_neq, zin_nI, nI_clamp, nI_add, pk_mul, pk_sub, mI_e, mI_n, mL_e, mL_n, mR_e, mR_n, i0, i1, ↓reduceIte, ↓bI_t, ↓bI_f, Bool.false_eq_true, eq_self, chk_true, bnd_just, bnd2_just, app_t, beq_self_eq_true, mK_wI, mK_wL, mK_wR, mK_wIr, mK_wLr, mN_wI, mN_wL, mN_wR, mN_wIr, mN_wLr, mR_wI, mR_wL, mR_wIr, mR_wLr, mI_wL, mI_wR, mI_wLr, mL_wI, mL_wR, mL_wIr, ↓neg1, il_2, il_3, il_4, il_5, il_6, il_7, il_8, il_9, il_26, il_35, il_36, il_40, il_41, il_42, il_43, il_44, il_45, il_46, il_48, il_57, il_60, il_63, il_91, il_93, il_94, il_97, il_120, il_122, il_123, il_124, il_125, il_200, il_255, il_300, il_600, il_1023, il_1024, il_10800, sk_68 hS, h1, t1]
/-- the fault that the end, or a character that can't be there, makes -/
theorem pRun_stop {cs : List Nat} {p : Nat} {S : zPS} (hf : S.2.2.2.1 = 0) (hm : S.2.1 ≠ 0) (h : p < cs.length → pStep S p (cs.getD p 0) = zbad S.1 1 p) : (pRun (cs.drop p) p S).2.2.2 = (if p < cs.length then 1 else 2, p) := by
  by_cases hl : p < cs.length
  · rw [if_pos hl, drop_lt hl]
    unfold pRun
    rw [if_pos hf, h hl, pRun_f (by simp [zbad])]
    rfl
  · rw [if_neg hl, drop_ge (by omega)]
    unfold pRun
    rw [if_pos ⟨hf, Or.inl hm⟩]
    rfl
theorem pRun_1 {cs : List Nat} {p : Nat} {S : zPS} (hf : S.2.2.2.1 = 0) (hl : p < cs.length) : pRun (cs.drop p) p S = pRun (cs.drop (p + 1)) (p + 1) (pStep S p (cs.getD p 0)) := by
  rw [drop_lt hl]
  show (if S.2.2.2.1 = 0 then _ else _) = _
  rw [if_pos hf]
/-- bits a .. a + n - 1 -/
def upG (a : Nat) : Nat → Int64
  | 0 => 0
  | n + 1 => upG a n ||| bit (a + n)
theorem m_up (N0 : Nat) (M : zM) {a b : Nat} (hb : b < 36) : ∀ (s i fuel : Nat), a + i + s = b + 1 → s < fuel → fX10_upTo_5 fuel M (nI b) (upG a i) (nI (a + i)) = some (upG a (b + 1 - a), M) := by
  intro s
  induction s with
  | zero =>
    intro i fuel hi hf
    obtain ⟨f, rfl⟩ := suc fuel (by omega)
    rw [fX10_upTo_5]
    simp (disch := omega) only [q_eM, q_Me, q_Mlt, q_Mle, q_leM, q_ltM, q_le, q_nle, q_lt, q_nlt, q_neq, zin_nI, nI_clamp, nI_add, pk_mul, pk_sub, mI_e, mI_n, mL_e, mL_n, mR_e, mR_n, i0, i1, ↓reduceIte, ↓bI_t, ↓bI_f, Bool.false_eq_true, eq_self, chk_true, bnd_just, bnd2_just, app_t, beq_self_eq_true, mK_wI, mK_wL, mK_wR, mK_wIr, mK_wLr, mN_wI, mN_wL, mN_wR, mN_wIr, mN_wLr, mR_wI, mR_wL, mR_wIr, mR_wLr, mI_wL, mI_wR, mI_wLr, mL_wI, mL_wR, mL_wIr]
    rw [show b + 1 - a = i by omega]
  | succ s ih =>
    intro i fuel hi hf
    obtain ⟨f, rfl⟩ := suc fuel (by omega)
    rw [fX10_upTo_5]
    simp (disch := omega) only [q_eM, q_Me, q_Mlt, q_Mle, q_leM, q_ltM, q_le, q_nle, q_lt, q_nlt, q_neq, zin_nI, nI_clamp, nI_add, pk_mul, pk_sub, mI_e, mI_n, mL_e, mL_n, mR_e, mR_n, i0, i1, ↓reduceIte, ↓bI_t, ↓bI_f, Bool.false_eq_true, eq_self, chk_true, bnd_just, bnd2_just, app_t, beq_self_eq_true, mK_wI, mK_wL, mK_wR, mK_wIr, mK_wLr, mN_wI, mN_wL, mN_wR, mN_wIr, mN_wLr, mR_wI, mR_wL, mR_wIr, mR_wLr, mI_wL, mI_wR, mI_wLr, mL_wI, mL_wR, mL_wIr]
    exact ih (i + 1) f (by omega) (by omega)
theorem m_upTo (N : Nat) (M : zM) {a b : Nat} (hab : a ≤ b) (hb : b < 36) (hN : 40 ≤ N) : fX10_upTo N M (nI a) (nI b) = some (upG a (b + 1 - a), M) := by
  unfold fX10_upTo
  exact m_up N M hb (b + 1 - a) 0 N (by omega) (by omega)
theorem zup_all : upG 0 36 = allB := by decide +kernel
theorem up_one : ∀ l, l < 36 → upG l 1 = bit l := by decide +kernel
theorem up_rng : ∀ a, a < 36 → ∀ b, b < 36 → a ≤ b → bit a ||| (jshl 2 (nI b) - jshl 1 (nI a)) = upG a (b + 1 - a) := by decide +kernel
theorem or_assoc64 (x y z : Int64) : x ||| y ||| z = x ||| (y ||| z) := by
  apply jb_ext
  intro j _
  simp only [jb_or, Bool.or_assoc]
end ZMREAD
