/-! the model: a part some times -/
section ZMTIMES
/-- what the copying may change -/
def zTM (M M' : zM) : Prop := M'.1 = M.1 ∧ (∀ a j, mR M' a j = mR M a j) ∧ ∀ a j, ¬ ((a = 68 ∧ j = 14) ∨ ((a = 76 ∨ a = 77) ∧ 120 ≤ j) ∨ a = 90) → mI M' a j = mI M a j ∧ mL M' a j = mL M a j
theorem zTM.rf {M : zM} : zTM M M := ⟨rfl, fun _ _ => rfl, fun _ _ _ => ⟨rfl, rfl⟩⟩
theorem zTM.tr {M M1 M2 : zM} (h : zTM M M1) (g : zTM M1 M2) : zTM M M2 := ⟨g.1.trans h.1, fun a j => (g.2.1 a j).trans (h.2.1 a j), fun a j ha => ⟨((g.2.2 a j ha).1).trans ((h.2.2 a j ha).1), ((g.2.2 a j ha).2).trans ((h.2.2 a j ha).2)⟩⟩
theorem zTM.wI {M M' : zM} (h : zTM M M') {a k : Nat} (ha : (a = 68 ∧ k = 14) ∨ ((a = 76 ∨ a = 77) ∧ 120 ≤ k) ∨ a = 90) (v : Int32) : zTM M (wI M' a k v) := h.tr ⟨rfl, fun _ _ => rfl, fun b j hb => ⟨if_neg (fun q : b = a ∧ j = k => hb (by rw [q.1, q.2]; exact ha)), rfl⟩⟩
theorem zTM.wL {M M' : zM} (h : zTM M M') {a k : Nat} (ha : (a = 68 ∧ k = 14) ∨ ((a = 76 ∨ a = 77) ∧ 120 ≤ k) ∨ a = 90) (v : Int64) : zTM M (wL M' a k v) := h.tr ⟨rfl, fun _ _ => rfl, fun b j hb => ⟨rfl, if_neg (fun q : b = a ∧ j = k => hb (by rw [q.1, q.2]; exact ha))⟩⟩
theorem zTM.lk {M M' : zM} (h : LK M M') : zTM M M' := ⟨h.1, h.2.1, fun a j ha => ⟨h.2.2.1 a j, h.2.2.2 a j (by omega)⟩⟩
theorem zTM.ml {M M' : zM} (h : zTM M M') : ML M M' := ⟨h.1, h.2.1, fun a j ha => h.2.2 a j (by omega)⟩
theorem zTM.sta {M M' : zM} (h : zTM M M') (hs : Sta M) : Sta M' := h.ml.sta hs
theorem zTM.i {M M' : zM} (h : zTM M M') (a j : Nat) (ha : ¬ ((a = 68 ∧ j = 14) ∨ ((a = 76 ∨ a = 77) ∧ 120 ≤ j) ∨ a = 90)) : mI M' a j = mI M a j := (h.2.2 a j ha).1
theorem zTM.l {M M' : zM} (h : zTM M M') (a j : Nat) (ha : ¬ ((a = 68 ∧ j = 14) ∨ ((a = 76 ∨ a = 77) ∧ 120 ≤ j) ∨ a = 90)) : mL M' a j = mL M a j := (h.2.2 a j ha).2
theorem tF_hi {fo : Nat → Int64} {pt : Pc} {w m b k : Nat} (h : BdP b k pt) (hk : k = b + w) : ∀ i p, b + (i + 1) * w ≤ 60 → b + i * w ≤ p → tF fo pt w m i p = fo p := by
  intro i
  induction i with
  | zero => intro p _ _; rfl
  | succ i ih =>
    intro p hi hp
    have e : (i + 1 + 1) * w = (i + 1) * w + w := Nat.succ_mul _ _
    have e2 : (i + 1) * w = i * w + w := Nat.succ_mul _ _
    have hb : ¬ jb (tP pt w m i).2.2 p = true := fun q => by
      have := (Bd_tP h hk i (by omega)).2 p q
      omega
    show conF (tF fo pt w m i) (tP pt w m i).2.2 (jshl pt.2.1 (nI ((i + 1) * w))) p = fo p
    unfold conF
    rw [if_neg hb]
    exact ih p (by omega) (by omega)
/-- spare copies -/
theorem m_sp {pb w d : Nat} {fo : Nat → Int64} {v1 v2 : Int32} (hb : pb + w ≤ 60) (hd : d ≤ 8) {pt : Pc} : ∀ (s i fuel : Nat) (M : zM), Sta M → (∀ x, x < pb + w → mL M 76 (120 + x) = fo x) → (∀ x, x < i → mL M 90 x = fo (pb + x)) → PieM M 83 d pt → i + s = w → s < fuel →
    ∃ M' f, fuel ≤ f + s + 1 ∧ fX10_times_18 fuel M 68 v1 v2 (nI w) (nI d) (nI pb) (nI i) = fX10_times_89 f M' 68 v1 v2 (nI w) (nI pb) (bI pt.1) pt.2.1 pt.2.2 (nI 1) 0 0 (nI 0) ∧ Ch [90] M M' ∧ ∀ x, x < w → mL M' 90 x = fo (pb + x) := by
  intro s
  induction s with
  | zero =>
    intro i fuel M hS hfo hsp hq hi hf
    obtain ⟨f, rfl⟩ := suc fuel (by omega)
    obtain ⟨q1, q2, q3⟩ := hq
    simp only [Nat.reduceAdd] at q2 q3
    refine ⟨M, f, by omega, ?_, Ch.rf, fun x hx => hsp x (by omega)⟩
    rw [fX10_times_18]
    simp (disch := omega) only [q_eM, q_Me, q_Mlt, q_Mle, q_leM, q_ltM, q_le, q_nle, q_lt, q_nlt, q_neq, zin_nI, nI_clamp, nI_add, pk_mul, pk_sub, mI_e, mI_n, mL_e, mL_n, mR_e, mR_n, i0, i1, ↓reduceIte, ↓bI_t, ↓bI_f, Bool.false_eq_true, eq_self, chk_true, bnd_just, bnd2_just, app_t, beq_self_eq_true, mK_wI, mK_wL, mK_wR, mK_wIr, mK_wLr, mN_wI, mN_wL, mN_wR, mN_wIr, mN_wLr, mR_wI, mR_wL, mR_wIr, mR_wLr, mI_wL, mI_wR, mI_wLr, mL_wI, mL_wR, mL_wIr, sk_68 hS, sk_83 hS, sk_84 hS, sk_85 hS, sn_83 hS, sn_84 hS, sn_85 hS, sr_68_20 hS, sr_68_21 hS, sr_68_22 hS, q1, q2, q3]
  | succ s ih =>
    intro i fuel M hS hfo hsp hq hi hf
    obtain ⟨f, rfl⟩ := suc fuel (by omega)
    have v76 : mL M 76 (120 + pb + i) = fo (pb + i) := by rw [Nat.add_assoc]; exact hfo _ (by omega)
    obtain ⟨M', f', e1, e2, e3, e4⟩ := ih (i + 1) f (wL M 90 i (fo (pb + i))) hS (fun x hx => by simp (disch := omega) only [q_eM, q_Me, q_Mlt, q_Mle, q_leM, q_ltM, q_le, q_nle, q_lt, q_nlt, q_neq, zin_nI, nI_clamp, nI_add, pk_mul, pk_sub, mI_e, mI_n, mL_e, mL_n, mR_e, mR_n, i0, i1, ↓reduceIte, ↓bI_t, ↓bI_f, Bool.false_eq_true, eq_self, chk_true, bnd_just, bnd2_just, app_t, beq_self_eq_true, mK_wI, mK_wL, mK_wR, mK_wIr, mK_wLr, mN_wI, mN_wL, mN_wR, mN_wIr, mN_wLr, mR_wI, mR_wL, mR_wIr, mR_wLr, mI_wL, mI_wR, mI_wLr, mL_wI, mL_wR, mL_wIr, hfo x]) (fun x hx => by
      by_cases hxi : x = i
      · rw [mL_e rfl hxi, hxi]
      · rw [mL_n (by omega)]; exact hsp x (by omega)) ⟨by simp (disch := omega) only [q_eM, q_Me, q_Mlt, q_Mle, q_leM, q_ltM, q_le, q_nle, q_lt, q_nlt, q_neq, zin_nI, nI_clamp, nI_add, pk_mul, pk_sub, mI_e, mI_n, mL_e, mL_n, mR_e, mR_n, i0, i1, ↓reduceIte, ↓bI_t, ↓bI_f, Bool.false_eq_true, eq_self, chk_true, bnd_just, bnd2_just, app_t, beq_self_eq_true, mK_wI, mK_wL, mK_wR, mK_wIr, mK_wLr, mN_wI, mN_wL, mN_wR, mN_wIr, mN_wLr, mR_wI, mR_wL, mR_wIr, mR_wLr, mI_wL, mI_wR, mI_wLr, mL_wI, mL_wR, mL_wIr, hq.1], by rw [mL_n (by omega)]; exact hq.2.1, by rw [mL_n (by omega)]; exact hq.2.2⟩ (by omega) (by omega)
    refine ⟨M', f', by omega, ?_, (Ch.rf.wL (by simp) _ _).tr e3, e4⟩
    rw [fX10_times_18]
    simp (disch := omega) only [q_eM, q_Me, q_Mlt, q_Mle, q_leM, q_ltM, q_le, q_nle, q_lt, q_nlt, q_neq, zin_nI, nI_clamp, nI_add, pk_mul, pk_sub, mI_e, mI_n, mL_e, mL_n, mR_e, mR_n, i0, i1, ↓reduceIte, ↓bI_t, ↓bI_f, Bool.false_eq_true, eq_self, chk_true, bnd_just, bnd2_just, app_t, beq_self_eq_true, mK_wI, mK_wL, mK_wR, mK_wIr, mK_wLr, mN_wI, mN_wL, mN_wR, mN_wIr, mN_wLr, mR_wI, mR_wL, mR_wIr, mR_wLr, mI_wL, mI_wR, mI_wLr, mL_wI, mL_wR, mL_wIr, ↓neg1, il_2, il_3, il_4, il_5, il_6, il_7, il_8, il_9, il_26, il_35, il_36, il_40, il_41, il_42, il_43, il_44, il_45, il_46, il_48, il_57, il_60, il_63, il_91, il_93, il_94, il_97, il_120, il_122, il_123, il_124, il_125, il_200, il_255, il_300, il_600, il_1023, il_1024, il_10800, sk_68 hS, sk_76 hS, sk_90 hS, sn_76 hS, sn_90 hS, sr_68_11 hS, sr_68_27 hS, v76]
    exact e2
/-- the i-th copy is laid -/
theorem m_cpy {pb w i m n : Nat} {se fo : Nat → Int64} {F : Nat → Int64} (hw : pb + (i + 1) * w ≤ 60) (hi1 : 1 ≤ i) (hi5 : i ≤ 5) (hF : ∀ x, pb + i * w ≤ x → F x = cpF fo pb w x) (k89 : zM → Nat → Int32 → Int32 → Int32 → Int32 → Int32 → Int64 → Int64 → Int32 → Int64 → Int64 → Int32 → Option (Unit × zM)) (a6 : Int32) (a7 a9 : Int64) (a11 : Int32) (a12 a14 : Int64) : ∀ (s k fuel : Nat) (M : zM), Sta M → PatN M (pb + i * w + k) (cpS se pb w) F → (∀ x, x < w → mL M 90 x = fo (pb + x)) → k + s = w → s < fuel →
    ∃ M' f, fuel ≤ f + s + 1 ∧ fX10_times_104 k89 fuel M 68 (nI m) (nI n) (nI w) (nI pb) a6 a7 a9 a11 a12 a14 (nI i) (nI (i * w)) (nI k) = fX10_times_186 k89 f M' 68 (nI m) (nI n) (nI w) (nI pb) a6 a7 a9 a11 a12 a14 (nI i) (nI (i * w)) ∧ zTM M M' ∧ PatN M' (pb + (i + 1) * w) (cpS se pb w) F ∧ ∀ x, x < w → mL M' 90 x = fo (pb + x) := by
  have e0 : (i + 1) * w = i * w + w := Nat.succ_mul _ _
  have ew : w ≤ i * w := Nat.le_mul_of_pos_left w hi1
  intro s
  induction s with
  | zero =>
    intro k fuel M hS hp hsp hk hf
    obtain ⟨f, rfl⟩ := suc fuel (by omega)
    refine ⟨M, f, by omega, ?_, zTM.rf, by rw [e0, ← Nat.add_assoc]; rw [show w = k by omega] at hp ⊢; exact hp, hsp⟩
    rw [fX10_times_104]
    simp (disch := omega) only [q_eM, q_Me, q_Mlt, q_Mle, q_leM, q_ltM, q_le, q_nle, q_lt, q_nlt, q_neq, zin_nI, nI_clamp, nI_add, pk_mul, pk_sub, mI_e, mI_n, mL_e, mL_n, mR_e, mR_n, i0, i1, ↓reduceIte, ↓bI_t, ↓bI_f, Bool.false_eq_true, eq_self, chk_true, bnd_just, bnd2_just, app_t, beq_self_eq_true, mK_wI, mK_wL, mK_wR, mK_wIr, mK_wLr, mN_wI, mN_wL, mN_wR, mN_wIr, mN_wLr, mR_wI, mR_wL, mR_wIr, mR_wLr, mI_wL, mI_wR, mI_wLr, mL_wI, mL_wR, mL_wIr]
  | succ s ih =>
    intro k fuel M hS hp hsp hk hf
    obtain ⟨f, rfl⟩ := suc fuel (by omega)
    obtain ⟨p1, p2, p3, p4⟩ := hp
    have v77 : mL M 77 (120 + pb + k) = se (pb + k) := by
      rw [Nat.add_assoc, p4 _ (by omega)]
      have := cpS_at (se := se) (b := pb) (w := w) (p := pb + k) (c := 0) (by omega) (by omega)
      simpa using this
    have v90 := hsp k (by omega)
    obtain ⟨M', f', t1, t2, t3, t4, t5⟩ := ih (k + 1) f (wI (wL (wL M 77 (120 + pb + i * w + k) (se (pb + k))) 76 (120 + pb + i * w + k) (jshl (fo (pb + k)) (nI (i * w)))) 68 14 (nI (pb + i * w + k + 1))) hS (by
      refine ⟨by simp (disch := omega) only [q_eM, q_Me, q_Mlt, q_Mle, q_leM, q_ltM, q_le, q_nle, q_lt, q_nlt, q_neq, zin_nI, nI_clamp, nI_add, pk_mul, pk_sub, mI_e, mI_n, mL_e, mL_n, mR_e, mR_n, i0, i1, ↓reduceIte, ↓bI_t, ↓bI_f, Bool.false_eq_true, eq_self, chk_true, bnd_just, bnd2_just, app_t, beq_self_eq_true, mK_wI, mK_wL, mK_wR, mK_wIr, mK_wLr, mN_wI, mN_wL, mN_wR, mN_wIr, mN_wLr, mR_wI, mR_wL, mR_wIr, mR_wLr, mI_wL, mI_wR, mI_wLr, mL_wI, mL_wR, mL_wIr, Nat.add_assoc], by omega, fun x hx => ?_, fun x hx => ?_⟩
      · by_cases hxe : x = pb + i * w + k
        · rw [mL_wI, mL_e rfl (by omega), hF x (by omega), hxe, show pb + i * w + k = pb + k + i * w by omega, cpF_at (by omega) (by omega) hi1]
        · rw [mL_wI, mL_n (by omega), mL_n (by omega)]; exact p3 x (by omega)
      · by_cases hxe : x = pb + i * w + k
        · rw [mL_wI, mL_n (by omega), mL_e rfl (by omega), hxe, show pb + i * w + k = pb + k + i * w by omega, cpS_at (by omega) (by omega)]
        · rw [mL_wI, mL_n (by omega), mL_n (by omega)]; exact p4 x (by omega)) (fun x hx => by
      rw [mL_wI, mL_n (by omega), mL_n (by omega)]; exact hsp x hx) (by omega) (by omega)
    refine ⟨M', f', by omega, ?_, (((zTM.rf.wL (by omega) _).wL (by omega) _).wI (by omega) _).tr t3, t4, t5⟩
    rw [fX10_times_104]
    simp (disch := omega) only [q_eM, q_Me, q_Mlt, q_Mle, q_leM, q_ltM, q_le, q_nle, q_lt, q_nlt, q_neq, zin_nI, nI_clamp, nI_add, pk_mul, pk_sub, mI_e, mI_n, mL_e, mL_n, mR_e, mR_n, i0, i1, ↓reduceIte, ↓bI_t, ↓bI_f, Bool.false_eq_true, eq_self, chk_true, bnd_just, bnd2_just, app_t, beq_self_eq_true, mK_wI, mK_wL, mK_wR, mK_wIr, mK_wLr, mN_wI, mN_wL, mN_wR, mN_wIr, mN_wLr, mR_wI, mR_wL, mR_wIr, mR_wLr, mI_wL, mI_wR, mI_wLr, mL_wI, mL_wR, mL_wIr, ↓neg1, il_2, il_3, il_4, il_5, il_6, il_7, il_8, il_9, il_26, il_35, il_36, il_40, il_41, il_42, il_43, il_44, il_45, il_46, il_48, il_57, il_60, il_63, il_91, il_93, il_94, il_97, il_120, il_122, il_123, il_124, il_125, il_200, il_255, il_300, il_600, il_1023, il_1024, il_10800, sk_68 hS, sk_76 hS, sk_77 hS, sk_90 hS, sn_76 hS, sn_77 hS, sn_90 hS, sr_68_11 hS, sr_68_12 hS, sr_68_27 hS, p1, v77, v90]
    exact t2
/-- behind a copy: joined -/
theorem m_join {m n w pb i K : Nat} {se F : Nat → Int64} {pt q : Pc} (hm : m ≤ 9) (hi : i ≤ 5) (hf64 : i * w < 64) {M : zM} (hS : Sta M) (hp : PatN M K se F) (k89 : zM → Nat → Int32 → Int32 → Int32 → Int32 → Int32 → Int64 → Int64 → Int32 → Int64 → Int64 → Int32 → Option (Unit × zM)) (N : Nat) (hN : 61 ≤ N) :
    ∃ M', fX10_times_186 k89 N M 68 (nI m) (nI n) (nI w) (nI pb) (bI pt.1) pt.2.1 pt.2.2 (bI q.1) q.2.1 q.2.2 (nI i) (nI (i * w)) = k89 M' 68 (nI m) (nI n) (nI w) (nI pb) (bI pt.1) pt.2.1 pt.2.2 (bI (pApp q (pt.1 || decide (m ≤ i), jshl pt.2.1 (nI (i * w)), jshl pt.2.2 (nI (i * w)))).1) (pApp q (pt.1 || decide (m ≤ i), jshl pt.2.1 (nI (i * w)), jshl pt.2.2 (nI (i * w)))).2.1 (pApp q (pt.1 || decide (m ≤ i), jshl pt.2.1 (nI (i * w)), jshl pt.2.2 (nI (i * w)))).2.2 (nI (i + 1)) ∧
      LK M M' ∧ PatN M' K se (conF F q.2.2 (jshl pt.2.1 (nI (i * w)))) := by
  obtain ⟨M', r1, r2, r3⟩ := m_link q.2.2 (jshl pt.2.1 (nI (i * w))) hS hp N hN
  refine ⟨M', ?_, r2, r3⟩
  obtain ⟨qe, qf, ql⟩ := q
  obtain ⟨pe, pf, pl⟩ := pt
  simp only at r1
  unfold fX10_times_186 fX10_times_215 fX10_times_228 fX10_times_233 fX10_times_256 fX10_times_272 fX10_times_273
  simp only [r1, chk_true, bnd_just, bnd2_just, app_t, beq_self_eq_true, mK_wI, mK_wL, mK_wR, mK_wIr, mK_wLr, mN_wI, mN_wL, mN_wR, mN_wIr, mN_wLr, mR_wI, mR_wL, mR_wIr, mR_wLr, mI_wL, mI_wR, mI_wLr, mL_wI, mL_wR, mL_wIr, sk_68 hS, pApp]
  by_cases hmi : m ≤ i
  · cases qe <;> cases pe <;> simp (disch := omega) only [q_eM, q_Me, q_Mlt, q_Mle, q_leM, q_ltM, q_le, q_nle, q_lt, q_nlt, q_neq, zin_nI, nI_clamp, nI_add, pk_mul, pk_sub, mI_e, mI_n, mL_e, mL_n, mR_e, mR_n, i0, i1, ↓reduceIte, ↓bI_t, ↓bI_f, Bool.false_eq_true, eq_self, chk_true, bnd_just, bnd2_just, app_t, beq_self_eq_true, mK_wI, mK_wL, mK_wR, mK_wIr, mK_wLr, mN_wI, mN_wL, mN_wR, mN_wIr, mN_wLr, mR_wI, mR_wL, mR_wIr, mR_wLr, mI_wL, mI_wR, mI_wLr, mL_wI, mL_wR, mL_wIr, hmi, decide_true, Bool.or_true, Bool.or_false, Bool.and_true, Bool.and_false, Bool.false_and, Bool.true_and, Bool.false_or, Bool.true_or]
  · cases qe <;> cases pe <;> simp (disch := omega) only [q_eM, q_Me, q_Mlt, q_Mle, q_leM, q_ltM, q_le, q_nle, q_lt, q_nlt, q_neq, zin_nI, nI_clamp, nI_add, pk_mul, pk_sub, mI_e, mI_n, mL_e, mL_n, mR_e, mR_n, i0, i1, ↓reduceIte, ↓bI_t, ↓bI_f, Bool.false_eq_true, eq_self, chk_true, bnd_just, bnd2_just, app_t, beq_self_eq_true, mK_wI, mK_wL, mK_wR, mK_wIr, mK_wLr, mN_wI, mN_wL, mN_wR, mN_wIr, mN_wLr, mR_wI, mR_wL, mR_wIr, mR_wLr, mI_wL, mI_wR, mI_wLr, mL_wI, mL_wR, mL_wIr, hmi, decide_false, Bool.or_true, Bool.or_false, Bool.and_true, Bool.and_false, Bool.false_and, Bool.true_and, Bool.false_or, Bool.true_or]
theorem m_tl {m n w pb k d : Nat} {se fo : Nat → Int64} {ro ch : Nat → Pc} {cb : Nat → Nat} {pt : Pc} (hB : BdP pb k pt) (hk : k = pb + w) (hn : n ≤ 5) (hm : m ≤ 9) (hK : pb + n * w ≤ 60) : ∀ (s i fuel : Nat) (M : zM), Sta M → PatN M (pb + (i + 1) * w) (cpS se pb w) (tF (cpF fo pb w) pt w m i) → (∀ x, x < w → mL M 90 x = fo (pb + x)) → mI M 68 13 = nI d → StkM M d ro ch cb → i + 1 + s = n → s * (w + 3) + 70 < fuel →
    ∃ M', fX10_times_89 fuel M 68 (nI m) (nI n) (nI w) (nI pb) (bI pt.1) pt.2.1 pt.2.2 (bI (tP pt w m i).1) (tP pt w m i).2.1 (tP pt w m i).2.2 (nI (i + 1)) = some ((), M') ∧ ML M M' ∧ LayM M' (pb + n * w, cpS se pb w, tF (cpF fo pb w) pt w m (n - 1), d, ro, ch, cb, true, tP pt w m (n - 1), pb) := by
  intro s
  induction s with
  | zero =>
    intro i fuel M hS hp hsp hd hst hi hf
    obtain ⟨f, rfl⟩ := suc fuel (by omega)
    have hd8 := hst.1
    refine ⟨wL (wL (wI (wI (wI M 81 d (nI 1)) 82 d (nI pb)) 83 d (bI (tP pt w m i).1)) 84 d (tP pt w m i).2.1) 85 d (tP pt w m i).2.2, ?_, ((((ML.rf.wI (by omega) _).wI (by omega) _).wI (by omega) _).wL (by omega) _).wL (by omega) _, ?_⟩
    · rw [fX10_times_89]
      simp (disch := omega) only [q_eM, q_Me, q_Mlt, q_Mle, q_leM, q_ltM, q_le, q_nle, q_lt, q_nlt, q_neq, zin_nI, nI_clamp, nI_add, pk_mul, pk_sub, mI_e, mI_n, mL_e, mL_n, mR_e, mR_n, i0, i1, ↓reduceIte, ↓bI_t, ↓bI_f, Bool.false_eq_true, eq_self, chk_true, bnd_just, bnd2_just, app_t, beq_self_eq_true, mK_wI, mK_wL, mK_wR, mK_wIr, mK_wLr, mN_wI, mN_wL, mN_wR, mN_wIr, mN_wLr, mR_wI, mR_wL, mR_wIr, mR_wLr, mI_wL, mI_wR, mI_wLr, mL_wI, mL_wR, mL_wIr, sk_68 hS]
      rw [m_setPart hS hd hd8]; rfl
    · rw [show n - 1 = i by omega, ← show i + 1 = n by omega]
      exact LayM.part hp hd hst pb _
  | succ s ih =>
    intro i fuel M hS hp hsp hd hst hi hf
    obtain ⟨f, rfl⟩ := suc fuel (by omega)
    have hd8 := hst.1
    have e0 : (i + 1 + 1) * w = (i + 1) * w + w := Nat.succ_mul _ _
    have e1 : (i + 1 + 1) * w ≤ n * w := Nat.mul_le_mul_right w (by omega)
    have e2 : (s + 1) * (w + 3) = s * (w + 3) + (w + 3) := Nat.succ_mul _ _
    obtain ⟨M1, f1, g1, g2, g3, g4, g5⟩ := m_cpy (pb := pb) (w := w) (i := i + 1) (m := m) (n := n) (se := se) (fo := fo) (F := tF (cpF fo pb w) pt w m i) (by omega) (by omega) (by omega) (fun x hx => by
      have e3 : (i + 1) * w = i * w + w := Nat.succ_mul _ _
      exact tF_hi hB hk i x (by omega) (by omega)) (fX10_times_89 f) (bI pt.1) pt.2.1 pt.2.2 (bI (tP pt w m i).1) (tP pt w m i).2.1 (tP pt w m i).2.2 w 0 f M hS (by simpa using hp) hsp (by omega) (by omega)
    have hS1 := g3.sta hS
    obtain ⟨M2, t1, t2, t3⟩ := m_join (m := m) (n := n) (w := w) (pb := pb) (i := i + 1) (pt := pt) (q := tP pt w m i) hm (by omega) (by omega) hS1 g4 (fX10_times_89 f) f1 (by omega)
    have hS2 := t2.ml.sta hS1
    obtain ⟨M', u1, u2, u3⟩ := ih (i + 1) f M2 hS2 t3 (fun x hx => by rw [t2.2.2.2 _ _ (by omega)]; exact g5 x hx) (by rw [t2.2.2.1, g3.i _ _ (by omega)]; exact hd) (by
      refine ⟨hd8, fun e he => ?_⟩
      obtain ⟨⟨a1, a2, a3⟩, ⟨b1, b2, b3⟩, b4⟩ := hst.2 e he
      refine ⟨⟨?_, ?_, ?_⟩, ⟨?_, ?_, ?_⟩, ?_⟩
      · rw [t2.2.2.1, g3.i _ _ (by omega)]; exact a1
      · rw [t2.2.2.2 _ _ (by omega), g3.l _ _ (by omega)]; exact a2
      · rw [t2.2.2.2 _ _ (by omega), g3.l _ _ (by omega)]; exact a3
      · rw [t2.2.2.1, g3.i _ _ (by omega)]; exact b1
      · rw [t2.2.2.2 _ _ (by omega), g3.l _ _ (by omega)]; exact b2
      · rw [t2.2.2.2 _ _ (by omega), g3.l _ _ (by omega)]; exact b3
      · rw [t2.2.2.1, g3.i _ _ (by omega)]; exact b4) (by omega) (by omega)
    refine ⟨M', ?_, (g3.ml.tr t2.ml).tr u2, u3⟩
    rw [fX10_times_89]
    simp (disch := omega) only [q_eM, q_Me, q_Mlt, q_Mle, q_leM, q_ltM, q_le, q_nle, q_lt, q_nlt, q_neq, zin_nI, nI_clamp, nI_add, pk_mul, pk_sub, mI_e, mI_n, mL_e, mL_n, mR_e, mR_n, i0, i1, ↓reduceIte, ↓bI_t, ↓bI_f, Bool.false_eq_true, eq_self, chk_true, bnd_just, bnd2_just, app_t, beq_self_eq_true, mK_wI, mK_wL, mK_wR, mK_wIr, mK_wLr, mN_wI, mN_wL, mN_wR, mN_wIr, mN_wLr, mR_wI, mR_wL, mR_wIr, mR_wLr, mI_wL, mI_wR, mI_wLr, mL_wI, mL_wR, mL_wIr]
    rw [g2, t1]
    exact u1
theorem jshl_0 (x : Int64) : jshl x (nI 0) = x := by
  apply jb_ext
  intro j hj
  rw [jb_shl x (by omega) hj]
  simp
theorem or0 (x : Int64) : (0 : Int64) ||| x = x := by
  apply jb_ext
  intro j _
  rw [jb_or, jb_0, Bool.false_or]
theorem m_times {M : zM} (hS : Sta M) {A : LA} (h : LayM M A) (hW : zWf A) (hhp : aHp A = true) {m n : Nat} (hm : m ≤ n) (hn : n ≤ 5) (hn1 : 1 ≤ n) (hK : aPb A + n * (A.1 - aPb A) ≤ 60) (N : Nat) (hN : 600 ≤ N) :
    ∃ M', fX10_times N M 68 (nI m) (nI n) (nI (A.1 - aPb A)) = some ((), M') ∧ ML M M' ∧ LayM M' (aTimes A m n) := by
  obtain ⟨k, se, fo, d, ro, ch, cb, hp, pt, pb⟩ := A
  obtain ⟨h1, h2, h3, h4, h5⟩ := h
  obtain ⟨-, -, -, -, -, w6⟩ := hW
  simp only [aHp] at hhp
  subst hhp
  obtain ⟨w7, w8, w9⟩ := w6 rfl
  obtain ⟨hq, h6⟩ := h5 rfl
  simp only [aPb] at hK ⊢
  obtain ⟨w, hw⟩ : ∃ w, w = k - pb := ⟨_, rfl⟩
  rw [← hw] at hK ⊢
  have hk : k = pb + w := by omega
  have hd := h3.1
  have enw : n * w ≤ 5 * w := Nat.mul_le_mul_right w hn
  have enw1 : w ≤ n * w := Nat.le_mul_of_pos_left w hn1
  obtain ⟨M1, f1, g1, g2, g3, g4⟩ := m_sp (pb := pb) (w := w) (d := d) (fo := fo) (v1 := nI m) (v2 := nI n) (pt := pt) (by omega) hd w 0 N M hS (fun x hx => h1.2.2.1 x (by omega)) (fun x hx => by omega) hq (by omega) (by omega)
  have hS1 := g3.sta hS
  have c90i : ∀ a j, a ≠ 90 → mI M1 a j = mI M a j := fun a j q => g3.i (by simp [q]) j
  have c90l : ∀ a j, a ≠ 90 → mL M1 a j = mL M a j := fun a j q => g3.l (by simp [q]) j
  obtain ⟨f2, rfl⟩ := suc f1 (by omega)
  have hp1 : PatN M1 k se fo := h1.fr (c90i _ _ (by omega)) (fun a j _ _ => c90l _ _ (by omega))
  have j0 : (0 : Nat) * w = 0 := Nat.zero_mul w
  obtain ⟨M2, t1, t2, t3⟩ := m_join (m := m) (n := n) (w := w) (pb := pb) (i := 0) (pt := pt) (q := (true, 0, 0)) (by omega) (by omega) (by omega) hS1 hp1 (fX10_times_89 f2) (f2 - 1) (by omega)
  have hS2 := t2.ml.sta hS1
  have epc : pApp (true, 0, 0) (pt.1 || decide (m ≤ 0), jshl pt.2.1 (nI (0 * w)), jshl pt.2.2 (nI (0 * w))) = tP pt w m 0 := by
    have e9 : (decide (m ≤ 0)) = decide (m = 0) := by by_cases q9 : m = 0 <;> simp [q9]
    simp only [pApp, j0, jshl_0, or0, tP, e9, ↓reduceIte, Bool.true_and, ite_self]
  rw [epc] at t1
  have hp2 : PatN M2 (pb + (0 + 1) * w) (cpS se pb w) (tF (cpF fo pb w) pt w m 0) := by
    obtain ⟨p1, p2, p3, p4⟩ := t3
    have e1 : pb + (0 + 1) * w = k := by rw [Nat.zero_add, Nat.one_mul]; omega
    rw [e1]
    refine ⟨p1, p2, fun x hx => ?_, fun x hx => ?_⟩
    · rw [p3 x hx]
      show conF fo 0 (jshl pt.2.1 (nI (0 * w))) x = cpF fo pb w x
      unfold conF cpF
      rw [jb_0, if_neg (by decide), if_pos (by omega)]
    · rw [p4 x hx]
      unfold cpS
      by_cases hxb : x < pb
      · rw [if_pos hxb]
      · rw [if_neg hxb, Nat.mod_eq_of_lt (by omega)]; congr 1; omega
  obtain ⟨M', u1, u2, u3⟩ := m_tl (m := m) (n := n) (w := w) (pb := pb) (k := k) (d := d) (se := se) (fo := fo) (ro := ro) (ch := ch) (cb := cb) (pt := pt) w9 hk hn (by omega) hK (n - 1) 0 f2 M2 hS2 hp2 (fun x hx => by rw [t2.2.2.2 _ _ (by omega)]; exact g4 x hx) (by rw [t2.2.2.1, c90i _ _ (by omega)]; exact h2) (by
    refine ⟨hd, fun e he => ?_⟩
    obtain ⟨⟨a1, a2, a3⟩, ⟨b1, b2, b3⟩, b4⟩ := h3.2 e he
    refine ⟨⟨?_, ?_, ?_⟩, ⟨?_, ?_, ?_⟩, ?_⟩
    · rw [t2.2.2.1, c90i _ _ (by omega)]; exact a1
    · rw [t2.2.2.2 _ _ (by omega), c90l _ _ (by omega)]; exact a2
    · rw [t2.2.2.2 _ _ (by omega), c90l _ _ (by omega)]; exact a3
    · rw [t2.2.2.1, c90i _ _ (by omega)]; exact b1
    · rw [t2.2.2.2 _ _ (by omega), c90l _ _ (by omega)]; exact b2
    · rw [t2.2.2.2 _ _ (by omega), c90l _ _ (by omega)]; exact b3
    · rw [t2.2.2.1, c90i _ _ (by omega)]; exact b4) (by omega) (by
      have : (n - 1) * (w + 3) ≤ 4 * (w + 3) := Nat.mul_le_mul_right _ (by omega)
      omega)
  refine ⟨M', ?_, ?_, ?_⟩
  · unfold fX10_times
    simp (disch := omega) only [q_eM, q_Me, q_Mlt, q_Mle, q_leM, q_ltM, q_le, q_nle, q_lt, q_nlt, q_neq, zin_nI, nI_clamp, nI_add, pk_mul, pk_sub, mI_e, mI_n, mL_e, mL_n, mR_e, mR_n, i0, i1, ↓reduceIte, ↓bI_t, ↓bI_f, Bool.false_eq_true, eq_self, chk_true, bnd_just, bnd2_just, app_t, beq_self_eq_true, mK_wI, mK_wL, mK_wR, mK_wIr, mK_wLr, mN_wI, mN_wL, mN_wR, mN_wIr, mN_wLr, mR_wI, mR_wL, mR_wIr, mR_wLr, mI_wL, mI_wR, mI_wLr, mL_wI, mL_wR, mL_wIr, sk_68 hS, sk_82 hS, sn_82 hS, sr_68_19 hS, h2, h6]
    rw [g2, fX10_times_89]
    simp (disch := omega) only [q_eM, q_Me, q_Mlt, q_Mle, q_leM, q_ltM, q_le, q_nle, q_lt, q_nlt, q_neq, zin_nI, nI_clamp, nI_add, pk_mul, pk_sub, mI_e, mI_n, mL_e, mL_n, mR_e, mR_n, i0, i1, ↓reduceIte, ↓bI_t, ↓bI_f, Bool.false_eq_true, eq_self, chk_true, bnd_just, bnd2_just, app_t, beq_self_eq_true, mK_wI, mK_wL, mK_wR, mK_wIr, mK_wLr, mN_wI, mN_wL, mN_wR, mN_wIr, mN_wLr, mR_wI, mR_wL, mR_wIr, mR_wLr, mI_wL, mI_wR, mI_wLr, mL_wI, mL_wR, mL_wIr, j0]
    obtain ⟨f3, rfl⟩ := suc f2 (by omega)
    rw [fX10_times_104]
    simp (disch := omega) only [q_eM, q_Me, q_Mlt, q_Mle, q_leM, q_ltM, q_le, q_nle, q_lt, q_nlt, q_neq, zin_nI, nI_clamp, nI_add, pk_mul, pk_sub, mI_e, mI_n, mL_e, mL_n, mR_e, mR_n, i0, i1, ↓reduceIte, ↓bI_t, ↓bI_f, Bool.false_eq_true, eq_self, chk_true, bnd_just, bnd2_just, app_t, beq_self_eq_true, mK_wI, mK_wL, mK_wR, mK_wIr, mK_wLr, mN_wI, mN_wL, mN_wR, mN_wIr, mN_wLr, mR_wI, mR_wL, mR_wIr, mR_wLr, mI_wL, mI_wR, mI_wLr, mL_wI, mL_wR, mL_wIr, ite_self]
    rw [j0] at t1
    exact t1.trans u1
  · exact (ML.tr ⟨g3.1, g3.2.1, fun a j ha => ⟨c90i _ _ (by omega), c90l _ _ (by omega)⟩⟩ t2.ml).tr u2
  · simp only [aTimes, ← hw]; exact u3
end ZMTIMES
