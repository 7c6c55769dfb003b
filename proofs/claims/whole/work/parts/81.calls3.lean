/-! what the calls answer: type, feed, clear, place, finds, find -/
section ZCALLS3
theorem zInv.io {xs : Nat → Int32} {L : Nat} {M M' : zM} {cs ts cs' ts' : List Nat} {cu ke : Option zPt} (h : zInv xs L M cs ts cu ke) (h1 : M'.1 = M.1) (hR : ∀ a j, mR M' a j = mR M a j) (hg : ∀ a j, (a = 0 ∨ (31 ≤ a ∧ a ≤ 34) ∨ (47 ≤ a ∧ a ≤ 67) ∨ (71 ≤ a ∧ a ≤ 77)) → mI M' a j = mI M a j ∧ mL M' a j = mL M a j) (h21 : mI M' 2 1 = mI M 2 1) (h68 : ∀ j, (j = 5 ∨ j = 39) → mI M' 68 j = mI M 68 j) (h38 : mI M' 38 0 = mI M 38 0) (hw : ∀ a j, (a = 39 ∨ a = 99) → mI M' a j = mI M a j) (hc : TypC M' cs') (hc' : TypM M' cs') (ht : TxtC M' ts') (ht' : TxtM M' ts') (hl : LokR M' cu ts') : zInv xs L M' cs' ts' cu ke := by
  obtain ⟨k1, ⟨k2, k2'⟩, k3, k4, k5, k6, k7, k8, ⟨ks, k9⟩, k10⟩ := h
  have hh : ∀ c x o, Hld M c x o → Hld M' c x o := fun c x o q => q.cg (hR _ _) (fun a _ _ => (hg _ _ (by omega)).1) (fun a _ _ => (hg _ _ (by omega)).2) (fun a i _ _ _ => (hg _ _ (by omega)).2) (fun P hP _ a j _ _ => by have := isP_le hP; exact hg _ _ (by omega))
  exact ⟨Sta_eq k1 h1 hR, ⟨by unfold mN at k2 ⊢; rw [h1]; exact k2, fun j => (hg 0 j (by omega)).1.trans (k2' j)⟩, ⟨hc, hc'⟩, ⟨ht, ht'⟩, by rw [h21, h68 5 (by omega)]; exact k5, hh _ _ _ k6, ⟨hh _ _ _ k7.1, fun q => k7.2 (by rw [hR, hR] at q; exact q)⟩, hl, ⟨ks, k9.fr (fun a j _ _ => (hg _ _ (by omega)).1) (fun j => (hg _ _ (by omega)).2)⟩, k10.cg h38 (h68 39 (by omega)) (fun j => hw _ _ (by omega)) (fun j => hw _ _ (by omega))⟩
theorem b_type {xs : Nat → Int32} {L : Nat} {M : zM} {cs ts : List Nat} {cu ke : Option zPt} (h : zInv xs L M cs ts cu ke) (w : Int64) (v : Int32) (N : Nat) (hN : 100 ≤ N) : BothI xs L (fL_type N M 1 w v 102) (fun M1 => fX10_type N M1 68 w v) := by
  have hS := h.sta
  have hT := h.2.2.1.1
  have hT' := h.2.2.1.2
  have hl200 := hT.2.1
  rcases c_type hS hT N (by omega) w v with ⟨q1, q2⟩ | ⟨n, n1, n8, rfl, ⟨q1, q2⟩ | ⟨q1, M', q2, q3, q4, q5⟩⟩
  · refine ⟨1, 0, M, wI M 68 0 (nI 1), cs, ts, cu, ke, ?_, by omega, h.pre, ?_, mI_e rfl rfl, fun q => by omega, h.scr (Scr.rf.code _)⟩
    · unfold fL_type
      simp only [chk_true, bnd_just, bnd2_just, app_t, beq_self_eq_true, mK_wI, mK_wL, mK_wR, mK_wIr, mK_wLr, mN_wI, mN_wL, mN_wR, mN_wIr, mN_wLr, mR_wI, mR_wL, mR_wIr, mR_wLr, mI_wL, mI_wR, mI_wLr, mL_wI, mL_wR, mL_wIr, sk_1 hS, q2, bndC_r, if_true, i1]
    · exact (m_type hS hT' N (by omega) w v).1 q1
  · refine ⟨2, 0, M, wI M 68 0 (nI 2), cs, ts, cu, ke, ?_, by omega, h.pre, ?_, mI_e rfl rfl, fun q => by omega, h.scr (Scr.rf.code _)⟩
    · unfold fL_type
      simp only [chk_true, bnd_just, bnd2_just, app_t, beq_self_eq_true, mK_wI, mK_wL, mK_wR, mK_wIr, mK_wLr, mN_wI, mN_wL, mN_wR, mN_wIr, mN_wLr, mR_wI, mR_wL, mR_wIr, mR_wLr, mI_wL, mI_wR, mI_wLr, mL_wI, mL_wR, mL_wIr, sk_1 hS, q2, bndC_r, sq1, if_true, if_false, il_2]
    · exact ((m_type hS hT' N (by omega) w (nI n)).2 n n1 n8 rfl).1 q1
  · have hS' := q3.sta hS
    obtain ⟨M1, hM1⟩ : ∃ M1, M1 = wL M' 102 0 (Int32.toInt64 (nI (cs.length + n))) := ⟨_, rfl⟩
    have hS1 : Sta M1 := by rw [hM1]; exact hS'
    have hT1 : TypM M1 cs := by
      rw [hM1]
      exact ⟨(q3.i (by simp) _).trans hT'.1, hT'.2.1, fun i hi => (q3.i (by simp) _).trans (hT'.2.2.1 i hi), hT'.2.2.2⟩
    obtain ⟨M2, r1, r2, r3, r4, r5⟩ := ((m_type hS1 hT1 N (by omega) w (nI n)).2 n n1 n8 rfl).2 q1
    have i1' : ∀ a j, mI M1 a j = mI M' a j := fun a j => by rw [hM1]; rfl
    have l1' : ∀ a j, a ≠ 102 → mL M1 a j = mL M' a j := fun a j q => by rw [hM1, mL_n (by omega)]
    have r2' : ∀ a j, a ≠ 68 → a ≠ 69 → mI M2 a j = mI M1 a j ∧ mL M2 a j = mL M1 a j := fun a j h1 h2 => ⟨r2.i (by simp [h1, h2]) j, r2.l (by simp [h1, h2]) j⟩
    have q3' : ∀ a j, a ≠ 2 → a ≠ 3 → mI M' a j = mI M a j ∧ mL M' a j = mL M a j := fun a j h1 h2 => ⟨q3.i (by simp [h1, h2]) j, q3.l (by simp [h1, h2]) j⟩
    refine ⟨0, nI (cs.length + n), M1, M2, cs ++ chs w 0 n, ts, cu, ke, ?_, by omega, ⟨hS1, ?_, fun j => ?_⟩, r1, r3, fun _ => ?_, ?_⟩
    · unfold fL_type
      simp (disch := omega) only [q_eM, q_Me, q_Mlt, q_Mle, q_leM, q_ltM, q_le, q_nle, q_lt, q_nlt, q_neq, zin_nI, nI_clamp, nI_add, pk_mul, pk_sub, mI_e, mI_n, mL_e, mL_n, mR_e, mR_n, i0, i1, ↓reduceIte, ↓bI_t, ↓bI_f, Bool.false_eq_true, eq_self, chk_true, bnd_just, bnd2_just, app_t, beq_self_eq_true, mK_wI, mK_wL, mK_wR, mK_wIr, mK_wLr, mN_wI, mN_wL, mN_wR, mN_wIr, mN_wLr, mR_wI, mR_wL, mR_wIr, mR_wLr, mI_wL, mI_wR, mI_wLr, mL_wI, mL_wR, mL_wIr, sk_1 hS, q2, bndC_l, k102 hS', n102 hS']
      rw [hM1]
    · have := h.2.1.1
      rw [hM1]
      unfold mN at this ⊢
      show (M'.1.getD 0 (99, 0)).2 = L
      rw [q3.1]; exact this
    · rw [i1', (q3' 0 j (by omega) (by omega)).1]; exact h.2.1.2 j
    · rw [(r2' 102 0 (by omega) (by omega)).2, hM1, mL_e rfl rfl]
    · have hall : ∀ a j, a ≠ 2 → a ≠ 3 → a ≠ 68 → a ≠ 69 → a ≠ 102 → mI M2 a j = mI M a j ∧ mL M2 a j = mL M a j := fun a j h1 h2 h3 h4 h5 => by
        obtain ⟨c1, c2⟩ := r2' a j h3 h4
        obtain ⟨c3, c4⟩ := q3' a j h1 h2
        exact ⟨c1.trans ((i1' a j).trans c3), c2.trans ((l1' a j h5).trans c4)⟩
      have e68 : ∀ j, j ≠ 0 → j ≠ 2 → mI M2 68 j = mI M 68 j := fun j h1 h2 => (r4 j h1 h2).trans ((i1' 68 j).trans (q3' 68 j (by omega) (by omega)).1)
      have e2 : ∀ j, mI M2 2 j = mI M' 2 j := fun j => (r2' 2 j (by omega) (by omega)).1.trans (i1' 2 j)
      refine zInv.io (M := M) (cs := cs) (ts := ts) (cu := cu) (ke := ke) h ?_ (fun a j => ?_) (fun a j q => hall a j (by omega) (by omega) (by omega) (by omega) (by omega)) ((e2 1).trans (q4 1 (by omega))) (fun j q => e68 j (by omega) (by omega)) (hall 38 0 (by omega) (by omega) (by omega) (by omega) (by omega)).1 (fun a j q => (hall a j (by omega) (by omega) (by omega) (by omega) (by omega)).1) (q5.cg (e2 0) (fun j => (r2' 3 j (by omega) (by omega)).1.trans (i1' 3 j))) r5 ?_ ?_ ?_
      · rw [r2.1, hM1]; exact q3.1
      · rw [r2.r, hM1]; exact q3.r a j
      · exact h.2.2.2.1.1.cg (hall _ _ (by omega) (by omega) (by omega) (by omega) (by omega)).1 (fun j => (hall _ _ (by omega) (by omega) (by omega) (by omega) (by omega)).1)
      · exact h.2.2.2.1.2.cg (e68 4 (by omega) (by omega)) (fun j => (hall _ _ (by omega) (by omega) (by omega) (by omega) (by omega)).1)
      · exact h.2.2.2.2.2.2.2.1.cg (fun j => (hall _ _ (by omega) (by omega) (by omega) (by omega) (by omega)).1) (fun a j _ _ => (hall _ _ (by omega) (by omega) (by omega) (by omega) (by omega)).1)
theorem b_feed {xs : Nat → Int32} {L : Nat} {M : zM} {cs ts : List Nat} {cu ke : Option zPt} (h : zInv xs L M cs ts cu ke) (w : Int64) (v : Int32) (N : Nat) (hN : 100 ≤ N) : BothI xs L (fL_feed N M 1 w v 102) (fun M1 => fX10_feed N M1 68 w v) := by
  have hS := h.sta
  have hT := h.2.2.2.1.1
  have hT' := h.2.2.2.1.2
  have hl200 := hT.2.1
  have hc := c_feed hS hT N (by omega) w v
  have hbad : ((v < 1 ∨ 8 < v) ∨ ∃ n, 1 ≤ n ∧ n ≤ 8 ∧ v = nI n ∧ allL w 0 n = false) → BothI xs L (fL_feed N M 1 w v 102) (fun M1 => fX10_feed N M1 68 w v) := by
    intro q
    refine ⟨1, 0, M, wI M 68 0 (nI 1), cs, ts, cu, ke, ?_, by omega, h.pre, ?_, mI_e rfl rfl, fun q => by omega, h.scr (Scr.rf.code _)⟩
    · unfold fL_feed
      simp only [chk_true, bnd_just, bnd2_just, app_t, beq_self_eq_true, mK_wI, mK_wL, mK_wR, mK_wIr, mK_wLr, mN_wI, mN_wL, mN_wR, mN_wIr, mN_wLr, mR_wI, mR_wL, mR_wIr, mR_wLr, mI_wL, mI_wR, mI_wLr, mL_wI, mL_wR, mL_wIr, sk_1 hS, hc.1 q, bndC_r, if_true, i1]
    · exact (m_feed hS hT' N (by omega) w v).1 q
  rcases n18 v with q | ⟨n, n1, n8, rfl⟩
  · exact hbad (Or.inl q)
  · cases hal : allL w 0 n with
    | false => exact hbad (Or.inr ⟨n, n1, n8, rfl, hal⟩)
    | true =>
      obtain ⟨c1, c2⟩ := hc.2 n n1 n8 rfl hal
      by_cases hle : ts.length + n ≤ 200
      · obtain ⟨M', q2, q3, q4, q6, q5⟩ := c2 hle
        have hS' := q3.sta hS
        obtain ⟨M1, hM1⟩ : ∃ M1, M1 = wL M' 102 0 (Int32.toInt64 (nI (ts.length + n))) := ⟨_, rfl⟩
        have hS1 : Sta M1 := by rw [hM1]; exact hS'
        have hT1 : TxtM M1 ts := by
          rw [hM1]
          exact ⟨(q3.i (by simp) _).trans hT'.1, hT'.2.1, fun i hi => (q3.i (by simp) _).trans (hT'.2.2.1 i hi), hT'.2.2.2⟩
        obtain ⟨M2, r1, r2, r3, r4, r5⟩ := ((m_feed hS1 hT1 N (by omega) w (nI n)).2 n n1 n8 rfl hal).2 hle
        have i1' : ∀ a j, mI M1 a j = mI M' a j := fun a j => by rw [hM1]; rfl
        have l1' : ∀ a j, a ≠ 102 → mL M1 a j = mL M' a j := fun a j q => by rw [hM1, mL_n (by omega)]
        have r2' : ∀ a j, a ≠ 68 → a ≠ 70 → mI M2 a j = mI M1 a j ∧ mL M2 a j = mL M1 a j := fun a j h1 h2 => ⟨r2.i (by simp [h1, h2]) j, r2.l (by simp [h1, h2]) j⟩
        have q3' : ∀ a j, a ≠ 27 → a ≠ 30 → mI M' a j = mI M a j ∧ mL M' a j = mL M a j := fun a j h1 h2 => ⟨q3.i (by simp [h1, h2]) j, q3.l (by simp [h1, h2]) j⟩
        refine ⟨0, nI (ts.length + n), M1, M2, cs, ts ++ lts w 0 n, cu, ke, ?_, by omega, ⟨hS1, ?_, fun j => ?_⟩, r1, r3, fun _ => ?_, ?_⟩
        · unfold fL_feed
          simp (disch := omega) only [q_eM, q_Me, q_Mlt, q_Mle, q_leM, q_ltM, q_le, q_nle, q_lt, q_nlt, q_neq, zin_nI, nI_clamp, nI_add, pk_mul, pk_sub, mI_e, mI_n, mL_e, mL_n, mR_e, mR_n, i0, i1, ↓reduceIte, ↓bI_t, ↓bI_f, Bool.false_eq_true, eq_self, chk_true, bnd_just, bnd2_just, app_t, beq_self_eq_true, mK_wI, mK_wL, mK_wR, mK_wIr, mK_wLr, mN_wI, mN_wL, mN_wR, mN_wIr, mN_wLr, mR_wI, mR_wL, mR_wIr, mR_wLr, mI_wL, mI_wR, mI_wLr, mL_wI, mL_wR, mL_wIr, sk_1 hS, q2, bndC_l, k102 hS', n102 hS']
          rw [hM1]
        · have := h.2.1.1
          rw [hM1]
          unfold mN at this ⊢
          show (M'.1.getD 0 (99, 0)).2 = L
          rw [q3.1]; exact this
        · rw [i1', (q3' 0 j (by omega) (by omega)).1]; exact h.2.1.2 j
        · rw [(r2' 102 0 (by omega) (by omega)).2, hM1, mL_e rfl rfl]
        · have hall : ∀ a j, a ≠ 27 → a ≠ 30 → a ≠ 68 → a ≠ 70 → a ≠ 102 → mI M2 a j = mI M a j ∧ mL M2 a j = mL M a j := fun a j h1 h2 h3 h4 h5 => by
            obtain ⟨c1, c2⟩ := r2' a j h3 h4
            obtain ⟨c3, c4⟩ := q3' a j h1 h2
            exact ⟨c1.trans ((i1' a j).trans c3), c2.trans ((l1' a j h5).trans c4)⟩
          have e68 : ∀ j, j ≠ 0 → j ≠ 4 → mI M2 68 j = mI M 68 j := fun j h1 h2 => (r4 j h1 h2).trans ((i1' 68 j).trans (q3' 68 j (by omega) (by omega)).1)
          have e27 : ∀ j, mI M2 27 j = mI M' 27 j := fun j => (r2' 27 j (by omega) (by omega)).1.trans (i1' 27 j)
          refine zInv.io (M := M) (cs := cs) (ts := ts) (cu := cu) (ke := ke) h ?_ (fun a j => ?_) (fun a j q => hall a j (by omega) (by omega) (by omega) (by omega) (by omega)) (hall 2 1 (by omega) (by omega) (by omega) (by omega) (by omega)).1 (fun j q => e68 j (by omega) (by omega)) (hall 38 0 (by omega) (by omega) (by omega) (by omega) (by omega)).1 (fun a j q => (hall a j (by omega) (by omega) (by omega) (by omega) (by omega)).1) ?_ ?_ (q5.cg (e27 0) (fun j => (r2' 30 j (by omega) (by omega)).1.trans (i1' 30 j))) r5 ⟨false, (e27 5).trans q6, fun q => by cases q⟩
          · rw [r2.1, hM1]; exact q3.1
          · rw [r2.r, hM1]; exact q3.r a j
          · exact h.2.2.1.1.cg (hall _ _ (by omega) (by omega) (by omega) (by omega) (by omega)).1 (fun j => (hall _ _ (by omega) (by omega) (by omega) (by omega) (by omega)).1)
          · exact h.2.2.1.2.cg (e68 2 (by omega) (by omega)) (fun j => (hall _ _ (by omega) (by omega) (by omega) (by omega) (by omega)).1)
      · refine ⟨2, 0, M, wI M 68 0 (nI 2), cs, ts, cu, ke, ?_, by omega, h.pre, ?_, mI_e rfl rfl, fun q => by omega, h.scr (Scr.rf.code _)⟩
        · unfold fL_feed
          simp only [chk_true, bnd_just, bnd2_just, app_t, beq_self_eq_true, mK_wI, mK_wL, mK_wR, mK_wIr, mK_wLr, mN_wI, mN_wL, mN_wR, mN_wIr, mN_wLr, mR_wI, mR_wL, mR_wIr, mR_wLr, mI_wL, mI_wR, mI_wLr, mL_wI, mL_wR, mL_wIr, sk_1 hS, c1 (by omega), bndC_r, sq1, if_true, if_false, il_2]
        · exact ((m_feed hS hT' N (by omega) w (nI n)).2 n n1 n8 rfl hal).1 (by omega)
/-- calls that answer an int and never throw -/
def BothN (xs : Nat → Int32) (L : Nat) (rC : Option (Int32 × zM)) (fM : zM → Option (Int32 × zM)) : Prop := ∃ b M1 M2 cs ts cu ke, rC = some (b, M1) ∧ Sta M1 ∧ fM M1 = some (b, M2) ∧ zInv xs L M2 cs ts cu ke
theorem b_clear {xs : Nat → Int32} {L : Nat} {M : zM} {cs ts : List Nat} {cu ke : Option zPt} (h : zInv xs L M cs ts cu ke) (N : Nat) : BothN xs L (fX9_clear N M 1) (fun M1 => fX10_clear N M1 68) := by
  have hS := h.sta
  have hT := h.2.2.2.1.1
  have hT' := h.2.2.2.1.2
  have hS1 : Sta (wI (wI M 27 0 0) 27 5 0) := hS
  have hT1 : TxtM (wI (wI M 27 0 0) 27 5 0) ts := hT'.cg (by rw [mI_n (by omega), mI_n (by omega)]) (fun j => by rw [mI_n (by omega), mI_n (by omega)])
  refine ⟨nI ts.length, _, _, cs, [], cu, ke, c_clear hS hT N, hS1, m_clear hS1 hT1 N, ?_⟩
  have hall : ∀ a j, a ≠ 27 → ¬ (a = 68 ∧ (j = 0 ∨ j = 4)) → mI (wI (wI (wI (wI M 27 0 0) 27 5 0) 68 0 0) 68 4 0) a j = mI M a j := fun a j h1 h2 => by rw [mI_n (by omega), mI_n (by omega), mI_n (by omega), mI_n (by omega)]
  refine zInv.io (M := M) (cs := cs) (ts := ts) (cu := cu) (ke := ke) h rfl (fun a j => rfl) (fun a j q => ⟨hall a j (by omega) (by omega), rfl⟩) (hall 2 1 (by omega) (by omega)) (fun j q => hall 68 j (by omega) (by omega)) (hall 38 0 (by omega) (by omega)) (fun a j q => hall a j (by omega) (by omega)) (h.2.2.1.1.cg (hall _ _ (by omega) (by omega)) (fun j => hall _ _ (by omega) (by omega))) (h.2.2.1.2.cg (hall _ _ (by omega) (by omega)) (fun j => hall _ _ (by omega) (by omega))) ?_ ?_ ⟨false, ?_, fun q => by cases q⟩
  · exact ⟨by rw [mI_n (by omega), mI_n (by omega), mI_n (by omega), mI_e rfl rfl]; rfl, by simp, fun i hi => by simp at hi, fun c hc => by simp at hc⟩
  · exact ⟨by rw [mI_e rfl rfl]; rfl, by simp, fun i hi => by simp at hi, fun c hc => by simp at hc⟩
  · rw [mI_n (by omega), mI_n (by omega), mI_e rfl rfl]; rfl
theorem b_place {xs : Nat → Int32} {L : Nat} {M : zM} {cs ts : List Nat} {cu ke : Option zPt} (h : zInv xs L M cs ts cu ke) (N : Nat) : BothN xs L (fX9_place N M 1) (fun M1 => fX10_place N M1 68) := by
  have hS := h.sta
  refine ⟨mI M 2 1, M, _, cs, ts, cu, ke, c_place hS N, hS, ?_, h.scr (Scr.rf.code 0)⟩
  show fX10_place N M 68 = _
  rw [m_place hS N, h.2.2.2.2.1]
/-! finds -/
theorem FndM.cg {M M' : zM} {F : List (Nat × Nat)} (h : FndM M F) (h1 : mI M' 68 42 = mI M 68 42) (h2 : ∀ a j, 100 ≤ a → a ≤ 101 → mI M' a j = mI M a j) : FndM M' F := ⟨h1.trans h.1, h.2.1, fun j hj => ⟨(h2 _ _ (by omega) (by omega)).trans (h.2.2 j hj).1, (h2 _ _ (by omega) (by omega)).trans (h.2.2 j hj).2⟩⟩
theorem XF.toS {M M' : zM} (h : XF M M') : Scr M M' := ⟨h.1, h.2.1, fun a j q => ⟨h.2.2.2 a j (fun q2 => q (by unfold scr; omega)), h.2.2.1 a j⟩⟩
/-- the class has looked -/
theorem looked {xs : Nat → Int32} {L : Nat} {M : zM} {cs ts : List Nat} {p : zPt} {ke : Option zPt} (h : zInv xs L M cs ts (some p) ke) (N : Nat) (hN : 1000 ≤ N) : ∃ P M', isP P ∧ mR M 1 6 = some P ∧ fX8_lookFor N M 27 P = some ((), M') ∧ zInv xs L M' cs ts (some p) ke ∧ FndC M' (fdF p ts 0) := by
  have hS := h.sta
  obtain ⟨h1, h2, h3, P, h4, h5, h6, h7⟩ := h.cu
  obtain ⟨lk, l1, l2⟩ := h.2.2.2.2.2.2.2.1
  obtain ⟨M', r1, r2, r3, r4⟩ := c_look h4 hS h6 h.2.2.2.1.1 l1 (fun q => by
    obtain ⟨p', e1, e2⟩ := l2 q
    cases e1; exact e2) N (by omega)
  refine ⟨P, M', h4, h5, r1, ?_, r4⟩
  refine zInv.io (M := M) (cs := cs) (ts := ts) (cu := some p) (ke := ke) h r2.1 r2.2.1 (fun a j q => ⟨r2.2.2.2 a j (by omega), r2.2.2.1 a j⟩) (r2.2.2.2 _ _ (by omega)) (fun j q => r2.2.2.2 _ _ (by omega)) (r2.2.2.2 _ _ (by omega)) (fun a j q => r2.2.2.2 _ _ (by omega)) (h.2.2.1.1.cg (r2.2.2.2 _ _ (by omega)) (fun j => r2.2.2.2 _ _ (by omega))) (h.2.2.1.2.cg (r2.2.2.2 _ _ (by omega)) (fun j => r2.2.2.2 _ _ (by omega))) (r2.txt h.2.2.2.1.1) (h.2.2.2.1.2.cg (r2.2.2.2 _ _ (by omega)) (fun j => r2.2.2.2 _ _ (by omega))) ⟨true, r3, fun _ => ⟨p, rfl, r4⟩⟩
theorem b_finds {xs : Nat → Int32} {L : Nat} {M : zM} {cs ts : List Nat} {cu ke : Option zPt} (h : zInv xs L M cs ts cu ke) (N : Nat) (hN : 1000 ≤ N) : BothI xs L (fL_finds N M 1 102) (fun M1 => fX10_finds N M1 68) := by
  have hS := h.sta
  cases cu with
  | none =>
    have e1 := (c_the hS h.cu N).1 rfl
    refine ⟨1, 0, M, wI M 68 0 (nI 1), cs, ts, none, ke, ?_, by omega, h.pre, ?_, mI_e rfl rfl, fun q => by omega, h.scr (Scr.rf.code _)⟩
    · unfold fL_finds fX9_finds
      simp only [chk_true, bnd_just, bnd2_just, app_t, beq_self_eq_true, mK_wI, mK_wL, mK_wR, mK_wIr, mK_wLr, mN_wI, mN_wL, mN_wR, mN_wIr, mN_wLr, mR_wI, mR_wL, mR_wIr, mR_wLr, mI_wL, mI_wR, mI_wLr, mL_wI, mL_wR, mL_wIr, sk_1 hS, sr_1_1 hS, e1, bndT_r, bndC_r, if_true, i1]
    · show fX10_finds N M 68 = _
      unfold fX10_finds
      rw [m_none hS h.cu]
      simp (disch := omega) only [q_eM, q_Me, q_Mlt, q_Mle, q_leM, q_ltM, q_le, q_nle, q_lt, q_nlt, q_neq, zin_nI, nI_clamp, nI_add, pk_mul, pk_sub, mI_e, mI_n, mL_e, mL_n, mR_e, mR_n, i0, i1, ↓reduceIte, ↓bI_t, ↓bI_f, Bool.false_eq_true, eq_self, chk_true, bnd_just, bnd2_just, app_t, beq_self_eq_true, mK_wI, mK_wL, mK_wR, mK_wIr, mK_wLr, mN_wI, mN_wL, mN_wR, mN_wIr, mN_wLr, mR_wI, mR_wL, mR_wIr, mR_wLr, mI_wL, mI_wR, mI_wLr, mL_wI, mL_wR, mL_wIr, sk_68 hS, Option.isNone_none]
  | some p =>
    obtain ⟨P, M', h4, h5, r1, r2, r3⟩ := looked h N hN
    have e1 := (c_the hS h.cu N).2 P h5
    have hS' := r2.sta
    have hI1 := r2.scr (Scr.rf.out 0 (Int32.toInt64 (nI (fdF p ts 0).length)))
    have hI2 := hI1.scr (Scr.rf.code (nI 0))
    obtain ⟨M3, t1, t2, t3, t4⟩ := m_findAll (p := p) (ts := ts) hI2.cu.2.2.1 hI2.sta hI2.cu.2.1 hI2.2.2.2.1.2 N (by omega)
    have hS3 := t2.toS.sta hI2.sta
    refine ⟨0, nI (fdF p ts 0).length, wL M' 102 0 (Int32.toInt64 (nI (fdF p ts 0).length)), M3, cs, ts, some p, ke, ?_, by omega, hI1.pre, ?_, t3.trans (mI_e rfl rfl), fun _ => ?_, hI2.scr t2.toS⟩
    · unfold fL_finds fX9_finds
      simp (disch := omega) only [q_eM, q_Me, q_Mlt, q_Mle, q_leM, q_ltM, q_le, q_nle, q_lt, q_nlt, q_neq, zin_nI, nI_clamp, nI_add, pk_mul, pk_sub, mI_e, mI_n, mL_e, mL_n, mR_e, mR_n, i0, i1, ↓reduceIte, ↓bI_t, ↓bI_f, Bool.false_eq_true, eq_self, chk_true, bnd_just, bnd2_just, app_t, beq_self_eq_true, mK_wI, mK_wL, mK_wR, mK_wIr, mK_wLr, mN_wI, mN_wL, mN_wR, mN_wIr, mN_wLr, mR_wI, mR_wL, mR_wIr, mR_wLr, mI_wL, mI_wR, mI_wLr, mL_wI, mL_wR, mL_wIr, sk_1 hS, sk_27 hS, sr_1_1 hS, e1, bndT_l, r1, sk_1 hS', sk_27 hS', sr_1_1 hS', r3.1, bndC_l, k102 hS', n102 hS']
    · show fX10_finds N (wL M' 102 0 (Int32.toInt64 (nI (fdF p ts 0).length))) 68 = _
      unfold fX10_finds
      rw [m_none hI1.sta hI1.cu]
      have k68 := sk_68 hI1.sta
      simp (disch := omega) only [chk_true, bnd_just, bnd2_just, app_t, beq_self_eq_true, mK_wI, mK_wL, mK_wR, mK_wIr, mK_wLr, mN_wI, mN_wL, mN_wR, mN_wIr, mN_wLr, mR_wI, mR_wL, mR_wIr, mR_wLr, mI_wL, mI_wR, mI_wLr, mL_wI, mL_wR, mL_wIr, ↓bI_f, i0, ↓reduceIte, Option.isNone_some, k68, t1, sk_68 hS3, t4.1]
    · rw [t2.2.2.1]
      show mL (wL M' 102 0 (Int32.toInt64 (nI (fdF p ts 0).length))) 102 0 = _
      rw [mL_e rfl rfl]
theorem b_find {xs : Nat → Int32} {L : Nat} {M : zM} {cs ts : List Nat} {cu ke : Option zPt} (h : zInv xs L M cs ts cu ke) (v : Int32) (e : Bool) (N : Nat) (hN : 1000 ≤ N) : BothI xs L (fL_find N M 1 v (bI e) 102) (fun M1 => fX10_find N M1 68 v (bI e)) := by
  have hS := h.sta
  cases cu with
  | none =>
    have e1 := (c_the hS h.cu N).1 rfl
    refine ⟨1, 0, M, wI M 68 0 (nI 1), cs, ts, none, ke, ?_, by omega, h.pre, ?_, mI_e rfl rfl, fun q => by omega, h.scr (Scr.rf.code _)⟩
    · unfold fL_find fX9_find
      simp only [chk_true, bnd_just, bnd2_just, app_t, beq_self_eq_true, mK_wI, mK_wL, mK_wR, mK_wIr, mK_wLr, mN_wI, mN_wL, mN_wR, mN_wIr, mN_wLr, mR_wI, mR_wL, mR_wIr, mR_wLr, mI_wL, mI_wR, mI_wLr, mL_wI, mL_wR, mL_wIr, sk_1 hS, sr_1_1 hS, e1, bndT_r, bndC_r, if_true, i1]
    · show fX10_find N M 68 v (bI e) = _
      unfold fX10_find
      rw [m_none hS h.cu]
      simp (disch := omega) only [q_eM, q_Me, q_Mlt, q_Mle, q_leM, q_ltM, q_le, q_nle, q_lt, q_nlt, q_neq, zin_nI, nI_clamp, nI_add, pk_mul, pk_sub, mI_e, mI_n, mL_e, mL_n, mR_e, mR_n, i0, i1, ↓reduceIte, ↓bI_t, ↓bI_f, Bool.false_eq_true, eq_self, chk_true, bnd_just, bnd2_just, app_t, beq_self_eq_true, mK_wI, mK_wL, mK_wR, mK_wIr, mK_wLr, mN_wI, mN_wL, mN_wR, mN_wIr, mN_wLr, mR_wI, mR_wL, mR_wIr, mR_wLr, mI_wL, mI_wR, mI_wLr, mL_wI, mL_wR, mL_wIr, sk_68 hS, Option.isNone_none]
  | some p =>
    obtain ⟨P, M', h4, h5, r1, r2, r3⟩ := looked h N hN
    have e1 := (c_the hS h.cu N).2 P h5
    have hS' := r2.sta
    have hlen := r3.2.1
    have model : ∀ M1, Scr M' M1 → ∃ M3, Scr M1 M3 ∧ (∀ a j, mL M3 a j = mL M1 a j) ∧ FndM M3 (fdF p ts 0) ∧ fX10_none N M1 68 = some (nI 0, wI M1 68 0 (nI 0)) ∧ fX10_findAll N (wI M1 68 0 (nI 0)) 68 = some ((), M3) := fun M1 hs => by
      have hI1 := r2.scr hs
      have hI2 := hI1.scr (Scr.rf.code (nI 0))
      obtain ⟨M3, t1, t2, t3, t4⟩ := m_findAll (p := p) (ts := ts) hI2.cu.2.2.1 hI2.sta hI2.cu.2.1 hI2.2.2.2.1.2 N (by omega)
      exact ⟨M3, (Scr.rf.code (nI 0)).tr t2.toS, fun a j => t2.2.2.1 a j, t4, m_none hI1.sta hI1.cu N, t1⟩
    have hb1 : (v < 0 ∨ nI (fdF p ts 0).length ≤ v) → BothI xs L (fL_find N M 1 v (bI e) 102) (fun M1 => fX10_find N M1 68 v (bI e)) := by
      intro hv
      obtain ⟨M3, t1, t2, t3, t4, t5⟩ := model M' Scr.rf
      have hS3 := t1.sta hS'
      refine ⟨2, 0, M', wI M3 68 0 (nI 2), cs, ts, some p, ke, ?_, by omega, r2.pre, ?_, mI_e rfl rfl, fun q => by omega, (r2.scr t1).scr (Scr.rf.code _)⟩
      · unfold fL_find fX9_find
        by_cases hv0 : v < 0
        · simp (disch := omega) only [q_eM, q_Me, q_Mlt, q_Mle, q_leM, q_ltM, q_le, q_nle, q_lt, q_nlt, q_neq, zin_nI, nI_clamp, nI_add, pk_mul, pk_sub, mI_e, mI_n, mL_e, mL_n, mR_e, mR_n, i0, i1, ↓reduceIte, ↓bI_t, ↓bI_f, Bool.false_eq_true, eq_self, chk_true, bnd_just, bnd2_just, app_t, beq_self_eq_true, mK_wI, mK_wL, mK_wR, mK_wIr, mK_wLr, mN_wI, mN_wL, mN_wR, mN_wIr, mN_wLr, mR_wI, mR_wL, mR_wIr, mR_wLr, mI_wL, mI_wR, mI_wLr, mL_wI, mL_wR, mL_wIr, sk_1 hS, sk_27 hS, sr_1_1 hS, e1, bndT_l, r1, neg_lt hv0, bndC_r, sq2, il_2]
        · have hvb : nI (fdF p ts 0).length ≤ v := hv.resolve_left hv0
          have n0 : (v < nI 0) = False := eq_false (by rw [← i0]; exact hv0)
          simp (disch := omega) only [q_eM, q_Me, q_Mlt, q_Mle, q_leM, q_ltM, q_le, q_nle, q_lt, q_nlt, q_neq, zin_nI, nI_clamp, nI_add, pk_mul, pk_sub, mI_e, mI_n, mL_e, mL_n, mR_e, mR_n, i0, i1, ↓reduceIte, ↓bI_t, ↓bI_f, Bool.false_eq_true, eq_self, chk_true, bnd_just, bnd2_just, app_t, beq_self_eq_true, mK_wI, mK_wL, mK_wR, mK_wIr, mK_wLr, mN_wI, mN_wL, mN_wR, mN_wIr, mN_wLr, mR_wI, mR_wL, mR_wIr, mR_wLr, mI_wL, mI_wR, mI_wLr, mL_wI, mL_wR, mL_wIr, sk_1 hS, sk_27 hS, sr_1_1 hS, e1, bndT_l, r1, sk_1 hS', sk_27 hS', sr_1_1 hS', r3.1, n0, big_lt hvb, bndC_r, sq2, il_2]
      · show fX10_find N M' 68 v (bI e) = _
        unfold fX10_find fX10_find_26 fX10_find_31
        rw [t4]
        by_cases hv0 : v < 0
        · simp (disch := omega) only [q_eM, q_Me, q_Mlt, q_Mle, q_leM, q_ltM, q_le, q_nle, q_lt, q_nlt, q_neq, zin_nI, nI_clamp, nI_add, pk_mul, pk_sub, mI_e, mI_n, mL_e, mL_n, mR_e, mR_n, i0, i1, ↓reduceIte, ↓bI_t, ↓bI_f, Bool.false_eq_true, eq_self, chk_true, bnd_just, bnd2_just, app_t, beq_self_eq_true, mK_wI, mK_wL, mK_wR, mK_wIr, mK_wLr, mN_wI, mN_wL, mN_wR, mN_wIr, mN_wLr, mR_wI, mR_wL, mR_wIr, mR_wLr, mI_wL, mI_wR, mI_wLr, mL_wI, mL_wR, mL_wIr, il_2, sk_68 hS', t5, neg_lt hv0, sk_68 hS3]
        · have hvb : nI (fdF p ts 0).length ≤ v := hv.resolve_left hv0
          have n0 : (v < nI 0) = False := eq_false (by rw [← i0]; exact hv0)
          simp (disch := omega) only [q_eM, q_Me, q_Mlt, q_Mle, q_leM, q_ltM, q_le, q_nle, q_lt, q_nlt, q_neq, zin_nI, nI_clamp, nI_add, pk_mul, pk_sub, mI_e, mI_n, mL_e, mL_n, mR_e, mR_n, i0, i1, ↓reduceIte, ↓bI_t, ↓bI_f, Bool.false_eq_true, eq_self, chk_true, bnd_just, bnd2_just, app_t, beq_self_eq_true, mK_wI, mK_wL, mK_wR, mK_wIr, mK_wLr, mN_wI, mN_wL, mN_wR, mN_wIr, mN_wLr, mR_wI, mR_wL, mR_wIr, mR_wLr, mI_wL, mI_wR, mI_wLr, mL_wI, mL_wR, mL_wIr, il_2, sk_68 hS', t5, n0, sk_68 hS3, t3.1, big_lt hvb]
    rcases pk_ix v (n := (fdF p ts 0).length) (by omega) with hv | hv | ⟨j, hj, rfl⟩
    · exact hb1 (Or.inl hv)
    · exact hb1 (Or.inr hv)
    · obtain ⟨y, hy⟩ : ∃ y, y = (if e = true then ((fdF p ts 0).getD j (0, 0)).2 else ((fdF p ts 0).getD j (0, 0)).1) := ⟨_, rfl⟩
      obtain ⟨c1, c2⟩ := r3.2.2 j hj
      obtain ⟨M3, t1, t2, t3, t4, t5⟩ := model (wL M' 102 0 (Int32.toInt64 (nI y))) (Scr.rf.out 0 _)
      have hI1 := r2.scr (Scr.rf.out 0 (Int32.toInt64 (nI y)))
      have hS3 := t1.sta hI1.sta
      obtain ⟨d1, d2⟩ := t3.2.2 j hj
      refine ⟨0, nI y, wL M' 102 0 (Int32.toInt64 (nI y)), wI M3 68 0 (nI 0), cs, ts, some p, ke, ?_, by omega, hI1.pre, ?_, mI_e rfl rfl, fun _ => ?_, (hI1.scr t1).scr (Scr.rf.code _)⟩
      · unfold fL_find fX9_find
        cases e with
        | false =>
          rw [if_neg (by decide)] at hy
          subst hy
          simp (disch := omega) only [q_eM, q_Me, q_Mlt, q_Mle, q_leM, q_ltM, q_le, q_nle, q_lt, q_nlt, q_neq, zin_nI, nI_clamp, nI_add, pk_mul, pk_sub, mI_e, mI_n, mL_e, mL_n, mR_e, mR_n, i0, i1, ↓reduceIte, ↓bI_t, ↓bI_f, Bool.false_eq_true, eq_self, chk_true, bnd_just, bnd2_just, app_t, beq_self_eq_true, mK_wI, mK_wL, mK_wR, mK_wIr, mK_wLr, mN_wI, mN_wL, mN_wR, mN_wIr, mN_wLr, mR_wI, mR_wL, mR_wIr, mR_wLr, mI_wL, mI_wR, mI_wLr, mL_wI, mL_wR, mL_wIr, sk_1 hS, sk_27 hS, sr_1_1 hS, e1, bndT_l, r1, sk_1 hS', sk_27 hS', sk_28 hS', sn_28 hS', sr_1_1 hS', sr_27_2 hS', r3.1, c1, bndC_l, k102 hS', n102 hS']
        | true =>
          rw [if_pos rfl] at hy
          subst hy
          simp (disch := omega) only [q_eM, q_Me, q_Mlt, q_Mle, q_leM, q_ltM, q_le, q_nle, q_lt, q_nlt, q_neq, zin_nI, nI_clamp, nI_add, pk_mul, pk_sub, mI_e, mI_n, mL_e, mL_n, mR_e, mR_n, i0, i1, ↓reduceIte, ↓bI_t, ↓bI_f, Bool.false_eq_true, eq_self, chk_true, bnd_just, bnd2_just, app_t, beq_self_eq_true, mK_wI, mK_wL, mK_wR, mK_wIr, mK_wLr, mN_wI, mN_wL, mN_wR, mN_wIr, mN_wLr, mR_wI, mR_wL, mR_wIr, mR_wLr, mI_wL, mI_wR, mI_wLr, mL_wI, mL_wR, mL_wIr, sk_1 hS, sk_27 hS, sr_1_1 hS, e1, bndT_l, r1, sk_1 hS', sk_27 hS', sk_29 hS', sn_29 hS', sr_1_1 hS', sr_27_3 hS', r3.1, c2, bndC_l, k102 hS', n102 hS']
      · show fX10_find N (wL M' 102 0 (Int32.toInt64 (nI y))) 68 (nI j) (bI e) = _
        unfold fX10_find fX10_find_31
        rw [t4]
        cases e with
        | false =>
          rw [if_neg (by decide)] at hy
          subst hy
          simp (disch := omega) only [q_eM, q_Me, q_Mlt, q_Mle, q_leM, q_ltM, q_le, q_nle, q_lt, q_nlt, q_neq, zin_nI, nI_clamp, nI_add, pk_mul, pk_sub, mI_e, mI_n, mL_e, mL_n, mR_e, mR_n, i0, i1, ↓reduceIte, ↓bI_t, ↓bI_f, Bool.false_eq_true, eq_self, chk_true, bnd_just, bnd2_just, app_t, beq_self_eq_true, mK_wI, mK_wL, mK_wR, mK_wIr, mK_wLr, mN_wI, mN_wL, mN_wR, mN_wIr, mN_wLr, mR_wI, mR_wL, mR_wIr, mR_wLr, mI_wL, mI_wR, mI_wLr, mL_wI, mL_wR, mL_wIr, sk_68 hS', t5, sk_68 hS3, sk_101 hS3, sn_101 hS3, sr_68_41 hS3, t3.1, d1]
        | true =>
          rw [if_pos rfl] at hy
          subst hy
          simp (disch := omega) only [q_eM, q_Me, q_Mlt, q_Mle, q_leM, q_ltM, q_le, q_nle, q_lt, q_nlt, q_neq, zin_nI, nI_clamp, nI_add, pk_mul, pk_sub, mI_e, mI_n, mL_e, mL_n, mR_e, mR_n, i0, i1, ↓reduceIte, ↓bI_t, ↓bI_f, Bool.false_eq_true, eq_self, chk_true, bnd_just, bnd2_just, app_t, beq_self_eq_true, mK_wI, mK_wL, mK_wR, mK_wIr, mK_wLr, mN_wI, mN_wL, mN_wR, mN_wIr, mN_wLr, mR_wI, mR_wL, mR_wIr, mR_wLr, mI_wL, mI_wR, mI_wLr, mL_wI, mL_wR, mL_wIr, sk_68 hS', t5, sk_68 hS3, sk_100 hS3, sn_100 hS3, sr_68_40 hS3, t3.1, d2]
      · show mL M3 102 0 = _
        rw [t2, mL_e rfl rfl]
end ZCALLS3
