/-! the model builds an automaton -/
section ZMBUILD
def StM (M : zM) (x : Nat) (ks : List Int64) : Prop := mI M 93 x = nI (ks.length + 1) ∧ ks.length ≤ 299 ∧ NoDup ks ∧ ∀ i, i < ks.length → mL M 91 (300 * x + (i + 1)) = ks.getD i 0
/-- the model's frame of a build of row x -/
def MBF (x : Nat) (M M' : zM) : Prop := M'.1 = M.1 ∧ (∀ a j, mR M' a j = mR M a j) ∧ ∀ a j, ¬ ((a = 91 ∧ 300 * x ≤ j ∧ j < 300 * x + 300) ∨ (a = 92 ∧ 10800 * x ≤ j ∧ j < 10800 * x + 10800) ∨ (a = 93 ∧ j = x) ∨ (a = 94 ∧ j = x)) → mI M' a j = mI M a j ∧ mL M' a j = mL M a j
theorem MBF.rf {x : Nat} {M : zM} : MBF x M M := ⟨rfl, fun _ _ => rfl, fun _ _ _ => ⟨rfl, rfl⟩⟩
theorem MBF.tr {x : Nat} {M M1 M2 : zM} (h : MBF x M M1) (g : MBF x M1 M2) : MBF x M M2 := ⟨g.1.trans h.1, fun a j => (g.2.1 a j).trans (h.2.1 a j), fun a j ha => ⟨((g.2.2 a j ha).1).trans ((h.2.2 a j ha).1), ((g.2.2 a j ha).2).trans ((h.2.2 a j ha).2)⟩⟩
theorem MBF.wI {x : Nat} {M M' : zM} (h : MBF x M M') {a k : Nat} (ha : (a = 91 ∧ 300 * x ≤ k ∧ k < 300 * x + 300) ∨ (a = 92 ∧ 10800 * x ≤ k ∧ k < 10800 * x + 10800) ∨ (a = 93 ∧ k = x) ∨ (a = 94 ∧ k = x)) (v : Int32) : MBF x M (wI M' a k v) := h.tr ⟨rfl, fun _ _ => rfl, fun b j hb => ⟨if_neg (fun q : b = a ∧ j = k => hb (by rw [q.1, q.2]; exact ha)), rfl⟩⟩
theorem MBF.wL {x : Nat} {M M' : zM} (h : MBF x M M') {a k : Nat} (ha : (a = 91 ∧ 300 * x ≤ k ∧ k < 300 * x + 300) ∨ (a = 92 ∧ 10800 * x ≤ k ∧ k < 10800 * x + 10800) ∨ (a = 93 ∧ k = x) ∨ (a = 94 ∧ k = x)) (v : Int64) : MBF x M (wL M' a k v) := h.tr ⟨rfl, fun _ _ => rfl, fun b j hb => ⟨rfl, if_neg (fun q : b = a ∧ j = k => hb (by rw [q.1, q.2]; exact ha))⟩⟩
theorem MBF.sta {x : Nat} {M M' : zM} (h : MBF x M M') (hs : Sta M) : Sta M' := Sta_eq hs h.1 h.2.1
theorem MBF.pat {x : Nat} {M M' : zM} (h : MBF x M M') {y : Nat} {p : zPt} (hp : PatQ M y p) : PatQ M' y p := by
  obtain ⟨k, e, f, l, fo, se⟩ := p
  obtain ⟨h1, h2, h3, h4, h5, h6, h7⟩ := hp
  exact ⟨(h.2.2 _ _ (by omega)).1.trans h1, h2, (h.2.2 _ _ (by omega)).1.trans h3, (h.2.2 _ _ (by omega)).2.trans h4, (h.2.2 _ _ (by omega)).2.trans h5, fun i hi => (h.2.2 _ _ (by omega)).2.trans (h6 i hi), fun i hi => (h.2.2 _ _ (by omega)).2.trans (h7 i hi)⟩
theorem m_so {x : Nat} (hx : x < 2) {M : zM} (hS : Sta M) {ks : List Int64} (h : StM M x ks) (y : Int64) : ∀ (m i fuel : Nat), i + m = ks.length → m < fuel → (∀ j, j < i → ks.getD j 0 ≠ y) →
    ∃ r M', fX10_stateOf_3 fuel M 68 (nI x) y (nI (i + 1)) = some (r, M') ∧ MBF x M M' ∧ (∀ j, mI M' 92 j = mI M 92 j) ∧ StM M' x (addk ks y) ∧ Wy (addk ks y) y r ∧ mI M' 94 x = (if r = iM then nI 1 else mI M 94 x) := by
  obtain ⟨h1, h2, h3, h4⟩ := h
  intro m
  induction m with
  | zero =>
    intro i fuel hi hf hno
    obtain ⟨f, rfl⟩ := suc fuel (by omega)
    have hie : i = ks.length := by omega
    subst hie
    have hny : y ∉ ks := fun q => by
      obtain ⟨j, q1, q2⟩ := mem_getD.mp q
      exact hno j q1 q2
    rw [fX10_stateOf_3]
    by_cases hl : ks.length < 299
    · rw [addk_new hny hl]
      refine ⟨nI (ks.length + 1), wI (wL M 91 (300 * x + (ks.length + 1)) y) 93 x (nI (ks.length + 1 + 1)), ?_, (MBF.rf.wL (by omega) _).wI (by omega) _, fun j => ?_, ⟨?_, ?_, ?_, fun i hi => ?_⟩, Or.inl ⟨ks.length, by simp, by rw [getD_app3 (by omega), if_pos rfl], rfl⟩, ?_⟩
      · simp (disch := omega) only [q_eM, q_Me, q_Mlt, q_Mle, q_leM, q_ltM, q_le, q_nle, q_lt, q_nlt, q_neq, zin_nI, nI_clamp, nI_add, pk_mul, pk_sub, mI_e, mI_n, mL_e, mL_n, mR_e, mR_n, i0, i1, ↓reduceIte, ↓bI_t, ↓bI_f, Bool.false_eq_true, eq_self, chk_true, bnd_just, bnd2_just, app_t, beq_self_eq_true, mK_wI, mK_wL, mK_wR, mK_wIr, mK_wLr, mN_wI, mN_wL, mN_wR, mN_wIr, mN_wLr, mR_wI, mR_wL, mR_wIr, mR_wLr, mI_wL, mI_wR, mI_wLr, mL_wI, mL_wR, mL_wIr, i300, sk_68 hS, sk_91 hS, sk_93 hS, sn_91 hS, sn_93 hS, sr_68_30 hS, sr_68_32 hS, h1, Nat.add_sub_cancel]
      · simp (disch := omega) only [q_eM, q_Me, q_Mlt, q_Mle, q_leM, q_ltM, q_le, q_nle, q_lt, q_nlt, q_neq, zin_nI, nI_clamp, nI_add, pk_mul, pk_sub, mI_e, mI_n, mL_e, mL_n, mR_e, mR_n, i0, i1, ↓reduceIte, ↓bI_t, ↓bI_f, Bool.false_eq_true, eq_self, chk_true, bnd_just, bnd2_just, app_t, beq_self_eq_true, mK_wI, mK_wL, mK_wR, mK_wIr, mK_wLr, mN_wI, mN_wL, mN_wR, mN_wIr, mN_wLr, mR_wI, mR_wL, mR_wIr, mR_wLr, mI_wL, mI_wR, mI_wLr, mL_wI, mL_wR, mL_wIr]
      · simp (disch := omega) only [q_eM, q_Me, q_Mlt, q_Mle, q_leM, q_ltM, q_le, q_nle, q_lt, q_nlt, q_neq, zin_nI, nI_clamp, nI_add, pk_mul, pk_sub, mI_e, mI_n, mL_e, mL_n, mR_e, mR_n, i0, i1, ↓reduceIte, ↓bI_t, ↓bI_f, Bool.false_eq_true, eq_self, chk_true, bnd_just, bnd2_just, app_t, beq_self_eq_true, mK_wI, mK_wL, mK_wR, mK_wIr, mK_wLr, mN_wI, mN_wL, mN_wR, mN_wIr, mN_wLr, mR_wI, mR_wL, mR_wIr, mR_wLr, mI_wL, mI_wR, mI_wLr, mL_wI, mL_wR, mL_wIr, List.length_append, List.length_cons, List.length_nil, Nat.zero_add]
      · simp; omega
      · have := addk_nodup (x := y) h3
        rw [addk_new hny hl] at this
        exact this
      · have hlen : (ks ++ [y]).length = ks.length + 1 := by simp
        rw [hlen] at hi
        rw [getD_app3 hi, mL_wI]
        by_cases hie : i = ks.length
        · rw [if_pos hie, mL_e rfl (by omega)]
        · rw [if_neg hie, mL_n (by omega)]; exact h4 i (by omega)
      · rw [if_neg (by rw [q_eM (by omega)]; exact id)]
        simp (disch := omega) only [q_eM, q_Me, q_Mlt, q_Mle, q_leM, q_ltM, q_le, q_nle, q_lt, q_nlt, q_neq, zin_nI, nI_clamp, nI_add, pk_mul, pk_sub, mI_e, mI_n, mL_e, mL_n, mR_e, mR_n, i0, i1, ↓reduceIte, ↓bI_t, ↓bI_f, Bool.false_eq_true, eq_self, chk_true, bnd_just, bnd2_just, app_t, beq_self_eq_true, mK_wI, mK_wL, mK_wR, mK_wIr, mK_wLr, mN_wI, mN_wL, mN_wR, mN_wIr, mN_wLr, mR_wI, mR_wL, mR_wIr, mR_wLr, mI_wL, mI_wR, mI_wLr, mL_wI, mL_wR, mL_wIr]
    · rw [addk_full hl]
      have hle : ks.length = 299 := by omega
      refine ⟨iM, wI M 94 x (nI 1), ?_, MBF.rf.wI (by omega) _, fun j => mI_n (by omega), ⟨?_, h2, h3, fun i hi => h4 i hi⟩, Or.inr ⟨rfl, hle, hny⟩, ?_⟩
      · rw [hle] at h1 ⊢
        simp (disch := omega) only [q_eM, q_Me, q_Mlt, q_Mle, q_leM, q_ltM, q_le, q_nle, q_lt, q_nlt, q_neq, zin_nI, nI_clamp, nI_add, pk_mul, pk_sub, mI_e, mI_n, mL_e, mL_n, mR_e, mR_n, i0, i1, ↓reduceIte, ↓bI_t, ↓bI_f, Bool.false_eq_true, eq_self, chk_true, bnd_just, bnd2_just, app_t, beq_self_eq_true, mK_wI, mK_wL, mK_wR, mK_wIr, mK_wLr, mN_wI, mN_wL, mN_wR, mN_wIr, mN_wLr, mR_wI, mR_wL, mR_wIr, mR_wLr, mI_wL, mI_wR, mI_wLr, mL_wI, mL_wR, mL_wIr, ↓neg1, i300, sk_68 hS, sk_93 hS, sk_94 hS, sn_93 hS, sn_94 hS, sr_68_32 hS, sr_68_33 hS, h1, nar1]
      · rw [mI_n (by omega)]; exact h1
      · rw [if_pos rfl, mI_e rfl rfl]
  | succ m ih =>
    intro i fuel hi hf hno
    obtain ⟨f, rfl⟩ := suc fuel (by omega)
    have e91 := h4 i (by omega)
    rw [fX10_stateOf_3]
    by_cases hy : ks.getD i 0 = y
    · have hym : y ∈ ks := mem_getD.mpr ⟨i, by omega, hy⟩
      rw [addk_in hym]
      refine ⟨nI (i + 1), M, ?_, MBF.rf, fun j => rfl, ⟨h1, h2, h3, h4⟩, Or.inl ⟨i, by omega, hy, rfl⟩, by rw [if_neg (by rw [q_eM (by omega)]; exact id)]⟩
      simp (disch := omega) only [q_eM, q_Me, q_Mlt, q_Mle, q_leM, q_ltM, q_le, q_nle, q_lt, q_nlt, q_neq, zin_nI, nI_clamp, nI_add, pk_mul, pk_sub, mI_e, mI_n, mL_e, mL_n, mR_e, mR_n, i0, i1, ↓reduceIte, ↓bI_t, ↓bI_f, Bool.false_eq_true, eq_self, chk_true, bnd_just, bnd2_just, app_t, beq_self_eq_true, mK_wI, mK_wL, mK_wR, mK_wIr, mK_wLr, mN_wI, mN_wL, mN_wR, mN_wIr, mN_wLr, mR_wI, mR_wL, mR_wIr, mR_wLr, mI_wL, mI_wR, mI_wLr, mL_wI, mL_wR, mL_wIr, i300, sk_68 hS, sk_91 hS, sk_93 hS, sn_91 hS, sn_93 hS, sr_68_30 hS, sr_68_32 hS, h1, e91]
      rw [if_pos (by rw [← i0]; exact (lg0 _ _).mpr hy)]
    · obtain ⟨r, M', r1, r2⟩ := ih (i + 1) f (by omega) (by omega) (fun j hj => by
        by_cases hji : j = i
        · rw [hji]; exact hy
        · exact hno j (by omega))
      refine ⟨r, M', ?_, r2⟩
      simp (disch := omega) only [q_eM, q_Me, q_Mlt, q_Mle, q_leM, q_ltM, q_le, q_nle, q_lt, q_nlt, q_neq, zin_nI, nI_clamp, nI_add, pk_mul, pk_sub, mI_e, mI_n, mL_e, mL_n, mR_e, mR_n, i0, i1, ↓reduceIte, ↓bI_t, ↓bI_f, Bool.false_eq_true, eq_self, chk_true, bnd_just, bnd2_just, app_t, beq_self_eq_true, mK_wI, mK_wL, mK_wR, mK_wIr, mK_wLr, mN_wI, mN_wL, mN_wR, mN_wIr, mN_wLr, mR_wI, mR_wL, mR_wIr, mR_wLr, mI_wL, mI_wR, mI_wLr, mL_wI, mL_wR, mL_wIr, i300, sk_68 hS, sk_91 hS, sk_93 hS, sn_91 hS, sn_93 hS, sr_68_30 hS, sr_68_32 hS, h1, e91]
      rw [if_neg (by rw [← i0]; exact fun q => hy ((lg0 _ _).mp q))]
      exact r1
theorem m_stateOf {x : Nat} (hx : x < 2) {M : zM} (hS : Sta M) {ks : List Int64} (h : StM M x ks) (y : Int64) (N : Nat) (hN : 310 ≤ N) :
    ∃ r M', fX10_stateOf N M 68 (nI x) y = some (r, M') ∧ MBF x M M' ∧ (∀ j, mI M' 92 j = mI M 92 j) ∧ StM M' x (addk ks y) ∧ Wy (addk ks y) y r ∧ mI M' 94 x = (if r = iM then nI 1 else mI M 94 x) :=
  m_so hx hS h y ks.length 0 N (by omega) (by have := h.2.1; omega) (fun j hj => by omega)
def wyM (M : zM) (x : Nat) (s l : Nat) : Int32 := mI M 92 (10800 * x + 36 * s + l)
theorem StM.fr {M M' : zM} {x : Nat} {ks : List Int64} (h : StM M x ks) (hi : mI M' 93 x = mI M 93 x) (hl : ∀ j, mL M' 91 j = mL M 91 j) : StM M' x ks := ⟨hi.trans h.1, h.2.1, h.2.2.1, fun i hi' => (hl _).trans (h.2.2.2 i hi')⟩
theorem il_10800' : (10800 : Int32) = nI 10800 := by decide
theorem m_b28 {x : Nat} (hx : x < 2) {p : zPt} (hOK : PtOK p) {ks : List Int64} {s : Nat} (hs : s ≤ ks.length) (hk : ks.length ≤ 299) (k16 : zM → Nat → Int32 → Int32 → Option (Unit × zM)) : ∀ (m l fuel : Nat) (M : zM) (b : Bool), Sta M → PatQ M x p → StM M x (rowk p ks s l) → FilW (wyM M x) p (rowk p ks s l) s l b → mI M 94 x = bI b → l + m = 36 → m + 400 < fuel →
    ∃ M' b', fX10_build_28 k16 fuel M 68 (nI x) (nI s) (nI l) = k16 M' 68 (nI x) (nI (s + 1)) ∧ MBF x M M' ∧ StM M' x (rowk p ks s 36) ∧ FilW (wyM M' x) p (rowk p ks s 36) s 36 b' ∧ mI M' 94 x = bI b' := by
  intro m
  induction m with
  | zero =>
    intro l fuel M b hS hp hR hF hb hl hf
    obtain ⟨f, rfl⟩ := suc fuel (by omega)
    have hl36 : l = 36 := by omega
    subst hl36
    refine ⟨M, b, ?_, MBF.rf, hR, hF, hb⟩
    rw [fX10_build_28]
    simp (disch := omega) only [q_eM, q_Me, q_Mlt, q_Mle, q_leM, q_ltM, q_le, q_nle, q_lt, q_nlt, q_neq, zin_nI, nI_clamp, nI_add, pk_mul, pk_sub, mI_e, mI_n, mL_e, mL_n, mR_e, mR_n, i0, i1, ↓reduceIte, ↓bI_t, ↓bI_f, Bool.false_eq_true, eq_self, chk_true, bnd_just, bnd2_just, app_t, beq_self_eq_true, mK_wI, mK_wL, mK_wR, mK_wIr, mK_wLr, mN_wI, mN_wL, mN_wR, mN_wIr, mN_wLr, mR_wI, mR_wL, mR_wIr, mR_wLr, mI_wL, mI_wR, mI_wLr, mL_wI, mL_wR, mL_wIr, i36]
  | succ m ih =>
    intro l fuel M b hS hp hR hF hb hl hf
    obtain ⟨f, rfl⟩ := suc fuel (by omega)
    have hrl := rowk_len (p := p) (s := s) hk l
    have eset : 1 ≤ s → mL M 91 (300 * x + s) = ks.getD (s - 1) 0 := fun h1 => by
      have := hR.2.2.2 (s - 1) (by omega)
      rw [show s - 1 + 1 = s by omega, rowk_getD hk (by omega)] at this
      exact this
    have ego : fX10_goOn f M 68 (nI x) (bI (decide (s = 0))) (mL M 91 (300 * x + s)) (nI l) = some (tgt p ks s l, M) := by
      rw [m_goOn hS (by omega) hp hOK (by omega) _ _ f (by omega)]
      unfold tgt
      by_cases h0 : s = 0
      · subst h0; unfold znxt awt; simp
      · rw [eset (by omega)]
    obtain ⟨r, M1, r1, r2, r3, r4, r5, r6⟩ := m_stateOf hx hS hR (tgt p ks s l) f (by omega)
    have hS1 := r2.sta hS
    obtain ⟨b', hb'⟩ : ∃ b', b' = (b || decide (r = iM)) := ⟨_, rfl⟩
    have hb1 : mI M1 94 x = bI b' := by
      rw [r6, hb']
      by_cases hr : r = iM
      · rw [if_pos hr]; simp [hr, bI_t]
      · rw [if_neg hr, hb]; simp [hr]
    have hMB : MBF x M (wI M1 92 (10800 * x + 36 * s + l) r) := r2.wI (by omega) _
    have hwy : ∀ s' l', Bf s l s' l' → wyM (wI M1 92 (10800 * x + 36 * s + l) r) x s' l' = wyM M x s' l' := fun s' l' hB => by
      unfold wyM
      have h1 := hB.1
      have h2 := hB.2
      rw [mI_n (by omega)]
      exact r3 _
    have hwv : wyM (wI M1 92 (10800 * x + 36 * s + l) r) x s l = r := by
      unfold wyM
      rw [mI_e rfl rfl]
    obtain ⟨M', bb, t1, t2, t3, t4, t5⟩ := ih (l + 1) f (wI M1 92 (10800 * x + 36 * s + l) r) b' (hMB.sta hS) (hMB.pat hp) (r4.fr (mI_n (by omega)) (fun j => rfl)) (FilW_step hF (by omega) (by omega) hrl.2 hwy (rowk_tgt hk hs l).symm (by rw [hwv]; exact r5) (by rw [hwv]; exact hb')) (by rw [mI_n (by omega)]; exact hb1) (by omega) (by omega)
    refine ⟨M', bb, ?_, hMB.tr t2, t3, t4, t5⟩
    rw [fX10_build_28]
    unfold fX10_build_45
    by_cases h0 : s = 0
    · rw [show decide (s = 0) = true by simp [h0], bI_t] at ego
      simp (disch := omega) only [q_eM, q_Me, q_Mlt, q_Mle, q_leM, q_ltM, q_le, q_nle, q_lt, q_nlt, q_neq, zin_nI, nI_clamp, nI_add, pk_mul, pk_sub, mI_e, mI_n, mL_e, mL_n, mR_e, mR_n, i0, i1, ↓reduceIte, ↓bI_t, ↓bI_f, Bool.false_eq_true, eq_self, chk_true, bnd_just, bnd2_just, app_t, beq_self_eq_true, mK_wI, mK_wL, mK_wR, mK_wIr, mK_wLr, mN_wI, mN_wL, mN_wR, mN_wIr, mN_wLr, mR_wI, mR_wL, mR_wIr, mR_wLr, mI_wL, mI_wR, mI_wLr, mL_wI, mL_wR, mL_wIr, i36, i300, il_10800', sk_68 hS, sk_91 hS, sn_91 hS, sr_68_30 hS, sr_68_31 hS, ego, r1, sk_92 hS1, sn_92 hS1]
      rw [if_pos (by rw [h0])]
      exact t1
    · rw [show decide (s = 0) = false by simp [h0], bI_f] at ego
      simp (disch := omega) only [q_eM, q_Me, q_Mlt, q_Mle, q_leM, q_ltM, q_le, q_nle, q_lt, q_nlt, q_neq, zin_nI, nI_clamp, nI_add, pk_mul, pk_sub, mI_e, mI_n, mL_e, mL_n, mR_e, mR_n, i0, i1, ↓reduceIte, ↓bI_t, ↓bI_f, Bool.false_eq_true, eq_self, chk_true, bnd_just, bnd2_just, app_t, beq_self_eq_true, mK_wI, mK_wL, mK_wR, mK_wIr, mK_wLr, mN_wI, mN_wL, mN_wR, mN_wIr, mN_wLr, mR_wI, mR_wL, mR_wIr, mR_wLr, mI_wL, mI_wR, mI_wLr, mL_wI, mL_wR, mL_wIr, i36, i300, il_10800', sk_68 hS, sk_91 hS, sn_91 hS, sr_68_30 hS, sr_68_31 hS, ego, r1, sk_92 hS1, sn_92 hS1]
      exact t1
/-- what the model's row x holds once it is built -/
def AutM (M : zM) (x : Nat) (p : zPt) : Prop := StM M x (zKS p) ∧ ∃ b, mI M 94 x = bI b ∧ FilW (wyM M x) p (zKS p) ((zKS p).length + 1) 0 b
theorem m_bl {x : Nat} (hx : x < 2) {p : zPt} (hOK : PtOK p) : ∀ (f s fuel : Nat) (M : zM) (ks : List Int64) (b : Bool), Sta M → PatQ M x p → StM M x ks → FilW (wyM M x) p ks s 0 b → mI M 94 x = bI b → s ≤ ks.length + 1 → f + s = 300 → f + 500 < fuel →
    ∃ M' b', fX10_build_16 fuel M 68 (nI x) (nI s) = some ((), M') ∧ MBF x M M' ∧ StM M' x (bkF p f s ks) ∧ FilW (wyM M' x) p (bkF p f s ks) ((bkF p f s ks).length + 1) 0 b' ∧ mI M' 94 x = bI b' := by
  intro f
  induction f with
  | zero =>
    intro s fuel M ks b hS hp hR hF hb hs hfs hf
    obtain ⟨g, rfl⟩ := suc fuel (by omega)
    have hk := hR.2.1
    have hse : s = ks.length + 1 := by omega
    refine ⟨M, b, ?_, MBF.rf, hR, ?_, hb⟩
    · rw [fX10_build_16]
      simp (disch := omega) only [q_eM, q_Me, q_Mlt, q_Mle, q_leM, q_ltM, q_le, q_nle, q_lt, q_nlt, q_neq, zin_nI, nI_clamp, nI_add, pk_mul, pk_sub, mI_e, mI_n, mL_e, mL_n, mR_e, mR_n, i0, i1, ↓reduceIte, ↓bI_t, ↓bI_f, Bool.false_eq_true, eq_self, chk_true, bnd_just, bnd2_just, app_t, beq_self_eq_true, mK_wI, mK_wL, mK_wR, mK_wIr, mK_wLr, mN_wI, mN_wL, mN_wR, mN_wIr, mN_wLr, mR_wI, mR_wL, mR_wIr, mR_wLr, mI_wL, mI_wR, mI_wLr, mL_wI, mL_wR, mL_wIr, sk_68 hS, sk_93 hS, sn_93 hS, sr_68_32 hS, hR.1]
    · show FilW (wyM M x) p ks (ks.length + 1) 0 b
      rw [← hse]; exact hF
  | succ f ih =>
    intro s fuel M ks b hS hp hR hF hb hs hfs hf
    obtain ⟨g, rfl⟩ := suc fuel (by omega)
    have hk := hR.2.1
    by_cases hsl : s < ks.length + 1
    · have ebk : bkF p (f + 1) s ks = bkF p f (s + 1) (rowk p ks s 36) := by
        show (if s < ks.length + 1 then _ else _) = _
        rw [if_pos hsl]
      obtain ⟨M1, b1, t1, t2, t3, t4, t5⟩ := m_b28 hx hOK (s := s) (ks := ks) (by omega) hk (fX10_build_16 g) 36 0 g M b hS hp hR hF hb (by omega) (by omega)
      have hrl := rowk_len (p := p) (s := s) hk 36
      obtain ⟨M', b', u1, u2, u3⟩ := ih (s + 1) g M1 (rowk p ks s 36) b1 (t2.sta hS) (t2.pat hp) t3 (FilW_row.mp t4) t5 (by omega) (by omega) (by omega)
      rw [ebk]
      refine ⟨M', b', ?_, t2.tr u2, u3⟩
      rw [fX10_build_16]
      simp (disch := omega) only [q_eM, q_Me, q_Mlt, q_Mle, q_leM, q_ltM, q_le, q_nle, q_lt, q_nlt, q_neq, zin_nI, nI_clamp, nI_add, pk_mul, pk_sub, mI_e, mI_n, mL_e, mL_n, mR_e, mR_n, i0, i1, ↓reduceIte, ↓bI_t, ↓bI_f, Bool.false_eq_true, eq_self, chk_true, bnd_just, bnd2_just, app_t, beq_self_eq_true, mK_wI, mK_wL, mK_wR, mK_wIr, mK_wLr, mN_wI, mN_wL, mN_wR, mN_wIr, mN_wLr, mR_wI, mR_wL, mR_wIr, mR_wLr, mI_wL, mI_wR, mI_wLr, mL_wI, mL_wR, mL_wIr, sk_68 hS, sk_93 hS, sn_93 hS, sr_68_32 hS, hR.1]
      rw [t1, u1]
    · have hse : s = ks.length + 1 := by omega
      have ebk : bkF p (f + 1) s ks = ks := by
        show (if s < ks.length + 1 then _ else _) = _
        rw [if_neg hsl]
      rw [ebk]
      refine ⟨M, b, ?_, MBF.rf, hR, by rw [← hse]; exact hF, hb⟩
      rw [fX10_build_16]
      simp (disch := omega) only [q_eM, q_Me, q_Mlt, q_Mle, q_leM, q_ltM, q_le, q_nle, q_lt, q_nlt, q_neq, zin_nI, nI_clamp, nI_add, pk_mul, pk_sub, mI_e, mI_n, mL_e, mL_n, mR_e, mR_n, i0, i1, ↓reduceIte, ↓bI_t, ↓bI_f, Bool.false_eq_true, eq_self, chk_true, bnd_just, bnd2_just, app_t, beq_self_eq_true, mK_wI, mK_wL, mK_wR, mK_wIr, mK_wLr, mN_wI, mN_wL, mN_wR, mN_wIr, mN_wLr, mR_wI, mR_wL, mR_wIr, mR_wLr, mI_wL, mI_wR, mI_wLr, mL_wI, mL_wR, mL_wIr, sk_68 hS, sk_93 hS, sn_93 hS, sr_68_32 hS, hR.1]
theorem m_build {x : Nat} (hx : x < 2) {p : zPt} (hOK : PtOK p) {M : zM} (hS : Sta M) (hp : PatQ M x p) (N : Nat) (hN : 900 ≤ N) : ∃ M', fX10_build N M 68 (nI x) = some ((), M') ∧ MBF x M M' ∧ AutM M' x p := by
  have hMB : MBF x M (wI (wI M 93 x (nI 1)) 94 x (nI 0)) := (MBF.rf.wI (by omega) _).wI (by omega) _
  obtain ⟨M', b', u1, u2, u3, u4, u5⟩ := m_bl hx hOK 300 0 N (wI (wI M 93 x (nI 1)) 94 x (nI 0)) [] false (hMB.sta hS) (hMB.pat hp) ⟨by simp (disch := omega) only [q_eM, q_Me, q_Mlt, q_Mle, q_leM, q_ltM, q_le, q_nle, q_lt, q_nlt, q_neq, zin_nI, nI_clamp, nI_add, pk_mul, pk_sub, mI_e, mI_n, mL_e, mL_n, mR_e, mR_n, i0, i1, ↓reduceIte, ↓bI_t, ↓bI_f, Bool.false_eq_true, eq_self, chk_true, bnd_just, bnd2_just, app_t, beq_self_eq_true, mK_wI, mK_wL, mK_wR, mK_wIr, mK_wLr, mN_wI, mN_wL, mN_wR, mN_wIr, mN_wLr, mR_wI, mR_wL, mR_wIr, mR_wLr, mI_wL, mI_wR, mI_wLr, mL_wI, mL_wR, mL_wIr, List.length_nil, Nat.zero_add], by simp, fun i j hi => by simp at hi, fun i hi => by simp at hi⟩ ⟨fun s' l' hB => by have := hB.2; omega, Iff.intro (fun q => Bool.noConfusion q) (fun ⟨s', l', hB, _⟩ => by have := hB.2; omega)⟩ (by simp (disch := omega) only [q_eM, q_Me, q_Mlt, q_Mle, q_leM, q_ltM, q_le, q_nle, q_lt, q_nlt, q_neq, zin_nI, nI_clamp, nI_add, pk_mul, pk_sub, mI_e, mI_n, mL_e, mL_n, mR_e, mR_n, i0, i1, ↓reduceIte, ↓bI_t, ↓bI_f, Bool.false_eq_true, eq_self, chk_true, bnd_just, bnd2_just, app_t, beq_self_eq_true, mK_wI, mK_wL, mK_wR, mK_wIr, mK_wLr, mN_wI, mN_wL, mN_wR, mN_wIr, mN_wLr, mR_wI, mR_wL, mR_wIr, mR_wLr, mI_wL, mI_wR, mI_wLr, mL_wI, mL_wR, mL_wIr]) (by omega) (by omega) (by omega)
  refine ⟨M', ?_, hMB.tr u2, u3, b', u5, u4⟩
  unfold fX10_build
  simp (disch := omega) only [q_eM, q_Me, q_Mlt, q_Mle, q_leM, q_ltM, q_le, q_nle, q_lt, q_nlt, q_neq, zin_nI, nI_clamp, nI_add, pk_mul, pk_sub, mI_e, mI_n, mL_e, mL_n, mR_e, mR_n, i0, i1, ↓reduceIte, ↓bI_t, ↓bI_f, Bool.false_eq_true, eq_self, chk_true, bnd_just, bnd2_just, app_t, beq_self_eq_true, mK_wI, mK_wL, mK_wR, mK_wIr, mK_wLr, mN_wI, mN_wL, mN_wR, mN_wIr, mN_wLr, mR_wI, mR_wL, mR_wIr, mR_wLr, mI_wL, mI_wR, mI_wLr, mL_wI, mL_wR, mL_wIr, sk_68 hS, sk_93 hS, sk_94 hS, sn_93 hS, sn_94 hS, sr_68_32 hS, sr_68_33 hS, nar0]
  exact u1
/-- both ways lead to the same number; both go beyond or neither -/
theorem way_eq {wy wy' : Nat → Nat → Int32} {p : zPt} {b b' : Bool} (hn : NoDup (zKS p)) (hl : (zKS p).length ≤ 299) (h : FilW wy p (zKS p) ((zKS p).length + 1) 0 b) (g : FilW wy' p (zKS p) ((zKS p).length + 1) 0 b') : b = b' ∧ ∀ s l, s ≤ (zKS p).length → l < 36 → wy s l = wy' s l := by
  have hw : ∀ s l, s ≤ (zKS p).length → l < 36 → wy s l = wy' s l := fun s l hs hl' => Wy_uniq hn hl (h.1 s l ⟨hl', by omega⟩) (g.1 s l ⟨hl', by omega⟩)
  refine ⟨?_, hw⟩
  have : b = true ↔ b' = true := by
    rw [h.2, g.2]
    constructor
    · rintro ⟨s, l, hB, e⟩
      exact ⟨s, l, hB, by rw [← hw s l (by have := hB.2; omega) hB.1]; exact e⟩
    · rintro ⟨s, l, hB, e⟩
      exact ⟨s, l, hB, by rw [hw s l (by have := hB.2; omega) hB.1]; exact e⟩
  cases b <;> cases b' <;> simp_all
theorem m_isGood {x : Nat} (hx : x < 2) {p : zPt} {M : zM} (hS : Sta M) (hp : PatQ M x p) (hA : StM M x (zKS p)) {s : Nat} (hs : s ≤ (zKS p).length) (N : Nat) : fX10_isGood N M 68 (nI x) (nI s) = some (bI (gd p s), M) := by
  have g73 : mI M 73 x = bI (pe p) := hp.2.2.1
  have g75 : mL M 75 x = pl p := hp.2.2.2.2.1
  have hk := hA.2.1
  unfold fX10_isGood gd
  by_cases h0 : s = 0
  · subst h0
    rw [if_pos rfl]
    simp (disch := omega) only [q_eM, q_Me, q_Mlt, q_Mle, q_leM, q_ltM, q_le, q_nle, q_lt, q_nlt, q_neq, zin_nI, nI_clamp, nI_add, pk_mul, pk_sub, mI_e, mI_n, mL_e, mL_n, mR_e, mR_n, i0, i1, ↓reduceIte, ↓bI_t, ↓bI_f, Bool.false_eq_true, eq_self, chk_true, bnd_just, bnd2_just, app_t, beq_self_eq_true, mK_wI, mK_wL, mK_wR, mK_wIr, mK_wLr, mN_wI, mN_wL, mN_wR, mN_wIr, mN_wLr, mR_wI, mR_wL, mR_wIr, mR_wLr, mI_wL, mI_wR, mI_wLr, mL_wI, mL_wR, mL_wIr, sk_68 hS, sk_73 hS, sn_73 hS, sr_68_8 hS, g73, z01_b]
  · rw [if_neg h0]
    have e91 := hA.2.2.2 (s - 1) (by omega)
    rw [show s - 1 + 1 = s by omega] at e91
    simp (disch := omega) only [q_eM, q_Me, q_Mlt, q_Mle, q_leM, q_ltM, q_le, q_nle, q_lt, q_nlt, q_neq, zin_nI, nI_clamp, nI_add, pk_mul, pk_sub, mI_e, mI_n, mL_e, mL_n, mR_e, mR_n, i0, i1, ↓reduceIte, ↓bI_t, ↓bI_f, Bool.false_eq_true, eq_self, chk_true, bnd_just, bnd2_just, app_t, beq_self_eq_true, mK_wI, mK_wL, mK_wR, mK_wIr, mK_wLr, mN_wI, mN_wL, mN_wR, mN_wIr, mN_wLr, mR_wI, mR_wL, mR_wIr, mR_wLr, mI_wL, mI_wR, mI_wLr, mL_wI, mL_wR, mL_wIr, i300, sk_68 hS, sk_75 hS, sk_91 hS, sn_75 hS, sn_91 hS, sr_68_10 hS, sr_68_30 hS, e91, g75]
    by_cases hz : (zKS p).getD (s - 1) 0 &&& pl p = 0
    · rw [if_pos (by rw [← i0]; exact (lg0 _ _).mpr hz), decide_eq_false (fun q => q hz)]; rfl
    · rw [if_neg (by rw [← i0]; exact fun q => hz ((lg0 _ _).mp q)), decide_eq_true hz]; rfl
end ZMBUILD
