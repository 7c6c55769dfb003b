/-! the model compares two automata -/
section ZMCMP
theorem inj_le {K : Nat} : ∀ (m : Nat) (v : Nat → Nat), (∀ i, i < m → v i < K) → (∀ i j, i < m → j < m → v i = v j → i = j) → m ≤ K := by
  intro m v h1 h2
  have hinv : ∀ n, n ≤ m → ∃ f : Nat → Nat, ∀ s, s < n → f (v s) = s := by
    intro n
    induction n with
    | zero => intro _; exact ⟨fun _ => 0, fun s hs => by omega⟩
    | succ n ih =>
      intro hn
      obtain ⟨f, hf⟩ := ih (by omega)
      refine ⟨updf f (v n) n, fun s hs => ?_⟩
      by_cases hsn : s = n
      · subst hsn; rw [updf_e rfl]
      · have : v s ≠ v n := fun q => hsn (h2 s n (by omega) (by omega) q)
        rw [updf_n this]; exact hf s (by omega)
  obtain ⟨f, hf⟩ := hinv m (Nat.le_refl _)
  exact php K m f (fun s hs => ⟨v s, h1 s hs, hf s hs⟩)
def AutG (M : zM) (p1 p2 : zPt) (δ1 δ2 : Nat → Nat → Nat) : Prop := PatQ M 0 p1 ∧ PatQ M 1 p2 ∧ StM M 0 (zKS p1) ∧ StM M 1 (zKS p2) ∧ (∀ s l, s < (zKS p1).length + 1 → l < 36 → mI M 92 (36 * s + l) = nI (δ1 s l) ∧ δ1 s l < (zKS p1).length + 1) ∧ ∀ s l, s < (zKS p2).length + 1 → l < 36 → mI M 92 (10800 + 36 * s + l) = nI (δ2 s l) ∧ δ2 s l < (zKS p2).length + 1
def zDF (M M' : zM) : Prop := M'.1 = M.1 ∧ (∀ a j, mR M' a j = mR M a j) ∧ ∀ a j, ¬ ((95 ≤ a ∧ a ≤ 99) ∨ (a = 68 ∧ j = 39)) → mI M' a j = mI M a j ∧ mL M' a j = mL M a j
theorem zDF.rf {M : zM} : zDF M M := ⟨rfl, fun _ _ => rfl, fun _ _ _ => ⟨rfl, rfl⟩⟩
theorem zDF.tr {M M1 M2 : zM} (h : zDF M M1) (g : zDF M1 M2) : zDF M M2 := ⟨g.1.trans h.1, fun a j => (g.2.1 a j).trans (h.2.1 a j), fun a j ha => ⟨((g.2.2 a j ha).1).trans ((h.2.2 a j ha).1), ((g.2.2 a j ha).2).trans ((h.2.2 a j ha).2)⟩⟩
theorem zDF.w {M M' : zM} (h : zDF M M') {a k : Nat} (ha : (95 ≤ a ∧ a ≤ 99) ∨ (a = 68 ∧ k = 39)) (v : Int32) : zDF M (wI M' a k v) := h.tr ⟨rfl, fun _ _ => rfl, fun b j hb => ⟨mI_n (by omega), rfl⟩⟩
theorem zDF.sta {M M' : zM} (h : zDF M M') (hs : Sta M) : Sta M' := Sta_eq hs h.1 h.2.1
theorem zDF.pat {M M' : zM} (h : zDF M M') {y : Nat} {p : zPt} (hp : PatQ M y p) : PatQ M' y p := by
  obtain ⟨k, e, f, l, fo, se⟩ := p
  obtain ⟨h1, h2, h3, h4, h5, h6, h7⟩ := hp
  exact ⟨(h.2.2 _ _ (by omega)).1.trans h1, h2, (h.2.2 _ _ (by omega)).1.trans h3, (h.2.2 _ _ (by omega)).2.trans h4, (h.2.2 _ _ (by omega)).2.trans h5, fun i hi => (h.2.2 _ _ (by omega)).2.trans (h6 i hi), fun i hi => (h.2.2 _ _ (by omega)).2.trans (h7 i hi)⟩
theorem zDF.aut {M M' : zM} (h : zDF M M') {p1 p2 : zPt} {δ1 δ2 : Nat → Nat → Nat} (hA : AutG M p1 p2 δ1 δ2) : AutG M' p1 p2 δ1 δ2 := by
  obtain ⟨h1, h2, h3, h4, h5, h6⟩ := hA
  exact ⟨h.pat h1, h.pat h2, h3.fr (h.2.2 _ _ (by omega)).1 (fun j => (h.2.2 _ _ (by omega)).2), h4.fr (h.2.2 _ _ (by omega)).1 (fun j => (h.2.2 _ _ (by omega)).2), fun s l hs hl => ⟨(h.2.2 _ _ (by omega)).1.trans (h5 s l hs hl).1, (h5 s l hs hl).2⟩, fun s l hs hl => ⟨(h.2.2 _ _ (by omega)).1.trans (h6 s l hs hl).1, (h6 s l hs hl).2⟩⟩
def vp2 (δ1 δ2 : Nat → Nat → Nat) (c : Nat) : Nat := 300 * sta δ1 c + sta δ2 c
def DifI (δ1 δ2 : Nat → Nat → Nat) (M : zM) (m : Nat) (C : Nat → Nat) : Prop := (∀ k, k < m → mI M 96 k = nI (vp2 δ1 δ2 (C k)) ∧ (wd (C k)).length ≤ k) ∧ (∀ k, 0 < k → k < m → ∃ j l, j < k ∧ l < 36 ∧ mI M 97 k = nI j ∧ mI M 98 k = nI l ∧ C k = ex (C j) l) ∧ (∃ ap : Nat → Bool, (∀ v, v < 90000 → mI M 95 v = bI (ap v)) ∧ ∀ v, v < 90000 → (ap v = true ↔ ∃ k, k < m ∧ vp2 δ1 δ2 (C k) = v)) ∧ C 0 = 0 ∧ (∀ i j, i < m → j < m → vp2 δ1 δ2 (C i) = vp2 δ1 δ2 (C j) → i = j) ∧ (∀ i j, i < j → j < m → C i < C j)
def zPM (δ1 δ2 : Nat → Nat → Nat) (m : Nat) (C : Nat → Nat) (cur l : Nat) : Prop := ∀ k l', k < m → l' < 36 → (k < cur ∨ (k = cur ∧ l' < l)) → ∃ k', k' < m ∧ C k' ≤ ex (C k) l' ∧ sta δ1 (C k') = sta δ1 (ex (C k) l') ∧ sta δ2 (C k') = sta δ2 (ex (C k) l')
theorem m_dl {p1 p2 : zPt} {δ1 δ2 : Nat → Nat → Nat} {cur : Nat} (k111 : zM → Nat → Int32 → Int32 → Option (Int32 × zM)) {s1 s2 : Nat} : ∀ (mm l fuel : Nat) (M : zM) (m : Nat) (C : Nat → Nat), l + mm = 36 → mm < fuel → Sta M → AutG M p1 p2 δ1 δ2 → DifI δ1 δ2 M m C → zPM δ1 δ2 m C cur l → (∀ k, k < m → C k < ex (C cur) l) → cur < m → s1 = sta δ1 (C cur) → s2 = sta δ2 (C cur) →
    ∃ M' m' C', fX10_differ_168 k111 fuel M 68 (nI m) (nI cur) (nI s1) (nI s2) (nI l) = k111 M' 68 (nI m') (nI (cur + 1)) ∧ zDF M M' ∧ mI M' 68 39 = mI M 68 39 ∧ DifI δ1 δ2 M' m' C' ∧ zPM δ1 δ2 m' C' cur 36 ∧ (∀ k, k < m' → C' k < ex (C' cur) 36) ∧ m ≤ m' ∧ ∀ k, k < m → C' k = C k := by
  intro mm
  induction mm with
  | zero =>
    intro l fuel M m C hl hfu hS hA hM hP hf hcm e1 e2
    obtain ⟨g, rfl⟩ := suc fuel (by omega)
    have hl36 : l = 36 := by omega
    subst hl36
    have hm90 : m ≤ 90000 := inj_le m (fun k => vp2 δ1 δ2 (C k)) (fun i hi => by
      have := hA.2.2.1.2.1
      have := hA.2.2.2.1.2.1
      have a1 := sta_lt (δ := δ1) (n := (zKS p1).length + 1) (by omega) (fun s l hs hl => (hA.2.2.2.2.1 s l hs hl).2) (C i)
      have a2 := sta_lt (δ := δ2) (n := (zKS p2).length + 1) (by omega) (fun s l hs hl => (hA.2.2.2.2.2 s l hs hl).2) (C i)
      show 300 * sta δ1 (C i) + sta δ2 (C i) < 90000
      omega) hM.2.2.2.2.1
    refine ⟨M, m, C, ?_, zDF.rf, rfl, hM, hP, hf, Nat.le_refl _, fun _ _ => rfl⟩
    rw [fX10_differ_168]
    simp (disch := omega) only [q_eM, q_Me, q_Mlt, q_Mle, q_leM, q_ltM, q_le, q_nle, q_lt, q_nlt, q_neq, zin_nI, nI_clamp, nI_add, pk_mul, pk_sub, mI_e, mI_n, mL_e, mL_n, mR_e, mR_n, i0, i1, ↓reduceIte, ↓bI_t, ↓bI_f, Bool.false_eq_true, eq_self, chk_true, bnd_just, bnd2_just, app_t, beq_self_eq_true, mK_wI, mK_wL, mK_wR, mK_wIr, mK_wLr, mN_wI, mN_wL, mN_wR, mN_wIr, mN_wLr, mR_wI, mR_wL, mR_wIr, mR_wLr, mI_wL, mI_wR, mI_wLr, mL_wI, mL_wR, mL_wIr, i36]
  | succ mm ih =>
    intro l fuel M m C hl hfu hS hA hM hP hf hcm e1 e2
    obtain ⟨g, rfl⟩ := suc fuel (by omega)
    have k1 := hA.2.2.1.2.1
    have k2 := hA.2.2.2.1.2.1
    have hδ1 := fun s l hs hl => (hA.2.2.2.2.1 s l hs hl).2
    have hδ2 := fun s l hs hl => (hA.2.2.2.2.2 s l hs hl).2
    have st1 := fun c => sta_lt (δ := δ1) (n := (zKS p1).length + 1) (by omega) hδ1 c
    have st2 := fun c => sta_lt (δ := δ2) (n := (zKS p2).length + 1) (by omega) hδ2 c
    have hv90 : ∀ c, vp2 δ1 δ2 c < 90000 := fun c => by
      have a1 := st1 c
      have a2 := st2 c
      show 300 * sta δ1 c + sta δ2 c < 90000
      omega
    have hm90 : m ≤ 90000 := inj_le m (fun k => vp2 δ1 δ2 (C k)) (fun i hi => hv90 _) hM.2.2.2.2.1
    obtain ⟨D, hD⟩ : ∃ D, D = ex (C cur) l := ⟨_, rfl⟩
    have hd1 : sta δ1 D = δ1 s1 l := by rw [hD, e1]; exact sta_ex (by omega)
    have hd2 : sta δ2 D = δ2 s2 l := by rw [hD, e2]; exact sta_ex (by omega)
    have q1 := st1 (C cur)
    have q2 := st2 (C cur)
    rw [← e1] at q1
    rw [← e2] at q2
    obtain ⟨w1, -⟩ := hA.2.2.2.2.1 s1 l q1 (by omega)
    obtain ⟨w2, -⟩ := hA.2.2.2.2.2 s2 l q2 (by omega)
    rw [← hd1] at w1
    rw [← hd2] at w2
    have t1 := st1 D
    have t2 := st2 D
    obtain ⟨ap, ap1, ap2⟩ := hM.2.2.1
    have hvD := hv90 D
    have e95 := ap1 _ hvD
    have hv : nI (300 * sta δ1 D + sta δ2 D) = nI (vp2 δ1 δ2 D) := rfl
    cases hap : ap (vp2 δ1 δ2 D) with
    | true =>
      obtain ⟨k', hk', ek'⟩ := (ap2 _ hvD).mp hap
      have hP' : zPM δ1 δ2 m C cur (l + 1) := by
        intro k l' hk hl' hB
        by_cases hc : k = cur ∧ l' = l
        · obtain ⟨rfl, rfl⟩ := hc
          refine ⟨k', hk', Nat.le_of_lt (hf k' hk'), ?_, ?_⟩
          · have a1 := st1 (C k'); have a2 := st2 (C k')
            unfold vp2 at ek'
            rw [← hD]; omega
          · have a1 := st1 (C k'); have a2 := st2 (C k')
            unfold vp2 at ek'
            rw [← hD]; omega
        · exact hP k l' hk hl' (by omega)
      obtain ⟨M', m', C', u1, u2⟩ := ih (l + 1) g M m C (by omega) (by omega) hS hA hM hP' (fun k hk => by have := hf k hk; unfold ex at this ⊢; omega) hcm e1 e2
      refine ⟨M', m', C', ?_, u2⟩
      rw [hap] at e95
      rw [fX10_differ_168]
      unfold fX10_differ_255
      simp (disch := omega) only [q_eM, q_Me, q_Mlt, q_Mle, q_leM, q_ltM, q_le, q_nle, q_lt, q_nlt, q_neq, zin_nI, nI_clamp, nI_add, pk_mul, pk_sub, mI_e, mI_n, mL_e, mL_n, mR_e, mR_n, i0, i1, ↓reduceIte, ↓bI_t, ↓bI_f, Bool.false_eq_true, eq_self, chk_true, bnd_just, bnd2_just, app_t, beq_self_eq_true, mK_wI, mK_wL, mK_wR, mK_wIr, mK_wLr, mN_wI, mN_wL, mN_wR, mN_wIr, mN_wLr, mR_wI, mR_wL, mR_wIr, mR_wLr, mI_wL, mI_wR, mI_wLr, mL_wI, mL_wR, mL_wIr, i36, i300, il_10800', sk_68 hS, sk_92 hS, sk_95 hS, sn_92 hS, sn_95 hS, sr_68_31 hS, sr_68_34 hS, w1, w2, hv, e95]
      exact u1
    | false =>
      have hnew : ∀ k, k < m → vp2 δ1 δ2 (C k) ≠ vp2 δ1 δ2 D := fun k hk q => by
        have := (ap2 _ hvD).mpr ⟨k, hk, q⟩
        rw [hap] at this; cases this
      have hinj : ∀ i j, i < m + 1 → j < m + 1 → vp2 δ1 δ2 (updf C m D i) = vp2 δ1 δ2 (updf C m D j) → i = j := fun i j hi hj q => by
        by_cases him : i = m
        · by_cases hjm : j = m
          · omega
          · rw [updf_e him, updf_n hjm] at q; exact absurd q.symm (hnew j (by omega))
        · by_cases hjm : j = m
          · rw [updf_n him, updf_e hjm] at q; exact absurd q (hnew i (by omega))
          · rw [updf_n him, updf_n hjm] at q; exact hM.2.2.2.2.1 i j (by omega) (by omega) q
      have hm90' : m + 1 ≤ 90000 := inj_le (m + 1) (fun k => vp2 δ1 δ2 (updf C m D k)) (fun i hi => hv90 _) hinj
      obtain ⟨Mw, hMw⟩ : ∃ Mw, Mw = wI (wI (wI (wI M 95 (vp2 δ1 δ2 D) (nI 1)) 96 m (nI (vp2 δ1 δ2 D))) 97 m (nI cur)) 98 m (nI l) := ⟨_, rfl⟩
      have hDw : zDF M Mw := by rw [hMw]; exact (((zDF.rf.w (by omega) _).w (by omega) _).w (by omega) _).w (by omega) _
      have hlen : (wd D).length = (wd (C cur)).length + 1 := by rw [hD]; exact wd_len (by omega)
      have hM' : DifI δ1 δ2 Mw (m + 1) (updf C m D) := by
        refine ⟨fun k hk => ?_, fun k hk0 hk => ?_, ⟨updf ap (vp2 δ1 δ2 D) true, fun v hv' => ?_, fun v hv' => ?_⟩, ?_, hinj, fun i j hij hj => ?_⟩
        · by_cases hkm : k = m
          · rw [updf_e hkm, hMw, mI_n (by omega), mI_n (by omega), mI_e rfl hkm, hlen]
            exact ⟨rfl, by have := (hM.1 cur hcm).2; omega⟩
          · rw [updf_n hkm, hMw, mI_n (by omega), mI_n (by omega), mI_n (by omega), mI_n (by omega)]
            exact hM.1 k (by omega)
        · by_cases hkm : k = m
          · refine ⟨cur, l, by omega, by omega, ?_, ?_, ?_⟩
            · rw [hMw, mI_n (by omega), mI_e rfl hkm]
            · rw [hMw, mI_e rfl hkm]
            · rw [updf_e hkm, updf_n (by omega), hD]
          · obtain ⟨j, l', r1, r2, r3, r4, r5⟩ := hM.2.1 k hk0 (by omega)
            refine ⟨j, l', r1, r2, ?_, ?_, ?_⟩
            · rw [hMw, mI_n (by omega), mI_n (by omega), mI_n (by omega), mI_n (by omega)]; exact r3
            · rw [hMw, mI_n (by omega), mI_n (by omega), mI_n (by omega), mI_n (by omega)]; exact r4
            · rw [updf_n hkm, updf_n (by omega)]; exact r5
        · by_cases hvv : v = vp2 δ1 δ2 D
          · rw [updf_e hvv, hMw, mI_n (by omega), mI_n (by omega), mI_n (by omega), mI_e rfl hvv]; rfl
          · rw [updf_n hvv, hMw, mI_n (by omega), mI_n (by omega), mI_n (by omega), mI_n (by omega)]; exact ap1 v hv'
        · by_cases hvv : v = vp2 δ1 δ2 D
          · rw [updf_e hvv]
            exact ⟨fun _ => ⟨m, by omega, by rw [updf_e rfl, hvv]⟩, fun _ => rfl⟩
          · rw [updf_n hvv, ap2 v hv']
            constructor
            · rintro ⟨k, hk, q⟩
              exact ⟨k, by omega, by rw [updf_n (by omega)]; exact q⟩
            · rintro ⟨k, hk, q⟩
              by_cases hkm : k = m
              · rw [updf_e hkm] at q; exact absurd q.symm hvv
              · rw [updf_n hkm] at q; exact ⟨k, by omega, q⟩
        · rw [updf_n (by omega)]; exact hM.2.2.2.1
        · by_cases hjm : j = m
          · rw [updf_n (by omega), updf_e hjm, hD]; exact hf i (by omega)
          · rw [updf_n (by omega), updf_n hjm]; exact hM.2.2.2.2.2 i j hij (by omega)
      have hP' : zPM δ1 δ2 (m + 1) (updf C m D) cur (l + 1) := by
        intro k l' hk hl' hB
        have hkm : k < m := by omega
        rw [updf_n (show k ≠ m by omega)]
        by_cases hc : k = cur ∧ l' = l
        · obtain ⟨rfl, rfl⟩ := hc
          exact ⟨m, by omega, by rw [updf_e rfl, hD]; exact Nat.le_refl _, by rw [updf_e rfl, hD], by rw [updf_e rfl, hD]⟩
        · obtain ⟨k', r1, r2, r3, r4⟩ := hP k l' hkm hl' (by omega)
          exact ⟨k', by omega, by rw [updf_n (by omega)]; exact r2, by rw [updf_n (by omega)]; exact r3, by rw [updf_n (by omega)]; exact r4⟩
      obtain ⟨M', m', C', u1, u2, u3, u4, u5, u6, u7, u8⟩ := ih (l + 1) g Mw (m + 1) (updf C m D) (by omega) (by omega) (hDw.sta hS) (hDw.aut hA) hM' hP' (fun k hk => by
        rw [updf_n (show cur ≠ m by omega)]
        by_cases hkm : k = m
        · rw [updf_e hkm, hD]; unfold ex; omega
        · rw [updf_n hkm]; have := hf k (by omega); unfold ex at this ⊢; omega) (by omega) (by rw [updf_n (by omega)]; exact e1) (by rw [updf_n (by omega)]; exact e2)
      refine ⟨M', m', C', ?_, hDw.tr u2, u3.trans (by rw [hMw, mI_n (by omega), mI_n (by omega), mI_n (by omega), mI_n (by omega)]), u4, u5, u6, by omega, fun k hk => by rw [u8 k (by omega), updf_n (by omega)]⟩
      rw [hap] at e95
      rw [fX10_differ_168]
      unfold fX10_differ_255
      simp (disch := omega) only [q_eM, q_Me, q_Mlt, q_Mle, q_leM, q_ltM, q_le, q_nle, q_lt, q_nlt, q_neq, zin_nI, nI_clamp, nI_add, pk_mul, pk_sub, mI_e, mI_n, mL_e, mL_n, mR_e, mR_n, i0, i1, ↓reduceIte, ↓bI_t, ↓bI_f, Bool.false_eq_true, eq_self, chk_true, bnd_just, bnd2_just, app_t, beq_self_eq_true, mK_wI, mK_wL, mK_wR, mK_wIr, mK_wLr, mN_wI, mN_wL, mN_wR, mN_wIr, mN_wLr, mR_wI, mR_wL, mR_wIr, mR_wLr, mI_wL, mI_wR, mI_wLr, mL_wI, mL_wR, mL_wIr, i36, i300, il_10800', sk_68 hS, sk_92 hS, sk_95 hS, sk_96 hS, sk_97 hS, sk_98 hS, sn_92 hS, sn_95 hS, sn_96 hS, sn_97 hS, sn_98 hS, sr_68_31 hS, sr_68_34 hS, sr_68_35 hS, sr_68_36 hS, sr_68_37 hS, w1, w2, hv, e95, nar1]
      rw [← hMw]
      exact u1
/-! the word, spelt -/
theorem m_s7 {δ1 δ2 : Nat → Nat → Nat} {m : Nat} {C : Nat → Nat} (zhm' : m ≤ 90000) (v1 : Int32) : ∀ (i a fuel cnt : Nat) (M : zM), Sta M → DifI δ1 δ2 M m C → a < m → (wd (C a)).length = i → i < fuel → cnt + i ≤ 90000 → mI M 68 39 = nI cnt →
    ∃ M' f', fuel ≤ f' + i + 1 ∧ fX10_spell_7 fuel M 68 v1 (nI a) = fX10_spell_38 f' M' 68 (nI (cnt + i)) v1 ∧ zDF M M' ∧ (∀ b, b ≠ 68 → ∀ j, mI M' b j = mI M b j) ∧ mI M' 68 39 = nI (cnt + i) := by
  intro i
  induction i with
  | zero =>
    intro a fuel cnt M hS hM ha hlen hf hc h39
    obtain ⟨f, rfl⟩ := suc fuel (by omega)
    have ha0 : a = 0 := by
      rcases Nat.eq_zero_or_pos a with q | q
      · exact q
      · obtain ⟨j, l, h1, h2, h3, h4, h5⟩ := hM.2.1 a q ha
        rw [h5, wd_len h2] at hlen; omega
    subst ha0
    refine ⟨M, f, by omega, ?_, zDF.rf, fun _ _ _ => rfl, h39⟩
    rw [fX10_spell_7]
    simp (disch := omega) only [q_eM, q_Me, q_Mlt, q_Mle, q_leM, q_ltM, q_le, q_nle, q_lt, q_nlt, q_neq, zin_nI, nI_clamp, nI_add, pk_mul, pk_sub, mI_e, mI_n, mL_e, mL_n, mR_e, mR_n, i0, i1, ↓reduceIte, ↓bI_t, ↓bI_f, Bool.false_eq_true, eq_self, chk_true, bnd_just, bnd2_just, app_t, beq_self_eq_true, mK_wI, mK_wL, mK_wR, mK_wIr, mK_wLr, mN_wI, mN_wL, mN_wR, mN_wIr, mN_wLr, mR_wI, mR_wL, mR_wIr, mR_wLr, mI_wL, mI_wR, mI_wLr, mL_wI, mL_wR, mL_wIr, sk_68 hS, h39, Nat.add_zero]
  | succ i ih =>
    intro a fuel cnt M hS hM ha hlen hf hc h39
    obtain ⟨f, rfl⟩ := suc fuel (by omega)
    have ha0 : 0 < a := by
      rcases Nat.eq_zero_or_pos a with q | q
      · rw [q, hM.2.2.2.1, wd_0] at hlen; simp at hlen
      · exact q
    obtain ⟨j, l, h1, h2, h3, h4, h5⟩ := hM.2.1 a ha0 ha
    have hlj : (wd (C j)).length = i := by rw [h5, wd_len h2] at hlen; omega
    have hDw : zDF M (wI M 68 39 (nI (cnt + 1))) := zDF.rf.w (by omega) _
    have hM' : DifI δ1 δ2 (wI M 68 39 (nI (cnt + 1))) m C := by
      obtain ⟨a1, a2, ⟨ap, a3, a4⟩, a5⟩ := hM
      refine ⟨fun k hk => by rw [mI_n (by omega)]; exact a1 k hk, fun k hk0 hk => ?_, ⟨ap, fun v hv => by rw [mI_n (by omega)]; exact a3 v hv, a4⟩, a5⟩
      obtain ⟨j', l', r1, r2, r3, r4, r5⟩ := a2 k hk0 hk
      exact ⟨j', l', r1, r2, by rw [mI_n (by omega)]; exact r3, by rw [mI_n (by omega)]; exact r4, r5⟩
    obtain ⟨M', f', t0, t1, t2, t3, t4⟩ := ih j f (cnt + 1) _ (hDw.sta hS) hM' (by omega) hlj (by omega) (by omega) (mI_e rfl rfl)
    refine ⟨M', f', by omega, ?_, hDw.tr t2, fun b hb k => (t3 b hb k).trans (mI_n (by omega)), by rw [t4]; congr 1; omega⟩
    rw [fX10_spell_7]
    simp (disch := omega) only [q_eM, q_Me, q_Mlt, q_Mle, q_leM, q_ltM, q_le, q_nle, q_lt, q_nlt, q_neq, zin_nI, nI_clamp, nI_add, pk_mul, pk_sub, mI_e, mI_n, mL_e, mL_n, mR_e, mR_n, i0, i1, ↓reduceIte, ↓bI_t, ↓bI_f, Bool.false_eq_true, eq_self, chk_true, bnd_just, bnd2_just, app_t, beq_self_eq_true, mK_wI, mK_wL, mK_wR, mK_wIr, mK_wLr, mN_wI, mN_wL, mN_wR, mN_wIr, mN_wLr, mR_wI, mR_wL, mR_wIr, mR_wLr, mI_wL, mI_wR, mI_wLr, mL_wI, mL_wR, mL_wIr, sk_68 hS, sk_97 hS, sn_97 hS, sr_68_36 hS, h39, h3]
    rw [t1]
    congr 2
    omega
theorem m_s38 {δ1 δ2 : Nat → Nat → Nat} {m : Nat} {C : Nat → Nat} (zhm' : m ≤ 90000) : ∀ (i a fuel : Nat) (M : zM), Sta M → DifI δ1 δ2 M m C → a < m → (wd (C a)).length = i → i < fuel →
    ∃ M', fX10_spell_38 fuel M 68 (nI i) (nI a) = some ((), M') ∧ zDF M M' ∧ (∀ b, b ≠ 99 → ∀ j, mI M' b j = mI M b j) ∧ (∀ j, i ≤ j → mI M' 99 j = mI M 99 j) ∧ ∀ j, j < i → mI M' 99 j = nI ((wd (C a)).getD j 0) := by
  intro i
  induction i with
  | zero =>
    intro a fuel M hS hM ha hlen hf
    obtain ⟨f, rfl⟩ := suc fuel (by omega)
    have ha0 : a = 0 := by
      rcases Nat.eq_zero_or_pos a with q | q
      · exact q
      · obtain ⟨j, l, h1, h2, h3, h4, h5⟩ := hM.2.1 a q ha
        rw [h5, wd_len h2] at hlen; omega
    subst ha0
    refine ⟨M, ?_, zDF.rf, fun _ _ _ => rfl, fun _ _ => rfl, fun j hj => by omega⟩
    rw [fX10_spell_38]
    simp (disch := omega) only [q_eM, q_Me, q_Mlt, q_Mle, q_leM, q_ltM, q_le, q_nle, q_lt, q_nlt, q_neq, zin_nI, nI_clamp, nI_add, pk_mul, pk_sub, mI_e, mI_n, mL_e, mL_n, mR_e, mR_n, i0, i1, ↓reduceIte, ↓bI_t, ↓bI_f, Bool.false_eq_true, eq_self, chk_true, bnd_just, bnd2_just, app_t, beq_self_eq_true, mK_wI, mK_wL, mK_wR, mK_wIr, mK_wLr, mN_wI, mN_wL, mN_wR, mN_wIr, mN_wLr, mR_wI, mR_wL, mR_wIr, mR_wLr, mI_wL, mI_wR, mI_wLr, mL_wI, mL_wR, mL_wIr]
  | succ i ih =>
    intro a fuel M hS hM ha hlen hf
    obtain ⟨f, rfl⟩ := suc fuel (by omega)
    have ha0 : 0 < a := by
      rcases Nat.eq_zero_or_pos a with q | q
      · rw [q, hM.2.2.2.1, wd_0] at hlen; simp at hlen
      · exact q
    obtain ⟨j, l, h1, h2, h3, h4, h5⟩ := hM.2.1 a ha0 ha
    have hwa : wd (C a) = wd (C j) ++ [l] := by rw [h5]; exact wd_ex h2
    have hlj : (wd (C j)).length = i := by rw [hwa] at hlen; simp at hlen; exact hlen
    have hia : i < 90000 := by have := (hM.1 a ha).2; omega
    have hDw : zDF M (wI M 99 i (nI l)) := zDF.rf.w (by omega) _
    have hM' : DifI δ1 δ2 (wI M 99 i (nI l)) m C := by
      obtain ⟨a1, a2, ⟨ap, a3, a4⟩, a5⟩ := hM
      refine ⟨fun k hk => by rw [mI_n (by omega)]; exact a1 k hk, fun k hk0 hk => ?_, ⟨ap, fun v hv => by rw [mI_n (by omega)]; exact a3 v hv, a4⟩, a5⟩
      obtain ⟨j', l', r1, r2, r3, r4, r5⟩ := a2 k hk0 hk
      exact ⟨j', l', r1, r2, by rw [mI_n (by omega)]; exact r3, by rw [mI_n (by omega)]; exact r4, r5⟩
    obtain ⟨M', t1, t2, t3, t4, t5⟩ := ih j f (wI M 99 i (nI l)) (hDw.sta hS) hM' (by omega) hlj (by omega)
    refine ⟨M', ?_, hDw.tr t2, fun b hb k => (t3 b hb k).trans (mI_n (by omega)), fun k hk => (t4 k (by omega)).trans (mI_n (by omega)), fun k hk => ?_⟩
    · rw [fX10_spell_38, iM_dec]
      simp (disch := omega) only [q_eM, q_Me, q_Mlt, q_Mle, q_leM, q_ltM, q_le, q_nle, q_lt, q_nlt, q_neq, zin_nI, nI_clamp, nI_add, pk_mul, pk_sub, mI_e, mI_n, mL_e, mL_n, mR_e, mR_n, i0, i1, ↓reduceIte, ↓bI_t, ↓bI_f, Bool.false_eq_true, eq_self, chk_true, bnd_just, bnd2_just, app_t, beq_self_eq_true, mK_wI, mK_wL, mK_wR, mK_wIr, mK_wLr, mN_wI, mN_wL, mN_wR, mN_wIr, mN_wLr, mR_wI, mR_wL, mR_wIr, mR_wLr, mI_wL, mI_wR, mI_wLr, mL_wI, mL_wR, mL_wIr, sk_68 hS, sk_97 hS, sk_98 hS, sk_99 hS, sn_97 hS, sn_98 hS, sn_99 hS, sr_68_36 hS, sr_68_37 hS, sr_68_38 hS, h3, h4]
      exact t1
    · by_cases hki : k = i
      · rw [hki, t4 i (by omega), mI_e rfl rfl, hwa, List.getD_eq_getElem?_getD, List.getElem?_append_right (by omega), hlj]
        simp
      · rw [t5 k (by omega), hwa, List.getD_eq_getElem?_getD, List.getD_eq_getElem?_getD, List.getElem?_append_left (by omega)]
def DifR (δ1 δ2 : Nat → Nat → Nat) (g1 g2 : Nat → Bool) (M' : zM) (r : Int32) : Prop := (r = iM ∧ mI M' 68 39 = nI 0 ∧ ∀ E, ¬ Tel δ1 δ2 g1 g2 E) ∨ ∃ D, zLst δ1 δ2 g1 g2 D ∧ r = nI (wd D).length ∧ mI M' 68 39 = nI (wd D).length ∧ ∀ j, j < (wd D).length → mI M' 99 j = nI ((wd D).getD j 0)
theorem m_spell {δ1 δ2 : Nat → Nat → Nat} {m : Nat} {C : Nat → Nat} (zhm' : m ≤ 90000) {M : zM} (hS : Sta M) (hM : DifI δ1 δ2 M m C) {a : Nat} (ha : a < m) (N : Nat) (hN : 190000 ≤ N) :
    ∃ M', fX10_spell N M 68 (nI a) = some ((), M') ∧ zDF M M' ∧ mI M' 68 39 = nI (wd (C a)).length ∧ ∀ j, j < (wd (C a)).length → mI M' 99 j = nI ((wd (C a)).getD j 0) := by
  have hla := (hM.1 a ha).2
  have hDw : zDF M (wI M 68 39 (nI 0)) := zDF.rf.w (by omega) _
  have hM0 : DifI δ1 δ2 (wI M 68 39 (nI 0)) m C := by
    obtain ⟨a1, a2, ⟨ap, a3, a4⟩, a5⟩ := hM
    refine ⟨fun k hk => by rw [mI_n (by omega)]; exact a1 k hk, fun k hk0 hk => ?_, ⟨ap, fun v hv => by rw [mI_n (by omega)]; exact a3 v hv, a4⟩, a5⟩
    obtain ⟨j', l', r1, r2, r3, r4, r5⟩ := a2 k hk0 hk
    exact ⟨j', l', r1, r2, by rw [mI_n (by omega)]; exact r3, by rw [mI_n (by omega)]; exact r4, r5⟩
  obtain ⟨M1, f1, t0, t1, t2, t3, t4⟩ := m_s7 zhm' (nI a) (wd (C a)).length a N 0 _ (hDw.sta hS) hM0 ha rfl (by omega) (by omega) (mI_e rfl rfl)
  rw [Nat.zero_add] at t1 t4
  have hM1 : DifI δ1 δ2 M1 m C := by
    obtain ⟨a1, a2, ⟨ap, a3, a4⟩, a5⟩ := hM0
    refine ⟨fun k hk => by rw [t3 96 (by omega)]; exact a1 k hk, fun k hk0 hk => ?_, ⟨ap, fun v hv => by rw [t3 95 (by omega)]; exact a3 v hv, a4⟩, a5⟩
    obtain ⟨j', l', r1, r2, r3, r4, r5⟩ := a2 k hk0 hk
    exact ⟨j', l', r1, r2, by rw [t3 97 (by omega)]; exact r3, by rw [t3 98 (by omega)]; exact r4, r5⟩
  obtain ⟨M', u1, u2, u3, u4, u5⟩ := m_s38 zhm' (wd (C a)).length a f1 M1 (t2.sta (hDw.sta hS)) hM1 ha rfl (by omega)
  refine ⟨M', ?_, (hDw.tr t2).tr u2, (u3 68 (by omega) 39).trans t4, u5⟩
  unfold fX10_spell
  simp only [chk_true, bnd_just, bnd2_just, app_t, beq_self_eq_true, mK_wI, mK_wL, mK_wR, mK_wIr, mK_wLr, mN_wI, mN_wL, mN_wR, mN_wIr, mN_wLr, mR_wI, mR_wL, mR_wIr, mR_wLr, mI_wL, mI_wR, mI_wLr, mL_wI, mL_wR, mL_wIr, sk_68 hS, i0]
  rw [t1]
  exact u1
theorem PM_found {δ1 δ2 : Nat → Nat → Nat} {g1 g2 : Nat → Bool} {m : Nat} {C : Nat → Nat} {cur : Nat} (hcm : cur ≤ m) (h0 : C 0 = 0) (hinc : ∀ i j, i < j → j < m → C i < C j) (hnt : ∀ k, k < cur → ¬ Tel δ1 δ2 g1 g2 (C k)) (hP : zPM δ1 δ2 m C cur 0) {D : Nat} (hD : ∀ k, cur ≤ k → k < m → D ≤ C k) (hc0 : cur = 0 → D = 0) : ∀ E, E < D → ¬ Tel δ1 δ2 g1 g2 E := by
  by_cases hz : cur = 0
  · intro E hE
    have := hc0 hz
    omega
  · refine no_tel (S := fun c => ∃ k, k < cur ∧ C k = c) ⟨0, by omega, h0⟩ (fun c ⟨k, hk, e⟩ => e ▸ hnt k hk) (fun c l' ⟨k, hk, e⟩ hl' hlt => ?_)
    subst e
    obtain ⟨k', r1, r2, r3, r4⟩ := hP k l' (by omega) hl' (Or.inl hk)
    have hk'c : k' < cur := by
      rcases Nat.lt_or_ge k' cur with q | q
      · exact q
      · have := hD k' q r1; omega
    by_cases he : C k' = ex (C k) l'
    · exact Or.inl ⟨k', hk'c, he⟩
    · right
      intro x hx hn
      have := hn (C k') ⟨k', hk'c, rfl⟩ (by omega)
      apply not_tel
      have h1 := tel_eq this
      rw [sta_ext hx, sta_ext hx] at h1 ⊢
      rw [← r3, ← r4]
      exact h1
theorem m_cmp {p1 p2 : zPt} {δ1 δ2 : Nat → Nat → Nat} {K : Nat} (hK : K = 90000) : ∀ (mm cur fuel : Nat) (M : zM) (m : Nat) (C : Nat → Nat), cur + mm = K → mm + 200000 < fuel → Sta M → AutG M p1 p2 δ1 δ2 → DifI δ1 δ2 M m C → zPM δ1 δ2 m C cur 0 → (∀ k, k < cur → ¬ Tel δ1 δ2 (gd p1) (gd p2) (C k)) → (cur < m → ∀ k, k < m → C k < ex (C cur) 0) → cur ≤ m → 1 ≤ m → mI M 68 39 = nI 0 →
    ∃ M' r, fX10_differ_111 fuel M 68 (nI m) (nI cur) = some (r, M') ∧ zDF M M' ∧ DifR δ1 δ2 (gd p1) (gd p2) M' r := by
  intro mm
  induction mm with
  | zero =>
    intro cur fuel M m C hcu hfu hS hA hM hP hnt hf hcm hm1 h39
    obtain ⟨g, rfl⟩ := suc fuel (by omega)
    have k1 := hA.2.2.1.2.1
    have k2 := hA.2.2.2.1.2.1
    have hm90 : m ≤ 90000 := inj_le m (fun k => vp2 δ1 δ2 (C k)) (fun i hi => by
      have a1 := sta_lt (δ := δ1) (n := (zKS p1).length + 1) (by omega) (fun s l hs hl => (hA.2.2.2.2.1 s l hs hl).2) (C i)
      have a2 := sta_lt (δ := δ2) (n := (zKS p2).length + 1) (by omega) (fun s l hs hl => (hA.2.2.2.2.2 s l hs hl).2) (C i)
      show 300 * sta δ1 (C i) + sta δ2 (C i) < 90000
      omega) hM.2.2.2.2.1
    have hcme : cur = m := by omega
    subst hcme
    refine ⟨M, iM, ?_, zDF.rf, Or.inl ⟨rfl, h39, fun E => ?_⟩⟩
    · rw [fX10_differ_111]
      simp (disch := omega) only [q_eM, q_Me, q_Mlt, q_Mle, q_leM, q_ltM, q_le, q_nle, q_lt, q_nlt, q_neq, zin_nI, nI_clamp, nI_add, pk_mul, pk_sub, mI_e, mI_n, mL_e, mL_n, mR_e, mR_n, i0, i1, ↓reduceIte, ↓bI_t, ↓bI_f, Bool.false_eq_true, eq_self, chk_true, bnd_just, bnd2_just, app_t, beq_self_eq_true, mK_wI, mK_wL, mK_wR, mK_wIr, mK_wLr, mN_wI, mN_wL, mN_wR, mN_wIr, mN_wLr, mR_wI, mR_wL, mR_wIr, mR_wLr, mI_wL, mI_wR, mI_wLr, mL_wI, mL_wR, mL_wIr, ↓neg1]
    · exact PM_found (Nat.le_refl _) hM.2.2.2.1 hM.2.2.2.2.2 hnt hP (D := E + 1) (fun k h1 h2 => by omega) (fun q => by omega) E (by omega)
  | succ mm ih =>
    intro cur fuel M m C hcu hfu hS hA hM hP hnt hf hcm hm1 h39
    obtain ⟨g, rfl⟩ := suc fuel (by omega)
    have k1 := hA.2.2.1.2.1
    have k2 := hA.2.2.2.1.2.1
    have st1 := fun c => sta_lt (δ := δ1) (n := (zKS p1).length + 1) (by omega) (fun s l hs hl => (hA.2.2.2.2.1 s l hs hl).2) c
    have st2 := fun c => sta_lt (δ := δ2) (n := (zKS p2).length + 1) (by omega) (fun s l hs hl => (hA.2.2.2.2.2 s l hs hl).2) c
    have hm90 : m ≤ 90000 := inj_le m (fun k => vp2 δ1 δ2 (C k)) (fun i hi => by
      have a1 := st1 (C i)
      have a2 := st2 (C i)
      show 300 * sta δ1 (C i) + sta δ2 (C i) < 90000
      omega) hM.2.2.2.2.1
    by_cases hc : cur < m
    · have a1 := st1 (C cur)
      have a2 := st2 (C cur)
      have e96 := (hM.1 cur hc).1
      have ediv : nI (vp2 δ1 δ2 (C cur)) / nI 300 = nI (sta δ1 (C cur)) := by
        rw [pk_div (by unfold vp2; omega) (by omega) (by omega)]
        congr 1
        unfold vp2; omega
      have erem : nI (vp2 δ1 δ2 (C cur)) - nI (vp2 δ1 δ2 (C cur)) / nI 300 * nI 300 = nI (sta δ2 (C cur)) := by
        rw [pk_rem (by unfold vp2; omega) (by omega) (by omega)]
        congr 1
        unfold vp2; omega
      rw [ediv] at erem
      have g1 := m_isGood (x := 0) (by omega) hS hA.1 hA.2.2.1 (s := sta δ1 (C cur)) (by omega) g
      have g2 := m_isGood (x := 1) (by omega) hS hA.2.1 hA.2.2.2.1 (s := sta δ2 (C cur)) (by omega) g
      have e1 : fX10_differ_111 (g + 1) M 68 (nI m) (nI cur) = if bI (gd p1 (sta δ1 (C cur))) = bI (gd p2 (sta δ2 (C cur))) then fX10_differ_168 (fX10_differ_111 g) g M 68 (nI m) (nI cur) (nI (sta δ1 (C cur))) (nI (sta δ2 (C cur))) (nI 0) else bnd2 (fX10_spell g M 68 (nI cur)) fun r_25 M_26 => chk (mK M_26 68 == 10) (some ((mI M_26 68 39), M_26)) := by
        rw [fX10_differ_111]
        simp (disch := omega) only [chk_true, bnd_just, bnd2_just, app_t, beq_self_eq_true, mK_wI, mK_wL, mK_wR, mK_wIr, mK_wLr, mN_wI, mN_wL, mN_wR, mN_wIr, mN_wLr, mR_wI, mR_wL, mR_wIr, mR_wLr, mI_wL, mI_wR, mI_wLr, mL_wI, mL_wR, mL_wIr, i0, i1, i300, q_nle, ↓reduceIte, zin_nI, nI_clamp, sk_68 hS, sk_96 hS, sn_96 hS, sr_68_35 hS, e96, ediv, erem, g1, g2]
      rw [e1]
      by_cases hg : gd p1 (sta δ1 (C cur)) = gd p2 (sta δ2 (C cur))
      · rw [if_pos (by rw [hg])]
        obtain ⟨M1, m1, C1, t1, t2, t3, t4, t5, t6, t7, t8⟩ := m_dl (fX10_differ_111 g) (s1 := sta δ1 (C cur)) (s2 := sta δ2 (C cur)) 36 0 g M m C (by omega) (by omega) hS hA hM hP (hf hc) hc rfl rfl
        obtain ⟨M', r, u1, u2, u3⟩ := ih (cur + 1) g M1 m1 C1 (by omega) (by omega) (t2.sta hS) (t2.aut hA) t4 (fun k l' hk hl' hB => t5 k l' hk hl' (by omega)) (fun k hk => by
          rw [t8 k (by omega)]
          by_cases hkc : k = cur
          · rw [hkc]; exact not_tel hg
          · exact hnt k (by omega)) (fun hc1 k hk => by
          have q1 := t6 k hk
          have q2 := t4.2.2.2.2.2 cur (cur + 1) (by omega) hc1
          unfold ex at q1 ⊢
          omega) (by omega) (by omega) (t3.trans h39)
        refine ⟨M', r, ?_, t2.tr u2, u3⟩
        rw [t1]; exact u1
      · rw [if_neg (fun q => hg (bI_inj q))]
        obtain ⟨M', u1, u2, u3, u4⟩ := m_spell hm90 hS hM hc g (by omega)
        have hS' := u2.sta hS
        refine ⟨M', nI (wd (C cur)).length, ?_, u2, Or.inr ⟨C cur, ⟨hg, ?_⟩, rfl, u3, u4⟩⟩
        · rw [u1]
          simp only [chk_true, bnd_just, bnd2_just, app_t, beq_self_eq_true, mK_wI, mK_wL, mK_wR, mK_wIr, mK_wLr, mN_wI, mN_wL, mN_wR, mN_wIr, mN_wLr, mR_wI, mR_wL, mR_wIr, mR_wLr, mI_wL, mI_wR, mI_wLr, mL_wI, mL_wR, mL_wIr, sk_68 hS', u3]
        · refine PM_found hcm hM.2.2.2.1 hM.2.2.2.2.2 hnt hP (fun k h1 h2 => ?_) (fun q => by rw [q]; exact hM.2.2.2.1)
          by_cases hkc : k = cur
          · rw [hkc]; exact Nat.le_refl _
          · exact Nat.le_of_lt (hM.2.2.2.2.2 cur k (by omega) h2)
    · have hcme : cur = m := by omega
      subst hcme
      refine ⟨M, iM, ?_, zDF.rf, Or.inl ⟨rfl, h39, fun E => ?_⟩⟩
      · rw [fX10_differ_111]
        simp (disch := omega) only [q_eM, q_Me, q_Mlt, q_Mle, q_leM, q_ltM, q_le, q_nle, q_lt, q_nlt, q_neq, zin_nI, nI_clamp, nI_add, pk_mul, pk_sub, mI_e, mI_n, mL_e, mL_n, mR_e, mR_n, i0, i1, ↓reduceIte, ↓bI_t, ↓bI_f, Bool.false_eq_true, eq_self, chk_true, bnd_just, bnd2_just, app_t, beq_self_eq_true, mK_wI, mK_wL, mK_wR, mK_wIr, mK_wLr, mN_wI, mN_wL, mN_wR, mN_wIr, mN_wLr, mR_wI, mR_wL, mR_wIr, mR_wLr, mI_wL, mI_wR, mI_wLr, mL_wI, mL_wR, mL_wIr, ↓neg1]
      · exact PM_found (Nat.le_refl _) hM.2.2.2.1 hM.2.2.2.2.2 hnt hP (D := E + 1) (fun k h1 h2 => by omega) (fun q => by omega) E (by omega)
theorem m_clr2 {K : Nat} (hK : K = 90000) : ∀ (m i fuel : Nat) (M : zM), Sta M → (∀ j, j < i → mI M 95 j = nI 0) → i + m = K → m < fuel →
    ∃ M' f', fuel ≤ f' + m + 1 ∧ fX10_differ_74 fuel M 68 (nI i) = fX10_differ_74 (f' + 1) M' 68 (nI K) ∧ zDF M M' ∧ mI M' 68 39 = mI M 68 39 ∧ ∀ j, j < K → mI M' 95 j = nI 0 := by
  intro m
  induction m with
  | zero =>
    intro i fuel M hS h0 hi hf
    obtain ⟨f, rfl⟩ := suc fuel (by omega)
    exact ⟨M, f, by omega, by rw [show i = K by omega], zDF.rf, rfl, fun j hj => h0 j (by omega)⟩
  | succ m ih =>
    intro i fuel M hS h0 hi hf
    obtain ⟨f, rfl⟩ := suc fuel (by omega)
    obtain ⟨M', f', t0, t1, t2, t3, t4⟩ := ih (i + 1) f (wI M 95 i (nI 0)) hS (fun j hj => by
      by_cases hji : j = i
      · rw [mI_e rfl hji]
      · rw [mI_n (by omega)]; exact h0 j (by omega)) (by omega) (by omega)
    refine ⟨M', f', by omega, ?_, (zDF.rf.w (by omega) _).tr t2, t3.trans (mI_n (by omega)), t4⟩
    rw [← t1, fX10_differ_74]
    simp (disch := omega) only [q_eM, q_Me, q_Mlt, q_Mle, q_leM, q_ltM, q_le, q_nle, q_lt, q_nlt, q_neq, zin_nI, nI_clamp, nI_add, pk_mul, pk_sub, mI_e, mI_n, mL_e, mL_n, mR_e, mR_n, i0, i1, ↓reduceIte, ↓bI_t, ↓bI_f, Bool.false_eq_true, eq_self, chk_true, bnd_just, bnd2_just, app_t, beq_self_eq_true, mK_wI, mK_wL, mK_wR, mK_wIr, mK_wLr, mN_wI, mN_wL, mN_wR, mN_wIr, mN_wLr, mR_wI, mR_wL, mR_wIr, mR_wLr, mI_wL, mI_wR, mI_wLr, mL_wI, mL_wR, mL_wIr, il_90000, sk_68 hS, sk_95 hS, sn_95 hS, sr_68_34 hS, nar0]
theorem m_differ74 {p1 p2 : zPt} {δ1 δ2 : Nat → Nat → Nat} {M : zM} (hS : Sta M) (hA : AutG M p1 p2 δ1 δ2) (h39 : mI M 68 39 = nI 0) (N : Nat) (hN : 400000 ≤ N) :
    ∃ M' r, fX10_differ_74 N M 68 (nI 0) = some (r, M') ∧ zDF M M' ∧ DifR δ1 δ2 (gd p1) (gd p2) M' r := by
  obtain ⟨M0, f0, r0, r1, r2, r3, r4⟩ := m_clr2 rfl 90000 0 N M hS (fun j hj => by omega) (by omega) (by omega)
  have hS0 := r2.sta hS
  have hDw : zDF M0 (wI (wI M0 96 0 (nI 0)) 95 0 (nI 1)) := (zDF.rf.w (by omega) _).w (by omega) _
  have hv0 : vp2 δ1 δ2 0 = 0 := rfl
  obtain ⟨M', r, u1, u2, u3⟩ := m_cmp (p1 := p1) (p2 := p2) (δ1 := δ1) (δ2 := δ2) rfl 90000 0 f0 (wI (wI M0 96 0 (nI 0)) 95 0 (nI 1)) 1 (fun _ => 0) (by omega) (by omega) (hDw.sta hS0) (hDw.aut (r2.aut hA)) (by
    refine ⟨fun k hk => ?_, fun k hk0 hk => by omega, ⟨fun v => decide (v = 0), fun v hv => ?_, fun v hv => ?_⟩, rfl, fun i j hi hj _ => by omega, fun i j hij hj => by omega⟩
    · have hk0 : k = 0 := by omega
      subst hk0
      rw [mI_n (by omega), mI_e rfl rfl, hv0]
      exact ⟨rfl, by rw [wd_0]; simp⟩
    · by_cases hv0 : v = 0
      · rw [mI_e rfl hv0]; show nI 1 = bI (decide (v = 0)); rw [decide_eq_true hv0]; rfl
      · rw [mI_n (by omega), mI_n (by omega), r4 v hv]; show nI 0 = bI (decide (v = 0)); rw [decide_eq_false hv0]; rfl
    · rw [decide_eq_true_iff]
      exact ⟨fun q => ⟨0, by omega, by rw [q]; exact hv0⟩, fun ⟨k, hk, q⟩ => by rw [← q]; exact hv0⟩) (fun k l' hk hl' hB => by omega) (fun k hk => by omega) (fun _ k hk => by unfold ex; omega) (by omega) (by omega) (by
    rw [mI_n (by omega), mI_n (by omega), r3]; exact h39)
  refine ⟨M', r, ?_, (r2.tr hDw).tr u2, u3⟩
  rw [r1, fX10_differ_74]
  simp (disch := omega) only [q_eM, q_Me, q_Mlt, q_Mle, q_leM, q_ltM, q_le, q_nle, q_lt, q_nlt, q_neq, zin_nI, nI_clamp, nI_add, pk_mul, pk_sub, mI_e, mI_n, mL_e, mL_n, mR_e, mR_n, i0, i1, ↓reduceIte, ↓bI_t, ↓bI_f, Bool.false_eq_true, eq_self, chk_true, bnd_just, bnd2_just, app_t, beq_self_eq_true, mK_wI, mK_wL, mK_wR, mK_wIr, mK_wLr, mN_wI, mN_wL, mN_wR, mN_wIr, mN_wLr, mR_wI, mR_wL, mR_wIr, mR_wLr, mI_wL, mI_wR, mI_wLr, mL_wI, mL_wR, mL_wIr, il_90000, sk_68 hS0, sk_95 hS0, sk_96 hS0, sn_95 hS0, sn_96 hS0, sr_68_34 hS0, sr_68_35 hS0, nar1]
  exact u1
end ZMCMP
