/-! the model counts the classes of states -/
section ZMCLS
def AutF (M : zM) (p : zPt) (δ : Nat → Nat → Nat) : Prop := PatQ M 0 p ∧ StM M 0 (zKS p) ∧ ∀ s l, s < (zKS p).length + 1 → l < 36 → mI M 92 (36 * s + l) = nI (δ s l) ∧ δ s l < (zKS p).length + 1
def zTab (M : zM) (tb : Nat → Nat → Bool) (n : Nat) : Prop := ∀ a b, a < n → b < n → mI M 95 (300 * a + b) = bI (tb a b)
def zPF (M M' : zM) : Prop := M'.1 = M.1 ∧ (∀ a j, mR M' a j = mR M a j) ∧ ∀ a, a ≠ 95 → ∀ j, mI M' a j = mI M a j ∧ mL M' a j = mL M a j
theorem zPF.rf {M : zM} : zPF M M := ⟨rfl, fun _ _ => rfl, fun _ _ _ => ⟨rfl, rfl⟩⟩
theorem zPF.tr {M M1 M2 : zM} (h : zPF M M1) (g : zPF M1 M2) : zPF M M2 := ⟨g.1.trans h.1, fun a j => (g.2.1 a j).trans (h.2.1 a j), fun a ha j => ⟨((g.2.2 a ha j).1).trans ((h.2.2 a ha j).1), ((g.2.2 a ha j).2).trans ((h.2.2 a ha j).2)⟩⟩
theorem zPF.w {M M' : zM} (h : zPF M M') (k : Nat) (v : Int32) : zPF M (wI M' 95 k v) := h.tr ⟨rfl, fun _ _ => rfl, fun b hb j => ⟨mI_n (by omega), rfl⟩⟩
theorem zPF.sta {M M' : zM} (h : zPF M M') (hs : Sta M) : Sta M' := Sta_eq hs h.1 h.2.1
theorem zPF.aut {M M' : zM} (h : zPF M M') {p : zPt} {δ : Nat → Nat → Nat} (hA : AutF M p δ) : AutF M' p δ := by
  obtain ⟨h1, h2, h3⟩ := hA
  refine ⟨?_, ⟨(h.2.2 _ (by omega) _).1.trans h2.1, h2.2.1, h2.2.2.1, fun i hi => (h.2.2 _ (by omega) _).2.trans (h2.2.2.2 i hi)⟩, fun s l hs hl => ⟨(h.2.2 _ (by omega) _).1.trans (h3 s l hs hl).1, (h3 s l hs hl).2⟩⟩
  obtain ⟨k, e, f, l, fo, se⟩ := p
  obtain ⟨h1, h2, h3, h4, h5, h6, h7⟩ := h1
  exact ⟨(h.2.2 _ (by omega) _).1.trans h1, h2, (h.2.2 _ (by omega) _).1.trans h3, (h.2.2 _ (by omega) _).2.trans h4, (h.2.2 _ (by omega) _).2.trans h5, fun i hi => (h.2.2 _ (by omega) _).2.trans (h6 i hi), fun i hi => (h.2.2 _ (by omega) _).2.trans (h7 i hi)⟩
def Now (δ : Nat → Nat → Nat) (g : Nat → Bool) (tb : Nat → Nat → Bool) (a b : Nat) : Prop := g a ≠ g b ∨ ∃ l, l < 36 ∧ tb (δ a l) (δ b l) = true
theorem m_na {M : zM} (hS : Sta M) {p : zPt} {δ : Nat → Nat → Nat} (hA : AutF M p δ) {tb : Nat → Nat → Bool} (hT : zTab M tb ((zKS p).length + 1)) {a b : Nat} (ha : a < (zKS p).length + 1) (hb : b < (zKS p).length + 1) : ∀ (m l fuel : Nat) (v : Bool), l + m = 36 → m < fuel →
    ∃ r, fX10_nowApart_24 fuel M 68 (nI a) (nI b) (bI v) (nI l) = some (bI r, M) ∧ (r = true ↔ v = true ∨ ∃ l', l ≤ l' ∧ l' < 36 ∧ tb (δ a l') (δ b l') = true) := by
  have hk := hA.2.1.2.1
  intro m
  induction m with
  | zero =>
    intro l fuel v hl hf
    obtain ⟨f, rfl⟩ := suc fuel (by omega)
    refine ⟨v, ?_, ⟨fun q => Or.inl q, fun q => ?_⟩⟩
    · rw [fX10_nowApart_24]
      simp (disch := omega) only [q_eM, q_Me, q_Mlt, q_Mle, q_leM, q_ltM, q_le, q_nle, q_lt, q_nlt, q_neq, zin_nI, nI_clamp, nI_add, pk_mul, pk_sub, mI_e, mI_n, mL_e, mL_n, mR_e, mR_n, i0, i1, ↓reduceIte, ↓bI_t, ↓bI_f, Bool.false_eq_true, eq_self, chk_true, bnd_just, bnd2_just, app_t, beq_self_eq_true, mK_wI, mK_wL, mK_wR, mK_wIr, mK_wLr, mN_wI, mN_wL, mN_wR, mN_wIr, mN_wLr, mR_wI, mR_wL, mR_wIr, mR_wLr, mI_wL, mI_wR, mI_wLr, mL_wI, mL_wR, mL_wIr, i36, z01_b]
    · rcases q with q | ⟨l', h1, h2, -⟩
      · exact q
      · omega
  | succ m ih =>
    intro l fuel v hl hf
    obtain ⟨f, rfl⟩ := suc fuel (by omega)
    cases v with
    | true =>
      refine ⟨true, ?_, by simp⟩
      rw [fX10_nowApart_24]
      simp (disch := omega) only [q_eM, q_Me, q_Mlt, q_Mle, q_leM, q_ltM, q_le, q_nle, q_lt, q_nlt, q_neq, zin_nI, nI_clamp, nI_add, pk_mul, pk_sub, mI_e, mI_n, mL_e, mL_n, mR_e, mR_n, i0, i1, ↓reduceIte, ↓bI_t, ↓bI_f, Bool.false_eq_true, eq_self, chk_true, bnd_just, bnd2_just, app_t, beq_self_eq_true, mK_wI, mK_wL, mK_wR, mK_wIr, mK_wLr, mN_wI, mN_wL, mN_wR, mN_wIr, mN_wLr, mR_wI, mR_wL, mR_wIr, mR_wLr, mI_wL, mI_wR, mI_wLr, mL_wI, mL_wR, mL_wIr, i36, z01_1]
    | false =>
      obtain ⟨e1, d1⟩ := hA.2.2 a l ha (by omega)
      obtain ⟨e2, d2⟩ := hA.2.2 b l hb (by omega)
      have e3 := hT (δ a l) (δ b l) d1 d2
      obtain ⟨r, r1, r2⟩ := ih (l + 1) f (tb (δ a l) (δ b l)) (by omega) (by omega)
      refine ⟨r, ?_, ?_⟩
      · rw [fX10_nowApart_24]
        simp (disch := omega) only [q_eM, q_Me, q_Mlt, q_Mle, q_leM, q_ltM, q_le, q_nle, q_lt, q_nlt, q_neq, zin_nI, nI_clamp, nI_add, pk_mul, pk_sub, mI_e, mI_n, mL_e, mL_n, mR_e, mR_n, i0, i1, ↓reduceIte, ↓bI_t, ↓bI_f, Bool.false_eq_true, eq_self, chk_true, bnd_just, bnd2_just, app_t, beq_self_eq_true, mK_wI, mK_wL, mK_wR, mK_wIr, mK_wLr, mN_wI, mN_wL, mN_wR, mN_wIr, mN_wLr, mR_wI, mR_wL, mR_wIr, mR_wLr, mI_wL, mI_wR, mI_wLr, mL_wI, mL_wR, mL_wIr, i36, i300, sk_68 hS, sk_92 hS, sk_95 hS, sn_92 hS, sn_95 hS, sr_68_31 hS, sr_68_34 hS, e1, e2, e3]
        exact r1
      · rw [r2]
        constructor
        · rintro (q | ⟨l', h1, h2, h3⟩)
          · exact Or.inr ⟨l, by omega, by omega, q⟩
          · exact Or.inr ⟨l', by omega, h2, h3⟩
        · rintro (q | ⟨l', h1, h2, h3⟩)
          · cases q
          · by_cases hll : l' = l
            · subst hll; exact Or.inl h3
            · exact Or.inr ⟨l', by omega, h2, h3⟩
theorem m_now {M : zM} (hS : Sta M) {p : zPt} {δ : Nat → Nat → Nat} (hA : AutF M p δ) {tb : Nat → Nat → Bool} (hT : zTab M tb ((zKS p).length + 1)) {a b : Nat} (ha : a < (zKS p).length + 1) (hb : b < (zKS p).length + 1) (N : Nat) (hN : 40 ≤ N) :
    ∃ r, fX10_nowApart N M 68 (nI a) (nI b) = some (bI r, M) ∧ (r = true ↔ Now δ (gd p) tb a b) := by
  have g1 := m_isGood (x := 0) (by omega) hS hA.1 hA.2.1 (s := a) (by omega) N
  have g2 := m_isGood (x := 0) (by omega) hS hA.1 hA.2.1 (s := b) (by omega) N
  obtain ⟨r, r1, r2⟩ := m_na hS hA hT ha hb 36 0 N (decide (gd p a ≠ gd p b)) (by omega) (by omega)
  refine ⟨r, ?_, ?_⟩
  · unfold fX10_nowApart fX10_nowApart_20
    simp only [chk_true, bnd_just, bnd2_just, app_t, beq_self_eq_true, mK_wI, mK_wL, mK_wR, mK_wIr, mK_wLr, mN_wI, mN_wL, mN_wR, mN_wIr, mN_wLr, mR_wI, mR_wL, mR_wIr, mR_wLr, mI_wL, mI_wR, mI_wLr, mL_wI, mL_wR, mL_wIr, sk_68 hS, i0, i1, g1, g2]
    by_cases hg : gd p a = gd p b
    · rw [if_pos (by rw [hg])]
      rw [decide_eq_false (fun q => q hg), bI_f] at r1
      exact r1
    · rw [if_neg (fun q => hg (bI_inj q))]
      rw [decide_eq_true hg, bI_t] at r1
      exact r1
  · rw [r2, decide_eq_true_iff]
    constructor
    · rintro (q | ⟨l, -, h2, h3⟩)
      · exact Or.inl q
      · exact Or.inr ⟨l, h2, h3⟩
    · rintro (q | ⟨l, h2, h3⟩)
      · exact Or.inl q
      · exact Or.inr ⟨l, by omega, h2, h3⟩
/-- what holds of the table -/
def TbOK (n : Nat) (δ : Nat → Nat → Nat) (g : Nat → Bool) (tb : Nat → Nat → Bool) : Prop := (∀ a b, a < n → b < n → tb a b = true → ¬ Eqv δ g a b) ∧ ∀ a b, tb a b = tb b a
def setT (tb : Nat → Nat → Bool) (a b : Nat) : Nat → Nat → Bool := fun x y => if (x = a ∧ y = b) ∨ (x = b ∧ y = a) then true else tb x y
theorem setT_ok {n : Nat} {δ : Nat → Nat → Nat} {g : Nat → Bool} (hδ : ∀ s l, s < n → l < 36 → δ s l < n) {tb : Nat → Nat → Bool} (h : TbOK n δ g tb) {a b : Nat} (ha : a < n) (hb : b < n) (hn : Now δ g tb a b) : TbOK n δ g (setT tb a b) := by
  have hne : ¬ Eqv δ g a b := fun q => by
    rcases hn with q1 | ⟨l, h1, h2⟩
    · exact q1 q.good
    · exact h.1 _ _ (hδ a l ha h1) (hδ b l hb h1) h2 (q.step h1)
  refine ⟨fun x y hx hy q => ?_, fun x y => ?_⟩
  · unfold setT at q
    by_cases hc : (x = a ∧ y = b) ∨ (x = b ∧ y = a)
    · rcases hc with ⟨rfl, rfl⟩ | ⟨rfl, rfl⟩
      · exact hne
      · exact fun q2 => hne q2.sy
    · rw [if_neg hc] at q; exact h.1 x y hx hy q
  · unfold setT
    by_cases hc : (x = a ∧ y = b) ∨ (x = b ∧ y = a)
    · rw [if_pos hc, if_pos (by omega)]
    · rw [if_neg hc, if_neg (by omega)]; exact h.2 x y
theorem m_pm {p : zPt} {δ : Nat → Nat → Nat} {a : Nat} (ha : a < (zKS p).length + 1) (k4 : zM → Nat → Int32 → Int32 → Int32 → Option (Int32 × zM)) : ∀ (m b fuel : Nat) (M : zM) (tb : Nat → Nat → Bool) (ch : Bool), Sta M → AutF M p δ → zTab M tb ((zKS p).length + 1) → TbOK ((zKS p).length + 1) δ (gd p) tb → b + m = a → m + 50 < fuel →
    ∃ M' tb' ch', fX10_partMore_12 k4 fuel M 68 (nI ((zKS p).length + 1)) (bI ch) (nI a) (nI b) = k4 M' 68 (nI ((zKS p).length + 1)) (bI ch') (nI (a + 1)) ∧ zPF M M' ∧ zTab M' tb' ((zKS p).length + 1) ∧ TbOK ((zKS p).length + 1) δ (gd p) tb' ∧ (∀ x y, tb x y = true → tb' x y = true) ∧ (ch' = true → ch = true ∨ ∃ x y, y < x ∧ x < (zKS p).length + 1 ∧ tb x y = false ∧ tb' x y = true) ∧ (ch' = false → ch = false ∧ tb' = tb ∧ ∀ y, b ≤ y → y < a → tb a y = false → ¬ Now δ (gd p) tb a y) := by
  intro m
  induction m with
  | zero =>
    intro b fuel M tb ch hS hA hT hO hb hf
    obtain ⟨f, rfl⟩ := suc fuel (by omega)
    have hk := hA.2.1.2.1
    refine ⟨M, tb, ch, ?_, zPF.rf, hT, hO, fun _ _ q => q, fun q => Or.inl q, fun q => ⟨q, rfl, fun y h1 h2 => by omega⟩⟩
    rw [fX10_partMore_12]
    simp (disch := omega) only [q_eM, q_Me, q_Mlt, q_Mle, q_leM, q_ltM, q_le, q_nle, q_lt, q_nlt, q_neq, zin_nI, nI_clamp, nI_add, pk_mul, pk_sub, mI_e, mI_n, mL_e, mL_n, mR_e, mR_n, i0, i1, ↓reduceIte, ↓bI_t, ↓bI_f, Bool.false_eq_true, eq_self, chk_true, bnd_just, bnd2_just, app_t, beq_self_eq_true, mK_wI, mK_wL, mK_wR, mK_wIr, mK_wLr, mN_wI, mN_wL, mN_wR, mN_wIr, mN_wLr, mR_wI, mR_wL, mR_wIr, mR_wLr, mI_wL, mI_wR, mI_wLr, mL_wI, mL_wR, mL_wIr]
  | succ m ih =>
    intro b fuel M tb ch hS hA hT hO hb hf
    obtain ⟨f, rfl⟩ := suc fuel (by omega)
    have hk := hA.2.1.2.1
    have e95 := hT a b ha (by omega)
    have hδ := fun s l hs hl => (hA.2.2 s l hs hl).2
    cases htb : tb a b with
    | true =>
      obtain ⟨M', tb', ch', t1, t2, t3, t4, t5, t6, t7⟩ := ih (b + 1) f M tb ch hS hA hT hO (by omega) (by omega)
      refine ⟨M', tb', ch', ?_, t2, t3, t4, t5, t6, fun q => ⟨(t7 q).1, (t7 q).2.1, fun y h1 h2 h3 => ?_⟩⟩
      · rw [htb] at e95
        rw [fX10_partMore_12]
        unfold fX10_partMore_74
        simp (disch := omega) only [q_eM, q_Me, q_Mlt, q_Mle, q_leM, q_ltM, q_le, q_nle, q_lt, q_nlt, q_neq, zin_nI, nI_clamp, nI_add, pk_mul, pk_sub, mI_e, mI_n, mL_e, mL_n, mR_e, mR_n, i0, i1, ↓reduceIte, ↓bI_t, ↓bI_f, Bool.false_eq_true, eq_self, chk_true, bnd_just, bnd2_just, app_t, beq_self_eq_true, mK_wI, mK_wL, mK_wR, mK_wIr, mK_wLr, mN_wI, mN_wL, mN_wR, mN_wIr, mN_wLr, mR_wI, mR_wL, mR_wIr, mR_wLr, mI_wL, mI_wR, mI_wLr, mL_wI, mL_wR, mL_wIr, i300, sk_68 hS, sk_95 hS, sn_95 hS, sr_68_34 hS, e95]
        exact t1
      · by_cases hyb : y = b
        · subst hyb; rw [htb] at h3; cases h3
        · exact (t7 q).2.2 y (by omega) h2 h3
    | false =>
      rw [htb] at e95
      obtain ⟨r, r1, r2⟩ := m_now hS hA hT ha (show b < (zKS p).length + 1 by omega) f (by omega)
      cases hr : r with
      | false =>
        rw [hr] at r1 r2
        obtain ⟨M', tb', ch', t1, t2, t3, t4, t5, t6, t7⟩ := ih (b + 1) f M tb ch hS hA hT hO (by omega) (by omega)
        refine ⟨M', tb', ch', ?_, t2, t3, t4, t5, t6, fun q => ⟨(t7 q).1, (t7 q).2.1, fun y h1 h2 h3 => ?_⟩⟩
        · rw [fX10_partMore_12]
          unfold fX10_partMore_74
          simp (disch := omega) only [q_eM, q_Me, q_Mlt, q_Mle, q_leM, q_ltM, q_le, q_nle, q_lt, q_nlt, q_neq, zin_nI, nI_clamp, nI_add, pk_mul, pk_sub, mI_e, mI_n, mL_e, mL_n, mR_e, mR_n, i0, i1, ↓reduceIte, ↓bI_t, ↓bI_f, Bool.false_eq_true, eq_self, chk_true, bnd_just, bnd2_just, app_t, beq_self_eq_true, mK_wI, mK_wL, mK_wR, mK_wIr, mK_wLr, mN_wI, mN_wL, mN_wR, mN_wIr, mN_wLr, mR_wI, mR_wL, mR_wIr, mR_wLr, mI_wL, mI_wR, mI_wLr, mL_wI, mL_wR, mL_wIr, i300, sk_68 hS, sk_95 hS, sn_95 hS, sr_68_34 hS, e95, r1]
          exact t1
        · by_cases hyb : y = b
          · subst hyb; exact fun q2 => Bool.noConfusion (r2.mpr q2)
          · exact (t7 q).2.2 y (by omega) h2 h3
      | true =>
        rw [hr] at r1 r2
        have hPF : zPF M (wI (wI M 95 (300 * a + b) (nI 1)) 95 (300 * b + a) (nI 1)) := (zPF.rf.w _ _).w _ _
        have hle : ∀ x y, tb x y = true → setT tb a b x y = true := fun x y q => by unfold setT; split <;> first | rfl | exact q
        obtain ⟨M', tb', ch', t1, t2, t3, t4, t5, t6, t7⟩ := ih (b + 1) f (wI (wI M 95 (300 * a + b) (nI 1)) 95 (300 * b + a) (nI 1)) (setT tb a b) true (hPF.sta hS) (hPF.aut hA) (fun x y hx hy => by
          unfold setT
          by_cases hc : (x = a ∧ y = b) ∨ (x = b ∧ y = a)
          · rw [if_pos hc]
            rcases hc with ⟨rfl, rfl⟩ | ⟨rfl, rfl⟩
            · by_cases hxy : x = y
              · subst hxy; rw [mI_e rfl rfl]; rfl
              · rw [mI_n (by omega), mI_e rfl rfl]; rfl
            · rw [mI_e rfl rfl]; rfl
          · rw [if_neg hc, mI_n (by omega), mI_n (by omega)]; exact hT x y hx hy) (setT_ok hδ hO ha (by omega) (r2.mp rfl)) (by omega) (by omega)
        refine ⟨M', tb', ch', ?_, hPF.tr t2, t3, t4, fun x y q => t5 x y (hle x y q), fun _ => Or.inr ⟨a, b, by omega, ha, htb, t5 a b (by unfold setT; rw [if_pos (Or.inl ⟨rfl, rfl⟩)])⟩, fun q => absurd (t7 q).1 (by decide)⟩
        rw [fX10_partMore_12]
        unfold fX10_partMore_74
        simp (disch := omega) only [q_eM, q_Me, q_Mlt, q_Mle, q_leM, q_ltM, q_le, q_nle, q_lt, q_nlt, q_neq, zin_nI, nI_clamp, nI_add, pk_mul, pk_sub, mI_e, mI_n, mL_e, mL_n, mR_e, mR_n, i0, i1, ↓reduceIte, ↓bI_t, ↓bI_f, Bool.false_eq_true, eq_self, chk_true, bnd_just, bnd2_just, app_t, beq_self_eq_true, mK_wI, mK_wL, mK_wR, mK_wIr, mK_wLr, mN_wI, mN_wL, mN_wR, mN_wIr, mN_wLr, mR_wI, mR_wL, mR_wIr, mR_wLr, mI_wL, mI_wR, mI_wLr, mL_wI, mL_wR, mL_wIr, i300, sk_68 hS, sk_95 hS, sn_95 hS, sr_68_34 hS, e95, r1, nar1]
        exact t1
theorem m_pass {p : zPt} {δ : Nat → Nat → Nat} : ∀ (m a fuel : Nat) (M : zM) (tb : Nat → Nat → Bool) (ch : Bool), Sta M → AutF M p δ → zTab M tb ((zKS p).length + 1) → TbOK ((zKS p).length + 1) δ (gd p) tb → a + m = (zKS p).length + 1 → m + 400 < fuel →
    ∃ M' tb' ch', fX10_partMore_4 fuel M 68 (nI ((zKS p).length + 1)) (bI ch) (nI a) = some (bI ch', M') ∧ zPF M M' ∧ zTab M' tb' ((zKS p).length + 1) ∧ TbOK ((zKS p).length + 1) δ (gd p) tb' ∧ (∀ x y, tb x y = true → tb' x y = true) ∧ (ch' = true → ch = true ∨ ∃ x y, y < x ∧ x < (zKS p).length + 1 ∧ tb x y = false ∧ tb' x y = true) ∧ (ch' = false → ch = false ∧ tb' = tb ∧ ∀ x y, a ≤ x → x < (zKS p).length + 1 → y < x → tb x y = false → ¬ Now δ (gd p) tb x y) := by
  intro m
  induction m with
  | zero =>
    intro a fuel M tb ch hS hA hT hO ha hf
    obtain ⟨f, rfl⟩ := suc fuel (by omega)
    have hk := hA.2.1.2.1
    refine ⟨M, tb, ch, ?_, zPF.rf, hT, hO, fun _ _ q => q, fun q => Or.inl q, fun q => ⟨q, rfl, fun x y h1 h2 => by omega⟩⟩
    rw [fX10_partMore_4]
    simp (disch := omega) only [q_eM, q_Me, q_Mlt, q_Mle, q_leM, q_ltM, q_le, q_nle, q_lt, q_nlt, q_neq, zin_nI, nI_clamp, nI_add, pk_mul, pk_sub, mI_e, mI_n, mL_e, mL_n, mR_e, mR_n, i0, i1, ↓reduceIte, ↓bI_t, ↓bI_f, Bool.false_eq_true, eq_self, chk_true, bnd_just, bnd2_just, app_t, beq_self_eq_true, mK_wI, mK_wL, mK_wR, mK_wIr, mK_wLr, mN_wI, mN_wL, mN_wR, mN_wIr, mN_wLr, mR_wI, mR_wL, mR_wIr, mR_wLr, mI_wL, mI_wR, mI_wLr, mL_wI, mL_wR, mL_wIr, z01_b]
  | succ m ih =>
    intro a fuel M tb ch hS hA hT hO ha hf
    obtain ⟨f, rfl⟩ := suc fuel (by omega)
    have hk := hA.2.1.2.1
    obtain ⟨M1, tb1, ch1, r1, r2, r3, r4, r5, r6, r7⟩ := m_pm (p := p) (a := a) (by omega) (fX10_partMore_4 f) a 0 f M tb ch hS hA hT hO (by omega) (by omega)
    obtain ⟨M', tb', ch', t1, t2, t3, t4, t5, t6, t7⟩ := ih (a + 1) f M1 tb1 ch1 (r2.sta hS) (r2.aut hA) r3 r4 (by omega) (by omega)
    refine ⟨M', tb', ch', ?_, r2.tr t2, t3, t4, fun x y q => t5 x y (r5 x y q), fun q => ?_, fun q => ?_⟩
    · rw [fX10_partMore_4]
      simp (disch := omega) only [q_eM, q_Me, q_Mlt, q_Mle, q_leM, q_ltM, q_le, q_nle, q_lt, q_nlt, q_neq, zin_nI, nI_clamp, nI_add, pk_mul, pk_sub, mI_e, mI_n, mL_e, mL_n, mR_e, mR_n, i0, i1, ↓reduceIte, ↓bI_t, ↓bI_f, Bool.false_eq_true, eq_self, chk_true, bnd_just, bnd2_just, app_t, beq_self_eq_true, mK_wI, mK_wL, mK_wR, mK_wIr, mK_wLr, mN_wI, mN_wL, mN_wR, mN_wIr, mN_wLr, mR_wI, mR_wL, mR_wIr, mR_wLr, mI_wL, mI_wR, mI_wLr, mL_wI, mL_wR, mL_wIr]
      rw [r1, t1]
    · rcases t6 q with q1 | ⟨x, y, h1, h2, h3, h4⟩
      · rcases r6 q1 with q2 | ⟨x, y, h1, h2, h3, h4⟩
        · exact Or.inl q2
        · exact Or.inr ⟨x, y, h1, h2, h3, t5 x y h4⟩
      · refine Or.inr ⟨x, y, h1, h2, ?_, h4⟩
        cases hx : tb x y with
        | false => rfl
        | true => rw [r5 x y hx] at h3; cases h3
    · obtain ⟨q1, q2, q3⟩ := t7 q
      obtain ⟨q4, q5, q6⟩ := r7 q1
      subst q5
      refine ⟨q4, q2, fun x y h1 h2 h3 h4 => ?_⟩
      by_cases hxa : x = a
      · subst hxa; exact q6 y (by omega) h3 h4
      · exact q3 x y (by omega) h2 h3 h4
def unS (tb : Nat → Nat → Bool) : Nat → Nat
  | 0 => 0
  | a + 1 => unS tb a + cntB (fun b => !tb a b) a
theorem unS_le {tb tb' : Nat → Nat → Bool} (h : ∀ x y, tb x y = true → tb' x y = true) : ∀ n, unS tb' n ≤ unS tb n := by
  intro n
  induction n with
  | zero => exact Nat.le_refl _
  | succ n ih =>
    have : cntB (fun b => !tb' n b) n ≤ cntB (fun b => !tb n b) n := cntB_le (fun i _ q => by
      cases hx : tb n i with
      | false => rfl
      | true => rw [h n i hx] at q; cases q)
    simp only [unS]; omega
theorem unS_lt {tb tb' : Nat → Nat → Bool} (h : ∀ x y, tb x y = true → tb' x y = true) {x y : Nat} (hyx : y < x) (h1 : tb x y = false) (h2 : tb' x y = true) : ∀ n, x < n → unS tb' n < unS tb n := by
  intro n
  induction n with
  | zero => intro hx; omega
  | succ n ih =>
    intro hx
    have himp : ∀ i, i < n → (!tb' n i) = true → (!tb n i) = true := fun i _ q => by
      cases hx : tb n i with
      | false => rfl
      | true => rw [h n i hx] at q; cases q
    simp only [unS]
    by_cases hxn : x = n
    · subst hxn
      have := cntB_lt (f := fun b => !tb' x b) (g := fun b => !tb x b) himp ⟨y, hyx, by show (!tb' x y) = false; rw [h2]; rfl, by show (!tb x y) = true; rw [h1]; rfl⟩
      have := unS_le h x
      omega
    · have := ih (by omega)
      have := cntB_le (f := fun b => !tb' n b) (g := fun b => !tb n b) himp
      omega
theorem unS_n (tb : Nat → Nat → Bool) : ∀ n, unS tb n ≤ n * n := by
  intro n
  induction n with
  | zero => exact Nat.le_refl _
  | succ n ih =>
    have := cntB_n (fun b => !tb n b) n
    simp only [unS]
    have : (n + 1) * (n + 1) = n * n + 2 * n + 1 := by rw [Nat.succ_mul, Nat.mul_succ]; omega
    omega
theorem m_c55 {p : zPt} {δ : Nat → Nat → Nat} : ∀ (k fuel : Nat) (M : zM) (tb : Nat → Nat → Bool), Sta M → AutF M p δ → zTab M tb ((zKS p).length + 1) → TbOK ((zKS p).length + 1) δ (gd p) tb → unS tb ((zKS p).length + 1) ≤ k → k + 2000 < fuel →
    ∃ M' tb' f', 1000 ≤ f' ∧ fX10_classes_55 fuel M 68 (nI ((zKS p).length + 1)) (nI 1) = fX10_classes_73 f' M' 68 (nI ((zKS p).length + 1)) (nI 0) (nI 0) ∧ zPF M M' ∧ zTab M' tb' ((zKS p).length + 1) ∧ TbOK ((zKS p).length + 1) δ (gd p) tb' ∧ ∀ x y, x < (zKS p).length + 1 → y < x → tb' x y = false → ¬ Now δ (gd p) tb' x y := by
  intro k
  induction k using Nat.strongRecOn with
  | ind k ih =>
    intro fuel M tb hS hA hT hO hu hf
    obtain ⟨f, rfl⟩ := suc fuel (by omega)
    have hk := hA.2.1.2.1
    obtain ⟨M1, tb1, ch, r1, r2, r3, r4, r5, r6, r7⟩ := m_pass ((zKS p).length + 1) 0 f M tb false hS hA hT hO (by omega) (by omega)
    rw [bI_f] at r1
    have e1 : fX10_classes_55 (f + 1) M 68 (nI ((zKS p).length + 1)) (nI 1) = fX10_classes_55 f M1 68 (nI ((zKS p).length + 1)) (bI ch) := by
      rw [fX10_classes_55]
      unfold fX10_partMore
      simp (disch := omega) only [q_eM, q_Me, q_Mlt, q_Mle, q_leM, q_ltM, q_le, q_nle, q_lt, q_nlt, q_neq, zin_nI, nI_clamp, nI_add, pk_mul, pk_sub, mI_e, mI_n, mL_e, mL_n, mR_e, mR_n, i0, i1, ↓reduceIte, ↓bI_t, ↓bI_f, Bool.false_eq_true, eq_self, chk_true, bnd_just, bnd2_just, app_t, beq_self_eq_true, mK_wI, mK_wL, mK_wR, mK_wIr, mK_wLr, mN_wI, mN_wL, mN_wR, mN_wIr, mN_wLr, mR_wI, mR_wL, mR_wIr, mR_wLr, mI_wL, mI_wR, mI_wLr, mL_wI, mL_wR, mL_wIr, sk_68 hS, r1]
    rw [e1]
    cases ch with
    | false =>
      obtain ⟨-, q2, q3⟩ := r7 rfl
      subst q2
      obtain ⟨g, rfl⟩ := suc f (by omega)
      refine ⟨M1, tb1, g, by omega, ?_, r2, r3, r4, fun x y h1 h2 h3 => q3 x y (by omega) h1 h2 h3⟩
      rw [fX10_classes_55]
      simp (disch := omega) only [q_eM, q_Me, q_Mlt, q_Mle, q_leM, q_ltM, q_le, q_nle, q_lt, q_nlt, q_neq, zin_nI, nI_clamp, nI_add, pk_mul, pk_sub, mI_e, mI_n, mL_e, mL_n, mR_e, mR_n, i0, i1, ↓reduceIte, ↓bI_t, ↓bI_f, Bool.false_eq_true, eq_self, chk_true, bnd_just, bnd2_just, app_t, beq_self_eq_true, mK_wI, mK_wL, mK_wR, mK_wIr, mK_wLr, mN_wI, mN_wL, mN_wR, mN_wIr, mN_wLr, mR_wI, mR_wL, mR_wIr, mR_wLr, mI_wL, mI_wR, mI_wLr, mL_wI, mL_wR, mL_wIr]
    | true =>
      rcases r6 rfl with q | ⟨x, y, h1, h2, h3, h4⟩
      · cases q
      · have hlt := unS_lt r5 h1 h3 h4 ((zKS p).length + 1) h2
        obtain ⟨M', tb', f', t0, t1, t2, t3⟩ := ih (k - 1) (by omega) f M1 tb1 (r2.sta hS) (r2.aut hA) r3 r4 (by omega) (by omega)
        refine ⟨M', tb', f', t0, ?_, r2.tr t2, t3⟩
        rw [bI_t]; exact t1
theorem m_c85 {p : zPt} {δ : Nat → Nat → Nat} {tb : Nat → Nat → Bool} {M : zM} (hS : Sta M) (hA : AutF M p δ) (hT : zTab M tb ((zKS p).length + 1)) {a c : Nat} (ha : a < (zKS p).length + 1) (k73 : zM → Nat → Int32 → Int32 → Int32 → Option (Int32 × zM)) : ∀ (m b fuel : Nat) (w : Bool), (w = true ↔ ∀ y, y < b → tb a y = true) → b + m = a → m < fuel →
    fX10_classes_85 k73 fuel M 68 (nI ((zKS p).length + 1)) (nI c) (nI a) (bI w) (nI b) = k73 M 68 (nI ((zKS p).length + 1)) (nI (c + if decide (∀ y, y < a → tb a y = true) = true then 1 else 0)) (nI (a + 1)) := by
  have hk := hA.2.1.2.1
  intro m
  induction m with
  | zero =>
    intro b fuel w hw hb hf
    obtain ⟨f, rfl⟩ := suc fuel (by omega)
    have hba : b = a := by omega
    subst hba
    rw [fX10_classes_85]
    unfold fX10_classes_139
    cases w with
    | false =>
      rw [if_neg (fun q => Bool.noConfusion (hw.mpr (of_decide_eq_true q)))]
      simp (disch := omega) only [q_eM, q_Me, q_Mlt, q_Mle, q_leM, q_ltM, q_le, q_nle, q_lt, q_nlt, q_neq, zin_nI, nI_clamp, nI_add, pk_mul, pk_sub, mI_e, mI_n, mL_e, mL_n, mR_e, mR_n, i0, i1, ↓reduceIte, ↓bI_t, ↓bI_f, Bool.false_eq_true, eq_self, chk_true, bnd_just, bnd2_just, app_t, beq_self_eq_true, mK_wI, mK_wL, mK_wR, mK_wIr, mK_wLr, mN_wI, mN_wL, mN_wR, mN_wIr, mN_wLr, mR_wI, mR_wL, mR_wIr, mR_wLr, mI_wL, mI_wR, mI_wLr, mL_wI, mL_wR, mL_wIr, Nat.add_zero]
    | true =>
      rw [if_pos (decide_eq_true (hw.mp rfl))]
      simp (disch := omega) only [q_eM, q_Me, q_Mlt, q_Mle, q_leM, q_ltM, q_le, q_nle, q_lt, q_nlt, q_neq, zin_nI, nI_clamp, nI_add, pk_mul, pk_sub, mI_e, mI_n, mL_e, mL_n, mR_e, mR_n, i0, i1, ↓reduceIte, ↓bI_t, ↓bI_f, Bool.false_eq_true, eq_self, chk_true, bnd_just, bnd2_just, app_t, beq_self_eq_true, mK_wI, mK_wL, mK_wR, mK_wIr, mK_wLr, mN_wI, mN_wL, mN_wR, mN_wIr, mN_wLr, mR_wI, mR_wL, mR_wIr, mR_wLr, mI_wL, mI_wR, mI_wLr, mL_wI, mL_wR, mL_wIr]
  | succ m ih =>
    intro b fuel w hw hb hf
    obtain ⟨f, rfl⟩ := suc fuel (by omega)
    have e95 := hT a b ha (by omega)
    rw [fX10_classes_85]
    unfold fX10_classes_118 fX10_classes_119
    cases w with
    | false =>
      have := ih (b + 1) f false ⟨fun q => Bool.noConfusion q, fun q => hw.mpr (fun y hy => q y (by omega))⟩ (by omega) (by omega)
      rw [bI_f] at this
      simp (disch := omega) only [q_eM, q_Me, q_Mlt, q_Mle, q_leM, q_ltM, q_le, q_nle, q_lt, q_nlt, q_neq, zin_nI, nI_clamp, nI_add, pk_mul, pk_sub, mI_e, mI_n, mL_e, mL_n, mR_e, mR_n, i0, i1, ↓reduceIte, ↓bI_t, ↓bI_f, Bool.false_eq_true, eq_self, chk_true, bnd_just, bnd2_just, app_t, beq_self_eq_true, mK_wI, mK_wL, mK_wR, mK_wIr, mK_wLr, mN_wI, mN_wL, mN_wR, mN_wIr, mN_wLr, mR_wI, mR_wL, mR_wIr, mR_wLr, mI_wL, mI_wR, mI_wLr, mL_wI, mL_wR, mL_wIr]
      exact this
    | true =>
      have h1 := hw.mp rfl
      cases htb : tb a b with
      | false =>
        rw [htb] at e95
        have := ih (b + 1) f false ⟨fun q => Bool.noConfusion q, fun q => by have := q b (by omega); rw [htb] at this; cases this⟩ (by omega) (by omega)
        rw [bI_f] at this
        simp (disch := omega) only [q_eM, q_Me, q_Mlt, q_Mle, q_leM, q_ltM, q_le, q_nle, q_lt, q_nlt, q_neq, zin_nI, nI_clamp, nI_add, pk_mul, pk_sub, mI_e, mI_n, mL_e, mL_n, mR_e, mR_n, i0, i1, ↓reduceIte, ↓bI_t, ↓bI_f, Bool.false_eq_true, eq_self, chk_true, bnd_just, bnd2_just, app_t, beq_self_eq_true, mK_wI, mK_wL, mK_wR, mK_wIr, mK_wLr, mN_wI, mN_wL, mN_wR, mN_wIr, mN_wLr, mR_wI, mR_wL, mR_wIr, mR_wLr, mI_wL, mI_wR, mI_wLr, mL_wI, mL_wR, mL_wIr, i300, sk_68 hS, sk_95 hS, sn_95 hS, sr_68_34 hS, e95]
        exact this
      | true =>
        rw [htb] at e95
        have := ih (b + 1) f true ⟨fun _ y hy => by
          by_cases hyb : y = b
          · rw [hyb]; exact htb
          · exact h1 y (by omega), fun _ => rfl⟩ (by omega) (by omega)
        rw [bI_t] at this
        simp (disch := omega) only [q_eM, q_Me, q_Mlt, q_Mle, q_leM, q_ltM, q_le, q_nle, q_lt, q_nlt, q_neq, zin_nI, nI_clamp, nI_add, pk_mul, pk_sub, mI_e, mI_n, mL_e, mL_n, mR_e, mR_n, i0, i1, ↓reduceIte, ↓bI_t, ↓bI_f, Bool.false_eq_true, eq_self, chk_true, bnd_just, bnd2_just, app_t, beq_self_eq_true, mK_wI, mK_wL, mK_wR, mK_wIr, mK_wLr, mN_wI, mN_wL, mN_wR, mN_wIr, mN_wLr, mR_wI, mR_wL, mR_wIr, mR_wLr, mI_wL, mI_wR, mI_wLr, mL_wI, mL_wR, mL_wIr, i300, sk_68 hS, sk_95 hS, sn_95 hS, sr_68_34 hS, e95]
        exact this
theorem m_c73 {p : zPt} {δ : Nat → Nat → Nat} {tb : Nat → Nat → Bool} {M : zM} (hS : Sta M) (hA : AutF M p δ) (hT : zTab M tb ((zKS p).length + 1)) : ∀ (m a fuel : Nat), a + m = (zKS p).length + 1 → m + 400 < fuel →
    fX10_classes_73 fuel M 68 (nI ((zKS p).length + 1)) (nI (cntB (fun a => decide (∀ y, y < a → tb a y = true)) a)) (nI a) = some (nI (cntB (fun a => decide (∀ y, y < a → tb a y = true)) ((zKS p).length + 1)), M) := by
  have hk := hA.2.1.2.1
  intro m
  induction m with
  | zero =>
    intro a fuel ha hf
    obtain ⟨f, rfl⟩ := suc fuel (by omega)
    have : a = (zKS p).length + 1 := by omega
    subst this
    rw [fX10_classes_73]
    simp (disch := omega) only [q_eM, q_Me, q_Mlt, q_Mle, q_leM, q_ltM, q_le, q_nle, q_lt, q_nlt, q_neq, zin_nI, nI_clamp, nI_add, pk_mul, pk_sub, mI_e, mI_n, mL_e, mL_n, mR_e, mR_n, i0, i1, ↓reduceIte, ↓bI_t, ↓bI_f, Bool.false_eq_true, eq_self, chk_true, bnd_just, bnd2_just, app_t, beq_self_eq_true, mK_wI, mK_wL, mK_wR, mK_wIr, mK_wLr, mN_wI, mN_wL, mN_wR, mN_wIr, mN_wLr, mR_wI, mR_wL, mR_wIr, mR_wLr, mI_wL, mI_wR, mI_wLr, mL_wI, mL_wR, mL_wIr]
  | succ m ih =>
    intro a fuel ha hf
    obtain ⟨f, rfl⟩ := suc fuel (by omega)
    have h9 := ih (a + 1) f (by omega) (by omega)
    have h8 := m_c85 hS hA hT (a := a) (c := cntB (fun a => decide (∀ y, y < a → tb a y = true)) a) (by omega) (fX10_classes_73 f) a 0 f true ⟨fun _ y hy => by omega, fun _ => rfl⟩ (by omega) (by omega)
    rw [bI_t] at h8
    rw [fX10_classes_73]
    simp (disch := omega) only [q_eM, q_Me, q_Mlt, q_Mle, q_leM, q_ltM, q_le, q_nle, q_lt, q_nlt, q_neq, zin_nI, nI_clamp, nI_add, pk_mul, pk_sub, mI_e, mI_n, mL_e, mL_n, mR_e, mR_n, i0, i1, ↓reduceIte, ↓bI_t, ↓bI_f, Bool.false_eq_true, eq_self, chk_true, bnd_just, bnd2_just, app_t, beq_self_eq_true, mK_wI, mK_wL, mK_wR, mK_wIr, mK_wLr, mN_wI, mN_wL, mN_wR, mN_wIr, mN_wLr, mR_wI, mR_wL, mR_wIr, mR_wLr, mI_wL, mI_wR, mI_wLr, mL_wI, mL_wR, mL_wIr]
    rw [h8]
    exact h9
theorem il_90000 : (90000 : Int32) = nI 90000 := by decide
theorem m_clr {K : Nat} (hK : K = 90000) (v : Int32) : ∀ (m i fuel : Nat) (M : zM), Sta M → (∀ j, j < i → mI M 95 j = nI 0) → i + m = K → m < fuel →
    ∃ M' f', fuel ≤ f' + m + 1 ∧ fX10_classes_34 fuel M 68 v (nI i) = fX10_classes_55 f' M' 68 v (nI 1) ∧ zPF M M' ∧ ∀ j, j < K → mI M' 95 j = nI 0 := by
  intro m
  induction m with
  | zero =>
    intro i fuel M hS h0 hi hf
    obtain ⟨f, rfl⟩ := suc fuel (by omega)
    refine ⟨M, f, by omega, ?_, zPF.rf, fun j hj => h0 j (by omega)⟩
    rw [fX10_classes_34]
    simp (disch := omega) only [q_eM, q_Me, q_Mlt, q_Mle, q_leM, q_ltM, q_le, q_nle, q_lt, q_nlt, q_neq, zin_nI, nI_clamp, nI_add, pk_mul, pk_sub, mI_e, mI_n, mL_e, mL_n, mR_e, mR_n, i0, i1, ↓reduceIte, ↓bI_t, ↓bI_f, Bool.false_eq_true, eq_self, chk_true, bnd_just, bnd2_just, app_t, beq_self_eq_true, mK_wI, mK_wL, mK_wR, mK_wIr, mK_wLr, mN_wI, mN_wL, mN_wR, mN_wIr, mN_wLr, mR_wI, mR_wL, mR_wIr, mR_wLr, mI_wL, mI_wR, mI_wLr, mL_wI, mL_wR, mL_wIr, il_90000]
  | succ m ih =>
    intro i fuel M hS h0 hi hf
    obtain ⟨f, rfl⟩ := suc fuel (by omega)
    obtain ⟨M', f', t0, t1, t2, t3⟩ := ih (i + 1) f (wI M 95 i (nI 0)) hS (fun j hj => by
      by_cases hji : j = i
      · rw [mI_e rfl hji]
      · rw [mI_n (by omega)]; exact h0 j (by omega)) (by omega) (by omega)
    refine ⟨M', f', by omega, ?_, (zPF.rf.w _ _).tr t2, t3⟩
    rw [fX10_classes_34]
    simp (disch := omega) only [q_eM, q_Me, q_Mlt, q_Mle, q_leM, q_ltM, q_le, q_nle, q_lt, q_nlt, q_neq, zin_nI, nI_clamp, nI_add, pk_mul, pk_sub, mI_e, mI_n, mL_e, mL_n, mR_e, mR_n, i0, i1, ↓reduceIte, ↓bI_t, ↓bI_f, Bool.false_eq_true, eq_self, chk_true, bnd_just, bnd2_just, app_t, beq_self_eq_true, mK_wI, mK_wL, mK_wR, mK_wIr, mK_wLr, mN_wI, mN_wL, mN_wR, mN_wIr, mN_wLr, mR_wI, mR_wL, mR_wIr, mR_wLr, mI_wL, mI_wR, mI_wLr, mL_wI, mL_wR, mL_wIr, il_90000, sk_68 hS, sk_95 hS, sn_95 hS, sr_68_34 hS, nar0]
    exact t1
theorem m_count {p : zPt} {δ : Nat → Nat → Nat} {M : zM} (hS : Sta M) (hA : AutF M p δ) (N : Nat) (hN : 200000 ≤ N) :
    ∃ M' c, fX10_classes_34 N M 68 (nI ((zKS p).length + 1)) (nI 0) = some (nI c, M') ∧ zPF M M' ∧ NCls ((zKS p).length + 1) δ (gd p) c := by
  have hk := hA.2.1.2.1
  have hδ := fun s l hs hl => (hA.2.2 s l hs hl).2
  obtain ⟨M1, f1, r0, r1, r2, r3⟩ := m_clr rfl (nI ((zKS p).length + 1)) 90000 0 N M hS (fun j hj => by omega) (by omega) (by omega)
  have hu := unS_n (fun _ _ => false) ((zKS p).length + 1)
  have hsq : ((zKS p).length + 1) * ((zKS p).length + 1) ≤ 300 * 300 := Nat.mul_le_mul (by omega) (by omega)
  obtain ⟨M2, tb, f2, s0, s1, s2, s3, s4, s5⟩ := m_c55 (p := p) (δ := δ) 90000 f1 M1 (fun _ _ => false) (r2.sta hS) (r2.aut hA) (fun a b ha hb => by rw [r3 _ (by omega)]; rfl) ⟨fun a b _ _ q => Bool.noConfusion q, fun a b => rfl⟩ (by omega) (by omega)
  have h7 := m_c73 (s2.sta (r2.sta hS)) (s2.aut (r2.aut hA)) s3 ((zKS p).length + 1) 0 f2 (by omega) (by omega)
  refine ⟨M2, _, (r1.trans s1).trans h7, r2.tr s2, _, fun s hs => ?_, rfl⟩
  have hdiag : ∀ x, x < (zKS p).length + 1 → tb x x = false := fun x hx => by
    cases hq : tb x x with
    | false => rfl
    | true => exact absurd Eqv.rf (s4.1 x x hx hx hq)
  have hall : ∀ x y, x < (zKS p).length + 1 → y < (zKS p).length + 1 → tb x y = false → ¬ Now δ (gd p) tb x y := fun x y hx hy q => by
    rcases Nat.lt_trichotomy x y with c | c | c
    · have := s5 y x hy c (by rw [s4.2]; exact q)
      intro q2
      apply this
      rcases q2 with q3 | ⟨l, h1, h2⟩
      · exact Or.inl (fun q4 => q3 q4.symm)
      · exact Or.inr ⟨l, h1, by rw [s4.2]; exact h2⟩
    · subst c
      rintro (q3 | ⟨l, h1, h2⟩)
      · exact q3 rfl
      · rw [hdiag _ (hδ x l hx h1)] at h2; cases h2
    · exact s5 x y hx c q
  have hbis : ∀ x y, x < (zKS p).length + 1 → y < (zKS p).length + 1 → tb x y = false → Eqv δ (gd p) x y := fun x y hx hy q w hw =>
    Eqv_bis hδ (R := fun x y => tb x y = false) (fun s t hs ht q2 => by
      by_cases hg : gd p s = gd p t
      · exact hg
      · exact absurd (Or.inl hg) (hall s t hs ht q2)) (fun s t l hs ht hl q2 => by
      show tb (δ s l) (δ t l) = false
      cases hq : tb (δ s l) (δ t l) with
      | false => rfl
      | true => exact absurd (Or.inr ⟨l, hl, hq⟩) (hall s t hs ht q2)) w x y hw hx hy q
  rw [decide_eq_true_iff]
  constructor
  · intro q t ht q2
    exact s4.1 s t hs (by omega) (q t ht) q2.sy
  · intro q t ht
    cases hq : tb s t with
    | true => rfl
    | false => exact absurd (hbis s t hs (by omega) hq).sy (q t ht)
end ZMCLS
