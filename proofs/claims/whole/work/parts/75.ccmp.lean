/-! the class compares two automata -/
section ZCCMP
def CmF (M M' : zM) : Prop := M'.1 = M.1 ∧ (∀ a j, mR M' a j = mR M a j) ∧ ∀ a, ¬ (38 ≤ a ∧ a ≤ 45) → ∀ j, mI M' a j = mI M a j ∧ mL M' a j = mL M a j
theorem CmF.rf {M : zM} : CmF M M := ⟨rfl, fun _ _ => rfl, fun _ _ _ => ⟨rfl, rfl⟩⟩
theorem CmF.tr {M M1 M2 : zM} (h : CmF M M1) (g : CmF M1 M2) : CmF M M2 := ⟨g.1.trans h.1, fun a j => (g.2.1 a j).trans (h.2.1 a j), fun a ha j => ⟨((g.2.2 a ha j).1).trans ((h.2.2 a ha j).1), ((g.2.2 a ha j).2).trans ((h.2.2 a ha j).2)⟩⟩
theorem CmF.w {M M' : zM} (h : CmF M M') {a : Nat} (ha : 38 ≤ a ∧ a ≤ 45) (k : Nat) (v : Int32) : CmF M (wI M' a k v) := h.tr ⟨rfl, fun _ _ => rfl, fun b hb j => ⟨mI_n (by omega), rfl⟩⟩
theorem CmF.sta {M M' : zM} (h : CmF M M') (hs : Sta M) : Sta M' := Sta_eq hs h.1 h.2.1
theorem CmF.aut {M M' : zM} (h : CmF M M') {P n : Nat} (hP : isP P) {δ : Nat → Nat → Nat} {g : Nat → Bool} (hA : AutD M P n δ g) : AutD M' P n δ g := by
  have := isP_le hP
  obtain ⟨h1, h2, h3, h4, h5⟩ := hA
  exact ⟨(h.2.2 _ (by omega) _).1.trans h1, h2, h3, fun s hs => (h.2.2 _ (by omega) _).1.trans (h4 s hs), fun s l hs hl => ⟨(h.2.2 _ (by omega) _).1.trans (h5 s l hs hl).1, (h5 s l hs hl).2⟩⟩
def CmpI (δ1 δ2 : Nat → Nat → Nat) (M : zM) (m : Nat) (C F : Nat → Nat) : Prop := mI M 38 3 = nI m ∧ (∀ k, k < m → mI M 41 k = nI (sta δ1 (C k)) ∧ mI M 42 k = nI (sta δ2 (C k)) ∧ mI M 45 k = nI (wd (C k)).length ∧ (wd (C k)).length ≤ k) ∧ (∀ k, 0 < k → k < m → ∃ j l, j < k ∧ l < 36 ∧ mI M 43 k = nI j ∧ mI M 44 k = nI l ∧ C k = ex (C j) l) ∧ (∀ a, a < 600 → mI M 40 a = nI (F a) ∧ F a < 600) ∧ C 0 = 0
def mrg (F : Nat → Nat) (o f : Nat) : Nat → Nat := fun a => if F a = o then f else F a
theorem i600 : (600 : Int32) = nI 600 := by decide
theorem c_j52 {o f : Nat} (ho : o < 600) (hf' : f < 600) {F : Nat → Nat} (hF : ∀ a, a < 600 → F a < 600) {K : Nat} (hK : K = 600) : ∀ (m i fuel : Nat) (M : zM), Sta M → (∀ a, a < 600 → mI M 40 a = nI (if a < i then mrg F o f a else F a)) → i + m = K → m < fuel →
    ∃ M', fX1_join_52 fuel M 38 (nI o) (nI f) (nI i) = some ((), M') ∧ CmF M M' ∧ (∀ a, a ≠ 40 → ∀ j, mI M' a j = mI M a j) ∧ ∀ a, a < 600 → mI M' 40 a = nI (mrg F o f a) := by
  intro m
  induction m with
  | zero =>
    intro i fuel M hS h hi hf
    obtain ⟨g, rfl⟩ := suc fuel (by omega)
    refine ⟨M, ?_, CmF.rf, fun _ _ _ => rfl, fun a ha => by rw [h a ha, if_pos (by omega)]⟩
    rw [fX1_join_52]
    simp (disch := omega) only [q_eM, q_Me, q_Mlt, q_Mle, q_leM, q_ltM, q_le, q_nle, q_lt, q_nlt, q_neq, zin_nI, nI_clamp, nI_add, pk_mul, pk_sub, mI_e, mI_n, mL_e, mL_n, mR_e, mR_n, i0, i1, ↓reduceIte, ↓bI_t, ↓bI_f, Bool.false_eq_true, eq_self, chk_true, bnd_just, bnd2_just, app_t, beq_self_eq_true, mK_wI, mK_wL, mK_wR, mK_wIr, mK_wLr, mN_wI, mN_wL, mN_wR, mN_wIr, mN_wLr, mR_wI, mR_wL, mR_wIr, mR_wLr, mI_wL, mI_wR, mI_wLr, mL_wI, mL_wR, mL_wIr, i600]
  | succ m ih =>
    intro i fuel M hS h hi hf
    obtain ⟨g, rfl⟩ := suc fuel (by omega)
    have e40 := h i (by omega)
    rw [if_neg (by omega)] at e40
    have hFi := hF i (by omega)
    rw [fX1_join_52]
    unfold fX1_join_80
    by_cases hc : F i = o
    · obtain ⟨M', t1, t2, t3, t4⟩ := ih (i + 1) g (wI M 40 i (nI f)) hS (fun a ha => by
        by_cases hai : a = i
        · rw [mI_e rfl hai, if_pos (by omega), hai]; unfold mrg; rw [if_pos hc]
        · rw [mI_n (by omega), h a ha]
          by_cases h2 : a < i
          · rw [if_pos h2, if_pos (by omega)]
          · rw [if_neg h2, if_neg (by omega)]) (by omega) (by omega)
      refine ⟨M', ?_, (CmF.rf.w (by omega) _ _).tr t2, fun a ha j => (t3 a ha j).trans (mI_n (by omega)), t4⟩
      simp (disch := omega) only [q_eM, q_Me, q_Mlt, q_Mle, q_leM, q_ltM, q_le, q_nle, q_lt, q_nlt, q_neq, zin_nI, nI_clamp, nI_add, pk_mul, pk_sub, mI_e, mI_n, mL_e, mL_n, mR_e, mR_n, i0, i1, ↓reduceIte, ↓bI_t, ↓bI_f, Bool.false_eq_true, eq_self, chk_true, bnd_just, bnd2_just, app_t, beq_self_eq_true, mK_wI, mK_wL, mK_wR, mK_wIr, mK_wLr, mN_wI, mN_wL, mN_wR, mN_wIr, mN_wLr, mR_wI, mR_wL, mR_wIr, mR_wLr, mI_wL, mI_wR, mI_wLr, mL_wI, mL_wR, mL_wIr, i600, sk_38 hS, sk_40 hS, sn_40 hS, sr_38_2 hS, e40, hc]
      exact t1
    · obtain ⟨M', t1, t2, t3, t4⟩ := ih (i + 1) g M hS (fun a ha => by
        rw [h a ha]
        by_cases h2 : a < i
        · rw [if_pos h2, if_pos (by omega)]
        · rw [if_neg h2]
          by_cases h3 : a = i
          · rw [if_pos (by omega), h3]; unfold mrg; rw [if_neg hc]
          · rw [if_neg (by omega)]) (by omega) (by omega)
      refine ⟨M', ?_, t2, t3, t4⟩
      simp (disch := omega) only [q_eM, q_Me, q_Mlt, q_Mle, q_leM, q_ltM, q_le, q_nle, q_lt, q_nlt, q_neq, zin_nI, nI_clamp, nI_add, pk_mul, pk_sub, mI_e, mI_n, mL_e, mL_n, mR_e, mR_n, i0, i1, ↓reduceIte, ↓bI_t, ↓bI_f, Bool.false_eq_true, eq_self, chk_true, bnd_just, bnd2_just, app_t, beq_self_eq_true, mK_wI, mK_wL, mK_wR, mK_wIr, mK_wLr, mN_wI, mN_wL, mN_wR, mN_wIr, mN_wLr, mR_wI, mR_wL, mR_wIr, mR_wLr, mI_wL, mI_wR, mI_wLr, mL_wI, mL_wR, mL_wIr, i600, sk_38 hS, sk_40 hS, sn_40 hS, sr_38_2 hS, e40]
      exact t1
theorem c_join {M : zM} (hS : Sta M) {m p q : Nat} (zhm' : m < 600) (hp : p < 300) (hq : q < 300) {F : Nat → Nat} (h3 : mI M 38 3 = nI m) (hF : ∀ a, a < 600 → mI M 40 a = nI (F a) ∧ F a < 600) (N : Nat) (hN : 610 ≤ N) :
    ∃ M', fX1_join N M 38 (nI p) (nI q) = some ((), M') ∧ CmF M M' ∧ mI M' 38 3 = nI (m + 1) ∧ mI M' 38 0 = mI M 38 0 ∧ (∀ j, mI M' 41 j = if j = m then nI p else mI M 41 j) ∧ (∀ j, mI M' 42 j = if j = m then nI q else mI M 42 j) ∧ (∀ a, 43 ≤ a → ∀ j, mI M' a j = mI M a j) ∧ ∀ a, a < 600 → mI M' 40 a = nI (mrg F (F (300 + q)) (F p) a) := by
  have f1 := (hF (300 + q) (by omega))
  have f2 := (hF p (by omega))
  obtain ⟨M', t1, t2, t3, t4⟩ := c_j52 (o := F (300 + q)) (f := F p) f1.2 f2.2 (F := F) (fun a ha => (hF a ha).2) rfl 600 0 N (wI (wI (wI M 41 m (nI p)) 42 m (nI q)) 38 3 (nI (m + 1))) hS (fun a ha => by
    rw [if_neg (by omega), mI_n (by omega), mI_n (by omega), mI_n (by omega)]; exact (hF a ha).1) (by omega) (by omega)
  refine ⟨M', ?_, (((CmF.rf.w (by omega) _ _).w (by omega) _ _).w (by omega) _ _).tr t2, ?_, ?_, fun j => ?_, fun j => ?_, fun a ha j => ?_, t4⟩
  · unfold fX1_join
    simp (disch := omega) only [q_eM, q_Me, q_Mlt, q_Mle, q_leM, q_ltM, q_le, q_nle, q_lt, q_nlt, q_neq, zin_nI, nI_clamp, nI_add, pk_mul, pk_sub, mI_e, mI_n, mL_e, mL_n, mR_e, mR_n, i0, i1, ↓reduceIte, ↓bI_t, ↓bI_f, Bool.false_eq_true, eq_self, chk_true, bnd_just, bnd2_just, app_t, beq_self_eq_true, mK_wI, mK_wL, mK_wR, mK_wIr, mK_wLr, mN_wI, mN_wL, mN_wR, mN_wIr, mN_wLr, mR_wI, mR_wL, mR_wIr, mR_wLr, mI_wL, mI_wR, mI_wLr, mL_wI, mL_wR, mL_wIr, i300, sk_38 hS, sk_40 hS, sk_41 hS, sk_42 hS, sn_40 hS, sn_41 hS, sn_42 hS, sr_38_2 hS, sr_38_4 hS, sr_38_5 hS, h3, f1.1, f2.1]
    exact t1
  · rw [t3 38 (by omega), mI_e rfl rfl]
  · rw [t3 38 (by omega), mI_n (by omega), mI_n (by omega), mI_n (by omega)]
  · rw [t3 41 (by omega), mI_n (by omega), mI_n (by omega)]; rw [mI_wI]; by_cases hj : j = m <;> simp [hj]
  · rw [t3 42 (by omega), mI_n (by omega), mI_wI]
    by_cases hj : j = m
    · simp [hj]
    · rw [if_neg (by omega), if_neg hj, mI_n (by omega)]
  · rw [t3 a (by omega), mI_n (by omega), mI_n (by omega), mI_n (by omega)]
/-! what is known of the pairs, apart from the memory -/
def outS (δ1 δ2 : Nat → Nat → Nat) (g1 g2 : Nat → Bool) (a : Nat) (x : List Nat) : Bool := if a < 300 then g1 (x.foldl δ1 a) else g2 (x.foldl δ2 (a - 300))
def okW (x : List Nat) : Prop := ∀ l ∈ x, l < 36
def zCI (δ1 δ2 : Nat → Nat → Nat) (g1 g2 : Nat → Bool) (m : Nat) (C F : Nat → Nat) : Prop := 1 ≤ m ∧ (∀ i j, i < j → j < m → C i < C j) ∧ (∀ k, k < m → ¬ Tel δ1 δ2 g1 g2 (C k)) ∧ (∀ a b, a < 600 → b < 600 → F a = F b → ∀ x, okW x → (∀ k, k < m → ¬ Tel δ1 δ2 g1 g2 (zext (C k) x)) → outS δ1 δ2 g1 g2 a x = outS δ1 δ2 g1 g2 b x) ∧ m + cntB (newB F) 600 ≤ 600
def zPR (δ1 δ2 : Nat → Nat → Nat) (g1 g2 : Nat → Bool) (m : Nat) (C : Nat → Nat) (cur l : Nat) : Prop := ∀ k l', k < m → l' < 36 → (k < cur ∨ (k = cur ∧ l' < l)) → (∃ k', k' < m ∧ C k' = ex (C k) l') ∨ ∀ x, okW x → (∀ j, j < m → C j < ex (C k) l' → ¬ Tel δ1 δ2 g1 g2 (zext (C j) x)) → ¬ Tel δ1 δ2 g1 g2 (zext (ex (C k) l') x)
theorem not_tel {δ1 δ2 : Nat → Nat → Nat} {g1 g2 : Nat → Bool} {c : Nat} (h : g1 (sta δ1 c) = g2 (sta δ2 c)) : ¬ Tel δ1 δ2 g1 g2 c := fun q => q h
theorem tel_eq {δ1 δ2 : Nat → Nat → Nat} {g1 g2 : Nat → Bool} {c : Nat} (h : ¬ Tel δ1 δ2 g1 g2 c) : g1 (sta δ1 c) = g2 (sta δ2 c) := by
  by_cases q : g1 (sta δ1 c) = g2 (sta δ2 c)
  · exact q
  · exact absurd q h
theorem CI_m {δ1 δ2 : Nat → Nat → Nat} {g1 g2 : Nat → Bool} {m : Nat} {C F : Nat → Nat} (h : zCI δ1 δ2 g1 g2 m C F) : m < 600 := by
  have := cntB_pos (f := newB F) (n := 600) (by omega) (newB_t.mpr (fun t ht => by omega))
  have := h.2.2.2.2
  omega
theorem PR_same {δ1 δ2 : Nat → Nat → Nat} {g1 g2 : Nat → Bool} {m : Nat} {C F : Nat → Nat} {cur l : Nat} (hl : l < 36) (hI : zCI δ1 δ2 g1 g2 m C F) (hP : zPR δ1 δ2 g1 g2 m C cur l) (hf : ∀ k, k < m → C k < ex (C cur) l) (h1 : sta δ1 (ex (C cur) l) < 300) (h2 : sta δ2 (ex (C cur) l) < 300) (he : F (sta δ1 (ex (C cur) l)) = F (300 + sta δ2 (ex (C cur) l))) : zPR δ1 δ2 g1 g2 m C cur (l + 1) := by
  intro k l' hk hl' hB
  by_cases hc : k = cur ∧ l' = l
  · obtain ⟨rfl, rfl⟩ := hc
    right
    intro x hx hn
    have := hI.2.2.2.1 _ _ (by omega) (by omega) he x hx (fun j hj => hn j hj (hf j hj))
    unfold outS at this
    rw [if_pos h1, if_neg (by omega), Nat.add_sub_cancel_left] at this
    apply not_tel
    rw [sta_ext hx, sta_ext hx]
    exact this
  · exact hP k l' hk hl' (by omega)
theorem CI_new {δ1 δ2 : Nat → Nat → Nat} {g1 g2 : Nat → Bool} {m : Nat} {C F : Nat → Nat} {D : Nat} (hI : zCI δ1 δ2 g1 g2 m C F) (hf : ∀ k, k < m → C k < D) (hT : ¬ Tel δ1 δ2 g1 g2 D) (h1 : sta δ1 D < 300) (h2 : sta δ2 D < 300) (hne : F (sta δ1 D) ≠ F (300 + sta δ2 D)) : zCI δ1 δ2 g1 g2 (m + 1) (updf C m D) (mrg F (F (300 + sta δ2 D)) (F (sta δ1 D))) := by
  obtain ⟨a1, a2, a3, a4, a5⟩ := hI
  refine ⟨by omega, fun i j hij hj => ?_, fun k hk => ?_, fun a b ha hb e x hx hn => ?_, ?_⟩
  · by_cases hjm : j = m
    · rw [updf_n (by omega), updf_e hjm]; exact hf i (by omega)
    · rw [updf_n (by omega), updf_n hjm]; exact a2 i j hij (by omega)
  · by_cases hkm : k = m
    · rw [updf_e hkm]; exact hT
    · rw [updf_n hkm]; exact a3 k (by omega)
  · have hn' : ∀ k, k < m → ¬ Tel δ1 δ2 g1 g2 (zext (C k) x) := fun k hk => by
      have := hn k (by omega)
      rw [updf_n (by omega)] at this
      exact this
    have hD := hn m (by omega)
    rw [updf_e rfl] at hD
    have hpq : outS δ1 δ2 g1 g2 (sta δ1 D) x = outS δ1 δ2 g1 g2 (300 + sta δ2 D) x := by
      have := tel_eq hD
      rw [sta_ext hx, sta_ext hx] at this
      unfold outS
      rw [if_pos h1, if_neg (by omega), Nat.add_sub_cancel_left]
      exact this
    have hto : ∀ c, c < 600 → F c = F (300 + sta δ2 D) → outS δ1 δ2 g1 g2 c x = outS δ1 δ2 g1 g2 (sta δ1 D) x := fun c hc q => (a4 c _ hc (by omega) q x hx hn').trans hpq.symm
    unfold mrg at e
    by_cases ha' : F a = F (300 + sta δ2 D)
    · by_cases hb' : F b = F (300 + sta δ2 D)
      · exact (hto a ha ha').trans (hto b hb hb').symm
      · rw [if_pos ha', if_neg hb'] at e
        exact (hto a ha ha').trans (a4 _ b (by omega) hb e x hx hn')
    · by_cases hb' : F b = F (300 + sta δ2 D)
      · rw [if_neg ha', if_pos hb'] at e
        exact (a4 a _ ha (by omega) e x hx hn').trans (hto b hb hb').symm
      · rw [if_neg ha', if_neg hb'] at e
        exact a4 a b ha hb e x hx hn'
  · have hr : ∀ s t, s < 600 → t < 600 → F s = F t → mrg F (F (300 + sta δ2 D)) (F (sta δ1 D)) s = mrg F (F (300 + sta δ2 D)) (F (sta δ1 D)) t := fun s t _ _ q => by unfold mrg; rw [q]
    have hle := cnt_ref (G := mrg F (F (300 + sta δ2 D)) (F (sta δ1 D))) (H := F) hr
    have hlt : cntB (newB (mrg F (F (300 + sta δ2 D)) (F (sta δ1 D)))) 600 ≠ cntB (newB F) 600 := fun q => by
      have := same_part hr q (300 + sta δ2 D) (sta δ1 D) (by omega) (by omega) (by unfold mrg; rw [if_pos rfl, if_neg hne])
      exact hne this
    omega
theorem PR_new {δ1 δ2 : Nat → Nat → Nat} {g1 g2 : Nat → Bool} {m : Nat} {C : Nat → Nat} {cur l : Nat} (hcm : cur < m) (hP : zPR δ1 δ2 g1 g2 m C cur l) : zPR δ1 δ2 g1 g2 (m + 1) (updf C m (ex (C cur) l)) cur (l + 1) := by
  intro k l' hk hl' hB
  have hkm : k < m := by omega
  rw [updf_n (show k ≠ m by omega)]
  by_cases hc : k = cur ∧ l' = l
  · obtain ⟨rfl, rfl⟩ := hc
    exact Or.inl ⟨m, by omega, updf_e rfl⟩
  · rcases hP k l' hkm hl' (by omega) with ⟨k', h1, h2⟩ | h
    · exact Or.inl ⟨k', by omega, by rw [updf_n (by omega)]; exact h2⟩
    · right
      intro x hx hn
      exact h x hx (fun j hj hlt => by
        have := hn j (by omega)
        rw [updf_n (by omega)] at this
        exact this hlt)
/-- the first word that tells apart -/
theorem Lst_found {δ1 δ2 : Nat → Nat → Nat} {g1 g2 : Nat → Bool} {m : Nat} {C F : Nat → Nat} {cur l : Nat} (hcm : cur < m) (hl : l < 36) (h0 : C 0 = 0) (hI : zCI δ1 δ2 g1 g2 m C F) (hP : zPR δ1 δ2 g1 g2 m C cur l) (hT : Tel δ1 δ2 g1 g2 (ex (C cur) l)) : zLst δ1 δ2 g1 g2 (ex (C cur) l) := by
  refine ⟨hT, no_tel (S := fun c => ∃ k, k < m ∧ C k = c) ⟨0, by omega, h0⟩ (fun c ⟨k, hk, e⟩ => e ▸ hI.2.2.1 k hk) (fun c l' ⟨k, hk, e⟩ hl' hlt => ?_)⟩
  subst e
  have hle : C k ≤ C cur := by
    rcases Nat.lt_or_ge (C cur) (C k) with q | q
    · have := ex_lt (l := l) (l' := l') q hl; omega
    · exact q
  have hkc : k ≤ cur := by
    rcases Nat.lt_or_ge cur k with q | q
    · have := hI.2.1 cur k q hk; omega
    · exact q
  have hB : k < cur ∨ (k = cur ∧ l' < l) := by
    by_cases hke : k = cur
    · subst hke
      unfold ex at hlt
      omega
    · omega
  rcases hP k l' hk hl' hB with q | q
  · exact Or.inl q
  · right
    intro x hx hn
    exact q x hx (fun j hj hlt2 => hn (C j) ⟨j, hj, rfl⟩ hlt2)
theorem Lst_none {δ1 δ2 : Nat → Nat → Nat} {g1 g2 : Nat → Bool} {m : Nat} {C F : Nat → Nat} (h0 : C 0 = 0) (hI : zCI δ1 δ2 g1 g2 m C F) (hP : zPR δ1 δ2 g1 g2 m C m 0) : ∀ E, ¬ Tel δ1 δ2 g1 g2 E := by
  intro E
  refine no_tel (D := E + 1) (S := fun c => ∃ k, k < m ∧ C k = c) ⟨0, by have := hI.1; omega, h0⟩ (fun c ⟨k, hk, e⟩ => e ▸ hI.2.2.1 k hk) (fun c l' ⟨k, hk, e⟩ hl' hlt => ?_) E (by omega)
  subst e
  rcases hP k l' hk hl' (by omega) with q | q
  · exact Or.inl q
  · right
    intro x hx hn
    exact q x hx (fun j hj hlt2 => hn (C j) ⟨j, hj, rfl⟩ hlt2)
theorem PR_next {δ1 δ2 : Nat → Nat → Nat} {g1 g2 : Nat → Bool} {m : Nat} {C : Nat → Nat} {cur : Nat} (hP : zPR δ1 δ2 g1 g2 m C cur 36) : zPR δ1 δ2 g1 g2 m C (cur + 1) 0 := fun k l' hk hl' hB => hP k l' hk hl' (by omega)
end ZCCMP
