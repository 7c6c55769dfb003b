/-! the class counts the classes of states -/
section ZCCLS
def AutD (M : zM) (P n : Nat) (δ : Nat → Nat → Nat) (g : Nat → Bool) : Prop := mI M (P + 4) 2 = nI n ∧ 1 ≤ n ∧ n ≤ 300 ∧ (∀ s, s < n → mI M (P + 5) s = bI (g s)) ∧ ∀ s l, s < n → l < 36 → mI M (P + 6) (s * 36 + l) = nI (δ s l) ∧ δ s l < n
def zGF (M M' : zM) : Prop := M'.1 = M.1 ∧ (∀ a j, mR M' a j = mR M a j) ∧ ∀ a, ¬ ((31 ≤ a ∧ a ≤ 34) ∨ a = 36 ∨ a = 37) → ∀ j, mI M' a j = mI M a j ∧ mL M' a j = mL M a j
theorem zGF.rf {M : zM} : zGF M M := ⟨rfl, fun _ _ => rfl, fun _ _ _ => ⟨rfl, rfl⟩⟩
theorem zGF.tr {M M1 M2 : zM} (h : zGF M M1) (g : zGF M1 M2) : zGF M M2 := ⟨g.1.trans h.1, fun a j => (g.2.1 a j).trans (h.2.1 a j), fun a ha j => ⟨((g.2.2 a ha j).1).trans ((h.2.2 a ha j).1), ((g.2.2 a ha j).2).trans ((h.2.2 a ha j).2)⟩⟩
theorem zGF.r4 {M M' : zM} (h : RF4 M M') : zGF M M' := ⟨h.1, h.2.1, fun a ha j => h.2.2 a (by omega) j⟩
theorem zGF.wI {M M' : zM} (h : zGF M M') {a : Nat} (ha : a = 36 ∨ a = 37) (k : Nat) (v : Int32) : zGF M (wI M' a k v) := h.tr ⟨rfl, fun _ _ => rfl, fun b hb j => ⟨mI_n (by omega), rfl⟩⟩
theorem zGF.sta {M M' : zM} (h : zGF M M') (hs : Sta M) : Sta M' := Sta_eq hs h.1 h.2.1
theorem zGF.aut {M M' : zM} (h : zGF M M') {P n : Nat} (hP : isP P) {δ : Nat → Nat → Nat} {g : Nat → Bool} (hA : AutD M P n δ g) : AutD M' P n δ g := by
  have := isP_le hP
  obtain ⟨h1, h2, h3, h4, h5⟩ := hA
  exact ⟨(h.2.2 _ (by omega) _).1.trans h1, h2, h3, fun s hs => (h.2.2 _ (by omega) _).1.trans (h4 s hs), fun s l hs hl => ⟨(h.2.2 _ (by omega) _).1.trans (h5 s l hs hl).1, (h5 s l hs hl).2⟩⟩
def Grp (M : zM) (G : Nat → Nat) (n : Nat) : Prop := ∀ s, s < n → mI M 36 s = nI (G s) ∧ G s < 300
def keyG (g : Nat → Bool) (s : Nat) : Int64 := if g s = true then 1 else 0
theorem keyG_eq (g : Nat → Bool) (s t : Nat) : keyG g s = keyG g t ↔ g s = g t := by
  unfold keyG
  cases g s <;> cases g t <;> simp
theorem c_gg {P n : Nat} (hP : isP P) {δ : Nat → Nat → Nat} {g : Nat → Bool} : ∀ (m i fuel : Nat) (M : zM) (r : Nat → Nat), Sta M → AutD M P n δ g → NumI M (keyG g) i r → Grp M r i → i + m = n → m + 1110 < fuel →
    ∃ M' r', fX2_groupByGood_6 fuel M 35 (P + 4) 31 (nI i) = some (nI (cntB (newB r') n), M') ∧ zGF M M' ∧ NumI M' (keyG g) n r' ∧ Grp M' r' n := by
  intro m
  induction m with
  | zero =>
    intro i fuel M r hS hA hN hG hi hf
    obtain ⟨f, rfl⟩ := suc fuel (by omega)
    have hin : i = n := by omega
    subst hin
    have hn := hA.2.2.1
    refine ⟨M, r, ?_, zGF.rf, hN, hG⟩
    rw [fX2_groupByGood_6]
    simp (disch := omega) only [q_eM, q_Me, q_Mlt, q_Mle, q_leM, q_ltM, q_le, q_nle, q_lt, q_nlt, q_neq, zin_nI, nI_clamp, nI_add, pk_mul, pk_sub, mI_e, mI_n, mL_e, mL_n, mR_e, mR_n, i0, i1, ↓reduceIte, ↓bI_t, ↓bI_f, Bool.false_eq_true, eq_self, chk_true, bnd_just, bnd2_just, app_t, beq_self_eq_true, mK_wI, mK_wL, mK_wR, mK_wIr, mK_wLr, mN_wI, mN_wL, mN_wR, mN_wIr, mN_wLr, mR_wI, mR_wL, mR_wIr, mR_wLr, mI_wL, mI_wR, mI_wLr, mL_wI, mL_wR, mL_wIr, sk_31 hS, pK4 hS hP, hA.1, hN.cnt]
  | succ m ih =>
    intro i fuel M r hS hA hN hG hi hf
    obtain ⟨f, rfl⟩ := suc fuel (by omega)
    obtain ⟨hP1, hP2⟩ := isP_le hP
    have hn := hA.2.2.1
    obtain ⟨v, M1, r1, r2, r3, r4⟩ := num_step hS hN (by omega) f (by omega)
    have hS1 := r3.sta hS
    have hGF : zGF M (wI M1 36 i (nI v)) := (zGF.r4 r3).wI (by omega) _ _
    obtain ⟨M', r', t1, t2, t3, t4⟩ := ih (i + 1) f (wI M1 36 i (nI v)) (updf r i v) (hGF.sta hS) (hGF.aut hP hA) (r4.fr (fun a j _ _ => mI_n (by omega)) (fun j => rfl)) (fun s hs => by
      by_cases hsi : s = i
      · rw [mI_e rfl hsi, updf_e hsi]; exact ⟨rfl, r2⟩
      · rw [mI_n (by omega), updf_n hsi, (r3.2.2 36 (by omega) s).1]; exact hG s (by omega)) (by omega) (by omega)
    refine ⟨M', r', ?_, hGF.tr t2, t3, t4⟩
    rw [fX2_groupByGood_6]
    unfold fX2_groupByGood_34
    have hgi := hA.2.2.2.1 i (by omega)
    cases hg : g i with
    | false =>
      rw [hg] at hgi
      have ek : keyG g i = 0 := by unfold keyG; rw [hg]; rfl
      rw [ek] at r1
      simp (disch := omega) only [q_eM, q_Me, q_Mlt, q_Mle, q_leM, q_ltM, q_le, q_nle, q_lt, q_nlt, q_neq, zin_nI, nI_clamp, nI_add, pk_mul, pk_sub, mI_e, mI_n, mL_e, mL_n, mR_e, mR_n, i0, i1, ↓reduceIte, ↓bI_t, ↓bI_f, Bool.false_eq_true, eq_self, chk_true, bnd_just, bnd2_just, app_t, beq_self_eq_true, mK_wI, mK_wL, mK_wR, mK_wIr, mK_wLr, mN_wI, mN_wL, mN_wR, mN_wIr, mN_wLr, mR_wI, mR_wL, mR_wIr, mR_wLr, mI_wL, mI_wR, mI_wLr, mL_wI, mL_wR, mL_wIr, i300, sk_31 hS, sk_35 hS, sk_36 hS, sn_36 hS, sr_35_0 hS, pK4 hS hP, pA4 hS hP, pK5 hS hP, pN5 hS hP, hA.1, hgi, r1, sk_36 hS1, sn_36 hS1]
      exact t1
    | true =>
      rw [hg] at hgi
      have ek : keyG g i = 1 := by unfold keyG; rw [hg]; rfl
      rw [ek] at r1
      simp (disch := omega) only [q_eM, q_Me, q_Mlt, q_Mle, q_leM, q_ltM, q_le, q_nle, q_lt, q_nlt, q_neq, zin_nI, nI_clamp, nI_add, pk_mul, pk_sub, mI_e, mI_n, mL_e, mL_n, mR_e, mR_n, i0, i1, ↓reduceIte, ↓bI_t, ↓bI_f, Bool.false_eq_true, eq_self, chk_true, bnd_just, bnd2_just, app_t, beq_self_eq_true, mK_wI, mK_wL, mK_wR, mK_wIr, mK_wLr, mN_wI, mN_wL, mN_wR, mN_wIr, mN_wLr, mR_wI, mR_wL, mR_wIr, mR_wLr, mI_wL, mI_wR, mI_wLr, mL_wI, mL_wR, mL_wIr, i300, sk_31 hS, sk_35 hS, sk_36 hS, sn_36 hS, sr_35_0 hS, pK4 hS hP, pA4 hS hP, pK5 hS hP, pN5 hS hP, hA.1, hgi, r1, sk_36 hS1, sn_36 hS1]
      exact t1
theorem NumI_0 {M : zM} (h : RegS M []) (key : Nat → Int64) (r : Nat → Nat) : NumI M key 0 r := ⟨[], h, by simp, fun j hj => by omega, fun m zhm' => by simp at zhm', rfl⟩
theorem NumI.reg {M : zM} {key : Nat → Int64} {n : Nat} {r : Nat → Nat} (h : NumI M key n r) : ∃ ks, RegS M ks := by
  obtain ⟨ks, h1, -⟩ := h; exact ⟨ks, h1⟩
theorem c_good {P n : Nat} (hP : isP P) {δ : Nat → Nat → Nat} {g : Nat → Bool} {M : zM} (hS : Sta M) (hA : AutD M P n δ g) {ks : List Int64} (hR : RegS M ks) (N : Nat) (hN : 1500 ≤ N) :
    ∃ M' G, fX2_groupByGood N M 35 (P + 4) 31 = some (nI (cntB (newB G) n), M') ∧ zGF M M' ∧ (∃ ks', RegS M' ks') ∧ Grp M' G n ∧ ∀ s t, s < n → t < n → (G s = G t ↔ g s = g t) := by
  obtain ⟨M0, r1, r2, r3⟩ := c_forget hS hR N (by omega)
  have hGF := zGF.r4 r2
  have hn := hA.2.2.1
  obtain ⟨M', r', t1, t2, t3, t4⟩ := c_gg hP n 0 N M0 (fun _ => 0) (hGF.sta hS) (hGF.aut hP hA) (NumI_0 r3 _ _) (fun s hs => by omega) (by omega) (by omega)
  refine ⟨M', r', ?_, hGF.tr t2, t3.reg, t4, fun s t hs ht => by rw [t3.eq s t hs ht, keyG_eq]⟩
  unfold fX2_groupByGood
  simp only [chk_true, bnd_just, bnd2_just, app_t, beq_self_eq_true, mK_wI, mK_wL, mK_wR, mK_wIr, mK_wLr, mN_wI, mN_wL, mN_wR, mN_wIr, mN_wLr, mR_wI, mR_wL, mR_wIr, mR_wLr, mI_wL, mI_wR, mI_wLr, mL_wI, mL_wR, mL_wIr, sk_31 hS, r1, i0]
  exact t1
def zkeyW (G : Nat → Nat) (δ : Nat → Nat → Nat) (l s : Nat) : Int64 := Int32.toInt64 (nI (G s)) * 300 + Int32.toInt64 (nI (G (δ s l)))
theorem keyW_N {G : Nat → Nat} {δ : Nat → Nat → Nat} {l s : Nat} (h1 : G s < 300) (h2 : G (δ s l) < 300) : zkeyW G δ l s = lN (G s * 300 + G (δ s l)) := by
  unfold zkeyW
  rw [nI_l (by omega), nI_l (by omega)]
  unfold lN
  rw [show (300 : Int64) = Int64.ofNat 300 from rfl, ← Int64.ofNat_mul, ← Int64.ofNat_add]
theorem lN_inj {a b : Nat} (ha : a < 2 ^ 31) (hb : b < 2 ^ 31) (h : lN a = lN b) : a = b := by
  have e1 := lN_toInt ha
  have e2 := lN_toInt hb
  rw [h, e2] at e1
  omega
theorem keyW_eq {G : Nat → Nat} {δ : Nat → Nat → Nat} {l s t : Nat} (h1 : G s < 300) (h2 : G (δ s l) < 300) (h3 : G t < 300) (h4 : G (δ t l) < 300) : zkeyW G δ l s = zkeyW G δ l t ↔ (G s = G t ∧ G (δ s l) = G (δ t l)) := by
  rw [keyW_N h1 h2, keyW_N h3 h4]
  constructor
  · intro q
    have := lN_inj (by omega) (by omega) q
    omega
  · rintro ⟨q1, q2⟩; rw [q1, q2]
theorem c_gw {P n : Nat} (hP : isP P) {δ : Nat → Nat → Nat} {g : Nat → Bool} {l : Nat} (hl : l < 36) {G : Nat → Nat} : ∀ (m i fuel : Nat) (M : zM) (r : Nat → Nat), Sta M → AutD M P n δ g → Grp M G n → NumI M (zkeyW G δ l) i r → (∀ s, s < i → mI M 37 s = nI (r s) ∧ r s < 300) → i + m = n → m + 1110 < fuel →
    ∃ M' r', fX2_groupByWay_7 fuel M 35 (P + 4) (nI l) 31 (nI i) = some (nI (cntB (newB r') n), M') ∧ zGF M M' ∧ NumI M' (zkeyW G δ l) n r' ∧ Grp M' r' n := by
  intro m
  induction m with
  | zero =>
    intro i fuel M r hS hA hG hN h37 hi hf
    obtain ⟨f, rfl⟩ := suc fuel (by omega)
    have hin : i = n := by omega
    subst hin
    have hn := hA.2.2.1
    have ezcp : zcp (nI i) 300 300 = true := by
      unfold zcp
      apply decide_eq_true
      rw [nI_clamp (by omega), i0, nlt (by omega) (by omega)]
      omega
    refine ⟨wIr M 36 (va_cpy (mI M 37) (mI M 36) 0 0 i), r, ?_, ⟨rfl, fun _ _ => rfl, fun a ha j => ⟨?_, rfl⟩⟩, hN.fr (fun a j _ _ => ?_) (fun j => rfl), fun s hs => ?_⟩
    · rw [fX2_groupByWay_7]
      have hc := hN.cnt
      simp (disch := omega) only [q_eM, q_Me, q_Mlt, q_Mle, q_leM, q_ltM, q_le, q_nle, q_lt, q_nlt, q_neq, zin_nI, nI_clamp, nI_add, pk_mul, pk_sub, mI_e, mI_n, mL_e, mL_n, mR_e, mR_n, i0, i1, ↓reduceIte, ↓bI_t, ↓bI_f, Bool.false_eq_true, eq_self, chk_true, bnd_just, bnd2_just, app_t, beq_self_eq_true, mK_wI, mK_wL, mK_wR, mK_wIr, mK_wLr, mN_wI, mN_wL, mN_wR, mN_wIr, mN_wLr, mR_wI, mR_wL, mR_wIr, mR_wLr, mI_wL, mI_wR, mI_wLr, mL_wI, mL_wR, mL_wIr, sk_31 hS, sk_35 hS, sk_36 hS, sk_37 hS, sn_36 hS, sn_37 hS, sr_35_0 hS, sr_35_1 hS, pK4 hS hP, hA.1, ezcp]
      rw [mI_wIr, if_neg (by omega), hc]
    · rw [mI_wIr, if_neg (by omega)]
    · rw [mI_wIr, if_neg (by omega)]
    · rw [mI_wIr, if_pos rfl, pk_cpy_in (by omega) (by omega)]
      rw [show 0 + (s - 0) = s by omega]
      exact h37 s hs
  | succ m ih =>
    intro i fuel M r hS hA hG hN h37 hi hf
    obtain ⟨f, rfl⟩ := suc fuel (by omega)
    obtain ⟨hP1, hP2⟩ := isP_le hP
    have hn := hA.2.2.1
    obtain ⟨hw, hdn⟩ := hA.2.2.2.2 i l (by omega) hl
    have g1 := (hG i (by omega)).1
    have g2 := (hG (δ i l) hdn).1
    obtain ⟨v, M1, r1, r2, r3, r4⟩ := num_step hS hN (by omega) f (by omega)
    have hS1 := r3.sta hS
    have hGF : zGF M (wI M1 37 i (nI v)) := (zGF.r4 r3).wI (by omega) _ _
    obtain ⟨M', r', t1, t2, t3, t4⟩ := ih (i + 1) f (wI M1 37 i (nI v)) (updf r i v) (hGF.sta hS) (hGF.aut hP hA) (fun s hs => by rw [mI_n (by omega), (r3.2.2 36 (by omega) s).1]; exact hG s hs) (r4.fr (fun a j _ _ => mI_n (by omega)) (fun j => rfl)) (fun s hs => by
      by_cases hsi : s = i
      · rw [mI_e rfl hsi, updf_e hsi]; exact ⟨rfl, r2⟩
      · rw [mI_n (by omega), updf_n hsi, (r3.2.2 37 (by omega) s).1]; exact h37 s (by omega)) (by omega) (by omega)
    refine ⟨M', r', ?_, hGF.tr t2, t3, t4⟩
    rw [fX2_groupByWay_7]
    unfold fX0_wayFrom
    simp (disch := omega) only [q_eM, q_Me, q_Mlt, q_Mle, q_leM, q_ltM, q_le, q_nle, q_lt, q_nlt, q_neq, zin_nI, nI_clamp, nI_add, pk_mul, pk_sub, mI_e, mI_n, mL_e, mL_n, mR_e, mR_n, i0, i1, ↓reduceIte, ↓bI_t, ↓bI_f, Bool.false_eq_true, eq_self, chk_true, bnd_just, bnd2_just, app_t, beq_self_eq_true, mK_wI, mK_wL, mK_wR, mK_wIr, mK_wLr, mN_wI, mN_wL, mN_wR, mN_wIr, mN_wLr, mR_wI, mR_wL, mR_wIr, mR_wLr, mI_wL, mI_wR, mI_wLr, mL_wI, mL_wR, mL_wIr, i36, i300, sk_31 hS, sk_35 hS, sk_36 hS, sk_37 hS, sn_36 hS, sn_37 hS, sr_35_0 hS, sr_35_1 hS, pK4 hS hP, pA5 hS hP, pK6 hS hP, pN6 hS hP, hA.1, hw, g1, g2]
    rw [show Int32.toInt64 (nI (G i)) * 300 + Int32.toInt64 (nI (G (δ i l))) = zkeyW G δ l i from rfl, r1]
    simp (disch := omega) only [q_eM, q_Me, q_Mlt, q_Mle, q_leM, q_ltM, q_le, q_nle, q_lt, q_nlt, q_neq, zin_nI, nI_clamp, nI_add, pk_mul, pk_sub, mI_e, mI_n, mL_e, mL_n, mR_e, mR_n, i0, i1, ↓reduceIte, ↓bI_t, ↓bI_f, Bool.false_eq_true, eq_self, chk_true, bnd_just, bnd2_just, app_t, beq_self_eq_true, mK_wI, mK_wL, mK_wR, mK_wIr, mK_wLr, mN_wI, mN_wL, mN_wR, mN_wIr, mN_wLr, mR_wI, mR_wL, mR_wIr, mR_wLr, mI_wL, mI_wR, mI_wLr, mL_wI, mL_wR, mL_wIr, sk_37 hS1, sn_37 hS1]
    exact t1
theorem c_way {P n : Nat} (hP : isP P) {δ : Nat → Nat → Nat} {g : Nat → Bool} {M : zM} (hS : Sta M) (hA : AutD M P n δ g) {ks : List Int64} (hR : RegS M ks) {G : Nat → Nat} (hG : Grp M G n) {l : Nat} (hl : l < 36) (N : Nat) (hN : 1500 ≤ N) :
    ∃ M' G', fX2_groupByWay N M 35 (P + 4) (nI l) 31 = some (nI (cntB (newB G') n), M') ∧ zGF M M' ∧ (∃ ks', RegS M' ks') ∧ Grp M' G' n ∧ ∀ s t, s < n → t < n → (G' s = G' t ↔ (G s = G t ∧ G (δ s l) = G (δ t l))) := by
  obtain ⟨M0, r1, r2, r3⟩ := c_forget hS hR N (by omega)
  have hGF := zGF.r4 r2
  have hn := hA.2.2.1
  have hG0 : Grp M0 G n := fun s hs => by rw [(r2.2.2 36 (by omega) s).1]; exact hG s hs
  obtain ⟨M', r', t1, t2, t3, t4⟩ := c_gw hP hl (G := G) n 0 N M0 (fun _ => 0) (hGF.sta hS) (hGF.aut hP hA) hG0 (NumI_0 r3 _ _) (fun s hs => by omega) (by omega) (by omega)
  refine ⟨M', r', ?_, hGF.tr t2, t3.reg, t4, fun s t hs ht => by rw [t3.eq s t hs ht, keyW_eq (hG s hs).2 (hG _ (hA.2.2.2.2 s l hs hl).2).2 (hG t ht).2 (hG _ (hA.2.2.2.2 t l ht hl).2).2]⟩
  unfold fX2_groupByWay
  simp only [chk_true, bnd_just, bnd2_just, app_t, beq_self_eq_true, mK_wI, mK_wL, mK_wR, mK_wIr, mK_wLr, mN_wI, mN_wL, mN_wR, mN_wIr, mN_wLr, mR_wI, mR_wL, mR_wIr, mR_wLr, mI_wL, mI_wR, mI_wLr, mL_wI, mL_wR, mL_wIr, sk_31 hS, r1, i0]
  exact t1
theorem cnt_ref {G H : Nat → Nat} {n : Nat} (hr : ∀ s t, s < n → t < n → H s = H t → G s = G t) : cntB (newB G) n ≤ cntB (newB H) n :=
  cntB_le (fun i hi q => newB_t.mpr (fun t ht q2 => newB_t.mp q t ht (hr t i (by omega) hi q2)))
theorem c_round {P n : Nat} (hP : isP P) {δ : Nat → Nat → Nat} {g : Nat → Bool} (k10 : zM → Nat → Nat → Nat → Int32 → Int32 → Option (Int32 × zM)) {rd c0 : Nat} (hrd : rd ≤ 300) (hc0 : c0 ≤ 300) : ∀ (m l fuel : Nat) (M : zM) (G : Nat → Nat) (ks : List Int64), Sta M → AutD M P n δ g → RegS M ks → Grp M G n → l + m = 36 → m + 1600 < fuel →
    ∃ M' G', fX2_countGroups_25 k10 fuel M 35 (P + 4) 31 (nI (cntB (newB G) n)) (nI rd) (nI c0) (nI l) = (if cntB (newB G') n = c0 then some (nI c0, M') else k10 M' 35 (P + 4) 31 (nI (cntB (newB G') n)) (nI (rd + 1))) ∧ zGF M M' ∧ (∃ ks', RegS M' ks') ∧ Grp M' G' n ∧ (∀ s t, s < n → t < n → G' s = G' t → G s = G t) ∧ ((∀ s t, s < n → t < n → Eqv δ g s t → G s = G t) → ∀ s t, s < n → t < n → Eqv δ g s t → G' s = G' t) ∧ (cntB (newB G') n = cntB (newB G) n → ∀ l', l ≤ l' → l' < 36 → ∀ s t, s < n → t < n → G s = G t → G (δ s l') = G (δ t l')) := by
  intro m
  induction m with
  | zero =>
    intro l fuel M G ks hS hA hR hG hl hf
    obtain ⟨f, rfl⟩ := suc fuel (by omega)
    have hl36 : l = 36 := by omega
    subst hl36
    have hn := hA.2.2.1
    have hcn := cntB_n (newB G) n
    refine ⟨M, G, ?_, zGF.rf, ⟨ks, hR⟩, hG, fun s t _ _ q => q, fun q => q, fun _ l' h1 h2 => by omega⟩
    rw [fX2_countGroups_25]
    by_cases hc : cntB (newB G) n = c0
    · rw [if_pos hc, hc]
      simp (disch := omega) only [q_eM, q_Me, q_Mlt, q_Mle, q_leM, q_ltM, q_le, q_nle, q_lt, q_nlt, q_neq, zin_nI, nI_clamp, nI_add, pk_mul, pk_sub, mI_e, mI_n, mL_e, mL_n, mR_e, mR_n, i0, i1, ↓reduceIte, ↓bI_t, ↓bI_f, Bool.false_eq_true, eq_self, chk_true, bnd_just, bnd2_just, app_t, beq_self_eq_true, mK_wI, mK_wL, mK_wR, mK_wIr, mK_wLr, mN_wI, mN_wL, mN_wR, mN_wIr, mN_wLr, mR_wI, mR_wL, mR_wIr, mR_wLr, mI_wL, mI_wR, mI_wLr, mL_wI, mL_wR, mL_wIr, i36]
    · rw [if_neg hc]
      simp (disch := omega) only [q_eM, q_Me, q_Mlt, q_Mle, q_leM, q_ltM, q_le, q_nle, q_lt, q_nlt, q_neq, zin_nI, nI_clamp, nI_add, pk_mul, pk_sub, mI_e, mI_n, mL_e, mL_n, mR_e, mR_n, i0, i1, ↓reduceIte, ↓bI_t, ↓bI_f, Bool.false_eq_true, eq_self, chk_true, bnd_just, bnd2_just, app_t, beq_self_eq_true, mK_wI, mK_wL, mK_wR, mK_wIr, mK_wLr, mN_wI, mN_wL, mN_wR, mN_wIr, mN_wLr, mR_wI, mR_wL, mR_wIr, mR_wLr, mI_wL, mI_wR, mI_wLr, mL_wI, mL_wR, mL_wIr, i36]
  | succ m ih =>
    intro l fuel M G ks hS hA hR hG hl hf
    obtain ⟨f, rfl⟩ := suc fuel (by omega)
    obtain ⟨M1, G1, r1, r2, ⟨ks1, r3⟩, r4, r5⟩ := c_way hP hS hA hR hG (l := l) (by omega) f (by omega)
    have hS1 := r2.sta hS
    obtain ⟨M', G', t1, t2, t3, t4, t5, t6, t7⟩ := ih (l + 1) f M1 G1 ks1 hS1 (r2.aut hP hA) r3 r4 (by omega) (by omega)
    have hδ := fun s l' hs hl' => (hA.2.2.2.2 s l' hs hl').2
    refine ⟨M', G', ?_, r2.tr t2, t3, t4, fun s t hs ht q => ((r5 s t hs ht).mp (t5 s t hs ht q)).1, fun q s t hs ht e => ?_, fun hc l' h1 h2 s t hs ht q => ?_⟩
    · rw [fX2_countGroups_25]
      simp (disch := omega) only [q_eM, q_Me, q_Mlt, q_Mle, q_leM, q_ltM, q_le, q_nle, q_lt, q_nlt, q_neq, zin_nI, nI_clamp, nI_add, pk_mul, pk_sub, mI_e, mI_n, mL_e, mL_n, mR_e, mR_n, i0, i1, ↓reduceIte, ↓bI_t, ↓bI_f, Bool.false_eq_true, eq_self, chk_true, bnd_just, bnd2_just, app_t, beq_self_eq_true, mK_wI, mK_wL, mK_wR, mK_wIr, mK_wLr, mN_wI, mN_wL, mN_wR, mN_wIr, mN_wLr, mR_wI, mR_wL, mR_wIr, mR_wLr, mI_wL, mI_wR, mI_wLr, mL_wI, mL_wR, mL_wIr, i36, sk_35 hS, r1]
      exact t1
    · exact t6 (fun s t hs ht e2 => (r5 s t hs ht).mpr ⟨q s t hs ht e2, q _ _ (hδ s l hs (by omega)) (hδ t l ht (by omega)) (e2.step (by omega))⟩) s t hs ht e
    · have c1 : cntB (newB G) n ≤ cntB (newB G1) n := cnt_ref (fun s t hs ht q => ((r5 s t hs ht).mp q).1)
      have c2 : cntB (newB G1) n ≤ cntB (newB G') n := cnt_ref t5
      have hsame := same_part (fun s t hs ht q => ((r5 s t hs ht).mp q).1) (show cntB (newB G) n = cntB (newB G1) n by omega)
      have q1 := hsame t s hs ht q
      by_cases hll : l' = l
      · subst hll
        exact ((r5 s t hs ht).mp q1).2
      · have := t7 (by omega) l' (by omega) h2 s t hs ht q1
        exact ((r5 _ _ (hδ s l' hs h2) (hδ t l' ht h2)).mp this).1
theorem c_rounds {P n : Nat} (hP : isP P) {δ : Nat → Nat → Nat} {g : Nat → Bool} : ∀ (m rd fuel : Nat) (M : zM) (G : Nat → Nat) (ks : List Int64), Sta M → AutD M P n δ g → RegS M ks → Grp M G n → (∀ s t, s < n → t < n → G s = G t → g s = g t) → (∀ s t, s < n → t < n → Eqv δ g s t → G s = G t) → rd + 1 ≤ cntB (newB G) n → rd + m = n → m + 1700 < fuel →
    ∃ M' c, fX2_countGroups_10 fuel M 35 (P + 4) 31 (nI (cntB (newB G) n)) (nI rd) = some (nI c, M') ∧ zGF M M' ∧ (∃ ks', RegS M' ks') ∧ c ≤ 300 ∧ NCls n δ g c := by
  intro m
  induction m with
  | zero =>
    intro rd fuel M G ks hS hA hR hG hgo hco hrd zhm' hf
    have := cntB_n (newB G) n
    omega
  | succ m ih =>
    intro rd fuel M G ks hS hA hR hG hgo hco hrd zhm' hf
    obtain ⟨f, rfl⟩ := suc fuel (by omega)
    have hn := hA.2.2.1
    have hcn := cntB_n (newB G) n
    have hδ := fun s l' hs hl' => (hA.2.2.2.2 s l' hs hl').2
    obtain ⟨M1, G1, r1, r2, ⟨ks1, r3⟩, r4, r5, r6, r7⟩ := c_round hP (fX2_countGroups_10 f) (rd := rd) (c0 := cntB (newB G) n) (by omega) (by omega) 36 0 f M G ks hS hA hR hG (by omega) (by omega)
    have e1 : fX2_countGroups_10 (f + 1) M 35 (P + 4) 31 (nI (cntB (newB G) n)) (nI rd) = fX2_countGroups_25 (fX2_countGroups_10 f) f M 35 (P + 4) 31 (nI (cntB (newB G) n)) (nI rd) (nI (cntB (newB G) n)) (nI 0) := by
      rw [fX2_countGroups_10]
      simp (disch := omega) only [q_eM, q_Me, q_Mlt, q_Mle, q_leM, q_ltM, q_le, q_nle, q_lt, q_nlt, q_neq, zin_nI, nI_clamp, nI_add, pk_mul, pk_sub, mI_e, mI_n, mL_e, mL_n, mR_e, mR_n, i0, i1, ↓reduceIte, ↓bI_t, ↓bI_f, Bool.false_eq_true, eq_self, chk_true, bnd_just, bnd2_just, app_t, beq_self_eq_true, mK_wI, mK_wL, mK_wR, mK_wIr, mK_wLr, mN_wI, mN_wL, mN_wR, mN_wIr, mN_wLr, mR_wI, mR_wL, mR_wIr, mR_wLr, mI_wL, mI_wR, mI_wLr, mL_wI, mL_wR, mL_wIr, pK4 hS hP, hA.1]
    rw [e1, r1]
    by_cases hc : cntB (newB G1) n = cntB (newB G) n
    · rw [if_pos hc]
      refine ⟨M1, _, rfl, r2, ⟨ks1, r3⟩, by omega, NCls_of (fun s t hs ht => ⟨fun q => ?_, hco s t hs ht⟩)⟩
      exact fun w hw => Eqv_bis hδ (R := fun s t => G s = G t) hgo (fun s t l hs ht hl q => r7 hc l (by omega) hl s t hs ht q) w s t hw hs ht q
    · rw [if_neg hc]
      have hle := cnt_ref r5
      obtain ⟨M', c, t1, t2, t3⟩ := ih (rd + 1) f M1 G1 ks1 (r2.sta hS) (r2.aut hP hA) r3 r4 (fun s t hs ht q => hgo s t hs ht (r5 s t hs ht q)) (r6 hco) (by omega) (by omega) (by omega)
      exact ⟨M', c, t1, r2.tr t2, t3⟩
theorem c_count {P n : Nat} (hP : isP P) {δ : Nat → Nat → Nat} {g : Nat → Bool} {M : zM} (hS : Sta M) (hA : AutD M P n δ g) {ks : List Int64} (hR : RegS M ks) (N : Nat) (hN : 2100 ≤ N) :
    ∃ M' c, fX2_countGroups N M 35 (P + 4) 31 = some (nI c, M') ∧ zGF M M' ∧ (∃ ks', RegS M' ks') ∧ c ≤ 300 ∧ NCls n δ g c := by
  have hn := hA.2.2.1
  have hn1 := hA.2.1
  obtain ⟨M1, G, r1, r2, ⟨ks1, r3⟩, r4, r5⟩ := c_good hP hS hA hR N (by omega)
  obtain ⟨M', c, t1, t2, t3⟩ := c_rounds hP n 0 N M1 G ks1 (r2.sta hS) (r2.aut hP hA) r3 r4 (fun s t hs ht q => (r5 s t hs ht).mp q) (fun s t hs ht q => (r5 s t hs ht).mpr q.good) (cntB_pos (by omega) (newB_t.mpr (fun t ht => by omega))) (by omega) (by omega)
  refine ⟨M', c, ?_, r2.tr t2, t3⟩
  unfold fX2_countGroups
  simp only [chk_true, bnd_just, bnd2_just, app_t, beq_self_eq_true, mK_wI, mK_wL, mK_wR, mK_wIr, mK_wLr, mN_wI, mN_wL, mN_wR, mN_wIr, mN_wLr, mR_wI, mR_wL, mR_wIr, mR_wLr, mI_wL, mI_wR, mI_wLr, mL_wI, mL_wR, mL_wIr, sk_35 hS, r1, i0]
  exact t1
end ZCCLS
