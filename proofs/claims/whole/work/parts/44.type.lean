/-! type: both sides -/
section ZTYPE
theorem wIs (M : zM) (a k : Nat) (v : Int32) : mI (wI M a k v) a k = v := if_pos ⟨rfl, rfl⟩
theorem wLs (M : zM) (a k : Nat) (v : Int64) : mL (wL M a k v) a k = v := if_pos ⟨rfl, rfl⟩
/-- what is typed: the class's row, the model's -/
def TypC (M : zM) (cs : List Nat) : Prop := mI M 2 0 = nI cs.length ∧ cs.length ≤ 200 ∧ (∀ i, i < cs.length → mI M 3 i = nI (cs.getD i 0)) ∧ ∀ c ∈ cs, c < 256
def TypM (M : zM) (cs : List Nat) : Prop := mI M 68 2 = nI cs.length ∧ cs.length ≤ 200 ∧ (∀ i, i < cs.length → mI M 69 i = nI (cs.getD i 0)) ∧ ∀ c ∈ cs, c < 256
theorem getD_app {cs : List Nat} {x i : Nat} (h : i < cs.length + 1) : (cs ++ [x]).getD i 0 = if i = cs.length then x else cs.getD i 0 := by
  simp only [List.getD_eq_getElem?_getD, List.getElem?_append]
  by_cases h1 : i < cs.length
  · rw [if_pos h1, if_neg (by omega)]
  · have e : i = cs.length := by omega
    subst e
    simp
def chs (w : Int64) (i m : Nat) : List Nat := (List.range m).map (fun j => chr w (i + j))
theorem chs_s (w : Int64) (i m : Nat) : chs w i (m + 1) = chr w i :: chs w (i + 1) m := by
  unfold chs
  rw [List.range_succ_eq_map, List.map_cons, List.map_map]
  congr 1
  exact List.map_congr_left (fun j _ => by show chr w (i + (j + 1)) = chr w (i + 1 + j); congr 1; omega)
theorem chs_len (w : Int64) (i m : Nat) : (chs w i m).length = m := by simp [chs]
theorem app_c : ∀ (m n i fuel : Nat) (M : zM) (cs : List Nat) (w : Int64), Sta M → TypC M cs → i + m = n → n ≤ 8 → cs.length + m ≤ 200 → m < fuel →
    ∃ M', fX6_append_3 fuel M 2 w (nI n) (nI i) = some ((), M') ∧ Ch [2, 3] M M' ∧ (∀ k, k ≠ 0 → mI M' 2 k = mI M 2 k) ∧ TypC M' (cs ++ chs w i m) := by
  intro m
  induction m with
  | zero =>
    intro n i fuel M cs w hS hT hi hn hl hf
    obtain ⟨f, rfl⟩ : ∃ f, fuel = f + 1 := ⟨fuel - 1, by omega⟩
    refine ⟨M, ?_, Ch.rf, fun _ _ => rfl, by simpa [chs] using hT⟩
    rw [fX6_append_3, if_pos (by rw [nle (by omega) (by omega)]; omega)]
  | succ m ih =>
    intro n i fuel M cs w hS hT hi hn hl hf
    obtain ⟨f, rfl⟩ : ∃ f, fuel = f + 1 := ⟨fuel - 1, by omega⟩
    obtain ⟨t1, t2, t3, t4⟩ := hT
    have hx : i < 8 := by omega
    have e1 : fX6_append_3 (f + 1) M 2 w (nI n) (nI i) = fX6_append_3 f (wI (wI M 3 cs.length (nI (chr w i))) 2 0 (nI (cs.length + 1))) 2 w (nI n) (nI (i + 1)) := by
      rw [fX6_append_3, if_neg (by rw [nle (by omega) (by omega)]; omega), t1]
      simp only [chk_true, bnd_just, bnd2_just, app_t, beq_self_eq_true, mK_wI, mK_wL, mK_wR, mK_wIr, mK_wLr, mN_wI, mN_wL, mN_wR, mN_wIr, mN_wLr, mR_wI, mR_wL, mR_wIr, mR_wLr, mI_wL, mI_wR, mI_wLr, mL_wI, mL_wR, mL_wIr, sk_2 hS, sk_3 hS, sn_3 hS, sr_2_2 hS]
      rw [i200, if_neg (by rw [nle (by omega) (by omega)]; omega), f_byteOf _ _ _ hx]
      simp only [chk_true, bnd_just, bnd2_just, app_t, beq_self_eq_true, mK_wI, mK_wL, mK_wR, mK_wIr, mK_wLr, mN_wI, mN_wL, mN_wR, mN_wIr, mN_wLr, mR_wI, mR_wL, mR_wIr, mR_wLr, mI_wL, mI_wR, mI_wLr, mL_wI, mL_wR, mL_wIr, sk_2 hS, sk_3 hS, sn_3 hS, sr_2_2 hS, mI_wI]
      rw [zin_nI (by omega) (by omega), nI_clamp (by omega)]
      simp only [chk_true, bnd_just, bnd2_just, app_t, beq_self_eq_true, mK_wI, mK_wL, mK_wR, mK_wIr, mK_wLr, mN_wI, mN_wL, mN_wR, mN_wIr, mN_wLr, mR_wI, mR_wL, mR_wIr, mR_wLr, mI_wL, mI_wR, mI_wLr, mL_wI, mL_wR, mL_wIr]
      rw [if_neg (show ¬ (2 = 3 ∧ 0 = cs.length) from fun q => absurd q.1 (by decide)), t1, nI_1, nI_1]
    have hT' : TypC (wI (wI M 3 cs.length (nI (chr w i))) 2 0 (nI (cs.length + 1))) (cs ++ [chr w i]) := by
      refine ⟨by rw [mI_wI, if_pos ⟨rfl, rfl⟩]; simp, by simp; omega, fun j hj => ?_, fun c hc => ?_⟩
      · rw [List.length_append, List.length_singleton] at hj
        rw [getD_app hj, mI_wI, if_neg (fun q => absurd q.1 (by decide)), mI_wI]
        by_cases h : j = cs.length
        · rw [if_pos ⟨rfl, h⟩, if_pos h]
        · rw [if_neg (fun q => h q.2), if_neg h]; exact t3 j (by omega)
      · rcases List.mem_append.mp hc with q | q
        · exact t4 c q
        · rw [List.mem_singleton] at q; rw [q]; exact chr_lt w i
    obtain ⟨M', r1, r2, r3, r4⟩ := ih n (i + 1) f _ (cs ++ [chr w i]) w (Sta_wI (Sta_wI hS _ _ _) _ _ _) hT' (by omega) hn (by simp; omega) (by omega)
    refine ⟨M', e1.trans r1, ((Ch.rf.wI (by decide) _ _).wI (by decide) _ _).tr r2, fun k hk => ?_, ?_⟩
    · rw [r3 k hk, mI_wI, if_neg (fun q => hk q.2), mI_wI, if_neg (fun q => absurd q.1 (by decide))]
    · rw [chs_s]; simpa using r4
theorem c_type {M : zM} {cs : List Nat} (hS : Sta M) (hT : TypC M cs) (N : Nat) (hN : 9 ≤ N) (w : Int64) (v : Int32) :
    (¬ (1 ≤ v ∧ v ≤ 8) ∧ fX9_type N M 1 w v = some (.inr "java/lang/IllegalArgumentException", M)) ∨
    (∃ n, 1 ≤ n ∧ n ≤ 8 ∧ v = nI n ∧ ((200 < cs.length + n ∧ fX9_type N M 1 w v = some (.inr "java/lang/IllegalStateException", M)) ∨
      (cs.length + n ≤ 200 ∧ ∃ M', fX9_type N M 1 w v = some (.inl (nI (cs.length + n)), M') ∧ Ch [2, 3] M M' ∧ (∀ k, k ≠ 0 → mI M' 2 k = mI M 2 k) ∧ TypC M' (cs ++ chs w 0 n)))) := by
  by_cases h1 : v < 1
  · refine Or.inl ⟨fun q => ?_, by unfold fX9_type; rw [if_pos h1]⟩
    have a1 := Int32.lt_iff_toInt_lt.mp h1
    have a2 := Int32.le_iff_toInt_le.mp q.1
    omega
  · by_cases h2 : v ≤ 8
    · obtain ⟨n, hn, rfl⟩ := nI_of2 (x := v) (M := 8) (n := 8) (by decide) (fun q => h1 (by
        have a1 := Int32.lt_iff_toInt_lt.mp q
        rw [Int32.lt_iff_toInt_lt]
        have : (1 : Int32).toInt = 1 := by decide
        have : (0 : Int32).toInt = 0 := by decide
        omega)) h2
      have hn1 : 1 ≤ n := by
        rw [i1, nlt (by omega) (by omega)] at h1
        omega
      refine Or.inr ⟨n, hn1, hn, rfl, ?_⟩
      obtain ⟨t1, t2, t3, t4⟩ := id hT
      have e0 : (mI M 2 0 + nI n) ≤ (200 : Int32) ↔ cs.length + n ≤ 200 := by rw [t1, nI_add, i200]; exact nI_leI (by omega) (by omega)
      by_cases h3 : cs.length + n ≤ 200
      · refine Or.inr ⟨h3, ?_⟩
        obtain ⟨M', r1, r2, r3, r4⟩ := app_c n n 0 N M cs w hS hT (by omega) hn h3 (by omega)
        refine ⟨M', ?_, r2, r3, r4⟩
        have hS' := r2.sta hS
        unfold fX9_type fX6_append
        rw [if_neg h1, if_pos h2]
        simp only [chk_true, bnd_just, bnd2_just, app_t, beq_self_eq_true, mK_wI, mK_wL, mK_wR, mK_wIr, mK_wLr, mN_wI, mN_wL, mN_wR, mN_wIr, mN_wLr, mR_wI, mR_wL, mR_wIr, mR_wLr, mI_wL, mI_wR, mI_wLr, mL_wI, mL_wR, mL_wIr, sk_1 hS, sk_2 hS, sr_1_0 hS]
        rw [if_pos (e0.mpr h3), i0, r1]
        simp only [chk_true, bnd_just, bnd2_just, app_t, beq_self_eq_true, mK_wI, mK_wL, mK_wR, mK_wIr, mK_wLr, mN_wI, mN_wL, mN_wR, mN_wIr, mN_wLr, mR_wI, mR_wL, mR_wIr, mR_wLr, mI_wL, mI_wR, mI_wLr, mL_wI, mL_wR, mL_wIr, sk_1 hS', sk_2 hS', sr_1_0 hS']
        rw [r4.1, List.length_append, chs_len]
      · refine Or.inl ⟨by omega, ?_⟩
        unfold fX9_type
        rw [if_neg h1, if_pos h2]
        simp only [chk_true, bnd_just, bnd2_just, app_t, beq_self_eq_true, mK_wI, mK_wL, mK_wR, mK_wIr, mK_wLr, mN_wI, mN_wL, mN_wR, mN_wIr, mN_wLr, mR_wI, mR_wL, mR_wIr, mR_wLr, mI_wL, mI_wR, mI_wLr, mL_wI, mL_wR, mL_wIr, sk_1 hS, sk_2 hS, sr_1_0 hS]
        rw [if_neg (fun q => h3 (e0.mp q))]
    · refine Or.inl ⟨fun q => h2 q.2, by unfold fX9_type; rw [if_neg h1, if_neg h2]⟩
/-- the model's row of typed characters grows -/
theorem app_m : ∀ (m n i fuel : Nat) (M : zM) (cs : List Nat) (w : Int64), Sta M → TypM M cs → i + m = n → n ≤ 8 → cs.length + m ≤ 200 → m < fuel →
    ∃ M', fX10_type_48 fuel M 68 w (nI n) (nI i) = some (nI (cs.length + m), M') ∧ Ch [68, 69] M M' ∧ (∀ k, k ≠ 2 → mI M' 68 k = mI M 68 k) ∧ TypM M' (cs ++ chs w i m) := by
  intro m
  induction m with
  | zero =>
    intro n i fuel M cs w hS hT hi hn hl hf
    obtain ⟨f, rfl⟩ : ∃ f, fuel = f + 1 := ⟨fuel - 1, by omega⟩
    refine ⟨M, ?_, Ch.rf, fun _ _ => rfl, by simpa [chs] using hT⟩
    rw [fX10_type_48, if_pos (by rw [nle (by omega) (by omega)]; omega)]
    simp only [chk_true, bnd_just, bnd2_just, app_t, beq_self_eq_true, mK_wI, mK_wL, mK_wR, mK_wIr, mK_wLr, mN_wI, mN_wL, mN_wR, mN_wIr, mN_wLr, mR_wI, mR_wL, mR_wIr, mR_wLr, mI_wL, mI_wR, mI_wLr, mL_wI, mL_wR, mL_wIr, sk_68 hS]
    rw [hT.1]; rfl
  | succ m ih =>
    intro n i fuel M cs w hS hT hi hn hl hf
    obtain ⟨f, rfl⟩ : ∃ f, fuel = f + 1 := ⟨fuel - 1, by omega⟩
    obtain ⟨t1, t2, t3, t4⟩ := hT
    have hx : i < 8 := by omega
    have e1 : fX10_type_48 (f + 1) M 68 w (nI n) (nI i) = fX10_type_48 f (wI (wI M 69 cs.length (nI (chr w i))) 68 2 (nI (cs.length + 1))) 68 w (nI n) (nI (i + 1)) := by
      rw [fX10_type_48, if_neg (by rw [nle (by omega) (by omega)]; omega), t1, m_byte w hx]
      simp only [chk_true, bnd_just, bnd2_just, app_t, beq_self_eq_true, mK_wI, mK_wL, mK_wR, mK_wIr, mK_wLr, mN_wI, mN_wL, mN_wR, mN_wIr, mN_wLr, mR_wI, mR_wL, mR_wIr, mR_wLr, mI_wL, mI_wR, mI_wLr, mL_wI, mL_wR, mL_wIr, sk_68 hS, sk_69 hS, sn_69 hS, sr_68_1 hS, mI_wI]
      rw [zin_nI (by omega) (by omega), nI_clamp (by omega)]
      simp only [chk_true, bnd_just, bnd2_just, app_t, beq_self_eq_true, mK_wI, mK_wL, mK_wR, mK_wIr, mK_wLr, mN_wI, mN_wL, mN_wR, mN_wIr, mN_wLr, mR_wI, mR_wL, mR_wIr, mR_wLr, mI_wL, mI_wR, mI_wLr, mL_wI, mL_wR, mL_wIr]
      rw [if_neg (show ¬ (68 = 69 ∧ 2 = cs.length) from fun q => absurd q.1 (by decide)), t1, nI_1, nI_1]
    have hT' : TypM (wI (wI M 69 cs.length (nI (chr w i))) 68 2 (nI (cs.length + 1))) (cs ++ [chr w i]) := by
      refine ⟨by rw [mI_wI, if_pos ⟨rfl, rfl⟩]; simp, by simp; omega, fun j hj => ?_, fun c hc => ?_⟩
      · rw [List.length_append, List.length_singleton] at hj
        rw [getD_app hj, mI_wI, if_neg (fun q => absurd q.1 (by decide)), mI_wI]
        by_cases h : j = cs.length
        · rw [if_pos ⟨rfl, h⟩, if_pos h]
        · rw [if_neg (fun q => h q.2), if_neg h]; exact t3 j (by omega)
      · rcases List.mem_append.mp hc with q | q
        · exact t4 c q
        · rw [List.mem_singleton] at q; rw [q]; exact chr_lt w i
    obtain ⟨M', r1, r2, r3, r4⟩ := ih n (i + 1) f _ (cs ++ [chr w i]) w (Sta_wI (Sta_wI hS _ _ _) _ _ _) hT' (by omega) hn (by simp; omega) (by omega)
    refine ⟨M', e1.trans (r1.trans (by rw [List.length_append, List.length_singleton, Nat.add_assoc, Nat.add_comm 1 m])), ((Ch.rf.wI (by decide) _ _).wI (by decide) _ _).tr r2, fun k hk => ?_, ?_⟩
    · rw [r3 k hk, mI_wI, if_neg (fun q => hk q.2), mI_wI, if_neg (fun q => absurd q.1 (by decide))]
    · rw [chs_s]; simpa using r4
theorem TypM_code {M : zM} {cs : List Nat} (h : TypM M cs) (x : Int32) : TypM (wI M 68 0 x) cs := by
  obtain ⟨t1, t2, t3, t4⟩ := h
  exact ⟨by rw [mI_wI, if_neg (fun q => absurd q.2 (by decide))]; exact t1, t2, fun i hi => by rw [mI_wI, if_neg (fun q => absurd q.1 (by decide))]; exact t3 i hi, t4⟩
theorem m_type {M : zM} {cs : List Nat} (hS : Sta M) (hT : TypM M cs) (N : Nat) (hN : 9 ≤ N) (w : Int64) (v : Int32) :
    (¬ (1 ≤ v ∧ v ≤ 8) → fX10_type N M 68 w v = some (0, wI M 68 0 1)) ∧
    (∀ n, 1 ≤ n → n ≤ 8 → v = nI n → (200 < cs.length + n → fX10_type N M 68 w v = some (0, wI M 68 0 2)) ∧
      (cs.length + n ≤ 200 → ∃ M', fX10_type N M 68 w v = some (nI (cs.length + n), M') ∧ Ch [68, 69] M M' ∧ mI M' 68 0 = 0 ∧ (∀ k, k ≠ 0 → k ≠ 2 → mI M' 68 k = mI M 68 k) ∧ TypM M' (cs ++ chs w 0 n))) := by
  constructor
  · intro h
    have e12 : fX10_type_12 N M 68 w v 68 = some (0, wI M 68 0 1) := by
      unfold fX10_type_12 fX10_type_33
      simp only [chk_true, bnd_just, bnd2_just, app_t, beq_self_eq_true, mK_wI, mK_wL, mK_wR, mK_wIr, mK_wLr, mN_wI, mN_wL, mN_wR, mN_wIr, mN_wLr, mR_wI, mR_wL, mR_wIr, mR_wLr, mI_wL, mI_wR, mI_wLr, mL_wI, mL_wR, mL_wIr, sk_68 hS, wIs]
      rw [if_neg (by decide)]
    unfold fX10_type
    by_cases h1 : v < 1
    · rw [if_pos h1, e12]
    · rw [if_neg h1]
      by_cases h2 : v ≤ 8
      · refine absurd ⟨?_, h2⟩ h
        rw [Int32.le_iff_toInt_le]
        rw [Int32.lt_iff_toInt_lt] at h1
        omega
      · rw [if_neg h2, e12]
  · rintro n h1 h2 rfl
    obtain ⟨t1, t2, t3, t4⟩ := id hT
    have a1 : ¬ nI n < 1 := by rw [i1, nlt (by omega) (by omega)]; omega
    have a2 : nI n ≤ 8 := by rw [i8, nle (by omega) (by omega)]; omega
    constructor
    · intro h
      unfold fX10_type fX10_type_33
      rw [if_neg a1, if_pos a2]
      simp only [chk_true, bnd_just, bnd2_just, app_t, beq_self_eq_true, mK_wI, mK_wL, mK_wR, mK_wIr, mK_wLr, mN_wI, mN_wL, mN_wR, mN_wIr, mN_wLr, mR_wI, mR_wL, mR_wIr, mR_wLr, mI_wL, mI_wR, mI_wLr, mL_wI, mL_wR, mL_wIr, sk_68 hS, wIs]
      rw [t1, nI_add, i200, if_neg (by rw [nle (by omega) (by omega)]; omega), if_neg (by decide)]
    · intro h
      obtain ⟨M', r1, r2, r3, r4⟩ := app_m n n 0 N (wI M 68 0 0) cs w (Sta_wI hS _ _ _) (TypM_code hT 0) (by omega) h2 h (by omega)
      refine ⟨M', ?_, (Ch.rf.wI (by decide) _ _).tr r2, ?_, fun k hk hk2 => ?_, r4⟩
      · unfold fX10_type fX10_type_33
        rw [if_neg a1, if_pos a2]
        simp only [chk_true, bnd_just, bnd2_just, app_t, beq_self_eq_true, mK_wI, mK_wL, mK_wR, mK_wIr, mK_wLr, mN_wI, mN_wL, mN_wR, mN_wIr, mN_wLr, mR_wI, mR_wL, mR_wIr, mR_wLr, mI_wL, mI_wR, mI_wLr, mL_wI, mL_wR, mL_wIr, sk_68 hS, wIs]
        rw [t1, nI_add, i200, if_pos (by rw [nle (by omega) (by omega)]; omega), if_pos (by decide)]
        exact r1
      · rw [r3 0 (by decide), mI_wI, if_pos ⟨rfl, rfl⟩]
      · rw [r3 k hk2, mI_wI, if_neg (fun q => hk q.2)]
end ZTYPE
