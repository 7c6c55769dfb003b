/-! feed, clear, place -/
section ZFEED2
/-- a number of 1 .. 8, or not -/
theorem n18 (v : Int32) : (v < 1 ∨ 8 < v) ∨ ∃ n, 1 ≤ n ∧ n ≤ 8 ∧ v = nI n := by
  by_cases h1 : v < 1
  · exact Or.inl (Or.inl h1)
  · by_cases h2 : 8 < v
    · exact Or.inl (Or.inr h2)
    · refine Or.inr ?_
      have h3 : v ≤ 8 := by
        rw [Int32.lt_iff_toInt_lt] at h2
        rw [Int32.le_iff_toInt_le]; omega
      obtain ⟨n, hn, rfl⟩ := nI_of2 (x := v) (M := 8) (n := 8) (by decide) (fun q => h1 (by
        have a1 := Int32.lt_iff_toInt_lt.mp q
        rw [Int32.lt_iff_toInt_lt]
        have : (1 : Int32).toInt = 1 := by decide
        have : (0 : Int32).toInt = 0 := by decide
        omega)) h3
      refine ⟨n, ?_, hn, rfl⟩
      rw [i1, nlt (by omega) (by omega)] at h1
      omega
theorem n18a {n : Nat} (h1 : 1 ≤ n) (h2 : n ≤ 8) : ¬ nI n < 1 ∧ ¬ 8 < nI n ∧ nI n ≤ 8 := by
  refine ⟨?_, ?_, ?_⟩
  · rw [i1, nlt (by omega) (by omega)]; omega
  · rw [i8, nlt (by omega) (by omega)]; omega
  · rw [i8, nle (by omega) (by omega)]; omega
theorem n18b {v : Int32} (h : v < 1 ∨ 8 < v) : v < 1 ∨ (¬ v < 1 ∧ ¬ v ≤ 8 ∧ 8 < v) := by
  rcases h with h | h
  · exact Or.inl h
  · refine Or.inr ⟨?_, ?_, h⟩
    · rw [Int32.lt_iff_toInt_lt] at h ⊢
      have : (1 : Int32).toInt = 1 := by decide
      have : (8 : Int32).toInt = 8 := by decide
      omega
    · rw [Int32.lt_iff_toInt_lt] at h
      rw [Int32.le_iff_toInt_le]; omega
theorem c_feed {M : zM} {ts : List Nat} (hS : Sta M) (hT : TxtC M ts) (N : Nat) (hN : 9 ≤ N) (w : Int64) (v : Int32) :
    (((v < 1 ∨ 8 < v) ∨ ∃ n, 1 ≤ n ∧ n ≤ 8 ∧ v = nI n ∧ allL w 0 n = false) → fX9_feed N M 1 w v = some (.inr "java/lang/IllegalArgumentException", M)) ∧
    (∀ n, 1 ≤ n → n ≤ 8 → v = nI n → allL w 0 n = true → (200 < ts.length + n → fX9_feed N M 1 w v = some (.inr "java/lang/IllegalStateException", M)) ∧
      (ts.length + n ≤ 200 → ∃ M', fX9_feed N M 1 w v = some (.inl (nI (ts.length + n)), M') ∧ Ch [27, 30] M M' ∧ (∀ k, k ≠ 0 → k ≠ 5 → mI M' 27 k = mI M 27 k) ∧ mI M' 27 5 = 0 ∧ TxtC M' (ts ++ lts w 0 n))) := by
  constructor
  · rintro (h | ⟨n, h1, h2, rfl, ha⟩)
    · unfold fX9_feed
      rcases n18b h with h | ⟨h1, -, h2⟩
      · rw [if_pos h]
      · rw [if_neg h1, if_pos h2]
    · obtain ⟨a1, a2, -⟩ := n18a h1 h2
      unfold fX9_feed fX9_allLetters
      rw [if_neg a1, if_neg a2, i0, c_all n n 0 N M w (by omega) h2 (by omega), ha, bnd2_just, if_pos (by decide)]
  · rintro n h1 h2 rfl ha
    obtain ⟨a1, a2, -⟩ := n18a h1 h2
    obtain ⟨t1, t2, t3, t4⟩ := id hT
    have e0 : (mI M 27 0 + nI n) ≤ (200 : Int32) ↔ ts.length + n ≤ 200 := by rw [t1, nI_add, i200]; exact nI_leI (by omega) (by omega)
    have el : fX9_allLetters N M w (nI n) = some (bI (allL w 0 n), M) := by unfold fX9_allLetters; rw [i0]; exact c_all n n 0 N M w (by omega) h2 (by omega)
    constructor
    · intro h
      unfold fX9_feed
      rw [if_neg a1, if_neg a2, el, ha, bnd2_just, if_neg (by decide)]
      simp only [chk_true, bnd_just, bnd2_just, app_t, beq_self_eq_true, mK_wI, mK_wL, mK_wR, mK_wIr, mK_wLr, mN_wI, mN_wL, mN_wR, mN_wIr, mN_wLr, mR_wI, mR_wL, mR_wIr, mR_wLr, mI_wL, mI_wR, mI_wLr, mL_wI, mL_wR, mL_wIr, sk_1 hS, sk_27 hS, sr_1_1 hS]
      rw [if_neg (fun q => by have := e0.mp q; omega)]
    · intro h
      obtain ⟨M', r1, r2, r3, r5, r4⟩ := fd_c n n 0 N M ts w hS hT (by omega) h2 h (by omega) ha
      have hS' := r2.sta hS
      refine ⟨M', ?_, r2, r3, r5, r4⟩
      unfold fX9_feed
      rw [if_neg a1, if_neg a2, el, ha, bnd2_just, if_neg (by decide)]
      simp only [chk_true, bnd_just, bnd2_just, app_t, beq_self_eq_true, mK_wI, mK_wL, mK_wR, mK_wIr, mK_wLr, mN_wI, mN_wL, mN_wR, mN_wIr, mN_wLr, mR_wI, mR_wL, mR_wIr, mR_wLr, mI_wL, mI_wR, mI_wLr, mL_wI, mL_wR, mL_wIr, sk_1 hS, sk_27 hS, sr_1_1 hS]
      rw [if_pos (e0.mpr h)]
      unfold fX8_append
      rw [i0, r1]
      simp only [chk_true, bnd_just, bnd2_just, app_t, beq_self_eq_true, mK_wI, mK_wL, mK_wR, mK_wIr, mK_wLr, mN_wI, mN_wL, mN_wR, mN_wIr, mN_wLr, mR_wI, mR_wL, mR_wIr, mR_wLr, mI_wL, mI_wR, mI_wLr, mL_wI, mL_wR, mL_wIr, sk_1 hS', sk_27 hS', sr_1_1 hS']
      rw [r4.1, List.length_append, lts_len]
theorem c_clear {M : zM} {ts : List Nat} (hS : Sta M) (hT : TxtC M ts) (N : Nat) : fX9_clear N M 1 = some (nI ts.length, wI (wI M 27 0 0) 27 5 0) := by
  unfold fX9_clear fX8_cutOff
  simp only [chk_true, bnd_just, bnd2_just, app_t, beq_self_eq_true, mK_wI, mK_wL, mK_wR, mK_wIr, mK_wLr, mN_wI, mN_wL, mN_wR, mN_wIr, mN_wLr, mR_wI, mR_wL, mR_wIr, mR_wLr, mI_wL, mI_wR, mI_wLr, mL_wI, mL_wR, mL_wIr, sk_1 hS, sk_27 hS, sr_1_1 hS]
  rw [hT.1]
theorem c_place {M : zM} (hS : Sta M) (N : Nat) : fX9_place N M 1 = some (mI M 2 1, M) := by
  unfold fX9_place
  simp only [chk_true, bnd_just, bnd2_just, app_t, beq_self_eq_true, mK_wI, mK_wL, mK_wR, mK_wIr, mK_wLr, mN_wI, mN_wL, mN_wR, mN_wIr, mN_wLr, mR_wI, mR_wL, mR_wIr, mR_wLr, mI_wL, mI_wR, mI_wLr, mL_wI, mL_wR, mL_wIr, sk_1 hS, sk_2 hS, sr_1_0 hS]
theorem m_place {M : zM} (hS : Sta M) (N : Nat) : fX10_place N M 68 = some (mI M 68 5, wI M 68 0 0) := by
  unfold fX10_place
  simp only [chk_true, bnd_just, bnd2_just, app_t, beq_self_eq_true, mK_wI, mK_wL, mK_wR, mK_wIr, mK_wLr, mN_wI, mN_wL, mN_wR, mN_wIr, mN_wLr, mR_wI, mR_wL, mR_wIr, mR_wLr, mI_wL, mI_wR, mI_wLr, mL_wI, mL_wR, mL_wIr, sk_68 hS]
  rw [mI_wI, if_neg (fun q => absurd q.2 (by decide))]
theorem m_clear {M : zM} {ts : List Nat} (hS : Sta M) (hT : TxtM M ts) (N : Nat) : fX10_clear N M 68 = some (nI ts.length, wI (wI M 68 0 0) 68 4 0) := by
  unfold fX10_clear
  simp only [chk_true, bnd_just, bnd2_just, app_t, beq_self_eq_true, mK_wI, mK_wL, mK_wR, mK_wIr, mK_wLr, mN_wI, mN_wL, mN_wR, mN_wIr, mN_wLr, mR_wI, mR_wL, mR_wIr, mR_wLr, mI_wL, mI_wR, mI_wLr, mL_wI, mL_wR, mL_wIr, sk_68 hS]
  rw [mI_wI, if_neg (fun q => absurd q.2 (by decide)), hT.1]
theorem TxtM_code {M : zM} {ts : List Nat} (h : TxtM M ts) (x : Int32) : TxtM (wI M 68 0 x) ts := by
  obtain ⟨t1, t2, t3, t4⟩ := h
  exact ⟨by rw [mI_wI, if_neg (fun q => absurd q.2 (by decide))]; exact t1, t2, fun i hi => by rw [mI_wI, if_neg (fun q => absurd q.1 (by decide))]; exact t3 i hi, t4⟩
theorem fd_m : ∀ (m n i fuel : Nat) (M : zM) (ts : List Nat) (w : Int64), Sta M → TxtM M ts → i + m = n → n ≤ 8 → ts.length + m ≤ 200 → m < fuel → allL w i m = true →
    ∃ M', fX10_feed_112 fuel M 68 w (nI n) (nI i) = some (nI (ts.length + m), M') ∧ Ch [68, 70] M M' ∧ (∀ k, k ≠ 4 → mI M' 68 k = mI M 68 k) ∧ TxtM M' (ts ++ lts w i m) := by
  intro m
  induction m with
  | zero =>
    intro n i fuel M ts w hS hT hi hn hl hf ha
    obtain ⟨f, rfl⟩ : ∃ f, fuel = f + 1 := ⟨fuel - 1, by omega⟩
    refine ⟨M, ?_, Ch.rf, fun _ _ => rfl, by simpa [lts, chs] using hT⟩
    rw [fX10_feed_112, if_pos (by rw [nle (by omega) (by omega)]; omega)]
    simp only [chk_true, bnd_just, bnd2_just, app_t, beq_self_eq_true, mK_wI, mK_wL, mK_wR, mK_wIr, mK_wLr, mN_wI, mN_wL, mN_wR, mN_wIr, mN_wLr, mR_wI, mR_wL, mR_wIr, mR_wLr, mI_wL, mI_wR, mI_wLr, mL_wI, mL_wR, mL_wIr, sk_68 hS]
    rw [hT.1]; rfl
  | succ m ih =>
    intro n i fuel M ts w hS hT hi hn hl hf ha
    obtain ⟨f, rfl⟩ : ∃ f, fuel = f + 1 := ⟨fuel - 1, by omega⟩
    obtain ⟨t1, t2, t3, t4⟩ := hT
    rw [allL_s, Bool.and_eq_true] at ha
    obtain ⟨l, hlt⟩ := Option.isSome_iff_exists.mp ha.1
    have hx : i < 8 := by omega
    have e1 : fX10_feed_112 (f + 1) M 68 w (nI n) (nI i) = fX10_feed_112 f (wI (wI M 70 ts.length (nI l)) 68 4 (nI (ts.length + 1))) 68 w (nI n) (nI (i + 1)) := by
      rw [fX10_feed_112, if_neg (by rw [nle (by omega) (by omega)]; omega), t1, m_byte w hx, g_letterOf _ _ (chr_lt w i), lI_some hlt]
      simp only [chk_true, bnd_just, bnd2_just, app_t, beq_self_eq_true, mK_wI, mK_wL, mK_wR, mK_wIr, mK_wLr, mN_wI, mN_wL, mN_wR, mN_wIr, mN_wLr, mR_wI, mR_wL, mR_wIr, mR_wLr, mI_wL, mI_wR, mI_wLr, mL_wI, mL_wR, mL_wIr, sk_68 hS, sk_70 hS, sn_70 hS, sr_68_3 hS, mI_wI]
      rw [zin_nI (by omega) (by omega), nI_clamp (by omega)]
      simp only [chk_true, bnd_just, bnd2_just, app_t, beq_self_eq_true, mK_wI, mK_wL, mK_wR, mK_wIr, mK_wLr, mN_wI, mN_wL, mN_wR, mN_wIr, mN_wLr, mR_wI, mR_wL, mR_wIr, mR_wLr, mI_wL, mI_wR, mI_wLr, mL_wI, mL_wR, mL_wIr]
      rw [if_neg (show ¬ (68 = 70 ∧ 4 = ts.length) from fun q => absurd q.1 (by decide)), t1, nI_1, nI_1]
    have hT' : TxtM (wI (wI M 70 ts.length (nI l)) 68 4 (nI (ts.length + 1))) (ts ++ [l]) := by
      refine ⟨by rw [mI_wI, if_pos ⟨rfl, rfl⟩]; simp, by simp; omega, fun j hj => ?_, fun c hc => ?_⟩
      · rw [List.length_append, List.length_singleton] at hj
        rw [getD_app hj, mI_wI, if_neg (fun q => absurd q.1 (by decide)), mI_wI]
        by_cases h : j = ts.length
        · rw [if_pos ⟨rfl, h⟩, if_pos h]
        · rw [if_neg (fun q => h q.2), if_neg h]; exact t3 j (by omega)
      · rcases List.mem_append.mp hc with q | q
        · exact t4 c q
        · rw [List.mem_singleton] at q; rw [q]; exact ltr_lt hlt
    obtain ⟨M', r1, r2, r3, r4⟩ := ih n (i + 1) f _ (ts ++ [l]) w (Sta_wI (Sta_wI hS _ _ _) _ _ _) hT' (by omega) hn (by simp; omega) (by omega) ha.2
    refine ⟨M', e1.trans (r1.trans (by rw [List.length_append, List.length_singleton, Nat.add_assoc, Nat.add_comm 1 m])), ((Ch.rf.wI (by decide) _ _).wI (by decide) _ _).tr r2, fun k hk => ?_, ?_⟩
    · rw [r3 k hk, mI_wI, if_neg (fun q => hk q.2), mI_wI, if_neg (fun q => absurd q.1 (by decide))]
    · rw [lts_s, hlt]; simpa using r4
/-- the model's last stretch: the number in 'code' decides -/
theorem m_feed97 {M : zM} (hS : Sta M) (N : Nat) (w : Int64) (v c : Int32) (hc : ¬ c ≤ 0) : fX10_feed_97 N M 68 w v 68 c = some (0, wI M 68 0 c) := by
  unfold fX10_feed_97
  simp only [chk_true, bnd_just, bnd2_just, app_t, beq_self_eq_true, mK_wI, mK_wL, mK_wR, mK_wIr, mK_wLr, mN_wI, mN_wL, mN_wR, mN_wIr, mN_wLr, mR_wI, mR_wL, mR_wIr, mR_wLr, mI_wL, mI_wR, mI_wLr, mL_wI, mL_wR, mL_wIr, sk_68 hS, wIs]
  rw [if_neg hc]
theorem wI_wI (M : zM) (a k : Nat) (x y : Int32) : wI (wI M a k x) a k y = wI M a k y := by
  refine zM_ext rfl (fun b j => ?_) (fun _ _ => rfl) (fun _ _ => rfl)
  rw [mI_wI, mI_wI, mI_wI]
  by_cases h : b = a ∧ j = k
  · rw [if_pos h, if_pos h]
  · rw [if_neg h, if_neg h, if_neg h]
theorem m_feed69 {M : zM} {ts : List Nat} (hS : Sta M) (hT : TxtM M ts) (N : Nat) (w : Int64) (v : Int32) (hc : mI M 68 0 = 1) : fX10_feed_69 N M 68 w v = some (0, wI M 68 0 1) := by
  unfold fX10_feed_69 fX10_feed_93
  simp only [chk_true, bnd_just, bnd2_just, app_t, beq_self_eq_true, mK_wI, mK_wL, mK_wR, mK_wIr, mK_wLr, mN_wI, mN_wL, mN_wR, mN_wIr, mN_wLr, mR_wI, mR_wL, mR_wIr, mR_wLr, mI_wL, mI_wR, mI_wLr, mL_wI, mL_wR, mL_wIr, sk_68 hS]
  rw [hc, if_neg (by decide), m_feed97 hS N w v 1 (by decide)]
/-- the model looks at the characters -/
theorem m_look : ∀ (m n i fuel : Nat) (M : zM) (ts : List Nat) (w : Int64), Sta M → TxtM M ts → mI M 68 0 = 0 → i + m = n → 1 ≤ n → n ≤ 8 → m + 11 < fuel →
    (allL w i m = false → ∃ M', fX10_feed_23 fuel M 68 w (nI n) (nI i) = some (0, M') ∧ M' = wI M 68 0 1) ∧
    (allL w i m = true → ∃ f, 10 < f ∧ fX10_feed_23 fuel M 68 w (nI n) (nI i) = fX10_feed_69 f (wI M 68 0 0) 68 w (nI n)) := by
  intro m
  induction m with
  | zero =>
    intro n i fuel M ts w hS hT hc hi h1 hn hf
    obtain ⟨f, rfl⟩ : ∃ f, fuel = f + 1 := ⟨fuel - 1, by omega⟩
    refine ⟨fun h => absurd h (by simp [allL, chs]), fun _ => ⟨f, by omega, ?_⟩⟩
    have e : wI M 68 0 0 = M := zM_ext rfl (fun b j => by
      rw [mI_wI]
      by_cases h : b = 68 ∧ j = 0
      · rw [if_pos h, h.1, h.2, hc]
      · rw [if_neg h]) (fun _ _ => rfl) (fun _ _ => rfl)
    rw [fX10_feed_23, if_pos (by rw [nle (by omega) (by omega)]; omega), e]
  | succ m ih =>
    intro n i fuel M ts w hS hT hc hi h1 hn hf
    obtain ⟨f, rfl⟩ : ∃ f, fuel = f + 1 := ⟨fuel - 1, by omega⟩
    have hx : i < 8 := by omega
    have e1 : fX10_feed_23 (f + 1) M 68 w (nI n) (nI i) = if (ltr (chr w i)).isSome = true then fX10_feed_23 f (wI M 68 0 0) 68 w (nI n) (nI (i + 1)) else fX10_feed_23 f (wI M 68 0 1) 68 w (nI n) (nI (i + 1)) := by
      rw [fX10_feed_23, if_neg (by rw [nle (by omega) (by omega)]; omega), m_byte w hx, g_letterOf _ _ (chr_lt w i)]
      unfold fX10_feed_60
      simp only [chk_true, bnd_just, bnd2_just, app_t, beq_self_eq_true, mK_wI, mK_wL, mK_wR, mK_wIr, mK_wLr, mN_wI, mN_wL, mN_wR, mN_wIr, mN_wLr, mR_wI, mR_wL, mR_wIr, mR_wLr, mI_wL, mI_wR, mI_wLr, mL_wI, mL_wR, mL_wIr, sk_68 hS]
      rw [hc, if_pos rfl, nI_1]
      by_cases h : ∃ l, ltr (chr w i) = some l
      · rw [if_pos ((lI_ge _).mpr h), if_pos (Option.isSome_iff_exists.mpr h)]
      · rw [if_neg (fun q => h ((lI_ge _).mp q)), if_neg (fun q => h (Option.isSome_iff_exists.mp q))]
    rw [e1, allL_s]
    by_cases h : (ltr (chr w i)).isSome = true
    · rw [if_pos h, h, Bool.true_and]
      have := ih n (i + 1) f (wI M 68 0 0) ts w (Sta_wI hS _ _ _) (TxtM_code hT 0) (wIs _ _ _ _) (by omega) h1 hn (by omega)
      rw [wI_wI, wI_wI] at this
      exact this
    · rw [if_neg h]
      have hb : (ltr (chr w i)).isSome = false := by cases hq : (ltr (chr w i)).isSome <;> simp_all
      rw [hb, Bool.false_and]
      refine ⟨fun _ => ⟨_, ?_, rfl⟩, fun q => by cases q⟩
      obtain ⟨g, rfl⟩ : ∃ g, f = g + 1 := ⟨f - 1, by omega⟩
      have e69 : ∀ g, fX10_feed_69 g (wI M 68 0 1) 68 w (nI n) = some (0, wI M 68 0 1) := fun g => by
        rw [m_feed69 (Sta_wI hS _ _ _) (TxtM_code hT 1) g w _ (wIs _ _ _ _), wI_wI]
      rw [fX10_feed_23]
      by_cases h3 : nI n ≤ nI (i + 1)
      · rw [if_pos h3, e69]
      · rw [if_neg h3]
        simp only [chk_true, bnd_just, bnd2_just, app_t, beq_self_eq_true, mK_wI, mK_wL, mK_wR, mK_wIr, mK_wLr, mN_wI, mN_wL, mN_wR, mN_wIr, mN_wLr, mR_wI, mR_wL, mR_wIr, mR_wLr, mI_wL, mI_wR, mI_wLr, mL_wI, mL_wR, mL_wIr, sk_68 hS, wIs]
        rw [if_neg (by decide), e69]
theorem m_feed {M : zM} {ts : List Nat} (hS : Sta M) (hT : TxtM M ts) (N : Nat) (hN : 40 ≤ N) (w : Int64) (v : Int32) :
    (((v < 1 ∨ 8 < v) ∨ ∃ n, 1 ≤ n ∧ n ≤ 8 ∧ v = nI n ∧ allL w 0 n = false) → fX10_feed N M 68 w v = some (0, wI M 68 0 1)) ∧
    (∀ n, 1 ≤ n → n ≤ 8 → v = nI n → allL w 0 n = true → (200 < ts.length + n → fX10_feed N M 68 w v = some (0, wI M 68 0 2)) ∧
      (ts.length + n ≤ 200 → ∃ M', fX10_feed N M 68 w v = some (nI (ts.length + n), M') ∧ Ch [68, 70] M M' ∧ mI M' 68 0 = 0 ∧ (∀ k, k ≠ 0 → k ≠ 4 → mI M' 68 k = mI M 68 k) ∧ TxtM M' (ts ++ lts w 0 n))) := by
  constructor
  · rintro (h | ⟨n, h1, h2, rfl, ha⟩)
    · have e12 : fX10_feed_12 N M 68 w v 68 = some (0, wI M 68 0 1) := by
        obtain ⟨g, rfl⟩ : ∃ g, N = g + 1 := ⟨N - 1, by omega⟩
        unfold fX10_feed_12 fX10_feed_17
        simp only [chk_true, bnd_just, bnd2_just, app_t, beq_self_eq_true, mK_wI, mK_wL, mK_wR, mK_wIr, mK_wLr, mN_wI, mN_wL, mN_wR, mN_wIr, mN_wLr, mR_wI, mR_wL, mR_wIr, mR_wLr, mI_wL, mI_wR, mI_wLr, mL_wI, mL_wR, mL_wIr, sk_68 hS]
        have e69 : ∀ g, fX10_feed_69 g (wI M 68 0 1) 68 w v = some (0, wI M 68 0 1) := fun g => by
          rw [m_feed69 (Sta_wI hS _ _ _) (TxtM_code hT 1) g w _ (wIs _ _ _ _), wI_wI]
        rw [fX10_feed_23]
        by_cases h3 : v ≤ 0
        · rw [if_pos h3, e69]
        · rw [if_neg h3]
          simp only [chk_true, bnd_just, bnd2_just, app_t, beq_self_eq_true, mK_wI, mK_wL, mK_wR, mK_wIr, mK_wLr, mN_wI, mN_wL, mN_wR, mN_wIr, mN_wLr, mR_wI, mR_wL, mR_wIr, mR_wLr, mI_wL, mI_wR, mI_wLr, mL_wI, mL_wR, mL_wIr, sk_68 hS, wIs]
          rw [if_neg (by decide), e69]
      unfold fX10_feed
      rcases n18b h with h | ⟨h1, h2, -⟩
      · rw [if_pos h, e12]
      · rw [if_neg h1, if_neg h2, e12]
    · obtain ⟨a1, -, a2⟩ := n18a h1 h2
      unfold fX10_feed fX10_feed_17
      rw [if_neg a1, if_pos a2]
      simp only [chk_true, bnd_just, bnd2_just, app_t, beq_self_eq_true, mK_wI, mK_wL, mK_wR, mK_wIr, mK_wLr, mN_wI, mN_wL, mN_wR, mN_wIr, mN_wLr, mR_wI, mR_wL, mR_wIr, mR_wLr, mI_wL, mI_wR, mI_wLr, mL_wI, mL_wR, mL_wIr, sk_68 hS]
      obtain ⟨M', r1, r2⟩ := (m_look n n 0 N (wI M 68 0 0) ts w (Sta_wI hS _ _ _) (TxtM_code hT 0) (wIs _ _ _ _) (by omega) h1 h2 (by omega)).1 ha
      rw [wI_wI] at r2
      rw [← i0] at r1
      rw [r1, r2]
  · rintro n h1 h2 rfl ha
    obtain ⟨a1, -, a2⟩ := n18a h1 h2
    obtain ⟨t1, t2, t3, t4⟩ := id hT
    obtain ⟨f, hf, r1⟩ := (m_look n n 0 N (wI M 68 0 0) ts w (Sta_wI hS _ _ _) (TxtM_code hT 0) (wIs _ _ _ _) (by omega) h1 h2 (by omega)).2 ha
    rw [wI_wI, ← i0] at r1
    have e4 : mI (wI M 68 0 0) 68 4 = nI ts.length := by rw [mI_wI, if_neg (fun q => absurd q.2 (by decide))]; exact t1
    have e0 : (mI (wI M 68 0 0) 68 4 + nI n) ≤ (200 : Int32) ↔ ts.length + n ≤ 200 := by rw [e4, nI_add, i200]; exact nI_leI (by omega) (by omega)
    have ef : fX10_feed N M 68 w (nI n) = fX10_feed_69 f (wI M 68 0 0) 68 w (nI n) := by
      unfold fX10_feed fX10_feed_17
      rw [if_neg a1, if_pos a2]
      simp only [chk_true, bnd_just, bnd2_just, app_t, beq_self_eq_true, mK_wI, mK_wL, mK_wR, mK_wIr, mK_wLr, mN_wI, mN_wL, mN_wR, mN_wIr, mN_wLr, mR_wI, mR_wL, mR_wIr, mR_wLr, mI_wL, mI_wR, mI_wLr, mL_wI, mL_wR, mL_wIr, sk_68 hS]
      exact r1
    constructor
    · intro h
      rw [ef]
      unfold fX10_feed_69
      simp only [chk_true, bnd_just, bnd2_just, app_t, beq_self_eq_true, mK_wI, mK_wL, mK_wR, mK_wIr, mK_wLr, mN_wI, mN_wL, mN_wR, mN_wIr, mN_wLr, mR_wI, mR_wL, mR_wIr, mR_wLr, mI_wL, mI_wR, mI_wLr, mL_wI, mL_wR, mL_wIr, sk_68 hS]
      rw [wIs, if_pos rfl, if_neg (fun q => by have := e0.mp q; omega), m_feed97 (Sta_wI hS _ _ _) _ _ _ 2 (by decide), wI_wI]
    · intro h
      obtain ⟨M', q1, q2, q3, q4⟩ := fd_m n n 0 f (wI M 68 0 0) ts w (Sta_wI hS _ _ _) (TxtM_code hT 0) (by omega) h2 h (by omega) ha
      refine ⟨M', ?_, (Ch.rf.wI (by decide) _ _).tr q2, by rw [q3 0 (by decide), wIs], fun k hk hk4 => by rw [q3 k hk4, mI_wI, if_neg (fun q => hk q.2)], q4⟩
      rw [ef]
      unfold fX10_feed_69 fX10_feed_93 fX10_feed_97
      simp only [chk_true, bnd_just, bnd2_just, app_t, beq_self_eq_true, mK_wI, mK_wL, mK_wR, mK_wIr, mK_wLr, mN_wI, mN_wL, mN_wR, mN_wIr, mN_wLr, mR_wI, mR_wL, mR_wIr, mR_wLr, mI_wL, mI_wR, mI_wLr, mL_wI, mL_wR, mL_wIr, sk_68 hS]
      rw [wIs, if_pos rfl, if_pos (e0.mpr h), wI_wI, wIs, if_pos (by decide), i0]
      rw [← i0] at q1 ⊢
      exact q1
end ZFEED2
