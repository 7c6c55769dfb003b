/-! the Register: keys by the order in which they are met -/
section ZREG
theorem php : ∀ (n m : Nat) (f : Nat → Nat), (∀ s, s < m → ∃ i, i < n ∧ f i = s) → m ≤ n := by
  intro n
  induction n with
  | zero =>
    intro m f h
    rcases Nat.eq_zero_or_pos m with q | q
    · omega
    · obtain ⟨i, hi, -⟩ := h 0 q; omega
  | succ n ih =>
    intro m f h
    by_cases hv : f n < m
    · have : m - 1 ≤ n := ih (m - 1) (fun i => if f n < f i then f i - 1 else f i) (fun s hs => by
        by_cases hsv : f n ≤ s
        · obtain ⟨i, hi, e⟩ := h (s + 1) (by omega)
          have hin : i ≠ n := fun q => by subst q; omega
          exact ⟨i, by omega, by show (if f n < f i then f i - 1 else f i) = s; rw [if_pos (by omega)]; omega⟩
        · obtain ⟨i, hi, e⟩ := h s (by omega)
          have hin : i ≠ n := fun q => by subst q; omega
          exact ⟨i, by omega, by show (if f n < f i then f i - 1 else f i) = s; rw [if_neg (by omega)]; exact e⟩)
      omega
    · have : m ≤ n := ih m f (fun s hs => by
        obtain ⟨i, hi, e⟩ := h s hs
        have hin : i ≠ n := fun q => by subst q; omega
        exact ⟨i, by omega, e⟩)
      omega
def zhm (key : Int64) : Nat := (key * (-7046029254386353131)).toBitVec.toNat / 2 ^ 54
theorem hm_lt (key : Int64) : zhm key < 1024 := by
  unfold zhm
  have := (key * (-7046029254386353131)).toBitVec.isLt
  omega
theorem c_home (n : Nat) (M : zM) (key : Int64) : fX7_homeOf n M key = some (nI (zhm key), M) := by
  unfold fX7_homeOf
  rw [app_t]
  congr 2
  apply Int32.toBitVec_inj.mp
  rw [i64_32, show (54 : Int32) = nI 54 by decide, jushr_bv _ (by omega)]
  apply BitVec.eq_of_toNat_eq
  rw [BitVec.toNat_setWidth, BitVec.toNat_ushiftRight, Nat.shiftRight_eq_div_pow]
  show zhm key % 2 ^ 32 = (BitVec.ofNat 32 (zhm key)).toNat
  rw [BitVec.toNat_ofNat]
def slt (key : Int64) (d : Nat) : Nat := (zhm key + d) % 1024
theorem slt_lt (key : Int64) (d : Nat) : slt key d < 1024 := Nat.mod_lt _ (by decide)
theorem slt_I (key : Int64) {d : Nat} (hd : d < 1024) : (nI (zhm key) + nI d) &&& (1023 : Int32) = nI (slt key d) := by
  rw [nI_add, pk_andN (by have := hm_lt key; omega) 10 (by decide)]
  rfl
def RegP (M : zM) (ks : List Int64) (so : Nat → Nat) : Prop := (∀ i, i < ks.length → so i < 1024 ∧ mI M 33 i = nI (so i) ∧ mI M 34 (so i) = nI (i + 1)) ∧ (∀ s, s < 1024 → mI M 34 s = nI 0 ∨ ∃ i, i < ks.length ∧ so i = s) ∧ (∀ i, i < ks.length → ∃ d, d < 1024 ∧ so i = slt (ks.getD i 0) d ∧ ∀ d', d' < d → ∃ j, j < ks.length ∧ so j = slt (ks.getD i 0) d')
def RegS (M : zM) (ks : List Int64) : Prop := mI M 31 0 = nI ks.length ∧ ks.length ≤ 300 ∧ (∀ i j, i < ks.length → j < ks.length → ks.getD i 0 = ks.getD j 0 → i = j) ∧ (∀ i, i < ks.length → mL M 32 i = ks.getD i 0) ∧ ∃ so, RegP M ks so
def RF4 (M M' : zM) : Prop := M'.1 = M.1 ∧ (∀ a j, mR M' a j = mR M a j) ∧ ∀ a, ¬ (31 ≤ a ∧ a ≤ 34) → ∀ j, mI M' a j = mI M a j ∧ mL M' a j = mL M a j
theorem RF4.rf {M : zM} : RF4 M M := ⟨rfl, fun _ _ => rfl, fun _ _ _ => ⟨rfl, rfl⟩⟩
theorem RF4.tr {M M1 M2 : zM} (h : RF4 M M1) (g : RF4 M1 M2) : RF4 M M2 := ⟨g.1.trans h.1, fun a j => (g.2.1 a j).trans (h.2.1 a j), fun a ha j => ⟨((g.2.2 a ha j).1).trans ((h.2.2 a ha j).1), ((g.2.2 a ha j).2).trans ((h.2.2 a ha j).2)⟩⟩
theorem RF4.sta {M M' : zM} (h : RF4 M M') (hs : Sta M) : Sta M' := ⟨by rw [h.1]; exact hs.1, fun q hq => (h.2.1 _ _).trans (hs.2 q hq)⟩
theorem getD_app3 {F : List Int64} {x : Int64} {i : Nat} (h : i < F.length + 1) : (F ++ [x]).getD i 0 = if i = F.length then x else F.getD i 0 := by
  simp only [List.getD_eq_getElem?_getD]
  by_cases hi : i = F.length
  · subst hi; simp
  · rw [if_neg hi, List.getElem?_append_left (by omega)]
theorem i1023 : (1023 : Int32) = nI 1023 := by decide
theorem nI01 : nI 0 - nI 1 = iM := by decide
/-- the key enters -/
theorem c_enter {M : zM} (hS : Sta M) {ks : List Int64} {so : Nat → Nat} (h : RegS M ks) (hp : RegP M ks so) {key : Int64} (hk : ∀ i, i < ks.length → ks.getD i 0 ≠ key) (hl : ks.length < 300) {d : Nat} (hd : d < 1024) (h0 : mI M 34 (slt key d) = nI 0) (hocc : ∀ d', d' < d → ∃ j, j < ks.length ∧ so j = slt key d') (N : Nat) :
    ∃ M', fX7_enter N M 31 key (nI (slt key d)) = some (nI ks.length, M') ∧ RF4 M M' ∧ RegS M' (ks ++ [key]) := by
  obtain ⟨h1, h2, h3, h4, -⟩ := h
  obtain ⟨q1, q2, q3⟩ := hp
  have hsl := slt_lt key d
  have hne : ∀ i, i < ks.length → so i ≠ slt key d := fun i hi q => by
    have := (q1 i hi).2.2
    rw [q, h0, neq (by omega) (by omega)] at this
    omega
  refine ⟨wI (wI (wI (wL M 32 ks.length key) 33 ks.length (nI (slt key d))) 34 (slt key d) (nI (ks.length + 1))) 31 0 (nI (ks.length + 1)), ?_, ⟨rfl, fun _ _ => rfl, fun a ha j => ⟨?_, ?_⟩⟩, ?_⟩
  · unfold fX7_enter
    simp (disch := omega) only [q_eM, q_Me, q_Mlt, q_Mle, q_leM, q_ltM, q_le, q_nle, q_lt, q_nlt, q_neq, zin_nI, nI_clamp, nI_add, pk_mul, pk_sub, mI_e, mI_n, mL_e, mL_n, mR_e, mR_n, i0, i1, ↓reduceIte, ↓bI_t, ↓bI_f, Bool.false_eq_true, eq_self, chk_true, bnd_just, bnd2_just, app_t, beq_self_eq_true, mK_wI, mK_wL, mK_wR, mK_wIr, mK_wLr, mN_wI, mN_wL, mN_wR, mN_wIr, mN_wLr, mR_wI, mR_wL, mR_wIr, mR_wLr, mI_wL, mI_wR, mI_wLr, mL_wI, mL_wR, mL_wIr, sk_31 hS, sk_32 hS, sk_33 hS, sk_34 hS, sn_32 hS, sn_33 hS, sn_34 hS, sr_31_1 hS, sr_31_2 hS, sr_31_3 hS, h1]
  · rw [mI_n (by omega), mI_n (by omega), mI_n (by omega)]; rfl
  · show mL (wL M 32 ks.length key) a j = _
    rw [mL_n (by omega)]
  · have hlen : (ks ++ [key]).length = ks.length + 1 := by simp
    refine ⟨by rw [hlen]; simp (disch := omega) only [q_eM, q_Me, q_Mlt, q_Mle, q_leM, q_ltM, q_le, q_nle, q_lt, q_nlt, q_neq, zin_nI, nI_clamp, nI_add, pk_mul, pk_sub, mI_e, mI_n, mL_e, mL_n, mR_e, mR_n, i0, i1, ↓reduceIte, ↓bI_t, ↓bI_f, Bool.false_eq_true, eq_self, chk_true, bnd_just, bnd2_just, app_t, beq_self_eq_true, mK_wI, mK_wL, mK_wR, mK_wIr, mK_wLr, mN_wI, mN_wL, mN_wR, mN_wIr, mN_wLr, mR_wI, mR_wL, mR_wIr, mR_wLr, mI_wL, mI_wR, mI_wLr, mL_wI, mL_wR, mL_wIr], by omega, fun i j hi hj e => ?_, fun i hi => ?_, updf so ks.length (slt key d), fun i hi => ?_, fun s hs => ?_, fun i hi => ?_⟩
    · rw [hlen] at hi hj
      rw [getD_app3 hi, getD_app3 hj] at e
      by_cases hi' : i = ks.length
      · by_cases hj' : j = ks.length
        · omega
        · rw [if_pos hi', if_neg hj'] at e; exact absurd e.symm (hk j (by omega))
      · by_cases hj' : j = ks.length
        · rw [if_neg hi', if_pos hj'] at e; exact absurd e (hk i (by omega))
        · rw [if_neg hi', if_neg hj'] at e; exact h3 i j (by omega) (by omega) e
    · rw [hlen] at hi
      rw [getD_app3 hi]
      by_cases hi' : i = ks.length
      · rw [if_pos hi']
        show mL (wL M 32 ks.length key) 32 i = key
        rw [mL_e rfl hi']
      · rw [if_neg hi']
        show mL (wL M 32 ks.length key) 32 i = _
        rw [mL_n (by omega)]; exact h4 i (by omega)
    · rw [hlen] at hi
      by_cases hi' : i = ks.length
      · rw [updf_e hi']
        refine ⟨hsl, ?_, ?_⟩
        · rw [mI_n (by omega), mI_n (by omega), mI_e rfl hi']
        · rw [mI_n (by omega), mI_e rfl rfl, hi']
      · rw [updf_n hi']
        obtain ⟨e1, e2, e3⟩ := q1 i (by omega)
        have := hne i (by omega)
        refine ⟨e1, ?_, ?_⟩
        · rw [mI_n (by omega), mI_n (by omega), mI_n (by omega)]; exact e2
        · rw [mI_n (by omega), mI_n (by omega), mI_n (by omega)]; exact e3
    · by_cases hs' : s = slt key d
      · exact Or.inr ⟨ks.length, by omega, by rw [updf_e rfl]; exact hs'.symm⟩
      · rcases q2 s hs with q | ⟨i, hi, q⟩
        · left
          rw [mI_n (by omega), mI_n (by omega), mI_n (by omega)]; exact q
        · exact Or.inr ⟨i, by omega, by rw [updf_n (by omega)]; exact q⟩
    · rw [hlen] at hi
      rw [getD_app3 hi]
      by_cases hi' : i = ks.length
      · rw [if_pos hi', updf_e hi']
        refine ⟨d, hd, rfl, fun d' hd' => ?_⟩
        obtain ⟨j, hj, e⟩ := hocc d' hd'
        exact ⟨j, by omega, by rw [updf_n (by omega)]; exact e⟩
      · rw [if_neg hi', updf_n hi']
        obtain ⟨dd, e1, e2, e3⟩ := q3 i (by omega)
        refine ⟨dd, e1, e2, fun d' hd' => ?_⟩
        obtain ⟨j, hj, e⟩ := e3 d' hd'
        exact ⟨j, by omega, by rw [updf_n (by omega)]; exact e⟩
theorem reg_full {ks : List Int64} {so : Nat → Nat} {key : Int64} (h : ∀ d', d' < 1024 → ∃ j, j < ks.length ∧ so j = slt key d') (hl : ks.length ≤ 300) : False := by
  have : 1024 ≤ ks.length := php ks.length 1024 so (fun s hs => by
    have hh := hm_lt key
    obtain ⟨j, hj, e2⟩ := h ((s + 1024 - zhm key) % 1024) (Nat.mod_lt _ (by omega))
    refine ⟨j, hj, e2.trans ?_⟩
    unfold slt
    generalize zhm key = x at hh ⊢
    omega)
  omega
theorem reg_inj {M : zM} {ks : List Int64} {so : Nat → Nat} (hp : RegP M ks so) (hl : ks.length ≤ 300) : ∀ i j, i < ks.length → j < ks.length → so i = so j → i = j := fun i j hi hj e => by
  have a1 := (hp.1 i hi).2.2
  have a2 := (hp.1 j hj).2.2
  rw [e, a2, neq (by omega) (by omega)] at a1
  omega
theorem reg_not {M : zM} {ks : List Int64} {so : Nat → Nat} (hp : RegP M ks so) (hl : ks.length ≤ 300) {key : Int64} {d : Nat} (h0 : mI M 34 (slt key d) = nI 0) (hin : ∀ d', d' < d → ∃ j, j < ks.length ∧ so j = slt key d' ∧ ks.getD j 0 ≠ key) : ∀ i, i < ks.length → ks.getD i 0 ≠ key := fun i hi q => by
  obtain ⟨dd, e1, e2, e3⟩ := hp.2.2 i hi
  rw [q] at e2 e3
  rcases Nat.lt_trichotomy d dd with c | c | c
  · obtain ⟨j, hj, e4⟩ := e3 d c
    have := (hp.1 j hj).2.2
    rw [e4, h0, neq (by omega) (by omega)] at this
    omega
  · subst c
    have := (hp.1 i hi).2.2
    rw [e2, h0, neq (by omega) (by omega)] at this
    omega
  · obtain ⟨j, hj, e4, e5⟩ := hin dd c
    have := reg_inj hp hl i j hi hj (e2.trans e4.symm)
    subst this
    exact e5 q
/-- one probe -/
theorem c_prb0 {M : zM} (hS : Sta M) {n lim : Nat} (hn : n ≤ 300) (hlim : lim ≤ 300) (g1 : mI M 31 0 = nI n) {key : Int64} {s d h : Nat} (hd : d < 1024) (hs : s < 1024) (e_s : nI (h + d) &&& nI 1023 = nI s) (h0 : mI M 34 s = nI 0) (f : Nat) :
    fX7_numberOf_9 (f + 1) M 31 key (nI lim) (nI h) (nI d) = if lim ≤ n ∨ n = 300 then some (iM, M) else bnd2 (fX7_enter f M 31 key (nI s)) fun r M' => some (r, M') := by
  rw [fX7_numberOf_9]
  unfold fX7_numberOf_72
  by_cases hll : lim ≤ n
  · rw [if_pos (Or.inl hll)]
    simp (disch := omega) only [q_eM, q_Me, q_Mlt, q_Mle, q_leM, q_ltM, q_le, q_nle, q_lt, q_nlt, q_neq, zin_nI, nI_clamp, nI_add, pk_mul, pk_sub, mI_e, mI_n, mL_e, mL_n, mR_e, mR_n, i0, i1, ↓reduceIte, ↓bI_t, ↓bI_f, Bool.false_eq_true, eq_self, chk_true, bnd_just, bnd2_just, app_t, beq_self_eq_true, mK_wI, mK_wL, mK_wR, mK_wIr, mK_wLr, mN_wI, mN_wL, mN_wR, mN_wIr, mN_wLr, mR_wI, mR_wL, mR_wIr, mR_wLr, mI_wL, mI_wR, mI_wLr, mL_wI, mL_wR, mL_wIr, ↓neg1, i1024, i1023, sk_31 hS, sk_34 hS, sn_34 hS, sr_31_3 hS, e_s, h0, nI01, g1]
  · rw [if_neg (show ¬ (lim ≤ n ∨ n = 300) by omega)]
    simp (disch := omega) only [q_eM, q_Me, q_Mlt, q_Mle, q_leM, q_ltM, q_le, q_nle, q_lt, q_nlt, q_neq, zin_nI, nI_clamp, nI_add, pk_mul, pk_sub, mI_e, mI_n, mL_e, mL_n, mR_e, mR_n, i0, i1, ↓reduceIte, ↓bI_t, ↓bI_f, Bool.false_eq_true, eq_self, chk_true, bnd_just, bnd2_just, app_t, beq_self_eq_true, mK_wI, mK_wL, mK_wR, mK_wIr, mK_wLr, mN_wI, mN_wL, mN_wR, mN_wIr, mN_wLr, mR_wI, mR_wL, mR_wIr, mR_wLr, mI_wL, mI_wR, mI_wLr, mL_wI, mL_wR, mL_wIr, ↓neg1, i1024, i1023, i300, sk_31 hS, sk_34 hS, sn_34 hS, sr_31_3 hS, e_s, h0, nI01, g1]
theorem c_prb1 {M : zM} (hS : Sta M) {key kk : Int64} {s d h i : Nat} (hd : d < 1024) (hs : s < 1024) (e_s : nI (h + d) &&& nI 1023 = nI s) (hi : i < 300) (e34 : mI M 34 s = nI (i + 1)) (g4 : mL M 32 i = kk) (lim : Int32) (f : Nat) :
    fX7_numberOf_9 (f + 1) M 31 key lim (nI h) (nI d) = if kk = key then some (nI i, M) else fX7_numberOf_9 f M 31 key lim (nI h) (nI (d + 1)) := by
  rw [fX7_numberOf_9]
  simp (disch := omega) only [q_eM, q_Me, q_Mlt, q_Mle, q_leM, q_ltM, q_le, q_nle, q_lt, q_nlt, q_neq, zin_nI, nI_clamp, nI_add, pk_mul, pk_sub, mI_e, mI_n, mL_e, mL_n, mR_e, mR_n, i0, i1, ↓reduceIte, ↓bI_t, ↓bI_f, Bool.false_eq_true, eq_self, chk_true, bnd_just, bnd2_just, app_t, beq_self_eq_true, mK_wI, mK_wL, mK_wR, mK_wIr, mK_wLr, mN_wI, mN_wL, mN_wR, mN_wIr, mN_wLr, mR_wI, mR_wL, mR_wIr, mR_wLr, mI_wL, mI_wR, mI_wLr, mL_wI, mL_wR, mL_wIr, ↓neg1, i1024, i1023, sk_31 hS, sk_32 hS, sk_34 hS, sn_32 hS, sn_34 hS, sr_31_1 hS, sr_31_3 hS, e_s, e34, g4, Nat.add_sub_cancel]
  by_cases hkey : kk = key
  · rw [if_pos hkey, if_pos (by rw [← i0]; exact (lg0 _ _).mpr hkey)]
  · rw [if_neg hkey, if_neg (by rw [← i0]; exact fun q => hkey ((lg0 _ _).mp q))]
theorem c_num {M : zM} (hS : Sta M) {ks : List Int64} {so : Nat → Nat} (h : RegS M ks) (hp : RegP M ks so) {key : Int64} {lim : Nat} (hlim : lim ≤ 300) {K : Nat} (hK : K = 1024) : ∀ (m d fuel : Nat), d + m = K → m < fuel → (∀ d', d' < d → ∃ j, j < ks.length ∧ so j = slt key d' ∧ ks.getD j 0 ≠ key) →
    (∃ i, i < ks.length ∧ ks.getD i 0 = key ∧ fX7_numberOf_9 fuel M 31 key (nI lim) (nI (zhm key)) (nI d) = some (nI i, M)) ∨
    ((∀ i, i < ks.length → ks.getD i 0 ≠ key) ∧ lim ≤ ks.length ∧ fX7_numberOf_9 fuel M 31 key (nI lim) (nI (zhm key)) (nI d) = some (iM, M)) ∨
    ((∀ i, i < ks.length → ks.getD i 0 ≠ key) ∧ ks.length < lim ∧ ∃ M', fX7_numberOf_9 fuel M 31 key (nI lim) (nI (zhm key)) (nI d) = some (nI ks.length, M') ∧ RF4 M M' ∧ RegS M' (ks ++ [key])) := by
  have g1 := h.1
  have g2 := h.2.1
  have g4 := h.2.2.2.1
  intro m
  induction m with
  | zero =>
    intro d fuel hd hf hin
    exact absurd (reg_full (so := so) (key := key) (fun d' hd' => by obtain ⟨j, hj, e, -⟩ := hin d' (by omega); exact ⟨j, hj, e⟩) g2) (fun q => q)
  | succ m ih =>
    intro d fuel hd hf hin
    obtain ⟨f, rfl⟩ := suc fuel (by omega)
    have hsl := slt_lt key d
    have e_s := slt_I key (d := d) (by omega)
    rw [i1023, nI_add] at e_s
    rcases hp.2.1 (slt key d) hsl with h0 | ⟨i, hi, e⟩
    · have hk := reg_not hp g2 h0 hin
      right
      rw [c_prb0 hS g2 hlim g1 (by omega) hsl e_s h0 f]
      by_cases hll : lim ≤ ks.length
      · left
        exact ⟨hk, hll, if_pos (Or.inl hll)⟩
      · right
        refine ⟨hk, by omega, ?_⟩
        obtain ⟨M', r1, r2, r3⟩ := c_enter hS h hp hk (by omega) (d := d) (by omega) h0 (fun d' hd' => by obtain ⟨j, hj, e4, -⟩ := hin d' hd'; exact ⟨j, hj, e4⟩) f
        refine ⟨M', ?_, r2, r3⟩
        rw [if_neg (by omega), r1]
        rfl
    · have e34 : mI M 34 (slt key d) = nI (i + 1) := by rw [← e]; exact (hp.1 i hi).2.2
      rw [c_prb1 hS (by omega) hsl e_s (by omega) e34 (g4 i hi)]
      by_cases hkey : ks.getD i 0 = key
      · left
        exact ⟨i, hi, hkey, if_pos hkey⟩
      · have h9 := ih (d + 1) f (by omega) (by omega) (fun d' hd' => by
          by_cases hdd : d' = d
          · subst hdd; exact ⟨i, hi, e, hkey⟩
          · exact hin d' (by omega))
        rw [if_neg hkey]
        exact h9
theorem c_number {M : zM} (hS : Sta M) {ks : List Int64} (h : RegS M ks) (key : Int64) {lim : Nat} (hlim : lim ≤ 300) (N : Nat) (hN : 1100 ≤ N) :
    (∃ i, i < ks.length ∧ ks.getD i 0 = key ∧ fX7_numberOf N M 31 key (nI lim) = some (nI i, M)) ∨
    ((∀ i, i < ks.length → ks.getD i 0 ≠ key) ∧ lim ≤ ks.length ∧ fX7_numberOf N M 31 key (nI lim) = some (iM, M)) ∨
    ((∀ i, i < ks.length → ks.getD i 0 ≠ key) ∧ ks.length < lim ∧ ∃ M', fX7_numberOf N M 31 key (nI lim) = some (nI ks.length, M') ∧ RF4 M M' ∧ RegS M' (ks ++ [key])) := by
  obtain ⟨so, hp⟩ := h.2.2.2.2
  have := c_num hS h hp (key := key) hlim rfl 1024 0 N (by omega) (by omega) (fun d' hd' => by omega)
  unfold fX7_numberOf
  rw [c_home, bnd2_just, i0]
  exact this
theorem c_fg {ks : List Int64} {so : Nat → Nat} (hl : ks.length ≤ 300) (hinj : ∀ i j, i < ks.length → j < ks.length → so i = so j → i = j) (hso : ∀ i, i < ks.length → so i < 1024) : ∀ (m i fuel : Nat) (M : zM), Sta M → mI M 31 0 = nI ks.length → (∀ j, j < ks.length → mI M 33 j = nI (so j)) → (∀ s, s < 1024 → mI M 34 s = nI 0 ∨ ∃ j, i ≤ j ∧ j < ks.length ∧ so j = s) → i + m = ks.length → m < fuel →
    ∃ M', fX7_forgetAll_2 fuel M 31 (nI i) = some ((), M') ∧ RF4 M M' ∧ mI M' 31 0 = nI 0 ∧ ∀ s, s < 1024 → mI M' 34 s = nI 0 := by
  intro m
  induction m with
  | zero =>
    intro i fuel M hS h1 h2 h3 hi hf
    obtain ⟨f, rfl⟩ := suc fuel (by omega)
    refine ⟨wI M 31 0 (nI 0), ?_, ⟨rfl, fun _ _ => rfl, fun a ha j => ⟨mI_n (by omega), rfl⟩⟩, mI_e rfl rfl, fun s hs => ?_⟩
    · rw [fX7_forgetAll_2]
      simp (disch := omega) only [q_eM, q_Me, q_Mlt, q_Mle, q_leM, q_ltM, q_le, q_nle, q_lt, q_nlt, q_neq, zin_nI, nI_clamp, nI_add, pk_mul, pk_sub, mI_e, mI_n, mL_e, mL_n, mR_e, mR_n, i0, i1, ↓reduceIte, ↓bI_t, ↓bI_f, Bool.false_eq_true, eq_self, chk_true, bnd_just, bnd2_just, app_t, beq_self_eq_true, mK_wI, mK_wL, mK_wR, mK_wIr, mK_wLr, mN_wI, mN_wL, mN_wR, mN_wIr, mN_wLr, mR_wI, mR_wL, mR_wIr, mR_wLr, mI_wL, mI_wR, mI_wLr, mL_wI, mL_wR, mL_wIr, sk_31 hS, h1]
    · rw [mI_n (by omega)]
      rcases h3 s hs with q | ⟨j, q1, q2, -⟩
      · exact q
      · omega
  | succ m ih =>
    intro i fuel M hS h1 h2 h3 hi hf
    obtain ⟨f, rfl⟩ := suc fuel (by omega)
    have hsi := hso i (by omega)
    obtain ⟨M', r1, r2, r3⟩ := ih (i + 1) f (wI M 34 (so i) (nI 0)) hS (by rw [mI_n (by omega)]; exact h1) (fun j hj => by rw [mI_n (by omega)]; exact h2 j hj) (fun s hs => by
      by_cases hsi' : s = so i
      · left; rw [mI_e rfl hsi']
      · rw [mI_n (by omega)]
        rcases h3 s hs with q | ⟨j, q1, q2, q3⟩
        · exact Or.inl q
        · refine Or.inr ⟨j, ?_, q2, q3⟩
          have : j ≠ i := fun q => hsi' (by rw [← q3, q])
          omega) (by omega) (by omega)
    refine ⟨M', ?_, RF4.tr (M1 := wI M 34 (so i) (nI 0)) ⟨rfl, fun _ _ => rfl, fun a ha j => ⟨mI_n (by omega), rfl⟩⟩ r2, r3⟩
    rw [fX7_forgetAll_2]
    simp (disch := omega) only [q_eM, q_Me, q_Mlt, q_Mle, q_leM, q_ltM, q_le, q_nle, q_lt, q_nlt, q_neq, zin_nI, nI_clamp, nI_add, pk_mul, pk_sub, mI_e, mI_n, mL_e, mL_n, mR_e, mR_n, i0, i1, ↓reduceIte, ↓bI_t, ↓bI_f, Bool.false_eq_true, eq_self, chk_true, bnd_just, bnd2_just, app_t, beq_self_eq_true, mK_wI, mK_wL, mK_wR, mK_wIr, mK_wLr, mN_wI, mN_wL, mN_wR, mN_wIr, mN_wLr, mR_wI, mR_wL, mR_wIr, mR_wLr, mI_wL, mI_wR, mI_wLr, mL_wI, mL_wR, mL_wIr, sk_31 hS, sk_33 hS, sk_34 hS, sn_33 hS, sn_34 hS, sr_31_2 hS, sr_31_3 hS, h1, h2 i]
    exact r1
theorem c_forget {M : zM} (hS : Sta M) {ks : List Int64} (h : RegS M ks) (N : Nat) (hN : 310 ≤ N) : ∃ M', fX7_forgetAll N M 31 = some ((), M') ∧ RF4 M M' ∧ RegS M' [] := by
  obtain ⟨h1, h2, h3, h4, so, q1, q2, q3⟩ := h
  have hinj : ∀ i j, i < ks.length → j < ks.length → so i = so j → i = j := fun i j hi hj e => by
    have a1 := (q1 i hi).2.2
    have a2 := (q1 j hj).2.2
    rw [e, a2, neq (by omega) (by omega)] at a1
    omega
  obtain ⟨M', r1, r2, r3, r4⟩ := c_fg h2 hinj (fun i hi => (q1 i hi).1) ks.length 0 N M hS h1 (fun j hj => (q1 j hj).2.1) (fun s hs => by
    rcases q2 s hs with q | ⟨i, hi, e⟩
    · exact Or.inl q
    · exact Or.inr ⟨i, by omega, hi, e⟩) (by omega) (by omega)
  unfold fX7_forgetAll
  rw [i0]
  exact ⟨M', r1, r2, r3, by simp, fun i j hi => by simp at hi, fun i hi => by simp at hi, fun _ => 0, fun i hi => by simp at hi, fun s hs => Or.inl (r4 s hs), fun i hi => by simp at hi⟩
end ZREG
