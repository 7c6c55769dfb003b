/-! letters; feed, clear, place: both sides -/
section ZFEED
/-- the letter of a character -/
def ltr (c : Nat) : Option Nat := if 97 ≤ c ∧ c ≤ 122 then some (c - 97) else if 48 ≤ c ∧ c ≤ 57 then some (c - 22) else none
def lI (c : Nat) : Int32 := match ltr c with
  | some l => nI l
  | none => -1
theorem ltr_lt {c l : Nat} (h : ltr c = some l) : l < 36 := by
  unfold ltr at h
  split at h
  · cases h; omega
  · split at h
    · cases h; omega
    · cases h
theorem lI_some {c l : Nat} (h : ltr c = some l) : lI c = nI l := by unfold lI; rw [h]
theorem lI_none {c : Nat} (h : ltr c = none) : lI c = -1 := by unfold lI; rw [h]
theorem nI_m1 {a : Nat} (h : a < 2 ^ 31) : ¬ nI a = -1 := fun q => by
  have h1 := congrArg Int32.toInt q
  rw [nI_toInt h] at h1
  have : (-1 : Int32).toInt = -1 := by decide
  omega
theorem lI_m1 (c : Nat) : lI c = -1 ↔ ltr c = none := by
  constructor
  · intro h
    cases hl : ltr c with
    | none => rfl
    | some l => rw [lI_some hl] at h; exact absurd h (nI_m1 (by have := ltr_lt hl; omega))
  · exact lI_none
theorem lI_ge (c : Nat) : 0 ≤ lI c ↔ ∃ l, ltr c = some l := by
  constructor
  · intro h
    cases hl : ltr c with
    | none => rw [lI_none hl] at h; exact absurd h (by decide)
    | some l => exact ⟨l, rfl⟩
  · rintro ⟨l, hl⟩
    rw [lI_some hl, i0, nle (by omega) (by have := ltr_lt hl; omega)]; omega
theorem i_97 : (97 : Int32) = nI 97 := by decide
theorem i_122 : (122 : Int32) = nI 122 := by decide
theorem i_48 : (48 : Int32) = nI 48 := by decide
theorem i_57 : (57 : Int32) = nI 57 := by decide
theorem i_26 : (26 : Int32) = nI 26 := by decide
theorem f_letterOf (n : Nat) (M : zM) {c : Nat} (hc : c < 256) : fX9_letterOf n M (nI c) = some (lI c, M) := by
  have e17 : ¬ (97 ≤ c ∧ c ≤ 122) → fX9_letterOf_17 n M (nI c) = some (lI c, M) := by
    intro h
    unfold fX9_letterOf_17 lI ltr
    rw [if_neg h, i_48, i_57, i_26]
    by_cases h1 : c < 48
    · rw [if_pos (by rw [nlt (by omega) (by omega)]; exact h1), if_neg (by omega)]
    · rw [if_neg (by rw [nlt (by omega) (by omega)]; exact h1)]
      by_cases h2 : 57 < c
      · rw [if_pos (by rw [nlt (by omega) (by omega)]; exact h2), if_neg (by omega)]
      · rw [if_neg (by rw [nlt (by omega) (by omega)]; exact h2), if_pos (by omega), pk_sub (by omega), nI_add]
        congr 3; omega
  unfold fX9_letterOf
  rw [i_97, i_122]
  by_cases h1 : c < 97
  · rw [if_pos (by rw [nlt (by omega) (by omega)]; exact h1), e17 (by omega)]
  · rw [if_neg (by rw [nlt (by omega) (by omega)]; exact h1)]
    by_cases h2 : 122 < c
    · rw [if_pos (by rw [nlt (by omega) (by omega)]; exact h2), e17 (by omega)]
    · rw [if_neg (by rw [nlt (by omega) (by omega)]; exact h2)]
      unfold lI ltr
      rw [if_pos (by omega), pk_sub (by omega)]
theorem g_letterOf (n : Nat) (M : zM) {c : Nat} (hc : c < 256) : fX10_letterOf n M (nI c) = some (lI c, M) := by
  have e17 : ¬ (97 ≤ c ∧ c ≤ 122) → fX10_letterOf_19 n M (nI c) = some (lI c, M) := by
    intro h
    unfold fX10_letterOf_19 fX10_letterOf_41 lI ltr
    rw [if_neg h, i_48, i_57, i_26]
    by_cases h1 : c < 48
    · rw [if_pos (by rw [nlt (by omega) (by omega)]; exact h1), if_neg (by omega)]
    · rw [if_neg (by rw [nlt (by omega) (by omega)]; exact h1)]
      by_cases h2 : 57 < c
      · rw [if_pos (by rw [nlt (by omega) (by omega)]; exact h2), if_neg (by omega)]
      · rw [if_neg (by rw [nlt (by omega) (by omega)]; exact h2), if_pos (by omega), pk_sub (by omega), nI_add]
        congr 3; omega
  unfold fX10_letterOf
  rw [i_97, i_122]
  by_cases h1 : c < 97
  · rw [if_pos (by rw [nlt (by omega) (by omega)]; exact h1), e17 (by omega)]
  · rw [if_neg (by rw [nlt (by omega) (by omega)]; exact h1)]
    by_cases h2 : 122 < c
    · rw [if_pos (by rw [nlt (by omega) (by omega)]; exact h2), e17 (by omega)]
    · rw [if_neg (by rw [nlt (by omega) (by omega)]; exact h2)]
      unfold lI ltr
      rw [if_pos (by omega), pk_sub (by omega)]
/-- all of m characters from the i-th are letters -/
def allL (w : Int64) (i m : Nat) : Bool := (chs w i m).all (fun c => (ltr c).isSome)
theorem allL_s (w : Int64) (i m : Nat) : allL w i (m + 1) = ((ltr (chr w i)).isSome && allL w (i + 1) m) := by unfold allL; rw [chs_s]; rfl
theorem c_all : ∀ (m n i fuel : Nat) (M : zM) (w : Int64), i + m = n → n ≤ 8 → m < fuel → fX9_allLetters_2 fuel M w (nI n) (nI i) = some (bI (allL w i m), M) := by
  intro m
  induction m with
  | zero =>
    intro n i fuel M w hi hn hf
    obtain ⟨f, rfl⟩ : ∃ f, fuel = f + 1 := ⟨fuel - 1, by omega⟩
    rw [fX9_allLetters_2, if_pos (by rw [nle (by omega) (by omega)]; omega)]; rfl
  | succ m ih =>
    intro n i fuel M w hi hn hf
    obtain ⟨f, rfl⟩ : ∃ f, fuel = f + 1 := ⟨fuel - 1, by omega⟩
    rw [fX9_allLetters_2, if_neg (by rw [nle (by omega) (by omega)]; omega), f_byteOf _ _ _ (by omega), bnd2_just, f_letterOf _ _ (chr_lt w i), bnd2_just, allL_s]
    by_cases h : ltr (chr w i) = none
    · rw [if_pos ((lI_m1 _).mpr h), h]; rfl
    · rw [if_neg (fun q => h ((lI_m1 _).mp q)), app_t, nI_1, ih n (i + 1) f M w (by omega) hn (by omega)]
      cases hl : ltr (chr w i) with
      | none => exact absurd hl h
      | some l => rfl
def TxtC (M : zM) (ts : List Nat) : Prop := mI M 27 0 = nI ts.length ∧ ts.length ≤ 200 ∧ (∀ i, i < ts.length → mI M 30 i = nI (ts.getD i 0)) ∧ ∀ c ∈ ts, c < 36
def TxtM (M : zM) (ts : List Nat) : Prop := mI M 68 4 = nI ts.length ∧ ts.length ≤ 200 ∧ (∀ i, i < ts.length → mI M 70 i = nI (ts.getD i 0)) ∧ ∀ c ∈ ts, c < 36
/-- the letters of m characters -/
def lts (w : Int64) (i m : Nat) : List Nat := (chs w i m).map (fun c => (ltr c).getD 0)
theorem lts_s (w : Int64) (i m : Nat) : lts w i (m + 1) = (ltr (chr w i)).getD 0 :: lts w (i + 1) m := by unfold lts; rw [chs_s]; rfl
theorem lts_len (w : Int64) (i m : Nat) : (lts w i m).length = m := by unfold lts; rw [List.length_map, chs_len]
theorem fd_c : ∀ (m n i fuel : Nat) (M : zM) (ts : List Nat) (w : Int64), Sta M → TxtC M ts → i + m = n → n ≤ 8 → ts.length + m ≤ 200 → m < fuel → allL w i m = true →
    ∃ M', fX8_append_3 fuel M 27 w (nI n) (nI i) = some ((), M') ∧ Ch [27, 30] M M' ∧ (∀ k, k ≠ 0 → k ≠ 5 → mI M' 27 k = mI M 27 k) ∧ mI M' 27 5 = 0 ∧ TxtC M' (ts ++ lts w i m) := by
  intro m
  induction m with
  | zero =>
    intro n i fuel M ts w hS hT hi hn hl hf ha
    obtain ⟨f, rfl⟩ : ∃ f, fuel = f + 1 := ⟨fuel - 1, by omega⟩
    obtain ⟨t1, t2, t3, t4⟩ := hT
    refine ⟨wI M 27 5 0, ?_, Ch.rf.wI (by decide) _ _, fun k _ hk => by rw [mI_wI, if_neg (fun q => hk q.2)], wIs _ _ _ _, ?_⟩
    · rw [fX8_append_3, if_pos (by rw [nle (by omega) (by omega)]; omega)]
      simp only [chk_true, bnd_just, bnd2_just, app_t, beq_self_eq_true, mK_wI, mK_wL, mK_wR, mK_wIr, mK_wLr, mN_wI, mN_wL, mN_wR, mN_wIr, mN_wLr, mR_wI, mR_wL, mR_wIr, mR_wLr, mI_wL, mI_wR, mI_wLr, mL_wI, mL_wR, mL_wIr, sk_27 hS]
    · have : ts ++ lts w i 0 = ts := by simp [lts, chs]
      rw [this]
      exact ⟨by rw [mI_wI, if_neg (fun q => absurd q.2 (by decide))]; exact t1, t2, fun j hj => by rw [mI_wI, if_neg (fun q => absurd q.1 (by decide))]; exact t3 j hj, t4⟩
  | succ m ih =>
    intro n i fuel M ts w hS hT hi hn hl hf ha
    obtain ⟨f, rfl⟩ : ∃ f, fuel = f + 1 := ⟨fuel - 1, by omega⟩
    obtain ⟨t1, t2, t3, t4⟩ := hT
    rw [allL_s, Bool.and_eq_true] at ha
    obtain ⟨l, hlt⟩ := Option.isSome_iff_exists.mp ha.1
    have hx : i < 8 := by omega
    have e1 : fX8_append_3 (f + 1) M 27 w (nI n) (nI i) = fX8_append_3 f (wI (wI M 30 ts.length (nI l)) 27 0 (nI (ts.length + 1))) 27 w (nI n) (nI (i + 1)) := by
      rw [fX8_append_3, if_neg (by rw [nle (by omega) (by omega)]; omega), t1]
      simp only [chk_true, bnd_just, bnd2_just, app_t, beq_self_eq_true, mK_wI, mK_wL, mK_wR, mK_wIr, mK_wLr, mN_wI, mN_wL, mN_wR, mN_wIr, mN_wLr, mR_wI, mR_wL, mR_wIr, mR_wLr, mI_wL, mI_wR, mI_wLr, mL_wI, mL_wR, mL_wIr, sk_27 hS, sk_30 hS, sn_30 hS, sr_27_4 hS]
      rw [i200, if_neg (by rw [nle (by omega) (by omega)]; omega), f_byteOf _ _ _ hx]
      simp only [chk_true, bnd_just, bnd2_just, app_t, beq_self_eq_true, mK_wI, mK_wL, mK_wR, mK_wIr, mK_wLr, mN_wI, mN_wL, mN_wR, mN_wIr, mN_wLr, mR_wI, mR_wL, mR_wIr, mR_wLr, mI_wL, mI_wR, mI_wLr, mL_wI, mL_wR, mL_wIr]
      rw [f_letterOf _ _ (chr_lt w i), lI_some hlt]
      simp only [chk_true, bnd_just, bnd2_just, app_t, beq_self_eq_true, mK_wI, mK_wL, mK_wR, mK_wIr, mK_wLr, mN_wI, mN_wL, mN_wR, mN_wIr, mN_wLr, mR_wI, mR_wL, mR_wIr, mR_wLr, mI_wL, mI_wR, mI_wLr, mL_wI, mL_wR, mL_wIr, sk_27 hS, sk_30 hS, sn_30 hS, sr_27_4 hS, mI_wI]
      rw [zin_nI (by omega) (by omega), nI_clamp (by omega)]
      simp only [chk_true, bnd_just, bnd2_just, app_t, beq_self_eq_true, mK_wI, mK_wL, mK_wR, mK_wIr, mK_wLr, mN_wI, mN_wL, mN_wR, mN_wIr, mN_wLr, mR_wI, mR_wL, mR_wIr, mR_wLr, mI_wL, mI_wR, mI_wLr, mL_wI, mL_wR, mL_wIr]
      rw [if_neg (show ¬ (27 = 30 ∧ 0 = ts.length) from fun q => absurd q.1 (by decide)), t1, nI_1, nI_1]
    have hT' : TxtC (wI (wI M 30 ts.length (nI l)) 27 0 (nI (ts.length + 1))) (ts ++ [l]) := by
      refine ⟨by rw [mI_wI, if_pos ⟨rfl, rfl⟩]; simp, by simp; omega, fun j hj => ?_, fun c hc => ?_⟩
      · rw [List.length_append, List.length_singleton] at hj
        rw [getD_app hj, mI_wI, if_neg (fun q => absurd q.1 (by decide)), mI_wI]
        by_cases h : j = ts.length
        · rw [if_pos ⟨rfl, h⟩, if_pos h]
        · rw [if_neg (fun q => h q.2), if_neg h]; exact t3 j (by omega)
      · rcases List.mem_append.mp hc with q | q
        · exact t4 c q
        · rw [List.mem_singleton] at q; rw [q]; exact ltr_lt hlt
    obtain ⟨M', r1, r2, r3, r5, r4⟩ := ih n (i + 1) f _ (ts ++ [l]) w (Sta_wI (Sta_wI hS _ _ _) _ _ _) hT' (by omega) hn (by simp; omega) (by omega) ha.2
    refine ⟨M', e1.trans r1, ((Ch.rf.wI (by decide) _ _).wI (by decide) _ _).tr r2, fun k hk hk5 => ?_, r5, ?_⟩
    · rw [r3 k hk hk5, mI_wI, if_neg (fun q => hk q.2), mI_wI, if_neg (fun q => absurd q.1 (by decide))]
    · rw [lts_s, hlt]; simpa using r4
end ZFEED
