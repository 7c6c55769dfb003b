/-! evaluation by rewriting, side conditions by omega -/
section ZAUTO
theorem q_le {a b : Nat} (h : a ≤ b) (hb : b < 2 ^ 31) : (nI a ≤ nI b) = True := eq_true ((nI_leI (by omega) hb).mpr h)
theorem q_nle {a b : Nat} (h : b < a) (ha : a < 2 ^ 31) : (nI a ≤ nI b) = False := eq_false (fun q => by have := (nI_leI ha (by omega)).mp q; omega)
theorem q_lt {a b : Nat} (h : a < b) (hb : b < 2 ^ 31) : (nI a < nI b) = True := eq_true ((nI_ltI (by omega) hb).mpr h)
theorem q_nlt {a b : Nat} (h : b ≤ a) (ha : a < 2 ^ 31) : (nI a < nI b) = False := eq_false (fun q => by have := (nI_ltI ha (by omega)).mp q; omega)
theorem q_neq {a b : Nat} (h : a ≠ b) (ha : a < 2 ^ 31) (hb : b < 2 ^ 31) : (nI a = nI b) = False := eq_false (fun q => h ((nI_eq ha hb).mp q))
theorem mI_e {M : zM} {a k b j : Nat} {v : Int32} (h1 : b = a) (h2 : j = k) : mI (wI M a k v) b j = v := if_pos ⟨h1, h2⟩
theorem mI_n {M : zM} {a k b j : Nat} {v : Int32} (h : ¬ (b = a ∧ j = k)) : mI (wI M a k v) b j = mI M b j := if_neg h
theorem mL_e {M : zM} {a k b j : Nat} {v : Int64} (h1 : b = a) (h2 : j = k) : mL (wL M a k v) b j = v := if_pos ⟨h1, h2⟩
theorem mL_n {M : zM} {a k b j : Nat} {v : Int64} (h : ¬ (b = a ∧ j = k)) : mL (wL M a k v) b j = mL M b j := if_neg h
theorem mR_e {M : zM} {a k b j : Nat} {v : Option Nat} (h1 : b = a) (h2 : j = k) : mR (wR M a k v) b j = v := if_pos ⟨h1, h2⟩
theorem mR_n {M : zM} {a k b j : Nat} {v : Option Nat} (h : ¬ (b = a ∧ j = k)) : mR (wR M a k v) b j = mR M b j := if_neg h
def iM : Int32 := -1
theorem neg1 : (-1 : Int32) = iM := rfl
theorem q_eM {a : Nat} (h : a < 2 ^ 31) : (nI a = iM) = False := eq_false (nI_m1 h)
theorem q_Me {a : Nat} (h : a < 2 ^ 31) : (iM = nI a) = False := eq_false (fun q => nI_m1 h q.symm)
theorem q_Mlt {a : Nat} (h : a < 2 ^ 31) : (iM < nI a) = True := eq_true (by
  rw [Int32.lt_iff_toInt_lt, nI_toInt h]
  have : iM.toInt = -1 := by decide
  omega)
theorem q_Mle {a : Nat} (h : a < 2 ^ 31) : (iM ≤ nI a) = True := eq_true (by
  rw [Int32.le_iff_toInt_le, nI_toInt h]
  have : iM.toInt = -1 := by decide
  omega)
theorem q_leM {a : Nat} (h : a < 2 ^ 31) : (nI a ≤ iM) = False := eq_false (fun q => by
  rw [Int32.le_iff_toInt_le, nI_toInt h] at q
  have : iM.toInt = -1 := by decide
  omega)
theorem q_ltM {a : Nat} (h : a < 2 ^ 31) : (nI a < iM) = False := eq_false (fun q => by
  rw [Int32.lt_iff_toInt_lt, nI_toInt h] at q
  have : iM.toInt = -1 := by decide
  omega)
theorem lI_no {c : Nat} (h : ltr c = none) : lI c = iM := lI_none h
theorem il_2 : (2 : Int32) = nI 2 := by decide
theorem il_3 : (3 : Int32) = nI 3 := by decide
theorem il_4 : (4 : Int32) = nI 4 := by decide
theorem il_5 : (5 : Int32) = nI 5 := by decide
theorem il_6 : (6 : Int32) = nI 6 := by decide
theorem il_7 : (7 : Int32) = nI 7 := by decide
theorem il_8 : (8 : Int32) = nI 8 := by decide
theorem il_9 : (9 : Int32) = nI 9 := by decide
theorem il_26 : (26 : Int32) = nI 26 := by decide
theorem il_35 : (35 : Int32) = nI 35 := by decide
theorem il_36 : (36 : Int32) = nI 36 := by decide
theorem il_40 : (40 : Int32) = nI 40 := by decide
theorem il_41 : (41 : Int32) = nI 41 := by decide
theorem il_42 : (42 : Int32) = nI 42 := by decide
theorem il_43 : (43 : Int32) = nI 43 := by decide
theorem il_44 : (44 : Int32) = nI 44 := by decide
theorem il_45 : (45 : Int32) = nI 45 := by decide
theorem il_46 : (46 : Int32) = nI 46 := by decide
theorem il_48 : (48 : Int32) = nI 48 := by decide
theorem il_57 : (57 : Int32) = nI 57 := by decide
theorem il_60 : (60 : Int32) = nI 60 := by decide
theorem il_63 : (63 : Int32) = nI 63 := by decide
theorem il_91 : (91 : Int32) = nI 91 := by decide
theorem il_93 : (93 : Int32) = nI 93 := by decide
theorem il_94 : (94 : Int32) = nI 94 := by decide
theorem il_97 : (97 : Int32) = nI 97 := by decide
theorem il_120 : (120 : Int32) = nI 120 := by decide
theorem il_122 : (122 : Int32) = nI 122 := by decide
theorem il_123 : (123 : Int32) = nI 123 := by decide
theorem il_124 : (124 : Int32) = nI 124 := by decide
theorem il_125 : (125 : Int32) = nI 125 := by decide
theorem il_200 : (200 : Int32) = nI 200 := by decide
theorem il_255 : (255 : Int32) = nI 255 := by decide
theorem il_300 : (300 : Int32) = nI 300 := by decide
theorem il_600 : (600 : Int32) = nI 600 := by decide
theorem il_1023 : (1023 : Int32) = nI 1023 := by decide
theorem il_1024 : (1024 : Int32) = nI 1024 := by decide
theorem il_10800 : (10800 : Int32) = nI 10800 := by decide
theorem bI_t : bI true = nI 1 := by decide
theorem bI_f : bI false = nI 0 := by decide
theorem z01_0 : z01 (nI 0) = true := by decide
theorem z01_1 : z01 (nI 1) = true := by decide
theorem jb_f {x : Int64} {k : Nat} (h : ¬ jb x k = true) : jb x k = false := by cases hq : jb x k <;> simp_all
theorem suc (n : Nat) (h : 0 < n) : ∃ m, n = m + 1 := ⟨n - 1, by omega⟩
/-- what stands in the rows and choices -/
theorem rowR {M : zM} (h : Sta M) {d : Nat} (hd : d < 9) : mR M 7 d = some (9 + 2 * d) := by
  have : d = 0 ∨ d = 1 ∨ d = 2 ∨ d = 3 ∨ d = 4 ∨ d = 5 ∨ d = 6 ∨ d = 7 ∨ d = 8 := by omega
  rcases this with rfl | rfl | rfl | rfl | rfl | rfl | rfl | rfl | rfl <;> exact sR h (by decide)
theorem choR {M : zM} (h : Sta M) {d : Nat} (hd : d < 9) : mR M 8 d = some (10 + 2 * d) := by
  have : d = 0 ∨ d = 1 ∨ d = 2 ∨ d = 3 ∨ d = 4 ∨ d = 5 ∨ d = 6 ∨ d = 7 ∨ d = 8 := by omega
  rcases this with rfl | rfl | rfl | rfl | rfl | rfl | rfl | rfl | rfl <;> exact sR h (by decide)
theorem rowK {M : zM} (h : Sta M) {d : Nat} (hd : d < 9) : mK M (9 + 2 * d) = 5 := by
  have : d = 0 ∨ d = 1 ∨ d = 2 ∨ d = 3 ∨ d = 4 ∨ d = 5 ∨ d = 6 ∨ d = 7 ∨ d = 8 := by omega
  rcases this with rfl | rfl | rfl | rfl | rfl | rfl | rfl | rfl | rfl <;> exact sK h (fun _ => rfl)
theorem choK {M : zM} (h : Sta M) {d : Nat} (hd : d < 9) : mK M (10 + 2 * d) = 5 := by
  have : d = 0 ∨ d = 1 ∨ d = 2 ∨ d = 3 ∨ d = 4 ∨ d = 5 ∨ d = 6 ∨ d = 7 ∨ d = 8 := by omega
  rcases this with rfl | rfl | rfl | rfl | rfl | rfl | rfl | rfl | rfl <;> exact sK h (fun _ => rfl)
/-- what follows, once the ends lead to the begins -/
def conF (fo : Nat → Int64) (e b : Int64) (p : Nat) : Int64 := if jb e p then fo p ||| b else fo p
theorem c_con {P : Nat} (hP : isP P) (e b : Int64) {k : Nat} (hk : k ≤ 60) (fo : Nat → Int64) : ∀ (m i fuel : Nat) (M : zM), Sta M → mI M P 0 = nI k → (∀ j, j < k → mL M (P + 1) j = if j < i then conF fo e b j else fo j) → i + m = k → m < fuel →
    ∃ M', fX4_connect_3 fuel M P e b (nI i) = some ((), M') ∧ Ch [P + 1] M M' ∧ ∀ j, j < k → mL M' (P + 1) j = conF fo e b j := by
  intro m
  induction m with
  | zero =>
    intro i fuel M hS hs hr hi hf
    obtain ⟨f, rfl⟩ := suc fuel (by omega)
    refine ⟨M, ?_, Ch.rf, fun j hj => by rw [hr j hj, if_pos (by omega)]⟩
    rw [fX4_connect_3]
    simp (disch := omega) only [q_eM, q_Me, q_Mlt, q_Mle, q_leM, q_ltM, q_le, q_nle, q_lt, q_nlt, q_neq, zin_nI, nI_clamp, nI_add, pk_mul, pk_sub, mI_e, mI_n, mL_e, mL_n, mR_e, mR_n, i0, i1, ↓reduceIte, ↓bI_t, ↓bI_f, Bool.false_eq_true, eq_self, chk_true, bnd_just, bnd2_just, app_t, beq_self_eq_true, mK_wI, mK_wL, mK_wR, mK_wIr, mK_wLr, mN_wI, mN_wL, mN_wR, mN_wIr, mN_wLr, mR_wI, mR_wL, mR_wIr, mR_wLr, mI_wL, mI_wR, mI_wLr, mL_wI, mL_wR, mL_wIr, pK0 hS hP, hs]
  | succ m ih =>
    intro i fuel M hS hs hr hi hf
    obtain ⟨f, rfl⟩ := suc fuel (by omega)
    obtain ⟨hP1, hP2⟩ := isP_le hP
    by_cases hb : jb e i = true
    · obtain ⟨M', r1, r2, r3⟩ := ih (i + 1) f (wL M (P + 1) i (fo i ||| b)) hS (by rw [mI_wL]; exact hs) (fun j hj => by
        by_cases hj' : j = i
        · rw [mL_e rfl hj', if_pos (by omega), hj', conF, if_pos hb]
        · rw [mL_n (by omega), hr j hj]
          by_cases h2 : j < i
          · rw [if_pos h2, if_pos (by omega)]
          · rw [if_neg h2, if_neg (by omega)]) (by omega) (by omega)
      refine ⟨M', ?_, (Ch.rf.wL (by simp) _ _).tr r2, r3⟩
      rw [fX4_connect_3]
      unfold fX4_connect_34
      have ht : ¬ (lg_cmp ((jushr e (nI i)) &&& (1 : Int64)) (0 : Int64)) = (0 : Int32) := fun q => by rw [tst (by omega)] at q; rw [q] at hb; cases hb
      rw [if_neg ht]
      simp (disch := omega) only [q_eM, q_Me, q_Mlt, q_Mle, q_leM, q_ltM, q_le, q_nle, q_lt, q_nlt, q_neq, zin_nI, nI_clamp, nI_add, pk_mul, pk_sub, mI_e, mI_n, mL_e, mL_n, mR_e, mR_n, i0, i1, ↓reduceIte, ↓bI_t, ↓bI_f, Bool.false_eq_true, eq_self, chk_true, bnd_just, bnd2_just, app_t, beq_self_eq_true, mK_wI, mK_wL, mK_wR, mK_wIr, mK_wLr, mN_wI, mN_wL, mN_wR, mN_wIr, mN_wLr, mR_wI, mR_wL, mR_wIr, mR_wLr, mI_wL, mI_wR, mI_wLr, mL_wI, mL_wR, mL_wIr, pK0 hS hP, hs, pR4 hS hP, pK1 hS hP, pN1 hS hP, hr i (by omega)]
      rw [if_neg (by omega)]; exact r1
    · obtain ⟨M', r1, r2, r3⟩ := ih (i + 1) f M hS hs (fun j hj => by
        rw [hr j hj]
        by_cases h2 : j < i
        · rw [if_pos h2, if_pos (by omega)]
        · rw [if_neg h2]
          by_cases h3 : j = i
          · rw [if_pos (by omega), h3, conF, if_neg hb]
          · rw [if_neg (by omega)]) (by omega) (by omega)
      refine ⟨M', ?_, r2, r3⟩
      rw [fX4_connect_3]
      unfold fX4_connect_34
      have ht : (lg_cmp ((jushr e (nI i)) &&& (1 : Int64)) (0 : Int64)) = (0 : Int32) := (tst (by omega)).mpr (jb_f hb)
      rw [if_pos ht]
      simp (disch := omega) only [q_eM, q_Me, q_Mlt, q_Mle, q_leM, q_ltM, q_le, q_nle, q_lt, q_nlt, q_neq, zin_nI, nI_clamp, nI_add, pk_mul, pk_sub, mI_e, mI_n, mL_e, mL_n, mR_e, mR_n, i0, i1, ↓reduceIte, ↓bI_t, ↓bI_f, Bool.false_eq_true, eq_self, chk_true, bnd_just, bnd2_just, app_t, beq_self_eq_true, mK_wI, mK_wL, mK_wR, mK_wIr, mK_wLr, mN_wI, mN_wL, mN_wR, mN_wIr, mN_wLr, mR_wI, mR_wL, mR_wIr, mR_wLr, mI_wL, mI_wR, mI_wLr, mL_wI, mL_wR, mL_wIr, pK0 hS hP, hs]
      exact r1
theorem c_connect {P : Nat} (hP : isP P) (e b : Int64) {k : Nat} (hk : k ≤ 60) {fo : Nat → Int64} {M : zM} (hS : Sta M) (hs : mI M P 0 = nI k) (hr : ∀ j, j < k → mL M (P + 1) j = fo j) (N : Nat) (hN : 61 ≤ N) :
    ∃ M', fX4_connect N M P e b = some ((), M') ∧ Ch [P + 1] M M' ∧ ∀ j, j < k → mL M' (P + 1) j = conF fo e b j := by
  unfold fX4_connect
  rw [i0]
  exact c_con hP e b hk fo k 0 N M hS hs (fun j hj => by rw [if_neg (by omega)]; exact hr j hj) (by omega) (by omega)
end ZAUTO
