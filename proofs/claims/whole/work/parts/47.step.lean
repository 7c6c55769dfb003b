/-! a pattern's rows; what may follow a set; the letters' masks -/
section ZSTEP
def isP (P : Nat) : Prop := P = 47 ∨ P = 54 ∨ P = 61
theorem pK0 {M : zM} {P : Nat} (h : Sta M) (hP : isP P) : mK M P = 4 := by rcases hP with rfl | rfl | rfl <;> exact sK h (fun _ => rfl)
theorem pK1 {M : zM} {P : Nat} (h : Sta M) (hP : isP P) : mK M (P + 1) = 12 := by rcases hP with rfl | rfl | rfl <;> exact sK h (fun _ => rfl)
theorem pK2 {M : zM} {P : Nat} (h : Sta M) (hP : isP P) : mK M (P + 2) = 12 := by rcases hP with rfl | rfl | rfl <;> exact sK h (fun _ => rfl)
theorem pK3 {M : zM} {P : Nat} (h : Sta M) (hP : isP P) : mK M (P + 3) = 12 := by rcases hP with rfl | rfl | rfl <;> exact sK h (fun _ => rfl)
theorem pK4 {M : zM} {P : Nat} (h : Sta M) (hP : isP P) : mK M (P + 4) = 0 := by rcases hP with rfl | rfl | rfl <;> exact sK h (fun _ => rfl)
theorem pK5 {M : zM} {P : Nat} (h : Sta M) (hP : isP P) : mK M (P + 5) = 13 := by rcases hP with rfl | rfl | rfl <;> exact sK h (fun _ => rfl)
theorem pK6 {M : zM} {P : Nat} (h : Sta M) (hP : isP P) : mK M (P + 6) = 11 := by rcases hP with rfl | rfl | rfl <;> exact sK h (fun _ => rfl)
theorem pN1 {M : zM} {P : Nat} (h : Sta M) (hP : isP P) : mN M (P + 1) = 60 := by rcases hP with rfl | rfl | rfl <;> exact sN h (fun _ => rfl)
theorem pN2 {M : zM} {P : Nat} (h : Sta M) (hP : isP P) : mN M (P + 2) = 60 := by rcases hP with rfl | rfl | rfl <;> exact sN h (fun _ => rfl)
theorem pN3 {M : zM} {P : Nat} (h : Sta M) (hP : isP P) : mN M (P + 3) = 36 := by rcases hP with rfl | rfl | rfl <;> exact sN h (fun _ => rfl)
theorem pN5 {M : zM} {P : Nat} (h : Sta M) (hP : isP P) : mN M (P + 5) = 300 := by rcases hP with rfl | rfl | rfl <;> exact sN h (fun _ => rfl)
theorem pN6 {M : zM} {P : Nat} (h : Sta M) (hP : isP P) : mN M (P + 6) = 10800 := by rcases hP with rfl | rfl | rfl <;> exact sN h (fun _ => rfl)
theorem pR4 {M : zM} {P : Nat} (h : Sta M) (hP : isP P) : mR M P 4 = some (P + 1) := by rcases hP with rfl | rfl | rfl <;> exact sR h (by decide)
theorem pR5 {M : zM} {P : Nat} (h : Sta M) (hP : isP P) : mR M P 5 = some (P + 2) := by rcases hP with rfl | rfl | rfl <;> exact sR h (by decide)
theorem pR6 {M : zM} {P : Nat} (h : Sta M) (hP : isP P) : mR M P 6 = some (P + 3) := by rcases hP with rfl | rfl | rfl <;> exact sR h (by decide)
theorem pR7 {M : zM} {P : Nat} (h : Sta M) (hP : isP P) : mR M P 7 = some (P + 4) := by rcases hP with rfl | rfl | rfl <;> exact sR h (by decide)
theorem pA4 {M : zM} {P : Nat} (h : Sta M) (hP : isP P) : mR M (P + 4) 4 = some (P + 5) := by rcases hP with rfl | rfl | rfl <;> exact sR h (by decide)
theorem pA5 {M : zM} {P : Nat} (h : Sta M) (hP : isP P) : mR M (P + 4) 5 = some (P + 6) := by rcases hP with rfl | rfl | rfl <;> exact sR h (by decide)
theorem isP_le {P : Nat} (h : isP P) : 47 ≤ P ∧ P ≤ 61 := by rcases h with rfl | rfl | rfl <;> decide
/-- all that follow one of a set's positions below i -/
def orF (fo : Nat → Int64) (set : Int64) : Nat → Int64
  | 0 => 0
  | i + 1 => if jb set i then orF fo set i ||| fo i else orF fo set i
/-- the positions below i that have a letter -/
def havF (se : Nat → Int64) (l : Nat) : Nat → Int64
  | 0 => 0
  | i + 1 => if jb (se i) l then havF se l i ||| jshl 1 (nI i) else havF se l i
/-- without the positions below i that don't have a letter -/
def mskF (se : Nat → Int64) (l : Nat) (x : Int64) : Nat → Int64
  | 0 => x
  | i + 1 => if jb (se i) l then mskF se l x i else mskF se l x i &&& ((jshl 1 (nI i)) ^^^ (-1))
theorem orF_congr {fo fo' : Nat → Int64} {set : Int64} : ∀ {k : Nat}, (∀ i, i < k → fo i = fo' i) → orF fo set k = orF fo' set k := by
  intro k
  induction k with
  | zero => intro _; rfl
  | succ k ih => intro h; simp only [orF]; rw [ih (fun i hi => h i (by omega)), h k (by omega)]
theorem havF_congr {se se' : Nat → Int64} {l : Nat} : ∀ {k : Nat}, (∀ i, i < k → se i = se' i) → havF se l k = havF se' l k := by
  intro k
  induction k with
  | zero => intro _; rfl
  | succ k ih => intro h; simp only [havF]; rw [ih (fun i hi => h i (by omega)), h k (by omega)]
theorem mskF_congr {se se' : Nat → Int64} {l : Nat} {x : Int64} : ∀ {k : Nat}, (∀ i, i < k → se i = se' i) → mskF se l x k = mskF se' l x k := by
  intro k
  induction k with
  | zero => intro _; rfl
  | succ k ih => intro h; simp only [mskF]; rw [ih (fun i hi => h i (by omega)), h k (by omega)]
theorem jb_orF (fo : Nat → Int64) (set : Int64) (j : Nat) : ∀ k, jb (orF fo set k) j = true ↔ ∃ i, i < k ∧ jb set i = true ∧ jb (fo i) j = true := by
  intro k
  induction k with
  | zero => simp [orF, jb_0]
  | succ k ih =>
    simp only [orF]
    by_cases h : jb set k = true
    · rw [if_pos h, jb_or, Bool.or_eq_true, ih]
      constructor
      · rintro (⟨i, h1, h2, h3⟩ | h3)
        · exact ⟨i, by omega, h2, h3⟩
        · exact ⟨k, by omega, h, h3⟩
      · rintro ⟨i, h1, h2, h3⟩
        by_cases hi : i = k
        · subst hi; exact Or.inr h3
        · exact Or.inl ⟨i, by omega, h2, h3⟩
    · rw [if_neg h, ih]
      constructor
      · rintro ⟨i, h1, h2, h3⟩
        exact ⟨i, by omega, h2, h3⟩
      · rintro ⟨i, h1, h2, h3⟩
        by_cases hi : i = k
        · subst hi; exact absurd h2 h
        · exact ⟨i, by omega, h2, h3⟩
theorem jb_havF (se : Nat → Int64) (l j : Nat) (hj : j < 64) : ∀ k, k ≤ 64 → jb (havF se l k) j = (decide (j < k) && jb (se j) l) := by
  intro k
  induction k with
  | zero => intro _; simp [havF, jb_0]
  | succ k ih =>
    intro hk
    simp only [havF]
    by_cases h : jb (se k) l = true
    · rw [if_pos h, jb_or, ih (by omega), jb_one (by omega) hj]
      by_cases hjk : j = k
      · subst hjk; simp [h]
      · simp [hjk, show (j < k + 1) = (j < k) from propext ⟨fun _ => by omega, fun _ => by omega⟩]
    · rw [if_neg h, ih (by omega)]
      by_cases hjk : j = k
      · subst hjk; simp [h]
      · simp [show (j < k + 1) = (j < k) from propext ⟨fun _ => by omega, fun _ => by omega⟩]
theorem jb_mskF (se : Nat → Int64) (l j : Nat) (x : Int64) (hj : j < 64) : ∀ k, k ≤ 64 → jb (mskF se l x k) j = (jb x j && (decide (k ≤ j) || jb (se j) l)) := by
  intro k
  induction k with
  | zero => intro _; simp [mskF]
  | succ k ih =>
    intro hk
    simp only [mskF]
    by_cases h : jb (se k) l = true
    · rw [if_pos h, ih (by omega)]
      by_cases hjk : j = k
      · subst hjk; simp [h]
      · simp [show (k + 1 ≤ j) = (k ≤ j) from propext ⟨fun _ => by omega, fun _ => by omega⟩]
    · rw [if_neg h, jb_and, ih (by omega), jb_xor, jb_one (by omega) hj, jb_m1 hj]
      by_cases hjk : j = k
      · subst hjk; simp [h]
      · simp [hjk, show (k + 1 ≤ j) = (k ≤ j) from propext ⟨fun _ => by omega, fun _ => by omega⟩]
/-- both ways to take those that have the letter -/
theorem msk_hav {se : Nat → Int64} {l k : Nat} {x : Int64} (hk : k ≤ 64) (hx : ∀ j, jb x j = true → j < k) : mskF se l x k = x &&& havF se l k := by
  apply jb_ext
  intro j hj
  rw [jb_mskF se l j x hj k hk, jb_and, jb_havF se l j hj k hk]
  cases hb : jb x j with
  | false => rfl
  | true =>
    have := hx j hb
    simp [this, Nat.not_le.mpr this]
theorem m_hasBit (n : Nat) (M : zM) (x : Int64) {k : Nat} (hk : k < 64) : fX10_hasBit n M x (nI k) = some (bI (jb x k), M) := by
  unfold fX10_hasBit
  have h : (lg_cmp ((jshr x (nI k)) &&& (1 : Int64)) (1 : Int64)) = (0 : Int32) ↔ jb x k = true := by
    rw [lg0, and1, jb_shr0 x hk]
    cases jb x k <;> simp
  by_cases hb : jb x k = true
  · rw [if_pos (h.mpr hb), hb]; rfl
  · rw [if_neg (fun q => hb (h.mp q))]
    have : jb x k = false := by cases hq : jb x k <;> simp_all
    rw [this]; rfl
theorem c_behind {M : zM} {P k : Nat} (hS : Sta M) (hP : isP P) (hk : mI M P 0 = nI k) (hk60 : k ≤ 60) (set : Int64) : ∀ (m i fuel : Nat), i + m = k → m < fuel →
    fX4_behindAny_5 fuel M P set (orF (mL M (P + 1)) set i) (nI i) = some (orF (mL M (P + 1)) set k, M) := by
  intro m
  induction m with
  | zero =>
    intro i fuel hi hf
    obtain ⟨f, rfl⟩ : ∃ f, fuel = f + 1 := ⟨fuel - 1, by omega⟩
    rw [fX4_behindAny_5, hk]
    simp only [chk_true, bnd_just, bnd2_just, app_t, beq_self_eq_true, mK_wI, mK_wL, mK_wR, mK_wIr, mK_wLr, mN_wI, mN_wL, mN_wR, mN_wIr, mN_wLr, mR_wI, mR_wL, mR_wIr, mR_wLr, mI_wL, mI_wR, mI_wLr, mL_wI, mL_wR, mL_wIr, pK0 hS hP]
    rw [if_pos (by rw [nle (by omega) (by omega)]; omega), show i = k by omega]
  | succ m ih =>
    intro i fuel hi hf
    obtain ⟨f, rfl⟩ : ∃ f, fuel = f + 1 := ⟨fuel - 1, by omega⟩
    rw [fX4_behindAny_5, hk, f_holds _ _ _ (by omega)]
    unfold fX4_behindAny_33
    simp only [chk_true, bnd_just, bnd2_just, app_t, beq_self_eq_true, mK_wI, mK_wL, mK_wR, mK_wIr, mK_wLr, mN_wI, mN_wL, mN_wR, mN_wIr, mN_wLr, mR_wI, mR_wL, mR_wIr, mR_wLr, mI_wL, mI_wR, mI_wLr, mL_wI, mL_wR, mL_wIr, pK0 hS hP, pR4 hS hP, pK1 hS hP, pN1 hS hP]
    rw [if_neg (by rw [nle (by omega) (by omega)]; omega), zin_nI (by omega) (by omega), nI_clamp (by omega), nI_1, chk_true]
    have h9 := ih (i + 1) f (by omega) (by omega)
    simp only [orF] at h9
    by_cases hb : jb set i = true
    · rw [if_pos hb] at h9
      rw [hb, if_neg (by decide)]; exact h9
    · rw [if_neg hb] at h9
      have : jb set i = false := by cases hq : jb set i <;> simp_all
      rw [this, if_pos (by decide)]; exact h9
theorem c_behindAny {M : zM} {P k : Nat} (hS : Sta M) (hP : isP P) (hk : mI M P 0 = nI k) (hk60 : k ≤ 60) (set : Int64) (N : Nat) (hN : 61 ≤ N) : fX4_behindAny N M P set = some (orF (mL M (P + 1)) set k, M) := by
  unfold fX4_behindAny
  rw [i0]
  exact c_behind hS hP hk hk60 set k 0 N (by omega) (by omega)
theorem c_havers {M : zM} {P k : Nat} (hS : Sta M) (hP : isP P) (hk : mI M P 0 = nI k) (hk60 : k ≤ 60) {l : Nat} (hl : l < 36) : ∀ (m i fuel : Nat), i + m = k → m < fuel →
    fX4_haversOf_5 fuel M P (nI l) (havF (mL M (P + 2)) l i) (nI i) = some (havF (mL M (P + 2)) l k, M) := by
  intro m
  induction m with
  | zero =>
    intro i fuel hi hf
    obtain ⟨f, rfl⟩ : ∃ f, fuel = f + 1 := ⟨fuel - 1, by omega⟩
    rw [fX4_haversOf_5, hk]
    simp only [chk_true, bnd_just, bnd2_just, app_t, beq_self_eq_true, mK_wI, mK_wL, mK_wR, mK_wIr, mK_wLr, mN_wI, mN_wL, mN_wR, mN_wIr, mN_wLr, mR_wI, mR_wL, mR_wIr, mR_wLr, mI_wL, mI_wR, mI_wLr, mL_wI, mL_wR, mL_wIr, pK0 hS hP]
    rw [if_pos (by rw [nle (by omega) (by omega)]; omega), show i = k by omega]
  | succ m ih =>
    intro i fuel hi hf
    obtain ⟨f, rfl⟩ : ∃ f, fuel = f + 1 := ⟨fuel - 1, by omega⟩
    rw [fX4_haversOf_5, hk]
    unfold fX4_haversOf_35
    simp only [chk_true, bnd_just, bnd2_just, app_t, beq_self_eq_true, mK_wI, mK_wL, mK_wR, mK_wIr, mK_wLr, mN_wI, mN_wL, mN_wR, mN_wIr, mN_wLr, mR_wI, mR_wL, mR_wIr, mR_wLr, mI_wL, mI_wR, mI_wLr, mL_wI, mL_wR, mL_wIr, pK0 hS hP, pR5 hS hP, pK2 hS hP, pN2 hS hP]
    rw [if_neg (by rw [nle (by omega) (by omega)]; omega), zin_nI (by omega) (by omega), nI_clamp (by omega), chk_true, f_holds _ _ _ (by omega), bnd2_just, nI_1]
    have h9 := ih (i + 1) f (by omega) (by omega)
    simp only [havF] at h9
    by_cases hb : jb (mL M (P + 2) i) l = true
    · rw [if_pos hb] at h9
      rw [hb, if_neg (by decide)]; exact h9
    · rw [if_neg hb] at h9
      have : jb (mL M (P + 2) i) l = false := by cases hq : jb (mL M (P + 2) i) l <;> simp_all
      rw [this, if_pos (by decide)]; exact h9
end ZSTEP
