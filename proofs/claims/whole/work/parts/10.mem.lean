/-! MY MEMORY: what the objects of the world hold, by number and place; the world that it stands for; the judgement zW over it. -/
section ZMEM
/-- kinds and lengths; ints; longs; references -/
abbrev zM : Type := List (Nat × Nat) × (Nat → Nat → Int32) × (Nat → Nat → Int64) × (Nat → Nat → Option Nat)
def mK (M : zM) (a : Nat) : Nat := (M.1.getD a (99, 0)).1
def mN (M : zM) (a : Nat) : Nat := (M.1.getD a (99, 0)).2
def mI (M : zM) (a k : Nat) : Int32 := M.2.1 a k
def mL (M : zM) (a k : Nat) : Int64 := M.2.2.1 a k
def mR (M : zM) (a k : Nat) : Option Nat := M.2.2.2 a k
def wI (M : zM) (a k : Nat) (v : Int32) : zM := (M.1, (fun b j => if b = a ∧ j = k then v else M.2.1 b j), M.2.2.1, M.2.2.2)
def wL (M : zM) (a k : Nat) (v : Int64) : zM := (M.1, M.2.1, (fun b j => if b = a ∧ j = k then v else M.2.2.1 b j), M.2.2.2)
def wR (M : zM) (a k : Nat) (v : Option Nat) : zM := (M.1, M.2.1, M.2.2.1, fun b j => if b = a ∧ j = k then v else M.2.2.2 b j)
/-- a whole row of ints -/
def wIr (M : zM) (a : Nat) (f : Nat → Int32) : zM := (M.1, (fun b j => if b = a then f j else M.2.1 b j), M.2.2.1, M.2.2.2)
/-- one thing more, all zero -/
def mNew (M : zM) (kd len : Nat) : zM := (M.1 ++ [(kd, len)], (fun b j => if b = M.1.length then 0 else M.2.1 b j), (fun b j => if b = M.1.length then 0 else M.2.2.1 b j), fun b j => if b = M.1.length then none else M.2.2.2 b j)
theorem mK_wI (M : zM) (a k : Nat) (v : Int32) (b : Nat) : mK (wI M a k v) b = mK M b := rfl
theorem mK_wL (M : zM) (a k : Nat) (v : Int64) (b : Nat) : mK (wL M a k v) b = mK M b := rfl
theorem mK_wR (M : zM) (a k : Nat) (v : Option Nat) (b : Nat) : mK (wR M a k v) b = mK M b := rfl
theorem mK_wIr (M : zM) (a : Nat) (f : Nat → Int32) (b : Nat) : mK (wIr M a f) b = mK M b := rfl
theorem mN_wI (M : zM) (a k : Nat) (v : Int32) (b : Nat) : mN (wI M a k v) b = mN M b := rfl
theorem mN_wL (M : zM) (a k : Nat) (v : Int64) (b : Nat) : mN (wL M a k v) b = mN M b := rfl
theorem mN_wR (M : zM) (a k : Nat) (v : Option Nat) (b : Nat) : mN (wR M a k v) b = mN M b := rfl
theorem mN_wIr (M : zM) (a : Nat) (f : Nat → Int32) (b : Nat) : mN (wIr M a f) b = mN M b := rfl
theorem mI_wI (M : zM) (a k : Nat) (v : Int32) (b j : Nat) : mI (wI M a k v) b j = if b = a ∧ j = k then v else mI M b j := rfl
theorem mI_wL (M : zM) (a k : Nat) (v : Int64) (b j : Nat) : mI (wL M a k v) b j = mI M b j := rfl
theorem mI_wR (M : zM) (a k : Nat) (v : Option Nat) (b j : Nat) : mI (wR M a k v) b j = mI M b j := rfl
theorem mI_wIr (M : zM) (a : Nat) (f : Nat → Int32) (b j : Nat) : mI (wIr M a f) b j = if b = a then f j else mI M b j := rfl
theorem mL_wI (M : zM) (a k : Nat) (v : Int32) (b j : Nat) : mL (wI M a k v) b j = mL M b j := rfl
theorem mL_wL (M : zM) (a k : Nat) (v : Int64) (b j : Nat) : mL (wL M a k v) b j = if b = a ∧ j = k then v else mL M b j := rfl
theorem mL_wR (M : zM) (a k : Nat) (v : Option Nat) (b j : Nat) : mL (wR M a k v) b j = mL M b j := rfl
theorem mL_wIr (M : zM) (a : Nat) (f : Nat → Int32) (b j : Nat) : mL (wIr M a f) b j = mL M b j := rfl
theorem mR_wI (M : zM) (a k : Nat) (v : Int32) (b j : Nat) : mR (wI M a k v) b j = mR M b j := rfl
theorem mR_wL (M : zM) (a k : Nat) (v : Int64) (b j : Nat) : mR (wL M a k v) b j = mR M b j := rfl
theorem mR_wR (M : zM) (a k : Nat) (v : Option Nat) (b j : Nat) : mR (wR M a k v) b j = if b = a ∧ j = k then v else mR M b j := rfl
theorem mR_wIr (M : zM) (a : Nat) (f : Nat → Int32) (b j : Nat) : mR (wIr M a f) b j = mR M b j := rfl
/-- where it stands: behind which address, the script's address, its length, its ints -/
abbrev zB : Type := Nat × Nat × Nat × (Nat → Int32)
/-- a number stands at an address; number 0 is the script -/
def zad (base : zB) (a : Nat) : Nat := if a = 0 then base.2.1 else base.1 + a
def zv (base : zB) (v : Value) : Value := match v with
  | .ref a => .ref (zad base a)
  | v => v
theorem zad_inj {base : zB} (hb : base.2.1 ≤ base.1) {a b : Nat} (h : zad base a = zad base b) : a = b := by
  unfold zad at h
  split at h <;> split at h <;> omega
theorem zv_cat (base : zB) (v : Value) : (zv base v).category = v.category := by cases v <;> rfl
/-- what a place of a type holds -/
def zf (M : zM) (a : Nat) (ty : FieldType) (j : Nat) : Value := match ty with
  | .long => .long (mL M a j)
  | .object _ => va_rf (mR M a j)
  | .array _ => va_rf (mR M a j)
  | _ => .int (mI M a j)
def zty (ci : Nat) : Nat → FieldType := match ci with
  | 0 => tyX0
  | 1 => tyX1
  | 2 => tyX2
  | 3 => tyX3
  | 4 => tyX4
  | 5 => tyX5
  | 6 => tyX6
  | 7 => tyX7
  | 8 => tyX8
  | 9 => tyX9
  | _ => tyX10
def znf (ci : Nat) : Nat := [6, 9, 2, 7, 8, 4, 13, 4, 6, 8, 43].getD ci 0
def zcell (cy : Nat → ClassId) (base : zB) (M : zM) (a : Nat) : va_E :=
  if mK M a < 11 then .inr (mK M a, (List.range (znf (mK M a))).map (fun j => zv base (zf M a (zty (mK M a) j) j)))
  else if mK M a = 11 then .inl (cy 0, mN M a, .inl (mI M a))
  else if mK M a = 12 then .inl (cy 1, mN M a, .inr (.inl (mL M a)))
  else if mK M a = 13 then .inl (cy 2, mN M a, .inl (mI M a))
  else .inl (cy (mK M a - 11), mN M a, .inr (.inr (.inr (.inr (fun j => (mR M a j).map (fun r => zad base r))))))
def zw (cy : Nat → ClassId) (base : zB) (M : zM) : va_W := (List.range (M.1.length - 1)).map (fun a => (base.1 + (a + 1), zcell cy base M (a + 1)))
theorem zw_get (cy : Nat → ClassId) (base : zB) (M : zM) {a : Nat} (h0 : 0 < a) (h : a < M.1.length) : (zw cy base M)[a - 1]? = some (zad base a, zcell cy base M a) := by
  obtain ⟨b, rfl⟩ : ∃ b, a = b + 1 := ⟨a - 1, by omega⟩
  have hb : b < M.1.length - 1 := by omega
  simp [zw, zad, hb]
theorem zw_put (cy : Nat → ClassId) (base : zB) (M M' : zM) (a : Nat) (h0 : 0 < a) (h1 : M'.1.length = M.1.length) (h2 : ∀ b, b ≠ a → zcell cy base M' b = zcell cy base M b) : zw cy base M' = (zw cy base M).set (a - 1) (zad base a, zcell cy base M' a) := by
  obtain ⟨c, rfl⟩ : ∃ c, a = c + 1 := ⟨a - 1, by omega⟩
  refine List.ext_getElem? (fun k => ?_)
  simp only [zw, h1, List.getElem?_map, List.getElem?_set, List.length_map, List.length_range, Nat.add_sub_cancel, zad, Nat.succ_ne_zero, if_false]
  by_cases hk : c = k
  · subst hk
    by_cases hl : c < M.1.length - 1
    · simp [hl]
    · simp [hl]
  · rw [if_neg hk]
    by_cases hl : k < M.1.length - 1
    · simp [hl, h2 (k + 1) (fun h => hk (by omega))]
    · simp [hl]
theorem mK_lt {M : zM} {a : Nat} (h : mK M a < 99) : a < M.1.length := by
  rcases Nat.lt_or_ge a M.1.length with q | q
  · exact q
  · have h2 : M.1[a]? = none := List.getElem?_eq_none q
    rw [mK, List.getD_eq_getElem?_getD, h2] at h
    exact absurd h (by decide)
def zA (base : zB) : Nat → Prop := fun q => base.1 < q
theorem zw_D (cy : Nat → ClassId) (base : zB) (M : zM) : va_D (zA base) (zw cy base M) := by
  refine ⟨fun i j p q hi hj e => ?_, fun k q hk => ?_⟩
  · simp only [zw, List.getElem?_map, Option.map_eq_some_iff] at hi hj
    obtain ⟨a, ha, rfl⟩ := hi
    obtain ⟨b, hb, rfl⟩ := hj
    have h1 := (List.getElem?_eq_some_iff.mp ha).2
    have h2 := (List.getElem?_eq_some_iff.mp hb).2
    simp only [List.getElem_range] at h1 h2
    dsimp only at e
    omega
  · simp only [zw, List.getElem?_map, Option.map_eq_some_iff] at hk
    obtain ⟨a, ha, rfl⟩ := hk
    show base.1 < base.1 + (a + 1)
    omega
/-- the rows of the world by their kinds -/
theorem zcell_o (cy : Nat → ClassId) (base : zB) {M : zM} {a ci : Nat} (h : mK M a = ci) (hc : ci < 11) : zcell cy base M a = .inr (ci, (List.range (znf ci)).map (fun j => zv base (zf M a (zty ci j) j))) := by
  subst h; simp [zcell, hc]
theorem zcell_i (cy : Nat → ClassId) (base : zB) {M : zM} {a : Nat} (h : mK M a = 11) : zcell cy base M a = .inl (cy 0, mN M a, .inl (mI M a)) := by simp [zcell, h]
theorem zcell_l (cy : Nat → ClassId) (base : zB) {M : zM} {a : Nat} (h : mK M a = 12) : zcell cy base M a = .inl (cy 1, mN M a, .inr (.inl (mL M a))) := by simp [zcell, h]
theorem zcell_z (cy : Nat → ClassId) (base : zB) {M : zM} {a : Nat} (h : mK M a = 13) : zcell cy base M a = .inl (cy 2, mN M a, .inl (mI M a)) := by simp [zcell, h]
theorem zcell_q (cy : Nat → ClassId) (base : zB) {M : zM} {a k : Nat} (h : mK M a = k) (hk : 13 < k) : zcell cy base M a = .inl (cy (k - 11), mN M a, .inr (.inr (.inr (.inr (fun j => (mR M a j).map (fun r => zad base r)))))) := by
  subst h
  simp [zcell, show ¬ mK M a < 11 by omega, show ¬ mK M a = 11 by omega, show ¬ mK M a = 12 by omega, show ¬ mK M a = 13 by omega]
/-- a cell depends on its own rows alone -/
theorem zcell_eq (cy : Nat → ClassId) (base : zB) {M M' : zM} {b : Nat} (h1 : mK M' b = mK M b) (h2 : mN M' b = mN M b) (h3 : ∀ j, mI M' b j = mI M b j) (h4 : ∀ j, mL M' b j = mL M b j) (h5 : ∀ j, mR M' b j = mR M b j) : zcell cy base M' b = zcell cy base M b := by
  have e3 : mI M' b = mI M b := funext h3
  have e4 : mL M' b = mL M b := funext h4
  have e5 : mR M' b = mR M b := funext h5
  have ez : ∀ ty j, zf M' b ty j = zf M b ty j := fun ty j => by cases ty <;> simp [zf, h3, h4, h5]
  simp [zcell, h1, h2, e3, e4, e5, ez]
/-- the fields of an object behind a write -/
theorem zfs_set (base : zB) {M M' : zM} {a ci k : Nat} {v : Value} (hk : zf M' a (zty ci k) k = v) (ho : ∀ j, j ≠ k → zf M' a (zty ci j) j = zf M a (zty ci j) j) :
    (List.range (znf ci)).map (fun j => zv base (zf M' a (zty ci j) j)) = ((List.range (znf ci)).map (fun j => zv base (zf M a (zty ci j) j))).set k (zv base v) := by
  refine List.ext_getElem? (fun i => ?_)
  simp only [List.getElem?_map, List.getElem?_set, List.length_map, List.length_range]
  by_cases hi : k = i
  · subst hi
    by_cases hl : k < znf ci
    · simp [hl, hk]
    · simp [hl]
  · rw [if_neg hi]
    by_cases hl : i < znf ci
    · simp [hl, ho i (fun h => hi h.symm)]
    · simp [hl]
end ZMEM
