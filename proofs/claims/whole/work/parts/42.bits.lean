/-! bits of longs, counters, small values of the two classes (wb_cu, wb_c, wb_sm: rows of kit/laws/BITS.to-paste) -/
section ZBITS
theorem wb_c : ∀ k, k < 64 → ((nI k).toInt64 &&& 63) = lN k := by decide +kernel
theorem wb_cu : ∀ k, k < 64 → ((nI k).toInt64.toUInt64 &&& Int64.toUInt64 63) = UInt64.ofNat k := by decide +kernel
theorem wb_sm : ∀ k, k < 64 → (BitVec.ofNat 64 k).smod 64 = BitVec.ofNat 64 k := by decide +kernel
/-- bit k -/
def jb (x : Int64) (k : Nat) : Bool := x.toBitVec.getLsbD k
theorem jb_ext {x y : Int64} (h : ∀ k, k < 64 → jb x k = jb y k) : x = y := Int64.toBitVec_inj.mp (BitVec.eq_of_getLsbD_eq (fun i hi => h i hi))
theorem jb_or (x y : Int64) (k : Nat) : jb (x ||| y) k = (jb x k || jb y k) := by unfold jb; rw [Int64.toBitVec_or, BitVec.getLsbD_or]
theorem jb_and (x y : Int64) (k : Nat) : jb (x &&& y) k = (jb x k && jb y k) := by unfold jb; rw [Int64.toBitVec_and, BitVec.getLsbD_and]
theorem jb_xor (x y : Int64) (k : Nat) : jb (x ^^^ y) k = (jb x k ^^ jb y k) := by unfold jb; rw [Int64.toBitVec_xor, BitVec.getLsbD_xor]
theorem jb_0 (k : Nat) : jb 0 k = false := by unfold jb; show (0#64).getLsbD k = false; simp
theorem jb_m1 {k : Nat} (h : k < 64) : jb (-1) k = true := by unfold jb; show (BitVec.allOnes 64).getLsbD k = true; rw [BitVec.getLsbD_allOnes]; exact decide_eq_true h
theorem jb_big (x : Int64) {k : Nat} (h : 64 ≤ k) : jb x k = false := by unfold jb; exact BitVec.getLsbD_of_ge _ _ h
theorem jushr_bv (x : Int64) {k : Nat} (hk : k < 64) : (jushr x (nI k)).toBitVec = x.toBitVec >>> k := by
  unfold jushr
  rw [wb_cu k hk]
  apply BitVec.eq_of_toNat_eq
  show (x.toUInt64 >>> UInt64.ofNat k).toNat = _
  have e : (UInt64.ofNat k).toNat = k := Nat.mod_eq_of_lt (show k < 2 ^ 64 by omega)
  rw [UInt64.toNat_shiftRight, e, Nat.mod_eq_of_lt hk, BitVec.toNat_ushiftRight]
  rfl
theorem jshl_bv (x : Int64) {k : Nat} (hk : k < 64) : (jshl x (nI k)).toBitVec = x.toBitVec <<< k := by
  unfold jshl
  rw [wb_c k hk, Int64.toBitVec_shiftLeft]
  show x.toBitVec <<< (BitVec.ofNat 64 k).smod 64 = _
  rw [wb_sm k hk]
  apply BitVec.eq_of_toNat_eq
  simp [BitVec.toNat_shiftLeft, Nat.mod_eq_of_lt (show k < 2 ^ 64 by omega)]
theorem jshr_bv (x : Int64) {k : Nat} (hk : k < 64) : (jshr x (nI k)).toBitVec = x.toBitVec.sshiftRight k := by
  unfold jshr
  rw [wb_c k hk, Int64.toBitVec_shiftRight]
  show x.toBitVec.sshiftRight' ((BitVec.ofNat 64 k).smod 64) = _
  rw [wb_sm k hk]
  show x.toBitVec.sshiftRight (BitVec.ofNat 64 k).toNat = _
  rw [BitVec.toNat_ofNat, Nat.mod_eq_of_lt (by omega)]
theorem and1 (x : Int64) : x &&& 1 = if jb x 0 then 1 else 0 := by
  apply jb_ext
  intro k hk
  rw [jb_and]
  have e1 : jb 1 k = decide (k = 0) := by
    unfold jb
    show (1#64).getLsbD k = _
    cases k <;> simp
  rw [e1]
  by_cases h : k = 0
  · subst h
    cases hb : jb x 0 with
    | true => simp; rfl
    | false => simp [jb_0]
  · have e2 : jb (if jb x 0 then 1 else 0) k = false := by
      cases jb x 0 with
      | true => rw [if_pos rfl, e1]; simp [h]
      | false => simp [jb_0]
    rw [e2]; simp [h]
theorem jb_ushr0 (x : Int64) {k : Nat} (hk : k < 64) : jb (jushr x (nI k)) 0 = jb x k := by unfold jb; rw [jushr_bv x hk]; simp
theorem jb_shr0 (x : Int64) {k : Nat} (hk : k < 64) : jb (jshr x (nI k)) 0 = jb x k := by unfold jb; rw [jshr_bv x hk, BitVec.getLsbD_sshiftRight]; simp [hk]
theorem jb_shl (x : Int64) {k : Nat} (hk : k < 64) {j : Nat} (hj : j < 64) : jb (jshl x (nI k)) j = (decide (k ≤ j) && jb x (j - k)) := by
  unfold jb; rw [jshl_bv x hk]
  rw [BitVec.getLsbD_shiftLeft]
  by_cases h : j < k
  · simp [h, hj, Nat.not_le.mpr h]
  · simp [h, hj, Nat.le_of_not_lt h]
theorem jb_1 (k : Nat) : jb 1 k = decide (k = 0) := by
  unfold jb
  show (1#64).getLsbD k = _
  cases k <;> simp
/-- the bit k alone -/
theorem jb_one {k j : Nat} (hk : k < 64) (hj : j < 64) : jb (jshl 1 (nI k)) j = decide (j = k) := by
  rw [jb_shl 1 hk hj, jb_1]
  by_cases h : j = k
  · subst h; simp
  · by_cases h2 : k ≤ j
    · simp [h, h2]; omega
    · simp [h, h2]
theorem lg0 (x y : Int64) : lg_cmp x y = 0 ↔ x = y := by
  unfold lg_cmp
  by_cases h1 : x > y
  · rw [if_pos h1]
    constructor
    · intro h; exact absurd h (by decide)
    · intro h; subst h; exact absurd h1 (by rw [gt_iff_lt, Int64.lt_iff_toInt_lt]; omega)
  · rw [if_neg h1]
    by_cases h2 : x = y
    · rw [if_pos h2]; exact ⟨fun _ => h2, fun _ => rfl⟩
    · rw [if_neg h2]
      exact ⟨fun h => absurd h (by decide), fun h => absurd h h2⟩
/-- the class's test of a bit -/
theorem tst {x : Int64} {k : Nat} (hk : k < 64) : (lg_cmp ((jushr x (nI k)) &&& (1 : Int64)) (0 : Int64)) = (0 : Int32) ↔ jb x k = false := by
  rw [lg0, and1, jb_ushr0 x hk]
  cases jb x k <;> simp
/-- 0 or 1 -/
def bI (b : Bool) : Int32 := if b then 1 else 0
theorem bI_0 (b : Bool) : bI b = 0 ↔ b = false := by cases b <;> simp [bI]
theorem bI_1 (b : Bool) : bI b = 1 ↔ b = true := by cases b <;> simp [bI]
theorem bI_01 (b : Bool) : z01 (bI b) = true := by cases b <;> rfl
theorem bI_inj {a b : Bool} (h : bI a = bI b) : a = b := by cases a <;> cases b <;> first | rfl | exact absurd h (by decide)
theorem bI_nar (b : Bool) : vp_nar .boolean (bI b) = bI b := by cases b <;> rfl
theorem f_holds (n : Nat) (M : zM) (x : Int64) {k : Nat} (hk : k < 64) : fX9_holds n M x (nI k) = some (bI (jb x k), M) := by
  unfold fX9_holds
  by_cases h : jb x k = false
  · rw [if_pos ((tst hk).mpr h), h]; rfl
  · rw [if_neg (fun q => h ((tst hk).mp q))]
    have : jb x k = true := by cases hb : jb x k <;> simp_all
    rw [this]; rfl
end ZBITS
