/-! what a piece of code may change; numbers; texts of characters -/
section ZCH
/-- only the rows of S change, no kind, no length, no reference -/
def Ch (S : List Nat) (M M' : zM) : Prop := M'.1 = M.1 ∧ (∀ a j, mR M' a j = mR M a j) ∧ ∀ a, a ∉ S → ∀ j, mI M' a j = mI M a j ∧ mL M' a j = mL M a j
theorem Ch.rf {S : List Nat} {M : zM} : Ch S M M := ⟨rfl, fun _ _ => rfl, fun _ _ _ => ⟨rfl, rfl⟩⟩
theorem Ch.tr {S : List Nat} {M M1 M2 : zM} (h : Ch S M M1) (g : Ch S M1 M2) : Ch S M M2 := ⟨g.1.trans h.1, fun a j => (g.2.1 a j).trans (h.2.1 a j), fun a ha j => ⟨((g.2.2 a ha j).1).trans ((h.2.2 a ha j).1), ((g.2.2 a ha j).2).trans ((h.2.2 a ha j).2)⟩⟩
theorem Ch.mo {S T : List Nat} {M M' : zM} (h : Ch S M M') (hs : ∀ a ∈ S, a ∈ T) : Ch T M M' := ⟨h.1, h.2.1, fun a ha j => h.2.2 a (fun q => ha (hs a q)) j⟩
theorem Ch.wI {S : List Nat} {M M' : zM} (h : Ch S M M') {a : Nat} (ha : a ∈ S) (k : Nat) (v : Int32) : Ch S M (wI M' a k v) := h.tr ⟨rfl, fun _ _ => rfl, fun b hb j => ⟨if_neg (fun q : b = a ∧ j = k => hb (by rw [q.1]; exact ha)), rfl⟩⟩
theorem Ch.wL {S : List Nat} {M M' : zM} (h : Ch S M M') {a : Nat} (ha : a ∈ S) (k : Nat) (v : Int64) : Ch S M (wL M' a k v) := h.tr ⟨rfl, fun _ _ => rfl, fun b hb j => ⟨rfl, if_neg (fun q : b = a ∧ j = k => hb (by rw [q.1]; exact ha))⟩⟩
theorem Ch.wIr {S : List Nat} {M M' : zM} (h : Ch S M M') {a : Nat} (ha : a ∈ S) (f : Nat → Int32) : Ch S M (wIr M' a f) := h.tr ⟨rfl, fun _ _ => rfl, fun b hb j => ⟨if_neg (fun q : b = a => hb (by rw [q]; exact ha)), rfl⟩⟩
theorem Ch.i {S : List Nat} {M M' : zM} (h : Ch S M M') {a : Nat} (ha : a ∉ S) (j : Nat) : mI M' a j = mI M a j := (h.2.2 a ha j).1
theorem Ch.l {S : List Nat} {M M' : zM} (h : Ch S M M') {a : Nat} (ha : a ∉ S) (j : Nat) : mL M' a j = mL M a j := (h.2.2 a ha j).2
theorem Ch.r {S : List Nat} {M M' : zM} (h : Ch S M M') (a j : Nat) : mR M' a j = mR M a j := h.2.1 a j
theorem Ch.sta {S : List Nat} {M M' : zM} (h : Ch S M M') (hs : Sta M) : Sta M' := ⟨by rw [h.1]; exact hs.1, fun q hq => (h.2.1 _ _).trans (hs.2 q hq)⟩
theorem Ch.k {S : List Nat} {M M' : zM} (h : Ch S M M') (a : Nat) : mK M' a = mK M a := by unfold mK; rw [h.1]
theorem Ch.n {S : List Nat} {M M' : zM} (h : Ch S M M') (a : Nat) : mN M' a = mN M a := by unfold mN; rw [h.1]
/-! numbers -/
theorem nle {a b : Nat} (ha : a < 2 ^ 31) (hb : b < 2 ^ 31) : (nI a ≤ nI b) = (a ≤ b) := propext (nI_leI ha hb)
theorem nlt {a b : Nat} (ha : a < 2 ^ 31) (hb : b < 2 ^ 31) : (nI a < nI b) = (a < b) := propext (nI_ltI ha hb)
theorem neq {a b : Nat} (ha : a < 2 ^ 31) (hb : b < 2 ^ 31) : (nI a = nI b) = (a = b) := propext (nI_eq ha hb)
theorem i0 : (0 : Int32) = nI 0 := by decide
theorem i1 : (1 : Int32) = nI 1 := by decide
theorem i4 : (4 : Int32) = nI 4 := by decide
theorem i8 : (8 : Int32) = nI 8 := by decide
theorem i36 : (36 : Int32) = nI 36 := by decide
theorem i200 : (200 : Int32) = nI 200 := by decide
theorem i300 : (300 : Int32) = nI 300 := by decide
theorem i1024 : (1024 : Int32) = nI 1024 := by decide
/-! characters of a long -/
def chr (w : Int64) (i : Nat) : Nat := (w.toBitVec.toNat / 2 ^ (8 * i)) % 256
theorem chr_lt (w : Int64) (i : Nat) : chr w i < 256 := Nat.mod_lt _ (by decide)
theorem i64_32 (x : Int64) : x.toInt32.toBitVec = x.toBitVec.setWidth 32 := by
  apply BitVec.eq_of_getLsbD_eq
  intro i hi
  rw [Int64.toBitVec_toInt32, BitVec.getLsbD_signExtend, BitVec.getLsbD_setWidth]
  simp [hi, show i < 64 by omega]
theorem f_byteOf (n : Nat) (M : zM) (w : Int64) {i : Nat} (hi : i < 8) : fX9_byteOf n M w (nI i) = some (nI (chr w i), M) := by
  unfold fX9_byteOf
  have e8 : (8 : Int32) * nI i = nI (8 * i) := by rw [i8, pk_mul]
  rw [e8]
  have h := pk_and (Int64.toInt32 (jushr w (nI (8 * i)))) (m := 255) 8 (by decide)
  rw [h, i64_32, jushr_bv w (by omega)]
  have e : ((w.toBitVec >>> (8 * i)).setWidth 32).toNat % 2 ^ 8 = chr w i := by
    rw [BitVec.toNat_setWidth, BitVec.toNat_ushiftRight, Nat.shiftRight_eq_div_pow, Nat.mod_mod_of_dvd _ (by decide)]
    rfl
  rw [e]
theorem m_byte (w : Int64) {i : Nat} (hi : i < 8) : Int64.toInt32 ((jshr w ((8 : Int32) * nI i)) &&& (255 : Int64)) = nI (chr w i) := by
  have e8 : (8 : Int32) * nI i = nI (8 * i) := by rw [i8, pk_mul]
  rw [e8]
  apply Int32.toBitVec_inj.mp
  rw [i64_32, Int64.toBitVec_and, jshr_bv w (by omega)]
  apply BitVec.eq_of_getLsbD_eq
  intro k hk
  have e1 : (nI (chr w i)).toBitVec.getLsbD k = (decide (k < 8) && w.toBitVec.getLsbD (8 * i + k)) := by
    show (BitVec.ofNat 32 (chr w i)).getLsbD k = _
    rw [BitVec.getLsbD_ofNat]
    unfold chr
    rw [show (256 : Nat) = 2 ^ 8 from rfl, Nat.testBit_mod_two_pow, ← Nat.shiftRight_eq_div_pow, Nat.testBit_shiftRight]
    simp [hk, BitVec.getLsbD]
  have e2 : (255 : Int64).toBitVec.getLsbD k = decide (k < 8) := by
    show (BitVec.ofNat 64 255).getLsbD k = _
    rw [BitVec.getLsbD_ofNat, show (255 : Nat) = 2 ^ 8 - 1 from rfl, Nat.testBit_two_pow_sub_one]
    simp; omega
  rw [BitVec.getLsbD_setWidth, BitVec.getLsbD_and, e2, BitVec.getLsbD_sshiftRight, e1]
  by_cases h8 : k < 8
  · simp [hk, h8, show k < 64 by omega, show 8 * i + k < 64 by omega]
  · simp [h8]
end ZCH
