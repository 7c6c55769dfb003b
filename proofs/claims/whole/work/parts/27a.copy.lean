/-! System.arraycopy between two rows of ints, from place 0 to place 0 -/
section ZCOPY
variable {μ μ' : zMu} {op : Option Nat} {u u' : Nat × Nat} {M : zM} {pc q : Nat} {L : List (Nat × Value)} {st st0 : List Value} {Φ Φ' : zPhi}
def zcp (n : Int32) (n0 n1 : Nat) : Bool := decide (¬ n < 0 ∧ n.toNatClampNeg ≤ n0 ∧ n.toNatClampNeg ≤ n1)
set_option maxHeartbeats 4000000 in
theorem zr_copy {a b idx : Nat} {n : Int32} (d : decode (uC μ) pc = .ok (.invokestatic idx, 3)) (eq : pc + 3 = q) (w1 : Cond.methodLink (uY μ).cls idx arraycopyName ∈ zBig) (w2 : Cond.native arraycopyName ∈ zBig) (w3 : Cond.static arraycopyName ∈ zBig) (w4 : Cond.initialized "java/lang/System" ∈ zBig) (hka : mK M a = 11) (hkb : mK M b = 11) (hz : zcp n (mN M a) (mN M b) = true) (hR : 1 ≤ (uM μ).frames) (hlo : (st.map fun v => v.category).sum + (nativeFrameWords "java/lang/System" "arraycopy" 5 + 11) ≤ (uM μ).locals)
    (kk : zW μ op u (wIr M b (va_cpy (mI M a) (mI M b) 0 0 n.toNatClampNeg)) q L st Φ) : zW μ op u M pc L (.int n :: .int 0 :: .ref b :: .int 0 :: .ref a :: st) Φ := by
  subst eq
  intro D cy base p l e s m args below meth c C0 H locs ls hM hS hl
  obtain ⟨hx, hbc, hml, hown, hts, hG, hlocks, hrt, hlt, htab, hnm, hop2⟩ := id C0
  obtain ⟨z1, z2, z3⟩ := of_decide_eq_true hz
  have h0a : 0 < a := z0 hM (by omega)
  have h0b : 0 < b := z0 hM (by omega)
  have ga := zw_get cy base M h0a (mK_lt (by omega : mK M a < 99))
  have gb := zw_get cy base M h0b (mK_lt (by omega : mK M b < 99))
  rw [zcell_i cy base hka] at ga
  rw [zcell_i cy base hkb] at gb
  have e0 : (0 : Int32).toNatClampNeg = 0 := by decide
  refine va_copyi hx hbc (hml.trans hl.1.symm) hown (hts _ w1) (hts _ w2) (hts _ w3) (hts _ w4) hG.1 hM.1 (zw_D cy base M) hS (a - 1) (b - 1) 0 0 ga gb (ty := .int) rfl rfl rfl (by decide) (by decide) z1 (by rw [e0]; omega) (by rw [e0]; omega) (fun _ _ => rfl) hR (by rw [zcats]; exact hlo) d (fun H1 locs1 hP1 hD1 hS1 => ?_)
  rw [e0] at hP1
  have e1 : zcell cy base (wIr M b (va_cpy (mI M a) (mI M b) 0 0 n.toNatClampNeg)) b = .inl (cy 0, mN M b, .inl (va_cpy (mI M a) (mI M b) 0 0 n.toNatClampNeg)) := by
    rw [zcell_i cy base (show mK (wIr M b (va_cpy (mI M a) (mI M b) 0 0 n.toNatClampNeg)) b = 11 from hkb)]
    have : mI (wIr M b (va_cpy (mI M a) (mI M b) 0 0 n.toNatClampNeg)) b = va_cpy (mI M a) (mI M b) 0 0 n.toNatClampNeg := by funext j; rw [mI_wIr, if_pos rfl]
    rw [this]; rfl
  rw [← e1, ← zw_put cy base M (wIr M b (va_cpy (mI M a) (mI M b) 0 0 n.toNatClampNeg)) b h0b rfl (fun x hx9 => zo_Ir cy base M b _ x hx9)] at hP1
  exact kk D cy base p l e s m args below meth c C0 H1 locs1 ls (zS_up hM rfl (fun j => by rw [mI_wIr, if_neg (by omega)]) hP1) hS1 hl
end ZCOPY
