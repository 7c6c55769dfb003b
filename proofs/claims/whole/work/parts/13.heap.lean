/-! RULES for fields, arrays and making. -/
section ZHEAP
variable {μ : zMu} {op : Option Nat} {u : Nat × Nat} {M : zM} {pc q : Nat} {L : List (Nat × Value)} {st : List Value} {Φ : zPhi}
theorem zo_I (cy : Nat → ClassId) (base : zB) (M : zM) (a k : Nat) (x : Int32) (b : Nat) (hb : b ≠ a) : zcell cy base (wI M a k x) b = zcell cy base M b := zcell_eq cy base rfl rfl (fun j => by rw [mI_wI, if_neg (fun h => hb h.1)]) (fun _ => rfl) (fun _ => rfl)
theorem zo_L (cy : Nat → ClassId) (base : zB) (M : zM) (a k : Nat) (x : Int64) (b : Nat) (hb : b ≠ a) : zcell cy base (wL M a k x) b = zcell cy base M b := zcell_eq cy base rfl rfl (fun _ => rfl) (fun j => by rw [mL_wL, if_neg (fun h => hb h.1)]) (fun _ => rfl)
theorem zo_R (cy : Nat → ClassId) (base : zB) (M : zM) (a k : Nat) (x : Option Nat) (b : Nat) (hb : b ≠ a) : zcell cy base (wR M a k x) b = zcell cy base M b := zcell_eq cy base rfl rfl (fun _ => rfl) (fun _ => rfl) (fun j => by rw [mR_wR, if_neg (fun h => hb h.1)])
theorem zo_Ir (cy : Nat → ClassId) (base : zB) (M : zM) (a : Nat) (f : Nat → Int32) (b : Nat) (hb : b ≠ a) : zcell cy base (wIr M a f) b = zcell cy base M b := zcell_eq cy base rfl rfl (fun j => by rw [mI_wIr, if_neg hb]) (fun _ => rfl) (fun _ => rfl)
theorem zj_I (M : zM) (a k : Nat) (x : Int32) (ty : FieldType) (j : Nat) (hj : j ≠ k) : zf (wI M a k x) a ty j = zf M a ty j := by cases ty <;> simp [zf, mI_wI, mL_wI, mR_wI, hj]
theorem zj_L (M : zM) (a k : Nat) (x : Int64) (ty : FieldType) (j : Nat) (hj : j ≠ k) : zf (wL M a k x) a ty j = zf M a ty j := by cases ty <;> simp [zf, mI_wL, mL_wL, mR_wL, hj]
theorem zj_R (M : zM) (a k : Nat) (x : Option Nat) (ty : FieldType) (j : Nat) (hj : j ≠ k) : zf (wR M a k x) a ty j = zf M a ty j := by cases ty <;> simp [zf, mI_wR, mL_wR, mR_wR, hj]
/-- a write to a field, in the world -/
theorem zset (cy : Nat → ClassId) (base : zB) {M M' : zM} {a ci k : Nat} {v : Value} (h0 : 0 < a) (hk : mK M a = ci) (h11 : ci < 11) (h1 : M'.1 = M.1) (ho : ∀ b, b ≠ a → zcell cy base M' b = zcell cy base M b) (hv : zf M' a (zty ci k) k = v) (hj : ∀ j, j ≠ k → zf M' a (zty ci j) j = zf M a (zty ci j) j) :
    (zw cy base M).set (a - 1) (zad base a, .inr (ci, ((List.range (znf ci)).map (fun j => zv base (zf M a (zty ci j) j))).set k (zv base v))) = zw cy base M' := by
  have hk' : mK M' a = ci := by rw [← hk]; unfold mK; rw [h1]
  rw [zw_put cy base M M' a h0 (by rw [h1]) ho, zcell_o cy base hk' h11, zfs_set base hv hj]
theorem z0 {D : va_G} {cy : Nat → ClassId} {base : zB} {H : Heap} {a : Nat} (hM : zS D cy base M H) (h : mK M a ≠ 16) : 0 < a := by
  rcases Nat.eq_zero_or_pos a with rfl | q
  · exact absurd hM.2.1 h
  · exact q
theorem zr_get {a ci k idx N : Nat} {C : String} {T : u_T} {v : Value} (d : decode (uC μ) pc = .ok (.getfield idx, 3)) (eq : pc + 3 = q) (hk : mK M a = ci) (hc : vwCl[ci]? = some (C, T, N)) (h11 : ci < 11) (hN : znf ci = N) (hin : ∀ w ∈ u_ws C T N, w ∈ zBig) (hkN : k < N)
    (hlink : Cond.fieldLink (uY μ).cls idx (T k).1 (T k).2.1 (T k).2.2.1 ∈ zBig) (hv : zf M a (zty ci k) k = v) (kk : zW μ op u M q L (v :: st) Φ) : zW μ op u M pc L (.ref a :: st) Φ := by
  subst eq
  intro D cy base p l e s m args below meth c C0 H locs ls hM hS hl
  have h0 : 0 < a := z0 hM (by omega)
  have hg := zw_get cy base M h0 (mK_lt (by omega : mK M a < 99))
  rw [zcell_o cy base hk h11] at hg
  subst hN
  exact va_get C0.1 C0.2.1 C0.2.2.2.2.1 hin C0.2.2.2.1 C0.2.2.2.2.2.1.1 hM.1 (a - 1) hg hc k hkN (C0.2.2.2.2.1 _ hlink) (fun _ h9 => h9) (v := zv base v) (by simp [hkN, hv]) d (kk D cy base p l e s m args below meth c C0 H locs ls hM hS hl)
theorem zr_getr {a ci k idx N b : Nat} {C : String} {T : u_T} (d : decode (uC μ) pc = .ok (.getfield idx, 3)) (eq : pc + 3 = q) (hk : mK M a = ci) (hc : vwCl[ci]? = some (C, T, N)) (h11 : ci < 11) (hN : znf ci = N) (hin : ∀ w ∈ u_ws C T N, w ∈ zBig) (hkN : k < N)
    (hlink : Cond.fieldLink (uY μ).cls idx (T k).1 (T k).2.1 (T k).2.2.1 ∈ zBig) (hz : zf M a (zty ci k) k = va_rf (mR M a k)) (hv : mR M a k = some b) (kk : zW μ op u M q L (.ref b :: st) Φ) : zW μ op u M pc L (.ref a :: st) Φ :=
  zr_get d eq hk hc h11 hN hin hkN hlink (v := .ref b) (by rw [hz, hv]; rfl) kk
theorem zS_up {D : va_G} {cy : Nat → ClassId} {base : zB} {H H1 : Heap} {M' : zM} (hM : zS D cy base M H) (h1 : M'.1 = M.1) (h2 : ∀ j, mI M' 0 j = mI M 0 j) (hP : va_P D vwCl (zw cy base M') H1) : zS D cy base M' H1 := ⟨hP, by unfold mK; rw [h1]; exact hM.2.1, by unfold mN; rw [h1]; exact hM.2.2.1, fun j => (h2 j).trans (hM.2.2.2 j)⟩
/-- a write: the machine's part -/
theorem zr_putG {a ci k idx N : Nat} {C : String} {T : u_T} {v : Value} {M' : zM} (d : decode (uC μ) pc = .ok (.putfield idx, 3)) (eq : pc + 3 = q) (hk : mK M a = ci) (hc : vwCl[ci]? = some (C, T, N)) (h11 : ci < 11) (hN : znf ci = N) (hin : ∀ w ∈ u_ws C T N, w ∈ zBig) (hok : ∀ k, k < N → parseFieldDescriptor (T k).2.2.1 = some (zty ci k)) (hnm : ∀ a, a < N → ∀ b, b < N → a ≠ b → (T a).2.1 ≠ (T b).2.1) (hkN : k < N)
    (hlink : Cond.fieldLink (uY μ).cls idx (T k).1 (T k).2.1 (T k).2.2.1 ∈ zBig) (hfin : (T k).2.2.2 = false ∨ ((T k).2.2.2 = true ∧ (uY μ).name = "<init>" ∧ (T k).1 = (uY μ).cls)) (hn : ∀ base, narrow (zty ci k) (zv base v) = zv base v) (hfit : ∀ base, fits (zty ci k) (zv base v) = true) (h1 : M'.1 = M.1) (hr0 : 0 < a → ∀ j, mI M' 0 j = mI M 0 j) (ho : ∀ cy base b, b ≠ a → zcell cy base M' b = zcell cy base M b) (hv : zf M' a (zty ci k) k = v) (hj : ∀ j, j ≠ k → zf M' a (zty ci j) j = zf M a (zty ci j) j)
    (kk : zW μ op u M' q L st Φ) : zW μ op u M pc L (v :: .ref a :: st) Φ := by
  subst eq
  intro D cy base p l e s m args below meth c C0 H locs ls hM hS hl
  have h0 : 0 < a := z0 hM (by omega)
  have hg := zw_get cy base M h0 (mK_lt (by omega : mK M a < 99))
  rw [zcell_o cy base hk h11] at hg
  subst hN
  have hset := zset cy base (k := k) h0 hk h11 h1 (ho cy base) hv hj
  rcases hfin with hf | ⟨hf, hi, hd⟩
  · refine va_put C0.1 C0.2.1 C0.2.2.2.2.1 hin (zty ci) hok hnm C0.2.2.2.1 C0.2.2.2.2.2.1.1 hM.1 (zw_D cy base M) hS (a - 1) hg hc k hkN (C0.2.2.2.2.1 _ hlink) (fun _ h9 => h9) hf (hok k hkN) (hn base) (hfit base) (by simpa using hkN) d (fun H1 locs1 hP1 hD1 hS1 => ?_)
    rw [hset] at hP1
    exact kk D cy base p l e s m args below meth c C0 H1 locs1 ls (zS_up hM h1 (hr0 h0) hP1) hS1 hl
  · refine va_putF C0.1 C0.2.1 C0.2.2.2.2.1 hin (zty ci) hok hnm C0.2.2.2.1 C0.2.2.2.2.2.1.1 hM.1 (zw_D cy base M) hS (a - 1) hg hc k hkN (C0.2.2.2.2.1 _ hlink) (fun _ h9 => h9) hf (C0.2.2.2.2.2.2.2.2.2.2.1.trans hi) hd (hok k hkN) (hn base) (hfit base) (by simpa using hkN) d (fun H1 locs1 hP1 hD1 hS1 => ?_)
    rw [hset] at hP1
    exact kk D cy base p l e s m args below meth c C0 H1 locs1 ls (zS_up hM h1 (hr0 h0) hP1) hS1 hl
theorem zr_putI {a ci k idx N : Nat} {C : String} {T : u_T} {x : Int32} (d : decode (uC μ) pc = .ok (.putfield idx, 3)) (eq : pc + 3 = q) (hk : mK M a = ci) (hc : vwCl[ci]? = some (C, T, N)) (h11 : ci < 11) (hN : znf ci = N) (hin : ∀ w ∈ u_ws C T N, w ∈ zBig) (hok : ∀ k, k < N → parseFieldDescriptor (T k).2.2.1 = some (zty ci k)) (hnm : ∀ a, a < N → ∀ b, b < N → a ≠ b → (T a).2.1 ≠ (T b).2.1) (hkN : k < N)
    (hlink : Cond.fieldLink (uY μ).cls idx (T k).1 (T k).2.1 (T k).2.2.1 ∈ zBig) (hfin : (T k).2.2.2 = false ∨ ((T k).2.2.2 = true ∧ (uY μ).name = "<init>" ∧ (T k).1 = (uY μ).cls)) (hty : zty ci k = .int) (kk : zW μ op u (wI M a k x) q L st Φ) : zW μ op u M pc L (.int x :: .ref a :: st) Φ :=
  zr_putG (M' := (wI M a k x)) (v := .int x) d eq hk hc h11 hN hin hok hnm hkN hlink hfin (fun _ => by rw [hty]; rfl) (fun _ => by rw [hty]; rfl) rfl (fun h0 j => by rw [mI_wI, if_neg (fun h => by omega)]) (fun cy base b hb => zo_I cy base M a k x b hb) (by rw [hty]; simp [zf, mI_wI]) (fun j hj => zj_I M a k x _ j hj) kk
theorem zr_putZ {a ci k idx N : Nat} {C : String} {T : u_T} {x : Int32} (d : decode (uC μ) pc = .ok (.putfield idx, 3)) (eq : pc + 3 = q) (hk : mK M a = ci) (hc : vwCl[ci]? = some (C, T, N)) (h11 : ci < 11) (hN : znf ci = N) (hin : ∀ w ∈ u_ws C T N, w ∈ zBig) (hok : ∀ k, k < N → parseFieldDescriptor (T k).2.2.1 = some (zty ci k)) (hnm : ∀ a, a < N → ∀ b, b < N → a ≠ b → (T a).2.1 ≠ (T b).2.1) (hkN : k < N)
    (hlink : Cond.fieldLink (uY μ).cls idx (T k).1 (T k).2.1 (T k).2.2.1 ∈ zBig) (hfin : (T k).2.2.2 = false ∨ ((T k).2.2.2 = true ∧ (uY μ).name = "<init>" ∧ (T k).1 = (uY μ).cls)) (hty : zty ci k = .boolean) (hx : x = 0 ∨ x = 1) (kk : zW μ op u (wI M a k x) q L st Φ) : zW μ op u M pc L (.int x :: .ref a :: st) Φ :=
  zr_putG (M' := (wI M a k x)) (v := .int x) d eq hk hc h11 hN hin hok hnm hkN hlink hfin (fun _ => by rw [hty]; rcases hx with rfl | rfl <;> rfl) (fun _ => by rw [hty]; rcases hx with rfl | rfl <;> rfl) rfl (fun h0 j => by rw [mI_wI, if_neg (fun h => by omega)]) (fun cy base b hb => zo_I cy base M a k x b hb) (by rw [hty]; simp [zf, mI_wI]) (fun j hj => zj_I M a k x _ j hj) kk
theorem zr_putL {a ci k idx N : Nat} {C : String} {T : u_T} {x : Int64} (d : decode (uC μ) pc = .ok (.putfield idx, 3)) (eq : pc + 3 = q) (hk : mK M a = ci) (hc : vwCl[ci]? = some (C, T, N)) (h11 : ci < 11) (hN : znf ci = N) (hin : ∀ w ∈ u_ws C T N, w ∈ zBig) (hok : ∀ k, k < N → parseFieldDescriptor (T k).2.2.1 = some (zty ci k)) (hnm : ∀ a, a < N → ∀ b, b < N → a ≠ b → (T a).2.1 ≠ (T b).2.1) (hkN : k < N)
    (hlink : Cond.fieldLink (uY μ).cls idx (T k).1 (T k).2.1 (T k).2.2.1 ∈ zBig) (hfin : (T k).2.2.2 = false ∨ ((T k).2.2.2 = true ∧ (uY μ).name = "<init>" ∧ (T k).1 = (uY μ).cls)) (hty : zty ci k = .long) (kk : zW μ op u (wL M a k x) q L st Φ) : zW μ op u M pc L (.long x :: .ref a :: st) Φ :=
  zr_putG (M' := (wL M a k x)) (v := .long x) d eq hk hc h11 hN hin hok hnm hkN hlink hfin (fun _ => by rw [hty]; rfl) (fun _ => by rw [hty]; rfl) rfl (fun _ _ => rfl) (fun cy base b hb => zo_L cy base M a k x b hb) (by rw [hty]; simp [zf, mL_wL]) (fun j hj => zj_L M a k x _ j hj) kk
def zisR (ty : FieldType) : Bool := match ty with
  | .object _ => true
  | .array _ => true
  | _ => false
theorem zr_putR {a ci k idx N x : Nat} {C : String} {T : u_T} (d : decode (uC μ) pc = .ok (.putfield idx, 3)) (eq : pc + 3 = q) (hk : mK M a = ci) (hc : vwCl[ci]? = some (C, T, N)) (h11 : ci < 11) (hN : znf ci = N) (hin : ∀ w ∈ u_ws C T N, w ∈ zBig) (hok : ∀ k, k < N → parseFieldDescriptor (T k).2.2.1 = some (zty ci k)) (hnm : ∀ a, a < N → ∀ b, b < N → a ≠ b → (T a).2.1 ≠ (T b).2.1) (hkN : k < N)
    (hlink : Cond.fieldLink (uY μ).cls idx (T k).1 (T k).2.1 (T k).2.2.1 ∈ zBig) (hfin : (T k).2.2.2 = false ∨ ((T k).2.2.2 = true ∧ (uY μ).name = "<init>" ∧ (T k).1 = (uY μ).cls)) (hty : zisR (zty ci k) = true) (kk : zW μ op u (wR M a k (some x)) q L st Φ) : zW μ op u M pc L (.ref x :: .ref a :: st) Φ := by
  have h1 : ∀ M' : zM, zf M' a (zty ci k) k = va_rf (mR M' a k) := fun M' => by generalize zty ci k = ty at hty; cases ty <;> first | rfl | cases hty
  exact zr_putG (M' := (wR M a k (some x))) (v := .ref x) d eq hk hc h11 hN hin hok hnm hkN hlink hfin (fun _ => by generalize zty ci k = ty at hty; cases ty <;> first | rfl | cases hty) (fun _ => by generalize zty ci k = ty at hty; cases ty <;> first | rfl | cases hty) rfl (fun _ _ => rfl) (fun cy base b hb => zo_R cy base M a k (some x) b hb) (by rw [h1, mR_wR, if_pos ⟨rfl, rfl⟩]; rfl) (fun j hj => zj_R M a k (some x) _ j hj) kk
/-! arrays -/
theorem zr_iald {a : Nat} {i : Int32} (d : decode (uC μ) pc = .ok (.iaload, 1)) (eq : pc + 1 = q) (hk : mK M a = 11) (hi : zin i (mN M a) = true) (kk : zW μ op u M q L (.int (mI M a i.toNatClampNeg) :: st) Φ) : zW μ op u M pc L (.int i :: .ref a :: st) Φ := by
  subst eq
  intro D cy base p l e s m args below meth c C0 H locs ls hM hS hl
  have h0 : 0 < a := z0 hM (by omega)
  have hg := zw_get cy base M h0 (mK_lt (by omega : mK M a < 99))
  rw [zcell_i cy base hk] at hg
  exact va_iald C0.1 C0.2.1 C0.2.2.2.2.2.1.1 hM.1 (a - 1) 0 hg rfl (zin_in hi) d (kk D cy base p l e s m args below meth c C0 H locs ls hM hS hl)
theorem zr_zald {a : Nat} {i : Int32} (d : decode (uC μ) pc = .ok (.baload, 1)) (eq : pc + 1 = q) (hk : mK M a = 13) (hi : zin i (mN M a) = true) (kk : zW μ op u M q L (.int (mI M a i.toNatClampNeg) :: st) Φ) : zW μ op u M pc L (.int i :: .ref a :: st) Φ := by
  subst eq
  intro D cy base p l e s m args below meth c C0 H locs ls hM hS hl
  have h0 : 0 < a := z0 hM (by omega)
  have hg := zw_get cy base M h0 (mK_lt (by omega : mK M a < 99))
  rw [zcell_z cy base hk] at hg
  exact va_zald C0.1 C0.2.1 C0.2.2.2.2.2.1.1 hM.1 (a - 1) 2 hg rfl (zin_in hi) d (kk D cy base p l e s m args below meth c C0 H locs ls hM hS hl)
theorem zr_lald {a : Nat} {i : Int32} (d : decode (uC μ) pc = .ok (.laload, 1)) (eq : pc + 1 = q) (hk : mK M a = 12) (hi : zin i (mN M a) = true) (kk : zW μ op u M q L (.long (mL M a i.toNatClampNeg) :: st) Φ) : zW μ op u M pc L (.int i :: .ref a :: st) Φ := by
  subst eq
  intro D cy base p l e s m args below meth c C0 H locs ls hM hS hl
  have h0 : 0 < a := z0 hM (by omega)
  have hg := zw_get cy base M h0 (mK_lt (by omega : mK M a < 99))
  rw [zcell_l cy base hk] at hg
  exact va_lald C0.1 C0.2.1 C0.2.2.2.2.2.1.1 hM.1 (a - 1) 1 hg rfl (zin_in hi) d (kk D cy base p l e s m args below meth c C0 H locs ls hM hS hl)
theorem zr_aald {a kd b : Nat} {i : Int32} (d : decode (uC μ) pc = .ok (.aaload, 1)) (eq : pc + 1 = q) (hk : mK M a = kd) (hkd : kd = 14 ∨ kd = 15) (hi : zin i (mN M a) = true) (hv : mR M a i.toNatClampNeg = some b) (kk : zW μ op u M q L (.ref b :: st) Φ) : zW μ op u M pc L (.int i :: .ref a :: st) Φ := by
  subst eq
  intro D cy base p l e s m args below meth c C0 H locs ls hM hS hl
  have h0 : 0 < a := z0 hM (by omega)
  have hg := zw_get cy base M h0 (mK_lt (by omega : mK M a < 99))
  rw [zcell_q cy base hk (by omega)] at hg
  have h := kk D cy base p l e s m args below meth c C0 H locs ls hM hS hl
  have e1 : zv base (.ref b) = va_rf ((mR M a i.toNatClampNeg).map (fun r => zad base r)) := by rw [hv]; rfl
  rw [List.map_cons, e1] at h
  rcases hkd with rfl | rfl
  · exact va_aldq C0.1 C0.2.1 C0.2.2.2.2.2.1.1 hM.1 (a - 1) 3 hg rfl (zin_in hi) d h
  · exact va_aldq C0.1 C0.2.1 C0.2.2.2.2.2.1.1 hM.1 (a - 1) 4 hg rfl (zin_in hi) d h
/-- an element that may be null -/
theorem zr_aaldN {a kd : Nat} {i : Int32} (d : decode (uC μ) pc = .ok (.aaload, 1)) (eq : pc + 1 = q) (hk : mK M a = kd) (hkd : kd = 14 ∨ kd = 15) (hi : zin i (mN M a) = true) (kk : zW μ op u M q L (va_rf (mR M a i.toNatClampNeg) :: st) Φ) : zW μ op u M pc L (.int i :: .ref a :: st) Φ := by
  subst eq
  intro D cy base p l e s m args below meth c C0 H locs ls hM hS hl
  have h0 : 0 < a := z0 hM (by omega)
  have hg := zw_get cy base M h0 (mK_lt (by omega : mK M a < 99))
  rw [zcell_q cy base hk (by omega)] at hg
  have h := kk D cy base p l e s m args below meth c C0 H locs ls hM hS hl
  rw [List.map_cons, zv_rf] at h
  rcases hkd with rfl | rfl
  · exact va_aldq C0.1 C0.2.1 C0.2.2.2.2.2.1.1 hM.1 (a - 1) 3 hg rfl (zin_in hi) d h
  · exact va_aldq C0.1 C0.2.1 C0.2.2.2.2.2.1.1 hM.1 (a - 1) 4 hg rfl (zin_in hi) d h
theorem zr_iast {a : Nat} {i x : Int32} (d : decode (uC μ) pc = .ok (.iastore, 1)) (eq : pc + 1 = q) (hk : mK M a = 11) (hi : zin i (mN M a) = true) (kk : zW μ op u (wI M a i.toNatClampNeg x) q L st Φ) : zW μ op u M pc L (.int x :: .int i :: .ref a :: st) Φ := by
  subst eq
  intro D cy base p l e s m args below meth c C0 H locs ls hM hS hl
  have h0 : 0 < a := z0 hM (by omega)
  have hg := zw_get cy base M h0 (mK_lt (by omega : mK M a < 99))
  rw [zcell_i cy base hk] at hg
  refine va_iast C0.1 C0.2.1 C0.2.2.2.2.2.1.1 hM.1 (zw_D cy base M) hS (a - 1) 0 hg rfl (zin_in hi) d (fun H1 locs1 hP1 hD1 hS1 => ?_)
  have e1 : zcell cy base (wI M a i.toNatClampNeg x) a = .inl (cy 0, mN M a, .inl (upd (mI M a) i.toNatClampNeg x)) := by
    rw [zcell_i cy base (show mK (wI M a i.toNatClampNeg x) a = 11 from hk)]
    have : mI (wI M a i.toNatClampNeg x) a = upd (mI M a) i.toNatClampNeg x := by funext j; simp [mI_wI, upd]
    rw [this]; rfl
  rw [← e1, ← zw_put cy base M (wI M a i.toNatClampNeg x) a h0 rfl (fun b hb => zo_I cy base M a _ x b hb)] at hP1
  exact kk D cy base p l e s m args below meth c C0 H1 locs1 ls (zS_up hM rfl (fun j => by rw [mI_wI, if_neg (fun h => by omega)]) hP1) hS1 hl
theorem zr_zast {a : Nat} {i x : Int32} (d : decode (uC μ) pc = .ok (.bastore, 1)) (eq : pc + 1 = q) (hk : mK M a = 13) (hi : zin i (mN M a) = true) (kk : zW μ op u (wI M a i.toNatClampNeg (vp_nar .boolean x)) q L st Φ) : zW μ op u M pc L (.int x :: .int i :: .ref a :: st) Φ := by
  subst eq
  intro D cy base p l e s m args below meth c C0 H locs ls hM hS hl
  have h0 : 0 < a := z0 hM (by omega)
  have hg := zw_get cy base M h0 (mK_lt (by omega : mK M a < 99))
  rw [zcell_z cy base hk] at hg
  refine va_zast C0.1 C0.2.1 C0.2.2.2.2.2.1.1 hM.1 (zw_D cy base M) hS (a - 1) 2 hg rfl (zin_in hi) d (fun H1 locs1 hP1 hD1 hS1 => ?_)
  have e1 : zcell cy base (wI M a i.toNatClampNeg (vp_nar .boolean x)) a = .inl (cy 2, mN M a, .inl (upd (mI M a) i.toNatClampNeg (vp_nar .boolean x))) := by
    rw [zcell_z cy base (show mK (wI M a i.toNatClampNeg (vp_nar .boolean x)) a = 13 from hk)]
    have : mI (wI M a i.toNatClampNeg (vp_nar .boolean x)) a = upd (mI M a) i.toNatClampNeg (vp_nar .boolean x) := by funext j; simp [mI_wI, upd]
    rw [this]; rfl
  rw [← e1, ← zw_put cy base M (wI M a i.toNatClampNeg (vp_nar .boolean x)) a h0 rfl (fun b hb => zo_I cy base M a _ _ b hb)] at hP1
  exact kk D cy base p l e s m args below meth c C0 H1 locs1 ls (zS_up hM rfl (fun j => by rw [mI_wI, if_neg (fun h => by omega)]) hP1) hS1 hl
theorem zr_last {a : Nat} {i : Int32} {x : Int64} (d : decode (uC μ) pc = .ok (.lastore, 1)) (eq : pc + 1 = q) (hk : mK M a = 12) (hi : zin i (mN M a) = true) (kk : zW μ op u (wL M a i.toNatClampNeg x) q L st Φ) : zW μ op u M pc L (.long x :: .int i :: .ref a :: st) Φ := by
  subst eq
  intro D cy base p l e s m args below meth c C0 H locs ls hM hS hl
  have h0 : 0 < a := z0 hM (by omega)
  have hg := zw_get cy base M h0 (mK_lt (by omega : mK M a < 99))
  rw [zcell_l cy base hk] at hg
  refine va_last C0.1 C0.2.1 C0.2.2.2.2.2.1.1 hM.1 (zw_D cy base M) hS (a - 1) 1 hg rfl (zin_in hi) d (fun H1 locs1 hP1 hD1 hS1 => ?_)
  have e1 : zcell cy base (wL M a i.toNatClampNeg x) a = .inl (cy 1, mN M a, .inr (.inl (vp_updL (mL M a) i.toNatClampNeg x))) := by
    rw [zcell_l cy base (show mK (wL M a i.toNatClampNeg x) a = 12 from hk)]
    have : mL (wL M a i.toNatClampNeg x) a = vp_updL (mL M a) i.toNatClampNeg x := by funext j; simp [mL_wL, vp_updL]
    rw [this]; rfl
  rw [← e1, ← zw_put cy base M (wL M a i.toNatClampNeg x) a h0 rfl (fun b hb => zo_L cy base M a _ x b hb)] at hP1
  exact kk D cy base p l e s m args below meth c C0 H1 locs1 ls (zS_up hM rfl (fun _ => rfl) hP1) hS1 hl
theorem zr_alen {a kd : Nat} (d : decode (uC μ) pc = .ok (.arraylength, 1)) (eq : pc + 1 = q) (hk : mK M a = kd) (hkd : kd = 14) (kk : zW μ op u M q L (.int (nI (mN M a)) :: st) Φ) : zW μ op u M pc L (.ref a :: st) Φ := by
  subst eq
  subst hkd
  intro D cy base p l e s m args below meth c C0 H locs ls hM hS hl
  have h0 : 0 < a := z0 hM (by omega)
  have hg := zw_get cy base M h0 (mK_lt (by omega : mK M a < 99))
  rw [zcell_q cy base hk (by omega)] at hg
  exact va_alen C0.1 C0.2.1 C0.2.2.2.2.2.1.1 hM.1 (a - 1) 3 hg (ty := .object "PatternHouse$Pattern") rfl rfl d (kk D cy base p l e s m args below meth c C0 H locs ls hM hS hl)
/-- the script -/
theorem zr_sld {a : Nat} {i : Int32} (d : decode (uC μ) pc = .ok (.iaload, 1)) (eq : pc + 1 = q) (ha : a = 0) (hi : zin i (mN M 0) = true) (kk : zW μ op u M q L (.int (mI M 0 i.toNatClampNeg) :: st) Φ) : zW μ op u M pc L (.int i :: .ref a :: st) Φ := by
  subst eq; subst ha
  intro D cy base p l e s m args below meth c C0 H locs ls hM hS hl
  have hG := C0.2.2.2.2.2.1
  have h := kk D cy base p l e s m args below meth c C0 H locs ls hM hS hl
  rw [List.map_cons, hM.2.2.2] at h
  rw [hM.2.2.1] at hi
  exact va_sld C0.1 C0.2.1 hG.2.1.2.2 (Nat.lt_of_le_of_lt hG.2.1.2.1 hG.2.1.1) (Nat.not_lt.mpr hG.2.1.2.1) hS (zin_in hi) d h
theorem zr_slen {a : Nat} (d : decode (uC μ) pc = .ok (.arraylength, 1)) (eq : pc + 1 = q) (ha : a = 0) (kk : zW μ op u M q L (.int (nI (mN M 0)) :: st) Φ) : zW μ op u M pc L (.ref a :: st) Φ := by
  subst eq; subst ha
  intro D cy base p l e s m args below meth c C0 H locs ls hM hS hl
  have hG := C0.2.2.2.2.2.1
  have h := kk D cy base p l e s m args below meth c C0 H locs ls hM hS hl
  rw [List.map_cons, hM.2.2.1] at h
  exact va_slen C0.1 C0.2.1 hG.2.1.2.2 (Nat.lt_of_le_of_lt hG.2.1.2.1 hG.2.1.1) (Nat.not_lt.mpr hG.2.1.2.1) hS d h
end ZHEAP
