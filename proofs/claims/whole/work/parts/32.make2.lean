/-! more RULES for constructors: arrays, stores of references, calls of constructors. -/
section ZMAKE2
variable {μ μ' : zMu} {op : Option Nat} {u u' : Nat × Nat} {M : zM} {pc q : Nat} {L : List (Nat × Value)} {st st0 : List Value} {Φ Φ' : zPhi}
theorem w1I (M : zM) (a k : Nat) (v : Int32) : (wI M a k v).1 = M.1 := rfl
theorem w1L (M : zM) (a k : Nat) (v : Int64) : (wL M a k v).1 = M.1 := rfl
theorem w1R (M : zM) (a k : Nat) (v : Option Nat) : (wR M a k v).1 = M.1 := rfl
theorem zarr {D : va_G} {cy : Nat → ClassId} {s : State} {cA : ClassId} {k : Nat} {ty : FieldType} (hK : va_K D vwCl (ztys cy) s) (hk : (ztys cy)[k]? = some (cy k, ty)) (hty : va_RA s (cy k) ty → s.vm.findClass ("[" ++ ty.toString) = some (cy k)) (hf : s.vm.findClass ("[" ++ ty.toString) = some cA) : cA = cy k :=
  Option.some.inj (hf.symm.trans (hty (hK.2 k _ hk).2))
set_option maxHeartbeats 4000000 in
theorem zr_newarr {atype : ArrayType} {n : Int32} {N n0 k kd : Nat} {a0 : (Nat → Int32) ⊕ (Nat → Int64) ⊕ (Nat → UInt32) ⊕ (Nat → UInt64) ⊕ (Nat → Option Nat)} (hop : op = some n0) (hn : M.1.length = n0 + u.1) (d : decode (uC μ) pc = .ok (.newarray atype, 2)) (eq : pc + 2 = q) (hk : ∀ cy : Nat → ClassId, (ztys cy)[k]? = some (cy k, newarray.typeOf atype)) (hty : ∀ (s : State) (c : ClassId), va_RA s c (newarray.typeOf atype) → s.vm.findClass ("[" ++ (newarray.typeOf atype).toString) = some c)
    (hcell : ∀ (cy : Nat → ClassId) (base : zB), zcell cy base (mNew M kd N) M.1.length = .inl (cy k, N, a0)) (ha : ∀ cA : ClassId, vp_cell cA (N, a0) = arrV cA N (fun _ => defaultValue (newarray.typeOf atype)))
    (hb : Cond.arrayClass (newarray.typeOf atype) ∈ zBig) (hn0 : ¬ n < 0) (hN : n.toNatClampNeg = N) (hbytes : N * componentBytes (newarray.typeOf atype) ≤ 536870912) (hf : u.1 + 1 ≤ (uM μ).cells ∧ u.2 + N ≤ (uM μ).slots) (hu : (u.1 + 1, u.2 + N) = u') (kk : zW μ op u' (mNew M kd N) q L (.ref M.1.length :: st) Φ) : zW μ op u M pc L (.int n :: st) Φ := by
  subst eq; subst hu
  intro D cy base p l e s m args below meth c C0 H locs ls hM hS hl T0 hT X
  obtain ⟨hx, hbc, hml, hown, hts, hG, hlocks, hrt, hlt, htab, hnm, hop2⟩ := id C0
  have hz := zheap C0 hop hn hM hS hT X
  have hl0 : 0 < M.1.length := mK_lt (by rw [hM.2.1]; decide)
  refine (va_newaK hx hbc (hts _ hb) (g := F0 m pc ls ((.int n :: st).map (zv base))) rfl d (n := n) (N := N) (rest := st.map (zv base)) rfl hn0 hN hbytes hf.1 hf.2 hz fun H1 cA e1 z1 o1 hAr hNm => ?_) T0 hT X
  have hcA : cA = cy k := zarr hG.1 (hk cy) (hty s (cy k)) hNm
  subst hcA
  have hM1 : zS D cy base (mNew M kd N) H1 := by
    refine zS_new hM hz o1 ?_
    rw [hcell cy base]
    show H1[base.1 + M.1.length]? = some (vp_cell (cy k) (N, a0))
    rw [ha]; exact e1
  have h9 := kk D cy base p l e s m args below meth c C0 H1 locs ls hM1 (zS_S hS hz z1 o1) hl
  have e9 : zv base (.ref M.1.length) = .ref (base.1 + M.1.length) := by simp only [zv, zad]; rw [if_neg (by omega)]
  rw [List.map_cons, e9] at h9
  exact h9
theorem zr_newI {n : Int32} {N n0 : Nat} (hop : op = some n0) (hn : M.1.length = n0 + u.1) (d : decode (uC μ) pc = .ok (.newarray .int, 2)) (eq : pc + 2 = q) (hb : Cond.arrayClass .int ∈ zBig) (hn0 : ¬ n < 0) (hN : n.toNatClampNeg = N) (hbytes : N * 4 ≤ 536870912) (hf : u.1 + 1 ≤ (uM μ).cells ∧ u.2 + N ≤ (uM μ).slots) (hu : (u.1 + 1, u.2 + N) = u') (kk : zW μ op u' (mNew M 11 N) q L (.ref M.1.length :: st) Φ) : zW μ op u M pc L (.int n :: st) Φ :=
  zr_newarr (k := 0) (kd := 11) (a0 := .inl (fun _ => 0)) hop hn d eq (fun _ => rfl) (fun _ _ h => h) (fun cy base => by
    rw [zcell_i cy base (by rw [mNew_K, if_neg (by omega), if_pos rfl]), mNew_N, if_neg (by omega), if_pos rfl]
    have : mI (mNew M 11 N) M.1.length = fun _ => 0 := by funext j; rw [mNew_I, if_pos rfl]
    rw [this]) (fun cA => by rw [vp_cell_i]; rfl) hb hn0 hN hbytes hf hu kk
theorem zr_newL {n : Int32} {N n0 : Nat} (hop : op = some n0) (hn : M.1.length = n0 + u.1) (d : decode (uC μ) pc = .ok (.newarray .long, 2)) (eq : pc + 2 = q) (hb : Cond.arrayClass .long ∈ zBig) (hn0 : ¬ n < 0) (hN : n.toNatClampNeg = N) (hbytes : N * 8 ≤ 536870912) (hf : u.1 + 1 ≤ (uM μ).cells ∧ u.2 + N ≤ (uM μ).slots) (hu : (u.1 + 1, u.2 + N) = u') (kk : zW μ op u' (mNew M 12 N) q L (.ref M.1.length :: st) Φ) : zW μ op u M pc L (.int n :: st) Φ :=
  zr_newarr (k := 1) (kd := 12) (a0 := .inr (.inl (fun _ => 0))) hop hn d eq (fun _ => rfl) (fun _ _ h => h) (fun cy base => by
    rw [zcell_l cy base (by rw [mNew_K, if_neg (by omega), if_pos rfl]), mNew_N, if_neg (by omega), if_pos rfl]
    have : mL (mNew M 12 N) M.1.length = fun _ => 0 := by funext j; rw [mNew_L, if_pos rfl]
    rw [this]) (fun cA => by rw [vp_cell_l]; rfl) hb hn0 hN hbytes hf hu kk
theorem zr_newZ {n : Int32} {N n0 : Nat} (hop : op = some n0) (hn : M.1.length = n0 + u.1) (d : decode (uC μ) pc = .ok (.newarray .boolean, 2)) (eq : pc + 2 = q) (hb : Cond.arrayClass .boolean ∈ zBig) (hn0 : ¬ n < 0) (hN : n.toNatClampNeg = N) (hbytes : N * 1 ≤ 536870912) (hf : u.1 + 1 ≤ (uM μ).cells ∧ u.2 + N ≤ (uM μ).slots) (hu : (u.1 + 1, u.2 + N) = u') (kk : zW μ op u' (mNew M 13 N) q L (.ref M.1.length :: st) Φ) : zW μ op u M pc L (.int n :: st) Φ :=
  zr_newarr (k := 2) (kd := 13) (a0 := .inl (fun _ => 0)) hop hn d eq (fun _ => rfl) (fun _ _ h => h) (fun cy base => by
    rw [zcell_z cy base (by rw [mNew_K, if_neg (by omega), if_pos rfl]), mNew_N, if_neg (by omega), if_pos rfl]
    have : mI (mNew M 13 N) M.1.length = fun _ => 0 := by funext j; rw [mNew_I, if_pos rfl]
    rw [this]) (fun cA => by rw [vp_cell_i]; rfl) hb hn0 hN hbytes hf hu kk
set_option maxHeartbeats 4000000 in
theorem zr_anew {idx : Nat} {C : String} {n : Int32} {N n0 k kd : Nat} (hop : op = some n0) (hn : M.1.length = n0 + u.1) (d : decode (uC μ) pc = .ok (.anewarray idx, 3)) (eq : pc + 3 = q) (hk : ∀ cy : Nat → ClassId, (ztys cy)[k]? = some (cy k, .object C)) (hkd : kd = k + 11) (hk3 : 3 ≤ k) (hAO : ∀ U, zFx U → va_AO C U) (hb : Cond.classLink (uY μ).cls idx C ∈ zBig) (hn0 : ¬ n < 0) (hN : n.toNatClampNeg = N) (hbytes : N * 4 ≤ 536870912) (hf : u.1 + 1 ≤ (uM μ).cells ∧ u.2 + N ≤ (uM μ).slots) (hu : (u.1 + 1, u.2 + N) = u') (kk : zW μ op u' (mNew M kd N) q L (.ref M.1.length :: st) Φ) : zW μ op u M pc L (.int n :: st) Φ := by
  subst eq; subst hu; subst hN; subst hkd
  intro D cy base p l e s m args below meth c C0 H locs ls hM hS hl T0 hT X
  obtain ⟨hx, hbc, hml, hown, hts, hG, hlocks, hrt, hlt, htab, hnm, hop2⟩ := id C0
  have hz := zheap C0 hop hn hM hS hT X
  have hl0 : 0 < M.1.length := mK_lt (by rw [hM.2.1]; decide)
  refine (W.anew hx hbc hown (hts _ hb) (va_AO.use (hAO s hG.2.2.2.2)) (g := F0 m pc ls ((.int n :: st).map (zv base))) rfl d (n := n) (rest := st.map (zv base)) rfl hn0 hbytes hf.1 hf.2 fun cA kA comp f1 f2 f3 f4 => ?_) T0 hT X
  generalize hH1 : H.push ({ cls := cA, slots := Array.replicate n.toNatClampNeg .null, vm := .none } : Cell) = H1
  have z1 : H1.size = base.1 + M.1.length + 1 := by rw [← hH1, Array.size_push, hz]
  have e1 : H1[base.1 + M.1.length]? = some (arrV cA n.toNatClampNeg (fun _ => .null)) := by rw [← hH1, ← hz, Array.getElem?_push_size, ← arrV_new]
  have o1 : ∀ q : Nat, q < base.1 + M.1.length → H1[q]? = H[q]? := fun q hq => by rw [← hH1, Array.getElem?_push, if_neg (by omega)]
  have hcA : cA = cy k := by
    obtain ⟨kA2, comp2, g1, g2, g3, g4⟩ := (hG.1.2 k _ (hk cy)).2
    exact Option.some.inj (f1.symm.trans g4)
  subst hcA
  have hM1 : zS D cy base (mNew M (k + 11) n.toNatClampNeg) H1 := by
    refine zS_new hM hz o1 ?_
    rw [zcell_q cy base (k := k + 11) (by rw [mNew_K, if_neg (by omega), if_pos rfl]) (by omega), mNew_N, if_neg (by omega), if_pos rfl, Nat.add_sub_cancel]
    have e2 : (fun j => (mR (mNew M (k + 11) n.toNatClampNeg) M.1.length j).map (fun r => zad base r)) = fun _ => none := by funext j; rw [mNew_R, if_pos rfl]; rfl
    rw [e2]
    show H1[base.1 + M.1.length]? = some (vp_cell _ _)
    rw [vp_cell_q]
    exact e1
  have h9 := kk D cy base p l e s m args below meth c C0 H1 locs ls hM1 (zS_S hS hz z1 o1) hl
  have e9 : zv base (.ref M.1.length) = .ref (base.1 + M.1.length) := by simp only [zv, zad]; rw [if_neg (by omega)]
  rw [List.map_cons, e9, ← hz] at h9
  exact h9
set_option maxHeartbeats 4000000 in
theorem zr_aast {a v kd ci t0 : Nat} {i : Int32} {r : vw_C} (d : decode (uC μ) pc = .ok (.aastore, 1)) (eq : pc + 1 = q) (hk : mK M a = kd) (hkd : kd = t0 + 11) (ht3 : 3 ≤ t0) (ht5 : t0 < 5) (hv : mK M v = ci) (h11 : ci < 11) (hc : vwCl[ci]? = some r) (ht : ∀ cy : Nat → ClassId, (ztys cy)[t0]? = some (cy t0, .object r.1)) (hi : zin i (mN M a) = true) (kk : zW μ op u (wR M a i.toNatClampNeg (some v)) q L st Φ) : zW μ op u M pc L (.ref v :: .int i :: .ref a :: st) Φ := by
  subst eq; subst hkd
  intro D cy base p l e s m args below meth c C0 H locs ls hM hS hl
  have h0a : 0 < a := z0 hM (by omega)
  have h0v : 0 < v := z0 hM (by omega)
  have ga := zw_get cy base M h0a (mK_lt (by omega : mK M a < 99))
  have gv := zw_get cy base M h0v (mK_lt (by omega : mK M v < 99))
  rw [zcell_q cy base hk (by omega), Nat.add_sub_cancel] at ga
  rw [zcell_o cy base hv h11] at gv
  refine va_astq C0.1 C0.2.1 C0.2.2.2.2.2.1.1 hM.1 (zw_D cy base M) hS (a - 1) t0 (v - 1) ci ga (ht cy) gv hc (zin_in hi) d (fun H1 locs1 hP1 hD1 hS1 => ?_)
  have e1 : zcell cy base (wR M a i.toNatClampNeg (some v)) a = .inl (cy t0, mN M a, .inr (.inr (.inr (.inr (va_up (fun j => (mR M a j).map (fun r => zad base r)) i.toNatClampNeg (some (zad base v))))))) := by
    rw [zcell_q cy base (show mK (wR M a i.toNatClampNeg (some v)) a = t0 + 11 from hk) (by omega), Nat.add_sub_cancel]
    have : (fun j => (mR (wR M a i.toNatClampNeg (some v)) a j).map (fun r => zad base r)) = va_up (fun j => (mR M a j).map (fun r => zad base r)) i.toNatClampNeg (some (zad base v)) := by
      funext j
      by_cases hj : j = i.toNatClampNeg
      · simp [mR_wR, va_up, hj]
      · simp [mR_wR, va_up, hj]
    rw [this]; rfl
  rw [← e1, ← zw_put cy base M (wR M a i.toNatClampNeg (some v)) a h0a rfl (fun b hb => zo_R cy base M a _ _ b hb)] at hP1
  exact kk D cy base p l e s m args below meth c C0 H1 locs1 ls (zS_up hM rfl (fun _ => rfl) hP1) hS1 hl
set_option maxHeartbeats 4000000 in
theorem zr_callI {a idx n n0 : Nat} {As : List Value} {M1 : zM} (hop : op = some n0) (hlen : M.1.length = n0 + u.1) (hc : zMet μ' true M (.ref a :: As) (zE (oV ()) M1)) (d : decode (uC μ) pc = .ok (.invokespecial idx, 3)) (eq : pc + 3 = q) (hH' : uH μ' = []) (hb : Cond.code (uY μ') (uC μ') (uL μ') (uR μ') ∈ zBig ∧ Cond.methodLink (uY μ).cls idx (uY μ') ∈ zBig ∧ Cond.instanceMethod (uY μ') ∈ zBig ∧ Cond.initialized (uY μ').cls ∈ zBig) (hnm : (uY μ').name = "<init>") (hr' : uR μ' = none)
    (hd : (uY μ').cls ≠ "java/lang/invoke/MethodHandle" ∧ (uY μ').cls ≠ "java/lang/invoke/VarHandle" ∧ (parseMethodDescriptor (uY μ').desc).map (fun d => d.parameters.length) = some n)
    (hR : (uM μ').frames + 1 ≤ (uM μ).frames ∧ 8 + (uL μ' + 11) + (uM μ').locals ≤ (uM μ).locals) (hf : u.1 + (uM μ').cells ≤ (uM μ).cells ∧ u.2 + (uM μ').slots ≤ (uM μ).slots)
    (hn : As.length = n) (hst : As.reverse ++ .ref a :: st = st0) (hrest : (st.map fun v => v.category).sum ≤ 8) (hu : (u.1 + (uM μ').cells, u.2 + (uM μ').slots) = u')
    (kk : zW μ op u' M1 q L st Φ) : zW μ op u M pc L st0 Φ := by
  subst eq; subst hst; subst hu
  intro D cy base p l e s m args below meth c C0 H locs ls hM hS hl T0 hT X
  obtain ⟨hx, hbc, hml, hown, hts, hG, hlocks, hrt, hlt, htab, hnm9, hop2⟩ := id C0
  have hz := zheap C0 hop hlen hM hS hT X
  have hw : uW μ' = Cond.code (uY μ') (uC μ') (uL μ') none :: zBig := by unfold uW uK; rw [hH', hr']
  have hk' : uK μ' ∈ zBig := by unfold uK; rw [hH']; exact hb.1
  have hgd : GoodIn zBig (uW μ') := zgoodB (ws := []) hk' (fun w h9 => by cases h9)
  exact (zafter C0 hS hl (va_runI (p := p) (l := l) (e := e) (R := uM μ) (below := below) (meth := meth) (locs := locs) (cells := u.1) (slots := u.2) (As := As.map (zv base)) (rest := st.map (zv base)) (b := zad base a) (g := F0 m pc ls ((As.reverse ++ .ref a :: st).map (zv base))) ⟨hx, hbc, hml, hown, fun w hw9 => hts w hw9⟩ (zMet_met hc (fun E M' e => by cases e.1) l D cy base hlt) (cwI (Ts := zBig) n hts hgd hw rfl rfl (hts _ hb.2.2.2) (hts _ hb.2.1) (hts _ hb.2.2.1) hnm hd hR) ⟨zblind, zpre (As := .ref a :: As) hG hM hS (fun _ => hz)⟩ rfl (by simpa using hn) hl.1 (by simp [zv]) (lv_room (by rw [zcats]; exact hrest)) d hf) (fun r M' e => by
    obtain ⟨e1, e2⟩ := e
    cases e1; subst e2; exact kk)) T0 hT X
set_option maxHeartbeats 4000000 in
theorem zr_callIN {a idx n n0 : Nat} {As : List Value} {M1 : zM} (hop : op = some n0) (hlen : M.1.length = n0 + u.1) (hc : zMet μ' true M (.ref a :: As) (zE (oV ()) M1)) (d : decode (uC μ) pc = .ok (.invokespecial idx, 3)) (eq : pc + 3 = q) (hH' : uH μ' = []) (hnl : ((uY μ).cls, idx, uY μ', RX9) ∈ zNl) (hb : Cond.code (uY μ') (uC μ') (uL μ') (uR μ') ∈ zBig ∧ Cond.instanceMethod (uY μ') ∈ zBig ∧ Cond.initialized (uY μ').cls ∈ zBig) (hnm : (uY μ').name = "<init>") (hr' : uR μ' = none)
    (hd : (uY μ').cls ≠ "java/lang/invoke/MethodHandle" ∧ (uY μ').cls ≠ "java/lang/invoke/VarHandle" ∧ (parseMethodDescriptor (uY μ').desc).map (fun d => d.parameters.length) = some n)
    (hR : (uM μ').frames + 1 ≤ (uM μ).frames ∧ 8 + (uL μ' + 11) + (uM μ').locals ≤ (uM μ).locals) (hf : u.1 + (uM μ').cells ≤ (uM μ).cells ∧ u.2 + (uM μ').slots ≤ (uM μ).slots)
    (hn : As.length = n) (hst : As.reverse ++ .ref a :: st = st0) (hrest : (st.map fun v => v.category).sum ≤ 8) (hu : (u.1 + (uM μ').cells, u.2 + (uM μ').slots) = u')
    (kk : zW μ op u' M1 q L st Φ) : zW μ op u M pc L st0 Φ := by
  subst eq; subst hst; subst hu
  intro D cy base p l e s m args below meth c C0 H locs ls hM hS hl T0 hT X
  obtain ⟨hx, hbc, hml, hown, hts, hG, hlocks, hrt, hlt, htab, hnm9, hop2⟩ := id C0
  have hz := zheap C0 hop hlen hM hS hT X
  have hw : uW μ' = Cond.code (uY μ') (uC μ') (uL μ') none :: zBig := by unfold uW uK; rw [hH', hr']
  have hk' : uK μ' ∈ zBig := by unfold uK; rw [hH']; exact hb.1
  have hgd : GoodIn zBig (uW μ') := zgoodB (ws := []) hk' (fun w h9 => by cases h9)
  have hnw : va_Nw (.methodLinkNest (uY μ).cls idx (uY μ') RX9) s := hG.2.2.2.2.1 _ hnl
  exact (zafter C0 hS hl (va_runIN (p := p) (l := l) (e := e) (R := uM μ) (below := below) (meth := meth) (locs := locs) (cells := u.1) (slots := u.2) (As := As.map (zv base)) (rest := st.map (zv base)) (b := zad base a) (g := F0 m pc ls ((As.reverse ++ .ref a :: st).map (zv base))) ⟨hx, hbc, hml, hown, fun w hw9 => hts w hw9⟩ (zMet_met hc (fun E M' e => by cases e.1) l D cy base hlt) ⟨va_cnB (Ts := zBig) n hts hgd hw rfl rfl hnw (hts _ hb.2.2) hd hR, hnm, hts _ hb.2.1⟩ ⟨zblind, zpre (As := .ref a :: As) hG hM hS (fun _ => hz)⟩ rfl (by simpa using hn) hl.1 (by simp [zv]) (lv_room (by rw [zcats]; exact hrest)) d hf) (fun r M' e => by
    obtain ⟨e1, e2⟩ := e
    cases e1; subst e2; exact kk)) T0 hT X
end ZMAKE2
