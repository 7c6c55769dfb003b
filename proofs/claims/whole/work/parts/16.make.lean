/-! RULES for constructors: making things and calling constructors, while the heap ends with the memory. -/
section ZMAKE
variable {μ μ' : zMu} {op : Option Nat} {u u' : Nat × Nat} {M : zM} {pc q : Nat} {L : List (Nat × Value)} {st st0 : List Value} {Φ Φ' : zPhi}
theorem zheap {D : va_G} {cy : Nat → ClassId} {base : zB} {p : Program} {l : Launch} {e : Env} {s : State} {m : MethodId} {args : Array Value} {below : List Frame} {meth : Method} {c : Code} (C0 : zC μ op l D cy base p s m args meth c) {H : Heap} {locs : List Loc} {T0 : State} {n0 : Nat} (hop : op = some n0) (hn : M.1.length = n0 + u.1) (hM : zS D cy base M H) (hS : va_S (zA base) s.heap H locs) (hT : T0.heap = H) (X : Stand p l e (uM μ) s m args below meth c T0 locs u.1 u.2) : H.size = base.1 + M.1.length := by
  have h1 := X.heapSize
  rw [hT, C0.2.2.2.2.2.2.2.2.2.2.2 n0 hop] at h1
  have h2 := zsize hM (Nat.lt_of_lt_of_le C0.2.2.2.2.2.1.2.1.1 hS.1)
  omega
theorem mNew_K (M : zM) (kd len a : Nat) : mK (mNew M kd len) a = if a < M.1.length then mK M a else if a = M.1.length then kd else 99 := by
  simp only [mK, mNew, List.getD_eq_getElem?_getD, List.getElem?_append]
  by_cases h : a < M.1.length
  · simp [h]
  · rw [if_neg h, if_neg h]
    by_cases h2 : a = M.1.length
    · subst h2; simp
    · rw [if_neg h2]
      obtain ⟨c, hc⟩ : ∃ c, a - M.1.length = c + 1 := ⟨a - M.1.length - 1, by omega⟩
      rw [hc]; rfl
theorem mNew_N (M : zM) (kd len a : Nat) : mN (mNew M kd len) a = if a < M.1.length then mN M a else if a = M.1.length then len else 0 := by
  simp only [mN, mNew, List.getD_eq_getElem?_getD, List.getElem?_append]
  by_cases h : a < M.1.length
  · simp [h]
  · rw [if_neg h, if_neg h]
    by_cases h2 : a = M.1.length
    · subst h2; simp
    · rw [if_neg h2]
      obtain ⟨c, hc⟩ : ∃ c, a - M.1.length = c + 1 := ⟨a - M.1.length - 1, by omega⟩
      rw [hc]; rfl
theorem mNew_I (M : zM) (kd len a j : Nat) : mI (mNew M kd len) a j = if a = M.1.length then 0 else mI M a j := rfl
theorem mNew_L (M : zM) (kd len a j : Nat) : mL (mNew M kd len) a j = if a = M.1.length then 0 else mL M a j := rfl
theorem mNew_R (M : zM) (kd len a j : Nat) : mR (mNew M kd len) a j = if a = M.1.length then none else mR M a j := rfl
theorem mNew_len (M : zM) (kd len : Nat) : (mNew M kd len).1.length = M.1.length + 1 := by simp [mNew]
theorem zo_new (cy : Nat → ClassId) (base : zB) (M : zM) (kd len b : Nat) (hb : b < M.1.length) : zcell cy base (mNew M kd len) b = zcell cy base M b :=
  zcell_eq cy base (by rw [mNew_K, if_pos hb]) (by rw [mNew_N, if_pos hb]) (fun j => by rw [mNew_I, if_neg (by omega)]) (fun j => by rw [mNew_L, if_neg (by omega)]) (fun j => by rw [mNew_R, if_neg (by omega)])
/-- one cell more at the heap's end -/
theorem zS_new {D : va_G} {cy : Nat → ClassId} {base : zB} {H H1 : Heap} {kd len : Nat} (hM : zS D cy base M H) (hz : H.size = base.1 + M.1.length) (ho : ∀ q, q < base.1 + M.1.length → H1[q]? = H[q]?)
    (hat : va_at D vwCl (base.1 + M.1.length, zcell cy base (mNew M kd len) M.1.length) H1) : zS D cy base (mNew M kd len) H1 := by
  have hl : 0 < M.1.length := mK_lt (by rw [hM.2.1]; decide)
  refine ⟨fun k x hx => ?_, by rw [mNew_K, if_pos hl]; exact hM.2.1, by rw [mNew_N, if_pos hl]; exact hM.2.2.1, fun j => by rw [mNew_I, if_neg (by omega)]; exact hM.2.2.2 j⟩
  have hk : k < M.1.length := by
    have := (List.getElem?_eq_some_iff.mp hx).1
    simp [zw, mNew_len] at this
    exact this
  have hx2 := zw_get cy base (mNew M kd len) (a := k + 1) (by omega) (by rw [mNew_len]; omega)
  rw [Nat.add_sub_cancel] at hx2
  rw [hx2] at hx
  cases hx
  by_cases h : k + 1 < M.1.length
  · rw [zo_new cy base M kd len _ h]
    have h3 := hM.1 (k + 1 - 1) _ (zw_get cy base M (by omega) h)
    refine h3.kept (ho _ ?_)
    simp [zad]; omega
  · have e1 : k + 1 = M.1.length := by omega
    rw [e1]
    have : zad base M.1.length = base.1 + M.1.length := by unfold zad; rw [if_neg (by omega)]
    rw [this]
    exact hat
theorem zS_S {base : zB} {s : State} {H H1 : Heap} {locs : List Loc} {n : Nat} (hS : va_S (zA base) s.heap H locs) (hz : H.size = n) (z1 : H1.size = n + 1) (ho : ∀ q, q < n → H1[q]? = H[q]?) : va_S (zA base) s.heap H1 locs :=
  ⟨Nat.le_trans hS.1 (by omega), fun x h1 h2 => (ho x (by have := hS.1; omega)).trans (hS.2.1 x h1 h2), hS.2.2⟩
def zgt (ty : FieldType) : Bool := match ty with
  | .int => true
  | .boolean => true
  | .long => true
  | .object _ => true
  | .array _ => true
  | _ => false
set_option maxHeartbeats 4000000 in
theorem zr_new {idx ci N n0 : Nat} {C : String} {T : u_T} (hop : op = some n0) (hn : M.1.length = n0 + u.1) (d : decode (uC μ) pc = .ok (.new idx, 3)) (eq : pc + 3 = q) (hc : vwCl[ci]? = some (C, T, N)) (h11 : ci < 11) (hN : znf ci = N) (hin : ∀ w ∈ u_ws C T N, w ∈ zBig) (hok : ∀ k, k < N → parseFieldDescriptor (T k).2.2.1 = some (zty ci k)) (hgt : ∀ k, k < N → zgt (zty ci k) = true)
    (hb : Cond.classLink (uY μ).cls idx C ∈ zBig ∧ Cond.instantiable C N ∈ zBig ∧ Cond.initialized C ∈ zBig) (hf : u.1 + 1 ≤ (uM μ).cells ∧ u.2 + N ≤ (uM μ).slots) (hu : (u.1 + 1, u.2 + N) = u') (kk : zW μ op u' (mNew M ci 0) q L (.ref M.1.length :: st) Φ) : zW μ op u M pc L st Φ := by
  subst eq; subst hu; subst hN
  intro D cy base p l e s m args below meth c C0 H locs ls hM hS hl T0 hT X
  obtain ⟨hx, hbc, hml, hown, hts, hG, hlocks, hrt, hlt, htab, hnm, hop2⟩ := id C0
  have hz := zheap C0 hop hn hM hS hT X
  have hKn := hG.1.1 ci _ hc
  have hl0 : 0 < M.1.length := mK_lt (by rw [hM.2.1]; decide)
  refine (W.newcK hx hbc hown (hts _ hb.1) (hts _ hb.2.1) (hts _ hb.2.2) (g := F0 m pc ls (st.map (zv base))) rfl d hf.1 hf.2 hKn.2.1 hz fun H1 kC hkC e1 z1 o1 => ?_) T0 hT X
  have hM1 : zS D cy base (mNew M ci 0) H1 := by
    refine zS_new hM hz o1 ?_
    rw [zcell_o cy base (ci := ci) (by rw [mNew_K, if_neg (by omega), if_pos rfl]) h11]
    refine ⟨_, hc, (u_born (zty ci) hts hin hKn hkC e1 hok).to (fun j hj => ?_)⟩
    have hg := hgt j hj
    simp only [vp_V]
    rw [List.getD_eq_getElem?_getD, List.getElem?_map, List.getElem?_range hj]
    simp only [Option.map_some, Option.getD_some]
    generalize zty ci j = ty at hg
    cases ty <;> first | (cases hg; done) | simp [zf, mNew_I, mNew_L, mNew_R, zv, va_rf, defaultValue]
  have h9 := kk D cy base p l e s m args below meth c C0 H1 locs ls hM1 (zS_S hS hz z1 o1) hl
  have e9 : zv base (.ref M.1.length) = .ref (base.1 + M.1.length) := by simp only [zv, zad]; rw [if_neg (by omega)]
  rw [List.map_cons, e9] at h9
  exact h9
set_option maxHeartbeats 4000000 in
theorem zr_objInit {a idx : Nat} (d : decode (uC μ) pc = .ok (.invokespecial idx, 3)) (eq : pc + 3 = q) (hb : Cond.methodLink (uY μ).cls idx Lib.objectInit ∈ zBig ∧ Cond.instanceMethod Lib.objectInit ∈ zBig ∧ Cond.code Lib.objectInit ⟨#[0xb1]⟩ 1 none ∈ zBig) (hR : 1 ≤ (uM μ).frames ∧ (st.map fun v => v.category).sum + 12 ≤ (uM μ).locals) (kk : zW μ op u M q L st Φ) : zW μ op u M pc L (.ref a :: st) Φ := by
  subst eq
  intro D cy base p l e s m args below meth c C0 H locs ls hM hS hl
  obtain ⟨hx, hbc, hml, hown, hts, hG, hlocks, hrt, hlt, htab, hnm, hop2⟩ := id C0
  refine W.objInit hx hbc hown (hts _ hb.1) (hts _ hb.2.1) (hts _ hb.2.2) (g := F0 m pc ls ((.ref a :: st).map (zv base))) rfl (hl.1.trans hml.symm) (a := zad base a) (rest := st.map (zv base)) rfl d hR.1 (by rw [zcats]; exact (by simpa using hR.2)) (kk D cy base p l e s m args below meth c C0 H locs ls hM hS hl)
end ZMAKE
