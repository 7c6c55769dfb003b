/-! RULES for methods with handlers (the law's wrappers): a call that doesn't throw, one that throws and is caught at once, entry, calls of such methods. -/
section ZCATCH
variable {μ μ' : zMu} {op : Option Nat} {u u' : Nat × Nat} {M : zM} {pc q : Nat} {L : List (Nat × Value)} {st st0 : List Value} {Φ Φ' : zPhi}
/-- nothing is known of the heap's end any more -/
theorem zr_none (k : zW μ none u M pc L st Φ) : zW μ op u M pc L st Φ := by
  intro D cy base p l e s m args below meth c C0
  obtain ⟨hx, hbc, hml, hown, hts, hG, hlocks, hr, hlt, htab, hnm, hop⟩ := C0
  exact k D cy base p l e s m args below meth c ⟨hx, hbc, hml, hown, hts, hG, hlocks, hr, hlt, htab, hnm, fun n h => by cases h⟩
theorem zr_widen (h1 : u.1 ≤ u'.1) (h2 : u.2 ≤ u'.2) (k : zW μ op u' M pc L st Φ) : zW μ op u M pc L st Φ := by
  intro D cy base p l e s m args below meth c C0 H locs ls hM hS hl
  exact W.widen h1 h2 (k D cy base p l e s m args below meth c C0 H locs ls hM hS hl)
set_option maxHeartbeats 4000000 in
theorem zMet_ofH {op : Bool} {As : List Value} {h : Nat × Nat × Nat × Nat} {hs : List (Nat × Nat × Nat × Nat)} (hy : plainName (uY μ).cls = true) (hH : uH μ = h :: hs) (hL : lv_args 0 As = L) (hn : (lg_sl As).length ≤ uL μ)
    (k : zW μ (bif op then some M.1.length else none) (0, 0) M 0 L [] Φ) : zMet μ op M As Φ := by
  intro l D cy base hlt
  have hw : uW μ = Cond.codeWith (uY μ) (uC μ) (uL μ) (uR μ) (h :: hs) :: zBig := by unfold uW uK; rw [hH]
  refine vx_ofWH (cc := uC μ) (maxL := uL μ) (ret := uR μ) (hh := h :: hs) hy hw ?_
  intro p e s m args below meth c s₁ B hml hv
  obtain ⟨rfl, hG, hM, hop⟩ := hv
  have hts := atoms_spec (ws := uW μ) B.pre
  have hown : s.vm.findClass (uY μ).cls = some m.cls := findClass_of_methodNamed B.named
  have hnm : meth.name = (uY μ).name := (name_of_methodNamed B.named B.method).1
  have htab : c.exceptionTable.toList = tableOf (uH μ) := by
    rw [hH]
    exact vx_table (x := uY μ) B (hts _ (by rw [hw]; exact List.mem_cons_self))
  have C : zC μ (bif op then some M.1.length else none) l D cy base p s m (As.map (zv base)).toArray meth c := ⟨B.exec, B.bytes, hml, hown, fun w hw9 => hts w (List.mem_cons_of_mem _ hw9), hG, B.notSynchronized, B.returns, hlt, htab, hnm, fun n hn => by
    cases op with
    | false => cases hn
    | true => cases hn; exact hop rfl⟩
  have hl := lv_entry (As.map (zv base)) (n := uL μ) (by rw [zl_sl]; exact hn)
  rw [zl_args, hL] at hl
  rw [lg_entry_eq]
  exact k D cy base p l e s m _ below meth c C s.heap [] _ hM va_S.rf hl
set_option maxHeartbeats 4000000 in
/-- a call whose outcome is known, at W -/
theorem zr_callG {T : u_T} {N ci a idx n : Nat} {As : List Value} (hc : zMet μ' false M (.ref a :: As) Φ') (d : decode (uC μ) pc = .ok (.invokevirtual idx, 3)) (hH' : uH μ' = []) (hb : Cond.code (uY μ') (uC μ') (uL μ') (uR μ') ∈ zBig ∧ Cond.methodLink (uY μ).cls idx (uY μ') ∈ zBig ∧ Cond.instanceMethod (uY μ') ∈ zBig ∧ Cond.selects (uY μ').cls (uY μ') (uY μ') ∈ zBig ∧ Cond.initialized (uY μ').cls ∈ zBig)
    (hd : (uY μ').cls ≠ "java/lang/invoke/MethodHandle" ∧ (uY μ').cls ≠ "java/lang/invoke/VarHandle" ∧ (parseMethodDescriptor (uY μ').desc).map (fun d => d.parameters.length) = some n)
    (hR : (uM μ').frames + 1 ≤ (uM μ).frames ∧ 8 + (uL μ' + 11) + (uM μ').locals ≤ (uM μ).locals) (hf : u.1 + (uM μ').cells ≤ (uM μ).cells ∧ u.2 + (uM μ').slots ≤ (uM μ).slots)
    (hk : mK M a = ci) (h11 : ci < 11) (hci : vwCl[ci]? = some ((uY μ').cls, T, N)) (hn : As.length = n) (hst : As.reverse ++ .ref a :: st = st0) (hrest : (st.map fun v => v.category).sum ≤ 8)
    (kx : ∀ E M', Φ' (.inr E) M' → ∀ (D : va_G) (cy : Nat → ClassId) (base : zB) (p : Program) (l : Launch) (e : Env) (s : State) (m : MethodId) (args : Array Value) (below : List Frame) (meth : Method) (c : Code), zC μ op l D cy base p s m args meth c → ∀ (H : Heap) (locs : List Loc) (ls : Array Slot) (q9 : Addr) (ce : Cell), zS D cy base M' H → va_S (zA base) s.heap H locs → lv_has ls (uL μ) (zl base L) → H[q9]? = some ce → ce.vm = .none → s.vm.findClass E = some ce.cls →
      vx_W p l e (uM μ) s m args below meth c H locs (u.1 + (uM μ').cells) (u.2 + (uM μ').slots) (vx_MQ below (zQ D cy base Φ) (zX D cy base Φ) args s (uM μ).cells (uM μ).slots (zA base)) (F0 m pc ls (st.map (zv base))) q9)
    (kk : ∀ r M', Φ' (.inl r) M' → zW μ op (u.1 + (uM μ').cells, u.2 + (uM μ').slots) M' (pc + 3) L (r.toList ++ st) Φ) : zW μ op u M pc L st0 Φ := by
  subst hst
  intro D cy base p l e s m args below meth c C0 H locs ls hM hS hl
  obtain ⟨hx, hbc, hml, hown, hts, hG, hlocks, hr, hlt, htab, hnm, hop⟩ := id C0
  have h0a : 0 < a := z0 hM (by omega)
  have hw : uW μ' = Cond.code (uY μ') (uC μ') (uL μ') (uR μ') :: zBig := by unfold uW uK; rw [hH']
  have hk' : uK μ' ∈ zBig := by unfold uK; rw [hH']; exact hb.1
  have hgd : GoodIn zBig (wsV (uY μ).cls idx (uY μ').cls (uY μ') (uW μ')) := zgoodB hk' (zm4 hb.2.1 hb.2.2.1 hb.2.2.2.1 hb.2.2.2.2)
  have hgc := zw_get cy base M h0a (mK_lt (by omega : mK M a < 99))
  rw [zcell_o cy base hk h11] at hgc
  have hrecv := va_recv hG.1 hM.1 (ci := ci) (q0 := a - 1) hci hgc
  have run := vx_runV (p := p) (l := l) (e := e) (R := uM μ) (below := below) (meth := meth) (locs := locs) (cells := u.1) (slots := u.2) (As := As.map (zv base)) (rest := st.map (zv base)) (b := zad base a) (g := F0 m pc ls ((As.reverse ++ .ref a :: st).map (zv base))) ⟨hx, hbc, hml, hown, fun w hw9 => hts w hw9⟩ (hc l D cy base hlt) (cwV (Ts := zBig) n hts hgd hw rfl rfl ⟨rfl, hd⟩ hR) ⟨zblind, hrecv, zpre (As := .ref a :: As) hG hM hS (fun h => by cases h)⟩ rfl (by simpa using hn) hl.1 (by simp [zv]) (lv_room (by rw [zcats]; exact hrest)) d hf
  intro T0 hT X
  rcases run T0 hT X with ⟨v, st₀, t, T', L', h0, X', hL, e1, e2, ⟨r, M', hv, hΦ, hM', hF⟩, stp⟩ | ⟨q9, st₀, t, T', L', E, ce, h0, X', hL, e1, e2, ⟨M', hΦ, hM', hF⟩, hce, hcv, hcl, stp⟩
  · obtain ⟨k1, k2, k3⟩ := vx_keep h0 e1 hS (fun q _ h => h) (fun q h => h) hL hF
    cases hv
    obtain ⟨t2, a1, b1⟩ := kk r M' hΦ D cy base p l e s m args below meth c C0 T'.heap (locs ++ L') ls (by rw [e1]; exact hM') k3 hl T' rfl X'
    rw [← zstk] at a1
    exact ⟨t2, stp t2 a1, b1⟩
  · obtain ⟨k1, k2, k3⟩ := vx_keep h0 e1 hS (fun q _ h => h) (fun q h => h) hL hF
    obtain ⟨t2, a1, b1⟩ := kx E M' hΦ D cy base p l e s m args below meth c C0 T'.heap (locs ++ L') ls q9 ce (by rw [e1]; exact hM') k3 hl (by rw [e1]; exact hce) hcv hcl T' rfl X'
    exact ⟨t2, stp.trans a1, b1⟩
/-- caught at once: the handler stores the exception and returns a number -/
theorem zcaught {E : String} {x : Nat × Nat × Nat × Nat} {pre suf : List (Nat × Nat × Nat × Nat)} {i q1 q2 : Nat} {nn : Int} {v : Int32} {M' : zM} (hH : uH μ = pre ++ x :: suf) (hpass : ∀ z ∈ pre, z.2.2.2 ≠ 0 ∧ ∃ nm : String, Cond.classLink (uY μ).cls z.2.2.2 nm ∈ zBig ∧ (E, nm) ∈ zNo) (hx : decide (x.1 ≤ pc) = true ∧ decide (pc < x.2.1) = true) (h0 : x.2.2.2 ≠ 0) (hlink : Cond.classLink (uY μ).cls x.2.2.2 E ∈ zBig) (hE : E ∈ zEx)
    (d1 : (decode (uC μ) x.2.2.1 = .ok (.astore i, 2) ∧ q1 = x.2.2.1 + 2) ∨ (∃ f : Fin 4, (f : Nat) = i ∧ decode (uC μ) x.2.2.1 = .ok (.astore_n f, 1) ∧ q1 = x.2.2.1 + 1)) (hi : i < uL μ) (d2 : decode (uC μ) q1 = .ok (.iconst nn, 1)) (hv : Int32.ofInt nn = v) (hq2 : q1 + 1 = q2) (d3 : decode (uC μ) q2 = .ok (.ireturn, 1)) (hr : uR μ = some .int) (hu : u.1 ≤ (uM μ).cells ∧ u.2 ≤ (uM μ).slots) (hΦ : Φ (.inl (some (.int v))) M') :
    ∀ (D : va_G) (cy : Nat → ClassId) (base : zB) (p : Program) (l : Launch) (e : Env) (s : State) (m : MethodId) (args : Array Value) (below : List Frame) (meth : Method) (c : Code), zC μ op l D cy base p s m args meth c → ∀ (H : Heap) (locs : List Loc) (ls : Array Slot) (q9 : Addr) (ce : Cell), zS D cy base M' H → va_S (zA base) s.heap H locs → lv_has ls (uL μ) (zl base L) → H[q9]? = some ce → ce.vm = .none → s.vm.findClass E = some ce.cls →
      vx_W p l e (uM μ) s m args below meth c H locs u.1 u.2 (vx_MQ below (zQ D cy base Φ) (zX D cy base Φ) args s (uM μ).cells (uM μ).slots (zA base)) (F0 m pc ls (st.map (zv base))) q9 := by
  intro D cy base p l e s m args below meth c C0 H locs ls q9 ce hM hS hl hce hcv hcl
  obtain ⟨hx9, hbc, hml, hown, hts, hG, hlocks, hrt, hlt, htab, hnm, hop⟩ := id C0
  subst hq2
  have hsplit : c.exceptionTable.toList = tableOf pre ++ ⟨x.1, x.2.1, x.2.2.1, x.2.2.2⟩ :: tableOf suf := by rw [htab, hH]; simp [tableOf]
  refine vx_catch (name := E) hown (tableOf pre) ⟨x.1, x.2.1, x.2.2.1, x.2.2.2⟩ (tableOf suf) hsplit (fun z hz => ?_) (by simp only [covers]; rw [hx.1, hx.2]; rfl) h0 (hts _ hlink) (va_Nw.use rfl (hG.2.2.2.2.2.1 E hE)) hce hcv hcl ?_
  · obtain ⟨z9, hz9, rfl⟩ := List.mem_map.mp hz
    obtain ⟨p1, nm, p2, p3⟩ := hpass z9 hz9
    exact Or.inr ⟨p1, nm, hts _ p2, hG.2.2.2.2.2.2.1 _ p3⟩
  · have fin : ∀ ls' : Array Slot, W p l e (uM μ) s m args below meth c H locs u.1 u.2 (vx_MQ below (zQ D cy base Φ) (zX D cy base Φ) args s (uM μ).cells (uM μ).slots (zA base)) (F0 m q1 ls' []) := fun ls' =>
      lv_iconst (v := v) hx9 hbc d2 hv (W.widen hu.1 hu.2 (vx_ret (W.iret (v := v) hx9 hbc (hrt.trans hr) (fun t ht hW => ⟨some (.int v), M', rfl, hΦ, by rw [ht]; exact hM, hS.F ht⟩) hS.2.2 d3 hlocks)))
    rcases d1 with ⟨d1, rfl⟩ | ⟨f, hf, d1, rfl⟩
    · exact lv_astore hx9 hbc d1 hl hi rfl (fun ls' _ => fin ls')
    · exact lv_astore_n hx9 hbc d1 hf hl hi rfl (fun ls' _ => fin ls')
set_option maxHeartbeats 4000000 in
/-- a static call of a method with handlers, which doesn't throw -/
theorem zr_callSH {idx n : Nat} {As : List Value} {h : Nat × Nat × Nat × Nat} {hs : List (Nat × Nat × Nat × Nat)} {r1 : Int32} {M1 : zM} (hc : zMet μ' false M As (zE (oI r1) M1)) (d : decode (uC μ) pc = .ok (.invokestatic idx, 3)) (eq : pc + 3 = q) (hH' : uH μ' = h :: hs)
    (hb : Cond.codeWith (uY μ') (uC μ') (uL μ') (uR μ') (h :: hs) ∈ zBig ∧ Cond.methodLink (uY μ).cls idx (uY μ') ∈ zBig ∧ Cond.static (uY μ') ∈ zBig ∧ Cond.initialized (uY μ').cls ∈ zBig)
    (hd : (uY μ').cls ≠ "java/lang/invoke/MethodHandle" ∧ (uY μ').cls ≠ "java/lang/invoke/VarHandle" ∧ (parseMethodDescriptor (uY μ').desc).map (fun d => d.parameters.length) = some n)
    (hR : (uM μ').frames + 1 ≤ (uM μ).frames ∧ 8 + (uL μ' + 11) + (uM μ').locals ≤ (uM μ).locals) (hf : u.1 + (uM μ').cells ≤ (uM μ).cells ∧ u.2 + (uM μ').slots ≤ (uM μ).slots)
    (hn : As.length = n) (hst : As.reverse ++ st = st0) (hrest : (st.map fun v => v.category).sum ≤ 8) (hu : (u.1 + (uM μ').cells, u.2 + (uM μ').slots) = u')
    (kk : zW μ op u' M1 q L (.int r1 :: st) Φ) : zW μ op u M pc L st0 Φ := by
  subst eq; subst hst; subst hu
  intro D cy base p l e s m args below meth c C0 H locs ls hM hS hl
  obtain ⟨hx, hbc, hml, hown, hts, hG, hlocks, hr, hlt, htab, hnm, hop⟩ := id C0
  have hw : uW μ' = Cond.codeWith (uY μ') (uC μ') (uL μ') (uR μ') (h :: hs) :: zBig := by unfold uW uK; rw [hH']
  have hk' : uK μ' ∈ zBig := by unfold uK; rw [hH']; exact hb.1
  have hgd : GoodIn zBig (va_wsS (uY μ).cls idx (uY μ') (uW μ')) := zgoodB hk' (zm3 hb.2.1 hb.2.2.1 hb.2.2.2)
  refine zafter C0 hS hl (vx_runSW (p := p) (l := l) (e := e) (R := uM μ) (below := below) (meth := meth) (locs := locs) (cells := u.1) (slots := u.2) (hh := h :: hs) (As := As.map (zv base)) (rest := st.map (zv base)) (g := F0 m pc ls ((As.reverse ++ st).map (zv base))) ⟨hx, hbc, hml, hown, fun w hw9 => hts w hw9⟩ (zMet_met hc (fun E M' e => by cases e.1) l D cy base hlt) (vx_cwSW (Ts := zBig) n hts hgd hw rfl rfl hd hR) ⟨zblind, zpre hG hM hS (fun h => by cases h)⟩ rfl (by simpa using hn) hl.1 (by simp) (lv_room (by rw [zcats]; exact hrest)) d hf) (fun r M' e => by
    obtain ⟨e1, e2⟩ := e
    cases e1; subst e2; exact kk)
end ZCATCH
section ZBC
def bndC {α β : Type} (x : Option ((α ⊕ String) × zM)) (f : α → zM → Option β) (g : String → zM → Option β) : Option β := match x with
  | some (.inl a, c) => f a c
  | some (.inr E, c) => g E c
  | none => none
theorem bndC_some {α β : Type} {x : Option ((α ⊕ String) × zM)} {f : α → zM → Option β} {g : String → zM → Option β} {r : β} (h : bndC x f g = some r) : (∃ a c, x = some (.inl a, c) ∧ f a c = some r) ∨ ∃ E c, x = some (.inr E, c) ∧ g E c = some r := by
  cases x with
  | none => cases h
  | some a =>
    obtain ⟨a, c⟩ := a
    cases a with
    | inl a => exact Or.inl ⟨a, c, rfl, h⟩
    | inr E => exact Or.inr ⟨E, c, rfl, h⟩
end ZBC
