/-! My own: a callee's throw is caught by a row of the table, behind rows that are passed (the printed vx_catch names a law that the rounds' library doesn't hold). -/
section ZC
/-- what a row with a class says: the class it links to takes the thrown one, or not -/
def zc_L (pl : Platform) (s0 : State) (d : ClassId) (th : ClassId) (x : ExceptionTableEntry) (b : Bool) : Prop :=
  x.catchType ≠ 0 ∧ ∃ k, s0.vm.ClassLinks pl d x.catchType k ∧ s0.vm.assignable th k = b
theorem zc_row {e : Env} {s0 S : State} {f : JFrame} {a : Addr} {cell : Cell} {b : Bool} {x : ExceptionTableEntry} (hobj : ∀ k, cell.vm ≠ .statics k) (hk0 : ∃ k, s0.vm.classes[cell.cls]? = some k)
    (hW : s0.WarmedH S.vm) (hcell : S.heap[a]? = some cell) (hc : covers x f.pc = true) (hl : zc_L e.platform s0 f.method.cls cell.cls x b) :
    ∃ vm', s0.WarmedH vm' ∧ ∀ (t : List ExceptionTableEntry) (Q : Handler → Pre) (E : CtlPost) (d : Bool) (acts : List Action),
      (wp (findHandler.go f a (x :: t)) Q E e d acts S ↔ bif b then Q (.found x.handlerPc) d acts (S.setVm vm') else wp (findHandler.go f a t) Q E e d acts (S.setVm vm')) := by
  obtain ⟨h0, k, hk, hb⟩ := hl
  obtain ⟨k1, hk1⟩ := hk0
  obtain ⟨dk, _, _, kt, hd, _, _, _, _, hkt, _, hopen⟩ := hk.here
  have hkS := hW.classLinks hk
  have hal : s0.vm.Alike (S.vm.noted f.method.cls x.catchType (.cls k)) := hW.alike.trans ((Vm.Alike.refl S.vm).noted _ _ _)
  obtain ⟨k1', hk1', -⟩ := hal.2.2 _ _ hk1
  obtain ⟨k2', hk2', -⟩ := hal.2.2 _ _ hkt
  have hb' : (S.vm.noted f.method.cls x.catchType (.cls k)).assignable cell.cls k = b := by rw [hal.assignable]; exact hb
  refine ⟨S.vm.noted f.method.cls x.catchType (.cls k), hW.noted hd hopen (State.rightAt_cls hk), fun t Q E d acts => ?_⟩
  obtain ⟨ha, ht⟩ := (resolveClass_links e.toSetting hkS).op (op := VmOp.resolveClass f.method.cls x.catchType) rfl
  simp only [covers] at hc
  cases b <;> simp [findHandler.go, hc, h0, ha, ht, hcell, hobj, hk1', hk2', hb', VmOp.dirties, VmOp.acts]
theorem zc_go {e : Env} {s0 : State} {f : JFrame} {a : Addr} {cell : Cell} (hobj : ∀ k, cell.vm ≠ .statics k) (hk0 : ∃ k, s0.vm.classes[cell.cls]? = some k) {x : ExceptionTableEntry} {suf : List ExceptionTableEntry}
    (hx : covers x f.pc = true) (hl : zc_L e.platform s0 f.method.cls cell.cls x true) :
    ∀ (pre : List ExceptionTableEntry), (∀ y ∈ pre, covers y f.pc = false ∨ zc_L e.platform s0 f.method.cls cell.cls y false) → ∀ (S : State), s0.WarmedH S.vm → S.heap[a]? = some cell →
      ∃ vm', s0.WarmedH vm' ∧ ∀ (Q : Handler → Pre) (E : CtlPost) (d : Bool) (acts : List Action), (wp (findHandler.go f a (pre ++ x :: suf)) Q E e d acts S ↔ Q (.found x.handlerPc) d acts (S.setVm vm')) := by
  intro pre
  induction pre with
  | nil =>
    intro _ S hW hcell
    obtain ⟨v, h1, h2⟩ := zc_row hobj hk0 hW hcell hx hl
    exact ⟨v, h1, fun Q E d acts => h2 suf Q E d acts⟩
  | cons y ys ih =>
    intro hp S hW hcell
    by_cases hy : covers y f.pc = true
    · rcases hp y List.mem_cons_self with h | h
      · rw [h] at hy; cases hy
      · obtain ⟨v, h1, h2⟩ := zc_row hobj hk0 hW hcell hy h
        obtain ⟨v2, h3, h4⟩ := ih (fun z hz => hp z (List.mem_cons_of_mem _ hz)) (S.setVm v) h1 hcell
        exact ⟨v2, h3, fun Q E d acts => (h2 _ Q E d acts).trans (h4 Q E d acts)⟩
    · obtain ⟨v, h1, h2⟩ := ih (fun z hz => hp z (List.mem_cons_of_mem _ hz)) S hW hcell
      exact ⟨v, h1, fun Q E d acts => by
        rw [List.cons_append, W.findHandler_go_skip (by simpa using hy)]
        exact h2 Q E d acts⟩
theorem zc_caught {p : Program} {l : Launch} {e : Env} {R : Room} {s : State} {m₀ : MethodId} {args : Array Value} {below : List Frame} {meth : Method} {c : Code} {T : State} {locs : List Loc} {cells slots : Nat}
    (X : Stand p l e R s m₀ args below meth c T locs cells slots) (a : Addr) {g : JFrame} (hg : g.method = m₀)
    {cell : Cell} (hcell : T.heap[a]? = some cell) (hobj : cell.vm.isStatics = false) (hk0 : ∃ k, s.vm.classes[cell.cls]? = some k)
    (pre : List ExceptionTableEntry) (x : ExceptionTableEntry) (rest : List ExceptionTableEntry) (hsplit : c.exceptionTable.toList = pre ++ x :: rest)
    (hpass : ∀ y ∈ pre, covers y g.pc = false ∨ zc_L e.platform s m₀.cls cell.cls y false) (hx : covers x g.pc = true) (hend : zc_L e.platform s m₀.cls cell.cls x true) :
    ∃ vm', Stand p l e R s m₀ args below meth c (T.setVm vm') locs cells slots ∧ Steps p.tables e below ((T.setTop g).pushFrame (.throwing a)) ((T.setVm vm').setTop { g with pc := x.handlerPc, stack := [.ref a] }) := by
  subst hg
  obtain ⟨v, hW, hq⟩ := zc_go (e := e) (s0 := s) (f := g) (a := a) (suf := rest) (VmData.ne_statics_of hobj) hk0 hx hend pre hpass ((T.setTop g).pushFrame (.throwing a)) X.warmed hcell
  refine ⟨v, X.noted hW, ?_⟩
  obtain ⟨hgo, hw⟩ := X.here.throwing a (g := g)
  refine Steps.head hgo hw ?_
  have hm : ((T.setTop g).pushFrame (.throwing a)).vm.method? g.method = some meth := X.method'
  have hst : (stepThrowing e ((T.setTop g).pushFrame (.throwing a)) a (.java g :: T.frames.tail)).1 = ((((T.setTop g).pushFrame (.throwing a)).setVm v).setFrames (.java { g with pc := x.handlerPc, stack := [.ref a] } :: T.frames.tail)) := by
    simp only [stepThrowing, searchFrame, vmDo]
    generalize hr : Sem.go _ e false [] ((T.setTop g).pushFrame (.throwing a)) = res
    obtain ⟨as, rfl, ha⟩ := Sem.eq_ok_of hr (a := Handler.found x.handlerPc) (s' := ((T.setTop g).pushFrame (.throwing a)).setVm v) (acts' := []) (by simp [W.findHandler_eq hm X.code, hsplit, hq])
    rfl
  rw [stepThread_throwing (frames_entered X.here.top _), hst]
  obtain ⟨g0, hg0⟩ := Option.isSome_iff_exists.mp X.here.top
  obtain ⟨r, hr⟩ := State.topJava?_eq_some.mp hg0
  have hr2 : (T.setVm v).frames = .java g0 :: r := hr
  have h1 : (((T.setTop g).pushFrame (.throwing a)).setVm v).setFrames (.java { g with pc := x.handlerPc, stack := [.ref a] } :: T.frames.tail) = (T.setVm v).setTop { g with pc := x.handlerPc, stack := [.ref a] } := by
    rw [State.setTop_of_frames _ hr2, hr, List.tail_cons, State.pushFrame, State.setTop_of_frames _ hr, State.setFrames_setFrames]
    show ((T.setVm v).setFrames _).setFrames _ = _
    rw [State.setFrames_setFrames]
  rw [h1]
  exact Steps.refl _
end ZC
