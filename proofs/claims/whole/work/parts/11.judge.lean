/-! THE JUDGEMENT over my memory: zW at a place of a method, zMet of a whole method. The context of the machine is inside. -/
section ZJUDGE
/-- the words of the tables that every state keeps: all methods have them -/
def zBig : List Cond := lw_tbl.filter goodWord
theorem zb_of {w : Cond} (h : w ∈ lw_tbl) (hg : goodWord w = true) : w ∈ zBig := List.mem_filter.mpr ⟨h, hg⟩
theorem zb_all {ws : List Cond} (h : ws.all (fun w => decide (w ∈ lw_tbl) && goodWord w) = true) : ∀ w ∈ ws, w ∈ zBig := fun w hw => by
  have h1 := List.all_eq_true.mp h w hw
  rw [Bool.and_eq_true, decide_eq_true_eq] at h1
  exact zb_of h1.1 h1.2
theorem zb_good {w : Cond} (h : w ∈ zBig) : goodWord w = true := (List.mem_filter.mp h).2
/-- a method: name, code, locals, type, room, handlers -/
abbrev zMu : Type := MethodName × ByteArray × Nat × Option FieldType × Room × List (Nat × Nat × Nat × Nat)
def uY (μ : zMu) : MethodName := μ.1
def uC (μ : zMu) : ByteArray := μ.2.1
def uL (μ : zMu) : Nat := μ.2.2.1
def uR (μ : zMu) : Option FieldType := μ.2.2.2.1
def uM (μ : zMu) : Room := μ.2.2.2.2.1
def uH (μ : zMu) : List (Nat × Nat × Nat × Nat) := μ.2.2.2.2.2
def uK (μ : zMu) : Cond := match uH μ with
  | [] => Cond.code (uY μ) (uC μ) (uL μ) (uR μ)
  | h :: hs => Cond.codeWith (uY μ) (uC μ) (uL μ) (uR μ) (h :: hs)
def uW (μ : zMu) : List Cond := uK μ :: zBig
theorem zgood {μ : zMu} {ws : List Cond} (h : ∀ w ∈ ws, w ∈ zBig) : GoodIn (uW μ) ws := fun w hw => ⟨List.mem_cons_of_mem _ (h w hw), good_of_word (zb_good (h w hw))⟩
theorem zgoodW {μ μ' : zMu} {ws : List Cond} (hk : uK μ' ∈ zBig) (h : ∀ w ∈ ws, w ∈ zBig) : GoodIn (uW μ) (ws ++ uW μ') := zgood (fun w hw => (List.mem_append.mp hw).elim (h w) (fun h9 => (List.mem_cons.mp h9).elim (fun e => by rw [e]; exact hk) (fun h8 => h8)))
abbrev zPhi : Type := (Option Value ⊕ String) → zM → Prop
def ztys (cy : Nat → ClassId) : List (ClassId × FieldType) := [(cy 0, .int), (cy 1, .long), (cy 2, .boolean), (cy 3, .object "PatternHouse$Pattern"), (cy 4, .object "PatternHouse$Piece")]
def zNl : List (String × Nat × MethodName × String) := [(RX9, 9, yX6_init, RX9), (RX9, 18, yX8_init, RX9), (RX9, 25, yX7_init, RX9), (RX9, 32, yX2_init, RX9), (RX9, 39, yX1_init, RX9), (RX9, 46, yX4_init, RX9), (RX3, 11, yX5_init, RX9), (RX4, 23, yX0_init, RX9), (RX4, 55, yX9_holds, RX9), (RX6, 29, yX9_byteOf, RX9), (RX6, 62, yX9_letterOf, RX9), (RX8, 25, yX9_byteOf, RX9), (RX8, 29, yX9_letterOf, RX9)]
def zEx : List String := ["java/lang/IllegalArgumentException", "java/lang/IllegalStateException", "java/lang/IndexOutOfBoundsException"]
def zNo : List (String × String) := [("java/lang/IllegalArgumentException", "java/lang/IllegalStateException"), ("java/lang/IllegalArgumentException", "java/lang/IndexOutOfBoundsException"), ("java/lang/IllegalStateException", "java/lang/IllegalArgumentException"), ("java/lang/IllegalStateException", "java/lang/IndexOutOfBoundsException"), ("java/lang/IndexOutOfBoundsException", "java/lang/IllegalArgumentException"), ("java/lang/IndexOutOfBoundsException", "java/lang/IllegalStateException")]
def zSup : List String := ["java/lang/RuntimeException", "java/lang/Exception", "java/lang/Throwable"]
/-- what the tables say besides the words -/
def zFx (U : State) : Prop := (∀ q ∈ zNl, va_Nw (.methodLinkNest q.1 q.2.1 q.2.2.1 q.2.2.2) U) ∧ (∀ E ∈ zEx, va_Nw (.castable E E) U) ∧ (∀ q ∈ zNo, va_Nc q.1 q.2 U) ∧ va_AO "PatternHouse$Pattern" U ∧ va_AO "PatternHouse$Piece" U ∧ (∀ Y ∈ zSup, va_Nw (.declares (Bundle.init0 Y)) U)
/-- the ground: classes known, the cells of the world lie behind base, what the exceptions need -/
def zG (D : va_G) (cy : Nat → ClassId) (base : zB) (U : State) : Prop := va_K D vwCl (ztys cy) U ∧ (base.1 < U.heap.size ∧ base.2.1 ≤ base.1 ∧ va_X base.2.1 base.2.2.1 base.2.2.2 U U.heap) ∧ vx_Zq Bundle.tN "UNASSIGNED_STACK" Bundle.steD (zA base) U U.heap ∧ vx_Zq Bundle.tN "SUPPRESSED_SENTINEL" Bundle.listD (zA base) U U.heap ∧ zFx U
theorem zFx_moved {s U : State} (hW : s.WarmedH U.vm) (h : zFx s) : zFx U := by
  obtain ⟨h1, h2, h3, h4, h5, h6⟩ := h
  exact ⟨fun q hq => (h1 q hq).warmM hW, fun E hE => (h2 E hE).warmC hW, fun q hq => (h3 q hq).moved hW.alike, h4.moved hW.alike, h5.moved hW.alike, fun Y hY => (h6 Y hY).warmD hW⟩
theorem zG_moved {D : va_G} {cy : Nat → ClassId} {base : zB} {s U : State} (h : zG D cy base s) (hW : s.WarmedH U.vm) (hz : s.heap.size ≤ U.heap.size) (hH : ∀ a : Nat, a < s.heap.size → ¬ zA base a → U.heap[a]? = s.heap[a]?) : zG D cy base U := by
  obtain ⟨h1, h2, h3, h4, h5⟩ := h
  exact ⟨va_K.moved hW.alike h1, ⟨Nat.lt_of_lt_of_le h2.1 hz, h2.2.1, (va_X.moved hW.alike h2.2.2).kept (hH _ (Nat.lt_of_le_of_lt h2.2.1 h2.1) (Nat.not_lt.mpr h2.2.1))⟩, (h3.moved hW.alike).kept hH, (h4.moved hW.alike).kept hH, zFx_moved hW h5⟩
/-- the memory stands in the heap; row 0 is the script's -/
def zS (D : va_G) (cy : Nat → ClassId) (base : zB) (M : zM) (H : Heap) : Prop := va_P D vwCl (zw cy base M) H ∧ mK M 0 = 16 ∧ mN M 0 = base.2.2.1 ∧ ∀ j, mI M 0 j = base.2.2.2 j
/-- op: nothing unknown was made yet, the heap ends with the memory -/
def zP (op : Bool) (D : va_G) (cy : Nat → ClassId) (base : zB) (M : zM) (As : List Value) : Array Value → State → Prop := fun v U => v = (As.map (zv base)).toArray ∧ zG D cy base U ∧ zS D cy base M U.heap ∧ (op = true → U.heap.size = base.1 + M.1.length)
def zQ (D : va_G) (cy : Nat → ClassId) (base : zB) (Φ : zPhi) : Array Value → State → Outcome → State → Prop := fun _ st o t => ∃ (r : Option Value) (M' : zM), o = .returned (r.map (zv base)) ∧ Φ (.inl r) M' ∧ zS D cy base M' t.heap ∧ va_F (zA base) st t
def zX (D : va_G) (cy : Nat → ClassId) (base : zB) (Φ : zPhi) : String → State → State → Prop := fun E st t => ∃ M' : zM, Φ (.inr E) M' ∧ zS D cy base M' t.heap ∧ va_F (zA base) st t
/-- a method's contract -/
def zMet (μ : zMu) (op : Bool) (M : zM) (As : List Value) (Φ : zPhi) : Prop := ∀ (l : Launch) (D : va_G) (cy : Nat → ClassId) (base : zB), l.stackTraces = false →
  vx_Met l (uY μ) (uW μ) (uM μ) (zP op D cy base M As) (zQ D cy base Φ) (zX D cy base Φ) (uM μ).cells (uM μ).slots (zA base)
/-- what a walk knows of its method -/
def zC (μ : zMu) (op : Option Nat) (l : Launch) (D : va_G) (cy : Nat → ClassId) (base : zB) (p : Program) (s : State) (m : MethodId) (args : Array Value) (meth : Method) (c : Code) : Prop :=
  p.tables.exec = Jvm.exec ∧ c.code = uC μ ∧ c.maxLocals = uL μ ∧ s.vm.findClass (uY μ).cls = some m.cls ∧ (∀ w ∈ zBig, w.before args s = true) ∧ zG D cy base s ∧ meth.locks = false ∧ meth.sig.returnType = uR μ ∧ l.stackTraces = false ∧ c.exceptionTable.toList = tableOf (uH μ) ∧ meth.name = (uY μ).name ∧ (∀ n, op = some n → s.heap.size = base.1 + n)
def zl (base : zB) (L : List (Nat × Value)) : List (Nat × Value) := L.map (fun q => (q.1, zv base q.2))
/-- the judgement -/
def zW (μ : zMu) (op : Option Nat) (u : Nat × Nat) (M : zM) (pc : Nat) (L : List (Nat × Value)) (st : List Value) (Φ : zPhi) : Prop :=
  ∀ (D : va_G) (cy : Nat → ClassId) (base : zB) (p : Program) (l : Launch) (e : Env) (s : State) (m : MethodId) (args : Array Value) (below : List Frame) (meth : Method) (c : Code), zC μ op l D cy base p s m args meth c →
  ∀ (H : Heap) (locs : List Loc) (ls : Array Slot), zS D cy base M H → va_S (zA base) s.heap H locs → lv_has ls (uL μ) (zl base L) →
  W p l e (uM μ) s m args below meth c H locs u.1 u.2 (vx_MQ below (zQ D cy base Φ) (zX D cy base Φ) args s (uM μ).cells (uM μ).slots (zA base)) (F0 m pc ls (st.map (zv base)))
theorem zW_mono {μ : zMu} {op : Option Nat} {u : Nat × Nat} {M : zM} {pc : Nat} {L : List (Nat × Value)} {st : List Value} {Φ Ψ : zPhi} (hΦ : ∀ o M', Φ o M' → Ψ o M') (h : zW μ op u M pc L st Φ) : zW μ op u M pc L st Ψ := by
  intro D cy base p l e s m args below meth c C H locs ls hM hS hl T hT X
  obtain ⟨t, a1, o, b1, b2, b3⟩ := h D cy base p l e s m args below meth c C H locs ls hM hS hl T hT X
  refine ⟨t, a1, o, b1, b2, ?_⟩
  rcases b3 with ⟨⟨r, M', q1, q2, q3, q4⟩, b5⟩ | ⟨q, q1, E, ce, L9, ⟨M', x1, x2, x3⟩, x4⟩
  · exact Or.inl ⟨⟨r, M', q1, hΦ _ _ q2, q3, q4⟩, b5⟩
  · exact Or.inr ⟨q, q1, E, ce, L9, ⟨M', hΦ _ _ x1, x2, x3⟩, x4⟩
theorem zMet_mono {μ : zMu} {op : Bool} {M : zM} {As : List Value} {Φ Ψ : zPhi} (hΦ : ∀ o M', Φ o M' → Ψ o M') (h : zMet μ op M As Φ) : zMet μ op M As Ψ := by
  intro l D cy base hl p e h1 h2 h3 s m args below h4 h5 h6 h7
  obtain ⟨n, o, a1, a2, a3, a4⟩ := h l D cy base hl p e h1 h2 h3 s m args below h4 h5 h6 h7
  refine ⟨n, o, a1, a2, a3, ?_⟩
  rcases a4 with ⟨⟨r, M', q1, q2, q3, q4⟩, b5⟩ | ⟨q, q1, E, ce, L9, ⟨M', x1, x2, x3⟩, x4⟩
  · exact Or.inl ⟨⟨r, M', q1, hΦ _ _ q2, q3, q4⟩, b5⟩
  · exact Or.inr ⟨q, q1, E, ce, L9, ⟨M', hΦ _ _ x1, x2, x3⟩, x4⟩
/-- one that doesn't throw -/
theorem zMet_met {μ : zMu} {op : Bool} {M : zM} {As : List Value} {Φ : zPhi} (h : zMet μ op M As Φ) (hno : ∀ E M', ¬ Φ (.inr E) M') (l : Launch) (D : va_G) (cy : Nat → ClassId) (base : zB) (hl : l.stackTraces = false) :
    Met l (uY μ) (uW μ) (uM μ) (zP op D cy base M As) (zQ D cy base Φ) (uM μ).cells (uM μ).slots (zA base) := by
  intro p e h1 h2 h3 s m args below h4 h5 h6 h7
  obtain ⟨n, o, a1, a2, a3, a4⟩ := h l D cy base hl p e h1 h2 h3 s m args below h4 h5 h6 h7
  refine ⟨n, o, a1, a2, a3, ?_⟩
  rcases a4 with h | ⟨q, q1, E, ce, L9, ⟨M', x1, x2, x3⟩, x4⟩
  · exact h
  · exact absurd x1 (hno _ _)
theorem zl_args (base : zB) : ∀ (vs : List Value) (i : Nat), lv_args i (vs.map (zv base)) = zl base (lv_args i vs) := by
  intro vs
  induction vs with
  | nil => intro i; rfl
  | cons v vs ih => intro i; simp only [List.map_cons, lv_args, zl, zv_cat]; rw [ih]; rfl
theorem zl_sl (base : zB) (vs : List Value) : (lg_sl (vs.map (zv base))).length = (lg_sl vs).length := by
  induction vs with
  | nil => rfl
  | cons v vs ih =>
    simp only [lg_sl, List.map_cons, List.flatMap_cons, List.length_append] at ih ⊢
    rw [ih]
    cases v <;> rfl
theorem zblind {op : Bool} {D : va_G} {cy : Nat → ClassId} {base : zB} {M : zM} {As : List Value} : FrameBlind (zP op D cy base M As) := by
  intro a U g mk h
  obtain ⟨h1, ⟨g1, g2, g3, g4, g5⟩, h3⟩ := h
  refine ⟨h1, ⟨va_K.moved (u := U) (U := U.calling g mk a) (Vm.Alike.refl U.vm) g1, ⟨g2.1, g2.2.1, va_X.moved (u := U) (U := U.calling g mk a) (Vm.Alike.refl U.vm) g2.2.2⟩, vx_Zq.moved (u := U) (U := U.calling g mk a) (Vm.Alike.refl U.vm) g3, vx_Zq.moved (u := U) (U := U.calling g mk a) (Vm.Alike.refl U.vm) g4, ?_⟩, h3⟩
  obtain ⟨f1, f2, f3, f4, f5, f6⟩ := g5
  exact ⟨fun q hq => va_Nw.same rfl rfl (f1 q hq), fun E hE => va_Nw.same rfl rfl (f2 E hE), fun q hq => (f3 q hq).moved (U := U.calling g mk a) (Vm.Alike.refl U.vm), f4.moved (U := U.calling g mk a) (Vm.Alike.refl U.vm), f5.moved (U := U.calling g mk a) (Vm.Alike.refl U.vm), fun Y hY => va_Nw.same rfl rfl (f6 Y hY)⟩
set_option maxHeartbeats 4000000 in
theorem zMet_of {μ : zMu} {op : Bool} {M : zM} {As : List Value} {Φ : zPhi} {L : List (Nat × Value)} (hy : plainName (uY μ).cls = true) (hH : uH μ = []) (hL : lv_args 0 As = L) (hn : (lg_sl As).length ≤ uL μ)
    (k : zW μ (bif op then some M.1.length else none) (0, 0) M 0 L [] Φ) : zMet μ op M As Φ := by
  intro l D cy base hlt
  have hw : uW μ = Cond.code (uY μ) (uC μ) (uL μ) (uR μ) :: zBig := by unfold uW uK; rw [hH]
  refine vx_ofW (cc := uC μ) (maxL := uL μ) (ret := uR μ) hy hw ?_
  intro p e s m args below meth c s₁ B hml ht hv
  obtain ⟨rfl, hG, hM, hop⟩ := hv
  have hts := atoms_spec (ws := uW μ) B.pre
  have hown : s.vm.findClass (uY μ).cls = some m.cls := findClass_of_methodNamed B.named
  have hnm : meth.name = (uY μ).name := (name_of_methodNamed B.named B.method).1
  have htab : c.exceptionTable.toList = tableOf (uH μ) := by
    rw [hH]
    exact List.eq_nil_iff_forall_not_mem.mpr (fun x hx => ht x hx)
  have C : zC μ (bif op then some M.1.length else none) l D cy base p s m (As.map (zv base)).toArray meth c := ⟨B.exec, B.bytes, hml, hown, fun w hw9 => hts w (List.mem_cons_of_mem _ hw9), hG, B.notSynchronized, B.returns, hlt, htab, hnm, fun n hn => by
    cases op with
    | false => cases hn
    | true => cases hn; exact hop rfl⟩
  have hl := lv_entry (As.map (zv base)) (n := uL μ) (by rw [zl_sl]; exact hn)
  rw [zl_args, hL] at hl
  rw [lg_entry_eq]
  exact k D cy base p l e s m _ below meth c C s.heap [] _ hM va_S.rf hl
end ZJUDGE
