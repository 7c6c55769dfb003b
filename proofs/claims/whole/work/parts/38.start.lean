/-! THE START: from the claim's premises at the law's entry to the judgement. The first rows are the skeleton's. -/
section ZSTART
def R_law : String := "PatternHouseLaw"
def lw_P (b : Addr) (xs : List Int32) (args : Array Value) (s : State) : Prop := args = #[.ref b] ∧ s.IntsAt b xs ∧ xs.length ≤ 2048 ∧ (Jvm.Cond.and given_1 narrow_1).before args s = true
def lw_Q (_ : Array Value) (s : State) (o : Outcome) (t : State) : Prop := o = .returned (some (.int 1)) ∧ Framed s o t [] 601024 7293034
def lw_Z (below : List Frame) (a : Array Value) (s : State) : State → Prop := fun t => ∃ o, t.status = .running ∧ Ended t below o ∧ lw_Q a s o t
/-- what holds at the law's entry: the machine, the code, the tables' words (any of lw_tbl by 'hts w (by decide +kernel)'), the script of L ints xs at the cell b, what the Statement gives of the start (any of its parts by flat_of_before) -/
def lw_At (p : Program) (s : State) (m : MethodId) (meth : Method) (c : Code) (b L : Nat) (xs : Nat → Int32) : Prop :=
  p.tables.exec = Jvm.exec ∧ c.code = code ∧ meth.sig.returnType = ret ∧ c.maxLocals = 7 ∧ s.vm.findClass R_law = some m.cls ∧ (∀ w ∈ lw_tbl, w.before #[Value.ref b] s = true) ∧ va_X b L xs s s.heap ∧ b < s.heap.size ∧ meth.locks = false ∧ (Jvm.Cond.and given_1 narrow_1).before #[Value.ref b] s = true ∧ c.exceptionTable.toList = [] ∧ meth.name = "law"
def zM0 (L : Nat) (xs : Nat → Int32) : zM := ([(16, L)], (fun a j => if a = 0 then xs j else 0), (fun _ _ => 0), fun _ _ => none)
theorem zarrK {args : Array Value} {s : State} {ty : FieldType} (hty : ∀ c : ClassId, s.vm.findClass ("[" ++ ty.toString) = some c → va_RA s c ty) (h : (Cond.arrayClass ty).before args s = true) : ∃ c : ClassId, ArrOfT s c ty ∧ va_RA s c ty := by
  obtain ⟨c, k, comp, h1, h2, h3⟩ := Cond.arrayClass_spec h
  exact ⟨c, fun N z => ⟨(fun k h => by cases h), k, h2, comp, h3⟩, hty c h1⟩
theorem zarrO {args : Array Value} {s : State} {C : String} (h : (Cond.arrayOver (.object C)).before args s = true) : ∃ c : ClassId, ArrOfT s c (.object C) ∧ va_RA s c (.object C) := by
  obtain ⟨comp, c, k, h1, -, h3, h4, h5⟩ := Cond.arrayOver_spec h
  exact ⟨c, fun N z => ⟨(fun k h => by cases h), k, h3, comp, h4⟩, k, comp, h3, h4, h1, h5⟩
set_option maxHeartbeats 4000000 in
set_option maxRecDepth 100000 in
theorem zG_start {p : Program} {s : State} {m : MethodId} {meth : Method} {c : Code} {b L : Nat} {xs : Nat → Int32} (C0 : lw_At p s m meth c b L xs) : ∃ (D : va_G) (cy : Nat → ClassId), zG D cy (s.heap.size - 1, b, L, xs) s := by
  obtain ⟨hx, hb, hr, hml, hown, hts, hX, hbl, hlocks, hgv, htab, hnm⟩ := C0
  have hz : ∀ w ∈ zBig, w.before #[Value.ref b] s = true := fun w hw => hts w (List.mem_filter.mp hw).1
  have hg := flat_of_before _ hgv
  obtain ⟨c0, iS0, hKn0⟩ := u_known (C := RX0) (T := TX0) (N := 6) (n := 6) hz zbX0 (hts (.instantiable RX0 6) (by decide +kernel))
  obtain ⟨c1, iS1, hKn1⟩ := u_known (C := RX1) (T := TX1) (N := 9) (n := 9) hz zbX1 (hts (.instantiable RX1 9) (by decide +kernel))
  obtain ⟨c2, iS2, hKn2⟩ := u_known (C := RX2) (T := TX2) (N := 2) (n := 2) hz zbX2 (hts (.instantiable RX2 2) (by decide +kernel))
  obtain ⟨c3, iS3, hKn3⟩ := u_known (C := RX3) (T := TX3) (N := 7) (n := 7) hz zbX3 (hts (.instantiable RX3 7) (by decide +kernel))
  obtain ⟨c4, iS4, hKn4⟩ := u_known (C := RX4) (T := TX4) (N := 8) (n := 8) hz zbX4 (hts (.instantiable RX4 8) (by decide +kernel))
  obtain ⟨c5, iS5, hKn5⟩ := u_known (C := RX5) (T := TX5) (N := 4) (n := 4) hz zbX5 (hts (.instantiable RX5 4) (by decide +kernel))
  obtain ⟨c6, iS6, hKn6⟩ := u_known (C := RX6) (T := TX6) (N := 13) (n := 13) hz zbX6 (hts (.instantiable RX6 13) (by decide +kernel))
  obtain ⟨c7, iS7, hKn7⟩ := u_known (C := RX7) (T := TX7) (N := 4) (n := 4) hz zbX7 (hts (.instantiable RX7 4) (by decide +kernel))
  obtain ⟨c8, iS8, hKn8⟩ := u_known (C := RX8) (T := TX8) (N := 6) (n := 6) hz zbX8 (hts (.instantiable RX8 6) (by decide +kernel))
  obtain ⟨c9, iS9, hKn9⟩ := u_known (C := RX9) (T := TX9) (N := 8) (n := 8) hz zbX9 (hts (.instantiable RX9 8) (by decide +kernel))
  obtain ⟨c10, iS10, hKn10⟩ := u_known (C := RX10) (T := TX10) (N := 43) (n := 43) hz zbX10 (hts (.instantiable RX10 43) (by decide +kernel))
  obtain ⟨dC, dI, hKc⟩ : ∃ (dC : Nat → ClassId) (dI : Nat → Nat → Nat), ∀ (k : Nat) (q : vw_C), vwCl[k]? = some q → u_Kn s q.1 q.2.1 q.2.2 (dC k) (dI k) := by
    refine ⟨fun k => [c0, c1, c2, c3, c4, c5, c6, c7, c8, c9, c10].getD k c0, fun k => [iS0, iS1, iS2, iS3, iS4, iS5, iS6, iS7, iS8, iS9, iS10].getD k iS0, ?_⟩
    intro k q hq
    match k, hq with
    | 0, hq => cases hq; exact hKn0
    | 1, hq => cases hq; exact hKn1
    | 2, hq => cases hq; exact hKn2
    | 3, hq => cases hq; exact hKn3
    | 4, hq => cases hq; exact hKn4
    | 5, hq => cases hq; exact hKn5
    | 6, hq => cases hq; exact hKn6
    | 7, hq => cases hq; exact hKn7
    | 8, hq => cases hq; exact hKn8
    | 9, hq => cases hq; exact hKn9
    | 10, hq => cases hq; exact hKn10
    | k + 11, hq => simp [vwCl] at hq
  obtain ⟨y0, a0⟩ := zarrK (ty := .int) (fun _ h => h) (hts (.arrayClass .int) (by decide +kernel))
  obtain ⟨y1, a1⟩ := zarrK (ty := .long) (fun _ h => h) (hts (.arrayClass .long) (by decide +kernel))
  obtain ⟨y2, a2⟩ := zarrK (ty := .boolean) (fun _ h => h) (hts (.arrayClass .boolean) (by decide +kernel))
  have o3 := hts (.arrayOver (.object "PatternHouse$Pattern")) (by decide +kernel)
  have o4 := hts (.arrayOver (.object "PatternHouse$Piece")) (by decide +kernel)
  obtain ⟨y3, a3⟩ := zarrO o3
  obtain ⟨y4, a4⟩ := zarrO o4
  have hA : ∀ a : Nat, a < s.heap.size → ¬ zA (s.heap.size - 1, b, L, xs) a := fun a ha h => by
    have : s.heap.size - 1 < a := h
    omega
  refine ⟨(dC, dI), fun k => [y0, y1, y2, y3, y4].getD k y0, ⟨hKc, fun k q hk => ?_⟩, ⟨by show s.heap.size - 1 < s.heap.size; omega, by show b ≤ s.heap.size - 1; omega, hX⟩, ?_, ?_, ?_, ?_, ?_, va_AO.of o3, va_AO.of o4, ?_⟩
  · match k, hk with
    | 0, hk => cases hk; exact a0
    | 1, hk => cases hk; exact a1
    | 2, hk => cases hk; exact a2
    | 3, hk => cases hk; exact a3
    | 4, hk => cases hk; exact a4
    | k + 5, hk => simp [ztys] at hk
  · exact vx_Zqof (hts (.laysStatic Bundle.tN "UNASSIGNED_STACK" Bundle.steD) (by decide +kernel)) (hts (.initialized Bundle.tN) (by decide +kernel)) (hg (.isRef (.static Bundle.tN "UNASSIGNED_STACK" Bundle.steD)) (by decide +kernel)) hA
  · exact vx_Zqof (hts (.laysStatic Bundle.tN "SUPPRESSED_SENTINEL" Bundle.listD) (by decide +kernel)) (hts (.initialized Bundle.tN) (by decide +kernel)) (hg (.isRef (.static Bundle.tN "SUPPRESSED_SENTINEL" Bundle.listD)) (by decide +kernel)) hA
  · intro q hq
    have h9 : Cond.methodLinkNest q.1 q.2.1 q.2.2.1 q.2.2.2 ∈ lw_tbl := by
      have : ∀ q ∈ zNl, Cond.methodLinkNest q.1 q.2.1 q.2.2.1 q.2.2.2 ∈ lw_tbl := by decide +kernel
      exact this q hq
    exact va_Nw.of rfl (hts _ h9)
  · intro E hE
    have h9 : Cond.castable E E ∈ lw_tbl := by
      have : ∀ E ∈ zEx, Cond.castable E E ∈ lw_tbl := by decide +kernel
      exact this E hE
    exact va_Nw.of rfl (hts _ h9)
  · intro q hq
    have h9 : Cond.not (.castable q.1 q.2) ∈ flatC (Jvm.Cond.and given_1 narrow_1) := by
      have : ∀ q ∈ zNo, Cond.not (.castable q.1 q.2) ∈ flatC (Jvm.Cond.and given_1 narrow_1) := by decide +kernel
      exact this q hq
    exact va_Nc.of (hg _ h9)
  · intro Y hY
    have h9 : Cond.declares (Bundle.init0 Y) ∈ lw_tbl := by
      have : ∀ Y ∈ zSup, Cond.declares (Bundle.init0 Y) ∈ lw_tbl := by decide +kernel
      exact this Y hY
    exact va_Nw.of rfl (hts _ h9)
set_option maxHeartbeats 4000000 in
/-- the law's walk out of what its function answers -/
theorem whole_start {p : Program} {e : Env} {s : State} {m : MethodId} {below : List Frame} {meth : Method} {c : Code} (l : Launch) (hlt : l.stackTraces = false) {b L : Nat} {xs : Nat → Int32} (C0 : lw_At p s m meth c b L xs) (hF : ∃ (N : Nat) (M' : zM), fL_law N (zM0 L xs) = some (1, M')) : W p l e room_1 s m #[Value.ref b] below meth c s.heap [] 0 0 (lw_Z below #[Value.ref b] s) (entryFrame m ([Value.ref b] : List Value).toArray 7) := by
  obtain ⟨D, cy, hG⟩ := zG_start C0
  obtain ⟨hx, hb, hr, hml, hown, hts, hX, hbl, hlocks, hgv, htab, hnm⟩ := C0
  obtain ⟨N, M', hF⟩ := hF
  have hz : ∀ w ∈ zBig, w.before #[Value.ref b] s = true := fun w hw => hts w (List.mem_filter.mp hw).1
  have hC : zC uL_law (some (zM0 L xs).1.length) l D cy (s.heap.size - 1, b, L, xs) p s m #[Value.ref b] meth c := ⟨hx, hb, hml, hown, hz, hG, hlocks, hr, hlt, htab, hnm, fun n hn => by
    cases hn
    show s.heap.size = s.heap.size - 1 + 1
    omega⟩
  have hM : zS D cy (s.heap.size - 1, b, L, xs) (zM0 L xs) s.heap := ⟨fun k q hk => by simp [zw, zM0] at hk, rfl, rfl, fun j => rfl⟩
  have hl := lv_entry ([.ref b]) (n := 7) (Nat.le_of_ble_eq_true rfl)
  rw [lg_entry_eq]
  have hw := tL_law N (zM0 L xs) 1 M' hF D cy (s.heap.size - 1, b, L, xs) p l e s m #[Value.ref b] below meth c hC s.heap [] _ hM va_S.rf hl
  intro T hT X
  obtain ⟨t, t1, o, t2, t3, t4⟩ := hw T hT X
  refine ⟨t, t1, o, t2, t3, ?_⟩
  rcases t4 with ⟨⟨r, M2, q1, ⟨q2, -⟩, -, -⟩, L9, ⟨f1, f2, f3⟩, f4⟩ | ⟨q, q1, E, ce, L9, ⟨M2, ⟨x1, -⟩, -⟩, -⟩
  · cases q2
    exact ⟨q1, f1, f2, f3.weaken (fun y hy hlt9 => absurd hlt9 (Nat.not_lt.mpr (by have h9 : s.heap.size - 1 < y.base := f4 y hy; omega))) (Nat.le_refl _) (Nat.le_refl _)⟩
  · cases x1
end ZSTART
