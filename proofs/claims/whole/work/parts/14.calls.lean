/-! RULES for calls, returns, throws, making. -/
section ZCALLS
variable {μ μ' : zMu} {op : Option Nat} {u : Nat × Nat} {M : zM} {pc q : Nat} {L : List (Nat × Value)} {st st0 : List Value} {Φ Φ' : zPhi}
theorem zsize {D : va_G} {cy : Nat → ClassId} {base : zB} {H : Heap} (hM : zS D cy base M H) (h0 : base.1 < H.size) : base.1 + M.1.length ≤ H.size := by
  cases hn : M.1.length with
  | zero => omega
  | succ n =>
    cases n with
    | zero => omega
    | succ n =>
      have := (hM.1 (n + 1 - 1) _ (zw_get cy base M (a := n + 1) (by omega) (by omega))).lt
      dsimp only at this
      simp [zad] at this
      omega
theorem zcats (base : zB) (st : List Value) : ((st.map (zv base)).map fun v => v.category) = st.map fun v => v.category := by
  rw [List.map_map]
  exact List.map_congr_left (fun v _ => zv_cat base v)
theorem zstk (base : zB) (r : Option Value) (st : List Value) : (r.map (zv base)).toList ++ st.map (zv base) = (r.toList ++ st).map (zv base) := by cases r <;> rfl
theorem zpre {D : va_G} {cy : Nat → ClassId} {base : zB} {s : State} {H : Heap} {locs : List Loc} {As : List Value} {b : Bool} (hG : zG D cy base s) (hM : zS D cy base M H) (hS : va_S (zA base) s.heap H locs) (hz : b = true → H.size = base.1 + M.1.length) : ∀ U : State, U.heap = H → s.WarmedH U.vm → zP b D cy base M As (As.map (zv base)).toArray U := fun U hU hW =>
  ⟨rfl, zG_moved hG hW (by rw [hU]; exact hS.1) (fun a h1 h2 => by rw [hU]; exact hS.2.1 a h1 h2), by rw [hU]; exact hM, fun h => by rw [hU]; exact hz h⟩
set_option maxHeartbeats 4000000 in
theorem zr_callV {C : String} {T : u_T} {N ci a idx n : Nat} {As : List Value} {ws' : List Cond} (hc : zMet μ' false M (.ref a :: As) Φ') (d : decode (uC μ) pc = .ok (.invokevirtual idx, 3)) (eq : pc + 3 = q)
    (hg : GoodIn (uW μ) (wsV (uY μ).cls idx (uY μ').cls (uY μ') (uW μ'))) (hw : uW μ' = Cond.code (uY μ') (uC μ') (uL μ') (uR μ') :: ws')
    (hd : (uY μ').cls ≠ "java/lang/invoke/MethodHandle" ∧ (uY μ').cls ≠ "java/lang/invoke/VarHandle" ∧ (parseMethodDescriptor (uY μ').desc).map (fun d => d.parameters.length) = some n)
    (hR : (uM μ').frames + 1 ≤ (uM μ).frames ∧ 8 + (uL μ' + 11) + (uM μ').locals ≤ (uM μ).locals) (hf : u.1 + (uM μ').cells ≤ (uM μ).cells ∧ u.2 + (uM μ').slots ≤ (uM μ).slots)
    (hk : mK M a = ci) (h11 : ci < 11) (hci : vwCl[ci]? = some ((uY μ').cls, T, N)) (hn : As.length = n) (hst : As.reverse ++ .ref a :: st = st0) (hrest : (st.map fun v => v.category).sum ≤ 8) (hH : uH μ = [])
    (kx : ∀ E M', Φ' (.inr E) M' → Φ (.inr E) M')
    (kk : ∀ r M', Φ' (.inl r) M' → zW μ op (u.1 + (uM μ').cells, u.2 + (uM μ').slots) M' q L (r.toList ++ st) Φ) : zW μ op u M pc L st0 Φ := by
  subst eq; subst hst
  intro D cy base p l e s m args below meth c C0 H locs ls hM hS hl
  obtain ⟨hx, hb, hml, hown, hts, hG, hlocks, hr, hlt, htab, hnm, hop⟩ := id C0
  have h0a : 0 < a := z0 hM (by omega)
  have hgc := zw_get cy base M h0a (mK_lt (by omega : mK M a < 99))
  rw [zcell_o cy base hk h11] at hgc
  have hrecv := va_recv hG.1 hM.1 (ci := ci) (q0 := a - 1) hgc hci
  have run := vx_runV (p := p) (l := l) (e := e) (R := uM μ) (below := below) (meth := meth) (locs := locs) (cells := u.1) (slots := u.2) (As := As.map (zv base)) (rest := st.map (zv base)) (b := zad base a) (g := F0 m pc ls ((As.reverse ++ .ref a :: st).map (zv base))) ⟨hx, hb, hml, hown, hts⟩ (hc l D cy base hlt) (cwV n hts hg hw rfl rfl ⟨rfl, hd⟩ hR) ⟨zblind, hrecv, zpre (As := .ref a :: As) hG hM hS (fun h => by cases h)⟩ rfl (by simpa using hn) hl.1 (by simp [zv]) (lv_room (by rw [zcats]; exact hrest)) d hf
  intro T0 hT X
  rcases run T0 hT X with ⟨v, st₀, t, T', L', h0, X', hL, e1, e2, ⟨r, M', hv, hΦ, hM', hF⟩, stp⟩ | ⟨q9, st₀, t, T', L', E, ce, h0, X', hL, e1, e2, ⟨M', hΦ, hM', hF⟩, hce, hcv, hcl, stp⟩
  · obtain ⟨k1, k2, k3⟩ := vx_keep h0 e1 hS (fun q _ h => h) (fun q h => h) hL hF
    cases hv
    obtain ⟨t2, a1, b1⟩ := kk r M' hΦ D cy base p l e s m args below meth c C0 T'.heap (locs ++ L') ls (by rw [e1]; exact hM') k3 hl T' rfl X'
    rw [← zstk] at a1
    exact ⟨t2, stp t2 a1, b1⟩
  · obtain ⟨k1, k2, k3⟩ := vx_keep h0 e1 hS (fun q _ h => h) (fun q h => h) hL hF
    have hout : ∀ x ∈ c.exceptionTable.toList, covers x pc = false := fun x hx9 => by rw [htab, hH] at hx9; cases hx9
    have hxw := vx_out (p := p) (l := l) (e := e) (R := uM μ) (s := s) (m := m) (args := args) (below := below) (meth := meth) (c := c) (H := T'.heap) (Qc := zQ D cy base Φ) (XC := zX D cy base Φ) (free := zA base) (ls := ls) (rest := st.map (zv base)) (pc := pc) (locs := locs ++ L') (cells := u.1 + (uM μ').cells) (slots := u.2 + (uM μ').slots) (mc := (uM μ).cells) (ms := (uM μ).slots) (E := E) (ce := ce) (q := q9) hout hlocks (by rw [e1]; exact hce) hcv hcl (fun t1 ht1 hal => ⟨M', kx E M' hΦ, by rw [ht1, e1]; exact hM', k3.F ht1⟩) k3.2.2 hf.1 hf.2
    obtain ⟨t2, a1, b1⟩ := hxw T' rfl X'
    exact ⟨t2, stp.trans a1, b1⟩
/-- behind a call that doesn't throw -/
theorem zafter {D : va_G} {cy : Nat → ClassId} {base : zB} {p : Program} {l : Launch} {e : Env} {s : State} {m : MethodId} {args : Array Value} {below : List Frame} {meth : Method} {c : Code} (C0 : zC μ op l D cy base p s m args meth c) {H : Heap} {locs : List Loc} {ls : Array Slot} {stm : List Value} {a9 : Array Value} {mc ms : Nat} (hS : va_S (zA base) s.heap H locs) (hl : lv_has ls (uL μ) (zl base L))
    (run : va_Run p l e (uM μ) s m args below meth c H locs u.1 u.2 mc ms (F0 m pc ls stm) (st.map (zv base)) (zQ D cy base Φ' a9) (zA base))
    (kk : ∀ r M', Φ' (.inl r) M' → zW μ op (u.1 + mc, u.2 + ms) M' (pc + 3) L (r.toList ++ st) Φ) : W p l e (uM μ) s m args below meth c H locs u.1 u.2 (vx_MQ below (zQ D cy base Φ) (zX D cy base Φ) args s (uM μ).cells (uM μ).slots (zA base)) (F0 m pc ls stm) := by
  intro T0 hT X
  obtain ⟨v, st₀, t, T', L', h0, X', hL, e1, e2, ⟨r, M', hv, hΦ, hM', hF⟩, stp⟩ := run T0 hT X
  obtain ⟨k1, k2, k3⟩ := vx_keep h0 e1 hS (fun q _ h => h) (fun q h => h) hL hF
  cases hv
  obtain ⟨t2, a1, b1⟩ := kk r M' hΦ D cy base p l e s m args below meth c C0 T'.heap (locs ++ L') ls (by rw [e1]; exact hM') k3 hl T' rfl X'
  rw [← zstk] at a1
  exact ⟨t2, stp t2 a1, b1⟩
set_option maxHeartbeats 4000000 in
theorem zr_callS {idx n : Nat} {As : List Value} {ws' : List Cond} (hc : zMet μ' false M As Φ') (hno : ∀ E M', ¬ Φ' (.inr E) M') (d : decode (uC μ) pc = .ok (.invokestatic idx, 3)) (eq : pc + 3 = q)
    (hg : GoodIn (uW μ) (va_wsS (uY μ).cls idx (uY μ') (uW μ'))) (hw : uW μ' = Cond.code (uY μ') (uC μ') (uL μ') (uR μ') :: ws')
    (hd : (uY μ').cls ≠ "java/lang/invoke/MethodHandle" ∧ (uY μ').cls ≠ "java/lang/invoke/VarHandle" ∧ (parseMethodDescriptor (uY μ').desc).map (fun d => d.parameters.length) = some n)
    (hR : (uM μ').frames + 1 ≤ (uM μ).frames ∧ 8 + (uL μ' + 11) + (uM μ').locals ≤ (uM μ).locals) (hf : u.1 + (uM μ').cells ≤ (uM μ).cells ∧ u.2 + (uM μ').slots ≤ (uM μ).slots)
    (hn : As.length = n) (hst : As.reverse ++ st = st0) (hrest : (st.map fun v => v.category).sum ≤ 8)
    (kk : ∀ r M', Φ' (.inl r) M' → zW μ op (u.1 + (uM μ').cells, u.2 + (uM μ').slots) M' q L (r.toList ++ st) Φ) : zW μ op u M pc L st0 Φ := by
  subst eq; subst hst
  intro D cy base p l e s m args below meth c C0 H locs ls hM hS hl
  obtain ⟨hx, hb, hml, hown, hts, hG, hlocks, hr, hlt, htab, hnm, hop⟩ := id C0
  refine zafter C0 hS hl (va_runS (p := p) (l := l) (e := e) (R := uM μ) (below := below) (meth := meth) (locs := locs) (cells := u.1) (slots := u.2) (As := As.map (zv base)) (rest := st.map (zv base)) (g := F0 m pc ls ((As.reverse ++ st).map (zv base))) ⟨hx, hb, hml, hown, hts⟩ (zMet_met hc hno l D cy base hlt) (va_cwS n hts hg hw rfl rfl hd hR) ⟨zblind, zpre hG hM hS (fun h => by cases h)⟩ rfl (by simpa using hn) hl.1 (by simp) (lv_room (by rw [zcats]; exact hrest)) d hf) kk
set_option maxHeartbeats 4000000 in
theorem zr_callSN {idx n : Nat} {As : List Value} {ws' : List Cond} (hc : zMet μ' false M As Φ') (hno : ∀ E M', ¬ Φ' (.inr E) M') (d : decode (uC μ) pc = .ok (.invokestatic idx, 3)) (eq : pc + 3 = q)
    (hg : GoodIn (uW μ) (uW μ')) (hnl : ((uY μ).cls, idx, uY μ', RX9) ∈ zNl) (hstat : Cond.static (uY μ') ∈ uW μ) (hini : Cond.initialized (uY μ').cls ∈ uW μ) (hw : uW μ' = Cond.code (uY μ') (uC μ') (uL μ') (uR μ') :: ws')
    (hd : (uY μ').cls ≠ "java/lang/invoke/MethodHandle" ∧ (uY μ').cls ≠ "java/lang/invoke/VarHandle" ∧ (parseMethodDescriptor (uY μ').desc).map (fun d => d.parameters.length) = some n)
    (hR : (uM μ').frames + 1 ≤ (uM μ).frames ∧ 8 + (uL μ' + 11) + (uM μ').locals ≤ (uM μ).locals) (hf : u.1 + (uM μ').cells ≤ (uM μ).cells ∧ u.2 + (uM μ').slots ≤ (uM μ).slots)
    (hn : As.length = n) (hst : As.reverse ++ st = st0) (hrest : (st.map fun v => v.category).sum ≤ 8)
    (kk : ∀ r M', Φ' (.inl r) M' → zW μ op (u.1 + (uM μ').cells, u.2 + (uM μ').slots) M' q L (r.toList ++ st) Φ) : zW μ op u M pc L st0 Φ := by
  subst eq; subst hst
  intro D cy base p l e s m args below meth c C0 H locs ls hM hS hl
  obtain ⟨hx, hb, hml, hown, hts, hG, hlocks, hr, hlt, htab, hnm, hop⟩ := id C0
  have hnw : va_Nw (.methodLinkNest (uY μ).cls idx (uY μ') RX9) s := hG.2.2.2.2.1 _ hnl
  refine zafter C0 hS hl (va_runSN (p := p) (l := l) (e := e) (R := uM μ) (below := below) (meth := meth) (locs := locs) (cells := u.1) (slots := u.2) (As := As.map (zv base)) (rest := st.map (zv base)) (g := F0 m pc ls ((As.reverse ++ st).map (zv base))) ⟨hx, hb, hml, hown, hts⟩ (zMet_met hc hno l D cy base hlt) ⟨va_cnB n hts hg hw rfl rfl hnw (hts _ hini) hd hR, hts _ hstat, trivial⟩ ⟨zblind, zpre hG hM hS (fun h => by cases h)⟩ rfl (by simpa using hn) hl.1 (by simp) (lv_room (by rw [zcats]; exact hrest)) d hf) kk
/-! ends -/
theorem zr_ireturn {v : Int32} (d : decode (uC μ) pc = .ok (.ireturn, 1)) (hr : uR μ = some .int) (hu : u.1 ≤ (uM μ).cells ∧ u.2 ≤ (uM μ).slots) (h : Φ (.inl (some (.int v))) M) : zW μ op u M pc L [.int v] Φ := by
  intro D cy base p l e s m args below meth c C0 H locs ls hM hS hl
  obtain ⟨hx, hb, hml, hown, hts, hG, hlocks, hrt, hlt, htab, hnm, hop⟩ := id C0
  exact W.widen hu.1 hu.2 (vx_ret (W.iret (v := v) hx hb (hrt.trans hr) (fun t ht hW => ⟨some (.int v), M, rfl, h, by rw [ht]; exact hM, hS.F ht⟩) hS.2.2 d hlocks))
theorem zr_zreturn {v : Int32} (d : decode (uC μ) pc = .ok (.ireturn, 1)) (hr : uR μ = some .boolean) (hv : v = 0 ∨ v = 1) (hu : u.1 ≤ (uM μ).cells ∧ u.2 ≤ (uM μ).slots) (h : Φ (.inl (some (.int v))) M) : zW μ op u M pc L [.int v] Φ := by
  intro D cy base p l e s m args below meth c C0 H locs ls hM hS hl
  obtain ⟨hx, hb, hml, hown, hts, hG, hlocks, hrt, hlt, htab, hnm, hop⟩ := id C0
  exact W.widen hu.1 hu.2 (vx_ret (W.zret (v := v) hx hb (hrt.trans hr) (by rcases hv with rfl | rfl <;> rfl) (fun t ht hW => ⟨some (.int v), M, rfl, h, by rw [ht]; exact hM, hS.F ht⟩) hS.2.2 d hlocks))
theorem zr_lreturn {v : Int64} (d : decode (uC μ) pc = .ok (.lreturn, 1)) (hr : uR μ = some .long) (hu : u.1 ≤ (uM μ).cells ∧ u.2 ≤ (uM μ).slots) (h : Φ (.inl (some (.long v))) M) : zW μ op u M pc L [.long v] Φ := by
  intro D cy base p l e s m args below meth c C0 H locs ls hM hS hl
  obtain ⟨hx, hb, hml, hown, hts, hG, hlocks, hrt, hlt, htab, hnm, hop⟩ := id C0
  exact W.widen hu.1 hu.2 (vx_ret (W.lret (v := v) hx hb (hrt.trans hr) (fun t ht hW => ⟨some (.long v), M, rfl, h, by rw [ht]; exact hM, hS.F ht⟩) hS.2.2 d hlocks))
theorem zr_areturn {v : Nat} {C : String} (d : decode (uC μ) pc = .ok (.areturn, 1)) (hr : uR μ = some (.object C)) (hu : u.1 ≤ (uM μ).cells ∧ u.2 ≤ (uM μ).slots) (h : Φ (.inl (some (.ref v))) M) : zW μ op u M pc L [.ref v] Φ := by
  intro D cy base p l e s m args below meth c C0 H locs ls hM hS hl
  obtain ⟨hx, hb, hml, hown, hts, hG, hlocks, hrt, hlt, htab, hnm, hop⟩ := id C0
  exact W.widen hu.1 hu.2 (vx_ret (W.aret (v := .ref (zad base v)) hx hb (hrt.trans hr) (Or.inl ⟨C, rfl⟩) (Or.inr ⟨_, rfl⟩) (fun t ht hW => ⟨some (.ref v), M, rfl, h, by rw [ht]; exact hM, hS.F ht⟩) hS.2.2 d hlocks))
theorem zr_return (d : decode (uC μ) pc = .ok (.return_, 1)) (hr : uR μ = none) (hu : u.1 ≤ (uM μ).cells ∧ u.2 ≤ (uM μ).slots) (h : Φ (.inl none) M) : zW μ op u M pc L [] Φ := by
  intro D cy base p l e s m args below meth c C0 H locs ls hM hS hl
  obtain ⟨hx, hb, hml, hown, hts, hG, hlocks, hrt, hlt, htab, hnm, hop⟩ := id C0
  exact W.widen hu.1 hu.2 (vx_ret (W.vret hx hb (hrt.trans hr) (fun t ht hW => ⟨none, M, rfl, h, by rw [ht]; exact hM, hS.F ht⟩) hS.2.2 d hlocks))
end ZCALLS
