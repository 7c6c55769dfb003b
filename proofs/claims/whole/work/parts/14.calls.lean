/-! RULES for calls, returns, throws, making. -/
section ZCALLS
variable {μ μ' : zMu} {op : Option Nat} {u : Nat × Nat} {M : zM} {pc q : Nat} {L : List (Nat × Value)} {st st0 : List Value} {Φ Φ' : zPhi}
theorem zsize {D : va_G} {cy : Nat → ClassId} {base : zB} {H : Heap} (hM : zS D cy base M H) (h0 : base.1 < H.size) : base.1 + M.1.length ≤ H.size := by
  cases hn : M.1.length with
  | zero => omega
  | succ n =>
    cases n with
    | zero => omega
    | succ n =>
      have := (hM.1 (n + 1 - 1) _ (zw_get cy base M (a := n + 1) (by omega) (by omega))).lt
      dsimp only at this
      simp [zad] at this
      omega
theorem zcats (base : zB) (st : List Value) : ((st.map (zv base)).map fun v => v.category) = st.map fun v => v.category := by
  rw [List.map_map]
  exact List.map_congr_left (fun v _ => zv_cat base v)
theorem zgoodB {ws : List Cond} (hk : uK μ' ∈ zBig) (h : ∀ w ∈ ws, w ∈ zBig) : GoodIn zBig (ws ++ uW μ') := fun w hw => by
  have h1 : w ∈ zBig := (List.mem_append.mp hw).elim (h w) (fun h9 => (List.mem_cons.mp h9).elim (fun e => by rw [e]; exact hk) (fun h8 => h8))
  exact ⟨h1, good_of_word (zb_good h1)⟩
theorem zm3 {a b c : Cond} (h1 : a ∈ zBig) (h2 : b ∈ zBig) (h3 : c ∈ zBig) : ∀ w ∈ [a, b, c], w ∈ zBig := List.forall_mem_cons.mpr ⟨h1, List.forall_mem_cons.mpr ⟨h2, List.forall_mem_cons.mpr ⟨h3, fun _ h => by cases h⟩⟩⟩
theorem zm4 {a b c d : Cond} (h0 : a ∈ zBig) (h1 : b ∈ zBig) (h2 : c ∈ zBig) (h3 : d ∈ zBig) : ∀ w ∈ [a, b, c, d], w ∈ zBig := List.forall_mem_cons.mpr ⟨h0, zm3 h1 h2 h3⟩
theorem zstk (base : zB) (r : Option Value) (st : List Value) : (r.map (zv base)).toList ++ st.map (zv base) = (r.toList ++ st).map (zv base) := by cases r <;> rfl
theorem zpre {D : va_G} {cy : Nat → ClassId} {base : zB} {s : State} {H : Heap} {locs : List Loc} {As : List Value} {b : Bool} (hG : zG D cy base s) (hM : zS D cy base M H) (hS : va_S (zA base) s.heap H locs) (hz : b = true → H.size = base.1 + M.1.length) : ∀ U : State, U.heap = H → s.WarmedH U.vm → zP b D cy base M As (As.map (zv base)).toArray U := fun U hU hW =>
  ⟨rfl, zG_moved hG hW (by rw [hU]; exact hS.1) (fun a h1 h2 => by rw [hU]; exact hS.2.1 a h1 h2), by rw [hU]; exact hM, fun h => by rw [hU]; exact hz h⟩
set_option maxHeartbeats 4000000 in
theorem zr_callV {T : u_T} {N ci a idx n : Nat} {As : List Value} (hc : zMet μ' false M (.ref a :: As) Φ') (d : decode (uC μ) pc = .ok (.invokevirtual idx, 3)) (eq : pc + 3 = q)
    (hH' : uH μ' = []) (hb : Cond.code (uY μ') (uC μ') (uL μ') (uR μ') ∈ zBig ∧ Cond.methodLink (uY μ).cls idx (uY μ') ∈ zBig ∧ Cond.instanceMethod (uY μ') ∈ zBig ∧ Cond.selects (uY μ').cls (uY μ') (uY μ') ∈ zBig ∧ Cond.initialized (uY μ').cls ∈ zBig)
    (hd : (uY μ').cls ≠ "java/lang/invoke/MethodHandle" ∧ (uY μ').cls ≠ "java/lang/invoke/VarHandle" ∧ (parseMethodDescriptor (uY μ').desc).map (fun d => d.parameters.length) = some n)
    (hR : (uM μ').frames + 1 ≤ (uM μ).frames ∧ 8 + (uL μ' + 11) + (uM μ').locals ≤ (uM μ).locals) (hf : u.1 + (uM μ').cells ≤ (uM μ).cells ∧ u.2 + (uM μ').slots ≤ (uM μ).slots)
    (hk : mK M a = ci) (h11 : ci < 11) (hci : vwCl[ci]? = some ((uY μ').cls, T, N)) (hn : As.length = n) (hst : As.reverse ++ .ref a :: st = st0) (hrest : (st.map fun v => v.category).sum ≤ 8) (hH : uH μ = [])
    (kx : ∀ E M', Φ' (.inr E) M' → Φ (.inr E) M')
    (kk : ∀ r M', Φ' (.inl r) M' → zW μ op (u.1 + (uM μ').cells, u.2 + (uM μ').slots) M' q L (r.toList ++ st) Φ) : zW μ op u M pc L st0 Φ := by
  subst eq; subst hst
  intro D cy base p l e s m args below meth c C0 H locs ls hM hS hl
  obtain ⟨hx, hbc, hml, hown, hts, hG, hlocks, hr, hlt, htab, hnm, hop⟩ := id C0
  have h0a : 0 < a := z0 hM (by omega)
  have hw : uW μ' = Cond.code (uY μ') (uC μ') (uL μ') (uR μ') :: zBig := by unfold uW uK; rw [hH']
  have hk' : uK μ' ∈ zBig := by unfold uK; rw [hH']; exact hb.1
  have hgd : GoodIn zBig (wsV (uY μ).cls idx (uY μ').cls (uY μ') (uW μ')) := zgoodB hk' (zm4 hb.2.1 hb.2.2.1 hb.2.2.2.1 hb.2.2.2.2)
  have hgc := zw_get cy base M h0a (mK_lt (by omega : mK M a < 99))
  rw [zcell_o cy base hk h11] at hgc
  have hrecv := va_recv hG.1 hM.1 (ci := ci) (q0 := a - 1) hci hgc
  have run := vx_runV (p := p) (l := l) (e := e) (R := uM μ) (below := below) (meth := meth) (locs := locs) (cells := u.1) (slots := u.2) (As := As.map (zv base)) (rest := st.map (zv base)) (b := zad base a) (g := F0 m pc ls ((As.reverse ++ .ref a :: st).map (zv base))) ⟨hx, hbc, hml, hown, fun w hw9 => hts w hw9⟩ (hc l D cy base hlt) (cwV (Ts := zBig) n hts hgd hw rfl rfl ⟨rfl, hd⟩ hR) ⟨zblind, hrecv, zpre (As := .ref a :: As) hG hM hS (fun h => by cases h)⟩ rfl (by simpa using hn) hl.1 (by simp [zv]) (lv_room (by rw [zcats]; exact hrest)) d hf
  intro T0 hT X
  rcases run T0 hT X with ⟨v, st₀, t, T', L', h0, X', hL, e1, e2, ⟨r, M', hv, hΦ, hM', hF⟩, stp⟩ | ⟨q9, st₀, t, T', L', E, ce, h0, X', hL, e1, e2, ⟨M', hΦ, hM', hF⟩, hce, hcv, hcl, stp⟩
  · obtain ⟨k1, k2, k3⟩ := vx_keep h0 e1 hS (fun q _ h => h) (fun q h => h) hL hF
    cases hv
    obtain ⟨t2, a1, b1⟩ := kk r M' hΦ D cy base p l e s m args below meth c C0 T'.heap (locs ++ L') ls (by rw [e1]; exact hM') k3 hl T' rfl X'
    rw [← zstk] at a1
    exact ⟨t2, stp t2 a1, b1⟩
  · obtain ⟨k1, k2, k3⟩ := vx_keep h0 e1 hS (fun q _ h => h) (fun q h => h) hL hF
    have hout : ∀ x ∈ c.exceptionTable.toList, covers x pc = false := fun x hx9 => by rw [htab, hH] at hx9; cases hx9
    have hxw := vx_out (p := p) (l := l) (e := e) (R := uM μ) (s := s) (m := m) (args := args) (below := below) (meth := meth) (c := c) (H := T'.heap) (Qc := zQ D cy base Φ) (XC := zX D cy base Φ) (free := zA base) (ls := ls) (rest := st.map (zv base)) (pc := pc) (locs := locs ++ L') (cells := u.1 + (uM μ').cells) (slots := u.2 + (uM μ').slots) (mc := (uM μ).cells) (ms := (uM μ).slots) (E := E) (ce := ce) (q := q9) hout hlocks (by rw [e1]; exact hce) hcv hcl (fun t1 ht1 hal => ⟨M', kx E M' hΦ, by rw [ht1, e1]; exact hM', k3.F ht1⟩) k3.2.2 hf.1 hf.2
    obtain ⟨t2, a1, b1⟩ := hxw T' rfl X'
    exact ⟨t2, stp.trans a1, b1⟩
/-- behind a call that doesn't throw -/
theorem zafter {D : va_G} {cy : Nat → ClassId} {base : zB} {p : Program} {l : Launch} {e : Env} {s : State} {m : MethodId} {args : Array Value} {below : List Frame} {meth : Method} {c : Code} (C0 : zC μ op l D cy base p s m args meth c) {H : Heap} {locs : List Loc} {ls : Array Slot} {stm : List Value} {a9 : Array Value} {mc ms : Nat} (hS : va_S (zA base) s.heap H locs) (hl : lv_has ls (uL μ) (zl base L))
    (run : va_Run p l e (uM μ) s m args below meth c H locs u.1 u.2 mc ms (F0 m pc ls stm) (st.map (zv base)) (zQ D cy base Φ' a9) (zA base))
    (kk : ∀ r M', Φ' (.inl r) M' → zW μ op (u.1 + mc, u.2 + ms) M' (pc + 3) L (r.toList ++ st) Φ) : W p l e (uM μ) s m args below meth c H locs u.1 u.2 (vx_MQ below (zQ D cy base Φ) (zX D cy base Φ) args s (uM μ).cells (uM μ).slots (zA base)) (F0 m pc ls stm) := by
  intro T0 hT X
  obtain ⟨v, st₀, t, T', L', h0, X', hL, e1, e2, ⟨r, M', hv, hΦ, hM', hF⟩, stp⟩ := run T0 hT X
  obtain ⟨k1, k2, k3⟩ := vx_keep h0 e1 hS (fun q _ h => h) (fun q h => h) hL hF
  cases hv
  obtain ⟨t2, a1, b1⟩ := kk r M' hΦ D cy base p l e s m args below meth c C0 T'.heap (locs ++ L') ls (by rw [e1]; exact hM') k3 hl T' rfl X'
  rw [← zstk] at a1
  exact ⟨t2, stp t2 a1, b1⟩
set_option maxHeartbeats 4000000 in
theorem zr_callS {idx n : Nat} {As : List Value} (hc : zMet μ' false M As Φ') (hno : ∀ E M', ¬ Φ' (.inr E) M') (d : decode (uC μ) pc = .ok (.invokestatic idx, 3)) (eq : pc + 3 = q)
    (hH' : uH μ' = []) (hb : Cond.code (uY μ') (uC μ') (uL μ') (uR μ') ∈ zBig ∧ Cond.methodLink (uY μ).cls idx (uY μ') ∈ zBig ∧ Cond.static (uY μ') ∈ zBig ∧ Cond.initialized (uY μ').cls ∈ zBig)
    (hd : (uY μ').cls ≠ "java/lang/invoke/MethodHandle" ∧ (uY μ').cls ≠ "java/lang/invoke/VarHandle" ∧ (parseMethodDescriptor (uY μ').desc).map (fun d => d.parameters.length) = some n)
    (hR : (uM μ').frames + 1 ≤ (uM μ).frames ∧ 8 + (uL μ' + 11) + (uM μ').locals ≤ (uM μ).locals) (hf : u.1 + (uM μ').cells ≤ (uM μ).cells ∧ u.2 + (uM μ').slots ≤ (uM μ).slots)
    (hn : As.length = n) (hst : As.reverse ++ st = st0) (hrest : (st.map fun v => v.category).sum ≤ 8)
    (kk : ∀ r M', Φ' (.inl r) M' → zW μ op (u.1 + (uM μ').cells, u.2 + (uM μ').slots) M' q L (r.toList ++ st) Φ) : zW μ op u M pc L st0 Φ := by
  subst eq; subst hst
  intro D cy base p l e s m args below meth c C0 H locs ls hM hS hl
  obtain ⟨hx, hbc, hml, hown, hts, hG, hlocks, hr, hlt, htab, hnm, hop⟩ := id C0
  have hw : uW μ' = Cond.code (uY μ') (uC μ') (uL μ') (uR μ') :: zBig := by unfold uW uK; rw [hH']
  have hk' : uK μ' ∈ zBig := by unfold uK; rw [hH']; exact hb.1
  have hgd : GoodIn zBig (va_wsS (uY μ).cls idx (uY μ') (uW μ')) := zgoodB hk' (zm3 hb.2.1 hb.2.2.1 hb.2.2.2)
  refine zafter C0 hS hl (va_runS (p := p) (l := l) (e := e) (R := uM μ) (below := below) (meth := meth) (locs := locs) (cells := u.1) (slots := u.2) (As := As.map (zv base)) (rest := st.map (zv base)) (g := F0 m pc ls ((As.reverse ++ st).map (zv base))) ⟨hx, hbc, hml, hown, fun w hw9 => hts w hw9⟩ (zMet_met hc hno l D cy base hlt) (va_cwS (Ts := zBig) n hts hgd hw rfl rfl hd hR) ⟨zblind, zpre hG hM hS (fun h => by cases h)⟩ rfl (by simpa using hn) hl.1 (by simp) (lv_room (by rw [zcats]; exact hrest)) d hf) kk
set_option maxHeartbeats 4000000 in
theorem zr_callSN {idx n : Nat} {As : List Value} (hc : zMet μ' false M As Φ') (hno : ∀ E M', ¬ Φ' (.inr E) M') (d : decode (uC μ) pc = .ok (.invokestatic idx, 3)) (eq : pc + 3 = q)
    (hH' : uH μ' = []) (hnl : ((uY μ).cls, idx, uY μ', RX9) ∈ zNl) (hb : Cond.code (uY μ') (uC μ') (uL μ') (uR μ') ∈ zBig ∧ Cond.static (uY μ') ∈ zBig ∧ Cond.initialized (uY μ').cls ∈ zBig)
    (hd : (uY μ').cls ≠ "java/lang/invoke/MethodHandle" ∧ (uY μ').cls ≠ "java/lang/invoke/VarHandle" ∧ (parseMethodDescriptor (uY μ').desc).map (fun d => d.parameters.length) = some n)
    (hR : (uM μ').frames + 1 ≤ (uM μ).frames ∧ 8 + (uL μ' + 11) + (uM μ').locals ≤ (uM μ).locals) (hf : u.1 + (uM μ').cells ≤ (uM μ).cells ∧ u.2 + (uM μ').slots ≤ (uM μ).slots)
    (hn : As.length = n) (hst : As.reverse ++ st = st0) (hrest : (st.map fun v => v.category).sum ≤ 8)
    (kk : ∀ r M', Φ' (.inl r) M' → zW μ op (u.1 + (uM μ').cells, u.2 + (uM μ').slots) M' q L (r.toList ++ st) Φ) : zW μ op u M pc L st0 Φ := by
  subst eq; subst hst
  intro D cy base p l e s m args below meth c C0 H locs ls hM hS hl
  obtain ⟨hx, hbc, hml, hown, hts, hG, hlocks, hr, hlt, htab, hnm, hop⟩ := id C0
  have hnw : va_Nw (.methodLinkNest (uY μ).cls idx (uY μ') RX9) s := hG.2.2.2.2.1 _ hnl
  have hw : uW μ' = Cond.code (uY μ') (uC μ') (uL μ') (uR μ') :: zBig := by unfold uW uK; rw [hH']
  have hk' : uK μ' ∈ zBig := by unfold uK; rw [hH']; exact hb.1
  refine zafter C0 hS hl (va_runSN (p := p) (l := l) (e := e) (R := uM μ) (below := below) (meth := meth) (locs := locs) (cells := u.1) (slots := u.2) (As := As.map (zv base)) (rest := st.map (zv base)) (g := F0 m pc ls ((As.reverse ++ st).map (zv base))) ⟨hx, hbc, hml, hown, fun w hw9 => hts w hw9⟩ (zMet_met hc hno l D cy base hlt) ⟨va_cnB (Ts := zBig) n hts (zgoodB (ws := []) hk' (fun w h9 => by cases h9)) hw rfl rfl hnw (hts _ hb.2.2) hd hR, hts _ hb.2.1, trivial⟩ ⟨zblind, zpre hG hM hS (fun h => by cases h)⟩ rfl (by simpa using hn) hl.1 (by simp) (lv_room (by rw [zcats]; exact hrest)) d hf) kk
/-! the calls by what comes back -/
theorem zr_callVI {T : u_T} {N ci a idx n : Nat} {As : List Value} {u' : Nat × Nat} {r1 : Int32} {M1 : zM} (hc : zMet μ' false M (.ref a :: As) (zE (oI r1) M1)) (d : decode (uC μ) pc = .ok (.invokevirtual idx, 3)) (eq : pc + 3 = q) (hH' : uH μ' = []) (hb : Cond.code (uY μ') (uC μ') (uL μ') (uR μ') ∈ zBig ∧ Cond.methodLink (uY μ).cls idx (uY μ') ∈ zBig ∧ Cond.instanceMethod (uY μ') ∈ zBig ∧ Cond.selects (uY μ').cls (uY μ') (uY μ') ∈ zBig ∧ Cond.initialized (uY μ').cls ∈ zBig) (hd : (uY μ').cls ≠ "java/lang/invoke/MethodHandle" ∧ (uY μ').cls ≠ "java/lang/invoke/VarHandle" ∧ (parseMethodDescriptor (uY μ').desc).map (fun d => d.parameters.length) = some n) (hR : (uM μ').frames + 1 ≤ (uM μ).frames ∧ 8 + (uL μ' + 11) + (uM μ').locals ≤ (uM μ).locals) (hf : u.1 + (uM μ').cells ≤ (uM μ).cells ∧ u.2 + (uM μ').slots ≤ (uM μ).slots) (hk : mK M a = ci) (h11 : ci < 11) (hci : vwCl[ci]? = some ((uY μ').cls, T, N)) (hn : As.length = n) (hst : As.reverse ++ .ref a :: st = st0) (hrest : (st.map fun v => v.category).sum ≤ 8) (hH : uH μ = []) (hu : (u.1 + (uM μ').cells, u.2 + (uM μ').slots) = u') (kk : zW μ op u' M1 q L (.int r1 :: st) Φ) : zW μ op u M pc L st0 Φ := by
  subst hu
  exact zr_callV hc d eq hH' hb hd hR hf hk h11 hci hn hst hrest hH (fun E M' e => by cases e.1) (fun r M' e => by
    obtain ⟨e1, e2⟩ := e
    cases e1; subst e2; exact kk)
theorem zr_callSI {idx n : Nat} {As : List Value} {u' : Nat × Nat} {r1 : Int32} {M1 : zM} (hc : zMet μ' false M As (zE (oI r1) M1)) (d : decode (uC μ) pc = .ok (.invokestatic idx, 3)) (eq : pc + 3 = q) (hH' : uH μ' = []) (hb : Cond.code (uY μ') (uC μ') (uL μ') (uR μ') ∈ zBig ∧ Cond.methodLink (uY μ).cls idx (uY μ') ∈ zBig ∧ Cond.static (uY μ') ∈ zBig ∧ Cond.initialized (uY μ').cls ∈ zBig) (hd : (uY μ').cls ≠ "java/lang/invoke/MethodHandle" ∧ (uY μ').cls ≠ "java/lang/invoke/VarHandle" ∧ (parseMethodDescriptor (uY μ').desc).map (fun d => d.parameters.length) = some n) (hR : (uM μ').frames + 1 ≤ (uM μ).frames ∧ 8 + (uL μ' + 11) + (uM μ').locals ≤ (uM μ).locals) (hf : u.1 + (uM μ').cells ≤ (uM μ).cells ∧ u.2 + (uM μ').slots ≤ (uM μ).slots) (hn : As.length = n) (hst : As.reverse ++ st = st0) (hrest : (st.map fun v => v.category).sum ≤ 8) (hu : (u.1 + (uM μ').cells, u.2 + (uM μ').slots) = u') (kk : zW μ op u' M1 q L (.int r1 :: st) Φ) : zW μ op u M pc L st0 Φ := by
  subst hu
  exact zr_callS hc (fun E M' e => by cases e.1) d eq hH' hb hd hR hf hn hst hrest (fun r M' e => by
    obtain ⟨e1, e2⟩ := e
    cases e1; subst e2; exact kk)
theorem zr_callSNI {idx n : Nat} {As : List Value} {u' : Nat × Nat} {r1 : Int32} {M1 : zM} (hc : zMet μ' false M As (zE (oI r1) M1)) (d : decode (uC μ) pc = .ok (.invokestatic idx, 3)) (eq : pc + 3 = q) (hH' : uH μ' = []) (hnl : ((uY μ).cls, idx, uY μ', RX9) ∈ zNl) (hb : Cond.code (uY μ') (uC μ') (uL μ') (uR μ') ∈ zBig ∧ Cond.static (uY μ') ∈ zBig ∧ Cond.initialized (uY μ').cls ∈ zBig) (hd : (uY μ').cls ≠ "java/lang/invoke/MethodHandle" ∧ (uY μ').cls ≠ "java/lang/invoke/VarHandle" ∧ (parseMethodDescriptor (uY μ').desc).map (fun d => d.parameters.length) = some n) (hR : (uM μ').frames + 1 ≤ (uM μ).frames ∧ 8 + (uL μ' + 11) + (uM μ').locals ≤ (uM μ).locals) (hf : u.1 + (uM μ').cells ≤ (uM μ).cells ∧ u.2 + (uM μ').slots ≤ (uM μ).slots) (hn : As.length = n) (hst : As.reverse ++ st = st0) (hrest : (st.map fun v => v.category).sum ≤ 8) (hu : (u.1 + (uM μ').cells, u.2 + (uM μ').slots) = u') (kk : zW μ op u' M1 q L (.int r1 :: st) Φ) : zW μ op u M pc L st0 Φ := by
  subst hu
  exact zr_callSN hc (fun E M' e => by cases e.1) d eq hH' hnl hb hd hR hf hn hst hrest (fun r M' e => by
    obtain ⟨e1, e2⟩ := e
    cases e1; subst e2; exact kk)
theorem zr_callVL {T : u_T} {N ci a idx n : Nat} {As : List Value} {u' : Nat × Nat} {r1 : Int64} {M1 : zM} (hc : zMet μ' false M (.ref a :: As) (zE (oL r1) M1)) (d : decode (uC μ) pc = .ok (.invokevirtual idx, 3)) (eq : pc + 3 = q) (hH' : uH μ' = []) (hb : Cond.code (uY μ') (uC μ') (uL μ') (uR μ') ∈ zBig ∧ Cond.methodLink (uY μ).cls idx (uY μ') ∈ zBig ∧ Cond.instanceMethod (uY μ') ∈ zBig ∧ Cond.selects (uY μ').cls (uY μ') (uY μ') ∈ zBig ∧ Cond.initialized (uY μ').cls ∈ zBig) (hd : (uY μ').cls ≠ "java/lang/invoke/MethodHandle" ∧ (uY μ').cls ≠ "java/lang/invoke/VarHandle" ∧ (parseMethodDescriptor (uY μ').desc).map (fun d => d.parameters.length) = some n) (hR : (uM μ').frames + 1 ≤ (uM μ).frames ∧ 8 + (uL μ' + 11) + (uM μ').locals ≤ (uM μ).locals) (hf : u.1 + (uM μ').cells ≤ (uM μ).cells ∧ u.2 + (uM μ').slots ≤ (uM μ).slots) (hk : mK M a = ci) (h11 : ci < 11) (hci : vwCl[ci]? = some ((uY μ').cls, T, N)) (hn : As.length = n) (hst : As.reverse ++ .ref a :: st = st0) (hrest : (st.map fun v => v.category).sum ≤ 8) (hH : uH μ = []) (hu : (u.1 + (uM μ').cells, u.2 + (uM μ').slots) = u') (kk : zW μ op u' M1 q L (.long r1 :: st) Φ) : zW μ op u M pc L st0 Φ := by
  subst hu
  exact zr_callV hc d eq hH' hb hd hR hf hk h11 hci hn hst hrest hH (fun E M' e => by cases e.1) (fun r M' e => by
    obtain ⟨e1, e2⟩ := e
    cases e1; subst e2; exact kk)
theorem zr_callSL {idx n : Nat} {As : List Value} {u' : Nat × Nat} {r1 : Int64} {M1 : zM} (hc : zMet μ' false M As (zE (oL r1) M1)) (d : decode (uC μ) pc = .ok (.invokestatic idx, 3)) (eq : pc + 3 = q) (hH' : uH μ' = []) (hb : Cond.code (uY μ') (uC μ') (uL μ') (uR μ') ∈ zBig ∧ Cond.methodLink (uY μ).cls idx (uY μ') ∈ zBig ∧ Cond.static (uY μ') ∈ zBig ∧ Cond.initialized (uY μ').cls ∈ zBig) (hd : (uY μ').cls ≠ "java/lang/invoke/MethodHandle" ∧ (uY μ').cls ≠ "java/lang/invoke/VarHandle" ∧ (parseMethodDescriptor (uY μ').desc).map (fun d => d.parameters.length) = some n) (hR : (uM μ').frames + 1 ≤ (uM μ).frames ∧ 8 + (uL μ' + 11) + (uM μ').locals ≤ (uM μ).locals) (hf : u.1 + (uM μ').cells ≤ (uM μ).cells ∧ u.2 + (uM μ').slots ≤ (uM μ).slots) (hn : As.length = n) (hst : As.reverse ++ st = st0) (hrest : (st.map fun v => v.category).sum ≤ 8) (hu : (u.1 + (uM μ').cells, u.2 + (uM μ').slots) = u') (kk : zW μ op u' M1 q L (.long r1 :: st) Φ) : zW μ op u M pc L st0 Φ := by
  subst hu
  exact zr_callS hc (fun E M' e => by cases e.1) d eq hH' hb hd hR hf hn hst hrest (fun r M' e => by
    obtain ⟨e1, e2⟩ := e
    cases e1; subst e2; exact kk)
theorem zr_callSNL {idx n : Nat} {As : List Value} {u' : Nat × Nat} {r1 : Int64} {M1 : zM} (hc : zMet μ' false M As (zE (oL r1) M1)) (d : decode (uC μ) pc = .ok (.invokestatic idx, 3)) (eq : pc + 3 = q) (hH' : uH μ' = []) (hnl : ((uY μ).cls, idx, uY μ', RX9) ∈ zNl) (hb : Cond.code (uY μ') (uC μ') (uL μ') (uR μ') ∈ zBig ∧ Cond.static (uY μ') ∈ zBig ∧ Cond.initialized (uY μ').cls ∈ zBig) (hd : (uY μ').cls ≠ "java/lang/invoke/MethodHandle" ∧ (uY μ').cls ≠ "java/lang/invoke/VarHandle" ∧ (parseMethodDescriptor (uY μ').desc).map (fun d => d.parameters.length) = some n) (hR : (uM μ').frames + 1 ≤ (uM μ).frames ∧ 8 + (uL μ' + 11) + (uM μ').locals ≤ (uM μ).locals) (hf : u.1 + (uM μ').cells ≤ (uM μ).cells ∧ u.2 + (uM μ').slots ≤ (uM μ).slots) (hn : As.length = n) (hst : As.reverse ++ st = st0) (hrest : (st.map fun v => v.category).sum ≤ 8) (hu : (u.1 + (uM μ').cells, u.2 + (uM μ').slots) = u') (kk : zW μ op u' M1 q L (.long r1 :: st) Φ) : zW μ op u M pc L st0 Φ := by
  subst hu
  exact zr_callSN hc (fun E M' e => by cases e.1) d eq hH' hnl hb hd hR hf hn hst hrest (fun r M' e => by
    obtain ⟨e1, e2⟩ := e
    cases e1; subst e2; exact kk)
theorem zr_callVA {T : u_T} {N ci a idx n : Nat} {As : List Value} {u' : Nat × Nat} {r1 : Nat} {M1 : zM} (hc : zMet μ' false M (.ref a :: As) (zE (oA r1) M1)) (d : decode (uC μ) pc = .ok (.invokevirtual idx, 3)) (eq : pc + 3 = q) (hH' : uH μ' = []) (hb : Cond.code (uY μ') (uC μ') (uL μ') (uR μ') ∈ zBig ∧ Cond.methodLink (uY μ).cls idx (uY μ') ∈ zBig ∧ Cond.instanceMethod (uY μ') ∈ zBig ∧ Cond.selects (uY μ').cls (uY μ') (uY μ') ∈ zBig ∧ Cond.initialized (uY μ').cls ∈ zBig) (hd : (uY μ').cls ≠ "java/lang/invoke/MethodHandle" ∧ (uY μ').cls ≠ "java/lang/invoke/VarHandle" ∧ (parseMethodDescriptor (uY μ').desc).map (fun d => d.parameters.length) = some n) (hR : (uM μ').frames + 1 ≤ (uM μ).frames ∧ 8 + (uL μ' + 11) + (uM μ').locals ≤ (uM μ).locals) (hf : u.1 + (uM μ').cells ≤ (uM μ).cells ∧ u.2 + (uM μ').slots ≤ (uM μ).slots) (hk : mK M a = ci) (h11 : ci < 11) (hci : vwCl[ci]? = some ((uY μ').cls, T, N)) (hn : As.length = n) (hst : As.reverse ++ .ref a :: st = st0) (hrest : (st.map fun v => v.category).sum ≤ 8) (hH : uH μ = []) (hu : (u.1 + (uM μ').cells, u.2 + (uM μ').slots) = u') (kk : zW μ op u' M1 q L (.ref r1 :: st) Φ) : zW μ op u M pc L st0 Φ := by
  subst hu
  exact zr_callV hc d eq hH' hb hd hR hf hk h11 hci hn hst hrest hH (fun E M' e => by cases e.1) (fun r M' e => by
    obtain ⟨e1, e2⟩ := e
    cases e1; subst e2; exact kk)
theorem zr_callSA {idx n : Nat} {As : List Value} {u' : Nat × Nat} {r1 : Nat} {M1 : zM} (hc : zMet μ' false M As (zE (oA r1) M1)) (d : decode (uC μ) pc = .ok (.invokestatic idx, 3)) (eq : pc + 3 = q) (hH' : uH μ' = []) (hb : Cond.code (uY μ') (uC μ') (uL μ') (uR μ') ∈ zBig ∧ Cond.methodLink (uY μ).cls idx (uY μ') ∈ zBig ∧ Cond.static (uY μ') ∈ zBig ∧ Cond.initialized (uY μ').cls ∈ zBig) (hd : (uY μ').cls ≠ "java/lang/invoke/MethodHandle" ∧ (uY μ').cls ≠ "java/lang/invoke/VarHandle" ∧ (parseMethodDescriptor (uY μ').desc).map (fun d => d.parameters.length) = some n) (hR : (uM μ').frames + 1 ≤ (uM μ).frames ∧ 8 + (uL μ' + 11) + (uM μ').locals ≤ (uM μ).locals) (hf : u.1 + (uM μ').cells ≤ (uM μ).cells ∧ u.2 + (uM μ').slots ≤ (uM μ).slots) (hn : As.length = n) (hst : As.reverse ++ st = st0) (hrest : (st.map fun v => v.category).sum ≤ 8) (hu : (u.1 + (uM μ').cells, u.2 + (uM μ').slots) = u') (kk : zW μ op u' M1 q L (.ref r1 :: st) Φ) : zW μ op u M pc L st0 Φ := by
  subst hu
  exact zr_callS hc (fun E M' e => by cases e.1) d eq hH' hb hd hR hf hn hst hrest (fun r M' e => by
    obtain ⟨e1, e2⟩ := e
    cases e1; subst e2; exact kk)
theorem zr_callSNA {idx n : Nat} {As : List Value} {u' : Nat × Nat} {r1 : Nat} {M1 : zM} (hc : zMet μ' false M As (zE (oA r1) M1)) (d : decode (uC μ) pc = .ok (.invokestatic idx, 3)) (eq : pc + 3 = q) (hH' : uH μ' = []) (hnl : ((uY μ).cls, idx, uY μ', RX9) ∈ zNl) (hb : Cond.code (uY μ') (uC μ') (uL μ') (uR μ') ∈ zBig ∧ Cond.static (uY μ') ∈ zBig ∧ Cond.initialized (uY μ').cls ∈ zBig) (hd : (uY μ').cls ≠ "java/lang/invoke/MethodHandle" ∧ (uY μ').cls ≠ "java/lang/invoke/VarHandle" ∧ (parseMethodDescriptor (uY μ').desc).map (fun d => d.parameters.length) = some n) (hR : (uM μ').frames + 1 ≤ (uM μ).frames ∧ 8 + (uL μ' + 11) + (uM μ').locals ≤ (uM μ).locals) (hf : u.1 + (uM μ').cells ≤ (uM μ).cells ∧ u.2 + (uM μ').slots ≤ (uM μ).slots) (hn : As.length = n) (hst : As.reverse ++ st = st0) (hrest : (st.map fun v => v.category).sum ≤ 8) (hu : (u.1 + (uM μ').cells, u.2 + (uM μ').slots) = u') (kk : zW μ op u' M1 q L (.ref r1 :: st) Φ) : zW μ op u M pc L st0 Φ := by
  subst hu
  exact zr_callSN hc (fun E M' e => by cases e.1) d eq hH' hnl hb hd hR hf hn hst hrest (fun r M' e => by
    obtain ⟨e1, e2⟩ := e
    cases e1; subst e2; exact kk)
theorem zr_callVV {T : u_T} {N ci a idx n : Nat} {As : List Value} {u' : Nat × Nat} {r1 : Unit} {M1 : zM} (hc : zMet μ' false M (.ref a :: As) (zE (oV r1) M1)) (d : decode (uC μ) pc = .ok (.invokevirtual idx, 3)) (eq : pc + 3 = q) (hH' : uH μ' = []) (hb : Cond.code (uY μ') (uC μ') (uL μ') (uR μ') ∈ zBig ∧ Cond.methodLink (uY μ).cls idx (uY μ') ∈ zBig ∧ Cond.instanceMethod (uY μ') ∈ zBig ∧ Cond.selects (uY μ').cls (uY μ') (uY μ') ∈ zBig ∧ Cond.initialized (uY μ').cls ∈ zBig) (hd : (uY μ').cls ≠ "java/lang/invoke/MethodHandle" ∧ (uY μ').cls ≠ "java/lang/invoke/VarHandle" ∧ (parseMethodDescriptor (uY μ').desc).map (fun d => d.parameters.length) = some n) (hR : (uM μ').frames + 1 ≤ (uM μ).frames ∧ 8 + (uL μ' + 11) + (uM μ').locals ≤ (uM μ).locals) (hf : u.1 + (uM μ').cells ≤ (uM μ).cells ∧ u.2 + (uM μ').slots ≤ (uM μ).slots) (hk : mK M a = ci) (h11 : ci < 11) (hci : vwCl[ci]? = some ((uY μ').cls, T, N)) (hn : As.length = n) (hst : As.reverse ++ .ref a :: st = st0) (hrest : (st.map fun v => v.category).sum ≤ 8) (hH : uH μ = []) (hu : (u.1 + (uM μ').cells, u.2 + (uM μ').slots) = u') (kk : zW μ op u' M1 q L (st) Φ) : zW μ op u M pc L st0 Φ := by
  subst hu
  exact zr_callV hc d eq hH' hb hd hR hf hk h11 hci hn hst hrest hH (fun E M' e => by cases e.1) (fun r M' e => by
    obtain ⟨e1, e2⟩ := e
    cases e1; subst e2; exact kk)
theorem zr_callSV {idx n : Nat} {As : List Value} {u' : Nat × Nat} {r1 : Unit} {M1 : zM} (hc : zMet μ' false M As (zE (oV r1) M1)) (d : decode (uC μ) pc = .ok (.invokestatic idx, 3)) (eq : pc + 3 = q) (hH' : uH μ' = []) (hb : Cond.code (uY μ') (uC μ') (uL μ') (uR μ') ∈ zBig ∧ Cond.methodLink (uY μ).cls idx (uY μ') ∈ zBig ∧ Cond.static (uY μ') ∈ zBig ∧ Cond.initialized (uY μ').cls ∈ zBig) (hd : (uY μ').cls ≠ "java/lang/invoke/MethodHandle" ∧ (uY μ').cls ≠ "java/lang/invoke/VarHandle" ∧ (parseMethodDescriptor (uY μ').desc).map (fun d => d.parameters.length) = some n) (hR : (uM μ').frames + 1 ≤ (uM μ).frames ∧ 8 + (uL μ' + 11) + (uM μ').locals ≤ (uM μ).locals) (hf : u.1 + (uM μ').cells ≤ (uM μ).cells ∧ u.2 + (uM μ').slots ≤ (uM μ).slots) (hn : As.length = n) (hst : As.reverse ++ st = st0) (hrest : (st.map fun v => v.category).sum ≤ 8) (hu : (u.1 + (uM μ').cells, u.2 + (uM μ').slots) = u') (kk : zW μ op u' M1 q L (st) Φ) : zW μ op u M pc L st0 Φ := by
  subst hu
  exact zr_callS hc (fun E M' e => by cases e.1) d eq hH' hb hd hR hf hn hst hrest (fun r M' e => by
    obtain ⟨e1, e2⟩ := e
    cases e1; subst e2; exact kk)
theorem zr_callSNV {idx n : Nat} {As : List Value} {u' : Nat × Nat} {r1 : Unit} {M1 : zM} (hc : zMet μ' false M As (zE (oV r1) M1)) (d : decode (uC μ) pc = .ok (.invokestatic idx, 3)) (eq : pc + 3 = q) (hH' : uH μ' = []) (hnl : ((uY μ).cls, idx, uY μ', RX9) ∈ zNl) (hb : Cond.code (uY μ') (uC μ') (uL μ') (uR μ') ∈ zBig ∧ Cond.static (uY μ') ∈ zBig ∧ Cond.initialized (uY μ').cls ∈ zBig) (hd : (uY μ').cls ≠ "java/lang/invoke/MethodHandle" ∧ (uY μ').cls ≠ "java/lang/invoke/VarHandle" ∧ (parseMethodDescriptor (uY μ').desc).map (fun d => d.parameters.length) = some n) (hR : (uM μ').frames + 1 ≤ (uM μ).frames ∧ 8 + (uL μ' + 11) + (uM μ').locals ≤ (uM μ).locals) (hf : u.1 + (uM μ').cells ≤ (uM μ).cells ∧ u.2 + (uM μ').slots ≤ (uM μ).slots) (hn : As.length = n) (hst : As.reverse ++ st = st0) (hrest : (st.map fun v => v.category).sum ≤ 8) (hu : (u.1 + (uM μ').cells, u.2 + (uM μ').slots) = u') (kk : zW μ op u' M1 q L (st) Φ) : zW μ op u M pc L st0 Φ := by
  subst hu
  exact zr_callSN hc (fun E M' e => by cases e.1) d eq hH' hnl hb hd hR hf hn hst hrest (fun r M' e => by
    obtain ⟨e1, e2⟩ := e
    cases e1; subst e2; exact kk)
theorem zr_callVX {T : u_T} {N ci a idx n : Nat} {As : List Value} {u' : Nat × Nat} {E : String} {M1 : zM} (hc : zMet μ' false M (.ref a :: As) (zE (.inr E) M1)) (d : decode (uC μ) pc = .ok (.invokevirtual idx, 3)) (eq : pc + 3 = q) (hH' : uH μ' = []) (hb : Cond.code (uY μ') (uC μ') (uL μ') (uR μ') ∈ zBig ∧ Cond.methodLink (uY μ).cls idx (uY μ') ∈ zBig ∧ Cond.instanceMethod (uY μ') ∈ zBig ∧ Cond.selects (uY μ').cls (uY μ') (uY μ') ∈ zBig ∧ Cond.initialized (uY μ').cls ∈ zBig) (hd : (uY μ').cls ≠ "java/lang/invoke/MethodHandle" ∧ (uY μ').cls ≠ "java/lang/invoke/VarHandle" ∧ (parseMethodDescriptor (uY μ').desc).map (fun d => d.parameters.length) = some n) (hR : (uM μ').frames + 1 ≤ (uM μ).frames ∧ 8 + (uL μ' + 11) + (uM μ').locals ≤ (uM μ).locals) (hf : u.1 + (uM μ').cells ≤ (uM μ).cells ∧ u.2 + (uM μ').slots ≤ (uM μ).slots) (hk : mK M a = ci) (h11 : ci < 11) (hci : vwCl[ci]? = some ((uY μ').cls, T, N)) (hn : As.length = n) (hst : As.reverse ++ .ref a :: st = st0) (hrest : (st.map fun v => v.category).sum ≤ 8) (hH : uH μ = []) (hu : (u.1 + (uM μ').cells, u.2 + (uM μ').slots) = u') (kk : Φ (.inr E) M1) : zW μ op u M pc L st0 Φ := by
  exact zr_callV hc d eq hH' hb hd hR hf hk h11 hci hn hst hrest hH (fun E9 M' e => by
    obtain ⟨e1, e2⟩ := e
    cases e1; subst e2; exact kk) (fun r M' e => by cases e.1)
/-! ends -/
theorem zr_ireturn {v : Int32} (d : decode (uC μ) pc = .ok (.ireturn, 1)) (hr : uR μ = some .int) (hu : u.1 ≤ (uM μ).cells ∧ u.2 ≤ (uM μ).slots) (h : Φ (.inl (some (.int v))) M) : zW μ op u M pc L [.int v] Φ := by
  intro D cy base p l e s m args below meth c C0 H locs ls hM hS hl
  obtain ⟨hx, hbc, hml, hown, hts, hG, hlocks, hrt, hlt, htab, hnm, hop⟩ := id C0
  exact W.widen hu.1 hu.2 (vx_ret (W.iret (v := v) hx hbc (hrt.trans hr) (fun t ht hW => ⟨some (.int v), M, rfl, h, by rw [ht]; exact hM, hS.F ht⟩) hS.2.2 d hlocks))
theorem zr_zreturn {v : Int32} (d : decode (uC μ) pc = .ok (.ireturn, 1)) (hr : uR μ = some .boolean) (hv : v = 0 ∨ v = 1) (hu : u.1 ≤ (uM μ).cells ∧ u.2 ≤ (uM μ).slots) (h : Φ (.inl (some (.int v))) M) : zW μ op u M pc L [.int v] Φ := by
  intro D cy base p l e s m args below meth c C0 H locs ls hM hS hl
  obtain ⟨hx, hbc, hml, hown, hts, hG, hlocks, hrt, hlt, htab, hnm, hop⟩ := id C0
  exact W.widen hu.1 hu.2 (vx_ret (W.zret (v := v) hx hbc (hrt.trans hr) (by rcases hv with rfl | rfl <;> rfl) (fun t ht hW => ⟨some (.int v), M, rfl, h, by rw [ht]; exact hM, hS.F ht⟩) hS.2.2 d hlocks))
theorem zr_lreturn {v : Int64} (d : decode (uC μ) pc = .ok (.lreturn, 1)) (hr : uR μ = some .long) (hu : u.1 ≤ (uM μ).cells ∧ u.2 ≤ (uM μ).slots) (h : Φ (.inl (some (.long v))) M) : zW μ op u M pc L [.long v] Φ := by
  intro D cy base p l e s m args below meth c C0 H locs ls hM hS hl
  obtain ⟨hx, hbc, hml, hown, hts, hG, hlocks, hrt, hlt, htab, hnm, hop⟩ := id C0
  exact W.widen hu.1 hu.2 (vx_ret (W.lret (v := v) hx hbc (hrt.trans hr) (fun t ht hW => ⟨some (.long v), M, rfl, h, by rw [ht]; exact hM, hS.F ht⟩) hS.2.2 d hlocks))
theorem zr_areturn {v : Nat} {C : String} (d : decode (uC μ) pc = .ok (.areturn, 1)) (hr : uR μ = some (.object C)) (hu : u.1 ≤ (uM μ).cells ∧ u.2 ≤ (uM μ).slots) (h : Φ (.inl (some (.ref v))) M) : zW μ op u M pc L [.ref v] Φ := by
  intro D cy base p l e s m args below meth c C0 H locs ls hM hS hl
  obtain ⟨hx, hbc, hml, hown, hts, hG, hlocks, hrt, hlt, htab, hnm, hop⟩ := id C0
  exact W.widen hu.1 hu.2 (vx_ret (W.aret (v := .ref (zad base v)) hx hbc (hrt.trans hr) (Or.inl ⟨C, rfl⟩) (Or.inr ⟨_, rfl⟩) (fun t ht hW => ⟨some (.ref v), M, rfl, h, by rw [ht]; exact hM, hS.F ht⟩) hS.2.2 d hlocks))
theorem zr_return (d : decode (uC μ) pc = .ok (.return_, 1)) (hr : uR μ = none) (hu : u.1 ≤ (uM μ).cells ∧ u.2 ≤ (uM μ).slots) (h : Φ (.inl none) M) : zW μ op u M pc L [] Φ := by
  intro D cy base p l e s m args below meth c C0 H locs ls hM hS hl
  obtain ⟨hx, hbc, hml, hown, hts, hG, hlocks, hrt, hlt, htab, hnm, hop⟩ := id C0
  exact W.widen hu.1 hu.2 (vx_ret (W.vret hx hbc (hrt.trans hr) (fun t ht hW => ⟨none, M, rfl, h, by rw [ht]; exact hM, hS.F ht⟩) hS.2.2 d hlocks))
end ZCALLS
