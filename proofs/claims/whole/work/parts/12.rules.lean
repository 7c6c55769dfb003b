/-! A RULE OF THE JUDGEMENT for each kind of instruction. Written by program (wip/mk_rules.py). -/
section ZRULES
def jushr (x : Int64) (y : Int32) : Int64 := (x.toUInt64 >>> (y.toInt64.toUInt64 &&& Int64.toUInt64 63)).toInt64
def jshr (x : Int64) (y : Int32) : Int64 := x >>> (y.toInt64 &&& 63)
def jshl (x : Int64) (y : Int32) : Int64 := x <<< (y.toInt64 &&& 63)
def zin (i : Int32) (n : Nat) : Bool := decide (¬ (i < 0 ∨ n ≤ i.toNatClampNeg))
theorem zin_in {i : Int32} {n : Nat} (h : zin i n = true) : vp_in i n := show ¬ (i < 0 ∨ n ≤ i.toNatClampNeg) from of_decide_eq_true h
theorem zin_nI {j n : Nat} (h : j < n) (hn : n < 2 ^ 31) : zin (nI j) n = true := decide_eq_true (show ¬ (nI j < 0 ∨ n ≤ (nI j).toNatClampNeg) from vp_in_nI h hn)
theorem zl_at {base : zB} {ls : Array Slot} {n : Nat} {L : List (Nat × Value)} (h : lv_has ls n (zl base L)) {k i : Nat} {v : Value} (hk : L[k]? = some (i, v)) : ls[i]? = some (.val (zv base v)) :=
  lv_at h k (by simp [zl, hk])
theorem zl_st1 (base : zB) (L : List (Nat × Value)) (i : Nat) (v : Value) : (i, zv base v) :: (zl base L).filter (fun q => !(q.1 == i) && !(q.1 + 1 == i && q.2.category == 2)) = zl base ((i, v) :: L.filter (fun q => !(q.1 == i) && !(q.1 + 1 == i && q.2.category == 2))) := by
  simp only [zl, List.map_cons, List.filter_map, Function.comp_def, zv_cat]
theorem zl_st2 (base : zB) (L : List (Nat × Value)) (i : Nat) (v : Value) : (i, zv base v) :: (zl base L).filter (fun q => !(q.1 == i) && (!(q.1 == i + 1) && !(q.1 + 1 == i && q.2.category == 2))) = zl base ((i, v) :: L.filter (fun q => !(q.1 == i) && (!(q.1 == i + 1) && !(q.1 + 1 == i && q.2.category == 2)))) := by
  simp only [zl, List.map_cons, List.filter_map, Function.comp_def, zv_cat]
theorem zv_rf (base : zB) (x : Option Nat) : zv base (va_rf x) = va_rf (x.map (fun r => zad base r)) := by cases x <;> rfl
variable {μ : zMu} {op : Option Nat} {u : Nat × Nat} {M : zM} {pc q : Nat} {L : List (Nat × Value)} {st : List Value} {Φ : zPhi}
theorem zr_iconst {n : Int} {v : Int32} (d : decode (uC μ) pc = .ok (.iconst n, 1)) (eq : pc + 1 = q) (hv : Int32.ofInt n = v) (k : zW μ op u M q L (.int v :: st) Φ) : zW μ op u M pc L (st) Φ := by
  subst eq
  intro D cy base p l e s m args below meth c C H locs ls hM hS hl
  exact lv_iconst C.1 C.2.1 d hv (k D cy base p l e s m args below meth c C H locs ls hM hS hl)
theorem zr_bipush {n : Int} {v : Int32} (d : decode (uC μ) pc = .ok (.bipush n, 2)) (eq : pc + 2 = q) (hv : (Int8.ofInt n).toInt32 = v) (k : zW μ op u M q L (.int v :: st) Φ) : zW μ op u M pc L (st) Φ := by
  subst eq
  intro D cy base p l e s m args below meth c C H locs ls hM hS hl
  exact lv_bipush C.1 C.2.1 d hv (k D cy base p l e s m args below meth c C H locs ls hM hS hl)
theorem zr_sipush {n : Int} {v : Int32} (d : decode (uC μ) pc = .ok (.sipush n, 3)) (eq : pc + 3 = q) (hv : (Int16.ofInt n).toInt32 = v) (k : zW μ op u M q L (.int v :: st) Φ) : zW μ op u M pc L (st) Φ := by
  subst eq
  intro D cy base p l e s m args below meth c C H locs ls hM hS hl
  exact lv_sipush C.1 C.2.1 d hv (k D cy base p l e s m args below meth c C H locs ls hM hS hl)
theorem zr_lconst {n : Fin 2} {v : Int64} (d : decode (uC μ) pc = .ok (.lconst n, 1)) (eq : pc + 1 = q) (hv : Int64.ofNat (n : Nat) = v) (k : zW μ op u M q L (.long v :: st) Φ) : zW μ op u M pc L (st) Φ := by
  subst eq
  intro D cy base p l e s m args below meth c C H locs ls hM hS hl
  exact lv_lconst C.1 C.2.1 d hv (k D cy base p l e s m args below meth c C H locs ls hM hS hl)
theorem zr_ldc {idx : Nat} {v : Int32} (d : decode (uC μ) pc = .ok (.ldc idx, 2)) (eq : pc + 2 = q) (hw : Jvm.Cond.constant (uY μ).cls idx v ∈ zBig) (k : zW μ op u M q L (.int v :: st) Φ) : zW μ op u M pc L st Φ := by
  subst eq
  intro D cy base p l e s m args below meth c C H locs ls hM hS hl
  exact lv_ldc C.1 C.2.1 C.2.2.2.1 (C.2.2.2.2.1 _ hw) d (k D cy base p l e s m args below meth c C H locs ls hM hS hl)
theorem zr_ldc2 {idx : Nat} {v : Int64} (d : decode (uC μ) pc = .ok (.ldc2_w idx, 3)) (eq : pc + 3 = q) (hw : Jvm.Cond.constantLong (uY μ).cls idx v ∈ zBig) (k : zW μ op u M q L (.long v :: st) Φ) : zW μ op u M pc L st Φ := by
  subst eq
  intro D cy base p l e s m args below meth c C H locs ls hM hS hl
  exact lv_ldc2 C.1 C.2.1 C.2.2.2.1 (C.2.2.2.2.1 _ hw) d (k D cy base p l e s m args below meth c C H locs ls hM hS hl)
theorem zr_iload {i : Nat} {x : Int32} (d : decode (uC μ) pc = .ok (.iload i, 2)) (eq : pc + 2 = q) (j : Nat) (hj : L[j]? = some (i, .int x)) (k : zW μ op u M q L (.int x :: st) Φ) : zW μ op u M pc L st Φ := by
  subst eq
  intro D cy base p l e s m args below meth c C H locs ls hM hS hl
  exact lv_iload C.1 C.2.1 d (zl_at hl hj) (k D cy base p l e s m args below meth c C H locs ls hM hS hl)
theorem zr_iload_n {f : Fin 4} {i : Nat} {x : Int32} (d : decode (uC μ) pc = .ok (.iload_n f, 1)) (eq : pc + 1 = q) (hi : (f : Nat) = i) (j : Nat) (hj : L[j]? = some (i, .int x)) (k : zW μ op u M q L (.int x :: st) Φ) : zW μ op u M pc L st Φ := by
  subst eq
  intro D cy base p l e s m args below meth c C H locs ls hM hS hl
  exact lv_iload_n C.1 C.2.1 d hi (zl_at hl hj) (k D cy base p l e s m args below meth c C H locs ls hM hS hl)
theorem zr_lload {i : Nat} {x : Int64} (d : decode (uC μ) pc = .ok (.lload i, 2)) (eq : pc + 2 = q) (j : Nat) (hj : L[j]? = some (i, .long x)) (k : zW μ op u M q L (.long x :: st) Φ) : zW μ op u M pc L st Φ := by
  subst eq
  intro D cy base p l e s m args below meth c C H locs ls hM hS hl
  exact lv_lload C.1 C.2.1 d (zl_at hl hj) (k D cy base p l e s m args below meth c C H locs ls hM hS hl)
theorem zr_lload_n {f : Fin 4} {i : Nat} {x : Int64} (d : decode (uC μ) pc = .ok (.lload_n f, 1)) (eq : pc + 1 = q) (hi : (f : Nat) = i) (j : Nat) (hj : L[j]? = some (i, .long x)) (k : zW μ op u M q L (.long x :: st) Φ) : zW μ op u M pc L st Φ := by
  subst eq
  intro D cy base p l e s m args below meth c C H locs ls hM hS hl
  exact lv_lload_n C.1 C.2.1 d hi (zl_at hl hj) (k D cy base p l e s m args below meth c C H locs ls hM hS hl)
theorem zr_aload {i : Nat} {x : Nat} (d : decode (uC μ) pc = .ok (.aload i, 2)) (eq : pc + 2 = q) (j : Nat) (hj : L[j]? = some (i, .ref x)) (k : zW μ op u M q L (.ref x :: st) Φ) : zW μ op u M pc L st Φ := by
  subst eq
  intro D cy base p l e s m args below meth c C H locs ls hM hS hl
  exact lv_aload C.1 C.2.1 d (zl_at hl hj) (k D cy base p l e s m args below meth c C H locs ls hM hS hl)
theorem zr_aload_n {f : Fin 4} {i : Nat} {x : Nat} (d : decode (uC μ) pc = .ok (.aload_n f, 1)) (eq : pc + 1 = q) (hi : (f : Nat) = i) (j : Nat) (hj : L[j]? = some (i, .ref x)) (k : zW μ op u M q L (.ref x :: st) Φ) : zW μ op u M pc L st Φ := by
  subst eq
  intro D cy base p l e s m args below meth c C H locs ls hM hS hl
  exact lv_aload_n C.1 C.2.1 d hi (zl_at hl hj) (k D cy base p l e s m args below meth c C H locs ls hM hS hl)
theorem zr_istore {i : Nat} {x : Int32} {L' : List (Nat × Value)} (d : decode (uC μ) pc = .ok (.istore i, 2)) (eq : pc + 2 = q) (hn : i < uL μ) (hL : (i, Value.int x) :: L.filter (fun q => !(q.1 == i) && !(q.1 + 1 == i && q.2.category == 2)) = L') (k : zW μ op u M q L' st Φ) : zW μ op u M pc L (.int x :: st) Φ := by
  subst eq
  subst hL
  intro D cy base p l e s m args below meth c C H locs ls hM hS hl
  exact lv_istore C.1 C.2.1 d hl hn (zl_st1 base L i (Value.int x)) (fun ls' hl' => k D cy base p l e s m args below meth c C H locs ls' hM hS hl')
theorem zr_istore_n {f : Fin 4} {i : Nat} {x : Int32} {L' : List (Nat × Value)} (d : decode (uC μ) pc = .ok (.istore_n f, 1)) (eq : pc + 1 = q) (hi : (f : Nat) = i) (hn : i < uL μ) (hL : (i, Value.int x) :: L.filter (fun q => !(q.1 == i) && !(q.1 + 1 == i && q.2.category == 2)) = L') (k : zW μ op u M q L' st Φ) : zW μ op u M pc L (.int x :: st) Φ := by
  subst eq
  subst hL
  intro D cy base p l e s m args below meth c C H locs ls hM hS hl
  exact lv_istore_n C.1 C.2.1 d hi hl hn (zl_st1 base L i (Value.int x)) (fun ls' hl' => k D cy base p l e s m args below meth c C H locs ls' hM hS hl')
theorem zr_astore {i : Nat} {x : Nat} {L' : List (Nat × Value)} (d : decode (uC μ) pc = .ok (.astore i, 2)) (eq : pc + 2 = q) (hn : i < uL μ) (hL : (i, Value.ref x) :: L.filter (fun q => !(q.1 == i) && !(q.1 + 1 == i && q.2.category == 2)) = L') (k : zW μ op u M q L' st Φ) : zW μ op u M pc L (.ref x :: st) Φ := by
  subst eq
  subst hL
  intro D cy base p l e s m args below meth c C H locs ls hM hS hl
  exact lv_astore C.1 C.2.1 d hl hn (zl_st1 base L i (Value.ref x)) (fun ls' hl' => k D cy base p l e s m args below meth c C H locs ls' hM hS hl')
theorem zr_astore_n {f : Fin 4} {i : Nat} {x : Nat} {L' : List (Nat × Value)} (d : decode (uC μ) pc = .ok (.astore_n f, 1)) (eq : pc + 1 = q) (hi : (f : Nat) = i) (hn : i < uL μ) (hL : (i, Value.ref x) :: L.filter (fun q => !(q.1 == i) && !(q.1 + 1 == i && q.2.category == 2)) = L') (k : zW μ op u M q L' st Φ) : zW μ op u M pc L (.ref x :: st) Φ := by
  subst eq
  subst hL
  intro D cy base p l e s m args below meth c C H locs ls hM hS hl
  exact lv_astore_n C.1 C.2.1 d hi hl hn (zl_st1 base L i (Value.ref x)) (fun ls' hl' => k D cy base p l e s m args below meth c C H locs ls' hM hS hl')
theorem zr_lstore {i : Nat} {x : Int64} {L' : List (Nat × Value)} (d : decode (uC μ) pc = .ok (.lstore i, 2)) (eq : pc + 2 = q) (hn : i + 1 < uL μ) (hL : (i, Value.long x) :: L.filter (fun q => !(q.1 == i) && (!(q.1 == i + 1) && !(q.1 + 1 == i && q.2.category == 2))) = L') (k : zW μ op u M q L' st Φ) : zW μ op u M pc L (.long x :: st) Φ := by
  subst eq
  subst hL
  intro D cy base p l e s m args below meth c C H locs ls hM hS hl
  exact lv_lstore C.1 C.2.1 d hl hn (zl_st2 base L i (Value.long x)) (fun ls' hl' => k D cy base p l e s m args below meth c C H locs ls' hM hS hl')
theorem zr_lstore_n {f : Fin 4} {i : Nat} {x : Int64} {L' : List (Nat × Value)} (d : decode (uC μ) pc = .ok (.lstore_n f, 1)) (eq : pc + 1 = q) (hi : (f : Nat) = i) (hn : i + 1 < uL μ) (hL : (i, Value.long x) :: L.filter (fun q => !(q.1 == i) && (!(q.1 == i + 1) && !(q.1 + 1 == i && q.2.category == 2))) = L') (k : zW μ op u M q L' st Φ) : zW μ op u M pc L (.long x :: st) Φ := by
  subst eq
  subst hL
  intro D cy base p l e s m args below meth c C H locs ls hM hS hl
  exact lv_lstore_n C.1 C.2.1 d hi hl hn (zl_st2 base L i (Value.long x)) (fun ls' hl' => k D cy base p l e s m args below meth c C H locs ls' hM hS hl')
theorem zr_iinc {i : Nat} {n : Int} {x v : Int32} {L' : List (Nat × Value)} (d : decode (uC μ) pc = .ok (.iinc i n, 3)) (eq : pc + 3 = q) (j : Nat) (hj : L[j]? = some (i, .int x)) (hv : x + Int32.ofInt n = v) (hn : i < uL μ) (hL : (i, Value.int v) :: L.filter (fun q => !(q.1 == i) && !(q.1 + 1 == i && q.2.category == 2)) = L') (k : zW μ op u M q L' st Φ) : zW μ op u M pc L st Φ := by
  subst eq
  subst hL
  intro D cy base p l e s m args below meth c C H locs ls hM hS hl
  exact lv_iinc (k := j) C.1 C.2.1 d hl (by simp [zl, hj]; rfl) hv hn (zl_st1 base L i (Value.int v)) (fun ls' hl' => k D cy base p l e s m args below meth c C H locs ls' hM hS hl')
theorem zr_iadd {x y : Int32} (d : decode (uC μ) pc = .ok (.iadd, 1)) (eq : pc + 1 = q) (k : zW μ op u M q L (.int (x + y) :: st) Φ) : zW μ op u M pc L (.int y :: .int x :: st) Φ := by
  subst eq
  intro D cy base p l e s m args below meth c C H locs ls hM hS hl
  exact lv_iadd C.1 C.2.1 d (k D cy base p l e s m args below meth c C H locs ls hM hS hl)
theorem zr_isub {x y : Int32} (d : decode (uC μ) pc = .ok (.isub, 1)) (eq : pc + 1 = q) (k : zW μ op u M q L (.int (x - y) :: st) Φ) : zW μ op u M pc L (.int y :: .int x :: st) Φ := by
  subst eq
  intro D cy base p l e s m args below meth c C H locs ls hM hS hl
  exact lv_isub C.1 C.2.1 d (k D cy base p l e s m args below meth c C H locs ls hM hS hl)
theorem zr_imul {x y : Int32} (d : decode (uC μ) pc = .ok (.imul, 1)) (eq : pc + 1 = q) (k : zW μ op u M q L (.int (x * y) :: st) Φ) : zW μ op u M pc L (.int y :: .int x :: st) Φ := by
  subst eq
  intro D cy base p l e s m args below meth c C H locs ls hM hS hl
  exact lv_imul C.1 C.2.1 d (k D cy base p l e s m args below meth c C H locs ls hM hS hl)
theorem zr_iand {x y : Int32} (d : decode (uC μ) pc = .ok (.iand, 1)) (eq : pc + 1 = q) (k : zW μ op u M q L (.int (x &&& y) :: st) Φ) : zW μ op u M pc L (.int y :: .int x :: st) Φ := by
  subst eq
  intro D cy base p l e s m args below meth c C H locs ls hM hS hl
  exact lv_iand C.1 C.2.1 d (k D cy base p l e s m args below meth c C H locs ls hM hS hl)
theorem zr_idiv {x y : Int32} (d : decode (uC μ) pc = .ok (.idiv, 1)) (eq : pc + 1 = q) (hne : ¬ y = 0) (k : zW μ op u M q L (.int (x / y) :: st) Φ) : zW μ op u M pc L (.int y :: .int x :: st) Φ := by
  subst eq
  intro D cy base p l e s m args below meth c C H locs ls hM hS hl
  exact lv_idiv C.1 C.2.1 d hne (k D cy base p l e s m args below meth c C H locs ls hM hS hl)
theorem zr_irem {x y : Int32} (d : decode (uC μ) pc = .ok (.irem, 1)) (eq : pc + 1 = q) (hne : ¬ y = 0) (k : zW μ op u M q L (.int (x - x / y * y) :: st) Φ) : zW μ op u M pc L (.int y :: .int x :: st) Φ := by
  subst eq
  intro D cy base p l e s m args below meth c C H locs ls hM hS hl
  exact lv_irem C.1 C.2.1 d hne (k D cy base p l e s m args below meth c C H locs ls hM hS hl)
theorem zr_ladd {x y : Int64} (d : decode (uC μ) pc = .ok (.ladd, 1)) (eq : pc + 1 = q) (k : zW μ op u M q L (.long (x + y) :: st) Φ) : zW μ op u M pc L (.long y :: .long x :: st) Φ := by
  subst eq
  intro D cy base p l e s m args below meth c C H locs ls hM hS hl
  exact lv_ladd C.1 C.2.1 d (k D cy base p l e s m args below meth c C H locs ls hM hS hl)
theorem zr_lsub {x y : Int64} (d : decode (uC μ) pc = .ok (.lsub, 1)) (eq : pc + 1 = q) (k : zW μ op u M q L (.long (x - y) :: st) Φ) : zW μ op u M pc L (.long y :: .long x :: st) Φ := by
  subst eq
  intro D cy base p l e s m args below meth c C H locs ls hM hS hl
  exact lv_lsub C.1 C.2.1 d (k D cy base p l e s m args below meth c C H locs ls hM hS hl)
theorem zr_lmul {x y : Int64} (d : decode (uC μ) pc = .ok (.lmul, 1)) (eq : pc + 1 = q) (k : zW μ op u M q L (.long (x * y) :: st) Φ) : zW μ op u M pc L (.long y :: .long x :: st) Φ := by
  subst eq
  intro D cy base p l e s m args below meth c C H locs ls hM hS hl
  exact lv_lmul C.1 C.2.1 d (k D cy base p l e s m args below meth c C H locs ls hM hS hl)
theorem zr_land {x y : Int64} (d : decode (uC μ) pc = .ok (.land, 1)) (eq : pc + 1 = q) (k : zW μ op u M q L (.long (x &&& y) :: st) Φ) : zW μ op u M pc L (.long y :: .long x :: st) Φ := by
  subst eq
  intro D cy base p l e s m args below meth c C H locs ls hM hS hl
  exact lv_land C.1 C.2.1 d (k D cy base p l e s m args below meth c C H locs ls hM hS hl)
theorem zr_lor {x y : Int64} (d : decode (uC μ) pc = .ok (.lor, 1)) (eq : pc + 1 = q) (k : zW μ op u M q L (.long (x ||| y) :: st) Φ) : zW μ op u M pc L (.long y :: .long x :: st) Φ := by
  subst eq
  intro D cy base p l e s m args below meth c C H locs ls hM hS hl
  exact lv_lor C.1 C.2.1 d (k D cy base p l e s m args below meth c C H locs ls hM hS hl)
theorem zr_lxor {x y : Int64} (d : decode (uC μ) pc = .ok (.lxor, 1)) (eq : pc + 1 = q) (k : zW μ op u M q L (.long (x ^^^ y) :: st) Φ) : zW μ op u M pc L (.long y :: .long x :: st) Φ := by
  subst eq
  intro D cy base p l e s m args below meth c C H locs ls hM hS hl
  exact lv_lxor C.1 C.2.1 d (k D cy base p l e s m args below meth c C H locs ls hM hS hl)
theorem zr_lushr {x : Int64} {y : Int32} (d : decode (uC μ) pc = .ok (.lushr, 1)) (eq : pc + 1 = q) (k : zW μ op u M q L (.long (jushr x y) :: st) Φ) : zW μ op u M pc L (.int y :: .long x :: st) Φ := by
  subst eq
  intro D cy base p l e s m args below meth c C H locs ls hM hS hl
  exact lv_lushr C.1 C.2.1 d rfl (k D cy base p l e s m args below meth c C H locs ls hM hS hl)
theorem zr_lshr {x : Int64} {y : Int32} (d : decode (uC μ) pc = .ok (.lshr, 1)) (eq : pc + 1 = q) (k : zW μ op u M q L (.long (jshr x y) :: st) Φ) : zW μ op u M pc L (.int y :: .long x :: st) Φ := by
  subst eq
  intro D cy base p l e s m args below meth c C H locs ls hM hS hl
  exact lv_lshr C.1 C.2.1 d rfl (k D cy base p l e s m args below meth c C H locs ls hM hS hl)
theorem zr_lshl {x : Int64} {y : Int32} (d : decode (uC μ) pc = .ok (.lshl, 1)) (eq : pc + 1 = q) (k : zW μ op u M q L (.long (jshl x y) :: st) Φ) : zW μ op u M pc L (.int y :: .long x :: st) Φ := by
  subst eq
  intro D cy base p l e s m args below meth c C H locs ls hM hS hl
  exact lv_lshl C.1 C.2.1 d rfl (k D cy base p l e s m args below meth c C H locs ls hM hS hl)
theorem zr_i2l {x : Int32} (d : decode (uC μ) pc = .ok (.i2l, 1)) (eq : pc + 1 = q) (k : zW μ op u M q L (.long x.toInt64 :: st) Φ) : zW μ op u M pc L (.int x :: st) Φ := by
  subst eq
  intro D cy base p l e s m args below meth c C H locs ls hM hS hl
  exact lv_i2l C.1 C.2.1 d rfl (k D cy base p l e s m args below meth c C H locs ls hM hS hl)
theorem zr_l2i {x : Int64} (d : decode (uC μ) pc = .ok (.l2i, 1)) (eq : pc + 1 = q) (k : zW μ op u M q L (.int x.toInt32 :: st) Φ) : zW μ op u M pc L (.long x :: st) Φ := by
  subst eq
  intro D cy base p l e s m args below meth c C H locs ls hM hS hl
  exact lv_l2i C.1 C.2.1 d rfl (k D cy base p l e s m args below meth c C H locs ls hM hS hl)
theorem zr_lcmp {x y : Int64} (d : decode (uC μ) pc = .ok (.lcmp, 1)) (eq : pc + 1 = q) (k : zW μ op u M q L (.int (lg_cmp x y) :: st) Φ) : zW μ op u M pc L (.long y :: .long x :: st) Φ := by
  subst eq
  intro D cy base p l e s m args below meth c C H locs ls hM hS hl
  exact W.lcmp C.1 C.2.1 d (k D cy base p l e s m args below meth c C H locs ls hM hS hl)
theorem zr_dup {v : Value} (d : decode (uC μ) pc = .ok (.dup, 1)) (eq : pc + 1 = q) (hv : v.category = 1) (k : zW μ op u M q L (v :: v :: st) Φ) : zW μ op u M pc L (v :: st) Φ := by
  subst eq
  intro D cy base p l e s m args below meth c C H locs ls hM hS hl
  exact lv_dup C.1 C.2.1 d ((zv_cat base v).trans hv) (k D cy base p l e s m args below meth c C H locs ls hM hS hl)
theorem zr_pop {v : Value} (d : decode (uC μ) pc = .ok (.pop, 1)) (eq : pc + 1 = q) (hv : v.category = 1) (k : zW μ op u M q L (st) Φ) : zW μ op u M pc L (v :: st) Φ := by
  subst eq
  intro D cy base p l e s m args below meth c C H locs ls hM hS hl
  exact lv_pop C.1 C.2.1 d ((zv_cat base v).trans hv) (k D cy base p l e s m args below meth c C H locs ls hM hS hl)
theorem zr_dup2 {v w : Value} (d : decode (uC μ) pc = .ok (.dup2, 1)) (eq : pc + 1 = q) (hv : v.category = 1) (hw : w.category = 1) (k : zW μ op u M q L (v :: w :: v :: w :: st) Φ) : zW μ op u M pc L (v :: w :: st) Φ := by
  subst eq
  intro D cy base p l e s m args below meth c C H locs ls hM hS hl
  exact lv_dup2_11 C.1 C.2.1 d ((zv_cat base v).trans hv) ((zv_cat base w).trans hw) (k D cy base p l e s m args below meth c C H locs ls hM hS hl)
theorem zr_goto {off : Int} (d : decode (uC μ) pc = .ok (.goto off, 3)) (ht : (pc : Int) + off = (q : Int)) (k : zW μ op u M q L st Φ) : zW μ op u M pc L st Φ := by
  intro D cy base p l e s m args below meth c C H locs ls hM hS hl
  exact lv_goto C.1 C.2.1 d ht (k D cy base p l e s m args below meth c C H locs ls hM hS hl)
theorem zr_icmp_eq {x y : Int32} {off : Int} {tgt : Nat} (d : decode (uC μ) pc = .ok (.if_icmp .eq off, 3)) (eq : pc + 3 = q) (ht : (pc : Int) + off = (tgt : Int)) (kt : x = y → zW μ op u M tgt L st Φ) (kf : ¬ (x = y) → zW μ op u M q L st Φ) : zW μ op u M pc L (.int y :: .int x :: st) Φ := by
  subst eq
  intro D cy base p l e s m args below meth c C H locs ls hM hS hl
  exact lv_icmp_eq C.1 C.2.1 d ht (fun hc => kt hc D cy base p l e s m args below meth c C H locs ls hM hS hl) (fun hc => kf hc D cy base p l e s m args below meth c C H locs ls hM hS hl)
theorem zr_if_eq {x : Int32} {off : Int} {tgt : Nat} (d : decode (uC μ) pc = .ok (.ifCond .eq off, 3)) (eq : pc + 3 = q) (ht : (pc : Int) + off = (tgt : Int)) (kt : x = 0 → zW μ op u M tgt L st Φ) (kf : ¬ (x = 0) → zW μ op u M q L st Φ) : zW μ op u M pc L (.int x :: st) Φ := by
  subst eq
  intro D cy base p l e s m args below meth c C H locs ls hM hS hl
  exact lv_if_eq C.1 C.2.1 d ht (fun hc => kt hc D cy base p l e s m args below meth c C H locs ls hM hS hl) (fun hc => kf hc D cy base p l e s m args below meth c C H locs ls hM hS hl)
theorem zr_icmp_ne {x y : Int32} {off : Int} {tgt : Nat} (d : decode (uC μ) pc = .ok (.if_icmp .ne off, 3)) (eq : pc + 3 = q) (ht : (pc : Int) + off = (tgt : Int)) (kt : ¬ x = y → zW μ op u M tgt L st Φ) (kf : x = y → zW μ op u M q L st Φ) : zW μ op u M pc L (.int y :: .int x :: st) Φ := by
  subst eq
  intro D cy base p l e s m args below meth c C H locs ls hM hS hl
  exact lv_icmp_ne C.1 C.2.1 d ht (fun hc => kt hc D cy base p l e s m args below meth c C H locs ls hM hS hl) (fun hc => kf hc D cy base p l e s m args below meth c C H locs ls hM hS hl)
theorem zr_if_ne {x : Int32} {off : Int} {tgt : Nat} (d : decode (uC μ) pc = .ok (.ifCond .ne off, 3)) (eq : pc + 3 = q) (ht : (pc : Int) + off = (tgt : Int)) (kt : ¬ x = 0 → zW μ op u M tgt L st Φ) (kf : x = 0 → zW μ op u M q L st Φ) : zW μ op u M pc L (.int x :: st) Φ := by
  subst eq
  intro D cy base p l e s m args below meth c C H locs ls hM hS hl
  exact lv_if_ne C.1 C.2.1 d ht (fun hc => kt hc D cy base p l e s m args below meth c C H locs ls hM hS hl) (fun hc => kf hc D cy base p l e s m args below meth c C H locs ls hM hS hl)
theorem zr_icmp_lt {x y : Int32} {off : Int} {tgt : Nat} (d : decode (uC μ) pc = .ok (.if_icmp .lt off, 3)) (eq : pc + 3 = q) (ht : (pc : Int) + off = (tgt : Int)) (kt : x < y → zW μ op u M tgt L st Φ) (kf : ¬ (x < y) → zW μ op u M q L st Φ) : zW μ op u M pc L (.int y :: .int x :: st) Φ := by
  subst eq
  intro D cy base p l e s m args below meth c C H locs ls hM hS hl
  exact lv_icmp_lt C.1 C.2.1 d ht (fun hc => kt hc D cy base p l e s m args below meth c C H locs ls hM hS hl) (fun hc => kf hc D cy base p l e s m args below meth c C H locs ls hM hS hl)
theorem zr_if_lt {x : Int32} {off : Int} {tgt : Nat} (d : decode (uC μ) pc = .ok (.ifCond .lt off, 3)) (eq : pc + 3 = q) (ht : (pc : Int) + off = (tgt : Int)) (kt : x < 0 → zW μ op u M tgt L st Φ) (kf : ¬ (x < 0) → zW μ op u M q L st Φ) : zW μ op u M pc L (.int x :: st) Φ := by
  subst eq
  intro D cy base p l e s m args below meth c C H locs ls hM hS hl
  exact lv_if_lt C.1 C.2.1 d ht (fun hc => kt hc D cy base p l e s m args below meth c C H locs ls hM hS hl) (fun hc => kf hc D cy base p l e s m args below meth c C H locs ls hM hS hl)
theorem zr_icmp_ge {x y : Int32} {off : Int} {tgt : Nat} (d : decode (uC μ) pc = .ok (.if_icmp .ge off, 3)) (eq : pc + 3 = q) (ht : (pc : Int) + off = (tgt : Int)) (kt : y ≤ x → zW μ op u M tgt L st Φ) (kf : ¬ (y ≤ x) → zW μ op u M q L st Φ) : zW μ op u M pc L (.int y :: .int x :: st) Φ := by
  subst eq
  intro D cy base p l e s m args below meth c C H locs ls hM hS hl
  exact lv_icmp_ge C.1 C.2.1 d ht (fun hc => kt hc D cy base p l e s m args below meth c C H locs ls hM hS hl) (fun hc => kf hc D cy base p l e s m args below meth c C H locs ls hM hS hl)
theorem zr_if_ge {x : Int32} {off : Int} {tgt : Nat} (d : decode (uC μ) pc = .ok (.ifCond .ge off, 3)) (eq : pc + 3 = q) (ht : (pc : Int) + off = (tgt : Int)) (kt : 0 ≤ x → zW μ op u M tgt L st Φ) (kf : ¬ (0 ≤ x) → zW μ op u M q L st Φ) : zW μ op u M pc L (.int x :: st) Φ := by
  subst eq
  intro D cy base p l e s m args below meth c C H locs ls hM hS hl
  exact lv_if_ge C.1 C.2.1 d ht (fun hc => kt hc D cy base p l e s m args below meth c C H locs ls hM hS hl) (fun hc => kf hc D cy base p l e s m args below meth c C H locs ls hM hS hl)
theorem zr_icmp_gt {x y : Int32} {off : Int} {tgt : Nat} (d : decode (uC μ) pc = .ok (.if_icmp .gt off, 3)) (eq : pc + 3 = q) (ht : (pc : Int) + off = (tgt : Int)) (kt : y < x → zW μ op u M tgt L st Φ) (kf : ¬ (y < x) → zW μ op u M q L st Φ) : zW μ op u M pc L (.int y :: .int x :: st) Φ := by
  subst eq
  intro D cy base p l e s m args below meth c C H locs ls hM hS hl
  exact lv_icmp_gt C.1 C.2.1 d ht (fun hc => kt hc D cy base p l e s m args below meth c C H locs ls hM hS hl) (fun hc => kf hc D cy base p l e s m args below meth c C H locs ls hM hS hl)
theorem zr_if_gt {x : Int32} {off : Int} {tgt : Nat} (d : decode (uC μ) pc = .ok (.ifCond .gt off, 3)) (eq : pc + 3 = q) (ht : (pc : Int) + off = (tgt : Int)) (kt : 0 < x → zW μ op u M tgt L st Φ) (kf : ¬ (0 < x) → zW μ op u M q L st Φ) : zW μ op u M pc L (.int x :: st) Φ := by
  subst eq
  intro D cy base p l e s m args below meth c C H locs ls hM hS hl
  exact lv_if_gt C.1 C.2.1 d ht (fun hc => kt hc D cy base p l e s m args below meth c C H locs ls hM hS hl) (fun hc => kf hc D cy base p l e s m args below meth c C H locs ls hM hS hl)
theorem zr_icmp_le {x y : Int32} {off : Int} {tgt : Nat} (d : decode (uC μ) pc = .ok (.if_icmp .le off, 3)) (eq : pc + 3 = q) (ht : (pc : Int) + off = (tgt : Int)) (kt : x ≤ y → zW μ op u M tgt L st Φ) (kf : ¬ (x ≤ y) → zW μ op u M q L st Φ) : zW μ op u M pc L (.int y :: .int x :: st) Φ := by
  subst eq
  intro D cy base p l e s m args below meth c C H locs ls hM hS hl
  exact lv_icmp_le C.1 C.2.1 d ht (fun hc => kt hc D cy base p l e s m args below meth c C H locs ls hM hS hl) (fun hc => kf hc D cy base p l e s m args below meth c C H locs ls hM hS hl)
theorem zr_if_le {x : Int32} {off : Int} {tgt : Nat} (d : decode (uC μ) pc = .ok (.ifCond .le off, 3)) (eq : pc + 3 = q) (ht : (pc : Int) + off = (tgt : Int)) (kt : x ≤ 0 → zW μ op u M tgt L st Φ) (kf : ¬ (x ≤ 0) → zW μ op u M q L st Φ) : zW μ op u M pc L (.int x :: st) Φ := by
  subst eq
  intro D cy base p l e s m args below meth c C H locs ls hM hS hl
  exact lv_if_le C.1 C.2.1 d ht (fun hc => kt hc D cy base p l e s m args below meth c C H locs ls hM hS hl) (fun hc => kf hc D cy base p l e s m args below meth c C H locs ls hM hS hl)
theorem zr_ifnonnull {x : Option Nat} {off : Int} {tgt : Nat} (d : decode (uC μ) pc = .ok (.ifnonnull off, 3)) (eq : pc + 3 = q) (ht : (pc : Int) + off = (tgt : Int)) (kt : ∀ b, x = some b → zW μ op u M tgt L st Φ) (kf : x = none → zW μ op u M q L st Φ) : zW μ op u M pc L (va_rf x :: st) Φ := by
  subst eq
  intro D cy base p l e s m args below meth c C H locs ls hM hS hl
  cases x with
  | none => exact lv_ifnonnullN C.1 C.2.1 d (kf rfl D cy base p l e s m args below meth c C H locs ls hM hS hl)
  | some b => exact lv_ifnonnull C.1 C.2.1 d ht (kt b rfl D cy base p l e s m args below meth c C H locs ls hM hS hl)
theorem zr_acmp_eq {x y : Option Nat} {off : Int} {tgt : Nat} (d : decode (uC μ) pc = .ok (.if_acmp .eq off, 3)) (eq : pc + 3 = q) (ht : (pc : Int) + off = (tgt : Int)) (kt : x = y → zW μ op u M tgt L st Φ) (kf : ¬ x = y → zW μ op u M q L st Φ) : zW μ op u M pc L (va_rf y :: va_rf x :: st) Φ := by
  subst eq
  intro D cy base p l e s m args below meth c C H locs ls hM hS hl
  have hinj : x.map (fun r => zad base r) = y.map (fun r => zad base r) → x = y := by
    cases x <;> cases y <;> simp
    exact zad_inj C.2.2.2.2.2.1.2.1.2.1
  have h := lv_acmp_eq (rx := x.map (fun r => zad base r)) (ry := y.map (fun r => zad base r)) (rest := st.map (zv base)) C.1 C.2.1 d ht (fun hc => kt (hinj hc) D cy base p l e s m args below meth c C H locs ls hM hS hl) (fun hc => kf (fun h => hc (by rw [h])) D cy base p l e s m args below meth c C H locs ls hM hS hl)
  rw [← zv_rf, ← zv_rf] at h
  exact h
theorem zr_lookup {dflt : Int} {ps : Array (Int × Int)} {len : Nat} {x : Int32} {off : Int} {tgt : Nat} (d : decode (uC μ) pc = .ok (.lookupswitch dflt ps, len)) (hp : (ps.toList.zip (ps.toList.drop 1)).all (fun (a, next) => a.1 < next.1) = true) (ho : Op.lookupswitch.offset ps.toList dflt x.toInt = off) (ht : (pc : Int) + off = (tgt : Int)) (k : zW μ op u M tgt L st Φ) : zW μ op u M pc L (.int x :: st) Φ := by
  intro D cy base p l e s m args below meth c C H locs ls hM hS hl
  exact lv_lookup C.1 C.2.1 d hp ho ht (k D cy base p l e s m args below meth c C H locs ls hM hS hl)
theorem zr_nmI {x y : Int32} (e : x = y) (k : zW μ op u M pc L (.int y :: st) Φ) : zW μ op u M pc L (.int x :: st) Φ := by rw [e]; exact k
theorem zr_nmL {x y : Int64} (e : x = y) (k : zW μ op u M pc L (.long y :: st) Φ) : zW μ op u M pc L (.long x :: st) Φ := by rw [e]; exact k
theorem zr_nmA {x y : Nat} (e : x = y) (k : zW μ op u M pc L (.ref y :: st) Φ) : zW μ op u M pc L (.ref x :: st) Φ := by rw [e]; exact k
theorem zr_mem {M1 : zM} (e : M = M1) (k : zW μ op u M1 pc L st Φ) : zW μ op u M pc L st Φ := by rw [e]; exact k
theorem zr_pick (ks : List Nat) {L' : List (Nat × Value)} (hL : lv_pick L ks = L') (k : zW μ op u M pc L' st Φ) : zW μ op u M pc L st Φ := by
  subst hL
  intro D cy base p l e s m args below meth c C H locs ls hM hS hl
  refine k D cy base p l e s m args below meth c C H locs ls hM hS (lv_sub hl ks ?_)
  simp only [lv_pick, zl, List.getElem?_map, List.map_filterMap]
def chk {α : Type} (b : Bool) (k : Option α) : Option α := bif b then k else none
def bnd {α β : Type} (x : Option α) (f : α → Option β) : Option β := match x with
  | some a => f a
  | none => none
def bnd2 {α β γ : Type} (x : Option (α × γ)) (f : α → γ → Option β) : Option β := match x with
  | some (a, c) => f a c
  | none => none
def bndT {α β : Type} (x : Option ((α ⊕ String) × zM)) (f : α → zM → Option ((β ⊕ String) × zM)) : Option ((β ⊕ String) × zM) := match x with
  | some (.inl a, c) => f a c
  | some (.inr E, c) => some (.inr E, c)
  | none => none
def app {α β : Type} (x : α) (f : α → β) : β := f x
theorem chk_some {α : Type} {b : Bool} {k : Option α} {r : α} (h : chk b k = some r) : b = true ∧ k = some r := by
  cases b with
  | true => exact ⟨rfl, h⟩
  | false => cases h
theorem bnd_some {α β : Type} {x : Option α} {f : α → Option β} {r : β} (h : bnd x f = some r) : ∃ a, x = some a ∧ f a = some r := by
  cases x with
  | none => cases h
  | some a => exact ⟨a, rfl, h⟩
theorem bnd2_some {α β γ : Type} {x : Option (α × γ)} {f : α → γ → Option β} {r : β} (h : bnd2 x f = some r) : ∃ a c, x = some (a, c) ∧ f a c = some r := by
  cases x with
  | none => cases h
  | some a => exact ⟨a.1, a.2, rfl, h⟩
theorem bndT_some {α β : Type} {x : Option ((α ⊕ String) × zM)} {f : α → zM → Option ((β ⊕ String) × zM)} {r : (β ⊕ String) × zM} (h : bndT x f = some r) : (∃ a c, x = some (.inl a, c) ∧ f a c = some r) ∨ ∃ E c, x = some (.inr E, c) ∧ some (.inr E, c) = some r := by
  cases x with
  | none => cases h
  | some a =>
    obtain ⟨a, c⟩ := a
    cases a with
    | inl a => exact Or.inl ⟨a, c, rfl, h⟩
    | inr E => exact Or.inr ⟨E, c, rfl, h⟩
theorem app_some {α β : Type} {x : α} {f : α → Option β} {r : β} (h : app x f = some r) : ∃ y, x = y ∧ f y = some r := ⟨x, rfl, h⟩
theorem ite_t {α : Type} {c : Prop} [Decidable c] {a b r : α} (hc : c) (h : (if c then a else b) = r) : a = r := by rw [if_pos hc] at h; exact h
theorem ite_f {α : Type} {c : Prop} [Decidable c] {a b r : α} (hc : ¬ c) (h : (if c then a else b) = r) : b = r := by rw [if_neg hc] at h; exact h
def z01 (x : Int32) : Bool := x == 0 || x == 1
theorem z01_or {x : Int32} (h : z01 x = true) : x = 0 ∨ x = 1 := by
  unfold z01 at h
  rw [Bool.or_eq_true] at h
  exact h.imp eq_of_beq eq_of_beq
/-- outcomes -/
abbrev oI (x : Int32) : Option Value ⊕ String := .inl (some (.int x))
abbrev oL (x : Int64) : Option Value ⊕ String := .inl (some (.long x))
abbrev oA (x : Nat) : Option Value ⊕ String := .inl (some (.ref x))
abbrev oV (_ : Unit) : Option Value ⊕ String := .inl none
abbrev tI (x : Int32 ⊕ String) : Option Value ⊕ String := match x with
  | .inl v => .inl (some (.int v))
  | .inr E => .inr E
abbrev tA (x : Nat ⊕ String) : Option Value ⊕ String := match x with
  | .inl v => .inl (some (.ref v))
  | .inr E => .inr E
abbrev tV (x : Unit ⊕ String) : Option Value ⊕ String := match x with
  | .inl _ => .inl none
  | .inr E => .inr E
def zE (o : Option Value ⊕ String) (M' : zM) : zPhi := fun o1 M1 => o1 = o ∧ M1 = M'
end ZRULES
