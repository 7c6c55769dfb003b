/-! the law's switch -/
section ZSW
variable {μ μ' : zMu} {op : Option Nat} {u u' : Nat × Nat} {M : zM} {pc q : Nat} {L : List (Nat × Value)} {st st0 : List Value} {Φ Φ' : zPhi}
theorem zr_tableIn {dflt lo hi : Int} {offs : Array Int} {len : Nat} {x : Int32} {off : Int} {tgt : Nat} (d : decode (uC μ) pc = .ok (.tableswitch dflt lo hi offs, len)) (h1 : ¬ x.toInt < lo) (h2 : ¬ hi < x.toInt) (ho : offs[(x.toInt - lo).toNat]? = some off) (ht : (pc : Int) + off = (tgt : Int)) (k : zW μ op u M tgt L st Φ) : zW μ op u M pc L (.int x :: st) Φ := by
  intro D cy base p l e s m args below meth c C H locs ls hM hS hl
  exact lv_tableIn C.1 C.2.1 d h1 h2 ho ht (k D cy base p l e s m args below meth c C H locs ls hM hS hl)
theorem zr_tableOut {dflt lo hi : Int} {offs : Array Int} {len : Nat} {x : Int32} {tgt : Nat} (d : decode (uC μ) pc = .ok (.tableswitch dflt lo hi offs, len)) (h : x.toInt < lo ∨ hi < x.toInt) (ht : (pc : Int) + dflt = (tgt : Int)) (k : zW μ op u M tgt L st Φ) : zW μ op u M pc L (.int x :: st) Φ := by
  intro D cy base p l e s m args below meth c C H locs ls hM hS hl
  exact lv_tableOut C.1 C.2.1 d h ht (k D cy base p l e s m args below meth c C H locs ls hM hS hl)
theorem zout20 {x : Int32} (c0 : ¬ x = 0) (c1 : ¬ x = 1) (c2 : ¬ x = 2) (c3 : ¬ x = 3) (c4 : ¬ x = 4) (c5 : ¬ x = 5) (c6 : ¬ x = 6) (c7 : ¬ x = 7) (c8 : ¬ x = 8) (c9 : ¬ x = 9) (c10 : ¬ x = 10) (c11 : ¬ x = 11) (c12 : ¬ x = 12) (c13 : ¬ x = 13) (c14 : ¬ x = 14) (c15 : ¬ x = 15) (c16 : ¬ x = 16) (c17 : ¬ x = 17) (c18 : ¬ x = 18) (c19 : ¬ x = 19) : x.toInt < 0 ∨ 19 < x.toInt := by
  have h0 := lv_neT c0 (a := 0) (by decide)
  have h1 := lv_neT c1 (a := 1) (by decide)
  have h2 := lv_neT c2 (a := 2) (by decide)
  have h3 := lv_neT c3 (a := 3) (by decide)
  have h4 := lv_neT c4 (a := 4) (by decide)
  have h5 := lv_neT c5 (a := 5) (by decide)
  have h6 := lv_neT c6 (a := 6) (by decide)
  have h7 := lv_neT c7 (a := 7) (by decide)
  have h8 := lv_neT c8 (a := 8) (by decide)
  have h9 := lv_neT c9 (a := 9) (by decide)
  have h10 := lv_neT c10 (a := 10) (by decide)
  have h11 := lv_neT c11 (a := 11) (by decide)
  have h12 := lv_neT c12 (a := 12) (by decide)
  have h13 := lv_neT c13 (a := 13) (by decide)
  have h14 := lv_neT c14 (a := 14) (by decide)
  have h15 := lv_neT c15 (a := 15) (by decide)
  have h16 := lv_neT c16 (a := 16) (by decide)
  have h17 := lv_neT c17 (a := 17) (by decide)
  have h18 := lv_neT c18 (a := 18) (by decide)
  have h19 := lv_neT c19 (a := 19) (by decide)
  omega
end ZSW
