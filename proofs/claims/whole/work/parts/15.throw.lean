/-! 'throw new E()' -/
section ZTHROW
variable {μ μ' : zMu} {op : Option Nat} {u : Nat × Nat} {M : zM} {pc q : Nat} {L : List (Nat × Value)} {st st0 : List Value} {Φ Φ' : zPhi}
def zNs : List String := ["java/lang/RuntimeException", "java/lang/Exception"]
/-- the words of a throw in PatternHouse -/
def zTh (own : String) (ik ic : Nat) (E : String) : Prop := (∀ w ∈ (vx_at0 own ic E zNs).filter goodWord, w ∈ zBig) ∧ (∀ w ∈ (vx_at0 own ic E zNs).filter (fun w => !goodWord w), w ∈ Cond.castable E E :: zSup.map (fun Y => Cond.declares (Bundle.init0 Y))) ∧ E ∈ zEx ∧ Cond.classLink own ik E ∈ zBig ∧ Cond.initialized E ∈ zBig ∧ Bundle.fit E = true ∧ ∀ w ∈ Cond.classLink own ik E :: Cond.initialized E :: vx_at0 own ic E zNs, vx_ot w = true
set_option maxHeartbeats 4000000 in
theorem zr_throw0 {E : String} {ik ic : Nat} (hth : zTh (uY μ).cls ik ic E) (d0 : decode (uC μ) pc = .ok (.new ik, 3)) (d3 : decode (uC μ) (pc + 3) = .ok (.dup, 1)) (d4 : decode (uC μ) (pc + 4) = .ok (.invokespecial ic, 3)) (d7 : decode (uC μ) (pc + 7) = .ok (.athrow, 1)) (hH : uH μ = [])
    (hfr : 6 ≤ (uM μ).frames) (hlo : (st.map fun v => v.category).sum + 81 ≤ (uM μ).locals) (hu : u.1 + 1 ≤ (uM μ).cells ∧ u.2 + 6 ≤ (uM μ).slots) (h : Φ (.inr E) M) : zW μ op u M pc L st Φ := by
  intro D cy base p l e s m args below meth c C0 H locs ls hM hS hl
  obtain ⟨hx, hbc, hml, hown, hts, hG, hlocks, hrt, hlt, htab, hnm, hop⟩ := id C0
  obtain ⟨t1, t2, t3, t4, t5, t6, t7⟩ := hth
  have hcast : ∀ w ∈ Cond.castable E E :: zSup.map (fun Y => Cond.declares (Bundle.init0 Y)), w.before args s = true := fun w hw => by
    rcases List.mem_cons.mp hw with e9 | hw
    · rw [e9]
      exact va_Nw.use rfl (hG.2.2.2.2.2.1 E t3)
    · obtain ⟨Y, hY, e9⟩ := List.mem_map.mp hw
      rw [← e9]
      exact va_Nw.use rfl (hG.2.2.2.2.2.2.2.2.2 Y hY)
  have hat : ∀ w ∈ vx_at0 (uY μ).cls ic E zNs, w.before args s = true := vx_hat (fun w hw => hts w (t1 w hw)) t2 hcast
  refine vx_throw0 (names := zNs) (A := zA base) hx hbc hlt hown t6 (by decide +kernel) (hts _ t4) (hts _ t5) hat t7 hG.2.2.1 hG.2.2.2.1 hS (hl.1.trans hml.symm) d0 d3 d4 d7 (fun x hx9 => by rw [htab, hH] at hx9; cases hx9) (Nat.lt_of_lt_of_le (by decide) hfr) (by rw [zcats]; exact hlo) hu.1 hu.2 hlocks (fun t hal hz hk => ?_) hS.2.2 hu.1 hu.2
  refine ⟨M, h, ⟨hM.1.kept (fun k x hx9 => hk x.1 ((hM.1 k x hx9).lt)), hM.2⟩, ⟨Nat.le_trans hS.1 hz, fun q9 h1 h2 => (hk q9 (Nat.lt_of_lt_of_le h1 hS.1)).trans (hS.2.1 q9 h1 h2)⟩⟩
set_option maxRecDepth 100000 in
theorem zth_IAE : zTh RX9 51 53 "java/lang/IllegalArgumentException" := ⟨zb_all (by decide +kernel), by decide +kernel, by decide +kernel, zb_of (by decide +kernel) (by decide +kernel), zb_of (by decide +kernel) (by decide +kernel), by decide +kernel, by decide +kernel⟩
set_option maxRecDepth 100000 in
theorem zth_ISE : zTh RX9 58 60 "java/lang/IllegalStateException" := ⟨zb_all (by decide +kernel), by decide +kernel, by decide +kernel, zb_of (by decide +kernel) (by decide +kernel), zb_of (by decide +kernel) (by decide +kernel), by decide +kernel, by decide +kernel⟩
set_option maxRecDepth 100000 in
theorem zth_IOB : zTh RX9 93 95 "java/lang/IndexOutOfBoundsException" := ⟨zb_all (by decide +kernel), by decide +kernel, by decide +kernel, zb_of (by decide +kernel) (by decide +kernel), zb_of (by decide +kernel) (by decide +kernel), by decide +kernel, by decide +kernel⟩
end ZTHROW
