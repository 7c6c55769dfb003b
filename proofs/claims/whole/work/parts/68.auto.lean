/-! the automaton's sets: how they are numbered; the class's rows -/
section ZBUILD
theorem mem_getD {ks : List Int64} {x : Int64} : x ∈ ks ↔ ∃ i, i < ks.length ∧ ks.getD i 0 = x := by
  rw [List.mem_iff_getElem]
  constructor
  · rintro ⟨i, hi, e⟩
    exact ⟨i, hi, by rw [List.getD_eq_getElem?_getD, List.getElem?_eq_getElem hi]; exact e⟩
  · rintro ⟨i, hi, e⟩
    refine ⟨i, hi, ?_⟩
    rw [List.getD_eq_getElem?_getD, List.getElem?_eq_getElem hi] at e
    exact e
def addk (ks : List Int64) (x : Int64) : List Int64 := if x ∈ ks then ks else if ks.length < 299 then ks ++ [x] else ks
/-- the number of a set, or that there is none -/
def Wy (ks : List Int64) (x : Int64) (v : Int32) : Prop := (∃ i, i < ks.length ∧ ks.getD i 0 = x ∧ v = nI (i + 1)) ∨ (v = iM ∧ ks.length = 299 ∧ x ∉ ks)
theorem addk_in {ks : List Int64} {x : Int64} (h : x ∈ ks) : addk ks x = ks := if_pos h
theorem addk_new {ks : List Int64} {x : Int64} (h : x ∉ ks) (hl : ks.length < 299) : addk ks x = ks ++ [x] := by unfold addk; rw [if_neg h, if_pos hl]
theorem addk_full {ks : List Int64} {x : Int64} (hl : ¬ ks.length < 299) : addk ks x = ks := by
  unfold addk
  split
  · rfl
  · first | rfl | rw [if_neg hl]
theorem addk_len {ks : List Int64} {x : Int64} (h : ks.length ≤ 299) : ks.length ≤ (addk ks x).length ∧ (addk ks x).length ≤ 299 := by
  unfold addk
  split
  · omega
  · split
    · simp; omega
    · omega
theorem addk_getD {ks : List Int64} {x : Int64} {i : Nat} (h : i < ks.length) : (addk ks x).getD i 0 = ks.getD i 0 := by
  unfold addk
  split
  · rfl
  · split
    · rw [getD_app3 (by omega), if_neg (by omega)]
    · rfl
theorem Wy_mono {ks : List Int64} {x y : Int64} {v : Int32} (h : Wy ks x v) (hl : ks.length ≤ 299) : Wy (addk ks y) x v := by
  rcases h with ⟨i, h1, h2, h3⟩ | ⟨h1, h2, h3⟩
  · exact Or.inl ⟨i, by have := (addk_len (x := y) hl).1; omega, by rw [addk_getD h1]; exact h2, h3⟩
  · right
    rw [addk_full (by omega)]
    exact ⟨h1, h2, h3⟩
def NoDup (ks : List Int64) : Prop := ∀ i j, i < ks.length → j < ks.length → ks.getD i 0 = ks.getD j 0 → i = j
theorem Wy_uniq {ks : List Int64} (hn : NoDup ks) (hl : ks.length ≤ 299) {x : Int64} {v w : Int32} (h : Wy ks x v) (g : Wy ks x w) : v = w := by
  rcases h with ⟨i, h1, h2, h3⟩ | ⟨h1, h2, h3⟩
  · rcases g with ⟨j, g1, g2, g3⟩ | ⟨g1, g2, g3⟩
    · have := hn i j h1 g1 (h2.trans g2.symm)
      subst this
      rw [h3, g3]
    · exact absurd (mem_getD.mpr ⟨i, h1, h2⟩) g3
  · rcases g with ⟨j, g1, g2, g3⟩ | ⟨g1, g2, g3⟩
    · exact absurd (mem_getD.mpr ⟨j, g1, g2⟩) h3
    · rw [h1, g1]
theorem addk_nodup {ks : List Int64} {x : Int64} (h : NoDup ks) : NoDup (addk ks x) := by
  by_cases hx : x ∈ ks
  · rw [addk_in hx]; exact h
  · by_cases hl : ks.length < 299
    · rw [addk_new hx hl]
      intro i j hi hj e
      have hlen : (ks ++ [x]).length = ks.length + 1 := by simp
      rw [hlen] at hi hj
      rw [getD_app3 hi, getD_app3 hj] at e
      by_cases hi' : i = ks.length
      · by_cases hj' : j = ks.length
        · omega
        · rw [if_pos hi', if_neg hj'] at e; exact absurd (mem_getD.mpr ⟨j, by omega, e.symm⟩) hx
      · by_cases hj' : j = ks.length
        · rw [if_neg hi', if_pos hj'] at e; exact absurd (mem_getD.mpr ⟨i, by omega, e⟩) hx
        · rw [if_neg hi', if_neg hj'] at e; exact h i j (by omega) (by omega) e
    · rw [addk_full hl]; exact h
/-- where state s goes by letter l -/
def tgt (p : zPt) (ks : List Int64) (s l : Nat) : Int64 := znxt p (decide (s = 0)) (ks.getD (s - 1) 0) l
theorem tgt_addk {p : zPt} {ks : List Int64} {x : Int64} {s l : Nat} (h : s ≤ ks.length) : tgt p (addk ks x) s l = tgt p ks s l := by
  unfold tgt
  by_cases hs : s = 0
  · subst hs; unfold znxt awt; simp
  · rw [addk_getD (by omega)]
def rowk (p : zPt) (ks : List Int64) (s : Nat) : Nat → List Int64
  | 0 => ks
  | l + 1 => addk (rowk p ks s l) (tgt p ks s l)
theorem rowk_len {p : zPt} {ks : List Int64} {s : Nat} (h : ks.length ≤ 299) : ∀ l, ks.length ≤ (rowk p ks s l).length ∧ (rowk p ks s l).length ≤ 299 := by
  intro l
  induction l with
  | zero => exact ⟨Nat.le_refl _, h⟩
  | succ l ih =>
    have := addk_len (ks := rowk p ks s l) (x := tgt p ks s l) ih.2
    simp only [rowk]
    omega
theorem rowk_getD {p : zPt} {ks : List Int64} {s i : Nat} (h : ks.length ≤ 299) (hi : i < ks.length) : ∀ l, (rowk p ks s l).getD i 0 = ks.getD i 0 := by
  intro l
  induction l with
  | zero => rfl
  | succ l ih =>
    simp only [rowk]
    rw [addk_getD (by have := (rowk_len (p := p) (s := s) h l).1; omega)]
    exact ih
theorem rowk_tgt {p : zPt} {ks : List Int64} {s t l : Nat} (h : ks.length ≤ 299) (ht : t ≤ ks.length) (m : Nat) : tgt p (rowk p ks s l) t m = tgt p ks t m := by
  unfold tgt
  by_cases hs : t = 0
  · subst hs; unfold znxt awt; simp
  · rw [rowk_getD h (by omega)]
theorem rowk_nodup {p : zPt} {ks : List Int64} {s : Nat} (h : NoDup ks) : ∀ l, NoDup (rowk p ks s l) := by
  intro l
  induction l with
  | zero => exact h
  | succ l ih => exact addk_nodup ih
def bkF (p : zPt) : Nat → Nat → List Int64 → List Int64
  | 0, _, ks => ks
  | f + 1, s, ks => if s < ks.length + 1 then bkF p f (s + 1) (rowk p ks s 36) else ks
/-- all sets -/
def zKS (p : zPt) : List Int64 := bkF p 300 0 []
def gd (p : zPt) (s : Nat) : Bool := if s = 0 then pe p else decide ((zKS p).getD (s - 1) 0 &&& pl p ≠ 0)
/-- before letter l of state s -/
def Bf (s l s' l' : Nat) : Prop := l' < 36 ∧ (s' < s ∨ (s' = s ∧ l' < l))
def FilW (wy : Nat → Nat → Int32) (p : zPt) (ks : List Int64) (s l : Nat) (b : Bool) : Prop := (∀ s' l', Bf s l s' l' → Wy ks (tgt p ks s' l') (wy s' l')) ∧ (b = true ↔ ∃ s' l', Bf s l s' l' ∧ wy s' l' = iM)
theorem FilW_step {wy wy' : Nat → Nat → Int32} {p : zPt} {ks : List Int64} {s l : Nat} {b : Bool} (h : FilW wy p ks s l b) (hs : s ≤ ks.length) (hl : l < 36) (hk : ks.length ≤ 299) (hw : ∀ s' l', Bf s l s' l' → wy' s' l' = wy s' l') {x : Int64} (hx : x = tgt p ks s l) (hv : Wy (addk ks x) x (wy' s l)) {b' : Bool} (hb : b' = (b || decide (wy' s l = iM))) : FilW wy' p (addk ks x) s (l + 1) b' := by
  constructor
  · intro s' l' hB
    by_cases hc : s' = s ∧ l' = l
    · obtain ⟨rfl, rfl⟩ := hc
      rw [tgt_addk hs, ← hx]; exact hv
    · have hB' : Bf s l s' l' := ⟨hB.1, by have := hB.2; omega⟩
      have hs' : s' ≤ ks.length := by have := hB.2; omega
      rw [tgt_addk hs', hw s' l' hB']
      exact Wy_mono (h.1 s' l' hB') hk
  · rw [hb, Bool.or_eq_true, h.2]
    constructor
    · rintro (⟨s', l', hB, e⟩ | e)
      · exact ⟨s', l', ⟨hB.1, by have := hB.2; omega⟩, by rw [hw s' l' hB]; exact e⟩
      · exact ⟨s, l, ⟨hl, by omega⟩, of_decide_eq_true e⟩
    · rintro ⟨s', l', hB, e⟩
      by_cases hc : s' = s ∧ l' = l
      · obtain ⟨rfl, rfl⟩ := hc
        exact Or.inr (decide_eq_true e)
      · have hB' : Bf s l s' l' := ⟨hB.1, by have := hB.2; omega⟩
        exact Or.inl ⟨s', l', hB', by rw [← hw s' l' hB']; exact e⟩
theorem FilW_row {wy : Nat → Nat → Int32} {p : zPt} {ks : List Int64} {s : Nat} {b : Bool} : FilW wy p ks s 36 b ↔ FilW wy p ks (s + 1) 0 b := by
  have e : ∀ s' l', Bf s 36 s' l' ↔ Bf (s + 1) 0 s' l' := fun s' l' => ⟨fun h => ⟨h.1, by have := h.2; omega⟩, fun h => ⟨h.1, by have := h.2; have := h.1; omega⟩⟩
  unfold FilW
  simp only [e]
/-- the class's frame of a build -/
def zBF (P : Nat) (M M' : zM) : Prop := M'.1 = M.1 ∧ (∀ a j, mR M' a j = mR M a j) ∧ ∀ a, ¬ ((31 ≤ a ∧ a ≤ 34) ∨ (P + 4 ≤ a ∧ a ≤ P + 6)) → ∀ j, mI M' a j = mI M a j ∧ mL M' a j = mL M a j
theorem zBF.rf {P : Nat} {M : zM} : zBF P M M := ⟨rfl, fun _ _ => rfl, fun _ _ _ => ⟨rfl, rfl⟩⟩
theorem zBF.tr {P : Nat} {M M1 M2 : zM} (h : zBF P M M1) (g : zBF P M1 M2) : zBF P M M2 := ⟨g.1.trans h.1, fun a j => (g.2.1 a j).trans (h.2.1 a j), fun a ha j => ⟨((g.2.2 a ha j).1).trans ((h.2.2 a ha j).1), ((g.2.2 a ha j).2).trans ((h.2.2 a ha j).2)⟩⟩
theorem zBF.r4 {P : Nat} {M M' : zM} (h : RF4 M M') : zBF P M M' := ⟨h.1, h.2.1, fun a ha j => h.2.2 a (by omega) j⟩
theorem zBF.wI {P : Nat} {M M' : zM} (h : zBF P M M') {a : Nat} (ha : P + 4 ≤ a ∧ a ≤ P + 6) (k : Nat) (v : Int32) : zBF P M (wI M' a k v) := h.tr ⟨rfl, fun _ _ => rfl, fun b hb j => ⟨mI_n (by omega), rfl⟩⟩
theorem zBF.sta {P : Nat} {M M' : zM} (h : zBF P M M') (hs : Sta M) : Sta M' := Sta_eq hs h.1 h.2.1
theorem zBF.pat {P : Nat} {M M' : zM} (h : zBF P M M') (hP : isP P) {p : zPt} (hp : PatC M P p) : PatC M' P p := by
  obtain ⟨k, e, f, l, fo, se⟩ := p
  have := isP_le hP
  obtain ⟨⟨p1, p2, p3, p4⟩, p5, p6, p7, p8⟩ := hp
  exact ⟨⟨(h.2.2 _ (by omega) _).1.trans p1, p2, fun i hi => (h.2.2 _ (by omega) _).2.trans (p3 i hi), fun i hi => (h.2.2 _ (by omega) _).2.trans (p4 i hi)⟩, (h.2.2 _ (by omega) _).1.trans p5, (h.2.2 _ (by omega) _).2.trans p6, (h.2.2 _ (by omega) _).2.trans p7, fun x hx => (h.2.2 _ (by omega) _).2.trans (p8 x hx)⟩
theorem RegS.fr {M M' : zM} {ks : List Int64} (h : RegS M ks) (hi : ∀ a j, 31 ≤ a → a ≤ 34 → mI M' a j = mI M a j) (hl : ∀ j, mL M' 32 j = mL M 32 j) : RegS M' ks := by
  obtain ⟨h1, h2, h3, h4, so, q1, q2, q3⟩ := h
  refine ⟨(hi _ _ (by omega) (by omega)).trans h1, h2, h3, fun i hi' => (hl i).trans (h4 i hi'), so, fun i hi' => ⟨(q1 i hi').1, (hi _ _ (by omega) (by omega)).trans (q1 i hi').2.1, (hi _ _ (by omega) (by omega)).trans (q1 i hi').2.2⟩, fun s hs => ?_, q3⟩
  rcases q2 s hs with q | q
  · exact Or.inl ((hi _ _ (by omega) (by omega)).trans q)
  · exact Or.inr q
theorem RegS.nodup {M : zM} {ks : List Int64} (h : RegS M ks) : NoDup ks := h.2.2.1
theorem c_numk {M : zM} (hS : Sta M) {ks : List Int64} (h : RegS M ks) (hl : ks.length ≤ 299) (x : Int64) (N : Nat) (hN : 1100 ≤ N) :
    ∃ r M', fX7_numberOf N M 31 x (nI 299) = some (r, M') ∧ RF4 M M' ∧ RegS M' (addk ks x) ∧ ((r = iM ∧ Wy (addk ks x) x iM) ∨ (∃ i, i < 300 ∧ r = nI i ∧ Wy (addk ks x) x (nI (i + 1)))) := by
  rcases c_number hS h x (lim := 299) (by omega) N hN with ⟨i, h1, h2, h3⟩ | ⟨h1, h2, h3⟩ | ⟨h1, h2, M', h3, h4, h5⟩
  · have hx : x ∈ ks := mem_getD.mpr ⟨i, h1, h2⟩
    rw [addk_in hx]
    exact ⟨nI i, M, h3, RF4.rf, h, Or.inr ⟨i, by omega, rfl, Or.inl ⟨i, h1, h2, rfl⟩⟩⟩
  · rw [addk_full (by omega)]
    refine ⟨iM, M, h3, RF4.rf, h, Or.inl ⟨rfl, Or.inr ⟨rfl, by omega, fun q => ?_⟩⟩⟩
    obtain ⟨i, q1, q2⟩ := mem_getD.mp q
    exact h1 i q1 q2
  · have hx : x ∉ ks := fun q => by
      obtain ⟨i, q1, q2⟩ := mem_getD.mp q
      exact h1 i q1 q2
    rw [addk_new hx (by omega)]
    exact ⟨nI ks.length, M', h3, h4, h5, Or.inr ⟨ks.length, by omega, rfl, Or.inl ⟨ks.length, by simp, by rw [getD_app3 (by omega), if_pos rfl], rfl⟩⟩⟩
theorem i299 : (299 : Int32) = nI 299 := by decide
def wyC (M : zM) (P : Nat) (s l : Nat) : Int32 := mI M (P + 6) (s * 36 + l)
theorem c_layW {P : Nat} (hP : isP P) {p : zPt} {ks : List Int64} {s : Nat} (hs : s ≤ ks.length) (hk : ks.length ≤ 299) : ∀ (m l fuel : Nat) (M : zM) (b : Bool), Sta M → PatC M P p → RegS M (rowk p ks s l) → FilW (wyC M P) p (rowk p ks s l) s l b → mI M (P + 4) 1 = bI b → l + m = 36 → m + 1200 < fuel →
    ∃ M' b', fX0_layWays_3 fuel M (P + 4) (nI s) (awt p (decide (s = 0)) (ks.getD (s - 1) 0)) P 31 (nI l) = some ((), M') ∧ zBF P M M' ∧ (∀ j, mI M' (P + 5) j = mI M (P + 5) j) ∧ (∀ j, j ≠ 1 → j ≠ 2 → mI M' (P + 4) j = mI M (P + 4) j) ∧ RegS M' (rowk p ks s 36) ∧ FilW (wyC M' P) p (rowk p ks s 36) s 36 b' ∧ mI M' (P + 4) 1 = bI b' ∧ mI M' (P + 4) 2 = nI ((rowk p ks s 36).length + 1) := by
  intro m
  induction m with
  | zero =>
    intro l fuel M b hS hp hR hF hb hl hf
    obtain ⟨f, rfl⟩ := suc fuel (by omega)
    obtain ⟨hP1, hP2⟩ := isP_le hP
    have hl36 : l = 36 := by omega
    subst hl36
    have hlen := (rowk_len (p := p) (s := s) hk 36).2
    refine ⟨wI M (P + 4) 2 (nI ((rowk p ks s 36).length + 1)), b, ?_, zBF.rf.wI (by omega) _ _, fun j => mI_n (by omega), fun j h1 h2 => mI_n (by omega), hR.fr (fun a j _ _ => mI_n (by omega)) (fun j => rfl), ?_, ?_, mI_e rfl rfl⟩
    · rw [fX0_layWays_3]
      simp (disch := omega) only [q_eM, q_Me, q_Mlt, q_Mle, q_leM, q_ltM, q_le, q_nle, q_lt, q_nlt, q_neq, zin_nI, nI_clamp, nI_add, pk_mul, pk_sub, mI_e, mI_n, mL_e, mL_n, mR_e, mR_n, i0, i1, ↓reduceIte, ↓bI_t, ↓bI_f, Bool.false_eq_true, eq_self, chk_true, bnd_just, bnd2_just, app_t, beq_self_eq_true, mK_wI, mK_wL, mK_wR, mK_wIr, mK_wLr, mN_wI, mN_wL, mN_wR, mN_wIr, mN_wLr, mR_wI, mR_wL, mR_wIr, mR_wLr, mI_wL, mI_wR, mI_wLr, mL_wI, mL_wR, mL_wIr, i36, sk_31 hS, pK4 hS hP, hR.1]
    · have e : wyC (wI M (P + 4) 2 (nI ((rowk p ks s 36).length + 1))) P = wyC M P := by
        funext s' l'
        exact mI_n (by omega)
      rw [e]; exact hF
    · rw [mI_n (by omega)]; exact hb
  | succ m ih =>
    intro l fuel M b hS hp hR hF hb hl hf
    obtain ⟨f, rfl⟩ := suc fuel (by omega)
    obtain ⟨hP1, hP2⟩ := isP_le hP
    have hrl := rowk_len (p := p) (s := s) hk l
    have ex : awt p (decide (s = 0)) (ks.getD (s - 1) 0) &&& havF (pse p) l (pk p) = tgt p ks s l := rfl
    obtain ⟨r, M1, r1, r2, r3, r4⟩ := c_numk hS hR hrl.2 (tgt p ks s l) f (by omega)
    have hS1 := r2.sta hS
    have hidx : s * 36 + l < 10800 := by omega
    obtain ⟨v, hv⟩ : ∃ v, v = (if r = iM then iM else r + nI 1) := ⟨_, rfl⟩
    have hWv : Wy (addk (rowk p ks s l) (tgt p ks s l)) (tgt p ks s l) v := by
      rcases r4 with ⟨e1, e2⟩ | ⟨i, e0, e1, e2⟩
      · rw [hv, if_pos e1]; exact e2
      · rw [hv, e1, if_neg (by rw [q_eM (by omega)]; exact id), nI_add]; exact e2
    obtain ⟨b', hb'⟩ : ∃ b', b' = (b || decide (r = iM)) := ⟨_, rfl⟩
    have hbv : decide (r = iM) = decide (v = iM) := by
      rcases r4 with ⟨e1, e2⟩ | ⟨i, e0, e1, e2⟩
      · rw [hv, if_pos e1, e1]
      · rw [hv, e1, if_neg (by rw [q_eM (by omega)]; exact id), nI_add]
        simp only [q_eM (show i < 2 ^ 31 by omega), q_eM (show i + 1 < 2 ^ 31 by omega)]
    have hb1 : mI M1 (P + 4) 1 = bI b := (r2.2.2 _ (by omega) _).1.trans hb
    have hBF : zBF P M (wI (wI M1 (P + 6) (s * 36 + l) v) (P + 4) 1 (bI b')) := ((zBF.r4 r2).wI (by omega) _ _).wI (by omega) _ _
    have hwy : ∀ s' l', Bf s l s' l' → wyC (wI (wI M1 (P + 6) (s * 36 + l) v) (P + 4) 1 (bI b')) P s' l' = wyC M P s' l' := fun s' l' hB => by
      unfold wyC
      have h1 := hB.1
      have h2 := hB.2
      rw [mI_n (by omega), mI_n (by omega)]
      exact (r2.2.2 _ (by omega) _).1
    have hwv : wyC (wI (wI M1 (P + 6) (s * 36 + l) v) (P + 4) 1 (bI b')) P s l = v := by
      unfold wyC
      rw [mI_n (by omega), mI_e rfl rfl]
    obtain ⟨M', bb, t1, t2, t3, t4, t5, t6, t7, t8⟩ := ih (l + 1) f (wI (wI M1 (P + 6) (s * 36 + l) v) (P + 4) 1 (bI b')) b' (hBF.sta hS) (hBF.pat hP hp) (r3.fr (fun a j _ _ => by rw [mI_n (by omega), mI_n (by omega)]) (fun j => rfl)) (FilW_step hF (by omega) (by omega) hrl.2 hwy (rowk_tgt hk hs l).symm (by rw [hwv]; exact hWv) (by rw [hwv, ← hbv]; exact hb')) (mI_e rfl rfl) (by omega) (by omega)
    refine ⟨M', bb, ?_, hBF.tr t2, fun j => ?_, fun j h1 h2 => ?_, t5, t6, t7, t8⟩
    · rw [fX0_layWays_3]
      unfold fX0_layWays_55 fX0_layWays_70 fX0_layWays_75
      simp (disch := omega) only [q_eM, q_Me, q_Mlt, q_Mle, q_leM, q_ltM, q_le, q_nle, q_lt, q_nlt, q_neq, zin_nI, nI_clamp, nI_add, pk_mul, pk_sub, mI_e, mI_n, mL_e, mL_n, mR_e, mR_n, i0, i1, ↓reduceIte, ↓bI_t, ↓bI_f, Bool.false_eq_true, eq_self, chk_true, bnd_just, bnd2_just, app_t, beq_self_eq_true, mK_wI, mK_wL, mK_wR, mK_wIr, mK_wLr, mN_wI, mN_wL, mN_wR, mN_wIr, mN_wLr, mR_wI, mR_wL, mR_wIr, mR_wLr, mI_wL, mI_wR, mI_wLr, mL_wI, mL_wR, mL_wIr, ↓neg1, i36, i299, sk_31 hS, pK0 hS hP, pR6 hS hP, pK3 hS hP, pN3 hS hP, hp.hav, ex, r1, pK4 hS1 hP, pA5 hS1 hP, pK6 hS1 hP, pN6 hS1 hP]
      rw [hb1]
      rcases r4 with ⟨e1, e2⟩ | ⟨i, e0, e1, e2⟩
      · rw [e1, if_pos rfl] at hv
        subst hv
        have hbt : b' = true := by rw [hb', e1]; simp
        rw [hbt] at t1
        rw [e1, if_pos rfl]
        cases b <;> simp (disch := omega) only [q_eM, q_Me, q_Mlt, q_Mle, q_leM, q_ltM, q_le, q_nle, q_lt, q_nlt, q_neq, zin_nI, nI_clamp, nI_add, pk_mul, pk_sub, mI_e, mI_n, mL_e, mL_n, mR_e, mR_n, i0, i1, ↓reduceIte, ↓bI_t, ↓bI_f, Bool.false_eq_true, eq_self, chk_true, bnd_just, bnd2_just, app_t, beq_self_eq_true, mK_wI, mK_wL, mK_wR, mK_wIr, mK_wLr, mN_wI, mN_wL, mN_wR, mN_wIr, mN_wLr, mR_wI, mR_wL, mR_wIr, mR_wLr, mI_wL, mI_wR, mI_wLr, mL_wI, mL_wR, mL_wIr, z01_1] <;> exact t1
      · rw [e1, if_neg (by rw [q_eM (by omega)]; exact id), nI_add] at hv
        subst hv
        have hbt : b' = b := by
          rw [hb', e1]
          simp only [q_eM (show i < 2 ^ 31 by omega)]
          simp
        rw [hbt] at t1
        rw [e1, if_neg (by rw [q_eM (by omega)]; exact id)]
        cases b <;> simp (disch := omega) only [q_eM, q_Me, q_Mlt, q_Mle, q_leM, q_ltM, q_le, q_nle, q_lt, q_nlt, q_neq, zin_nI, nI_clamp, nI_add, pk_mul, pk_sub, mI_e, mI_n, mL_e, mL_n, mR_e, mR_n, i0, i1, ↓reduceIte, ↓bI_t, ↓bI_f, Bool.false_eq_true, eq_self, chk_true, bnd_just, bnd2_just, app_t, beq_self_eq_true, mK_wI, mK_wL, mK_wR, mK_wIr, mK_wLr, mN_wI, mN_wL, mN_wR, mN_wIr, mN_wLr, mR_wI, mR_wL, mR_wIr, mR_wLr, mI_wL, mI_wR, mI_wLr, mL_wI, mL_wR, mL_wIr, z01_1, z01_0] <;> exact t1
    · rw [t3 j, mI_n (by omega), mI_n (by omega)]; exact (r2.2.2 _ (by omega) _).1
    · rw [t4 j h1 h2, mI_n (by omega), mI_n (by omega)]; exact (r2.2.2 _ (by omega) _).1
end ZBUILD
