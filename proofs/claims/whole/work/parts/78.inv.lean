/-! what holds between two calls -/
section ZINV
def idx : List Int64 → Int64 → Nat
  | [], _ => 0
  | k :: r, x => if k = x then 0 else idx r x + 1
theorem idx_spec : ∀ (ks : List Int64) (x : Int64), x ∈ ks → idx ks x < ks.length ∧ ks.getD (idx ks x) 0 = x := by
  intro ks
  induction ks with
  | nil => intro x h; cases h
  | cons k r ih =>
    intro x h
    simp only [idx]
    by_cases hk : k = x
    · rw [if_pos hk]; exact ⟨by simp, by simpa using hk⟩
    · rw [if_neg hk]
      have hx : x ∈ r := by
        rcases List.mem_cons.mp h with q | q
        · exact absurd q.symm hk
        · exact q
      obtain ⟨h1, h2⟩ := ih x hx
      refine ⟨by simp; omega, ?_⟩
      simpa using h2
def dl (p : zPt) (s l : Nat) : Nat := idx (zKS p) (tgt p (zKS p) s l) + 1
theorem dl_spec {wy : Nat → Nat → Int32} {p : zPt} (hn : NoDup (zKS p)) (h : FilW wy p (zKS p) ((zKS p).length + 1) 0 false) {s l : Nat} (hs : s < (zKS p).length + 1) (hl : l < 36) : wy s l = nI (dl p s l) ∧ dl p s l < (zKS p).length + 1 := by
  rcases h.1 s l ⟨hl, by omega⟩ with ⟨i, h1, h2, h3⟩ | ⟨h1, h2, h3⟩
  · have hm' : tgt p (zKS p) s l ∈ zKS p := mem_getD.mpr ⟨i, h1, h2⟩
    obtain ⟨k1, k2⟩ := idx_spec _ _ hm'
    have := hn _ _ h1 k1 (h2.trans k2.symm)
    unfold dl
    rw [← this]
    exact ⟨h3, by omega⟩
  · exact absurd (h.2.mpr ⟨s, l, ⟨hl, by omega⟩, h1⟩) (by decide)
theorem AutC.d {M : zM} {P : Nat} {p : zPt} (h : AutC M P p) (hb : mI M (P + 4) 1 = nI 0) : AutD M P ((zKS p).length + 1) (dl p) (gd p) := by
  obtain ⟨h1, h2, ⟨b, h3, h4⟩, h5, h6, h7⟩ := h
  have hbf : b = false := by
    cases b with
    | false => rfl
    | true => rw [h3, bI_t, neq (by omega) (by omega)] at hb; omega
  subst hbf
  exact ⟨h2, by omega, by omega, fun s hs => h5 s (by omega), fun s l hs hl => dl_spec h6 h4 hs hl⟩
def GrpR (M : zM) (P : Nat) (p : zPt) : Prop := mI M (P + 4) 3 = iM ∨ ∃ c, mI M (P + 4) 3 = nI c ∧ c ≤ 300 ∧ NCls ((zKS p).length + 1) (dl p) (gd p) c
def AutR (M : zM) (P : Nat) (p : zPt) : Prop := mI M (P + 4) 0 = nI 0 ∨ (AutC M P p ∧ GrpR M P p)
def Hld (M : zM) (c x : Nat) (o : Option zPt) : Prop := match o with
  | none => mR M 1 c = none ∧ mI M 71 x = nI 0
  | some p => mI M 71 x = nI 1 ∧ PatQ M x p ∧ PtOK p ∧ ∃ P, isP P ∧ mR M 1 c = some P ∧ PatC M P p ∧ AutR M P p
def LokR (M : zM) (cu : Option zPt) (ts : List Nat) : Prop := ∃ lk, mI M 27 5 = bI lk ∧ (lk = true → ∃ p, cu = some p ∧ FndC M (fdF p ts 0))
def WrdR (M : zM) : Prop := ∃ n, n ≤ 600 ∧ mI M 38 0 = nI n ∧ mI M 68 39 = nI n ∧ ∀ i, i < n → mI M 39 i = mI M 99 i
def zInv (xs : Nat → Int32) (L : Nat) (M : zM) (cs ts : List Nat) (cu ke : Option zPt) : Prop := Sta M ∧ (mN M 0 = L ∧ ∀ j, mI M 0 j = xs j) ∧ (TypC M cs ∧ TypM M cs) ∧ (TxtC M ts ∧ TxtM M ts) ∧ mI M 2 1 = mI M 68 5 ∧ Hld M 6 0 cu ∧ (Hld M 7 1 ke ∧ (mR M 1 7 = mR M 1 6 → ke = cu)) ∧ LokR M cu ts ∧ (∃ ks, RegS M ks) ∧ WrdR M
/-! congruence -/
theorem TypC.cg {M M' : zM} {cs : List Nat} (h : TypC M cs) (h0 : mI M' 2 0 = mI M 2 0) (h3 : ∀ j, mI M' 3 j = mI M 3 j) : TypC M' cs := ⟨h0.trans h.1, h.2.1, fun i hi => (h3 i).trans (h.2.2.1 i hi), h.2.2.2⟩
theorem TypM.cg {M M' : zM} {cs : List Nat} (h : TypM M cs) (h0 : mI M' 68 2 = mI M 68 2) (h3 : ∀ j, mI M' 69 j = mI M 69 j) : TypM M' cs := ⟨h0.trans h.1, h.2.1, fun i hi => (h3 i).trans (h.2.2.1 i hi), h.2.2.2⟩
theorem TxtC.cg {M M' : zM} {cs : List Nat} (h : TxtC M cs) (h0 : mI M' 27 0 = mI M 27 0) (h3 : ∀ j, mI M' 30 j = mI M 30 j) : TxtC M' cs := ⟨h0.trans h.1, h.2.1, fun i hi => (h3 i).trans (h.2.2.1 i hi), h.2.2.2⟩
theorem TxtM.cg {M M' : zM} {cs : List Nat} (h : TxtM M cs) (h0 : mI M' 68 4 = mI M 68 4) (h3 : ∀ j, mI M' 70 j = mI M 70 j) : TxtM M' cs := ⟨h0.trans h.1, h.2.1, fun i hi => (h3 i).trans (h.2.2.1 i hi), h.2.2.2⟩
theorem PatC.cg {M M' : zM} {P : Nat} {p : zPt} (h : PatC M P p) (hP : ∀ a j, P ≤ a → a ≤ P + 3 → mI M' a j = mI M a j ∧ mL M' a j = mL M a j) : PatC M' P p := by
  obtain ⟨k, e, f, l, fo, se⟩ := p
  obtain ⟨⟨p1, p2, p3, p4⟩, p5, p6, p7, p8⟩ := h
  exact ⟨⟨(hP _ _ (by omega) (by omega)).1.trans p1, p2, fun i hi => (hP _ _ (by omega) (by omega)).2.trans (p3 i hi), fun i hi => (hP _ _ (by omega) (by omega)).2.trans (p4 i hi)⟩, (hP _ _ (by omega) (by omega)).1.trans p5, (hP _ _ (by omega) (by omega)).2.trans p6, (hP _ _ (by omega) (by omega)).2.trans p7, fun x hx => (hP _ _ (by omega) (by omega)).2.trans (p8 x hx)⟩
theorem AutC.cg {M M' : zM} {P : Nat} {p : zPt} (h : AutC M P p) (h4 : ∀ j, j ≠ 3 → mI M' (P + 4) j = mI M (P + 4) j) (hP : ∀ a j, P + 5 ≤ a → a ≤ P + 6 → mI M' a j = mI M a j) : AutC M' P p := by
  obtain ⟨h1, h2, ⟨b, h3, h3'⟩, h5, h6, h7⟩ := h
  refine ⟨(h4 _ (by omega)).trans h1, (h4 _ (by omega)).trans h2, ⟨b, (h4 _ (by omega)).trans h3, ?_⟩, fun s hs => (hP _ _ (by omega) (by omega)).trans (h5 s hs), h6, h7⟩
  have e : wyC M' P = wyC M P := by
    funext s l
    exact hP _ _ (by omega) (by omega)
  rw [e]; exact h3'
theorem AutR.cg {M M' : zM} {P : Nat} {p : zPt} (h : AutR M P p) (hP : ∀ a j, P + 4 ≤ a → a ≤ P + 6 → mI M' a j = mI M a j) : AutR M' P p := by
  rcases h with h | ⟨h, g⟩
  · exact Or.inl ((hP _ _ (by omega) (by omega)).trans h)
  · refine Or.inr ⟨h.cg (fun j _ => hP _ _ (by omega) (by omega)) (fun a j h1 h2 => hP a j (by omega) h2), ?_⟩
    rcases g with g | ⟨c, g1, g2⟩
    · exact Or.inl ((hP _ _ (by omega) (by omega)).trans g)
    · exact Or.inr ⟨c, (hP _ _ (by omega) (by omega)).trans g1, g2⟩
theorem PatQ.cg {M M' : zM} {x : Nat} {p : zPt} (h : PatQ M x p) (hi : ∀ a, 71 ≤ a → a ≤ 73 → mI M' a x = mI M a x) (hl : ∀ a, 74 ≤ a → a ≤ 75 → mL M' a x = mL M a x) (h6 : ∀ a i, 76 ≤ a → a ≤ 77 → i < 60 → mL M' a (60 * x + i) = mL M a (60 * x + i)) : PatQ M' x p := by
  obtain ⟨k, e, f, l, fo, se⟩ := p
  obtain ⟨h1, h2, h3, h4, h5, h6', h7⟩ := h
  exact ⟨(hi _ (by omega) (by omega)).trans h1, h2, (hi _ (by omega) (by omega)).trans h3, (hl _ (by omega) (by omega)).trans h4, (hl _ (by omega) (by omega)).trans h5, fun i hi' => (h6 _ _ (by omega) (by omega) (by omega)).trans (h6' i hi'), fun i hi' => (h6 _ _ (by omega) (by omega) (by omega)).trans (h7 i hi')⟩
theorem Hld.cg {M M' : zM} {c x : Nat} {o : Option zPt} (h : Hld M c x o) (hR : mR M' 1 c = mR M 1 c) (hi : ∀ a, 71 ≤ a → a ≤ 73 → mI M' a x = mI M a x) (hl : ∀ a, 74 ≤ a → a ≤ 75 → mL M' a x = mL M a x) (h6 : ∀ a i, 76 ≤ a → a ≤ 77 → i < 60 → mL M' a (60 * x + i) = mL M a (60 * x + i)) (hP : ∀ P, isP P → mR M 1 c = some P → ∀ a j, P ≤ a → a ≤ P + 6 → mI M' a j = mI M a j ∧ mL M' a j = mL M a j) : Hld M' c x o := by
  cases o with
  | none => exact ⟨hR.trans h.1, (hi _ (by omega) (by omega)).trans h.2⟩
  | some p =>
    obtain ⟨h1, h2, h3, P, h4, h5, h6', h7⟩ := h
    exact ⟨(hi _ (by omega) (by omega)).trans h1, h2.cg hi hl h6, h3, P, h4, hR.trans h5, h6'.cg (fun a j q1 q2 => hP P h4 h5 a j q1 (by omega)), h7.cg (fun a j q1 q2 => (hP P h4 h5 a j (by omega) q2).1)⟩
theorem FndC.cg {M M' : zM} {F : List (Nat × Nat)} (h : FndC M F) (h1 : mI M' 27 1 = mI M 27 1) (h2 : ∀ a j, 28 ≤ a → a ≤ 29 → mI M' a j = mI M a j) : FndC M' F := ⟨h1.trans h.1, h.2.1, fun j hj => ⟨(h2 _ _ (by omega) (by omega)).trans (h.2.2 j hj).1, (h2 _ _ (by omega) (by omega)).trans (h.2.2 j hj).2⟩⟩
theorem LokR.cg {M M' : zM} {cu : Option zPt} {ts : List Nat} (h : LokR M cu ts) (h1 : ∀ j, mI M' 27 j = mI M 27 j) (h2 : ∀ a j, 28 ≤ a → a ≤ 29 → mI M' a j = mI M a j) : LokR M' cu ts := by
  obtain ⟨lk, a1, a2⟩ := h
  refine ⟨lk, (h1 5).trans a1, fun q => ?_⟩
  obtain ⟨p, b1, b2⟩ := a2 q
  exact ⟨p, b1, b2.cg (h1 1) h2⟩
theorem WrdR.cg {M M' : zM} (h : WrdR M) (h1 : mI M' 38 0 = mI M 38 0) (h2 : mI M' 68 39 = mI M 68 39) (h3 : ∀ j, mI M' 39 j = mI M 39 j) (h4 : ∀ j, mI M' 99 j = mI M 99 j) : WrdR M' := by
  obtain ⟨n, a0, a1, a2, a3⟩ := h
  exact ⟨n, a0, h1.trans a1, h2.trans a2, fun i hi => by rw [h3, h4]; exact a3 i hi⟩
/-- what is not held on to between calls -/
def scr (a j : Nat) : Prop := (a = 68 ∧ (j = 0 ∨ j = 42)) ∨ (91 ≤ a ∧ a ≤ 98) ∨ (100 ≤ a ∧ a ≤ 102) ∨ (35 ≤ a ∧ a ≤ 37)
def Scr (M M' : zM) : Prop := M'.1 = M.1 ∧ (∀ a j, mR M' a j = mR M a j) ∧ ∀ a j, ¬ scr a j → mI M' a j = mI M a j ∧ mL M' a j = mL M a j
theorem Scr.rf {M : zM} : Scr M M := ⟨rfl, fun _ _ => rfl, fun _ _ _ => ⟨rfl, rfl⟩⟩
theorem Scr.tr {M M1 M2 : zM} (h : Scr M M1) (g : Scr M1 M2) : Scr M M2 := ⟨g.1.trans h.1, fun a j => (g.2.1 a j).trans (h.2.1 a j), fun a j ha => ⟨((g.2.2 a j ha).1).trans ((h.2.2 a j ha).1), ((g.2.2 a j ha).2).trans ((h.2.2 a j ha).2)⟩⟩
theorem Scr.sta {M M' : zM} (h : Scr M M') (hs : Sta M) : Sta M' := Sta_eq hs h.1 h.2.1
theorem Scr.code {M M' : zM} (h : Scr M M') (v : Int32) : Scr M (wI M' 68 0 v) := h.tr ⟨rfl, fun _ _ => rfl, fun a j q => ⟨mI_n (fun q2 => q (by unfold scr; omega)), rfl⟩⟩
theorem Scr.out {M M' : zM} (h : Scr M M') (k : Nat) (v : Int64) : Scr M (wL M' 102 k v) := h.tr ⟨rfl, fun _ _ => rfl, fun a j q => ⟨rfl, mL_n (fun q2 => q (by unfold scr; omega))⟩⟩
theorem Scr.i {M M' : zM} (h : Scr M M') (a j : Nat) (ha : ¬ ((a = 68 ∧ (j = 0 ∨ j = 42)) ∨ (91 ≤ a ∧ a ≤ 98) ∨ (100 ≤ a ∧ a ≤ 102) ∨ (35 ≤ a ∧ a ≤ 37))) : mI M' a j = mI M a j := (h.2.2 a j ha).1
theorem Scr.l {M M' : zM} (h : Scr M M') (a j : Nat) (ha : ¬ ((a = 68 ∧ (j = 0 ∨ j = 42)) ∨ (91 ≤ a ∧ a ≤ 98) ∨ (100 ≤ a ∧ a ≤ 102) ∨ (35 ≤ a ∧ a ≤ 37))) : mL M' a j = mL M a j := (h.2.2 a j ha).2
theorem Scr.n {M M' : zM} (h : Scr M M') (a : Nat) : mN M' a = mN M a := by unfold mN; rw [h.1]
theorem Scr.hld {M M' : zM} (h : Scr M M') {c x : Nat} {o : Option zPt} (hh : Hld M c x o) : Hld M' c x o :=
  hh.cg (h.2.1 _ _) (fun a _ _ => h.i _ _ (by omega)) (fun a _ _ => h.l _ _ (by omega)) (fun a i _ _ _ => h.l _ _ (by omega)) (fun P hP _ a j _ _ => by have := isP_le hP; exact ⟨h.i _ _ (by omega), h.l _ _ (by omega)⟩)
theorem zInv.scr {xs : Nat → Int32} {L : Nat} {M M' : zM} {cs ts : List Nat} {cu ke : Option zPt} (h : zInv xs L M cs ts cu ke) (g : Scr M M') : zInv xs L M' cs ts cu ke := by
  obtain ⟨h1, ⟨h2, h2'⟩, ⟨h3, h3'⟩, ⟨h4, h4'⟩, h5, h6, h7, h8, ⟨ks, h9⟩, h10⟩ := h
  exact ⟨g.sta h1, ⟨(g.n 0).trans h2, fun j => (g.i _ _ (by omega)).trans (h2' j)⟩, ⟨h3.cg (g.i _ _ (by omega)) (fun j => g.i _ _ (by omega)), h3'.cg (g.i _ _ (by omega)) (fun j => g.i _ _ (by omega))⟩, ⟨h4.cg (g.i _ _ (by omega)) (fun j => g.i _ _ (by omega)), h4'.cg (g.i _ _ (by omega)) (fun j => g.i _ _ (by omega))⟩, by rw [g.i _ _ (by omega), g.i _ _ (by omega)]; exact h5, g.hld h6, ⟨g.hld h7.1, fun q => h7.2 (by rw [g.2.1, g.2.1] at q; exact q)⟩, h8.cg (fun j => g.i _ _ (by omega)) (fun a j _ _ => g.i _ _ (by omega)), ⟨ks, h9.fr (fun a j _ _ => g.i _ _ (by omega)) (fun j => g.l _ _ (by omega))⟩, h10.cg (g.i _ _ (by omega)) (g.i _ _ (by omega)) (fun j => g.i _ _ (by omega)) (fun j => g.i _ _ (by omega))⟩
end ZINV
