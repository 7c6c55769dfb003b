/-! reading, one character at a time -/
section ZPURE
/-- opened at; set; negated; latest letter, and where; least, most -/
abbrev Rg : Type := Nat × Int64 × Bool × Nat × Nat × Nat × Nat
/-- laid out so far; mode; registers; fault; its place -/
abbrev zPS : Type := LA × Nat × Rg × Nat × Nat
def rg0 : Rg := (0, 0, false, 0, 0, 0, 0)
def okS (A : LA) : zPS := (A, 0, rg0, 0, 0)
def zbad (A : LA) (f p : Nat) : zPS := (A, 0, rg0, f, p)
def aHp (A : LA) : Bool := A.2.2.2.2.2.2.2.1
def aDp (A : LA) : Nat := A.2.2.2.1
def aPb (A : LA) : Nat := A.2.2.2.2.2.2.2.2.2
def allB : Int64 := 68719476735
def pAtom (A : LA) (x : Int64) (p : Nat) : zPS := if A.1 < 60 then okS (aAdd (aJ A) x) else zbad A 4 p
def pSuf (A : LA) (p c : Nat) : zPS :=
  if aHp A = true then
    if c = 42 then okS (aNone (aMore A)) else if c = 43 then okS (aMore A) else if c = 63 then okS (aNone A)
    else if c = 123 then (A, 6, (p, 0, false, 0, 0, 0, 0), 0, 0) else zbad A 1 p
  else zbad A 1 p
def pRow (A : LA) (p c : Nat) : zPS := match ltr c with
  | some l => pAtom A (bit l) p
  | none =>
    if c = 46 then pAtom A allB p
    else if c = 91 then (A, 1, (p, 0, false, 0, 0, 0, 0), 0, 0)
    else if c = 40 then (if aDp A < 8 then okS (aIn (aJ A)) else zbad A 5 p)
    else if c = 124 then okS (aRow (aOr (aJ A)))
    else if c = 41 ∧ 0 < aDp A then okS (aOut (aOr (aJ A)))
    else pSuf A p c
def pSet (A : LA) (m : Nat) (R : Rg) (p c : Nat) : zPS := match R with
  | (o, s, ng, ll, la, _, _) => match ltr c with
    | some l => if m = 4 then (if ll ≤ l then (A, 5, (o, s ||| (jshl 2 (nI l) - jshl 1 (nI ll)), ng, 0, 0, 0, 0), 0, 0) else zbad A 6 la) else (A, 3, (o, s ||| bit l, ng, l, p, 0, 0), 0, 0)
    | none =>
      if c = 94 ∧ m = 1 then (A, 2, (o, s, true, 0, 0, 0, 0), 0, 0)
      else if c = 45 ∧ m = 3 then (A, 4, (o, s, ng, ll, la, 0, 0), 0, 0)
      else if c = 93 ∧ (m = 3 ∨ m = 5) then pAtom A (if ng then allB &&& (s ^^^ (-1)) else s) o
      else zbad A 1 p
def pTimes (A : LA) (o mi ma : Nat) : zPS :=
  if ma < mi ∨ 5 < ma ∨ ma = 0 then zbad A 3 o else if aPb A + ma * (A.1 - aPb A) ≤ 60 then okS (aTimes A mi ma) else zbad A 4 o
def pTim (A : LA) (m : Nat) (R : Rg) (p c : Nat) : zPS := match R with
  | (o, _, _, _, _, mi, ma) =>
    if (48 ≤ c ∧ c ≤ 57) ∧ m = 6 then (A, 7, (o, 0, false, 0, 0, c - 48, c - 48), 0, 0)
    else if c = 44 ∧ m = 7 then (A, 8, (o, 0, false, 0, 0, mi, ma), 0, 0)
    else if (48 ≤ c ∧ c ≤ 57) ∧ m = 8 then (A, 9, (o, 0, false, 0, 0, mi, c - 48), 0, 0)
    else if c = 125 ∧ (m = 7 ∨ m = 9) then pTimes A o mi ma
    else zbad A 1 p
def pStep (S : zPS) (p c : Nat) : zPS := match S with
  | (A, m, R, _, _) => if m = 0 then pRow A p c else if m ≤ 5 then pSet A m R p c else pTim A m R p c
/-- all of it, from place p on; stops at a fault; at the end brackets, sets and times must be closed -/
def pRun : List Nat → Nat → zPS → zPS
  | [], p, S => if S.2.2.2.1 = 0 ∧ (S.2.1 ≠ 0 ∨ 0 < aDp S.1) then zbad S.1 2 p else S
  | c :: cs, p, S => if S.2.2.2.1 = 0 then pRun cs (p + 1) (pStep S p c) else S
theorem pRun_f {S : zPS} (h : S.2.2.2.1 ≠ 0) : ∀ (cs : List Nat) (p : Nat), pRun cs p S = S := by
  intro cs p
  cases cs with
  | nil => unfold pRun; rw [if_neg (fun q => h q.1)]
  | cons c cs => unfold pRun; rw [if_neg h]
/-! well formed: which bits may stand where -/
def zBd (lo hi : Nat) (x : Int64) : Prop := ∀ j, jb x j = true → lo ≤ j ∧ j < hi
theorem zBd.mo {lo hi lo' hi' : Nat} {x : Int64} (h : zBd lo hi x) (h1 : lo' ≤ lo) (h2 : hi ≤ hi') : zBd lo' hi' x := fun j hj => by have := h j hj; omega
theorem Bd_0 (lo hi : Nat) : zBd lo hi 0 := fun j hj => by rw [jb_0] at hj; cases hj
theorem zBd.or {lo hi : Nat} {x y : Int64} (h : zBd lo hi x) (g : zBd lo hi y) : zBd lo hi (x ||| y) := fun j hj => by
  rw [jb_or, Bool.or_eq_true] at hj
  rcases hj with q | q
  · exact h j q
  · exact g j q
theorem jb_lt {x : Int64} {j : Nat} (h : jb x j = true) : j < 64 := by
  rcases Nat.lt_or_ge j 64 with q | q
  · exact q
  · rw [jb_big x q] at h; cases h
theorem Bd_bit {k : Nat} (hk : k < 64) : zBd k (k + 1) (bit k) := fun j hj => by
  unfold bit at hj
  rw [jb_one hk (jb_lt hj)] at hj
  have := of_decide_eq_true hj
  omega
theorem zBd.shl {lo hi s : Nat} {x : Int64} (h : zBd lo hi x) (hs : s < 64) : zBd (lo + s) (hi + s) (jshl x (nI s)) := fun j hj => by
  rw [jb_shl x hs (jb_lt hj), Bool.and_eq_true] at hj
  have h1 := of_decide_eq_true hj.1
  have h2 := h _ hj.2
  omega
def BdP (lo hi : Nat) (p : Pc) : Prop := zBd lo hi p.2.1 ∧ zBd lo hi p.2.2
theorem BdP.mo {lo hi lo' hi' : Nat} {x : Pc} (h : BdP lo hi x) (h1 : lo' ≤ lo) (h2 : hi ≤ hi') : BdP lo' hi' x := ⟨h.1.mo h1 h2, h.2.mo h1 h2⟩
theorem BdP.app {lo hi : Nat} {r p : Pc} (h : BdP lo hi r) (g : BdP lo hi p) : BdP lo hi (pApp r p) := by
  constructor
  · show zBd lo hi (if r.1 then r.2.1 ||| p.2.1 else r.2.1)
    split
    · exact h.1.or g.1
    · exact h.1
  · show zBd lo hi (if p.1 then r.2.2 ||| p.2.2 else p.2.2)
    split
    · exact h.2.or g.2
    · exact g.2
theorem BdP.or {lo hi : Nat} {r p : Pc} (h : BdP lo hi r) (g : BdP lo hi p) : BdP lo hi (pOr r p) := ⟨h.1.or g.1, h.2.or g.2⟩
theorem Bd_con {lo hi k : Nat} {fo : Nat → Int64} {e b : Int64} (h : ∀ i, i < k → zBd lo hi (fo i)) (hb : zBd lo hi b) : ∀ i, i < k → zBd lo hi (conF fo e b i) := fun i hi => by
  unfold conF
  split
  · exact (h i hi).or hb
  · exact h i hi
def zWf (A : LA) : Prop := match A with
  | (k, _, fo, d, ro, ch, cb, hp, pt, pb) => k ≤ 60 ∧ d ≤ 8 ∧ (∀ i, i < k → zBd 0 k (fo i)) ∧ (∀ e, e ≤ d → cb e ≤ k ∧ BdP (cb e) k (ro e) ∧ BdP (cb e) k (ch e)) ∧ (∀ e, e < d → cb e ≤ cb (e + 1)) ∧ (hp = true → cb d ≤ pb ∧ pb ≤ k ∧ BdP pb k pt)
theorem Wf_J {A : LA} (h : zWf A) : zWf (aJ A) := by
  obtain ⟨k, se, fo, d, ro, ch, cb, hp, pt, pb⟩ := A
  obtain ⟨h1, h2, h3, h4, h5, h6⟩ := h
  cases hp with
  | false => exact ⟨h1, h2, h3, h4, h5, h6⟩
  | true =>
    obtain ⟨q1, q2, q3⟩ := h6 rfl
    refine ⟨h1, h2, Bd_con h3 (q3.1.mo (by omega) (by omega)), fun e he => ⟨(h4 e he).1, ?_, (h4 e he).2.2⟩, h5, fun _ => ⟨q1, q2, q3⟩⟩
    by_cases hed : e = d
    · subst hed; rw [updf_e rfl]; exact (h4 e he).2.1.app (q3.mo q1 (by omega))
    · rw [updf_n hed]; exact (h4 e he).2.1
theorem BdP_0 (b : Bool) (lo hi : Nat) : BdP lo hi (b, 0, 0) := ⟨Bd_0 _ _, Bd_0 _ _⟩
theorem Wf_Row {A : LA} (h : zWf A) : zWf (aRow A) := by
  obtain ⟨k, se, fo, d, ro, ch, cb, hp, pt, pb⟩ := A
  obtain ⟨h1, h2, h3, h4, h5, h6⟩ := h
  refine ⟨h1, h2, h3, fun e he => ⟨(h4 e he).1, ?_, (h4 e he).2.2⟩, h5, fun q => by cases q⟩
  by_cases hed : e = d
  · subst hed; rw [updf_e rfl]; exact BdP_0 _ _ _
  · rw [updf_n hed]; exact (h4 e he).2.1
theorem Wf_Or {A : LA} (h : zWf A) : zWf (aOr A) := by
  obtain ⟨k, se, fo, d, ro, ch, cb, hp, pt, pb⟩ := A
  obtain ⟨h1, h2, h3, h4, h5, h6⟩ := h
  refine ⟨h1, h2, h3, fun e he => ⟨(h4 e he).1, (h4 e he).2.1, ?_⟩, h5, h6⟩
  by_cases hed : e = d
  · subst hed; rw [updf_e rfl]; exact (h4 e he).2.2.or (h4 e he).2.1
  · rw [updf_n hed]; exact (h4 e he).2.2
theorem Wf_Add {A : LA} (h : zWf A) (hk : A.1 < 60) (x : Int64) : zWf (aAdd A x) := by
  obtain ⟨k, se, fo, d, ro, ch, cb, hp, pt, pb⟩ := A
  obtain ⟨h1, h2, h3, h4, h5, h6⟩ := h
  simp only at hk
  refine ⟨by omega, h2, fun i hi => ?_, fun e he => ⟨?_, (h4 e he).2.1.mo (by omega) (by omega), (h4 e he).2.2.mo (by omega) (by omega)⟩, h5, fun _ => ⟨(h4 d (by omega)).1, by omega, Bd_bit (by omega), Bd_bit (by omega)⟩⟩
  · by_cases hik : i = k
    · rw [updf_e hik]; exact Bd_0 _ _
    · rw [updf_n hik]; exact (h3 i (by omega)).mo (by omega) (by omega)
  · have := (h4 e he).1; omega
theorem Wf_In {A : LA} (h : zWf A) (hd : aDp A < 8) : zWf (aIn A) := by
  obtain ⟨k, se, fo, d, ro, ch, cb, hp, pt, pb⟩ := A
  obtain ⟨h1, h2, h3, h4, h5, h6⟩ := h
  simp only [aDp] at hd
  refine ⟨h1, by omega, h3, fun e he => ?_, fun e he => ?_, fun q => by cases q⟩
  · by_cases hed : e = d + 1
    · rw [updf_e hed, updf_e hed, updf_e hed]; exact ⟨Nat.le_refl _, BdP_0 _ _ _, BdP_0 _ _ _⟩
    · rw [updf_n hed, updf_n hed, updf_n hed]; exact h4 e (by omega)
  · rw [updf_n (show e ≠ d + 1 by omega)]
    by_cases hed : e = d
    · rw [updf_e (by omega)]; exact (h4 e (by omega)).1
    · rw [updf_n (by omega)]; exact h5 e (by omega)
theorem Wf_Out {A : LA} (h : zWf A) (hd : 0 < aDp A) : zWf (aOut A) := by
  obtain ⟨k, se, fo, d, ro, ch, cb, hp, pt, pb⟩ := A
  obtain ⟨h1, h2, h3, h4, h5, h6⟩ := h
  simp only [aDp] at hd
  refine ⟨h1, by omega, h3, fun e he => h4 e (by omega), fun e he => h5 e (by omega), fun _ => ⟨?_, (h4 d (by omega)).1, (h4 d (by omega)).2.2⟩⟩
  have := h5 (d - 1) (by omega)
  rw [show d - 1 + 1 = d by omega] at this
  exact this
theorem Wf_More {A : LA} (h : zWf A) (hp1 : aHp A = true) : zWf (aMore A) := by
  obtain ⟨k, se, fo, d, ro, ch, cb, hp, pt, pb⟩ := A
  obtain ⟨h1, h2, h3, h4, h5, h6⟩ := h
  obtain ⟨q1, q2, q3⟩ := h6 hp1
  exact ⟨h1, h2, Bd_con h3 (q3.1.mo (by omega) (by omega)), h4, h5, h6⟩
theorem Wf_None {A : LA} (h : zWf A) : zWf (aNone A) := by
  obtain ⟨k, se, fo, d, ro, ch, cb, hp, pt, pb⟩ := A
  obtain ⟨h1, h2, h3, h4, h5, h6⟩ := h
  exact ⟨h1, h2, h3, h4, h5, h6⟩
theorem Bd_tP {pt : Pc} {w m b k : Nat} (h : BdP b k pt) (hk : k = b + w) : ∀ i, b + (i + 1) * w ≤ 60 → BdP b (b + (i + 1) * w) (tP pt w m i) := by
  intro i
  induction i with
  | zero => intro _; exact h.mo (by omega) (by omega)
  | succ i ih =>
    intro hi
    have e : (i + 1 + 1) * w = (i + 1) * w + w := Nat.succ_mul _ _
    refine (BdP.mo (ih (by omega)) (Nat.le_refl _) (by omega)).app ⟨?_, ?_⟩
    · exact (h.1.shl (by omega)).mo (by omega) (by omega)
    · exact (h.2.shl (by omega)).mo (by omega) (by omega)
theorem Wf_Times {A : LA} (h : zWf A) (hp1 : aHp A = true) {m n : Nat} (hn : 1 ≤ n) (hn5 : n ≤ 5) (hk : aPb A + n * (A.1 - aPb A) ≤ 60) : zWf (aTimes A m n) := by
  obtain ⟨k, se, fo, d, ro, ch, cb, hp, pt, pb⟩ := A
  obtain ⟨h1, h2, h3, h4, h5, h6⟩ := h
  obtain ⟨q1, q2, q3⟩ := h6 hp1
  simp only [aPb] at hk
  obtain ⟨w, hw⟩ : ∃ w, w = k - pb := ⟨_, rfl⟩
  simp only [aTimes, ← hw] at hk ⊢
  have hnw : w ≤ n * w := Nat.le_mul_of_pos_left w hn
  have hBt : ∀ i, i + 1 ≤ n → BdP pb (pb + n * w) (tP pt w m i) := fun i hi => by
    have e : (i + 1) * w ≤ n * w := Nat.mul_le_mul_right w hi
    exact (Bd_tP (b := pb) (k := k) q3 (by omega) i (by omega)).mo (Nat.le_refl _) (by omega)
  refine ⟨hk, h2, ?_, fun e he => ?_, h5, fun _ => ⟨q1, by omega, hBt (n - 1) (by omega)⟩⟩
  · have hcp : ∀ i, i < pb + n * w → zBd 0 (pb + n * w) (cpF fo pb w i) := fun i hi => by
      unfold cpF
      by_cases hik : i < pb + w
      · rw [if_pos hik]; exact (h3 i (by omega)).mo (by omega) (by omega)
      · rw [if_neg hik]
        have hw0 : 0 < w := by
          rcases Nat.eq_zero_or_pos w with q | q
          · subst q; omega
          · exact q
        have hm : (i - pb) % w < w := Nat.mod_lt _ hw0
        have hd1 : (i - pb) / w * w ≤ i - pb := Nat.div_mul_le_self _ _
        have hd2 : (i - pb) / w + 1 ≤ n := (Nat.div_lt_iff_lt_mul hw0).mpr (by omega)
        have hd3 : ((i - pb) / w + 1) * w ≤ n * w := Nat.mul_le_mul_right w hd2
        rw [Nat.succ_mul] at hd3
        exact ((h3 _ (by omega)).shl (by omega)).mo (by omega) (by omega)
    have : ∀ s, s + 1 ≤ n → ∀ i, i < pb + n * w → zBd 0 (pb + n * w) (tF (cpF fo pb w) pt w m s i) := by
      intro s
      induction s with
      | zero => intro _ i hi; exact hcp i hi
      | succ s ih =>
        intro hs
        have e : (s + 1) * w + w ≤ n * w := by rw [← Nat.succ_mul]; exact Nat.mul_le_mul_right w hs
        exact Bd_con (ih (by omega)) ((q3.1.shl (by omega)).mo (by omega) (by omega))
    exact this (n - 1) (by omega)
  · exact ⟨by have := (h4 e he).1; omega, (h4 e he).2.1.mo (Nat.le_refl _) (by omega), (h4 e he).2.2.mo (Nat.le_refl _) (by omega)⟩
def WfS (S : zPS) : Prop := S.2.2.2.1 = 0 → zWf S.1 ∧ (6 ≤ S.2.1 → aHp S.1 = true)
theorem WfS_ok {A : LA} (h : zWf A) : WfS (okS A) := fun _ => ⟨h, fun q => by simp [okS] at q⟩
theorem WfS_bad {A : LA} {f p : Nat} (hf : f ≠ 0) : WfS (zbad A f p) := fun q => absurd q hf
theorem WfS_atom {A : LA} (h : zWf A) (x : Int64) (p : Nat) : WfS (pAtom A x p) := by
  unfold pAtom
  by_cases hk : A.1 < 60
  · rw [if_pos hk]; exact WfS_ok (Wf_Add (Wf_J h) (by rw [aJ_k]; exact hk) x)
  · rw [if_neg hk]; exact WfS_bad (by decide)
theorem WfS_step {S : zPS} (h : WfS S) (hf : S.2.2.2.1 = 0) (p c : Nat) : WfS (pStep S p c) := by
  obtain ⟨A, m, R, f, pl⟩ := S
  obtain ⟨hA, hm⟩ := h hf
  simp only at hA hm
  simp only [pStep]
  by_cases h0 : m = 0
  · rw [if_pos h0]
    unfold pRow
    cases ltr c with
    | some l => exact WfS_atom hA _ _
    | none =>
      simp only
      split
      · exact WfS_atom hA _ _
      split
      · exact fun _ => ⟨hA, fun q => by simp at q⟩
      split
      · split
        · exact WfS_ok (Wf_In (Wf_J hA) (by unfold aDp at *; rw [aJ_d]; assumption))
        · exact WfS_bad (by decide)
      split
      · exact WfS_ok (Wf_Row (Wf_Or (Wf_J hA)))
      split
      · rename_i hq
        refine WfS_ok (Wf_Out (Wf_Or (Wf_J hA)) ?_)
        have e : aDp (aOr (aJ A)) = aDp (aJ A) := rfl
        rw [e]; unfold aDp; rw [aJ_d]; exact hq.2
      · unfold pSuf
        split
        · rename_i hhp
          split
          · exact WfS_ok (Wf_None (Wf_More hA hhp))
          split
          · exact WfS_ok (Wf_More hA hhp)
          split
          · exact WfS_ok (Wf_None hA)
          split
          · exact fun _ => ⟨hA, fun _ => hhp⟩
          · exact WfS_bad (by decide)
        · exact WfS_bad (by decide)
  · rw [if_neg h0]
    obtain ⟨o, s, ng, ll, la, mi, ma⟩ := R
    by_cases h5 : m ≤ 5
    · rw [if_pos h5]
      unfold pSet
      simp only
      cases ltr c with
      | some l =>
        simp only
        split
        · split
          · exact fun _ => ⟨hA, fun q => by simp at q⟩
          · exact WfS_bad (by decide)
        · exact fun _ => ⟨hA, fun q => by simp at q⟩
      | none =>
        simp only
        split
        · exact fun _ => ⟨hA, fun q => by simp at q⟩
        split
        · exact fun _ => ⟨hA, fun q => by simp at q⟩
        split
        · exact WfS_atom hA _ _
        · exact WfS_bad (by decide)
    · rw [if_neg h5]
      have hhp := hm (by omega)
      unfold pTim
      simp only
      split
      · exact fun _ => ⟨hA, fun _ => hhp⟩
      split
      · exact fun _ => ⟨hA, fun _ => hhp⟩
      split
      · exact fun _ => ⟨hA, fun _ => hhp⟩
      split
      · unfold pTimes
        split
        · exact WfS_bad (by decide)
        split
        · exact WfS_ok (Wf_Times hA hhp (by omega) (by omega) (by assumption))
        · exact WfS_bad (by decide)
      · exact WfS_bad (by decide)
end ZPURE
