/-! words as numbers: the shorter and lesser word has the lesser number -/
section ZWORDS
def dgs : Nat → Nat → List Nat
  | 0, _ => []
  | f + 1, c => if c = 0 then [] else dgs f ((c - 1) / 36) ++ [(c - 1) % 36]
theorem dgs_fu : ∀ (f g c : Nat), c ≤ f → c ≤ g → dgs f c = dgs g c := by
  intro f
  induction f with
  | zero =>
    intro g c h1 h2
    cases g with
    | zero => rfl
    | succ g => simp only [dgs]; rw [if_pos (by omega)]
  | succ f ih =>
    intro g c h1 h2
    cases g with
    | zero => simp only [dgs]; rw [if_pos (by omega)]
    | succ g =>
      simp only [dgs]
      by_cases hc : c = 0
      · rw [if_pos hc, if_pos hc]
      · rw [if_neg hc, if_neg hc, ih g ((c - 1) / 36) (by omega) (by omega)]
/-- the word of a number -/
def wd (c : Nat) : List Nat := dgs c c
def ex (c l : Nat) : Nat := 36 * c + l + 1
theorem wd_0 : wd 0 = [] := rfl
theorem wd_ex {c l : Nat} (hl : l < 36) : wd (ex c l) = wd c ++ [l] := by
  unfold wd ex
  show (if 36 * c + l + 1 = 0 then [] else dgs (36 * c + l) ((36 * c + l + 1 - 1) / 36) ++ [(36 * c + l + 1 - 1) % 36]) = _
  rw [if_neg (by omega)]
  have e1 : (36 * c + l + 1 - 1) / 36 = c := by omega
  have e2 : (36 * c + l + 1 - 1) % 36 = l := by omega
  rw [e1, e2, dgs_fu (36 * c + l) c c (by omega) (by omega)]
theorem wd_len {c l : Nat} (hl : l < 36) : (wd (ex c l)).length = (wd c).length + 1 := by rw [wd_ex hl]; simp
theorem ex_lt {c c' l l' : Nat} (h : c < c') (hl : l < 36) : ex c l < ex c' l' := by unfold ex; omega
def zext (c : Nat) (x : List Nat) : Nat := x.foldl ex c
theorem ext_lt : ∀ (x : List Nat) (c c' : Nat), c < c' → (∀ l ∈ x, l < 36) → zext c x < zext c' x := by
  intro x
  induction x with
  | nil => intro c c' h _; exact h
  | cons l x ih =>
    intro c c' h hx
    exact ih _ _ (ex_lt h (hx l List.mem_cons_self)) (fun y hy => hx y (List.mem_cons_of_mem _ hy))
theorem ext_ge : ∀ (x : List Nat) (c : Nat), c ≤ zext c x := by
  intro x
  induction x with
  | nil => intro c; exact Nat.le_refl _
  | cons l x ih =>
    intro c
    have : c ≤ ex c l := by unfold ex; omega
    exact Nat.le_trans this (ih _)
theorem wd_ext : ∀ (x : List Nat) (c : Nat), (∀ l ∈ x, l < 36) → wd (zext c x) = wd c ++ x := by
  intro x
  induction x with
  | nil => intro c _; simp [zext]
  | cons l x ih =>
    intro c hx
    show wd (zext (ex c l) x) = _
    rw [ih _ (fun y hy => hx y (List.mem_cons_of_mem _ hy)), wd_ex (hx l List.mem_cons_self)]
    simp
theorem ext_all : ∀ E, ∃ w : List Nat, (∀ l ∈ w, l < 36) ∧ E = zext 0 w := by
  intro E
  induction E using Nat.strongRecOn with
  | ind E ih =>
    by_cases h0 : E = 0
    · exact ⟨[], fun l hl => by simp at hl, h0⟩
    · obtain ⟨w, h1, h2⟩ := ih ((E - 1) / 36) (by omega)
      refine ⟨w ++ [(E - 1) % 36], fun l hl => ?_, ?_⟩
      · rcases List.mem_append.mp hl with q | q
        · exact h1 l q
        · have : l = (E - 1) % 36 := by simpa using q
          omega
      · have : zext 0 (w ++ [(E - 1) % 36]) = ex (zext 0 w) ((E - 1) % 36) := by
          unfold zext; rw [List.foldl_append]; rfl
        rw [this, ← h2]
        unfold ex; omega
def sta (δ : Nat → Nat → Nat) (c : Nat) : Nat := (wd c).foldl δ 0
theorem sta_ex {δ : Nat → Nat → Nat} {c l : Nat} (hl : l < 36) : sta δ (ex c l) = δ (sta δ c) l := by
  unfold sta; rw [wd_ex hl, List.foldl_append]; rfl
theorem sta_ext {δ : Nat → Nat → Nat} {c : Nat} {x : List Nat} (hx : ∀ l ∈ x, l < 36) : sta δ (zext c x) = x.foldl δ (sta δ c) := by
  unfold sta; rw [wd_ext x c hx, List.foldl_append]
theorem sta_lt {δ : Nat → Nat → Nat} {n : Nat} (hn : 0 < n) (hδ : ∀ s l, s < n → l < 36 → δ s l < n) (c : Nat) : sta δ c < n := by
  obtain ⟨w, h1, rfl⟩ := ext_all c
  rw [sta_ext h1]
  have : ∀ (w : List Nat) (s : Nat), s < n → (∀ l ∈ w, l < 36) → w.foldl δ s < n := by
    intro w
    induction w with
    | nil => intro s hs _; exact hs
    | cons l w ih => intro s hs hw; exact ih _ (hδ s l hs (hw l List.mem_cons_self)) (fun y hy => hw y (List.mem_cons_of_mem _ hy))
  exact this w _ hn h1
/-- a word that tells the two apart -/
def Tel (δ1 δ2 : Nat → Nat → Nat) (g1 g2 : Nat → Bool) (c : Nat) : Prop := g1 (sta δ1 c) ≠ g2 (sta δ2 c)
def zLst (δ1 δ2 : Nat → Nat → Nat) (g1 g2 : Nat → Bool) (D : Nat) : Prop := Tel δ1 δ2 g1 g2 D ∧ ∀ E, E < D → ¬ Tel δ1 δ2 g1 g2 E
theorem Lst_uniq {δ1 δ2 : Nat → Nat → Nat} {g1 g2 : Nat → Bool} {D E : Nat} (h : zLst δ1 δ2 g1 g2 D) (k : zLst δ1 δ2 g1 g2 E) : D = E := by
  rcases Nat.lt_trichotomy D E with c | c | c
  · exact absurd h.1 (k.2 D c)
  · exact c
  · exact absurd k.1 (h.2 E c)
/-- none tells apart below D, if a set of words that don't is closed, but for such as follow from lesser ones -/
theorem no_tel {δ1 δ2 : Nat → Nat → Nat} {g1 g2 : Nat → Bool} {D : Nat} {S : Nat → Prop} (h0 : S 0) (hS : ∀ c, S c → ¬ Tel δ1 δ2 g1 g2 c)
    (hc : ∀ c l, S c → l < 36 → ex c l < D → S (ex c l) ∨ ∀ x : List Nat, (∀ l ∈ x, l < 36) → (∀ s, S s → s < ex c l → ¬ Tel δ1 δ2 g1 g2 (zext s x)) → ¬ Tel δ1 δ2 g1 g2 (zext (ex c l) x)) : ∀ E, E < D → ¬ Tel δ1 δ2 g1 g2 E := by
  intro E
  induction E using Nat.strongRecOn with
  | ind E ih =>
    intro hE
    have main : ∀ (x : List Nat) (v : Nat), (∀ l ∈ x, l < 36) → S v → E = zext v x → ¬ Tel δ1 δ2 g1 g2 E := by
      intro x
      induction x with
      | nil => intro v _ hv e; rw [e]; exact hS v hv
      | cons l x ihx =>
        intro v hx hv e
        have hl := hx l List.mem_cons_self
        have hx' : ∀ y ∈ x, y < 36 := fun y hy => hx y (List.mem_cons_of_mem _ hy)
        have e' : E = zext (ex v l) x := e
        have hle := ext_ge x (ex v l)
        rcases hc v l hv hl (by omega) with q | q
        · exact ihx _ hx' q e'
        · rw [e']
          exact q x hx' (fun s hs hlt => ih (zext s x) (by rw [e']; exact ext_lt x s (ex v l) hlt hx') (by have := ext_lt x s (ex v l) hlt hx'; omega))
    obtain ⟨w, h1, h2⟩ := ext_all E
    exact main w 0 h1 h0 h2
end ZWORDS
