/-! classes of states: what they are, how they are counted -/
section ZCLS
def cntB (f : Nat → Bool) : Nat → Nat
  | 0 => 0
  | n + 1 => cntB f n + (if f n = true then 1 else 0)
theorem cntB_le {f g : Nat → Bool} : ∀ {n : Nat}, (∀ i, i < n → f i = true → g i = true) → cntB f n ≤ cntB g n := by
  intro n
  induction n with
  | zero => intro _; exact Nat.le_refl _
  | succ n ih =>
    intro h
    have h1 := ih (fun i hi => h i (by omega))
    simp only [cntB]
    by_cases hf : f n = true
    · rw [if_pos hf, if_pos (h n (by omega) hf)]; omega
    · rw [if_neg hf]; split <;> omega
theorem cntB_lt {f g : Nat → Bool} : ∀ {n : Nat}, (∀ i, i < n → f i = true → g i = true) → (∃ i, i < n ∧ f i = false ∧ g i = true) → cntB f n < cntB g n := by
  intro n
  induction n with
  | zero => rintro _ ⟨i, hi, -⟩; omega
  | succ n ih =>
    rintro h ⟨i, hi, h1, h2⟩
    simp only [cntB]
    by_cases hin : i = n
    · subst hin
      have := cntB_le (f := f) (g := g) (n := i) (fun j hj => h j (by omega))
      rw [if_neg (by rw [h1]; decide), if_pos h2]; omega
    · have := ih (fun j hj => h j (by omega)) ⟨i, by omega, h1, h2⟩
      by_cases hf : f n = true
      · rw [if_pos hf, if_pos (h n (by omega) hf)]; omega
      · rw [if_neg hf]; split <;> omega
theorem cntB_eq {f g : Nat → Bool} {n : Nat} (h : ∀ i, i < n → f i = true → g i = true) (e : cntB f n = cntB g n) : ∀ i, i < n → f i = g i := by
  intro i hi
  cases hf : f i with
  | true => exact (h i hi hf).symm
  | false =>
    cases hg : g i with
    | false => rfl
    | true => have := cntB_lt h ⟨i, hi, hf, hg⟩; omega
theorem cntB_n (f : Nat → Bool) : ∀ n, cntB f n ≤ n := by
  intro n
  induction n with
  | zero => exact Nat.le_refl _
  | succ n ih => simp only [cntB]; split <;> omega
theorem cntB_congr {f g : Nat → Bool} {n : Nat} (h : ∀ i, i < n → f i = g i) : cntB f n = cntB g n :=
  Nat.le_antisymm (cntB_le (fun i hi q => by rw [← h i hi]; exact q)) (cntB_le (fun i hi q => by rw [h i hi]; exact q))
theorem cntB_pos {f : Nat → Bool} {n : Nat} (hn : 0 < n) (h : f 0 = true) : 1 ≤ cntB f n := by
  obtain ⟨m, rfl⟩ := suc n hn
  clear hn
  induction m with
  | zero => simp only [cntB]; rw [if_pos h]; omega
  | succ m ih => simp only [cntB] at ih ⊢; omega
/-- whether all earlier ones are otherwise -/
def newB {α : Type} [DecidableEq α] (G : Nat → α) (s : Nat) : Bool := decide (∀ t, t < s → G t ≠ G s)
theorem newB_t {α : Type} [DecidableEq α] {G : Nat → α} {s : Nat} : newB G s = true ↔ ∀ t, t < s → G t ≠ G s := decide_eq_true_iff
/-- a finer grouping of as many groups is the same grouping -/
theorem same_part {G H : Nat → Nat} {n : Nat} (hr : ∀ s t, s < n → t < n → H s = H t → G s = G t) (e : cntB (newB G) n = cntB (newB H) n) : ∀ t s, s < n → t < n → G s = G t → H s = H t := by
  have himp : ∀ i, i < n → newB G i = true → newB H i = true := fun i hi q => newB_t.mpr (fun t ht q2 => newB_t.mp q t ht (hr t i (by omega) hi q2))
  have hflag := cntB_eq himp e
  have main : ∀ t, t < n → ∀ s, s < t → G s = G t → H s = H t := by
    intro t
    induction t using Nat.strongRecOn with
    | ind t ih =>
      intro ht s hs hg
      have h1 : newB H t = false := by
        rw [← hflag t ht]
        cases hq : newB G t with
        | false => rfl
        | true => exact absurd hg (newB_t.mp hq s hs)
      have h2 : ∃ t', t' < t ∧ H t' = H t := by
        by_cases hq : ∃ t', t' < t ∧ H t' = H t
        · exact hq
        · have : newB H t = true := newB_t.mpr (fun t' ht' q => hq ⟨t', ht', q⟩)
          rw [h1] at this; cases this
      obtain ⟨t', ht', e'⟩ := h2
      have hg' := hr t' t (by omega) ht e'
      rcases Nat.lt_trichotomy s t' with c | c | c
      · exact (ih t' ht' (by omega) s c (hg.trans hg'.symm)).trans e'
      · subst c; exact e'
      · exact ((ih s hs (by omega) t' c (hg'.trans hg.symm)).symm).trans e'
  intro t s hs ht hg
  rcases Nat.lt_trichotomy s t with c | c | c
  · exact main t ht s c hg
  · rw [c]
  · exact (main s hs t c hg.symm).symm
/-- no word tells them apart -/
def Eqv (δ : Nat → Nat → Nat) (g : Nat → Bool) (s t : Nat) : Prop := ∀ w : List Nat, (∀ l ∈ w, l < 36) → g (w.foldl δ s) = g (w.foldl δ t)
theorem Eqv.step {δ : Nat → Nat → Nat} {g : Nat → Bool} {s t l : Nat} (h : Eqv δ g s t) (hl : l < 36) : Eqv δ g (δ s l) (δ t l) := fun w hw => h (l :: w) (fun x hx => by
  rcases List.mem_cons.mp hx with q | q
  · omega
  · exact hw x q)
theorem Eqv.good {δ : Nat → Nat → Nat} {g : Nat → Bool} {s t : Nat} (h : Eqv δ g s t) : g s = g t := h [] (fun _ q => by cases q)
theorem Eqv.rf {δ : Nat → Nat → Nat} {g : Nat → Bool} {s : Nat} : Eqv δ g s s := fun _ _ => rfl
theorem Eqv.sy {δ : Nat → Nat → Nat} {g : Nat → Bool} {s t : Nat} (h : Eqv δ g s t) : Eqv δ g t s := fun w hw => (h w hw).symm
theorem Eqv_bis {δ : Nat → Nat → Nat} {g : Nat → Bool} {n : Nat} (hδ : ∀ s l, s < n → l < 36 → δ s l < n) {R : Nat → Nat → Prop} (hg : ∀ s t, s < n → t < n → R s t → g s = g t) (hs : ∀ s t l, s < n → t < n → l < 36 → R s t → R (δ s l) (δ t l)) : ∀ (w : List Nat) (s t : Nat), (∀ l ∈ w, l < 36) → s < n → t < n → R s t → g (w.foldl δ s) = g (w.foldl δ t) := by
  intro w
  induction w with
  | nil => intro s t _ h1 h2 h3; exact hg s t h1 h2 h3
  | cons l w ih =>
    intro s t hw h1 h2 h3
    have hl := hw l List.mem_cons_self
    exact ih (δ s l) (δ t l) (fun x hx => hw x (List.mem_cons_of_mem _ hx)) (hδ s l h1 hl) (hδ t l h2 hl) (hs s t l h1 h2 hl h3)
/-- how many classes there are -/
def NCls (n : Nat) (δ : Nat → Nat → Nat) (g : Nat → Bool) (c : Nat) : Prop := ∃ f : Nat → Bool, (∀ s, s < n → (f s = true ↔ ∀ t, t < s → ¬ Eqv δ g t s)) ∧ c = cntB f n
theorem NCls_uniq {n : Nat} {δ : Nat → Nat → Nat} {g : Nat → Bool} {c d : Nat} (h : NCls n δ g c) (k : NCls n δ g d) : c = d := by
  obtain ⟨f, h1, rfl⟩ := h
  obtain ⟨f', k1, rfl⟩ := k
  refine cntB_congr (fun i hi => ?_)
  have : f i = true ↔ f' i = true := by rw [h1 i hi, k1 i hi]
  cases hf : f i <;> cases hf' : f' i <;> simp_all
theorem NCls_of {n : Nat} {δ : Nat → Nat → Nat} {g : Nat → Bool} {G : Nat → Nat} (h : ∀ s t, s < n → t < n → (G s = G t ↔ Eqv δ g s t)) : NCls n δ g (cntB (newB G) n) :=
  ⟨newB G, fun s hs => by
    rw [newB_t]
    constructor
    · intro q t ht q2; exact q t ht ((h t s (by omega) hs).mpr q2)
    · intro q t ht q2; exact q t ht ((h t s (by omega) hs).mp q2), rfl⟩
/-! numbering keys one by one -/
def NumI (M : zM) (key : Nat → Int64) (i : Nat) (r : Nat → Nat) : Prop := ∃ ks, RegS M ks ∧ ks.length ≤ i ∧ (∀ j, j < i → r j < ks.length ∧ ks.getD (r j) 0 = key j) ∧ (∀ m, m < ks.length → ∃ j, j < i ∧ ks.getD m 0 = key j) ∧ ks.length = cntB (newB key) i
theorem NumI.fr {M M' : zM} {key : Nat → Int64} {i : Nat} {r : Nat → Nat} (h : NumI M key i r) (hi : ∀ a j, 31 ≤ a → a ≤ 34 → mI M' a j = mI M a j) (hl : ∀ j, mL M' 32 j = mL M 32 j) : NumI M' key i r := by
  obtain ⟨ks, h1, h2⟩ := h
  exact ⟨ks, h1.fr hi hl, h2⟩
theorem num_step {M : zM} (hS : Sta M) {key : Nat → Int64} {i : Nat} {r : Nat → Nat} (h : NumI M key i r) (hi : i < 300) (N : Nat) (hN : 1100 ≤ N) :
    ∃ v M', fX7_numberOf N M 31 (key i) (nI 300) = some (nI v, M') ∧ v < 300 ∧ RF4 M M' ∧ NumI M' key (i + 1) (updf r i v) := by
  obtain ⟨ks, h1, h2, h3, h4, h5⟩ := h
  rcases c_number hS h1 (key i) (lim := 300) (by omega) N hN with ⟨v, k1, k2, k3⟩ | ⟨k1, k2, k3⟩ | ⟨k1, k2, M', k3, k4, k5⟩
  · refine ⟨v, M, k3, by omega, RF4.rf, ks, h1, by omega, fun j hj => ?_, fun m zhm' => ?_, ?_⟩
    · by_cases hji : j = i
      · rw [updf_e hji, hji]; exact ⟨k1, k2⟩
      · rw [updf_n hji]; exact h3 j (by omega)
    · obtain ⟨j, hj, e⟩ := h4 m zhm'
      exact ⟨j, by omega, e⟩
    · simp only [cntB]
      obtain ⟨j, hj, e⟩ := h4 v k1
      rw [if_neg (fun q => newB_t.mp q j hj (e.symm.trans k2)), h5]; omega
  · omega
  · have hlen : (ks ++ [key i]).length = ks.length + 1 := by simp
    refine ⟨ks.length, M', k3, by omega, k4, ks ++ [key i], k5, by omega, fun j hj => ?_, fun m zhm' => ?_, ?_⟩
    · by_cases hji : j = i
      · rw [updf_e hji, hji, getD_app3 (by omega), if_pos rfl]
        exact ⟨by omega, rfl⟩
      · rw [updf_n hji]
        obtain ⟨e1, e2⟩ := h3 j (by omega)
        rw [getD_app3 (by omega), if_neg (by omega)]
        exact ⟨by omega, e2⟩
    · rw [hlen] at zhm'
      rw [getD_app3 zhm']
      by_cases hml : m = ks.length
      · rw [if_pos hml]; exact ⟨i, by omega, rfl⟩
      · rw [if_neg hml]
        obtain ⟨j, hj, e⟩ := h4 m (by omega)
        exact ⟨j, by omega, e⟩
    · rw [hlen]
      simp only [cntB]
      rw [if_pos (newB_t.mpr (fun t ht q => by
        obtain ⟨e1, e2⟩ := h3 t ht
        exact k1 (r t) e1 (e2.trans q))), h5]
theorem NumI.eq {M : zM} {key : Nat → Int64} {n : Nat} {r : Nat → Nat} (h : NumI M key n r) : ∀ s t, s < n → t < n → (r s = r t ↔ key s = key t) := by
  obtain ⟨ks, h1, h2, h3, h4, h5⟩ := h
  intro s t hs ht
  obtain ⟨a1, a2⟩ := h3 s hs
  obtain ⟨b1, b2⟩ := h3 t ht
  constructor
  · intro q; rw [← a2, ← b2, q]
  · intro q; exact h1.2.2.1 _ _ a1 b1 (by rw [a2, b2, q])
theorem NumI.cnt {M : zM} {key : Nat → Int64} {n : Nat} {r : Nat → Nat} (h : NumI M key n r) : mI M 31 0 = nI (cntB (newB r) n) := by
  have he := h.eq
  obtain ⟨ks, h1, h2, h3, h4, h5⟩ := h
  rw [h1.1, h5]
  congr 1
  refine cntB_congr (fun i hi => ?_)
  have : newB key i = true ↔ newB r i = true := by
    rw [newB_t, newB_t]
    constructor
    · intro q t ht q2; exact q t ht ((he t i (by omega) hi).mp q2)
    · intro q t ht q2; exact q t ht ((he t i (by omega) hi).mpr q2)
  cases hf : newB key i <;> cases hf' : newB r i <;> simp_all
end ZCLS
