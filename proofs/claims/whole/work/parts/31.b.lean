/-! THE IDEAL: minds and tales as tables of ints, what a day does to them, as folds. -/
def fd {α : Type} (s : Nat → α → α) : Nat → α → α
  | 0, x => x
  | n + 1, x => s n (fd s n x)
theorem fd_inv {α : Type} {s : Nat → α → α} (I : α → Prop) {n : Nat} {x : α} (h0 : I x) (hs : ∀ k y, k < n → I y → I (s k y)) : I (fd s n x) := by
  induction n with
  | zero => exact h0
  | succ n ih => exact hs n _ (by omega) (ih (fun k y hk => hs k y (by omega)))
theorem fd_ext {α : Type} {s : Nat → α → α} (I : α → Prop) {n m : Nat} {x : α} (hnm : n ≤ m) (h0 : I x) (hs : ∀ k y, k < m → I y → I (s k y)) (hid : ∀ k y, n ≤ k → k < m → I y → s k y = y) : fd s m x = fd s n x := by
  induction m with
  | zero => rw [show n = 0 by omega]
  | succ m ih =>
    by_cases e : n = m + 1
    · rw [e]
    · rw [fd, hid m _ (by omega) (by omega) (fd_inv I h0 (fun k y hk => hs k y (by omega)))]
      exact ih (by omega) (fun k y hk => hs k y (by omega)) (fun k y h1 h2 => hid k y h1 (by omega))
theorem fd_congr {α : Type} {s t : Nat → α → α} (I : α → Prop) {n : Nat} {x : α} (h0 : I x) (hs : ∀ k y, k < n → I y → I (s k y)) (he : ∀ k y, k < n → I y → s k y = t k y) : fd s n x = fd t n x := by
  induction n with
  | zero => rfl
  | succ n ih =>
    have h2 := fd_inv I h0 (fun k y hk => hs k y (Nat.lt_succ_of_lt hk))
    rw [fd, fd, ← ih (fun k y hk => hs k y (by omega)) (fun k y hk => he k y (by omega)), he n _ (by omega) h2]
abbrev Mu : Type := Nat → Nat → Int32
/-- cells outside A are as they were -/
def fr (A : Nat → Prop) (F F' : Mu) : Prop := ∀ c, ¬ A c → F' c = F c
theorem fr.rf {A : Nat → Prop} {F : Mu} : fr A F F := fun _ _ => rfl
theorem fr.tr {A : Nat → Prop} {F F' F'' : Mu} (h : fr A F F') (h' : fr A F' F'') : fr A F F'' := fun c hc => (h' c hc).trans (h c hc)
theorem fr.mono {A B : Nat → Prop} {F F' : Mu} (h : fr A F F') (hab : ∀ c, A c → B c) : fr B F F' := fun c hc => h c (fun q => hc (hab c q))
theorem fr.up {A : Nat → Prop} {F : Mu} {a k : Nat} {v : Int32} (h : A a) : fr A F (am_up F a k v) := fun c hc => am_up_nc _ _ _ _ _ (fun q => hc (q ▸ h))
theorem fr.get {A : Nat → Prop} {F F' : Mu} (h : fr A F F') {c : Nat} (hc : ¬ A c) (k : Nat) : F' c k = F c k := by rw [h c hc]
/-- ends: nothing, or an int, over a memory with a property -/
def rV (e : Nat × Nat × Bool) (l : Nat → Nat → Int64) (Q : Mu → Prop) : am_K := fun o M' => ∃ F', o = .inl none ∧ M' = mm e F' l ∧ Q F'
def rI (e : Nat × Nat × Bool) (l : Nat → Nat → Int64) (Q : Int32 → Mu → Prop) : am_K := fun o M' => ∃ x F', o = .inl (some (.int x)) ∧ M' = mm e F' l ∧ Q x F'
/-- the class's picture of a mind: row 0 the day, 1 purses, 2 tables, 3 grains, 10 + p the codes -/
def mC (F : Mu) (a : Nat) (μ : Mu) : Prop := F a 0 = μ 0 0 ∧ (∀ p, p < 6 → F (a + 1) p = μ 1 p ∧ F (a + 2) p = μ 2 p ∧ F (a + 3) p = μ 3 p) ∧ ∀ p f, p < 6 → f < 10 → F (a + 4) (p * 10 + f) = μ (10 + p) f
/-- the reference's -/
def mR (F : Mu) (r np : Nat) (μ : Mu) : Prop := F r 0 = μ 0 0 ∧ (∀ p, p < np → F r (1 + p) = μ 1 p ∧ F r (7 + p) = μ 2 p ∧ F r (13 + p) = μ 3 p) ∧ ∀ p f, p < 6 → f < 10 → F r (19 + 10 * p + f) = ld (μ (10 + p) f) ∧ F r (79 + 10 * p + f) = bI (tl (μ (10 + p) f))
def okc (N : Nat) (c : Int32) : Prop := c = NO ∨ ∃ x : Nat, x ≤ N + 100 ∧ (c = nI x ∨ c = am_c (-2) - nI x)
def wM (μ : Mu) (np nf N : Nat) : Prop := (∃ t : Nat, t ≤ N ∧ μ 0 0 = nI t) ∧ (∀ p, p < np → (∃ x : Nat, x ≤ 9999 ∧ μ 1 p = nI x) ∧ (∃ x : Nat, x < 4 ∧ μ 2 p = nI x) ∧ (∃ x : Nat, x ≤ 20 ∧ μ 3 p = nI x)) ∧ (∀ p f, p < 6 → f < 10 → okc N (μ (10 + p) f) ∧ (np ≤ p ∨ nf ≤ f → μ (10 + p) f = NO))
theorem mC.up {F μ : Mu} {a p f : Nat} {v : Int32} (h : mC F a μ) (hp : p < 6) (hf : f < 10) : mC (am_up F (a + 4) (p * 10 + f) v) a (am_up μ (10 + p) f v) := by
  refine ⟨?_, fun q hq => ⟨?_, ?_, ?_⟩, fun q g hq hg => ?_⟩
  · rw [am_up_nc _ _ _ _ _ (by omega), am_up_nc _ _ _ _ _ (by omega)]; exact h.1
  · rw [am_up_nc _ _ _ _ _ (by omega), am_up_nc _ _ _ _ _ (by omega)]; exact (h.2.1 q hq).1
  · rw [am_up_nc _ _ _ _ _ (by omega), am_up_nc _ _ _ _ _ (by omega)]; exact (h.2.1 q hq).2.1
  · rw [am_up_nc _ _ _ _ _ (by omega), am_up_nc _ _ _ _ _ (by omega)]; exact (h.2.1 q hq).2.2
  · by_cases e : q = p ∧ g = f
    · obtain ⟨rfl, rfl⟩ := e
      rw [am_up_eq, am_up_eq]
    · have h2 := h.2.2 q g hq hg
      simp only [am_up]
      rw [if_neg (by omega), if_neg (by omega)]
      exact h2
theorem mC.fr {A : Nat → Prop} {F F' μ : Mu} {a : Nat} (h : mC F a μ) (hf : fr A F F') (hA : ∀ k, k ≤ 4 → ¬ A (a + k)) : mC F' a μ := by
  refine ⟨?_, fun q hq => ⟨?_, ?_, ?_⟩, fun q g hq hg => ?_⟩
  · rw [hf a (hA 0 (by omega))]; exact h.1
  · rw [hf _ (hA 1 (by omega))]; exact (h.2.1 q hq).1
  · rw [hf _ (hA 2 (by omega))]; exact (h.2.1 q hq).2.1
  · rw [hf _ (hA 3 (by omega))]; exact (h.2.1 q hq).2.2
  · rw [hf _ (hA 4 (by omega))]; exact h.2.2 q g hq hg
theorem mR.fr {A : Nat → Prop} {F F' μ : Mu} {r np : Nat} (h : mR F r np μ) (hf : fr A F F') (hA : ¬ A r) : mR F' r np μ := by
  unfold mR
  rw [hf r hA]
  exact h
/-- codes -/
theorem ld_NO : ld NO = NO := by decide
theorem tl_NO : tl NO = false := by decide
theorem rc_NO : rc NO = false := by decide
theorem cd_n {x : Nat} (h : x ≤ 2000000) : ld (nI x) = nI x ∧ tl (nI x) = false ∧ rc (nI x) = true := by
  have h1 : ¬ nI x < NO := by rw [t_lt, t_nI (by omega), t_c (by omega)]; omega
  have h2 : ¬ nI x = NO := by rw [t_eq, t_nI (by omega), t_c (by omega)]; omega
  refine ⟨?_, ?_, ?_⟩
  · rw [ld, if_neg h1]
  · simp [tl, h1]
  · simp [rc, h2]
theorem t_m2 {x : Nat} (h : x ≤ 2000000) : (am_c (-2) - nI x).toInt = -2 - (x : Int) := by
  rw [t_sub (by rw [t_nI (by omega), t_c (by omega)]; omega), t_nI (by omega), t_c (by omega)]
theorem cd_t {x : Nat} (h : x ≤ 2000000) : ld (am_c (-2) - nI x) = nI x ∧ tl (am_c (-2) - nI x) = true ∧ rc (am_c (-2) - nI x) = true := by
  have h1 : am_c (-2) - nI x < NO := by rw [t_lt, t_m2 h, t_c (by omega)]; omega
  have h2 : ¬ am_c (-2) - nI x = NO := by rw [t_eq, t_m2 h, t_c (by omega)]; omega
  refine ⟨?_, ?_, ?_⟩
  · rw [ld, if_pos h1, t_eq, t_sub (by rw [t_m2 h, t_c (by omega)]; omega), t_m2 h, t_c (by omega), t_nI (by omega)]
    omega
  · simp [tl, h1]
  · simp [rc, h2]
theorem ld_ne {N : Nat} {c : Int32} (h : okc N c) (hN : N ≤ 1000000) : (ld c = NO ↔ c = NO) ∧ (c = NO ∨ ∃ x : Nat, x ≤ N + 100 ∧ ld c = nI x) := by
  rcases h with rfl | ⟨x, hx, rfl | rfl⟩
  · exact ⟨⟨fun _ => rfl, fun _ => ld_NO⟩, Or.inl rfl⟩
  · have := cd_n (x := x) (by omega)
    rw [this.1]
    exact ⟨Iff.rfl, Or.inr ⟨x, hx, rfl⟩⟩
  · have h1 := cd_t (x := x) (by omega)
    have h2 := cd_n (x := x) (by omega)
    rw [h1.1]
    refine ⟨⟨fun q => ?_, fun q => ?_⟩, Or.inr ⟨x, hx, rfl⟩⟩
    · rw [q] at h2; exact absurd h2.2.2 (by decide)
    · rw [q] at h1; exact absurd h1.2.2 (by decide)
theorem okc.mono {N N' : Nat} {c : Int32} (h : okc N c) (hn : N ≤ N') : okc N' c := by
  rcases h with h | ⟨x, hx, h⟩
  · exact Or.inl h
  · exact Or.inr ⟨x, by omega, h⟩
theorem wM.up {μ : Mu} {np nf N p f : Nat} {v : Int32} (h : wM μ np nf N) (hp : p < np) (hnp : np ≤ 6) (hf : f < nf) (hv : okc N v) : wM (am_up μ (10 + p) f v) np nf N := by
  obtain ⟨h1, h2, h3⟩ := h
  refine ⟨?_, fun q hq => ?_, fun q g hq hg => ?_⟩
  · rw [am_up_nc _ _ _ _ _ (by omega)]; exact h1
  · rw [am_up_nc _ _ _ _ _ (by omega), am_up_nc _ _ _ _ _ (by omega), am_up_nc _ _ _ _ _ (by omega)]; exact h2 q hq
  · have := h3 q g hq hg
    simp only [am_up]
    by_cases e : 10 + q = 10 + p ∧ g = f
    · rw [if_pos e]
      exact ⟨hv, fun q => by omega⟩
    · rw [if_neg e]
      exact this
