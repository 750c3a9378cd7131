/-! Talks: who can be reached, and by how many. -/
section DS
variable {G : am_G} {d : Nat} {e : Nat × Nat × Bool} {F F' F'' F0 : Nat → Nat → Int32} {l : Nat → Nat → Int64} {a b c r k : Nat} {x y : Int32} {M : am_M} {μ ν τ σ : Mu} {np nf nt nq N : Nat}
def aj (τ : Mu) (nt p q : Nat) : Prop := ∃ k, k < nt ∧ ((τ 9 k = nI p ∧ τ 10 k = nI q) ∨ (τ 10 k = nI p ∧ τ 9 k = nI q))
theorem aj_sw {p q : Nat} : aj τ nt p q ↔ aj τ nt q p := by
  constructor
  · rintro ⟨k, hk, h | h⟩
    · exact ⟨k, hk, Or.inr ⟨h.2, h.1⟩⟩
    · exact ⟨k, hk, Or.inl ⟨h.2, h.1⟩⟩
  · rintro ⟨k, hk, h | h⟩
    · exact ⟨k, hk, Or.inr ⟨h.2, h.1⟩⟩
    · exact ⟨k, hk, Or.inl ⟨h.2, h.1⟩⟩
theorem aj_s {p q n : Nat} : aj τ (n + 1) p q ↔ aj τ n p q ∨ (τ 9 n = nI p ∧ τ 10 n = nI q) ∨ (τ 10 n = nI p ∧ τ 9 n = nI q) := by
  constructor
  · rintro ⟨k, hk, h⟩
    by_cases e : k = n
    · subst e; exact Or.inr h
    · exact Or.inl ⟨k, by omega, h⟩
  · rintro (⟨k, hk, h⟩ | h)
    · exact ⟨k, by omega, h⟩
    · exact ⟨n, by omega, h⟩
theorem tlk.down (h : tlk τ np (nt + 1)) : tlk τ np nt := fun k hk => h k (by omega)
theorem tw_bit (h : tlk τ np nt) (h6 : np ≤ 6) {p q : Nat} (hp : p < 6) (hq : q < 6) : (twI τ nt (nI p)).testBit q = true ↔ aj τ nt p q := by
  unfold twI
  induction nt with
  | zero => 
    rw [fd, Nat.zero_testBit]
    constructor
    · intro q; cases q
    · rintro ⟨k, hk, -⟩; omega
  | succ n ih =>
    obtain ⟨x, y, hx, hy, -, h9, h10⟩ := h n (by omega)
    rw [fd, twS, aj_s, ← ih h.down, h9, h10, nI_clamp (by omega), nI_clamp (by omega), Nat.testBit_or, Nat.testBit_or, Bool.or_eq_true, Bool.or_eq_true, or_assoc]
    have inj : ∀ u v : Nat, u < 6 → v < 6 → (nI u = nI v ↔ u = v) := fun u v hu hv => ⟨fun q => nI_inj (by omega) (by omega) q, fun q => by rw [q]⟩
    simp only [inj x p (by omega) hp, inj y q (by omega) hq, inj y p (by omega) hp, inj x q (by omega) hq]
    refine or_congr Iff.rfl (or_congr ?_ ?_)
    · split
      · rw [Nat.testBit_two_pow, decide_eq_true_iff]; simp [*]
      · simp [*]
    · split
      · rw [Nat.testBit_two_pow, decide_eq_true_iff]; simp [*]
      · simp [*]
def tkS (τ : Mu) (s k v : Nat) : Nat := (v ||| (if s.testBit (τ 9 k).toNatClampNeg = true then 2 ^ (τ 10 k).toNatClampNeg else 0)) ||| (if s.testBit (τ 10 k).toNatClampNeg = true then 2 ^ (τ 9 k).toNatClampNeg else 0)
def tkI (τ : Mu) (nt s : Nat) : Nat := fd (tkS τ s) nt 0
theorem tk_bit (h : tlk τ np nt) (h6 : np ≤ 6) {s q : Nat} : (tkI τ nt s).testBit q = true ↔ ∃ p, p < np ∧ q < np ∧ s.testBit p = true ∧ aj τ nt p q := by
  unfold tkI
  induction nt with
  | zero => 
    rw [fd, Nat.zero_testBit]
    constructor
    · intro q; cases q
    · rintro ⟨_, -, -, -, k, hk, -⟩; omega
  | succ n ih =>
    obtain ⟨x, y, hx, hy, -, h9, h10⟩ := h n (by omega)
    have inj : ∀ u v : Nat, u < 6 → v < 6 → (nI u = nI v ↔ u = v) := fun u v hu hv => ⟨fun q => nI_inj (by omega) (by omega) q, fun q => by rw [q]⟩
    rw [fd, tkS, h9, h10, nI_clamp (by omega), nI_clamp (by omega), Nat.testBit_or, Nat.testBit_or, Bool.or_eq_true, Bool.or_eq_true, ih h.down, or_assoc]
    constructor
    · rintro (⟨p, h1, h2, h3, h4⟩ | h1 | h1)
      · exact ⟨p, h1, h2, h3, aj_s.mpr (Or.inl h4)⟩
      · split at h1
        · rename_i h2
          rw [Nat.testBit_two_pow, decide_eq_true_iff] at h1
          exact ⟨x, hx, by omega, h2, aj_s.mpr (Or.inr (Or.inl ⟨h9, by rw [h10, h1]⟩))⟩
        · simp at h1
      · split at h1
        · rename_i h2
          rw [Nat.testBit_two_pow, decide_eq_true_iff] at h1
          exact ⟨y, hy, by omega, h2, aj_s.mpr (Or.inr (Or.inr ⟨h10, by rw [h9, h1]⟩))⟩
        · simp at h1
    · rintro ⟨p, h1, h2, h3, h4⟩
      rcases aj_s.mp h4 with h4 | ⟨q1, q2⟩ | ⟨q1, q2⟩
      · exact Or.inl ⟨p, h1, h2, h3, h4⟩
      · rw [h9, inj _ _ (by omega) (by omega)] at q1
        rw [h10, inj _ _ (by omega) (by omega)] at q2
        subst q1 q2
        rw [if_pos h3]
        exact Or.inr (Or.inl (by rw [Nat.testBit_two_pow, decide_eq_true_iff]))
      · rw [h10, inj _ _ (by omega) (by omega)] at q1
        rw [h9, inj _ _ (by omega) (by omega)] at q2
        subst q1 q2
        rw [if_pos h3]
        exact Or.inr (Or.inr (by rw [Nat.testBit_two_pow, decide_eq_true_iff]))
/-- who is reached by some talks -/
def rsT (τ : Mu) (nt v : Nat) : Nat := v ||| tkI τ nt v
def rs (τ : Mu) (nt x : Nat) : Nat → Nat
  | 0 => x
  | s + 1 => rsT τ nt (rs τ nt x s)
theorem rsT_lt (h : tlk τ np nt) (h6 : np ≤ 6) {v : Nat} (hv : v < 64) : rsT τ nt v < 64 := by
  refine Nat.or_lt_two_pow (n := 6) hv ?_
  apply Nat.lt_of_not_le
  intro q
  have : ∃ i, 6 ≤ i ∧ (tkI τ nt v).testBit i = true := Nat.exists_ge_and_testBit_of_ge_two_pow q
  obtain ⟨i, hi, hb⟩ := this
  obtain ⟨p, -, h2, -⟩ := (tk_bit h h6).mp hb
  omega
theorem rs_lt (h : tlk τ np nt) (h6 : np ≤ 6) {x : Nat} (hv : x < 64) (s : Nat) : rs τ nt x s < 64 := by
  induction s with
  | zero => exact hv
  | succ s ih => exact rsT_lt h h6 ih
/-- the class's step -/
theorem rsT_cl (h : tlk τ np nt) (h6 : np ≤ 6) {v : Nat} (hv : v < 64) : v ||| bs (fun p => !v.testBit p && !decide (twI τ nt (nI p) &&& v = 0)) np = rsT τ nt v := by
  unfold rsT
  apply Nat.eq_of_testBit_eq
  intro q
  rw [Nat.testBit_or, Nat.testBit_or, bs_bit]
  cases hq : v.testBit q
  · rw [Bool.false_or, Bool.false_or]
    apply Bool.eq_iff_iff.mpr
    rw [tk_bit h h6]
    simp only [Bool.not_false, Bool.true_and, Bool.and_eq_true, decide_eq_true_eq, Bool.not_eq_true', decide_eq_false_iff_not, hq]
    constructor
    · rintro ⟨h1, h2⟩
      have : ∃ i, (twI τ nt (nI q) &&& v).testBit i = true := Nat.exists_testBit_of_ne_zero h2
      obtain ⟨i, hi⟩ := this
      rw [Nat.testBit_and, Bool.and_eq_true] at hi
      have hi6 : i < 6 := by
        apply Nat.lt_of_not_le
        intro q'
        rw [Nat.testBit_lt_two_pow (Nat.lt_of_lt_of_le hv (show 2 ^ 6 ≤ 2 ^ i from Nat.pow_le_pow_right (by decide) q'))] at hi
        exact absurd hi.2 (by decide)
      have ha := aj_sw.mp ((tw_bit h h6 (show q < 6 by omega) hi6).mp hi.1)
      have hin : i < np := by
        obtain ⟨k, hk, hh⟩ := ha
        obtain ⟨x, y, hx, hy, -, h9, h10⟩ := h k hk
        rcases hh with hh | hh
        · rw [h9] at hh; have := nI_inj (by omega) (by omega) hh.1; omega
        · rw [h10] at hh; have := nI_inj (by omega) (by omega) hh.1; omega
      exact ⟨i, hin, h1, hi.2, ha⟩
    · rintro ⟨p, h1, h2, h3, h4⟩
      refine ⟨h2, fun h0 => ?_⟩
      have hb : (twI τ nt (nI q) &&& v).testBit p = true := by
        rw [Nat.testBit_and, h3, (tw_bit h h6 (by omega) (by omega)).mpr (aj_sw.mp h4)]; rfl
      rw [h0, Nat.zero_testBit] at hb
      cases hb
  · rw [Bool.true_or, Bool.true_or]
def cn (v : Nat) : Nat → Nat
  | 0 => 0
  | n + 1 => cn v n + (if v.testBit n = true then 1 else 0)
theorem cn_le (v n : Nat) : cn v n ≤ n := by
  induction n with
  | zero => exact Nat.le_refl _
  | succ n ih => rw [cn]; split <;> omega
theorem cn_all {v n : Nat} (h : n ≤ cn v n) : ∀ i, i < n → v.testBit i = true := by
  induction n with
  | zero => intro i hi; omega
  | succ n ih =>
    rw [cn] at h
    have := cn_le v n
    intro i hi
    split at h
    · rename_i hb
      by_cases e : i = n
      · subst e; exact hb
      · exact ih (by omega) i (by omega)
    · omega
theorem cn_mono {v w n : Nat} (h : ∀ i, i < n → v.testBit i = true → w.testBit i = true) : cn v n ≤ cn w n := by
  induction n with
  | zero => exact Nat.le_refl _
  | succ n ih =>
    rw [cn, cn]
    have := ih (fun i hi => h i (by omega))
    have h2 := h n (by omega)
    split
    · rename_i hb; rw [if_pos (h2 hb)]; omega
    · omega
theorem cn_lt {v w n i : Nat} (h : ∀ i, i < n → v.testBit i = true → w.testBit i = true) (hi : i < n) (h1 : v.testBit i = false) (h2 : w.testBit i = true) : cn v n < cn w n := by
  induction n with
  | zero => omega
  | succ n ih =>
    rw [cn, cn]
    by_cases e : i = n
    · subst e
      have := cn_mono (n := i) (fun j hj => h j (by omega))
      rw [h1, h2, if_neg (by decide), if_pos rfl]
      omega
    · have := ih (fun i hi => h i (by omega)) (by omega)
      have h3 := h n (by omega)
      split
      · rename_i hb; rw [if_pos (h3 hb)]; omega
      · omega
theorem rs_up {x s i : Nat} (h : (rs τ nt x s).testBit i = true) : (rs τ nt x (s + 1)).testBit i = true := by
  show (rs τ nt x s ||| _).testBit i = true
  rw [Nat.testBit_or, h]; rfl
theorem rs_le {x s t i : Nat} (hst : s ≤ t) (h : (rs τ nt x s).testBit i = true) : (rs τ nt x t).testBit i = true := by
  induction t with
  | zero => rw [show s = 0 by omega] at h; exact h
  | succ t ih =>
    by_cases e : s = t + 1
    · subst e; exact h
    · exact rs_up (ih (by omega))
theorem rs_st {x s t : Nat} (hst : s ≤ t) (h : rs τ nt x (s + 1) = rs τ nt x s) : rs τ nt x t = rs τ nt x s := by
  induction t with
  | zero => rw [show s = 0 by omega]
  | succ t ih =>
    by_cases e : s = t + 1
    · subst e; rfl
    · have := ih (by omega)
      rw [rs, this]
      exact h
theorem rs_grow (h : tlk τ np nt) (h6 : np ≤ 6) {x s : Nat} (hn : ¬ rs τ nt x (s + 1) = rs τ nt x s) : cn (rs τ nt x s) np < cn (rs τ nt x (s + 1)) np := by
  apply Classical.byContradiction
  intro hc
  apply hn
  apply Nat.eq_of_testBit_eq
  intro i
  cases hb : (rs τ nt x s).testBit i
  · cases hb2 : (rs τ nt x (s + 1)).testBit i
    · rfl
    · exfalso
      have h3 := hb2
      rw [rs, rsT, Nat.testBit_or, hb, Bool.false_or, tk_bit h h6] at h3
      obtain ⟨p, -, hi, -⟩ := h3
      exact hc (cn_lt (fun j _ hj => rs_up hj) hi hb hb2)
  · exact rs_up hb
theorem rs_sat (h : tlk τ np nt) (h6 : np ≤ 6) {x : Nat} (s : Nat) : s + 1 ≤ cn (rs τ nt x s) np ∨ rs τ nt x (s + 1) = rs τ nt x s := by
  induction s with
  | zero =>
    by_cases hc : rs τ nt x (0 + 1) = rs τ nt x 0
    · exact Or.inr hc
    · left
      show 1 ≤ cn x np
      apply Nat.lt_of_not_le
      intro h0
      apply hc
      apply Nat.eq_of_testBit_eq
      intro i
      show (rsT τ nt x).testBit i = x.testBit i
      rw [rsT, Nat.testBit_or]
      cases hb : (tkI τ nt x).testBit i
      · rw [Bool.or_false]
      · obtain ⟨p, hp, -, h3, -⟩ := (tk_bit h h6).mp hb
        have := cn_lt (v := 0) (w := x) (n := np) (i := p) (fun j _ hj => by rw [Nat.zero_testBit] at hj; cases hj) hp (Nat.zero_testBit _) h3
        omega
  | succ s ih =>
    by_cases hc : rs τ nt x (s + 1) = rs τ nt x s
    · right
      rw [rs_st (t := s + 1 + 1) (by omega) hc, hc]
    · rcases ih with ih | ih
      · have := rs_grow h h6 hc
        left; omega
      · exact absurd ih hc
theorem rs_end (h : tlk τ np nt) (h6 : np ≤ 6) {x p : Nat} (hp : p < np) {t : Nat} (ht : (rs τ nt x t).testBit p = true) : ∃ s, s < np ∧ (rs τ nt x s).testBit p = true := by
  refine ⟨np - 1, by omega, ?_⟩
  rcases rs_sat h h6 (x := x) (np - 1) with h1 | h1
  · exact cn_all (by omega) p hp
  · by_cases e : t ≤ np - 1
    · exact rs_le e ht
    · rw [← rs_st (t := t) (by omega) h1]; exact ht
theorem ff_cut {q : Nat → Bool} {n m : Nat} (hnm : n ≤ m) (h : ∀ i, i < m → q i = true → ∃ j, j < n ∧ q j = true) : ff q m = ff q n := by
  induction m with
  | zero => rw [show n = 0 by omega]
  | succ m ih =>
    by_cases e : n = m + 1
    · rw [e]
    · have hi := ih (by omega) (fun i hi => h i (by omega))
      rw [ff, hi]
      cases hf : ff q n with
      | some k => rfl
      | none =>
        have hq : q m = false := by
          cases hb : q m
          · rfl
          · obtain ⟨j, hj, hj2⟩ := h m (by omega) hb
            have : ∀ n, j < n → ff q n ≠ none := by
              intro n
              induction n with
              | zero => intro hj; omega
              | succ n ih2 =>
                intro hj
                rw [ff]
                by_cases e2 : j = n
                · subst e2
                  cases ff q j
                  · rw [hj2]; simp
                  · simp
                · cases hh : ff q n
                  · exact absurd hh (ih2 (by omega))
                  · simp
            exact absurd hf (this n hj)
        rw [hq]; rfl
/-- by how many talks one is reached -/
def dsI (τ : Mu) (nt x p : Nat) : Option Nat := ff (fun s => (rs τ nt x s).testBit p) 6
theorem ds_np (h : tlk τ np nt) (h6 : np ≤ 6) {x p : Nat} (hp : p < np) : ff (fun s => (rs τ nt x s).testBit p) (np + 1) = dsI τ nt x p := by
  unfold dsI
  rw [ff_cut (n := np) (m := np + 1) (by omega) (fun i _ hi => rs_end h h6 hp hi), ff_cut (n := np) (m := 6) (by omega) (fun i _ hi => rs_end h h6 hp hi)]
end DS
