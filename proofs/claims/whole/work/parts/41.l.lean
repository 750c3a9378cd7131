/-! A day, by the reference: what holds of the ideal. -/
section CL
variable {G : am_G} {d : Nat} {e : Nat × Nat × Bool} {F F' : Nat → Nat → Int32} {l : Nat → Nat → Int64} {a b r : Nat} {M : am_M} {μ ν τ : Mu} {np nf nt nq N : Nat}
def buG (sk : Nat → Bool) (price : Int32) (p : Nat) (μ : Mu) : Mu :=
  am_up (am_up (am_up μ 1 p (μ 1 p - gbI μ p price (sk p) * price)) 5 (seat μ p) (μ 5 (seat μ p) + gbI μ p price (sk p))) 6 (seat μ p) (μ 6 (seat μ p) + nI 1)
theorem bu_SG {sick price : Int32} : buS sick price = buG (fun p => decide (nI p = sick)) price := rfl
theorem prI_b {day : Int32} (h : ∀ k, k < nq → ∃ y : Nat, y ≤ 99 ∧ τ 12 k = nI y) : ∃ y : Nat, y ≤ 99 ∧ prI τ nq day = nI y := by
  unfold prI
  refine fd_inv (fun x : Int32 × Int32 => ∃ y : Nat, y ≤ 99 ∧ x.2 = nI y) ⟨5, by omega, rfl⟩ (fun k y hk hy => ?_)
  unfold prS
  split
  · exact h k hk
  · exact hy
theorem gb_b {p y : Nat} {sk : Bool} (h : wM μ np nf N) (hp : p < np) (hy : y ≤ 99) : ∃ m x : Nat, μ 1 p = nI x ∧ x ≤ 9999 ∧ gbI μ p (nI y) sk = nI m ∧ m ≤ 20 ∧ m * y ≤ x := by
  obtain ⟨⟨x, hx, h1⟩, -, ⟨g, hg, h3⟩⟩ := h.2.1 p hp
  unfold gbI
  rw [h1, h3]
  by_cases hs : sk = true
  · rw [if_pos hs]
    exact ⟨0, x, rfl, hx, rfl, by omega, by omega⟩
  · rw [if_neg hs]
    by_cases h0 : nI 0 < nI y
    · rw [if_pos h0, nI_div (by omega) (by omega)]
      have h4 : x / y ≤ x := Nat.div_le_self x y
      rw [mn_n (by omega) (by omega)]
      refine ⟨_, x, rfl, hx, rfl, by omega, ?_⟩
      exact Nat.le_trans (Nat.mul_le_mul_right y (Nat.min_le_right g (x / y))) (Nat.div_mul_le_self x y)
    · rw [if_neg h0]
      have : y = 0 := by rw [t_lt, t_nI (by omega), t_nI (by omega)] at h0; omega
      subst this
      exact ⟨g, x, rfl, hx, rfl, hg, by omega⟩
theorem wM.alike (h : wM μ np nf N) (h0 : ∀ i, i ≤ 3 ∨ 10 ≤ i → ν i = μ i) : wM ν np nf N := by
  refine ⟨?_, fun p hp => ?_, fun p f hp hf => ?_⟩
  · rw [h0 0 (by omega)]; exact h.1
  · rw [h0 1 (by omega), h0 2 (by omega), h0 3 (by omega)]; exact h.2.1 p hp
  · rw [h0 _ (by omega)]; exact h.2.2 p f hp hf
theorem wM.up1 {p x : Nat} (h : wM μ np nf N) (hx : x ≤ 9999) : wM (am_up μ 1 p (nI x)) np nf N := by
  refine ⟨?_, fun q hq => ?_, fun q f hq hf => ?_⟩
  · rw [am_up_nc _ _ _ _ _ (by omega)]; exact h.1
  · rw [am_up_nc _ _ _ 2 _ (by omega), am_up_nc _ _ _ 3 _ (by omega)]
    refine ⟨?_, (h.2.1 q hq).2⟩
    by_cases e : q = p
    · subst e; rw [am_up_eq]; exact ⟨x, hx, rfl⟩
    · rw [am_up_nk _ _ _ _ _ e]; exact (h.2.1 q hq).1
  · rw [am_up_nc _ _ _ _ _ (by omega)]; exact h.2.2 q f hq hf
theorem bu_w {sk : Nat → Bool} {p y : Nat} (h : wM μ np nf N) (hp : p < np) (hy : y ≤ 99) : wM (buG sk (nI y) p μ) np nf N := by
  obtain ⟨m, x, h1, h2, h3, h4, h5⟩ := gb_b (sk := sk p) h hp hy
  have e1 : μ 1 p - gbI μ p (nI y) (sk p) * nI y = nI (x - m * y) := by rw [h1, h3, nI_mul, nI_sub h5]
  unfold buG
  rw [e1]
  refine (h.up1 (p := p) (x := x - m * y) (by omega)).alike (fun i hi => ?_)
  rw [am_up_nc _ _ _ _ _ (by omega), am_up_nc _ _ _ _ _ (by omega)]
theorem cl_w (h : wM μ np nf N) : wM (cl56 μ) np nf N := h.alike (fun i hi => cl56_r (by omega) (by omega))
theorem buN_w {sk : Nat → Bool} {k y : Nat} (h : wM μ np nf N) (hk : k ≤ np) (hy : y ≤ 99) : wM (fd (buG sk (nI y)) k (cl56 μ)) np nf N :=
  fd_inv (fun ν : Mu => wM ν np nf N) (cl_w h) (fun i z hi hz => bu_w hz (by omega) hy)
theorem buG_r {sk : Nat → Bool} {q : Int32} {k : Nat} : fd (buG sk q) k (cl56 μ) 2 = μ 2 ∧ fd (buG sk q) k (cl56 μ) 0 = μ 0 := by
  refine fd_inv (fun ν : Mu => ν 2 = μ 2 ∧ ν 0 = μ 0) ⟨cl56_r (by omega) (by omega), cl56_r (by omega) (by omega)⟩ (fun i y _ h => ?_)
  unfold buG
  rw [am_up_nc _ _ _ 2 _ (by omega), am_up_nc _ _ _ 2 _ (by omega), am_up_nc _ _ _ 2 _ (by omega), am_up_nc _ _ _ 0 _ (by omega), am_up_nc _ _ _ 0 _ (by omega), am_up_nc _ _ _ 0 _ (by omega)]
  exact h
/-- how many sit where, and how much is bought there -/
theorem bu_cnt {sk : Nat → Bool} {k y : Nat} (h : wM μ np nf N) (hk : k ≤ np) (hy : y ≤ 99) (t : Nat) (ht : t < 4) :
    (fd (buG sk (nI y)) k (cl56 μ)) 6 t = nI (ct (fun p => decide (seat μ p = t)) k) ∧ ∃ s : Nat, s ≤ 20 * ct (fun p => decide (seat μ p = t)) k ∧ (fd (buG sk (nI y)) k (cl56 μ)) 5 t = nI s := by
  induction k with
  | zero =>
    refine ⟨?_, 0, by omega, ?_⟩
    · show cl56 μ 6 t = _
      unfold cl56
      rw [fl_in ht]; rfl
    · show cl56 μ 5 t = _
      unfold cl56
      rw [fl_nc (by omega), fl_in ht]
  | succ k ih =>
    obtain ⟨h1, s, h2, h3⟩ := ih (by omega)
    have hw := buN_w (sk := sk) (k := k) h (by omega) hy
    have hr := (@buG_r μ sk (nI y) k).1
    rw [fd]
    generalize fd (buG sk (nI y)) k (cl56 μ) = ν at h1 h3 hw hr
    obtain ⟨m, x, g1, g2, g3, g4, g5⟩ := gb_b (sk := sk k) hw (show k < np by omega) hy
    have hs : seat ν k = seat μ k := by unfold seat; rw [hr]
    unfold buG
    rw [hs, g3]
    rw [ct]
    by_cases e : seat μ k = t
    · rw [e, am_up_eq, am_up_nc _ _ _ 5 _ (by omega), am_up_eq, h1, h3, nI_add, nI_add]
      simp only [decide_true, if_true]
      exact ⟨trivial, s + m, by omega, rfl⟩
    · have e' : ¬ t = seat μ k := fun q => e q.symm
      rw [am_up_nk _ _ _ _ _ e', am_up_nc _ _ _ 6 _ (by omega), am_up_nc _ _ _ 6 _ (by omega), am_up_nc _ _ _ 5 _ (by omega), am_up_nk _ _ _ _ _ e', am_up_nc _ _ _ 5 _ (by omega), h1, h3]
      rw [decide_eq_false e]
      exact ⟨rfl, s, by simpa using h2, rfl⟩
theorem ct_pos {q : Nat → Bool} {n k : Nat} (hk : k < n) (h : q k = true) : 1 ≤ ct q n := by
  induction n with
  | zero => omega
  | succ n ih =>
    rw [ct]
    by_cases e : k = n
    · subst e; rw [h, if_pos rfl]; omega
    · have := ih (by omega); omega
theorem seat_b (h : wM μ np nf N) {p : Nat} (hp : p < np) : seat μ p < 4 ∧ μ 2 p = nI (seat μ p) := by
  obtain ⟨-, ⟨t, ht, h2⟩, -⟩ := h.2.1 p hp
  unfold seat
  rw [h2, nI_clamp (by omega)]
  exact ⟨ht, rfl⟩
/-- what is eaten is no more than twenty -/
theorem sh_b {sk : Nat → Bool} {y : Nat} {sick : Int32} (h : wM μ np nf N) (h6 : np ≤ 6) (hy : y ≤ 99) (hν : ∀ i, i < 10 → ν i = fd (buG sk (nI y)) np (cl56 μ) i) {p : Nat} (hp : p < np) :
    (¬ ν 6 (seat ν p) = nI 0) ∧ ∃ x : Nat, x ≤ 20 ∧ shI ν sick p = nI x := by
  have e2 : seat ν p = seat μ p := by unfold seat; rw [hν 2 (by omega), (@buG_r μ sk (nI y) np).1]
  obtain ⟨h1, s, h2, h3⟩ := bu_cnt (sk := sk) (k := np) h (Nat.le_refl _) hy (seat μ p) (seat_b h hp).1
  have hc := ct_pos (q := fun q => decide (seat μ q = seat μ p)) hp (by simp)
  have hc2 := ct_le (fun q => decide (seat μ q = seat μ p)) np
  generalize ct (fun q => decide (seat μ q = seat μ p)) np = c at h1 h2 hc hc2
  have hn : ¬ ν 6 (seat ν p) = nI 0 := by
    rw [e2, hν 6 (by omega), h1]
    intro q
    have := nI_inj (by omega) (by omega) q
    omega
  refine ⟨hn, ?_⟩
  unfold shI
  by_cases hs : nI p = sick
  · rw [if_pos hs]; exact ⟨0, by omega, rfl⟩
  · rw [if_neg hs, if_neg hn, e2, hν 6 (by omega), hν 5 (by omega), h1, h3, nI_div (by omega) (by omega)]
    refine ⟨_, ?_, rfl⟩
    exact Nat.div_le_of_le_mul (by rw [Nat.mul_comm]; exact h2)
def diG (τ : Mu) (nf np : Nat) (sick feast : Int32) (p : Nat) (μ : Mu) : Mu := if feast = NO then eaR τ nf p (shI μ sick p) (μ 6 (seat μ p)) μ else eaR τ nf p (feast / nI np) (nI np) μ
theorem diG_r {k : Nat} {sick feast : Int32} {i : Nat} (hi : i < 10) : fd (diG τ nf np sick feast) k μ i = μ i := by
  refine fd_inv (fun ν : Mu => ν i = μ i) rfl (fun k y _ h => ?_)
  unfold diG
  split <;> rw [eaR_r hi] <;> exact h
theorem diG_w {k : Nat} {sick feast : Int32} (h : wM μ np nf N) (hN : N ≤ 1000000) (h6 : np ≤ 6) (h10 : nf ≤ 10) (hk : k ≤ np) : wM (fd (diG τ nf np sick feast) k μ) np nf N := by
  refine fd_inv (fun ν : Mu => wM ν np nf N) h (fun k y hk hy => ?_)
  unfold diG
  split <;> exact eaR_w hy hN (by omega) h6 h10
theorem leS_w {f p : Nat} (h : wM μ np nf N) (hN : N ≤ 1000000) (hp : p < np) (h6 : np ≤ 6) (hf : f < nf) (h10 : nf ≤ 10) : wM (leS τ f p μ) np nf N := by
  unfold leS
  split
  · refine h.up hp h6 hf ?_
    obtain ⟨t, ht, hdy⟩ := h.1
    split
    · rw [hdy]; exact Or.inr ⟨t, by omega, Or.inl rfl⟩
    · rename_i hc
      rcases (ld_ne (h.2.2 p f (by omega) (by omega)).1 hN).2 with h1 | ⟨x, hx, h1⟩
      · exact absurd h1 hc
      · rw [h1]; exact Or.inr ⟨x, hx, Or.inl rfl⟩
  · exact h
theorem leSN_w {f k : Nat} (h : wM μ np nf N) (hN : N ≤ 1000000) (h6 : np ≤ 6) (hf : f < nf) (h10 : nf ≤ 10) (hk : k ≤ np) : wM (fd (leS τ f) k μ) np nf N :=
  fd_inv (fun ν : Mu => wM ν np nf N) h (fun i y hi hy => leS_w hy hN (by omega) h6 hf h10)
theorem leT_w {k : Nat} (h : wM μ np nf N) (hN : N ≤ 1000000) (h6 : np ≤ 6) (h10 : nf ≤ 10) (hk : k ≤ nf) : wM (fd (leT τ np) k μ) np nf N := by
  refine fd_inv (fun ν : Mu => wM ν np nf N) h (fun i y hi hy => ?_)
  unfold leT
  split
  · exact leSN_w hy hN h6 (by omega) h10 (Nat.le_refl _)
  · exact hy
theorem mi_w (h : wM μ np nf N) (hN : N < 1000000) (h6 : np ≤ 6) (k : Nat) (hk : k ≤ np) : wM (fd (fun p x => fd (loS p) 10 x) k (am_up μ 0 0 (μ 0 0 + nI 1), 0)).1 np nf (N + 1) := by
  obtain ⟨t, ht, hdy⟩ := h.1
  rw [hdy, nI_add]
  exact fd_inv (fun x : Mu × Nat => wM x.1 np nf (N + 1)) (h.up0 (by omega) (by omega)) (fun i y hi hy => loN_w (c := y.2) hy h6 (by omega) (by omega))
/-- a day with its feast -/
def skB (sick feast : Int32) (p : Nat) : Bool := decide (nI p = sick) || !decide (feast = NO)
def dnR (τ : Mu) (np nf nq : Nat) (sick feast : Int32) (μ : Mu) : Mu := fd (diG τ nf np sick feast) np (leI τ np nf (fd (buG (skB sick feast) (prI τ nq (μ 0 0))) np (cl56 μ)))
theorem dn_w {sick feast : Int32} (h : wM μ np nf N) (hN : N < 1000000) (h6 : np ≤ 6) (h10 : nf ≤ 10) (hq : ∀ k, k < nq → ∃ y : Nat, y ≤ 99 ∧ τ 12 k = nI y) : wM (dnR τ np nf nq sick feast μ) np nf N := by
  unfold dnR
  obtain ⟨y, hy, hpr⟩ := prI_b (day := μ 0 0) hq
  rw [hpr]
  exact diG_w (leT_w (buN_w h (Nat.le_refl _) hy) (by omega) h6 h10 (Nat.le_refl _)) (by omega) h6 h10 (Nat.le_refl _)
theorem dn_eq {sick : Int32} (h : wM μ np nf N) (hN : N < 1000000) (h6 : np ≤ 6) (h10 : nf ≤ 10) (hq : ∀ k, k < nq → ∃ y : Nat, y ≤ 99 ∧ τ 12 k = nI y) : dyI τ np nf nq sick μ = miI np (dnR τ np nf nq sick NO μ) := by
  unfold dyI dnR
  refine congrArg (miI np) ?_
  unfold buI
  obtain ⟨y, hy, hpr⟩ := prI_b (day := μ 0 0) hq
  have e1 : skB sick NO = fun p => decide (nI p = sick) := by funext p; simp [skB]
  rw [hpr, bu_SG, e1]
  refine fd_congr (fun ν : Mu => ∀ i, i < 10 → ν i = fd (buG (fun p => decide (nI p = sick)) (nI y)) np (cl56 μ) i) (fun i hi => leI_r hi) (fun k z hk hz i hi => ?_) (fun k z hk hz => ?_)
  · unfold diS
    rw [eaI_r hi]; exact hz i hi
  · unfold diS diG
    rw [if_pos rfl]
    obtain ⟨x, hx, hs⟩ := (sh_b (sick := sick) h h6 hy hz hk).2
    rw [hs, ea_eq (by omega)]
theorem dy_w {sick : Int32} (h : wM μ np nf N) (hN : N < 1000000) (h6 : np ≤ 6) (h10 : nf ≤ 10) (hq : ∀ k, k < nq → ∃ y : Nat, y ≤ 99 ∧ τ 12 k = nI y) : wM (dyI τ np nf nq sick μ).1 np nf (N + 1) := by
  rw [dn_eq h hN h6 h10 hq]
  exact mi_w (dn_w h hN h6 h10 hq) hN h6 np (Nat.le_refl _)
end CL
