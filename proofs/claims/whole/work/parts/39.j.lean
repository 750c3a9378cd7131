/-! Numbers and codes for days; pictures of the reference. -/
section CJ
variable {G : am_G} {d : Nat} {e : Nat × Nat × Bool} {F F' : Nat → Nat → Int32} {l : Nat → Nat → Int64} {a b r : Nat} {M : am_M} {μ ν τ : Mu} {np nf nt nq N : Nat}
theorem nI_div {x y : Nat} (hx : x < 2147483648) (hy : y < 2147483648) : nI x / nI y = nI (x / y) := by
  have h3 : x / y < 2147483648 := Nat.lt_of_le_of_lt (Nat.div_le_self x y) hx
  rw [t_eq, Int32.toInt_div, t_nI hx, t_nI hy, t_nI h3, ← Int.ofNat_tdiv]
  generalize x / y = z at h3 ⊢
  exact t_bm (by omega)
theorem nI_inj {x y : Nat} (hx : x < 2147483648) (hy : y < 2147483648) (h : nI x = nI y) : x = y := by
  rw [t_eq, t_nI hx, t_nI hy] at h; omega
theorem nI_NO {x : Nat} (hx : x < 2147483648) : ¬ nI x = NO := by rw [t_eq, t_nI hx, t_c (by omega)]; omega
theorem mx_n {x y : Nat} (hx : x < 2147483648) (hy : y < 2147483648) : am_mx (nI x) (nI y) = nI (max x y) := by
  unfold am_mx
  split
  · rename_i h; rw [t_lt, t_nI hx, t_nI hy] at h; rw [Nat.max_eq_right (by omega)]
  · rename_i h; rw [t_lt, t_nI hx, t_nI hy] at h; rw [Nat.max_eq_left (by omega)]
theorem mn_n {x y : Nat} (hx : x < 2147483648) (hy : y < 2147483648) : am_mn (nI x) (nI y) = nI (min x y) := by
  unfold am_mn
  split
  · rename_i h; rw [t_lt, t_nI hx, t_nI hy] at h; rw [Nat.min_eq_right (by omega)]
  · rename_i h; rw [t_lt, t_nI hx, t_nI hy] at h; rw [Nat.min_eq_left (by omega)]
theorem clp_lo {v : Int32} (h : v < nI 0) : clp v = nI 0 := by
  unfold clp am_mx am_mn
  rw [t_lt, t_nI (by omega)] at h
  have h1 : v < nI 99 := by rw [t_lt, t_nI (by omega)]; omega
  have h2 : ¬ nI 0 < v := by rw [t_lt, t_nI (by omega)]; omega
  rw [if_pos h1, if_neg h2]
theorem clp_hi {v : Int32} (h : nI 99 < v) : clp v = nI 99 := by
  unfold clp am_mx am_mn
  rw [t_lt, t_nI (by omega)] at h
  have h1 : ¬ v < nI 99 := by rw [t_lt, t_nI (by omega)]; omega
  rw [if_neg h1, if_pos (by decide)]
theorem clp_in {v : Int32} (h : nI 0 ≤ v) (h' : v ≤ nI 99) : clp v = v := by
  unfold clp am_mx am_mn
  rw [t_le, t_nI (by omega)] at h h'
  by_cases e : v.toInt = 99
  · have : v = nI 99 := by rw [t_eq, t_nI (by omega)]; omega
    subst this; decide
  · have h1 : v < nI 99 := by rw [t_lt, t_nI (by omega)]; omega
    rw [if_pos h1]
    by_cases e0 : v.toInt = 0
    · have : v = nI 0 := by rw [t_eq, t_nI (by omega)]; omega
      subst this; decide
    · have h2 : nI 0 < v := by rw [t_lt, t_nI (by omega)]; omega
      rw [if_pos h2]
theorem clp_b (v : Int32) : ∃ q : Nat, q ≤ 99 ∧ clp v = nI q := by
  by_cases h1 : v < nI 0
  · exact ⟨0, by omega, clp_lo h1⟩
  · by_cases h2 : nI 99 < v
    · exact ⟨99, by omega, clp_hi h2⟩
    · have h3 := Int32.not_lt.mp h1
      have h4 := Int32.not_lt.mp h2
      rw [clp_in h3 h4]
      rw [t_le, t_nI (by omega)] at h3 h4
      obtain ⟨k, hk, hv⟩ := nI_of3 (x := v) (n := 100) (by omega) (by omega)
      exact ⟨k, by omega, hv⟩
theorem clp_n {x : Nat} (h : x ≤ 99) : clp (nI x) = nI x := clp_in (by rw [t_le, t_nI (by omega), t_nI (by omega)]; omega) (by rw [t_le, t_nI (by omega), t_nI (by omega)]; omega)
/-- what becomes of a code -/
theorem nw_ld {c dy kept : Int32} {t q : Nat} (h : okc N c) (hN : N ≤ 1000000) (hc : ¬ c = NO) (ht : t ≤ N) (hdy : dy = nI t) (hq : q ≤ 99) (hk : kept = nI q) :
    ld (nwI dy c kept) = am_mx (ld c) (dy + kept) ∧ tl (nwI dy c kept) = tl c ∧ okc N (nwI dy c kept) ∧ ¬ nwI dy c kept = NO := by
  subst hdy hk
  rw [nI_add]
  rcases h with h | ⟨x, hx, rfl | rfl⟩
  · exact absurd h hc
  · have g := cd_n (x := x) (by omega)
    have e1 : nwI (nI t) (nI x) (nI q) = nI (max x (t + q)) := by
      unfold nwI
      rw [g.2.1, if_neg (by decide), g.1, nI_add, mx_n (by omega) (by omega)]
    have g2 := cd_n (x := max x (t + q)) (by omega)
    rw [e1, g2.1, g2.2.1, g.1, g.2.1, mx_n (by omega) (by omega)]
    exact ⟨rfl, rfl, Or.inr ⟨_, by omega, Or.inl rfl⟩, nI_NO (by omega)⟩
  · have g := cd_t (x := x) (by omega)
    have e1 : nwI (nI t) (am_c (-2) - nI x) (nI q) = am_c (-2) - nI (max x (t + q)) := by
      unfold nwI
      rw [g.2.1, if_pos rfl, g.1, nI_add, mx_n (by omega) (by omega)]
    have g2 := cd_t (x := max x (t + q)) (by omega)
    rw [e1, g2.1, g2.2.1, g.1, g.2.1, mx_n (by omega) (by omega)]
    refine ⟨rfl, rfl, Or.inr ⟨_, by omega, Or.inr rfl⟩, rc_t.mp g2.2.2⟩
/-- the reference's picture of a tale -/
def fR (F τ : Mu) (np nf : Nat) : Prop := F 142 1 = nI np ∧ np ≤ 6 ∧ F 142 2 = nI nf ∧ nf ≤ 10 ∧ ∀ f, f < nf → F 143 (6 * f) = τ 3 f ∧ F 143 (6 * f + 1) = τ 4 f ∧ F 143 (6 * f + 2) = τ 5 f ∧ F 143 (6 * f + 3) = τ 6 f ∧ F 143 (6 * f + 4) = τ 7 f ∧ F 143 (6 * f + 5) = τ 8 f
def kR (F τ : Mu) : Prop := (τ 0 4 = nI 0 ∧ F 142 5 = NO) ∨ (τ 0 4 = nI 1 ∧ ∃ n ka : Nat, n ≤ 700 ∧ τ 13 1 = nI n ∧ rok (τ 14) n ∧ F 142 5 = nI ka ∧ (∀ i, i < n → rS (F 148) (ka + ps (τ 14) i) (τ 14 i)) ∧ F 148 (ka + ps (τ 14) n) = nI 0 ∧ ka + ps (τ 14) n < 1900)
def tR (F τ : Mu) (np nf nq : Nat) : Prop := fR F τ np nf ∧ kR F τ ∧ qR F τ nq
theorem tR.fr' (h : tR F τ np nf nq) (h2 : ∀ k, 1 ≤ k → k ≤ 5 → F' 142 k = F 142 k) (h3 : F' 143 = F 143) (h5 : F' 145 = F 145) (h8 : F' 148 = F 148) : tR F' τ np nf nq := by
  obtain ⟨a1, a2, a3⟩ := h
  refine ⟨?_, ?_, ?_⟩
  · unfold fR at *
    rw [h2 1 (by omega) (by omega), h2 2 (by omega) (by omega), h3]
    exact a1
  · unfold kR at *
    rw [h2 5 (by omega) (by omega), h8]
    exact a2
  · unfold qR at *
    rw [h2 4 (by omega) (by omega), h5]
    exact a3
theorem tR.fr {A : Nat → Prop} (h : tR F τ np nf nq) (hf : fr A F F') (h2 : ¬ A 142) (h3 : ¬ A 143) (h5 : ¬ A 145) (h8 : ¬ A 148) : tR F' τ np nf nq :=
  h.fr' (fun k _ _ => by rw [hf 142 h2]) (hf 143 h3) (hf 145 h5) (hf 148 h8)
def kpR (τ : Mu) (dy : Int32) (f : Nat) (c ea ma fc : Int32) : Int32 := clp (if τ 0 4 = nI 0 then nI 2 * ea else rres (vl ea (τ 4 f) (dy - τ 3 f) (bI (tl c)) fc ma dy) (τ 14) (τ 13 1).toNatClampNeg)
def eaRS (τ : Mu) (p : Nat) (ea ma fc : Int32) (f : Nat) (μ : Mu) : Mu := if μ (10 + p) f = NO then μ else am_up μ (10 + p) f (nwI (μ 0 0) (μ (10 + p) f) (kpR τ (μ 0 0) f (μ (10 + p) f) ea ma fc))
def eaR (τ : Mu) (nf p : Nat) (ea ma : Int32) (μ : Mu) : Mu := fd (eaRS τ p ea ma (fcI p μ)) nf μ
theorem kp_eq {f x : Nat} {dy c ma fc : Int32} (hx : x ≤ 49) : kpI τ dy f c (nI x) ma fc = kpR τ dy f c (nI x) ma fc := by
  unfold kpI kpR
  split
  · rw [nI_mul, clp_n (by omega)]
  · rfl
theorem ea_eq {p x : Nat} {ma : Int32} (hx : x ≤ 49) : eaI τ nf p (nI x) ma μ = eaR τ nf p (nI x) ma μ := by
  have h1 : eaS τ p (nI x) ma (fcI p μ) = eaRS τ p (nI x) ma (fcI p μ) := by
    funext f ν
    unfold eaS eaRS
    rw [kp_eq hx]
  unfold eaI eaR
  rw [h1]
theorem eaRS_w {p f : Nat} {ea ma fc : Int32} (h : wM μ np nf N) (hN : N ≤ 1000000) (hp : p < np) (hnp : np ≤ 6) (hf : f < nf) (hnf : nf ≤ 10) : wM (eaRS τ p ea ma fc f μ) np nf N := by
  unfold eaRS
  split
  · exact h
  · rename_i hc
    obtain ⟨t, ht, hdy⟩ := h.1
    obtain ⟨q, hq, hk⟩ := clp_b (if τ 0 4 = nI 0 then nI 2 * ea else rres (vl ea (τ 4 f) (μ 0 0 - τ 3 f) (bI (tl (μ (10 + p) f))) fc ma (μ 0 0)) (τ 14) (τ 13 1).toNatClampNeg)
    exact h.up hp hnp hf (nw_ld (h.2.2 p f (by omega) (by omega)).1 hN hc ht hdy hq hk).2.2.1
theorem eaRN_w {p k : Nat} {ea ma fc : Int32} (h : wM μ np nf N) (hN : N ≤ 1000000) (hp : p < np) (hnp : np ≤ 6) (hnf : nf ≤ 10) (hk : k ≤ nf) : wM (fd (eaRS τ p ea ma fc) k μ) np nf N :=
  fd_inv (fun ν : Mu => wM ν np nf N) h (fun i y hi hy => eaRS_w hy hN hp hnp (by omega) hnf)
theorem eaRN_0 {p k : Nat} {ea ma fc : Int32} : (fd (eaRS τ p ea ma fc) k μ) 0 = μ 0 := by
  refine fd_inv (fun ν : Mu => ν 0 = μ 0) rfl (fun i y _ hy => ?_)
  unfold eaRS
  split
  · exact hy
  · rw [am_up_nc _ _ _ _ _ (by omega)]; exact hy
theorem eaR_r {p : Nat} {ea ma : Int32} {i : Nat} (hi : i < 10) : eaR τ nf p ea ma μ i = μ i := by
  unfold eaR
  refine fd_inv (fun ν : Mu => ν i = μ i) rfl (fun k y _ h => ?_)
  unfold eaRS
  split
  · exact h
  · rw [am_up_nc _ _ _ _ _ (by omega)]; exact h
theorem wM.mono {N' : Nat} (h : wM μ np nf N) (hn : N ≤ N') : wM μ np nf N' := by
  obtain ⟨⟨t, h1, h2⟩, h3, h4⟩ := h
  exact ⟨⟨t, by omega, h2⟩, h3, fun p f hp hf => ⟨(h4 p f hp hf).1.mono hn, (h4 p f hp hf).2⟩⟩
theorem loS_w {p k c : Nat} (h : wM μ np nf N) (hnp : np ≤ 6) (hp : p < np) (hk : k < 10) : wM (loS p k (μ, c)).1 np nf N := by
  unfold loS
  split
  · rename_i hc
    simp only at hc ⊢
    by_cases hkf : k < nf
    · exact h.up hp hnp hkf (Or.inl rfl)
    · rw [(h.2.2 p k (by omega) hk).2 (Or.inr (by omega)), rc_NO] at hc
      exact absurd hc.1 (by decide)
  · exact h
theorem loN_w {p k c : Nat} (h : wM μ np nf N) (hnp : np ≤ 6) (hp : p < np) (hk : k ≤ 10) : wM (fd (loS p) k (μ, c)).1 np nf N :=
  fd_inv (fun x : Mu × Nat => wM x.1 np nf N) h (fun i y hi hy => loS_w (c := y.2) hy hnp hp (by omega))
theorem lo_nf {p c : Nat} (h : wM μ np nf N) (hnp : np ≤ 6) (hp : p < np) (hnf : nf ≤ 10) : fd (loS p) 10 (μ, c) = fd (loS p) nf (μ, c) := by
  refine fd_ext (fun x : Mu × Nat => wM x.1 np nf N) hnf h (fun i y hi hy => loS_w (c := y.2) hy hnp hp (by omega)) (fun k y h1 h2 hy => ?_)
  unfold loS
  rw [if_neg]
  rintro ⟨hc, -⟩
  rw [(hy.2.2 p k (by omega) h2).2 (Or.inr h1), rc_NO] at hc
  exact absurd hc (by decide)
/-- pictures of the reference's rows -/
theorem mR.upU {p f : Nat} {v x : Int32} (h : mR F r np μ) (hp : p < 6) (hf : f < 10) (hx : x = ld v) (htl : tl v = tl (μ (10 + p) f)) (h6 : np ≤ 6) : mR (am_up F r (19 + 10 * p + f) x) r np (am_up μ (10 + p) f v) := by
  subst hx
  refine ⟨?_, fun q hq => ⟨?_, ?_, ?_⟩, fun q g hq hg => ⟨?_, ?_⟩⟩
  · rw [am_up_nk _ _ _ _ _ (by omega), am_up_nc _ _ _ _ _ (by omega)]; exact h.1
  · rw [am_up_nk _ _ _ _ _ (by omega), am_up_nc _ _ _ _ _ (by omega)]; exact (h.2.1 q hq).1
  · rw [am_up_nk _ _ _ _ _ (by omega), am_up_nc _ _ _ _ _ (by omega)]; exact (h.2.1 q hq).2.1
  · rw [am_up_nk _ _ _ _ _ (by omega), am_up_nc _ _ _ _ _ (by omega)]; exact (h.2.1 q hq).2.2
  · by_cases e : q = p ∧ g = f
    · obtain ⟨rfl, rfl⟩ := e
      rw [am_up_eq, am_up_eq]
    · have h2 := (h.2.2 q g hq hg).1
      simp only [am_up]
      rw [if_neg (by omega), if_neg (by omega)]
      exact h2
  · rw [am_up_nk _ _ _ _ _ (by omega), (h.2.2 q g hq hg).2]
    by_cases e : q = p ∧ g = f
    · obtain ⟨rfl, rfl⟩ := e
      rw [am_up_eq, htl]
    · simp only [am_up]
      rw [if_neg (by omega)]
theorem mR.same {p f : Nat} {v : Int32} (h : mR F r np μ) (hp : p < 6) (hf : f < 10) (hld : ld v = ld (μ (10 + p) f)) (htl : tl v = tl (μ (10 + p) f)) : mR F r np (am_up μ (10 + p) f v) := by
  refine ⟨?_, fun q hq => ⟨?_, ?_, ?_⟩, fun q g hq hg => ⟨?_, ?_⟩⟩
  · rw [am_up_nc _ _ _ _ _ (by omega)]; exact h.1
  · rw [am_up_nc _ _ _ _ _ (by omega)]; exact (h.2.1 q hq).1
  · rw [am_up_nc _ _ _ _ _ (by omega)]; exact (h.2.1 q hq).2.1
  · rw [am_up_nc _ _ _ _ _ (by omega)]; exact (h.2.1 q hq).2.2
  · rw [(h.2.2 q g hq hg).1]
    by_cases e : q = p ∧ g = f
    · obtain ⟨rfl, rfl⟩ := e
      rw [am_up_eq, hld]
    · simp only [am_up]
      rw [if_neg (by omega)]
  · rw [(h.2.2 q g hq hg).2]
    by_cases e : q = p ∧ g = f
    · obtain ⟨rfl, rfl⟩ := e
      rw [am_up_eq, htl]
    · simp only [am_up]
      rw [if_neg (by omega)]
theorem mR.upT {p f : Nat} {v : Int32} {x y : Int32} (h : mR F r np μ) (hp : p < 6) (hf : f < 10) (h6 : np ≤ 6) (hx : x = ld v) (hy : y = bI (tl v)) :
    mR (am_up (am_up F r (19 + 10 * p + f) x) r (79 + 10 * p + f) y) r np (am_up μ (10 + p) f v) := by
  subst hx hy
  refine ⟨?_, fun q hq => ⟨?_, ?_, ?_⟩, fun q g hq hg => ⟨?_, ?_⟩⟩
  · rw [am_up_nk _ _ _ _ _ (by omega), am_up_nk _ _ _ _ _ (by omega), am_up_nc _ _ _ _ _ (by omega)]; exact h.1
  · rw [am_up_nk _ _ _ _ _ (by omega), am_up_nk _ _ _ _ _ (by omega), am_up_nc _ _ _ _ _ (by omega)]; exact (h.2.1 q hq).1
  · rw [am_up_nk _ _ _ _ _ (by omega), am_up_nk _ _ _ _ _ (by omega), am_up_nc _ _ _ _ _ (by omega)]; exact (h.2.1 q hq).2.1
  · rw [am_up_nk _ _ _ _ _ (by omega), am_up_nk _ _ _ _ _ (by omega), am_up_nc _ _ _ _ _ (by omega)]; exact (h.2.1 q hq).2.2
  · rw [am_up_nk _ _ _ _ _ (by omega)]
    by_cases e : q = p ∧ g = f
    · obtain ⟨rfl, rfl⟩ := e
      rw [am_up_eq, am_up_eq]
    · have h2 := (h.2.2 q g hq hg).1
      simp only [am_up]
      rw [if_neg (by omega), if_neg (by omega)]
      exact h2
  · by_cases e : q = p ∧ g = f
    · obtain ⟨rfl, rfl⟩ := e
      rw [am_up_eq, am_up_eq]
    · have h2 := (h.2.2 q g hq hg).2
      simp only [am_up]
      rw [if_neg (by omega), if_neg (by omega), if_neg (by omega)]
      exact h2
theorem mR.up0 {v : Int32} (h : mR F r np μ) (h6 : np ≤ 6) : mR (am_up F r 0 v) r np (am_up μ 0 0 v) := by
  refine ⟨?_, fun q hq => ⟨?_, ?_, ?_⟩, fun q g hq hg => ⟨?_, ?_⟩⟩
  · rw [am_up_eq, am_up_eq]
  · rw [am_up_nk _ _ _ _ _ (by omega), am_up_nc _ _ _ _ _ (by omega)]; exact (h.2.1 q hq).1
  · rw [am_up_nk _ _ _ _ _ (by omega), am_up_nc _ _ _ _ _ (by omega)]; exact (h.2.1 q hq).2.1
  · rw [am_up_nk _ _ _ _ _ (by omega), am_up_nc _ _ _ _ _ (by omega)]; exact (h.2.1 q hq).2.2
  · rw [am_up_nk _ _ _ _ _ (by omega), am_up_nc _ _ _ _ _ (by omega)]; exact (h.2.2 q g hq hg).1
  · rw [am_up_nk _ _ _ _ _ (by omega), am_up_nc _ _ _ _ _ (by omega)]; exact (h.2.2 q g hq hg).2
theorem wM.up0 {t : Nat} {N' : Nat} (h : wM μ np nf N) (ht : t ≤ N') (hn : N ≤ N') : wM (am_up μ 0 0 (nI t)) np nf N' := by
  obtain ⟨h1, h2, h3⟩ := h
  refine ⟨⟨t, ht, am_up_eq _ _ _ _⟩, fun p hp => ?_, fun p f hp hf => ?_⟩
  · rw [am_up_nc _ _ _ _ _ (by omega), am_up_nc _ _ _ _ _ (by omega), am_up_nc _ _ _ _ _ (by omega)]; exact h2 p hp
  · rw [am_up_nc _ _ _ _ _ (by omega)]; exact ⟨(h3 p f hp hf).1.mono hn, (h3 p f hp hf).2⟩
end CJ
