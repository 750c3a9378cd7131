/-! A text: its tokens, each by its place. -/
section FA
variable {n : Nat} {B : Nat → Nat} {s i j f : Nat}
def bt (n : Nat) (B : Nat → Nat) (i : Nat) : Nat := if i < n then B i else 0
def qB (n : Nat) (B : Nat → Nat) (i : Nat) : Bool := decide (bt n B i = 32) || decide (bt n B i = 10)
def lB (b : Nat) : Bool := decide (97 ≤ b ∧ b ≤ 122)
def dB (b : Nat) : Bool := decide (48 ≤ b ∧ b ≤ 57)
def gB (b : Nat) : Bool := decide (b = 59 ∨ b = 40 ∨ b = 41 ∨ b = 43 ∨ b = 45 ∨ b = 42 ∨ b = 47 ∨ b = 60 ∨ b = 61)
def qL (n : Nat) (B : Nat → Nat) (i : Nat) : Bool := lB (bt n B i)
def qD (n : Nat) (B : Nat → Nat) (i : Nat) : Bool := dB (bt n B i)
def spn (q : Nat → Bool) : Nat → Nat → Nat
  | 0, i => i
  | f + 1, i => if q i = true then spn q f (i + 1) else i
def kd (n : Nat) (B : Nat → Nat) (s : Nat) : Nat := if s < n then (if lB (B s) = true then 1 else if dB (B s) = true then 2 else if gB (B s) = true then 3 else 4) else 0
def en (n : Nat) (B : Nat → Nat) (s : Nat) : Nat := if kd n B s = 1 then spn (qL n B) 700 (s + 1) else if kd n B s = 2 then spn (qD n B) 700 (s + 1) else if kd n B s = 0 then s else s + 1
def nxp (n : Nat) (B : Nat → Nat) (s : Nat) : Nat := spn (qB n B) 700 (en n B s)
def lg (n : Nat) (B : Nat → Nat) (s : Nat) : Nat := en n B s - s
theorem qL_n (h : qL n B i = true) : i < n := by
  unfold qL bt lB at h
  by_cases hi : i < n
  · exact hi
  · rw [if_neg hi] at h; cases h
theorem qD_n (h : qD n B i = true) : i < n := by
  unfold qD bt dB at h
  by_cases hi : i < n
  · exact hi
  · rw [if_neg hi] at h; cases h
theorem qB_n (h : qB n B i = true) : i < n := by
  unfold qB bt at h
  by_cases hi : i < n
  · exact hi
  · rw [if_neg hi] at h; cases h
theorem spn_le {q : Nat → Bool} : ∀ f i, i ≤ spn q f i := by
  intro f
  induction f with
  | zero => intro i; exact Nat.le_refl _
  | succ f ih =>
    intro i
    rw [spn]
    split
    · have := ih (i + 1); omega
    · exact Nat.le_refl _
theorem spn_n {q : Nat → Bool} (hq : ∀ i, q i = true → i < n) : ∀ f i, i ≤ n → spn q f i ≤ n := by
  intro f
  induction f with
  | zero => intro i h; exact h
  | succ f ih =>
    intro i h
    rw [spn]
    split
    · rename_i hh
      exact ih _ (hq i hh)
    · exact h
theorem spn_eq {q : Nat → Bool} (hq : ∀ i, q i = true → i < n) : ∀ f f' i, n ≤ i + f → n ≤ i + f' → spn q f i = spn q f' i := by
  intro f
  induction f with
  | zero =>
    intro f' i h h'
    cases f' with
    | zero => rfl
    | succ f' =>
      rw [spn, spn, if_neg]
      intro hh
      have := hq i hh
      omega
  | succ f ih =>
    intro f' i h h'
    cases f' with
    | zero =>
      rw [spn, spn, if_neg]
      intro hh
      have := hq i hh
      omega
    | succ f' =>
      rw [spn, spn]
      split
      · exact ih f' _ (by omega) (by omega)
      · rfl
/-- all between are such -/
theorem spn_in {q : Nat → Bool} : ∀ f i j, i ≤ j → j < spn q f i → q j = true := by
  intro f
  induction f with
  | zero => intro i j h h'; exact absurd h' (by rw [spn]; omega)
  | succ f ih =>
    intro i j h h'
    rw [spn] at h'
    split at h'
    · rename_i hh
      by_cases e : j = i
      · rw [e]; exact hh
      · exact ih _ j (by omega) h'
    · omega
theorem spn_k {q : Nat → Bool} {k i : Nat} (h : k < 700) : spn q (700 - k) i = if q i = true then spn q (700 - (k + 1)) (i + 1) else i := by
  rw [show 700 - k = (700 - (k + 1)) + 1 by omega, spn]
theorem kd_le : kd n B s ≤ 4 := by
  unfold kd
  repeat' split
  all_goals omega
theorem kd_0 : kd n B s = 0 ↔ n ≤ s := by
  unfold kd
  repeat' split
  all_goals omega
theorem en_le : s ≤ en n B s := by
  unfold en
  repeat' split
  · have := spn_le (q := qL n B) 700 (s + 1); omega
  · have := spn_le (q := qD n B) 700 (s + 1); omega
  all_goals omega
theorem en_lt (h : s < n) : s < en n B s := by
  have h0 : ¬ kd n B s = 0 := by rw [kd_0]; omega
  unfold en
  repeat' split
  · have := spn_le (q := qL n B) 700 (s + 1); omega
  · have := spn_le (q := qD n B) 700 (s + 1); omega
  all_goals omega
theorem en_n (h : s ≤ n) : en n B s ≤ n := by
  have h0 : kd n B s = 0 ↔ n ≤ s := kd_0
  unfold en
  repeat' split
  · exact spn_n (fun i hi => qL_n hi) _ _ (by omega)
  · exact spn_n (fun i hi => qD_n hi) _ _ (by omega)
  all_goals omega
theorem nxp_n (h : s ≤ n) : nxp n B s ≤ n := spn_n (fun i hi => qB_n hi) _ _ (en_n h)
theorem nxp_lt (h : s < n) : s < nxp n B s := Nat.lt_of_lt_of_le (en_lt h) (spn_le _ _)
/-- numbers: the first four digits -/
def vr (B : Nat → Nat) (s : Nat) : Nat → Nat
  | 0 => 0
  | j + 1 => if j < 4 then vr B s j * 10 + (B (s + j) - 48) else vr B s j
def vlp (n : Nat) (B : Nat → Nat) (s : Nat) : Nat := vr B s (lg n B s)
def nmV (B : Nat → Nat) (s : Nat) : Nat → Nat
  | 0 => B s - 48
  | j + 1 => if 3 ≤ j then 10000 else nmV B s j * 10 + (B (s + 1 + j) - 48)
def vC (n : Nat) (B : Nat → Nat) (s : Nat) : Nat := if lg n B s ≤ 4 then vlp n B s else 10000
theorem nmV_vr : ∀ j, j < 4 → nmV B s j = vr B s (j + 1) := by
  intro j
  induction j with
  | zero => intro h; rw [nmV, vr, vr, if_pos (by omega)]; simp
  | succ j ih =>
    intro h
    rw [nmV, vr, if_neg (by omega), if_pos (by omega), ih (by omega)]
    congr 3
    omega
theorem nmV_big : ∀ j, 4 ≤ j → nmV B s j = 10000 := by
  intro j h
  cases j with
  | zero => omega
  | succ j => rw [nmV, if_pos (by omega)]
theorem nmV_v (h : 1 ≤ lg n B s) : nmV B s (lg n B s - 1) = vC n B s := by
  unfold vC
  by_cases h4 : lg n B s ≤ 4
  · rw [if_pos h4, nmV_vr _ (by omega)]
    unfold vlp
    congr 1
    omega
  · rw [if_neg h4, nmV_big _ (by omega)]
theorem vr_b (hB : ∀ i, i < j → B (s + i) - 48 ≤ 9) : vr B s j < 10 ^ (min j 4) := by
  induction j with
  | zero => exact Nat.one_pos
  | succ j ih =>
    have := ih (fun i hi => hB i (by omega))
    rw [vr]
    by_cases hj : j < 4
    · rw [if_pos hj]
      have h1 : min (j + 1) 4 = j + 1 := by omega
      have h2 : min j 4 = j := by omega
      rw [h2] at this
      rw [h1, Nat.pow_succ]
      have := hB j (by omega)
      omega
    · rw [if_neg hj]
      have h1 : min (j + 1) 4 = 4 := by omega
      have h2 : min j 4 = 4 := by omega
      rw [h2] at this
      rw [h1]; exact this
theorem kd_2 (h : kd n B s = 2) : s < n ∧ dB (B s) = true := by
  unfold kd at h
  split at h
  · split at h
    · omega
    · split at h
      · exact ⟨by assumption, by assumption⟩
      · split at h <;> omega
  · omega
theorem kd_1 (h : kd n B s = 1) : s < n ∧ lB (B s) = true := by
  unfold kd at h
  split at h
  · split at h
    · exact ⟨by assumption, by assumption⟩
    · repeat' split at h
      all_goals omega
  · omega
theorem kd_3 (h : kd n B s = 3) : s < n ∧ gB (B s) = true := by
  unfold kd at h
  split at h
  · split at h
    · omega
    · split at h
      · omega
      · split at h
        · exact ⟨by assumption, by assumption⟩
        · omega
  · omega
theorem tk_d (h : kd n B s = 2) (h1 : s ≤ i) (h2 : i < en n B s) : i < n ∧ dB (B i) = true := by
  by_cases e : i = s
  · rw [e]; exact kd_2 h
  · have hq : qD n B i = true := by
      unfold en at h2
      rw [if_neg (by omega), if_pos h] at h2
      exact spn_in 700 (s + 1) i (by omega) h2
    have hn := qD_n hq
    unfold qD bt at hq
    rw [if_pos hn] at hq
    exact ⟨hn, hq⟩
theorem tk_l (h : kd n B s = 1) (h1 : s ≤ i) (h2 : i < en n B s) : i < n ∧ lB (B i) = true := by
  by_cases e : i = s
  · rw [e]; exact kd_1 h
  · have hq : qL n B i = true := by
      unfold en at h2
      rw [if_pos h] at h2
      exact spn_in 700 (s + 1) i (by omega) h2
    have hn := qL_n hq
    unfold qL bt at hq
    rw [if_pos hn] at hq
    exact ⟨hn, hq⟩
theorem vlp_b (h : kd n B s = 2) : vlp n B s ≤ 9999 := by
  have h1 : vr B s (lg n B s) < 10 ^ (min (lg n B s) 4) := vr_b (fun i hi => by
    have := (tk_d h (i := s + i) (by omega) (by unfold lg at hi; omega)).2
    unfold dB at this
    have := of_decide_eq_true this
    omega)
  have h2 : 10 ^ (min (lg n B s) 4) ≤ 10 ^ 4 := Nat.pow_le_pow_right (by decide) (by omega)
  unfold vlp
  omega
theorem vC_b (h : kd n B s = 2) : vC n B s ≤ 10000 := by
  unfold vC
  have := vlp_b h
  split <;> omega
/-- words -/
def cdf (g : Nat → Nat) : Nat → Nat
  | 0 => 0
  | j + 1 => cdf g j * 32 + g j
theorem cdf_inj {g g' : Nat → Nat} : ∀ j j', (∀ i, i < j → 1 ≤ g i ∧ g i < 32) → (∀ i, i < j' → 1 ≤ g' i ∧ g' i < 32) → cdf g j = cdf g' j' → j = j' ∧ ∀ i, i < j → g i = g' i := by
  intro j
  induction j with
  | zero =>
    intro j' h h' e
    cases j' with
    | zero => exact ⟨rfl, fun i hi => absurd hi (by omega)⟩
    | succ j' =>
      have := h' j' (by omega)
      rw [cdf, cdf] at e
      omega
  | succ j ih =>
    intro j' h h' e
    have := h j (by omega)
    cases j' with
    | zero =>
      rw [cdf, cdf] at e
      omega
    | succ j' =>
      have := h' j' (by omega)
      rw [cdf, cdf] at e
      obtain ⟨e1, e2⟩ := ih j' (fun i hi => h i (by omega)) (fun i hi => h' i (by omega)) (by omega)
      subst e1
      refine ⟨rfl, fun i hi => ?_⟩
      by_cases q : i = j
      · rw [q]; omega
      · exact e2 i (by omega)
theorem cdf_cg {g g' : Nat → Nat} : ∀ j, (∀ i, i < j → g i = g' i) → cdf g j = cdf g' j := by
  intro j
  induction j with
  | zero => intro _; rfl
  | succ j ih => intro h; rw [cdf, cdf, ih (fun i hi => h i (by omega)), h j (by omega)]
theorem cdf_b {g : Nat → Nat} : ∀ j, (∀ i, i < j → g i < 32) → cdf g j < 32 ^ j := by
  intro j
  induction j with
  | zero => intro _; exact Nat.one_pos
  | succ j ih =>
    intro h
    have := ih (fun i hi => h i (by omega))
    have := h j (by omega)
    rw [cdf, Nat.pow_succ]
    omega
def lt1 (B : Nat → Nat) (s i : Nat) : Nat := B (s + i) - 96
/-- the code of the first six letters -/
def cw (n : Nat) (B : Nat → Nat) (s : Nat) : Nat := cdf (lt1 B s) (min (lg n B s) 6)
def wL (k : Nat) : List Nat := match k with
  | 0 => [115, 97, 108, 116]
  | 1 => [119, 101, 105, 103, 104, 116]
  | 2 => [97, 103, 101]
  | 3 => [116, 111, 108, 100]
  | 4 => [102, 97, 99, 116, 115]
  | 5 => [116, 97, 98, 108, 101]
  | 6 => [100, 97, 121]
  | 7 => [112, 101, 114, 115, 111, 110]
  | 8 => [102, 97, 99, 116]
  | 9 => [100, 101, 98, 116]
  | 10 => [116, 97, 108, 107]
  | 11 => [112, 114, 105, 99, 101]
  | 12 => [107, 101, 101, 112, 115]
  | 13 => [97, 110, 100]
  | 14 => [111, 114]
  | _ => [110, 111, 116]
def wF (k i : Nat) : Nat := (wL k).getD i 0 - 96
def wC (k : Nat) : Nat := cdf (wF k) (wL k).length
/-- the first known word that it is, or m -/
def fk (c : Nat) : Nat → Nat → Nat
  | 0, k => k
  | m + 1, k => if wC k = c then k else fk c m (k + 1)
def kw (n : Nat) (B : Nat → Nat) (s : Nat) : Nat := if kd n B s = 1 ∧ lg n B s ≤ 6 then fk (cw n B s) 16 0 else 16
theorem wC_inj : ∀ k k' : Fin 16, wC k.val = wC k'.val → k = k' := by decide +kernel
theorem wL_ok : ∀ k : Fin 16, (wL k.val).length ≤ 6 ∧ ∀ i : Fin 6, i.val < (wL k.val).length → (97 ≤ (wL k.val).getD i.val 0 ∧ (wL k.val).getD i.val 0 ≤ 122) := by decide +kernel
theorem fk_le (c : Nat) : ∀ m k, k ≤ fk c m k ∧ fk c m k ≤ k + m := by
  intro m
  induction m with
  | zero => intro k; rw [fk]; omega
  | succ m ih =>
    intro k
    have := ih (k + 1)
    rw [fk]
    split <;> omega
theorem fk_hit (c : Nat) : ∀ m k, fk c m k < k + m → wC (fk c m k) = c := by
  intro m
  induction m with
  | zero => intro k h; rw [fk] at h; omega
  | succ m ih =>
    intro k h
    rw [fk] at h ⊢
    split
    · assumption
    · rename_i hh
      rw [if_neg hh] at h
      exact ih (k + 1) (by omega)
theorem fk_mis (c : Nat) : ∀ m k, (∀ i, k ≤ i → i < fk c m k → ¬ wC i = c) := by
  intro m
  induction m with
  | zero => intro k i h h'; rw [fk] at h'; omega
  | succ m ih =>
    intro k i h h'
    rw [fk] at h'
    split at h'
    · omega
    · rename_i hh
      by_cases e : i = k
      · rw [e]; exact hh
      · exact ih (k + 1) i (by omega) h'
theorem kw_le : kw n B s ≤ 16 := by
  unfold kw
  split
  · have := (fk_le (cw n B s) 16 0).2; omega
  · omega
/-- the token is that word, letter by letter -/
def isW (n : Nat) (B : Nat → Nat) (s : Nat) (L : List Nat) : Prop := kd n B s = 1 ∧ lg n B s = L.length ∧ ∀ i, i < L.length → B (s + i) = L.getD i 0
theorem isW_kw {k : Nat} (hk : k < 16) : isW n B s (wL k) ↔ kw n B s = k := by
  have hok := wL_ok ⟨k, hk⟩
  have hl : (wL k).length ≤ 6 := hok.1
  have hc : ∀ i, i < (wL k).length → 97 ≤ (wL k).getD i 0 ∧ (wL k).getD i 0 ≤ 122 := fun i hi => hok.2 ⟨i, by omega⟩ hi
  have hd : kd n B s = 1 → ∀ i, i < lg n B s → 97 ≤ B (s + i) ∧ B (s + i) ≤ 122 := by
    intro h1 i hi
    have := (tk_l h1 (i := s + i) (by omega) (by unfold lg at hi; omega)).2
    unfold lB at this
    exact of_decide_eq_true this
  constructor
  · rintro ⟨h1, h2, h3⟩
    unfold kw
    rw [if_pos ⟨h1, by omega⟩]
    have hcw : cw n B s = wC k := by
      unfold cw wC
      rw [h2, Nat.min_eq_left hl]
      refine cdf_cg _ (fun i hi => ?_)
      unfold lt1 wF
      rw [h3 i hi]
    have h4 := fk_le (cw n B s) 16 0
    have h5 : fk (cw n B s) 16 0 ≤ k := by
      have := fk_mis (cw n B s) 16 0 k (by omega)
      rw [hcw] at this ⊢
      by_cases q : k < fk (wC k) 16 0
      · exact absurd rfl (this q)
      · omega
    have h6 := fk_hit (cw n B s) 16 0 (by omega)
    rw [hcw] at h6 h5 ⊢
    generalize fk (wC k) 16 0 = y at h5 h6 ⊢
    exact congrArg Fin.val (wC_inj ⟨y, Nat.lt_of_le_of_lt h5 hk⟩ ⟨k, hk⟩ h6)
  · intro h
    unfold kw at h
    split at h
    · rename_i hh
      have h6 := fk_hit (cw n B s) 16 0 (by omega)
      rw [h] at h6
      unfold cw wC at h6
      rw [Nat.min_eq_left hh.2] at h6
      have hi := cdf_inj _ _ (fun i hi => ?_) (fun i hi => ?_) h6
      · refine ⟨hh.1, hi.1.symm, fun i q => ?_⟩
        have h7 := hi.2 i q
        unfold wF lt1 at h7
        have h8 := hc i q
        have h9 := hd hh.1 i (by omega)
        omega
      · unfold wF
        have := hc i hi
        omega
      · unfold lt1
        have := hd hh.1 i hi
        omega
    · omega
/-- the token is that sign -/
def isS (n : Nat) (B : Nat → Nat) (s c : Nat) : Bool := decide (kd n B s = 3 ∧ bt n B s = c)
theorem isS_lt {c : Nat} (h : isS n B s c = true) : s < n := by
  have := of_decide_eq_true h
  exact (kd_3 this.1).1
end FA
