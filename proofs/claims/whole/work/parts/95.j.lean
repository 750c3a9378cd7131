/-! Cheapest: the search against all rows. -/
section EJ
abbrev dZ := Option Nat × (Nat → Nat)
def dSk (z : dZ) (c : Nat) : Bool := match z.1 with
  | some b => decide (b ≤ c)
  | none => false
theorem dSk_le {z : dZ} {c c' : Nat} (h : dSk z c = true) (hc : c ≤ c') : dSk z c' = true := by
  unfold dSk at *
  cases hz : z.1 with
  | none => rw [hz] at h; cases h
  | some b =>
    rw [hz] at h
    have h' : b ≤ c := of_decide_eq_true h
    exact decide_eq_true (show b ≤ c' by omega)
def dUp (t : Nat → Nat) (i g : Nat) : Nat → Nat := fun j => if j = i then g else t j
variable {α : Type} (st : Nat → α → α) (ok : α → Bool) (pr : α → Nat)
/-- all rows of k more days -/
def blk : Nat → Nat → Nat → α → (Nat → Nat) → dZ → dZ
  | 0, _, c, m, t, z => if dSk z c = true then z else if ok m = true then (some c, t) else z
  | k + 1, i, c, m, t, z => fd (fun g z => blk k (i + 1) (c + g * pr m) (st g m) (dUp t i g) z) 7 z
/-- the search -/
def dfs : Nat → Nat → Nat → α → (Nat → Nat) → dZ → dZ
  | 0, _, c, _, t, _ => (some c, t)
  | k + 1, i, c, m, t, z => fd (fun g z => if dSk z (c + g * pr m) = true then z else if ok (st g m) = true then dfs k (i + 1) (c + g * pr m) (st g m) (dUp t i g) z else z) 7 z
theorem blk_sk (k : Nat) : ∀ i c m t z, dSk z c = true → blk st ok pr k i c m t z = z := by
  induction k with
  | zero => intro i c m t z h; rw [blk, if_pos h]
  | succ k ih =>
    intro i c m t z h
    rw [blk]
    exact fd_id (fun g _ => ih _ _ _ _ _ (dSk_le h (Nat.le_add_right _ _)))
theorem blk_no (hok : ∀ g m, ok (st g m) = true → ok m = true) (k : Nat) : ∀ i c m t z, ok m = false → blk st ok pr k i c m t z = z := by
  induction k with
  | zero =>
    intro i c m t z h
    rw [blk, h]
    split
    · rfl
    · rfl
  | succ k ih =>
    intro i c m t z h
    rw [blk]
    refine fd_id (fun g _ => ih _ _ _ _ _ ?_)
    cases hq : ok (st g m)
    · rfl
    · rw [hok g m hq] at h; cases h
theorem dfs_blk (hok : ∀ g m, ok (st g m) = true → ok m = true) (k : Nat) : ∀ i c m t z, dSk z c = false → ok m = true → dfs st ok pr k i c m t z = blk st ok pr k i c m t z := by
  induction k with
  | zero => intro i c m t z h1 h2; rw [dfs, blk, h1, h2]; rfl
  | succ k ih =>
    intro i c m t z h1 h2
    rw [dfs, blk]
    congr 1
    funext g w
    by_cases hs : dSk w (c + g * pr m) = true
    · rw [if_pos hs, blk_sk st ok pr k _ _ _ _ _ hs]
    · rw [if_neg hs]
      by_cases ho : ok (st g m) = true
      · rw [if_pos ho]
        exact ih _ _ _ _ _ (by simpa using hs) ho
      · rw [if_neg ho, blk_no st ok pr hok k _ _ _ _ _ (by simpa using ho)]
end EJ
