/-! Cheapest: all rows as one fold. -/
section EK
theorem fd_cg {α : Type} {f f' : Nat → α → α} {n : Nat} {z : α} (h : ∀ i, i < n → ∀ w, f i w = f' i w) : fd f n z = fd f' n z := by
  induction n with
  | zero => rfl
  | succ n ih => rw [fd, fd, ih (fun i hi => h i (by omega)), h n (by omega)]
variable {α : Type} (st : Nat → α → α) (ok : α → Bool) (pr : α → Nat)
def dCs : Nat → Nat → α → Nat
  | 0, _, _ => 0
  | k + 1, x, m => (x / 7 ^ k) * pr m + dCs k (x % 7 ^ k) (st (x / 7 ^ k) m)
def dMn : Nat → Nat → α → α
  | 0, _, m => m
  | k + 1, x, m => dMn k (x % 7 ^ k) (st (x / 7 ^ k) m)
def dTt : Nat → Nat → Nat → (Nat → Nat) → Nat → Nat
  | 0, _, _, t => t
  | k + 1, i, x, t => dTt k (i + 1) (x % 7 ^ k) (dUp t i (x / 7 ^ k))
def dOne (k i c : Nat) (m : α) (t : Nat → Nat) (x : Nat) (z : dZ) : dZ := if dSk z (c + dCs st pr k x m) = true then z else if ok (dMn st k x m) = true then (some (c + dCs st pr k x m), dTt k i x t) else z
theorem blk_fd (k : Nat) : ∀ i c m t z, blk st ok pr k i c m t z = fd (dOne st ok pr k i c m t) (7 ^ k) z := by
  induction k with
  | zero => intro i c m t z; rfl
  | succ k ih =>
    intro i c m t z
    have hp : 0 < 7 ^ k := Nat.pow_pos (by decide)
    rw [blk, Nat.pow_succ, Nat.mul_comm, fd_blk]
    refine fd_cg (fun g hg w => ?_)
    rw [ih]
    refine fd_cg (fun y hy v => ?_)
    have h1 : (g * 7 ^ k + y) / 7 ^ k = g := by rw [Nat.mul_comm, Nat.mul_add_div hp, Nat.div_eq_of_lt hy, Nat.add_zero]
    have h2 : (g * 7 ^ k + y) % 7 ^ k = y := by rw [Nat.mul_comm, Nat.mul_add_mod, Nat.mod_eq_of_lt hy]
    show dOne st ok pr k (i + 1) (c + g * pr m) (st g m) (dUp t i g) y v = dOne st ok pr (k + 1) i c m t (g * 7 ^ k + y) v
    unfold dOne
    rw [dCs, dMn, dTt, h1, h2, Nat.add_assoc]
end EK
