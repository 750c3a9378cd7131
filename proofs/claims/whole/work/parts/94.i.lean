/-! Cheapest: folds over rows, in blocks. -/
section EI
theorem fd_add {α : Type} (f : Nat → α → α) (n m : Nat) (z : α) : fd f (n + m) z = fd (fun i => f (n + i)) m (fd f n z) := by
  induction m with
  | zero => rfl
  | succ m ih => rw [← Nat.add_assoc, fd, ih, fd]
theorem fd_blk {α : Type} (f : Nat → α → α) (a b : Nat) (z : α) : fd f (a * b) z = fd (fun g w => fd (fun y => f (g * b + y)) b w) a z := by
  induction a with
  | zero => rw [Nat.zero_mul]; rfl
  | succ a ih => rw [Nat.succ_mul, fd_add, ih, fd]
theorem fd_id {α : Type} {f : Nat → α → α} {n : Nat} {z : α} (h : ∀ i, i < n → f i z = z) : fd f n z = z := by
  induction n with
  | zero => rfl
  | succ n ih => rw [fd, ih (fun i hi => h i (by omega)), h n (by omega)]
end EI
