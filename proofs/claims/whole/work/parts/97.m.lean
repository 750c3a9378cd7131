/-! Cheapest: rows by their digits. -/
section EM
theorem dg_md {x k t : Nat} (h : t < k) : x % 7 ^ k / 7 ^ t % 7 = x / 7 ^ t % 7 := by
  obtain ⟨u, rfl⟩ : ∃ u, k = t + 1 + u := ⟨k - t - 1, by omega⟩
  rw [Nat.add_assoc, Nat.pow_add, Nat.mod_mul_right_div_self, Nat.add_comm 1 u, Nat.pow_succ, Nat.mul_comm (7 ^ u), Nat.mod_mul_right_mod]
def cS (P : Nat → Nat) (k x : Nat) : Nat → Nat
  | 0 => 0
  | t + 1 => cS P k x t + (x / 7 ^ t % 7) * P (k - 1 - t)
theorem cS_md {P : Nat → Nat} {k x : Nat} : ∀ t, t ≤ k → cS P (k + 1) x t = cS (fun i => P (i + 1)) k (x % 7 ^ k) t := by
  intro t
  induction t with
  | zero => intro _; rfl
  | succ t ih =>
    intro h
    rw [cS, cS, ih (by omega), dg_md (by omega)]
    have : k + 1 - 1 - t = k - 1 - t + 1 := by omega
    rw [this]
theorem cS_le {P : Nat → Nat} (hP : ∀ i, P i ≤ 99) {k x : Nat} : ∀ t, cS P k x t ≤ 594 * t := by
  intro t
  induction t with
  | zero => exact Nat.zero_le _
  | succ t ih =>
    rw [cS]
    have h1 : x / 7 ^ t % 7 * P (k - 1 - t) ≤ 6 * 99 := Nat.mul_le_mul (by have := Nat.mod_lt (x / 7 ^ t) (show 0 < 7 by decide); omega) (hP _)
    omega
theorem dg_lt {x k : Nat} (h : x < 7 ^ (k + 1)) : x / 7 ^ k < 7 := by
  rw [Nat.div_lt_iff_lt_mul (Nat.pow_pos (by decide)), Nat.mul_comm, ← Nat.pow_succ]
  exact h
variable {α : Type} (st : Nat → α → α) (pr : α → Nat) (P : α → Nat → Nat)
theorem dCs_cS (h0 : ∀ m, pr m = P m 0) (h1 : ∀ g m i, P (st g m) i = P m (i + 1)) : ∀ k x m, x < 7 ^ k → dCs st pr k x m = cS (P m) k x k := by
  intro k
  induction k with
  | zero => intro x m _; rfl
  | succ k ih =>
    intro x m hx
    have hp : 0 < 7 ^ k := Nat.pow_pos (by decide)
    rw [dCs, ih _ _ (Nat.mod_lt _ hp), cS, cS_md k (Nat.le_refl _), h0]
    have e1 : k + 1 - 1 - k = 0 := by omega
    have e2 : x / 7 ^ k % 7 = x / 7 ^ k := Nat.mod_eq_of_lt (dg_lt hx)
    have e3 : P (st (x / 7 ^ k) m) = fun i => P m (i + 1) := funext (fun i => h1 _ _ i)
    rw [e1, e2, e3, Nat.add_comm]
theorem dTt_lt : ∀ k i x t j, j < i → dTt k i x t j = t j := by
  intro k
  induction k with
  | zero => intro i x t j _; rfl
  | succ k ih =>
    intro i x t j h
    rw [dTt, ih _ _ _ _ (by omega)]
    unfold dUp
    rw [if_neg (by omega)]
theorem dTt_dg : ∀ k i x t j, x < 7 ^ k → j < k → dTt k i x t (i + j) = x / 7 ^ (k - 1 - j) % 7 := by
  intro k
  induction k with
  | zero => intro i x t j _ h; omega
  | succ k ih =>
    intro i x t j hx h
    have hp : 0 < 7 ^ k := Nat.pow_pos (by decide)
    rw [dTt]
    by_cases e : j = 0
    · subst e
      rw [dTt_lt _ _ _ _ _ (by omega)]
      unfold dUp
      rw [if_pos (by omega)]
      have e1 : k + 1 - 1 - 0 = k := by omega
      rw [e1, Nat.mod_eq_of_lt (dg_lt hx)]
    · obtain ⟨j', rfl⟩ : ∃ j', j = j' + 1 := ⟨j - 1, by omega⟩
      have e1 : i + (j' + 1) = i + 1 + j' := by omega
      have e2 : k + 1 - 1 - (j' + 1) = k - 1 - j' := by omega
      rw [e1, ih _ _ _ _ (Nat.mod_lt _ hp) (by omega), dg_md (by omega), e2]
theorem dMn_fd : ∀ k x m, x < 7 ^ k → dMn st k x m = fd (fun i => st (x / 7 ^ (k - 1 - i) % 7)) k m := by
  intro k
  induction k with
  | zero => intro x m _; rfl
  | succ k ih =>
    intro x m hx
    have hp : 0 < 7 ^ k := Nat.pow_pos (by decide)
    rw [dMn, ih _ _ (Nat.mod_lt _ hp)]
    have e0 : fd (fun i => st (x / 7 ^ (k + 1 - 1 - i) % 7)) (k + 1) m = fd (fun i => st (x / 7 ^ (k + 1 - 1 - (1 + i)) % 7)) k (fd (fun i => st (x / 7 ^ (k + 1 - 1 - i) % 7)) 1 m) := by
      rw [Nat.add_comm k 1, fd_add]
    have e1 : fd (fun i => st (x / 7 ^ (k + 1 - 1 - i) % 7)) 1 m = st (x / 7 ^ k) m := by
      have e2 : x / 7 ^ (k + 1 - 1 - 0) % 7 = x / 7 ^ k := Nat.mod_eq_of_lt (dg_lt hx)
      rw [fd, fd, e2]
    rw [e0, e1]
    refine fd_cg (fun i hi w => ?_)
    have e3 : k + 1 - 1 - (1 + i) = k - 1 - i := by omega
    rw [dg_md (by omega), e3]
end EM
