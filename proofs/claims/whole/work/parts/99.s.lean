/-! What has been made has the fixed references. -/
section GS
variable {n : Nat} {R : Nat → Nat → Option Nat}
theorem up_o {a j c k : Nat} {v : Option Nat} (h : ¬ (c = a ∧ k = j)) : am_up R a j v c k = R c k := by unfold am_up; exact if_neg h
theorem rng_o {N m c k : Nat} (h : ¬ (c = N + 1 ∧ k < m)) : rng R N m c k = R c k := by unfold rng; exact if_neg h
def r00 : Nat → Nat → Option Nat := fun c k => if c = 0 then R0 false 0 k else none
theorem rL_a : ∀ c : Fin 10, ∀ k : Fin 20, rLaw r00 c.val k.val = R0 false c.val k.val := by decide +kernel
theorem mk_r_68 : ∀ c : Fin 177, ∀ q ∈ mk_r c.val, q.1 < 68 := by decide +kernel
end GS
