/-! What has been made has the fixed kinds: all cells. -/
section GR
variable {n : Nat} {K : Nat → Nat × Nat}
theorem kng_o {N m k x : Nat} (h : N + 1 + m < x) : kng K N m k x = K x := by
  unfold kng
  rw [if_neg (by omega), if_neg (by omega)]
theorem c17_o {N x : Nat} (h : N + 6 < x) : kC_17 K N x = K x := by unfold kC_17; simp (disch := omega) only [kn_ne]
theorem kD_o {N x : Nat} : ∀ i, N + 3 + 7 * i < x → kD K N i x = K x := by
  intro i
  induction i with
  | zero => intro h; unfold kD; simp (disch := omega) only [kn_ne]
  | succ i ih => intro h; rw [kD, c17_o (by omega), kn_ne (by omega)]; exact ih (by omega)
theorem kD6_o {N x : Nat} (h : N + 45 < x) : kD K N 6 x = K x := kD_o 6 (by omega)
theorem c49_o {N x : Nat} (h : N + 2 < x) : kC_49 K N x = K x := by unfold kC_49 kC_90; simp (disch := omega) only [kn_ne]
theorem c81_o {N x : Nat} (h : N + 17 < x) : kC_81 K N x = K x := by unfold kC_81 kC_68; simp (disch := omega) only [kn_ne]
theorem c7_o {N x : Nat} (h : N + 1 < x) : kC_7 K N x = K x := by unfold kC_7; simp (disch := omega) only [kn_ne]
theorem c11_o {N x : Nat} (h : N + 1 < x) : kC_11 K N x = K x := by unfold kC_11; simp (disch := omega) only [kn_ne]
theorem c0_o {N x : Nat} (h : N + 3 < x) : kC_0 K N x = K x := by unfold kC_0; simp (disch := omega) only [kn_ne]
theorem c44_o {N x : Nat} (h : N + 16 < x) : kC_44 K N x = K x := by unfold kC_44; simp (disch := omega) only [kn_ne, kng_o]
theorem c103_o {N x : Nat} (h : N + 140 < x) : kC_103 K N x = K x := by unfold kC_103; simp (disch := omega) only [kn_ne, c0_o, c7_o, c17_o, c11_o, c44_o, kD6_o, c81_o, c49_o]
set_option maxRecDepth 20000 in
theorem c156_o {N x : Nat} (h : N + 33 < x) : kC_156 K N x = K x := by unfold kC_156; simp (disch := omega) only [kn_ne]
set_option maxRecDepth 20000 in
theorem c156_le {N x : Nat} (h : x ≤ N) : kC_156 K N x = K x := by unfold kC_156; simp (disch := omega) only [kn_ne]
theorem c103_le {N x : Nat} (h : x ≤ N) : kC_103 K N x = K x := by unfold kC_103; simp (disch := omega) only [kn_ne, kC0_le, kC7_le, kC17_le, kC11_le, kC44_le, kD6_le, kC81_le, kC49_le]
def K00 (n : Nat) : Nat → Nat × Nat := fun a => if a = 0 then (7, n) else (99, 0)
theorem kLaw_K0 : kLaw (K00 n) = K0 n := by
  funext x
  by_cases h0 : x = 0
  · subst h0
    unfold kLaw
    rw [kn_ne (by omega), c156_le (by omega), kn_ne (by omega), c103_le (by omega), kn_ne (by omega)]
    rfl
  · have e1 : K00 n x = (99, 0) := if_neg h0
    by_cases h : x < 177
    · have e2 : kLaw (K00 n) x = gKd x := law_cg e1
      rw [e2]
      have := gKd_in ⟨x, h⟩ h0
      dsimp only at this
      rw [this]
      unfold K0
      rw [if_neg h0, if_pos h]
    · unfold kLaw
      rw [kn_ne (by omega), c156_o (by omega), kn_ne (by omega), c103_o (by omega), kn_ne (by omega), e1]
      unfold K0
      rw [if_neg h0, if_neg h]
end GR
