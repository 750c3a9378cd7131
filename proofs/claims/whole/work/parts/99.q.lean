/-! What has been made has the fixed kinds. -/
section GQ
variable {n : Nat} {K : Nat → Nat × Nat}
def gKd : Nat → Nat × Nat := kLaw (fun _ => (99, 0))
theorem kn_cg {K' : Nat → Nat × Nat} {c x : Nat} {q : Nat × Nat} (h : K x = K' x) : kn K c q x = kn K' c q x := by
  unfold kn
  split
  · rfl
  · exact h
theorem kng_cg {K' : Nat → Nat × Nat} {N m k x : Nat} (h : K x = K' x) : kng K N m k x = kng K' N m k x := by
  unfold kng
  split
  · rfl
  · split
    · rfl
    · exact h
theorem c17_cg {K' : Nat → Nat × Nat} {N x : Nat} (h : K x = K' x) : kC_17 K N x = kC_17 K' N x := by unfold kC_17; exact kn_cg (kn_cg (kn_cg (kn_cg (kn_cg (kn_cg h)))))
theorem kD_cg {K' : Nat → Nat × Nat} {N x : Nat} (h : K x = K' x) : ∀ i, kD K N i x = kD K' N i x := by
  intro i
  induction i with
  | zero => exact kn_cg (kn_cg (kn_cg h))
  | succ i ih => rw [kD, kD]; exact c17_cg (kn_cg ih)
theorem c90_cg {K' : Nat → Nat × Nat} {N x : Nat} (h : K x = K' x) : kC_90 K N x = kC_90 K' N x := kn_cg h
theorem c49_cg {K' : Nat → Nat × Nat} {N x : Nat} (h : K x = K' x) : kC_49 K N x = kC_49 K' N x := c90_cg (kn_cg h)
theorem c68_cg {K' : Nat → Nat × Nat} {N x : Nat} (h : K x = K' x) : kC_68 K N x = kC_68 K' N x := kn_cg (kn_cg (kn_cg (kn_cg h)))
theorem c81_cg {K' : Nat → Nat × Nat} {N x : Nat} (h : K x = K' x) : kC_81 K N x = kC_81 K' N x := c68_cg (kn_cg (kn_cg (kn_cg (kn_cg (kn_cg (kn_cg (kn_cg (kn_cg (kn_cg (kn_cg (kn_cg (kn_cg (kn_cg h)))))))))))))
theorem c7_cg {K' : Nat → Nat × Nat} {N x : Nat} (h : K x = K' x) : kC_7 K N x = kC_7 K' N x := kn_cg h
theorem c11_cg {K' : Nat → Nat × Nat} {N x : Nat} (h : K x = K' x) : kC_11 K N x = kC_11 K' N x := kn_cg h
theorem c0_cg {K' : Nat → Nat × Nat} {N x : Nat} (h : K x = K' x) : kC_0 K N x = kC_0 K' N x := kn_cg (kn_cg (kn_cg h))
theorem c44_cg {K' : Nat → Nat × Nat} {N x : Nat} (h : K x = K' x) : kC_44 K N x = kC_44 K' N x := kn_cg (kng_cg (kng_cg h))
theorem c103_cg {K' : Nat → Nat × Nat} {N x : Nat} (h : K x = K' x) : kC_103 K N x = kC_103 K' N x := by
  unfold kC_103
  exact c0_cg (kn_cg (c7_cg (kn_cg (c17_cg (kn_cg (kn_cg (kn_cg (kn_cg (c11_cg (kn_cg (c44_cg (kn_cg (kD_cg (kn_cg (c0_cg (kn_cg (c7_cg (kn_cg (c17_cg (kn_cg (c17_cg (kn_cg (c81_cg (kn_cg (c81_cg (kn_cg (c49_cg (kn_cg h)))))))))))))))  6)))))))))))))
theorem c156_cg {K' : Nat → Nat × Nat} {N x : Nat} (h : K x = K' x) : kC_156 K N x = kC_156 K' N x := by
  unfold kC_156
  repeat first | exact h | refine kn_cg ?_
theorem law_cg {K' : Nat → Nat × Nat} {x : Nat} (h : K x = K' x) : kLaw K x = kLaw K' x := kn_cg (c156_cg (kn_cg (c103_cg (kn_cg h))))
theorem gKd_in : ∀ a : Fin 177, ¬ a.val = 0 → gKd a.val = mk_k a.val := by decide +kernel
theorem kn_o {c x : Nat} {q : Nat × Nat} {v : Nat × Nat} (hc : c ≤ 176) (hx : 177 ≤ x) (h : K x = v) : kn K c q x = v := by rw [kn_ne (by omega)]; exact h
end GQ
