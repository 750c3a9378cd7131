/-! What has been made has the fixed references: all cells. -/
section GT
variable {R : Nat → Nat → Option Nat}
theorem rL_1 : ∀ c : Fin 10, ∀ k : Fin 20, rLaw r00 (c.val + 10) k.val = R0 false (c.val + 10) k.val := by decide +kernel
theorem rL_2 : ∀ c : Fin 10, ∀ k : Fin 20, rLaw r00 (c.val + 20) k.val = R0 false (c.val + 20) k.val := by decide +kernel
theorem rL_3 : ∀ c : Fin 10, ∀ k : Fin 20, rLaw r00 (c.val + 30) k.val = R0 false (c.val + 30) k.val := by decide +kernel
theorem rL_4 : ∀ c : Fin 10, ∀ k : Fin 20, rLaw r00 (c.val + 40) k.val = R0 false (c.val + 40) k.val := by decide +kernel
theorem rL_5 : ∀ c : Fin 10, ∀ k : Fin 20, rLaw r00 (c.val + 50) k.val = R0 false (c.val + 50) k.val := by decide +kernel
theorem rL_6 : ∀ c : Fin 10, ∀ k : Fin 20, rLaw r00 (c.val + 60) k.val = R0 false (c.val + 60) k.val := by decide +kernel
theorem rL_7 : ∀ c : Fin 10, ∀ k : Fin 20, rLaw r00 (c.val + 70) k.val = R0 false (c.val + 70) k.val := by decide +kernel
theorem rL_8 : ∀ c : Fin 10, ∀ k : Fin 20, rLaw r00 (c.val + 80) k.val = R0 false (c.val + 80) k.val := by decide +kernel
theorem rL_9 : ∀ c : Fin 10, ∀ k : Fin 20, rLaw r00 (c.val + 90) k.val = R0 false (c.val + 90) k.val := by decide +kernel
theorem rL_10 : ∀ c : Fin 10, ∀ k : Fin 20, rLaw r00 (c.val + 100) k.val = R0 false (c.val + 100) k.val := by decide +kernel
theorem rL_11 : ∀ c : Fin 10, ∀ k : Fin 20, rLaw r00 (c.val + 110) k.val = R0 false (c.val + 110) k.val := by decide +kernel
theorem rL_12 : ∀ c : Fin 10, ∀ k : Fin 20, rLaw r00 (c.val + 120) k.val = R0 false (c.val + 120) k.val := by decide +kernel
theorem rL_13 : ∀ c : Fin 10, ∀ k : Fin 20, rLaw r00 (c.val + 130) k.val = R0 false (c.val + 130) k.val := by decide +kernel
theorem rL_14 : ∀ c : Fin 10, ∀ k : Fin 20, rLaw r00 (c.val + 140) k.val = R0 false (c.val + 140) k.val := by decide +kernel
theorem rL_15 : ∀ c : Fin 10, ∀ k : Fin 20, rLaw r00 (c.val + 150) k.val = R0 false (c.val + 150) k.val := by decide +kernel
theorem rL_16 : ∀ c : Fin 10, ∀ k : Fin 20, rLaw r00 (c.val + 160) k.val = R0 false (c.val + 160) k.val := by decide +kernel
theorem rL_17 : ∀ c : Fin 7, ∀ k : Fin 20, rLaw r00 (c.val + 170) k.val = R0 false (c.val + 170) k.val := by decide +kernel
theorem rL_m : ∀ k : Fin 34, rLaw r00 142 k.val = R0 false 142 k.val := by decide +kernel
theorem rL_m2 : ∀ k : Fin 34, rLaw r00 142 (k.val + 34) = R0 false 142 (k.val + 34) := by decide +kernel
theorem mk_r_20 : ∀ c : Fin 177, ¬ c.val = 142 → ∀ q ∈ mk_r c.val, q.1 < 20 := by decide +kernel
theorem r90_o {N a c k : Nat} (h : 20 ≤ k ∨ a < c) : rC_90 R N a c k = R c k := by unfold rC_90; simp (disch := omega) only [up_o, rng_o]
theorem r49_o {N a c k : Nat} (h : 20 ≤ k ∨ (a < c ∧ N + 1 < c)) : rC_49 R N a c k = R c k := by unfold rC_49 rC_90; simp (disch := omega) only [up_o, rng_o]
theorem r68_o {N a c k : Nat} (h : 20 ≤ k ∨ a < c) : rC_68 R N a c k = R c k := by unfold rC_68; simp (disch := omega) only [up_o, rng_o]
theorem r7_o {N a c k : Nat} (h : 20 ≤ k ∨ a < c) : rC_7 R N a c k = R c k := by unfold rC_7; simp (disch := omega) only [up_o, rng_o]
theorem r11_o {N a c k : Nat} (h : 20 ≤ k ∨ a < c) : rC_11 R N a c k = R c k := by unfold rC_11; simp (disch := omega) only [up_o, rng_o]
theorem r0_o {N a c k : Nat} (h : 20 ≤ k ∨ a < c) : rC_0 R N a c k = R c k := by unfold rC_0; simp (disch := omega) only [up_o, rng_o]
theorem r17_o {N a c k : Nat} (h : 20 ≤ k ∨ a < c) : rC_17 R N a c k = R c k := by unfold rC_17; simp (disch := omega) only [up_o, rng_o]
theorem r81_o {N a c k : Nat} (h : 20 ≤ k ∨ (a < c ∧ N + 13 < c)) : rC_81 R N a c k = R c k := by unfold rC_81 rC_68; simp (disch := omega) only [up_o, rng_o]
theorem r44_o {N a c k : Nat} (h : 20 ≤ k ∨ (a < c ∧ N + 8 < c)) : rC_44 R N a c k = R c k := by unfold rC_44; simp (disch := omega) only [up_o, rng_o]
theorem rD_o {N a c k : Nat} : ∀ i, i ≤ 6 → (20 ≤ k ∨ (a < c ∧ N + 50 < c)) → rD R N a i c k = R c k := by
  intro i
  induction i with
  | zero => intro _ h; unfold rD; simp (disch := omega) only [up_o, rng_o]
  | succ i ih => intro hi h; rw [rD, up_o (by omega), r17_o (by omega)]; exact ih (by omega) h
theorem rD6_o {N a c k : Nat} (h : 20 ≤ k ∨ (a < c ∧ N + 50 < c)) : rD R N a 6 c k = R c k := rD_o 6 (by omega) h
theorem r103_o {N a c k : Nat} (h : 20 ≤ k ∨ (a < c ∧ N + 140 < c)) : rC_103 R N a c k = R c k := by
  unfold rC_103
  simp (disch := omega) only [up_o, r0_o, r7_o, r17_o, r11_o, r44_o, rD6_o, r81_o, r49_o]
set_option maxRecDepth 20000 in
theorem r156_o {N a c k : Nat} (h : ¬ c = a) : rC_156 R N a c k = R c k := by unfold rC_156; simp (disch := omega) only [up_o]
set_option maxRecDepth 20000 in
theorem r156_k {N a c k : Nat} (h : 68 ≤ k) : rC_156 R N a c k = R c k := by unfold rC_156; simp (disch := omega) only [up_o]
theorem rLaw_o {c k : Nat} (hc : ¬ c = 142) (h : 20 ≤ k ∨ 177 ≤ c) : rLaw R c k = R c k := by unfold rLaw; rw [r156_o hc]; exact r103_o (by omega)
theorem rLaw_k {c k : Nat} (h : 68 ≤ k) : rLaw R c k = R c k := by unfold rLaw; rw [r156_k h]; exact r103_o (by omega)
theorem R0_n {c k : Nat} (h1 : ¬ (c = 1 ∧ k < 3)) (h : ∀ q ∈ mk_r c, ¬ q.1 = k) : R0 false c k = none := by
  unfold R0
  rw [if_neg (by omega), if_neg (by omega)]
  have : (mk_r c).find? (fun q => q.1 == k) = none := List.find?_eq_none.mpr (fun q hq => by have := h q hq; simpa using this)
  rw [this]; rfl
theorem mk_r_far {c : Nat} (h : 177 ≤ c) : mk_r c = [] := by
  unfold mk_r
  repeat rw [if_neg (by omega)]
theorem rLaw_R0 : rLaw r00 = R0 false := by
  funext c k
  by_cases h0 : c = 0
  · subst h0
    by_cases hk : k < 20
    · exact rL_a ⟨0, by omega⟩ ⟨k, hk⟩
    · rw [rLaw_o (by omega) (by omega)]; exact if_pos rfl
  have e1 : r00 c k = none := if_neg h0
  by_cases h177 : 177 ≤ c
  · rw [rLaw_o (by omega) (by omega), e1, R0_n (by omega) (fun q hq => by rw [mk_r_far h177] at hq; cases hq)]
  by_cases h142 : c = 142
  · subst h142
    by_cases hk : k < 68
    · by_cases hk2 : k < 34
      · exact rL_m ⟨k, hk2⟩
      · have := rL_m2 ⟨k - 34, by omega⟩
        dsimp only at this
        rw [show k - 34 + 34 = k by omega] at this
        exact this
    · rw [rLaw_k (by omega), e1, R0_n (by omega) (fun q hq => by have := mk_r_68 ⟨142, by omega⟩ q hq; omega)]
  by_cases hk : k < 20
  · by_cases g0 : c < 10
    · exact rL_a ⟨c, g0⟩ ⟨k, hk⟩
    by_cases g1 : c < 20
    · have := rL_1 ⟨c - 10, by omega⟩ ⟨k, hk⟩
      dsimp only at this
      rw [show c - 10 + 10 = c by omega] at this
      exact this
    by_cases g2 : c < 30
    · have := rL_2 ⟨c - 20, by omega⟩ ⟨k, hk⟩
      dsimp only at this
      rw [show c - 20 + 20 = c by omega] at this
      exact this
    by_cases g3 : c < 40
    · have := rL_3 ⟨c - 30, by omega⟩ ⟨k, hk⟩
      dsimp only at this
      rw [show c - 30 + 30 = c by omega] at this
      exact this
    by_cases g4 : c < 50
    · have := rL_4 ⟨c - 40, by omega⟩ ⟨k, hk⟩
      dsimp only at this
      rw [show c - 40 + 40 = c by omega] at this
      exact this
    by_cases g5 : c < 60
    · have := rL_5 ⟨c - 50, by omega⟩ ⟨k, hk⟩
      dsimp only at this
      rw [show c - 50 + 50 = c by omega] at this
      exact this
    by_cases g6 : c < 70
    · have := rL_6 ⟨c - 60, by omega⟩ ⟨k, hk⟩
      dsimp only at this
      rw [show c - 60 + 60 = c by omega] at this
      exact this
    by_cases g7 : c < 80
    · have := rL_7 ⟨c - 70, by omega⟩ ⟨k, hk⟩
      dsimp only at this
      rw [show c - 70 + 70 = c by omega] at this
      exact this
    by_cases g8 : c < 90
    · have := rL_8 ⟨c - 80, by omega⟩ ⟨k, hk⟩
      dsimp only at this
      rw [show c - 80 + 80 = c by omega] at this
      exact this
    by_cases g9 : c < 100
    · have := rL_9 ⟨c - 90, by omega⟩ ⟨k, hk⟩
      dsimp only at this
      rw [show c - 90 + 90 = c by omega] at this
      exact this
    by_cases g10 : c < 110
    · have := rL_10 ⟨c - 100, by omega⟩ ⟨k, hk⟩
      dsimp only at this
      rw [show c - 100 + 100 = c by omega] at this
      exact this
    by_cases g11 : c < 120
    · have := rL_11 ⟨c - 110, by omega⟩ ⟨k, hk⟩
      dsimp only at this
      rw [show c - 110 + 110 = c by omega] at this
      exact this
    by_cases g12 : c < 130
    · have := rL_12 ⟨c - 120, by omega⟩ ⟨k, hk⟩
      dsimp only at this
      rw [show c - 120 + 120 = c by omega] at this
      exact this
    by_cases g13 : c < 140
    · have := rL_13 ⟨c - 130, by omega⟩ ⟨k, hk⟩
      dsimp only at this
      rw [show c - 130 + 130 = c by omega] at this
      exact this
    by_cases g14 : c < 150
    · have := rL_14 ⟨c - 140, by omega⟩ ⟨k, hk⟩
      dsimp only at this
      rw [show c - 140 + 140 = c by omega] at this
      exact this
    by_cases g15 : c < 160
    · have := rL_15 ⟨c - 150, by omega⟩ ⟨k, hk⟩
      dsimp only at this
      rw [show c - 150 + 150 = c by omega] at this
      exact this
    by_cases g16 : c < 170
    · have := rL_16 ⟨c - 160, by omega⟩ ⟨k, hk⟩
      dsimp only at this
      rw [show c - 160 + 160 = c by omega] at this
      exact this
    by_cases g17 : c < 177
    · have := rL_17 ⟨c - 170, by omega⟩ ⟨k, hk⟩
      dsimp only at this
      rw [show c - 170 + 170 = c by omega] at this
      exact this
    omega
  · rw [rLaw_o h142 (by omega), e1, R0_n (by omega) (fun q hq => by have := mk_r_20 ⟨c, by omega⟩ h142 q hq; omega)]
end GT
