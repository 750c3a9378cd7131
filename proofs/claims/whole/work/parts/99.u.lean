/-! What stands at the law's entry. -/
section GU
variable {G : am_G} {d n : Nat} {F : Nat → Nat → Int32} {l : Nat → Nat → Int64}
theorem upf_o {a j c k : Nat} {v : Int32} (h : ¬ (c = a ∧ k = j)) : am_up F a j v c k = F c k := by unfold am_up; exact if_neg h
theorem fil_o {x m c k : Nat} (h : ¬ (c = x ∧ k < m)) : fil F x m c k = F c k := by unfold fil; exact if_neg h
theorem fil_i {x m k : Nat} (h : k < m) : fil F x m x k = NO := by unfold fil; exact if_pos ⟨rfl, h⟩
theorem fl0_o {x m c k : Nat} (h : ¬ c = x) : fl0 F x m c k = F c k := by unfold fl0; exact if_neg (fun q => h q.1)
theorem fl0_i {x m k : Nat} (h : k < m) : fl0 F x m x k = row0 k := by unfold fl0; exact if_pos ⟨rfl, h⟩
theorem fDt_o {N c k : Nat} : ∀ i, c < N + 8 ∨ N + 1 + 7 * i < c → fDt F N i c k = F c k := by
  intro i
  induction i with
  | zero => intro _; rfl
  | succ i ih => intro h; rw [fDt, fil_o (by omega)]; exact ih (by omega)
theorem fDt6_o {N c k : Nat} (h : c < N + 8 ∨ N + 43 < c) : fDt F N 6 c k = F c k := fDt_o 6 (by omega)
theorem f103_o {c k : Nat} (h2 : ¬ (c = 2 ∧ k = 2)) (h4 : ¬ c = 45) (h5 : ¬ c = 52) (h6 : c < 69 ∨ 104 < c) (h7 : ¬ c = 133) : fC_103 F 1 c k = F c k := by
  unfold fC_103 fC_0 fC_7 fC_11 fC_81 fC_68 fC_49 fC_90
  rw [fil_o (by omega), fDt6_o (by omega), fil_o (by omega), fil_o (by omega), upf_o (by omega)]
theorem f103_2 : fC_103 F 1 2 2 = NO := by
  unfold fC_103 fC_0 fC_7 fC_11 fC_81 fC_68 fC_49 fC_90
  rw [fil_o (by omega), fDt6_o (by omega), fil_o (by omega), fil_o (by omega)]
  unfold am_up; exact if_pos ⟨rfl, rfl⟩
theorem f103_45 {k : Nat} (h : k < 60) : fC_103 F 1 45 k = NO := by
  unfold fC_103 fC_0 fC_7 fC_11 fC_81 fC_68 fC_49 fC_90
  rw [fil_o (by omega), fDt6_o (by omega), fil_o (by omega)]
  exact fil_i h
theorem fLaw_c {c k : Nat} (h : ¬ c = 142) (h2 : ¬ c = 159) : fLaw F c k = fC_103 F 1 c k := by
  unfold fLaw fC_156
  rw [upf_o (by omega), fl0_o (by omega), upf_o (by omega), upf_o (by omega), upf_o (by omega), upf_o (by omega), upf_o (by omega)]
theorem fLaw_o {c k : Nat} (h : ¬ c = 142) (h1 : ¬ c = 159) (h2 : ¬ (c = 2 ∧ k = 2)) (h4 : ¬ c = 45) (h5 : ¬ c = 52) (h6 : c < 69 ∨ 104 < c) (h7 : ¬ c = 133) : fLaw F c k = F c k := by rw [fLaw_c h h1]; exact f103_o h2 h4 h5 h6 h7
theorem fLaw_2 : fLaw F 2 2 = NO := by rw [fLaw_c (by omega) (by omega)]; exact f103_2
theorem fLaw_45 {k : Nat} (h : k < 60) : fLaw F 45 k = NO := by rw [fLaw_c (by omega) (by omega)]; exact f103_45 h
theorem fLaw_159 {k : Nat} (h : k < 139) : fLaw F 159 k = row0 k := by
  unfold fLaw fC_156
  rw [upf_o (by omega)]
  exact fl0_i h
theorem fLaw_44 : fLaw F 142 44 = nI 0 := by unfold fLaw fC_156 am_up; exact if_pos ⟨rfl, rfl⟩
theorem fLaw_m {k : Nat} (h : ¬ k = 44) (h1 : ¬ k = 5) (h2 : ¬ k = 15) (h3 : ¬ k = 49) (h4 : ¬ k = 50) (h5 : ¬ k = 51) : fLaw F 142 k = F 142 k := by
  unfold fLaw fC_156
  rw [upf_o (by omega), fl0_o (by omega), upf_o (by omega), upf_o (by omega), upf_o (by omega), upf_o (by omega), upf_o (by omega)]
  exact f103_o (by omega) (by omega) (by omega) (by omega) (by omega)
theorem upf_i {a j : Nat} {v : Int32} : am_up F a j v a j = v := by unfold am_up; exact if_pos ⟨rfl, rfl⟩
theorem fLaw_51 : fLaw F 142 51 = NO := by unfold fLaw fC_156; rw [upf_o (by omega), fl0_o (by omega)]; exact upf_i
theorem fLaw_50 : fLaw F 142 50 = NO := by unfold fLaw fC_156; rw [upf_o (by omega), fl0_o (by omega), upf_o (by omega)]; exact upf_i
theorem fLaw_49 : fLaw F 142 49 = NO := by unfold fLaw fC_156; rw [upf_o (by omega), fl0_o (by omega), upf_o (by omega), upf_o (by omega)]; exact upf_i
theorem fLaw_15 : fLaw F 142 15 = NO := by unfold fLaw fC_156; rw [upf_o (by omega), fl0_o (by omega), upf_o (by omega), upf_o (by omega), upf_o (by omega)]; exact upf_i
theorem fLaw_5 : fLaw F 142 5 = NO := by unfold fLaw fC_156; rw [upf_o (by omega), fl0_o (by omega), upf_o (by omega), upf_o (by omega), upf_o (by omega), upf_o (by omega)]; exact upf_i
/-- ints ahead of all: the script, and zeros -/
def F00 (xs : Nat → Int32) : Nat → Nat → Int32 := fun c k => if c = 0 then xs k else nI 0
/-- a mind of nobody -/
def mu0 : Mu := fun r _ => if 10 ≤ r then NO else nI 0
theorem mu0_w : wM mu0 0 0 0 := by
  refine ⟨⟨0, Nat.le_refl _, rfl⟩, fun p hp => absurd hp (Nat.not_lt_zero _), fun p f _ _ => ?_⟩
  have e : mu0 (10 + p) f = NO := if_pos (Nat.le_add_right _ _)
  exact ⟨Or.inl e, fun _ => e⟩
theorem inv_0 (hF : ∀ c k, ¬ c = 0 → F c k = nI 0) : INV (n, 0, false) (fLaw F) 0 := by
  have z : ∀ {c k : Nat}, ¬ c = 0 → ¬ c = 142 → ¬ c = 159 → ¬ (c = 2 ∧ k = 2) → ¬ c = 45 → ¬ c = 52 → (c < 69 ∨ 104 < c) → ¬ c = 133 → fLaw F c k = nI 0 := fun h0 h1 h2 h3 h4 h5 h6 h7 => (fLaw_o h1 h2 h3 h4 h5 h6 h7).trans (hF _ _ h0)
  have zm : ∀ {k : Nat}, ¬ k = 44 → ¬ k = 5 → ¬ k = 15 → ¬ k = 49 → ¬ k = 50 → ¬ k = 51 → fLaw F 142 k = nI 0 := fun h h1 h2 h3 h4 h5 => (fLaw_m h h1 h2 h3 h4 h5).trans (hF _ _ (by omega))
  have zt : ∀ {k : Nat}, fLaw F (5 + 0) k = nI 0 := z (by omega) (by omega) (by omega) (by omega) (by omega) (by omega) (by omega) (by omega)
  have hw : wT (fun c => fLaw F (5 + c)) 0 0 0 0 := ⟨⟨zt, zt, zt, zt⟩, ⟨by omega, by omega, by omega, by omega⟩, fun f h => absurd h (Nat.not_lt_zero _), fun f h => absurd h (Nat.not_lt_zero _), fun f h => absurd h (Nat.not_lt_zero _), Or.inl zt⟩
  have r0 : ∀ {k : Nat}, k < 139 → fLaw F 159 k = row0 k := fun h => fLaw_159 h
  refine ⟨fun c => fLaw F (5 + c), mu0, fun _ _ => nI 0, fun _ => mu0, 0, 0, 0, 0, 0, 0, 0, 0, false, false, ⟨hw, fun c _ => rfl, ⟨?_, fun p hp => ⟨?_, ?_, ?_⟩, fun p f hp hf => ?_⟩, mu0_w, by omega⟩, ⟨hw, ⟨⟨?_, by omega, ?_, by omega, fun f h => absurd h (Nat.not_lt_zero _)⟩, Or.inl ⟨zt, fLaw_5⟩, ⟨?_, by omega, fun k h => absurd h (Nat.not_lt_zero _)⟩⟩, ⟨?_, fun p hp => absurd hp (Nat.not_lt_zero _), fun p f hp hf => ⟨?_, ?_⟩⟩, mu0_w, by omega, fLaw_49, fLaw_50, ?_, fun k h => absurd h (Nat.not_lt_zero _)⟩, ⟨⟨?_, by omega, fun k h => absurd h (Nat.not_lt_zero _)⟩, fLaw_44, fun k h => absurd h (Nat.not_lt_zero _), fun k h => absurd h (Nat.not_lt_zero _)⟩, ⟨⟨?_, by omega, fun k _ => Or.inl ?_, fun k h => absurd h (Nat.not_lt_zero _)⟩, ?_, fun k h => absurd h (Nat.not_lt_zero _), fun k h => absurd h (Nat.not_lt_zero _)⟩, ⟨?_, ?_, by omega, fun k h => absurd h (Nat.not_lt_zero _)⟩, ⟨?_, fun k _ => ?_⟩, ⟨?_, by omega, ?_, fun k h => absurd h (Nat.not_lt_zero _)⟩, ⟨?_, ?_, fun q => by cases q⟩, ⟨?_, ?_, fun q => by cases q⟩⟩
  · exact z (by omega) (by omega) (by omega) (by omega) (by omega) (by omega) (by omega) (by omega)
  · exact z (by omega) (by omega) (by omega) (by omega) (by omega) (by omega) (by omega) (by omega)
  · exact z (by omega) (by omega) (by omega) (by omega) (by omega) (by omega) (by omega) (by omega)
  · exact z (by omega) (by omega) (by omega) (by omega) (by omega) (by omega) (by omega) (by omega)
  · rw [show mu0 (10 + p) f = NO from if_pos (Nat.le_add_right _ _)]; exact fLaw_45 (by omega)
  · exact zm (by omega) (by omega) (by omega) (by omega) (by omega) (by omega)
  · exact zm (by omega) (by omega) (by omega) (by omega) (by omega) (by omega)
  · exact zm (by omega) (by omega) (by omega) (by omega) (by omega) (by omega)
  · rw [r0 (by omega)]; rfl
  · rw [show mu0 (10 + p) f = NO from if_pos (Nat.le_add_right _ _), r0 (by omega), ld_NO]; exact if_pos (by omega)
  · rw [show mu0 (10 + p) f = NO from if_pos (Nat.le_add_right _ _), r0 (by omega)]; exact (if_neg (by omega)).trans (by decide)
  · exact zm (by omega) (by omega) (by omega) (by omega) (by omega) (by omega)
  · exact z (by omega) (by omega) (by omega) (by omega) (by omega) (by omega) (by omega) (by omega)
  · exact z (by omega) (by omega) (by omega) (by omega) (by omega) (by omega) (by omega) (by omega)
  · exact z (by omega) (by omega) (by omega) (by omega) (by omega) (by omega) (by omega) (by omega)
  · exact zm (by omega) (by omega) (by omega) (by omega) (by omega) (by omega)
  · exact z (by omega) (by omega) (by omega) (by omega) (by omega) (by omega) (by omega) (by omega)
  · exact zm (by omega) (by omega) (by omega) (by omega) (by omega) (by omega)
  · rw [fLaw_2, fLaw_15]
  · rw [z (by omega) (by omega) (by omega) (by omega) (by omega) (by omega) (by omega) (by omega), z (by omega) (by omega) (by omega) (by omega) (by omega) (by omega) (by omega) (by omega)]
  · exact z (by omega) (by omega) (by omega) (by omega) (by omega) (by omega) (by omega) (by omega)
  · rw [if_pos rfl]; exact fLaw_51
  · exact z (by omega) (by omega) (by omega) (by omega) (by omega) (by omega) (by omega) (by omega)
  · exact zm (by omega) (by omega) (by omega) (by omega) (by omega) (by omega)
  · exact z (by omega) (by omega) (by omega) (by omega) (by omega) (by omega) (by omega) (by omega)
  · exact zm (by omega) (by omega) (by omega) (by omega) (by omega) (by omega)
theorem law_go (hn : n ≤ 3072) (hd : 20 ≤ d) (hF : ∀ c k, ¬ c = 0 → F c k = nI 0) : am_V G d 302 0 [.ref 0, am_junk, am_junk, am_junk, am_junk, am_junk, am_junk] [] (mg 0 0 (K00 n) F r00 l) (okL (n, 0, false)) := by
  refine law_new ((f103_o (by omega) (by omega) (by omega) (by omega) (by omega)).trans (hF _ _ (by omega))) (by omega) ?_
  rw [kLaw_K0, rLaw_R0]
  exact law_all (e := (n, 0, false)) hn hd (inv_0 hF) rfl rfl
end GU
