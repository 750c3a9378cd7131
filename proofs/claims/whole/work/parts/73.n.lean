/-! What stands between calls, piece by piece; acts in the law. -/
section DN
variable {G : am_G} {d : Nat} {e e' : Nat × Nat × Bool} {F F' F'' F1 F2 : Nat → Nat → Int32} {l : Nat → Nat → Int64} {a b c r k na ns t dl : Nat} {x y : Int32} {M : am_M} {μ ν ρ τ σ : Mu} {np nf nt nq N N' : Nat} {hi : Nat → Mu} {P : am_K} {im kp : Bool}
theorem cI.mk (h : cI e F τ μ np nf nt nq N) (he : e'.2.2 = e.2.2) (ht : ∀ c, (5 ≤ c ∧ c ≤ 19) ∨ (23 ≤ c ∧ c ≤ 37) → F2 c = F c) (hm : mC F2 41 ν) (hw : wM ν np nf N') (hN : N' ≤ 900000) : cI e' F2 τ ν np nf nt nq N' := by
  have htb : tb e' = tb e := by unfold tb; rw [he]
  have htb2 := @tb_ub e
  refine ⟨h.1, ?_, hm, hw, hN⟩
  rw [htb]
  intro c hc
  rw [ht _ (by omega)]
  exact h.2.1 c hc
theorem fI.mk (h : fI F τ μ np nf nt nq N) (hj : ∀ j, (1 ≤ j ∧ j ≤ 5) ∨ j = 49 ∨ j = 50 → F2 142 j = F 142 j) (e3 : F2 143 = F 143) (e4 : F2 144 = F 144) (e5 : F2 145 = F 145) (e8 : F2 148 = F 148) (hm : mR F2 159 np ν) (hw : wM ν np nf N') (hN : N' ≤ 900000) : fI F2 τ ν np nf nt nq N' := by
  obtain ⟨h1, h2, h3, h4, h5, h6, h7, h8, h9⟩ := h
  refine ⟨h1, h2.fr' (fun k g1 g2 => hj k (by omega)) e3 e5 e8, hm, hw, hN, ?_, ?_, ?_, ?_⟩
  · rw [hj 49 (by omega)]; exact h6
  · rw [hj 50 (by omega)]; exact h7
  · rw [hj 3 (by omega)]; exact h8
  · rw [e4]; exact h9
theorem iPast.eqs (h : iPast F np nf N na hi) (e1 : F2 55 = F 55) (e2 : F2 56 = F 56) (e3 : F2 142 44 = F 142 44) (e4 : F2 161 = F 161) (hN : N ≤ N') : iPast F2 np nf N' na hi := by
  refine ⟨h.1.eqs e1 e2, by rw [e3]; exact h.2.1, ?_, fun k hk => (h.2.2.2 k hk).mono hN⟩
  unfold hR; rw [e4]; exact h.2.2.1
theorem iSeen.eqs (h : iSeen F np nf ns σ) (e1 : F2 57 = F 57) (e2 : F2 58 = F 58) (e3 : F2 59 = F 59) (e4 : F2 60 = F 60) (e5 : F2 142 59 = F 142 59) (e6 : F2 172 = F 172) : iSeen F2 np nf ns σ := by
  refine ⟨h.1.eqs e1 e2 e3 e4, by rw [e5]; exact h.2.1, ?_, h.2.2.2⟩
  unfold sQ; rw [e6]; exact h.2.2.1
theorem iTape.eqs (h : iTape F t) (e1 : F2 3 = F 3) (e2 : F2 4 = F 4) (e3 : F2 142 13 = F 142 13) (e4 : F2 149 = F 149) : iTape F2 t := by unfold iTape; rw [e1, e2, e3, e4]; exact h
theorem iStat.eqs (h : iStat F) (e1 : F2 2 = F 2) (e2 : F2 142 15 = F 142 15) (e3 : F2 126 = F 126) (e4 : F2 150 = F 150) : iStat F2 := by unfold iStat; rw [e1, e2, e3, e4]; exact h
theorem iDiet.eqs (h : iDiet F dl) (e1 : F2 61 = F 61) (e2 : F2 142 51 = F 142 51) (e3 : F2 64 = F 64) (e4 : F2 166 = F 166) : iDiet F2 dl := by unfold iDiet; rw [e1, e2, e3, e4]; exact h
theorem iRat.eqs (h : iRat F np kp) (e1 : F2 107 = F 107) (e2 : F2 142 58 = F 142 58) (e3 : F2 123 = F 123) (e4 : F2 171 = F 171) : iRat F2 np kp := by unfold iRat; rw [e1, e2, e3, e4]; exact h
theorem iImg.eqs (h : iImg F np nf N im) (hc : ∀ c, c = 1 ∨ (129 ≤ c ∧ c ≤ 141) ∨ (173 ≤ c ∧ c ≤ 175) → F2 c = F c) (hj : ∀ j, 62 ≤ j ∧ j ≤ 64 → F2 142 j = F 142 j) (hN : N ≤ N') : iImg F2 np nf N' im := by
  refine ⟨by rw [hc 1 (by omega)]; exact h.1, by rw [hj 62 (by omega)]; exact h.2.1, fun q => ?_⟩
  obtain ⟨μi, σi, hii, nai, nsi, m1, m2, m3, m4, m5, m6, m7, m8, m9, m10, m11⟩ := h.2.2 q
  refine ⟨μi, σi, hii, nai, nsi, m1.eqs (fun k hk => hc _ (by omega)), ?_, m3.mono hN, m4.eqs (hc _ (by omega)) (hc _ (by omega)), ?_, ?_, fun k hk => (m7 k hk).mono hN, m8.eqs (hc _ (by omega)) (hc _ (by omega)) (hc _ (by omega)) (hc _ (by omega)), ?_, ?_, m11⟩
  · unfold mR; rw [hc 173 (by omega)]; exact m2
  · rw [hj 63 (by omega)]; exact m5
  · unfold hR; rw [hc 174 (by omega)]; exact m6
  · rw [hj 64 (by omega)]; exact m9
  · unfold sQ; rw [hc 175 (by omega)]; exact m10
theorem INV.mono (h : INV e F N) (hN : N ≤ N') (hN9 : N' ≤ 900000) : INV e F N' := by
  obtain ⟨τ, μ, σ, hi, np, nf, nt, nq, na, ns, t, dl, im, kp, hc, hf, iP, iS, iT, iX, iD, iR, iM⟩ := h
  exact ⟨τ, μ, σ, hi, np, nf, nt, nq, na, ns, t, dl, im, kp, hc.mk rfl (fun _ _ => rfl) hc.2.2.1 (hc.2.2.2.1.mono hN) hN9, hf.mk (fun _ _ => rfl) rfl rfl rfl rfl hf.2.2.1 (hf.2.2.2.1.mono hN) hN9, iP.eqs rfl rfl rfl rfl hN, iS, iT, iX, iD, iR, iM.eqs (fun _ _ => rfl) (fun _ _ => rfl) hN⟩
theorem puW {n : Nat} (h : ∀ k, k < n → wM (hi k) np nf N) (hm : wM μ np nf N) (hN : N ≤ N') (h40 : n ≤ 40) : ∀ k, k < puN n → wM (puH n hi μ k) np nf N' := by
  intro k hk
  unfold puN at hk
  unfold puH
  by_cases e : n < 40
  · rw [if_pos e] at hk ⊢
    by_cases e2 : k < n
    · rw [if_pos e2]; exact (h k e2).mono hN
    · rw [if_neg e2]; exact hm.mono hN
  · rw [if_neg e] at hk ⊢
    by_cases e2 : k < 39
    · rw [if_pos e2]; exact (h (k + 1) (by omega)).mono hN
    · rw [if_neg e2]; exact hm.mono hN
/-- an act that was done -/
theorem INV_act (hc : cI e F τ μ np nf nt nq N) (hf : fI F τ μ np nf nt nq N) (iP : iPast F np nf N na hi) (iS : iSeen F np nf ns σ) (iT : iTape F t) (iX : iStat F) (iD : iDiet F dl) (iR : iRat F np kp) (iM : iImg F np nf N im) (he : e'.2.2 = e.2.2) (h1 : PC e F na hi μ ν F1) (h2 : PR F1 np na hi μ ν F2) (hw : wM ν np nf N') (hN : N ≤ N') (hN9 : N' ≤ 900000) : INV e' F2 N' := by
  obtain ⟨f1, p1, m1⟩ := h1
  obtain ⟨f2, j2, a2, r2, m2⟩ := h2
  have hcl : ∀ c, (c ≤ 19 ∨ (22 ≤ c ∧ c ≤ 37) ∨ c = 40 ∨ (57 ≤ c ∧ c ≤ 62) ∨ c = 64 ∨ c = 107 ∨ c = 123 ∨ c = 126 ∨ (129 ≤ c ∧ c ≤ 141) ∨ (143 ≤ c ∧ c ≤ 158) ∨ c = 166 ∨ (171 ≤ c ∧ c ≤ 175)) → F2 c = F c := by
    intro c hc
    rw [f2 c (by unfold sR1; omega) (by omega) (by omega) (by omega), f1 c (by unfold sC1; omega)]
  have h142 : F1 142 = F 142 := f1 142 (by unfold sC1; omega)
  have hj : ∀ j, ¬ j = 0 → ¬ j = 61 → ¬ j = 44 → F2 142 j = F 142 j := fun j q1 q2 q3 => by rw [j2 j q1 q2 q3, h142]
  have hk : ∀ c, (41 ≤ c ∧ c ≤ 45) ∨ c = 55 ∨ c = 56 → F2 c = F1 c := fun c q => f2 c (by unfold sR1; omega) (by omega) (by omega) (by omega)
  refine ⟨τ, ν, σ, puH na hi μ, np, nf, nt, nq, puN na, ns, t, dl, im, kp, hc.mk he (fun c q => hcl c (by omega)) (m1.eqs (fun k q => hk _ (by omega))) hw hN9, hf.mk (fun j q => hj j (by omega) (by omega) (by omega)) (hcl _ (by omega)) (hcl _ (by omega)) (hcl _ (by omega)) (hcl _ (by omega)) m2 hw hN9, ⟨p1.eqs (hk _ (by omega)) (hk _ (by omega)), a2, r2, puW iP.2.2.2 hc.2.2.2.1 hN iP.1.2.1⟩, iS.eqs (hcl _ (by omega)) (hcl _ (by omega)) (hcl _ (by omega)) (hcl _ (by omega)) (hj _ (by omega) (by omega) (by omega)) (hcl _ (by omega)), iT.eqs (hcl _ (by omega)) (hcl _ (by omega)) (hj _ (by omega) (by omega) (by omega)) (hcl _ (by omega)), iX.eqs (hcl _ (by omega)) (hj _ (by omega) (by omega) (by omega)) (hcl _ (by omega)) (hcl _ (by omega)), iD.eqs (hcl _ (by omega)) (hj _ (by omega) (by omega) (by omega)) (hcl _ (by omega)) (hcl _ (by omega)), iR.eqs (hcl _ (by omega)) (hj _ (by omega) (by omega) (by omega)) (hcl _ (by omega)) (hcl _ (by omega)), iM.eqs (fun c q => hcl c (by omega)) (fun j q => hj j (by omega) (by omega) (by omega)) hN⟩
/-- a call that was refused -/
theorem INV_ref (h : INV e F N) (w : Nat) (hw : w < 3) (he : e'.2.2 = e.2.2) (hF1 : F1 = am_up F 126 w (F 126 w + nI 1)) (h150 : F2 150 = am_up F1 150 w (F1 150 w + nI 1) 150) (hc2 : ∀ c, ¬ c = 150 → ¬ c = 142 → F2 c = F1 c) (hj2 : ∀ j, ¬ j = 0 → F2 142 j = F1 142 j) : INV e' F2 N := by
  obtain ⟨τ, μ, σ, hi, np, nf, nt, nq, na, ns, t, dl, im, kp, hc, hf, iP, iS, iT, iX, iD, iR, iM⟩ := h
  have hcl : ∀ c, ¬ c = 126 → ¬ c = 150 → ¬ c = 142 → F2 c = F c := fun c q1 q2 q3 => by rw [hc2 c q2 q3, hF1, am_up_nc _ _ _ _ _ q1]
  have hj : ∀ j, ¬ j = 0 → F2 142 j = F 142 j := fun j q => by rw [hj2 j q, hF1, am_up_nc _ _ _ _ _ (by omega)]
  have htb2 := @tb_ub e
  refine ⟨τ, μ, σ, hi, np, nf, nt, nq, na, ns, t, dl, im, kp, hc.mk he (fun c q => hcl c (by omega) (by omega) (by omega)) (hc.2.2.1.eqs (fun k q => hcl _ (by omega) (by omega) (by omega))) hc.2.2.2.1 hc.2.2.2.2, hf.mk (fun j q => hj j (by omega)) (hcl _ (by omega) (by omega) (by omega)) (hcl _ (by omega) (by omega) (by omega)) (hcl _ (by omega) (by omega) (by omega)) (hcl _ (by omega) (by omega) (by omega)) (by unfold mR; rw [hcl 159 (by omega) (by omega) (by omega)]; exact hf.2.2.1) hf.2.2.2.1 hf.2.2.2.2.1, iP.eqs (hcl _ (by omega) (by omega) (by omega)) (hcl _ (by omega) (by omega) (by omega)) (hj _ (by omega)) (hcl _ (by omega) (by omega) (by omega)) (Nat.le_refl _), iS.eqs (hcl _ (by omega) (by omega) (by omega)) (hcl _ (by omega) (by omega) (by omega)) (hcl _ (by omega) (by omega) (by omega)) (hcl _ (by omega) (by omega) (by omega)) (hj _ (by omega)) (hcl _ (by omega) (by omega) (by omega)), iT.eqs (hcl _ (by omega) (by omega) (by omega)) (hcl _ (by omega) (by omega) (by omega)) (hj _ (by omega)) (hcl _ (by omega) (by omega) (by omega)), ⟨?_, fun k q => ?_⟩, iD.eqs (hcl _ (by omega) (by omega) (by omega)) (hj _ (by omega)) (hcl _ (by omega) (by omega) (by omega)) (hcl _ (by omega) (by omega) (by omega)), iR.eqs (hcl _ (by omega) (by omega) (by omega)) (hj _ (by omega)) (hcl _ (by omega) (by omega) (by omega)) (hcl _ (by omega) (by omega) (by omega)), iM.eqs (fun c q => hcl c (by omega) (by omega) (by omega)) (fun j q => hj j (by omega)) (Nat.le_refl _)⟩
  · rw [hcl 2 (by omega) (by omega) (by omega), hj 15 (by omega)]; exact iX.1
  · have h9 : F1 150 = F 150 := by rw [hF1, am_up_nc _ _ _ _ _ (by omega)]
    rw [h150, hc2 126 (by omega) (by omega), hF1]
    by_cases e : k = w
    · subst e; rw [am_up_eq, am_up_eq, ← hF1, h9, iX.2 k q]
    · rw [am_up_nk _ _ _ _ _ e, am_up_nk _ _ _ _ _ e, ← hF1, h9]; exact iX.2 k q
end DN
