/-! The class's lines: people, talks, prices. -/
section FH
variable {G : am_G} {d : Nat} {e : Nat × Nat × Bool} {F F' F'' F0 F1 F2 : Nat → Nat → Int32} {l : Nat → Nat → Int64} {a b c r k s : Nat} {M : am_M} {n : Nat} {B : Nat → Nat} {np nf nt nq : Nat} {D : Mu}
def dt (F : Mu) (b : Nat) (D : Mu) (np nf nt nq : Nat) : Prop := (F b 0 = nI np ∧ F b 1 = nI nf ∧ F b 2 = nI nt ∧ F b 3 = nI nq) ∧ (∀ p, p < np → F (b + 1) p = D 1 p ∧ F (b + 2) p = D 2 p) ∧ (∀ f, f < nf → ∀ r, 3 ≤ r → r ≤ 8 → F (b + r) f = D r f) ∧ (∀ k, k < nt → F (b + 9) k = D 9 k ∧ F (b + 10) k = D 10 k) ∧ ∀ k, k < nq → F (b + 11) k = D 11 k ∧ F (b + 12) k = D 12 k
def pl (y : Ft ⊕ PS) : Ft ⊕ Nat := match y with
  | .inl x => .inl x
  | .inr z => .inr z.1
def dqx (F : Mu) (b : Nat) (z : PS) : Prop := dt F b z.2.1 z.2.2.1.1 z.2.2.1.2.1 z.2.2.1.2.2.1 z.2.2.1.2.2.2 ∧ F b 4 = bI z.2.2.2.1 ∧ (z.2.2.2.1 = true → F (b + 13) 1 = nI z.2.2.2.2.1 ∧ ∀ i, i < z.2.2.2.2.1 → F (b + 14) i = z.2.2.2.2.2 i) ∧ (z.2.2.2.1 = false → F (b + 13) 1 = nI 0 ∧ F (b + 13) 5 = nI 0)
/-- the frame of a line -/
def fT (b : Nat) (F F' : Mu) : Prop := (∀ c, ¬ (c = 2 ∨ c = 3 ∨ (b ≤ c ∧ c ≤ b + 17)) → F' c = F c) ∧ F' 3 1 = F 3 1
theorem fT.rf : fT b F F := ⟨fun _ _ => rfl, rfl⟩
theorem fT.tr (h : fT b F F') (h' : fT b F' F'') : fT b F F'' := ⟨fun c hc => (h'.1 c hc).trans (h.1 c hc), h'.2.trans h.2⟩
theorem fT.fQ (h : fQ F F') : fT b F F' := ⟨fun c hc => h.1 c (by omega), h.2.1⟩
theorem fT.up {c j : Nat} {v : Int32} (hb : 5 ≤ b) (hc : b ≤ c ∧ c ≤ b + 17) : fT b F (am_up F c j v) := ⟨fun x hx => am_up_nc _ _ _ _ _ (by omega), by rw [am_up_nc _ _ _ _ _ (by omega)]⟩
def lnC (F : Mu) (n : Nat) (B : Nat → Nat) (b : Nat) (y : Ft ⊕ PS) (F' : Mu) : Prop := fT b F F' ∧ rdx F' n B (pl y) ∧ ∀ z, y = .inr z → dqx F' b z
theorem tx.fT (h : tx F n B) (hb : 5 ≤ b) (hf : fT b F F') : tx F' n B := by unfold tx; rw [hf.1 4 (by omega)]; exact h
theorem rdx.eqs {x : Ft ⊕ Nat} (h : rdx F n B x) (e2 : F' 2 = F 2) (e3 : F' 3 = F 3) : rdx F' n B x := by
  cases x with
  | inl y => unfold rdx at *; dsimp only at *; rw [e2]; exact h
  | inr s => unfold rdx tk at *; dsimp only at *; rw [e2, e3]; exact h
theorem isT_5 (h : isT b) : b = 5 ∨ b = 23 := h
/-- the lines' rows, but for some -/
theorem dqx.qeq {z : PS} (h : dqx F b z) (hf : fQ F F') (hb : 5 ≤ b) : dqx F' b z := by
  unfold dqx dt at *
  have e : ∀ k, F' (b + k) = F (b + k) := fun k => hf.1 _ (by omega)
  have e0 : F' b = F b := e 0
  rw [e0]
  simp only [e]
  exact h
/-- one more of a kind: two rows -/
theorem dq_P {s' a b' : Nat} {ru : Bool} {cc : Cd} (h : dqx F b (s, D, (np, nf, nt, nq), ru, cc)) (h0 : F' b 0 = nI (np + 1)) (hb : ∀ j, ¬ j = 0 → F' b j = F b j) (h1 : F' (b + 1) np = nI a) (h2 : F' (b + 2) np = nI b') (h1' : ∀ j, ¬ j = np → F' (b + 1) j = F (b + 1) j) (h2' : ∀ j, ¬ j = np → F' (b + 2) j = F (b + 2) j) (er : ∀ r, ¬ r = 0 → ¬ r = 1 → ¬ r = 2 → F' (b + r) = F (b + r)) : dqx F' b (s', upP D np a b', (np + 1, nf, nt, nq), ru, cc) := by
  obtain ⟨⟨⟨k0, k1, k2, k3⟩, k4, k5, k6, k7⟩, k8, k9, k10⟩ := h
  dsimp only at k0 k1 k2 k3 k4 k5 k6 k7 k8 k9 k10
  refine ⟨⟨⟨h0, (hb 1 (by omega)).trans k1, (hb 2 (by omega)).trans k2, (hb 3 (by omega)).trans k3⟩, fun p hp => ?_, fun f hf r q1 q2 => ?_, fun k hk => ?_, fun k hk => ?_⟩, (hb 4 (by omega)).trans k8, by rw [er 13 (by omega) (by omega) (by omega), er 14 (by omega) (by omega) (by omega)]; exact k9, by rw [er 13 (by omega) (by omega) (by omega)]; exact k10⟩
  all_goals dsimp only [upP] at *
  · rw [am_up_nc _ _ _ _ _ (show ¬ 1 = 2 by omega)]
    by_cases q : p = np
    · subst q
      rw [am_up_eq, am_up_eq]
      exact ⟨h1, h2⟩
    · rw [am_up_nk _ _ _ _ _ q, am_up_nk _ _ _ _ _ q, am_up_nc _ _ _ _ _ (show ¬ 2 = 1 by omega), h1' p q, h2' p q]
      exact k4 p (by omega)
  · rw [am_up_nc _ _ _ _ _ (by omega), am_up_nc _ _ _ _ _ (by omega), er r (by omega) (by omega) (by omega)]
    exact k5 f hf r q1 q2
  · rw [am_up_nc _ _ _ _ _ (show ¬ 9 = 2 by omega), am_up_nc _ _ _ _ _ (show ¬ 9 = 1 by omega), am_up_nc _ _ _ _ _ (show ¬ 10 = 2 by omega), am_up_nc _ _ _ _ _ (show ¬ 10 = 1 by omega), er _ (by omega) (by omega) (by omega), er _ (by omega) (by omega) (by omega)]
    exact k6 k hk
  · rw [am_up_nc _ _ _ _ _ (show ¬ 11 = 2 by omega), am_up_nc _ _ _ _ _ (show ¬ 11 = 1 by omega), am_up_nc _ _ _ _ _ (show ¬ 12 = 2 by omega), am_up_nc _ _ _ _ _ (show ¬ 12 = 1 by omega), er _ (by omega) (by omega) (by omega), er _ (by omega) (by omega) (by omega)]
    exact k7 k hk
theorem dq_T {s' a b' : Nat} {ru : Bool} {cc : Cd} (h : dqx F b (s, D, (np, nf, nt, nq), ru, cc)) (h0 : F' b 2 = nI (nt + 1)) (hb : ∀ j, ¬ j = 2 → F' b j = F b j) (h1 : F' (b + 9) nt = nI a) (h2 : F' (b + 10) nt = nI b') (h1' : ∀ j, ¬ j = nt → F' (b + 9) j = F (b + 9) j) (h2' : ∀ j, ¬ j = nt → F' (b + 10) j = F (b + 10) j) (er : ∀ r, ¬ r = 0 → ¬ r = 9 → ¬ r = 10 → F' (b + r) = F (b + r)) : dqx F' b (s', upT D nt a b', (np, nf, nt + 1, nq), ru, cc) := by
  obtain ⟨⟨⟨k0, k1, k2, k3⟩, k4, k5, k6, k7⟩, k8, k9, k10⟩ := h
  dsimp only at k0 k1 k2 k3 k4 k5 k6 k7 k8 k9 k10
  refine ⟨⟨⟨(hb 0 (by omega)).trans k0, (hb 1 (by omega)).trans k1, h0, (hb 3 (by omega)).trans k3⟩, fun p hp => ?_, fun f hf r q1 q2 => ?_, fun k hk => ?_, fun k hk => ?_⟩, (hb 4 (by omega)).trans k8, by rw [er 13 (by omega) (by omega) (by omega), er 14 (by omega) (by omega) (by omega)]; exact k9, by rw [er 13 (by omega) (by omega) (by omega)]; exact k10⟩
  all_goals dsimp only [upT] at *
  · rw [am_up_nc _ _ _ _ _ (show ¬ 1 = 10 by omega), am_up_nc _ _ _ _ _ (show ¬ 1 = 9 by omega), am_up_nc _ _ _ _ _ (show ¬ 2 = 10 by omega), am_up_nc _ _ _ _ _ (show ¬ 2 = 9 by omega), er _ (by omega) (by omega) (by omega), er _ (by omega) (by omega) (by omega)]
    exact k4 p hp
  · rw [am_up_nc _ _ _ _ _ (by omega), am_up_nc _ _ _ _ _ (by omega), er r (by omega) (by omega) (by omega)]
    exact k5 f hf r q1 q2
  · rw [am_up_nc _ _ _ _ _ (show ¬ 9 = 10 by omega)]
    by_cases q : k = nt
    · subst q
      rw [am_up_eq, am_up_eq]
      exact ⟨h1, h2⟩
    · rw [am_up_nk _ _ _ _ _ q, am_up_nk _ _ _ _ _ q, am_up_nc _ _ _ _ _ (show ¬ 10 = 9 by omega), h1' k q, h2' k q]
      exact k6 k (by omega)
  · rw [am_up_nc _ _ _ _ _ (show ¬ 11 = 10 by omega), am_up_nc _ _ _ _ _ (show ¬ 11 = 9 by omega), am_up_nc _ _ _ _ _ (show ¬ 12 = 10 by omega), am_up_nc _ _ _ _ _ (show ¬ 12 = 9 by omega), er _ (by omega) (by omega) (by omega), er _ (by omega) (by omega) (by omega)]
    exact k7 k hk
theorem dq_Q {s' a b' : Nat} {ru : Bool} {cc : Cd} (h : dqx F b (s, D, (np, nf, nt, nq), ru, cc)) (h0 : F' b 3 = nI (nq + 1)) (hb : ∀ j, ¬ j = 3 → F' b j = F b j) (h1 : F' (b + 11) nq = nI a) (h2 : F' (b + 12) nq = nI b') (h1' : ∀ j, ¬ j = nq → F' (b + 11) j = F (b + 11) j) (h2' : ∀ j, ¬ j = nq → F' (b + 12) j = F (b + 12) j) (er : ∀ r, ¬ r = 0 → ¬ r = 11 → ¬ r = 12 → F' (b + r) = F (b + r)) : dqx F' b (s', upQ D nq a b', (np, nf, nt, nq + 1), ru, cc) := by
  obtain ⟨⟨⟨k0, k1, k2, k3⟩, k4, k5, k6, k7⟩, k8, k9, k10⟩ := h
  dsimp only at k0 k1 k2 k3 k4 k5 k6 k7 k8 k9 k10
  refine ⟨⟨⟨(hb 0 (by omega)).trans k0, (hb 1 (by omega)).trans k1, (hb 2 (by omega)).trans k2, h0⟩, fun p hp => ?_, fun f hf r q1 q2 => ?_, fun k hk => ?_, fun k hk => ?_⟩, (hb 4 (by omega)).trans k8, by rw [er 13 (by omega) (by omega) (by omega), er 14 (by omega) (by omega) (by omega)]; exact k9, by rw [er 13 (by omega) (by omega) (by omega)]; exact k10⟩
  all_goals dsimp only [upQ] at *
  · rw [am_up_nc _ _ _ _ _ (show ¬ 1 = 12 by omega), am_up_nc _ _ _ _ _ (show ¬ 1 = 11 by omega), am_up_nc _ _ _ _ _ (show ¬ 2 = 12 by omega), am_up_nc _ _ _ _ _ (show ¬ 2 = 11 by omega), er _ (by omega) (by omega) (by omega), er _ (by omega) (by omega) (by omega)]
    exact k4 p hp
  · rw [am_up_nc _ _ _ _ _ (by omega), am_up_nc _ _ _ _ _ (by omega), er r (by omega) (by omega) (by omega)]
    exact k5 f hf r q1 q2
  · rw [am_up_nc _ _ _ _ _ (show ¬ 9 = 12 by omega), am_up_nc _ _ _ _ _ (show ¬ 9 = 11 by omega), am_up_nc _ _ _ _ _ (show ¬ 10 = 12 by omega), am_up_nc _ _ _ _ _ (show ¬ 10 = 11 by omega), er _ (by omega) (by omega) (by omega), er _ (by omega) (by omega) (by omega)]
    exact k6 k hk
  · rw [am_up_nc _ _ _ _ _ (show ¬ 11 = 12 by omega)]
    by_cases q : k = nq
    · subst q
      rw [am_up_eq, am_up_eq]
      exact ⟨h1, h2⟩
    · rw [am_up_nk _ _ _ _ _ q, am_up_nk _ _ _ _ _ q, am_up_nc _ _ _ _ _ (show ¬ 12 = 11 by omega), h1' k q, h2' k q]
      exact k7 k (by omega)
theorem dq_F {s' : Nat} {x : (Nat × Nat × Nat) × (Int32 × Int32 × Int32) × Nat} {ru : Bool} {cc : Cd} (h : dqx F b (s, D, (np, nf, nt, nq), ru, cc)) (h0 : F' b 1 = nI (nf + 1)) (hb : ∀ j, ¬ j = 1 → F' b j = F b j) (h1 : F' (b + 3) nf = nI x.1.1 ∧ F' (b + 4) nf = nI x.1.2.1 ∧ F' (b + 5) nf = nI x.1.2.2 ∧ F' (b + 6) nf = x.2.1.1 ∧ F' (b + 7) nf = x.2.1.2.1 ∧ F' (b + 8) nf = x.2.1.2.2) (h1' : ∀ r, 3 ≤ r → r ≤ 8 → ∀ j, ¬ j = nf → F' (b + r) j = F (b + r) j) (er : ∀ r, ¬ r = 0 → ¬ (3 ≤ r ∧ r ≤ 8) → F' (b + r) = F (b + r)) : dqx F' b (s', upF D nf x, (np, nf + 1, nt, nq), ru, cc) := by
  obtain ⟨⟨⟨k0, k1, k2, k3⟩, k4, k5, k6, k7⟩, k8, k9, k10⟩ := h
  dsimp only at k0 k1 k2 k3 k4 k5 k6 k7 k8 k9 k10
  refine ⟨⟨⟨(hb 0 (by omega)).trans k0, h0, (hb 2 (by omega)).trans k2, (hb 3 (by omega)).trans k3⟩, fun p hp => ?_, fun f hf r q1 q2 => ?_, fun k hk => ?_, fun k hk => ?_⟩, (hb 4 (by omega)).trans k8, by rw [er 13 (by omega) (by omega), er 14 (by omega) (by omega)]; exact k9, by rw [er 13 (by omega) (by omega)]; exact k10⟩
  all_goals dsimp only at *
  · rw [upF_c (by omega), upF_c (by omega), er _ (by omega) (by omega), er _ (by omega) (by omega)]
    exact k4 p hp
  · by_cases q : f = nf
    · subst q
      obtain ⟨v3, v4, v5, v6, v7, v8⟩ := upF_v (D := D) (nf := f) (x := x)
      have er6 : r = 3 ∨ r = 4 ∨ r = 5 ∨ r = 6 ∨ r = 7 ∨ r = 8 := by omega
      rcases er6 with rfl | rfl | rfl | rfl | rfl | rfl
      · rw [v3]; exact h1.1
      · rw [v4]; exact h1.2.1
      · rw [v5]; exact h1.2.2.1
      · rw [v6]; exact h1.2.2.2.1
      · rw [v7]; exact h1.2.2.2.2.1
      · rw [v8]; exact h1.2.2.2.2.2
    · rw [upF_k q, h1' r q1 q2 f q]
      exact k5 f (by omega) r q1 q2
  · rw [upF_c (by omega), upF_c (by omega), er _ (by omega) (by omega), er _ (by omega) (by omega)]
    exact k6 k hk
  · rw [upF_c (by omega), upF_c (by omega), er _ (by omega) (by omega), er _ (by omega) (by omega)]
    exact k7 k hk
theorem c_51 (ht : tx F n B) (h : rdx F n B (.inr s)) (hT : isT b) {ru : Bool} {cc : Cd} (hq : dqx F b (s, D, (np, nf, nt, nq), ru, cc)) (hw : np ≤ 6) (hd : 4 ≤ d) : am_C G d 51 [.ref 2, .ref b] (mm e F l) (rV e l (lnC F n B b (if np = 6 then .inl (2, s) else bd (peI n B (nxp n B s)) (fun x => .inr (x.2.2, upP D np x.1 x.2.1, (np + 1, nf, nt, nq), ru, cc))))) := by
  have hb := isT_5 hT
  have hn := ht.1
  have g0 : F b 0 = nI np := hq.1.1.1
  refine en_51 _ _ ?_
  by_cases h6 : np = 6
  · rw [if_pos h6]
    refine am_run9 60 [] s51_0 ?_
    simp only [w_lx0, w_lx1, w_lx2, w_ic, w_ldc_w, w_iconst, w_lconst, w_ldc2_w, w_ldc, w_iload, w_aload, w_lload, w_istore, w_astore, w_lstore, w_iinc, w_iadd, w_isub, w_imul, w_iand, w_ior, w_ixor, w_ishl, w_ishr, w_iushr, w_idiv, w_irem, w_ineg, w_i2l, w_lshl, w_lor, w_lsub, w_lcmp, w_dupa, w_dupb, w_pop, w_dup2, w_ifCond, w_if_icmp, w_goto, w_tableswitch, w_getfield, w_putfielda, w_putfieldb, w_putfieldc, w_iaload, w_baload, w_laload, w_aaload, w_iastore, w_bastore, w_lastore, w_aastore, w_arraylength, w_ireturn, w_lreturn, w_return, w_newx, w_obj, w_cpy, w_max, w_min, w_slen, w_sat, w_nil, w_nx, w_jws, w_jw0, ↓reduceIte, w_my0, w_my1, w_my2, w_gv0, w_gvs, w_cati, w_catr, w_catj, w_inc1, w_afn, w_afi, w_afl, w_afx, w_asn, w_asi, w_asl, w_asx, w_a0, List.set_cons_zero, List.set_cons_succ, List.contains_cons, List.contains_nil, Nat.reduceBEq, Bool.or_false, Bool.false_or, Bool.or_true, Bool.true_or, Nat.reduceAdd, Nat.reduceSub, Nat.reduceMul, Nat.reduceDiv, Nat.reduceMod, Nat.reduceLT, Nat.reduceLeDiff, Nat.reduceEqDiff, Nat.zero_le, List.length_cons, List.length_nil, Int.reduceLE, Int.reduceToNat, Int.reduceAdd, Int.reduceLT, decide_true, am_cp, am_cq, m_kk, m_ii, m_rr, m_jj, m_si, m_sj, m_sc, Option.some.injEq, exists_eq_left', true_and, and_true, if_true, if_false, ite_true, ite_false, not_false_eq_true, true_or, or_true, false_or, or_false, reduceCtorEq, false_implies, true_implies, implies_true, eq_self, Bool.false_eq_true, Bool.true_eq_false, not_true_eq_false, s51_0, s51_15, s51_21, w_v66, cv_66, w_v94, cv_94, w_v62, cv_62, rt_51, hh_51, k_2, r_2_0, k_3, r_3_0, k_4, kT0 hT, kT1 hT, kT2 hT, kT3 hT, kT4 hT, kT5 hT, kT6 hT, kT7 hT, kT8 hT, kT9 hT, kT10 hT, kT11 hT, kT12 hT, kT13 hT, kT14 hT, kT15 hT, kT16 hT, kT17 hT, rT5 hT, rT6 hT, rT7 hT, rT8 hT, rT9 hT, rT10 hT, rT11 hT, rT12 hT, rT13 hT, rT14 hT, rT15 hT, rT16 hT, rT17 hT, rR0 hT, rR2 hT, rR3 hT, rR4 hT, g0]
    try simp (disch := omega) only [am_up_nc, am_up_eq, am_up_nk, nI_sub, w_dec, nI_pos9, nI_add, nI_mul, nI_ltI, nI_leI, nI_eq, nI_clamp, p_le, p_nle, p_lt, p_nlt, p_eq, p_ne, p_neq, p_neqf, p_lea, p_lta, p_nea, p_00, true_and, and_true, eq_self, not_true_eq_false, implies_true, true_implies, Nat.zero_add, Nat.not_lt_zero, false_implies, not_false_eq_true, Nat.reduceLeDiff, Nat.reduceLT, Nat.reduceEqDiff, Nat.reduceMul, Nat.reduceAdd, k_2, r_2_0, k_3, r_3_0, k_4, kT0 hT, kT1 hT, kT2 hT, kT3 hT, kT4 hT, kT5 hT, kT6 hT, kT7 hT, kT8 hT, kT9 hT, kT10 hT, kT11 hT, kT12 hT, kT13 hT, kT14 hT, kT15 hT, kT16 hT, kT17 hT, rT5 hT, rT6 hT, rT7 hT, rT8 hT, rT9 hT, rT10 hT, rT11 hT, rT12 hT, rT13 hT, rT14 hT, rT15 hT, rT16 hT, rT17 hT, rR0 hT, rR2 hT, rR3 hT, rR4 hT, g0]
    refine (c_66 h 2 (by omega) (by omega)).mono ?_
    rintro _ _ ⟨F1, rfl, rfl, hf, hr⟩
    simp only [w_lx0, w_lx1, w_lx2, w_ic, w_ldc_w, w_iconst, w_lconst, w_ldc2_w, w_ldc, w_iload, w_aload, w_lload, w_istore, w_astore, w_lstore, w_iinc, w_iadd, w_isub, w_imul, w_iand, w_ior, w_ixor, w_ishl, w_ishr, w_iushr, w_idiv, w_irem, w_ineg, w_i2l, w_lshl, w_lor, w_lsub, w_lcmp, w_dupa, w_dupb, w_pop, w_dup2, w_ifCond, w_if_icmp, w_goto, w_tableswitch, w_getfield, w_putfielda, w_putfieldb, w_putfieldc, w_iaload, w_baload, w_laload, w_aaload, w_iastore, w_bastore, w_lastore, w_aastore, w_arraylength, w_ireturn, w_lreturn, w_return, w_newx, w_obj, w_cpy, w_max, w_min, w_slen, w_sat, w_nil, w_nx, w_jws, w_jw0, ↓reduceIte, w_my0, w_my1, w_my2, w_gv0, w_gvs, w_cati, w_catr, w_catj, w_inc1, w_afn, w_afi, w_afl, w_afx, w_asn, w_asi, w_asl, w_asx, w_a0, List.set_cons_zero, List.set_cons_succ, List.contains_cons, List.contains_nil, Nat.reduceBEq, Bool.or_false, Bool.false_or, Bool.or_true, Bool.true_or, Nat.reduceAdd, Nat.reduceSub, Nat.reduceMul, Nat.reduceDiv, Nat.reduceMod, Nat.reduceLT, Nat.reduceLeDiff, Nat.reduceEqDiff, Nat.zero_le, List.length_cons, List.length_nil, Int.reduceLE, Int.reduceToNat, Int.reduceAdd, Int.reduceLT, decide_true, am_cp, am_cq, m_kk, m_ii, m_rr, m_jj, m_si, m_sj, m_sc, Option.some.injEq, exists_eq_left', true_and, and_true, if_true, if_false, ite_true, ite_false, not_false_eq_true, true_or, or_true, false_or, or_false, reduceCtorEq, false_implies, true_implies, implies_true, eq_self, Bool.false_eq_true, Bool.true_eq_false, not_true_eq_false, s51_0, s51_15, s51_21, w_v66, cv_66, w_v94, cv_94, w_v62, cv_62, rt_51, hh_51, k_2, r_2_0, k_3, r_3_0, k_4]
    try simp (disch := omega) only [am_up_nc, am_up_eq, am_up_nk, nI_sub, w_dec, nI_pos9, nI_add, nI_mul, nI_ltI, nI_leI, nI_eq, nI_clamp, p_le, p_nle, p_lt, p_nlt, p_eq, p_ne, p_neq, p_neqf, p_lea, p_lta, p_nea, p_00, true_and, and_true, eq_self, not_true_eq_false, implies_true, true_implies, Nat.zero_add, Nat.not_lt_zero, false_implies, not_false_eq_true, Nat.reduceLeDiff, Nat.reduceLT, Nat.reduceEqDiff, Nat.reduceMul, Nat.reduceAdd, k_2, r_2_0, k_3, r_3_0, k_4]
    exact ⟨_, rfl, rfl, fT.fQ hf, hr, fun z hz => by cases hz⟩
  · rw [if_neg h6]
    refine am_run9 60 [] s51_0 ?_
    simp only [w_lx0, w_lx1, w_lx2, w_ic, w_ldc_w, w_iconst, w_lconst, w_ldc2_w, w_ldc, w_iload, w_aload, w_lload, w_istore, w_astore, w_lstore, w_iinc, w_iadd, w_isub, w_imul, w_iand, w_ior, w_ixor, w_ishl, w_ishr, w_iushr, w_idiv, w_irem, w_ineg, w_i2l, w_lshl, w_lor, w_lsub, w_lcmp, w_dupa, w_dupb, w_pop, w_dup2, w_ifCond, w_if_icmp, w_goto, w_tableswitch, w_getfield, w_putfielda, w_putfieldb, w_putfieldc, w_iaload, w_baload, w_laload, w_aaload, w_iastore, w_bastore, w_lastore, w_aastore, w_arraylength, w_ireturn, w_lreturn, w_return, w_newx, w_obj, w_cpy, w_max, w_min, w_slen, w_sat, w_nil, w_nx, w_jws, w_jw0, ↓reduceIte, w_my0, w_my1, w_my2, w_gv0, w_gvs, w_cati, w_catr, w_catj, w_inc1, w_afn, w_afi, w_afl, w_afx, w_asn, w_asi, w_asl, w_asx, w_a0, List.set_cons_zero, List.set_cons_succ, List.contains_cons, List.contains_nil, Nat.reduceBEq, Bool.or_false, Bool.false_or, Bool.or_true, Bool.true_or, Nat.reduceAdd, Nat.reduceSub, Nat.reduceMul, Nat.reduceDiv, Nat.reduceMod, Nat.reduceLT, Nat.reduceLeDiff, Nat.reduceEqDiff, Nat.zero_le, List.length_cons, List.length_nil, Int.reduceLE, Int.reduceToNat, Int.reduceAdd, Int.reduceLT, decide_true, am_cp, am_cq, m_kk, m_ii, m_rr, m_jj, m_si, m_sj, m_sc, Option.some.injEq, exists_eq_left', true_and, and_true, if_true, if_false, ite_true, ite_false, not_false_eq_true, true_or, or_true, false_or, or_false, reduceCtorEq, false_implies, true_implies, implies_true, eq_self, Bool.false_eq_true, Bool.true_eq_false, not_true_eq_false, s51_0, s51_15, s51_21, w_v66, cv_66, w_v94, cv_94, w_v62, cv_62, rt_51, hh_51, k_2, r_2_0, k_3, r_3_0, k_4, kT0 hT, kT1 hT, kT2 hT, kT3 hT, kT4 hT, kT5 hT, kT6 hT, kT7 hT, kT8 hT, kT9 hT, kT10 hT, kT11 hT, kT12 hT, kT13 hT, kT14 hT, kT15 hT, kT16 hT, kT17 hT, rT5 hT, rT6 hT, rT7 hT, rT8 hT, rT9 hT, rT10 hT, rT11 hT, rT12 hT, rT13 hT, rT14 hT, rT15 hT, rT16 hT, rT17 hT, rR0 hT, rR2 hT, rR3 hT, rR4 hT, g0]
    try simp (disch := omega) only [am_up_nc, am_up_eq, am_up_nk, nI_sub, w_dec, nI_pos9, nI_add, nI_mul, nI_ltI, nI_leI, nI_eq, nI_clamp, p_le, p_nle, p_lt, p_nlt, p_eq, p_ne, p_neq, p_neqf, p_lea, p_lta, p_nea, p_00, true_and, and_true, eq_self, not_true_eq_false, implies_true, true_implies, Nat.zero_add, Nat.not_lt_zero, false_implies, not_false_eq_true, Nat.reduceLeDiff, Nat.reduceLT, Nat.reduceEqDiff, Nat.reduceMul, Nat.reduceAdd, k_2, r_2_0, k_3, r_3_0, k_4, kT0 hT, kT1 hT, kT2 hT, kT3 hT, kT4 hT, kT5 hT, kT6 hT, kT7 hT, kT8 hT, kT9 hT, kT10 hT, kT11 hT, kT12 hT, kT13 hT, kT14 hT, kT15 hT, kT16 hT, kT17 hT, rT5 hT, rT6 hT, rT7 hT, rT8 hT, rT9 hT, rT10 hT, rT11 hT, rT12 hT, rT13 hT, rT14 hT, rT15 hT, rT16 hT, rT17 hT, rR0 hT, rR2 hT, rR3 hT, rR4 hT, g0]
    refine (c_94n ht h.2.2.1 h.2.2.2 (by omega)).mono ?_
    rintro _ _ ⟨F1, rfl, rfl, hf1, hr1⟩
    have hr1' : rdx F1 n B (.inr (nxp n B s)) := ⟨by rw [hf1.1 2 (by omega)]; exact h.1, by rw [hf1.1 2 (by omega)]; exact h.2.1, hr1, nxp_n h.2.2.2⟩
    have ht1 := ht.ff3 hf1
    simp only [w_lx0, w_lx1, w_lx2, w_ic, w_ldc_w, w_iconst, w_lconst, w_ldc2_w, w_ldc, w_iload, w_aload, w_lload, w_istore, w_astore, w_lstore, w_iinc, w_iadd, w_isub, w_imul, w_iand, w_ior, w_ixor, w_ishl, w_ishr, w_iushr, w_idiv, w_irem, w_ineg, w_i2l, w_lshl, w_lor, w_lsub, w_lcmp, w_dupa, w_dupb, w_pop, w_dup2, w_ifCond, w_if_icmp, w_goto, w_tableswitch, w_getfield, w_putfielda, w_putfieldb, w_putfieldc, w_iaload, w_baload, w_laload, w_aaload, w_iastore, w_bastore, w_lastore, w_aastore, w_arraylength, w_ireturn, w_lreturn, w_return, w_newx, w_obj, w_cpy, w_max, w_min, w_slen, w_sat, w_nil, w_nx, w_jws, w_jw0, ↓reduceIte, w_my0, w_my1, w_my2, w_gv0, w_gvs, w_cati, w_catr, w_catj, w_inc1, w_afn, w_afi, w_afl, w_afx, w_asn, w_asi, w_asl, w_asx, w_a0, List.set_cons_zero, List.set_cons_succ, List.contains_cons, List.contains_nil, Nat.reduceBEq, Bool.or_false, Bool.false_or, Bool.or_true, Bool.true_or, Nat.reduceAdd, Nat.reduceSub, Nat.reduceMul, Nat.reduceDiv, Nat.reduceMod, Nat.reduceLT, Nat.reduceLeDiff, Nat.reduceEqDiff, Nat.zero_le, List.length_cons, List.length_nil, Int.reduceLE, Int.reduceToNat, Int.reduceAdd, Int.reduceLT, decide_true, am_cp, am_cq, m_kk, m_ii, m_rr, m_jj, m_si, m_sj, m_sc, Option.some.injEq, exists_eq_left', true_and, and_true, if_true, if_false, ite_true, ite_false, not_false_eq_true, true_or, or_true, false_or, or_false, reduceCtorEq, false_implies, true_implies, implies_true, eq_self, Bool.false_eq_true, Bool.true_eq_false, not_true_eq_false, s51_0, s51_15, s51_21, w_v66, cv_66, w_v94, cv_94, w_v62, cv_62, rt_51, hh_51, k_2, r_2_0, k_3, r_3_0, k_4, kT0 hT, kT1 hT, kT2 hT, kT3 hT, kT4 hT, kT5 hT, kT6 hT, kT7 hT, kT8 hT, kT9 hT, kT10 hT, kT11 hT, kT12 hT, kT13 hT, kT14 hT, kT15 hT, kT16 hT, kT17 hT, rT5 hT, rT6 hT, rT7 hT, rT8 hT, rT9 hT, rT10 hT, rT11 hT, rT12 hT, rT13 hT, rT14 hT, rT15 hT, rT16 hT, rT17 hT, rR0 hT, rR2 hT, rR3 hT, rR4 hT]
    try simp (disch := omega) only [am_up_nc, am_up_eq, am_up_nk, nI_sub, w_dec, nI_pos9, nI_add, nI_mul, nI_ltI, nI_leI, nI_eq, nI_clamp, p_le, p_nle, p_lt, p_nlt, p_eq, p_ne, p_neq, p_neqf, p_lea, p_lta, p_nea, p_00, true_and, and_true, eq_self, not_true_eq_false, implies_true, true_implies, Nat.zero_add, Nat.not_lt_zero, false_implies, not_false_eq_true, Nat.reduceLeDiff, Nat.reduceLT, Nat.reduceEqDiff, Nat.reduceMul, Nat.reduceAdd, k_2, r_2_0, k_3, r_3_0, k_4, kT0 hT, kT1 hT, kT2 hT, kT3 hT, kT4 hT, kT5 hT, kT6 hT, kT7 hT, kT8 hT, kT9 hT, kT10 hT, kT11 hT, kT12 hT, kT13 hT, kT14 hT, kT15 hT, kT16 hT, kT17 hT, rT5 hT, rT6 hT, rT7 hT, rT8 hT, rT9 hT, rT10 hT, rT11 hT, rT12 hT, rT13 hT, rT14 hT, rT15 hT, rT16 hT, rT17 hT, rR0 hT, rR2 hT, rR3 hT, rR4 hT]
    refine (c_62 ht1 _ hr1' 0 9999 (by omega) (by omega) (by omega)).mono ?_
    rintro _ _ ⟨F2, rfl, rfl, hf2, hr2⟩
    rw [bd_r] at hr2 ⊢
    have ht2 := ht1.fQ hf2
    simp only [w_lx0, w_lx1, w_lx2, w_ic, w_ldc_w, w_iconst, w_lconst, w_ldc2_w, w_ldc, w_iload, w_aload, w_lload, w_istore, w_astore, w_lstore, w_iinc, w_iadd, w_isub, w_imul, w_iand, w_ior, w_ixor, w_ishl, w_ishr, w_iushr, w_idiv, w_irem, w_ineg, w_i2l, w_lshl, w_lor, w_lsub, w_lcmp, w_dupa, w_dupb, w_pop, w_dup2, w_ifCond, w_if_icmp, w_goto, w_tableswitch, w_getfield, w_putfielda, w_putfieldb, w_putfieldc, w_iaload, w_baload, w_laload, w_aaload, w_iastore, w_bastore, w_lastore, w_aastore, w_arraylength, w_ireturn, w_lreturn, w_return, w_newx, w_obj, w_cpy, w_max, w_min, w_slen, w_sat, w_nil, w_nx, w_jws, w_jw0, ↓reduceIte, w_my0, w_my1, w_my2, w_gv0, w_gvs, w_cati, w_catr, w_catj, w_inc1, w_afn, w_afi, w_afl, w_afx, w_asn, w_asi, w_asl, w_asx, w_a0, List.set_cons_zero, List.set_cons_succ, List.contains_cons, List.contains_nil, Nat.reduceBEq, Bool.or_false, Bool.false_or, Bool.or_true, Bool.true_or, Nat.reduceAdd, Nat.reduceSub, Nat.reduceMul, Nat.reduceDiv, Nat.reduceMod, Nat.reduceLT, Nat.reduceLeDiff, Nat.reduceEqDiff, Nat.zero_le, List.length_cons, List.length_nil, Int.reduceLE, Int.reduceToNat, Int.reduceAdd, Int.reduceLT, decide_true, am_cp, am_cq, m_kk, m_ii, m_rr, m_jj, m_si, m_sj, m_sc, Option.some.injEq, exists_eq_left', true_and, and_true, if_true, if_false, ite_true, ite_false, not_false_eq_true, true_or, or_true, false_or, or_false, reduceCtorEq, false_implies, true_implies, implies_true, eq_self, Bool.false_eq_true, Bool.true_eq_false, not_true_eq_false, s51_0, s51_15, s51_21, w_v66, cv_66, w_v94, cv_94, w_v62, cv_62, rt_51, hh_51, k_2, r_2_0, k_3, r_3_0, k_4, kT0 hT, kT1 hT, kT2 hT, kT3 hT, kT4 hT, kT5 hT, kT6 hT, kT7 hT, kT8 hT, kT9 hT, kT10 hT, kT11 hT, kT12 hT, kT13 hT, kT14 hT, kT15 hT, kT16 hT, kT17 hT, rT5 hT, rT6 hT, rT7 hT, rT8 hT, rT9 hT, rT10 hT, rT11 hT, rT12 hT, rT13 hT, rT14 hT, rT15 hT, rT16 hT, rT17 hT, rR0 hT, rR2 hT, rR3 hT, rR4 hT]
    try simp (disch := omega) only [am_up_nc, am_up_eq, am_up_nk, nI_sub, w_dec, nI_pos9, nI_add, nI_mul, nI_ltI, nI_leI, nI_eq, nI_clamp, p_le, p_nle, p_lt, p_nlt, p_eq, p_ne, p_neq, p_neqf, p_lea, p_lta, p_nea, p_00, true_and, and_true, eq_self, not_true_eq_false, implies_true, true_implies, Nat.zero_add, Nat.not_lt_zero, false_implies, not_false_eq_true, Nat.reduceLeDiff, Nat.reduceLT, Nat.reduceEqDiff, Nat.reduceMul, Nat.reduceAdd, k_2, r_2_0, k_3, r_3_0, k_4, kT0 hT, kT1 hT, kT2 hT, kT3 hT, kT4 hT, kT5 hT, kT6 hT, kT7 hT, kT8 hT, kT9 hT, kT10 hT, kT11 hT, kT12 hT, kT13 hT, kT14 hT, kT15 hT, kT16 hT, kT17 hT, rT5 hT, rT6 hT, rT7 hT, rT8 hT, rT9 hT, rT10 hT, rT11 hT, rT12 hT, rT13 hT, rT14 hT, rT15 hT, rT16 hT, rT17 hT, rR0 hT, rR2 hT, rR3 hT, rR4 hT]
    obtain ⟨F3, hF3⟩ : ∃ F3, F3 = am_up F2 (b + 1) np (vN (nmI n B 0 9999 (nxp n B s))) := ⟨_, rfl⟩
    rw [← hF3]
    have e3 : ∀ c, ¬ c = b + 1 → F3 c = F2 c := fun c hc => by rw [hF3, am_up_nc _ _ _ _ _ hc]
    have hr3 : rdx F3 n B (sn (nmI n B 0 9999 (nxp n B s))) := hr2.eqs (e3 _ (by omega)) (e3 _ (by omega))
    have ht3 : tx F3 n B := by unfold tx; rw [e3 4 (by omega)]; exact ht2
    refine (c_62 ht3 _ hr3 0 3 (by omega) (by omega) (by omega)).mono ?_
    rintro _ _ ⟨F4, rfl, rfl, hf4, hr4⟩
    have g4 : F4 b 0 = nI np := by rw [hf4.1 b (by omega), e3 b (by omega), hf2.1 b (by omega), hf1.1 b (by omega)]; exact g0
    simp only [w_lx0, w_lx1, w_lx2, w_ic, w_ldc_w, w_iconst, w_lconst, w_ldc2_w, w_ldc, w_iload, w_aload, w_lload, w_istore, w_astore, w_lstore, w_iinc, w_iadd, w_isub, w_imul, w_iand, w_ior, w_ixor, w_ishl, w_ishr, w_iushr, w_idiv, w_irem, w_ineg, w_i2l, w_lshl, w_lor, w_lsub, w_lcmp, w_dupa, w_dupb, w_pop, w_dup2, w_ifCond, w_if_icmp, w_goto, w_tableswitch, w_getfield, w_putfielda, w_putfieldb, w_putfieldc, w_iaload, w_baload, w_laload, w_aaload, w_iastore, w_bastore, w_lastore, w_aastore, w_arraylength, w_ireturn, w_lreturn, w_return, w_newx, w_obj, w_cpy, w_max, w_min, w_slen, w_sat, w_nil, w_nx, w_jws, w_jw0, ↓reduceIte, w_my0, w_my1, w_my2, w_gv0, w_gvs, w_cati, w_catr, w_catj, w_inc1, w_afn, w_afi, w_afl, w_afx, w_asn, w_asi, w_asl, w_asx, w_a0, List.set_cons_zero, List.set_cons_succ, List.contains_cons, List.contains_nil, Nat.reduceBEq, Bool.or_false, Bool.false_or, Bool.or_true, Bool.true_or, Nat.reduceAdd, Nat.reduceSub, Nat.reduceMul, Nat.reduceDiv, Nat.reduceMod, Nat.reduceLT, Nat.reduceLeDiff, Nat.reduceEqDiff, Nat.zero_le, List.length_cons, List.length_nil, Int.reduceLE, Int.reduceToNat, Int.reduceAdd, Int.reduceLT, decide_true, am_cp, am_cq, m_kk, m_ii, m_rr, m_jj, m_si, m_sj, m_sc, Option.some.injEq, exists_eq_left', true_and, and_true, if_true, if_false, ite_true, ite_false, not_false_eq_true, true_or, or_true, false_or, or_false, reduceCtorEq, false_implies, true_implies, implies_true, eq_self, Bool.false_eq_true, Bool.true_eq_false, not_true_eq_false, s51_0, s51_15, s51_21, w_v66, cv_66, w_v94, cv_94, w_v62, cv_62, rt_51, hh_51, k_2, r_2_0, k_3, r_3_0, k_4, kT0 hT, kT1 hT, kT2 hT, kT3 hT, kT4 hT, kT5 hT, kT6 hT, kT7 hT, kT8 hT, kT9 hT, kT10 hT, kT11 hT, kT12 hT, kT13 hT, kT14 hT, kT15 hT, kT16 hT, kT17 hT, rT5 hT, rT6 hT, rT7 hT, rT8 hT, rT9 hT, rT10 hT, rT11 hT, rT12 hT, rT13 hT, rT14 hT, rT15 hT, rT16 hT, rT17 hT, rR0 hT, rR2 hT, rR3 hT, rR4 hT, g4]
    try simp (disch := omega) only [am_up_nc, am_up_eq, am_up_nk, nI_sub, w_dec, nI_pos9, nI_add, nI_mul, nI_ltI, nI_leI, nI_eq, nI_clamp, p_le, p_nle, p_lt, p_nlt, p_eq, p_ne, p_neq, p_neqf, p_lea, p_lta, p_nea, p_00, true_and, and_true, eq_self, not_true_eq_false, implies_true, true_implies, Nat.zero_add, Nat.not_lt_zero, false_implies, not_false_eq_true, Nat.reduceLeDiff, Nat.reduceLT, Nat.reduceEqDiff, Nat.reduceMul, Nat.reduceAdd, k_2, r_2_0, k_3, r_3_0, k_4, kT0 hT, kT1 hT, kT2 hT, kT3 hT, kT4 hT, kT5 hT, kT6 hT, kT7 hT, kT8 hT, kT9 hT, kT10 hT, kT11 hT, kT12 hT, kT13 hT, kT14 hT, kT15 hT, kT16 hT, kT17 hT, rT5 hT, rT6 hT, rT7 hT, rT8 hT, rT9 hT, rT10 hT, rT11 hT, rT12 hT, rT13 hT, rT14 hT, rT15 hT, rT16 hT, rT17 hT, rR0 hT, rR2 hT, rR3 hT, rR4 hT, g4]
    obtain ⟨F5, hF5⟩ : ∃ F5, F5 = am_up (am_up F4 (b + 2) np (vN (bd (sn (nmI n B 0 9999 (nxp n B s))) (nmI n B 0 3)))) b 0 (nI (np + 1)) := ⟨_, rfl⟩
    rw [← hF5]
    have e5 : ∀ c, ¬ c = b + 2 → ¬ c = b → F5 c = F4 c := fun c q1 q2 => by rw [hF5, am_up_nc _ _ _ _ _ q2, am_up_nc _ _ _ _ _ q1]
    have e5b : ∀ j, ¬ j = 0 → F5 b j = F4 b j := fun j hj => by rw [hF5, am_up_nk _ _ _ _ _ hj, am_up_nc _ _ _ _ _ (by omega)]
    have eF : ∀ c, ¬ c = 2 → ¬ c = 3 → ¬ c = b + 1 → F4 c = F c := fun c q1 q2 q3 => by rw [hf4.1 c (by omega), e3 c q3, hf2.1 c (by omega), hf1.1 c q2]
    have eF1 : ∀ j, ¬ j = np → F4 (b + 1) j = F (b + 1) j := fun j q => by rw [hf4.1 _ (by omega), hF3, am_up_nk _ _ _ _ _ q, hf2.1 _ (by omega), hf1.1 _ (by omega)]
    have v1 : F4 (b + 1) np = vN (nmI n B 0 9999 (nxp n B s)) := by rw [hf4.1 _ (by omega), hF3, am_up_eq]
    have v2 : F5 (b + 2) np = vN (bd (sn (nmI n B 0 9999 (nxp n B s))) (nmI n B 0 3)) := by rw [hF5, am_up_nc _ _ _ _ _ (by omega), am_up_eq]
    have e52 : ∀ j, ¬ j = np → F5 (b + 2) j = F4 (b + 2) j := fun j q => by rw [hF5, am_up_nc _ _ _ _ _ (by omega), am_up_nk _ _ _ _ _ q]
    have e50 : F5 b 0 = nI (np + 1) := by rw [hF5, am_up_eq]
    have hr5 := hr4.eqs (F' := F5) (e5 2 (by omega) (by omega)) (e5 3 (by omega) (by omega))
    refine ⟨F5, rfl, rfl, ⟨fun c hc => ?_, ?_⟩, ?_, fun z hz => ?_⟩
    · rw [e5 c (by omega) (by omega), eF c (by omega) (by omega) (by omega)]
    · rw [e5 3 (by omega) (by omega), hf4.2.1, e3 3 (by omega), hf2.2.1, hf1.2]
    · unfold peI
      cases hy1 : nmI n B 0 9999 (nxp n B s) with
      | inl y => rw [hy1] at hr5; exact hr5
      | inr y =>
        rw [hy1] at hr5
        rw [bd_r]
        have hr5 : rdx F5 n B (sn (nmI n B 0 3 y.2)) := hr5
        cases hy2 : nmI n B 0 3 y.2 with
        | inl w => rw [hy2] at hr5; exact hr5
        | inr w => rw [hy2] at hr5; exact hr5
    · obtain ⟨x, h1, h2⟩ := bd_inv hz
      unfold peI at h1
      obtain ⟨y1, h3, h4⟩ := bd_inv h1
      obtain ⟨y2, h5, h7⟩ := bd_inv h4
      cases h7
      cases h2
      rw [h3] at v1 v2
      have v2 : F5 (b + 2) np = vN (nmI n B 0 3 y1.2) := v2
      rw [h5] at v2
      refine dq_P hq e50 (fun j hj => by rw [e5b j hj, eF b (by omega) (by omega) (by omega)]) ?_ v2 (fun j hj => ?_) (fun j hj => ?_) (fun r q0 q1 q2 => ?_)
      · rw [e5 _ (by omega) (by omega)]; exact v1
      · rw [e5 _ (by omega) (by omega)]; exact eF1 j hj
      · rw [e52 j hj, eF _ (by omega) (by omega) (by omega)]
      · rw [e5 _ (by omega) (by omega), eF _ (by omega) (by omega) (by omega)]
end FH
